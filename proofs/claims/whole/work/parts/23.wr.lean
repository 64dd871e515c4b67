def kkm (a1 a2 a3 : Int32) (c : Nat) : Int32 := match c with
  | 0 => 0
  | 1 => a1
  | 2 => a2
  | _ => a3
theorem cw_pass : Cond.codeWith yL_pass cL_pass 4 (Option.some Jvm.ClassFile.FieldType.int) [(0, 9, 12, 13), (0, 9, 15, 15)] ∈ BIG := BIG_t 82 (by decide +kernel) (by decide +kernel)
theorem kW_pass : GoodIn BIG (va_wsS RL 98 yL_pass (WSh yL_pass cL_pass 4 (Option.some Jvm.ClassFile.FieldType.int) [(0, 9, 12, 13), (0, 9, 15, 15)])) := gSh (BIG_t 80 (by decide +kernel) (by decide +kernel)) (BIG_t 81 (by decide +kernel) (by decide +kernel)) wI_L cw_pass
theorem hdW_pass : yL_pass.cls ≠ "java/lang/invoke/MethodHandle" ∧ yL_pass.cls ≠ "java/lang/invoke/VarHandle" ∧ (parseMethodDescriptor yL_pass.desc).map (fun d => d.parameters.length) = some 3 := by decide +kernel
theorem kr_pass (G : GS) (x1 : Int32) : K_pass G x1 = 0 ∨ K_pass G x1 = 1 ∨ K_pass G x1 = 2 := by
  unfold K_pass x_X6_pass
  (repeat' split) <;> decide
theorem hk_pass (G : GS) (x1 : Int32) (h : K_pass G x1 ≠ 0) : H_pass G x1 = G := by
  unfold K_pass x_X6_pass at h
  unfold H_pass g_X6_pass
  (repeat' split) <;> first | rfl | simp_all
set_option maxHeartbeats 4000000 in
set_option maxRecDepth 100000 in
theorem c_L_pass (l : Launch) (D : va_G) (cy : Nat → ClassId) (A : Nat → Prop) (X : MU) (AD : AM) (G : GS) (hM : RepC cy AD G X) (hI : InvC G) {o : Nat} (f : Nat → Int64) (hd : dis X (oneO cy o f)) (x1 : Int32) (hlf : l.stackTraces = false) : Met l yL_pass (WSh yL_pass cL_pass 4 (Option.some Jvm.ClassFile.FieldType.int) [(0, 9, 12, 13), (0, 9, 15, 15)]) { frames := 7, cells := 1, slots := 6, locals := 121 } (va_Pc [.ref (AD 0 0 0), .int x1, .ref o] (Wd D cy A (un X (oneO cy o f)))) (va_Qi (fun (k9 : Int32) (μ1 : MU) => k9 = kkm 1 2 0 (K_pass G x1) ∧ PW cy o AD (H_pass G x1) (K_pass G x1 = 0) (F_pass G x1).toInt64 μ1) (fun μ1 t => Wd D cy A μ1 t) A) 1 6 A := by
  refine q_metW (by decide) (Nat.le_of_ble_eq_true rfl) ?_
  intro p e s m below meth c F w hr hlk ht ls hl
  have F : CallFix p m c cL_pass 4 s _ BIG RL := F
  have hl : lv_has ls 4 [(0, .ref (AD 0 0 0)), (1, .int x1), (2, .ref o)] := hl
  refine lv_aload_n F.1 F.2.1 dL_pass_0 rfl (lv_at hl 2 rfl) ?_
  refine lv_iconst (v := 0) F.1 F.2.1 dL_pass_1 (by decide) ?_
  refine lv_aload_n F.1 F.2.1 dL_pass_2 rfl (lv_at hl 0 rfl) ?_
  refine lv_iload_n F.1 F.2.1 dL_pass_3 rfl (lv_at hl 1 rfl) ?_
  refine q_uVx (rest := [.int 0, .ref o]) F w hd kV_L_7 hd_X6_pass (ci := 7) rfl (t_X6_pass l D cy _ _ AD G hM hI x1 hlf) (hM.a0 ⟨by decide, rfl, rfl⟩) dL_pass_4 rfl rfl hl.1 ⟨rfl, rfl, (Nat.le_of_ble_eq_true rfl), (Nat.le_of_ble_eq_true rfl)⟩ (Nat.le_of_ble_eq_true rfl) ⟨(Nat.le_of_ble_eq_true rfl), (Nat.le_of_ble_eq_true rfl)⟩ (fun E ce q9 H locs hE hne w hce hcv hcl => ?_) (fun v9 X1 H locs hp hd w => ?_)
  · rcases kr_pass G x1 with hc | hc | hc
    · exact absurd (by rw [hc]; rfl) hne
    · have hE2 : E = "java/lang/IllegalArgumentException" := by rw [hE, hc]; rfl
      subst hE2
      have hH := hk_pass G x1 (by rw [hc]; decide)
      refine vx_catch (own := RL) (name := "java/lang/IllegalArgumentException") F.2.2.2.1 [] ⟨0, 9, 12, 13⟩ [⟨0, 9, 15, 15⟩] (ht.trans rfl) (fun z hz => nomatch hz) (by decide) (by decide) (F.2.2.2.2 _ wL_L_13) (va_Nw.use rfl (w.2.2.2.2.2.2.2.1 ("java/lang/IllegalArgumentException", "java/lang/IllegalArgumentException") (by decide +kernel))) hce hcv hcl ?_
      refine lv_astore_n (lv' := [(3, .ref q9), (0, .ref (AD 0 0 0)), (1, .int x1), (2, .ref o)]) F.1 F.2.1 dL_pass_12 rfl hl (by decide) rfl (fun ls hl => ?_)
      refine lv_iconst (v := 1) F.1 F.2.1 dL_pass_13 (by decide) ?_
      refine W.widen (k := 1) (n := 6) (Nat.le_of_ble_eq_true rfl) (Nat.le_of_ble_eq_true rfl) ?_
      exact q_retI (S := Unit) F hr hlk w ⟨by rw [hc]; rfl, X, AD, f, rfl, hd, rfl, by rw [hH]; exact hM, fun z => absurd (hc.symm.trans z) (by decide)⟩ dL_pass_14
    · have hE2 : E = "java/lang/IllegalStateException" := by rw [hE, hc]; rfl
      subst hE2
      have hH := hk_pass G x1 (by rw [hc]; decide)
      refine vx_catch (own := RL) (name := "java/lang/IllegalStateException") F.2.2.2.1 [⟨0, 9, 12, 13⟩] ⟨0, 9, 15, 15⟩ [] (ht.trans rfl) (fun z hz => by obtain rfl := List.mem_singleton.mp hz; exact Or.inr ⟨by decide, "java/lang/IllegalArgumentException", F.2.2.2.2 _ wL_L_13, w.2.2.2.2.2.2.2.2.1 ("java/lang/IllegalStateException", "java/lang/IllegalArgumentException") (by decide +kernel)⟩) (by decide) (by decide) (F.2.2.2.2 _ wL_L_15) (va_Nw.use rfl (w.2.2.2.2.2.2.2.1 ("java/lang/IllegalStateException", "java/lang/IllegalStateException") (by decide +kernel))) hce hcv hcl ?_
      refine lv_astore_n (lv' := [(3, .ref q9), (0, .ref (AD 0 0 0)), (1, .int x1), (2, .ref o)]) F.1 F.2.1 dL_pass_15 rfl hl (by decide) rfl (fun ls hl => ?_)
      refine lv_iconst (v := 2) F.1 F.2.1 dL_pass_16 (by decide) ?_
      refine W.widen (k := 1) (n := 6) (Nat.le_of_ble_eq_true rfl) (Nat.le_of_ble_eq_true rfl) ?_
      exact q_retI (S := Unit) F hr hlk w ⟨by rw [hc]; rfl, X, AD, f, rfl, hd, rfl, by rw [hH]; exact hM, fun z => absurd (hc.symm.trans z) (by decide)⟩ dL_pass_17
  · obtain ⟨hx0, hv, AD1, hA, hM1⟩ := hp
    refine lv_i2l F.1 F.2.1 dL_pass_7 rfl ?_
    refine q_lsto F w hd dL_pass_8 (fun f1 H locs hf1 hd w => ?_)
    refine lv_goto (tgt := 18) F.1 F.2.1 dL_pass_9 (by decide) ?_
    refine lv_iconst (v := 0) F.1 F.2.1 dL_pass_18 (by decide) ?_
    refine W.widen (k := 1) (n := 6) (Nat.le_of_ble_eq_true rfl) (Nat.le_of_ble_eq_true rfl) ?_
    exact q_retI (S := Unit) F hr hlk w ⟨by rw [hx0]; rfl, X1, AD1, f1, rfl, hd, hA, hM1, fun z => by rw [hf1, hv]⟩ dL_pass_19
theorem cw_ship : Cond.codeWith yL_ship cL_ship 8 (Option.some Jvm.ClassFile.FieldType.int) [(0, 16, 19, 21), (0, 16, 23, 13), (0, 16, 27, 15)] ∈ BIG := BIG_t 175 (by decide +kernel) (by decide +kernel)
theorem kW_ship : GoodIn BIG (va_wsS RL 108 yL_ship (WSh yL_ship cL_ship 8 (Option.some Jvm.ClassFile.FieldType.int) [(0, 16, 19, 21), (0, 16, 23, 13), (0, 16, 27, 15)])) := gSh (BIG_t 173 (by decide +kernel) (by decide +kernel)) (BIG_t 174 (by decide +kernel) (by decide +kernel)) wI_L cw_ship
theorem hdW_ship : yL_ship.cls ≠ "java/lang/invoke/MethodHandle" ∧ yL_ship.cls ≠ "java/lang/invoke/VarHandle" ∧ (parseMethodDescriptor yL_ship.desc).map (fun d => d.parameters.length) = some 7 := by decide +kernel
theorem kr_ship (G : GS) (x1 x2 x3 x4 x5 : Int32) : K_ship G x1 x2 x3 x4 x5 = 0 ∨ K_ship G x1 x2 x3 x4 x5 = 1 ∨ K_ship G x1 x2 x3 x4 x5 = 2 ∨ K_ship G x1 x2 x3 x4 x5 = 3 := by
  unfold K_ship x_X6_ship
  (repeat' split) <;> decide
theorem hk_ship (G : GS) (x1 x2 x3 x4 x5 : Int32) (h : K_ship G x1 x2 x3 x4 x5 ≠ 0) : H_ship G x1 x2 x3 x4 x5 = G := by
  unfold K_ship x_X6_ship at h
  unfold H_ship g_X6_ship
  (repeat' split) <;> first | rfl | simp_all
set_option maxHeartbeats 4000000 in
set_option maxRecDepth 100000 in
theorem c_L_ship (l : Launch) (D : va_G) (cy : Nat → ClassId) (A : Nat → Prop) (X : MU) (AD : AM) (G : GS) (hM : RepC cy AD G X) (hI : InvC G) {o : Nat} (f : Nat → Int64) (hd : dis X (oneO cy o f)) (x1 x2 x3 x4 x5 : Int32) (hlf : l.stackTraces = false) : Met l yL_ship (WSh yL_ship cL_ship 8 (Option.some Jvm.ClassFile.FieldType.int) [(0, 16, 19, 21), (0, 16, 23, 13), (0, 16, 27, 15)]) { frames := 9, cells := 8, slots := 3033, locals := 251 } (va_Pc [.ref (AD 0 0 0), .int x1, .int x2, .int x3, .int x4, .int x5, .ref o] (Wd D cy A (un X (oneO cy o f)))) (va_Qi (fun (k9 : Int32) (μ1 : MU) => k9 = kkm 2 3 1 (K_ship G x1 x2 x3 x4 x5) ∧ PW cy o AD (H_ship G x1 x2 x3 x4 x5) (K_ship G x1 x2 x3 x4 x5 = 0) (F_ship G x1 x2 x3 x4 x5).toInt64 μ1) (fun μ1 t => Wd D cy A μ1 t) A) 8 3033 A := by
  refine q_metW (by decide) (Nat.le_of_ble_eq_true rfl) ?_
  intro p e s m below meth c F w hr hlk ht ls hl
  have F : CallFix p m c cL_ship 8 s _ BIG RL := F
  have hl : lv_has ls 8 [(0, .ref (AD 0 0 0)), (1, .int x1), (2, .int x2), (3, .int x3), (4, .int x4), (5, .int x5), (6, .ref o)] := hl
  refine lv_aload F.1 F.2.1 dL_ship_0 (lv_at hl 6 rfl) ?_
  refine lv_iconst (v := 0) F.1 F.2.1 dL_ship_2 (by decide) ?_
  refine lv_aload_n F.1 F.2.1 dL_ship_3 rfl (lv_at hl 0 rfl) ?_
  refine lv_iload_n F.1 F.2.1 dL_ship_4 rfl (lv_at hl 1 rfl) ?_
  refine lv_iload_n F.1 F.2.1 dL_ship_5 rfl (lv_at hl 2 rfl) ?_
  refine lv_iload_n F.1 F.2.1 dL_ship_6 rfl (lv_at hl 3 rfl) ?_
  refine lv_iload F.1 F.2.1 dL_ship_7 (lv_at hl 4 rfl) ?_
  refine lv_iload F.1 F.2.1 dL_ship_9 (lv_at hl 5 rfl) ?_
  refine q_uVx (rest := [.int 0, .ref o]) F w hd kV_L_17 hd_X6_ship (ci := 7) rfl (t_X6_ship l D cy _ _ AD G hM hI x1 x2 x3 x4 x5 hlf) (hM.a0 ⟨by decide, rfl, rfl⟩) dL_ship_11 rfl rfl hl.1 ⟨rfl, rfl, (Nat.le_of_ble_eq_true rfl), (Nat.le_of_ble_eq_true rfl)⟩ (Nat.le_of_ble_eq_true rfl) ⟨(Nat.le_of_ble_eq_true rfl), (Nat.le_of_ble_eq_true rfl)⟩ (fun E ce q9 H locs hE hne w hce hcv hcl => ?_) (fun v9 X1 H locs hp hd w => ?_)
  · rcases kr_ship G x1 x2 x3 x4 x5 with hc | hc | hc | hc
    · exact absurd (by rw [hc]; rfl) hne
    · have hE2 : E = "java/lang/IllegalArgumentException" := by rw [hE, hc]; rfl
      subst hE2
      have hH := hk_ship G x1 x2 x3 x4 x5 (by rw [hc]; decide)
      refine vx_catch (own := RL) (name := "java/lang/IllegalArgumentException") F.2.2.2.1 [⟨0, 16, 19, 21⟩] ⟨0, 16, 23, 13⟩ [⟨0, 16, 27, 15⟩] (ht.trans rfl) (fun z hz => by obtain rfl := List.mem_singleton.mp hz; exact Or.inr ⟨by decide, "java/lang/IndexOutOfBoundsException", F.2.2.2.2 _ wL_L_21, w.2.2.2.2.2.2.2.2.1 ("java/lang/IllegalArgumentException", "java/lang/IndexOutOfBoundsException") (by decide +kernel)⟩) (by decide) (by decide) (F.2.2.2.2 _ wL_L_13) (va_Nw.use rfl (w.2.2.2.2.2.2.2.1 ("java/lang/IllegalArgumentException", "java/lang/IllegalArgumentException") (by decide +kernel))) hce hcv hcl ?_
      refine lv_astore (lv' := [(7, .ref q9), (0, .ref (AD 0 0 0)), (1, .int x1), (2, .int x2), (3, .int x3), (4, .int x4), (5, .int x5), (6, .ref o)]) F.1 F.2.1 dL_ship_23 hl (by decide) rfl (fun ls hl => ?_)
      refine lv_iconst (v := 2) F.1 F.2.1 dL_ship_25 (by decide) ?_
      refine W.widen (k := 8) (n := 3033) (Nat.le_of_ble_eq_true rfl) (Nat.le_of_ble_eq_true rfl) ?_
      exact q_retI (S := Unit) F hr hlk w ⟨by rw [hc]; rfl, X, AD, f, rfl, hd, rfl, by rw [hH]; exact hM, fun z => absurd (hc.symm.trans z) (by decide)⟩ dL_ship_26
    · have hE2 : E = "java/lang/IllegalStateException" := by rw [hE, hc]; rfl
      subst hE2
      have hH := hk_ship G x1 x2 x3 x4 x5 (by rw [hc]; decide)
      refine vx_catch (own := RL) (name := "java/lang/IllegalStateException") F.2.2.2.1 [⟨0, 16, 19, 21⟩, ⟨0, 16, 23, 13⟩] ⟨0, 16, 27, 15⟩ [] (ht.trans rfl) (fun z hz => (List.mem_cons.mp hz).elim (fun e9 => by subst e9; exact Or.inr ⟨by decide, "java/lang/IndexOutOfBoundsException", F.2.2.2.2 _ wL_L_21, w.2.2.2.2.2.2.2.2.1 ("java/lang/IllegalStateException", "java/lang/IndexOutOfBoundsException") (by decide +kernel)⟩) (fun hz => by obtain rfl := List.mem_singleton.mp hz; exact Or.inr ⟨by decide, "java/lang/IllegalArgumentException", F.2.2.2.2 _ wL_L_13, w.2.2.2.2.2.2.2.2.1 ("java/lang/IllegalStateException", "java/lang/IllegalArgumentException") (by decide +kernel)⟩)) (by decide) (by decide) (F.2.2.2.2 _ wL_L_15) (va_Nw.use rfl (w.2.2.2.2.2.2.2.1 ("java/lang/IllegalStateException", "java/lang/IllegalStateException") (by decide +kernel))) hce hcv hcl ?_
      refine lv_astore (lv' := [(7, .ref q9), (0, .ref (AD 0 0 0)), (1, .int x1), (2, .int x2), (3, .int x3), (4, .int x4), (5, .int x5), (6, .ref o)]) F.1 F.2.1 dL_ship_27 hl (by decide) rfl (fun ls hl => ?_)
      refine lv_iconst (v := 3) F.1 F.2.1 dL_ship_29 (by decide) ?_
      refine W.widen (k := 8) (n := 3033) (Nat.le_of_ble_eq_true rfl) (Nat.le_of_ble_eq_true rfl) ?_
      exact q_retI (S := Unit) F hr hlk w ⟨by rw [hc]; rfl, X, AD, f, rfl, hd, rfl, by rw [hH]; exact hM, fun z => absurd (hc.symm.trans z) (by decide)⟩ dL_ship_30
    · have hE2 : E = "java/lang/IndexOutOfBoundsException" := by rw [hE, hc]; rfl
      subst hE2
      have hH := hk_ship G x1 x2 x3 x4 x5 (by rw [hc]; decide)
      refine vx_catch (own := RL) (name := "java/lang/IndexOutOfBoundsException") F.2.2.2.1 [] ⟨0, 16, 19, 21⟩ [⟨0, 16, 23, 13⟩, ⟨0, 16, 27, 15⟩] (ht.trans rfl) (fun z hz => nomatch hz) (by decide) (by decide) (F.2.2.2.2 _ wL_L_21) (va_Nw.use rfl (w.2.2.2.2.2.2.2.1 ("java/lang/IndexOutOfBoundsException", "java/lang/IndexOutOfBoundsException") (by decide +kernel))) hce hcv hcl ?_
      refine lv_astore (lv' := [(7, .ref q9), (0, .ref (AD 0 0 0)), (1, .int x1), (2, .int x2), (3, .int x3), (4, .int x4), (5, .int x5), (6, .ref o)]) F.1 F.2.1 dL_ship_19 hl (by decide) rfl (fun ls hl => ?_)
      refine lv_iconst (v := 1) F.1 F.2.1 dL_ship_21 (by decide) ?_
      refine W.widen (k := 8) (n := 3033) (Nat.le_of_ble_eq_true rfl) (Nat.le_of_ble_eq_true rfl) ?_
      exact q_retI (S := Unit) F hr hlk w ⟨by rw [hc]; rfl, X, AD, f, rfl, hd, rfl, by rw [hH]; exact hM, fun z => absurd (hc.symm.trans z) (by decide)⟩ dL_ship_22
  · obtain ⟨hx0, hv, AD1, hA, hM1⟩ := hp
    refine lv_i2l F.1 F.2.1 dL_ship_14 rfl ?_
    refine q_lsto F w hd dL_ship_15 (fun f1 H locs hf1 hd w => ?_)
    refine lv_goto (tgt := 31) F.1 F.2.1 dL_ship_16 (by decide) ?_
    refine lv_iconst (v := 0) F.1 F.2.1 dL_ship_31 (by decide) ?_
    refine W.widen (k := 8) (n := 3033) (Nat.le_of_ble_eq_true rfl) (Nat.le_of_ble_eq_true rfl) ?_
    exact q_retI (S := Unit) F hr hlk w ⟨by rw [hx0]; rfl, X1, AD1, f1, rfl, hd, hA, hM1, fun z => by rw [hf1, hv]⟩ dL_ship_32
theorem cw_changes : Cond.codeWith yL_changes cL_changes 6 (Option.some Jvm.ClassFile.FieldType.int) [(0, 12, 15, 21)] ∈ BIG := BIG_t 373 (by decide +kernel) (by decide +kernel)
theorem kW_changes : GoodIn BIG (va_wsS RL 112 yL_changes (WSh yL_changes cL_changes 6 (Option.some Jvm.ClassFile.FieldType.int) [(0, 12, 15, 21)])) := gSh (BIG_t 371 (by decide +kernel) (by decide +kernel)) (BIG_t 372 (by decide +kernel) (by decide +kernel)) wI_L cw_changes
theorem hdW_changes : yL_changes.cls ≠ "java/lang/invoke/MethodHandle" ∧ yL_changes.cls ≠ "java/lang/invoke/VarHandle" ∧ (parseMethodDescriptor yL_changes.desc).map (fun d => d.parameters.length) = some 5 := by decide +kernel
theorem kr_changes (G : GS) (x1 x2 x3 : Int32) : K_changes G x1 x2 x3 = 0 ∨ K_changes G x1 x2 x3 = 3 := by
  unfold K_changes x_X6_changes
  (repeat' split) <;> decide
theorem hk_changes (G : GS) (x1 x2 x3 : Int32) (h : K_changes G x1 x2 x3 ≠ 0) : H_changes G x1 x2 x3 = G := by
  unfold K_changes x_X6_changes at h
  unfold H_changes g_X6_changes
  (repeat' split) <;> first | rfl | simp_all
set_option maxHeartbeats 4000000 in
set_option maxRecDepth 100000 in
theorem c_L_changes (l : Launch) (D : va_G) (cy : Nat → ClassId) (A : Nat → Prop) (X : MU) (AD : AM) (G : GS) (hM : RepC cy AD G X) (hI : InvC G) {o : Nat} (f : Nat → Int64) (hd : dis X (oneO cy o f)) (x1 x2 x3 : Int32) (hn : ∀ s, s < gnS G → gnN G s < 514) (hlf : l.stackTraces = false) : Met l yL_changes (WSh yL_changes cL_changes 6 (Option.some Jvm.ClassFile.FieldType.int) [(0, 12, 15, 21)]) { frames := 9, cells := 2, slots := 1004, locals := 249 } (va_Pc [.ref (AD 0 0 0), .int x1, .int x2, .int x3, .ref o] (Wd D cy A (un X (oneO cy o f)))) (va_Qi (fun (k9 : Int32) (μ1 : MU) => k9 = kkm 0 0 1 (K_changes G x1 x2 x3) ∧ PW cy o AD (H_changes G x1 x2 x3) (K_changes G x1 x2 x3 = 0) (F_changes G x1 x2 x3).toInt64 μ1) (fun μ1 t => Wd D cy A μ1 t) A) 2 1004 A := by
  refine q_metW (by decide) (Nat.le_of_ble_eq_true rfl) ?_
  intro p e s m below meth c F w hr hlk ht ls hl
  have F : CallFix p m c cL_changes 6 s _ BIG RL := F
  have hl : lv_has ls 6 [(0, .ref (AD 0 0 0)), (1, .int x1), (2, .int x2), (3, .int x3), (4, .ref o)] := hl
  refine lv_aload F.1 F.2.1 dL_changes_0 (lv_at hl 4 rfl) ?_
  refine lv_iconst (v := 0) F.1 F.2.1 dL_changes_2 (by decide) ?_
  refine lv_aload_n F.1 F.2.1 dL_changes_3 rfl (lv_at hl 0 rfl) ?_
  refine lv_iload_n F.1 F.2.1 dL_changes_4 rfl (lv_at hl 1 rfl) ?_
  refine lv_iload_n F.1 F.2.1 dL_changes_5 rfl (lv_at hl 2 rfl) ?_
  refine lv_iload_n F.1 F.2.1 dL_changes_6 rfl (lv_at hl 3 rfl) ?_
  refine q_uVx (rest := [.int 0, .ref o]) F w hd kV_L_23 hd_X6_changes (ci := 7) rfl (t_X6_changes l D cy _ _ AD G hM hI x1 x2 x3 hn hlf) (hM.a0 ⟨by decide, rfl, rfl⟩) dL_changes_7 rfl rfl hl.1 ⟨rfl, rfl, (Nat.le_of_ble_eq_true rfl), (Nat.le_of_ble_eq_true rfl)⟩ (Nat.le_of_ble_eq_true rfl) ⟨(Nat.le_of_ble_eq_true rfl), (Nat.le_of_ble_eq_true rfl)⟩ (fun E ce q9 H locs hE hne w hce hcv hcl => ?_) (fun v9 X1 H locs hp hd w => ?_)
  · rcases kr_changes G x1 x2 x3 with hc | hc
    · exact absurd (by rw [hc]; rfl) hne
    · have hE2 : E = "java/lang/IndexOutOfBoundsException" := by rw [hE, hc]; rfl
      subst hE2
      have hH := hk_changes G x1 x2 x3 (by rw [hc]; decide)
      refine vx_catch (own := RL) (name := "java/lang/IndexOutOfBoundsException") F.2.2.2.1 [] ⟨0, 12, 15, 21⟩ [] (ht.trans rfl) (fun z hz => nomatch hz) (by decide) (by decide) (F.2.2.2.2 _ wL_L_21) (va_Nw.use rfl (w.2.2.2.2.2.2.2.1 ("java/lang/IndexOutOfBoundsException", "java/lang/IndexOutOfBoundsException") (by decide +kernel))) hce hcv hcl ?_
      refine lv_astore (lv' := [(5, .ref q9), (0, .ref (AD 0 0 0)), (1, .int x1), (2, .int x2), (3, .int x3), (4, .ref o)]) F.1 F.2.1 dL_changes_15 hl (by decide) rfl (fun ls hl => ?_)
      refine lv_iconst (v := 1) F.1 F.2.1 dL_changes_17 (by decide) ?_
      refine W.widen (k := 2) (n := 1004) (Nat.le_of_ble_eq_true rfl) (Nat.le_of_ble_eq_true rfl) ?_
      exact q_retI (S := Unit) F hr hlk w ⟨by rw [hc]; rfl, X, AD, f, rfl, hd, rfl, by rw [hH]; exact hM, fun z => absurd (hc.symm.trans z) (by decide)⟩ dL_changes_18
  · obtain ⟨hx0, hv, AD1, hA, hM1⟩ := hp
    refine lv_i2l F.1 F.2.1 dL_changes_10 rfl ?_
    refine q_lsto F w hd dL_changes_11 (fun f1 H locs hf1 hd w => ?_)
    refine lv_goto (tgt := 19) F.1 F.2.1 dL_changes_12 (by decide) ?_
    refine lv_iconst (v := 0) F.1 F.2.1 dL_changes_19 (by decide) ?_
    refine W.widen (k := 2) (n := 1004) (Nat.le_of_ble_eq_true rfl) (Nat.le_of_ble_eq_true rfl) ?_
    exact q_retI (S := Unit) F hr hlk w ⟨by rw [hx0]; rfl, X1, AD1, f1, rfl, hd, hA, hM1, fun z => by rw [hf1, hv]⟩ dL_changes_20
theorem cw_suspend : Cond.codeWith yL_suspend cL_suspend 5 (Option.some Jvm.ClassFile.FieldType.int) [(0, 17, 20, 21)] ∈ BIG := BIG_t 399 (by decide +kernel) (by decide +kernel)
theorem kW_suspend : GoodIn BIG (va_wsS RL 116 yL_suspend (WSh yL_suspend cL_suspend 5 (Option.some Jvm.ClassFile.FieldType.int) [(0, 17, 20, 21)])) := gSh (BIG_t 397 (by decide +kernel) (by decide +kernel)) (BIG_t 398 (by decide +kernel) (by decide +kernel)) wI_L cw_suspend
theorem hdW_suspend : yL_suspend.cls ≠ "java/lang/invoke/MethodHandle" ∧ yL_suspend.cls ≠ "java/lang/invoke/VarHandle" ∧ (parseMethodDescriptor yL_suspend.desc).map (fun d => d.parameters.length) = some 4 := by decide +kernel
theorem kr_suspend (G : GS) (x1 x2 : Int32) : K_suspend G x1 x2 = 0 ∨ K_suspend G x1 x2 = 3 := by
  unfold K_suspend x_X6_suspend
  (repeat' split) <;> decide
theorem hk_suspend (G : GS) (x1 x2 : Int32) (h : K_suspend G x1 x2 ≠ 0) : H_suspend G x1 x2 = G := by
  unfold K_suspend x_X6_suspend at h
  unfold H_suspend g_X6_suspend
  (repeat' split) <;> first | rfl | simp_all
set_option maxHeartbeats 4000000 in
set_option maxRecDepth 100000 in
theorem c_L_suspend (l : Launch) (D : va_G) (cy : Nat → ClassId) (A : Nat → Prop) (X : MU) (AD : AM) (G : GS) (hM : RepC cy AD G X) (hI : InvC G) {o : Nat} (f : Nat → Int64) (hd : dis X (oneO cy o f)) (x1 x2 : Int32) (hx2 : x2 = 0 ∨ x2 = 1) (hlf : l.stackTraces = false) : Met l yL_suspend (WSh yL_suspend cL_suspend 5 (Option.some Jvm.ClassFile.FieldType.int) [(0, 17, 20, 21)]) { frames := 7, cells := 1, slots := 6, locals := 123 } (va_Pc [.ref (AD 0 0 0), .int x1, .int x2, .ref o] (Wd D cy A (un X (oneO cy o f)))) (va_Qi (fun (k9 : Int32) (μ1 : MU) => k9 = kkm 0 0 1 (K_suspend G x1 x2) ∧ PW cy o AD (H_suspend G x1 x2) (K_suspend G x1 x2 = 0) (if F_suspend G x1 x2 = 0 then 0 else 1) μ1) (fun μ1 t => Wd D cy A μ1 t) A) 1 6 A := by
  refine q_metW (by decide) (Nat.le_of_ble_eq_true rfl) ?_
  intro p e s m below meth c F w hr hlk ht ls hl
  have F : CallFix p m c cL_suspend 5 s _ BIG RL := F
  have hl : lv_has ls 5 [(0, .ref (AD 0 0 0)), (1, .int x1), (2, .int x2), (3, .ref o)] := hl
  refine lv_aload_n F.1 F.2.1 dL_suspend_0 rfl (lv_at hl 3 rfl) ?_
  refine lv_iconst (v := 0) F.1 F.2.1 dL_suspend_1 (by decide) ?_
  refine lv_aload_n F.1 F.2.1 dL_suspend_2 rfl (lv_at hl 0 rfl) ?_
  refine lv_iload_n F.1 F.2.1 dL_suspend_3 rfl (lv_at hl 1 rfl) ?_
  refine lv_iload_n F.1 F.2.1 dL_suspend_4 rfl (lv_at hl 2 rfl) ?_
  refine q_uVx (rest := [.int 0, .ref o]) F w hd kV_L_27 hd_X6_suspend (ci := 7) rfl (t_X6_suspend l D cy _ _ AD G hM hI x1 x2 hx2 hlf) (hM.a0 ⟨by decide, rfl, rfl⟩) dL_suspend_5 rfl rfl hl.1 ⟨rfl, rfl, (Nat.le_of_ble_eq_true rfl), (Nat.le_of_ble_eq_true rfl)⟩ (Nat.le_of_ble_eq_true rfl) ⟨(Nat.le_of_ble_eq_true rfl), (Nat.le_of_ble_eq_true rfl)⟩ (fun E ce q9 H locs hE hne w hce hcv hcl => ?_) (fun v9 X1 H locs hp hd w => ?_)
  · rcases kr_suspend G x1 x2 with hc | hc
    · exact absurd (by rw [hc]; rfl) hne
    · have hE2 : E = "java/lang/IndexOutOfBoundsException" := by rw [hE, hc]; rfl
      subst hE2
      have hH := hk_suspend G x1 x2 (by rw [hc]; decide)
      refine vx_catch (own := RL) (name := "java/lang/IndexOutOfBoundsException") F.2.2.2.1 [] ⟨0, 17, 20, 21⟩ [] (ht.trans rfl) (fun z hz => nomatch hz) (by decide) (by decide) (F.2.2.2.2 _ wL_L_21) (va_Nw.use rfl (w.2.2.2.2.2.2.2.1 ("java/lang/IndexOutOfBoundsException", "java/lang/IndexOutOfBoundsException") (by decide +kernel))) hce hcv hcl ?_
      refine lv_astore (lv' := [(4, .ref q9), (0, .ref (AD 0 0 0)), (1, .int x1), (2, .int x2), (3, .ref o)]) F.1 F.2.1 dL_suspend_20 hl (by decide) rfl (fun ls hl => ?_)
      refine lv_iconst (v := 1) F.1 F.2.1 dL_suspend_22 (by decide) ?_
      refine W.widen (k := 1) (n := 6) (Nat.le_of_ble_eq_true rfl) (Nat.le_of_ble_eq_true rfl) ?_
      exact q_retI (S := Unit) F hr hlk w ⟨by rw [hc]; rfl, X, AD, f, rfl, hd, rfl, by rw [hH]; exact hM, fun z => absurd (hc.symm.trans z) (by decide)⟩ dL_suspend_23
  · obtain ⟨hx0, hv, AD1, hA, hM1⟩ := hp
    refine lv_if_eq (tgt := 15) F.1 F.2.1 dL_suspend_8 (by decide) (fun c_1 => ?_) (fun c_1 => ?_)
    · refine lv_lconst (v := 0) F.1 F.2.1 dL_suspend_15 (by decide) ?_
      refine q_lsto F w hd dL_suspend_16 (fun f1 H locs hf1 hd w => ?_)
      refine lv_goto (tgt := 24) F.1 F.2.1 dL_suspend_17 (by decide) ?_
      refine lv_iconst (v := 0) F.1 F.2.1 dL_suspend_24 (by decide) ?_
      refine W.widen (k := 1) (n := 6) (Nat.le_of_ble_eq_true rfl) (Nat.le_of_ble_eq_true rfl) ?_
      exact q_retI (S := Unit) F hr hlk w ⟨by rw [hx0]; rfl, X1, AD1, f1, rfl, hd, hA, hM1, fun z => by rw [hf1, ← hv, if_pos c_1]⟩ dL_suspend_25
    · refine lv_lconst (v := 1) F.1 F.2.1 dL_suspend_11 (by decide) ?_
      refine lv_goto (tgt := 16) F.1 F.2.1 dL_suspend_12 (by decide) ?_
      refine q_lsto F w hd dL_suspend_16 (fun f1 H locs hf1 hd w => ?_)
      refine lv_goto (tgt := 24) F.1 F.2.1 dL_suspend_17 (by decide) ?_
      refine lv_iconst (v := 0) F.1 F.2.1 dL_suspend_24 (by decide) ?_
      refine W.widen (k := 1) (n := 6) (Nat.le_of_ble_eq_true rfl) (Nat.le_of_ble_eq_true rfl) ?_
      exact q_retI (S := Unit) F hr hlk w ⟨by rw [hx0]; rfl, X1, AD1, f1, rfl, hd, hA, hM1, fun z => by rw [hf1, ← hv, if_neg c_1]⟩ dL_suspend_25
theorem cw_rule : Cond.codeWith yL_rule cL_rule 8 (Option.some Jvm.ClassFile.FieldType.int) [(0, 16, 19, 13), (0, 16, 23, 15)] ∈ BIG := BIG_t 407 (by decide +kernel) (by decide +kernel)
theorem kW_rule : GoodIn BIG (va_wsS RL 120 yL_rule (WSh yL_rule cL_rule 8 (Option.some Jvm.ClassFile.FieldType.int) [(0, 16, 19, 13), (0, 16, 23, 15)])) := gSh (BIG_t 405 (by decide +kernel) (by decide +kernel)) (BIG_t 406 (by decide +kernel) (by decide +kernel)) wI_L cw_rule
theorem hdW_rule : yL_rule.cls ≠ "java/lang/invoke/MethodHandle" ∧ yL_rule.cls ≠ "java/lang/invoke/VarHandle" ∧ (parseMethodDescriptor yL_rule.desc).map (fun d => d.parameters.length) = some 7 := by decide +kernel
theorem kr_rule (G : GS) (x1 x2 x3 x4 x5 : Int32) : K_rule G x1 x2 x3 x4 x5 = 0 ∨ K_rule G x1 x2 x3 x4 x5 = 1 ∨ K_rule G x1 x2 x3 x4 x5 = 2 := by
  unfold K_rule x_X6_rule
  (repeat' split) <;> decide
theorem hk_rule (G : GS) (x1 x2 x3 x4 x5 : Int32) (h : K_rule G x1 x2 x3 x4 x5 ≠ 0) : H_rule G x1 x2 x3 x4 x5 = G := by
  unfold K_rule x_X6_rule at h
  unfold H_rule g_X6_rule
  (repeat' split) <;> first | rfl | simp_all
set_option maxHeartbeats 4000000 in
set_option maxRecDepth 100000 in
theorem c_L_rule (l : Launch) (D : va_G) (cy : Nat → ClassId) (A : Nat → Prop) (X : MU) (AD : AM) (G : GS) (hM : RepC cy AD G X) (hI : InvC G) {o : Nat} (f : Nat → Int64) (hd : dis X (oneO cy o f)) (x1 x2 x3 x4 x5 : Int32) (hlf : l.stackTraces = false) : Met l yL_rule (WSh yL_rule cL_rule 8 (Option.some Jvm.ClassFile.FieldType.int) [(0, 16, 19, 13), (0, 16, 23, 15)]) { frames := 8, cells := 2, slots := 1006, locals := 226 } (va_Pc [.ref (AD 0 0 0), .int x1, .int x2, .int x3, .int x4, .int x5, .ref o] (Wd D cy A (un X (oneO cy o f)))) (va_Qi (fun (k9 : Int32) (μ1 : MU) => k9 = kkm 1 2 0 (K_rule G x1 x2 x3 x4 x5) ∧ PW cy o AD (H_rule G x1 x2 x3 x4 x5) (K_rule G x1 x2 x3 x4 x5 = 0) (F_rule G x1 x2 x3 x4 x5).toInt64 μ1) (fun μ1 t => Wd D cy A μ1 t) A) 2 1006 A := by
  refine q_metW (by decide) (Nat.le_of_ble_eq_true rfl) ?_
  intro p e s m below meth c F w hr hlk ht ls hl
  have F : CallFix p m c cL_rule 8 s _ BIG RL := F
  have hl : lv_has ls 8 [(0, .ref (AD 0 0 0)), (1, .int x1), (2, .int x2), (3, .int x3), (4, .int x4), (5, .int x5), (6, .ref o)] := hl
  refine lv_aload F.1 F.2.1 dL_rule_0 (lv_at hl 6 rfl) ?_
  refine lv_iconst (v := 0) F.1 F.2.1 dL_rule_2 (by decide) ?_
  refine lv_aload_n F.1 F.2.1 dL_rule_3 rfl (lv_at hl 0 rfl) ?_
  refine lv_iload_n F.1 F.2.1 dL_rule_4 rfl (lv_at hl 1 rfl) ?_
  refine lv_iload_n F.1 F.2.1 dL_rule_5 rfl (lv_at hl 2 rfl) ?_
  refine lv_iload_n F.1 F.2.1 dL_rule_6 rfl (lv_at hl 3 rfl) ?_
  refine lv_iload F.1 F.2.1 dL_rule_7 (lv_at hl 4 rfl) ?_
  refine lv_iload F.1 F.2.1 dL_rule_9 (lv_at hl 5 rfl) ?_
  refine q_uVx (rest := [.int 0, .ref o]) F w hd kV_L_31 hd_X6_rule (ci := 7) rfl (t_X6_rule l D cy _ _ AD G hM hI x1 x2 x3 x4 x5 hlf) (hM.a0 ⟨by decide, rfl, rfl⟩) dL_rule_11 rfl rfl hl.1 ⟨rfl, rfl, (Nat.le_of_ble_eq_true rfl), (Nat.le_of_ble_eq_true rfl)⟩ (Nat.le_of_ble_eq_true rfl) ⟨(Nat.le_of_ble_eq_true rfl), (Nat.le_of_ble_eq_true rfl)⟩ (fun E ce q9 H locs hE hne w hce hcv hcl => ?_) (fun v9 X1 H locs hp hd w => ?_)
  · rcases kr_rule G x1 x2 x3 x4 x5 with hc | hc | hc
    · exact absurd (by rw [hc]; rfl) hne
    · have hE2 : E = "java/lang/IllegalArgumentException" := by rw [hE, hc]; rfl
      subst hE2
      have hH := hk_rule G x1 x2 x3 x4 x5 (by rw [hc]; decide)
      refine vx_catch (own := RL) (name := "java/lang/IllegalArgumentException") F.2.2.2.1 [] ⟨0, 16, 19, 13⟩ [⟨0, 16, 23, 15⟩] (ht.trans rfl) (fun z hz => nomatch hz) (by decide) (by decide) (F.2.2.2.2 _ wL_L_13) (va_Nw.use rfl (w.2.2.2.2.2.2.2.1 ("java/lang/IllegalArgumentException", "java/lang/IllegalArgumentException") (by decide +kernel))) hce hcv hcl ?_
      refine lv_astore (lv' := [(7, .ref q9), (0, .ref (AD 0 0 0)), (1, .int x1), (2, .int x2), (3, .int x3), (4, .int x4), (5, .int x5), (6, .ref o)]) F.1 F.2.1 dL_rule_19 hl (by decide) rfl (fun ls hl => ?_)
      refine lv_iconst (v := 1) F.1 F.2.1 dL_rule_21 (by decide) ?_
      refine W.widen (k := 2) (n := 1006) (Nat.le_of_ble_eq_true rfl) (Nat.le_of_ble_eq_true rfl) ?_
      exact q_retI (S := Unit) F hr hlk w ⟨by rw [hc]; rfl, X, AD, f, rfl, hd, rfl, by rw [hH]; exact hM, fun z => absurd (hc.symm.trans z) (by decide)⟩ dL_rule_22
    · have hE2 : E = "java/lang/IllegalStateException" := by rw [hE, hc]; rfl
      subst hE2
      have hH := hk_rule G x1 x2 x3 x4 x5 (by rw [hc]; decide)
      refine vx_catch (own := RL) (name := "java/lang/IllegalStateException") F.2.2.2.1 [⟨0, 16, 19, 13⟩] ⟨0, 16, 23, 15⟩ [] (ht.trans rfl) (fun z hz => by obtain rfl := List.mem_singleton.mp hz; exact Or.inr ⟨by decide, "java/lang/IllegalArgumentException", F.2.2.2.2 _ wL_L_13, w.2.2.2.2.2.2.2.2.1 ("java/lang/IllegalStateException", "java/lang/IllegalArgumentException") (by decide +kernel)⟩) (by decide) (by decide) (F.2.2.2.2 _ wL_L_15) (va_Nw.use rfl (w.2.2.2.2.2.2.2.1 ("java/lang/IllegalStateException", "java/lang/IllegalStateException") (by decide +kernel))) hce hcv hcl ?_
      refine lv_astore (lv' := [(7, .ref q9), (0, .ref (AD 0 0 0)), (1, .int x1), (2, .int x2), (3, .int x3), (4, .int x4), (5, .int x5), (6, .ref o)]) F.1 F.2.1 dL_rule_23 hl (by decide) rfl (fun ls hl => ?_)
      refine lv_iconst (v := 2) F.1 F.2.1 dL_rule_25 (by decide) ?_
      refine W.widen (k := 2) (n := 1006) (Nat.le_of_ble_eq_true rfl) (Nat.le_of_ble_eq_true rfl) ?_
      exact q_retI (S := Unit) F hr hlk w ⟨by rw [hc]; rfl, X, AD, f, rfl, hd, rfl, by rw [hH]; exact hM, fun z => absurd (hc.symm.trans z) (by decide)⟩ dL_rule_26
  · obtain ⟨hx0, hv, AD1, hA, hM1⟩ := hp
    refine lv_i2l F.1 F.2.1 dL_rule_14 rfl ?_
    refine q_lsto F w hd dL_rule_15 (fun f1 H locs hf1 hd w => ?_)
    refine lv_goto (tgt := 27) F.1 F.2.1 dL_rule_16 (by decide) ?_
    refine lv_iconst (v := 0) F.1 F.2.1 dL_rule_27 (by decide) ?_
    refine W.widen (k := 2) (n := 1006) (Nat.le_of_ble_eq_true rfl) (Nat.le_of_ble_eq_true rfl) ?_
    exact q_retI (S := Unit) F hr hlk w ⟨by rw [hx0]; rfl, X1, AD1, f1, rfl, hd, hA, hM1, fun z => by rw [hf1, hv]⟩ dL_rule_28
theorem cw_issue : Cond.codeWith yL_issue cL_issue 6 (Option.some Jvm.ClassFile.FieldType.int) [(0, 12, 15, 21), (0, 12, 19, 13), (0, 12, 23, 15)] ∈ BIG := BIG_t 439 (by decide +kernel) (by decide +kernel)
theorem kW_issue : GoodIn BIG (va_wsS RL 123 yL_issue (WSh yL_issue cL_issue 6 (Option.some Jvm.ClassFile.FieldType.int) [(0, 12, 15, 21), (0, 12, 19, 13), (0, 12, 23, 15)])) := gSh (BIG_t 437 (by decide +kernel) (by decide +kernel)) (BIG_t 438 (by decide +kernel) (by decide +kernel)) wI_L cw_issue
theorem hdW_issue : yL_issue.cls ≠ "java/lang/invoke/MethodHandle" ∧ yL_issue.cls ≠ "java/lang/invoke/VarHandle" ∧ (parseMethodDescriptor yL_issue.desc).map (fun d => d.parameters.length) = some 5 := by decide +kernel
theorem kr_issue (G : GS) (x1 x2 x3 : Int32) : K_issue G x1 x2 x3 = 0 ∨ K_issue G x1 x2 x3 = 1 ∨ K_issue G x1 x2 x3 = 2 ∨ K_issue G x1 x2 x3 = 3 := by
  unfold K_issue x_X6_issue
  (repeat' split) <;> decide
theorem hk_issue (G : GS) (x1 x2 x3 : Int32) (h : K_issue G x1 x2 x3 ≠ 0) : H_issue G x1 x2 x3 = G := by
  unfold K_issue x_X6_issue at h
  unfold H_issue g_X6_issue
  (repeat' split) <;> first | rfl | simp_all
set_option maxHeartbeats 4000000 in
set_option maxRecDepth 100000 in
theorem c_L_issue (l : Launch) (D : va_G) (cy : Nat → ClassId) (A : Nat → Prop) (X : MU) (AD : AM) (G : GS) (hM : RepC cy AD G X) (hI : InvC G) {o : Nat} (f : Nat → Int64) (hd : dis X (oneO cy o f)) (x1 x2 x3 : Int32) (hlf : l.stackTraces = false) : Met l yL_issue (WSh yL_issue cL_issue 6 (Option.some Jvm.ClassFile.FieldType.int) [(0, 12, 15, 21), (0, 12, 19, 13), (0, 12, 23, 15)]) { frames := 8, cells := 1, slots := 6, locals := 146 } (va_Pc [.ref (AD 0 0 0), .int x1, .int x2, .int x3, .ref o] (Wd D cy A (un X (oneO cy o f)))) (va_Qi (fun (k9 : Int32) (μ1 : MU) => k9 = kkm 2 3 1 (K_issue G x1 x2 x3) ∧ PW cy o AD (H_issue G x1 x2 x3) (K_issue G x1 x2 x3 = 0) (F_issue G x1 x2 x3).toInt64 μ1) (fun μ1 t => Wd D cy A μ1 t) A) 1 6 A := by
  refine q_metW (by decide) (Nat.le_of_ble_eq_true rfl) ?_
  intro p e s m below meth c F w hr hlk ht ls hl
  have F : CallFix p m c cL_issue 6 s _ BIG RL := F
  have hl : lv_has ls 6 [(0, .ref (AD 0 0 0)), (1, .int x1), (2, .int x2), (3, .int x3), (4, .ref o)] := hl
  refine lv_aload F.1 F.2.1 dL_issue_0 (lv_at hl 4 rfl) ?_
  refine lv_iconst (v := 0) F.1 F.2.1 dL_issue_2 (by decide) ?_
  refine lv_aload_n F.1 F.2.1 dL_issue_3 rfl (lv_at hl 0 rfl) ?_
  refine lv_iload_n F.1 F.2.1 dL_issue_4 rfl (lv_at hl 1 rfl) ?_
  refine lv_iload_n F.1 F.2.1 dL_issue_5 rfl (lv_at hl 2 rfl) ?_
  refine lv_iload_n F.1 F.2.1 dL_issue_6 rfl (lv_at hl 3 rfl) ?_
  refine q_uVx (rest := [.int 0, .ref o]) F w hd kV_L_34 hd_X6_issue (ci := 7) rfl (t_X6_issue l D cy _ _ AD G hM hI x1 x2 x3 hlf) (hM.a0 ⟨by decide, rfl, rfl⟩) dL_issue_7 rfl rfl hl.1 ⟨rfl, rfl, (Nat.le_of_ble_eq_true rfl), (Nat.le_of_ble_eq_true rfl)⟩ (Nat.le_of_ble_eq_true rfl) ⟨(Nat.le_of_ble_eq_true rfl), (Nat.le_of_ble_eq_true rfl)⟩ (fun E ce q9 H locs hE hne w hce hcv hcl => ?_) (fun v9 X1 H locs hp hd w => ?_)
  · rcases kr_issue G x1 x2 x3 with hc | hc | hc | hc
    · exact absurd (by rw [hc]; rfl) hne
    · have hE2 : E = "java/lang/IllegalArgumentException" := by rw [hE, hc]; rfl
      subst hE2
      have hH := hk_issue G x1 x2 x3 (by rw [hc]; decide)
      refine vx_catch (own := RL) (name := "java/lang/IllegalArgumentException") F.2.2.2.1 [⟨0, 12, 15, 21⟩] ⟨0, 12, 19, 13⟩ [⟨0, 12, 23, 15⟩] (ht.trans rfl) (fun z hz => by obtain rfl := List.mem_singleton.mp hz; exact Or.inr ⟨by decide, "java/lang/IndexOutOfBoundsException", F.2.2.2.2 _ wL_L_21, w.2.2.2.2.2.2.2.2.1 ("java/lang/IllegalArgumentException", "java/lang/IndexOutOfBoundsException") (by decide +kernel)⟩) (by decide) (by decide) (F.2.2.2.2 _ wL_L_13) (va_Nw.use rfl (w.2.2.2.2.2.2.2.1 ("java/lang/IllegalArgumentException", "java/lang/IllegalArgumentException") (by decide +kernel))) hce hcv hcl ?_
      refine lv_astore (lv' := [(5, .ref q9), (0, .ref (AD 0 0 0)), (1, .int x1), (2, .int x2), (3, .int x3), (4, .ref o)]) F.1 F.2.1 dL_issue_19 hl (by decide) rfl (fun ls hl => ?_)
      refine lv_iconst (v := 2) F.1 F.2.1 dL_issue_21 (by decide) ?_
      refine W.widen (k := 1) (n := 6) (Nat.le_of_ble_eq_true rfl) (Nat.le_of_ble_eq_true rfl) ?_
      exact q_retI (S := Unit) F hr hlk w ⟨by rw [hc]; rfl, X, AD, f, rfl, hd, rfl, by rw [hH]; exact hM, fun z => absurd (hc.symm.trans z) (by decide)⟩ dL_issue_22
    · have hE2 : E = "java/lang/IllegalStateException" := by rw [hE, hc]; rfl
      subst hE2
      have hH := hk_issue G x1 x2 x3 (by rw [hc]; decide)
      refine vx_catch (own := RL) (name := "java/lang/IllegalStateException") F.2.2.2.1 [⟨0, 12, 15, 21⟩, ⟨0, 12, 19, 13⟩] ⟨0, 12, 23, 15⟩ [] (ht.trans rfl) (fun z hz => (List.mem_cons.mp hz).elim (fun e9 => by subst e9; exact Or.inr ⟨by decide, "java/lang/IndexOutOfBoundsException", F.2.2.2.2 _ wL_L_21, w.2.2.2.2.2.2.2.2.1 ("java/lang/IllegalStateException", "java/lang/IndexOutOfBoundsException") (by decide +kernel)⟩) (fun hz => by obtain rfl := List.mem_singleton.mp hz; exact Or.inr ⟨by decide, "java/lang/IllegalArgumentException", F.2.2.2.2 _ wL_L_13, w.2.2.2.2.2.2.2.2.1 ("java/lang/IllegalStateException", "java/lang/IllegalArgumentException") (by decide +kernel)⟩)) (by decide) (by decide) (F.2.2.2.2 _ wL_L_15) (va_Nw.use rfl (w.2.2.2.2.2.2.2.1 ("java/lang/IllegalStateException", "java/lang/IllegalStateException") (by decide +kernel))) hce hcv hcl ?_
      refine lv_astore (lv' := [(5, .ref q9), (0, .ref (AD 0 0 0)), (1, .int x1), (2, .int x2), (3, .int x3), (4, .ref o)]) F.1 F.2.1 dL_issue_23 hl (by decide) rfl (fun ls hl => ?_)
      refine lv_iconst (v := 3) F.1 F.2.1 dL_issue_25 (by decide) ?_
      refine W.widen (k := 1) (n := 6) (Nat.le_of_ble_eq_true rfl) (Nat.le_of_ble_eq_true rfl) ?_
      exact q_retI (S := Unit) F hr hlk w ⟨by rw [hc]; rfl, X, AD, f, rfl, hd, rfl, by rw [hH]; exact hM, fun z => absurd (hc.symm.trans z) (by decide)⟩ dL_issue_26
    · have hE2 : E = "java/lang/IndexOutOfBoundsException" := by rw [hE, hc]; rfl
      subst hE2
      have hH := hk_issue G x1 x2 x3 (by rw [hc]; decide)
      refine vx_catch (own := RL) (name := "java/lang/IndexOutOfBoundsException") F.2.2.2.1 [] ⟨0, 12, 15, 21⟩ [⟨0, 12, 19, 13⟩, ⟨0, 12, 23, 15⟩] (ht.trans rfl) (fun z hz => nomatch hz) (by decide) (by decide) (F.2.2.2.2 _ wL_L_21) (va_Nw.use rfl (w.2.2.2.2.2.2.2.1 ("java/lang/IndexOutOfBoundsException", "java/lang/IndexOutOfBoundsException") (by decide +kernel))) hce hcv hcl ?_
      refine lv_astore (lv' := [(5, .ref q9), (0, .ref (AD 0 0 0)), (1, .int x1), (2, .int x2), (3, .int x3), (4, .ref o)]) F.1 F.2.1 dL_issue_15 hl (by decide) rfl (fun ls hl => ?_)
      refine lv_iconst (v := 1) F.1 F.2.1 dL_issue_17 (by decide) ?_
      refine W.widen (k := 1) (n := 6) (Nat.le_of_ble_eq_true rfl) (Nat.le_of_ble_eq_true rfl) ?_
      exact q_retI (S := Unit) F hr hlk w ⟨by rw [hc]; rfl, X, AD, f, rfl, hd, rfl, by rw [hH]; exact hM, fun z => absurd (hc.symm.trans z) (by decide)⟩ dL_issue_18
  · obtain ⟨hx0, hv, AD1, hA, hM1⟩ := hp
    refine lv_i2l F.1 F.2.1 dL_issue_10 rfl ?_
    refine q_lsto F w hd dL_issue_11 (fun f1 H locs hf1 hd w => ?_)
    refine lv_goto (tgt := 27) F.1 F.2.1 dL_issue_12 (by decide) ?_
    refine lv_iconst (v := 0) F.1 F.2.1 dL_issue_27 (by decide) ?_
    refine W.widen (k := 1) (n := 6) (Nat.le_of_ble_eq_true rfl) (Nat.le_of_ble_eq_true rfl) ?_
    exact q_retI (S := Unit) F hr hlk w ⟨by rw [hx0]; rfl, X1, AD1, f1, rfl, hd, hA, hM1, fun z => by rw [hf1, hv]⟩ dL_issue_28
theorem cw_endorse : Cond.codeWith yL_endorse cL_endorse 5 (Option.some Jvm.ClassFile.FieldType.int) [(0, 10, 13, 21), (0, 10, 17, 13), (0, 10, 21, 15)] ∈ BIG := BIG_t 497 (by decide +kernel) (by decide +kernel)
theorem kW_endorse : GoodIn BIG (va_wsS RL 126 yL_endorse (WSh yL_endorse cL_endorse 5 (Option.some Jvm.ClassFile.FieldType.int) [(0, 10, 13, 21), (0, 10, 17, 13), (0, 10, 21, 15)])) := gSh (BIG_t 495 (by decide +kernel) (by decide +kernel)) (BIG_t 496 (by decide +kernel) (by decide +kernel)) wI_L cw_endorse
theorem hdW_endorse : yL_endorse.cls ≠ "java/lang/invoke/MethodHandle" ∧ yL_endorse.cls ≠ "java/lang/invoke/VarHandle" ∧ (parseMethodDescriptor yL_endorse.desc).map (fun d => d.parameters.length) = some 4 := by decide +kernel
theorem kr_endorse (G : GS) (x1 x2 : Int32) : K_endorse G x1 x2 = 0 ∨ K_endorse G x1 x2 = 1 ∨ K_endorse G x1 x2 = 2 ∨ K_endorse G x1 x2 = 3 := by
  unfold K_endorse x_X6_endorse
  (repeat' split) <;> decide
theorem hk_endorse (G : GS) (x1 x2 : Int32) (h : K_endorse G x1 x2 ≠ 0) : H_endorse G x1 x2 = G := by
  unfold K_endorse x_X6_endorse at h
  unfold H_endorse g_X6_endorse
  (repeat' split) <;> first | rfl | simp_all
set_option maxHeartbeats 4000000 in
set_option maxRecDepth 100000 in
theorem c_L_endorse (l : Launch) (D : va_G) (cy : Nat → ClassId) (A : Nat → Prop) (X : MU) (AD : AM) (G : GS) (hM : RepC cy AD G X) (hI : InvC G) {o : Nat} (f : Nat → Int64) (hd : dis X (oneO cy o f)) (x1 x2 : Int32) (hlf : l.stackTraces = false) : Met l yL_endorse (WSh yL_endorse cL_endorse 5 (Option.some Jvm.ClassFile.FieldType.int) [(0, 10, 13, 21), (0, 10, 17, 13), (0, 10, 21, 15)]) { frames := 8, cells := 1, slots := 6, locals := 146 } (va_Pc [.ref (AD 0 0 0), .int x1, .int x2, .ref o] (Wd D cy A (un X (oneO cy o f)))) (va_Qi (fun (k9 : Int32) (μ1 : MU) => k9 = kkm 2 3 1 (K_endorse G x1 x2) ∧ PW cy o AD (H_endorse G x1 x2) (K_endorse G x1 x2 = 0) (F_endorse G x1 x2).toInt64 μ1) (fun μ1 t => Wd D cy A μ1 t) A) 1 6 A := by
  refine q_metW (by decide) (Nat.le_of_ble_eq_true rfl) ?_
  intro p e s m below meth c F w hr hlk ht ls hl
  have F : CallFix p m c cL_endorse 5 s _ BIG RL := F
  have hl : lv_has ls 5 [(0, .ref (AD 0 0 0)), (1, .int x1), (2, .int x2), (3, .ref o)] := hl
  refine lv_aload_n F.1 F.2.1 dL_endorse_0 rfl (lv_at hl 3 rfl) ?_
  refine lv_iconst (v := 0) F.1 F.2.1 dL_endorse_1 (by decide) ?_
  refine lv_aload_n F.1 F.2.1 dL_endorse_2 rfl (lv_at hl 0 rfl) ?_
  refine lv_iload_n F.1 F.2.1 dL_endorse_3 rfl (lv_at hl 1 rfl) ?_
  refine lv_iload_n F.1 F.2.1 dL_endorse_4 rfl (lv_at hl 2 rfl) ?_
  refine q_uVx (rest := [.int 0, .ref o]) F w hd kV_L_37 hd_X6_endorse (ci := 7) rfl (t_X6_endorse l D cy _ _ AD G hM hI x1 x2 hlf) (hM.a0 ⟨by decide, rfl, rfl⟩) dL_endorse_5 rfl rfl hl.1 ⟨rfl, rfl, (Nat.le_of_ble_eq_true rfl), (Nat.le_of_ble_eq_true rfl)⟩ (Nat.le_of_ble_eq_true rfl) ⟨(Nat.le_of_ble_eq_true rfl), (Nat.le_of_ble_eq_true rfl)⟩ (fun E ce q9 H locs hE hne w hce hcv hcl => ?_) (fun v9 X1 H locs hp hd w => ?_)
  · rcases kr_endorse G x1 x2 with hc | hc | hc | hc
    · exact absurd (by rw [hc]; rfl) hne
    · have hE2 : E = "java/lang/IllegalArgumentException" := by rw [hE, hc]; rfl
      subst hE2
      have hH := hk_endorse G x1 x2 (by rw [hc]; decide)
      refine vx_catch (own := RL) (name := "java/lang/IllegalArgumentException") F.2.2.2.1 [⟨0, 10, 13, 21⟩] ⟨0, 10, 17, 13⟩ [⟨0, 10, 21, 15⟩] (ht.trans rfl) (fun z hz => by obtain rfl := List.mem_singleton.mp hz; exact Or.inr ⟨by decide, "java/lang/IndexOutOfBoundsException", F.2.2.2.2 _ wL_L_21, w.2.2.2.2.2.2.2.2.1 ("java/lang/IllegalArgumentException", "java/lang/IndexOutOfBoundsException") (by decide +kernel)⟩) (by decide) (by decide) (F.2.2.2.2 _ wL_L_13) (va_Nw.use rfl (w.2.2.2.2.2.2.2.1 ("java/lang/IllegalArgumentException", "java/lang/IllegalArgumentException") (by decide +kernel))) hce hcv hcl ?_
      refine lv_astore (lv' := [(4, .ref q9), (0, .ref (AD 0 0 0)), (1, .int x1), (2, .int x2), (3, .ref o)]) F.1 F.2.1 dL_endorse_17 hl (by decide) rfl (fun ls hl => ?_)
      refine lv_iconst (v := 2) F.1 F.2.1 dL_endorse_19 (by decide) ?_
      refine W.widen (k := 1) (n := 6) (Nat.le_of_ble_eq_true rfl) (Nat.le_of_ble_eq_true rfl) ?_
      exact q_retI (S := Unit) F hr hlk w ⟨by rw [hc]; rfl, X, AD, f, rfl, hd, rfl, by rw [hH]; exact hM, fun z => absurd (hc.symm.trans z) (by decide)⟩ dL_endorse_20
    · have hE2 : E = "java/lang/IllegalStateException" := by rw [hE, hc]; rfl
      subst hE2
      have hH := hk_endorse G x1 x2 (by rw [hc]; decide)
      refine vx_catch (own := RL) (name := "java/lang/IllegalStateException") F.2.2.2.1 [⟨0, 10, 13, 21⟩, ⟨0, 10, 17, 13⟩] ⟨0, 10, 21, 15⟩ [] (ht.trans rfl) (fun z hz => (List.mem_cons.mp hz).elim (fun e9 => by subst e9; exact Or.inr ⟨by decide, "java/lang/IndexOutOfBoundsException", F.2.2.2.2 _ wL_L_21, w.2.2.2.2.2.2.2.2.1 ("java/lang/IllegalStateException", "java/lang/IndexOutOfBoundsException") (by decide +kernel)⟩) (fun hz => by obtain rfl := List.mem_singleton.mp hz; exact Or.inr ⟨by decide, "java/lang/IllegalArgumentException", F.2.2.2.2 _ wL_L_13, w.2.2.2.2.2.2.2.2.1 ("java/lang/IllegalStateException", "java/lang/IllegalArgumentException") (by decide +kernel)⟩)) (by decide) (by decide) (F.2.2.2.2 _ wL_L_15) (va_Nw.use rfl (w.2.2.2.2.2.2.2.1 ("java/lang/IllegalStateException", "java/lang/IllegalStateException") (by decide +kernel))) hce hcv hcl ?_
      refine lv_astore (lv' := [(4, .ref q9), (0, .ref (AD 0 0 0)), (1, .int x1), (2, .int x2), (3, .ref o)]) F.1 F.2.1 dL_endorse_21 hl (by decide) rfl (fun ls hl => ?_)
      refine lv_iconst (v := 3) F.1 F.2.1 dL_endorse_23 (by decide) ?_
      refine W.widen (k := 1) (n := 6) (Nat.le_of_ble_eq_true rfl) (Nat.le_of_ble_eq_true rfl) ?_
      exact q_retI (S := Unit) F hr hlk w ⟨by rw [hc]; rfl, X, AD, f, rfl, hd, rfl, by rw [hH]; exact hM, fun z => absurd (hc.symm.trans z) (by decide)⟩ dL_endorse_24
    · have hE2 : E = "java/lang/IndexOutOfBoundsException" := by rw [hE, hc]; rfl
      subst hE2
      have hH := hk_endorse G x1 x2 (by rw [hc]; decide)
      refine vx_catch (own := RL) (name := "java/lang/IndexOutOfBoundsException") F.2.2.2.1 [] ⟨0, 10, 13, 21⟩ [⟨0, 10, 17, 13⟩, ⟨0, 10, 21, 15⟩] (ht.trans rfl) (fun z hz => nomatch hz) (by decide) (by decide) (F.2.2.2.2 _ wL_L_21) (va_Nw.use rfl (w.2.2.2.2.2.2.2.1 ("java/lang/IndexOutOfBoundsException", "java/lang/IndexOutOfBoundsException") (by decide +kernel))) hce hcv hcl ?_
      refine lv_astore (lv' := [(4, .ref q9), (0, .ref (AD 0 0 0)), (1, .int x1), (2, .int x2), (3, .ref o)]) F.1 F.2.1 dL_endorse_13 hl (by decide) rfl (fun ls hl => ?_)
      refine lv_iconst (v := 1) F.1 F.2.1 dL_endorse_15 (by decide) ?_
      refine W.widen (k := 1) (n := 6) (Nat.le_of_ble_eq_true rfl) (Nat.le_of_ble_eq_true rfl) ?_
      exact q_retI (S := Unit) F hr hlk w ⟨by rw [hc]; rfl, X, AD, f, rfl, hd, rfl, by rw [hH]; exact hM, fun z => absurd (hc.symm.trans z) (by decide)⟩ dL_endorse_16
  · obtain ⟨hx0, hv, AD1, hA, hM1⟩ := hp
    refine lv_i2l F.1 F.2.1 dL_endorse_8 rfl ?_
    refine q_lsto F w hd dL_endorse_9 (fun f1 H locs hf1 hd w => ?_)
    refine lv_goto (tgt := 25) F.1 F.2.1 dL_endorse_10 (by decide) ?_
    refine lv_iconst (v := 0) F.1 F.2.1 dL_endorse_25 (by decide) ?_
    refine W.widen (k := 1) (n := 6) (Nat.le_of_ble_eq_true rfl) (Nat.le_of_ble_eq_true rfl) ?_
    exact q_retI (S := Unit) F hr hlk w ⟨by rw [hx0]; rfl, X1, AD1, f1, rfl, hd, hA, hM1, fun z => by rw [hf1, hv]⟩ dL_endorse_26
theorem cw_calls : Cond.codeWith yL_calls cL_calls 5 (Option.some Jvm.ClassFile.FieldType.int) [(0, 10, 13, 21), (0, 10, 17, 15)] ∈ BIG := BIG_t 520 (by decide +kernel) (by decide +kernel)
theorem kW_calls : GoodIn BIG (va_wsS RL 130 yL_calls (WSh yL_calls cL_calls 5 (Option.some Jvm.ClassFile.FieldType.int) [(0, 10, 13, 21), (0, 10, 17, 15)])) := gSh (BIG_t 518 (by decide +kernel) (by decide +kernel)) (BIG_t 519 (by decide +kernel) (by decide +kernel)) wI_L cw_calls
theorem hdW_calls : yL_calls.cls ≠ "java/lang/invoke/MethodHandle" ∧ yL_calls.cls ≠ "java/lang/invoke/VarHandle" ∧ (parseMethodDescriptor yL_calls.desc).map (fun d => d.parameters.length) = some 4 := by decide +kernel
theorem kr_calls (G : GS) (x1 x2 : Int32) : K_calls G x1 x2 = 0 ∨ K_calls G x1 x2 = 2 ∨ K_calls G x1 x2 = 3 := by
  unfold K_calls x_X6_calls
  (repeat' split) <;> decide
theorem hk_calls (G : GS) (x1 x2 : Int32) (h : K_calls G x1 x2 ≠ 0) : H_calls G x1 x2 = G := by
  unfold K_calls x_X6_calls at h
  unfold H_calls g_X6_calls
  (repeat' split) <;> first | rfl | simp_all
set_option maxHeartbeats 4000000 in
set_option maxRecDepth 100000 in
theorem c_L_calls (l : Launch) (D : va_G) (cy : Nat → ClassId) (A : Nat → Prop) (X : MU) (AD : AM) (G : GS) (hM : RepC cy AD G X) (hI : InvC G) {o : Nat} (f : Nat → Int64) (hd : dis X (oneO cy o f)) (x1 x2 : Int32) (hlf : l.stackTraces = false) : Met l yL_calls (WSh yL_calls cL_calls 5 (Option.some Jvm.ClassFile.FieldType.int) [(0, 10, 13, 21), (0, 10, 17, 15)]) { frames := 9, cells := 1, slots := 6, locals := 206 } (va_Pc [.ref (AD 0 0 0), .int x1, .int x2, .ref o] (Wd D cy A (un X (oneO cy o f)))) (va_Qi (fun (k9 : Int32) (μ1 : MU) => k9 = kkm 0 2 1 (K_calls G x1 x2) ∧ PW cy o AD (H_calls G x1 x2) (K_calls G x1 x2 = 0) (F_calls G x1 x2).toInt64 μ1) (fun μ1 t => Wd D cy A μ1 t) A) 1 6 A := by
  refine q_metW (by decide) (Nat.le_of_ble_eq_true rfl) ?_
  intro p e s m below meth c F w hr hlk ht ls hl
  have F : CallFix p m c cL_calls 5 s _ BIG RL := F
  have hl : lv_has ls 5 [(0, .ref (AD 0 0 0)), (1, .int x1), (2, .int x2), (3, .ref o)] := hl
  refine lv_aload_n F.1 F.2.1 dL_calls_0 rfl (lv_at hl 3 rfl) ?_
  refine lv_iconst (v := 0) F.1 F.2.1 dL_calls_1 (by decide) ?_
  refine lv_aload_n F.1 F.2.1 dL_calls_2 rfl (lv_at hl 0 rfl) ?_
  refine lv_iload_n F.1 F.2.1 dL_calls_3 rfl (lv_at hl 1 rfl) ?_
  refine lv_iload_n F.1 F.2.1 dL_calls_4 rfl (lv_at hl 2 rfl) ?_
  refine q_uVx (rest := [.int 0, .ref o]) F w hd kV_L_41 hd_X6_calls (ci := 7) rfl (t_X6_calls l D cy _ _ AD G hM hI x1 x2 hlf) (hM.a0 ⟨by decide, rfl, rfl⟩) dL_calls_5 rfl rfl hl.1 ⟨rfl, rfl, (Nat.le_of_ble_eq_true rfl), (Nat.le_of_ble_eq_true rfl)⟩ (Nat.le_of_ble_eq_true rfl) ⟨(Nat.le_of_ble_eq_true rfl), (Nat.le_of_ble_eq_true rfl)⟩ (fun E ce q9 H locs hE hne w hce hcv hcl => ?_) (fun v9 X1 H locs hp hd w => ?_)
  · rcases kr_calls G x1 x2 with hc | hc | hc
    · exact absurd (by rw [hc]; rfl) hne
    · have hE2 : E = "java/lang/IllegalStateException" := by rw [hE, hc]; rfl
      subst hE2
      have hH := hk_calls G x1 x2 (by rw [hc]; decide)
      refine vx_catch (own := RL) (name := "java/lang/IllegalStateException") F.2.2.2.1 [⟨0, 10, 13, 21⟩] ⟨0, 10, 17, 15⟩ [] (ht.trans rfl) (fun z hz => by obtain rfl := List.mem_singleton.mp hz; exact Or.inr ⟨by decide, "java/lang/IndexOutOfBoundsException", F.2.2.2.2 _ wL_L_21, w.2.2.2.2.2.2.2.2.1 ("java/lang/IllegalStateException", "java/lang/IndexOutOfBoundsException") (by decide +kernel)⟩) (by decide) (by decide) (F.2.2.2.2 _ wL_L_15) (va_Nw.use rfl (w.2.2.2.2.2.2.2.1 ("java/lang/IllegalStateException", "java/lang/IllegalStateException") (by decide +kernel))) hce hcv hcl ?_
      refine lv_astore (lv' := [(4, .ref q9), (0, .ref (AD 0 0 0)), (1, .int x1), (2, .int x2), (3, .ref o)]) F.1 F.2.1 dL_calls_17 hl (by decide) rfl (fun ls hl => ?_)
      refine lv_iconst (v := 2) F.1 F.2.1 dL_calls_19 (by decide) ?_
      refine W.widen (k := 1) (n := 6) (Nat.le_of_ble_eq_true rfl) (Nat.le_of_ble_eq_true rfl) ?_
      exact q_retI (S := Unit) F hr hlk w ⟨by rw [hc]; rfl, X, AD, f, rfl, hd, rfl, by rw [hH]; exact hM, fun z => absurd (hc.symm.trans z) (by decide)⟩ dL_calls_20
    · have hE2 : E = "java/lang/IndexOutOfBoundsException" := by rw [hE, hc]; rfl
      subst hE2
      have hH := hk_calls G x1 x2 (by rw [hc]; decide)
      refine vx_catch (own := RL) (name := "java/lang/IndexOutOfBoundsException") F.2.2.2.1 [] ⟨0, 10, 13, 21⟩ [⟨0, 10, 17, 15⟩] (ht.trans rfl) (fun z hz => nomatch hz) (by decide) (by decide) (F.2.2.2.2 _ wL_L_21) (va_Nw.use rfl (w.2.2.2.2.2.2.2.1 ("java/lang/IndexOutOfBoundsException", "java/lang/IndexOutOfBoundsException") (by decide +kernel))) hce hcv hcl ?_
      refine lv_astore (lv' := [(4, .ref q9), (0, .ref (AD 0 0 0)), (1, .int x1), (2, .int x2), (3, .ref o)]) F.1 F.2.1 dL_calls_13 hl (by decide) rfl (fun ls hl => ?_)
      refine lv_iconst (v := 1) F.1 F.2.1 dL_calls_15 (by decide) ?_
      refine W.widen (k := 1) (n := 6) (Nat.le_of_ble_eq_true rfl) (Nat.le_of_ble_eq_true rfl) ?_
      exact q_retI (S := Unit) F hr hlk w ⟨by rw [hc]; rfl, X, AD, f, rfl, hd, rfl, by rw [hH]; exact hM, fun z => absurd (hc.symm.trans z) (by decide)⟩ dL_calls_16
  · obtain ⟨hx0, hv, AD1, hA, hM1⟩ := hp
    refine lv_i2l F.1 F.2.1 dL_calls_8 rfl ?_
    refine q_lsto F w hd dL_calls_9 (fun f1 H locs hf1 hd w => ?_)
    refine lv_goto (tgt := 21) F.1 F.2.1 dL_calls_10 (by decide) ?_
    refine lv_iconst (v := 0) F.1 F.2.1 dL_calls_21 (by decide) ?_
    refine W.widen (k := 1) (n := 6) (Nat.le_of_ble_eq_true rfl) (Nat.le_of_ble_eq_true rfl) ?_
    exact q_retI (S := Unit) F hr hlk w ⟨by rw [hx0]; rfl, X1, AD1, f1, rfl, hd, hA, hM1, fun z => by rw [hf1, hv]⟩ dL_calls_22
theorem cw_leaves : Cond.codeWith yL_leaves cL_leaves 4 (Option.some Jvm.ClassFile.FieldType.int) [(0, 16, 19, 21), (0, 16, 22, 15)] ∈ BIG := BIG_t 591 (by decide +kernel) (by decide +kernel)
theorem kW_leaves : GoodIn BIG (va_wsS RL 133 yL_leaves (WSh yL_leaves cL_leaves 4 (Option.some Jvm.ClassFile.FieldType.int) [(0, 16, 19, 21), (0, 16, 22, 15)])) := gSh (BIG_t 589 (by decide +kernel) (by decide +kernel)) (BIG_t 590 (by decide +kernel) (by decide +kernel)) wI_L cw_leaves
theorem hdW_leaves : yL_leaves.cls ≠ "java/lang/invoke/MethodHandle" ∧ yL_leaves.cls ≠ "java/lang/invoke/VarHandle" ∧ (parseMethodDescriptor yL_leaves.desc).map (fun d => d.parameters.length) = some 3 := by decide +kernel
theorem kr_leaves (G : GS) (x1 : Int32) : K_leaves G x1 = 0 ∨ K_leaves G x1 = 2 ∨ K_leaves G x1 = 3 := by
  unfold K_leaves x_X6_leaves
  (repeat' split) <;> decide
theorem hk_leaves (G : GS) (x1 : Int32) (h : K_leaves G x1 ≠ 0) : H_leaves G x1 = G := by
  unfold K_leaves x_X6_leaves at h
  unfold H_leaves g_X6_leaves
  (repeat' split) <;> first | rfl | simp_all
set_option maxHeartbeats 4000000 in
set_option maxRecDepth 100000 in
theorem c_L_leaves (l : Launch) (D : va_G) (cy : Nat → ClassId) (A : Nat → Prop) (X : MU) (AD : AM) (G : GS) (hM : RepC cy AD G X) (hI : InvC G) {o : Nat} (f : Nat → Int64) (hd : dis X (oneO cy o f)) (x1 : Int32) (hp : ∀ s, s < gnS G → G 10 s = -1 ∨ (G 10 s = nI (G 10 s).toNatClampNeg ∧ (G 10 s).toNatClampNeg < 4)) (hlf : l.stackTraces = false) : Met l yL_leaves (WSh yL_leaves cL_leaves 4 (Option.some Jvm.ClassFile.FieldType.int) [(0, 16, 19, 21), (0, 16, 22, 15)]) { frames := 9, cells := 1, slots := 6, locals := 206 } (va_Pc [.ref (AD 0 0 0), .int x1, .ref o] (Wd D cy A (un X (oneO cy o f)))) (va_Qi (fun (k9 : Int32) (μ1 : MU) => k9 = kkm 0 2 1 (K_leaves G x1) ∧ PW cy o AD (H_leaves G x1) (K_leaves G x1 = 0) (if F_leaves G x1 = 0 then 0 else 1) μ1) (fun μ1 t => Wd D cy A μ1 t) A) 1 6 A := by
  refine q_metW (by decide) (Nat.le_of_ble_eq_true rfl) ?_
  intro p e s m below meth c F w hr hlk ht ls hl
  have F : CallFix p m c cL_leaves 4 s _ BIG RL := F
  have hl : lv_has ls 4 [(0, .ref (AD 0 0 0)), (1, .int x1), (2, .ref o)] := hl
  refine lv_aload_n F.1 F.2.1 dL_leaves_0 rfl (lv_at hl 2 rfl) ?_
  refine lv_iconst (v := 0) F.1 F.2.1 dL_leaves_1 (by decide) ?_
  refine lv_aload_n F.1 F.2.1 dL_leaves_2 rfl (lv_at hl 0 rfl) ?_
  refine lv_iload_n F.1 F.2.1 dL_leaves_3 rfl (lv_at hl 1 rfl) ?_
  refine q_uVx (rest := [.int 0, .ref o]) F w hd kV_L_44 hd_X6_leaves (ci := 7) rfl (t_X6_leaves l D cy _ _ AD G hM hI x1 hp hlf) (hM.a0 ⟨by decide, rfl, rfl⟩) dL_leaves_4 rfl rfl hl.1 ⟨rfl, rfl, (Nat.le_of_ble_eq_true rfl), (Nat.le_of_ble_eq_true rfl)⟩ (Nat.le_of_ble_eq_true rfl) ⟨(Nat.le_of_ble_eq_true rfl), (Nat.le_of_ble_eq_true rfl)⟩ (fun E ce q9 H locs hE hne w hce hcv hcl => ?_) (fun v9 X1 H locs hp hd w => ?_)
  · rcases kr_leaves G x1 with hc | hc | hc
    · exact absurd (by rw [hc]; rfl) hne
    · have hE2 : E = "java/lang/IllegalStateException" := by rw [hE, hc]; rfl
      subst hE2
      have hH := hk_leaves G x1 (by rw [hc]; decide)
      refine vx_catch (own := RL) (name := "java/lang/IllegalStateException") F.2.2.2.1 [⟨0, 16, 19, 21⟩] ⟨0, 16, 22, 15⟩ [] (ht.trans rfl) (fun z hz => by obtain rfl := List.mem_singleton.mp hz; exact Or.inr ⟨by decide, "java/lang/IndexOutOfBoundsException", F.2.2.2.2 _ wL_L_21, w.2.2.2.2.2.2.2.2.1 ("java/lang/IllegalStateException", "java/lang/IndexOutOfBoundsException") (by decide +kernel)⟩) (by decide) (by decide) (F.2.2.2.2 _ wL_L_15) (va_Nw.use rfl (w.2.2.2.2.2.2.2.1 ("java/lang/IllegalStateException", "java/lang/IllegalStateException") (by decide +kernel))) hce hcv hcl ?_
      refine lv_astore_n (lv' := [(3, .ref q9), (0, .ref (AD 0 0 0)), (1, .int x1), (2, .ref o)]) F.1 F.2.1 dL_leaves_22 rfl hl (by decide) rfl (fun ls hl => ?_)
      refine lv_iconst (v := 2) F.1 F.2.1 dL_leaves_23 (by decide) ?_
      refine W.widen (k := 1) (n := 6) (Nat.le_of_ble_eq_true rfl) (Nat.le_of_ble_eq_true rfl) ?_
      exact q_retI (S := Unit) F hr hlk w ⟨by rw [hc]; rfl, X, AD, f, rfl, hd, rfl, by rw [hH]; exact hM, fun z => absurd (hc.symm.trans z) (by decide)⟩ dL_leaves_24
    · have hE2 : E = "java/lang/IndexOutOfBoundsException" := by rw [hE, hc]; rfl
      subst hE2
      have hH := hk_leaves G x1 (by rw [hc]; decide)
      refine vx_catch (own := RL) (name := "java/lang/IndexOutOfBoundsException") F.2.2.2.1 [] ⟨0, 16, 19, 21⟩ [⟨0, 16, 22, 15⟩] (ht.trans rfl) (fun z hz => nomatch hz) (by decide) (by decide) (F.2.2.2.2 _ wL_L_21) (va_Nw.use rfl (w.2.2.2.2.2.2.2.1 ("java/lang/IndexOutOfBoundsException", "java/lang/IndexOutOfBoundsException") (by decide +kernel))) hce hcv hcl ?_
      refine lv_astore_n (lv' := [(3, .ref q9), (0, .ref (AD 0 0 0)), (1, .int x1), (2, .ref o)]) F.1 F.2.1 dL_leaves_19 rfl hl (by decide) rfl (fun ls hl => ?_)
      refine lv_iconst (v := 1) F.1 F.2.1 dL_leaves_20 (by decide) ?_
      refine W.widen (k := 1) (n := 6) (Nat.le_of_ble_eq_true rfl) (Nat.le_of_ble_eq_true rfl) ?_
      exact q_retI (S := Unit) F hr hlk w ⟨by rw [hc]; rfl, X, AD, f, rfl, hd, rfl, by rw [hH]; exact hM, fun z => absurd (hc.symm.trans z) (by decide)⟩ dL_leaves_21
  · obtain ⟨hx0, hv, AD1, hA, hM1⟩ := hp
    refine lv_if_eq (tgt := 14) F.1 F.2.1 dL_leaves_7 (by decide) (fun c_1 => ?_) (fun c_1 => ?_)
    · refine lv_lconst (v := 0) F.1 F.2.1 dL_leaves_14 (by decide) ?_
      refine q_lsto F w hd dL_leaves_15 (fun f1 H locs hf1 hd w => ?_)
      refine lv_goto (tgt := 25) F.1 F.2.1 dL_leaves_16 (by decide) ?_
      refine lv_iconst (v := 0) F.1 F.2.1 dL_leaves_25 (by decide) ?_
      refine W.widen (k := 1) (n := 6) (Nat.le_of_ble_eq_true rfl) (Nat.le_of_ble_eq_true rfl) ?_
      exact q_retI (S := Unit) F hr hlk w ⟨by rw [hx0]; rfl, X1, AD1, f1, rfl, hd, hA, hM1, fun z => by rw [hf1, ← hv, if_pos c_1]⟩ dL_leaves_26
    · refine lv_lconst (v := 1) F.1 F.2.1 dL_leaves_10 (by decide) ?_
      refine lv_goto (tgt := 15) F.1 F.2.1 dL_leaves_11 (by decide) ?_
      refine q_lsto F w hd dL_leaves_15 (fun f1 H locs hf1 hd w => ?_)
      refine lv_goto (tgt := 25) F.1 F.2.1 dL_leaves_16 (by decide) ?_
      refine lv_iconst (v := 0) F.1 F.2.1 dL_leaves_25 (by decide) ?_
      refine W.widen (k := 1) (n := 6) (Nat.le_of_ble_eq_true rfl) (Nat.le_of_ble_eq_true rfl) ?_
      exact q_retI (S := Unit) F hr hlk w ⟨by rw [hx0]; rfl, X1, AD1, f1, rfl, hd, hA, hM1, fun z => by rw [hf1, ← hv, if_neg c_1]⟩ dL_leaves_26
theorem cw_visit : Cond.codeWith yL_visit cL_visit 4 (Option.some Jvm.ClassFile.FieldType.int) [(0, 9, 12, 21), (0, 9, 15, 15)] ∈ BIG := BIG_t 599 (by decide +kernel) (by decide +kernel)
theorem kW_visit : GoodIn BIG (va_wsS RL 136 yL_visit (WSh yL_visit cL_visit 4 (Option.some Jvm.ClassFile.FieldType.int) [(0, 9, 12, 21), (0, 9, 15, 15)])) := gSh (BIG_t 597 (by decide +kernel) (by decide +kernel)) (BIG_t 598 (by decide +kernel) (by decide +kernel)) wI_L cw_visit
theorem hdW_visit : yL_visit.cls ≠ "java/lang/invoke/MethodHandle" ∧ yL_visit.cls ≠ "java/lang/invoke/VarHandle" ∧ (parseMethodDescriptor yL_visit.desc).map (fun d => d.parameters.length) = some 3 := by decide +kernel
theorem kr_visit (G : GS) (x1 : Int32) : K_visit G x1 = 0 ∨ K_visit G x1 = 2 ∨ K_visit G x1 = 3 := by
  unfold K_visit x_X6_visit
  (repeat' split) <;> decide
theorem hk_visit (G : GS) (x1 : Int32) (h : K_visit G x1 ≠ 0) : H_visit G x1 = G := by
  unfold K_visit x_X6_visit at h
  unfold H_visit g_X6_visit
  (repeat' split) <;> first | rfl | simp_all
set_option maxHeartbeats 4000000 in
set_option maxRecDepth 100000 in
theorem c_L_visit (l : Launch) (D : va_G) (cy : Nat → ClassId) (A : Nat → Prop) (X : MU) (AD : AM) (G : GS) (hM : RepC cy AD G X) (hI : InvC G) {o : Nat} (f : Nat → Int64) (hd : dis X (oneO cy o f)) (x1 : Int32) (hn : ∀ s, s < gnS G → gnN G s < 514) (hlf : l.stackTraces = false) : Met l yL_visit (WSh yL_visit cL_visit 4 (Option.some Jvm.ClassFile.FieldType.int) [(0, 9, 12, 21), (0, 9, 15, 15)]) { frames := 9, cells := 5, slots := 2019, locals := 248 } (va_Pc [.ref (AD 0 0 0), .int x1, .ref o] (Wd D cy A (un X (oneO cy o f)))) (va_Qi (fun (k9 : Int32) (μ1 : MU) => k9 = kkm 0 2 1 (K_visit G x1) ∧ PW cy o AD (H_visit G x1) (K_visit G x1 = 0) (F_visit G x1).toInt64 μ1) (fun μ1 t => Wd D cy A μ1 t) A) 5 2019 A := by
  refine q_metW (by decide) (Nat.le_of_ble_eq_true rfl) ?_
  intro p e s m below meth c F w hr hlk ht ls hl
  have F : CallFix p m c cL_visit 4 s _ BIG RL := F
  have hl : lv_has ls 4 [(0, .ref (AD 0 0 0)), (1, .int x1), (2, .ref o)] := hl
  refine lv_aload_n F.1 F.2.1 dL_visit_0 rfl (lv_at hl 2 rfl) ?_
  refine lv_iconst (v := 0) F.1 F.2.1 dL_visit_1 (by decide) ?_
  refine lv_aload_n F.1 F.2.1 dL_visit_2 rfl (lv_at hl 0 rfl) ?_
  refine lv_iload_n F.1 F.2.1 dL_visit_3 rfl (lv_at hl 1 rfl) ?_
  refine q_uVx (rest := [.int 0, .ref o]) F w hd kV_L_48 hd_X6_visit (ci := 7) rfl (t_X6_visit l D cy _ _ AD G hM hI x1 hn hlf) (hM.a0 ⟨by decide, rfl, rfl⟩) dL_visit_4 rfl rfl hl.1 ⟨rfl, rfl, (Nat.le_of_ble_eq_true rfl), (Nat.le_of_ble_eq_true rfl)⟩ (Nat.le_of_ble_eq_true rfl) ⟨(Nat.le_of_ble_eq_true rfl), (Nat.le_of_ble_eq_true rfl)⟩ (fun E ce q9 H locs hE hne w hce hcv hcl => ?_) (fun v9 X1 H locs hp hd w => ?_)
  · rcases kr_visit G x1 with hc | hc | hc
    · exact absurd (by rw [hc]; rfl) hne
    · have hE2 : E = "java/lang/IllegalStateException" := by rw [hE, hc]; rfl
      subst hE2
      have hH := hk_visit G x1 (by rw [hc]; decide)
      refine vx_catch (own := RL) (name := "java/lang/IllegalStateException") F.2.2.2.1 [⟨0, 9, 12, 21⟩] ⟨0, 9, 15, 15⟩ [] (ht.trans rfl) (fun z hz => by obtain rfl := List.mem_singleton.mp hz; exact Or.inr ⟨by decide, "java/lang/IndexOutOfBoundsException", F.2.2.2.2 _ wL_L_21, w.2.2.2.2.2.2.2.2.1 ("java/lang/IllegalStateException", "java/lang/IndexOutOfBoundsException") (by decide +kernel)⟩) (by decide) (by decide) (F.2.2.2.2 _ wL_L_15) (va_Nw.use rfl (w.2.2.2.2.2.2.2.1 ("java/lang/IllegalStateException", "java/lang/IllegalStateException") (by decide +kernel))) hce hcv hcl ?_
      refine lv_astore_n (lv' := [(3, .ref q9), (0, .ref (AD 0 0 0)), (1, .int x1), (2, .ref o)]) F.1 F.2.1 dL_visit_15 rfl hl (by decide) rfl (fun ls hl => ?_)
      refine lv_iconst (v := 2) F.1 F.2.1 dL_visit_16 (by decide) ?_
      refine W.widen (k := 5) (n := 2019) (Nat.le_of_ble_eq_true rfl) (Nat.le_of_ble_eq_true rfl) ?_
      exact q_retI (S := Unit) F hr hlk w ⟨by rw [hc]; rfl, X, AD, f, rfl, hd, rfl, by rw [hH]; exact hM, fun z => absurd (hc.symm.trans z) (by decide)⟩ dL_visit_17
    · have hE2 : E = "java/lang/IndexOutOfBoundsException" := by rw [hE, hc]; rfl
      subst hE2
      have hH := hk_visit G x1 (by rw [hc]; decide)
      refine vx_catch (own := RL) (name := "java/lang/IndexOutOfBoundsException") F.2.2.2.1 [] ⟨0, 9, 12, 21⟩ [⟨0, 9, 15, 15⟩] (ht.trans rfl) (fun z hz => nomatch hz) (by decide) (by decide) (F.2.2.2.2 _ wL_L_21) (va_Nw.use rfl (w.2.2.2.2.2.2.2.1 ("java/lang/IndexOutOfBoundsException", "java/lang/IndexOutOfBoundsException") (by decide +kernel))) hce hcv hcl ?_
      refine lv_astore_n (lv' := [(3, .ref q9), (0, .ref (AD 0 0 0)), (1, .int x1), (2, .ref o)]) F.1 F.2.1 dL_visit_12 rfl hl (by decide) rfl (fun ls hl => ?_)
      refine lv_iconst (v := 1) F.1 F.2.1 dL_visit_13 (by decide) ?_
      refine W.widen (k := 5) (n := 2019) (Nat.le_of_ble_eq_true rfl) (Nat.le_of_ble_eq_true rfl) ?_
      exact q_retI (S := Unit) F hr hlk w ⟨by rw [hc]; rfl, X, AD, f, rfl, hd, rfl, by rw [hH]; exact hM, fun z => absurd (hc.symm.trans z) (by decide)⟩ dL_visit_14
  · obtain ⟨hx0, hv, AD1, hA, hM1⟩ := hp
    refine lv_i2l F.1 F.2.1 dL_visit_7 rfl ?_
    refine q_lsto F w hd dL_visit_8 (fun f1 H locs hf1 hd w => ?_)
    refine lv_goto (tgt := 18) F.1 F.2.1 dL_visit_9 (by decide) ?_
    refine lv_iconst (v := 0) F.1 F.2.1 dL_visit_18 (by decide) ?_
    refine W.widen (k := 5) (n := 2019) (Nat.le_of_ble_eq_true rfl) (Nat.le_of_ble_eq_true rfl) ?_
    exact q_retI (S := Unit) F hr hlk w ⟨by rw [hx0]; rfl, X1, AD1, f1, rfl, hd, hA, hM1, fun z => by rw [hf1, hv]⟩ dL_visit_19
theorem cw_finds : Cond.codeWith yL_finds cL_finds 6 (Option.some Jvm.ClassFile.FieldType.int) [(0, 12, 15, 21), (0, 12, 19, 13), (0, 12, 23, 15)] ∈ BIG := BIG_t 676 (by decide +kernel) (by decide +kernel)
theorem kW_finds : GoodIn BIG (va_wsS RL 139 yL_finds (WSh yL_finds cL_finds 6 (Option.some Jvm.ClassFile.FieldType.int) [(0, 12, 15, 21), (0, 12, 19, 13), (0, 12, 23, 15)])) := gSh (BIG_t 674 (by decide +kernel) (by decide +kernel)) (BIG_t 675 (by decide +kernel) (by decide +kernel)) wI_L cw_finds
theorem hdW_finds : yL_finds.cls ≠ "java/lang/invoke/MethodHandle" ∧ yL_finds.cls ≠ "java/lang/invoke/VarHandle" ∧ (parseMethodDescriptor yL_finds.desc).map (fun d => d.parameters.length) = some 5 := by decide +kernel
theorem kr_finds (G : GS) (x1 x2 x3 : Int32) : K_finds G x1 x2 x3 = 0 ∨ K_finds G x1 x2 x3 = 1 ∨ K_finds G x1 x2 x3 = 2 ∨ K_finds G x1 x2 x3 = 3 := by
  unfold K_finds x_X6_finds
  (repeat' split) <;> decide
theorem hk_finds (G : GS) (x1 x2 x3 : Int32) (h : K_finds G x1 x2 x3 ≠ 0) : H_finds G x1 x2 x3 = G := by
  unfold K_finds x_X6_finds at h
  unfold H_finds g_X6_finds
  (repeat' split) <;> first | rfl | simp_all
set_option maxHeartbeats 4000000 in
set_option maxRecDepth 100000 in
theorem c_L_finds (l : Launch) (D : va_G) (cy : Nat → ClassId) (A : Nat → Prop) (X : MU) (AD : AM) (G : GS) (hM : RepC cy AD G X) (hI : InvC G) {o : Nat} (f : Nat → Int64) (hd : dis X (oneO cy o f)) (x1 x2 x3 : Int32) (hn : ∀ s, s < gnS G → gnN G s < 514) (hlf : l.stackTraces = false) : Met l yL_finds (WSh yL_finds cL_finds 6 (Option.some Jvm.ClassFile.FieldType.int) [(0, 12, 15, 21), (0, 12, 19, 13), (0, 12, 23, 15)]) { frames := 9, cells := 4, slots := 2007, locals := 249 } (va_Pc [.ref (AD 0 0 0), .int x1, .int x2, .int x3, .ref o] (Wd D cy A (un X (oneO cy o f)))) (va_Qi (fun (k9 : Int32) (μ1 : MU) => k9 = kkm 2 3 1 (K_finds G x1 x2 x3) ∧ PW cy o AD (H_finds G x1 x2 x3) (K_finds G x1 x2 x3 = 0) (F_finds G x1 x2 x3).toInt64 μ1) (fun μ1 t => Wd D cy A μ1 t) A) 4 2007 A := by
  refine q_metW (by decide) (Nat.le_of_ble_eq_true rfl) ?_
  intro p e s m below meth c F w hr hlk ht ls hl
  have F : CallFix p m c cL_finds 6 s _ BIG RL := F
  have hl : lv_has ls 6 [(0, .ref (AD 0 0 0)), (1, .int x1), (2, .int x2), (3, .int x3), (4, .ref o)] := hl
  refine lv_aload F.1 F.2.1 dL_finds_0 (lv_at hl 4 rfl) ?_
  refine lv_iconst (v := 0) F.1 F.2.1 dL_finds_2 (by decide) ?_
  refine lv_aload_n F.1 F.2.1 dL_finds_3 rfl (lv_at hl 0 rfl) ?_
  refine lv_iload_n F.1 F.2.1 dL_finds_4 rfl (lv_at hl 1 rfl) ?_
  refine lv_iload_n F.1 F.2.1 dL_finds_5 rfl (lv_at hl 2 rfl) ?_
  refine lv_iload_n F.1 F.2.1 dL_finds_6 rfl (lv_at hl 3 rfl) ?_
  refine q_uVx (rest := [.int 0, .ref o]) F w hd kV_L_51 hd_X6_finds (ci := 7) rfl (t_X6_finds l D cy _ _ AD G hM hI x1 x2 x3 hn hlf) (hM.a0 ⟨by decide, rfl, rfl⟩) dL_finds_7 rfl rfl hl.1 ⟨rfl, rfl, (Nat.le_of_ble_eq_true rfl), (Nat.le_of_ble_eq_true rfl)⟩ (Nat.le_of_ble_eq_true rfl) ⟨(Nat.le_of_ble_eq_true rfl), (Nat.le_of_ble_eq_true rfl)⟩ (fun E ce q9 H locs hE hne w hce hcv hcl => ?_) (fun v9 X1 H locs hp hd w => ?_)
  · rcases kr_finds G x1 x2 x3 with hc | hc | hc | hc
    · exact absurd (by rw [hc]; rfl) hne
    · have hE2 : E = "java/lang/IllegalArgumentException" := by rw [hE, hc]; rfl
      subst hE2
      have hH := hk_finds G x1 x2 x3 (by rw [hc]; decide)
      refine vx_catch (own := RL) (name := "java/lang/IllegalArgumentException") F.2.2.2.1 [⟨0, 12, 15, 21⟩] ⟨0, 12, 19, 13⟩ [⟨0, 12, 23, 15⟩] (ht.trans rfl) (fun z hz => by obtain rfl := List.mem_singleton.mp hz; exact Or.inr ⟨by decide, "java/lang/IndexOutOfBoundsException", F.2.2.2.2 _ wL_L_21, w.2.2.2.2.2.2.2.2.1 ("java/lang/IllegalArgumentException", "java/lang/IndexOutOfBoundsException") (by decide +kernel)⟩) (by decide) (by decide) (F.2.2.2.2 _ wL_L_13) (va_Nw.use rfl (w.2.2.2.2.2.2.2.1 ("java/lang/IllegalArgumentException", "java/lang/IllegalArgumentException") (by decide +kernel))) hce hcv hcl ?_
      refine lv_astore (lv' := [(5, .ref q9), (0, .ref (AD 0 0 0)), (1, .int x1), (2, .int x2), (3, .int x3), (4, .ref o)]) F.1 F.2.1 dL_finds_19 hl (by decide) rfl (fun ls hl => ?_)
      refine lv_iconst (v := 2) F.1 F.2.1 dL_finds_21 (by decide) ?_
      refine W.widen (k := 4) (n := 2007) (Nat.le_of_ble_eq_true rfl) (Nat.le_of_ble_eq_true rfl) ?_
      exact q_retI (S := Unit) F hr hlk w ⟨by rw [hc]; rfl, X, AD, f, rfl, hd, rfl, by rw [hH]; exact hM, fun z => absurd (hc.symm.trans z) (by decide)⟩ dL_finds_22
    · have hE2 : E = "java/lang/IllegalStateException" := by rw [hE, hc]; rfl
      subst hE2
      have hH := hk_finds G x1 x2 x3 (by rw [hc]; decide)
      refine vx_catch (own := RL) (name := "java/lang/IllegalStateException") F.2.2.2.1 [⟨0, 12, 15, 21⟩, ⟨0, 12, 19, 13⟩] ⟨0, 12, 23, 15⟩ [] (ht.trans rfl) (fun z hz => (List.mem_cons.mp hz).elim (fun e9 => by subst e9; exact Or.inr ⟨by decide, "java/lang/IndexOutOfBoundsException", F.2.2.2.2 _ wL_L_21, w.2.2.2.2.2.2.2.2.1 ("java/lang/IllegalStateException", "java/lang/IndexOutOfBoundsException") (by decide +kernel)⟩) (fun hz => by obtain rfl := List.mem_singleton.mp hz; exact Or.inr ⟨by decide, "java/lang/IllegalArgumentException", F.2.2.2.2 _ wL_L_13, w.2.2.2.2.2.2.2.2.1 ("java/lang/IllegalStateException", "java/lang/IllegalArgumentException") (by decide +kernel)⟩)) (by decide) (by decide) (F.2.2.2.2 _ wL_L_15) (va_Nw.use rfl (w.2.2.2.2.2.2.2.1 ("java/lang/IllegalStateException", "java/lang/IllegalStateException") (by decide +kernel))) hce hcv hcl ?_
      refine lv_astore (lv' := [(5, .ref q9), (0, .ref (AD 0 0 0)), (1, .int x1), (2, .int x2), (3, .int x3), (4, .ref o)]) F.1 F.2.1 dL_finds_23 hl (by decide) rfl (fun ls hl => ?_)
      refine lv_iconst (v := 3) F.1 F.2.1 dL_finds_25 (by decide) ?_
      refine W.widen (k := 4) (n := 2007) (Nat.le_of_ble_eq_true rfl) (Nat.le_of_ble_eq_true rfl) ?_
      exact q_retI (S := Unit) F hr hlk w ⟨by rw [hc]; rfl, X, AD, f, rfl, hd, rfl, by rw [hH]; exact hM, fun z => absurd (hc.symm.trans z) (by decide)⟩ dL_finds_26
    · have hE2 : E = "java/lang/IndexOutOfBoundsException" := by rw [hE, hc]; rfl
      subst hE2
      have hH := hk_finds G x1 x2 x3 (by rw [hc]; decide)
      refine vx_catch (own := RL) (name := "java/lang/IndexOutOfBoundsException") F.2.2.2.1 [] ⟨0, 12, 15, 21⟩ [⟨0, 12, 19, 13⟩, ⟨0, 12, 23, 15⟩] (ht.trans rfl) (fun z hz => nomatch hz) (by decide) (by decide) (F.2.2.2.2 _ wL_L_21) (va_Nw.use rfl (w.2.2.2.2.2.2.2.1 ("java/lang/IndexOutOfBoundsException", "java/lang/IndexOutOfBoundsException") (by decide +kernel))) hce hcv hcl ?_
      refine lv_astore (lv' := [(5, .ref q9), (0, .ref (AD 0 0 0)), (1, .int x1), (2, .int x2), (3, .int x3), (4, .ref o)]) F.1 F.2.1 dL_finds_15 hl (by decide) rfl (fun ls hl => ?_)
      refine lv_iconst (v := 1) F.1 F.2.1 dL_finds_17 (by decide) ?_
      refine W.widen (k := 4) (n := 2007) (Nat.le_of_ble_eq_true rfl) (Nat.le_of_ble_eq_true rfl) ?_
      exact q_retI (S := Unit) F hr hlk w ⟨by rw [hc]; rfl, X, AD, f, rfl, hd, rfl, by rw [hH]; exact hM, fun z => absurd (hc.symm.trans z) (by decide)⟩ dL_finds_18
  · obtain ⟨hx0, hv, AD1, hA, hM1⟩ := hp
    refine lv_i2l F.1 F.2.1 dL_finds_10 rfl ?_
    refine q_lsto F w hd dL_finds_11 (fun f1 H locs hf1 hd w => ?_)
    refine lv_goto (tgt := 27) F.1 F.2.1 dL_finds_12 (by decide) ?_
    refine lv_iconst (v := 0) F.1 F.2.1 dL_finds_27 (by decide) ?_
    refine W.widen (k := 4) (n := 2007) (Nat.le_of_ble_eq_true rfl) (Nat.le_of_ble_eq_true rfl) ?_
    exact q_retI (S := Unit) F hr hlk w ⟨by rw [hx0]; rfl, X1, AD1, f1, rfl, hd, hA, hM1, fun z => by rw [hf1, hv]⟩ dL_finds_28
theorem cw_mends : Cond.codeWith yL_mends cL_mends 6 (Option.some Jvm.ClassFile.FieldType.int) [(0, 12, 15, 21), (0, 12, 19, 15)] ∈ BIG := BIG_t 724 (by decide +kernel) (by decide +kernel)
theorem kW_mends : GoodIn BIG (va_wsS RL 142 yL_mends (WSh yL_mends cL_mends 6 (Option.some Jvm.ClassFile.FieldType.int) [(0, 12, 15, 21), (0, 12, 19, 15)])) := gSh (BIG_t 722 (by decide +kernel) (by decide +kernel)) (BIG_t 723 (by decide +kernel) (by decide +kernel)) wI_L cw_mends
theorem hdW_mends : yL_mends.cls ≠ "java/lang/invoke/MethodHandle" ∧ yL_mends.cls ≠ "java/lang/invoke/VarHandle" ∧ (parseMethodDescriptor yL_mends.desc).map (fun d => d.parameters.length) = some 5 := by decide +kernel
theorem kr_mends (G : GS) (x1 x2 x3 : Int32) : K_mends G x1 x2 x3 = 0 ∨ K_mends G x1 x2 x3 = 2 ∨ K_mends G x1 x2 x3 = 3 := by
  unfold K_mends x_X6_mends
  (repeat' split) <;> decide
theorem hk_mends (G : GS) (x1 x2 x3 : Int32) (h : K_mends G x1 x2 x3 ≠ 0) : H_mends G x1 x2 x3 = G := by
  unfold K_mends x_X6_mends at h
  unfold H_mends g_X6_mends
  (repeat' split) <;> first | rfl | simp_all
set_option maxHeartbeats 4000000 in
set_option maxRecDepth 100000 in
theorem c_L_mends (l : Launch) (D : va_G) (cy : Nat → ClassId) (A : Nat → Prop) (X : MU) (AD : AM) (G : GS) (hM : RepC cy AD G X) (hI : InvC G) {o : Nat} (f : Nat → Int64) (hd : dis X (oneO cy o f)) (x1 x2 x3 : Int32) (hx3 : x3 = 0 ∨ x3 = 1) (hlf : l.stackTraces = false) : Met l yL_mends (WSh yL_mends cL_mends 6 (Option.some Jvm.ClassFile.FieldType.int) [(0, 12, 15, 21), (0, 12, 19, 15)]) { frames := 8, cells := 1, slots := 6, locals := 146 } (va_Pc [.ref (AD 0 0 0), .int x1, .int x2, .int x3, .ref o] (Wd D cy A (un X (oneO cy o f)))) (va_Qi (fun (k9 : Int32) (μ1 : MU) => k9 = kkm 0 2 1 (K_mends G x1 x2 x3) ∧ PW cy o AD (H_mends G x1 x2 x3) (K_mends G x1 x2 x3 = 0) (F_mends G x1 x2 x3).toInt64 μ1) (fun μ1 t => Wd D cy A μ1 t) A) 1 6 A := by
  refine q_metW (by decide) (Nat.le_of_ble_eq_true rfl) ?_
  intro p e s m below meth c F w hr hlk ht ls hl
  have F : CallFix p m c cL_mends 6 s _ BIG RL := F
  have hl : lv_has ls 6 [(0, .ref (AD 0 0 0)), (1, .int x1), (2, .int x2), (3, .int x3), (4, .ref o)] := hl
  refine lv_aload F.1 F.2.1 dL_mends_0 (lv_at hl 4 rfl) ?_
  refine lv_iconst (v := 0) F.1 F.2.1 dL_mends_2 (by decide) ?_
  refine lv_aload_n F.1 F.2.1 dL_mends_3 rfl (lv_at hl 0 rfl) ?_
  refine lv_iload_n F.1 F.2.1 dL_mends_4 rfl (lv_at hl 1 rfl) ?_
  refine lv_iload_n F.1 F.2.1 dL_mends_5 rfl (lv_at hl 2 rfl) ?_
  refine lv_iload_n F.1 F.2.1 dL_mends_6 rfl (lv_at hl 3 rfl) ?_
  refine q_uVx (rest := [.int 0, .ref o]) F w hd kV_L_54 hd_X6_mends (ci := 7) rfl (t_X6_mends l D cy _ _ AD G hM hI x1 x2 x3 hx3 hlf) (hM.a0 ⟨by decide, rfl, rfl⟩) dL_mends_7 rfl rfl hl.1 ⟨rfl, rfl, (Nat.le_of_ble_eq_true rfl), (Nat.le_of_ble_eq_true rfl)⟩ (Nat.le_of_ble_eq_true rfl) ⟨(Nat.le_of_ble_eq_true rfl), (Nat.le_of_ble_eq_true rfl)⟩ (fun E ce q9 H locs hE hne w hce hcv hcl => ?_) (fun v9 X1 H locs hp hd w => ?_)
  · rcases kr_mends G x1 x2 x3 with hc | hc | hc
    · exact absurd (by rw [hc]; rfl) hne
    · have hE2 : E = "java/lang/IllegalStateException" := by rw [hE, hc]; rfl
      subst hE2
      have hH := hk_mends G x1 x2 x3 (by rw [hc]; decide)
      refine vx_catch (own := RL) (name := "java/lang/IllegalStateException") F.2.2.2.1 [⟨0, 12, 15, 21⟩] ⟨0, 12, 19, 15⟩ [] (ht.trans rfl) (fun z hz => by obtain rfl := List.mem_singleton.mp hz; exact Or.inr ⟨by decide, "java/lang/IndexOutOfBoundsException", F.2.2.2.2 _ wL_L_21, w.2.2.2.2.2.2.2.2.1 ("java/lang/IllegalStateException", "java/lang/IndexOutOfBoundsException") (by decide +kernel)⟩) (by decide) (by decide) (F.2.2.2.2 _ wL_L_15) (va_Nw.use rfl (w.2.2.2.2.2.2.2.1 ("java/lang/IllegalStateException", "java/lang/IllegalStateException") (by decide +kernel))) hce hcv hcl ?_
      refine lv_astore (lv' := [(5, .ref q9), (0, .ref (AD 0 0 0)), (1, .int x1), (2, .int x2), (3, .int x3), (4, .ref o)]) F.1 F.2.1 dL_mends_19 hl (by decide) rfl (fun ls hl => ?_)
      refine lv_iconst (v := 2) F.1 F.2.1 dL_mends_21 (by decide) ?_
      refine W.widen (k := 1) (n := 6) (Nat.le_of_ble_eq_true rfl) (Nat.le_of_ble_eq_true rfl) ?_
      exact q_retI (S := Unit) F hr hlk w ⟨by rw [hc]; rfl, X, AD, f, rfl, hd, rfl, by rw [hH]; exact hM, fun z => absurd (hc.symm.trans z) (by decide)⟩ dL_mends_22
    · have hE2 : E = "java/lang/IndexOutOfBoundsException" := by rw [hE, hc]; rfl
      subst hE2
      have hH := hk_mends G x1 x2 x3 (by rw [hc]; decide)
      refine vx_catch (own := RL) (name := "java/lang/IndexOutOfBoundsException") F.2.2.2.1 [] ⟨0, 12, 15, 21⟩ [⟨0, 12, 19, 15⟩] (ht.trans rfl) (fun z hz => nomatch hz) (by decide) (by decide) (F.2.2.2.2 _ wL_L_21) (va_Nw.use rfl (w.2.2.2.2.2.2.2.1 ("java/lang/IndexOutOfBoundsException", "java/lang/IndexOutOfBoundsException") (by decide +kernel))) hce hcv hcl ?_
      refine lv_astore (lv' := [(5, .ref q9), (0, .ref (AD 0 0 0)), (1, .int x1), (2, .int x2), (3, .int x3), (4, .ref o)]) F.1 F.2.1 dL_mends_15 hl (by decide) rfl (fun ls hl => ?_)
      refine lv_iconst (v := 1) F.1 F.2.1 dL_mends_17 (by decide) ?_
      refine W.widen (k := 1) (n := 6) (Nat.le_of_ble_eq_true rfl) (Nat.le_of_ble_eq_true rfl) ?_
      exact q_retI (S := Unit) F hr hlk w ⟨by rw [hc]; rfl, X, AD, f, rfl, hd, rfl, by rw [hH]; exact hM, fun z => absurd (hc.symm.trans z) (by decide)⟩ dL_mends_18
  · obtain ⟨hx0, hv, AD1, hA, hM1⟩ := hp
    refine lv_i2l F.1 F.2.1 dL_mends_10 rfl ?_
    refine q_lsto F w hd dL_mends_11 (fun f1 H locs hf1 hd w => ?_)
    refine lv_goto (tgt := 23) F.1 F.2.1 dL_mends_12 (by decide) ?_
    refine lv_iconst (v := 0) F.1 F.2.1 dL_mends_23 (by decide) ?_
    refine W.widen (k := 1) (n := 6) (Nat.le_of_ble_eq_true rfl) (Nat.le_of_ble_eq_true rfl) ?_
    exact q_retI (S := Unit) F hr hlk w ⟨by rw [hx0]; rfl, X1, AD1, f1, rfl, hd, hA, hM1, fun z => by rw [hf1, hv]⟩ dL_mends_24
theorem cw_detain : Cond.codeWith yL_detain cL_detain 4 (Option.some Jvm.ClassFile.FieldType.int) [(0, 9, 12, 21), (0, 9, 15, 15)] ∈ BIG := BIG_t 742 (by decide +kernel) (by decide +kernel)
theorem kW_detain : GoodIn BIG (va_wsS RL 146 yL_detain (WSh yL_detain cL_detain 4 (Option.some Jvm.ClassFile.FieldType.int) [(0, 9, 12, 21), (0, 9, 15, 15)])) := gSh (BIG_t 740 (by decide +kernel) (by decide +kernel)) (BIG_t 741 (by decide +kernel) (by decide +kernel)) wI_L cw_detain
theorem hdW_detain : yL_detain.cls ≠ "java/lang/invoke/MethodHandle" ∧ yL_detain.cls ≠ "java/lang/invoke/VarHandle" ∧ (parseMethodDescriptor yL_detain.desc).map (fun d => d.parameters.length) = some 3 := by decide +kernel
theorem kr_detain (G : GS) (x1 : Int32) : K_detain G x1 = 0 ∨ K_detain G x1 = 2 ∨ K_detain G x1 = 3 := by
  unfold K_detain x_X6_detain
  (repeat' split) <;> decide
theorem hk_detain (G : GS) (x1 : Int32) (h : K_detain G x1 ≠ 0) : H_detain G x1 = G := by
  unfold K_detain x_X6_detain at h
  unfold H_detain g_X6_detain
  (repeat' split) <;> first | rfl | simp_all
set_option maxHeartbeats 4000000 in
set_option maxRecDepth 100000 in
theorem c_L_detain (l : Launch) (D : va_G) (cy : Nat → ClassId) (A : Nat → Prop) (X : MU) (AD : AM) (G : GS) (hM : RepC cy AD G X) (hI : InvC G) {o : Nat} (f : Nat → Int64) (hd : dis X (oneO cy o f)) (x1 : Int32) (hn : ∀ s, s < gnS G → gnN G s < 514) (hlf : l.stackTraces = false) : Met l yL_detain (WSh yL_detain cL_detain 4 (Option.some Jvm.ClassFile.FieldType.int) [(0, 9, 12, 21), (0, 9, 15, 15)]) { frames := 9, cells := 2, slots := 1004, locals := 247 } (va_Pc [.ref (AD 0 0 0), .int x1, .ref o] (Wd D cy A (un X (oneO cy o f)))) (va_Qi (fun (k9 : Int32) (μ1 : MU) => k9 = kkm 0 2 1 (K_detain G x1) ∧ PW cy o AD (H_detain G x1) (K_detain G x1 = 0) (F_detain G x1).toInt64 μ1) (fun μ1 t => Wd D cy A μ1 t) A) 2 1004 A := by
  refine q_metW (by decide) (Nat.le_of_ble_eq_true rfl) ?_
  intro p e s m below meth c F w hr hlk ht ls hl
  have F : CallFix p m c cL_detain 4 s _ BIG RL := F
  have hl : lv_has ls 4 [(0, .ref (AD 0 0 0)), (1, .int x1), (2, .ref o)] := hl
  refine lv_aload_n F.1 F.2.1 dL_detain_0 rfl (lv_at hl 2 rfl) ?_
  refine lv_iconst (v := 0) F.1 F.2.1 dL_detain_1 (by decide) ?_
  refine lv_aload_n F.1 F.2.1 dL_detain_2 rfl (lv_at hl 0 rfl) ?_
  refine lv_iload_n F.1 F.2.1 dL_detain_3 rfl (lv_at hl 1 rfl) ?_
  refine q_uVx (rest := [.int 0, .ref o]) F w hd kV_L_58 hd_X6_detain (ci := 7) rfl (t_X6_detain l D cy _ _ AD G hM hI x1 hn hlf) (hM.a0 ⟨by decide, rfl, rfl⟩) dL_detain_4 rfl rfl hl.1 ⟨rfl, rfl, (Nat.le_of_ble_eq_true rfl), (Nat.le_of_ble_eq_true rfl)⟩ (Nat.le_of_ble_eq_true rfl) ⟨(Nat.le_of_ble_eq_true rfl), (Nat.le_of_ble_eq_true rfl)⟩ (fun E ce q9 H locs hE hne w hce hcv hcl => ?_) (fun v9 X1 H locs hp hd w => ?_)
  · rcases kr_detain G x1 with hc | hc | hc
    · exact absurd (by rw [hc]; rfl) hne
    · have hE2 : E = "java/lang/IllegalStateException" := by rw [hE, hc]; rfl
      subst hE2
      have hH := hk_detain G x1 (by rw [hc]; decide)
      refine vx_catch (own := RL) (name := "java/lang/IllegalStateException") F.2.2.2.1 [⟨0, 9, 12, 21⟩] ⟨0, 9, 15, 15⟩ [] (ht.trans rfl) (fun z hz => by obtain rfl := List.mem_singleton.mp hz; exact Or.inr ⟨by decide, "java/lang/IndexOutOfBoundsException", F.2.2.2.2 _ wL_L_21, w.2.2.2.2.2.2.2.2.1 ("java/lang/IllegalStateException", "java/lang/IndexOutOfBoundsException") (by decide +kernel)⟩) (by decide) (by decide) (F.2.2.2.2 _ wL_L_15) (va_Nw.use rfl (w.2.2.2.2.2.2.2.1 ("java/lang/IllegalStateException", "java/lang/IllegalStateException") (by decide +kernel))) hce hcv hcl ?_
      refine lv_astore_n (lv' := [(3, .ref q9), (0, .ref (AD 0 0 0)), (1, .int x1), (2, .ref o)]) F.1 F.2.1 dL_detain_15 rfl hl (by decide) rfl (fun ls hl => ?_)
      refine lv_iconst (v := 2) F.1 F.2.1 dL_detain_16 (by decide) ?_
      refine W.widen (k := 2) (n := 1004) (Nat.le_of_ble_eq_true rfl) (Nat.le_of_ble_eq_true rfl) ?_
      exact q_retI (S := Unit) F hr hlk w ⟨by rw [hc]; rfl, X, AD, f, rfl, hd, rfl, by rw [hH]; exact hM, fun z => absurd (hc.symm.trans z) (by decide)⟩ dL_detain_17
    · have hE2 : E = "java/lang/IndexOutOfBoundsException" := by rw [hE, hc]; rfl
      subst hE2
      have hH := hk_detain G x1 (by rw [hc]; decide)
      refine vx_catch (own := RL) (name := "java/lang/IndexOutOfBoundsException") F.2.2.2.1 [] ⟨0, 9, 12, 21⟩ [⟨0, 9, 15, 15⟩] (ht.trans rfl) (fun z hz => nomatch hz) (by decide) (by decide) (F.2.2.2.2 _ wL_L_21) (va_Nw.use rfl (w.2.2.2.2.2.2.2.1 ("java/lang/IndexOutOfBoundsException", "java/lang/IndexOutOfBoundsException") (by decide +kernel))) hce hcv hcl ?_
      refine lv_astore_n (lv' := [(3, .ref q9), (0, .ref (AD 0 0 0)), (1, .int x1), (2, .ref o)]) F.1 F.2.1 dL_detain_12 rfl hl (by decide) rfl (fun ls hl => ?_)
      refine lv_iconst (v := 1) F.1 F.2.1 dL_detain_13 (by decide) ?_
      refine W.widen (k := 2) (n := 1004) (Nat.le_of_ble_eq_true rfl) (Nat.le_of_ble_eq_true rfl) ?_
      exact q_retI (S := Unit) F hr hlk w ⟨by rw [hc]; rfl, X, AD, f, rfl, hd, rfl, by rw [hH]; exact hM, fun z => absurd (hc.symm.trans z) (by decide)⟩ dL_detain_14
  · obtain ⟨hx0, hv, AD1, hA, hM1⟩ := hp
    refine lv_i2l F.1 F.2.1 dL_detain_7 rfl ?_
    refine q_lsto F w hd dL_detain_8 (fun f1 H locs hf1 hd w => ?_)
    refine lv_goto (tgt := 18) F.1 F.2.1 dL_detain_9 (by decide) ?_
    refine lv_iconst (v := 0) F.1 F.2.1 dL_detain_18 (by decide) ?_
    refine W.widen (k := 2) (n := 1004) (Nat.le_of_ble_eq_true rfl) (Nat.le_of_ble_eq_true rfl) ?_
    exact q_retI (S := Unit) F hr hlk w ⟨by rw [hx0]; rfl, X1, AD1, f1, rfl, hd, hA, hM1, fun z => by rw [hf1, hv]⟩ dL_detain_19
theorem cw_release : Cond.codeWith yL_release cL_release 4 (Option.some Jvm.ClassFile.FieldType.int) [(0, 9, 12, 21), (0, 9, 15, 15)] ∈ BIG := BIG_t 766 (by decide +kernel) (by decide +kernel)
theorem kW_release : GoodIn BIG (va_wsS RL 149 yL_release (WSh yL_release cL_release 4 (Option.some Jvm.ClassFile.FieldType.int) [(0, 9, 12, 21), (0, 9, 15, 15)])) := gSh (BIG_t 764 (by decide +kernel) (by decide +kernel)) (BIG_t 765 (by decide +kernel) (by decide +kernel)) wI_L cw_release
theorem hdW_release : yL_release.cls ≠ "java/lang/invoke/MethodHandle" ∧ yL_release.cls ≠ "java/lang/invoke/VarHandle" ∧ (parseMethodDescriptor yL_release.desc).map (fun d => d.parameters.length) = some 3 := by decide +kernel
theorem kr_release (G : GS) (x1 : Int32) : K_release G x1 = 0 ∨ K_release G x1 = 2 ∨ K_release G x1 = 3 := by
  unfold K_release x_X6_release
  (repeat' split) <;> decide
theorem hk_release (G : GS) (x1 : Int32) (h : K_release G x1 ≠ 0) : H_release G x1 = G := by
  unfold K_release x_X6_release at h
  unfold H_release g_X6_release
  (repeat' split) <;> first | rfl | simp_all
set_option maxHeartbeats 4000000 in
set_option maxRecDepth 100000 in
theorem c_L_release (l : Launch) (D : va_G) (cy : Nat → ClassId) (A : Nat → Prop) (X : MU) (AD : AM) (G : GS) (hM : RepC cy AD G X) (hI : InvC G) {o : Nat} (f : Nat → Int64) (hd : dis X (oneO cy o f)) (x1 : Int32) (hlf : l.stackTraces = false) : Met l yL_release (WSh yL_release cL_release 4 (Option.some Jvm.ClassFile.FieldType.int) [(0, 9, 12, 21), (0, 9, 15, 15)]) { frames := 8, cells := 1, slots := 6, locals := 145 } (va_Pc [.ref (AD 0 0 0), .int x1, .ref o] (Wd D cy A (un X (oneO cy o f)))) (va_Qi (fun (k9 : Int32) (μ1 : MU) => k9 = kkm 0 2 1 (K_release G x1) ∧ PW cy o AD (H_release G x1) (K_release G x1 = 0) (F_release G x1).toInt64 μ1) (fun μ1 t => Wd D cy A μ1 t) A) 1 6 A := by
  refine q_metW (by decide) (Nat.le_of_ble_eq_true rfl) ?_
  intro p e s m below meth c F w hr hlk ht ls hl
  have F : CallFix p m c cL_release 4 s _ BIG RL := F
  have hl : lv_has ls 4 [(0, .ref (AD 0 0 0)), (1, .int x1), (2, .ref o)] := hl
  refine lv_aload_n F.1 F.2.1 dL_release_0 rfl (lv_at hl 2 rfl) ?_
  refine lv_iconst (v := 0) F.1 F.2.1 dL_release_1 (by decide) ?_
  refine lv_aload_n F.1 F.2.1 dL_release_2 rfl (lv_at hl 0 rfl) ?_
  refine lv_iload_n F.1 F.2.1 dL_release_3 rfl (lv_at hl 1 rfl) ?_
  refine q_uVx (rest := [.int 0, .ref o]) F w hd kV_L_61 hd_X6_release (ci := 7) rfl (t_X6_release l D cy _ _ AD G hM hI x1 hlf) (hM.a0 ⟨by decide, rfl, rfl⟩) dL_release_4 rfl rfl hl.1 ⟨rfl, rfl, (Nat.le_of_ble_eq_true rfl), (Nat.le_of_ble_eq_true rfl)⟩ (Nat.le_of_ble_eq_true rfl) ⟨(Nat.le_of_ble_eq_true rfl), (Nat.le_of_ble_eq_true rfl)⟩ (fun E ce q9 H locs hE hne w hce hcv hcl => ?_) (fun v9 X1 H locs hp hd w => ?_)
  · rcases kr_release G x1 with hc | hc | hc
    · exact absurd (by rw [hc]; rfl) hne
    · have hE2 : E = "java/lang/IllegalStateException" := by rw [hE, hc]; rfl
      subst hE2
      have hH := hk_release G x1 (by rw [hc]; decide)
      refine vx_catch (own := RL) (name := "java/lang/IllegalStateException") F.2.2.2.1 [⟨0, 9, 12, 21⟩] ⟨0, 9, 15, 15⟩ [] (ht.trans rfl) (fun z hz => by obtain rfl := List.mem_singleton.mp hz; exact Or.inr ⟨by decide, "java/lang/IndexOutOfBoundsException", F.2.2.2.2 _ wL_L_21, w.2.2.2.2.2.2.2.2.1 ("java/lang/IllegalStateException", "java/lang/IndexOutOfBoundsException") (by decide +kernel)⟩) (by decide) (by decide) (F.2.2.2.2 _ wL_L_15) (va_Nw.use rfl (w.2.2.2.2.2.2.2.1 ("java/lang/IllegalStateException", "java/lang/IllegalStateException") (by decide +kernel))) hce hcv hcl ?_
      refine lv_astore_n (lv' := [(3, .ref q9), (0, .ref (AD 0 0 0)), (1, .int x1), (2, .ref o)]) F.1 F.2.1 dL_release_15 rfl hl (by decide) rfl (fun ls hl => ?_)
      refine lv_iconst (v := 2) F.1 F.2.1 dL_release_16 (by decide) ?_
      refine W.widen (k := 1) (n := 6) (Nat.le_of_ble_eq_true rfl) (Nat.le_of_ble_eq_true rfl) ?_
      exact q_retI (S := Unit) F hr hlk w ⟨by rw [hc]; rfl, X, AD, f, rfl, hd, rfl, by rw [hH]; exact hM, fun z => absurd (hc.symm.trans z) (by decide)⟩ dL_release_17
    · have hE2 : E = "java/lang/IndexOutOfBoundsException" := by rw [hE, hc]; rfl
      subst hE2
      have hH := hk_release G x1 (by rw [hc]; decide)
      refine vx_catch (own := RL) (name := "java/lang/IndexOutOfBoundsException") F.2.2.2.1 [] ⟨0, 9, 12, 21⟩ [⟨0, 9, 15, 15⟩] (ht.trans rfl) (fun z hz => nomatch hz) (by decide) (by decide) (F.2.2.2.2 _ wL_L_21) (va_Nw.use rfl (w.2.2.2.2.2.2.2.1 ("java/lang/IndexOutOfBoundsException", "java/lang/IndexOutOfBoundsException") (by decide +kernel))) hce hcv hcl ?_
      refine lv_astore_n (lv' := [(3, .ref q9), (0, .ref (AD 0 0 0)), (1, .int x1), (2, .ref o)]) F.1 F.2.1 dL_release_12 rfl hl (by decide) rfl (fun ls hl => ?_)
      refine lv_iconst (v := 1) F.1 F.2.1 dL_release_13 (by decide) ?_
      refine W.widen (k := 1) (n := 6) (Nat.le_of_ble_eq_true rfl) (Nat.le_of_ble_eq_true rfl) ?_
      exact q_retI (S := Unit) F hr hlk w ⟨by rw [hc]; rfl, X, AD, f, rfl, hd, rfl, by rw [hH]; exact hM, fun z => absurd (hc.symm.trans z) (by decide)⟩ dL_release_14
  · obtain ⟨hx0, hv, AD1, hA, hM1⟩ := hp
    refine lv_i2l F.1 F.2.1 dL_release_7 rfl ?_
    refine q_lsto F w hd dL_release_8 (fun f1 H locs hf1 hd w => ?_)
    refine lv_goto (tgt := 18) F.1 F.2.1 dL_release_9 (by decide) ?_
    refine lv_iconst (v := 0) F.1 F.2.1 dL_release_18 (by decide) ?_
    refine W.widen (k := 1) (n := 6) (Nat.le_of_ble_eq_true rfl) (Nat.le_of_ble_eq_true rfl) ?_
    exact q_retI (S := Unit) F hr hlk w ⟨by rw [hx0]; rfl, X1, AD1, f1, rfl, hd, hA, hM1, fun z => by rw [hf1, hv]⟩ dL_release_19
theorem cw_appeal : Cond.codeWith yL_appeal cL_appeal 3 (Option.some Jvm.ClassFile.FieldType.int) [(0, 5, 8, 21), (0, 5, 11, 15)] ∈ BIG := BIG_t 778 (by decide +kernel) (by decide +kernel)
theorem kW_appeal : GoodIn BIG (va_wsS RL 152 yL_appeal (WSh yL_appeal cL_appeal 3 (Option.some Jvm.ClassFile.FieldType.int) [(0, 5, 8, 21), (0, 5, 11, 15)])) := gSh (BIG_t 776 (by decide +kernel) (by decide +kernel)) (BIG_t 777 (by decide +kernel) (by decide +kernel)) wI_L cw_appeal
theorem hdW_appeal : yL_appeal.cls ≠ "java/lang/invoke/MethodHandle" ∧ yL_appeal.cls ≠ "java/lang/invoke/VarHandle" ∧ (parseMethodDescriptor yL_appeal.desc).map (fun d => d.parameters.length) = some 2 := by decide +kernel
theorem kr_appeal (G : GS) (x1 : Int32) : K_appeal G x1 = 0 ∨ K_appeal G x1 = 2 ∨ K_appeal G x1 = 3 := by
  unfold K_appeal x_X6_appeal
  (repeat' split) <;> decide
theorem hk_appeal (G : GS) (x1 : Int32) (h : K_appeal G x1 ≠ 0) : H_appeal G x1 = G := by
  unfold K_appeal x_X6_appeal at h
  unfold H_appeal g_X6_appeal
  (repeat' split) <;> first | rfl | simp_all
set_option maxHeartbeats 4000000 in
set_option maxRecDepth 100000 in
theorem c_L_appeal (l : Launch) (D : va_G) (cy : Nat → ClassId) (A : Nat → Prop) (X : MU) (AD : AM) (G : GS) (hM : RepC cy AD G X) (hI : InvC G) {o : Nat} (f : Nat → Int64) (hd : dis X (oneO cy o f)) (x1 : Int32) (hlf : l.stackTraces = false) : Met l yL_appeal (WSh yL_appeal cL_appeal 3 (Option.some Jvm.ClassFile.FieldType.int) [(0, 5, 8, 21), (0, 5, 11, 15)]) { frames := 8, cells := 1, slots := 6, locals := 143 } (va_Pc [.ref (AD 0 0 0), .int x1] (Wd D cy A (un X (oneO cy o f)))) (va_Qi (fun (k9 : Int32) (μ1 : MU) => k9 = kkm 0 2 1 (K_appeal G x1) ∧ PW cy o AD (H_appeal G x1) (False) 0 μ1) (fun μ1 t => Wd D cy A μ1 t) A) 1 6 A := by
  refine q_metW (by decide) (Nat.le_of_ble_eq_true rfl) ?_
  intro p e s m below meth c F w hr hlk ht ls hl
  have F : CallFix p m c cL_appeal 3 s _ BIG RL := F
  have hl : lv_has ls 3 [(0, .ref (AD 0 0 0)), (1, .int x1)] := hl
  refine lv_aload_n F.1 F.2.1 dL_appeal_0 rfl (lv_at hl 0 rfl) ?_
  refine lv_iload_n F.1 F.2.1 dL_appeal_1 rfl (lv_at hl 1 rfl) ?_
  refine q_uVxv (rest := []) F w hd kV_L_64 hd_X6_appeal (ci := 7) rfl (t_X6_appeal l D cy _ _ AD G hM hI x1 hlf) (hM.a0 ⟨by decide, rfl, rfl⟩) dL_appeal_2 rfl rfl hl.1 ⟨rfl, rfl, (Nat.le_of_ble_eq_true rfl), (Nat.le_of_ble_eq_true rfl)⟩ (Nat.le_of_ble_eq_true rfl) ⟨(Nat.le_of_ble_eq_true rfl), (Nat.le_of_ble_eq_true rfl)⟩ (fun E ce q9 H locs hE hne w hce hcv hcl => ?_) (fun X1 H locs hp hd w => ?_)
  · rcases kr_appeal G x1 with hc | hc | hc
    · exact absurd (by rw [hc]; rfl) hne
    · have hE2 : E = "java/lang/IllegalStateException" := by rw [hE, hc]; rfl
      subst hE2
      have hH := hk_appeal G x1 (by rw [hc]; decide)
      refine vx_catch (own := RL) (name := "java/lang/IllegalStateException") F.2.2.2.1 [⟨0, 5, 8, 21⟩] ⟨0, 5, 11, 15⟩ [] (ht.trans rfl) (fun z hz => by obtain rfl := List.mem_singleton.mp hz; exact Or.inr ⟨by decide, "java/lang/IndexOutOfBoundsException", F.2.2.2.2 _ wL_L_21, w.2.2.2.2.2.2.2.2.1 ("java/lang/IllegalStateException", "java/lang/IndexOutOfBoundsException") (by decide +kernel)⟩) (by decide) (by decide) (F.2.2.2.2 _ wL_L_15) (va_Nw.use rfl (w.2.2.2.2.2.2.2.1 ("java/lang/IllegalStateException", "java/lang/IllegalStateException") (by decide +kernel))) hce hcv hcl ?_
      refine lv_astore_n (lv' := [(2, .ref q9), (0, .ref (AD 0 0 0)), (1, .int x1)]) F.1 F.2.1 dL_appeal_11 rfl hl (by decide) rfl (fun ls hl => ?_)
      refine lv_iconst (v := 2) F.1 F.2.1 dL_appeal_12 (by decide) ?_
      refine W.widen (k := 1) (n := 6) (Nat.le_of_ble_eq_true rfl) (Nat.le_of_ble_eq_true rfl) ?_
      exact q_retI (S := Unit) F hr hlk w ⟨by rw [hc]; rfl, X, AD, f, rfl, hd, rfl, by rw [hH]; exact hM, fun z => z.elim⟩ dL_appeal_13
    · have hE2 : E = "java/lang/IndexOutOfBoundsException" := by rw [hE, hc]; rfl
      subst hE2
      have hH := hk_appeal G x1 (by rw [hc]; decide)
      refine vx_catch (own := RL) (name := "java/lang/IndexOutOfBoundsException") F.2.2.2.1 [] ⟨0, 5, 8, 21⟩ [⟨0, 5, 11, 15⟩] (ht.trans rfl) (fun z hz => nomatch hz) (by decide) (by decide) (F.2.2.2.2 _ wL_L_21) (va_Nw.use rfl (w.2.2.2.2.2.2.2.1 ("java/lang/IndexOutOfBoundsException", "java/lang/IndexOutOfBoundsException") (by decide +kernel))) hce hcv hcl ?_
      refine lv_astore_n (lv' := [(2, .ref q9), (0, .ref (AD 0 0 0)), (1, .int x1)]) F.1 F.2.1 dL_appeal_8 rfl hl (by decide) rfl (fun ls hl => ?_)
      refine lv_iconst (v := 1) F.1 F.2.1 dL_appeal_9 (by decide) ?_
      refine W.widen (k := 1) (n := 6) (Nat.le_of_ble_eq_true rfl) (Nat.le_of_ble_eq_true rfl) ?_
      exact q_retI (S := Unit) F hr hlk w ⟨by rw [hc]; rfl, X, AD, f, rfl, hd, rfl, by rw [hH]; exact hM, fun z => z.elim⟩ dL_appeal_10
  · obtain ⟨hx0, AD1, hA, hM1⟩ := hp
    refine lv_goto (tgt := 14) F.1 F.2.1 dL_appeal_5 (by decide) ?_
    refine lv_iconst (v := 0) F.1 F.2.1 dL_appeal_14 (by decide) ?_
    refine W.widen (k := 1) (n := 6) (Nat.le_of_ble_eq_true rfl) (Nat.le_of_ble_eq_true rfl) ?_
    exact q_retI (S := Unit) F hr hlk w ⟨by rw [hx0]; rfl, X1, AD1, f, rfl, hd, hA, hM1, fun z => z.elim⟩ dL_appeal_15
theorem cw_vote : Cond.codeWith yL_vote cL_vote 5 (Option.some Jvm.ClassFile.FieldType.int) [(0, 10, 13, 21), (0, 10, 17, 15)] ∈ BIG := BIG_t 786 (by decide +kernel) (by decide +kernel)
theorem kW_vote : GoodIn BIG (va_wsS RL 156 yL_vote (WSh yL_vote cL_vote 5 (Option.some Jvm.ClassFile.FieldType.int) [(0, 10, 13, 21), (0, 10, 17, 15)])) := gSh (BIG_t 784 (by decide +kernel) (by decide +kernel)) (BIG_t 785 (by decide +kernel) (by decide +kernel)) wI_L cw_vote
theorem hdW_vote : yL_vote.cls ≠ "java/lang/invoke/MethodHandle" ∧ yL_vote.cls ≠ "java/lang/invoke/VarHandle" ∧ (parseMethodDescriptor yL_vote.desc).map (fun d => d.parameters.length) = some 4 := by decide +kernel
theorem kr_vote (G : GS) (x1 x2 : Int32) : K_vote G x1 x2 = 0 ∨ K_vote G x1 x2 = 2 ∨ K_vote G x1 x2 = 3 := by
  unfold K_vote x_X6_vote
  (repeat' split) <;> decide
theorem hk_vote (G : GS) (x1 x2 : Int32) (h : K_vote G x1 x2 ≠ 0) : H_vote G x1 x2 = G := by
  unfold K_vote x_X6_vote at h
  unfold H_vote g_X6_vote
  (repeat' split) <;> first | rfl | simp_all
set_option maxHeartbeats 4000000 in
set_option maxRecDepth 100000 in
theorem c_L_vote (l : Launch) (D : va_G) (cy : Nat → ClassId) (A : Nat → Prop) (X : MU) (AD : AM) (G : GS) (hM : RepC cy AD G X) (hI : InvC G) {o : Nat} (f : Nat → Int64) (hd : dis X (oneO cy o f)) (x1 x2 : Int32) (hx2 : x2 = 0 ∨ x2 = 1) (hn : ∀ s, s < gnS G → gnN G s < 514) (hlf : l.stackTraces = false) : Met l yL_vote (WSh yL_vote cL_vote 5 (Option.some Jvm.ClassFile.FieldType.int) [(0, 10, 13, 21), (0, 10, 17, 15)]) { frames := 9, cells := 2, slots := 1004, locals := 248 } (va_Pc [.ref (AD 0 0 0), .int x1, .int x2, .ref o] (Wd D cy A (un X (oneO cy o f)))) (va_Qi (fun (k9 : Int32) (μ1 : MU) => k9 = kkm 0 2 1 (K_vote G x1 x2) ∧ PW cy o AD (H_vote G x1 x2) (K_vote G x1 x2 = 0) (F_vote G x1 x2).toInt64 μ1) (fun μ1 t => Wd D cy A μ1 t) A) 2 1004 A := by
  refine q_metW (by decide) (Nat.le_of_ble_eq_true rfl) ?_
  intro p e s m below meth c F w hr hlk ht ls hl
  have F : CallFix p m c cL_vote 5 s _ BIG RL := F
  have hl : lv_has ls 5 [(0, .ref (AD 0 0 0)), (1, .int x1), (2, .int x2), (3, .ref o)] := hl
  refine lv_aload_n F.1 F.2.1 dL_vote_0 rfl (lv_at hl 3 rfl) ?_
  refine lv_iconst (v := 0) F.1 F.2.1 dL_vote_1 (by decide) ?_
  refine lv_aload_n F.1 F.2.1 dL_vote_2 rfl (lv_at hl 0 rfl) ?_
  refine lv_iload_n F.1 F.2.1 dL_vote_3 rfl (lv_at hl 1 rfl) ?_
  refine lv_iload_n F.1 F.2.1 dL_vote_4 rfl (lv_at hl 2 rfl) ?_
  refine q_uVx (rest := [.int 0, .ref o]) F w hd kV_L_68 hd_X6_vote (ci := 7) rfl (t_X6_vote l D cy _ _ AD G hM hI x1 x2 hx2 hn hlf) (hM.a0 ⟨by decide, rfl, rfl⟩) dL_vote_5 rfl rfl hl.1 ⟨rfl, rfl, (Nat.le_of_ble_eq_true rfl), (Nat.le_of_ble_eq_true rfl)⟩ (Nat.le_of_ble_eq_true rfl) ⟨(Nat.le_of_ble_eq_true rfl), (Nat.le_of_ble_eq_true rfl)⟩ (fun E ce q9 H locs hE hne w hce hcv hcl => ?_) (fun v9 X1 H locs hp hd w => ?_)
  · rcases kr_vote G x1 x2 with hc | hc | hc
    · exact absurd (by rw [hc]; rfl) hne
    · have hE2 : E = "java/lang/IllegalStateException" := by rw [hE, hc]; rfl
      subst hE2
      have hH := hk_vote G x1 x2 (by rw [hc]; decide)
      refine vx_catch (own := RL) (name := "java/lang/IllegalStateException") F.2.2.2.1 [⟨0, 10, 13, 21⟩] ⟨0, 10, 17, 15⟩ [] (ht.trans rfl) (fun z hz => by obtain rfl := List.mem_singleton.mp hz; exact Or.inr ⟨by decide, "java/lang/IndexOutOfBoundsException", F.2.2.2.2 _ wL_L_21, w.2.2.2.2.2.2.2.2.1 ("java/lang/IllegalStateException", "java/lang/IndexOutOfBoundsException") (by decide +kernel)⟩) (by decide) (by decide) (F.2.2.2.2 _ wL_L_15) (va_Nw.use rfl (w.2.2.2.2.2.2.2.1 ("java/lang/IllegalStateException", "java/lang/IllegalStateException") (by decide +kernel))) hce hcv hcl ?_
      refine lv_astore (lv' := [(4, .ref q9), (0, .ref (AD 0 0 0)), (1, .int x1), (2, .int x2), (3, .ref o)]) F.1 F.2.1 dL_vote_17 hl (by decide) rfl (fun ls hl => ?_)
      refine lv_iconst (v := 2) F.1 F.2.1 dL_vote_19 (by decide) ?_
      refine W.widen (k := 2) (n := 1004) (Nat.le_of_ble_eq_true rfl) (Nat.le_of_ble_eq_true rfl) ?_
      exact q_retI (S := Unit) F hr hlk w ⟨by rw [hc]; rfl, X, AD, f, rfl, hd, rfl, by rw [hH]; exact hM, fun z => absurd (hc.symm.trans z) (by decide)⟩ dL_vote_20
    · have hE2 : E = "java/lang/IndexOutOfBoundsException" := by rw [hE, hc]; rfl
      subst hE2
      have hH := hk_vote G x1 x2 (by rw [hc]; decide)
      refine vx_catch (own := RL) (name := "java/lang/IndexOutOfBoundsException") F.2.2.2.1 [] ⟨0, 10, 13, 21⟩ [⟨0, 10, 17, 15⟩] (ht.trans rfl) (fun z hz => nomatch hz) (by decide) (by decide) (F.2.2.2.2 _ wL_L_21) (va_Nw.use rfl (w.2.2.2.2.2.2.2.1 ("java/lang/IndexOutOfBoundsException", "java/lang/IndexOutOfBoundsException") (by decide +kernel))) hce hcv hcl ?_
      refine lv_astore (lv' := [(4, .ref q9), (0, .ref (AD 0 0 0)), (1, .int x1), (2, .int x2), (3, .ref o)]) F.1 F.2.1 dL_vote_13 hl (by decide) rfl (fun ls hl => ?_)
      refine lv_iconst (v := 1) F.1 F.2.1 dL_vote_15 (by decide) ?_
      refine W.widen (k := 2) (n := 1004) (Nat.le_of_ble_eq_true rfl) (Nat.le_of_ble_eq_true rfl) ?_
      exact q_retI (S := Unit) F hr hlk w ⟨by rw [hc]; rfl, X, AD, f, rfl, hd, rfl, by rw [hH]; exact hM, fun z => absurd (hc.symm.trans z) (by decide)⟩ dL_vote_16
  · obtain ⟨hx0, hv, AD1, hA, hM1⟩ := hp
    refine lv_i2l F.1 F.2.1 dL_vote_8 rfl ?_
    refine q_lsto F w hd dL_vote_9 (fun f1 H locs hf1 hd w => ?_)
    refine lv_goto (tgt := 21) F.1 F.2.1 dL_vote_10 (by decide) ?_
    refine lv_iconst (v := 0) F.1 F.2.1 dL_vote_21 (by decide) ?_
    refine W.widen (k := 2) (n := 1004) (Nat.le_of_ble_eq_true rfl) (Nat.le_of_ble_eq_true rfl) ?_
    exact q_retI (S := Unit) F hr hlk w ⟨by rw [hx0]; rfl, X1, AD1, f1, rfl, hd, hA, hM1, fun z => by rw [hf1, hv]⟩ dL_vote_22
theorem cw_ofShip : Cond.codeWith yL_ofShip cL_ofShip 5 (Option.some Jvm.ClassFile.FieldType.int) [(0, 10, 13, 21), (0, 10, 17, 13)] ∈ BIG := BIG_t 798 (by decide +kernel) (by decide +kernel)
theorem kW_ofShip : GoodIn BIG (va_wsS RL 159 yL_ofShip (WSh yL_ofShip cL_ofShip 5 (Option.some Jvm.ClassFile.FieldType.int) [(0, 10, 13, 21), (0, 10, 17, 13)])) := gSh (BIG_t 796 (by decide +kernel) (by decide +kernel)) (BIG_t 797 (by decide +kernel) (by decide +kernel)) wI_L cw_ofShip
theorem hdW_ofShip : yL_ofShip.cls ≠ "java/lang/invoke/MethodHandle" ∧ yL_ofShip.cls ≠ "java/lang/invoke/VarHandle" ∧ (parseMethodDescriptor yL_ofShip.desc).map (fun d => d.parameters.length) = some 4 := by decide +kernel
theorem kr_ofShip (G : GS) (x1 x2 : Int32) : K_ofShip G x1 x2 = 0 ∨ K_ofShip G x1 x2 = 1 ∨ K_ofShip G x1 x2 = 3 := by
  unfold K_ofShip x_X6_ofShip
  (repeat' split) <;> decide
theorem hk_ofShip (G : GS) (x1 x2 : Int32) (h : K_ofShip G x1 x2 ≠ 0) : H_ofShip G x1 x2 = G := by
  unfold K_ofShip x_X6_ofShip at h
  unfold H_ofShip g_X6_ofShip
  (repeat' split) <;> first | rfl | simp_all
set_option maxHeartbeats 4000000 in
set_option maxRecDepth 100000 in
theorem c_L_ofShip (l : Launch) (D : va_G) (cy : Nat → ClassId) (A : Nat → Prop) (X : MU) (AD : AM) (G : GS) (hM : RepC cy AD G X) (hI : InvC G) {o : Nat} (f : Nat → Int64) (hd : dis X (oneO cy o f)) (x1 x2 : Int32) (hlf : l.stackTraces = false) : Met l yL_ofShip (WSh yL_ofShip cL_ofShip 5 (Option.some Jvm.ClassFile.FieldType.int) [(0, 10, 13, 21), (0, 10, 17, 13)]) { frames := 9, cells := 1, slots := 6, locals := 206 } (va_Pc [.ref (AD 0 0 0), .int x1, .int x2, .ref o] (Wd D cy A (un X (oneO cy o f)))) (va_Qi (fun (k9 : Int32) (μ1 : MU) => k9 = kkm 2 0 1 (K_ofShip G x1 x2) ∧ PW cy o AD (H_ofShip G x1 x2) (K_ofShip G x1 x2 = 0) (F_ofShip G x1 x2).toInt64 μ1) (fun μ1 t => Wd D cy A μ1 t) A) 1 6 A := by
  refine q_metW (by decide) (Nat.le_of_ble_eq_true rfl) ?_
  intro p e s m below meth c F w hr hlk ht ls hl
  have F : CallFix p m c cL_ofShip 5 s _ BIG RL := F
  have hl : lv_has ls 5 [(0, .ref (AD 0 0 0)), (1, .int x1), (2, .int x2), (3, .ref o)] := hl
  refine lv_aload_n F.1 F.2.1 dL_ofShip_0 rfl (lv_at hl 3 rfl) ?_
  refine lv_iconst (v := 0) F.1 F.2.1 dL_ofShip_1 (by decide) ?_
  refine lv_aload_n F.1 F.2.1 dL_ofShip_2 rfl (lv_at hl 0 rfl) ?_
  refine lv_iload_n F.1 F.2.1 dL_ofShip_3 rfl (lv_at hl 1 rfl) ?_
  refine lv_iload_n F.1 F.2.1 dL_ofShip_4 rfl (lv_at hl 2 rfl) ?_
  refine q_uVx (rest := [.int 0, .ref o]) F w hd kV_L_72 hd_X6_ofShip (ci := 7) rfl (t_X6_ofShip l D cy _ _ AD G hM hI x1 x2 hlf) (hM.a0 ⟨by decide, rfl, rfl⟩) dL_ofShip_5 rfl rfl hl.1 ⟨rfl, rfl, (Nat.le_of_ble_eq_true rfl), (Nat.le_of_ble_eq_true rfl)⟩ (Nat.le_of_ble_eq_true rfl) ⟨(Nat.le_of_ble_eq_true rfl), (Nat.le_of_ble_eq_true rfl)⟩ (fun E ce q9 H locs hE hne w hce hcv hcl => ?_) (fun v9 X1 H locs hp hd w => ?_)
  · rcases kr_ofShip G x1 x2 with hc | hc | hc
    · exact absurd (by rw [hc]; rfl) hne
    · have hE2 : E = "java/lang/IllegalArgumentException" := by rw [hE, hc]; rfl
      subst hE2
      have hH := hk_ofShip G x1 x2 (by rw [hc]; decide)
      refine vx_catch (own := RL) (name := "java/lang/IllegalArgumentException") F.2.2.2.1 [⟨0, 10, 13, 21⟩] ⟨0, 10, 17, 13⟩ [] (ht.trans rfl) (fun z hz => by obtain rfl := List.mem_singleton.mp hz; exact Or.inr ⟨by decide, "java/lang/IndexOutOfBoundsException", F.2.2.2.2 _ wL_L_21, w.2.2.2.2.2.2.2.2.1 ("java/lang/IllegalArgumentException", "java/lang/IndexOutOfBoundsException") (by decide +kernel)⟩) (by decide) (by decide) (F.2.2.2.2 _ wL_L_13) (va_Nw.use rfl (w.2.2.2.2.2.2.2.1 ("java/lang/IllegalArgumentException", "java/lang/IllegalArgumentException") (by decide +kernel))) hce hcv hcl ?_
      refine lv_astore (lv' := [(4, .ref q9), (0, .ref (AD 0 0 0)), (1, .int x1), (2, .int x2), (3, .ref o)]) F.1 F.2.1 dL_ofShip_17 hl (by decide) rfl (fun ls hl => ?_)
      refine lv_iconst (v := 2) F.1 F.2.1 dL_ofShip_19 (by decide) ?_
      refine W.widen (k := 1) (n := 6) (Nat.le_of_ble_eq_true rfl) (Nat.le_of_ble_eq_true rfl) ?_
      exact q_retI (S := Unit) F hr hlk w ⟨by rw [hc]; rfl, X, AD, f, rfl, hd, rfl, by rw [hH]; exact hM, fun z => absurd (hc.symm.trans z) (by decide)⟩ dL_ofShip_20
    · have hE2 : E = "java/lang/IndexOutOfBoundsException" := by rw [hE, hc]; rfl
      subst hE2
      have hH := hk_ofShip G x1 x2 (by rw [hc]; decide)
      refine vx_catch (own := RL) (name := "java/lang/IndexOutOfBoundsException") F.2.2.2.1 [] ⟨0, 10, 13, 21⟩ [⟨0, 10, 17, 13⟩] (ht.trans rfl) (fun z hz => nomatch hz) (by decide) (by decide) (F.2.2.2.2 _ wL_L_21) (va_Nw.use rfl (w.2.2.2.2.2.2.2.1 ("java/lang/IndexOutOfBoundsException", "java/lang/IndexOutOfBoundsException") (by decide +kernel))) hce hcv hcl ?_
      refine lv_astore (lv' := [(4, .ref q9), (0, .ref (AD 0 0 0)), (1, .int x1), (2, .int x2), (3, .ref o)]) F.1 F.2.1 dL_ofShip_13 hl (by decide) rfl (fun ls hl => ?_)
      refine lv_iconst (v := 1) F.1 F.2.1 dL_ofShip_15 (by decide) ?_
      refine W.widen (k := 1) (n := 6) (Nat.le_of_ble_eq_true rfl) (Nat.le_of_ble_eq_true rfl) ?_
      exact q_retI (S := Unit) F hr hlk w ⟨by rw [hc]; rfl, X, AD, f, rfl, hd, rfl, by rw [hH]; exact hM, fun z => absurd (hc.symm.trans z) (by decide)⟩ dL_ofShip_16
  · obtain ⟨hx0, hv, AD1, hA, hM1⟩ := hp
    refine lv_i2l F.1 F.2.1 dL_ofShip_8 rfl ?_
    refine q_lsto F w hd dL_ofShip_9 (fun f1 H locs hf1 hd w => ?_)
    refine lv_goto (tgt := 21) F.1 F.2.1 dL_ofShip_10 (by decide) ?_
    refine lv_iconst (v := 0) F.1 F.2.1 dL_ofShip_21 (by decide) ?_
    refine W.widen (k := 1) (n := 6) (Nat.le_of_ble_eq_true rfl) (Nat.le_of_ble_eq_true rfl) ?_
    exact q_retI (S := Unit) F hr hlk w ⟨by rw [hx0]; rfl, X1, AD1, f1, rfl, hd, hA, hM1, fun z => by rw [hf1, hv]⟩ dL_ofShip_22
theorem cw_pointsAnew : Cond.codeWith yL_pointsAnew cL_pointsAnew 4 (Option.some Jvm.ClassFile.FieldType.int) [(0, 9, 12, 21)] ∈ BIG := BIG_t 806 (by decide +kernel) (by decide +kernel)
theorem kW_pointsAnew : GoodIn BIG (va_wsS RL 162 yL_pointsAnew (WSh yL_pointsAnew cL_pointsAnew 4 (Option.some Jvm.ClassFile.FieldType.int) [(0, 9, 12, 21)])) := gSh (BIG_t 804 (by decide +kernel) (by decide +kernel)) (BIG_t 805 (by decide +kernel) (by decide +kernel)) wI_L cw_pointsAnew
theorem hdW_pointsAnew : yL_pointsAnew.cls ≠ "java/lang/invoke/MethodHandle" ∧ yL_pointsAnew.cls ≠ "java/lang/invoke/VarHandle" ∧ (parseMethodDescriptor yL_pointsAnew.desc).map (fun d => d.parameters.length) = some 3 := by decide +kernel
theorem kr_pointsAnew (G : GS) (x1 : Int32) : K_pointsAnew G x1 = 0 ∨ K_pointsAnew G x1 = 3 := by
  unfold K_pointsAnew x_X6_pointsAnew
  (repeat' split) <;> decide
theorem hk_pointsAnew (G : GS) (x1 : Int32) (h : K_pointsAnew G x1 ≠ 0) : H_pointsAnew G x1 = G := by
  unfold K_pointsAnew x_X6_pointsAnew at h
  unfold H_pointsAnew g_X6_pointsAnew
  (repeat' split) <;> first | rfl | simp_all
set_option maxHeartbeats 4000000 in
set_option maxRecDepth 100000 in
theorem c_L_pointsAnew (l : Launch) (D : va_G) (cy : Nat → ClassId) (A : Nat → Prop) (X : MU) (AD : AM) (G : GS) (hM : RepC cy AD G X) (hI : InvC G) {o : Nat} (f : Nat → Int64) (hd : dis X (oneO cy o f)) (x1 : Int32) (hlf : l.stackTraces = false) : Met l yL_pointsAnew (WSh yL_pointsAnew cL_pointsAnew 4 (Option.some Jvm.ClassFile.FieldType.int) [(0, 9, 12, 21)]) { frames := 8, cells := 1, slots := 6, locals := 161 } (va_Pc [.ref (AD 0 0 0), .int x1, .ref o] (Wd D cy A (un X (oneO cy o f)))) (va_Qi (fun (k9 : Int32) (μ1 : MU) => k9 = kkm 0 0 1 (K_pointsAnew G x1) ∧ PW cy o AD (H_pointsAnew G x1) (K_pointsAnew G x1 = 0) (F_pointsAnew G x1).toInt64 μ1) (fun μ1 t => Wd D cy A μ1 t) A) 1 6 A := by
  refine q_metW (by decide) (Nat.le_of_ble_eq_true rfl) ?_
  intro p e s m below meth c F w hr hlk ht ls hl
  have F : CallFix p m c cL_pointsAnew 4 s _ BIG RL := F
  have hl : lv_has ls 4 [(0, .ref (AD 0 0 0)), (1, .int x1), (2, .ref o)] := hl
  refine lv_aload_n F.1 F.2.1 dL_pointsAnew_0 rfl (lv_at hl 2 rfl) ?_
  refine lv_iconst (v := 0) F.1 F.2.1 dL_pointsAnew_1 (by decide) ?_
  refine lv_aload_n F.1 F.2.1 dL_pointsAnew_2 rfl (lv_at hl 0 rfl) ?_
  refine lv_iload_n F.1 F.2.1 dL_pointsAnew_3 rfl (lv_at hl 1 rfl) ?_
  refine q_uVx (rest := [.int 0, .ref o]) F w hd kV_L_75 hd_X6_pointsAnew (ci := 7) rfl (t_X6_pointsAnew l D cy _ _ AD G hM hI x1 hlf) (hM.a0 ⟨by decide, rfl, rfl⟩) dL_pointsAnew_4 rfl rfl hl.1 ⟨rfl, rfl, (Nat.le_of_ble_eq_true rfl), (Nat.le_of_ble_eq_true rfl)⟩ (Nat.le_of_ble_eq_true rfl) ⟨(Nat.le_of_ble_eq_true rfl), (Nat.le_of_ble_eq_true rfl)⟩ (fun E ce q9 H locs hE hne w hce hcv hcl => ?_) (fun v9 X1 H locs hp hd w => ?_)
  · rcases kr_pointsAnew G x1 with hc | hc
    · exact absurd (by rw [hc]; rfl) hne
    · have hE2 : E = "java/lang/IndexOutOfBoundsException" := by rw [hE, hc]; rfl
      subst hE2
      have hH := hk_pointsAnew G x1 (by rw [hc]; decide)
      refine vx_catch (own := RL) (name := "java/lang/IndexOutOfBoundsException") F.2.2.2.1 [] ⟨0, 9, 12, 21⟩ [] (ht.trans rfl) (fun z hz => nomatch hz) (by decide) (by decide) (F.2.2.2.2 _ wL_L_21) (va_Nw.use rfl (w.2.2.2.2.2.2.2.1 ("java/lang/IndexOutOfBoundsException", "java/lang/IndexOutOfBoundsException") (by decide +kernel))) hce hcv hcl ?_
      refine lv_astore_n (lv' := [(3, .ref q9), (0, .ref (AD 0 0 0)), (1, .int x1), (2, .ref o)]) F.1 F.2.1 dL_pointsAnew_12 rfl hl (by decide) rfl (fun ls hl => ?_)
      refine lv_iconst (v := 1) F.1 F.2.1 dL_pointsAnew_13 (by decide) ?_
      refine W.widen (k := 1) (n := 6) (Nat.le_of_ble_eq_true rfl) (Nat.le_of_ble_eq_true rfl) ?_
      exact q_retI (S := Unit) F hr hlk w ⟨by rw [hc]; rfl, X, AD, f, rfl, hd, rfl, by rw [hH]; exact hM, fun z => absurd (hc.symm.trans z) (by decide)⟩ dL_pointsAnew_14
  · obtain ⟨hx0, hv, AD1, hA, hM1⟩ := hp
    refine lv_i2l F.1 F.2.1 dL_pointsAnew_7 rfl ?_
    refine q_lsto F w hd dL_pointsAnew_8 (fun f1 H locs hf1 hd w => ?_)
    refine lv_goto (tgt := 15) F.1 F.2.1 dL_pointsAnew_9 (by decide) ?_
    refine lv_iconst (v := 0) F.1 F.2.1 dL_pointsAnew_15 (by decide) ?_
    refine W.widen (k := 1) (n := 6) (Nat.le_of_ble_eq_true rfl) (Nat.le_of_ble_eq_true rfl) ?_
    exact q_retI (S := Unit) F hr hlk w ⟨by rw [hx0]; rfl, X1, AD1, f1, rfl, hd, hA, hM1, fun z => by rw [hf1, hv]⟩ dL_pointsAnew_16
theorem cw_isGround : Cond.codeWith yL_isGround cL_isGround 5 (Option.some Jvm.ClassFile.FieldType.int) [(0, 17, 20, 21), (0, 17, 24, 13)] ∈ BIG := BIG_t 824 (by decide +kernel) (by decide +kernel)
theorem kW_isGround : GoodIn BIG (va_wsS RL 165 yL_isGround (WSh yL_isGround cL_isGround 5 (Option.some Jvm.ClassFile.FieldType.int) [(0, 17, 20, 21), (0, 17, 24, 13)])) := gSh (BIG_t 822 (by decide +kernel) (by decide +kernel)) (BIG_t 823 (by decide +kernel) (by decide +kernel)) wI_L cw_isGround
theorem hdW_isGround : yL_isGround.cls ≠ "java/lang/invoke/MethodHandle" ∧ yL_isGround.cls ≠ "java/lang/invoke/VarHandle" ∧ (parseMethodDescriptor yL_isGround.desc).map (fun d => d.parameters.length) = some 4 := by decide +kernel
theorem kr_isGround (G : GS) (x1 x2 : Int32) : K_isGround G x1 x2 = 0 ∨ K_isGround G x1 x2 = 1 ∨ K_isGround G x1 x2 = 3 := by
  unfold K_isGround x_X6_isGround
  (repeat' split) <;> decide
theorem hk_isGround (G : GS) (x1 x2 : Int32) (h : K_isGround G x1 x2 ≠ 0) : H_isGround G x1 x2 = G := by
  unfold K_isGround x_X6_isGround at h
  unfold H_isGround g_X6_isGround
  (repeat' split) <;> first | rfl | simp_all
set_option maxHeartbeats 4000000 in
set_option maxRecDepth 100000 in
theorem c_L_isGround (l : Launch) (D : va_G) (cy : Nat → ClassId) (A : Nat → Prop) (X : MU) (AD : AM) (G : GS) (hM : RepC cy AD G X) (hI : InvC G) {o : Nat} (f : Nat → Int64) (hd : dis X (oneO cy o f)) (x1 x2 : Int32) (hlf : l.stackTraces = false) : Met l yL_isGround (WSh yL_isGround cL_isGround 5 (Option.some Jvm.ClassFile.FieldType.int) [(0, 17, 20, 21), (0, 17, 24, 13)]) { frames := 8, cells := 1, slots := 6, locals := 144 } (va_Pc [.ref (AD 0 0 0), .int x1, .int x2, .ref o] (Wd D cy A (un X (oneO cy o f)))) (va_Qi (fun (k9 : Int32) (μ1 : MU) => k9 = kkm 2 0 1 (K_isGround G x1 x2) ∧ PW cy o AD (H_isGround G x1 x2) (K_isGround G x1 x2 = 0) (if F_isGround G x1 x2 = 0 then 0 else 1) μ1) (fun μ1 t => Wd D cy A μ1 t) A) 1 6 A := by
  refine q_metW (by decide) (Nat.le_of_ble_eq_true rfl) ?_
  intro p e s m below meth c F w hr hlk ht ls hl
  have F : CallFix p m c cL_isGround 5 s _ BIG RL := F
  have hl : lv_has ls 5 [(0, .ref (AD 0 0 0)), (1, .int x1), (2, .int x2), (3, .ref o)] := hl
  refine lv_aload_n F.1 F.2.1 dL_isGround_0 rfl (lv_at hl 3 rfl) ?_
  refine lv_iconst (v := 0) F.1 F.2.1 dL_isGround_1 (by decide) ?_
  refine lv_aload_n F.1 F.2.1 dL_isGround_2 rfl (lv_at hl 0 rfl) ?_
  refine lv_iload_n F.1 F.2.1 dL_isGround_3 rfl (lv_at hl 1 rfl) ?_
  refine lv_iload_n F.1 F.2.1 dL_isGround_4 rfl (lv_at hl 2 rfl) ?_
  refine q_uVx (rest := [.int 0, .ref o]) F w hd kV_L_78 hd_X6_isGround (ci := 7) rfl (t_X6_isGround l D cy _ _ AD G hM hI x1 x2 hlf) (hM.a0 ⟨by decide, rfl, rfl⟩) dL_isGround_5 rfl rfl hl.1 ⟨rfl, rfl, (Nat.le_of_ble_eq_true rfl), (Nat.le_of_ble_eq_true rfl)⟩ (Nat.le_of_ble_eq_true rfl) ⟨(Nat.le_of_ble_eq_true rfl), (Nat.le_of_ble_eq_true rfl)⟩ (fun E ce q9 H locs hE hne w hce hcv hcl => ?_) (fun v9 X1 H locs hp hd w => ?_)
  · rcases kr_isGround G x1 x2 with hc | hc | hc
    · exact absurd (by rw [hc]; rfl) hne
    · have hE2 : E = "java/lang/IllegalArgumentException" := by rw [hE, hc]; rfl
      subst hE2
      have hH := hk_isGround G x1 x2 (by rw [hc]; decide)
      refine vx_catch (own := RL) (name := "java/lang/IllegalArgumentException") F.2.2.2.1 [⟨0, 17, 20, 21⟩] ⟨0, 17, 24, 13⟩ [] (ht.trans rfl) (fun z hz => by obtain rfl := List.mem_singleton.mp hz; exact Or.inr ⟨by decide, "java/lang/IndexOutOfBoundsException", F.2.2.2.2 _ wL_L_21, w.2.2.2.2.2.2.2.2.1 ("java/lang/IllegalArgumentException", "java/lang/IndexOutOfBoundsException") (by decide +kernel)⟩) (by decide) (by decide) (F.2.2.2.2 _ wL_L_13) (va_Nw.use rfl (w.2.2.2.2.2.2.2.1 ("java/lang/IllegalArgumentException", "java/lang/IllegalArgumentException") (by decide +kernel))) hce hcv hcl ?_
      refine lv_astore (lv' := [(4, .ref q9), (0, .ref (AD 0 0 0)), (1, .int x1), (2, .int x2), (3, .ref o)]) F.1 F.2.1 dL_isGround_24 hl (by decide) rfl (fun ls hl => ?_)
      refine lv_iconst (v := 2) F.1 F.2.1 dL_isGround_26 (by decide) ?_
      refine W.widen (k := 1) (n := 6) (Nat.le_of_ble_eq_true rfl) (Nat.le_of_ble_eq_true rfl) ?_
      exact q_retI (S := Unit) F hr hlk w ⟨by rw [hc]; rfl, X, AD, f, rfl, hd, rfl, by rw [hH]; exact hM, fun z => absurd (hc.symm.trans z) (by decide)⟩ dL_isGround_27
    · have hE2 : E = "java/lang/IndexOutOfBoundsException" := by rw [hE, hc]; rfl
      subst hE2
      have hH := hk_isGround G x1 x2 (by rw [hc]; decide)
      refine vx_catch (own := RL) (name := "java/lang/IndexOutOfBoundsException") F.2.2.2.1 [] ⟨0, 17, 20, 21⟩ [⟨0, 17, 24, 13⟩] (ht.trans rfl) (fun z hz => nomatch hz) (by decide) (by decide) (F.2.2.2.2 _ wL_L_21) (va_Nw.use rfl (w.2.2.2.2.2.2.2.1 ("java/lang/IndexOutOfBoundsException", "java/lang/IndexOutOfBoundsException") (by decide +kernel))) hce hcv hcl ?_
      refine lv_astore (lv' := [(4, .ref q9), (0, .ref (AD 0 0 0)), (1, .int x1), (2, .int x2), (3, .ref o)]) F.1 F.2.1 dL_isGround_20 hl (by decide) rfl (fun ls hl => ?_)
      refine lv_iconst (v := 1) F.1 F.2.1 dL_isGround_22 (by decide) ?_
      refine W.widen (k := 1) (n := 6) (Nat.le_of_ble_eq_true rfl) (Nat.le_of_ble_eq_true rfl) ?_
      exact q_retI (S := Unit) F hr hlk w ⟨by rw [hc]; rfl, X, AD, f, rfl, hd, rfl, by rw [hH]; exact hM, fun z => absurd (hc.symm.trans z) (by decide)⟩ dL_isGround_23
  · obtain ⟨hx0, hv, AD1, hA, hM1⟩ := hp
    refine lv_if_eq (tgt := 15) F.1 F.2.1 dL_isGround_8 (by decide) (fun c_1 => ?_) (fun c_1 => ?_)
    · refine lv_lconst (v := 0) F.1 F.2.1 dL_isGround_15 (by decide) ?_
      refine q_lsto F w hd dL_isGround_16 (fun f1 H locs hf1 hd w => ?_)
      refine lv_goto (tgt := 28) F.1 F.2.1 dL_isGround_17 (by decide) ?_
      refine lv_iconst (v := 0) F.1 F.2.1 dL_isGround_28 (by decide) ?_
      refine W.widen (k := 1) (n := 6) (Nat.le_of_ble_eq_true rfl) (Nat.le_of_ble_eq_true rfl) ?_
      exact q_retI (S := Unit) F hr hlk w ⟨by rw [hx0]; rfl, X1, AD1, f1, rfl, hd, hA, hM1, fun z => by rw [hf1, ← hv, if_pos c_1]⟩ dL_isGround_29
    · refine lv_lconst (v := 1) F.1 F.2.1 dL_isGround_11 (by decide) ?_
      refine lv_goto (tgt := 16) F.1 F.2.1 dL_isGround_12 (by decide) ?_
      refine q_lsto F w hd dL_isGround_16 (fun f1 H locs hf1 hd w => ?_)
      refine lv_goto (tgt := 28) F.1 F.2.1 dL_isGround_17 (by decide) ?_
      refine lv_iconst (v := 0) F.1 F.2.1 dL_isGround_28 (by decide) ?_
      refine W.widen (k := 1) (n := 6) (Nat.le_of_ble_eq_true rfl) (Nat.le_of_ble_eq_true rfl) ?_
      exact q_retI (S := Unit) F hr hlk w ⟨by rw [hx0]; rfl, X1, AD1, f1, rfl, hd, hA, hM1, fun z => by rw [hf1, ← hv, if_neg c_1]⟩ dL_isGround_29
theorem cw_ofVisit : Cond.codeWith yL_ofVisit cL_ofVisit 5 (Option.some Jvm.ClassFile.FieldType.int) [(0, 10, 13, 21), (0, 10, 17, 13)] ∈ BIG := BIG_t 832 (by decide +kernel) (by decide +kernel)
theorem kW_ofVisit : GoodIn BIG (va_wsS RL 168 yL_ofVisit (WSh yL_ofVisit cL_ofVisit 5 (Option.some Jvm.ClassFile.FieldType.int) [(0, 10, 13, 21), (0, 10, 17, 13)])) := gSh (BIG_t 830 (by decide +kernel) (by decide +kernel)) (BIG_t 831 (by decide +kernel) (by decide +kernel)) wI_L cw_ofVisit
theorem hdW_ofVisit : yL_ofVisit.cls ≠ "java/lang/invoke/MethodHandle" ∧ yL_ofVisit.cls ≠ "java/lang/invoke/VarHandle" ∧ (parseMethodDescriptor yL_ofVisit.desc).map (fun d => d.parameters.length) = some 4 := by decide +kernel
theorem kr_ofVisit (G : GS) (x1 x2 : Int32) : K_ofVisit G x1 x2 = 0 ∨ K_ofVisit G x1 x2 = 1 ∨ K_ofVisit G x1 x2 = 3 := by
  unfold K_ofVisit x_X6_ofVisit
  (repeat' split) <;> decide
theorem hk_ofVisit (G : GS) (x1 x2 : Int32) (h : K_ofVisit G x1 x2 ≠ 0) : H_ofVisit G x1 x2 = G := by
  unfold K_ofVisit x_X6_ofVisit at h
  unfold H_ofVisit g_X6_ofVisit
  (repeat' split) <;> first | rfl | simp_all
set_option maxHeartbeats 4000000 in
set_option maxRecDepth 100000 in
theorem c_L_ofVisit (l : Launch) (D : va_G) (cy : Nat → ClassId) (A : Nat → Prop) (X : MU) (AD : AM) (G : GS) (hM : RepC cy AD G X) (hI : InvC G) {o : Nat} (f : Nat → Int64) (hd : dis X (oneO cy o f)) (x1 x2 : Int32) (hlf : l.stackTraces = false) : Met l yL_ofVisit (WSh yL_ofVisit cL_ofVisit 5 (Option.some Jvm.ClassFile.FieldType.int) [(0, 10, 13, 21), (0, 10, 17, 13)]) { frames := 8, cells := 1, slots := 6, locals := 144 } (va_Pc [.ref (AD 0 0 0), .int x1, .int x2, .ref o] (Wd D cy A (un X (oneO cy o f)))) (va_Qi (fun (k9 : Int32) (μ1 : MU) => k9 = kkm 2 0 1 (K_ofVisit G x1 x2) ∧ PW cy o AD (H_ofVisit G x1 x2) (K_ofVisit G x1 x2 = 0) (F_ofVisit G x1 x2).toInt64 μ1) (fun μ1 t => Wd D cy A μ1 t) A) 1 6 A := by
  refine q_metW (by decide) (Nat.le_of_ble_eq_true rfl) ?_
  intro p e s m below meth c F w hr hlk ht ls hl
  have F : CallFix p m c cL_ofVisit 5 s _ BIG RL := F
  have hl : lv_has ls 5 [(0, .ref (AD 0 0 0)), (1, .int x1), (2, .int x2), (3, .ref o)] := hl
  refine lv_aload_n F.1 F.2.1 dL_ofVisit_0 rfl (lv_at hl 3 rfl) ?_
  refine lv_iconst (v := 0) F.1 F.2.1 dL_ofVisit_1 (by decide) ?_
  refine lv_aload_n F.1 F.2.1 dL_ofVisit_2 rfl (lv_at hl 0 rfl) ?_
  refine lv_iload_n F.1 F.2.1 dL_ofVisit_3 rfl (lv_at hl 1 rfl) ?_
  refine lv_iload_n F.1 F.2.1 dL_ofVisit_4 rfl (lv_at hl 2 rfl) ?_
  refine q_uVx (rest := [.int 0, .ref o]) F w hd kV_L_82 hd_X6_ofVisit (ci := 7) rfl (t_X6_ofVisit l D cy _ _ AD G hM hI x1 x2 hlf) (hM.a0 ⟨by decide, rfl, rfl⟩) dL_ofVisit_5 rfl rfl hl.1 ⟨rfl, rfl, (Nat.le_of_ble_eq_true rfl), (Nat.le_of_ble_eq_true rfl)⟩ (Nat.le_of_ble_eq_true rfl) ⟨(Nat.le_of_ble_eq_true rfl), (Nat.le_of_ble_eq_true rfl)⟩ (fun E ce q9 H locs hE hne w hce hcv hcl => ?_) (fun v9 X1 H locs hp hd w => ?_)
  · rcases kr_ofVisit G x1 x2 with hc | hc | hc
    · exact absurd (by rw [hc]; rfl) hne
    · have hE2 : E = "java/lang/IllegalArgumentException" := by rw [hE, hc]; rfl
      subst hE2
      have hH := hk_ofVisit G x1 x2 (by rw [hc]; decide)
      refine vx_catch (own := RL) (name := "java/lang/IllegalArgumentException") F.2.2.2.1 [⟨0, 10, 13, 21⟩] ⟨0, 10, 17, 13⟩ [] (ht.trans rfl) (fun z hz => by obtain rfl := List.mem_singleton.mp hz; exact Or.inr ⟨by decide, "java/lang/IndexOutOfBoundsException", F.2.2.2.2 _ wL_L_21, w.2.2.2.2.2.2.2.2.1 ("java/lang/IllegalArgumentException", "java/lang/IndexOutOfBoundsException") (by decide +kernel)⟩) (by decide) (by decide) (F.2.2.2.2 _ wL_L_13) (va_Nw.use rfl (w.2.2.2.2.2.2.2.1 ("java/lang/IllegalArgumentException", "java/lang/IllegalArgumentException") (by decide +kernel))) hce hcv hcl ?_
      refine lv_astore (lv' := [(4, .ref q9), (0, .ref (AD 0 0 0)), (1, .int x1), (2, .int x2), (3, .ref o)]) F.1 F.2.1 dL_ofVisit_17 hl (by decide) rfl (fun ls hl => ?_)
      refine lv_iconst (v := 2) F.1 F.2.1 dL_ofVisit_19 (by decide) ?_
      refine W.widen (k := 1) (n := 6) (Nat.le_of_ble_eq_true rfl) (Nat.le_of_ble_eq_true rfl) ?_
      exact q_retI (S := Unit) F hr hlk w ⟨by rw [hc]; rfl, X, AD, f, rfl, hd, rfl, by rw [hH]; exact hM, fun z => absurd (hc.symm.trans z) (by decide)⟩ dL_ofVisit_20
    · have hE2 : E = "java/lang/IndexOutOfBoundsException" := by rw [hE, hc]; rfl
      subst hE2
      have hH := hk_ofVisit G x1 x2 (by rw [hc]; decide)
      refine vx_catch (own := RL) (name := "java/lang/IndexOutOfBoundsException") F.2.2.2.1 [] ⟨0, 10, 13, 21⟩ [⟨0, 10, 17, 13⟩] (ht.trans rfl) (fun z hz => nomatch hz) (by decide) (by decide) (F.2.2.2.2 _ wL_L_21) (va_Nw.use rfl (w.2.2.2.2.2.2.2.1 ("java/lang/IndexOutOfBoundsException", "java/lang/IndexOutOfBoundsException") (by decide +kernel))) hce hcv hcl ?_
      refine lv_astore (lv' := [(4, .ref q9), (0, .ref (AD 0 0 0)), (1, .int x1), (2, .int x2), (3, .ref o)]) F.1 F.2.1 dL_ofVisit_13 hl (by decide) rfl (fun ls hl => ?_)
      refine lv_iconst (v := 1) F.1 F.2.1 dL_ofVisit_15 (by decide) ?_
      refine W.widen (k := 1) (n := 6) (Nat.le_of_ble_eq_true rfl) (Nat.le_of_ble_eq_true rfl) ?_
      exact q_retI (S := Unit) F hr hlk w ⟨by rw [hc]; rfl, X, AD, f, rfl, hd, rfl, by rw [hH]; exact hM, fun z => absurd (hc.symm.trans z) (by decide)⟩ dL_ofVisit_16
  · obtain ⟨hx0, hv, AD1, hA, hM1⟩ := hp
    refine lv_i2l F.1 F.2.1 dL_ofVisit_8 rfl ?_
    refine q_lsto F w hd dL_ofVisit_9 (fun f1 H locs hf1 hd w => ?_)
    refine lv_goto (tgt := 21) F.1 F.2.1 dL_ofVisit_10 (by decide) ?_
    refine lv_iconst (v := 0) F.1 F.2.1 dL_ofVisit_21 (by decide) ?_
    refine W.widen (k := 1) (n := 6) (Nat.le_of_ble_eq_true rfl) (Nat.le_of_ble_eq_true rfl) ?_
    exact q_retI (S := Unit) F hr hlk w ⟨by rw [hx0]; rfl, X1, AD1, f1, rfl, hd, hA, hM1, fun z => by rw [hf1, hv]⟩ dL_ofVisit_22
theorem cw_list : Cond.codeWith yL_list cL_list 4 (Option.some Jvm.ClassFile.FieldType.int) [(0, 9, 12, 21)] ∈ BIG := BIG_t 839 (by decide +kernel) (by decide +kernel)
theorem kW_list : GoodIn BIG (va_wsS RL 171 yL_list (WSh yL_list cL_list 4 (Option.some Jvm.ClassFile.FieldType.int) [(0, 9, 12, 21)])) := gSh (BIG_t 837 (by decide +kernel) (by decide +kernel)) (BIG_t 838 (by decide +kernel) (by decide +kernel)) wI_L cw_list
theorem hdW_list : yL_list.cls ≠ "java/lang/invoke/MethodHandle" ∧ yL_list.cls ≠ "java/lang/invoke/VarHandle" ∧ (parseMethodDescriptor yL_list.desc).map (fun d => d.parameters.length) = some 3 := by decide +kernel
theorem kr_list (G : GS) (x1 : Int32) : K_list G x1 = 0 ∨ K_list G x1 = 3 := by
  unfold K_list x_X6_list
  (repeat' split) <;> decide
theorem hk_list (G : GS) (x1 : Int32) (h : K_list G x1 ≠ 0) : H_list G x1 = G := by
  unfold K_list x_X6_list at h
  unfold H_list g_X6_list
  (repeat' split) <;> first | rfl | simp_all
set_option maxHeartbeats 4000000 in
set_option maxRecDepth 100000 in
theorem c_L_list (l : Launch) (D : va_G) (cy : Nat → ClassId) (A : Nat → Prop) (X : MU) (AD : AM) (G : GS) (hM : RepC cy AD G X) (hI : InvC G) {o : Nat} (f : Nat → Int64) (hd : dis X (oneO cy o f)) (x1 : Int32) (hlf : l.stackTraces = false) : Met l yL_list (WSh yL_list cL_list 4 (Option.some Jvm.ClassFile.FieldType.int) [(0, 9, 12, 21)]) { frames := 7, cells := 1, slots := 6, locals := 121 } (va_Pc [.ref (AD 0 0 0), .int x1, .ref o] (Wd D cy A (un X (oneO cy o f)))) (va_Qi (fun (k9 : Int32) (μ1 : MU) => k9 = kkm 0 0 1 (K_list G x1) ∧ PW cy o AD (H_list G x1) (K_list G x1 = 0) (F_list G x1).toInt64 μ1) (fun μ1 t => Wd D cy A μ1 t) A) 1 6 A := by
  refine q_metW (by decide) (Nat.le_of_ble_eq_true rfl) ?_
  intro p e s m below meth c F w hr hlk ht ls hl
  have F : CallFix p m c cL_list 4 s _ BIG RL := F
  have hl : lv_has ls 4 [(0, .ref (AD 0 0 0)), (1, .int x1), (2, .ref o)] := hl
  refine lv_aload_n F.1 F.2.1 dL_list_0 rfl (lv_at hl 2 rfl) ?_
  refine lv_iconst (v := 0) F.1 F.2.1 dL_list_1 (by decide) ?_
  refine lv_aload_n F.1 F.2.1 dL_list_2 rfl (lv_at hl 0 rfl) ?_
  refine lv_iload_n F.1 F.2.1 dL_list_3 rfl (lv_at hl 1 rfl) ?_
  refine q_uVx (rest := [.int 0, .ref o]) F w hd kV_L_85 hd_X6_list (ci := 7) rfl (t_X6_list l D cy _ _ AD G hM hI x1 hlf) (hM.a0 ⟨by decide, rfl, rfl⟩) dL_list_4 rfl rfl hl.1 ⟨rfl, rfl, (Nat.le_of_ble_eq_true rfl), (Nat.le_of_ble_eq_true rfl)⟩ (Nat.le_of_ble_eq_true rfl) ⟨(Nat.le_of_ble_eq_true rfl), (Nat.le_of_ble_eq_true rfl)⟩ (fun E ce q9 H locs hE hne w hce hcv hcl => ?_) (fun v9 X1 H locs hp hd w => ?_)
  · rcases kr_list G x1 with hc | hc
    · exact absurd (by rw [hc]; rfl) hne
    · have hE2 : E = "java/lang/IndexOutOfBoundsException" := by rw [hE, hc]; rfl
      subst hE2
      have hH := hk_list G x1 (by rw [hc]; decide)
      refine vx_catch (own := RL) (name := "java/lang/IndexOutOfBoundsException") F.2.2.2.1 [] ⟨0, 9, 12, 21⟩ [] (ht.trans rfl) (fun z hz => nomatch hz) (by decide) (by decide) (F.2.2.2.2 _ wL_L_21) (va_Nw.use rfl (w.2.2.2.2.2.2.2.1 ("java/lang/IndexOutOfBoundsException", "java/lang/IndexOutOfBoundsException") (by decide +kernel))) hce hcv hcl ?_
      refine lv_astore_n (lv' := [(3, .ref q9), (0, .ref (AD 0 0 0)), (1, .int x1), (2, .ref o)]) F.1 F.2.1 dL_list_12 rfl hl (by decide) rfl (fun ls hl => ?_)
      refine lv_iconst (v := 1) F.1 F.2.1 dL_list_13 (by decide) ?_
      refine W.widen (k := 1) (n := 6) (Nat.le_of_ble_eq_true rfl) (Nat.le_of_ble_eq_true rfl) ?_
      exact q_retI (S := Unit) F hr hlk w ⟨by rw [hc]; rfl, X, AD, f, rfl, hd, rfl, by rw [hH]; exact hM, fun z => absurd (hc.symm.trans z) (by decide)⟩ dL_list_14
  · obtain ⟨hx0, hv, AD1, hA, hM1⟩ := hp
    refine lv_i2l F.1 F.2.1 dL_list_7 rfl ?_
    refine q_lsto F w hd dL_list_8 (fun f1 H locs hf1 hd w => ?_)
    refine lv_goto (tgt := 15) F.1 F.2.1 dL_list_9 (by decide) ?_
    refine lv_iconst (v := 0) F.1 F.2.1 dL_list_15 (by decide) ?_
    refine W.widen (k := 1) (n := 6) (Nat.le_of_ble_eq_true rfl) (Nat.le_of_ble_eq_true rfl) ?_
    exact q_retI (S := Unit) F hr hlk w ⟨by rw [hx0]; rfl, X1, AD1, f1, rfl, hd, hA, hM1, fun z => by rw [hf1, hv]⟩ dL_list_16
theorem cw_missed : Cond.codeWith yL_missed cL_missed 4 (Option.some Jvm.ClassFile.FieldType.int) [(0, 9, 12, 21)] ∈ BIG := BIG_t 847 (by decide +kernel) (by decide +kernel)
theorem kW_missed : GoodIn BIG (va_wsS RL 174 yL_missed (WSh yL_missed cL_missed 4 (Option.some Jvm.ClassFile.FieldType.int) [(0, 9, 12, 21)])) := gSh (BIG_t 845 (by decide +kernel) (by decide +kernel)) (BIG_t 846 (by decide +kernel) (by decide +kernel)) wI_L cw_missed
theorem hdW_missed : yL_missed.cls ≠ "java/lang/invoke/MethodHandle" ∧ yL_missed.cls ≠ "java/lang/invoke/VarHandle" ∧ (parseMethodDescriptor yL_missed.desc).map (fun d => d.parameters.length) = some 3 := by decide +kernel
theorem kr_missed (G : GS) (x1 : Int32) : K_missed G x1 = 0 ∨ K_missed G x1 = 3 := by
  unfold K_missed x_X6_missed
  (repeat' split) <;> decide
theorem hk_missed (G : GS) (x1 : Int32) (h : K_missed G x1 ≠ 0) : H_missed G x1 = G := by
  unfold K_missed x_X6_missed at h
  unfold H_missed g_X6_missed
  (repeat' split) <;> first | rfl | simp_all
set_option maxHeartbeats 4000000 in
set_option maxRecDepth 100000 in
theorem c_L_missed (l : Launch) (D : va_G) (cy : Nat → ClassId) (A : Nat → Prop) (X : MU) (AD : AM) (G : GS) (hM : RepC cy AD G X) (hI : InvC G) {o : Nat} (f : Nat → Int64) (hd : dis X (oneO cy o f)) (x1 : Int32) (hlf : l.stackTraces = false) : Met l yL_missed (WSh yL_missed cL_missed 4 (Option.some Jvm.ClassFile.FieldType.int) [(0, 9, 12, 21)]) { frames := 7, cells := 1, slots := 6, locals := 121 } (va_Pc [.ref (AD 0 0 0), .int x1, .ref o] (Wd D cy A (un X (oneO cy o f)))) (va_Qi (fun (k9 : Int32) (μ1 : MU) => k9 = kkm 0 0 1 (K_missed G x1) ∧ PW cy o AD (H_missed G x1) (K_missed G x1 = 0) (F_missed G x1).toInt64 μ1) (fun μ1 t => Wd D cy A μ1 t) A) 1 6 A := by
  refine q_metW (by decide) (Nat.le_of_ble_eq_true rfl) ?_
  intro p e s m below meth c F w hr hlk ht ls hl
  have F : CallFix p m c cL_missed 4 s _ BIG RL := F
  have hl : lv_has ls 4 [(0, .ref (AD 0 0 0)), (1, .int x1), (2, .ref o)] := hl
  refine lv_aload_n F.1 F.2.1 dL_missed_0 rfl (lv_at hl 2 rfl) ?_
  refine lv_iconst (v := 0) F.1 F.2.1 dL_missed_1 (by decide) ?_
  refine lv_aload_n F.1 F.2.1 dL_missed_2 rfl (lv_at hl 0 rfl) ?_
  refine lv_iload_n F.1 F.2.1 dL_missed_3 rfl (lv_at hl 1 rfl) ?_
  refine q_uVx (rest := [.int 0, .ref o]) F w hd kV_L_88 hd_X6_missed (ci := 7) rfl (t_X6_missed l D cy _ _ AD G hM hI x1 hlf) (hM.a0 ⟨by decide, rfl, rfl⟩) dL_missed_4 rfl rfl hl.1 ⟨rfl, rfl, (Nat.le_of_ble_eq_true rfl), (Nat.le_of_ble_eq_true rfl)⟩ (Nat.le_of_ble_eq_true rfl) ⟨(Nat.le_of_ble_eq_true rfl), (Nat.le_of_ble_eq_true rfl)⟩ (fun E ce q9 H locs hE hne w hce hcv hcl => ?_) (fun v9 X1 H locs hp hd w => ?_)
  · rcases kr_missed G x1 with hc | hc
    · exact absurd (by rw [hc]; rfl) hne
    · have hE2 : E = "java/lang/IndexOutOfBoundsException" := by rw [hE, hc]; rfl
      subst hE2
      have hH := hk_missed G x1 (by rw [hc]; decide)
      refine vx_catch (own := RL) (name := "java/lang/IndexOutOfBoundsException") F.2.2.2.1 [] ⟨0, 9, 12, 21⟩ [] (ht.trans rfl) (fun z hz => nomatch hz) (by decide) (by decide) (F.2.2.2.2 _ wL_L_21) (va_Nw.use rfl (w.2.2.2.2.2.2.2.1 ("java/lang/IndexOutOfBoundsException", "java/lang/IndexOutOfBoundsException") (by decide +kernel))) hce hcv hcl ?_
      refine lv_astore_n (lv' := [(3, .ref q9), (0, .ref (AD 0 0 0)), (1, .int x1), (2, .ref o)]) F.1 F.2.1 dL_missed_12 rfl hl (by decide) rfl (fun ls hl => ?_)
      refine lv_iconst (v := 1) F.1 F.2.1 dL_missed_13 (by decide) ?_
      refine W.widen (k := 1) (n := 6) (Nat.le_of_ble_eq_true rfl) (Nat.le_of_ble_eq_true rfl) ?_
      exact q_retI (S := Unit) F hr hlk w ⟨by rw [hc]; rfl, X, AD, f, rfl, hd, rfl, by rw [hH]; exact hM, fun z => absurd (hc.symm.trans z) (by decide)⟩ dL_missed_14
  · obtain ⟨hx0, hv, AD1, hA, hM1⟩ := hp
    refine lv_i2l F.1 F.2.1 dL_missed_7 rfl ?_
    refine q_lsto F w hd dL_missed_8 (fun f1 H locs hf1 hd w => ?_)
    refine lv_goto (tgt := 15) F.1 F.2.1 dL_missed_9 (by decide) ?_
    refine lv_iconst (v := 0) F.1 F.2.1 dL_missed_15 (by decide) ?_
    refine W.widen (k := 1) (n := 6) (Nat.le_of_ble_eq_true rfl) (Nat.le_of_ble_eq_true rfl) ?_
    exact q_retI (S := Unit) F hr hlk w ⟨by rw [hx0]; rfl, X1, AD1, f1, rfl, hd, hA, hM1, fun z => by rw [hf1, hv]⟩ dL_missed_16
theorem cw_knew : Cond.codeWith yL_knew cL_knew 6 (Option.some Jvm.ClassFile.FieldType.int) [(0, 12, 15, 21), (0, 12, 19, 13)] ∈ BIG := BIG_t 854 (by decide +kernel) (by decide +kernel)
theorem kW_knew : GoodIn BIG (va_wsS RL 177 yL_knew (WSh yL_knew cL_knew 6 (Option.some Jvm.ClassFile.FieldType.int) [(0, 12, 15, 21), (0, 12, 19, 13)])) := gSh (BIG_t 852 (by decide +kernel) (by decide +kernel)) (BIG_t 853 (by decide +kernel) (by decide +kernel)) wI_L cw_knew
theorem hdW_knew : yL_knew.cls ≠ "java/lang/invoke/MethodHandle" ∧ yL_knew.cls ≠ "java/lang/invoke/VarHandle" ∧ (parseMethodDescriptor yL_knew.desc).map (fun d => d.parameters.length) = some 5 := by decide +kernel
theorem kr_knew (G : GS) (x1 x2 x3 : Int32) : K_knew G x1 x2 x3 = 0 ∨ K_knew G x1 x2 x3 = 1 ∨ K_knew G x1 x2 x3 = 3 := by
  unfold K_knew x_X6_knew
  (repeat' split) <;> decide
theorem hk_knew (G : GS) (x1 x2 x3 : Int32) (h : K_knew G x1 x2 x3 ≠ 0) : H_knew G x1 x2 x3 = G := by
  unfold K_knew x_X6_knew at h
  unfold H_knew g_X6_knew
  (repeat' split) <;> first | rfl | simp_all
set_option maxHeartbeats 4000000 in
set_option maxRecDepth 100000 in
theorem c_L_knew (l : Launch) (D : va_G) (cy : Nat → ClassId) (A : Nat → Prop) (X : MU) (AD : AM) (G : GS) (hM : RepC cy AD G X) (hI : InvC G) {o : Nat} (f : Nat → Int64) (hd : dis X (oneO cy o f)) (x1 x2 x3 : Int32) (hlf : l.stackTraces = false) : Met l yL_knew (WSh yL_knew cL_knew 6 (Option.some Jvm.ClassFile.FieldType.int) [(0, 12, 15, 21), (0, 12, 19, 13)]) { frames := 8, cells := 1, slots := 6, locals := 148 } (va_Pc [.ref (AD 0 0 0), .int x1, .int x2, .int x3, .ref o] (Wd D cy A (un X (oneO cy o f)))) (va_Qi (fun (k9 : Int32) (μ1 : MU) => k9 = kkm 2 0 1 (K_knew G x1 x2 x3) ∧ PW cy o AD (H_knew G x1 x2 x3) (K_knew G x1 x2 x3 = 0) (F_knew G x1 x2 x3).toInt64 μ1) (fun μ1 t => Wd D cy A μ1 t) A) 1 6 A := by
  refine q_metW (by decide) (Nat.le_of_ble_eq_true rfl) ?_
  intro p e s m below meth c F w hr hlk ht ls hl
  have F : CallFix p m c cL_knew 6 s _ BIG RL := F
  have hl : lv_has ls 6 [(0, .ref (AD 0 0 0)), (1, .int x1), (2, .int x2), (3, .int x3), (4, .ref o)] := hl
  refine lv_aload F.1 F.2.1 dL_knew_0 (lv_at hl 4 rfl) ?_
  refine lv_iconst (v := 0) F.1 F.2.1 dL_knew_2 (by decide) ?_
  refine lv_aload_n F.1 F.2.1 dL_knew_3 rfl (lv_at hl 0 rfl) ?_
  refine lv_iload_n F.1 F.2.1 dL_knew_4 rfl (lv_at hl 1 rfl) ?_
  refine lv_iload_n F.1 F.2.1 dL_knew_5 rfl (lv_at hl 2 rfl) ?_
  refine lv_iload_n F.1 F.2.1 dL_knew_6 rfl (lv_at hl 3 rfl) ?_
  refine q_uVx (rest := [.int 0, .ref o]) F w hd kV_L_91 hd_X6_knew (ci := 7) rfl (t_X6_knew l D cy _ _ AD G hM hI x1 x2 x3 hlf) (hM.a0 ⟨by decide, rfl, rfl⟩) dL_knew_7 rfl rfl hl.1 ⟨rfl, rfl, (Nat.le_of_ble_eq_true rfl), (Nat.le_of_ble_eq_true rfl)⟩ (Nat.le_of_ble_eq_true rfl) ⟨(Nat.le_of_ble_eq_true rfl), (Nat.le_of_ble_eq_true rfl)⟩ (fun E ce q9 H locs hE hne w hce hcv hcl => ?_) (fun v9 X1 H locs hp hd w => ?_)
  · rcases kr_knew G x1 x2 x3 with hc | hc | hc
    · exact absurd (by rw [hc]; rfl) hne
    · have hE2 : E = "java/lang/IllegalArgumentException" := by rw [hE, hc]; rfl
      subst hE2
      have hH := hk_knew G x1 x2 x3 (by rw [hc]; decide)
      refine vx_catch (own := RL) (name := "java/lang/IllegalArgumentException") F.2.2.2.1 [⟨0, 12, 15, 21⟩] ⟨0, 12, 19, 13⟩ [] (ht.trans rfl) (fun z hz => by obtain rfl := List.mem_singleton.mp hz; exact Or.inr ⟨by decide, "java/lang/IndexOutOfBoundsException", F.2.2.2.2 _ wL_L_21, w.2.2.2.2.2.2.2.2.1 ("java/lang/IllegalArgumentException", "java/lang/IndexOutOfBoundsException") (by decide +kernel)⟩) (by decide) (by decide) (F.2.2.2.2 _ wL_L_13) (va_Nw.use rfl (w.2.2.2.2.2.2.2.1 ("java/lang/IllegalArgumentException", "java/lang/IllegalArgumentException") (by decide +kernel))) hce hcv hcl ?_
      refine lv_astore (lv' := [(5, .ref q9), (0, .ref (AD 0 0 0)), (1, .int x1), (2, .int x2), (3, .int x3), (4, .ref o)]) F.1 F.2.1 dL_knew_19 hl (by decide) rfl (fun ls hl => ?_)
      refine lv_iconst (v := 2) F.1 F.2.1 dL_knew_21 (by decide) ?_
      refine W.widen (k := 1) (n := 6) (Nat.le_of_ble_eq_true rfl) (Nat.le_of_ble_eq_true rfl) ?_
      exact q_retI (S := Unit) F hr hlk w ⟨by rw [hc]; rfl, X, AD, f, rfl, hd, rfl, by rw [hH]; exact hM, fun z => absurd (hc.symm.trans z) (by decide)⟩ dL_knew_22
    · have hE2 : E = "java/lang/IndexOutOfBoundsException" := by rw [hE, hc]; rfl
      subst hE2
      have hH := hk_knew G x1 x2 x3 (by rw [hc]; decide)
      refine vx_catch (own := RL) (name := "java/lang/IndexOutOfBoundsException") F.2.2.2.1 [] ⟨0, 12, 15, 21⟩ [⟨0, 12, 19, 13⟩] (ht.trans rfl) (fun z hz => nomatch hz) (by decide) (by decide) (F.2.2.2.2 _ wL_L_21) (va_Nw.use rfl (w.2.2.2.2.2.2.2.1 ("java/lang/IndexOutOfBoundsException", "java/lang/IndexOutOfBoundsException") (by decide +kernel))) hce hcv hcl ?_
      refine lv_astore (lv' := [(5, .ref q9), (0, .ref (AD 0 0 0)), (1, .int x1), (2, .int x2), (3, .int x3), (4, .ref o)]) F.1 F.2.1 dL_knew_15 hl (by decide) rfl (fun ls hl => ?_)
      refine lv_iconst (v := 1) F.1 F.2.1 dL_knew_17 (by decide) ?_
      refine W.widen (k := 1) (n := 6) (Nat.le_of_ble_eq_true rfl) (Nat.le_of_ble_eq_true rfl) ?_
      exact q_retI (S := Unit) F hr hlk w ⟨by rw [hc]; rfl, X, AD, f, rfl, hd, rfl, by rw [hH]; exact hM, fun z => absurd (hc.symm.trans z) (by decide)⟩ dL_knew_18
  · obtain ⟨hx0, hv, AD1, hA, hM1⟩ := hp
    refine lv_i2l F.1 F.2.1 dL_knew_10 rfl ?_
    refine q_lsto F w hd dL_knew_11 (fun f1 H locs hf1 hd w => ?_)
    refine lv_goto (tgt := 23) F.1 F.2.1 dL_knew_12 (by decide) ?_
    refine lv_iconst (v := 0) F.1 F.2.1 dL_knew_23 (by decide) ?_
    refine W.widen (k := 1) (n := 6) (Nat.le_of_ble_eq_true rfl) (Nat.le_of_ble_eq_true rfl) ?_
    exact q_retI (S := Unit) F hr hlk w ⟨by rw [hx0]; rfl, X1, AD1, f1, rfl, hd, hA, hM1, fun z => by rw [hf1, hv]⟩ dL_knew_24
