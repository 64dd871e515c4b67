def kw (c : Nat) (v : Int32) : Int32 := match c with
  | 0 => v
  | 1 => -7200
  | 2 => -7300
  | _ => -7100
theorem dis_0 {X : MU} : dis X (fun _ => none) := fun b => Or.inr rfl
theorem cw_pass : Cond.codeWith yL_pass cL_pass 4 (Option.some Jvm.ClassFile.FieldType.int) [(0, 6, 9, 14), (0, 6, 14, 16)] ∈ BIG := BIG_t 88 (by decide +kernel) (by decide +kernel)
theorem kW_pass : GoodIn BIG (va_wsS RL 202 yL_pass (WSh yL_pass cL_pass 4 (Option.some Jvm.ClassFile.FieldType.int) [(0, 6, 9, 14), (0, 6, 14, 16)])) := gSh (BIG_t 86 (by decide +kernel) (by decide +kernel)) (BIG_t 87 (by decide +kernel) (by decide +kernel)) wI_L cw_pass
theorem hdW_pass : yL_pass.cls ≠ "java/lang/invoke/MethodHandle" ∧ yL_pass.cls ≠ "java/lang/invoke/VarHandle" ∧ (parseMethodDescriptor yL_pass.desc).map (fun d => d.parameters.length) = some 2 := by decide +kernel
def A_pass (G : GS) (x1 : Int32) : Int32 := kw (K_pass G x1) (F_pass G x1)
set_option maxHeartbeats 4000000 in
set_option maxRecDepth 100000 in
theorem c_L_pass (l : Launch) (D : va_G) (cy : Nat → ClassId) (A : Nat → Prop) (X : MU) (AD : AM) (G : GS) (hM : RepC cy AD G X) (hI : InvC G) (x1 : Int32) (hlf : l.stackTraces = false) : Met l yL_pass (WSh yL_pass cL_pass 4 (Option.some Jvm.ClassFile.FieldType.int) [(0, 6, 9, 14), (0, 6, 14, 16)]) { frames := 7, cells := 1, slots := 6, locals := 121 } (va_Pc [.ref (AD 0 0 0), .int x1] (Wd D cy A X)) (va_Qi (fun (k9 : Int32) (μ1 : MU) => k9 = A_pass G x1 ∧ ∃ AD1 : AM, AD1 0 = AD 0 ∧ RepC cy AD1 (H_pass G x1) μ1) (fun μ1 t => Wd D cy A μ1 t) A) 1 6 A := by
  refine q_metW (by decide) (Nat.le_of_ble_eq_true rfl) ?_
  intro p e s m below meth c F w hr hlk ht ls hl
  have F : CallFix p m c cL_pass 4 s _ BIG RL := F
  have hl : lv_has ls 4 [(0, .ref (AD 0 0 0)), (1, .int x1)] := hl
  have w : WW D cy A (un X (fun _ => none)) s s.heap [] := by rw [un_0]; exact w
  refine lv_aload_n F.1 F.2.1 dL_pass_0 rfl (lv_at hl 0 rfl) ?_
  refine lv_iload_n F.1 F.2.1 dL_pass_1 rfl (lv_at hl 1 rfl) ?_
  refine q_uVx (rest := []) F w dis_0 kV_L_8 hd_X6_pass (ci := 7) rfl (t_X6_pass l D cy _ _ AD G hM hI x1 hlf) (hM.a0 ⟨by decide, rfl, rfl⟩) dL_pass_2 rfl rfl hl.1 ⟨rfl, rfl, (Nat.le_of_ble_eq_true rfl), (Nat.le_of_ble_eq_true rfl)⟩ (Nat.le_of_ble_eq_true rfl) ⟨(Nat.le_of_ble_eq_true rfl), (Nat.le_of_ble_eq_true rfl)⟩ (fun E ce q9 H locs hE hne w hce hcv hcl => ?_) (fun v9 X1 H locs hp hd w => ?_)
  · rcases kr_pass G x1 with hc | hc | hc
    · exact absurd (by rw [hc]; rfl) hne
    · have hE2 : E = "java/lang/IllegalArgumentException" := by rw [hE, hc]; rfl
      subst hE2
      have hH := hk_pass G x1 (by rw [hc]; decide)
      refine vx_catch (own := RL) (name := "java/lang/IllegalArgumentException") F.2.2.2.1 [] ⟨0, 6, 9, 14⟩ [⟨0, 6, 14, 16⟩] (ht.trans rfl) (fun z hz => nomatch hz) (by decide) (by decide) (F.2.2.2.2 _ wL_L_14) (va_Nw.use rfl (w.2.2.2.2.2.2.2.1 ("java/lang/IllegalArgumentException", "java/lang/IllegalArgumentException") (by decide +kernel))) hce hcv hcl ?_
      refine lv_astore_n (lv' := [(3, .ref q9), (0, .ref (AD 0 0 0)), (1, .int x1)]) F.1 F.2.1 dL_pass_9 rfl hl (by decide) rfl (fun ls hl => ?_)
      refine lv_sipush (v := -7200) F.1 F.2.1 dL_pass_10 (by decide) ?_
      rw [un_0] at w
      refine W.widen (k := 1) (n := 6) (Nat.le_of_ble_eq_true rfl) (Nat.le_of_ble_eq_true rfl) ?_
      exact q_retI (S := Unit) F hr hlk w ⟨by unfold A_pass; rw [hc]; rfl, AD, rfl, by rw [hH]; exact hM⟩ dL_pass_13
    · have hE2 : E = "java/lang/IllegalStateException" := by rw [hE, hc]; rfl
      subst hE2
      have hH := hk_pass G x1 (by rw [hc]; decide)
      refine vx_catch (own := RL) (name := "java/lang/IllegalStateException") F.2.2.2.1 [⟨0, 6, 9, 14⟩] ⟨0, 6, 14, 16⟩ [] (ht.trans rfl) (fun z hz => by obtain rfl := List.mem_singleton.mp hz; exact Or.inr ⟨by decide, "java/lang/IllegalArgumentException", F.2.2.2.2 _ wL_L_14, w.2.2.2.2.2.2.2.2.1 ("java/lang/IllegalStateException", "java/lang/IllegalArgumentException") (by decide +kernel)⟩) (by decide) (by decide) (F.2.2.2.2 _ wL_L_16) (va_Nw.use rfl (w.2.2.2.2.2.2.2.1 ("java/lang/IllegalStateException", "java/lang/IllegalStateException") (by decide +kernel))) hce hcv hcl ?_
      refine lv_astore_n (lv' := [(3, .ref q9), (0, .ref (AD 0 0 0)), (1, .int x1)]) F.1 F.2.1 dL_pass_14 rfl hl (by decide) rfl (fun ls hl => ?_)
      refine lv_sipush (v := -7300) F.1 F.2.1 dL_pass_15 (by decide) ?_
      rw [un_0] at w
      refine W.widen (k := 1) (n := 6) (Nat.le_of_ble_eq_true rfl) (Nat.le_of_ble_eq_true rfl) ?_
      exact q_retI (S := Unit) F hr hlk w ⟨by unfold A_pass; rw [hc]; rfl, AD, rfl, by rw [hH]; exact hM⟩ dL_pass_18
  · obtain ⟨hx0, hv, AD1, hA, hM1⟩ := hp
    rw [un_0] at w
    refine lv_istore_n (lv' := [(2, .int v9), (0, .ref (AD 0 0 0)), (1, .int x1)]) F.1 F.2.1 dL_pass_5 rfl hl (by decide) rfl (fun ls hl => ?_)
    refine lv_goto (tgt := 19) F.1 F.2.1 dL_pass_6 (by decide) ?_
    refine lv_iload_n F.1 F.2.1 dL_pass_19 rfl (lv_at hl 0 rfl) ?_
    refine W.widen (k := 1) (n := 6) (Nat.le_of_ble_eq_true rfl) (Nat.le_of_ble_eq_true rfl) ?_
    exact q_retI (S := Unit) F hr hlk w ⟨by unfold A_pass; rw [hx0]; exact hv, AD1, hA, hM1⟩ dL_pass_20
theorem cw_ship : Cond.codeWith yL_ship cL_ship 8 (Option.some Jvm.ClassFile.FieldType.int) [(0, 13, 16, 22), (0, 13, 22, 14), (0, 13, 28, 16)] ∈ BIG := BIG_t 181 (by decide +kernel) (by decide +kernel)
theorem kW_ship : GoodIn BIG (va_wsS RL 164 yL_ship (WSh yL_ship cL_ship 8 (Option.some Jvm.ClassFile.FieldType.int) [(0, 13, 16, 22), (0, 13, 22, 14), (0, 13, 28, 16)])) := gSh (BIG_t 179 (by decide +kernel) (by decide +kernel)) (BIG_t 180 (by decide +kernel) (by decide +kernel)) wI_L cw_ship
theorem hdW_ship : yL_ship.cls ≠ "java/lang/invoke/MethodHandle" ∧ yL_ship.cls ≠ "java/lang/invoke/VarHandle" ∧ (parseMethodDescriptor yL_ship.desc).map (fun d => d.parameters.length) = some 6 := by decide +kernel
def A_ship (G : GS) (x1 x2 x3 x4 x5 : Int32) : Int32 := kw (K_ship G x1 x2 x3 x4 x5) (F_ship G x1 x2 x3 x4 x5)
set_option maxHeartbeats 4000000 in
set_option maxRecDepth 100000 in
theorem c_L_ship (l : Launch) (D : va_G) (cy : Nat → ClassId) (A : Nat → Prop) (X : MU) (AD : AM) (G : GS) (hM : RepC cy AD G X) (hI : InvC G) (x1 x2 x3 x4 x5 : Int32) (hlf : l.stackTraces = false) : Met l yL_ship (WSh yL_ship cL_ship 8 (Option.some Jvm.ClassFile.FieldType.int) [(0, 13, 16, 22), (0, 13, 22, 14), (0, 13, 28, 16)]) { frames := 9, cells := 8, slots := 3033, locals := 251 } (va_Pc [.ref (AD 0 0 0), .int x1, .int x2, .int x3, .int x4, .int x5] (Wd D cy A X)) (va_Qi (fun (k9 : Int32) (μ1 : MU) => k9 = A_ship G x1 x2 x3 x4 x5 ∧ ∃ AD1 : AM, AD1 0 = AD 0 ∧ RepC cy AD1 (H_ship G x1 x2 x3 x4 x5) μ1) (fun μ1 t => Wd D cy A μ1 t) A) 8 3033 A := by
  refine q_metW (by decide) (Nat.le_of_ble_eq_true rfl) ?_
  intro p e s m below meth c F w hr hlk ht ls hl
  have F : CallFix p m c cL_ship 8 s _ BIG RL := F
  have hl : lv_has ls 8 [(0, .ref (AD 0 0 0)), (1, .int x1), (2, .int x2), (3, .int x3), (4, .int x4), (5, .int x5)] := hl
  have w : WW D cy A (un X (fun _ => none)) s s.heap [] := by rw [un_0]; exact w
  refine lv_aload_n F.1 F.2.1 dL_ship_0 rfl (lv_at hl 0 rfl) ?_
  refine lv_iload_n F.1 F.2.1 dL_ship_1 rfl (lv_at hl 1 rfl) ?_
  refine lv_iload_n F.1 F.2.1 dL_ship_2 rfl (lv_at hl 2 rfl) ?_
  refine lv_iload_n F.1 F.2.1 dL_ship_3 rfl (lv_at hl 3 rfl) ?_
  refine lv_iload F.1 F.2.1 dL_ship_4 (lv_at hl 4 rfl) ?_
  refine lv_iload F.1 F.2.1 dL_ship_6 (lv_at hl 5 rfl) ?_
  refine q_uVx (rest := []) F w dis_0 kV_L_18 hd_X6_ship (ci := 7) rfl (t_X6_ship l D cy _ _ AD G hM hI x1 x2 x3 x4 x5 hlf) (hM.a0 ⟨by decide, rfl, rfl⟩) dL_ship_8 rfl rfl hl.1 ⟨rfl, rfl, (Nat.le_of_ble_eq_true rfl), (Nat.le_of_ble_eq_true rfl)⟩ (Nat.le_of_ble_eq_true rfl) ⟨(Nat.le_of_ble_eq_true rfl), (Nat.le_of_ble_eq_true rfl)⟩ (fun E ce q9 H locs hE hne w hce hcv hcl => ?_) (fun v9 X1 H locs hp hd w => ?_)
  · rcases kr_ship G x1 x2 x3 x4 x5 with hc | hc | hc | hc
    · exact absurd (by rw [hc]; rfl) hne
    · have hE2 : E = "java/lang/IllegalArgumentException" := by rw [hE, hc]; rfl
      subst hE2
      have hH := hk_ship G x1 x2 x3 x4 x5 (by rw [hc]; decide)
      refine vx_catch (own := RL) (name := "java/lang/IllegalArgumentException") F.2.2.2.1 [⟨0, 13, 16, 22⟩] ⟨0, 13, 22, 14⟩ [⟨0, 13, 28, 16⟩] (ht.trans rfl) (fun z hz => by obtain rfl := List.mem_singleton.mp hz; exact Or.inr ⟨by decide, "java/lang/IndexOutOfBoundsException", F.2.2.2.2 _ wL_L_22, w.2.2.2.2.2.2.2.2.1 ("java/lang/IllegalArgumentException", "java/lang/IndexOutOfBoundsException") (by decide +kernel)⟩) (by decide) (by decide) (F.2.2.2.2 _ wL_L_14) (va_Nw.use rfl (w.2.2.2.2.2.2.2.1 ("java/lang/IllegalArgumentException", "java/lang/IllegalArgumentException") (by decide +kernel))) hce hcv hcl ?_
      refine lv_astore (lv' := [(7, .ref q9), (0, .ref (AD 0 0 0)), (1, .int x1), (2, .int x2), (3, .int x3), (4, .int x4), (5, .int x5)]) F.1 F.2.1 dL_ship_22 hl (by decide) rfl (fun ls hl => ?_)
      refine lv_sipush (v := -7200) F.1 F.2.1 dL_ship_24 (by decide) ?_
      rw [un_0] at w
      refine W.widen (k := 8) (n := 3033) (Nat.le_of_ble_eq_true rfl) (Nat.le_of_ble_eq_true rfl) ?_
      exact q_retI (S := Unit) F hr hlk w ⟨by unfold A_ship; rw [hc]; rfl, AD, rfl, by rw [hH]; exact hM⟩ dL_ship_27
    · have hE2 : E = "java/lang/IllegalStateException" := by rw [hE, hc]; rfl
      subst hE2
      have hH := hk_ship G x1 x2 x3 x4 x5 (by rw [hc]; decide)
      refine vx_catch (own := RL) (name := "java/lang/IllegalStateException") F.2.2.2.1 [⟨0, 13, 16, 22⟩, ⟨0, 13, 22, 14⟩] ⟨0, 13, 28, 16⟩ [] (ht.trans rfl) (fun z hz => (List.mem_cons.mp hz).elim (fun e9 => by subst e9; exact Or.inr ⟨by decide, "java/lang/IndexOutOfBoundsException", F.2.2.2.2 _ wL_L_22, w.2.2.2.2.2.2.2.2.1 ("java/lang/IllegalStateException", "java/lang/IndexOutOfBoundsException") (by decide +kernel)⟩) (fun hz => by obtain rfl := List.mem_singleton.mp hz; exact Or.inr ⟨by decide, "java/lang/IllegalArgumentException", F.2.2.2.2 _ wL_L_14, w.2.2.2.2.2.2.2.2.1 ("java/lang/IllegalStateException", "java/lang/IllegalArgumentException") (by decide +kernel)⟩)) (by decide) (by decide) (F.2.2.2.2 _ wL_L_16) (va_Nw.use rfl (w.2.2.2.2.2.2.2.1 ("java/lang/IllegalStateException", "java/lang/IllegalStateException") (by decide +kernel))) hce hcv hcl ?_
      refine lv_astore (lv' := [(7, .ref q9), (0, .ref (AD 0 0 0)), (1, .int x1), (2, .int x2), (3, .int x3), (4, .int x4), (5, .int x5)]) F.1 F.2.1 dL_ship_28 hl (by decide) rfl (fun ls hl => ?_)
      refine lv_sipush (v := -7300) F.1 F.2.1 dL_ship_30 (by decide) ?_
      rw [un_0] at w
      refine W.widen (k := 8) (n := 3033) (Nat.le_of_ble_eq_true rfl) (Nat.le_of_ble_eq_true rfl) ?_
      exact q_retI (S := Unit) F hr hlk w ⟨by unfold A_ship; rw [hc]; rfl, AD, rfl, by rw [hH]; exact hM⟩ dL_ship_33
    · have hE2 : E = "java/lang/IndexOutOfBoundsException" := by rw [hE, hc]; rfl
      subst hE2
      have hH := hk_ship G x1 x2 x3 x4 x5 (by rw [hc]; decide)
      refine vx_catch (own := RL) (name := "java/lang/IndexOutOfBoundsException") F.2.2.2.1 [] ⟨0, 13, 16, 22⟩ [⟨0, 13, 22, 14⟩, ⟨0, 13, 28, 16⟩] (ht.trans rfl) (fun z hz => nomatch hz) (by decide) (by decide) (F.2.2.2.2 _ wL_L_22) (va_Nw.use rfl (w.2.2.2.2.2.2.2.1 ("java/lang/IndexOutOfBoundsException", "java/lang/IndexOutOfBoundsException") (by decide +kernel))) hce hcv hcl ?_
      refine lv_astore (lv' := [(7, .ref q9), (0, .ref (AD 0 0 0)), (1, .int x1), (2, .int x2), (3, .int x3), (4, .int x4), (5, .int x5)]) F.1 F.2.1 dL_ship_16 hl (by decide) rfl (fun ls hl => ?_)
      refine lv_sipush (v := -7100) F.1 F.2.1 dL_ship_18 (by decide) ?_
      rw [un_0] at w
      refine W.widen (k := 8) (n := 3033) (Nat.le_of_ble_eq_true rfl) (Nat.le_of_ble_eq_true rfl) ?_
      exact q_retI (S := Unit) F hr hlk w ⟨by unfold A_ship; rw [hc]; rfl, AD, rfl, by rw [hH]; exact hM⟩ dL_ship_21
  · obtain ⟨hx0, hv, AD1, hA, hM1⟩ := hp
    rw [un_0] at w
    refine lv_istore (lv' := [(6, .int v9), (0, .ref (AD 0 0 0)), (1, .int x1), (2, .int x2), (3, .int x3), (4, .int x4), (5, .int x5)]) F.1 F.2.1 dL_ship_11 hl (by decide) rfl (fun ls hl => ?_)
    refine lv_goto (tgt := 34) F.1 F.2.1 dL_ship_13 (by decide) ?_
    refine lv_iload F.1 F.2.1 dL_ship_34 (lv_at hl 0 rfl) ?_
    refine W.widen (k := 8) (n := 3033) (Nat.le_of_ble_eq_true rfl) (Nat.le_of_ble_eq_true rfl) ?_
    exact q_retI (S := Unit) F hr hlk w ⟨by unfold A_ship; rw [hx0]; exact hv, AD1, hA, hM1⟩ dL_ship_36
theorem cw_changes : Cond.codeWith yL_changes cL_changes 6 (Option.some Jvm.ClassFile.FieldType.int) [(0, 9, 12, 22)] ∈ BIG := BIG_t 378 (by decide +kernel) (by decide +kernel)
theorem kW_changes : GoodIn BIG (va_wsS RL 169 yL_changes (WSh yL_changes cL_changes 6 (Option.some Jvm.ClassFile.FieldType.int) [(0, 9, 12, 22)])) := gSh (BIG_t 376 (by decide +kernel) (by decide +kernel)) (BIG_t 377 (by decide +kernel) (by decide +kernel)) wI_L cw_changes
theorem hdW_changes : yL_changes.cls ≠ "java/lang/invoke/MethodHandle" ∧ yL_changes.cls ≠ "java/lang/invoke/VarHandle" ∧ (parseMethodDescriptor yL_changes.desc).map (fun d => d.parameters.length) = some 4 := by decide +kernel
def A_changes (G : GS) (x1 x2 x3 : Int32) : Int32 := kw (K_changes G x1 x2 x3) (F_changes G x1 x2 x3)
set_option maxHeartbeats 4000000 in
set_option maxRecDepth 100000 in
theorem c_L_changes (l : Launch) (D : va_G) (cy : Nat → ClassId) (A : Nat → Prop) (X : MU) (AD : AM) (G : GS) (hM : RepC cy AD G X) (hI : InvC G) (x1 x2 x3 : Int32) (hn : ∀ s, s < gnS G → gnN G s < 514) (hlf : l.stackTraces = false) : Met l yL_changes (WSh yL_changes cL_changes 6 (Option.some Jvm.ClassFile.FieldType.int) [(0, 9, 12, 22)]) { frames := 9, cells := 2, slots := 1004, locals := 249 } (va_Pc [.ref (AD 0 0 0), .int x1, .int x2, .int x3] (Wd D cy A X)) (va_Qi (fun (k9 : Int32) (μ1 : MU) => k9 = A_changes G x1 x2 x3 ∧ ∃ AD1 : AM, AD1 0 = AD 0 ∧ RepC cy AD1 (H_changes G x1 x2 x3) μ1) (fun μ1 t => Wd D cy A μ1 t) A) 2 1004 A := by
  refine q_metW (by decide) (Nat.le_of_ble_eq_true rfl) ?_
  intro p e s m below meth c F w hr hlk ht ls hl
  have F : CallFix p m c cL_changes 6 s _ BIG RL := F
  have hl : lv_has ls 6 [(0, .ref (AD 0 0 0)), (1, .int x1), (2, .int x2), (3, .int x3)] := hl
  have w : WW D cy A (un X (fun _ => none)) s s.heap [] := by rw [un_0]; exact w
  refine lv_aload_n F.1 F.2.1 dL_changes_0 rfl (lv_at hl 0 rfl) ?_
  refine lv_iload_n F.1 F.2.1 dL_changes_1 rfl (lv_at hl 1 rfl) ?_
  refine lv_iload_n F.1 F.2.1 dL_changes_2 rfl (lv_at hl 2 rfl) ?_
  refine lv_iload_n F.1 F.2.1 dL_changes_3 rfl (lv_at hl 3 rfl) ?_
  refine q_uVx (rest := []) F w dis_0 kV_L_24 hd_X6_changes (ci := 7) rfl (t_X6_changes l D cy _ _ AD G hM hI x1 x2 x3 hn hlf) (hM.a0 ⟨by decide, rfl, rfl⟩) dL_changes_4 rfl rfl hl.1 ⟨rfl, rfl, (Nat.le_of_ble_eq_true rfl), (Nat.le_of_ble_eq_true rfl)⟩ (Nat.le_of_ble_eq_true rfl) ⟨(Nat.le_of_ble_eq_true rfl), (Nat.le_of_ble_eq_true rfl)⟩ (fun E ce q9 H locs hE hne w hce hcv hcl => ?_) (fun v9 X1 H locs hp hd w => ?_)
  · rcases kr_changes G x1 x2 x3 with hc | hc
    · exact absurd (by rw [hc]; rfl) hne
    · have hE2 : E = "java/lang/IndexOutOfBoundsException" := by rw [hE, hc]; rfl
      subst hE2
      have hH := hk_changes G x1 x2 x3 (by rw [hc]; decide)
      refine vx_catch (own := RL) (name := "java/lang/IndexOutOfBoundsException") F.2.2.2.1 [] ⟨0, 9, 12, 22⟩ [] (ht.trans rfl) (fun z hz => nomatch hz) (by decide) (by decide) (F.2.2.2.2 _ wL_L_22) (va_Nw.use rfl (w.2.2.2.2.2.2.2.1 ("java/lang/IndexOutOfBoundsException", "java/lang/IndexOutOfBoundsException") (by decide +kernel))) hce hcv hcl ?_
      refine lv_astore (lv' := [(5, .ref q9), (0, .ref (AD 0 0 0)), (1, .int x1), (2, .int x2), (3, .int x3)]) F.1 F.2.1 dL_changes_12 hl (by decide) rfl (fun ls hl => ?_)
      refine lv_sipush (v := -7100) F.1 F.2.1 dL_changes_14 (by decide) ?_
      rw [un_0] at w
      refine W.widen (k := 2) (n := 1004) (Nat.le_of_ble_eq_true rfl) (Nat.le_of_ble_eq_true rfl) ?_
      exact q_retI (S := Unit) F hr hlk w ⟨by unfold A_changes; rw [hc]; rfl, AD, rfl, by rw [hH]; exact hM⟩ dL_changes_17
  · obtain ⟨hx0, hv, AD1, hA, hM1⟩ := hp
    rw [un_0] at w
    refine lv_istore (lv' := [(4, .int v9), (0, .ref (AD 0 0 0)), (1, .int x1), (2, .int x2), (3, .int x3)]) F.1 F.2.1 dL_changes_7 hl (by decide) rfl (fun ls hl => ?_)
    refine lv_goto (tgt := 18) F.1 F.2.1 dL_changes_9 (by decide) ?_
    refine lv_iload F.1 F.2.1 dL_changes_18 (lv_at hl 0 rfl) ?_
    refine W.widen (k := 2) (n := 1004) (Nat.le_of_ble_eq_true rfl) (Nat.le_of_ble_eq_true rfl) ?_
    exact q_retI (S := Unit) F hr hlk w ⟨by unfold A_changes; rw [hx0]; exact hv, AD1, hA, hM1⟩ dL_changes_20
theorem cw_suspend : Cond.codeWith yL_suspend cL_suspend 5 (Option.some Jvm.ClassFile.FieldType.int) [(0, 7, 10, 22)] ∈ BIG := BIG_t 404 (by decide +kernel) (by decide +kernel)
theorem kW_suspend : GoodIn BIG (va_wsS RL 171 yL_suspend (WSh yL_suspend cL_suspend 5 (Option.some Jvm.ClassFile.FieldType.int) [(0, 7, 10, 22)])) := gSh (BIG_t 402 (by decide +kernel) (by decide +kernel)) (BIG_t 403 (by decide +kernel) (by decide +kernel)) wI_L cw_suspend
theorem hdW_suspend : yL_suspend.cls ≠ "java/lang/invoke/MethodHandle" ∧ yL_suspend.cls ≠ "java/lang/invoke/VarHandle" ∧ (parseMethodDescriptor yL_suspend.desc).map (fun d => d.parameters.length) = some 3 := by decide +kernel
def A_suspend (G : GS) (x1 x2 : Int32) : Int32 := kw (K_suspend G x1 x2) (if F_suspend G x1 x2 = 0 then 0 else 1)
set_option maxHeartbeats 4000000 in
set_option maxRecDepth 100000 in
theorem c_L_suspend (l : Launch) (D : va_G) (cy : Nat → ClassId) (A : Nat → Prop) (X : MU) (AD : AM) (G : GS) (hM : RepC cy AD G X) (hI : InvC G) (x1 x2 : Int32) (hx2 : x2 = 0 ∨ x2 = 1) (hlf : l.stackTraces = false) : Met l yL_suspend (WSh yL_suspend cL_suspend 5 (Option.some Jvm.ClassFile.FieldType.int) [(0, 7, 10, 22)]) { frames := 7, cells := 1, slots := 6, locals := 123 } (va_Pc [.ref (AD 0 0 0), .int x1, .int x2] (Wd D cy A X)) (va_Qi (fun (k9 : Int32) (μ1 : MU) => k9 = A_suspend G x1 x2 ∧ ∃ AD1 : AM, AD1 0 = AD 0 ∧ RepC cy AD1 (H_suspend G x1 x2) μ1) (fun μ1 t => Wd D cy A μ1 t) A) 1 6 A := by
  refine q_metW (by decide) (Nat.le_of_ble_eq_true rfl) ?_
  intro p e s m below meth c F w hr hlk ht ls hl
  have F : CallFix p m c cL_suspend 5 s _ BIG RL := F
  have hl : lv_has ls 5 [(0, .ref (AD 0 0 0)), (1, .int x1), (2, .int x2)] := hl
  have w : WW D cy A (un X (fun _ => none)) s s.heap [] := by rw [un_0]; exact w
  refine lv_aload_n F.1 F.2.1 dL_suspend_0 rfl (lv_at hl 0 rfl) ?_
  refine lv_iload_n F.1 F.2.1 dL_suspend_1 rfl (lv_at hl 1 rfl) ?_
  refine lv_iload_n F.1 F.2.1 dL_suspend_2 rfl (lv_at hl 2 rfl) ?_
  refine q_uVx (rest := []) F w dis_0 kV_L_28 hd_X6_suspend (ci := 7) rfl (t_X6_suspend l D cy _ _ AD G hM hI x1 x2 hx2 hlf) (hM.a0 ⟨by decide, rfl, rfl⟩) dL_suspend_3 rfl rfl hl.1 ⟨rfl, rfl, (Nat.le_of_ble_eq_true rfl), (Nat.le_of_ble_eq_true rfl)⟩ (Nat.le_of_ble_eq_true rfl) ⟨(Nat.le_of_ble_eq_true rfl), (Nat.le_of_ble_eq_true rfl)⟩ (fun E ce q9 H locs hE hne w hce hcv hcl => ?_) (fun v9 X1 H locs hp hd w => ?_)
  · rcases kr_suspend G x1 x2 with hc | hc
    · exact absurd (by rw [hc]; rfl) hne
    · have hE2 : E = "java/lang/IndexOutOfBoundsException" := by rw [hE, hc]; rfl
      subst hE2
      have hH := hk_suspend G x1 x2 (by rw [hc]; decide)
      refine vx_catch (own := RL) (name := "java/lang/IndexOutOfBoundsException") F.2.2.2.1 [] ⟨0, 7, 10, 22⟩ [] (ht.trans rfl) (fun z hz => nomatch hz) (by decide) (by decide) (F.2.2.2.2 _ wL_L_22) (va_Nw.use rfl (w.2.2.2.2.2.2.2.1 ("java/lang/IndexOutOfBoundsException", "java/lang/IndexOutOfBoundsException") (by decide +kernel))) hce hcv hcl ?_
      refine lv_astore (lv' := [(4, .ref q9), (0, .ref (AD 0 0 0)), (1, .int x1), (2, .int x2)]) F.1 F.2.1 dL_suspend_10 hl (by decide) rfl (fun ls hl => ?_)
      refine lv_sipush (v := -7100) F.1 F.2.1 dL_suspend_12 (by decide) ?_
      rw [un_0] at w
      refine W.widen (k := 1) (n := 6) (Nat.le_of_ble_eq_true rfl) (Nat.le_of_ble_eq_true rfl) ?_
      exact q_retI (S := Unit) F hr hlk w ⟨by unfold A_suspend; rw [hc]; rfl, AD, rfl, by rw [hH]; exact hM⟩ dL_suspend_15
  · obtain ⟨hx0, hv, AD1, hA, hM1⟩ := hp
    rw [un_0] at w
    refine lv_istore_n (lv' := [(3, .int v9), (0, .ref (AD 0 0 0)), (1, .int x1), (2, .int x2)]) F.1 F.2.1 dL_suspend_6 rfl hl (by decide) rfl (fun ls hl => ?_)
    refine lv_goto (tgt := 16) F.1 F.2.1 dL_suspend_7 (by decide) ?_
    refine lv_iload_n F.1 F.2.1 dL_suspend_16 rfl (lv_at hl 0 rfl) ?_
    refine lv_if_eq (tgt := 24) F.1 F.2.1 dL_suspend_17 (by decide) (fun c_1 => ?_) (fun c_1 => ?_)
    · refine lv_iconst (v := 0) F.1 F.2.1 dL_suspend_24 (by decide) ?_
      refine W.widen (k := 1) (n := 6) (Nat.le_of_ble_eq_true rfl) (Nat.le_of_ble_eq_true rfl) ?_
      exact q_retI (S := Unit) F hr hlk w ⟨by unfold A_suspend; rw [hx0]; exact (if_pos (hv.symm.trans c_1)).symm, AD1, hA, hM1⟩ dL_suspend_25
    · refine lv_iconst (v := 1) F.1 F.2.1 dL_suspend_20 (by decide) ?_
      refine lv_goto (tgt := 25) F.1 F.2.1 dL_suspend_21 (by decide) ?_
      refine W.widen (k := 1) (n := 6) (Nat.le_of_ble_eq_true rfl) (Nat.le_of_ble_eq_true rfl) ?_
      exact q_retI (S := Unit) F hr hlk w ⟨by unfold A_suspend; rw [hx0]; exact (if_neg (fun q => c_1 (hv.trans q))).symm, AD1, hA, hM1⟩ dL_suspend_25
theorem cw_rule : Cond.codeWith yL_rule cL_rule 8 (Option.some Jvm.ClassFile.FieldType.int) [(0, 13, 16, 14), (0, 13, 22, 16)] ∈ BIG := BIG_t 412 (by decide +kernel) (by decide +kernel)
theorem kW_rule : GoodIn BIG (va_wsS RL 167 yL_rule (WSh yL_rule cL_rule 8 (Option.some Jvm.ClassFile.FieldType.int) [(0, 13, 16, 14), (0, 13, 22, 16)])) := gSh (BIG_t 410 (by decide +kernel) (by decide +kernel)) (BIG_t 411 (by decide +kernel) (by decide +kernel)) wI_L cw_rule
theorem hdW_rule : yL_rule.cls ≠ "java/lang/invoke/MethodHandle" ∧ yL_rule.cls ≠ "java/lang/invoke/VarHandle" ∧ (parseMethodDescriptor yL_rule.desc).map (fun d => d.parameters.length) = some 6 := by decide +kernel
def A_rule (G : GS) (x1 x2 x3 x4 x5 : Int32) : Int32 := kw (K_rule G x1 x2 x3 x4 x5) (F_rule G x1 x2 x3 x4 x5)
set_option maxHeartbeats 4000000 in
set_option maxRecDepth 100000 in
theorem c_L_rule (l : Launch) (D : va_G) (cy : Nat → ClassId) (A : Nat → Prop) (X : MU) (AD : AM) (G : GS) (hM : RepC cy AD G X) (hI : InvC G) (x1 x2 x3 x4 x5 : Int32) (hlf : l.stackTraces = false) : Met l yL_rule (WSh yL_rule cL_rule 8 (Option.some Jvm.ClassFile.FieldType.int) [(0, 13, 16, 14), (0, 13, 22, 16)]) { frames := 8, cells := 2, slots := 1006, locals := 226 } (va_Pc [.ref (AD 0 0 0), .int x1, .int x2, .int x3, .int x4, .int x5] (Wd D cy A X)) (va_Qi (fun (k9 : Int32) (μ1 : MU) => k9 = A_rule G x1 x2 x3 x4 x5 ∧ ∃ AD1 : AM, AD1 0 = AD 0 ∧ RepC cy AD1 (H_rule G x1 x2 x3 x4 x5) μ1) (fun μ1 t => Wd D cy A μ1 t) A) 2 1006 A := by
  refine q_metW (by decide) (Nat.le_of_ble_eq_true rfl) ?_
  intro p e s m below meth c F w hr hlk ht ls hl
  have F : CallFix p m c cL_rule 8 s _ BIG RL := F
  have hl : lv_has ls 8 [(0, .ref (AD 0 0 0)), (1, .int x1), (2, .int x2), (3, .int x3), (4, .int x4), (5, .int x5)] := hl
  have w : WW D cy A (un X (fun _ => none)) s s.heap [] := by rw [un_0]; exact w
  refine lv_aload_n F.1 F.2.1 dL_rule_0 rfl (lv_at hl 0 rfl) ?_
  refine lv_iload_n F.1 F.2.1 dL_rule_1 rfl (lv_at hl 1 rfl) ?_
  refine lv_iload_n F.1 F.2.1 dL_rule_2 rfl (lv_at hl 2 rfl) ?_
  refine lv_iload_n F.1 F.2.1 dL_rule_3 rfl (lv_at hl 3 rfl) ?_
  refine lv_iload F.1 F.2.1 dL_rule_4 (lv_at hl 4 rfl) ?_
  refine lv_iload F.1 F.2.1 dL_rule_6 (lv_at hl 5 rfl) ?_
  refine q_uVx (rest := []) F w dis_0 kV_L_32 hd_X6_rule (ci := 7) rfl (t_X6_rule l D cy _ _ AD G hM hI x1 x2 x3 x4 x5 hlf) (hM.a0 ⟨by decide, rfl, rfl⟩) dL_rule_8 rfl rfl hl.1 ⟨rfl, rfl, (Nat.le_of_ble_eq_true rfl), (Nat.le_of_ble_eq_true rfl)⟩ (Nat.le_of_ble_eq_true rfl) ⟨(Nat.le_of_ble_eq_true rfl), (Nat.le_of_ble_eq_true rfl)⟩ (fun E ce q9 H locs hE hne w hce hcv hcl => ?_) (fun v9 X1 H locs hp hd w => ?_)
  · rcases kr_rule G x1 x2 x3 x4 x5 with hc | hc | hc
    · exact absurd (by rw [hc]; rfl) hne
    · have hE2 : E = "java/lang/IllegalArgumentException" := by rw [hE, hc]; rfl
      subst hE2
      have hH := hk_rule G x1 x2 x3 x4 x5 (by rw [hc]; decide)
      refine vx_catch (own := RL) (name := "java/lang/IllegalArgumentException") F.2.2.2.1 [] ⟨0, 13, 16, 14⟩ [⟨0, 13, 22, 16⟩] (ht.trans rfl) (fun z hz => nomatch hz) (by decide) (by decide) (F.2.2.2.2 _ wL_L_14) (va_Nw.use rfl (w.2.2.2.2.2.2.2.1 ("java/lang/IllegalArgumentException", "java/lang/IllegalArgumentException") (by decide +kernel))) hce hcv hcl ?_
      refine lv_astore (lv' := [(7, .ref q9), (0, .ref (AD 0 0 0)), (1, .int x1), (2, .int x2), (3, .int x3), (4, .int x4), (5, .int x5)]) F.1 F.2.1 dL_rule_16 hl (by decide) rfl (fun ls hl => ?_)
      refine lv_sipush (v := -7200) F.1 F.2.1 dL_rule_18 (by decide) ?_
      rw [un_0] at w
      refine W.widen (k := 2) (n := 1006) (Nat.le_of_ble_eq_true rfl) (Nat.le_of_ble_eq_true rfl) ?_
      exact q_retI (S := Unit) F hr hlk w ⟨by unfold A_rule; rw [hc]; rfl, AD, rfl, by rw [hH]; exact hM⟩ dL_rule_21
    · have hE2 : E = "java/lang/IllegalStateException" := by rw [hE, hc]; rfl
      subst hE2
      have hH := hk_rule G x1 x2 x3 x4 x5 (by rw [hc]; decide)
      refine vx_catch (own := RL) (name := "java/lang/IllegalStateException") F.2.2.2.1 [⟨0, 13, 16, 14⟩] ⟨0, 13, 22, 16⟩ [] (ht.trans rfl) (fun z hz => by obtain rfl := List.mem_singleton.mp hz; exact Or.inr ⟨by decide, "java/lang/IllegalArgumentException", F.2.2.2.2 _ wL_L_14, w.2.2.2.2.2.2.2.2.1 ("java/lang/IllegalStateException", "java/lang/IllegalArgumentException") (by decide +kernel)⟩) (by decide) (by decide) (F.2.2.2.2 _ wL_L_16) (va_Nw.use rfl (w.2.2.2.2.2.2.2.1 ("java/lang/IllegalStateException", "java/lang/IllegalStateException") (by decide +kernel))) hce hcv hcl ?_
      refine lv_astore (lv' := [(7, .ref q9), (0, .ref (AD 0 0 0)), (1, .int x1), (2, .int x2), (3, .int x3), (4, .int x4), (5, .int x5)]) F.1 F.2.1 dL_rule_22 hl (by decide) rfl (fun ls hl => ?_)
      refine lv_sipush (v := -7300) F.1 F.2.1 dL_rule_24 (by decide) ?_
      rw [un_0] at w
      refine W.widen (k := 2) (n := 1006) (Nat.le_of_ble_eq_true rfl) (Nat.le_of_ble_eq_true rfl) ?_
      exact q_retI (S := Unit) F hr hlk w ⟨by unfold A_rule; rw [hc]; rfl, AD, rfl, by rw [hH]; exact hM⟩ dL_rule_27
  · obtain ⟨hx0, hv, AD1, hA, hM1⟩ := hp
    rw [un_0] at w
    refine lv_istore (lv' := [(6, .int v9), (0, .ref (AD 0 0 0)), (1, .int x1), (2, .int x2), (3, .int x3), (4, .int x4), (5, .int x5)]) F.1 F.2.1 dL_rule_11 hl (by decide) rfl (fun ls hl => ?_)
    refine lv_goto (tgt := 28) F.1 F.2.1 dL_rule_13 (by decide) ?_
    refine lv_iload F.1 F.2.1 dL_rule_28 (lv_at hl 0 rfl) ?_
    refine W.widen (k := 2) (n := 1006) (Nat.le_of_ble_eq_true rfl) (Nat.le_of_ble_eq_true rfl) ?_
    exact q_retI (S := Unit) F hr hlk w ⟨by unfold A_rule; rw [hx0]; exact hv, AD1, hA, hM1⟩ dL_rule_30
theorem cw_issue : Cond.codeWith yL_issue cL_issue 6 (Option.some Jvm.ClassFile.FieldType.int) [(0, 9, 12, 22), (0, 9, 18, 14), (0, 9, 24, 16)] ∈ BIG := BIG_t 444 (by decide +kernel) (by decide +kernel)
theorem kW_issue : GoodIn BIG (va_wsS RL 175 yL_issue (WSh yL_issue cL_issue 6 (Option.some Jvm.ClassFile.FieldType.int) [(0, 9, 12, 22), (0, 9, 18, 14), (0, 9, 24, 16)])) := gSh (BIG_t 442 (by decide +kernel) (by decide +kernel)) (BIG_t 443 (by decide +kernel) (by decide +kernel)) wI_L cw_issue
theorem hdW_issue : yL_issue.cls ≠ "java/lang/invoke/MethodHandle" ∧ yL_issue.cls ≠ "java/lang/invoke/VarHandle" ∧ (parseMethodDescriptor yL_issue.desc).map (fun d => d.parameters.length) = some 4 := by decide +kernel
def A_issue (G : GS) (x1 x2 x3 : Int32) : Int32 := kw (K_issue G x1 x2 x3) (F_issue G x1 x2 x3)
set_option maxHeartbeats 4000000 in
set_option maxRecDepth 100000 in
theorem c_L_issue (l : Launch) (D : va_G) (cy : Nat → ClassId) (A : Nat → Prop) (X : MU) (AD : AM) (G : GS) (hM : RepC cy AD G X) (hI : InvC G) (x1 x2 x3 : Int32) (hlf : l.stackTraces = false) : Met l yL_issue (WSh yL_issue cL_issue 6 (Option.some Jvm.ClassFile.FieldType.int) [(0, 9, 12, 22), (0, 9, 18, 14), (0, 9, 24, 16)]) { frames := 8, cells := 1, slots := 6, locals := 146 } (va_Pc [.ref (AD 0 0 0), .int x1, .int x2, .int x3] (Wd D cy A X)) (va_Qi (fun (k9 : Int32) (μ1 : MU) => k9 = A_issue G x1 x2 x3 ∧ ∃ AD1 : AM, AD1 0 = AD 0 ∧ RepC cy AD1 (H_issue G x1 x2 x3) μ1) (fun μ1 t => Wd D cy A μ1 t) A) 1 6 A := by
  refine q_metW (by decide) (Nat.le_of_ble_eq_true rfl) ?_
  intro p e s m below meth c F w hr hlk ht ls hl
  have F : CallFix p m c cL_issue 6 s _ BIG RL := F
  have hl : lv_has ls 6 [(0, .ref (AD 0 0 0)), (1, .int x1), (2, .int x2), (3, .int x3)] := hl
  have w : WW D cy A (un X (fun _ => none)) s s.heap [] := by rw [un_0]; exact w
  refine lv_aload_n F.1 F.2.1 dL_issue_0 rfl (lv_at hl 0 rfl) ?_
  refine lv_iload_n F.1 F.2.1 dL_issue_1 rfl (lv_at hl 1 rfl) ?_
  refine lv_iload_n F.1 F.2.1 dL_issue_2 rfl (lv_at hl 2 rfl) ?_
  refine lv_iload_n F.1 F.2.1 dL_issue_3 rfl (lv_at hl 3 rfl) ?_
  refine q_uVx (rest := []) F w dis_0 kV_L_35 hd_X6_issue (ci := 7) rfl (t_X6_issue l D cy _ _ AD G hM hI x1 x2 x3 hlf) (hM.a0 ⟨by decide, rfl, rfl⟩) dL_issue_4 rfl rfl hl.1 ⟨rfl, rfl, (Nat.le_of_ble_eq_true rfl), (Nat.le_of_ble_eq_true rfl)⟩ (Nat.le_of_ble_eq_true rfl) ⟨(Nat.le_of_ble_eq_true rfl), (Nat.le_of_ble_eq_true rfl)⟩ (fun E ce q9 H locs hE hne w hce hcv hcl => ?_) (fun v9 X1 H locs hp hd w => ?_)
  · rcases kr_issue G x1 x2 x3 with hc | hc | hc | hc
    · exact absurd (by rw [hc]; rfl) hne
    · have hE2 : E = "java/lang/IllegalArgumentException" := by rw [hE, hc]; rfl
      subst hE2
      have hH := hk_issue G x1 x2 x3 (by rw [hc]; decide)
      refine vx_catch (own := RL) (name := "java/lang/IllegalArgumentException") F.2.2.2.1 [⟨0, 9, 12, 22⟩] ⟨0, 9, 18, 14⟩ [⟨0, 9, 24, 16⟩] (ht.trans rfl) (fun z hz => by obtain rfl := List.mem_singleton.mp hz; exact Or.inr ⟨by decide, "java/lang/IndexOutOfBoundsException", F.2.2.2.2 _ wL_L_22, w.2.2.2.2.2.2.2.2.1 ("java/lang/IllegalArgumentException", "java/lang/IndexOutOfBoundsException") (by decide +kernel)⟩) (by decide) (by decide) (F.2.2.2.2 _ wL_L_14) (va_Nw.use rfl (w.2.2.2.2.2.2.2.1 ("java/lang/IllegalArgumentException", "java/lang/IllegalArgumentException") (by decide +kernel))) hce hcv hcl ?_
      refine lv_astore (lv' := [(5, .ref q9), (0, .ref (AD 0 0 0)), (1, .int x1), (2, .int x2), (3, .int x3)]) F.1 F.2.1 dL_issue_18 hl (by decide) rfl (fun ls hl => ?_)
      refine lv_sipush (v := -7200) F.1 F.2.1 dL_issue_20 (by decide) ?_
      rw [un_0] at w
      refine W.widen (k := 1) (n := 6) (Nat.le_of_ble_eq_true rfl) (Nat.le_of_ble_eq_true rfl) ?_
      exact q_retI (S := Unit) F hr hlk w ⟨by unfold A_issue; rw [hc]; rfl, AD, rfl, by rw [hH]; exact hM⟩ dL_issue_23
    · have hE2 : E = "java/lang/IllegalStateException" := by rw [hE, hc]; rfl
      subst hE2
      have hH := hk_issue G x1 x2 x3 (by rw [hc]; decide)
      refine vx_catch (own := RL) (name := "java/lang/IllegalStateException") F.2.2.2.1 [⟨0, 9, 12, 22⟩, ⟨0, 9, 18, 14⟩] ⟨0, 9, 24, 16⟩ [] (ht.trans rfl) (fun z hz => (List.mem_cons.mp hz).elim (fun e9 => by subst e9; exact Or.inr ⟨by decide, "java/lang/IndexOutOfBoundsException", F.2.2.2.2 _ wL_L_22, w.2.2.2.2.2.2.2.2.1 ("java/lang/IllegalStateException", "java/lang/IndexOutOfBoundsException") (by decide +kernel)⟩) (fun hz => by obtain rfl := List.mem_singleton.mp hz; exact Or.inr ⟨by decide, "java/lang/IllegalArgumentException", F.2.2.2.2 _ wL_L_14, w.2.2.2.2.2.2.2.2.1 ("java/lang/IllegalStateException", "java/lang/IllegalArgumentException") (by decide +kernel)⟩)) (by decide) (by decide) (F.2.2.2.2 _ wL_L_16) (va_Nw.use rfl (w.2.2.2.2.2.2.2.1 ("java/lang/IllegalStateException", "java/lang/IllegalStateException") (by decide +kernel))) hce hcv hcl ?_
      refine lv_astore (lv' := [(5, .ref q9), (0, .ref (AD 0 0 0)), (1, .int x1), (2, .int x2), (3, .int x3)]) F.1 F.2.1 dL_issue_24 hl (by decide) rfl (fun ls hl => ?_)
      refine lv_sipush (v := -7300) F.1 F.2.1 dL_issue_26 (by decide) ?_
      rw [un_0] at w
      refine W.widen (k := 1) (n := 6) (Nat.le_of_ble_eq_true rfl) (Nat.le_of_ble_eq_true rfl) ?_
      exact q_retI (S := Unit) F hr hlk w ⟨by unfold A_issue; rw [hc]; rfl, AD, rfl, by rw [hH]; exact hM⟩ dL_issue_29
    · have hE2 : E = "java/lang/IndexOutOfBoundsException" := by rw [hE, hc]; rfl
      subst hE2
      have hH := hk_issue G x1 x2 x3 (by rw [hc]; decide)
      refine vx_catch (own := RL) (name := "java/lang/IndexOutOfBoundsException") F.2.2.2.1 [] ⟨0, 9, 12, 22⟩ [⟨0, 9, 18, 14⟩, ⟨0, 9, 24, 16⟩] (ht.trans rfl) (fun z hz => nomatch hz) (by decide) (by decide) (F.2.2.2.2 _ wL_L_22) (va_Nw.use rfl (w.2.2.2.2.2.2.2.1 ("java/lang/IndexOutOfBoundsException", "java/lang/IndexOutOfBoundsException") (by decide +kernel))) hce hcv hcl ?_
      refine lv_astore (lv' := [(5, .ref q9), (0, .ref (AD 0 0 0)), (1, .int x1), (2, .int x2), (3, .int x3)]) F.1 F.2.1 dL_issue_12 hl (by decide) rfl (fun ls hl => ?_)
      refine lv_sipush (v := -7100) F.1 F.2.1 dL_issue_14 (by decide) ?_
      rw [un_0] at w
      refine W.widen (k := 1) (n := 6) (Nat.le_of_ble_eq_true rfl) (Nat.le_of_ble_eq_true rfl) ?_
      exact q_retI (S := Unit) F hr hlk w ⟨by unfold A_issue; rw [hc]; rfl, AD, rfl, by rw [hH]; exact hM⟩ dL_issue_17
  · obtain ⟨hx0, hv, AD1, hA, hM1⟩ := hp
    rw [un_0] at w
    refine lv_istore (lv' := [(4, .int v9), (0, .ref (AD 0 0 0)), (1, .int x1), (2, .int x2), (3, .int x3)]) F.1 F.2.1 dL_issue_7 hl (by decide) rfl (fun ls hl => ?_)
    refine lv_goto (tgt := 30) F.1 F.2.1 dL_issue_9 (by decide) ?_
    refine lv_iload F.1 F.2.1 dL_issue_30 (lv_at hl 0 rfl) ?_
    refine W.widen (k := 1) (n := 6) (Nat.le_of_ble_eq_true rfl) (Nat.le_of_ble_eq_true rfl) ?_
    exact q_retI (S := Unit) F hr hlk w ⟨by unfold A_issue; rw [hx0]; exact hv, AD1, hA, hM1⟩ dL_issue_32
theorem cw_endorse : Cond.codeWith yL_endorse cL_endorse 5 (Option.some Jvm.ClassFile.FieldType.int) [(0, 7, 10, 22), (0, 7, 16, 14), (0, 7, 22, 16)] ∈ BIG := BIG_t 502 (by decide +kernel) (by decide +kernel)
theorem kW_endorse : GoodIn BIG (va_wsS RL 177 yL_endorse (WSh yL_endorse cL_endorse 5 (Option.some Jvm.ClassFile.FieldType.int) [(0, 7, 10, 22), (0, 7, 16, 14), (0, 7, 22, 16)])) := gSh (BIG_t 500 (by decide +kernel) (by decide +kernel)) (BIG_t 501 (by decide +kernel) (by decide +kernel)) wI_L cw_endorse
theorem hdW_endorse : yL_endorse.cls ≠ "java/lang/invoke/MethodHandle" ∧ yL_endorse.cls ≠ "java/lang/invoke/VarHandle" ∧ (parseMethodDescriptor yL_endorse.desc).map (fun d => d.parameters.length) = some 3 := by decide +kernel
def A_endorse (G : GS) (x1 x2 : Int32) : Int32 := kw (K_endorse G x1 x2) (F_endorse G x1 x2)
set_option maxHeartbeats 4000000 in
set_option maxRecDepth 100000 in
theorem c_L_endorse (l : Launch) (D : va_G) (cy : Nat → ClassId) (A : Nat → Prop) (X : MU) (AD : AM) (G : GS) (hM : RepC cy AD G X) (hI : InvC G) (x1 x2 : Int32) (hlf : l.stackTraces = false) : Met l yL_endorse (WSh yL_endorse cL_endorse 5 (Option.some Jvm.ClassFile.FieldType.int) [(0, 7, 10, 22), (0, 7, 16, 14), (0, 7, 22, 16)]) { frames := 8, cells := 1, slots := 6, locals := 146 } (va_Pc [.ref (AD 0 0 0), .int x1, .int x2] (Wd D cy A X)) (va_Qi (fun (k9 : Int32) (μ1 : MU) => k9 = A_endorse G x1 x2 ∧ ∃ AD1 : AM, AD1 0 = AD 0 ∧ RepC cy AD1 (H_endorse G x1 x2) μ1) (fun μ1 t => Wd D cy A μ1 t) A) 1 6 A := by
  refine q_metW (by decide) (Nat.le_of_ble_eq_true rfl) ?_
  intro p e s m below meth c F w hr hlk ht ls hl
  have F : CallFix p m c cL_endorse 5 s _ BIG RL := F
  have hl : lv_has ls 5 [(0, .ref (AD 0 0 0)), (1, .int x1), (2, .int x2)] := hl
  have w : WW D cy A (un X (fun _ => none)) s s.heap [] := by rw [un_0]; exact w
  refine lv_aload_n F.1 F.2.1 dL_endorse_0 rfl (lv_at hl 0 rfl) ?_
  refine lv_iload_n F.1 F.2.1 dL_endorse_1 rfl (lv_at hl 1 rfl) ?_
  refine lv_iload_n F.1 F.2.1 dL_endorse_2 rfl (lv_at hl 2 rfl) ?_
  refine q_uVx (rest := []) F w dis_0 kV_L_38 hd_X6_endorse (ci := 7) rfl (t_X6_endorse l D cy _ _ AD G hM hI x1 x2 hlf) (hM.a0 ⟨by decide, rfl, rfl⟩) dL_endorse_3 rfl rfl hl.1 ⟨rfl, rfl, (Nat.le_of_ble_eq_true rfl), (Nat.le_of_ble_eq_true rfl)⟩ (Nat.le_of_ble_eq_true rfl) ⟨(Nat.le_of_ble_eq_true rfl), (Nat.le_of_ble_eq_true rfl)⟩ (fun E ce q9 H locs hE hne w hce hcv hcl => ?_) (fun v9 X1 H locs hp hd w => ?_)
  · rcases kr_endorse G x1 x2 with hc | hc | hc | hc
    · exact absurd (by rw [hc]; rfl) hne
    · have hE2 : E = "java/lang/IllegalArgumentException" := by rw [hE, hc]; rfl
      subst hE2
      have hH := hk_endorse G x1 x2 (by rw [hc]; decide)
      refine vx_catch (own := RL) (name := "java/lang/IllegalArgumentException") F.2.2.2.1 [⟨0, 7, 10, 22⟩] ⟨0, 7, 16, 14⟩ [⟨0, 7, 22, 16⟩] (ht.trans rfl) (fun z hz => by obtain rfl := List.mem_singleton.mp hz; exact Or.inr ⟨by decide, "java/lang/IndexOutOfBoundsException", F.2.2.2.2 _ wL_L_22, w.2.2.2.2.2.2.2.2.1 ("java/lang/IllegalArgumentException", "java/lang/IndexOutOfBoundsException") (by decide +kernel)⟩) (by decide) (by decide) (F.2.2.2.2 _ wL_L_14) (va_Nw.use rfl (w.2.2.2.2.2.2.2.1 ("java/lang/IllegalArgumentException", "java/lang/IllegalArgumentException") (by decide +kernel))) hce hcv hcl ?_
      refine lv_astore (lv' := [(4, .ref q9), (0, .ref (AD 0 0 0)), (1, .int x1), (2, .int x2)]) F.1 F.2.1 dL_endorse_16 hl (by decide) rfl (fun ls hl => ?_)
      refine lv_sipush (v := -7200) F.1 F.2.1 dL_endorse_18 (by decide) ?_
      rw [un_0] at w
      refine W.widen (k := 1) (n := 6) (Nat.le_of_ble_eq_true rfl) (Nat.le_of_ble_eq_true rfl) ?_
      exact q_retI (S := Unit) F hr hlk w ⟨by unfold A_endorse; rw [hc]; rfl, AD, rfl, by rw [hH]; exact hM⟩ dL_endorse_21
    · have hE2 : E = "java/lang/IllegalStateException" := by rw [hE, hc]; rfl
      subst hE2
      have hH := hk_endorse G x1 x2 (by rw [hc]; decide)
      refine vx_catch (own := RL) (name := "java/lang/IllegalStateException") F.2.2.2.1 [⟨0, 7, 10, 22⟩, ⟨0, 7, 16, 14⟩] ⟨0, 7, 22, 16⟩ [] (ht.trans rfl) (fun z hz => (List.mem_cons.mp hz).elim (fun e9 => by subst e9; exact Or.inr ⟨by decide, "java/lang/IndexOutOfBoundsException", F.2.2.2.2 _ wL_L_22, w.2.2.2.2.2.2.2.2.1 ("java/lang/IllegalStateException", "java/lang/IndexOutOfBoundsException") (by decide +kernel)⟩) (fun hz => by obtain rfl := List.mem_singleton.mp hz; exact Or.inr ⟨by decide, "java/lang/IllegalArgumentException", F.2.2.2.2 _ wL_L_14, w.2.2.2.2.2.2.2.2.1 ("java/lang/IllegalStateException", "java/lang/IllegalArgumentException") (by decide +kernel)⟩)) (by decide) (by decide) (F.2.2.2.2 _ wL_L_16) (va_Nw.use rfl (w.2.2.2.2.2.2.2.1 ("java/lang/IllegalStateException", "java/lang/IllegalStateException") (by decide +kernel))) hce hcv hcl ?_
      refine lv_astore (lv' := [(4, .ref q9), (0, .ref (AD 0 0 0)), (1, .int x1), (2, .int x2)]) F.1 F.2.1 dL_endorse_22 hl (by decide) rfl (fun ls hl => ?_)
      refine lv_sipush (v := -7300) F.1 F.2.1 dL_endorse_24 (by decide) ?_
      rw [un_0] at w
      refine W.widen (k := 1) (n := 6) (Nat.le_of_ble_eq_true rfl) (Nat.le_of_ble_eq_true rfl) ?_
      exact q_retI (S := Unit) F hr hlk w ⟨by unfold A_endorse; rw [hc]; rfl, AD, rfl, by rw [hH]; exact hM⟩ dL_endorse_27
    · have hE2 : E = "java/lang/IndexOutOfBoundsException" := by rw [hE, hc]; rfl
      subst hE2
      have hH := hk_endorse G x1 x2 (by rw [hc]; decide)
      refine vx_catch (own := RL) (name := "java/lang/IndexOutOfBoundsException") F.2.2.2.1 [] ⟨0, 7, 10, 22⟩ [⟨0, 7, 16, 14⟩, ⟨0, 7, 22, 16⟩] (ht.trans rfl) (fun z hz => nomatch hz) (by decide) (by decide) (F.2.2.2.2 _ wL_L_22) (va_Nw.use rfl (w.2.2.2.2.2.2.2.1 ("java/lang/IndexOutOfBoundsException", "java/lang/IndexOutOfBoundsException") (by decide +kernel))) hce hcv hcl ?_
      refine lv_astore (lv' := [(4, .ref q9), (0, .ref (AD 0 0 0)), (1, .int x1), (2, .int x2)]) F.1 F.2.1 dL_endorse_10 hl (by decide) rfl (fun ls hl => ?_)
      refine lv_sipush (v := -7100) F.1 F.2.1 dL_endorse_12 (by decide) ?_
      rw [un_0] at w
      refine W.widen (k := 1) (n := 6) (Nat.le_of_ble_eq_true rfl) (Nat.le_of_ble_eq_true rfl) ?_
      exact q_retI (S := Unit) F hr hlk w ⟨by unfold A_endorse; rw [hc]; rfl, AD, rfl, by rw [hH]; exact hM⟩ dL_endorse_15
  · obtain ⟨hx0, hv, AD1, hA, hM1⟩ := hp
    rw [un_0] at w
    refine lv_istore_n (lv' := [(3, .int v9), (0, .ref (AD 0 0 0)), (1, .int x1), (2, .int x2)]) F.1 F.2.1 dL_endorse_6 rfl hl (by decide) rfl (fun ls hl => ?_)
    refine lv_goto (tgt := 28) F.1 F.2.1 dL_endorse_7 (by decide) ?_
    refine lv_iload_n F.1 F.2.1 dL_endorse_28 rfl (lv_at hl 0 rfl) ?_
    refine W.widen (k := 1) (n := 6) (Nat.le_of_ble_eq_true rfl) (Nat.le_of_ble_eq_true rfl) ?_
    exact q_retI (S := Unit) F hr hlk w ⟨by unfold A_endorse; rw [hx0]; exact hv, AD1, hA, hM1⟩ dL_endorse_29
theorem cw_calls : Cond.codeWith yL_calls cL_calls 5 (Option.some Jvm.ClassFile.FieldType.int) [(0, 7, 10, 22), (0, 7, 16, 16)] ∈ BIG := BIG_t 525 (by decide +kernel) (by decide +kernel)
theorem kW_calls : GoodIn BIG (va_wsS RL 179 yL_calls (WSh yL_calls cL_calls 5 (Option.some Jvm.ClassFile.FieldType.int) [(0, 7, 10, 22), (0, 7, 16, 16)])) := gSh (BIG_t 523 (by decide +kernel) (by decide +kernel)) (BIG_t 524 (by decide +kernel) (by decide +kernel)) wI_L cw_calls
theorem hdW_calls : yL_calls.cls ≠ "java/lang/invoke/MethodHandle" ∧ yL_calls.cls ≠ "java/lang/invoke/VarHandle" ∧ (parseMethodDescriptor yL_calls.desc).map (fun d => d.parameters.length) = some 3 := by decide +kernel
def A_calls (G : GS) (x1 x2 : Int32) : Int32 := kw (K_calls G x1 x2) (F_calls G x1 x2)
set_option maxHeartbeats 4000000 in
set_option maxRecDepth 100000 in
theorem c_L_calls (l : Launch) (D : va_G) (cy : Nat → ClassId) (A : Nat → Prop) (X : MU) (AD : AM) (G : GS) (hM : RepC cy AD G X) (hI : InvC G) (x1 x2 : Int32) (hlf : l.stackTraces = false) : Met l yL_calls (WSh yL_calls cL_calls 5 (Option.some Jvm.ClassFile.FieldType.int) [(0, 7, 10, 22), (0, 7, 16, 16)]) { frames := 9, cells := 1, slots := 6, locals := 206 } (va_Pc [.ref (AD 0 0 0), .int x1, .int x2] (Wd D cy A X)) (va_Qi (fun (k9 : Int32) (μ1 : MU) => k9 = A_calls G x1 x2 ∧ ∃ AD1 : AM, AD1 0 = AD 0 ∧ RepC cy AD1 (H_calls G x1 x2) μ1) (fun μ1 t => Wd D cy A μ1 t) A) 1 6 A := by
  refine q_metW (by decide) (Nat.le_of_ble_eq_true rfl) ?_
  intro p e s m below meth c F w hr hlk ht ls hl
  have F : CallFix p m c cL_calls 5 s _ BIG RL := F
  have hl : lv_has ls 5 [(0, .ref (AD 0 0 0)), (1, .int x1), (2, .int x2)] := hl
  have w : WW D cy A (un X (fun _ => none)) s s.heap [] := by rw [un_0]; exact w
  refine lv_aload_n F.1 F.2.1 dL_calls_0 rfl (lv_at hl 0 rfl) ?_
  refine lv_iload_n F.1 F.2.1 dL_calls_1 rfl (lv_at hl 1 rfl) ?_
  refine lv_iload_n F.1 F.2.1 dL_calls_2 rfl (lv_at hl 2 rfl) ?_
  refine q_uVx (rest := []) F w dis_0 kV_L_42 hd_X6_calls (ci := 7) rfl (t_X6_calls l D cy _ _ AD G hM hI x1 x2 hlf) (hM.a0 ⟨by decide, rfl, rfl⟩) dL_calls_3 rfl rfl hl.1 ⟨rfl, rfl, (Nat.le_of_ble_eq_true rfl), (Nat.le_of_ble_eq_true rfl)⟩ (Nat.le_of_ble_eq_true rfl) ⟨(Nat.le_of_ble_eq_true rfl), (Nat.le_of_ble_eq_true rfl)⟩ (fun E ce q9 H locs hE hne w hce hcv hcl => ?_) (fun v9 X1 H locs hp hd w => ?_)
  · rcases kr_calls G x1 x2 with hc | hc | hc
    · exact absurd (by rw [hc]; rfl) hne
    · have hE2 : E = "java/lang/IllegalStateException" := by rw [hE, hc]; rfl
      subst hE2
      have hH := hk_calls G x1 x2 (by rw [hc]; decide)
      refine vx_catch (own := RL) (name := "java/lang/IllegalStateException") F.2.2.2.1 [⟨0, 7, 10, 22⟩] ⟨0, 7, 16, 16⟩ [] (ht.trans rfl) (fun z hz => by obtain rfl := List.mem_singleton.mp hz; exact Or.inr ⟨by decide, "java/lang/IndexOutOfBoundsException", F.2.2.2.2 _ wL_L_22, w.2.2.2.2.2.2.2.2.1 ("java/lang/IllegalStateException", "java/lang/IndexOutOfBoundsException") (by decide +kernel)⟩) (by decide) (by decide) (F.2.2.2.2 _ wL_L_16) (va_Nw.use rfl (w.2.2.2.2.2.2.2.1 ("java/lang/IllegalStateException", "java/lang/IllegalStateException") (by decide +kernel))) hce hcv hcl ?_
      refine lv_astore (lv' := [(4, .ref q9), (0, .ref (AD 0 0 0)), (1, .int x1), (2, .int x2)]) F.1 F.2.1 dL_calls_16 hl (by decide) rfl (fun ls hl => ?_)
      refine lv_sipush (v := -7300) F.1 F.2.1 dL_calls_18 (by decide) ?_
      rw [un_0] at w
      refine W.widen (k := 1) (n := 6) (Nat.le_of_ble_eq_true rfl) (Nat.le_of_ble_eq_true rfl) ?_
      exact q_retI (S := Unit) F hr hlk w ⟨by unfold A_calls; rw [hc]; rfl, AD, rfl, by rw [hH]; exact hM⟩ dL_calls_21
    · have hE2 : E = "java/lang/IndexOutOfBoundsException" := by rw [hE, hc]; rfl
      subst hE2
      have hH := hk_calls G x1 x2 (by rw [hc]; decide)
      refine vx_catch (own := RL) (name := "java/lang/IndexOutOfBoundsException") F.2.2.2.1 [] ⟨0, 7, 10, 22⟩ [⟨0, 7, 16, 16⟩] (ht.trans rfl) (fun z hz => nomatch hz) (by decide) (by decide) (F.2.2.2.2 _ wL_L_22) (va_Nw.use rfl (w.2.2.2.2.2.2.2.1 ("java/lang/IndexOutOfBoundsException", "java/lang/IndexOutOfBoundsException") (by decide +kernel))) hce hcv hcl ?_
      refine lv_astore (lv' := [(4, .ref q9), (0, .ref (AD 0 0 0)), (1, .int x1), (2, .int x2)]) F.1 F.2.1 dL_calls_10 hl (by decide) rfl (fun ls hl => ?_)
      refine lv_sipush (v := -7100) F.1 F.2.1 dL_calls_12 (by decide) ?_
      rw [un_0] at w
      refine W.widen (k := 1) (n := 6) (Nat.le_of_ble_eq_true rfl) (Nat.le_of_ble_eq_true rfl) ?_
      exact q_retI (S := Unit) F hr hlk w ⟨by unfold A_calls; rw [hc]; rfl, AD, rfl, by rw [hH]; exact hM⟩ dL_calls_15
  · obtain ⟨hx0, hv, AD1, hA, hM1⟩ := hp
    rw [un_0] at w
    refine lv_istore_n (lv' := [(3, .int v9), (0, .ref (AD 0 0 0)), (1, .int x1), (2, .int x2)]) F.1 F.2.1 dL_calls_6 rfl hl (by decide) rfl (fun ls hl => ?_)
    refine lv_goto (tgt := 22) F.1 F.2.1 dL_calls_7 (by decide) ?_
    refine lv_iload_n F.1 F.2.1 dL_calls_22 rfl (lv_at hl 0 rfl) ?_
    refine W.widen (k := 1) (n := 6) (Nat.le_of_ble_eq_true rfl) (Nat.le_of_ble_eq_true rfl) ?_
    exact q_retI (S := Unit) F hr hlk w ⟨by unfold A_calls; rw [hx0]; exact hv, AD1, hA, hM1⟩ dL_calls_23
theorem cw_leaves : Cond.codeWith yL_leaves cL_leaves 4 (Option.some Jvm.ClassFile.FieldType.int) [(0, 6, 9, 22), (0, 6, 14, 16)] ∈ BIG := BIG_t 596 (by decide +kernel) (by decide +kernel)
theorem kW_leaves : GoodIn BIG (va_wsS RL 181 yL_leaves (WSh yL_leaves cL_leaves 4 (Option.some Jvm.ClassFile.FieldType.int) [(0, 6, 9, 22), (0, 6, 14, 16)])) := gSh (BIG_t 594 (by decide +kernel) (by decide +kernel)) (BIG_t 595 (by decide +kernel) (by decide +kernel)) wI_L cw_leaves
theorem hdW_leaves : yL_leaves.cls ≠ "java/lang/invoke/MethodHandle" ∧ yL_leaves.cls ≠ "java/lang/invoke/VarHandle" ∧ (parseMethodDescriptor yL_leaves.desc).map (fun d => d.parameters.length) = some 2 := by decide +kernel
def A_leaves (G : GS) (x1 : Int32) : Int32 := kw (K_leaves G x1) (if F_leaves G x1 = 0 then 0 else 1)
set_option maxHeartbeats 4000000 in
set_option maxRecDepth 100000 in
theorem c_L_leaves (l : Launch) (D : va_G) (cy : Nat → ClassId) (A : Nat → Prop) (X : MU) (AD : AM) (G : GS) (hM : RepC cy AD G X) (hI : InvC G) (x1 : Int32) (hp : ∀ s, s < gnS G → G 10 s = -1 ∨ (G 10 s = nI (G 10 s).toNatClampNeg ∧ (G 10 s).toNatClampNeg < 4)) (hlf : l.stackTraces = false) : Met l yL_leaves (WSh yL_leaves cL_leaves 4 (Option.some Jvm.ClassFile.FieldType.int) [(0, 6, 9, 22), (0, 6, 14, 16)]) { frames := 9, cells := 1, slots := 6, locals := 206 } (va_Pc [.ref (AD 0 0 0), .int x1] (Wd D cy A X)) (va_Qi (fun (k9 : Int32) (μ1 : MU) => k9 = A_leaves G x1 ∧ ∃ AD1 : AM, AD1 0 = AD 0 ∧ RepC cy AD1 (H_leaves G x1) μ1) (fun μ1 t => Wd D cy A μ1 t) A) 1 6 A := by
  refine q_metW (by decide) (Nat.le_of_ble_eq_true rfl) ?_
  intro p e s m below meth c F w hr hlk ht ls hl
  have F : CallFix p m c cL_leaves 4 s _ BIG RL := F
  have hl : lv_has ls 4 [(0, .ref (AD 0 0 0)), (1, .int x1)] := hl
  have w : WW D cy A (un X (fun _ => none)) s s.heap [] := by rw [un_0]; exact w
  refine lv_aload_n F.1 F.2.1 dL_leaves_0 rfl (lv_at hl 0 rfl) ?_
  refine lv_iload_n F.1 F.2.1 dL_leaves_1 rfl (lv_at hl 1 rfl) ?_
  refine q_uVx (rest := []) F w dis_0 kV_L_45 hd_X6_leaves (ci := 7) rfl (t_X6_leaves l D cy _ _ AD G hM hI x1 hp hlf) (hM.a0 ⟨by decide, rfl, rfl⟩) dL_leaves_2 rfl rfl hl.1 ⟨rfl, rfl, (Nat.le_of_ble_eq_true rfl), (Nat.le_of_ble_eq_true rfl)⟩ (Nat.le_of_ble_eq_true rfl) ⟨(Nat.le_of_ble_eq_true rfl), (Nat.le_of_ble_eq_true rfl)⟩ (fun E ce q9 H locs hE hne w hce hcv hcl => ?_) (fun v9 X1 H locs hp hd w => ?_)
  · rcases kr_leaves G x1 with hc | hc | hc
    · exact absurd (by rw [hc]; rfl) hne
    · have hE2 : E = "java/lang/IllegalStateException" := by rw [hE, hc]; rfl
      subst hE2
      have hH := hk_leaves G x1 (by rw [hc]; decide)
      refine vx_catch (own := RL) (name := "java/lang/IllegalStateException") F.2.2.2.1 [⟨0, 6, 9, 22⟩] ⟨0, 6, 14, 16⟩ [] (ht.trans rfl) (fun z hz => by obtain rfl := List.mem_singleton.mp hz; exact Or.inr ⟨by decide, "java/lang/IndexOutOfBoundsException", F.2.2.2.2 _ wL_L_22, w.2.2.2.2.2.2.2.2.1 ("java/lang/IllegalStateException", "java/lang/IndexOutOfBoundsException") (by decide +kernel)⟩) (by decide) (by decide) (F.2.2.2.2 _ wL_L_16) (va_Nw.use rfl (w.2.2.2.2.2.2.2.1 ("java/lang/IllegalStateException", "java/lang/IllegalStateException") (by decide +kernel))) hce hcv hcl ?_
      refine lv_astore_n (lv' := [(3, .ref q9), (0, .ref (AD 0 0 0)), (1, .int x1)]) F.1 F.2.1 dL_leaves_14 rfl hl (by decide) rfl (fun ls hl => ?_)
      refine lv_sipush (v := -7300) F.1 F.2.1 dL_leaves_15 (by decide) ?_
      rw [un_0] at w
      refine W.widen (k := 1) (n := 6) (Nat.le_of_ble_eq_true rfl) (Nat.le_of_ble_eq_true rfl) ?_
      exact q_retI (S := Unit) F hr hlk w ⟨by unfold A_leaves; rw [hc]; rfl, AD, rfl, by rw [hH]; exact hM⟩ dL_leaves_18
    · have hE2 : E = "java/lang/IndexOutOfBoundsException" := by rw [hE, hc]; rfl
      subst hE2
      have hH := hk_leaves G x1 (by rw [hc]; decide)
      refine vx_catch (own := RL) (name := "java/lang/IndexOutOfBoundsException") F.2.2.2.1 [] ⟨0, 6, 9, 22⟩ [⟨0, 6, 14, 16⟩] (ht.trans rfl) (fun z hz => nomatch hz) (by decide) (by decide) (F.2.2.2.2 _ wL_L_22) (va_Nw.use rfl (w.2.2.2.2.2.2.2.1 ("java/lang/IndexOutOfBoundsException", "java/lang/IndexOutOfBoundsException") (by decide +kernel))) hce hcv hcl ?_
      refine lv_astore_n (lv' := [(3, .ref q9), (0, .ref (AD 0 0 0)), (1, .int x1)]) F.1 F.2.1 dL_leaves_9 rfl hl (by decide) rfl (fun ls hl => ?_)
      refine lv_sipush (v := -7100) F.1 F.2.1 dL_leaves_10 (by decide) ?_
      rw [un_0] at w
      refine W.widen (k := 1) (n := 6) (Nat.le_of_ble_eq_true rfl) (Nat.le_of_ble_eq_true rfl) ?_
      exact q_retI (S := Unit) F hr hlk w ⟨by unfold A_leaves; rw [hc]; rfl, AD, rfl, by rw [hH]; exact hM⟩ dL_leaves_13
  · obtain ⟨hx0, hv, AD1, hA, hM1⟩ := hp
    rw [un_0] at w
    refine lv_istore_n (lv' := [(2, .int v9), (0, .ref (AD 0 0 0)), (1, .int x1)]) F.1 F.2.1 dL_leaves_5 rfl hl (by decide) rfl (fun ls hl => ?_)
    refine lv_goto (tgt := 19) F.1 F.2.1 dL_leaves_6 (by decide) ?_
    refine lv_iload_n F.1 F.2.1 dL_leaves_19 rfl (lv_at hl 0 rfl) ?_
    refine lv_if_eq (tgt := 27) F.1 F.2.1 dL_leaves_20 (by decide) (fun c_1 => ?_) (fun c_1 => ?_)
    · refine lv_iconst (v := 0) F.1 F.2.1 dL_leaves_27 (by decide) ?_
      refine W.widen (k := 1) (n := 6) (Nat.le_of_ble_eq_true rfl) (Nat.le_of_ble_eq_true rfl) ?_
      exact q_retI (S := Unit) F hr hlk w ⟨by unfold A_leaves; rw [hx0]; exact (if_pos (hv.symm.trans c_1)).symm, AD1, hA, hM1⟩ dL_leaves_28
    · refine lv_iconst (v := 1) F.1 F.2.1 dL_leaves_23 (by decide) ?_
      refine lv_goto (tgt := 28) F.1 F.2.1 dL_leaves_24 (by decide) ?_
      refine W.widen (k := 1) (n := 6) (Nat.le_of_ble_eq_true rfl) (Nat.le_of_ble_eq_true rfl) ?_
      exact q_retI (S := Unit) F hr hlk w ⟨by unfold A_leaves; rw [hx0]; exact (if_neg (fun q => c_1 (hv.trans q))).symm, AD1, hA, hM1⟩ dL_leaves_28
theorem cw_visit : Cond.codeWith yL_visit cL_visit 4 (Option.some Jvm.ClassFile.FieldType.int) [(0, 6, 9, 22), (0, 6, 14, 16)] ∈ BIG := BIG_t 604 (by decide +kernel) (by decide +kernel)
theorem kW_visit : GoodIn BIG (va_wsS RL 183 yL_visit (WSh yL_visit cL_visit 4 (Option.some Jvm.ClassFile.FieldType.int) [(0, 6, 9, 22), (0, 6, 14, 16)])) := gSh (BIG_t 602 (by decide +kernel) (by decide +kernel)) (BIG_t 603 (by decide +kernel) (by decide +kernel)) wI_L cw_visit
theorem hdW_visit : yL_visit.cls ≠ "java/lang/invoke/MethodHandle" ∧ yL_visit.cls ≠ "java/lang/invoke/VarHandle" ∧ (parseMethodDescriptor yL_visit.desc).map (fun d => d.parameters.length) = some 2 := by decide +kernel
def A_visit (G : GS) (x1 : Int32) : Int32 := kw (K_visit G x1) (F_visit G x1)
set_option maxHeartbeats 4000000 in
set_option maxRecDepth 100000 in
theorem c_L_visit (l : Launch) (D : va_G) (cy : Nat → ClassId) (A : Nat → Prop) (X : MU) (AD : AM) (G : GS) (hM : RepC cy AD G X) (hI : InvC G) (x1 : Int32) (hn : ∀ s, s < gnS G → gnN G s < 514) (hlf : l.stackTraces = false) : Met l yL_visit (WSh yL_visit cL_visit 4 (Option.some Jvm.ClassFile.FieldType.int) [(0, 6, 9, 22), (0, 6, 14, 16)]) { frames := 9, cells := 5, slots := 2019, locals := 248 } (va_Pc [.ref (AD 0 0 0), .int x1] (Wd D cy A X)) (va_Qi (fun (k9 : Int32) (μ1 : MU) => k9 = A_visit G x1 ∧ ∃ AD1 : AM, AD1 0 = AD 0 ∧ RepC cy AD1 (H_visit G x1) μ1) (fun μ1 t => Wd D cy A μ1 t) A) 5 2019 A := by
  refine q_metW (by decide) (Nat.le_of_ble_eq_true rfl) ?_
  intro p e s m below meth c F w hr hlk ht ls hl
  have F : CallFix p m c cL_visit 4 s _ BIG RL := F
  have hl : lv_has ls 4 [(0, .ref (AD 0 0 0)), (1, .int x1)] := hl
  have w : WW D cy A (un X (fun _ => none)) s s.heap [] := by rw [un_0]; exact w
  refine lv_aload_n F.1 F.2.1 dL_visit_0 rfl (lv_at hl 0 rfl) ?_
  refine lv_iload_n F.1 F.2.1 dL_visit_1 rfl (lv_at hl 1 rfl) ?_
  refine q_uVx (rest := []) F w dis_0 kV_L_49 hd_X6_visit (ci := 7) rfl (t_X6_visit l D cy _ _ AD G hM hI x1 hn hlf) (hM.a0 ⟨by decide, rfl, rfl⟩) dL_visit_2 rfl rfl hl.1 ⟨rfl, rfl, (Nat.le_of_ble_eq_true rfl), (Nat.le_of_ble_eq_true rfl)⟩ (Nat.le_of_ble_eq_true rfl) ⟨(Nat.le_of_ble_eq_true rfl), (Nat.le_of_ble_eq_true rfl)⟩ (fun E ce q9 H locs hE hne w hce hcv hcl => ?_) (fun v9 X1 H locs hp hd w => ?_)
  · rcases kr_visit G x1 with hc | hc | hc
    · exact absurd (by rw [hc]; rfl) hne
    · have hE2 : E = "java/lang/IllegalStateException" := by rw [hE, hc]; rfl
      subst hE2
      have hH := hk_visit G x1 (by rw [hc]; decide)
      refine vx_catch (own := RL) (name := "java/lang/IllegalStateException") F.2.2.2.1 [⟨0, 6, 9, 22⟩] ⟨0, 6, 14, 16⟩ [] (ht.trans rfl) (fun z hz => by obtain rfl := List.mem_singleton.mp hz; exact Or.inr ⟨by decide, "java/lang/IndexOutOfBoundsException", F.2.2.2.2 _ wL_L_22, w.2.2.2.2.2.2.2.2.1 ("java/lang/IllegalStateException", "java/lang/IndexOutOfBoundsException") (by decide +kernel)⟩) (by decide) (by decide) (F.2.2.2.2 _ wL_L_16) (va_Nw.use rfl (w.2.2.2.2.2.2.2.1 ("java/lang/IllegalStateException", "java/lang/IllegalStateException") (by decide +kernel))) hce hcv hcl ?_
      refine lv_astore_n (lv' := [(3, .ref q9), (0, .ref (AD 0 0 0)), (1, .int x1)]) F.1 F.2.1 dL_visit_14 rfl hl (by decide) rfl (fun ls hl => ?_)
      refine lv_sipush (v := -7300) F.1 F.2.1 dL_visit_15 (by decide) ?_
      rw [un_0] at w
      refine W.widen (k := 5) (n := 2019) (Nat.le_of_ble_eq_true rfl) (Nat.le_of_ble_eq_true rfl) ?_
      exact q_retI (S := Unit) F hr hlk w ⟨by unfold A_visit; rw [hc]; rfl, AD, rfl, by rw [hH]; exact hM⟩ dL_visit_18
    · have hE2 : E = "java/lang/IndexOutOfBoundsException" := by rw [hE, hc]; rfl
      subst hE2
      have hH := hk_visit G x1 (by rw [hc]; decide)
      refine vx_catch (own := RL) (name := "java/lang/IndexOutOfBoundsException") F.2.2.2.1 [] ⟨0, 6, 9, 22⟩ [⟨0, 6, 14, 16⟩] (ht.trans rfl) (fun z hz => nomatch hz) (by decide) (by decide) (F.2.2.2.2 _ wL_L_22) (va_Nw.use rfl (w.2.2.2.2.2.2.2.1 ("java/lang/IndexOutOfBoundsException", "java/lang/IndexOutOfBoundsException") (by decide +kernel))) hce hcv hcl ?_
      refine lv_astore_n (lv' := [(3, .ref q9), (0, .ref (AD 0 0 0)), (1, .int x1)]) F.1 F.2.1 dL_visit_9 rfl hl (by decide) rfl (fun ls hl => ?_)
      refine lv_sipush (v := -7100) F.1 F.2.1 dL_visit_10 (by decide) ?_
      rw [un_0] at w
      refine W.widen (k := 5) (n := 2019) (Nat.le_of_ble_eq_true rfl) (Nat.le_of_ble_eq_true rfl) ?_
      exact q_retI (S := Unit) F hr hlk w ⟨by unfold A_visit; rw [hc]; rfl, AD, rfl, by rw [hH]; exact hM⟩ dL_visit_13
  · obtain ⟨hx0, hv, AD1, hA, hM1⟩ := hp
    rw [un_0] at w
    refine lv_istore_n (lv' := [(2, .int v9), (0, .ref (AD 0 0 0)), (1, .int x1)]) F.1 F.2.1 dL_visit_5 rfl hl (by decide) rfl (fun ls hl => ?_)
    refine lv_goto (tgt := 19) F.1 F.2.1 dL_visit_6 (by decide) ?_
    refine lv_iload_n F.1 F.2.1 dL_visit_19 rfl (lv_at hl 0 rfl) ?_
    refine W.widen (k := 5) (n := 2019) (Nat.le_of_ble_eq_true rfl) (Nat.le_of_ble_eq_true rfl) ?_
    exact q_retI (S := Unit) F hr hlk w ⟨by unfold A_visit; rw [hx0]; exact hv, AD1, hA, hM1⟩ dL_visit_20
theorem cw_finds : Cond.codeWith yL_finds cL_finds 6 (Option.some Jvm.ClassFile.FieldType.int) [(0, 9, 12, 22), (0, 9, 18, 14), (0, 9, 24, 16)] ∈ BIG := BIG_t 681 (by decide +kernel) (by decide +kernel)
theorem kW_finds : GoodIn BIG (va_wsS RL 185 yL_finds (WSh yL_finds cL_finds 6 (Option.some Jvm.ClassFile.FieldType.int) [(0, 9, 12, 22), (0, 9, 18, 14), (0, 9, 24, 16)])) := gSh (BIG_t 679 (by decide +kernel) (by decide +kernel)) (BIG_t 680 (by decide +kernel) (by decide +kernel)) wI_L cw_finds
theorem hdW_finds : yL_finds.cls ≠ "java/lang/invoke/MethodHandle" ∧ yL_finds.cls ≠ "java/lang/invoke/VarHandle" ∧ (parseMethodDescriptor yL_finds.desc).map (fun d => d.parameters.length) = some 4 := by decide +kernel
def A_finds (G : GS) (x1 x2 x3 : Int32) : Int32 := kw (K_finds G x1 x2 x3) (F_finds G x1 x2 x3)
set_option maxHeartbeats 4000000 in
set_option maxRecDepth 100000 in
theorem c_L_finds (l : Launch) (D : va_G) (cy : Nat → ClassId) (A : Nat → Prop) (X : MU) (AD : AM) (G : GS) (hM : RepC cy AD G X) (hI : InvC G) (x1 x2 x3 : Int32) (hn : ∀ s, s < gnS G → gnN G s < 514) (hlf : l.stackTraces = false) : Met l yL_finds (WSh yL_finds cL_finds 6 (Option.some Jvm.ClassFile.FieldType.int) [(0, 9, 12, 22), (0, 9, 18, 14), (0, 9, 24, 16)]) { frames := 9, cells := 4, slots := 2007, locals := 249 } (va_Pc [.ref (AD 0 0 0), .int x1, .int x2, .int x3] (Wd D cy A X)) (va_Qi (fun (k9 : Int32) (μ1 : MU) => k9 = A_finds G x1 x2 x3 ∧ ∃ AD1 : AM, AD1 0 = AD 0 ∧ RepC cy AD1 (H_finds G x1 x2 x3) μ1) (fun μ1 t => Wd D cy A μ1 t) A) 4 2007 A := by
  refine q_metW (by decide) (Nat.le_of_ble_eq_true rfl) ?_
  intro p e s m below meth c F w hr hlk ht ls hl
  have F : CallFix p m c cL_finds 6 s _ BIG RL := F
  have hl : lv_has ls 6 [(0, .ref (AD 0 0 0)), (1, .int x1), (2, .int x2), (3, .int x3)] := hl
  have w : WW D cy A (un X (fun _ => none)) s s.heap [] := by rw [un_0]; exact w
  refine lv_aload_n F.1 F.2.1 dL_finds_0 rfl (lv_at hl 0 rfl) ?_
  refine lv_iload_n F.1 F.2.1 dL_finds_1 rfl (lv_at hl 1 rfl) ?_
  refine lv_iload_n F.1 F.2.1 dL_finds_2 rfl (lv_at hl 2 rfl) ?_
  refine lv_iload_n F.1 F.2.1 dL_finds_3 rfl (lv_at hl 3 rfl) ?_
  refine q_uVx (rest := []) F w dis_0 kV_L_52 hd_X6_finds (ci := 7) rfl (t_X6_finds l D cy _ _ AD G hM hI x1 x2 x3 hn hlf) (hM.a0 ⟨by decide, rfl, rfl⟩) dL_finds_4 rfl rfl hl.1 ⟨rfl, rfl, (Nat.le_of_ble_eq_true rfl), (Nat.le_of_ble_eq_true rfl)⟩ (Nat.le_of_ble_eq_true rfl) ⟨(Nat.le_of_ble_eq_true rfl), (Nat.le_of_ble_eq_true rfl)⟩ (fun E ce q9 H locs hE hne w hce hcv hcl => ?_) (fun v9 X1 H locs hp hd w => ?_)
  · rcases kr_finds G x1 x2 x3 with hc | hc | hc | hc
    · exact absurd (by rw [hc]; rfl) hne
    · have hE2 : E = "java/lang/IllegalArgumentException" := by rw [hE, hc]; rfl
      subst hE2
      have hH := hk_finds G x1 x2 x3 (by rw [hc]; decide)
      refine vx_catch (own := RL) (name := "java/lang/IllegalArgumentException") F.2.2.2.1 [⟨0, 9, 12, 22⟩] ⟨0, 9, 18, 14⟩ [⟨0, 9, 24, 16⟩] (ht.trans rfl) (fun z hz => by obtain rfl := List.mem_singleton.mp hz; exact Or.inr ⟨by decide, "java/lang/IndexOutOfBoundsException", F.2.2.2.2 _ wL_L_22, w.2.2.2.2.2.2.2.2.1 ("java/lang/IllegalArgumentException", "java/lang/IndexOutOfBoundsException") (by decide +kernel)⟩) (by decide) (by decide) (F.2.2.2.2 _ wL_L_14) (va_Nw.use rfl (w.2.2.2.2.2.2.2.1 ("java/lang/IllegalArgumentException", "java/lang/IllegalArgumentException") (by decide +kernel))) hce hcv hcl ?_
      refine lv_astore (lv' := [(5, .ref q9), (0, .ref (AD 0 0 0)), (1, .int x1), (2, .int x2), (3, .int x3)]) F.1 F.2.1 dL_finds_18 hl (by decide) rfl (fun ls hl => ?_)
      refine lv_sipush (v := -7200) F.1 F.2.1 dL_finds_20 (by decide) ?_
      rw [un_0] at w
      refine W.widen (k := 4) (n := 2007) (Nat.le_of_ble_eq_true rfl) (Nat.le_of_ble_eq_true rfl) ?_
      exact q_retI (S := Unit) F hr hlk w ⟨by unfold A_finds; rw [hc]; rfl, AD, rfl, by rw [hH]; exact hM⟩ dL_finds_23
    · have hE2 : E = "java/lang/IllegalStateException" := by rw [hE, hc]; rfl
      subst hE2
      have hH := hk_finds G x1 x2 x3 (by rw [hc]; decide)
      refine vx_catch (own := RL) (name := "java/lang/IllegalStateException") F.2.2.2.1 [⟨0, 9, 12, 22⟩, ⟨0, 9, 18, 14⟩] ⟨0, 9, 24, 16⟩ [] (ht.trans rfl) (fun z hz => (List.mem_cons.mp hz).elim (fun e9 => by subst e9; exact Or.inr ⟨by decide, "java/lang/IndexOutOfBoundsException", F.2.2.2.2 _ wL_L_22, w.2.2.2.2.2.2.2.2.1 ("java/lang/IllegalStateException", "java/lang/IndexOutOfBoundsException") (by decide +kernel)⟩) (fun hz => by obtain rfl := List.mem_singleton.mp hz; exact Or.inr ⟨by decide, "java/lang/IllegalArgumentException", F.2.2.2.2 _ wL_L_14, w.2.2.2.2.2.2.2.2.1 ("java/lang/IllegalStateException", "java/lang/IllegalArgumentException") (by decide +kernel)⟩)) (by decide) (by decide) (F.2.2.2.2 _ wL_L_16) (va_Nw.use rfl (w.2.2.2.2.2.2.2.1 ("java/lang/IllegalStateException", "java/lang/IllegalStateException") (by decide +kernel))) hce hcv hcl ?_
      refine lv_astore (lv' := [(5, .ref q9), (0, .ref (AD 0 0 0)), (1, .int x1), (2, .int x2), (3, .int x3)]) F.1 F.2.1 dL_finds_24 hl (by decide) rfl (fun ls hl => ?_)
      refine lv_sipush (v := -7300) F.1 F.2.1 dL_finds_26 (by decide) ?_
      rw [un_0] at w
      refine W.widen (k := 4) (n := 2007) (Nat.le_of_ble_eq_true rfl) (Nat.le_of_ble_eq_true rfl) ?_
      exact q_retI (S := Unit) F hr hlk w ⟨by unfold A_finds; rw [hc]; rfl, AD, rfl, by rw [hH]; exact hM⟩ dL_finds_29
    · have hE2 : E = "java/lang/IndexOutOfBoundsException" := by rw [hE, hc]; rfl
      subst hE2
      have hH := hk_finds G x1 x2 x3 (by rw [hc]; decide)
      refine vx_catch (own := RL) (name := "java/lang/IndexOutOfBoundsException") F.2.2.2.1 [] ⟨0, 9, 12, 22⟩ [⟨0, 9, 18, 14⟩, ⟨0, 9, 24, 16⟩] (ht.trans rfl) (fun z hz => nomatch hz) (by decide) (by decide) (F.2.2.2.2 _ wL_L_22) (va_Nw.use rfl (w.2.2.2.2.2.2.2.1 ("java/lang/IndexOutOfBoundsException", "java/lang/IndexOutOfBoundsException") (by decide +kernel))) hce hcv hcl ?_
      refine lv_astore (lv' := [(5, .ref q9), (0, .ref (AD 0 0 0)), (1, .int x1), (2, .int x2), (3, .int x3)]) F.1 F.2.1 dL_finds_12 hl (by decide) rfl (fun ls hl => ?_)
      refine lv_sipush (v := -7100) F.1 F.2.1 dL_finds_14 (by decide) ?_
      rw [un_0] at w
      refine W.widen (k := 4) (n := 2007) (Nat.le_of_ble_eq_true rfl) (Nat.le_of_ble_eq_true rfl) ?_
      exact q_retI (S := Unit) F hr hlk w ⟨by unfold A_finds; rw [hc]; rfl, AD, rfl, by rw [hH]; exact hM⟩ dL_finds_17
  · obtain ⟨hx0, hv, AD1, hA, hM1⟩ := hp
    rw [un_0] at w
    refine lv_istore (lv' := [(4, .int v9), (0, .ref (AD 0 0 0)), (1, .int x1), (2, .int x2), (3, .int x3)]) F.1 F.2.1 dL_finds_7 hl (by decide) rfl (fun ls hl => ?_)
    refine lv_goto (tgt := 30) F.1 F.2.1 dL_finds_9 (by decide) ?_
    refine lv_iload F.1 F.2.1 dL_finds_30 (lv_at hl 0 rfl) ?_
    refine W.widen (k := 4) (n := 2007) (Nat.le_of_ble_eq_true rfl) (Nat.le_of_ble_eq_true rfl) ?_
    exact q_retI (S := Unit) F hr hlk w ⟨by unfold A_finds; rw [hx0]; exact hv, AD1, hA, hM1⟩ dL_finds_32
theorem cw_mends : Cond.codeWith yL_mends cL_mends 6 (Option.some Jvm.ClassFile.FieldType.int) [(0, 9, 12, 22), (0, 9, 18, 16)] ∈ BIG := BIG_t 729 (by decide +kernel) (by decide +kernel)
theorem kW_mends : GoodIn BIG (va_wsS RL 189 yL_mends (WSh yL_mends cL_mends 6 (Option.some Jvm.ClassFile.FieldType.int) [(0, 9, 12, 22), (0, 9, 18, 16)])) := gSh (BIG_t 727 (by decide +kernel) (by decide +kernel)) (BIG_t 728 (by decide +kernel) (by decide +kernel)) wI_L cw_mends
theorem hdW_mends : yL_mends.cls ≠ "java/lang/invoke/MethodHandle" ∧ yL_mends.cls ≠ "java/lang/invoke/VarHandle" ∧ (parseMethodDescriptor yL_mends.desc).map (fun d => d.parameters.length) = some 4 := by decide +kernel
def A_mends (G : GS) (x1 x2 x3 : Int32) : Int32 := kw (K_mends G x1 x2 x3) (F_mends G x1 x2 x3)
set_option maxHeartbeats 4000000 in
set_option maxRecDepth 100000 in
theorem c_L_mends (l : Launch) (D : va_G) (cy : Nat → ClassId) (A : Nat → Prop) (X : MU) (AD : AM) (G : GS) (hM : RepC cy AD G X) (hI : InvC G) (x1 x2 x3 : Int32) (hx3 : x3 = 0 ∨ x3 = 1) (hlf : l.stackTraces = false) : Met l yL_mends (WSh yL_mends cL_mends 6 (Option.some Jvm.ClassFile.FieldType.int) [(0, 9, 12, 22), (0, 9, 18, 16)]) { frames := 8, cells := 1, slots := 6, locals := 146 } (va_Pc [.ref (AD 0 0 0), .int x1, .int x2, .int x3] (Wd D cy A X)) (va_Qi (fun (k9 : Int32) (μ1 : MU) => k9 = A_mends G x1 x2 x3 ∧ ∃ AD1 : AM, AD1 0 = AD 0 ∧ RepC cy AD1 (H_mends G x1 x2 x3) μ1) (fun μ1 t => Wd D cy A μ1 t) A) 1 6 A := by
  refine q_metW (by decide) (Nat.le_of_ble_eq_true rfl) ?_
  intro p e s m below meth c F w hr hlk ht ls hl
  have F : CallFix p m c cL_mends 6 s _ BIG RL := F
  have hl : lv_has ls 6 [(0, .ref (AD 0 0 0)), (1, .int x1), (2, .int x2), (3, .int x3)] := hl
  have w : WW D cy A (un X (fun _ => none)) s s.heap [] := by rw [un_0]; exact w
  refine lv_aload_n F.1 F.2.1 dL_mends_0 rfl (lv_at hl 0 rfl) ?_
  refine lv_iload_n F.1 F.2.1 dL_mends_1 rfl (lv_at hl 1 rfl) ?_
  refine lv_iload_n F.1 F.2.1 dL_mends_2 rfl (lv_at hl 2 rfl) ?_
  refine lv_iload_n F.1 F.2.1 dL_mends_3 rfl (lv_at hl 3 rfl) ?_
  refine q_uVx (rest := []) F w dis_0 kV_L_55 hd_X6_mends (ci := 7) rfl (t_X6_mends l D cy _ _ AD G hM hI x1 x2 x3 hx3 hlf) (hM.a0 ⟨by decide, rfl, rfl⟩) dL_mends_4 rfl rfl hl.1 ⟨rfl, rfl, (Nat.le_of_ble_eq_true rfl), (Nat.le_of_ble_eq_true rfl)⟩ (Nat.le_of_ble_eq_true rfl) ⟨(Nat.le_of_ble_eq_true rfl), (Nat.le_of_ble_eq_true rfl)⟩ (fun E ce q9 H locs hE hne w hce hcv hcl => ?_) (fun v9 X1 H locs hp hd w => ?_)
  · rcases kr_mends G x1 x2 x3 with hc | hc | hc
    · exact absurd (by rw [hc]; rfl) hne
    · have hE2 : E = "java/lang/IllegalStateException" := by rw [hE, hc]; rfl
      subst hE2
      have hH := hk_mends G x1 x2 x3 (by rw [hc]; decide)
      refine vx_catch (own := RL) (name := "java/lang/IllegalStateException") F.2.2.2.1 [⟨0, 9, 12, 22⟩] ⟨0, 9, 18, 16⟩ [] (ht.trans rfl) (fun z hz => by obtain rfl := List.mem_singleton.mp hz; exact Or.inr ⟨by decide, "java/lang/IndexOutOfBoundsException", F.2.2.2.2 _ wL_L_22, w.2.2.2.2.2.2.2.2.1 ("java/lang/IllegalStateException", "java/lang/IndexOutOfBoundsException") (by decide +kernel)⟩) (by decide) (by decide) (F.2.2.2.2 _ wL_L_16) (va_Nw.use rfl (w.2.2.2.2.2.2.2.1 ("java/lang/IllegalStateException", "java/lang/IllegalStateException") (by decide +kernel))) hce hcv hcl ?_
      refine lv_astore (lv' := [(5, .ref q9), (0, .ref (AD 0 0 0)), (1, .int x1), (2, .int x2), (3, .int x3)]) F.1 F.2.1 dL_mends_18 hl (by decide) rfl (fun ls hl => ?_)
      refine lv_sipush (v := -7300) F.1 F.2.1 dL_mends_20 (by decide) ?_
      rw [un_0] at w
      refine W.widen (k := 1) (n := 6) (Nat.le_of_ble_eq_true rfl) (Nat.le_of_ble_eq_true rfl) ?_
      exact q_retI (S := Unit) F hr hlk w ⟨by unfold A_mends; rw [hc]; rfl, AD, rfl, by rw [hH]; exact hM⟩ dL_mends_23
    · have hE2 : E = "java/lang/IndexOutOfBoundsException" := by rw [hE, hc]; rfl
      subst hE2
      have hH := hk_mends G x1 x2 x3 (by rw [hc]; decide)
      refine vx_catch (own := RL) (name := "java/lang/IndexOutOfBoundsException") F.2.2.2.1 [] ⟨0, 9, 12, 22⟩ [⟨0, 9, 18, 16⟩] (ht.trans rfl) (fun z hz => nomatch hz) (by decide) (by decide) (F.2.2.2.2 _ wL_L_22) (va_Nw.use rfl (w.2.2.2.2.2.2.2.1 ("java/lang/IndexOutOfBoundsException", "java/lang/IndexOutOfBoundsException") (by decide +kernel))) hce hcv hcl ?_
      refine lv_astore (lv' := [(5, .ref q9), (0, .ref (AD 0 0 0)), (1, .int x1), (2, .int x2), (3, .int x3)]) F.1 F.2.1 dL_mends_12 hl (by decide) rfl (fun ls hl => ?_)
      refine lv_sipush (v := -7100) F.1 F.2.1 dL_mends_14 (by decide) ?_
      rw [un_0] at w
      refine W.widen (k := 1) (n := 6) (Nat.le_of_ble_eq_true rfl) (Nat.le_of_ble_eq_true rfl) ?_
      exact q_retI (S := Unit) F hr hlk w ⟨by unfold A_mends; rw [hc]; rfl, AD, rfl, by rw [hH]; exact hM⟩ dL_mends_17
  · obtain ⟨hx0, hv, AD1, hA, hM1⟩ := hp
    rw [un_0] at w
    refine lv_istore (lv' := [(4, .int v9), (0, .ref (AD 0 0 0)), (1, .int x1), (2, .int x2), (3, .int x3)]) F.1 F.2.1 dL_mends_7 hl (by decide) rfl (fun ls hl => ?_)
    refine lv_goto (tgt := 24) F.1 F.2.1 dL_mends_9 (by decide) ?_
    refine lv_iload F.1 F.2.1 dL_mends_24 (lv_at hl 0 rfl) ?_
    refine W.widen (k := 1) (n := 6) (Nat.le_of_ble_eq_true rfl) (Nat.le_of_ble_eq_true rfl) ?_
    exact q_retI (S := Unit) F hr hlk w ⟨by unfold A_mends; rw [hx0]; exact hv, AD1, hA, hM1⟩ dL_mends_26
theorem cw_detain : Cond.codeWith yL_detain cL_detain 4 (Option.some Jvm.ClassFile.FieldType.int) [(0, 6, 9, 22), (0, 6, 14, 16)] ∈ BIG := BIG_t 747 (by decide +kernel) (by decide +kernel)
theorem kW_detain : GoodIn BIG (va_wsS RL 192 yL_detain (WSh yL_detain cL_detain 4 (Option.some Jvm.ClassFile.FieldType.int) [(0, 6, 9, 22), (0, 6, 14, 16)])) := gSh (BIG_t 745 (by decide +kernel) (by decide +kernel)) (BIG_t 746 (by decide +kernel) (by decide +kernel)) wI_L cw_detain
theorem hdW_detain : yL_detain.cls ≠ "java/lang/invoke/MethodHandle" ∧ yL_detain.cls ≠ "java/lang/invoke/VarHandle" ∧ (parseMethodDescriptor yL_detain.desc).map (fun d => d.parameters.length) = some 2 := by decide +kernel
def A_detain (G : GS) (x1 : Int32) : Int32 := kw (K_detain G x1) (F_detain G x1)
set_option maxHeartbeats 4000000 in
set_option maxRecDepth 100000 in
theorem c_L_detain (l : Launch) (D : va_G) (cy : Nat → ClassId) (A : Nat → Prop) (X : MU) (AD : AM) (G : GS) (hM : RepC cy AD G X) (hI : InvC G) (x1 : Int32) (hn : ∀ s, s < gnS G → gnN G s < 514) (hlf : l.stackTraces = false) : Met l yL_detain (WSh yL_detain cL_detain 4 (Option.some Jvm.ClassFile.FieldType.int) [(0, 6, 9, 22), (0, 6, 14, 16)]) { frames := 9, cells := 2, slots := 1004, locals := 247 } (va_Pc [.ref (AD 0 0 0), .int x1] (Wd D cy A X)) (va_Qi (fun (k9 : Int32) (μ1 : MU) => k9 = A_detain G x1 ∧ ∃ AD1 : AM, AD1 0 = AD 0 ∧ RepC cy AD1 (H_detain G x1) μ1) (fun μ1 t => Wd D cy A μ1 t) A) 2 1004 A := by
  refine q_metW (by decide) (Nat.le_of_ble_eq_true rfl) ?_
  intro p e s m below meth c F w hr hlk ht ls hl
  have F : CallFix p m c cL_detain 4 s _ BIG RL := F
  have hl : lv_has ls 4 [(0, .ref (AD 0 0 0)), (1, .int x1)] := hl
  have w : WW D cy A (un X (fun _ => none)) s s.heap [] := by rw [un_0]; exact w
  refine lv_aload_n F.1 F.2.1 dL_detain_0 rfl (lv_at hl 0 rfl) ?_
  refine lv_iload_n F.1 F.2.1 dL_detain_1 rfl (lv_at hl 1 rfl) ?_
  refine q_uVx (rest := []) F w dis_0 kV_L_59 hd_X6_detain (ci := 7) rfl (t_X6_detain l D cy _ _ AD G hM hI x1 hn hlf) (hM.a0 ⟨by decide, rfl, rfl⟩) dL_detain_2 rfl rfl hl.1 ⟨rfl, rfl, (Nat.le_of_ble_eq_true rfl), (Nat.le_of_ble_eq_true rfl)⟩ (Nat.le_of_ble_eq_true rfl) ⟨(Nat.le_of_ble_eq_true rfl), (Nat.le_of_ble_eq_true rfl)⟩ (fun E ce q9 H locs hE hne w hce hcv hcl => ?_) (fun v9 X1 H locs hp hd w => ?_)
  · rcases kr_detain G x1 with hc | hc | hc
    · exact absurd (by rw [hc]; rfl) hne
    · have hE2 : E = "java/lang/IllegalStateException" := by rw [hE, hc]; rfl
      subst hE2
      have hH := hk_detain G x1 (by rw [hc]; decide)
      refine vx_catch (own := RL) (name := "java/lang/IllegalStateException") F.2.2.2.1 [⟨0, 6, 9, 22⟩] ⟨0, 6, 14, 16⟩ [] (ht.trans rfl) (fun z hz => by obtain rfl := List.mem_singleton.mp hz; exact Or.inr ⟨by decide, "java/lang/IndexOutOfBoundsException", F.2.2.2.2 _ wL_L_22, w.2.2.2.2.2.2.2.2.1 ("java/lang/IllegalStateException", "java/lang/IndexOutOfBoundsException") (by decide +kernel)⟩) (by decide) (by decide) (F.2.2.2.2 _ wL_L_16) (va_Nw.use rfl (w.2.2.2.2.2.2.2.1 ("java/lang/IllegalStateException", "java/lang/IllegalStateException") (by decide +kernel))) hce hcv hcl ?_
      refine lv_astore_n (lv' := [(3, .ref q9), (0, .ref (AD 0 0 0)), (1, .int x1)]) F.1 F.2.1 dL_detain_14 rfl hl (by decide) rfl (fun ls hl => ?_)
      refine lv_sipush (v := -7300) F.1 F.2.1 dL_detain_15 (by decide) ?_
      rw [un_0] at w
      refine W.widen (k := 2) (n := 1004) (Nat.le_of_ble_eq_true rfl) (Nat.le_of_ble_eq_true rfl) ?_
      exact q_retI (S := Unit) F hr hlk w ⟨by unfold A_detain; rw [hc]; rfl, AD, rfl, by rw [hH]; exact hM⟩ dL_detain_18
    · have hE2 : E = "java/lang/IndexOutOfBoundsException" := by rw [hE, hc]; rfl
      subst hE2
      have hH := hk_detain G x1 (by rw [hc]; decide)
      refine vx_catch (own := RL) (name := "java/lang/IndexOutOfBoundsException") F.2.2.2.1 [] ⟨0, 6, 9, 22⟩ [⟨0, 6, 14, 16⟩] (ht.trans rfl) (fun z hz => nomatch hz) (by decide) (by decide) (F.2.2.2.2 _ wL_L_22) (va_Nw.use rfl (w.2.2.2.2.2.2.2.1 ("java/lang/IndexOutOfBoundsException", "java/lang/IndexOutOfBoundsException") (by decide +kernel))) hce hcv hcl ?_
      refine lv_astore_n (lv' := [(3, .ref q9), (0, .ref (AD 0 0 0)), (1, .int x1)]) F.1 F.2.1 dL_detain_9 rfl hl (by decide) rfl (fun ls hl => ?_)
      refine lv_sipush (v := -7100) F.1 F.2.1 dL_detain_10 (by decide) ?_
      rw [un_0] at w
      refine W.widen (k := 2) (n := 1004) (Nat.le_of_ble_eq_true rfl) (Nat.le_of_ble_eq_true rfl) ?_
      exact q_retI (S := Unit) F hr hlk w ⟨by unfold A_detain; rw [hc]; rfl, AD, rfl, by rw [hH]; exact hM⟩ dL_detain_13
  · obtain ⟨hx0, hv, AD1, hA, hM1⟩ := hp
    rw [un_0] at w
    refine lv_istore_n (lv' := [(2, .int v9), (0, .ref (AD 0 0 0)), (1, .int x1)]) F.1 F.2.1 dL_detain_5 rfl hl (by decide) rfl (fun ls hl => ?_)
    refine lv_goto (tgt := 19) F.1 F.2.1 dL_detain_6 (by decide) ?_
    refine lv_iload_n F.1 F.2.1 dL_detain_19 rfl (lv_at hl 0 rfl) ?_
    refine W.widen (k := 2) (n := 1004) (Nat.le_of_ble_eq_true rfl) (Nat.le_of_ble_eq_true rfl) ?_
    exact q_retI (S := Unit) F hr hlk w ⟨by unfold A_detain; rw [hx0]; exact hv, AD1, hA, hM1⟩ dL_detain_20
theorem cw_release : Cond.codeWith yL_release cL_release 4 (Option.some Jvm.ClassFile.FieldType.int) [(0, 6, 9, 22), (0, 6, 14, 16)] ∈ BIG := BIG_t 771 (by decide +kernel) (by decide +kernel)
theorem kW_release : GoodIn BIG (va_wsS RL 199 yL_release (WSh yL_release cL_release 4 (Option.some Jvm.ClassFile.FieldType.int) [(0, 6, 9, 22), (0, 6, 14, 16)])) := gSh (BIG_t 769 (by decide +kernel) (by decide +kernel)) (BIG_t 770 (by decide +kernel) (by decide +kernel)) wI_L cw_release
theorem hdW_release : yL_release.cls ≠ "java/lang/invoke/MethodHandle" ∧ yL_release.cls ≠ "java/lang/invoke/VarHandle" ∧ (parseMethodDescriptor yL_release.desc).map (fun d => d.parameters.length) = some 2 := by decide +kernel
def A_release (G : GS) (x1 : Int32) : Int32 := kw (K_release G x1) (F_release G x1)
set_option maxHeartbeats 4000000 in
set_option maxRecDepth 100000 in
theorem c_L_release (l : Launch) (D : va_G) (cy : Nat → ClassId) (A : Nat → Prop) (X : MU) (AD : AM) (G : GS) (hM : RepC cy AD G X) (hI : InvC G) (x1 : Int32) (hlf : l.stackTraces = false) : Met l yL_release (WSh yL_release cL_release 4 (Option.some Jvm.ClassFile.FieldType.int) [(0, 6, 9, 22), (0, 6, 14, 16)]) { frames := 8, cells := 1, slots := 6, locals := 145 } (va_Pc [.ref (AD 0 0 0), .int x1] (Wd D cy A X)) (va_Qi (fun (k9 : Int32) (μ1 : MU) => k9 = A_release G x1 ∧ ∃ AD1 : AM, AD1 0 = AD 0 ∧ RepC cy AD1 (H_release G x1) μ1) (fun μ1 t => Wd D cy A μ1 t) A) 1 6 A := by
  refine q_metW (by decide) (Nat.le_of_ble_eq_true rfl) ?_
  intro p e s m below meth c F w hr hlk ht ls hl
  have F : CallFix p m c cL_release 4 s _ BIG RL := F
  have hl : lv_has ls 4 [(0, .ref (AD 0 0 0)), (1, .int x1)] := hl
  have w : WW D cy A (un X (fun _ => none)) s s.heap [] := by rw [un_0]; exact w
  refine lv_aload_n F.1 F.2.1 dL_release_0 rfl (lv_at hl 0 rfl) ?_
  refine lv_iload_n F.1 F.2.1 dL_release_1 rfl (lv_at hl 1 rfl) ?_
  refine q_uVx (rest := []) F w dis_0 kV_L_62 hd_X6_release (ci := 7) rfl (t_X6_release l D cy _ _ AD G hM hI x1 hlf) (hM.a0 ⟨by decide, rfl, rfl⟩) dL_release_2 rfl rfl hl.1 ⟨rfl, rfl, (Nat.le_of_ble_eq_true rfl), (Nat.le_of_ble_eq_true rfl)⟩ (Nat.le_of_ble_eq_true rfl) ⟨(Nat.le_of_ble_eq_true rfl), (Nat.le_of_ble_eq_true rfl)⟩ (fun E ce q9 H locs hE hne w hce hcv hcl => ?_) (fun v9 X1 H locs hp hd w => ?_)
  · rcases kr_release G x1 with hc | hc | hc
    · exact absurd (by rw [hc]; rfl) hne
    · have hE2 : E = "java/lang/IllegalStateException" := by rw [hE, hc]; rfl
      subst hE2
      have hH := hk_release G x1 (by rw [hc]; decide)
      refine vx_catch (own := RL) (name := "java/lang/IllegalStateException") F.2.2.2.1 [⟨0, 6, 9, 22⟩] ⟨0, 6, 14, 16⟩ [] (ht.trans rfl) (fun z hz => by obtain rfl := List.mem_singleton.mp hz; exact Or.inr ⟨by decide, "java/lang/IndexOutOfBoundsException", F.2.2.2.2 _ wL_L_22, w.2.2.2.2.2.2.2.2.1 ("java/lang/IllegalStateException", "java/lang/IndexOutOfBoundsException") (by decide +kernel)⟩) (by decide) (by decide) (F.2.2.2.2 _ wL_L_16) (va_Nw.use rfl (w.2.2.2.2.2.2.2.1 ("java/lang/IllegalStateException", "java/lang/IllegalStateException") (by decide +kernel))) hce hcv hcl ?_
      refine lv_astore_n (lv' := [(3, .ref q9), (0, .ref (AD 0 0 0)), (1, .int x1)]) F.1 F.2.1 dL_release_14 rfl hl (by decide) rfl (fun ls hl => ?_)
      refine lv_sipush (v := -7300) F.1 F.2.1 dL_release_15 (by decide) ?_
      rw [un_0] at w
      refine W.widen (k := 1) (n := 6) (Nat.le_of_ble_eq_true rfl) (Nat.le_of_ble_eq_true rfl) ?_
      exact q_retI (S := Unit) F hr hlk w ⟨by unfold A_release; rw [hc]; rfl, AD, rfl, by rw [hH]; exact hM⟩ dL_release_18
    · have hE2 : E = "java/lang/IndexOutOfBoundsException" := by rw [hE, hc]; rfl
      subst hE2
      have hH := hk_release G x1 (by rw [hc]; decide)
      refine vx_catch (own := RL) (name := "java/lang/IndexOutOfBoundsException") F.2.2.2.1 [] ⟨0, 6, 9, 22⟩ [⟨0, 6, 14, 16⟩] (ht.trans rfl) (fun z hz => nomatch hz) (by decide) (by decide) (F.2.2.2.2 _ wL_L_22) (va_Nw.use rfl (w.2.2.2.2.2.2.2.1 ("java/lang/IndexOutOfBoundsException", "java/lang/IndexOutOfBoundsException") (by decide +kernel))) hce hcv hcl ?_
      refine lv_astore_n (lv' := [(3, .ref q9), (0, .ref (AD 0 0 0)), (1, .int x1)]) F.1 F.2.1 dL_release_9 rfl hl (by decide) rfl (fun ls hl => ?_)
      refine lv_sipush (v := -7100) F.1 F.2.1 dL_release_10 (by decide) ?_
      rw [un_0] at w
      refine W.widen (k := 1) (n := 6) (Nat.le_of_ble_eq_true rfl) (Nat.le_of_ble_eq_true rfl) ?_
      exact q_retI (S := Unit) F hr hlk w ⟨by unfold A_release; rw [hc]; rfl, AD, rfl, by rw [hH]; exact hM⟩ dL_release_13
  · obtain ⟨hx0, hv, AD1, hA, hM1⟩ := hp
    rw [un_0] at w
    refine lv_istore_n (lv' := [(2, .int v9), (0, .ref (AD 0 0 0)), (1, .int x1)]) F.1 F.2.1 dL_release_5 rfl hl (by decide) rfl (fun ls hl => ?_)
    refine lv_goto (tgt := 19) F.1 F.2.1 dL_release_6 (by decide) ?_
    refine lv_iload_n F.1 F.2.1 dL_release_19 rfl (lv_at hl 0 rfl) ?_
    refine W.widen (k := 1) (n := 6) (Nat.le_of_ble_eq_true rfl) (Nat.le_of_ble_eq_true rfl) ?_
    exact q_retI (S := Unit) F hr hlk w ⟨by unfold A_release; rw [hx0]; exact hv, AD1, hA, hM1⟩ dL_release_20
theorem cw_appeal : Cond.codeWith yL_appeal cL_appeal 3 (Option.some Jvm.ClassFile.FieldType.int) [(0, 5, 8, 22), (0, 5, 13, 16)] ∈ BIG := BIG_t 783 (by decide +kernel) (by decide +kernel)
theorem kW_appeal : GoodIn BIG (va_wsS RL 195 yL_appeal (WSh yL_appeal cL_appeal 3 (Option.some Jvm.ClassFile.FieldType.int) [(0, 5, 8, 22), (0, 5, 13, 16)])) := gSh (BIG_t 781 (by decide +kernel) (by decide +kernel)) (BIG_t 782 (by decide +kernel) (by decide +kernel)) wI_L cw_appeal
theorem hdW_appeal : yL_appeal.cls ≠ "java/lang/invoke/MethodHandle" ∧ yL_appeal.cls ≠ "java/lang/invoke/VarHandle" ∧ (parseMethodDescriptor yL_appeal.desc).map (fun d => d.parameters.length) = some 2 := by decide +kernel
def A_appeal (G : GS) (x1 : Int32) : Int32 := kw (K_appeal G x1) 0
set_option maxHeartbeats 4000000 in
set_option maxRecDepth 100000 in
theorem c_L_appeal (l : Launch) (D : va_G) (cy : Nat → ClassId) (A : Nat → Prop) (X : MU) (AD : AM) (G : GS) (hM : RepC cy AD G X) (hI : InvC G) (x1 : Int32) (hlf : l.stackTraces = false) : Met l yL_appeal (WSh yL_appeal cL_appeal 3 (Option.some Jvm.ClassFile.FieldType.int) [(0, 5, 8, 22), (0, 5, 13, 16)]) { frames := 8, cells := 1, slots := 6, locals := 143 } (va_Pc [.ref (AD 0 0 0), .int x1] (Wd D cy A X)) (va_Qi (fun (k9 : Int32) (μ1 : MU) => k9 = A_appeal G x1 ∧ ∃ AD1 : AM, AD1 0 = AD 0 ∧ RepC cy AD1 (H_appeal G x1) μ1) (fun μ1 t => Wd D cy A μ1 t) A) 1 6 A := by
  refine q_metW (by decide) (Nat.le_of_ble_eq_true rfl) ?_
  intro p e s m below meth c F w hr hlk ht ls hl
  have F : CallFix p m c cL_appeal 3 s _ BIG RL := F
  have hl : lv_has ls 3 [(0, .ref (AD 0 0 0)), (1, .int x1)] := hl
  have w : WW D cy A (un X (fun _ => none)) s s.heap [] := by rw [un_0]; exact w
  refine lv_aload_n F.1 F.2.1 dL_appeal_0 rfl (lv_at hl 0 rfl) ?_
  refine lv_iload_n F.1 F.2.1 dL_appeal_1 rfl (lv_at hl 1 rfl) ?_
  refine q_uVxv (rest := []) F w dis_0 kV_L_65 hd_X6_appeal (ci := 7) rfl (t_X6_appeal l D cy _ _ AD G hM hI x1 hlf) (hM.a0 ⟨by decide, rfl, rfl⟩) dL_appeal_2 rfl rfl hl.1 ⟨rfl, rfl, (Nat.le_of_ble_eq_true rfl), (Nat.le_of_ble_eq_true rfl)⟩ (Nat.le_of_ble_eq_true rfl) ⟨(Nat.le_of_ble_eq_true rfl), (Nat.le_of_ble_eq_true rfl)⟩ (fun E ce q9 H locs hE hne w hce hcv hcl => ?_) (fun X1 H locs hp hd w => ?_)
  · rcases kr_appeal G x1 with hc | hc | hc
    · exact absurd (by rw [hc]; rfl) hne
    · have hE2 : E = "java/lang/IllegalStateException" := by rw [hE, hc]; rfl
      subst hE2
      have hH := hk_appeal G x1 (by rw [hc]; decide)
      refine vx_catch (own := RL) (name := "java/lang/IllegalStateException") F.2.2.2.1 [⟨0, 5, 8, 22⟩] ⟨0, 5, 13, 16⟩ [] (ht.trans rfl) (fun z hz => by obtain rfl := List.mem_singleton.mp hz; exact Or.inr ⟨by decide, "java/lang/IndexOutOfBoundsException", F.2.2.2.2 _ wL_L_22, w.2.2.2.2.2.2.2.2.1 ("java/lang/IllegalStateException", "java/lang/IndexOutOfBoundsException") (by decide +kernel)⟩) (by decide) (by decide) (F.2.2.2.2 _ wL_L_16) (va_Nw.use rfl (w.2.2.2.2.2.2.2.1 ("java/lang/IllegalStateException", "java/lang/IllegalStateException") (by decide +kernel))) hce hcv hcl ?_
      refine lv_astore_n (lv' := [(2, .ref q9), (0, .ref (AD 0 0 0)), (1, .int x1)]) F.1 F.2.1 dL_appeal_13 rfl hl (by decide) rfl (fun ls hl => ?_)
      refine lv_sipush (v := -7300) F.1 F.2.1 dL_appeal_14 (by decide) ?_
      rw [un_0] at w
      refine W.widen (k := 1) (n := 6) (Nat.le_of_ble_eq_true rfl) (Nat.le_of_ble_eq_true rfl) ?_
      exact q_retI (S := Unit) F hr hlk w ⟨by unfold A_appeal; rw [hc]; rfl, AD, rfl, by rw [hH]; exact hM⟩ dL_appeal_17
    · have hE2 : E = "java/lang/IndexOutOfBoundsException" := by rw [hE, hc]; rfl
      subst hE2
      have hH := hk_appeal G x1 (by rw [hc]; decide)
      refine vx_catch (own := RL) (name := "java/lang/IndexOutOfBoundsException") F.2.2.2.1 [] ⟨0, 5, 8, 22⟩ [⟨0, 5, 13, 16⟩] (ht.trans rfl) (fun z hz => nomatch hz) (by decide) (by decide) (F.2.2.2.2 _ wL_L_22) (va_Nw.use rfl (w.2.2.2.2.2.2.2.1 ("java/lang/IndexOutOfBoundsException", "java/lang/IndexOutOfBoundsException") (by decide +kernel))) hce hcv hcl ?_
      refine lv_astore_n (lv' := [(2, .ref q9), (0, .ref (AD 0 0 0)), (1, .int x1)]) F.1 F.2.1 dL_appeal_8 rfl hl (by decide) rfl (fun ls hl => ?_)
      refine lv_sipush (v := -7100) F.1 F.2.1 dL_appeal_9 (by decide) ?_
      rw [un_0] at w
      refine W.widen (k := 1) (n := 6) (Nat.le_of_ble_eq_true rfl) (Nat.le_of_ble_eq_true rfl) ?_
      exact q_retI (S := Unit) F hr hlk w ⟨by unfold A_appeal; rw [hc]; rfl, AD, rfl, by rw [hH]; exact hM⟩ dL_appeal_12
  · obtain ⟨hx0, AD1, hA, hM1⟩ := hp
    rw [un_0] at w
    refine lv_goto (tgt := 18) F.1 F.2.1 dL_appeal_5 (by decide) ?_
    refine lv_iconst (v := 0) F.1 F.2.1 dL_appeal_18 (by decide) ?_
    refine W.widen (k := 1) (n := 6) (Nat.le_of_ble_eq_true rfl) (Nat.le_of_ble_eq_true rfl) ?_
    exact q_retI (S := Unit) F hr hlk w ⟨by unfold A_appeal; rw [hx0]; exact rfl, AD1, hA, hM1⟩ dL_appeal_19
theorem cw_vote : Cond.codeWith yL_vote cL_vote 5 (Option.some Jvm.ClassFile.FieldType.int) [(0, 7, 10, 22), (0, 7, 16, 16)] ∈ BIG := BIG_t 791 (by decide +kernel) (by decide +kernel)
theorem kW_vote : GoodIn BIG (va_wsS RL 197 yL_vote (WSh yL_vote cL_vote 5 (Option.some Jvm.ClassFile.FieldType.int) [(0, 7, 10, 22), (0, 7, 16, 16)])) := gSh (BIG_t 789 (by decide +kernel) (by decide +kernel)) (BIG_t 790 (by decide +kernel) (by decide +kernel)) wI_L cw_vote
theorem hdW_vote : yL_vote.cls ≠ "java/lang/invoke/MethodHandle" ∧ yL_vote.cls ≠ "java/lang/invoke/VarHandle" ∧ (parseMethodDescriptor yL_vote.desc).map (fun d => d.parameters.length) = some 3 := by decide +kernel
def A_vote (G : GS) (x1 x2 : Int32) : Int32 := kw (K_vote G x1 x2) (F_vote G x1 x2)
set_option maxHeartbeats 4000000 in
set_option maxRecDepth 100000 in
theorem c_L_vote (l : Launch) (D : va_G) (cy : Nat → ClassId) (A : Nat → Prop) (X : MU) (AD : AM) (G : GS) (hM : RepC cy AD G X) (hI : InvC G) (x1 x2 : Int32) (hx2 : x2 = 0 ∨ x2 = 1) (hn : ∀ s, s < gnS G → gnN G s < 514) (hlf : l.stackTraces = false) : Met l yL_vote (WSh yL_vote cL_vote 5 (Option.some Jvm.ClassFile.FieldType.int) [(0, 7, 10, 22), (0, 7, 16, 16)]) { frames := 9, cells := 2, slots := 1004, locals := 248 } (va_Pc [.ref (AD 0 0 0), .int x1, .int x2] (Wd D cy A X)) (va_Qi (fun (k9 : Int32) (μ1 : MU) => k9 = A_vote G x1 x2 ∧ ∃ AD1 : AM, AD1 0 = AD 0 ∧ RepC cy AD1 (H_vote G x1 x2) μ1) (fun μ1 t => Wd D cy A μ1 t) A) 2 1004 A := by
  refine q_metW (by decide) (Nat.le_of_ble_eq_true rfl) ?_
  intro p e s m below meth c F w hr hlk ht ls hl
  have F : CallFix p m c cL_vote 5 s _ BIG RL := F
  have hl : lv_has ls 5 [(0, .ref (AD 0 0 0)), (1, .int x1), (2, .int x2)] := hl
  have w : WW D cy A (un X (fun _ => none)) s s.heap [] := by rw [un_0]; exact w
  refine lv_aload_n F.1 F.2.1 dL_vote_0 rfl (lv_at hl 0 rfl) ?_
  refine lv_iload_n F.1 F.2.1 dL_vote_1 rfl (lv_at hl 1 rfl) ?_
  refine lv_iload_n F.1 F.2.1 dL_vote_2 rfl (lv_at hl 2 rfl) ?_
  refine q_uVx (rest := []) F w dis_0 kV_L_69 hd_X6_vote (ci := 7) rfl (t_X6_vote l D cy _ _ AD G hM hI x1 x2 hx2 hn hlf) (hM.a0 ⟨by decide, rfl, rfl⟩) dL_vote_3 rfl rfl hl.1 ⟨rfl, rfl, (Nat.le_of_ble_eq_true rfl), (Nat.le_of_ble_eq_true rfl)⟩ (Nat.le_of_ble_eq_true rfl) ⟨(Nat.le_of_ble_eq_true rfl), (Nat.le_of_ble_eq_true rfl)⟩ (fun E ce q9 H locs hE hne w hce hcv hcl => ?_) (fun v9 X1 H locs hp hd w => ?_)
  · rcases kr_vote G x1 x2 with hc | hc | hc
    · exact absurd (by rw [hc]; rfl) hne
    · have hE2 : E = "java/lang/IllegalStateException" := by rw [hE, hc]; rfl
      subst hE2
      have hH := hk_vote G x1 x2 (by rw [hc]; decide)
      refine vx_catch (own := RL) (name := "java/lang/IllegalStateException") F.2.2.2.1 [⟨0, 7, 10, 22⟩] ⟨0, 7, 16, 16⟩ [] (ht.trans rfl) (fun z hz => by obtain rfl := List.mem_singleton.mp hz; exact Or.inr ⟨by decide, "java/lang/IndexOutOfBoundsException", F.2.2.2.2 _ wL_L_22, w.2.2.2.2.2.2.2.2.1 ("java/lang/IllegalStateException", "java/lang/IndexOutOfBoundsException") (by decide +kernel)⟩) (by decide) (by decide) (F.2.2.2.2 _ wL_L_16) (va_Nw.use rfl (w.2.2.2.2.2.2.2.1 ("java/lang/IllegalStateException", "java/lang/IllegalStateException") (by decide +kernel))) hce hcv hcl ?_
      refine lv_astore (lv' := [(4, .ref q9), (0, .ref (AD 0 0 0)), (1, .int x1), (2, .int x2)]) F.1 F.2.1 dL_vote_16 hl (by decide) rfl (fun ls hl => ?_)
      refine lv_sipush (v := -7300) F.1 F.2.1 dL_vote_18 (by decide) ?_
      rw [un_0] at w
      refine W.widen (k := 2) (n := 1004) (Nat.le_of_ble_eq_true rfl) (Nat.le_of_ble_eq_true rfl) ?_
      exact q_retI (S := Unit) F hr hlk w ⟨by unfold A_vote; rw [hc]; rfl, AD, rfl, by rw [hH]; exact hM⟩ dL_vote_21
    · have hE2 : E = "java/lang/IndexOutOfBoundsException" := by rw [hE, hc]; rfl
      subst hE2
      have hH := hk_vote G x1 x2 (by rw [hc]; decide)
      refine vx_catch (own := RL) (name := "java/lang/IndexOutOfBoundsException") F.2.2.2.1 [] ⟨0, 7, 10, 22⟩ [⟨0, 7, 16, 16⟩] (ht.trans rfl) (fun z hz => nomatch hz) (by decide) (by decide) (F.2.2.2.2 _ wL_L_22) (va_Nw.use rfl (w.2.2.2.2.2.2.2.1 ("java/lang/IndexOutOfBoundsException", "java/lang/IndexOutOfBoundsException") (by decide +kernel))) hce hcv hcl ?_
      refine lv_astore (lv' := [(4, .ref q9), (0, .ref (AD 0 0 0)), (1, .int x1), (2, .int x2)]) F.1 F.2.1 dL_vote_10 hl (by decide) rfl (fun ls hl => ?_)
      refine lv_sipush (v := -7100) F.1 F.2.1 dL_vote_12 (by decide) ?_
      rw [un_0] at w
      refine W.widen (k := 2) (n := 1004) (Nat.le_of_ble_eq_true rfl) (Nat.le_of_ble_eq_true rfl) ?_
      exact q_retI (S := Unit) F hr hlk w ⟨by unfold A_vote; rw [hc]; rfl, AD, rfl, by rw [hH]; exact hM⟩ dL_vote_15
  · obtain ⟨hx0, hv, AD1, hA, hM1⟩ := hp
    rw [un_0] at w
    refine lv_istore_n (lv' := [(3, .int v9), (0, .ref (AD 0 0 0)), (1, .int x1), (2, .int x2)]) F.1 F.2.1 dL_vote_6 rfl hl (by decide) rfl (fun ls hl => ?_)
    refine lv_goto (tgt := 22) F.1 F.2.1 dL_vote_7 (by decide) ?_
    refine lv_iload_n F.1 F.2.1 dL_vote_22 rfl (lv_at hl 0 rfl) ?_
    refine W.widen (k := 2) (n := 1004) (Nat.le_of_ble_eq_true rfl) (Nat.le_of_ble_eq_true rfl) ?_
    exact q_retI (S := Unit) F hr hlk w ⟨by unfold A_vote; rw [hx0]; exact hv, AD1, hA, hM1⟩ dL_vote_23
theorem cw_ofShip : Cond.codeWith yL_ofShip cL_ofShip 5 (Option.some Jvm.ClassFile.FieldType.int) [(0, 7, 10, 22), (0, 7, 16, 14)] ∈ BIG := BIG_t 840 (by decide +kernel) (by decide +kernel)
theorem kW_ofShip : GoodIn BIG (va_wsS RL 124 yL_ofShip (WSh yL_ofShip cL_ofShip 5 (Option.some Jvm.ClassFile.FieldType.int) [(0, 7, 10, 22), (0, 7, 16, 14)])) := gSh (BIG_t 838 (by decide +kernel) (by decide +kernel)) (BIG_t 839 (by decide +kernel) (by decide +kernel)) wI_L cw_ofShip
theorem hdW_ofShip : yL_ofShip.cls ≠ "java/lang/invoke/MethodHandle" ∧ yL_ofShip.cls ≠ "java/lang/invoke/VarHandle" ∧ (parseMethodDescriptor yL_ofShip.desc).map (fun d => d.parameters.length) = some 3 := by decide +kernel
def A_ofShip (G : GS) (x1 x2 : Int32) : Int32 := kw (K_ofShip G x1 x2) (F_ofShip G x1 x2)
set_option maxHeartbeats 4000000 in
set_option maxRecDepth 100000 in
theorem c_L_ofShip (l : Launch) (D : va_G) (cy : Nat → ClassId) (A : Nat → Prop) (X : MU) (AD : AM) (G : GS) (hM : RepC cy AD G X) (hI : InvC G) (x1 x2 : Int32) (hlf : l.stackTraces = false) : Met l yL_ofShip (WSh yL_ofShip cL_ofShip 5 (Option.some Jvm.ClassFile.FieldType.int) [(0, 7, 10, 22), (0, 7, 16, 14)]) { frames := 9, cells := 1, slots := 6, locals := 206 } (va_Pc [.ref (AD 0 0 0), .int x1, .int x2] (Wd D cy A X)) (va_Qi (fun (k9 : Int32) (μ1 : MU) => k9 = A_ofShip G x1 x2 ∧ ∃ AD1 : AM, AD1 0 = AD 0 ∧ RepC cy AD1 (H_ofShip G x1 x2) μ1) (fun μ1 t => Wd D cy A μ1 t) A) 1 6 A := by
  refine q_metW (by decide) (Nat.le_of_ble_eq_true rfl) ?_
  intro p e s m below meth c F w hr hlk ht ls hl
  have F : CallFix p m c cL_ofShip 5 s _ BIG RL := F
  have hl : lv_has ls 5 [(0, .ref (AD 0 0 0)), (1, .int x1), (2, .int x2)] := hl
  have w : WW D cy A (un X (fun _ => none)) s s.heap [] := by rw [un_0]; exact w
  refine lv_aload_n F.1 F.2.1 dL_ofShip_0 rfl (lv_at hl 0 rfl) ?_
  refine lv_iload_n F.1 F.2.1 dL_ofShip_1 rfl (lv_at hl 1 rfl) ?_
  refine lv_iload_n F.1 F.2.1 dL_ofShip_2 rfl (lv_at hl 2 rfl) ?_
  refine q_uVx (rest := []) F w dis_0 kV_L_73 hd_X6_ofShip (ci := 7) rfl (t_X6_ofShip l D cy _ _ AD G hM hI x1 x2 hlf) (hM.a0 ⟨by decide, rfl, rfl⟩) dL_ofShip_3 rfl rfl hl.1 ⟨rfl, rfl, (Nat.le_of_ble_eq_true rfl), (Nat.le_of_ble_eq_true rfl)⟩ (Nat.le_of_ble_eq_true rfl) ⟨(Nat.le_of_ble_eq_true rfl), (Nat.le_of_ble_eq_true rfl)⟩ (fun E ce q9 H locs hE hne w hce hcv hcl => ?_) (fun v9 X1 H locs hp hd w => ?_)
  · rcases kr_ofShip G x1 x2 with hc | hc | hc
    · exact absurd (by rw [hc]; rfl) hne
    · have hE2 : E = "java/lang/IllegalArgumentException" := by rw [hE, hc]; rfl
      subst hE2
      have hH := hk_ofShip G x1 x2 (by rw [hc]; decide)
      refine vx_catch (own := RL) (name := "java/lang/IllegalArgumentException") F.2.2.2.1 [⟨0, 7, 10, 22⟩] ⟨0, 7, 16, 14⟩ [] (ht.trans rfl) (fun z hz => by obtain rfl := List.mem_singleton.mp hz; exact Or.inr ⟨by decide, "java/lang/IndexOutOfBoundsException", F.2.2.2.2 _ wL_L_22, w.2.2.2.2.2.2.2.2.1 ("java/lang/IllegalArgumentException", "java/lang/IndexOutOfBoundsException") (by decide +kernel)⟩) (by decide) (by decide) (F.2.2.2.2 _ wL_L_14) (va_Nw.use rfl (w.2.2.2.2.2.2.2.1 ("java/lang/IllegalArgumentException", "java/lang/IllegalArgumentException") (by decide +kernel))) hce hcv hcl ?_
      refine lv_astore (lv' := [(4, .ref q9), (0, .ref (AD 0 0 0)), (1, .int x1), (2, .int x2)]) F.1 F.2.1 dL_ofShip_16 hl (by decide) rfl (fun ls hl => ?_)
      refine lv_sipush (v := -7200) F.1 F.2.1 dL_ofShip_18 (by decide) ?_
      rw [un_0] at w
      refine W.widen (k := 1) (n := 6) (Nat.le_of_ble_eq_true rfl) (Nat.le_of_ble_eq_true rfl) ?_
      exact q_retI (S := Unit) F hr hlk w ⟨by unfold A_ofShip; rw [hc]; rfl, AD, rfl, by rw [hH]; exact hM⟩ dL_ofShip_21
    · have hE2 : E = "java/lang/IndexOutOfBoundsException" := by rw [hE, hc]; rfl
      subst hE2
      have hH := hk_ofShip G x1 x2 (by rw [hc]; decide)
      refine vx_catch (own := RL) (name := "java/lang/IndexOutOfBoundsException") F.2.2.2.1 [] ⟨0, 7, 10, 22⟩ [⟨0, 7, 16, 14⟩] (ht.trans rfl) (fun z hz => nomatch hz) (by decide) (by decide) (F.2.2.2.2 _ wL_L_22) (va_Nw.use rfl (w.2.2.2.2.2.2.2.1 ("java/lang/IndexOutOfBoundsException", "java/lang/IndexOutOfBoundsException") (by decide +kernel))) hce hcv hcl ?_
      refine lv_astore (lv' := [(4, .ref q9), (0, .ref (AD 0 0 0)), (1, .int x1), (2, .int x2)]) F.1 F.2.1 dL_ofShip_10 hl (by decide) rfl (fun ls hl => ?_)
      refine lv_sipush (v := -7100) F.1 F.2.1 dL_ofShip_12 (by decide) ?_
      rw [un_0] at w
      refine W.widen (k := 1) (n := 6) (Nat.le_of_ble_eq_true rfl) (Nat.le_of_ble_eq_true rfl) ?_
      exact q_retI (S := Unit) F hr hlk w ⟨by unfold A_ofShip; rw [hc]; rfl, AD, rfl, by rw [hH]; exact hM⟩ dL_ofShip_15
  · obtain ⟨hx0, hv, AD1, hA, hM1⟩ := hp
    rw [un_0] at w
    refine lv_istore_n (lv' := [(3, .int v9), (0, .ref (AD 0 0 0)), (1, .int x1), (2, .int x2)]) F.1 F.2.1 dL_ofShip_6 rfl hl (by decide) rfl (fun ls hl => ?_)
    refine lv_goto (tgt := 22) F.1 F.2.1 dL_ofShip_7 (by decide) ?_
    refine lv_iload_n F.1 F.2.1 dL_ofShip_22 rfl (lv_at hl 0 rfl) ?_
    refine W.widen (k := 1) (n := 6) (Nat.le_of_ble_eq_true rfl) (Nat.le_of_ble_eq_true rfl) ?_
    exact q_retI (S := Unit) F hr hlk w ⟨by unfold A_ofShip; rw [hx0]; exact hv, AD1, hA, hM1⟩ dL_ofShip_23
theorem cw_pointsAnew : Cond.codeWith yL_pointsAnew cL_pointsAnew 4 (Option.some Jvm.ClassFile.FieldType.int) [(0, 6, 9, 22)] ∈ BIG := BIG_t 868 (by decide +kernel) (by decide +kernel)
theorem kW_pointsAnew : GoodIn BIG (va_wsS RL 146 yL_pointsAnew (WSh yL_pointsAnew cL_pointsAnew 4 (Option.some Jvm.ClassFile.FieldType.int) [(0, 6, 9, 22)])) := gSh (BIG_t 866 (by decide +kernel) (by decide +kernel)) (BIG_t 867 (by decide +kernel) (by decide +kernel)) wI_L cw_pointsAnew
theorem hdW_pointsAnew : yL_pointsAnew.cls ≠ "java/lang/invoke/MethodHandle" ∧ yL_pointsAnew.cls ≠ "java/lang/invoke/VarHandle" ∧ (parseMethodDescriptor yL_pointsAnew.desc).map (fun d => d.parameters.length) = some 2 := by decide +kernel
def A_pointsAnew (G : GS) (x1 : Int32) : Int32 := kw (K_pointsAnew G x1) (F_pointsAnew G x1)
set_option maxHeartbeats 4000000 in
set_option maxRecDepth 100000 in
theorem c_L_pointsAnew (l : Launch) (D : va_G) (cy : Nat → ClassId) (A : Nat → Prop) (X : MU) (AD : AM) (G : GS) (hM : RepC cy AD G X) (hI : InvC G) (x1 : Int32) (hlf : l.stackTraces = false) : Met l yL_pointsAnew (WSh yL_pointsAnew cL_pointsAnew 4 (Option.some Jvm.ClassFile.FieldType.int) [(0, 6, 9, 22)]) { frames := 8, cells := 1, slots := 6, locals := 161 } (va_Pc [.ref (AD 0 0 0), .int x1] (Wd D cy A X)) (va_Qi (fun (k9 : Int32) (μ1 : MU) => k9 = A_pointsAnew G x1 ∧ ∃ AD1 : AM, AD1 0 = AD 0 ∧ RepC cy AD1 (H_pointsAnew G x1) μ1) (fun μ1 t => Wd D cy A μ1 t) A) 1 6 A := by
  refine q_metW (by decide) (Nat.le_of_ble_eq_true rfl) ?_
  intro p e s m below meth c F w hr hlk ht ls hl
  have F : CallFix p m c cL_pointsAnew 4 s _ BIG RL := F
  have hl : lv_has ls 4 [(0, .ref (AD 0 0 0)), (1, .int x1)] := hl
  have w : WW D cy A (un X (fun _ => none)) s s.heap [] := by rw [un_0]; exact w
  refine lv_aload_n F.1 F.2.1 dL_pointsAnew_0 rfl (lv_at hl 0 rfl) ?_
  refine lv_iload_n F.1 F.2.1 dL_pointsAnew_1 rfl (lv_at hl 1 rfl) ?_
  refine q_uVx (rest := []) F w dis_0 kV_L_76 hd_X6_pointsAnew (ci := 7) rfl (t_X6_pointsAnew l D cy _ _ AD G hM hI x1 hlf) (hM.a0 ⟨by decide, rfl, rfl⟩) dL_pointsAnew_2 rfl rfl hl.1 ⟨rfl, rfl, (Nat.le_of_ble_eq_true rfl), (Nat.le_of_ble_eq_true rfl)⟩ (Nat.le_of_ble_eq_true rfl) ⟨(Nat.le_of_ble_eq_true rfl), (Nat.le_of_ble_eq_true rfl)⟩ (fun E ce q9 H locs hE hne w hce hcv hcl => ?_) (fun v9 X1 H locs hp hd w => ?_)
  · rcases kr_pointsAnew G x1 with hc | hc
    · exact absurd (by rw [hc]; rfl) hne
    · have hE2 : E = "java/lang/IndexOutOfBoundsException" := by rw [hE, hc]; rfl
      subst hE2
      have hH := hk_pointsAnew G x1 (by rw [hc]; decide)
      refine vx_catch (own := RL) (name := "java/lang/IndexOutOfBoundsException") F.2.2.2.1 [] ⟨0, 6, 9, 22⟩ [] (ht.trans rfl) (fun z hz => nomatch hz) (by decide) (by decide) (F.2.2.2.2 _ wL_L_22) (va_Nw.use rfl (w.2.2.2.2.2.2.2.1 ("java/lang/IndexOutOfBoundsException", "java/lang/IndexOutOfBoundsException") (by decide +kernel))) hce hcv hcl ?_
      refine lv_astore_n (lv' := [(3, .ref q9), (0, .ref (AD 0 0 0)), (1, .int x1)]) F.1 F.2.1 dL_pointsAnew_9 rfl hl (by decide) rfl (fun ls hl => ?_)
      refine lv_sipush (v := -7100) F.1 F.2.1 dL_pointsAnew_10 (by decide) ?_
      rw [un_0] at w
      refine W.widen (k := 1) (n := 6) (Nat.le_of_ble_eq_true rfl) (Nat.le_of_ble_eq_true rfl) ?_
      exact q_retI (S := Unit) F hr hlk w ⟨by unfold A_pointsAnew; rw [hc]; rfl, AD, rfl, by rw [hH]; exact hM⟩ dL_pointsAnew_13
  · obtain ⟨hx0, hv, AD1, hA, hM1⟩ := hp
    rw [un_0] at w
    refine lv_istore_n (lv' := [(2, .int v9), (0, .ref (AD 0 0 0)), (1, .int x1)]) F.1 F.2.1 dL_pointsAnew_5 rfl hl (by decide) rfl (fun ls hl => ?_)
    refine lv_goto (tgt := 14) F.1 F.2.1 dL_pointsAnew_6 (by decide) ?_
    refine lv_iload_n F.1 F.2.1 dL_pointsAnew_14 rfl (lv_at hl 0 rfl) ?_
    refine W.widen (k := 1) (n := 6) (Nat.le_of_ble_eq_true rfl) (Nat.le_of_ble_eq_true rfl) ?_
    exact q_retI (S := Unit) F hr hlk w ⟨by unfold A_pointsAnew; rw [hx0]; exact hv, AD1, hA, hM1⟩ dL_pointsAnew_15
theorem cw_isGround : Cond.codeWith yL_isGround cL_isGround 5 (Option.some Jvm.ClassFile.FieldType.int) [(0, 7, 10, 22), (0, 7, 16, 14)] ∈ BIG := BIG_t 860 (by decide +kernel) (by decide +kernel)
theorem kW_isGround : GoodIn BIG (va_wsS RL 140 yL_isGround (WSh yL_isGround cL_isGround 5 (Option.some Jvm.ClassFile.FieldType.int) [(0, 7, 10, 22), (0, 7, 16, 14)])) := gSh (BIG_t 858 (by decide +kernel) (by decide +kernel)) (BIG_t 859 (by decide +kernel) (by decide +kernel)) wI_L cw_isGround
theorem hdW_isGround : yL_isGround.cls ≠ "java/lang/invoke/MethodHandle" ∧ yL_isGround.cls ≠ "java/lang/invoke/VarHandle" ∧ (parseMethodDescriptor yL_isGround.desc).map (fun d => d.parameters.length) = some 3 := by decide +kernel
def A_isGround (G : GS) (x1 x2 : Int32) : Int32 := kw (K_isGround G x1 x2) (if F_isGround G x1 x2 = 0 then 0 else 1)
set_option maxHeartbeats 4000000 in
set_option maxRecDepth 100000 in
theorem c_L_isGround (l : Launch) (D : va_G) (cy : Nat → ClassId) (A : Nat → Prop) (X : MU) (AD : AM) (G : GS) (hM : RepC cy AD G X) (hI : InvC G) (x1 x2 : Int32) (hlf : l.stackTraces = false) : Met l yL_isGround (WSh yL_isGround cL_isGround 5 (Option.some Jvm.ClassFile.FieldType.int) [(0, 7, 10, 22), (0, 7, 16, 14)]) { frames := 8, cells := 1, slots := 6, locals := 144 } (va_Pc [.ref (AD 0 0 0), .int x1, .int x2] (Wd D cy A X)) (va_Qi (fun (k9 : Int32) (μ1 : MU) => k9 = A_isGround G x1 x2 ∧ ∃ AD1 : AM, AD1 0 = AD 0 ∧ RepC cy AD1 (H_isGround G x1 x2) μ1) (fun μ1 t => Wd D cy A μ1 t) A) 1 6 A := by
  refine q_metW (by decide) (Nat.le_of_ble_eq_true rfl) ?_
  intro p e s m below meth c F w hr hlk ht ls hl
  have F : CallFix p m c cL_isGround 5 s _ BIG RL := F
  have hl : lv_has ls 5 [(0, .ref (AD 0 0 0)), (1, .int x1), (2, .int x2)] := hl
  have w : WW D cy A (un X (fun _ => none)) s s.heap [] := by rw [un_0]; exact w
  refine lv_aload_n F.1 F.2.1 dL_isGround_0 rfl (lv_at hl 0 rfl) ?_
  refine lv_iload_n F.1 F.2.1 dL_isGround_1 rfl (lv_at hl 1 rfl) ?_
  refine lv_iload_n F.1 F.2.1 dL_isGround_2 rfl (lv_at hl 2 rfl) ?_
  refine q_uVx (rest := []) F w dis_0 kV_L_79 hd_X6_isGround (ci := 7) rfl (t_X6_isGround l D cy _ _ AD G hM hI x1 x2 hlf) (hM.a0 ⟨by decide, rfl, rfl⟩) dL_isGround_3 rfl rfl hl.1 ⟨rfl, rfl, (Nat.le_of_ble_eq_true rfl), (Nat.le_of_ble_eq_true rfl)⟩ (Nat.le_of_ble_eq_true rfl) ⟨(Nat.le_of_ble_eq_true rfl), (Nat.le_of_ble_eq_true rfl)⟩ (fun E ce q9 H locs hE hne w hce hcv hcl => ?_) (fun v9 X1 H locs hp hd w => ?_)
  · rcases kr_isGround G x1 x2 with hc | hc | hc
    · exact absurd (by rw [hc]; rfl) hne
    · have hE2 : E = "java/lang/IllegalArgumentException" := by rw [hE, hc]; rfl
      subst hE2
      have hH := hk_isGround G x1 x2 (by rw [hc]; decide)
      refine vx_catch (own := RL) (name := "java/lang/IllegalArgumentException") F.2.2.2.1 [⟨0, 7, 10, 22⟩] ⟨0, 7, 16, 14⟩ [] (ht.trans rfl) (fun z hz => by obtain rfl := List.mem_singleton.mp hz; exact Or.inr ⟨by decide, "java/lang/IndexOutOfBoundsException", F.2.2.2.2 _ wL_L_22, w.2.2.2.2.2.2.2.2.1 ("java/lang/IllegalArgumentException", "java/lang/IndexOutOfBoundsException") (by decide +kernel)⟩) (by decide) (by decide) (F.2.2.2.2 _ wL_L_14) (va_Nw.use rfl (w.2.2.2.2.2.2.2.1 ("java/lang/IllegalArgumentException", "java/lang/IllegalArgumentException") (by decide +kernel))) hce hcv hcl ?_
      refine lv_astore (lv' := [(4, .ref q9), (0, .ref (AD 0 0 0)), (1, .int x1), (2, .int x2)]) F.1 F.2.1 dL_isGround_16 hl (by decide) rfl (fun ls hl => ?_)
      refine lv_sipush (v := -7200) F.1 F.2.1 dL_isGround_18 (by decide) ?_
      rw [un_0] at w
      refine W.widen (k := 1) (n := 6) (Nat.le_of_ble_eq_true rfl) (Nat.le_of_ble_eq_true rfl) ?_
      exact q_retI (S := Unit) F hr hlk w ⟨by unfold A_isGround; rw [hc]; rfl, AD, rfl, by rw [hH]; exact hM⟩ dL_isGround_21
    · have hE2 : E = "java/lang/IndexOutOfBoundsException" := by rw [hE, hc]; rfl
      subst hE2
      have hH := hk_isGround G x1 x2 (by rw [hc]; decide)
      refine vx_catch (own := RL) (name := "java/lang/IndexOutOfBoundsException") F.2.2.2.1 [] ⟨0, 7, 10, 22⟩ [⟨0, 7, 16, 14⟩] (ht.trans rfl) (fun z hz => nomatch hz) (by decide) (by decide) (F.2.2.2.2 _ wL_L_22) (va_Nw.use rfl (w.2.2.2.2.2.2.2.1 ("java/lang/IndexOutOfBoundsException", "java/lang/IndexOutOfBoundsException") (by decide +kernel))) hce hcv hcl ?_
      refine lv_astore (lv' := [(4, .ref q9), (0, .ref (AD 0 0 0)), (1, .int x1), (2, .int x2)]) F.1 F.2.1 dL_isGround_10 hl (by decide) rfl (fun ls hl => ?_)
      refine lv_sipush (v := -7100) F.1 F.2.1 dL_isGround_12 (by decide) ?_
      rw [un_0] at w
      refine W.widen (k := 1) (n := 6) (Nat.le_of_ble_eq_true rfl) (Nat.le_of_ble_eq_true rfl) ?_
      exact q_retI (S := Unit) F hr hlk w ⟨by unfold A_isGround; rw [hc]; rfl, AD, rfl, by rw [hH]; exact hM⟩ dL_isGround_15
  · obtain ⟨hx0, hv, AD1, hA, hM1⟩ := hp
    rw [un_0] at w
    refine lv_istore_n (lv' := [(3, .int v9), (0, .ref (AD 0 0 0)), (1, .int x1), (2, .int x2)]) F.1 F.2.1 dL_isGround_6 rfl hl (by decide) rfl (fun ls hl => ?_)
    refine lv_goto (tgt := 22) F.1 F.2.1 dL_isGround_7 (by decide) ?_
    refine lv_iload_n F.1 F.2.1 dL_isGround_22 rfl (lv_at hl 0 rfl) ?_
    refine lv_if_eq (tgt := 30) F.1 F.2.1 dL_isGround_23 (by decide) (fun c_1 => ?_) (fun c_1 => ?_)
    · refine lv_iconst (v := 0) F.1 F.2.1 dL_isGround_30 (by decide) ?_
      refine W.widen (k := 1) (n := 6) (Nat.le_of_ble_eq_true rfl) (Nat.le_of_ble_eq_true rfl) ?_
      exact q_retI (S := Unit) F hr hlk w ⟨by unfold A_isGround; rw [hx0]; exact (if_pos (hv.symm.trans c_1)).symm, AD1, hA, hM1⟩ dL_isGround_31
    · refine lv_iconst (v := 1) F.1 F.2.1 dL_isGround_26 (by decide) ?_
      refine lv_goto (tgt := 31) F.1 F.2.1 dL_isGround_27 (by decide) ?_
      refine W.widen (k := 1) (n := 6) (Nat.le_of_ble_eq_true rfl) (Nat.le_of_ble_eq_true rfl) ?_
      exact q_retI (S := Unit) F hr hlk w ⟨by unfold A_isGround; rw [hx0]; exact (if_neg (fun q => c_1 (hv.trans q))).symm, AD1, hA, hM1⟩ dL_isGround_31
theorem cw_ofVisit : Cond.codeWith yL_ofVisit cL_ofVisit 5 (Option.some Jvm.ClassFile.FieldType.int) [(0, 7, 10, 22), (0, 7, 16, 14)] ∈ BIG := BIG_t 893 (by decide +kernel) (by decide +kernel)
theorem kW_ofVisit : GoodIn BIG (va_wsS RL 151 yL_ofVisit (WSh yL_ofVisit cL_ofVisit 5 (Option.some Jvm.ClassFile.FieldType.int) [(0, 7, 10, 22), (0, 7, 16, 14)])) := gSh (BIG_t 891 (by decide +kernel) (by decide +kernel)) (BIG_t 892 (by decide +kernel) (by decide +kernel)) wI_L cw_ofVisit
theorem hdW_ofVisit : yL_ofVisit.cls ≠ "java/lang/invoke/MethodHandle" ∧ yL_ofVisit.cls ≠ "java/lang/invoke/VarHandle" ∧ (parseMethodDescriptor yL_ofVisit.desc).map (fun d => d.parameters.length) = some 3 := by decide +kernel
def A_ofVisit (G : GS) (x1 x2 : Int32) : Int32 := kw (K_ofVisit G x1 x2) (F_ofVisit G x1 x2)
set_option maxHeartbeats 4000000 in
set_option maxRecDepth 100000 in
theorem c_L_ofVisit (l : Launch) (D : va_G) (cy : Nat → ClassId) (A : Nat → Prop) (X : MU) (AD : AM) (G : GS) (hM : RepC cy AD G X) (hI : InvC G) (x1 x2 : Int32) (hlf : l.stackTraces = false) : Met l yL_ofVisit (WSh yL_ofVisit cL_ofVisit 5 (Option.some Jvm.ClassFile.FieldType.int) [(0, 7, 10, 22), (0, 7, 16, 14)]) { frames := 8, cells := 1, slots := 6, locals := 144 } (va_Pc [.ref (AD 0 0 0), .int x1, .int x2] (Wd D cy A X)) (va_Qi (fun (k9 : Int32) (μ1 : MU) => k9 = A_ofVisit G x1 x2 ∧ ∃ AD1 : AM, AD1 0 = AD 0 ∧ RepC cy AD1 (H_ofVisit G x1 x2) μ1) (fun μ1 t => Wd D cy A μ1 t) A) 1 6 A := by
  refine q_metW (by decide) (Nat.le_of_ble_eq_true rfl) ?_
  intro p e s m below meth c F w hr hlk ht ls hl
  have F : CallFix p m c cL_ofVisit 5 s _ BIG RL := F
  have hl : lv_has ls 5 [(0, .ref (AD 0 0 0)), (1, .int x1), (2, .int x2)] := hl
  have w : WW D cy A (un X (fun _ => none)) s s.heap [] := by rw [un_0]; exact w
  refine lv_aload_n F.1 F.2.1 dL_ofVisit_0 rfl (lv_at hl 0 rfl) ?_
  refine lv_iload_n F.1 F.2.1 dL_ofVisit_1 rfl (lv_at hl 1 rfl) ?_
  refine lv_iload_n F.1 F.2.1 dL_ofVisit_2 rfl (lv_at hl 2 rfl) ?_
  refine q_uVx (rest := []) F w dis_0 kV_L_83 hd_X6_ofVisit (ci := 7) rfl (t_X6_ofVisit l D cy _ _ AD G hM hI x1 x2 hlf) (hM.a0 ⟨by decide, rfl, rfl⟩) dL_ofVisit_3 rfl rfl hl.1 ⟨rfl, rfl, (Nat.le_of_ble_eq_true rfl), (Nat.le_of_ble_eq_true rfl)⟩ (Nat.le_of_ble_eq_true rfl) ⟨(Nat.le_of_ble_eq_true rfl), (Nat.le_of_ble_eq_true rfl)⟩ (fun E ce q9 H locs hE hne w hce hcv hcl => ?_) (fun v9 X1 H locs hp hd w => ?_)
  · rcases kr_ofVisit G x1 x2 with hc | hc | hc
    · exact absurd (by rw [hc]; rfl) hne
    · have hE2 : E = "java/lang/IllegalArgumentException" := by rw [hE, hc]; rfl
      subst hE2
      have hH := hk_ofVisit G x1 x2 (by rw [hc]; decide)
      refine vx_catch (own := RL) (name := "java/lang/IllegalArgumentException") F.2.2.2.1 [⟨0, 7, 10, 22⟩] ⟨0, 7, 16, 14⟩ [] (ht.trans rfl) (fun z hz => by obtain rfl := List.mem_singleton.mp hz; exact Or.inr ⟨by decide, "java/lang/IndexOutOfBoundsException", F.2.2.2.2 _ wL_L_22, w.2.2.2.2.2.2.2.2.1 ("java/lang/IllegalArgumentException", "java/lang/IndexOutOfBoundsException") (by decide +kernel)⟩) (by decide) (by decide) (F.2.2.2.2 _ wL_L_14) (va_Nw.use rfl (w.2.2.2.2.2.2.2.1 ("java/lang/IllegalArgumentException", "java/lang/IllegalArgumentException") (by decide +kernel))) hce hcv hcl ?_
      refine lv_astore (lv' := [(4, .ref q9), (0, .ref (AD 0 0 0)), (1, .int x1), (2, .int x2)]) F.1 F.2.1 dL_ofVisit_16 hl (by decide) rfl (fun ls hl => ?_)
      refine lv_sipush (v := -7200) F.1 F.2.1 dL_ofVisit_18 (by decide) ?_
      rw [un_0] at w
      refine W.widen (k := 1) (n := 6) (Nat.le_of_ble_eq_true rfl) (Nat.le_of_ble_eq_true rfl) ?_
      exact q_retI (S := Unit) F hr hlk w ⟨by unfold A_ofVisit; rw [hc]; rfl, AD, rfl, by rw [hH]; exact hM⟩ dL_ofVisit_21
    · have hE2 : E = "java/lang/IndexOutOfBoundsException" := by rw [hE, hc]; rfl
      subst hE2
      have hH := hk_ofVisit G x1 x2 (by rw [hc]; decide)
      refine vx_catch (own := RL) (name := "java/lang/IndexOutOfBoundsException") F.2.2.2.1 [] ⟨0, 7, 10, 22⟩ [⟨0, 7, 16, 14⟩] (ht.trans rfl) (fun z hz => nomatch hz) (by decide) (by decide) (F.2.2.2.2 _ wL_L_22) (va_Nw.use rfl (w.2.2.2.2.2.2.2.1 ("java/lang/IndexOutOfBoundsException", "java/lang/IndexOutOfBoundsException") (by decide +kernel))) hce hcv hcl ?_
      refine lv_astore (lv' := [(4, .ref q9), (0, .ref (AD 0 0 0)), (1, .int x1), (2, .int x2)]) F.1 F.2.1 dL_ofVisit_10 hl (by decide) rfl (fun ls hl => ?_)
      refine lv_sipush (v := -7100) F.1 F.2.1 dL_ofVisit_12 (by decide) ?_
      rw [un_0] at w
      refine W.widen (k := 1) (n := 6) (Nat.le_of_ble_eq_true rfl) (Nat.le_of_ble_eq_true rfl) ?_
      exact q_retI (S := Unit) F hr hlk w ⟨by unfold A_ofVisit; rw [hc]; rfl, AD, rfl, by rw [hH]; exact hM⟩ dL_ofVisit_15
  · obtain ⟨hx0, hv, AD1, hA, hM1⟩ := hp
    rw [un_0] at w
    refine lv_istore_n (lv' := [(3, .int v9), (0, .ref (AD 0 0 0)), (1, .int x1), (2, .int x2)]) F.1 F.2.1 dL_ofVisit_6 rfl hl (by decide) rfl (fun ls hl => ?_)
    refine lv_goto (tgt := 22) F.1 F.2.1 dL_ofVisit_7 (by decide) ?_
    refine lv_iload_n F.1 F.2.1 dL_ofVisit_22 rfl (lv_at hl 0 rfl) ?_
    refine W.widen (k := 1) (n := 6) (Nat.le_of_ble_eq_true rfl) (Nat.le_of_ble_eq_true rfl) ?_
    exact q_retI (S := Unit) F hr hlk w ⟨by unfold A_ofVisit; rw [hx0]; exact hv, AD1, hA, hM1⟩ dL_ofVisit_23
theorem cw_list : Cond.codeWith yL_list cL_list 4 (Option.some Jvm.ClassFile.FieldType.int) [(0, 6, 9, 22)] ∈ BIG := BIG_t 900 (by decide +kernel) (by decide +kernel)
theorem kW_list : GoodIn BIG (va_wsS RL 157 yL_list (WSh yL_list cL_list 4 (Option.some Jvm.ClassFile.FieldType.int) [(0, 6, 9, 22)])) := gSh (BIG_t 898 (by decide +kernel) (by decide +kernel)) (BIG_t 899 (by decide +kernel) (by decide +kernel)) wI_L cw_list
theorem hdW_list : yL_list.cls ≠ "java/lang/invoke/MethodHandle" ∧ yL_list.cls ≠ "java/lang/invoke/VarHandle" ∧ (parseMethodDescriptor yL_list.desc).map (fun d => d.parameters.length) = some 2 := by decide +kernel
def A_list (G : GS) (x1 : Int32) : Int32 := kw (K_list G x1) (F_list G x1)
set_option maxHeartbeats 4000000 in
set_option maxRecDepth 100000 in
theorem c_L_list (l : Launch) (D : va_G) (cy : Nat → ClassId) (A : Nat → Prop) (X : MU) (AD : AM) (G : GS) (hM : RepC cy AD G X) (hI : InvC G) (x1 : Int32) (hlf : l.stackTraces = false) : Met l yL_list (WSh yL_list cL_list 4 (Option.some Jvm.ClassFile.FieldType.int) [(0, 6, 9, 22)]) { frames := 7, cells := 1, slots := 6, locals := 121 } (va_Pc [.ref (AD 0 0 0), .int x1] (Wd D cy A X)) (va_Qi (fun (k9 : Int32) (μ1 : MU) => k9 = A_list G x1 ∧ ∃ AD1 : AM, AD1 0 = AD 0 ∧ RepC cy AD1 (H_list G x1) μ1) (fun μ1 t => Wd D cy A μ1 t) A) 1 6 A := by
  refine q_metW (by decide) (Nat.le_of_ble_eq_true rfl) ?_
  intro p e s m below meth c F w hr hlk ht ls hl
  have F : CallFix p m c cL_list 4 s _ BIG RL := F
  have hl : lv_has ls 4 [(0, .ref (AD 0 0 0)), (1, .int x1)] := hl
  have w : WW D cy A (un X (fun _ => none)) s s.heap [] := by rw [un_0]; exact w
  refine lv_aload_n F.1 F.2.1 dL_list_0 rfl (lv_at hl 0 rfl) ?_
  refine lv_iload_n F.1 F.2.1 dL_list_1 rfl (lv_at hl 1 rfl) ?_
  refine q_uVx (rest := []) F w dis_0 kV_L_86 hd_X6_list (ci := 7) rfl (t_X6_list l D cy _ _ AD G hM hI x1 hlf) (hM.a0 ⟨by decide, rfl, rfl⟩) dL_list_2 rfl rfl hl.1 ⟨rfl, rfl, (Nat.le_of_ble_eq_true rfl), (Nat.le_of_ble_eq_true rfl)⟩ (Nat.le_of_ble_eq_true rfl) ⟨(Nat.le_of_ble_eq_true rfl), (Nat.le_of_ble_eq_true rfl)⟩ (fun E ce q9 H locs hE hne w hce hcv hcl => ?_) (fun v9 X1 H locs hp hd w => ?_)
  · rcases kr_list G x1 with hc | hc
    · exact absurd (by rw [hc]; rfl) hne
    · have hE2 : E = "java/lang/IndexOutOfBoundsException" := by rw [hE, hc]; rfl
      subst hE2
      have hH := hk_list G x1 (by rw [hc]; decide)
      refine vx_catch (own := RL) (name := "java/lang/IndexOutOfBoundsException") F.2.2.2.1 [] ⟨0, 6, 9, 22⟩ [] (ht.trans rfl) (fun z hz => nomatch hz) (by decide) (by decide) (F.2.2.2.2 _ wL_L_22) (va_Nw.use rfl (w.2.2.2.2.2.2.2.1 ("java/lang/IndexOutOfBoundsException", "java/lang/IndexOutOfBoundsException") (by decide +kernel))) hce hcv hcl ?_
      refine lv_astore_n (lv' := [(3, .ref q9), (0, .ref (AD 0 0 0)), (1, .int x1)]) F.1 F.2.1 dL_list_9 rfl hl (by decide) rfl (fun ls hl => ?_)
      refine lv_sipush (v := -7100) F.1 F.2.1 dL_list_10 (by decide) ?_
      rw [un_0] at w
      refine W.widen (k := 1) (n := 6) (Nat.le_of_ble_eq_true rfl) (Nat.le_of_ble_eq_true rfl) ?_
      exact q_retI (S := Unit) F hr hlk w ⟨by unfold A_list; rw [hc]; rfl, AD, rfl, by rw [hH]; exact hM⟩ dL_list_13
  · obtain ⟨hx0, hv, AD1, hA, hM1⟩ := hp
    rw [un_0] at w
    refine lv_istore_n (lv' := [(2, .int v9), (0, .ref (AD 0 0 0)), (1, .int x1)]) F.1 F.2.1 dL_list_5 rfl hl (by decide) rfl (fun ls hl => ?_)
    refine lv_goto (tgt := 14) F.1 F.2.1 dL_list_6 (by decide) ?_
    refine lv_iload_n F.1 F.2.1 dL_list_14 rfl (lv_at hl 0 rfl) ?_
    refine W.widen (k := 1) (n := 6) (Nat.le_of_ble_eq_true rfl) (Nat.le_of_ble_eq_true rfl) ?_
    exact q_retI (S := Unit) F hr hlk w ⟨by unfold A_list; rw [hx0]; exact hv, AD1, hA, hM1⟩ dL_list_15
theorem cw_missed : Cond.codeWith yL_missed cL_missed 4 (Option.some Jvm.ClassFile.FieldType.int) [(0, 6, 9, 22)] ∈ BIG := BIG_t 886 (by decide +kernel) (by decide +kernel)
theorem kW_missed : GoodIn BIG (va_wsS RL 149 yL_missed (WSh yL_missed cL_missed 4 (Option.some Jvm.ClassFile.FieldType.int) [(0, 6, 9, 22)])) := gSh (BIG_t 884 (by decide +kernel) (by decide +kernel)) (BIG_t 885 (by decide +kernel) (by decide +kernel)) wI_L cw_missed
theorem hdW_missed : yL_missed.cls ≠ "java/lang/invoke/MethodHandle" ∧ yL_missed.cls ≠ "java/lang/invoke/VarHandle" ∧ (parseMethodDescriptor yL_missed.desc).map (fun d => d.parameters.length) = some 2 := by decide +kernel
def A_missed (G : GS) (x1 : Int32) : Int32 := kw (K_missed G x1) (F_missed G x1)
set_option maxHeartbeats 4000000 in
set_option maxRecDepth 100000 in
theorem c_L_missed (l : Launch) (D : va_G) (cy : Nat → ClassId) (A : Nat → Prop) (X : MU) (AD : AM) (G : GS) (hM : RepC cy AD G X) (hI : InvC G) (x1 : Int32) (hlf : l.stackTraces = false) : Met l yL_missed (WSh yL_missed cL_missed 4 (Option.some Jvm.ClassFile.FieldType.int) [(0, 6, 9, 22)]) { frames := 7, cells := 1, slots := 6, locals := 121 } (va_Pc [.ref (AD 0 0 0), .int x1] (Wd D cy A X)) (va_Qi (fun (k9 : Int32) (μ1 : MU) => k9 = A_missed G x1 ∧ ∃ AD1 : AM, AD1 0 = AD 0 ∧ RepC cy AD1 (H_missed G x1) μ1) (fun μ1 t => Wd D cy A μ1 t) A) 1 6 A := by
  refine q_metW (by decide) (Nat.le_of_ble_eq_true rfl) ?_
  intro p e s m below meth c F w hr hlk ht ls hl
  have F : CallFix p m c cL_missed 4 s _ BIG RL := F
  have hl : lv_has ls 4 [(0, .ref (AD 0 0 0)), (1, .int x1)] := hl
  have w : WW D cy A (un X (fun _ => none)) s s.heap [] := by rw [un_0]; exact w
  refine lv_aload_n F.1 F.2.1 dL_missed_0 rfl (lv_at hl 0 rfl) ?_
  refine lv_iload_n F.1 F.2.1 dL_missed_1 rfl (lv_at hl 1 rfl) ?_
  refine q_uVx (rest := []) F w dis_0 kV_L_89 hd_X6_missed (ci := 7) rfl (t_X6_missed l D cy _ _ AD G hM hI x1 hlf) (hM.a0 ⟨by decide, rfl, rfl⟩) dL_missed_2 rfl rfl hl.1 ⟨rfl, rfl, (Nat.le_of_ble_eq_true rfl), (Nat.le_of_ble_eq_true rfl)⟩ (Nat.le_of_ble_eq_true rfl) ⟨(Nat.le_of_ble_eq_true rfl), (Nat.le_of_ble_eq_true rfl)⟩ (fun E ce q9 H locs hE hne w hce hcv hcl => ?_) (fun v9 X1 H locs hp hd w => ?_)
  · rcases kr_missed G x1 with hc | hc
    · exact absurd (by rw [hc]; rfl) hne
    · have hE2 : E = "java/lang/IndexOutOfBoundsException" := by rw [hE, hc]; rfl
      subst hE2
      have hH := hk_missed G x1 (by rw [hc]; decide)
      refine vx_catch (own := RL) (name := "java/lang/IndexOutOfBoundsException") F.2.2.2.1 [] ⟨0, 6, 9, 22⟩ [] (ht.trans rfl) (fun z hz => nomatch hz) (by decide) (by decide) (F.2.2.2.2 _ wL_L_22) (va_Nw.use rfl (w.2.2.2.2.2.2.2.1 ("java/lang/IndexOutOfBoundsException", "java/lang/IndexOutOfBoundsException") (by decide +kernel))) hce hcv hcl ?_
      refine lv_astore_n (lv' := [(3, .ref q9), (0, .ref (AD 0 0 0)), (1, .int x1)]) F.1 F.2.1 dL_missed_9 rfl hl (by decide) rfl (fun ls hl => ?_)
      refine lv_sipush (v := -7100) F.1 F.2.1 dL_missed_10 (by decide) ?_
      rw [un_0] at w
      refine W.widen (k := 1) (n := 6) (Nat.le_of_ble_eq_true rfl) (Nat.le_of_ble_eq_true rfl) ?_
      exact q_retI (S := Unit) F hr hlk w ⟨by unfold A_missed; rw [hc]; rfl, AD, rfl, by rw [hH]; exact hM⟩ dL_missed_13
  · obtain ⟨hx0, hv, AD1, hA, hM1⟩ := hp
    rw [un_0] at w
    refine lv_istore_n (lv' := [(2, .int v9), (0, .ref (AD 0 0 0)), (1, .int x1)]) F.1 F.2.1 dL_missed_5 rfl hl (by decide) rfl (fun ls hl => ?_)
    refine lv_goto (tgt := 14) F.1 F.2.1 dL_missed_6 (by decide) ?_
    refine lv_iload_n F.1 F.2.1 dL_missed_14 rfl (lv_at hl 0 rfl) ?_
    refine W.widen (k := 1) (n := 6) (Nat.le_of_ble_eq_true rfl) (Nat.le_of_ble_eq_true rfl) ?_
    exact q_retI (S := Unit) F hr hlk w ⟨by unfold A_missed; rw [hx0]; exact hv, AD1, hA, hM1⟩ dL_missed_15
theorem cw_knew : Cond.codeWith yL_knew cL_knew 6 (Option.some Jvm.ClassFile.FieldType.int) [(0, 9, 12, 22), (0, 9, 18, 14)] ∈ BIG := BIG_t 848 (by decide +kernel) (by decide +kernel)
theorem kW_knew : GoodIn BIG (va_wsS RL 137 yL_knew (WSh yL_knew cL_knew 6 (Option.some Jvm.ClassFile.FieldType.int) [(0, 9, 12, 22), (0, 9, 18, 14)])) := gSh (BIG_t 846 (by decide +kernel) (by decide +kernel)) (BIG_t 847 (by decide +kernel) (by decide +kernel)) wI_L cw_knew
theorem hdW_knew : yL_knew.cls ≠ "java/lang/invoke/MethodHandle" ∧ yL_knew.cls ≠ "java/lang/invoke/VarHandle" ∧ (parseMethodDescriptor yL_knew.desc).map (fun d => d.parameters.length) = some 4 := by decide +kernel
def A_knew (G : GS) (x1 x2 x3 : Int32) : Int32 := kw (K_knew G x1 x2 x3) (F_knew G x1 x2 x3)
set_option maxHeartbeats 4000000 in
set_option maxRecDepth 100000 in
theorem c_L_knew (l : Launch) (D : va_G) (cy : Nat → ClassId) (A : Nat → Prop) (X : MU) (AD : AM) (G : GS) (hM : RepC cy AD G X) (hI : InvC G) (x1 x2 x3 : Int32) (hlf : l.stackTraces = false) : Met l yL_knew (WSh yL_knew cL_knew 6 (Option.some Jvm.ClassFile.FieldType.int) [(0, 9, 12, 22), (0, 9, 18, 14)]) { frames := 8, cells := 1, slots := 6, locals := 148 } (va_Pc [.ref (AD 0 0 0), .int x1, .int x2, .int x3] (Wd D cy A X)) (va_Qi (fun (k9 : Int32) (μ1 : MU) => k9 = A_knew G x1 x2 x3 ∧ ∃ AD1 : AM, AD1 0 = AD 0 ∧ RepC cy AD1 (H_knew G x1 x2 x3) μ1) (fun μ1 t => Wd D cy A μ1 t) A) 1 6 A := by
  refine q_metW (by decide) (Nat.le_of_ble_eq_true rfl) ?_
  intro p e s m below meth c F w hr hlk ht ls hl
  have F : CallFix p m c cL_knew 6 s _ BIG RL := F
  have hl : lv_has ls 6 [(0, .ref (AD 0 0 0)), (1, .int x1), (2, .int x2), (3, .int x3)] := hl
  have w : WW D cy A (un X (fun _ => none)) s s.heap [] := by rw [un_0]; exact w
  refine lv_aload_n F.1 F.2.1 dL_knew_0 rfl (lv_at hl 0 rfl) ?_
  refine lv_iload_n F.1 F.2.1 dL_knew_1 rfl (lv_at hl 1 rfl) ?_
  refine lv_iload_n F.1 F.2.1 dL_knew_2 rfl (lv_at hl 2 rfl) ?_
  refine lv_iload_n F.1 F.2.1 dL_knew_3 rfl (lv_at hl 3 rfl) ?_
  refine q_uVx (rest := []) F w dis_0 kV_L_92 hd_X6_knew (ci := 7) rfl (t_X6_knew l D cy _ _ AD G hM hI x1 x2 x3 hlf) (hM.a0 ⟨by decide, rfl, rfl⟩) dL_knew_4 rfl rfl hl.1 ⟨rfl, rfl, (Nat.le_of_ble_eq_true rfl), (Nat.le_of_ble_eq_true rfl)⟩ (Nat.le_of_ble_eq_true rfl) ⟨(Nat.le_of_ble_eq_true rfl), (Nat.le_of_ble_eq_true rfl)⟩ (fun E ce q9 H locs hE hne w hce hcv hcl => ?_) (fun v9 X1 H locs hp hd w => ?_)
  · rcases kr_knew G x1 x2 x3 with hc | hc | hc
    · exact absurd (by rw [hc]; rfl) hne
    · have hE2 : E = "java/lang/IllegalArgumentException" := by rw [hE, hc]; rfl
      subst hE2
      have hH := hk_knew G x1 x2 x3 (by rw [hc]; decide)
      refine vx_catch (own := RL) (name := "java/lang/IllegalArgumentException") F.2.2.2.1 [⟨0, 9, 12, 22⟩] ⟨0, 9, 18, 14⟩ [] (ht.trans rfl) (fun z hz => by obtain rfl := List.mem_singleton.mp hz; exact Or.inr ⟨by decide, "java/lang/IndexOutOfBoundsException", F.2.2.2.2 _ wL_L_22, w.2.2.2.2.2.2.2.2.1 ("java/lang/IllegalArgumentException", "java/lang/IndexOutOfBoundsException") (by decide +kernel)⟩) (by decide) (by decide) (F.2.2.2.2 _ wL_L_14) (va_Nw.use rfl (w.2.2.2.2.2.2.2.1 ("java/lang/IllegalArgumentException", "java/lang/IllegalArgumentException") (by decide +kernel))) hce hcv hcl ?_
      refine lv_astore (lv' := [(5, .ref q9), (0, .ref (AD 0 0 0)), (1, .int x1), (2, .int x2), (3, .int x3)]) F.1 F.2.1 dL_knew_18 hl (by decide) rfl (fun ls hl => ?_)
      refine lv_sipush (v := -7200) F.1 F.2.1 dL_knew_20 (by decide) ?_
      rw [un_0] at w
      refine W.widen (k := 1) (n := 6) (Nat.le_of_ble_eq_true rfl) (Nat.le_of_ble_eq_true rfl) ?_
      exact q_retI (S := Unit) F hr hlk w ⟨by unfold A_knew; rw [hc]; rfl, AD, rfl, by rw [hH]; exact hM⟩ dL_knew_23
    · have hE2 : E = "java/lang/IndexOutOfBoundsException" := by rw [hE, hc]; rfl
      subst hE2
      have hH := hk_knew G x1 x2 x3 (by rw [hc]; decide)
      refine vx_catch (own := RL) (name := "java/lang/IndexOutOfBoundsException") F.2.2.2.1 [] ⟨0, 9, 12, 22⟩ [⟨0, 9, 18, 14⟩] (ht.trans rfl) (fun z hz => nomatch hz) (by decide) (by decide) (F.2.2.2.2 _ wL_L_22) (va_Nw.use rfl (w.2.2.2.2.2.2.2.1 ("java/lang/IndexOutOfBoundsException", "java/lang/IndexOutOfBoundsException") (by decide +kernel))) hce hcv hcl ?_
      refine lv_astore (lv' := [(5, .ref q9), (0, .ref (AD 0 0 0)), (1, .int x1), (2, .int x2), (3, .int x3)]) F.1 F.2.1 dL_knew_12 hl (by decide) rfl (fun ls hl => ?_)
      refine lv_sipush (v := -7100) F.1 F.2.1 dL_knew_14 (by decide) ?_
      rw [un_0] at w
      refine W.widen (k := 1) (n := 6) (Nat.le_of_ble_eq_true rfl) (Nat.le_of_ble_eq_true rfl) ?_
      exact q_retI (S := Unit) F hr hlk w ⟨by unfold A_knew; rw [hc]; rfl, AD, rfl, by rw [hH]; exact hM⟩ dL_knew_17
  · obtain ⟨hx0, hv, AD1, hA, hM1⟩ := hp
    rw [un_0] at w
    refine lv_istore (lv' := [(4, .int v9), (0, .ref (AD 0 0 0)), (1, .int x1), (2, .int x2), (3, .int x3)]) F.1 F.2.1 dL_knew_7 hl (by decide) rfl (fun ls hl => ?_)
    refine lv_goto (tgt := 24) F.1 F.2.1 dL_knew_9 (by decide) ?_
    refine lv_iload F.1 F.2.1 dL_knew_24 (lv_at hl 0 rfl) ?_
    refine W.widen (k := 1) (n := 6) (Nat.le_of_ble_eq_true rfl) (Nat.le_of_ble_eq_true rfl) ?_
    exact q_retI (S := Unit) F hr hlk w ⟨by unfold A_knew; rw [hx0]; exact hv, AD1, hA, hM1⟩ dL_knew_26
