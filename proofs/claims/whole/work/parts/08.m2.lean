def frK (k : Nat) : Bool := k != 2 && k != 3 && k != 8 && k != 12 && k != 20 && k != 21 && k != 23 && k != 29 && k != 30 && k != 35
theorem InvM.fr {G : GS} (h : InvM G) (k i : Nat) (v : Int32) (hk : frK k = true) : InvM (up2 G k i v) := by
  have e : ∀ j, frK j = false → up2 G k i v j = G j := fun j hj => up2_ne (fun q => by rw [q, hk] at hj; cases hj)
  unfold InvM gnS gnR gnV gnF gnT
  rw [e 3 rfl, e 23 rfl, e 29 rfl, e 35 rfl, e 30 rfl, e 8 rfl, e 21 rfl, e 20 rfl, e 2 rfl, e 12 rfl]
  exact h
def g_X7_pass_1 (G : GS) (x1 : Int32) : GS := up2 G 0 0 (if f_X7_in x1 1 500 = 0 then 1 else (if (G 1 0) + x1 ≤ 9000 then 0 else 2))
theorem e_g_X7_pass_1 (G : GS) (x1 : Int32) {j : Nat} (h : j ∉ [0]) : g_X7_pass_1 G x1 j = G j := (up2_ne (fun q => h (by rw [q]; exact List.mem_cons_self))).trans rfl
def g_X7_pass_2 (G : GS) (x1 : Int32) : GS := up2 (g_X7_pass_1 G x1) 1 0 ((G 1 0) + x1)
theorem e_g_X7_pass_2 (G : GS) (x1 : Int32) {j : Nat} (h : j ∉ [1, 0]) : g_X7_pass_2 G x1 j = G j := (up2_ne (fun q => h (by rw [q]; exact List.mem_cons_self))).trans (e_g_X7_pass_1 G x1 (fun q => h (List.mem_cons_of_mem _ q)))
def f_X7_pass (G : GS) (x1 : Int32) : Int32 := if (if f_X7_in x1 1 500 = 0 then 1 else (if (G 1 0) + x1 ≤ 9000 then 0 else 2) : Int32) ≤ 0 then (G 1 0) + x1 else 0
def g_X7_pass (G : GS) (x1 : Int32) : GS := if (if f_X7_in x1 1 500 = 0 then 1 else (if (G 1 0) + x1 ≤ 9000 then 0 else 2) : Int32) ≤ 0 then g_X7_pass_2 G x1 else g_X7_pass_1 G x1
set_option maxHeartbeats 4000000 in
set_option maxRecDepth 100000 in
theorem c_X7_pass (l : Launch) (D : va_G) (cy : Nat → ClassId) (A : Nat → Prop) (μ : MU) (m0 : Nat) (ad : Nat → Nat) (G : GS) (hM : RepM cy m0 ad G μ) (x1 : Int32) : Met l yX7_pass (WS yX7_pass cX7_pass 2 (Option.some Jvm.ClassFile.FieldType.int)) { frames := 1, cells := 0, slots := 0, locals := 22 } (va_Pc [.ref m0, .int x1] (Wd D cy A μ)) (va_Qi (fun (r9 : Int32) (μ1 : MU) => r9 = f_X7_pass G x1 ∧ RepM cy m0 ad (g_X7_pass G x1) μ1) (fun μ1 t => Wd D cy A μ1 t) A) 0 0 A := by
  refine q_met (by decide) (Nat.le_of_ble_eq_true rfl) ?_
  intro p e s m below meth c F w hr hlk hnm ls hl
  have F : CallFix p m c cX7_pass 2 s _ BIG RX7 := F
  have hl : lv_has ls 2 [(0, .ref m0), (1, .int x1)] := hl
  refine lv_aload_n F.1 F.2.1 dX7_pass_0 rfl (lv_at hl 0 rfl) ?_
  refine lv_iload_n F.1 F.2.1 dX7_pass_1 rfl (lv_at hl 1 rfl) ?_
  refine lv_iconst (v := 1) F.1 F.2.1 dX7_pass_2 (by decide) ?_
  refine lv_sipush (v := 500) F.1 F.2.1 dX7_pass_3 (by decide) ?_
  refine q_rS (rest := [.ref m0]) F w kS_X7_135 hd_X7_in (c_X7_in l D cy A _ x1 1 500) dX7_pass_6 rfl rfl hl.1 ⟨rfl, rfl, Nat.le_of_ble_eq_true rfl, Nat.le_of_ble_eq_true rfl⟩ (Nat.le_of_ble_eq_true rfl) ⟨Nat.zero_le _, Nat.zero_le _⟩ ?_
  refine jn0 (m := m) (ls := ls) (rest := [.ref m0]) (if f_X7_in x1 1 500 = 0 then 1 else (if (G 1 0) + x1 ≤ 9000 then 0 else 2)) 33 (fun J_1 => ?_) ?_
  · refine lv_if_ne (tgt := 16) F.1 F.2.1 dX7_pass_9 (by decide) (fun c_2 => ?_) (fun c_2 => ?_)
    · refine lv_aload_n F.1 F.2.1 dX7_pass_16 rfl (lv_at hl 0 rfl) ?_
      refine gf_X7_142 F w hM.1 rfl dX7_pass_17 ?_
      refine lv_iload_n F.1 F.2.1 dX7_pass_20 rfl (lv_at hl 1 rfl) ?_
      refine lv_iadd F.1 F.2.1 dX7_pass_21 ?_
      refine lv_sipush (v := 9000) F.1 F.2.1 dX7_pass_22 (by decide) ?_
      refine lv_icmp_le (tgt := 32) F.1 F.2.1 dX7_pass_25 (by decide) (fun c_3 => ?_) (fun c_3 => ?_)
      · refine lv_iconst (v := 0) F.1 F.2.1 dX7_pass_32 (by decide) ?_
        exact jn_a ((if_neg c_2).trans (if_pos c_3)) J_1
      · refine lv_iconst (v := 2) F.1 F.2.1 dX7_pass_28 (by decide) ?_
        refine lv_goto (tgt := 33) F.1 F.2.1 dX7_pass_29 (by decide) ?_
        exact jn_a ((if_neg c_2).trans (if_neg c_3)) J_1
    · refine lv_iconst (v := 1) F.1 F.2.1 dX7_pass_12 (by decide) ?_
      refine lv_goto (tgt := 33) F.1 F.2.1 dX7_pass_13 (by decide) ?_
      exact jn_a (if_pos c_2) J_1
  refine mp_128 F w hM dX7_pass_33 (fun H locs μ w hM => ?_)
  have hM : RepM cy m0 ad (g_X7_pass_1 G x1) μ := hM
  refine lv_aload_n F.1 F.2.1 dX7_pass_36 rfl (lv_at hl 0 rfl) ?_
  refine gf_X7_128 F w hM.1 rfl dX7_pass_37 ?_
  refine lv_fold (y := if f_X7_in x1 1 500 = 0 then 1 else (if (G 1 0) + x1 ≤ 9000 then 0 else 2)) ((congrFun (up2_eq _ _ _ _) _).trans pk_us) ?_
  refine lv_if_le (tgt := 45) F.1 F.2.1 dX7_pass_40 (by decide) (fun c_4 => ?_) (fun c_4 => ?_)
  · refine lv_aload_n F.1 F.2.1 dX7_pass_45 rfl (lv_at hl 0 rfl) ?_
    refine lv_dup F.1 F.2.1 dX7_pass_46 rfl ?_
    refine gf_X7_142 F w hM.1 rfl dX7_pass_47 ?_
    refine lv_fold (y := G 1 0) (congrFun (e_g_X7_pass_1 G x1 (by decide)) 0) ?_
    refine lv_iload_n F.1 F.2.1 dX7_pass_50 rfl (lv_at hl 1 rfl) ?_
    refine lv_iadd F.1 F.2.1 dX7_pass_51 ?_
    refine mp_142 F w hM dX7_pass_52 (fun H locs μ w hM => ?_)
    have hM : RepM cy m0 ad (g_X7_pass_2 G x1) μ := hM
    refine lv_aload_n F.1 F.2.1 dX7_pass_55 rfl (lv_at hl 0 rfl) ?_
    refine gf_X7_142 F w hM.1 rfl dX7_pass_56 ?_
    refine lv_fold (y := (G 1 0) + x1) ((congrFun (up2_eq _ _ _ _) _).trans pk_us) ?_
    exact q_retI (S := Unit) F hr hlk w ⟨(if_pos c_4).symm, RepM.cg hM (if_pos c_4)⟩ dX7_pass_59
  · refine lv_iconst (v := 0) F.1 F.2.1 dX7_pass_43 (by decide) ?_
    exact q_retI (S := Unit) F hr hlk w ⟨(if_neg c_4).symm, RepM.cg hM (if_neg c_4)⟩ dX7_pass_44
def v_X7_ship_39 (G : GS) (x1 : Int32) (x2 : Int32) (x3 : Int32) (x4 : Int32) (x5 : Int32) : Int32 := if f_X7_in x1 (-10000) (G 1 0) = 0 then 0 else (if f_X7_in x2 100 200000 = 0 then 0 else (if f_X7_in x3 0 2 = 0 then 0 else 1))
theorem nz_v_X7_ship_39 (G : GS) (x1 : Int32) (x2 : Int32) (x3 : Int32) (x4 : Int32) (x5 : Int32) : nz (v_X7_ship_39 G x1 x2 x3 x4 x5) := (nz_ite nz0 (nz_ite nz0 (nz_ite nz0 nz1)))
def g_X7_ship_1 (G : GS) (x1 : Int32) (x2 : Int32) (x3 : Int32) (x4 : Int32) (x5 : Int32) : GS := up2 G 0 0 (if f_X7_isFlag x4 = 0 then 1 else (if f_X7_isBody x5 = 0 then 1 else (if v_X7_ship_39 G x1 x2 x3 x4 x5 = 0 then 2 else (if nI (gnS G) = 12 then 3 else 0))))
theorem e_g_X7_ship_1 (G : GS) (x1 : Int32) (x2 : Int32) (x3 : Int32) (x4 : Int32) (x5 : Int32) {j : Nat} (h : j ∉ [0]) : g_X7_ship_1 G x1 x2 x3 x4 x5 j = G j := (up2_ne (fun q => h (by rw [q]; exact List.mem_cons_self))).trans rfl
def g_X7_ship_2 (G : GS) (x1 : Int32) (x2 : Int32) (x3 : Int32) (x4 : Int32) (x5 : Int32) : GS := up2 (g_X7_ship_1 G x1 x2 x3 x4 x5) 4 (gnS G) x1
theorem e_g_X7_ship_2 (G : GS) (x1 : Int32) (x2 : Int32) (x3 : Int32) (x4 : Int32) (x5 : Int32) {j : Nat} (h : j ∉ [4, 0]) : g_X7_ship_2 G x1 x2 x3 x4 x5 j = G j := (up2_ne (fun q => h (by rw [q]; exact List.mem_cons_self))).trans (e_g_X7_ship_1 G x1 x2 x3 x4 x5 (fun q => h (List.mem_cons_of_mem _ q)))
def g_X7_ship_3 (G : GS) (x1 : Int32) (x2 : Int32) (x3 : Int32) (x4 : Int32) (x5 : Int32) : GS := up2 (g_X7_ship_2 G x1 x2 x3 x4 x5) 5 (gnS G) x2
theorem e_g_X7_ship_3 (G : GS) (x1 : Int32) (x2 : Int32) (x3 : Int32) (x4 : Int32) (x5 : Int32) {j : Nat} (h : j ∉ [5, 4, 0]) : g_X7_ship_3 G x1 x2 x3 x4 x5 j = G j := (up2_ne (fun q => h (by rw [q]; exact List.mem_cons_self))).trans (e_g_X7_ship_2 G x1 x2 x3 x4 x5 (fun q => h (List.mem_cons_of_mem _ q)))
def g_X7_ship_4 (G : GS) (x1 : Int32) (x2 : Int32) (x3 : Int32) (x4 : Int32) (x5 : Int32) : GS := up2 (g_X7_ship_3 G x1 x2 x3 x4 x5) 6 (gnS G) x3
theorem e_g_X7_ship_4 (G : GS) (x1 : Int32) (x2 : Int32) (x3 : Int32) (x4 : Int32) (x5 : Int32) {j : Nat} (h : j ∉ [6, 5, 4, 0]) : g_X7_ship_4 G x1 x2 x3 x4 x5 j = G j := (up2_ne (fun q => h (by rw [q]; exact List.mem_cons_self))).trans (e_g_X7_ship_3 G x1 x2 x3 x4 x5 (fun q => h (List.mem_cons_of_mem _ q)))
def g_X7_ship_5 (G : GS) (x1 : Int32) (x2 : Int32) (x3 : Int32) (x4 : Int32) (x5 : Int32) : GS := up2 (g_X7_ship_4 G x1 x2 x3 x4 x5) 7 (gnS G) x4
theorem e_g_X7_ship_5 (G : GS) (x1 : Int32) (x2 : Int32) (x3 : Int32) (x4 : Int32) (x5 : Int32) {j : Nat} (h : j ∉ [7, 6, 5, 4, 0]) : g_X7_ship_5 G x1 x2 x3 x4 x5 j = G j := (up2_ne (fun q => h (by rw [q]; exact List.mem_cons_self))).trans (e_g_X7_ship_4 G x1 x2 x3 x4 x5 (fun q => h (List.mem_cons_of_mem _ q)))
def g_X7_ship_6 (G : GS) (x1 : Int32) (x2 : Int32) (x3 : Int32) (x4 : Int32) (x5 : Int32) : GS := up2 (g_X7_ship_5 G x1 x2 x3 x4 x5) 8 (gnS G) x5
theorem e_g_X7_ship_6 (G : GS) (x1 : Int32) (x2 : Int32) (x3 : Int32) (x4 : Int32) (x5 : Int32) {j : Nat} (h : j ∉ [8, 7, 6, 5, 4, 0]) : g_X7_ship_6 G x1 x2 x3 x4 x5 j = G j := (up2_ne (fun q => h (by rw [q]; exact List.mem_cons_self))).trans (e_g_X7_ship_5 G x1 x2 x3 x4 x5 (fun q => h (List.mem_cons_of_mem _ q)))
def g_X7_ship_7 (G : GS) (x1 : Int32) (x2 : Int32) (x3 : Int32) (x4 : Int32) (x5 : Int32) : GS := up2 (g_X7_ship_6 G x1 x2 x3 x4 x5) 10 (gnS G) (-1)
theorem e_g_X7_ship_7 (G : GS) (x1 : Int32) (x2 : Int32) (x3 : Int32) (x4 : Int32) (x5 : Int32) {j : Nat} (h : j ∉ [10, 8, 7, 6, 5, 4, 0]) : g_X7_ship_7 G x1 x2 x3 x4 x5 j = G j := (up2_ne (fun q => h (by rw [q]; exact List.mem_cons_self))).trans (e_g_X7_ship_6 G x1 x2 x3 x4 x5 (fun q => h (List.mem_cons_of_mem _ q)))
def g_X7_ship_8 (G : GS) (x1 : Int32) (x2 : Int32) (x3 : Int32) (x4 : Int32) (x5 : Int32) : GS := up2 (g_X7_ship_7 G x1 x2 x3 x4 x5) 11 (gnS G) (-1)
theorem e_g_X7_ship_8 (G : GS) (x1 : Int32) (x2 : Int32) (x3 : Int32) (x4 : Int32) (x5 : Int32) {j : Nat} (h : j ∉ [11, 10, 8, 7, 6, 5, 4, 0]) : g_X7_ship_8 G x1 x2 x3 x4 x5 j = G j := (up2_ne (fun q => h (by rw [q]; exact List.mem_cons_self))).trans (e_g_X7_ship_7 G x1 x2 x3 x4 x5 (fun q => h (List.mem_cons_of_mem _ q)))
def g_X7_ship_9 (G : GS) (x1 : Int32) (x2 : Int32) (x3 : Int32) (x4 : Int32) (x5 : Int32) : GS := up2 (g_X7_ship_8 G x1 x2 x3 x4 x5) 12 (gnS G) (-1)
theorem e_g_X7_ship_9 (G : GS) (x1 : Int32) (x2 : Int32) (x3 : Int32) (x4 : Int32) (x5 : Int32) {j : Nat} (h : j ∉ [12, 11, 10, 8, 7, 6, 5, 4, 0]) : g_X7_ship_9 G x1 x2 x3 x4 x5 j = G j := (up2_ne (fun q => h (by rw [q]; exact List.mem_cons_self))).trans (e_g_X7_ship_8 G x1 x2 x3 x4 x5 (fun q => h (List.mem_cons_of_mem _ q)))
def g_X7_ship_10 (G : GS) (x1 : Int32) (x2 : Int32) (x3 : Int32) (x4 : Int32) (x5 : Int32) : GS := up2 (g_X7_ship_9 G x1 x2 x3 x4 x5) 13 (gnS G) (-1)
theorem e_g_X7_ship_10 (G : GS) (x1 : Int32) (x2 : Int32) (x3 : Int32) (x4 : Int32) (x5 : Int32) {j : Nat} (h : j ∉ [13, 12, 11, 10, 8, 7, 6, 5, 4, 0]) : g_X7_ship_10 G x1 x2 x3 x4 x5 j = G j := (up2_ne (fun q => h (by rw [q]; exact List.mem_cons_self))).trans (e_g_X7_ship_9 G x1 x2 x3 x4 x5 (fun q => h (List.mem_cons_of_mem _ q)))
def g_X7_ship_11 (G : GS) (x1 : Int32) (x2 : Int32) (x3 : Int32) (x4 : Int32) (x5 : Int32) : GS := up2 (g_X7_ship_10 G x1 x2 x3 x4 x5) 16 (gnS G) (-1)
theorem e_g_X7_ship_11 (G : GS) (x1 : Int32) (x2 : Int32) (x3 : Int32) (x4 : Int32) (x5 : Int32) {j : Nat} (h : j ∉ [16, 13, 12, 11, 10, 8, 7, 6, 5, 4, 0]) : g_X7_ship_11 G x1 x2 x3 x4 x5 j = G j := (up2_ne (fun q => h (by rw [q]; exact List.mem_cons_self))).trans (e_g_X7_ship_10 G x1 x2 x3 x4 x5 (fun q => h (List.mem_cons_of_mem _ q)))
def g_X7_ship_12 (G : GS) (x1 : Int32) (x2 : Int32) (x3 : Int32) (x4 : Int32) (x5 : Int32) : GS := up2 (g_X7_ship_11 G x1 x2 x3 x4 x5) 3 0 ((nI (gnS G)) + 1)
theorem e_g_X7_ship_12 (G : GS) (x1 : Int32) (x2 : Int32) (x3 : Int32) (x4 : Int32) (x5 : Int32) {j : Nat} (h : j ∉ [3, 16, 13, 12, 11, 10, 8, 7, 6, 5, 4, 0]) : g_X7_ship_12 G x1 x2 x3 x4 x5 j = G j := (up2_ne (fun q => h (by rw [q]; exact List.mem_cons_self))).trans (e_g_X7_ship_11 G x1 x2 x3 x4 x5 (fun q => h (List.mem_cons_of_mem _ q)))
def f_X7_ship (G : GS) (x1 : Int32) (x2 : Int32) (x3 : Int32) (x4 : Int32) (x5 : Int32) : Int32 := if (if f_X7_isFlag x4 = 0 then 1 else (if f_X7_isBody x5 = 0 then 1 else (if v_X7_ship_39 G x1 x2 x3 x4 x5 = 0 then 2 else (if nI (gnS G) = 12 then 3 else 0))) : Int32) ≤ 0 then ((nI (gnS G)) + 1) - 1 else 0
def g_X7_ship (G : GS) (x1 : Int32) (x2 : Int32) (x3 : Int32) (x4 : Int32) (x5 : Int32) : GS := if (if f_X7_isFlag x4 = 0 then 1 else (if f_X7_isBody x5 = 0 then 1 else (if v_X7_ship_39 G x1 x2 x3 x4 x5 = 0 then 2 else (if nI (gnS G) = 12 then 3 else 0))) : Int32) ≤ 0 then g_X7_ship_12 G x1 x2 x3 x4 x5 else g_X7_ship_1 G x1 x2 x3 x4 x5
set_option maxHeartbeats 4000000 in
set_option maxRecDepth 100000 in
theorem c_X7_ship (l : Launch) (D : va_G) (cy : Nat → ClassId) (A : Nat → Prop) (μ : MU) (m0 : Nat) (ad : Nat → Nat) (G : GS) (hM : RepM cy m0 ad G μ) (x1 : Int32) (x2 : Int32) (x3 : Int32) (x4 : Int32) (x5 : Int32) (hI : InvM G) (hlt : gnS G < 12) : Met l yX7_ship (WS yX7_ship cX7_ship 7 (Option.some Jvm.ClassFile.FieldType.int)) { frames := 2, cells := 0, slots := 0, locals := 42 } (va_Pc [.ref m0, .int x1, .int x2, .int x3, .int x4, .int x5] (Wd D cy A μ)) (va_Qi (fun (r9 : Int32) (μ1 : MU) => r9 = f_X7_ship G x1 x2 x3 x4 x5 ∧ RepM cy m0 ad (g_X7_ship G x1 x2 x3 x4 x5) μ1) (fun μ1 t => Wd D cy A μ1 t) A) 0 0 A := by
  refine q_met (by decide) (Nat.le_of_ble_eq_true rfl) ?_
  intro p e s m below meth c F w hr hlk hnm ls hl
  have F : CallFix p m c cX7_ship 7 s _ BIG RX7 := F
  have hl : lv_has ls 7 [(0, .ref m0), (1, .int x1), (2, .int x2), (3, .int x3), (4, .int x4), (5, .int x5)] := hl
  refine lv_iload_n F.1 F.2.1 dX7_ship_0 rfl (lv_at hl 1 rfl) ?_
  refine lv_sipush (v := -10000) F.1 F.2.1 dX7_ship_1 (by decide) ?_
  refine lv_aload_n F.1 F.2.1 dX7_ship_4 rfl (lv_at hl 0 rfl) ?_
  refine gf_X7_142 F w hM.1 rfl dX7_ship_5 ?_
  refine q_rS (rest := []) F w kS_X7_135 hd_X7_in (c_X7_in l D cy A _ x1 (-10000) (G 1 0)) dX7_ship_8 rfl rfl hl.1 ⟨rfl, rfl, Nat.le_of_ble_eq_true rfl, Nat.le_of_ble_eq_true rfl⟩ (Nat.le_of_ble_eq_true rfl) ⟨Nat.zero_le _, Nat.zero_le _⟩ ?_
  refine jn0 (m := m) (ls := ls) (rest := []) (if f_X7_in x1 (-10000) (G 1 0) = 0 then 0 else (if f_X7_in x2 100 200000 = 0 then 0 else (if f_X7_in x3 0 2 = 0 then 0 else 1))) 39 (fun J_1 => ?_) ?_
  · refine lv_if_eq (tgt := 38) F.1 F.2.1 dX7_ship_11 (by decide) (fun c_2 => ?_) (fun c_2 => ?_)
    · refine lv_iconst (v := 0) F.1 F.2.1 dX7_ship_38 (by decide) ?_
      exact jn_a (if_pos c_2) J_1
    · refine lv_iload_n F.1 F.2.1 dX7_ship_14 rfl (lv_at hl 2 rfl) ?_
      refine lv_bipush (v := 100) F.1 F.2.1 dX7_ship_15 (by decide) ?_
      refine lv_ldc F.1 F.2.1 F.2.2.2.1 (F.2.2.2.2 _ wK_X7_145) dX7_ship_17 ?_
      refine q_rS (rest := []) F w kS_X7_135 hd_X7_in (c_X7_in l D cy A _ x2 100 200000) dX7_ship_19 rfl rfl hl.1 ⟨rfl, rfl, Nat.le_of_ble_eq_true rfl, Nat.le_of_ble_eq_true rfl⟩ (Nat.le_of_ble_eq_true rfl) ⟨Nat.zero_le _, Nat.zero_le _⟩ ?_
      refine lv_if_eq (tgt := 38) F.1 F.2.1 dX7_ship_22 (by decide) (fun c_3 => ?_) (fun c_3 => ?_)
      · refine lv_iconst (v := 0) F.1 F.2.1 dX7_ship_38 (by decide) ?_
        exact jn_a ((if_neg c_2).trans (if_pos c_3)) J_1
      · refine lv_iload_n F.1 F.2.1 dX7_ship_25 rfl (lv_at hl 3 rfl) ?_
        refine lv_iconst (v := 0) F.1 F.2.1 dX7_ship_26 (by decide) ?_
        refine lv_iconst (v := 2) F.1 F.2.1 dX7_ship_27 (by decide) ?_
        refine q_rS (rest := []) F w kS_X7_135 hd_X7_in (c_X7_in l D cy A _ x3 0 2) dX7_ship_28 rfl rfl hl.1 ⟨rfl, rfl, Nat.le_of_ble_eq_true rfl, Nat.le_of_ble_eq_true rfl⟩ (Nat.le_of_ble_eq_true rfl) ⟨Nat.zero_le _, Nat.zero_le _⟩ ?_
        refine lv_if_eq (tgt := 38) F.1 F.2.1 dX7_ship_31 (by decide) (fun c_4 => ?_) (fun c_4 => ?_)
        · refine lv_iconst (v := 0) F.1 F.2.1 dX7_ship_38 (by decide) ?_
          exact jn_a ((if_neg c_2).trans ((if_neg c_3).trans (if_pos c_4))) J_1
        · refine lv_iconst (v := 1) F.1 F.2.1 dX7_ship_34 (by decide) ?_
          refine lv_goto (tgt := 39) F.1 F.2.1 dX7_ship_35 (by decide) ?_
          exact jn_a ((if_neg c_2).trans ((if_neg c_3).trans (if_neg c_4))) J_1
  refine lv_fold (y := v_X7_ship_39 G x1 x2 x3 x4 x5) rfl ?_
  refine lv_istore (lv' := [(6, .int (v_X7_ship_39 G x1 x2 x3 x4 x5)), (0, .ref m0), (1, .int x1), (2, .int x2), (3, .int x3), (4, .int x4), (5, .int x5)]) F.1 F.2.1 dX7_ship_39 hl (by decide) rfl (fun ls hl => ?_)
  refine lv_aload_n F.1 F.2.1 dX7_ship_41 rfl (lv_at hl 1 rfl) ?_
  refine lv_iload F.1 F.2.1 dX7_ship_42 (lv_at hl 5 rfl) ?_
  refine q_rS (rest := [.ref m0]) F w kS_X7_146 hd_X7_isFlag (c_X7_isFlag l D cy A _ x4) dX7_ship_44 rfl rfl hl.1 ⟨rfl, rfl, Nat.le_of_ble_eq_true rfl, Nat.le_of_ble_eq_true rfl⟩ (Nat.le_of_ble_eq_true rfl) ⟨Nat.zero_le _, Nat.zero_le _⟩ ?_
  refine jn0 (m := m) (ls := ls) (rest := [.ref m0]) (if f_X7_isFlag x4 = 0 then 1 else (if f_X7_isBody x5 = 0 then 1 else (if v_X7_ship_39 G x1 x2 x3 x4 x5 = 0 then 2 else (if nI (gnS G) = 12 then 3 else 0)))) 85 (fun J_5 => ?_) ?_
  · refine lv_if_eq (tgt := 58) F.1 F.2.1 dX7_ship_47 (by decide) (fun c_6 => ?_) (fun c_6 => ?_)
    · refine lv_iconst (v := 1) F.1 F.2.1 dX7_ship_58 (by decide) ?_
      refine lv_goto (tgt := 85) F.1 F.2.1 dX7_ship_59 (by decide) ?_
      exact jn_a (if_pos c_6) J_5
    · refine lv_iload F.1 F.2.1 dX7_ship_50 (lv_at hl 6 rfl) ?_
      refine q_rS (rest := [.ref m0]) F w kS_X7_150 hd_X7_isBody (c_X7_isBody l D cy A _ x5) dX7_ship_52 rfl rfl hl.1 ⟨rfl, rfl, Nat.le_of_ble_eq_true rfl, Nat.le_of_ble_eq_true rfl⟩ (Nat.le_of_ble_eq_true rfl) ⟨Nat.zero_le _, Nat.zero_le _⟩ ?_
      refine lv_if_ne (tgt := 62) F.1 F.2.1 dX7_ship_55 (by decide) (fun c_7 => ?_) (fun c_7 => ?_)
      · refine lv_iload F.1 F.2.1 dX7_ship_62 (lv_at hl 0 rfl) ?_
        refine lv_if_ne (tgt := 71) F.1 F.2.1 dX7_ship_64 (by decide) (fun c_8 => ?_) (fun c_8 => ?_)
        · refine lv_aload_n F.1 F.2.1 dX7_ship_71 rfl (lv_at hl 1 rfl) ?_
          refine gf_X7_132 F w hM.1 rfl dX7_ship_72 ?_
          refine lv_fold (y := nI (gnS G)) (hI.s.1) ?_
          refine lv_bipush (v := 12) F.1 F.2.1 dX7_ship_75 (by decide) ?_
          refine lv_icmp_ne (tgt := 84) F.1 F.2.1 dX7_ship_77 (by decide) (fun c_9 => ?_) (fun c_9 => ?_)
          · refine lv_iconst (v := 0) F.1 F.2.1 dX7_ship_84 (by decide) ?_
            exact jn_a ((if_neg c_6).trans ((if_neg c_7).trans ((if_neg c_8).trans (if_neg c_9)))) J_5
          · refine lv_iconst (v := 3) F.1 F.2.1 dX7_ship_80 (by decide) ?_
            refine lv_goto (tgt := 85) F.1 F.2.1 dX7_ship_81 (by decide) ?_
            exact jn_a ((if_neg c_6).trans ((if_neg c_7).trans ((if_neg c_8).trans (if_pos c_9)))) J_5
        · refine lv_iconst (v := 2) F.1 F.2.1 dX7_ship_67 (by decide) ?_
          refine lv_goto (tgt := 85) F.1 F.2.1 dX7_ship_68 (by decide) ?_
          exact jn_a ((if_neg c_6).trans ((if_neg c_7).trans (if_pos c_8))) J_5
      · refine lv_iconst (v := 1) F.1 F.2.1 dX7_ship_58 (by decide) ?_
        refine lv_goto (tgt := 85) F.1 F.2.1 dX7_ship_59 (by decide) ?_
        exact jn_a ((if_neg c_6).trans (if_pos c_7)) J_5
  refine mp_128 F w hM dX7_ship_85 (fun H locs μ w hM => ?_)
  have hM : RepM cy m0 ad (g_X7_ship_1 G x1 x2 x3 x4 x5) μ := hM
  refine lv_aload_n F.1 F.2.1 dX7_ship_88 rfl (lv_at hl 1 rfl) ?_
  refine gf_X7_128 F w hM.1 rfl dX7_ship_89 ?_
  refine lv_fold (y := if f_X7_isFlag x4 = 0 then 1 else (if f_X7_isBody x5 = 0 then 1 else (if v_X7_ship_39 G x1 x2 x3 x4 x5 = 0 then 2 else (if nI (gnS G) = 12 then 3 else 0)))) ((congrFun (up2_eq _ _ _ _) _).trans pk_us) ?_
  refine lv_if_le (tgt := 97) F.1 F.2.1 dX7_ship_92 (by decide) (fun c_10 => ?_) (fun c_10 => ?_)
  · refine lv_aload_n F.1 F.2.1 dX7_ship_97 rfl (lv_at hl 1 rfl) ?_
    refine gf_X7_13 F w hM.1 rfl dX7_ship_98 ?_
    refine lv_aload_n F.1 F.2.1 dX7_ship_101 rfl (lv_at hl 1 rfl) ?_
    refine gf_X7_132 F w hM.1 rfl dX7_ship_102 ?_
    refine lv_fold (y := G 3 0) (congrFun (e_g_X7_ship_1 G x1 x2 x3 x4 x5 (by decide)) 0) ?_
    refine lv_fold (y := nI (gnS G)) (hI.s.1) ?_
    refine lv_iload_n F.1 F.2.1 dX7_ship_105 rfl (lv_at hl 2 rfl) ?_
    refine m_ist F w hM 4 (by decide) rfl rfl (gnS G) (show gnS G < 12 by omega) (by decide) dX7_ship_106 (fun H locs μ w hM => ?_)
    have hM : RepM cy m0 ad (g_X7_ship_2 G x1 x2 x3 x4 x5) μ := hM
    refine lv_aload_n F.1 F.2.1 dX7_ship_107 rfl (lv_at hl 1 rfl) ?_
    refine gf_X7_17 F w hM.1 rfl dX7_ship_108 ?_
    refine lv_aload_n F.1 F.2.1 dX7_ship_111 rfl (lv_at hl 1 rfl) ?_
    refine gf_X7_132 F w hM.1 rfl dX7_ship_112 ?_
    refine lv_fold (y := G 3 0) (congrFun (e_g_X7_ship_2 G x1 x2 x3 x4 x5 (by decide)) 0) ?_
    refine lv_fold (y := nI (gnS G)) (hI.s.1) ?_
    refine lv_iload_n F.1 F.2.1 dX7_ship_115 rfl (lv_at hl 3 rfl) ?_
    refine m_ist F w hM 5 (by decide) rfl rfl (gnS G) (show gnS G < 12 by omega) (by decide) dX7_ship_116 (fun H locs μ w hM => ?_)
    have hM : RepM cy m0 ad (g_X7_ship_3 G x1 x2 x3 x4 x5) μ := hM
    refine lv_aload_n F.1 F.2.1 dX7_ship_117 rfl (lv_at hl 1 rfl) ?_
    refine gf_X7_20 F w hM.1 rfl dX7_ship_118 ?_
    refine lv_aload_n F.1 F.2.1 dX7_ship_121 rfl (lv_at hl 1 rfl) ?_
    refine gf_X7_132 F w hM.1 rfl dX7_ship_122 ?_
    refine lv_fold (y := G 3 0) (congrFun (e_g_X7_ship_3 G x1 x2 x3 x4 x5 (by decide)) 0) ?_
    refine lv_fold (y := nI (gnS G)) (hI.s.1) ?_
    refine lv_iload_n F.1 F.2.1 dX7_ship_125 rfl (lv_at hl 4 rfl) ?_
    refine m_ist F w hM 6 (by decide) rfl rfl (gnS G) (show gnS G < 12 by omega) (by decide) dX7_ship_126 (fun H locs μ w hM => ?_)
    have hM : RepM cy m0 ad (g_X7_ship_4 G x1 x2 x3 x4 x5) μ := hM
    refine lv_aload_n F.1 F.2.1 dX7_ship_127 rfl (lv_at hl 1 rfl) ?_
    refine gf_X7_23 F w hM.1 rfl dX7_ship_128 ?_
    refine lv_aload_n F.1 F.2.1 dX7_ship_131 rfl (lv_at hl 1 rfl) ?_
    refine gf_X7_132 F w hM.1 rfl dX7_ship_132 ?_
    refine lv_fold (y := G 3 0) (congrFun (e_g_X7_ship_4 G x1 x2 x3 x4 x5 (by decide)) 0) ?_
    refine lv_fold (y := nI (gnS G)) (hI.s.1) ?_
    refine lv_iload F.1 F.2.1 dX7_ship_135 (lv_at hl 5 rfl) ?_
    refine m_ist F w hM 7 (by decide) rfl rfl (gnS G) (show gnS G < 12 by omega) (by decide) dX7_ship_137 (fun H locs μ w hM => ?_)
    have hM : RepM cy m0 ad (g_X7_ship_5 G x1 x2 x3 x4 x5) μ := hM
    refine lv_aload_n F.1 F.2.1 dX7_ship_138 rfl (lv_at hl 1 rfl) ?_
    refine gf_X7_26 F w hM.1 rfl dX7_ship_139 ?_
    refine lv_aload_n F.1 F.2.1 dX7_ship_142 rfl (lv_at hl 1 rfl) ?_
    refine gf_X7_132 F w hM.1 rfl dX7_ship_143 ?_
    refine lv_fold (y := G 3 0) (congrFun (e_g_X7_ship_5 G x1 x2 x3 x4 x5 (by decide)) 0) ?_
    refine lv_fold (y := nI (gnS G)) (hI.s.1) ?_
    refine lv_iload F.1 F.2.1 dX7_ship_146 (lv_at hl 6 rfl) ?_
    refine m_ist F w hM 8 (by decide) rfl rfl (gnS G) (show gnS G < 12 by omega) (by decide) dX7_ship_148 (fun H locs μ w hM => ?_)
    have hM : RepM cy m0 ad (g_X7_ship_6 G x1 x2 x3 x4 x5) μ := hM
    refine lv_aload_n F.1 F.2.1 dX7_ship_149 rfl (lv_at hl 1 rfl) ?_
    refine gf_X7_32 F w hM.1 rfl dX7_ship_150 ?_
    refine lv_aload_n F.1 F.2.1 dX7_ship_153 rfl (lv_at hl 1 rfl) ?_
    refine gf_X7_132 F w hM.1 rfl dX7_ship_154 ?_
    refine lv_fold (y := G 3 0) (congrFun (e_g_X7_ship_6 G x1 x2 x3 x4 x5 (by decide)) 0) ?_
    refine lv_fold (y := nI (gnS G)) (hI.s.1) ?_
    refine lv_iconst (v := -1) F.1 F.2.1 dX7_ship_157 (by decide) ?_
    refine m_ist F w hM 10 (by decide) rfl rfl (gnS G) (show gnS G < 12 by omega) (by decide) dX7_ship_158 (fun H locs μ w hM => ?_)
    have hM : RepM cy m0 ad (g_X7_ship_7 G x1 x2 x3 x4 x5) μ := hM
    refine lv_aload_n F.1 F.2.1 dX7_ship_159 rfl (lv_at hl 1 rfl) ?_
    refine gf_X7_35 F w hM.1 rfl dX7_ship_160 ?_
    refine lv_aload_n F.1 F.2.1 dX7_ship_163 rfl (lv_at hl 1 rfl) ?_
    refine gf_X7_132 F w hM.1 rfl dX7_ship_164 ?_
    refine lv_fold (y := G 3 0) (congrFun (e_g_X7_ship_7 G x1 x2 x3 x4 x5 (by decide)) 0) ?_
    refine lv_fold (y := nI (gnS G)) (hI.s.1) ?_
    refine lv_iconst (v := -1) F.1 F.2.1 dX7_ship_167 (by decide) ?_
    refine m_ist F w hM 11 (by decide) rfl rfl (gnS G) (show gnS G < 12 by omega) (by decide) dX7_ship_168 (fun H locs μ w hM => ?_)
    have hM : RepM cy m0 ad (g_X7_ship_8 G x1 x2 x3 x4 x5) μ := hM
    refine lv_aload_n F.1 F.2.1 dX7_ship_169 rfl (lv_at hl 1 rfl) ?_
    refine gf_X7_38 F w hM.1 rfl dX7_ship_170 ?_
    refine lv_aload_n F.1 F.2.1 dX7_ship_173 rfl (lv_at hl 1 rfl) ?_
    refine gf_X7_132 F w hM.1 rfl dX7_ship_174 ?_
    refine lv_fold (y := G 3 0) (congrFun (e_g_X7_ship_8 G x1 x2 x3 x4 x5 (by decide)) 0) ?_
    refine lv_fold (y := nI (gnS G)) (hI.s.1) ?_
    refine lv_iconst (v := -1) F.1 F.2.1 dX7_ship_177 (by decide) ?_
    refine m_ist F w hM 12 (by decide) rfl rfl (gnS G) (show gnS G < 12 by omega) (by decide) dX7_ship_178 (fun H locs μ w hM => ?_)
    have hM : RepM cy m0 ad (g_X7_ship_9 G x1 x2 x3 x4 x5) μ := hM
    refine lv_aload_n F.1 F.2.1 dX7_ship_179 rfl (lv_at hl 1 rfl) ?_
    refine gf_X7_41 F w hM.1 rfl dX7_ship_180 ?_
    refine lv_aload_n F.1 F.2.1 dX7_ship_183 rfl (lv_at hl 1 rfl) ?_
    refine gf_X7_132 F w hM.1 rfl dX7_ship_184 ?_
    refine lv_fold (y := G 3 0) (congrFun (e_g_X7_ship_9 G x1 x2 x3 x4 x5 (by decide)) 0) ?_
    refine lv_fold (y := nI (gnS G)) (hI.s.1) ?_
    refine lv_iconst (v := -1) F.1 F.2.1 dX7_ship_187 (by decide) ?_
    refine m_ist F w hM 13 (by decide) rfl rfl (gnS G) (show gnS G < 12 by omega) (by decide) dX7_ship_188 (fun H locs μ w hM => ?_)
    have hM : RepM cy m0 ad (g_X7_ship_10 G x1 x2 x3 x4 x5) μ := hM
    refine lv_aload_n F.1 F.2.1 dX7_ship_189 rfl (lv_at hl 1 rfl) ?_
    refine gf_X7_50 F w hM.1 rfl dX7_ship_190 ?_
    refine lv_aload_n F.1 F.2.1 dX7_ship_193 rfl (lv_at hl 1 rfl) ?_
    refine gf_X7_132 F w hM.1 rfl dX7_ship_194 ?_
    refine lv_fold (y := G 3 0) (congrFun (e_g_X7_ship_10 G x1 x2 x3 x4 x5 (by decide)) 0) ?_
    refine lv_fold (y := nI (gnS G)) (hI.s.1) ?_
    refine lv_iconst (v := -1) F.1 F.2.1 dX7_ship_197 (by decide) ?_
    refine m_ist F w hM 16 (by decide) rfl rfl (gnS G) (show gnS G < 12 by omega) (by decide) dX7_ship_198 (fun H locs μ w hM => ?_)
    have hM : RepM cy m0 ad (g_X7_ship_11 G x1 x2 x3 x4 x5) μ := hM
    refine lv_aload_n F.1 F.2.1 dX7_ship_199 rfl (lv_at hl 1 rfl) ?_
    refine lv_dup F.1 F.2.1 dX7_ship_200 rfl ?_
    refine gf_X7_132 F w hM.1 rfl dX7_ship_201 ?_
    refine lv_fold (y := G 3 0) (congrFun (e_g_X7_ship_11 G x1 x2 x3 x4 x5 (by decide)) 0) ?_
    refine lv_fold (y := nI (gnS G)) (hI.s.1) ?_
    refine lv_iconst (v := 1) F.1 F.2.1 dX7_ship_204 (by decide) ?_
    refine lv_iadd F.1 F.2.1 dX7_ship_205 ?_
    refine mp_132 F w hM dX7_ship_206 (fun H locs μ w hM => ?_)
    have hM : RepM cy m0 ad (g_X7_ship_12 G x1 x2 x3 x4 x5) μ := hM
    refine lv_aload_n F.1 F.2.1 dX7_ship_209 rfl (lv_at hl 1 rfl) ?_
    refine gf_X7_132 F w hM.1 rfl dX7_ship_210 ?_
    refine lv_fold (y := (nI (gnS G)) + 1) ((congrFun (up2_eq _ _ _ _) _).trans pk_us) ?_
    refine lv_iconst (v := 1) F.1 F.2.1 dX7_ship_213 (by decide) ?_
    refine lv_isub F.1 F.2.1 dX7_ship_214 ?_
    exact q_retI (S := Unit) F hr hlk w ⟨(if_pos c_10).symm, RepM.cg hM (if_pos c_10)⟩ dX7_ship_215
  · refine lv_iconst (v := 0) F.1 F.2.1 dX7_ship_95 (by decide) ?_
    exact q_retI (S := Unit) F hr hlk w ⟨(if_neg c_10).symm, RepM.cg hM (if_neg c_10)⟩ dX7_ship_96
def v_X7_ship_b_39 (G : GS) (x1 : Int32) (x2 : Int32) (x3 : Int32) (x4 : Int32) (x5 : Int32) : Int32 := if f_X7_in x1 (-10000) (G 1 0) = 0 then 0 else (if f_X7_in x2 100 200000 = 0 then 0 else (if f_X7_in x3 0 2 = 0 then 0 else 1))
theorem nz_v_X7_ship_b_39 (G : GS) (x1 : Int32) (x2 : Int32) (x3 : Int32) (x4 : Int32) (x5 : Int32) : nz (v_X7_ship_b_39 G x1 x2 x3 x4 x5) := (nz_ite nz0 (nz_ite nz0 (nz_ite nz0 nz1)))
def g_X7_ship_b_1 (G : GS) (x1 : Int32) (x2 : Int32) (x3 : Int32) (x4 : Int32) (x5 : Int32) : GS := up2 G 0 0 (if f_X7_isFlag x4 = 0 then 1 else (if f_X7_isBody x5 = 0 then 1 else (if v_X7_ship_b_39 G x1 x2 x3 x4 x5 = 0 then 2 else 3)))
theorem e_g_X7_ship_b_1 (G : GS) (x1 : Int32) (x2 : Int32) (x3 : Int32) (x4 : Int32) (x5 : Int32) {j : Nat} (h : j ∉ [0]) : g_X7_ship_b_1 G x1 x2 x3 x4 x5 j = G j := (up2_ne (fun q => h (by rw [q]; exact List.mem_cons_self))).trans rfl
def f_X7_ship_b (G : GS) (x1 : Int32) (x2 : Int32) (x3 : Int32) (x4 : Int32) (x5 : Int32) : Int32 := 0
def g_X7_ship_b (G : GS) (x1 : Int32) (x2 : Int32) (x3 : Int32) (x4 : Int32) (x5 : Int32) : GS := g_X7_ship_b_1 G x1 x2 x3 x4 x5
set_option maxHeartbeats 4000000 in
set_option maxRecDepth 100000 in
theorem c_X7_ship_b (l : Launch) (D : va_G) (cy : Nat → ClassId) (A : Nat → Prop) (μ : MU) (m0 : Nat) (ad : Nat → Nat) (G : GS) (hM : RepM cy m0 ad G μ) (x1 : Int32) (x2 : Int32) (x3 : Int32) (x4 : Int32) (x5 : Int32) (hb : G 3 0 = 12) : Met l yX7_ship (WS yX7_ship cX7_ship 7 (Option.some Jvm.ClassFile.FieldType.int)) { frames := 2, cells := 0, slots := 0, locals := 42 } (va_Pc [.ref m0, .int x1, .int x2, .int x3, .int x4, .int x5] (Wd D cy A μ)) (va_Qi (fun (r9 : Int32) (μ1 : MU) => r9 = f_X7_ship_b G x1 x2 x3 x4 x5 ∧ RepM cy m0 ad (g_X7_ship_b G x1 x2 x3 x4 x5) μ1) (fun μ1 t => Wd D cy A μ1 t) A) 0 0 A := by
  refine q_met (by decide) (Nat.le_of_ble_eq_true rfl) ?_
  intro p e s m below meth c F w hr hlk hnm ls hl
  have F : CallFix p m c cX7_ship 7 s _ BIG RX7 := F
  have hl : lv_has ls 7 [(0, .ref m0), (1, .int x1), (2, .int x2), (3, .int x3), (4, .int x4), (5, .int x5)] := hl
  refine lv_iload_n F.1 F.2.1 dX7_ship_0 rfl (lv_at hl 1 rfl) ?_
  refine lv_sipush (v := -10000) F.1 F.2.1 dX7_ship_1 (by decide) ?_
  refine lv_aload_n F.1 F.2.1 dX7_ship_4 rfl (lv_at hl 0 rfl) ?_
  refine gf_X7_142 F w hM.1 rfl dX7_ship_5 ?_
  refine q_rS (rest := []) F w kS_X7_135 hd_X7_in (c_X7_in l D cy A _ x1 (-10000) (G 1 0)) dX7_ship_8 rfl rfl hl.1 ⟨rfl, rfl, Nat.le_of_ble_eq_true rfl, Nat.le_of_ble_eq_true rfl⟩ (Nat.le_of_ble_eq_true rfl) ⟨Nat.zero_le _, Nat.zero_le _⟩ ?_
  refine jn0 (m := m) (ls := ls) (rest := []) (if f_X7_in x1 (-10000) (G 1 0) = 0 then 0 else (if f_X7_in x2 100 200000 = 0 then 0 else (if f_X7_in x3 0 2 = 0 then 0 else 1))) 39 (fun J_1 => ?_) ?_
  · refine lv_if_eq (tgt := 38) F.1 F.2.1 dX7_ship_11 (by decide) (fun c_2 => ?_) (fun c_2 => ?_)
    · refine lv_iconst (v := 0) F.1 F.2.1 dX7_ship_38 (by decide) ?_
      exact jn_a (if_pos c_2) J_1
    · refine lv_iload_n F.1 F.2.1 dX7_ship_14 rfl (lv_at hl 2 rfl) ?_
      refine lv_bipush (v := 100) F.1 F.2.1 dX7_ship_15 (by decide) ?_
      refine lv_ldc F.1 F.2.1 F.2.2.2.1 (F.2.2.2.2 _ wK_X7_145) dX7_ship_17 ?_
      refine q_rS (rest := []) F w kS_X7_135 hd_X7_in (c_X7_in l D cy A _ x2 100 200000) dX7_ship_19 rfl rfl hl.1 ⟨rfl, rfl, Nat.le_of_ble_eq_true rfl, Nat.le_of_ble_eq_true rfl⟩ (Nat.le_of_ble_eq_true rfl) ⟨Nat.zero_le _, Nat.zero_le _⟩ ?_
      refine lv_if_eq (tgt := 38) F.1 F.2.1 dX7_ship_22 (by decide) (fun c_3 => ?_) (fun c_3 => ?_)
      · refine lv_iconst (v := 0) F.1 F.2.1 dX7_ship_38 (by decide) ?_
        exact jn_a ((if_neg c_2).trans (if_pos c_3)) J_1
      · refine lv_iload_n F.1 F.2.1 dX7_ship_25 rfl (lv_at hl 3 rfl) ?_
        refine lv_iconst (v := 0) F.1 F.2.1 dX7_ship_26 (by decide) ?_
        refine lv_iconst (v := 2) F.1 F.2.1 dX7_ship_27 (by decide) ?_
        refine q_rS (rest := []) F w kS_X7_135 hd_X7_in (c_X7_in l D cy A _ x3 0 2) dX7_ship_28 rfl rfl hl.1 ⟨rfl, rfl, Nat.le_of_ble_eq_true rfl, Nat.le_of_ble_eq_true rfl⟩ (Nat.le_of_ble_eq_true rfl) ⟨Nat.zero_le _, Nat.zero_le _⟩ ?_
        refine lv_if_eq (tgt := 38) F.1 F.2.1 dX7_ship_31 (by decide) (fun c_4 => ?_) (fun c_4 => ?_)
        · refine lv_iconst (v := 0) F.1 F.2.1 dX7_ship_38 (by decide) ?_
          exact jn_a ((if_neg c_2).trans ((if_neg c_3).trans (if_pos c_4))) J_1
        · refine lv_iconst (v := 1) F.1 F.2.1 dX7_ship_34 (by decide) ?_
          refine lv_goto (tgt := 39) F.1 F.2.1 dX7_ship_35 (by decide) ?_
          exact jn_a ((if_neg c_2).trans ((if_neg c_3).trans (if_neg c_4))) J_1
  refine lv_fold (y := v_X7_ship_b_39 G x1 x2 x3 x4 x5) rfl ?_
  refine lv_istore (lv' := [(6, .int (v_X7_ship_b_39 G x1 x2 x3 x4 x5)), (0, .ref m0), (1, .int x1), (2, .int x2), (3, .int x3), (4, .int x4), (5, .int x5)]) F.1 F.2.1 dX7_ship_39 hl (by decide) rfl (fun ls hl => ?_)
  refine lv_aload_n F.1 F.2.1 dX7_ship_41 rfl (lv_at hl 1 rfl) ?_
  refine lv_iload F.1 F.2.1 dX7_ship_42 (lv_at hl 5 rfl) ?_
  refine q_rS (rest := [.ref m0]) F w kS_X7_146 hd_X7_isFlag (c_X7_isFlag l D cy A _ x4) dX7_ship_44 rfl rfl hl.1 ⟨rfl, rfl, Nat.le_of_ble_eq_true rfl, Nat.le_of_ble_eq_true rfl⟩ (Nat.le_of_ble_eq_true rfl) ⟨Nat.zero_le _, Nat.zero_le _⟩ ?_
  refine jn0 (m := m) (ls := ls) (rest := [.ref m0]) (if f_X7_isFlag x4 = 0 then 1 else (if f_X7_isBody x5 = 0 then 1 else (if v_X7_ship_b_39 G x1 x2 x3 x4 x5 = 0 then 2 else 3))) 85 (fun J_5 => ?_) ?_
  · refine lv_if_eq (tgt := 58) F.1 F.2.1 dX7_ship_47 (by decide) (fun c_6 => ?_) (fun c_6 => ?_)
    · refine lv_iconst (v := 1) F.1 F.2.1 dX7_ship_58 (by decide) ?_
      refine lv_goto (tgt := 85) F.1 F.2.1 dX7_ship_59 (by decide) ?_
      exact jn_a (if_pos c_6) J_5
    · refine lv_iload F.1 F.2.1 dX7_ship_50 (lv_at hl 6 rfl) ?_
      refine q_rS (rest := [.ref m0]) F w kS_X7_150 hd_X7_isBody (c_X7_isBody l D cy A _ x5) dX7_ship_52 rfl rfl hl.1 ⟨rfl, rfl, Nat.le_of_ble_eq_true rfl, Nat.le_of_ble_eq_true rfl⟩ (Nat.le_of_ble_eq_true rfl) ⟨Nat.zero_le _, Nat.zero_le _⟩ ?_
      refine lv_if_ne (tgt := 62) F.1 F.2.1 dX7_ship_55 (by decide) (fun c_7 => ?_) (fun c_7 => ?_)
      · refine lv_iload F.1 F.2.1 dX7_ship_62 (lv_at hl 0 rfl) ?_
        refine lv_if_ne (tgt := 71) F.1 F.2.1 dX7_ship_64 (by decide) (fun c_8 => ?_) (fun c_8 => ?_)
        · refine lv_aload_n F.1 F.2.1 dX7_ship_71 rfl (lv_at hl 1 rfl) ?_
          refine gf_X7_132 F w hM.1 rfl dX7_ship_72 ?_
          refine lv_bipush (v := 12) F.1 F.2.1 dX7_ship_75 (by decide) ?_
          refine lv_icmp_ne (tgt := 84) F.1 F.2.1 dX7_ship_77 (by decide) (fun c_9 => absurd hb c_9) (fun c_9 => ?_)
          refine lv_iconst (v := 3) F.1 F.2.1 dX7_ship_80 (by decide) ?_
          refine lv_goto (tgt := 85) F.1 F.2.1 dX7_ship_81 (by decide) ?_
          exact jn_a ((if_neg c_6).trans ((if_neg c_7).trans (if_neg c_8))) J_5
        · refine lv_iconst (v := 2) F.1 F.2.1 dX7_ship_67 (by decide) ?_
          refine lv_goto (tgt := 85) F.1 F.2.1 dX7_ship_68 (by decide) ?_
          exact jn_a ((if_neg c_6).trans ((if_neg c_7).trans (if_pos c_8))) J_5
      · refine lv_iconst (v := 1) F.1 F.2.1 dX7_ship_58 (by decide) ?_
        refine lv_goto (tgt := 85) F.1 F.2.1 dX7_ship_59 (by decide) ?_
        exact jn_a ((if_neg c_6).trans (if_pos c_7)) J_5
  refine mp_128 F w hM dX7_ship_85 (fun H locs μ w hM => ?_)
  have hM : RepM cy m0 ad (g_X7_ship_b_1 G x1 x2 x3 x4 x5) μ := hM
  refine lv_aload_n F.1 F.2.1 dX7_ship_88 rfl (lv_at hl 1 rfl) ?_
  refine gf_X7_128 F w hM.1 rfl dX7_ship_89 ?_
  refine lv_fold (y := if f_X7_isFlag x4 = 0 then 1 else (if f_X7_isBody x5 = 0 then 1 else (if v_X7_ship_b_39 G x1 x2 x3 x4 x5 = 0 then 2 else 3))) ((congrFun (up2_eq _ _ _ _) _).trans pk_us) ?_
  refine lv_if_le (tgt := 97) F.1 F.2.1 dX7_ship_92 (by decide) (fun c_10 => absurd c_10 (by (repeat' split) <;> decide)) (fun c_10 => ?_)
  refine lv_iconst (v := 0) F.1 F.2.1 dX7_ship_95 (by decide) ?_
  exact q_retI (S := Unit) F hr hlk w ⟨rfl, RepM.cg hM rfl⟩ dX7_ship_96
def g_X7_changes_1 (G : GS) (i1 : Nat) (x2 : Int32) (x3 : Int32) : GS := up2 G 0 0 (if f_X7_isShip G (nI i1) = 0 then 1 else (if f_X7_isFlag x2 = 0 then 1 else (if f_X7_isBody x3 = 0 then 1 else 0)))
theorem e_g_X7_changes_1 (G : GS) (i1 : Nat) (x2 : Int32) (x3 : Int32) {j : Nat} (h : j ∉ [0]) : g_X7_changes_1 G i1 x2 x3 j = G j := (up2_ne (fun q => h (by rw [q]; exact List.mem_cons_self))).trans rfl
def g_X7_changes_2 (G : GS) (i1 : Nat) (x2 : Int32) (x3 : Int32) : GS := up2 (g_X7_changes_1 G i1 x2 x3) 7 i1 x2
theorem e_g_X7_changes_2 (G : GS) (i1 : Nat) (x2 : Int32) (x3 : Int32) {j : Nat} (h : j ∉ [7, 0]) : g_X7_changes_2 G i1 x2 x3 j = G j := (up2_ne (fun q => h (by rw [q]; exact List.mem_cons_self))).trans (e_g_X7_changes_1 G i1 x2 x3 (fun q => h (List.mem_cons_of_mem _ q)))
def g_X7_changes_3 (G : GS) (i1 : Nat) (x2 : Int32) (x3 : Int32) : GS := up2 (g_X7_changes_2 G i1 x2 x3) 8 i1 x3
theorem e_g_X7_changes_3 (G : GS) (i1 : Nat) (x2 : Int32) (x3 : Int32) {j : Nat} (h : j ∉ [8, 7, 0]) : g_X7_changes_3 G i1 x2 x3 j = G j := (up2_ne (fun q => h (by rw [q]; exact List.mem_cons_self))).trans (e_g_X7_changes_2 G i1 x2 x3 (fun q => h (List.mem_cons_of_mem _ q)))
def g_X7_changes_4 (G : GS) (i1 : Nat) (x2 : Int32) (x3 : Int32) : GS := up2 (g_X7_changes_3 G i1 x2 x3) 9 i1 ((G 9 i1) + 1)
theorem e_g_X7_changes_4 (G : GS) (i1 : Nat) (x2 : Int32) (x3 : Int32) {j : Nat} (h : j ∉ [9, 8, 7, 0]) : g_X7_changes_4 G i1 x2 x3 j = G j := (up2_ne (fun q => h (by rw [q]; exact List.mem_cons_self))).trans (e_g_X7_changes_3 G i1 x2 x3 (fun q => h (List.mem_cons_of_mem _ q)))
def f_X7_changes (G : GS) (i1 : Nat) (x2 : Int32) (x3 : Int32) : Int32 := if (if f_X7_isShip G (nI i1) = 0 then 1 else (if f_X7_isFlag x2 = 0 then 1 else (if f_X7_isBody x3 = 0 then 1 else 0)) : Int32) ≤ 0 then (G 9 i1) + 1 else 0
def g_X7_changes (G : GS) (i1 : Nat) (x2 : Int32) (x3 : Int32) : GS := if (if f_X7_isShip G (nI i1) = 0 then 1 else (if f_X7_isFlag x2 = 0 then 1 else (if f_X7_isBody x3 = 0 then 1 else 0)) : Int32) ≤ 0 then g_X7_changes_4 G i1 x2 x3 else g_X7_changes_1 G i1 x2 x3
set_option maxHeartbeats 4000000 in
set_option maxRecDepth 100000 in
theorem c_X7_changes (l : Launch) (D : va_G) (cy : Nat → ClassId) (A : Nat → Prop) (μ : MU) (m0 : Nat) (ad : Nat → Nat) (G : GS) (hM : RepM cy m0 ad G μ) (i1 : Nat) (x2 : Int32) (x3 : Int32) (hi1 : i1 < 12) : Met l yX7_changes (WS yX7_changes cX7_changes 4 (Option.some Jvm.ClassFile.FieldType.int)) { frames := 2, cells := 0, slots := 0, locals := 43 } (va_Pc [.ref m0, .int (nI i1), .int x2, .int x3] (Wd D cy A μ)) (va_Qi (fun (r9 : Int32) (μ1 : MU) => r9 = f_X7_changes G i1 x2 x3 ∧ RepM cy m0 ad (g_X7_changes G i1 x2 x3) μ1) (fun μ1 t => Wd D cy A μ1 t) A) 0 0 A := by
  refine q_met (by decide) (Nat.le_of_ble_eq_true rfl) ?_
  intro p e s m below meth c F w hr hlk hnm ls hl
  have F : CallFix p m c cX7_changes 4 s _ BIG RX7 := F
  have hl : lv_has ls 4 [(0, .ref m0), (1, .int (nI i1)), (2, .int x2), (3, .int x3)] := hl
  refine lv_aload_n F.1 F.2.1 dX7_changes_0 rfl (lv_at hl 0 rfl) ?_
  refine lv_aload_n F.1 F.2.1 dX7_changes_1 rfl (lv_at hl 0 rfl) ?_
  refine lv_iload_n F.1 F.2.1 dX7_changes_2 rfl (lv_at hl 1 rfl) ?_
  refine q_rV (rest := [.ref m0]) F w kV_X7_153 hd_X7_isShip (ci := 8) rfl (c_X7_isShip l D cy A _ m0 ad G hM (nI i1)) hM.1 dX7_changes_3 rfl rfl hl.1 ⟨rfl, rfl, Nat.le_of_ble_eq_true rfl, Nat.le_of_ble_eq_true rfl⟩ (Nat.le_of_ble_eq_true rfl) ⟨Nat.zero_le _, Nat.zero_le _⟩ ?_
  refine jn0 (m := m) (ls := ls) (rest := [.ref m0]) (if f_X7_isShip G (nI i1) = 0 then 1 else (if f_X7_isFlag x2 = 0 then 1 else (if f_X7_isBody x3 = 0 then 1 else 0))) 28 (fun J_1 => ?_) ?_
  · refine lv_if_eq (tgt := 27) F.1 F.2.1 dX7_changes_6 (by decide) (fun c_2 => ?_) (fun c_2 => ?_)
    · refine lv_iconst (v := 1) F.1 F.2.1 dX7_changes_27 (by decide) ?_
      exact jn_a (if_pos c_2) J_1
    · refine lv_iload_n F.1 F.2.1 dX7_changes_9 rfl (lv_at hl 2 rfl) ?_
      refine q_rS (rest := [.ref m0]) F w kS_X7_146 hd_X7_isFlag (c_X7_isFlag l D cy A _ x2) dX7_changes_10 rfl rfl hl.1 ⟨rfl, rfl, Nat.le_of_ble_eq_true rfl, Nat.le_of_ble_eq_true rfl⟩ (Nat.le_of_ble_eq_true rfl) ⟨Nat.zero_le _, Nat.zero_le _⟩ ?_
      refine lv_if_eq (tgt := 27) F.1 F.2.1 dX7_changes_13 (by decide) (fun c_3 => ?_) (fun c_3 => ?_)
      · refine lv_iconst (v := 1) F.1 F.2.1 dX7_changes_27 (by decide) ?_
        exact jn_a ((if_neg c_2).trans (if_pos c_3)) J_1
      · refine lv_iload_n F.1 F.2.1 dX7_changes_16 rfl (lv_at hl 3 rfl) ?_
        refine q_rS (rest := [.ref m0]) F w kS_X7_150 hd_X7_isBody (c_X7_isBody l D cy A _ x3) dX7_changes_17 rfl rfl hl.1 ⟨rfl, rfl, Nat.le_of_ble_eq_true rfl, Nat.le_of_ble_eq_true rfl⟩ (Nat.le_of_ble_eq_true rfl) ⟨Nat.zero_le _, Nat.zero_le _⟩ ?_
        refine lv_if_eq (tgt := 27) F.1 F.2.1 dX7_changes_20 (by decide) (fun c_4 => ?_) (fun c_4 => ?_)
        · refine lv_iconst (v := 1) F.1 F.2.1 dX7_changes_27 (by decide) ?_
          exact jn_a ((if_neg c_2).trans ((if_neg c_3).trans (if_pos c_4))) J_1
        · refine lv_iconst (v := 0) F.1 F.2.1 dX7_changes_23 (by decide) ?_
          refine lv_goto (tgt := 28) F.1 F.2.1 dX7_changes_24 (by decide) ?_
          exact jn_a ((if_neg c_2).trans ((if_neg c_3).trans (if_neg c_4))) J_1
  refine mp_128 F w hM dX7_changes_28 (fun H locs μ w hM => ?_)
  have hM : RepM cy m0 ad (g_X7_changes_1 G i1 x2 x3) μ := hM
  refine lv_aload_n F.1 F.2.1 dX7_changes_31 rfl (lv_at hl 0 rfl) ?_
  refine gf_X7_128 F w hM.1 rfl dX7_changes_32 ?_
  refine lv_fold (y := if f_X7_isShip G (nI i1) = 0 then 1 else (if f_X7_isFlag x2 = 0 then 1 else (if f_X7_isBody x3 = 0 then 1 else 0))) ((congrFun (up2_eq _ _ _ _) _).trans pk_us) ?_
  refine lv_if_le (tgt := 40) F.1 F.2.1 dX7_changes_35 (by decide) (fun c_5 => ?_) (fun c_5 => ?_)
  · refine lv_aload_n F.1 F.2.1 dX7_changes_40 rfl (lv_at hl 0 rfl) ?_
    refine gf_X7_23 F w hM.1 rfl dX7_changes_41 ?_
    refine lv_iload_n F.1 F.2.1 dX7_changes_44 rfl (lv_at hl 1 rfl) ?_
    refine lv_iload_n F.1 F.2.1 dX7_changes_45 rfl (lv_at hl 2 rfl) ?_
    refine m_ist F w hM 7 (by decide) rfl rfl i1 (show i1 < 12 by omega) (by decide) dX7_changes_46 (fun H locs μ w hM => ?_)
    have hM : RepM cy m0 ad (g_X7_changes_2 G i1 x2 x3) μ := hM
    refine lv_aload_n F.1 F.2.1 dX7_changes_47 rfl (lv_at hl 0 rfl) ?_
    refine gf_X7_26 F w hM.1 rfl dX7_changes_48 ?_
    refine lv_iload_n F.1 F.2.1 dX7_changes_51 rfl (lv_at hl 1 rfl) ?_
    refine lv_iload_n F.1 F.2.1 dX7_changes_52 rfl (lv_at hl 3 rfl) ?_
    refine m_ist F w hM 8 (by decide) rfl rfl i1 (show i1 < 12 by omega) (by decide) dX7_changes_53 (fun H locs μ w hM => ?_)
    have hM : RepM cy m0 ad (g_X7_changes_3 G i1 x2 x3) μ := hM
    refine lv_aload_n F.1 F.2.1 dX7_changes_54 rfl (lv_at hl 0 rfl) ?_
    refine gf_X7_29 F w hM.1 rfl dX7_changes_55 ?_
    refine lv_iload_n F.1 F.2.1 dX7_changes_58 rfl (lv_at hl 1 rfl) ?_
    refine lv_dup2_11 F.1 F.2.1 dX7_changes_59 rfl rfl ?_
    refine m_ild F w hM 9 (by decide) rfl rfl i1 (show i1 < 12 by omega) (by decide) dX7_changes_60 ?_
    refine lv_fold (y := G 9 i1) (congrFun (e_g_X7_changes_3 G i1 x2 x3 (by decide)) i1) ?_
    refine lv_iconst (v := 1) F.1 F.2.1 dX7_changes_61 (by decide) ?_
    refine lv_iadd F.1 F.2.1 dX7_changes_62 ?_
    refine m_ist F w hM 9 (by decide) rfl rfl i1 (show i1 < 12 by omega) (by decide) dX7_changes_63 (fun H locs μ w hM => ?_)
    have hM : RepM cy m0 ad (g_X7_changes_4 G i1 x2 x3) μ := hM
    refine lv_aload_n F.1 F.2.1 dX7_changes_64 rfl (lv_at hl 0 rfl) ?_
    refine gf_X7_29 F w hM.1 rfl dX7_changes_65 ?_
    refine lv_iload_n F.1 F.2.1 dX7_changes_68 rfl (lv_at hl 1 rfl) ?_
    refine m_ild F w hM 9 (by decide) rfl rfl i1 (show i1 < 12 by omega) (by decide) dX7_changes_69 ?_
    refine lv_fold (y := (G 9 i1) + 1) ((congrFun (up2_eq _ _ _ _) _).trans pk_us) ?_
    exact q_retI (S := Unit) F hr hlk w ⟨(if_pos c_5).symm, RepM.cg hM (if_pos c_5)⟩ dX7_changes_70
  · refine lv_iconst (v := 0) F.1 F.2.1 dX7_changes_38 (by decide) ?_
    exact q_retI (S := Unit) F hr hlk w ⟨(if_neg c_5).symm, RepM.cg hM (if_neg c_5)⟩ dX7_changes_39
def g_X7_changes_b_1 (G : GS) (x1 : Int32) (x2 : Int32) (x3 : Int32) : GS := up2 G 0 0 1
theorem e_g_X7_changes_b_1 (G : GS) (x1 : Int32) (x2 : Int32) (x3 : Int32) {j : Nat} (h : j ∉ [0]) : g_X7_changes_b_1 G x1 x2 x3 j = G j := (up2_ne (fun q => h (by rw [q]; exact List.mem_cons_self))).trans rfl
def f_X7_changes_b (G : GS) (x1 : Int32) (x2 : Int32) (x3 : Int32) : Int32 := 0
def g_X7_changes_b (G : GS) (x1 : Int32) (x2 : Int32) (x3 : Int32) : GS := g_X7_changes_b_1 G x1 x2 x3
set_option maxHeartbeats 4000000 in
set_option maxRecDepth 100000 in
theorem c_X7_changes_b (l : Launch) (D : va_G) (cy : Nat → ClassId) (A : Nat → Prop) (μ : MU) (m0 : Nat) (ad : Nat → Nat) (G : GS) (hM : RepM cy m0 ad G μ) (x1 : Int32) (x2 : Int32) (x3 : Int32) (hb : f_X7_isShip G x1 = 0) : Met l yX7_changes (WS yX7_changes cX7_changes 4 (Option.some Jvm.ClassFile.FieldType.int)) { frames := 2, cells := 0, slots := 0, locals := 43 } (va_Pc [.ref m0, .int x1, .int x2, .int x3] (Wd D cy A μ)) (va_Qi (fun (r9 : Int32) (μ1 : MU) => r9 = f_X7_changes_b G x1 x2 x3 ∧ RepM cy m0 ad (g_X7_changes_b G x1 x2 x3) μ1) (fun μ1 t => Wd D cy A μ1 t) A) 0 0 A := by
  refine q_met (by decide) (Nat.le_of_ble_eq_true rfl) ?_
  intro p e s m below meth c F w hr hlk hnm ls hl
  have F : CallFix p m c cX7_changes 4 s _ BIG RX7 := F
  have hl : lv_has ls 4 [(0, .ref m0), (1, .int x1), (2, .int x2), (3, .int x3)] := hl
  refine lv_aload_n F.1 F.2.1 dX7_changes_0 rfl (lv_at hl 0 rfl) ?_
  refine lv_aload_n F.1 F.2.1 dX7_changes_1 rfl (lv_at hl 0 rfl) ?_
  refine lv_iload_n F.1 F.2.1 dX7_changes_2 rfl (lv_at hl 1 rfl) ?_
  refine q_rV (rest := [.ref m0]) F w kV_X7_153 hd_X7_isShip (ci := 8) rfl (c_X7_isShip l D cy A _ m0 ad G hM x1) hM.1 dX7_changes_3 rfl rfl hl.1 ⟨rfl, rfl, Nat.le_of_ble_eq_true rfl, Nat.le_of_ble_eq_true rfl⟩ (Nat.le_of_ble_eq_true rfl) ⟨Nat.zero_le _, Nat.zero_le _⟩ ?_
  refine lv_if_eq (tgt := 27) F.1 F.2.1 dX7_changes_6 (by decide) (fun c_1 => ?_) (fun c_1 => absurd hb c_1)
  refine lv_iconst (v := 1) F.1 F.2.1 dX7_changes_27 (by decide) ?_
  refine mp_128 F w hM dX7_changes_28 (fun H locs μ w hM => ?_)
  have hM : RepM cy m0 ad (g_X7_changes_b_1 G x1 x2 x3) μ := hM
  refine lv_aload_n F.1 F.2.1 dX7_changes_31 rfl (lv_at hl 0 rfl) ?_
  refine gf_X7_128 F w hM.1 rfl dX7_changes_32 ?_
  refine lv_fold (y := 1) ((congrFun (up2_eq _ _ _ _) _).trans pk_us) ?_
  refine lv_if_le (tgt := 40) F.1 F.2.1 dX7_changes_35 (by decide) (fun c_2 => absurd c_2 (by decide)) (fun c_2 => ?_)
  refine lv_iconst (v := 0) F.1 F.2.1 dX7_changes_38 (by decide) ?_
  exact q_retI (S := Unit) F hr hlk w ⟨rfl, RepM.cg hM rfl⟩ dX7_changes_39
def g_X7_suspend_1 (G : GS) (i1 : Nat) (x2 : Int32) : GS := up2 G 0 0 (if f_X7_isBody (nI i1) = 0 then 1 else 0)
theorem e_g_X7_suspend_1 (G : GS) (i1 : Nat) (x2 : Int32) {j : Nat} (h : j ∉ [0]) : g_X7_suspend_1 G i1 x2 j = G j := (up2_ne (fun q => h (by rw [q]; exact List.mem_cons_self))).trans rfl
def g_X7_suspend_2 (G : GS) (i1 : Nat) (x2 : Int32) : GS := up2 (g_X7_suspend_1 G i1 x2) 2 i1 x2
theorem e_g_X7_suspend_2 (G : GS) (i1 : Nat) (x2 : Int32) {j : Nat} (h : j ∉ [2, 0]) : g_X7_suspend_2 G i1 x2 j = G j := (up2_ne (fun q => h (by rw [q]; exact List.mem_cons_self))).trans (e_g_X7_suspend_1 G i1 x2 (fun q => h (List.mem_cons_of_mem _ q)))
def f_X7_suspend (G : GS) (i1 : Nat) (x2 : Int32) : Int32 := if (if f_X7_isBody (nI i1) = 0 then 1 else 0 : Int32) ≤ 0 then G 2 i1 else 0
def g_X7_suspend (G : GS) (i1 : Nat) (x2 : Int32) : GS := if (if f_X7_isBody (nI i1) = 0 then 1 else 0 : Int32) ≤ 0 then g_X7_suspend_2 G i1 x2 else g_X7_suspend_1 G i1 x2
set_option maxHeartbeats 4000000 in
set_option maxRecDepth 100000 in
theorem c_X7_suspend (l : Launch) (D : va_G) (cy : Nat → ClassId) (A : Nat → Prop) (μ : MU) (m0 : Nat) (ad : Nat → Nat) (G : GS) (hM : RepM cy m0 ad G μ) (i1 : Nat) (x2 : Int32) (hi1 : i1 < 4) (hx2 : x2 = 0 ∨ x2 = 1) (hI : InvM G) : Met l yX7_suspend (WS yX7_suspend cX7_suspend 4 (Option.some Jvm.ClassFile.FieldType.boolean)) { frames := 2, cells := 0, slots := 0, locals := 42 } (va_Pc [.ref m0, .int (nI i1), .int x2] (Wd D cy A μ)) (va_Qi (fun (r9 : Int32) (μ1 : MU) => r9 = f_X7_suspend G i1 x2 ∧ RepM cy m0 ad (g_X7_suspend G i1 x2) μ1) (fun μ1 t => Wd D cy A μ1 t) A) 0 0 A := by
  refine q_met (by decide) (Nat.le_of_ble_eq_true rfl) ?_
  intro p e s m below meth c F w hr hlk hnm ls hl
  have F : CallFix p m c cX7_suspend 4 s _ BIG RX7 := F
  have hl : lv_has ls 4 [(0, .ref m0), (1, .int (nI i1)), (2, .int x2)] := hl
  refine lv_aload_n F.1 F.2.1 dX7_suspend_0 rfl (lv_at hl 0 rfl) ?_
  refine lv_iload_n F.1 F.2.1 dX7_suspend_1 rfl (lv_at hl 1 rfl) ?_
  refine q_rS (rest := [.ref m0]) F w kS_X7_150 hd_X7_isBody (c_X7_isBody l D cy A _ (nI i1)) dX7_suspend_2 rfl rfl hl.1 ⟨rfl, rfl, Nat.le_of_ble_eq_true rfl, Nat.le_of_ble_eq_true rfl⟩ (Nat.le_of_ble_eq_true rfl) ⟨Nat.zero_le _, Nat.zero_le _⟩ ?_
  refine jn0 (m := m) (ls := ls) (rest := [.ref m0]) (if f_X7_isBody (nI i1) = 0 then 1 else 0) 13 (fun J_1 => ?_) ?_
  · refine lv_if_eq (tgt := 12) F.1 F.2.1 dX7_suspend_5 (by decide) (fun c_2 => ?_) (fun c_2 => ?_)
    · refine lv_iconst (v := 1) F.1 F.2.1 dX7_suspend_12 (by decide) ?_
      exact jn_a (if_pos c_2) J_1
    · refine lv_iconst (v := 0) F.1 F.2.1 dX7_suspend_8 (by decide) ?_
      refine lv_goto (tgt := 13) F.1 F.2.1 dX7_suspend_9 (by decide) ?_
      exact jn_a (if_neg c_2) J_1
  refine mp_128 F w hM dX7_suspend_13 (fun H locs μ w hM => ?_)
  have hM : RepM cy m0 ad (g_X7_suspend_1 G i1 x2) μ := hM
  refine lv_aload_n F.1 F.2.1 dX7_suspend_16 rfl (lv_at hl 0 rfl) ?_
  refine gf_X7_128 F w hM.1 rfl dX7_suspend_17 ?_
  refine lv_fold (y := if f_X7_isBody (nI i1) = 0 then 1 else 0) ((congrFun (up2_eq _ _ _ _) _).trans pk_us) ?_
  refine lv_if_le (tgt := 25) F.1 F.2.1 dX7_suspend_20 (by decide) (fun c_3 => ?_) (fun c_3 => ?_)
  · refine lv_aload_n F.1 F.2.1 dX7_suspend_25 rfl (lv_at hl 0 rfl) ?_
    refine gf_X7_7 F w hM.1 rfl dX7_suspend_26 ?_
    refine lv_iload_n F.1 F.2.1 dX7_suspend_29 rfl (lv_at hl 1 rfl) ?_
    refine m_zld F w hM 2 (by decide) rfl rfl i1 (show i1 < 4 by omega) (by decide) dX7_suspend_30 ?_
    refine lv_fold (y := G 2 i1) (congrFun (e_g_X7_suspend_1 G i1 x2 (by decide)) i1) ?_
    refine lv_istore_n (lv' := [(3, .int (G 2 i1)), (0, .ref m0), (1, .int (nI i1)), (2, .int x2)]) F.1 F.2.1 dX7_suspend_31 rfl hl (by decide) rfl (fun ls hl => ?_)
    refine lv_aload_n F.1 F.2.1 dX7_suspend_32 rfl (lv_at hl 1 rfl) ?_
    refine gf_X7_7 F w hM.1 rfl dX7_suspend_33 ?_
    refine lv_iload_n F.1 F.2.1 dX7_suspend_36 rfl (lv_at hl 2 rfl) ?_
    refine lv_iload_n F.1 F.2.1 dX7_suspend_37 rfl (lv_at hl 3 rfl) ?_
    refine m_zst F w hM 2 (by decide) rfl rfl i1 (show i1 < 4 by omega) (by decide) hx2 dX7_suspend_38 (fun H locs μ w hM => ?_)
    have hM : RepM cy m0 ad (g_X7_suspend_2 G i1 x2) μ := hM
    refine lv_iload_n F.1 F.2.1 dX7_suspend_39 rfl (lv_at hl 0 rfl) ?_
    exact q_retZ (S := Unit) F hr hlk w ⟨(if_pos c_3).symm, RepM.cg hM (if_pos c_3)⟩ (hI.su hi1) dX7_suspend_40
  · refine lv_iconst (v := 0) F.1 F.2.1 dX7_suspend_23 (by decide) ?_
    exact q_retZ (S := Unit) F hr hlk w ⟨(if_neg c_3).symm, RepM.cg hM (if_neg c_3)⟩ nz0 dX7_suspend_24
def g_X7_suspend_b_1 (G : GS) (x1 : Int32) (x2 : Int32) : GS := up2 G 0 0 1
theorem e_g_X7_suspend_b_1 (G : GS) (x1 : Int32) (x2 : Int32) {j : Nat} (h : j ∉ [0]) : g_X7_suspend_b_1 G x1 x2 j = G j := (up2_ne (fun q => h (by rw [q]; exact List.mem_cons_self))).trans rfl
def f_X7_suspend_b (G : GS) (x1 : Int32) (x2 : Int32) : Int32 := 0
theorem nz_f_X7_suspend_b (G : GS) (x1 : Int32) (x2 : Int32) : nz (f_X7_suspend_b G x1 x2) := nz0
def g_X7_suspend_b (G : GS) (x1 : Int32) (x2 : Int32) : GS := g_X7_suspend_b_1 G x1 x2
set_option maxHeartbeats 4000000 in
set_option maxRecDepth 100000 in
theorem c_X7_suspend_b (l : Launch) (D : va_G) (cy : Nat → ClassId) (A : Nat → Prop) (μ : MU) (m0 : Nat) (ad : Nat → Nat) (G : GS) (hM : RepM cy m0 ad G μ) (x1 : Int32) (x2 : Int32) (hb : f_X7_isBody x1 = 0) : Met l yX7_suspend (WS yX7_suspend cX7_suspend 4 (Option.some Jvm.ClassFile.FieldType.boolean)) { frames := 2, cells := 0, slots := 0, locals := 42 } (va_Pc [.ref m0, .int x1, .int x2] (Wd D cy A μ)) (va_Qi (fun (r9 : Int32) (μ1 : MU) => r9 = f_X7_suspend_b G x1 x2 ∧ RepM cy m0 ad (g_X7_suspend_b G x1 x2) μ1) (fun μ1 t => Wd D cy A μ1 t) A) 0 0 A := by
  refine q_met (by decide) (Nat.le_of_ble_eq_true rfl) ?_
  intro p e s m below meth c F w hr hlk hnm ls hl
  have F : CallFix p m c cX7_suspend 4 s _ BIG RX7 := F
  have hl : lv_has ls 4 [(0, .ref m0), (1, .int x1), (2, .int x2)] := hl
  refine lv_aload_n F.1 F.2.1 dX7_suspend_0 rfl (lv_at hl 0 rfl) ?_
  refine lv_iload_n F.1 F.2.1 dX7_suspend_1 rfl (lv_at hl 1 rfl) ?_
  refine q_rS (rest := [.ref m0]) F w kS_X7_150 hd_X7_isBody (c_X7_isBody l D cy A _ x1) dX7_suspend_2 rfl rfl hl.1 ⟨rfl, rfl, Nat.le_of_ble_eq_true rfl, Nat.le_of_ble_eq_true rfl⟩ (Nat.le_of_ble_eq_true rfl) ⟨Nat.zero_le _, Nat.zero_le _⟩ ?_
  refine lv_if_eq (tgt := 12) F.1 F.2.1 dX7_suspend_5 (by decide) (fun c_1 => ?_) (fun c_1 => absurd hb c_1)
  refine lv_iconst (v := 1) F.1 F.2.1 dX7_suspend_12 (by decide) ?_
  refine mp_128 F w hM dX7_suspend_13 (fun H locs μ w hM => ?_)
  have hM : RepM cy m0 ad (g_X7_suspend_b_1 G x1 x2) μ := hM
  refine lv_aload_n F.1 F.2.1 dX7_suspend_16 rfl (lv_at hl 0 rfl) ?_
  refine gf_X7_128 F w hM.1 rfl dX7_suspend_17 ?_
  refine lv_fold (y := 1) ((congrFun (up2_eq _ _ _ _) _).trans pk_us) ?_
  refine lv_if_le (tgt := 25) F.1 F.2.1 dX7_suspend_20 (by decide) (fun c_2 => absurd c_2 (by decide)) (fun c_2 => ?_)
  refine lv_iconst (v := 0) F.1 F.2.1 dX7_suspend_23 (by decide) ?_
  exact q_retZ (S := Unit) F hr hlk w ⟨rfl, RepM.cg hM rfl⟩ nz0 dX7_suspend_24
def v_X7_rule_59 (G : GS) (x1 : Int32) (x2 : Int32) (x3 : Int32) (x4 : Int32) (x5 : Int32) : Int32 := if f_X7_in x1 0 9 = 0 then 0 else (if f_X7_in x2 0 200000 = 0 then 0 else (if f_X7_in x3 1 7 = 0 then 0 else (if f_X7_in x4 0 9000 = 0 then 0 else (if f_X7_in x5 0 3000 = 0 then 0 else 1))))
theorem nz_v_X7_rule_59 (G : GS) (x1 : Int32) (x2 : Int32) (x3 : Int32) (x4 : Int32) (x5 : Int32) : nz (v_X7_rule_59 G x1 x2 x3 x4 x5) := (nz_ite nz0 (nz_ite nz0 (nz_ite nz0 (nz_ite nz0 (nz_ite nz0 nz1)))))
def g_X7_rule_1 (G : GS) (x1 : Int32) (x2 : Int32) (x3 : Int32) (x4 : Int32) (x5 : Int32) : GS := up2 G 0 0 (if v_X7_rule_59 G x1 x2 x3 x4 x5 = 0 then 1 else (if nI (gnR G) = 20 then 2 else 0))
theorem e_g_X7_rule_1 (G : GS) (x1 : Int32) (x2 : Int32) (x3 : Int32) (x4 : Int32) (x5 : Int32) {j : Nat} (h : j ∉ [0]) : g_X7_rule_1 G x1 x2 x3 x4 x5 j = G j := (up2_ne (fun q => h (by rw [q]; exact List.mem_cons_self))).trans rfl
def g_X7_rule_2 (G : GS) (x1 : Int32) (x2 : Int32) (x3 : Int32) (x4 : Int32) (x5 : Int32) : GS := up2 (g_X7_rule_1 G x1 x2 x3 x4 x5) 24 (gnR G) x1
theorem e_g_X7_rule_2 (G : GS) (x1 : Int32) (x2 : Int32) (x3 : Int32) (x4 : Int32) (x5 : Int32) {j : Nat} (h : j ∉ [24, 0]) : g_X7_rule_2 G x1 x2 x3 x4 x5 j = G j := (up2_ne (fun q => h (by rw [q]; exact List.mem_cons_self))).trans (e_g_X7_rule_1 G x1 x2 x3 x4 x5 (fun q => h (List.mem_cons_of_mem _ q)))
def g_X7_rule_3 (G : GS) (x1 : Int32) (x2 : Int32) (x3 : Int32) (x4 : Int32) (x5 : Int32) : GS := up2 (g_X7_rule_2 G x1 x2 x3 x4 x5) 25 (gnR G) x2
theorem e_g_X7_rule_3 (G : GS) (x1 : Int32) (x2 : Int32) (x3 : Int32) (x4 : Int32) (x5 : Int32) {j : Nat} (h : j ∉ [25, 24, 0]) : g_X7_rule_3 G x1 x2 x3 x4 x5 j = G j := (up2_ne (fun q => h (by rw [q]; exact List.mem_cons_self))).trans (e_g_X7_rule_2 G x1 x2 x3 x4 x5 (fun q => h (List.mem_cons_of_mem _ q)))
def g_X7_rule_4 (G : GS) (x1 : Int32) (x2 : Int32) (x3 : Int32) (x4 : Int32) (x5 : Int32) : GS := up2 (g_X7_rule_3 G x1 x2 x3 x4 x5) 26 (gnR G) x3
theorem e_g_X7_rule_4 (G : GS) (x1 : Int32) (x2 : Int32) (x3 : Int32) (x4 : Int32) (x5 : Int32) {j : Nat} (h : j ∉ [26, 25, 24, 0]) : g_X7_rule_4 G x1 x2 x3 x4 x5 j = G j := (up2_ne (fun q => h (by rw [q]; exact List.mem_cons_self))).trans (e_g_X7_rule_3 G x1 x2 x3 x4 x5 (fun q => h (List.mem_cons_of_mem _ q)))
def g_X7_rule_5 (G : GS) (x1 : Int32) (x2 : Int32) (x3 : Int32) (x4 : Int32) (x5 : Int32) : GS := up2 (g_X7_rule_4 G x1 x2 x3 x4 x5) 27 (gnR G) x4
theorem e_g_X7_rule_5 (G : GS) (x1 : Int32) (x2 : Int32) (x3 : Int32) (x4 : Int32) (x5 : Int32) {j : Nat} (h : j ∉ [27, 26, 25, 24, 0]) : g_X7_rule_5 G x1 x2 x3 x4 x5 j = G j := (up2_ne (fun q => h (by rw [q]; exact List.mem_cons_self))).trans (e_g_X7_rule_4 G x1 x2 x3 x4 x5 (fun q => h (List.mem_cons_of_mem _ q)))
def g_X7_rule_6 (G : GS) (x1 : Int32) (x2 : Int32) (x3 : Int32) (x4 : Int32) (x5 : Int32) : GS := up2 (g_X7_rule_5 G x1 x2 x3 x4 x5) 28 (gnR G) x5
theorem e_g_X7_rule_6 (G : GS) (x1 : Int32) (x2 : Int32) (x3 : Int32) (x4 : Int32) (x5 : Int32) {j : Nat} (h : j ∉ [28, 27, 26, 25, 24, 0]) : g_X7_rule_6 G x1 x2 x3 x4 x5 j = G j := (up2_ne (fun q => h (by rw [q]; exact List.mem_cons_self))).trans (e_g_X7_rule_5 G x1 x2 x3 x4 x5 (fun q => h (List.mem_cons_of_mem _ q)))
def g_X7_rule_7 (G : GS) (x1 : Int32) (x2 : Int32) (x3 : Int32) (x4 : Int32) (x5 : Int32) : GS := up2 (g_X7_rule_6 G x1 x2 x3 x4 x5) 23 0 ((nI (gnR G)) + 1)
theorem e_g_X7_rule_7 (G : GS) (x1 : Int32) (x2 : Int32) (x3 : Int32) (x4 : Int32) (x5 : Int32) {j : Nat} (h : j ∉ [23, 28, 27, 26, 25, 24, 0]) : g_X7_rule_7 G x1 x2 x3 x4 x5 j = G j := (up2_ne (fun q => h (by rw [q]; exact List.mem_cons_self))).trans (e_g_X7_rule_6 G x1 x2 x3 x4 x5 (fun q => h (List.mem_cons_of_mem _ q)))
def f_X7_rule (G : GS) (x1 : Int32) (x2 : Int32) (x3 : Int32) (x4 : Int32) (x5 : Int32) : Int32 := if (if v_X7_rule_59 G x1 x2 x3 x4 x5 = 0 then 1 else (if nI (gnR G) = 20 then 2 else 0) : Int32) ≤ 0 then ((nI (gnR G)) + 1) - 1 else 0
def g_X7_rule (G : GS) (x1 : Int32) (x2 : Int32) (x3 : Int32) (x4 : Int32) (x5 : Int32) : GS := if (if v_X7_rule_59 G x1 x2 x3 x4 x5 = 0 then 1 else (if nI (gnR G) = 20 then 2 else 0) : Int32) ≤ 0 then g_X7_rule_7 G x1 x2 x3 x4 x5 else g_X7_rule_1 G x1 x2 x3 x4 x5
set_option maxHeartbeats 4000000 in
set_option maxRecDepth 100000 in
theorem c_X7_rule (l : Launch) (D : va_G) (cy : Nat → ClassId) (A : Nat → Prop) (μ : MU) (m0 : Nat) (ad : Nat → Nat) (G : GS) (hM : RepM cy m0 ad G μ) (x1 : Int32) (x2 : Int32) (x3 : Int32) (x4 : Int32) (x5 : Int32) (hI : InvM G) (hlt : gnR G < 20) : Met l yX7_rule (WS yX7_rule cX7_rule 7 (Option.some Jvm.ClassFile.FieldType.int)) { frames := 1, cells := 0, slots := 0, locals := 22 } (va_Pc [.ref m0, .int x1, .int x2, .int x3, .int x4, .int x5] (Wd D cy A μ)) (va_Qi (fun (r9 : Int32) (μ1 : MU) => r9 = f_X7_rule G x1 x2 x3 x4 x5 ∧ RepM cy m0 ad (g_X7_rule G x1 x2 x3 x4 x5) μ1) (fun μ1 t => Wd D cy A μ1 t) A) 0 0 A := by
  refine q_met (by decide) (Nat.le_of_ble_eq_true rfl) ?_
  intro p e s m below meth c F w hr hlk hnm ls hl
  have F : CallFix p m c cX7_rule 7 s _ BIG RX7 := F
  have hl : lv_has ls 7 [(0, .ref m0), (1, .int x1), (2, .int x2), (3, .int x3), (4, .int x4), (5, .int x5)] := hl
  refine lv_iload_n F.1 F.2.1 dX7_rule_0 rfl (lv_at hl 1 rfl) ?_
  refine lv_iconst (v := 0) F.1 F.2.1 dX7_rule_1 (by decide) ?_
  refine lv_bipush (v := 9) F.1 F.2.1 dX7_rule_2 (by decide) ?_
  refine q_rS (rest := []) F w kS_X7_135 hd_X7_in (c_X7_in l D cy A _ x1 0 9) dX7_rule_4 rfl rfl hl.1 ⟨rfl, rfl, Nat.le_of_ble_eq_true rfl, Nat.le_of_ble_eq_true rfl⟩ (Nat.le_of_ble_eq_true rfl) ⟨Nat.zero_le _, Nat.zero_le _⟩ ?_
  refine jn0 (m := m) (ls := ls) (rest := []) (if f_X7_in x1 0 9 = 0 then 0 else (if f_X7_in x2 0 200000 = 0 then 0 else (if f_X7_in x3 1 7 = 0 then 0 else (if f_X7_in x4 0 9000 = 0 then 0 else (if f_X7_in x5 0 3000 = 0 then 0 else 1))))) 59 (fun J_1 => ?_) ?_
  · refine lv_if_eq (tgt := 58) F.1 F.2.1 dX7_rule_7 (by decide) (fun c_2 => ?_) (fun c_2 => ?_)
    · refine lv_iconst (v := 0) F.1 F.2.1 dX7_rule_58 (by decide) ?_
      exact jn_a (if_pos c_2) J_1
    · refine lv_iload_n F.1 F.2.1 dX7_rule_10 rfl (lv_at hl 2 rfl) ?_
      refine lv_iconst (v := 0) F.1 F.2.1 dX7_rule_11 (by decide) ?_
      refine lv_ldc F.1 F.2.1 F.2.2.2.1 (F.2.2.2.2 _ wK_X7_145) dX7_rule_12 ?_
      refine q_rS (rest := []) F w kS_X7_135 hd_X7_in (c_X7_in l D cy A _ x2 0 200000) dX7_rule_14 rfl rfl hl.1 ⟨rfl, rfl, Nat.le_of_ble_eq_true rfl, Nat.le_of_ble_eq_true rfl⟩ (Nat.le_of_ble_eq_true rfl) ⟨Nat.zero_le _, Nat.zero_le _⟩ ?_
      refine lv_if_eq (tgt := 58) F.1 F.2.1 dX7_rule_17 (by decide) (fun c_3 => ?_) (fun c_3 => ?_)
      · refine lv_iconst (v := 0) F.1 F.2.1 dX7_rule_58 (by decide) ?_
        exact jn_a ((if_neg c_2).trans (if_pos c_3)) J_1
      · refine lv_iload_n F.1 F.2.1 dX7_rule_20 rfl (lv_at hl 3 rfl) ?_
        refine lv_iconst (v := 1) F.1 F.2.1 dX7_rule_21 (by decide) ?_
        refine lv_bipush (v := 7) F.1 F.2.1 dX7_rule_22 (by decide) ?_
        refine q_rS (rest := []) F w kS_X7_135 hd_X7_in (c_X7_in l D cy A _ x3 1 7) dX7_rule_24 rfl rfl hl.1 ⟨rfl, rfl, Nat.le_of_ble_eq_true rfl, Nat.le_of_ble_eq_true rfl⟩ (Nat.le_of_ble_eq_true rfl) ⟨Nat.zero_le _, Nat.zero_le _⟩ ?_
        refine lv_if_eq (tgt := 58) F.1 F.2.1 dX7_rule_27 (by decide) (fun c_4 => ?_) (fun c_4 => ?_)
        · refine lv_iconst (v := 0) F.1 F.2.1 dX7_rule_58 (by decide) ?_
          exact jn_a ((if_neg c_2).trans ((if_neg c_3).trans (if_pos c_4))) J_1
        · refine lv_iload F.1 F.2.1 dX7_rule_30 (lv_at hl 4 rfl) ?_
          refine lv_iconst (v := 0) F.1 F.2.1 dX7_rule_32 (by decide) ?_
          refine lv_sipush (v := 9000) F.1 F.2.1 dX7_rule_33 (by decide) ?_
          refine q_rS (rest := []) F w kS_X7_135 hd_X7_in (c_X7_in l D cy A _ x4 0 9000) dX7_rule_36 rfl rfl hl.1 ⟨rfl, rfl, Nat.le_of_ble_eq_true rfl, Nat.le_of_ble_eq_true rfl⟩ (Nat.le_of_ble_eq_true rfl) ⟨Nat.zero_le _, Nat.zero_le _⟩ ?_
          refine lv_if_eq (tgt := 58) F.1 F.2.1 dX7_rule_39 (by decide) (fun c_5 => ?_) (fun c_5 => ?_)
          · refine lv_iconst (v := 0) F.1 F.2.1 dX7_rule_58 (by decide) ?_
            exact jn_a ((if_neg c_2).trans ((if_neg c_3).trans ((if_neg c_4).trans (if_pos c_5)))) J_1
          · refine lv_iload F.1 F.2.1 dX7_rule_42 (lv_at hl 5 rfl) ?_
            refine lv_iconst (v := 0) F.1 F.2.1 dX7_rule_44 (by decide) ?_
            refine lv_sipush (v := 3000) F.1 F.2.1 dX7_rule_45 (by decide) ?_
            refine q_rS (rest := []) F w kS_X7_135 hd_X7_in (c_X7_in l D cy A _ x5 0 3000) dX7_rule_48 rfl rfl hl.1 ⟨rfl, rfl, Nat.le_of_ble_eq_true rfl, Nat.le_of_ble_eq_true rfl⟩ (Nat.le_of_ble_eq_true rfl) ⟨Nat.zero_le _, Nat.zero_le _⟩ ?_
            refine lv_if_eq (tgt := 58) F.1 F.2.1 dX7_rule_51 (by decide) (fun c_6 => ?_) (fun c_6 => ?_)
            · refine lv_iconst (v := 0) F.1 F.2.1 dX7_rule_58 (by decide) ?_
              exact jn_a ((if_neg c_2).trans ((if_neg c_3).trans ((if_neg c_4).trans ((if_neg c_5).trans (if_pos c_6))))) J_1
            · refine lv_iconst (v := 1) F.1 F.2.1 dX7_rule_54 (by decide) ?_
              refine lv_goto (tgt := 59) F.1 F.2.1 dX7_rule_55 (by decide) ?_
              exact jn_a ((if_neg c_2).trans ((if_neg c_3).trans ((if_neg c_4).trans ((if_neg c_5).trans (if_neg c_6))))) J_1
  refine lv_fold (y := v_X7_rule_59 G x1 x2 x3 x4 x5) rfl ?_
  refine lv_istore (lv' := [(6, .int (v_X7_rule_59 G x1 x2 x3 x4 x5)), (0, .ref m0), (1, .int x1), (2, .int x2), (3, .int x3), (4, .int x4), (5, .int x5)]) F.1 F.2.1 dX7_rule_59 hl (by decide) rfl (fun ls hl => ?_)
  refine lv_aload_n F.1 F.2.1 dX7_rule_61 rfl (lv_at hl 1 rfl) ?_
  refine lv_iload F.1 F.2.1 dX7_rule_62 (lv_at hl 0 rfl) ?_
  refine jn0 (m := m) (ls := ls) (rest := [.ref m0]) (if v_X7_rule_59 G x1 x2 x3 x4 x5 = 0 then 1 else (if nI (gnR G) = 20 then 2 else 0)) 85 (fun J_7 => ?_) ?_
  · refine lv_if_ne (tgt := 71) F.1 F.2.1 dX7_rule_64 (by decide) (fun c_8 => ?_) (fun c_8 => ?_)
    · refine lv_aload_n F.1 F.2.1 dX7_rule_71 rfl (lv_at hl 1 rfl) ?_
      refine gf_X7_156 F w hM.1 rfl dX7_rule_72 ?_
      refine lv_fold (y := nI (gnR G)) (hI.r.1) ?_
      refine lv_bipush (v := 20) F.1 F.2.1 dX7_rule_75 (by decide) ?_
      refine lv_icmp_ne (tgt := 84) F.1 F.2.1 dX7_rule_77 (by decide) (fun c_9 => ?_) (fun c_9 => ?_)
      · refine lv_iconst (v := 0) F.1 F.2.1 dX7_rule_84 (by decide) ?_
        exact jn_a ((if_neg c_8).trans (if_neg c_9)) J_7
      · refine lv_iconst (v := 2) F.1 F.2.1 dX7_rule_80 (by decide) ?_
        refine lv_goto (tgt := 85) F.1 F.2.1 dX7_rule_81 (by decide) ?_
        exact jn_a ((if_neg c_8).trans (if_pos c_9)) J_7
    · refine lv_iconst (v := 1) F.1 F.2.1 dX7_rule_67 (by decide) ?_
      refine lv_goto (tgt := 85) F.1 F.2.1 dX7_rule_68 (by decide) ?_
      exact jn_a (if_pos c_8) J_7
  refine mp_128 F w hM dX7_rule_85 (fun H locs μ w hM => ?_)
  have hM : RepM cy m0 ad (g_X7_rule_1 G x1 x2 x3 x4 x5) μ := hM
  refine lv_aload_n F.1 F.2.1 dX7_rule_88 rfl (lv_at hl 1 rfl) ?_
  refine gf_X7_128 F w hM.1 rfl dX7_rule_89 ?_
  refine lv_fold (y := if v_X7_rule_59 G x1 x2 x3 x4 x5 = 0 then 1 else (if nI (gnR G) = 20 then 2 else 0)) ((congrFun (up2_eq _ _ _ _) _).trans pk_us) ?_
  refine lv_if_le (tgt := 97) F.1 F.2.1 dX7_rule_92 (by decide) (fun c_10 => ?_) (fun c_10 => ?_)
  · refine lv_aload_n F.1 F.2.1 dX7_rule_97 rfl (lv_at hl 1 rfl) ?_
    refine gf_X7_71 F w hM.1 rfl dX7_rule_98 ?_
    refine lv_aload_n F.1 F.2.1 dX7_rule_101 rfl (lv_at hl 1 rfl) ?_
    refine gf_X7_156 F w hM.1 rfl dX7_rule_102 ?_
    refine lv_fold (y := G 23 0) (congrFun (e_g_X7_rule_1 G x1 x2 x3 x4 x5 (by decide)) 0) ?_
    refine lv_fold (y := nI (gnR G)) (hI.r.1) ?_
    refine lv_iload_n F.1 F.2.1 dX7_rule_105 rfl (lv_at hl 2 rfl) ?_
    refine m_ist F w hM 24 (by decide) rfl rfl (gnR G) (show gnR G < 20 by omega) (by decide) dX7_rule_106 (fun H locs μ w hM => ?_)
    have hM : RepM cy m0 ad (g_X7_rule_2 G x1 x2 x3 x4 x5) μ := hM
    refine lv_aload_n F.1 F.2.1 dX7_rule_107 rfl (lv_at hl 1 rfl) ?_
    refine gf_X7_74 F w hM.1 rfl dX7_rule_108 ?_
    refine lv_aload_n F.1 F.2.1 dX7_rule_111 rfl (lv_at hl 1 rfl) ?_
    refine gf_X7_156 F w hM.1 rfl dX7_rule_112 ?_
    refine lv_fold (y := G 23 0) (congrFun (e_g_X7_rule_2 G x1 x2 x3 x4 x5 (by decide)) 0) ?_
    refine lv_fold (y := nI (gnR G)) (hI.r.1) ?_
    refine lv_iload_n F.1 F.2.1 dX7_rule_115 rfl (lv_at hl 3 rfl) ?_
    refine m_ist F w hM 25 (by decide) rfl rfl (gnR G) (show gnR G < 20 by omega) (by decide) dX7_rule_116 (fun H locs μ w hM => ?_)
    have hM : RepM cy m0 ad (g_X7_rule_3 G x1 x2 x3 x4 x5) μ := hM
    refine lv_aload_n F.1 F.2.1 dX7_rule_117 rfl (lv_at hl 1 rfl) ?_
    refine gf_X7_77 F w hM.1 rfl dX7_rule_118 ?_
    refine lv_aload_n F.1 F.2.1 dX7_rule_121 rfl (lv_at hl 1 rfl) ?_
    refine gf_X7_156 F w hM.1 rfl dX7_rule_122 ?_
    refine lv_fold (y := G 23 0) (congrFun (e_g_X7_rule_3 G x1 x2 x3 x4 x5 (by decide)) 0) ?_
    refine lv_fold (y := nI (gnR G)) (hI.r.1) ?_
    refine lv_iload_n F.1 F.2.1 dX7_rule_125 rfl (lv_at hl 4 rfl) ?_
    refine m_ist F w hM 26 (by decide) rfl rfl (gnR G) (show gnR G < 20 by omega) (by decide) dX7_rule_126 (fun H locs μ w hM => ?_)
    have hM : RepM cy m0 ad (g_X7_rule_4 G x1 x2 x3 x4 x5) μ := hM
    refine lv_aload_n F.1 F.2.1 dX7_rule_127 rfl (lv_at hl 1 rfl) ?_
    refine gf_X7_80 F w hM.1 rfl dX7_rule_128 ?_
    refine lv_aload_n F.1 F.2.1 dX7_rule_131 rfl (lv_at hl 1 rfl) ?_
    refine gf_X7_156 F w hM.1 rfl dX7_rule_132 ?_
    refine lv_fold (y := G 23 0) (congrFun (e_g_X7_rule_4 G x1 x2 x3 x4 x5 (by decide)) 0) ?_
    refine lv_fold (y := nI (gnR G)) (hI.r.1) ?_
    refine lv_iload F.1 F.2.1 dX7_rule_135 (lv_at hl 5 rfl) ?_
    refine m_ist F w hM 27 (by decide) rfl rfl (gnR G) (show gnR G < 20 by omega) (by decide) dX7_rule_137 (fun H locs μ w hM => ?_)
    have hM : RepM cy m0 ad (g_X7_rule_5 G x1 x2 x3 x4 x5) μ := hM
    refine lv_aload_n F.1 F.2.1 dX7_rule_138 rfl (lv_at hl 1 rfl) ?_
    refine gf_X7_83 F w hM.1 rfl dX7_rule_139 ?_
    refine lv_aload_n F.1 F.2.1 dX7_rule_142 rfl (lv_at hl 1 rfl) ?_
    refine gf_X7_156 F w hM.1 rfl dX7_rule_143 ?_
    refine lv_fold (y := G 23 0) (congrFun (e_g_X7_rule_5 G x1 x2 x3 x4 x5 (by decide)) 0) ?_
    refine lv_fold (y := nI (gnR G)) (hI.r.1) ?_
    refine lv_iload F.1 F.2.1 dX7_rule_146 (lv_at hl 6 rfl) ?_
    refine m_ist F w hM 28 (by decide) rfl rfl (gnR G) (show gnR G < 20 by omega) (by decide) dX7_rule_148 (fun H locs μ w hM => ?_)
    have hM : RepM cy m0 ad (g_X7_rule_6 G x1 x2 x3 x4 x5) μ := hM
    refine lv_aload_n F.1 F.2.1 dX7_rule_149 rfl (lv_at hl 1 rfl) ?_
    refine lv_dup F.1 F.2.1 dX7_rule_150 rfl ?_
    refine gf_X7_156 F w hM.1 rfl dX7_rule_151 ?_
    refine lv_fold (y := G 23 0) (congrFun (e_g_X7_rule_6 G x1 x2 x3 x4 x5 (by decide)) 0) ?_
    refine lv_fold (y := nI (gnR G)) (hI.r.1) ?_
    refine lv_iconst (v := 1) F.1 F.2.1 dX7_rule_154 (by decide) ?_
    refine lv_iadd F.1 F.2.1 dX7_rule_155 ?_
    refine mp_156 F w hM dX7_rule_156 (fun H locs μ w hM => ?_)
    have hM : RepM cy m0 ad (g_X7_rule_7 G x1 x2 x3 x4 x5) μ := hM
    refine lv_aload_n F.1 F.2.1 dX7_rule_159 rfl (lv_at hl 1 rfl) ?_
    refine gf_X7_156 F w hM.1 rfl dX7_rule_160 ?_
    refine lv_fold (y := (nI (gnR G)) + 1) ((congrFun (up2_eq _ _ _ _) _).trans pk_us) ?_
    refine lv_iconst (v := 1) F.1 F.2.1 dX7_rule_163 (by decide) ?_
    refine lv_isub F.1 F.2.1 dX7_rule_164 ?_
    exact q_retI (S := Unit) F hr hlk w ⟨(if_pos c_10).symm, RepM.cg hM (if_pos c_10)⟩ dX7_rule_165
  · refine lv_iconst (v := 0) F.1 F.2.1 dX7_rule_95 (by decide) ?_
    exact q_retI (S := Unit) F hr hlk w ⟨(if_neg c_10).symm, RepM.cg hM (if_neg c_10)⟩ dX7_rule_96
def v_X7_rule_b_59 (G : GS) (x1 : Int32) (x2 : Int32) (x3 : Int32) (x4 : Int32) (x5 : Int32) : Int32 := if f_X7_in x1 0 9 = 0 then 0 else (if f_X7_in x2 0 200000 = 0 then 0 else (if f_X7_in x3 1 7 = 0 then 0 else (if f_X7_in x4 0 9000 = 0 then 0 else (if f_X7_in x5 0 3000 = 0 then 0 else 1))))
theorem nz_v_X7_rule_b_59 (G : GS) (x1 : Int32) (x2 : Int32) (x3 : Int32) (x4 : Int32) (x5 : Int32) : nz (v_X7_rule_b_59 G x1 x2 x3 x4 x5) := (nz_ite nz0 (nz_ite nz0 (nz_ite nz0 (nz_ite nz0 (nz_ite nz0 nz1)))))
def g_X7_rule_b_1 (G : GS) (x1 : Int32) (x2 : Int32) (x3 : Int32) (x4 : Int32) (x5 : Int32) : GS := up2 G 0 0 (if v_X7_rule_b_59 G x1 x2 x3 x4 x5 = 0 then 1 else 2)
theorem e_g_X7_rule_b_1 (G : GS) (x1 : Int32) (x2 : Int32) (x3 : Int32) (x4 : Int32) (x5 : Int32) {j : Nat} (h : j ∉ [0]) : g_X7_rule_b_1 G x1 x2 x3 x4 x5 j = G j := (up2_ne (fun q => h (by rw [q]; exact List.mem_cons_self))).trans rfl
def f_X7_rule_b (G : GS) (x1 : Int32) (x2 : Int32) (x3 : Int32) (x4 : Int32) (x5 : Int32) : Int32 := 0
def g_X7_rule_b (G : GS) (x1 : Int32) (x2 : Int32) (x3 : Int32) (x4 : Int32) (x5 : Int32) : GS := g_X7_rule_b_1 G x1 x2 x3 x4 x5
set_option maxHeartbeats 4000000 in
set_option maxRecDepth 100000 in
theorem c_X7_rule_b (l : Launch) (D : va_G) (cy : Nat → ClassId) (A : Nat → Prop) (μ : MU) (m0 : Nat) (ad : Nat → Nat) (G : GS) (hM : RepM cy m0 ad G μ) (x1 : Int32) (x2 : Int32) (x3 : Int32) (x4 : Int32) (x5 : Int32) (hb : G 23 0 = 20) : Met l yX7_rule (WS yX7_rule cX7_rule 7 (Option.some Jvm.ClassFile.FieldType.int)) { frames := 1, cells := 0, slots := 0, locals := 22 } (va_Pc [.ref m0, .int x1, .int x2, .int x3, .int x4, .int x5] (Wd D cy A μ)) (va_Qi (fun (r9 : Int32) (μ1 : MU) => r9 = f_X7_rule_b G x1 x2 x3 x4 x5 ∧ RepM cy m0 ad (g_X7_rule_b G x1 x2 x3 x4 x5) μ1) (fun μ1 t => Wd D cy A μ1 t) A) 0 0 A := by
  refine q_met (by decide) (Nat.le_of_ble_eq_true rfl) ?_
  intro p e s m below meth c F w hr hlk hnm ls hl
  have F : CallFix p m c cX7_rule 7 s _ BIG RX7 := F
  have hl : lv_has ls 7 [(0, .ref m0), (1, .int x1), (2, .int x2), (3, .int x3), (4, .int x4), (5, .int x5)] := hl
  refine lv_iload_n F.1 F.2.1 dX7_rule_0 rfl (lv_at hl 1 rfl) ?_
  refine lv_iconst (v := 0) F.1 F.2.1 dX7_rule_1 (by decide) ?_
  refine lv_bipush (v := 9) F.1 F.2.1 dX7_rule_2 (by decide) ?_
  refine q_rS (rest := []) F w kS_X7_135 hd_X7_in (c_X7_in l D cy A _ x1 0 9) dX7_rule_4 rfl rfl hl.1 ⟨rfl, rfl, Nat.le_of_ble_eq_true rfl, Nat.le_of_ble_eq_true rfl⟩ (Nat.le_of_ble_eq_true rfl) ⟨Nat.zero_le _, Nat.zero_le _⟩ ?_
  refine jn0 (m := m) (ls := ls) (rest := []) (if f_X7_in x1 0 9 = 0 then 0 else (if f_X7_in x2 0 200000 = 0 then 0 else (if f_X7_in x3 1 7 = 0 then 0 else (if f_X7_in x4 0 9000 = 0 then 0 else (if f_X7_in x5 0 3000 = 0 then 0 else 1))))) 59 (fun J_1 => ?_) ?_
  · refine lv_if_eq (tgt := 58) F.1 F.2.1 dX7_rule_7 (by decide) (fun c_2 => ?_) (fun c_2 => ?_)
    · refine lv_iconst (v := 0) F.1 F.2.1 dX7_rule_58 (by decide) ?_
      exact jn_a (if_pos c_2) J_1
    · refine lv_iload_n F.1 F.2.1 dX7_rule_10 rfl (lv_at hl 2 rfl) ?_
      refine lv_iconst (v := 0) F.1 F.2.1 dX7_rule_11 (by decide) ?_
      refine lv_ldc F.1 F.2.1 F.2.2.2.1 (F.2.2.2.2 _ wK_X7_145) dX7_rule_12 ?_
      refine q_rS (rest := []) F w kS_X7_135 hd_X7_in (c_X7_in l D cy A _ x2 0 200000) dX7_rule_14 rfl rfl hl.1 ⟨rfl, rfl, Nat.le_of_ble_eq_true rfl, Nat.le_of_ble_eq_true rfl⟩ (Nat.le_of_ble_eq_true rfl) ⟨Nat.zero_le _, Nat.zero_le _⟩ ?_
      refine lv_if_eq (tgt := 58) F.1 F.2.1 dX7_rule_17 (by decide) (fun c_3 => ?_) (fun c_3 => ?_)
      · refine lv_iconst (v := 0) F.1 F.2.1 dX7_rule_58 (by decide) ?_
        exact jn_a ((if_neg c_2).trans (if_pos c_3)) J_1
      · refine lv_iload_n F.1 F.2.1 dX7_rule_20 rfl (lv_at hl 3 rfl) ?_
        refine lv_iconst (v := 1) F.1 F.2.1 dX7_rule_21 (by decide) ?_
        refine lv_bipush (v := 7) F.1 F.2.1 dX7_rule_22 (by decide) ?_
        refine q_rS (rest := []) F w kS_X7_135 hd_X7_in (c_X7_in l D cy A _ x3 1 7) dX7_rule_24 rfl rfl hl.1 ⟨rfl, rfl, Nat.le_of_ble_eq_true rfl, Nat.le_of_ble_eq_true rfl⟩ (Nat.le_of_ble_eq_true rfl) ⟨Nat.zero_le _, Nat.zero_le _⟩ ?_
        refine lv_if_eq (tgt := 58) F.1 F.2.1 dX7_rule_27 (by decide) (fun c_4 => ?_) (fun c_4 => ?_)
        · refine lv_iconst (v := 0) F.1 F.2.1 dX7_rule_58 (by decide) ?_
          exact jn_a ((if_neg c_2).trans ((if_neg c_3).trans (if_pos c_4))) J_1
        · refine lv_iload F.1 F.2.1 dX7_rule_30 (lv_at hl 4 rfl) ?_
          refine lv_iconst (v := 0) F.1 F.2.1 dX7_rule_32 (by decide) ?_
          refine lv_sipush (v := 9000) F.1 F.2.1 dX7_rule_33 (by decide) ?_
          refine q_rS (rest := []) F w kS_X7_135 hd_X7_in (c_X7_in l D cy A _ x4 0 9000) dX7_rule_36 rfl rfl hl.1 ⟨rfl, rfl, Nat.le_of_ble_eq_true rfl, Nat.le_of_ble_eq_true rfl⟩ (Nat.le_of_ble_eq_true rfl) ⟨Nat.zero_le _, Nat.zero_le _⟩ ?_
          refine lv_if_eq (tgt := 58) F.1 F.2.1 dX7_rule_39 (by decide) (fun c_5 => ?_) (fun c_5 => ?_)
          · refine lv_iconst (v := 0) F.1 F.2.1 dX7_rule_58 (by decide) ?_
            exact jn_a ((if_neg c_2).trans ((if_neg c_3).trans ((if_neg c_4).trans (if_pos c_5)))) J_1
          · refine lv_iload F.1 F.2.1 dX7_rule_42 (lv_at hl 5 rfl) ?_
            refine lv_iconst (v := 0) F.1 F.2.1 dX7_rule_44 (by decide) ?_
            refine lv_sipush (v := 3000) F.1 F.2.1 dX7_rule_45 (by decide) ?_
            refine q_rS (rest := []) F w kS_X7_135 hd_X7_in (c_X7_in l D cy A _ x5 0 3000) dX7_rule_48 rfl rfl hl.1 ⟨rfl, rfl, Nat.le_of_ble_eq_true rfl, Nat.le_of_ble_eq_true rfl⟩ (Nat.le_of_ble_eq_true rfl) ⟨Nat.zero_le _, Nat.zero_le _⟩ ?_
            refine lv_if_eq (tgt := 58) F.1 F.2.1 dX7_rule_51 (by decide) (fun c_6 => ?_) (fun c_6 => ?_)
            · refine lv_iconst (v := 0) F.1 F.2.1 dX7_rule_58 (by decide) ?_
              exact jn_a ((if_neg c_2).trans ((if_neg c_3).trans ((if_neg c_4).trans ((if_neg c_5).trans (if_pos c_6))))) J_1
            · refine lv_iconst (v := 1) F.1 F.2.1 dX7_rule_54 (by decide) ?_
              refine lv_goto (tgt := 59) F.1 F.2.1 dX7_rule_55 (by decide) ?_
              exact jn_a ((if_neg c_2).trans ((if_neg c_3).trans ((if_neg c_4).trans ((if_neg c_5).trans (if_neg c_6))))) J_1
  refine lv_fold (y := v_X7_rule_b_59 G x1 x2 x3 x4 x5) rfl ?_
  refine lv_istore (lv' := [(6, .int (v_X7_rule_b_59 G x1 x2 x3 x4 x5)), (0, .ref m0), (1, .int x1), (2, .int x2), (3, .int x3), (4, .int x4), (5, .int x5)]) F.1 F.2.1 dX7_rule_59 hl (by decide) rfl (fun ls hl => ?_)
  refine lv_aload_n F.1 F.2.1 dX7_rule_61 rfl (lv_at hl 1 rfl) ?_
  refine lv_iload F.1 F.2.1 dX7_rule_62 (lv_at hl 0 rfl) ?_
  refine jn0 (m := m) (ls := ls) (rest := [.ref m0]) (if v_X7_rule_b_59 G x1 x2 x3 x4 x5 = 0 then 1 else 2) 85 (fun J_7 => ?_) ?_
  · refine lv_if_ne (tgt := 71) F.1 F.2.1 dX7_rule_64 (by decide) (fun c_8 => ?_) (fun c_8 => ?_)
    · refine lv_aload_n F.1 F.2.1 dX7_rule_71 rfl (lv_at hl 1 rfl) ?_
      refine gf_X7_156 F w hM.1 rfl dX7_rule_72 ?_
      refine lv_bipush (v := 20) F.1 F.2.1 dX7_rule_75 (by decide) ?_
      refine lv_icmp_ne (tgt := 84) F.1 F.2.1 dX7_rule_77 (by decide) (fun c_9 => absurd hb c_9) (fun c_9 => ?_)
      refine lv_iconst (v := 2) F.1 F.2.1 dX7_rule_80 (by decide) ?_
      refine lv_goto (tgt := 85) F.1 F.2.1 dX7_rule_81 (by decide) ?_
      exact jn_a (if_neg c_8) J_7
    · refine lv_iconst (v := 1) F.1 F.2.1 dX7_rule_67 (by decide) ?_
      refine lv_goto (tgt := 85) F.1 F.2.1 dX7_rule_68 (by decide) ?_
      exact jn_a (if_pos c_8) J_7
  refine mp_128 F w hM dX7_rule_85 (fun H locs μ w hM => ?_)
  have hM : RepM cy m0 ad (g_X7_rule_b_1 G x1 x2 x3 x4 x5) μ := hM
  refine lv_aload_n F.1 F.2.1 dX7_rule_88 rfl (lv_at hl 1 rfl) ?_
  refine gf_X7_128 F w hM.1 rfl dX7_rule_89 ?_
  refine lv_fold (y := if v_X7_rule_b_59 G x1 x2 x3 x4 x5 = 0 then 1 else 2) ((congrFun (up2_eq _ _ _ _) _).trans pk_us) ?_
  refine lv_if_le (tgt := 97) F.1 F.2.1 dX7_rule_92 (by decide) (fun c_10 => absurd c_10 (by (repeat' split) <;> decide)) (fun c_10 => ?_)
  refine lv_iconst (v := 0) F.1 F.2.1 dX7_rule_95 (by decide) ?_
  exact q_retI (S := Unit) F hr hlk w ⟨rfl, RepM.cg hM rfl⟩ dX7_rule_96
def g_X7_issue_1 (G : GS) (i1 : Nat) (i2 : Nat) (x3 : Int32) : GS := up2 G 0 0 (if f_X7_isShip G (nI i1) = 0 then 1 else (if f_X7_in (nI i2) 0 4 = 0 then 2 else (if f_X7_in x3 1 1825 = 0 then 2 else 0)))
theorem e_g_X7_issue_1 (G : GS) (i1 : Nat) (i2 : Nat) (x3 : Int32) {j : Nat} (h : j ∉ [0]) : g_X7_issue_1 G i1 i2 x3 j = G j := (up2_ne (fun q => h (by rw [q]; exact List.mem_cons_self))).trans rfl
def g_X7_issue_2 (G : GS) (i1 : Nat) (i2 : Nat) (x3 : Int32) : GS := up2 (g_X7_issue_1 G i1 i2 x3) 0 0 (if G 2 (G 8 i1).toNatClampNeg = 0 then (if f_X7_hangsOnLapsed (g_X7_issue_1 G i1 i2 x3) i1 i2 = 0 then 0 else 3) else 3)
theorem e_g_X7_issue_2 (G : GS) (i1 : Nat) (i2 : Nat) (x3 : Int32) {j : Nat} (h : j ∉ [0, 0]) : g_X7_issue_2 G i1 i2 x3 j = G j := (up2_ne (fun q => h (by rw [q]; exact List.mem_cons_self))).trans (e_g_X7_issue_1 G i1 i2 x3 (fun q => h (List.mem_cons_of_mem _ q)))
def g_X7_issue_3 (G : GS) (i1 : Nat) (i2 : Nat) (x3 : Int32) : GS := up2 (g_X7_issue_2 G i1 i2 x3) 18 (5 * i1 + i2) 1
theorem e_g_X7_issue_3 (G : GS) (i1 : Nat) (i2 : Nat) (x3 : Int32) {j : Nat} (h : j ∉ [18, 0, 0]) : g_X7_issue_3 G i1 i2 x3 j = G j := (up2_ne (fun q => h (by rw [q]; exact List.mem_cons_self))).trans (e_g_X7_issue_2 G i1 i2 x3 (fun q => h (List.mem_cons_of_mem _ q)))
def g_X7_issue_4 (G : GS) (i1 : Nat) (i2 : Nat) (x3 : Int32) : GS := up2 (g_X7_issue_3 G i1 i2 x3) 19 (5 * i1 + i2) (G 1 0)
theorem e_g_X7_issue_4 (G : GS) (i1 : Nat) (i2 : Nat) (x3 : Int32) {j : Nat} (h : j ∉ [19, 18, 0, 0]) : g_X7_issue_4 G i1 i2 x3 j = G j := (up2_ne (fun q => h (by rw [q]; exact List.mem_cons_self))).trans (e_g_X7_issue_3 G i1 i2 x3 (fun q => h (List.mem_cons_of_mem _ q)))
def g_X7_issue_5 (G : GS) (i1 : Nat) (i2 : Nat) (x3 : Int32) : GS := up2 (g_X7_issue_4 G i1 i2 x3) 20 (5 * i1 + i2) x3
theorem e_g_X7_issue_5 (G : GS) (i1 : Nat) (i2 : Nat) (x3 : Int32) {j : Nat} (h : j ∉ [20, 19, 18, 0, 0]) : g_X7_issue_5 G i1 i2 x3 j = G j := (up2_ne (fun q => h (by rw [q]; exact List.mem_cons_self))).trans (e_g_X7_issue_4 G i1 i2 x3 (fun q => h (List.mem_cons_of_mem _ q)))
def g_X7_issue_6 (G : GS) (i1 : Nat) (i2 : Nat) (x3 : Int32) : GS := up2 (g_X7_issue_5 G i1 i2 x3) 21 (5 * i1 + i2) (G 8 i1)
theorem e_g_X7_issue_6 (G : GS) (i1 : Nat) (i2 : Nat) (x3 : Int32) {j : Nat} (h : j ∉ [21, 20, 19, 18, 0, 0]) : g_X7_issue_6 G i1 i2 x3 j = G j := (up2_ne (fun q => h (by rw [q]; exact List.mem_cons_self))).trans (e_g_X7_issue_5 G i1 i2 x3 (fun q => h (List.mem_cons_of_mem _ q)))
def g_X7_issue_7 (G : GS) (i1 : Nat) (i2 : Nat) (x3 : Int32) : GS := up2 (g_X7_issue_6 G i1 i2 x3) 22 (5 * i1 + i2) 0
theorem e_g_X7_issue_7 (G : GS) (i1 : Nat) (i2 : Nat) (x3 : Int32) {j : Nat} (h : j ∉ [22, 21, 20, 19, 18, 0, 0]) : g_X7_issue_7 G i1 i2 x3 j = G j := (up2_ne (fun q => h (by rw [q]; exact List.mem_cons_self))).trans (e_g_X7_issue_6 G i1 i2 x3 (fun q => h (List.mem_cons_of_mem _ q)))
def f_X7_issue (G : GS) (i1 : Nat) (i2 : Nat) (x3 : Int32) : Int32 := if (if f_X7_isShip G (nI i1) = 0 then 1 else (if f_X7_in (nI i2) 0 4 = 0 then 2 else (if f_X7_in x3 1 1825 = 0 then 2 else 0)) : Int32) = 0 then (if (if G 2 (G 8 i1).toNatClampNeg = 0 then (if f_X7_hangsOnLapsed (g_X7_issue_1 G i1 i2 x3) i1 i2 = 0 then 0 else 3) else 3 : Int32) ≤ 0 then (G 1 0) + x3 else 0) else 0
def g_X7_issue (G : GS) (i1 : Nat) (i2 : Nat) (x3 : Int32) : GS := if (if f_X7_isShip G (nI i1) = 0 then 1 else (if f_X7_in (nI i2) 0 4 = 0 then 2 else (if f_X7_in x3 1 1825 = 0 then 2 else 0)) : Int32) = 0 then (if (if G 2 (G 8 i1).toNatClampNeg = 0 then (if f_X7_hangsOnLapsed (g_X7_issue_1 G i1 i2 x3) i1 i2 = 0 then 0 else 3) else 3 : Int32) ≤ 0 then g_X7_issue_7 G i1 i2 x3 else g_X7_issue_2 G i1 i2 x3) else g_X7_issue_1 G i1 i2 x3
set_option maxHeartbeats 4000000 in
set_option maxRecDepth 100000 in
theorem c_X7_issue (l : Launch) (D : va_G) (cy : Nat → ClassId) (A : Nat → Prop) (μ : MU) (m0 : Nat) (ad : Nat → Nat) (G : GS) (hM : RepM cy m0 ad G μ) (i1 : Nat) (i2 : Nat) (x3 : Int32) (hi1 : i1 < 12) (hi2 : i2 < 5) (hI : InvM G) : Met l yX7_issue (WS yX7_issue cX7_issue 5 (Option.some Jvm.ClassFile.FieldType.int)) { frames := 5, cells := 0, slots := 0, locals := 110 } (va_Pc [.ref m0, .int (nI i1), .int (nI i2), .int x3] (Wd D cy A μ)) (va_Qi (fun (r9 : Int32) (μ1 : MU) => r9 = f_X7_issue G i1 i2 x3 ∧ RepM cy m0 ad (g_X7_issue G i1 i2 x3) μ1) (fun μ1 t => Wd D cy A μ1 t) A) 0 0 A := by
  refine q_met (by decide) (Nat.le_of_ble_eq_true rfl) ?_
  intro p e s m below meth c F w hr hlk hnm ls hl
  have F : CallFix p m c cX7_issue 5 s _ BIG RX7 := F
  have hl : lv_has ls 5 [(0, .ref m0), (1, .int (nI i1)), (2, .int (nI i2)), (3, .int x3)] := hl
  refine lv_aload_n F.1 F.2.1 dX7_issue_0 rfl (lv_at hl 0 rfl) ?_
  refine lv_aload_n F.1 F.2.1 dX7_issue_1 rfl (lv_at hl 0 rfl) ?_
  refine lv_iload_n F.1 F.2.1 dX7_issue_2 rfl (lv_at hl 1 rfl) ?_
  refine q_rV (rest := [.ref m0]) F w kV_X7_153 hd_X7_isShip (ci := 8) rfl (c_X7_isShip l D cy A _ m0 ad G hM (nI i1)) hM.1 dX7_issue_3 rfl rfl hl.1 ⟨rfl, rfl, Nat.le_of_ble_eq_true rfl, Nat.le_of_ble_eq_true rfl⟩ (Nat.le_of_ble_eq_true rfl) ⟨Nat.zero_le _, Nat.zero_le _⟩ ?_
  refine jn0 (m := m) (ls := ls) (rest := [.ref m0]) (if f_X7_isShip G (nI i1) = 0 then 1 else (if f_X7_in (nI i2) 0 4 = 0 then 2 else (if f_X7_in x3 1 1825 = 0 then 2 else 0))) 38 (fun J_1 => ?_) ?_
  · refine lv_if_ne (tgt := 13) F.1 F.2.1 dX7_issue_6 (by decide) (fun c_2 => ?_) (fun c_2 => ?_)
    · refine lv_iload_n F.1 F.2.1 dX7_issue_13 rfl (lv_at hl 2 rfl) ?_
      refine lv_iconst (v := 0) F.1 F.2.1 dX7_issue_14 (by decide) ?_
      refine lv_iconst (v := 4) F.1 F.2.1 dX7_issue_15 (by decide) ?_
      refine q_rS (rest := [.ref m0]) F w kS_X7_135 hd_X7_in (c_X7_in l D cy A _ (nI i2) 0 4) dX7_issue_16 rfl rfl hl.1 ⟨rfl, rfl, Nat.le_of_ble_eq_true rfl, Nat.le_of_ble_eq_true rfl⟩ (Nat.le_of_ble_eq_true rfl) ⟨Nat.zero_le _, Nat.zero_le _⟩ ?_
      refine lv_if_eq (tgt := 37) F.1 F.2.1 dX7_issue_19 (by decide) (fun c_3 => ?_) (fun c_3 => ?_)
      · refine lv_iconst (v := 2) F.1 F.2.1 dX7_issue_37 (by decide) ?_
        exact jn_a ((if_neg c_2).trans (if_pos c_3)) J_1
      · refine lv_iload_n F.1 F.2.1 dX7_issue_22 rfl (lv_at hl 3 rfl) ?_
        refine lv_iconst (v := 1) F.1 F.2.1 dX7_issue_23 (by decide) ?_
        refine lv_sipush (v := 1825) F.1 F.2.1 dX7_issue_24 (by decide) ?_
        refine q_rS (rest := [.ref m0]) F w kS_X7_135 hd_X7_in (c_X7_in l D cy A _ x3 1 1825) dX7_issue_27 rfl rfl hl.1 ⟨rfl, rfl, Nat.le_of_ble_eq_true rfl, Nat.le_of_ble_eq_true rfl⟩ (Nat.le_of_ble_eq_true rfl) ⟨Nat.zero_le _, Nat.zero_le _⟩ ?_
        refine lv_if_eq (tgt := 37) F.1 F.2.1 dX7_issue_30 (by decide) (fun c_4 => ?_) (fun c_4 => ?_)
        · refine lv_iconst (v := 2) F.1 F.2.1 dX7_issue_37 (by decide) ?_
          exact jn_a ((if_neg c_2).trans ((if_neg c_3).trans (if_pos c_4))) J_1
        · refine lv_iconst (v := 0) F.1 F.2.1 dX7_issue_33 (by decide) ?_
          refine lv_goto (tgt := 38) F.1 F.2.1 dX7_issue_34 (by decide) ?_
          exact jn_a ((if_neg c_2).trans ((if_neg c_3).trans (if_neg c_4))) J_1
    · refine lv_iconst (v := 1) F.1 F.2.1 dX7_issue_9 (by decide) ?_
      refine lv_goto (tgt := 38) F.1 F.2.1 dX7_issue_10 (by decide) ?_
      exact jn_a (if_pos c_2) J_1
  refine mp_128 F w hM dX7_issue_38 (fun H locs μ w hM => ?_)
  have hM : RepM cy m0 ad (g_X7_issue_1 G i1 i2 x3) μ := hM
  refine lv_aload_n F.1 F.2.1 dX7_issue_41 rfl (lv_at hl 0 rfl) ?_
  refine gf_X7_128 F w hM.1 rfl dX7_issue_42 ?_
  refine lv_fold (y := if f_X7_isShip G (nI i1) = 0 then 1 else (if f_X7_in (nI i2) 0 4 = 0 then 2 else (if f_X7_in x3 1 1825 = 0 then 2 else 0))) ((congrFun (up2_eq _ _ _ _) _).trans pk_us) ?_
  refine lv_if_ne (tgt := 80) F.1 F.2.1 dX7_issue_45 (by decide) (fun c_5 => ?_) (fun c_5 => ?_)
  · refine lv_aload_n F.1 F.2.1 dX7_issue_80 rfl (lv_at hl 0 rfl) ?_
    refine gf_X7_128 F w hM.1 rfl dX7_issue_81 ?_
    refine lv_fold (y := if f_X7_isShip G (nI i1) = 0 then 1 else (if f_X7_in (nI i2) 0 4 = 0 then 2 else (if f_X7_in x3 1 1825 = 0 then 2 else 0))) ((congrFun (up2_eq _ _ _ _) _).trans pk_us) ?_
    refine lv_if_le (tgt := 89) F.1 F.2.1 dX7_issue_84 (by decide) (fun c_6 => absurd c_6 (fun h9 => c_5 (by revert h9; (repeat' split) <;> decide))) (fun c_6 => ?_)
    refine lv_iconst (v := 0) F.1 F.2.1 dX7_issue_87 (by decide) ?_
    exact q_retI (S := Unit) F hr hlk w ⟨(if_neg c_5).symm, RepM.cg hM (if_neg c_5)⟩ dX7_issue_88
  · refine lv_aload_n F.1 F.2.1 dX7_issue_48 rfl (lv_at hl 0 rfl) ?_
    refine lv_aload_n F.1 F.2.1 dX7_issue_49 rfl (lv_at hl 0 rfl) ?_
    refine gf_X7_7 F w hM.1 rfl dX7_issue_50 ?_
    refine lv_aload_n F.1 F.2.1 dX7_issue_53 rfl (lv_at hl 0 rfl) ?_
    refine gf_X7_26 F w hM.1 rfl dX7_issue_54 ?_
    refine lv_iload_n F.1 F.2.1 dX7_issue_57 rfl (lv_at hl 1 rfl) ?_
    refine m_ild F w hM 8 (by decide) rfl rfl i1 (show i1 < 12 by omega) (by decide) dX7_issue_58 ?_
    refine lv_fold (y := G 8 i1) (congrFun (e_g_X7_issue_1 G i1 i2 x3 (by decide)) i1) ?_
    refine q_zald F w (hM.2.1 2 (by decide) rfl) (hI.bo hi1) dX7_issue_59 ?_
    refine lv_fold (y := G 2 (G 8 i1).toNatClampNeg) rfl ?_
    refine jn0 (m := m) (ls := ls) (rest := [.ref m0]) (if G 2 (G 8 i1).toNatClampNeg = 0 then (if f_X7_hangsOnLapsed (g_X7_issue_1 G i1 i2 x3) i1 i2 = 0 then 0 else 3) else 3) 77 (fun J_7 => ?_) ?_
    · refine lv_if_ne (tgt := 72) F.1 F.2.1 dX7_issue_60 (by decide) (fun c_8 => ?_) (fun c_8 => ?_)
      · refine lv_iconst (v := 3) F.1 F.2.1 dX7_issue_72 (by decide) ?_
        refine lv_goto (tgt := 77) F.1 F.2.1 dX7_issue_73 (by decide) ?_
        exact jn_a (if_neg c_8) J_7
      · refine lv_aload_n F.1 F.2.1 dX7_issue_63 rfl (lv_at hl 0 rfl) ?_
        refine lv_iload_n F.1 F.2.1 dX7_issue_64 rfl (lv_at hl 1 rfl) ?_
        refine lv_iload_n F.1 F.2.1 dX7_issue_65 rfl (lv_at hl 2 rfl) ?_
        refine q_rV (rest := [.ref m0]) F w kV_X7_179 hd_X7_hangsOnLapsed (ci := 8) rfl (c_X7_hangsOnLapsed l D cy A _ m0 ad (g_X7_issue_1 G i1 i2 x3) hM i1 i2 (show i1 < 12 by omega) (show i2 < 5 by omega) (InvM.fr hI 0 0 (if f_X7_isShip G (nI i1) = 0 then 1 else (if f_X7_in (nI i2) 0 4 = 0 then 2 else (if f_X7_in x3 1 1825 = 0 then 2 else 0))) rfl)) hM.1 dX7_issue_66 rfl rfl hl.1 ⟨rfl, rfl, Nat.le_of_ble_eq_true rfl, Nat.le_of_ble_eq_true rfl⟩ (Nat.le_of_ble_eq_true rfl) ⟨Nat.zero_le _, Nat.zero_le _⟩ ?_
        refine lv_if_eq (tgt := 76) F.1 F.2.1 dX7_issue_69 (by decide) (fun c_9 => ?_) (fun c_9 => ?_)
        · refine lv_iconst (v := 0) F.1 F.2.1 dX7_issue_76 (by decide) ?_
          exact jn_a ((if_pos c_8).trans (if_pos c_9)) J_7
        · refine lv_iconst (v := 3) F.1 F.2.1 dX7_issue_72 (by decide) ?_
          refine lv_goto (tgt := 77) F.1 F.2.1 dX7_issue_73 (by decide) ?_
          exact jn_a ((if_pos c_8).trans (if_neg c_9)) J_7
    refine mp_128 F w hM dX7_issue_77 (fun H locs μ w hM => ?_)
    have hM : RepM cy m0 ad (g_X7_issue_2 G i1 i2 x3) μ := hM
    refine lv_aload_n F.1 F.2.1 dX7_issue_80 rfl (lv_at hl 0 rfl) ?_
    refine gf_X7_128 F w hM.1 rfl dX7_issue_81 ?_
    refine lv_fold (y := if G 2 (G 8 i1).toNatClampNeg = 0 then (if f_X7_hangsOnLapsed (g_X7_issue_1 G i1 i2 x3) i1 i2 = 0 then 0 else 3) else 3) ((congrFun (up2_eq _ _ _ _) _).trans pk_us) ?_
    refine lv_if_le (tgt := 89) F.1 F.2.1 dX7_issue_84 (by decide) (fun c_10 => ?_) (fun c_10 => ?_)
    · refine lv_iload_n F.1 F.2.1 dX7_issue_89 rfl (lv_at hl 1 rfl) ?_
      refine lv_iload_n F.1 F.2.1 dX7_issue_90 rfl (lv_at hl 2 rfl) ?_
      refine q_rS (rest := []) F w kS_X7_169 hd_X7_at (c_X7_at l D cy A _ i1 i2) dX7_issue_91 rfl rfl hl.1 ⟨rfl, rfl, Nat.le_of_ble_eq_true rfl, Nat.le_of_ble_eq_true rfl⟩ (Nat.le_of_ble_eq_true rfl) ⟨Nat.zero_le _, Nat.zero_le _⟩ ?_
      refine lv_fold (y := nI (5 * i1 + i2)) rfl ?_
      refine lv_istore (lv' := [(4, .int (nI (5 * i1 + i2))), (0, .ref m0), (1, .int (nI i1)), (2, .int (nI i2)), (3, .int x3)]) F.1 F.2.1 dX7_issue_94 hl (by decide) rfl (fun ls hl => ?_)
      refine lv_aload_n F.1 F.2.1 dX7_issue_96 rfl (lv_at hl 1 rfl) ?_
      refine gf_X7_56 F w hM.1 rfl dX7_issue_97 ?_
      refine lv_iload F.1 F.2.1 dX7_issue_100 (lv_at hl 0 rfl) ?_
      refine lv_iconst (v := 1) F.1 F.2.1 dX7_issue_102 (by decide) ?_
      refine m_zst F w hM 18 (by decide) rfl rfl (5 * i1 + i2) (show 5 * i1 + i2 < 60 by omega) (by decide) (Or.inr rfl) dX7_issue_103 (fun H locs μ w hM => ?_)
      have hM : RepM cy m0 ad (g_X7_issue_3 G i1 i2 x3) μ := hM
      refine lv_aload_n F.1 F.2.1 dX7_issue_104 rfl (lv_at hl 1 rfl) ?_
      refine gf_X7_59 F w hM.1 rfl dX7_issue_105 ?_
      refine lv_iload F.1 F.2.1 dX7_issue_108 (lv_at hl 0 rfl) ?_
      refine lv_aload_n F.1 F.2.1 dX7_issue_110 rfl (lv_at hl 1 rfl) ?_
      refine gf_X7_142 F w hM.1 rfl dX7_issue_111 ?_
      refine lv_fold (y := G 1 0) (congrFun (e_g_X7_issue_3 G i1 i2 x3 (by decide)) 0) ?_
      refine m_ist F w hM 19 (by decide) rfl rfl (5 * i1 + i2) (show 5 * i1 + i2 < 60 by omega) (by decide) dX7_issue_114 (fun H locs μ w hM => ?_)
      have hM : RepM cy m0 ad (g_X7_issue_4 G i1 i2 x3) μ := hM
      refine lv_aload_n F.1 F.2.1 dX7_issue_115 rfl (lv_at hl 1 rfl) ?_
      refine gf_X7_62 F w hM.1 rfl dX7_issue_116 ?_
      refine lv_iload F.1 F.2.1 dX7_issue_119 (lv_at hl 0 rfl) ?_
      refine lv_iload_n F.1 F.2.1 dX7_issue_121 rfl (lv_at hl 4 rfl) ?_
      refine m_ist F w hM 20 (by decide) rfl rfl (5 * i1 + i2) (show 5 * i1 + i2 < 60 by omega) (by decide) dX7_issue_122 (fun H locs μ w hM => ?_)
      have hM : RepM cy m0 ad (g_X7_issue_5 G i1 i2 x3) μ := hM
      refine lv_aload_n F.1 F.2.1 dX7_issue_123 rfl (lv_at hl 1 rfl) ?_
      refine gf_X7_65 F w hM.1 rfl dX7_issue_124 ?_
      refine lv_iload F.1 F.2.1 dX7_issue_127 (lv_at hl 0 rfl) ?_
      refine lv_aload_n F.1 F.2.1 dX7_issue_129 rfl (lv_at hl 1 rfl) ?_
      refine gf_X7_26 F w hM.1 rfl dX7_issue_130 ?_
      refine lv_iload_n F.1 F.2.1 dX7_issue_133 rfl (lv_at hl 2 rfl) ?_
      refine m_ild F w hM 8 (by decide) rfl rfl i1 (show i1 < 12 by omega) (by decide) dX7_issue_134 ?_
      refine lv_fold (y := G 8 i1) (congrFun (e_g_X7_issue_5 G i1 i2 x3 (by decide)) i1) ?_
      refine m_ist F w hM 21 (by decide) rfl rfl (5 * i1 + i2) (show 5 * i1 + i2 < 60 by omega) (by decide) dX7_issue_135 (fun H locs μ w hM => ?_)
      have hM : RepM cy m0 ad (g_X7_issue_6 G i1 i2 x3) μ := hM
      refine lv_aload_n F.1 F.2.1 dX7_issue_136 rfl (lv_at hl 1 rfl) ?_
      refine gf_X7_68 F w hM.1 rfl dX7_issue_137 ?_
      refine lv_iload F.1 F.2.1 dX7_issue_140 (lv_at hl 0 rfl) ?_
      refine lv_iconst (v := 0) F.1 F.2.1 dX7_issue_142 (by decide) ?_
      refine m_ist F w hM 22 (by decide) rfl rfl (5 * i1 + i2) (show 5 * i1 + i2 < 60 by omega) (by decide) dX7_issue_143 (fun H locs μ w hM => ?_)
      have hM : RepM cy m0 ad (g_X7_issue_7 G i1 i2 x3) μ := hM
      refine lv_aload_n F.1 F.2.1 dX7_issue_144 rfl (lv_at hl 1 rfl) ?_
      refine gf_X7_142 F w hM.1 rfl dX7_issue_145 ?_
      refine lv_fold (y := G 1 0) (congrFun (e_g_X7_issue_7 G i1 i2 x3 (by decide)) 0) ?_
      refine lv_iload_n F.1 F.2.1 dX7_issue_148 rfl (lv_at hl 4 rfl) ?_
      refine lv_iadd F.1 F.2.1 dX7_issue_149 ?_
      exact q_retI (S := Unit) F hr hlk w ⟨((if_pos c_5).trans (if_pos c_10)).symm, RepM.cg hM ((if_pos c_5).trans (if_pos c_10))⟩ dX7_issue_150
    · refine lv_iconst (v := 0) F.1 F.2.1 dX7_issue_87 (by decide) ?_
      exact q_retI (S := Unit) F hr hlk w ⟨((if_pos c_5).trans (if_neg c_10)).symm, RepM.cg hM ((if_pos c_5).trans (if_neg c_10))⟩ dX7_issue_88
def g_X7_issue_b_1 (G : GS) (x1 : Int32) (x2 : Int32) (x3 : Int32) : GS := up2 G 0 0 1
theorem e_g_X7_issue_b_1 (G : GS) (x1 : Int32) (x2 : Int32) (x3 : Int32) {j : Nat} (h : j ∉ [0]) : g_X7_issue_b_1 G x1 x2 x3 j = G j := (up2_ne (fun q => h (by rw [q]; exact List.mem_cons_self))).trans rfl
def f_X7_issue_b (G : GS) (x1 : Int32) (x2 : Int32) (x3 : Int32) : Int32 := 0
def g_X7_issue_b (G : GS) (x1 : Int32) (x2 : Int32) (x3 : Int32) : GS := g_X7_issue_b_1 G x1 x2 x3
set_option maxHeartbeats 4000000 in
set_option maxRecDepth 100000 in
theorem c_X7_issue_b (l : Launch) (D : va_G) (cy : Nat → ClassId) (A : Nat → Prop) (μ : MU) (m0 : Nat) (ad : Nat → Nat) (G : GS) (hM : RepM cy m0 ad G μ) (x1 : Int32) (x2 : Int32) (x3 : Int32) (hb : f_X7_isShip G x1 = 0) : Met l yX7_issue (WS yX7_issue cX7_issue 5 (Option.some Jvm.ClassFile.FieldType.int)) { frames := 2, cells := 0, slots := 0, locals := 43 } (va_Pc [.ref m0, .int x1, .int x2, .int x3] (Wd D cy A μ)) (va_Qi (fun (r9 : Int32) (μ1 : MU) => r9 = f_X7_issue_b G x1 x2 x3 ∧ RepM cy m0 ad (g_X7_issue_b G x1 x2 x3) μ1) (fun μ1 t => Wd D cy A μ1 t) A) 0 0 A := by
  refine q_met (by decide) (Nat.le_of_ble_eq_true rfl) ?_
  intro p e s m below meth c F w hr hlk hnm ls hl
  have F : CallFix p m c cX7_issue 5 s _ BIG RX7 := F
  have hl : lv_has ls 5 [(0, .ref m0), (1, .int x1), (2, .int x2), (3, .int x3)] := hl
  refine lv_aload_n F.1 F.2.1 dX7_issue_0 rfl (lv_at hl 0 rfl) ?_
  refine lv_aload_n F.1 F.2.1 dX7_issue_1 rfl (lv_at hl 0 rfl) ?_
  refine lv_iload_n F.1 F.2.1 dX7_issue_2 rfl (lv_at hl 1 rfl) ?_
  refine q_rV (rest := [.ref m0]) F w kV_X7_153 hd_X7_isShip (ci := 8) rfl (c_X7_isShip l D cy A _ m0 ad G hM x1) hM.1 dX7_issue_3 rfl rfl hl.1 ⟨rfl, rfl, Nat.le_of_ble_eq_true rfl, Nat.le_of_ble_eq_true rfl⟩ (Nat.le_of_ble_eq_true rfl) ⟨Nat.zero_le _, Nat.zero_le _⟩ ?_
  refine lv_if_ne (tgt := 13) F.1 F.2.1 dX7_issue_6 (by decide) (fun c_1 => absurd hb c_1) (fun c_1 => ?_)
  refine lv_iconst (v := 1) F.1 F.2.1 dX7_issue_9 (by decide) ?_
  refine lv_goto (tgt := 38) F.1 F.2.1 dX7_issue_10 (by decide) ?_
  refine mp_128 F w hM dX7_issue_38 (fun H locs μ w hM => ?_)
  have hM : RepM cy m0 ad (g_X7_issue_b_1 G x1 x2 x3) μ := hM
  refine lv_aload_n F.1 F.2.1 dX7_issue_41 rfl (lv_at hl 0 rfl) ?_
  refine gf_X7_128 F w hM.1 rfl dX7_issue_42 ?_
  refine lv_fold (y := 1) ((congrFun (up2_eq _ _ _ _) _).trans pk_us) ?_
  refine lv_if_ne (tgt := 80) F.1 F.2.1 dX7_issue_45 (by decide) (fun c_2 => ?_) (fun c_2 => absurd c_2 (by decide))
  refine lv_aload_n F.1 F.2.1 dX7_issue_80 rfl (lv_at hl 0 rfl) ?_
  refine gf_X7_128 F w hM.1 rfl dX7_issue_81 ?_
  refine lv_fold (y := 1) ((congrFun (up2_eq _ _ _ _) _).trans pk_us) ?_
  refine lv_if_le (tgt := 89) F.1 F.2.1 dX7_issue_84 (by decide) (fun c_3 => absurd c_3 (by decide)) (fun c_3 => ?_)
  refine lv_iconst (v := 0) F.1 F.2.1 dX7_issue_87 (by decide) ?_
  exact q_retI (S := Unit) F hr hlk w ⟨rfl, RepM.cg hM rfl⟩ dX7_issue_88
def g_X7_issue_f_1 (G : GS) (i1 : Nat) (x2 : Int32) (x3 : Int32) : GS := up2 G 0 0 (if f_X7_isShip G (nI i1) = 0 then 1 else 2)
theorem e_g_X7_issue_f_1 (G : GS) (i1 : Nat) (x2 : Int32) (x3 : Int32) {j : Nat} (h : j ∉ [0]) : g_X7_issue_f_1 G i1 x2 x3 j = G j := (up2_ne (fun q => h (by rw [q]; exact List.mem_cons_self))).trans rfl
def f_X7_issue_f (G : GS) (i1 : Nat) (x2 : Int32) (x3 : Int32) : Int32 := 0
def g_X7_issue_f (G : GS) (i1 : Nat) (x2 : Int32) (x3 : Int32) : GS := g_X7_issue_f_1 G i1 x2 x3
set_option maxHeartbeats 4000000 in
set_option maxRecDepth 100000 in
theorem c_X7_issue_f (l : Launch) (D : va_G) (cy : Nat → ClassId) (A : Nat → Prop) (μ : MU) (m0 : Nat) (ad : Nat → Nat) (G : GS) (hM : RepM cy m0 ad G μ) (i1 : Nat) (x2 : Int32) (x3 : Int32) (hi1 : i1 < 12) (hb : f_X7_in x2 0 4 = 0) : Met l yX7_issue (WS yX7_issue cX7_issue 5 (Option.some Jvm.ClassFile.FieldType.int)) { frames := 2, cells := 0, slots := 0, locals := 43 } (va_Pc [.ref m0, .int (nI i1), .int x2, .int x3] (Wd D cy A μ)) (va_Qi (fun (r9 : Int32) (μ1 : MU) => r9 = f_X7_issue_f G i1 x2 x3 ∧ RepM cy m0 ad (g_X7_issue_f G i1 x2 x3) μ1) (fun μ1 t => Wd D cy A μ1 t) A) 0 0 A := by
  refine q_met (by decide) (Nat.le_of_ble_eq_true rfl) ?_
  intro p e s m below meth c F w hr hlk hnm ls hl
  have F : CallFix p m c cX7_issue 5 s _ BIG RX7 := F
  have hl : lv_has ls 5 [(0, .ref m0), (1, .int (nI i1)), (2, .int x2), (3, .int x3)] := hl
  refine lv_aload_n F.1 F.2.1 dX7_issue_0 rfl (lv_at hl 0 rfl) ?_
  refine lv_aload_n F.1 F.2.1 dX7_issue_1 rfl (lv_at hl 0 rfl) ?_
  refine lv_iload_n F.1 F.2.1 dX7_issue_2 rfl (lv_at hl 1 rfl) ?_
  refine q_rV (rest := [.ref m0]) F w kV_X7_153 hd_X7_isShip (ci := 8) rfl (c_X7_isShip l D cy A _ m0 ad G hM (nI i1)) hM.1 dX7_issue_3 rfl rfl hl.1 ⟨rfl, rfl, Nat.le_of_ble_eq_true rfl, Nat.le_of_ble_eq_true rfl⟩ (Nat.le_of_ble_eq_true rfl) ⟨Nat.zero_le _, Nat.zero_le _⟩ ?_
  refine jn0 (m := m) (ls := ls) (rest := [.ref m0]) (if f_X7_isShip G (nI i1) = 0 then 1 else 2) 38 (fun J_1 => ?_) ?_
  · refine lv_if_ne (tgt := 13) F.1 F.2.1 dX7_issue_6 (by decide) (fun c_2 => ?_) (fun c_2 => ?_)
    · refine lv_iload_n F.1 F.2.1 dX7_issue_13 rfl (lv_at hl 2 rfl) ?_
      refine lv_iconst (v := 0) F.1 F.2.1 dX7_issue_14 (by decide) ?_
      refine lv_iconst (v := 4) F.1 F.2.1 dX7_issue_15 (by decide) ?_
      refine q_rS (rest := [.ref m0]) F w kS_X7_135 hd_X7_in (c_X7_in l D cy A _ x2 0 4) dX7_issue_16 rfl rfl hl.1 ⟨rfl, rfl, Nat.le_of_ble_eq_true rfl, Nat.le_of_ble_eq_true rfl⟩ (Nat.le_of_ble_eq_true rfl) ⟨Nat.zero_le _, Nat.zero_le _⟩ ?_
      refine lv_if_eq (tgt := 37) F.1 F.2.1 dX7_issue_19 (by decide) (fun c_3 => ?_) (fun c_3 => absurd hb c_3)
      refine lv_iconst (v := 2) F.1 F.2.1 dX7_issue_37 (by decide) ?_
      exact jn_a (if_neg c_2) J_1
    · refine lv_iconst (v := 1) F.1 F.2.1 dX7_issue_9 (by decide) ?_
      refine lv_goto (tgt := 38) F.1 F.2.1 dX7_issue_10 (by decide) ?_
      exact jn_a (if_pos c_2) J_1
  refine mp_128 F w hM dX7_issue_38 (fun H locs μ w hM => ?_)
  have hM : RepM cy m0 ad (g_X7_issue_f_1 G i1 x2 x3) μ := hM
  refine lv_aload_n F.1 F.2.1 dX7_issue_41 rfl (lv_at hl 0 rfl) ?_
  refine gf_X7_128 F w hM.1 rfl dX7_issue_42 ?_
  refine lv_fold (y := if f_X7_isShip G (nI i1) = 0 then 1 else 2) ((congrFun (up2_eq _ _ _ _) _).trans pk_us) ?_
  refine lv_if_ne (tgt := 80) F.1 F.2.1 dX7_issue_45 (by decide) (fun c_4 => ?_) (fun c_4 => absurd c_4 (by (repeat' split) <;> decide))
  refine lv_aload_n F.1 F.2.1 dX7_issue_80 rfl (lv_at hl 0 rfl) ?_
  refine gf_X7_128 F w hM.1 rfl dX7_issue_81 ?_
  refine lv_fold (y := if f_X7_isShip G (nI i1) = 0 then 1 else 2) ((congrFun (up2_eq _ _ _ _) _).trans pk_us) ?_
  refine lv_if_le (tgt := 89) F.1 F.2.1 dX7_issue_84 (by decide) (fun c_5 => absurd c_5 (by (repeat' split) <;> decide)) (fun c_5 => ?_)
  refine lv_iconst (v := 0) F.1 F.2.1 dX7_issue_87 (by decide) ?_
  exact q_retI (S := Unit) F hr hlk w ⟨rfl, RepM.cg hM rfl⟩ dX7_issue_88
def g_X7_endorse_1 (G : GS) (i1 : Nat) (i2 : Nat) : GS := up2 G 0 0 (if f_X7_isShip G (nI i1) = 0 then 1 else (if f_X7_in (nI i2) 0 4 = 0 then 2 else 0))
theorem e_g_X7_endorse_1 (G : GS) (i1 : Nat) (i2 : Nat) {j : Nat} (h : j ∉ [0]) : g_X7_endorse_1 G i1 i2 j = G j := (up2_ne (fun q => h (by rw [q]; exact List.mem_cons_self))).trans rfl
def g_X7_endorse_2 (G : GS) (i1 : Nat) (i2 : Nat) : GS := up2 (g_X7_endorse_1 G i1 i2) 0 0 (if f_X7_isLapsed (g_X7_endorse_1 G i1 i2) i1 i2 = 0 then (if f_X7_anniversary (g_X7_endorse_1 G i1 i2) (5 * i1 + i2) = (-1) then 3 else 0) else 3)
theorem e_g_X7_endorse_2 (G : GS) (i1 : Nat) (i2 : Nat) {j : Nat} (h : j ∉ [0, 0]) : g_X7_endorse_2 G i1 i2 j = G j := (up2_ne (fun q => h (by rw [q]; exact List.mem_cons_self))).trans (e_g_X7_endorse_1 G i1 i2 (fun q => h (List.mem_cons_of_mem _ q)))
def g_X7_endorse_3 (G : GS) (i1 : Nat) (i2 : Nat) : GS := up2 (g_X7_endorse_2 G i1 i2) 22 (5 * i1 + i2) ((G 22 (5 * i1 + i2)) ||| ((1 : Int32) <<< ((f_X7_anniversary (g_X7_endorse_2 G i1 i2) (5 * i1 + i2)) &&& 31)))
theorem e_g_X7_endorse_3 (G : GS) (i1 : Nat) (i2 : Nat) {j : Nat} (h : j ∉ [22, 0, 0]) : g_X7_endorse_3 G i1 i2 j = G j := (up2_ne (fun q => h (by rw [q]; exact List.mem_cons_self))).trans (e_g_X7_endorse_2 G i1 i2 (fun q => h (List.mem_cons_of_mem _ q)))
def f_X7_endorse (G : GS) (i1 : Nat) (i2 : Nat) : Int32 := if (if f_X7_isShip G (nI i1) = 0 then 1 else (if f_X7_in (nI i2) 0 4 = 0 then 2 else 0) : Int32) = 0 then (if (if f_X7_isLapsed (g_X7_endorse_1 G i1 i2) i1 i2 = 0 then (if f_X7_anniversary (g_X7_endorse_1 G i1 i2) (5 * i1 + i2) = (-1) then 3 else 0) else 3 : Int32) ≤ 0 then f_X7_many ((G 22 (5 * i1 + i2)) ||| ((1 : Int32) <<< ((f_X7_anniversary (g_X7_endorse_2 G i1 i2) (5 * i1 + i2)) &&& 31))) else 0) else 0
def g_X7_endorse (G : GS) (i1 : Nat) (i2 : Nat) : GS := if (if f_X7_isShip G (nI i1) = 0 then 1 else (if f_X7_in (nI i2) 0 4 = 0 then 2 else 0) : Int32) = 0 then (if (if f_X7_isLapsed (g_X7_endorse_1 G i1 i2) i1 i2 = 0 then (if f_X7_anniversary (g_X7_endorse_1 G i1 i2) (5 * i1 + i2) = (-1) then 3 else 0) else 3 : Int32) ≤ 0 then g_X7_endorse_3 G i1 i2 else g_X7_endorse_2 G i1 i2) else g_X7_endorse_1 G i1 i2
set_option maxHeartbeats 4000000 in
set_option maxRecDepth 100000 in
theorem c_X7_endorse (l : Launch) (D : va_G) (cy : Nat → ClassId) (A : Nat → Prop) (μ : MU) (m0 : Nat) (ad : Nat → Nat) (G : GS) (hM : RepM cy m0 ad G μ) (i1 : Nat) (i2 : Nat) (hi1 : i1 < 12) (hi2 : i2 < 5) (hI : InvM G) : Met l yX7_endorse (WS yX7_endorse cX7_endorse 4 (Option.some Jvm.ClassFile.FieldType.int)) { frames := 4, cells := 0, slots := 0, locals := 88 } (va_Pc [.ref m0, .int (nI i1), .int (nI i2)] (Wd D cy A μ)) (va_Qi (fun (r9 : Int32) (μ1 : MU) => r9 = f_X7_endorse G i1 i2 ∧ RepM cy m0 ad (g_X7_endorse G i1 i2) μ1) (fun μ1 t => Wd D cy A μ1 t) A) 0 0 A := by
  refine q_met (by decide) (Nat.le_of_ble_eq_true rfl) ?_
  intro p e s m below meth c F w hr hlk hnm ls hl
  have F : CallFix p m c cX7_endorse 4 s _ BIG RX7 := F
  have hl : lv_has ls 4 [(0, .ref m0), (1, .int (nI i1)), (2, .int (nI i2))] := hl
  refine lv_aload_n F.1 F.2.1 dX7_endorse_0 rfl (lv_at hl 0 rfl) ?_
  refine lv_aload_n F.1 F.2.1 dX7_endorse_1 rfl (lv_at hl 0 rfl) ?_
  refine lv_iload_n F.1 F.2.1 dX7_endorse_2 rfl (lv_at hl 1 rfl) ?_
  refine q_rV (rest := [.ref m0]) F w kV_X7_153 hd_X7_isShip (ci := 8) rfl (c_X7_isShip l D cy A _ m0 ad G hM (nI i1)) hM.1 dX7_endorse_3 rfl rfl hl.1 ⟨rfl, rfl, Nat.le_of_ble_eq_true rfl, Nat.le_of_ble_eq_true rfl⟩ (Nat.le_of_ble_eq_true rfl) ⟨Nat.zero_le _, Nat.zero_le _⟩ ?_
  refine jn0 (m := m) (ls := ls) (rest := [.ref m0]) (if f_X7_isShip G (nI i1) = 0 then 1 else (if f_X7_in (nI i2) 0 4 = 0 then 2 else 0)) 27 (fun J_1 => ?_) ?_
  · refine lv_if_ne (tgt := 13) F.1 F.2.1 dX7_endorse_6 (by decide) (fun c_2 => ?_) (fun c_2 => ?_)
    · refine lv_iload_n F.1 F.2.1 dX7_endorse_13 rfl (lv_at hl 2 rfl) ?_
      refine lv_iconst (v := 0) F.1 F.2.1 dX7_endorse_14 (by decide) ?_
      refine lv_iconst (v := 4) F.1 F.2.1 dX7_endorse_15 (by decide) ?_
      refine q_rS (rest := [.ref m0]) F w kS_X7_135 hd_X7_in (c_X7_in l D cy A _ (nI i2) 0 4) dX7_endorse_16 rfl rfl hl.1 ⟨rfl, rfl, Nat.le_of_ble_eq_true rfl, Nat.le_of_ble_eq_true rfl⟩ (Nat.le_of_ble_eq_true rfl) ⟨Nat.zero_le _, Nat.zero_le _⟩ ?_
      refine lv_if_eq (tgt := 26) F.1 F.2.1 dX7_endorse_19 (by decide) (fun c_3 => ?_) (fun c_3 => ?_)
      · refine lv_iconst (v := 2) F.1 F.2.1 dX7_endorse_26 (by decide) ?_
        exact jn_a ((if_neg c_2).trans (if_pos c_3)) J_1
      · refine lv_iconst (v := 0) F.1 F.2.1 dX7_endorse_22 (by decide) ?_
        refine lv_goto (tgt := 27) F.1 F.2.1 dX7_endorse_23 (by decide) ?_
        exact jn_a ((if_neg c_2).trans (if_neg c_3)) J_1
    · refine lv_iconst (v := 1) F.1 F.2.1 dX7_endorse_9 (by decide) ?_
      refine lv_goto (tgt := 27) F.1 F.2.1 dX7_endorse_10 (by decide) ?_
      exact jn_a (if_pos c_2) J_1
  refine mp_128 F w hM dX7_endorse_27 (fun H locs μ w hM => ?_)
  have hM : RepM cy m0 ad (g_X7_endorse_1 G i1 i2) μ := hM
  refine lv_aload_n F.1 F.2.1 dX7_endorse_30 rfl (lv_at hl 0 rfl) ?_
  refine gf_X7_128 F w hM.1 rfl dX7_endorse_31 ?_
  refine lv_fold (y := if f_X7_isShip G (nI i1) = 0 then 1 else (if f_X7_in (nI i2) 0 4 = 0 then 2 else 0)) ((congrFun (up2_eq _ _ _ _) _).trans pk_us) ?_
  refine lv_if_ne (tgt := 68) F.1 F.2.1 dX7_endorse_34 (by decide) (fun c_4 => ?_) (fun c_4 => ?_)
  · refine lv_aload_n F.1 F.2.1 dX7_endorse_68 rfl (lv_at hl 0 rfl) ?_
    refine gf_X7_128 F w hM.1 rfl dX7_endorse_69 ?_
    refine lv_fold (y := if f_X7_isShip G (nI i1) = 0 then 1 else (if f_X7_in (nI i2) 0 4 = 0 then 2 else 0)) ((congrFun (up2_eq _ _ _ _) _).trans pk_us) ?_
    refine lv_if_le (tgt := 77) F.1 F.2.1 dX7_endorse_72 (by decide) (fun c_5 => absurd c_5 (fun h9 => c_4 (by revert h9; (repeat' split) <;> decide))) (fun c_5 => ?_)
    refine lv_iconst (v := 0) F.1 F.2.1 dX7_endorse_75 (by decide) ?_
    exact q_retI (S := Unit) F hr hlk w ⟨(if_neg c_4).symm, RepM.cg hM (if_neg c_4)⟩ dX7_endorse_76
  · refine lv_aload_n F.1 F.2.1 dX7_endorse_37 rfl (lv_at hl 0 rfl) ?_
    refine lv_aload_n F.1 F.2.1 dX7_endorse_38 rfl (lv_at hl 0 rfl) ?_
    refine lv_iload_n F.1 F.2.1 dX7_endorse_39 rfl (lv_at hl 1 rfl) ?_
    refine lv_iload_n F.1 F.2.1 dX7_endorse_40 rfl (lv_at hl 2 rfl) ?_
    refine q_rV (rest := [.ref m0]) F w kV_X7_176 hd_X7_isLapsed (ci := 8) rfl (c_X7_isLapsed l D cy A _ m0 ad (g_X7_endorse_1 G i1 i2) hM i1 i2 (show i1 < 12 by omega) (show i2 < 5 by omega) (InvM.fr hI 0 0 (if f_X7_isShip G (nI i1) = 0 then 1 else (if f_X7_in (nI i2) 0 4 = 0 then 2 else 0)) rfl)) hM.1 dX7_endorse_41 rfl rfl hl.1 ⟨rfl, rfl, Nat.le_of_ble_eq_true rfl, Nat.le_of_ble_eq_true rfl⟩ (Nat.le_of_ble_eq_true rfl) ⟨Nat.zero_le _, Nat.zero_le _⟩ ?_
    refine jn0 (m := m) (ls := ls) (rest := [.ref m0]) (if f_X7_isLapsed (g_X7_endorse_1 G i1 i2) i1 i2 = 0 then (if f_X7_anniversary (g_X7_endorse_1 G i1 i2) (5 * i1 + i2) = (-1) then 3 else 0) else 3) 65 (fun J_6 => ?_) ?_
    · refine lv_if_ne (tgt := 60) F.1 F.2.1 dX7_endorse_44 (by decide) (fun c_7 => ?_) (fun c_7 => ?_)
      · refine lv_iconst (v := 3) F.1 F.2.1 dX7_endorse_60 (by decide) ?_
        refine lv_goto (tgt := 65) F.1 F.2.1 dX7_endorse_61 (by decide) ?_
        exact jn_a (if_neg c_7) J_6
      · refine lv_aload_n F.1 F.2.1 dX7_endorse_47 rfl (lv_at hl 0 rfl) ?_
        refine lv_iload_n F.1 F.2.1 dX7_endorse_48 rfl (lv_at hl 1 rfl) ?_
        refine lv_iload_n F.1 F.2.1 dX7_endorse_49 rfl (lv_at hl 2 rfl) ?_
        refine q_rS (rest := [.ref m0, .ref m0]) F w kS_X7_169 hd_X7_at (c_X7_at l D cy A _ i1 i2) dX7_endorse_50 rfl rfl hl.1 ⟨rfl, rfl, Nat.le_of_ble_eq_true rfl, Nat.le_of_ble_eq_true rfl⟩ (Nat.le_of_ble_eq_true rfl) ⟨Nat.zero_le _, Nat.zero_le _⟩ ?_
        refine lv_fold (y := nI (5 * i1 + i2)) rfl ?_
        refine q_rV (rest := [.ref m0]) F w kV_X7_182 hd_X7_anniversary (ci := 8) rfl (c_X7_anniversary l D cy A _ m0 ad (g_X7_endorse_1 G i1 i2) hM (5 * i1 + i2) (show 5 * i1 + i2 < 60 by omega) (InvM.fr hI 0 0 (if f_X7_isShip G (nI i1) = 0 then 1 else (if f_X7_in (nI i2) 0 4 = 0 then 2 else 0)) rfl)) hM.1 dX7_endorse_53 rfl rfl hl.1 ⟨rfl, rfl, Nat.le_of_ble_eq_true rfl, Nat.le_of_ble_eq_true rfl⟩ (Nat.le_of_ble_eq_true rfl) ⟨Nat.zero_le _, Nat.zero_le _⟩ ?_
        refine lv_iconst (v := -1) F.1 F.2.1 dX7_endorse_56 (by decide) ?_
        refine lv_icmp_ne (tgt := 64) F.1 F.2.1 dX7_endorse_57 (by decide) (fun c_8 => ?_) (fun c_8 => ?_)
        · refine lv_iconst (v := 0) F.1 F.2.1 dX7_endorse_64 (by decide) ?_
          exact jn_a ((if_pos c_7).trans (if_neg c_8)) J_6
        · refine lv_iconst (v := 3) F.1 F.2.1 dX7_endorse_60 (by decide) ?_
          refine lv_goto (tgt := 65) F.1 F.2.1 dX7_endorse_61 (by decide) ?_
          exact jn_a ((if_pos c_7).trans (if_pos c_8)) J_6
    refine mp_128 F w hM dX7_endorse_65 (fun H locs μ w hM => ?_)
    have hM : RepM cy m0 ad (g_X7_endorse_2 G i1 i2) μ := hM
    refine lv_aload_n F.1 F.2.1 dX7_endorse_68 rfl (lv_at hl 0 rfl) ?_
    refine gf_X7_128 F w hM.1 rfl dX7_endorse_69 ?_
    refine lv_fold (y := if f_X7_isLapsed (g_X7_endorse_1 G i1 i2) i1 i2 = 0 then (if f_X7_anniversary (g_X7_endorse_1 G i1 i2) (5 * i1 + i2) = (-1) then 3 else 0) else 3) ((congrFun (up2_eq _ _ _ _) _).trans pk_us) ?_
    refine lv_if_le (tgt := 77) F.1 F.2.1 dX7_endorse_72 (by decide) (fun c_9 => ?_) (fun c_9 => ?_)
    · refine lv_iload_n F.1 F.2.1 dX7_endorse_77 rfl (lv_at hl 1 rfl) ?_
      refine lv_iload_n F.1 F.2.1 dX7_endorse_78 rfl (lv_at hl 2 rfl) ?_
      refine q_rS (rest := []) F w kS_X7_169 hd_X7_at (c_X7_at l D cy A _ i1 i2) dX7_endorse_79 rfl rfl hl.1 ⟨rfl, rfl, Nat.le_of_ble_eq_true rfl, Nat.le_of_ble_eq_true rfl⟩ (Nat.le_of_ble_eq_true rfl) ⟨Nat.zero_le _, Nat.zero_le _⟩ ?_
      refine lv_fold (y := nI (5 * i1 + i2)) rfl ?_
      refine lv_istore_n (lv' := [(3, .int (nI (5 * i1 + i2))), (0, .ref m0), (1, .int (nI i1)), (2, .int (nI i2))]) F.1 F.2.1 dX7_endorse_82 rfl hl (by decide) rfl (fun ls hl => ?_)
      refine lv_aload_n F.1 F.2.1 dX7_endorse_83 rfl (lv_at hl 1 rfl) ?_
      refine gf_X7_68 F w hM.1 rfl dX7_endorse_84 ?_
      refine lv_iload_n F.1 F.2.1 dX7_endorse_87 rfl (lv_at hl 0 rfl) ?_
      refine lv_dup2_11 F.1 F.2.1 dX7_endorse_88 rfl rfl ?_
      refine m_ild F w hM 22 (by decide) rfl rfl (5 * i1 + i2) (show 5 * i1 + i2 < 60 by omega) (by decide) dX7_endorse_89 ?_
      refine lv_fold (y := G 22 (5 * i1 + i2)) (congrFun (e_g_X7_endorse_2 G i1 i2 (by decide)) (5 * i1 + i2)) ?_
      refine lv_iconst (v := 1) F.1 F.2.1 dX7_endorse_90 (by decide) ?_
      refine lv_aload_n F.1 F.2.1 dX7_endorse_91 rfl (lv_at hl 1 rfl) ?_
      refine lv_iload_n F.1 F.2.1 dX7_endorse_92 rfl (lv_at hl 0 rfl) ?_
      refine q_rV (rest := [.int 1, .int (G 22 (5 * i1 + i2)), .int (nI (5 * i1 + i2)), .ref (ad 22)]) F w kV_X7_182 hd_X7_anniversary (ci := 8) rfl (c_X7_anniversary l D cy A _ m0 ad (g_X7_endorse_2 G i1 i2) hM (5 * i1 + i2) (show 5 * i1 + i2 < 60 by omega) (InvM.fr (InvM.fr hI 0 0 (if f_X7_isShip G (nI i1) = 0 then 1 else (if f_X7_in (nI i2) 0 4 = 0 then 2 else 0)) rfl) 0 0 (if f_X7_isLapsed (g_X7_endorse_1 G i1 i2) i1 i2 = 0 then (if f_X7_anniversary (g_X7_endorse_1 G i1 i2) (5 * i1 + i2) = (-1) then 3 else 0) else 3) rfl)) hM.1 dX7_endorse_93 rfl rfl hl.1 ⟨rfl, rfl, Nat.le_of_ble_eq_true rfl, Nat.le_of_ble_eq_true rfl⟩ (Nat.le_of_ble_eq_true rfl) ⟨Nat.zero_le _, Nat.zero_le _⟩ ?_
      refine lv_ishl F.1 F.2.1 dX7_endorse_96 ?_
      refine lv_ior F.1 F.2.1 dX7_endorse_97 ?_
      refine m_ist F w hM 22 (by decide) rfl rfl (5 * i1 + i2) (show 5 * i1 + i2 < 60 by omega) (by decide) dX7_endorse_98 (fun H locs μ w hM => ?_)
      have hM : RepM cy m0 ad (g_X7_endorse_3 G i1 i2) μ := hM
      refine lv_aload_n F.1 F.2.1 dX7_endorse_99 rfl (lv_at hl 1 rfl) ?_
      refine gf_X7_68 F w hM.1 rfl dX7_endorse_100 ?_
      refine lv_iload_n F.1 F.2.1 dX7_endorse_103 rfl (lv_at hl 0 rfl) ?_
      refine m_ild F w hM 22 (by decide) rfl rfl (5 * i1 + i2) (show 5 * i1 + i2 < 60 by omega) (by decide) dX7_endorse_104 ?_
      refine lv_fold (y := (G 22 (5 * i1 + i2)) ||| ((1 : Int32) <<< ((f_X7_anniversary (g_X7_endorse_2 G i1 i2) (5 * i1 + i2)) &&& 31))) ((congrFun (up2_eq _ _ _ _) _).trans pk_us) ?_
      refine q_rS (rest := []) F w kS_X7_186 hd_X7_many (c_X7_many l D cy A _ ((G 22 (5 * i1 + i2)) ||| ((1 : Int32) <<< ((f_X7_anniversary (g_X7_endorse_2 G i1 i2) (5 * i1 + i2)) &&& 31)))) dX7_endorse_105 rfl rfl hl.1 ⟨rfl, rfl, Nat.le_of_ble_eq_true rfl, Nat.le_of_ble_eq_true rfl⟩ (Nat.le_of_ble_eq_true rfl) ⟨Nat.zero_le _, Nat.zero_le _⟩ ?_
      exact q_retI (S := Unit) F hr hlk w ⟨((if_pos c_4).trans (if_pos c_9)).symm, RepM.cg hM ((if_pos c_4).trans (if_pos c_9))⟩ dX7_endorse_108
    · refine lv_iconst (v := 0) F.1 F.2.1 dX7_endorse_75 (by decide) ?_
      exact q_retI (S := Unit) F hr hlk w ⟨((if_pos c_4).trans (if_neg c_9)).symm, RepM.cg hM ((if_pos c_4).trans (if_neg c_9))⟩ dX7_endorse_76
def g_X7_endorse_b_1 (G : GS) (x1 : Int32) (x2 : Int32) : GS := up2 G 0 0 1
theorem e_g_X7_endorse_b_1 (G : GS) (x1 : Int32) (x2 : Int32) {j : Nat} (h : j ∉ [0]) : g_X7_endorse_b_1 G x1 x2 j = G j := (up2_ne (fun q => h (by rw [q]; exact List.mem_cons_self))).trans rfl
def f_X7_endorse_b (G : GS) (x1 : Int32) (x2 : Int32) : Int32 := 0
def g_X7_endorse_b (G : GS) (x1 : Int32) (x2 : Int32) : GS := g_X7_endorse_b_1 G x1 x2
set_option maxHeartbeats 4000000 in
set_option maxRecDepth 100000 in
theorem c_X7_endorse_b (l : Launch) (D : va_G) (cy : Nat → ClassId) (A : Nat → Prop) (μ : MU) (m0 : Nat) (ad : Nat → Nat) (G : GS) (hM : RepM cy m0 ad G μ) (x1 : Int32) (x2 : Int32) (hb : f_X7_isShip G x1 = 0) : Met l yX7_endorse (WS yX7_endorse cX7_endorse 4 (Option.some Jvm.ClassFile.FieldType.int)) { frames := 2, cells := 0, slots := 0, locals := 43 } (va_Pc [.ref m0, .int x1, .int x2] (Wd D cy A μ)) (va_Qi (fun (r9 : Int32) (μ1 : MU) => r9 = f_X7_endorse_b G x1 x2 ∧ RepM cy m0 ad (g_X7_endorse_b G x1 x2) μ1) (fun μ1 t => Wd D cy A μ1 t) A) 0 0 A := by
  refine q_met (by decide) (Nat.le_of_ble_eq_true rfl) ?_
  intro p e s m below meth c F w hr hlk hnm ls hl
  have F : CallFix p m c cX7_endorse 4 s _ BIG RX7 := F
  have hl : lv_has ls 4 [(0, .ref m0), (1, .int x1), (2, .int x2)] := hl
  refine lv_aload_n F.1 F.2.1 dX7_endorse_0 rfl (lv_at hl 0 rfl) ?_
  refine lv_aload_n F.1 F.2.1 dX7_endorse_1 rfl (lv_at hl 0 rfl) ?_
  refine lv_iload_n F.1 F.2.1 dX7_endorse_2 rfl (lv_at hl 1 rfl) ?_
  refine q_rV (rest := [.ref m0]) F w kV_X7_153 hd_X7_isShip (ci := 8) rfl (c_X7_isShip l D cy A _ m0 ad G hM x1) hM.1 dX7_endorse_3 rfl rfl hl.1 ⟨rfl, rfl, Nat.le_of_ble_eq_true rfl, Nat.le_of_ble_eq_true rfl⟩ (Nat.le_of_ble_eq_true rfl) ⟨Nat.zero_le _, Nat.zero_le _⟩ ?_
  refine lv_if_ne (tgt := 13) F.1 F.2.1 dX7_endorse_6 (by decide) (fun c_1 => absurd hb c_1) (fun c_1 => ?_)
  refine lv_iconst (v := 1) F.1 F.2.1 dX7_endorse_9 (by decide) ?_
  refine lv_goto (tgt := 27) F.1 F.2.1 dX7_endorse_10 (by decide) ?_
  refine mp_128 F w hM dX7_endorse_27 (fun H locs μ w hM => ?_)
  have hM : RepM cy m0 ad (g_X7_endorse_b_1 G x1 x2) μ := hM
  refine lv_aload_n F.1 F.2.1 dX7_endorse_30 rfl (lv_at hl 0 rfl) ?_
  refine gf_X7_128 F w hM.1 rfl dX7_endorse_31 ?_
  refine lv_fold (y := 1) ((congrFun (up2_eq _ _ _ _) _).trans pk_us) ?_
  refine lv_if_ne (tgt := 68) F.1 F.2.1 dX7_endorse_34 (by decide) (fun c_2 => ?_) (fun c_2 => absurd c_2 (by decide))
  refine lv_aload_n F.1 F.2.1 dX7_endorse_68 rfl (lv_at hl 0 rfl) ?_
  refine gf_X7_128 F w hM.1 rfl dX7_endorse_69 ?_
  refine lv_fold (y := 1) ((congrFun (up2_eq _ _ _ _) _).trans pk_us) ?_
  refine lv_if_le (tgt := 77) F.1 F.2.1 dX7_endorse_72 (by decide) (fun c_3 => absurd c_3 (by decide)) (fun c_3 => ?_)
  refine lv_iconst (v := 0) F.1 F.2.1 dX7_endorse_75 (by decide) ?_
  exact q_retI (S := Unit) F hr hlk w ⟨rfl, RepM.cg hM rfl⟩ dX7_endorse_76
def g_X7_endorse_f_1 (G : GS) (i1 : Nat) (x2 : Int32) : GS := up2 G 0 0 (if f_X7_isShip G (nI i1) = 0 then 1 else 2)
theorem e_g_X7_endorse_f_1 (G : GS) (i1 : Nat) (x2 : Int32) {j : Nat} (h : j ∉ [0]) : g_X7_endorse_f_1 G i1 x2 j = G j := (up2_ne (fun q => h (by rw [q]; exact List.mem_cons_self))).trans rfl
def f_X7_endorse_f (G : GS) (i1 : Nat) (x2 : Int32) : Int32 := 0
def g_X7_endorse_f (G : GS) (i1 : Nat) (x2 : Int32) : GS := g_X7_endorse_f_1 G i1 x2
set_option maxHeartbeats 4000000 in
set_option maxRecDepth 100000 in
theorem c_X7_endorse_f (l : Launch) (D : va_G) (cy : Nat → ClassId) (A : Nat → Prop) (μ : MU) (m0 : Nat) (ad : Nat → Nat) (G : GS) (hM : RepM cy m0 ad G μ) (i1 : Nat) (x2 : Int32) (hi1 : i1 < 12) (hb : f_X7_in x2 0 4 = 0) : Met l yX7_endorse (WS yX7_endorse cX7_endorse 4 (Option.some Jvm.ClassFile.FieldType.int)) { frames := 2, cells := 0, slots := 0, locals := 43 } (va_Pc [.ref m0, .int (nI i1), .int x2] (Wd D cy A μ)) (va_Qi (fun (r9 : Int32) (μ1 : MU) => r9 = f_X7_endorse_f G i1 x2 ∧ RepM cy m0 ad (g_X7_endorse_f G i1 x2) μ1) (fun μ1 t => Wd D cy A μ1 t) A) 0 0 A := by
  refine q_met (by decide) (Nat.le_of_ble_eq_true rfl) ?_
  intro p e s m below meth c F w hr hlk hnm ls hl
  have F : CallFix p m c cX7_endorse 4 s _ BIG RX7 := F
  have hl : lv_has ls 4 [(0, .ref m0), (1, .int (nI i1)), (2, .int x2)] := hl
  refine lv_aload_n F.1 F.2.1 dX7_endorse_0 rfl (lv_at hl 0 rfl) ?_
  refine lv_aload_n F.1 F.2.1 dX7_endorse_1 rfl (lv_at hl 0 rfl) ?_
  refine lv_iload_n F.1 F.2.1 dX7_endorse_2 rfl (lv_at hl 1 rfl) ?_
  refine q_rV (rest := [.ref m0]) F w kV_X7_153 hd_X7_isShip (ci := 8) rfl (c_X7_isShip l D cy A _ m0 ad G hM (nI i1)) hM.1 dX7_endorse_3 rfl rfl hl.1 ⟨rfl, rfl, Nat.le_of_ble_eq_true rfl, Nat.le_of_ble_eq_true rfl⟩ (Nat.le_of_ble_eq_true rfl) ⟨Nat.zero_le _, Nat.zero_le _⟩ ?_
  refine jn0 (m := m) (ls := ls) (rest := [.ref m0]) (if f_X7_isShip G (nI i1) = 0 then 1 else 2) 27 (fun J_1 => ?_) ?_
  · refine lv_if_ne (tgt := 13) F.1 F.2.1 dX7_endorse_6 (by decide) (fun c_2 => ?_) (fun c_2 => ?_)
    · refine lv_iload_n F.1 F.2.1 dX7_endorse_13 rfl (lv_at hl 2 rfl) ?_
      refine lv_iconst (v := 0) F.1 F.2.1 dX7_endorse_14 (by decide) ?_
      refine lv_iconst (v := 4) F.1 F.2.1 dX7_endorse_15 (by decide) ?_
      refine q_rS (rest := [.ref m0]) F w kS_X7_135 hd_X7_in (c_X7_in l D cy A _ x2 0 4) dX7_endorse_16 rfl rfl hl.1 ⟨rfl, rfl, Nat.le_of_ble_eq_true rfl, Nat.le_of_ble_eq_true rfl⟩ (Nat.le_of_ble_eq_true rfl) ⟨Nat.zero_le _, Nat.zero_le _⟩ ?_
      refine lv_if_eq (tgt := 26) F.1 F.2.1 dX7_endorse_19 (by decide) (fun c_3 => ?_) (fun c_3 => absurd hb c_3)
      refine lv_iconst (v := 2) F.1 F.2.1 dX7_endorse_26 (by decide) ?_
      exact jn_a (if_neg c_2) J_1
    · refine lv_iconst (v := 1) F.1 F.2.1 dX7_endorse_9 (by decide) ?_
      refine lv_goto (tgt := 27) F.1 F.2.1 dX7_endorse_10 (by decide) ?_
      exact jn_a (if_pos c_2) J_1
  refine mp_128 F w hM dX7_endorse_27 (fun H locs μ w hM => ?_)
  have hM : RepM cy m0 ad (g_X7_endorse_f_1 G i1 x2) μ := hM
  refine lv_aload_n F.1 F.2.1 dX7_endorse_30 rfl (lv_at hl 0 rfl) ?_
  refine gf_X7_128 F w hM.1 rfl dX7_endorse_31 ?_
  refine lv_fold (y := if f_X7_isShip G (nI i1) = 0 then 1 else 2) ((congrFun (up2_eq _ _ _ _) _).trans pk_us) ?_
  refine lv_if_ne (tgt := 68) F.1 F.2.1 dX7_endorse_34 (by decide) (fun c_4 => ?_) (fun c_4 => absurd c_4 (by (repeat' split) <;> decide))
  refine lv_aload_n F.1 F.2.1 dX7_endorse_68 rfl (lv_at hl 0 rfl) ?_
  refine gf_X7_128 F w hM.1 rfl dX7_endorse_69 ?_
  refine lv_fold (y := if f_X7_isShip G (nI i1) = 0 then 1 else 2) ((congrFun (up2_eq _ _ _ _) _).trans pk_us) ?_
  refine lv_if_le (tgt := 77) F.1 F.2.1 dX7_endorse_72 (by decide) (fun c_5 => absurd c_5 (by (repeat' split) <;> decide)) (fun c_5 => ?_)
  refine lv_iconst (v := 0) F.1 F.2.1 dX7_endorse_75 (by decide) ?_
  exact q_retI (S := Unit) F hr hlk w ⟨rfl, RepM.cg hM rfl⟩ dX7_endorse_76
def g_X7_calls_1 (G : GS) (i1 : Nat) (x2 : Int32) : GS := up2 G 0 0 (if f_X7_isShip G (nI i1) = 0 then 1 else (if f_X7_isPort x2 = 0 then 1 else (if G 10 i1 = (-1) then (if f_X7_isBanned G i1 = 0 then 0 else 2) else 2)))
theorem e_g_X7_calls_1 (G : GS) (i1 : Nat) (x2 : Int32) {j : Nat} (h : j ∉ [0]) : g_X7_calls_1 G i1 x2 j = G j := (up2_ne (fun q => h (by rw [q]; exact List.mem_cons_self))).trans rfl
def g_X7_calls_2 (G : GS) (i1 : Nat) (x2 : Int32) : GS := up2 (g_X7_calls_1 G i1 x2) 10 i1 x2
theorem e_g_X7_calls_2 (G : GS) (i1 : Nat) (x2 : Int32) {j : Nat} (h : j ∉ [10, 0]) : g_X7_calls_2 G i1 x2 j = G j := (up2_ne (fun q => h (by rw [q]; exact List.mem_cons_self))).trans (e_g_X7_calls_1 G i1 x2 (fun q => h (List.mem_cons_of_mem _ q)))
def g_X7_calls_3 (G : GS) (i1 : Nat) (x2 : Int32) : GS := up2 (g_X7_calls_2 G i1 x2) 11 i1 (-1)
theorem e_g_X7_calls_3 (G : GS) (i1 : Nat) (x2 : Int32) {j : Nat} (h : j ∉ [11, 10, 0]) : g_X7_calls_3 G i1 x2 j = G j := (up2_ne (fun q => h (by rw [q]; exact List.mem_cons_self))).trans (e_g_X7_calls_2 G i1 x2 (fun q => h (List.mem_cons_of_mem _ q)))
def f_X7_calls (G : GS) (i1 : Nat) (x2 : Int32) : Int32 := if (if f_X7_isShip G (nI i1) = 0 then 1 else (if f_X7_isPort x2 = 0 then 1 else (if G 10 i1 = (-1) then (if f_X7_isBanned G i1 = 0 then 0 else 2) else 2)) : Int32) ≤ 0 then f_X7_priorityOf (g_X7_calls_3 G i1 x2) i1 else 0
def g_X7_calls (G : GS) (i1 : Nat) (x2 : Int32) : GS := if (if f_X7_isShip G (nI i1) = 0 then 1 else (if f_X7_isPort x2 = 0 then 1 else (if G 10 i1 = (-1) then (if f_X7_isBanned G i1 = 0 then 0 else 2) else 2)) : Int32) ≤ 0 then g_X7_calls_3 G i1 x2 else g_X7_calls_1 G i1 x2
set_option maxHeartbeats 4000000 in
set_option maxRecDepth 100000 in
theorem c_X7_calls (l : Launch) (D : va_G) (cy : Nat → ClassId) (A : Nat → Prop) (μ : MU) (m0 : Nat) (ad : Nat → Nat) (G : GS) (hM : RepM cy m0 ad G μ) (i1 : Nat) (x2 : Int32) (hi1 : i1 < 12) (hI : InvM G) : Met l yX7_calls (WS yX7_calls cX7_calls 3 (Option.some Jvm.ClassFile.FieldType.int)) { frames := 5, cells := 0, slots := 0, locals := 117 } (va_Pc [.ref m0, .int (nI i1), .int x2] (Wd D cy A μ)) (va_Qi (fun (r9 : Int32) (μ1 : MU) => r9 = f_X7_calls G i1 x2 ∧ RepM cy m0 ad (g_X7_calls G i1 x2) μ1) (fun μ1 t => Wd D cy A μ1 t) A) 0 0 A := by
  refine q_met (by decide) (Nat.le_of_ble_eq_true rfl) ?_
  intro p e s m below meth c F w hr hlk hnm ls hl
  have F : CallFix p m c cX7_calls 3 s _ BIG RX7 := F
  have hl : lv_has ls 3 [(0, .ref m0), (1, .int (nI i1)), (2, .int x2)] := hl
  refine lv_aload_n F.1 F.2.1 dX7_calls_0 rfl (lv_at hl 0 rfl) ?_
  refine lv_aload_n F.1 F.2.1 dX7_calls_1 rfl (lv_at hl 0 rfl) ?_
  refine lv_iload_n F.1 F.2.1 dX7_calls_2 rfl (lv_at hl 1 rfl) ?_
  refine q_rV (rest := [.ref m0]) F w kV_X7_153 hd_X7_isShip (ci := 8) rfl (c_X7_isShip l D cy A _ m0 ad G hM (nI i1)) hM.1 dX7_calls_3 rfl rfl hl.1 ⟨rfl, rfl, Nat.le_of_ble_eq_true rfl, Nat.le_of_ble_eq_true rfl⟩ (Nat.le_of_ble_eq_true rfl) ⟨Nat.zero_le _, Nat.zero_le _⟩ ?_
  refine jn0 (m := m) (ls := ls) (rest := [.ref m0]) (if f_X7_isShip G (nI i1) = 0 then 1 else (if f_X7_isPort x2 = 0 then 1 else (if G 10 i1 = (-1) then (if f_X7_isBanned G i1 = 0 then 0 else 2) else 2))) 43 (fun J_1 => ?_) ?_
  · refine lv_if_eq (tgt := 16) F.1 F.2.1 dX7_calls_6 (by decide) (fun c_2 => ?_) (fun c_2 => ?_)
    · refine lv_iconst (v := 1) F.1 F.2.1 dX7_calls_16 (by decide) ?_
      refine lv_goto (tgt := 43) F.1 F.2.1 dX7_calls_17 (by decide) ?_
      exact jn_a (if_pos c_2) J_1
    · refine lv_iload_n F.1 F.2.1 dX7_calls_9 rfl (lv_at hl 2 rfl) ?_
      refine q_rS (rest := [.ref m0]) F w kS_X7_213 hd_X7_isPort (c_X7_isPort l D cy A _ x2) dX7_calls_10 rfl rfl hl.1 ⟨rfl, rfl, Nat.le_of_ble_eq_true rfl, Nat.le_of_ble_eq_true rfl⟩ (Nat.le_of_ble_eq_true rfl) ⟨Nat.zero_le _, Nat.zero_le _⟩ ?_
      refine lv_if_ne (tgt := 20) F.1 F.2.1 dX7_calls_13 (by decide) (fun c_3 => ?_) (fun c_3 => ?_)
      · refine lv_aload_n F.1 F.2.1 dX7_calls_20 rfl (lv_at hl 0 rfl) ?_
        refine gf_X7_32 F w hM.1 rfl dX7_calls_21 ?_
        refine lv_iload_n F.1 F.2.1 dX7_calls_24 rfl (lv_at hl 1 rfl) ?_
        refine m_ild F w hM 10 (by decide) rfl rfl i1 (show i1 < 12 by omega) (by decide) dX7_calls_25 ?_
        refine lv_iconst (v := -1) F.1 F.2.1 dX7_calls_26 (by decide) ?_
        refine lv_icmp_ne (tgt := 38) F.1 F.2.1 dX7_calls_27 (by decide) (fun c_4 => ?_) (fun c_4 => ?_)
        · refine lv_iconst (v := 2) F.1 F.2.1 dX7_calls_38 (by decide) ?_
          refine lv_goto (tgt := 43) F.1 F.2.1 dX7_calls_39 (by decide) ?_
          exact jn_a ((if_neg c_2).trans ((if_neg c_3).trans (if_neg c_4))) J_1
        · refine lv_aload_n F.1 F.2.1 dX7_calls_30 rfl (lv_at hl 0 rfl) ?_
          refine lv_iload_n F.1 F.2.1 dX7_calls_31 rfl (lv_at hl 1 rfl) ?_
          refine q_rV (rest := [.ref m0]) F w kV_X7_216 hd_X7_isBanned (ci := 8) rfl (c_X7_isBanned l D cy A _ m0 ad G hM i1 (show i1 < 12 by omega)) hM.1 dX7_calls_32 rfl rfl hl.1 ⟨rfl, rfl, Nat.le_of_ble_eq_true rfl, Nat.le_of_ble_eq_true rfl⟩ (Nat.le_of_ble_eq_true rfl) ⟨Nat.zero_le _, Nat.zero_le _⟩ ?_
          refine lv_if_eq (tgt := 42) F.1 F.2.1 dX7_calls_35 (by decide) (fun c_5 => ?_) (fun c_5 => ?_)
          · refine lv_iconst (v := 0) F.1 F.2.1 dX7_calls_42 (by decide) ?_
            exact jn_a ((if_neg c_2).trans ((if_neg c_3).trans ((if_pos c_4).trans (if_pos c_5)))) J_1
          · refine lv_iconst (v := 2) F.1 F.2.1 dX7_calls_38 (by decide) ?_
            refine lv_goto (tgt := 43) F.1 F.2.1 dX7_calls_39 (by decide) ?_
            exact jn_a ((if_neg c_2).trans ((if_neg c_3).trans ((if_pos c_4).trans (if_neg c_5)))) J_1
      · refine lv_iconst (v := 1) F.1 F.2.1 dX7_calls_16 (by decide) ?_
        refine lv_goto (tgt := 43) F.1 F.2.1 dX7_calls_17 (by decide) ?_
        exact jn_a ((if_neg c_2).trans (if_pos c_3)) J_1
  refine mp_128 F w hM dX7_calls_43 (fun H locs μ w hM => ?_)
  have hM : RepM cy m0 ad (g_X7_calls_1 G i1 x2) μ := hM
  refine lv_aload_n F.1 F.2.1 dX7_calls_46 rfl (lv_at hl 0 rfl) ?_
  refine gf_X7_128 F w hM.1 rfl dX7_calls_47 ?_
  refine lv_fold (y := if f_X7_isShip G (nI i1) = 0 then 1 else (if f_X7_isPort x2 = 0 then 1 else (if G 10 i1 = (-1) then (if f_X7_isBanned G i1 = 0 then 0 else 2) else 2))) ((congrFun (up2_eq _ _ _ _) _).trans pk_us) ?_
  refine lv_if_le (tgt := 55) F.1 F.2.1 dX7_calls_50 (by decide) (fun c_6 => ?_) (fun c_6 => ?_)
  · refine lv_aload_n F.1 F.2.1 dX7_calls_55 rfl (lv_at hl 0 rfl) ?_
    refine gf_X7_32 F w hM.1 rfl dX7_calls_56 ?_
    refine lv_iload_n F.1 F.2.1 dX7_calls_59 rfl (lv_at hl 1 rfl) ?_
    refine lv_iload_n F.1 F.2.1 dX7_calls_60 rfl (lv_at hl 2 rfl) ?_
    refine m_ist F w hM 10 (by decide) rfl rfl i1 (show i1 < 12 by omega) (by decide) dX7_calls_61 (fun H locs μ w hM => ?_)
    have hM : RepM cy m0 ad (g_X7_calls_2 G i1 x2) μ := hM
    refine lv_aload_n F.1 F.2.1 dX7_calls_62 rfl (lv_at hl 0 rfl) ?_
    refine gf_X7_35 F w hM.1 rfl dX7_calls_63 ?_
    refine lv_iload_n F.1 F.2.1 dX7_calls_66 rfl (lv_at hl 1 rfl) ?_
    refine lv_iconst (v := -1) F.1 F.2.1 dX7_calls_67 (by decide) ?_
    refine m_ist F w hM 11 (by decide) rfl rfl i1 (show i1 < 12 by omega) (by decide) dX7_calls_68 (fun H locs μ w hM => ?_)
    have hM : RepM cy m0 ad (g_X7_calls_3 G i1 x2) μ := hM
    refine lv_aload_n F.1 F.2.1 dX7_calls_69 rfl (lv_at hl 0 rfl) ?_
    refine lv_iload_n F.1 F.2.1 dX7_calls_70 rfl (lv_at hl 1 rfl) ?_
    refine q_rV (rest := []) F w kV_X7_219 hd_X7_priorityOf (ci := 8) rfl (c_X7_priorityOf l D cy A _ m0 ad (g_X7_calls_3 G i1 x2) hM i1 (show i1 < 12 by omega) (InvM.fr (InvM.fr (InvM.fr hI 0 0 (if f_X7_isShip G (nI i1) = 0 then 1 else (if f_X7_isPort x2 = 0 then 1 else (if G 10 i1 = (-1) then (if f_X7_isBanned G i1 = 0 then 0 else 2) else 2))) rfl) 10 i1 x2 rfl) 11 i1 (-1) rfl)) hM.1 dX7_calls_71 rfl rfl hl.1 ⟨rfl, rfl, Nat.le_of_ble_eq_true rfl, Nat.le_of_ble_eq_true rfl⟩ (Nat.le_of_ble_eq_true rfl) ⟨Nat.zero_le _, Nat.zero_le _⟩ ?_
    exact q_retI (S := Unit) F hr hlk w ⟨(if_pos c_6).symm, RepM.cg hM (if_pos c_6)⟩ dX7_calls_74
  · refine lv_iconst (v := 0) F.1 F.2.1 dX7_calls_53 (by decide) ?_
    exact q_retI (S := Unit) F hr hlk w ⟨(if_neg c_6).symm, RepM.cg hM (if_neg c_6)⟩ dX7_calls_54
def g_X7_calls_b_1 (G : GS) (x1 : Int32) (x2 : Int32) : GS := up2 G 0 0 1
theorem e_g_X7_calls_b_1 (G : GS) (x1 : Int32) (x2 : Int32) {j : Nat} (h : j ∉ [0]) : g_X7_calls_b_1 G x1 x2 j = G j := (up2_ne (fun q => h (by rw [q]; exact List.mem_cons_self))).trans rfl
def f_X7_calls_b (G : GS) (x1 : Int32) (x2 : Int32) : Int32 := 0
def g_X7_calls_b (G : GS) (x1 : Int32) (x2 : Int32) : GS := g_X7_calls_b_1 G x1 x2
set_option maxHeartbeats 4000000 in
set_option maxRecDepth 100000 in
theorem c_X7_calls_b (l : Launch) (D : va_G) (cy : Nat → ClassId) (A : Nat → Prop) (μ : MU) (m0 : Nat) (ad : Nat → Nat) (G : GS) (hM : RepM cy m0 ad G μ) (x1 : Int32) (x2 : Int32) (hb : f_X7_isShip G x1 = 0) : Met l yX7_calls (WS yX7_calls cX7_calls 3 (Option.some Jvm.ClassFile.FieldType.int)) { frames := 2, cells := 0, slots := 0, locals := 43 } (va_Pc [.ref m0, .int x1, .int x2] (Wd D cy A μ)) (va_Qi (fun (r9 : Int32) (μ1 : MU) => r9 = f_X7_calls_b G x1 x2 ∧ RepM cy m0 ad (g_X7_calls_b G x1 x2) μ1) (fun μ1 t => Wd D cy A μ1 t) A) 0 0 A := by
  refine q_met (by decide) (Nat.le_of_ble_eq_true rfl) ?_
  intro p e s m below meth c F w hr hlk hnm ls hl
  have F : CallFix p m c cX7_calls 3 s _ BIG RX7 := F
  have hl : lv_has ls 3 [(0, .ref m0), (1, .int x1), (2, .int x2)] := hl
  refine lv_aload_n F.1 F.2.1 dX7_calls_0 rfl (lv_at hl 0 rfl) ?_
  refine lv_aload_n F.1 F.2.1 dX7_calls_1 rfl (lv_at hl 0 rfl) ?_
  refine lv_iload_n F.1 F.2.1 dX7_calls_2 rfl (lv_at hl 1 rfl) ?_
  refine q_rV (rest := [.ref m0]) F w kV_X7_153 hd_X7_isShip (ci := 8) rfl (c_X7_isShip l D cy A _ m0 ad G hM x1) hM.1 dX7_calls_3 rfl rfl hl.1 ⟨rfl, rfl, Nat.le_of_ble_eq_true rfl, Nat.le_of_ble_eq_true rfl⟩ (Nat.le_of_ble_eq_true rfl) ⟨Nat.zero_le _, Nat.zero_le _⟩ ?_
  refine lv_if_eq (tgt := 16) F.1 F.2.1 dX7_calls_6 (by decide) (fun c_1 => ?_) (fun c_1 => absurd hb c_1)
  refine lv_iconst (v := 1) F.1 F.2.1 dX7_calls_16 (by decide) ?_
  refine lv_goto (tgt := 43) F.1 F.2.1 dX7_calls_17 (by decide) ?_
  refine mp_128 F w hM dX7_calls_43 (fun H locs μ w hM => ?_)
  have hM : RepM cy m0 ad (g_X7_calls_b_1 G x1 x2) μ := hM
  refine lv_aload_n F.1 F.2.1 dX7_calls_46 rfl (lv_at hl 0 rfl) ?_
  refine gf_X7_128 F w hM.1 rfl dX7_calls_47 ?_
  refine lv_fold (y := 1) ((congrFun (up2_eq _ _ _ _) _).trans pk_us) ?_
  refine lv_if_le (tgt := 55) F.1 F.2.1 dX7_calls_50 (by decide) (fun c_2 => absurd c_2 (by decide)) (fun c_2 => ?_)
  refine lv_iconst (v := 0) F.1 F.2.1 dX7_calls_53 (by decide) ?_
  exact q_retI (S := Unit) F hr hlk w ⟨rfl, RepM.cg hM rfl⟩ dX7_calls_54
def g_X7_leaves_1 (G : GS) (i1 : Nat) (i2 : Nat) : GS := up2 G 0 0 (if f_X7_isShip G (nI i1) = 0 then 1 else (if nI i2 = (-1) then 2 else (if G 13 i1 = (-1) then 0 else 2)))
theorem e_g_X7_leaves_1 (G : GS) (i1 : Nat) (i2 : Nat) {j : Nat} (h : j ∉ [0]) : g_X7_leaves_1 G i1 i2 j = G j := (up2_ne (fun q => h (by rw [q]; exact List.mem_cons_self))).trans rfl
def v_X7_leaves_74 (G : GS) (i1 : Nat) (i2 : Nat) : Int32 := if G 11 i1 = (-1) then (if f_X7_priorityOf (g_X7_leaves_1 G i1 i2) i1 = 2 then 1 else 0) else 0
theorem nz_v_X7_leaves_74 (G : GS) (i1 : Nat) (i2 : Nat) : nz (v_X7_leaves_74 G i1 i2) := (nz_ite (nz_ite nz1 nz0) nz0)
def g_X7_leaves_2 (G : GS) (i1 : Nat) (i2 : Nat) : GS := up2 (g_X7_leaves_1 G i1 i2) 43 i2 ((G 43 i2) + (if v_X7_leaves_74 G i1 i2 = 0 then 0 else 1))
theorem e_g_X7_leaves_2 (G : GS) (i1 : Nat) (i2 : Nat) {j : Nat} (h : j ∉ [43, 0]) : g_X7_leaves_2 G i1 i2 j = G j := (up2_ne (fun q => h (by rw [q]; exact List.mem_cons_self))).trans (e_g_X7_leaves_1 G i1 i2 (fun q => h (List.mem_cons_of_mem _ q)))
def g_X7_leaves_3 (G : GS) (i1 : Nat) (i2 : Nat) : GS := up2 (g_X7_leaves_2 G i1 i2) 10 i1 (-1)
theorem e_g_X7_leaves_3 (G : GS) (i1 : Nat) (i2 : Nat) {j : Nat} (h : j ∉ [10, 43, 0]) : g_X7_leaves_3 G i1 i2 j = G j := (up2_ne (fun q => h (by rw [q]; exact List.mem_cons_self))).trans (e_g_X7_leaves_2 G i1 i2 (fun q => h (List.mem_cons_of_mem _ q)))
def g_X7_leaves_4 (G : GS) (i1 : Nat) (i2 : Nat) : GS := up2 (g_X7_leaves_3 G i1 i2) 11 i1 (-1)
theorem e_g_X7_leaves_4 (G : GS) (i1 : Nat) (i2 : Nat) {j : Nat} (h : j ∉ [11, 10, 43, 0]) : g_X7_leaves_4 G i1 i2 j = G j := (up2_ne (fun q => h (by rw [q]; exact List.mem_cons_self))).trans (e_g_X7_leaves_3 G i1 i2 (fun q => h (List.mem_cons_of_mem _ q)))
def f_X7_leaves (G : GS) (i1 : Nat) (i2 : Nat) : Int32 := if (if f_X7_isShip G (nI i1) = 0 then 1 else (if nI i2 = (-1) then 2 else (if G 13 i1 = (-1) then 0 else 2)) : Int32) ≤ 0 then v_X7_leaves_74 G i1 i2 else 0
theorem nz_f_X7_leaves (G : GS) (i1 : Nat) (i2 : Nat) : nz (f_X7_leaves G i1 i2) := (nz_ite (nz_v_X7_leaves_74 _ _ _) nz0)
def g_X7_leaves (G : GS) (i1 : Nat) (i2 : Nat) : GS := if (if f_X7_isShip G (nI i1) = 0 then 1 else (if nI i2 = (-1) then 2 else (if G 13 i1 = (-1) then 0 else 2)) : Int32) ≤ 0 then g_X7_leaves_4 G i1 i2 else g_X7_leaves_1 G i1 i2
set_option maxHeartbeats 4000000 in
set_option maxRecDepth 100000 in
theorem c_X7_leaves (l : Launch) (D : va_G) (cy : Nat → ClassId) (A : Nat → Prop) (μ : MU) (m0 : Nat) (ad : Nat → Nat) (G : GS) (hM : RepM cy m0 ad G μ) (i1 : Nat) (i2 : Nat) (hi1 : i1 < 12) (hi2 : i2 < 4) (hI : InvM G) (hp : G 10 i1 = nI i2) : Met l yX7_leaves (WS yX7_leaves cX7_leaves 3 (Option.some Jvm.ClassFile.FieldType.boolean)) { frames := 5, cells := 0, slots := 0, locals := 117 } (va_Pc [.ref m0, .int (nI i1)] (Wd D cy A μ)) (va_Qi (fun (r9 : Int32) (μ1 : MU) => r9 = f_X7_leaves G i1 i2 ∧ RepM cy m0 ad (g_X7_leaves G i1 i2) μ1) (fun μ1 t => Wd D cy A μ1 t) A) 0 0 A := by
  refine q_met (by decide) (Nat.le_of_ble_eq_true rfl) ?_
  intro p e s m below meth c F w hr hlk hnm ls hl
  have F : CallFix p m c cX7_leaves 3 s _ BIG RX7 := F
  have hl : lv_has ls 3 [(0, .ref m0), (1, .int (nI i1))] := hl
  refine lv_aload_n F.1 F.2.1 dX7_leaves_0 rfl (lv_at hl 0 rfl) ?_
  refine lv_aload_n F.1 F.2.1 dX7_leaves_1 rfl (lv_at hl 0 rfl) ?_
  refine lv_iload_n F.1 F.2.1 dX7_leaves_2 rfl (lv_at hl 1 rfl) ?_
  refine q_rV (rest := [.ref m0]) F w kV_X7_153 hd_X7_isShip (ci := 8) rfl (c_X7_isShip l D cy A _ m0 ad G hM (nI i1)) hM.1 dX7_leaves_3 rfl rfl hl.1 ⟨rfl, rfl, Nat.le_of_ble_eq_true rfl, Nat.le_of_ble_eq_true rfl⟩ (Nat.le_of_ble_eq_true rfl) ⟨Nat.zero_le _, Nat.zero_le _⟩ ?_
  refine jn0 (m := m) (ls := ls) (rest := [.ref m0]) (if f_X7_isShip G (nI i1) = 0 then 1 else (if nI i2 = (-1) then 2 else (if G 13 i1 = (-1) then 0 else 2))) 38 (fun J_1 => ?_) ?_
  · refine lv_if_ne (tgt := 13) F.1 F.2.1 dX7_leaves_6 (by decide) (fun c_2 => ?_) (fun c_2 => ?_)
    · refine lv_aload_n F.1 F.2.1 dX7_leaves_13 rfl (lv_at hl 0 rfl) ?_
      refine gf_X7_32 F w hM.1 rfl dX7_leaves_14 ?_
      refine lv_iload_n F.1 F.2.1 dX7_leaves_17 rfl (lv_at hl 1 rfl) ?_
      refine m_ild F w hM 10 (by decide) rfl rfl i1 (show i1 < 12 by omega) (by decide) dX7_leaves_18 ?_
      refine lv_fold (y := nI i2) (hp) ?_
      refine lv_iconst (v := -1) F.1 F.2.1 dX7_leaves_19 (by decide) ?_
      refine lv_icmp_eq (tgt := 33) F.1 F.2.1 dX7_leaves_20 (by decide) (fun c_3 => ?_) (fun c_3 => ?_)
      · refine lv_iconst (v := 2) F.1 F.2.1 dX7_leaves_33 (by decide) ?_
        refine lv_goto (tgt := 38) F.1 F.2.1 dX7_leaves_34 (by decide) ?_
        exact jn_a ((if_neg c_2).trans (if_pos c_3)) J_1
      · refine lv_aload_n F.1 F.2.1 dX7_leaves_23 rfl (lv_at hl 0 rfl) ?_
        refine gf_X7_41 F w hM.1 rfl dX7_leaves_24 ?_
        refine lv_iload_n F.1 F.2.1 dX7_leaves_27 rfl (lv_at hl 1 rfl) ?_
        refine m_ild F w hM 13 (by decide) rfl rfl i1 (show i1 < 12 by omega) (by decide) dX7_leaves_28 ?_
        refine lv_iconst (v := -1) F.1 F.2.1 dX7_leaves_29 (by decide) ?_
        refine lv_icmp_eq (tgt := 37) F.1 F.2.1 dX7_leaves_30 (by decide) (fun c_4 => ?_) (fun c_4 => ?_)
        · refine lv_iconst (v := 0) F.1 F.2.1 dX7_leaves_37 (by decide) ?_
          exact jn_a ((if_neg c_2).trans ((if_neg c_3).trans (if_pos c_4))) J_1
        · refine lv_iconst (v := 2) F.1 F.2.1 dX7_leaves_33 (by decide) ?_
          refine lv_goto (tgt := 38) F.1 F.2.1 dX7_leaves_34 (by decide) ?_
          exact jn_a ((if_neg c_2).trans ((if_neg c_3).trans (if_neg c_4))) J_1
    · refine lv_iconst (v := 1) F.1 F.2.1 dX7_leaves_9 (by decide) ?_
      refine lv_goto (tgt := 38) F.1 F.2.1 dX7_leaves_10 (by decide) ?_
      exact jn_a (if_pos c_2) J_1
  refine mp_128 F w hM dX7_leaves_38 (fun H locs μ w hM => ?_)
  have hM : RepM cy m0 ad (g_X7_leaves_1 G i1 i2) μ := hM
  refine lv_aload_n F.1 F.2.1 dX7_leaves_41 rfl (lv_at hl 0 rfl) ?_
  refine gf_X7_128 F w hM.1 rfl dX7_leaves_42 ?_
  refine lv_fold (y := if f_X7_isShip G (nI i1) = 0 then 1 else (if nI i2 = (-1) then 2 else (if G 13 i1 = (-1) then 0 else 2))) ((congrFun (up2_eq _ _ _ _) _).trans pk_us) ?_
  refine lv_if_le (tgt := 50) F.1 F.2.1 dX7_leaves_45 (by decide) (fun c_5 => ?_) (fun c_5 => ?_)
  · refine lv_aload_n F.1 F.2.1 dX7_leaves_50 rfl (lv_at hl 0 rfl) ?_
    refine gf_X7_35 F w hM.1 rfl dX7_leaves_51 ?_
    refine lv_iload_n F.1 F.2.1 dX7_leaves_54 rfl (lv_at hl 1 rfl) ?_
    refine m_ild F w hM 11 (by decide) rfl rfl i1 (show i1 < 12 by omega) (by decide) dX7_leaves_55 ?_
    refine lv_fold (y := G 11 i1) (congrFun (e_g_X7_leaves_1 G i1 i2 (by decide)) i1) ?_
    refine lv_iconst (v := -1) F.1 F.2.1 dX7_leaves_56 (by decide) ?_
    refine jn0 (m := m) (ls := ls) (rest := []) (if G 11 i1 = (-1) then (if f_X7_priorityOf (g_X7_leaves_1 G i1 i2) i1 = 2 then 1 else 0) else 0) 74 (fun J_6 => ?_) ?_
    · refine lv_icmp_ne (tgt := 73) F.1 F.2.1 dX7_leaves_57 (by decide) (fun c_7 => ?_) (fun c_7 => ?_)
      · refine lv_iconst (v := 0) F.1 F.2.1 dX7_leaves_73 (by decide) ?_
        exact jn_a (if_neg c_7) J_6
      · refine lv_aload_n F.1 F.2.1 dX7_leaves_60 rfl (lv_at hl 0 rfl) ?_
        refine lv_iload_n F.1 F.2.1 dX7_leaves_61 rfl (lv_at hl 1 rfl) ?_
        refine q_rV (rest := []) F w kV_X7_219 hd_X7_priorityOf (ci := 8) rfl (c_X7_priorityOf l D cy A _ m0 ad (g_X7_leaves_1 G i1 i2) hM i1 (show i1 < 12 by omega) (InvM.fr hI 0 0 (if f_X7_isShip G (nI i1) = 0 then 1 else (if nI i2 = (-1) then 2 else (if G 13 i1 = (-1) then 0 else 2))) rfl)) hM.1 dX7_leaves_62 rfl rfl hl.1 ⟨rfl, rfl, Nat.le_of_ble_eq_true rfl, Nat.le_of_ble_eq_true rfl⟩ (Nat.le_of_ble_eq_true rfl) ⟨Nat.zero_le _, Nat.zero_le _⟩ ?_
        refine lv_iconst (v := 2) F.1 F.2.1 dX7_leaves_65 (by decide) ?_
        refine lv_icmp_ne (tgt := 73) F.1 F.2.1 dX7_leaves_66 (by decide) (fun c_8 => ?_) (fun c_8 => ?_)
        · refine lv_iconst (v := 0) F.1 F.2.1 dX7_leaves_73 (by decide) ?_
          exact jn_a ((if_pos c_7).trans (if_neg c_8)) J_6
        · refine lv_iconst (v := 1) F.1 F.2.1 dX7_leaves_69 (by decide) ?_
          refine lv_goto (tgt := 74) F.1 F.2.1 dX7_leaves_70 (by decide) ?_
          exact jn_a ((if_pos c_7).trans (if_pos c_8)) J_6
    refine lv_fold (y := v_X7_leaves_74 G i1 i2) rfl ?_
    refine lv_istore_n (lv' := [(2, .int (v_X7_leaves_74 G i1 i2)), (0, .ref m0), (1, .int (nI i1))]) F.1 F.2.1 dX7_leaves_74 rfl hl (by decide) rfl (fun ls hl => ?_)
    refine lv_aload_n F.1 F.2.1 dX7_leaves_75 rfl (lv_at hl 1 rfl) ?_
    refine gf_X7_125 F w hM.1 rfl dX7_leaves_76 ?_
    refine lv_aload_n F.1 F.2.1 dX7_leaves_79 rfl (lv_at hl 1 rfl) ?_
    refine gf_X7_32 F w hM.1 rfl dX7_leaves_80 ?_
    refine lv_iload_n F.1 F.2.1 dX7_leaves_83 rfl (lv_at hl 2 rfl) ?_
    refine m_ild F w hM 10 (by decide) rfl rfl i1 (show i1 < 12 by omega) (by decide) dX7_leaves_84 ?_
    refine lv_fold (y := G 10 i1) (congrFun (e_g_X7_leaves_1 G i1 i2 (by decide)) i1) ?_
    refine lv_fold (y := nI i2) (hp) ?_
    refine lv_dup2_11 F.1 F.2.1 dX7_leaves_85 rfl rfl ?_
    refine m_ild F w hM 43 (by decide) rfl rfl i2 (show i2 < 4 by omega) (by decide) dX7_leaves_86 ?_
    refine lv_fold (y := G 43 i2) (congrFun (e_g_X7_leaves_1 G i1 i2 (by decide)) i2) ?_
    refine lv_iload_n F.1 F.2.1 dX7_leaves_87 rfl (lv_at hl 0 rfl) ?_
    refine jn0 (m := m) (ls := ls) (rest := [.int (G 43 i2), .int (nI i2), .ref (ad 43)]) (if v_X7_leaves_74 G i1 i2 = 0 then 0 else 1) 96 (fun J_9 => ?_) ?_
    · refine lv_if_eq (tgt := 95) F.1 F.2.1 dX7_leaves_88 (by decide) (fun c_10 => ?_) (fun c_10 => ?_)
      · refine lv_iconst (v := 0) F.1 F.2.1 dX7_leaves_95 (by decide) ?_
        exact jn_a (if_pos c_10) J_9
      · refine lv_iconst (v := 1) F.1 F.2.1 dX7_leaves_91 (by decide) ?_
        refine lv_goto (tgt := 96) F.1 F.2.1 dX7_leaves_92 (by decide) ?_
        exact jn_a (if_neg c_10) J_9
    refine lv_iadd F.1 F.2.1 dX7_leaves_96 ?_
    refine m_ist F w hM 43 (by decide) rfl rfl i2 (show i2 < 4 by omega) (by decide) dX7_leaves_97 (fun H locs μ w hM => ?_)
    have hM : RepM cy m0 ad (g_X7_leaves_2 G i1 i2) μ := hM
    refine lv_aload_n F.1 F.2.1 dX7_leaves_98 rfl (lv_at hl 1 rfl) ?_
    refine gf_X7_32 F w hM.1 rfl dX7_leaves_99 ?_
    refine lv_iload_n F.1 F.2.1 dX7_leaves_102 rfl (lv_at hl 2 rfl) ?_
    refine lv_iconst (v := -1) F.1 F.2.1 dX7_leaves_103 (by decide) ?_
    refine m_ist F w hM 10 (by decide) rfl rfl i1 (show i1 < 12 by omega) (by decide) dX7_leaves_104 (fun H locs μ w hM => ?_)
    have hM : RepM cy m0 ad (g_X7_leaves_3 G i1 i2) μ := hM
    refine lv_aload_n F.1 F.2.1 dX7_leaves_105 rfl (lv_at hl 1 rfl) ?_
    refine gf_X7_35 F w hM.1 rfl dX7_leaves_106 ?_
    refine lv_iload_n F.1 F.2.1 dX7_leaves_109 rfl (lv_at hl 2 rfl) ?_
    refine lv_iconst (v := -1) F.1 F.2.1 dX7_leaves_110 (by decide) ?_
    refine m_ist F w hM 11 (by decide) rfl rfl i1 (show i1 < 12 by omega) (by decide) dX7_leaves_111 (fun H locs μ w hM => ?_)
    have hM : RepM cy m0 ad (g_X7_leaves_4 G i1 i2) μ := hM
    refine lv_iload_n F.1 F.2.1 dX7_leaves_112 rfl (lv_at hl 0 rfl) ?_
    exact q_retZ (S := Unit) F hr hlk w ⟨(if_pos c_5).symm, RepM.cg hM (if_pos c_5)⟩ (nz_v_X7_leaves_74 _ _ _) dX7_leaves_113
  · refine lv_iconst (v := 0) F.1 F.2.1 dX7_leaves_48 (by decide) ?_
    exact q_retZ (S := Unit) F hr hlk w ⟨(if_neg c_5).symm, RepM.cg hM (if_neg c_5)⟩ nz0 dX7_leaves_49
def g_X7_leaves_n_1 (G : GS) (i1 : Nat) : GS := up2 G 0 0 (if f_X7_isShip G (nI i1) = 0 then 1 else 2)
theorem e_g_X7_leaves_n_1 (G : GS) (i1 : Nat) {j : Nat} (h : j ∉ [0]) : g_X7_leaves_n_1 G i1 j = G j := (up2_ne (fun q => h (by rw [q]; exact List.mem_cons_self))).trans rfl
def f_X7_leaves_n (G : GS) (i1 : Nat) : Int32 := 0
theorem nz_f_X7_leaves_n (G : GS) (i1 : Nat) : nz (f_X7_leaves_n G i1) := nz0
def g_X7_leaves_n (G : GS) (i1 : Nat) : GS := g_X7_leaves_n_1 G i1
set_option maxHeartbeats 4000000 in
set_option maxRecDepth 100000 in
theorem c_X7_leaves_n (l : Launch) (D : va_G) (cy : Nat → ClassId) (A : Nat → Prop) (μ : MU) (m0 : Nat) (ad : Nat → Nat) (G : GS) (hM : RepM cy m0 ad G μ) (i1 : Nat) (hi1 : i1 < 12) (hb : G 10 i1 = -1) : Met l yX7_leaves (WS yX7_leaves cX7_leaves 3 (Option.some Jvm.ClassFile.FieldType.boolean)) { frames := 2, cells := 0, slots := 0, locals := 43 } (va_Pc [.ref m0, .int (nI i1)] (Wd D cy A μ)) (va_Qi (fun (r9 : Int32) (μ1 : MU) => r9 = f_X7_leaves_n G i1 ∧ RepM cy m0 ad (g_X7_leaves_n G i1) μ1) (fun μ1 t => Wd D cy A μ1 t) A) 0 0 A := by
  refine q_met (by decide) (Nat.le_of_ble_eq_true rfl) ?_
  intro p e s m below meth c F w hr hlk hnm ls hl
  have F : CallFix p m c cX7_leaves 3 s _ BIG RX7 := F
  have hl : lv_has ls 3 [(0, .ref m0), (1, .int (nI i1))] := hl
  refine lv_aload_n F.1 F.2.1 dX7_leaves_0 rfl (lv_at hl 0 rfl) ?_
  refine lv_aload_n F.1 F.2.1 dX7_leaves_1 rfl (lv_at hl 0 rfl) ?_
  refine lv_iload_n F.1 F.2.1 dX7_leaves_2 rfl (lv_at hl 1 rfl) ?_
  refine q_rV (rest := [.ref m0]) F w kV_X7_153 hd_X7_isShip (ci := 8) rfl (c_X7_isShip l D cy A _ m0 ad G hM (nI i1)) hM.1 dX7_leaves_3 rfl rfl hl.1 ⟨rfl, rfl, Nat.le_of_ble_eq_true rfl, Nat.le_of_ble_eq_true rfl⟩ (Nat.le_of_ble_eq_true rfl) ⟨Nat.zero_le _, Nat.zero_le _⟩ ?_
  refine jn0 (m := m) (ls := ls) (rest := [.ref m0]) (if f_X7_isShip G (nI i1) = 0 then 1 else 2) 38 (fun J_1 => ?_) ?_
  · refine lv_if_ne (tgt := 13) F.1 F.2.1 dX7_leaves_6 (by decide) (fun c_2 => ?_) (fun c_2 => ?_)
    · refine lv_aload_n F.1 F.2.1 dX7_leaves_13 rfl (lv_at hl 0 rfl) ?_
      refine gf_X7_32 F w hM.1 rfl dX7_leaves_14 ?_
      refine lv_iload_n F.1 F.2.1 dX7_leaves_17 rfl (lv_at hl 1 rfl) ?_
      refine m_ild F w hM 10 (by decide) rfl rfl i1 (show i1 < 12 by omega) (by decide) dX7_leaves_18 ?_
      refine lv_iconst (v := -1) F.1 F.2.1 dX7_leaves_19 (by decide) ?_
      refine lv_icmp_eq (tgt := 33) F.1 F.2.1 dX7_leaves_20 (by decide) (fun c_3 => ?_) (fun c_3 => absurd hb c_3)
      refine lv_iconst (v := 2) F.1 F.2.1 dX7_leaves_33 (by decide) ?_
      refine lv_goto (tgt := 38) F.1 F.2.1 dX7_leaves_34 (by decide) ?_
      exact jn_a (if_neg c_2) J_1
    · refine lv_iconst (v := 1) F.1 F.2.1 dX7_leaves_9 (by decide) ?_
      refine lv_goto (tgt := 38) F.1 F.2.1 dX7_leaves_10 (by decide) ?_
      exact jn_a (if_pos c_2) J_1
  refine mp_128 F w hM dX7_leaves_38 (fun H locs μ w hM => ?_)
  have hM : RepM cy m0 ad (g_X7_leaves_n_1 G i1) μ := hM
  refine lv_aload_n F.1 F.2.1 dX7_leaves_41 rfl (lv_at hl 0 rfl) ?_
  refine gf_X7_128 F w hM.1 rfl dX7_leaves_42 ?_
  refine lv_fold (y := if f_X7_isShip G (nI i1) = 0 then 1 else 2) ((congrFun (up2_eq _ _ _ _) _).trans pk_us) ?_
  refine lv_if_le (tgt := 50) F.1 F.2.1 dX7_leaves_45 (by decide) (fun c_4 => absurd c_4 (by (repeat' split) <;> decide)) (fun c_4 => ?_)
  refine lv_iconst (v := 0) F.1 F.2.1 dX7_leaves_48 (by decide) ?_
  exact q_retZ (S := Unit) F hr hlk w ⟨rfl, RepM.cg hM rfl⟩ nz0 dX7_leaves_49
def g_X7_leaves_b_1 (G : GS) (x1 : Int32) : GS := up2 G 0 0 1
theorem e_g_X7_leaves_b_1 (G : GS) (x1 : Int32) {j : Nat} (h : j ∉ [0]) : g_X7_leaves_b_1 G x1 j = G j := (up2_ne (fun q => h (by rw [q]; exact List.mem_cons_self))).trans rfl
def f_X7_leaves_b (G : GS) (x1 : Int32) : Int32 := 0
theorem nz_f_X7_leaves_b (G : GS) (x1 : Int32) : nz (f_X7_leaves_b G x1) := nz0
def g_X7_leaves_b (G : GS) (x1 : Int32) : GS := g_X7_leaves_b_1 G x1
set_option maxHeartbeats 4000000 in
set_option maxRecDepth 100000 in
theorem c_X7_leaves_b (l : Launch) (D : va_G) (cy : Nat → ClassId) (A : Nat → Prop) (μ : MU) (m0 : Nat) (ad : Nat → Nat) (G : GS) (hM : RepM cy m0 ad G μ) (x1 : Int32) (hb : f_X7_isShip G x1 = 0) : Met l yX7_leaves (WS yX7_leaves cX7_leaves 3 (Option.some Jvm.ClassFile.FieldType.boolean)) { frames := 2, cells := 0, slots := 0, locals := 43 } (va_Pc [.ref m0, .int x1] (Wd D cy A μ)) (va_Qi (fun (r9 : Int32) (μ1 : MU) => r9 = f_X7_leaves_b G x1 ∧ RepM cy m0 ad (g_X7_leaves_b G x1) μ1) (fun μ1 t => Wd D cy A μ1 t) A) 0 0 A := by
  refine q_met (by decide) (Nat.le_of_ble_eq_true rfl) ?_
  intro p e s m below meth c F w hr hlk hnm ls hl
  have F : CallFix p m c cX7_leaves 3 s _ BIG RX7 := F
  have hl : lv_has ls 3 [(0, .ref m0), (1, .int x1)] := hl
  refine lv_aload_n F.1 F.2.1 dX7_leaves_0 rfl (lv_at hl 0 rfl) ?_
  refine lv_aload_n F.1 F.2.1 dX7_leaves_1 rfl (lv_at hl 0 rfl) ?_
  refine lv_iload_n F.1 F.2.1 dX7_leaves_2 rfl (lv_at hl 1 rfl) ?_
  refine q_rV (rest := [.ref m0]) F w kV_X7_153 hd_X7_isShip (ci := 8) rfl (c_X7_isShip l D cy A _ m0 ad G hM x1) hM.1 dX7_leaves_3 rfl rfl hl.1 ⟨rfl, rfl, Nat.le_of_ble_eq_true rfl, Nat.le_of_ble_eq_true rfl⟩ (Nat.le_of_ble_eq_true rfl) ⟨Nat.zero_le _, Nat.zero_le _⟩ ?_
  refine lv_if_ne (tgt := 13) F.1 F.2.1 dX7_leaves_6 (by decide) (fun c_1 => absurd hb c_1) (fun c_1 => ?_)
  refine lv_iconst (v := 1) F.1 F.2.1 dX7_leaves_9 (by decide) ?_
  refine lv_goto (tgt := 38) F.1 F.2.1 dX7_leaves_10 (by decide) ?_
  refine mp_128 F w hM dX7_leaves_38 (fun H locs μ w hM => ?_)
  have hM : RepM cy m0 ad (g_X7_leaves_b_1 G x1) μ := hM
  refine lv_aload_n F.1 F.2.1 dX7_leaves_41 rfl (lv_at hl 0 rfl) ?_
  refine gf_X7_128 F w hM.1 rfl dX7_leaves_42 ?_
  refine lv_fold (y := 1) ((congrFun (up2_eq _ _ _ _) _).trans pk_us) ?_
  refine lv_if_le (tgt := 50) F.1 F.2.1 dX7_leaves_45 (by decide) (fun c_2 => absurd c_2 (by decide)) (fun c_2 => ?_)
  refine lv_iconst (v := 0) F.1 F.2.1 dX7_leaves_48 (by decide) ?_
  exact q_retZ (S := Unit) F hr hlk w ⟨rfl, RepM.cg hM rfl⟩ nz0 dX7_leaves_49
def g_X7_visit_1 (G : GS) (i1 : Nat) : GS := up2 G 0 0 (if f_X7_isShip G (nI i1) = 0 then 1 else (if G 10 i1 = (-1) then 2 else (if G 11 i1 = (-1) then (if nI (gnV G) = 60 then 2 else 0) else 2)))
theorem e_g_X7_visit_1 (G : GS) (i1 : Nat) {j : Nat} (h : j ∉ [0]) : g_X7_visit_1 G i1 j = G j := (up2_ne (fun q => h (by rw [q]; exact List.mem_cons_self))).trans rfl
def v_X7_visit_90 (G : GS) (i1 : Nat) : Int32 := if f_X7_riskOf (g_X7_visit_1 G i1) i1 = 2 then 1 else (if f_X7_isOld (g_X7_visit_1 G i1) i1 = 0 then 0 else (if G 6 i1 = 0 then 0 else 1))
theorem nz_v_X7_visit_90 (G : GS) (i1 : Nat) : nz (v_X7_visit_90 G i1) := (nz_ite nz1 (nz_ite nz0 (nz_ite nz0 nz1)))
def v_X7_visit_112 (G : GS) (i1 : Nat) : Int32 := if f_X7_lapsedOf (g_X7_visit_1 G i1) i1 = 0 then (if f_X7_hasOff (g_X7_visit_1 G i1) i1 = 0 then 0 else 1) else 1
theorem nz_v_X7_visit_112 (G : GS) (i1 : Nat) : nz (v_X7_visit_112 G i1) := (nz_ite (nz_ite nz0 nz1) nz1)
def g_X7_visit_2 (G : GS) (i1 : Nat) : GS := up2 (g_X7_visit_1 G i1) 33 (gnV G) (if v_X7_visit_90 G i1 = 0 then (if v_X7_visit_112 G i1 = 0 then 0 else 1) else 2)
theorem e_g_X7_visit_2 (G : GS) (i1 : Nat) {j : Nat} (h : j ∉ [33, 0]) : g_X7_visit_2 G i1 j = G j := (up2_ne (fun q => h (by rw [q]; exact List.mem_cons_self))).trans (e_g_X7_visit_1 G i1 (fun q => h (List.mem_cons_of_mem _ q)))
def g_X7_visit_3 (G : GS) (i1 : Nat) : GS := up2 (g_X7_visit_2 G i1) 30 (gnV G) (nI i1)
theorem e_g_X7_visit_3 (G : GS) (i1 : Nat) {j : Nat} (h : j ∉ [30, 33, 0]) : g_X7_visit_3 G i1 j = G j := (up2_ne (fun q => h (by rw [q]; exact List.mem_cons_self))).trans (e_g_X7_visit_2 G i1 (fun q => h (List.mem_cons_of_mem _ q)))
def g_X7_visit_4 (G : GS) (i1 : Nat) : GS := up2 (g_X7_visit_3 G i1) 31 (gnV G) (G 10 i1)
theorem e_g_X7_visit_4 (G : GS) (i1 : Nat) {j : Nat} (h : j ∉ [31, 30, 33, 0]) : g_X7_visit_4 G i1 j = G j := (up2_ne (fun q => h (by rw [q]; exact List.mem_cons_self))).trans (e_g_X7_visit_3 G i1 (fun q => h (List.mem_cons_of_mem _ q)))
def g_X7_visit_5 (G : GS) (i1 : Nat) : GS := up2 (g_X7_visit_4 G i1) 32 (gnV G) (G 1 0)
theorem e_g_X7_visit_5 (G : GS) (i1 : Nat) {j : Nat} (h : j ∉ [32, 31, 30, 33, 0]) : g_X7_visit_5 G i1 j = G j := (up2_ne (fun q => h (by rw [q]; exact List.mem_cons_self))).trans (e_g_X7_visit_4 G i1 (fun q => h (List.mem_cons_of_mem _ q)))
def g_X7_visit_6 (G : GS) (i1 : Nat) : GS := up2 (g_X7_visit_5 G i1) 34 (gnV G) (G 7 i1)
theorem e_g_X7_visit_6 (G : GS) (i1 : Nat) {j : Nat} (h : j ∉ [34, 32, 31, 30, 33, 0]) : g_X7_visit_6 G i1 j = G j := (up2_ne (fun q => h (by rw [q]; exact List.mem_cons_self))).trans (e_g_X7_visit_5 G i1 (fun q => h (List.mem_cons_of_mem _ q)))
def g_X7_visit_7 (G : GS) (i1 : Nat) : GS := up2 (g_X7_visit_6 G i1) 38 (gnV G) (-1)
theorem e_g_X7_visit_7 (G : GS) (i1 : Nat) {j : Nat} (h : j ∉ [38, 34, 32, 31, 30, 33, 0]) : g_X7_visit_7 G i1 j = G j := (up2_ne (fun q => h (by rw [q]; exact List.mem_cons_self))).trans (e_g_X7_visit_6 G i1 (fun q => h (List.mem_cons_of_mem _ q)))
def g_X7_visit_8 (G : GS) (i1 : Nat) : GS := up2 (g_X7_visit_7 G i1) 11 i1 (nI (gnV G))
theorem e_g_X7_visit_8 (G : GS) (i1 : Nat) {j : Nat} (h : j ∉ [11, 38, 34, 32, 31, 30, 33, 0]) : g_X7_visit_8 G i1 j = G j := (up2_ne (fun q => h (by rw [q]; exact List.mem_cons_self))).trans (e_g_X7_visit_7 G i1 (fun q => h (List.mem_cons_of_mem _ q)))
def g_X7_visit_9 (G : GS) (i1 : Nat) : GS := up2 (g_X7_visit_8 G i1) 12 i1 (nI (gnV G))
theorem e_g_X7_visit_9 (G : GS) (i1 : Nat) {j : Nat} (h : j ∉ [12, 11, 38, 34, 32, 31, 30, 33, 0]) : g_X7_visit_9 G i1 j = G j := (up2_ne (fun q => h (by rw [q]; exact List.mem_cons_self))).trans (e_g_X7_visit_8 G i1 (fun q => h (List.mem_cons_of_mem _ q)))
def g_X7_visit_10 (G : GS) (i1 : Nat) : GS := up2 (g_X7_visit_9 G i1) 29 0 ((nI (gnV G)) + 1)
theorem e_g_X7_visit_10 (G : GS) (i1 : Nat) {j : Nat} (h : j ∉ [29, 12, 11, 38, 34, 32, 31, 30, 33, 0]) : g_X7_visit_10 G i1 j = G j := (up2_ne (fun q => h (by rw [q]; exact List.mem_cons_self))).trans (e_g_X7_visit_9 G i1 (fun q => h (List.mem_cons_of_mem _ q)))
def f_X7_visit (G : GS) (i1 : Nat) : Int32 := if (if f_X7_isShip G (nI i1) = 0 then 1 else (if G 10 i1 = (-1) then 2 else (if G 11 i1 = (-1) then (if nI (gnV G) = 60 then 2 else 0) else 2)) : Int32) ≤ 0 then ((nI (gnV G)) + 1) - 1 else 0
def g_X7_visit (G : GS) (i1 : Nat) : GS := if (if f_X7_isShip G (nI i1) = 0 then 1 else (if G 10 i1 = (-1) then 2 else (if G 11 i1 = (-1) then (if nI (gnV G) = 60 then 2 else 0) else 2)) : Int32) ≤ 0 then g_X7_visit_10 G i1 else g_X7_visit_1 G i1
set_option maxHeartbeats 4000000 in
set_option maxRecDepth 100000 in
theorem c_X7_visit (l : Launch) (D : va_G) (cy : Nat → ClassId) (A : Nat → Prop) (μ : MU) (m0 : Nat) (ad : Nat → Nat) (G : GS) (hM : RepM cy m0 ad G μ) (i1 : Nat) (hi1 : i1 < 12) (hI : InvM G) (hlt : gnV G < 60) : Met l yX7_visit (WS yX7_visit cX7_visit 4 (Option.some Jvm.ClassFile.FieldType.int)) { frames := 5, cells := 0, slots := 0, locals := 111 } (va_Pc [.ref m0, .int (nI i1)] (Wd D cy A μ)) (va_Qi (fun (r9 : Int32) (μ1 : MU) => r9 = f_X7_visit G i1 ∧ RepM cy m0 ad (g_X7_visit G i1) μ1) (fun μ1 t => Wd D cy A μ1 t) A) 0 0 A := by
  refine q_met (by decide) (Nat.le_of_ble_eq_true rfl) ?_
  intro p e s m below meth c F w hr hlk hnm ls hl
  have F : CallFix p m c cX7_visit 4 s _ BIG RX7 := F
  have hl : lv_has ls 4 [(0, .ref m0), (1, .int (nI i1))] := hl
  refine lv_aload_n F.1 F.2.1 dX7_visit_0 rfl (lv_at hl 0 rfl) ?_
  refine lv_aload_n F.1 F.2.1 dX7_visit_1 rfl (lv_at hl 0 rfl) ?_
  refine lv_iload_n F.1 F.2.1 dX7_visit_2 rfl (lv_at hl 1 rfl) ?_
  refine q_rV (rest := [.ref m0]) F w kV_X7_153 hd_X7_isShip (ci := 8) rfl (c_X7_isShip l D cy A _ m0 ad G hM (nI i1)) hM.1 dX7_visit_3 rfl rfl hl.1 ⟨rfl, rfl, Nat.le_of_ble_eq_true rfl, Nat.le_of_ble_eq_true rfl⟩ (Nat.le_of_ble_eq_true rfl) ⟨Nat.zero_le _, Nat.zero_le _⟩ ?_
  refine jn0 (m := m) (ls := ls) (rest := [.ref m0]) (if f_X7_isShip G (nI i1) = 0 then 1 else (if G 10 i1 = (-1) then 2 else (if G 11 i1 = (-1) then (if nI (gnV G) = 60 then 2 else 0) else 2))) 47 (fun J_1 => ?_) ?_
  · refine lv_if_ne (tgt := 13) F.1 F.2.1 dX7_visit_6 (by decide) (fun c_2 => ?_) (fun c_2 => ?_)
    · refine lv_aload_n F.1 F.2.1 dX7_visit_13 rfl (lv_at hl 0 rfl) ?_
      refine gf_X7_32 F w hM.1 rfl dX7_visit_14 ?_
      refine lv_iload_n F.1 F.2.1 dX7_visit_17 rfl (lv_at hl 1 rfl) ?_
      refine m_ild F w hM 10 (by decide) rfl rfl i1 (show i1 < 12 by omega) (by decide) dX7_visit_18 ?_
      refine lv_iconst (v := -1) F.1 F.2.1 dX7_visit_19 (by decide) ?_
      refine lv_icmp_eq (tgt := 42) F.1 F.2.1 dX7_visit_20 (by decide) (fun c_3 => ?_) (fun c_3 => ?_)
      · refine lv_iconst (v := 2) F.1 F.2.1 dX7_visit_42 (by decide) ?_
        refine lv_goto (tgt := 47) F.1 F.2.1 dX7_visit_43 (by decide) ?_
        exact jn_a ((if_neg c_2).trans (if_pos c_3)) J_1
      · refine lv_aload_n F.1 F.2.1 dX7_visit_23 rfl (lv_at hl 0 rfl) ?_
        refine gf_X7_35 F w hM.1 rfl dX7_visit_24 ?_
        refine lv_iload_n F.1 F.2.1 dX7_visit_27 rfl (lv_at hl 1 rfl) ?_
        refine m_ild F w hM 11 (by decide) rfl rfl i1 (show i1 < 12 by omega) (by decide) dX7_visit_28 ?_
        refine lv_iconst (v := -1) F.1 F.2.1 dX7_visit_29 (by decide) ?_
        refine lv_icmp_ne (tgt := 42) F.1 F.2.1 dX7_visit_30 (by decide) (fun c_4 => ?_) (fun c_4 => ?_)
        · refine lv_iconst (v := 2) F.1 F.2.1 dX7_visit_42 (by decide) ?_
          refine lv_goto (tgt := 47) F.1 F.2.1 dX7_visit_43 (by decide) ?_
          exact jn_a ((if_neg c_2).trans ((if_neg c_3).trans (if_neg c_4))) J_1
        · refine lv_aload_n F.1 F.2.1 dX7_visit_33 rfl (lv_at hl 0 rfl) ?_
          refine gf_X7_139 F w hM.1 rfl dX7_visit_34 ?_
          refine lv_fold (y := nI (gnV G)) (hI.v.1) ?_
          refine lv_bipush (v := 60) F.1 F.2.1 dX7_visit_37 (by decide) ?_
          refine lv_icmp_ne (tgt := 46) F.1 F.2.1 dX7_visit_39 (by decide) (fun c_5 => ?_) (fun c_5 => ?_)
          · refine lv_iconst (v := 0) F.1 F.2.1 dX7_visit_46 (by decide) ?_
            exact jn_a ((if_neg c_2).trans ((if_neg c_3).trans ((if_pos c_4).trans (if_neg c_5)))) J_1
          · refine lv_iconst (v := 2) F.1 F.2.1 dX7_visit_42 (by decide) ?_
            refine lv_goto (tgt := 47) F.1 F.2.1 dX7_visit_43 (by decide) ?_
            exact jn_a ((if_neg c_2).trans ((if_neg c_3).trans ((if_pos c_4).trans (if_pos c_5)))) J_1
    · refine lv_iconst (v := 1) F.1 F.2.1 dX7_visit_9 (by decide) ?_
      refine lv_goto (tgt := 47) F.1 F.2.1 dX7_visit_10 (by decide) ?_
      exact jn_a (if_pos c_2) J_1
  refine mp_128 F w hM dX7_visit_47 (fun H locs μ w hM => ?_)
  have hM : RepM cy m0 ad (g_X7_visit_1 G i1) μ := hM
  refine lv_aload_n F.1 F.2.1 dX7_visit_50 rfl (lv_at hl 0 rfl) ?_
  refine gf_X7_128 F w hM.1 rfl dX7_visit_51 ?_
  refine lv_fold (y := if f_X7_isShip G (nI i1) = 0 then 1 else (if G 10 i1 = (-1) then 2 else (if G 11 i1 = (-1) then (if nI (gnV G) = 60 then 2 else 0) else 2))) ((congrFun (up2_eq _ _ _ _) _).trans pk_us) ?_
  refine lv_if_le (tgt := 59) F.1 F.2.1 dX7_visit_54 (by decide) (fun c_6 => ?_) (fun c_6 => ?_)
  · refine lv_aload_n F.1 F.2.1 dX7_visit_59 rfl (lv_at hl 0 rfl) ?_
    refine lv_iload_n F.1 F.2.1 dX7_visit_60 rfl (lv_at hl 1 rfl) ?_
    refine q_rV (rest := []) F w kV_X7_210 hd_X7_riskOf (ci := 8) rfl (c_X7_riskOf l D cy A _ m0 ad (g_X7_visit_1 G i1) hM i1 (show i1 < 12 by omega) (InvM.fr hI 0 0 (if f_X7_isShip G (nI i1) = 0 then 1 else (if G 10 i1 = (-1) then 2 else (if G 11 i1 = (-1) then (if nI (gnV G) = 60 then 2 else 0) else 2))) rfl)) hM.1 dX7_visit_61 rfl rfl hl.1 ⟨rfl, rfl, Nat.le_of_ble_eq_true rfl, Nat.le_of_ble_eq_true rfl⟩ (Nat.le_of_ble_eq_true rfl) ⟨Nat.zero_le _, Nat.zero_le _⟩ ?_
    refine lv_iconst (v := 2) F.1 F.2.1 dX7_visit_64 (by decide) ?_
    refine jn0 (m := m) (ls := ls) (rest := []) (if f_X7_riskOf (g_X7_visit_1 G i1) i1 = 2 then 1 else (if f_X7_isOld (g_X7_visit_1 G i1) i1 = 0 then 0 else (if G 6 i1 = 0 then 0 else 1))) 90 (fun J_7 => ?_) ?_
    · refine lv_icmp_eq (tgt := 85) F.1 F.2.1 dX7_visit_65 (by decide) (fun c_8 => ?_) (fun c_8 => ?_)
      · refine lv_iconst (v := 1) F.1 F.2.1 dX7_visit_85 (by decide) ?_
        refine lv_goto (tgt := 90) F.1 F.2.1 dX7_visit_86 (by decide) ?_
        exact jn_a (if_pos c_8) J_7
      · refine lv_aload_n F.1 F.2.1 dX7_visit_68 rfl (lv_at hl 0 rfl) ?_
        refine lv_iload_n F.1 F.2.1 dX7_visit_69 rfl (lv_at hl 1 rfl) ?_
        refine q_rV (rest := []) F w kV_X7_198 hd_X7_isOld (ci := 8) rfl (c_X7_isOld l D cy A _ m0 ad (g_X7_visit_1 G i1) hM i1 (show i1 < 12 by omega)) hM.1 dX7_visit_70 rfl rfl hl.1 ⟨rfl, rfl, Nat.le_of_ble_eq_true rfl, Nat.le_of_ble_eq_true rfl⟩ (Nat.le_of_ble_eq_true rfl) ⟨Nat.zero_le _, Nat.zero_le _⟩ ?_
        refine lv_if_eq (tgt := 89) F.1 F.2.1 dX7_visit_73 (by decide) (fun c_9 => ?_) (fun c_9 => ?_)
        · refine lv_iconst (v := 0) F.1 F.2.1 dX7_visit_89 (by decide) ?_
          exact jn_a ((if_neg c_8).trans (if_pos c_9)) J_7
        · refine lv_aload_n F.1 F.2.1 dX7_visit_76 rfl (lv_at hl 0 rfl) ?_
          refine gf_X7_20 F w hM.1 rfl dX7_visit_77 ?_
          refine lv_iload_n F.1 F.2.1 dX7_visit_80 rfl (lv_at hl 1 rfl) ?_
          refine m_ild F w hM 6 (by decide) rfl rfl i1 (show i1 < 12 by omega) (by decide) dX7_visit_81 ?_
          refine lv_fold (y := G 6 i1) (congrFun (e_g_X7_visit_1 G i1 (by decide)) i1) ?_
          refine lv_if_eq (tgt := 89) F.1 F.2.1 dX7_visit_82 (by decide) (fun c_10 => ?_) (fun c_10 => ?_)
          · refine lv_iconst (v := 0) F.1 F.2.1 dX7_visit_89 (by decide) ?_
            exact jn_a ((if_neg c_8).trans ((if_neg c_9).trans (if_pos c_10))) J_7
          · refine lv_iconst (v := 1) F.1 F.2.1 dX7_visit_85 (by decide) ?_
            refine lv_goto (tgt := 90) F.1 F.2.1 dX7_visit_86 (by decide) ?_
            exact jn_a ((if_neg c_8).trans ((if_neg c_9).trans (if_neg c_10))) J_7
    refine lv_fold (y := v_X7_visit_90 G i1) rfl ?_
    refine lv_istore_n (lv' := [(2, .int (v_X7_visit_90 G i1)), (0, .ref m0), (1, .int (nI i1))]) F.1 F.2.1 dX7_visit_90 rfl hl (by decide) rfl (fun ls hl => ?_)
    refine lv_aload_n F.1 F.2.1 dX7_visit_91 rfl (lv_at hl 1 rfl) ?_
    refine lv_iload_n F.1 F.2.1 dX7_visit_92 rfl (lv_at hl 2 rfl) ?_
    refine q_rV (rest := []) F w kV_X7_222 hd_X7_lapsedOf (ci := 8) rfl (c_X7_lapsedOf l D cy A _ m0 ad (g_X7_visit_1 G i1) hM i1 (show i1 < 12 by omega) (InvM.fr hI 0 0 (if f_X7_isShip G (nI i1) = 0 then 1 else (if G 10 i1 = (-1) then 2 else (if G 11 i1 = (-1) then (if nI (gnV G) = 60 then 2 else 0) else 2))) rfl)) hM.1 dX7_visit_93 rfl rfl hl.1 ⟨rfl, rfl, Nat.le_of_ble_eq_true rfl, Nat.le_of_ble_eq_true rfl⟩ (Nat.le_of_ble_eq_true rfl) ⟨Nat.zero_le _, Nat.zero_le _⟩ ?_
    refine jn0 (m := m) (ls := ls) (rest := []) (if f_X7_lapsedOf (g_X7_visit_1 G i1) i1 = 0 then (if f_X7_hasOff (g_X7_visit_1 G i1) i1 = 0 then 0 else 1) else 1) 112 (fun J_11 => ?_) ?_
    · refine lv_if_ne (tgt := 107) F.1 F.2.1 dX7_visit_96 (by decide) (fun c_12 => ?_) (fun c_12 => ?_)
      · refine lv_iconst (v := 1) F.1 F.2.1 dX7_visit_107 (by decide) ?_
        refine lv_goto (tgt := 112) F.1 F.2.1 dX7_visit_108 (by decide) ?_
        exact jn_a (if_neg c_12) J_11
      · refine lv_aload_n F.1 F.2.1 dX7_visit_99 rfl (lv_at hl 1 rfl) ?_
        refine lv_iload_n F.1 F.2.1 dX7_visit_100 rfl (lv_at hl 2 rfl) ?_
        refine q_rV (rest := []) F w kV_X7_225 hd_X7_hasOff (ci := 8) rfl (c_X7_hasOff l D cy A _ m0 ad (g_X7_visit_1 G i1) hM i1 (show i1 < 12 by omega) (InvM.fr hI 0 0 (if f_X7_isShip G (nI i1) = 0 then 1 else (if G 10 i1 = (-1) then 2 else (if G 11 i1 = (-1) then (if nI (gnV G) = 60 then 2 else 0) else 2))) rfl)) hM.1 dX7_visit_101 rfl rfl hl.1 ⟨rfl, rfl, Nat.le_of_ble_eq_true rfl, Nat.le_of_ble_eq_true rfl⟩ (Nat.le_of_ble_eq_true rfl) ⟨Nat.zero_le _, Nat.zero_le _⟩ ?_
        refine lv_if_eq (tgt := 111) F.1 F.2.1 dX7_visit_104 (by decide) (fun c_13 => ?_) (fun c_13 => ?_)
        · refine lv_iconst (v := 0) F.1 F.2.1 dX7_visit_111 (by decide) ?_
          exact jn_a ((if_pos c_12).trans (if_pos c_13)) J_11
        · refine lv_iconst (v := 1) F.1 F.2.1 dX7_visit_107 (by decide) ?_
          refine lv_goto (tgt := 112) F.1 F.2.1 dX7_visit_108 (by decide) ?_
          exact jn_a ((if_pos c_12).trans (if_neg c_13)) J_11
    refine lv_fold (y := v_X7_visit_112 G i1) rfl ?_
    refine lv_istore_n (lv' := [(3, .int (v_X7_visit_112 G i1)), (2, .int (v_X7_visit_90 G i1)), (0, .ref m0), (1, .int (nI i1))]) F.1 F.2.1 dX7_visit_112 rfl hl (by decide) rfl (fun ls hl => ?_)
    refine lv_aload_n F.1 F.2.1 dX7_visit_113 rfl (lv_at hl 2 rfl) ?_
    refine gf_X7_95 F w hM.1 rfl dX7_visit_114 ?_
    refine lv_aload_n F.1 F.2.1 dX7_visit_117 rfl (lv_at hl 2 rfl) ?_
    refine gf_X7_139 F w hM.1 rfl dX7_visit_118 ?_
    refine lv_fold (y := G 29 0) (congrFun (e_g_X7_visit_1 G i1 (by decide)) 0) ?_
    refine lv_fold (y := nI (gnV G)) (hI.v.1) ?_
    refine lv_iload_n F.1 F.2.1 dX7_visit_121 rfl (lv_at hl 1 rfl) ?_
    refine jn0 (m := m) (ls := ls) (rest := [.int (nI (gnV G)), .ref (ad 33)]) (if v_X7_visit_90 G i1 = 0 then (if v_X7_visit_112 G i1 = 0 then 0 else 1) else 2) 138 (fun J_14 => ?_) ?_
    · refine lv_if_eq (tgt := 129) F.1 F.2.1 dX7_visit_122 (by decide) (fun c_15 => ?_) (fun c_15 => ?_)
      · refine lv_iload_n F.1 F.2.1 dX7_visit_129 rfl (lv_at hl 0 rfl) ?_
        refine lv_if_eq (tgt := 137) F.1 F.2.1 dX7_visit_130 (by decide) (fun c_16 => ?_) (fun c_16 => ?_)
        · refine lv_iconst (v := 0) F.1 F.2.1 dX7_visit_137 (by decide) ?_
          exact jn_a ((if_pos c_15).trans (if_pos c_16)) J_14
        · refine lv_iconst (v := 1) F.1 F.2.1 dX7_visit_133 (by decide) ?_
          refine lv_goto (tgt := 138) F.1 F.2.1 dX7_visit_134 (by decide) ?_
          exact jn_a ((if_pos c_15).trans (if_neg c_16)) J_14
      · refine lv_iconst (v := 2) F.1 F.2.1 dX7_visit_125 (by decide) ?_
        refine lv_goto (tgt := 138) F.1 F.2.1 dX7_visit_126 (by decide) ?_
        exact jn_a (if_neg c_15) J_14
    refine m_ist F w hM 33 (by decide) rfl rfl (gnV G) (show gnV G < 60 by omega) (by decide) dX7_visit_138 (fun H locs μ w hM => ?_)
    have hM : RepM cy m0 ad (g_X7_visit_2 G i1) μ := hM
    refine lv_aload_n F.1 F.2.1 dX7_visit_139 rfl (lv_at hl 2 rfl) ?_
    refine gf_X7_86 F w hM.1 rfl dX7_visit_140 ?_
    refine lv_aload_n F.1 F.2.1 dX7_visit_143 rfl (lv_at hl 2 rfl) ?_
    refine gf_X7_139 F w hM.1 rfl dX7_visit_144 ?_
    refine lv_fold (y := G 29 0) (congrFun (e_g_X7_visit_2 G i1 (by decide)) 0) ?_
    refine lv_fold (y := nI (gnV G)) (hI.v.1) ?_
    refine lv_iload_n F.1 F.2.1 dX7_visit_147 rfl (lv_at hl 3 rfl) ?_
    refine m_ist F w hM 30 (by decide) rfl rfl (gnV G) (show gnV G < 60 by omega) (by decide) dX7_visit_148 (fun H locs μ w hM => ?_)
    have hM : RepM cy m0 ad (g_X7_visit_3 G i1) μ := hM
    refine lv_aload_n F.1 F.2.1 dX7_visit_149 rfl (lv_at hl 2 rfl) ?_
    refine gf_X7_89 F w hM.1 rfl dX7_visit_150 ?_
    refine lv_aload_n F.1 F.2.1 dX7_visit_153 rfl (lv_at hl 2 rfl) ?_
    refine gf_X7_139 F w hM.1 rfl dX7_visit_154 ?_
    refine lv_fold (y := G 29 0) (congrFun (e_g_X7_visit_3 G i1 (by decide)) 0) ?_
    refine lv_fold (y := nI (gnV G)) (hI.v.1) ?_
    refine lv_aload_n F.1 F.2.1 dX7_visit_157 rfl (lv_at hl 2 rfl) ?_
    refine gf_X7_32 F w hM.1 rfl dX7_visit_158 ?_
    refine lv_iload_n F.1 F.2.1 dX7_visit_161 rfl (lv_at hl 3 rfl) ?_
    refine m_ild F w hM 10 (by decide) rfl rfl i1 (show i1 < 12 by omega) (by decide) dX7_visit_162 ?_
    refine lv_fold (y := G 10 i1) (congrFun (e_g_X7_visit_3 G i1 (by decide)) i1) ?_
    refine m_ist F w hM 31 (by decide) rfl rfl (gnV G) (show gnV G < 60 by omega) (by decide) dX7_visit_163 (fun H locs μ w hM => ?_)
    have hM : RepM cy m0 ad (g_X7_visit_4 G i1) μ := hM
    refine lv_aload_n F.1 F.2.1 dX7_visit_164 rfl (lv_at hl 2 rfl) ?_
    refine gf_X7_92 F w hM.1 rfl dX7_visit_165 ?_
    refine lv_aload_n F.1 F.2.1 dX7_visit_168 rfl (lv_at hl 2 rfl) ?_
    refine gf_X7_139 F w hM.1 rfl dX7_visit_169 ?_
    refine lv_fold (y := G 29 0) (congrFun (e_g_X7_visit_4 G i1 (by decide)) 0) ?_
    refine lv_fold (y := nI (gnV G)) (hI.v.1) ?_
    refine lv_aload_n F.1 F.2.1 dX7_visit_172 rfl (lv_at hl 2 rfl) ?_
    refine gf_X7_142 F w hM.1 rfl dX7_visit_173 ?_
    refine lv_fold (y := G 1 0) (congrFun (e_g_X7_visit_4 G i1 (by decide)) 0) ?_
    refine m_ist F w hM 32 (by decide) rfl rfl (gnV G) (show gnV G < 60 by omega) (by decide) dX7_visit_176 (fun H locs μ w hM => ?_)
    have hM : RepM cy m0 ad (g_X7_visit_5 G i1) μ := hM
    refine lv_aload_n F.1 F.2.1 dX7_visit_177 rfl (lv_at hl 2 rfl) ?_
    refine gf_X7_98 F w hM.1 rfl dX7_visit_178 ?_
    refine lv_aload_n F.1 F.2.1 dX7_visit_181 rfl (lv_at hl 2 rfl) ?_
    refine gf_X7_139 F w hM.1 rfl dX7_visit_182 ?_
    refine lv_fold (y := G 29 0) (congrFun (e_g_X7_visit_5 G i1 (by decide)) 0) ?_
    refine lv_fold (y := nI (gnV G)) (hI.v.1) ?_
    refine lv_aload_n F.1 F.2.1 dX7_visit_185 rfl (lv_at hl 2 rfl) ?_
    refine gf_X7_23 F w hM.1 rfl dX7_visit_186 ?_
    refine lv_iload_n F.1 F.2.1 dX7_visit_189 rfl (lv_at hl 3 rfl) ?_
    refine m_ild F w hM 7 (by decide) rfl rfl i1 (show i1 < 12 by omega) (by decide) dX7_visit_190 ?_
    refine lv_fold (y := G 7 i1) (congrFun (e_g_X7_visit_5 G i1 (by decide)) i1) ?_
    refine m_ist F w hM 34 (by decide) rfl rfl (gnV G) (show gnV G < 60 by omega) (by decide) dX7_visit_191 (fun H locs μ w hM => ?_)
    have hM : RepM cy m0 ad (g_X7_visit_6 G i1) μ := hM
    refine lv_aload_n F.1 F.2.1 dX7_visit_192 rfl (lv_at hl 2 rfl) ?_
    refine gf_X7_110 F w hM.1 rfl dX7_visit_193 ?_
    refine lv_aload_n F.1 F.2.1 dX7_visit_196 rfl (lv_at hl 2 rfl) ?_
    refine gf_X7_139 F w hM.1 rfl dX7_visit_197 ?_
    refine lv_fold (y := G 29 0) (congrFun (e_g_X7_visit_6 G i1 (by decide)) 0) ?_
    refine lv_fold (y := nI (gnV G)) (hI.v.1) ?_
    refine lv_iconst (v := -1) F.1 F.2.1 dX7_visit_200 (by decide) ?_
    refine m_ist F w hM 38 (by decide) rfl rfl (gnV G) (show gnV G < 60 by omega) (by decide) dX7_visit_201 (fun H locs μ w hM => ?_)
    have hM : RepM cy m0 ad (g_X7_visit_7 G i1) μ := hM
    refine lv_aload_n F.1 F.2.1 dX7_visit_202 rfl (lv_at hl 2 rfl) ?_
    refine gf_X7_35 F w hM.1 rfl dX7_visit_203 ?_
    refine lv_iload_n F.1 F.2.1 dX7_visit_206 rfl (lv_at hl 3 rfl) ?_
    refine lv_aload_n F.1 F.2.1 dX7_visit_207 rfl (lv_at hl 2 rfl) ?_
    refine gf_X7_139 F w hM.1 rfl dX7_visit_208 ?_
    refine lv_fold (y := G 29 0) (congrFun (e_g_X7_visit_7 G i1 (by decide)) 0) ?_
    refine lv_fold (y := nI (gnV G)) (hI.v.1) ?_
    refine m_ist F w hM 11 (by decide) rfl rfl i1 (show i1 < 12 by omega) (by decide) dX7_visit_211 (fun H locs μ w hM => ?_)
    have hM : RepM cy m0 ad (g_X7_visit_8 G i1) μ := hM
    refine lv_aload_n F.1 F.2.1 dX7_visit_212 rfl (lv_at hl 2 rfl) ?_
    refine gf_X7_38 F w hM.1 rfl dX7_visit_213 ?_
    refine lv_iload_n F.1 F.2.1 dX7_visit_216 rfl (lv_at hl 3 rfl) ?_
    refine lv_aload_n F.1 F.2.1 dX7_visit_217 rfl (lv_at hl 2 rfl) ?_
    refine gf_X7_139 F w hM.1 rfl dX7_visit_218 ?_
    refine lv_fold (y := G 29 0) (congrFun (e_g_X7_visit_8 G i1 (by decide)) 0) ?_
    refine lv_fold (y := nI (gnV G)) (hI.v.1) ?_
    refine m_ist F w hM 12 (by decide) rfl rfl i1 (show i1 < 12 by omega) (by decide) dX7_visit_221 (fun H locs μ w hM => ?_)
    have hM : RepM cy m0 ad (g_X7_visit_9 G i1) μ := hM
    refine lv_aload_n F.1 F.2.1 dX7_visit_222 rfl (lv_at hl 2 rfl) ?_
    refine lv_dup F.1 F.2.1 dX7_visit_223 rfl ?_
    refine gf_X7_139 F w hM.1 rfl dX7_visit_224 ?_
    refine lv_fold (y := G 29 0) (congrFun (e_g_X7_visit_9 G i1 (by decide)) 0) ?_
    refine lv_fold (y := nI (gnV G)) (hI.v.1) ?_
    refine lv_iconst (v := 1) F.1 F.2.1 dX7_visit_227 (by decide) ?_
    refine lv_iadd F.1 F.2.1 dX7_visit_228 ?_
    refine mp_139 F w hM dX7_visit_229 (fun H locs μ w hM => ?_)
    have hM : RepM cy m0 ad (g_X7_visit_10 G i1) μ := hM
    refine lv_aload_n F.1 F.2.1 dX7_visit_232 rfl (lv_at hl 2 rfl) ?_
    refine gf_X7_139 F w hM.1 rfl dX7_visit_233 ?_
    refine lv_fold (y := (nI (gnV G)) + 1) ((congrFun (up2_eq _ _ _ _) _).trans pk_us) ?_
    refine lv_iconst (v := 1) F.1 F.2.1 dX7_visit_236 (by decide) ?_
    refine lv_isub F.1 F.2.1 dX7_visit_237 ?_
    exact q_retI (S := Unit) F hr hlk w ⟨(if_pos c_6).symm, RepM.cg hM (if_pos c_6)⟩ dX7_visit_238
  · refine lv_iconst (v := 0) F.1 F.2.1 dX7_visit_57 (by decide) ?_
    exact q_retI (S := Unit) F hr hlk w ⟨(if_neg c_6).symm, RepM.cg hM (if_neg c_6)⟩ dX7_visit_58
def g_X7_visit_n_1 (G : GS) (i1 : Nat) : GS := up2 G 0 0 (if f_X7_isShip G (nI i1) = 0 then 1 else (if G 10 i1 = (-1) then 2 else (if G 11 i1 = (-1) then 2 else 2)))
theorem e_g_X7_visit_n_1 (G : GS) (i1 : Nat) {j : Nat} (h : j ∉ [0]) : g_X7_visit_n_1 G i1 j = G j := (up2_ne (fun q => h (by rw [q]; exact List.mem_cons_self))).trans rfl
def f_X7_visit_n (G : GS) (i1 : Nat) : Int32 := 0
def g_X7_visit_n (G : GS) (i1 : Nat) : GS := g_X7_visit_n_1 G i1
set_option maxHeartbeats 4000000 in
set_option maxRecDepth 100000 in
theorem c_X7_visit_n (l : Launch) (D : va_G) (cy : Nat → ClassId) (A : Nat → Prop) (μ : MU) (m0 : Nat) (ad : Nat → Nat) (G : GS) (hM : RepM cy m0 ad G μ) (i1 : Nat) (hi1 : i1 < 12) (hb : G 29 0 = 60) : Met l yX7_visit (WS yX7_visit cX7_visit 4 (Option.some Jvm.ClassFile.FieldType.int)) { frames := 2, cells := 0, slots := 0, locals := 43 } (va_Pc [.ref m0, .int (nI i1)] (Wd D cy A μ)) (va_Qi (fun (r9 : Int32) (μ1 : MU) => r9 = f_X7_visit_n G i1 ∧ RepM cy m0 ad (g_X7_visit_n G i1) μ1) (fun μ1 t => Wd D cy A μ1 t) A) 0 0 A := by
  refine q_met (by decide) (Nat.le_of_ble_eq_true rfl) ?_
  intro p e s m below meth c F w hr hlk hnm ls hl
  have F : CallFix p m c cX7_visit 4 s _ BIG RX7 := F
  have hl : lv_has ls 4 [(0, .ref m0), (1, .int (nI i1))] := hl
  refine lv_aload_n F.1 F.2.1 dX7_visit_0 rfl (lv_at hl 0 rfl) ?_
  refine lv_aload_n F.1 F.2.1 dX7_visit_1 rfl (lv_at hl 0 rfl) ?_
  refine lv_iload_n F.1 F.2.1 dX7_visit_2 rfl (lv_at hl 1 rfl) ?_
  refine q_rV (rest := [.ref m0]) F w kV_X7_153 hd_X7_isShip (ci := 8) rfl (c_X7_isShip l D cy A _ m0 ad G hM (nI i1)) hM.1 dX7_visit_3 rfl rfl hl.1 ⟨rfl, rfl, Nat.le_of_ble_eq_true rfl, Nat.le_of_ble_eq_true rfl⟩ (Nat.le_of_ble_eq_true rfl) ⟨Nat.zero_le _, Nat.zero_le _⟩ ?_
  refine jn0 (m := m) (ls := ls) (rest := [.ref m0]) (if f_X7_isShip G (nI i1) = 0 then 1 else (if G 10 i1 = (-1) then 2 else (if G 11 i1 = (-1) then 2 else 2))) 47 (fun J_1 => ?_) ?_
  · refine lv_if_ne (tgt := 13) F.1 F.2.1 dX7_visit_6 (by decide) (fun c_2 => ?_) (fun c_2 => ?_)
    · refine lv_aload_n F.1 F.2.1 dX7_visit_13 rfl (lv_at hl 0 rfl) ?_
      refine gf_X7_32 F w hM.1 rfl dX7_visit_14 ?_
      refine lv_iload_n F.1 F.2.1 dX7_visit_17 rfl (lv_at hl 1 rfl) ?_
      refine m_ild F w hM 10 (by decide) rfl rfl i1 (show i1 < 12 by omega) (by decide) dX7_visit_18 ?_
      refine lv_iconst (v := -1) F.1 F.2.1 dX7_visit_19 (by decide) ?_
      refine lv_icmp_eq (tgt := 42) F.1 F.2.1 dX7_visit_20 (by decide) (fun c_3 => ?_) (fun c_3 => ?_)
      · refine lv_iconst (v := 2) F.1 F.2.1 dX7_visit_42 (by decide) ?_
        refine lv_goto (tgt := 47) F.1 F.2.1 dX7_visit_43 (by decide) ?_
        exact jn_a ((if_neg c_2).trans (if_pos c_3)) J_1
      · refine lv_aload_n F.1 F.2.1 dX7_visit_23 rfl (lv_at hl 0 rfl) ?_
        refine gf_X7_35 F w hM.1 rfl dX7_visit_24 ?_
        refine lv_iload_n F.1 F.2.1 dX7_visit_27 rfl (lv_at hl 1 rfl) ?_
        refine m_ild F w hM 11 (by decide) rfl rfl i1 (show i1 < 12 by omega) (by decide) dX7_visit_28 ?_
        refine lv_iconst (v := -1) F.1 F.2.1 dX7_visit_29 (by decide) ?_
        refine lv_icmp_ne (tgt := 42) F.1 F.2.1 dX7_visit_30 (by decide) (fun c_4 => ?_) (fun c_4 => ?_)
        · refine lv_iconst (v := 2) F.1 F.2.1 dX7_visit_42 (by decide) ?_
          refine lv_goto (tgt := 47) F.1 F.2.1 dX7_visit_43 (by decide) ?_
          exact jn_a ((if_neg c_2).trans ((if_neg c_3).trans (if_neg c_4))) J_1
        · refine lv_aload_n F.1 F.2.1 dX7_visit_33 rfl (lv_at hl 0 rfl) ?_
          refine gf_X7_139 F w hM.1 rfl dX7_visit_34 ?_
          refine lv_bipush (v := 60) F.1 F.2.1 dX7_visit_37 (by decide) ?_
          refine lv_icmp_ne (tgt := 46) F.1 F.2.1 dX7_visit_39 (by decide) (fun c_5 => absurd hb c_5) (fun c_5 => ?_)
          refine lv_iconst (v := 2) F.1 F.2.1 dX7_visit_42 (by decide) ?_
          refine lv_goto (tgt := 47) F.1 F.2.1 dX7_visit_43 (by decide) ?_
          exact jn_a ((if_neg c_2).trans ((if_neg c_3).trans (if_pos c_4))) J_1
    · refine lv_iconst (v := 1) F.1 F.2.1 dX7_visit_9 (by decide) ?_
      refine lv_goto (tgt := 47) F.1 F.2.1 dX7_visit_10 (by decide) ?_
      exact jn_a (if_pos c_2) J_1
  refine mp_128 F w hM dX7_visit_47 (fun H locs μ w hM => ?_)
  have hM : RepM cy m0 ad (g_X7_visit_n_1 G i1) μ := hM
  refine lv_aload_n F.1 F.2.1 dX7_visit_50 rfl (lv_at hl 0 rfl) ?_
  refine gf_X7_128 F w hM.1 rfl dX7_visit_51 ?_
  refine lv_fold (y := if f_X7_isShip G (nI i1) = 0 then 1 else (if G 10 i1 = (-1) then 2 else (if G 11 i1 = (-1) then 2 else 2))) ((congrFun (up2_eq _ _ _ _) _).trans pk_us) ?_
  refine lv_if_le (tgt := 59) F.1 F.2.1 dX7_visit_54 (by decide) (fun c_6 => absurd c_6 (by (repeat' split) <;> decide)) (fun c_6 => ?_)
  refine lv_iconst (v := 0) F.1 F.2.1 dX7_visit_57 (by decide) ?_
  exact q_retI (S := Unit) F hr hlk w ⟨rfl, RepM.cg hM rfl⟩ dX7_visit_58
def g_X7_visit_b_1 (G : GS) (x1 : Int32) : GS := up2 G 0 0 1
theorem e_g_X7_visit_b_1 (G : GS) (x1 : Int32) {j : Nat} (h : j ∉ [0]) : g_X7_visit_b_1 G x1 j = G j := (up2_ne (fun q => h (by rw [q]; exact List.mem_cons_self))).trans rfl
def f_X7_visit_b (G : GS) (x1 : Int32) : Int32 := 0
def g_X7_visit_b (G : GS) (x1 : Int32) : GS := g_X7_visit_b_1 G x1
set_option maxHeartbeats 4000000 in
set_option maxRecDepth 100000 in
theorem c_X7_visit_b (l : Launch) (D : va_G) (cy : Nat → ClassId) (A : Nat → Prop) (μ : MU) (m0 : Nat) (ad : Nat → Nat) (G : GS) (hM : RepM cy m0 ad G μ) (x1 : Int32) (hb : f_X7_isShip G x1 = 0) : Met l yX7_visit (WS yX7_visit cX7_visit 4 (Option.some Jvm.ClassFile.FieldType.int)) { frames := 2, cells := 0, slots := 0, locals := 43 } (va_Pc [.ref m0, .int x1] (Wd D cy A μ)) (va_Qi (fun (r9 : Int32) (μ1 : MU) => r9 = f_X7_visit_b G x1 ∧ RepM cy m0 ad (g_X7_visit_b G x1) μ1) (fun μ1 t => Wd D cy A μ1 t) A) 0 0 A := by
  refine q_met (by decide) (Nat.le_of_ble_eq_true rfl) ?_
  intro p e s m below meth c F w hr hlk hnm ls hl
  have F : CallFix p m c cX7_visit 4 s _ BIG RX7 := F
  have hl : lv_has ls 4 [(0, .ref m0), (1, .int x1)] := hl
  refine lv_aload_n F.1 F.2.1 dX7_visit_0 rfl (lv_at hl 0 rfl) ?_
  refine lv_aload_n F.1 F.2.1 dX7_visit_1 rfl (lv_at hl 0 rfl) ?_
  refine lv_iload_n F.1 F.2.1 dX7_visit_2 rfl (lv_at hl 1 rfl) ?_
  refine q_rV (rest := [.ref m0]) F w kV_X7_153 hd_X7_isShip (ci := 8) rfl (c_X7_isShip l D cy A _ m0 ad G hM x1) hM.1 dX7_visit_3 rfl rfl hl.1 ⟨rfl, rfl, Nat.le_of_ble_eq_true rfl, Nat.le_of_ble_eq_true rfl⟩ (Nat.le_of_ble_eq_true rfl) ⟨Nat.zero_le _, Nat.zero_le _⟩ ?_
  refine lv_if_ne (tgt := 13) F.1 F.2.1 dX7_visit_6 (by decide) (fun c_1 => absurd hb c_1) (fun c_1 => ?_)
  refine lv_iconst (v := 1) F.1 F.2.1 dX7_visit_9 (by decide) ?_
  refine lv_goto (tgt := 47) F.1 F.2.1 dX7_visit_10 (by decide) ?_
  refine mp_128 F w hM dX7_visit_47 (fun H locs μ w hM => ?_)
  have hM : RepM cy m0 ad (g_X7_visit_b_1 G x1) μ := hM
  refine lv_aload_n F.1 F.2.1 dX7_visit_50 rfl (lv_at hl 0 rfl) ?_
  refine gf_X7_128 F w hM.1 rfl dX7_visit_51 ?_
  refine lv_fold (y := 1) ((congrFun (up2_eq _ _ _ _) _).trans pk_us) ?_
  refine lv_if_le (tgt := 59) F.1 F.2.1 dX7_visit_54 (by decide) (fun c_2 => absurd c_2 (by decide)) (fun c_2 => ?_)
  refine lv_iconst (v := 0) F.1 F.2.1 dX7_visit_57 (by decide) ?_
  exact q_retI (S := Unit) F hr hlk w ⟨rfl, RepM.cg hM rfl⟩ dX7_visit_58
def L_X7_looksForBan_4_2 (G : GS) (i1 : Nat) : Nat → Int32
  | 0 => 0
  | k4 + 1 => (L_X7_looksForBan_4_2 G i1 k4) + (if G 30 k4 = nI i1 then (if f_X7_isLatest G k4 = 0 then 0 else (if f_X7_counts G k4 = 0 then 0 else (if G 42 k4 = 0 then 1 else 0))) else 0)
def g_X7_looksForBan_3 (G : GS) (i1 : Nat) (k69 : Nat) : GS := up2 G 42 k69 (if G 42 k69 = 0 then (if G 30 k69 = nI i1 then (if f_X7_isLatest G k69 = 0 then 0 else (if f_X7_counts G k69 = 0 then 0 else 1)) else 0) else 1)
theorem e_g_X7_looksForBan_3 (G : GS) (i1 : Nat) (k69 : Nat) {j : Nat} (h : j ∉ [42]) : g_X7_looksForBan_3 G i1 k69 j = G j := (up2_ne (fun q => h (by rw [q]; exact List.mem_cons_self))).trans rfl
def LG_X7_looksForBan_69 (G : GS) (i1 : Nat) : Nat → GS
  | 0 => G
  | k69 + 1 => up2 (LG_X7_looksForBan_69 G i1 k69) 42 k69 (if (LG_X7_looksForBan_69 G i1 k69) 42 k69 = 0 then (if (LG_X7_looksForBan_69 G i1 k69) 30 k69 = nI i1 then (if f_X7_isLatest (LG_X7_looksForBan_69 G i1 k69) k69 = 0 then 0 else (if f_X7_counts (LG_X7_looksForBan_69 G i1 k69) k69 = 0 then 0 else 1)) else 0) else 1)
theorem LG_X7_looksForBan_69_ne (G : GS) (i1 : Nat) : ∀ (k j : Nat), j ≠ 42 → LG_X7_looksForBan_69 G i1 k j = G j
  | 0, j, h => rfl
  | k + 1, j, h => (up2_ne h).trans (LG_X7_looksForBan_69_ne G i1 k j h)
def g_X7_looksForBan (G : GS) (i1 : Nat) : GS := if 3 ≤ L_X7_looksForBan_4_2 G i1 (gnV G) then up2 (LG_X7_looksForBan_69 G i1 (gnV G)) 14 i1 1 else G
set_option maxHeartbeats 4000000 in
set_option maxRecDepth 100000 in
theorem c_X7_looksForBan (l : Launch) (D : va_G) (cy : Nat → ClassId) (A : Nat → Prop) (μ : MU) (m0 : Nat) (ad : Nat → Nat) (G : GS) (hM : RepM cy m0 ad G μ) (i1 : Nat) (hi1 : i1 < 12) (hI : InvM G) : Met l yX7_looksForBan (WS yX7_looksForBan cX7_looksForBan 4 (Option.none : Option Jvm.ClassFile.FieldType)) { frames := 1, cells := 0, slots := 0, locals := 21 } (va_Pc [.ref m0, .int (nI i1)] (Wd D cy A μ)) (va_Qv (fun μ1 : MU => RepM cy m0 ad (g_X7_looksForBan G i1) μ1) (fun μ1 t => Wd D cy A μ1 t) A) 0 0 A := by
  refine q_met (by decide) (Nat.le_of_ble_eq_true rfl) ?_
  intro p e s m below meth c F w hr hlk hnm ls hl
  have F : CallFix p m c cX7_looksForBan 4 s _ BIG RX7 := F
  have hl : lv_has ls 4 [(0, .ref m0), (1, .int (nI i1))] := hl
  have hnV := hI.v.2
  refine lv_iconst (v := 0) F.1 F.2.1 dX7_looksForBan_0 (by decide) ?_
  refine lv_istore_n (lv' := [(2, .int 0), (0, .ref m0), (1, .int (nI i1))]) F.1 F.2.1 dX7_looksForBan_1 rfl hl (by decide) rfl (fun ls hl => ?_)
  refine lv_iconst (v := 0) F.1 F.2.1 dX7_looksForBan_2 (by decide) ?_
  refine lv_istore_n (lv' := [(3, .int 0), (2, .int 0), (0, .ref m0), (1, .int (nI i1))]) F.1 F.2.1 dX7_looksForBan_3 rfl hl (by decide) rfl (fun ls hl => ?_)
  refine q_loop (P := fun k4 ls => lv_has ls 4 [(3, .int (nI k4)), (2, .int (L_X7_looksForBan_4_2 G i1 k4)), (0, .ref m0), (1, .int (nI i1))]) (gnV G) (fun k4 ls hk4 hl ih4 => ?_) 0 ls (Nat.zero_le _) (lv_cg (lv_sub hl [0, 1, 2, 3] rfl) rfl)
  refine lv_iload_n F.1 F.2.1 dX7_looksForBan_4 rfl (lv_at hl 0 rfl) ?_
  refine lv_aload_n F.1 F.2.1 dX7_looksForBan_5 rfl (lv_at hl 2 rfl) ?_
  refine gf_X7_139 F w hM.1 rfl dX7_looksForBan_6 ?_
  refine lv_icmp_ge (tgt := 61) F.1 F.2.1 dX7_looksForBan_9 (by decide) (fun c_1 => ?_) (fun c_1 => ?_)
  rotate_left
  · have hlt4 : k4 < (gnV G) := GB_ilt hI.v.1 (Nat.lt_of_le_of_lt hI.v.2 (by decide)) hk4 c_1
    refine lv_iload_n F.1 F.2.1 dX7_looksForBan_12 rfl (lv_at hl 1 rfl) ?_
    refine lv_aload_n F.1 F.2.1 dX7_looksForBan_13 rfl (lv_at hl 2 rfl) ?_
    refine gf_X7_86 F w hM.1 rfl dX7_looksForBan_14 ?_
    refine lv_iload_n F.1 F.2.1 dX7_looksForBan_17 rfl (lv_at hl 0 rfl) ?_
    refine m_ild F w hM 30 (by decide) rfl rfl k4 (show k4 < 60 by omega) (by decide) dX7_looksForBan_18 ?_
    refine lv_iload_n F.1 F.2.1 dX7_looksForBan_19 rfl (lv_at hl 3 rfl) ?_
    refine jn0 (m := m) (ls := ls) (rest := [.int (L_X7_looksForBan_4_2 G i1 k4)]) (if G 30 k4 = nI i1 then (if f_X7_isLatest G k4 = 0 then 0 else (if f_X7_counts G k4 = 0 then 0 else (if G 42 k4 = 0 then 1 else 0))) else 0) 53 (fun J_2 => ?_) ?_
    · refine lv_icmp_ne (tgt := 52) F.1 F.2.1 dX7_looksForBan_20 (by decide) (fun c_3 => ?_) (fun c_3 => ?_)
      · refine lv_iconst (v := 0) F.1 F.2.1 dX7_looksForBan_52 (by decide) ?_
        exact jn_a (if_neg c_3) J_2
      · refine lv_aload_n F.1 F.2.1 dX7_looksForBan_23 rfl (lv_at hl 2 rfl) ?_
        refine lv_iload_n F.1 F.2.1 dX7_looksForBan_24 rfl (lv_at hl 0 rfl) ?_
        refine q_rV (rest := [.int (L_X7_looksForBan_4_2 G i1 k4)]) F w kV_X7_189 hd_X7_isLatest (ci := 8) rfl (c_X7_isLatest l D cy A _ m0 ad G hM k4 (show k4 < 60 by omega)) hM.1 dX7_looksForBan_25 rfl rfl hl.1 ⟨rfl, rfl, Nat.le_of_ble_eq_true rfl, Nat.le_of_ble_eq_true rfl⟩ (Nat.le_of_ble_eq_true rfl) ⟨Nat.zero_le _, Nat.zero_le _⟩ ?_
        refine lv_if_eq (tgt := 52) F.1 F.2.1 dX7_looksForBan_28 (by decide) (fun c_4 => ?_) (fun c_4 => ?_)
        · refine lv_iconst (v := 0) F.1 F.2.1 dX7_looksForBan_52 (by decide) ?_
          exact jn_a ((if_pos c_3).trans (if_pos c_4)) J_2
        · refine lv_aload_n F.1 F.2.1 dX7_looksForBan_31 rfl (lv_at hl 2 rfl) ?_
          refine lv_iload_n F.1 F.2.1 dX7_looksForBan_32 rfl (lv_at hl 0 rfl) ?_
          refine q_rV (rest := [.int (L_X7_looksForBan_4_2 G i1 k4)]) F w kV_X7_192 hd_X7_counts (ci := 8) rfl (c_X7_counts l D cy A _ m0 ad G hM k4 (show k4 < 60 by omega)) hM.1 dX7_looksForBan_33 rfl rfl hl.1 ⟨rfl, rfl, Nat.le_of_ble_eq_true rfl, Nat.le_of_ble_eq_true rfl⟩ (Nat.le_of_ble_eq_true rfl) ⟨Nat.zero_le _, Nat.zero_le _⟩ ?_
          refine lv_if_eq (tgt := 52) F.1 F.2.1 dX7_looksForBan_36 (by decide) (fun c_5 => ?_) (fun c_5 => ?_)
          · refine lv_iconst (v := 0) F.1 F.2.1 dX7_looksForBan_52 (by decide) ?_
            exact jn_a ((if_pos c_3).trans ((if_neg c_4).trans (if_pos c_5))) J_2
          · refine lv_aload_n F.1 F.2.1 dX7_looksForBan_39 rfl (lv_at hl 2 rfl) ?_
            refine gf_X7_122 F w hM.1 rfl dX7_looksForBan_40 ?_
            refine lv_iload_n F.1 F.2.1 dX7_looksForBan_43 rfl (lv_at hl 0 rfl) ?_
            refine m_zld F w hM 42 (by decide) rfl rfl k4 (show k4 < 60 by omega) (by decide) dX7_looksForBan_44 ?_
            refine lv_if_ne (tgt := 52) F.1 F.2.1 dX7_looksForBan_45 (by decide) (fun c_6 => ?_) (fun c_6 => ?_)
            · refine lv_iconst (v := 0) F.1 F.2.1 dX7_looksForBan_52 (by decide) ?_
              exact jn_a ((if_pos c_3).trans ((if_neg c_4).trans ((if_neg c_5).trans (if_neg c_6)))) J_2
            · refine lv_iconst (v := 1) F.1 F.2.1 dX7_looksForBan_48 (by decide) ?_
              refine lv_goto (tgt := 53) F.1 F.2.1 dX7_looksForBan_49 (by decide) ?_
              exact jn_a ((if_pos c_3).trans ((if_neg c_4).trans ((if_neg c_5).trans (if_pos c_6)))) J_2
    refine lv_iadd F.1 F.2.1 dX7_looksForBan_53 ?_
    refine lv_istore_n (lv' := [(2, .int ((L_X7_looksForBan_4_2 G i1 k4) + (if G 30 k4 = nI i1 then (if f_X7_isLatest G k4 = 0 then 0 else (if f_X7_counts G k4 = 0 then 0 else (if G 42 k4 = 0 then 1 else 0))) else 0))), (3, .int (nI k4)), (0, .ref m0), (1, .int (nI i1))]) F.1 F.2.1 dX7_looksForBan_54 rfl hl (by decide) rfl (fun ls hl => ?_)
    refine lv_iinc (v := nI (k4 + 1)) (lv' := [(3, .int (nI (k4 + 1))), (2, .int ((L_X7_looksForBan_4_2 G i1 k4) + (if G 30 k4 = nI i1 then (if f_X7_isLatest G k4 = 0 then 0 else (if f_X7_counts G k4 = 0 then 0 else (if G 42 k4 = 0 then 1 else 0))) else 0))), (0, .ref m0), (1, .int (nI i1))]) F.1 F.2.1 dX7_looksForBan_55 hl (k := 1) rfl (nI_1 _) (by decide) rfl (fun ls hl => ?_)
    refine lv_goto (tgt := 4) F.1 F.2.1 dX7_looksForBan_58 (by decide) ?_
    exact ih4 ls hlt4 (lv_sub hl [0, 1, 2, 3] rfl)
  have hkn4 : k4 = (gnV G) := GB_ile hI.v.1 (Nat.lt_of_le_of_lt hI.v.2 (by decide)) hk4 c_1
  subst hkn4
  refine lv_iload_n F.1 F.2.1 dX7_looksForBan_61 rfl (lv_at hl 1 rfl) ?_
  refine lv_iconst (v := 3) F.1 F.2.1 dX7_looksForBan_62 (by decide) ?_
  refine lv_icmp_ge (tgt := 67) F.1 F.2.1 dX7_looksForBan_63 (by decide) (fun c_7 => ?_) (fun c_7 => ?_)
  · refine lv_iconst (v := 0) F.1 F.2.1 dX7_looksForBan_67 (by decide) ?_
    refine lv_istore_n (lv' := [(3, .int 0), (2, .int (L_X7_looksForBan_4_2 G i1 (gnV G))), (0, .ref m0), (1, .int (nI i1))]) F.1 F.2.1 dX7_looksForBan_68 rfl hl (by decide) rfl (fun ls hl => ?_)
    refine q_loopW (P := fun k69 μ H locs ls => WW D cy A μ s H locs ∧ RepM cy m0 ad (LG_X7_looksForBan_69 G i1 k69) μ ∧ lv_has ls 4 [(3, .int (nI k69)), (2, .int (L_X7_looksForBan_4_2 G i1 (gnV G))), (0, .ref m0), (1, .int (nI i1))]) (gnV G) (fun k69 μ H locs ls hk69 hl9 ih69 => ?_) 0 _ _ _ ls (Nat.zero_le _) ⟨w, hM, lv_cg (lv_sub hl [0, 1, 2, 3] rfl) rfl⟩
    obtain ⟨w, hM, hl⟩ := hl9
    refine lv_iload_n F.1 F.2.1 dX7_looksForBan_69 rfl (lv_at hl 0 rfl) ?_
    refine lv_aload_n F.1 F.2.1 dX7_looksForBan_70 rfl (lv_at hl 2 rfl) ?_
    refine gf_X7_139 F w hM.1 rfl dX7_looksForBan_71 ?_
    refine lv_icmp_ge (tgt := 129) F.1 F.2.1 dX7_looksForBan_74 (by decide) (fun c_8 => ?_) (fun c_8 => ?_)
    rotate_left
    · have hlt69 : k69 < (gnV G) := GB_ilt ((congrFun (LG_X7_looksForBan_69_ne G i1 k69 29 (by decide)) 0).trans hI.v.1) (Nat.lt_of_le_of_lt hI.v.2 (by decide)) hk69 c_8
      refine lv_aload_n F.1 F.2.1 dX7_looksForBan_77 rfl (lv_at hl 2 rfl) ?_
      refine gf_X7_122 F w hM.1 rfl dX7_looksForBan_78 ?_
      refine lv_iload_n F.1 F.2.1 dX7_looksForBan_81 rfl (lv_at hl 0 rfl) ?_
      refine lv_aload_n F.1 F.2.1 dX7_looksForBan_82 rfl (lv_at hl 2 rfl) ?_
      refine gf_X7_122 F w hM.1 rfl dX7_looksForBan_83 ?_
      refine lv_iload_n F.1 F.2.1 dX7_looksForBan_86 rfl (lv_at hl 0 rfl) ?_
      refine m_zld F w hM 42 (by decide) rfl rfl k69 (show k69 < 60 by omega) (by decide) dX7_looksForBan_87 ?_
      refine jn0 (m := m) (ls := ls) (rest := [.int (nI k69), .ref (ad 42)]) (if (LG_X7_looksForBan_69 G i1 k69) 42 k69 = 0 then (if (LG_X7_looksForBan_69 G i1 k69) 30 k69 = nI i1 then (if f_X7_isLatest (LG_X7_looksForBan_69 G i1 k69) k69 = 0 then 0 else (if f_X7_counts (LG_X7_looksForBan_69 G i1 k69) k69 = 0 then 0 else 1)) else 0) else 1) 122 (fun J_9 => ?_) ?_
      · refine lv_if_ne (tgt := 117) F.1 F.2.1 dX7_looksForBan_88 (by decide) (fun c_10 => ?_) (fun c_10 => ?_)
        · refine lv_iconst (v := 1) F.1 F.2.1 dX7_looksForBan_117 (by decide) ?_
          refine lv_goto (tgt := 122) F.1 F.2.1 dX7_looksForBan_118 (by decide) ?_
          exact jn_a (if_neg c_10) J_9
        · refine lv_aload_n F.1 F.2.1 dX7_looksForBan_91 rfl (lv_at hl 2 rfl) ?_
          refine gf_X7_86 F w hM.1 rfl dX7_looksForBan_92 ?_
          refine lv_iload_n F.1 F.2.1 dX7_looksForBan_95 rfl (lv_at hl 0 rfl) ?_
          refine m_ild F w hM 30 (by decide) rfl rfl k69 (show k69 < 60 by omega) (by decide) dX7_looksForBan_96 ?_
          refine lv_iload_n F.1 F.2.1 dX7_looksForBan_97 rfl (lv_at hl 3 rfl) ?_
          refine lv_icmp_ne (tgt := 121) F.1 F.2.1 dX7_looksForBan_98 (by decide) (fun c_11 => ?_) (fun c_11 => ?_)
          · refine lv_iconst (v := 0) F.1 F.2.1 dX7_looksForBan_121 (by decide) ?_
            exact jn_a ((if_pos c_10).trans (if_neg c_11)) J_9
          · refine lv_aload_n F.1 F.2.1 dX7_looksForBan_101 rfl (lv_at hl 2 rfl) ?_
            refine lv_iload_n F.1 F.2.1 dX7_looksForBan_102 rfl (lv_at hl 0 rfl) ?_
            refine q_rV (rest := [.int (nI k69), .ref (ad 42)]) F w kV_X7_189 hd_X7_isLatest (ci := 8) rfl (c_X7_isLatest l D cy A _ m0 ad (LG_X7_looksForBan_69 G i1 k69) hM k69 (show k69 < 60 by omega)) hM.1 dX7_looksForBan_103 rfl rfl hl.1 ⟨rfl, rfl, Nat.le_of_ble_eq_true rfl, Nat.le_of_ble_eq_true rfl⟩ (Nat.le_of_ble_eq_true rfl) ⟨Nat.zero_le _, Nat.zero_le _⟩ ?_
            refine lv_if_eq (tgt := 121) F.1 F.2.1 dX7_looksForBan_106 (by decide) (fun c_12 => ?_) (fun c_12 => ?_)
            · refine lv_iconst (v := 0) F.1 F.2.1 dX7_looksForBan_121 (by decide) ?_
              exact jn_a ((if_pos c_10).trans ((if_pos c_11).trans (if_pos c_12))) J_9
            · refine lv_aload_n F.1 F.2.1 dX7_looksForBan_109 rfl (lv_at hl 2 rfl) ?_
              refine lv_iload_n F.1 F.2.1 dX7_looksForBan_110 rfl (lv_at hl 0 rfl) ?_
              refine q_rV (rest := [.int (nI k69), .ref (ad 42)]) F w kV_X7_192 hd_X7_counts (ci := 8) rfl (c_X7_counts l D cy A _ m0 ad (LG_X7_looksForBan_69 G i1 k69) hM k69 (show k69 < 60 by omega)) hM.1 dX7_looksForBan_111 rfl rfl hl.1 ⟨rfl, rfl, Nat.le_of_ble_eq_true rfl, Nat.le_of_ble_eq_true rfl⟩ (Nat.le_of_ble_eq_true rfl) ⟨Nat.zero_le _, Nat.zero_le _⟩ ?_
              refine lv_if_eq (tgt := 121) F.1 F.2.1 dX7_looksForBan_114 (by decide) (fun c_13 => ?_) (fun c_13 => ?_)
              · refine lv_iconst (v := 0) F.1 F.2.1 dX7_looksForBan_121 (by decide) ?_
                exact jn_a ((if_pos c_10).trans ((if_pos c_11).trans ((if_neg c_12).trans (if_pos c_13)))) J_9
              · refine lv_iconst (v := 1) F.1 F.2.1 dX7_looksForBan_117 (by decide) ?_
                refine lv_goto (tgt := 122) F.1 F.2.1 dX7_looksForBan_118 (by decide) ?_
                exact jn_a ((if_pos c_10).trans ((if_pos c_11).trans ((if_neg c_12).trans (if_neg c_13)))) J_9
      refine m_zst F w hM 42 (by decide) rfl rfl k69 (show k69 < 60 by omega) (by decide) (nz_or (nz_ite (nz_ite (nz_ite nz0 (nz_ite nz0 nz1)) nz0) nz1)) dX7_looksForBan_122 (fun H locs μ w hM => ?_)
      refine lv_iinc (v := nI (k69 + 1)) (lv' := [(3, .int (nI (k69 + 1))), (2, .int (L_X7_looksForBan_4_2 G i1 (gnV G))), (0, .ref m0), (1, .int (nI i1))]) F.1 F.2.1 dX7_looksForBan_123 hl (k := 0) rfl (nI_1 _) (by decide) rfl (fun ls hl => ?_)
      refine lv_goto (tgt := 69) F.1 F.2.1 dX7_looksForBan_126 (by decide) ?_
      exact ih69 _ _ _ ls hlt69 ⟨w, hM, lv_sub hl [0, 1, 2, 3] rfl⟩
    have hkn69 : k69 = (gnV G) := GB_ile ((congrFun (LG_X7_looksForBan_69_ne G i1 k69 29 (by decide)) 0).trans hI.v.1) (Nat.lt_of_le_of_lt hI.v.2 (by decide)) hk69 c_8
    subst hkn69
    refine lv_aload_n F.1 F.2.1 dX7_looksForBan_129 rfl (lv_at hl 2 rfl) ?_
    refine gf_X7_44 F w hM.1 rfl dX7_looksForBan_130 ?_
    refine lv_iload_n F.1 F.2.1 dX7_looksForBan_133 rfl (lv_at hl 3 rfl) ?_
    refine lv_iconst (v := 1) F.1 F.2.1 dX7_looksForBan_134 (by decide) ?_
    refine m_zst F w hM 14 (by decide) rfl rfl i1 (show i1 < 12 by omega) (by decide) (Or.inr rfl) dX7_looksForBan_135 (fun H locs μ w hM => ?_)
    exact q_retV F hr hlk w (RepM.cg hM (if_pos c_7)) dX7_looksForBan_136
  · exact q_retV F hr hlk w (RepM.cg hM (if_neg c_7)) dX7_looksForBan_66
def g_X7_finds_1 (G : GS) (i1 : Nat) (x2 : Int32) (x3 : Int32) (i9 : Nat) : GS := up2 G 0 0 (if f_X7_isVisit G (nI i1) = 0 then 1 else (if f_X7_in x2 0 9 = 0 then 2 else (if f_X7_in x3 1 10 = 0 then 2 else 0)))
theorem e_g_X7_finds_1 (G : GS) (i1 : Nat) (x2 : Int32) (x3 : Int32) (i9 : Nat) {j : Nat} (h : j ∉ [0]) : g_X7_finds_1 G i1 x2 x3 i9 j = G j := (up2_ne (fun q => h (by rw [q]; exact List.mem_cons_self))).trans rfl
def g_X7_finds_2 (G : GS) (i1 : Nat) (x2 : Int32) (x3 : Int32) (i9 : Nat) : GS := up2 (g_X7_finds_1 G i1 x2 x3 i9) 0 0 (if f_X7_isHere (g_X7_finds_1 G i1 x2 x3 i9) i1 = 0 then 3 else (if f_X7_isGroundFor (g_X7_finds_1 G i1 x2 x3 i9) i9 x2 = 0 then 3 else (if 12 ≤ nI (gnF G i1) then 3 else 0)))
theorem e_g_X7_finds_2 (G : GS) (i1 : Nat) (x2 : Int32) (x3 : Int32) (i9 : Nat) {j : Nat} (h : j ∉ [0, 0]) : g_X7_finds_2 G i1 x2 x3 i9 j = G j := (up2_ne (fun q => h (by rw [q]; exact List.mem_cons_self))).trans (e_g_X7_finds_1 G i1 x2 x3 i9 (fun q => h (List.mem_cons_of_mem _ q)))
def g_X7_finds_3 (G : GS) (i1 : Nat) (x2 : Int32) (x3 : Int32) (i9 : Nat) : GS := up2 (g_X7_finds_2 G i1 x2 x3 i9) 36 ((12 * i1) + (gnF G i1)) x3
theorem e_g_X7_finds_3 (G : GS) (i1 : Nat) (x2 : Int32) (x3 : Int32) (i9 : Nat) {j : Nat} (h : j ∉ [36, 0, 0]) : g_X7_finds_3 G i1 x2 x3 i9 j = G j := (up2_ne (fun q => h (by rw [q]; exact List.mem_cons_self))).trans (e_g_X7_finds_2 G i1 x2 x3 i9 (fun q => h (List.mem_cons_of_mem _ q)))
def g_X7_finds_4 (G : GS) (i1 : Nat) (x2 : Int32) (x3 : Int32) (i9 : Nat) : GS := up2 (g_X7_finds_3 G i1 x2 x3 i9) 37 ((12 * i1) + (gnF G i1)) 0
theorem e_g_X7_finds_4 (G : GS) (i1 : Nat) (x2 : Int32) (x3 : Int32) (i9 : Nat) {j : Nat} (h : j ∉ [37, 36, 0, 0]) : g_X7_finds_4 G i1 x2 x3 i9 j = G j := (up2_ne (fun q => h (by rw [q]; exact List.mem_cons_self))).trans (e_g_X7_finds_3 G i1 x2 x3 i9 (fun q => h (List.mem_cons_of_mem _ q)))
def g_X7_finds_5 (G : GS) (i1 : Nat) (x2 : Int32) (x3 : Int32) (i9 : Nat) : GS := up2 (g_X7_finds_4 G i1 x2 x3 i9) 35 i1 ((nI (gnF G i1)) + 1)
theorem e_g_X7_finds_5 (G : GS) (i1 : Nat) (x2 : Int32) (x3 : Int32) (i9 : Nat) {j : Nat} (h : j ∉ [35, 37, 36, 0, 0]) : g_X7_finds_5 G i1 x2 x3 i9 j = G j := (up2_ne (fun q => h (by rw [q]; exact List.mem_cons_self))).trans (e_g_X7_finds_4 G i1 x2 x3 i9 (fun q => h (List.mem_cons_of_mem _ q)))
def g_X7_finds_6 (G : GS) (i1 : Nat) (x2 : Int32) (x3 : Int32) (i9 : Nat) : GS := up2 (g_X7_finds_5 G i1 x2 x3 i9) 33 i1 (if G 33 i1 = 0 then (if (nI (gnF G i1)) + 1 = 3 then 1 else G 33 i1) else G 33 i1)
theorem e_g_X7_finds_6 (G : GS) (i1 : Nat) (x2 : Int32) (x3 : Int32) (i9 : Nat) {j : Nat} (h : j ∉ [33, 35, 37, 36, 0, 0]) : g_X7_finds_6 G i1 x2 x3 i9 j = G j := (up2_ne (fun q => h (by rw [q]; exact List.mem_cons_self))).trans (e_g_X7_finds_5 G i1 x2 x3 i9 (fun q => h (List.mem_cons_of_mem _ q)))
def f_X7_finds (G : GS) (i1 : Nat) (x2 : Int32) (x3 : Int32) (i9 : Nat) : Int32 := if (if f_X7_isVisit G (nI i1) = 0 then 1 else (if f_X7_in x2 0 9 = 0 then 2 else (if f_X7_in x3 1 10 = 0 then 2 else 0)) : Int32) = 0 then (if (if f_X7_isHere (g_X7_finds_1 G i1 x2 x3 i9) i1 = 0 then 3 else (if f_X7_isGroundFor (g_X7_finds_1 G i1 x2 x3 i9) i9 x2 = 0 then 3 else (if 12 ≤ nI (gnF G i1) then 3 else 0)) : Int32) ≤ 0 then ((nI (gnF G i1)) + 1) - 1 else 0) else 0
def g_X7_finds (G : GS) (i1 : Nat) (x2 : Int32) (x3 : Int32) (i9 : Nat) : GS := if (if f_X7_isVisit G (nI i1) = 0 then 1 else (if f_X7_in x2 0 9 = 0 then 2 else (if f_X7_in x3 1 10 = 0 then 2 else 0)) : Int32) = 0 then (if (if f_X7_isHere (g_X7_finds_1 G i1 x2 x3 i9) i1 = 0 then 3 else (if f_X7_isGroundFor (g_X7_finds_1 G i1 x2 x3 i9) i9 x2 = 0 then 3 else (if 12 ≤ nI (gnF G i1) then 3 else 0)) : Int32) ≤ 0 then g_X7_finds_6 G i1 x2 x3 i9 else g_X7_finds_2 G i1 x2 x3 i9) else g_X7_finds_1 G i1 x2 x3 i9
set_option maxHeartbeats 4000000 in
set_option maxRecDepth 100000 in
theorem c_X7_finds (l : Launch) (D : va_G) (cy : Nat → ClassId) (A : Nat → Prop) (μ : MU) (m0 : Nat) (ad : Nat → Nat) (G : GS) (hM : RepM cy m0 ad G μ) (i1 : Nat) (x2 : Int32) (x3 : Int32) (i9 : Nat) (hi1 : i1 < 60) (hi9 : i9 < 12) (hI : InvM G) (hso : G 30 i1 = nI i9) (hlt : gnF G i1 < 12) : Met l yX7_finds (WS yX7_finds cX7_finds 4 (Option.some Jvm.ClassFile.FieldType.int)) { frames := 3, cells := 0, slots := 0, locals := 68 } (va_Pc [.ref m0, .int (nI i1), .int x2, .int x3] (Wd D cy A μ)) (va_Qi (fun (r9 : Int32) (μ1 : MU) => r9 = f_X7_finds G i1 x2 x3 i9 ∧ RepM cy m0 ad (g_X7_finds G i1 x2 x3 i9) μ1) (fun μ1 t => Wd D cy A μ1 t) A) 0 0 A := by
  refine q_met (by decide) (Nat.le_of_ble_eq_true rfl) ?_
  intro p e s m below meth c F w hr hlk hnm ls hl
  have F : CallFix p m c cX7_finds 4 s _ BIG RX7 := F
  have hl : lv_has ls 4 [(0, .ref m0), (1, .int (nI i1)), (2, .int x2), (3, .int x3)] := hl
  refine lv_aload_n F.1 F.2.1 dX7_finds_0 rfl (lv_at hl 0 rfl) ?_
  refine lv_aload_n F.1 F.2.1 dX7_finds_1 rfl (lv_at hl 0 rfl) ?_
  refine lv_iload_n F.1 F.2.1 dX7_finds_2 rfl (lv_at hl 1 rfl) ?_
  refine q_rV (rest := [.ref m0]) F w kV_X7_228 hd_X7_isVisit (ci := 8) rfl (c_X7_isVisit l D cy A _ m0 ad G hM (nI i1)) hM.1 dX7_finds_3 rfl rfl hl.1 ⟨rfl, rfl, Nat.le_of_ble_eq_true rfl, Nat.le_of_ble_eq_true rfl⟩ (Nat.le_of_ble_eq_true rfl) ⟨Nat.zero_le _, Nat.zero_le _⟩ ?_
  refine jn0 (m := m) (ls := ls) (rest := [.ref m0]) (if f_X7_isVisit G (nI i1) = 0 then 1 else (if f_X7_in x2 0 9 = 0 then 2 else (if f_X7_in x3 1 10 = 0 then 2 else 0))) 38 (fun J_1 => ?_) ?_
  · refine lv_if_ne (tgt := 13) F.1 F.2.1 dX7_finds_6 (by decide) (fun c_2 => ?_) (fun c_2 => ?_)
    · refine lv_iload_n F.1 F.2.1 dX7_finds_13 rfl (lv_at hl 2 rfl) ?_
      refine lv_iconst (v := 0) F.1 F.2.1 dX7_finds_14 (by decide) ?_
      refine lv_bipush (v := 9) F.1 F.2.1 dX7_finds_15 (by decide) ?_
      refine q_rS (rest := [.ref m0]) F w kS_X7_135 hd_X7_in (c_X7_in l D cy A _ x2 0 9) dX7_finds_17 rfl rfl hl.1 ⟨rfl, rfl, Nat.le_of_ble_eq_true rfl, Nat.le_of_ble_eq_true rfl⟩ (Nat.le_of_ble_eq_true rfl) ⟨Nat.zero_le _, Nat.zero_le _⟩ ?_
      refine lv_if_eq (tgt := 37) F.1 F.2.1 dX7_finds_20 (by decide) (fun c_3 => ?_) (fun c_3 => ?_)
      · refine lv_iconst (v := 2) F.1 F.2.1 dX7_finds_37 (by decide) ?_
        exact jn_a ((if_neg c_2).trans (if_pos c_3)) J_1
      · refine lv_iload_n F.1 F.2.1 dX7_finds_23 rfl (lv_at hl 3 rfl) ?_
        refine lv_iconst (v := 1) F.1 F.2.1 dX7_finds_24 (by decide) ?_
        refine lv_bipush (v := 10) F.1 F.2.1 dX7_finds_25 (by decide) ?_
        refine q_rS (rest := [.ref m0]) F w kS_X7_135 hd_X7_in (c_X7_in l D cy A _ x3 1 10) dX7_finds_27 rfl rfl hl.1 ⟨rfl, rfl, Nat.le_of_ble_eq_true rfl, Nat.le_of_ble_eq_true rfl⟩ (Nat.le_of_ble_eq_true rfl) ⟨Nat.zero_le _, Nat.zero_le _⟩ ?_
        refine lv_if_eq (tgt := 37) F.1 F.2.1 dX7_finds_30 (by decide) (fun c_4 => ?_) (fun c_4 => ?_)
        · refine lv_iconst (v := 2) F.1 F.2.1 dX7_finds_37 (by decide) ?_
          exact jn_a ((if_neg c_2).trans ((if_neg c_3).trans (if_pos c_4))) J_1
        · refine lv_iconst (v := 0) F.1 F.2.1 dX7_finds_33 (by decide) ?_
          refine lv_goto (tgt := 38) F.1 F.2.1 dX7_finds_34 (by decide) ?_
          exact jn_a ((if_neg c_2).trans ((if_neg c_3).trans (if_neg c_4))) J_1
    · refine lv_iconst (v := 1) F.1 F.2.1 dX7_finds_9 (by decide) ?_
      refine lv_goto (tgt := 38) F.1 F.2.1 dX7_finds_10 (by decide) ?_
      exact jn_a (if_pos c_2) J_1
  refine mp_128 F w hM dX7_finds_38 (fun H locs μ w hM => ?_)
  have hM : RepM cy m0 ad (g_X7_finds_1 G i1 x2 x3 i9) μ := hM
  refine lv_aload_n F.1 F.2.1 dX7_finds_41 rfl (lv_at hl 0 rfl) ?_
  refine gf_X7_128 F w hM.1 rfl dX7_finds_42 ?_
  refine lv_fold (y := if f_X7_isVisit G (nI i1) = 0 then 1 else (if f_X7_in x2 0 9 = 0 then 2 else (if f_X7_in x3 1 10 = 0 then 2 else 0))) ((congrFun (up2_eq _ _ _ _) _).trans pk_us) ?_
  refine lv_if_ne (tgt := 90) F.1 F.2.1 dX7_finds_45 (by decide) (fun c_5 => ?_) (fun c_5 => ?_)
  · refine lv_aload_n F.1 F.2.1 dX7_finds_90 rfl (lv_at hl 0 rfl) ?_
    refine gf_X7_128 F w hM.1 rfl dX7_finds_91 ?_
    refine lv_fold (y := if f_X7_isVisit G (nI i1) = 0 then 1 else (if f_X7_in x2 0 9 = 0 then 2 else (if f_X7_in x3 1 10 = 0 then 2 else 0))) ((congrFun (up2_eq _ _ _ _) _).trans pk_us) ?_
    refine lv_if_le (tgt := 99) F.1 F.2.1 dX7_finds_94 (by decide) (fun c_6 => absurd c_6 (fun h9 => c_5 (by revert h9; (repeat' split) <;> decide))) (fun c_6 => ?_)
    refine lv_iconst (v := 0) F.1 F.2.1 dX7_finds_97 (by decide) ?_
    exact q_retI (S := Unit) F hr hlk w ⟨(if_neg c_5).symm, RepM.cg hM (if_neg c_5)⟩ dX7_finds_98
  · refine lv_aload_n F.1 F.2.1 dX7_finds_48 rfl (lv_at hl 0 rfl) ?_
    refine lv_aload_n F.1 F.2.1 dX7_finds_49 rfl (lv_at hl 0 rfl) ?_
    refine lv_iload_n F.1 F.2.1 dX7_finds_50 rfl (lv_at hl 1 rfl) ?_
    refine q_rV (rest := [.ref m0]) F w kV_X7_231 hd_X7_isHere (ci := 8) rfl (c_X7_isHere l D cy A _ m0 ad (g_X7_finds_1 G i1 x2 x3 i9) hM i1 (show i1 < 60 by omega) (InvM.fr hI 0 0 (if f_X7_isVisit G (nI i1) = 0 then 1 else (if f_X7_in x2 0 9 = 0 then 2 else (if f_X7_in x3 1 10 = 0 then 2 else 0))) rfl)) hM.1 dX7_finds_51 rfl rfl hl.1 ⟨rfl, rfl, Nat.le_of_ble_eq_true rfl, Nat.le_of_ble_eq_true rfl⟩ (Nat.le_of_ble_eq_true rfl) ⟨Nat.zero_le _, Nat.zero_le _⟩ ?_
    refine jn0 (m := m) (ls := ls) (rest := [.ref m0]) (if f_X7_isHere (g_X7_finds_1 G i1 x2 x3 i9) i1 = 0 then 3 else (if f_X7_isGroundFor (g_X7_finds_1 G i1 x2 x3 i9) i9 x2 = 0 then 3 else (if 12 ≤ nI (gnF G i1) then 3 else 0))) 87 (fun J_7 => ?_) ?_
    · refine lv_if_eq (tgt := 86) F.1 F.2.1 dX7_finds_54 (by decide) (fun c_8 => ?_) (fun c_8 => ?_)
      · refine lv_iconst (v := 3) F.1 F.2.1 dX7_finds_86 (by decide) ?_
        exact jn_a (if_pos c_8) J_7
      · refine lv_aload_n F.1 F.2.1 dX7_finds_57 rfl (lv_at hl 0 rfl) ?_
        refine lv_aload_n F.1 F.2.1 dX7_finds_58 rfl (lv_at hl 0 rfl) ?_
        refine gf_X7_86 F w hM.1 rfl dX7_finds_59 ?_
        refine lv_iload_n F.1 F.2.1 dX7_finds_62 rfl (lv_at hl 1 rfl) ?_
        refine m_ild F w hM 30 (by decide) rfl rfl i1 (show i1 < 60 by omega) (by decide) dX7_finds_63 ?_
        refine lv_fold (y := G 30 i1) (congrFun (e_g_X7_finds_1 G i1 x2 x3 i9 (by decide)) i1) ?_
        refine lv_fold (y := nI i9) (hso) ?_
        refine lv_iload_n F.1 F.2.1 dX7_finds_64 rfl (lv_at hl 2 rfl) ?_
        refine q_rV (rest := [.ref m0]) F w kV_X7_234 hd_X7_isGroundFor (ci := 8) rfl (c_X7_isGroundFor l D cy A _ m0 ad (g_X7_finds_1 G i1 x2 x3 i9) hM i9 x2 (show i9 < 12 by omega) (InvM.fr hI 0 0 (if f_X7_isVisit G (nI i1) = 0 then 1 else (if f_X7_in x2 0 9 = 0 then 2 else (if f_X7_in x3 1 10 = 0 then 2 else 0))) rfl)) hM.1 dX7_finds_65 rfl rfl hl.1 ⟨rfl, rfl, Nat.le_of_ble_eq_true rfl, Nat.le_of_ble_eq_true rfl⟩ (Nat.le_of_ble_eq_true rfl) ⟨Nat.zero_le _, Nat.zero_le _⟩ ?_
        refine lv_if_eq (tgt := 86) F.1 F.2.1 dX7_finds_68 (by decide) (fun c_9 => ?_) (fun c_9 => ?_)
        · refine lv_iconst (v := 3) F.1 F.2.1 dX7_finds_86 (by decide) ?_
          exact jn_a ((if_neg c_8).trans (if_pos c_9)) J_7
        · refine lv_aload_n F.1 F.2.1 dX7_finds_71 rfl (lv_at hl 0 rfl) ?_
          refine gf_X7_101 F w hM.1 rfl dX7_finds_72 ?_
          refine lv_iload_n F.1 F.2.1 dX7_finds_75 rfl (lv_at hl 1 rfl) ?_
          refine m_ild F w hM 35 (by decide) rfl rfl i1 (show i1 < 60 by omega) (by decide) dX7_finds_76 ?_
          refine lv_fold (y := G 35 i1) (congrFun (e_g_X7_finds_1 G i1 x2 x3 i9 (by decide)) i1) ?_
          refine lv_fold (y := nI (gnF G i1)) ((hI.f hi1).1) ?_
          refine lv_bipush (v := 12) F.1 F.2.1 dX7_finds_77 (by decide) ?_
          refine lv_icmp_ge (tgt := 86) F.1 F.2.1 dX7_finds_79 (by decide) (fun c_10 => ?_) (fun c_10 => ?_)
          · refine lv_iconst (v := 3) F.1 F.2.1 dX7_finds_86 (by decide) ?_
            exact jn_a ((if_neg c_8).trans ((if_neg c_9).trans (if_pos c_10))) J_7
          · refine lv_iconst (v := 0) F.1 F.2.1 dX7_finds_82 (by decide) ?_
            refine lv_goto (tgt := 87) F.1 F.2.1 dX7_finds_83 (by decide) ?_
            exact jn_a ((if_neg c_8).trans ((if_neg c_9).trans (if_neg c_10))) J_7
    refine mp_128 F w hM dX7_finds_87 (fun H locs μ w hM => ?_)
    have hM : RepM cy m0 ad (g_X7_finds_2 G i1 x2 x3 i9) μ := hM
    refine lv_aload_n F.1 F.2.1 dX7_finds_90 rfl (lv_at hl 0 rfl) ?_
    refine gf_X7_128 F w hM.1 rfl dX7_finds_91 ?_
    refine lv_fold (y := if f_X7_isHere (g_X7_finds_1 G i1 x2 x3 i9) i1 = 0 then 3 else (if f_X7_isGroundFor (g_X7_finds_1 G i1 x2 x3 i9) i9 x2 = 0 then 3 else (if 12 ≤ nI (gnF G i1) then 3 else 0))) ((congrFun (up2_eq _ _ _ _) _).trans pk_us) ?_
    refine lv_if_le (tgt := 99) F.1 F.2.1 dX7_finds_94 (by decide) (fun c_11 => ?_) (fun c_11 => ?_)
    · refine lv_aload_n F.1 F.2.1 dX7_finds_99 rfl (lv_at hl 0 rfl) ?_
      refine gf_X7_104 F w hM.1 rfl dX7_finds_100 ?_
      refine lv_bipush (v := 12) F.1 F.2.1 dX7_finds_103 (by decide) ?_
      refine lv_iload_n F.1 F.2.1 dX7_finds_105 rfl (lv_at hl 1 rfl) ?_
      refine lv_imul F.1 F.2.1 dX7_finds_106 ?_
      refine lv_fold (y := nI (12 * i1)) (pk_mul 12 i1) ?_
      refine lv_aload_n F.1 F.2.1 dX7_finds_107 rfl (lv_at hl 0 rfl) ?_
      refine gf_X7_101 F w hM.1 rfl dX7_finds_108 ?_
      refine lv_iload_n F.1 F.2.1 dX7_finds_111 rfl (lv_at hl 1 rfl) ?_
      refine m_ild F w hM 35 (by decide) rfl rfl i1 (show i1 < 60 by omega) (by decide) dX7_finds_112 ?_
      refine lv_fold (y := G 35 i1) (congrFun (e_g_X7_finds_2 G i1 x2 x3 i9 (by decide)) i1) ?_
      refine lv_fold (y := nI (gnF G i1)) ((hI.f hi1).1) ?_
      refine lv_iadd F.1 F.2.1 dX7_finds_113 ?_
      refine lv_fold (y := nI ((12 * i1) + (gnF G i1))) (nI_add _ _) ?_
      refine lv_iload_n F.1 F.2.1 dX7_finds_114 rfl (lv_at hl 3 rfl) ?_
      refine m_ist F w hM 36 (by decide) rfl rfl ((12 * i1) + (gnF G i1)) (show (12 * i1) + (gnF G i1) < 720 by omega) (by decide) dX7_finds_115 (fun H locs μ w hM => ?_)
      have hM : RepM cy m0 ad (g_X7_finds_3 G i1 x2 x3 i9) μ := hM
      refine lv_aload_n F.1 F.2.1 dX7_finds_116 rfl (lv_at hl 0 rfl) ?_
      refine gf_X7_107 F w hM.1 rfl dX7_finds_117 ?_
      refine lv_bipush (v := 12) F.1 F.2.1 dX7_finds_120 (by decide) ?_
      refine lv_iload_n F.1 F.2.1 dX7_finds_122 rfl (lv_at hl 1 rfl) ?_
      refine lv_imul F.1 F.2.1 dX7_finds_123 ?_
      refine lv_fold (y := nI (12 * i1)) (pk_mul 12 i1) ?_
      refine lv_aload_n F.1 F.2.1 dX7_finds_124 rfl (lv_at hl 0 rfl) ?_
      refine gf_X7_101 F w hM.1 rfl dX7_finds_125 ?_
      refine lv_iload_n F.1 F.2.1 dX7_finds_128 rfl (lv_at hl 1 rfl) ?_
      refine m_ild F w hM 35 (by decide) rfl rfl i1 (show i1 < 60 by omega) (by decide) dX7_finds_129 ?_
      refine lv_fold (y := G 35 i1) (congrFun (e_g_X7_finds_3 G i1 x2 x3 i9 (by decide)) i1) ?_
      refine lv_fold (y := nI (gnF G i1)) ((hI.f hi1).1) ?_
      refine lv_iadd F.1 F.2.1 dX7_finds_130 ?_
      refine lv_fold (y := nI ((12 * i1) + (gnF G i1))) (nI_add _ _) ?_
      refine lv_iconst (v := 0) F.1 F.2.1 dX7_finds_131 (by decide) ?_
      refine m_ist F w hM 37 (by decide) rfl rfl ((12 * i1) + (gnF G i1)) (show (12 * i1) + (gnF G i1) < 720 by omega) (by decide) dX7_finds_132 (fun H locs μ w hM => ?_)
      have hM : RepM cy m0 ad (g_X7_finds_4 G i1 x2 x3 i9) μ := hM
      refine lv_aload_n F.1 F.2.1 dX7_finds_133 rfl (lv_at hl 0 rfl) ?_
      refine gf_X7_101 F w hM.1 rfl dX7_finds_134 ?_
      refine lv_iload_n F.1 F.2.1 dX7_finds_137 rfl (lv_at hl 1 rfl) ?_
      refine lv_dup2_11 F.1 F.2.1 dX7_finds_138 rfl rfl ?_
      refine m_ild F w hM 35 (by decide) rfl rfl i1 (show i1 < 60 by omega) (by decide) dX7_finds_139 ?_
      refine lv_fold (y := G 35 i1) (congrFun (e_g_X7_finds_4 G i1 x2 x3 i9 (by decide)) i1) ?_
      refine lv_fold (y := nI (gnF G i1)) ((hI.f hi1).1) ?_
      refine lv_iconst (v := 1) F.1 F.2.1 dX7_finds_140 (by decide) ?_
      refine lv_iadd F.1 F.2.1 dX7_finds_141 ?_
      refine m_ist F w hM 35 (by decide) rfl rfl i1 (show i1 < 60 by omega) (by decide) dX7_finds_142 (fun H locs μ w hM => ?_)
      have hM : RepM cy m0 ad (g_X7_finds_5 G i1 x2 x3 i9) μ := hM
      refine lv_aload_n F.1 F.2.1 dX7_finds_143 rfl (lv_at hl 0 rfl) ?_
      refine gf_X7_95 F w hM.1 rfl dX7_finds_144 ?_
      refine lv_iload_n F.1 F.2.1 dX7_finds_147 rfl (lv_at hl 1 rfl) ?_
      refine lv_aload_n F.1 F.2.1 dX7_finds_148 rfl (lv_at hl 0 rfl) ?_
      refine gf_X7_95 F w hM.1 rfl dX7_finds_149 ?_
      refine lv_iload_n F.1 F.2.1 dX7_finds_152 rfl (lv_at hl 1 rfl) ?_
      refine m_ild F w hM 33 (by decide) rfl rfl i1 (show i1 < 60 by omega) (by decide) dX7_finds_153 ?_
      refine lv_fold (y := G 33 i1) (congrFun (e_g_X7_finds_5 G i1 x2 x3 i9 (by decide)) i1) ?_
      refine jn0 (m := m) (ls := ls) (rest := [.int (nI i1), .ref (ad 33)]) (if G 33 i1 = 0 then (if (nI (gnF G i1)) + 1 = 3 then 1 else G 33 i1) else G 33 i1) 177 (fun J_12 => ?_) ?_
      · refine lv_if_ne (tgt := 171) F.1 F.2.1 dX7_finds_154 (by decide) (fun c_13 => ?_) (fun c_13 => ?_)
        · refine lv_aload_n F.1 F.2.1 dX7_finds_171 rfl (lv_at hl 0 rfl) ?_
          refine gf_X7_95 F w hM.1 rfl dX7_finds_172 ?_
          refine lv_iload_n F.1 F.2.1 dX7_finds_175 rfl (lv_at hl 1 rfl) ?_
          refine m_ild F w hM 33 (by decide) rfl rfl i1 (show i1 < 60 by omega) (by decide) dX7_finds_176 ?_
          refine lv_fold (y := G 33 i1) (congrFun (e_g_X7_finds_5 G i1 x2 x3 i9 (by decide)) i1) ?_
          exact jn_a (if_neg c_13) J_12
        · refine lv_aload_n F.1 F.2.1 dX7_finds_157 rfl (lv_at hl 0 rfl) ?_
          refine gf_X7_101 F w hM.1 rfl dX7_finds_158 ?_
          refine lv_iload_n F.1 F.2.1 dX7_finds_161 rfl (lv_at hl 1 rfl) ?_
          refine m_ild F w hM 35 (by decide) rfl rfl i1 (show i1 < 60 by omega) (by decide) dX7_finds_162 ?_
          refine lv_fold (y := (nI (gnF G i1)) + 1) ((congrFun (up2_eq _ _ _ _) _).trans pk_us) ?_
          refine lv_iconst (v := 3) F.1 F.2.1 dX7_finds_163 (by decide) ?_
          refine lv_icmp_ne (tgt := 171) F.1 F.2.1 dX7_finds_164 (by decide) (fun c_14 => ?_) (fun c_14 => ?_)
          · refine lv_aload_n F.1 F.2.1 dX7_finds_171 rfl (lv_at hl 0 rfl) ?_
            refine gf_X7_95 F w hM.1 rfl dX7_finds_172 ?_
            refine lv_iload_n F.1 F.2.1 dX7_finds_175 rfl (lv_at hl 1 rfl) ?_
            refine m_ild F w hM 33 (by decide) rfl rfl i1 (show i1 < 60 by omega) (by decide) dX7_finds_176 ?_
            refine lv_fold (y := G 33 i1) (congrFun (e_g_X7_finds_5 G i1 x2 x3 i9 (by decide)) i1) ?_
            exact jn_a ((if_pos c_13).trans (if_neg c_14)) J_12
          · refine lv_iconst (v := 1) F.1 F.2.1 dX7_finds_167 (by decide) ?_
            refine lv_goto (tgt := 177) F.1 F.2.1 dX7_finds_168 (by decide) ?_
            exact jn_a ((if_pos c_13).trans (if_pos c_14)) J_12
      refine m_ist F w hM 33 (by decide) rfl rfl i1 (show i1 < 60 by omega) (by decide) dX7_finds_177 (fun H locs μ w hM => ?_)
      have hM : RepM cy m0 ad (g_X7_finds_6 G i1 x2 x3 i9) μ := hM
      refine lv_aload_n F.1 F.2.1 dX7_finds_178 rfl (lv_at hl 0 rfl) ?_
      refine gf_X7_101 F w hM.1 rfl dX7_finds_179 ?_
      refine lv_iload_n F.1 F.2.1 dX7_finds_182 rfl (lv_at hl 1 rfl) ?_
      refine m_ild F w hM 35 (by decide) rfl rfl i1 (show i1 < 60 by omega) (by decide) dX7_finds_183 ?_
      refine lv_fold (y := (nI (gnF G i1)) + 1) ((congrFun (up2_ne (by decide : (35 : Nat) ≠ 33)) _).trans ((congrFun (up2_eq _ _ _ _) _).trans pk_us)) ?_
      refine lv_iconst (v := 1) F.1 F.2.1 dX7_finds_184 (by decide) ?_
      refine lv_isub F.1 F.2.1 dX7_finds_185 ?_
      exact q_retI (S := Unit) F hr hlk w ⟨((if_pos c_5).trans (if_pos c_11)).symm, RepM.cg hM ((if_pos c_5).trans (if_pos c_11))⟩ dX7_finds_186
    · refine lv_iconst (v := 0) F.1 F.2.1 dX7_finds_97 (by decide) ?_
      exact q_retI (S := Unit) F hr hlk w ⟨((if_pos c_5).trans (if_neg c_11)).symm, RepM.cg hM ((if_pos c_5).trans (if_neg c_11))⟩ dX7_finds_98
def g_X7_finds_n_1 (G : GS) (i1 : Nat) (x2 : Int32) (x3 : Int32) (i9 : Nat) : GS := up2 G 0 0 (if f_X7_isVisit G (nI i1) = 0 then 1 else (if f_X7_in x2 0 9 = 0 then 2 else (if f_X7_in x3 1 10 = 0 then 2 else 0)))
theorem e_g_X7_finds_n_1 (G : GS) (i1 : Nat) (x2 : Int32) (x3 : Int32) (i9 : Nat) {j : Nat} (h : j ∉ [0]) : g_X7_finds_n_1 G i1 x2 x3 i9 j = G j := (up2_ne (fun q => h (by rw [q]; exact List.mem_cons_self))).trans rfl
def g_X7_finds_n_2 (G : GS) (i1 : Nat) (x2 : Int32) (x3 : Int32) (i9 : Nat) : GS := up2 (g_X7_finds_n_1 G i1 x2 x3 i9) 0 0 3
theorem e_g_X7_finds_n_2 (G : GS) (i1 : Nat) (x2 : Int32) (x3 : Int32) (i9 : Nat) {j : Nat} (h : j ∉ [0, 0]) : g_X7_finds_n_2 G i1 x2 x3 i9 j = G j := (up2_ne (fun q => h (by rw [q]; exact List.mem_cons_self))).trans (e_g_X7_finds_n_1 G i1 x2 x3 i9 (fun q => h (List.mem_cons_of_mem _ q)))
def f_X7_finds_n (G : GS) (i1 : Nat) (x2 : Int32) (x3 : Int32) (i9 : Nat) : Int32 := if (if f_X7_isVisit G (nI i1) = 0 then 1 else (if f_X7_in x2 0 9 = 0 then 2 else (if f_X7_in x3 1 10 = 0 then 2 else 0)) : Int32) = 0 then 0 else 0
def g_X7_finds_n (G : GS) (i1 : Nat) (x2 : Int32) (x3 : Int32) (i9 : Nat) : GS := if (if f_X7_isVisit G (nI i1) = 0 then 1 else (if f_X7_in x2 0 9 = 0 then 2 else (if f_X7_in x3 1 10 = 0 then 2 else 0)) : Int32) = 0 then g_X7_finds_n_2 G i1 x2 x3 i9 else g_X7_finds_n_1 G i1 x2 x3 i9
set_option maxHeartbeats 4000000 in
set_option maxRecDepth 100000 in
theorem c_X7_finds_n (l : Launch) (D : va_G) (cy : Nat → ClassId) (A : Nat → Prop) (μ : MU) (m0 : Nat) (ad : Nat → Nat) (G : GS) (hM : RepM cy m0 ad G μ) (i1 : Nat) (x2 : Int32) (x3 : Int32) (i9 : Nat) (hi1 : i1 < 60) (hi9 : i9 < 12) (hI : InvM G) (hso : G 30 i1 = nI i9) (hb : G 35 i1 = 12) : Met l yX7_finds (WS yX7_finds cX7_finds 4 (Option.some Jvm.ClassFile.FieldType.int)) { frames := 3, cells := 0, slots := 0, locals := 68 } (va_Pc [.ref m0, .int (nI i1), .int x2, .int x3] (Wd D cy A μ)) (va_Qi (fun (r9 : Int32) (μ1 : MU) => r9 = f_X7_finds_n G i1 x2 x3 i9 ∧ RepM cy m0 ad (g_X7_finds_n G i1 x2 x3 i9) μ1) (fun μ1 t => Wd D cy A μ1 t) A) 0 0 A := by
  refine q_met (by decide) (Nat.le_of_ble_eq_true rfl) ?_
  intro p e s m below meth c F w hr hlk hnm ls hl
  have F : CallFix p m c cX7_finds 4 s _ BIG RX7 := F
  have hl : lv_has ls 4 [(0, .ref m0), (1, .int (nI i1)), (2, .int x2), (3, .int x3)] := hl
  refine lv_aload_n F.1 F.2.1 dX7_finds_0 rfl (lv_at hl 0 rfl) ?_
  refine lv_aload_n F.1 F.2.1 dX7_finds_1 rfl (lv_at hl 0 rfl) ?_
  refine lv_iload_n F.1 F.2.1 dX7_finds_2 rfl (lv_at hl 1 rfl) ?_
  refine q_rV (rest := [.ref m0]) F w kV_X7_228 hd_X7_isVisit (ci := 8) rfl (c_X7_isVisit l D cy A _ m0 ad G hM (nI i1)) hM.1 dX7_finds_3 rfl rfl hl.1 ⟨rfl, rfl, Nat.le_of_ble_eq_true rfl, Nat.le_of_ble_eq_true rfl⟩ (Nat.le_of_ble_eq_true rfl) ⟨Nat.zero_le _, Nat.zero_le _⟩ ?_
  refine jn0 (m := m) (ls := ls) (rest := [.ref m0]) (if f_X7_isVisit G (nI i1) = 0 then 1 else (if f_X7_in x2 0 9 = 0 then 2 else (if f_X7_in x3 1 10 = 0 then 2 else 0))) 38 (fun J_1 => ?_) ?_
  · refine lv_if_ne (tgt := 13) F.1 F.2.1 dX7_finds_6 (by decide) (fun c_2 => ?_) (fun c_2 => ?_)
    · refine lv_iload_n F.1 F.2.1 dX7_finds_13 rfl (lv_at hl 2 rfl) ?_
      refine lv_iconst (v := 0) F.1 F.2.1 dX7_finds_14 (by decide) ?_
      refine lv_bipush (v := 9) F.1 F.2.1 dX7_finds_15 (by decide) ?_
      refine q_rS (rest := [.ref m0]) F w kS_X7_135 hd_X7_in (c_X7_in l D cy A _ x2 0 9) dX7_finds_17 rfl rfl hl.1 ⟨rfl, rfl, Nat.le_of_ble_eq_true rfl, Nat.le_of_ble_eq_true rfl⟩ (Nat.le_of_ble_eq_true rfl) ⟨Nat.zero_le _, Nat.zero_le _⟩ ?_
      refine lv_if_eq (tgt := 37) F.1 F.2.1 dX7_finds_20 (by decide) (fun c_3 => ?_) (fun c_3 => ?_)
      · refine lv_iconst (v := 2) F.1 F.2.1 dX7_finds_37 (by decide) ?_
        exact jn_a ((if_neg c_2).trans (if_pos c_3)) J_1
      · refine lv_iload_n F.1 F.2.1 dX7_finds_23 rfl (lv_at hl 3 rfl) ?_
        refine lv_iconst (v := 1) F.1 F.2.1 dX7_finds_24 (by decide) ?_
        refine lv_bipush (v := 10) F.1 F.2.1 dX7_finds_25 (by decide) ?_
        refine q_rS (rest := [.ref m0]) F w kS_X7_135 hd_X7_in (c_X7_in l D cy A _ x3 1 10) dX7_finds_27 rfl rfl hl.1 ⟨rfl, rfl, Nat.le_of_ble_eq_true rfl, Nat.le_of_ble_eq_true rfl⟩ (Nat.le_of_ble_eq_true rfl) ⟨Nat.zero_le _, Nat.zero_le _⟩ ?_
        refine lv_if_eq (tgt := 37) F.1 F.2.1 dX7_finds_30 (by decide) (fun c_4 => ?_) (fun c_4 => ?_)
        · refine lv_iconst (v := 2) F.1 F.2.1 dX7_finds_37 (by decide) ?_
          exact jn_a ((if_neg c_2).trans ((if_neg c_3).trans (if_pos c_4))) J_1
        · refine lv_iconst (v := 0) F.1 F.2.1 dX7_finds_33 (by decide) ?_
          refine lv_goto (tgt := 38) F.1 F.2.1 dX7_finds_34 (by decide) ?_
          exact jn_a ((if_neg c_2).trans ((if_neg c_3).trans (if_neg c_4))) J_1
    · refine lv_iconst (v := 1) F.1 F.2.1 dX7_finds_9 (by decide) ?_
      refine lv_goto (tgt := 38) F.1 F.2.1 dX7_finds_10 (by decide) ?_
      exact jn_a (if_pos c_2) J_1
  refine mp_128 F w hM dX7_finds_38 (fun H locs μ w hM => ?_)
  have hM : RepM cy m0 ad (g_X7_finds_n_1 G i1 x2 x3 i9) μ := hM
  refine lv_aload_n F.1 F.2.1 dX7_finds_41 rfl (lv_at hl 0 rfl) ?_
  refine gf_X7_128 F w hM.1 rfl dX7_finds_42 ?_
  refine lv_fold (y := if f_X7_isVisit G (nI i1) = 0 then 1 else (if f_X7_in x2 0 9 = 0 then 2 else (if f_X7_in x3 1 10 = 0 then 2 else 0))) ((congrFun (up2_eq _ _ _ _) _).trans pk_us) ?_
  refine lv_if_ne (tgt := 90) F.1 F.2.1 dX7_finds_45 (by decide) (fun c_5 => ?_) (fun c_5 => ?_)
  · refine lv_aload_n F.1 F.2.1 dX7_finds_90 rfl (lv_at hl 0 rfl) ?_
    refine gf_X7_128 F w hM.1 rfl dX7_finds_91 ?_
    refine lv_fold (y := if f_X7_isVisit G (nI i1) = 0 then 1 else (if f_X7_in x2 0 9 = 0 then 2 else (if f_X7_in x3 1 10 = 0 then 2 else 0))) ((congrFun (up2_eq _ _ _ _) _).trans pk_us) ?_
    refine lv_if_le (tgt := 99) F.1 F.2.1 dX7_finds_94 (by decide) (fun c_6 => absurd c_6 (fun h9 => c_5 (by revert h9; (repeat' split) <;> decide))) (fun c_6 => ?_)
    refine lv_iconst (v := 0) F.1 F.2.1 dX7_finds_97 (by decide) ?_
    exact q_retI (S := Unit) F hr hlk w ⟨(if_neg c_5).symm, RepM.cg hM (if_neg c_5)⟩ dX7_finds_98
  · refine lv_aload_n F.1 F.2.1 dX7_finds_48 rfl (lv_at hl 0 rfl) ?_
    refine lv_aload_n F.1 F.2.1 dX7_finds_49 rfl (lv_at hl 0 rfl) ?_
    refine lv_iload_n F.1 F.2.1 dX7_finds_50 rfl (lv_at hl 1 rfl) ?_
    refine q_rV (rest := [.ref m0]) F w kV_X7_231 hd_X7_isHere (ci := 8) rfl (c_X7_isHere l D cy A _ m0 ad (g_X7_finds_n_1 G i1 x2 x3 i9) hM i1 (show i1 < 60 by omega) (InvM.fr hI 0 0 (if f_X7_isVisit G (nI i1) = 0 then 1 else (if f_X7_in x2 0 9 = 0 then 2 else (if f_X7_in x3 1 10 = 0 then 2 else 0))) rfl)) hM.1 dX7_finds_51 rfl rfl hl.1 ⟨rfl, rfl, Nat.le_of_ble_eq_true rfl, Nat.le_of_ble_eq_true rfl⟩ (Nat.le_of_ble_eq_true rfl) ⟨Nat.zero_le _, Nat.zero_le _⟩ ?_
    refine jn0 (m := m) (ls := ls) (rest := [.ref m0]) (3) 87 (fun J_7 => ?_) ?_
    · refine lv_if_eq (tgt := 86) F.1 F.2.1 dX7_finds_54 (by decide) (fun c_8 => ?_) (fun c_8 => ?_)
      · refine lv_iconst (v := 3) F.1 F.2.1 dX7_finds_86 (by decide) ?_
        exact jn_a rfl J_7
      · refine lv_aload_n F.1 F.2.1 dX7_finds_57 rfl (lv_at hl 0 rfl) ?_
        refine lv_aload_n F.1 F.2.1 dX7_finds_58 rfl (lv_at hl 0 rfl) ?_
        refine gf_X7_86 F w hM.1 rfl dX7_finds_59 ?_
        refine lv_iload_n F.1 F.2.1 dX7_finds_62 rfl (lv_at hl 1 rfl) ?_
        refine m_ild F w hM 30 (by decide) rfl rfl i1 (show i1 < 60 by omega) (by decide) dX7_finds_63 ?_
        refine lv_fold (y := G 30 i1) (congrFun (e_g_X7_finds_n_1 G i1 x2 x3 i9 (by decide)) i1) ?_
        refine lv_fold (y := nI i9) (hso) ?_
        refine lv_iload_n F.1 F.2.1 dX7_finds_64 rfl (lv_at hl 2 rfl) ?_
        refine q_rV (rest := [.ref m0]) F w kV_X7_234 hd_X7_isGroundFor (ci := 8) rfl (c_X7_isGroundFor l D cy A _ m0 ad (g_X7_finds_n_1 G i1 x2 x3 i9) hM i9 x2 (show i9 < 12 by omega) (InvM.fr hI 0 0 (if f_X7_isVisit G (nI i1) = 0 then 1 else (if f_X7_in x2 0 9 = 0 then 2 else (if f_X7_in x3 1 10 = 0 then 2 else 0))) rfl)) hM.1 dX7_finds_65 rfl rfl hl.1 ⟨rfl, rfl, Nat.le_of_ble_eq_true rfl, Nat.le_of_ble_eq_true rfl⟩ (Nat.le_of_ble_eq_true rfl) ⟨Nat.zero_le _, Nat.zero_le _⟩ ?_
        refine lv_if_eq (tgt := 86) F.1 F.2.1 dX7_finds_68 (by decide) (fun c_9 => ?_) (fun c_9 => ?_)
        · refine lv_iconst (v := 3) F.1 F.2.1 dX7_finds_86 (by decide) ?_
          exact jn_a rfl J_7
        · refine lv_aload_n F.1 F.2.1 dX7_finds_71 rfl (lv_at hl 0 rfl) ?_
          refine gf_X7_101 F w hM.1 rfl dX7_finds_72 ?_
          refine lv_iload_n F.1 F.2.1 dX7_finds_75 rfl (lv_at hl 1 rfl) ?_
          refine m_ild F w hM 35 (by decide) rfl rfl i1 (show i1 < 60 by omega) (by decide) dX7_finds_76 ?_
          refine lv_fold (y := G 35 i1) (congrFun (e_g_X7_finds_n_1 G i1 x2 x3 i9 (by decide)) i1) ?_
          refine lv_bipush (v := 12) F.1 F.2.1 dX7_finds_77 (by decide) ?_
          refine lv_icmp_ge (tgt := 86) F.1 F.2.1 dX7_finds_79 (by decide) (fun c_10 => ?_) (fun c_10 => absurd (by rw [hb]; decide) c_10)
          refine lv_iconst (v := 3) F.1 F.2.1 dX7_finds_86 (by decide) ?_
          exact jn_a rfl J_7
    refine mp_128 F w hM dX7_finds_87 (fun H locs μ w hM => ?_)
    have hM : RepM cy m0 ad (g_X7_finds_n_2 G i1 x2 x3 i9) μ := hM
    refine lv_aload_n F.1 F.2.1 dX7_finds_90 rfl (lv_at hl 0 rfl) ?_
    refine gf_X7_128 F w hM.1 rfl dX7_finds_91 ?_
    refine lv_fold (y := 3) ((congrFun (up2_eq _ _ _ _) _).trans pk_us) ?_
    refine lv_if_le (tgt := 99) F.1 F.2.1 dX7_finds_94 (by decide) (fun c_11 => absurd c_11 (by decide)) (fun c_11 => ?_)
    refine lv_iconst (v := 0) F.1 F.2.1 dX7_finds_97 (by decide) ?_
    exact q_retI (S := Unit) F hr hlk w ⟨(if_pos c_5).symm, RepM.cg hM (if_pos c_5)⟩ dX7_finds_98
def g_X7_finds_b_1 (G : GS) (x1 : Int32) (x2 : Int32) (x3 : Int32) : GS := up2 G 0 0 1
theorem e_g_X7_finds_b_1 (G : GS) (x1 : Int32) (x2 : Int32) (x3 : Int32) {j : Nat} (h : j ∉ [0]) : g_X7_finds_b_1 G x1 x2 x3 j = G j := (up2_ne (fun q => h (by rw [q]; exact List.mem_cons_self))).trans rfl
def f_X7_finds_b (G : GS) (x1 : Int32) (x2 : Int32) (x3 : Int32) : Int32 := 0
def g_X7_finds_b (G : GS) (x1 : Int32) (x2 : Int32) (x3 : Int32) : GS := g_X7_finds_b_1 G x1 x2 x3
set_option maxHeartbeats 4000000 in
set_option maxRecDepth 100000 in
theorem c_X7_finds_b (l : Launch) (D : va_G) (cy : Nat → ClassId) (A : Nat → Prop) (μ : MU) (m0 : Nat) (ad : Nat → Nat) (G : GS) (hM : RepM cy m0 ad G μ) (x1 : Int32) (x2 : Int32) (x3 : Int32) (hb : f_X7_isVisit G x1 = 0) : Met l yX7_finds (WS yX7_finds cX7_finds 4 (Option.some Jvm.ClassFile.FieldType.int)) { frames := 2, cells := 0, slots := 0, locals := 43 } (va_Pc [.ref m0, .int x1, .int x2, .int x3] (Wd D cy A μ)) (va_Qi (fun (r9 : Int32) (μ1 : MU) => r9 = f_X7_finds_b G x1 x2 x3 ∧ RepM cy m0 ad (g_X7_finds_b G x1 x2 x3) μ1) (fun μ1 t => Wd D cy A μ1 t) A) 0 0 A := by
  refine q_met (by decide) (Nat.le_of_ble_eq_true rfl) ?_
  intro p e s m below meth c F w hr hlk hnm ls hl
  have F : CallFix p m c cX7_finds 4 s _ BIG RX7 := F
  have hl : lv_has ls 4 [(0, .ref m0), (1, .int x1), (2, .int x2), (3, .int x3)] := hl
  refine lv_aload_n F.1 F.2.1 dX7_finds_0 rfl (lv_at hl 0 rfl) ?_
  refine lv_aload_n F.1 F.2.1 dX7_finds_1 rfl (lv_at hl 0 rfl) ?_
  refine lv_iload_n F.1 F.2.1 dX7_finds_2 rfl (lv_at hl 1 rfl) ?_
  refine q_rV (rest := [.ref m0]) F w kV_X7_228 hd_X7_isVisit (ci := 8) rfl (c_X7_isVisit l D cy A _ m0 ad G hM x1) hM.1 dX7_finds_3 rfl rfl hl.1 ⟨rfl, rfl, Nat.le_of_ble_eq_true rfl, Nat.le_of_ble_eq_true rfl⟩ (Nat.le_of_ble_eq_true rfl) ⟨Nat.zero_le _, Nat.zero_le _⟩ ?_
  refine lv_if_ne (tgt := 13) F.1 F.2.1 dX7_finds_6 (by decide) (fun c_1 => absurd hb c_1) (fun c_1 => ?_)
  refine lv_iconst (v := 1) F.1 F.2.1 dX7_finds_9 (by decide) ?_
  refine lv_goto (tgt := 38) F.1 F.2.1 dX7_finds_10 (by decide) ?_
  refine mp_128 F w hM dX7_finds_38 (fun H locs μ w hM => ?_)
  have hM : RepM cy m0 ad (g_X7_finds_b_1 G x1 x2 x3) μ := hM
  refine lv_aload_n F.1 F.2.1 dX7_finds_41 rfl (lv_at hl 0 rfl) ?_
  refine gf_X7_128 F w hM.1 rfl dX7_finds_42 ?_
  refine lv_fold (y := 1) ((congrFun (up2_eq _ _ _ _) _).trans pk_us) ?_
  refine lv_if_ne (tgt := 90) F.1 F.2.1 dX7_finds_45 (by decide) (fun c_2 => ?_) (fun c_2 => absurd c_2 (by decide))
  refine lv_aload_n F.1 F.2.1 dX7_finds_90 rfl (lv_at hl 0 rfl) ?_
  refine gf_X7_128 F w hM.1 rfl dX7_finds_91 ?_
  refine lv_fold (y := 1) ((congrFun (up2_eq _ _ _ _) _).trans pk_us) ?_
  refine lv_if_le (tgt := 99) F.1 F.2.1 dX7_finds_94 (by decide) (fun c_3 => absurd c_3 (by decide)) (fun c_3 => ?_)
  refine lv_iconst (v := 0) F.1 F.2.1 dX7_finds_97 (by decide) ?_
  exact q_retI (S := Unit) F hr hlk w ⟨rfl, RepM.cg hM rfl⟩ dX7_finds_98
def g_X7_mends_1 (G : GS) (i1 : Nat) (i2 : Nat) (x3 : Int32) : GS := up2 G 0 0 (if f_X7_isVisit G (nI i1) = 0 then 1 else (if f_X7_in (nI i2) 0 ((G 35 i1) - 1) = 0 then 1 else 0))
theorem e_g_X7_mends_1 (G : GS) (i1 : Nat) (i2 : Nat) (x3 : Int32) {j : Nat} (h : j ∉ [0]) : g_X7_mends_1 G i1 i2 x3 j = G j := (up2_ne (fun q => h (by rw [q]; exact List.mem_cons_self))).trans rfl
def v_X7_mends_88 (G : GS) (i1 : Nat) (i2 : Nat) (x3 : Int32) : Int32 := if x3 = 0 then 0 else (if G 37 ((12 * i1) + i2) = 2 then 1 else (if 8 ≤ G 36 ((12 * i1) + i2) then 1 else (if f_X7_isHere (g_X7_mends_1 G i1 i2 x3) i1 = 0 then 1 else 0)))
theorem nz_v_X7_mends_88 (G : GS) (i1 : Nat) (i2 : Nat) (x3 : Int32) : nz (v_X7_mends_88 G i1 i2 x3) := (nz_ite nz0 (nz_ite nz1 (nz_ite nz1 (nz_ite nz1 nz0))))
def g_X7_mends_2 (G : GS) (i1 : Nat) (i2 : Nat) (x3 : Int32) : GS := up2 (g_X7_mends_1 G i1 i2 x3) 0 0 (if G 37 ((12 * i1) + i2) = 1 then 2 else (if v_X7_mends_88 G i1 i2 x3 = 0 then 0 else 2))
theorem e_g_X7_mends_2 (G : GS) (i1 : Nat) (i2 : Nat) (x3 : Int32) {j : Nat} (h : j ∉ [0, 0]) : g_X7_mends_2 G i1 i2 x3 j = G j := (up2_ne (fun q => h (by rw [q]; exact List.mem_cons_self))).trans (e_g_X7_mends_1 G i1 i2 x3 (fun q => h (List.mem_cons_of_mem _ q)))
def g_X7_mends_3 (G : GS) (i1 : Nat) (i2 : Nat) (x3 : Int32) : GS := up2 (g_X7_mends_2 G i1 i2 x3) 37 ((12 * i1) + i2) (if x3 = 0 then 1 else 2)
theorem e_g_X7_mends_3 (G : GS) (i1 : Nat) (i2 : Nat) (x3 : Int32) {j : Nat} (h : j ∉ [37, 0, 0]) : g_X7_mends_3 G i1 i2 x3 j = G j := (up2_ne (fun q => h (by rw [q]; exact List.mem_cons_self))).trans (e_g_X7_mends_2 G i1 i2 x3 (fun q => h (List.mem_cons_of_mem _ q)))
def f_X7_mends (G : GS) (i1 : Nat) (i2 : Nat) (x3 : Int32) : Int32 := if (if f_X7_isVisit G (nI i1) = 0 then 1 else (if f_X7_in (nI i2) 0 ((G 35 i1) - 1) = 0 then 1 else 0) : Int32) = 0 then (if (if G 37 ((12 * i1) + i2) = 1 then 2 else (if v_X7_mends_88 G i1 i2 x3 = 0 then 0 else 2) : Int32) ≤ 0 then f_X7_openOf (g_X7_mends_3 G i1 i2 x3) i1 else 0) else 0
def g_X7_mends (G : GS) (i1 : Nat) (i2 : Nat) (x3 : Int32) : GS := if (if f_X7_isVisit G (nI i1) = 0 then 1 else (if f_X7_in (nI i2) 0 ((G 35 i1) - 1) = 0 then 1 else 0) : Int32) = 0 then (if (if G 37 ((12 * i1) + i2) = 1 then 2 else (if v_X7_mends_88 G i1 i2 x3 = 0 then 0 else 2) : Int32) ≤ 0 then g_X7_mends_3 G i1 i2 x3 else g_X7_mends_2 G i1 i2 x3) else g_X7_mends_1 G i1 i2 x3
set_option maxHeartbeats 4000000 in
set_option maxRecDepth 100000 in
theorem c_X7_mends (l : Launch) (D : va_G) (cy : Nat → ClassId) (A : Nat → Prop) (μ : MU) (m0 : Nat) (ad : Nat → Nat) (G : GS) (hM : RepM cy m0 ad G μ) (i1 : Nat) (i2 : Nat) (x3 : Int32) (hi1 : i1 < 60) (hi2 : i2 < 12) (hI : InvM G) : Met l yX7_mends (WS yX7_mends cX7_mends 6 (Option.some Jvm.ClassFile.FieldType.int)) { frames := 2, cells := 0, slots := 0, locals := 43 } (va_Pc [.ref m0, .int (nI i1), .int (nI i2), .int x3] (Wd D cy A μ)) (va_Qi (fun (r9 : Int32) (μ1 : MU) => r9 = f_X7_mends G i1 i2 x3 ∧ RepM cy m0 ad (g_X7_mends G i1 i2 x3) μ1) (fun μ1 t => Wd D cy A μ1 t) A) 0 0 A := by
  refine q_met (by decide) (Nat.le_of_ble_eq_true rfl) ?_
  intro p e s m below meth c F w hr hlk hnm ls hl
  have F : CallFix p m c cX7_mends 6 s _ BIG RX7 := F
  have hl : lv_has ls 6 [(0, .ref m0), (1, .int (nI i1)), (2, .int (nI i2)), (3, .int x3)] := hl
  refine lv_aload_n F.1 F.2.1 dX7_mends_0 rfl (lv_at hl 0 rfl) ?_
  refine lv_aload_n F.1 F.2.1 dX7_mends_1 rfl (lv_at hl 0 rfl) ?_
  refine lv_iload_n F.1 F.2.1 dX7_mends_2 rfl (lv_at hl 1 rfl) ?_
  refine q_rV (rest := [.ref m0]) F w kV_X7_228 hd_X7_isVisit (ci := 8) rfl (c_X7_isVisit l D cy A _ m0 ad G hM (nI i1)) hM.1 dX7_mends_3 rfl rfl hl.1 ⟨rfl, rfl, Nat.le_of_ble_eq_true rfl, Nat.le_of_ble_eq_true rfl⟩ (Nat.le_of_ble_eq_true rfl) ⟨Nat.zero_le _, Nat.zero_le _⟩ ?_
  refine jn0 (m := m) (ls := ls) (rest := [.ref m0]) (if f_X7_isVisit G (nI i1) = 0 then 1 else (if f_X7_in (nI i2) 0 ((G 35 i1) - 1) = 0 then 1 else 0)) 30 (fun J_1 => ?_) ?_
  · refine lv_if_eq (tgt := 29) F.1 F.2.1 dX7_mends_6 (by decide) (fun c_2 => ?_) (fun c_2 => ?_)
    · refine lv_iconst (v := 1) F.1 F.2.1 dX7_mends_29 (by decide) ?_
      exact jn_a (if_pos c_2) J_1
    · refine lv_iload_n F.1 F.2.1 dX7_mends_9 rfl (lv_at hl 2 rfl) ?_
      refine lv_iconst (v := 0) F.1 F.2.1 dX7_mends_10 (by decide) ?_
      refine lv_aload_n F.1 F.2.1 dX7_mends_11 rfl (lv_at hl 0 rfl) ?_
      refine gf_X7_101 F w hM.1 rfl dX7_mends_12 ?_
      refine lv_iload_n F.1 F.2.1 dX7_mends_15 rfl (lv_at hl 1 rfl) ?_
      refine m_ild F w hM 35 (by decide) rfl rfl i1 (show i1 < 60 by omega) (by decide) dX7_mends_16 ?_
      refine lv_iconst (v := 1) F.1 F.2.1 dX7_mends_17 (by decide) ?_
      refine lv_isub F.1 F.2.1 dX7_mends_18 ?_
      refine q_rS (rest := [.ref m0]) F w kS_X7_135 hd_X7_in (c_X7_in l D cy A _ (nI i2) 0 ((G 35 i1) - 1)) dX7_mends_19 rfl rfl hl.1 ⟨rfl, rfl, Nat.le_of_ble_eq_true rfl, Nat.le_of_ble_eq_true rfl⟩ (Nat.le_of_ble_eq_true rfl) ⟨Nat.zero_le _, Nat.zero_le _⟩ ?_
      refine lv_if_eq (tgt := 29) F.1 F.2.1 dX7_mends_22 (by decide) (fun c_3 => ?_) (fun c_3 => ?_)
      · refine lv_iconst (v := 1) F.1 F.2.1 dX7_mends_29 (by decide) ?_
        exact jn_a ((if_neg c_2).trans (if_pos c_3)) J_1
      · refine lv_iconst (v := 0) F.1 F.2.1 dX7_mends_25 (by decide) ?_
        refine lv_goto (tgt := 30) F.1 F.2.1 dX7_mends_26 (by decide) ?_
        exact jn_a ((if_neg c_2).trans (if_neg c_3)) J_1
  refine mp_128 F w hM dX7_mends_30 (fun H locs μ w hM => ?_)
  have hM : RepM cy m0 ad (g_X7_mends_1 G i1 i2 x3) μ := hM
  refine lv_aload_n F.1 F.2.1 dX7_mends_33 rfl (lv_at hl 0 rfl) ?_
  refine gf_X7_128 F w hM.1 rfl dX7_mends_34 ?_
  refine lv_fold (y := if f_X7_isVisit G (nI i1) = 0 then 1 else (if f_X7_in (nI i2) 0 ((G 35 i1) - 1) = 0 then 1 else 0)) ((congrFun (up2_eq _ _ _ _) _).trans pk_us) ?_
  refine lv_if_ne (tgt := 115) F.1 F.2.1 dX7_mends_37 (by decide) (fun c_4 => ?_) (fun c_4 => ?_)
  · refine lv_aload_n F.1 F.2.1 dX7_mends_115 rfl (lv_at hl 0 rfl) ?_
    refine gf_X7_128 F w hM.1 rfl dX7_mends_116 ?_
    refine lv_fold (y := if f_X7_isVisit G (nI i1) = 0 then 1 else (if f_X7_in (nI i2) 0 ((G 35 i1) - 1) = 0 then 1 else 0)) ((congrFun (up2_eq _ _ _ _) _).trans pk_us) ?_
    refine lv_if_le (tgt := 124) F.1 F.2.1 dX7_mends_119 (by decide) (fun c_5 => absurd c_5 (fun h9 => c_4 (by revert h9; (repeat' split) <;> decide))) (fun c_5 => ?_)
    refine lv_iconst (v := 0) F.1 F.2.1 dX7_mends_122 (by decide) ?_
    exact q_retI (S := Unit) F hr hlk w ⟨(if_neg c_4).symm, RepM.cg hM (if_neg c_4)⟩ dX7_mends_123
  · refine lv_bipush (v := 12) F.1 F.2.1 dX7_mends_40 (by decide) ?_
    refine lv_iload_n F.1 F.2.1 dX7_mends_42 rfl (lv_at hl 1 rfl) ?_
    refine lv_imul F.1 F.2.1 dX7_mends_43 ?_
    refine lv_fold (y := nI (12 * i1)) (pk_mul 12 i1) ?_
    refine lv_iload_n F.1 F.2.1 dX7_mends_44 rfl (lv_at hl 2 rfl) ?_
    refine lv_iadd F.1 F.2.1 dX7_mends_45 ?_
    refine lv_fold (y := nI ((12 * i1) + i2)) (nI_add _ _) ?_
    refine lv_istore (lv' := [(4, .int (nI ((12 * i1) + i2))), (0, .ref m0), (1, .int (nI i1)), (2, .int (nI i2)), (3, .int x3)]) F.1 F.2.1 dX7_mends_46 hl (by decide) rfl (fun ls hl => ?_)
    refine lv_iload_n F.1 F.2.1 dX7_mends_48 rfl (lv_at hl 4 rfl) ?_
    refine jn0 (m := m) (ls := ls) (rest := []) (if x3 = 0 then 0 else (if G 37 ((12 * i1) + i2) = 2 then 1 else (if 8 ≤ G 36 ((12 * i1) + i2) then 1 else (if f_X7_isHere (g_X7_mends_1 G i1 i2 x3) i1 = 0 then 1 else 0)))) 88 (fun J_6 => ?_) ?_
    · refine lv_if_eq (tgt := 87) F.1 F.2.1 dX7_mends_49 (by decide) (fun c_7 => ?_) (fun c_7 => ?_)
      · refine lv_iconst (v := 0) F.1 F.2.1 dX7_mends_87 (by decide) ?_
        exact jn_a (if_pos c_7) J_6
      · refine lv_aload_n F.1 F.2.1 dX7_mends_52 rfl (lv_at hl 1 rfl) ?_
        refine gf_X7_107 F w hM.1 rfl dX7_mends_53 ?_
        refine lv_iload F.1 F.2.1 dX7_mends_56 (lv_at hl 0 rfl) ?_
        refine m_ild F w hM 37 (by decide) rfl rfl ((12 * i1) + i2) (show (12 * i1) + i2 < 720 by omega) (by decide) dX7_mends_58 ?_
        refine lv_fold (y := G 37 ((12 * i1) + i2)) (congrFun (e_g_X7_mends_1 G i1 i2 x3 (by decide)) ((12 * i1) + i2)) ?_
        refine lv_iconst (v := 2) F.1 F.2.1 dX7_mends_59 (by decide) ?_
        refine lv_icmp_eq (tgt := 83) F.1 F.2.1 dX7_mends_60 (by decide) (fun c_8 => ?_) (fun c_8 => ?_)
        · refine lv_iconst (v := 1) F.1 F.2.1 dX7_mends_83 (by decide) ?_
          refine lv_goto (tgt := 88) F.1 F.2.1 dX7_mends_84 (by decide) ?_
          exact jn_a ((if_neg c_7).trans (if_pos c_8)) J_6
        · refine lv_aload_n F.1 F.2.1 dX7_mends_63 rfl (lv_at hl 1 rfl) ?_
          refine gf_X7_104 F w hM.1 rfl dX7_mends_64 ?_
          refine lv_iload F.1 F.2.1 dX7_mends_67 (lv_at hl 0 rfl) ?_
          refine m_ild F w hM 36 (by decide) rfl rfl ((12 * i1) + i2) (show (12 * i1) + i2 < 720 by omega) (by decide) dX7_mends_69 ?_
          refine lv_fold (y := G 36 ((12 * i1) + i2)) (congrFun (e_g_X7_mends_1 G i1 i2 x3 (by decide)) ((12 * i1) + i2)) ?_
          refine lv_bipush (v := 8) F.1 F.2.1 dX7_mends_70 (by decide) ?_
          refine lv_icmp_ge (tgt := 83) F.1 F.2.1 dX7_mends_72 (by decide) (fun c_9 => ?_) (fun c_9 => ?_)
          · refine lv_iconst (v := 1) F.1 F.2.1 dX7_mends_83 (by decide) ?_
            refine lv_goto (tgt := 88) F.1 F.2.1 dX7_mends_84 (by decide) ?_
            exact jn_a ((if_neg c_7).trans ((if_neg c_8).trans (if_pos c_9))) J_6
          · refine lv_aload_n F.1 F.2.1 dX7_mends_75 rfl (lv_at hl 1 rfl) ?_
            refine lv_iload_n F.1 F.2.1 dX7_mends_76 rfl (lv_at hl 2 rfl) ?_
            refine q_rV (rest := []) F w kV_X7_231 hd_X7_isHere (ci := 8) rfl (c_X7_isHere l D cy A _ m0 ad (g_X7_mends_1 G i1 i2 x3) hM i1 (show i1 < 60 by omega) (InvM.fr hI 0 0 (if f_X7_isVisit G (nI i1) = 0 then 1 else (if f_X7_in (nI i2) 0 ((G 35 i1) - 1) = 0 then 1 else 0)) rfl)) hM.1 dX7_mends_77 rfl rfl hl.1 ⟨rfl, rfl, Nat.le_of_ble_eq_true rfl, Nat.le_of_ble_eq_true rfl⟩ (Nat.le_of_ble_eq_true rfl) ⟨Nat.zero_le _, Nat.zero_le _⟩ ?_
            refine lv_if_ne (tgt := 87) F.1 F.2.1 dX7_mends_80 (by decide) (fun c_10 => ?_) (fun c_10 => ?_)
            · refine lv_iconst (v := 0) F.1 F.2.1 dX7_mends_87 (by decide) ?_
              exact jn_a ((if_neg c_7).trans ((if_neg c_8).trans ((if_neg c_9).trans (if_neg c_10)))) J_6
            · refine lv_iconst (v := 1) F.1 F.2.1 dX7_mends_83 (by decide) ?_
              refine lv_goto (tgt := 88) F.1 F.2.1 dX7_mends_84 (by decide) ?_
              exact jn_a ((if_neg c_7).trans ((if_neg c_8).trans ((if_neg c_9).trans (if_pos c_10)))) J_6
    refine lv_fold (y := v_X7_mends_88 G i1 i2 x3) rfl ?_
    refine lv_istore (lv' := [(5, .int (v_X7_mends_88 G i1 i2 x3)), (4, .int (nI ((12 * i1) + i2))), (0, .ref m0), (1, .int (nI i1)), (2, .int (nI i2)), (3, .int x3)]) F.1 F.2.1 dX7_mends_88 hl (by decide) rfl (fun ls hl => ?_)
    refine lv_aload_n F.1 F.2.1 dX7_mends_90 rfl (lv_at hl 2 rfl) ?_
    refine lv_aload_n F.1 F.2.1 dX7_mends_91 rfl (lv_at hl 2 rfl) ?_
    refine gf_X7_107 F w hM.1 rfl dX7_mends_92 ?_
    refine lv_iload F.1 F.2.1 dX7_mends_95 (lv_at hl 1 rfl) ?_
    refine m_ild F w hM 37 (by decide) rfl rfl ((12 * i1) + i2) (show (12 * i1) + i2 < 720 by omega) (by decide) dX7_mends_97 ?_
    refine lv_fold (y := G 37 ((12 * i1) + i2)) (congrFun (e_g_X7_mends_1 G i1 i2 x3 (by decide)) ((12 * i1) + i2)) ?_
    refine lv_iconst (v := 1) F.1 F.2.1 dX7_mends_98 (by decide) ?_
    refine jn0 (m := m) (ls := ls) (rest := [.ref m0]) (if G 37 ((12 * i1) + i2) = 1 then 2 else (if v_X7_mends_88 G i1 i2 x3 = 0 then 0 else 2)) 112 (fun J_11 => ?_) ?_
    · refine lv_icmp_eq (tgt := 107) F.1 F.2.1 dX7_mends_99 (by decide) (fun c_12 => ?_) (fun c_12 => ?_)
      · refine lv_iconst (v := 2) F.1 F.2.1 dX7_mends_107 (by decide) ?_
        refine lv_goto (tgt := 112) F.1 F.2.1 dX7_mends_108 (by decide) ?_
        exact jn_a (if_pos c_12) J_11
      · refine lv_iload F.1 F.2.1 dX7_mends_102 (lv_at hl 0 rfl) ?_
        refine lv_if_eq (tgt := 111) F.1 F.2.1 dX7_mends_104 (by decide) (fun c_13 => ?_) (fun c_13 => ?_)
        · refine lv_iconst (v := 0) F.1 F.2.1 dX7_mends_111 (by decide) ?_
          exact jn_a ((if_neg c_12).trans (if_pos c_13)) J_11
        · refine lv_iconst (v := 2) F.1 F.2.1 dX7_mends_107 (by decide) ?_
          refine lv_goto (tgt := 112) F.1 F.2.1 dX7_mends_108 (by decide) ?_
          exact jn_a ((if_neg c_12).trans (if_neg c_13)) J_11
    refine mp_128 F w hM dX7_mends_112 (fun H locs μ w hM => ?_)
    have hM : RepM cy m0 ad (g_X7_mends_2 G i1 i2 x3) μ := hM
    refine lv_aload_n F.1 F.2.1 dX7_mends_115 rfl (lv_at hl 2 rfl) ?_
    refine gf_X7_128 F w hM.1 rfl dX7_mends_116 ?_
    refine lv_fold (y := if G 37 ((12 * i1) + i2) = 1 then 2 else (if v_X7_mends_88 G i1 i2 x3 = 0 then 0 else 2)) ((congrFun (up2_eq _ _ _ _) _).trans pk_us) ?_
    refine lv_if_le (tgt := 124) F.1 F.2.1 dX7_mends_119 (by decide) (fun c_14 => ?_) (fun c_14 => ?_)
    · refine lv_aload_n F.1 F.2.1 dX7_mends_124 rfl (lv_at hl 2 rfl) ?_
      refine gf_X7_107 F w hM.1 rfl dX7_mends_125 ?_
      refine lv_bipush (v := 12) F.1 F.2.1 dX7_mends_128 (by decide) ?_
      refine lv_iload_n F.1 F.2.1 dX7_mends_130 rfl (lv_at hl 3 rfl) ?_
      refine lv_imul F.1 F.2.1 dX7_mends_131 ?_
      refine lv_fold (y := nI (12 * i1)) (pk_mul 12 i1) ?_
      refine lv_iload_n F.1 F.2.1 dX7_mends_132 rfl (lv_at hl 4 rfl) ?_
      refine lv_iadd F.1 F.2.1 dX7_mends_133 ?_
      refine lv_fold (y := nI ((12 * i1) + i2)) (nI_add _ _) ?_
      refine lv_iload_n F.1 F.2.1 dX7_mends_134 rfl (lv_at hl 5 rfl) ?_
      refine jn0 (m := m) (ls := ls) (rest := [.int (nI ((12 * i1) + i2)), .ref (ad 37)]) (if x3 = 0 then 1 else 2) 143 (fun J_15 => ?_) ?_
      · refine lv_if_eq (tgt := 142) F.1 F.2.1 dX7_mends_135 (by decide) (fun c_16 => ?_) (fun c_16 => ?_)
        · refine lv_iconst (v := 1) F.1 F.2.1 dX7_mends_142 (by decide) ?_
          exact jn_a (if_pos c_16) J_15
        · refine lv_iconst (v := 2) F.1 F.2.1 dX7_mends_138 (by decide) ?_
          refine lv_goto (tgt := 143) F.1 F.2.1 dX7_mends_139 (by decide) ?_
          exact jn_a (if_neg c_16) J_15
      refine m_ist F w hM 37 (by decide) rfl rfl ((12 * i1) + i2) (show (12 * i1) + i2 < 720 by omega) (by decide) dX7_mends_143 (fun H locs μ w hM => ?_)
      have hM : RepM cy m0 ad (g_X7_mends_3 G i1 i2 x3) μ := hM
      refine lv_aload_n F.1 F.2.1 dX7_mends_144 rfl (lv_at hl 2 rfl) ?_
      refine lv_iload_n F.1 F.2.1 dX7_mends_145 rfl (lv_at hl 3 rfl) ?_
      refine q_rV (rest := []) F w kV_X7_237 hd_X7_openOf (ci := 8) rfl (c_X7_openOf l D cy A _ m0 ad (g_X7_mends_3 G i1 i2 x3) hM i1 (show i1 < 60 by omega) (InvM.fr (InvM.fr (InvM.fr hI 0 0 (if f_X7_isVisit G (nI i1) = 0 then 1 else (if f_X7_in (nI i2) 0 ((G 35 i1) - 1) = 0 then 1 else 0)) rfl) 0 0 (if G 37 ((12 * i1) + i2) = 1 then 2 else (if v_X7_mends_88 G i1 i2 x3 = 0 then 0 else 2)) rfl) 37 ((12 * i1) + i2) (if x3 = 0 then 1 else 2) rfl)) hM.1 dX7_mends_146 rfl rfl hl.1 ⟨rfl, rfl, Nat.le_of_ble_eq_true rfl, Nat.le_of_ble_eq_true rfl⟩ (Nat.le_of_ble_eq_true rfl) ⟨Nat.zero_le _, Nat.zero_le _⟩ ?_
      exact q_retI (S := Unit) F hr hlk w ⟨((if_pos c_4).trans (if_pos c_14)).symm, RepM.cg hM ((if_pos c_4).trans (if_pos c_14))⟩ dX7_mends_149
    · refine lv_iconst (v := 0) F.1 F.2.1 dX7_mends_122 (by decide) ?_
      exact q_retI (S := Unit) F hr hlk w ⟨((if_pos c_4).trans (if_neg c_14)).symm, RepM.cg hM ((if_pos c_4).trans (if_neg c_14))⟩ dX7_mends_123
def g_X7_mends_f_1 (G : GS) (i1 : Nat) (x2 : Int32) (x3 : Int32) : GS := up2 G 0 0 1
theorem e_g_X7_mends_f_1 (G : GS) (i1 : Nat) (x2 : Int32) (x3 : Int32) {j : Nat} (h : j ∉ [0]) : g_X7_mends_f_1 G i1 x2 x3 j = G j := (up2_ne (fun q => h (by rw [q]; exact List.mem_cons_self))).trans rfl
def f_X7_mends_f (G : GS) (i1 : Nat) (x2 : Int32) (x3 : Int32) : Int32 := 0
def g_X7_mends_f (G : GS) (i1 : Nat) (x2 : Int32) (x3 : Int32) : GS := g_X7_mends_f_1 G i1 x2 x3
set_option maxHeartbeats 4000000 in
set_option maxRecDepth 100000 in
theorem c_X7_mends_f (l : Launch) (D : va_G) (cy : Nat → ClassId) (A : Nat → Prop) (μ : MU) (m0 : Nat) (ad : Nat → Nat) (G : GS) (hM : RepM cy m0 ad G μ) (i1 : Nat) (x2 : Int32) (x3 : Int32) (hi1 : i1 < 60) (hb : f_X7_in x2 0 ((G 35 i1) - 1) = 0) : Met l yX7_mends (WS yX7_mends cX7_mends 6 (Option.some Jvm.ClassFile.FieldType.int)) { frames := 2, cells := 0, slots := 0, locals := 43 } (va_Pc [.ref m0, .int (nI i1), .int x2, .int x3] (Wd D cy A μ)) (va_Qi (fun (r9 : Int32) (μ1 : MU) => r9 = f_X7_mends_f G i1 x2 x3 ∧ RepM cy m0 ad (g_X7_mends_f G i1 x2 x3) μ1) (fun μ1 t => Wd D cy A μ1 t) A) 0 0 A := by
  refine q_met (by decide) (Nat.le_of_ble_eq_true rfl) ?_
  intro p e s m below meth c F w hr hlk hnm ls hl
  have F : CallFix p m c cX7_mends 6 s _ BIG RX7 := F
  have hl : lv_has ls 6 [(0, .ref m0), (1, .int (nI i1)), (2, .int x2), (3, .int x3)] := hl
  refine lv_aload_n F.1 F.2.1 dX7_mends_0 rfl (lv_at hl 0 rfl) ?_
  refine lv_aload_n F.1 F.2.1 dX7_mends_1 rfl (lv_at hl 0 rfl) ?_
  refine lv_iload_n F.1 F.2.1 dX7_mends_2 rfl (lv_at hl 1 rfl) ?_
  refine q_rV (rest := [.ref m0]) F w kV_X7_228 hd_X7_isVisit (ci := 8) rfl (c_X7_isVisit l D cy A _ m0 ad G hM (nI i1)) hM.1 dX7_mends_3 rfl rfl hl.1 ⟨rfl, rfl, Nat.le_of_ble_eq_true rfl, Nat.le_of_ble_eq_true rfl⟩ (Nat.le_of_ble_eq_true rfl) ⟨Nat.zero_le _, Nat.zero_le _⟩ ?_
  refine jn0 (m := m) (ls := ls) (rest := [.ref m0]) (1) 30 (fun J_1 => ?_) ?_
  · refine lv_if_eq (tgt := 29) F.1 F.2.1 dX7_mends_6 (by decide) (fun c_2 => ?_) (fun c_2 => ?_)
    · refine lv_iconst (v := 1) F.1 F.2.1 dX7_mends_29 (by decide) ?_
      exact jn_a rfl J_1
    · refine lv_iload_n F.1 F.2.1 dX7_mends_9 rfl (lv_at hl 2 rfl) ?_
      refine lv_iconst (v := 0) F.1 F.2.1 dX7_mends_10 (by decide) ?_
      refine lv_aload_n F.1 F.2.1 dX7_mends_11 rfl (lv_at hl 0 rfl) ?_
      refine gf_X7_101 F w hM.1 rfl dX7_mends_12 ?_
      refine lv_iload_n F.1 F.2.1 dX7_mends_15 rfl (lv_at hl 1 rfl) ?_
      refine m_ild F w hM 35 (by decide) rfl rfl i1 (show i1 < 60 by omega) (by decide) dX7_mends_16 ?_
      refine lv_iconst (v := 1) F.1 F.2.1 dX7_mends_17 (by decide) ?_
      refine lv_isub F.1 F.2.1 dX7_mends_18 ?_
      refine q_rS (rest := [.ref m0]) F w kS_X7_135 hd_X7_in (c_X7_in l D cy A _ x2 0 ((G 35 i1) - 1)) dX7_mends_19 rfl rfl hl.1 ⟨rfl, rfl, Nat.le_of_ble_eq_true rfl, Nat.le_of_ble_eq_true rfl⟩ (Nat.le_of_ble_eq_true rfl) ⟨Nat.zero_le _, Nat.zero_le _⟩ ?_
      refine lv_if_eq (tgt := 29) F.1 F.2.1 dX7_mends_22 (by decide) (fun c_3 => ?_) (fun c_3 => absurd hb c_3)
      refine lv_iconst (v := 1) F.1 F.2.1 dX7_mends_29 (by decide) ?_
      exact jn_a rfl J_1
  refine mp_128 F w hM dX7_mends_30 (fun H locs μ w hM => ?_)
  have hM : RepM cy m0 ad (g_X7_mends_f_1 G i1 x2 x3) μ := hM
  refine lv_aload_n F.1 F.2.1 dX7_mends_33 rfl (lv_at hl 0 rfl) ?_
  refine gf_X7_128 F w hM.1 rfl dX7_mends_34 ?_
  refine lv_fold (y := 1) ((congrFun (up2_eq _ _ _ _) _).trans pk_us) ?_
  refine lv_if_ne (tgt := 115) F.1 F.2.1 dX7_mends_37 (by decide) (fun c_4 => ?_) (fun c_4 => absurd c_4 (by decide))
  refine lv_aload_n F.1 F.2.1 dX7_mends_115 rfl (lv_at hl 0 rfl) ?_
  refine gf_X7_128 F w hM.1 rfl dX7_mends_116 ?_
  refine lv_fold (y := 1) ((congrFun (up2_eq _ _ _ _) _).trans pk_us) ?_
  refine lv_if_le (tgt := 124) F.1 F.2.1 dX7_mends_119 (by decide) (fun c_5 => absurd c_5 (by decide)) (fun c_5 => ?_)
  refine lv_iconst (v := 0) F.1 F.2.1 dX7_mends_122 (by decide) ?_
  exact q_retI (S := Unit) F hr hlk w ⟨rfl, RepM.cg hM rfl⟩ dX7_mends_123
def g_X7_mends_b_1 (G : GS) (x1 : Int32) (x2 : Int32) (x3 : Int32) : GS := up2 G 0 0 1
theorem e_g_X7_mends_b_1 (G : GS) (x1 : Int32) (x2 : Int32) (x3 : Int32) {j : Nat} (h : j ∉ [0]) : g_X7_mends_b_1 G x1 x2 x3 j = G j := (up2_ne (fun q => h (by rw [q]; exact List.mem_cons_self))).trans rfl
def f_X7_mends_b (G : GS) (x1 : Int32) (x2 : Int32) (x3 : Int32) : Int32 := 0
def g_X7_mends_b (G : GS) (x1 : Int32) (x2 : Int32) (x3 : Int32) : GS := g_X7_mends_b_1 G x1 x2 x3
set_option maxHeartbeats 4000000 in
set_option maxRecDepth 100000 in
theorem c_X7_mends_b (l : Launch) (D : va_G) (cy : Nat → ClassId) (A : Nat → Prop) (μ : MU) (m0 : Nat) (ad : Nat → Nat) (G : GS) (hM : RepM cy m0 ad G μ) (x1 : Int32) (x2 : Int32) (x3 : Int32) (hb : f_X7_isVisit G x1 = 0) : Met l yX7_mends (WS yX7_mends cX7_mends 6 (Option.some Jvm.ClassFile.FieldType.int)) { frames := 2, cells := 0, slots := 0, locals := 43 } (va_Pc [.ref m0, .int x1, .int x2, .int x3] (Wd D cy A μ)) (va_Qi (fun (r9 : Int32) (μ1 : MU) => r9 = f_X7_mends_b G x1 x2 x3 ∧ RepM cy m0 ad (g_X7_mends_b G x1 x2 x3) μ1) (fun μ1 t => Wd D cy A μ1 t) A) 0 0 A := by
  refine q_met (by decide) (Nat.le_of_ble_eq_true rfl) ?_
  intro p e s m below meth c F w hr hlk hnm ls hl
  have F : CallFix p m c cX7_mends 6 s _ BIG RX7 := F
  have hl : lv_has ls 6 [(0, .ref m0), (1, .int x1), (2, .int x2), (3, .int x3)] := hl
  refine lv_aload_n F.1 F.2.1 dX7_mends_0 rfl (lv_at hl 0 rfl) ?_
  refine lv_aload_n F.1 F.2.1 dX7_mends_1 rfl (lv_at hl 0 rfl) ?_
  refine lv_iload_n F.1 F.2.1 dX7_mends_2 rfl (lv_at hl 1 rfl) ?_
  refine q_rV (rest := [.ref m0]) F w kV_X7_228 hd_X7_isVisit (ci := 8) rfl (c_X7_isVisit l D cy A _ m0 ad G hM x1) hM.1 dX7_mends_3 rfl rfl hl.1 ⟨rfl, rfl, Nat.le_of_ble_eq_true rfl, Nat.le_of_ble_eq_true rfl⟩ (Nat.le_of_ble_eq_true rfl) ⟨Nat.zero_le _, Nat.zero_le _⟩ ?_
  refine lv_if_eq (tgt := 29) F.1 F.2.1 dX7_mends_6 (by decide) (fun c_1 => ?_) (fun c_1 => absurd hb c_1)
  refine lv_iconst (v := 1) F.1 F.2.1 dX7_mends_29 (by decide) ?_
  refine mp_128 F w hM dX7_mends_30 (fun H locs μ w hM => ?_)
  have hM : RepM cy m0 ad (g_X7_mends_b_1 G x1 x2 x3) μ := hM
  refine lv_aload_n F.1 F.2.1 dX7_mends_33 rfl (lv_at hl 0 rfl) ?_
  refine gf_X7_128 F w hM.1 rfl dX7_mends_34 ?_
  refine lv_fold (y := 1) ((congrFun (up2_eq _ _ _ _) _).trans pk_us) ?_
  refine lv_if_ne (tgt := 115) F.1 F.2.1 dX7_mends_37 (by decide) (fun c_2 => ?_) (fun c_2 => absurd c_2 (by decide))
  refine lv_aload_n F.1 F.2.1 dX7_mends_115 rfl (lv_at hl 0 rfl) ?_
  refine gf_X7_128 F w hM.1 rfl dX7_mends_116 ?_
  refine lv_fold (y := 1) ((congrFun (up2_eq _ _ _ _) _).trans pk_us) ?_
  refine lv_if_le (tgt := 124) F.1 F.2.1 dX7_mends_119 (by decide) (fun c_3 => absurd c_3 (by decide)) (fun c_3 => ?_)
  refine lv_iconst (v := 0) F.1 F.2.1 dX7_mends_122 (by decide) ?_
  exact q_retI (S := Unit) F hr hlk w ⟨rfl, RepM.cg hM rfl⟩ dX7_mends_123
theorem e_g_X7_looksForBan (G : GS) (i1 : Nat) {j : Nat} (h : j ∉ [14, 42]) : g_X7_looksForBan G i1 j = G j := by
  have h1 : j ≠ 14 := fun q => h (by rw [q]; decide)
  have h2 : j ≠ 42 := fun q => h (by rw [q]; decide)
  unfold g_X7_looksForBan
  split
  · exact (up2_ne h1).trans (LG_X7_looksForBan_69_ne G i1 _ j h2)
  · rfl
theorem InvM.oe {G1 G2 : GS} (h : InvM G1) (e : ∀ j, frK j = false → G2 j = G1 j) : InvM G2 := by
  unfold InvM gnS gnR gnV gnF gnT
  rw [e 3 rfl, e 23 rfl, e 29 rfl, e 35 rfl, e 30 rfl, e 8 rfl, e 21 rfl, e 20 rfl, e 2 rfl, e 12 rfl]
  exact h
theorem InvM.lfb {G : GS} (h : InvM G) (i1 : Nat) : InvM (g_X7_looksForBan G i1) := h.oe (fun j hj => e_g_X7_looksForBan G i1 (fun q => by rcases List.mem_cons.mp q with q | q; (rw [q] at hj; cases hj); (rcases List.mem_cons.mp q with q | q; (rw [q] at hj; cases hj); cases q)))
def g_X7_detain_1 (G : GS) (i1 : Nat) (i9 : Nat) : GS := up2 G 0 0 (if f_X7_isVisit G (nI i1) = 0 then 1 else 0)
theorem e_g_X7_detain_1 (G : GS) (i1 : Nat) (i9 : Nat) {j : Nat} (h : j ∉ [0]) : g_X7_detain_1 G i1 i9 j = G j := (up2_ne (fun q => h (by rw [q]; exact List.mem_cons_self))).trans rfl
def v_X7_detain_52 (G : GS) (i1 : Nat) (i9 : Nat) : Int32 := if 10 ≤ f_X7_openWeights (g_X7_detain_1 G i1 i9) i1 then 1 else (if f_X7_lapsedOf (g_X7_detain_1 G i1 i9) i9 = 0 then 0 else 1)
theorem nz_v_X7_detain_52 (G : GS) (i1 : Nat) (i9 : Nat) : nz (v_X7_detain_52 G i1 i9) := (nz_ite nz1 (nz_ite nz0 nz1))
def g_X7_detain_2 (G : GS) (i1 : Nat) (i9 : Nat) : GS := up2 (g_X7_detain_1 G i1 i9) 0 0 (if f_X7_isHere (g_X7_detain_1 G i1 i9) i1 = 0 then 2 else (if G 38 i1 = (-1) then (if v_X7_detain_52 G i1 i9 = 0 then 2 else 0) else 2))
theorem e_g_X7_detain_2 (G : GS) (i1 : Nat) (i9 : Nat) {j : Nat} (h : j ∉ [0, 0]) : g_X7_detain_2 G i1 i9 j = G j := (up2_ne (fun q => h (by rw [q]; exact List.mem_cons_self))).trans (e_g_X7_detain_1 G i1 i9 (fun q => h (List.mem_cons_of_mem _ q)))
def g_X7_detain_3 (G : GS) (i1 : Nat) (i9 : Nat) : GS := up2 (g_X7_detain_2 G i1 i9) 38 i1 (G 1 0)
theorem e_g_X7_detain_3 (G : GS) (i1 : Nat) (i9 : Nat) {j : Nat} (h : j ∉ [38, 0, 0]) : g_X7_detain_3 G i1 i9 j = G j := (up2_ne (fun q => h (by rw [q]; exact List.mem_cons_self))).trans (e_g_X7_detain_2 G i1 i9 (fun q => h (List.mem_cons_of_mem _ q)))
def g_X7_detain_4 (G : GS) (i1 : Nat) (i9 : Nat) : GS := up2 (g_X7_detain_3 G i1 i9) 13 i9 (nI i1)
theorem e_g_X7_detain_4 (G : GS) (i1 : Nat) (i9 : Nat) {j : Nat} (h : j ∉ [13, 38, 0, 0]) : g_X7_detain_4 G i1 i9 j = G j := (up2_ne (fun q => h (by rw [q]; exact List.mem_cons_self))).trans (e_g_X7_detain_3 G i1 i9 (fun q => h (List.mem_cons_of_mem _ q)))
def f_X7_detain (G : GS) (i1 : Nat) (i9 : Nat) : Int32 := if (if f_X7_isVisit G (nI i1) = 0 then 1 else 0 : Int32) = 0 then (if (if f_X7_isHere (g_X7_detain_1 G i1 i9) i1 = 0 then 2 else (if G 38 i1 = (-1) then (if v_X7_detain_52 G i1 i9 = 0 then 2 else 0) else 2) : Int32) ≤ 0 then f_X7_detentionsOf (g_X7_looksForBan (g_X7_detain_4 G i1 i9) i9) i9 else 0) else 0
def g_X7_detain (G : GS) (i1 : Nat) (i9 : Nat) : GS := if (if f_X7_isVisit G (nI i1) = 0 then 1 else 0 : Int32) = 0 then (if (if f_X7_isHere (g_X7_detain_1 G i1 i9) i1 = 0 then 2 else (if G 38 i1 = (-1) then (if v_X7_detain_52 G i1 i9 = 0 then 2 else 0) else 2) : Int32) ≤ 0 then g_X7_looksForBan (g_X7_detain_4 G i1 i9) i9 else g_X7_detain_2 G i1 i9) else g_X7_detain_1 G i1 i9
set_option maxHeartbeats 4000000 in
set_option maxRecDepth 100000 in
theorem c_X7_detain (l : Launch) (D : va_G) (cy : Nat → ClassId) (A : Nat → Prop) (μ : MU) (m0 : Nat) (ad : Nat → Nat) (G : GS) (hM : RepM cy m0 ad G μ) (i1 : Nat) (i9 : Nat) (hi1 : i1 < 60) (hi9 : i9 < 12) (hI : InvM G) (hso : G 30 i1 = nI i9) : Met l yX7_detain (WS yX7_detain cX7_detain 3 (Option.some Jvm.ClassFile.FieldType.int)) { frames := 5, cells := 0, slots := 0, locals := 111 } (va_Pc [.ref m0, .int (nI i1)] (Wd D cy A μ)) (va_Qi (fun (r9 : Int32) (μ1 : MU) => r9 = f_X7_detain G i1 i9 ∧ RepM cy m0 ad (g_X7_detain G i1 i9) μ1) (fun μ1 t => Wd D cy A μ1 t) A) 0 0 A := by
  refine q_met (by decide) (Nat.le_of_ble_eq_true rfl) ?_
  intro p e s m below meth c F w hr hlk hnm ls hl
  have F : CallFix p m c cX7_detain 3 s _ BIG RX7 := F
  have hl : lv_has ls 3 [(0, .ref m0), (1, .int (nI i1))] := hl
  refine lv_aload_n F.1 F.2.1 dX7_detain_0 rfl (lv_at hl 0 rfl) ?_
  refine lv_aload_n F.1 F.2.1 dX7_detain_1 rfl (lv_at hl 0 rfl) ?_
  refine lv_iload_n F.1 F.2.1 dX7_detain_2 rfl (lv_at hl 1 rfl) ?_
  refine q_rV (rest := [.ref m0]) F w kV_X7_228 hd_X7_isVisit (ci := 8) rfl (c_X7_isVisit l D cy A _ m0 ad G hM (nI i1)) hM.1 dX7_detain_3 rfl rfl hl.1 ⟨rfl, rfl, Nat.le_of_ble_eq_true rfl, Nat.le_of_ble_eq_true rfl⟩ (Nat.le_of_ble_eq_true rfl) ⟨Nat.zero_le _, Nat.zero_le _⟩ ?_
  refine jn0 (m := m) (ls := ls) (rest := [.ref m0]) (if f_X7_isVisit G (nI i1) = 0 then 1 else 0) 14 (fun J_1 => ?_) ?_
  · refine lv_if_eq (tgt := 13) F.1 F.2.1 dX7_detain_6 (by decide) (fun c_2 => ?_) (fun c_2 => ?_)
    · refine lv_iconst (v := 1) F.1 F.2.1 dX7_detain_13 (by decide) ?_
      exact jn_a (if_pos c_2) J_1
    · refine lv_iconst (v := 0) F.1 F.2.1 dX7_detain_9 (by decide) ?_
      refine lv_goto (tgt := 14) F.1 F.2.1 dX7_detain_10 (by decide) ?_
      exact jn_a (if_neg c_2) J_1
  refine mp_128 F w hM dX7_detain_14 (fun H locs μ w hM => ?_)
  have hM : RepM cy m0 ad (g_X7_detain_1 G i1 i9) μ := hM
  refine lv_aload_n F.1 F.2.1 dX7_detain_17 rfl (lv_at hl 0 rfl) ?_
  refine gf_X7_128 F w hM.1 rfl dX7_detain_18 ?_
  refine lv_fold (y := if f_X7_isVisit G (nI i1) = 0 then 1 else 0) ((congrFun (up2_eq _ _ _ _) _).trans pk_us) ?_
  refine lv_if_ne (tgt := 84) F.1 F.2.1 dX7_detain_21 (by decide) (fun c_3 => ?_) (fun c_3 => ?_)
  · refine lv_aload_n F.1 F.2.1 dX7_detain_84 rfl (lv_at hl 0 rfl) ?_
    refine gf_X7_128 F w hM.1 rfl dX7_detain_85 ?_
    refine lv_fold (y := if f_X7_isVisit G (nI i1) = 0 then 1 else 0) ((congrFun (up2_eq _ _ _ _) _).trans pk_us) ?_
    refine lv_if_le (tgt := 93) F.1 F.2.1 dX7_detain_88 (by decide) (fun c_4 => absurd c_4 (fun h9 => c_3 (by revert h9; (repeat' split) <;> decide))) (fun c_4 => ?_)
    refine lv_iconst (v := 0) F.1 F.2.1 dX7_detain_91 (by decide) ?_
    exact q_retI (S := Unit) F hr hlk w ⟨(if_neg c_3).symm, RepM.cg hM (if_neg c_3)⟩ dX7_detain_92
  · refine lv_aload_n F.1 F.2.1 dX7_detain_24 rfl (lv_at hl 0 rfl) ?_
    refine lv_iload_n F.1 F.2.1 dX7_detain_25 rfl (lv_at hl 1 rfl) ?_
    refine q_rV (rest := []) F w kV_X7_240 hd_X7_openWeights (ci := 8) rfl (c_X7_openWeights l D cy A _ m0 ad (g_X7_detain_1 G i1 i9) hM i1 (show i1 < 60 by omega) (InvM.fr hI 0 0 (if f_X7_isVisit G (nI i1) = 0 then 1 else 0) rfl)) hM.1 dX7_detain_26 rfl rfl hl.1 ⟨rfl, rfl, Nat.le_of_ble_eq_true rfl, Nat.le_of_ble_eq_true rfl⟩ (Nat.le_of_ble_eq_true rfl) ⟨Nat.zero_le _, Nat.zero_le _⟩ ?_
    refine lv_bipush (v := 10) F.1 F.2.1 dX7_detain_29 (by decide) ?_
    refine jn0 (m := m) (ls := ls) (rest := []) (if 10 ≤ f_X7_openWeights (g_X7_detain_1 G i1 i9) i1 then 1 else (if f_X7_lapsedOf (g_X7_detain_1 G i1 i9) i9 = 0 then 0 else 1)) 52 (fun J_5 => ?_) ?_
    · refine lv_icmp_ge (tgt := 47) F.1 F.2.1 dX7_detain_31 (by decide) (fun c_6 => ?_) (fun c_6 => ?_)
      · refine lv_iconst (v := 1) F.1 F.2.1 dX7_detain_47 (by decide) ?_
        refine lv_goto (tgt := 52) F.1 F.2.1 dX7_detain_48 (by decide) ?_
        exact jn_a (if_pos c_6) J_5
      · refine lv_aload_n F.1 F.2.1 dX7_detain_34 rfl (lv_at hl 0 rfl) ?_
        refine lv_aload_n F.1 F.2.1 dX7_detain_35 rfl (lv_at hl 0 rfl) ?_
        refine gf_X7_86 F w hM.1 rfl dX7_detain_36 ?_
        refine lv_iload_n F.1 F.2.1 dX7_detain_39 rfl (lv_at hl 1 rfl) ?_
        refine m_ild F w hM 30 (by decide) rfl rfl i1 (show i1 < 60 by omega) (by decide) dX7_detain_40 ?_
        refine lv_fold (y := G 30 i1) (congrFun (e_g_X7_detain_1 G i1 i9 (by decide)) i1) ?_
        refine lv_fold (y := nI i9) (hso) ?_
        refine q_rV (rest := []) F w kV_X7_222 hd_X7_lapsedOf (ci := 8) rfl (c_X7_lapsedOf l D cy A _ m0 ad (g_X7_detain_1 G i1 i9) hM i9 (show i9 < 12 by omega) (InvM.fr hI 0 0 (if f_X7_isVisit G (nI i1) = 0 then 1 else 0) rfl)) hM.1 dX7_detain_41 rfl rfl hl.1 ⟨rfl, rfl, Nat.le_of_ble_eq_true rfl, Nat.le_of_ble_eq_true rfl⟩ (Nat.le_of_ble_eq_true rfl) ⟨Nat.zero_le _, Nat.zero_le _⟩ ?_
        refine lv_if_eq (tgt := 51) F.1 F.2.1 dX7_detain_44 (by decide) (fun c_7 => ?_) (fun c_7 => ?_)
        · refine lv_iconst (v := 0) F.1 F.2.1 dX7_detain_51 (by decide) ?_
          exact jn_a ((if_neg c_6).trans (if_pos c_7)) J_5
        · refine lv_iconst (v := 1) F.1 F.2.1 dX7_detain_47 (by decide) ?_
          refine lv_goto (tgt := 52) F.1 F.2.1 dX7_detain_48 (by decide) ?_
          exact jn_a ((if_neg c_6).trans (if_neg c_7)) J_5
    refine lv_fold (y := v_X7_detain_52 G i1 i9) rfl ?_
    refine lv_istore_n (lv' := [(2, .int (v_X7_detain_52 G i1 i9)), (0, .ref m0), (1, .int (nI i1))]) F.1 F.2.1 dX7_detain_52 rfl hl (by decide) rfl (fun ls hl => ?_)
    refine lv_aload_n F.1 F.2.1 dX7_detain_53 rfl (lv_at hl 1 rfl) ?_
    refine lv_aload_n F.1 F.2.1 dX7_detain_54 rfl (lv_at hl 1 rfl) ?_
    refine lv_iload_n F.1 F.2.1 dX7_detain_55 rfl (lv_at hl 2 rfl) ?_
    refine q_rV (rest := [.ref m0]) F w kV_X7_231 hd_X7_isHere (ci := 8) rfl (c_X7_isHere l D cy A _ m0 ad (g_X7_detain_1 G i1 i9) hM i1 (show i1 < 60 by omega) (InvM.fr hI 0 0 (if f_X7_isVisit G (nI i1) = 0 then 1 else 0) rfl)) hM.1 dX7_detain_56 rfl rfl hl.1 ⟨rfl, rfl, Nat.le_of_ble_eq_true rfl, Nat.le_of_ble_eq_true rfl⟩ (Nat.le_of_ble_eq_true rfl) ⟨Nat.zero_le _, Nat.zero_le _⟩ ?_
    refine jn0 (m := m) (ls := ls) (rest := [.ref m0]) (if f_X7_isHere (g_X7_detain_1 G i1 i9) i1 = 0 then 2 else (if G 38 i1 = (-1) then (if v_X7_detain_52 G i1 i9 = 0 then 2 else 0) else 2)) 81 (fun J_8 => ?_) ?_
    · refine lv_if_eq (tgt := 80) F.1 F.2.1 dX7_detain_59 (by decide) (fun c_9 => ?_) (fun c_9 => ?_)
      · refine lv_iconst (v := 2) F.1 F.2.1 dX7_detain_80 (by decide) ?_
        exact jn_a (if_pos c_9) J_8
      · refine lv_aload_n F.1 F.2.1 dX7_detain_62 rfl (lv_at hl 1 rfl) ?_
        refine gf_X7_110 F w hM.1 rfl dX7_detain_63 ?_
        refine lv_iload_n F.1 F.2.1 dX7_detain_66 rfl (lv_at hl 2 rfl) ?_
        refine m_ild F w hM 38 (by decide) rfl rfl i1 (show i1 < 60 by omega) (by decide) dX7_detain_67 ?_
        refine lv_fold (y := G 38 i1) (congrFun (e_g_X7_detain_1 G i1 i9 (by decide)) i1) ?_
        refine lv_iconst (v := -1) F.1 F.2.1 dX7_detain_68 (by decide) ?_
        refine lv_icmp_ne (tgt := 80) F.1 F.2.1 dX7_detain_69 (by decide) (fun c_10 => ?_) (fun c_10 => ?_)
        · refine lv_iconst (v := 2) F.1 F.2.1 dX7_detain_80 (by decide) ?_
          exact jn_a ((if_neg c_9).trans (if_neg c_10)) J_8
        · refine lv_iload_n F.1 F.2.1 dX7_detain_72 rfl (lv_at hl 0 rfl) ?_
          refine lv_if_eq (tgt := 80) F.1 F.2.1 dX7_detain_73 (by decide) (fun c_11 => ?_) (fun c_11 => ?_)
          · refine lv_iconst (v := 2) F.1 F.2.1 dX7_detain_80 (by decide) ?_
            exact jn_a ((if_neg c_9).trans ((if_pos c_10).trans (if_pos c_11))) J_8
          · refine lv_iconst (v := 0) F.1 F.2.1 dX7_detain_76 (by decide) ?_
            refine lv_goto (tgt := 81) F.1 F.2.1 dX7_detain_77 (by decide) ?_
            exact jn_a ((if_neg c_9).trans ((if_pos c_10).trans (if_neg c_11))) J_8
    refine mp_128 F w hM dX7_detain_81 (fun H locs μ w hM => ?_)
    have hM : RepM cy m0 ad (g_X7_detain_2 G i1 i9) μ := hM
    refine lv_aload_n F.1 F.2.1 dX7_detain_84 rfl (lv_at hl 1 rfl) ?_
    refine gf_X7_128 F w hM.1 rfl dX7_detain_85 ?_
    refine lv_fold (y := if f_X7_isHere (g_X7_detain_1 G i1 i9) i1 = 0 then 2 else (if G 38 i1 = (-1) then (if v_X7_detain_52 G i1 i9 = 0 then 2 else 0) else 2)) ((congrFun (up2_eq _ _ _ _) _).trans pk_us) ?_
    refine lv_if_le (tgt := 93) F.1 F.2.1 dX7_detain_88 (by decide) (fun c_12 => ?_) (fun c_12 => ?_)
    · refine lv_aload_n F.1 F.2.1 dX7_detain_93 rfl (lv_at hl 1 rfl) ?_
      refine gf_X7_110 F w hM.1 rfl dX7_detain_94 ?_
      refine lv_iload_n F.1 F.2.1 dX7_detain_97 rfl (lv_at hl 2 rfl) ?_
      refine lv_aload_n F.1 F.2.1 dX7_detain_98 rfl (lv_at hl 1 rfl) ?_
      refine gf_X7_142 F w hM.1 rfl dX7_detain_99 ?_
      refine lv_fold (y := G 1 0) (congrFun (e_g_X7_detain_2 G i1 i9 (by decide)) 0) ?_
      refine m_ist F w hM 38 (by decide) rfl rfl i1 (show i1 < 60 by omega) (by decide) dX7_detain_102 (fun H locs μ w hM => ?_)
      have hM : RepM cy m0 ad (g_X7_detain_3 G i1 i9) μ := hM
      refine lv_aload_n F.1 F.2.1 dX7_detain_103 rfl (lv_at hl 1 rfl) ?_
      refine gf_X7_41 F w hM.1 rfl dX7_detain_104 ?_
      refine lv_aload_n F.1 F.2.1 dX7_detain_107 rfl (lv_at hl 1 rfl) ?_
      refine gf_X7_86 F w hM.1 rfl dX7_detain_108 ?_
      refine lv_iload_n F.1 F.2.1 dX7_detain_111 rfl (lv_at hl 2 rfl) ?_
      refine m_ild F w hM 30 (by decide) rfl rfl i1 (show i1 < 60 by omega) (by decide) dX7_detain_112 ?_
      refine lv_fold (y := G 30 i1) (congrFun (e_g_X7_detain_3 G i1 i9 (by decide)) i1) ?_
      refine lv_fold (y := nI i9) (hso) ?_
      refine lv_iload_n F.1 F.2.1 dX7_detain_113 rfl (lv_at hl 2 rfl) ?_
      refine m_ist F w hM 13 (by decide) rfl rfl i9 (show i9 < 12 by omega) (by decide) dX7_detain_114 (fun H locs μ w hM => ?_)
      have hM : RepM cy m0 ad (g_X7_detain_4 G i1 i9) μ := hM
      refine lv_aload_n F.1 F.2.1 dX7_detain_115 rfl (lv_at hl 1 rfl) ?_
      refine lv_aload_n F.1 F.2.1 dX7_detain_116 rfl (lv_at hl 1 rfl) ?_
      refine gf_X7_86 F w hM.1 rfl dX7_detain_117 ?_
      refine lv_iload_n F.1 F.2.1 dX7_detain_120 rfl (lv_at hl 2 rfl) ?_
      refine m_ild F w hM 30 (by decide) rfl rfl i1 (show i1 < 60 by omega) (by decide) dX7_detain_121 ?_
      refine lv_fold (y := G 30 i1) (congrFun (e_g_X7_detain_4 G i1 i9 (by decide)) i1) ?_
      refine lv_fold (y := nI i9) (hso) ?_
      refine q_mVv (rest := []) F w kV_X7_243 hd_X7_looksForBan (ci := 8) rfl (c_X7_looksForBan l D cy A _ m0 ad (g_X7_detain_4 G i1 i9) hM i9 (show i9 < 12 by omega) (InvM.fr (InvM.fr (InvM.fr (InvM.fr hI 0 0 (if f_X7_isVisit G (nI i1) = 0 then 1 else 0) rfl) 0 0 (if f_X7_isHere (g_X7_detain_1 G i1 i9) i1 = 0 then 2 else (if G 38 i1 = (-1) then (if v_X7_detain_52 G i1 i9 = 0 then 2 else 0) else 2)) rfl) 38 i1 (G 1 0) rfl) 13 i9 (nI i1) rfl)) hM.1 dX7_detain_122 rfl rfl hl.1 ⟨rfl, rfl, Nat.le_of_ble_eq_true rfl, Nat.le_of_ble_eq_true rfl⟩ (Nat.le_of_ble_eq_true rfl) ⟨Nat.le_refl _, Nat.le_refl _⟩ (fun μ H locs hM w => ?_)
      refine lv_aload_n F.1 F.2.1 dX7_detain_125 rfl (lv_at hl 1 rfl) ?_
      refine lv_aload_n F.1 F.2.1 dX7_detain_126 rfl (lv_at hl 1 rfl) ?_
      refine gf_X7_86 F w hM.1 rfl dX7_detain_127 ?_
      refine lv_iload_n F.1 F.2.1 dX7_detain_130 rfl (lv_at hl 2 rfl) ?_
      refine m_ild F w hM 30 (by decide) rfl rfl i1 (show i1 < 60 by omega) (by decide) dX7_detain_131 ?_
      refine lv_fold (y := G 30 i1) (congrFun ((e_g_X7_looksForBan (g_X7_detain_4 G i1 i9) i9 (by decide)).trans (e_g_X7_detain_4 G i1 i9 (by decide))) i1) ?_
      refine lv_fold (y := nI i9) (hso) ?_
      refine q_rV (rest := []) F w kV_X7_204 hd_X7_detentionsOf (ci := 8) rfl (c_X7_detentionsOf l D cy A _ m0 ad (g_X7_looksForBan (g_X7_detain_4 G i1 i9) i9) hM i9 (show i9 < 12 by omega) (InvM.lfb (InvM.fr (InvM.fr (InvM.fr (InvM.fr hI 0 0 (if f_X7_isVisit G (nI i1) = 0 then 1 else 0) rfl) 0 0 (if f_X7_isHere (g_X7_detain_1 G i1 i9) i1 = 0 then 2 else (if G 38 i1 = (-1) then (if v_X7_detain_52 G i1 i9 = 0 then 2 else 0) else 2)) rfl) 38 i1 (G 1 0) rfl) 13 i9 (nI i1) rfl) _)) hM.1 dX7_detain_132 rfl rfl hl.1 ⟨rfl, rfl, Nat.le_of_ble_eq_true rfl, Nat.le_of_ble_eq_true rfl⟩ (Nat.le_of_ble_eq_true rfl) ⟨Nat.zero_le _, Nat.zero_le _⟩ ?_
      exact q_retI (S := Unit) F hr hlk w ⟨((if_pos c_3).trans (if_pos c_12)).symm, RepM.cg hM ((if_pos c_3).trans (if_pos c_12))⟩ dX7_detain_135
    · refine lv_iconst (v := 0) F.1 F.2.1 dX7_detain_91 (by decide) ?_
      exact q_retI (S := Unit) F hr hlk w ⟨((if_pos c_3).trans (if_neg c_12)).symm, RepM.cg hM ((if_pos c_3).trans (if_neg c_12))⟩ dX7_detain_92
def g_X7_detain_b_1 (G : GS) (x1 : Int32) : GS := up2 G 0 0 1
theorem e_g_X7_detain_b_1 (G : GS) (x1 : Int32) {j : Nat} (h : j ∉ [0]) : g_X7_detain_b_1 G x1 j = G j := (up2_ne (fun q => h (by rw [q]; exact List.mem_cons_self))).trans rfl
def f_X7_detain_b (G : GS) (x1 : Int32) : Int32 := 0
def g_X7_detain_b (G : GS) (x1 : Int32) : GS := g_X7_detain_b_1 G x1
set_option maxHeartbeats 4000000 in
set_option maxRecDepth 100000 in
theorem c_X7_detain_b (l : Launch) (D : va_G) (cy : Nat → ClassId) (A : Nat → Prop) (μ : MU) (m0 : Nat) (ad : Nat → Nat) (G : GS) (hM : RepM cy m0 ad G μ) (x1 : Int32) (hb : f_X7_isVisit G x1 = 0) : Met l yX7_detain (WS yX7_detain cX7_detain 3 (Option.some Jvm.ClassFile.FieldType.int)) { frames := 2, cells := 0, slots := 0, locals := 43 } (va_Pc [.ref m0, .int x1] (Wd D cy A μ)) (va_Qi (fun (r9 : Int32) (μ1 : MU) => r9 = f_X7_detain_b G x1 ∧ RepM cy m0 ad (g_X7_detain_b G x1) μ1) (fun μ1 t => Wd D cy A μ1 t) A) 0 0 A := by
  refine q_met (by decide) (Nat.le_of_ble_eq_true rfl) ?_
  intro p e s m below meth c F w hr hlk hnm ls hl
  have F : CallFix p m c cX7_detain 3 s _ BIG RX7 := F
  have hl : lv_has ls 3 [(0, .ref m0), (1, .int x1)] := hl
  refine lv_aload_n F.1 F.2.1 dX7_detain_0 rfl (lv_at hl 0 rfl) ?_
  refine lv_aload_n F.1 F.2.1 dX7_detain_1 rfl (lv_at hl 0 rfl) ?_
  refine lv_iload_n F.1 F.2.1 dX7_detain_2 rfl (lv_at hl 1 rfl) ?_
  refine q_rV (rest := [.ref m0]) F w kV_X7_228 hd_X7_isVisit (ci := 8) rfl (c_X7_isVisit l D cy A _ m0 ad G hM x1) hM.1 dX7_detain_3 rfl rfl hl.1 ⟨rfl, rfl, Nat.le_of_ble_eq_true rfl, Nat.le_of_ble_eq_true rfl⟩ (Nat.le_of_ble_eq_true rfl) ⟨Nat.zero_le _, Nat.zero_le _⟩ ?_
  refine lv_if_eq (tgt := 13) F.1 F.2.1 dX7_detain_6 (by decide) (fun c_1 => ?_) (fun c_1 => absurd hb c_1)
  refine lv_iconst (v := 1) F.1 F.2.1 dX7_detain_13 (by decide) ?_
  refine mp_128 F w hM dX7_detain_14 (fun H locs μ w hM => ?_)
  have hM : RepM cy m0 ad (g_X7_detain_b_1 G x1) μ := hM
  refine lv_aload_n F.1 F.2.1 dX7_detain_17 rfl (lv_at hl 0 rfl) ?_
  refine gf_X7_128 F w hM.1 rfl dX7_detain_18 ?_
  refine lv_fold (y := 1) ((congrFun (up2_eq _ _ _ _) _).trans pk_us) ?_
  refine lv_if_ne (tgt := 84) F.1 F.2.1 dX7_detain_21 (by decide) (fun c_2 => ?_) (fun c_2 => absurd c_2 (by decide))
  refine lv_aload_n F.1 F.2.1 dX7_detain_84 rfl (lv_at hl 0 rfl) ?_
  refine gf_X7_128 F w hM.1 rfl dX7_detain_85 ?_
  refine lv_fold (y := 1) ((congrFun (up2_eq _ _ _ _) _).trans pk_us) ?_
  refine lv_if_le (tgt := 93) F.1 F.2.1 dX7_detain_88 (by decide) (fun c_3 => absurd c_3 (by decide)) (fun c_3 => ?_)
  refine lv_iconst (v := 0) F.1 F.2.1 dX7_detain_91 (by decide) ?_
  exact q_retI (S := Unit) F hr hlk w ⟨rfl, RepM.cg hM rfl⟩ dX7_detain_92
def g_X7_release_1 (G : GS) (i1 : Nat) (i9 : Nat) : GS := up2 G 0 0 (if f_X7_isShip G (nI i1) = 0 then 1 else (if nI i9 = (-1) then 2 else 0))
theorem e_g_X7_release_1 (G : GS) (i1 : Nat) (i9 : Nat) {j : Nat} (h : j ∉ [0]) : g_X7_release_1 G i1 i9 j = G j := (up2_ne (fun q => h (by rw [q]; exact List.mem_cons_self))).trans rfl
def g_X7_release_2 (G : GS) (i1 : Nat) (i9 : Nat) : GS := up2 (g_X7_release_1 G i1 i9) 0 0 (if 0 < f_X7_openOf (g_X7_release_1 G i1 i9) i9 then 2 else (if f_X7_lapsedOf (g_X7_release_1 G i1 i9) i1 = 0 then 0 else 2))
theorem e_g_X7_release_2 (G : GS) (i1 : Nat) (i9 : Nat) {j : Nat} (h : j ∉ [0, 0]) : g_X7_release_2 G i1 i9 j = G j := (up2_ne (fun q => h (by rw [q]; exact List.mem_cons_self))).trans (e_g_X7_release_1 G i1 i9 (fun q => h (List.mem_cons_of_mem _ q)))
def g_X7_release_3 (G : GS) (i1 : Nat) (i9 : Nat) : GS := up2 (g_X7_release_2 G i1 i9) 17 i1 ((G 17 i1) + (100 * ((G 1 0) - (G 38 i9))))
theorem e_g_X7_release_3 (G : GS) (i1 : Nat) (i9 : Nat) {j : Nat} (h : j ∉ [17, 0, 0]) : g_X7_release_3 G i1 i9 j = G j := (up2_ne (fun q => h (by rw [q]; exact List.mem_cons_self))).trans (e_g_X7_release_2 G i1 i9 (fun q => h (List.mem_cons_of_mem _ q)))
def g_X7_release_4 (G : GS) (i1 : Nat) (i9 : Nat) : GS := up2 (g_X7_release_3 G i1 i9) 13 i1 (-1)
theorem e_g_X7_release_4 (G : GS) (i1 : Nat) (i9 : Nat) {j : Nat} (h : j ∉ [13, 17, 0, 0]) : g_X7_release_4 G i1 i9 j = G j := (up2_ne (fun q => h (by rw [q]; exact List.mem_cons_self))).trans (e_g_X7_release_3 G i1 i9 (fun q => h (List.mem_cons_of_mem _ q)))
def g_X7_release_5 (G : GS) (i1 : Nat) (i9 : Nat) : GS := up2 (g_X7_release_4 G i1 i9) 16 i1 (if G 15 i1 = 0 then (G 1 0) + 90 else (if G 15 i1 = 1 then (G 1 0) + 360 else 100000))
theorem e_g_X7_release_5 (G : GS) (i1 : Nat) (i9 : Nat) {j : Nat} (h : j ∉ [16, 13, 17, 0, 0]) : g_X7_release_5 G i1 i9 j = G j := (up2_ne (fun q => h (by rw [q]; exact List.mem_cons_self))).trans (e_g_X7_release_4 G i1 i9 (fun q => h (List.mem_cons_of_mem _ q)))
def g_X7_release_6 (G : GS) (i1 : Nat) (i9 : Nat) : GS := up2 (g_X7_release_5 G i1 i9) 15 i1 ((G 15 i1) + 1)
theorem e_g_X7_release_6 (G : GS) (i1 : Nat) (i9 : Nat) {j : Nat} (h : j ∉ [15, 16, 13, 17, 0, 0]) : g_X7_release_6 G i1 i9 j = G j := (up2_ne (fun q => h (by rw [q]; exact List.mem_cons_self))).trans (e_g_X7_release_5 G i1 i9 (fun q => h (List.mem_cons_of_mem _ q)))
def g_X7_release_7 (G : GS) (i1 : Nat) (i9 : Nat) : GS := up2 (g_X7_release_6 G i1 i9) 14 i1 0
theorem e_g_X7_release_7 (G : GS) (i1 : Nat) (i9 : Nat) {j : Nat} (h : j ∉ [14, 15, 16, 13, 17, 0, 0]) : g_X7_release_7 G i1 i9 j = G j := (up2_ne (fun q => h (by rw [q]; exact List.mem_cons_self))).trans (e_g_X7_release_6 G i1 i9 (fun q => h (List.mem_cons_of_mem _ q)))
def f_X7_release (G : GS) (i1 : Nat) (i9 : Nat) : Int32 := if (if f_X7_isShip G (nI i1) = 0 then 1 else (if nI i9 = (-1) then 2 else 0) : Int32) = 0 then (if (if 0 < f_X7_openOf (g_X7_release_1 G i1 i9) i9 then 2 else (if f_X7_lapsedOf (g_X7_release_1 G i1 i9) i1 = 0 then 0 else 2) : Int32) ≤ 0 then (if G 14 i1 = 0 then 100 * ((G 1 0) - (G 38 i9)) else 100 * ((G 1 0) - (G 38 i9))) else 0) else 0
def g_X7_release (G : GS) (i1 : Nat) (i9 : Nat) : GS := if (if f_X7_isShip G (nI i1) = 0 then 1 else (if nI i9 = (-1) then 2 else 0) : Int32) = 0 then (if (if 0 < f_X7_openOf (g_X7_release_1 G i1 i9) i9 then 2 else (if f_X7_lapsedOf (g_X7_release_1 G i1 i9) i1 = 0 then 0 else 2) : Int32) ≤ 0 then (if G 14 i1 = 0 then g_X7_release_4 G i1 i9 else g_X7_release_7 G i1 i9) else g_X7_release_2 G i1 i9) else g_X7_release_1 G i1 i9
set_option maxHeartbeats 4000000 in
set_option maxRecDepth 100000 in
theorem c_X7_release (l : Launch) (D : va_G) (cy : Nat → ClassId) (A : Nat → Prop) (μ : MU) (m0 : Nat) (ad : Nat → Nat) (G : GS) (hM : RepM cy m0 ad G μ) (i1 : Nat) (i9 : Nat) (hi1 : i1 < 12) (hi9 : i9 < 60) (hI : InvM G) (hp : G 13 i1 = nI i9) : Met l yX7_release (WS yX7_release cX7_release 3 (Option.some Jvm.ClassFile.FieldType.int)) { frames := 5, cells := 0, slots := 0, locals := 111 } (va_Pc [.ref m0, .int (nI i1)] (Wd D cy A μ)) (va_Qi (fun (r9 : Int32) (μ1 : MU) => r9 = f_X7_release G i1 i9 ∧ RepM cy m0 ad (g_X7_release G i1 i9) μ1) (fun μ1 t => Wd D cy A μ1 t) A) 0 0 A := by
  refine q_met (by decide) (Nat.le_of_ble_eq_true rfl) ?_
  intro p e s m below meth c F w hr hlk hnm ls hl
  have F : CallFix p m c cX7_release 3 s _ BIG RX7 := F
  have hl : lv_has ls 3 [(0, .ref m0), (1, .int (nI i1))] := hl
  refine lv_aload_n F.1 F.2.1 dX7_release_0 rfl (lv_at hl 0 rfl) ?_
  refine lv_aload_n F.1 F.2.1 dX7_release_1 rfl (lv_at hl 0 rfl) ?_
  refine lv_iload_n F.1 F.2.1 dX7_release_2 rfl (lv_at hl 1 rfl) ?_
  refine q_rV (rest := [.ref m0]) F w kV_X7_153 hd_X7_isShip (ci := 8) rfl (c_X7_isShip l D cy A _ m0 ad G hM (nI i1)) hM.1 dX7_release_3 rfl rfl hl.1 ⟨rfl, rfl, Nat.le_of_ble_eq_true rfl, Nat.le_of_ble_eq_true rfl⟩ (Nat.le_of_ble_eq_true rfl) ⟨Nat.zero_le _, Nat.zero_le _⟩ ?_
  refine jn0 (m := m) (ls := ls) (rest := [.ref m0]) (if f_X7_isShip G (nI i1) = 0 then 1 else (if nI i9 = (-1) then 2 else 0)) 28 (fun J_1 => ?_) ?_
  · refine lv_if_ne (tgt := 13) F.1 F.2.1 dX7_release_6 (by decide) (fun c_2 => ?_) (fun c_2 => ?_)
    · refine lv_aload_n F.1 F.2.1 dX7_release_13 rfl (lv_at hl 0 rfl) ?_
      refine gf_X7_41 F w hM.1 rfl dX7_release_14 ?_
      refine lv_iload_n F.1 F.2.1 dX7_release_17 rfl (lv_at hl 1 rfl) ?_
      refine m_ild F w hM 13 (by decide) rfl rfl i1 (show i1 < 12 by omega) (by decide) dX7_release_18 ?_
      refine lv_fold (y := nI i9) (hp) ?_
      refine lv_iconst (v := -1) F.1 F.2.1 dX7_release_19 (by decide) ?_
      refine lv_icmp_ne (tgt := 27) F.1 F.2.1 dX7_release_20 (by decide) (fun c_3 => ?_) (fun c_3 => ?_)
      · refine lv_iconst (v := 0) F.1 F.2.1 dX7_release_27 (by decide) ?_
        exact jn_a ((if_neg c_2).trans (if_neg c_3)) J_1
      · refine lv_iconst (v := 2) F.1 F.2.1 dX7_release_23 (by decide) ?_
        refine lv_goto (tgt := 28) F.1 F.2.1 dX7_release_24 (by decide) ?_
        exact jn_a ((if_neg c_2).trans (if_pos c_3)) J_1
    · refine lv_iconst (v := 1) F.1 F.2.1 dX7_release_9 (by decide) ?_
      refine lv_goto (tgt := 28) F.1 F.2.1 dX7_release_10 (by decide) ?_
      exact jn_a (if_pos c_2) J_1
  refine mp_128 F w hM dX7_release_28 (fun H locs μ w hM => ?_)
  have hM : RepM cy m0 ad (g_X7_release_1 G i1 i9) μ := hM
  refine lv_aload_n F.1 F.2.1 dX7_release_31 rfl (lv_at hl 0 rfl) ?_
  refine gf_X7_128 F w hM.1 rfl dX7_release_32 ?_
  refine lv_fold (y := if f_X7_isShip G (nI i1) = 0 then 1 else (if nI i9 = (-1) then 2 else 0)) ((congrFun (up2_eq _ _ _ _) _).trans pk_us) ?_
  refine lv_if_ne (tgt := 68) F.1 F.2.1 dX7_release_35 (by decide) (fun c_4 => ?_) (fun c_4 => ?_)
  · refine lv_aload_n F.1 F.2.1 dX7_release_68 rfl (lv_at hl 0 rfl) ?_
    refine gf_X7_128 F w hM.1 rfl dX7_release_69 ?_
    refine lv_fold (y := if f_X7_isShip G (nI i1) = 0 then 1 else (if nI i9 = (-1) then 2 else 0)) ((congrFun (up2_eq _ _ _ _) _).trans pk_us) ?_
    refine lv_if_le (tgt := 77) F.1 F.2.1 dX7_release_72 (by decide) (fun c_5 => absurd c_5 (fun h9 => c_4 (by revert h9; (repeat' split) <;> decide))) (fun c_5 => ?_)
    refine lv_iconst (v := 0) F.1 F.2.1 dX7_release_75 (by decide) ?_
    exact q_retI (S := Unit) F hr hlk w ⟨(if_neg c_4).symm, RepM.cg hM (if_neg c_4)⟩ dX7_release_76
  · refine lv_aload_n F.1 F.2.1 dX7_release_38 rfl (lv_at hl 0 rfl) ?_
    refine lv_aload_n F.1 F.2.1 dX7_release_39 rfl (lv_at hl 0 rfl) ?_
    refine lv_aload_n F.1 F.2.1 dX7_release_40 rfl (lv_at hl 0 rfl) ?_
    refine gf_X7_41 F w hM.1 rfl dX7_release_41 ?_
    refine lv_iload_n F.1 F.2.1 dX7_release_44 rfl (lv_at hl 1 rfl) ?_
    refine m_ild F w hM 13 (by decide) rfl rfl i1 (show i1 < 12 by omega) (by decide) dX7_release_45 ?_
    refine lv_fold (y := G 13 i1) (congrFun (e_g_X7_release_1 G i1 i9 (by decide)) i1) ?_
    refine lv_fold (y := nI i9) (hp) ?_
    refine q_rV (rest := [.ref m0]) F w kV_X7_237 hd_X7_openOf (ci := 8) rfl (c_X7_openOf l D cy A _ m0 ad (g_X7_release_1 G i1 i9) hM i9 (show i9 < 60 by omega) (InvM.fr hI 0 0 (if f_X7_isShip G (nI i1) = 0 then 1 else (if nI i9 = (-1) then 2 else 0)) rfl)) hM.1 dX7_release_46 rfl rfl hl.1 ⟨rfl, rfl, Nat.le_of_ble_eq_true rfl, Nat.le_of_ble_eq_true rfl⟩ (Nat.le_of_ble_eq_true rfl) ⟨Nat.zero_le _, Nat.zero_le _⟩ ?_
    refine jn0 (m := m) (ls := ls) (rest := [.ref m0]) (if 0 < f_X7_openOf (g_X7_release_1 G i1 i9) i9 then 2 else (if f_X7_lapsedOf (g_X7_release_1 G i1 i9) i1 = 0 then 0 else 2)) 65 (fun J_6 => ?_) ?_
    · refine lv_if_gt (tgt := 60) F.1 F.2.1 dX7_release_49 (by decide) (fun c_7 => ?_) (fun c_7 => ?_)
      · refine lv_iconst (v := 2) F.1 F.2.1 dX7_release_60 (by decide) ?_
        refine lv_goto (tgt := 65) F.1 F.2.1 dX7_release_61 (by decide) ?_
        exact jn_a (if_pos c_7) J_6
      · refine lv_aload_n F.1 F.2.1 dX7_release_52 rfl (lv_at hl 0 rfl) ?_
        refine lv_iload_n F.1 F.2.1 dX7_release_53 rfl (lv_at hl 1 rfl) ?_
        refine q_rV (rest := [.ref m0]) F w kV_X7_222 hd_X7_lapsedOf (ci := 8) rfl (c_X7_lapsedOf l D cy A _ m0 ad (g_X7_release_1 G i1 i9) hM i1 (show i1 < 12 by omega) (InvM.fr hI 0 0 (if f_X7_isShip G (nI i1) = 0 then 1 else (if nI i9 = (-1) then 2 else 0)) rfl)) hM.1 dX7_release_54 rfl rfl hl.1 ⟨rfl, rfl, Nat.le_of_ble_eq_true rfl, Nat.le_of_ble_eq_true rfl⟩ (Nat.le_of_ble_eq_true rfl) ⟨Nat.zero_le _, Nat.zero_le _⟩ ?_
        refine lv_if_eq (tgt := 64) F.1 F.2.1 dX7_release_57 (by decide) (fun c_8 => ?_) (fun c_8 => ?_)
        · refine lv_iconst (v := 0) F.1 F.2.1 dX7_release_64 (by decide) ?_
          exact jn_a ((if_neg c_7).trans (if_pos c_8)) J_6
        · refine lv_iconst (v := 2) F.1 F.2.1 dX7_release_60 (by decide) ?_
          refine lv_goto (tgt := 65) F.1 F.2.1 dX7_release_61 (by decide) ?_
          exact jn_a ((if_neg c_7).trans (if_neg c_8)) J_6
    refine mp_128 F w hM dX7_release_65 (fun H locs μ w hM => ?_)
    have hM : RepM cy m0 ad (g_X7_release_2 G i1 i9) μ := hM
    refine lv_aload_n F.1 F.2.1 dX7_release_68 rfl (lv_at hl 0 rfl) ?_
    refine gf_X7_128 F w hM.1 rfl dX7_release_69 ?_
    refine lv_fold (y := if 0 < f_X7_openOf (g_X7_release_1 G i1 i9) i9 then 2 else (if f_X7_lapsedOf (g_X7_release_1 G i1 i9) i1 = 0 then 0 else 2)) ((congrFun (up2_eq _ _ _ _) _).trans pk_us) ?_
    refine lv_if_le (tgt := 77) F.1 F.2.1 dX7_release_72 (by decide) (fun c_9 => ?_) (fun c_9 => ?_)
    · refine lv_bipush (v := 100) F.1 F.2.1 dX7_release_77 (by decide) ?_
      refine lv_aload_n F.1 F.2.1 dX7_release_79 rfl (lv_at hl 0 rfl) ?_
      refine gf_X7_142 F w hM.1 rfl dX7_release_80 ?_
      refine lv_fold (y := G 1 0) (congrFun (e_g_X7_release_2 G i1 i9 (by decide)) 0) ?_
      refine lv_aload_n F.1 F.2.1 dX7_release_83 rfl (lv_at hl 0 rfl) ?_
      refine gf_X7_110 F w hM.1 rfl dX7_release_84 ?_
      refine lv_aload_n F.1 F.2.1 dX7_release_87 rfl (lv_at hl 0 rfl) ?_
      refine gf_X7_41 F w hM.1 rfl dX7_release_88 ?_
      refine lv_iload_n F.1 F.2.1 dX7_release_91 rfl (lv_at hl 1 rfl) ?_
      refine m_ild F w hM 13 (by decide) rfl rfl i1 (show i1 < 12 by omega) (by decide) dX7_release_92 ?_
      refine lv_fold (y := G 13 i1) (congrFun (e_g_X7_release_2 G i1 i9 (by decide)) i1) ?_
      refine lv_fold (y := nI i9) (hp) ?_
      refine m_ild F w hM 38 (by decide) rfl rfl i9 (show i9 < 60 by omega) (by decide) dX7_release_93 ?_
      refine lv_fold (y := G 38 i9) (congrFun (e_g_X7_release_2 G i1 i9 (by decide)) i9) ?_
      refine lv_isub F.1 F.2.1 dX7_release_94 ?_
      refine lv_imul F.1 F.2.1 dX7_release_95 ?_
      refine lv_istore_n (lv' := [(2, .int (100 * ((G 1 0) - (G 38 i9)))), (0, .ref m0), (1, .int (nI i1))]) F.1 F.2.1 dX7_release_96 rfl hl (by decide) rfl (fun ls hl => ?_)
      refine lv_aload_n F.1 F.2.1 dX7_release_97 rfl (lv_at hl 1 rfl) ?_
      refine gf_X7_53 F w hM.1 rfl dX7_release_98 ?_
      refine lv_iload_n F.1 F.2.1 dX7_release_101 rfl (lv_at hl 2 rfl) ?_
      refine lv_dup2_11 F.1 F.2.1 dX7_release_102 rfl rfl ?_
      refine m_ild F w hM 17 (by decide) rfl rfl i1 (show i1 < 12 by omega) (by decide) dX7_release_103 ?_
      refine lv_fold (y := G 17 i1) (congrFun (e_g_X7_release_2 G i1 i9 (by decide)) i1) ?_
      refine lv_iload_n F.1 F.2.1 dX7_release_104 rfl (lv_at hl 0 rfl) ?_
      refine lv_iadd F.1 F.2.1 dX7_release_105 ?_
      refine m_ist F w hM 17 (by decide) rfl rfl i1 (show i1 < 12 by omega) (by decide) dX7_release_106 (fun H locs μ w hM => ?_)
      have hM : RepM cy m0 ad (g_X7_release_3 G i1 i9) μ := hM
      refine lv_aload_n F.1 F.2.1 dX7_release_107 rfl (lv_at hl 1 rfl) ?_
      refine gf_X7_41 F w hM.1 rfl dX7_release_108 ?_
      refine lv_iload_n F.1 F.2.1 dX7_release_111 rfl (lv_at hl 2 rfl) ?_
      refine lv_iconst (v := -1) F.1 F.2.1 dX7_release_112 (by decide) ?_
      refine m_ist F w hM 13 (by decide) rfl rfl i1 (show i1 < 12 by omega) (by decide) dX7_release_113 (fun H locs μ w hM => ?_)
      have hM : RepM cy m0 ad (g_X7_release_4 G i1 i9) μ := hM
      refine lv_aload_n F.1 F.2.1 dX7_release_114 rfl (lv_at hl 1 rfl) ?_
      refine gf_X7_44 F w hM.1 rfl dX7_release_115 ?_
      refine lv_iload_n F.1 F.2.1 dX7_release_118 rfl (lv_at hl 2 rfl) ?_
      refine m_zld F w hM 14 (by decide) rfl rfl i1 (show i1 < 12 by omega) (by decide) dX7_release_119 ?_
      refine lv_fold (y := G 14 i1) (congrFun (e_g_X7_release_4 G i1 i9 (by decide)) i1) ?_
      refine lv_if_eq (tgt := 188) F.1 F.2.1 dX7_release_120 (by decide) (fun c_10 => ?_) (fun c_10 => ?_)
      · refine lv_iload_n F.1 F.2.1 dX7_release_188 rfl (lv_at hl 0 rfl) ?_
        exact q_retI (S := Unit) F hr hlk w ⟨((if_pos c_4).trans ((if_pos c_9).trans (if_pos c_10))).symm, RepM.cg hM ((if_pos c_4).trans ((if_pos c_9).trans (if_pos c_10)))⟩ dX7_release_189
      · refine lv_aload_n F.1 F.2.1 dX7_release_123 rfl (lv_at hl 1 rfl) ?_
        refine gf_X7_50 F w hM.1 rfl dX7_release_124 ?_
        refine lv_iload_n F.1 F.2.1 dX7_release_127 rfl (lv_at hl 2 rfl) ?_
        refine lv_aload_n F.1 F.2.1 dX7_release_128 rfl (lv_at hl 1 rfl) ?_
        refine gf_X7_47 F w hM.1 rfl dX7_release_129 ?_
        refine lv_iload_n F.1 F.2.1 dX7_release_132 rfl (lv_at hl 2 rfl) ?_
        refine m_ild F w hM 15 (by decide) rfl rfl i1 (show i1 < 12 by omega) (by decide) dX7_release_133 ?_
        refine lv_fold (y := G 15 i1) (congrFun (e_g_X7_release_4 G i1 i9 (by decide)) i1) ?_
        refine jn0 (m := m) (ls := ls) (rest := [.int (nI i1), .ref (ad 16)]) (if G 15 i1 = 0 then (G 1 0) + 90 else (if G 15 i1 = 1 then (G 1 0) + 360 else 100000)) 170 (fun J_11 => ?_) ?_
        · refine lv_if_ne (tgt := 147) F.1 F.2.1 dX7_release_134 (by decide) (fun c_12 => ?_) (fun c_12 => ?_)
          · refine lv_aload_n F.1 F.2.1 dX7_release_147 rfl (lv_at hl 1 rfl) ?_
            refine gf_X7_47 F w hM.1 rfl dX7_release_148 ?_
            refine lv_iload_n F.1 F.2.1 dX7_release_151 rfl (lv_at hl 2 rfl) ?_
            refine m_ild F w hM 15 (by decide) rfl rfl i1 (show i1 < 12 by omega) (by decide) dX7_release_152 ?_
            refine lv_fold (y := G 15 i1) (congrFun (e_g_X7_release_4 G i1 i9 (by decide)) i1) ?_
            refine lv_iconst (v := 1) F.1 F.2.1 dX7_release_153 (by decide) ?_
            refine lv_icmp_ne (tgt := 168) F.1 F.2.1 dX7_release_154 (by decide) (fun c_13 => ?_) (fun c_13 => ?_)
            · refine lv_ldc F.1 F.2.1 F.2.2.2.1 (F.2.2.2.2 _ wK_X7_247) dX7_release_168 ?_
              exact jn_a ((if_neg c_12).trans (if_neg c_13)) J_11
            · refine lv_aload_n F.1 F.2.1 dX7_release_157 rfl (lv_at hl 1 rfl) ?_
              refine gf_X7_142 F w hM.1 rfl dX7_release_158 ?_
              refine lv_fold (y := G 1 0) (congrFun (e_g_X7_release_4 G i1 i9 (by decide)) 0) ?_
              refine lv_sipush (v := 360) F.1 F.2.1 dX7_release_161 (by decide) ?_
              refine lv_iadd F.1 F.2.1 dX7_release_164 ?_
              refine lv_goto (tgt := 170) F.1 F.2.1 dX7_release_165 (by decide) ?_
              exact jn_a ((if_neg c_12).trans (if_pos c_13)) J_11
          · refine lv_aload_n F.1 F.2.1 dX7_release_137 rfl (lv_at hl 1 rfl) ?_
            refine gf_X7_142 F w hM.1 rfl dX7_release_138 ?_
            refine lv_fold (y := G 1 0) (congrFun (e_g_X7_release_4 G i1 i9 (by decide)) 0) ?_
            refine lv_bipush (v := 90) F.1 F.2.1 dX7_release_141 (by decide) ?_
            refine lv_iadd F.1 F.2.1 dX7_release_143 ?_
            refine lv_goto (tgt := 170) F.1 F.2.1 dX7_release_144 (by decide) ?_
            exact jn_a (if_pos c_12) J_11
        refine m_ist F w hM 16 (by decide) rfl rfl i1 (show i1 < 12 by omega) (by decide) dX7_release_170 (fun H locs μ w hM => ?_)
        have hM : RepM cy m0 ad (g_X7_release_5 G i1 i9) μ := hM
        refine lv_aload_n F.1 F.2.1 dX7_release_171 rfl (lv_at hl 1 rfl) ?_
        refine gf_X7_47 F w hM.1 rfl dX7_release_172 ?_
        refine lv_iload_n F.1 F.2.1 dX7_release_175 rfl (lv_at hl 2 rfl) ?_
        refine lv_dup2_11 F.1 F.2.1 dX7_release_176 rfl rfl ?_
        refine m_ild F w hM 15 (by decide) rfl rfl i1 (show i1 < 12 by omega) (by decide) dX7_release_177 ?_
        refine lv_fold (y := G 15 i1) (congrFun (e_g_X7_release_5 G i1 i9 (by decide)) i1) ?_
        refine lv_iconst (v := 1) F.1 F.2.1 dX7_release_178 (by decide) ?_
        refine lv_iadd F.1 F.2.1 dX7_release_179 ?_
        refine m_ist F w hM 15 (by decide) rfl rfl i1 (show i1 < 12 by omega) (by decide) dX7_release_180 (fun H locs μ w hM => ?_)
        have hM : RepM cy m0 ad (g_X7_release_6 G i1 i9) μ := hM
        refine lv_aload_n F.1 F.2.1 dX7_release_181 rfl (lv_at hl 1 rfl) ?_
        refine gf_X7_44 F w hM.1 rfl dX7_release_182 ?_
        refine lv_iload_n F.1 F.2.1 dX7_release_185 rfl (lv_at hl 2 rfl) ?_
        refine lv_iconst (v := 0) F.1 F.2.1 dX7_release_186 (by decide) ?_
        refine m_zst F w hM 14 (by decide) rfl rfl i1 (show i1 < 12 by omega) (by decide) (Or.inl rfl) dX7_release_187 (fun H locs μ w hM => ?_)
        have hM : RepM cy m0 ad (g_X7_release_7 G i1 i9) μ := hM
        refine lv_iload_n F.1 F.2.1 dX7_release_188 rfl (lv_at hl 0 rfl) ?_
        exact q_retI (S := Unit) F hr hlk w ⟨((if_pos c_4).trans ((if_pos c_9).trans (if_neg c_10))).symm, RepM.cg hM ((if_pos c_4).trans ((if_pos c_9).trans (if_neg c_10)))⟩ dX7_release_189
    · refine lv_iconst (v := 0) F.1 F.2.1 dX7_release_75 (by decide) ?_
      exact q_retI (S := Unit) F hr hlk w ⟨((if_pos c_4).trans (if_neg c_9)).symm, RepM.cg hM ((if_pos c_4).trans (if_neg c_9))⟩ dX7_release_76
def g_X7_release_n_1 (G : GS) (i1 : Nat) : GS := up2 G 0 0 (if f_X7_isShip G (nI i1) = 0 then 1 else 2)
theorem e_g_X7_release_n_1 (G : GS) (i1 : Nat) {j : Nat} (h : j ∉ [0]) : g_X7_release_n_1 G i1 j = G j := (up2_ne (fun q => h (by rw [q]; exact List.mem_cons_self))).trans rfl
def f_X7_release_n (G : GS) (i1 : Nat) : Int32 := 0
def g_X7_release_n (G : GS) (i1 : Nat) : GS := g_X7_release_n_1 G i1
set_option maxHeartbeats 4000000 in
set_option maxRecDepth 100000 in
theorem c_X7_release_n (l : Launch) (D : va_G) (cy : Nat → ClassId) (A : Nat → Prop) (μ : MU) (m0 : Nat) (ad : Nat → Nat) (G : GS) (hM : RepM cy m0 ad G μ) (i1 : Nat) (hi1 : i1 < 12) (hb : G 13 i1 = -1) : Met l yX7_release (WS yX7_release cX7_release 3 (Option.some Jvm.ClassFile.FieldType.int)) { frames := 2, cells := 0, slots := 0, locals := 43 } (va_Pc [.ref m0, .int (nI i1)] (Wd D cy A μ)) (va_Qi (fun (r9 : Int32) (μ1 : MU) => r9 = f_X7_release_n G i1 ∧ RepM cy m0 ad (g_X7_release_n G i1) μ1) (fun μ1 t => Wd D cy A μ1 t) A) 0 0 A := by
  refine q_met (by decide) (Nat.le_of_ble_eq_true rfl) ?_
  intro p e s m below meth c F w hr hlk hnm ls hl
  have F : CallFix p m c cX7_release 3 s _ BIG RX7 := F
  have hl : lv_has ls 3 [(0, .ref m0), (1, .int (nI i1))] := hl
  refine lv_aload_n F.1 F.2.1 dX7_release_0 rfl (lv_at hl 0 rfl) ?_
  refine lv_aload_n F.1 F.2.1 dX7_release_1 rfl (lv_at hl 0 rfl) ?_
  refine lv_iload_n F.1 F.2.1 dX7_release_2 rfl (lv_at hl 1 rfl) ?_
  refine q_rV (rest := [.ref m0]) F w kV_X7_153 hd_X7_isShip (ci := 8) rfl (c_X7_isShip l D cy A _ m0 ad G hM (nI i1)) hM.1 dX7_release_3 rfl rfl hl.1 ⟨rfl, rfl, Nat.le_of_ble_eq_true rfl, Nat.le_of_ble_eq_true rfl⟩ (Nat.le_of_ble_eq_true rfl) ⟨Nat.zero_le _, Nat.zero_le _⟩ ?_
  refine jn0 (m := m) (ls := ls) (rest := [.ref m0]) (if f_X7_isShip G (nI i1) = 0 then 1 else 2) 28 (fun J_1 => ?_) ?_
  · refine lv_if_ne (tgt := 13) F.1 F.2.1 dX7_release_6 (by decide) (fun c_2 => ?_) (fun c_2 => ?_)
    · refine lv_aload_n F.1 F.2.1 dX7_release_13 rfl (lv_at hl 0 rfl) ?_
      refine gf_X7_41 F w hM.1 rfl dX7_release_14 ?_
      refine lv_iload_n F.1 F.2.1 dX7_release_17 rfl (lv_at hl 1 rfl) ?_
      refine m_ild F w hM 13 (by decide) rfl rfl i1 (show i1 < 12 by omega) (by decide) dX7_release_18 ?_
      refine lv_iconst (v := -1) F.1 F.2.1 dX7_release_19 (by decide) ?_
      refine lv_icmp_ne (tgt := 27) F.1 F.2.1 dX7_release_20 (by decide) (fun c_3 => absurd hb c_3) (fun c_3 => ?_)
      refine lv_iconst (v := 2) F.1 F.2.1 dX7_release_23 (by decide) ?_
      refine lv_goto (tgt := 28) F.1 F.2.1 dX7_release_24 (by decide) ?_
      exact jn_a (if_neg c_2) J_1
    · refine lv_iconst (v := 1) F.1 F.2.1 dX7_release_9 (by decide) ?_
      refine lv_goto (tgt := 28) F.1 F.2.1 dX7_release_10 (by decide) ?_
      exact jn_a (if_pos c_2) J_1
  refine mp_128 F w hM dX7_release_28 (fun H locs μ w hM => ?_)
  have hM : RepM cy m0 ad (g_X7_release_n_1 G i1) μ := hM
  refine lv_aload_n F.1 F.2.1 dX7_release_31 rfl (lv_at hl 0 rfl) ?_
  refine gf_X7_128 F w hM.1 rfl dX7_release_32 ?_
  refine lv_fold (y := if f_X7_isShip G (nI i1) = 0 then 1 else 2) ((congrFun (up2_eq _ _ _ _) _).trans pk_us) ?_
  refine lv_if_ne (tgt := 68) F.1 F.2.1 dX7_release_35 (by decide) (fun c_4 => ?_) (fun c_4 => absurd c_4 (by (repeat' split) <;> decide))
  refine lv_aload_n F.1 F.2.1 dX7_release_68 rfl (lv_at hl 0 rfl) ?_
  refine gf_X7_128 F w hM.1 rfl dX7_release_69 ?_
  refine lv_fold (y := if f_X7_isShip G (nI i1) = 0 then 1 else 2) ((congrFun (up2_eq _ _ _ _) _).trans pk_us) ?_
  refine lv_if_le (tgt := 77) F.1 F.2.1 dX7_release_72 (by decide) (fun c_5 => absurd c_5 (by (repeat' split) <;> decide)) (fun c_5 => ?_)
  refine lv_iconst (v := 0) F.1 F.2.1 dX7_release_75 (by decide) ?_
  exact q_retI (S := Unit) F hr hlk w ⟨rfl, RepM.cg hM rfl⟩ dX7_release_76
def g_X7_release_b_1 (G : GS) (x1 : Int32) : GS := up2 G 0 0 1
theorem e_g_X7_release_b_1 (G : GS) (x1 : Int32) {j : Nat} (h : j ∉ [0]) : g_X7_release_b_1 G x1 j = G j := (up2_ne (fun q => h (by rw [q]; exact List.mem_cons_self))).trans rfl
def f_X7_release_b (G : GS) (x1 : Int32) : Int32 := 0
def g_X7_release_b (G : GS) (x1 : Int32) : GS := g_X7_release_b_1 G x1
set_option maxHeartbeats 4000000 in
set_option maxRecDepth 100000 in
theorem c_X7_release_b (l : Launch) (D : va_G) (cy : Nat → ClassId) (A : Nat → Prop) (μ : MU) (m0 : Nat) (ad : Nat → Nat) (G : GS) (hM : RepM cy m0 ad G μ) (x1 : Int32) (hb : f_X7_isShip G x1 = 0) : Met l yX7_release (WS yX7_release cX7_release 3 (Option.some Jvm.ClassFile.FieldType.int)) { frames := 2, cells := 0, slots := 0, locals := 43 } (va_Pc [.ref m0, .int x1] (Wd D cy A μ)) (va_Qi (fun (r9 : Int32) (μ1 : MU) => r9 = f_X7_release_b G x1 ∧ RepM cy m0 ad (g_X7_release_b G x1) μ1) (fun μ1 t => Wd D cy A μ1 t) A) 0 0 A := by
  refine q_met (by decide) (Nat.le_of_ble_eq_true rfl) ?_
  intro p e s m below meth c F w hr hlk hnm ls hl
  have F : CallFix p m c cX7_release 3 s _ BIG RX7 := F
  have hl : lv_has ls 3 [(0, .ref m0), (1, .int x1)] := hl
  refine lv_aload_n F.1 F.2.1 dX7_release_0 rfl (lv_at hl 0 rfl) ?_
  refine lv_aload_n F.1 F.2.1 dX7_release_1 rfl (lv_at hl 0 rfl) ?_
  refine lv_iload_n F.1 F.2.1 dX7_release_2 rfl (lv_at hl 1 rfl) ?_
  refine q_rV (rest := [.ref m0]) F w kV_X7_153 hd_X7_isShip (ci := 8) rfl (c_X7_isShip l D cy A _ m0 ad G hM x1) hM.1 dX7_release_3 rfl rfl hl.1 ⟨rfl, rfl, Nat.le_of_ble_eq_true rfl, Nat.le_of_ble_eq_true rfl⟩ (Nat.le_of_ble_eq_true rfl) ⟨Nat.zero_le _, Nat.zero_le _⟩ ?_
  refine lv_if_ne (tgt := 13) F.1 F.2.1 dX7_release_6 (by decide) (fun c_1 => absurd hb c_1) (fun c_1 => ?_)
  refine lv_iconst (v := 1) F.1 F.2.1 dX7_release_9 (by decide) ?_
  refine lv_goto (tgt := 28) F.1 F.2.1 dX7_release_10 (by decide) ?_
  refine mp_128 F w hM dX7_release_28 (fun H locs μ w hM => ?_)
  have hM : RepM cy m0 ad (g_X7_release_b_1 G x1) μ := hM
  refine lv_aload_n F.1 F.2.1 dX7_release_31 rfl (lv_at hl 0 rfl) ?_
  refine gf_X7_128 F w hM.1 rfl dX7_release_32 ?_
  refine lv_fold (y := 1) ((congrFun (up2_eq _ _ _ _) _).trans pk_us) ?_
  refine lv_if_ne (tgt := 68) F.1 F.2.1 dX7_release_35 (by decide) (fun c_2 => ?_) (fun c_2 => absurd c_2 (by decide))
  refine lv_aload_n F.1 F.2.1 dX7_release_68 rfl (lv_at hl 0 rfl) ?_
  refine gf_X7_128 F w hM.1 rfl dX7_release_69 ?_
  refine lv_fold (y := 1) ((congrFun (up2_eq _ _ _ _) _).trans pk_us) ?_
  refine lv_if_le (tgt := 77) F.1 F.2.1 dX7_release_72 (by decide) (fun c_3 => absurd c_3 (by decide)) (fun c_3 => ?_)
  refine lv_iconst (v := 0) F.1 F.2.1 dX7_release_75 (by decide) ?_
  exact q_retI (S := Unit) F hr hlk w ⟨rfl, RepM.cg hM rfl⟩ dX7_release_76
def g_X7_appeal_1 (G : GS) (i1 : Nat) : GS := up2 G 0 0 (if f_X7_isVisit G (nI i1) = 0 then 1 else 0)
theorem e_g_X7_appeal_1 (G : GS) (i1 : Nat) {j : Nat} (h : j ∉ [0]) : g_X7_appeal_1 G i1 j = G j := (up2_ne (fun q => h (by rw [q]; exact List.mem_cons_self))).trans rfl
def v_X7_appeal_64 (G : GS) (i1 : Nat) : Int32 := if G 38 i1 = (-1) then 0 else (if G 39 i1 = 0 then (if 30 < (G 1 0) - (G 38 i1) then 0 else 1) else 0)
theorem nz_v_X7_appeal_64 (G : GS) (i1 : Nat) : nz (v_X7_appeal_64 G i1) := (nz_ite nz0 (nz_ite (nz_ite nz0 nz1) nz0))
def g_X7_appeal_2 (G : GS) (i1 : Nat) : GS := up2 (g_X7_appeal_1 G i1) 0 0 (if v_X7_appeal_64 G i1 = 0 then 2 else 0)
theorem e_g_X7_appeal_2 (G : GS) (i1 : Nat) {j : Nat} (h : j ∉ [0, 0]) : g_X7_appeal_2 G i1 j = G j := (up2_ne (fun q => h (by rw [q]; exact List.mem_cons_self))).trans (e_g_X7_appeal_1 G i1 (fun q => h (List.mem_cons_of_mem _ q)))
def g_X7_appeal_3 (G : GS) (i1 : Nat) : GS := up2 (g_X7_appeal_1 G i1) 39 i1 1
theorem e_g_X7_appeal_3 (G : GS) (i1 : Nat) {j : Nat} (h : j ∉ [39, 0]) : g_X7_appeal_3 G i1 j = G j := (up2_ne (fun q => h (by rw [q]; exact List.mem_cons_self))).trans (e_g_X7_appeal_1 G i1 (fun q => h (List.mem_cons_of_mem _ q)))
def g_X7_appeal_4 (G : GS) (i1 : Nat) : GS := up2 (g_X7_appeal_2 G i1) 39 i1 1
theorem e_g_X7_appeal_4 (G : GS) (i1 : Nat) {j : Nat} (h : j ∉ [39, 0, 0]) : g_X7_appeal_4 G i1 j = G j := (up2_ne (fun q => h (by rw [q]; exact List.mem_cons_self))).trans (e_g_X7_appeal_2 G i1 (fun q => h (List.mem_cons_of_mem _ q)))
def g_X7_appeal (G : GS) (i1 : Nat) : GS := if (if f_X7_isVisit G (nI i1) = 0 then 1 else 0 : Int32) = 0 then (if (if v_X7_appeal_64 G i1 = 0 then 2 else 0 : Int32) = 0 then g_X7_appeal_4 G i1 else g_X7_appeal_2 G i1) else (if (if f_X7_isVisit G (nI i1) = 0 then 1 else 0 : Int32) = 0 then g_X7_appeal_3 G i1 else g_X7_appeal_1 G i1)
set_option maxHeartbeats 4000000 in
set_option maxRecDepth 100000 in
theorem c_X7_appeal (l : Launch) (D : va_G) (cy : Nat → ClassId) (A : Nat → Prop) (μ : MU) (m0 : Nat) (ad : Nat → Nat) (G : GS) (hM : RepM cy m0 ad G μ) (i1 : Nat) (hi1 : i1 < 60) : Met l yX7_appeal (WS yX7_appeal cX7_appeal 3 (Option.none : Option Jvm.ClassFile.FieldType)) { frames := 2, cells := 0, slots := 0, locals := 43 } (va_Pc [.ref m0, .int (nI i1)] (Wd D cy A μ)) (va_Qv (fun μ1 : MU => RepM cy m0 ad (g_X7_appeal G i1) μ1) (fun μ1 t => Wd D cy A μ1 t) A) 0 0 A := by
  refine q_met (by decide) (Nat.le_of_ble_eq_true rfl) ?_
  intro p e s m below meth c F w hr hlk hnm ls hl
  have F : CallFix p m c cX7_appeal 3 s _ BIG RX7 := F
  have hl : lv_has ls 3 [(0, .ref m0), (1, .int (nI i1))] := hl
  refine lv_aload_n F.1 F.2.1 dX7_appeal_0 rfl (lv_at hl 0 rfl) ?_
  refine lv_aload_n F.1 F.2.1 dX7_appeal_1 rfl (lv_at hl 0 rfl) ?_
  refine lv_iload_n F.1 F.2.1 dX7_appeal_2 rfl (lv_at hl 1 rfl) ?_
  refine q_rV (rest := [.ref m0]) F w kV_X7_228 hd_X7_isVisit (ci := 8) rfl (c_X7_isVisit l D cy A _ m0 ad G hM (nI i1)) hM.1 dX7_appeal_3 rfl rfl hl.1 ⟨rfl, rfl, Nat.le_of_ble_eq_true rfl, Nat.le_of_ble_eq_true rfl⟩ (Nat.le_of_ble_eq_true rfl) ⟨Nat.zero_le _, Nat.zero_le _⟩ ?_
  refine jn0 (m := m) (ls := ls) (rest := [.ref m0]) (if f_X7_isVisit G (nI i1) = 0 then 1 else 0) 14 (fun J_1 => ?_) ?_
  · refine lv_if_eq (tgt := 13) F.1 F.2.1 dX7_appeal_6 (by decide) (fun c_2 => ?_) (fun c_2 => ?_)
    · refine lv_iconst (v := 1) F.1 F.2.1 dX7_appeal_13 (by decide) ?_
      exact jn_a (if_pos c_2) J_1
    · refine lv_iconst (v := 0) F.1 F.2.1 dX7_appeal_9 (by decide) ?_
      refine lv_goto (tgt := 14) F.1 F.2.1 dX7_appeal_10 (by decide) ?_
      exact jn_a (if_neg c_2) J_1
  refine mp_128 F w hM dX7_appeal_14 (fun H locs μ w hM => ?_)
  have hM : RepM cy m0 ad (g_X7_appeal_1 G i1) μ := hM
  refine lv_aload_n F.1 F.2.1 dX7_appeal_17 rfl (lv_at hl 0 rfl) ?_
  refine gf_X7_128 F w hM.1 rfl dX7_appeal_18 ?_
  refine lv_fold (y := if f_X7_isVisit G (nI i1) = 0 then 1 else 0) ((congrFun (up2_eq _ _ _ _) _).trans pk_us) ?_
  refine lv_if_ne (tgt := 78) F.1 F.2.1 dX7_appeal_21 (by decide) (fun c_3 => ?_) (fun c_3 => ?_)
  · refine lv_aload_n F.1 F.2.1 dX7_appeal_78 rfl (lv_at hl 0 rfl) ?_
    refine gf_X7_128 F w hM.1 rfl dX7_appeal_79 ?_
    refine lv_fold (y := if f_X7_isVisit G (nI i1) = 0 then 1 else 0) ((congrFun (up2_eq _ _ _ _) _).trans pk_us) ?_
    refine lv_if_ne (tgt := 92) F.1 F.2.1 dX7_appeal_82 (by decide) (fun c_4 => ?_) (fun c_4 => ?_)
    · exact q_retV F hr hlk w (RepM.cg hM ((if_neg c_3).trans (if_neg c_4))) dX7_appeal_92
    · refine lv_aload_n F.1 F.2.1 dX7_appeal_85 rfl (lv_at hl 0 rfl) ?_
      refine gf_X7_113 F w hM.1 rfl dX7_appeal_86 ?_
      refine lv_iload_n F.1 F.2.1 dX7_appeal_89 rfl (lv_at hl 1 rfl) ?_
      refine lv_iconst (v := 1) F.1 F.2.1 dX7_appeal_90 (by decide) ?_
      refine m_zst F w hM 39 (by decide) rfl rfl i1 (show i1 < 60 by omega) (by decide) (Or.inr rfl) dX7_appeal_91 (fun H locs μ w hM => ?_)
      have hM : RepM cy m0 ad (g_X7_appeal_3 G i1) μ := hM
      exact q_retV F hr hlk w (RepM.cg hM ((if_neg c_3).trans (if_pos c_4))) dX7_appeal_92
  · refine lv_aload_n F.1 F.2.1 dX7_appeal_24 rfl (lv_at hl 0 rfl) ?_
    refine gf_X7_110 F w hM.1 rfl dX7_appeal_25 ?_
    refine lv_iload_n F.1 F.2.1 dX7_appeal_28 rfl (lv_at hl 1 rfl) ?_
    refine m_ild F w hM 38 (by decide) rfl rfl i1 (show i1 < 60 by omega) (by decide) dX7_appeal_29 ?_
    refine lv_fold (y := G 38 i1) (congrFun (e_g_X7_appeal_1 G i1 (by decide)) i1) ?_
    refine lv_iconst (v := -1) F.1 F.2.1 dX7_appeal_30 (by decide) ?_
    refine jn0 (m := m) (ls := ls) (rest := []) (if G 38 i1 = (-1) then 0 else (if G 39 i1 = 0 then (if 30 < (G 1 0) - (G 38 i1) then 0 else 1) else 0)) 64 (fun J_5 => ?_) ?_
    · refine lv_icmp_eq (tgt := 63) F.1 F.2.1 dX7_appeal_31 (by decide) (fun c_6 => ?_) (fun c_6 => ?_)
      · refine lv_iconst (v := 0) F.1 F.2.1 dX7_appeal_63 (by decide) ?_
        exact jn_a (if_pos c_6) J_5
      · refine lv_aload_n F.1 F.2.1 dX7_appeal_34 rfl (lv_at hl 0 rfl) ?_
        refine gf_X7_113 F w hM.1 rfl dX7_appeal_35 ?_
        refine lv_iload_n F.1 F.2.1 dX7_appeal_38 rfl (lv_at hl 1 rfl) ?_
        refine m_zld F w hM 39 (by decide) rfl rfl i1 (show i1 < 60 by omega) (by decide) dX7_appeal_39 ?_
        refine lv_fold (y := G 39 i1) (congrFun (e_g_X7_appeal_1 G i1 (by decide)) i1) ?_
        refine lv_if_ne (tgt := 63) F.1 F.2.1 dX7_appeal_40 (by decide) (fun c_7 => ?_) (fun c_7 => ?_)
        · refine lv_iconst (v := 0) F.1 F.2.1 dX7_appeal_63 (by decide) ?_
          exact jn_a ((if_neg c_6).trans (if_neg c_7)) J_5
        · refine lv_aload_n F.1 F.2.1 dX7_appeal_43 rfl (lv_at hl 0 rfl) ?_
          refine gf_X7_142 F w hM.1 rfl dX7_appeal_44 ?_
          refine lv_fold (y := G 1 0) (congrFun (e_g_X7_appeal_1 G i1 (by decide)) 0) ?_
          refine lv_aload_n F.1 F.2.1 dX7_appeal_47 rfl (lv_at hl 0 rfl) ?_
          refine gf_X7_110 F w hM.1 rfl dX7_appeal_48 ?_
          refine lv_iload_n F.1 F.2.1 dX7_appeal_51 rfl (lv_at hl 1 rfl) ?_
          refine m_ild F w hM 38 (by decide) rfl rfl i1 (show i1 < 60 by omega) (by decide) dX7_appeal_52 ?_
          refine lv_fold (y := G 38 i1) (congrFun (e_g_X7_appeal_1 G i1 (by decide)) i1) ?_
          refine lv_isub F.1 F.2.1 dX7_appeal_53 ?_
          refine lv_bipush (v := 30) F.1 F.2.1 dX7_appeal_54 (by decide) ?_
          refine lv_icmp_gt (tgt := 63) F.1 F.2.1 dX7_appeal_56 (by decide) (fun c_8 => ?_) (fun c_8 => ?_)
          · refine lv_iconst (v := 0) F.1 F.2.1 dX7_appeal_63 (by decide) ?_
            exact jn_a ((if_neg c_6).trans ((if_pos c_7).trans (if_pos c_8))) J_5
          · refine lv_iconst (v := 1) F.1 F.2.1 dX7_appeal_59 (by decide) ?_
            refine lv_goto (tgt := 64) F.1 F.2.1 dX7_appeal_60 (by decide) ?_
            exact jn_a ((if_neg c_6).trans ((if_pos c_7).trans (if_neg c_8))) J_5
    refine lv_fold (y := v_X7_appeal_64 G i1) rfl ?_
    refine lv_istore_n (lv' := [(2, .int (v_X7_appeal_64 G i1)), (0, .ref m0), (1, .int (nI i1))]) F.1 F.2.1 dX7_appeal_64 rfl hl (by decide) rfl (fun ls hl => ?_)
    refine lv_aload_n F.1 F.2.1 dX7_appeal_65 rfl (lv_at hl 1 rfl) ?_
    refine lv_iload_n F.1 F.2.1 dX7_appeal_66 rfl (lv_at hl 0 rfl) ?_
    refine jn0 (m := m) (ls := ls) (rest := [.ref m0]) (if v_X7_appeal_64 G i1 = 0 then 2 else 0) 75 (fun J_9 => ?_) ?_
    · refine lv_if_eq (tgt := 74) F.1 F.2.1 dX7_appeal_67 (by decide) (fun c_10 => ?_) (fun c_10 => ?_)
      · refine lv_iconst (v := 2) F.1 F.2.1 dX7_appeal_74 (by decide) ?_
        exact jn_a (if_pos c_10) J_9
      · refine lv_iconst (v := 0) F.1 F.2.1 dX7_appeal_70 (by decide) ?_
        refine lv_goto (tgt := 75) F.1 F.2.1 dX7_appeal_71 (by decide) ?_
        exact jn_a (if_neg c_10) J_9
    refine mp_128 F w hM dX7_appeal_75 (fun H locs μ w hM => ?_)
    have hM : RepM cy m0 ad (g_X7_appeal_2 G i1) μ := hM
    refine lv_aload_n F.1 F.2.1 dX7_appeal_78 rfl (lv_at hl 1 rfl) ?_
    refine gf_X7_128 F w hM.1 rfl dX7_appeal_79 ?_
    refine lv_fold (y := if v_X7_appeal_64 G i1 = 0 then 2 else 0) ((congrFun (up2_eq _ _ _ _) _).trans pk_us) ?_
    refine lv_if_ne (tgt := 92) F.1 F.2.1 dX7_appeal_82 (by decide) (fun c_11 => ?_) (fun c_11 => ?_)
    · exact q_retV F hr hlk w (RepM.cg hM ((if_pos c_3).trans (if_neg c_11))) dX7_appeal_92
    · refine lv_aload_n F.1 F.2.1 dX7_appeal_85 rfl (lv_at hl 1 rfl) ?_
      refine gf_X7_113 F w hM.1 rfl dX7_appeal_86 ?_
      refine lv_iload_n F.1 F.2.1 dX7_appeal_89 rfl (lv_at hl 2 rfl) ?_
      refine lv_iconst (v := 1) F.1 F.2.1 dX7_appeal_90 (by decide) ?_
      refine m_zst F w hM 39 (by decide) rfl rfl i1 (show i1 < 60 by omega) (by decide) (Or.inr rfl) dX7_appeal_91 (fun H locs μ w hM => ?_)
      have hM : RepM cy m0 ad (g_X7_appeal_4 G i1) μ := hM
      exact q_retV F hr hlk w (RepM.cg hM ((if_pos c_3).trans (if_pos c_11))) dX7_appeal_92
def g_X7_appeal_b_1 (G : GS) (x1 : Int32) : GS := up2 G 0 0 1
theorem e_g_X7_appeal_b_1 (G : GS) (x1 : Int32) {j : Nat} (h : j ∉ [0]) : g_X7_appeal_b_1 G x1 j = G j := (up2_ne (fun q => h (by rw [q]; exact List.mem_cons_self))).trans rfl
def g_X7_appeal_b (G : GS) (x1 : Int32) : GS := g_X7_appeal_b_1 G x1
set_option maxHeartbeats 4000000 in
set_option maxRecDepth 100000 in
theorem c_X7_appeal_b (l : Launch) (D : va_G) (cy : Nat → ClassId) (A : Nat → Prop) (μ : MU) (m0 : Nat) (ad : Nat → Nat) (G : GS) (hM : RepM cy m0 ad G μ) (x1 : Int32) (hb : f_X7_isVisit G x1 = 0) : Met l yX7_appeal (WS yX7_appeal cX7_appeal 3 (Option.none : Option Jvm.ClassFile.FieldType)) { frames := 2, cells := 0, slots := 0, locals := 43 } (va_Pc [.ref m0, .int x1] (Wd D cy A μ)) (va_Qv (fun μ1 : MU => RepM cy m0 ad (g_X7_appeal_b G x1) μ1) (fun μ1 t => Wd D cy A μ1 t) A) 0 0 A := by
  refine q_met (by decide) (Nat.le_of_ble_eq_true rfl) ?_
  intro p e s m below meth c F w hr hlk hnm ls hl
  have F : CallFix p m c cX7_appeal 3 s _ BIG RX7 := F
  have hl : lv_has ls 3 [(0, .ref m0), (1, .int x1)] := hl
  refine lv_aload_n F.1 F.2.1 dX7_appeal_0 rfl (lv_at hl 0 rfl) ?_
  refine lv_aload_n F.1 F.2.1 dX7_appeal_1 rfl (lv_at hl 0 rfl) ?_
  refine lv_iload_n F.1 F.2.1 dX7_appeal_2 rfl (lv_at hl 1 rfl) ?_
  refine q_rV (rest := [.ref m0]) F w kV_X7_228 hd_X7_isVisit (ci := 8) rfl (c_X7_isVisit l D cy A _ m0 ad G hM x1) hM.1 dX7_appeal_3 rfl rfl hl.1 ⟨rfl, rfl, Nat.le_of_ble_eq_true rfl, Nat.le_of_ble_eq_true rfl⟩ (Nat.le_of_ble_eq_true rfl) ⟨Nat.zero_le _, Nat.zero_le _⟩ ?_
  refine lv_if_eq (tgt := 13) F.1 F.2.1 dX7_appeal_6 (by decide) (fun c_1 => ?_) (fun c_1 => absurd hb c_1)
  refine lv_iconst (v := 1) F.1 F.2.1 dX7_appeal_13 (by decide) ?_
  refine mp_128 F w hM dX7_appeal_14 (fun H locs μ w hM => ?_)
  have hM : RepM cy m0 ad (g_X7_appeal_b_1 G x1) μ := hM
  refine lv_aload_n F.1 F.2.1 dX7_appeal_17 rfl (lv_at hl 0 rfl) ?_
  refine gf_X7_128 F w hM.1 rfl dX7_appeal_18 ?_
  refine lv_fold (y := 1) ((congrFun (up2_eq _ _ _ _) _).trans pk_us) ?_
  refine lv_if_ne (tgt := 78) F.1 F.2.1 dX7_appeal_21 (by decide) (fun c_2 => ?_) (fun c_2 => absurd c_2 (by decide))
  refine lv_aload_n F.1 F.2.1 dX7_appeal_78 rfl (lv_at hl 0 rfl) ?_
  refine gf_X7_128 F w hM.1 rfl dX7_appeal_79 ?_
  refine lv_fold (y := 1) ((congrFun (up2_eq _ _ _ _) _).trans pk_us) ?_
  refine lv_if_ne (tgt := 92) F.1 F.2.1 dX7_appeal_82 (by decide) (fun c_3 => ?_) (fun c_3 => absurd c_3 (by decide))
  exact q_retV F hr hlk w (RepM.cg hM rfl) dX7_appeal_92
def g_X7_vote_1 (G : GS) (i1 : Nat) (x2 : Int32) : GS := up2 G 0 0 (if f_X7_isVisit G (nI i1) = 0 then 1 else (if G 39 i1 = 0 then 2 else (if f_X7_decided G i1 = 0 then 0 else 2)))
theorem e_g_X7_vote_1 (G : GS) (i1 : Nat) (x2 : Int32) {j : Nat} (h : j ∉ [0]) : g_X7_vote_1 G i1 x2 j = G j := (up2_ne (fun q => h (by rw [q]; exact List.mem_cons_self))).trans rfl
def g_X7_vote_2 (G : GS) (i1 : Nat) (x2 : Int32) : GS := up2 (g_X7_vote_1 G i1 x2) 40 i1 ((G 40 i1) + (if x2 = 0 then 0 else 1))
theorem e_g_X7_vote_2 (G : GS) (i1 : Nat) (x2 : Int32) {j : Nat} (h : j ∉ [40, 0]) : g_X7_vote_2 G i1 x2 j = G j := (up2_ne (fun q => h (by rw [q]; exact List.mem_cons_self))).trans (e_g_X7_vote_1 G i1 x2 (fun q => h (List.mem_cons_of_mem _ q)))
def g_X7_vote_3 (G : GS) (i1 : Nat) (x2 : Int32) : GS := up2 (g_X7_vote_2 G i1 x2) 41 i1 ((G 41 i1) + (if x2 = 0 then 1 else 0))
theorem e_g_X7_vote_3 (G : GS) (i1 : Nat) (x2 : Int32) {j : Nat} (h : j ∉ [41, 40, 0]) : g_X7_vote_3 G i1 x2 j = G j := (up2_ne (fun q => h (by rw [q]; exact List.mem_cons_self))).trans (e_g_X7_vote_2 G i1 x2 (fun q => h (List.mem_cons_of_mem _ q)))
def f_X7_vote (G : GS) (i1 : Nat) (x2 : Int32) : Int32 := if (if f_X7_isVisit G (nI i1) = 0 then 1 else (if G 39 i1 = 0 then 2 else (if f_X7_decided G i1 = 0 then 0 else 2)) : Int32) ≤ 0 then f_X7_decided (g_X7_vote_3 G i1 x2) i1 else 0
def g_X7_vote (G : GS) (i1 : Nat) (x2 : Int32) : GS := if (if f_X7_isVisit G (nI i1) = 0 then 1 else (if G 39 i1 = 0 then 2 else (if f_X7_decided G i1 = 0 then 0 else 2)) : Int32) ≤ 0 then g_X7_vote_3 G i1 x2 else g_X7_vote_1 G i1 x2
set_option maxHeartbeats 4000000 in
set_option maxRecDepth 100000 in
theorem c_X7_vote (l : Launch) (D : va_G) (cy : Nat → ClassId) (A : Nat → Prop) (μ : MU) (m0 : Nat) (ad : Nat → Nat) (G : GS) (hM : RepM cy m0 ad G μ) (i1 : Nat) (x2 : Int32) (hi1 : i1 < 60) : Met l yX7_vote (WS yX7_vote cX7_vote 3 (Option.some Jvm.ClassFile.FieldType.int)) { frames := 2, cells := 0, slots := 0, locals := 43 } (va_Pc [.ref m0, .int (nI i1), .int x2] (Wd D cy A μ)) (va_Qi (fun (r9 : Int32) (μ1 : MU) => r9 = f_X7_vote G i1 x2 ∧ RepM cy m0 ad (g_X7_vote G i1 x2) μ1) (fun μ1 t => Wd D cy A μ1 t) A) 0 0 A := by
  refine q_met (by decide) (Nat.le_of_ble_eq_true rfl) ?_
  intro p e s m below meth c F w hr hlk hnm ls hl
  have F : CallFix p m c cX7_vote 3 s _ BIG RX7 := F
  have hl : lv_has ls 3 [(0, .ref m0), (1, .int (nI i1)), (2, .int x2)] := hl
  refine lv_aload_n F.1 F.2.1 dX7_vote_0 rfl (lv_at hl 0 rfl) ?_
  refine lv_aload_n F.1 F.2.1 dX7_vote_1 rfl (lv_at hl 0 rfl) ?_
  refine lv_iload_n F.1 F.2.1 dX7_vote_2 rfl (lv_at hl 1 rfl) ?_
  refine q_rV (rest := [.ref m0]) F w kV_X7_228 hd_X7_isVisit (ci := 8) rfl (c_X7_isVisit l D cy A _ m0 ad G hM (nI i1)) hM.1 dX7_vote_3 rfl rfl hl.1 ⟨rfl, rfl, Nat.le_of_ble_eq_true rfl, Nat.le_of_ble_eq_true rfl⟩ (Nat.le_of_ble_eq_true rfl) ⟨Nat.zero_le _, Nat.zero_le _⟩ ?_
  refine jn0 (m := m) (ls := ls) (rest := [.ref m0]) (if f_X7_isVisit G (nI i1) = 0 then 1 else (if G 39 i1 = 0 then 2 else (if f_X7_decided G i1 = 0 then 0 else 2))) 35 (fun J_1 => ?_) ?_
  · refine lv_if_ne (tgt := 13) F.1 F.2.1 dX7_vote_6 (by decide) (fun c_2 => ?_) (fun c_2 => ?_)
    · refine lv_aload_n F.1 F.2.1 dX7_vote_13 rfl (lv_at hl 0 rfl) ?_
      refine gf_X7_113 F w hM.1 rfl dX7_vote_14 ?_
      refine lv_iload_n F.1 F.2.1 dX7_vote_17 rfl (lv_at hl 1 rfl) ?_
      refine m_zld F w hM 39 (by decide) rfl rfl i1 (show i1 < 60 by omega) (by decide) dX7_vote_18 ?_
      refine lv_if_eq (tgt := 34) F.1 F.2.1 dX7_vote_19 (by decide) (fun c_3 => ?_) (fun c_3 => ?_)
      · refine lv_iconst (v := 2) F.1 F.2.1 dX7_vote_34 (by decide) ?_
        exact jn_a ((if_neg c_2).trans (if_pos c_3)) J_1
      · refine lv_aload_n F.1 F.2.1 dX7_vote_22 rfl (lv_at hl 0 rfl) ?_
        refine lv_iload_n F.1 F.2.1 dX7_vote_23 rfl (lv_at hl 1 rfl) ?_
        refine q_rV (rest := [.ref m0]) F w kV_X7_248 hd_X7_decided (ci := 8) rfl (c_X7_decided l D cy A _ m0 ad G hM i1 (show i1 < 60 by omega)) hM.1 dX7_vote_24 rfl rfl hl.1 ⟨rfl, rfl, Nat.le_of_ble_eq_true rfl, Nat.le_of_ble_eq_true rfl⟩ (Nat.le_of_ble_eq_true rfl) ⟨Nat.zero_le _, Nat.zero_le _⟩ ?_
        refine lv_if_ne (tgt := 34) F.1 F.2.1 dX7_vote_27 (by decide) (fun c_4 => ?_) (fun c_4 => ?_)
        · refine lv_iconst (v := 2) F.1 F.2.1 dX7_vote_34 (by decide) ?_
          exact jn_a ((if_neg c_2).trans ((if_neg c_3).trans (if_neg c_4))) J_1
        · refine lv_iconst (v := 0) F.1 F.2.1 dX7_vote_30 (by decide) ?_
          refine lv_goto (tgt := 35) F.1 F.2.1 dX7_vote_31 (by decide) ?_
          exact jn_a ((if_neg c_2).trans ((if_neg c_3).trans (if_pos c_4))) J_1
    · refine lv_iconst (v := 1) F.1 F.2.1 dX7_vote_9 (by decide) ?_
      refine lv_goto (tgt := 35) F.1 F.2.1 dX7_vote_10 (by decide) ?_
      exact jn_a (if_pos c_2) J_1
  refine mp_128 F w hM dX7_vote_35 (fun H locs μ w hM => ?_)
  have hM : RepM cy m0 ad (g_X7_vote_1 G i1 x2) μ := hM
  refine lv_aload_n F.1 F.2.1 dX7_vote_38 rfl (lv_at hl 0 rfl) ?_
  refine gf_X7_128 F w hM.1 rfl dX7_vote_39 ?_
  refine lv_fold (y := if f_X7_isVisit G (nI i1) = 0 then 1 else (if G 39 i1 = 0 then 2 else (if f_X7_decided G i1 = 0 then 0 else 2))) ((congrFun (up2_eq _ _ _ _) _).trans pk_us) ?_
  refine lv_if_le (tgt := 47) F.1 F.2.1 dX7_vote_42 (by decide) (fun c_5 => ?_) (fun c_5 => ?_)
  · refine lv_aload_n F.1 F.2.1 dX7_vote_47 rfl (lv_at hl 0 rfl) ?_
    refine gf_X7_116 F w hM.1 rfl dX7_vote_48 ?_
    refine lv_iload_n F.1 F.2.1 dX7_vote_51 rfl (lv_at hl 1 rfl) ?_
    refine lv_dup2_11 F.1 F.2.1 dX7_vote_52 rfl rfl ?_
    refine m_ild F w hM 40 (by decide) rfl rfl i1 (show i1 < 60 by omega) (by decide) dX7_vote_53 ?_
    refine lv_fold (y := G 40 i1) (congrFun (e_g_X7_vote_1 G i1 x2 (by decide)) i1) ?_
    refine lv_iload_n F.1 F.2.1 dX7_vote_54 rfl (lv_at hl 2 rfl) ?_
    refine jn0 (m := m) (ls := ls) (rest := [.int (G 40 i1), .int (nI i1), .ref (ad 40)]) (if x2 = 0 then 0 else 1) 63 (fun J_6 => ?_) ?_
    · refine lv_if_eq (tgt := 62) F.1 F.2.1 dX7_vote_55 (by decide) (fun c_7 => ?_) (fun c_7 => ?_)
      · refine lv_iconst (v := 0) F.1 F.2.1 dX7_vote_62 (by decide) ?_
        exact jn_a (if_pos c_7) J_6
      · refine lv_iconst (v := 1) F.1 F.2.1 dX7_vote_58 (by decide) ?_
        refine lv_goto (tgt := 63) F.1 F.2.1 dX7_vote_59 (by decide) ?_
        exact jn_a (if_neg c_7) J_6
    refine lv_iadd F.1 F.2.1 dX7_vote_63 ?_
    refine m_ist F w hM 40 (by decide) rfl rfl i1 (show i1 < 60 by omega) (by decide) dX7_vote_64 (fun H locs μ w hM => ?_)
    have hM : RepM cy m0 ad (g_X7_vote_2 G i1 x2) μ := hM
    refine lv_aload_n F.1 F.2.1 dX7_vote_65 rfl (lv_at hl 0 rfl) ?_
    refine gf_X7_119 F w hM.1 rfl dX7_vote_66 ?_
    refine lv_iload_n F.1 F.2.1 dX7_vote_69 rfl (lv_at hl 1 rfl) ?_
    refine lv_dup2_11 F.1 F.2.1 dX7_vote_70 rfl rfl ?_
    refine m_ild F w hM 41 (by decide) rfl rfl i1 (show i1 < 60 by omega) (by decide) dX7_vote_71 ?_
    refine lv_fold (y := G 41 i1) (congrFun (e_g_X7_vote_2 G i1 x2 (by decide)) i1) ?_
    refine lv_iload_n F.1 F.2.1 dX7_vote_72 rfl (lv_at hl 2 rfl) ?_
    refine jn0 (m := m) (ls := ls) (rest := [.int (G 41 i1), .int (nI i1), .ref (ad 41)]) (if x2 = 0 then 1 else 0) 81 (fun J_8 => ?_) ?_
    · refine lv_if_eq (tgt := 80) F.1 F.2.1 dX7_vote_73 (by decide) (fun c_9 => ?_) (fun c_9 => ?_)
      · refine lv_iconst (v := 1) F.1 F.2.1 dX7_vote_80 (by decide) ?_
        exact jn_a (if_pos c_9) J_8
      · refine lv_iconst (v := 0) F.1 F.2.1 dX7_vote_76 (by decide) ?_
        refine lv_goto (tgt := 81) F.1 F.2.1 dX7_vote_77 (by decide) ?_
        exact jn_a (if_neg c_9) J_8
    refine lv_iadd F.1 F.2.1 dX7_vote_81 ?_
    refine m_ist F w hM 41 (by decide) rfl rfl i1 (show i1 < 60 by omega) (by decide) dX7_vote_82 (fun H locs μ w hM => ?_)
    have hM : RepM cy m0 ad (g_X7_vote_3 G i1 x2) μ := hM
    refine lv_aload_n F.1 F.2.1 dX7_vote_83 rfl (lv_at hl 0 rfl) ?_
    refine lv_iload_n F.1 F.2.1 dX7_vote_84 rfl (lv_at hl 1 rfl) ?_
    refine q_rV (rest := []) F w kV_X7_248 hd_X7_decided (ci := 8) rfl (c_X7_decided l D cy A _ m0 ad (g_X7_vote_3 G i1 x2) hM i1 (show i1 < 60 by omega)) hM.1 dX7_vote_85 rfl rfl hl.1 ⟨rfl, rfl, Nat.le_of_ble_eq_true rfl, Nat.le_of_ble_eq_true rfl⟩ (Nat.le_of_ble_eq_true rfl) ⟨Nat.zero_le _, Nat.zero_le _⟩ ?_
    exact q_retI (S := Unit) F hr hlk w ⟨(if_pos c_5).symm, RepM.cg hM (if_pos c_5)⟩ dX7_vote_88
  · refine lv_iconst (v := 0) F.1 F.2.1 dX7_vote_45 (by decide) ?_
    exact q_retI (S := Unit) F hr hlk w ⟨(if_neg c_5).symm, RepM.cg hM (if_neg c_5)⟩ dX7_vote_46
def g_X7_vote_b_1 (G : GS) (x1 : Int32) (x2 : Int32) : GS := up2 G 0 0 1
theorem e_g_X7_vote_b_1 (G : GS) (x1 : Int32) (x2 : Int32) {j : Nat} (h : j ∉ [0]) : g_X7_vote_b_1 G x1 x2 j = G j := (up2_ne (fun q => h (by rw [q]; exact List.mem_cons_self))).trans rfl
def f_X7_vote_b (G : GS) (x1 : Int32) (x2 : Int32) : Int32 := 0
def g_X7_vote_b (G : GS) (x1 : Int32) (x2 : Int32) : GS := g_X7_vote_b_1 G x1 x2
set_option maxHeartbeats 4000000 in
set_option maxRecDepth 100000 in
theorem c_X7_vote_b (l : Launch) (D : va_G) (cy : Nat → ClassId) (A : Nat → Prop) (μ : MU) (m0 : Nat) (ad : Nat → Nat) (G : GS) (hM : RepM cy m0 ad G μ) (x1 : Int32) (x2 : Int32) (hb : f_X7_isVisit G x1 = 0) : Met l yX7_vote (WS yX7_vote cX7_vote 3 (Option.some Jvm.ClassFile.FieldType.int)) { frames := 2, cells := 0, slots := 0, locals := 43 } (va_Pc [.ref m0, .int x1, .int x2] (Wd D cy A μ)) (va_Qi (fun (r9 : Int32) (μ1 : MU) => r9 = f_X7_vote_b G x1 x2 ∧ RepM cy m0 ad (g_X7_vote_b G x1 x2) μ1) (fun μ1 t => Wd D cy A μ1 t) A) 0 0 A := by
  refine q_met (by decide) (Nat.le_of_ble_eq_true rfl) ?_
  intro p e s m below meth c F w hr hlk hnm ls hl
  have F : CallFix p m c cX7_vote 3 s _ BIG RX7 := F
  have hl : lv_has ls 3 [(0, .ref m0), (1, .int x1), (2, .int x2)] := hl
  refine lv_aload_n F.1 F.2.1 dX7_vote_0 rfl (lv_at hl 0 rfl) ?_
  refine lv_aload_n F.1 F.2.1 dX7_vote_1 rfl (lv_at hl 0 rfl) ?_
  refine lv_iload_n F.1 F.2.1 dX7_vote_2 rfl (lv_at hl 1 rfl) ?_
  refine q_rV (rest := [.ref m0]) F w kV_X7_228 hd_X7_isVisit (ci := 8) rfl (c_X7_isVisit l D cy A _ m0 ad G hM x1) hM.1 dX7_vote_3 rfl rfl hl.1 ⟨rfl, rfl, Nat.le_of_ble_eq_true rfl, Nat.le_of_ble_eq_true rfl⟩ (Nat.le_of_ble_eq_true rfl) ⟨Nat.zero_le _, Nat.zero_le _⟩ ?_
  refine lv_if_ne (tgt := 13) F.1 F.2.1 dX7_vote_6 (by decide) (fun c_1 => absurd hb c_1) (fun c_1 => ?_)
  refine lv_iconst (v := 1) F.1 F.2.1 dX7_vote_9 (by decide) ?_
  refine lv_goto (tgt := 35) F.1 F.2.1 dX7_vote_10 (by decide) ?_
  refine mp_128 F w hM dX7_vote_35 (fun H locs μ w hM => ?_)
  have hM : RepM cy m0 ad (g_X7_vote_b_1 G x1 x2) μ := hM
  refine lv_aload_n F.1 F.2.1 dX7_vote_38 rfl (lv_at hl 0 rfl) ?_
  refine gf_X7_128 F w hM.1 rfl dX7_vote_39 ?_
  refine lv_fold (y := 1) ((congrFun (up2_eq _ _ _ _) _).trans pk_us) ?_
  refine lv_if_le (tgt := 47) F.1 F.2.1 dX7_vote_42 (by decide) (fun c_2 => absurd c_2 (by decide)) (fun c_2 => ?_)
  refine lv_iconst (v := 0) F.1 F.2.1 dX7_vote_45 (by decide) ?_
  exact q_retI (S := Unit) F hr hlk w ⟨rfl, RepM.cg hM rfl⟩ dX7_vote_46
def g_X7_ofShip_1 (G : GS) (i1 : Nat) (x2 : Int32) : GS := up2 G 0 0 (if f_X7_isShip G (nI i1) = 0 then 1 else (if f_X7_in x2 0 7 = 0 then 2 else 0))
theorem e_g_X7_ofShip_1 (G : GS) (i1 : Nat) (x2 : Int32) {j : Nat} (h : j ∉ [0]) : g_X7_ofShip_1 G i1 x2 j = G j := (up2_ne (fun q => h (by rw [q]; exact List.mem_cons_self))).trans rfl
def f_X7_ofShip (G : GS) (i1 : Nat) (x2 : Int32) : Int32 := if (if f_X7_isShip G (nI i1) = 0 then 1 else (if f_X7_in x2 0 7 = 0 then 2 else 0) : Int32) ≤ 0 then (if x2 = 0 then f_X7_pointsOf (g_X7_ofShip_1 G i1 x2) i1 else (if x2 = 1 then f_X7_riskOf (g_X7_ofShip_1 G i1 x2) i1 else (if x2 = 2 then f_X7_priorityOf (g_X7_ofShip_1 G i1 x2) i1 else (if x2 = 3 then G 10 i1 else (if x2 = 4 then (if G 13 i1 = (-1) then 0 else 1) else (if x2 = 5 then (if f_X7_isBanned (g_X7_ofShip_1 G i1 x2) i1 = 0 then 0 else 1) else (if x2 = 6 then G 17 i1 else f_X7_lapsedOf (g_X7_ofShip_1 G i1 x2) i1))))))) else 0
def g_X7_ofShip (G : GS) (i1 : Nat) (x2 : Int32) : GS := if (if f_X7_isShip G (nI i1) = 0 then 1 else (if f_X7_in x2 0 7 = 0 then 2 else 0) : Int32) ≤ 0 then (if x2 = 0 then g_X7_ofShip_1 G i1 x2 else (if x2 = 1 then g_X7_ofShip_1 G i1 x2 else (if x2 = 2 then g_X7_ofShip_1 G i1 x2 else (if x2 = 3 then g_X7_ofShip_1 G i1 x2 else (if x2 = 4 then g_X7_ofShip_1 G i1 x2 else (if x2 = 5 then g_X7_ofShip_1 G i1 x2 else (if x2 = 6 then g_X7_ofShip_1 G i1 x2 else g_X7_ofShip_1 G i1 x2))))))) else g_X7_ofShip_1 G i1 x2
set_option maxHeartbeats 4000000 in
set_option maxRecDepth 100000 in
theorem c_X7_ofShip (l : Launch) (D : va_G) (cy : Nat → ClassId) (A : Nat → Prop) (μ : MU) (m0 : Nat) (ad : Nat → Nat) (G : GS) (hM : RepM cy m0 ad G μ) (i1 : Nat) (x2 : Int32) (hi1 : i1 < 12) (hI : InvM G) : Met l yX7_ofShip (WS yX7_ofShip cX7_ofShip 3 (Option.some Jvm.ClassFile.FieldType.int)) { frames := 5, cells := 0, slots := 0, locals := 117 } (va_Pc [.ref m0, .int (nI i1), .int x2] (Wd D cy A μ)) (va_Qi (fun (r9 : Int32) (μ1 : MU) => r9 = f_X7_ofShip G i1 x2 ∧ RepM cy m0 ad (g_X7_ofShip G i1 x2) μ1) (fun μ1 t => Wd D cy A μ1 t) A) 0 0 A := by
  refine q_met (by decide) (Nat.le_of_ble_eq_true rfl) ?_
  intro p e s m below meth c F w hr hlk hnm ls hl
  have F : CallFix p m c cX7_ofShip 3 s _ BIG RX7 := F
  have hl : lv_has ls 3 [(0, .ref m0), (1, .int (nI i1)), (2, .int x2)] := hl
  refine lv_aload_n F.1 F.2.1 dX7_ofShip_0 rfl (lv_at hl 0 rfl) ?_
  refine lv_aload_n F.1 F.2.1 dX7_ofShip_1 rfl (lv_at hl 0 rfl) ?_
  refine lv_iload_n F.1 F.2.1 dX7_ofShip_2 rfl (lv_at hl 1 rfl) ?_
  refine q_rV (rest := [.ref m0]) F w kV_X7_153 hd_X7_isShip (ci := 8) rfl (c_X7_isShip l D cy A _ m0 ad G hM (nI i1)) hM.1 dX7_ofShip_3 rfl rfl hl.1 ⟨rfl, rfl, Nat.le_of_ble_eq_true rfl, Nat.le_of_ble_eq_true rfl⟩ (Nat.le_of_ble_eq_true rfl) ⟨Nat.zero_le _, Nat.zero_le _⟩ ?_
  refine jn0 (m := m) (ls := ls) (rest := [.ref m0]) (if f_X7_isShip G (nI i1) = 0 then 1 else (if f_X7_in x2 0 7 = 0 then 2 else 0)) 28 (fun J_1 => ?_) ?_
  · refine lv_if_ne (tgt := 13) F.1 F.2.1 dX7_ofShip_6 (by decide) (fun c_2 => ?_) (fun c_2 => ?_)
    · refine lv_iload_n F.1 F.2.1 dX7_ofShip_13 rfl (lv_at hl 2 rfl) ?_
      refine lv_iconst (v := 0) F.1 F.2.1 dX7_ofShip_14 (by decide) ?_
      refine lv_bipush (v := 7) F.1 F.2.1 dX7_ofShip_15 (by decide) ?_
      refine q_rS (rest := [.ref m0]) F w kS_X7_135 hd_X7_in (c_X7_in l D cy A _ x2 0 7) dX7_ofShip_17 rfl rfl hl.1 ⟨rfl, rfl, Nat.le_of_ble_eq_true rfl, Nat.le_of_ble_eq_true rfl⟩ (Nat.le_of_ble_eq_true rfl) ⟨Nat.zero_le _, Nat.zero_le _⟩ ?_
      refine lv_if_eq (tgt := 27) F.1 F.2.1 dX7_ofShip_20 (by decide) (fun c_3 => ?_) (fun c_3 => ?_)
      · refine lv_iconst (v := 2) F.1 F.2.1 dX7_ofShip_27 (by decide) ?_
        exact jn_a ((if_neg c_2).trans (if_pos c_3)) J_1
      · refine lv_iconst (v := 0) F.1 F.2.1 dX7_ofShip_23 (by decide) ?_
        refine lv_goto (tgt := 28) F.1 F.2.1 dX7_ofShip_24 (by decide) ?_
        exact jn_a ((if_neg c_2).trans (if_neg c_3)) J_1
    · refine lv_iconst (v := 1) F.1 F.2.1 dX7_ofShip_9 (by decide) ?_
      refine lv_goto (tgt := 28) F.1 F.2.1 dX7_ofShip_10 (by decide) ?_
      exact jn_a (if_pos c_2) J_1
  refine mp_128 F w hM dX7_ofShip_28 (fun H locs μ w hM => ?_)
  have hM : RepM cy m0 ad (g_X7_ofShip_1 G i1 x2) μ := hM
  refine lv_aload_n F.1 F.2.1 dX7_ofShip_31 rfl (lv_at hl 0 rfl) ?_
  refine gf_X7_128 F w hM.1 rfl dX7_ofShip_32 ?_
  refine lv_fold (y := if f_X7_isShip G (nI i1) = 0 then 1 else (if f_X7_in x2 0 7 = 0 then 2 else 0)) ((congrFun (up2_eq _ _ _ _) _).trans pk_us) ?_
  refine lv_if_le (tgt := 40) F.1 F.2.1 dX7_ofShip_35 (by decide) (fun c_4 => ?_) (fun c_4 => ?_)
  · refine lv_iload_n F.1 F.2.1 dX7_ofShip_40 rfl (lv_at hl 2 rfl) ?_
    by_cases c_5 : x2 = 0
    · refine lv_tableIn (tgt := 84) F.1 F.2.1 dX7_ofShip_41 (by rw [c_5]; decide) (by rw [c_5]; decide) (by rw [c_5]; rfl) (by decide) ?_
      refine lv_aload_n F.1 F.2.1 dX7_ofShip_84 rfl (lv_at hl 0 rfl) ?_
      refine lv_iload_n F.1 F.2.1 dX7_ofShip_85 rfl (lv_at hl 1 rfl) ?_
      refine q_rV (rest := []) F w kV_X7_207 hd_X7_pointsOf (ci := 8) rfl (c_X7_pointsOf l D cy A _ m0 ad (g_X7_ofShip_1 G i1 x2) hM i1 (show i1 < 12 by omega) (InvM.fr hI 0 0 (if f_X7_isShip G (nI i1) = 0 then 1 else (if f_X7_in x2 0 7 = 0 then 2 else 0)) rfl)) hM.1 dX7_ofShip_86 rfl rfl hl.1 ⟨rfl, rfl, Nat.le_of_ble_eq_true rfl, Nat.le_of_ble_eq_true rfl⟩ (Nat.le_of_ble_eq_true rfl) ⟨Nat.zero_le _, Nat.zero_le _⟩ ?_
      exact q_retI (S := Unit) F hr hlk w ⟨((if_pos c_4).trans (if_pos c_5)).symm, RepM.cg hM ((if_pos c_4).trans (if_pos c_5))⟩ dX7_ofShip_89
    · by_cases c_6 : x2 = 1
      · refine lv_tableIn (tgt := 90) F.1 F.2.1 dX7_ofShip_41 (by rw [c_6]; decide) (by rw [c_6]; decide) (by rw [c_6]; rfl) (by decide) ?_
        refine lv_aload_n F.1 F.2.1 dX7_ofShip_90 rfl (lv_at hl 0 rfl) ?_
        refine lv_iload_n F.1 F.2.1 dX7_ofShip_91 rfl (lv_at hl 1 rfl) ?_
        refine q_rV (rest := []) F w kV_X7_210 hd_X7_riskOf (ci := 8) rfl (c_X7_riskOf l D cy A _ m0 ad (g_X7_ofShip_1 G i1 x2) hM i1 (show i1 < 12 by omega) (InvM.fr hI 0 0 (if f_X7_isShip G (nI i1) = 0 then 1 else (if f_X7_in x2 0 7 = 0 then 2 else 0)) rfl)) hM.1 dX7_ofShip_92 rfl rfl hl.1 ⟨rfl, rfl, Nat.le_of_ble_eq_true rfl, Nat.le_of_ble_eq_true rfl⟩ (Nat.le_of_ble_eq_true rfl) ⟨Nat.zero_le _, Nat.zero_le _⟩ ?_
        exact q_retI (S := Unit) F hr hlk w ⟨((if_pos c_4).trans ((if_neg c_5).trans (if_pos c_6))).symm, RepM.cg hM ((if_pos c_4).trans ((if_neg c_5).trans (if_pos c_6)))⟩ dX7_ofShip_95
      · by_cases c_7 : x2 = 2
        · refine lv_tableIn (tgt := 96) F.1 F.2.1 dX7_ofShip_41 (by rw [c_7]; decide) (by rw [c_7]; decide) (by rw [c_7]; rfl) (by decide) ?_
          refine lv_aload_n F.1 F.2.1 dX7_ofShip_96 rfl (lv_at hl 0 rfl) ?_
          refine lv_iload_n F.1 F.2.1 dX7_ofShip_97 rfl (lv_at hl 1 rfl) ?_
          refine q_rV (rest := []) F w kV_X7_219 hd_X7_priorityOf (ci := 8) rfl (c_X7_priorityOf l D cy A _ m0 ad (g_X7_ofShip_1 G i1 x2) hM i1 (show i1 < 12 by omega) (InvM.fr hI 0 0 (if f_X7_isShip G (nI i1) = 0 then 1 else (if f_X7_in x2 0 7 = 0 then 2 else 0)) rfl)) hM.1 dX7_ofShip_98 rfl rfl hl.1 ⟨rfl, rfl, Nat.le_of_ble_eq_true rfl, Nat.le_of_ble_eq_true rfl⟩ (Nat.le_of_ble_eq_true rfl) ⟨Nat.zero_le _, Nat.zero_le _⟩ ?_
          exact q_retI (S := Unit) F hr hlk w ⟨((if_pos c_4).trans ((if_neg c_5).trans ((if_neg c_6).trans (if_pos c_7)))).symm, RepM.cg hM ((if_pos c_4).trans ((if_neg c_5).trans ((if_neg c_6).trans (if_pos c_7))))⟩ dX7_ofShip_101
        · by_cases c_8 : x2 = 3
          · refine lv_tableIn (tgt := 102) F.1 F.2.1 dX7_ofShip_41 (by rw [c_8]; decide) (by rw [c_8]; decide) (by rw [c_8]; rfl) (by decide) ?_
            refine lv_aload_n F.1 F.2.1 dX7_ofShip_102 rfl (lv_at hl 0 rfl) ?_
            refine gf_X7_32 F w hM.1 rfl dX7_ofShip_103 ?_
            refine lv_iload_n F.1 F.2.1 dX7_ofShip_106 rfl (lv_at hl 1 rfl) ?_
            refine m_ild F w hM 10 (by decide) rfl rfl i1 (show i1 < 12 by omega) (by decide) dX7_ofShip_107 ?_
            refine lv_fold (y := G 10 i1) (congrFun (e_g_X7_ofShip_1 G i1 x2 (by decide)) i1) ?_
            exact q_retI (S := Unit) F hr hlk w ⟨((if_pos c_4).trans ((if_neg c_5).trans ((if_neg c_6).trans ((if_neg c_7).trans (if_pos c_8))))).symm, RepM.cg hM ((if_pos c_4).trans ((if_neg c_5).trans ((if_neg c_6).trans ((if_neg c_7).trans (if_pos c_8)))))⟩ dX7_ofShip_108
          · by_cases c_9 : x2 = 4
            · refine lv_tableIn (tgt := 109) F.1 F.2.1 dX7_ofShip_41 (by rw [c_9]; decide) (by rw [c_9]; decide) (by rw [c_9]; rfl) (by decide) ?_
              refine lv_aload_n F.1 F.2.1 dX7_ofShip_109 rfl (lv_at hl 0 rfl) ?_
              refine gf_X7_41 F w hM.1 rfl dX7_ofShip_110 ?_
              refine lv_iload_n F.1 F.2.1 dX7_ofShip_113 rfl (lv_at hl 1 rfl) ?_
              refine m_ild F w hM 13 (by decide) rfl rfl i1 (show i1 < 12 by omega) (by decide) dX7_ofShip_114 ?_
              refine lv_fold (y := G 13 i1) (congrFun (e_g_X7_ofShip_1 G i1 x2 (by decide)) i1) ?_
              refine lv_iconst (v := -1) F.1 F.2.1 dX7_ofShip_115 (by decide) ?_
              refine jn0 (m := m) (ls := ls) (rest := []) (if G 13 i1 = (-1) then 0 else 1) 124 (fun J_10 => ?_) ?_
              · refine lv_icmp_ne (tgt := 123) F.1 F.2.1 dX7_ofShip_116 (by decide) (fun c_11 => ?_) (fun c_11 => ?_)
                · refine lv_iconst (v := 1) F.1 F.2.1 dX7_ofShip_123 (by decide) ?_
                  exact jn_a (if_neg c_11) J_10
                · refine lv_iconst (v := 0) F.1 F.2.1 dX7_ofShip_119 (by decide) ?_
                  refine lv_goto (tgt := 124) F.1 F.2.1 dX7_ofShip_120 (by decide) ?_
                  exact jn_a (if_pos c_11) J_10
              exact q_retI (S := Unit) F hr hlk w ⟨((if_pos c_4).trans ((if_neg c_5).trans ((if_neg c_6).trans ((if_neg c_7).trans ((if_neg c_8).trans (if_pos c_9)))))).symm, RepM.cg hM ((if_pos c_4).trans ((if_neg c_5).trans ((if_neg c_6).trans ((if_neg c_7).trans ((if_neg c_8).trans (if_pos c_9))))))⟩ dX7_ofShip_124
            · by_cases c_12 : x2 = 5
              · refine lv_tableIn (tgt := 125) F.1 F.2.1 dX7_ofShip_41 (by rw [c_12]; decide) (by rw [c_12]; decide) (by rw [c_12]; rfl) (by decide) ?_
                refine lv_aload_n F.1 F.2.1 dX7_ofShip_125 rfl (lv_at hl 0 rfl) ?_
                refine lv_iload_n F.1 F.2.1 dX7_ofShip_126 rfl (lv_at hl 1 rfl) ?_
                refine q_rV (rest := []) F w kV_X7_216 hd_X7_isBanned (ci := 8) rfl (c_X7_isBanned l D cy A _ m0 ad (g_X7_ofShip_1 G i1 x2) hM i1 (show i1 < 12 by omega)) hM.1 dX7_ofShip_127 rfl rfl hl.1 ⟨rfl, rfl, Nat.le_of_ble_eq_true rfl, Nat.le_of_ble_eq_true rfl⟩ (Nat.le_of_ble_eq_true rfl) ⟨Nat.zero_le _, Nat.zero_le _⟩ ?_
                refine jn0 (m := m) (ls := ls) (rest := []) (if f_X7_isBanned (g_X7_ofShip_1 G i1 x2) i1 = 0 then 0 else 1) 138 (fun J_13 => ?_) ?_
                · refine lv_if_eq (tgt := 137) F.1 F.2.1 dX7_ofShip_130 (by decide) (fun c_14 => ?_) (fun c_14 => ?_)
                  · refine lv_iconst (v := 0) F.1 F.2.1 dX7_ofShip_137 (by decide) ?_
                    exact jn_a (if_pos c_14) J_13
                  · refine lv_iconst (v := 1) F.1 F.2.1 dX7_ofShip_133 (by decide) ?_
                    refine lv_goto (tgt := 138) F.1 F.2.1 dX7_ofShip_134 (by decide) ?_
                    exact jn_a (if_neg c_14) J_13
                exact q_retI (S := Unit) F hr hlk w ⟨((if_pos c_4).trans ((if_neg c_5).trans ((if_neg c_6).trans ((if_neg c_7).trans ((if_neg c_8).trans ((if_neg c_9).trans (if_pos c_12))))))).symm, RepM.cg hM ((if_pos c_4).trans ((if_neg c_5).trans ((if_neg c_6).trans ((if_neg c_7).trans ((if_neg c_8).trans ((if_neg c_9).trans (if_pos c_12)))))))⟩ dX7_ofShip_138
              · by_cases c_15 : x2 = 6
                · refine lv_tableIn (tgt := 139) F.1 F.2.1 dX7_ofShip_41 (by rw [c_15]; decide) (by rw [c_15]; decide) (by rw [c_15]; rfl) (by decide) ?_
                  refine lv_aload_n F.1 F.2.1 dX7_ofShip_139 rfl (lv_at hl 0 rfl) ?_
                  refine gf_X7_53 F w hM.1 rfl dX7_ofShip_140 ?_
                  refine lv_iload_n F.1 F.2.1 dX7_ofShip_143 rfl (lv_at hl 1 rfl) ?_
                  refine m_ild F w hM 17 (by decide) rfl rfl i1 (show i1 < 12 by omega) (by decide) dX7_ofShip_144 ?_
                  refine lv_fold (y := G 17 i1) (congrFun (e_g_X7_ofShip_1 G i1 x2 (by decide)) i1) ?_
                  exact q_retI (S := Unit) F hr hlk w ⟨((if_pos c_4).trans ((if_neg c_5).trans ((if_neg c_6).trans ((if_neg c_7).trans ((if_neg c_8).trans ((if_neg c_9).trans ((if_neg c_12).trans (if_pos c_15)))))))).symm, RepM.cg hM ((if_pos c_4).trans ((if_neg c_5).trans ((if_neg c_6).trans ((if_neg c_7).trans ((if_neg c_8).trans ((if_neg c_9).trans ((if_neg c_12).trans (if_pos c_15))))))))⟩ dX7_ofShip_145
                · refine lv_tableOut (tgt := 146) F.1 F.2.1 dX7_ofShip_41 (by have q0 : x2.toInt ≠ 0 := i32_ne c_5 rfl; have q1 : x2.toInt ≠ 1 := i32_ne c_6 rfl; have q2 : x2.toInt ≠ 2 := i32_ne c_7 rfl; have q3 : x2.toInt ≠ 3 := i32_ne c_8 rfl; have q4 : x2.toInt ≠ 4 := i32_ne c_9 rfl; have q5 : x2.toInt ≠ 5 := i32_ne c_12 rfl; have q6 : x2.toInt ≠ 6 := i32_ne c_15 rfl; omega) (by decide) ?_
                  refine lv_aload_n F.1 F.2.1 dX7_ofShip_146 rfl (lv_at hl 0 rfl) ?_
                  refine lv_iload_n F.1 F.2.1 dX7_ofShip_147 rfl (lv_at hl 1 rfl) ?_
                  refine q_rV (rest := []) F w kV_X7_222 hd_X7_lapsedOf (ci := 8) rfl (c_X7_lapsedOf l D cy A _ m0 ad (g_X7_ofShip_1 G i1 x2) hM i1 (show i1 < 12 by omega) (InvM.fr hI 0 0 (if f_X7_isShip G (nI i1) = 0 then 1 else (if f_X7_in x2 0 7 = 0 then 2 else 0)) rfl)) hM.1 dX7_ofShip_148 rfl rfl hl.1 ⟨rfl, rfl, Nat.le_of_ble_eq_true rfl, Nat.le_of_ble_eq_true rfl⟩ (Nat.le_of_ble_eq_true rfl) ⟨Nat.zero_le _, Nat.zero_le _⟩ ?_
                  exact q_retI (S := Unit) F hr hlk w ⟨((if_pos c_4).trans ((if_neg c_5).trans ((if_neg c_6).trans ((if_neg c_7).trans ((if_neg c_8).trans ((if_neg c_9).trans ((if_neg c_12).trans (if_neg c_15)))))))).symm, RepM.cg hM ((if_pos c_4).trans ((if_neg c_5).trans ((if_neg c_6).trans ((if_neg c_7).trans ((if_neg c_8).trans ((if_neg c_9).trans ((if_neg c_12).trans (if_neg c_15))))))))⟩ dX7_ofShip_151
  · refine lv_iconst (v := 0) F.1 F.2.1 dX7_ofShip_38 (by decide) ?_
    exact q_retI (S := Unit) F hr hlk w ⟨(if_neg c_4).symm, RepM.cg hM (if_neg c_4)⟩ dX7_ofShip_39
def g_X7_ofShip_b_1 (G : GS) (x1 : Int32) (x2 : Int32) : GS := up2 G 0 0 1
theorem e_g_X7_ofShip_b_1 (G : GS) (x1 : Int32) (x2 : Int32) {j : Nat} (h : j ∉ [0]) : g_X7_ofShip_b_1 G x1 x2 j = G j := (up2_ne (fun q => h (by rw [q]; exact List.mem_cons_self))).trans rfl
def f_X7_ofShip_b (G : GS) (x1 : Int32) (x2 : Int32) : Int32 := 0
def g_X7_ofShip_b (G : GS) (x1 : Int32) (x2 : Int32) : GS := g_X7_ofShip_b_1 G x1 x2
set_option maxHeartbeats 4000000 in
set_option maxRecDepth 100000 in
theorem c_X7_ofShip_b (l : Launch) (D : va_G) (cy : Nat → ClassId) (A : Nat → Prop) (μ : MU) (m0 : Nat) (ad : Nat → Nat) (G : GS) (hM : RepM cy m0 ad G μ) (x1 : Int32) (x2 : Int32) (hb : f_X7_isShip G x1 = 0) : Met l yX7_ofShip (WS yX7_ofShip cX7_ofShip 3 (Option.some Jvm.ClassFile.FieldType.int)) { frames := 2, cells := 0, slots := 0, locals := 43 } (va_Pc [.ref m0, .int x1, .int x2] (Wd D cy A μ)) (va_Qi (fun (r9 : Int32) (μ1 : MU) => r9 = f_X7_ofShip_b G x1 x2 ∧ RepM cy m0 ad (g_X7_ofShip_b G x1 x2) μ1) (fun μ1 t => Wd D cy A μ1 t) A) 0 0 A := by
  refine q_met (by decide) (Nat.le_of_ble_eq_true rfl) ?_
  intro p e s m below meth c F w hr hlk hnm ls hl
  have F : CallFix p m c cX7_ofShip 3 s _ BIG RX7 := F
  have hl : lv_has ls 3 [(0, .ref m0), (1, .int x1), (2, .int x2)] := hl
  refine lv_aload_n F.1 F.2.1 dX7_ofShip_0 rfl (lv_at hl 0 rfl) ?_
  refine lv_aload_n F.1 F.2.1 dX7_ofShip_1 rfl (lv_at hl 0 rfl) ?_
  refine lv_iload_n F.1 F.2.1 dX7_ofShip_2 rfl (lv_at hl 1 rfl) ?_
  refine q_rV (rest := [.ref m0]) F w kV_X7_153 hd_X7_isShip (ci := 8) rfl (c_X7_isShip l D cy A _ m0 ad G hM x1) hM.1 dX7_ofShip_3 rfl rfl hl.1 ⟨rfl, rfl, Nat.le_of_ble_eq_true rfl, Nat.le_of_ble_eq_true rfl⟩ (Nat.le_of_ble_eq_true rfl) ⟨Nat.zero_le _, Nat.zero_le _⟩ ?_
  refine lv_if_ne (tgt := 13) F.1 F.2.1 dX7_ofShip_6 (by decide) (fun c_1 => absurd hb c_1) (fun c_1 => ?_)
  refine lv_iconst (v := 1) F.1 F.2.1 dX7_ofShip_9 (by decide) ?_
  refine lv_goto (tgt := 28) F.1 F.2.1 dX7_ofShip_10 (by decide) ?_
  refine mp_128 F w hM dX7_ofShip_28 (fun H locs μ w hM => ?_)
  have hM : RepM cy m0 ad (g_X7_ofShip_b_1 G x1 x2) μ := hM
  refine lv_aload_n F.1 F.2.1 dX7_ofShip_31 rfl (lv_at hl 0 rfl) ?_
  refine gf_X7_128 F w hM.1 rfl dX7_ofShip_32 ?_
  refine lv_fold (y := 1) ((congrFun (up2_eq _ _ _ _) _).trans pk_us) ?_
  refine lv_if_le (tgt := 40) F.1 F.2.1 dX7_ofShip_35 (by decide) (fun c_2 => absurd c_2 (by decide)) (fun c_2 => ?_)
  refine lv_iconst (v := 0) F.1 F.2.1 dX7_ofShip_38 (by decide) ?_
  exact q_retI (S := Unit) F hr hlk w ⟨rfl, RepM.cg hM rfl⟩ dX7_ofShip_39
def g_X7_pointsAnew_1 (G : GS) (i1 : Nat) : GS := up2 G 0 0 (if f_X7_isShip G (nI i1) = 0 then 1 else 0)
theorem e_g_X7_pointsAnew_1 (G : GS) (i1 : Nat) {j : Nat} (h : j ∉ [0]) : g_X7_pointsAnew_1 G i1 j = G j := (up2_ne (fun q => h (by rw [q]; exact List.mem_cons_self))).trans rfl
def f_X7_pointsAnew (G : GS) (i1 : Nat) : Int32 := if (if f_X7_isShip G (nI i1) = 0 then 1 else 0 : Int32) ≤ 0 then f_X7_pointsOf (g_X7_pointsAnew_1 G i1) i1 else 0
def g_X7_pointsAnew (G : GS) (i1 : Nat) : GS := g_X7_pointsAnew_1 G i1
set_option maxHeartbeats 4000000 in
set_option maxRecDepth 100000 in
theorem c_X7_pointsAnew (l : Launch) (D : va_G) (cy : Nat → ClassId) (A : Nat → Prop) (μ : MU) (m0 : Nat) (ad : Nat → Nat) (G : GS) (hM : RepM cy m0 ad G μ) (i1 : Nat) (hi1 : i1 < 12) (hI : InvM G) : Met l yX7_pointsAnew (WS yX7_pointsAnew cX7_pointsAnew 2 (Option.some Jvm.ClassFile.FieldType.int)) { frames := 3, cells := 0, slots := 0, locals := 70 } (va_Pc [.ref m0, .int (nI i1)] (Wd D cy A μ)) (va_Qi (fun (r9 : Int32) (μ1 : MU) => r9 = f_X7_pointsAnew G i1 ∧ RepM cy m0 ad (g_X7_pointsAnew G i1) μ1) (fun μ1 t => Wd D cy A μ1 t) A) 0 0 A := by
  refine q_met (by decide) (Nat.le_of_ble_eq_true rfl) ?_
  intro p e s m below meth c F w hr hlk hnm ls hl
  have F : CallFix p m c cX7_pointsAnew 2 s _ BIG RX7 := F
  have hl : lv_has ls 2 [(0, .ref m0), (1, .int (nI i1))] := hl
  refine lv_aload_n F.1 F.2.1 dX7_pointsAnew_0 rfl (lv_at hl 0 rfl) ?_
  refine lv_aload_n F.1 F.2.1 dX7_pointsAnew_1 rfl (lv_at hl 0 rfl) ?_
  refine lv_iload_n F.1 F.2.1 dX7_pointsAnew_2 rfl (lv_at hl 1 rfl) ?_
  refine q_rV (rest := [.ref m0]) F w kV_X7_153 hd_X7_isShip (ci := 8) rfl (c_X7_isShip l D cy A _ m0 ad G hM (nI i1)) hM.1 dX7_pointsAnew_3 rfl rfl hl.1 ⟨rfl, rfl, Nat.le_of_ble_eq_true rfl, Nat.le_of_ble_eq_true rfl⟩ (Nat.le_of_ble_eq_true rfl) ⟨Nat.zero_le _, Nat.zero_le _⟩ ?_
  refine jn0 (m := m) (ls := ls) (rest := [.ref m0]) (if f_X7_isShip G (nI i1) = 0 then 1 else 0) 14 (fun J_1 => ?_) ?_
  · refine lv_if_eq (tgt := 13) F.1 F.2.1 dX7_pointsAnew_6 (by decide) (fun c_2 => ?_) (fun c_2 => ?_)
    · refine lv_iconst (v := 1) F.1 F.2.1 dX7_pointsAnew_13 (by decide) ?_
      exact jn_a (if_pos c_2) J_1
    · refine lv_iconst (v := 0) F.1 F.2.1 dX7_pointsAnew_9 (by decide) ?_
      refine lv_goto (tgt := 14) F.1 F.2.1 dX7_pointsAnew_10 (by decide) ?_
      exact jn_a (if_neg c_2) J_1
  refine mp_128 F w hM dX7_pointsAnew_14 (fun H locs μ w hM => ?_)
  have hM : RepM cy m0 ad (g_X7_pointsAnew_1 G i1) μ := hM
  refine lv_aload_n F.1 F.2.1 dX7_pointsAnew_17 rfl (lv_at hl 0 rfl) ?_
  refine gf_X7_128 F w hM.1 rfl dX7_pointsAnew_18 ?_
  refine lv_fold (y := if f_X7_isShip G (nI i1) = 0 then 1 else 0) ((congrFun (up2_eq _ _ _ _) _).trans pk_us) ?_
  refine jn0 (m := m) (ls := ls) (rest := []) (if (if f_X7_isShip G (nI i1) = 0 then 1 else 0 : Int32) ≤ 0 then f_X7_pointsOf (g_X7_pointsAnew_1 G i1) i1 else 0) 33 (fun J_3 => ?_) ?_
  · refine lv_if_le (tgt := 28) F.1 F.2.1 dX7_pointsAnew_21 (by decide) (fun c_4 => ?_) (fun c_4 => ?_)
    · refine lv_aload_n F.1 F.2.1 dX7_pointsAnew_28 rfl (lv_at hl 0 rfl) ?_
      refine lv_iload_n F.1 F.2.1 dX7_pointsAnew_29 rfl (lv_at hl 1 rfl) ?_
      refine q_rV (rest := []) F w kV_X7_207 hd_X7_pointsOf (ci := 8) rfl (c_X7_pointsOf l D cy A _ m0 ad (g_X7_pointsAnew_1 G i1) hM i1 (show i1 < 12 by omega) (InvM.fr hI 0 0 (if f_X7_isShip G (nI i1) = 0 then 1 else 0) rfl)) hM.1 dX7_pointsAnew_30 rfl rfl hl.1 ⟨rfl, rfl, Nat.le_of_ble_eq_true rfl, Nat.le_of_ble_eq_true rfl⟩ (Nat.le_of_ble_eq_true rfl) ⟨Nat.zero_le _, Nat.zero_le _⟩ ?_
      exact jn_a (if_pos c_4) J_3
    · refine lv_iconst (v := 0) F.1 F.2.1 dX7_pointsAnew_24 (by decide) ?_
      refine lv_goto (tgt := 33) F.1 F.2.1 dX7_pointsAnew_25 (by decide) ?_
      exact jn_a (if_neg c_4) J_3
  exact q_retI (S := Unit) F hr hlk w ⟨rfl, RepM.cg hM rfl⟩ dX7_pointsAnew_33
def g_X7_pointsAnew_b_1 (G : GS) (x1 : Int32) : GS := up2 G 0 0 1
theorem e_g_X7_pointsAnew_b_1 (G : GS) (x1 : Int32) {j : Nat} (h : j ∉ [0]) : g_X7_pointsAnew_b_1 G x1 j = G j := (up2_ne (fun q => h (by rw [q]; exact List.mem_cons_self))).trans rfl
def f_X7_pointsAnew_b (G : GS) (x1 : Int32) : Int32 := 0
def g_X7_pointsAnew_b (G : GS) (x1 : Int32) : GS := g_X7_pointsAnew_b_1 G x1
set_option maxHeartbeats 4000000 in
set_option maxRecDepth 100000 in
theorem c_X7_pointsAnew_b (l : Launch) (D : va_G) (cy : Nat → ClassId) (A : Nat → Prop) (μ : MU) (m0 : Nat) (ad : Nat → Nat) (G : GS) (hM : RepM cy m0 ad G μ) (x1 : Int32) (hb : f_X7_isShip G x1 = 0) : Met l yX7_pointsAnew (WS yX7_pointsAnew cX7_pointsAnew 2 (Option.some Jvm.ClassFile.FieldType.int)) { frames := 2, cells := 0, slots := 0, locals := 43 } (va_Pc [.ref m0, .int x1] (Wd D cy A μ)) (va_Qi (fun (r9 : Int32) (μ1 : MU) => r9 = f_X7_pointsAnew_b G x1 ∧ RepM cy m0 ad (g_X7_pointsAnew_b G x1) μ1) (fun μ1 t => Wd D cy A μ1 t) A) 0 0 A := by
  refine q_met (by decide) (Nat.le_of_ble_eq_true rfl) ?_
  intro p e s m below meth c F w hr hlk hnm ls hl
  have F : CallFix p m c cX7_pointsAnew 2 s _ BIG RX7 := F
  have hl : lv_has ls 2 [(0, .ref m0), (1, .int x1)] := hl
  refine lv_aload_n F.1 F.2.1 dX7_pointsAnew_0 rfl (lv_at hl 0 rfl) ?_
  refine lv_aload_n F.1 F.2.1 dX7_pointsAnew_1 rfl (lv_at hl 0 rfl) ?_
  refine lv_iload_n F.1 F.2.1 dX7_pointsAnew_2 rfl (lv_at hl 1 rfl) ?_
  refine q_rV (rest := [.ref m0]) F w kV_X7_153 hd_X7_isShip (ci := 8) rfl (c_X7_isShip l D cy A _ m0 ad G hM x1) hM.1 dX7_pointsAnew_3 rfl rfl hl.1 ⟨rfl, rfl, Nat.le_of_ble_eq_true rfl, Nat.le_of_ble_eq_true rfl⟩ (Nat.le_of_ble_eq_true rfl) ⟨Nat.zero_le _, Nat.zero_le _⟩ ?_
  refine lv_if_eq (tgt := 13) F.1 F.2.1 dX7_pointsAnew_6 (by decide) (fun c_1 => ?_) (fun c_1 => absurd hb c_1)
  refine lv_iconst (v := 1) F.1 F.2.1 dX7_pointsAnew_13 (by decide) ?_
  refine mp_128 F w hM dX7_pointsAnew_14 (fun H locs μ w hM => ?_)
  have hM : RepM cy m0 ad (g_X7_pointsAnew_b_1 G x1) μ := hM
  refine lv_aload_n F.1 F.2.1 dX7_pointsAnew_17 rfl (lv_at hl 0 rfl) ?_
  refine gf_X7_128 F w hM.1 rfl dX7_pointsAnew_18 ?_
  refine lv_fold (y := 1) ((congrFun (up2_eq _ _ _ _) _).trans pk_us) ?_
  refine lv_if_le (tgt := 28) F.1 F.2.1 dX7_pointsAnew_21 (by decide) (fun c_2 => absurd c_2 (by decide)) (fun c_2 => ?_)
  refine lv_iconst (v := 0) F.1 F.2.1 dX7_pointsAnew_24 (by decide) ?_
  refine lv_goto (tgt := 33) F.1 F.2.1 dX7_pointsAnew_25 (by decide) ?_
  exact q_retI (S := Unit) F hr hlk w ⟨rfl, RepM.cg hM rfl⟩ dX7_pointsAnew_33
def g_X7_isGround_1 (G : GS) (i1 : Nat) (x2 : Int32) : GS := up2 G 0 0 (if f_X7_isShip G (nI i1) = 0 then 1 else (if f_X7_in x2 0 9 = 0 then 2 else 0))
theorem e_g_X7_isGround_1 (G : GS) (i1 : Nat) (x2 : Int32) {j : Nat} (h : j ∉ [0]) : g_X7_isGround_1 G i1 x2 j = G j := (up2_ne (fun q => h (by rw [q]; exact List.mem_cons_self))).trans rfl
def f_X7_isGround (G : GS) (i1 : Nat) (x2 : Int32) : Int32 := if (if f_X7_isShip G (nI i1) = 0 then 1 else (if f_X7_in x2 0 9 = 0 then 2 else 0) : Int32) = 0 then (if f_X7_isGroundFor (g_X7_isGround_1 G i1 x2) i1 x2 = 0 then 0 else 1) else 0
theorem nz_f_X7_isGround (G : GS) (i1 : Nat) (x2 : Int32) : nz (f_X7_isGround G i1 x2) := (nz_ite (nz_ite nz0 nz1) nz0)
def g_X7_isGround (G : GS) (i1 : Nat) (x2 : Int32) : GS := g_X7_isGround_1 G i1 x2
set_option maxHeartbeats 4000000 in
set_option maxRecDepth 100000 in
theorem c_X7_isGround (l : Launch) (D : va_G) (cy : Nat → ClassId) (A : Nat → Prop) (μ : MU) (m0 : Nat) (ad : Nat → Nat) (G : GS) (hM : RepM cy m0 ad G μ) (i1 : Nat) (x2 : Int32) (hi1 : i1 < 12) (hI : InvM G) : Met l yX7_isGround (WS yX7_isGround cX7_isGround 3 (Option.some Jvm.ClassFile.FieldType.boolean)) { frames := 3, cells := 0, slots := 0, locals := 68 } (va_Pc [.ref m0, .int (nI i1), .int x2] (Wd D cy A μ)) (va_Qi (fun (r9 : Int32) (μ1 : MU) => r9 = f_X7_isGround G i1 x2 ∧ RepM cy m0 ad (g_X7_isGround G i1 x2) μ1) (fun μ1 t => Wd D cy A μ1 t) A) 0 0 A := by
  refine q_met (by decide) (Nat.le_of_ble_eq_true rfl) ?_
  intro p e s m below meth c F w hr hlk hnm ls hl
  have F : CallFix p m c cX7_isGround 3 s _ BIG RX7 := F
  have hl : lv_has ls 3 [(0, .ref m0), (1, .int (nI i1)), (2, .int x2)] := hl
  refine lv_aload_n F.1 F.2.1 dX7_isGround_0 rfl (lv_at hl 0 rfl) ?_
  refine lv_aload_n F.1 F.2.1 dX7_isGround_1 rfl (lv_at hl 0 rfl) ?_
  refine lv_iload_n F.1 F.2.1 dX7_isGround_2 rfl (lv_at hl 1 rfl) ?_
  refine q_rV (rest := [.ref m0]) F w kV_X7_153 hd_X7_isShip (ci := 8) rfl (c_X7_isShip l D cy A _ m0 ad G hM (nI i1)) hM.1 dX7_isGround_3 rfl rfl hl.1 ⟨rfl, rfl, Nat.le_of_ble_eq_true rfl, Nat.le_of_ble_eq_true rfl⟩ (Nat.le_of_ble_eq_true rfl) ⟨Nat.zero_le _, Nat.zero_le _⟩ ?_
  refine jn0 (m := m) (ls := ls) (rest := [.ref m0]) (if f_X7_isShip G (nI i1) = 0 then 1 else (if f_X7_in x2 0 9 = 0 then 2 else 0)) 28 (fun J_1 => ?_) ?_
  · refine lv_if_ne (tgt := 13) F.1 F.2.1 dX7_isGround_6 (by decide) (fun c_2 => ?_) (fun c_2 => ?_)
    · refine lv_iload_n F.1 F.2.1 dX7_isGround_13 rfl (lv_at hl 2 rfl) ?_
      refine lv_iconst (v := 0) F.1 F.2.1 dX7_isGround_14 (by decide) ?_
      refine lv_bipush (v := 9) F.1 F.2.1 dX7_isGround_15 (by decide) ?_
      refine q_rS (rest := [.ref m0]) F w kS_X7_135 hd_X7_in (c_X7_in l D cy A _ x2 0 9) dX7_isGround_17 rfl rfl hl.1 ⟨rfl, rfl, Nat.le_of_ble_eq_true rfl, Nat.le_of_ble_eq_true rfl⟩ (Nat.le_of_ble_eq_true rfl) ⟨Nat.zero_le _, Nat.zero_le _⟩ ?_
      refine lv_if_eq (tgt := 27) F.1 F.2.1 dX7_isGround_20 (by decide) (fun c_3 => ?_) (fun c_3 => ?_)
      · refine lv_iconst (v := 2) F.1 F.2.1 dX7_isGround_27 (by decide) ?_
        exact jn_a ((if_neg c_2).trans (if_pos c_3)) J_1
      · refine lv_iconst (v := 0) F.1 F.2.1 dX7_isGround_23 (by decide) ?_
        refine lv_goto (tgt := 28) F.1 F.2.1 dX7_isGround_24 (by decide) ?_
        exact jn_a ((if_neg c_2).trans (if_neg c_3)) J_1
    · refine lv_iconst (v := 1) F.1 F.2.1 dX7_isGround_9 (by decide) ?_
      refine lv_goto (tgt := 28) F.1 F.2.1 dX7_isGround_10 (by decide) ?_
      exact jn_a (if_pos c_2) J_1
  refine mp_128 F w hM dX7_isGround_28 (fun H locs μ w hM => ?_)
  have hM : RepM cy m0 ad (g_X7_isGround_1 G i1 x2) μ := hM
  refine lv_aload_n F.1 F.2.1 dX7_isGround_31 rfl (lv_at hl 0 rfl) ?_
  refine gf_X7_128 F w hM.1 rfl dX7_isGround_32 ?_
  refine lv_fold (y := if f_X7_isShip G (nI i1) = 0 then 1 else (if f_X7_in x2 0 9 = 0 then 2 else 0)) ((congrFun (up2_eq _ _ _ _) _).trans pk_us) ?_
  refine jn0 (m := m) (ls := ls) (rest := []) (if (if f_X7_isShip G (nI i1) = 0 then 1 else (if f_X7_in x2 0 9 = 0 then 2 else 0) : Int32) = 0 then (if f_X7_isGroundFor (g_X7_isGround_1 G i1 x2) i1 x2 = 0 then 0 else 1) else 0) 52 (fun J_4 => ?_) ?_
  · refine lv_if_ne (tgt := 51) F.1 F.2.1 dX7_isGround_35 (by decide) (fun c_5 => ?_) (fun c_5 => ?_)
    · refine lv_iconst (v := 0) F.1 F.2.1 dX7_isGround_51 (by decide) ?_
      exact jn_a (if_neg c_5) J_4
    · refine lv_aload_n F.1 F.2.1 dX7_isGround_38 rfl (lv_at hl 0 rfl) ?_
      refine lv_iload_n F.1 F.2.1 dX7_isGround_39 rfl (lv_at hl 1 rfl) ?_
      refine lv_iload_n F.1 F.2.1 dX7_isGround_40 rfl (lv_at hl 2 rfl) ?_
      refine q_rV (rest := []) F w kV_X7_234 hd_X7_isGroundFor (ci := 8) rfl (c_X7_isGroundFor l D cy A _ m0 ad (g_X7_isGround_1 G i1 x2) hM i1 x2 (show i1 < 12 by omega) (InvM.fr hI 0 0 (if f_X7_isShip G (nI i1) = 0 then 1 else (if f_X7_in x2 0 9 = 0 then 2 else 0)) rfl)) hM.1 dX7_isGround_41 rfl rfl hl.1 ⟨rfl, rfl, Nat.le_of_ble_eq_true rfl, Nat.le_of_ble_eq_true rfl⟩ (Nat.le_of_ble_eq_true rfl) ⟨Nat.zero_le _, Nat.zero_le _⟩ ?_
      refine lv_if_eq (tgt := 51) F.1 F.2.1 dX7_isGround_44 (by decide) (fun c_6 => ?_) (fun c_6 => ?_)
      · refine lv_iconst (v := 0) F.1 F.2.1 dX7_isGround_51 (by decide) ?_
        exact jn_a ((if_pos c_5).trans (if_pos c_6)) J_4
      · refine lv_iconst (v := 1) F.1 F.2.1 dX7_isGround_47 (by decide) ?_
        refine lv_goto (tgt := 52) F.1 F.2.1 dX7_isGround_48 (by decide) ?_
        exact jn_a ((if_pos c_5).trans (if_neg c_6)) J_4
  exact q_retZ (S := Unit) F hr hlk w ⟨rfl, RepM.cg hM rfl⟩ (nz_ite (nz_ite nz0 nz1) nz0) dX7_isGround_52
def g_X7_isGround_b_1 (G : GS) (x1 : Int32) (x2 : Int32) : GS := up2 G 0 0 1
theorem e_g_X7_isGround_b_1 (G : GS) (x1 : Int32) (x2 : Int32) {j : Nat} (h : j ∉ [0]) : g_X7_isGround_b_1 G x1 x2 j = G j := (up2_ne (fun q => h (by rw [q]; exact List.mem_cons_self))).trans rfl
def f_X7_isGround_b (G : GS) (x1 : Int32) (x2 : Int32) : Int32 := 0
theorem nz_f_X7_isGround_b (G : GS) (x1 : Int32) (x2 : Int32) : nz (f_X7_isGround_b G x1 x2) := nz0
def g_X7_isGround_b (G : GS) (x1 : Int32) (x2 : Int32) : GS := g_X7_isGround_b_1 G x1 x2
set_option maxHeartbeats 4000000 in
set_option maxRecDepth 100000 in
theorem c_X7_isGround_b (l : Launch) (D : va_G) (cy : Nat → ClassId) (A : Nat → Prop) (μ : MU) (m0 : Nat) (ad : Nat → Nat) (G : GS) (hM : RepM cy m0 ad G μ) (x1 : Int32) (x2 : Int32) (hb : f_X7_isShip G x1 = 0) : Met l yX7_isGround (WS yX7_isGround cX7_isGround 3 (Option.some Jvm.ClassFile.FieldType.boolean)) { frames := 2, cells := 0, slots := 0, locals := 43 } (va_Pc [.ref m0, .int x1, .int x2] (Wd D cy A μ)) (va_Qi (fun (r9 : Int32) (μ1 : MU) => r9 = f_X7_isGround_b G x1 x2 ∧ RepM cy m0 ad (g_X7_isGround_b G x1 x2) μ1) (fun μ1 t => Wd D cy A μ1 t) A) 0 0 A := by
  refine q_met (by decide) (Nat.le_of_ble_eq_true rfl) ?_
  intro p e s m below meth c F w hr hlk hnm ls hl
  have F : CallFix p m c cX7_isGround 3 s _ BIG RX7 := F
  have hl : lv_has ls 3 [(0, .ref m0), (1, .int x1), (2, .int x2)] := hl
  refine lv_aload_n F.1 F.2.1 dX7_isGround_0 rfl (lv_at hl 0 rfl) ?_
  refine lv_aload_n F.1 F.2.1 dX7_isGround_1 rfl (lv_at hl 0 rfl) ?_
  refine lv_iload_n F.1 F.2.1 dX7_isGround_2 rfl (lv_at hl 1 rfl) ?_
  refine q_rV (rest := [.ref m0]) F w kV_X7_153 hd_X7_isShip (ci := 8) rfl (c_X7_isShip l D cy A _ m0 ad G hM x1) hM.1 dX7_isGround_3 rfl rfl hl.1 ⟨rfl, rfl, Nat.le_of_ble_eq_true rfl, Nat.le_of_ble_eq_true rfl⟩ (Nat.le_of_ble_eq_true rfl) ⟨Nat.zero_le _, Nat.zero_le _⟩ ?_
  refine lv_if_ne (tgt := 13) F.1 F.2.1 dX7_isGround_6 (by decide) (fun c_1 => absurd hb c_1) (fun c_1 => ?_)
  refine lv_iconst (v := 1) F.1 F.2.1 dX7_isGround_9 (by decide) ?_
  refine lv_goto (tgt := 28) F.1 F.2.1 dX7_isGround_10 (by decide) ?_
  refine mp_128 F w hM dX7_isGround_28 (fun H locs μ w hM => ?_)
  have hM : RepM cy m0 ad (g_X7_isGround_b_1 G x1 x2) μ := hM
  refine lv_aload_n F.1 F.2.1 dX7_isGround_31 rfl (lv_at hl 0 rfl) ?_
  refine gf_X7_128 F w hM.1 rfl dX7_isGround_32 ?_
  refine lv_fold (y := 1) ((congrFun (up2_eq _ _ _ _) _).trans pk_us) ?_
  refine lv_if_ne (tgt := 51) F.1 F.2.1 dX7_isGround_35 (by decide) (fun c_2 => ?_) (fun c_2 => absurd c_2 (by decide))
  refine lv_iconst (v := 0) F.1 F.2.1 dX7_isGround_51 (by decide) ?_
  exact q_retZ (S := Unit) F hr hlk w ⟨rfl, RepM.cg hM rfl⟩ nz0 dX7_isGround_52
def g_X7_ofVisit_1 (G : GS) (i1 : Nat) (x2 : Int32) : GS := up2 G 0 0 (if f_X7_isVisit G (nI i1) = 0 then 1 else (if f_X7_in x2 0 6 = 0 then 2 else 0))
theorem e_g_X7_ofVisit_1 (G : GS) (i1 : Nat) (x2 : Int32) {j : Nat} (h : j ∉ [0]) : g_X7_ofVisit_1 G i1 x2 j = G j := (up2_ne (fun q => h (by rw [q]; exact List.mem_cons_self))).trans rfl
def f_X7_ofVisit (G : GS) (i1 : Nat) (x2 : Int32) : Int32 := if (if f_X7_isVisit G (nI i1) = 0 then 1 else (if f_X7_in x2 0 6 = 0 then 2 else 0) : Int32) ≤ 0 then (if x2 = 0 then G 30 i1 else (if x2 = 1 then G 31 i1 else (if x2 = 2 then G 32 i1 else (if x2 = 3 then G 33 i1 else (if x2 = 4 then G 35 i1 else (if x2 = 5 then f_X7_openOf (g_X7_ofVisit_1 G i1 x2) i1 else if f_X7_counts (g_X7_ofVisit_1 G i1 x2) i1 = 0 then 0 else 1)))))) else 0
def g_X7_ofVisit (G : GS) (i1 : Nat) (x2 : Int32) : GS := if (if f_X7_isVisit G (nI i1) = 0 then 1 else (if f_X7_in x2 0 6 = 0 then 2 else 0) : Int32) ≤ 0 then (if x2 = 0 then g_X7_ofVisit_1 G i1 x2 else (if x2 = 1 then g_X7_ofVisit_1 G i1 x2 else (if x2 = 2 then g_X7_ofVisit_1 G i1 x2 else (if x2 = 3 then g_X7_ofVisit_1 G i1 x2 else (if x2 = 4 then g_X7_ofVisit_1 G i1 x2 else (if x2 = 5 then g_X7_ofVisit_1 G i1 x2 else g_X7_ofVisit_1 G i1 x2)))))) else g_X7_ofVisit_1 G i1 x2
set_option maxHeartbeats 4000000 in
set_option maxRecDepth 100000 in
theorem c_X7_ofVisit (l : Launch) (D : va_G) (cy : Nat → ClassId) (A : Nat → Prop) (μ : MU) (m0 : Nat) (ad : Nat → Nat) (G : GS) (hM : RepM cy m0 ad G μ) (i1 : Nat) (x2 : Int32) (hi1 : i1 < 60) (hI : InvM G) : Met l yX7_ofVisit (WS yX7_ofVisit cX7_ofVisit 3 (Option.some Jvm.ClassFile.FieldType.int)) { frames := 2, cells := 0, slots := 0, locals := 43 } (va_Pc [.ref m0, .int (nI i1), .int x2] (Wd D cy A μ)) (va_Qi (fun (r9 : Int32) (μ1 : MU) => r9 = f_X7_ofVisit G i1 x2 ∧ RepM cy m0 ad (g_X7_ofVisit G i1 x2) μ1) (fun μ1 t => Wd D cy A μ1 t) A) 0 0 A := by
  refine q_met (by decide) (Nat.le_of_ble_eq_true rfl) ?_
  intro p e s m below meth c F w hr hlk hnm ls hl
  have F : CallFix p m c cX7_ofVisit 3 s _ BIG RX7 := F
  have hl : lv_has ls 3 [(0, .ref m0), (1, .int (nI i1)), (2, .int x2)] := hl
  refine lv_aload_n F.1 F.2.1 dX7_ofVisit_0 rfl (lv_at hl 0 rfl) ?_
  refine lv_aload_n F.1 F.2.1 dX7_ofVisit_1 rfl (lv_at hl 0 rfl) ?_
  refine lv_iload_n F.1 F.2.1 dX7_ofVisit_2 rfl (lv_at hl 1 rfl) ?_
  refine q_rV (rest := [.ref m0]) F w kV_X7_228 hd_X7_isVisit (ci := 8) rfl (c_X7_isVisit l D cy A _ m0 ad G hM (nI i1)) hM.1 dX7_ofVisit_3 rfl rfl hl.1 ⟨rfl, rfl, Nat.le_of_ble_eq_true rfl, Nat.le_of_ble_eq_true rfl⟩ (Nat.le_of_ble_eq_true rfl) ⟨Nat.zero_le _, Nat.zero_le _⟩ ?_
  refine jn0 (m := m) (ls := ls) (rest := [.ref m0]) (if f_X7_isVisit G (nI i1) = 0 then 1 else (if f_X7_in x2 0 6 = 0 then 2 else 0)) 28 (fun J_1 => ?_) ?_
  · refine lv_if_ne (tgt := 13) F.1 F.2.1 dX7_ofVisit_6 (by decide) (fun c_2 => ?_) (fun c_2 => ?_)
    · refine lv_iload_n F.1 F.2.1 dX7_ofVisit_13 rfl (lv_at hl 2 rfl) ?_
      refine lv_iconst (v := 0) F.1 F.2.1 dX7_ofVisit_14 (by decide) ?_
      refine lv_bipush (v := 6) F.1 F.2.1 dX7_ofVisit_15 (by decide) ?_
      refine q_rS (rest := [.ref m0]) F w kS_X7_135 hd_X7_in (c_X7_in l D cy A _ x2 0 6) dX7_ofVisit_17 rfl rfl hl.1 ⟨rfl, rfl, Nat.le_of_ble_eq_true rfl, Nat.le_of_ble_eq_true rfl⟩ (Nat.le_of_ble_eq_true rfl) ⟨Nat.zero_le _, Nat.zero_le _⟩ ?_
      refine lv_if_eq (tgt := 27) F.1 F.2.1 dX7_ofVisit_20 (by decide) (fun c_3 => ?_) (fun c_3 => ?_)
      · refine lv_iconst (v := 2) F.1 F.2.1 dX7_ofVisit_27 (by decide) ?_
        exact jn_a ((if_neg c_2).trans (if_pos c_3)) J_1
      · refine lv_iconst (v := 0) F.1 F.2.1 dX7_ofVisit_23 (by decide) ?_
        refine lv_goto (tgt := 28) F.1 F.2.1 dX7_ofVisit_24 (by decide) ?_
        exact jn_a ((if_neg c_2).trans (if_neg c_3)) J_1
    · refine lv_iconst (v := 1) F.1 F.2.1 dX7_ofVisit_9 (by decide) ?_
      refine lv_goto (tgt := 28) F.1 F.2.1 dX7_ofVisit_10 (by decide) ?_
      exact jn_a (if_pos c_2) J_1
  refine mp_128 F w hM dX7_ofVisit_28 (fun H locs μ w hM => ?_)
  have hM : RepM cy m0 ad (g_X7_ofVisit_1 G i1 x2) μ := hM
  refine lv_aload_n F.1 F.2.1 dX7_ofVisit_31 rfl (lv_at hl 0 rfl) ?_
  refine gf_X7_128 F w hM.1 rfl dX7_ofVisit_32 ?_
  refine lv_fold (y := if f_X7_isVisit G (nI i1) = 0 then 1 else (if f_X7_in x2 0 6 = 0 then 2 else 0)) ((congrFun (up2_eq _ _ _ _) _).trans pk_us) ?_
  refine lv_if_le (tgt := 40) F.1 F.2.1 dX7_ofVisit_35 (by decide) (fun c_4 => ?_) (fun c_4 => ?_)
  · refine lv_iload_n F.1 F.2.1 dX7_ofVisit_40 rfl (lv_at hl 2 rfl) ?_
    by_cases c_5 : x2 = 0
    · refine lv_tableIn (tgt := 80) F.1 F.2.1 dX7_ofVisit_41 (by rw [c_5]; decide) (by rw [c_5]; decide) (by rw [c_5]; rfl) (by decide) ?_
      refine lv_aload_n F.1 F.2.1 dX7_ofVisit_80 rfl (lv_at hl 0 rfl) ?_
      refine gf_X7_86 F w hM.1 rfl dX7_ofVisit_81 ?_
      refine lv_iload_n F.1 F.2.1 dX7_ofVisit_84 rfl (lv_at hl 1 rfl) ?_
      refine m_ild F w hM 30 (by decide) rfl rfl i1 (show i1 < 60 by omega) (by decide) dX7_ofVisit_85 ?_
      refine lv_fold (y := G 30 i1) (congrFun (e_g_X7_ofVisit_1 G i1 x2 (by decide)) i1) ?_
      exact q_retI (S := Unit) F hr hlk w ⟨((if_pos c_4).trans (if_pos c_5)).symm, RepM.cg hM ((if_pos c_4).trans (if_pos c_5))⟩ dX7_ofVisit_86
    · by_cases c_6 : x2 = 1
      · refine lv_tableIn (tgt := 87) F.1 F.2.1 dX7_ofVisit_41 (by rw [c_6]; decide) (by rw [c_6]; decide) (by rw [c_6]; rfl) (by decide) ?_
        refine lv_aload_n F.1 F.2.1 dX7_ofVisit_87 rfl (lv_at hl 0 rfl) ?_
        refine gf_X7_89 F w hM.1 rfl dX7_ofVisit_88 ?_
        refine lv_iload_n F.1 F.2.1 dX7_ofVisit_91 rfl (lv_at hl 1 rfl) ?_
        refine m_ild F w hM 31 (by decide) rfl rfl i1 (show i1 < 60 by omega) (by decide) dX7_ofVisit_92 ?_
        refine lv_fold (y := G 31 i1) (congrFun (e_g_X7_ofVisit_1 G i1 x2 (by decide)) i1) ?_
        exact q_retI (S := Unit) F hr hlk w ⟨((if_pos c_4).trans ((if_neg c_5).trans (if_pos c_6))).symm, RepM.cg hM ((if_pos c_4).trans ((if_neg c_5).trans (if_pos c_6)))⟩ dX7_ofVisit_93
      · by_cases c_7 : x2 = 2
        · refine lv_tableIn (tgt := 94) F.1 F.2.1 dX7_ofVisit_41 (by rw [c_7]; decide) (by rw [c_7]; decide) (by rw [c_7]; rfl) (by decide) ?_
          refine lv_aload_n F.1 F.2.1 dX7_ofVisit_94 rfl (lv_at hl 0 rfl) ?_
          refine gf_X7_92 F w hM.1 rfl dX7_ofVisit_95 ?_
          refine lv_iload_n F.1 F.2.1 dX7_ofVisit_98 rfl (lv_at hl 1 rfl) ?_
          refine m_ild F w hM 32 (by decide) rfl rfl i1 (show i1 < 60 by omega) (by decide) dX7_ofVisit_99 ?_
          refine lv_fold (y := G 32 i1) (congrFun (e_g_X7_ofVisit_1 G i1 x2 (by decide)) i1) ?_
          exact q_retI (S := Unit) F hr hlk w ⟨((if_pos c_4).trans ((if_neg c_5).trans ((if_neg c_6).trans (if_pos c_7)))).symm, RepM.cg hM ((if_pos c_4).trans ((if_neg c_5).trans ((if_neg c_6).trans (if_pos c_7))))⟩ dX7_ofVisit_100
        · by_cases c_8 : x2 = 3
          · refine lv_tableIn (tgt := 101) F.1 F.2.1 dX7_ofVisit_41 (by rw [c_8]; decide) (by rw [c_8]; decide) (by rw [c_8]; rfl) (by decide) ?_
            refine lv_aload_n F.1 F.2.1 dX7_ofVisit_101 rfl (lv_at hl 0 rfl) ?_
            refine gf_X7_95 F w hM.1 rfl dX7_ofVisit_102 ?_
            refine lv_iload_n F.1 F.2.1 dX7_ofVisit_105 rfl (lv_at hl 1 rfl) ?_
            refine m_ild F w hM 33 (by decide) rfl rfl i1 (show i1 < 60 by omega) (by decide) dX7_ofVisit_106 ?_
            refine lv_fold (y := G 33 i1) (congrFun (e_g_X7_ofVisit_1 G i1 x2 (by decide)) i1) ?_
            exact q_retI (S := Unit) F hr hlk w ⟨((if_pos c_4).trans ((if_neg c_5).trans ((if_neg c_6).trans ((if_neg c_7).trans (if_pos c_8))))).symm, RepM.cg hM ((if_pos c_4).trans ((if_neg c_5).trans ((if_neg c_6).trans ((if_neg c_7).trans (if_pos c_8)))))⟩ dX7_ofVisit_107
          · by_cases c_9 : x2 = 4
            · refine lv_tableIn (tgt := 108) F.1 F.2.1 dX7_ofVisit_41 (by rw [c_9]; decide) (by rw [c_9]; decide) (by rw [c_9]; rfl) (by decide) ?_
              refine lv_aload_n F.1 F.2.1 dX7_ofVisit_108 rfl (lv_at hl 0 rfl) ?_
              refine gf_X7_101 F w hM.1 rfl dX7_ofVisit_109 ?_
              refine lv_iload_n F.1 F.2.1 dX7_ofVisit_112 rfl (lv_at hl 1 rfl) ?_
              refine m_ild F w hM 35 (by decide) rfl rfl i1 (show i1 < 60 by omega) (by decide) dX7_ofVisit_113 ?_
              refine lv_fold (y := G 35 i1) (congrFun (e_g_X7_ofVisit_1 G i1 x2 (by decide)) i1) ?_
              exact q_retI (S := Unit) F hr hlk w ⟨((if_pos c_4).trans ((if_neg c_5).trans ((if_neg c_6).trans ((if_neg c_7).trans ((if_neg c_8).trans (if_pos c_9)))))).symm, RepM.cg hM ((if_pos c_4).trans ((if_neg c_5).trans ((if_neg c_6).trans ((if_neg c_7).trans ((if_neg c_8).trans (if_pos c_9))))))⟩ dX7_ofVisit_114
            · by_cases c_10 : x2 = 5
              · refine lv_tableIn (tgt := 115) F.1 F.2.1 dX7_ofVisit_41 (by rw [c_10]; decide) (by rw [c_10]; decide) (by rw [c_10]; rfl) (by decide) ?_
                refine lv_aload_n F.1 F.2.1 dX7_ofVisit_115 rfl (lv_at hl 0 rfl) ?_
                refine lv_iload_n F.1 F.2.1 dX7_ofVisit_116 rfl (lv_at hl 1 rfl) ?_
                refine q_rV (rest := []) F w kV_X7_237 hd_X7_openOf (ci := 8) rfl (c_X7_openOf l D cy A _ m0 ad (g_X7_ofVisit_1 G i1 x2) hM i1 (show i1 < 60 by omega) (InvM.fr hI 0 0 (if f_X7_isVisit G (nI i1) = 0 then 1 else (if f_X7_in x2 0 6 = 0 then 2 else 0)) rfl)) hM.1 dX7_ofVisit_117 rfl rfl hl.1 ⟨rfl, rfl, Nat.le_of_ble_eq_true rfl, Nat.le_of_ble_eq_true rfl⟩ (Nat.le_of_ble_eq_true rfl) ⟨Nat.zero_le _, Nat.zero_le _⟩ ?_
                exact q_retI (S := Unit) F hr hlk w ⟨((if_pos c_4).trans ((if_neg c_5).trans ((if_neg c_6).trans ((if_neg c_7).trans ((if_neg c_8).trans ((if_neg c_9).trans (if_pos c_10))))))).symm, RepM.cg hM ((if_pos c_4).trans ((if_neg c_5).trans ((if_neg c_6).trans ((if_neg c_7).trans ((if_neg c_8).trans ((if_neg c_9).trans (if_pos c_10)))))))⟩ dX7_ofVisit_120
              · refine lv_tableOut (tgt := 121) F.1 F.2.1 dX7_ofVisit_41 (by have q0 : x2.toInt ≠ 0 := i32_ne c_5 rfl; have q1 : x2.toInt ≠ 1 := i32_ne c_6 rfl; have q2 : x2.toInt ≠ 2 := i32_ne c_7 rfl; have q3 : x2.toInt ≠ 3 := i32_ne c_8 rfl; have q4 : x2.toInt ≠ 4 := i32_ne c_9 rfl; have q5 : x2.toInt ≠ 5 := i32_ne c_10 rfl; omega) (by decide) ?_
                refine lv_aload_n F.1 F.2.1 dX7_ofVisit_121 rfl (lv_at hl 0 rfl) ?_
                refine lv_iload_n F.1 F.2.1 dX7_ofVisit_122 rfl (lv_at hl 1 rfl) ?_
                refine q_rV (rest := []) F w kV_X7_192 hd_X7_counts (ci := 8) rfl (c_X7_counts l D cy A _ m0 ad (g_X7_ofVisit_1 G i1 x2) hM i1 (show i1 < 60 by omega)) hM.1 dX7_ofVisit_123 rfl rfl hl.1 ⟨rfl, rfl, Nat.le_of_ble_eq_true rfl, Nat.le_of_ble_eq_true rfl⟩ (Nat.le_of_ble_eq_true rfl) ⟨Nat.zero_le _, Nat.zero_le _⟩ ?_
                refine jn0 (m := m) (ls := ls) (rest := []) (if f_X7_counts (g_X7_ofVisit_1 G i1 x2) i1 = 0 then 0 else 1) 134 (fun J_11 => ?_) ?_
                · refine lv_if_eq (tgt := 133) F.1 F.2.1 dX7_ofVisit_126 (by decide) (fun c_12 => ?_) (fun c_12 => ?_)
                  · refine lv_iconst (v := 0) F.1 F.2.1 dX7_ofVisit_133 (by decide) ?_
                    exact jn_a (if_pos c_12) J_11
                  · refine lv_iconst (v := 1) F.1 F.2.1 dX7_ofVisit_129 (by decide) ?_
                    refine lv_goto (tgt := 134) F.1 F.2.1 dX7_ofVisit_130 (by decide) ?_
                    exact jn_a (if_neg c_12) J_11
                exact q_retI (S := Unit) F hr hlk w ⟨((if_pos c_4).trans ((if_neg c_5).trans ((if_neg c_6).trans ((if_neg c_7).trans ((if_neg c_8).trans ((if_neg c_9).trans (if_neg c_10))))))).symm, RepM.cg hM ((if_pos c_4).trans ((if_neg c_5).trans ((if_neg c_6).trans ((if_neg c_7).trans ((if_neg c_8).trans ((if_neg c_9).trans (if_neg c_10)))))))⟩ dX7_ofVisit_134
  · refine lv_iconst (v := 0) F.1 F.2.1 dX7_ofVisit_38 (by decide) ?_
    exact q_retI (S := Unit) F hr hlk w ⟨(if_neg c_4).symm, RepM.cg hM (if_neg c_4)⟩ dX7_ofVisit_39
def g_X7_ofVisit_b_1 (G : GS) (x1 : Int32) (x2 : Int32) : GS := up2 G 0 0 1
theorem e_g_X7_ofVisit_b_1 (G : GS) (x1 : Int32) (x2 : Int32) {j : Nat} (h : j ∉ [0]) : g_X7_ofVisit_b_1 G x1 x2 j = G j := (up2_ne (fun q => h (by rw [q]; exact List.mem_cons_self))).trans rfl
def f_X7_ofVisit_b (G : GS) (x1 : Int32) (x2 : Int32) : Int32 := 0
def g_X7_ofVisit_b (G : GS) (x1 : Int32) (x2 : Int32) : GS := g_X7_ofVisit_b_1 G x1 x2
set_option maxHeartbeats 4000000 in
set_option maxRecDepth 100000 in
theorem c_X7_ofVisit_b (l : Launch) (D : va_G) (cy : Nat → ClassId) (A : Nat → Prop) (μ : MU) (m0 : Nat) (ad : Nat → Nat) (G : GS) (hM : RepM cy m0 ad G μ) (x1 : Int32) (x2 : Int32) (hb : f_X7_isVisit G x1 = 0) : Met l yX7_ofVisit (WS yX7_ofVisit cX7_ofVisit 3 (Option.some Jvm.ClassFile.FieldType.int)) { frames := 2, cells := 0, slots := 0, locals := 43 } (va_Pc [.ref m0, .int x1, .int x2] (Wd D cy A μ)) (va_Qi (fun (r9 : Int32) (μ1 : MU) => r9 = f_X7_ofVisit_b G x1 x2 ∧ RepM cy m0 ad (g_X7_ofVisit_b G x1 x2) μ1) (fun μ1 t => Wd D cy A μ1 t) A) 0 0 A := by
  refine q_met (by decide) (Nat.le_of_ble_eq_true rfl) ?_
  intro p e s m below meth c F w hr hlk hnm ls hl
  have F : CallFix p m c cX7_ofVisit 3 s _ BIG RX7 := F
  have hl : lv_has ls 3 [(0, .ref m0), (1, .int x1), (2, .int x2)] := hl
  refine lv_aload_n F.1 F.2.1 dX7_ofVisit_0 rfl (lv_at hl 0 rfl) ?_
  refine lv_aload_n F.1 F.2.1 dX7_ofVisit_1 rfl (lv_at hl 0 rfl) ?_
  refine lv_iload_n F.1 F.2.1 dX7_ofVisit_2 rfl (lv_at hl 1 rfl) ?_
  refine q_rV (rest := [.ref m0]) F w kV_X7_228 hd_X7_isVisit (ci := 8) rfl (c_X7_isVisit l D cy A _ m0 ad G hM x1) hM.1 dX7_ofVisit_3 rfl rfl hl.1 ⟨rfl, rfl, Nat.le_of_ble_eq_true rfl, Nat.le_of_ble_eq_true rfl⟩ (Nat.le_of_ble_eq_true rfl) ⟨Nat.zero_le _, Nat.zero_le _⟩ ?_
  refine lv_if_ne (tgt := 13) F.1 F.2.1 dX7_ofVisit_6 (by decide) (fun c_1 => absurd hb c_1) (fun c_1 => ?_)
  refine lv_iconst (v := 1) F.1 F.2.1 dX7_ofVisit_9 (by decide) ?_
  refine lv_goto (tgt := 28) F.1 F.2.1 dX7_ofVisit_10 (by decide) ?_
  refine mp_128 F w hM dX7_ofVisit_28 (fun H locs μ w hM => ?_)
  have hM : RepM cy m0 ad (g_X7_ofVisit_b_1 G x1 x2) μ := hM
  refine lv_aload_n F.1 F.2.1 dX7_ofVisit_31 rfl (lv_at hl 0 rfl) ?_
  refine gf_X7_128 F w hM.1 rfl dX7_ofVisit_32 ?_
  refine lv_fold (y := 1) ((congrFun (up2_eq _ _ _ _) _).trans pk_us) ?_
  refine lv_if_le (tgt := 40) F.1 F.2.1 dX7_ofVisit_35 (by decide) (fun c_2 => absurd c_2 (by decide)) (fun c_2 => ?_)
  refine lv_iconst (v := 0) F.1 F.2.1 dX7_ofVisit_38 (by decide) ?_
  exact q_retI (S := Unit) F hr hlk w ⟨rfl, RepM.cg hM rfl⟩ dX7_ofVisit_39
def g_X7_list_1 (G : GS) (x1 : Int32) : GS := up2 G 0 0 (if f_X7_isFlag x1 = 0 then 1 else 0)
theorem e_g_X7_list_1 (G : GS) (x1 : Int32) {j : Nat} (h : j ∉ [0]) : g_X7_list_1 G x1 j = G j := (up2_ne (fun q => h (by rw [q]; exact List.mem_cons_self))).trans rfl
def f_X7_list (G : GS) (x1 : Int32) : Int32 := if (if f_X7_isFlag x1 = 0 then 1 else 0 : Int32) ≤ 0 then f_X7_listOf (g_X7_list_1 G x1) x1 else 0
def g_X7_list (G : GS) (x1 : Int32) : GS := g_X7_list_1 G x1
set_option maxHeartbeats 4000000 in
set_option maxRecDepth 100000 in
theorem c_X7_list (l : Launch) (D : va_G) (cy : Nat → ClassId) (A : Nat → Prop) (μ : MU) (m0 : Nat) (ad : Nat → Nat) (G : GS) (hM : RepM cy m0 ad G μ) (x1 : Int32) (hI : InvM G) : Met l yX7_list (WS yX7_list cX7_list 2 (Option.some Jvm.ClassFile.FieldType.int)) { frames := 2, cells := 0, slots := 0, locals := 46 } (va_Pc [.ref m0, .int x1] (Wd D cy A μ)) (va_Qi (fun (r9 : Int32) (μ1 : MU) => r9 = f_X7_list G x1 ∧ RepM cy m0 ad (g_X7_list G x1) μ1) (fun μ1 t => Wd D cy A μ1 t) A) 0 0 A := by
  refine q_met (by decide) (Nat.le_of_ble_eq_true rfl) ?_
  intro p e s m below meth c F w hr hlk hnm ls hl
  have F : CallFix p m c cX7_list 2 s _ BIG RX7 := F
  have hl : lv_has ls 2 [(0, .ref m0), (1, .int x1)] := hl
  refine lv_aload_n F.1 F.2.1 dX7_list_0 rfl (lv_at hl 0 rfl) ?_
  refine lv_iload_n F.1 F.2.1 dX7_list_1 rfl (lv_at hl 1 rfl) ?_
  refine q_rS (rest := [.ref m0]) F w kS_X7_146 hd_X7_isFlag (c_X7_isFlag l D cy A _ x1) dX7_list_2 rfl rfl hl.1 ⟨rfl, rfl, Nat.le_of_ble_eq_true rfl, Nat.le_of_ble_eq_true rfl⟩ (Nat.le_of_ble_eq_true rfl) ⟨Nat.zero_le _, Nat.zero_le _⟩ ?_
  refine jn0 (m := m) (ls := ls) (rest := [.ref m0]) (if f_X7_isFlag x1 = 0 then 1 else 0) 13 (fun J_1 => ?_) ?_
  · refine lv_if_eq (tgt := 12) F.1 F.2.1 dX7_list_5 (by decide) (fun c_2 => ?_) (fun c_2 => ?_)
    · refine lv_iconst (v := 1) F.1 F.2.1 dX7_list_12 (by decide) ?_
      exact jn_a (if_pos c_2) J_1
    · refine lv_iconst (v := 0) F.1 F.2.1 dX7_list_8 (by decide) ?_
      refine lv_goto (tgt := 13) F.1 F.2.1 dX7_list_9 (by decide) ?_
      exact jn_a (if_neg c_2) J_1
  refine mp_128 F w hM dX7_list_13 (fun H locs μ w hM => ?_)
  have hM : RepM cy m0 ad (g_X7_list_1 G x1) μ := hM
  refine lv_aload_n F.1 F.2.1 dX7_list_16 rfl (lv_at hl 0 rfl) ?_
  refine gf_X7_128 F w hM.1 rfl dX7_list_17 ?_
  refine lv_fold (y := if f_X7_isFlag x1 = 0 then 1 else 0) ((congrFun (up2_eq _ _ _ _) _).trans pk_us) ?_
  refine jn0 (m := m) (ls := ls) (rest := []) (if (if f_X7_isFlag x1 = 0 then 1 else 0 : Int32) ≤ 0 then f_X7_listOf (g_X7_list_1 G x1) x1 else 0) 32 (fun J_3 => ?_) ?_
  · refine lv_if_le (tgt := 27) F.1 F.2.1 dX7_list_20 (by decide) (fun c_4 => ?_) (fun c_4 => ?_)
    · refine lv_aload_n F.1 F.2.1 dX7_list_27 rfl (lv_at hl 0 rfl) ?_
      refine lv_iload_n F.1 F.2.1 dX7_list_28 rfl (lv_at hl 1 rfl) ?_
      refine q_rV (rest := []) F w kV_X7_195 hd_X7_listOf (ci := 8) rfl (c_X7_listOf l D cy A _ m0 ad (g_X7_list_1 G x1) hM x1 (InvM.fr hI 0 0 (if f_X7_isFlag x1 = 0 then 1 else 0) rfl)) hM.1 dX7_list_29 rfl rfl hl.1 ⟨rfl, rfl, Nat.le_of_ble_eq_true rfl, Nat.le_of_ble_eq_true rfl⟩ (Nat.le_of_ble_eq_true rfl) ⟨Nat.zero_le _, Nat.zero_le _⟩ ?_
      exact jn_a (if_pos c_4) J_3
    · refine lv_iconst (v := 0) F.1 F.2.1 dX7_list_23 (by decide) ?_
      refine lv_goto (tgt := 32) F.1 F.2.1 dX7_list_24 (by decide) ?_
      exact jn_a (if_neg c_4) J_3
  exact q_retI (S := Unit) F hr hlk w ⟨rfl, RepM.cg hM rfl⟩ dX7_list_32
def g_X7_missed_1 (G : GS) (i1 : Nat) : GS := up2 G 0 0 (if f_X7_isPort (nI i1) = 0 then 1 else 0)
theorem e_g_X7_missed_1 (G : GS) (i1 : Nat) {j : Nat} (h : j ∉ [0]) : g_X7_missed_1 G i1 j = G j := (up2_ne (fun q => h (by rw [q]; exact List.mem_cons_self))).trans rfl
def f_X7_missed (G : GS) (i1 : Nat) : Int32 := if (if f_X7_isPort (nI i1) = 0 then 1 else 0 : Int32) ≤ 0 then G 43 i1 else 0
def g_X7_missed (G : GS) (i1 : Nat) : GS := g_X7_missed_1 G i1
set_option maxHeartbeats 4000000 in
set_option maxRecDepth 100000 in
theorem c_X7_missed (l : Launch) (D : va_G) (cy : Nat → ClassId) (A : Nat → Prop) (μ : MU) (m0 : Nat) (ad : Nat → Nat) (G : GS) (hM : RepM cy m0 ad G μ) (i1 : Nat) (hi1 : i1 < 4) : Met l yX7_missed (WS yX7_missed cX7_missed 2 (Option.some Jvm.ClassFile.FieldType.int)) { frames := 2, cells := 0, slots := 0, locals := 42 } (va_Pc [.ref m0, .int (nI i1)] (Wd D cy A μ)) (va_Qi (fun (r9 : Int32) (μ1 : MU) => r9 = f_X7_missed G i1 ∧ RepM cy m0 ad (g_X7_missed G i1) μ1) (fun μ1 t => Wd D cy A μ1 t) A) 0 0 A := by
  refine q_met (by decide) (Nat.le_of_ble_eq_true rfl) ?_
  intro p e s m below meth c F w hr hlk hnm ls hl
  have F : CallFix p m c cX7_missed 2 s _ BIG RX7 := F
  have hl : lv_has ls 2 [(0, .ref m0), (1, .int (nI i1))] := hl
  refine lv_aload_n F.1 F.2.1 dX7_missed_0 rfl (lv_at hl 0 rfl) ?_
  refine lv_iload_n F.1 F.2.1 dX7_missed_1 rfl (lv_at hl 1 rfl) ?_
  refine q_rS (rest := [.ref m0]) F w kS_X7_213 hd_X7_isPort (c_X7_isPort l D cy A _ (nI i1)) dX7_missed_2 rfl rfl hl.1 ⟨rfl, rfl, Nat.le_of_ble_eq_true rfl, Nat.le_of_ble_eq_true rfl⟩ (Nat.le_of_ble_eq_true rfl) ⟨Nat.zero_le _, Nat.zero_le _⟩ ?_
  refine jn0 (m := m) (ls := ls) (rest := [.ref m0]) (if f_X7_isPort (nI i1) = 0 then 1 else 0) 13 (fun J_1 => ?_) ?_
  · refine lv_if_eq (tgt := 12) F.1 F.2.1 dX7_missed_5 (by decide) (fun c_2 => ?_) (fun c_2 => ?_)
    · refine lv_iconst (v := 1) F.1 F.2.1 dX7_missed_12 (by decide) ?_
      exact jn_a (if_pos c_2) J_1
    · refine lv_iconst (v := 0) F.1 F.2.1 dX7_missed_8 (by decide) ?_
      refine lv_goto (tgt := 13) F.1 F.2.1 dX7_missed_9 (by decide) ?_
      exact jn_a (if_neg c_2) J_1
  refine mp_128 F w hM dX7_missed_13 (fun H locs μ w hM => ?_)
  have hM : RepM cy m0 ad (g_X7_missed_1 G i1) μ := hM
  refine lv_aload_n F.1 F.2.1 dX7_missed_16 rfl (lv_at hl 0 rfl) ?_
  refine gf_X7_128 F w hM.1 rfl dX7_missed_17 ?_
  refine lv_fold (y := if f_X7_isPort (nI i1) = 0 then 1 else 0) ((congrFun (up2_eq _ _ _ _) _).trans pk_us) ?_
  refine jn0 (m := m) (ls := ls) (rest := []) (if (if f_X7_isPort (nI i1) = 0 then 1 else 0 : Int32) ≤ 0 then G 43 i1 else 0) 33 (fun J_3 => ?_) ?_
  · refine lv_if_le (tgt := 27) F.1 F.2.1 dX7_missed_20 (by decide) (fun c_4 => ?_) (fun c_4 => ?_)
    · refine lv_aload_n F.1 F.2.1 dX7_missed_27 rfl (lv_at hl 0 rfl) ?_
      refine gf_X7_125 F w hM.1 rfl dX7_missed_28 ?_
      refine lv_iload_n F.1 F.2.1 dX7_missed_31 rfl (lv_at hl 1 rfl) ?_
      refine m_ild F w hM 43 (by decide) rfl rfl i1 (show i1 < 4 by omega) (by decide) dX7_missed_32 ?_
      refine lv_fold (y := G 43 i1) (congrFun (e_g_X7_missed_1 G i1 (by decide)) i1) ?_
      exact jn_a (if_pos c_4) J_3
    · refine lv_iconst (v := 0) F.1 F.2.1 dX7_missed_23 (by decide) ?_
      refine lv_goto (tgt := 33) F.1 F.2.1 dX7_missed_24 (by decide) ?_
      exact jn_a (if_neg c_4) J_3
  exact q_retI (S := Unit) F hr hlk w ⟨rfl, RepM.cg hM rfl⟩ dX7_missed_33
def g_X7_missed_b_1 (G : GS) (x1 : Int32) : GS := up2 G 0 0 1
theorem e_g_X7_missed_b_1 (G : GS) (x1 : Int32) {j : Nat} (h : j ∉ [0]) : g_X7_missed_b_1 G x1 j = G j := (up2_ne (fun q => h (by rw [q]; exact List.mem_cons_self))).trans rfl
def f_X7_missed_b (G : GS) (x1 : Int32) : Int32 := 0
def g_X7_missed_b (G : GS) (x1 : Int32) : GS := g_X7_missed_b_1 G x1
set_option maxHeartbeats 4000000 in
set_option maxRecDepth 100000 in
theorem c_X7_missed_b (l : Launch) (D : va_G) (cy : Nat → ClassId) (A : Nat → Prop) (μ : MU) (m0 : Nat) (ad : Nat → Nat) (G : GS) (hM : RepM cy m0 ad G μ) (x1 : Int32) (hb : f_X7_isPort x1 = 0) : Met l yX7_missed (WS yX7_missed cX7_missed 2 (Option.some Jvm.ClassFile.FieldType.int)) { frames := 2, cells := 0, slots := 0, locals := 42 } (va_Pc [.ref m0, .int x1] (Wd D cy A μ)) (va_Qi (fun (r9 : Int32) (μ1 : MU) => r9 = f_X7_missed_b G x1 ∧ RepM cy m0 ad (g_X7_missed_b G x1) μ1) (fun μ1 t => Wd D cy A μ1 t) A) 0 0 A := by
  refine q_met (by decide) (Nat.le_of_ble_eq_true rfl) ?_
  intro p e s m below meth c F w hr hlk hnm ls hl
  have F : CallFix p m c cX7_missed 2 s _ BIG RX7 := F
  have hl : lv_has ls 2 [(0, .ref m0), (1, .int x1)] := hl
  refine lv_aload_n F.1 F.2.1 dX7_missed_0 rfl (lv_at hl 0 rfl) ?_
  refine lv_iload_n F.1 F.2.1 dX7_missed_1 rfl (lv_at hl 1 rfl) ?_
  refine q_rS (rest := [.ref m0]) F w kS_X7_213 hd_X7_isPort (c_X7_isPort l D cy A _ x1) dX7_missed_2 rfl rfl hl.1 ⟨rfl, rfl, Nat.le_of_ble_eq_true rfl, Nat.le_of_ble_eq_true rfl⟩ (Nat.le_of_ble_eq_true rfl) ⟨Nat.zero_le _, Nat.zero_le _⟩ ?_
  refine lv_if_eq (tgt := 12) F.1 F.2.1 dX7_missed_5 (by decide) (fun c_1 => ?_) (fun c_1 => absurd hb c_1)
  refine lv_iconst (v := 1) F.1 F.2.1 dX7_missed_12 (by decide) ?_
  refine mp_128 F w hM dX7_missed_13 (fun H locs μ w hM => ?_)
  have hM : RepM cy m0 ad (g_X7_missed_b_1 G x1) μ := hM
  refine lv_aload_n F.1 F.2.1 dX7_missed_16 rfl (lv_at hl 0 rfl) ?_
  refine gf_X7_128 F w hM.1 rfl dX7_missed_17 ?_
  refine lv_fold (y := 1) ((congrFun (up2_eq _ _ _ _) _).trans pk_us) ?_
  refine lv_if_le (tgt := 27) F.1 F.2.1 dX7_missed_20 (by decide) (fun c_2 => absurd c_2 (by decide)) (fun c_2 => ?_)
  refine lv_iconst (v := 0) F.1 F.2.1 dX7_missed_23 (by decide) ?_
  refine lv_goto (tgt := 33) F.1 F.2.1 dX7_missed_24 (by decide) ?_
  exact q_retI (S := Unit) F hr hlk w ⟨rfl, RepM.cg hM rfl⟩ dX7_missed_33
def g_X7_knew_1 (G : GS) (i1 : Nat) (x2 : Int32) (x3 : Int32) : GS := up2 G 0 0 (if f_X7_isShip G (nI i1) = 0 then 1 else (if f_X7_isPort x2 = 0 then 1 else (if f_X7_in x3 0 (G 1 0) = 0 then 2 else 0)))
theorem e_g_X7_knew_1 (G : GS) (i1 : Nat) (x2 : Int32) (x3 : Int32) {j : Nat} (h : j ∉ [0]) : g_X7_knew_1 G i1 x2 x3 j = G j := (up2_ne (fun q => h (by rw [q]; exact List.mem_cons_self))).trans rfl
def v_X7_knew_106 (G : GS) (i1 : Nat) (x2 : Int32) (x3 : Int32) (k46 : Nat) : Int32 := if G 30 k46 = nI i1 then (if x3 < (G 32 k46) + (if G 31 k46 = x2 then 0 else 3) then 0 else 1) else 0
theorem nz_v_X7_knew_106 (G : GS) (i1 : Nat) (x2 : Int32) (x3 : Int32) (k46 : Nat) : nz (v_X7_knew_106 G i1 x2 x3 k46) := (nz_ite (nz_ite nz0 nz1) nz0)
def L_X7_knew_46_4 (G : GS) (i1 : Nat) (x2 : Int32) (x3 : Int32) : Nat → Int32
  | 0 => 0
  | k46 + 1 => (L_X7_knew_46_4 G i1 x2 x3 k46) + (if v_X7_knew_106 G i1 x2 x3 k46 = 0 then 0 else G 35 k46)
def f_X7_knew (G : GS) (i1 : Nat) (x2 : Int32) (x3 : Int32) : Int32 := L_X7_knew_46_4 G i1 x2 x3 (gnV G)
def g_X7_knew (G : GS) (i1 : Nat) (x2 : Int32) (x3 : Int32) : GS := g_X7_knew_1 G i1 x2 x3
set_option maxHeartbeats 4000000 in
set_option maxRecDepth 100000 in
theorem c_X7_knew (l : Launch) (D : va_G) (cy : Nat → ClassId) (A : Nat → Prop) (μ : MU) (m0 : Nat) (ad : Nat → Nat) (G : GS) (hM : RepM cy m0 ad G μ) (i1 : Nat) (x2 : Int32) (x3 : Int32) (hi1 : i1 < 12) (hI : InvM G) (ht : (if f_X7_isShip G (nI i1) = 0 then 1 else (if f_X7_isPort x2 = 0 then 1 else (if f_X7_in x3 0 (G 1 0) = 0 then 2 else 0)) : Int32) = 0) : Met l yX7_knew (WS yX7_knew cX7_knew 7 (Option.some Jvm.ClassFile.FieldType.int)) { frames := 2, cells := 0, slots := 0, locals := 43 } (va_Pc [.ref m0, .int (nI i1), .int x2, .int x3] (Wd D cy A μ)) (va_Qi (fun (r9 : Int32) (μ1 : MU) => r9 = f_X7_knew G i1 x2 x3 ∧ RepM cy m0 ad (g_X7_knew G i1 x2 x3) μ1) (fun μ1 t => Wd D cy A μ1 t) A) 0 0 A := by
  refine q_met (by decide) (Nat.le_of_ble_eq_true rfl) ?_
  intro p e s m below meth c F w hr hlk hnm ls hl
  have F : CallFix p m c cX7_knew 7 s _ BIG RX7 := F
  have hl : lv_has ls 7 [(0, .ref m0), (1, .int (nI i1)), (2, .int x2), (3, .int x3)] := hl
  have hnV := hI.v.2
  refine lv_aload_n F.1 F.2.1 dX7_knew_0 rfl (lv_at hl 0 rfl) ?_
  refine lv_aload_n F.1 F.2.1 dX7_knew_1 rfl (lv_at hl 0 rfl) ?_
  refine lv_iload_n F.1 F.2.1 dX7_knew_2 rfl (lv_at hl 1 rfl) ?_
  refine q_rV (rest := [.ref m0]) F w kV_X7_153 hd_X7_isShip (ci := 8) rfl (c_X7_isShip l D cy A _ m0 ad G hM (nI i1)) hM.1 dX7_knew_3 rfl rfl hl.1 ⟨rfl, rfl, Nat.le_of_ble_eq_true rfl, Nat.le_of_ble_eq_true rfl⟩ (Nat.le_of_ble_eq_true rfl) ⟨Nat.zero_le _, Nat.zero_le _⟩ ?_
  refine jn0 (m := m) (ls := ls) (rest := [.ref m0]) (if f_X7_isShip G (nI i1) = 0 then 1 else (if f_X7_isPort x2 = 0 then 1 else (if f_X7_in x3 0 (G 1 0) = 0 then 2 else 0))) 37 (fun J_1 => ?_) ?_
  · refine lv_if_eq (tgt := 16) F.1 F.2.1 dX7_knew_6 (by decide) (fun c_2 => ?_) (fun c_2 => ?_)
    · refine lv_iconst (v := 1) F.1 F.2.1 dX7_knew_16 (by decide) ?_
      refine lv_goto (tgt := 37) F.1 F.2.1 dX7_knew_17 (by decide) ?_
      exact jn_a (if_pos c_2) J_1
    · refine lv_iload_n F.1 F.2.1 dX7_knew_9 rfl (lv_at hl 2 rfl) ?_
      refine q_rS (rest := [.ref m0]) F w kS_X7_213 hd_X7_isPort (c_X7_isPort l D cy A _ x2) dX7_knew_10 rfl rfl hl.1 ⟨rfl, rfl, Nat.le_of_ble_eq_true rfl, Nat.le_of_ble_eq_true rfl⟩ (Nat.le_of_ble_eq_true rfl) ⟨Nat.zero_le _, Nat.zero_le _⟩ ?_
      refine lv_if_ne (tgt := 20) F.1 F.2.1 dX7_knew_13 (by decide) (fun c_3 => ?_) (fun c_3 => ?_)
      · refine lv_iload_n F.1 F.2.1 dX7_knew_20 rfl (lv_at hl 3 rfl) ?_
        refine lv_iconst (v := 0) F.1 F.2.1 dX7_knew_21 (by decide) ?_
        refine lv_aload_n F.1 F.2.1 dX7_knew_22 rfl (lv_at hl 0 rfl) ?_
        refine gf_X7_142 F w hM.1 rfl dX7_knew_23 ?_
        refine q_rS (rest := [.ref m0]) F w kS_X7_135 hd_X7_in (c_X7_in l D cy A _ x3 0 (G 1 0)) dX7_knew_26 rfl rfl hl.1 ⟨rfl, rfl, Nat.le_of_ble_eq_true rfl, Nat.le_of_ble_eq_true rfl⟩ (Nat.le_of_ble_eq_true rfl) ⟨Nat.zero_le _, Nat.zero_le _⟩ ?_
        refine lv_if_eq (tgt := 36) F.1 F.2.1 dX7_knew_29 (by decide) (fun c_4 => ?_) (fun c_4 => ?_)
        · refine lv_iconst (v := 2) F.1 F.2.1 dX7_knew_36 (by decide) ?_
          exact jn_a ((if_neg c_2).trans ((if_neg c_3).trans (if_pos c_4))) J_1
        · refine lv_iconst (v := 0) F.1 F.2.1 dX7_knew_32 (by decide) ?_
          refine lv_goto (tgt := 37) F.1 F.2.1 dX7_knew_33 (by decide) ?_
          exact jn_a ((if_neg c_2).trans ((if_neg c_3).trans (if_neg c_4))) J_1
      · refine lv_iconst (v := 1) F.1 F.2.1 dX7_knew_16 (by decide) ?_
        refine lv_goto (tgt := 37) F.1 F.2.1 dX7_knew_17 (by decide) ?_
        exact jn_a ((if_neg c_2).trans (if_pos c_3)) J_1
  refine mp_128 F w hM dX7_knew_37 (fun H locs μ w hM => ?_)
  have hM : RepM cy m0 ad (g_X7_knew_1 G i1 x2 x3) μ := hM
  refine lv_iconst (v := 0) F.1 F.2.1 dX7_knew_40 (by decide) ?_
  refine lv_istore (lv' := [(4, .int 0), (0, .ref m0), (1, .int (nI i1)), (2, .int x2), (3, .int x3)]) F.1 F.2.1 dX7_knew_41 hl (by decide) rfl (fun ls hl => ?_)
  refine lv_iconst (v := 0) F.1 F.2.1 dX7_knew_43 (by decide) ?_
  refine lv_istore (lv' := [(5, .int 0), (4, .int 0), (0, .ref m0), (1, .int (nI i1)), (2, .int x2), (3, .int x3)]) F.1 F.2.1 dX7_knew_44 hl (by decide) rfl (fun ls hl => ?_)
  refine q_loop (P := fun k46 ls => lv_has ls 7 [(5, .int (nI k46)), (4, .int (L_X7_knew_46_4 G i1 x2 x3 k46)), (0, .ref m0), (1, .int (nI i1)), (2, .int x2), (3, .int x3)]) (gnV G) (fun k46 ls hk46 hl ih46 => ?_) 0 ls (Nat.zero_le _) (lv_cg (lv_sub hl [0, 1, 2, 3, 4, 5] rfl) rfl)
  refine lv_iload F.1 F.2.1 dX7_knew_46 (lv_at hl 0 rfl) ?_
  refine lv_aload_n F.1 F.2.1 dX7_knew_48 rfl (lv_at hl 2 rfl) ?_
  refine gf_X7_139 F w hM.1 rfl dX7_knew_49 ?_
  refine lv_fold (y := G 29 0) (congrFun (e_g_X7_knew_1 G i1 x2 x3 (by decide)) 0) ?_
  refine lv_icmp_ge (tgt := 135) F.1 F.2.1 dX7_knew_52 (by decide) (fun c_5 => ?_) (fun c_5 => ?_)
  rotate_left
  · have hlt46 : k46 < (gnV G) := GB_ilt hI.v.1 (Nat.lt_of_le_of_lt hI.v.2 (by decide)) hk46 c_5
    refine lv_aload_n F.1 F.2.1 dX7_knew_55 rfl (lv_at hl 2 rfl) ?_
    refine gf_X7_128 F w hM.1 rfl dX7_knew_56 ?_
    refine lv_fold (y := if f_X7_isShip G (nI i1) = 0 then 1 else (if f_X7_isPort x2 = 0 then 1 else (if f_X7_in x3 0 (G 1 0) = 0 then 2 else 0))) ((congrFun (up2_eq _ _ _ _) _).trans pk_us) ?_
    refine lv_if_ne (tgt := 135) F.1 F.2.1 dX7_knew_59 (by decide) (fun c_6 => absurd ht c_6) (fun c_6 => ?_)
    refine lv_aload_n F.1 F.2.1 dX7_knew_62 rfl (lv_at hl 2 rfl) ?_
    refine gf_X7_86 F w hM.1 rfl dX7_knew_63 ?_
    refine lv_iload F.1 F.2.1 dX7_knew_66 (lv_at hl 0 rfl) ?_
    refine m_ild F w hM 30 (by decide) rfl rfl k46 (show k46 < 60 by omega) (by decide) dX7_knew_68 ?_
    refine lv_fold (y := G 30 k46) (congrFun (e_g_X7_knew_1 G i1 x2 x3 (by decide)) k46) ?_
    refine lv_iload_n F.1 F.2.1 dX7_knew_69 rfl (lv_at hl 3 rfl) ?_
    refine jn0 (m := m) (ls := ls) (rest := []) (if G 30 k46 = nI i1 then (if x3 < (G 32 k46) + (if G 31 k46 = x2 then 0 else 3) then 0 else 1) else 0) 106 (fun J_7 => ?_) ?_
    · refine lv_icmp_ne (tgt := 105) F.1 F.2.1 dX7_knew_70 (by decide) (fun c_8 => ?_) (fun c_8 => ?_)
      · refine lv_iconst (v := 0) F.1 F.2.1 dX7_knew_105 (by decide) ?_
        exact jn_a (if_neg c_8) J_7
      · refine lv_aload_n F.1 F.2.1 dX7_knew_73 rfl (lv_at hl 2 rfl) ?_
        refine gf_X7_92 F w hM.1 rfl dX7_knew_74 ?_
        refine lv_iload F.1 F.2.1 dX7_knew_77 (lv_at hl 0 rfl) ?_
        refine m_ild F w hM 32 (by decide) rfl rfl k46 (show k46 < 60 by omega) (by decide) dX7_knew_79 ?_
        refine lv_fold (y := G 32 k46) (congrFun (e_g_X7_knew_1 G i1 x2 x3 (by decide)) k46) ?_
        refine lv_aload_n F.1 F.2.1 dX7_knew_80 rfl (lv_at hl 2 rfl) ?_
        refine gf_X7_89 F w hM.1 rfl dX7_knew_81 ?_
        refine lv_iload F.1 F.2.1 dX7_knew_84 (lv_at hl 0 rfl) ?_
        refine m_ild F w hM 31 (by decide) rfl rfl k46 (show k46 < 60 by omega) (by decide) dX7_knew_86 ?_
        refine lv_fold (y := G 31 k46) (congrFun (e_g_X7_knew_1 G i1 x2 x3 (by decide)) k46) ?_
        refine lv_iload_n F.1 F.2.1 dX7_knew_87 rfl (lv_at hl 4 rfl) ?_
        refine jn0 (m := m) (ls := ls) (rest := [.int (G 32 k46)]) (if G 31 k46 = x2 then 0 else 3) 96 (fun J_9 => ?_) ?_
        · refine lv_icmp_ne (tgt := 95) F.1 F.2.1 dX7_knew_88 (by decide) (fun c_10 => ?_) (fun c_10 => ?_)
          · refine lv_iconst (v := 3) F.1 F.2.1 dX7_knew_95 (by decide) ?_
            exact jn_a (if_neg c_10) J_9
          · refine lv_iconst (v := 0) F.1 F.2.1 dX7_knew_91 (by decide) ?_
            refine lv_goto (tgt := 96) F.1 F.2.1 dX7_knew_92 (by decide) ?_
            exact jn_a (if_pos c_10) J_9
        refine lv_iadd F.1 F.2.1 dX7_knew_96 ?_
        refine lv_iload_n F.1 F.2.1 dX7_knew_97 rfl (lv_at hl 5 rfl) ?_
        refine lv_icmp_gt (tgt := 105) F.1 F.2.1 dX7_knew_98 (by decide) (fun c_11 => ?_) (fun c_11 => ?_)
        · refine lv_iconst (v := 0) F.1 F.2.1 dX7_knew_105 (by decide) ?_
          exact jn_a ((if_pos c_8).trans (if_pos c_11)) J_7
        · refine lv_iconst (v := 1) F.1 F.2.1 dX7_knew_101 (by decide) ?_
          refine lv_goto (tgt := 106) F.1 F.2.1 dX7_knew_102 (by decide) ?_
          exact jn_a ((if_pos c_8).trans (if_neg c_11)) J_7
    refine lv_fold (y := v_X7_knew_106 G i1 x2 x3 k46) rfl ?_
    refine lv_istore (lv' := [(6, .int (v_X7_knew_106 G i1 x2 x3 k46)), (5, .int (nI k46)), (4, .int (L_X7_knew_46_4 G i1 x2 x3 k46)), (0, .ref m0), (1, .int (nI i1)), (2, .int x2), (3, .int x3)]) F.1 F.2.1 dX7_knew_106 hl (by decide) rfl (fun ls hl => ?_)
    refine lv_iload F.1 F.2.1 dX7_knew_108 (lv_at hl 2 rfl) ?_
    refine lv_iload F.1 F.2.1 dX7_knew_110 (lv_at hl 0 rfl) ?_
    refine jn0 (m := m) (ls := ls) (rest := [.int (L_X7_knew_46_4 G i1 x2 x3 k46)]) (if v_X7_knew_106 G i1 x2 x3 k46 = 0 then 0 else G 35 k46) 126 (fun J_12 => ?_) ?_
    · refine lv_if_eq (tgt := 125) F.1 F.2.1 dX7_knew_112 (by decide) (fun c_13 => ?_) (fun c_13 => ?_)
      · refine lv_iconst (v := 0) F.1 F.2.1 dX7_knew_125 (by decide) ?_
        exact jn_a (if_pos c_13) J_12
      · refine lv_aload_n F.1 F.2.1 dX7_knew_115 rfl (lv_at hl 3 rfl) ?_
        refine gf_X7_101 F w hM.1 rfl dX7_knew_116 ?_
        refine lv_iload F.1 F.2.1 dX7_knew_119 (lv_at hl 1 rfl) ?_
        refine m_ild F w hM 35 (by decide) rfl rfl k46 (show k46 < 60 by omega) (by decide) dX7_knew_121 ?_
        refine lv_fold (y := G 35 k46) (congrFun (e_g_X7_knew_1 G i1 x2 x3 (by decide)) k46) ?_
        refine lv_goto (tgt := 126) F.1 F.2.1 dX7_knew_122 (by decide) ?_
        exact jn_a (if_neg c_13) J_12
    refine lv_iadd F.1 F.2.1 dX7_knew_126 ?_
    refine lv_istore (lv' := [(4, .int ((L_X7_knew_46_4 G i1 x2 x3 k46) + (if v_X7_knew_106 G i1 x2 x3 k46 = 0 then 0 else G 35 k46))), (6, .int (v_X7_knew_106 G i1 x2 x3 k46)), (5, .int (nI k46)), (0, .ref m0), (1, .int (nI i1)), (2, .int x2), (3, .int x3)]) F.1 F.2.1 dX7_knew_127 hl (by decide) rfl (fun ls hl => ?_)
    refine lv_iinc (v := nI (k46 + 1)) (lv' := [(5, .int (nI (k46 + 1))), (4, .int ((L_X7_knew_46_4 G i1 x2 x3 k46) + (if v_X7_knew_106 G i1 x2 x3 k46 = 0 then 0 else G 35 k46))), (6, .int (v_X7_knew_106 G i1 x2 x3 k46)), (0, .ref m0), (1, .int (nI i1)), (2, .int x2), (3, .int x3)]) F.1 F.2.1 dX7_knew_129 hl (k := 2) rfl (nI_1 _) (by decide) rfl (fun ls hl => ?_)
    refine lv_goto (tgt := 46) F.1 F.2.1 dX7_knew_132 (by decide) ?_
    exact ih46 ls hlt46 (lv_sub hl [0, 1, 3, 4, 5, 6] rfl)
  have hkn46 : k46 = (gnV G) := GB_ile hI.v.1 (Nat.lt_of_le_of_lt hI.v.2 (by decide)) hk46 c_5
  subst hkn46
  refine lv_iload F.1 F.2.1 dX7_knew_135 (lv_at hl 1 rfl) ?_
  exact q_retI (S := Unit) F hr hlk w ⟨rfl, RepM.cg hM rfl⟩ dX7_knew_137
def g_X7_knew_t_1 (G : GS) (i1 : Nat) (x2 : Int32) (x3 : Int32) : GS := up2 G 0 0 (if f_X7_isShip G (nI i1) = 0 then 1 else (if f_X7_isPort x2 = 0 then 1 else (if f_X7_in x3 0 (G 1 0) = 0 then 2 else 0)))
theorem e_g_X7_knew_t_1 (G : GS) (i1 : Nat) (x2 : Int32) (x3 : Int32) {j : Nat} (h : j ∉ [0]) : g_X7_knew_t_1 G i1 x2 x3 j = G j := (up2_ne (fun q => h (by rw [q]; exact List.mem_cons_self))).trans rfl
def f_X7_knew_t (G : GS) (i1 : Nat) (x2 : Int32) (x3 : Int32) : Int32 := 0
def g_X7_knew_t (G : GS) (i1 : Nat) (x2 : Int32) (x3 : Int32) : GS := g_X7_knew_t_1 G i1 x2 x3
set_option maxHeartbeats 4000000 in
set_option maxRecDepth 100000 in
theorem c_X7_knew_t (l : Launch) (D : va_G) (cy : Nat → ClassId) (A : Nat → Prop) (μ : MU) (m0 : Nat) (ad : Nat → Nat) (G : GS) (hM : RepM cy m0 ad G μ) (i1 : Nat) (x2 : Int32) (x3 : Int32) (hi1 : i1 < 12) (ht : ¬ (if f_X7_isShip G (nI i1) = 0 then 1 else (if f_X7_isPort x2 = 0 then 1 else (if f_X7_in x3 0 (G 1 0) = 0 then 2 else 0)) : Int32) = 0) : Met l yX7_knew (WS yX7_knew cX7_knew 7 (Option.some Jvm.ClassFile.FieldType.int)) { frames := 2, cells := 0, slots := 0, locals := 43 } (va_Pc [.ref m0, .int (nI i1), .int x2, .int x3] (Wd D cy A μ)) (va_Qi (fun (r9 : Int32) (μ1 : MU) => r9 = f_X7_knew_t G i1 x2 x3 ∧ RepM cy m0 ad (g_X7_knew_t G i1 x2 x3) μ1) (fun μ1 t => Wd D cy A μ1 t) A) 0 0 A := by
  refine q_met (by decide) (Nat.le_of_ble_eq_true rfl) ?_
  intro p e s m below meth c F w hr hlk hnm ls hl
  have F : CallFix p m c cX7_knew 7 s _ BIG RX7 := F
  have hl : lv_has ls 7 [(0, .ref m0), (1, .int (nI i1)), (2, .int x2), (3, .int x3)] := hl
  refine lv_aload_n F.1 F.2.1 dX7_knew_0 rfl (lv_at hl 0 rfl) ?_
  refine lv_aload_n F.1 F.2.1 dX7_knew_1 rfl (lv_at hl 0 rfl) ?_
  refine lv_iload_n F.1 F.2.1 dX7_knew_2 rfl (lv_at hl 1 rfl) ?_
  refine q_rV (rest := [.ref m0]) F w kV_X7_153 hd_X7_isShip (ci := 8) rfl (c_X7_isShip l D cy A _ m0 ad G hM (nI i1)) hM.1 dX7_knew_3 rfl rfl hl.1 ⟨rfl, rfl, Nat.le_of_ble_eq_true rfl, Nat.le_of_ble_eq_true rfl⟩ (Nat.le_of_ble_eq_true rfl) ⟨Nat.zero_le _, Nat.zero_le _⟩ ?_
  refine jn0 (m := m) (ls := ls) (rest := [.ref m0]) (if f_X7_isShip G (nI i1) = 0 then 1 else (if f_X7_isPort x2 = 0 then 1 else (if f_X7_in x3 0 (G 1 0) = 0 then 2 else 0))) 37 (fun J_1 => ?_) ?_
  · refine lv_if_eq (tgt := 16) F.1 F.2.1 dX7_knew_6 (by decide) (fun c_2 => ?_) (fun c_2 => ?_)
    · refine lv_iconst (v := 1) F.1 F.2.1 dX7_knew_16 (by decide) ?_
      refine lv_goto (tgt := 37) F.1 F.2.1 dX7_knew_17 (by decide) ?_
      exact jn_a (if_pos c_2) J_1
    · refine lv_iload_n F.1 F.2.1 dX7_knew_9 rfl (lv_at hl 2 rfl) ?_
      refine q_rS (rest := [.ref m0]) F w kS_X7_213 hd_X7_isPort (c_X7_isPort l D cy A _ x2) dX7_knew_10 rfl rfl hl.1 ⟨rfl, rfl, Nat.le_of_ble_eq_true rfl, Nat.le_of_ble_eq_true rfl⟩ (Nat.le_of_ble_eq_true rfl) ⟨Nat.zero_le _, Nat.zero_le _⟩ ?_
      refine lv_if_ne (tgt := 20) F.1 F.2.1 dX7_knew_13 (by decide) (fun c_3 => ?_) (fun c_3 => ?_)
      · refine lv_iload_n F.1 F.2.1 dX7_knew_20 rfl (lv_at hl 3 rfl) ?_
        refine lv_iconst (v := 0) F.1 F.2.1 dX7_knew_21 (by decide) ?_
        refine lv_aload_n F.1 F.2.1 dX7_knew_22 rfl (lv_at hl 0 rfl) ?_
        refine gf_X7_142 F w hM.1 rfl dX7_knew_23 ?_
        refine q_rS (rest := [.ref m0]) F w kS_X7_135 hd_X7_in (c_X7_in l D cy A _ x3 0 (G 1 0)) dX7_knew_26 rfl rfl hl.1 ⟨rfl, rfl, Nat.le_of_ble_eq_true rfl, Nat.le_of_ble_eq_true rfl⟩ (Nat.le_of_ble_eq_true rfl) ⟨Nat.zero_le _, Nat.zero_le _⟩ ?_
        refine lv_if_eq (tgt := 36) F.1 F.2.1 dX7_knew_29 (by decide) (fun c_4 => ?_) (fun c_4 => ?_)
        · refine lv_iconst (v := 2) F.1 F.2.1 dX7_knew_36 (by decide) ?_
          exact jn_a ((if_neg c_2).trans ((if_neg c_3).trans (if_pos c_4))) J_1
        · refine lv_iconst (v := 0) F.1 F.2.1 dX7_knew_32 (by decide) ?_
          refine lv_goto (tgt := 37) F.1 F.2.1 dX7_knew_33 (by decide) ?_
          exact jn_a ((if_neg c_2).trans ((if_neg c_3).trans (if_neg c_4))) J_1
      · refine lv_iconst (v := 1) F.1 F.2.1 dX7_knew_16 (by decide) ?_
        refine lv_goto (tgt := 37) F.1 F.2.1 dX7_knew_17 (by decide) ?_
        exact jn_a ((if_neg c_2).trans (if_pos c_3)) J_1
  refine mp_128 F w hM dX7_knew_37 (fun H locs μ w hM => ?_)
  have hM : RepM cy m0 ad (g_X7_knew_t_1 G i1 x2 x3) μ := hM
  refine lv_iconst (v := 0) F.1 F.2.1 dX7_knew_40 (by decide) ?_
  refine lv_istore (lv' := [(4, .int 0), (0, .ref m0), (1, .int (nI i1)), (2, .int x2), (3, .int x3)]) F.1 F.2.1 dX7_knew_41 hl (by decide) rfl (fun ls hl => ?_)
  refine lv_iconst (v := 0) F.1 F.2.1 dX7_knew_43 (by decide) ?_
  refine lv_istore (lv' := [(5, .int 0), (4, .int 0), (0, .ref m0), (1, .int (nI i1)), (2, .int x2), (3, .int x3)]) F.1 F.2.1 dX7_knew_44 hl (by decide) rfl (fun ls hl => ?_)
  refine lv_iload F.1 F.2.1 dX7_knew_46 (lv_at hl 0 rfl) ?_
  refine lv_aload_n F.1 F.2.1 dX7_knew_48 rfl (lv_at hl 2 rfl) ?_
  refine gf_X7_139 F w hM.1 rfl dX7_knew_49 ?_
  refine lv_fold (y := G 29 0) (congrFun (e_g_X7_knew_t_1 G i1 x2 x3 (by decide)) 0) ?_
  refine jnl (m := m) 7 [(5, .int 0), (4, .int 0), (0, .ref m0), (1, .int (nI i1)), (2, .int x2), (3, .int x3)] [] 135 (fun J_5 => ?_) ?_
  · refine lv_icmp_ge (tgt := 135) F.1 F.2.1 dX7_knew_52 (by decide) (fun c_6 => ?_) (fun c_6 => ?_)
    · exact J_5 ls (lv_sub hl [0, 1, 2, 3, 4, 5] (by rw [] <;> rfl))
    · refine lv_aload_n F.1 F.2.1 dX7_knew_55 rfl (lv_at hl 2 rfl) ?_
      refine gf_X7_128 F w hM.1 rfl dX7_knew_56 ?_
      refine lv_fold (y := if f_X7_isShip G (nI i1) = 0 then 1 else (if f_X7_isPort x2 = 0 then 1 else (if f_X7_in x3 0 (G 1 0) = 0 then 2 else 0))) ((congrFun (up2_eq _ _ _ _) _).trans pk_us) ?_
      refine lv_if_ne (tgt := 135) F.1 F.2.1 dX7_knew_59 (by decide) (fun c_7 => ?_) (fun c_7 => absurd c_7 ht)
      exact J_5 ls (lv_sub hl [0, 1, 2, 3, 4, 5] (by rw [] <;> rfl))
  intro ls hl
  refine lv_iload F.1 F.2.1 dX7_knew_135 (lv_at hl 1 rfl) ?_
  exact q_retI (S := Unit) F hr hlk w ⟨rfl, RepM.cg hM rfl⟩ dX7_knew_137
def g_X7_knew_b_1 (G : GS) (x1 : Int32) (x2 : Int32) (x3 : Int32) : GS := up2 G 0 0 1
theorem e_g_X7_knew_b_1 (G : GS) (x1 : Int32) (x2 : Int32) (x3 : Int32) {j : Nat} (h : j ∉ [0]) : g_X7_knew_b_1 G x1 x2 x3 j = G j := (up2_ne (fun q => h (by rw [q]; exact List.mem_cons_self))).trans rfl
def f_X7_knew_b (G : GS) (x1 : Int32) (x2 : Int32) (x3 : Int32) : Int32 := 0
def g_X7_knew_b (G : GS) (x1 : Int32) (x2 : Int32) (x3 : Int32) : GS := g_X7_knew_b_1 G x1 x2 x3
set_option maxHeartbeats 4000000 in
set_option maxRecDepth 100000 in
theorem c_X7_knew_b (l : Launch) (D : va_G) (cy : Nat → ClassId) (A : Nat → Prop) (μ : MU) (m0 : Nat) (ad : Nat → Nat) (G : GS) (hM : RepM cy m0 ad G μ) (x1 : Int32) (x2 : Int32) (x3 : Int32) (hb : f_X7_isShip G x1 = 0) : Met l yX7_knew (WS yX7_knew cX7_knew 7 (Option.some Jvm.ClassFile.FieldType.int)) { frames := 2, cells := 0, slots := 0, locals := 43 } (va_Pc [.ref m0, .int x1, .int x2, .int x3] (Wd D cy A μ)) (va_Qi (fun (r9 : Int32) (μ1 : MU) => r9 = f_X7_knew_b G x1 x2 x3 ∧ RepM cy m0 ad (g_X7_knew_b G x1 x2 x3) μ1) (fun μ1 t => Wd D cy A μ1 t) A) 0 0 A := by
  refine q_met (by decide) (Nat.le_of_ble_eq_true rfl) ?_
  intro p e s m below meth c F w hr hlk hnm ls hl
  have F : CallFix p m c cX7_knew 7 s _ BIG RX7 := F
  have hl : lv_has ls 7 [(0, .ref m0), (1, .int x1), (2, .int x2), (3, .int x3)] := hl
  refine lv_aload_n F.1 F.2.1 dX7_knew_0 rfl (lv_at hl 0 rfl) ?_
  refine lv_aload_n F.1 F.2.1 dX7_knew_1 rfl (lv_at hl 0 rfl) ?_
  refine lv_iload_n F.1 F.2.1 dX7_knew_2 rfl (lv_at hl 1 rfl) ?_
  refine q_rV (rest := [.ref m0]) F w kV_X7_153 hd_X7_isShip (ci := 8) rfl (c_X7_isShip l D cy A _ m0 ad G hM x1) hM.1 dX7_knew_3 rfl rfl hl.1 ⟨rfl, rfl, Nat.le_of_ble_eq_true rfl, Nat.le_of_ble_eq_true rfl⟩ (Nat.le_of_ble_eq_true rfl) ⟨Nat.zero_le _, Nat.zero_le _⟩ ?_
  refine lv_if_eq (tgt := 16) F.1 F.2.1 dX7_knew_6 (by decide) (fun c_1 => ?_) (fun c_1 => absurd hb c_1)
  refine lv_iconst (v := 1) F.1 F.2.1 dX7_knew_16 (by decide) ?_
  refine lv_goto (tgt := 37) F.1 F.2.1 dX7_knew_17 (by decide) ?_
  refine mp_128 F w hM dX7_knew_37 (fun H locs μ w hM => ?_)
  have hM : RepM cy m0 ad (g_X7_knew_b_1 G x1 x2 x3) μ := hM
  refine lv_iconst (v := 0) F.1 F.2.1 dX7_knew_40 (by decide) ?_
  refine lv_istore (lv' := [(4, .int 0), (0, .ref m0), (1, .int x1), (2, .int x2), (3, .int x3)]) F.1 F.2.1 dX7_knew_41 hl (by decide) rfl (fun ls hl => ?_)
  refine lv_iconst (v := 0) F.1 F.2.1 dX7_knew_43 (by decide) ?_
  refine lv_istore (lv' := [(5, .int 0), (4, .int 0), (0, .ref m0), (1, .int x1), (2, .int x2), (3, .int x3)]) F.1 F.2.1 dX7_knew_44 hl (by decide) rfl (fun ls hl => ?_)
  refine lv_iload F.1 F.2.1 dX7_knew_46 (lv_at hl 0 rfl) ?_
  refine lv_aload_n F.1 F.2.1 dX7_knew_48 rfl (lv_at hl 2 rfl) ?_
  refine gf_X7_139 F w hM.1 rfl dX7_knew_49 ?_
  refine lv_fold (y := G 29 0) (congrFun (e_g_X7_knew_b_1 G x1 x2 x3 (by decide)) 0) ?_
  refine jnl (m := m) 7 [(5, .int 0), (4, .int 0), (0, .ref m0), (1, .int x1), (2, .int x2), (3, .int x3)] [] 135 (fun J_2 => ?_) ?_
  · refine lv_icmp_ge (tgt := 135) F.1 F.2.1 dX7_knew_52 (by decide) (fun c_3 => ?_) (fun c_3 => ?_)
    · exact J_2 ls (lv_sub hl [0, 1, 2, 3, 4, 5] (by rw [] <;> rfl))
    · refine lv_aload_n F.1 F.2.1 dX7_knew_55 rfl (lv_at hl 2 rfl) ?_
      refine gf_X7_128 F w hM.1 rfl dX7_knew_56 ?_
      refine lv_fold (y := 1) ((congrFun (up2_eq _ _ _ _) _).trans pk_us) ?_
      refine lv_if_ne (tgt := 135) F.1 F.2.1 dX7_knew_59 (by decide) (fun c_4 => ?_) (fun c_4 => absurd c_4 (by decide))
      exact J_2 ls (lv_sub hl [0, 1, 2, 3, 4, 5] (by rw [] <;> rfl))
  intro ls hl
  refine lv_iload F.1 F.2.1 dX7_knew_135 (lv_at hl 1 rfl) ?_
  exact q_retI (S := Unit) F hr hlk w ⟨rfl, RepM.cg hM rfl⟩ dX7_knew_137
