theorem isx_ok {i n : Nat} (hi : i < n) (hn : n < 2 ^ 31) : ¬ f_X6_isIndex (nI i) (nI n) = 0 := by
  unfold f_X6_isIndex
  rw [if_neg (fun h => by
    have h1 := Int32.lt_iff_toInt_lt.mp h
    rw [nI_toInt (by omega), show (0 : Int32).toInt = 0 from rfl] at h1
    omega), if_neg (fun h => by
    have h1 := (nI_leI hn (by omega)).mp h
    omega)]
  decide
theorem nz_upd {f : Nat → Int32} {i x : Nat} {v : Int32} (hv : nz v) (h : nz (f x)) : nz (upd f i v x) := by
  unfold upd
  split
  · exact hv
  · exact h
theorem InvC.w14 {G : GS} (h : InvC G) {s : Nat} {v : Int32} (hv : nz v) : InvC (up2 G 14 s v) := by
  obtain ⟨h1, h2, h3, h4, h5, h6, h7, h8, h9, h10, h11, h12⟩ := h
  exact ⟨h1, h2, h3, h4, h5, h6, h7, h8, h9, fun s hs => nz_upd hv (h10 s hs), h11, h12⟩
theorem InvC.w42 {G : GS} (h : InvC G) {s : Nat} {v : Int32} (hv : nz v) : InvC (up2 G 42 s v) := by
  obtain ⟨h1, h2, h3, h4, h5, h6, h7, h8, h9, h10, h11, h12⟩ := h
  exact ⟨h1, h2, h3, h4, h5, h6, h7, h8, h9, h10, h11, fun v hv' => ⟨(h12 v hv').1, nz_upd hv (h12 v hv').2⟩⟩
theorem InvC.wn {G : GS} (h : InvC G) {f s : Nat} (hf : f = 11 ∨ f = 12 ∨ f = 13) : InvC (up2 G f s (-1)) := by
  obtain ⟨h1, h2, h3, h4, h5, h6, h7, h8⟩ := h
  have hu : ∀ (x : Nat) (P : Int32 → Prop), (¬ G f x = -1 → P (G f x)) → ¬ upd (G f) s (-1) x = -1 → P (upd (G f) s (-1) x) := by
    intro x P hp hn
    unfold upd at hn ⊢
    split at hn
    · exact absurd rfl hn
    · rename_i hx
      rw [if_neg hx]
      exact hp hn
  rcases hf with rfl | rfl | rfl
  · exact ⟨h1, h2, h3, h4, h5, h6, fun x hx => ⟨hu x (fun z => z = nI z.toNatClampNeg ∧ z.toNatClampNeg < gnV G) (h7 x hx).1, (h7 x hx).2⟩, h8⟩
  · exact ⟨h1, h2, h3, h4, h5, h6, fun x hx => ⟨(h7 x hx).1, hu x (fun z => z = nI z.toNatClampNeg ∧ z.toNatClampNeg < gnV G) (h7 x hx).2.1, (h7 x hx).2.2⟩, h8⟩
  · exact ⟨h1, h2, h3, h4, h5, h6, fun x hx => ⟨(h7 x hx).1, (h7 x hx).2.1, hu x (fun z => z = nI z.toNatClampNeg ∧ z.toNatClampNeg < gnV G) (h7 x hx).2.2⟩, h8⟩
theorem InvC.w39 {G : GS} (h : InvC G) {s : Nat} {v : Int32} (hv : nz v) : InvC (up2 G 39 s v) := by
  obtain ⟨h1, h2, h3, h4, h5, h6, h7, h8, h9, h10, h11, h12⟩ := h
  exact ⟨h1, h2, h3, h4, h5, h6, h7, h8, h9, h10, h11, fun v hv' => ⟨nz_upd hv (h12 v hv').1, (h12 v hv').2⟩⟩
theorem InvC.w37 {G : GS} (h : InvC G) {s : Nat} {v : Int32} (hv : nz v) : InvC (up2 G 37 s v) := by
  obtain ⟨h1, h2, h3, h4, h5, h6, h7, h8, h9, h10, h11, h12⟩ := h
  exact ⟨h1, h2, h3, h4, h5, h6, h7, h8, h9, h10, fun v j hv' hj => ⟨nz_upd hv (h11 v j hv' hj).1, (h11 v j hv' hj).2⟩, h12⟩
theorem InvC.w44 {G : GS} (h : InvC G) {s : Nat} {v : Int32} (hv : nz v) : InvC (up2 G 44 s v) := by
  obtain ⟨h1, h2, h3, h4, h5, h6, h7, h8, h9, h10, h11, h12⟩ := h
  exact ⟨h1, h2, h3, h4, h5, h6, h7, h8, h9, h10, fun v j hv' hj => ⟨(h11 v j hv' hj).1, nz_upd hv (h11 v j hv' hj).2⟩, h12⟩
set_option maxHeartbeats 4000000 in
set_option maxRecDepth 100000 in
theorem c_X6_shipNumbered (l : Launch) (D : va_G) (cy : Nat → ClassId) (A : Nat → Prop) (μ : MU) (AD : AM) (G : GS) (hM : RepC cy AD G μ) (hI : InvC G) (i1 : Nat) (hi1 : i1 < gnS G) : Met l yX6_shipNumbered (WS yX6_shipNumbered cX6_shipNumbered 2 (Option.some (Jvm.ClassFile.FieldType.object "Detentionbureau$Ship"))) { frames := 3, cells := 0, slots := 0, locals := 64 } (va_Pc [.ref (AD 0 0 0), .int (nI i1)] (Wd D cy A μ)) (va_Sq (fun z => z = some (AD 6 i1 0))) 0 0 (fun _ => False) := by
  refine q_met (by decide) (Nat.le_of_ble_eq_true rfl) ?_
  intro p e s m below meth c F w hr hlk hnm ls hl
  have F : CallFix p m c cX6_shipNumbered 2 s _ BIG RX6 := F
  have hl : lv_has ls 2 [(0, .ref (AD 0 0 0)), (1, .int (nI i1))] := hl
  refine lv_iload_n F.1 F.2.1 dX6_shipNumbered_0 rfl (lv_at hl 1 rfl) ?_
  refine lv_aload_n F.1 F.2.1 dX6_shipNumbered_1 rfl (lv_at hl 0 rfl) ?_
  refine gf_X6_10 F w (hM.a0 ⟨by decide, rfl, rfl⟩) rfl dX6_shipNumbered_2 ?_
  refine q_rV (rest := [.int (nI i1)]) F w kV_X6_58 hd_Jx4a65c_size_8abf5 (ci := 0) rfl (c_size l D cy A _ hM.l1.1) hM.l1.1 dX6_shipNumbered_5 rfl rfl hl.1 ⟨rfl, rfl, Nat.le_of_ble_eq_true rfl, Nat.le_of_ble_eq_true rfl⟩ (Nat.le_of_ble_eq_true rfl) ⟨Nat.zero_le _, Nat.zero_le _⟩ ?_
  refine q_rS (rest := []) F w kS_X6_46 hd_X6_isIndex (c_X6_isIndex l D cy A _ (nI i1) (nI (gnS G))) dX6_shipNumbered_8 rfl rfl hl.1 ⟨rfl, rfl, Nat.le_of_ble_eq_true rfl, Nat.le_of_ble_eq_true rfl⟩ (Nat.le_of_ble_eq_true rfl) ⟨Nat.zero_le _, Nat.zero_le _⟩ ?_
  refine lv_if_ne (tgt := 25) F.1 F.2.1 dX6_shipNumbered_11 (by decide) (fun c_1 => ?_) (fun c_1 => absurd c_1 (isx_ok hi1 (Nat.lt_of_le_of_lt hI.s.2.1 (by decide))))
  refine lv_aload_n F.1 F.2.1 dX6_shipNumbered_25 rfl (lv_at hl 0 rfl) ?_
  refine gf_X6_10 F w (hM.a0 ⟨by decide, rfl, rfl⟩) rfl dX6_shipNumbered_26 ?_
  refine lv_iload_n F.1 F.2.1 dX6_shipNumbered_29 rfl (lv_at hl 1 rfl) ?_
  refine q_sVq (rest := []) F w kV_X6_224 hd_Jx4a65c_get_915e3 (ci := 0) rfl (c_get l D cy A _ hM.l1 (show i1 < gnS G by omega) (show gnS G ≤ 600 by have := hI.s.2.1; omega)) hM.l1.1 dX6_shipNumbered_30 rfl rfl hl.1 ⟨rfl, rfl, Nat.le_of_ble_eq_true rfl, Nat.le_of_ble_eq_true rfl⟩ (Nat.le_of_ble_eq_true rfl) ⟨Nat.zero_le _, Nat.zero_le _⟩ ?_
  refine q_cast F w wL_X6_64 (ci := 5) rfl (hM.a6 (hI.o6 (show i1 < gnS G by omega))) dX6_shipNumbered_33 ?_
  exact q_retq F hr (Or.inl ⟨_, rfl⟩) hlk dX6_shipNumbered_36
set_option maxHeartbeats 4000000 in
set_option maxRecDepth 100000 in
theorem c_X6_visitNumbered (l : Launch) (D : va_G) (cy : Nat → ClassId) (A : Nat → Prop) (μ : MU) (AD : AM) (G : GS) (hM : RepC cy AD G μ) (hI : InvC G) (i1 : Nat) (hi1 : i1 < gnV G) : Met l yX6_visitNumbered (WS yX6_visitNumbered cX6_visitNumbered 2 (Option.some (Jvm.ClassFile.FieldType.object "Detentionbureau$Visit"))) { frames := 3, cells := 0, slots := 0, locals := 64 } (va_Pc [.ref (AD 0 0 0), .int (nI i1)] (Wd D cy A μ)) (va_Sq (fun z => z = some (AD 10 i1 0))) 0 0 (fun _ => False) := by
  refine q_met (by decide) (Nat.le_of_ble_eq_true rfl) ?_
  intro p e s m below meth c F w hr hlk hnm ls hl
  have F : CallFix p m c cX6_visitNumbered 2 s _ BIG RX6 := F
  have hl : lv_has ls 2 [(0, .ref (AD 0 0 0)), (1, .int (nI i1))] := hl
  refine lv_iload_n F.1 F.2.1 dX6_visitNumbered_0 rfl (lv_at hl 1 rfl) ?_
  refine lv_aload_n F.1 F.2.1 dX6_visitNumbered_1 rfl (lv_at hl 0 rfl) ?_
  refine gf_X6_19 F w (hM.a0 ⟨by decide, rfl, rfl⟩) rfl dX6_visitNumbered_2 ?_
  refine q_rV (rest := [.int (nI i1)]) F w kV_X6_58 hd_Jx4a65c_size_8abf5 (ci := 0) rfl (c_size l D cy A _ hM.l3.1) hM.l3.1 dX6_visitNumbered_5 rfl rfl hl.1 ⟨rfl, rfl, Nat.le_of_ble_eq_true rfl, Nat.le_of_ble_eq_true rfl⟩ (Nat.le_of_ble_eq_true rfl) ⟨Nat.zero_le _, Nat.zero_le _⟩ ?_
  refine q_rS (rest := []) F w kS_X6_46 hd_X6_isIndex (c_X6_isIndex l D cy A _ (nI i1) (nI (gnV G))) dX6_visitNumbered_8 rfl rfl hl.1 ⟨rfl, rfl, Nat.le_of_ble_eq_true rfl, Nat.le_of_ble_eq_true rfl⟩ (Nat.le_of_ble_eq_true rfl) ⟨Nat.zero_le _, Nat.zero_le _⟩ ?_
  refine lv_if_ne (tgt := 25) F.1 F.2.1 dX6_visitNumbered_11 (by decide) (fun c_1 => ?_) (fun c_1 => absurd c_1 (isx_ok hi1 (Nat.lt_of_le_of_lt hI.v.2.1 (by decide))))
  refine lv_aload_n F.1 F.2.1 dX6_visitNumbered_25 rfl (lv_at hl 0 rfl) ?_
  refine gf_X6_19 F w (hM.a0 ⟨by decide, rfl, rfl⟩) rfl dX6_visitNumbered_26 ?_
  refine lv_iload_n F.1 F.2.1 dX6_visitNumbered_29 rfl (lv_at hl 1 rfl) ?_
  refine q_sVq (rest := []) F w kV_X6_224 hd_Jx4a65c_get_915e3 (ci := 0) rfl (c_get l D cy A _ hM.l3 (show i1 < gnV G by omega) (show gnV G ≤ 600 by have := hI.v.2.1; omega)) hM.l3.1 dX6_visitNumbered_30 rfl rfl hl.1 ⟨rfl, rfl, Nat.le_of_ble_eq_true rfl, Nat.le_of_ble_eq_true rfl⟩ (Nat.le_of_ble_eq_true rfl) ⟨Nat.zero_le _, Nat.zero_le _⟩ ?_
  refine q_cast F w wL_X6_179 (ci := 6) rfl (hM.a10 (hI.o10 (show i1 < gnV G by omega))) dX6_visitNumbered_33 ?_
  exact q_retq F hr (Or.inl ⟨_, rfl⟩) hlk dX6_visitNumbered_36
set_option maxHeartbeats 4000000 in
set_option maxRecDepth 100000 in
theorem c_X6_shipNumbered_b (l : Launch) (D : va_G) (cy : Nat → ClassId) (A : Nat → Prop) (μ : MU) (AD : AM) (G : GS) (hM : RepC cy AD G μ) (hI : InvC G) (x1 : Int32) (hb : f_X6_isIndex x1 (nI (gnS G)) = 0) (hlf : l.stackTraces = false) : vx_Met l yX6_shipNumbered (WS yX6_shipNumbered cX6_shipNumbered 2 (Option.some (Jvm.ClassFile.FieldType.object "Detentionbureau$Ship"))) { frames := 6, cells := 1, slots := 6, locals := 100 } (va_Pc [.ref (AD 0 0 0), .int x1] (Wd D cy A μ)) (fun _ _ _ _ => False) (XC9 D A μ (xnm 3)) 1 6 A := by
  refine q_metx (by decide) (Nat.le_of_ble_eq_true rfl) ?_
  intro p e s m below meth c F w hr hlk ht ls hl
  have F : CallFix p m c cX6_shipNumbered 2 s _ BIG RX6 := F
  have hl : lv_has ls 2 [(0, .ref (AD 0 0 0)), (1, .int x1)] := hl
  refine lv_iload_n F.1 F.2.1 dX6_shipNumbered_0 rfl (lv_at hl 1 rfl) ?_
  refine lv_aload_n F.1 F.2.1 dX6_shipNumbered_1 rfl (lv_at hl 0 rfl) ?_
  refine gf_X6_10 F w (hM.a0 ⟨by decide, rfl, rfl⟩) rfl dX6_shipNumbered_2 ?_
  refine q_rV (rest := [.int x1]) F w kV_X6_58 hd_Jx4a65c_size_8abf5 (ci := 0) rfl (c_size l D cy A _ hM.l1.1) hM.l1.1 dX6_shipNumbered_5 rfl rfl hl.1 ⟨rfl, rfl, Nat.le_of_ble_eq_true rfl, Nat.le_of_ble_eq_true rfl⟩ (Nat.le_of_ble_eq_true rfl) ⟨Nat.zero_le _, Nat.zero_le _⟩ ?_
  refine q_rS (rest := []) F w kS_X6_46 hd_X6_isIndex (c_X6_isIndex l D cy A _ x1 (nI (gnS G))) dX6_shipNumbered_8 rfl rfl hl.1 ⟨rfl, rfl, Nat.le_of_ble_eq_true rfl, Nat.le_of_ble_eq_true rfl⟩ (Nat.le_of_ble_eq_true rfl) ⟨Nat.zero_le _, Nat.zero_le _⟩ ?_
  refine lv_if_ne (tgt := 25) F.1 F.2.1 dX6_shipNumbered_11 (by decide) (fun c_1 => absurd hb c_1) (fun c_1 => ?_)
  exact q_thW (k9 := 5) F w hlf th9_3 rfl hl.1 rfl ht hlk dX6_shipNumbered_14 dX6_shipNumbered_17 dX6_shipNumbered_18 dX6_shipNumbered_21 dX6_shipNumbered_24 (Nat.le_of_ble_eq_true rfl) (Nat.le_of_ble_eq_true rfl) (Nat.le_of_ble_eq_true rfl) (Nat.le_of_ble_eq_true rfl) (Nat.le_of_ble_eq_true rfl) (Nat.le_of_ble_eq_true rfl)
set_option maxHeartbeats 4000000 in
set_option maxRecDepth 100000 in
theorem c_X6_visitNumbered_b (l : Launch) (D : va_G) (cy : Nat → ClassId) (A : Nat → Prop) (μ : MU) (AD : AM) (G : GS) (hM : RepC cy AD G μ) (hI : InvC G) (x1 : Int32) (hb : f_X6_isIndex x1 (nI (gnV G)) = 0) (hlf : l.stackTraces = false) : vx_Met l yX6_visitNumbered (WS yX6_visitNumbered cX6_visitNumbered 2 (Option.some (Jvm.ClassFile.FieldType.object "Detentionbureau$Visit"))) { frames := 6, cells := 1, slots := 6, locals := 100 } (va_Pc [.ref (AD 0 0 0), .int x1] (Wd D cy A μ)) (fun _ _ _ _ => False) (XC9 D A μ (xnm 3)) 1 6 A := by
  refine q_metx (by decide) (Nat.le_of_ble_eq_true rfl) ?_
  intro p e s m below meth c F w hr hlk ht ls hl
  have F : CallFix p m c cX6_visitNumbered 2 s _ BIG RX6 := F
  have hl : lv_has ls 2 [(0, .ref (AD 0 0 0)), (1, .int x1)] := hl
  refine lv_iload_n F.1 F.2.1 dX6_visitNumbered_0 rfl (lv_at hl 1 rfl) ?_
  refine lv_aload_n F.1 F.2.1 dX6_visitNumbered_1 rfl (lv_at hl 0 rfl) ?_
  refine gf_X6_19 F w (hM.a0 ⟨by decide, rfl, rfl⟩) rfl dX6_visitNumbered_2 ?_
  refine q_rV (rest := [.int x1]) F w kV_X6_58 hd_Jx4a65c_size_8abf5 (ci := 0) rfl (c_size l D cy A _ hM.l3.1) hM.l3.1 dX6_visitNumbered_5 rfl rfl hl.1 ⟨rfl, rfl, Nat.le_of_ble_eq_true rfl, Nat.le_of_ble_eq_true rfl⟩ (Nat.le_of_ble_eq_true rfl) ⟨Nat.zero_le _, Nat.zero_le _⟩ ?_
  refine q_rS (rest := []) F w kS_X6_46 hd_X6_isIndex (c_X6_isIndex l D cy A _ x1 (nI (gnV G))) dX6_visitNumbered_8 rfl rfl hl.1 ⟨rfl, rfl, Nat.le_of_ble_eq_true rfl, Nat.le_of_ble_eq_true rfl⟩ (Nat.le_of_ble_eq_true rfl) ⟨Nat.zero_le _, Nat.zero_le _⟩ ?_
  refine lv_if_ne (tgt := 25) F.1 F.2.1 dX6_visitNumbered_11 (by decide) (fun c_1 => absurd hb c_1) (fun c_1 => ?_)
  exact q_thW (k9 := 18) F w hlf th9_3 rfl hl.1 rfl ht hlk dX6_visitNumbered_14 dX6_visitNumbered_17 dX6_visitNumbered_18 dX6_visitNumbered_21 dX6_visitNumbered_24 (Nat.le_of_ble_eq_true rfl) (Nat.le_of_ble_eq_true rfl) (Nat.le_of_ble_eq_true rfl) (Nat.le_of_ble_eq_true rfl) (Nat.le_of_ble_eq_true rfl) (Nat.le_of_ble_eq_true rfl)
def g_X6_pass_1 (G : GS) (x1 : Int32) : GS := up2 G 1 0 ((G 1 0) + x1)
theorem e_g_X6_pass_1 (G : GS) (x1 : Int32) {j : Nat} (h : j ∉ [1]) : g_X6_pass_1 G x1 j = G j := (up2_ne (fun q => h (by rw [q]; exact List.mem_cons_self))).trans rfl
def x_X6_pass (G : GS) (x1 : Int32) : Nat := if x1 < 1 then 1 else (if x1 ≤ 500 then (if (G 1 0) + x1 ≤ 9000 then 0 else 2) else 1)
def f_X6_pass (G : GS) (x1 : Int32) : Int32 := if x1 < 1 then 0 else (if x1 ≤ 500 then (if (G 1 0) + x1 ≤ 9000 then (G 1 0) + x1 else 0) else 0)
def g_X6_pass (G : GS) (x1 : Int32) : GS := if x1 < 1 then G else (if x1 ≤ 500 then (if (G 1 0) + x1 ≤ 9000 then g_X6_pass_1 G x1 else G) else G)
set_option maxHeartbeats 4000000 in
set_option maxRecDepth 100000 in
theorem c_X6_pass (l : Launch) (D : va_G) (cy : Nat → ClassId) (A : Nat → Prop) (μ : MU) (AD : AM) (G : GS) (hM : RepC cy AD G μ) (hI : InvC G) (x1 : Int32) (hlf : l.stackTraces = false) : vx_Met l yX6_pass (WS yX6_pass cX6_pass 2 (Option.some Jvm.ClassFile.FieldType.int)) { frames := 6, cells := 1, slots := 6, locals := 100 } (va_Pc [.ref (AD 0 0 0), .int x1] (Wd D cy A μ)) (va_Qi (fun (r9 : Int32) (μ1 : MU) => x_X6_pass G x1 = 0 ∧ r9 = f_X6_pass G x1 ∧ ∃ AD1 : AM, AD1 0 = AD 0 ∧ RepC cy AD1 (g_X6_pass G x1) μ1) (fun μ1 t => Wd D cy A μ1 t) A) (XC9 D A μ (xnm (x_X6_pass G x1))) 1 6 A := by
  refine q_metx (by decide) (Nat.le_of_ble_eq_true rfl) ?_
  intro p e s m below meth c F w hr hlk ht ls hl
  have F : CallFix p m c cX6_pass 2 s _ BIG RX6 := F
  have hl : lv_has ls 2 [(0, .ref (AD 0 0 0)), (1, .int x1)] := hl
  refine lv_iload_n F.1 F.2.1 dX6_pass_0 rfl (lv_at hl 1 rfl) ?_
  refine lv_iconst (v := 1) F.1 F.2.1 dX6_pass_1 (by decide) ?_
  refine lv_icmp_lt (tgt := 12) F.1 F.2.1 dX6_pass_2 (by decide) (fun c_1 => ?_) (fun c_1 => ?_)
  · exact q_thS (k9 := 0) F w hlf th9_1 rfl hl.1 (congrArg xnm (if_pos c_1)).symm ht hlk dX6_pass_12 dX6_pass_15 dX6_pass_16 dX6_pass_18 dX6_pass_21 (Nat.le_of_ble_eq_true rfl) (Nat.le_of_ble_eq_true rfl) (Nat.le_of_ble_eq_true rfl) (Nat.le_of_ble_eq_true rfl) (Nat.le_of_ble_eq_true rfl) (Nat.le_of_ble_eq_true rfl)
  · refine lv_iload_n F.1 F.2.1 dX6_pass_5 rfl (lv_at hl 1 rfl) ?_
    refine lv_sipush (v := 500) F.1 F.2.1 dX6_pass_6 (by decide) ?_
    refine lv_icmp_le (tgt := 22) F.1 F.2.1 dX6_pass_9 (by decide) (fun c_2 => ?_) (fun c_2 => ?_)
    · refine lv_aload_n F.1 F.2.1 dX6_pass_22 rfl (lv_at hl 0 rfl) ?_
      refine gf_X6_30 F w (hM.a0 ⟨by decide, rfl, rfl⟩) rfl dX6_pass_23 ?_
      refine lv_iload_n F.1 F.2.1 dX6_pass_26 rfl (lv_at hl 1 rfl) ?_
      refine lv_iadd F.1 F.2.1 dX6_pass_27 ?_
      refine lv_sipush (v := 9000) F.1 F.2.1 dX6_pass_28 (by decide) ?_
      refine lv_icmp_le (tgt := 44) F.1 F.2.1 dX6_pass_31 (by decide) (fun c_3 => ?_) (fun c_3 => ?_)
      · refine lv_aload_n F.1 F.2.1 dX6_pass_44 rfl (lv_at hl 0 rfl) ?_
        refine lv_dup F.1 F.2.1 dX6_pass_45 rfl ?_
        refine gf_X6_30 F w (hM.a0 ⟨by decide, rfl, rfl⟩) rfl dX6_pass_46 ?_
        refine lv_iload_n F.1 F.2.1 dX6_pass_49 rfl (lv_at hl 1 rfl) ?_
        refine lv_iadd F.1 F.2.1 dX6_pass_50 ?_
        refine cp_X6_30 F w hM ⟨by decide, rfl, rfl⟩ dX6_pass_51 (fun H locs μ w hM => ?_)
        have hM : RepC cy AD (g_X6_pass_1 G x1) μ := hM
        refine lv_aload_n F.1 F.2.1 dX6_pass_54 rfl (lv_at hl 0 rfl) ?_
        refine gf_X6_30 F w (hM.a0 (ok_fr (by decide) ⟨by decide, rfl, rfl⟩)) rfl dX6_pass_55 ?_
        refine lv_fold (y := (G 1 0) + x1) ((congrFun (up2_eq _ _ _ _) _).trans pk_us) ?_
        refine vx_ret ?_
        refine W.widen (k := 1) (n := 6) (Nat.le_of_ble_eq_true rfl) (Nat.le_of_ble_eq_true rfl) ?_
        exact q_retI (S := Unit) F hr hlk w ⟨((if_neg c_1).trans ((if_pos c_2).trans (if_pos c_3))), ((if_neg c_1).trans ((if_pos c_2).trans (if_pos c_3))).symm, ⟨AD, rfl, RepC.cg hM ((if_neg c_1).trans ((if_pos c_2).trans (if_pos c_3)))⟩⟩ dX6_pass_58
      · exact q_thS (k9 := 1) F w hlf th9_2 rfl hl.1 (congrArg xnm ((if_neg c_1).trans ((if_pos c_2).trans (if_neg c_3)))).symm ht hlk dX6_pass_34 dX6_pass_37 dX6_pass_38 dX6_pass_40 dX6_pass_43 (Nat.le_of_ble_eq_true rfl) (Nat.le_of_ble_eq_true rfl) (Nat.le_of_ble_eq_true rfl) (Nat.le_of_ble_eq_true rfl) (Nat.le_of_ble_eq_true rfl) (Nat.le_of_ble_eq_true rfl)
    · exact q_thS (k9 := 0) F w hlf th9_1 rfl hl.1 (congrArg xnm ((if_neg c_1).trans (if_neg c_2))).symm ht hlk dX6_pass_12 dX6_pass_15 dX6_pass_16 dX6_pass_18 dX6_pass_21 (Nat.le_of_ble_eq_true rfl) (Nat.le_of_ble_eq_true rfl) (Nat.le_of_ble_eq_true rfl) (Nat.le_of_ble_eq_true rfl) (Nat.le_of_ble_eq_true rfl) (Nat.le_of_ble_eq_true rfl)
def g_X6_suspend_1 (G : GS) (i1 : Nat) (x2 : Int32) : GS := up2 G 2 i1 x2
theorem e_g_X6_suspend_1 (G : GS) (i1 : Nat) (x2 : Int32) {j : Nat} (h : j ∉ [2]) : g_X6_suspend_1 G i1 x2 j = G j := (up2_ne (fun q => h (by rw [q]; exact List.mem_cons_self))).trans rfl
def x_X6_suspend (G : GS) (i1 : Nat) (x2 : Int32) : Nat := 0
def f_X6_suspend (G : GS) (i1 : Nat) (x2 : Int32) : Int32 := G 2 i1
def g_X6_suspend (G : GS) (i1 : Nat) (x2 : Int32) : GS := g_X6_suspend_1 G i1 x2
set_option maxHeartbeats 4000000 in
set_option maxRecDepth 100000 in
theorem c_X6_suspend (l : Launch) (D : va_G) (cy : Nat → ClassId) (A : Nat → Prop) (μ : MU) (AD : AM) (G : GS) (hM : RepC cy AD G μ) (hI : InvC G) (i1 : Nat) (x2 : Int32) (hi1 : i1 < 4) (hx2 : x2 = 0 ∨ x2 = 1) (hlf : l.stackTraces = false) : vx_Met l yX6_suspend (WS yX6_suspend cX6_suspend 4 (Option.some Jvm.ClassFile.FieldType.boolean)) { frames := 6, cells := 1, slots := 6, locals := 100 } (va_Pc [.ref (AD 0 0 0), .int (nI i1), .int x2] (Wd D cy A μ)) (va_Qi (fun (r9 : Int32) (μ1 : MU) => x_X6_suspend G i1 x2 = 0 ∧ r9 = f_X6_suspend G i1 x2 ∧ ∃ AD1 : AM, AD1 0 = AD 0 ∧ RepC cy AD1 (g_X6_suspend G i1 x2) μ1) (fun μ1 t => Wd D cy A μ1 t) A) (XC9 D A μ (xnm (x_X6_suspend G i1 x2))) 1 6 A := by
  refine q_metx (by decide) (Nat.le_of_ble_eq_true rfl) ?_
  intro p e s m below meth c F w hr hlk ht ls hl
  have F : CallFix p m c cX6_suspend 4 s _ BIG RX6 := F
  have hl : lv_has ls 4 [(0, .ref (AD 0 0 0)), (1, .int (nI i1)), (2, .int x2)] := hl
  refine lv_iload_n F.1 F.2.1 dX6_suspend_0 rfl (lv_at hl 1 rfl) ?_
  refine lv_aload_n F.1 F.2.1 dX6_suspend_1 rfl (lv_at hl 0 rfl) ?_
  refine gf_X6_22 F w (hM.a0 ⟨by decide, rfl, rfl⟩) rfl dX6_suspend_2 ?_
  refine q_alen F w 1 rfl (hM.1 4 0 0 ⟨by decide, rfl, rfl⟩) (v := 4) rfl dX6_suspend_5 ?_
  refine q_rS (rest := []) F w kS_X6_46 hd_X6_isIndex (c_X6_isIndex l D cy A _ (nI i1) 4) dX6_suspend_6 rfl rfl hl.1 ⟨rfl, rfl, Nat.le_of_ble_eq_true rfl, Nat.le_of_ble_eq_true rfl⟩ (Nat.le_of_ble_eq_true rfl) ⟨Nat.zero_le _, Nat.zero_le _⟩ ?_
  refine lv_if_ne (tgt := 22) F.1 F.2.1 dX6_suspend_9 (by decide) (fun c_1 => ?_) (fun c_1 => absurd c_1 (isx_ok (n := 4) hi1 (by decide)))
  refine lv_aload_n F.1 F.2.1 dX6_suspend_22 rfl (lv_at hl 0 rfl) ?_
  refine gf_X6_22 F w (hM.a0 ⟨by decide, rfl, rfl⟩) rfl dX6_suspend_23 ?_
  refine lv_iload_n F.1 F.2.1 dX6_suspend_26 rfl (lv_at hl 1 rfl) ?_
  refine q_zald F w (hM.1 4 0 0 ⟨by decide, rfl, rfl⟩) (vp_in_nI (show i1 < 4 by omega) (by decide)) dX6_suspend_27 ?_
  refine lv_fold (y := G 2 i1) (by rw [nI_clamp (by omega)]) ?_
  refine lv_istore_n (lv' := [(3, .int (G 2 i1)), (0, .ref (AD 0 0 0)), (1, .int (nI i1)), (2, .int x2)]) F.1 F.2.1 dX6_suspend_28 rfl hl (by decide) rfl (fun ls hl => ?_)
  refine lv_aload_n F.1 F.2.1 dX6_suspend_29 rfl (lv_at hl 1 rfl) ?_
  refine gf_X6_22 F w (hM.a0 ⟨by decide, rfl, rfl⟩) rfl dX6_suspend_30 ?_
  refine lv_iload_n F.1 F.2.1 dX6_suspend_33 rfl (lv_at hl 2 rfl) ?_
  refine lv_iload_n F.1 F.2.1 dX6_suspend_34 rfl (lv_at hl 3 rfl) ?_
  refine c_zst F w hM (show i1 < 4 by omega) hx2 dX6_suspend_35 (fun H locs μ w hM => ?_)
  have hM : RepC cy AD (g_X6_suspend_1 G i1 x2) μ := hM
  refine lv_iload_n F.1 F.2.1 dX6_suspend_36 rfl (lv_at hl 0 rfl) ?_
  refine vx_ret ?_
  refine W.widen (k := 1) (n := 6) (Nat.le_of_ble_eq_true rfl) (Nat.le_of_ble_eq_true rfl) ?_
  exact q_retZ (S := Unit) F hr hlk w ⟨rfl, rfl, ⟨AD, rfl, RepC.cg hM rfl⟩⟩ (hI.b2 hi1) dX6_suspend_37
set_option maxHeartbeats 4000000 in
set_option maxRecDepth 100000 in
theorem c_X6_suspend_b (l : Launch) (D : va_G) (cy : Nat → ClassId) (A : Nat → Prop) (μ : MU) (AD : AM) (G : GS) (hM : RepC cy AD G μ) (hI : InvC G) (x1 : Int32) (x2 : Int32) (hb : f_X6_isIndex x1 4 = 0) (hlf : l.stackTraces = false) : vx_Met l yX6_suspend (WS yX6_suspend cX6_suspend 4 (Option.some Jvm.ClassFile.FieldType.boolean)) { frames := 6, cells := 1, slots := 6, locals := 100 } (va_Pc [.ref (AD 0 0 0), .int x1, .int x2] (Wd D cy A μ)) (fun _ _ _ _ => False) (XC9 D A μ (xnm 3)) 1 6 A := by
  refine q_metx (by decide) (Nat.le_of_ble_eq_true rfl) ?_
  intro p e s m below meth c F w hr hlk ht ls hl
  have F : CallFix p m c cX6_suspend 4 s _ BIG RX6 := F
  have hl : lv_has ls 4 [(0, .ref (AD 0 0 0)), (1, .int x1), (2, .int x2)] := hl
  refine lv_iload_n F.1 F.2.1 dX6_suspend_0 rfl (lv_at hl 1 rfl) ?_
  refine lv_aload_n F.1 F.2.1 dX6_suspend_1 rfl (lv_at hl 0 rfl) ?_
  refine gf_X6_22 F w (hM.a0 ⟨by decide, rfl, rfl⟩) rfl dX6_suspend_2 ?_
  refine q_alen F w 1 rfl (hM.1 4 0 0 ⟨by decide, rfl, rfl⟩) (v := 4) rfl dX6_suspend_5 ?_
  refine q_rS (rest := []) F w kS_X6_46 hd_X6_isIndex (c_X6_isIndex l D cy A _ x1 4) dX6_suspend_6 rfl rfl hl.1 ⟨rfl, rfl, Nat.le_of_ble_eq_true rfl, Nat.le_of_ble_eq_true rfl⟩ (Nat.le_of_ble_eq_true rfl) ⟨Nat.zero_le _, Nat.zero_le _⟩ ?_
  refine lv_if_ne (tgt := 22) F.1 F.2.1 dX6_suspend_9 (by decide) (fun c_1 => absurd hb c_1) (fun c_1 => ?_)
  exact q_thS (k9 := 6) F w hlf th9_3 rfl hl.1 rfl ht hlk dX6_suspend_12 dX6_suspend_15 dX6_suspend_16 dX6_suspend_18 dX6_suspend_21 (Nat.le_of_ble_eq_true rfl) (Nat.le_of_ble_eq_true rfl) (Nat.le_of_ble_eq_true rfl) (Nat.le_of_ble_eq_true rfl) (Nat.le_of_ble_eq_true rfl) (Nat.le_of_ble_eq_true rfl)
def x_X6_missed (G : GS) (i1 : Nat) : Nat := 0
def f_X6_missed (G : GS) (i1 : Nat) : Int32 := G 43 i1
def g_X6_missed (G : GS) (i1 : Nat) : GS := G
set_option maxHeartbeats 4000000 in
set_option maxRecDepth 100000 in
theorem c_X6_missed (l : Launch) (D : va_G) (cy : Nat → ClassId) (A : Nat → Prop) (μ : MU) (AD : AM) (G : GS) (hM : RepC cy AD G μ) (hI : InvC G) (i1 : Nat) (hi1 : i1 < 4) (hlf : l.stackTraces = false) : vx_Met l yX6_missed (WS yX6_missed cX6_missed 2 (Option.some Jvm.ClassFile.FieldType.int)) { frames := 6, cells := 1, slots := 6, locals := 100 } (va_Pc [.ref (AD 0 0 0), .int (nI i1)] (Wd D cy A μ)) (va_Qi (fun (r9 : Int32) (μ1 : MU) => x_X6_missed G i1 = 0 ∧ r9 = f_X6_missed G i1 ∧ ∃ AD1 : AM, AD1 0 = AD 0 ∧ RepC cy AD1 (g_X6_missed G i1) μ1) (fun μ1 t => Wd D cy A μ1 t) A) (XC9 D A μ (xnm (x_X6_missed G i1))) 1 6 A := by
  refine q_metx (by decide) (Nat.le_of_ble_eq_true rfl) ?_
  intro p e s m below meth c F w hr hlk ht ls hl
  have F : CallFix p m c cX6_missed 2 s _ BIG RX6 := F
  have hl : lv_has ls 2 [(0, .ref (AD 0 0 0)), (1, .int (nI i1))] := hl
  refine lv_iload_n F.1 F.2.1 dX6_missed_0 rfl (lv_at hl 1 rfl) ?_
  refine lv_aload_n F.1 F.2.1 dX6_missed_1 rfl (lv_at hl 0 rfl) ?_
  refine gf_X6_26 F w (hM.a0 ⟨by decide, rfl, rfl⟩) rfl dX6_missed_2 ?_
  refine q_alen F w 0 rfl (hM.1 5 0 0 ⟨by decide, rfl, rfl⟩) (v := 4) rfl dX6_missed_5 ?_
  refine q_rS (rest := []) F w kS_X6_46 hd_X6_isIndex (c_X6_isIndex l D cy A _ (nI i1) 4) dX6_missed_6 rfl rfl hl.1 ⟨rfl, rfl, Nat.le_of_ble_eq_true rfl, Nat.le_of_ble_eq_true rfl⟩ (Nat.le_of_ble_eq_true rfl) ⟨Nat.zero_le _, Nat.zero_le _⟩ ?_
  refine lv_if_ne (tgt := 22) F.1 F.2.1 dX6_missed_9 (by decide) (fun c_1 => ?_) (fun c_1 => absurd c_1 (isx_ok (n := 4) hi1 (by decide)))
  refine lv_aload_n F.1 F.2.1 dX6_missed_22 rfl (lv_at hl 0 rfl) ?_
  refine gf_X6_26 F w (hM.a0 ⟨by decide, rfl, rfl⟩) rfl dX6_missed_23 ?_
  refine lv_iload_n F.1 F.2.1 dX6_missed_26 rfl (lv_at hl 1 rfl) ?_
  refine q_iald F w (hM.1 5 0 0 ⟨by decide, rfl, rfl⟩) (vp_in_nI (show i1 < 4 by omega) (by decide)) dX6_missed_27 ?_
  refine lv_fold (y := G 43 i1) (by rw [nI_clamp (by omega)]) ?_
  refine vx_ret ?_
  refine W.widen (k := 1) (n := 6) (Nat.le_of_ble_eq_true rfl) (Nat.le_of_ble_eq_true rfl) ?_
  exact q_retI (S := Unit) F hr hlk w ⟨rfl, rfl, ⟨AD, rfl, RepC.cg hM rfl⟩⟩ dX6_missed_28
set_option maxHeartbeats 4000000 in
set_option maxRecDepth 100000 in
theorem c_X6_missed_b (l : Launch) (D : va_G) (cy : Nat → ClassId) (A : Nat → Prop) (μ : MU) (AD : AM) (G : GS) (hM : RepC cy AD G μ) (hI : InvC G) (x1 : Int32) (hb : f_X6_isIndex x1 4 = 0) (hlf : l.stackTraces = false) : vx_Met l yX6_missed (WS yX6_missed cX6_missed 2 (Option.some Jvm.ClassFile.FieldType.int)) { frames := 6, cells := 1, slots := 6, locals := 100 } (va_Pc [.ref (AD 0 0 0), .int x1] (Wd D cy A μ)) (fun _ _ _ _ => False) (XC9 D A μ (xnm 3)) 1 6 A := by
  refine q_metx (by decide) (Nat.le_of_ble_eq_true rfl) ?_
  intro p e s m below meth c F w hr hlk ht ls hl
  have F : CallFix p m c cX6_missed 2 s _ BIG RX6 := F
  have hl : lv_has ls 2 [(0, .ref (AD 0 0 0)), (1, .int x1)] := hl
  refine lv_iload_n F.1 F.2.1 dX6_missed_0 rfl (lv_at hl 1 rfl) ?_
  refine lv_aload_n F.1 F.2.1 dX6_missed_1 rfl (lv_at hl 0 rfl) ?_
  refine gf_X6_26 F w (hM.a0 ⟨by decide, rfl, rfl⟩) rfl dX6_missed_2 ?_
  refine q_alen F w 0 rfl (hM.1 5 0 0 ⟨by decide, rfl, rfl⟩) (v := 4) rfl dX6_missed_5 ?_
  refine q_rS (rest := []) F w kS_X6_46 hd_X6_isIndex (c_X6_isIndex l D cy A _ x1 4) dX6_missed_6 rfl rfl hl.1 ⟨rfl, rfl, Nat.le_of_ble_eq_true rfl, Nat.le_of_ble_eq_true rfl⟩ (Nat.le_of_ble_eq_true rfl) ⟨Nat.zero_le _, Nat.zero_le _⟩ ?_
  refine lv_if_ne (tgt := 22) F.1 F.2.1 dX6_missed_9 (by decide) (fun c_1 => absurd hb c_1) (fun c_1 => ?_)
  exact q_thS (k9 := 14) F w hlf th9_3 rfl hl.1 rfl ht hlk dX6_missed_12 dX6_missed_15 dX6_missed_16 dX6_missed_18 dX6_missed_21 (Nat.le_of_ble_eq_true rfl) (Nat.le_of_ble_eq_true rfl) (Nat.le_of_ble_eq_true rfl) (Nat.le_of_ble_eq_true rfl) (Nat.le_of_ble_eq_true rfl) (Nat.le_of_ble_eq_true rfl)
def x_X6_list (G : GS) (x1 : Int32) : Nat := if f_X6_isIndex x1 6 = 0 then 3 else 0
def f_X6_list (G : GS) (x1 : Int32) : Int32 := if f_X6_isIndex x1 6 = 0 then 0 else f_X6_listOf G x1
def g_X6_list (G : GS) (x1 : Int32) : GS := if f_X6_isIndex x1 6 = 0 then G else G
set_option maxHeartbeats 4000000 in
set_option maxRecDepth 100000 in
theorem c_X6_list (l : Launch) (D : va_G) (cy : Nat → ClassId) (A : Nat → Prop) (μ : MU) (AD : AM) (G : GS) (hM : RepC cy AD G μ) (hI : InvC G) (x1 : Int32) (hlf : l.stackTraces = false) : vx_Met l yX6_list (WS yX6_list cX6_list 2 (Option.some Jvm.ClassFile.FieldType.int)) { frames := 6, cells := 1, slots := 6, locals := 100 } (va_Pc [.ref (AD 0 0 0), .int x1] (Wd D cy A μ)) (va_Qi (fun (r9 : Int32) (μ1 : MU) => x_X6_list G x1 = 0 ∧ r9 = f_X6_list G x1 ∧ ∃ AD1 : AM, AD1 0 = AD 0 ∧ RepC cy AD1 (g_X6_list G x1) μ1) (fun μ1 t => Wd D cy A μ1 t) A) (XC9 D A μ (xnm (x_X6_list G x1))) 1 6 A := by
  refine q_metx (by decide) (Nat.le_of_ble_eq_true rfl) ?_
  intro p e s m below meth c F w hr hlk ht ls hl
  have F : CallFix p m c cX6_list 2 s _ BIG RX6 := F
  have hl : lv_has ls 2 [(0, .ref (AD 0 0 0)), (1, .int x1)] := hl
  refine lv_iload_n F.1 F.2.1 dX6_list_0 rfl (lv_at hl 1 rfl) ?_
  refine lv_bipush (v := 6) F.1 F.2.1 dX6_list_1 (by decide) ?_
  refine q_rS (rest := []) F w kS_X6_46 hd_X6_isIndex (c_X6_isIndex l D cy A _ x1 6) dX6_list_3 rfl rfl hl.1 ⟨rfl, rfl, Nat.le_of_ble_eq_true rfl, Nat.le_of_ble_eq_true rfl⟩ (Nat.le_of_ble_eq_true rfl) ⟨Nat.zero_le _, Nat.zero_le _⟩ ?_
  refine lv_if_ne (tgt := 20) F.1 F.2.1 dX6_list_6 (by decide) (fun c_1 => ?_) (fun c_1 => ?_)
  · refine lv_aload_n F.1 F.2.1 dX6_list_20 rfl (lv_at hl 0 rfl) ?_
    refine lv_iload_n F.1 F.2.1 dX6_list_21 rfl (lv_at hl 1 rfl) ?_
    refine q_rV (rest := []) F w kV_X6_317 hd_X6_listOf (ci := 7) rfl (c_X6_listOf l D cy A _ AD G hM hI x1) (hM.a0 ⟨by decide, rfl, rfl⟩) dX6_list_22 rfl rfl hl.1 ⟨rfl, rfl, Nat.le_of_ble_eq_true rfl, Nat.le_of_ble_eq_true rfl⟩ (Nat.le_of_ble_eq_true rfl) ⟨Nat.zero_le _, Nat.zero_le _⟩ ?_
    refine vx_ret ?_
    refine W.widen (k := 1) (n := 6) (Nat.le_of_ble_eq_true rfl) (Nat.le_of_ble_eq_true rfl) ?_
    exact q_retI (S := Unit) F hr hlk w ⟨(if_neg c_1), (if_neg c_1).symm, ⟨AD, rfl, RepC.cg hM (if_neg c_1)⟩⟩ dX6_list_25
  · exact q_thW (k9 := 30) F w hlf th9_3 rfl hl.1 (congrArg xnm (if_pos c_1)).symm ht hlk dX6_list_9 dX6_list_12 dX6_list_13 dX6_list_16 dX6_list_19 (Nat.le_of_ble_eq_true rfl) (Nat.le_of_ble_eq_true rfl) (Nat.le_of_ble_eq_true rfl) (Nat.le_of_ble_eq_true rfl) (Nat.le_of_ble_eq_true rfl) (Nat.le_of_ble_eq_true rfl)
def x_X6_pointsAnew (G : GS) (i1 : Nat) : Nat := 0
def f_X6_pointsAnew (G : GS) (i1 : Nat) : Int32 := f_X6_pointsByFile G i1
def g_X6_pointsAnew (G : GS) (i1 : Nat) : GS := G
set_option maxHeartbeats 4000000 in
set_option maxRecDepth 100000 in
theorem c_X6_pointsAnew (l : Launch) (D : va_G) (cy : Nat → ClassId) (A : Nat → Prop) (μ : MU) (AD : AM) (G : GS) (hM : RepC cy AD G μ) (hI : InvC G) (i1 : Nat) (hi1 : i1 < gnS G) (hlf : l.stackTraces = false) : vx_Met l yX6_pointsAnew (WS yX6_pointsAnew cX6_pointsAnew 2 (Option.some Jvm.ClassFile.FieldType.int)) { frames := 6, cells := 1, slots := 6, locals := 140 } (va_Pc [.ref (AD 0 0 0), .int (nI i1)] (Wd D cy A μ)) (va_Qi (fun (r9 : Int32) (μ1 : MU) => x_X6_pointsAnew G i1 = 0 ∧ r9 = f_X6_pointsAnew G i1 ∧ ∃ AD1 : AM, AD1 0 = AD 0 ∧ RepC cy AD1 (g_X6_pointsAnew G i1) μ1) (fun μ1 t => Wd D cy A μ1 t) A) (XC9 D A μ (xnm (x_X6_pointsAnew G i1))) 1 6 A := by
  refine q_metx (by decide) (Nat.le_of_ble_eq_true rfl) ?_
  intro p e s m below meth c F w hr hlk ht ls hl
  have F : CallFix p m c cX6_pointsAnew 2 s _ BIG RX6 := F
  have hl : lv_has ls 2 [(0, .ref (AD 0 0 0)), (1, .int (nI i1))] := hl
  refine lv_aload_n F.1 F.2.1 dX6_pointsAnew_0 rfl (lv_at hl 0 rfl) ?_
  refine lv_aload_n F.1 F.2.1 dX6_pointsAnew_1 rfl (lv_at hl 0 rfl) ?_
  refine lv_iload_n F.1 F.2.1 dX6_pointsAnew_2 rfl (lv_at hl 1 rfl) ?_
  refine q_sVq (rest := [.ref (AD 0 0 0)]) F w kV_X6_82 hd_X6_shipNumbered (ci := 7) rfl (c_X6_shipNumbered l D cy A _ AD G hM hI i1 (show i1 < gnS G by omega)) (hM.a0 ⟨by decide, rfl, rfl⟩) dX6_pointsAnew_3 rfl rfl hl.1 ⟨rfl, rfl, Nat.le_of_ble_eq_true rfl, Nat.le_of_ble_eq_true rfl⟩ (Nat.le_of_ble_eq_true rfl) ⟨Nat.zero_le _, Nat.zero_le _⟩ ?_
  refine gf_X6_299 F w (hM.a6 (hI.o6 (show i1 < gnS G by omega))) rfl dX6_pointsAnew_6 ?_
  refine q_rV (rest := []) F w kV_X6_302 hd_X6_pointsByFile (ci := 7) rfl (c_X6_pointsByFile l D cy A _ AD G hM hI i1 (show i1 < gnS G by omega)) (hM.a0 ⟨by decide, rfl, rfl⟩) dX6_pointsAnew_9 rfl rfl hl.1 ⟨rfl, rfl, Nat.le_of_ble_eq_true rfl, Nat.le_of_ble_eq_true rfl⟩ (Nat.le_of_ble_eq_true rfl) ⟨Nat.zero_le _, Nat.zero_le _⟩ ?_
  refine vx_ret ?_
  refine W.widen (k := 1) (n := 6) (Nat.le_of_ble_eq_true rfl) (Nat.le_of_ble_eq_true rfl) ?_
  exact q_retI (S := Unit) F hr hlk w ⟨rfl, rfl, ⟨AD, rfl, RepC.cg hM rfl⟩⟩ dX6_pointsAnew_12
set_option maxHeartbeats 4000000 in
set_option maxRecDepth 100000 in
theorem c_X6_pointsAnew_b (l : Launch) (D : va_G) (cy : Nat → ClassId) (A : Nat → Prop) (μ : MU) (AD : AM) (G : GS) (hM : RepC cy AD G μ) (hI : InvC G) (x1 : Int32) (hb : f_X6_isIndex x1 (nI (gnS G)) = 0) (hlf : l.stackTraces = false) : vx_Met l yX6_pointsAnew (WS yX6_pointsAnew cX6_pointsAnew 2 (Option.some Jvm.ClassFile.FieldType.int)) { frames := 7, cells := 1, slots := 6, locals := 121 } (va_Pc [.ref (AD 0 0 0), .int x1] (Wd D cy A μ)) (fun _ _ _ _ => False) (XC9 D A μ (xnm 3)) 1 6 A := by
  refine q_metx (by decide) (Nat.le_of_ble_eq_true rfl) ?_
  intro p e s m below meth c F w hr hlk ht ls hl
  have F : CallFix p m c cX6_pointsAnew 2 s _ BIG RX6 := F
  have hl : lv_has ls 2 [(0, .ref (AD 0 0 0)), (1, .int x1)] := hl
  refine lv_aload_n F.1 F.2.1 dX6_pointsAnew_0 rfl (lv_at hl 0 rfl) ?_
  refine lv_aload_n F.1 F.2.1 dX6_pointsAnew_1 rfl (lv_at hl 0 rfl) ?_
  refine lv_iload_n F.1 F.2.1 dX6_pointsAnew_2 rfl (lv_at hl 1 rfl) ?_
  exact q_xV (rest := [.ref (AD 0 0 0)]) F w rfl ht hlk kV_X6_82 hd_X6_shipNumbered (ci := 7) rfl (c_X6_shipNumbered_b l D cy A _ AD G hM hI x1 hb hlf) (hM.a0 ⟨by decide, rfl, rfl⟩) dX6_pointsAnew_3 rfl rfl hl.1 ⟨rfl, rfl, Nat.le_of_ble_eq_true rfl, Nat.le_of_ble_eq_true rfl⟩ (Nat.le_of_ble_eq_true rfl) ⟨Nat.le_of_ble_eq_true rfl, Nat.le_of_ble_eq_true rfl⟩ (Nat.le_of_ble_eq_true rfl) (Nat.le_of_ble_eq_true rfl)
def x_X6_isGround (G : GS) (i1 : Nat) (x2 : Int32) : Nat := if f_X6_isIndex x2 10 = 0 then 1 else 0
def f_X6_isGround (G : GS) (i1 : Nat) (x2 : Int32) : Int32 := if f_X6_isIndex x2 10 = 0 then 0 else f_X6_isGroundToday G i1 x2
def g_X6_isGround (G : GS) (i1 : Nat) (x2 : Int32) : GS := if f_X6_isIndex x2 10 = 0 then G else G
set_option maxHeartbeats 4000000 in
set_option maxRecDepth 100000 in
theorem c_X6_isGround (l : Launch) (D : va_G) (cy : Nat → ClassId) (A : Nat → Prop) (μ : MU) (AD : AM) (G : GS) (hM : RepC cy AD G μ) (hI : InvC G) (i1 : Nat) (x2 : Int32) (hi1 : i1 < gnS G) (hlf : l.stackTraces = false) : vx_Met l yX6_isGround (WS yX6_isGround cX6_isGround 4 (Option.some Jvm.ClassFile.FieldType.boolean)) { frames := 6, cells := 1, slots := 6, locals := 100 } (va_Pc [.ref (AD 0 0 0), .int (nI i1), .int x2] (Wd D cy A μ)) (va_Qi (fun (r9 : Int32) (μ1 : MU) => x_X6_isGround G i1 x2 = 0 ∧ r9 = f_X6_isGround G i1 x2 ∧ ∃ AD1 : AM, AD1 0 = AD 0 ∧ RepC cy AD1 (g_X6_isGround G i1 x2) μ1) (fun μ1 t => Wd D cy A μ1 t) A) (XC9 D A μ (xnm (x_X6_isGround G i1 x2))) 1 6 A := by
  refine q_metx (by decide) (Nat.le_of_ble_eq_true rfl) ?_
  intro p e s m below meth c F w hr hlk ht ls hl
  have F : CallFix p m c cX6_isGround 4 s _ BIG RX6 := F
  have hl : lv_has ls 4 [(0, .ref (AD 0 0 0)), (1, .int (nI i1)), (2, .int x2)] := hl
  refine lv_aload_n F.1 F.2.1 dX6_isGround_0 rfl (lv_at hl 0 rfl) ?_
  refine lv_iload_n F.1 F.2.1 dX6_isGround_1 rfl (lv_at hl 1 rfl) ?_
  refine q_sVq (rest := []) F w kV_X6_82 hd_X6_shipNumbered (ci := 7) rfl (c_X6_shipNumbered l D cy A _ AD G hM hI i1 (show i1 < gnS G by omega)) (hM.a0 ⟨by decide, rfl, rfl⟩) dX6_isGround_2 rfl rfl hl.1 ⟨rfl, rfl, Nat.le_of_ble_eq_true rfl, Nat.le_of_ble_eq_true rfl⟩ (Nat.le_of_ble_eq_true rfl) ⟨Nat.zero_le _, Nat.zero_le _⟩ ?_
  refine lv_astore_n (lv' := [(3, .ref (AD 6 i1 0)), (0, .ref (AD 0 0 0)), (1, .int (nI i1)), (2, .int x2)]) F.1 F.2.1 dX6_isGround_5 rfl hl (by decide) rfl (fun ls hl => ?_)
  refine lv_iload_n F.1 F.2.1 dX6_isGround_6 rfl (lv_at hl 3 rfl) ?_
  refine lv_bipush (v := 10) F.1 F.2.1 dX6_isGround_7 (by decide) ?_
  refine q_rS (rest := []) F w kS_X6_46 hd_X6_isIndex (c_X6_isIndex l D cy A _ x2 10) dX6_isGround_9 rfl rfl hl.1 ⟨rfl, rfl, Nat.le_of_ble_eq_true rfl, Nat.le_of_ble_eq_true rfl⟩ (Nat.le_of_ble_eq_true rfl) ⟨Nat.zero_le _, Nat.zero_le _⟩ ?_
  refine lv_if_ne (tgt := 26) F.1 F.2.1 dX6_isGround_12 (by decide) (fun c_1 => ?_) (fun c_1 => ?_)
  · refine lv_aload_n F.1 F.2.1 dX6_isGround_26 rfl (lv_at hl 1 rfl) ?_
    refine lv_aload_n F.1 F.2.1 dX6_isGround_27 rfl (lv_at hl 0 rfl) ?_
    refine lv_iload_n F.1 F.2.1 dX6_isGround_28 rfl (lv_at hl 3 rfl) ?_
    refine q_rV (rest := []) F w kV_X6_205 hd_X6_isGroundToday (ci := 7) rfl (c_X6_isGroundToday l D cy A _ AD G hM hI i1 x2 (show i1 < gnS G by omega)) (hM.a0 ⟨by decide, rfl, rfl⟩) dX6_isGround_29 rfl rfl hl.1 ⟨rfl, rfl, Nat.le_of_ble_eq_true rfl, Nat.le_of_ble_eq_true rfl⟩ (Nat.le_of_ble_eq_true rfl) ⟨Nat.zero_le _, Nat.zero_le _⟩ ?_
    refine vx_ret ?_
    refine W.widen (k := 1) (n := 6) (Nat.le_of_ble_eq_true rfl) (Nat.le_of_ble_eq_true rfl) ?_
    exact q_retZ (S := Unit) F hr hlk w ⟨(if_neg c_1), (if_neg c_1).symm, ⟨AD, rfl, RepC.cg hM (if_neg c_1)⟩⟩ (nz_f_X6_isGroundToday _ _ _) dX6_isGround_32
  · exact q_thW (k9 := 29) F w hlf th9_1 rfl hl.1 (congrArg xnm (if_pos c_1)).symm ht hlk dX6_isGround_15 dX6_isGround_18 dX6_isGround_19 dX6_isGround_22 dX6_isGround_25 (Nat.le_of_ble_eq_true rfl) (Nat.le_of_ble_eq_true rfl) (Nat.le_of_ble_eq_true rfl) (Nat.le_of_ble_eq_true rfl) (Nat.le_of_ble_eq_true rfl) (Nat.le_of_ble_eq_true rfl)
set_option maxHeartbeats 4000000 in
set_option maxRecDepth 100000 in
theorem c_X6_isGround_b (l : Launch) (D : va_G) (cy : Nat → ClassId) (A : Nat → Prop) (μ : MU) (AD : AM) (G : GS) (hM : RepC cy AD G μ) (hI : InvC G) (x1 : Int32) (x2 : Int32) (hb : f_X6_isIndex x1 (nI (gnS G)) = 0) (hlf : l.stackTraces = false) : vx_Met l yX6_isGround (WS yX6_isGround cX6_isGround 4 (Option.some Jvm.ClassFile.FieldType.boolean)) { frames := 7, cells := 1, slots := 6, locals := 121 } (va_Pc [.ref (AD 0 0 0), .int x1, .int x2] (Wd D cy A μ)) (fun _ _ _ _ => False) (XC9 D A μ (xnm 3)) 1 6 A := by
  refine q_metx (by decide) (Nat.le_of_ble_eq_true rfl) ?_
  intro p e s m below meth c F w hr hlk ht ls hl
  have F : CallFix p m c cX6_isGround 4 s _ BIG RX6 := F
  have hl : lv_has ls 4 [(0, .ref (AD 0 0 0)), (1, .int x1), (2, .int x2)] := hl
  refine lv_aload_n F.1 F.2.1 dX6_isGround_0 rfl (lv_at hl 0 rfl) ?_
  refine lv_iload_n F.1 F.2.1 dX6_isGround_1 rfl (lv_at hl 1 rfl) ?_
  exact q_xV (rest := []) F w rfl ht hlk kV_X6_82 hd_X6_shipNumbered (ci := 7) rfl (c_X6_shipNumbered_b l D cy A _ AD G hM hI x1 hb hlf) (hM.a0 ⟨by decide, rfl, rfl⟩) dX6_isGround_2 rfl rfl hl.1 ⟨rfl, rfl, Nat.le_of_ble_eq_true rfl, Nat.le_of_ble_eq_true rfl⟩ (Nat.le_of_ble_eq_true rfl) ⟨Nat.le_of_ble_eq_true rfl, Nat.le_of_ble_eq_true rfl⟩ (Nat.le_of_ble_eq_true rfl) (Nat.le_of_ble_eq_true rfl)
def g_X6_calls_1 (G : GS) (i1 : Nat) (x2 : Int32) : GS := up2 G 10 i1 x2
theorem e_g_X6_calls_1 (G : GS) (i1 : Nat) (x2 : Int32) {j : Nat} (h : j ∉ [10]) : g_X6_calls_1 G i1 x2 j = G j := (up2_ne (fun q => h (by rw [q]; exact List.mem_cons_self))).trans rfl
def x_X6_calls (G : GS) (i1 : Nat) (x2 : Int32) : Nat := if f_X6_isIndex x2 4 = 0 then 3 else (if G 10 i1 = (-1) then (if f_X6_isBanned G i1 = 0 then 0 else 2) else 2)
def f_X6_calls (G : GS) (i1 : Nat) (x2 : Int32) : Int32 := if f_X6_isIndex x2 4 = 0 then 0 else (if G 10 i1 = (-1) then (if f_X6_isBanned G i1 = 0 then f_X6_priorityOf (g_X6_calls_1 G i1 x2) i1 else 0) else 0)
def g_X6_calls (G : GS) (i1 : Nat) (x2 : Int32) : GS := if f_X6_isIndex x2 4 = 0 then G else (if G 10 i1 = (-1) then (if f_X6_isBanned G i1 = 0 then g_X6_calls_1 G i1 x2 else G) else G)
set_option maxHeartbeats 4000000 in
set_option maxRecDepth 100000 in
theorem c_X6_calls (l : Launch) (D : va_G) (cy : Nat → ClassId) (A : Nat → Prop) (μ : MU) (AD : AM) (G : GS) (hM : RepC cy AD G μ) (hI : InvC G) (i1 : Nat) (x2 : Int32) (hi1 : i1 < gnS G) (hlf : l.stackTraces = false) : vx_Met l yX6_calls (WS yX6_calls cX6_calls 4 (Option.some Jvm.ClassFile.FieldType.int)) { frames := 8, cells := 1, slots := 6, locals := 183 } (va_Pc [.ref (AD 0 0 0), .int (nI i1), .int x2] (Wd D cy A μ)) (va_Qi (fun (r9 : Int32) (μ1 : MU) => x_X6_calls G i1 x2 = 0 ∧ r9 = f_X6_calls G i1 x2 ∧ ∃ AD1 : AM, AD1 0 = AD 0 ∧ RepC cy AD1 (g_X6_calls G i1 x2) μ1) (fun μ1 t => Wd D cy A μ1 t) A) (XC9 D A μ (xnm (x_X6_calls G i1 x2))) 1 6 A := by
  refine q_metx (by decide) (Nat.le_of_ble_eq_true rfl) ?_
  intro p e s m below meth c F w hr hlk ht ls hl
  have F : CallFix p m c cX6_calls 4 s _ BIG RX6 := F
  have hl : lv_has ls 4 [(0, .ref (AD 0 0 0)), (1, .int (nI i1)), (2, .int x2)] := hl
  refine lv_aload_n F.1 F.2.1 dX6_calls_0 rfl (lv_at hl 0 rfl) ?_
  refine lv_iload_n F.1 F.2.1 dX6_calls_1 rfl (lv_at hl 1 rfl) ?_
  refine q_sVq (rest := []) F w kV_X6_82 hd_X6_shipNumbered (ci := 7) rfl (c_X6_shipNumbered l D cy A _ AD G hM hI i1 (show i1 < gnS G by omega)) (hM.a0 ⟨by decide, rfl, rfl⟩) dX6_calls_2 rfl rfl hl.1 ⟨rfl, rfl, Nat.le_of_ble_eq_true rfl, Nat.le_of_ble_eq_true rfl⟩ (Nat.le_of_ble_eq_true rfl) ⟨Nat.zero_le _, Nat.zero_le _⟩ ?_
  refine lv_astore_n (lv' := [(3, .ref (AD 6 i1 0)), (0, .ref (AD 0 0 0)), (1, .int (nI i1)), (2, .int x2)]) F.1 F.2.1 dX6_calls_5 rfl hl (by decide) rfl (fun ls hl => ?_)
  refine lv_iload_n F.1 F.2.1 dX6_calls_6 rfl (lv_at hl 3 rfl) ?_
  refine lv_iconst (v := 4) F.1 F.2.1 dX6_calls_7 (by decide) ?_
  refine q_rS (rest := []) F w kS_X6_46 hd_X6_isIndex (c_X6_isIndex l D cy A _ x2 4) dX6_calls_8 rfl rfl hl.1 ⟨rfl, rfl, Nat.le_of_ble_eq_true rfl, Nat.le_of_ble_eq_true rfl⟩ (Nat.le_of_ble_eq_true rfl) ⟨Nat.zero_le _, Nat.zero_le _⟩ ?_
  refine lv_if_ne (tgt := 24) F.1 F.2.1 dX6_calls_11 (by decide) (fun c_1 => ?_) (fun c_1 => ?_)
  · refine lv_aload_n F.1 F.2.1 dX6_calls_24 rfl (lv_at hl 0 rfl) ?_
    refine gf_X6_156 F w (hM.a6 (hI.o6 (show i1 < gnS G by omega))) rfl dX6_calls_25 ?_
    refine lv_iconst (v := -1) F.1 F.2.1 dX6_calls_28 (by decide) ?_
    refine lv_icmp_ne (tgt := 40) F.1 F.2.1 dX6_calls_29 (by decide) (fun c_2 => ?_) (fun c_2 => ?_)
    · exact q_thS (k9 := 15) F w hlf th9_2 rfl hl.1 (congrArg xnm ((if_neg c_1).trans (if_neg c_2))).symm ht hlk dX6_calls_40 dX6_calls_43 dX6_calls_44 dX6_calls_46 dX6_calls_49 (Nat.le_of_ble_eq_true rfl) (Nat.le_of_ble_eq_true rfl) (Nat.le_of_ble_eq_true rfl) (Nat.le_of_ble_eq_true rfl) (Nat.le_of_ble_eq_true rfl) (Nat.le_of_ble_eq_true rfl)
    · refine lv_aload_n F.1 F.2.1 dX6_calls_32 rfl (lv_at hl 1 rfl) ?_
      refine lv_aload_n F.1 F.2.1 dX6_calls_33 rfl (lv_at hl 0 rfl) ?_
      refine q_rV (rest := []) F w kV_X6_159 hd_X6_isBanned (ci := 7) rfl (c_X6_isBanned l D cy A _ AD G hM hI i1 (show i1 < gnS G by omega)) (hM.a0 ⟨by decide, rfl, rfl⟩) dX6_calls_34 rfl rfl hl.1 ⟨rfl, rfl, Nat.le_of_ble_eq_true rfl, Nat.le_of_ble_eq_true rfl⟩ (Nat.le_of_ble_eq_true rfl) ⟨Nat.zero_le _, Nat.zero_le _⟩ ?_
      refine lv_if_eq (tgt := 50) F.1 F.2.1 dX6_calls_37 (by decide) (fun c_3 => ?_) (fun c_3 => ?_)
      · refine lv_aload_n F.1 F.2.1 dX6_calls_50 rfl (lv_at hl 0 rfl) ?_
        refine lv_iload_n F.1 F.2.1 dX6_calls_51 rfl (lv_at hl 3 rfl) ?_
        refine cp_X6_156 F w hM (hI.o6 (show i1 < gnS G by omega)) dX6_calls_52 (fun H locs μ w hM => ?_)
        have hM : RepC cy AD (g_X6_calls_1 G i1 x2) μ := hM
        refine lv_aload_n F.1 F.2.1 dX6_calls_55 rfl (lv_at hl 1 rfl) ?_
        refine lv_aload_n F.1 F.2.1 dX6_calls_56 rfl (lv_at hl 0 rfl) ?_
        refine q_rV (rest := []) F w kV_X6_165 hd_X6_priorityOf (ci := 7) rfl (c_X6_priorityOf l D cy A _ AD (g_X6_calls_1 G i1 x2) hM (InvC.fr hI 10 i1 x2 rfl) i1 (show i1 < gnS G by omega)) (hM.a0 (ok_fr (by decide) ⟨by decide, rfl, rfl⟩)) dX6_calls_57 rfl rfl hl.1 ⟨rfl, rfl, Nat.le_of_ble_eq_true rfl, Nat.le_of_ble_eq_true rfl⟩ (Nat.le_of_ble_eq_true rfl) ⟨Nat.zero_le _, Nat.zero_le _⟩ ?_
        refine vx_ret ?_
        refine W.widen (k := 1) (n := 6) (Nat.le_of_ble_eq_true rfl) (Nat.le_of_ble_eq_true rfl) ?_
        exact q_retI (S := Unit) F hr hlk w ⟨((if_neg c_1).trans ((if_pos c_2).trans (if_pos c_3))), ((if_neg c_1).trans ((if_pos c_2).trans (if_pos c_3))).symm, ⟨AD, rfl, RepC.cg hM ((if_neg c_1).trans ((if_pos c_2).trans (if_pos c_3)))⟩⟩ dX6_calls_60
      · exact q_thS (k9 := 15) F w hlf th9_2 rfl hl.1 (congrArg xnm ((if_neg c_1).trans ((if_pos c_2).trans (if_neg c_3)))).symm ht hlk dX6_calls_40 dX6_calls_43 dX6_calls_44 dX6_calls_46 dX6_calls_49 (Nat.le_of_ble_eq_true rfl) (Nat.le_of_ble_eq_true rfl) (Nat.le_of_ble_eq_true rfl) (Nat.le_of_ble_eq_true rfl) (Nat.le_of_ble_eq_true rfl) (Nat.le_of_ble_eq_true rfl)
  · exact q_thS (k9 := 14) F w hlf th9_3 rfl hl.1 (congrArg xnm (if_pos c_1)).symm ht hlk dX6_calls_14 dX6_calls_17 dX6_calls_18 dX6_calls_20 dX6_calls_23 (Nat.le_of_ble_eq_true rfl) (Nat.le_of_ble_eq_true rfl) (Nat.le_of_ble_eq_true rfl) (Nat.le_of_ble_eq_true rfl) (Nat.le_of_ble_eq_true rfl) (Nat.le_of_ble_eq_true rfl)
set_option maxHeartbeats 4000000 in
set_option maxRecDepth 100000 in
theorem c_X6_calls_b (l : Launch) (D : va_G) (cy : Nat → ClassId) (A : Nat → Prop) (μ : MU) (AD : AM) (G : GS) (hM : RepC cy AD G μ) (hI : InvC G) (x1 : Int32) (x2 : Int32) (hb : f_X6_isIndex x1 (nI (gnS G)) = 0) (hlf : l.stackTraces = false) : vx_Met l yX6_calls (WS yX6_calls cX6_calls 4 (Option.some Jvm.ClassFile.FieldType.int)) { frames := 7, cells := 1, slots := 6, locals := 121 } (va_Pc [.ref (AD 0 0 0), .int x1, .int x2] (Wd D cy A μ)) (fun _ _ _ _ => False) (XC9 D A μ (xnm 3)) 1 6 A := by
  refine q_metx (by decide) (Nat.le_of_ble_eq_true rfl) ?_
  intro p e s m below meth c F w hr hlk ht ls hl
  have F : CallFix p m c cX6_calls 4 s _ BIG RX6 := F
  have hl : lv_has ls 4 [(0, .ref (AD 0 0 0)), (1, .int x1), (2, .int x2)] := hl
  refine lv_aload_n F.1 F.2.1 dX6_calls_0 rfl (lv_at hl 0 rfl) ?_
  refine lv_iload_n F.1 F.2.1 dX6_calls_1 rfl (lv_at hl 1 rfl) ?_
  exact q_xV (rest := []) F w rfl ht hlk kV_X6_82 hd_X6_shipNumbered (ci := 7) rfl (c_X6_shipNumbered_b l D cy A _ AD G hM hI x1 hb hlf) (hM.a0 ⟨by decide, rfl, rfl⟩) dX6_calls_2 rfl rfl hl.1 ⟨rfl, rfl, Nat.le_of_ble_eq_true rfl, Nat.le_of_ble_eq_true rfl⟩ (Nat.le_of_ble_eq_true rfl) ⟨Nat.le_of_ble_eq_true rfl, Nat.le_of_ble_eq_true rfl⟩ (Nat.le_of_ble_eq_true rfl) (Nat.le_of_ble_eq_true rfl)
def x_X6_ofShip (G : GS) (i1 : Nat) (x2 : Int32) : Nat := if f_X6_isIndex x2 8 = 0 then 1 else (if x2 = 0 then 0 else (if x2 = 1 then 0 else (if x2 = 2 then 0 else (if x2 = 3 then 0 else (if x2 = 4 then 0 else (if x2 = 5 then 0 else (if x2 = 6 then 0 else 0)))))))
def f_X6_ofShip (G : GS) (i1 : Nat) (x2 : Int32) : Int32 := if f_X6_isIndex x2 8 = 0 then 0 else (if x2 = 0 then f_X6_pointsOf G i1 else (if x2 = 1 then f_X6_riskOf G i1 else (if x2 = 2 then f_X6_priorityOf G i1 else (if x2 = 3 then G 10 i1 else (if x2 = 4 then (if G 13 i1 = -1 then 0 else 1) else (if x2 = 5 then (if f_X6_isBanned G i1 = 0 then 0 else 1) else (if x2 = 6 then G 17 i1 else f_X6_familiesNotGood G i1)))))))
def g_X6_ofShip (G : GS) (i1 : Nat) (x2 : Int32) : GS := if f_X6_isIndex x2 8 = 0 then G else (if x2 = 0 then G else (if x2 = 1 then G else (if x2 = 2 then G else (if x2 = 3 then G else (if x2 = 4 then G else (if x2 = 5 then G else (if x2 = 6 then G else G)))))))
set_option maxHeartbeats 4000000 in
set_option maxRecDepth 100000 in
theorem c_X6_ofShip (l : Launch) (D : va_G) (cy : Nat → ClassId) (A : Nat → Prop) (μ : MU) (AD : AM) (G : GS) (hM : RepC cy AD G μ) (hI : InvC G) (i1 : Nat) (x2 : Int32) (hi1 : i1 < gnS G) (hlf : l.stackTraces = false) : vx_Met l yX6_ofShip (WS yX6_ofShip cX6_ofShip 4 (Option.some Jvm.ClassFile.FieldType.int)) { frames := 8, cells := 1, slots := 6, locals := 183 } (va_Pc [.ref (AD 0 0 0), .int (nI i1), .int x2] (Wd D cy A μ)) (va_Qi (fun (r9 : Int32) (μ1 : MU) => x_X6_ofShip G i1 x2 = 0 ∧ r9 = f_X6_ofShip G i1 x2 ∧ ∃ AD1 : AM, AD1 0 = AD 0 ∧ RepC cy AD1 (g_X6_ofShip G i1 x2) μ1) (fun μ1 t => Wd D cy A μ1 t) A) (XC9 D A μ (xnm (x_X6_ofShip G i1 x2))) 1 6 A := by
  refine q_metx (by decide) (Nat.le_of_ble_eq_true rfl) ?_
  intro p e s m below meth c F w hr hlk ht ls hl
  have F : CallFix p m c cX6_ofShip 4 s _ BIG RX6 := F
  have hl : lv_has ls 4 [(0, .ref (AD 0 0 0)), (1, .int (nI i1)), (2, .int x2)] := hl
  refine lv_aload_n F.1 F.2.1 dX6_ofShip_0 rfl (lv_at hl 0 rfl) ?_
  refine lv_iload_n F.1 F.2.1 dX6_ofShip_1 rfl (lv_at hl 1 rfl) ?_
  refine q_sVq (rest := []) F w kV_X6_82 hd_X6_shipNumbered (ci := 7) rfl (c_X6_shipNumbered l D cy A _ AD G hM hI i1 (show i1 < gnS G by omega)) (hM.a0 ⟨by decide, rfl, rfl⟩) dX6_ofShip_2 rfl rfl hl.1 ⟨rfl, rfl, Nat.le_of_ble_eq_true rfl, Nat.le_of_ble_eq_true rfl⟩ (Nat.le_of_ble_eq_true rfl) ⟨Nat.zero_le _, Nat.zero_le _⟩ ?_
  refine lv_astore_n (lv' := [(3, .ref (AD 6 i1 0)), (0, .ref (AD 0 0 0)), (1, .int (nI i1)), (2, .int x2)]) F.1 F.2.1 dX6_ofShip_5 rfl hl (by decide) rfl (fun ls hl => ?_)
  refine lv_iload_n F.1 F.2.1 dX6_ofShip_6 rfl (lv_at hl 3 rfl) ?_
  refine lv_bipush (v := 8) F.1 F.2.1 dX6_ofShip_7 (by decide) ?_
  refine q_rS (rest := []) F w kS_X6_46 hd_X6_isIndex (c_X6_isIndex l D cy A _ x2 8) dX6_ofShip_9 rfl rfl hl.1 ⟨rfl, rfl, Nat.le_of_ble_eq_true rfl, Nat.le_of_ble_eq_true rfl⟩ (Nat.le_of_ble_eq_true rfl) ⟨Nat.zero_le _, Nat.zero_le _⟩ ?_
  refine lv_if_ne (tgt := 26) F.1 F.2.1 dX6_ofShip_12 (by decide) (fun c_1 => ?_) (fun c_1 => ?_)
  · refine lv_iload_n F.1 F.2.1 dX6_ofShip_26 rfl (lv_at hl 3 rfl) ?_
    by_cases c_2 : x2 = 0
    · refine lv_tableIn (tgt := 68) F.1 F.2.1 dX6_ofShip_27 (by rw [c_2]; decide) (by rw [c_2]; decide) (by rw [c_2]; rfl) (by decide) ?_
      refine lv_aload_n F.1 F.2.1 dX6_ofShip_68 rfl (lv_at hl 1 rfl) ?_
      refine lv_aload_n F.1 F.2.1 dX6_ofShip_69 rfl (lv_at hl 0 rfl) ?_
      refine q_rV (rest := []) F w kV_X6_293 hd_X6_pointsOf (ci := 7) rfl (c_X6_pointsOf l D cy A _ AD G hM hI i1 (show i1 < gnS G by omega)) (hM.a0 ⟨by decide, rfl, rfl⟩) dX6_ofShip_70 rfl rfl hl.1 ⟨rfl, rfl, Nat.le_of_ble_eq_true rfl, Nat.le_of_ble_eq_true rfl⟩ (Nat.le_of_ble_eq_true rfl) ⟨Nat.zero_le _, Nat.zero_le _⟩ ?_
      refine vx_ret ?_
      refine W.widen (k := 1) (n := 6) (Nat.le_of_ble_eq_true rfl) (Nat.le_of_ble_eq_true rfl) ?_
      exact q_retI (S := Unit) F hr hlk w ⟨((if_neg c_1).trans (if_pos c_2)), ((if_neg c_1).trans (if_pos c_2)).symm, ⟨AD, rfl, RepC.cg hM ((if_neg c_1).trans (if_pos c_2))⟩⟩ dX6_ofShip_73
    · by_cases c_3 : x2 = 1
      · refine lv_tableIn (tgt := 74) F.1 F.2.1 dX6_ofShip_27 (by rw [c_3]; decide) (by rw [c_3]; decide) (by rw [c_3]; rfl) (by decide) ?_
        refine lv_aload_n F.1 F.2.1 dX6_ofShip_74 rfl (lv_at hl 1 rfl) ?_
        refine lv_aload_n F.1 F.2.1 dX6_ofShip_75 rfl (lv_at hl 0 rfl) ?_
        refine q_rV (rest := []) F w kV_X6_296 hd_X6_riskOf (ci := 7) rfl (c_X6_riskOf l D cy A _ AD G hM hI i1 (show i1 < gnS G by omega)) (hM.a0 ⟨by decide, rfl, rfl⟩) dX6_ofShip_76 rfl rfl hl.1 ⟨rfl, rfl, Nat.le_of_ble_eq_true rfl, Nat.le_of_ble_eq_true rfl⟩ (Nat.le_of_ble_eq_true rfl) ⟨Nat.zero_le _, Nat.zero_le _⟩ ?_
        refine vx_ret ?_
        refine W.widen (k := 1) (n := 6) (Nat.le_of_ble_eq_true rfl) (Nat.le_of_ble_eq_true rfl) ?_
        exact q_retI (S := Unit) F hr hlk w ⟨((if_neg c_1).trans ((if_neg c_2).trans (if_pos c_3))), ((if_neg c_1).trans ((if_neg c_2).trans (if_pos c_3))).symm, ⟨AD, rfl, RepC.cg hM ((if_neg c_1).trans ((if_neg c_2).trans (if_pos c_3)))⟩⟩ dX6_ofShip_79
      · by_cases c_4 : x2 = 2
        · refine lv_tableIn (tgt := 80) F.1 F.2.1 dX6_ofShip_27 (by rw [c_4]; decide) (by rw [c_4]; decide) (by rw [c_4]; rfl) (by decide) ?_
          refine lv_aload_n F.1 F.2.1 dX6_ofShip_80 rfl (lv_at hl 1 rfl) ?_
          refine lv_aload_n F.1 F.2.1 dX6_ofShip_81 rfl (lv_at hl 0 rfl) ?_
          refine q_rV (rest := []) F w kV_X6_165 hd_X6_priorityOf (ci := 7) rfl (c_X6_priorityOf l D cy A _ AD G hM hI i1 (show i1 < gnS G by omega)) (hM.a0 ⟨by decide, rfl, rfl⟩) dX6_ofShip_82 rfl rfl hl.1 ⟨rfl, rfl, Nat.le_of_ble_eq_true rfl, Nat.le_of_ble_eq_true rfl⟩ (Nat.le_of_ble_eq_true rfl) ⟨Nat.zero_le _, Nat.zero_le _⟩ ?_
          refine vx_ret ?_
          refine W.widen (k := 1) (n := 6) (Nat.le_of_ble_eq_true rfl) (Nat.le_of_ble_eq_true rfl) ?_
          exact q_retI (S := Unit) F hr hlk w ⟨((if_neg c_1).trans ((if_neg c_2).trans ((if_neg c_3).trans (if_pos c_4)))), ((if_neg c_1).trans ((if_neg c_2).trans ((if_neg c_3).trans (if_pos c_4)))).symm, ⟨AD, rfl, RepC.cg hM ((if_neg c_1).trans ((if_neg c_2).trans ((if_neg c_3).trans (if_pos c_4))))⟩⟩ dX6_ofShip_85
        · by_cases c_5 : x2 = 3
          · refine lv_tableIn (tgt := 86) F.1 F.2.1 dX6_ofShip_27 (by rw [c_5]; decide) (by rw [c_5]; decide) (by rw [c_5]; rfl) (by decide) ?_
            refine lv_aload_n F.1 F.2.1 dX6_ofShip_86 rfl (lv_at hl 0 rfl) ?_
            refine gf_X6_156 F w (hM.a6 (hI.o6 (show i1 < gnS G by omega))) rfl dX6_ofShip_87 ?_
            refine vx_ret ?_
            refine W.widen (k := 1) (n := 6) (Nat.le_of_ble_eq_true rfl) (Nat.le_of_ble_eq_true rfl) ?_
            exact q_retI (S := Unit) F hr hlk w ⟨((if_neg c_1).trans ((if_neg c_2).trans ((if_neg c_3).trans ((if_neg c_4).trans (if_pos c_5))))), ((if_neg c_1).trans ((if_neg c_2).trans ((if_neg c_3).trans ((if_neg c_4).trans (if_pos c_5))))).symm, ⟨AD, rfl, RepC.cg hM ((if_neg c_1).trans ((if_neg c_2).trans ((if_neg c_3).trans ((if_neg c_4).trans (if_pos c_5)))))⟩⟩ dX6_ofShip_90
          · by_cases c_6 : x2 = 4
            · refine lv_tableIn (tgt := 91) F.1 F.2.1 dX6_ofShip_27 (by rw [c_6]; decide) (by rw [c_6]; decide) (by rw [c_6]; rfl) (by decide) ?_
              refine lv_aload_n F.1 F.2.1 dX6_ofShip_91 rfl (lv_at hl 0 rfl) ?_
              refine gf_X6_168 F w (hM.a6 (hI.o6 (show i1 < gnS G by omega))) rfl dX6_ofShip_92 ?_
              refine jn0 (m := m) (ls := ls) (rest := []) (if G 13 i1 = -1 then 0 else 1) 103 (fun J_7 => ?_) ?_
              · refine q_ifnull (P := G 13 i1 = -1) (hn := fun h => if_pos h) (hs := fun h => ⟨_, if_neg h⟩) (tgt := 102) F.1 F.2.1 dX6_ofShip_95 (by decide) (fun c_8 => ?_) (fun c_8 => ?_)
                · refine lv_iconst (v := 0) F.1 F.2.1 dX6_ofShip_102 (by decide) ?_
                  exact jn_a (if_pos c_8) J_7
                · refine lv_iconst (v := 1) F.1 F.2.1 dX6_ofShip_98 (by decide) ?_
                  refine lv_goto (tgt := 103) F.1 F.2.1 dX6_ofShip_99 (by decide) ?_
                  exact jn_a (if_neg c_8) J_7
              refine vx_ret ?_
              refine W.widen (k := 1) (n := 6) (Nat.le_of_ble_eq_true rfl) (Nat.le_of_ble_eq_true rfl) ?_
              exact q_retI (S := Unit) F hr hlk w ⟨((if_neg c_1).trans ((if_neg c_2).trans ((if_neg c_3).trans ((if_neg c_4).trans ((if_neg c_5).trans (if_pos c_6)))))), ((if_neg c_1).trans ((if_neg c_2).trans ((if_neg c_3).trans ((if_neg c_4).trans ((if_neg c_5).trans (if_pos c_6)))))).symm, ⟨AD, rfl, RepC.cg hM ((if_neg c_1).trans ((if_neg c_2).trans ((if_neg c_3).trans ((if_neg c_4).trans ((if_neg c_5).trans (if_pos c_6))))))⟩⟩ dX6_ofShip_103
            · by_cases c_9 : x2 = 5
              · refine lv_tableIn (tgt := 104) F.1 F.2.1 dX6_ofShip_27 (by rw [c_9]; decide) (by rw [c_9]; decide) (by rw [c_9]; rfl) (by decide) ?_
                refine lv_aload_n F.1 F.2.1 dX6_ofShip_104 rfl (lv_at hl 1 rfl) ?_
                refine lv_aload_n F.1 F.2.1 dX6_ofShip_105 rfl (lv_at hl 0 rfl) ?_
                refine q_rV (rest := []) F w kV_X6_159 hd_X6_isBanned (ci := 7) rfl (c_X6_isBanned l D cy A _ AD G hM hI i1 (show i1 < gnS G by omega)) (hM.a0 ⟨by decide, rfl, rfl⟩) dX6_ofShip_106 rfl rfl hl.1 ⟨rfl, rfl, Nat.le_of_ble_eq_true rfl, Nat.le_of_ble_eq_true rfl⟩ (Nat.le_of_ble_eq_true rfl) ⟨Nat.zero_le _, Nat.zero_le _⟩ ?_
                refine jn0 (m := m) (ls := ls) (rest := []) (if f_X6_isBanned G i1 = 0 then 0 else 1) 117 (fun J_10 => ?_) ?_
                · refine lv_if_eq (tgt := 116) F.1 F.2.1 dX6_ofShip_109 (by decide) (fun c_11 => ?_) (fun c_11 => ?_)
                  · refine lv_iconst (v := 0) F.1 F.2.1 dX6_ofShip_116 (by decide) ?_
                    exact jn_a (if_pos c_11) J_10
                  · refine lv_iconst (v := 1) F.1 F.2.1 dX6_ofShip_112 (by decide) ?_
                    refine lv_goto (tgt := 117) F.1 F.2.1 dX6_ofShip_113 (by decide) ?_
                    exact jn_a (if_neg c_11) J_10
                refine vx_ret ?_
                refine W.widen (k := 1) (n := 6) (Nat.le_of_ble_eq_true rfl) (Nat.le_of_ble_eq_true rfl) ?_
                exact q_retI (S := Unit) F hr hlk w ⟨((if_neg c_1).trans ((if_neg c_2).trans ((if_neg c_3).trans ((if_neg c_4).trans ((if_neg c_5).trans ((if_neg c_6).trans (if_pos c_9))))))), ((if_neg c_1).trans ((if_neg c_2).trans ((if_neg c_3).trans ((if_neg c_4).trans ((if_neg c_5).trans ((if_neg c_6).trans (if_pos c_9))))))).symm, ⟨AD, rfl, RepC.cg hM ((if_neg c_1).trans ((if_neg c_2).trans ((if_neg c_3).trans ((if_neg c_4).trans ((if_neg c_5).trans ((if_neg c_6).trans (if_pos c_9)))))))⟩⟩ dX6_ofShip_117
              · by_cases c_12 : x2 = 6
                · refine lv_tableIn (tgt := 118) F.1 F.2.1 dX6_ofShip_27 (by rw [c_12]; decide) (by rw [c_12]; decide) (by rw [c_12]; rfl) (by decide) ?_
                  refine lv_aload_n F.1 F.2.1 dX6_ofShip_118 rfl (lv_at hl 0 rfl) ?_
                  refine gf_X6_266 F w (hM.a6 (hI.o6 (show i1 < gnS G by omega))) rfl dX6_ofShip_119 ?_
                  refine vx_ret ?_
                  refine W.widen (k := 1) (n := 6) (Nat.le_of_ble_eq_true rfl) (Nat.le_of_ble_eq_true rfl) ?_
                  exact q_retI (S := Unit) F hr hlk w ⟨((if_neg c_1).trans ((if_neg c_2).trans ((if_neg c_3).trans ((if_neg c_4).trans ((if_neg c_5).trans ((if_neg c_6).trans ((if_neg c_9).trans (if_pos c_12)))))))), ((if_neg c_1).trans ((if_neg c_2).trans ((if_neg c_3).trans ((if_neg c_4).trans ((if_neg c_5).trans ((if_neg c_6).trans ((if_neg c_9).trans (if_pos c_12)))))))).symm, ⟨AD, rfl, RepC.cg hM ((if_neg c_1).trans ((if_neg c_2).trans ((if_neg c_3).trans ((if_neg c_4).trans ((if_neg c_5).trans ((if_neg c_6).trans ((if_neg c_9).trans (if_pos c_12))))))))⟩⟩ dX6_ofShip_122
                · refine lv_tableOut (tgt := 123) F.1 F.2.1 dX6_ofShip_27 (by have q0 : x2.toInt ≠ 0 := i32_ne c_2 rfl; have q1 : x2.toInt ≠ 1 := i32_ne c_3 rfl; have q2 : x2.toInt ≠ 2 := i32_ne c_4 rfl; have q3 : x2.toInt ≠ 3 := i32_ne c_5 rfl; have q4 : x2.toInt ≠ 4 := i32_ne c_6 rfl; have q5 : x2.toInt ≠ 5 := i32_ne c_9 rfl; have q6 : x2.toInt ≠ 6 := i32_ne c_12 rfl; omega) (by decide) ?_
                  refine lv_aload_n F.1 F.2.1 dX6_ofShip_123 rfl (lv_at hl 1 rfl) ?_
                  refine lv_aload_n F.1 F.2.1 dX6_ofShip_124 rfl (lv_at hl 0 rfl) ?_
                  refine q_rV (rest := []) F w kV_X6_120 hd_X6_familiesNotGood (ci := 7) rfl (c_X6_familiesNotGood l D cy A _ AD G hM hI i1 (show i1 < gnS G by omega)) (hM.a0 ⟨by decide, rfl, rfl⟩) dX6_ofShip_125 rfl rfl hl.1 ⟨rfl, rfl, Nat.le_of_ble_eq_true rfl, Nat.le_of_ble_eq_true rfl⟩ (Nat.le_of_ble_eq_true rfl) ⟨Nat.zero_le _, Nat.zero_le _⟩ ?_
                  refine vx_ret ?_
                  refine W.widen (k := 1) (n := 6) (Nat.le_of_ble_eq_true rfl) (Nat.le_of_ble_eq_true rfl) ?_
                  exact q_retI (S := Unit) F hr hlk w ⟨((if_neg c_1).trans ((if_neg c_2).trans ((if_neg c_3).trans ((if_neg c_4).trans ((if_neg c_5).trans ((if_neg c_6).trans ((if_neg c_9).trans (if_neg c_12)))))))), ((if_neg c_1).trans ((if_neg c_2).trans ((if_neg c_3).trans ((if_neg c_4).trans ((if_neg c_5).trans ((if_neg c_6).trans ((if_neg c_9).trans (if_neg c_12)))))))).symm, ⟨AD, rfl, RepC.cg hM ((if_neg c_1).trans ((if_neg c_2).trans ((if_neg c_3).trans ((if_neg c_4).trans ((if_neg c_5).trans ((if_neg c_6).trans ((if_neg c_9).trans (if_neg c_12))))))))⟩⟩ dX6_ofShip_128
  · exact q_thW (k9 := 28) F w hlf th9_1 rfl hl.1 (congrArg xnm (if_pos c_1)).symm ht hlk dX6_ofShip_15 dX6_ofShip_18 dX6_ofShip_19 dX6_ofShip_22 dX6_ofShip_25 (Nat.le_of_ble_eq_true rfl) (Nat.le_of_ble_eq_true rfl) (Nat.le_of_ble_eq_true rfl) (Nat.le_of_ble_eq_true rfl) (Nat.le_of_ble_eq_true rfl) (Nat.le_of_ble_eq_true rfl)
set_option maxHeartbeats 4000000 in
set_option maxRecDepth 100000 in
theorem c_X6_ofShip_b (l : Launch) (D : va_G) (cy : Nat → ClassId) (A : Nat → Prop) (μ : MU) (AD : AM) (G : GS) (hM : RepC cy AD G μ) (hI : InvC G) (x1 : Int32) (x2 : Int32) (hb : f_X6_isIndex x1 (nI (gnS G)) = 0) (hlf : l.stackTraces = false) : vx_Met l yX6_ofShip (WS yX6_ofShip cX6_ofShip 4 (Option.some Jvm.ClassFile.FieldType.int)) { frames := 7, cells := 1, slots := 6, locals := 121 } (va_Pc [.ref (AD 0 0 0), .int x1, .int x2] (Wd D cy A μ)) (fun _ _ _ _ => False) (XC9 D A μ (xnm 3)) 1 6 A := by
  refine q_metx (by decide) (Nat.le_of_ble_eq_true rfl) ?_
  intro p e s m below meth c F w hr hlk ht ls hl
  have F : CallFix p m c cX6_ofShip 4 s _ BIG RX6 := F
  have hl : lv_has ls 4 [(0, .ref (AD 0 0 0)), (1, .int x1), (2, .int x2)] := hl
  refine lv_aload_n F.1 F.2.1 dX6_ofShip_0 rfl (lv_at hl 0 rfl) ?_
  refine lv_iload_n F.1 F.2.1 dX6_ofShip_1 rfl (lv_at hl 1 rfl) ?_
  exact q_xV (rest := []) F w rfl ht hlk kV_X6_82 hd_X6_shipNumbered (ci := 7) rfl (c_X6_shipNumbered_b l D cy A _ AD G hM hI x1 hb hlf) (hM.a0 ⟨by decide, rfl, rfl⟩) dX6_ofShip_2 rfl rfl hl.1 ⟨rfl, rfl, Nat.le_of_ble_eq_true rfl, Nat.le_of_ble_eq_true rfl⟩ (Nat.le_of_ble_eq_true rfl) ⟨Nat.le_of_ble_eq_true rfl, Nat.le_of_ble_eq_true rfl⟩ (Nat.le_of_ble_eq_true rfl) (Nat.le_of_ble_eq_true rfl)
def x_X6_ofVisit (G : GS) (i1 : Nat) (x2 : Int32) : Nat := if f_X6_isIndex x2 7 = 0 then 1 else (if x2 = 0 then 0 else (if x2 = 1 then 0 else (if x2 = 2 then 0 else (if x2 = 3 then 0 else (if x2 = 4 then 0 else (if x2 = 5 then 0 else 0))))))
def f_X6_ofVisit (G : GS) (i1 : Nat) (x2 : Int32) : Int32 := if f_X6_isIndex x2 7 = 0 then 0 else (if x2 = 0 then nI (gnO G i1) else (if x2 = 1 then G 31 i1 else (if x2 = 2 then G 32 i1 else (if x2 = 3 then G 33 i1 else (if x2 = 4 then nI (gnF G i1) else (if x2 = 5 then f_X5_openFindings G i1 else if f_X5_counts G i1 = 0 then 0 else 1))))))
def g_X6_ofVisit (G : GS) (i1 : Nat) (x2 : Int32) : GS := if f_X6_isIndex x2 7 = 0 then G else (if x2 = 0 then G else (if x2 = 1 then G else (if x2 = 2 then G else (if x2 = 3 then G else (if x2 = 4 then G else (if x2 = 5 then G else G))))))
set_option maxHeartbeats 4000000 in
set_option maxRecDepth 100000 in
theorem c_X6_ofVisit (l : Launch) (D : va_G) (cy : Nat → ClassId) (A : Nat → Prop) (μ : MU) (AD : AM) (G : GS) (hM : RepC cy AD G μ) (hI : InvC G) (i1 : Nat) (x2 : Int32) (hi1 : i1 < gnV G) (hlf : l.stackTraces = false) : vx_Met l yX6_ofVisit (WS yX6_ofVisit cX6_ofVisit 4 (Option.some Jvm.ClassFile.FieldType.int)) { frames := 6, cells := 1, slots := 6, locals := 100 } (va_Pc [.ref (AD 0 0 0), .int (nI i1), .int x2] (Wd D cy A μ)) (va_Qi (fun (r9 : Int32) (μ1 : MU) => x_X6_ofVisit G i1 x2 = 0 ∧ r9 = f_X6_ofVisit G i1 x2 ∧ ∃ AD1 : AM, AD1 0 = AD 0 ∧ RepC cy AD1 (g_X6_ofVisit G i1 x2) μ1) (fun μ1 t => Wd D cy A μ1 t) A) (XC9 D A μ (xnm (x_X6_ofVisit G i1 x2))) 1 6 A := by
  refine q_metx (by decide) (Nat.le_of_ble_eq_true rfl) ?_
  intro p e s m below meth c F w hr hlk ht ls hl
  have F : CallFix p m c cX6_ofVisit 4 s _ BIG RX6 := F
  have hl : lv_has ls 4 [(0, .ref (AD 0 0 0)), (1, .int (nI i1)), (2, .int x2)] := hl
  refine lv_aload_n F.1 F.2.1 dX6_ofVisit_0 rfl (lv_at hl 0 rfl) ?_
  refine lv_iload_n F.1 F.2.1 dX6_ofVisit_1 rfl (lv_at hl 1 rfl) ?_
  refine q_sVq (rest := []) F w kV_X6_191 hd_X6_visitNumbered (ci := 7) rfl (c_X6_visitNumbered l D cy A _ AD G hM hI i1 (show i1 < gnV G by omega)) (hM.a0 ⟨by decide, rfl, rfl⟩) dX6_ofVisit_2 rfl rfl hl.1 ⟨rfl, rfl, Nat.le_of_ble_eq_true rfl, Nat.le_of_ble_eq_true rfl⟩ (Nat.le_of_ble_eq_true rfl) ⟨Nat.zero_le _, Nat.zero_le _⟩ ?_
  refine lv_astore_n (lv' := [(3, .ref (AD 10 i1 0)), (0, .ref (AD 0 0 0)), (1, .int (nI i1)), (2, .int x2)]) F.1 F.2.1 dX6_ofVisit_5 rfl hl (by decide) rfl (fun ls hl => ?_)
  refine lv_iload_n F.1 F.2.1 dX6_ofVisit_6 rfl (lv_at hl 3 rfl) ?_
  refine lv_bipush (v := 7) F.1 F.2.1 dX6_ofVisit_7 (by decide) ?_
  refine q_rS (rest := []) F w kS_X6_46 hd_X6_isIndex (c_X6_isIndex l D cy A _ x2 7) dX6_ofVisit_9 rfl rfl hl.1 ⟨rfl, rfl, Nat.le_of_ble_eq_true rfl, Nat.le_of_ble_eq_true rfl⟩ (Nat.le_of_ble_eq_true rfl) ⟨Nat.zero_le _, Nat.zero_le _⟩ ?_
  refine lv_if_ne (tgt := 26) F.1 F.2.1 dX6_ofVisit_12 (by decide) (fun c_1 => ?_) (fun c_1 => ?_)
  · refine lv_iload_n F.1 F.2.1 dX6_ofVisit_26 rfl (lv_at hl 3 rfl) ?_
    by_cases c_2 : x2 = 0
    · refine lv_tableIn (tgt := 64) F.1 F.2.1 dX6_ofVisit_27 (by rw [c_2]; decide) (by rw [c_2]; decide) (by rw [c_2]; rfl) (by decide) ?_
      refine lv_aload_n F.1 F.2.1 dX6_ofVisit_64 rfl (lv_at hl 0 rfl) ?_
      refine gf_X6_201 F w (hM.a10 (hI.o10 (show i1 < gnV G by omega))) rfl dX6_ofVisit_65 ?_
      refine gf_X6_79 F w (hM.a6 (hI.o6 (hI.so (show i1 < gnV G by omega)).2)) rfl dX6_ofVisit_68 ?_
      refine vx_ret ?_
      refine W.widen (k := 1) (n := 6) (Nat.le_of_ble_eq_true rfl) (Nat.le_of_ble_eq_true rfl) ?_
      exact q_retI (S := Unit) F hr hlk w ⟨((if_neg c_1).trans (if_pos c_2)), ((if_neg c_1).trans (if_pos c_2)).symm, ⟨AD, rfl, RepC.cg hM ((if_neg c_1).trans (if_pos c_2))⟩⟩ dX6_ofVisit_71
    · by_cases c_3 : x2 = 1
      · refine lv_tableIn (tgt := 72) F.1 F.2.1 dX6_ofVisit_27 (by rw [c_3]; decide) (by rw [c_3]; decide) (by rw [c_3]; rfl) (by decide) ?_
        refine lv_aload_n F.1 F.2.1 dX6_ofVisit_72 rfl (lv_at hl 0 rfl) ?_
        refine gf_X6_308 F w (hM.a10 (hI.o10 (show i1 < gnV G by omega))) rfl dX6_ofVisit_73 ?_
        refine vx_ret ?_
        refine W.widen (k := 1) (n := 6) (Nat.le_of_ble_eq_true rfl) (Nat.le_of_ble_eq_true rfl) ?_
        exact q_retI (S := Unit) F hr hlk w ⟨((if_neg c_1).trans ((if_neg c_2).trans (if_pos c_3))), ((if_neg c_1).trans ((if_neg c_2).trans (if_pos c_3))).symm, ⟨AD, rfl, RepC.cg hM ((if_neg c_1).trans ((if_neg c_2).trans (if_pos c_3)))⟩⟩ dX6_ofVisit_76
      · by_cases c_4 : x2 = 2
        · refine lv_tableIn (tgt := 77) F.1 F.2.1 dX6_ofVisit_27 (by rw [c_4]; decide) (by rw [c_4]; decide) (by rw [c_4]; rfl) (by decide) ?_
          refine lv_aload_n F.1 F.2.1 dX6_ofVisit_77 rfl (lv_at hl 0 rfl) ?_
          refine gf_X6_309 F w (hM.a10 (hI.o10 (show i1 < gnV G by omega))) rfl dX6_ofVisit_78 ?_
          refine vx_ret ?_
          refine W.widen (k := 1) (n := 6) (Nat.le_of_ble_eq_true rfl) (Nat.le_of_ble_eq_true rfl) ?_
          exact q_retI (S := Unit) F hr hlk w ⟨((if_neg c_1).trans ((if_neg c_2).trans ((if_neg c_3).trans (if_pos c_4)))), ((if_neg c_1).trans ((if_neg c_2).trans ((if_neg c_3).trans (if_pos c_4)))).symm, ⟨AD, rfl, RepC.cg hM ((if_neg c_1).trans ((if_neg c_2).trans ((if_neg c_3).trans (if_pos c_4))))⟩⟩ dX6_ofVisit_81
        · by_cases c_5 : x2 = 3
          · refine lv_tableIn (tgt := 82) F.1 F.2.1 dX6_ofVisit_27 (by rw [c_5]; decide) (by rw [c_5]; decide) (by rw [c_5]; rfl) (by decide) ?_
            refine lv_aload_n F.1 F.2.1 dX6_ofVisit_82 rfl (lv_at hl 0 rfl) ?_
            refine gf_X6_219 F w (hM.a10 (hI.o10 (show i1 < gnV G by omega))) rfl dX6_ofVisit_83 ?_
            refine vx_ret ?_
            refine W.widen (k := 1) (n := 6) (Nat.le_of_ble_eq_true rfl) (Nat.le_of_ble_eq_true rfl) ?_
            exact q_retI (S := Unit) F hr hlk w ⟨((if_neg c_1).trans ((if_neg c_2).trans ((if_neg c_3).trans ((if_neg c_4).trans (if_pos c_5))))), ((if_neg c_1).trans ((if_neg c_2).trans ((if_neg c_3).trans ((if_neg c_4).trans (if_pos c_5))))).symm, ⟨AD, rfl, RepC.cg hM ((if_neg c_1).trans ((if_neg c_2).trans ((if_neg c_3).trans ((if_neg c_4).trans (if_pos c_5)))))⟩⟩ dX6_ofVisit_86
          · by_cases c_6 : x2 = 4
            · refine lv_tableIn (tgt := 87) F.1 F.2.1 dX6_ofVisit_27 (by rw [c_6]; decide) (by rw [c_6]; decide) (by rw [c_6]; rfl) (by decide) ?_
              refine lv_aload_n F.1 F.2.1 dX6_ofVisit_87 rfl (lv_at hl 0 rfl) ?_
              refine gf_X6_209 F w (hM.a10 (hI.o10 (show i1 < gnV G by omega))) rfl dX6_ofVisit_88 ?_
              refine q_rV (rest := []) F w kV_X6_58 hd_Jx4a65c_size_8abf5 (ci := 0) rfl (c_size l D cy A _ (hM.l11 (hI.mv (show i1 < gnV G by omega))).1) (hM.l11 (hI.mv (show i1 < gnV G by omega))).1 dX6_ofVisit_91 rfl rfl hl.1 ⟨rfl, rfl, Nat.le_of_ble_eq_true rfl, Nat.le_of_ble_eq_true rfl⟩ (Nat.le_of_ble_eq_true rfl) ⟨Nat.zero_le _, Nat.zero_le _⟩ ?_
              refine vx_ret ?_
              refine W.widen (k := 1) (n := 6) (Nat.le_of_ble_eq_true rfl) (Nat.le_of_ble_eq_true rfl) ?_
              exact q_retI (S := Unit) F hr hlk w ⟨((if_neg c_1).trans ((if_neg c_2).trans ((if_neg c_3).trans ((if_neg c_4).trans ((if_neg c_5).trans (if_pos c_6)))))), ((if_neg c_1).trans ((if_neg c_2).trans ((if_neg c_3).trans ((if_neg c_4).trans ((if_neg c_5).trans (if_pos c_6)))))).symm, ⟨AD, rfl, RepC.cg hM ((if_neg c_1).trans ((if_neg c_2).trans ((if_neg c_3).trans ((if_neg c_4).trans ((if_neg c_5).trans (if_pos c_6))))))⟩⟩ dX6_ofVisit_94
            · by_cases c_7 : x2 = 5
              · refine lv_tableIn (tgt := 95) F.1 F.2.1 dX6_ofVisit_27 (by rw [c_7]; decide) (by rw [c_7]; decide) (by rw [c_7]; rfl) (by decide) ?_
                refine lv_aload_n F.1 F.2.1 dX6_ofVisit_95 rfl (lv_at hl 0 rfl) ?_
                refine q_rV (rest := []) F w kV_X6_242 hd_X5_openFindings (ci := 6) rfl (c_X5_openFindings l D cy A _ AD G hM hI i1 (show i1 < gnV G by omega)) (hM.a10 (hI.o10 (show i1 < gnV G by omega))) dX6_ofVisit_96 rfl rfl hl.1 ⟨rfl, rfl, Nat.le_of_ble_eq_true rfl, Nat.le_of_ble_eq_true rfl⟩ (Nat.le_of_ble_eq_true rfl) ⟨Nat.zero_le _, Nat.zero_le _⟩ ?_
                refine vx_ret ?_
                refine W.widen (k := 1) (n := 6) (Nat.le_of_ble_eq_true rfl) (Nat.le_of_ble_eq_true rfl) ?_
                exact q_retI (S := Unit) F hr hlk w ⟨((if_neg c_1).trans ((if_neg c_2).trans ((if_neg c_3).trans ((if_neg c_4).trans ((if_neg c_5).trans ((if_neg c_6).trans (if_pos c_7))))))), ((if_neg c_1).trans ((if_neg c_2).trans ((if_neg c_3).trans ((if_neg c_4).trans ((if_neg c_5).trans ((if_neg c_6).trans (if_pos c_7))))))).symm, ⟨AD, rfl, RepC.cg hM ((if_neg c_1).trans ((if_neg c_2).trans ((if_neg c_3).trans ((if_neg c_4).trans ((if_neg c_5).trans ((if_neg c_6).trans (if_pos c_7)))))))⟩⟩ dX6_ofVisit_99
              · refine lv_tableOut (tgt := 100) F.1 F.2.1 dX6_ofVisit_27 (by have q0 : x2.toInt ≠ 0 := i32_ne c_2 rfl; have q1 : x2.toInt ≠ 1 := i32_ne c_3 rfl; have q2 : x2.toInt ≠ 2 := i32_ne c_4 rfl; have q3 : x2.toInt ≠ 3 := i32_ne c_5 rfl; have q4 : x2.toInt ≠ 4 := i32_ne c_6 rfl; have q5 : x2.toInt ≠ 5 := i32_ne c_7 rfl; omega) (by decide) ?_
                refine lv_aload_n F.1 F.2.1 dX6_ofVisit_100 rfl (lv_at hl 0 rfl) ?_
                refine q_rV (rest := []) F w kV_X6_312 hd_X5_counts (ci := 6) rfl (c_X5_counts l D cy A _ AD G hM hI i1 (show i1 < gnV G by omega)) (hM.a10 (hI.o10 (show i1 < gnV G by omega))) dX6_ofVisit_101 rfl rfl hl.1 ⟨rfl, rfl, Nat.le_of_ble_eq_true rfl, Nat.le_of_ble_eq_true rfl⟩ (Nat.le_of_ble_eq_true rfl) ⟨Nat.zero_le _, Nat.zero_le _⟩ ?_
                refine jn0 (m := m) (ls := ls) (rest := []) (if f_X5_counts G i1 = 0 then 0 else 1) 112 (fun J_8 => ?_) ?_
                · refine lv_if_eq (tgt := 111) F.1 F.2.1 dX6_ofVisit_104 (by decide) (fun c_9 => ?_) (fun c_9 => ?_)
                  · refine lv_iconst (v := 0) F.1 F.2.1 dX6_ofVisit_111 (by decide) ?_
                    exact jn_a (if_pos c_9) J_8
                  · refine lv_iconst (v := 1) F.1 F.2.1 dX6_ofVisit_107 (by decide) ?_
                    refine lv_goto (tgt := 112) F.1 F.2.1 dX6_ofVisit_108 (by decide) ?_
                    exact jn_a (if_neg c_9) J_8
                refine vx_ret ?_
                refine W.widen (k := 1) (n := 6) (Nat.le_of_ble_eq_true rfl) (Nat.le_of_ble_eq_true rfl) ?_
                exact q_retI (S := Unit) F hr hlk w ⟨((if_neg c_1).trans ((if_neg c_2).trans ((if_neg c_3).trans ((if_neg c_4).trans ((if_neg c_5).trans ((if_neg c_6).trans (if_neg c_7))))))), ((if_neg c_1).trans ((if_neg c_2).trans ((if_neg c_3).trans ((if_neg c_4).trans ((if_neg c_5).trans ((if_neg c_6).trans (if_neg c_7))))))).symm, ⟨AD, rfl, RepC.cg hM ((if_neg c_1).trans ((if_neg c_2).trans ((if_neg c_3).trans ((if_neg c_4).trans ((if_neg c_5).trans ((if_neg c_6).trans (if_neg c_7)))))))⟩⟩ dX6_ofVisit_112
  · exact q_thW (k9 := 28) F w hlf th9_1 rfl hl.1 (congrArg xnm (if_pos c_1)).symm ht hlk dX6_ofVisit_15 dX6_ofVisit_18 dX6_ofVisit_19 dX6_ofVisit_22 dX6_ofVisit_25 (Nat.le_of_ble_eq_true rfl) (Nat.le_of_ble_eq_true rfl) (Nat.le_of_ble_eq_true rfl) (Nat.le_of_ble_eq_true rfl) (Nat.le_of_ble_eq_true rfl) (Nat.le_of_ble_eq_true rfl)
set_option maxHeartbeats 4000000 in
set_option maxRecDepth 100000 in
theorem c_X6_ofVisit_b (l : Launch) (D : va_G) (cy : Nat → ClassId) (A : Nat → Prop) (μ : MU) (AD : AM) (G : GS) (hM : RepC cy AD G μ) (hI : InvC G) (x1 : Int32) (x2 : Int32) (hb : f_X6_isIndex x1 (nI (gnV G)) = 0) (hlf : l.stackTraces = false) : vx_Met l yX6_ofVisit (WS yX6_ofVisit cX6_ofVisit 4 (Option.some Jvm.ClassFile.FieldType.int)) { frames := 7, cells := 1, slots := 6, locals := 121 } (va_Pc [.ref (AD 0 0 0), .int x1, .int x2] (Wd D cy A μ)) (fun _ _ _ _ => False) (XC9 D A μ (xnm 3)) 1 6 A := by
  refine q_metx (by decide) (Nat.le_of_ble_eq_true rfl) ?_
  intro p e s m below meth c F w hr hlk ht ls hl
  have F : CallFix p m c cX6_ofVisit 4 s _ BIG RX6 := F
  have hl : lv_has ls 4 [(0, .ref (AD 0 0 0)), (1, .int x1), (2, .int x2)] := hl
  refine lv_aload_n F.1 F.2.1 dX6_ofVisit_0 rfl (lv_at hl 0 rfl) ?_
  refine lv_iload_n F.1 F.2.1 dX6_ofVisit_1 rfl (lv_at hl 1 rfl) ?_
  exact q_xV (rest := []) F w rfl ht hlk kV_X6_191 hd_X6_visitNumbered (ci := 7) rfl (c_X6_visitNumbered_b l D cy A _ AD G hM hI x1 hb hlf) (hM.a0 ⟨by decide, rfl, rfl⟩) dX6_ofVisit_2 rfl rfl hl.1 ⟨rfl, rfl, Nat.le_of_ble_eq_true rfl, Nat.le_of_ble_eq_true rfl⟩ (Nat.le_of_ble_eq_true rfl) ⟨Nat.le_of_ble_eq_true rfl, Nat.le_of_ble_eq_true rfl⟩ (Nat.le_of_ble_eq_true rfl) (Nat.le_of_ble_eq_true rfl)
def g_X6_appeal_1 (G : GS) (i1 : Nat) : GS := up2 G 39 i1 1
theorem e_g_X6_appeal_1 (G : GS) (i1 : Nat) {j : Nat} (h : j ∉ [39]) : g_X6_appeal_1 G i1 j = G j := (up2_ne (fun q => h (by rw [q]; exact List.mem_cons_self))).trans rfl
def x_X6_appeal (G : GS) (i1 : Nat) : Nat := if f_X5_wasDetention G i1 = 0 then 2 else (if G 39 i1 = 0 then (if (G 1 0) - (G 38 i1) ≤ 30 then 0 else 2) else 2)
def g_X6_appeal (G : GS) (i1 : Nat) : GS := if f_X5_wasDetention G i1 = 0 then G else (if G 39 i1 = 0 then (if (G 1 0) - (G 38 i1) ≤ 30 then g_X6_appeal_1 G i1 else G) else G)
set_option maxHeartbeats 4000000 in
set_option maxRecDepth 100000 in
theorem c_X6_appeal (l : Launch) (D : va_G) (cy : Nat → ClassId) (A : Nat → Prop) (μ : MU) (AD : AM) (G : GS) (hM : RepC cy AD G μ) (hI : InvC G) (i1 : Nat) (hi1 : i1 < gnV G) (hlf : l.stackTraces = false) : vx_Met l yX6_appeal (WS yX6_appeal cX6_appeal 3 (Option.none : Option Jvm.ClassFile.FieldType)) { frames := 6, cells := 1, slots := 6, locals := 100 } (va_Pc [.ref (AD 0 0 0), .int (nI i1)] (Wd D cy A μ)) (va_Qv (fun μ1 : MU => x_X6_appeal G i1 = 0 ∧ ∃ AD1 : AM, AD1 0 = AD 0 ∧ RepC cy AD1 (g_X6_appeal G i1) μ1) (fun μ1 t => Wd D cy A μ1 t) A) (XC9 D A μ (xnm (x_X6_appeal G i1))) 1 6 A := by
  refine q_metx (by decide) (Nat.le_of_ble_eq_true rfl) ?_
  intro p e s m below meth c F w hr hlk ht ls hl
  have F : CallFix p m c cX6_appeal 3 s _ BIG RX6 := F
  have hl : lv_has ls 3 [(0, .ref (AD 0 0 0)), (1, .int (nI i1))] := hl
  refine lv_aload_n F.1 F.2.1 dX6_appeal_0 rfl (lv_at hl 0 rfl) ?_
  refine lv_iload_n F.1 F.2.1 dX6_appeal_1 rfl (lv_at hl 1 rfl) ?_
  refine q_sVq (rest := []) F w kV_X6_191 hd_X6_visitNumbered (ci := 7) rfl (c_X6_visitNumbered l D cy A _ AD G hM hI i1 (show i1 < gnV G by omega)) (hM.a0 ⟨by decide, rfl, rfl⟩) dX6_appeal_2 rfl rfl hl.1 ⟨rfl, rfl, Nat.le_of_ble_eq_true rfl, Nat.le_of_ble_eq_true rfl⟩ (Nat.le_of_ble_eq_true rfl) ⟨Nat.zero_le _, Nat.zero_le _⟩ ?_
  refine lv_astore_n (lv' := [(2, .ref (AD 10 i1 0)), (0, .ref (AD 0 0 0)), (1, .int (nI i1))]) F.1 F.2.1 dX6_appeal_5 rfl hl (by decide) rfl (fun ls hl => ?_)
  refine lv_aload_n F.1 F.2.1 dX6_appeal_6 rfl (lv_at hl 0 rfl) ?_
  refine q_rV (rest := []) F w kV_X6_245 hd_X5_wasDetention (ci := 6) rfl (c_X5_wasDetention l D cy A _ AD G hM hI i1 (show i1 < gnV G by omega)) (hM.a10 (hI.o10 (show i1 < gnV G by omega))) dX6_appeal_7 rfl rfl hl.1 ⟨rfl, rfl, Nat.le_of_ble_eq_true rfl, Nat.le_of_ble_eq_true rfl⟩ (Nat.le_of_ble_eq_true rfl) ⟨Nat.zero_le _, Nat.zero_le _⟩ ?_
  refine lv_if_eq (tgt := 34) F.1 F.2.1 dX6_appeal_10 (by decide) (fun c_1 => ?_) (fun c_1 => ?_)
  · exact q_thW (k9 := 26) F w hlf th9_2 rfl hl.1 (congrArg xnm (if_pos c_1)).symm ht hlk dX6_appeal_34 dX6_appeal_37 dX6_appeal_38 dX6_appeal_41 dX6_appeal_44 (Nat.le_of_ble_eq_true rfl) (Nat.le_of_ble_eq_true rfl) (Nat.le_of_ble_eq_true rfl) (Nat.le_of_ble_eq_true rfl) (Nat.le_of_ble_eq_true rfl) (Nat.le_of_ble_eq_true rfl)
  · refine lv_aload_n F.1 F.2.1 dX6_appeal_13 rfl (lv_at hl 0 rfl) ?_
    refine gf_X6_275 F w (hM.a10 (hI.o10 (show i1 < gnV G by omega))) rfl dX6_appeal_14 ?_
    refine lv_if_ne (tgt := 34) F.1 F.2.1 dX6_appeal_17 (by decide) (fun c_2 => ?_) (fun c_2 => ?_)
    · exact q_thW (k9 := 26) F w hlf th9_2 rfl hl.1 (congrArg xnm ((if_neg c_1).trans (if_neg c_2))).symm ht hlk dX6_appeal_34 dX6_appeal_37 dX6_appeal_38 dX6_appeal_41 dX6_appeal_44 (Nat.le_of_ble_eq_true rfl) (Nat.le_of_ble_eq_true rfl) (Nat.le_of_ble_eq_true rfl) (Nat.le_of_ble_eq_true rfl) (Nat.le_of_ble_eq_true rfl) (Nat.le_of_ble_eq_true rfl)
    · refine lv_aload_n F.1 F.2.1 dX6_appeal_20 rfl (lv_at hl 1 rfl) ?_
      refine gf_X6_30 F w (hM.a0 ⟨by decide, rfl, rfl⟩) rfl dX6_appeal_21 ?_
      refine lv_aload_n F.1 F.2.1 dX6_appeal_24 rfl (lv_at hl 0 rfl) ?_
      refine gf_X6_254 F w (hM.a10 (hI.o10 (show i1 < gnV G by omega))) rfl dX6_appeal_25 ?_
      refine lv_isub F.1 F.2.1 dX6_appeal_28 ?_
      refine lv_bipush (v := 30) F.1 F.2.1 dX6_appeal_29 (by decide) ?_
      refine lv_icmp_le (tgt := 45) F.1 F.2.1 dX6_appeal_31 (by decide) (fun c_3 => ?_) (fun c_3 => ?_)
      · refine lv_aload_n F.1 F.2.1 dX6_appeal_45 rfl (lv_at hl 0 rfl) ?_
        refine lv_iconst (v := 1) F.1 F.2.1 dX6_appeal_46 (by decide) ?_
        refine cp_X6_275 F w hM (hI.o10 (show i1 < gnV G by omega)) nz1 dX6_appeal_47 (fun H locs μ w hM => ?_)
        have hM : RepC cy AD (g_X6_appeal_1 G i1) μ := hM
        refine vx_ret ?_
        refine W.widen (k := 1) (n := 6) (Nat.le_of_ble_eq_true rfl) (Nat.le_of_ble_eq_true rfl) ?_
        exact q_retV F hr hlk w ⟨((if_neg c_1).trans ((if_pos c_2).trans (if_pos c_3))), ⟨AD, rfl, RepC.cg hM ((if_neg c_1).trans ((if_pos c_2).trans (if_pos c_3)))⟩⟩ dX6_appeal_50
      · exact q_thW (k9 := 26) F w hlf th9_2 rfl hl.1 (congrArg xnm ((if_neg c_1).trans ((if_pos c_2).trans (if_neg c_3)))).symm ht hlk dX6_appeal_34 dX6_appeal_37 dX6_appeal_38 dX6_appeal_41 dX6_appeal_44 (Nat.le_of_ble_eq_true rfl) (Nat.le_of_ble_eq_true rfl) (Nat.le_of_ble_eq_true rfl) (Nat.le_of_ble_eq_true rfl) (Nat.le_of_ble_eq_true rfl) (Nat.le_of_ble_eq_true rfl)
set_option maxHeartbeats 4000000 in
set_option maxRecDepth 100000 in
theorem c_X6_appeal_b (l : Launch) (D : va_G) (cy : Nat → ClassId) (A : Nat → Prop) (μ : MU) (AD : AM) (G : GS) (hM : RepC cy AD G μ) (hI : InvC G) (x1 : Int32) (hb : f_X6_isIndex x1 (nI (gnV G)) = 0) (hlf : l.stackTraces = false) : vx_Met l yX6_appeal (WS yX6_appeal cX6_appeal 3 (Option.none : Option Jvm.ClassFile.FieldType)) { frames := 7, cells := 1, slots := 6, locals := 121 } (va_Pc [.ref (AD 0 0 0), .int x1] (Wd D cy A μ)) (fun _ _ _ _ => False) (XC9 D A μ (xnm 3)) 1 6 A := by
  refine q_metx (by decide) (Nat.le_of_ble_eq_true rfl) ?_
  intro p e s m below meth c F w hr hlk ht ls hl
  have F : CallFix p m c cX6_appeal 3 s _ BIG RX6 := F
  have hl : lv_has ls 3 [(0, .ref (AD 0 0 0)), (1, .int x1)] := hl
  refine lv_aload_n F.1 F.2.1 dX6_appeal_0 rfl (lv_at hl 0 rfl) ?_
  refine lv_iload_n F.1 F.2.1 dX6_appeal_1 rfl (lv_at hl 1 rfl) ?_
  exact q_xV (rest := []) F w rfl ht hlk kV_X6_191 hd_X6_visitNumbered (ci := 7) rfl (c_X6_visitNumbered_b l D cy A _ AD G hM hI x1 hb hlf) (hM.a0 ⟨by decide, rfl, rfl⟩) dX6_appeal_2 rfl rfl hl.1 ⟨rfl, rfl, Nat.le_of_ble_eq_true rfl, Nat.le_of_ble_eq_true rfl⟩ (Nat.le_of_ble_eq_true rfl) ⟨Nat.le_of_ble_eq_true rfl, Nat.le_of_ble_eq_true rfl⟩ (Nat.le_of_ble_eq_true rfl) (Nat.le_of_ble_eq_true rfl)
def g_X6_mends_1 (G : GS) (i1 : Nat) (i2 : Nat) (x3 : Int32) : GS := up2 G 37 (12 * i1 + i2) 1
theorem e_g_X6_mends_1 (G : GS) (i1 : Nat) (i2 : Nat) (x3 : Int32) {j : Nat} (h : j ∉ [37]) : g_X6_mends_1 G i1 i2 x3 j = G j := (up2_ne (fun q => h (by rw [q]; exact List.mem_cons_self))).trans rfl
def g_X6_mends_2 (G : GS) (i1 : Nat) (i2 : Nat) (x3 : Int32) : GS := up2 G 44 (12 * i1 + i2) 1
theorem e_g_X6_mends_2 (G : GS) (i1 : Nat) (i2 : Nat) (x3 : Int32) {j : Nat} (h : j ∉ [44]) : g_X6_mends_2 G i1 i2 x3 j = G j := (up2_ne (fun q => h (by rw [q]; exact List.mem_cons_self))).trans rfl
def x_X6_mends (G : GS) (i1 : Nat) (i2 : Nat) (x3 : Int32) : Nat := if G 37 (12 * i1 + i2) = 0 then (if x3 = 0 then 0 else (if G 44 (12 * i1 + i2) = 0 then (if 8 ≤ G 36 (12 * i1 + i2) then 2 else (if f_X6_hasLeftSince G i1 = 0 then 0 else 2)) else 2)) else 2
def f_X6_mends (G : GS) (i1 : Nat) (i2 : Nat) (x3 : Int32) : Int32 := if G 37 (12 * i1 + i2) = 0 then (if x3 = 0 then f_X5_openFindings (g_X6_mends_1 G i1 i2 x3) i1 else (if G 44 (12 * i1 + i2) = 0 then (if 8 ≤ G 36 (12 * i1 + i2) then 0 else (if f_X6_hasLeftSince G i1 = 0 then f_X5_openFindings (g_X6_mends_2 G i1 i2 x3) i1 else 0)) else 0)) else 0
def g_X6_mends (G : GS) (i1 : Nat) (i2 : Nat) (x3 : Int32) : GS := if G 37 (12 * i1 + i2) = 0 then (if x3 = 0 then g_X6_mends_1 G i1 i2 x3 else (if G 44 (12 * i1 + i2) = 0 then (if 8 ≤ G 36 (12 * i1 + i2) then G else (if f_X6_hasLeftSince G i1 = 0 then g_X6_mends_2 G i1 i2 x3 else G)) else G)) else G
set_option maxHeartbeats 4000000 in
set_option maxRecDepth 100000 in
theorem c_X6_mends (l : Launch) (D : va_G) (cy : Nat → ClassId) (A : Nat → Prop) (μ : MU) (AD : AM) (G : GS) (hM : RepC cy AD G μ) (hI : InvC G) (i1 : Nat) (i2 : Nat) (x3 : Int32) (hi1 : i1 < gnV G) (hi2 : i2 < gnF G i1) (hlf : l.stackTraces = false) : vx_Met l yX6_mends (WS yX6_mends cX6_mends 6 (Option.some Jvm.ClassFile.FieldType.int)) { frames := 6, cells := 1, slots := 6, locals := 100 } (va_Pc [.ref (AD 0 0 0), .int (nI i1), .int (nI i2), .int x3] (Wd D cy A μ)) (va_Qi (fun (r9 : Int32) (μ1 : MU) => x_X6_mends G i1 i2 x3 = 0 ∧ r9 = f_X6_mends G i1 i2 x3 ∧ ∃ AD1 : AM, AD1 0 = AD 0 ∧ RepC cy AD1 (g_X6_mends G i1 i2 x3) μ1) (fun μ1 t => Wd D cy A μ1 t) A) (XC9 D A μ (xnm (x_X6_mends G i1 i2 x3))) 1 6 A := by
  refine q_metx (by decide) (Nat.le_of_ble_eq_true rfl) ?_
  intro p e s m below meth c F w hr hlk ht ls hl
  have F : CallFix p m c cX6_mends 6 s _ BIG RX6 := F
  have hl : lv_has ls 6 [(0, .ref (AD 0 0 0)), (1, .int (nI i1)), (2, .int (nI i2)), (3, .int x3)] := hl
  refine lv_aload_n F.1 F.2.1 dX6_mends_0 rfl (lv_at hl 0 rfl) ?_
  refine lv_iload_n F.1 F.2.1 dX6_mends_1 rfl (lv_at hl 1 rfl) ?_
  refine q_sVq (rest := []) F w kV_X6_191 hd_X6_visitNumbered (ci := 7) rfl (c_X6_visitNumbered l D cy A _ AD G hM hI i1 (show i1 < gnV G by omega)) (hM.a0 ⟨by decide, rfl, rfl⟩) dX6_mends_2 rfl rfl hl.1 ⟨rfl, rfl, Nat.le_of_ble_eq_true rfl, Nat.le_of_ble_eq_true rfl⟩ (Nat.le_of_ble_eq_true rfl) ⟨Nat.zero_le _, Nat.zero_le _⟩ ?_
  refine lv_astore (lv' := [(4, .ref (AD 10 i1 0)), (0, .ref (AD 0 0 0)), (1, .int (nI i1)), (2, .int (nI i2)), (3, .int x3)]) F.1 F.2.1 dX6_mends_5 hl (by decide) rfl (fun ls hl => ?_)
  refine lv_iload_n F.1 F.2.1 dX6_mends_7 rfl (lv_at hl 3 rfl) ?_
  refine lv_aload F.1 F.2.1 dX6_mends_8 (lv_at hl 0 rfl) ?_
  refine gf_X6_209 F w (hM.a10 (hI.o10 (show i1 < gnV G by omega))) rfl dX6_mends_10 ?_
  refine q_rV (rest := [.int (nI i2)]) F w kV_X6_58 hd_Jx4a65c_size_8abf5 (ci := 0) rfl (c_size l D cy A _ (hM.l11 (hI.mv (show i1 < gnV G by omega))).1) (hM.l11 (hI.mv (show i1 < gnV G by omega))).1 dX6_mends_13 rfl rfl hl.1 ⟨rfl, rfl, Nat.le_of_ble_eq_true rfl, Nat.le_of_ble_eq_true rfl⟩ (Nat.le_of_ble_eq_true rfl) ⟨Nat.zero_le _, Nat.zero_le _⟩ ?_
  refine q_rS (rest := []) F w kS_X6_46 hd_X6_isIndex (c_X6_isIndex l D cy A _ (nI i2) (nI (gnF G i1))) dX6_mends_16 rfl rfl hl.1 ⟨rfl, rfl, Nat.le_of_ble_eq_true rfl, Nat.le_of_ble_eq_true rfl⟩ (Nat.le_of_ble_eq_true rfl) ⟨Nat.zero_le _, Nat.zero_le _⟩ ?_
  refine lv_if_ne (tgt := 32) F.1 F.2.1 dX6_mends_19 (by decide) (fun c_1 => ?_) (fun c_1 => absurd c_1 (isx_ok hi2 (Nat.lt_of_le_of_lt (hI.f hi1).2.1 (by decide))))
  refine lv_aload F.1 F.2.1 dX6_mends_32 (lv_at hl 0 rfl) ?_
  refine gf_X6_209 F w (hM.a10 (hI.o10 (show i1 < gnV G by omega))) rfl dX6_mends_34 ?_
  refine lv_iload_n F.1 F.2.1 dX6_mends_37 rfl (lv_at hl 3 rfl) ?_
  refine q_sVq (rest := []) F w kV_X6_224 hd_Jx4a65c_get_915e3 (ci := 0) rfl (c_get l D cy A _ (hM.l11 (hI.mv (show i1 < gnV G by omega))) (show i2 < gnF G i1 by omega) (show gnF G i1 ≤ 600 by have := (hI.f (show i1 < gnV G by omega)).2.1; omega)) (hM.l11 (hI.mv (show i1 < gnV G by omega))).1 dX6_mends_38 rfl rfl hl.1 ⟨rfl, rfl, Nat.le_of_ble_eq_true rfl, Nat.le_of_ble_eq_true rfl⟩ (Nat.le_of_ble_eq_true rfl) ⟨Nat.zero_le _, Nat.zero_le _⟩ ?_
  refine q_cast F w wL_X6_214 (ci := 2) rfl (hM.a12 (hI.o12 (show i1 < gnV G by omega) (show i2 < gnF G i1 by omega))) dX6_mends_41 ?_
  refine lv_astore (lv' := [(5, .ref (AD 12 i1 i2)), (4, .ref (AD 10 i1 0)), (0, .ref (AD 0 0 0)), (1, .int (nI i1)), (2, .int (nI i2)), (3, .int x3)]) F.1 F.2.1 dX6_mends_44 hl (by decide) rfl (fun ls hl => ?_)
  refine lv_aload F.1 F.2.1 dX6_mends_46 (lv_at hl 0 rfl) ?_
  refine gf_X6_228 F w (hM.a12 (hI.o12 (show i1 < gnV G by omega) (show i2 < gnF G i1 by omega))) rfl dX6_mends_48 ?_
  refine lv_if_eq (tgt := 64) F.1 F.2.1 dX6_mends_51 (by decide) (fun c_2 => ?_) (fun c_2 => ?_)
  · refine lv_iload_n F.1 F.2.1 dX6_mends_64 rfl (lv_at hl 5 rfl) ?_
    refine lv_if_eq (tgt := 104) F.1 F.2.1 dX6_mends_65 (by decide) (fun c_3 => ?_) (fun c_3 => ?_)
    · refine lv_iload_n F.1 F.2.1 dX6_mends_104 rfl (lv_at hl 5 rfl) ?_
      refine lv_if_eq (tgt := 117) F.1 F.2.1 dX6_mends_105 (by decide) (fun c_4 => ?_) (fun c_4 => absurd c_3 c_4)
      refine lv_aload F.1 F.2.1 dX6_mends_117 (lv_at hl 0 rfl) ?_
      refine lv_iconst (v := 1) F.1 F.2.1 dX6_mends_119 (by decide) ?_
      refine cp_X6_228 F w hM (hI.o12 (show i1 < gnV G by omega) (show i2 < gnF G i1 by omega)) nz1 dX6_mends_120 (fun H locs μ w hM => ?_)
      have hM : RepC cy AD (g_X6_mends_1 G i1 i2 x3) μ := hM
      refine lv_aload F.1 F.2.1 dX6_mends_123 (lv_at hl 1 rfl) ?_
      refine q_rV (rest := []) F w kV_X6_242 hd_X5_openFindings (ci := 6) rfl (c_X5_openFindings l D cy A _ AD (g_X6_mends_1 G i1 i2 x3) hM (InvC.w37 (s := 12 * i1 + i2) (v := 1) hI nz1) i1 (show i1 < gnV G by omega)) (hM.a10 (ok_fr (by decide) (hI.o10 (show i1 < gnV G by omega)))) dX6_mends_125 rfl rfl hl.1 ⟨rfl, rfl, Nat.le_of_ble_eq_true rfl, Nat.le_of_ble_eq_true rfl⟩ (Nat.le_of_ble_eq_true rfl) ⟨Nat.zero_le _, Nat.zero_le _⟩ ?_
      refine vx_ret ?_
      refine W.widen (k := 1) (n := 6) (Nat.le_of_ble_eq_true rfl) (Nat.le_of_ble_eq_true rfl) ?_
      exact q_retI (S := Unit) F hr hlk w ⟨((if_pos c_2).trans (if_pos c_3)), ((if_pos c_2).trans (if_pos c_3)).symm, ⟨AD, rfl, RepC.cg hM ((if_pos c_2).trans (if_pos c_3))⟩⟩ dX6_mends_128
    · refine lv_aload F.1 F.2.1 dX6_mends_68 (lv_at hl 0 rfl) ?_
      refine gf_X6_234 F w (hM.a12 (hI.o12 (show i1 < gnV G by omega) (show i2 < gnF G i1 by omega))) rfl dX6_mends_70 ?_
      refine lv_if_ne (tgt := 94) F.1 F.2.1 dX6_mends_73 (by decide) (fun c_5 => ?_) (fun c_5 => ?_)
      · exact q_thS (k9 := 23) F w hlf th9_2 rfl hl.1 (congrArg xnm ((if_pos c_2).trans ((if_neg c_3).trans (if_neg c_5)))).symm ht hlk dX6_mends_94 dX6_mends_97 dX6_mends_98 dX6_mends_100 dX6_mends_103 (Nat.le_of_ble_eq_true rfl) (Nat.le_of_ble_eq_true rfl) (Nat.le_of_ble_eq_true rfl) (Nat.le_of_ble_eq_true rfl) (Nat.le_of_ble_eq_true rfl) (Nat.le_of_ble_eq_true rfl)
      · refine lv_aload F.1 F.2.1 dX6_mends_76 (lv_at hl 0 rfl) ?_
        refine gf_X6_237 F w (hM.a12 (hI.o12 (show i1 < gnV G by omega) (show i2 < gnF G i1 by omega))) rfl dX6_mends_78 ?_
        refine lv_bipush (v := 8) F.1 F.2.1 dX6_mends_81 (by decide) ?_
        refine lv_icmp_ge (tgt := 94) F.1 F.2.1 dX6_mends_83 (by decide) (fun c_6 => ?_) (fun c_6 => ?_)
        · exact q_thS (k9 := 23) F w hlf th9_2 rfl hl.1 (congrArg xnm ((if_pos c_2).trans ((if_neg c_3).trans ((if_pos c_5).trans (if_pos c_6))))).symm ht hlk dX6_mends_94 dX6_mends_97 dX6_mends_98 dX6_mends_100 dX6_mends_103 (Nat.le_of_ble_eq_true rfl) (Nat.le_of_ble_eq_true rfl) (Nat.le_of_ble_eq_true rfl) (Nat.le_of_ble_eq_true rfl) (Nat.le_of_ble_eq_true rfl) (Nat.le_of_ble_eq_true rfl)
        · refine lv_aload F.1 F.2.1 dX6_mends_86 (lv_at hl 1 rfl) ?_
          refine q_rS (rest := []) F w kS_X6_197 hd_X6_hasLeftSince (c_X6_hasLeftSince l D cy A _ AD G hM hI i1 (show i1 < gnV G by omega)) dX6_mends_88 rfl rfl hl.1 ⟨rfl, rfl, Nat.le_of_ble_eq_true rfl, Nat.le_of_ble_eq_true rfl⟩ (Nat.le_of_ble_eq_true rfl) ⟨Nat.zero_le _, Nat.zero_le _⟩ ?_
          refine lv_if_eq (tgt := 104) F.1 F.2.1 dX6_mends_91 (by decide) (fun c_7 => ?_) (fun c_7 => ?_)
          · refine lv_iload_n F.1 F.2.1 dX6_mends_104 rfl (lv_at hl 5 rfl) ?_
            refine lv_if_eq (tgt := 117) F.1 F.2.1 dX6_mends_105 (by decide) (fun c_8 => absurd c_8 c_3) (fun c_8 => ?_)
            refine lv_aload F.1 F.2.1 dX6_mends_108 (lv_at hl 0 rfl) ?_
            refine lv_iconst (v := 1) F.1 F.2.1 dX6_mends_110 (by decide) ?_
            refine cp_X6_234 F w hM (hI.o12 (show i1 < gnV G by omega) (show i2 < gnF G i1 by omega)) nz1 dX6_mends_111 (fun H locs μ w hM => ?_)
            have hM : RepC cy AD (g_X6_mends_2 G i1 i2 x3) μ := hM
            refine lv_goto (tgt := 123) F.1 F.2.1 dX6_mends_114 (by decide) ?_
            refine lv_aload F.1 F.2.1 dX6_mends_123 (lv_at hl 1 rfl) ?_
            refine q_rV (rest := []) F w kV_X6_242 hd_X5_openFindings (ci := 6) rfl (c_X5_openFindings l D cy A _ AD (g_X6_mends_2 G i1 i2 x3) hM (InvC.w44 (s := 12 * i1 + i2) (v := 1) hI nz1) i1 (show i1 < gnV G by omega)) (hM.a10 (ok_fr (by decide) (hI.o10 (show i1 < gnV G by omega)))) dX6_mends_125 rfl rfl hl.1 ⟨rfl, rfl, Nat.le_of_ble_eq_true rfl, Nat.le_of_ble_eq_true rfl⟩ (Nat.le_of_ble_eq_true rfl) ⟨Nat.zero_le _, Nat.zero_le _⟩ ?_
            refine vx_ret ?_
            refine W.widen (k := 1) (n := 6) (Nat.le_of_ble_eq_true rfl) (Nat.le_of_ble_eq_true rfl) ?_
            exact q_retI (S := Unit) F hr hlk w ⟨((if_pos c_2).trans ((if_neg c_3).trans ((if_pos c_5).trans ((if_neg c_6).trans (if_pos c_7))))), ((if_pos c_2).trans ((if_neg c_3).trans ((if_pos c_5).trans ((if_neg c_6).trans (if_pos c_7))))).symm, ⟨AD, rfl, RepC.cg hM ((if_pos c_2).trans ((if_neg c_3).trans ((if_pos c_5).trans ((if_neg c_6).trans (if_pos c_7)))))⟩⟩ dX6_mends_128
          · exact q_thS (k9 := 23) F w hlf th9_2 rfl hl.1 (congrArg xnm ((if_pos c_2).trans ((if_neg c_3).trans ((if_pos c_5).trans ((if_neg c_6).trans (if_neg c_7)))))).symm ht hlk dX6_mends_94 dX6_mends_97 dX6_mends_98 dX6_mends_100 dX6_mends_103 (Nat.le_of_ble_eq_true rfl) (Nat.le_of_ble_eq_true rfl) (Nat.le_of_ble_eq_true rfl) (Nat.le_of_ble_eq_true rfl) (Nat.le_of_ble_eq_true rfl) (Nat.le_of_ble_eq_true rfl)
  · exact q_thS (k9 := 22) F w hlf th9_2 rfl hl.1 (congrArg xnm (if_neg c_2)).symm ht hlk dX6_mends_54 dX6_mends_57 dX6_mends_58 dX6_mends_60 dX6_mends_63 (Nat.le_of_ble_eq_true rfl) (Nat.le_of_ble_eq_true rfl) (Nat.le_of_ble_eq_true rfl) (Nat.le_of_ble_eq_true rfl) (Nat.le_of_ble_eq_true rfl) (Nat.le_of_ble_eq_true rfl)
set_option maxHeartbeats 4000000 in
set_option maxRecDepth 100000 in
theorem c_X6_mends_f (l : Launch) (D : va_G) (cy : Nat → ClassId) (A : Nat → Prop) (μ : MU) (AD : AM) (G : GS) (hM : RepC cy AD G μ) (hI : InvC G) (i1 : Nat) (x2 : Int32) (x3 : Int32) (hi1 : i1 < gnV G) (hb : f_X6_isIndex x2 (nI (gnF G i1)) = 0) (hlf : l.stackTraces = false) : vx_Met l yX6_mends (WS yX6_mends cX6_mends 6 (Option.some Jvm.ClassFile.FieldType.int)) { frames := 6, cells := 1, slots := 6, locals := 100 } (va_Pc [.ref (AD 0 0 0), .int (nI i1), .int x2, .int x3] (Wd D cy A μ)) (fun _ _ _ _ => False) (XC9 D A μ (xnm 3)) 1 6 A := by
  refine q_metx (by decide) (Nat.le_of_ble_eq_true rfl) ?_
  intro p e s m below meth c F w hr hlk ht ls hl
  have F : CallFix p m c cX6_mends 6 s _ BIG RX6 := F
  have hl : lv_has ls 6 [(0, .ref (AD 0 0 0)), (1, .int (nI i1)), (2, .int x2), (3, .int x3)] := hl
  refine lv_aload_n F.1 F.2.1 dX6_mends_0 rfl (lv_at hl 0 rfl) ?_
  refine lv_iload_n F.1 F.2.1 dX6_mends_1 rfl (lv_at hl 1 rfl) ?_
  refine q_sVq (rest := []) F w kV_X6_191 hd_X6_visitNumbered (ci := 7) rfl (c_X6_visitNumbered l D cy A _ AD G hM hI i1 (show i1 < gnV G by omega)) (hM.a0 ⟨by decide, rfl, rfl⟩) dX6_mends_2 rfl rfl hl.1 ⟨rfl, rfl, Nat.le_of_ble_eq_true rfl, Nat.le_of_ble_eq_true rfl⟩ (Nat.le_of_ble_eq_true rfl) ⟨Nat.zero_le _, Nat.zero_le _⟩ ?_
  refine lv_astore (lv' := [(4, .ref (AD 10 i1 0)), (0, .ref (AD 0 0 0)), (1, .int (nI i1)), (2, .int x2), (3, .int x3)]) F.1 F.2.1 dX6_mends_5 hl (by decide) rfl (fun ls hl => ?_)
  refine lv_iload_n F.1 F.2.1 dX6_mends_7 rfl (lv_at hl 3 rfl) ?_
  refine lv_aload F.1 F.2.1 dX6_mends_8 (lv_at hl 0 rfl) ?_
  refine gf_X6_209 F w (hM.a10 (hI.o10 (show i1 < gnV G by omega))) rfl dX6_mends_10 ?_
  refine q_rV (rest := [.int x2]) F w kV_X6_58 hd_Jx4a65c_size_8abf5 (ci := 0) rfl (c_size l D cy A _ (hM.l11 (hI.mv (show i1 < gnV G by omega))).1) (hM.l11 (hI.mv (show i1 < gnV G by omega))).1 dX6_mends_13 rfl rfl hl.1 ⟨rfl, rfl, Nat.le_of_ble_eq_true rfl, Nat.le_of_ble_eq_true rfl⟩ (Nat.le_of_ble_eq_true rfl) ⟨Nat.zero_le _, Nat.zero_le _⟩ ?_
  refine q_rS (rest := []) F w kS_X6_46 hd_X6_isIndex (c_X6_isIndex l D cy A _ x2 (nI (gnF G i1))) dX6_mends_16 rfl rfl hl.1 ⟨rfl, rfl, Nat.le_of_ble_eq_true rfl, Nat.le_of_ble_eq_true rfl⟩ (Nat.le_of_ble_eq_true rfl) ⟨Nat.zero_le _, Nat.zero_le _⟩ ?_
  refine lv_if_ne (tgt := 32) F.1 F.2.1 dX6_mends_19 (by decide) (fun c_1 => absurd hb c_1) (fun c_1 => ?_)
  exact q_thS (k9 := 21) F w hlf th9_3 rfl hl.1 rfl ht hlk dX6_mends_22 dX6_mends_25 dX6_mends_26 dX6_mends_28 dX6_mends_31 (Nat.le_of_ble_eq_true rfl) (Nat.le_of_ble_eq_true rfl) (Nat.le_of_ble_eq_true rfl) (Nat.le_of_ble_eq_true rfl) (Nat.le_of_ble_eq_true rfl) (Nat.le_of_ble_eq_true rfl)
set_option maxHeartbeats 4000000 in
set_option maxRecDepth 100000 in
theorem c_X6_mends_b (l : Launch) (D : va_G) (cy : Nat → ClassId) (A : Nat → Prop) (μ : MU) (AD : AM) (G : GS) (hM : RepC cy AD G μ) (hI : InvC G) (x1 : Int32) (x2 : Int32) (x3 : Int32) (hb : f_X6_isIndex x1 (nI (gnV G)) = 0) (hlf : l.stackTraces = false) : vx_Met l yX6_mends (WS yX6_mends cX6_mends 6 (Option.some Jvm.ClassFile.FieldType.int)) { frames := 7, cells := 1, slots := 6, locals := 121 } (va_Pc [.ref (AD 0 0 0), .int x1, .int x2, .int x3] (Wd D cy A μ)) (fun _ _ _ _ => False) (XC9 D A μ (xnm 3)) 1 6 A := by
  refine q_metx (by decide) (Nat.le_of_ble_eq_true rfl) ?_
  intro p e s m below meth c F w hr hlk ht ls hl
  have F : CallFix p m c cX6_mends 6 s _ BIG RX6 := F
  have hl : lv_has ls 6 [(0, .ref (AD 0 0 0)), (1, .int x1), (2, .int x2), (3, .int x3)] := hl
  refine lv_aload_n F.1 F.2.1 dX6_mends_0 rfl (lv_at hl 0 rfl) ?_
  refine lv_iload_n F.1 F.2.1 dX6_mends_1 rfl (lv_at hl 1 rfl) ?_
  exact q_xV (rest := []) F w rfl ht hlk kV_X6_191 hd_X6_visitNumbered (ci := 7) rfl (c_X6_visitNumbered_b l D cy A _ AD G hM hI x1 hb hlf) (hM.a0 ⟨by decide, rfl, rfl⟩) dX6_mends_2 rfl rfl hl.1 ⟨rfl, rfl, Nat.le_of_ble_eq_true rfl, Nat.le_of_ble_eq_true rfl⟩ (Nat.le_of_ble_eq_true rfl) ⟨Nat.le_of_ble_eq_true rfl, Nat.le_of_ble_eq_true rfl⟩ (Nat.le_of_ble_eq_true rfl) (Nat.le_of_ble_eq_true rfl)
def v_X6_leaves_52 (G : GS) (i1 : Nat) (i2 : Nat) : Int32 := if G 11 i1 = -1 then (if f_X6_priorityOf G i1 = 2 then 1 else 0) else 0
theorem nz_v_X6_leaves_52 (G : GS) (i1 : Nat) (i2 : Nat) : nz (v_X6_leaves_52 G i1 i2) := (nz_ite (nz_ite nz1 nz0) nz0)
def g_X6_leaves_1 (G : GS) (i1 : Nat) (i2 : Nat) : GS := up2 G 43 i2 ((G 43 i2) + 1)
theorem e_g_X6_leaves_1 (G : GS) (i1 : Nat) (i2 : Nat) {j : Nat} (h : j ∉ [43]) : g_X6_leaves_1 G i1 i2 j = G j := (up2_ne (fun q => h (by rw [q]; exact List.mem_cons_self))).trans rfl
def g_X6_leaves_2 (G : GS) (i1 : Nat) (i2 : Nat) : GS := up2 G 10 i1 (-1)
theorem e_g_X6_leaves_2 (G : GS) (i1 : Nat) (i2 : Nat) {j : Nat} (h : j ∉ [10]) : g_X6_leaves_2 G i1 i2 j = G j := (up2_ne (fun q => h (by rw [q]; exact List.mem_cons_self))).trans rfl
def g_X6_leaves_3 (G : GS) (i1 : Nat) (i2 : Nat) : GS := up2 (g_X6_leaves_2 G i1 i2) 11 i1 (-1)
theorem e_g_X6_leaves_3 (G : GS) (i1 : Nat) (i2 : Nat) {j : Nat} (h : j ∉ [11, 10]) : g_X6_leaves_3 G i1 i2 j = G j := (up2_ne (fun q => h (by rw [q]; exact List.mem_cons_self))).trans (e_g_X6_leaves_2 G i1 i2 (fun q => h (List.mem_cons_of_mem _ q)))
def g_X6_leaves_4 (G : GS) (i1 : Nat) (i2 : Nat) : GS := up2 (g_X6_leaves_1 G i1 i2) 10 i1 (-1)
theorem e_g_X6_leaves_4 (G : GS) (i1 : Nat) (i2 : Nat) {j : Nat} (h : j ∉ [10, 43]) : g_X6_leaves_4 G i1 i2 j = G j := (up2_ne (fun q => h (by rw [q]; exact List.mem_cons_self))).trans (e_g_X6_leaves_1 G i1 i2 (fun q => h (List.mem_cons_of_mem _ q)))
def g_X6_leaves_5 (G : GS) (i1 : Nat) (i2 : Nat) : GS := up2 (g_X6_leaves_4 G i1 i2) 11 i1 (-1)
theorem e_g_X6_leaves_5 (G : GS) (i1 : Nat) (i2 : Nat) {j : Nat} (h : j ∉ [11, 10, 43]) : g_X6_leaves_5 G i1 i2 j = G j := (up2_ne (fun q => h (by rw [q]; exact List.mem_cons_self))).trans (e_g_X6_leaves_4 G i1 i2 (fun q => h (List.mem_cons_of_mem _ q)))
def x_X6_leaves (G : GS) (i1 : Nat) (i2 : Nat) : Nat := if G 13 i1 = -1 then (if v_X6_leaves_52 G i1 i2 = 0 then 0 else 0) else 2
def f_X6_leaves (G : GS) (i1 : Nat) (i2 : Nat) : Int32 := if G 13 i1 = -1 then (if v_X6_leaves_52 G i1 i2 = 0 then v_X6_leaves_52 G i1 i2 else v_X6_leaves_52 G i1 i2) else 0
def g_X6_leaves (G : GS) (i1 : Nat) (i2 : Nat) : GS := if G 13 i1 = -1 then (if v_X6_leaves_52 G i1 i2 = 0 then g_X6_leaves_3 G i1 i2 else g_X6_leaves_5 G i1 i2) else G
set_option maxHeartbeats 4000000 in
set_option maxRecDepth 100000 in
theorem c_X6_leaves (l : Launch) (D : va_G) (cy : Nat → ClassId) (A : Nat → Prop) (μ : MU) (AD : AM) (G : GS) (hM : RepC cy AD G μ) (hI : InvC G) (i1 : Nat) (i2 : Nat) (hi1 : i1 < gnS G) (hi2 : i2 < 4) (hp : G 10 i1 = nI i2) (hlf : l.stackTraces = false) : vx_Met l yX6_leaves (WS yX6_leaves cX6_leaves 4 (Option.some Jvm.ClassFile.FieldType.boolean)) { frames := 8, cells := 1, slots := 6, locals := 183 } (va_Pc [.ref (AD 0 0 0), .int (nI i1)] (Wd D cy A μ)) (va_Qi (fun (r9 : Int32) (μ1 : MU) => x_X6_leaves G i1 i2 = 0 ∧ r9 = f_X6_leaves G i1 i2 ∧ ∃ AD1 : AM, AD1 0 = AD 0 ∧ RepC cy AD1 (g_X6_leaves G i1 i2) μ1) (fun μ1 t => Wd D cy A μ1 t) A) (XC9 D A μ (xnm (x_X6_leaves G i1 i2))) 1 6 A := by
  refine q_metx (by decide) (Nat.le_of_ble_eq_true rfl) ?_
  intro p e s m below meth c F w hr hlk ht ls hl
  have F : CallFix p m c cX6_leaves 4 s _ BIG RX6 := F
  have hl : lv_has ls 4 [(0, .ref (AD 0 0 0)), (1, .int (nI i1))] := hl
  refine lv_aload_n F.1 F.2.1 dX6_leaves_0 rfl (lv_at hl 0 rfl) ?_
  refine lv_iload_n F.1 F.2.1 dX6_leaves_1 rfl (lv_at hl 1 rfl) ?_
  refine q_sVq (rest := []) F w kV_X6_82 hd_X6_shipNumbered (ci := 7) rfl (c_X6_shipNumbered l D cy A _ AD G hM hI i1 (show i1 < gnS G by omega)) (hM.a0 ⟨by decide, rfl, rfl⟩) dX6_leaves_2 rfl rfl hl.1 ⟨rfl, rfl, Nat.le_of_ble_eq_true rfl, Nat.le_of_ble_eq_true rfl⟩ (Nat.le_of_ble_eq_true rfl) ⟨Nat.zero_le _, Nat.zero_le _⟩ ?_
  refine lv_astore_n (lv' := [(2, .ref (AD 6 i1 0)), (0, .ref (AD 0 0 0)), (1, .int (nI i1))]) F.1 F.2.1 dX6_leaves_5 rfl hl (by decide) rfl (fun ls hl => ?_)
  refine lv_aload_n F.1 F.2.1 dX6_leaves_6 rfl (lv_at hl 0 rfl) ?_
  refine gf_X6_156 F w (hM.a6 (hI.o6 (show i1 < gnS G by omega))) rfl dX6_leaves_7 ?_
  refine lv_fold (y := nI i2) (hp) ?_
  refine lv_iconst (v := -1) F.1 F.2.1 dX6_leaves_10 (by decide) ?_
  refine lv_icmp_eq (tgt := 21) F.1 F.2.1 dX6_leaves_11 (by decide) (fun c_1 => absurd c_1 (nI_m1 (by omega))) (fun c_1 => ?_)
  refine lv_aload_n F.1 F.2.1 dX6_leaves_14 rfl (lv_at hl 0 rfl) ?_
  refine gf_X6_168 F w (hM.a6 (hI.o6 (show i1 < gnS G by omega))) rfl dX6_leaves_15 ?_
  refine q_ifnull (P := G 13 i1 = -1) (hn := fun h => if_pos h) (hs := fun h => ⟨_, if_neg h⟩) (tgt := 31) F.1 F.2.1 dX6_leaves_18 (by decide) (fun c_2 => ?_) (fun c_2 => ?_)
  · refine lv_aload_n F.1 F.2.1 dX6_leaves_31 rfl (lv_at hl 0 rfl) ?_
    refine gf_X6_174 F w (hM.a6 (hI.o6 (show i1 < gnS G by omega))) rfl dX6_leaves_32 ?_
    refine jn0 (m := m) (ls := ls) (rest := []) (if G 11 i1 = -1 then (if f_X6_priorityOf G i1 = 2 then 1 else 0) else 0) 52 (fun J_3 => ?_) ?_
    · refine q_ifnonnull (P := G 11 i1 = -1) (hn := fun h => if_pos h) (hs := fun h => ⟨_, if_neg h⟩) (tgt := 51) F.1 F.2.1 dX6_leaves_35 (by decide) (fun c_4 => ?_) (fun c_4 => ?_)
      · refine lv_iconst (v := 0) F.1 F.2.1 dX6_leaves_51 (by decide) ?_
        exact jn_a (if_neg c_4) J_3
      · refine lv_aload_n F.1 F.2.1 dX6_leaves_38 rfl (lv_at hl 1 rfl) ?_
        refine lv_aload_n F.1 F.2.1 dX6_leaves_39 rfl (lv_at hl 0 rfl) ?_
        refine q_rV (rest := []) F w kV_X6_165 hd_X6_priorityOf (ci := 7) rfl (c_X6_priorityOf l D cy A _ AD G hM hI i1 (show i1 < gnS G by omega)) (hM.a0 ⟨by decide, rfl, rfl⟩) dX6_leaves_40 rfl rfl hl.1 ⟨rfl, rfl, Nat.le_of_ble_eq_true rfl, Nat.le_of_ble_eq_true rfl⟩ (Nat.le_of_ble_eq_true rfl) ⟨Nat.zero_le _, Nat.zero_le _⟩ ?_
        refine lv_iconst (v := 2) F.1 F.2.1 dX6_leaves_43 (by decide) ?_
        refine lv_icmp_ne (tgt := 51) F.1 F.2.1 dX6_leaves_44 (by decide) (fun c_5 => ?_) (fun c_5 => ?_)
        · refine lv_iconst (v := 0) F.1 F.2.1 dX6_leaves_51 (by decide) ?_
          exact jn_a ((if_pos c_4).trans (if_neg c_5)) J_3
        · refine lv_iconst (v := 1) F.1 F.2.1 dX6_leaves_47 (by decide) ?_
          refine lv_goto (tgt := 52) F.1 F.2.1 dX6_leaves_48 (by decide) ?_
          exact jn_a ((if_pos c_4).trans (if_pos c_5)) J_3
    refine lv_fold (y := v_X6_leaves_52 G i1 i2) rfl ?_
    refine lv_istore_n (lv' := [(3, .int (v_X6_leaves_52 G i1 i2)), (2, .ref (AD 6 i1 0)), (0, .ref (AD 0 0 0)), (1, .int (nI i1))]) F.1 F.2.1 dX6_leaves_52 rfl hl (by decide) rfl (fun ls hl => ?_)
    refine lv_iload_n F.1 F.2.1 dX6_leaves_53 rfl (lv_at hl 0 rfl) ?_
    refine lv_if_eq (tgt := 85) F.1 F.2.1 dX6_leaves_54 (by decide) (fun c_6 => ?_) (fun c_6 => ?_)
    · refine lv_aload_n F.1 F.2.1 dX6_leaves_85 rfl (lv_at hl 1 rfl) ?_
      refine lv_iconst (v := -1) F.1 F.2.1 dX6_leaves_86 (by decide) ?_
      refine cp_X6_156 F w hM (hI.o6 (show i1 < gnS G by omega)) dX6_leaves_87 (fun H locs μ w hM => ?_)
      have hM : RepC cy AD (g_X6_leaves_2 G i1 i2) μ := hM
      refine lv_aload_n F.1 F.2.1 dX6_leaves_90 rfl (lv_at hl 1 rfl) ?_
      refine lv_null F.1 F.2.1 dX6_leaves_91 ?_
      refine cp_X6_174 (v := -1) F w hM (ok_fr (by decide) (hI.o6 (show i1 < gnS G by omega))) dX6_leaves_92 (fun H locs μ w hM => ?_)
      have hM : RepC cy AD (g_X6_leaves_3 G i1 i2) μ := hM
      refine lv_iload_n F.1 F.2.1 dX6_leaves_95 rfl (lv_at hl 0 rfl) ?_
      refine vx_ret ?_
      refine W.widen (k := 1) (n := 6) (Nat.le_of_ble_eq_true rfl) (Nat.le_of_ble_eq_true rfl) ?_
      exact q_retZ (S := Unit) F hr hlk w ⟨((if_pos c_2).trans (if_pos c_6)), ((if_pos c_2).trans (if_pos c_6)).symm, ⟨AD, rfl, RepC.cg hM ((if_pos c_2).trans (if_pos c_6))⟩⟩ (nz_v_X6_leaves_52 _ _ _) dX6_leaves_96
    · refine lv_aload_n F.1 F.2.1 dX6_leaves_57 rfl (lv_at hl 1 rfl) ?_
      refine gf_X6_156 F w (hM.a6 (hI.o6 (show i1 < gnS G by omega))) rfl dX6_leaves_58 ?_
      refine lv_fold (y := nI i2) (hp) ?_
      refine lv_aload_n F.1 F.2.1 dX6_leaves_61 rfl (lv_at hl 2 rfl) ?_
      refine gf_X6_26 F w (hM.a0 ⟨by decide, rfl, rfl⟩) rfl dX6_leaves_62 ?_
      refine q_alen F w 0 rfl (hM.1 5 0 0 ⟨by decide, rfl, rfl⟩) (v := 4) rfl dX6_leaves_65 ?_
      refine q_rS (rest := []) F w kS_X6_46 hd_X6_isIndex (c_X6_isIndex l D cy A _ (nI i2) 4) dX6_leaves_66 rfl rfl hl.1 ⟨rfl, rfl, Nat.le_of_ble_eq_true rfl, Nat.le_of_ble_eq_true rfl⟩ (Nat.le_of_ble_eq_true rfl) ⟨Nat.zero_le _, Nat.zero_le _⟩ ?_
      refine lv_if_eq (tgt := 85) F.1 F.2.1 dX6_leaves_69 (by decide) (fun c_7 => absurd c_7 (isx_ok (n := 4) hi2 (by decide))) (fun c_7 => ?_)
      refine lv_aload_n F.1 F.2.1 dX6_leaves_72 rfl (lv_at hl 2 rfl) ?_
      refine gf_X6_26 F w (hM.a0 ⟨by decide, rfl, rfl⟩) rfl dX6_leaves_73 ?_
      refine lv_aload_n F.1 F.2.1 dX6_leaves_76 rfl (lv_at hl 1 rfl) ?_
      refine gf_X6_156 F w (hM.a6 (hI.o6 (show i1 < gnS G by omega))) rfl dX6_leaves_77 ?_
      refine lv_fold (y := nI i2) (hp) ?_
      refine lv_dup2_11 F.1 F.2.1 dX6_leaves_80 rfl rfl ?_
      refine q_iald F w (hM.1 5 0 0 ⟨by decide, rfl, rfl⟩) (vp_in_nI (show i2 < 4 by omega) (by decide)) dX6_leaves_81 ?_
      refine lv_fold (y := G 43 i2) (by rw [nI_clamp (by omega)]) ?_
      refine lv_iconst (v := 1) F.1 F.2.1 dX6_leaves_82 (by decide) ?_
      refine lv_iadd F.1 F.2.1 dX6_leaves_83 ?_
      refine c_ist F w hM (show i2 < 4 by omega) dX6_leaves_84 (fun H locs μ w hM => ?_)
      have hM : RepC cy AD (g_X6_leaves_1 G i1 i2) μ := hM
      refine lv_aload_n F.1 F.2.1 dX6_leaves_85 rfl (lv_at hl 1 rfl) ?_
      refine lv_iconst (v := -1) F.1 F.2.1 dX6_leaves_86 (by decide) ?_
      refine cp_X6_156 F w hM (ok_fr (by decide) (hI.o6 (show i1 < gnS G by omega))) dX6_leaves_87 (fun H locs μ w hM => ?_)
      have hM : RepC cy AD (g_X6_leaves_4 G i1 i2) μ := hM
      refine lv_aload_n F.1 F.2.1 dX6_leaves_90 rfl (lv_at hl 1 rfl) ?_
      refine lv_null F.1 F.2.1 dX6_leaves_91 ?_
      refine cp_X6_174 (v := -1) F w hM (ok_fr (by decide) (ok_fr (by decide) (hI.o6 (show i1 < gnS G by omega)))) dX6_leaves_92 (fun H locs μ w hM => ?_)
      have hM : RepC cy AD (g_X6_leaves_5 G i1 i2) μ := hM
      refine lv_iload_n F.1 F.2.1 dX6_leaves_95 rfl (lv_at hl 0 rfl) ?_
      refine vx_ret ?_
      refine W.widen (k := 1) (n := 6) (Nat.le_of_ble_eq_true rfl) (Nat.le_of_ble_eq_true rfl) ?_
      exact q_retZ (S := Unit) F hr hlk w ⟨((if_pos c_2).trans (if_neg c_6)), ((if_pos c_2).trans (if_neg c_6)).symm, ⟨AD, rfl, RepC.cg hM ((if_pos c_2).trans (if_neg c_6))⟩⟩ (nz_v_X6_leaves_52 _ _ _) dX6_leaves_96
  · exact q_thS (k9 := 16) F w hlf th9_2 rfl hl.1 (congrArg xnm (if_neg c_2)).symm ht hlk dX6_leaves_21 dX6_leaves_24 dX6_leaves_25 dX6_leaves_27 dX6_leaves_30 (Nat.le_of_ble_eq_true rfl) (Nat.le_of_ble_eq_true rfl) (Nat.le_of_ble_eq_true rfl) (Nat.le_of_ble_eq_true rfl) (Nat.le_of_ble_eq_true rfl) (Nat.le_of_ble_eq_true rfl)
set_option maxHeartbeats 4000000 in
set_option maxRecDepth 100000 in
theorem c_X6_leaves_n (l : Launch) (D : va_G) (cy : Nat → ClassId) (A : Nat → Prop) (μ : MU) (AD : AM) (G : GS) (hM : RepC cy AD G μ) (hI : InvC G) (i1 : Nat) (hi1 : i1 < gnS G) (hp : G 10 i1 = -1) (hlf : l.stackTraces = false) : vx_Met l yX6_leaves (WS yX6_leaves cX6_leaves 4 (Option.some Jvm.ClassFile.FieldType.boolean)) { frames := 6, cells := 1, slots := 6, locals := 100 } (va_Pc [.ref (AD 0 0 0), .int (nI i1)] (Wd D cy A μ)) (fun _ _ _ _ => False) (XC9 D A μ (xnm 2)) 1 6 A := by
  refine q_metx (by decide) (Nat.le_of_ble_eq_true rfl) ?_
  intro p e s m below meth c F w hr hlk ht ls hl
  have F : CallFix p m c cX6_leaves 4 s _ BIG RX6 := F
  have hl : lv_has ls 4 [(0, .ref (AD 0 0 0)), (1, .int (nI i1))] := hl
  refine lv_aload_n F.1 F.2.1 dX6_leaves_0 rfl (lv_at hl 0 rfl) ?_
  refine lv_iload_n F.1 F.2.1 dX6_leaves_1 rfl (lv_at hl 1 rfl) ?_
  refine q_sVq (rest := []) F w kV_X6_82 hd_X6_shipNumbered (ci := 7) rfl (c_X6_shipNumbered l D cy A _ AD G hM hI i1 (show i1 < gnS G by omega)) (hM.a0 ⟨by decide, rfl, rfl⟩) dX6_leaves_2 rfl rfl hl.1 ⟨rfl, rfl, Nat.le_of_ble_eq_true rfl, Nat.le_of_ble_eq_true rfl⟩ (Nat.le_of_ble_eq_true rfl) ⟨Nat.zero_le _, Nat.zero_le _⟩ ?_
  refine lv_astore_n (lv' := [(2, .ref (AD 6 i1 0)), (0, .ref (AD 0 0 0)), (1, .int (nI i1))]) F.1 F.2.1 dX6_leaves_5 rfl hl (by decide) rfl (fun ls hl => ?_)
  refine lv_aload_n F.1 F.2.1 dX6_leaves_6 rfl (lv_at hl 0 rfl) ?_
  refine gf_X6_156 F w (hM.a6 (hI.o6 (show i1 < gnS G by omega))) rfl dX6_leaves_7 ?_
  refine lv_iconst (v := -1) F.1 F.2.1 dX6_leaves_10 (by decide) ?_
  refine lv_icmp_eq (tgt := 21) F.1 F.2.1 dX6_leaves_11 (by decide) (fun c_1 => ?_) (fun c_1 => absurd hp c_1)
  exact q_thS (k9 := 16) F w hlf th9_2 rfl hl.1 rfl ht hlk dX6_leaves_21 dX6_leaves_24 dX6_leaves_25 dX6_leaves_27 dX6_leaves_30 (Nat.le_of_ble_eq_true rfl) (Nat.le_of_ble_eq_true rfl) (Nat.le_of_ble_eq_true rfl) (Nat.le_of_ble_eq_true rfl) (Nat.le_of_ble_eq_true rfl) (Nat.le_of_ble_eq_true rfl)
set_option maxHeartbeats 4000000 in
set_option maxRecDepth 100000 in
theorem c_X6_leaves_b (l : Launch) (D : va_G) (cy : Nat → ClassId) (A : Nat → Prop) (μ : MU) (AD : AM) (G : GS) (hM : RepC cy AD G μ) (hI : InvC G) (x1 : Int32) (hb : f_X6_isIndex x1 (nI (gnS G)) = 0) (hlf : l.stackTraces = false) : vx_Met l yX6_leaves (WS yX6_leaves cX6_leaves 4 (Option.some Jvm.ClassFile.FieldType.boolean)) { frames := 7, cells := 1, slots := 6, locals := 121 } (va_Pc [.ref (AD 0 0 0), .int x1] (Wd D cy A μ)) (fun _ _ _ _ => False) (XC9 D A μ (xnm 3)) 1 6 A := by
  refine q_metx (by decide) (Nat.le_of_ble_eq_true rfl) ?_
  intro p e s m below meth c F w hr hlk ht ls hl
  have F : CallFix p m c cX6_leaves 4 s _ BIG RX6 := F
  have hl : lv_has ls 4 [(0, .ref (AD 0 0 0)), (1, .int x1)] := hl
  refine lv_aload_n F.1 F.2.1 dX6_leaves_0 rfl (lv_at hl 0 rfl) ?_
  refine lv_iload_n F.1 F.2.1 dX6_leaves_1 rfl (lv_at hl 1 rfl) ?_
  exact q_xV (rest := []) F w rfl ht hlk kV_X6_82 hd_X6_shipNumbered (ci := 7) rfl (c_X6_shipNumbered_b l D cy A _ AD G hM hI x1 hb hlf) (hM.a0 ⟨by decide, rfl, rfl⟩) dX6_leaves_2 rfl rfl hl.1 ⟨rfl, rfl, Nat.le_of_ble_eq_true rfl, Nat.le_of_ble_eq_true rfl⟩ (Nat.le_of_ble_eq_true rfl) ⟨Nat.le_of_ble_eq_true rfl, Nat.le_of_ble_eq_true rfl⟩ (Nat.le_of_ble_eq_true rfl) (Nat.le_of_ble_eq_true rfl)
def L_X6_knew_54_5 (G : GS) (i1 : Nat) (x2 : Int32) (x3 : Int32) : Nat → Int32
  | 0 => 0
  | k54 + 1 => if G 30 k54 = nI i1 then (if f_X5_isKnownAt G k54 x2 x3 = 0 then L_X6_knew_54_5 G i1 x2 x3 k54 else (L_X6_knew_54_5 G i1 x2 x3 k54) + (nI (gnF G k54))) else L_X6_knew_54_5 G i1 x2 x3 k54
def x_X6_knew (G : GS) (i1 : Nat) (x2 : Int32) (x3 : Int32) : Nat := if f_X6_isIndex x2 4 = 0 then 3 else (if x3 < 0 then 1 else (if x3 ≤ G 1 0 then 0 else 1))
def f_X6_knew (G : GS) (i1 : Nat) (x2 : Int32) (x3 : Int32) : Int32 := if f_X6_isIndex x2 4 = 0 then 0 else (if x3 < 0 then 0 else (if x3 ≤ G 1 0 then L_X6_knew_54_5 G i1 x2 x3 (gnV G) else 0))
def g_X6_knew (G : GS) (i1 : Nat) (x2 : Int32) (x3 : Int32) : GS := if f_X6_isIndex x2 4 = 0 then G else (if x3 < 0 then G else (if x3 ≤ G 1 0 then G else G))
set_option maxHeartbeats 4000000 in
set_option maxRecDepth 100000 in
theorem c_X6_knew (l : Launch) (D : va_G) (cy : Nat → ClassId) (A : Nat → Prop) (μ : MU) (AD : AM) (G : GS) (hM : RepC cy AD G μ) (hI : InvC G) (i1 : Nat) (x2 : Int32) (x3 : Int32) (hi1 : i1 < gnS G) (hlf : l.stackTraces = false) : vx_Met l yX6_knew (WS yX6_knew cX6_knew 8 (Option.some Jvm.ClassFile.FieldType.int)) { frames := 6, cells := 1, slots := 6, locals := 100 } (va_Pc [.ref (AD 0 0 0), .int (nI i1), .int x2, .int x3] (Wd D cy A μ)) (va_Qi (fun (r9 : Int32) (μ1 : MU) => x_X6_knew G i1 x2 x3 = 0 ∧ r9 = f_X6_knew G i1 x2 x3 ∧ ∃ AD1 : AM, AD1 0 = AD 0 ∧ RepC cy AD1 (g_X6_knew G i1 x2 x3) μ1) (fun μ1 t => Wd D cy A μ1 t) A) (XC9 D A μ (xnm (x_X6_knew G i1 x2 x3))) 1 6 A := by
  refine q_metx (by decide) (Nat.le_of_ble_eq_true rfl) ?_
  intro p e s m below meth c F w hr hlk ht ls hl
  have F : CallFix p m c cX6_knew 8 s _ BIG RX6 := F
  have hl : lv_has ls 8 [(0, .ref (AD 0 0 0)), (1, .int (nI i1)), (2, .int x2), (3, .int x3)] := hl
  refine lv_aload_n F.1 F.2.1 dX6_knew_0 rfl (lv_at hl 0 rfl) ?_
  refine lv_iload_n F.1 F.2.1 dX6_knew_1 rfl (lv_at hl 1 rfl) ?_
  refine q_sVq (rest := []) F w kV_X6_82 hd_X6_shipNumbered (ci := 7) rfl (c_X6_shipNumbered l D cy A _ AD G hM hI i1 (show i1 < gnS G by omega)) (hM.a0 ⟨by decide, rfl, rfl⟩) dX6_knew_2 rfl rfl hl.1 ⟨rfl, rfl, Nat.le_of_ble_eq_true rfl, Nat.le_of_ble_eq_true rfl⟩ (Nat.le_of_ble_eq_true rfl) ⟨Nat.zero_le _, Nat.zero_le _⟩ ?_
  refine lv_astore (lv' := [(4, .ref (AD 6 i1 0)), (0, .ref (AD 0 0 0)), (1, .int (nI i1)), (2, .int x2), (3, .int x3)]) F.1 F.2.1 dX6_knew_5 hl (by decide) rfl (fun ls hl => ?_)
  refine lv_iload_n F.1 F.2.1 dX6_knew_7 rfl (lv_at hl 3 rfl) ?_
  refine lv_iconst (v := 4) F.1 F.2.1 dX6_knew_8 (by decide) ?_
  refine q_rS (rest := []) F w kS_X6_46 hd_X6_isIndex (c_X6_isIndex l D cy A _ x2 4) dX6_knew_9 rfl rfl hl.1 ⟨rfl, rfl, Nat.le_of_ble_eq_true rfl, Nat.le_of_ble_eq_true rfl⟩ (Nat.le_of_ble_eq_true rfl) ⟨Nat.zero_le _, Nat.zero_le _⟩ ?_
  refine lv_if_ne (tgt := 25) F.1 F.2.1 dX6_knew_12 (by decide) (fun c_1 => ?_) (fun c_1 => ?_)
  · refine lv_iload_n F.1 F.2.1 dX6_knew_25 rfl (lv_at hl 4 rfl) ?_
    refine lv_if_lt (tgt := 37) F.1 F.2.1 dX6_knew_26 (by decide) (fun c_2 => ?_) (fun c_2 => ?_)
    · exact q_thW (k9 := 31) F w hlf th9_1 rfl hl.1 (congrArg xnm ((if_neg c_1).trans (if_pos c_2))).symm ht hlk dX6_knew_37 dX6_knew_40 dX6_knew_41 dX6_knew_44 dX6_knew_47 (Nat.le_of_ble_eq_true rfl) (Nat.le_of_ble_eq_true rfl) (Nat.le_of_ble_eq_true rfl) (Nat.le_of_ble_eq_true rfl) (Nat.le_of_ble_eq_true rfl) (Nat.le_of_ble_eq_true rfl)
    · refine lv_iload_n F.1 F.2.1 dX6_knew_29 rfl (lv_at hl 4 rfl) ?_
      refine lv_aload_n F.1 F.2.1 dX6_knew_30 rfl (lv_at hl 1 rfl) ?_
      refine gf_X6_30 F w (hM.a0 ⟨by decide, rfl, rfl⟩) rfl dX6_knew_31 ?_
      refine lv_icmp_le (tgt := 48) F.1 F.2.1 dX6_knew_34 (by decide) (fun c_3 => ?_) (fun c_3 => ?_)
      · refine lv_iconst (v := 0) F.1 F.2.1 dX6_knew_48 (by decide) ?_
        refine lv_istore (lv' := [(5, .int 0), (4, .ref (AD 6 i1 0)), (0, .ref (AD 0 0 0)), (1, .int (nI i1)), (2, .int x2), (3, .int x3)]) F.1 F.2.1 dX6_knew_49 hl (by decide) rfl (fun ls hl => ?_)
        refine lv_iconst (v := 0) F.1 F.2.1 dX6_knew_51 (by decide) ?_
        refine lv_istore (lv' := [(6, .int 0), (5, .int 0), (4, .ref (AD 6 i1 0)), (0, .ref (AD 0 0 0)), (1, .int (nI i1)), (2, .int x2), (3, .int x3)]) F.1 F.2.1 dX6_knew_52 hl (by decide) rfl (fun ls hl => ?_)
        refine q_loop (P := fun k54 ls => lv_has ls 8 [(6, .int (nI k54)), (5, .int (L_X6_knew_54_5 G i1 x2 x3 k54)), (4, .ref (AD 6 i1 0)), (0, .ref (AD 0 0 0)), (1, .int (nI i1)), (2, .int x2), (3, .int x3)]) (gnV G) (fun k54 ls hk54 hl ih54 => ?_) 0 ls (Nat.zero_le _) (lv_cg (lv_sub hl [0, 1, 2, 3, 4, 5, 6] rfl) rfl)
        refine lv_iload F.1 F.2.1 dX6_knew_54 (lv_at hl 0 rfl) ?_
        refine lv_aload_n F.1 F.2.1 dX6_knew_56 rfl (lv_at hl 3 rfl) ?_
        refine gf_X6_19 F w (hM.a0 ⟨by decide, rfl, rfl⟩) rfl dX6_knew_57 ?_
        refine q_rV (rest := [.int (nI k54)]) F w kV_X6_58 hd_Jx4a65c_size_8abf5 (ci := 0) rfl (c_size l D cy A _ hM.l3.1) hM.l3.1 dX6_knew_60 rfl rfl hl.1 ⟨rfl, rfl, Nat.le_of_ble_eq_true rfl, Nat.le_of_ble_eq_true rfl⟩ (Nat.le_of_ble_eq_true rfl) ⟨Nat.zero_le _, Nat.zero_le _⟩ ?_
        refine lv_icmp_ge (tgt := 119) F.1 F.2.1 dX6_knew_63 (by decide) (fun c_4 => ?_) (fun c_4 => ?_)
        rotate_left
        · have hlt54 : k54 < (gnV G) := GB_ilt rfl (Nat.lt_of_le_of_lt hI.v.2.1 (by decide)) hk54 c_4
          refine lv_aload_n F.1 F.2.1 dX6_knew_66 rfl (lv_at hl 3 rfl) ?_
          refine gf_X6_19 F w (hM.a0 ⟨by decide, rfl, rfl⟩) rfl dX6_knew_67 ?_
          refine lv_iload F.1 F.2.1 dX6_knew_70 (lv_at hl 0 rfl) ?_
          refine q_sVq (rest := []) F w kV_X6_224 hd_Jx4a65c_get_915e3 (ci := 0) rfl (c_get l D cy A _ hM.l3 (show k54 < gnV G by omega) (show gnV G ≤ 600 by have := hI.v.2.1; omega)) hM.l3.1 dX6_knew_72 rfl rfl hl.1 ⟨rfl, rfl, Nat.le_of_ble_eq_true rfl, Nat.le_of_ble_eq_true rfl⟩ (Nat.le_of_ble_eq_true rfl) ⟨Nat.zero_le _, Nat.zero_le _⟩ ?_
          refine q_cast F w wL_X6_179 (ci := 6) rfl (hM.a10 (hI.o10 (show k54 < gnV G by omega))) dX6_knew_75 ?_
          refine lv_astore (lv' := [(7, .ref (AD 10 k54 0)), (6, .int (nI k54)), (5, .int (L_X6_knew_54_5 G i1 x2 x3 k54)), (4, .ref (AD 6 i1 0)), (0, .ref (AD 0 0 0)), (1, .int (nI i1)), (2, .int x2), (3, .int x3)]) F.1 F.2.1 dX6_knew_78 hl (by decide) rfl (fun ls hl => ?_)
          refine lv_aload F.1 F.2.1 dX6_knew_80 (lv_at hl 0 rfl) ?_
          refine gf_X6_201 F w (hM.a10 (hI.o10 (show k54 < gnV G by omega))) rfl dX6_knew_82 ?_
          refine lv_aload F.1 F.2.1 dX6_knew_85 (lv_at hl 3 rfl) ?_
          refine jnl (m := m) 8 [(7, .ref (AD 10 k54 0)), (6, .int (nI k54)), (5, .int (if G 30 k54 = nI i1 then (if f_X5_isKnownAt G k54 x2 x3 = 0 then L_X6_knew_54_5 G i1 x2 x3 k54 else (L_X6_knew_54_5 G i1 x2 x3 k54) + (nI (gnF G k54))) else L_X6_knew_54_5 G i1 x2 x3 k54)), (4, .ref (AD 6 i1 0)), (0, .ref (AD 0 0 0)), (1, .int (nI i1)), (2, .int x2), (3, .int x3)] [] 113 (fun J_5 => ?_) ?_
          · refine q_acmp_ne (rx := some (AD 6 (gnO G k54) 0)) (ry := some (AD 6 i1 0)) (P := G 30 k54 = nI i1) (hP := hM.shq hI (show k54 < gnV G by omega) (show i1 < gnS G by omega)) (tgt := 113) F.1 F.2.1 dX6_knew_87 (by decide) (fun c_6 => ?_) (fun c_6 => ?_)
            · exact J_5 ls (lv_sub hl [0, 1, 2, 3, 4, 5, 6, 7] (by rw [((if_neg c_6) : (if G 30 k54 = nI i1 then (if f_X5_isKnownAt G k54 x2 x3 = 0 then L_X6_knew_54_5 G i1 x2 x3 k54 else (L_X6_knew_54_5 G i1 x2 x3 k54) + (nI (gnF G k54))) else L_X6_knew_54_5 G i1 x2 x3 k54) = L_X6_knew_54_5 G i1 x2 x3 k54)] <;> rfl))
            · refine lv_aload F.1 F.2.1 dX6_knew_90 (lv_at hl 0 rfl) ?_
              refine lv_iload_n F.1 F.2.1 dX6_knew_92 rfl (lv_at hl 6 rfl) ?_
              refine lv_iload_n F.1 F.2.1 dX6_knew_93 rfl (lv_at hl 7 rfl) ?_
              refine q_rV (rest := []) F w kV_X6_322 hd_X5_isKnownAt (ci := 6) rfl (c_X5_isKnownAt l D cy A _ AD G hM hI k54 x2 x3 (show k54 < gnV G by omega)) (hM.a10 (hI.o10 (show k54 < gnV G by omega))) dX6_knew_94 rfl rfl hl.1 ⟨rfl, rfl, Nat.le_of_ble_eq_true rfl, Nat.le_of_ble_eq_true rfl⟩ (Nat.le_of_ble_eq_true rfl) ⟨Nat.zero_le _, Nat.zero_le _⟩ ?_
              refine lv_if_eq (tgt := 113) F.1 F.2.1 dX6_knew_97 (by decide) (fun c_7 => ?_) (fun c_7 => ?_)
              · exact J_5 ls (lv_sub hl [0, 1, 2, 3, 4, 5, 6, 7] (by rw [(((if_pos c_6).trans (if_pos c_7)) : (if G 30 k54 = nI i1 then (if f_X5_isKnownAt G k54 x2 x3 = 0 then L_X6_knew_54_5 G i1 x2 x3 k54 else (L_X6_knew_54_5 G i1 x2 x3 k54) + (nI (gnF G k54))) else L_X6_knew_54_5 G i1 x2 x3 k54) = L_X6_knew_54_5 G i1 x2 x3 k54)] <;> rfl))
              · refine lv_iload F.1 F.2.1 dX6_knew_100 (lv_at hl 2 rfl) ?_
                refine lv_aload F.1 F.2.1 dX6_knew_102 (lv_at hl 0 rfl) ?_
                refine gf_X6_209 F w (hM.a10 (hI.o10 (show k54 < gnV G by omega))) rfl dX6_knew_104 ?_
                refine q_rV (rest := [.int (L_X6_knew_54_5 G i1 x2 x3 k54)]) F w kV_X6_58 hd_Jx4a65c_size_8abf5 (ci := 0) rfl (c_size l D cy A _ (hM.l11 (hI.mv (show k54 < gnV G by omega))).1) (hM.l11 (hI.mv (show k54 < gnV G by omega))).1 dX6_knew_107 rfl rfl hl.1 ⟨rfl, rfl, Nat.le_of_ble_eq_true rfl, Nat.le_of_ble_eq_true rfl⟩ (Nat.le_of_ble_eq_true rfl) ⟨Nat.zero_le _, Nat.zero_le _⟩ ?_
                refine lv_iadd F.1 F.2.1 dX6_knew_110 ?_
                refine lv_istore (lv' := [(5, .int ((L_X6_knew_54_5 G i1 x2 x3 k54) + (nI (gnF G k54)))), (7, .ref (AD 10 k54 0)), (6, .int (nI k54)), (4, .ref (AD 6 i1 0)), (0, .ref (AD 0 0 0)), (1, .int (nI i1)), (2, .int x2), (3, .int x3)]) F.1 F.2.1 dX6_knew_111 hl (by decide) rfl (fun ls hl => ?_)
                exact J_5 ls (lv_sub hl [1, 2, 0, 3, 4, 5, 6, 7] (by rw [(((if_pos c_6).trans (if_neg c_7)) : (if G 30 k54 = nI i1 then (if f_X5_isKnownAt G k54 x2 x3 = 0 then L_X6_knew_54_5 G i1 x2 x3 k54 else (L_X6_knew_54_5 G i1 x2 x3 k54) + (nI (gnF G k54))) else L_X6_knew_54_5 G i1 x2 x3 k54) = (L_X6_knew_54_5 G i1 x2 x3 k54) + (nI (gnF G k54)))] <;> rfl))
          intro ls hl
          refine lv_iinc (v := nI (k54 + 1)) (lv' := [(6, .int (nI (k54 + 1))), (7, .ref (AD 10 k54 0)), (5, .int (if G 30 k54 = nI i1 then (if f_X5_isKnownAt G k54 x2 x3 = 0 then L_X6_knew_54_5 G i1 x2 x3 k54 else (L_X6_knew_54_5 G i1 x2 x3 k54) + (nI (gnF G k54))) else L_X6_knew_54_5 G i1 x2 x3 k54)), (4, .ref (AD 6 i1 0)), (0, .ref (AD 0 0 0)), (1, .int (nI i1)), (2, .int x2), (3, .int x3)]) F.1 F.2.1 dX6_knew_113 hl (k := 1) rfl (nI_1 _) (by decide) rfl (fun ls hl => ?_)
          refine lv_goto (tgt := 54) F.1 F.2.1 dX6_knew_116 (by decide) ?_
          exact ih54 ls hlt54 (lv_sub hl [0, 2, 3, 4, 5, 6, 7] rfl)
        have hkn54 : k54 = (gnV G) := GB_ile rfl (Nat.lt_of_le_of_lt hI.v.2.1 (by decide)) hk54 c_4
        subst hkn54
        refine lv_iload F.1 F.2.1 dX6_knew_119 (lv_at hl 1 rfl) ?_
        refine vx_ret ?_
        refine W.widen (k := 1) (n := 6) (Nat.le_of_ble_eq_true rfl) (Nat.le_of_ble_eq_true rfl) ?_
        exact q_retI (S := Unit) F hr hlk w ⟨((if_neg c_1).trans ((if_neg c_2).trans (if_pos c_3))), ((if_neg c_1).trans ((if_neg c_2).trans (if_pos c_3))).symm, ⟨AD, rfl, RepC.cg hM ((if_neg c_1).trans ((if_neg c_2).trans (if_pos c_3)))⟩⟩ dX6_knew_121
      · exact q_thW (k9 := 31) F w hlf th9_1 rfl hl.1 (congrArg xnm ((if_neg c_1).trans ((if_neg c_2).trans (if_neg c_3)))).symm ht hlk dX6_knew_37 dX6_knew_40 dX6_knew_41 dX6_knew_44 dX6_knew_47 (Nat.le_of_ble_eq_true rfl) (Nat.le_of_ble_eq_true rfl) (Nat.le_of_ble_eq_true rfl) (Nat.le_of_ble_eq_true rfl) (Nat.le_of_ble_eq_true rfl) (Nat.le_of_ble_eq_true rfl)
  · exact q_thS (k9 := 14) F w hlf th9_3 rfl hl.1 (congrArg xnm (if_pos c_1)).symm ht hlk dX6_knew_15 dX6_knew_18 dX6_knew_19 dX6_knew_21 dX6_knew_24 (Nat.le_of_ble_eq_true rfl) (Nat.le_of_ble_eq_true rfl) (Nat.le_of_ble_eq_true rfl) (Nat.le_of_ble_eq_true rfl) (Nat.le_of_ble_eq_true rfl) (Nat.le_of_ble_eq_true rfl)
set_option maxHeartbeats 4000000 in
set_option maxRecDepth 100000 in
theorem c_X6_knew_b (l : Launch) (D : va_G) (cy : Nat → ClassId) (A : Nat → Prop) (μ : MU) (AD : AM) (G : GS) (hM : RepC cy AD G μ) (hI : InvC G) (x1 : Int32) (x2 : Int32) (x3 : Int32) (hb : f_X6_isIndex x1 (nI (gnS G)) = 0) (hlf : l.stackTraces = false) : vx_Met l yX6_knew (WS yX6_knew cX6_knew 8 (Option.some Jvm.ClassFile.FieldType.int)) { frames := 7, cells := 1, slots := 6, locals := 121 } (va_Pc [.ref (AD 0 0 0), .int x1, .int x2, .int x3] (Wd D cy A μ)) (fun _ _ _ _ => False) (XC9 D A μ (xnm 3)) 1 6 A := by
  refine q_metx (by decide) (Nat.le_of_ble_eq_true rfl) ?_
  intro p e s m below meth c F w hr hlk ht ls hl
  have F : CallFix p m c cX6_knew 8 s _ BIG RX6 := F
  have hl : lv_has ls 8 [(0, .ref (AD 0 0 0)), (1, .int x1), (2, .int x2), (3, .int x3)] := hl
  refine lv_aload_n F.1 F.2.1 dX6_knew_0 rfl (lv_at hl 0 rfl) ?_
  refine lv_iload_n F.1 F.2.1 dX6_knew_1 rfl (lv_at hl 1 rfl) ?_
  exact q_xV (rest := []) F w rfl ht hlk kV_X6_82 hd_X6_shipNumbered (ci := 7) rfl (c_X6_shipNumbered_b l D cy A _ AD G hM hI x1 hb hlf) (hM.a0 ⟨by decide, rfl, rfl⟩) dX6_knew_2 rfl rfl hl.1 ⟨rfl, rfl, Nat.le_of_ble_eq_true rfl, Nat.le_of_ble_eq_true rfl⟩ (Nat.le_of_ble_eq_true rfl) ⟨Nat.le_of_ble_eq_true rfl, Nat.le_of_ble_eq_true rfl⟩ (Nat.le_of_ble_eq_true rfl) (Nat.le_of_ble_eq_true rfl)
def g_X6_ban_1 (G : GS) (i1 : Nat) : GS := up2 G 14 i1 0
theorem e_g_X6_ban_1 (G : GS) (i1 : Nat) {j : Nat} (h : j ∉ [14]) : g_X6_ban_1 G i1 j = G j := (up2_ne (fun q => h (by rw [q]; exact List.mem_cons_self))).trans rfl
def g_X6_ban_2 (G : GS) (i1 : Nat) : GS := up2 (g_X6_ban_1 G i1) 15 i1 ((G 15 i1) + 1)
theorem e_g_X6_ban_2 (G : GS) (i1 : Nat) {j : Nat} (h : j ∉ [15, 14]) : g_X6_ban_2 G i1 j = G j := (up2_ne (fun q => h (by rw [q]; exact List.mem_cons_self))).trans (e_g_X6_ban_1 G i1 (fun q => h (List.mem_cons_of_mem _ q)))
def g_X6_ban_3 (G : GS) (i1 : Nat) : GS := up2 (g_X6_ban_2 G i1) 16 i1 (if (G 15 i1) + 1 = 1 then (G 1 0) + 90 else (if (G 15 i1) + 1 = 2 then (G 1 0) + 360 else 9000))
theorem e_g_X6_ban_3 (G : GS) (i1 : Nat) {j : Nat} (h : j ∉ [16, 15, 14]) : g_X6_ban_3 G i1 j = G j := (up2_ne (fun q => h (by rw [q]; exact List.mem_cons_self))).trans (e_g_X6_ban_2 G i1 (fun q => h (List.mem_cons_of_mem _ q)))
def g_X6_ban (G : GS) (i1 : Nat) : GS := g_X6_ban_3 G i1
set_option maxHeartbeats 4000000 in
set_option maxRecDepth 100000 in
theorem c_X6_ban (l : Launch) (D : va_G) (cy : Nat → ClassId) (A : Nat → Prop) (μ : MU) (AD : AM) (G : GS) (hM : RepC cy AD G μ) (hI : InvC G) (i1 : Nat) (hi1 : i1 < gnS G) : Met l yX6_ban (WS yX6_ban cX6_ban 2 (Option.none : Option Jvm.ClassFile.FieldType)) { frames := 0, cells := 0, slots := 0, locals := 0 } (va_Pc [.ref (AD 0 0 0), .ref (AD 6 i1 0)] (Wd D cy A μ)) (va_Qv (fun μ1 : MU => RepC cy AD (g_X6_ban G i1) μ1) (fun μ1 t => Wd D cy A μ1 t) A) 0 0 A := by
  refine q_met (by decide) (Nat.le_of_ble_eq_true rfl) ?_
  intro p e s m below meth c F w hr hlk hnm ls hl
  have F : CallFix p m c cX6_ban 2 s _ BIG RX6 := F
  have hl : lv_has ls 2 [(0, .ref (AD 0 0 0)), (1, .ref (AD 6 i1 0))] := hl
  refine lv_aload_n F.1 F.2.1 dX6_ban_0 rfl (lv_at hl 1 rfl) ?_
  refine lv_iconst (v := 0) F.1 F.2.1 dX6_ban_1 (by decide) ?_
  refine cp_X6_269 F w hM (hI.o6 (show i1 < gnS G by omega)) nz0 dX6_ban_2 (fun H locs μ w hM => ?_)
  have hM : RepC cy AD (g_X6_ban_1 G i1) μ := hM
  refine lv_aload_n F.1 F.2.1 dX6_ban_5 rfl (lv_at hl 1 rfl) ?_
  refine lv_dup F.1 F.2.1 dX6_ban_6 rfl ?_
  refine gf_X6_408 F w (hM.a6 (ok_fr (by decide) (hI.o6 (show i1 < gnS G by omega)))) rfl dX6_ban_7 ?_
  refine lv_fold (y := G 15 i1) (congrFun (e_g_X6_ban_1 G i1 (by decide)) i1) ?_
  refine lv_iconst (v := 1) F.1 F.2.1 dX6_ban_10 (by decide) ?_
  refine lv_iadd F.1 F.2.1 dX6_ban_11 ?_
  refine cp_X6_408 F w hM (ok_fr (by decide) (hI.o6 (show i1 < gnS G by omega))) dX6_ban_12 (fun H locs μ w hM => ?_)
  have hM : RepC cy AD (g_X6_ban_2 G i1) μ := hM
  refine lv_aload_n F.1 F.2.1 dX6_ban_15 rfl (lv_at hl 1 rfl) ?_
  refine lv_aload_n F.1 F.2.1 dX6_ban_16 rfl (lv_at hl 1 rfl) ?_
  refine gf_X6_408 F w (hM.a6 (ok_fr (by decide) (ok_fr (by decide) (hI.o6 (show i1 < gnS G by omega))))) rfl dX6_ban_17 ?_
  refine lv_fold (y := (G 15 i1) + 1) ((congrFun (up2_eq _ _ _ _) _).trans pk_us) ?_
  refine lv_iconst (v := 1) F.1 F.2.1 dX6_ban_20 (by decide) ?_
  refine jn0 (m := m) (ls := ls) (rest := [.ref (AD 6 i1 0)]) (if (G 15 i1) + 1 = 1 then (G 1 0) + 90 else (if (G 15 i1) + 1 = 2 then (G 1 0) + 360 else 9000)) 56 (fun J_1 => ?_) ?_
  · refine lv_icmp_ne (tgt := 34) F.1 F.2.1 dX6_ban_21 (by decide) (fun c_2 => ?_) (fun c_2 => ?_)
    · refine lv_aload_n F.1 F.2.1 dX6_ban_34 rfl (lv_at hl 1 rfl) ?_
      refine gf_X6_408 F w (hM.a6 (ok_fr (by decide) (ok_fr (by decide) (hI.o6 (show i1 < gnS G by omega))))) rfl dX6_ban_35 ?_
      refine lv_fold (y := (G 15 i1) + 1) ((congrFun (up2_eq _ _ _ _) _).trans pk_us) ?_
      refine lv_iconst (v := 2) F.1 F.2.1 dX6_ban_38 (by decide) ?_
      refine lv_icmp_ne (tgt := 53) F.1 F.2.1 dX6_ban_39 (by decide) (fun c_3 => ?_) (fun c_3 => ?_)
      · refine lv_sipush (v := 9000) F.1 F.2.1 dX6_ban_53 (by decide) ?_
        exact jn_a ((if_neg c_2).trans (if_neg c_3)) J_1
      · refine lv_aload_n F.1 F.2.1 dX6_ban_42 rfl (lv_at hl 0 rfl) ?_
        refine gf_X6_30 F w (hM.a0 (ok_fr (by decide) (ok_fr (by decide) ⟨by decide, rfl, rfl⟩))) rfl dX6_ban_43 ?_
        refine lv_fold (y := G 1 0) (congrFun (e_g_X6_ban_2 G i1 (by decide)) 0) ?_
        refine lv_sipush (v := 360) F.1 F.2.1 dX6_ban_46 (by decide) ?_
        refine lv_iadd F.1 F.2.1 dX6_ban_49 ?_
        refine lv_goto (tgt := 56) F.1 F.2.1 dX6_ban_50 (by decide) ?_
        exact jn_a ((if_neg c_2).trans (if_pos c_3)) J_1
    · refine lv_aload_n F.1 F.2.1 dX6_ban_24 rfl (lv_at hl 0 rfl) ?_
      refine gf_X6_30 F w (hM.a0 (ok_fr (by decide) (ok_fr (by decide) ⟨by decide, rfl, rfl⟩))) rfl dX6_ban_25 ?_
      refine lv_fold (y := G 1 0) (congrFun (e_g_X6_ban_2 G i1 (by decide)) 0) ?_
      refine lv_bipush (v := 90) F.1 F.2.1 dX6_ban_28 (by decide) ?_
      refine lv_iadd F.1 F.2.1 dX6_ban_30 ?_
      refine lv_goto (tgt := 56) F.1 F.2.1 dX6_ban_31 (by decide) ?_
      exact jn_a (if_pos c_2) J_1
  refine cp_X6_411 F w hM (ok_fr (by decide) (ok_fr (by decide) (hI.o6 (show i1 < gnS G by omega)))) dX6_ban_56 (fun H locs μ w hM => ?_)
  have hM : RepC cy AD (g_X6_ban_3 G i1) μ := hM
  exact q_retV F hr hlk w (RepC.cg hM rfl) dX6_ban_59
def L_X6_lookForBan_4_2 (G : GS) (i1 : Nat) : Nat → Int32
  | 0 => 0
  | k4 + 1 => if f_X6_isCounted G k4 i1 = 0 then L_X6_lookForBan_4_2 G i1 k4 else (if G 42 k4 = 0 then (L_X6_lookForBan_4_2 G i1 k4) + 1 else L_X6_lookForBan_4_2 G i1 k4)
def g_X6_lookForBan_2 (G : GS) (i1 : Nat) : GS := up2 G 14 i1 1
theorem e_g_X6_lookForBan_2 (G : GS) (i1 : Nat) {j : Nat} (h : j ∉ [14]) : g_X6_lookForBan_2 G i1 j = G j := (up2_ne (fun q => h (by rw [q]; exact List.mem_cons_self))).trans rfl
def g_X6_lookForBan_4 (G : GS) (i1 : Nat) (k68 : Nat) : GS := up2 (g_X6_lookForBan_2 G i1) 42 k68 1
theorem e_g_X6_lookForBan_4 (G : GS) (i1 : Nat) (k68 : Nat) {j : Nat} (h : j ∉ [42, 14]) : g_X6_lookForBan_4 G i1 k68 j = G j := (up2_ne (fun q => h (by rw [q]; exact List.mem_cons_self))).trans (e_g_X6_lookForBan_2 G i1 (fun q => h (List.mem_cons_of_mem _ q)))
def LG_X6_lookForBan_68 (G : GS) (i1 : Nat) : Nat → GS
  | 0 => g_X6_lookForBan_2 G i1
  | k68 + 1 => if f_X6_isCounted (LG_X6_lookForBan_68 G i1 k68) k68 i1 = 0 then LG_X6_lookForBan_68 G i1 k68 else up2 (LG_X6_lookForBan_68 G i1 k68) 42 k68 1
theorem LFB_ne (G : GS) (i1 : Nat) : ∀ (k j : Nat), j ≠ 42 → LG_X6_lookForBan_68 G i1 k j = g_X6_lookForBan_2 G i1 j
  | 0, j, h => rfl
  | k + 1, j, h => by
    unfold LG_X6_lookForBan_68
    split
    · exact LFB_ne G i1 k j h
    · exact (up2_ne h).trans (LFB_ne G i1 k j h)
theorem LFB_V (G : GS) (i1 k : Nat) : gnV (LG_X6_lookForBan_68 G i1 k) = gnV G := congrArg (fun z : Nat → Int32 => (z 0).toNatClampNeg) (LFB_ne G i1 k 29 (by decide))
theorem LFB_S (G : GS) (i1 k : Nat) : gnS (LG_X6_lookForBan_68 G i1 k) = gnS G := congrArg (fun z : Nat → Int32 => (z 0).toNatClampNeg) (LFB_ne G i1 k 3 (by decide))
theorem LFB_I {G : GS} (i1 : Nat) (hI : InvC G) : ∀ k : Nat, InvC (LG_X6_lookForBan_68 G i1 k)
  | 0 => hI.w14 nz1
  | k + 1 => by
    unfold LG_X6_lookForBan_68
    split
    · exact LFB_I i1 hI k
    · exact (LFB_I i1 hI k).w42 nz1
def g_X6_lookForBan (G : GS) (i1 : Nat) : GS := if 3 ≤ L_X6_lookForBan_4_2 G i1 (gnV G) then LG_X6_lookForBan_68 G i1 (gnV G) else G
set_option maxHeartbeats 4000000 in
set_option maxRecDepth 100000 in
theorem c_X6_lookForBan (l : Launch) (D : va_G) (cy : Nat → ClassId) (A : Nat → Prop) (μ : MU) (AD : AM) (G : GS) (hM : RepC cy AD G μ) (hI : InvC G) (i1 : Nat) (hi1 : i1 < gnS G) : Met l yX6_lookForBan (WS yX6_lookForBan cX6_lookForBan 5 (Option.none : Option Jvm.ClassFile.FieldType)) { frames := 3, cells := 0, slots := 0, locals := 64 } (va_Pc [.ref (AD 0 0 0), .ref (AD 6 i1 0)] (Wd D cy A μ)) (va_Qv (fun μ1 : MU => RepC cy AD (g_X6_lookForBan G i1) μ1) (fun μ1 t => Wd D cy A μ1 t) A) 0 0 A := by
  refine q_met (by decide) (Nat.le_of_ble_eq_true rfl) ?_
  intro p e s m below meth c F w hr hlk hnm ls hl
  have F : CallFix p m c cX6_lookForBan 5 s _ BIG RX6 := F
  have hl : lv_has ls 5 [(0, .ref (AD 0 0 0)), (1, .ref (AD 6 i1 0))] := hl
  have hI0 := hI
  refine lv_iconst (v := 0) F.1 F.2.1 dX6_lookForBan_0 (by decide) ?_
  refine lv_istore_n (lv' := [(2, .int 0), (0, .ref (AD 0 0 0)), (1, .ref (AD 6 i1 0))]) F.1 F.2.1 dX6_lookForBan_1 rfl hl (by decide) rfl (fun ls hl => ?_)
  refine lv_iconst (v := 0) F.1 F.2.1 dX6_lookForBan_2 (by decide) ?_
  refine lv_istore_n (lv' := [(3, .int 0), (2, .int 0), (0, .ref (AD 0 0 0)), (1, .ref (AD 6 i1 0))]) F.1 F.2.1 dX6_lookForBan_3 rfl hl (by decide) rfl (fun ls hl => ?_)
  refine q_loop (P := fun k4 ls => lv_has ls 5 [(3, .int (nI k4)), (2, .int (L_X6_lookForBan_4_2 G i1 k4)), (0, .ref (AD 0 0 0)), (1, .ref (AD 6 i1 0))]) (gnV G) (fun k4 ls hk4 hl ih4 => ?_) 0 ls (Nat.zero_le _) (lv_cg (lv_sub hl [0, 1, 2, 3] rfl) rfl)
  refine lv_iload_n F.1 F.2.1 dX6_lookForBan_4 rfl (lv_at hl 0 rfl) ?_
  refine lv_aload_n F.1 F.2.1 dX6_lookForBan_5 rfl (lv_at hl 2 rfl) ?_
  refine gf_X6_19 F w (hM.a0 ⟨by decide, rfl, rfl⟩) rfl dX6_lookForBan_6 ?_
  refine q_rV (rest := [.int (nI k4)]) F w kV_X6_58 hd_Jx4a65c_size_8abf5 (ci := 0) rfl (c_size l D cy A _ hM.l3.1) hM.l3.1 dX6_lookForBan_9 rfl rfl hl.1 ⟨rfl, rfl, Nat.le_of_ble_eq_true rfl, Nat.le_of_ble_eq_true rfl⟩ (Nat.le_of_ble_eq_true rfl) ⟨Nat.zero_le _, Nat.zero_le _⟩ ?_
  refine lv_icmp_ge (tgt := 55) F.1 F.2.1 dX6_lookForBan_12 (by decide) (fun c_1 => ?_) (fun c_1 => ?_)
  rotate_left
  · have hlt4 : k4 < (gnV G) := GB_ilt rfl (Nat.lt_of_le_of_lt hI.v.2.1 (by decide)) hk4 c_1
    refine lv_aload_n F.1 F.2.1 dX6_lookForBan_15 rfl (lv_at hl 2 rfl) ?_
    refine gf_X6_19 F w (hM.a0 ⟨by decide, rfl, rfl⟩) rfl dX6_lookForBan_16 ?_
    refine lv_iload_n F.1 F.2.1 dX6_lookForBan_19 rfl (lv_at hl 0 rfl) ?_
    refine q_sVq (rest := []) F w kV_X6_224 hd_Jx4a65c_get_915e3 (ci := 0) rfl (c_get l D cy A _ hM.l3 (show k4 < gnV G by omega) (show gnV G ≤ 600 by have := hI.v.2.1; omega)) hM.l3.1 dX6_lookForBan_20 rfl rfl hl.1 ⟨rfl, rfl, Nat.le_of_ble_eq_true rfl, Nat.le_of_ble_eq_true rfl⟩ (Nat.le_of_ble_eq_true rfl) ⟨Nat.zero_le _, Nat.zero_le _⟩ ?_
    refine q_cast F w wL_X6_179 (ci := 6) rfl (hM.a10 (hI.o10 (show k4 < gnV G by omega))) dX6_lookForBan_23 ?_
    refine lv_astore (lv' := [(4, .ref (AD 10 k4 0)), (3, .int (nI k4)), (2, .int (L_X6_lookForBan_4_2 G i1 k4)), (0, .ref (AD 0 0 0)), (1, .ref (AD 6 i1 0))]) F.1 F.2.1 dX6_lookForBan_26 hl (by decide) rfl (fun ls hl => ?_)
    refine lv_aload_n F.1 F.2.1 dX6_lookForBan_28 rfl (lv_at hl 3 rfl) ?_
    refine lv_aload F.1 F.2.1 dX6_lookForBan_29 (lv_at hl 0 rfl) ?_
    refine lv_aload_n F.1 F.2.1 dX6_lookForBan_31 rfl (lv_at hl 4 rfl) ?_
    refine q_rV (rest := []) F w kV_X6_401 hd_X6_isCounted (ci := 7) rfl (c_X6_isCounted l D cy A _ AD G hM hI k4 i1 (show k4 < gnV G by omega) (show i1 < gnS G by omega)) (hM.a0 ⟨by decide, rfl, rfl⟩) dX6_lookForBan_32 rfl rfl hl.1 ⟨rfl, rfl, Nat.le_of_ble_eq_true rfl, Nat.le_of_ble_eq_true rfl⟩ (Nat.le_of_ble_eq_true rfl) ⟨Nat.zero_le _, Nat.zero_le _⟩ ?_
    refine jnl (m := m) 5 [(4, .ref (AD 10 k4 0)), (3, .int (nI k4)), (2, .int (if f_X6_isCounted G k4 i1 = 0 then L_X6_lookForBan_4_2 G i1 k4 else (if G 42 k4 = 0 then (L_X6_lookForBan_4_2 G i1 k4) + 1 else L_X6_lookForBan_4_2 G i1 k4))), (0, .ref (AD 0 0 0)), (1, .ref (AD 6 i1 0))] [] 49 (fun J_2 => ?_) ?_
    · refine lv_if_eq (tgt := 49) F.1 F.2.1 dX6_lookForBan_35 (by decide) (fun c_3 => ?_) (fun c_3 => ?_)
      · exact J_2 ls (lv_sub hl [0, 1, 2, 3, 4] (by rw [((if_pos c_3) : (if f_X6_isCounted G k4 i1 = 0 then L_X6_lookForBan_4_2 G i1 k4 else (if G 42 k4 = 0 then (L_X6_lookForBan_4_2 G i1 k4) + 1 else L_X6_lookForBan_4_2 G i1 k4)) = L_X6_lookForBan_4_2 G i1 k4)] <;> rfl))
      · refine lv_aload F.1 F.2.1 dX6_lookForBan_38 (lv_at hl 0 rfl) ?_
        refine gf_X6_405 F w (hM.a10 (hI.o10 (show k4 < gnV G by omega))) rfl dX6_lookForBan_40 ?_
        refine lv_if_ne (tgt := 49) F.1 F.2.1 dX6_lookForBan_43 (by decide) (fun c_4 => ?_) (fun c_4 => ?_)
        · exact J_2 ls (lv_sub hl [0, 1, 2, 3, 4] (by rw [(((if_neg c_3).trans (if_neg c_4)) : (if f_X6_isCounted G k4 i1 = 0 then L_X6_lookForBan_4_2 G i1 k4 else (if G 42 k4 = 0 then (L_X6_lookForBan_4_2 G i1 k4) + 1 else L_X6_lookForBan_4_2 G i1 k4)) = L_X6_lookForBan_4_2 G i1 k4)] <;> rfl))
        · refine lv_iinc (v := (L_X6_lookForBan_4_2 G i1 k4) + 1) (lv' := [(2, .int ((L_X6_lookForBan_4_2 G i1 k4) + 1)), (4, .ref (AD 10 k4 0)), (3, .int (nI k4)), (0, .ref (AD 0 0 0)), (1, .ref (AD 6 i1 0))]) F.1 F.2.1 dX6_lookForBan_46 hl (k := 2) rfl rfl (by decide) rfl (fun ls hl => ?_)
          exact J_2 ls (lv_sub hl [1, 2, 0, 3, 4] (by rw [(((if_neg c_3).trans (if_pos c_4)) : (if f_X6_isCounted G k4 i1 = 0 then L_X6_lookForBan_4_2 G i1 k4 else (if G 42 k4 = 0 then (L_X6_lookForBan_4_2 G i1 k4) + 1 else L_X6_lookForBan_4_2 G i1 k4)) = (L_X6_lookForBan_4_2 G i1 k4) + 1)] <;> rfl))
    intro ls hl
    refine lv_iinc (v := nI (k4 + 1)) (lv' := [(3, .int (nI (k4 + 1))), (4, .ref (AD 10 k4 0)), (2, .int (if f_X6_isCounted G k4 i1 = 0 then L_X6_lookForBan_4_2 G i1 k4 else (if G 42 k4 = 0 then (L_X6_lookForBan_4_2 G i1 k4) + 1 else L_X6_lookForBan_4_2 G i1 k4))), (0, .ref (AD 0 0 0)), (1, .ref (AD 6 i1 0))]) F.1 F.2.1 dX6_lookForBan_49 hl (k := 1) rfl (nI_1 _) (by decide) rfl (fun ls hl => ?_)
    refine lv_goto (tgt := 4) F.1 F.2.1 dX6_lookForBan_52 (by decide) ?_
    exact ih4 ls hlt4 (lv_sub hl [0, 2, 3, 4] rfl)
  have hkn4 : k4 = (gnV G) := GB_ile rfl (Nat.lt_of_le_of_lt hI.v.2.1 (by decide)) hk4 c_1
  subst hkn4
  refine lv_iload_n F.1 F.2.1 dX6_lookForBan_55 rfl (lv_at hl 1 rfl) ?_
  refine lv_iconst (v := 3) F.1 F.2.1 dX6_lookForBan_56 (by decide) ?_
  refine lv_icmp_ge (tgt := 61) F.1 F.2.1 dX6_lookForBan_57 (by decide) (fun c_5 => ?_) (fun c_5 => ?_)
  · refine lv_aload_n F.1 F.2.1 dX6_lookForBan_61 rfl (lv_at hl 3 rfl) ?_
    refine lv_iconst (v := 1) F.1 F.2.1 dX6_lookForBan_62 (by decide) ?_
    refine cp_X6_269 F w hM (hI.o6 (show i1 < gnS G by omega)) nz1 dX6_lookForBan_63 (fun H locs μ w hM => ?_)
    have hM : RepC cy AD (g_X6_lookForBan_2 G i1) μ := hM
    refine lv_iconst (v := 0) F.1 F.2.1 dX6_lookForBan_66 (by decide) ?_
    refine lv_istore_n (lv' := [(3, .int 0), (2, .int (L_X6_lookForBan_4_2 G i1 (gnV G))), (0, .ref (AD 0 0 0)), (1, .ref (AD 6 i1 0))]) F.1 F.2.1 dX6_lookForBan_67 rfl hl (by decide) rfl (fun ls hl => ?_)
    refine q_loopW (P := fun k68 μ H locs ls => WW D cy A μ s H locs ∧ RepC cy AD (LG_X6_lookForBan_68 G i1 k68) μ ∧ lv_has ls 5 [(3, .int (nI k68)), (2, .int (L_X6_lookForBan_4_2 G i1 (gnV G))), (0, .ref (AD 0 0 0)), (1, .ref (AD 6 i1 0))]) (gnV G) (fun k68 μ H locs ls hk68 hl9 ih68 => ?_) 0 _ _ _ ls (Nat.zero_le _) ⟨w, hM, lv_cg (lv_sub hl [0, 1, 2, 3] rfl) rfl⟩
    obtain ⟨w, hM, hl⟩ := hl9
    refine lv_iload_n F.1 F.2.1 dX6_lookForBan_68 rfl (lv_at hl 0 rfl) ?_
    refine lv_aload_n F.1 F.2.1 dX6_lookForBan_69 rfl (lv_at hl 2 rfl) ?_
    refine gf_X6_19 F w (hM.a0 ⟨by decide, rfl, rfl⟩) rfl dX6_lookForBan_70 ?_
    refine q_rV (rest := [.int (nI k68)]) F w kV_X6_58 hd_Jx4a65c_size_8abf5 (ci := 0) rfl (c_size l D cy A _ hM.l3.1) hM.l3.1 dX6_lookForBan_73 rfl rfl hl.1 ⟨rfl, rfl, Nat.le_of_ble_eq_true rfl, Nat.le_of_ble_eq_true rfl⟩ (Nat.le_of_ble_eq_true rfl) ⟨Nat.zero_le _, Nat.zero_le _⟩ ?_
    refine lv_icmp_ge (tgt := 114) F.1 F.2.1 dX6_lookForBan_76 (by decide) (fun c_6 => ?_) (fun c_6 => ?_)
    rotate_left
    · have hlt68 : k68 < (gnV G) := GB_ilt (congrArg nI (LFB_V G i1 k68)) (Nat.lt_of_le_of_lt hI0.v.2.1 (by decide)) hk68 c_6
      have hI := LFB_I i1 hI0 k68
      have hV9 := LFB_V G i1 k68
      have hS9 := LFB_S G i1 k68
      refine lv_aload_n F.1 F.2.1 dX6_lookForBan_79 rfl (lv_at hl 2 rfl) ?_
      refine gf_X6_19 F w (hM.a0 ⟨by decide, rfl, rfl⟩) rfl dX6_lookForBan_80 ?_
      refine lv_iload_n F.1 F.2.1 dX6_lookForBan_83 rfl (lv_at hl 0 rfl) ?_
      refine q_sVq (rest := []) F w kV_X6_224 hd_Jx4a65c_get_915e3 (ci := 0) rfl (c_get l D cy A _ hM.l3 (show k68 < gnV (LG_X6_lookForBan_68 G i1 k68) by omega) (show gnV (LG_X6_lookForBan_68 G i1 k68) ≤ 600 by have := hI.v.2.1; omega)) hM.l3.1 dX6_lookForBan_84 rfl rfl hl.1 ⟨rfl, rfl, Nat.le_of_ble_eq_true rfl, Nat.le_of_ble_eq_true rfl⟩ (Nat.le_of_ble_eq_true rfl) ⟨Nat.zero_le _, Nat.zero_le _⟩ ?_
      refine q_cast F w wL_X6_179 (ci := 6) rfl (hM.a10 (hI.o10 (show k68 < gnV (LG_X6_lookForBan_68 G i1 k68) by omega))) dX6_lookForBan_87 ?_
      refine lv_astore (lv' := [(4, .ref (AD 10 k68 0)), (3, .int (nI k68)), (2, .int (L_X6_lookForBan_4_2 G i1 (gnV G))), (0, .ref (AD 0 0 0)), (1, .ref (AD 6 i1 0))]) F.1 F.2.1 dX6_lookForBan_90 hl (by decide) rfl (fun ls hl => ?_)
      refine lv_aload_n F.1 F.2.1 dX6_lookForBan_92 rfl (lv_at hl 3 rfl) ?_
      refine lv_aload F.1 F.2.1 dX6_lookForBan_93 (lv_at hl 0 rfl) ?_
      refine lv_aload_n F.1 F.2.1 dX6_lookForBan_95 rfl (lv_at hl 4 rfl) ?_
      refine q_rV (rest := []) F w kV_X6_401 hd_X6_isCounted (ci := 7) rfl (c_X6_isCounted l D cy A _ AD (LG_X6_lookForBan_68 G i1 k68) hM hI k68 i1 (show k68 < gnV (LG_X6_lookForBan_68 G i1 k68) by omega) (show i1 < gnS (LG_X6_lookForBan_68 G i1 k68) by omega)) (hM.a0 ⟨by decide, rfl, rfl⟩) dX6_lookForBan_96 rfl rfl hl.1 ⟨rfl, rfl, Nat.le_of_ble_eq_true rfl, Nat.le_of_ble_eq_true rfl⟩ (Nat.le_of_ble_eq_true rfl) ⟨Nat.zero_le _, Nat.zero_le _⟩ ?_
      refine lv_if_eq (tgt := 108) F.1 F.2.1 dX6_lookForBan_99 (by decide) (fun c_7 => ?_) (fun c_7 => ?_)
      · refine lv_iinc (v := nI (k68 + 1)) (lv' := [(3, .int (nI (k68 + 1))), (4, .ref (AD 10 k68 0)), (2, .int (L_X6_lookForBan_4_2 G i1 (gnV G))), (0, .ref (AD 0 0 0)), (1, .ref (AD 6 i1 0))]) F.1 F.2.1 dX6_lookForBan_108 hl (k := 1) rfl (nI_1 _) (by decide) rfl (fun ls hl => ?_)
        refine lv_goto (tgt := 68) F.1 F.2.1 dX6_lookForBan_111 (by decide) ?_
        exact ih68 _ _ _ ls hlt68 ⟨w, RepC.cg hM (if_pos c_7), lv_sub hl [0, 2, 3, 4] rfl⟩
      · refine lv_aload F.1 F.2.1 dX6_lookForBan_102 (lv_at hl 0 rfl) ?_
        refine lv_iconst (v := 1) F.1 F.2.1 dX6_lookForBan_104 (by decide) ?_
        refine cp_X6_405 F w hM (hI.o10 (show k68 < gnV (LG_X6_lookForBan_68 G i1 k68) by omega)) nz1 dX6_lookForBan_105 (fun H locs μ w hM => ?_)
        refine lv_iinc (v := nI (k68 + 1)) (lv' := [(3, .int (nI (k68 + 1))), (4, .ref (AD 10 k68 0)), (2, .int (L_X6_lookForBan_4_2 G i1 (gnV G))), (0, .ref (AD 0 0 0)), (1, .ref (AD 6 i1 0))]) F.1 F.2.1 dX6_lookForBan_108 hl (k := 1) rfl (nI_1 _) (by decide) rfl (fun ls hl => ?_)
        refine lv_goto (tgt := 68) F.1 F.2.1 dX6_lookForBan_111 (by decide) ?_
        exact ih68 _ _ _ ls hlt68 ⟨w, RepC.cg hM (if_neg c_7), lv_sub hl [0, 2, 3, 4] rfl⟩
    have hkn68 : k68 = (gnV G) := GB_ile (congrArg nI (LFB_V G i1 k68)) (Nat.lt_of_le_of_lt hI0.v.2.1 (by decide)) hk68 c_6
    subst hkn68
    exact q_retV F hr hlk w (RepC.cg hM (if_pos c_5)) dX6_lookForBan_114
  · exact q_retV F hr hlk w (RepC.cg hM (if_neg c_5)) dX6_lookForBan_60
def v_X6_release_53 (G : GS) (i1 : Nat) : Int32 := 100 * ((G 1 0) - (G 38 ((G 13 i1).toNatClampNeg)))
def g_X6_release_1 (G : GS) (i1 : Nat) : GS := up2 G 17 i1 ((G 17 i1) + (v_X6_release_53 G i1))
theorem e_g_X6_release_1 (G : GS) (i1 : Nat) {j : Nat} (h : j ∉ [17]) : g_X6_release_1 G i1 j = G j := (up2_ne (fun q => h (by rw [q]; exact List.mem_cons_self))).trans rfl
def g_X6_release_2 (G : GS) (i1 : Nat) : GS := up2 (g_X6_release_1 G i1) 13 i1 (-1)
theorem e_g_X6_release_2 (G : GS) (i1 : Nat) {j : Nat} (h : j ∉ [13, 17]) : g_X6_release_2 G i1 j = G j := (up2_ne (fun q => h (by rw [q]; exact List.mem_cons_self))).trans (e_g_X6_release_1 G i1 (fun q => h (List.mem_cons_of_mem _ q)))
def x_X6_release (G : GS) (i1 : Nat) : Nat := if G 13 i1 = -1 then 2 else (if 0 < f_X5_openFindings G ((G 13 i1).toNatClampNeg) then 2 else (if f_X6_familiesNotGood G i1 = 0 then (if G 14 i1 = 0 then 0 else 0) else 2))
def f_X6_release (G : GS) (i1 : Nat) : Int32 := if G 13 i1 = -1 then 0 else (if 0 < f_X5_openFindings G ((G 13 i1).toNatClampNeg) then 0 else (if f_X6_familiesNotGood G i1 = 0 then (if G 14 i1 = 0 then v_X6_release_53 G i1 else v_X6_release_53 G i1) else 0))
def g_X6_release (G : GS) (i1 : Nat) : GS := if G 13 i1 = -1 then G else (if 0 < f_X5_openFindings G ((G 13 i1).toNatClampNeg) then G else (if f_X6_familiesNotGood G i1 = 0 then (if G 14 i1 = 0 then g_X6_release_2 G i1 else g_X6_ban (g_X6_release_2 G i1) i1) else G))
set_option maxHeartbeats 4000000 in
set_option maxRecDepth 100000 in
theorem c_X6_release (l : Launch) (D : va_G) (cy : Nat → ClassId) (A : Nat → Prop) (μ : MU) (AD : AM) (G : GS) (hM : RepC cy AD G μ) (hI : InvC G) (i1 : Nat) (hi1 : i1 < gnS G) (hlf : l.stackTraces = false) : vx_Met l yX6_release (WS yX6_release cX6_release 5 (Option.some Jvm.ClassFile.FieldType.int)) { frames := 6, cells := 1, slots := 6, locals := 100 } (va_Pc [.ref (AD 0 0 0), .int (nI i1)] (Wd D cy A μ)) (va_Qi (fun (r9 : Int32) (μ1 : MU) => x_X6_release G i1 = 0 ∧ r9 = f_X6_release G i1 ∧ ∃ AD1 : AM, AD1 0 = AD 0 ∧ RepC cy AD1 (g_X6_release G i1) μ1) (fun μ1 t => Wd D cy A μ1 t) A) (XC9 D A μ (xnm (x_X6_release G i1))) 1 6 A := by
  refine q_metx (by decide) (Nat.le_of_ble_eq_true rfl) ?_
  intro p e s m below meth c F w hr hlk ht ls hl
  have F : CallFix p m c cX6_release 5 s _ BIG RX6 := F
  have hl : lv_has ls 5 [(0, .ref (AD 0 0 0)), (1, .int (nI i1))] := hl
  refine lv_aload_n F.1 F.2.1 dX6_release_0 rfl (lv_at hl 0 rfl) ?_
  refine lv_iload_n F.1 F.2.1 dX6_release_1 rfl (lv_at hl 1 rfl) ?_
  refine q_sVq (rest := []) F w kV_X6_82 hd_X6_shipNumbered (ci := 7) rfl (c_X6_shipNumbered l D cy A _ AD G hM hI i1 (show i1 < gnS G by omega)) (hM.a0 ⟨by decide, rfl, rfl⟩) dX6_release_2 rfl rfl hl.1 ⟨rfl, rfl, Nat.le_of_ble_eq_true rfl, Nat.le_of_ble_eq_true rfl⟩ (Nat.le_of_ble_eq_true rfl) ⟨Nat.zero_le _, Nat.zero_le _⟩ ?_
  refine lv_astore_n (lv' := [(2, .ref (AD 6 i1 0)), (0, .ref (AD 0 0 0)), (1, .int (nI i1))]) F.1 F.2.1 dX6_release_5 rfl hl (by decide) rfl (fun ls hl => ?_)
  refine lv_aload_n F.1 F.2.1 dX6_release_6 rfl (lv_at hl 0 rfl) ?_
  refine gf_X6_168 F w (hM.a6 (hI.o6 (show i1 < gnS G by omega))) rfl dX6_release_7 ?_
  refine q_astore_n F (lv' := [(3, va_rf (xr AD (G 13 i1))), (2, .ref (AD 6 i1 0)), (0, .ref (AD 0 0 0)), (1, .int (nI i1))]) dX6_release_10 rfl hl (by decide) rfl (fun ls hl => ?_)
  refine q_aload_n F dX6_release_11 rfl (lv_at hl 0 rfl) ?_
  refine q_ifnull (P := G 13 i1 = -1) (hn := fun h => if_pos h) (hs := fun h => ⟨_, if_neg h⟩) (tgt := 30) F.1 F.2.1 dX6_release_12 (by decide) (fun c_1 => ?_) (fun c_1 => ?_)
  · exact q_thW (k9 := 25) F w hlf th9_2 rfl hl.1 (congrArg xnm (if_pos c_1)).symm ht hlk dX6_release_30 dX6_release_33 dX6_release_34 dX6_release_37 dX6_release_40 (Nat.le_of_ble_eq_true rfl) (Nat.le_of_ble_eq_true rfl) (Nat.le_of_ble_eq_true rfl) (Nat.le_of_ble_eq_true rfl) (Nat.le_of_ble_eq_true rfl) (Nat.le_of_ble_eq_true rfl)
  · refine q_aload_n F dX6_release_15 rfl (lv_at hl 0 rfl) ?_
    refine lv_rf ((if_neg c_1 : xr AD (G 13 i1) = some (AD 10 (G 13 i1).toNatClampNeg 0))) ?_
    rw [show xr AD (G 13 i1) = some (AD 10 (G 13 i1).toNatClampNeg 0) from (if_neg c_1 : xr AD (G 13 i1) = some (AD 10 (G 13 i1).toNatClampNeg 0))] at hl
    have hl : lv_has ls 5 [(3, .ref (AD 10 (G 13 i1).toNatClampNeg 0)), (2, .ref (AD 6 i1 0)), (0, .ref (AD 0 0 0)), (1, .int (nI i1))] := hl
    refine q_rV (rest := []) F w kV_X6_242 hd_X5_openFindings (ci := 6) rfl (c_X5_openFindings l D cy A _ AD G hM hI ((G 13 i1).toNatClampNeg) (hI.re 13 (by decide) (show i1 < gnS G by omega) c_1).2) (hM.a10 (hI.o10 (hI.re 13 (by decide) (show i1 < gnS G by omega) c_1).2)) dX6_release_16 rfl rfl hl.1 ⟨rfl, rfl, Nat.le_of_ble_eq_true rfl, Nat.le_of_ble_eq_true rfl⟩ (Nat.le_of_ble_eq_true rfl) ⟨Nat.zero_le _, Nat.zero_le _⟩ ?_
    refine lv_if_gt (tgt := 30) F.1 F.2.1 dX6_release_19 (by decide) (fun c_2 => ?_) (fun c_2 => ?_)
    · exact q_thW (k9 := 25) F w hlf th9_2 rfl hl.1 (congrArg xnm ((if_neg c_1).trans (if_pos c_2))).symm ht hlk dX6_release_30 dX6_release_33 dX6_release_34 dX6_release_37 dX6_release_40 (Nat.le_of_ble_eq_true rfl) (Nat.le_of_ble_eq_true rfl) (Nat.le_of_ble_eq_true rfl) (Nat.le_of_ble_eq_true rfl) (Nat.le_of_ble_eq_true rfl) (Nat.le_of_ble_eq_true rfl)
    · refine lv_aload_n F.1 F.2.1 dX6_release_22 rfl (lv_at hl 2 rfl) ?_
      refine lv_aload_n F.1 F.2.1 dX6_release_23 rfl (lv_at hl 1 rfl) ?_
      refine q_rV (rest := []) F w kV_X6_120 hd_X6_familiesNotGood (ci := 7) rfl (c_X6_familiesNotGood l D cy A _ AD G hM hI i1 (show i1 < gnS G by omega)) (hM.a0 ⟨by decide, rfl, rfl⟩) dX6_release_24 rfl rfl hl.1 ⟨rfl, rfl, Nat.le_of_ble_eq_true rfl, Nat.le_of_ble_eq_true rfl⟩ (Nat.le_of_ble_eq_true rfl) ⟨Nat.zero_le _, Nat.zero_le _⟩ ?_
      refine lv_if_eq (tgt := 41) F.1 F.2.1 dX6_release_27 (by decide) (fun c_3 => ?_) (fun c_3 => ?_)
      · refine lv_bipush (v := 100) F.1 F.2.1 dX6_release_41 (by decide) ?_
        refine lv_aload_n F.1 F.2.1 dX6_release_43 rfl (lv_at hl 2 rfl) ?_
        refine gf_X6_30 F w (hM.a0 ⟨by decide, rfl, rfl⟩) rfl dX6_release_44 ?_
        refine lv_aload_n F.1 F.2.1 dX6_release_47 rfl (lv_at hl 0 rfl) ?_
        refine gf_X6_254 F w (hM.a10 (hI.o10 (hI.re 13 (by decide) (show i1 < gnS G by omega) c_1).2)) rfl dX6_release_48 ?_
        refine lv_isub F.1 F.2.1 dX6_release_51 ?_
        refine lv_imul F.1 F.2.1 dX6_release_52 ?_
        refine lv_fold (y := v_X6_release_53 G i1) rfl ?_
        refine lv_istore (lv' := [(4, .int (v_X6_release_53 G i1)), (3, .ref (AD 10 (G 13 i1).toNatClampNeg 0)), (2, .ref (AD 6 i1 0)), (0, .ref (AD 0 0 0)), (1, .int (nI i1))]) F.1 F.2.1 dX6_release_53 hl (by decide) rfl (fun ls hl => ?_)
        refine lv_aload_n F.1 F.2.1 dX6_release_55 rfl (lv_at hl 2 rfl) ?_
        refine lv_dup F.1 F.2.1 dX6_release_56 rfl ?_
        refine gf_X6_266 F w (hM.a6 (hI.o6 (show i1 < gnS G by omega))) rfl dX6_release_57 ?_
        refine lv_iload F.1 F.2.1 dX6_release_60 (lv_at hl 0 rfl) ?_
        refine lv_iadd F.1 F.2.1 dX6_release_62 ?_
        refine cp_X6_266 F w hM (hI.o6 (show i1 < gnS G by omega)) dX6_release_63 (fun H locs μ w hM => ?_)
        have hM : RepC cy AD (g_X6_release_1 G i1) μ := hM
        refine lv_aload_n F.1 F.2.1 dX6_release_66 rfl (lv_at hl 2 rfl) ?_
        refine lv_null F.1 F.2.1 dX6_release_67 ?_
        refine cp_X6_168 (v := -1) F w hM (ok_fr (by decide) (hI.o6 (show i1 < gnS G by omega))) dX6_release_68 (fun H locs μ w hM => ?_)
        have hM : RepC cy AD (g_X6_release_2 G i1) μ := hM
        refine lv_aload_n F.1 F.2.1 dX6_release_71 rfl (lv_at hl 2 rfl) ?_
        refine gf_X6_269 F w (hM.a6 (ok_fr (by decide) (ok_fr (by decide) (hI.o6 (show i1 < gnS G by omega))))) rfl dX6_release_72 ?_
        refine lv_fold (y := G 14 i1) (congrFun (e_g_X6_release_2 G i1 (by decide)) i1) ?_
        refine lv_if_eq (tgt := 83) F.1 F.2.1 dX6_release_75 (by decide) (fun c_4 => ?_) (fun c_4 => ?_)
        · refine lv_iload F.1 F.2.1 dX6_release_83 (lv_at hl 0 rfl) ?_
          refine vx_ret ?_
          refine W.widen (k := 1) (n := 6) (Nat.le_of_ble_eq_true rfl) (Nat.le_of_ble_eq_true rfl) ?_
          exact q_retI (S := Unit) F hr hlk w ⟨((if_neg c_1).trans ((if_neg c_2).trans ((if_pos c_3).trans (if_pos c_4)))), ((if_neg c_1).trans ((if_neg c_2).trans ((if_pos c_3).trans (if_pos c_4)))).symm, ⟨AD, rfl, RepC.cg hM ((if_neg c_1).trans ((if_neg c_2).trans ((if_pos c_3).trans (if_pos c_4))))⟩⟩ dX6_release_85
        · refine lv_aload_n F.1 F.2.1 dX6_release_78 rfl (lv_at hl 3 rfl) ?_
          refine lv_aload_n F.1 F.2.1 dX6_release_79 rfl (lv_at hl 2 rfl) ?_
          refine q_mVv (rest := []) F w kV_X6_272 hd_X6_ban (ci := 7) rfl (c_X6_ban l D cy A _ AD (g_X6_release_2 G i1) hM (InvC.wn (f := 13) (s := i1) (InvC.fr hI 17 i1 ((G 17 i1) + (v_X6_release_53 G i1)) rfl) (by decide)) i1 (show i1 < gnS G by omega)) (hM.a0 (ok_fr (by decide) (ok_fr (by decide) ⟨by decide, rfl, rfl⟩))) dX6_release_80 rfl rfl hl.1 ⟨rfl, rfl, Nat.le_of_ble_eq_true rfl, Nat.le_of_ble_eq_true rfl⟩ (Nat.le_of_ble_eq_true rfl) ⟨Nat.le_of_ble_eq_true rfl, Nat.le_of_ble_eq_true rfl⟩ (fun μ H locs hM w => ?_)
          refine lv_iload F.1 F.2.1 dX6_release_83 (lv_at hl 0 rfl) ?_
          refine vx_ret ?_
          refine W.widen (k := 1) (n := 6) (Nat.le_of_ble_eq_true rfl) (Nat.le_of_ble_eq_true rfl) ?_
          exact q_retI (S := Unit) F hr hlk w ⟨((if_neg c_1).trans ((if_neg c_2).trans ((if_pos c_3).trans (if_neg c_4)))), ((if_neg c_1).trans ((if_neg c_2).trans ((if_pos c_3).trans (if_neg c_4)))).symm, ⟨AD, rfl, RepC.cg hM ((if_neg c_1).trans ((if_neg c_2).trans ((if_pos c_3).trans (if_neg c_4))))⟩⟩ dX6_release_85
      · exact q_thW (k9 := 25) F w hlf th9_2 rfl hl.1 (congrArg xnm ((if_neg c_1).trans ((if_neg c_2).trans (if_neg c_3)))).symm ht hlk dX6_release_30 dX6_release_33 dX6_release_34 dX6_release_37 dX6_release_40 (Nat.le_of_ble_eq_true rfl) (Nat.le_of_ble_eq_true rfl) (Nat.le_of_ble_eq_true rfl) (Nat.le_of_ble_eq_true rfl) (Nat.le_of_ble_eq_true rfl) (Nat.le_of_ble_eq_true rfl)
set_option maxHeartbeats 4000000 in
set_option maxRecDepth 100000 in
theorem c_X6_release_b (l : Launch) (D : va_G) (cy : Nat → ClassId) (A : Nat → Prop) (μ : MU) (AD : AM) (G : GS) (hM : RepC cy AD G μ) (hI : InvC G) (x1 : Int32) (hb : f_X6_isIndex x1 (nI (gnS G)) = 0) (hlf : l.stackTraces = false) : vx_Met l yX6_release (WS yX6_release cX6_release 5 (Option.some Jvm.ClassFile.FieldType.int)) { frames := 7, cells := 1, slots := 6, locals := 121 } (va_Pc [.ref (AD 0 0 0), .int x1] (Wd D cy A μ)) (fun _ _ _ _ => False) (XC9 D A μ (xnm 3)) 1 6 A := by
  refine q_metx (by decide) (Nat.le_of_ble_eq_true rfl) ?_
  intro p e s m below meth c F w hr hlk ht ls hl
  have F : CallFix p m c cX6_release 5 s _ BIG RX6 := F
  have hl : lv_has ls 5 [(0, .ref (AD 0 0 0)), (1, .int x1)] := hl
  refine lv_aload_n F.1 F.2.1 dX6_release_0 rfl (lv_at hl 0 rfl) ?_
  refine lv_iload_n F.1 F.2.1 dX6_release_1 rfl (lv_at hl 1 rfl) ?_
  exact q_xV (rest := []) F w rfl ht hlk kV_X6_82 hd_X6_shipNumbered (ci := 7) rfl (c_X6_shipNumbered_b l D cy A _ AD G hM hI x1 hb hlf) (hM.a0 ⟨by decide, rfl, rfl⟩) dX6_release_2 rfl rfl hl.1 ⟨rfl, rfl, Nat.le_of_ble_eq_true rfl, Nat.le_of_ble_eq_true rfl⟩ (Nat.le_of_ble_eq_true rfl) ⟨Nat.le_of_ble_eq_true rfl, Nat.le_of_ble_eq_true rfl⟩ (Nat.le_of_ble_eq_true rfl) (Nat.le_of_ble_eq_true rfl)
def v_J6_bitCount_0f7a4_9 (x1 : Int32) : Int32 := x1 - (((x1.toUInt32 >>> ((1 : Int32).toUInt32 &&& Int32.toUInt32 31)).toInt32) &&& 1431655765)
def v_J6_bitCount_0f7a4_23 (x1 : Int32) : Int32 := ((v_J6_bitCount_0f7a4_9 x1) &&& 858993459) + ((((v_J6_bitCount_0f7a4_9 x1).toUInt32 >>> ((2 : Int32).toUInt32 &&& Int32.toUInt32 31)).toInt32) &&& 858993459)
def v_J6_bitCount_0f7a4_33 (x1 : Int32) : Int32 := ((v_J6_bitCount_0f7a4_23 x1) + (((v_J6_bitCount_0f7a4_23 x1).toUInt32 >>> ((4 : Int32).toUInt32 &&& Int32.toUInt32 31)).toInt32)) &&& 252645135
def v_J6_bitCount_0f7a4_40 (x1 : Int32) : Int32 := (v_J6_bitCount_0f7a4_33 x1) + (((v_J6_bitCount_0f7a4_33 x1).toUInt32 >>> ((8 : Int32).toUInt32 &&& Int32.toUInt32 31)).toInt32)
def v_J6_bitCount_0f7a4_47 (x1 : Int32) : Int32 := (v_J6_bitCount_0f7a4_40 x1) + (((v_J6_bitCount_0f7a4_40 x1).toUInt32 >>> ((16 : Int32).toUInt32 &&& Int32.toUInt32 31)).toInt32)
def f_J6_bitCount_0f7a4 (x1 : Int32) : Int32 := (v_J6_bitCount_0f7a4_47 x1) &&& 63
set_option maxHeartbeats 4000000 in
set_option maxRecDepth 100000 in
theorem c_J6_bitCount_0f7a4 (l : Launch) (D : va_G) (cy : Nat → ClassId) (A : Nat → Prop) (μ : MU) (x1 : Int32) : Met l yJ6_bitCount_0f7a4 (WS yJ6_bitCount_0f7a4 cJ6_bitCount_0f7a4 1 (Option.some Jvm.ClassFile.FieldType.int)) { frames := 0, cells := 0, slots := 0, locals := 0 } (va_Pc [.int x1] (Wd D cy A μ)) (QcRead (f_J6_bitCount_0f7a4 x1)) 0 0 (fun _ => False) := by
  refine q_met (by decide) (Nat.le_of_ble_eq_true rfl) ?_
  intro p e s m below meth c F w hr hlk hnm ls hl
  have F : CallFix p m c cJ6_bitCount_0f7a4 1 s _ BIG RJ6 := F
  have hl : lv_has ls 1 [(0, .int x1)] := hl
  refine lv_iload_n F.1 F.2.1 dJ6_bitCount_0f7a4_0 rfl (lv_at hl 0 rfl) ?_
  refine lv_iload_n F.1 F.2.1 dJ6_bitCount_0f7a4_1 rfl (lv_at hl 0 rfl) ?_
  refine lv_iconst (v := 1) F.1 F.2.1 dJ6_bitCount_0f7a4_2 (by decide) ?_
  refine lv_iushr (v := (x1.toUInt32 >>> ((1 : Int32).toUInt32 &&& Int32.toUInt32 31)).toInt32) F.1 F.2.1 dJ6_bitCount_0f7a4_3 rfl ?_
  refine lv_ldcw F.1 F.2.1 F.2.2.2.1 (F.2.2.2.2 _ wK_J6_265) dJ6_bitCount_0f7a4_4 ?_
  refine lv_iand F.1 F.2.1 dJ6_bitCount_0f7a4_7 ?_
  refine lv_isub F.1 F.2.1 dJ6_bitCount_0f7a4_8 ?_
  refine lv_fold (y := v_J6_bitCount_0f7a4_9 x1) rfl ?_
  refine lv_istore_n (lv' := [(0, .int (v_J6_bitCount_0f7a4_9 x1))]) F.1 F.2.1 dJ6_bitCount_0f7a4_9 rfl hl (by decide) rfl (fun ls hl => ?_)
  refine lv_iload_n F.1 F.2.1 dJ6_bitCount_0f7a4_10 rfl (lv_at hl 0 rfl) ?_
  refine lv_ldcw F.1 F.2.1 F.2.2.2.1 (F.2.2.2.2 _ wK_J6_266) dJ6_bitCount_0f7a4_11 ?_
  refine lv_iand F.1 F.2.1 dJ6_bitCount_0f7a4_14 ?_
  refine lv_iload_n F.1 F.2.1 dJ6_bitCount_0f7a4_15 rfl (lv_at hl 0 rfl) ?_
  refine lv_iconst (v := 2) F.1 F.2.1 dJ6_bitCount_0f7a4_16 (by decide) ?_
  refine lv_iushr (v := ((v_J6_bitCount_0f7a4_9 x1).toUInt32 >>> ((2 : Int32).toUInt32 &&& Int32.toUInt32 31)).toInt32) F.1 F.2.1 dJ6_bitCount_0f7a4_17 rfl ?_
  refine lv_ldcw F.1 F.2.1 F.2.2.2.1 (F.2.2.2.2 _ wK_J6_266) dJ6_bitCount_0f7a4_18 ?_
  refine lv_iand F.1 F.2.1 dJ6_bitCount_0f7a4_21 ?_
  refine lv_iadd F.1 F.2.1 dJ6_bitCount_0f7a4_22 ?_
  refine lv_fold (y := v_J6_bitCount_0f7a4_23 x1) rfl ?_
  refine lv_istore_n (lv' := [(0, .int (v_J6_bitCount_0f7a4_23 x1))]) F.1 F.2.1 dJ6_bitCount_0f7a4_23 rfl hl (by decide) rfl (fun ls hl => ?_)
  refine lv_iload_n F.1 F.2.1 dJ6_bitCount_0f7a4_24 rfl (lv_at hl 0 rfl) ?_
  refine lv_iload_n F.1 F.2.1 dJ6_bitCount_0f7a4_25 rfl (lv_at hl 0 rfl) ?_
  refine lv_iconst (v := 4) F.1 F.2.1 dJ6_bitCount_0f7a4_26 (by decide) ?_
  refine lv_iushr (v := ((v_J6_bitCount_0f7a4_23 x1).toUInt32 >>> ((4 : Int32).toUInt32 &&& Int32.toUInt32 31)).toInt32) F.1 F.2.1 dJ6_bitCount_0f7a4_27 rfl ?_
  refine lv_iadd F.1 F.2.1 dJ6_bitCount_0f7a4_28 ?_
  refine lv_ldcw F.1 F.2.1 F.2.2.2.1 (F.2.2.2.2 _ wK_J6_267) dJ6_bitCount_0f7a4_29 ?_
  refine lv_iand F.1 F.2.1 dJ6_bitCount_0f7a4_32 ?_
  refine lv_fold (y := v_J6_bitCount_0f7a4_33 x1) rfl ?_
  refine lv_istore_n (lv' := [(0, .int (v_J6_bitCount_0f7a4_33 x1))]) F.1 F.2.1 dJ6_bitCount_0f7a4_33 rfl hl (by decide) rfl (fun ls hl => ?_)
  refine lv_iload_n F.1 F.2.1 dJ6_bitCount_0f7a4_34 rfl (lv_at hl 0 rfl) ?_
  refine lv_iload_n F.1 F.2.1 dJ6_bitCount_0f7a4_35 rfl (lv_at hl 0 rfl) ?_
  refine lv_bipush (v := 8) F.1 F.2.1 dJ6_bitCount_0f7a4_36 (by decide) ?_
  refine lv_iushr (v := ((v_J6_bitCount_0f7a4_33 x1).toUInt32 >>> ((8 : Int32).toUInt32 &&& Int32.toUInt32 31)).toInt32) F.1 F.2.1 dJ6_bitCount_0f7a4_38 rfl ?_
  refine lv_iadd F.1 F.2.1 dJ6_bitCount_0f7a4_39 ?_
  refine lv_fold (y := v_J6_bitCount_0f7a4_40 x1) rfl ?_
  refine lv_istore_n (lv' := [(0, .int (v_J6_bitCount_0f7a4_40 x1))]) F.1 F.2.1 dJ6_bitCount_0f7a4_40 rfl hl (by decide) rfl (fun ls hl => ?_)
  refine lv_iload_n F.1 F.2.1 dJ6_bitCount_0f7a4_41 rfl (lv_at hl 0 rfl) ?_
  refine lv_iload_n F.1 F.2.1 dJ6_bitCount_0f7a4_42 rfl (lv_at hl 0 rfl) ?_
  refine lv_bipush (v := 16) F.1 F.2.1 dJ6_bitCount_0f7a4_43 (by decide) ?_
  refine lv_iushr (v := ((v_J6_bitCount_0f7a4_40 x1).toUInt32 >>> ((16 : Int32).toUInt32 &&& Int32.toUInt32 31)).toInt32) F.1 F.2.1 dJ6_bitCount_0f7a4_45 rfl ?_
  refine lv_iadd F.1 F.2.1 dJ6_bitCount_0f7a4_46 ?_
  refine lv_fold (y := v_J6_bitCount_0f7a4_47 x1) rfl ?_
  refine lv_istore_n (lv' := [(0, .int (v_J6_bitCount_0f7a4_47 x1))]) F.1 F.2.1 dJ6_bitCount_0f7a4_47 rfl hl (by decide) rfl (fun ls hl => ?_)
  refine lv_iload_n F.1 F.2.1 dJ6_bitCount_0f7a4_48 rfl (lv_at hl 0 rfl) ?_
  refine lv_bipush (v := 63) F.1 F.2.1 dJ6_bitCount_0f7a4_49 (by decide) ?_
  refine lv_iand F.1 F.2.1 dJ6_bitCount_0f7a4_51 ?_
  exact q_reti F hr hlk rfl dJ6_bitCount_0f7a4_52
def g_X6_endorse_1 (G : GS) (i1 : Nat) (i2 : Nat) : GS := up2 G 22 (5 * i1 + i2) ((G 22 (5 * i1 + i2)) ||| ((1 : Int32) <<< ((f_X0_anniversaryToEndorse G i1 i2 (G 1 0)) &&& 31)))
theorem e_g_X6_endorse_1 (G : GS) (i1 : Nat) (i2 : Nat) {j : Nat} (h : j ∉ [22]) : g_X6_endorse_1 G i1 i2 j = G j := (up2_ne (fun q => h (by rw [q]; exact List.mem_cons_self))).trans rfl
def x_X6_endorse (G : GS) (i1 : Nat) (i2 : Nat) : Nat := if G 18 (5 * i1 + i2) = 0 then 2 else (if f_X6_isIn (nI i2) (f_X6_familiesNotGood G i1) = 0 then (if f_X0_anniversaryToEndorse G i1 i2 (G 1 0) = (-1) then 2 else 0) else 2)
def f_X6_endorse (G : GS) (i1 : Nat) (i2 : Nat) : Int32 := if G 18 (5 * i1 + i2) = 0 then 0 else (if f_X6_isIn (nI i2) (f_X6_familiesNotGood G i1) = 0 then (if f_X0_anniversaryToEndorse G i1 i2 (G 1 0) = (-1) then 0 else f_J6_bitCount_0f7a4 ((G 22 (5 * i1 + i2)) ||| ((1 : Int32) <<< ((f_X0_anniversaryToEndorse G i1 i2 (G 1 0)) &&& 31)))) else 0)
def g_X6_endorse (G : GS) (i1 : Nat) (i2 : Nat) : GS := if G 18 (5 * i1 + i2) = 0 then G else (if f_X6_isIn (nI i2) (f_X6_familiesNotGood G i1) = 0 then (if f_X0_anniversaryToEndorse G i1 i2 (G 1 0) = (-1) then G else g_X6_endorse_1 G i1 i2) else G)
set_option maxHeartbeats 4000000 in
set_option maxRecDepth 100000 in
theorem c_X6_endorse (l : Launch) (D : va_G) (cy : Nat → ClassId) (A : Nat → Prop) (μ : MU) (AD : AM) (G : GS) (hM : RepC cy AD G μ) (hI : InvC G) (i1 : Nat) (i2 : Nat) (hi1 : i1 < gnS G) (hi2 : i2 < 5) (hlf : l.stackTraces = false) : vx_Met l yX6_endorse (WS yX6_endorse cX6_endorse 6 (Option.some Jvm.ClassFile.FieldType.int)) { frames := 6, cells := 1, slots := 6, locals := 100 } (va_Pc [.ref (AD 0 0 0), .int (nI i1), .int (nI i2)] (Wd D cy A μ)) (va_Qi (fun (r9 : Int32) (μ1 : MU) => x_X6_endorse G i1 i2 = 0 ∧ r9 = f_X6_endorse G i1 i2 ∧ ∃ AD1 : AM, AD1 0 = AD 0 ∧ RepC cy AD1 (g_X6_endorse G i1 i2) μ1) (fun μ1 t => Wd D cy A μ1 t) A) (XC9 D A μ (xnm (x_X6_endorse G i1 i2))) 1 6 A := by
  refine q_metx (by decide) (Nat.le_of_ble_eq_true rfl) ?_
  intro p e s m below meth c F w hr hlk ht ls hl
  have F : CallFix p m c cX6_endorse 6 s _ BIG RX6 := F
  have hl : lv_has ls 6 [(0, .ref (AD 0 0 0)), (1, .int (nI i1)), (2, .int (nI i2))] := hl
  refine lv_aload_n F.1 F.2.1 dX6_endorse_0 rfl (lv_at hl 0 rfl) ?_
  refine lv_iload_n F.1 F.2.1 dX6_endorse_1 rfl (lv_at hl 1 rfl) ?_
  refine q_sVq (rest := []) F w kV_X6_82 hd_X6_shipNumbered (ci := 7) rfl (c_X6_shipNumbered l D cy A _ AD G hM hI i1 (show i1 < gnS G by omega)) (hM.a0 ⟨by decide, rfl, rfl⟩) dX6_endorse_2 rfl rfl hl.1 ⟨rfl, rfl, Nat.le_of_ble_eq_true rfl, Nat.le_of_ble_eq_true rfl⟩ (Nat.le_of_ble_eq_true rfl) ⟨Nat.zero_le _, Nat.zero_le _⟩ ?_
  refine lv_astore_n (lv' := [(3, .ref (AD 6 i1 0)), (0, .ref (AD 0 0 0)), (1, .int (nI i1)), (2, .int (nI i2))]) F.1 F.2.1 dX6_endorse_5 rfl hl (by decide) rfl (fun ls hl => ?_)
  refine lv_iload_n F.1 F.2.1 dX6_endorse_6 rfl (lv_at hl 3 rfl) ?_
  refine lv_aload_n F.1 F.2.1 dX6_endorse_7 rfl (lv_at hl 0 rfl) ?_
  refine gf_X6_106 F w (hM.a6 (hI.o6 (show i1 < gnS G by omega))) rfl dX6_endorse_8 ?_
  refine q_alen F w 2 rfl (hM.1 7 i1 0 (hI.o7 (show i1 < gnS G by omega))) (v := 5) rfl dX6_endorse_11 ?_
  refine q_rS (rest := []) F w kS_X6_46 hd_X6_isIndex (c_X6_isIndex l D cy A _ (nI i2) 5) dX6_endorse_12 rfl rfl hl.1 ⟨rfl, rfl, Nat.le_of_ble_eq_true rfl, Nat.le_of_ble_eq_true rfl⟩ (Nat.le_of_ble_eq_true rfl) ⟨Nat.zero_le _, Nat.zero_le _⟩ ?_
  refine lv_if_ne (tgt := 28) F.1 F.2.1 dX6_endorse_15 (by decide) (fun c_1 => ?_) (fun c_1 => absurd c_1 (isx_ok (n := 5) hi2 (by decide)))
  refine lv_aload_n F.1 F.2.1 dX6_endorse_28 rfl (lv_at hl 0 rfl) ?_
  refine gf_X6_106 F w (hM.a6 (hI.o6 (show i1 < gnS G by omega))) rfl dX6_endorse_29 ?_
  refine lv_iload_n F.1 F.2.1 dX6_endorse_32 rfl (lv_at hl 3 rfl) ?_
  refine c_aald F w hM (hI.ms (show i1 < gnS G by omega)) (show i2 < 5 by omega) dX6_endorse_33 ?_
  refine q_astore F (lv' := [(4, va_rf (caF AD G i1 i2)), (3, .ref (AD 6 i1 0)), (0, .ref (AD 0 0 0)), (1, .int (nI i1)), (2, .int (nI i2))]) dX6_endorse_34 hl (by decide) rfl (fun ls hl => ?_)
  refine q_aload F dX6_endorse_36 (lv_at hl 0 rfl) ?_
  refine q_ifnull (P := G 18 (5 * i1 + i2) = 0) (hn := fun h => hI.cn (show i1 < gnS G by omega) (show i2 < 5 by omega) h) (hs := fun h => ⟨_, hI.cs (show i1 < gnS G by omega) (show i2 < 5 by omega) h⟩) (tgt := 53) F.1 F.2.1 dX6_endorse_38 (by decide) (fun c_2 => ?_) (fun c_2 => ?_)
  · exact q_thS (k9 := 12) F w hlf th9_2 rfl hl.1 (congrArg xnm (if_pos c_2)).symm ht hlk dX6_endorse_53 dX6_endorse_56 dX6_endorse_57 dX6_endorse_59 dX6_endorse_62 (Nat.le_of_ble_eq_true rfl) (Nat.le_of_ble_eq_true rfl) (Nat.le_of_ble_eq_true rfl) (Nat.le_of_ble_eq_true rfl) (Nat.le_of_ble_eq_true rfl) (Nat.le_of_ble_eq_true rfl)
  · refine lv_iload_n F.1 F.2.1 dX6_endorse_41 rfl (lv_at hl 4 rfl) ?_
    refine lv_aload_n F.1 F.2.1 dX6_endorse_42 rfl (lv_at hl 2 rfl) ?_
    refine lv_aload_n F.1 F.2.1 dX6_endorse_43 rfl (lv_at hl 1 rfl) ?_
    refine q_rV (rest := [.int (nI i2)]) F w kV_X6_120 hd_X6_familiesNotGood (ci := 7) rfl (c_X6_familiesNotGood l D cy A _ AD G hM hI i1 (show i1 < gnS G by omega)) (hM.a0 ⟨by decide, rfl, rfl⟩) dX6_endorse_44 rfl rfl hl.1 ⟨rfl, rfl, Nat.le_of_ble_eq_true rfl, Nat.le_of_ble_eq_true rfl⟩ (Nat.le_of_ble_eq_true rfl) ⟨Nat.zero_le _, Nat.zero_le _⟩ ?_
    refine q_rS (rest := []) F w kS_X6_124 hd_X6_isIn (c_X6_isIn l D cy A _ (nI i2) (f_X6_familiesNotGood G i1)) dX6_endorse_47 rfl rfl hl.1 ⟨rfl, rfl, Nat.le_of_ble_eq_true rfl, Nat.le_of_ble_eq_true rfl⟩ (Nat.le_of_ble_eq_true rfl) ⟨Nat.zero_le _, Nat.zero_le _⟩ ?_
    refine lv_if_eq (tgt := 63) F.1 F.2.1 dX6_endorse_50 (by decide) (fun c_3 => ?_) (fun c_3 => ?_)
    · refine q_aload F dX6_endorse_63 (lv_at hl 0 rfl) ?_
      refine lv_rf (hI.cs (show i1 < gnS G by omega) (show i2 < 5 by omega) c_2) ?_
      rw [show caF AD G i1 i2 = some (AD 13 i1 i2) from hI.cs (show i1 < gnS G by omega) (show i2 < 5 by omega) c_2] at hl
      have hl : lv_has ls 6 [(4, .ref (AD 13 i1 i2)), (3, .ref (AD 6 i1 0)), (0, .ref (AD 0 0 0)), (1, .int (nI i1)), (2, .int (nI i2))] := hl
      refine lv_aload_n F.1 F.2.1 dX6_endorse_65 rfl (lv_at hl 2 rfl) ?_
      refine gf_X6_30 F w (hM.a0 ⟨by decide, rfl, rfl⟩) rfl dX6_endorse_66 ?_
      refine q_rV (rest := []) F w kV_X6_141 hd_X0_anniversaryToEndorse (ci := 1) rfl (c_X0_anniversaryToEndorse l D cy A _ AD G hM hI i1 i2 (G 1 0) (show i1 < gnS G by omega) (show i2 < 5 by omega) (hI.c1 (show i1 < gnS G by omega) (show i2 < 5 by omega) c_2)) (hM.a13 (hI.o13 (show i1 < gnS G by omega) (show i2 < 5 by omega) (hI.c1 (show i1 < gnS G by omega) (show i2 < 5 by omega) c_2))) dX6_endorse_69 rfl rfl hl.1 ⟨rfl, rfl, Nat.le_of_ble_eq_true rfl, Nat.le_of_ble_eq_true rfl⟩ (Nat.le_of_ble_eq_true rfl) ⟨Nat.zero_le _, Nat.zero_le _⟩ ?_
      refine lv_istore (lv' := [(5, .int (f_X0_anniversaryToEndorse G i1 i2 (G 1 0))), (4, .ref (AD 13 i1 i2)), (3, .ref (AD 6 i1 0)), (0, .ref (AD 0 0 0)), (1, .int (nI i1)), (2, .int (nI i2))]) F.1 F.2.1 dX6_endorse_72 hl (by decide) rfl (fun ls hl => ?_)
      refine lv_iload F.1 F.2.1 dX6_endorse_74 (lv_at hl 0 rfl) ?_
      refine lv_iconst (v := -1) F.1 F.2.1 dX6_endorse_76 (by decide) ?_
      refine lv_icmp_ne (tgt := 90) F.1 F.2.1 dX6_endorse_77 (by decide) (fun c_4 => ?_) (fun c_4 => ?_)
      · refine lv_aload F.1 F.2.1 dX6_endorse_90 (lv_at hl 1 rfl) ?_
        refine lv_dup F.1 F.2.1 dX6_endorse_92 rfl ?_
        refine gf_X6_146 F w (hM.a13 (hI.o13 (show i1 < gnS G by omega) (show i2 < 5 by omega) (hI.c1 (show i1 < gnS G by omega) (show i2 < 5 by omega) c_2))) rfl dX6_endorse_93 ?_
        refine lv_iconst (v := 1) F.1 F.2.1 dX6_endorse_96 (by decide) ?_
        refine lv_iload F.1 F.2.1 dX6_endorse_97 (lv_at hl 0 rfl) ?_
        refine lv_ishl F.1 F.2.1 dX6_endorse_99 ?_
        refine lv_ior F.1 F.2.1 dX6_endorse_100 ?_
        refine cp_X6_146 F w hM (hI.o13 (show i1 < gnS G by omega) (show i2 < 5 by omega) (hI.c1 (show i1 < gnS G by omega) (show i2 < 5 by omega) c_2)) dX6_endorse_101 (fun H locs μ w hM => ?_)
        have hM : RepC cy AD (g_X6_endorse_1 G i1 i2) μ := hM
        refine lv_aload F.1 F.2.1 dX6_endorse_104 (lv_at hl 1 rfl) ?_
        refine gf_X6_146 F w (hM.a13 (ok_fr (by decide) (hI.o13 (show i1 < gnS G by omega) (show i2 < 5 by omega) (hI.c1 (show i1 < gnS G by omega) (show i2 < 5 by omega) c_2)))) rfl dX6_endorse_106 ?_
        refine lv_fold (y := (G 22 (5 * i1 + i2)) ||| ((1 : Int32) <<< ((f_X0_anniversaryToEndorse G i1 i2 (G 1 0)) &&& 31))) ((congrFun (up2_eq _ _ _ _) _).trans pk_us) ?_
        refine q_rS (rest := []) F w kS_X6_149 hd_J6_bitCount_0f7a4 (c_J6_bitCount_0f7a4 l D cy A _ ((G 22 (5 * i1 + i2)) ||| ((1 : Int32) <<< ((f_X0_anniversaryToEndorse G i1 i2 (G 1 0)) &&& 31)))) dX6_endorse_109 rfl rfl hl.1 ⟨rfl, rfl, Nat.le_of_ble_eq_true rfl, Nat.le_of_ble_eq_true rfl⟩ (Nat.le_of_ble_eq_true rfl) ⟨Nat.zero_le _, Nat.zero_le _⟩ ?_
        refine vx_ret ?_
        refine W.widen (k := 1) (n := 6) (Nat.le_of_ble_eq_true rfl) (Nat.le_of_ble_eq_true rfl) ?_
        exact q_retI (S := Unit) F hr hlk w ⟨((if_neg c_2).trans ((if_pos c_3).trans (if_neg c_4))), ((if_neg c_2).trans ((if_pos c_3).trans (if_neg c_4))).symm, ⟨AD, rfl, RepC.cg hM ((if_neg c_2).trans ((if_pos c_3).trans (if_neg c_4)))⟩⟩ dX6_endorse_112
      · exact q_thS (k9 := 13) F w hlf th9_2 rfl hl.1 (congrArg xnm ((if_neg c_2).trans ((if_pos c_3).trans (if_pos c_4)))).symm ht hlk dX6_endorse_80 dX6_endorse_83 dX6_endorse_84 dX6_endorse_86 dX6_endorse_89 (Nat.le_of_ble_eq_true rfl) (Nat.le_of_ble_eq_true rfl) (Nat.le_of_ble_eq_true rfl) (Nat.le_of_ble_eq_true rfl) (Nat.le_of_ble_eq_true rfl) (Nat.le_of_ble_eq_true rfl)
    · exact q_thS (k9 := 12) F w hlf th9_2 rfl hl.1 (congrArg xnm ((if_neg c_2).trans (if_neg c_3))).symm ht hlk dX6_endorse_53 dX6_endorse_56 dX6_endorse_57 dX6_endorse_59 dX6_endorse_62 (Nat.le_of_ble_eq_true rfl) (Nat.le_of_ble_eq_true rfl) (Nat.le_of_ble_eq_true rfl) (Nat.le_of_ble_eq_true rfl) (Nat.le_of_ble_eq_true rfl) (Nat.le_of_ble_eq_true rfl)
set_option maxHeartbeats 4000000 in
set_option maxRecDepth 100000 in
theorem c_X6_endorse_f (l : Launch) (D : va_G) (cy : Nat → ClassId) (A : Nat → Prop) (μ : MU) (AD : AM) (G : GS) (hM : RepC cy AD G μ) (hI : InvC G) (i1 : Nat) (x2 : Int32) (hi1 : i1 < gnS G) (hb : f_X6_isIndex x2 5 = 0) (hlf : l.stackTraces = false) : vx_Met l yX6_endorse (WS yX6_endorse cX6_endorse 6 (Option.some Jvm.ClassFile.FieldType.int)) { frames := 6, cells := 1, slots := 6, locals := 100 } (va_Pc [.ref (AD 0 0 0), .int (nI i1), .int x2] (Wd D cy A μ)) (fun _ _ _ _ => False) (XC9 D A μ (xnm 1)) 1 6 A := by
  refine q_metx (by decide) (Nat.le_of_ble_eq_true rfl) ?_
  intro p e s m below meth c F w hr hlk ht ls hl
  have F : CallFix p m c cX6_endorse 6 s _ BIG RX6 := F
  have hl : lv_has ls 6 [(0, .ref (AD 0 0 0)), (1, .int (nI i1)), (2, .int x2)] := hl
  refine lv_aload_n F.1 F.2.1 dX6_endorse_0 rfl (lv_at hl 0 rfl) ?_
  refine lv_iload_n F.1 F.2.1 dX6_endorse_1 rfl (lv_at hl 1 rfl) ?_
  refine q_sVq (rest := []) F w kV_X6_82 hd_X6_shipNumbered (ci := 7) rfl (c_X6_shipNumbered l D cy A _ AD G hM hI i1 (show i1 < gnS G by omega)) (hM.a0 ⟨by decide, rfl, rfl⟩) dX6_endorse_2 rfl rfl hl.1 ⟨rfl, rfl, Nat.le_of_ble_eq_true rfl, Nat.le_of_ble_eq_true rfl⟩ (Nat.le_of_ble_eq_true rfl) ⟨Nat.zero_le _, Nat.zero_le _⟩ ?_
  refine lv_astore_n (lv' := [(3, .ref (AD 6 i1 0)), (0, .ref (AD 0 0 0)), (1, .int (nI i1)), (2, .int x2)]) F.1 F.2.1 dX6_endorse_5 rfl hl (by decide) rfl (fun ls hl => ?_)
  refine lv_iload_n F.1 F.2.1 dX6_endorse_6 rfl (lv_at hl 3 rfl) ?_
  refine lv_aload_n F.1 F.2.1 dX6_endorse_7 rfl (lv_at hl 0 rfl) ?_
  refine gf_X6_106 F w (hM.a6 (hI.o6 (show i1 < gnS G by omega))) rfl dX6_endorse_8 ?_
  refine q_alen F w 2 rfl (hM.1 7 i1 0 (hI.o7 (show i1 < gnS G by omega))) (v := 5) rfl dX6_endorse_11 ?_
  refine q_rS (rest := []) F w kS_X6_46 hd_X6_isIndex (c_X6_isIndex l D cy A _ x2 5) dX6_endorse_12 rfl rfl hl.1 ⟨rfl, rfl, Nat.le_of_ble_eq_true rfl, Nat.le_of_ble_eq_true rfl⟩ (Nat.le_of_ble_eq_true rfl) ⟨Nat.zero_le _, Nat.zero_le _⟩ ?_
  refine lv_if_ne (tgt := 28) F.1 F.2.1 dX6_endorse_15 (by decide) (fun c_1 => absurd hb c_1) (fun c_1 => ?_)
  exact q_thS (k9 := 11) F w hlf th9_1 rfl hl.1 rfl ht hlk dX6_endorse_18 dX6_endorse_21 dX6_endorse_22 dX6_endorse_24 dX6_endorse_27 (Nat.le_of_ble_eq_true rfl) (Nat.le_of_ble_eq_true rfl) (Nat.le_of_ble_eq_true rfl) (Nat.le_of_ble_eq_true rfl) (Nat.le_of_ble_eq_true rfl) (Nat.le_of_ble_eq_true rfl)
set_option maxHeartbeats 4000000 in
set_option maxRecDepth 100000 in
theorem c_X6_endorse_b (l : Launch) (D : va_G) (cy : Nat → ClassId) (A : Nat → Prop) (μ : MU) (AD : AM) (G : GS) (hM : RepC cy AD G μ) (hI : InvC G) (x1 : Int32) (x2 : Int32) (hb : f_X6_isIndex x1 (nI (gnS G)) = 0) (hlf : l.stackTraces = false) : vx_Met l yX6_endorse (WS yX6_endorse cX6_endorse 6 (Option.some Jvm.ClassFile.FieldType.int)) { frames := 7, cells := 1, slots := 6, locals := 121 } (va_Pc [.ref (AD 0 0 0), .int x1, .int x2] (Wd D cy A μ)) (fun _ _ _ _ => False) (XC9 D A μ (xnm 3)) 1 6 A := by
  refine q_metx (by decide) (Nat.le_of_ble_eq_true rfl) ?_
  intro p e s m below meth c F w hr hlk ht ls hl
  have F : CallFix p m c cX6_endorse 6 s _ BIG RX6 := F
  have hl : lv_has ls 6 [(0, .ref (AD 0 0 0)), (1, .int x1), (2, .int x2)] := hl
  refine lv_aload_n F.1 F.2.1 dX6_endorse_0 rfl (lv_at hl 0 rfl) ?_
  refine lv_iload_n F.1 F.2.1 dX6_endorse_1 rfl (lv_at hl 1 rfl) ?_
  exact q_xV (rest := []) F w rfl ht hlk kV_X6_82 hd_X6_shipNumbered (ci := 7) rfl (c_X6_shipNumbered_b l D cy A _ AD G hM hI x1 hb hlf) (hM.a0 ⟨by decide, rfl, rfl⟩) dX6_endorse_2 rfl rfl hl.1 ⟨rfl, rfl, Nat.le_of_ble_eq_true rfl, Nat.le_of_ble_eq_true rfl⟩ (Nat.le_of_ble_eq_true rfl) ⟨Nat.le_of_ble_eq_true rfl, Nat.le_of_ble_eq_true rfl⟩ (Nat.le_of_ble_eq_true rfl) (Nat.le_of_ble_eq_true rfl)
