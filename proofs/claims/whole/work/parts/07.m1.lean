theorem i32_ne {x n : Int32} {z : Int} (h : ¬ x = n) (hz : n.toInt = z) : x.toInt ≠ z := fun e => h (Int32.toInt_inj.mp (e.trans hz.symm))
def gnS (G : GS) : Nat := (G 3 0).toNatClampNeg
def gnR (G : GS) : Nat := (G 23 0).toNatClampNeg
def gnV (G : GS) : Nat := (G 29 0).toNatClampNeg
def gnF (G : GS) (v : Nat) : Nat := (G 35 v).toNatClampNeg
def gnT (G : GS) (j : Nat) : Nat := (G 20 j).toNatClampNeg
/-- what keeps the reference's places in their rows -/
def InvM (G : GS) : Prop := (G 3 0 = nI (gnS G) ∧ gnS G ≤ 12) ∧ (G 23 0 = nI (gnR G) ∧ gnR G ≤ 20) ∧ (G 29 0 = nI (gnV G) ∧ gnV G ≤ 60) ∧ (∀ v, v < 60 → G 35 v = nI (gnF G v) ∧ gnF G v ≤ 12) ∧ (∀ v, v < 60 → vp_in (G 30 v) 12) ∧ (∀ i, i < 12 → vp_in (G 8 i) 4) ∧ (∀ j, j < 60 → vp_in (G 21 j) 4) ∧ (∀ j, j < 60 → G 20 j = nI (gnT G j) ∧ gnT G j ≤ 1825) ∧ (∀ j, j < 4 → nz (G 2 j)) ∧ (∀ i, i < 12 → ¬ G 12 i = -1 → vp_in (G 12 i) 60)
theorem InvM.s {G : GS} (h : InvM G) : G 3 0 = nI (gnS G) ∧ gnS G ≤ 12 := h.1
theorem InvM.r {G : GS} (h : InvM G) : G 23 0 = nI (gnR G) ∧ gnR G ≤ 20 := h.2.1
theorem InvM.v {G : GS} (h : InvM G) : G 29 0 = nI (gnV G) ∧ gnV G ≤ 60 := h.2.2.1
theorem InvM.f {G : GS} (h : InvM G) {v : Nat} (hv : v < 60) : G 35 v = nI (gnF G v) ∧ gnF G v ≤ 12 := h.2.2.2.1 v hv
theorem InvM.so {G : GS} (h : InvM G) {v : Nat} (hv : v < 60) : vp_in (G 30 v) 12 := h.2.2.2.2.1 v hv
theorem InvM.bo {G : GS} (h : InvM G) {v : Nat} (hv : v < 12) : vp_in (G 8 v) 4 := h.2.2.2.2.2.1 v hv
theorem InvM.is {G : GS} (h : InvM G) {v : Nat} (hv : v < 60) : vp_in (G 21 v) 4 := h.2.2.2.2.2.2.1 v hv
theorem InvM.t {G : GS} (h : InvM G) {v : Nat} (hv : v < 60) : G 20 v = nI (gnT G v) ∧ gnT G v ≤ 1825 := h.2.2.2.2.2.2.2.1 v hv
theorem InvM.su {G : GS} (h : InvM G) {v : Nat} (hv : v < 4) : nz (G 2 v) := h.2.2.2.2.2.2.2.2.1 v hv
theorem InvM.la {G : GS} (h : InvM G) {v : Nat} (hv : v < 12) : ¬ G 12 v = -1 → vp_in (G 12 v) 60 := h.2.2.2.2.2.2.2.2.2 v hv
theorem GB_ale {T k : Nat} {x : Int32} (hx : x = nI T) (hT : T ≤ 1825) (hk : k ≤ (T - 1) / 365) (h : x ≤ nI (365 * (k + 1))) : k = (T - 1) / 365 := by
  rw [hx] at h
  have := (nI_leI (by omega) (by omega)).mp h
  omega
theorem GB_alt {T k : Nat} {x : Int32} (hx : x = nI T) (hT : T ≤ 1825) (hk : k ≤ (T - 1) / 365) (h : ¬ x ≤ nI (365 * (k + 1))) : k < (T - 1) / 365 := by
  rw [hx] at h
  rcases Nat.lt_or_ge k ((T - 1) / 365) with q | q
  · exact q
  · exact absurd ((nI_leI (by omega) (by omega)).mpr (by omega)) h
theorem RepM.cg {cy : Nat → ClassId} {m0 : Nat} {ad : Nat → Nat} {G1 G2 : GS} {μ : MU} (h : RepM cy m0 ad G1 μ) (e : G2 = G1) : RepM cy m0 ad G2 μ := e ▸ h
def f_X7_in (x1 : Int32) (x2 : Int32) (x3 : Int32) : Int32 := if x1 < x2 then 0 else (if x3 < x1 then 0 else 1)
theorem nz_f_X7_in (x1 : Int32) (x2 : Int32) (x3 : Int32) : nz (f_X7_in x1 x2 x3) := (nz_ite nz0 (nz_ite nz0 nz1))
set_option maxHeartbeats 4000000 in
set_option maxRecDepth 100000 in
theorem c_X7_in (l : Launch) (D : va_G) (cy : Nat → ClassId) (A : Nat → Prop) (μ : MU) (x1 : Int32) (x2 : Int32) (x3 : Int32) : Met l yX7_in (WS yX7_in cX7_in 3 (Option.some Jvm.ClassFile.FieldType.boolean)) { frames := 0, cells := 0, slots := 0, locals := 0 } (va_Pc [.int x1, .int x2, .int x3] (Wd D cy A μ)) (QcRead (f_X7_in x1 x2 x3)) 0 0 (fun _ => False) := by
  refine q_met (by decide) (Nat.le_of_ble_eq_true rfl) ?_
  intro p e s m below meth c F w hr hlk hnm ls hl
  have F : CallFix p m c cX7_in 3 s _ BIG RX7 := F
  have hl : lv_has ls 3 [(0, .int x1), (1, .int x2), (2, .int x3)] := hl
  refine lv_iload_n F.1 F.2.1 dX7_in_0 rfl (lv_at hl 0 rfl) ?_
  refine lv_iload_n F.1 F.2.1 dX7_in_1 rfl (lv_at hl 1 rfl) ?_
  refine jn0 (m := m) (ls := ls) (rest := []) (if x1 < x2 then 0 else (if x3 < x1 then 0 else 1)) 15 (fun J_1 => ?_) ?_
  · refine lv_icmp_lt (tgt := 14) F.1 F.2.1 dX7_in_2 (by decide) (fun c_2 => ?_) (fun c_2 => ?_)
    · refine lv_iconst (v := 0) F.1 F.2.1 dX7_in_14 (by decide) ?_
      exact jn_a (if_pos c_2) J_1
    · refine lv_iload_n F.1 F.2.1 dX7_in_5 rfl (lv_at hl 0 rfl) ?_
      refine lv_iload_n F.1 F.2.1 dX7_in_6 rfl (lv_at hl 2 rfl) ?_
      refine lv_icmp_gt (tgt := 14) F.1 F.2.1 dX7_in_7 (by decide) (fun c_3 => ?_) (fun c_3 => ?_)
      · refine lv_iconst (v := 0) F.1 F.2.1 dX7_in_14 (by decide) ?_
        exact jn_a ((if_neg c_2).trans (if_pos c_3)) J_1
      · refine lv_iconst (v := 1) F.1 F.2.1 dX7_in_10 (by decide) ?_
        refine lv_goto (tgt := 15) F.1 F.2.1 dX7_in_11 (by decide) ?_
        exact jn_a ((if_neg c_2).trans (if_neg c_3)) J_1
  exact q_retz F hr hlk rfl (nz_ite nz0 (nz_ite nz0 nz1)) dX7_in_15
def f_X7_isShip (G : GS) (x1 : Int32) : Int32 := f_X7_in x1 0 ((G 3 0) - 1)
theorem nz_f_X7_isShip (G : GS) (x1 : Int32) : nz (f_X7_isShip G x1) := (nz_f_X7_in _ _ _)
set_option maxHeartbeats 4000000 in
set_option maxRecDepth 100000 in
theorem c_X7_isShip (l : Launch) (D : va_G) (cy : Nat → ClassId) (A : Nat → Prop) (μ : MU) (m0 : Nat) (ad : Nat → Nat) (G : GS) (hM : RepM cy m0 ad G μ) (x1 : Int32) : Met l yX7_isShip (WS yX7_isShip cX7_isShip 2 (Option.some Jvm.ClassFile.FieldType.boolean)) { frames := 1, cells := 0, slots := 0, locals := 22 } (va_Pc [.ref m0, .int x1] (Wd D cy A μ)) (QcRead (f_X7_isShip G x1)) 0 0 (fun _ => False) := by
  refine q_met (by decide) (Nat.le_of_ble_eq_true rfl) ?_
  intro p e s m below meth c F w hr hlk hnm ls hl
  have F : CallFix p m c cX7_isShip 2 s _ BIG RX7 := F
  have hl : lv_has ls 2 [(0, .ref m0), (1, .int x1)] := hl
  refine lv_iload_n F.1 F.2.1 dX7_isShip_0 rfl (lv_at hl 1 rfl) ?_
  refine lv_iconst (v := 0) F.1 F.2.1 dX7_isShip_1 (by decide) ?_
  refine lv_aload_n F.1 F.2.1 dX7_isShip_2 rfl (lv_at hl 0 rfl) ?_
  refine gf_X7_132 F w hM.1 rfl dX7_isShip_3 ?_
  refine lv_iconst (v := 1) F.1 F.2.1 dX7_isShip_6 (by decide) ?_
  refine lv_isub F.1 F.2.1 dX7_isShip_7 ?_
  refine q_rS (rest := []) F w kS_X7_135 hd_X7_in (c_X7_in l D cy A _ x1 0 ((G 3 0) - 1)) dX7_isShip_8 rfl rfl hl.1 ⟨rfl, rfl, Nat.le_of_ble_eq_true rfl, Nat.le_of_ble_eq_true rfl⟩ (Nat.le_of_ble_eq_true rfl) ⟨Nat.zero_le _, Nat.zero_le _⟩ ?_
  exact q_retz F hr hlk rfl (nz_f_X7_in _ _ _) dX7_isShip_11
def f_X7_isVisit (G : GS) (x1 : Int32) : Int32 := f_X7_in x1 0 ((G 29 0) - 1)
theorem nz_f_X7_isVisit (G : GS) (x1 : Int32) : nz (f_X7_isVisit G x1) := (nz_f_X7_in _ _ _)
set_option maxHeartbeats 4000000 in
set_option maxRecDepth 100000 in
theorem c_X7_isVisit (l : Launch) (D : va_G) (cy : Nat → ClassId) (A : Nat → Prop) (μ : MU) (m0 : Nat) (ad : Nat → Nat) (G : GS) (hM : RepM cy m0 ad G μ) (x1 : Int32) : Met l yX7_isVisit (WS yX7_isVisit cX7_isVisit 2 (Option.some Jvm.ClassFile.FieldType.boolean)) { frames := 1, cells := 0, slots := 0, locals := 22 } (va_Pc [.ref m0, .int x1] (Wd D cy A μ)) (QcRead (f_X7_isVisit G x1)) 0 0 (fun _ => False) := by
  refine q_met (by decide) (Nat.le_of_ble_eq_true rfl) ?_
  intro p e s m below meth c F w hr hlk hnm ls hl
  have F : CallFix p m c cX7_isVisit 2 s _ BIG RX7 := F
  have hl : lv_has ls 2 [(0, .ref m0), (1, .int x1)] := hl
  refine lv_iload_n F.1 F.2.1 dX7_isVisit_0 rfl (lv_at hl 1 rfl) ?_
  refine lv_iconst (v := 0) F.1 F.2.1 dX7_isVisit_1 (by decide) ?_
  refine lv_aload_n F.1 F.2.1 dX7_isVisit_2 rfl (lv_at hl 0 rfl) ?_
  refine gf_X7_139 F w hM.1 rfl dX7_isVisit_3 ?_
  refine lv_iconst (v := 1) F.1 F.2.1 dX7_isVisit_6 (by decide) ?_
  refine lv_isub F.1 F.2.1 dX7_isVisit_7 ?_
  refine q_rS (rest := []) F w kS_X7_135 hd_X7_in (c_X7_in l D cy A _ x1 0 ((G 29 0) - 1)) dX7_isVisit_8 rfl rfl hl.1 ⟨rfl, rfl, Nat.le_of_ble_eq_true rfl, Nat.le_of_ble_eq_true rfl⟩ (Nat.le_of_ble_eq_true rfl) ⟨Nat.zero_le _, Nat.zero_le _⟩ ?_
  exact q_retz F hr hlk rfl (nz_f_X7_in _ _ _) dX7_isVisit_11
def f_X7_isFlag (x1 : Int32) : Int32 := f_X7_in x1 0 5
theorem nz_f_X7_isFlag (x1 : Int32) : nz (f_X7_isFlag x1) := (nz_f_X7_in _ _ _)
set_option maxHeartbeats 4000000 in
set_option maxRecDepth 100000 in
theorem c_X7_isFlag (l : Launch) (D : va_G) (cy : Nat → ClassId) (A : Nat → Prop) (μ : MU) (x1 : Int32) : Met l yX7_isFlag (WS yX7_isFlag cX7_isFlag 1 (Option.some Jvm.ClassFile.FieldType.boolean)) { frames := 1, cells := 0, slots := 0, locals := 22 } (va_Pc [.int x1] (Wd D cy A μ)) (QcRead (f_X7_isFlag x1)) 0 0 (fun _ => False) := by
  refine q_met (by decide) (Nat.le_of_ble_eq_true rfl) ?_
  intro p e s m below meth c F w hr hlk hnm ls hl
  have F : CallFix p m c cX7_isFlag 1 s _ BIG RX7 := F
  have hl : lv_has ls 1 [(0, .int x1)] := hl
  refine lv_iload_n F.1 F.2.1 dX7_isFlag_0 rfl (lv_at hl 0 rfl) ?_
  refine lv_iconst (v := 0) F.1 F.2.1 dX7_isFlag_1 (by decide) ?_
  refine lv_iconst (v := 5) F.1 F.2.1 dX7_isFlag_2 (by decide) ?_
  refine q_rS (rest := []) F w kS_X7_135 hd_X7_in (c_X7_in l D cy A _ x1 0 5) dX7_isFlag_3 rfl rfl hl.1 ⟨rfl, rfl, Nat.le_of_ble_eq_true rfl, Nat.le_of_ble_eq_true rfl⟩ (Nat.le_of_ble_eq_true rfl) ⟨Nat.zero_le _, Nat.zero_le _⟩ ?_
  exact q_retz F hr hlk rfl (nz_f_X7_in _ _ _) dX7_isFlag_6
def f_X7_isBody (x1 : Int32) : Int32 := f_X7_in x1 0 3
theorem nz_f_X7_isBody (x1 : Int32) : nz (f_X7_isBody x1) := (nz_f_X7_in _ _ _)
set_option maxHeartbeats 4000000 in
set_option maxRecDepth 100000 in
theorem c_X7_isBody (l : Launch) (D : va_G) (cy : Nat → ClassId) (A : Nat → Prop) (μ : MU) (x1 : Int32) : Met l yX7_isBody (WS yX7_isBody cX7_isBody 1 (Option.some Jvm.ClassFile.FieldType.boolean)) { frames := 1, cells := 0, slots := 0, locals := 22 } (va_Pc [.int x1] (Wd D cy A μ)) (QcRead (f_X7_isBody x1)) 0 0 (fun _ => False) := by
  refine q_met (by decide) (Nat.le_of_ble_eq_true rfl) ?_
  intro p e s m below meth c F w hr hlk hnm ls hl
  have F : CallFix p m c cX7_isBody 1 s _ BIG RX7 := F
  have hl : lv_has ls 1 [(0, .int x1)] := hl
  refine lv_iload_n F.1 F.2.1 dX7_isBody_0 rfl (lv_at hl 0 rfl) ?_
  refine lv_iconst (v := 0) F.1 F.2.1 dX7_isBody_1 (by decide) ?_
  refine lv_iconst (v := 3) F.1 F.2.1 dX7_isBody_2 (by decide) ?_
  refine q_rS (rest := []) F w kS_X7_135 hd_X7_in (c_X7_in l D cy A _ x1 0 3) dX7_isBody_3 rfl rfl hl.1 ⟨rfl, rfl, Nat.le_of_ble_eq_true rfl, Nat.le_of_ble_eq_true rfl⟩ (Nat.le_of_ble_eq_true rfl) ⟨Nat.zero_le _, Nat.zero_le _⟩ ?_
  exact q_retz F hr hlk rfl (nz_f_X7_in _ _ _) dX7_isBody_6
def f_X7_isPort (x1 : Int32) : Int32 := f_X7_in x1 0 3
theorem nz_f_X7_isPort (x1 : Int32) : nz (f_X7_isPort x1) := (nz_f_X7_in _ _ _)
set_option maxHeartbeats 4000000 in
set_option maxRecDepth 100000 in
theorem c_X7_isPort (l : Launch) (D : va_G) (cy : Nat → ClassId) (A : Nat → Prop) (μ : MU) (x1 : Int32) : Met l yX7_isPort (WS yX7_isPort cX7_isPort 1 (Option.some Jvm.ClassFile.FieldType.boolean)) { frames := 1, cells := 0, slots := 0, locals := 22 } (va_Pc [.int x1] (Wd D cy A μ)) (QcRead (f_X7_isPort x1)) 0 0 (fun _ => False) := by
  refine q_met (by decide) (Nat.le_of_ble_eq_true rfl) ?_
  intro p e s m below meth c F w hr hlk hnm ls hl
  have F : CallFix p m c cX7_isPort 1 s _ BIG RX7 := F
  have hl : lv_has ls 1 [(0, .int x1)] := hl
  refine lv_iload_n F.1 F.2.1 dX7_isPort_0 rfl (lv_at hl 0 rfl) ?_
  refine lv_iconst (v := 0) F.1 F.2.1 dX7_isPort_1 (by decide) ?_
  refine lv_iconst (v := 3) F.1 F.2.1 dX7_isPort_2 (by decide) ?_
  refine q_rS (rest := []) F w kS_X7_135 hd_X7_in (c_X7_in l D cy A _ x1 0 3) dX7_isPort_3 rfl rfl hl.1 ⟨rfl, rfl, Nat.le_of_ble_eq_true rfl, Nat.le_of_ble_eq_true rfl⟩ (Nat.le_of_ble_eq_true rfl) ⟨Nat.zero_le _, Nat.zero_le _⟩ ?_
  exact q_retz F hr hlk rfl (nz_f_X7_in _ _ _) dX7_isPort_6
def f_X7_isIn (x1 : Int32) (x2 : Int32) : Int32 := if (x1 >>> (x2 &&& 31)) &&& 1 = 1 then 1 else 0
theorem nz_f_X7_isIn (x1 : Int32) (x2 : Int32) : nz (f_X7_isIn x1 x2) := (nz_ite nz1 nz0)
set_option maxHeartbeats 4000000 in
set_option maxRecDepth 100000 in
theorem c_X7_isIn (l : Launch) (D : va_G) (cy : Nat → ClassId) (A : Nat → Prop) (μ : MU) (x1 : Int32) (x2 : Int32) : Met l yX7_isIn (WS yX7_isIn cX7_isIn 2 (Option.some Jvm.ClassFile.FieldType.boolean)) { frames := 0, cells := 0, slots := 0, locals := 0 } (va_Pc [.int x1, .int x2] (Wd D cy A μ)) (QcRead (f_X7_isIn x1 x2)) 0 0 (fun _ => False) := by
  refine q_met (by decide) (Nat.le_of_ble_eq_true rfl) ?_
  intro p e s m below meth c F w hr hlk hnm ls hl
  have F : CallFix p m c cX7_isIn 2 s _ BIG RX7 := F
  have hl : lv_has ls 2 [(0, .int x1), (1, .int x2)] := hl
  refine lv_iload_n F.1 F.2.1 dX7_isIn_0 rfl (lv_at hl 0 rfl) ?_
  refine lv_iload_n F.1 F.2.1 dX7_isIn_1 rfl (lv_at hl 1 rfl) ?_
  refine lv_ishr F.1 F.2.1 dX7_isIn_2 ?_
  refine lv_iconst (v := 1) F.1 F.2.1 dX7_isIn_3 (by decide) ?_
  refine lv_iand F.1 F.2.1 dX7_isIn_4 ?_
  refine lv_iconst (v := 1) F.1 F.2.1 dX7_isIn_5 (by decide) ?_
  refine jn0 (m := m) (ls := ls) (rest := []) (if (x1 >>> (x2 &&& 31)) &&& 1 = 1 then 1 else 0) 14 (fun J_1 => ?_) ?_
  · refine lv_icmp_ne (tgt := 13) F.1 F.2.1 dX7_isIn_6 (by decide) (fun c_2 => ?_) (fun c_2 => ?_)
    · refine lv_iconst (v := 0) F.1 F.2.1 dX7_isIn_13 (by decide) ?_
      exact jn_a (if_neg c_2) J_1
    · refine lv_iconst (v := 1) F.1 F.2.1 dX7_isIn_9 (by decide) ?_
      refine lv_goto (tgt := 14) F.1 F.2.1 dX7_isIn_10 (by decide) ?_
      exact jn_a (if_pos c_2) J_1
  exact q_retz F hr hlk rfl (nz_ite nz1 nz0) dX7_isIn_14
def f_X7_thrown (G : GS) : Int32 := G 0 0
set_option maxHeartbeats 4000000 in
set_option maxRecDepth 100000 in
theorem c_X7_thrown (l : Launch) (D : va_G) (cy : Nat → ClassId) (A : Nat → Prop) (μ : MU) (m0 : Nat) (ad : Nat → Nat) (G : GS) (hM : RepM cy m0 ad G μ) : Met l yX7_thrown (WS yX7_thrown cX7_thrown 1 (Option.some Jvm.ClassFile.FieldType.int)) { frames := 0, cells := 0, slots := 0, locals := 0 } (va_Pc [.ref m0] (Wd D cy A μ)) (QcRead (f_X7_thrown G)) 0 0 (fun _ => False) := by
  refine q_met (by decide) (Nat.le_of_ble_eq_true rfl) ?_
  intro p e s m below meth c F w hr hlk hnm ls hl
  have F : CallFix p m c cX7_thrown 1 s _ BIG RX7 := F
  have hl : lv_has ls 1 [(0, .ref m0)] := hl
  refine lv_aload_n F.1 F.2.1 dX7_thrown_0 rfl (lv_at hl 0 rfl) ?_
  refine gf_X7_128 F w hM.1 rfl dX7_thrown_1 ?_
  exact q_reti F hr hlk rfl dX7_thrown_4
def f_X7_isOld (G : GS) (i1 : Nat) : Int32 := if (G 1 0) - (G 4 i1) ≤ 4380 then 0 else 1
theorem nz_f_X7_isOld (G : GS) (i1 : Nat) : nz (f_X7_isOld G i1) := (nz_ite nz0 nz1)
set_option maxHeartbeats 4000000 in
set_option maxRecDepth 100000 in
theorem c_X7_isOld (l : Launch) (D : va_G) (cy : Nat → ClassId) (A : Nat → Prop) (μ : MU) (m0 : Nat) (ad : Nat → Nat) (G : GS) (hM : RepM cy m0 ad G μ) (i1 : Nat) (hi1 : i1 < 12) : Met l yX7_isOld (WS yX7_isOld cX7_isOld 2 (Option.some Jvm.ClassFile.FieldType.boolean)) { frames := 0, cells := 0, slots := 0, locals := 0 } (va_Pc [.ref m0, .int (nI i1)] (Wd D cy A μ)) (QcRead (f_X7_isOld G i1)) 0 0 (fun _ => False) := by
  refine q_met (by decide) (Nat.le_of_ble_eq_true rfl) ?_
  intro p e s m below meth c F w hr hlk hnm ls hl
  have F : CallFix p m c cX7_isOld 2 s _ BIG RX7 := F
  have hl : lv_has ls 2 [(0, .ref m0), (1, .int (nI i1))] := hl
  refine lv_aload_n F.1 F.2.1 dX7_isOld_0 rfl (lv_at hl 0 rfl) ?_
  refine gf_X7_142 F w hM.1 rfl dX7_isOld_1 ?_
  refine lv_aload_n F.1 F.2.1 dX7_isOld_4 rfl (lv_at hl 0 rfl) ?_
  refine gf_X7_13 F w hM.1 rfl dX7_isOld_5 ?_
  refine lv_iload_n F.1 F.2.1 dX7_isOld_8 rfl (lv_at hl 1 rfl) ?_
  refine m_ild F w hM 4 (by decide) rfl rfl i1 (show i1 < 12 by omega) (by decide) dX7_isOld_9 ?_
  refine lv_isub F.1 F.2.1 dX7_isOld_10 ?_
  refine lv_sipush (v := 4380) F.1 F.2.1 dX7_isOld_11 (by decide) ?_
  refine jn0 (m := m) (ls := ls) (rest := []) (if (G 1 0) - (G 4 i1) ≤ 4380 then 0 else 1) 22 (fun J_1 => ?_) ?_
  · refine lv_icmp_le (tgt := 21) F.1 F.2.1 dX7_isOld_14 (by decide) (fun c_2 => ?_) (fun c_2 => ?_)
    · refine lv_iconst (v := 0) F.1 F.2.1 dX7_isOld_21 (by decide) ?_
      exact jn_a (if_pos c_2) J_1
    · refine lv_iconst (v := 1) F.1 F.2.1 dX7_isOld_17 (by decide) ?_
      refine lv_goto (tgt := 22) F.1 F.2.1 dX7_isOld_18 (by decide) ?_
      exact jn_a (if_neg c_2) J_1
  exact q_retz F hr hlk rfl (nz_ite nz0 nz1) dX7_isOld_22
def v_X7_isInForce_32 (G : GS) (i1 : Nat) (i2 : Nat) : Int32 := (G 27 i1) + (if G 27 i1 ≤ G 4 i2 then 0 else G 28 i1)
def f_X7_isInForce (G : GS) (i1 : Nat) (i2 : Nat) : Int32 := if G 5 i2 < G 25 i1 then 0 else (if f_X7_isIn (G 26 i1) (G 6 i2) = 0 then 0 else (if G 1 0 < v_X7_isInForce_32 G i1 i2 then 0 else 1))
theorem nz_f_X7_isInForce (G : GS) (i1 : Nat) (i2 : Nat) : nz (f_X7_isInForce G i1 i2) := (nz_ite nz0 (nz_ite nz0 (nz_ite nz0 nz1)))
set_option maxHeartbeats 4000000 in
set_option maxRecDepth 100000 in
theorem c_X7_isInForce (l : Launch) (D : va_G) (cy : Nat → ClassId) (A : Nat → Prop) (μ : MU) (m0 : Nat) (ad : Nat → Nat) (G : GS) (hM : RepM cy m0 ad G μ) (i1 : Nat) (i2 : Nat) (hi1 : i1 < 20) (hi2 : i2 < 12) : Met l yX7_isInForce (WS yX7_isInForce cX7_isInForce 4 (Option.some Jvm.ClassFile.FieldType.boolean)) { frames := 1, cells := 0, slots := 0, locals := 21 } (va_Pc [.ref m0, .int (nI i1), .int (nI i2)] (Wd D cy A μ)) (QcRead (f_X7_isInForce G i1 i2)) 0 0 (fun _ => False) := by
  refine q_met (by decide) (Nat.le_of_ble_eq_true rfl) ?_
  intro p e s m below meth c F w hr hlk hnm ls hl
  have F : CallFix p m c cX7_isInForce 4 s _ BIG RX7 := F
  have hl : lv_has ls 4 [(0, .ref m0), (1, .int (nI i1)), (2, .int (nI i2))] := hl
  refine lv_aload_n F.1 F.2.1 dX7_isInForce_0 rfl (lv_at hl 0 rfl) ?_
  refine gf_X7_80 F w hM.1 rfl dX7_isInForce_1 ?_
  refine lv_iload_n F.1 F.2.1 dX7_isInForce_4 rfl (lv_at hl 1 rfl) ?_
  refine m_ild F w hM 27 (by decide) rfl rfl i1 (show i1 < 20 by omega) (by decide) dX7_isInForce_5 ?_
  refine lv_aload_n F.1 F.2.1 dX7_isInForce_6 rfl (lv_at hl 0 rfl) ?_
  refine gf_X7_13 F w hM.1 rfl dX7_isInForce_7 ?_
  refine lv_iload_n F.1 F.2.1 dX7_isInForce_10 rfl (lv_at hl 2 rfl) ?_
  refine m_ild F w hM 4 (by decide) rfl rfl i2 (show i2 < 12 by omega) (by decide) dX7_isInForce_11 ?_
  refine lv_aload_n F.1 F.2.1 dX7_isInForce_12 rfl (lv_at hl 0 rfl) ?_
  refine gf_X7_80 F w hM.1 rfl dX7_isInForce_13 ?_
  refine lv_iload_n F.1 F.2.1 dX7_isInForce_16 rfl (lv_at hl 1 rfl) ?_
  refine m_ild F w hM 27 (by decide) rfl rfl i1 (show i1 < 20 by omega) (by decide) dX7_isInForce_17 ?_
  refine jn0 (m := m) (ls := ls) (rest := [.int (G 27 i1)]) (if G 27 i1 ≤ G 4 i2 then 0 else G 28 i1) 31 (fun J_1 => ?_) ?_
  · refine lv_icmp_ge (tgt := 30) F.1 F.2.1 dX7_isInForce_18 (by decide) (fun c_2 => ?_) (fun c_2 => ?_)
    · refine lv_iconst (v := 0) F.1 F.2.1 dX7_isInForce_30 (by decide) ?_
      exact jn_a (if_pos c_2) J_1
    · refine lv_aload_n F.1 F.2.1 dX7_isInForce_21 rfl (lv_at hl 0 rfl) ?_
      refine gf_X7_83 F w hM.1 rfl dX7_isInForce_22 ?_
      refine lv_iload_n F.1 F.2.1 dX7_isInForce_25 rfl (lv_at hl 1 rfl) ?_
      refine m_ild F w hM 28 (by decide) rfl rfl i1 (show i1 < 20 by omega) (by decide) dX7_isInForce_26 ?_
      refine lv_goto (tgt := 31) F.1 F.2.1 dX7_isInForce_27 (by decide) ?_
      exact jn_a (if_neg c_2) J_1
  refine lv_iadd F.1 F.2.1 dX7_isInForce_31 ?_
  refine lv_fold (y := v_X7_isInForce_32 G i1 i2) rfl ?_
  refine lv_istore_n (lv' := [(3, .int (v_X7_isInForce_32 G i1 i2)), (0, .ref m0), (1, .int (nI i1)), (2, .int (nI i2))]) F.1 F.2.1 dX7_isInForce_32 rfl hl (by decide) rfl (fun ls hl => ?_)
  refine lv_aload_n F.1 F.2.1 dX7_isInForce_33 rfl (lv_at hl 1 rfl) ?_
  refine gf_X7_17 F w hM.1 rfl dX7_isInForce_34 ?_
  refine lv_iload_n F.1 F.2.1 dX7_isInForce_37 rfl (lv_at hl 3 rfl) ?_
  refine m_ild F w hM 5 (by decide) rfl rfl i2 (show i2 < 12 by omega) (by decide) dX7_isInForce_38 ?_
  refine lv_aload_n F.1 F.2.1 dX7_isInForce_39 rfl (lv_at hl 1 rfl) ?_
  refine gf_X7_74 F w hM.1 rfl dX7_isInForce_40 ?_
  refine lv_iload_n F.1 F.2.1 dX7_isInForce_43 rfl (lv_at hl 2 rfl) ?_
  refine m_ild F w hM 25 (by decide) rfl rfl i1 (show i1 < 20 by omega) (by decide) dX7_isInForce_44 ?_
  refine jn0 (m := m) (ls := ls) (rest := []) (if G 5 i2 < G 25 i1 then 0 else (if f_X7_isIn (G 26 i1) (G 6 i2) = 0 then 0 else (if G 1 0 < v_X7_isInForce_32 G i1 i2 then 0 else 1))) 79 (fun J_3 => ?_) ?_
  · refine lv_icmp_lt (tgt := 78) F.1 F.2.1 dX7_isInForce_45 (by decide) (fun c_4 => ?_) (fun c_4 => ?_)
    · refine lv_iconst (v := 0) F.1 F.2.1 dX7_isInForce_78 (by decide) ?_
      exact jn_a (if_pos c_4) J_3
    · refine lv_aload_n F.1 F.2.1 dX7_isInForce_48 rfl (lv_at hl 1 rfl) ?_
      refine gf_X7_77 F w hM.1 rfl dX7_isInForce_49 ?_
      refine lv_iload_n F.1 F.2.1 dX7_isInForce_52 rfl (lv_at hl 2 rfl) ?_
      refine m_ild F w hM 26 (by decide) rfl rfl i1 (show i1 < 20 by omega) (by decide) dX7_isInForce_53 ?_
      refine lv_aload_n F.1 F.2.1 dX7_isInForce_54 rfl (lv_at hl 1 rfl) ?_
      refine gf_X7_20 F w hM.1 rfl dX7_isInForce_55 ?_
      refine lv_iload_n F.1 F.2.1 dX7_isInForce_58 rfl (lv_at hl 3 rfl) ?_
      refine m_ild F w hM 6 (by decide) rfl rfl i2 (show i2 < 12 by omega) (by decide) dX7_isInForce_59 ?_
      refine q_rS (rest := []) F w kS_X7_159 hd_X7_isIn (c_X7_isIn l D cy A _ (G 26 i1) (G 6 i2)) dX7_isInForce_60 rfl rfl hl.1 ⟨rfl, rfl, Nat.le_of_ble_eq_true rfl, Nat.le_of_ble_eq_true rfl⟩ (Nat.le_of_ble_eq_true rfl) ⟨Nat.zero_le _, Nat.zero_le _⟩ ?_
      refine lv_if_eq (tgt := 78) F.1 F.2.1 dX7_isInForce_63 (by decide) (fun c_5 => ?_) (fun c_5 => ?_)
      · refine lv_iconst (v := 0) F.1 F.2.1 dX7_isInForce_78 (by decide) ?_
        exact jn_a ((if_neg c_4).trans (if_pos c_5)) J_3
      · refine lv_aload_n F.1 F.2.1 dX7_isInForce_66 rfl (lv_at hl 1 rfl) ?_
        refine gf_X7_142 F w hM.1 rfl dX7_isInForce_67 ?_
        refine lv_iload_n F.1 F.2.1 dX7_isInForce_70 rfl (lv_at hl 0 rfl) ?_
        refine lv_icmp_lt (tgt := 78) F.1 F.2.1 dX7_isInForce_71 (by decide) (fun c_6 => ?_) (fun c_6 => ?_)
        · refine lv_iconst (v := 0) F.1 F.2.1 dX7_isInForce_78 (by decide) ?_
          exact jn_a ((if_neg c_4).trans ((if_neg c_5).trans (if_pos c_6))) J_3
        · refine lv_iconst (v := 1) F.1 F.2.1 dX7_isInForce_74 (by decide) ?_
          refine lv_goto (tgt := 79) F.1 F.2.1 dX7_isInForce_75 (by decide) ?_
          exact jn_a ((if_neg c_4).trans ((if_neg c_5).trans (if_neg c_6))) J_3
  exact q_retz F hr hlk rfl (nz_ite nz0 (nz_ite nz0 (nz_ite nz0 nz1))) dX7_isInForce_79
def f_X7_at (i1 : Nat) (i2 : Nat) : Int32 := nI ((5 * i1) + i2)
set_option maxHeartbeats 4000000 in
set_option maxRecDepth 100000 in
theorem c_X7_at (l : Launch) (D : va_G) (cy : Nat → ClassId) (A : Nat → Prop) (μ : MU) (i1 : Nat) (i2 : Nat) : Met l yX7_at (WS yX7_at cX7_at 2 (Option.some Jvm.ClassFile.FieldType.int)) { frames := 0, cells := 0, slots := 0, locals := 0 } (va_Pc [.int (nI i1), .int (nI i2)] (Wd D cy A μ)) (QcRead (f_X7_at i1 i2)) 0 0 (fun _ => False) := by
  refine q_met (by decide) (Nat.le_of_ble_eq_true rfl) ?_
  intro p e s m below meth c F w hr hlk hnm ls hl
  have F : CallFix p m c cX7_at 2 s _ BIG RX7 := F
  have hl : lv_has ls 2 [(0, .int (nI i1)), (1, .int (nI i2))] := hl
  refine lv_iconst (v := 5) F.1 F.2.1 dX7_at_0 (by decide) ?_
  refine lv_iload_n F.1 F.2.1 dX7_at_1 rfl (lv_at hl 0 rfl) ?_
  refine lv_imul F.1 F.2.1 dX7_at_2 ?_
  refine lv_fold (y := nI (5 * i1)) (pk_mul 5 i1) ?_
  refine lv_iload_n F.1 F.2.1 dX7_at_3 rfl (lv_at hl 1 rfl) ?_
  refine lv_iadd F.1 F.2.1 dX7_at_4 ?_
  refine lv_fold (y := nI ((5 * i1) + i2)) (nI_add _ _) ?_
  exact q_reti F hr hlk rfl dX7_at_5
def f_X7_isLatest (G : GS) (i1 : Nat) : Int32 := if 1095 ≤ (G 1 0) - (G 32 i1) then 0 else 1
theorem nz_f_X7_isLatest (G : GS) (i1 : Nat) : nz (f_X7_isLatest G i1) := (nz_ite nz0 nz1)
set_option maxHeartbeats 4000000 in
set_option maxRecDepth 100000 in
theorem c_X7_isLatest (l : Launch) (D : va_G) (cy : Nat → ClassId) (A : Nat → Prop) (μ : MU) (m0 : Nat) (ad : Nat → Nat) (G : GS) (hM : RepM cy m0 ad G μ) (i1 : Nat) (hi1 : i1 < 60) : Met l yX7_isLatest (WS yX7_isLatest cX7_isLatest 2 (Option.some Jvm.ClassFile.FieldType.boolean)) { frames := 0, cells := 0, slots := 0, locals := 0 } (va_Pc [.ref m0, .int (nI i1)] (Wd D cy A μ)) (QcRead (f_X7_isLatest G i1)) 0 0 (fun _ => False) := by
  refine q_met (by decide) (Nat.le_of_ble_eq_true rfl) ?_
  intro p e s m below meth c F w hr hlk hnm ls hl
  have F : CallFix p m c cX7_isLatest 2 s _ BIG RX7 := F
  have hl : lv_has ls 2 [(0, .ref m0), (1, .int (nI i1))] := hl
  refine lv_aload_n F.1 F.2.1 dX7_isLatest_0 rfl (lv_at hl 0 rfl) ?_
  refine gf_X7_142 F w hM.1 rfl dX7_isLatest_1 ?_
  refine lv_aload_n F.1 F.2.1 dX7_isLatest_4 rfl (lv_at hl 0 rfl) ?_
  refine gf_X7_92 F w hM.1 rfl dX7_isLatest_5 ?_
  refine lv_iload_n F.1 F.2.1 dX7_isLatest_8 rfl (lv_at hl 1 rfl) ?_
  refine m_ild F w hM 32 (by decide) rfl rfl i1 (show i1 < 60 by omega) (by decide) dX7_isLatest_9 ?_
  refine lv_isub F.1 F.2.1 dX7_isLatest_10 ?_
  refine lv_sipush (v := 1095) F.1 F.2.1 dX7_isLatest_11 (by decide) ?_
  refine jn0 (m := m) (ls := ls) (rest := []) (if 1095 ≤ (G 1 0) - (G 32 i1) then 0 else 1) 22 (fun J_1 => ?_) ?_
  · refine lv_icmp_ge (tgt := 21) F.1 F.2.1 dX7_isLatest_14 (by decide) (fun c_2 => ?_) (fun c_2 => ?_)
    · refine lv_iconst (v := 0) F.1 F.2.1 dX7_isLatest_21 (by decide) ?_
      exact jn_a (if_pos c_2) J_1
    · refine lv_iconst (v := 1) F.1 F.2.1 dX7_isLatest_17 (by decide) ?_
      refine lv_goto (tgt := 22) F.1 F.2.1 dX7_isLatest_18 (by decide) ?_
      exact jn_a (if_neg c_2) J_1
  exact q_retz F hr hlk rfl (nz_ite nz0 nz1) dX7_isLatest_22
def f_X7_counts (G : GS) (i1 : Nat) : Int32 := if G 38 i1 = (-1) then 0 else (if 2 ≤ G 40 i1 then 0 else 1)
theorem nz_f_X7_counts (G : GS) (i1 : Nat) : nz (f_X7_counts G i1) := (nz_ite nz0 (nz_ite nz0 nz1))
set_option maxHeartbeats 4000000 in
set_option maxRecDepth 100000 in
theorem c_X7_counts (l : Launch) (D : va_G) (cy : Nat → ClassId) (A : Nat → Prop) (μ : MU) (m0 : Nat) (ad : Nat → Nat) (G : GS) (hM : RepM cy m0 ad G μ) (i1 : Nat) (hi1 : i1 < 60) : Met l yX7_counts (WS yX7_counts cX7_counts 2 (Option.some Jvm.ClassFile.FieldType.boolean)) { frames := 0, cells := 0, slots := 0, locals := 0 } (va_Pc [.ref m0, .int (nI i1)] (Wd D cy A μ)) (QcRead (f_X7_counts G i1)) 0 0 (fun _ => False) := by
  refine q_met (by decide) (Nat.le_of_ble_eq_true rfl) ?_
  intro p e s m below meth c F w hr hlk hnm ls hl
  have F : CallFix p m c cX7_counts 2 s _ BIG RX7 := F
  have hl : lv_has ls 2 [(0, .ref m0), (1, .int (nI i1))] := hl
  refine lv_aload_n F.1 F.2.1 dX7_counts_0 rfl (lv_at hl 0 rfl) ?_
  refine gf_X7_110 F w hM.1 rfl dX7_counts_1 ?_
  refine lv_iload_n F.1 F.2.1 dX7_counts_4 rfl (lv_at hl 1 rfl) ?_
  refine m_ild F w hM 38 (by decide) rfl rfl i1 (show i1 < 60 by omega) (by decide) dX7_counts_5 ?_
  refine lv_iconst (v := -1) F.1 F.2.1 dX7_counts_6 (by decide) ?_
  refine jn0 (m := m) (ls := ls) (rest := []) (if G 38 i1 = (-1) then 0 else (if 2 ≤ G 40 i1 then 0 else 1)) 25 (fun J_1 => ?_) ?_
  · refine lv_icmp_eq (tgt := 24) F.1 F.2.1 dX7_counts_7 (by decide) (fun c_2 => ?_) (fun c_2 => ?_)
    · refine lv_iconst (v := 0) F.1 F.2.1 dX7_counts_24 (by decide) ?_
      exact jn_a (if_pos c_2) J_1
    · refine lv_aload_n F.1 F.2.1 dX7_counts_10 rfl (lv_at hl 0 rfl) ?_
      refine gf_X7_116 F w hM.1 rfl dX7_counts_11 ?_
      refine lv_iload_n F.1 F.2.1 dX7_counts_14 rfl (lv_at hl 1 rfl) ?_
      refine m_ild F w hM 40 (by decide) rfl rfl i1 (show i1 < 60 by omega) (by decide) dX7_counts_15 ?_
      refine lv_iconst (v := 2) F.1 F.2.1 dX7_counts_16 (by decide) ?_
      refine lv_icmp_ge (tgt := 24) F.1 F.2.1 dX7_counts_17 (by decide) (fun c_3 => ?_) (fun c_3 => ?_)
      · refine lv_iconst (v := 0) F.1 F.2.1 dX7_counts_24 (by decide) ?_
        exact jn_a ((if_neg c_2).trans (if_pos c_3)) J_1
      · refine lv_iconst (v := 1) F.1 F.2.1 dX7_counts_20 (by decide) ?_
        refine lv_goto (tgt := 25) F.1 F.2.1 dX7_counts_21 (by decide) ?_
        exact jn_a ((if_neg c_2).trans (if_neg c_3)) J_1
  exact q_retz F hr hlk rfl (nz_ite nz0 (nz_ite nz0 nz1)) dX7_counts_25
def f_X7_isBanned (G : GS) (i1 : Nat) : Int32 := if G 16 i1 < G 1 0 then 0 else 1
theorem nz_f_X7_isBanned (G : GS) (i1 : Nat) : nz (f_X7_isBanned G i1) := (nz_ite nz0 nz1)
set_option maxHeartbeats 4000000 in
set_option maxRecDepth 100000 in
theorem c_X7_isBanned (l : Launch) (D : va_G) (cy : Nat → ClassId) (A : Nat → Prop) (μ : MU) (m0 : Nat) (ad : Nat → Nat) (G : GS) (hM : RepM cy m0 ad G μ) (i1 : Nat) (hi1 : i1 < 12) : Met l yX7_isBanned (WS yX7_isBanned cX7_isBanned 2 (Option.some Jvm.ClassFile.FieldType.boolean)) { frames := 0, cells := 0, slots := 0, locals := 0 } (va_Pc [.ref m0, .int (nI i1)] (Wd D cy A μ)) (QcRead (f_X7_isBanned G i1)) 0 0 (fun _ => False) := by
  refine q_met (by decide) (Nat.le_of_ble_eq_true rfl) ?_
  intro p e s m below meth c F w hr hlk hnm ls hl
  have F : CallFix p m c cX7_isBanned 2 s _ BIG RX7 := F
  have hl : lv_has ls 2 [(0, .ref m0), (1, .int (nI i1))] := hl
  refine lv_aload_n F.1 F.2.1 dX7_isBanned_0 rfl (lv_at hl 0 rfl) ?_
  refine gf_X7_142 F w hM.1 rfl dX7_isBanned_1 ?_
  refine lv_aload_n F.1 F.2.1 dX7_isBanned_4 rfl (lv_at hl 0 rfl) ?_
  refine gf_X7_50 F w hM.1 rfl dX7_isBanned_5 ?_
  refine lv_iload_n F.1 F.2.1 dX7_isBanned_8 rfl (lv_at hl 1 rfl) ?_
  refine m_ild F w hM 16 (by decide) rfl rfl i1 (show i1 < 12 by omega) (by decide) dX7_isBanned_9 ?_
  refine jn0 (m := m) (ls := ls) (rest := []) (if G 16 i1 < G 1 0 then 0 else 1) 18 (fun J_1 => ?_) ?_
  · refine lv_icmp_gt (tgt := 17) F.1 F.2.1 dX7_isBanned_10 (by decide) (fun c_2 => ?_) (fun c_2 => ?_)
    · refine lv_iconst (v := 0) F.1 F.2.1 dX7_isBanned_17 (by decide) ?_
      exact jn_a (if_pos c_2) J_1
    · refine lv_iconst (v := 1) F.1 F.2.1 dX7_isBanned_13 (by decide) ?_
      refine lv_goto (tgt := 18) F.1 F.2.1 dX7_isBanned_14 (by decide) ?_
      exact jn_a (if_neg c_2) J_1
  exact q_retz F hr hlk rfl (nz_ite nz0 nz1) dX7_isBanned_18
def f_X7_decided (G : GS) (i1 : Nat) : Int32 := if G 40 i1 = 2 then 1 else (if G 41 i1 = 2 then 2 else 0)
set_option maxHeartbeats 4000000 in
set_option maxRecDepth 100000 in
theorem c_X7_decided (l : Launch) (D : va_G) (cy : Nat → ClassId) (A : Nat → Prop) (μ : MU) (m0 : Nat) (ad : Nat → Nat) (G : GS) (hM : RepM cy m0 ad G μ) (i1 : Nat) (hi1 : i1 < 60) : Met l yX7_decided (WS yX7_decided cX7_decided 2 (Option.some Jvm.ClassFile.FieldType.int)) { frames := 0, cells := 0, slots := 0, locals := 0 } (va_Pc [.ref m0, .int (nI i1)] (Wd D cy A μ)) (QcRead (f_X7_decided G i1)) 0 0 (fun _ => False) := by
  refine q_met (by decide) (Nat.le_of_ble_eq_true rfl) ?_
  intro p e s m below meth c F w hr hlk hnm ls hl
  have F : CallFix p m c cX7_decided 2 s _ BIG RX7 := F
  have hl : lv_has ls 2 [(0, .ref m0), (1, .int (nI i1))] := hl
  refine lv_aload_n F.1 F.2.1 dX7_decided_0 rfl (lv_at hl 0 rfl) ?_
  refine gf_X7_116 F w hM.1 rfl dX7_decided_1 ?_
  refine lv_iload_n F.1 F.2.1 dX7_decided_4 rfl (lv_at hl 1 rfl) ?_
  refine m_ild F w hM 40 (by decide) rfl rfl i1 (show i1 < 60 by omega) (by decide) dX7_decided_5 ?_
  refine lv_iconst (v := 2) F.1 F.2.1 dX7_decided_6 (by decide) ?_
  refine jn0 (m := m) (ls := ls) (rest := []) (if G 40 i1 = 2 then 1 else (if G 41 i1 = 2 then 2 else 0)) 29 (fun J_1 => ?_) ?_
  · refine lv_icmp_ne (tgt := 14) F.1 F.2.1 dX7_decided_7 (by decide) (fun c_2 => ?_) (fun c_2 => ?_)
    · refine lv_aload_n F.1 F.2.1 dX7_decided_14 rfl (lv_at hl 0 rfl) ?_
      refine gf_X7_119 F w hM.1 rfl dX7_decided_15 ?_
      refine lv_iload_n F.1 F.2.1 dX7_decided_18 rfl (lv_at hl 1 rfl) ?_
      refine m_ild F w hM 41 (by decide) rfl rfl i1 (show i1 < 60 by omega) (by decide) dX7_decided_19 ?_
      refine lv_iconst (v := 2) F.1 F.2.1 dX7_decided_20 (by decide) ?_
      refine lv_icmp_ne (tgt := 28) F.1 F.2.1 dX7_decided_21 (by decide) (fun c_3 => ?_) (fun c_3 => ?_)
      · refine lv_iconst (v := 0) F.1 F.2.1 dX7_decided_28 (by decide) ?_
        exact jn_a ((if_neg c_2).trans (if_neg c_3)) J_1
      · refine lv_iconst (v := 2) F.1 F.2.1 dX7_decided_24 (by decide) ?_
        refine lv_goto (tgt := 29) F.1 F.2.1 dX7_decided_25 (by decide) ?_
        exact jn_a ((if_neg c_2).trans (if_pos c_3)) J_1
    · refine lv_iconst (v := 1) F.1 F.2.1 dX7_decided_10 (by decide) ?_
      refine lv_goto (tgt := 29) F.1 F.2.1 dX7_decided_11 (by decide) ?_
      exact jn_a (if_pos c_2) J_1
  exact q_reti F hr hlk rfl dX7_decided_29
def L_X7_isGroundFor_5_3 (G : GS) (i1 : Nat) (x2 : Int32) : Nat → Int32
  | 0 => 0
  | k5 + 1 => if L_X7_isGroundFor_5_3 G i1 x2 k5 = 0 then (if G 24 k5 = x2 then (if f_X7_isInForce G k5 i1 = 0 then 0 else 1) else 0) else 1
theorem nz_L_X7_isGroundFor_5_3 (G : GS) (i1 : Nat) (x2 : Int32) : ∀ n : Nat, nz (L_X7_isGroundFor_5_3 G i1 x2 n)
  | 0 => nz0
  | k5 + 1 => (nz_ite (nz_ite (nz_ite nz0 nz1) nz0) nz1)
def f_X7_isGroundFor (G : GS) (i1 : Nat) (x2 : Int32) : Int32 := L_X7_isGroundFor_5_3 G i1 x2 (gnR G)
theorem nz_f_X7_isGroundFor (G : GS) (i1 : Nat) (x2 : Int32) : nz (f_X7_isGroundFor G i1 x2) := (nz_L_X7_isGroundFor_5_3 _ _ _ _)
set_option maxHeartbeats 4000000 in
set_option maxRecDepth 100000 in
theorem c_X7_isGroundFor (l : Launch) (D : va_G) (cy : Nat → ClassId) (A : Nat → Prop) (μ : MU) (m0 : Nat) (ad : Nat → Nat) (G : GS) (hM : RepM cy m0 ad G μ) (i1 : Nat) (x2 : Int32) (hi1 : i1 < 12) (hI : InvM G) : Met l yX7_isGroundFor (WS yX7_isGroundFor cX7_isGroundFor 5 (Option.some Jvm.ClassFile.FieldType.boolean)) { frames := 2, cells := 0, slots := 0, locals := 44 } (va_Pc [.ref m0, .int (nI i1), .int x2] (Wd D cy A μ)) (QcRead (f_X7_isGroundFor G i1 x2)) 0 0 (fun _ => False) := by
  refine q_met (by decide) (Nat.le_of_ble_eq_true rfl) ?_
  intro p e s m below meth c F w hr hlk hnm ls hl
  have F : CallFix p m c cX7_isGroundFor 5 s _ BIG RX7 := F
  have hl : lv_has ls 5 [(0, .ref m0), (1, .int (nI i1)), (2, .int x2)] := hl
  have hnR := hI.r.2
  refine lv_iconst (v := 0) F.1 F.2.1 dX7_isGroundFor_0 (by decide) ?_
  refine lv_istore_n (lv' := [(3, .int 0), (0, .ref m0), (1, .int (nI i1)), (2, .int x2)]) F.1 F.2.1 dX7_isGroundFor_1 rfl hl (by decide) rfl (fun ls hl => ?_)
  refine lv_iconst (v := 0) F.1 F.2.1 dX7_isGroundFor_2 (by decide) ?_
  refine lv_istore (lv' := [(4, .int 0), (3, .int 0), (0, .ref m0), (1, .int (nI i1)), (2, .int x2)]) F.1 F.2.1 dX7_isGroundFor_3 hl (by decide) rfl (fun ls hl => ?_)
  refine q_loop (P := fun k5 ls => lv_has ls 5 [(4, .int (nI k5)), (3, .int (L_X7_isGroundFor_5_3 G i1 x2 k5)), (0, .ref m0), (1, .int (nI i1)), (2, .int x2)]) (gnR G) (fun k5 ls hk5 hl ih5 => ?_) 0 ls (Nat.zero_le _) (lv_cg (lv_sub hl [0, 1, 2, 3, 4] rfl) rfl)
  refine lv_iload F.1 F.2.1 dX7_isGroundFor_5 (lv_at hl 0 rfl) ?_
  refine lv_aload_n F.1 F.2.1 dX7_isGroundFor_7 rfl (lv_at hl 2 rfl) ?_
  refine gf_X7_156 F w hM.1 rfl dX7_isGroundFor_8 ?_
  refine lv_icmp_ge (tgt := 51) F.1 F.2.1 dX7_isGroundFor_11 (by decide) (fun c_1 => ?_) (fun c_1 => ?_)
  rotate_left
  · have hlt5 : k5 < (gnR G) := GB_ilt hI.r.1 (Nat.lt_of_le_of_lt hI.r.2 (by decide)) hk5 c_1
    refine lv_iload_n F.1 F.2.1 dX7_isGroundFor_14 rfl (lv_at hl 1 rfl) ?_
    refine jn0 (m := m) (ls := ls) (rest := []) (if L_X7_isGroundFor_5_3 G i1 x2 k5 = 0 then (if G 24 k5 = x2 then (if f_X7_isInForce G k5 i1 = 0 then 0 else 1) else 0) else 1) 44 (fun J_2 => ?_) ?_
    · refine lv_if_ne (tgt := 39) F.1 F.2.1 dX7_isGroundFor_15 (by decide) (fun c_3 => ?_) (fun c_3 => ?_)
      · refine lv_iconst (v := 1) F.1 F.2.1 dX7_isGroundFor_39 (by decide) ?_
        refine lv_goto (tgt := 44) F.1 F.2.1 dX7_isGroundFor_40 (by decide) ?_
        exact jn_a (if_neg c_3) J_2
      · refine lv_aload_n F.1 F.2.1 dX7_isGroundFor_18 rfl (lv_at hl 2 rfl) ?_
        refine gf_X7_71 F w hM.1 rfl dX7_isGroundFor_19 ?_
        refine lv_iload F.1 F.2.1 dX7_isGroundFor_22 (lv_at hl 0 rfl) ?_
        refine m_ild F w hM 24 (by decide) rfl rfl k5 (show k5 < 20 by omega) (by decide) dX7_isGroundFor_24 ?_
        refine lv_iload_n F.1 F.2.1 dX7_isGroundFor_25 rfl (lv_at hl 4 rfl) ?_
        refine lv_icmp_ne (tgt := 43) F.1 F.2.1 dX7_isGroundFor_26 (by decide) (fun c_4 => ?_) (fun c_4 => ?_)
        · refine lv_iconst (v := 0) F.1 F.2.1 dX7_isGroundFor_43 (by decide) ?_
          exact jn_a ((if_pos c_3).trans (if_neg c_4)) J_2
        · refine lv_aload_n F.1 F.2.1 dX7_isGroundFor_29 rfl (lv_at hl 2 rfl) ?_
          refine lv_iload F.1 F.2.1 dX7_isGroundFor_30 (lv_at hl 0 rfl) ?_
          refine lv_iload_n F.1 F.2.1 dX7_isGroundFor_32 rfl (lv_at hl 3 rfl) ?_
          refine q_rV (rest := []) F w kV_X7_163 hd_X7_isInForce (ci := 8) rfl (c_X7_isInForce l D cy A _ m0 ad G hM k5 i1 (show k5 < 20 by omega) (show i1 < 12 by omega)) hM.1 dX7_isGroundFor_33 rfl rfl hl.1 ⟨rfl, rfl, Nat.le_of_ble_eq_true rfl, Nat.le_of_ble_eq_true rfl⟩ (Nat.le_of_ble_eq_true rfl) ⟨Nat.zero_le _, Nat.zero_le _⟩ ?_
          refine lv_if_eq (tgt := 43) F.1 F.2.1 dX7_isGroundFor_36 (by decide) (fun c_5 => ?_) (fun c_5 => ?_)
          · refine lv_iconst (v := 0) F.1 F.2.1 dX7_isGroundFor_43 (by decide) ?_
            exact jn_a ((if_pos c_3).trans ((if_pos c_4).trans (if_pos c_5))) J_2
          · refine lv_iconst (v := 1) F.1 F.2.1 dX7_isGroundFor_39 (by decide) ?_
            refine lv_goto (tgt := 44) F.1 F.2.1 dX7_isGroundFor_40 (by decide) ?_
            exact jn_a ((if_pos c_3).trans ((if_pos c_4).trans (if_neg c_5))) J_2
    refine lv_istore_n (lv' := [(3, .int (if L_X7_isGroundFor_5_3 G i1 x2 k5 = 0 then (if G 24 k5 = x2 then (if f_X7_isInForce G k5 i1 = 0 then 0 else 1) else 0) else 1)), (4, .int (nI k5)), (0, .ref m0), (1, .int (nI i1)), (2, .int x2)]) F.1 F.2.1 dX7_isGroundFor_44 rfl hl (by decide) rfl (fun ls hl => ?_)
    refine lv_iinc (v := nI (k5 + 1)) (lv' := [(4, .int (nI (k5 + 1))), (3, .int (if L_X7_isGroundFor_5_3 G i1 x2 k5 = 0 then (if G 24 k5 = x2 then (if f_X7_isInForce G k5 i1 = 0 then 0 else 1) else 0) else 1)), (0, .ref m0), (1, .int (nI i1)), (2, .int x2)]) F.1 F.2.1 dX7_isGroundFor_45 hl (k := 1) rfl (nI_1 _) (by decide) rfl (fun ls hl => ?_)
    refine lv_goto (tgt := 5) F.1 F.2.1 dX7_isGroundFor_48 (by decide) ?_
    exact ih5 ls hlt5 (lv_sub hl [0, 1, 2, 3, 4] rfl)
  have hkn5 : k5 = (gnR G) := GB_ile hI.r.1 (Nat.lt_of_le_of_lt hI.r.2 (by decide)) hk5 c_1
  subst hkn5
  refine lv_iload_n F.1 F.2.1 dX7_isGroundFor_51 rfl (lv_at hl 1 rfl) ?_
  exact q_retz F hr hlk rfl (nz_L_X7_isGroundFor_5_3 _ _ _ _) dX7_isGroundFor_52
def v_X7_isOver_25 (G : GS) (i1 : Nat) : Int32 := if G 1 0 ≤ (G 19 i1) + (G 20 i1) then 0 else 1
theorem nz_v_X7_isOver_25 (G : GS) (i1 : Nat) : nz (v_X7_isOver_25 G i1) := (nz_ite nz0 nz1)
def L_X7_isOver_28_2 (G : GS) (i1 : Nat) : Nat → Int32
  | 0 => v_X7_isOver_25 G i1
  | k28 + 1 => if L_X7_isOver_28_2 G i1 k28 = 0 then (if f_X7_isIn (G 22 i1) (nI (k28 + 1)) = 0 then (if G 1 0 ≤ ((G 19 i1) + (nI (365 * (k28 + 1)))) + 90 then 0 else 1) else 0) else 1
theorem nz_L_X7_isOver_28_2 (G : GS) (i1 : Nat) : ∀ n : Nat, nz (L_X7_isOver_28_2 G i1 n)
  | 0 => (nz_v_X7_isOver_25 _ _)
  | k28 + 1 => (nz_ite (nz_ite (nz_ite nz0 nz1) nz0) nz1)
def f_X7_isOver (G : GS) (i1 : Nat) : Int32 := L_X7_isOver_28_2 G i1 ((gnT G i1 - 1) / 365)
theorem nz_f_X7_isOver (G : GS) (i1 : Nat) : nz (f_X7_isOver G i1) := (nz_L_X7_isOver_28_2 _ _ _)
set_option maxHeartbeats 4000000 in
set_option maxRecDepth 100000 in
theorem c_X7_isOver (l : Launch) (D : va_G) (cy : Nat → ClassId) (A : Nat → Prop) (μ : MU) (m0 : Nat) (ad : Nat → Nat) (G : GS) (hM : RepM cy m0 ad G μ) (i1 : Nat) (hi1 : i1 < 60) (hI : InvM G) : Met l yX7_isOver (WS yX7_isOver cX7_isOver 4 (Option.some Jvm.ClassFile.FieldType.boolean)) { frames := 1, cells := 0, slots := 0, locals := 21 } (va_Pc [.ref m0, .int (nI i1)] (Wd D cy A μ)) (QcRead (f_X7_isOver G i1)) 0 0 (fun _ => False) := by
  refine q_met (by decide) (Nat.le_of_ble_eq_true rfl) ?_
  intro p e s m below meth c F w hr hlk hnm ls hl
  have F : CallFix p m c cX7_isOver 4 s _ BIG RX7 := F
  have hl : lv_has ls 4 [(0, .ref m0), (1, .int (nI i1))] := hl
  refine lv_aload_n F.1 F.2.1 dX7_isOver_0 rfl (lv_at hl 0 rfl) ?_
  refine gf_X7_142 F w hM.1 rfl dX7_isOver_1 ?_
  refine lv_aload_n F.1 F.2.1 dX7_isOver_4 rfl (lv_at hl 0 rfl) ?_
  refine gf_X7_59 F w hM.1 rfl dX7_isOver_5 ?_
  refine lv_iload_n F.1 F.2.1 dX7_isOver_8 rfl (lv_at hl 1 rfl) ?_
  refine m_ild F w hM 19 (by decide) rfl rfl i1 (show i1 < 60 by omega) (by decide) dX7_isOver_9 ?_
  refine lv_aload_n F.1 F.2.1 dX7_isOver_10 rfl (lv_at hl 0 rfl) ?_
  refine gf_X7_62 F w hM.1 rfl dX7_isOver_11 ?_
  refine lv_iload_n F.1 F.2.1 dX7_isOver_14 rfl (lv_at hl 1 rfl) ?_
  refine m_ild F w hM 20 (by decide) rfl rfl i1 (show i1 < 60 by omega) (by decide) dX7_isOver_15 ?_
  refine lv_iadd F.1 F.2.1 dX7_isOver_16 ?_
  refine jn0 (m := m) (ls := ls) (rest := []) (if G 1 0 ≤ (G 19 i1) + (G 20 i1) then 0 else 1) 25 (fun J_1 => ?_) ?_
  · refine lv_icmp_le (tgt := 24) F.1 F.2.1 dX7_isOver_17 (by decide) (fun c_2 => ?_) (fun c_2 => ?_)
    · refine lv_iconst (v := 0) F.1 F.2.1 dX7_isOver_24 (by decide) ?_
      exact jn_a (if_pos c_2) J_1
    · refine lv_iconst (v := 1) F.1 F.2.1 dX7_isOver_20 (by decide) ?_
      refine lv_goto (tgt := 25) F.1 F.2.1 dX7_isOver_21 (by decide) ?_
      exact jn_a (if_neg c_2) J_1
  refine lv_fold (y := v_X7_isOver_25 G i1) rfl ?_
  refine lv_istore_n (lv' := [(2, .int (v_X7_isOver_25 G i1)), (0, .ref m0), (1, .int (nI i1))]) F.1 F.2.1 dX7_isOver_25 rfl hl (by decide) rfl (fun ls hl => ?_)
  refine lv_iconst (v := 1) F.1 F.2.1 dX7_isOver_26 (by decide) ?_
  refine lv_istore_n (lv' := [(3, .int 1), (2, .int (v_X7_isOver_25 G i1)), (0, .ref m0), (1, .int (nI i1))]) F.1 F.2.1 dX7_isOver_27 rfl hl (by decide) rfl (fun ls hl => ?_)
  refine q_loop (P := fun k28 ls => lv_has ls 4 [(3, .int (nI (k28 + 1))), (2, .int (L_X7_isOver_28_2 G i1 k28)), (0, .ref m0), (1, .int (nI i1))]) ((gnT G i1 - 1) / 365) (fun k28 ls hk28 hl ih28 => ?_) 0 ls (Nat.zero_le _) (lv_cg (lv_sub hl [0, 1, 2, 3] rfl) rfl)
  refine lv_sipush (v := 365) F.1 F.2.1 dX7_isOver_28 (by decide) ?_
  refine lv_iload_n F.1 F.2.1 dX7_isOver_31 rfl (lv_at hl 0 rfl) ?_
  refine lv_imul F.1 F.2.1 dX7_isOver_32 ?_
  refine lv_fold (y := nI (365 * (k28 + 1))) (pk_mul 365 (k28 + 1)) ?_
  refine lv_aload_n F.1 F.2.1 dX7_isOver_33 rfl (lv_at hl 2 rfl) ?_
  refine gf_X7_62 F w hM.1 rfl dX7_isOver_34 ?_
  refine lv_iload_n F.1 F.2.1 dX7_isOver_37 rfl (lv_at hl 3 rfl) ?_
  refine m_ild F w hM 20 (by decide) rfl rfl i1 (show i1 < 60 by omega) (by decide) dX7_isOver_38 ?_
  refine lv_icmp_ge (tgt := 93) F.1 F.2.1 dX7_isOver_39 (by decide) (fun c_3 => ?_) (fun c_3 => ?_)
  rotate_left
  · have hlt28 : k28 < ((gnT G i1 - 1) / 365) := GB_alt (hI.t hi1).1 (hI.t hi1).2 hk28 c_3
    refine lv_iload_n F.1 F.2.1 dX7_isOver_42 rfl (lv_at hl 1 rfl) ?_
    refine jn0 (m := m) (ls := ls) (rest := []) (if L_X7_isOver_28_2 G i1 k28 = 0 then (if f_X7_isIn (G 22 i1) (nI (k28 + 1)) = 0 then (if G 1 0 ≤ ((G 19 i1) + (nI (365 * (k28 + 1)))) + 90 then 0 else 1) else 0) else 1) 86 (fun J_4 => ?_) ?_
    · refine lv_if_ne (tgt := 81) F.1 F.2.1 dX7_isOver_43 (by decide) (fun c_5 => ?_) (fun c_5 => ?_)
      · refine lv_iconst (v := 1) F.1 F.2.1 dX7_isOver_81 (by decide) ?_
        refine lv_goto (tgt := 86) F.1 F.2.1 dX7_isOver_82 (by decide) ?_
        exact jn_a (if_neg c_5) J_4
      · refine lv_aload_n F.1 F.2.1 dX7_isOver_46 rfl (lv_at hl 2 rfl) ?_
        refine gf_X7_68 F w hM.1 rfl dX7_isOver_47 ?_
        refine lv_iload_n F.1 F.2.1 dX7_isOver_50 rfl (lv_at hl 3 rfl) ?_
        refine m_ild F w hM 22 (by decide) rfl rfl i1 (show i1 < 60 by omega) (by decide) dX7_isOver_51 ?_
        refine lv_iload_n F.1 F.2.1 dX7_isOver_52 rfl (lv_at hl 0 rfl) ?_
        refine q_rS (rest := []) F w kS_X7_159 hd_X7_isIn (c_X7_isIn l D cy A _ (G 22 i1) (nI (k28 + 1))) dX7_isOver_53 rfl rfl hl.1 ⟨rfl, rfl, Nat.le_of_ble_eq_true rfl, Nat.le_of_ble_eq_true rfl⟩ (Nat.le_of_ble_eq_true rfl) ⟨Nat.zero_le _, Nat.zero_le _⟩ ?_
        refine lv_if_ne (tgt := 85) F.1 F.2.1 dX7_isOver_56 (by decide) (fun c_6 => ?_) (fun c_6 => ?_)
        · refine lv_iconst (v := 0) F.1 F.2.1 dX7_isOver_85 (by decide) ?_
          exact jn_a ((if_pos c_5).trans (if_neg c_6)) J_4
        · refine lv_aload_n F.1 F.2.1 dX7_isOver_59 rfl (lv_at hl 2 rfl) ?_
          refine gf_X7_142 F w hM.1 rfl dX7_isOver_60 ?_
          refine lv_aload_n F.1 F.2.1 dX7_isOver_63 rfl (lv_at hl 2 rfl) ?_
          refine gf_X7_59 F w hM.1 rfl dX7_isOver_64 ?_
          refine lv_iload_n F.1 F.2.1 dX7_isOver_67 rfl (lv_at hl 3 rfl) ?_
          refine m_ild F w hM 19 (by decide) rfl rfl i1 (show i1 < 60 by omega) (by decide) dX7_isOver_68 ?_
          refine lv_sipush (v := 365) F.1 F.2.1 dX7_isOver_69 (by decide) ?_
          refine lv_iload_n F.1 F.2.1 dX7_isOver_72 rfl (lv_at hl 0 rfl) ?_
          refine lv_imul F.1 F.2.1 dX7_isOver_73 ?_
          refine lv_fold (y := nI (365 * (k28 + 1))) (pk_mul 365 (k28 + 1)) ?_
          refine lv_iadd F.1 F.2.1 dX7_isOver_74 ?_
          refine lv_bipush (v := 90) F.1 F.2.1 dX7_isOver_75 (by decide) ?_
          refine lv_iadd F.1 F.2.1 dX7_isOver_77 ?_
          refine lv_icmp_le (tgt := 85) F.1 F.2.1 dX7_isOver_78 (by decide) (fun c_7 => ?_) (fun c_7 => ?_)
          · refine lv_iconst (v := 0) F.1 F.2.1 dX7_isOver_85 (by decide) ?_
            exact jn_a ((if_pos c_5).trans ((if_pos c_6).trans (if_pos c_7))) J_4
          · refine lv_iconst (v := 1) F.1 F.2.1 dX7_isOver_81 (by decide) ?_
            refine lv_goto (tgt := 86) F.1 F.2.1 dX7_isOver_82 (by decide) ?_
            exact jn_a ((if_pos c_5).trans ((if_pos c_6).trans (if_neg c_7))) J_4
    refine lv_istore_n (lv' := [(2, .int (if L_X7_isOver_28_2 G i1 k28 = 0 then (if f_X7_isIn (G 22 i1) (nI (k28 + 1)) = 0 then (if G 1 0 ≤ ((G 19 i1) + (nI (365 * (k28 + 1)))) + 90 then 0 else 1) else 0) else 1)), (3, .int (nI (k28 + 1))), (0, .ref m0), (1, .int (nI i1))]) F.1 F.2.1 dX7_isOver_86 rfl hl (by decide) rfl (fun ls hl => ?_)
    refine lv_iinc (v := nI (k28 + 1 + 1)) (lv' := [(3, .int (nI (k28 + 1 + 1))), (2, .int (if L_X7_isOver_28_2 G i1 k28 = 0 then (if f_X7_isIn (G 22 i1) (nI (k28 + 1)) = 0 then (if G 1 0 ≤ ((G 19 i1) + (nI (365 * (k28 + 1)))) + 90 then 0 else 1) else 0) else 1)), (0, .ref m0), (1, .int (nI i1))]) F.1 F.2.1 dX7_isOver_87 hl (k := 1) rfl (nI_1 _) (by decide) rfl (fun ls hl => ?_)
    refine lv_goto (tgt := 28) F.1 F.2.1 dX7_isOver_90 (by decide) ?_
    exact ih28 ls hlt28 (lv_sub hl [0, 1, 2, 3] rfl)
  have hkn28 : k28 = ((gnT G i1 - 1) / 365) := GB_ale (hI.t hi1).1 (hI.t hi1).2 hk28 c_3
  subst hkn28
  refine lv_iload_n F.1 F.2.1 dX7_isOver_93 rfl (lv_at hl 1 rfl) ?_
  exact q_retz F hr hlk rfl (nz_L_X7_isOver_28_2 _ _ _) dX7_isOver_94
def f_X7_lapsedAlone (G : GS) (i1 : Nat) : Int32 := if G 18 i1 = 0 then 1 else (if f_X7_isOver G i1 = 0 then (if G 2 (G 21 i1).toNatClampNeg = 0 then 0 else 1) else 1)
theorem nz_f_X7_lapsedAlone (G : GS) (i1 : Nat) : nz (f_X7_lapsedAlone G i1) := (nz_ite nz1 (nz_ite (nz_ite nz0 nz1) nz1))
set_option maxHeartbeats 4000000 in
set_option maxRecDepth 100000 in
theorem c_X7_lapsedAlone (l : Launch) (D : va_G) (cy : Nat → ClassId) (A : Nat → Prop) (μ : MU) (m0 : Nat) (ad : Nat → Nat) (G : GS) (hM : RepM cy m0 ad G μ) (i1 : Nat) (hi1 : i1 < 60) (hI : InvM G) : Met l yX7_lapsedAlone (WS yX7_lapsedAlone cX7_lapsedAlone 2 (Option.some Jvm.ClassFile.FieldType.boolean)) { frames := 2, cells := 0, slots := 0, locals := 44 } (va_Pc [.ref m0, .int (nI i1)] (Wd D cy A μ)) (QcRead (f_X7_lapsedAlone G i1)) 0 0 (fun _ => False) := by
  refine q_met (by decide) (Nat.le_of_ble_eq_true rfl) ?_
  intro p e s m below meth c F w hr hlk hnm ls hl
  have F : CallFix p m c cX7_lapsedAlone 2 s _ BIG RX7 := F
  have hl : lv_has ls 2 [(0, .ref m0), (1, .int (nI i1))] := hl
  refine lv_aload_n F.1 F.2.1 dX7_lapsedAlone_0 rfl (lv_at hl 0 rfl) ?_
  refine gf_X7_56 F w hM.1 rfl dX7_lapsedAlone_1 ?_
  refine lv_iload_n F.1 F.2.1 dX7_lapsedAlone_4 rfl (lv_at hl 1 rfl) ?_
  refine m_zld F w hM 18 (by decide) rfl rfl i1 (show i1 < 60 by omega) (by decide) dX7_lapsedAlone_5 ?_
  refine jn0 (m := m) (ls := ls) (rest := []) (if G 18 i1 = 0 then 1 else (if f_X7_isOver G i1 = 0 then (if G 2 (G 21 i1).toNatClampNeg = 0 then 0 else 1) else 1)) 36 (fun J_1 => ?_) ?_
  · refine lv_if_eq (tgt := 31) F.1 F.2.1 dX7_lapsedAlone_6 (by decide) (fun c_2 => ?_) (fun c_2 => ?_)
    · refine lv_iconst (v := 1) F.1 F.2.1 dX7_lapsedAlone_31 (by decide) ?_
      refine lv_goto (tgt := 36) F.1 F.2.1 dX7_lapsedAlone_32 (by decide) ?_
      exact jn_a (if_pos c_2) J_1
    · refine lv_aload_n F.1 F.2.1 dX7_lapsedAlone_9 rfl (lv_at hl 0 rfl) ?_
      refine lv_iload_n F.1 F.2.1 dX7_lapsedAlone_10 rfl (lv_at hl 1 rfl) ?_
      refine q_rV (rest := []) F w kV_X7_166 hd_X7_isOver (ci := 8) rfl (c_X7_isOver l D cy A _ m0 ad G hM i1 (show i1 < 60 by omega) hI) hM.1 dX7_lapsedAlone_11 rfl rfl hl.1 ⟨rfl, rfl, Nat.le_of_ble_eq_true rfl, Nat.le_of_ble_eq_true rfl⟩ (Nat.le_of_ble_eq_true rfl) ⟨Nat.zero_le _, Nat.zero_le _⟩ ?_
      refine lv_if_ne (tgt := 31) F.1 F.2.1 dX7_lapsedAlone_14 (by decide) (fun c_3 => ?_) (fun c_3 => ?_)
      · refine lv_iconst (v := 1) F.1 F.2.1 dX7_lapsedAlone_31 (by decide) ?_
        refine lv_goto (tgt := 36) F.1 F.2.1 dX7_lapsedAlone_32 (by decide) ?_
        exact jn_a ((if_neg c_2).trans (if_neg c_3)) J_1
      · refine lv_aload_n F.1 F.2.1 dX7_lapsedAlone_17 rfl (lv_at hl 0 rfl) ?_
        refine gf_X7_7 F w hM.1 rfl dX7_lapsedAlone_18 ?_
        refine lv_aload_n F.1 F.2.1 dX7_lapsedAlone_21 rfl (lv_at hl 0 rfl) ?_
        refine gf_X7_65 F w hM.1 rfl dX7_lapsedAlone_22 ?_
        refine lv_iload_n F.1 F.2.1 dX7_lapsedAlone_25 rfl (lv_at hl 1 rfl) ?_
        refine m_ild F w hM 21 (by decide) rfl rfl i1 (show i1 < 60 by omega) (by decide) dX7_lapsedAlone_26 ?_
        refine q_zald F w (hM.2.1 2 (by decide) rfl) (hI.is hi1) dX7_lapsedAlone_27 ?_
        refine lv_if_eq (tgt := 35) F.1 F.2.1 dX7_lapsedAlone_28 (by decide) (fun c_4 => ?_) (fun c_4 => ?_)
        · refine lv_iconst (v := 0) F.1 F.2.1 dX7_lapsedAlone_35 (by decide) ?_
          exact jn_a ((if_neg c_2).trans ((if_pos c_3).trans (if_pos c_4))) J_1
        · refine lv_iconst (v := 1) F.1 F.2.1 dX7_lapsedAlone_31 (by decide) ?_
          refine lv_goto (tgt := 36) F.1 F.2.1 dX7_lapsedAlone_32 (by decide) ?_
          exact jn_a ((if_neg c_2).trans ((if_pos c_3).trans (if_neg c_4))) J_1
  exact q_retz F hr hlk rfl (nz_ite nz1 (nz_ite (nz_ite nz0 nz1) nz1)) dX7_lapsedAlone_36
def v_X7_isLapsed_36 (G : GS) (i1 : Nat) (i2 : Nat) : Int32 := if f_X7_lapsedAlone G (5 * i1 + i2) = 0 then (if f_X7_lapsedAlone G (5 * i1 + 1) = 0 then 0 else 1) else 1
theorem nz_v_X7_isLapsed_36 (G : GS) (i1 : Nat) (i2 : Nat) : nz (v_X7_isLapsed_36 G i1 i2) := (nz_ite (nz_ite nz0 nz1) nz1)
def v_X7_isLapsed_73 (G : GS) (i1 : Nat) (i2 : Nat) : Int32 := if (if nI i2 = 2 then v_X7_isLapsed_36 G i1 i2 else f_X7_lapsedAlone G (5 * i1 + i2) : Int32) = 0 then (if f_X7_lapsedAlone G (5 * i1 + 0) = 0 then 0 else 1) else 1
theorem nz_v_X7_isLapsed_73 (G : GS) (i1 : Nat) (i2 : Nat) : nz (v_X7_isLapsed_73 G i1 i2) := (nz_ite (nz_ite nz0 nz1) nz1)
def f_X7_isLapsed (G : GS) (i1 : Nat) (i2 : Nat) : Int32 := if nI i2 = 1 then v_X7_isLapsed_73 G i1 i2 else (if nI i2 = 2 then v_X7_isLapsed_73 G i1 i2 else (if nI i2 = 3 then v_X7_isLapsed_73 G i1 i2 else if nI i2 = 2 then v_X7_isLapsed_36 G i1 i2 else f_X7_lapsedAlone G (5 * i1 + i2)))
theorem nz_f_X7_isLapsed (G : GS) (i1 : Nat) (i2 : Nat) : nz (f_X7_isLapsed G i1 i2) := (nz_ite (nz_v_X7_isLapsed_73 _ _ _) (nz_ite (nz_v_X7_isLapsed_73 _ _ _) (nz_ite (nz_v_X7_isLapsed_73 _ _ _) (nz_ite (nz_v_X7_isLapsed_36 _ _ _) (nz_f_X7_lapsedAlone _ _)))))
set_option maxHeartbeats 4000000 in
set_option maxRecDepth 100000 in
theorem c_X7_isLapsed (l : Launch) (D : va_G) (cy : Nat → ClassId) (A : Nat → Prop) (μ : MU) (m0 : Nat) (ad : Nat → Nat) (G : GS) (hM : RepM cy m0 ad G μ) (i1 : Nat) (i2 : Nat) (hi1 : i1 < 12) (hi2 : i2 < 5) (hI : InvM G) : Met l yX7_isLapsed (WS yX7_isLapsed cX7_isLapsed 4 (Option.some Jvm.ClassFile.FieldType.boolean)) { frames := 3, cells := 0, slots := 0, locals := 65 } (va_Pc [.ref m0, .int (nI i1), .int (nI i2)] (Wd D cy A μ)) (QcRead (f_X7_isLapsed G i1 i2)) 0 0 (fun _ => False) := by
  refine q_met (by decide) (Nat.le_of_ble_eq_true rfl) ?_
  intro p e s m below meth c F w hr hlk hnm ls hl
  have F : CallFix p m c cX7_isLapsed 4 s _ BIG RX7 := F
  have hl : lv_has ls 4 [(0, .ref m0), (1, .int (nI i1)), (2, .int (nI i2))] := hl
  refine lv_aload_n F.1 F.2.1 dX7_isLapsed_0 rfl (lv_at hl 0 rfl) ?_
  refine lv_iload_n F.1 F.2.1 dX7_isLapsed_1 rfl (lv_at hl 1 rfl) ?_
  refine lv_iload_n F.1 F.2.1 dX7_isLapsed_2 rfl (lv_at hl 2 rfl) ?_
  refine q_rS (rest := [.ref m0]) F w kS_X7_169 hd_X7_at (c_X7_at l D cy A _ i1 i2) dX7_isLapsed_3 rfl rfl hl.1 ⟨rfl, rfl, Nat.le_of_ble_eq_true rfl, Nat.le_of_ble_eq_true rfl⟩ (Nat.le_of_ble_eq_true rfl) ⟨Nat.zero_le _, Nat.zero_le _⟩ ?_
  refine lv_fold (y := nI (5 * i1 + i2)) rfl ?_
  refine q_rV (rest := []) F w kV_X7_173 hd_X7_lapsedAlone (ci := 8) rfl (c_X7_lapsedAlone l D cy A _ m0 ad G hM (5 * i1 + i2) (show 5 * i1 + i2 < 60 by omega) hI) hM.1 dX7_isLapsed_6 rfl rfl hl.1 ⟨rfl, rfl, Nat.le_of_ble_eq_true rfl, Nat.le_of_ble_eq_true rfl⟩ (Nat.le_of_ble_eq_true rfl) ⟨Nat.zero_le _, Nat.zero_le _⟩ ?_
  refine lv_istore_n (lv' := [(3, .int (f_X7_lapsedAlone G (5 * i1 + i2))), (0, .ref m0), (1, .int (nI i1)), (2, .int (nI i2))]) F.1 F.2.1 dX7_isLapsed_9 rfl hl (by decide) rfl (fun ls hl => ?_)
  refine lv_iload_n F.1 F.2.1 dX7_isLapsed_10 rfl (lv_at hl 3 rfl) ?_
  refine lv_iconst (v := 2) F.1 F.2.1 dX7_isLapsed_11 (by decide) ?_
  refine jnl (m := m) 4 [(3, .int (if nI i2 = 2 then v_X7_isLapsed_36 G i1 i2 else f_X7_lapsedAlone G (5 * i1 + i2))), (0, .ref m0), (1, .int (nI i1)), (2, .int (nI i2))] [] 37 (fun J_1 => ?_) ?_
  · refine lv_icmp_ne (tgt := 37) F.1 F.2.1 dX7_isLapsed_12 (by decide) (fun c_2 => ?_) (fun c_2 => ?_)
    · exact J_1 ls (lv_sub hl [0, 1, 2, 3] (by rw [((if_neg c_2) : (if nI i2 = 2 then v_X7_isLapsed_36 G i1 i2 else f_X7_lapsedAlone G (5 * i1 + i2)) = f_X7_lapsedAlone G (5 * i1 + i2))] <;> rfl))
    · refine lv_iload_n F.1 F.2.1 dX7_isLapsed_15 rfl (lv_at hl 0 rfl) ?_
      refine jn0 (m := m) (ls := ls) (rest := []) (if f_X7_lapsedAlone G (5 * i1 + i2) = 0 then (if f_X7_lapsedAlone G (5 * i1 + 1) = 0 then 0 else 1) else 1) 36 (fun J_3 => ?_) ?_
      · refine lv_if_ne (tgt := 31) F.1 F.2.1 dX7_isLapsed_16 (by decide) (fun c_4 => ?_) (fun c_4 => ?_)
        · refine lv_iconst (v := 1) F.1 F.2.1 dX7_isLapsed_31 (by decide) ?_
          refine lv_goto (tgt := 36) F.1 F.2.1 dX7_isLapsed_32 (by decide) ?_
          exact jn_a (if_neg c_4) J_3
        · refine lv_aload_n F.1 F.2.1 dX7_isLapsed_19 rfl (lv_at hl 1 rfl) ?_
          refine lv_iload_n F.1 F.2.1 dX7_isLapsed_20 rfl (lv_at hl 2 rfl) ?_
          refine lv_iconst (v := 1) F.1 F.2.1 dX7_isLapsed_21 (by decide) ?_
          refine q_rS (rest := [.ref m0]) F w kS_X7_169 hd_X7_at (c_X7_at l D cy A _ i1 1) dX7_isLapsed_22 rfl rfl hl.1 ⟨rfl, rfl, Nat.le_of_ble_eq_true rfl, Nat.le_of_ble_eq_true rfl⟩ (Nat.le_of_ble_eq_true rfl) ⟨Nat.zero_le _, Nat.zero_le _⟩ ?_
          refine lv_fold (y := nI (5 * i1 + 1)) rfl ?_
          refine q_rV (rest := []) F w kV_X7_173 hd_X7_lapsedAlone (ci := 8) rfl (c_X7_lapsedAlone l D cy A _ m0 ad G hM (5 * i1 + 1) (show 5 * i1 + 1 < 60 by omega) hI) hM.1 dX7_isLapsed_25 rfl rfl hl.1 ⟨rfl, rfl, Nat.le_of_ble_eq_true rfl, Nat.le_of_ble_eq_true rfl⟩ (Nat.le_of_ble_eq_true rfl) ⟨Nat.zero_le _, Nat.zero_le _⟩ ?_
          refine lv_if_eq (tgt := 35) F.1 F.2.1 dX7_isLapsed_28 (by decide) (fun c_5 => ?_) (fun c_5 => ?_)
          · refine lv_iconst (v := 0) F.1 F.2.1 dX7_isLapsed_35 (by decide) ?_
            exact jn_a ((if_pos c_4).trans (if_pos c_5)) J_3
          · refine lv_iconst (v := 1) F.1 F.2.1 dX7_isLapsed_31 (by decide) ?_
            refine lv_goto (tgt := 36) F.1 F.2.1 dX7_isLapsed_32 (by decide) ?_
            exact jn_a ((if_pos c_4).trans (if_neg c_5)) J_3
      refine lv_fold (y := v_X7_isLapsed_36 G i1 i2) rfl ?_
      refine lv_istore_n (lv' := [(3, .int (v_X7_isLapsed_36 G i1 i2)), (0, .ref m0), (1, .int (nI i1)), (2, .int (nI i2))]) F.1 F.2.1 dX7_isLapsed_36 rfl hl (by decide) rfl (fun ls hl => ?_)
      exact J_1 ls (lv_sub hl [0, 1, 2, 3] (by rw [((if_pos c_2) : (if nI i2 = 2 then v_X7_isLapsed_36 G i1 i2 else f_X7_lapsedAlone G (5 * i1 + i2)) = v_X7_isLapsed_36 G i1 i2)] <;> rfl))
  intro ls hl
  refine lv_iload_n F.1 F.2.1 dX7_isLapsed_37 rfl (lv_at hl 3 rfl) ?_
  refine lv_iconst (v := 1) F.1 F.2.1 dX7_isLapsed_38 (by decide) ?_
  refine jnl (m := m) 4 [(3, .int (if nI i2 = 1 then v_X7_isLapsed_73 G i1 i2 else (if nI i2 = 2 then v_X7_isLapsed_73 G i1 i2 else (if nI i2 = 3 then v_X7_isLapsed_73 G i1 i2 else if nI i2 = 2 then v_X7_isLapsed_36 G i1 i2 else f_X7_lapsedAlone G (5 * i1 + i2))))), (0, .ref m0), (1, .int (nI i1)), (2, .int (nI i2))] [] 74 (fun J_6 => ?_) ?_
  · refine lv_icmp_eq (tgt := 52) F.1 F.2.1 dX7_isLapsed_39 (by decide) (fun c_7 => ?_) (fun c_7 => ?_)
    · refine lv_iload_n F.1 F.2.1 dX7_isLapsed_52 rfl (lv_at hl 0 rfl) ?_
      refine jn0 (m := m) (ls := ls) (rest := []) (if (if nI i2 = 2 then v_X7_isLapsed_36 G i1 i2 else f_X7_lapsedAlone G (5 * i1 + i2) : Int32) = 0 then (if f_X7_lapsedAlone G (5 * i1 + 0) = 0 then 0 else 1) else 1) 73 (fun J_8 => ?_) ?_
      · refine lv_if_ne (tgt := 68) F.1 F.2.1 dX7_isLapsed_53 (by decide) (fun c_9 => ?_) (fun c_9 => ?_)
        · refine lv_iconst (v := 1) F.1 F.2.1 dX7_isLapsed_68 (by decide) ?_
          refine lv_goto (tgt := 73) F.1 F.2.1 dX7_isLapsed_69 (by decide) ?_
          exact jn_a (if_neg c_9) J_8
        · refine lv_aload_n F.1 F.2.1 dX7_isLapsed_56 rfl (lv_at hl 1 rfl) ?_
          refine lv_iload_n F.1 F.2.1 dX7_isLapsed_57 rfl (lv_at hl 2 rfl) ?_
          refine lv_iconst (v := 0) F.1 F.2.1 dX7_isLapsed_58 (by decide) ?_
          refine q_rS (rest := [.ref m0]) F w kS_X7_169 hd_X7_at (c_X7_at l D cy A _ i1 0) dX7_isLapsed_59 rfl rfl hl.1 ⟨rfl, rfl, Nat.le_of_ble_eq_true rfl, Nat.le_of_ble_eq_true rfl⟩ (Nat.le_of_ble_eq_true rfl) ⟨Nat.zero_le _, Nat.zero_le _⟩ ?_
          refine lv_fold (y := nI (5 * i1 + 0)) rfl ?_
          refine q_rV (rest := []) F w kV_X7_173 hd_X7_lapsedAlone (ci := 8) rfl (c_X7_lapsedAlone l D cy A _ m0 ad G hM (5 * i1 + 0) (show 5 * i1 + 0 < 60 by omega) hI) hM.1 dX7_isLapsed_62 rfl rfl hl.1 ⟨rfl, rfl, Nat.le_of_ble_eq_true rfl, Nat.le_of_ble_eq_true rfl⟩ (Nat.le_of_ble_eq_true rfl) ⟨Nat.zero_le _, Nat.zero_le _⟩ ?_
          refine lv_if_eq (tgt := 72) F.1 F.2.1 dX7_isLapsed_65 (by decide) (fun c_10 => ?_) (fun c_10 => ?_)
          · refine lv_iconst (v := 0) F.1 F.2.1 dX7_isLapsed_72 (by decide) ?_
            exact jn_a ((if_pos c_9).trans (if_pos c_10)) J_8
          · refine lv_iconst (v := 1) F.1 F.2.1 dX7_isLapsed_68 (by decide) ?_
            refine lv_goto (tgt := 73) F.1 F.2.1 dX7_isLapsed_69 (by decide) ?_
            exact jn_a ((if_pos c_9).trans (if_neg c_10)) J_8
      refine lv_fold (y := v_X7_isLapsed_73 G i1 i2) rfl ?_
      refine lv_istore_n (lv' := [(3, .int (v_X7_isLapsed_73 G i1 i2)), (0, .ref m0), (1, .int (nI i1)), (2, .int (nI i2))]) F.1 F.2.1 dX7_isLapsed_73 rfl hl (by decide) rfl (fun ls hl => ?_)
      exact J_6 ls (lv_sub hl [0, 1, 2, 3] (by rw [((if_pos c_7) : (if nI i2 = 1 then v_X7_isLapsed_73 G i1 i2 else (if nI i2 = 2 then v_X7_isLapsed_73 G i1 i2 else (if nI i2 = 3 then v_X7_isLapsed_73 G i1 i2 else if nI i2 = 2 then v_X7_isLapsed_36 G i1 i2 else f_X7_lapsedAlone G (5 * i1 + i2)))) = v_X7_isLapsed_73 G i1 i2)] <;> rfl))
    · refine lv_iload_n F.1 F.2.1 dX7_isLapsed_42 rfl (lv_at hl 3 rfl) ?_
      refine lv_iconst (v := 2) F.1 F.2.1 dX7_isLapsed_43 (by decide) ?_
      refine lv_icmp_eq (tgt := 52) F.1 F.2.1 dX7_isLapsed_44 (by decide) (fun c_11 => ?_) (fun c_11 => ?_)
      · refine lv_iload_n F.1 F.2.1 dX7_isLapsed_52 rfl (lv_at hl 0 rfl) ?_
        refine jn0 (m := m) (ls := ls) (rest := []) (if (if nI i2 = 2 then v_X7_isLapsed_36 G i1 i2 else f_X7_lapsedAlone G (5 * i1 + i2) : Int32) = 0 then (if f_X7_lapsedAlone G (5 * i1 + 0) = 0 then 0 else 1) else 1) 73 (fun J_12 => ?_) ?_
        · refine lv_if_ne (tgt := 68) F.1 F.2.1 dX7_isLapsed_53 (by decide) (fun c_13 => ?_) (fun c_13 => ?_)
          · refine lv_iconst (v := 1) F.1 F.2.1 dX7_isLapsed_68 (by decide) ?_
            refine lv_goto (tgt := 73) F.1 F.2.1 dX7_isLapsed_69 (by decide) ?_
            exact jn_a (if_neg c_13) J_12
          · refine lv_aload_n F.1 F.2.1 dX7_isLapsed_56 rfl (lv_at hl 1 rfl) ?_
            refine lv_iload_n F.1 F.2.1 dX7_isLapsed_57 rfl (lv_at hl 2 rfl) ?_
            refine lv_iconst (v := 0) F.1 F.2.1 dX7_isLapsed_58 (by decide) ?_
            refine q_rS (rest := [.ref m0]) F w kS_X7_169 hd_X7_at (c_X7_at l D cy A _ i1 0) dX7_isLapsed_59 rfl rfl hl.1 ⟨rfl, rfl, Nat.le_of_ble_eq_true rfl, Nat.le_of_ble_eq_true rfl⟩ (Nat.le_of_ble_eq_true rfl) ⟨Nat.zero_le _, Nat.zero_le _⟩ ?_
            refine lv_fold (y := nI (5 * i1 + 0)) rfl ?_
            refine q_rV (rest := []) F w kV_X7_173 hd_X7_lapsedAlone (ci := 8) rfl (c_X7_lapsedAlone l D cy A _ m0 ad G hM (5 * i1 + 0) (show 5 * i1 + 0 < 60 by omega) hI) hM.1 dX7_isLapsed_62 rfl rfl hl.1 ⟨rfl, rfl, Nat.le_of_ble_eq_true rfl, Nat.le_of_ble_eq_true rfl⟩ (Nat.le_of_ble_eq_true rfl) ⟨Nat.zero_le _, Nat.zero_le _⟩ ?_
            refine lv_if_eq (tgt := 72) F.1 F.2.1 dX7_isLapsed_65 (by decide) (fun c_14 => ?_) (fun c_14 => ?_)
            · refine lv_iconst (v := 0) F.1 F.2.1 dX7_isLapsed_72 (by decide) ?_
              exact jn_a ((if_pos c_13).trans (if_pos c_14)) J_12
            · refine lv_iconst (v := 1) F.1 F.2.1 dX7_isLapsed_68 (by decide) ?_
              refine lv_goto (tgt := 73) F.1 F.2.1 dX7_isLapsed_69 (by decide) ?_
              exact jn_a ((if_pos c_13).trans (if_neg c_14)) J_12
        refine lv_fold (y := v_X7_isLapsed_73 G i1 i2) rfl ?_
        refine lv_istore_n (lv' := [(3, .int (v_X7_isLapsed_73 G i1 i2)), (0, .ref m0), (1, .int (nI i1)), (2, .int (nI i2))]) F.1 F.2.1 dX7_isLapsed_73 rfl hl (by decide) rfl (fun ls hl => ?_)
        exact J_6 ls (lv_sub hl [0, 1, 2, 3] (by rw [(((if_neg c_7).trans (if_pos c_11)) : (if nI i2 = 1 then v_X7_isLapsed_73 G i1 i2 else (if nI i2 = 2 then v_X7_isLapsed_73 G i1 i2 else (if nI i2 = 3 then v_X7_isLapsed_73 G i1 i2 else if nI i2 = 2 then v_X7_isLapsed_36 G i1 i2 else f_X7_lapsedAlone G (5 * i1 + i2)))) = v_X7_isLapsed_73 G i1 i2)] <;> rfl))
      · refine lv_iload_n F.1 F.2.1 dX7_isLapsed_47 rfl (lv_at hl 3 rfl) ?_
        refine lv_iconst (v := 3) F.1 F.2.1 dX7_isLapsed_48 (by decide) ?_
        refine lv_icmp_ne (tgt := 74) F.1 F.2.1 dX7_isLapsed_49 (by decide) (fun c_15 => ?_) (fun c_15 => ?_)
        · exact J_6 ls (lv_sub hl [0, 1, 2, 3] (by rw [(((if_neg c_7).trans ((if_neg c_11).trans (if_neg c_15))) : (if nI i2 = 1 then v_X7_isLapsed_73 G i1 i2 else (if nI i2 = 2 then v_X7_isLapsed_73 G i1 i2 else (if nI i2 = 3 then v_X7_isLapsed_73 G i1 i2 else if nI i2 = 2 then v_X7_isLapsed_36 G i1 i2 else f_X7_lapsedAlone G (5 * i1 + i2)))) = if nI i2 = 2 then v_X7_isLapsed_36 G i1 i2 else f_X7_lapsedAlone G (5 * i1 + i2))] <;> rfl))
        · refine lv_iload_n F.1 F.2.1 dX7_isLapsed_52 rfl (lv_at hl 0 rfl) ?_
          refine jn0 (m := m) (ls := ls) (rest := []) (if (if nI i2 = 2 then v_X7_isLapsed_36 G i1 i2 else f_X7_lapsedAlone G (5 * i1 + i2) : Int32) = 0 then (if f_X7_lapsedAlone G (5 * i1 + 0) = 0 then 0 else 1) else 1) 73 (fun J_16 => ?_) ?_
          · refine lv_if_ne (tgt := 68) F.1 F.2.1 dX7_isLapsed_53 (by decide) (fun c_17 => ?_) (fun c_17 => ?_)
            · refine lv_iconst (v := 1) F.1 F.2.1 dX7_isLapsed_68 (by decide) ?_
              refine lv_goto (tgt := 73) F.1 F.2.1 dX7_isLapsed_69 (by decide) ?_
              exact jn_a (if_neg c_17) J_16
            · refine lv_aload_n F.1 F.2.1 dX7_isLapsed_56 rfl (lv_at hl 1 rfl) ?_
              refine lv_iload_n F.1 F.2.1 dX7_isLapsed_57 rfl (lv_at hl 2 rfl) ?_
              refine lv_iconst (v := 0) F.1 F.2.1 dX7_isLapsed_58 (by decide) ?_
              refine q_rS (rest := [.ref m0]) F w kS_X7_169 hd_X7_at (c_X7_at l D cy A _ i1 0) dX7_isLapsed_59 rfl rfl hl.1 ⟨rfl, rfl, Nat.le_of_ble_eq_true rfl, Nat.le_of_ble_eq_true rfl⟩ (Nat.le_of_ble_eq_true rfl) ⟨Nat.zero_le _, Nat.zero_le _⟩ ?_
              refine lv_fold (y := nI (5 * i1 + 0)) rfl ?_
              refine q_rV (rest := []) F w kV_X7_173 hd_X7_lapsedAlone (ci := 8) rfl (c_X7_lapsedAlone l D cy A _ m0 ad G hM (5 * i1 + 0) (show 5 * i1 + 0 < 60 by omega) hI) hM.1 dX7_isLapsed_62 rfl rfl hl.1 ⟨rfl, rfl, Nat.le_of_ble_eq_true rfl, Nat.le_of_ble_eq_true rfl⟩ (Nat.le_of_ble_eq_true rfl) ⟨Nat.zero_le _, Nat.zero_le _⟩ ?_
              refine lv_if_eq (tgt := 72) F.1 F.2.1 dX7_isLapsed_65 (by decide) (fun c_18 => ?_) (fun c_18 => ?_)
              · refine lv_iconst (v := 0) F.1 F.2.1 dX7_isLapsed_72 (by decide) ?_
                exact jn_a ((if_pos c_17).trans (if_pos c_18)) J_16
              · refine lv_iconst (v := 1) F.1 F.2.1 dX7_isLapsed_68 (by decide) ?_
                refine lv_goto (tgt := 73) F.1 F.2.1 dX7_isLapsed_69 (by decide) ?_
                exact jn_a ((if_pos c_17).trans (if_neg c_18)) J_16
          refine lv_fold (y := v_X7_isLapsed_73 G i1 i2) rfl ?_
          refine lv_istore_n (lv' := [(3, .int (v_X7_isLapsed_73 G i1 i2)), (0, .ref m0), (1, .int (nI i1)), (2, .int (nI i2))]) F.1 F.2.1 dX7_isLapsed_73 rfl hl (by decide) rfl (fun ls hl => ?_)
          exact J_6 ls (lv_sub hl [0, 1, 2, 3] (by rw [(((if_neg c_7).trans ((if_neg c_11).trans (if_pos c_15))) : (if nI i2 = 1 then v_X7_isLapsed_73 G i1 i2 else (if nI i2 = 2 then v_X7_isLapsed_73 G i1 i2 else (if nI i2 = 3 then v_X7_isLapsed_73 G i1 i2 else if nI i2 = 2 then v_X7_isLapsed_36 G i1 i2 else f_X7_lapsedAlone G (5 * i1 + i2)))) = v_X7_isLapsed_73 G i1 i2)] <;> rfl))
  intro ls hl
  refine lv_iload_n F.1 F.2.1 dX7_isLapsed_74 rfl (lv_at hl 0 rfl) ?_
  exact q_retz F hr hlk rfl (nz_ite (nz_v_X7_isLapsed_73 _ _ _) (nz_ite (nz_v_X7_isLapsed_73 _ _ _) (nz_ite (nz_v_X7_isLapsed_73 _ _ _) (nz_ite (nz_v_X7_isLapsed_36 _ _ _) (nz_f_X7_lapsedAlone _ _))))) dX7_isLapsed_75
def L_X7_lapsedOf_4_2 (G : GS) (i1 : Nat) : Nat → Int32
  | 0 => 0
  | k4 + 1 => (L_X7_lapsedOf_4_2 G i1 k4) ||| (if f_X7_isLapsed G i1 k4 = 0 then 0 else (1 : Int32) <<< ((nI k4) &&& 31))
def f_X7_lapsedOf (G : GS) (i1 : Nat) : Int32 := L_X7_lapsedOf_4_2 G i1 5
set_option maxHeartbeats 4000000 in
set_option maxRecDepth 100000 in
theorem c_X7_lapsedOf (l : Launch) (D : va_G) (cy : Nat → ClassId) (A : Nat → Prop) (μ : MU) (m0 : Nat) (ad : Nat → Nat) (G : GS) (hM : RepM cy m0 ad G μ) (i1 : Nat) (hi1 : i1 < 12) (hI : InvM G) : Met l yX7_lapsedOf (WS yX7_lapsedOf cX7_lapsedOf 4 (Option.some Jvm.ClassFile.FieldType.int)) { frames := 4, cells := 0, slots := 0, locals := 88 } (va_Pc [.ref m0, .int (nI i1)] (Wd D cy A μ)) (QcRead (f_X7_lapsedOf G i1)) 0 0 (fun _ => False) := by
  refine q_met (by decide) (Nat.le_of_ble_eq_true rfl) ?_
  intro p e s m below meth c F w hr hlk hnm ls hl
  have F : CallFix p m c cX7_lapsedOf 4 s _ BIG RX7 := F
  have hl : lv_has ls 4 [(0, .ref m0), (1, .int (nI i1))] := hl
  refine lv_iconst (v := 0) F.1 F.2.1 dX7_lapsedOf_0 (by decide) ?_
  refine lv_istore_n (lv' := [(2, .int 0), (0, .ref m0), (1, .int (nI i1))]) F.1 F.2.1 dX7_lapsedOf_1 rfl hl (by decide) rfl (fun ls hl => ?_)
  refine lv_iconst (v := 0) F.1 F.2.1 dX7_lapsedOf_2 (by decide) ?_
  refine lv_istore_n (lv' := [(3, .int 0), (2, .int 0), (0, .ref m0), (1, .int (nI i1))]) F.1 F.2.1 dX7_lapsedOf_3 rfl hl (by decide) rfl (fun ls hl => ?_)
  refine q_loop (P := fun k4 ls => lv_has ls 4 [(3, .int (nI k4)), (2, .int (L_X7_lapsedOf_4_2 G i1 k4)), (0, .ref m0), (1, .int (nI i1))]) 5 (fun k4 ls hk4 hl ih4 => ?_) 0 ls (Nat.zero_le _) (lv_cg (lv_sub hl [0, 1, 2, 3] rfl) rfl)
  refine lv_iload_n F.1 F.2.1 dX7_lapsedOf_4 rfl (lv_at hl 0 rfl) ?_
  refine lv_iconst (v := 5) F.1 F.2.1 dX7_lapsedOf_5 (by decide) ?_
  refine lv_icmp_ge (tgt := 34) F.1 F.2.1 dX7_lapsedOf_6 (by decide) (fun c_1 => ?_) (fun c_1 => ?_)
  rotate_left
  · have hlt4 : k4 < 5 := GB_ilt (rfl : (5 : Int32) = nI 5) (by decide) hk4 c_1
    refine lv_iload_n F.1 F.2.1 dX7_lapsedOf_9 rfl (lv_at hl 1 rfl) ?_
    refine lv_aload_n F.1 F.2.1 dX7_lapsedOf_10 rfl (lv_at hl 2 rfl) ?_
    refine lv_iload_n F.1 F.2.1 dX7_lapsedOf_11 rfl (lv_at hl 3 rfl) ?_
    refine lv_iload_n F.1 F.2.1 dX7_lapsedOf_12 rfl (lv_at hl 0 rfl) ?_
    refine q_rV (rest := [.int (L_X7_lapsedOf_4_2 G i1 k4)]) F w kV_X7_176 hd_X7_isLapsed (ci := 8) rfl (c_X7_isLapsed l D cy A _ m0 ad G hM i1 k4 (show i1 < 12 by omega) (show k4 < 5 by omega) hI) hM.1 dX7_lapsedOf_13 rfl rfl hl.1 ⟨rfl, rfl, Nat.le_of_ble_eq_true rfl, Nat.le_of_ble_eq_true rfl⟩ (Nat.le_of_ble_eq_true rfl) ⟨Nat.zero_le _, Nat.zero_le _⟩ ?_
    refine jn0 (m := m) (ls := ls) (rest := [.int (L_X7_lapsedOf_4_2 G i1 k4)]) (if f_X7_isLapsed G i1 k4 = 0 then 0 else (1 : Int32) <<< ((nI k4) &&& 31)) 26 (fun J_2 => ?_) ?_
    · refine lv_if_eq (tgt := 25) F.1 F.2.1 dX7_lapsedOf_16 (by decide) (fun c_3 => ?_) (fun c_3 => ?_)
      · refine lv_iconst (v := 0) F.1 F.2.1 dX7_lapsedOf_25 (by decide) ?_
        exact jn_a (if_pos c_3) J_2
      · refine lv_iconst (v := 1) F.1 F.2.1 dX7_lapsedOf_19 (by decide) ?_
        refine lv_iload_n F.1 F.2.1 dX7_lapsedOf_20 rfl (lv_at hl 0 rfl) ?_
        refine lv_ishl F.1 F.2.1 dX7_lapsedOf_21 ?_
        refine lv_goto (tgt := 26) F.1 F.2.1 dX7_lapsedOf_22 (by decide) ?_
        exact jn_a (if_neg c_3) J_2
    refine lv_ior F.1 F.2.1 dX7_lapsedOf_26 ?_
    refine lv_istore_n (lv' := [(2, .int ((L_X7_lapsedOf_4_2 G i1 k4) ||| (if f_X7_isLapsed G i1 k4 = 0 then 0 else (1 : Int32) <<< ((nI k4) &&& 31)))), (3, .int (nI k4)), (0, .ref m0), (1, .int (nI i1))]) F.1 F.2.1 dX7_lapsedOf_27 rfl hl (by decide) rfl (fun ls hl => ?_)
    refine lv_iinc (v := nI (k4 + 1)) (lv' := [(3, .int (nI (k4 + 1))), (2, .int ((L_X7_lapsedOf_4_2 G i1 k4) ||| (if f_X7_isLapsed G i1 k4 = 0 then 0 else (1 : Int32) <<< ((nI k4) &&& 31)))), (0, .ref m0), (1, .int (nI i1))]) F.1 F.2.1 dX7_lapsedOf_28 hl (k := 1) rfl (nI_1 _) (by decide) rfl (fun ls hl => ?_)
    refine lv_goto (tgt := 4) F.1 F.2.1 dX7_lapsedOf_31 (by decide) ?_
    exact ih4 ls hlt4 (lv_sub hl [0, 1, 2, 3] rfl)
  have hkn4 : k4 = 5 := GB_ile (rfl : (5 : Int32) = nI 5) (by decide) hk4 c_1
  subst hkn4
  refine lv_iload_n F.1 F.2.1 dX7_lapsedOf_34 rfl (lv_at hl 1 rfl) ?_
  exact q_reti F hr hlk rfl dX7_lapsedOf_35
def f_X7_hangsOnLapsed (G : GS) (i1 : Nat) (i2 : Nat) : Int32 := if nI i2 = 2 then f_X7_isLapsed G i1 1 else (if nI i2 = 1 then (if f_X7_isLapsed G i1 0 = 0 then 0 else 1) else (if nI i2 = 3 then (if f_X7_isLapsed G i1 0 = 0 then 0 else 1) else 0))
theorem nz_f_X7_hangsOnLapsed (G : GS) (i1 : Nat) (i2 : Nat) : nz (f_X7_hangsOnLapsed G i1 i2) := (nz_ite (nz_f_X7_isLapsed _ _ _) (nz_ite (nz_ite nz0 nz1) (nz_ite (nz_ite nz0 nz1) nz0)))
set_option maxHeartbeats 4000000 in
set_option maxRecDepth 100000 in
theorem c_X7_hangsOnLapsed (l : Launch) (D : va_G) (cy : Nat → ClassId) (A : Nat → Prop) (μ : MU) (m0 : Nat) (ad : Nat → Nat) (G : GS) (hM : RepM cy m0 ad G μ) (i1 : Nat) (i2 : Nat) (hi1 : i1 < 12) (hi2 : i2 < 5) (hI : InvM G) : Met l yX7_hangsOnLapsed (WS yX7_hangsOnLapsed cX7_hangsOnLapsed 3 (Option.some Jvm.ClassFile.FieldType.boolean)) { frames := 4, cells := 0, slots := 0, locals := 88 } (va_Pc [.ref m0, .int (nI i1), .int (nI i2)] (Wd D cy A μ)) (QcRead (f_X7_hangsOnLapsed G i1 i2)) 0 0 (fun _ => False) := by
  refine q_met (by decide) (Nat.le_of_ble_eq_true rfl) ?_
  intro p e s m below meth c F w hr hlk hnm ls hl
  have F : CallFix p m c cX7_hangsOnLapsed 3 s _ BIG RX7 := F
  have hl : lv_has ls 3 [(0, .ref m0), (1, .int (nI i1)), (2, .int (nI i2))] := hl
  refine lv_iload_n F.1 F.2.1 dX7_hangsOnLapsed_0 rfl (lv_at hl 2 rfl) ?_
  refine lv_iconst (v := 2) F.1 F.2.1 dX7_hangsOnLapsed_1 (by decide) ?_
  refine jn0 (m := m) (ls := ls) (rest := []) (if nI i2 = 2 then f_X7_isLapsed G i1 1 else (if nI i2 = 1 then (if f_X7_isLapsed G i1 0 = 0 then 0 else 1) else (if nI i2 = 3 then (if f_X7_isLapsed G i1 0 = 0 then 0 else 1) else 0))) 38 (fun J_1 => ?_) ?_
  · refine lv_icmp_ne (tgt := 14) F.1 F.2.1 dX7_hangsOnLapsed_2 (by decide) (fun c_2 => ?_) (fun c_2 => ?_)
    · refine lv_iload_n F.1 F.2.1 dX7_hangsOnLapsed_14 rfl (lv_at hl 2 rfl) ?_
      refine lv_iconst (v := 1) F.1 F.2.1 dX7_hangsOnLapsed_15 (by decide) ?_
      refine lv_icmp_eq (tgt := 24) F.1 F.2.1 dX7_hangsOnLapsed_16 (by decide) (fun c_3 => ?_) (fun c_3 => ?_)
      · refine lv_aload_n F.1 F.2.1 dX7_hangsOnLapsed_24 rfl (lv_at hl 0 rfl) ?_
        refine lv_iload_n F.1 F.2.1 dX7_hangsOnLapsed_25 rfl (lv_at hl 1 rfl) ?_
        refine lv_iconst (v := 0) F.1 F.2.1 dX7_hangsOnLapsed_26 (by decide) ?_
        refine q_rV (rest := []) F w kV_X7_176 hd_X7_isLapsed (ci := 8) rfl (c_X7_isLapsed l D cy A _ m0 ad G hM i1 0 (show i1 < 12 by omega) (show 0 < 5 by omega) hI) hM.1 dX7_hangsOnLapsed_27 rfl rfl hl.1 ⟨rfl, rfl, Nat.le_of_ble_eq_true rfl, Nat.le_of_ble_eq_true rfl⟩ (Nat.le_of_ble_eq_true rfl) ⟨Nat.zero_le _, Nat.zero_le _⟩ ?_
        refine lv_if_eq (tgt := 37) F.1 F.2.1 dX7_hangsOnLapsed_30 (by decide) (fun c_4 => ?_) (fun c_4 => ?_)
        · refine lv_iconst (v := 0) F.1 F.2.1 dX7_hangsOnLapsed_37 (by decide) ?_
          exact jn_a ((if_neg c_2).trans ((if_pos c_3).trans (if_pos c_4))) J_1
        · refine lv_iconst (v := 1) F.1 F.2.1 dX7_hangsOnLapsed_33 (by decide) ?_
          refine lv_goto (tgt := 38) F.1 F.2.1 dX7_hangsOnLapsed_34 (by decide) ?_
          exact jn_a ((if_neg c_2).trans ((if_pos c_3).trans (if_neg c_4))) J_1
      · refine lv_iload_n F.1 F.2.1 dX7_hangsOnLapsed_19 rfl (lv_at hl 2 rfl) ?_
        refine lv_iconst (v := 3) F.1 F.2.1 dX7_hangsOnLapsed_20 (by decide) ?_
        refine lv_icmp_ne (tgt := 37) F.1 F.2.1 dX7_hangsOnLapsed_21 (by decide) (fun c_5 => ?_) (fun c_5 => ?_)
        · refine lv_iconst (v := 0) F.1 F.2.1 dX7_hangsOnLapsed_37 (by decide) ?_
          exact jn_a ((if_neg c_2).trans ((if_neg c_3).trans (if_neg c_5))) J_1
        · refine lv_aload_n F.1 F.2.1 dX7_hangsOnLapsed_24 rfl (lv_at hl 0 rfl) ?_
          refine lv_iload_n F.1 F.2.1 dX7_hangsOnLapsed_25 rfl (lv_at hl 1 rfl) ?_
          refine lv_iconst (v := 0) F.1 F.2.1 dX7_hangsOnLapsed_26 (by decide) ?_
          refine q_rV (rest := []) F w kV_X7_176 hd_X7_isLapsed (ci := 8) rfl (c_X7_isLapsed l D cy A _ m0 ad G hM i1 0 (show i1 < 12 by omega) (show 0 < 5 by omega) hI) hM.1 dX7_hangsOnLapsed_27 rfl rfl hl.1 ⟨rfl, rfl, Nat.le_of_ble_eq_true rfl, Nat.le_of_ble_eq_true rfl⟩ (Nat.le_of_ble_eq_true rfl) ⟨Nat.zero_le _, Nat.zero_le _⟩ ?_
          refine lv_if_eq (tgt := 37) F.1 F.2.1 dX7_hangsOnLapsed_30 (by decide) (fun c_6 => ?_) (fun c_6 => ?_)
          · refine lv_iconst (v := 0) F.1 F.2.1 dX7_hangsOnLapsed_37 (by decide) ?_
            exact jn_a ((if_neg c_2).trans ((if_neg c_3).trans ((if_pos c_5).trans (if_pos c_6)))) J_1
          · refine lv_iconst (v := 1) F.1 F.2.1 dX7_hangsOnLapsed_33 (by decide) ?_
            refine lv_goto (tgt := 38) F.1 F.2.1 dX7_hangsOnLapsed_34 (by decide) ?_
            exact jn_a ((if_neg c_2).trans ((if_neg c_3).trans ((if_pos c_5).trans (if_neg c_6)))) J_1
    · refine lv_aload_n F.1 F.2.1 dX7_hangsOnLapsed_5 rfl (lv_at hl 0 rfl) ?_
      refine lv_iload_n F.1 F.2.1 dX7_hangsOnLapsed_6 rfl (lv_at hl 1 rfl) ?_
      refine lv_iconst (v := 1) F.1 F.2.1 dX7_hangsOnLapsed_7 (by decide) ?_
      refine q_rV (rest := []) F w kV_X7_176 hd_X7_isLapsed (ci := 8) rfl (c_X7_isLapsed l D cy A _ m0 ad G hM i1 1 (show i1 < 12 by omega) (show 1 < 5 by omega) hI) hM.1 dX7_hangsOnLapsed_8 rfl rfl hl.1 ⟨rfl, rfl, Nat.le_of_ble_eq_true rfl, Nat.le_of_ble_eq_true rfl⟩ (Nat.le_of_ble_eq_true rfl) ⟨Nat.zero_le _, Nat.zero_le _⟩ ?_
      refine lv_goto (tgt := 38) F.1 F.2.1 dX7_hangsOnLapsed_11 (by decide) ?_
      exact jn_a (if_pos c_2) J_1
  exact q_retz F hr hlk rfl (nz_ite (nz_f_X7_isLapsed _ _ _) (nz_ite (nz_ite nz0 nz1) (nz_ite (nz_ite nz0 nz1) nz0))) dX7_hangsOnLapsed_38
def L_X7_anniversary_4_2 (G : GS) (i1 : Nat) : Nat → Int32
  | 0 => (-1)
  | k4 + 1 => if L_X7_anniversary_4_2 G i1 k4 = (-1) then (if f_X7_isIn (G 22 i1) (nI (k4 + 1)) = 0 then (if f_X7_in (G 1 0) (((G 19 i1) + (nI (365 * (k4 + 1)))) - 90) (((G 19 i1) + (nI (365 * (k4 + 1)))) + 90) = 0 then L_X7_anniversary_4_2 G i1 k4 else nI (k4 + 1)) else L_X7_anniversary_4_2 G i1 k4) else L_X7_anniversary_4_2 G i1 k4
def f_X7_anniversary (G : GS) (i1 : Nat) : Int32 := L_X7_anniversary_4_2 G i1 ((gnT G i1 - 1) / 365)
set_option maxHeartbeats 4000000 in
set_option maxRecDepth 100000 in
theorem c_X7_anniversary (l : Launch) (D : va_G) (cy : Nat → ClassId) (A : Nat → Prop) (μ : MU) (m0 : Nat) (ad : Nat → Nat) (G : GS) (hM : RepM cy m0 ad G μ) (i1 : Nat) (hi1 : i1 < 60) (hI : InvM G) : Met l yX7_anniversary (WS yX7_anniversary cX7_anniversary 5 (Option.some Jvm.ClassFile.FieldType.int)) { frames := 1, cells := 0, slots := 0, locals := 22 } (va_Pc [.ref m0, .int (nI i1)] (Wd D cy A μ)) (QcRead (f_X7_anniversary G i1)) 0 0 (fun _ => False) := by
  refine q_met (by decide) (Nat.le_of_ble_eq_true rfl) ?_
  intro p e s m below meth c F w hr hlk hnm ls hl
  have F : CallFix p m c cX7_anniversary 5 s _ BIG RX7 := F
  have hl : lv_has ls 5 [(0, .ref m0), (1, .int (nI i1))] := hl
  refine lv_iconst (v := -1) F.1 F.2.1 dX7_anniversary_0 (by decide) ?_
  refine lv_istore_n (lv' := [(2, .int (-1)), (0, .ref m0), (1, .int (nI i1))]) F.1 F.2.1 dX7_anniversary_1 rfl hl (by decide) rfl (fun ls hl => ?_)
  refine lv_iconst (v := 1) F.1 F.2.1 dX7_anniversary_2 (by decide) ?_
  refine lv_istore_n (lv' := [(3, .int 1), (2, .int (-1)), (0, .ref m0), (1, .int (nI i1))]) F.1 F.2.1 dX7_anniversary_3 rfl hl (by decide) rfl (fun ls hl => ?_)
  refine q_loop (P := fun k4 ls => lv_has ls 5 [(3, .int (nI (k4 + 1))), (2, .int (L_X7_anniversary_4_2 G i1 k4)), (0, .ref m0), (1, .int (nI i1))]) ((gnT G i1 - 1) / 365) (fun k4 ls hk4 hl ih4 => ?_) 0 ls (Nat.zero_le _) (lv_cg (lv_sub hl [0, 1, 2, 3] rfl) rfl)
  refine lv_sipush (v := 365) F.1 F.2.1 dX7_anniversary_4 (by decide) ?_
  refine lv_iload_n F.1 F.2.1 dX7_anniversary_7 rfl (lv_at hl 0 rfl) ?_
  refine lv_imul F.1 F.2.1 dX7_anniversary_8 ?_
  refine lv_fold (y := nI (365 * (k4 + 1))) (pk_mul 365 (k4 + 1)) ?_
  refine lv_aload_n F.1 F.2.1 dX7_anniversary_9 rfl (lv_at hl 2 rfl) ?_
  refine gf_X7_62 F w hM.1 rfl dX7_anniversary_10 ?_
  refine lv_iload_n F.1 F.2.1 dX7_anniversary_13 rfl (lv_at hl 3 rfl) ?_
  refine m_ild F w hM 20 (by decide) rfl rfl i1 (show i1 < 60 by omega) (by decide) dX7_anniversary_14 ?_
  refine lv_icmp_ge (tgt := 82) F.1 F.2.1 dX7_anniversary_15 (by decide) (fun c_1 => ?_) (fun c_1 => ?_)
  rotate_left
  · have hlt4 : k4 < ((gnT G i1 - 1) / 365) := GB_alt (hI.t hi1).1 (hI.t hi1).2 hk4 c_1
    refine lv_aload_n F.1 F.2.1 dX7_anniversary_18 rfl (lv_at hl 2 rfl) ?_
    refine gf_X7_59 F w hM.1 rfl dX7_anniversary_19 ?_
    refine lv_iload_n F.1 F.2.1 dX7_anniversary_22 rfl (lv_at hl 3 rfl) ?_
    refine m_ild F w hM 19 (by decide) rfl rfl i1 (show i1 < 60 by omega) (by decide) dX7_anniversary_23 ?_
    refine lv_sipush (v := 365) F.1 F.2.1 dX7_anniversary_24 (by decide) ?_
    refine lv_iload_n F.1 F.2.1 dX7_anniversary_27 rfl (lv_at hl 0 rfl) ?_
    refine lv_imul F.1 F.2.1 dX7_anniversary_28 ?_
    refine lv_fold (y := nI (365 * (k4 + 1))) (pk_mul 365 (k4 + 1)) ?_
    refine lv_iadd F.1 F.2.1 dX7_anniversary_29 ?_
    refine lv_istore (lv' := [(4, .int ((G 19 i1) + (nI (365 * (k4 + 1))))), (3, .int (nI (k4 + 1))), (2, .int (L_X7_anniversary_4_2 G i1 k4)), (0, .ref m0), (1, .int (nI i1))]) F.1 F.2.1 dX7_anniversary_30 hl (by decide) rfl (fun ls hl => ?_)
    refine lv_iload_n F.1 F.2.1 dX7_anniversary_32 rfl (lv_at hl 2 rfl) ?_
    refine lv_iconst (v := -1) F.1 F.2.1 dX7_anniversary_33 (by decide) ?_
    refine jn0 (m := m) (ls := ls) (rest := []) (if L_X7_anniversary_4_2 G i1 k4 = (-1) then (if f_X7_isIn (G 22 i1) (nI (k4 + 1)) = 0 then (if f_X7_in (G 1 0) (((G 19 i1) + (nI (365 * (k4 + 1)))) - 90) (((G 19 i1) + (nI (365 * (k4 + 1)))) + 90) = 0 then L_X7_anniversary_4_2 G i1 k4 else nI (k4 + 1)) else L_X7_anniversary_4_2 G i1 k4) else L_X7_anniversary_4_2 G i1 k4) 75 (fun J_2 => ?_) ?_
    · refine lv_icmp_ne (tgt := 74) F.1 F.2.1 dX7_anniversary_34 (by decide) (fun c_3 => ?_) (fun c_3 => ?_)
      · refine lv_iload_n F.1 F.2.1 dX7_anniversary_74 rfl (lv_at hl 2 rfl) ?_
        exact jn_a (if_neg c_3) J_2
      · refine lv_aload_n F.1 F.2.1 dX7_anniversary_37 rfl (lv_at hl 3 rfl) ?_
        refine gf_X7_68 F w hM.1 rfl dX7_anniversary_38 ?_
        refine lv_iload_n F.1 F.2.1 dX7_anniversary_41 rfl (lv_at hl 4 rfl) ?_
        refine m_ild F w hM 22 (by decide) rfl rfl i1 (show i1 < 60 by omega) (by decide) dX7_anniversary_42 ?_
        refine lv_iload_n F.1 F.2.1 dX7_anniversary_43 rfl (lv_at hl 1 rfl) ?_
        refine q_rS (rest := []) F w kS_X7_159 hd_X7_isIn (c_X7_isIn l D cy A _ (G 22 i1) (nI (k4 + 1))) dX7_anniversary_44 rfl rfl hl.1 ⟨rfl, rfl, Nat.le_of_ble_eq_true rfl, Nat.le_of_ble_eq_true rfl⟩ (Nat.le_of_ble_eq_true rfl) ⟨Nat.zero_le _, Nat.zero_le _⟩ ?_
        refine lv_if_ne (tgt := 74) F.1 F.2.1 dX7_anniversary_47 (by decide) (fun c_4 => ?_) (fun c_4 => ?_)
        · refine lv_iload_n F.1 F.2.1 dX7_anniversary_74 rfl (lv_at hl 2 rfl) ?_
          exact jn_a ((if_pos c_3).trans (if_neg c_4)) J_2
        · refine lv_aload_n F.1 F.2.1 dX7_anniversary_50 rfl (lv_at hl 3 rfl) ?_
          refine gf_X7_142 F w hM.1 rfl dX7_anniversary_51 ?_
          refine lv_iload F.1 F.2.1 dX7_anniversary_54 (lv_at hl 0 rfl) ?_
          refine lv_bipush (v := 90) F.1 F.2.1 dX7_anniversary_56 (by decide) ?_
          refine lv_isub F.1 F.2.1 dX7_anniversary_58 ?_
          refine lv_iload F.1 F.2.1 dX7_anniversary_59 (lv_at hl 0 rfl) ?_
          refine lv_bipush (v := 90) F.1 F.2.1 dX7_anniversary_61 (by decide) ?_
          refine lv_iadd F.1 F.2.1 dX7_anniversary_63 ?_
          refine q_rS (rest := []) F w kS_X7_135 hd_X7_in (c_X7_in l D cy A _ (G 1 0) (((G 19 i1) + (nI (365 * (k4 + 1)))) - 90) (((G 19 i1) + (nI (365 * (k4 + 1)))) + 90)) dX7_anniversary_64 rfl rfl hl.1 ⟨rfl, rfl, Nat.le_of_ble_eq_true rfl, Nat.le_of_ble_eq_true rfl⟩ (Nat.le_of_ble_eq_true rfl) ⟨Nat.zero_le _, Nat.zero_le _⟩ ?_
          refine lv_if_eq (tgt := 74) F.1 F.2.1 dX7_anniversary_67 (by decide) (fun c_5 => ?_) (fun c_5 => ?_)
          · refine lv_iload_n F.1 F.2.1 dX7_anniversary_74 rfl (lv_at hl 2 rfl) ?_
            exact jn_a ((if_pos c_3).trans ((if_pos c_4).trans (if_pos c_5))) J_2
          · refine lv_iload_n F.1 F.2.1 dX7_anniversary_70 rfl (lv_at hl 1 rfl) ?_
            refine lv_goto (tgt := 75) F.1 F.2.1 dX7_anniversary_71 (by decide) ?_
            exact jn_a ((if_pos c_3).trans ((if_pos c_4).trans (if_neg c_5))) J_2
    refine lv_istore_n (lv' := [(2, .int (if L_X7_anniversary_4_2 G i1 k4 = (-1) then (if f_X7_isIn (G 22 i1) (nI (k4 + 1)) = 0 then (if f_X7_in (G 1 0) (((G 19 i1) + (nI (365 * (k4 + 1)))) - 90) (((G 19 i1) + (nI (365 * (k4 + 1)))) + 90) = 0 then L_X7_anniversary_4_2 G i1 k4 else nI (k4 + 1)) else L_X7_anniversary_4_2 G i1 k4) else L_X7_anniversary_4_2 G i1 k4)), (4, .int ((G 19 i1) + (nI (365 * (k4 + 1))))), (3, .int (nI (k4 + 1))), (0, .ref m0), (1, .int (nI i1))]) F.1 F.2.1 dX7_anniversary_75 rfl hl (by decide) rfl (fun ls hl => ?_)
    refine lv_iinc (v := nI (k4 + 1 + 1)) (lv' := [(3, .int (nI (k4 + 1 + 1))), (2, .int (if L_X7_anniversary_4_2 G i1 k4 = (-1) then (if f_X7_isIn (G 22 i1) (nI (k4 + 1)) = 0 then (if f_X7_in (G 1 0) (((G 19 i1) + (nI (365 * (k4 + 1)))) - 90) (((G 19 i1) + (nI (365 * (k4 + 1)))) + 90) = 0 then L_X7_anniversary_4_2 G i1 k4 else nI (k4 + 1)) else L_X7_anniversary_4_2 G i1 k4) else L_X7_anniversary_4_2 G i1 k4)), (4, .int ((G 19 i1) + (nI (365 * (k4 + 1))))), (0, .ref m0), (1, .int (nI i1))]) F.1 F.2.1 dX7_anniversary_76 hl (k := 2) rfl (nI_1 _) (by decide) rfl (fun ls hl => ?_)
    refine lv_goto (tgt := 4) F.1 F.2.1 dX7_anniversary_79 (by decide) ?_
    exact ih4 ls hlt4 (lv_sub hl [0, 1, 3, 4] rfl)
  have hkn4 : k4 = ((gnT G i1 - 1) / 365) := GB_ale (hI.t hi1).1 (hI.t hi1).2 hk4 c_1
  subst hkn4
  refine lv_iload_n F.1 F.2.1 dX7_anniversary_82 rfl (lv_at hl 1 rfl) ?_
  exact q_reti F hr hlk rfl dX7_anniversary_83
def L_X7_many_4_1 (x1 : Int32) : Nat → Int32
  | 0 => 0
  | k4 + 1 => (L_X7_many_4_1 x1 k4) + ((x1 >>> ((nI k4) &&& 31)) &&& 1)
def f_X7_many (x1 : Int32) : Int32 := L_X7_many_4_1 x1 31
set_option maxHeartbeats 4000000 in
set_option maxRecDepth 100000 in
theorem c_X7_many (l : Launch) (D : va_G) (cy : Nat → ClassId) (A : Nat → Prop) (μ : MU) (x1 : Int32) : Met l yX7_many (WS yX7_many cX7_many 3 (Option.some Jvm.ClassFile.FieldType.int)) { frames := 0, cells := 0, slots := 0, locals := 0 } (va_Pc [.int x1] (Wd D cy A μ)) (QcRead (f_X7_many x1)) 0 0 (fun _ => False) := by
  refine q_met (by decide) (Nat.le_of_ble_eq_true rfl) ?_
  intro p e s m below meth c F w hr hlk hnm ls hl
  have F : CallFix p m c cX7_many 3 s _ BIG RX7 := F
  have hl : lv_has ls 3 [(0, .int x1)] := hl
  refine lv_iconst (v := 0) F.1 F.2.1 dX7_many_0 (by decide) ?_
  refine lv_istore_n (lv' := [(1, .int 0), (0, .int x1)]) F.1 F.2.1 dX7_many_1 rfl hl (by decide) rfl (fun ls hl => ?_)
  refine lv_iconst (v := 0) F.1 F.2.1 dX7_many_2 (by decide) ?_
  refine lv_istore_n (lv' := [(2, .int 0), (1, .int 0), (0, .int x1)]) F.1 F.2.1 dX7_many_3 rfl hl (by decide) rfl (fun ls hl => ?_)
  refine q_loop (P := fun k4 ls => lv_has ls 3 [(2, .int (nI k4)), (1, .int (L_X7_many_4_1 x1 k4)), (0, .int x1)]) 31 (fun k4 ls hk4 hl ih4 => ?_) 0 ls (Nat.zero_le _) (lv_cg (lv_sub hl [0, 1, 2] rfl) rfl)
  refine lv_iload_n F.1 F.2.1 dX7_many_4 rfl (lv_at hl 0 rfl) ?_
  refine lv_bipush (v := 31) F.1 F.2.1 dX7_many_5 (by decide) ?_
  refine lv_icmp_ge (tgt := 24) F.1 F.2.1 dX7_many_7 (by decide) (fun c_1 => ?_) (fun c_1 => ?_)
  rotate_left
  · have hlt4 : k4 < 31 := GB_ilt (rfl : (31 : Int32) = nI 31) (by decide) hk4 c_1
    refine lv_iload_n F.1 F.2.1 dX7_many_10 rfl (lv_at hl 1 rfl) ?_
    refine lv_iload_n F.1 F.2.1 dX7_many_11 rfl (lv_at hl 2 rfl) ?_
    refine lv_iload_n F.1 F.2.1 dX7_many_12 rfl (lv_at hl 0 rfl) ?_
    refine lv_ishr F.1 F.2.1 dX7_many_13 ?_
    refine lv_iconst (v := 1) F.1 F.2.1 dX7_many_14 (by decide) ?_
    refine lv_iand F.1 F.2.1 dX7_many_15 ?_
    refine lv_iadd F.1 F.2.1 dX7_many_16 ?_
    refine lv_istore_n (lv' := [(1, .int ((L_X7_many_4_1 x1 k4) + ((x1 >>> ((nI k4) &&& 31)) &&& 1))), (2, .int (nI k4)), (0, .int x1)]) F.1 F.2.1 dX7_many_17 rfl hl (by decide) rfl (fun ls hl => ?_)
    refine lv_iinc (v := nI (k4 + 1)) (lv' := [(2, .int (nI (k4 + 1))), (1, .int ((L_X7_many_4_1 x1 k4) + ((x1 >>> ((nI k4) &&& 31)) &&& 1))), (0, .int x1)]) F.1 F.2.1 dX7_many_18 hl (k := 1) rfl (nI_1 _) (by decide) rfl (fun ls hl => ?_)
    refine lv_goto (tgt := 4) F.1 F.2.1 dX7_many_21 (by decide) ?_
    exact ih4 ls hlt4 (lv_sub hl [0, 1, 2] rfl)
  have hkn4 : k4 = 31 := GB_ile (rfl : (31 : Int32) = nI 31) (by decide) hk4 c_1
  subst hkn4
  refine lv_iload_n F.1 F.2.1 dX7_many_24 rfl (lv_at hl 1 rfl) ?_
  exact q_reti F hr hlk rfl dX7_many_25
def L_X7_detentionsOf_4_2 (G : GS) (i1 : Nat) : Nat → Int32
  | 0 => 0
  | k4 + 1 => (L_X7_detentionsOf_4_2 G i1 k4) + (if G 30 k4 = nI i1 then (if f_X7_isLatest G k4 = 0 then 0 else (if f_X7_counts G k4 = 0 then 0 else 1)) else 0)
def f_X7_detentionsOf (G : GS) (i1 : Nat) : Int32 := L_X7_detentionsOf_4_2 G i1 (gnV G)
set_option maxHeartbeats 4000000 in
set_option maxRecDepth 100000 in
theorem c_X7_detentionsOf (l : Launch) (D : va_G) (cy : Nat → ClassId) (A : Nat → Prop) (μ : MU) (m0 : Nat) (ad : Nat → Nat) (G : GS) (hM : RepM cy m0 ad G μ) (i1 : Nat) (hi1 : i1 < 12) (hI : InvM G) : Met l yX7_detentionsOf (WS yX7_detentionsOf cX7_detentionsOf 4 (Option.some Jvm.ClassFile.FieldType.int)) { frames := 1, cells := 0, slots := 0, locals := 21 } (va_Pc [.ref m0, .int (nI i1)] (Wd D cy A μ)) (QcRead (f_X7_detentionsOf G i1)) 0 0 (fun _ => False) := by
  refine q_met (by decide) (Nat.le_of_ble_eq_true rfl) ?_
  intro p e s m below meth c F w hr hlk hnm ls hl
  have F : CallFix p m c cX7_detentionsOf 4 s _ BIG RX7 := F
  have hl : lv_has ls 4 [(0, .ref m0), (1, .int (nI i1))] := hl
  have hnV := hI.v.2
  refine lv_iconst (v := 0) F.1 F.2.1 dX7_detentionsOf_0 (by decide) ?_
  refine lv_istore_n (lv' := [(2, .int 0), (0, .ref m0), (1, .int (nI i1))]) F.1 F.2.1 dX7_detentionsOf_1 rfl hl (by decide) rfl (fun ls hl => ?_)
  refine lv_iconst (v := 0) F.1 F.2.1 dX7_detentionsOf_2 (by decide) ?_
  refine lv_istore_n (lv' := [(3, .int 0), (2, .int 0), (0, .ref m0), (1, .int (nI i1))]) F.1 F.2.1 dX7_detentionsOf_3 rfl hl (by decide) rfl (fun ls hl => ?_)
  refine q_loop (P := fun k4 ls => lv_has ls 4 [(3, .int (nI k4)), (2, .int (L_X7_detentionsOf_4_2 G i1 k4)), (0, .ref m0), (1, .int (nI i1))]) (gnV G) (fun k4 ls hk4 hl ih4 => ?_) 0 ls (Nat.zero_le _) (lv_cg (lv_sub hl [0, 1, 2, 3] rfl) rfl)
  refine lv_iload_n F.1 F.2.1 dX7_detentionsOf_4 rfl (lv_at hl 0 rfl) ?_
  refine lv_aload_n F.1 F.2.1 dX7_detentionsOf_5 rfl (lv_at hl 2 rfl) ?_
  refine gf_X7_139 F w hM.1 rfl dX7_detentionsOf_6 ?_
  refine lv_icmp_ge (tgt := 52) F.1 F.2.1 dX7_detentionsOf_9 (by decide) (fun c_1 => ?_) (fun c_1 => ?_)
  rotate_left
  · have hlt4 : k4 < (gnV G) := GB_ilt hI.v.1 (Nat.lt_of_le_of_lt hI.v.2 (by decide)) hk4 c_1
    refine lv_iload_n F.1 F.2.1 dX7_detentionsOf_12 rfl (lv_at hl 1 rfl) ?_
    refine lv_aload_n F.1 F.2.1 dX7_detentionsOf_13 rfl (lv_at hl 2 rfl) ?_
    refine gf_X7_86 F w hM.1 rfl dX7_detentionsOf_14 ?_
    refine lv_iload_n F.1 F.2.1 dX7_detentionsOf_17 rfl (lv_at hl 0 rfl) ?_
    refine m_ild F w hM 30 (by decide) rfl rfl k4 (show k4 < 60 by omega) (by decide) dX7_detentionsOf_18 ?_
    refine lv_iload_n F.1 F.2.1 dX7_detentionsOf_19 rfl (lv_at hl 3 rfl) ?_
    refine jn0 (m := m) (ls := ls) (rest := [.int (L_X7_detentionsOf_4_2 G i1 k4)]) (if G 30 k4 = nI i1 then (if f_X7_isLatest G k4 = 0 then 0 else (if f_X7_counts G k4 = 0 then 0 else 1)) else 0) 44 (fun J_2 => ?_) ?_
    · refine lv_icmp_ne (tgt := 43) F.1 F.2.1 dX7_detentionsOf_20 (by decide) (fun c_3 => ?_) (fun c_3 => ?_)
      · refine lv_iconst (v := 0) F.1 F.2.1 dX7_detentionsOf_43 (by decide) ?_
        exact jn_a (if_neg c_3) J_2
      · refine lv_aload_n F.1 F.2.1 dX7_detentionsOf_23 rfl (lv_at hl 2 rfl) ?_
        refine lv_iload_n F.1 F.2.1 dX7_detentionsOf_24 rfl (lv_at hl 0 rfl) ?_
        refine q_rV (rest := [.int (L_X7_detentionsOf_4_2 G i1 k4)]) F w kV_X7_189 hd_X7_isLatest (ci := 8) rfl (c_X7_isLatest l D cy A _ m0 ad G hM k4 (show k4 < 60 by omega)) hM.1 dX7_detentionsOf_25 rfl rfl hl.1 ⟨rfl, rfl, Nat.le_of_ble_eq_true rfl, Nat.le_of_ble_eq_true rfl⟩ (Nat.le_of_ble_eq_true rfl) ⟨Nat.zero_le _, Nat.zero_le _⟩ ?_
        refine lv_if_eq (tgt := 43) F.1 F.2.1 dX7_detentionsOf_28 (by decide) (fun c_4 => ?_) (fun c_4 => ?_)
        · refine lv_iconst (v := 0) F.1 F.2.1 dX7_detentionsOf_43 (by decide) ?_
          exact jn_a ((if_pos c_3).trans (if_pos c_4)) J_2
        · refine lv_aload_n F.1 F.2.1 dX7_detentionsOf_31 rfl (lv_at hl 2 rfl) ?_
          refine lv_iload_n F.1 F.2.1 dX7_detentionsOf_32 rfl (lv_at hl 0 rfl) ?_
          refine q_rV (rest := [.int (L_X7_detentionsOf_4_2 G i1 k4)]) F w kV_X7_192 hd_X7_counts (ci := 8) rfl (c_X7_counts l D cy A _ m0 ad G hM k4 (show k4 < 60 by omega)) hM.1 dX7_detentionsOf_33 rfl rfl hl.1 ⟨rfl, rfl, Nat.le_of_ble_eq_true rfl, Nat.le_of_ble_eq_true rfl⟩ (Nat.le_of_ble_eq_true rfl) ⟨Nat.zero_le _, Nat.zero_le _⟩ ?_
          refine lv_if_eq (tgt := 43) F.1 F.2.1 dX7_detentionsOf_36 (by decide) (fun c_5 => ?_) (fun c_5 => ?_)
          · refine lv_iconst (v := 0) F.1 F.2.1 dX7_detentionsOf_43 (by decide) ?_
            exact jn_a ((if_pos c_3).trans ((if_neg c_4).trans (if_pos c_5))) J_2
          · refine lv_iconst (v := 1) F.1 F.2.1 dX7_detentionsOf_39 (by decide) ?_
            refine lv_goto (tgt := 44) F.1 F.2.1 dX7_detentionsOf_40 (by decide) ?_
            exact jn_a ((if_pos c_3).trans ((if_neg c_4).trans (if_neg c_5))) J_2
    refine lv_iadd F.1 F.2.1 dX7_detentionsOf_44 ?_
    refine lv_istore_n (lv' := [(2, .int ((L_X7_detentionsOf_4_2 G i1 k4) + (if G 30 k4 = nI i1 then (if f_X7_isLatest G k4 = 0 then 0 else (if f_X7_counts G k4 = 0 then 0 else 1)) else 0))), (3, .int (nI k4)), (0, .ref m0), (1, .int (nI i1))]) F.1 F.2.1 dX7_detentionsOf_45 rfl hl (by decide) rfl (fun ls hl => ?_)
    refine lv_iinc (v := nI (k4 + 1)) (lv' := [(3, .int (nI (k4 + 1))), (2, .int ((L_X7_detentionsOf_4_2 G i1 k4) + (if G 30 k4 = nI i1 then (if f_X7_isLatest G k4 = 0 then 0 else (if f_X7_counts G k4 = 0 then 0 else 1)) else 0))), (0, .ref m0), (1, .int (nI i1))]) F.1 F.2.1 dX7_detentionsOf_46 hl (k := 1) rfl (nI_1 _) (by decide) rfl (fun ls hl => ?_)
    refine lv_goto (tgt := 4) F.1 F.2.1 dX7_detentionsOf_49 (by decide) ?_
    exact ih4 ls hlt4 (lv_sub hl [0, 1, 2, 3] rfl)
  have hkn4 : k4 = (gnV G) := GB_ile hI.v.1 (Nat.lt_of_le_of_lt hI.v.2 (by decide)) hk4 c_1
  subst hkn4
  refine lv_iload_n F.1 F.2.1 dX7_detentionsOf_52 rfl (lv_at hl 1 rfl) ?_
  exact q_reti F hr hlk rfl dX7_detentionsOf_53
def L_X7_hadMany_4_2 (G : GS) (i1 : Nat) : Nat → Int32
  | 0 => 0
  | k4 + 1 => if L_X7_hadMany_4_2 G i1 k4 = 0 then (if G 30 k4 = nI i1 then (if f_X7_isLatest G k4 = 0 then 0 else (if G 35 k4 ≤ 5 then 0 else 1)) else 0) else 1
theorem nz_L_X7_hadMany_4_2 (G : GS) (i1 : Nat) : ∀ n : Nat, nz (L_X7_hadMany_4_2 G i1 n)
  | 0 => nz0
  | k4 + 1 => (nz_ite (nz_ite (nz_ite nz0 (nz_ite nz0 nz1)) nz0) nz1)
def f_X7_hadMany (G : GS) (i1 : Nat) : Int32 := L_X7_hadMany_4_2 G i1 (gnV G)
theorem nz_f_X7_hadMany (G : GS) (i1 : Nat) : nz (f_X7_hadMany G i1) := (nz_L_X7_hadMany_4_2 _ _ _)
set_option maxHeartbeats 4000000 in
set_option maxRecDepth 100000 in
theorem c_X7_hadMany (l : Launch) (D : va_G) (cy : Nat → ClassId) (A : Nat → Prop) (μ : MU) (m0 : Nat) (ad : Nat → Nat) (G : GS) (hM : RepM cy m0 ad G μ) (i1 : Nat) (hi1 : i1 < 12) (hI : InvM G) : Met l yX7_hadMany (WS yX7_hadMany cX7_hadMany 4 (Option.some Jvm.ClassFile.FieldType.boolean)) { frames := 1, cells := 0, slots := 0, locals := 21 } (va_Pc [.ref m0, .int (nI i1)] (Wd D cy A μ)) (QcRead (f_X7_hadMany G i1)) 0 0 (fun _ => False) := by
  refine q_met (by decide) (Nat.le_of_ble_eq_true rfl) ?_
  intro p e s m below meth c F w hr hlk hnm ls hl
  have F : CallFix p m c cX7_hadMany 4 s _ BIG RX7 := F
  have hl : lv_has ls 4 [(0, .ref m0), (1, .int (nI i1))] := hl
  have hnV := hI.v.2
  refine lv_iconst (v := 0) F.1 F.2.1 dX7_hadMany_0 (by decide) ?_
  refine lv_istore_n (lv' := [(2, .int 0), (0, .ref m0), (1, .int (nI i1))]) F.1 F.2.1 dX7_hadMany_1 rfl hl (by decide) rfl (fun ls hl => ?_)
  refine lv_iconst (v := 0) F.1 F.2.1 dX7_hadMany_2 (by decide) ?_
  refine lv_istore_n (lv' := [(3, .int 0), (2, .int 0), (0, .ref m0), (1, .int (nI i1))]) F.1 F.2.1 dX7_hadMany_3 rfl hl (by decide) rfl (fun ls hl => ?_)
  refine q_loop (P := fun k4 ls => lv_has ls 4 [(3, .int (nI k4)), (2, .int (L_X7_hadMany_4_2 G i1 k4)), (0, .ref m0), (1, .int (nI i1))]) (gnV G) (fun k4 ls hk4 hl ih4 => ?_) 0 ls (Nat.zero_le _) (lv_cg (lv_sub hl [0, 1, 2, 3] rfl) rfl)
  refine lv_iload_n F.1 F.2.1 dX7_hadMany_4 rfl (lv_at hl 0 rfl) ?_
  refine lv_aload_n F.1 F.2.1 dX7_hadMany_5 rfl (lv_at hl 2 rfl) ?_
  refine gf_X7_139 F w hM.1 rfl dX7_hadMany_6 ?_
  refine lv_icmp_ge (tgt := 56) F.1 F.2.1 dX7_hadMany_9 (by decide) (fun c_1 => ?_) (fun c_1 => ?_)
  rotate_left
  · have hlt4 : k4 < (gnV G) := GB_ilt hI.v.1 (Nat.lt_of_le_of_lt hI.v.2 (by decide)) hk4 c_1
    refine lv_iload_n F.1 F.2.1 dX7_hadMany_12 rfl (lv_at hl 1 rfl) ?_
    refine jn0 (m := m) (ls := ls) (rest := []) (if L_X7_hadMany_4_2 G i1 k4 = 0 then (if G 30 k4 = nI i1 then (if f_X7_isLatest G k4 = 0 then 0 else (if G 35 k4 ≤ 5 then 0 else 1)) else 0) else 1) 49 (fun J_2 => ?_) ?_
    · refine lv_if_ne (tgt := 44) F.1 F.2.1 dX7_hadMany_13 (by decide) (fun c_3 => ?_) (fun c_3 => ?_)
      · refine lv_iconst (v := 1) F.1 F.2.1 dX7_hadMany_44 (by decide) ?_
        refine lv_goto (tgt := 49) F.1 F.2.1 dX7_hadMany_45 (by decide) ?_
        exact jn_a (if_neg c_3) J_2
      · refine lv_aload_n F.1 F.2.1 dX7_hadMany_16 rfl (lv_at hl 2 rfl) ?_
        refine gf_X7_86 F w hM.1 rfl dX7_hadMany_17 ?_
        refine lv_iload_n F.1 F.2.1 dX7_hadMany_20 rfl (lv_at hl 0 rfl) ?_
        refine m_ild F w hM 30 (by decide) rfl rfl k4 (show k4 < 60 by omega) (by decide) dX7_hadMany_21 ?_
        refine lv_iload_n F.1 F.2.1 dX7_hadMany_22 rfl (lv_at hl 3 rfl) ?_
        refine lv_icmp_ne (tgt := 48) F.1 F.2.1 dX7_hadMany_23 (by decide) (fun c_4 => ?_) (fun c_4 => ?_)
        · refine lv_iconst (v := 0) F.1 F.2.1 dX7_hadMany_48 (by decide) ?_
          exact jn_a ((if_pos c_3).trans (if_neg c_4)) J_2
        · refine lv_aload_n F.1 F.2.1 dX7_hadMany_26 rfl (lv_at hl 2 rfl) ?_
          refine lv_iload_n F.1 F.2.1 dX7_hadMany_27 rfl (lv_at hl 0 rfl) ?_
          refine q_rV (rest := []) F w kV_X7_189 hd_X7_isLatest (ci := 8) rfl (c_X7_isLatest l D cy A _ m0 ad G hM k4 (show k4 < 60 by omega)) hM.1 dX7_hadMany_28 rfl rfl hl.1 ⟨rfl, rfl, Nat.le_of_ble_eq_true rfl, Nat.le_of_ble_eq_true rfl⟩ (Nat.le_of_ble_eq_true rfl) ⟨Nat.zero_le _, Nat.zero_le _⟩ ?_
          refine lv_if_eq (tgt := 48) F.1 F.2.1 dX7_hadMany_31 (by decide) (fun c_5 => ?_) (fun c_5 => ?_)
          · refine lv_iconst (v := 0) F.1 F.2.1 dX7_hadMany_48 (by decide) ?_
            exact jn_a ((if_pos c_3).trans ((if_pos c_4).trans (if_pos c_5))) J_2
          · refine lv_aload_n F.1 F.2.1 dX7_hadMany_34 rfl (lv_at hl 2 rfl) ?_
            refine gf_X7_101 F w hM.1 rfl dX7_hadMany_35 ?_
            refine lv_iload_n F.1 F.2.1 dX7_hadMany_38 rfl (lv_at hl 0 rfl) ?_
            refine m_ild F w hM 35 (by decide) rfl rfl k4 (show k4 < 60 by omega) (by decide) dX7_hadMany_39 ?_
            refine lv_iconst (v := 5) F.1 F.2.1 dX7_hadMany_40 (by decide) ?_
            refine lv_icmp_le (tgt := 48) F.1 F.2.1 dX7_hadMany_41 (by decide) (fun c_6 => ?_) (fun c_6 => ?_)
            · refine lv_iconst (v := 0) F.1 F.2.1 dX7_hadMany_48 (by decide) ?_
              exact jn_a ((if_pos c_3).trans ((if_pos c_4).trans ((if_neg c_5).trans (if_pos c_6)))) J_2
            · refine lv_iconst (v := 1) F.1 F.2.1 dX7_hadMany_44 (by decide) ?_
              refine lv_goto (tgt := 49) F.1 F.2.1 dX7_hadMany_45 (by decide) ?_
              exact jn_a ((if_pos c_3).trans ((if_pos c_4).trans ((if_neg c_5).trans (if_neg c_6)))) J_2
    refine lv_istore_n (lv' := [(2, .int (if L_X7_hadMany_4_2 G i1 k4 = 0 then (if G 30 k4 = nI i1 then (if f_X7_isLatest G k4 = 0 then 0 else (if G 35 k4 ≤ 5 then 0 else 1)) else 0) else 1)), (3, .int (nI k4)), (0, .ref m0), (1, .int (nI i1))]) F.1 F.2.1 dX7_hadMany_49 rfl hl (by decide) rfl (fun ls hl => ?_)
    refine lv_iinc (v := nI (k4 + 1)) (lv' := [(3, .int (nI (k4 + 1))), (2, .int (if L_X7_hadMany_4_2 G i1 k4 = 0 then (if G 30 k4 = nI i1 then (if f_X7_isLatest G k4 = 0 then 0 else (if G 35 k4 ≤ 5 then 0 else 1)) else 0) else 1)), (0, .ref m0), (1, .int (nI i1))]) F.1 F.2.1 dX7_hadMany_50 hl (k := 1) rfl (nI_1 _) (by decide) rfl (fun ls hl => ?_)
    refine lv_goto (tgt := 4) F.1 F.2.1 dX7_hadMany_53 (by decide) ?_
    exact ih4 ls hlt4 (lv_sub hl [0, 1, 2, 3] rfl)
  have hkn4 : k4 = (gnV G) := GB_ile hI.v.1 (Nat.lt_of_le_of_lt hI.v.2 (by decide)) hk4 c_1
  subst hkn4
  refine lv_iload_n F.1 F.2.1 dX7_hadMany_56 rfl (lv_at hl 1 rfl) ?_
  exact q_retz F hr hlk rfl (nz_L_X7_hadMany_4_2 _ _ _) dX7_hadMany_57
def v_X7_listOf_41 (G : GS) (x1 : Int32) (k7 : Nat) : Int32 := if G 34 k7 = x1 then (if f_X7_isLatest G k7 = 0 then 0 else 1) else 0
theorem nz_v_X7_listOf_41 (G : GS) (x1 : Int32) (k7 : Nat) : nz (v_X7_listOf_41 G x1 k7) := (nz_ite (nz_ite nz0 nz1) nz0)
def L_X7_listOf_7_3 (G : GS) (x1 : Int32) : Nat → Int32
  | 0 => 0
  | k7 + 1 => (L_X7_listOf_7_3 G x1 k7) + (if v_X7_listOf_41 G x1 k7 = 0 then 0 else (if f_X7_counts G k7 = 0 then 0 else 1))
def L_X7_listOf_7_2 (G : GS) (x1 : Int32) : Nat → Int32
  | 0 => 0
  | k7 + 1 => (L_X7_listOf_7_2 G x1 k7) + (if v_X7_listOf_41 G x1 k7 = 0 then 0 else 1)
def v_X7_listOf_96 (G : GS) (x1 : Int32) : Int32 := ((100 * (L_X7_listOf_7_3 G x1 (gnV G))) - (7 * (L_X7_listOf_7_2 G x1 (gnV G)))) - 50
def v_X7_listOf_110 (G : GS) (x1 : Int32) : Int32 := ((7 * (L_X7_listOf_7_2 G x1 (gnV G))) - 50) - (100 * (L_X7_listOf_7_3 G x1 (gnV G)))
def f_X7_listOf (G : GS) (x1 : Int32) : Int32 := if 6 ≤ L_X7_listOf_7_2 G x1 (gnV G) then (if v_X7_listOf_96 G x1 ≤ 0 then (if v_X7_listOf_110 G x1 ≤ 0 then 2 else (if (v_X7_listOf_110 G x1) * (v_X7_listOf_110 G x1) ≤ 1762 * (L_X7_listOf_7_2 G x1 (gnV G)) then 2 else 1)) else (if (v_X7_listOf_96 G x1) * (v_X7_listOf_96 G x1) ≤ 1762 * (L_X7_listOf_7_2 G x1 (gnV G)) then (if v_X7_listOf_110 G x1 ≤ 0 then 2 else (if (v_X7_listOf_110 G x1) * (v_X7_listOf_110 G x1) ≤ 1762 * (L_X7_listOf_7_2 G x1 (gnV G)) then 2 else 1)) else 3)) else 0
set_option maxHeartbeats 4000000 in
set_option maxRecDepth 100000 in
theorem c_X7_listOf (l : Launch) (D : va_G) (cy : Nat → ClassId) (A : Nat → Prop) (μ : MU) (m0 : Nat) (ad : Nat → Nat) (G : GS) (hM : RepM cy m0 ad G μ) (x1 : Int32) (hI : InvM G) : Met l yX7_listOf (WS yX7_listOf cX7_listOf 6 (Option.some Jvm.ClassFile.FieldType.int)) { frames := 1, cells := 0, slots := 0, locals := 21 } (va_Pc [.ref m0, .int x1] (Wd D cy A μ)) (QcRead (f_X7_listOf G x1)) 0 0 (fun _ => False) := by
  refine q_met (by decide) (Nat.le_of_ble_eq_true rfl) ?_
  intro p e s m below meth c F w hr hlk hnm ls hl
  have F : CallFix p m c cX7_listOf 6 s _ BIG RX7 := F
  have hl : lv_has ls 6 [(0, .ref m0), (1, .int x1)] := hl
  have hnV := hI.v.2
  refine lv_iconst (v := 0) F.1 F.2.1 dX7_listOf_0 (by decide) ?_
  refine lv_istore_n (lv' := [(2, .int 0), (0, .ref m0), (1, .int x1)]) F.1 F.2.1 dX7_listOf_1 rfl hl (by decide) rfl (fun ls hl => ?_)
  refine lv_iconst (v := 0) F.1 F.2.1 dX7_listOf_2 (by decide) ?_
  refine lv_istore_n (lv' := [(3, .int 0), (2, .int 0), (0, .ref m0), (1, .int x1)]) F.1 F.2.1 dX7_listOf_3 rfl hl (by decide) rfl (fun ls hl => ?_)
  refine lv_iconst (v := 0) F.1 F.2.1 dX7_listOf_4 (by decide) ?_
  refine lv_istore (lv' := [(4, .int 0), (3, .int 0), (2, .int 0), (0, .ref m0), (1, .int x1)]) F.1 F.2.1 dX7_listOf_5 hl (by decide) rfl (fun ls hl => ?_)
  refine q_loop (P := fun k7 ls => lv_has ls 6 [(4, .int (nI k7)), (3, .int (L_X7_listOf_7_3 G x1 k7)), (2, .int (L_X7_listOf_7_2 G x1 k7)), (0, .ref m0), (1, .int x1)]) (gnV G) (fun k7 ls hk7 hl ih7 => ?_) 0 ls (Nat.zero_le _) (lv_cg (lv_sub hl [0, 1, 2, 3, 4] rfl) rfl)
  refine lv_iload F.1 F.2.1 dX7_listOf_7 (lv_at hl 0 rfl) ?_
  refine lv_aload_n F.1 F.2.1 dX7_listOf_9 rfl (lv_at hl 3 rfl) ?_
  refine gf_X7_139 F w hM.1 rfl dX7_listOf_10 ?_
  refine lv_icmp_ge (tgt := 84) F.1 F.2.1 dX7_listOf_13 (by decide) (fun c_1 => ?_) (fun c_1 => ?_)
  rotate_left
  · have hlt7 : k7 < (gnV G) := GB_ilt hI.v.1 (Nat.lt_of_le_of_lt hI.v.2 (by decide)) hk7 c_1
    refine lv_aload_n F.1 F.2.1 dX7_listOf_16 rfl (lv_at hl 3 rfl) ?_
    refine gf_X7_98 F w hM.1 rfl dX7_listOf_17 ?_
    refine lv_iload F.1 F.2.1 dX7_listOf_20 (lv_at hl 0 rfl) ?_
    refine m_ild F w hM 34 (by decide) rfl rfl k7 (show k7 < 60 by omega) (by decide) dX7_listOf_22 ?_
    refine lv_iload_n F.1 F.2.1 dX7_listOf_23 rfl (lv_at hl 4 rfl) ?_
    refine jn0 (m := m) (ls := ls) (rest := []) (if G 34 k7 = x1 then (if f_X7_isLatest G k7 = 0 then 0 else 1) else 0) 41 (fun J_2 => ?_) ?_
    · refine lv_icmp_ne (tgt := 40) F.1 F.2.1 dX7_listOf_24 (by decide) (fun c_3 => ?_) (fun c_3 => ?_)
      · refine lv_iconst (v := 0) F.1 F.2.1 dX7_listOf_40 (by decide) ?_
        exact jn_a (if_neg c_3) J_2
      · refine lv_aload_n F.1 F.2.1 dX7_listOf_27 rfl (lv_at hl 3 rfl) ?_
        refine lv_iload F.1 F.2.1 dX7_listOf_28 (lv_at hl 0 rfl) ?_
        refine q_rV (rest := []) F w kV_X7_189 hd_X7_isLatest (ci := 8) rfl (c_X7_isLatest l D cy A _ m0 ad G hM k7 (show k7 < 60 by omega)) hM.1 dX7_listOf_30 rfl rfl hl.1 ⟨rfl, rfl, Nat.le_of_ble_eq_true rfl, Nat.le_of_ble_eq_true rfl⟩ (Nat.le_of_ble_eq_true rfl) ⟨Nat.zero_le _, Nat.zero_le _⟩ ?_
        refine lv_if_eq (tgt := 40) F.1 F.2.1 dX7_listOf_33 (by decide) (fun c_4 => ?_) (fun c_4 => ?_)
        · refine lv_iconst (v := 0) F.1 F.2.1 dX7_listOf_40 (by decide) ?_
          exact jn_a ((if_pos c_3).trans (if_pos c_4)) J_2
        · refine lv_iconst (v := 1) F.1 F.2.1 dX7_listOf_36 (by decide) ?_
          refine lv_goto (tgt := 41) F.1 F.2.1 dX7_listOf_37 (by decide) ?_
          exact jn_a ((if_pos c_3).trans (if_neg c_4)) J_2
    refine lv_fold (y := v_X7_listOf_41 G x1 k7) rfl ?_
    refine lv_istore (lv' := [(5, .int (v_X7_listOf_41 G x1 k7)), (4, .int (nI k7)), (3, .int (L_X7_listOf_7_3 G x1 k7)), (2, .int (L_X7_listOf_7_2 G x1 k7)), (0, .ref m0), (1, .int x1)]) F.1 F.2.1 dX7_listOf_41 hl (by decide) rfl (fun ls hl => ?_)
    refine lv_iload_n F.1 F.2.1 dX7_listOf_43 rfl (lv_at hl 3 rfl) ?_
    refine lv_iload F.1 F.2.1 dX7_listOf_44 (lv_at hl 0 rfl) ?_
    refine jn0 (m := m) (ls := ls) (rest := [.int (L_X7_listOf_7_2 G x1 k7)]) (if v_X7_listOf_41 G x1 k7 = 0 then 0 else 1) 54 (fun J_5 => ?_) ?_
    · refine lv_if_eq (tgt := 53) F.1 F.2.1 dX7_listOf_46 (by decide) (fun c_6 => ?_) (fun c_6 => ?_)
      · refine lv_iconst (v := 0) F.1 F.2.1 dX7_listOf_53 (by decide) ?_
        exact jn_a (if_pos c_6) J_5
      · refine lv_iconst (v := 1) F.1 F.2.1 dX7_listOf_49 (by decide) ?_
        refine lv_goto (tgt := 54) F.1 F.2.1 dX7_listOf_50 (by decide) ?_
        exact jn_a (if_neg c_6) J_5
    refine lv_iadd F.1 F.2.1 dX7_listOf_54 ?_
    refine lv_istore_n (lv' := [(2, .int ((L_X7_listOf_7_2 G x1 k7) + (if v_X7_listOf_41 G x1 k7 = 0 then 0 else 1))), (5, .int (v_X7_listOf_41 G x1 k7)), (4, .int (nI k7)), (3, .int (L_X7_listOf_7_3 G x1 k7)), (0, .ref m0), (1, .int x1)]) F.1 F.2.1 dX7_listOf_55 rfl hl (by decide) rfl (fun ls hl => ?_)
    refine lv_iload_n F.1 F.2.1 dX7_listOf_56 rfl (lv_at hl 3 rfl) ?_
    refine lv_iload F.1 F.2.1 dX7_listOf_57 (lv_at hl 1 rfl) ?_
    refine jn0 (m := m) (ls := ls) (rest := [.int (L_X7_listOf_7_3 G x1 k7)]) (if v_X7_listOf_41 G x1 k7 = 0 then 0 else (if f_X7_counts G k7 = 0 then 0 else 1)) 76 (fun J_7 => ?_) ?_
    · refine lv_if_eq (tgt := 75) F.1 F.2.1 dX7_listOf_59 (by decide) (fun c_8 => ?_) (fun c_8 => ?_)
      · refine lv_iconst (v := 0) F.1 F.2.1 dX7_listOf_75 (by decide) ?_
        exact jn_a (if_pos c_8) J_7
      · refine lv_aload_n F.1 F.2.1 dX7_listOf_62 rfl (lv_at hl 4 rfl) ?_
        refine lv_iload F.1 F.2.1 dX7_listOf_63 (lv_at hl 2 rfl) ?_
        refine q_rV (rest := [.int (L_X7_listOf_7_3 G x1 k7)]) F w kV_X7_192 hd_X7_counts (ci := 8) rfl (c_X7_counts l D cy A _ m0 ad G hM k7 (show k7 < 60 by omega)) hM.1 dX7_listOf_65 rfl rfl hl.1 ⟨rfl, rfl, Nat.le_of_ble_eq_true rfl, Nat.le_of_ble_eq_true rfl⟩ (Nat.le_of_ble_eq_true rfl) ⟨Nat.zero_le _, Nat.zero_le _⟩ ?_
        refine lv_if_eq (tgt := 75) F.1 F.2.1 dX7_listOf_68 (by decide) (fun c_9 => ?_) (fun c_9 => ?_)
        · refine lv_iconst (v := 0) F.1 F.2.1 dX7_listOf_75 (by decide) ?_
          exact jn_a ((if_neg c_8).trans (if_pos c_9)) J_7
        · refine lv_iconst (v := 1) F.1 F.2.1 dX7_listOf_71 (by decide) ?_
          refine lv_goto (tgt := 76) F.1 F.2.1 dX7_listOf_72 (by decide) ?_
          exact jn_a ((if_neg c_8).trans (if_neg c_9)) J_7
    refine lv_iadd F.1 F.2.1 dX7_listOf_76 ?_
    refine lv_istore_n (lv' := [(3, .int ((L_X7_listOf_7_3 G x1 k7) + (if v_X7_listOf_41 G x1 k7 = 0 then 0 else (if f_X7_counts G k7 = 0 then 0 else 1)))), (2, .int ((L_X7_listOf_7_2 G x1 k7) + (if v_X7_listOf_41 G x1 k7 = 0 then 0 else 1))), (5, .int (v_X7_listOf_41 G x1 k7)), (4, .int (nI k7)), (0, .ref m0), (1, .int x1)]) F.1 F.2.1 dX7_listOf_77 rfl hl (by decide) rfl (fun ls hl => ?_)
    refine lv_iinc (v := nI (k7 + 1)) (lv' := [(4, .int (nI (k7 + 1))), (3, .int ((L_X7_listOf_7_3 G x1 k7) + (if v_X7_listOf_41 G x1 k7 = 0 then 0 else (if f_X7_counts G k7 = 0 then 0 else 1)))), (2, .int ((L_X7_listOf_7_2 G x1 k7) + (if v_X7_listOf_41 G x1 k7 = 0 then 0 else 1))), (5, .int (v_X7_listOf_41 G x1 k7)), (0, .ref m0), (1, .int x1)]) F.1 F.2.1 dX7_listOf_78 hl (k := 3) rfl (nI_1 _) (by decide) rfl (fun ls hl => ?_)
    refine lv_goto (tgt := 7) F.1 F.2.1 dX7_listOf_81 (by decide) ?_
    exact ih7 ls hlt7 (lv_sub hl [0, 1, 2, 4, 5] rfl)
  have hkn7 : k7 = (gnV G) := GB_ile hI.v.1 (Nat.lt_of_le_of_lt hI.v.2 (by decide)) hk7 c_1
  subst hkn7
  refine lv_bipush (v := 100) F.1 F.2.1 dX7_listOf_84 (by decide) ?_
  refine lv_iload_n F.1 F.2.1 dX7_listOf_86 rfl (lv_at hl 1 rfl) ?_
  refine lv_imul F.1 F.2.1 dX7_listOf_87 ?_
  refine lv_bipush (v := 7) F.1 F.2.1 dX7_listOf_88 (by decide) ?_
  refine lv_iload_n F.1 F.2.1 dX7_listOf_90 rfl (lv_at hl 2 rfl) ?_
  refine lv_imul F.1 F.2.1 dX7_listOf_91 ?_
  refine lv_isub F.1 F.2.1 dX7_listOf_92 ?_
  refine lv_bipush (v := 50) F.1 F.2.1 dX7_listOf_93 (by decide) ?_
  refine lv_isub F.1 F.2.1 dX7_listOf_95 ?_
  refine lv_fold (y := v_X7_listOf_96 G x1) rfl ?_
  refine lv_istore (lv' := [(4, .int (v_X7_listOf_96 G x1)), (3, .int (L_X7_listOf_7_3 G x1 (gnV G))), (2, .int (L_X7_listOf_7_2 G x1 (gnV G))), (0, .ref m0), (1, .int x1)]) F.1 F.2.1 dX7_listOf_96 hl (by decide) rfl (fun ls hl => ?_)
  refine lv_bipush (v := 7) F.1 F.2.1 dX7_listOf_98 (by decide) ?_
  refine lv_iload_n F.1 F.2.1 dX7_listOf_100 rfl (lv_at hl 2 rfl) ?_
  refine lv_imul F.1 F.2.1 dX7_listOf_101 ?_
  refine lv_bipush (v := 50) F.1 F.2.1 dX7_listOf_102 (by decide) ?_
  refine lv_isub F.1 F.2.1 dX7_listOf_104 ?_
  refine lv_bipush (v := 100) F.1 F.2.1 dX7_listOf_105 (by decide) ?_
  refine lv_iload_n F.1 F.2.1 dX7_listOf_107 rfl (lv_at hl 1 rfl) ?_
  refine lv_imul F.1 F.2.1 dX7_listOf_108 ?_
  refine lv_isub F.1 F.2.1 dX7_listOf_109 ?_
  refine lv_fold (y := v_X7_listOf_110 G x1) rfl ?_
  refine lv_istore (lv' := [(5, .int (v_X7_listOf_110 G x1)), (4, .int (v_X7_listOf_96 G x1)), (3, .int (L_X7_listOf_7_3 G x1 (gnV G))), (2, .int (L_X7_listOf_7_2 G x1 (gnV G))), (0, .ref m0), (1, .int x1)]) F.1 F.2.1 dX7_listOf_110 hl (by decide) rfl (fun ls hl => ?_)
  refine lv_iload_n F.1 F.2.1 dX7_listOf_112 rfl (lv_at hl 3 rfl) ?_
  refine lv_bipush (v := 6) F.1 F.2.1 dX7_listOf_113 (by decide) ?_
  refine lv_icmp_ge (tgt := 120) F.1 F.2.1 dX7_listOf_115 (by decide) (fun c_10 => ?_) (fun c_10 => ?_)
  · refine lv_iload F.1 F.2.1 dX7_listOf_120 (lv_at hl 1 rfl) ?_
    refine jn0 (m := m) (ls := ls) (rest := []) (if v_X7_listOf_96 G x1 ≤ 0 then (if v_X7_listOf_110 G x1 ≤ 0 then 2 else (if (v_X7_listOf_110 G x1) * (v_X7_listOf_110 G x1) ≤ 1762 * (L_X7_listOf_7_2 G x1 (gnV G)) then 2 else 1)) else (if (v_X7_listOf_96 G x1) * (v_X7_listOf_96 G x1) ≤ 1762 * (L_X7_listOf_7_2 G x1 (gnV G)) then (if v_X7_listOf_110 G x1 ≤ 0 then 2 else (if (v_X7_listOf_110 G x1) * (v_X7_listOf_110 G x1) ≤ 1762 * (L_X7_listOf_7_2 G x1 (gnV G)) then 2 else 1)) else 3)) 165 (fun J_11 => ?_) ?_
    · refine lv_if_le (tgt := 142) F.1 F.2.1 dX7_listOf_122 (by decide) (fun c_12 => ?_) (fun c_12 => ?_)
      · refine lv_iload F.1 F.2.1 dX7_listOf_142 (lv_at hl 0 rfl) ?_
        refine lv_if_le (tgt := 164) F.1 F.2.1 dX7_listOf_144 (by decide) (fun c_13 => ?_) (fun c_13 => ?_)
        · refine lv_iconst (v := 2) F.1 F.2.1 dX7_listOf_164 (by decide) ?_
          exact jn_a ((if_pos c_12).trans (if_pos c_13)) J_11
        · refine lv_iload F.1 F.2.1 dX7_listOf_147 (lv_at hl 0 rfl) ?_
          refine lv_iload F.1 F.2.1 dX7_listOf_149 (lv_at hl 0 rfl) ?_
          refine lv_imul F.1 F.2.1 dX7_listOf_151 ?_
          refine lv_sipush (v := 1762) F.1 F.2.1 dX7_listOf_152 (by decide) ?_
          refine lv_iload_n F.1 F.2.1 dX7_listOf_155 rfl (lv_at hl 3 rfl) ?_
          refine lv_imul F.1 F.2.1 dX7_listOf_156 ?_
          refine lv_icmp_le (tgt := 164) F.1 F.2.1 dX7_listOf_157 (by decide) (fun c_14 => ?_) (fun c_14 => ?_)
          · refine lv_iconst (v := 2) F.1 F.2.1 dX7_listOf_164 (by decide) ?_
            exact jn_a ((if_pos c_12).trans ((if_neg c_13).trans (if_pos c_14))) J_11
          · refine lv_iconst (v := 1) F.1 F.2.1 dX7_listOf_160 (by decide) ?_
            refine lv_goto (tgt := 165) F.1 F.2.1 dX7_listOf_161 (by decide) ?_
            exact jn_a ((if_pos c_12).trans ((if_neg c_13).trans (if_neg c_14))) J_11
      · refine lv_iload F.1 F.2.1 dX7_listOf_125 (lv_at hl 1 rfl) ?_
        refine lv_iload F.1 F.2.1 dX7_listOf_127 (lv_at hl 1 rfl) ?_
        refine lv_imul F.1 F.2.1 dX7_listOf_129 ?_
        refine lv_sipush (v := 1762) F.1 F.2.1 dX7_listOf_130 (by decide) ?_
        refine lv_iload_n F.1 F.2.1 dX7_listOf_133 rfl (lv_at hl 3 rfl) ?_
        refine lv_imul F.1 F.2.1 dX7_listOf_134 ?_
        refine lv_icmp_le (tgt := 142) F.1 F.2.1 dX7_listOf_135 (by decide) (fun c_15 => ?_) (fun c_15 => ?_)
        · refine lv_iload F.1 F.2.1 dX7_listOf_142 (lv_at hl 0 rfl) ?_
          refine lv_if_le (tgt := 164) F.1 F.2.1 dX7_listOf_144 (by decide) (fun c_16 => ?_) (fun c_16 => ?_)
          · refine lv_iconst (v := 2) F.1 F.2.1 dX7_listOf_164 (by decide) ?_
            exact jn_a ((if_neg c_12).trans ((if_pos c_15).trans (if_pos c_16))) J_11
          · refine lv_iload F.1 F.2.1 dX7_listOf_147 (lv_at hl 0 rfl) ?_
            refine lv_iload F.1 F.2.1 dX7_listOf_149 (lv_at hl 0 rfl) ?_
            refine lv_imul F.1 F.2.1 dX7_listOf_151 ?_
            refine lv_sipush (v := 1762) F.1 F.2.1 dX7_listOf_152 (by decide) ?_
            refine lv_iload_n F.1 F.2.1 dX7_listOf_155 rfl (lv_at hl 3 rfl) ?_
            refine lv_imul F.1 F.2.1 dX7_listOf_156 ?_
            refine lv_icmp_le (tgt := 164) F.1 F.2.1 dX7_listOf_157 (by decide) (fun c_17 => ?_) (fun c_17 => ?_)
            · refine lv_iconst (v := 2) F.1 F.2.1 dX7_listOf_164 (by decide) ?_
              exact jn_a ((if_neg c_12).trans ((if_pos c_15).trans ((if_neg c_16).trans (if_pos c_17)))) J_11
            · refine lv_iconst (v := 1) F.1 F.2.1 dX7_listOf_160 (by decide) ?_
              refine lv_goto (tgt := 165) F.1 F.2.1 dX7_listOf_161 (by decide) ?_
              exact jn_a ((if_neg c_12).trans ((if_pos c_15).trans ((if_neg c_16).trans (if_neg c_17)))) J_11
        · refine lv_iconst (v := 3) F.1 F.2.1 dX7_listOf_138 (by decide) ?_
          refine lv_goto (tgt := 165) F.1 F.2.1 dX7_listOf_139 (by decide) ?_
          exact jn_a ((if_neg c_12).trans (if_neg c_15)) J_11
    exact q_reti F hr hlk (if_pos c_10) dX7_listOf_165
  · refine lv_iconst (v := 0) F.1 F.2.1 dX7_listOf_118 (by decide) ?_
    exact q_reti F hr hlk (if_neg c_10) dX7_listOf_119
def v_X7_pointsOf_56 (G : GS) (i1 : Nat) : Int32 := (if f_X7_isOld G i1 = 0 then 0 else 1) + (if G 6 i1 = 1 then 1 else (if G 6 i1 = 2 then 2 else 0))
def v_X7_pointsOf_78 (G : GS) (i1 : Nat) : Int32 := (v_X7_pointsOf_56 G i1) + (if f_X7_listOf G (G 7 i1) = 2 then 1 else (if f_X7_listOf G (G 7 i1) = 3 then 2 else 0))
def v_X7_pointsOf_100 (G : GS) (i1 : Nat) : Int32 := (v_X7_pointsOf_78 G i1) + (if G 2 (G 8 i1).toNatClampNeg = 0 then 0 else 1)
def v_X7_pointsOf_116 (G : GS) (i1 : Nat) : Int32 := (v_X7_pointsOf_100 G i1) + (if f_X7_hadMany G i1 = 0 then 0 else 1)
def f_X7_pointsOf (G : GS) (i1 : Nat) : Int32 := (v_X7_pointsOf_116 G i1) + (if 2 ≤ f_X7_detentionsOf G i1 then 2 else f_X7_detentionsOf G i1)
set_option maxHeartbeats 4000000 in
set_option maxRecDepth 100000 in
theorem c_X7_pointsOf (l : Launch) (D : va_G) (cy : Nat → ClassId) (A : Nat → Prop) (μ : MU) (m0 : Nat) (ad : Nat → Nat) (G : GS) (hM : RepM cy m0 ad G μ) (i1 : Nat) (hi1 : i1 < 12) (hI : InvM G) : Met l yX7_pointsOf (WS yX7_pointsOf cX7_pointsOf 5 (Option.some Jvm.ClassFile.FieldType.int)) { frames := 2, cells := 0, slots := 0, locals := 46 } (va_Pc [.ref m0, .int (nI i1)] (Wd D cy A μ)) (QcRead (f_X7_pointsOf G i1)) 0 0 (fun _ => False) := by
  refine q_met (by decide) (Nat.le_of_ble_eq_true rfl) ?_
  intro p e s m below meth c F w hr hlk hnm ls hl
  have F : CallFix p m c cX7_pointsOf 5 s _ BIG RX7 := F
  have hl : lv_has ls 5 [(0, .ref m0), (1, .int (nI i1))] := hl
  refine lv_aload_n F.1 F.2.1 dX7_pointsOf_0 rfl (lv_at hl 0 rfl) ?_
  refine lv_aload_n F.1 F.2.1 dX7_pointsOf_1 rfl (lv_at hl 0 rfl) ?_
  refine gf_X7_23 F w hM.1 rfl dX7_pointsOf_2 ?_
  refine lv_iload_n F.1 F.2.1 dX7_pointsOf_5 rfl (lv_at hl 1 rfl) ?_
  refine m_ild F w hM 7 (by decide) rfl rfl i1 (show i1 < 12 by omega) (by decide) dX7_pointsOf_6 ?_
  refine q_rV (rest := []) F w kV_X7_195 hd_X7_listOf (ci := 8) rfl (c_X7_listOf l D cy A _ m0 ad G hM (G 7 i1) hI) hM.1 dX7_pointsOf_7 rfl rfl hl.1 ⟨rfl, rfl, Nat.le_of_ble_eq_true rfl, Nat.le_of_ble_eq_true rfl⟩ (Nat.le_of_ble_eq_true rfl) ⟨Nat.zero_le _, Nat.zero_le _⟩ ?_
  refine lv_istore_n (lv' := [(2, .int (f_X7_listOf G (G 7 i1))), (0, .ref m0), (1, .int (nI i1))]) F.1 F.2.1 dX7_pointsOf_10 rfl hl (by decide) rfl (fun ls hl => ?_)
  refine lv_aload_n F.1 F.2.1 dX7_pointsOf_11 rfl (lv_at hl 1 rfl) ?_
  refine lv_iload_n F.1 F.2.1 dX7_pointsOf_12 rfl (lv_at hl 2 rfl) ?_
  refine q_rV (rest := []) F w kV_X7_198 hd_X7_isOld (ci := 8) rfl (c_X7_isOld l D cy A _ m0 ad G hM i1 (show i1 < 12 by omega)) hM.1 dX7_pointsOf_13 rfl rfl hl.1 ⟨rfl, rfl, Nat.le_of_ble_eq_true rfl, Nat.le_of_ble_eq_true rfl⟩ (Nat.le_of_ble_eq_true rfl) ⟨Nat.zero_le _, Nat.zero_le _⟩ ?_
  refine jn0 (m := m) (ls := ls) (rest := []) (if f_X7_isOld G i1 = 0 then 0 else 1) 24 (fun J_1 => ?_) ?_
  · refine lv_if_eq (tgt := 23) F.1 F.2.1 dX7_pointsOf_16 (by decide) (fun c_2 => ?_) (fun c_2 => ?_)
    · refine lv_iconst (v := 0) F.1 F.2.1 dX7_pointsOf_23 (by decide) ?_
      exact jn_a (if_pos c_2) J_1
    · refine lv_iconst (v := 1) F.1 F.2.1 dX7_pointsOf_19 (by decide) ?_
      refine lv_goto (tgt := 24) F.1 F.2.1 dX7_pointsOf_20 (by decide) ?_
      exact jn_a (if_neg c_2) J_1
  refine lv_istore_n (lv' := [(3, .int (if f_X7_isOld G i1 = 0 then 0 else 1)), (2, .int (f_X7_listOf G (G 7 i1))), (0, .ref m0), (1, .int (nI i1))]) F.1 F.2.1 dX7_pointsOf_24 rfl hl (by decide) rfl (fun ls hl => ?_)
  refine lv_iload_n F.1 F.2.1 dX7_pointsOf_25 rfl (lv_at hl 0 rfl) ?_
  refine lv_aload_n F.1 F.2.1 dX7_pointsOf_26 rfl (lv_at hl 2 rfl) ?_
  refine gf_X7_20 F w hM.1 rfl dX7_pointsOf_27 ?_
  refine lv_iload_n F.1 F.2.1 dX7_pointsOf_30 rfl (lv_at hl 3 rfl) ?_
  refine m_ild F w hM 6 (by decide) rfl rfl i1 (show i1 < 12 by omega) (by decide) dX7_pointsOf_31 ?_
  refine lv_iconst (v := 1) F.1 F.2.1 dX7_pointsOf_32 (by decide) ?_
  refine jn0 (m := m) (ls := ls) (rest := [.int (if f_X7_isOld G i1 = 0 then 0 else 1)]) (if G 6 i1 = 1 then 1 else (if G 6 i1 = 2 then 2 else 0)) 55 (fun J_3 => ?_) ?_
  · refine lv_icmp_ne (tgt := 40) F.1 F.2.1 dX7_pointsOf_33 (by decide) (fun c_4 => ?_) (fun c_4 => ?_)
    · refine lv_aload_n F.1 F.2.1 dX7_pointsOf_40 rfl (lv_at hl 2 rfl) ?_
      refine gf_X7_20 F w hM.1 rfl dX7_pointsOf_41 ?_
      refine lv_iload_n F.1 F.2.1 dX7_pointsOf_44 rfl (lv_at hl 3 rfl) ?_
      refine m_ild F w hM 6 (by decide) rfl rfl i1 (show i1 < 12 by omega) (by decide) dX7_pointsOf_45 ?_
      refine lv_iconst (v := 2) F.1 F.2.1 dX7_pointsOf_46 (by decide) ?_
      refine lv_icmp_ne (tgt := 54) F.1 F.2.1 dX7_pointsOf_47 (by decide) (fun c_5 => ?_) (fun c_5 => ?_)
      · refine lv_iconst (v := 0) F.1 F.2.1 dX7_pointsOf_54 (by decide) ?_
        exact jn_a ((if_neg c_4).trans (if_neg c_5)) J_3
      · refine lv_iconst (v := 2) F.1 F.2.1 dX7_pointsOf_50 (by decide) ?_
        refine lv_goto (tgt := 55) F.1 F.2.1 dX7_pointsOf_51 (by decide) ?_
        exact jn_a ((if_neg c_4).trans (if_pos c_5)) J_3
    · refine lv_iconst (v := 1) F.1 F.2.1 dX7_pointsOf_36 (by decide) ?_
      refine lv_goto (tgt := 55) F.1 F.2.1 dX7_pointsOf_37 (by decide) ?_
      exact jn_a (if_pos c_4) J_3
  refine lv_iadd F.1 F.2.1 dX7_pointsOf_55 ?_
  refine lv_fold (y := v_X7_pointsOf_56 G i1) rfl ?_
  refine lv_istore_n (lv' := [(3, .int (v_X7_pointsOf_56 G i1)), (2, .int (f_X7_listOf G (G 7 i1))), (0, .ref m0), (1, .int (nI i1))]) F.1 F.2.1 dX7_pointsOf_56 rfl hl (by decide) rfl (fun ls hl => ?_)
  refine lv_iload_n F.1 F.2.1 dX7_pointsOf_57 rfl (lv_at hl 0 rfl) ?_
  refine lv_iload_n F.1 F.2.1 dX7_pointsOf_58 rfl (lv_at hl 1 rfl) ?_
  refine lv_iconst (v := 2) F.1 F.2.1 dX7_pointsOf_59 (by decide) ?_
  refine jn0 (m := m) (ls := ls) (rest := [.int (v_X7_pointsOf_56 G i1)]) (if f_X7_listOf G (G 7 i1) = 2 then 1 else (if f_X7_listOf G (G 7 i1) = 3 then 2 else 0)) 77 (fun J_6 => ?_) ?_
  · refine lv_icmp_ne (tgt := 67) F.1 F.2.1 dX7_pointsOf_60 (by decide) (fun c_7 => ?_) (fun c_7 => ?_)
    · refine lv_iload_n F.1 F.2.1 dX7_pointsOf_67 rfl (lv_at hl 1 rfl) ?_
      refine lv_iconst (v := 3) F.1 F.2.1 dX7_pointsOf_68 (by decide) ?_
      refine lv_icmp_ne (tgt := 76) F.1 F.2.1 dX7_pointsOf_69 (by decide) (fun c_8 => ?_) (fun c_8 => ?_)
      · refine lv_iconst (v := 0) F.1 F.2.1 dX7_pointsOf_76 (by decide) ?_
        exact jn_a ((if_neg c_7).trans (if_neg c_8)) J_6
      · refine lv_iconst (v := 2) F.1 F.2.1 dX7_pointsOf_72 (by decide) ?_
        refine lv_goto (tgt := 77) F.1 F.2.1 dX7_pointsOf_73 (by decide) ?_
        exact jn_a ((if_neg c_7).trans (if_pos c_8)) J_6
    · refine lv_iconst (v := 1) F.1 F.2.1 dX7_pointsOf_63 (by decide) ?_
      refine lv_goto (tgt := 77) F.1 F.2.1 dX7_pointsOf_64 (by decide) ?_
      exact jn_a (if_pos c_7) J_6
  refine lv_iadd F.1 F.2.1 dX7_pointsOf_77 ?_
  refine lv_fold (y := v_X7_pointsOf_78 G i1) rfl ?_
  refine lv_istore_n (lv' := [(3, .int (v_X7_pointsOf_78 G i1)), (2, .int (f_X7_listOf G (G 7 i1))), (0, .ref m0), (1, .int (nI i1))]) F.1 F.2.1 dX7_pointsOf_78 rfl hl (by decide) rfl (fun ls hl => ?_)
  refine lv_iload_n F.1 F.2.1 dX7_pointsOf_79 rfl (lv_at hl 0 rfl) ?_
  refine lv_aload_n F.1 F.2.1 dX7_pointsOf_80 rfl (lv_at hl 2 rfl) ?_
  refine gf_X7_7 F w hM.1 rfl dX7_pointsOf_81 ?_
  refine lv_aload_n F.1 F.2.1 dX7_pointsOf_84 rfl (lv_at hl 2 rfl) ?_
  refine gf_X7_26 F w hM.1 rfl dX7_pointsOf_85 ?_
  refine lv_iload_n F.1 F.2.1 dX7_pointsOf_88 rfl (lv_at hl 3 rfl) ?_
  refine m_ild F w hM 8 (by decide) rfl rfl i1 (show i1 < 12 by omega) (by decide) dX7_pointsOf_89 ?_
  refine q_zald F w (hM.2.1 2 (by decide) rfl) (hI.bo hi1) dX7_pointsOf_90 ?_
  refine jn0 (m := m) (ls := ls) (rest := [.int (v_X7_pointsOf_78 G i1)]) (if G 2 (G 8 i1).toNatClampNeg = 0 then 0 else 1) 99 (fun J_9 => ?_) ?_
  · refine lv_if_eq (tgt := 98) F.1 F.2.1 dX7_pointsOf_91 (by decide) (fun c_10 => ?_) (fun c_10 => ?_)
    · refine lv_iconst (v := 0) F.1 F.2.1 dX7_pointsOf_98 (by decide) ?_
      exact jn_a (if_pos c_10) J_9
    · refine lv_iconst (v := 1) F.1 F.2.1 dX7_pointsOf_94 (by decide) ?_
      refine lv_goto (tgt := 99) F.1 F.2.1 dX7_pointsOf_95 (by decide) ?_
      exact jn_a (if_neg c_10) J_9
  refine lv_iadd F.1 F.2.1 dX7_pointsOf_99 ?_
  refine lv_fold (y := v_X7_pointsOf_100 G i1) rfl ?_
  refine lv_istore_n (lv' := [(3, .int (v_X7_pointsOf_100 G i1)), (2, .int (f_X7_listOf G (G 7 i1))), (0, .ref m0), (1, .int (nI i1))]) F.1 F.2.1 dX7_pointsOf_100 rfl hl (by decide) rfl (fun ls hl => ?_)
  refine lv_iload_n F.1 F.2.1 dX7_pointsOf_101 rfl (lv_at hl 0 rfl) ?_
  refine lv_aload_n F.1 F.2.1 dX7_pointsOf_102 rfl (lv_at hl 2 rfl) ?_
  refine lv_iload_n F.1 F.2.1 dX7_pointsOf_103 rfl (lv_at hl 3 rfl) ?_
  refine q_rV (rest := [.int (v_X7_pointsOf_100 G i1)]) F w kV_X7_201 hd_X7_hadMany (ci := 8) rfl (c_X7_hadMany l D cy A _ m0 ad G hM i1 (show i1 < 12 by omega) hI) hM.1 dX7_pointsOf_104 rfl rfl hl.1 ⟨rfl, rfl, Nat.le_of_ble_eq_true rfl, Nat.le_of_ble_eq_true rfl⟩ (Nat.le_of_ble_eq_true rfl) ⟨Nat.zero_le _, Nat.zero_le _⟩ ?_
  refine jn0 (m := m) (ls := ls) (rest := [.int (v_X7_pointsOf_100 G i1)]) (if f_X7_hadMany G i1 = 0 then 0 else 1) 115 (fun J_11 => ?_) ?_
  · refine lv_if_eq (tgt := 114) F.1 F.2.1 dX7_pointsOf_107 (by decide) (fun c_12 => ?_) (fun c_12 => ?_)
    · refine lv_iconst (v := 0) F.1 F.2.1 dX7_pointsOf_114 (by decide) ?_
      exact jn_a (if_pos c_12) J_11
    · refine lv_iconst (v := 1) F.1 F.2.1 dX7_pointsOf_110 (by decide) ?_
      refine lv_goto (tgt := 115) F.1 F.2.1 dX7_pointsOf_111 (by decide) ?_
      exact jn_a (if_neg c_12) J_11
  refine lv_iadd F.1 F.2.1 dX7_pointsOf_115 ?_
  refine lv_fold (y := v_X7_pointsOf_116 G i1) rfl ?_
  refine lv_istore_n (lv' := [(3, .int (v_X7_pointsOf_116 G i1)), (2, .int (f_X7_listOf G (G 7 i1))), (0, .ref m0), (1, .int (nI i1))]) F.1 F.2.1 dX7_pointsOf_116 rfl hl (by decide) rfl (fun ls hl => ?_)
  refine lv_aload_n F.1 F.2.1 dX7_pointsOf_117 rfl (lv_at hl 2 rfl) ?_
  refine lv_iload_n F.1 F.2.1 dX7_pointsOf_118 rfl (lv_at hl 3 rfl) ?_
  refine q_rV (rest := []) F w kV_X7_204 hd_X7_detentionsOf (ci := 8) rfl (c_X7_detentionsOf l D cy A _ m0 ad G hM i1 (show i1 < 12 by omega) hI) hM.1 dX7_pointsOf_119 rfl rfl hl.1 ⟨rfl, rfl, Nat.le_of_ble_eq_true rfl, Nat.le_of_ble_eq_true rfl⟩ (Nat.le_of_ble_eq_true rfl) ⟨Nat.zero_le _, Nat.zero_le _⟩ ?_
  refine lv_istore (lv' := [(4, .int (f_X7_detentionsOf G i1)), (3, .int (v_X7_pointsOf_116 G i1)), (2, .int (f_X7_listOf G (G 7 i1))), (0, .ref m0), (1, .int (nI i1))]) F.1 F.2.1 dX7_pointsOf_122 hl (by decide) rfl (fun ls hl => ?_)
  refine lv_iload_n F.1 F.2.1 dX7_pointsOf_124 rfl (lv_at hl 1 rfl) ?_
  refine lv_iload F.1 F.2.1 dX7_pointsOf_125 (lv_at hl 0 rfl) ?_
  refine lv_iconst (v := 2) F.1 F.2.1 dX7_pointsOf_127 (by decide) ?_
  refine jn0 (m := m) (ls := ls) (rest := [.int (v_X7_pointsOf_116 G i1)]) (if 2 ≤ f_X7_detentionsOf G i1 then 2 else f_X7_detentionsOf G i1) 137 (fun J_13 => ?_) ?_
  · refine lv_icmp_ge (tgt := 136) F.1 F.2.1 dX7_pointsOf_128 (by decide) (fun c_14 => ?_) (fun c_14 => ?_)
    · refine lv_iconst (v := 2) F.1 F.2.1 dX7_pointsOf_136 (by decide) ?_
      exact jn_a (if_pos c_14) J_13
    · refine lv_iload F.1 F.2.1 dX7_pointsOf_131 (lv_at hl 0 rfl) ?_
      refine lv_goto (tgt := 137) F.1 F.2.1 dX7_pointsOf_133 (by decide) ?_
      exact jn_a (if_neg c_14) J_13
  refine lv_iadd F.1 F.2.1 dX7_pointsOf_137 ?_
  exact q_reti F hr hlk rfl dX7_pointsOf_138
def f_X7_riskOf (G : GS) (i1 : Nat) : Int32 := if f_X7_pointsOf G i1 < 5 then (if f_X7_pointsOf G i1 = 0 then (if f_X7_listOf G (G 7 i1) = 1 then 0 else 1) else 1) else 2
set_option maxHeartbeats 4000000 in
set_option maxRecDepth 100000 in
theorem c_X7_riskOf (l : Launch) (D : va_G) (cy : Nat → ClassId) (A : Nat → Prop) (μ : MU) (m0 : Nat) (ad : Nat → Nat) (G : GS) (hM : RepM cy m0 ad G μ) (i1 : Nat) (hi1 : i1 < 12) (hI : InvM G) : Met l yX7_riskOf (WS yX7_riskOf cX7_riskOf 3 (Option.some Jvm.ClassFile.FieldType.int)) { frames := 3, cells := 0, slots := 0, locals := 70 } (va_Pc [.ref m0, .int (nI i1)] (Wd D cy A μ)) (QcRead (f_X7_riskOf G i1)) 0 0 (fun _ => False) := by
  refine q_met (by decide) (Nat.le_of_ble_eq_true rfl) ?_
  intro p e s m below meth c F w hr hlk hnm ls hl
  have F : CallFix p m c cX7_riskOf 3 s _ BIG RX7 := F
  have hl : lv_has ls 3 [(0, .ref m0), (1, .int (nI i1))] := hl
  refine lv_aload_n F.1 F.2.1 dX7_riskOf_0 rfl (lv_at hl 0 rfl) ?_
  refine lv_iload_n F.1 F.2.1 dX7_riskOf_1 rfl (lv_at hl 1 rfl) ?_
  refine q_rV (rest := []) F w kV_X7_207 hd_X7_pointsOf (ci := 8) rfl (c_X7_pointsOf l D cy A _ m0 ad G hM i1 (show i1 < 12 by omega) hI) hM.1 dX7_riskOf_2 rfl rfl hl.1 ⟨rfl, rfl, Nat.le_of_ble_eq_true rfl, Nat.le_of_ble_eq_true rfl⟩ (Nat.le_of_ble_eq_true rfl) ⟨Nat.zero_le _, Nat.zero_le _⟩ ?_
  refine lv_istore_n (lv' := [(2, .int (f_X7_pointsOf G i1)), (0, .ref m0), (1, .int (nI i1))]) F.1 F.2.1 dX7_riskOf_5 rfl hl (by decide) rfl (fun ls hl => ?_)
  refine lv_iload_n F.1 F.2.1 dX7_riskOf_6 rfl (lv_at hl 0 rfl) ?_
  refine lv_iconst (v := 5) F.1 F.2.1 dX7_riskOf_7 (by decide) ?_
  refine jn0 (m := m) (ls := ls) (rest := []) (if f_X7_pointsOf G i1 < 5 then (if f_X7_pointsOf G i1 = 0 then (if f_X7_listOf G (G 7 i1) = 1 then 0 else 1) else 1) else 2) 38 (fun J_1 => ?_) ?_
  · refine lv_icmp_lt (tgt := 15) F.1 F.2.1 dX7_riskOf_8 (by decide) (fun c_2 => ?_) (fun c_2 => ?_)
    · refine lv_iload_n F.1 F.2.1 dX7_riskOf_15 rfl (lv_at hl 0 rfl) ?_
      refine lv_if_ne (tgt := 37) F.1 F.2.1 dX7_riskOf_16 (by decide) (fun c_3 => ?_) (fun c_3 => ?_)
      · refine lv_iconst (v := 1) F.1 F.2.1 dX7_riskOf_37 (by decide) ?_
        exact jn_a ((if_pos c_2).trans (if_neg c_3)) J_1
      · refine lv_aload_n F.1 F.2.1 dX7_riskOf_19 rfl (lv_at hl 1 rfl) ?_
        refine lv_aload_n F.1 F.2.1 dX7_riskOf_20 rfl (lv_at hl 1 rfl) ?_
        refine gf_X7_23 F w hM.1 rfl dX7_riskOf_21 ?_
        refine lv_iload_n F.1 F.2.1 dX7_riskOf_24 rfl (lv_at hl 2 rfl) ?_
        refine m_ild F w hM 7 (by decide) rfl rfl i1 (show i1 < 12 by omega) (by decide) dX7_riskOf_25 ?_
        refine q_rV (rest := []) F w kV_X7_195 hd_X7_listOf (ci := 8) rfl (c_X7_listOf l D cy A _ m0 ad G hM (G 7 i1) hI) hM.1 dX7_riskOf_26 rfl rfl hl.1 ⟨rfl, rfl, Nat.le_of_ble_eq_true rfl, Nat.le_of_ble_eq_true rfl⟩ (Nat.le_of_ble_eq_true rfl) ⟨Nat.zero_le _, Nat.zero_le _⟩ ?_
        refine lv_iconst (v := 1) F.1 F.2.1 dX7_riskOf_29 (by decide) ?_
        refine lv_icmp_ne (tgt := 37) F.1 F.2.1 dX7_riskOf_30 (by decide) (fun c_4 => ?_) (fun c_4 => ?_)
        · refine lv_iconst (v := 1) F.1 F.2.1 dX7_riskOf_37 (by decide) ?_
          exact jn_a ((if_pos c_2).trans ((if_pos c_3).trans (if_neg c_4))) J_1
        · refine lv_iconst (v := 0) F.1 F.2.1 dX7_riskOf_33 (by decide) ?_
          refine lv_goto (tgt := 38) F.1 F.2.1 dX7_riskOf_34 (by decide) ?_
          exact jn_a ((if_pos c_2).trans ((if_pos c_3).trans (if_pos c_4))) J_1
    · refine lv_iconst (v := 2) F.1 F.2.1 dX7_riskOf_11 (by decide) ?_
      refine lv_goto (tgt := 38) F.1 F.2.1 dX7_riskOf_12 (by decide) ?_
      exact jn_a (if_neg c_2) J_1
  exact q_reti F hr hlk rfl dX7_riskOf_38
def v_X7_priorityOf_60 (G : GS) (i1 : Nat) : Int32 := if f_X7_riskOf G i1 = 2 then 150 else (if f_X7_riskOf G i1 = 1 then 300 else 720)
def v_X7_priorityOf_87 (G : GS) (i1 : Nat) : Int32 := if f_X7_riskOf G i1 = 2 then 180 else (if f_X7_riskOf G i1 = 1 then 360 else 1080)
def f_X7_priorityOf (G : GS) (i1 : Nat) : Int32 := if G 12 i1 = (-1) then 2 else if (G 1 0) - (G 32 (G 12 i1).toNatClampNeg) ≤ v_X7_priorityOf_87 G i1 then (if (G 1 0) - (G 32 (G 12 i1).toNatClampNeg) < v_X7_priorityOf_60 G i1 then 0 else 1) else 2
set_option maxHeartbeats 4000000 in
set_option maxRecDepth 100000 in
theorem c_X7_priorityOf (l : Launch) (D : va_G) (cy : Nat → ClassId) (A : Nat → Prop) (μ : MU) (m0 : Nat) (ad : Nat → Nat) (G : GS) (hM : RepM cy m0 ad G μ) (i1 : Nat) (hi1 : i1 < 12) (hI : InvM G) : Met l yX7_priorityOf (WS yX7_priorityOf cX7_priorityOf 6 (Option.some Jvm.ClassFile.FieldType.int)) { frames := 4, cells := 0, slots := 0, locals := 92 } (va_Pc [.ref m0, .int (nI i1)] (Wd D cy A μ)) (QcRead (f_X7_priorityOf G i1)) 0 0 (fun _ => False) := by
  refine q_met (by decide) (Nat.le_of_ble_eq_true rfl) ?_
  intro p e s m below meth c F w hr hlk hnm ls hl
  have F : CallFix p m c cX7_priorityOf 6 s _ BIG RX7 := F
  have hl : lv_has ls 6 [(0, .ref m0), (1, .int (nI i1))] := hl
  refine lv_aload_n F.1 F.2.1 dX7_priorityOf_0 rfl (lv_at hl 0 rfl) ?_
  refine gf_X7_38 F w hM.1 rfl dX7_priorityOf_1 ?_
  refine lv_iload_n F.1 F.2.1 dX7_priorityOf_4 rfl (lv_at hl 1 rfl) ?_
  refine m_ild F w hM 12 (by decide) rfl rfl i1 (show i1 < 12 by omega) (by decide) dX7_priorityOf_5 ?_
  refine lv_iconst (v := -1) F.1 F.2.1 dX7_priorityOf_6 (by decide) ?_
  refine lv_icmp_ne (tgt := 12) F.1 F.2.1 dX7_priorityOf_7 (by decide) (fun c_1 => ?_) (fun c_1 => ?_)
  · refine lv_aload_n F.1 F.2.1 dX7_priorityOf_12 rfl (lv_at hl 0 rfl) ?_
    refine gf_X7_142 F w hM.1 rfl dX7_priorityOf_13 ?_
    refine lv_aload_n F.1 F.2.1 dX7_priorityOf_16 rfl (lv_at hl 0 rfl) ?_
    refine gf_X7_92 F w hM.1 rfl dX7_priorityOf_17 ?_
    refine lv_aload_n F.1 F.2.1 dX7_priorityOf_20 rfl (lv_at hl 0 rfl) ?_
    refine gf_X7_38 F w hM.1 rfl dX7_priorityOf_21 ?_
    refine lv_iload_n F.1 F.2.1 dX7_priorityOf_24 rfl (lv_at hl 1 rfl) ?_
    refine m_ild F w hM 12 (by decide) rfl rfl i1 (show i1 < 12 by omega) (by decide) dX7_priorityOf_25 ?_
    refine q_iald F w (hM.2.1 32 (by decide) rfl) (hI.la hi1 c_1) dX7_priorityOf_26 ?_
    refine lv_isub F.1 F.2.1 dX7_priorityOf_27 ?_
    refine lv_istore_n (lv' := [(2, .int ((G 1 0) - (G 32 (G 12 i1).toNatClampNeg))), (0, .ref m0), (1, .int (nI i1))]) F.1 F.2.1 dX7_priorityOf_28 rfl hl (by decide) rfl (fun ls hl => ?_)
    refine lv_aload_n F.1 F.2.1 dX7_priorityOf_29 rfl (lv_at hl 1 rfl) ?_
    refine lv_iload_n F.1 F.2.1 dX7_priorityOf_30 rfl (lv_at hl 2 rfl) ?_
    refine q_rV (rest := []) F w kV_X7_210 hd_X7_riskOf (ci := 8) rfl (c_X7_riskOf l D cy A _ m0 ad G hM i1 (show i1 < 12 by omega) hI) hM.1 dX7_priorityOf_31 rfl rfl hl.1 ⟨rfl, rfl, Nat.le_of_ble_eq_true rfl, Nat.le_of_ble_eq_true rfl⟩ (Nat.le_of_ble_eq_true rfl) ⟨Nat.zero_le _, Nat.zero_le _⟩ ?_
    refine lv_istore_n (lv' := [(3, .int (f_X7_riskOf G i1)), (2, .int ((G 1 0) - (G 32 (G 12 i1).toNatClampNeg))), (0, .ref m0), (1, .int (nI i1))]) F.1 F.2.1 dX7_priorityOf_34 rfl hl (by decide) rfl (fun ls hl => ?_)
    refine lv_iload_n F.1 F.2.1 dX7_priorityOf_35 rfl (lv_at hl 0 rfl) ?_
    refine lv_iconst (v := 2) F.1 F.2.1 dX7_priorityOf_36 (by decide) ?_
    refine jn0 (m := m) (ls := ls) (rest := []) (if f_X7_riskOf G i1 = 2 then 150 else (if f_X7_riskOf G i1 = 1 then 300 else 720)) 60 (fun J_2 => ?_) ?_
    · refine lv_icmp_ne (tgt := 46) F.1 F.2.1 dX7_priorityOf_37 (by decide) (fun c_3 => ?_) (fun c_3 => ?_)
      · refine lv_iload_n F.1 F.2.1 dX7_priorityOf_46 rfl (lv_at hl 0 rfl) ?_
        refine lv_iconst (v := 1) F.1 F.2.1 dX7_priorityOf_47 (by decide) ?_
        refine lv_icmp_ne (tgt := 57) F.1 F.2.1 dX7_priorityOf_48 (by decide) (fun c_4 => ?_) (fun c_4 => ?_)
        · refine lv_sipush (v := 720) F.1 F.2.1 dX7_priorityOf_57 (by decide) ?_
          exact jn_a ((if_neg c_3).trans (if_neg c_4)) J_2
        · refine lv_sipush (v := 300) F.1 F.2.1 dX7_priorityOf_51 (by decide) ?_
          refine lv_goto (tgt := 60) F.1 F.2.1 dX7_priorityOf_54 (by decide) ?_
          exact jn_a ((if_neg c_3).trans (if_pos c_4)) J_2
      · refine lv_sipush (v := 150) F.1 F.2.1 dX7_priorityOf_40 (by decide) ?_
        refine lv_goto (tgt := 60) F.1 F.2.1 dX7_priorityOf_43 (by decide) ?_
        exact jn_a (if_pos c_3) J_2
    refine lv_fold (y := v_X7_priorityOf_60 G i1) rfl ?_
    refine lv_istore (lv' := [(4, .int (v_X7_priorityOf_60 G i1)), (3, .int (f_X7_riskOf G i1)), (2, .int ((G 1 0) - (G 32 (G 12 i1).toNatClampNeg))), (0, .ref m0), (1, .int (nI i1))]) F.1 F.2.1 dX7_priorityOf_60 hl (by decide) rfl (fun ls hl => ?_)
    refine lv_iload_n F.1 F.2.1 dX7_priorityOf_62 rfl (lv_at hl 1 rfl) ?_
    refine lv_iconst (v := 2) F.1 F.2.1 dX7_priorityOf_63 (by decide) ?_
    refine jn0 (m := m) (ls := ls) (rest := []) (if f_X7_riskOf G i1 = 2 then 180 else (if f_X7_riskOf G i1 = 1 then 360 else 1080)) 87 (fun J_5 => ?_) ?_
    · refine lv_icmp_ne (tgt := 73) F.1 F.2.1 dX7_priorityOf_64 (by decide) (fun c_6 => ?_) (fun c_6 => ?_)
      · refine lv_iload_n F.1 F.2.1 dX7_priorityOf_73 rfl (lv_at hl 1 rfl) ?_
        refine lv_iconst (v := 1) F.1 F.2.1 dX7_priorityOf_74 (by decide) ?_
        refine lv_icmp_ne (tgt := 84) F.1 F.2.1 dX7_priorityOf_75 (by decide) (fun c_7 => ?_) (fun c_7 => ?_)
        · refine lv_sipush (v := 1080) F.1 F.2.1 dX7_priorityOf_84 (by decide) ?_
          exact jn_a ((if_neg c_6).trans (if_neg c_7)) J_5
        · refine lv_sipush (v := 360) F.1 F.2.1 dX7_priorityOf_78 (by decide) ?_
          refine lv_goto (tgt := 87) F.1 F.2.1 dX7_priorityOf_81 (by decide) ?_
          exact jn_a ((if_neg c_6).trans (if_pos c_7)) J_5
      · refine lv_sipush (v := 180) F.1 F.2.1 dX7_priorityOf_67 (by decide) ?_
        refine lv_goto (tgt := 87) F.1 F.2.1 dX7_priorityOf_70 (by decide) ?_
        exact jn_a (if_pos c_6) J_5
    refine lv_fold (y := v_X7_priorityOf_87 G i1) rfl ?_
    refine lv_istore (lv' := [(5, .int (v_X7_priorityOf_87 G i1)), (4, .int (v_X7_priorityOf_60 G i1)), (3, .int (f_X7_riskOf G i1)), (2, .int ((G 1 0) - (G 32 (G 12 i1).toNatClampNeg))), (0, .ref m0), (1, .int (nI i1))]) F.1 F.2.1 dX7_priorityOf_87 hl (by decide) rfl (fun ls hl => ?_)
    refine lv_iload_n F.1 F.2.1 dX7_priorityOf_89 rfl (lv_at hl 3 rfl) ?_
    refine lv_iload F.1 F.2.1 dX7_priorityOf_90 (lv_at hl 0 rfl) ?_
    refine jn0 (m := m) (ls := ls) (rest := []) (if (G 1 0) - (G 32 (G 12 i1).toNatClampNeg) ≤ v_X7_priorityOf_87 G i1 then (if (G 1 0) - (G 32 (G 12 i1).toNatClampNeg) < v_X7_priorityOf_60 G i1 then 0 else 1) else 2) 110 (fun J_8 => ?_) ?_
    · refine lv_icmp_le (tgt := 99) F.1 F.2.1 dX7_priorityOf_92 (by decide) (fun c_9 => ?_) (fun c_9 => ?_)
      · refine lv_iload_n F.1 F.2.1 dX7_priorityOf_99 rfl (lv_at hl 3 rfl) ?_
        refine lv_iload F.1 F.2.1 dX7_priorityOf_100 (lv_at hl 1 rfl) ?_
        refine lv_icmp_lt (tgt := 109) F.1 F.2.1 dX7_priorityOf_102 (by decide) (fun c_10 => ?_) (fun c_10 => ?_)
        · refine lv_iconst (v := 0) F.1 F.2.1 dX7_priorityOf_109 (by decide) ?_
          exact jn_a ((if_pos c_9).trans (if_pos c_10)) J_8
        · refine lv_iconst (v := 1) F.1 F.2.1 dX7_priorityOf_105 (by decide) ?_
          refine lv_goto (tgt := 110) F.1 F.2.1 dX7_priorityOf_106 (by decide) ?_
          exact jn_a ((if_pos c_9).trans (if_neg c_10)) J_8
      · refine lv_iconst (v := 2) F.1 F.2.1 dX7_priorityOf_95 (by decide) ?_
        refine lv_goto (tgt := 110) F.1 F.2.1 dX7_priorityOf_96 (by decide) ?_
        exact jn_a (if_neg c_9) J_8
    exact q_reti F hr hlk (if_neg c_1) dX7_priorityOf_110
  · refine lv_iconst (v := 2) F.1 F.2.1 dX7_priorityOf_10 (by decide) ?_
    exact q_reti F hr hlk (if_pos c_1) dX7_priorityOf_11
def L_X7_hasOff_15_2 (G : GS) (i1 : Nat) (k4 : Nat) (a0 : Int32) : Nat → Int32
  | 0 => a0
  | k15 + 1 => if L_X7_hasOff_15_2 G i1 k4 a0 k15 = 0 then (if G 30 k4 = nI i1 then (if G 37 ((12 * k4) + k15) = 2 then 1 else 0) else 0) else 1
theorem nz_L_X7_hasOff_15_2 (G : GS) (i1 : Nat) (k4 : Nat) (a0 : Int32) (h0 : nz a0) : ∀ n : Nat, nz (L_X7_hasOff_15_2 G i1 k4 a0 n)
  | 0 => h0
  | k15 + 1 => (nz_ite (nz_ite (nz_ite nz1 nz0) nz0) nz1)
def L_X7_hasOff_4_2 (G : GS) (i1 : Nat) : Nat → Int32
  | 0 => 0
  | k4 + 1 => L_X7_hasOff_15_2 G i1 k4 (L_X7_hasOff_4_2 G i1 k4) (gnF G k4)
theorem nz_L_X7_hasOff_4_2 (G : GS) (i1 : Nat) : ∀ n : Nat, nz (L_X7_hasOff_4_2 G i1 n)
  | 0 => nz0
  | k4 + 1 => (nz_L_X7_hasOff_15_2 _ _ _ _ (nz_L_X7_hasOff_4_2 _ _ _) _)
def f_X7_hasOff (G : GS) (i1 : Nat) : Int32 := L_X7_hasOff_4_2 G i1 (gnV G)
theorem nz_f_X7_hasOff (G : GS) (i1 : Nat) : nz (f_X7_hasOff G i1) := (nz_L_X7_hasOff_4_2 _ _ _)
set_option maxHeartbeats 4000000 in
set_option maxRecDepth 100000 in
theorem c_X7_hasOff (l : Launch) (D : va_G) (cy : Nat → ClassId) (A : Nat → Prop) (μ : MU) (m0 : Nat) (ad : Nat → Nat) (G : GS) (hM : RepM cy m0 ad G μ) (i1 : Nat) (hi1 : i1 < 12) (hI : InvM G) : Met l yX7_hasOff (WS yX7_hasOff cX7_hasOff 5 (Option.some Jvm.ClassFile.FieldType.boolean)) { frames := 0, cells := 0, slots := 0, locals := 0 } (va_Pc [.ref m0, .int (nI i1)] (Wd D cy A μ)) (QcRead (f_X7_hasOff G i1)) 0 0 (fun _ => False) := by
  refine q_met (by decide) (Nat.le_of_ble_eq_true rfl) ?_
  intro p e s m below meth c F w hr hlk hnm ls hl
  have F : CallFix p m c cX7_hasOff 5 s _ BIG RX7 := F
  have hl : lv_has ls 5 [(0, .ref m0), (1, .int (nI i1))] := hl
  have hnV := hI.v.2
  refine lv_iconst (v := 0) F.1 F.2.1 dX7_hasOff_0 (by decide) ?_
  refine lv_istore_n (lv' := [(2, .int 0), (0, .ref m0), (1, .int (nI i1))]) F.1 F.2.1 dX7_hasOff_1 rfl hl (by decide) rfl (fun ls hl => ?_)
  refine lv_iconst (v := 0) F.1 F.2.1 dX7_hasOff_2 (by decide) ?_
  refine lv_istore_n (lv' := [(3, .int 0), (2, .int 0), (0, .ref m0), (1, .int (nI i1))]) F.1 F.2.1 dX7_hasOff_3 rfl hl (by decide) rfl (fun ls hl => ?_)
  refine q_loop (P := fun k4 ls => lv_has ls 5 [(3, .int (nI k4)), (2, .int (L_X7_hasOff_4_2 G i1 k4)), (0, .ref m0), (1, .int (nI i1))]) (gnV G) (fun k4 ls hk4 hl ih4 => ?_) 0 ls (Nat.zero_le _) (lv_cg (lv_sub hl [0, 1, 2, 3] rfl) rfl)
  refine lv_iload_n F.1 F.2.1 dX7_hasOff_4 rfl (lv_at hl 0 rfl) ?_
  refine lv_aload_n F.1 F.2.1 dX7_hasOff_5 rfl (lv_at hl 2 rfl) ?_
  refine gf_X7_139 F w hM.1 rfl dX7_hasOff_6 ?_
  refine lv_icmp_ge (tgt := 74) F.1 F.2.1 dX7_hasOff_9 (by decide) (fun c_1 => ?_) (fun c_1 => ?_)
  rotate_left
  · have hlt4 : k4 < (gnV G) := GB_ilt hI.v.1 (Nat.lt_of_le_of_lt hI.v.2 (by decide)) hk4 c_1
    refine lv_iconst (v := 0) F.1 F.2.1 dX7_hasOff_12 (by decide) ?_
    refine lv_istore (lv' := [(4, .int 0), (3, .int (nI k4)), (2, .int (L_X7_hasOff_4_2 G i1 k4)), (0, .ref m0), (1, .int (nI i1))]) F.1 F.2.1 dX7_hasOff_13 hl (by decide) rfl (fun ls hl => ?_)
    refine q_loop (P := fun k15 ls => lv_has ls 5 [(4, .int (nI k15)), (3, .int (nI k4)), (2, .int (L_X7_hasOff_15_2 G i1 k4 (L_X7_hasOff_4_2 G i1 k4) k15)), (0, .ref m0), (1, .int (nI i1))]) (gnF G k4) (fun k15 ls hk15 hl ih15 => ?_) 0 ls (Nat.zero_le _) (lv_cg (lv_sub hl [0, 1, 2, 3, 4] rfl) rfl)
    refine lv_iload F.1 F.2.1 dX7_hasOff_15 (lv_at hl 0 rfl) ?_
    refine lv_aload_n F.1 F.2.1 dX7_hasOff_17 rfl (lv_at hl 3 rfl) ?_
    refine gf_X7_101 F w hM.1 rfl dX7_hasOff_18 ?_
    refine lv_iload_n F.1 F.2.1 dX7_hasOff_21 rfl (lv_at hl 1 rfl) ?_
    refine m_ild F w hM 35 (by decide) rfl rfl k4 (show k4 < 60 by omega) (by decide) dX7_hasOff_22 ?_
    refine lv_icmp_ge (tgt := 68) F.1 F.2.1 dX7_hasOff_23 (by decide) (fun c_2 => ?_) (fun c_2 => ?_)
    rotate_left
    · have hlt15 : k15 < (gnF G k4) := GB_ilt (hI.f (show k4 < 60 by omega)).1 (Nat.lt_of_le_of_lt (hI.f (show k4 < 60 by omega)).2 (by decide)) hk15 c_2
      have hnF := (hI.f (show k4 < 60 by omega)).2
      refine lv_iload_n F.1 F.2.1 dX7_hasOff_26 rfl (lv_at hl 2 rfl) ?_
      refine jn0 (m := m) (ls := ls) (rest := []) (if L_X7_hasOff_15_2 G i1 k4 (L_X7_hasOff_4_2 G i1 k4) k15 = 0 then (if G 30 k4 = nI i1 then (if G 37 ((12 * k4) + k15) = 2 then 1 else 0) else 0) else 1) 61 (fun J_3 => ?_) ?_
      · refine lv_if_ne (tgt := 56) F.1 F.2.1 dX7_hasOff_27 (by decide) (fun c_4 => ?_) (fun c_4 => ?_)
        · refine lv_iconst (v := 1) F.1 F.2.1 dX7_hasOff_56 (by decide) ?_
          refine lv_goto (tgt := 61) F.1 F.2.1 dX7_hasOff_57 (by decide) ?_
          exact jn_a (if_neg c_4) J_3
        · refine lv_aload_n F.1 F.2.1 dX7_hasOff_30 rfl (lv_at hl 3 rfl) ?_
          refine gf_X7_86 F w hM.1 rfl dX7_hasOff_31 ?_
          refine lv_iload_n F.1 F.2.1 dX7_hasOff_34 rfl (lv_at hl 1 rfl) ?_
          refine m_ild F w hM 30 (by decide) rfl rfl k4 (show k4 < 60 by omega) (by decide) dX7_hasOff_35 ?_
          refine lv_iload_n F.1 F.2.1 dX7_hasOff_36 rfl (lv_at hl 4 rfl) ?_
          refine lv_icmp_ne (tgt := 60) F.1 F.2.1 dX7_hasOff_37 (by decide) (fun c_5 => ?_) (fun c_5 => ?_)
          · refine lv_iconst (v := 0) F.1 F.2.1 dX7_hasOff_60 (by decide) ?_
            exact jn_a ((if_pos c_4).trans (if_neg c_5)) J_3
          · refine lv_aload_n F.1 F.2.1 dX7_hasOff_40 rfl (lv_at hl 3 rfl) ?_
            refine gf_X7_107 F w hM.1 rfl dX7_hasOff_41 ?_
            refine lv_bipush (v := 12) F.1 F.2.1 dX7_hasOff_44 (by decide) ?_
            refine lv_iload_n F.1 F.2.1 dX7_hasOff_46 rfl (lv_at hl 1 rfl) ?_
            refine lv_imul F.1 F.2.1 dX7_hasOff_47 ?_
            refine lv_fold (y := nI (12 * k4)) (pk_mul 12 k4) ?_
            refine lv_iload F.1 F.2.1 dX7_hasOff_48 (lv_at hl 0 rfl) ?_
            refine lv_iadd F.1 F.2.1 dX7_hasOff_50 ?_
            refine lv_fold (y := nI ((12 * k4) + k15)) (nI_add _ _) ?_
            refine m_ild F w hM 37 (by decide) rfl rfl ((12 * k4) + k15) (show (12 * k4) + k15 < 720 by omega) (by decide) dX7_hasOff_51 ?_
            refine lv_iconst (v := 2) F.1 F.2.1 dX7_hasOff_52 (by decide) ?_
            refine lv_icmp_ne (tgt := 60) F.1 F.2.1 dX7_hasOff_53 (by decide) (fun c_6 => ?_) (fun c_6 => ?_)
            · refine lv_iconst (v := 0) F.1 F.2.1 dX7_hasOff_60 (by decide) ?_
              exact jn_a ((if_pos c_4).trans ((if_pos c_5).trans (if_neg c_6))) J_3
            · refine lv_iconst (v := 1) F.1 F.2.1 dX7_hasOff_56 (by decide) ?_
              refine lv_goto (tgt := 61) F.1 F.2.1 dX7_hasOff_57 (by decide) ?_
              exact jn_a ((if_pos c_4).trans ((if_pos c_5).trans (if_pos c_6))) J_3
      refine lv_istore_n (lv' := [(2, .int (if L_X7_hasOff_15_2 G i1 k4 (L_X7_hasOff_4_2 G i1 k4) k15 = 0 then (if G 30 k4 = nI i1 then (if G 37 ((12 * k4) + k15) = 2 then 1 else 0) else 0) else 1)), (4, .int (nI k15)), (3, .int (nI k4)), (0, .ref m0), (1, .int (nI i1))]) F.1 F.2.1 dX7_hasOff_61 rfl hl (by decide) rfl (fun ls hl => ?_)
      refine lv_iinc (v := nI (k15 + 1)) (lv' := [(4, .int (nI (k15 + 1))), (2, .int (if L_X7_hasOff_15_2 G i1 k4 (L_X7_hasOff_4_2 G i1 k4) k15 = 0 then (if G 30 k4 = nI i1 then (if G 37 ((12 * k4) + k15) = 2 then 1 else 0) else 0) else 1)), (3, .int (nI k4)), (0, .ref m0), (1, .int (nI i1))]) F.1 F.2.1 dX7_hasOff_62 hl (k := 1) rfl (nI_1 _) (by decide) rfl (fun ls hl => ?_)
      refine lv_goto (tgt := 15) F.1 F.2.1 dX7_hasOff_65 (by decide) ?_
      exact ih15 ls hlt15 (lv_sub hl [0, 2, 1, 3, 4] rfl)
    have hkn15 : k15 = (gnF G k4) := GB_ile (hI.f (show k4 < 60 by omega)).1 (Nat.lt_of_le_of_lt (hI.f (show k4 < 60 by omega)).2 (by decide)) hk15 c_2
    subst hkn15
    refine lv_iinc (v := nI (k4 + 1)) (lv' := [(3, .int (nI (k4 + 1))), (4, .int (nI (gnF G k4))), (2, .int (L_X7_hasOff_15_2 G i1 k4 (L_X7_hasOff_4_2 G i1 k4) (gnF G k4))), (0, .ref m0), (1, .int (nI i1))]) F.1 F.2.1 dX7_hasOff_68 hl (k := 1) rfl (nI_1 _) (by decide) rfl (fun ls hl => ?_)
    refine lv_goto (tgt := 4) F.1 F.2.1 dX7_hasOff_71 (by decide) ?_
    exact ih4 ls hlt4 (lv_sub hl [0, 2, 3, 4] rfl)
  have hkn4 : k4 = (gnV G) := GB_ile hI.v.1 (Nat.lt_of_le_of_lt hI.v.2 (by decide)) hk4 c_1
  subst hkn4
  refine lv_iload_n F.1 F.2.1 dX7_hasOff_74 rfl (lv_at hl 1 rfl) ?_
  exact q_retz F hr hlk rfl (nz_L_X7_hasOff_4_2 _ _ _) dX7_hasOff_75
def f_X7_isHere (G : GS) (i1 : Nat) : Int32 := if G 11 (G 30 i1).toNatClampNeg = nI i1 then 1 else 0
theorem nz_f_X7_isHere (G : GS) (i1 : Nat) : nz (f_X7_isHere G i1) := (nz_ite nz1 nz0)
set_option maxHeartbeats 4000000 in
set_option maxRecDepth 100000 in
theorem c_X7_isHere (l : Launch) (D : va_G) (cy : Nat → ClassId) (A : Nat → Prop) (μ : MU) (m0 : Nat) (ad : Nat → Nat) (G : GS) (hM : RepM cy m0 ad G μ) (i1 : Nat) (hi1 : i1 < 60) (hI : InvM G) : Met l yX7_isHere (WS yX7_isHere cX7_isHere 2 (Option.some Jvm.ClassFile.FieldType.boolean)) { frames := 0, cells := 0, slots := 0, locals := 0 } (va_Pc [.ref m0, .int (nI i1)] (Wd D cy A μ)) (QcRead (f_X7_isHere G i1)) 0 0 (fun _ => False) := by
  refine q_met (by decide) (Nat.le_of_ble_eq_true rfl) ?_
  intro p e s m below meth c F w hr hlk hnm ls hl
  have F : CallFix p m c cX7_isHere 2 s _ BIG RX7 := F
  have hl : lv_has ls 2 [(0, .ref m0), (1, .int (nI i1))] := hl
  refine lv_aload_n F.1 F.2.1 dX7_isHere_0 rfl (lv_at hl 0 rfl) ?_
  refine gf_X7_35 F w hM.1 rfl dX7_isHere_1 ?_
  refine lv_aload_n F.1 F.2.1 dX7_isHere_4 rfl (lv_at hl 0 rfl) ?_
  refine gf_X7_86 F w hM.1 rfl dX7_isHere_5 ?_
  refine lv_iload_n F.1 F.2.1 dX7_isHere_8 rfl (lv_at hl 1 rfl) ?_
  refine m_ild F w hM 30 (by decide) rfl rfl i1 (show i1 < 60 by omega) (by decide) dX7_isHere_9 ?_
  refine q_iald F w (hM.2.1 11 (by decide) rfl) (hI.so hi1) dX7_isHere_10 ?_
  refine lv_iload_n F.1 F.2.1 dX7_isHere_11 rfl (lv_at hl 1 rfl) ?_
  refine jn0 (m := m) (ls := ls) (rest := []) (if G 11 (G 30 i1).toNatClampNeg = nI i1 then 1 else 0) 20 (fun J_1 => ?_) ?_
  · refine lv_icmp_ne (tgt := 19) F.1 F.2.1 dX7_isHere_12 (by decide) (fun c_2 => ?_) (fun c_2 => ?_)
    · refine lv_iconst (v := 0) F.1 F.2.1 dX7_isHere_19 (by decide) ?_
      exact jn_a (if_neg c_2) J_1
    · refine lv_iconst (v := 1) F.1 F.2.1 dX7_isHere_15 (by decide) ?_
      refine lv_goto (tgt := 20) F.1 F.2.1 dX7_isHere_16 (by decide) ?_
      exact jn_a (if_pos c_2) J_1
  exact q_retz F hr hlk rfl (nz_ite nz1 nz0) dX7_isHere_20
def L_X7_openOf_4_2 (G : GS) (i1 : Nat) : Nat → Int32
  | 0 => 0
  | k4 + 1 => (L_X7_openOf_4_2 G i1 k4) + (if G 37 ((12 * i1) + k4) = 0 then 1 else 0)
def f_X7_openOf (G : GS) (i1 : Nat) : Int32 := L_X7_openOf_4_2 G i1 (gnF G i1)
set_option maxHeartbeats 4000000 in
set_option maxRecDepth 100000 in
theorem c_X7_openOf (l : Launch) (D : va_G) (cy : Nat → ClassId) (A : Nat → Prop) (μ : MU) (m0 : Nat) (ad : Nat → Nat) (G : GS) (hM : RepM cy m0 ad G μ) (i1 : Nat) (hi1 : i1 < 60) (hI : InvM G) : Met l yX7_openOf (WS yX7_openOf cX7_openOf 4 (Option.some Jvm.ClassFile.FieldType.int)) { frames := 0, cells := 0, slots := 0, locals := 0 } (va_Pc [.ref m0, .int (nI i1)] (Wd D cy A μ)) (QcRead (f_X7_openOf G i1)) 0 0 (fun _ => False) := by
  refine q_met (by decide) (Nat.le_of_ble_eq_true rfl) ?_
  intro p e s m below meth c F w hr hlk hnm ls hl
  have F : CallFix p m c cX7_openOf 4 s _ BIG RX7 := F
  have hl : lv_has ls 4 [(0, .ref m0), (1, .int (nI i1))] := hl
  have hnF := (hI.f hi1).2
  refine lv_iconst (v := 0) F.1 F.2.1 dX7_openOf_0 (by decide) ?_
  refine lv_istore_n (lv' := [(2, .int 0), (0, .ref m0), (1, .int (nI i1))]) F.1 F.2.1 dX7_openOf_1 rfl hl (by decide) rfl (fun ls hl => ?_)
  refine lv_iconst (v := 0) F.1 F.2.1 dX7_openOf_2 (by decide) ?_
  refine lv_istore_n (lv' := [(3, .int 0), (2, .int 0), (0, .ref m0), (1, .int (nI i1))]) F.1 F.2.1 dX7_openOf_3 rfl hl (by decide) rfl (fun ls hl => ?_)
  refine q_loop (P := fun k4 ls => lv_has ls 4 [(3, .int (nI k4)), (2, .int (L_X7_openOf_4_2 G i1 k4)), (0, .ref m0), (1, .int (nI i1))]) (gnF G i1) (fun k4 ls hk4 hl ih4 => ?_) 0 ls (Nat.zero_le _) (lv_cg (lv_sub hl [0, 1, 2, 3] rfl) rfl)
  refine lv_iload_n F.1 F.2.1 dX7_openOf_4 rfl (lv_at hl 0 rfl) ?_
  refine lv_aload_n F.1 F.2.1 dX7_openOf_5 rfl (lv_at hl 2 rfl) ?_
  refine gf_X7_101 F w hM.1 rfl dX7_openOf_6 ?_
  refine lv_iload_n F.1 F.2.1 dX7_openOf_9 rfl (lv_at hl 3 rfl) ?_
  refine m_ild F w hM 35 (by decide) rfl rfl i1 (show i1 < 60 by omega) (by decide) dX7_openOf_10 ?_
  refine lv_icmp_ge (tgt := 42) F.1 F.2.1 dX7_openOf_11 (by decide) (fun c_1 => ?_) (fun c_1 => ?_)
  rotate_left
  · have hlt4 : k4 < (gnF G i1) := GB_ilt (hI.f hi1).1 (Nat.lt_of_le_of_lt (hI.f hi1).2 (by decide)) hk4 c_1
    refine lv_iload_n F.1 F.2.1 dX7_openOf_14 rfl (lv_at hl 1 rfl) ?_
    refine lv_aload_n F.1 F.2.1 dX7_openOf_15 rfl (lv_at hl 2 rfl) ?_
    refine gf_X7_107 F w hM.1 rfl dX7_openOf_16 ?_
    refine lv_bipush (v := 12) F.1 F.2.1 dX7_openOf_19 (by decide) ?_
    refine lv_iload_n F.1 F.2.1 dX7_openOf_21 rfl (lv_at hl 3 rfl) ?_
    refine lv_imul F.1 F.2.1 dX7_openOf_22 ?_
    refine lv_fold (y := nI (12 * i1)) (pk_mul 12 i1) ?_
    refine lv_iload_n F.1 F.2.1 dX7_openOf_23 rfl (lv_at hl 0 rfl) ?_
    refine lv_iadd F.1 F.2.1 dX7_openOf_24 ?_
    refine lv_fold (y := nI ((12 * i1) + k4)) (nI_add _ _) ?_
    refine m_ild F w hM 37 (by decide) rfl rfl ((12 * i1) + k4) (show (12 * i1) + k4 < 720 by omega) (by decide) dX7_openOf_25 ?_
    refine jn0 (m := m) (ls := ls) (rest := [.int (L_X7_openOf_4_2 G i1 k4)]) (if G 37 ((12 * i1) + k4) = 0 then 1 else 0) 34 (fun J_2 => ?_) ?_
    · refine lv_if_ne (tgt := 33) F.1 F.2.1 dX7_openOf_26 (by decide) (fun c_3 => ?_) (fun c_3 => ?_)
      · refine lv_iconst (v := 0) F.1 F.2.1 dX7_openOf_33 (by decide) ?_
        exact jn_a (if_neg c_3) J_2
      · refine lv_iconst (v := 1) F.1 F.2.1 dX7_openOf_29 (by decide) ?_
        refine lv_goto (tgt := 34) F.1 F.2.1 dX7_openOf_30 (by decide) ?_
        exact jn_a (if_pos c_3) J_2
    refine lv_iadd F.1 F.2.1 dX7_openOf_34 ?_
    refine lv_istore_n (lv' := [(2, .int ((L_X7_openOf_4_2 G i1 k4) + (if G 37 ((12 * i1) + k4) = 0 then 1 else 0))), (3, .int (nI k4)), (0, .ref m0), (1, .int (nI i1))]) F.1 F.2.1 dX7_openOf_35 rfl hl (by decide) rfl (fun ls hl => ?_)
    refine lv_iinc (v := nI (k4 + 1)) (lv' := [(3, .int (nI (k4 + 1))), (2, .int ((L_X7_openOf_4_2 G i1 k4) + (if G 37 ((12 * i1) + k4) = 0 then 1 else 0))), (0, .ref m0), (1, .int (nI i1))]) F.1 F.2.1 dX7_openOf_36 hl (k := 1) rfl (nI_1 _) (by decide) rfl (fun ls hl => ?_)
    refine lv_goto (tgt := 4) F.1 F.2.1 dX7_openOf_39 (by decide) ?_
    exact ih4 ls hlt4 (lv_sub hl [0, 1, 2, 3] rfl)
  have hkn4 : k4 = (gnF G i1) := GB_ile (hI.f hi1).1 (Nat.lt_of_le_of_lt (hI.f hi1).2 (by decide)) hk4 c_1
  subst hkn4
  refine lv_iload_n F.1 F.2.1 dX7_openOf_42 rfl (lv_at hl 1 rfl) ?_
  exact q_reti F hr hlk rfl dX7_openOf_43
def L_X7_openWeights_4_2 (G : GS) (i1 : Nat) : Nat → Int32
  | 0 => 0
  | k4 + 1 => (L_X7_openWeights_4_2 G i1 k4) + (if G 37 ((12 * i1) + k4) = 0 then G 36 ((12 * i1) + k4) else 0)
def f_X7_openWeights (G : GS) (i1 : Nat) : Int32 := L_X7_openWeights_4_2 G i1 (gnF G i1)
set_option maxHeartbeats 4000000 in
set_option maxRecDepth 100000 in
theorem c_X7_openWeights (l : Launch) (D : va_G) (cy : Nat → ClassId) (A : Nat → Prop) (μ : MU) (m0 : Nat) (ad : Nat → Nat) (G : GS) (hM : RepM cy m0 ad G μ) (i1 : Nat) (hi1 : i1 < 60) (hI : InvM G) : Met l yX7_openWeights (WS yX7_openWeights cX7_openWeights 4 (Option.some Jvm.ClassFile.FieldType.int)) { frames := 0, cells := 0, slots := 0, locals := 0 } (va_Pc [.ref m0, .int (nI i1)] (Wd D cy A μ)) (QcRead (f_X7_openWeights G i1)) 0 0 (fun _ => False) := by
  refine q_met (by decide) (Nat.le_of_ble_eq_true rfl) ?_
  intro p e s m below meth c F w hr hlk hnm ls hl
  have F : CallFix p m c cX7_openWeights 4 s _ BIG RX7 := F
  have hl : lv_has ls 4 [(0, .ref m0), (1, .int (nI i1))] := hl
  have hnF := (hI.f hi1).2
  refine lv_iconst (v := 0) F.1 F.2.1 dX7_openWeights_0 (by decide) ?_
  refine lv_istore_n (lv' := [(2, .int 0), (0, .ref m0), (1, .int (nI i1))]) F.1 F.2.1 dX7_openWeights_1 rfl hl (by decide) rfl (fun ls hl => ?_)
  refine lv_iconst (v := 0) F.1 F.2.1 dX7_openWeights_2 (by decide) ?_
  refine lv_istore_n (lv' := [(3, .int 0), (2, .int 0), (0, .ref m0), (1, .int (nI i1))]) F.1 F.2.1 dX7_openWeights_3 rfl hl (by decide) rfl (fun ls hl => ?_)
  refine q_loop (P := fun k4 ls => lv_has ls 4 [(3, .int (nI k4)), (2, .int (L_X7_openWeights_4_2 G i1 k4)), (0, .ref m0), (1, .int (nI i1))]) (gnF G i1) (fun k4 ls hk4 hl ih4 => ?_) 0 ls (Nat.zero_le _) (lv_cg (lv_sub hl [0, 1, 2, 3] rfl) rfl)
  refine lv_iload_n F.1 F.2.1 dX7_openWeights_4 rfl (lv_at hl 0 rfl) ?_
  refine lv_aload_n F.1 F.2.1 dX7_openWeights_5 rfl (lv_at hl 2 rfl) ?_
  refine gf_X7_101 F w hM.1 rfl dX7_openWeights_6 ?_
  refine lv_iload_n F.1 F.2.1 dX7_openWeights_9 rfl (lv_at hl 3 rfl) ?_
  refine m_ild F w hM 35 (by decide) rfl rfl i1 (show i1 < 60 by omega) (by decide) dX7_openWeights_10 ?_
  refine lv_icmp_ge (tgt := 52) F.1 F.2.1 dX7_openWeights_11 (by decide) (fun c_1 => ?_) (fun c_1 => ?_)
  rotate_left
  · have hlt4 : k4 < (gnF G i1) := GB_ilt (hI.f hi1).1 (Nat.lt_of_le_of_lt (hI.f hi1).2 (by decide)) hk4 c_1
    refine lv_iload_n F.1 F.2.1 dX7_openWeights_14 rfl (lv_at hl 1 rfl) ?_
    refine lv_aload_n F.1 F.2.1 dX7_openWeights_15 rfl (lv_at hl 2 rfl) ?_
    refine gf_X7_107 F w hM.1 rfl dX7_openWeights_16 ?_
    refine lv_bipush (v := 12) F.1 F.2.1 dX7_openWeights_19 (by decide) ?_
    refine lv_iload_n F.1 F.2.1 dX7_openWeights_21 rfl (lv_at hl 3 rfl) ?_
    refine lv_imul F.1 F.2.1 dX7_openWeights_22 ?_
    refine lv_fold (y := nI (12 * i1)) (pk_mul 12 i1) ?_
    refine lv_iload_n F.1 F.2.1 dX7_openWeights_23 rfl (lv_at hl 0 rfl) ?_
    refine lv_iadd F.1 F.2.1 dX7_openWeights_24 ?_
    refine lv_fold (y := nI ((12 * i1) + k4)) (nI_add _ _) ?_
    refine m_ild F w hM 37 (by decide) rfl rfl ((12 * i1) + k4) (show (12 * i1) + k4 < 720 by omega) (by decide) dX7_openWeights_25 ?_
    refine jn0 (m := m) (ls := ls) (rest := [.int (L_X7_openWeights_4_2 G i1 k4)]) (if G 37 ((12 * i1) + k4) = 0 then G 36 ((12 * i1) + k4) else 0) 44 (fun J_2 => ?_) ?_
    · refine lv_if_ne (tgt := 43) F.1 F.2.1 dX7_openWeights_26 (by decide) (fun c_3 => ?_) (fun c_3 => ?_)
      · refine lv_iconst (v := 0) F.1 F.2.1 dX7_openWeights_43 (by decide) ?_
        exact jn_a (if_neg c_3) J_2
      · refine lv_aload_n F.1 F.2.1 dX7_openWeights_29 rfl (lv_at hl 2 rfl) ?_
        refine gf_X7_104 F w hM.1 rfl dX7_openWeights_30 ?_
        refine lv_bipush (v := 12) F.1 F.2.1 dX7_openWeights_33 (by decide) ?_
        refine lv_iload_n F.1 F.2.1 dX7_openWeights_35 rfl (lv_at hl 3 rfl) ?_
        refine lv_imul F.1 F.2.1 dX7_openWeights_36 ?_
        refine lv_fold (y := nI (12 * i1)) (pk_mul 12 i1) ?_
        refine lv_iload_n F.1 F.2.1 dX7_openWeights_37 rfl (lv_at hl 0 rfl) ?_
        refine lv_iadd F.1 F.2.1 dX7_openWeights_38 ?_
        refine lv_fold (y := nI ((12 * i1) + k4)) (nI_add _ _) ?_
        refine m_ild F w hM 36 (by decide) rfl rfl ((12 * i1) + k4) (show (12 * i1) + k4 < 720 by omega) (by decide) dX7_openWeights_39 ?_
        refine lv_goto (tgt := 44) F.1 F.2.1 dX7_openWeights_40 (by decide) ?_
        exact jn_a (if_pos c_3) J_2
    refine lv_iadd F.1 F.2.1 dX7_openWeights_44 ?_
    refine lv_istore_n (lv' := [(2, .int ((L_X7_openWeights_4_2 G i1 k4) + (if G 37 ((12 * i1) + k4) = 0 then G 36 ((12 * i1) + k4) else 0))), (3, .int (nI k4)), (0, .ref m0), (1, .int (nI i1))]) F.1 F.2.1 dX7_openWeights_45 rfl hl (by decide) rfl (fun ls hl => ?_)
    refine lv_iinc (v := nI (k4 + 1)) (lv' := [(3, .int (nI (k4 + 1))), (2, .int ((L_X7_openWeights_4_2 G i1 k4) + (if G 37 ((12 * i1) + k4) = 0 then G 36 ((12 * i1) + k4) else 0))), (0, .ref m0), (1, .int (nI i1))]) F.1 F.2.1 dX7_openWeights_46 hl (k := 1) rfl (nI_1 _) (by decide) rfl (fun ls hl => ?_)
    refine lv_goto (tgt := 4) F.1 F.2.1 dX7_openWeights_49 (by decide) ?_
    exact ih4 ls hlt4 (lv_sub hl [0, 1, 2, 3] rfl)
  have hkn4 : k4 = (gnF G i1) := GB_ile (hI.f hi1).1 (Nat.lt_of_le_of_lt (hI.f hi1).2 (by decide)) hk4 c_1
  subst hkn4
  refine lv_iload_n F.1 F.2.1 dX7_openWeights_52 rfl (lv_at hl 1 rfl) ?_
  exact q_reti F hr hlk rfl dX7_openWeights_53
