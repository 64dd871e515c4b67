theorem i32_ne {x n : Int32} {z : Int} (h : ¬ x = n) (hz : n.toInt = z) : x.toInt ≠ z := fun e => h (Int32.toInt_inj.mp (e.trans hz.symm))
theorem RepM.cg {cy : Nat → ClassId} {m0 : Nat} {ad : Nat → Nat} {G1 G2 : GS} {μ : MU} (h : RepM cy m0 ad G1 μ) (e : G2 = G1) : RepM cy m0 ad G2 μ := e ▸ h
def f_X7_in (x1 : Int32) (x2 : Int32) (x3 : Int32) : Int32 := if x1 < x2 then 0 else (if x3 < x1 then 0 else 1)
theorem nz_f_X7_in (x1 : Int32) (x2 : Int32) (x3 : Int32) : nz (f_X7_in x1 x2 x3) := (nz_ite nz0 (nz_ite nz0 nz1))
set_option maxHeartbeats 4000000 in
set_option maxRecDepth 100000 in
theorem c_X7_in (l : Launch) (D : va_G) (cy : Nat → ClassId) (A : Nat → Prop) (μ : MU) (x1 : Int32) (x2 : Int32) (x3 : Int32) : Met l yX7_in (WS yX7_in cX7_in 3 (Option.some Jvm.ClassFile.FieldType.boolean)) { frames := 0, cells := 0, slots := 0, locals := 0 } (va_Pc [.int x1, .int x2, .int x3] (Wd D cy A μ)) (QcRead (f_X7_in x1 x2 x3)) 0 0 (fun _ => False) := by
  refine q_met (by decide) (Nat.le_of_ble_eq_true rfl) ?_
  intro p e s m below meth c F w hr hlk hnm ls hl
  have F : CallFix p m c cX7_in 3 s _ BIG RX7 := F
  have hl : lv_has ls 3 [(0, .int x1), (1, .int x2), (2, .int x3)] := hl
  refine lv_iload_n F.1 F.2.1 dX7_in_0 rfl (lv_at hl 0 rfl) ?_
  refine lv_iload_n F.1 F.2.1 dX7_in_1 rfl (lv_at hl 1 rfl) ?_
  refine jn0 (m := m) (ls := ls) (rest := []) (if x1 < x2 then 0 else (if x3 < x1 then 0 else 1)) 15 (fun J_1 => ?_) ?_
  · refine lv_icmp_lt (tgt := 14) F.1 F.2.1 dX7_in_2 (by decide) (fun c_2 => ?_) (fun c_2 => ?_)
    · refine lv_iconst (v := 0) F.1 F.2.1 dX7_in_14 (by decide) ?_
      exact jn_a (if_pos c_2) J_1
    · refine lv_iload_n F.1 F.2.1 dX7_in_5 rfl (lv_at hl 0 rfl) ?_
      refine lv_iload_n F.1 F.2.1 dX7_in_6 rfl (lv_at hl 2 rfl) ?_
      refine lv_icmp_gt (tgt := 14) F.1 F.2.1 dX7_in_7 (by decide) (fun c_3 => ?_) (fun c_3 => ?_)
      · refine lv_iconst (v := 0) F.1 F.2.1 dX7_in_14 (by decide) ?_
        exact jn_a ((if_neg c_2).trans (if_pos c_3)) J_1
      · refine lv_iconst (v := 1) F.1 F.2.1 dX7_in_10 (by decide) ?_
        refine lv_goto (tgt := 15) F.1 F.2.1 dX7_in_11 (by decide) ?_
        exact jn_a ((if_neg c_2).trans (if_neg c_3)) J_1
  exact q_retz F hr hlk rfl (nz_ite nz0 (nz_ite nz0 nz1)) dX7_in_15
def f_X7_isShip (G : GS) (x1 : Int32) : Int32 := f_X7_in x1 0 ((G 3 0) - 1)
theorem nz_f_X7_isShip (G : GS) (x1 : Int32) : nz (f_X7_isShip G x1) := (nz_f_X7_in _ _ _)
set_option maxHeartbeats 4000000 in
set_option maxRecDepth 100000 in
theorem c_X7_isShip (l : Launch) (D : va_G) (cy : Nat → ClassId) (A : Nat → Prop) (μ : MU) (m0 : Nat) (ad : Nat → Nat) (G : GS) (hM : RepM cy m0 ad G μ) (x1 : Int32) : Met l yX7_isShip (WS yX7_isShip cX7_isShip 2 (Option.some Jvm.ClassFile.FieldType.boolean)) { frames := 1, cells := 0, slots := 0, locals := 22 } (va_Pc [.ref m0, .int x1] (Wd D cy A μ)) (QcRead (f_X7_isShip G x1)) 0 0 (fun _ => False) := by
  refine q_met (by decide) (Nat.le_of_ble_eq_true rfl) ?_
  intro p e s m below meth c F w hr hlk hnm ls hl
  have F : CallFix p m c cX7_isShip 2 s _ BIG RX7 := F
  have hl : lv_has ls 2 [(0, .ref m0), (1, .int x1)] := hl
  refine lv_iload_n F.1 F.2.1 dX7_isShip_0 rfl (lv_at hl 1 rfl) ?_
  refine lv_iconst (v := 0) F.1 F.2.1 dX7_isShip_1 (by decide) ?_
  refine lv_aload_n F.1 F.2.1 dX7_isShip_2 rfl (lv_at hl 0 rfl) ?_
  refine gf_X7_132 F w hM.1 rfl dX7_isShip_3 ?_
  refine lv_iconst (v := 1) F.1 F.2.1 dX7_isShip_6 (by decide) ?_
  refine lv_isub F.1 F.2.1 dX7_isShip_7 ?_
  refine q_rS (rest := []) F w kS_X7_135 hd_X7_in (c_X7_in l D cy A _ x1 0 ((G 3 0) - 1)) dX7_isShip_8 rfl rfl hl.1 ⟨rfl, rfl, Nat.le_of_ble_eq_true rfl, Nat.le_of_ble_eq_true rfl⟩ (Nat.le_of_ble_eq_true rfl) ⟨Nat.zero_le _, Nat.zero_le _⟩ ?_
  exact q_retz F hr hlk rfl (nz_f_X7_in _ _ _) dX7_isShip_11
def f_X7_isVisit (G : GS) (x1 : Int32) : Int32 := f_X7_in x1 0 ((G 29 0) - 1)
theorem nz_f_X7_isVisit (G : GS) (x1 : Int32) : nz (f_X7_isVisit G x1) := (nz_f_X7_in _ _ _)
set_option maxHeartbeats 4000000 in
set_option maxRecDepth 100000 in
theorem c_X7_isVisit (l : Launch) (D : va_G) (cy : Nat → ClassId) (A : Nat → Prop) (μ : MU) (m0 : Nat) (ad : Nat → Nat) (G : GS) (hM : RepM cy m0 ad G μ) (x1 : Int32) : Met l yX7_isVisit (WS yX7_isVisit cX7_isVisit 2 (Option.some Jvm.ClassFile.FieldType.boolean)) { frames := 1, cells := 0, slots := 0, locals := 22 } (va_Pc [.ref m0, .int x1] (Wd D cy A μ)) (QcRead (f_X7_isVisit G x1)) 0 0 (fun _ => False) := by
  refine q_met (by decide) (Nat.le_of_ble_eq_true rfl) ?_
  intro p e s m below meth c F w hr hlk hnm ls hl
  have F : CallFix p m c cX7_isVisit 2 s _ BIG RX7 := F
  have hl : lv_has ls 2 [(0, .ref m0), (1, .int x1)] := hl
  refine lv_iload_n F.1 F.2.1 dX7_isVisit_0 rfl (lv_at hl 1 rfl) ?_
  refine lv_iconst (v := 0) F.1 F.2.1 dX7_isVisit_1 (by decide) ?_
  refine lv_aload_n F.1 F.2.1 dX7_isVisit_2 rfl (lv_at hl 0 rfl) ?_
  refine gf_X7_139 F w hM.1 rfl dX7_isVisit_3 ?_
  refine lv_iconst (v := 1) F.1 F.2.1 dX7_isVisit_6 (by decide) ?_
  refine lv_isub F.1 F.2.1 dX7_isVisit_7 ?_
  refine q_rS (rest := []) F w kS_X7_135 hd_X7_in (c_X7_in l D cy A _ x1 0 ((G 29 0) - 1)) dX7_isVisit_8 rfl rfl hl.1 ⟨rfl, rfl, Nat.le_of_ble_eq_true rfl, Nat.le_of_ble_eq_true rfl⟩ (Nat.le_of_ble_eq_true rfl) ⟨Nat.zero_le _, Nat.zero_le _⟩ ?_
  exact q_retz F hr hlk rfl (nz_f_X7_in _ _ _) dX7_isVisit_11
def f_X7_isFlag (x1 : Int32) : Int32 := f_X7_in x1 0 5
theorem nz_f_X7_isFlag (x1 : Int32) : nz (f_X7_isFlag x1) := (nz_f_X7_in _ _ _)
set_option maxHeartbeats 4000000 in
set_option maxRecDepth 100000 in
theorem c_X7_isFlag (l : Launch) (D : va_G) (cy : Nat → ClassId) (A : Nat → Prop) (μ : MU) (x1 : Int32) : Met l yX7_isFlag (WS yX7_isFlag cX7_isFlag 1 (Option.some Jvm.ClassFile.FieldType.boolean)) { frames := 1, cells := 0, slots := 0, locals := 22 } (va_Pc [.int x1] (Wd D cy A μ)) (QcRead (f_X7_isFlag x1)) 0 0 (fun _ => False) := by
  refine q_met (by decide) (Nat.le_of_ble_eq_true rfl) ?_
  intro p e s m below meth c F w hr hlk hnm ls hl
  have F : CallFix p m c cX7_isFlag 1 s _ BIG RX7 := F
  have hl : lv_has ls 1 [(0, .int x1)] := hl
  refine lv_iload_n F.1 F.2.1 dX7_isFlag_0 rfl (lv_at hl 0 rfl) ?_
  refine lv_iconst (v := 0) F.1 F.2.1 dX7_isFlag_1 (by decide) ?_
  refine lv_iconst (v := 5) F.1 F.2.1 dX7_isFlag_2 (by decide) ?_
  refine q_rS (rest := []) F w kS_X7_135 hd_X7_in (c_X7_in l D cy A _ x1 0 5) dX7_isFlag_3 rfl rfl hl.1 ⟨rfl, rfl, Nat.le_of_ble_eq_true rfl, Nat.le_of_ble_eq_true rfl⟩ (Nat.le_of_ble_eq_true rfl) ⟨Nat.zero_le _, Nat.zero_le _⟩ ?_
  exact q_retz F hr hlk rfl (nz_f_X7_in _ _ _) dX7_isFlag_6
def f_X7_isBody (x1 : Int32) : Int32 := f_X7_in x1 0 3
theorem nz_f_X7_isBody (x1 : Int32) : nz (f_X7_isBody x1) := (nz_f_X7_in _ _ _)
set_option maxHeartbeats 4000000 in
set_option maxRecDepth 100000 in
theorem c_X7_isBody (l : Launch) (D : va_G) (cy : Nat → ClassId) (A : Nat → Prop) (μ : MU) (x1 : Int32) : Met l yX7_isBody (WS yX7_isBody cX7_isBody 1 (Option.some Jvm.ClassFile.FieldType.boolean)) { frames := 1, cells := 0, slots := 0, locals := 22 } (va_Pc [.int x1] (Wd D cy A μ)) (QcRead (f_X7_isBody x1)) 0 0 (fun _ => False) := by
  refine q_met (by decide) (Nat.le_of_ble_eq_true rfl) ?_
  intro p e s m below meth c F w hr hlk hnm ls hl
  have F : CallFix p m c cX7_isBody 1 s _ BIG RX7 := F
  have hl : lv_has ls 1 [(0, .int x1)] := hl
  refine lv_iload_n F.1 F.2.1 dX7_isBody_0 rfl (lv_at hl 0 rfl) ?_
  refine lv_iconst (v := 0) F.1 F.2.1 dX7_isBody_1 (by decide) ?_
  refine lv_iconst (v := 3) F.1 F.2.1 dX7_isBody_2 (by decide) ?_
  refine q_rS (rest := []) F w kS_X7_135 hd_X7_in (c_X7_in l D cy A _ x1 0 3) dX7_isBody_3 rfl rfl hl.1 ⟨rfl, rfl, Nat.le_of_ble_eq_true rfl, Nat.le_of_ble_eq_true rfl⟩ (Nat.le_of_ble_eq_true rfl) ⟨Nat.zero_le _, Nat.zero_le _⟩ ?_
  exact q_retz F hr hlk rfl (nz_f_X7_in _ _ _) dX7_isBody_6
def f_X7_isPort (x1 : Int32) : Int32 := f_X7_in x1 0 3
theorem nz_f_X7_isPort (x1 : Int32) : nz (f_X7_isPort x1) := (nz_f_X7_in _ _ _)
set_option maxHeartbeats 4000000 in
set_option maxRecDepth 100000 in
theorem c_X7_isPort (l : Launch) (D : va_G) (cy : Nat → ClassId) (A : Nat → Prop) (μ : MU) (x1 : Int32) : Met l yX7_isPort (WS yX7_isPort cX7_isPort 1 (Option.some Jvm.ClassFile.FieldType.boolean)) { frames := 1, cells := 0, slots := 0, locals := 22 } (va_Pc [.int x1] (Wd D cy A μ)) (QcRead (f_X7_isPort x1)) 0 0 (fun _ => False) := by
  refine q_met (by decide) (Nat.le_of_ble_eq_true rfl) ?_
  intro p e s m below meth c F w hr hlk hnm ls hl
  have F : CallFix p m c cX7_isPort 1 s _ BIG RX7 := F
  have hl : lv_has ls 1 [(0, .int x1)] := hl
  refine lv_iload_n F.1 F.2.1 dX7_isPort_0 rfl (lv_at hl 0 rfl) ?_
  refine lv_iconst (v := 0) F.1 F.2.1 dX7_isPort_1 (by decide) ?_
  refine lv_iconst (v := 3) F.1 F.2.1 dX7_isPort_2 (by decide) ?_
  refine q_rS (rest := []) F w kS_X7_135 hd_X7_in (c_X7_in l D cy A _ x1 0 3) dX7_isPort_3 rfl rfl hl.1 ⟨rfl, rfl, Nat.le_of_ble_eq_true rfl, Nat.le_of_ble_eq_true rfl⟩ (Nat.le_of_ble_eq_true rfl) ⟨Nat.zero_le _, Nat.zero_le _⟩ ?_
  exact q_retz F hr hlk rfl (nz_f_X7_in _ _ _) dX7_isPort_6
def f_X7_isIn (x1 : Int32) (x2 : Int32) : Int32 := if (x1 >>> (x2 &&& 31)) &&& 1 = 1 then 1 else 0
theorem nz_f_X7_isIn (x1 : Int32) (x2 : Int32) : nz (f_X7_isIn x1 x2) := (nz_ite nz1 nz0)
set_option maxHeartbeats 4000000 in
set_option maxRecDepth 100000 in
theorem c_X7_isIn (l : Launch) (D : va_G) (cy : Nat → ClassId) (A : Nat → Prop) (μ : MU) (x1 : Int32) (x2 : Int32) : Met l yX7_isIn (WS yX7_isIn cX7_isIn 2 (Option.some Jvm.ClassFile.FieldType.boolean)) { frames := 0, cells := 0, slots := 0, locals := 0 } (va_Pc [.int x1, .int x2] (Wd D cy A μ)) (QcRead (f_X7_isIn x1 x2)) 0 0 (fun _ => False) := by
  refine q_met (by decide) (Nat.le_of_ble_eq_true rfl) ?_
  intro p e s m below meth c F w hr hlk hnm ls hl
  have F : CallFix p m c cX7_isIn 2 s _ BIG RX7 := F
  have hl : lv_has ls 2 [(0, .int x1), (1, .int x2)] := hl
  refine lv_iload_n F.1 F.2.1 dX7_isIn_0 rfl (lv_at hl 0 rfl) ?_
  refine lv_iload_n F.1 F.2.1 dX7_isIn_1 rfl (lv_at hl 1 rfl) ?_
  refine lv_ishr F.1 F.2.1 dX7_isIn_2 ?_
  refine lv_iconst (v := 1) F.1 F.2.1 dX7_isIn_3 (by decide) ?_
  refine lv_iand F.1 F.2.1 dX7_isIn_4 ?_
  refine lv_iconst (v := 1) F.1 F.2.1 dX7_isIn_5 (by decide) ?_
  refine jn0 (m := m) (ls := ls) (rest := []) (if (x1 >>> (x2 &&& 31)) &&& 1 = 1 then 1 else 0) 14 (fun J_1 => ?_) ?_
  · refine lv_icmp_ne (tgt := 13) F.1 F.2.1 dX7_isIn_6 (by decide) (fun c_2 => ?_) (fun c_2 => ?_)
    · refine lv_iconst (v := 0) F.1 F.2.1 dX7_isIn_13 (by decide) ?_
      exact jn_a (if_neg c_2) J_1
    · refine lv_iconst (v := 1) F.1 F.2.1 dX7_isIn_9 (by decide) ?_
      refine lv_goto (tgt := 14) F.1 F.2.1 dX7_isIn_10 (by decide) ?_
      exact jn_a (if_pos c_2) J_1
  exact q_retz F hr hlk rfl (nz_ite nz1 nz0) dX7_isIn_14
def f_X7_thrown (G : GS) : Int32 := G 0 0
set_option maxHeartbeats 4000000 in
set_option maxRecDepth 100000 in
theorem c_X7_thrown (l : Launch) (D : va_G) (cy : Nat → ClassId) (A : Nat → Prop) (μ : MU) (m0 : Nat) (ad : Nat → Nat) (G : GS) (hM : RepM cy m0 ad G μ) : Met l yX7_thrown (WS yX7_thrown cX7_thrown 1 (Option.some Jvm.ClassFile.FieldType.int)) { frames := 0, cells := 0, slots := 0, locals := 0 } (va_Pc [.ref m0] (Wd D cy A μ)) (QcRead (f_X7_thrown G)) 0 0 (fun _ => False) := by
  refine q_met (by decide) (Nat.le_of_ble_eq_true rfl) ?_
  intro p e s m below meth c F w hr hlk hnm ls hl
  have F : CallFix p m c cX7_thrown 1 s _ BIG RX7 := F
  have hl : lv_has ls 1 [(0, .ref m0)] := hl
  refine lv_aload_n F.1 F.2.1 dX7_thrown_0 rfl (lv_at hl 0 rfl) ?_
  refine gf_X7_128 F w hM.1 rfl dX7_thrown_1 ?_
  exact q_reti F hr hlk rfl dX7_thrown_4
def f_X7_isOld (G : GS) (i1 : Nat) : Int32 := if (G 1 0) - (G 4 i1) ≤ 4380 then 0 else 1
theorem nz_f_X7_isOld (G : GS) (i1 : Nat) : nz (f_X7_isOld G i1) := (nz_ite nz0 nz1)
set_option maxHeartbeats 4000000 in
set_option maxRecDepth 100000 in
theorem c_X7_isOld (l : Launch) (D : va_G) (cy : Nat → ClassId) (A : Nat → Prop) (μ : MU) (m0 : Nat) (ad : Nat → Nat) (G : GS) (hM : RepM cy m0 ad G μ) (i1 : Nat) (hi1 : i1 < 12) : Met l yX7_isOld (WS yX7_isOld cX7_isOld 2 (Option.some Jvm.ClassFile.FieldType.boolean)) { frames := 0, cells := 0, slots := 0, locals := 0 } (va_Pc [.ref m0, .int (nI i1)] (Wd D cy A μ)) (QcRead (f_X7_isOld G i1)) 0 0 (fun _ => False) := by
  refine q_met (by decide) (Nat.le_of_ble_eq_true rfl) ?_
  intro p e s m below meth c F w hr hlk hnm ls hl
  have F : CallFix p m c cX7_isOld 2 s _ BIG RX7 := F
  have hl : lv_has ls 2 [(0, .ref m0), (1, .int (nI i1))] := hl
  refine lv_aload_n F.1 F.2.1 dX7_isOld_0 rfl (lv_at hl 0 rfl) ?_
  refine gf_X7_142 F w hM.1 rfl dX7_isOld_1 ?_
  refine lv_aload_n F.1 F.2.1 dX7_isOld_4 rfl (lv_at hl 0 rfl) ?_
  refine gf_X7_13 F w hM.1 rfl dX7_isOld_5 ?_
  refine lv_iload_n F.1 F.2.1 dX7_isOld_8 rfl (lv_at hl 1 rfl) ?_
  refine m_ild F w hM 4 (by decide) rfl rfl i1 (show i1 < 12 by omega) (by decide) dX7_isOld_9 ?_
  refine lv_isub F.1 F.2.1 dX7_isOld_10 ?_
  refine lv_sipush (v := 4380) F.1 F.2.1 dX7_isOld_11 (by decide) ?_
  refine jn0 (m := m) (ls := ls) (rest := []) (if (G 1 0) - (G 4 i1) ≤ 4380 then 0 else 1) 22 (fun J_1 => ?_) ?_
  · refine lv_icmp_le (tgt := 21) F.1 F.2.1 dX7_isOld_14 (by decide) (fun c_2 => ?_) (fun c_2 => ?_)
    · refine lv_iconst (v := 0) F.1 F.2.1 dX7_isOld_21 (by decide) ?_
      exact jn_a (if_pos c_2) J_1
    · refine lv_iconst (v := 1) F.1 F.2.1 dX7_isOld_17 (by decide) ?_
      refine lv_goto (tgt := 22) F.1 F.2.1 dX7_isOld_18 (by decide) ?_
      exact jn_a (if_neg c_2) J_1
  exact q_retz F hr hlk rfl (nz_ite nz0 nz1) dX7_isOld_22
def v_X7_isInForce_32 (G : GS) (i1 : Nat) (i2 : Nat) : Int32 := (G 27 i1) + (if G 27 i1 ≤ G 4 i2 then 0 else G 28 i1)
def f_X7_isInForce (G : GS) (i1 : Nat) (i2 : Nat) : Int32 := if G 5 i2 < G 25 i1 then 0 else (if f_X7_isIn (G 26 i1) (G 6 i2) = 0 then 0 else (if G 1 0 < v_X7_isInForce_32 G i1 i2 then 0 else 1))
theorem nz_f_X7_isInForce (G : GS) (i1 : Nat) (i2 : Nat) : nz (f_X7_isInForce G i1 i2) := (nz_ite nz0 (nz_ite nz0 (nz_ite nz0 nz1)))
set_option maxHeartbeats 4000000 in
set_option maxRecDepth 100000 in
theorem c_X7_isInForce (l : Launch) (D : va_G) (cy : Nat → ClassId) (A : Nat → Prop) (μ : MU) (m0 : Nat) (ad : Nat → Nat) (G : GS) (hM : RepM cy m0 ad G μ) (i1 : Nat) (i2 : Nat) (hi1 : i1 < 20) (hi2 : i2 < 12) : Met l yX7_isInForce (WS yX7_isInForce cX7_isInForce 4 (Option.some Jvm.ClassFile.FieldType.boolean)) { frames := 1, cells := 0, slots := 0, locals := 21 } (va_Pc [.ref m0, .int (nI i1), .int (nI i2)] (Wd D cy A μ)) (QcRead (f_X7_isInForce G i1 i2)) 0 0 (fun _ => False) := by
  refine q_met (by decide) (Nat.le_of_ble_eq_true rfl) ?_
  intro p e s m below meth c F w hr hlk hnm ls hl
  have F : CallFix p m c cX7_isInForce 4 s _ BIG RX7 := F
  have hl : lv_has ls 4 [(0, .ref m0), (1, .int (nI i1)), (2, .int (nI i2))] := hl
  refine lv_aload_n F.1 F.2.1 dX7_isInForce_0 rfl (lv_at hl 0 rfl) ?_
  refine gf_X7_80 F w hM.1 rfl dX7_isInForce_1 ?_
  refine lv_iload_n F.1 F.2.1 dX7_isInForce_4 rfl (lv_at hl 1 rfl) ?_
  refine m_ild F w hM 27 (by decide) rfl rfl i1 (show i1 < 20 by omega) (by decide) dX7_isInForce_5 ?_
  refine lv_aload_n F.1 F.2.1 dX7_isInForce_6 rfl (lv_at hl 0 rfl) ?_
  refine gf_X7_13 F w hM.1 rfl dX7_isInForce_7 ?_
  refine lv_iload_n F.1 F.2.1 dX7_isInForce_10 rfl (lv_at hl 2 rfl) ?_
  refine m_ild F w hM 4 (by decide) rfl rfl i2 (show i2 < 12 by omega) (by decide) dX7_isInForce_11 ?_
  refine lv_aload_n F.1 F.2.1 dX7_isInForce_12 rfl (lv_at hl 0 rfl) ?_
  refine gf_X7_80 F w hM.1 rfl dX7_isInForce_13 ?_
  refine lv_iload_n F.1 F.2.1 dX7_isInForce_16 rfl (lv_at hl 1 rfl) ?_
  refine m_ild F w hM 27 (by decide) rfl rfl i1 (show i1 < 20 by omega) (by decide) dX7_isInForce_17 ?_
  refine jn0 (m := m) (ls := ls) (rest := [.int (G 27 i1)]) (if G 27 i1 ≤ G 4 i2 then 0 else G 28 i1) 31 (fun J_1 => ?_) ?_
  · refine lv_icmp_ge (tgt := 30) F.1 F.2.1 dX7_isInForce_18 (by decide) (fun c_2 => ?_) (fun c_2 => ?_)
    · refine lv_iconst (v := 0) F.1 F.2.1 dX7_isInForce_30 (by decide) ?_
      exact jn_a (if_pos c_2) J_1
    · refine lv_aload_n F.1 F.2.1 dX7_isInForce_21 rfl (lv_at hl 0 rfl) ?_
      refine gf_X7_83 F w hM.1 rfl dX7_isInForce_22 ?_
      refine lv_iload_n F.1 F.2.1 dX7_isInForce_25 rfl (lv_at hl 1 rfl) ?_
      refine m_ild F w hM 28 (by decide) rfl rfl i1 (show i1 < 20 by omega) (by decide) dX7_isInForce_26 ?_
      refine lv_goto (tgt := 31) F.1 F.2.1 dX7_isInForce_27 (by decide) ?_
      exact jn_a (if_neg c_2) J_1
  refine lv_iadd F.1 F.2.1 dX7_isInForce_31 ?_
  refine lv_fold (y := v_X7_isInForce_32 G i1 i2) rfl ?_
  refine lv_istore_n (lv' := [(3, .int (v_X7_isInForce_32 G i1 i2)), (0, .ref m0), (1, .int (nI i1)), (2, .int (nI i2))]) F.1 F.2.1 dX7_isInForce_32 rfl hl (by decide) rfl (fun ls hl => ?_)
  refine lv_aload_n F.1 F.2.1 dX7_isInForce_33 rfl (lv_at hl 1 rfl) ?_
  refine gf_X7_17 F w hM.1 rfl dX7_isInForce_34 ?_
  refine lv_iload_n F.1 F.2.1 dX7_isInForce_37 rfl (lv_at hl 3 rfl) ?_
  refine m_ild F w hM 5 (by decide) rfl rfl i2 (show i2 < 12 by omega) (by decide) dX7_isInForce_38 ?_
  refine lv_aload_n F.1 F.2.1 dX7_isInForce_39 rfl (lv_at hl 1 rfl) ?_
  refine gf_X7_74 F w hM.1 rfl dX7_isInForce_40 ?_
  refine lv_iload_n F.1 F.2.1 dX7_isInForce_43 rfl (lv_at hl 2 rfl) ?_
  refine m_ild F w hM 25 (by decide) rfl rfl i1 (show i1 < 20 by omega) (by decide) dX7_isInForce_44 ?_
  refine jn0 (m := m) (ls := ls) (rest := []) (if G 5 i2 < G 25 i1 then 0 else (if f_X7_isIn (G 26 i1) (G 6 i2) = 0 then 0 else (if G 1 0 < v_X7_isInForce_32 G i1 i2 then 0 else 1))) 79 (fun J_3 => ?_) ?_
  · refine lv_icmp_lt (tgt := 78) F.1 F.2.1 dX7_isInForce_45 (by decide) (fun c_4 => ?_) (fun c_4 => ?_)
    · refine lv_iconst (v := 0) F.1 F.2.1 dX7_isInForce_78 (by decide) ?_
      exact jn_a (if_pos c_4) J_3
    · refine lv_aload_n F.1 F.2.1 dX7_isInForce_48 rfl (lv_at hl 1 rfl) ?_
      refine gf_X7_77 F w hM.1 rfl dX7_isInForce_49 ?_
      refine lv_iload_n F.1 F.2.1 dX7_isInForce_52 rfl (lv_at hl 2 rfl) ?_
      refine m_ild F w hM 26 (by decide) rfl rfl i1 (show i1 < 20 by omega) (by decide) dX7_isInForce_53 ?_
      refine lv_aload_n F.1 F.2.1 dX7_isInForce_54 rfl (lv_at hl 1 rfl) ?_
      refine gf_X7_20 F w hM.1 rfl dX7_isInForce_55 ?_
      refine lv_iload_n F.1 F.2.1 dX7_isInForce_58 rfl (lv_at hl 3 rfl) ?_
      refine m_ild F w hM 6 (by decide) rfl rfl i2 (show i2 < 12 by omega) (by decide) dX7_isInForce_59 ?_
      refine q_rS (rest := []) F w kS_X7_159 hd_X7_isIn (c_X7_isIn l D cy A _ (G 26 i1) (G 6 i2)) dX7_isInForce_60 rfl rfl hl.1 ⟨rfl, rfl, Nat.le_of_ble_eq_true rfl, Nat.le_of_ble_eq_true rfl⟩ (Nat.le_of_ble_eq_true rfl) ⟨Nat.zero_le _, Nat.zero_le _⟩ ?_
      refine lv_if_eq (tgt := 78) F.1 F.2.1 dX7_isInForce_63 (by decide) (fun c_5 => ?_) (fun c_5 => ?_)
      · refine lv_iconst (v := 0) F.1 F.2.1 dX7_isInForce_78 (by decide) ?_
        exact jn_a ((if_neg c_4).trans (if_pos c_5)) J_3
      · refine lv_aload_n F.1 F.2.1 dX7_isInForce_66 rfl (lv_at hl 1 rfl) ?_
        refine gf_X7_142 F w hM.1 rfl dX7_isInForce_67 ?_
        refine lv_iload_n F.1 F.2.1 dX7_isInForce_70 rfl (lv_at hl 0 rfl) ?_
        refine lv_icmp_lt (tgt := 78) F.1 F.2.1 dX7_isInForce_71 (by decide) (fun c_6 => ?_) (fun c_6 => ?_)
        · refine lv_iconst (v := 0) F.1 F.2.1 dX7_isInForce_78 (by decide) ?_
          exact jn_a ((if_neg c_4).trans ((if_neg c_5).trans (if_pos c_6))) J_3
        · refine lv_iconst (v := 1) F.1 F.2.1 dX7_isInForce_74 (by decide) ?_
          refine lv_goto (tgt := 79) F.1 F.2.1 dX7_isInForce_75 (by decide) ?_
          exact jn_a ((if_neg c_4).trans ((if_neg c_5).trans (if_neg c_6))) J_3
  exact q_retz F hr hlk rfl (nz_ite nz0 (nz_ite nz0 (nz_ite nz0 nz1))) dX7_isInForce_79
def f_X7_at (i1 : Nat) (i2 : Nat) : Int32 := nI ((5 * i1) + i2)
set_option maxHeartbeats 4000000 in
set_option maxRecDepth 100000 in
theorem c_X7_at (l : Launch) (D : va_G) (cy : Nat → ClassId) (A : Nat → Prop) (μ : MU) (i1 : Nat) (i2 : Nat) : Met l yX7_at (WS yX7_at cX7_at 2 (Option.some Jvm.ClassFile.FieldType.int)) { frames := 0, cells := 0, slots := 0, locals := 0 } (va_Pc [.int (nI i1), .int (nI i2)] (Wd D cy A μ)) (QcRead (f_X7_at i1 i2)) 0 0 (fun _ => False) := by
  refine q_met (by decide) (Nat.le_of_ble_eq_true rfl) ?_
  intro p e s m below meth c F w hr hlk hnm ls hl
  have F : CallFix p m c cX7_at 2 s _ BIG RX7 := F
  have hl : lv_has ls 2 [(0, .int (nI i1)), (1, .int (nI i2))] := hl
  refine lv_iconst (v := 5) F.1 F.2.1 dX7_at_0 (by decide) ?_
  refine lv_iload_n F.1 F.2.1 dX7_at_1 rfl (lv_at hl 0 rfl) ?_
  refine lv_imul F.1 F.2.1 dX7_at_2 ?_
  refine lv_fold (y := nI (5 * i1)) (pk_mul _ _) ?_
  refine lv_iload_n F.1 F.2.1 dX7_at_3 rfl (lv_at hl 1 rfl) ?_
  refine lv_iadd F.1 F.2.1 dX7_at_4 ?_
  refine lv_fold (y := nI ((5 * i1) + i2)) (nI_add _ _) ?_
  exact q_reti F hr hlk rfl dX7_at_5
def f_X7_isLatest (G : GS) (i1 : Nat) : Int32 := if 1095 ≤ (G 1 0) - (G 32 i1) then 0 else 1
theorem nz_f_X7_isLatest (G : GS) (i1 : Nat) : nz (f_X7_isLatest G i1) := (nz_ite nz0 nz1)
set_option maxHeartbeats 4000000 in
set_option maxRecDepth 100000 in
theorem c_X7_isLatest (l : Launch) (D : va_G) (cy : Nat → ClassId) (A : Nat → Prop) (μ : MU) (m0 : Nat) (ad : Nat → Nat) (G : GS) (hM : RepM cy m0 ad G μ) (i1 : Nat) (hi1 : i1 < 60) : Met l yX7_isLatest (WS yX7_isLatest cX7_isLatest 2 (Option.some Jvm.ClassFile.FieldType.boolean)) { frames := 0, cells := 0, slots := 0, locals := 0 } (va_Pc [.ref m0, .int (nI i1)] (Wd D cy A μ)) (QcRead (f_X7_isLatest G i1)) 0 0 (fun _ => False) := by
  refine q_met (by decide) (Nat.le_of_ble_eq_true rfl) ?_
  intro p e s m below meth c F w hr hlk hnm ls hl
  have F : CallFix p m c cX7_isLatest 2 s _ BIG RX7 := F
  have hl : lv_has ls 2 [(0, .ref m0), (1, .int (nI i1))] := hl
  refine lv_aload_n F.1 F.2.1 dX7_isLatest_0 rfl (lv_at hl 0 rfl) ?_
  refine gf_X7_142 F w hM.1 rfl dX7_isLatest_1 ?_
  refine lv_aload_n F.1 F.2.1 dX7_isLatest_4 rfl (lv_at hl 0 rfl) ?_
  refine gf_X7_92 F w hM.1 rfl dX7_isLatest_5 ?_
  refine lv_iload_n F.1 F.2.1 dX7_isLatest_8 rfl (lv_at hl 1 rfl) ?_
  refine m_ild F w hM 32 (by decide) rfl rfl i1 (show i1 < 60 by omega) (by decide) dX7_isLatest_9 ?_
  refine lv_isub F.1 F.2.1 dX7_isLatest_10 ?_
  refine lv_sipush (v := 1095) F.1 F.2.1 dX7_isLatest_11 (by decide) ?_
  refine jn0 (m := m) (ls := ls) (rest := []) (if 1095 ≤ (G 1 0) - (G 32 i1) then 0 else 1) 22 (fun J_1 => ?_) ?_
  · refine lv_icmp_ge (tgt := 21) F.1 F.2.1 dX7_isLatest_14 (by decide) (fun c_2 => ?_) (fun c_2 => ?_)
    · refine lv_iconst (v := 0) F.1 F.2.1 dX7_isLatest_21 (by decide) ?_
      exact jn_a (if_pos c_2) J_1
    · refine lv_iconst (v := 1) F.1 F.2.1 dX7_isLatest_17 (by decide) ?_
      refine lv_goto (tgt := 22) F.1 F.2.1 dX7_isLatest_18 (by decide) ?_
      exact jn_a (if_neg c_2) J_1
  exact q_retz F hr hlk rfl (nz_ite nz0 nz1) dX7_isLatest_22
def f_X7_counts (G : GS) (i1 : Nat) : Int32 := if G 38 i1 = (-1) then 0 else (if 2 ≤ G 40 i1 then 0 else 1)
theorem nz_f_X7_counts (G : GS) (i1 : Nat) : nz (f_X7_counts G i1) := (nz_ite nz0 (nz_ite nz0 nz1))
set_option maxHeartbeats 4000000 in
set_option maxRecDepth 100000 in
theorem c_X7_counts (l : Launch) (D : va_G) (cy : Nat → ClassId) (A : Nat → Prop) (μ : MU) (m0 : Nat) (ad : Nat → Nat) (G : GS) (hM : RepM cy m0 ad G μ) (i1 : Nat) (hi1 : i1 < 60) : Met l yX7_counts (WS yX7_counts cX7_counts 2 (Option.some Jvm.ClassFile.FieldType.boolean)) { frames := 0, cells := 0, slots := 0, locals := 0 } (va_Pc [.ref m0, .int (nI i1)] (Wd D cy A μ)) (QcRead (f_X7_counts G i1)) 0 0 (fun _ => False) := by
  refine q_met (by decide) (Nat.le_of_ble_eq_true rfl) ?_
  intro p e s m below meth c F w hr hlk hnm ls hl
  have F : CallFix p m c cX7_counts 2 s _ BIG RX7 := F
  have hl : lv_has ls 2 [(0, .ref m0), (1, .int (nI i1))] := hl
  refine lv_aload_n F.1 F.2.1 dX7_counts_0 rfl (lv_at hl 0 rfl) ?_
  refine gf_X7_110 F w hM.1 rfl dX7_counts_1 ?_
  refine lv_iload_n F.1 F.2.1 dX7_counts_4 rfl (lv_at hl 1 rfl) ?_
  refine m_ild F w hM 38 (by decide) rfl rfl i1 (show i1 < 60 by omega) (by decide) dX7_counts_5 ?_
  refine lv_iconst (v := -1) F.1 F.2.1 dX7_counts_6 (by decide) ?_
  refine jn0 (m := m) (ls := ls) (rest := []) (if G 38 i1 = (-1) then 0 else (if 2 ≤ G 40 i1 then 0 else 1)) 25 (fun J_1 => ?_) ?_
  · refine lv_icmp_eq (tgt := 24) F.1 F.2.1 dX7_counts_7 (by decide) (fun c_2 => ?_) (fun c_2 => ?_)
    · refine lv_iconst (v := 0) F.1 F.2.1 dX7_counts_24 (by decide) ?_
      exact jn_a (if_pos c_2) J_1
    · refine lv_aload_n F.1 F.2.1 dX7_counts_10 rfl (lv_at hl 0 rfl) ?_
      refine gf_X7_116 F w hM.1 rfl dX7_counts_11 ?_
      refine lv_iload_n F.1 F.2.1 dX7_counts_14 rfl (lv_at hl 1 rfl) ?_
      refine m_ild F w hM 40 (by decide) rfl rfl i1 (show i1 < 60 by omega) (by decide) dX7_counts_15 ?_
      refine lv_iconst (v := 2) F.1 F.2.1 dX7_counts_16 (by decide) ?_
      refine lv_icmp_ge (tgt := 24) F.1 F.2.1 dX7_counts_17 (by decide) (fun c_3 => ?_) (fun c_3 => ?_)
      · refine lv_iconst (v := 0) F.1 F.2.1 dX7_counts_24 (by decide) ?_
        exact jn_a ((if_neg c_2).trans (if_pos c_3)) J_1
      · refine lv_iconst (v := 1) F.1 F.2.1 dX7_counts_20 (by decide) ?_
        refine lv_goto (tgt := 25) F.1 F.2.1 dX7_counts_21 (by decide) ?_
        exact jn_a ((if_neg c_2).trans (if_neg c_3)) J_1
  exact q_retz F hr hlk rfl (nz_ite nz0 (nz_ite nz0 nz1)) dX7_counts_25
def f_X7_isBanned (G : GS) (i1 : Nat) : Int32 := if G 16 i1 < G 1 0 then 0 else 1
theorem nz_f_X7_isBanned (G : GS) (i1 : Nat) : nz (f_X7_isBanned G i1) := (nz_ite nz0 nz1)
set_option maxHeartbeats 4000000 in
set_option maxRecDepth 100000 in
theorem c_X7_isBanned (l : Launch) (D : va_G) (cy : Nat → ClassId) (A : Nat → Prop) (μ : MU) (m0 : Nat) (ad : Nat → Nat) (G : GS) (hM : RepM cy m0 ad G μ) (i1 : Nat) (hi1 : i1 < 12) : Met l yX7_isBanned (WS yX7_isBanned cX7_isBanned 2 (Option.some Jvm.ClassFile.FieldType.boolean)) { frames := 0, cells := 0, slots := 0, locals := 0 } (va_Pc [.ref m0, .int (nI i1)] (Wd D cy A μ)) (QcRead (f_X7_isBanned G i1)) 0 0 (fun _ => False) := by
  refine q_met (by decide) (Nat.le_of_ble_eq_true rfl) ?_
  intro p e s m below meth c F w hr hlk hnm ls hl
  have F : CallFix p m c cX7_isBanned 2 s _ BIG RX7 := F
  have hl : lv_has ls 2 [(0, .ref m0), (1, .int (nI i1))] := hl
  refine lv_aload_n F.1 F.2.1 dX7_isBanned_0 rfl (lv_at hl 0 rfl) ?_
  refine gf_X7_142 F w hM.1 rfl dX7_isBanned_1 ?_
  refine lv_aload_n F.1 F.2.1 dX7_isBanned_4 rfl (lv_at hl 0 rfl) ?_
  refine gf_X7_50 F w hM.1 rfl dX7_isBanned_5 ?_
  refine lv_iload_n F.1 F.2.1 dX7_isBanned_8 rfl (lv_at hl 1 rfl) ?_
  refine m_ild F w hM 16 (by decide) rfl rfl i1 (show i1 < 12 by omega) (by decide) dX7_isBanned_9 ?_
  refine jn0 (m := m) (ls := ls) (rest := []) (if G 16 i1 < G 1 0 then 0 else 1) 18 (fun J_1 => ?_) ?_
  · refine lv_icmp_gt (tgt := 17) F.1 F.2.1 dX7_isBanned_10 (by decide) (fun c_2 => ?_) (fun c_2 => ?_)
    · refine lv_iconst (v := 0) F.1 F.2.1 dX7_isBanned_17 (by decide) ?_
      exact jn_a (if_pos c_2) J_1
    · refine lv_iconst (v := 1) F.1 F.2.1 dX7_isBanned_13 (by decide) ?_
      refine lv_goto (tgt := 18) F.1 F.2.1 dX7_isBanned_14 (by decide) ?_
      exact jn_a (if_neg c_2) J_1
  exact q_retz F hr hlk rfl (nz_ite nz0 nz1) dX7_isBanned_18
def f_X7_decided (G : GS) (i1 : Nat) : Int32 := if G 40 i1 = 2 then 1 else (if G 41 i1 = 2 then 2 else 0)
set_option maxHeartbeats 4000000 in
set_option maxRecDepth 100000 in
theorem c_X7_decided (l : Launch) (D : va_G) (cy : Nat → ClassId) (A : Nat → Prop) (μ : MU) (m0 : Nat) (ad : Nat → Nat) (G : GS) (hM : RepM cy m0 ad G μ) (i1 : Nat) (hi1 : i1 < 60) : Met l yX7_decided (WS yX7_decided cX7_decided 2 (Option.some Jvm.ClassFile.FieldType.int)) { frames := 0, cells := 0, slots := 0, locals := 0 } (va_Pc [.ref m0, .int (nI i1)] (Wd D cy A μ)) (QcRead (f_X7_decided G i1)) 0 0 (fun _ => False) := by
  refine q_met (by decide) (Nat.le_of_ble_eq_true rfl) ?_
  intro p e s m below meth c F w hr hlk hnm ls hl
  have F : CallFix p m c cX7_decided 2 s _ BIG RX7 := F
  have hl : lv_has ls 2 [(0, .ref m0), (1, .int (nI i1))] := hl
  refine lv_aload_n F.1 F.2.1 dX7_decided_0 rfl (lv_at hl 0 rfl) ?_
  refine gf_X7_116 F w hM.1 rfl dX7_decided_1 ?_
  refine lv_iload_n F.1 F.2.1 dX7_decided_4 rfl (lv_at hl 1 rfl) ?_
  refine m_ild F w hM 40 (by decide) rfl rfl i1 (show i1 < 60 by omega) (by decide) dX7_decided_5 ?_
  refine lv_iconst (v := 2) F.1 F.2.1 dX7_decided_6 (by decide) ?_
  refine jn0 (m := m) (ls := ls) (rest := []) (if G 40 i1 = 2 then 1 else (if G 41 i1 = 2 then 2 else 0)) 29 (fun J_1 => ?_) ?_
  · refine lv_icmp_ne (tgt := 14) F.1 F.2.1 dX7_decided_7 (by decide) (fun c_2 => ?_) (fun c_2 => ?_)
    · refine lv_aload_n F.1 F.2.1 dX7_decided_14 rfl (lv_at hl 0 rfl) ?_
      refine gf_X7_119 F w hM.1 rfl dX7_decided_15 ?_
      refine lv_iload_n F.1 F.2.1 dX7_decided_18 rfl (lv_at hl 1 rfl) ?_
      refine m_ild F w hM 41 (by decide) rfl rfl i1 (show i1 < 60 by omega) (by decide) dX7_decided_19 ?_
      refine lv_iconst (v := 2) F.1 F.2.1 dX7_decided_20 (by decide) ?_
      refine lv_icmp_ne (tgt := 28) F.1 F.2.1 dX7_decided_21 (by decide) (fun c_3 => ?_) (fun c_3 => ?_)
      · refine lv_iconst (v := 0) F.1 F.2.1 dX7_decided_28 (by decide) ?_
        exact jn_a ((if_neg c_2).trans (if_neg c_3)) J_1
      · refine lv_iconst (v := 2) F.1 F.2.1 dX7_decided_24 (by decide) ?_
        refine lv_goto (tgt := 29) F.1 F.2.1 dX7_decided_25 (by decide) ?_
        exact jn_a ((if_neg c_2).trans (if_pos c_3)) J_1
    · refine lv_iconst (v := 1) F.1 F.2.1 dX7_decided_10 (by decide) ?_
      refine lv_goto (tgt := 29) F.1 F.2.1 dX7_decided_11 (by decide) ?_
      exact jn_a (if_pos c_2) J_1
  exact q_reti F hr hlk rfl dX7_decided_29
