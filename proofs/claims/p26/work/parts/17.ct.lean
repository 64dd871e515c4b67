set_option maxHeartbeats 4000000 in
set_option maxRecDepth 100000 in
theorem c_X0_init (l : Launch) (D : va_G) (cy : Nat → ClassId) (A : Nat → Prop) (μ : MU) {q : Nat} (x1 : Int32) (x2 : Int32) (x3 : Int32) (hq : μ q = some (.inr (1, [.int 0, .int 0, .int 0, .int 0]))) : Met l yX0_init (WS yX0_init cX0_init 4 (Option.none : Option Jvm.ClassFile.FieldType)) { frames := 1, cells := 0, slots := 0, locals := 12 } (va_Pc [.ref q, .int x1, .int x2, .int x3] (Wd D cy A μ)) (va_Qv (fun μ1 : MU => μ1 q = some (.inr (1, [.int x1, .int x2, .int x3, .int 0])) ∧ ∀ b, b ≠ q → μ1 b = μ b) (fun μ1 t => Wd D cy A μ1 t) A) 0 0 A := by
  refine q_met (by decide) (Nat.le_of_ble_eq_true rfl) ?_
  intro p e s m below meth c F w hr hlk hnm ls hl
  have F : CallFix p m c cX0_init 4 s _ BIG RX0 := F
  have hl : lv_has ls 4 [(0, .ref q), (1, .int x1), (2, .int x2), (3, .int x3)] := hl
  refine lv_aload_n F.1 F.2.1 dX0_init_0 rfl (lv_at hl 0 rfl) ?_
  refine q_obj F wO_X0_3 dX0_init_1 hl.1 (Nat.le_of_ble_eq_true rfl) (Nat.le_of_ble_eq_true rfl) ?_
  refine lv_aload_n F.1 F.2.1 dX0_init_4 rfl (lv_at hl 0 rfl) ?_
  refine lv_iload_n F.1 F.2.1 dX0_init_5 rfl (lv_at hl 1 rfl) ?_
  refine pf_X0_9 (v := .int x1) F w rfl hnm hq rfl rfl dX0_init_6 (fun H locs w => ?_)
  refine lv_aload_n F.1 F.2.1 dX0_init_9 rfl (lv_at hl 0 rfl) ?_
  refine lv_iload_n F.1 F.2.1 dX0_init_10 rfl (lv_at hl 2 rfl) ?_
  refine pf_X0_15 (v := .int x2) F w rfl hnm (mset_eq _ _ _) rfl rfl dX0_init_11 (fun H locs w => ?_)
  refine lv_aload_n F.1 F.2.1 dX0_init_14 rfl (lv_at hl 0 rfl) ?_
  refine lv_iload_n F.1 F.2.1 dX0_init_15 rfl (lv_at hl 3 rfl) ?_
  refine pf_X0_18 (v := .int x3) F w rfl hnm (mset_eq _ _ _) rfl rfl dX0_init_16 (fun H locs w => ?_)
  exact q_retV F hr hlk w ⟨mset_eq _ _ _, fun b hb => (mset_ne hb).trans ((mset_ne hb).trans (mset_ne hb))⟩ dX0_init_19
set_option maxHeartbeats 4000000 in
set_option maxRecDepth 100000 in
theorem c_X1_init (l : Launch) (D : va_G) (cy : Nat → ClassId) (A : Nat → Prop) (μ : MU) {q : Nat} (x1 : Int32) (hq : μ q = some (.inr (2, [.int 0, .int 0, .int 0]))) : Met l yX1_init (WS yX1_init cX1_init 2 (Option.none : Option Jvm.ClassFile.FieldType)) { frames := 1, cells := 0, slots := 0, locals := 12 } (va_Pc [.ref q, .int x1] (Wd D cy A μ)) (va_Qv (fun μ1 : MU => μ1 q = some (.inr (2, [.int x1, .int 0, .int 0])) ∧ ∀ b, b ≠ q → μ1 b = μ b) (fun μ1 t => Wd D cy A μ1 t) A) 0 0 A := by
  refine q_met (by decide) (Nat.le_of_ble_eq_true rfl) ?_
  intro p e s m below meth c F w hr hlk hnm ls hl
  have F : CallFix p m c cX1_init 2 s _ BIG RX1 := F
  have hl : lv_has ls 2 [(0, .ref q), (1, .int x1)] := hl
  refine lv_aload_n F.1 F.2.1 dX1_init_0 rfl (lv_at hl 0 rfl) ?_
  refine q_obj F wO_X1_1 dX1_init_1 hl.1 (Nat.le_of_ble_eq_true rfl) (Nat.le_of_ble_eq_true rfl) ?_
  refine lv_aload_n F.1 F.2.1 dX1_init_4 rfl (lv_at hl 0 rfl) ?_
  refine lv_iload_n F.1 F.2.1 dX1_init_5 rfl (lv_at hl 1 rfl) ?_
  refine pf_X1_7 (v := .int x1) F w rfl hnm hq rfl rfl dX1_init_6 (fun H locs w => ?_)
  exact q_retV F hr hlk w ⟨mset_eq _ _ _, fun b hb => mset_ne hb⟩ dX1_init_9
set_option maxHeartbeats 4000000 in
set_option maxRecDepth 100000 in
theorem c_X2_init (l : Launch) (D : va_G) (cy : Nat → ClassId) (A : Nat → Prop) (μ : MU) {q : Nat} (x1 : Int32) (x2 : Int32) (x3 : Int32) (x4 : Int32) (hq : μ q = some (.inr (3, [.int 0, .int 0, .int 0, .int 0]))) : Met l yX2_init (WS yX2_init cX2_init 5 (Option.none : Option Jvm.ClassFile.FieldType)) { frames := 1, cells := 0, slots := 0, locals := 12 } (va_Pc [.ref q, .int x1, .int x2, .int x3, .int x4] (Wd D cy A μ)) (va_Qv (fun μ1 : MU => μ1 q = some (.inr (3, [.int x1, .int x2, .int x3, .int x4])) ∧ ∀ b, b ≠ q → μ1 b = μ b) (fun μ1 t => Wd D cy A μ1 t) A) 0 0 A := by
  refine q_met (by decide) (Nat.le_of_ble_eq_true rfl) ?_
  intro p e s m below meth c F w hr hlk hnm ls hl
  have F : CallFix p m c cX2_init 5 s _ BIG RX2 := F
  have hl : lv_has ls 5 [(0, .ref q), (1, .int x1), (2, .int x2), (3, .int x3), (4, .int x4)] := hl
  refine lv_aload_n F.1 F.2.1 dX2_init_0 rfl (lv_at hl 0 rfl) ?_
  refine q_obj F wO_X2_1 dX2_init_1 hl.1 (Nat.le_of_ble_eq_true rfl) (Nat.le_of_ble_eq_true rfl) ?_
  refine lv_aload_n F.1 F.2.1 dX2_init_4 rfl (lv_at hl 0 rfl) ?_
  refine lv_iload_n F.1 F.2.1 dX2_init_5 rfl (lv_at hl 1 rfl) ?_
  refine pf_X2_7 (v := .int x1) F w rfl hnm hq rfl rfl dX2_init_6 (fun H locs w => ?_)
  refine lv_aload_n F.1 F.2.1 dX2_init_9 rfl (lv_at hl 0 rfl) ?_
  refine lv_iload_n F.1 F.2.1 dX2_init_10 rfl (lv_at hl 2 rfl) ?_
  refine pf_X2_13 (v := .int x2) F w rfl hnm (mset_eq _ _ _) rfl rfl dX2_init_11 (fun H locs w => ?_)
  refine lv_aload_n F.1 F.2.1 dX2_init_14 rfl (lv_at hl 0 rfl) ?_
  refine lv_iload_n F.1 F.2.1 dX2_init_15 rfl (lv_at hl 3 rfl) ?_
  refine pf_X2_16 (v := .int x3) F w rfl hnm (mset_eq _ _ _) rfl rfl dX2_init_16 (fun H locs w => ?_)
  refine lv_aload_n F.1 F.2.1 dX2_init_19 rfl (lv_at hl 0 rfl) ?_
  refine lv_iload F.1 F.2.1 dX2_init_20 (lv_at hl 4 rfl) ?_
  refine pf_X2_19 (v := .int x4) F w rfl hnm (mset_eq _ _ _) rfl rfl dX2_init_22 (fun H locs w => ?_)
  exact q_retV F hr hlk w ⟨mset_eq _ _ _, fun b hb => (mset_ne hb).trans ((mset_ne hb).trans ((mset_ne hb).trans (mset_ne hb)))⟩ dX2_init_25
set_option maxHeartbeats 4000000 in
set_option maxRecDepth 100000 in
theorem c_X3_init (l : Launch) (D : va_G) (cy : Nat → ClassId) (A : Nat → Prop) (μ : MU) {q : Nat} (x1 : Int32) (x2 : Int32) (x3 : Int32) (x4 : Int32) (x5 : Int32) (hq : μ q = some (.inr (4, [.int 0, .int 0, .int 0, .int 0, .int 0]))) : Met l yX3_init (WS yX3_init cX3_init 6 (Option.none : Option Jvm.ClassFile.FieldType)) { frames := 1, cells := 0, slots := 0, locals := 12 } (va_Pc [.ref q, .int x1, .int x2, .int x3, .int x4, .int x5] (Wd D cy A μ)) (va_Qv (fun μ1 : MU => μ1 q = some (.inr (4, [.int x1, .int x2, .int x3, .int x4, .int x5])) ∧ ∀ b, b ≠ q → μ1 b = μ b) (fun μ1 t => Wd D cy A μ1 t) A) 0 0 A := by
  refine q_met (by decide) (Nat.le_of_ble_eq_true rfl) ?_
  intro p e s m below meth c F w hr hlk hnm ls hl
  have F : CallFix p m c cX3_init 6 s _ BIG RX3 := F
  have hl : lv_has ls 6 [(0, .ref q), (1, .int x1), (2, .int x2), (3, .int x3), (4, .int x4), (5, .int x5)] := hl
  refine lv_aload_n F.1 F.2.1 dX3_init_0 rfl (lv_at hl 0 rfl) ?_
  refine q_obj F wO_X3_1 dX3_init_1 hl.1 (Nat.le_of_ble_eq_true rfl) (Nat.le_of_ble_eq_true rfl) ?_
  refine lv_aload_n F.1 F.2.1 dX3_init_4 rfl (lv_at hl 0 rfl) ?_
  refine lv_iload_n F.1 F.2.1 dX3_init_5 rfl (lv_at hl 1 rfl) ?_
  refine pf_X3_7 (v := .int x1) F w rfl hnm hq rfl rfl dX3_init_6 (fun H locs w => ?_)
  refine lv_aload_n F.1 F.2.1 dX3_init_9 rfl (lv_at hl 0 rfl) ?_
  refine lv_iload_n F.1 F.2.1 dX3_init_10 rfl (lv_at hl 2 rfl) ?_
  refine pf_X3_13 (v := .int x2) F w rfl hnm (mset_eq _ _ _) rfl rfl dX3_init_11 (fun H locs w => ?_)
  refine lv_aload_n F.1 F.2.1 dX3_init_14 rfl (lv_at hl 0 rfl) ?_
  refine lv_iload_n F.1 F.2.1 dX3_init_15 rfl (lv_at hl 3 rfl) ?_
  refine pf_X3_16 (v := .int x3) F w rfl hnm (mset_eq _ _ _) rfl rfl dX3_init_16 (fun H locs w => ?_)
  refine lv_aload_n F.1 F.2.1 dX3_init_19 rfl (lv_at hl 0 rfl) ?_
  refine lv_iload F.1 F.2.1 dX3_init_20 (lv_at hl 4 rfl) ?_
  refine pf_X3_19 (v := .int x4) F w rfl hnm (mset_eq _ _ _) rfl rfl dX3_init_22 (fun H locs w => ?_)
  refine lv_aload_n F.1 F.2.1 dX3_init_25 rfl (lv_at hl 0 rfl) ?_
  refine lv_iload F.1 F.2.1 dX3_init_26 (lv_at hl 5 rfl) ?_
  refine pf_X3_22 (v := .int x5) F w rfl hnm (mset_eq _ _ _) rfl rfl dX3_init_28 (fun H locs w => ?_)
  exact q_retV F hr hlk w ⟨mset_eq _ _ _, fun b hb => (mset_ne hb).trans ((mset_ne hb).trans ((mset_ne hb).trans ((mset_ne hb).trans (mset_ne hb))))⟩ dX3_init_31
set_option maxHeartbeats 4000000 in
set_option maxRecDepth 100000 in
theorem c_X5_init (l : Launch) (D : va_G) (cy : Nat → ClassId) (A : Nat → Prop) (μ : MU) (AD : AM) (G : GS) (hM : RepC cy AD G μ) {q i1 : Nat} (x2 x3 x4 : Int32) (ho1 : ok G 6 i1 0) (hq : μ q = some (.inr (6, [.null, .int 0, .int 0, .int 0, .int 0, .null, .int 0, .int 0, .int 0, .int 0, .int 0, .int 0]))) : Met l yX5_init (WS yX5_init cX5_init 5 (Option.none : Option Jvm.ClassFile.FieldType)) { frames := 4, cells := 1, slots := 3, locals := 72 } (va_Pc [.ref q, .ref (AD 6 i1 0), .int x2, .int x3, .int x4] (Wd D cy A μ)) (va_Qv (fun μ1 : MU => ∃ la : Nat, μ1 q = some (.inr (6, [.ref (AD 6 i1 0), .int x2, .int (G 10 i1), .int x3, .int (G 7 i1), .ref la, .int x4, .int (-1), .int 0, .int 0, .int 0, .int 0])) ∧ μ1 la = some (lobj cy 0 0 0) ∧ μ la = none ∧ q ≠ la ∧ ∀ b, b ≠ q → b ≠ la → μ1 b = μ b) (fun μ1 t => Wd D cy A μ1 t) A) 1 3 A := by
  refine q_met (by decide) (Nat.le_of_ble_eq_true rfl) ?_
  intro p e s m below meth c F w hr hlk hnm ls hl
  have F : CallFix p m c cX5_init 5 s _ BIG RX5 := F
  have hl : lv_has ls 5 [(0, .ref q), (1, .ref (AD 6 i1 0)), (2, .int x2), (3, .int x3), (4, .int x4)] := hl
  have hne : AD 6 i1 0 ≠ q := fun e => by have h9 := hM.a6 ho1; rw [e, hq] at h9; cases h9
  refine lv_aload_n F.1 F.2.1 dX5_init_0 rfl (lv_at hl 0 rfl) ?_
  refine q_obj F wO_X5_3 dX5_init_1 hl.1 (Nat.le_of_ble_eq_true rfl) (Nat.le_of_ble_eq_true rfl) ?_
  refine lv_aload_n F.1 F.2.1 dX5_init_4 rfl (lv_at hl 0 rfl) ?_
  refine lv_aload_n F.1 F.2.1 dX5_init_5 rfl (lv_at hl 1 rfl) ?_
  refine pf_X5_9 (v := .ref (AD 6 i1 0)) F w rfl hnm hq rfl rfl dX5_init_6 (fun H locs w => ?_)
  refine lv_aload_n F.1 F.2.1 dX5_init_9 rfl (lv_at hl 0 rfl) ?_
  refine lv_iload_n F.1 F.2.1 dX5_init_10 rfl (lv_at hl 2 rfl) ?_
  refine pf_X5_15 (v := .int x2) F w rfl hnm (mset_eq _ _ _) rfl rfl dX5_init_11 (fun H locs w => ?_)
  refine lv_aload_n F.1 F.2.1 dX5_init_14 rfl (lv_at hl 0 rfl) ?_
  refine lv_aload_n F.1 F.2.1 dX5_init_15 rfl (lv_at hl 1 rfl) ?_
  refine gf_X5_19 F w ((mset_ne hne).trans ((mset_ne hne).trans (hM.a6 ho1))) rfl dX5_init_16 ?_
  refine pf_X5_24 (v := .int (G 10 i1)) F w rfl hnm (mset_eq _ _ _) rfl rfl dX5_init_19 (fun H locs w => ?_)
  refine lv_aload_n F.1 F.2.1 dX5_init_22 rfl (lv_at hl 0 rfl) ?_
  refine lv_iload_n F.1 F.2.1 dX5_init_23 rfl (lv_at hl 3 rfl) ?_
  refine pf_X5_25 (v := .int x3) F w rfl hnm (mset_eq _ _ _) rfl rfl dX5_init_24 (fun H locs w => ?_)
  refine lv_aload_n F.1 F.2.1 dX5_init_27 rfl (lv_at hl 0 rfl) ?_
  refine lv_aload_n F.1 F.2.1 dX5_init_28 rfl (lv_at hl 1 rfl) ?_
  refine gf_X5_28 F w ((mset_ne hne).trans ((mset_ne hne).trans ((mset_ne hne).trans ((mset_ne hne).trans (hM.a6 ho1))))) rfl dX5_init_29 ?_
  refine pf_X5_31 (v := .int (G 7 i1)) F w rfl hnm (mset_eq _ _ _) rfl rfl dX5_init_32 (fun H locs w => ?_)
  refine lv_aload_n F.1 F.2.1 dX5_init_35 rfl (lv_at hl 0 rfl) ?_
  refine lv_iload F.1 F.2.1 dX5_init_36 (lv_at hl 4 rfl) ?_
  refine pf_X5_32 (v := .int x4) F w rfl (mset_eq _ _ _) rfl rfl dX5_init_38 (fun H locs w => ?_)
  refine lv_aload_n F.1 F.2.1 dX5_init_41 rfl (lv_at hl 0 rfl) ?_
  refine nw_X5_35 F w (Nat.le_of_ble_eq_true rfl) (Nat.le_of_ble_eq_true rfl) dX5_init_42 (fun la H hla w => ?_)
  have hlq : q ≠ la := fun e => by rw [← e] at hla; rw [mset_eq] at hla; cases hla
  have hla0 : μ la = none := ((mset_ne (Ne.symm hlq)).symm.trans ((mset_ne (Ne.symm hlq)).symm.trans ((mset_ne (Ne.symm hlq)).symm.trans ((mset_ne (Ne.symm hlq)).symm.trans ((mset_ne (Ne.symm hlq)).symm.trans ((mset_ne (Ne.symm hlq)).symm.trans hla))))))
  refine lv_dup F.1 F.2.1 dX5_init_45 rfl ?_
  refine q_mI (rest := [.ref la, .ref q]) F w kI_X5_37 wM_X5_37 wMi_X5_37 wI_Jx4a65c rfl hd_Jx4a65c_init_da8c8 (c_ALinit l D cy A _ (mset_eq _ _ _)) dX5_init_46 rfl rfl hl.1 ⟨rfl, rfl, Nat.le_of_ble_eq_true rfl, Nat.le_of_ble_eq_true rfl⟩ (Nat.le_of_ble_eq_true rfl) ⟨Nat.le_of_ble_eq_true rfl, Nat.le_of_ble_eq_true rfl⟩ (fun μ1 H locs hp w => ?_)
  obtain ⟨hp1, hp2⟩ := hp
  have hq1 := (hp2 q hlq).trans ((mset_ne hlq).trans (mset_eq _ _ _))
  refine pf_X5_38 (v := .ref la) F w rfl hnm hq1 rfl rfl dX5_init_49 (fun H locs w => ?_)
  refine lv_aload_n F.1 F.2.1 dX5_init_52 rfl (lv_at hl 0 rfl) ?_
  refine lv_iconst (v := -1) F.1 F.2.1 dX5_init_53 (by decide) ?_
  refine pf_X5_42 (v := .int (-1)) F w rfl (mset_eq _ _ _) rfl rfl dX5_init_54 (fun H locs w => ?_)
  refine W.widen (k := 1) (n := 3) (Nat.le_of_ble_eq_true rfl) (Nat.le_of_ble_eq_true rfl) ?_
  exact q_retV F hr hlk w ⟨la, mset_eq _ _ _, (mset_ne (Ne.symm hlq)).trans ((mset_ne (Ne.symm hlq)).trans (hp1)), hla0, hlq, fun b hb hb2 => (mset_ne hb).trans ((mset_ne hb).trans ((hp2 b hb2).trans ((mset_ne hb2).trans ((mset_ne hb).trans ((mset_ne hb).trans ((mset_ne hb).trans ((mset_ne hb).trans ((mset_ne hb).trans (mset_ne hb)))))))))⟩ dX5_init_57
set_option maxHeartbeats 4000000 in
set_option maxRecDepth 100000 in
theorem c_X4_init (l : Launch) (D : va_G) (cy : Nat → ClassId) (A : Nat → Prop) (μ : MU) {q : Nat} (x1 x2 x3 x4 x5 x6 : Int32) (hq : μ q = some (.inr (5, [.int 0, .int 0, .int 0, .int 0, .null, .null, .int 0, .int 0, .int 0, .int 0, .null, .null, .null, .int 0, .int 0, .int 0, .int 0]))) : Met l yX4_init (WS yX4_init cX4_init 7 (Option.none : Option Jvm.ClassFile.FieldType)) { frames := 4, cells := 2, slots := 8, locals := 72 } (va_Pc [.ref q, .int x1, .int x2, .int x3, .int x4, .int x5, .int x6] (Wd D cy A μ)) (va_Qv (fun μ1 : MU => ∃ ca la : Nat, μ1 q = some (.inr (5, [.int x1, .int x2, .int x3, .int x4, .ref ca, .ref la, .int x5, .int x6, .int 0, .int (-1), .null, .null, .null, .int 0, .int 0, .int (-1), .int 0])) ∧ μ1 ca = some (.inl (cy 2, 5, .inr (.inr (.inr (.inr (fun _ => none)))))) ∧ μ1 la = some (lobj cy 0 0 0) ∧ μ ca = none ∧ μ la = none ∧ q ≠ ca ∧ q ≠ la ∧ ca ≠ la ∧ ∀ b, b ≠ q → b ≠ ca → b ≠ la → μ1 b = μ b) (fun μ1 t => Wd D cy A μ1 t) A) 2 8 A := by
  refine q_met (by decide) (Nat.le_of_ble_eq_true rfl) ?_
  intro p e s m below meth c F w hr hlk hnm ls hl
  have F : CallFix p m c cX4_init 7 s _ BIG RX4 := F
  have hl : lv_has ls 7 [(0, .ref q), (1, .int x1), (2, .int x2), (3, .int x3), (4, .int x4), (5, .int x5), (6, .int x6)] := hl
  refine lv_aload_n F.1 F.2.1 dX4_init_0 rfl (lv_at hl 0 rfl) ?_
  refine q_obj F wO_X4_3 dX4_init_1 hl.1 (Nat.le_of_ble_eq_true rfl) (Nat.le_of_ble_eq_true rfl) ?_
  refine lv_aload_n F.1 F.2.1 dX4_init_4 rfl (lv_at hl 0 rfl) ?_
  refine lv_iload_n F.1 F.2.1 dX4_init_5 rfl (lv_at hl 1 rfl) ?_
  refine pf_X4_9 (v := .int x1) F w rfl hnm hq rfl rfl dX4_init_6 (fun H locs w => ?_)
  refine lv_aload_n F.1 F.2.1 dX4_init_9 rfl (lv_at hl 0 rfl) ?_
  refine lv_iload_n F.1 F.2.1 dX4_init_10 rfl (lv_at hl 2 rfl) ?_
  refine pf_X4_15 (v := .int x2) F w rfl hnm (mset_eq _ _ _) rfl rfl dX4_init_11 (fun H locs w => ?_)
  refine lv_aload_n F.1 F.2.1 dX4_init_14 rfl (lv_at hl 0 rfl) ?_
  refine lv_iload_n F.1 F.2.1 dX4_init_15 rfl (lv_at hl 3 rfl) ?_
  refine pf_X4_18 (v := .int x3) F w rfl hnm (mset_eq _ _ _) rfl rfl dX4_init_16 (fun H locs w => ?_)
  refine lv_aload_n F.1 F.2.1 dX4_init_19 rfl (lv_at hl 0 rfl) ?_
  refine lv_iload F.1 F.2.1 dX4_init_20 (lv_at hl 4 rfl) ?_
  refine pf_X4_21 (v := .int x4) F w rfl hnm (mset_eq _ _ _) rfl rfl dX4_init_22 (fun H locs w => ?_)
  refine lv_aload_n F.1 F.2.1 dX4_init_25 rfl (lv_at hl 0 rfl) ?_
  refine lv_iload F.1 F.2.1 dX4_init_26 (lv_at hl 5 rfl) ?_
  refine pf_X4_24 (v := .int x5) F w rfl (mset_eq _ _ _) rfl rfl dX4_init_28 (fun H locs w => ?_)
  refine lv_aload_n F.1 F.2.1 dX4_init_31 rfl (lv_at hl 0 rfl) ?_
  refine lv_iload F.1 F.2.1 dX4_init_32 (lv_at hl 6 rfl) ?_
  refine pf_X4_27 (v := .int x6) F w rfl (mset_eq _ _ _) rfl rfl dX4_init_34 (fun H locs w => ?_)
  refine lv_aload_n F.1 F.2.1 dX4_init_37 rfl (lv_at hl 0 rfl) ?_
  refine lv_iconst (v := 5) F.1 F.2.1 dX4_init_38 (by decide) ?_
  refine q_newQ F w 2 rfl wL_X4_30 w.2.2.2.2.1.1 5 rfl (by decide) (Nat.le_of_ble_eq_true rfl) (Nat.le_of_ble_eq_true rfl) dX4_init_39 (fun ca H hca w => ?_)
  have hqc : q ≠ ca := fun e => by rw [← e] at hca; rw [mset_eq] at hca; cases hca
  have hca0 : μ ca = none := ((mset_ne (Ne.symm hqc)).symm.trans ((mset_ne (Ne.symm hqc)).symm.trans ((mset_ne (Ne.symm hqc)).symm.trans ((mset_ne (Ne.symm hqc)).symm.trans ((mset_ne (Ne.symm hqc)).symm.trans ((mset_ne (Ne.symm hqc)).symm.trans hca))))))
  refine pf_X4_32 (v := .ref ca) F w rfl hnm ((mset_ne hqc).trans (mset_eq _ _ _)) rfl rfl dX4_init_42 (fun H locs w => ?_)
  refine lv_aload_n F.1 F.2.1 dX4_init_45 rfl (lv_at hl 0 rfl) ?_
  refine nw_X4_36 F w (Nat.le_of_ble_eq_true rfl) (Nat.le_of_ble_eq_true rfl) dX4_init_46 (fun la H hla w => ?_)
  have hlq : q ≠ la := fun e => by rw [← e] at hla; rw [mset_eq] at hla; cases hla
  have hcl : ca ≠ la := fun e => by rw [← e] at hla; rw [mset_ne (Ne.symm hqc), mset_eq] at hla; cases hla
  have hla0 : μ la = none := ((mset_ne (Ne.symm hlq)).symm.trans ((mset_ne (Ne.symm hlq)).symm.trans ((mset_ne (Ne.symm hlq)).symm.trans ((mset_ne (Ne.symm hlq)).symm.trans ((mset_ne (Ne.symm hlq)).symm.trans ((mset_ne (Ne.symm hlq)).symm.trans ((mset_ne (Ne.symm hcl)).symm.trans ((mset_ne (Ne.symm hlq)).symm.trans hla))))))))
  refine lv_dup F.1 F.2.1 dX4_init_49 rfl ?_
  refine q_mI (rest := [.ref la, .ref q]) F w kI_X4_38 wM_X4_38 wMi_X4_38 wI_Jx4a65c rfl hd_Jx4a65c_init_da8c8 (c_ALinit l D cy A _ (mset_eq _ _ _)) dX4_init_50 rfl rfl hl.1 ⟨rfl, rfl, Nat.le_of_ble_eq_true rfl, Nat.le_of_ble_eq_true rfl⟩ (Nat.le_of_ble_eq_true rfl) ⟨Nat.le_of_ble_eq_true rfl, Nat.le_of_ble_eq_true rfl⟩ (fun μ1 H locs hp w => ?_)
  obtain ⟨hp1, hp2⟩ := hp
  have hq1 := (hp2 q hlq).trans ((mset_ne hlq).trans (mset_eq _ _ _))
  have hc1 := (hp2 ca hcl).trans ((mset_ne hcl).trans ((mset_ne (Ne.symm hqc)).trans (mset_eq _ _ _)))
  refine pf_X4_39 (v := .ref la) F w rfl hnm hq1 rfl rfl dX4_init_53 (fun H locs w => ?_)
  refine lv_aload_n F.1 F.2.1 dX4_init_56 rfl (lv_at hl 0 rfl) ?_
  refine lv_iconst (v := -1) F.1 F.2.1 dX4_init_57 (by decide) ?_
  refine pf_X4_43 (v := .int (-1)) F w rfl (mset_eq _ _ _) rfl rfl dX4_init_58 (fun H locs w => ?_)
  refine lv_aload_n F.1 F.2.1 dX4_init_61 rfl (lv_at hl 0 rfl) ?_
  refine lv_iconst (v := -1) F.1 F.2.1 dX4_init_62 (by decide) ?_
  refine pf_X4_46 (v := .int (-1)) F w rfl (mset_eq _ _ _) rfl rfl dX4_init_63 (fun H locs w => ?_)
  refine W.widen (k := 2) (n := 8) (Nat.le_of_ble_eq_true rfl) (Nat.le_of_ble_eq_true rfl) ?_
  exact q_retV F hr hlk w ⟨ca, la, mset_eq _ _ _, ((mset_ne (Ne.symm hqc)).trans ((mset_ne (Ne.symm hqc)).trans ((mset_ne (Ne.symm hqc)).trans hc1))), ((mset_ne (Ne.symm hlq)).trans ((mset_ne (Ne.symm hlq)).trans ((mset_ne (Ne.symm hlq)).trans hp1))), hca0, hla0, hqc, hlq, hcl, fun b hb hb2 hb3 => ((mset_ne hb).trans ((mset_ne hb).trans ((mset_ne hb).trans ((hp2 b hb3).trans ((mset_ne hb3).trans ((mset_ne hb).trans ((mset_ne hb2).trans ((mset_ne hb).trans ((mset_ne hb).trans ((mset_ne hb).trans ((mset_ne hb).trans ((mset_ne hb).trans (mset_ne hb)))))))))))))⟩ dX4_init_66
