def g_X6_changes_1 (G : GS) (i1 : Nat) (x2 : Int32) (x3 : Int32) : GS := up2 G 7 i1 x2
theorem e_g_X6_changes_1 (G : GS) (i1 : Nat) (x2 : Int32) (x3 : Int32) {j : Nat} (h : j ∉ [7]) : g_X6_changes_1 G i1 x2 x3 j = G j := (up2_ne (fun q => h (by rw [q]; exact List.mem_cons_self))).trans rfl
def g_X6_changes_2 (G : GS) (i1 : Nat) (x2 : Int32) (x3 : Int32) : GS := up2 (g_X6_changes_1 G i1 x2 x3) 8 i1 x3
theorem e_g_X6_changes_2 (G : GS) (i1 : Nat) (x2 : Int32) (x3 : Int32) {j : Nat} (h : j ∉ [8, 7]) : g_X6_changes_2 G i1 x2 x3 j = G j := (up2_ne (fun q => h (by rw [q]; exact List.mem_cons_self))).trans (e_g_X6_changes_1 G i1 x2 x3 (fun q => h (List.mem_cons_of_mem _ q)))
def g_X6_changes_3 (G : GS) (i1 : Nat) (x2 : Int32) (x3 : Int32) : GS := up2 (g_X6_changes_2 G i1 x2 x3) 9 i1 ((G 9 i1) + 1)
theorem e_g_X6_changes_3 (G : GS) (i1 : Nat) (x2 : Int32) (x3 : Int32) {j : Nat} (h : j ∉ [9, 8, 7]) : g_X6_changes_3 G i1 x2 x3 j = G j := (up2_ne (fun q => h (by rw [q]; exact List.mem_cons_self))).trans (e_g_X6_changes_2 G i1 x2 x3 (fun q => h (List.mem_cons_of_mem _ q)))
def x_X6_changes (G : GS) (i1 : Nat) (x2 : Int32) (x3 : Int32) : Nat := if f_X6_isIndex x2 6 = 0 then 3 else (if f_X6_isIndex x3 4 = 0 then 3 else 0)
def f_X6_changes (G : GS) (i1 : Nat) (x2 : Int32) (x3 : Int32) : Int32 := if f_X6_isIndex x2 6 = 0 then 0 else (if f_X6_isIndex x3 4 = 0 then 0 else (g_X6_changes_3 G i1 x2 x3) 9 i1)
def g_X6_changes (G : GS) (i1 : Nat) (x2 : Int32) (x3 : Int32) : GS := if f_X6_isIndex x2 6 = 0 then G else (if f_X6_isIndex x3 4 = 0 then G else gnote (g_X6_changes_3 G i1 x2 x3) i1 1 (-1) x2 x3)
set_option maxHeartbeats 4000000 in
set_option maxRecDepth 100000 in
theorem c_X6_changes (l : Launch) (D : va_G) (cy : Nat → ClassId) (A : Nat → Prop) (μ : MU) (AD : AM) (G : GS) (hM : RepC cy AD G μ) (hI : InvC G) (i1 : Nat) (x2 : Int32) (x3 : Int32) (hi1 : i1 < gnS G) (hn : gnN G i1 < 514) (hlf : l.stackTraces = false) : vx_Met l yX6_changes (WS yX6_changes cX6_changes 5 (Option.some Jvm.ClassFile.FieldType.int)) { frames := 8, cells := 2, slots := 1004, locals := 225 } (va_Pc [.ref (AD 0 0 0), .int (nI i1), .int x2, .int x3] (Wd D cy A μ)) (va_Qi (fun (r9 : Int32) (μ1 : MU) => x_X6_changes G i1 x2 x3 = 0 ∧ r9 = f_X6_changes G i1 x2 x3 ∧ ∃ AD1 : AM, AD1 0 = AD 0 ∧ RepC cy AD1 (g_X6_changes G i1 x2 x3) μ1) (fun μ1 t => Wd D cy A μ1 t) A) (XC9 D A μ (xnm (x_X6_changes G i1 x2 x3))) 2 1004 A := by
  refine q_metx (by decide) (Nat.le_of_ble_eq_true rfl) ?_
  intro p e s m below meth c F w hr hlk ht ls hl
  have F : CallFix p m c cX6_changes 5 s _ BIG RX6 := F
  have hl : lv_has ls 5 [(0, .ref (AD 0 0 0)), (1, .int (nI i1)), (2, .int x2), (3, .int x3)] := hl
  have hA : AD 0 = AD 0 := rfl
  refine lv_aload_n F.1 F.2.1 dX6_changes_0 rfl (lv_at hl 0 rfl) ?_
  refine lv_iload_n F.1 F.2.1 dX6_changes_1 rfl (lv_at hl 1 rfl) ?_
  refine q_sVq (rest := []) F w kV_X6_82 hd_X6_shipNumbered (ci := 7) rfl (c_X6_shipNumbered l D cy A _ AD G hM hI i1 (show i1 < gnS G by omega)) (hM.a0 ⟨by decide, rfl, rfl⟩) dX6_changes_2 rfl rfl hl.1 ⟨rfl, rfl, Nat.le_of_ble_eq_true rfl, Nat.le_of_ble_eq_true rfl⟩ (Nat.le_of_ble_eq_true rfl) ⟨(Nat.le_of_ble_eq_true rfl), (Nat.le_of_ble_eq_true rfl)⟩ ?_
  refine lv_astore (lv' := [(4, .ref (AD 6 i1 0)), (0, .ref (AD 0 0 0)), (1, .int (nI i1)), (2, .int x2), (3, .int x3)]) F.1 F.2.1 dX6_changes_5 hl (by decide) rfl (fun ls hl => ?_)
  refine lv_iload_n F.1 F.2.1 dX6_changes_7 rfl (lv_at hl 3 rfl) ?_
  refine lv_bipush (v := 6) F.1 F.2.1 dX6_changes_8 (by decide) ?_
  refine q_rS (rest := []) F w kS_X6_46 hd_X6_isIndex (c_X6_isIndex l D cy A _ x2 6) dX6_changes_10 rfl rfl hl.1 ⟨rfl, rfl, Nat.le_of_ble_eq_true rfl, Nat.le_of_ble_eq_true rfl⟩ (Nat.le_of_ble_eq_true rfl) ⟨(Nat.le_of_ble_eq_true rfl), (Nat.le_of_ble_eq_true rfl)⟩ ?_
  refine lv_if_eq (tgt := 24) F.1 F.2.1 dX6_changes_13 (by decide) (fun c_1 => ?_) (fun c_1 => ?_)
  · exact q_thS (k9 := 2) F w hlf th9_3 rfl hl.1 (congrArg xnm (if_pos c_1)).symm ht hlk dX6_changes_24 dX6_changes_27 dX6_changes_28 dX6_changes_30 dX6_changes_33 (Nat.le_of_ble_eq_true rfl) (Nat.le_of_ble_eq_true rfl) (Nat.le_of_ble_eq_true rfl) (Nat.le_of_ble_eq_true rfl) (Nat.le_of_ble_eq_true rfl) (Nat.le_of_ble_eq_true rfl)
  · refine lv_iload_n F.1 F.2.1 dX6_changes_16 rfl (lv_at hl 4 rfl) ?_
    refine lv_iconst (v := 4) F.1 F.2.1 dX6_changes_17 (by decide) ?_
    refine q_rS (rest := []) F w kS_X6_46 hd_X6_isIndex (c_X6_isIndex l D cy A _ x3 4) dX6_changes_18 rfl rfl hl.1 ⟨rfl, rfl, Nat.le_of_ble_eq_true rfl, Nat.le_of_ble_eq_true rfl⟩ (Nat.le_of_ble_eq_true rfl) ⟨(Nat.le_of_ble_eq_true rfl), (Nat.le_of_ble_eq_true rfl)⟩ ?_
    refine lv_if_ne (tgt := 34) F.1 F.2.1 dX6_changes_21 (by decide) (fun c_2 => ?_) (fun c_2 => ?_)
    · refine lv_aload F.1 F.2.1 dX6_changes_34 (lv_at hl 0 rfl) ?_
      refine lv_iload_n F.1 F.2.1 dX6_changes_36 rfl (lv_at hl 3 rfl) ?_
      refine cp_X6_86 F w hM (hI.o6 (show i1 < gnS G by omega)) dX6_changes_37 (fun H locs μ w hM => ?_)
      have hM : RepC cy AD (g_X6_changes_1 G i1 x2 x3) μ := hM
      refine lv_aload F.1 F.2.1 dX6_changes_40 (lv_at hl 0 rfl) ?_
      refine lv_iload_n F.1 F.2.1 dX6_changes_42 rfl (lv_at hl 4 rfl) ?_
      refine cp_X6_89 F w hM (ok_fr (by decide) (hI.o6 (show i1 < gnS G by omega))) dX6_changes_43 (fun H locs μ w hM => ?_)
      have hM : RepC cy AD (g_X6_changes_2 G i1 x2 x3) μ := hM
      refine lv_aload F.1 F.2.1 dX6_changes_46 (lv_at hl 0 rfl) ?_
      refine lv_dup F.1 F.2.1 dX6_changes_48 rfl ?_
      refine gf_X6_92 F w (hM.a6 (ok_fr (by decide) (ok_fr (by decide) (hI.o6 (show i1 < gnS G by omega))))) rfl dX6_changes_49 ?_
      refine lv_fold (y := G 9 i1) (congrFun (e_g_X6_changes_2 G i1 x2 x3 (by decide)) i1) ?_
      refine lv_iconst (v := 1) F.1 F.2.1 dX6_changes_52 (by decide) ?_
      refine lv_iadd F.1 F.2.1 dX6_changes_53 ?_
      refine cp_X6_92 F w hM (ok_fr (by decide) (ok_fr (by decide) (hI.o6 (show i1 < gnS G by omega)))) dX6_changes_54 (fun H locs μ w hM => ?_)
      have hM : RepC cy AD (g_X6_changes_3 G i1 x2 x3) μ := hM
      refine lv_aload F.1 F.2.1 dX6_changes_57 (lv_at hl 0 rfl) ?_
      refine lv_iconst (v := 1) F.1 F.2.1 dX6_changes_59 (by decide) ?_
      refine lv_iconst (v := -1) F.1 F.2.1 dX6_changes_60 (by decide) ?_
      refine lv_iload_n F.1 F.2.1 dX6_changes_61 rfl (lv_at hl 3 rfl) ?_
      refine lv_iload_n F.1 F.2.1 dX6_changes_62 rfl (lv_at hl 4 rfl) ?_
      have hI : InvC (g_X6_changes_3 G i1 x2 x3) := (InvC.fr (InvC.fr (InvC.fr hI 7 i1 x2 rfl) 8 i1 x3 rfl) 9 i1 ((G 9 i1) + 1) rfl)
      have hn9 : gnN (g_X6_changes_3 G i1 x2 x3) i1 < 514 := Nat.lt_of_le_of_lt (Nat.le_of_eq (congrArg Int32.toNatClampNeg (congrFun (e_g_X6_changes_3 G i1 x2 x3 (by decide)) i1))) hn
      refine q_mVv (rest := []) F w kV_X6_71 hd_X4_note (ci := 5) rfl (c_X4_note l D cy A _ AD (g_X6_changes_3 G i1 x2 x3) hM i1 (hI.ms (show i1 < gnS (g_X6_changes_3 G i1 x2 x3) from (show i1 < gnS G by omega))) hn9 (hI.n (show i1 < gnS (g_X6_changes_3 G i1 x2 x3) from (show i1 < gnS G by omega))).2.2 1 (-1) x2 x3) (hM.a6 (hI.o6 (show i1 < gnS (g_X6_changes_3 G i1 x2 x3) from (show i1 < gnS G by omega)))) dX6_changes_63 rfl rfl hl.1 ⟨rfl, rfl, (Nat.le_of_ble_eq_true rfl), (Nat.le_of_ble_eq_true rfl)⟩ (Nat.le_of_ble_eq_true rfl) ⟨(Nat.le_of_ble_eq_true rfl), (Nat.le_of_ble_eq_true rfl)⟩ (fun μ H locs hp w => ?_)
      obtain ⟨AD, hk, hM⟩ := hp
      have hA := (hk 0 (by decide) (by decide)).trans hA
      have hl : lv_has ls 5 [(4, .ref (AD 6 i1 0)), (0, .ref (AD 0 0 0)), (1, .int (nI i1)), (2, .int x2), (3, .int x3)] := by rw [(hk 0 (by decide) (by decide)), (hk 6 (by decide) (by decide))]; exact hl
      have hI : InvC (gnote (g_X6_changes_3 G i1 x2 x3) i1 1 (-1) x2 x3) := InvC.note hI (show i1 < gnS (g_X6_changes_3 G i1 x2 x3) from (show i1 < gnS G by omega)) hn9 1 (-1) x2 x3
      have hgnS9 : gnS (gnote (g_X6_changes_3 G i1 x2 x3) i1 1 (-1) x2 x3) = gnS G := congrArg Int32.toNatClampNeg (congrFun ((e_gnote (g_X6_changes_3 G i1 x2 x3) i1 1 (-1) x2 x3 (by decide)).trans (e_g_X6_changes_3 G i1 x2 x3 (by decide))) 0)
      have hgnV9 : gnV (gnote (g_X6_changes_3 G i1 x2 x3) i1 1 (-1) x2 x3) = gnV G := congrArg Int32.toNatClampNeg (congrFun ((e_gnote (g_X6_changes_3 G i1 x2 x3) i1 1 (-1) x2 x3 (by decide)).trans (e_g_X6_changes_3 G i1 x2 x3 (by decide))) 0)
      refine lv_aload F.1 F.2.1 dX6_changes_66 (lv_at hl 0 rfl) ?_
      refine gf_X6_92 F w (hM.a6 (hI.o6 (show i1 < gnS (gnote (g_X6_changes_3 G i1 x2 x3) i1 1 (-1) x2 x3) by omega))) rfl dX6_changes_68 ?_
      refine lv_fold (y := (g_X6_changes_3 G i1 x2 x3) 9 i1) (congrFun (e_gnote (g_X6_changes_3 G i1 x2 x3) i1 1 (-1) x2 x3 (by decide)) i1) ?_
      refine vx_ret ?_
      refine W.widen (k := 2) (n := 1004) (Nat.le_of_ble_eq_true rfl) (Nat.le_of_ble_eq_true rfl) ?_
      exact q_retI (S := Unit) F hr hlk w ⟨((if_neg c_1).trans (if_neg c_2)), ((if_neg c_1).trans (if_neg c_2)).symm, ⟨AD, hA, RepC.cg hM ((if_neg c_1).trans (if_neg c_2))⟩⟩ dX6_changes_71
    · exact q_thS (k9 := 2) F w hlf th9_3 rfl hl.1 (congrArg xnm ((if_neg c_1).trans (if_pos c_2))).symm ht hlk dX6_changes_24 dX6_changes_27 dX6_changes_28 dX6_changes_30 dX6_changes_33 (Nat.le_of_ble_eq_true rfl) (Nat.le_of_ble_eq_true rfl) (Nat.le_of_ble_eq_true rfl) (Nat.le_of_ble_eq_true rfl) (Nat.le_of_ble_eq_true rfl) (Nat.le_of_ble_eq_true rfl)
set_option maxHeartbeats 4000000 in
set_option maxRecDepth 100000 in
theorem c_X6_changes_b (l : Launch) (D : va_G) (cy : Nat → ClassId) (A : Nat → Prop) (μ : MU) (AD : AM) (G : GS) (hM : RepC cy AD G μ) (hI : InvC G) (x1 : Int32) (x2 : Int32) (x3 : Int32) (hb : f_X6_isIndex x1 (nI (gnS G)) = 0) (hlf : l.stackTraces = false) : vx_Met l yX6_changes (WS yX6_changes cX6_changes 5 (Option.some Jvm.ClassFile.FieldType.int)) { frames := 7, cells := 1, slots := 6, locals := 121 } (va_Pc [.ref (AD 0 0 0), .int x1, .int x2, .int x3] (Wd D cy A μ)) (fun _ _ _ _ => False) (XC9 D A μ (xnm 3)) 1 6 A := by
  refine q_metx (by decide) (Nat.le_of_ble_eq_true rfl) ?_
  intro p e s m below meth c F w hr hlk ht ls hl
  have F : CallFix p m c cX6_changes 5 s _ BIG RX6 := F
  have hl : lv_has ls 5 [(0, .ref (AD 0 0 0)), (1, .int x1), (2, .int x2), (3, .int x3)] := hl
  refine lv_aload_n F.1 F.2.1 dX6_changes_0 rfl (lv_at hl 0 rfl) ?_
  refine lv_iload_n F.1 F.2.1 dX6_changes_1 rfl (lv_at hl 1 rfl) ?_
  exact q_xV (rest := []) F w rfl ht hlk kV_X6_82 hd_X6_shipNumbered (ci := 7) rfl (c_X6_shipNumbered_b l D cy A _ AD G hM hI x1 hb hlf) (hM.a0 ⟨by decide, rfl, rfl⟩) dX6_changes_2 rfl rfl hl.1 ⟨rfl, rfl, Nat.le_of_ble_eq_true rfl, Nat.le_of_ble_eq_true rfl⟩ (Nat.le_of_ble_eq_true rfl) ⟨Nat.le_of_ble_eq_true rfl, Nat.le_of_ble_eq_true rfl⟩ (Nat.le_of_ble_eq_true rfl) (Nat.le_of_ble_eq_true rfl)
def x_X6_rule (G : GS) (x1 : Int32) (x2 : Int32) (x3 : Int32) (x4 : Int32) (x5 : Int32) : Nat := if f_X6_isIndex x1 10 = 0 then 1 else (if x2 < 0 then 1 else (if 200000 < x2 then 1 else (if x3 < 1 then 1 else (if 7 < x3 then 1 else (if x4 < 0 then 1 else (if 9000 < x4 then 1 else (if x5 < 0 then 1 else (if x5 ≤ 3000 then (if nI (gnR G) < 20 then 0 else 2) else 1))))))))
def f_X6_rule (G : GS) (x1 : Int32) (x2 : Int32) (x3 : Int32) (x4 : Int32) (x5 : Int32) : Int32 := if f_X6_isIndex x1 10 = 0 then 0 else (if x2 < 0 then 0 else (if 200000 < x2 then 0 else (if x3 < 1 then 0 else (if 7 < x3 then 0 else (if x4 < 0 then 0 else (if 9000 < x4 then 0 else (if x5 < 0 then 0 else (if x5 ≤ 3000 then (if nI (gnR G) < 20 then (nI (gnR (grul G x1 x2 x3 x4 x5))) - 1 else 0) else 0))))))))
def g_X6_rule (G : GS) (x1 : Int32) (x2 : Int32) (x3 : Int32) (x4 : Int32) (x5 : Int32) : GS := if f_X6_isIndex x1 10 = 0 then G else (if x2 < 0 then G else (if 200000 < x2 then G else (if x3 < 1 then G else (if 7 < x3 then G else (if x4 < 0 then G else (if 9000 < x4 then G else (if x5 < 0 then G else (if x5 ≤ 3000 then (if nI (gnR G) < 20 then grul G x1 x2 x3 x4 x5 else G) else G))))))))
set_option maxHeartbeats 4000000 in
set_option maxRecDepth 100000 in
theorem c_X6_rule (l : Launch) (D : va_G) (cy : Nat → ClassId) (A : Nat → Prop) (μ : MU) (AD : AM) (G : GS) (hM : RepC cy AD G μ) (hI : InvC G) (x1 : Int32) (x2 : Int32) (x3 : Int32) (x4 : Int32) (x5 : Int32) (hlf : l.stackTraces = false) : vx_Met l yX6_rule (WS yX6_rule cX6_rule 6 (Option.some Jvm.ClassFile.FieldType.int)) { frames := 7, cells := 2, slots := 1006, locals := 201 } (va_Pc [.ref (AD 0 0 0), .int x1, .int x2, .int x3, .int x4, .int x5] (Wd D cy A μ)) (va_Qi (fun (r9 : Int32) (μ1 : MU) => x_X6_rule G x1 x2 x3 x4 x5 = 0 ∧ r9 = f_X6_rule G x1 x2 x3 x4 x5 ∧ ∃ AD1 : AM, AD1 0 = AD 0 ∧ RepC cy AD1 (g_X6_rule G x1 x2 x3 x4 x5) μ1) (fun μ1 t => Wd D cy A μ1 t) A) (XC9 D A μ (xnm (x_X6_rule G x1 x2 x3 x4 x5))) 2 1006 A := by
  refine q_metx (by decide) (Nat.le_of_ble_eq_true rfl) ?_
  intro p e s m below meth c F w hr hlk ht ls hl
  have F : CallFix p m c cX6_rule 6 s _ BIG RX6 := F
  have hl : lv_has ls 6 [(0, .ref (AD 0 0 0)), (1, .int x1), (2, .int x2), (3, .int x3), (4, .int x4), (5, .int x5)] := hl
  have hA : AD 0 = AD 0 := rfl
  refine lv_iload_n F.1 F.2.1 dX6_rule_0 rfl (lv_at hl 1 rfl) ?_
  refine lv_bipush (v := 10) F.1 F.2.1 dX6_rule_1 (by decide) ?_
  refine q_rS (rest := []) F w kS_X6_46 hd_X6_isIndex (c_X6_isIndex l D cy A _ x1 10) dX6_rule_3 rfl rfl hl.1 ⟨rfl, rfl, Nat.le_of_ble_eq_true rfl, Nat.le_of_ble_eq_true rfl⟩ (Nat.le_of_ble_eq_true rfl) ⟨(Nat.le_of_ble_eq_true rfl), (Nat.le_of_ble_eq_true rfl)⟩ ?_
  refine lv_if_eq (tgt := 56) F.1 F.2.1 dX6_rule_6 (by decide) (fun c_1 => ?_) (fun c_1 => ?_)
  · exact q_thS (k9 := 7) F w hlf th9_1 rfl hl.1 (congrArg xnm (if_pos c_1)).symm ht hlk dX6_rule_56 dX6_rule_59 dX6_rule_60 dX6_rule_62 dX6_rule_65 (Nat.le_of_ble_eq_true rfl) (Nat.le_of_ble_eq_true rfl) (Nat.le_of_ble_eq_true rfl) (Nat.le_of_ble_eq_true rfl) (Nat.le_of_ble_eq_true rfl) (Nat.le_of_ble_eq_true rfl)
  · refine lv_iload_n F.1 F.2.1 dX6_rule_9 rfl (lv_at hl 2 rfl) ?_
    refine lv_if_lt (tgt := 56) F.1 F.2.1 dX6_rule_10 (by decide) (fun c_2 => ?_) (fun c_2 => ?_)
    · exact q_thS (k9 := 7) F w hlf th9_1 rfl hl.1 (congrArg xnm ((if_neg c_1).trans (if_pos c_2))).symm ht hlk dX6_rule_56 dX6_rule_59 dX6_rule_60 dX6_rule_62 dX6_rule_65 (Nat.le_of_ble_eq_true rfl) (Nat.le_of_ble_eq_true rfl) (Nat.le_of_ble_eq_true rfl) (Nat.le_of_ble_eq_true rfl) (Nat.le_of_ble_eq_true rfl) (Nat.le_of_ble_eq_true rfl)
    · refine lv_iload_n F.1 F.2.1 dX6_rule_13 rfl (lv_at hl 2 rfl) ?_
      refine lv_ldc F.1 F.2.1 F.2.2.2.1 (F.2.2.2.2 _ wK_X6_55) dX6_rule_14 ?_
      refine lv_icmp_gt (tgt := 56) F.1 F.2.1 dX6_rule_16 (by decide) (fun c_3 => ?_) (fun c_3 => ?_)
      · exact q_thS (k9 := 7) F w hlf th9_1 rfl hl.1 (congrArg xnm ((if_neg c_1).trans ((if_neg c_2).trans (if_pos c_3)))).symm ht hlk dX6_rule_56 dX6_rule_59 dX6_rule_60 dX6_rule_62 dX6_rule_65 (Nat.le_of_ble_eq_true rfl) (Nat.le_of_ble_eq_true rfl) (Nat.le_of_ble_eq_true rfl) (Nat.le_of_ble_eq_true rfl) (Nat.le_of_ble_eq_true rfl) (Nat.le_of_ble_eq_true rfl)
      · refine lv_iload_n F.1 F.2.1 dX6_rule_19 rfl (lv_at hl 3 rfl) ?_
        refine lv_iconst (v := 1) F.1 F.2.1 dX6_rule_20 (by decide) ?_
        refine lv_icmp_lt (tgt := 56) F.1 F.2.1 dX6_rule_21 (by decide) (fun c_4 => ?_) (fun c_4 => ?_)
        · exact q_thS (k9 := 7) F w hlf th9_1 rfl hl.1 (congrArg xnm ((if_neg c_1).trans ((if_neg c_2).trans ((if_neg c_3).trans (if_pos c_4))))).symm ht hlk dX6_rule_56 dX6_rule_59 dX6_rule_60 dX6_rule_62 dX6_rule_65 (Nat.le_of_ble_eq_true rfl) (Nat.le_of_ble_eq_true rfl) (Nat.le_of_ble_eq_true rfl) (Nat.le_of_ble_eq_true rfl) (Nat.le_of_ble_eq_true rfl) (Nat.le_of_ble_eq_true rfl)
        · refine lv_iload_n F.1 F.2.1 dX6_rule_24 rfl (lv_at hl 3 rfl) ?_
          refine lv_bipush (v := 7) F.1 F.2.1 dX6_rule_25 (by decide) ?_
          refine lv_icmp_gt (tgt := 56) F.1 F.2.1 dX6_rule_27 (by decide) (fun c_5 => ?_) (fun c_5 => ?_)
          · exact q_thS (k9 := 7) F w hlf th9_1 rfl hl.1 (congrArg xnm ((if_neg c_1).trans ((if_neg c_2).trans ((if_neg c_3).trans ((if_neg c_4).trans (if_pos c_5)))))).symm ht hlk dX6_rule_56 dX6_rule_59 dX6_rule_60 dX6_rule_62 dX6_rule_65 (Nat.le_of_ble_eq_true rfl) (Nat.le_of_ble_eq_true rfl) (Nat.le_of_ble_eq_true rfl) (Nat.le_of_ble_eq_true rfl) (Nat.le_of_ble_eq_true rfl) (Nat.le_of_ble_eq_true rfl)
          · refine lv_iload F.1 F.2.1 dX6_rule_30 (lv_at hl 4 rfl) ?_
            refine lv_if_lt (tgt := 56) F.1 F.2.1 dX6_rule_32 (by decide) (fun c_6 => ?_) (fun c_6 => ?_)
            · exact q_thS (k9 := 7) F w hlf th9_1 rfl hl.1 (congrArg xnm ((if_neg c_1).trans ((if_neg c_2).trans ((if_neg c_3).trans ((if_neg c_4).trans ((if_neg c_5).trans (if_pos c_6))))))).symm ht hlk dX6_rule_56 dX6_rule_59 dX6_rule_60 dX6_rule_62 dX6_rule_65 (Nat.le_of_ble_eq_true rfl) (Nat.le_of_ble_eq_true rfl) (Nat.le_of_ble_eq_true rfl) (Nat.le_of_ble_eq_true rfl) (Nat.le_of_ble_eq_true rfl) (Nat.le_of_ble_eq_true rfl)
            · refine lv_iload F.1 F.2.1 dX6_rule_35 (lv_at hl 4 rfl) ?_
              refine lv_sipush (v := 9000) F.1 F.2.1 dX6_rule_37 (by decide) ?_
              refine lv_icmp_gt (tgt := 56) F.1 F.2.1 dX6_rule_40 (by decide) (fun c_7 => ?_) (fun c_7 => ?_)
              · exact q_thS (k9 := 7) F w hlf th9_1 rfl hl.1 (congrArg xnm ((if_neg c_1).trans ((if_neg c_2).trans ((if_neg c_3).trans ((if_neg c_4).trans ((if_neg c_5).trans ((if_neg c_6).trans (if_pos c_7)))))))).symm ht hlk dX6_rule_56 dX6_rule_59 dX6_rule_60 dX6_rule_62 dX6_rule_65 (Nat.le_of_ble_eq_true rfl) (Nat.le_of_ble_eq_true rfl) (Nat.le_of_ble_eq_true rfl) (Nat.le_of_ble_eq_true rfl) (Nat.le_of_ble_eq_true rfl) (Nat.le_of_ble_eq_true rfl)
              · refine lv_iload F.1 F.2.1 dX6_rule_43 (lv_at hl 5 rfl) ?_
                refine lv_if_lt (tgt := 56) F.1 F.2.1 dX6_rule_45 (by decide) (fun c_8 => ?_) (fun c_8 => ?_)
                · exact q_thS (k9 := 7) F w hlf th9_1 rfl hl.1 (congrArg xnm ((if_neg c_1).trans ((if_neg c_2).trans ((if_neg c_3).trans ((if_neg c_4).trans ((if_neg c_5).trans ((if_neg c_6).trans ((if_neg c_7).trans (if_pos c_8))))))))).symm ht hlk dX6_rule_56 dX6_rule_59 dX6_rule_60 dX6_rule_62 dX6_rule_65 (Nat.le_of_ble_eq_true rfl) (Nat.le_of_ble_eq_true rfl) (Nat.le_of_ble_eq_true rfl) (Nat.le_of_ble_eq_true rfl) (Nat.le_of_ble_eq_true rfl) (Nat.le_of_ble_eq_true rfl)
                · refine lv_iload F.1 F.2.1 dX6_rule_48 (lv_at hl 5 rfl) ?_
                  refine lv_sipush (v := 3000) F.1 F.2.1 dX6_rule_50 (by decide) ?_
                  refine lv_icmp_le (tgt := 66) F.1 F.2.1 dX6_rule_53 (by decide) (fun c_9 => ?_) (fun c_9 => ?_)
                  · refine lv_aload_n F.1 F.2.1 dX6_rule_66 rfl (lv_at hl 0 rfl) ?_
                    refine gf_X6_16 F w (hM.a0 ⟨by decide, rfl, rfl⟩) rfl dX6_rule_67 ?_
                    refine q_rV (rest := []) F w kV_X6_58 hd_Jx4a65c_size_8abf5 (ci := 0) rfl (c_size l D cy A _ hM.l2.1) hM.l2.1 dX6_rule_70 rfl rfl hl.1 ⟨rfl, rfl, Nat.le_of_ble_eq_true rfl, Nat.le_of_ble_eq_true rfl⟩ (Nat.le_of_ble_eq_true rfl) ⟨(Nat.le_of_ble_eq_true rfl), (Nat.le_of_ble_eq_true rfl)⟩ ?_
                    refine lv_bipush (v := 20) F.1 F.2.1 dX6_rule_73 (by decide) ?_
                    refine lv_icmp_lt (tgt := 88) F.1 F.2.1 dX6_rule_75 (by decide) (fun c_10 => ?_) (fun c_10 => ?_)
                    · refine lv_aload_n F.1 F.2.1 dX6_rule_88 rfl (lv_at hl 0 rfl) ?_
                      refine gf_X6_16 F w (hM.a0 ⟨by decide, rfl, rfl⟩) rfl dX6_rule_89 ?_
                      refine nw_X6_101 F w (Nat.le_of_ble_eq_true rfl) (Nat.le_of_ble_eq_true rfl) dX6_rule_92 (fun q9 H hq9 w => ?_)
                      have hM0 := hM
                      have hM : RepC cy AD G _ := hM0.keep (keep_new (e := .inr (4, [.int 0, .int 0, .int 0, .int 0, .int 0])) hq9)
                      refine lv_dup F.1 F.2.1 dX6_rule_95 rfl ?_
                      refine lv_iload_n F.1 F.2.1 dX6_rule_96 rfl (lv_at hl 1 rfl) ?_
                      refine lv_iload_n F.1 F.2.1 dX6_rule_97 rfl (lv_at hl 2 rfl) ?_
                      refine lv_iload_n F.1 F.2.1 dX6_rule_98 rfl (lv_at hl 3 rfl) ?_
                      refine lv_iload F.1 F.2.1 dX6_rule_99 (lv_at hl 4 rfl) ?_
                      refine lv_iload F.1 F.2.1 dX6_rule_101 (lv_at hl 5 rfl) ?_
                      refine q_mI (rest := [.ref q9, .ref (AD 2 0 0)]) F w kI_X6_103 wM_X6_103 wMi_X6_103 wI_X3 rfl hd_X3_init (c_X3_init l D cy A _ x1 x2 x3 x4 x5 (mset_eq _ _ _)) dX6_rule_103 rfl rfl hl.1 ⟨rfl, rfl, (Nat.le_of_ble_eq_true rfl), (Nat.le_of_ble_eq_true rfl)⟩ (Nat.le_of_ble_eq_true rfl) ⟨(Nat.le_of_ble_eq_true rfl), (Nat.le_of_ble_eq_true rfl)⟩ (fun μ1 H locs hp w => ?_)
                      obtain ⟨hp1, hp2⟩ := hp
                      have hM : RepC cy AD G μ1 := hM0.keep (keep_at hq9 (fun b hb => (hp2 b hb).trans (mset_ne hb)))
                      have hr9 : gnR G < 20 := (nI_ltI (Nat.lt_of_le_of_lt hI.r.2.1 (by decide)) (by decide)).mp (show nI (gnR G) < nI 20 from c_10)
                      have hM2 := mk_9 hM hr9 hI.r.2.2 rfl (fun k' i' j' ho => hM0.out hq9 ho) hp1
                      obtain ⟨AD, hk, hq, hM⟩ : ∃ AD1 : AM, (∀ k, k ≠ 9 → AD1 k = AD k) ∧ AD1 9 (gnR G) 0 = q9 ∧ RepC cy AD1 (g9 G (gnR G) x1 x2 x3 x4 x5) μ1 := ⟨_, fun k h9 => upA_ne h9, upA_eq _ _ _ _ _, hM2⟩
                      have hA := (hk 0 (by decide)).trans hA
                      have hl : lv_has ls 6 [(0, .ref (AD 0 0 0)), (1, .int x1), (2, .int x2), (3, .int x3), (4, .int x4), (5, .int x5)] := by rw [(hk 0 (by decide))]; exact hl
                      refine lv_st (st := [.ref (AD 9 (gnR G) 0), .ref (AD 2 0 0)]) (by rw [hq, (hk 2 (by decide))]) ?_
                      have hN9 : gnR (g9 G (gnR G) x1 x2 x3 x4 x5) = gnR G := congrArg (fun z : Nat → Int32 => (z 0).toNatClampNeg) (g9_ne (j := 23) (by decide))
                      refine q_mVi (rest := []) F w kV_X6_75 hd_Jx4a65c_add_9ea2d (ci := 0) rfl (c_add l D cy A _ (ci := 4) hM.l2.1 hM.l2.2 rfl (by decide) (fun i hi => ⟨_, hM.a9 (g9_ok1 (by omega) hI.r.2.2 (hI.o9 (by rw [hN9] at hi; exact hi)))⟩) (hM.a9 (i := gnR G) ⟨by decide, by rw [g9_n (by omega)]; omega, rfl⟩) (by omega)) hM.l2.1 dX6_rule_106 rfl rfl hl.1 ⟨rfl, rfl, (Nat.le_of_ble_eq_true rfl), (Nat.le_of_ble_eq_true rfl)⟩ (Nat.le_of_ble_eq_true rfl) ⟨(Nat.le_of_ble_eq_true rfl), (Nat.le_of_ble_eq_true rfl)⟩ (fun v9 μ H locs hp w => ?_)
                      obtain ⟨-, ed1, p1, p2, p3, p4⟩ := hp
                      have hM3 := la_2 hM (by omega) p1 (by rw [hN9]; rw [hN9] at p2; exact p2) p3 p4
                      rw [hN9] at hM3
                      obtain ⟨AD, hk, hM⟩ : ∃ AD1 : AM, (∀ k, k ≠ 16 → AD1 k = AD k) ∧ RepC cy AD1 (grul G x1 x2 x3 x4 x5) μ := ⟨_, fun k h => upA_ne h, hM3⟩
                      have hA := (hk 0 (by decide)).trans hA
                      have hl : lv_has ls 6 [(0, .ref (AD 0 0 0)), (1, .int x1), (2, .int x2), (3, .int x3), (4, .int x4), (5, .int x5)] := by rw [(hk 0 (by decide))]; exact hl
                      have hI : InvC (grul G x1 x2 x3 x4 x5) := InvC.rul hI hr9 x1 x2 x3 x4 x5
                      have hgnS9 : gnS (grul G x1 x2 x3 x4 x5) = gnS G := congrArg Int32.toNatClampNeg (congrFun (e_grul G x1 x2 x3 x4 x5 (by decide)) 0)
                      have hgnV9 : gnV (grul G x1 x2 x3 x4 x5) = gnV G := congrArg Int32.toNatClampNeg (congrFun (e_grul G x1 x2 x3 x4 x5 (by decide)) 0)
                      refine lv_pop F.1 F.2.1 dX6_rule_109 rfl ?_
                      refine lv_aload_n F.1 F.2.1 dX6_rule_110 rfl (lv_at hl 0 rfl) ?_
                      refine gf_X6_16 F w (hM.a0 ⟨by decide, rfl, rfl⟩) rfl dX6_rule_111 ?_
                      refine q_rV (rest := []) F w kV_X6_58 hd_Jx4a65c_size_8abf5 (ci := 0) rfl (c_size l D cy A _ hM.l2.1) hM.l2.1 dX6_rule_114 rfl rfl hl.1 ⟨rfl, rfl, Nat.le_of_ble_eq_true rfl, Nat.le_of_ble_eq_true rfl⟩ (Nat.le_of_ble_eq_true rfl) ⟨(Nat.le_of_ble_eq_true rfl), (Nat.le_of_ble_eq_true rfl)⟩ ?_
                      refine lv_iconst (v := 1) F.1 F.2.1 dX6_rule_117 (by decide) ?_
                      refine lv_isub F.1 F.2.1 dX6_rule_118 ?_
                      refine vx_ret ?_
                      refine W.widen (k := 2) (n := 1006) (Nat.le_of_ble_eq_true rfl) (Nat.le_of_ble_eq_true rfl) ?_
                      exact q_retI (S := Unit) F hr hlk w ⟨((if_neg c_1).trans ((if_neg c_2).trans ((if_neg c_3).trans ((if_neg c_4).trans ((if_neg c_5).trans ((if_neg c_6).trans ((if_neg c_7).trans ((if_neg c_8).trans ((if_pos c_9).trans (if_pos c_10)))))))))), ((if_neg c_1).trans ((if_neg c_2).trans ((if_neg c_3).trans ((if_neg c_4).trans ((if_neg c_5).trans ((if_neg c_6).trans ((if_neg c_7).trans ((if_neg c_8).trans ((if_pos c_9).trans (if_pos c_10)))))))))).symm, ⟨AD, hA, RepC.cg hM ((if_neg c_1).trans ((if_neg c_2).trans ((if_neg c_3).trans ((if_neg c_4).trans ((if_neg c_5).trans ((if_neg c_6).trans ((if_neg c_7).trans ((if_neg c_8).trans ((if_pos c_9).trans (if_pos c_10))))))))))⟩⟩ dX6_rule_119
                    · exact q_thS (k9 := 8) F w hlf th9_2 rfl hl.1 (congrArg xnm ((if_neg c_1).trans ((if_neg c_2).trans ((if_neg c_3).trans ((if_neg c_4).trans ((if_neg c_5).trans ((if_neg c_6).trans ((if_neg c_7).trans ((if_neg c_8).trans ((if_pos c_9).trans (if_neg c_10))))))))))).symm ht hlk dX6_rule_78 dX6_rule_81 dX6_rule_82 dX6_rule_84 dX6_rule_87 (Nat.le_of_ble_eq_true rfl) (Nat.le_of_ble_eq_true rfl) (Nat.le_of_ble_eq_true rfl) (Nat.le_of_ble_eq_true rfl) (Nat.le_of_ble_eq_true rfl) (Nat.le_of_ble_eq_true rfl)
                  · exact q_thS (k9 := 7) F w hlf th9_1 rfl hl.1 (congrArg xnm ((if_neg c_1).trans ((if_neg c_2).trans ((if_neg c_3).trans ((if_neg c_4).trans ((if_neg c_5).trans ((if_neg c_6).trans ((if_neg c_7).trans ((if_neg c_8).trans (if_neg c_9)))))))))).symm ht hlk dX6_rule_56 dX6_rule_59 dX6_rule_60 dX6_rule_62 dX6_rule_65 (Nat.le_of_ble_eq_true rfl) (Nat.le_of_ble_eq_true rfl) (Nat.le_of_ble_eq_true rfl) (Nat.le_of_ble_eq_true rfl) (Nat.le_of_ble_eq_true rfl) (Nat.le_of_ble_eq_true rfl)
def g_X6_vote_1 (G : GS) (i1 : Nat) (x2 : Int32) : GS := up2 G 41 i1 ((G 41 i1) + 1)
theorem e_g_X6_vote_1 (G : GS) (i1 : Nat) (x2 : Int32) {j : Nat} (h : j ∉ [41]) : g_X6_vote_1 G i1 x2 j = G j := (up2_ne (fun q => h (by rw [q]; exact List.mem_cons_self))).trans rfl
def g_X6_vote_2 (G : GS) (i1 : Nat) (x2 : Int32) : GS := up2 G 40 i1 ((G 40 i1) + 1)
theorem e_g_X6_vote_2 (G : GS) (i1 : Nat) (x2 : Int32) {j : Nat} (h : j ∉ [40]) : g_X6_vote_2 G i1 x2 j = G j := (up2_ne (fun q => h (by rw [q]; exact List.mem_cons_self))).trans rfl
def x_X6_vote (G : GS) (i1 : Nat) (x2 : Int32) : Nat := if G 39 i1 = 0 then 2 else (if f_X5_decision G i1 = 0 then (if x2 = 0 then 0 else 0) else 2)
def f_X6_vote (G : GS) (i1 : Nat) (x2 : Int32) : Int32 := if G 39 i1 = 0 then 0 else (if f_X5_decision G i1 = 0 then (if x2 = 0 then f_X5_decision (gnote (g_X6_vote_1 G i1 x2) (gnO G i1) 6 (nI i1) (-1) (-1)) i1 else f_X5_decision (gnote (g_X6_vote_2 G i1 x2) (gnO G i1) 5 (nI i1) (-1) (-1)) i1) else 0)
def g_X6_vote (G : GS) (i1 : Nat) (x2 : Int32) : GS := if G 39 i1 = 0 then G else (if f_X5_decision G i1 = 0 then (if x2 = 0 then gnote (g_X6_vote_1 G i1 x2) (gnO G i1) 6 (nI i1) (-1) (-1) else gnote (g_X6_vote_2 G i1 x2) (gnO G i1) 5 (nI i1) (-1) (-1)) else G)
set_option maxHeartbeats 4000000 in
set_option maxRecDepth 100000 in
theorem c_X6_vote (l : Launch) (D : va_G) (cy : Nat → ClassId) (A : Nat → Prop) (μ : MU) (AD : AM) (G : GS) (hM : RepC cy AD G μ) (hI : InvC G) (i1 : Nat) (x2 : Int32) (hi1 : i1 < gnV G) (hx2 : x2 = 0 ∨ x2 = 1) (hn : gnN G (gnO G i1) < 514) (hlf : l.stackTraces = false) : vx_Met l yX6_vote (WS yX6_vote cX6_vote 4 (Option.some Jvm.ClassFile.FieldType.int)) { frames := 8, cells := 2, slots := 1004, locals := 225 } (va_Pc [.ref (AD 0 0 0), .int (nI i1), .int x2] (Wd D cy A μ)) (va_Qi (fun (r9 : Int32) (μ1 : MU) => x_X6_vote G i1 x2 = 0 ∧ r9 = f_X6_vote G i1 x2 ∧ ∃ AD1 : AM, AD1 0 = AD 0 ∧ RepC cy AD1 (g_X6_vote G i1 x2) μ1) (fun μ1 t => Wd D cy A μ1 t) A) (XC9 D A μ (xnm (x_X6_vote G i1 x2))) 2 1004 A := by
  refine q_metx (by decide) (Nat.le_of_ble_eq_true rfl) ?_
  intro p e s m below meth c F w hr hlk ht ls hl
  have F : CallFix p m c cX6_vote 4 s _ BIG RX6 := F
  have hl : lv_has ls 4 [(0, .ref (AD 0 0 0)), (1, .int (nI i1)), (2, .int x2)] := hl
  have hA : AD 0 = AD 0 := rfl
  refine lv_aload_n F.1 F.2.1 dX6_vote_0 rfl (lv_at hl 0 rfl) ?_
  refine lv_iload_n F.1 F.2.1 dX6_vote_1 rfl (lv_at hl 1 rfl) ?_
  refine q_sVq (rest := []) F w kV_X6_191 hd_X6_visitNumbered (ci := 7) rfl (c_X6_visitNumbered l D cy A _ AD G hM hI i1 (show i1 < gnV G by omega)) (hM.a0 ⟨by decide, rfl, rfl⟩) dX6_vote_2 rfl rfl hl.1 ⟨rfl, rfl, Nat.le_of_ble_eq_true rfl, Nat.le_of_ble_eq_true rfl⟩ (Nat.le_of_ble_eq_true rfl) ⟨(Nat.le_of_ble_eq_true rfl), (Nat.le_of_ble_eq_true rfl)⟩ ?_
  refine lv_astore_n (lv' := [(3, .ref (AD 10 i1 0)), (0, .ref (AD 0 0 0)), (1, .int (nI i1)), (2, .int x2)]) F.1 F.2.1 dX6_vote_5 rfl hl (by decide) rfl (fun ls hl => ?_)
  refine lv_aload_n F.1 F.2.1 dX6_vote_6 rfl (lv_at hl 0 rfl) ?_
  refine gf_X6_275 F w (hM.a10 (hI.o10 (show i1 < gnV G by omega))) rfl dX6_vote_7 ?_
  refine lv_if_eq (tgt := 20) F.1 F.2.1 dX6_vote_10 (by decide) (fun c_1 => ?_) (fun c_1 => ?_)
  · exact q_thW (k9 := 27) F w hlf th9_2 rfl hl.1 (congrArg xnm (if_pos c_1)).symm ht hlk dX6_vote_20 dX6_vote_23 dX6_vote_24 dX6_vote_27 dX6_vote_30 (Nat.le_of_ble_eq_true rfl) (Nat.le_of_ble_eq_true rfl) (Nat.le_of_ble_eq_true rfl) (Nat.le_of_ble_eq_true rfl) (Nat.le_of_ble_eq_true rfl) (Nat.le_of_ble_eq_true rfl)
  · refine lv_aload_n F.1 F.2.1 dX6_vote_13 rfl (lv_at hl 0 rfl) ?_
    refine q_rV (rest := []) F w kV_X6_280 hd_X5_decision (ci := 6) rfl (c_X5_decision l D cy A _ AD G hM hI i1 (show i1 < gnV G by omega)) (hM.a10 (hI.o10 (show i1 < gnV G by omega))) dX6_vote_14 rfl rfl hl.1 ⟨rfl, rfl, Nat.le_of_ble_eq_true rfl, Nat.le_of_ble_eq_true rfl⟩ (Nat.le_of_ble_eq_true rfl) ⟨(Nat.le_of_ble_eq_true rfl), (Nat.le_of_ble_eq_true rfl)⟩ ?_
    refine lv_if_eq (tgt := 31) F.1 F.2.1 dX6_vote_17 (by decide) (fun c_2 => ?_) (fun c_2 => ?_)
    · refine lv_iload_n F.1 F.2.1 dX6_vote_31 rfl (lv_at hl 3 rfl) ?_
      refine lv_if_eq (tgt := 48) F.1 F.2.1 dX6_vote_32 (by decide) (fun c_3 => ?_) (fun c_3 => ?_)
      · refine lv_aload_n F.1 F.2.1 dX6_vote_48 rfl (lv_at hl 0 rfl) ?_
        refine lv_dup F.1 F.2.1 dX6_vote_49 rfl ?_
        refine gf_X6_288 F w (hM.a10 (hI.o10 (show i1 < gnV G by omega))) rfl dX6_vote_50 ?_
        refine lv_iconst (v := 1) F.1 F.2.1 dX6_vote_53 (by decide) ?_
        refine lv_iadd F.1 F.2.1 dX6_vote_54 ?_
        refine cp_X6_288 F w hM (hI.o10 (show i1 < gnV G by omega)) dX6_vote_55 (fun H locs μ w hM => ?_)
        have hM : RepC cy AD (g_X6_vote_1 G i1 x2) μ := hM
        refine lv_aload_n F.1 F.2.1 dX6_vote_58 rfl (lv_at hl 0 rfl) ?_
        refine gf_X6_201 F w (hM.a10 (ok_fr (by decide) (hI.o10 (show i1 < gnV G by omega)))) rfl dX6_vote_59 ?_
        refine lv_iload_n F.1 F.2.1 dX6_vote_62 rfl (lv_at hl 3 rfl) ?_
        refine lv_if_eq (tgt := 70) F.1 F.2.1 dX6_vote_63 (by decide) (fun c_4 => ?_) (fun c_4 => absurd c_3 c_4)
        refine lv_bipush (v := 6) F.1 F.2.1 dX6_vote_70 (by decide) ?_
        refine lv_aload_n F.1 F.2.1 dX6_vote_72 rfl (lv_at hl 0 rfl) ?_
        refine gf_X6_190 F w (hM.a10 (ok_fr (by decide) (hI.o10 (show i1 < gnV G by omega)))) rfl dX6_vote_73 ?_
        refine lv_iconst (v := -1) F.1 F.2.1 dX6_vote_76 (by decide) ?_
        refine lv_iconst (v := -1) F.1 F.2.1 dX6_vote_77 (by decide) ?_
        have hI : InvC (g_X6_vote_1 G i1 x2) := (InvC.fr hI 41 i1 ((G 41 i1) + 1) rfl)
        have hn9 : gnN (g_X6_vote_1 G i1 x2) (gnO G i1) < 514 := Nat.lt_of_le_of_lt (Nat.le_of_eq (congrArg Int32.toNatClampNeg (congrFun (e_g_X6_vote_1 G i1 x2 (by decide)) (gnO G i1)))) hn
        have hb9 : gnO G i1 < gnS (g_X6_vote_1 G i1 x2) := (hI.so (show i1 < gnV G by omega)).2
        refine q_mVv (rest := []) F w kV_X6_71 hd_X4_note (ci := 5) rfl (c_X4_note l D cy A _ AD (g_X6_vote_1 G i1 x2) hM (gnO G i1) (hI.ms hb9) hn9 (hI.n hb9).2.2 6 (nI i1) (-1) (-1)) (hM.a6 (hI.o6 hb9)) dX6_vote_78 rfl rfl hl.1 ⟨rfl, rfl, (Nat.le_of_ble_eq_true rfl), (Nat.le_of_ble_eq_true rfl)⟩ (Nat.le_of_ble_eq_true rfl) ⟨(Nat.le_of_ble_eq_true rfl), (Nat.le_of_ble_eq_true rfl)⟩ (fun μ H locs hp w => ?_)
        obtain ⟨AD, hk, hM⟩ := hp
        have hA := (hk 0 (by decide) (by decide)).trans hA
        have hl : lv_has ls 4 [(3, .ref (AD 10 i1 0)), (0, .ref (AD 0 0 0)), (1, .int (nI i1)), (2, .int x2)] := by rw [(hk 0 (by decide) (by decide)), (hk 10 (by decide) (by decide))]; exact hl
        have hI : InvC (gnote (g_X6_vote_1 G i1 x2) (gnO G i1) 6 (nI i1) (-1) (-1)) := InvC.note hI hb9 hn9 6 (nI i1) (-1) (-1)
        have hgnS9 : gnS (gnote (g_X6_vote_1 G i1 x2) (gnO G i1) 6 (nI i1) (-1) (-1)) = gnS G := congrArg Int32.toNatClampNeg (congrFun ((e_gnote (g_X6_vote_1 G i1 x2) (gnO G i1) 6 (nI i1) (-1) (-1) (by decide)).trans (e_g_X6_vote_1 G i1 x2 (by decide))) 0)
        have hgnV9 : gnV (gnote (g_X6_vote_1 G i1 x2) (gnO G i1) 6 (nI i1) (-1) (-1)) = gnV G := congrArg Int32.toNatClampNeg (congrFun ((e_gnote (g_X6_vote_1 G i1 x2) (gnO G i1) 6 (nI i1) (-1) (-1) (by decide)).trans (e_g_X6_vote_1 G i1 x2 (by decide))) 0)
        refine lv_aload_n F.1 F.2.1 dX6_vote_81 rfl (lv_at hl 0 rfl) ?_
        refine q_rV (rest := []) F w kV_X6_280 hd_X5_decision (ci := 6) rfl (c_X5_decision l D cy A _ AD (gnote (g_X6_vote_1 G i1 x2) (gnO G i1) 6 (nI i1) (-1) (-1)) hM hI i1 (show i1 < gnV (gnote (g_X6_vote_1 G i1 x2) (gnO G i1) 6 (nI i1) (-1) (-1)) by omega)) (hM.a10 (hI.o10 (show i1 < gnV (gnote (g_X6_vote_1 G i1 x2) (gnO G i1) 6 (nI i1) (-1) (-1)) by omega))) dX6_vote_82 rfl rfl hl.1 ⟨rfl, rfl, Nat.le_of_ble_eq_true rfl, Nat.le_of_ble_eq_true rfl⟩ (Nat.le_of_ble_eq_true rfl) ⟨(Nat.le_of_ble_eq_true rfl), (Nat.le_of_ble_eq_true rfl)⟩ ?_
        refine vx_ret ?_
        refine W.widen (k := 2) (n := 1004) (Nat.le_of_ble_eq_true rfl) (Nat.le_of_ble_eq_true rfl) ?_
        exact q_retI (S := Unit) F hr hlk w ⟨((if_neg c_1).trans ((if_pos c_2).trans (if_pos c_3))), ((if_neg c_1).trans ((if_pos c_2).trans (if_pos c_3))).symm, ⟨AD, hA, RepC.cg hM ((if_neg c_1).trans ((if_pos c_2).trans (if_pos c_3)))⟩⟩ dX6_vote_85
      · refine lv_aload_n F.1 F.2.1 dX6_vote_35 rfl (lv_at hl 0 rfl) ?_
        refine lv_dup F.1 F.2.1 dX6_vote_36 rfl ?_
        refine gf_X6_285 F w (hM.a10 (hI.o10 (show i1 < gnV G by omega))) rfl dX6_vote_37 ?_
        refine lv_iconst (v := 1) F.1 F.2.1 dX6_vote_40 (by decide) ?_
        refine lv_iadd F.1 F.2.1 dX6_vote_41 ?_
        refine cp_X6_285 F w hM (hI.o10 (show i1 < gnV G by omega)) dX6_vote_42 (fun H locs μ w hM => ?_)
        have hM : RepC cy AD (g_X6_vote_2 G i1 x2) μ := hM
        refine lv_goto (tgt := 58) F.1 F.2.1 dX6_vote_45 (by decide) ?_
        refine lv_aload_n F.1 F.2.1 dX6_vote_58 rfl (lv_at hl 0 rfl) ?_
        refine gf_X6_201 F w (hM.a10 (ok_fr (by decide) (hI.o10 (show i1 < gnV G by omega)))) rfl dX6_vote_59 ?_
        refine lv_iload_n F.1 F.2.1 dX6_vote_62 rfl (lv_at hl 3 rfl) ?_
        refine lv_if_eq (tgt := 70) F.1 F.2.1 dX6_vote_63 (by decide) (fun c_5 => absurd c_5 c_3) (fun c_5 => ?_)
        refine lv_iconst (v := 5) F.1 F.2.1 dX6_vote_66 (by decide) ?_
        refine lv_goto (tgt := 72) F.1 F.2.1 dX6_vote_67 (by decide) ?_
        refine lv_aload_n F.1 F.2.1 dX6_vote_72 rfl (lv_at hl 0 rfl) ?_
        refine gf_X6_190 F w (hM.a10 (ok_fr (by decide) (hI.o10 (show i1 < gnV G by omega)))) rfl dX6_vote_73 ?_
        refine lv_iconst (v := -1) F.1 F.2.1 dX6_vote_76 (by decide) ?_
        refine lv_iconst (v := -1) F.1 F.2.1 dX6_vote_77 (by decide) ?_
        have hI : InvC (g_X6_vote_2 G i1 x2) := (InvC.fr hI 40 i1 ((G 40 i1) + 1) rfl)
        have hn9 : gnN (g_X6_vote_2 G i1 x2) (gnO G i1) < 514 := Nat.lt_of_le_of_lt (Nat.le_of_eq (congrArg Int32.toNatClampNeg (congrFun (e_g_X6_vote_2 G i1 x2 (by decide)) (gnO G i1)))) hn
        have hb9 : gnO G i1 < gnS (g_X6_vote_2 G i1 x2) := (hI.so (show i1 < gnV G by omega)).2
        refine q_mVv (rest := []) F w kV_X6_71 hd_X4_note (ci := 5) rfl (c_X4_note l D cy A _ AD (g_X6_vote_2 G i1 x2) hM (gnO G i1) (hI.ms hb9) hn9 (hI.n hb9).2.2 5 (nI i1) (-1) (-1)) (hM.a6 (hI.o6 hb9)) dX6_vote_78 rfl rfl hl.1 ⟨rfl, rfl, (Nat.le_of_ble_eq_true rfl), (Nat.le_of_ble_eq_true rfl)⟩ (Nat.le_of_ble_eq_true rfl) ⟨(Nat.le_of_ble_eq_true rfl), (Nat.le_of_ble_eq_true rfl)⟩ (fun μ H locs hp w => ?_)
        obtain ⟨AD, hk, hM⟩ := hp
        have hA := (hk 0 (by decide) (by decide)).trans hA
        have hl : lv_has ls 4 [(3, .ref (AD 10 i1 0)), (0, .ref (AD 0 0 0)), (1, .int (nI i1)), (2, .int x2)] := by rw [(hk 0 (by decide) (by decide)), (hk 10 (by decide) (by decide))]; exact hl
        have hI : InvC (gnote (g_X6_vote_2 G i1 x2) (gnO G i1) 5 (nI i1) (-1) (-1)) := InvC.note hI hb9 hn9 5 (nI i1) (-1) (-1)
        have hgnS9 : gnS (gnote (g_X6_vote_2 G i1 x2) (gnO G i1) 5 (nI i1) (-1) (-1)) = gnS G := congrArg Int32.toNatClampNeg (congrFun ((e_gnote (g_X6_vote_2 G i1 x2) (gnO G i1) 5 (nI i1) (-1) (-1) (by decide)).trans (e_g_X6_vote_2 G i1 x2 (by decide))) 0)
        have hgnV9 : gnV (gnote (g_X6_vote_2 G i1 x2) (gnO G i1) 5 (nI i1) (-1) (-1)) = gnV G := congrArg Int32.toNatClampNeg (congrFun ((e_gnote (g_X6_vote_2 G i1 x2) (gnO G i1) 5 (nI i1) (-1) (-1) (by decide)).trans (e_g_X6_vote_2 G i1 x2 (by decide))) 0)
        refine lv_aload_n F.1 F.2.1 dX6_vote_81 rfl (lv_at hl 0 rfl) ?_
        refine q_rV (rest := []) F w kV_X6_280 hd_X5_decision (ci := 6) rfl (c_X5_decision l D cy A _ AD (gnote (g_X6_vote_2 G i1 x2) (gnO G i1) 5 (nI i1) (-1) (-1)) hM hI i1 (show i1 < gnV (gnote (g_X6_vote_2 G i1 x2) (gnO G i1) 5 (nI i1) (-1) (-1)) by omega)) (hM.a10 (hI.o10 (show i1 < gnV (gnote (g_X6_vote_2 G i1 x2) (gnO G i1) 5 (nI i1) (-1) (-1)) by omega))) dX6_vote_82 rfl rfl hl.1 ⟨rfl, rfl, Nat.le_of_ble_eq_true rfl, Nat.le_of_ble_eq_true rfl⟩ (Nat.le_of_ble_eq_true rfl) ⟨(Nat.le_of_ble_eq_true rfl), (Nat.le_of_ble_eq_true rfl)⟩ ?_
        refine vx_ret ?_
        refine W.widen (k := 2) (n := 1004) (Nat.le_of_ble_eq_true rfl) (Nat.le_of_ble_eq_true rfl) ?_
        exact q_retI (S := Unit) F hr hlk w ⟨((if_neg c_1).trans ((if_pos c_2).trans (if_neg c_3))), ((if_neg c_1).trans ((if_pos c_2).trans (if_neg c_3))).symm, ⟨AD, hA, RepC.cg hM ((if_neg c_1).trans ((if_pos c_2).trans (if_neg c_3)))⟩⟩ dX6_vote_85
    · exact q_thW (k9 := 27) F w hlf th9_2 rfl hl.1 (congrArg xnm ((if_neg c_1).trans (if_neg c_2))).symm ht hlk dX6_vote_20 dX6_vote_23 dX6_vote_24 dX6_vote_27 dX6_vote_30 (Nat.le_of_ble_eq_true rfl) (Nat.le_of_ble_eq_true rfl) (Nat.le_of_ble_eq_true rfl) (Nat.le_of_ble_eq_true rfl) (Nat.le_of_ble_eq_true rfl) (Nat.le_of_ble_eq_true rfl)
set_option maxHeartbeats 4000000 in
set_option maxRecDepth 100000 in
theorem c_X6_vote_b (l : Launch) (D : va_G) (cy : Nat → ClassId) (A : Nat → Prop) (μ : MU) (AD : AM) (G : GS) (hM : RepC cy AD G μ) (hI : InvC G) (x1 : Int32) (x2 : Int32) (hb : f_X6_isIndex x1 (nI (gnV G)) = 0) (hlf : l.stackTraces = false) : vx_Met l yX6_vote (WS yX6_vote cX6_vote 4 (Option.some Jvm.ClassFile.FieldType.int)) { frames := 7, cells := 1, slots := 6, locals := 121 } (va_Pc [.ref (AD 0 0 0), .int x1, .int x2] (Wd D cy A μ)) (fun _ _ _ _ => False) (XC9 D A μ (xnm 3)) 1 6 A := by
  refine q_metx (by decide) (Nat.le_of_ble_eq_true rfl) ?_
  intro p e s m below meth c F w hr hlk ht ls hl
  have F : CallFix p m c cX6_vote 4 s _ BIG RX6 := F
  have hl : lv_has ls 4 [(0, .ref (AD 0 0 0)), (1, .int x1), (2, .int x2)] := hl
  refine lv_aload_n F.1 F.2.1 dX6_vote_0 rfl (lv_at hl 0 rfl) ?_
  refine lv_iload_n F.1 F.2.1 dX6_vote_1 rfl (lv_at hl 1 rfl) ?_
  exact q_xV (rest := []) F w rfl ht hlk kV_X6_191 hd_X6_visitNumbered (ci := 7) rfl (c_X6_visitNumbered_b l D cy A _ AD G hM hI x1 hb hlf) (hM.a0 ⟨by decide, rfl, rfl⟩) dX6_vote_2 rfl rfl hl.1 ⟨rfl, rfl, Nat.le_of_ble_eq_true rfl, Nat.le_of_ble_eq_true rfl⟩ (Nat.le_of_ble_eq_true rfl) ⟨Nat.le_of_ble_eq_true rfl, Nat.le_of_ble_eq_true rfl⟩ (Nat.le_of_ble_eq_true rfl) (Nat.le_of_ble_eq_true rfl)
def g_X6_finds_1 (G : GS) (i1 : Nat) (x2 : Int32) (x3 : Int32) : GS := up2 (gfnd G i1 x3) 33 i1 1
theorem e_g_X6_finds_1 (G : GS) (i1 : Nat) (x2 : Int32) (x3 : Int32) {j : Nat} (h : j ∉ [33]) : g_X6_finds_1 G i1 x2 x3 j = gfnd G i1 x3 j := (up2_ne (fun q => h (by rw [q]; exact List.mem_cons_self))).trans rfl
def x_X6_finds (G : GS) (i1 : Nat) (x2 : Int32) (x3 : Int32) : Nat := if f_X6_isIndex x2 10 = 0 then 1 else (if x3 < 1 then 1 else (if x3 ≤ 10 then (if f_X6_hasLeftSince G i1 = 0 then (if f_X6_isGroundToday G (gnO G i1) x2 = 0 then 2 else (if nI (gnF G i1) < 12 then (if G 33 i1 = 0 then (if nI (gnF (gfnd G i1 x3) i1) < 3 then 0 else 0) else 0) else 2)) else 2) else 1))
def f_X6_finds (G : GS) (i1 : Nat) (x2 : Int32) (x3 : Int32) : Int32 := if f_X6_isIndex x2 10 = 0 then 0 else (if x3 < 1 then 0 else (if x3 ≤ 10 then (if f_X6_hasLeftSince G i1 = 0 then (if f_X6_isGroundToday G (gnO G i1) x2 = 0 then 0 else (if nI (gnF G i1) < 12 then (if G 33 i1 = 0 then (if nI (gnF (gfnd G i1 x3) i1) < 3 then (nI (gnF (gnote (gfnd G i1 x3) (gnO (gfnd G i1 x3) i1) 3 (nI i1) x2 x3) i1)) - 1 else (nI (gnF (gnote (g_X6_finds_1 G i1 x2 x3) (gnO (gfnd G i1 x3) i1) 3 (nI i1) x2 x3) i1)) - 1) else (nI (gnF (gnote (gfnd G i1 x3) (gnO (gfnd G i1 x3) i1) 3 (nI i1) x2 x3) i1)) - 1) else 0)) else 0) else 0))
def g_X6_finds (G : GS) (i1 : Nat) (x2 : Int32) (x3 : Int32) : GS := if f_X6_isIndex x2 10 = 0 then G else (if x3 < 1 then G else (if x3 ≤ 10 then (if f_X6_hasLeftSince G i1 = 0 then (if f_X6_isGroundToday G (gnO G i1) x2 = 0 then G else (if nI (gnF G i1) < 12 then (if G 33 i1 = 0 then (if nI (gnF (gfnd G i1 x3) i1) < 3 then gnote (gfnd G i1 x3) (gnO (gfnd G i1 x3) i1) 3 (nI i1) x2 x3 else gnote (g_X6_finds_1 G i1 x2 x3) (gnO (gfnd G i1 x3) i1) 3 (nI i1) x2 x3) else gnote (gfnd G i1 x3) (gnO (gfnd G i1 x3) i1) 3 (nI i1) x2 x3) else G)) else G) else G))
set_option maxHeartbeats 4000000 in
set_option maxRecDepth 100000 in
theorem c_X6_finds (l : Launch) (D : va_G) (cy : Nat → ClassId) (A : Nat → Prop) (μ : MU) (AD : AM) (G : GS) (hM : RepC cy AD G μ) (hI : InvC G) (i1 : Nat) (x2 : Int32) (x3 : Int32) (hi1 : i1 < gnV G) (hn : gnN G (gnO G i1) < 514) (hlf : l.stackTraces = false) : vx_Met l yX6_finds (WS yX6_finds cX6_finds 5 (Option.some Jvm.ClassFile.FieldType.int)) { frames := 8, cells := 4, slots := 2007, locals := 225 } (va_Pc [.ref (AD 0 0 0), .int (nI i1), .int x2, .int x3] (Wd D cy A μ)) (va_Qi (fun (r9 : Int32) (μ1 : MU) => x_X6_finds G i1 x2 x3 = 0 ∧ r9 = f_X6_finds G i1 x2 x3 ∧ ∃ AD1 : AM, AD1 0 = AD 0 ∧ RepC cy AD1 (g_X6_finds G i1 x2 x3) μ1) (fun μ1 t => Wd D cy A μ1 t) A) (XC9 D A μ (xnm (x_X6_finds G i1 x2 x3))) 4 2007 A := by
  refine q_metx (by decide) (Nat.le_of_ble_eq_true rfl) ?_
  intro p e s m below meth c F w hr hlk ht ls hl
  have F : CallFix p m c cX6_finds 5 s _ BIG RX6 := F
  have hl : lv_has ls 5 [(0, .ref (AD 0 0 0)), (1, .int (nI i1)), (2, .int x2), (3, .int x3)] := hl
  have hA : AD 0 = AD 0 := rfl
  refine lv_aload_n F.1 F.2.1 dX6_finds_0 rfl (lv_at hl 0 rfl) ?_
  refine lv_iload_n F.1 F.2.1 dX6_finds_1 rfl (lv_at hl 1 rfl) ?_
  refine q_sVq (rest := []) F w kV_X6_191 hd_X6_visitNumbered (ci := 7) rfl (c_X6_visitNumbered l D cy A _ AD G hM hI i1 (show i1 < gnV G by omega)) (hM.a0 ⟨by decide, rfl, rfl⟩) dX6_finds_2 rfl rfl hl.1 ⟨rfl, rfl, Nat.le_of_ble_eq_true rfl, Nat.le_of_ble_eq_true rfl⟩ (Nat.le_of_ble_eq_true rfl) ⟨(Nat.le_of_ble_eq_true rfl), (Nat.le_of_ble_eq_true rfl)⟩ ?_
  refine lv_astore (lv' := [(4, .ref (AD 10 i1 0)), (0, .ref (AD 0 0 0)), (1, .int (nI i1)), (2, .int x2), (3, .int x3)]) F.1 F.2.1 dX6_finds_5 hl (by decide) rfl (fun ls hl => ?_)
  refine lv_iload_n F.1 F.2.1 dX6_finds_7 rfl (lv_at hl 3 rfl) ?_
  refine lv_bipush (v := 10) F.1 F.2.1 dX6_finds_8 (by decide) ?_
  refine q_rS (rest := []) F w kS_X6_46 hd_X6_isIndex (c_X6_isIndex l D cy A _ x2 10) dX6_finds_10 rfl rfl hl.1 ⟨rfl, rfl, Nat.le_of_ble_eq_true rfl, Nat.le_of_ble_eq_true rfl⟩ (Nat.le_of_ble_eq_true rfl) ⟨(Nat.le_of_ble_eq_true rfl), (Nat.le_of_ble_eq_true rfl)⟩ ?_
  refine lv_if_eq (tgt := 27) F.1 F.2.1 dX6_finds_13 (by decide) (fun c_1 => ?_) (fun c_1 => ?_)
  · exact q_thS (k9 := 19) F w hlf th9_1 rfl hl.1 (congrArg xnm (if_pos c_1)).symm ht hlk dX6_finds_27 dX6_finds_30 dX6_finds_31 dX6_finds_33 dX6_finds_36 (Nat.le_of_ble_eq_true rfl) (Nat.le_of_ble_eq_true rfl) (Nat.le_of_ble_eq_true rfl) (Nat.le_of_ble_eq_true rfl) (Nat.le_of_ble_eq_true rfl) (Nat.le_of_ble_eq_true rfl)
  · refine lv_iload_n F.1 F.2.1 dX6_finds_16 rfl (lv_at hl 4 rfl) ?_
    refine lv_iconst (v := 1) F.1 F.2.1 dX6_finds_17 (by decide) ?_
    refine lv_icmp_lt (tgt := 27) F.1 F.2.1 dX6_finds_18 (by decide) (fun c_2 => ?_) (fun c_2 => ?_)
    · exact q_thS (k9 := 19) F w hlf th9_1 rfl hl.1 (congrArg xnm ((if_neg c_1).trans (if_pos c_2))).symm ht hlk dX6_finds_27 dX6_finds_30 dX6_finds_31 dX6_finds_33 dX6_finds_36 (Nat.le_of_ble_eq_true rfl) (Nat.le_of_ble_eq_true rfl) (Nat.le_of_ble_eq_true rfl) (Nat.le_of_ble_eq_true rfl) (Nat.le_of_ble_eq_true rfl) (Nat.le_of_ble_eq_true rfl)
    · refine lv_iload_n F.1 F.2.1 dX6_finds_21 rfl (lv_at hl 4 rfl) ?_
      refine lv_bipush (v := 10) F.1 F.2.1 dX6_finds_22 (by decide) ?_
      refine lv_icmp_le (tgt := 37) F.1 F.2.1 dX6_finds_24 (by decide) (fun c_3 => ?_) (fun c_3 => ?_)
      · refine lv_aload F.1 F.2.1 dX6_finds_37 (lv_at hl 0 rfl) ?_
        refine q_rS (rest := []) F w kS_X6_197 hd_X6_hasLeftSince (c_X6_hasLeftSince l D cy A _ AD G hM hI i1 (show i1 < gnV G by omega)) dX6_finds_39 rfl rfl hl.1 ⟨rfl, rfl, Nat.le_of_ble_eq_true rfl, Nat.le_of_ble_eq_true rfl⟩ (Nat.le_of_ble_eq_true rfl) ⟨(Nat.le_of_ble_eq_true rfl), (Nat.le_of_ble_eq_true rfl)⟩ ?_
        refine lv_if_ne (tgt := 71) F.1 F.2.1 dX6_finds_42 (by decide) (fun c_4 => ?_) (fun c_4 => ?_)
        · exact q_thS (k9 := 20) F w hlf th9_2 rfl hl.1 (congrArg xnm ((if_neg c_1).trans ((if_neg c_2).trans ((if_pos c_3).trans (if_neg c_4))))).symm ht hlk dX6_finds_71 dX6_finds_74 dX6_finds_75 dX6_finds_77 dX6_finds_80 (Nat.le_of_ble_eq_true rfl) (Nat.le_of_ble_eq_true rfl) (Nat.le_of_ble_eq_true rfl) (Nat.le_of_ble_eq_true rfl) (Nat.le_of_ble_eq_true rfl) (Nat.le_of_ble_eq_true rfl)
        · refine lv_aload_n F.1 F.2.1 dX6_finds_45 rfl (lv_at hl 1 rfl) ?_
          refine lv_aload F.1 F.2.1 dX6_finds_46 (lv_at hl 0 rfl) ?_
          refine gf_X6_201 F w (hM.a10 (hI.o10 (show i1 < gnV G by omega))) rfl dX6_finds_48 ?_
          refine lv_iload_n F.1 F.2.1 dX6_finds_51 rfl (lv_at hl 3 rfl) ?_
          refine q_rV (rest := []) F w kV_X6_205 hd_X6_isGroundToday (ci := 7) rfl (c_X6_isGroundToday l D cy A _ AD G hM hI (gnO G i1) x2 (hI.so (show i1 < gnV G by omega)).2) (hM.a0 ⟨by decide, rfl, rfl⟩) dX6_finds_52 rfl rfl hl.1 ⟨rfl, rfl, Nat.le_of_ble_eq_true rfl, Nat.le_of_ble_eq_true rfl⟩ (Nat.le_of_ble_eq_true rfl) ⟨(Nat.le_of_ble_eq_true rfl), (Nat.le_of_ble_eq_true rfl)⟩ ?_
          refine lv_if_eq (tgt := 71) F.1 F.2.1 dX6_finds_55 (by decide) (fun c_5 => ?_) (fun c_5 => ?_)
          · exact q_thS (k9 := 20) F w hlf th9_2 rfl hl.1 (congrArg xnm ((if_neg c_1).trans ((if_neg c_2).trans ((if_pos c_3).trans ((if_pos c_4).trans (if_pos c_5)))))).symm ht hlk dX6_finds_71 dX6_finds_74 dX6_finds_75 dX6_finds_77 dX6_finds_80 (Nat.le_of_ble_eq_true rfl) (Nat.le_of_ble_eq_true rfl) (Nat.le_of_ble_eq_true rfl) (Nat.le_of_ble_eq_true rfl) (Nat.le_of_ble_eq_true rfl) (Nat.le_of_ble_eq_true rfl)
          · refine lv_aload F.1 F.2.1 dX6_finds_58 (lv_at hl 0 rfl) ?_
            refine gf_X6_209 F w (hM.a10 (hI.o10 (show i1 < gnV G by omega))) rfl dX6_finds_60 ?_
            refine q_rV (rest := []) F w kV_X6_58 hd_Jx4a65c_size_8abf5 (ci := 0) rfl (c_size l D cy A _ (hM.l11 (hI.mv (show i1 < gnV G by omega))).1) (hM.l11 (hI.mv (show i1 < gnV G by omega))).1 dX6_finds_63 rfl rfl hl.1 ⟨rfl, rfl, Nat.le_of_ble_eq_true rfl, Nat.le_of_ble_eq_true rfl⟩ (Nat.le_of_ble_eq_true rfl) ⟨(Nat.le_of_ble_eq_true rfl), (Nat.le_of_ble_eq_true rfl)⟩ ?_
            refine lv_bipush (v := 12) F.1 F.2.1 dX6_finds_66 (by decide) ?_
            refine lv_icmp_lt (tgt := 81) F.1 F.2.1 dX6_finds_68 (by decide) (fun c_6 => ?_) (fun c_6 => ?_)
            · refine lv_aload F.1 F.2.1 dX6_finds_81 (lv_at hl 0 rfl) ?_
              refine gf_X6_209 F w (hM.a10 (hI.o10 (show i1 < gnV G by omega))) rfl dX6_finds_83 ?_
              refine nw_X6_214 F w (Nat.le_of_ble_eq_true rfl) (Nat.le_of_ble_eq_true rfl) dX6_finds_86 (fun q9 H hq9 w => ?_)
              have hM0 := hM
              have hM : RepC cy AD G _ := hM0.keep (keep_new (e := .inr (2, [.int 0, .int 0, .int 0])) hq9)
              refine lv_dup F.1 F.2.1 dX6_finds_89 rfl ?_
              refine lv_iload_n F.1 F.2.1 dX6_finds_90 rfl (lv_at hl 4 rfl) ?_
              refine q_mI (rest := [.ref q9, .ref (AD 11 i1 0)]) F w kI_X6_216 wM_X6_216 wMi_X6_216 wI_X1 rfl hd_X1_init (c_X1_init l D cy A _ x3 (mset_eq _ _ _)) dX6_finds_91 rfl rfl hl.1 ⟨rfl, rfl, (Nat.le_of_ble_eq_true rfl), (Nat.le_of_ble_eq_true rfl)⟩ (Nat.le_of_ble_eq_true rfl) ⟨(Nat.le_of_ble_eq_true rfl), (Nat.le_of_ble_eq_true rfl)⟩ (fun μ1 H locs hp w => ?_)
              obtain ⟨hp1, hp2⟩ := hp
              have hM : RepC cy AD G μ1 := hM0.keep (keep_at hq9 (fun b hb => (hp2 b hb).trans (mset_ne hb)))
              have hf9 : gnF G i1 < 12 := (nI_ltI (Nat.lt_of_le_of_lt (hI.f hi1).2.1 (by decide)) (by decide)).mp (show nI (gnF G i1) < nI 12 from c_6)
              have hM2 := mk_12 hM (hI.mv hi1) hf9 (hI.f hi1).2.2 rfl (fun k' i' j' ho => hM0.out hq9 ho) hp1
              obtain ⟨AD, hk, hq, hM⟩ : ∃ AD1 : AM, (∀ k, k ≠ 12 → AD1 k = AD k) ∧ AD1 12 i1 (gnF G i1) = q9 ∧ RepC cy AD1 (g12 G i1 (gnF G i1) x3) μ1 := ⟨_, fun k h12 => upA_ne h12, upA_eq _ _ _ _ _, hM2⟩
              have hA := (hk 0 (by decide)).trans hA
              have hl : lv_has ls 5 [(4, .ref (AD 10 i1 0)), (0, .ref (AD 0 0 0)), (1, .int (nI i1)), (2, .int x2), (3, .int x3)] := by rw [(hk 0 (by decide)), (hk 10 (by decide))]; exact hl
              refine lv_st (st := [.ref (AD 12 i1 (gnF G i1)), .ref (AD 11 i1 0)]) (by rw [hq, (hk 11 (by decide))]) ?_
              have hN9 : gnF (g12 G i1 (gnF G i1) x3) i1 = gnF G i1 := congrArg (fun z : Nat → Int32 => (z i1).toNatClampNeg) (g12_ne (j := 35) (by decide))
              have hi9 : i1 < gmV (g12 G i1 (gnF G i1) x3) := (g12_ok1 (by omega) (hI.f hi1).2.2 (hI.o10 hi1)).2.1
              refine q_mVi (rest := []) F w kV_X6_75 hd_Jx4a65c_add_9ea2d (ci := 0) rfl (c_add l D cy A _ (ci := 2) (hM.l11 hi9).1 (hM.l11 hi9).2 rfl (by decide) (fun i hi => ⟨_, hM.a12 (g12_ok1 (by omega) (hI.f hi1).2.2 (hI.o12 hi1 (by rw [hN9] at hi; exact hi)))⟩) (hM.a12 (i := i1) (j := gnF G i1) ⟨by decide, hi9, by rw [g12_n (by omega)]; omega, hf9⟩) (by omega)) (hM.l11 hi9).1 dX6_finds_94 rfl rfl hl.1 ⟨rfl, rfl, (Nat.le_of_ble_eq_true rfl), (Nat.le_of_ble_eq_true rfl)⟩ (Nat.le_of_ble_eq_true rfl) ⟨(Nat.le_of_ble_eq_true rfl), (Nat.le_of_ble_eq_true rfl)⟩ (fun v9 μ H locs hp w => ?_)
              obtain ⟨-, ed1, p1, p2, p3, p4⟩ := hp
              have hM3 := la_11 hM hi9 (by omega) p1 (by rw [hN9]; rw [hN9] at p2; exact p2) p3 p4
              rw [hN9] at hM3
              obtain ⟨AD, hk, hM⟩ : ∃ AD1 : AM, (∀ k, k ≠ 19 → AD1 k = AD k) ∧ RepC cy AD1 (gfnd G i1 x3) μ := ⟨_, fun k h => upA_ne h, hM3⟩
              have hA := (hk 0 (by decide)).trans hA
              have hl : lv_has ls 5 [(4, .ref (AD 10 i1 0)), (0, .ref (AD 0 0 0)), (1, .int (nI i1)), (2, .int x2), (3, .int x3)] := by rw [(hk 0 (by decide)), (hk 10 (by decide))]; exact hl
              have hF9 : gnF (gfnd G i1 x3) i1 = gnF G i1 + 1 := gfnd_n (by omega)
              have hI : InvC (gfnd G i1 x3) := InvC.fnd hI hi1 hf9 x3
              have hgnS9 : gnS (gfnd G i1 x3) = gnS G := congrArg Int32.toNatClampNeg (congrFun (e_gfnd G i1 x3 (by decide)) 0)
              have hgnV9 : gnV (gfnd G i1 x3) = gnV G := congrArg Int32.toNatClampNeg (congrFun (e_gfnd G i1 x3 (by decide)) 0)
              refine lv_pop F.1 F.2.1 dX6_finds_97 rfl ?_
              refine lv_aload F.1 F.2.1 dX6_finds_98 (lv_at hl 0 rfl) ?_
              refine gf_X6_219 F w (hM.a10 (hI.o10 (show i1 < gnV (gfnd G i1 x3) by omega))) rfl dX6_finds_100 ?_
              refine lv_fold (y := G 33 i1) (congrFun (e_gfnd G i1 x3 (by decide)) i1) ?_
              refine lv_if_ne (tgt := 124) F.1 F.2.1 dX6_finds_103 (by decide) (fun c_7 => ?_) (fun c_7 => ?_)
              · refine lv_aload F.1 F.2.1 dX6_finds_124 (lv_at hl 0 rfl) ?_
                refine gf_X6_201 F w (hM.a10 (hI.o10 (show i1 < gnV (gfnd G i1 x3) by omega))) rfl dX6_finds_126 ?_
                refine lv_iconst (v := 3) F.1 F.2.1 dX6_finds_129 (by decide) ?_
                refine lv_aload F.1 F.2.1 dX6_finds_130 (lv_at hl 0 rfl) ?_
                refine gf_X6_190 F w (hM.a10 (hI.o10 (show i1 < gnV (gfnd G i1 x3) by omega))) rfl dX6_finds_132 ?_
                refine lv_iload_n F.1 F.2.1 dX6_finds_135 rfl (lv_at hl 3 rfl) ?_
                refine lv_iload_n F.1 F.2.1 dX6_finds_136 rfl (lv_at hl 4 rfl) ?_
                have hI : InvC (gfnd G i1 x3) := hI
                have hO9 : gnO (gfnd G i1 x3) i1 = gnO G i1 := congrArg Int32.toNatClampNeg (congrFun (e_gfnd G i1 x3 (by decide)) i1)
                have hn9 : gnN (gfnd G i1 x3) (gnO (gfnd G i1 x3) i1) < 514 := by rw [hO9]; exact Nat.lt_of_le_of_lt (Nat.le_of_eq (congrArg Int32.toNatClampNeg (congrFun (e_gfnd G i1 x3 (by decide)) (gnO G i1)))) hn
                refine q_mVv (rest := []) F w kV_X6_71 hd_X4_note (ci := 5) rfl (c_X4_note l D cy A _ AD (gfnd G i1 x3) hM (gnO (gfnd G i1 x3) i1) (hI.ms (hI.so (show i1 < gnV (gfnd G i1 x3) by omega)).2) hn9 (hI.n (hI.so (show i1 < gnV (gfnd G i1 x3) by omega)).2).2.2 3 (nI i1) x2 x3) (hM.a6 (hI.o6 (hI.so (show i1 < gnV (gfnd G i1 x3) by omega)).2)) dX6_finds_137 rfl rfl hl.1 ⟨rfl, rfl, (Nat.le_of_ble_eq_true rfl), (Nat.le_of_ble_eq_true rfl)⟩ (Nat.le_of_ble_eq_true rfl) ⟨(Nat.le_of_ble_eq_true rfl), (Nat.le_of_ble_eq_true rfl)⟩ (fun μ H locs hp w => ?_)
                obtain ⟨AD, hk, hM⟩ := hp
                have hA := (hk 0 (by decide) (by decide)).trans hA
                have hl : lv_has ls 5 [(4, .ref (AD 10 i1 0)), (0, .ref (AD 0 0 0)), (1, .int (nI i1)), (2, .int x2), (3, .int x3)] := by rw [(hk 0 (by decide) (by decide)), (hk 10 (by decide) (by decide))]; exact hl
                have hI : InvC (gnote (gfnd G i1 x3) (gnO (gfnd G i1 x3) i1) 3 (nI i1) x2 x3) := InvC.note hI (hI.so (show i1 < gnV (gfnd G i1 x3) by omega)).2 hn9 3 (nI i1) x2 x3
                have hgnS9 : gnS (gnote (gfnd G i1 x3) (gnO (gfnd G i1 x3) i1) 3 (nI i1) x2 x3) = gnS G := congrArg Int32.toNatClampNeg (congrFun ((e_gnote (gfnd G i1 x3) (gnO (gfnd G i1 x3) i1) 3 (nI i1) x2 x3 (by decide)).trans (e_gfnd G i1 x3 (by decide))) 0)
                have hgnV9 : gnV (gnote (gfnd G i1 x3) (gnO (gfnd G i1 x3) i1) 3 (nI i1) x2 x3) = gnV G := congrArg Int32.toNatClampNeg (congrFun ((e_gnote (gfnd G i1 x3) (gnO (gfnd G i1 x3) i1) 3 (nI i1) x2 x3 (by decide)).trans (e_gfnd G i1 x3 (by decide))) 0)
                refine lv_aload F.1 F.2.1 dX6_finds_140 (lv_at hl 0 rfl) ?_
                refine gf_X6_209 F w (hM.a10 (hI.o10 (show i1 < gnV (gnote (gfnd G i1 x3) (gnO (gfnd G i1 x3) i1) 3 (nI i1) x2 x3) by omega))) rfl dX6_finds_142 ?_
                refine q_rV (rest := []) F w kV_X6_58 hd_Jx4a65c_size_8abf5 (ci := 0) rfl (c_size l D cy A _ (hM.l11 (hI.mv (show i1 < gnV (gnote (gfnd G i1 x3) (gnO (gfnd G i1 x3) i1) 3 (nI i1) x2 x3) by omega))).1) (hM.l11 (hI.mv (show i1 < gnV (gnote (gfnd G i1 x3) (gnO (gfnd G i1 x3) i1) 3 (nI i1) x2 x3) by omega))).1 dX6_finds_145 rfl rfl hl.1 ⟨rfl, rfl, Nat.le_of_ble_eq_true rfl, Nat.le_of_ble_eq_true rfl⟩ (Nat.le_of_ble_eq_true rfl) ⟨(Nat.le_of_ble_eq_true rfl), (Nat.le_of_ble_eq_true rfl)⟩ ?_
                refine lv_iconst (v := 1) F.1 F.2.1 dX6_finds_148 (by decide) ?_
                refine lv_isub F.1 F.2.1 dX6_finds_149 ?_
                refine vx_ret ?_
                refine W.widen (k := 4) (n := 2007) (Nat.le_of_ble_eq_true rfl) (Nat.le_of_ble_eq_true rfl) ?_
                exact q_retI (S := Unit) F hr hlk w ⟨((if_neg c_1).trans ((if_neg c_2).trans ((if_pos c_3).trans ((if_pos c_4).trans ((if_neg c_5).trans ((if_pos c_6).trans (if_neg c_7))))))), ((if_neg c_1).trans ((if_neg c_2).trans ((if_pos c_3).trans ((if_pos c_4).trans ((if_neg c_5).trans ((if_pos c_6).trans (if_neg c_7))))))).symm, ⟨AD, hA, RepC.cg hM ((if_neg c_1).trans ((if_neg c_2).trans ((if_pos c_3).trans ((if_pos c_4).trans ((if_neg c_5).trans ((if_pos c_6).trans (if_neg c_7)))))))⟩⟩ dX6_finds_150
              · refine lv_aload F.1 F.2.1 dX6_finds_106 (lv_at hl 0 rfl) ?_
                refine gf_X6_209 F w (hM.a10 (hI.o10 (show i1 < gnV (gfnd G i1 x3) by omega))) rfl dX6_finds_108 ?_
                refine q_rV (rest := []) F w kV_X6_58 hd_Jx4a65c_size_8abf5 (ci := 0) rfl (c_size l D cy A _ (hM.l11 (hI.mv (show i1 < gnV (gfnd G i1 x3) by omega))).1) (hM.l11 (hI.mv (show i1 < gnV (gfnd G i1 x3) by omega))).1 dX6_finds_111 rfl rfl hl.1 ⟨rfl, rfl, Nat.le_of_ble_eq_true rfl, Nat.le_of_ble_eq_true rfl⟩ (Nat.le_of_ble_eq_true rfl) ⟨(Nat.le_of_ble_eq_true rfl), (Nat.le_of_ble_eq_true rfl)⟩ ?_
                refine lv_iconst (v := 3) F.1 F.2.1 dX6_finds_114 (by decide) ?_
                refine lv_icmp_lt (tgt := 124) F.1 F.2.1 dX6_finds_115 (by decide) (fun c_8 => ?_) (fun c_8 => ?_)
                · refine lv_aload F.1 F.2.1 dX6_finds_124 (lv_at hl 0 rfl) ?_
                  refine gf_X6_201 F w (hM.a10 (hI.o10 (show i1 < gnV (gfnd G i1 x3) by omega))) rfl dX6_finds_126 ?_
                  refine lv_iconst (v := 3) F.1 F.2.1 dX6_finds_129 (by decide) ?_
                  refine lv_aload F.1 F.2.1 dX6_finds_130 (lv_at hl 0 rfl) ?_
                  refine gf_X6_190 F w (hM.a10 (hI.o10 (show i1 < gnV (gfnd G i1 x3) by omega))) rfl dX6_finds_132 ?_
                  refine lv_iload_n F.1 F.2.1 dX6_finds_135 rfl (lv_at hl 3 rfl) ?_
                  refine lv_iload_n F.1 F.2.1 dX6_finds_136 rfl (lv_at hl 4 rfl) ?_
                  have hI : InvC (gfnd G i1 x3) := hI
                  have hO9 : gnO (gfnd G i1 x3) i1 = gnO G i1 := congrArg Int32.toNatClampNeg (congrFun (e_gfnd G i1 x3 (by decide)) i1)
                  have hn9 : gnN (gfnd G i1 x3) (gnO (gfnd G i1 x3) i1) < 514 := by rw [hO9]; exact Nat.lt_of_le_of_lt (Nat.le_of_eq (congrArg Int32.toNatClampNeg (congrFun (e_gfnd G i1 x3 (by decide)) (gnO G i1)))) hn
                  refine q_mVv (rest := []) F w kV_X6_71 hd_X4_note (ci := 5) rfl (c_X4_note l D cy A _ AD (gfnd G i1 x3) hM (gnO (gfnd G i1 x3) i1) (hI.ms (hI.so (show i1 < gnV (gfnd G i1 x3) by omega)).2) hn9 (hI.n (hI.so (show i1 < gnV (gfnd G i1 x3) by omega)).2).2.2 3 (nI i1) x2 x3) (hM.a6 (hI.o6 (hI.so (show i1 < gnV (gfnd G i1 x3) by omega)).2)) dX6_finds_137 rfl rfl hl.1 ⟨rfl, rfl, (Nat.le_of_ble_eq_true rfl), (Nat.le_of_ble_eq_true rfl)⟩ (Nat.le_of_ble_eq_true rfl) ⟨(Nat.le_of_ble_eq_true rfl), (Nat.le_of_ble_eq_true rfl)⟩ (fun μ H locs hp w => ?_)
                  obtain ⟨AD, hk, hM⟩ := hp
                  have hA := (hk 0 (by decide) (by decide)).trans hA
                  have hl : lv_has ls 5 [(4, .ref (AD 10 i1 0)), (0, .ref (AD 0 0 0)), (1, .int (nI i1)), (2, .int x2), (3, .int x3)] := by rw [(hk 0 (by decide) (by decide)), (hk 10 (by decide) (by decide))]; exact hl
                  have hI : InvC (gnote (gfnd G i1 x3) (gnO (gfnd G i1 x3) i1) 3 (nI i1) x2 x3) := InvC.note hI (hI.so (show i1 < gnV (gfnd G i1 x3) by omega)).2 hn9 3 (nI i1) x2 x3
                  have hgnS9 : gnS (gnote (gfnd G i1 x3) (gnO (gfnd G i1 x3) i1) 3 (nI i1) x2 x3) = gnS G := congrArg Int32.toNatClampNeg (congrFun ((e_gnote (gfnd G i1 x3) (gnO (gfnd G i1 x3) i1) 3 (nI i1) x2 x3 (by decide)).trans (e_gfnd G i1 x3 (by decide))) 0)
                  have hgnV9 : gnV (gnote (gfnd G i1 x3) (gnO (gfnd G i1 x3) i1) 3 (nI i1) x2 x3) = gnV G := congrArg Int32.toNatClampNeg (congrFun ((e_gnote (gfnd G i1 x3) (gnO (gfnd G i1 x3) i1) 3 (nI i1) x2 x3 (by decide)).trans (e_gfnd G i1 x3 (by decide))) 0)
                  refine lv_aload F.1 F.2.1 dX6_finds_140 (lv_at hl 0 rfl) ?_
                  refine gf_X6_209 F w (hM.a10 (hI.o10 (show i1 < gnV (gnote (gfnd G i1 x3) (gnO (gfnd G i1 x3) i1) 3 (nI i1) x2 x3) by omega))) rfl dX6_finds_142 ?_
                  refine q_rV (rest := []) F w kV_X6_58 hd_Jx4a65c_size_8abf5 (ci := 0) rfl (c_size l D cy A _ (hM.l11 (hI.mv (show i1 < gnV (gnote (gfnd G i1 x3) (gnO (gfnd G i1 x3) i1) 3 (nI i1) x2 x3) by omega))).1) (hM.l11 (hI.mv (show i1 < gnV (gnote (gfnd G i1 x3) (gnO (gfnd G i1 x3) i1) 3 (nI i1) x2 x3) by omega))).1 dX6_finds_145 rfl rfl hl.1 ⟨rfl, rfl, Nat.le_of_ble_eq_true rfl, Nat.le_of_ble_eq_true rfl⟩ (Nat.le_of_ble_eq_true rfl) ⟨(Nat.le_of_ble_eq_true rfl), (Nat.le_of_ble_eq_true rfl)⟩ ?_
                  refine lv_iconst (v := 1) F.1 F.2.1 dX6_finds_148 (by decide) ?_
                  refine lv_isub F.1 F.2.1 dX6_finds_149 ?_
                  refine vx_ret ?_
                  refine W.widen (k := 4) (n := 2007) (Nat.le_of_ble_eq_true rfl) (Nat.le_of_ble_eq_true rfl) ?_
                  exact q_retI (S := Unit) F hr hlk w ⟨((if_neg c_1).trans ((if_neg c_2).trans ((if_pos c_3).trans ((if_pos c_4).trans ((if_neg c_5).trans ((if_pos c_6).trans ((if_pos c_7).trans (if_pos c_8)))))))), ((if_neg c_1).trans ((if_neg c_2).trans ((if_pos c_3).trans ((if_pos c_4).trans ((if_neg c_5).trans ((if_pos c_6).trans ((if_pos c_7).trans (if_pos c_8)))))))).symm, ⟨AD, hA, RepC.cg hM ((if_neg c_1).trans ((if_neg c_2).trans ((if_pos c_3).trans ((if_pos c_4).trans ((if_neg c_5).trans ((if_pos c_6).trans ((if_pos c_7).trans (if_pos c_8))))))))⟩⟩ dX6_finds_150
                · refine lv_aload F.1 F.2.1 dX6_finds_118 (lv_at hl 0 rfl) ?_
                  refine lv_iconst (v := 1) F.1 F.2.1 dX6_finds_120 (by decide) ?_
                  refine cp_X6_219 F w hM (hI.o10 (show i1 < gnV (gfnd G i1 x3) by omega)) dX6_finds_121 (fun H locs μ w hM => ?_)
                  have hM : RepC cy AD (g_X6_finds_1 G i1 x2 x3) μ := hM
                  refine lv_aload F.1 F.2.1 dX6_finds_124 (lv_at hl 0 rfl) ?_
                  refine gf_X6_201 F w (hM.a10 (ok_fr (by decide) (hI.o10 (show i1 < gnV (gfnd G i1 x3) by omega)))) rfl dX6_finds_126 ?_
                  refine lv_iconst (v := 3) F.1 F.2.1 dX6_finds_129 (by decide) ?_
                  refine lv_aload F.1 F.2.1 dX6_finds_130 (lv_at hl 0 rfl) ?_
                  refine gf_X6_190 F w (hM.a10 (ok_fr (by decide) (hI.o10 (show i1 < gnV (gfnd G i1 x3) by omega)))) rfl dX6_finds_132 ?_
                  refine lv_iload_n F.1 F.2.1 dX6_finds_135 rfl (lv_at hl 3 rfl) ?_
                  refine lv_iload_n F.1 F.2.1 dX6_finds_136 rfl (lv_at hl 4 rfl) ?_
                  have hI : InvC (g_X6_finds_1 G i1 x2 x3) := (InvC.fr hI 33 i1 1 rfl)
                  have hO9 : gnO (gfnd G i1 x3) i1 = gnO G i1 := congrArg Int32.toNatClampNeg (congrFun (e_gfnd G i1 x3 (by decide)) i1)
                  have hn9 : gnN (g_X6_finds_1 G i1 x2 x3) (gnO (gfnd G i1 x3) i1) < 514 := by rw [hO9]; exact Nat.lt_of_le_of_lt (Nat.le_of_eq (congrArg Int32.toNatClampNeg (congrFun ((e_g_X6_finds_1 G i1 x2 x3 (by decide)).trans (e_gfnd G i1 x3 (by decide))) (gnO G i1)))) hn
                  have hb9 : gnO (gfnd G i1 x3) i1 < gnS (g_X6_finds_1 G i1 x2 x3) := (hI.so (show i1 < gnV (gfnd G i1 x3) by omega)).2
                  refine q_mVv (rest := []) F w kV_X6_71 hd_X4_note (ci := 5) rfl (c_X4_note l D cy A _ AD (g_X6_finds_1 G i1 x2 x3) hM (gnO (gfnd G i1 x3) i1) (hI.ms hb9) hn9 (hI.n hb9).2.2 3 (nI i1) x2 x3) (hM.a6 (hI.o6 hb9)) dX6_finds_137 rfl rfl hl.1 ⟨rfl, rfl, (Nat.le_of_ble_eq_true rfl), (Nat.le_of_ble_eq_true rfl)⟩ (Nat.le_of_ble_eq_true rfl) ⟨(Nat.le_of_ble_eq_true rfl), (Nat.le_of_ble_eq_true rfl)⟩ (fun μ H locs hp w => ?_)
                  obtain ⟨AD, hk, hM⟩ := hp
                  have hA := (hk 0 (by decide) (by decide)).trans hA
                  have hl : lv_has ls 5 [(4, .ref (AD 10 i1 0)), (0, .ref (AD 0 0 0)), (1, .int (nI i1)), (2, .int x2), (3, .int x3)] := by rw [(hk 0 (by decide) (by decide)), (hk 10 (by decide) (by decide))]; exact hl
                  have hI : InvC (gnote (g_X6_finds_1 G i1 x2 x3) (gnO (gfnd G i1 x3) i1) 3 (nI i1) x2 x3) := InvC.note hI hb9 hn9 3 (nI i1) x2 x3
                  have hgnS9 : gnS (gnote (g_X6_finds_1 G i1 x2 x3) (gnO (gfnd G i1 x3) i1) 3 (nI i1) x2 x3) = gnS G := congrArg Int32.toNatClampNeg (congrFun ((e_gnote (g_X6_finds_1 G i1 x2 x3) (gnO (gfnd G i1 x3) i1) 3 (nI i1) x2 x3 (by decide)).trans ((e_g_X6_finds_1 G i1 x2 x3 (by decide)).trans (e_gfnd G i1 x3 (by decide)))) 0)
                  have hgnV9 : gnV (gnote (g_X6_finds_1 G i1 x2 x3) (gnO (gfnd G i1 x3) i1) 3 (nI i1) x2 x3) = gnV G := congrArg Int32.toNatClampNeg (congrFun ((e_gnote (g_X6_finds_1 G i1 x2 x3) (gnO (gfnd G i1 x3) i1) 3 (nI i1) x2 x3 (by decide)).trans ((e_g_X6_finds_1 G i1 x2 x3 (by decide)).trans (e_gfnd G i1 x3 (by decide)))) 0)
                  refine lv_aload F.1 F.2.1 dX6_finds_140 (lv_at hl 0 rfl) ?_
                  refine gf_X6_209 F w (hM.a10 (hI.o10 (show i1 < gnV (gnote (g_X6_finds_1 G i1 x2 x3) (gnO (gfnd G i1 x3) i1) 3 (nI i1) x2 x3) by omega))) rfl dX6_finds_142 ?_
                  refine q_rV (rest := []) F w kV_X6_58 hd_Jx4a65c_size_8abf5 (ci := 0) rfl (c_size l D cy A _ (hM.l11 (hI.mv (show i1 < gnV (gnote (g_X6_finds_1 G i1 x2 x3) (gnO (gfnd G i1 x3) i1) 3 (nI i1) x2 x3) by omega))).1) (hM.l11 (hI.mv (show i1 < gnV (gnote (g_X6_finds_1 G i1 x2 x3) (gnO (gfnd G i1 x3) i1) 3 (nI i1) x2 x3) by omega))).1 dX6_finds_145 rfl rfl hl.1 ⟨rfl, rfl, Nat.le_of_ble_eq_true rfl, Nat.le_of_ble_eq_true rfl⟩ (Nat.le_of_ble_eq_true rfl) ⟨(Nat.le_of_ble_eq_true rfl), (Nat.le_of_ble_eq_true rfl)⟩ ?_
                  refine lv_iconst (v := 1) F.1 F.2.1 dX6_finds_148 (by decide) ?_
                  refine lv_isub F.1 F.2.1 dX6_finds_149 ?_
                  refine vx_ret ?_
                  refine W.widen (k := 4) (n := 2007) (Nat.le_of_ble_eq_true rfl) (Nat.le_of_ble_eq_true rfl) ?_
                  exact q_retI (S := Unit) F hr hlk w ⟨((if_neg c_1).trans ((if_neg c_2).trans ((if_pos c_3).trans ((if_pos c_4).trans ((if_neg c_5).trans ((if_pos c_6).trans ((if_pos c_7).trans (if_neg c_8)))))))), ((if_neg c_1).trans ((if_neg c_2).trans ((if_pos c_3).trans ((if_pos c_4).trans ((if_neg c_5).trans ((if_pos c_6).trans ((if_pos c_7).trans (if_neg c_8)))))))).symm, ⟨AD, hA, RepC.cg hM ((if_neg c_1).trans ((if_neg c_2).trans ((if_pos c_3).trans ((if_pos c_4).trans ((if_neg c_5).trans ((if_pos c_6).trans ((if_pos c_7).trans (if_neg c_8))))))))⟩⟩ dX6_finds_150
            · exact q_thS (k9 := 20) F w hlf th9_2 rfl hl.1 (congrArg xnm ((if_neg c_1).trans ((if_neg c_2).trans ((if_pos c_3).trans ((if_pos c_4).trans ((if_neg c_5).trans (if_neg c_6))))))).symm ht hlk dX6_finds_71 dX6_finds_74 dX6_finds_75 dX6_finds_77 dX6_finds_80 (Nat.le_of_ble_eq_true rfl) (Nat.le_of_ble_eq_true rfl) (Nat.le_of_ble_eq_true rfl) (Nat.le_of_ble_eq_true rfl) (Nat.le_of_ble_eq_true rfl) (Nat.le_of_ble_eq_true rfl)
      · exact q_thS (k9 := 19) F w hlf th9_1 rfl hl.1 (congrArg xnm ((if_neg c_1).trans ((if_neg c_2).trans (if_neg c_3)))).symm ht hlk dX6_finds_27 dX6_finds_30 dX6_finds_31 dX6_finds_33 dX6_finds_36 (Nat.le_of_ble_eq_true rfl) (Nat.le_of_ble_eq_true rfl) (Nat.le_of_ble_eq_true rfl) (Nat.le_of_ble_eq_true rfl) (Nat.le_of_ble_eq_true rfl) (Nat.le_of_ble_eq_true rfl)
set_option maxHeartbeats 4000000 in
set_option maxRecDepth 100000 in
theorem c_X6_finds_b (l : Launch) (D : va_G) (cy : Nat → ClassId) (A : Nat → Prop) (μ : MU) (AD : AM) (G : GS) (hM : RepC cy AD G μ) (hI : InvC G) (x1 : Int32) (x2 : Int32) (x3 : Int32) (hb : f_X6_isIndex x1 (nI (gnV G)) = 0) (hlf : l.stackTraces = false) : vx_Met l yX6_finds (WS yX6_finds cX6_finds 5 (Option.some Jvm.ClassFile.FieldType.int)) { frames := 7, cells := 1, slots := 6, locals := 121 } (va_Pc [.ref (AD 0 0 0), .int x1, .int x2, .int x3] (Wd D cy A μ)) (fun _ _ _ _ => False) (XC9 D A μ (xnm 3)) 1 6 A := by
  refine q_metx (by decide) (Nat.le_of_ble_eq_true rfl) ?_
  intro p e s m below meth c F w hr hlk ht ls hl
  have F : CallFix p m c cX6_finds 5 s _ BIG RX6 := F
  have hl : lv_has ls 5 [(0, .ref (AD 0 0 0)), (1, .int x1), (2, .int x2), (3, .int x3)] := hl
  refine lv_aload_n F.1 F.2.1 dX6_finds_0 rfl (lv_at hl 0 rfl) ?_
  refine lv_iload_n F.1 F.2.1 dX6_finds_1 rfl (lv_at hl 1 rfl) ?_
  exact q_xV (rest := []) F w rfl ht hlk kV_X6_191 hd_X6_visitNumbered (ci := 7) rfl (c_X6_visitNumbered_b l D cy A _ AD G hM hI x1 hb hlf) (hM.a0 ⟨by decide, rfl, rfl⟩) dX6_finds_2 rfl rfl hl.1 ⟨rfl, rfl, Nat.le_of_ble_eq_true rfl, Nat.le_of_ble_eq_true rfl⟩ (Nat.le_of_ble_eq_true rfl) ⟨Nat.le_of_ble_eq_true rfl, Nat.le_of_ble_eq_true rfl⟩ (Nat.le_of_ble_eq_true rfl) (Nat.le_of_ble_eq_true rfl)
def g_X6_detain_1 (G : GS) (i1 : Nat) : GS := up2 G 38 i1 (G 1 0)
theorem e_g_X6_detain_1 (G : GS) (i1 : Nat) {j : Nat} (h : j ∉ [38]) : g_X6_detain_1 G i1 j = G j := (up2_ne (fun q => h (by rw [q]; exact List.mem_cons_self))).trans rfl
def g_X6_detain_2 (G : GS) (i1 : Nat) : GS := up2 (g_X6_detain_1 G i1) 13 (gnO G i1) (nI i1)
theorem e_g_X6_detain_2 (G : GS) (i1 : Nat) {j : Nat} (h : j ∉ [13, 38]) : g_X6_detain_2 G i1 j = G j := (up2_ne (fun q => h (by rw [q]; exact List.mem_cons_self))).trans (e_g_X6_detain_1 G i1 (fun q => h (List.mem_cons_of_mem _ q)))
def x_X6_detain (G : GS) (i1 : Nat) : Nat := if f_X6_hasLeftSince G i1 = 0 then (if f_X5_wasDetention G i1 = 0 then (if f_X6_isDetainable G i1 = 0 then 2 else 0) else 2) else 2
def f_X6_detain (G : GS) (i1 : Nat) : Int32 := if f_X6_hasLeftSince G i1 = 0 then (if f_X5_wasDetention G i1 = 0 then (if f_X6_isDetainable G i1 = 0 then 0 else f_X6_detentionsThatCount (g_X6_lookForBan (gnote (g_X6_detain_2 G i1) (gnO G i1) 4 (nI i1) (G 1 0) (-1)) (gnO (gnote (g_X6_detain_2 G i1) (gnO G i1) 4 (nI i1) (G 1 0) (-1)) i1)) (gnO (g_X6_lookForBan (gnote (g_X6_detain_2 G i1) (gnO G i1) 4 (nI i1) (G 1 0) (-1)) (gnO (gnote (g_X6_detain_2 G i1) (gnO G i1) 4 (nI i1) (G 1 0) (-1)) i1)) i1)) else 0) else 0
def g_X6_detain (G : GS) (i1 : Nat) : GS := if f_X6_hasLeftSince G i1 = 0 then (if f_X5_wasDetention G i1 = 0 then (if f_X6_isDetainable G i1 = 0 then G else g_X6_lookForBan (gnote (g_X6_detain_2 G i1) (gnO G i1) 4 (nI i1) (G 1 0) (-1)) (gnO (gnote (g_X6_detain_2 G i1) (gnO G i1) 4 (nI i1) (G 1 0) (-1)) i1)) else G) else G
set_option maxHeartbeats 4000000 in
set_option maxRecDepth 100000 in
theorem c_X6_detain (l : Launch) (D : va_G) (cy : Nat → ClassId) (A : Nat → Prop) (μ : MU) (AD : AM) (G : GS) (hM : RepC cy AD G μ) (hI : InvC G) (i1 : Nat) (hi1 : i1 < gnV G) (hn : gnN G (gnO G i1) < 514) (hlf : l.stackTraces = false) : vx_Met l yX6_detain (WS yX6_detain cX6_detain 3 (Option.some Jvm.ClassFile.FieldType.int)) { frames := 8, cells := 2, slots := 1004, locals := 225 } (va_Pc [.ref (AD 0 0 0), .int (nI i1)] (Wd D cy A μ)) (va_Qi (fun (r9 : Int32) (μ1 : MU) => x_X6_detain G i1 = 0 ∧ r9 = f_X6_detain G i1 ∧ ∃ AD1 : AM, AD1 0 = AD 0 ∧ RepC cy AD1 (g_X6_detain G i1) μ1) (fun μ1 t => Wd D cy A μ1 t) A) (XC9 D A μ (xnm (x_X6_detain G i1))) 2 1004 A := by
  refine q_metx (by decide) (Nat.le_of_ble_eq_true rfl) ?_
  intro p e s m below meth c F w hr hlk ht ls hl
  have F : CallFix p m c cX6_detain 3 s _ BIG RX6 := F
  have hl : lv_has ls 3 [(0, .ref (AD 0 0 0)), (1, .int (nI i1))] := hl
  have hA : AD 0 = AD 0 := rfl
  refine lv_aload_n F.1 F.2.1 dX6_detain_0 rfl (lv_at hl 0 rfl) ?_
  refine lv_iload_n F.1 F.2.1 dX6_detain_1 rfl (lv_at hl 1 rfl) ?_
  refine q_sVq (rest := []) F w kV_X6_191 hd_X6_visitNumbered (ci := 7) rfl (c_X6_visitNumbered l D cy A _ AD G hM hI i1 (show i1 < gnV G by omega)) (hM.a0 ⟨by decide, rfl, rfl⟩) dX6_detain_2 rfl rfl hl.1 ⟨rfl, rfl, Nat.le_of_ble_eq_true rfl, Nat.le_of_ble_eq_true rfl⟩ (Nat.le_of_ble_eq_true rfl) ⟨(Nat.le_of_ble_eq_true rfl), (Nat.le_of_ble_eq_true rfl)⟩ ?_
  refine lv_astore_n (lv' := [(2, .ref (AD 10 i1 0)), (0, .ref (AD 0 0 0)), (1, .int (nI i1))]) F.1 F.2.1 dX6_detain_5 rfl hl (by decide) rfl (fun ls hl => ?_)
  refine lv_aload_n F.1 F.2.1 dX6_detain_6 rfl (lv_at hl 0 rfl) ?_
  refine q_rS (rest := []) F w kS_X6_197 hd_X6_hasLeftSince (c_X6_hasLeftSince l D cy A _ AD G hM hI i1 (show i1 < gnV G by omega)) dX6_detain_7 rfl rfl hl.1 ⟨rfl, rfl, Nat.le_of_ble_eq_true rfl, Nat.le_of_ble_eq_true rfl⟩ (Nat.le_of_ble_eq_true rfl) ⟨(Nat.le_of_ble_eq_true rfl), (Nat.le_of_ble_eq_true rfl)⟩ ?_
  refine lv_if_ne (tgt := 28) F.1 F.2.1 dX6_detain_10 (by decide) (fun c_1 => ?_) (fun c_1 => ?_)
  · exact q_thS (k9 := 24) F w hlf th9_2 rfl hl.1 (congrArg xnm (if_neg c_1)).symm ht hlk dX6_detain_28 dX6_detain_31 dX6_detain_32 dX6_detain_34 dX6_detain_37 (Nat.le_of_ble_eq_true rfl) (Nat.le_of_ble_eq_true rfl) (Nat.le_of_ble_eq_true rfl) (Nat.le_of_ble_eq_true rfl) (Nat.le_of_ble_eq_true rfl) (Nat.le_of_ble_eq_true rfl)
  · refine lv_aload_n F.1 F.2.1 dX6_detain_13 rfl (lv_at hl 0 rfl) ?_
    refine q_rV (rest := []) F w kV_X6_245 hd_X5_wasDetention (ci := 6) rfl (c_X5_wasDetention l D cy A _ AD G hM hI i1 (show i1 < gnV G by omega)) (hM.a10 (hI.o10 (show i1 < gnV G by omega))) dX6_detain_14 rfl rfl hl.1 ⟨rfl, rfl, Nat.le_of_ble_eq_true rfl, Nat.le_of_ble_eq_true rfl⟩ (Nat.le_of_ble_eq_true rfl) ⟨(Nat.le_of_ble_eq_true rfl), (Nat.le_of_ble_eq_true rfl)⟩ ?_
    refine lv_if_ne (tgt := 28) F.1 F.2.1 dX6_detain_17 (by decide) (fun c_2 => ?_) (fun c_2 => ?_)
    · exact q_thS (k9 := 24) F w hlf th9_2 rfl hl.1 (congrArg xnm ((if_pos c_1).trans (if_neg c_2))).symm ht hlk dX6_detain_28 dX6_detain_31 dX6_detain_32 dX6_detain_34 dX6_detain_37 (Nat.le_of_ble_eq_true rfl) (Nat.le_of_ble_eq_true rfl) (Nat.le_of_ble_eq_true rfl) (Nat.le_of_ble_eq_true rfl) (Nat.le_of_ble_eq_true rfl) (Nat.le_of_ble_eq_true rfl)
    · refine lv_aload_n F.1 F.2.1 dX6_detain_20 rfl (lv_at hl 1 rfl) ?_
      refine lv_aload_n F.1 F.2.1 dX6_detain_21 rfl (lv_at hl 0 rfl) ?_
      refine q_rV (rest := []) F w kV_X6_249 hd_X6_isDetainable (ci := 7) rfl (c_X6_isDetainable l D cy A _ AD G hM hI i1 (show i1 < gnV G by omega)) (hM.a0 ⟨by decide, rfl, rfl⟩) dX6_detain_22 rfl rfl hl.1 ⟨rfl, rfl, Nat.le_of_ble_eq_true rfl, Nat.le_of_ble_eq_true rfl⟩ (Nat.le_of_ble_eq_true rfl) ⟨(Nat.le_of_ble_eq_true rfl), (Nat.le_of_ble_eq_true rfl)⟩ ?_
      refine lv_if_ne (tgt := 38) F.1 F.2.1 dX6_detain_25 (by decide) (fun c_3 => ?_) (fun c_3 => ?_)
      · refine lv_aload_n F.1 F.2.1 dX6_detain_38 rfl (lv_at hl 0 rfl) ?_
        refine lv_aload_n F.1 F.2.1 dX6_detain_39 rfl (lv_at hl 1 rfl) ?_
        refine gf_X6_30 F w (hM.a0 ⟨by decide, rfl, rfl⟩) rfl dX6_detain_40 ?_
        refine cp_X6_254 F w hM (hI.o10 (show i1 < gnV G by omega)) dX6_detain_43 (fun H locs μ w hM => ?_)
        have hM : RepC cy AD (g_X6_detain_1 G i1) μ := hM
        refine lv_aload_n F.1 F.2.1 dX6_detain_46 rfl (lv_at hl 0 rfl) ?_
        refine gf_X6_201 F w (hM.a10 (ok_fr (by decide) (hI.o10 (show i1 < gnV G by omega)))) rfl dX6_detain_47 ?_
        refine lv_aload_n F.1 F.2.1 dX6_detain_50 rfl (lv_at hl 0 rfl) ?_
        refine lv_st (st := [va_rf (xr AD (nI i1)), .ref (AD 6 (gnO G i1) 0)]) (by rw [xr_nI (show i1 < 2 ^ 31 by have h9 := hI.v.2.1; omega)]; rfl) ?_
        refine cp_X6_168 (v := nI i1) F w hM (ok_fr (by decide) (hI.o6 (hI.so (show i1 < gnV G by omega)).2)) dX6_detain_51 (fun H locs μ w hM => ?_)
        have hM : RepC cy AD (g_X6_detain_2 G i1) μ := hM
        refine lv_aload_n F.1 F.2.1 dX6_detain_54 rfl (lv_at hl 0 rfl) ?_
        refine gf_X6_201 F w (hM.a10 (ok_fr (by decide) (ok_fr (by decide) (hI.o10 (show i1 < gnV G by omega))))) rfl dX6_detain_55 ?_
        refine lv_iconst (v := 4) F.1 F.2.1 dX6_detain_58 (by decide) ?_
        refine lv_aload_n F.1 F.2.1 dX6_detain_59 rfl (lv_at hl 0 rfl) ?_
        refine gf_X6_190 F w (hM.a10 (ok_fr (by decide) (ok_fr (by decide) (hI.o10 (show i1 < gnV G by omega))))) rfl dX6_detain_60 ?_
        refine lv_aload_n F.1 F.2.1 dX6_detain_63 rfl (lv_at hl 1 rfl) ?_
        refine gf_X6_30 F w (hM.a0 (ok_fr (by decide) (ok_fr (by decide) ⟨by decide, rfl, rfl⟩))) rfl dX6_detain_64 ?_
        refine lv_fold (y := G 1 0) (congrFun (e_g_X6_detain_2 G i1 (by decide)) 0) ?_
        refine lv_iconst (v := -1) F.1 F.2.1 dX6_detain_67 (by decide) ?_
        have hI : InvC (g_X6_detain_2 G i1) := (InvC.wq (f := 13) (i := gnO G i1) (v := i1) (InvC.fr hI 38 i1 (G 1 0) rfl) (by decide) (show i1 < gnV G by omega))
        have hn9 : gnN (g_X6_detain_2 G i1) (gnO G i1) < 514 := Nat.lt_of_le_of_lt (Nat.le_of_eq (congrArg Int32.toNatClampNeg (congrFun (e_g_X6_detain_2 G i1 (by decide)) (gnO G i1)))) hn
        have hb9 : gnO G i1 < gnS (g_X6_detain_2 G i1) := (hI.so (show i1 < gnV G by omega)).2
        refine q_mVv (rest := []) F w kV_X6_71 hd_X4_note (ci := 5) rfl (c_X4_note l D cy A _ AD (g_X6_detain_2 G i1) hM (gnO G i1) (hI.ms hb9) hn9 (hI.n hb9).2.2 4 (nI i1) (G 1 0) (-1)) (hM.a6 (hI.o6 hb9)) dX6_detain_68 rfl rfl hl.1 ⟨rfl, rfl, (Nat.le_of_ble_eq_true rfl), (Nat.le_of_ble_eq_true rfl)⟩ (Nat.le_of_ble_eq_true rfl) ⟨(Nat.le_of_ble_eq_true rfl), (Nat.le_of_ble_eq_true rfl)⟩ (fun μ H locs hp w => ?_)
        obtain ⟨AD, hk, hM⟩ := hp
        have hA := (hk 0 (by decide) (by decide)).trans hA
        have hl : lv_has ls 3 [(2, .ref (AD 10 i1 0)), (0, .ref (AD 0 0 0)), (1, .int (nI i1))] := by rw [(hk 0 (by decide) (by decide)), (hk 10 (by decide) (by decide))]; exact hl
        have hI : InvC (gnote (g_X6_detain_2 G i1) (gnO G i1) 4 (nI i1) (G 1 0) (-1)) := InvC.note hI hb9 hn9 4 (nI i1) (G 1 0) (-1)
        have hgnS9 : gnS (gnote (g_X6_detain_2 G i1) (gnO G i1) 4 (nI i1) (G 1 0) (-1)) = gnS G := congrArg Int32.toNatClampNeg (congrFun ((e_gnote (g_X6_detain_2 G i1) (gnO G i1) 4 (nI i1) (G 1 0) (-1) (by decide)).trans (e_g_X6_detain_2 G i1 (by decide))) 0)
        have hgnV9 : gnV (gnote (g_X6_detain_2 G i1) (gnO G i1) 4 (nI i1) (G 1 0) (-1)) = gnV G := congrArg Int32.toNatClampNeg (congrFun ((e_gnote (g_X6_detain_2 G i1) (gnO G i1) 4 (nI i1) (G 1 0) (-1) (by decide)).trans (e_g_X6_detain_2 G i1 (by decide))) 0)
        refine lv_aload_n F.1 F.2.1 dX6_detain_71 rfl (lv_at hl 1 rfl) ?_
        refine lv_aload_n F.1 F.2.1 dX6_detain_72 rfl (lv_at hl 0 rfl) ?_
        refine gf_X6_201 F w (hM.a10 (hI.o10 (show i1 < gnV (gnote (g_X6_detain_2 G i1) (gnO G i1) 4 (nI i1) (G 1 0) (-1)) by omega))) rfl dX6_detain_73 ?_
        refine q_mVv (rest := []) F w kV_X6_257 hd_X6_lookForBan (ci := 7) rfl (c_X6_lookForBan l D cy A _ AD (gnote (g_X6_detain_2 G i1) (gnO G i1) 4 (nI i1) (G 1 0) (-1)) hM hI (gnO (gnote (g_X6_detain_2 G i1) (gnO G i1) 4 (nI i1) (G 1 0) (-1)) i1) (hI.so (show i1 < gnV (gnote (g_X6_detain_2 G i1) (gnO G i1) 4 (nI i1) (G 1 0) (-1)) by omega)).2) (hM.a0 ⟨by decide, rfl, rfl⟩) dX6_detain_76 rfl rfl hl.1 ⟨rfl, rfl, Nat.le_of_ble_eq_true rfl, Nat.le_of_ble_eq_true rfl⟩ (Nat.le_of_ble_eq_true rfl) ⟨Nat.le_of_ble_eq_true rfl, Nat.le_of_ble_eq_true rfl⟩ (fun μ H locs hM w => ?_)
        have hI : InvC (g_X6_lookForBan (gnote (g_X6_detain_2 G i1) (gnO G i1) 4 (nI i1) (G 1 0) (-1)) (gnO (gnote (g_X6_detain_2 G i1) (gnO G i1) 4 (nI i1) (G 1 0) (-1)) i1)) := InvC.lfb hI (gnO (gnote (g_X6_detain_2 G i1) (gnO G i1) 4 (nI i1) (G 1 0) (-1)) i1)
        have hgnS9 : gnS (g_X6_lookForBan (gnote (g_X6_detain_2 G i1) (gnO G i1) 4 (nI i1) (G 1 0) (-1)) (gnO (gnote (g_X6_detain_2 G i1) (gnO G i1) 4 (nI i1) (G 1 0) (-1)) i1)) = gnS G := congrArg Int32.toNatClampNeg (congrFun ((e_g_X6_lookForBan (gnote (g_X6_detain_2 G i1) (gnO G i1) 4 (nI i1) (G 1 0) (-1)) (gnO (gnote (g_X6_detain_2 G i1) (gnO G i1) 4 (nI i1) (G 1 0) (-1)) i1) (by decide)).trans ((e_gnote (g_X6_detain_2 G i1) (gnO G i1) 4 (nI i1) (G 1 0) (-1) (by decide)).trans (e_g_X6_detain_2 G i1 (by decide)))) 0)
        have hgnV9 : gnV (g_X6_lookForBan (gnote (g_X6_detain_2 G i1) (gnO G i1) 4 (nI i1) (G 1 0) (-1)) (gnO (gnote (g_X6_detain_2 G i1) (gnO G i1) 4 (nI i1) (G 1 0) (-1)) i1)) = gnV G := congrArg Int32.toNatClampNeg (congrFun ((e_g_X6_lookForBan (gnote (g_X6_detain_2 G i1) (gnO G i1) 4 (nI i1) (G 1 0) (-1)) (gnO (gnote (g_X6_detain_2 G i1) (gnO G i1) 4 (nI i1) (G 1 0) (-1)) i1) (by decide)).trans ((e_gnote (g_X6_detain_2 G i1) (gnO G i1) 4 (nI i1) (G 1 0) (-1) (by decide)).trans (e_g_X6_detain_2 G i1 (by decide)))) 0)
        refine lv_aload_n F.1 F.2.1 dX6_detain_79 rfl (lv_at hl 1 rfl) ?_
        refine lv_aload_n F.1 F.2.1 dX6_detain_80 rfl (lv_at hl 0 rfl) ?_
        refine gf_X6_201 F w (hM.a10 (hI.o10 (show i1 < gnV (g_X6_lookForBan (gnote (g_X6_detain_2 G i1) (gnO G i1) 4 (nI i1) (G 1 0) (-1)) (gnO (gnote (g_X6_detain_2 G i1) (gnO G i1) 4 (nI i1) (G 1 0) (-1)) i1)) by omega))) rfl dX6_detain_81 ?_
        refine q_rV (rest := []) F w kV_X6_261 hd_X6_detentionsThatCount (ci := 7) rfl (c_X6_detentionsThatCount l D cy A _ AD (g_X6_lookForBan (gnote (g_X6_detain_2 G i1) (gnO G i1) 4 (nI i1) (G 1 0) (-1)) (gnO (gnote (g_X6_detain_2 G i1) (gnO G i1) 4 (nI i1) (G 1 0) (-1)) i1)) hM hI (gnO (g_X6_lookForBan (gnote (g_X6_detain_2 G i1) (gnO G i1) 4 (nI i1) (G 1 0) (-1)) (gnO (gnote (g_X6_detain_2 G i1) (gnO G i1) 4 (nI i1) (G 1 0) (-1)) i1)) i1) (hI.so (show i1 < gnV (g_X6_lookForBan (gnote (g_X6_detain_2 G i1) (gnO G i1) 4 (nI i1) (G 1 0) (-1)) (gnO (gnote (g_X6_detain_2 G i1) (gnO G i1) 4 (nI i1) (G 1 0) (-1)) i1)) by omega)).2) (hM.a0 ⟨by decide, rfl, rfl⟩) dX6_detain_84 rfl rfl hl.1 ⟨rfl, rfl, Nat.le_of_ble_eq_true rfl, Nat.le_of_ble_eq_true rfl⟩ (Nat.le_of_ble_eq_true rfl) ⟨(Nat.le_of_ble_eq_true rfl), (Nat.le_of_ble_eq_true rfl)⟩ ?_
        refine vx_ret ?_
        refine W.widen (k := 2) (n := 1004) (Nat.le_of_ble_eq_true rfl) (Nat.le_of_ble_eq_true rfl) ?_
        exact q_retI (S := Unit) F hr hlk w ⟨((if_pos c_1).trans ((if_pos c_2).trans (if_neg c_3))), ((if_pos c_1).trans ((if_pos c_2).trans (if_neg c_3))).symm, ⟨AD, hA, RepC.cg hM ((if_pos c_1).trans ((if_pos c_2).trans (if_neg c_3)))⟩⟩ dX6_detain_87
      · exact q_thS (k9 := 24) F w hlf th9_2 rfl hl.1 (congrArg xnm ((if_pos c_1).trans ((if_pos c_2).trans (if_pos c_3)))).symm ht hlk dX6_detain_28 dX6_detain_31 dX6_detain_32 dX6_detain_34 dX6_detain_37 (Nat.le_of_ble_eq_true rfl) (Nat.le_of_ble_eq_true rfl) (Nat.le_of_ble_eq_true rfl) (Nat.le_of_ble_eq_true rfl) (Nat.le_of_ble_eq_true rfl) (Nat.le_of_ble_eq_true rfl)
set_option maxHeartbeats 4000000 in
set_option maxRecDepth 100000 in
theorem c_X6_detain_b (l : Launch) (D : va_G) (cy : Nat → ClassId) (A : Nat → Prop) (μ : MU) (AD : AM) (G : GS) (hM : RepC cy AD G μ) (hI : InvC G) (x1 : Int32) (hb : f_X6_isIndex x1 (nI (gnV G)) = 0) (hlf : l.stackTraces = false) : vx_Met l yX6_detain (WS yX6_detain cX6_detain 3 (Option.some Jvm.ClassFile.FieldType.int)) { frames := 7, cells := 1, slots := 6, locals := 121 } (va_Pc [.ref (AD 0 0 0), .int x1] (Wd D cy A μ)) (fun _ _ _ _ => False) (XC9 D A μ (xnm 3)) 1 6 A := by
  refine q_metx (by decide) (Nat.le_of_ble_eq_true rfl) ?_
  intro p e s m below meth c F w hr hlk ht ls hl
  have F : CallFix p m c cX6_detain 3 s _ BIG RX6 := F
  have hl : lv_has ls 3 [(0, .ref (AD 0 0 0)), (1, .int x1)] := hl
  refine lv_aload_n F.1 F.2.1 dX6_detain_0 rfl (lv_at hl 0 rfl) ?_
  refine lv_iload_n F.1 F.2.1 dX6_detain_1 rfl (lv_at hl 1 rfl) ?_
  exact q_xV (rest := []) F w rfl ht hlk kV_X6_191 hd_X6_visitNumbered (ci := 7) rfl (c_X6_visitNumbered_b l D cy A _ AD G hM hI x1 hb hlf) (hM.a0 ⟨by decide, rfl, rfl⟩) dX6_detain_2 rfl rfl hl.1 ⟨rfl, rfl, Nat.le_of_ble_eq_true rfl, Nat.le_of_ble_eq_true rfl⟩ (Nat.le_of_ble_eq_true rfl) ⟨Nat.le_of_ble_eq_true rfl, Nat.le_of_ble_eq_true rfl⟩ (Nat.le_of_ble_eq_true rfl) (Nat.le_of_ble_eq_true rfl)
def g_X6_visit_1 (G : GS) (i1 : Nat) : GS := up2 (gvi0 G i1 (G 1 0) (f_X6_depthOfNext G i1)) 11 i1 (nI (gnV G))
theorem e_g_X6_visit_1 (G : GS) (i1 : Nat) {j : Nat} (h : j ∉ [11]) : g_X6_visit_1 G i1 j = gvi0 G i1 (G 1 0) (f_X6_depthOfNext G i1) j := (up2_ne (fun q => h (by rw [q]; exact List.mem_cons_self))).trans rfl
def g_X6_visit_2 (G : GS) (i1 : Nat) : GS := up2 (g_X6_visit_1 G i1) 12 i1 (nI (gnV G))
theorem e_g_X6_visit_2 (G : GS) (i1 : Nat) {j : Nat} (h : j ∉ [12, 11]) : g_X6_visit_2 G i1 j = gvi0 G i1 (G 1 0) (f_X6_depthOfNext G i1) j := (up2_ne (fun q => h (by rw [q]; exact List.mem_cons_self))).trans (e_g_X6_visit_1 G i1 (fun q => h (List.mem_cons_of_mem _ q)))
def x_X6_visit (G : GS) (i1 : Nat) : Nat := if G 10 i1 = (-1) then 2 else (if G 11 i1 = -1 then (if nI (gnV G) < 60 then 0 else 2) else 2)
def f_X6_visit (G : GS) (i1 : Nat) : Int32 := if G 10 i1 = (-1) then 0 else (if G 11 i1 = -1 then (if nI (gnV G) < 60 then nI (gnV G) else 0) else 0)
def g_X6_visit (G : GS) (i1 : Nat) : GS := if G 10 i1 = (-1) then G else (if G 11 i1 = -1 then (if nI (gnV G) < 60 then gnote (g_X6_visit_2 G i1) i1 2 (nI (gnV G)) (G 1 0) (-1) else G) else G)
set_option maxHeartbeats 4000000 in
set_option maxRecDepth 100000 in
theorem c_X6_visit (l : Launch) (D : va_G) (cy : Nat → ClassId) (A : Nat → Prop) (μ : MU) (AD : AM) (G : GS) (hM : RepC cy AD G μ) (hI : InvC G) (i1 : Nat) (hi1 : i1 < gnS G) (hn : gnN G i1 < 514) (hlf : l.stackTraces = false) : vx_Met l yX6_visit (WS yX6_visit cX6_visit 4 (Option.some Jvm.ClassFile.FieldType.int)) { frames := 8, cells := 5, slots := 2019, locals := 225 } (va_Pc [.ref (AD 0 0 0), .int (nI i1)] (Wd D cy A μ)) (va_Qi (fun (r9 : Int32) (μ1 : MU) => x_X6_visit G i1 = 0 ∧ r9 = f_X6_visit G i1 ∧ ∃ AD1 : AM, AD1 0 = AD 0 ∧ RepC cy AD1 (g_X6_visit G i1) μ1) (fun μ1 t => Wd D cy A μ1 t) A) (XC9 D A μ (xnm (x_X6_visit G i1))) 5 2019 A := by
  refine q_metx (by decide) (Nat.le_of_ble_eq_true rfl) ?_
  intro p e s m below meth c F w hr hlk ht ls hl
  have F : CallFix p m c cX6_visit 4 s _ BIG RX6 := F
  have hl : lv_has ls 4 [(0, .ref (AD 0 0 0)), (1, .int (nI i1))] := hl
  have hA : AD 0 = AD 0 := rfl
  refine lv_aload_n F.1 F.2.1 dX6_visit_0 rfl (lv_at hl 0 rfl) ?_
  refine lv_iload_n F.1 F.2.1 dX6_visit_1 rfl (lv_at hl 1 rfl) ?_
  refine q_sVq (rest := []) F w kV_X6_82 hd_X6_shipNumbered (ci := 7) rfl (c_X6_shipNumbered l D cy A _ AD G hM hI i1 (show i1 < gnS G by omega)) (hM.a0 ⟨by decide, rfl, rfl⟩) dX6_visit_2 rfl rfl hl.1 ⟨rfl, rfl, Nat.le_of_ble_eq_true rfl, Nat.le_of_ble_eq_true rfl⟩ (Nat.le_of_ble_eq_true rfl) ⟨(Nat.le_of_ble_eq_true rfl), (Nat.le_of_ble_eq_true rfl)⟩ ?_
  refine lv_astore_n (lv' := [(2, .ref (AD 6 i1 0)), (0, .ref (AD 0 0 0)), (1, .int (nI i1))]) F.1 F.2.1 dX6_visit_5 rfl hl (by decide) rfl (fun ls hl => ?_)
  refine lv_aload_n F.1 F.2.1 dX6_visit_6 rfl (lv_at hl 0 rfl) ?_
  refine gf_X6_156 F w (hM.a6 (hI.o6 (show i1 < gnS G by omega))) rfl dX6_visit_7 ?_
  refine lv_iconst (v := -1) F.1 F.2.1 dX6_visit_10 (by decide) ?_
  refine lv_icmp_eq (tgt := 33) F.1 F.2.1 dX6_visit_11 (by decide) (fun c_1 => ?_) (fun c_1 => ?_)
  · exact q_thS (k9 := 17) F w hlf th9_2 rfl hl.1 (congrArg xnm (if_pos c_1)).symm ht hlk dX6_visit_33 dX6_visit_36 dX6_visit_37 dX6_visit_39 dX6_visit_42 (Nat.le_of_ble_eq_true rfl) (Nat.le_of_ble_eq_true rfl) (Nat.le_of_ble_eq_true rfl) (Nat.le_of_ble_eq_true rfl) (Nat.le_of_ble_eq_true rfl) (Nat.le_of_ble_eq_true rfl)
  · refine lv_aload_n F.1 F.2.1 dX6_visit_14 rfl (lv_at hl 0 rfl) ?_
    refine gf_X6_174 F w (hM.a6 (hI.o6 (show i1 < gnS G by omega))) rfl dX6_visit_15 ?_
    refine q_ifnonnull (P := G 11 i1 = -1) (hn := fun h => if_pos h) (hs := fun h => ⟨_, if_neg h⟩) (tgt := 33) F.1 F.2.1 dX6_visit_18 (by decide) (fun c_2 => ?_) (fun c_2 => ?_)
    · exact q_thS (k9 := 17) F w hlf th9_2 rfl hl.1 (congrArg xnm ((if_neg c_1).trans (if_neg c_2))).symm ht hlk dX6_visit_33 dX6_visit_36 dX6_visit_37 dX6_visit_39 dX6_visit_42 (Nat.le_of_ble_eq_true rfl) (Nat.le_of_ble_eq_true rfl) (Nat.le_of_ble_eq_true rfl) (Nat.le_of_ble_eq_true rfl) (Nat.le_of_ble_eq_true rfl) (Nat.le_of_ble_eq_true rfl)
    · refine lv_aload_n F.1 F.2.1 dX6_visit_21 rfl (lv_at hl 1 rfl) ?_
      refine gf_X6_19 F w (hM.a0 ⟨by decide, rfl, rfl⟩) rfl dX6_visit_22 ?_
      refine q_rV (rest := []) F w kV_X6_58 hd_Jx4a65c_size_8abf5 (ci := 0) rfl (c_size l D cy A _ hM.l3.1) hM.l3.1 dX6_visit_25 rfl rfl hl.1 ⟨rfl, rfl, Nat.le_of_ble_eq_true rfl, Nat.le_of_ble_eq_true rfl⟩ (Nat.le_of_ble_eq_true rfl) ⟨(Nat.le_of_ble_eq_true rfl), (Nat.le_of_ble_eq_true rfl)⟩ ?_
      refine lv_bipush (v := 60) F.1 F.2.1 dX6_visit_28 (by decide) ?_
      refine lv_icmp_lt (tgt := 43) F.1 F.2.1 dX6_visit_30 (by decide) (fun c_3 => ?_) (fun c_3 => ?_)
      · refine nw_X6_179 F w (Nat.le_of_ble_eq_true rfl) (Nat.le_of_ble_eq_true rfl) dX6_visit_43 (fun q9 H hq9 w => ?_)
        have hM0 := hM
        have hM : RepC cy AD G _ := hM0.keep (keep_new (e := .inr (6, [.null, .int 0, .int 0, .int 0, .int 0, .null, .int 0, .int 0, .int 0, .int 0, .int 0, .int 0])) hq9)
        refine lv_dup F.1 F.2.1 dX6_visit_46 rfl ?_
        refine lv_aload_n F.1 F.2.1 dX6_visit_47 rfl (lv_at hl 0 rfl) ?_
        refine lv_aload_n F.1 F.2.1 dX6_visit_48 rfl (lv_at hl 1 rfl) ?_
        refine gf_X6_19 F w (hM.a0 ⟨by decide, rfl, rfl⟩) rfl dX6_visit_49 ?_
        refine q_rV (rest := [.ref (AD 6 i1 0), .ref q9, .ref q9]) F w kV_X6_58 hd_Jx4a65c_size_8abf5 (ci := 0) rfl (c_size l D cy A _ hM.l3.1) hM.l3.1 dX6_visit_52 rfl rfl hl.1 ⟨rfl, rfl, Nat.le_of_ble_eq_true rfl, Nat.le_of_ble_eq_true rfl⟩ (Nat.le_of_ble_eq_true rfl) ⟨(Nat.le_of_ble_eq_true rfl), (Nat.le_of_ble_eq_true rfl)⟩ ?_
        refine lv_aload_n F.1 F.2.1 dX6_visit_55 rfl (lv_at hl 1 rfl) ?_
        refine gf_X6_30 F w (hM.a0 ⟨by decide, rfl, rfl⟩) rfl dX6_visit_56 ?_
        refine lv_aload_n F.1 F.2.1 dX6_visit_59 rfl (lv_at hl 1 rfl) ?_
        refine lv_aload_n F.1 F.2.1 dX6_visit_60 rfl (lv_at hl 0 rfl) ?_
        refine q_rV (rest := [.int (G 1 0), .int (nI (gnV G)), .ref (AD 6 i1 0), .ref q9, .ref q9]) F w kV_X6_181 hd_X6_depthOfNext (ci := 7) rfl (c_X6_depthOfNext l D cy A _ AD G hM hI i1 (show i1 < gnS G by omega)) (hM.a0 ⟨by decide, rfl, rfl⟩) dX6_visit_61 rfl rfl hl.1 ⟨rfl, rfl, Nat.le_of_ble_eq_true rfl, Nat.le_of_ble_eq_true rfl⟩ (Nat.le_of_ble_eq_true rfl) ⟨(Nat.le_of_ble_eq_true rfl), (Nat.le_of_ble_eq_true rfl)⟩ ?_
        refine q_mI (rest := [.ref q9]) F w kI_X6_184 wM_X6_184 wMi_X6_184 wI_X5 rfl hd_X5_init (c_X5_init l D cy A _ AD G hM (nI (gnV G)) (G 1 0) (f_X6_depthOfNext G i1) (hI.o6 hi1) (mset_eq _ _ _)) dX6_visit_64 rfl rfl hl.1 ⟨rfl, rfl, (Nat.le_of_ble_eq_true rfl), (Nat.le_of_ble_eq_true rfl)⟩ (Nat.le_of_ble_eq_true rfl) ⟨(Nat.le_of_ble_eq_true rfl), (Nat.le_of_ble_eq_true rfl)⟩ (fun μ1 H locs hp w => ?_)
        have hv9 : gnV G < 60 := (nI_ltI (Nat.lt_of_le_of_lt hI.v.2.1 (by decide)) (by decide)).mp (show nI (gnV G) < nI 60 from c_3)
        obtain ⟨la, hp1, hp2, hp3, hp4, hp5⟩ := hp
        have hM2 := mk_10 hM0 (Nat.lt_of_le_of_lt hI.v.2.1 (by decide)) hI.v.2.2 rfl (Nat.lt_of_lt_of_le hi1 (Nat.le_trans hI.s.2.1 (by decide))) hq9 ((mset_ne (Ne.symm hp4)).symm.trans hp3) hp4 (fun b h1 h2 => (hp5 b h1 h2).trans (mset_ne h1)) hI.hre hp1 hp2
        obtain ⟨AD, hk, hq, hM⟩ : ∃ AD1 : AM, (∀ k, k ≠ 10 → k ≠ 11 → AD1 k = AD k) ∧ AD1 10 (gnV G) 0 = q9 ∧ RepC cy AD1 (g10 G (gnV G) i1 (G 1 0) (f_X6_depthOfNext G i1)) μ1 := ⟨_, fun k h10 h11 => (upA_ne h11).trans (upA_ne h10), by rw [upA_ne (by decide), upA_eq], hM2⟩
        have hA := (hk 0 (by decide) (by decide)).trans hA
        have hl : lv_has ls 4 [(2, .ref (AD 6 i1 0)), (0, .ref (AD 0 0 0)), (1, .int (nI i1))] := by rw [(hk 0 (by decide) (by decide)), (hk 6 (by decide) (by decide))]; exact hl
        refine lv_st (st := [.ref (AD 10 (gnV G) 0)]) (by rw [hq]) ?_
        refine lv_astore_n (lv' := [(3, .ref (AD 10 (gnV G) 0)), (2, .ref (AD 6 i1 0)), (0, .ref (AD 0 0 0)), (1, .int (nI i1))]) F.1 F.2.1 dX6_visit_67 rfl hl (by decide) rfl (fun ls hl => ?_)
        refine lv_aload_n F.1 F.2.1 dX6_visit_68 rfl (lv_at hl 2 rfl) ?_
        refine gf_X6_19 F w (hM.a0 ⟨by decide, rfl, rfl⟩) rfl dX6_visit_69 ?_
        refine lv_aload_n F.1 F.2.1 dX6_visit_72 rfl (lv_at hl 0 rfl) ?_
        have hN9 : gnV (g10 G (gnV G) i1 (G 1 0) (f_X6_depthOfNext G i1)) = gnV G := congrArg (fun z : Nat → Int32 => (z 0).toNatClampNeg) (g10_ne (j := 29) (by decide))
        refine q_mVi (rest := []) F w kV_X6_75 hd_Jx4a65c_add_9ea2d (ci := 0) rfl (c_add l D cy A _ (ci := 6) hM.l3.1 hM.l3.2 rfl (by decide) (fun i hi => ⟨_, hM.a10 (g10_ok1 (by omega) hI.v.2.2 (hI.o10 (by rw [hN9] at hi; exact hi)))⟩) (hM.a10 (i := gnV G) ⟨by decide, by rw [g10_n (by omega)]; omega, rfl⟩) (by omega)) hM.l3.1 dX6_visit_73 rfl rfl hl.1 ⟨rfl, rfl, (Nat.le_of_ble_eq_true rfl), (Nat.le_of_ble_eq_true rfl)⟩ (Nat.le_of_ble_eq_true rfl) ⟨(Nat.le_of_ble_eq_true rfl), (Nat.le_of_ble_eq_true rfl)⟩ (fun v9 μ H locs hp w => ?_)
        obtain ⟨-, ed1, p1, p2, p3, p4⟩ := hp
        have hM3 := la_3 hM (by omega) p1 (by rw [hN9]; rw [hN9] at p2; exact p2) p3 p4
        rw [hN9] at hM3
        obtain ⟨AD, hk, hM⟩ : ∃ AD1 : AM, (∀ k, k ≠ 17 → AD1 k = AD k) ∧ RepC cy AD1 (gvi0 G i1 (G 1 0) (f_X6_depthOfNext G i1)) μ := ⟨_, fun k h => upA_ne h, hM3⟩
        have hA := (hk 0 (by decide)).trans hA
        have hl : lv_has ls 4 [(3, .ref (AD 10 (gnV G) 0)), (2, .ref (AD 6 i1 0)), (0, .ref (AD 0 0 0)), (1, .int (nI i1))] := by rw [(hk 0 (by decide)), (hk 6 (by decide)), (hk 10 (by decide))]; exact hl
        have hV9 : gnV (gvi0 G i1 (G 1 0) (f_X6_depthOfNext G i1)) = gnV G + 1 := gvi0_n (by omega)
        have hI : InvC (gvi0 G i1 (G 1 0) (f_X6_depthOfNext G i1)) := InvC.vi0 hI hi1 hv9 (G 1 0) (f_X6_depthOfNext G i1)
        have hgnS9 : gnS (gvi0 G i1 (G 1 0) (f_X6_depthOfNext G i1)) = gnS G := congrArg Int32.toNatClampNeg (congrFun (e_gvi0 G i1 (G 1 0) (f_X6_depthOfNext G i1) (by decide)) 0)
        refine lv_pop F.1 F.2.1 dX6_visit_76 rfl ?_
        refine lv_aload_n F.1 F.2.1 dX6_visit_77 rfl (lv_at hl 1 rfl) ?_
        refine lv_aload_n F.1 F.2.1 dX6_visit_78 rfl (lv_at hl 0 rfl) ?_
        refine lv_st (st := [va_rf (xr AD (nI (gnV G))), .ref (AD 6 i1 0)]) (by rw [xr_nI (show gnV G < 2 ^ 31 by have h9 := hI.v.2.1; omega)]; rfl) ?_
        refine cp_X6_174 (v := nI (gnV G)) F w hM (hI.o6 (show i1 < gnS (gvi0 G i1 (G 1 0) (f_X6_depthOfNext G i1)) by omega)) dX6_visit_79 (fun H locs μ w hM => ?_)
        have hM : RepC cy AD (g_X6_visit_1 G i1) μ := hM
        refine lv_aload_n F.1 F.2.1 dX6_visit_82 rfl (lv_at hl 1 rfl) ?_
        refine lv_aload_n F.1 F.2.1 dX6_visit_83 rfl (lv_at hl 0 rfl) ?_
        refine lv_st (st := [va_rf (xr AD (nI (gnV G))), .ref (AD 6 i1 0)]) (by rw [xr_nI (show gnV G < 2 ^ 31 by have h9 := hI.v.2.1; omega)]; rfl) ?_
        refine cp_X6_187 (v := nI (gnV G)) F w hM (ok_fr (by decide) (hI.o6 (show i1 < gnS (gvi0 G i1 (G 1 0) (f_X6_depthOfNext G i1)) by omega))) dX6_visit_84 (fun H locs μ w hM => ?_)
        have hM : RepC cy AD (g_X6_visit_2 G i1) μ := hM
        refine lv_aload_n F.1 F.2.1 dX6_visit_87 rfl (lv_at hl 1 rfl) ?_
        refine lv_iconst (v := 2) F.1 F.2.1 dX6_visit_88 (by decide) ?_
        refine lv_aload_n F.1 F.2.1 dX6_visit_89 rfl (lv_at hl 0 rfl) ?_
        refine gf_X6_190 F w (hM.a10 (ok_fr (by decide) (ok_fr (by decide) (hI.o10 (show gnV G < gnV (gvi0 G i1 (G 1 0) (f_X6_depthOfNext G i1)) by omega))))) rfl dX6_visit_90 ?_
        refine lv_aload_n F.1 F.2.1 dX6_visit_93 rfl (lv_at hl 2 rfl) ?_
        refine gf_X6_30 F w (hM.a0 (ok_fr (by decide) (ok_fr (by decide) ⟨by decide, rfl, rfl⟩))) rfl dX6_visit_94 ?_
        refine lv_fold (y := G 1 0) (congrFun ((e_g_X6_visit_2 G i1 (by decide)).trans (e_gvi0 G i1 (G 1 0) (f_X6_depthOfNext G i1) (by decide))) 0) ?_
        refine lv_iconst (v := -1) F.1 F.2.1 dX6_visit_97 (by decide) ?_
        have hI : InvC (g_X6_visit_2 G i1) := (InvC.wq (f := 12) (i := i1) (v := gnV G) (InvC.wq (f := 11) (i := i1) (v := gnV G) hI (by decide) (show gnV G < gnV (gvi0 G i1 (G 1 0) (f_X6_depthOfNext G i1)) by omega)) (by decide) (show gnV G < gnV (gvi0 G i1 (G 1 0) (f_X6_depthOfNext G i1)) by omega))
        have hn9 : gnN (g_X6_visit_2 G i1) i1 < 514 := Nat.lt_of_le_of_lt (Nat.le_of_eq (congrArg Int32.toNatClampNeg (congrFun ((e_g_X6_visit_2 G i1 (by decide)).trans (e_gvi0 G i1 (G 1 0) (f_X6_depthOfNext G i1) (by decide))) i1))) hn
        refine q_mVv (rest := []) F w kV_X6_71 hd_X4_note (ci := 5) rfl (c_X4_note l D cy A _ AD (g_X6_visit_2 G i1) hM i1 (hI.ms (show i1 < gnS (g_X6_visit_2 G i1) from (show i1 < gnS (gvi0 G i1 (G 1 0) (f_X6_depthOfNext G i1)) by omega))) hn9 (hI.n (show i1 < gnS (g_X6_visit_2 G i1) from (show i1 < gnS (gvi0 G i1 (G 1 0) (f_X6_depthOfNext G i1)) by omega))).2.2 2 (nI (gnV G)) (G 1 0) (-1)) (hM.a6 (hI.o6 (show i1 < gnS (g_X6_visit_2 G i1) from (show i1 < gnS (gvi0 G i1 (G 1 0) (f_X6_depthOfNext G i1)) by omega)))) dX6_visit_98 rfl rfl hl.1 ⟨rfl, rfl, (Nat.le_of_ble_eq_true rfl), (Nat.le_of_ble_eq_true rfl)⟩ (Nat.le_of_ble_eq_true rfl) ⟨(Nat.le_of_ble_eq_true rfl), (Nat.le_of_ble_eq_true rfl)⟩ (fun μ H locs hp w => ?_)
        obtain ⟨AD, hk, hM⟩ := hp
        have hA := (hk 0 (by decide) (by decide)).trans hA
        have hl : lv_has ls 4 [(3, .ref (AD 10 (gnV G) 0)), (2, .ref (AD 6 i1 0)), (0, .ref (AD 0 0 0)), (1, .int (nI i1))] := by rw [(hk 0 (by decide) (by decide)), (hk 6 (by decide) (by decide)), (hk 10 (by decide) (by decide))]; exact hl
        have hI : InvC (gnote (g_X6_visit_2 G i1) i1 2 (nI (gnV G)) (G 1 0) (-1)) := InvC.note hI (show i1 < gnS (g_X6_visit_2 G i1) from (show i1 < gnS (gvi0 G i1 (G 1 0) (f_X6_depthOfNext G i1)) by omega)) hn9 2 (nI (gnV G)) (G 1 0) (-1)
        have hgnS9 : gnS (gnote (g_X6_visit_2 G i1) i1 2 (nI (gnV G)) (G 1 0) (-1)) = gnS G := congrArg Int32.toNatClampNeg (congrFun ((e_gnote (g_X6_visit_2 G i1) i1 2 (nI (gnV G)) (G 1 0) (-1) (by decide)).trans ((e_g_X6_visit_2 G i1 (by decide)).trans (e_gvi0 G i1 (G 1 0) (f_X6_depthOfNext G i1) (by decide)))) 0)
        have hgnV9 : gnV (gnote (g_X6_visit_2 G i1) i1 2 (nI (gnV G)) (G 1 0) (-1)) = gnV (gvi0 G i1 (G 1 0) (f_X6_depthOfNext G i1)) := congrArg Int32.toNatClampNeg (congrFun ((e_gnote (g_X6_visit_2 G i1) i1 2 (nI (gnV G)) (G 1 0) (-1) (by decide)).trans (e_g_X6_visit_2 G i1 (by decide))) 0)
        refine lv_aload_n F.1 F.2.1 dX6_visit_101 rfl (lv_at hl 0 rfl) ?_
        refine gf_X6_190 F w (hM.a10 (hI.o10 (show gnV G < gnV (gnote (g_X6_visit_2 G i1) i1 2 (nI (gnV G)) (G 1 0) (-1)) by omega))) rfl dX6_visit_102 ?_
        refine vx_ret ?_
        refine W.widen (k := 5) (n := 2019) (Nat.le_of_ble_eq_true rfl) (Nat.le_of_ble_eq_true rfl) ?_
        exact q_retI (S := Unit) F hr hlk w ⟨((if_neg c_1).trans ((if_pos c_2).trans (if_pos c_3))), ((if_neg c_1).trans ((if_pos c_2).trans (if_pos c_3))).symm, ⟨AD, hA, RepC.cg hM ((if_neg c_1).trans ((if_pos c_2).trans (if_pos c_3)))⟩⟩ dX6_visit_105
      · exact q_thS (k9 := 17) F w hlf th9_2 rfl hl.1 (congrArg xnm ((if_neg c_1).trans ((if_pos c_2).trans (if_neg c_3)))).symm ht hlk dX6_visit_33 dX6_visit_36 dX6_visit_37 dX6_visit_39 dX6_visit_42 (Nat.le_of_ble_eq_true rfl) (Nat.le_of_ble_eq_true rfl) (Nat.le_of_ble_eq_true rfl) (Nat.le_of_ble_eq_true rfl) (Nat.le_of_ble_eq_true rfl) (Nat.le_of_ble_eq_true rfl)
set_option maxHeartbeats 4000000 in
set_option maxRecDepth 100000 in
theorem c_X6_visit_b (l : Launch) (D : va_G) (cy : Nat → ClassId) (A : Nat → Prop) (μ : MU) (AD : AM) (G : GS) (hM : RepC cy AD G μ) (hI : InvC G) (x1 : Int32) (hb : f_X6_isIndex x1 (nI (gnS G)) = 0) (hlf : l.stackTraces = false) : vx_Met l yX6_visit (WS yX6_visit cX6_visit 4 (Option.some Jvm.ClassFile.FieldType.int)) { frames := 7, cells := 1, slots := 6, locals := 121 } (va_Pc [.ref (AD 0 0 0), .int x1] (Wd D cy A μ)) (fun _ _ _ _ => False) (XC9 D A μ (xnm 3)) 1 6 A := by
  refine q_metx (by decide) (Nat.le_of_ble_eq_true rfl) ?_
  intro p e s m below meth c F w hr hlk ht ls hl
  have F : CallFix p m c cX6_visit 4 s _ BIG RX6 := F
  have hl : lv_has ls 4 [(0, .ref (AD 0 0 0)), (1, .int x1)] := hl
  refine lv_aload_n F.1 F.2.1 dX6_visit_0 rfl (lv_at hl 0 rfl) ?_
  refine lv_iload_n F.1 F.2.1 dX6_visit_1 rfl (lv_at hl 1 rfl) ?_
  exact q_xV (rest := []) F w rfl ht hlk kV_X6_82 hd_X6_shipNumbered (ci := 7) rfl (c_X6_shipNumbered_b l D cy A _ AD G hM hI x1 hb hlf) (hM.a0 ⟨by decide, rfl, rfl⟩) dX6_visit_2 rfl rfl hl.1 ⟨rfl, rfl, Nat.le_of_ble_eq_true rfl, Nat.le_of_ble_eq_true rfl⟩ (Nat.le_of_ble_eq_true rfl) ⟨Nat.le_of_ble_eq_true rfl, Nat.le_of_ble_eq_true rfl⟩ (Nat.le_of_ble_eq_true rfl) (Nat.le_of_ble_eq_true rfl)
def x_X6_ship (G : GS) (x1 : Int32) (x2 : Int32) (x3 : Int32) (x4 : Int32) (x5 : Int32) : Nat := if f_X6_isIndex x4 6 = 0 then 3 else (if f_X6_isIndex x5 4 = 0 then 3 else (if x1 < (-10000) then 1 else (if G 1 0 < x1 then 1 else (if x2 < 100 then 1 else (if 200000 < x2 then 1 else (if x3 < 0 then 1 else (if x3 ≤ 2 then (if nI (gnS G) < 12 then 0 else 2) else 1)))))))
def f_X6_ship (G : GS) (x1 : Int32) (x2 : Int32) (x3 : Int32) (x4 : Int32) (x5 : Int32) : Int32 := if f_X6_isIndex x4 6 = 0 then 0 else (if f_X6_isIndex x5 4 = 0 then 0 else (if x1 < (-10000) then 0 else (if G 1 0 < x1 then 0 else (if x2 < 100 then 0 else (if 200000 < x2 then 0 else (if x3 < 0 then 0 else (if x3 ≤ 2 then (if nI (gnS G) < 12 then nI (gnS G) else 0) else 0)))))))
def g_X6_ship (G : GS) (x1 : Int32) (x2 : Int32) (x3 : Int32) (x4 : Int32) (x5 : Int32) : GS := if f_X6_isIndex x4 6 = 0 then G else (if f_X6_isIndex x5 4 = 0 then G else (if x1 < (-10000) then G else (if G 1 0 < x1 then G else (if x2 < 100 then G else (if 200000 < x2 then G else (if x3 < 0 then G else (if x3 ≤ 2 then (if nI (gnS G) < 12 then gshp G x1 x2 x3 x4 x5 else G) else G)))))))
set_option maxHeartbeats 4000000 in
set_option maxRecDepth 100000 in
theorem c_X6_ship (l : Launch) (D : va_G) (cy : Nat → ClassId) (A : Nat → Prop) (μ : MU) (AD : AM) (G : GS) (hM : RepC cy AD G μ) (hI : InvC G) (x1 : Int32) (x2 : Int32) (x3 : Int32) (x4 : Int32) (x5 : Int32) (hlf : l.stackTraces = false) : vx_Met l yX6_ship (WS yX6_ship cX6_ship 7 (Option.some Jvm.ClassFile.FieldType.int)) { frames := 8, cells := 8, slots := 3033, locals := 225 } (va_Pc [.ref (AD 0 0 0), .int x1, .int x2, .int x3, .int x4, .int x5] (Wd D cy A μ)) (va_Qi (fun (r9 : Int32) (μ1 : MU) => x_X6_ship G x1 x2 x3 x4 x5 = 0 ∧ r9 = f_X6_ship G x1 x2 x3 x4 x5 ∧ ∃ AD1 : AM, AD1 0 = AD 0 ∧ RepC cy AD1 (g_X6_ship G x1 x2 x3 x4 x5) μ1) (fun μ1 t => Wd D cy A μ1 t) A) (XC9 D A μ (xnm (x_X6_ship G x1 x2 x3 x4 x5))) 8 3033 A := by
  refine q_metx (by decide) (Nat.le_of_ble_eq_true rfl) ?_
  intro p e s m below meth c F w hr hlk ht ls hl
  have F : CallFix p m c cX6_ship 7 s _ BIG RX6 := F
  have hl : lv_has ls 7 [(0, .ref (AD 0 0 0)), (1, .int x1), (2, .int x2), (3, .int x3), (4, .int x4), (5, .int x5)] := hl
  have hA : AD 0 = AD 0 := rfl
  refine lv_iload F.1 F.2.1 dX6_ship_0 (lv_at hl 4 rfl) ?_
  refine lv_bipush (v := 6) F.1 F.2.1 dX6_ship_2 (by decide) ?_
  refine q_rS (rest := []) F w kS_X6_46 hd_X6_isIndex (c_X6_isIndex l D cy A _ x4 6) dX6_ship_4 rfl rfl hl.1 ⟨rfl, rfl, Nat.le_of_ble_eq_true rfl, Nat.le_of_ble_eq_true rfl⟩ (Nat.le_of_ble_eq_true rfl) ⟨(Nat.le_of_ble_eq_true rfl), (Nat.le_of_ble_eq_true rfl)⟩ ?_
  refine lv_if_eq (tgt := 19) F.1 F.2.1 dX6_ship_7 (by decide) (fun c_1 => ?_) (fun c_1 => ?_)
  · exact q_thS (k9 := 2) F w hlf th9_3 rfl hl.1 (congrArg xnm (if_pos c_1)).symm ht hlk dX6_ship_19 dX6_ship_22 dX6_ship_23 dX6_ship_25 dX6_ship_28 (Nat.le_of_ble_eq_true rfl) (Nat.le_of_ble_eq_true rfl) (Nat.le_of_ble_eq_true rfl) (Nat.le_of_ble_eq_true rfl) (Nat.le_of_ble_eq_true rfl) (Nat.le_of_ble_eq_true rfl)
  · refine lv_iload F.1 F.2.1 dX6_ship_10 (lv_at hl 5 rfl) ?_
    refine lv_iconst (v := 4) F.1 F.2.1 dX6_ship_12 (by decide) ?_
    refine q_rS (rest := []) F w kS_X6_46 hd_X6_isIndex (c_X6_isIndex l D cy A _ x5 4) dX6_ship_13 rfl rfl hl.1 ⟨rfl, rfl, Nat.le_of_ble_eq_true rfl, Nat.le_of_ble_eq_true rfl⟩ (Nat.le_of_ble_eq_true rfl) ⟨(Nat.le_of_ble_eq_true rfl), (Nat.le_of_ble_eq_true rfl)⟩ ?_
    refine lv_if_ne (tgt := 29) F.1 F.2.1 dX6_ship_16 (by decide) (fun c_2 => ?_) (fun c_2 => ?_)
    · refine lv_iload_n F.1 F.2.1 dX6_ship_29 rfl (lv_at hl 1 rfl) ?_
      refine lv_sipush (v := -10000) F.1 F.2.1 dX6_ship_30 (by decide) ?_
      refine lv_icmp_lt (tgt := 65) F.1 F.2.1 dX6_ship_33 (by decide) (fun c_3 => ?_) (fun c_3 => ?_)
      · exact q_thS (k9 := 3) F w hlf th9_1 rfl hl.1 (congrArg xnm ((if_neg c_1).trans ((if_neg c_2).trans (if_pos c_3)))).symm ht hlk dX6_ship_65 dX6_ship_68 dX6_ship_69 dX6_ship_71 dX6_ship_74 (Nat.le_of_ble_eq_true rfl) (Nat.le_of_ble_eq_true rfl) (Nat.le_of_ble_eq_true rfl) (Nat.le_of_ble_eq_true rfl) (Nat.le_of_ble_eq_true rfl) (Nat.le_of_ble_eq_true rfl)
      · refine lv_iload_n F.1 F.2.1 dX6_ship_36 rfl (lv_at hl 1 rfl) ?_
        refine lv_aload_n F.1 F.2.1 dX6_ship_37 rfl (lv_at hl 0 rfl) ?_
        refine gf_X6_30 F w (hM.a0 ⟨by decide, rfl, rfl⟩) rfl dX6_ship_38 ?_
        refine lv_icmp_gt (tgt := 65) F.1 F.2.1 dX6_ship_41 (by decide) (fun c_4 => ?_) (fun c_4 => ?_)
        · exact q_thS (k9 := 3) F w hlf th9_1 rfl hl.1 (congrArg xnm ((if_neg c_1).trans ((if_neg c_2).trans ((if_neg c_3).trans (if_pos c_4))))).symm ht hlk dX6_ship_65 dX6_ship_68 dX6_ship_69 dX6_ship_71 dX6_ship_74 (Nat.le_of_ble_eq_true rfl) (Nat.le_of_ble_eq_true rfl) (Nat.le_of_ble_eq_true rfl) (Nat.le_of_ble_eq_true rfl) (Nat.le_of_ble_eq_true rfl) (Nat.le_of_ble_eq_true rfl)
        · refine lv_iload_n F.1 F.2.1 dX6_ship_44 rfl (lv_at hl 2 rfl) ?_
          refine lv_bipush (v := 100) F.1 F.2.1 dX6_ship_45 (by decide) ?_
          refine lv_icmp_lt (tgt := 65) F.1 F.2.1 dX6_ship_47 (by decide) (fun c_5 => ?_) (fun c_5 => ?_)
          · exact q_thS (k9 := 3) F w hlf th9_1 rfl hl.1 (congrArg xnm ((if_neg c_1).trans ((if_neg c_2).trans ((if_neg c_3).trans ((if_neg c_4).trans (if_pos c_5)))))).symm ht hlk dX6_ship_65 dX6_ship_68 dX6_ship_69 dX6_ship_71 dX6_ship_74 (Nat.le_of_ble_eq_true rfl) (Nat.le_of_ble_eq_true rfl) (Nat.le_of_ble_eq_true rfl) (Nat.le_of_ble_eq_true rfl) (Nat.le_of_ble_eq_true rfl) (Nat.le_of_ble_eq_true rfl)
          · refine lv_iload_n F.1 F.2.1 dX6_ship_50 rfl (lv_at hl 2 rfl) ?_
            refine lv_ldc F.1 F.2.1 F.2.2.2.1 (F.2.2.2.2 _ wK_X6_55) dX6_ship_51 ?_
            refine lv_icmp_gt (tgt := 65) F.1 F.2.1 dX6_ship_53 (by decide) (fun c_6 => ?_) (fun c_6 => ?_)
            · exact q_thS (k9 := 3) F w hlf th9_1 rfl hl.1 (congrArg xnm ((if_neg c_1).trans ((if_neg c_2).trans ((if_neg c_3).trans ((if_neg c_4).trans ((if_neg c_5).trans (if_pos c_6))))))).symm ht hlk dX6_ship_65 dX6_ship_68 dX6_ship_69 dX6_ship_71 dX6_ship_74 (Nat.le_of_ble_eq_true rfl) (Nat.le_of_ble_eq_true rfl) (Nat.le_of_ble_eq_true rfl) (Nat.le_of_ble_eq_true rfl) (Nat.le_of_ble_eq_true rfl) (Nat.le_of_ble_eq_true rfl)
            · refine lv_iload_n F.1 F.2.1 dX6_ship_56 rfl (lv_at hl 3 rfl) ?_
              refine lv_if_lt (tgt := 65) F.1 F.2.1 dX6_ship_57 (by decide) (fun c_7 => ?_) (fun c_7 => ?_)
              · exact q_thS (k9 := 3) F w hlf th9_1 rfl hl.1 (congrArg xnm ((if_neg c_1).trans ((if_neg c_2).trans ((if_neg c_3).trans ((if_neg c_4).trans ((if_neg c_5).trans ((if_neg c_6).trans (if_pos c_7)))))))).symm ht hlk dX6_ship_65 dX6_ship_68 dX6_ship_69 dX6_ship_71 dX6_ship_74 (Nat.le_of_ble_eq_true rfl) (Nat.le_of_ble_eq_true rfl) (Nat.le_of_ble_eq_true rfl) (Nat.le_of_ble_eq_true rfl) (Nat.le_of_ble_eq_true rfl) (Nat.le_of_ble_eq_true rfl)
              · refine lv_iload_n F.1 F.2.1 dX6_ship_60 rfl (lv_at hl 3 rfl) ?_
                refine lv_iconst (v := 2) F.1 F.2.1 dX6_ship_61 (by decide) ?_
                refine lv_icmp_le (tgt := 75) F.1 F.2.1 dX6_ship_62 (by decide) (fun c_8 => ?_) (fun c_8 => ?_)
                · refine lv_aload_n F.1 F.2.1 dX6_ship_75 rfl (lv_at hl 0 rfl) ?_
                  refine gf_X6_10 F w (hM.a0 ⟨by decide, rfl, rfl⟩) rfl dX6_ship_76 ?_
                  refine q_rV (rest := []) F w kV_X6_58 hd_Jx4a65c_size_8abf5 (ci := 0) rfl (c_size l D cy A _ hM.l1.1) hM.l1.1 dX6_ship_79 rfl rfl hl.1 ⟨rfl, rfl, Nat.le_of_ble_eq_true rfl, Nat.le_of_ble_eq_true rfl⟩ (Nat.le_of_ble_eq_true rfl) ⟨(Nat.le_of_ble_eq_true rfl), (Nat.le_of_ble_eq_true rfl)⟩ ?_
                  refine lv_bipush (v := 12) F.1 F.2.1 dX6_ship_82 (by decide) ?_
                  refine lv_icmp_lt (tgt := 97) F.1 F.2.1 dX6_ship_84 (by decide) (fun c_9 => ?_) (fun c_9 => ?_)
                  · refine nw_X6_64 F w (Nat.le_of_ble_eq_true rfl) (Nat.le_of_ble_eq_true rfl) dX6_ship_97 (fun q9 H hq9 w => ?_)
                    have hM0 := hM
                    have hM : RepC cy AD G _ := hM0.keep (keep_new (e := .inr (5, [.int 0, .int 0, .int 0, .int 0, .null, .null, .int 0, .int 0, .int 0, .int 0, .null, .null, .null, .int 0, .int 0, .int 0, .int 0])) hq9)
                    refine lv_dup F.1 F.2.1 dX6_ship_100 rfl ?_
                    refine lv_aload_n F.1 F.2.1 dX6_ship_101 rfl (lv_at hl 0 rfl) ?_
                    refine gf_X6_10 F w (hM.a0 ⟨by decide, rfl, rfl⟩) rfl dX6_ship_102 ?_
                    refine q_rV (rest := [.ref q9, .ref q9]) F w kV_X6_58 hd_Jx4a65c_size_8abf5 (ci := 0) rfl (c_size l D cy A _ hM.l1.1) hM.l1.1 dX6_ship_105 rfl rfl hl.1 ⟨rfl, rfl, Nat.le_of_ble_eq_true rfl, Nat.le_of_ble_eq_true rfl⟩ (Nat.le_of_ble_eq_true rfl) ⟨(Nat.le_of_ble_eq_true rfl), (Nat.le_of_ble_eq_true rfl)⟩ ?_
                    refine lv_iload_n F.1 F.2.1 dX6_ship_108 rfl (lv_at hl 1 rfl) ?_
                    refine lv_iload_n F.1 F.2.1 dX6_ship_109 rfl (lv_at hl 2 rfl) ?_
                    refine lv_iload_n F.1 F.2.1 dX6_ship_110 rfl (lv_at hl 3 rfl) ?_
                    refine lv_iload F.1 F.2.1 dX6_ship_111 (lv_at hl 4 rfl) ?_
                    refine lv_iload F.1 F.2.1 dX6_ship_113 (lv_at hl 5 rfl) ?_
                    refine q_mI (rest := [.ref q9]) F w kI_X6_66 wM_X6_66 wMi_X6_66 wI_X4 rfl hd_X4_init (c_X4_init l D cy A _ (nI (gnS G)) x1 x2 x3 x4 x5 (mset_eq _ _ _)) dX6_ship_115 rfl rfl hl.1 ⟨rfl, rfl, (Nat.le_of_ble_eq_true rfl), (Nat.le_of_ble_eq_true rfl)⟩ (Nat.le_of_ble_eq_true rfl) ⟨(Nat.le_of_ble_eq_true rfl), (Nat.le_of_ble_eq_true rfl)⟩ (fun μ1 H locs hp w => ?_)
                    have hs9 : gnS G < 12 := (nI_ltI (Nat.lt_of_le_of_lt hI.s.2.1 (by decide)) (by decide)).mp (show nI (gnS G) < nI 12 from c_9)
                    obtain ⟨ca, la, hp1, hp2, hp3, hp4, hp5, hp6, hp7, hp8, hp9⟩ := hp
                    have hM2 := mk_6 hM0 (Nat.lt_of_le_of_lt hI.s.2.1 (by decide)) hI.s.2.2 rfl hq9 ((mset_ne (Ne.symm hp6)).symm.trans hp4) ((mset_ne (Ne.symm hp7)).symm.trans hp5) hp6 hp7 hp8 (fun b h1 h2 h3 => (hp9 b h1 h2 h3).trans (mset_ne h1)) (fun v hv => (hI.so (by rw [← hI.v.2.2]; exact hv)).2) hp1 hp2 hp3
                    obtain ⟨AD, hk, hq, hM⟩ : ∃ AD1 : AM, (∀ k, k ≠ 6 → k ≠ 7 → k ≠ 8 → AD1 k = AD k) ∧ AD1 6 (gnS G) 0 = q9 ∧ RepC cy AD1 (g6 G (gnS G) x1 x2 x3 x4 x5) μ1 := ⟨_, fun k h6 h7 h8 => (upA_ne h8).trans ((upA_ne h7).trans (upA_ne h6)), by rw [upA_ne (by decide), upA_ne (by decide), upA_eq], hM2⟩
                    have hA := (hk 0 (by decide) (by decide) (by decide)).trans hA
                    have hl : lv_has ls 7 [(0, .ref (AD 0 0 0)), (1, .int x1), (2, .int x2), (3, .int x3), (4, .int x4), (5, .int x5)] := by rw [(hk 0 (by decide) (by decide) (by decide))]; exact hl
                    refine lv_st (st := [.ref (AD 6 (gnS G) 0)]) (by rw [hq]) ?_
                    refine lv_astore (lv' := [(6, .ref (AD 6 (gnS G) 0)), (0, .ref (AD 0 0 0)), (1, .int x1), (2, .int x2), (3, .int x3), (4, .int x4), (5, .int x5)]) F.1 F.2.1 dX6_ship_118 hl (by decide) rfl (fun ls hl => ?_)
                    refine lv_aload F.1 F.2.1 dX6_ship_120 (lv_at hl 0 rfl) ?_
                    refine lv_iconst (v := 0) F.1 F.2.1 dX6_ship_122 (by decide) ?_
                    refine lv_iconst (v := -1) F.1 F.2.1 dX6_ship_123 (by decide) ?_
                    refine lv_iload_n F.1 F.2.1 dX6_ship_124 rfl (lv_at hl 2 rfl) ?_
                    refine lv_iload_n F.1 F.2.1 dX6_ship_125 rfl (lv_at hl 4 rfl) ?_
                    have hm9 : gmS (g6 G (gnS G) x1 x2 x3 x4 x5) = gnS G + 1 := g6_n (Nat.lt_trans hs9 (by decide))
                    have hi9 : gnS G < gmS (g6 G (gnS G) x1 x2 x3 x4 x5) := by rw [hm9]; omega
                    refine q_mVv (rest := []) F w kV_X6_71 hd_X4_note (ci := 5) rfl (c_X4_note l D cy A _ AD (g6 G (gnS G) x1 x2 x3 x4 x5) hM (gnS G) hi9 (by rw [g6_nN]; decide) (g6_N.trans g6_nN.symm) 0 (-1) x1 x3) (hM.a6 ⟨by decide, hi9, rfl⟩) dX6_ship_126 rfl rfl hl.1 ⟨rfl, rfl, (Nat.le_of_ble_eq_true rfl), (Nat.le_of_ble_eq_true rfl)⟩ (Nat.le_of_ble_eq_true rfl) ⟨(Nat.le_of_ble_eq_true rfl), (Nat.le_of_ble_eq_true rfl)⟩ (fun μ H locs hp w => ?_)
                    obtain ⟨AD, hk, hM⟩ := hp
                    have hA := (hk 0 (by decide) (by decide)).trans hA
                    have hl : lv_has ls 7 [(6, .ref (AD 6 (gnS G) 0)), (0, .ref (AD 0 0 0)), (1, .int x1), (2, .int x2), (3, .int x3), (4, .int x4), (5, .int x5)] := by rw [(hk 0 (by decide) (by decide)), (hk 6 (by decide) (by decide))]; exact hl
                    refine lv_aload F.1 F.2.1 dX6_ship_129 (lv_at hl 0 rfl) ?_
                    refine lv_iconst (v := 1) F.1 F.2.1 dX6_ship_131 (by decide) ?_
                    refine lv_iconst (v := -1) F.1 F.2.1 dX6_ship_132 (by decide) ?_
                    refine lv_iload F.1 F.2.1 dX6_ship_133 (lv_at hl 5 rfl) ?_
                    refine lv_iload F.1 F.2.1 dX6_ship_135 (lv_at hl 6 rfl) ?_
                    have hm9 : gmS (gnote (g6 G (gnS G) x1 x2 x3 x4 x5) (gnS G) 0 (-1) x1 x3) = gnS G + 1 := (congrArg (fun z : Nat → Int32 => (z 0).toNatClampNeg) (e_gnote _ _ _ _ _ _ (j := 50) (by decide))).trans hm9
                    have hi9 : gnS G < gmS (gnote (g6 G (gnS G) x1 x2 x3 x4 x5) (gnS G) 0 (-1) x1 x3) := by rw [hm9]; omega
                    refine q_mVv (rest := []) F w kV_X6_71 hd_X4_note (ci := 5) rfl (c_X4_note l D cy A _ AD (gnote (g6 G (gnS G) x1 x2 x3 x4 x5) (gnS G) 0 (-1) x1 x3) hM (gnS G) hi9 (by rw [gsh0_1]; decide) (gsh0_1m.trans gsh0_1.symm) 1 (-1) x4 x5) (hM.a6 ⟨by decide, hi9, rfl⟩) dX6_ship_137 rfl rfl hl.1 ⟨rfl, rfl, (Nat.le_of_ble_eq_true rfl), (Nat.le_of_ble_eq_true rfl)⟩ (Nat.le_of_ble_eq_true rfl) ⟨(Nat.le_of_ble_eq_true rfl), (Nat.le_of_ble_eq_true rfl)⟩ (fun μ H locs hp w => ?_)
                    obtain ⟨AD, hk, hM⟩ : ∃ AD1 : AM, (∀ k, k ≠ 14 → k ≠ 18 → AD1 k = AD k) ∧ RepC cy AD1 (gsh0 G x1 x2 x3 x4 x5) μ := hp
                    have hm9 : gmS (gsh0 G x1 x2 x3 x4 x5) = gnS G + 1 := (congrArg (fun z : Nat → Int32 => (z 0).toNatClampNeg) (e_gnote _ _ _ _ _ _ (j := 50) (by decide))).trans hm9
                    have hA := (hk 0 (by decide) (by decide)).trans hA
                    have hl : lv_has ls 7 [(6, .ref (AD 6 (gnS G) 0)), (0, .ref (AD 0 0 0)), (1, .int x1), (2, .int x2), (3, .int x3), (4, .int x4), (5, .int x5)] := by rw [(hk 0 (by decide) (by decide)), (hk 6 (by decide) (by decide))]; exact hl
                    refine lv_aload_n F.1 F.2.1 dX6_ship_140 rfl (lv_at hl 1 rfl) ?_
                    refine gf_X6_10 F w (hM.a0 ⟨by decide, rfl, rfl⟩) rfl dX6_ship_141 ?_
                    refine lv_aload F.1 F.2.1 dX6_ship_144 (lv_at hl 0 rfl) ?_
                    have hN9 : gnS (gsh0 G x1 x2 x3 x4 x5) = gnS G := congrArg (fun z : Nat → Int32 => (z 0).toNatClampNeg) (e_gsh0 _ _ _ _ _ _ (j := 3) (by decide))
                    refine q_mVi (rest := []) F w kV_X6_75 hd_Jx4a65c_add_9ea2d (ci := 0) rfl (c_add l D cy A _ (ci := 5) hM.l1.1 hM.l1.2 rfl (by decide) (fun i hi => ⟨_, hM.a6 ⟨by decide, by rw [hm9]; rw [hN9] at hi; omega, rfl⟩⟩) (hM.a6 (i := gnS G) ⟨by decide, by rw [hm9]; omega, rfl⟩) (by omega)) hM.l1.1 dX6_ship_146 rfl rfl hl.1 ⟨rfl, rfl, (Nat.le_of_ble_eq_true rfl), (Nat.le_of_ble_eq_true rfl)⟩ (Nat.le_of_ble_eq_true rfl) ⟨(Nat.le_of_ble_eq_true rfl), (Nat.le_of_ble_eq_true rfl)⟩ (fun v9 μ H locs hp w => ?_)
                    obtain ⟨-, ed1, p1, p2, p3, p4⟩ := hp
                    have hM3 := la_1 hM (by omega) p1 (by rw [hN9]; rw [hN9] at p2; exact p2) p3 p4
                    rw [hN9] at hM3
                    obtain ⟨AD, hk, hM⟩ : ∃ AD1 : AM, (∀ k, k ≠ 15 → AD1 k = AD k) ∧ RepC cy AD1 (gshp G x1 x2 x3 x4 x5) μ := ⟨_, fun k h => upA_ne h, hM3⟩
                    have hA := (hk 0 (by decide)).trans hA
                    have hl : lv_has ls 7 [(6, .ref (AD 6 (gnS G) 0)), (0, .ref (AD 0 0 0)), (1, .int x1), (2, .int x2), (3, .int x3), (4, .int x4), (5, .int x5)] := by rw [(hk 0 (by decide)), (hk 6 (by decide))]; exact hl
                    have hS9 : gnS (gshp G x1 x2 x3 x4 x5) = gnS G + 1 := gshp_n (by omega)
                    have hI : InvC (gshp G x1 x2 x3 x4 x5) := InvC.shp hI hs9 x1 x2 x3 x4 x5
                    have hgnV9 : gnV (gshp G x1 x2 x3 x4 x5) = gnV G := congrArg Int32.toNatClampNeg (congrFun (e_gshp G x1 x2 x3 x4 x5 (by decide)) 0)
                    refine lv_pop F.1 F.2.1 dX6_ship_149 rfl ?_
                    refine lv_aload F.1 F.2.1 dX6_ship_150 (lv_at hl 0 rfl) ?_
                    refine gf_X6_79 F w (hM.a6 (hI.o6 (show gnS G < gnS (gshp G x1 x2 x3 x4 x5) by omega))) rfl dX6_ship_152 ?_
                    refine vx_ret ?_
                    refine W.widen (k := 8) (n := 3033) (Nat.le_of_ble_eq_true rfl) (Nat.le_of_ble_eq_true rfl) ?_
                    exact q_retI (S := Unit) F hr hlk w ⟨((if_neg c_1).trans ((if_neg c_2).trans ((if_neg c_3).trans ((if_neg c_4).trans ((if_neg c_5).trans ((if_neg c_6).trans ((if_neg c_7).trans ((if_pos c_8).trans (if_pos c_9))))))))), ((if_neg c_1).trans ((if_neg c_2).trans ((if_neg c_3).trans ((if_neg c_4).trans ((if_neg c_5).trans ((if_neg c_6).trans ((if_neg c_7).trans ((if_pos c_8).trans (if_pos c_9))))))))).symm, ⟨AD, hA, RepC.cg hM ((if_neg c_1).trans ((if_neg c_2).trans ((if_neg c_3).trans ((if_neg c_4).trans ((if_neg c_5).trans ((if_neg c_6).trans ((if_neg c_7).trans ((if_pos c_8).trans (if_pos c_9)))))))))⟩⟩ dX6_ship_155
                  · exact q_thS (k9 := 4) F w hlf th9_2 rfl hl.1 (congrArg xnm ((if_neg c_1).trans ((if_neg c_2).trans ((if_neg c_3).trans ((if_neg c_4).trans ((if_neg c_5).trans ((if_neg c_6).trans ((if_neg c_7).trans ((if_pos c_8).trans (if_neg c_9)))))))))).symm ht hlk dX6_ship_87 dX6_ship_90 dX6_ship_91 dX6_ship_93 dX6_ship_96 (Nat.le_of_ble_eq_true rfl) (Nat.le_of_ble_eq_true rfl) (Nat.le_of_ble_eq_true rfl) (Nat.le_of_ble_eq_true rfl) (Nat.le_of_ble_eq_true rfl) (Nat.le_of_ble_eq_true rfl)
                · exact q_thS (k9 := 3) F w hlf th9_1 rfl hl.1 (congrArg xnm ((if_neg c_1).trans ((if_neg c_2).trans ((if_neg c_3).trans ((if_neg c_4).trans ((if_neg c_5).trans ((if_neg c_6).trans ((if_neg c_7).trans (if_neg c_8))))))))).symm ht hlk dX6_ship_65 dX6_ship_68 dX6_ship_69 dX6_ship_71 dX6_ship_74 (Nat.le_of_ble_eq_true rfl) (Nat.le_of_ble_eq_true rfl) (Nat.le_of_ble_eq_true rfl) (Nat.le_of_ble_eq_true rfl) (Nat.le_of_ble_eq_true rfl) (Nat.le_of_ble_eq_true rfl)
    · exact q_thS (k9 := 2) F w hlf th9_3 rfl hl.1 (congrArg xnm ((if_neg c_1).trans (if_pos c_2))).symm ht hlk dX6_ship_19 dX6_ship_22 dX6_ship_23 dX6_ship_25 dX6_ship_28 (Nat.le_of_ble_eq_true rfl) (Nat.le_of_ble_eq_true rfl) (Nat.le_of_ble_eq_true rfl) (Nat.le_of_ble_eq_true rfl) (Nat.le_of_ble_eq_true rfl) (Nat.le_of_ble_eq_true rfl)
def x_X6_issue (G : GS) (i1 : Nat) (i2 : Nat) (x3 : Int32) : Nat := if x3 < 1 then 1 else (if x3 ≤ 1825 then (if f_X6_isSuspended G (G 8 i1) = 0 then (if f_X6_isIn (f_X6_hangsOn (nI i2)) (f_X6_familiesNotGood G i1) = 0 then 0 else 2) else 2) else 1)
def f_X6_issue (G : GS) (i1 : Nat) (i2 : Nat) (x3 : Int32) : Int32 := if x3 < 1 then 0 else (if x3 ≤ 1825 then (if f_X6_isSuspended G (G 8 i1) = 0 then (if f_X6_isIn (f_X6_hangsOn (nI i2)) (f_X6_familiesNotGood G i1) = 0 then (G 1 0) + x3 else 0) else 0) else 0)
def g_X6_issue (G : GS) (i1 : Nat) (i2 : Nat) (x3 : Int32) : GS := if x3 < 1 then G else (if x3 ≤ 1825 then (if f_X6_isSuspended G (G 8 i1) = 0 then (if f_X6_isIn (f_X6_hangsOn (nI i2)) (f_X6_familiesNotGood G i1) = 0 then g13 G i1 i2 (G 8 i1) (G 1 0) ((G 1 0) + x3) else G) else G) else G)
set_option maxHeartbeats 4000000 in
set_option maxRecDepth 100000 in
theorem c_X6_issue (l : Launch) (D : va_G) (cy : Nat → ClassId) (A : Nat → Prop) (μ : MU) (AD : AM) (G : GS) (hM : RepC cy AD G μ) (hI : InvC G) (i1 : Nat) (i2 : Nat) (x3 : Int32) (hi1 : i1 < gnS G) (hi2 : i2 < 5) (hlf : l.stackTraces = false) : vx_Met l yX6_issue (WS yX6_issue cX6_issue 6 (Option.some Jvm.ClassFile.FieldType.int)) { frames := 6, cells := 1, slots := 6, locals := 100 } (va_Pc [.ref (AD 0 0 0), .int (nI i1), .int (nI i2), .int x3] (Wd D cy A μ)) (va_Qi (fun (r9 : Int32) (μ1 : MU) => x_X6_issue G i1 i2 x3 = 0 ∧ r9 = f_X6_issue G i1 i2 x3 ∧ ∃ AD1 : AM, AD1 0 = AD 0 ∧ RepC cy AD1 (g_X6_issue G i1 i2 x3) μ1) (fun μ1 t => Wd D cy A μ1 t) A) (XC9 D A μ (xnm (x_X6_issue G i1 i2 x3))) 1 6 A := by
  refine q_metx (by decide) (Nat.le_of_ble_eq_true rfl) ?_
  intro p e s m below meth c F w hr hlk ht ls hl
  have F : CallFix p m c cX6_issue 6 s _ BIG RX6 := F
  have hl : lv_has ls 6 [(0, .ref (AD 0 0 0)), (1, .int (nI i1)), (2, .int (nI i2)), (3, .int x3)] := hl
  have hA : AD 0 = AD 0 := rfl
  refine lv_aload_n F.1 F.2.1 dX6_issue_0 rfl (lv_at hl 0 rfl) ?_
  refine lv_iload_n F.1 F.2.1 dX6_issue_1 rfl (lv_at hl 1 rfl) ?_
  refine q_sVq (rest := []) F w kV_X6_82 hd_X6_shipNumbered (ci := 7) rfl (c_X6_shipNumbered l D cy A _ AD G hM hI i1 (show i1 < gnS G by omega)) (hM.a0 ⟨by decide, rfl, rfl⟩) dX6_issue_2 rfl rfl hl.1 ⟨rfl, rfl, Nat.le_of_ble_eq_true rfl, Nat.le_of_ble_eq_true rfl⟩ (Nat.le_of_ble_eq_true rfl) ⟨(Nat.le_of_ble_eq_true rfl), (Nat.le_of_ble_eq_true rfl)⟩ ?_
  refine lv_astore (lv' := [(4, .ref (AD 6 i1 0)), (0, .ref (AD 0 0 0)), (1, .int (nI i1)), (2, .int (nI i2)), (3, .int x3)]) F.1 F.2.1 dX6_issue_5 hl (by decide) rfl (fun ls hl => ?_)
  refine lv_iload_n F.1 F.2.1 dX6_issue_7 rfl (lv_at hl 3 rfl) ?_
  refine lv_aload F.1 F.2.1 dX6_issue_8 (lv_at hl 0 rfl) ?_
  refine gf_X6_106 F w (hM.a6 (hI.o6 (show i1 < gnS G by omega))) rfl dX6_issue_10 ?_
  refine q_alen F w 2 rfl (hM.1 7 i1 0 (hI.o7 (show i1 < gnS G by omega))) (v := 5) rfl dX6_issue_13 ?_
  refine q_rS (rest := []) F w kS_X6_46 hd_X6_isIndex (c_X6_isIndex l D cy A _ (nI i2) 5) dX6_issue_14 rfl rfl hl.1 ⟨rfl, rfl, Nat.le_of_ble_eq_true rfl, Nat.le_of_ble_eq_true rfl⟩ (Nat.le_of_ble_eq_true rfl) ⟨(Nat.le_of_ble_eq_true rfl), (Nat.le_of_ble_eq_true rfl)⟩ ?_
  refine lv_if_eq (tgt := 32) F.1 F.2.1 dX6_issue_17 (by decide) (fun c_1 => absurd c_1 (isx_ok (n := 5) hi2 (by decide))) (fun c_1 => ?_)
  refine lv_iload_n F.1 F.2.1 dX6_issue_20 rfl (lv_at hl 4 rfl) ?_
  refine lv_iconst (v := 1) F.1 F.2.1 dX6_issue_21 (by decide) ?_
  refine lv_icmp_lt (tgt := 32) F.1 F.2.1 dX6_issue_22 (by decide) (fun c_2 => ?_) (fun c_2 => ?_)
  · exact q_thS (k9 := 9) F w hlf th9_1 rfl hl.1 (congrArg xnm (if_pos c_2)).symm ht hlk dX6_issue_32 dX6_issue_35 dX6_issue_36 dX6_issue_38 dX6_issue_41 (Nat.le_of_ble_eq_true rfl) (Nat.le_of_ble_eq_true rfl) (Nat.le_of_ble_eq_true rfl) (Nat.le_of_ble_eq_true rfl) (Nat.le_of_ble_eq_true rfl) (Nat.le_of_ble_eq_true rfl)
  · refine lv_iload_n F.1 F.2.1 dX6_issue_25 rfl (lv_at hl 4 rfl) ?_
    refine lv_sipush (v := 1825) F.1 F.2.1 dX6_issue_26 (by decide) ?_
    refine lv_icmp_le (tgt := 42) F.1 F.2.1 dX6_issue_29 (by decide) (fun c_3 => ?_) (fun c_3 => ?_)
    · refine lv_aload_n F.1 F.2.1 dX6_issue_42 rfl (lv_at hl 1 rfl) ?_
      refine lv_aload F.1 F.2.1 dX6_issue_43 (lv_at hl 0 rfl) ?_
      refine gf_X6_89 F w (hM.a6 (hI.o6 (show i1 < gnS G by omega))) rfl dX6_issue_45 ?_
      refine q_rV (rest := []) F w kV_X6_112 hd_X6_isSuspended (ci := 7) rfl (c_X6_isSuspended l D cy A _ AD G hM hI (G 8 i1)) (hM.a0 ⟨by decide, rfl, rfl⟩) dX6_issue_48 rfl rfl hl.1 ⟨rfl, rfl, Nat.le_of_ble_eq_true rfl, Nat.le_of_ble_eq_true rfl⟩ (Nat.le_of_ble_eq_true rfl) ⟨(Nat.le_of_ble_eq_true rfl), (Nat.le_of_ble_eq_true rfl)⟩ ?_
      refine lv_if_ne (tgt := 70) F.1 F.2.1 dX6_issue_51 (by decide) (fun c_4 => ?_) (fun c_4 => ?_)
      · exact q_thS (k9 := 10) F w hlf th9_2 rfl hl.1 (congrArg xnm ((if_neg c_2).trans ((if_pos c_3).trans (if_neg c_4)))).symm ht hlk dX6_issue_70 dX6_issue_73 dX6_issue_74 dX6_issue_76 dX6_issue_79 (Nat.le_of_ble_eq_true rfl) (Nat.le_of_ble_eq_true rfl) (Nat.le_of_ble_eq_true rfl) (Nat.le_of_ble_eq_true rfl) (Nat.le_of_ble_eq_true rfl) (Nat.le_of_ble_eq_true rfl)
      · refine lv_iload_n F.1 F.2.1 dX6_issue_54 rfl (lv_at hl 3 rfl) ?_
        refine q_rS (rest := []) F w kS_X6_116 hd_X6_hangsOn (c_X6_hangsOn l D cy A _ (nI i2)) dX6_issue_55 rfl rfl hl.1 ⟨rfl, rfl, Nat.le_of_ble_eq_true rfl, Nat.le_of_ble_eq_true rfl⟩ (Nat.le_of_ble_eq_true rfl) ⟨(Nat.le_of_ble_eq_true rfl), (Nat.le_of_ble_eq_true rfl)⟩ ?_
        refine lv_aload_n F.1 F.2.1 dX6_issue_58 rfl (lv_at hl 1 rfl) ?_
        refine lv_aload F.1 F.2.1 dX6_issue_59 (lv_at hl 0 rfl) ?_
        refine q_rV (rest := [.int (f_X6_hangsOn (nI i2))]) F w kV_X6_120 hd_X6_familiesNotGood (ci := 7) rfl (c_X6_familiesNotGood l D cy A _ AD G hM hI i1 (show i1 < gnS G by omega)) (hM.a0 ⟨by decide, rfl, rfl⟩) dX6_issue_61 rfl rfl hl.1 ⟨rfl, rfl, Nat.le_of_ble_eq_true rfl, Nat.le_of_ble_eq_true rfl⟩ (Nat.le_of_ble_eq_true rfl) ⟨(Nat.le_of_ble_eq_true rfl), (Nat.le_of_ble_eq_true rfl)⟩ ?_
        refine q_rS (rest := []) F w kS_X6_124 hd_X6_isIn (c_X6_isIn l D cy A _ (f_X6_hangsOn (nI i2)) (f_X6_familiesNotGood G i1)) dX6_issue_64 rfl rfl hl.1 ⟨rfl, rfl, Nat.le_of_ble_eq_true rfl, Nat.le_of_ble_eq_true rfl⟩ (Nat.le_of_ble_eq_true rfl) ⟨(Nat.le_of_ble_eq_true rfl), (Nat.le_of_ble_eq_true rfl)⟩ ?_
        refine lv_if_eq (tgt := 80) F.1 F.2.1 dX6_issue_67 (by decide) (fun c_5 => ?_) (fun c_5 => ?_)
        · refine nw_X6_129 F w (Nat.le_of_ble_eq_true rfl) (Nat.le_of_ble_eq_true rfl) dX6_issue_80 (fun q9 H hq9 w => ?_)
          have hM0 := hM
          have hM : RepC cy AD G _ := hM0.keep (keep_new (e := .inr (1, [.int 0, .int 0, .int 0, .int 0])) hq9)
          refine lv_dup F.1 F.2.1 dX6_issue_83 rfl ?_
          refine lv_aload F.1 F.2.1 dX6_issue_84 (lv_at hl 0 rfl) ?_
          refine gf_X6_89 F w (hM.a6 (hI.o6 (show i1 < gnS G by omega))) rfl dX6_issue_86 ?_
          refine lv_aload_n F.1 F.2.1 dX6_issue_89 rfl (lv_at hl 1 rfl) ?_
          refine gf_X6_30 F w (hM.a0 ⟨by decide, rfl, rfl⟩) rfl dX6_issue_90 ?_
          refine lv_aload_n F.1 F.2.1 dX6_issue_93 rfl (lv_at hl 1 rfl) ?_
          refine gf_X6_30 F w (hM.a0 ⟨by decide, rfl, rfl⟩) rfl dX6_issue_94 ?_
          refine lv_iload_n F.1 F.2.1 dX6_issue_97 rfl (lv_at hl 4 rfl) ?_
          refine lv_iadd F.1 F.2.1 dX6_issue_98 ?_
          refine q_mI (rest := [.ref q9]) F w kI_X6_131 wM_X6_131 wMi_X6_131 wI_X0 rfl hd_X0_init (c_X0_init l D cy A _ (G 8 i1) (G 1 0) ((G 1 0) + x3) (mset_eq _ _ _)) dX6_issue_99 rfl rfl hl.1 ⟨rfl, rfl, (Nat.le_of_ble_eq_true rfl), (Nat.le_of_ble_eq_true rfl)⟩ (Nat.le_of_ble_eq_true rfl) ⟨(Nat.le_of_ble_eq_true rfl), (Nat.le_of_ble_eq_true rfl)⟩ (fun μ1 H locs hp w => ?_)
          obtain ⟨hp1, hp2⟩ := hp
          have hM : RepC cy AD G μ1 := hM0.keep (keep_at hq9 (fun b hb => (hp2 b hb).trans (mset_ne hb)))
          refine lv_astore (lv' := [(5, .ref q9), (4, .ref (AD 6 i1 0)), (0, .ref (AD 0 0 0)), (1, .int (nI i1)), (2, .int (nI i2)), (3, .int x3)]) F.1 F.2.1 dX6_issue_102 hl (by decide) rfl (fun ls hl => ?_)
          refine lv_aload F.1 F.2.1 dX6_issue_104 (lv_at hl 1 rfl) ?_
          refine gf_X6_106 F w (hM.a6 (hI.o6 (show i1 < gnS G by omega))) rfl dX6_issue_106 ?_
          refine lv_iload_n F.1 F.2.1 dX6_issue_109 rfl (lv_at hl 4 rfl) ?_
          refine lv_aload F.1 F.2.1 dX6_issue_110 (lv_at hl 0 rfl) ?_
          refine q_aastS F w 2 rfl (hM.1 7 i1 0 (hI.o7 hi1)) hp1 (ci := 1) rfl i2 hi2 (by decide) dX6_issue_112 (fun H locs w => ?_)
          have hM2 := mk_13 hM0 (hI.ms hi1) hi2 hq9 (fun b hb => (hp2 b hb).trans (mset_ne hb)) hp1
          obtain ⟨AD, hk, hq, hM⟩ : ∃ AD1 : AM, (∀ k, k ≠ 13 → AD1 k = AD k) ∧ AD1 13 i1 i2 = q9 ∧ RepC cy AD1 (g13 G i1 i2 (G 8 i1) (G 1 0) ((G 1 0) + x3)) _ := ⟨_, fun k h => upA_ne h, upA_eq _ _ _ _ _, hM2⟩
          have hA := (hk 0 (by decide)).trans hA
          have hl : lv_has ls 6 [(5, .ref (AD 13 i1 i2)), (4, .ref (AD 6 i1 0)), (0, .ref (AD 0 0 0)), (1, .int (nI i1)), (2, .int (nI i2)), (3, .int x3)] := by rw [hq, (hk 0 (by decide)), (hk 6 (by decide))]; exact hl
          refine lv_aload F.1 F.2.1 dX6_issue_113 (lv_at hl 0 rfl) ?_
          refine gf_X6_134 F w (hM.a13 ⟨by decide, (g13_ok1 hi2 (hI.o6 hi1)).2.1, hi2, g13_at rfl⟩) rfl dX6_issue_115 ?_
          refine lv_fold (y := ((G 1 0) + x3)) (g13_at rfl) ?_
          refine vx_ret ?_
          refine W.widen (k := 1) (n := 6) (Nat.le_of_ble_eq_true rfl) (Nat.le_of_ble_eq_true rfl) ?_
          exact q_retI (S := Unit) F hr hlk w ⟨((if_neg c_2).trans ((if_pos c_3).trans ((if_pos c_4).trans (if_pos c_5)))), ((if_neg c_2).trans ((if_pos c_3).trans ((if_pos c_4).trans (if_pos c_5)))).symm, ⟨AD, hA, RepC.cg hM ((if_neg c_2).trans ((if_pos c_3).trans ((if_pos c_4).trans (if_pos c_5))))⟩⟩ dX6_issue_118
        · exact q_thS (k9 := 10) F w hlf th9_2 rfl hl.1 (congrArg xnm ((if_neg c_2).trans ((if_pos c_3).trans ((if_pos c_4).trans (if_neg c_5))))).symm ht hlk dX6_issue_70 dX6_issue_73 dX6_issue_74 dX6_issue_76 dX6_issue_79 (Nat.le_of_ble_eq_true rfl) (Nat.le_of_ble_eq_true rfl) (Nat.le_of_ble_eq_true rfl) (Nat.le_of_ble_eq_true rfl) (Nat.le_of_ble_eq_true rfl) (Nat.le_of_ble_eq_true rfl)
    · exact q_thS (k9 := 9) F w hlf th9_1 rfl hl.1 (congrArg xnm ((if_neg c_2).trans (if_neg c_3))).symm ht hlk dX6_issue_32 dX6_issue_35 dX6_issue_36 dX6_issue_38 dX6_issue_41 (Nat.le_of_ble_eq_true rfl) (Nat.le_of_ble_eq_true rfl) (Nat.le_of_ble_eq_true rfl) (Nat.le_of_ble_eq_true rfl) (Nat.le_of_ble_eq_true rfl) (Nat.le_of_ble_eq_true rfl)
set_option maxHeartbeats 4000000 in
set_option maxRecDepth 100000 in
theorem c_X6_issue_f (l : Launch) (D : va_G) (cy : Nat → ClassId) (A : Nat → Prop) (μ : MU) (AD : AM) (G : GS) (hM : RepC cy AD G μ) (hI : InvC G) (i1 : Nat) (x2 : Int32) (x3 : Int32) (hi1 : i1 < gnS G) (hb : f_X6_isIndex x2 5 = 0) (hlf : l.stackTraces = false) : vx_Met l yX6_issue (WS yX6_issue cX6_issue 6 (Option.some Jvm.ClassFile.FieldType.int)) { frames := 6, cells := 1, slots := 6, locals := 100 } (va_Pc [.ref (AD 0 0 0), .int (nI i1), .int x2, .int x3] (Wd D cy A μ)) (fun _ _ _ _ => False) (XC9 D A μ (xnm 1)) 1 6 A := by
  refine q_metx (by decide) (Nat.le_of_ble_eq_true rfl) ?_
  intro p e s m below meth c F w hr hlk ht ls hl
  have F : CallFix p m c cX6_issue 6 s _ BIG RX6 := F
  have hl : lv_has ls 6 [(0, .ref (AD 0 0 0)), (1, .int (nI i1)), (2, .int x2), (3, .int x3)] := hl
  refine lv_aload_n F.1 F.2.1 dX6_issue_0 rfl (lv_at hl 0 rfl) ?_
  refine lv_iload_n F.1 F.2.1 dX6_issue_1 rfl (lv_at hl 1 rfl) ?_
  refine q_sVq (rest := []) F w kV_X6_82 hd_X6_shipNumbered (ci := 7) rfl (c_X6_shipNumbered l D cy A _ AD G hM hI i1 (show i1 < gnS G by omega)) (hM.a0 ⟨by decide, rfl, rfl⟩) dX6_issue_2 rfl rfl hl.1 ⟨rfl, rfl, Nat.le_of_ble_eq_true rfl, Nat.le_of_ble_eq_true rfl⟩ (Nat.le_of_ble_eq_true rfl) ⟨Nat.zero_le _, Nat.zero_le _⟩ ?_
  refine lv_astore (lv' := [(4, .ref (AD 6 i1 0)), (0, .ref (AD 0 0 0)), (1, .int (nI i1)), (2, .int x2), (3, .int x3)]) F.1 F.2.1 dX6_issue_5 hl (by decide) rfl (fun ls hl => ?_)
  refine lv_iload_n F.1 F.2.1 dX6_issue_7 rfl (lv_at hl 3 rfl) ?_
  refine lv_aload F.1 F.2.1 dX6_issue_8 (lv_at hl 0 rfl) ?_
  refine gf_X6_106 F w (hM.a6 (hI.o6 (show i1 < gnS G by omega))) rfl dX6_issue_10 ?_
  refine q_alen F w 2 rfl (hM.1 7 i1 0 (hI.o7 (show i1 < gnS G by omega))) (v := 5) rfl dX6_issue_13 ?_
  refine q_rS (rest := []) F w kS_X6_46 hd_X6_isIndex (c_X6_isIndex l D cy A _ x2 5) dX6_issue_14 rfl rfl hl.1 ⟨rfl, rfl, Nat.le_of_ble_eq_true rfl, Nat.le_of_ble_eq_true rfl⟩ (Nat.le_of_ble_eq_true rfl) ⟨Nat.zero_le _, Nat.zero_le _⟩ ?_
  refine lv_if_eq (tgt := 32) F.1 F.2.1 dX6_issue_17 (by decide) (fun c_1 => ?_) (fun c_1 => absurd hb c_1)
  exact q_thS (k9 := 9) F w hlf th9_1 rfl hl.1 rfl ht hlk dX6_issue_32 dX6_issue_35 dX6_issue_36 dX6_issue_38 dX6_issue_41 (Nat.le_of_ble_eq_true rfl) (Nat.le_of_ble_eq_true rfl) (Nat.le_of_ble_eq_true rfl) (Nat.le_of_ble_eq_true rfl) (Nat.le_of_ble_eq_true rfl) (Nat.le_of_ble_eq_true rfl)
set_option maxHeartbeats 4000000 in
set_option maxRecDepth 100000 in
theorem c_X6_issue_b (l : Launch) (D : va_G) (cy : Nat → ClassId) (A : Nat → Prop) (μ : MU) (AD : AM) (G : GS) (hM : RepC cy AD G μ) (hI : InvC G) (x1 : Int32) (x2 : Int32) (x3 : Int32) (hb : f_X6_isIndex x1 (nI (gnS G)) = 0) (hlf : l.stackTraces = false) : vx_Met l yX6_issue (WS yX6_issue cX6_issue 6 (Option.some Jvm.ClassFile.FieldType.int)) { frames := 7, cells := 1, slots := 6, locals := 121 } (va_Pc [.ref (AD 0 0 0), .int x1, .int x2, .int x3] (Wd D cy A μ)) (fun _ _ _ _ => False) (XC9 D A μ (xnm 3)) 1 6 A := by
  refine q_metx (by decide) (Nat.le_of_ble_eq_true rfl) ?_
  intro p e s m below meth c F w hr hlk ht ls hl
  have F : CallFix p m c cX6_issue 6 s _ BIG RX6 := F
  have hl : lv_has ls 6 [(0, .ref (AD 0 0 0)), (1, .int x1), (2, .int x2), (3, .int x3)] := hl
  refine lv_aload_n F.1 F.2.1 dX6_issue_0 rfl (lv_at hl 0 rfl) ?_
  refine lv_iload_n F.1 F.2.1 dX6_issue_1 rfl (lv_at hl 1 rfl) ?_
  exact q_xV (rest := []) F w rfl ht hlk kV_X6_82 hd_X6_shipNumbered (ci := 7) rfl (c_X6_shipNumbered_b l D cy A _ AD G hM hI x1 hb hlf) (hM.a0 ⟨by decide, rfl, rfl⟩) dX6_issue_2 rfl rfl hl.1 ⟨rfl, rfl, Nat.le_of_ble_eq_true rfl, Nat.le_of_ble_eq_true rfl⟩ (Nat.le_of_ble_eq_true rfl) ⟨Nat.le_of_ble_eq_true rfl, Nat.le_of_ble_eq_true rfl⟩ (Nat.le_of_ble_eq_true rfl) (Nat.le_of_ble_eq_true rfl)
def HB (q : Nat) (fs : List Value) (L : List (Nat × va_E)) (μ : MU) : Prop := μ q = some (.inr (7, fs)) ∧ ∀ x ∈ L, μ x.1 = some x.2 ∧ x.1 ≠ q
theorem HB.q {q a : Nat} {fs : List Value} {L : List (Nat × va_E)} {μ μ1 : MU} (h : HB q fs L μ) (ha : μ a = none) (h2 : ∀ b, b ≠ a → μ1 b = μ b) : μ1 q = some (.inr (7, fs)) := (h2 q (fun e => by have h9 := h.1; rw [e, ha] at h9; cases h9)).trans h.1
theorem HB.step {q a : Nat} {fs : List Value} (fs1 : List Value) {L : List (Nat × va_E)} {e : va_E} {μ μ1 : MU} (h : HB q fs L μ) (ha : μ a = none) (h1 : μ1 a = some e) (h2 : ∀ b, b ≠ a → μ1 b = μ b) : HB q fs1 ((a, e) :: L) (mset μ1 q (.inr (7, fs1))) ∧ a ≠ q ∧ ∀ x ∈ L, x.1 ≠ a := by
  have hq : a ≠ q := fun e => by have h9 := h.1; rw [← e, ha] at h9; cases h9
  have hx : ∀ x ∈ L, x.1 ≠ a := fun x hx e => by have h9 := (h.2 x hx).1; rw [e, ha] at h9; cases h9
  refine ⟨⟨mset_eq _ _ _, fun x hx9 => ?_⟩, hq, hx⟩
  rcases List.mem_cons.mp hx9 with e | hx8
  · rw [e]
    exact ⟨(mset_ne hq).trans h1, hq⟩
  · exact ⟨(mset_ne (h.2 x hx8).2).trans ((h2 _ (hx x hx8)).trans (h.2 x hx8).1), (h.2 x hx8).2⟩
theorem HB.put {q : Nat} {fs : List Value} (fs1 : List Value) {L : List (Nat × va_E)} {μ : MU} (h : HB q fs L μ) : HB q fs1 L (mset μ q (.inr (7, fs1))) := ⟨mset_eq _ _ _, fun x hx => ⟨(mset_ne (h.2 x hx).2).trans (h.2 x hx).1, (h.2 x hx).2⟩⟩
abbrev G0 : GS := fun _ _ => 0
theorem cl0 : (0 : Int32).toNatClampNeg = 0 := by decide
theorem InvC.z : InvC G0 := ⟨⟨rfl, by decide, rfl⟩, ⟨rfl, by decide, rfl⟩, ⟨rfl, by decide, rfl⟩, fun v hv => absurd (Nat.lt_of_lt_of_eq hv cl0) (Nat.not_lt_zero v), fun v hv => absurd (Nat.lt_of_lt_of_eq hv cl0) (Nat.not_lt_zero v), fun v hv => absurd (Nat.lt_of_lt_of_eq hv cl0) (Nat.not_lt_zero v), fun v hv => absurd (Nat.lt_of_lt_of_eq hv cl0) (Nat.not_lt_zero v), fun v f hv => absurd (Nat.lt_of_lt_of_eq hv cl0) (Nat.not_lt_zero v), fun i hi => nz0, fun v hv => absurd (Nat.lt_of_lt_of_eq hv cl0) (Nat.not_lt_zero v), fun v f hv => absurd (Nat.lt_of_lt_of_eq hv cl0) (Nat.not_lt_zero v), fun v hv => absurd (Nat.lt_of_lt_of_eq hv cl0) (Nat.not_lt_zero v)⟩
def AD0 (q l1 l2 l3 a4 a5 : Nat) : AM := fun k _ _ => match k with
  | 0 => q
  | 1 => l1
  | 2 => l2
  | 3 => l3
  | 4 => a4
  | _ => a5
theorem rep0 {cy : Nat → ClassId} {μ : MU} {q l1 l2 l3 a4 a5 : Nat} (h0 : μ q = some (.inr (7, [.ref l1, .ref l2, .ref l3, .ref a4, .ref a5, .int 0]))) (h1 : μ l1 = some (lobj cy 0 0 0)) (h2 : μ l2 = some (lobj cy 0 0 0)) (h3 : μ l3 = some (lobj cy 0 0 0)) (h4 : μ a4 = some (.inl (cy 1, 4, .inl (fun _ => 0)))) (h5 : μ a5 = some (.inl (cy 0, 4, .inl (fun _ => 0)))) (hd : [q, l1, l2, l3, a4, a5].Nodup) : RepC cy (AD0 q l1 l2 l3 a4 a5) G0 μ := by
  have hno : ∀ k i j, ok G0 k i j → k < 6 ∧ i = 0 ∧ j = 0 := by
    intro k i j ho
    obtain ⟨hk, ho⟩ := ho
    rcases k20 hk with rfl | rfl | rfl | rfl | rfl | rfl | rfl | rfl | rfl | rfl | rfl | rfl | rfl | rfl | rfl | rfl | rfl | rfl | rfl | rfl
    · exact ⟨by decide, ho⟩
    · exact ⟨by decide, ho⟩
    · exact ⟨by decide, ho⟩
    · exact ⟨by decide, ho⟩
    · exact ⟨by decide, ho⟩
    · exact ⟨by decide, ho⟩
    · exact absurd (Nat.lt_of_lt_of_eq ho.1 cl0) (Nat.not_lt_zero i)
    · exact absurd (Nat.lt_of_lt_of_eq ho.1 cl0) (Nat.not_lt_zero i)
    · exact absurd (Nat.lt_of_lt_of_eq ho.1 cl0) (Nat.not_lt_zero i)
    · exact absurd (Nat.lt_of_lt_of_eq ho.1 cl0) (Nat.not_lt_zero i)
    · exact absurd (Nat.lt_of_lt_of_eq ho.1 cl0) (Nat.not_lt_zero i)
    · exact absurd (Nat.lt_of_lt_of_eq ho.1 cl0) (Nat.not_lt_zero i)
    · exact absurd (Nat.lt_of_lt_of_eq ho.1 cl0) (Nat.not_lt_zero i)
    · exact absurd (Nat.lt_of_lt_of_eq ho.1 cl0) (Nat.not_lt_zero i)
    · exact absurd (Nat.lt_of_lt_of_eq ho.1 cl0) (Nat.not_lt_zero i)
    · exact absurd cl0 ho.2.2
    · exact absurd cl0 ho.2.2
    · exact absurd cl0 ho.2.2
    · exact absurd (Nat.lt_of_lt_of_eq ho.1 cl0) (Nat.not_lt_zero i)
    · exact absurd (Nat.lt_of_lt_of_eq ho.1 cl0) (Nat.not_lt_zero i)
  refine ⟨fun k i j ho => ?_, fun k i j k' i' j' o1 o2 e => ?_⟩
  · obtain ⟨hk, rfl, rfl⟩ := hno k i j ho
    rcases (show k = 0 ∨ k = 1 ∨ k = 2 ∨ k = 3 ∨ k = 4 ∨ k = 5 by omega) with rfl | rfl | rfl | rfl | rfl | rfl
    · exact h0
    · exact h1
    · exact h2
    · exact h3
    · exact h4
    · exact h5
  · obtain ⟨hk, rfl, rfl⟩ := hno k i j o1
    obtain ⟨hk', rfl, rfl⟩ := hno k' i' j' o2
    refine ⟨?_, rfl, rfl⟩
    have hg : ∀ k, k < 6 → [q, l1, l2, l3, a4, a5][k]? = some (AD0 q l1 l2 l3 a4 a5 k 0 0) := fun k hk => by
      rcases (show k = 0 ∨ k = 1 ∨ k = 2 ∨ k = 3 ∨ k = 4 ∨ k = 5 by omega) with rfl | rfl | rfl | rfl | rfl | rfl <;> rfl
    obtain ⟨a1, a2⟩ := List.getElem?_eq_some_iff.mp (hg k hk)
    obtain ⟨b1, b2⟩ := List.getElem?_eq_some_iff.mp (hg k' hk')
    rcases Nat.lt_trichotomy k k' with c | c | c
    · exact absurd (a2.trans (e.trans b2.symm)) (List.pairwise_iff_getElem.mp hd k k' a1 b1 c)
    · exact c
    · exact absurd (b2.trans (e.symm.trans a2.symm)) (List.pairwise_iff_getElem.mp hd k' k b1 a1 c)
set_option maxHeartbeats 4000000 in
set_option maxRecDepth 100000 in
theorem c_X6_init (l : Launch) (D : va_G) (cy : Nat → ClassId) (A : Nat → Prop) (μ : MU) {q : Nat} (hq : μ q = some (.inr (7, [.null, .null, .null, .null, .null, .int 0]))) : Met l yX6_init (WS yX6_init cX6_init 1 (Option.none : Option Jvm.ClassFile.FieldType)) { frames := 4, cells := 5, slots := 17, locals := 72 } (va_Pc [.ref q] (Wd D cy A μ)) (va_Qv (fun μ1 : MU => ∃ AD : AM, AD 0 0 0 = q ∧ RepC cy AD G0 μ1) (fun μ1 t => Wd D cy A μ1 t) A) 5 17 A := by
  refine q_met (by decide) (Nat.le_of_ble_eq_true rfl) ?_
  intro p e s m below meth c F w hr hlk hnm ls hl
  have F : CallFix p m c cX6_init 1 s _ BIG RX6 := F
  have hl : lv_has ls 1 [(0, .ref q)] := hl
  refine lv_aload_n F.1 F.2.1 dX6_init_0 rfl (lv_at hl 0 rfl) ?_
  refine q_obj F wO_X6_1 dX6_init_1 hl.1 (Nat.le_of_ble_eq_true rfl) (Nat.le_of_ble_eq_true rfl) ?_
  have hB : HB q [.null, .null, .null, .null, .null, .int 0] [] μ := ⟨hq, fun x hx => (nomatch hx)⟩
  refine lv_aload_n F.1 F.2.1 dX6_init_4 rfl (lv_at hl 0 rfl) ?_
  refine nw_X6_7 F w (Nat.le_of_ble_eq_true rfl) (Nat.le_of_ble_eq_true rfl) dX6_init_5 (fun l1 H hl1 w => ?_)
  refine lv_dup F.1 F.2.1 dX6_init_8 rfl ?_
  refine q_mI (rest := [.ref l1, .ref q]) F w kI_X6_9 wM_X6_9 wMi_X6_9 wI_Jx4a65c rfl hd_Jx4a65c_init_da8c8 (c_ALinit l D cy A _ (mset_eq _ _ _)) dX6_init_9 rfl rfl hl.1 ⟨rfl, rfl, (Nat.le_of_ble_eq_true rfl), (Nat.le_of_ble_eq_true rfl)⟩ (Nat.le_of_ble_eq_true rfl) ⟨(Nat.le_of_ble_eq_true rfl), (Nat.le_of_ble_eq_true rfl)⟩ (fun μ1 H locs hp w => ?_)
  obtain ⟨hp1, hp2⟩ := hp
  have hp3 := fun (b : Nat) (hb : b ≠ l1) => (hp2 b hb).trans (mset_ne hb)
  refine pf_X6_10 (v := .ref l1) F w rfl hnm (hB.q hl1 hp3) rfl rfl dX6_init_12 (fun H locs w => ?_)
  obtain ⟨hB, dl1, el1⟩ := hB.step [.ref l1, .null, .null, .null, .null, .int 0] hl1 hp1 hp3
  refine lv_aload_n F.1 F.2.1 dX6_init_15 rfl (lv_at hl 0 rfl) ?_
  refine nw_X6_7 F w (Nat.le_of_ble_eq_true rfl) (Nat.le_of_ble_eq_true rfl) dX6_init_16 (fun l2 H hl2 w => ?_)
  refine lv_dup F.1 F.2.1 dX6_init_19 rfl ?_
  refine q_mI (rest := [.ref l2, .ref q]) F w kI_X6_9 wM_X6_9 wMi_X6_9 wI_Jx4a65c rfl hd_Jx4a65c_init_da8c8 (c_ALinit l D cy A _ (mset_eq _ _ _)) dX6_init_20 rfl rfl hl.1 ⟨rfl, rfl, (Nat.le_of_ble_eq_true rfl), (Nat.le_of_ble_eq_true rfl)⟩ (Nat.le_of_ble_eq_true rfl) ⟨(Nat.le_of_ble_eq_true rfl), (Nat.le_of_ble_eq_true rfl)⟩ (fun μ1 H locs hp w => ?_)
  obtain ⟨hp1, hp2⟩ := hp
  have hp3 := fun (b : Nat) (hb : b ≠ l2) => (hp2 b hb).trans (mset_ne hb)
  refine pf_X6_16 (v := .ref l2) F w rfl hnm (hB.q hl2 hp3) rfl rfl dX6_init_23 (fun H locs w => ?_)
  obtain ⟨hB, dl2, el2⟩ := hB.step [.ref l1, .ref l2, .null, .null, .null, .int 0] hl2 hp1 hp3
  refine lv_aload_n F.1 F.2.1 dX6_init_26 rfl (lv_at hl 0 rfl) ?_
  refine nw_X6_7 F w (Nat.le_of_ble_eq_true rfl) (Nat.le_of_ble_eq_true rfl) dX6_init_27 (fun l3 H hl3 w => ?_)
  refine lv_dup F.1 F.2.1 dX6_init_30 rfl ?_
  refine q_mI (rest := [.ref l3, .ref q]) F w kI_X6_9 wM_X6_9 wMi_X6_9 wI_Jx4a65c rfl hd_Jx4a65c_init_da8c8 (c_ALinit l D cy A _ (mset_eq _ _ _)) dX6_init_31 rfl rfl hl.1 ⟨rfl, rfl, (Nat.le_of_ble_eq_true rfl), (Nat.le_of_ble_eq_true rfl)⟩ (Nat.le_of_ble_eq_true rfl) ⟨(Nat.le_of_ble_eq_true rfl), (Nat.le_of_ble_eq_true rfl)⟩ (fun μ1 H locs hp w => ?_)
  obtain ⟨hp1, hp2⟩ := hp
  have hp3 := fun (b : Nat) (hb : b ≠ l3) => (hp2 b hb).trans (mset_ne hb)
  refine pf_X6_19 (v := .ref l3) F w rfl hnm (hB.q hl3 hp3) rfl rfl dX6_init_34 (fun H locs w => ?_)
  obtain ⟨hB, dl3, el3⟩ := hB.step [.ref l1, .ref l2, .ref l3, .null, .null, .int 0] hl3 hp1 hp3
  refine lv_aload_n F.1 F.2.1 dX6_init_37 rfl (lv_at hl 0 rfl) ?_
  refine lv_iconst (v := 4) F.1 F.2.1 dX6_init_38 (by decide) ?_
  refine q_newZ F w 4 rfl (by decide) (Nat.le_of_ble_eq_true rfl) (Nat.le_of_ble_eq_true rfl) dX6_init_39 (fun a4 H ha4 w => ?_)
  refine pf_X6_22 (v := .ref a4) F w rfl hnm (hB.q ha4 (fun b hb => mset_ne hb)) rfl rfl dX6_init_41 (fun H locs w => ?_)
  obtain ⟨hB, da4, ea4⟩ := hB.step [.ref l1, .ref l2, .ref l3, .ref a4, .null, .int 0] ha4 (mset_eq _ _ _) (fun b hb => mset_ne hb)
  refine lv_aload_n F.1 F.2.1 dX6_init_44 rfl (lv_at hl 0 rfl) ?_
  refine lv_iconst (v := 4) F.1 F.2.1 dX6_init_45 (by decide) ?_
  refine q_newI F w 4 rfl (by decide) (Nat.le_of_ble_eq_true rfl) (Nat.le_of_ble_eq_true rfl) dX6_init_46 (fun a5 H ha5 w => ?_)
  refine pf_X6_26 (v := .ref a5) F w rfl hnm (hB.q ha5 (fun b hb => mset_ne hb)) rfl rfl dX6_init_48 (fun H locs w => ?_)
  obtain ⟨hB, da5, ea5⟩ := hB.step [.ref l1, .ref l2, .ref l3, .ref a4, .ref a5, .int 0] ha5 (mset_eq _ _ _) (fun b hb => mset_ne hb)
  refine lv_aload_n F.1 F.2.1 dX6_init_51 rfl (lv_at hl 0 rfl) ?_
  refine lv_iconst (v := 0) F.1 F.2.1 dX6_init_52 (by decide) ?_
  refine pf_X6_30 (v := .int 0) F w rfl hB.1 rfl rfl dX6_init_53 (fun H locs w => ?_)
  have hB := hB.put [.ref l1, .ref l2, .ref l3, .ref a4, .ref a5, .int 0]
  have ca5 := (hB.2 _ (List.mem_of_getElem? (i := 0) rfl)).1
  have ca4 := (hB.2 _ (List.mem_of_getElem? (i := 1) rfl)).1
  have cl3 := (hB.2 _ (List.mem_of_getElem? (i := 2) rfl)).1
  have cl2 := (hB.2 _ (List.mem_of_getElem? (i := 3) rfl)).1
  have cl1 := (hB.2 _ (List.mem_of_getElem? (i := 4) rfl)).1
  have na5a4 := ea5 _ (List.mem_of_getElem? (i := 0) rfl)
  have na5l3 := ea5 _ (List.mem_of_getElem? (i := 1) rfl)
  have na5l2 := ea5 _ (List.mem_of_getElem? (i := 2) rfl)
  have na5l1 := ea5 _ (List.mem_of_getElem? (i := 3) rfl)
  have na4l3 := ea4 _ (List.mem_of_getElem? (i := 0) rfl)
  have na4l2 := ea4 _ (List.mem_of_getElem? (i := 1) rfl)
  have na4l1 := ea4 _ (List.mem_of_getElem? (i := 2) rfl)
  have nl3l2 := el3 _ (List.mem_of_getElem? (i := 0) rfl)
  have nl3l1 := el3 _ (List.mem_of_getElem? (i := 1) rfl)
  have nl2l1 := el2 _ (List.mem_of_getElem? (i := 0) rfl)
  have hd : [q, l1, l2, l3, a4, a5].Nodup := by
    simp only [List.nodup_cons, List.mem_cons, List.not_mem_nil, not_or, or_false, not_false_eq_true, List.nodup_nil, and_true]
    exact ⟨⟨Ne.symm dl1, Ne.symm dl2, Ne.symm dl3, Ne.symm da4, Ne.symm da5⟩, ⟨nl2l1, nl3l1, na4l1, na5l1⟩, ⟨nl3l2, na4l2, na5l2⟩, ⟨na4l3, na5l3⟩, na5a4⟩
  refine W.widen (k := 5) (n := 17) (Nat.le_of_ble_eq_true rfl) (Nat.le_of_ble_eq_true rfl) ?_
  exact q_retV F hr hlk w ⟨AD0 q l1 l2 l3 a4 a5, rfl, rep0 hB.1 cl1 cl2 cl3 ca4 ca5 hd⟩ dX6_init_56
