def f_L_low (x1 : Int32) (x2 : Int32) : Int32 := ((x1.toUInt32 >>> ((1 : Int32).toUInt32 &&& Int32.toUInt32 31)).toInt32) - ((x1.toUInt32 >>> ((1 : Int32).toUInt32 &&& Int32.toUInt32 31)).toInt32) / x2 * x2
set_option maxHeartbeats 4000000 in
set_option maxRecDepth 100000 in
theorem c_L_low (l : Launch) (D : va_G) (cy : Nat → ClassId) (A : Nat → Prop) (μ : MU) (x1 : Int32) (x2 : Int32) (hn : ¬ x2 = 0) : Met l yL_low (WS yL_low cL_low 2 (Option.some Jvm.ClassFile.FieldType.int)) { frames := 0, cells := 0, slots := 0, locals := 0 } (va_Pc [.int x1, .int x2] (Wd D cy A μ)) (QcRead (f_L_low x1 x2)) 0 0 (fun _ => False) := by
  refine q_met (by decide) (Nat.le_of_ble_eq_true rfl) ?_
  intro p e s m below meth c F w hr hlk hnm ls hl
  have F : CallFix p m c cL_low 2 s _ BIG RL := F
  have hl : lv_has ls 2 [(0, .int x1), (1, .int x2)] := hl
  refine lv_iload_n F.1 F.2.1 dL_low_0 rfl (lv_at hl 0 rfl) ?_
  refine lv_iconst (v := 1) F.1 F.2.1 dL_low_1 (by decide) ?_
  refine lv_iushr (v := (x1.toUInt32 >>> ((1 : Int32).toUInt32 &&& Int32.toUInt32 31)).toInt32) F.1 F.2.1 dL_low_2 rfl ?_
  refine lv_iload_n F.1 F.2.1 dL_low_3 rfl (lv_at hl 1 rfl) ?_
  refine lv_irem F.1 F.2.1 dL_low_4 hn ?_
  exact q_reti F hr hlk rfl dL_low_5
def f_L_info (x1 : Int32) : Int32 := x1 >>> (13 &&& 31)
set_option maxHeartbeats 4000000 in
set_option maxRecDepth 100000 in
theorem c_L_info (l : Launch) (D : va_G) (cy : Nat → ClassId) (A : Nat → Prop) (μ : MU) (x1 : Int32) : Met l yL_info (WS yL_info cL_info 1 (Option.some Jvm.ClassFile.FieldType.int)) { frames := 0, cells := 0, slots := 0, locals := 0 } (va_Pc [.int x1] (Wd D cy A μ)) (QcRead (f_L_info x1)) 0 0 (fun _ => False) := by
  refine q_met (by decide) (Nat.le_of_ble_eq_true rfl) ?_
  intro p e s m below meth c F w hr hlk hnm ls hl
  have F : CallFix p m c cL_info 1 s _ BIG RL := F
  have hl : lv_has ls 1 [(0, .int x1)] := hl
  refine lv_iload_n F.1 F.2.1 dL_info_0 rfl (lv_at hl 0 rfl) ?_
  refine lv_bipush (v := 13) F.1 F.2.1 dL_info_1 (by decide) ?_
  refine lv_ishr F.1 F.2.1 dL_info_3 ?_
  exact q_reti F hr hlk rfl dL_info_4
def f_L_findings (x1 : Int32) : Int32 := (x1 >>> (9 &&& 31)) &&& 15
set_option maxHeartbeats 4000000 in
set_option maxRecDepth 100000 in
theorem c_L_findings (l : Launch) (D : va_G) (cy : Nat → ClassId) (A : Nat → Prop) (μ : MU) (x1 : Int32) : Met l yL_findings (WS yL_findings cL_findings 1 (Option.some Jvm.ClassFile.FieldType.int)) { frames := 0, cells := 0, slots := 0, locals := 0 } (va_Pc [.int x1] (Wd D cy A μ)) (QcRead (f_L_findings x1)) 0 0 (fun _ => False) := by
  refine q_met (by decide) (Nat.le_of_ble_eq_true rfl) ?_
  intro p e s m below meth c F w hr hlk hnm ls hl
  have F : CallFix p m c cL_findings 1 s _ BIG RL := F
  have hl : lv_has ls 1 [(0, .int x1)] := hl
  refine lv_iload_n F.1 F.2.1 dL_findings_0 rfl (lv_at hl 0 rfl) ?_
  refine lv_bipush (v := 9) F.1 F.2.1 dL_findings_1 (by decide) ?_
  refine lv_ishr F.1 F.2.1 dL_findings_3 ?_
  refine lv_bipush (v := 15) F.1 F.2.1 dL_findings_4 (by decide) ?_
  refine lv_iand F.1 F.2.1 dL_findings_6 ?_
  exact q_reti F hr hlk rfl dL_findings_7
def v_L_end_70 (S : GS) (i1 : Nat) (k27 : Nat) : Int32 := ((S 3 (3 * i1)) + (nI (365 * (k27 + 1)))) + 90
def L_L_end_27_2 (S : GS) (i1 : Nat) : Nat → Int32
  | 0 => (S 3 (3 * i1)) + (S 3 ((3 * i1) + 1))
  | k27 + 1 => if (((S 3 ((3 * i1) + 2)) >>> (2 &&& 31)) >>> ((nI (k27 + 1)) &&& 31)) &&& 1 = 0 then (if L_L_end_27_2 S i1 k27 ≤ v_L_end_70 S i1 k27 then L_L_end_27_2 S i1 k27 else v_L_end_70 S i1 k27) else L_L_end_27_2 S i1 k27
def f_L_end (S : GS) (i1 : Nat) : Int32 := L_L_end_27_2 S i1 ((cT S i1 - 1) / 365)
set_option maxHeartbeats 4000000 in
set_option maxRecDepth 100000 in
theorem c_L_end (l : Launch) (D : va_G) (cy : Nat → ClassId) (A : Nat → Prop) (μ : MU) (ad : Nat → Nat) (S : GS) (Wf : Nat → Int64) (hL : RepL cy ad S Wf μ) (i1 : Nat) (hi1 : i1 < 20) (hc : cOK S i1) : Met l yL_end (WS yL_end cL_end 6 (Option.some Jvm.ClassFile.FieldType.int)) { frames := 0, cells := 0, slots := 0, locals := 0 } (va_Pc [.int (nI i1), .ref (ad 3)] (Wd D cy A μ)) (QcRead (f_L_end S i1)) 0 0 (fun _ => False) := by
  refine q_met (by decide) (Nat.le_of_ble_eq_true rfl) ?_
  intro p e s m below meth c F w hr hlk hnm ls hl
  have F : CallFix p m c cL_end 6 s _ BIG RL := F
  have hl : lv_has ls 6 [(0, .int (nI i1)), (1, .ref (ad 3))] := hl
  have hT := hc.2.2.2.2
  refine lv_aload_n F.1 F.2.1 dL_end_0 rfl (lv_at hl 1 rfl) ?_
  refine lv_iconst (v := 3) F.1 F.2.1 dL_end_1 (by decide) ?_
  refine lv_iload_n F.1 F.2.1 dL_end_2 rfl (lv_at hl 0 rfl) ?_
  refine lv_imul F.1 F.2.1 dL_end_3 ?_
  refine lv_fold (y := nI (3 * i1)) (pk_mul 3 i1) ?_
  refine l_ild F w hL 3 rfl (3 * i1) (show 3 * i1 < 60 by omega) dL_end_4 ?_
  refine lv_aload_n F.1 F.2.1 dL_end_5 rfl (lv_at hl 1 rfl) ?_
  refine lv_iconst (v := 3) F.1 F.2.1 dL_end_6 (by decide) ?_
  refine lv_iload_n F.1 F.2.1 dL_end_7 rfl (lv_at hl 0 rfl) ?_
  refine lv_imul F.1 F.2.1 dL_end_8 ?_
  refine lv_fold (y := nI (3 * i1)) (pk_mul 3 i1) ?_
  refine lv_iconst (v := 1) F.1 F.2.1 dL_end_9 (by decide) ?_
  refine lv_iadd F.1 F.2.1 dL_end_10 ?_
  refine lv_fold (y := nI ((3 * i1) + 1)) (nI_add (3 * i1) 1) ?_
  refine l_ild F w hL 3 rfl ((3 * i1) + 1) (show (3 * i1) + 1 < 60 by omega) dL_end_11 ?_
  refine lv_iadd F.1 F.2.1 dL_end_12 ?_
  refine lv_istore_n (lv' := [(2, .int ((S 3 (3 * i1)) + (S 3 ((3 * i1) + 1)))), (0, .int (nI i1)), (1, .ref (ad 3))]) F.1 F.2.1 dL_end_13 rfl hl (by decide) rfl (fun ls hl => ?_)
  refine lv_aload_n F.1 F.2.1 dL_end_14 rfl (lv_at hl 2 rfl) ?_
  refine lv_iconst (v := 3) F.1 F.2.1 dL_end_15 (by decide) ?_
  refine lv_iload_n F.1 F.2.1 dL_end_16 rfl (lv_at hl 1 rfl) ?_
  refine lv_imul F.1 F.2.1 dL_end_17 ?_
  refine lv_fold (y := nI (3 * i1)) (pk_mul 3 i1) ?_
  refine lv_iconst (v := 2) F.1 F.2.1 dL_end_18 (by decide) ?_
  refine lv_iadd F.1 F.2.1 dL_end_19 ?_
  refine lv_fold (y := nI ((3 * i1) + 2)) (nI_add (3 * i1) 2) ?_
  refine l_ild F w hL 3 rfl ((3 * i1) + 2) (show (3 * i1) + 2 < 60 by omega) dL_end_20 ?_
  refine lv_iconst (v := 2) F.1 F.2.1 dL_end_21 (by decide) ?_
  refine lv_ishr F.1 F.2.1 dL_end_22 ?_
  refine lv_istore_n (lv' := [(3, .int ((S 3 ((3 * i1) + 2)) >>> (2 &&& 31))), (2, .int ((S 3 (3 * i1)) + (S 3 ((3 * i1) + 1)))), (0, .int (nI i1)), (1, .ref (ad 3))]) F.1 F.2.1 dL_end_23 rfl hl (by decide) rfl (fun ls hl => ?_)
  refine lv_iconst (v := 1) F.1 F.2.1 dL_end_24 (by decide) ?_
  refine lv_istore (lv' := [(4, .int 1), (3, .int ((S 3 ((3 * i1) + 2)) >>> (2 &&& 31))), (2, .int ((S 3 (3 * i1)) + (S 3 ((3 * i1) + 1)))), (0, .int (nI i1)), (1, .ref (ad 3))]) F.1 F.2.1 dL_end_25 hl (by decide) rfl (fun ls hl => ?_)
  refine q_loop (P := fun k27 ls => lv_has ls 6 [(4, .int (nI (k27 + 1))), (3, .int ((S 3 ((3 * i1) + 2)) >>> (2 &&& 31))), (2, .int (L_L_end_27_2 S i1 k27)), (0, .int (nI i1)), (1, .ref (ad 3))]) ((cT S i1 - 1) / 365) (fun k27 ls hk27 hl ih27 => ?_) 0 ls (Nat.zero_le _) (lv_cg (lv_sub hl [0, 1, 2, 3, 4] rfl) rfl)
  refine lv_aload_n F.1 F.2.1 dL_end_27 rfl (lv_at hl 4 rfl) ?_
  refine lv_iconst (v := 3) F.1 F.2.1 dL_end_28 (by decide) ?_
  refine lv_iload_n F.1 F.2.1 dL_end_29 rfl (lv_at hl 3 rfl) ?_
  refine lv_imul F.1 F.2.1 dL_end_30 ?_
  refine lv_fold (y := nI (3 * i1)) (pk_mul 3 i1) ?_
  refine l_ild F w hL 3 rfl (3 * i1) (show 3 * i1 < 60 by omega) dL_end_31 ?_
  refine lv_sipush (v := 365) F.1 F.2.1 dL_end_32 (by decide) ?_
  refine lv_iload F.1 F.2.1 dL_end_35 (lv_at hl 0 rfl) ?_
  refine lv_imul F.1 F.2.1 dL_end_37 ?_
  refine lv_fold (y := nI (365 * (k27 + 1))) (pk_mul 365 (k27 + 1)) ?_
  refine lv_iadd F.1 F.2.1 dL_end_38 ?_
  refine lv_aload_n F.1 F.2.1 dL_end_39 rfl (lv_at hl 4 rfl) ?_
  refine lv_iconst (v := 3) F.1 F.2.1 dL_end_40 (by decide) ?_
  refine lv_iload_n F.1 F.2.1 dL_end_41 rfl (lv_at hl 3 rfl) ?_
  refine lv_imul F.1 F.2.1 dL_end_42 ?_
  refine lv_fold (y := nI (3 * i1)) (pk_mul 3 i1) ?_
  refine l_ild F w hL 3 rfl (3 * i1) (show 3 * i1 < 60 by omega) dL_end_43 ?_
  refine lv_aload_n F.1 F.2.1 dL_end_44 rfl (lv_at hl 4 rfl) ?_
  refine lv_iconst (v := 3) F.1 F.2.1 dL_end_45 (by decide) ?_
  refine lv_iload_n F.1 F.2.1 dL_end_46 rfl (lv_at hl 3 rfl) ?_
  refine lv_imul F.1 F.2.1 dL_end_47 ?_
  refine lv_fold (y := nI (3 * i1)) (pk_mul 3 i1) ?_
  refine lv_iconst (v := 1) F.1 F.2.1 dL_end_48 (by decide) ?_
  refine lv_iadd F.1 F.2.1 dL_end_49 ?_
  refine lv_fold (y := nI ((3 * i1) + 1)) (nI_add (3 * i1) 1) ?_
  refine l_ild F w hL 3 rfl ((3 * i1) + 1) (show (3 * i1) + 1 < 60 by omega) dL_end_50 ?_
  refine lv_iadd F.1 F.2.1 dL_end_51 ?_
  refine lv_icmp_ge (tgt := 96) F.1 F.2.1 dL_end_52 (by decide) (fun c_1 => ?_) (fun c_1 => ?_)
  rotate_left
  · have hlt27 : k27 < ((cT S i1 - 1) / 365) := GE_lt hc c_1 hk27
    refine lv_aload_n F.1 F.2.1 dL_end_55 rfl (lv_at hl 4 rfl) ?_
    refine lv_iconst (v := 3) F.1 F.2.1 dL_end_56 (by decide) ?_
    refine lv_iload_n F.1 F.2.1 dL_end_57 rfl (lv_at hl 3 rfl) ?_
    refine lv_imul F.1 F.2.1 dL_end_58 ?_
    refine lv_fold (y := nI (3 * i1)) (pk_mul 3 i1) ?_
    refine l_ild F w hL 3 rfl (3 * i1) (show 3 * i1 < 60 by omega) dL_end_59 ?_
    refine lv_sipush (v := 365) F.1 F.2.1 dL_end_60 (by decide) ?_
    refine lv_iload F.1 F.2.1 dL_end_63 (lv_at hl 0 rfl) ?_
    refine lv_imul F.1 F.2.1 dL_end_65 ?_
    refine lv_fold (y := nI (365 * (k27 + 1))) (pk_mul 365 (k27 + 1)) ?_
    refine lv_iadd F.1 F.2.1 dL_end_66 ?_
    refine lv_bipush (v := 90) F.1 F.2.1 dL_end_67 (by decide) ?_
    refine lv_iadd F.1 F.2.1 dL_end_69 ?_
    refine lv_fold (y := v_L_end_70 S i1 k27) rfl ?_
    refine lv_istore (lv' := [(5, .int (v_L_end_70 S i1 k27)), (4, .int (nI (k27 + 1))), (3, .int ((S 3 ((3 * i1) + 2)) >>> (2 &&& 31))), (2, .int (L_L_end_27_2 S i1 k27)), (0, .int (nI i1)), (1, .ref (ad 3))]) F.1 F.2.1 dL_end_70 hl (by decide) rfl (fun ls hl => ?_)
    refine lv_iload_n F.1 F.2.1 dL_end_72 rfl (lv_at hl 2 rfl) ?_
    refine lv_iload F.1 F.2.1 dL_end_73 (lv_at hl 1 rfl) ?_
    refine lv_ishr F.1 F.2.1 dL_end_75 ?_
    refine lv_iconst (v := 1) F.1 F.2.1 dL_end_76 (by decide) ?_
    refine lv_iand F.1 F.2.1 dL_end_77 ?_
    refine jnl (m := m) 6 [(5, .int (v_L_end_70 S i1 k27)), (4, .int (nI (k27 + 1))), (3, .int ((S 3 ((3 * i1) + 2)) >>> (2 &&& 31))), (2, .int (if (((S 3 ((3 * i1) + 2)) >>> (2 &&& 31)) >>> ((nI (k27 + 1)) &&& 31)) &&& 1 = 0 then (if L_L_end_27_2 S i1 k27 ≤ v_L_end_70 S i1 k27 then L_L_end_27_2 S i1 k27 else v_L_end_70 S i1 k27) else L_L_end_27_2 S i1 k27)), (0, .int (nI i1)), (1, .ref (ad 3))] [] 90 (fun J_2 => ?_) ?_
    · refine lv_if_ne (tgt := 90) F.1 F.2.1 dL_end_78 (by decide) (fun c_3 => ?_) (fun c_3 => ?_)
      · exact J_2 ls (lv_sub hl [0, 1, 2, 3, 4, 5] (by rw [((if_neg c_3) : (if (((S 3 ((3 * i1) + 2)) >>> (2 &&& 31)) >>> ((nI (k27 + 1)) &&& 31)) &&& 1 = 0 then (if L_L_end_27_2 S i1 k27 ≤ v_L_end_70 S i1 k27 then L_L_end_27_2 S i1 k27 else v_L_end_70 S i1 k27) else L_L_end_27_2 S i1 k27) = L_L_end_27_2 S i1 k27)] <;> rfl))
      · refine lv_iload F.1 F.2.1 dL_end_81 (lv_at hl 0 rfl) ?_
        refine lv_iload_n F.1 F.2.1 dL_end_83 rfl (lv_at hl 3 rfl) ?_
        refine lv_icmp_ge (tgt := 90) F.1 F.2.1 dL_end_84 (by decide) (fun c_4 => ?_) (fun c_4 => ?_)
        · exact J_2 ls (lv_sub hl [0, 1, 2, 3, 4, 5] (by rw [(((if_pos c_3).trans (if_pos c_4)) : (if (((S 3 ((3 * i1) + 2)) >>> (2 &&& 31)) >>> ((nI (k27 + 1)) &&& 31)) &&& 1 = 0 then (if L_L_end_27_2 S i1 k27 ≤ v_L_end_70 S i1 k27 then L_L_end_27_2 S i1 k27 else v_L_end_70 S i1 k27) else L_L_end_27_2 S i1 k27) = L_L_end_27_2 S i1 k27)] <;> rfl))
        · refine lv_iload F.1 F.2.1 dL_end_87 (lv_at hl 0 rfl) ?_
          refine lv_istore_n (lv' := [(2, .int (v_L_end_70 S i1 k27)), (5, .int (v_L_end_70 S i1 k27)), (4, .int (nI (k27 + 1))), (3, .int ((S 3 ((3 * i1) + 2)) >>> (2 &&& 31))), (0, .int (nI i1)), (1, .ref (ad 3))]) F.1 F.2.1 dL_end_89 rfl hl (by decide) rfl (fun ls hl => ?_)
          exact J_2 ls (lv_sub hl [1, 2, 3, 0, 4, 5] (by rw [(((if_pos c_3).trans (if_neg c_4)) : (if (((S 3 ((3 * i1) + 2)) >>> (2 &&& 31)) >>> ((nI (k27 + 1)) &&& 31)) &&& 1 = 0 then (if L_L_end_27_2 S i1 k27 ≤ v_L_end_70 S i1 k27 then L_L_end_27_2 S i1 k27 else v_L_end_70 S i1 k27) else L_L_end_27_2 S i1 k27) = v_L_end_70 S i1 k27)] <;> rfl))
    intro ls hl
    refine lv_iinc (v := nI (k27 + 1 + 1)) (lv' := [(4, .int (nI (k27 + 1 + 1))), (5, .int (v_L_end_70 S i1 k27)), (3, .int ((S 3 ((3 * i1) + 2)) >>> (2 &&& 31))), (2, .int (if (((S 3 ((3 * i1) + 2)) >>> (2 &&& 31)) >>> ((nI (k27 + 1)) &&& 31)) &&& 1 = 0 then (if L_L_end_27_2 S i1 k27 ≤ v_L_end_70 S i1 k27 then L_L_end_27_2 S i1 k27 else v_L_end_70 S i1 k27) else L_L_end_27_2 S i1 k27)), (0, .int (nI i1)), (1, .ref (ad 3))]) F.1 F.2.1 dL_end_90 hl (k := 1) rfl (nI_1 _) (by decide) rfl (fun ls hl => ?_)
    refine lv_goto (tgt := 27) F.1 F.2.1 dL_end_93 (by decide) ?_
    exact ih27 ls hlt27 (lv_sub hl [0, 2, 3, 4, 5] rfl)
  have hkn27 : k27 = ((cT S i1 - 1) / 365) := GE_le hc c_1 hk27
  subst hkn27
  refine lv_iload_n F.1 F.2.1 dL_end_96 rfl (lv_at hl 2 rfl) ?_
  exact q_reti F hr hlk rfl dL_end_97
def v_L_lapsed_67 (S : GS) (i1 : Nat) (k5 : Nat) : Int32 := if S 3 (3 * ((5 * i1) + k5)) = (-1) then 1 else (if f_L_end S ((5 * i1) + k5) < S 10 0 then 1 else (if ((S 10 7) >>> (((S 3 (3 * ((5 * i1) + k5) + 2)) &&& 3) &&& 31)) &&& 1 = 1 then 1 else 0))
theorem nz_v_L_lapsed_67 (S : GS) (i1 : Nat) (k5 : Nat) : nz (v_L_lapsed_67 S i1 k5) := (nz_ite nz1 (nz_ite nz1 (nz_ite nz1 nz0)))
def L_L_lapsed_5_3 (S : GS) (i1 : Nat) : Nat → Int32
  | 0 => 0
  | k5 + 1 => (L_L_lapsed_5_3 S i1 k5) ||| (if (if nI k5 = 2 then (if nI k5 = 1 then (v_L_lapsed_67 S i1 k5) ||| (if (L_L_lapsed_5_3 S i1 k5) &&& 1 = 1 then 1 else 0) else (if nI k5 = 3 then (v_L_lapsed_67 S i1 k5) ||| (if (L_L_lapsed_5_3 S i1 k5) &&& 1 = 1 then 1 else 0) else v_L_lapsed_67 S i1 k5)) ||| (if (L_L_lapsed_5_3 S i1 k5) &&& 2 = 2 then 1 else 0) else (if nI k5 = 1 then (v_L_lapsed_67 S i1 k5) ||| (if (L_L_lapsed_5_3 S i1 k5) &&& 1 = 1 then 1 else 0) else (if nI k5 = 3 then (v_L_lapsed_67 S i1 k5) ||| (if (L_L_lapsed_5_3 S i1 k5) &&& 1 = 1 then 1 else 0) else v_L_lapsed_67 S i1 k5)) : Int32) = 0 then 0 else (1 : Int32) <<< ((nI k5) &&& 31))
def f_L_lapsed (S : GS) (i1 : Nat) : Int32 := L_L_lapsed_5_3 S i1 5
set_option maxHeartbeats 4000000 in
set_option maxRecDepth 100000 in
theorem c_L_lapsed (l : Launch) (D : va_G) (cy : Nat → ClassId) (A : Nat → Prop) (μ : MU) (ad : Nat → Nat) (S : GS) (Wf : Nat → Int64) (hL : RepL cy ad S Wf μ) (i1 : Nat) (hi1 : i1 < 4) (hc : ∀ k, k < 20 → ¬ S 3 (3 * k) = -1 → cOK S k) : Met l yL_lapsed (WS yL_lapsed cL_lapsed 7 (Option.some Jvm.ClassFile.FieldType.int)) { frames := 1, cells := 0, slots := 0, locals := 25 } (va_Pc [.int (nI i1), .ref (ad 3), .ref (ad 10)] (Wd D cy A μ)) (QcRead (f_L_lapsed S i1)) 0 0 (fun _ => False) := by
  refine q_met (by decide) (Nat.le_of_ble_eq_true rfl) ?_
  intro p e s m below meth c F w hr hlk hnm ls hl
  have F : CallFix p m c cL_lapsed 7 s _ BIG RL := F
  have hl : lv_has ls 7 [(0, .int (nI i1)), (1, .ref (ad 3)), (2, .ref (ad 10))] := hl
  refine lv_iconst (v := 0) F.1 F.2.1 dL_lapsed_0 (by decide) ?_
  refine lv_istore_n (lv' := [(3, .int 0), (0, .int (nI i1)), (1, .ref (ad 3)), (2, .ref (ad 10))]) F.1 F.2.1 dL_lapsed_1 rfl hl (by decide) rfl (fun ls hl => ?_)
  refine lv_iconst (v := 0) F.1 F.2.1 dL_lapsed_2 (by decide) ?_
  refine lv_istore (lv' := [(4, .int 0), (3, .int 0), (0, .int (nI i1)), (1, .ref (ad 3)), (2, .ref (ad 10))]) F.1 F.2.1 dL_lapsed_3 hl (by decide) rfl (fun ls hl => ?_)
  refine q_loop (P := fun k5 ls => lv_has ls 7 [(4, .int (nI k5)), (3, .int (L_L_lapsed_5_3 S i1 k5)), (0, .int (nI i1)), (1, .ref (ad 3)), (2, .ref (ad 10))]) 5 (fun k5 ls hk5 hl ih5 => ?_) 0 ls (Nat.zero_le _) (lv_cg (lv_sub hl [0, 1, 2, 3, 4] rfl) rfl)
  refine lv_iload F.1 F.2.1 dL_lapsed_5 (lv_at hl 0 rfl) ?_
  refine lv_iconst (v := 5) F.1 F.2.1 dL_lapsed_7 (by decide) ?_
  refine lv_icmp_ge (tgt := 143) F.1 F.2.1 dL_lapsed_8 (by decide) (fun c_1 => ?_) (fun c_1 => ?_)
  rotate_left
  · have hlt5 : k5 < 5 := GB_ilt (n := 5) rfl (by decide) hk5 c_1
    refine lv_iconst (v := 5) F.1 F.2.1 dL_lapsed_11 (by decide) ?_
    refine lv_iload_n F.1 F.2.1 dL_lapsed_12 rfl (lv_at hl 2 rfl) ?_
    refine lv_imul F.1 F.2.1 dL_lapsed_13 ?_
    refine lv_fold (y := nI (5 * i1)) (pk_mul 5 i1) ?_
    refine lv_iload F.1 F.2.1 dL_lapsed_14 (lv_at hl 0 rfl) ?_
    refine lv_iadd F.1 F.2.1 dL_lapsed_16 ?_
    refine lv_fold (y := nI ((5 * i1) + k5)) (nI_add _ _) ?_
    refine lv_istore (lv' := [(5, .int (nI ((5 * i1) + k5))), (4, .int (nI k5)), (3, .int (L_L_lapsed_5_3 S i1 k5)), (0, .int (nI i1)), (1, .ref (ad 3)), (2, .ref (ad 10))]) F.1 F.2.1 dL_lapsed_17 hl (by decide) rfl (fun ls hl => ?_)
    refine lv_aload_n F.1 F.2.1 dL_lapsed_19 rfl (lv_at hl 4 rfl) ?_
    refine lv_iconst (v := 3) F.1 F.2.1 dL_lapsed_20 (by decide) ?_
    refine lv_iload F.1 F.2.1 dL_lapsed_21 (lv_at hl 0 rfl) ?_
    refine lv_imul F.1 F.2.1 dL_lapsed_23 ?_
    refine lv_fold (y := nI (3 * ((5 * i1) + k5))) (pk_mul 3 ((5 * i1) + k5)) ?_
    refine l_ild F w hL 3 rfl (3 * ((5 * i1) + k5)) (show 3 * ((5 * i1) + k5) < 60 by omega) dL_lapsed_24 ?_
    refine lv_iconst (v := -1) F.1 F.2.1 dL_lapsed_25 (by decide) ?_
    refine jn0 (m := m) (ls := ls) (rest := []) (if S 3 (3 * ((5 * i1) + k5)) = (-1) then 1 else (if f_L_end S ((5 * i1) + k5) < S 10 0 then 1 else (if ((S 10 7) >>> (((S 3 (3 * ((5 * i1) + k5) + 2)) &&& 3) &&& 31)) &&& 1 = 1 then 1 else 0))) 67 (fun J_2 => ?_) ?_
    · refine lv_icmp_eq (tgt := 62) F.1 F.2.1 dL_lapsed_26 (by decide) (fun c_3 => ?_) (fun c_3 => ?_)
      · refine lv_iconst (v := 1) F.1 F.2.1 dL_lapsed_62 (by decide) ?_
        refine lv_goto (tgt := 67) F.1 F.2.1 dL_lapsed_63 (by decide) ?_
        exact jn_a (if_pos c_3) J_2
      · refine lv_iload F.1 F.2.1 dL_lapsed_29 (lv_at hl 0 rfl) ?_
        refine lv_aload_n F.1 F.2.1 dL_lapsed_31 rfl (lv_at hl 4 rfl) ?_
        refine q_rS (rest := []) F w kS_L_97 hd_L_end (c_L_end l D cy A _ ad S Wf hL ((5 * i1) + k5) (show (5 * i1) + k5 < 20 by omega) (hc _ (by omega) c_3)) dL_lapsed_32 rfl rfl hl.1 ⟨rfl, rfl, Nat.le_of_ble_eq_true rfl, Nat.le_of_ble_eq_true rfl⟩ (Nat.le_of_ble_eq_true rfl) ⟨Nat.zero_le _, Nat.zero_le _⟩ ?_
        refine lv_aload_n F.1 F.2.1 dL_lapsed_35 rfl (lv_at hl 5 rfl) ?_
        refine lv_iconst (v := 0) F.1 F.2.1 dL_lapsed_36 (by decide) ?_
        refine l_ild F w hL 10 rfl 0 (show 0 < 9 by omega) dL_lapsed_37 ?_
        refine lv_icmp_lt (tgt := 62) F.1 F.2.1 dL_lapsed_38 (by decide) (fun c_4 => ?_) (fun c_4 => ?_)
        · refine lv_iconst (v := 1) F.1 F.2.1 dL_lapsed_62 (by decide) ?_
          refine lv_goto (tgt := 67) F.1 F.2.1 dL_lapsed_63 (by decide) ?_
          exact jn_a ((if_neg c_3).trans (if_pos c_4)) J_2
        · refine lv_aload_n F.1 F.2.1 dL_lapsed_41 rfl (lv_at hl 5 rfl) ?_
          refine lv_bipush (v := 7) F.1 F.2.1 dL_lapsed_42 (by decide) ?_
          refine l_ild F w hL 10 rfl 7 (show 7 < 9 by omega) dL_lapsed_44 ?_
          refine lv_aload_n F.1 F.2.1 dL_lapsed_45 rfl (lv_at hl 4 rfl) ?_
          refine lv_iconst (v := 3) F.1 F.2.1 dL_lapsed_46 (by decide) ?_
          refine lv_iload F.1 F.2.1 dL_lapsed_47 (lv_at hl 0 rfl) ?_
          refine lv_imul F.1 F.2.1 dL_lapsed_49 ?_
          refine lv_fold (y := nI (3 * ((5 * i1) + k5))) (pk_mul 3 ((5 * i1) + k5)) ?_
          refine lv_iconst (v := 2) F.1 F.2.1 dL_lapsed_50 (by decide) ?_
          refine lv_iadd F.1 F.2.1 dL_lapsed_51 ?_
          refine lv_fold (y := nI (3 * ((5 * i1) + k5) + 2)) (nI_add (3 * ((5 * i1) + k5)) 2) ?_
          refine l_ild F w hL 3 rfl (3 * ((5 * i1) + k5) + 2) (show 3 * ((5 * i1) + k5) + 2 < 60 by omega) dL_lapsed_52 ?_
          refine lv_iconst (v := 3) F.1 F.2.1 dL_lapsed_53 (by decide) ?_
          refine lv_iand F.1 F.2.1 dL_lapsed_54 ?_
          refine lv_ishr F.1 F.2.1 dL_lapsed_55 ?_
          refine lv_iconst (v := 1) F.1 F.2.1 dL_lapsed_56 (by decide) ?_
          refine lv_iand F.1 F.2.1 dL_lapsed_57 ?_
          refine lv_iconst (v := 1) F.1 F.2.1 dL_lapsed_58 (by decide) ?_
          refine lv_icmp_ne (tgt := 66) F.1 F.2.1 dL_lapsed_59 (by decide) (fun c_5 => ?_) (fun c_5 => ?_)
          · refine lv_iconst (v := 0) F.1 F.2.1 dL_lapsed_66 (by decide) ?_
            exact jn_a ((if_neg c_3).trans ((if_neg c_4).trans (if_neg c_5))) J_2
          · refine lv_iconst (v := 1) F.1 F.2.1 dL_lapsed_62 (by decide) ?_
            refine lv_goto (tgt := 67) F.1 F.2.1 dL_lapsed_63 (by decide) ?_
            exact jn_a ((if_neg c_3).trans ((if_neg c_4).trans (if_pos c_5))) J_2
    refine lv_fold (y := v_L_lapsed_67 S i1 k5) rfl ?_
    refine lv_istore (lv' := [(6, .int (v_L_lapsed_67 S i1 k5)), (5, .int (nI ((5 * i1) + k5))), (4, .int (nI k5)), (3, .int (L_L_lapsed_5_3 S i1 k5)), (0, .int (nI i1)), (1, .ref (ad 3)), (2, .ref (ad 10))]) F.1 F.2.1 dL_lapsed_67 hl (by decide) rfl (fun ls hl => ?_)
    refine lv_iload F.1 F.2.1 dL_lapsed_69 (lv_at hl 2 rfl) ?_
    refine lv_iconst (v := 1) F.1 F.2.1 dL_lapsed_71 (by decide) ?_
    refine jnl (m := m) 7 [(6, .int (if nI k5 = 1 then (v_L_lapsed_67 S i1 k5) ||| (if (L_L_lapsed_5_3 S i1 k5) &&& 1 = 1 then 1 else 0) else (if nI k5 = 3 then (v_L_lapsed_67 S i1 k5) ||| (if (L_L_lapsed_5_3 S i1 k5) &&& 1 = 1 then 1 else 0) else v_L_lapsed_67 S i1 k5))), (5, .int (nI ((5 * i1) + k5))), (4, .int (nI k5)), (3, .int (L_L_lapsed_5_3 S i1 k5)), (0, .int (nI i1)), (1, .ref (ad 3)), (2, .ref (ad 10))] [] 98 (fun J_6 => ?_) ?_
    · refine lv_icmp_eq (tgt := 81) F.1 F.2.1 dL_lapsed_72 (by decide) (fun c_7 => ?_) (fun c_7 => ?_)
      · refine lv_iload F.1 F.2.1 dL_lapsed_81 (lv_at hl 0 rfl) ?_
        refine lv_iload_n F.1 F.2.1 dL_lapsed_83 rfl (lv_at hl 3 rfl) ?_
        refine lv_iconst (v := 1) F.1 F.2.1 dL_lapsed_84 (by decide) ?_
        refine lv_iand F.1 F.2.1 dL_lapsed_85 ?_
        refine lv_iconst (v := 1) F.1 F.2.1 dL_lapsed_86 (by decide) ?_
        refine jn0 (m := m) (ls := ls) (rest := [.int (v_L_lapsed_67 S i1 k5)]) (if (L_L_lapsed_5_3 S i1 k5) &&& 1 = 1 then 1 else 0) 95 (fun J_8 => ?_) ?_
        · refine lv_icmp_ne (tgt := 94) F.1 F.2.1 dL_lapsed_87 (by decide) (fun c_9 => ?_) (fun c_9 => ?_)
          · refine lv_iconst (v := 0) F.1 F.2.1 dL_lapsed_94 (by decide) ?_
            exact jn_a (if_neg c_9) J_8
          · refine lv_iconst (v := 1) F.1 F.2.1 dL_lapsed_90 (by decide) ?_
            refine lv_goto (tgt := 95) F.1 F.2.1 dL_lapsed_91 (by decide) ?_
            exact jn_a (if_pos c_9) J_8
        refine lv_ior F.1 F.2.1 dL_lapsed_95 ?_
        refine lv_istore (lv' := [(6, .int ((v_L_lapsed_67 S i1 k5) ||| (if (L_L_lapsed_5_3 S i1 k5) &&& 1 = 1 then 1 else 0))), (5, .int (nI ((5 * i1) + k5))), (4, .int (nI k5)), (3, .int (L_L_lapsed_5_3 S i1 k5)), (0, .int (nI i1)), (1, .ref (ad 3)), (2, .ref (ad 10))]) F.1 F.2.1 dL_lapsed_96 hl (by decide) rfl (fun ls hl => ?_)
        exact J_6 ls (lv_sub hl [0, 1, 2, 3, 4, 5, 6] (by rw [((if_pos c_7) : (if nI k5 = 1 then (v_L_lapsed_67 S i1 k5) ||| (if (L_L_lapsed_5_3 S i1 k5) &&& 1 = 1 then 1 else 0) else (if nI k5 = 3 then (v_L_lapsed_67 S i1 k5) ||| (if (L_L_lapsed_5_3 S i1 k5) &&& 1 = 1 then 1 else 0) else v_L_lapsed_67 S i1 k5)) = (v_L_lapsed_67 S i1 k5) ||| (if (L_L_lapsed_5_3 S i1 k5) &&& 1 = 1 then 1 else 0))] <;> rfl))
      · refine lv_iload F.1 F.2.1 dL_lapsed_75 (lv_at hl 2 rfl) ?_
        refine lv_iconst (v := 3) F.1 F.2.1 dL_lapsed_77 (by decide) ?_
        refine lv_icmp_ne (tgt := 98) F.1 F.2.1 dL_lapsed_78 (by decide) (fun c_10 => ?_) (fun c_10 => ?_)
        · exact J_6 ls (lv_sub hl [0, 1, 2, 3, 4, 5, 6] (by rw [(((if_neg c_7).trans (if_neg c_10)) : (if nI k5 = 1 then (v_L_lapsed_67 S i1 k5) ||| (if (L_L_lapsed_5_3 S i1 k5) &&& 1 = 1 then 1 else 0) else (if nI k5 = 3 then (v_L_lapsed_67 S i1 k5) ||| (if (L_L_lapsed_5_3 S i1 k5) &&& 1 = 1 then 1 else 0) else v_L_lapsed_67 S i1 k5)) = v_L_lapsed_67 S i1 k5)] <;> rfl))
        · refine lv_iload F.1 F.2.1 dL_lapsed_81 (lv_at hl 0 rfl) ?_
          refine lv_iload_n F.1 F.2.1 dL_lapsed_83 rfl (lv_at hl 3 rfl) ?_
          refine lv_iconst (v := 1) F.1 F.2.1 dL_lapsed_84 (by decide) ?_
          refine lv_iand F.1 F.2.1 dL_lapsed_85 ?_
          refine lv_iconst (v := 1) F.1 F.2.1 dL_lapsed_86 (by decide) ?_
          refine jn0 (m := m) (ls := ls) (rest := [.int (v_L_lapsed_67 S i1 k5)]) (if (L_L_lapsed_5_3 S i1 k5) &&& 1 = 1 then 1 else 0) 95 (fun J_11 => ?_) ?_
          · refine lv_icmp_ne (tgt := 94) F.1 F.2.1 dL_lapsed_87 (by decide) (fun c_12 => ?_) (fun c_12 => ?_)
            · refine lv_iconst (v := 0) F.1 F.2.1 dL_lapsed_94 (by decide) ?_
              exact jn_a (if_neg c_12) J_11
            · refine lv_iconst (v := 1) F.1 F.2.1 dL_lapsed_90 (by decide) ?_
              refine lv_goto (tgt := 95) F.1 F.2.1 dL_lapsed_91 (by decide) ?_
              exact jn_a (if_pos c_12) J_11
          refine lv_ior F.1 F.2.1 dL_lapsed_95 ?_
          refine lv_istore (lv' := [(6, .int ((v_L_lapsed_67 S i1 k5) ||| (if (L_L_lapsed_5_3 S i1 k5) &&& 1 = 1 then 1 else 0))), (5, .int (nI ((5 * i1) + k5))), (4, .int (nI k5)), (3, .int (L_L_lapsed_5_3 S i1 k5)), (0, .int (nI i1)), (1, .ref (ad 3)), (2, .ref (ad 10))]) F.1 F.2.1 dL_lapsed_96 hl (by decide) rfl (fun ls hl => ?_)
          exact J_6 ls (lv_sub hl [0, 1, 2, 3, 4, 5, 6] (by rw [(((if_neg c_7).trans (if_pos c_10)) : (if nI k5 = 1 then (v_L_lapsed_67 S i1 k5) ||| (if (L_L_lapsed_5_3 S i1 k5) &&& 1 = 1 then 1 else 0) else (if nI k5 = 3 then (v_L_lapsed_67 S i1 k5) ||| (if (L_L_lapsed_5_3 S i1 k5) &&& 1 = 1 then 1 else 0) else v_L_lapsed_67 S i1 k5)) = (v_L_lapsed_67 S i1 k5) ||| (if (L_L_lapsed_5_3 S i1 k5) &&& 1 = 1 then 1 else 0))] <;> rfl))
    intro ls hl
    refine lv_iload F.1 F.2.1 dL_lapsed_98 (lv_at hl 2 rfl) ?_
    refine lv_iconst (v := 2) F.1 F.2.1 dL_lapsed_100 (by decide) ?_
    refine jnl (m := m) 7 [(6, .int (if nI k5 = 2 then (if nI k5 = 1 then (v_L_lapsed_67 S i1 k5) ||| (if (L_L_lapsed_5_3 S i1 k5) &&& 1 = 1 then 1 else 0) else (if nI k5 = 3 then (v_L_lapsed_67 S i1 k5) ||| (if (L_L_lapsed_5_3 S i1 k5) &&& 1 = 1 then 1 else 0) else v_L_lapsed_67 S i1 k5)) ||| (if (L_L_lapsed_5_3 S i1 k5) &&& 2 = 2 then 1 else 0) else (if nI k5 = 1 then (v_L_lapsed_67 S i1 k5) ||| (if (L_L_lapsed_5_3 S i1 k5) &&& 1 = 1 then 1 else 0) else (if nI k5 = 3 then (v_L_lapsed_67 S i1 k5) ||| (if (L_L_lapsed_5_3 S i1 k5) &&& 1 = 1 then 1 else 0) else v_L_lapsed_67 S i1 k5)))), (5, .int (nI ((5 * i1) + k5))), (4, .int (nI k5)), (3, .int (L_L_lapsed_5_3 S i1 k5)), (0, .int (nI i1)), (1, .ref (ad 3)), (2, .ref (ad 10))] [] 121 (fun J_13 => ?_) ?_
    · refine lv_icmp_ne (tgt := 121) F.1 F.2.1 dL_lapsed_101 (by decide) (fun c_14 => ?_) (fun c_14 => ?_)
      · exact J_13 ls (lv_sub hl [0, 1, 2, 3, 4, 5, 6] (by rw [((if_neg c_14) : (if nI k5 = 2 then (if nI k5 = 1 then (v_L_lapsed_67 S i1 k5) ||| (if (L_L_lapsed_5_3 S i1 k5) &&& 1 = 1 then 1 else 0) else (if nI k5 = 3 then (v_L_lapsed_67 S i1 k5) ||| (if (L_L_lapsed_5_3 S i1 k5) &&& 1 = 1 then 1 else 0) else v_L_lapsed_67 S i1 k5)) ||| (if (L_L_lapsed_5_3 S i1 k5) &&& 2 = 2 then 1 else 0) else (if nI k5 = 1 then (v_L_lapsed_67 S i1 k5) ||| (if (L_L_lapsed_5_3 S i1 k5) &&& 1 = 1 then 1 else 0) else (if nI k5 = 3 then (v_L_lapsed_67 S i1 k5) ||| (if (L_L_lapsed_5_3 S i1 k5) &&& 1 = 1 then 1 else 0) else v_L_lapsed_67 S i1 k5))) = if nI k5 = 1 then (v_L_lapsed_67 S i1 k5) ||| (if (L_L_lapsed_5_3 S i1 k5) &&& 1 = 1 then 1 else 0) else (if nI k5 = 3 then (v_L_lapsed_67 S i1 k5) ||| (if (L_L_lapsed_5_3 S i1 k5) &&& 1 = 1 then 1 else 0) else v_L_lapsed_67 S i1 k5))] <;> rfl))
      · refine lv_iload F.1 F.2.1 dL_lapsed_104 (lv_at hl 0 rfl) ?_
        refine lv_iload_n F.1 F.2.1 dL_lapsed_106 rfl (lv_at hl 3 rfl) ?_
        refine lv_iconst (v := 2) F.1 F.2.1 dL_lapsed_107 (by decide) ?_
        refine lv_iand F.1 F.2.1 dL_lapsed_108 ?_
        refine lv_iconst (v := 2) F.1 F.2.1 dL_lapsed_109 (by decide) ?_
        refine jn0 (m := m) (ls := ls) (rest := [.int (if nI k5 = 1 then (v_L_lapsed_67 S i1 k5) ||| (if (L_L_lapsed_5_3 S i1 k5) &&& 1 = 1 then 1 else 0) else (if nI k5 = 3 then (v_L_lapsed_67 S i1 k5) ||| (if (L_L_lapsed_5_3 S i1 k5) &&& 1 = 1 then 1 else 0) else v_L_lapsed_67 S i1 k5))]) (if (L_L_lapsed_5_3 S i1 k5) &&& 2 = 2 then 1 else 0) 118 (fun J_15 => ?_) ?_
        · refine lv_icmp_ne (tgt := 117) F.1 F.2.1 dL_lapsed_110 (by decide) (fun c_16 => ?_) (fun c_16 => ?_)
          · refine lv_iconst (v := 0) F.1 F.2.1 dL_lapsed_117 (by decide) ?_
            exact jn_a (if_neg c_16) J_15
          · refine lv_iconst (v := 1) F.1 F.2.1 dL_lapsed_113 (by decide) ?_
            refine lv_goto (tgt := 118) F.1 F.2.1 dL_lapsed_114 (by decide) ?_
            exact jn_a (if_pos c_16) J_15
        refine lv_ior F.1 F.2.1 dL_lapsed_118 ?_
        refine lv_istore (lv' := [(6, .int ((if nI k5 = 1 then (v_L_lapsed_67 S i1 k5) ||| (if (L_L_lapsed_5_3 S i1 k5) &&& 1 = 1 then 1 else 0) else (if nI k5 = 3 then (v_L_lapsed_67 S i1 k5) ||| (if (L_L_lapsed_5_3 S i1 k5) &&& 1 = 1 then 1 else 0) else v_L_lapsed_67 S i1 k5)) ||| (if (L_L_lapsed_5_3 S i1 k5) &&& 2 = 2 then 1 else 0))), (5, .int (nI ((5 * i1) + k5))), (4, .int (nI k5)), (3, .int (L_L_lapsed_5_3 S i1 k5)), (0, .int (nI i1)), (1, .ref (ad 3)), (2, .ref (ad 10))]) F.1 F.2.1 dL_lapsed_119 hl (by decide) rfl (fun ls hl => ?_)
        exact J_13 ls (lv_sub hl [0, 1, 2, 3, 4, 5, 6] (by rw [((if_pos c_14) : (if nI k5 = 2 then (if nI k5 = 1 then (v_L_lapsed_67 S i1 k5) ||| (if (L_L_lapsed_5_3 S i1 k5) &&& 1 = 1 then 1 else 0) else (if nI k5 = 3 then (v_L_lapsed_67 S i1 k5) ||| (if (L_L_lapsed_5_3 S i1 k5) &&& 1 = 1 then 1 else 0) else v_L_lapsed_67 S i1 k5)) ||| (if (L_L_lapsed_5_3 S i1 k5) &&& 2 = 2 then 1 else 0) else (if nI k5 = 1 then (v_L_lapsed_67 S i1 k5) ||| (if (L_L_lapsed_5_3 S i1 k5) &&& 1 = 1 then 1 else 0) else (if nI k5 = 3 then (v_L_lapsed_67 S i1 k5) ||| (if (L_L_lapsed_5_3 S i1 k5) &&& 1 = 1 then 1 else 0) else v_L_lapsed_67 S i1 k5))) = (if nI k5 = 1 then (v_L_lapsed_67 S i1 k5) ||| (if (L_L_lapsed_5_3 S i1 k5) &&& 1 = 1 then 1 else 0) else (if nI k5 = 3 then (v_L_lapsed_67 S i1 k5) ||| (if (L_L_lapsed_5_3 S i1 k5) &&& 1 = 1 then 1 else 0) else v_L_lapsed_67 S i1 k5)) ||| (if (L_L_lapsed_5_3 S i1 k5) &&& 2 = 2 then 1 else 0))] <;> rfl))
    intro ls hl
    refine lv_iload_n F.1 F.2.1 dL_lapsed_121 rfl (lv_at hl 3 rfl) ?_
    refine lv_iload F.1 F.2.1 dL_lapsed_122 (lv_at hl 0 rfl) ?_
    refine jn0 (m := m) (ls := ls) (rest := [.int (L_L_lapsed_5_3 S i1 k5)]) (if (if nI k5 = 2 then (if nI k5 = 1 then (v_L_lapsed_67 S i1 k5) ||| (if (L_L_lapsed_5_3 S i1 k5) &&& 1 = 1 then 1 else 0) else (if nI k5 = 3 then (v_L_lapsed_67 S i1 k5) ||| (if (L_L_lapsed_5_3 S i1 k5) &&& 1 = 1 then 1 else 0) else v_L_lapsed_67 S i1 k5)) ||| (if (L_L_lapsed_5_3 S i1 k5) &&& 2 = 2 then 1 else 0) else (if nI k5 = 1 then (v_L_lapsed_67 S i1 k5) ||| (if (L_L_lapsed_5_3 S i1 k5) &&& 1 = 1 then 1 else 0) else (if nI k5 = 3 then (v_L_lapsed_67 S i1 k5) ||| (if (L_L_lapsed_5_3 S i1 k5) &&& 1 = 1 then 1 else 0) else v_L_lapsed_67 S i1 k5)) : Int32) = 0 then 0 else (1 : Int32) <<< ((nI k5) &&& 31)) 135 (fun J_17 => ?_) ?_
    · refine lv_if_eq (tgt := 134) F.1 F.2.1 dL_lapsed_124 (by decide) (fun c_18 => ?_) (fun c_18 => ?_)
      · refine lv_iconst (v := 0) F.1 F.2.1 dL_lapsed_134 (by decide) ?_
        exact jn_a (if_pos c_18) J_17
      · refine lv_iconst (v := 1) F.1 F.2.1 dL_lapsed_127 (by decide) ?_
        refine lv_iload F.1 F.2.1 dL_lapsed_128 (lv_at hl 2 rfl) ?_
        refine lv_ishl F.1 F.2.1 dL_lapsed_130 ?_
        refine lv_goto (tgt := 135) F.1 F.2.1 dL_lapsed_131 (by decide) ?_
        exact jn_a (if_neg c_18) J_17
    refine lv_ior F.1 F.2.1 dL_lapsed_135 ?_
    refine lv_istore_n (lv' := [(3, .int ((L_L_lapsed_5_3 S i1 k5) ||| (if (if nI k5 = 2 then (if nI k5 = 1 then (v_L_lapsed_67 S i1 k5) ||| (if (L_L_lapsed_5_3 S i1 k5) &&& 1 = 1 then 1 else 0) else (if nI k5 = 3 then (v_L_lapsed_67 S i1 k5) ||| (if (L_L_lapsed_5_3 S i1 k5) &&& 1 = 1 then 1 else 0) else v_L_lapsed_67 S i1 k5)) ||| (if (L_L_lapsed_5_3 S i1 k5) &&& 2 = 2 then 1 else 0) else (if nI k5 = 1 then (v_L_lapsed_67 S i1 k5) ||| (if (L_L_lapsed_5_3 S i1 k5) &&& 1 = 1 then 1 else 0) else (if nI k5 = 3 then (v_L_lapsed_67 S i1 k5) ||| (if (L_L_lapsed_5_3 S i1 k5) &&& 1 = 1 then 1 else 0) else v_L_lapsed_67 S i1 k5)) : Int32) = 0 then 0 else (1 : Int32) <<< ((nI k5) &&& 31)))), (6, .int (if nI k5 = 2 then (if nI k5 = 1 then (v_L_lapsed_67 S i1 k5) ||| (if (L_L_lapsed_5_3 S i1 k5) &&& 1 = 1 then 1 else 0) else (if nI k5 = 3 then (v_L_lapsed_67 S i1 k5) ||| (if (L_L_lapsed_5_3 S i1 k5) &&& 1 = 1 then 1 else 0) else v_L_lapsed_67 S i1 k5)) ||| (if (L_L_lapsed_5_3 S i1 k5) &&& 2 = 2 then 1 else 0) else (if nI k5 = 1 then (v_L_lapsed_67 S i1 k5) ||| (if (L_L_lapsed_5_3 S i1 k5) &&& 1 = 1 then 1 else 0) else (if nI k5 = 3 then (v_L_lapsed_67 S i1 k5) ||| (if (L_L_lapsed_5_3 S i1 k5) &&& 1 = 1 then 1 else 0) else v_L_lapsed_67 S i1 k5)))), (5, .int (nI ((5 * i1) + k5))), (4, .int (nI k5)), (0, .int (nI i1)), (1, .ref (ad 3)), (2, .ref (ad 10))]) F.1 F.2.1 dL_lapsed_136 rfl hl (by decide) rfl (fun ls hl => ?_)
    refine lv_iinc (v := nI (k5 + 1)) (lv' := [(4, .int (nI (k5 + 1))), (3, .int ((L_L_lapsed_5_3 S i1 k5) ||| (if (if nI k5 = 2 then (if nI k5 = 1 then (v_L_lapsed_67 S i1 k5) ||| (if (L_L_lapsed_5_3 S i1 k5) &&& 1 = 1 then 1 else 0) else (if nI k5 = 3 then (v_L_lapsed_67 S i1 k5) ||| (if (L_L_lapsed_5_3 S i1 k5) &&& 1 = 1 then 1 else 0) else v_L_lapsed_67 S i1 k5)) ||| (if (L_L_lapsed_5_3 S i1 k5) &&& 2 = 2 then 1 else 0) else (if nI k5 = 1 then (v_L_lapsed_67 S i1 k5) ||| (if (L_L_lapsed_5_3 S i1 k5) &&& 1 = 1 then 1 else 0) else (if nI k5 = 3 then (v_L_lapsed_67 S i1 k5) ||| (if (L_L_lapsed_5_3 S i1 k5) &&& 1 = 1 then 1 else 0) else v_L_lapsed_67 S i1 k5)) : Int32) = 0 then 0 else (1 : Int32) <<< ((nI k5) &&& 31)))), (6, .int (if nI k5 = 2 then (if nI k5 = 1 then (v_L_lapsed_67 S i1 k5) ||| (if (L_L_lapsed_5_3 S i1 k5) &&& 1 = 1 then 1 else 0) else (if nI k5 = 3 then (v_L_lapsed_67 S i1 k5) ||| (if (L_L_lapsed_5_3 S i1 k5) &&& 1 = 1 then 1 else 0) else v_L_lapsed_67 S i1 k5)) ||| (if (L_L_lapsed_5_3 S i1 k5) &&& 2 = 2 then 1 else 0) else (if nI k5 = 1 then (v_L_lapsed_67 S i1 k5) ||| (if (L_L_lapsed_5_3 S i1 k5) &&& 1 = 1 then 1 else 0) else (if nI k5 = 3 then (v_L_lapsed_67 S i1 k5) ||| (if (L_L_lapsed_5_3 S i1 k5) &&& 1 = 1 then 1 else 0) else v_L_lapsed_67 S i1 k5)))), (5, .int (nI ((5 * i1) + k5))), (0, .int (nI i1)), (1, .ref (ad 3)), (2, .ref (ad 10))]) F.1 F.2.1 dL_lapsed_137 hl (k := 3) rfl (nI_1 _) (by decide) rfl (fun ls hl => ?_)
    refine lv_goto (tgt := 5) F.1 F.2.1 dL_lapsed_140 (by decide) ?_
    exact ih5 ls hlt5 (lv_sub hl [0, 1, 4, 5, 6] rfl)
  have hkn5 : k5 = 5 := GB_ile (n := 5) rfl (by decide) hk5 c_1
  subst hkn5
  refine lv_iload_n F.1 F.2.1 dL_lapsed_143 rfl (lv_at hl 1 rfl) ?_
  exact q_reti F hr hlk rfl dL_lapsed_144
def f_L_counts (S : GS) (i1 : Nat) : Int32 := if S 7 i1 = (-1) then 0 else (if (2 : Int32) ≤ ((f_L_info (S 5 i1)) >>> (1 &&& 31)) &&& 3 then 0 else 1)
theorem nz_f_L_counts (S : GS) (i1 : Nat) : nz (f_L_counts S i1) := (nz_ite nz0 (nz_ite nz0 nz1))
set_option maxHeartbeats 4000000 in
set_option maxRecDepth 100000 in
theorem c_L_counts (l : Launch) (D : va_G) (cy : Nat → ClassId) (A : Nat → Prop) (μ : MU) (ad : Nat → Nat) (S : GS) (Wf : Nat → Int64) (hL : RepL cy ad S Wf μ) (i1 : Nat) (hi1 : i1 < 50) : Met l yL_counts (WS yL_counts cL_counts 3 (Option.some Jvm.ClassFile.FieldType.boolean)) { frames := 1, cells := 0, slots := 0, locals := 20 } (va_Pc [.int (nI i1), .ref (ad 5), .ref (ad 7)] (Wd D cy A μ)) (QcRead (f_L_counts S i1)) 0 0 (fun _ => False) := by
  refine q_met (by decide) (Nat.le_of_ble_eq_true rfl) ?_
  intro p e s m below meth c F w hr hlk hnm ls hl
  have F : CallFix p m c cL_counts 3 s _ BIG RL := F
  have hl : lv_has ls 3 [(0, .int (nI i1)), (1, .ref (ad 5)), (2, .ref (ad 7))] := hl
  refine lv_aload_n F.1 F.2.1 dL_counts_0 rfl (lv_at hl 2 rfl) ?_
  refine lv_iload_n F.1 F.2.1 dL_counts_1 rfl (lv_at hl 0 rfl) ?_
  refine l_ild F w hL 7 rfl i1 (show i1 < 50 by omega) dL_counts_2 ?_
  refine lv_iconst (v := -1) F.1 F.2.1 dL_counts_3 (by decide) ?_
  refine jn0 (m := m) (ls := ls) (rest := []) (if S 7 i1 = (-1) then 0 else (if (2 : Int32) ≤ ((f_L_info (S 5 i1)) >>> (1 &&& 31)) &&& 3 then 0 else 1)) 26 (fun J_1 => ?_) ?_
  · refine lv_icmp_eq (tgt := 25) F.1 F.2.1 dL_counts_4 (by decide) (fun c_2 => ?_) (fun c_2 => ?_)
    · refine lv_iconst (v := 0) F.1 F.2.1 dL_counts_25 (by decide) ?_
      exact jn_a (if_pos c_2) J_1
    · refine lv_aload_n F.1 F.2.1 dL_counts_7 rfl (lv_at hl 1 rfl) ?_
      refine lv_iload_n F.1 F.2.1 dL_counts_8 rfl (lv_at hl 0 rfl) ?_
      refine l_ild F w hL 5 rfl i1 (show i1 < 50 by omega) dL_counts_9 ?_
      refine q_rS (rest := []) F w kS_L_101 hd_L_info (c_L_info l D cy A _ (S 5 i1)) dL_counts_10 rfl rfl hl.1 ⟨rfl, rfl, Nat.le_of_ble_eq_true rfl, Nat.le_of_ble_eq_true rfl⟩ (Nat.le_of_ble_eq_true rfl) ⟨Nat.zero_le _, Nat.zero_le _⟩ ?_
      refine lv_iconst (v := 1) F.1 F.2.1 dL_counts_13 (by decide) ?_
      refine lv_ishr F.1 F.2.1 dL_counts_14 ?_
      refine lv_iconst (v := 3) F.1 F.2.1 dL_counts_15 (by decide) ?_
      refine lv_iand F.1 F.2.1 dL_counts_16 ?_
      refine lv_iconst (v := 2) F.1 F.2.1 dL_counts_17 (by decide) ?_
      refine lv_icmp_ge (tgt := 25) F.1 F.2.1 dL_counts_18 (by decide) (fun c_3 => ?_) (fun c_3 => ?_)
      · refine lv_iconst (v := 0) F.1 F.2.1 dL_counts_25 (by decide) ?_
        exact jn_a ((if_neg c_2).trans (if_pos c_3)) J_1
      · refine lv_iconst (v := 1) F.1 F.2.1 dL_counts_21 (by decide) ?_
        refine lv_goto (tgt := 26) F.1 F.2.1 dL_counts_22 (by decide) ?_
        exact jn_a ((if_neg c_2).trans (if_neg c_3)) J_1
  exact q_retz F hr hlk rfl (nz_ite nz0 (nz_ite nz0 nz1)) dL_counts_26
def L_L_listOf_14_6 (S : GS) (x1 : Int32) : Nat → Int32
  | 0 => 0
  | k14 + 1 => if (S 6 (gv S - k14 - 1)) + 1095 ≤ S 10 0 then L_L_listOf_14_6 S x1 k14 else (if ((S 5 (gv S - k14 - 1)) >>> (6 &&& 31)) &&& 7 = x1 then (L_L_listOf_14_6 S x1 k14) + (if f_L_counts S (gv S - k14 - 1) = 0 then 0 else 100) else L_L_listOf_14_6 S x1 k14)
def L_L_listOf_14_5 (S : GS) (x1 : Int32) : Nat → Int32
  | 0 => 0
  | k14 + 1 => if (S 6 (gv S - k14 - 1)) + 1095 ≤ S 10 0 then L_L_listOf_14_5 S x1 k14 else (if ((S 5 (gv S - k14 - 1)) >>> (6 &&& 31)) &&& 7 = x1 then (L_L_listOf_14_5 S x1 k14) + 1 else L_L_listOf_14_5 S x1 k14)
theorem lc_eq (S : GS) (x1 : Int32) : ∀ k, k ≤ 50 → ∃ m, m ≤ k ∧ L_L_listOf_14_5 S x1 k = nI m
  | 0, _ => ⟨0, Nat.le_refl _, rfl⟩
  | k + 1, hk => by
    obtain ⟨m, h1, h2⟩ := lc_eq S x1 k (by omega)
    unfold L_L_listOf_14_5
    (repeat' split) <;> first | exact ⟨m, by omega, h2⟩ | exact ⟨m + 1, by omega, by rw [h2]; exact nI_1 m⟩
def lc (S : GS) (x1 : Int32) : Nat := (L_L_listOf_14_5 S x1 (gv S)).toNatClampNeg
theorem lc_ok {S : GS} (x1 : Int32) (h : gv S ≤ 50) : L_L_listOf_14_5 S x1 (gv S) = nI (lc S x1) ∧ lc S x1 ≤ 50 := by
  obtain ⟨m, h1, h2⟩ := lc_eq S x1 (gv S) h
  unfold lc
  rw [h2, nI_clamp (by omega)]
  exact ⟨rfl, by omega⟩
def v_L_listOf_121 (S : GS) (x1 : Int32) : Int32 := (L_L_listOf_14_6 S x1 (gv S)) - (nI (7 * (lc S x1)))
noncomputable def f_L_listOf (S : GS) (x1 : Int32) : Int32 := if 6 ≤ L_L_listOf_14_5 S x1 (gv S) then (if (v_L_listOf_121 S x1) - 50 < nI (rtq (1762 * lc S x1)) then (if (-(v_L_listOf_121 S x1)) - 50 < nI (rtq (1762 * lc S x1)) then 2 else 1) else 3) else 0
set_option maxHeartbeats 4000000 in
set_option maxRecDepth 100000 in
theorem c_L_listOf (l : Launch) (D : va_G) (cy : Nat → ClassId) (A : Nat → Prop) (μ : MU) (ad : Nat → Nat) (S : GS) (Wf : Nat → Int64) (hL : RepL cy ad S Wf μ) (x1 : Int32) (hV : S 10 2 = nI (gv S) ∧ gv S ≤ 50) : Met l yL_listOf (WS yL_listOf cL_listOf 9 (Option.some Jvm.ClassFile.FieldType.int)) { frames := 2, cells := 0, slots := 0, locals := 42 } (va_Pc [.int x1, .ref (ad 5), .ref (ad 6), .ref (ad 7), .ref (ad 10)] (Wd D cy A μ)) (QcRead (f_L_listOf S x1)) 0 0 (fun _ => False) := by
  refine q_met (by decide) (Nat.le_of_ble_eq_true rfl) ?_
  intro p e s m below meth c F w hr hlk hnm ls hl
  have F : CallFix p m c cL_listOf 9 s _ BIG RL := F
  have hl : lv_has ls 9 [(0, .int x1), (1, .ref (ad 5)), (2, .ref (ad 6)), (3, .ref (ad 7)), (4, .ref (ad 10))] := hl
  have hlc := (lc_ok x1 hV.2).2
  have hrt := rt_bd (m := 1762 * lc S x1) (by omega)
  refine lv_iconst (v := 0) F.1 F.2.1 dL_listOf_0 (by decide) ?_
  refine lv_istore (lv' := [(5, .int 0), (0, .int x1), (1, .ref (ad 5)), (2, .ref (ad 6)), (3, .ref (ad 7)), (4, .ref (ad 10))]) F.1 F.2.1 dL_listOf_1 hl (by decide) rfl (fun ls hl => ?_)
  refine lv_iconst (v := 0) F.1 F.2.1 dL_listOf_3 (by decide) ?_
  refine lv_istore (lv' := [(6, .int 0), (5, .int 0), (0, .int x1), (1, .ref (ad 5)), (2, .ref (ad 6)), (3, .ref (ad 7)), (4, .ref (ad 10))]) F.1 F.2.1 dL_listOf_4 hl (by decide) rfl (fun ls hl => ?_)
  refine lv_aload F.1 F.2.1 dL_listOf_6 (lv_at hl 6 rfl) ?_
  refine lv_iconst (v := 2) F.1 F.2.1 dL_listOf_8 (by decide) ?_
  refine l_ild F w hL 10 rfl 2 (show 2 < 9 by omega) dL_listOf_9 ?_
  refine lv_fold (y := nI (gv S)) (hV.1) ?_
  refine lv_iconst (v := 1) F.1 F.2.1 dL_listOf_10 (by decide) ?_
  refine lv_isub F.1 F.2.1 dL_listOf_11 ?_
  refine lv_istore (lv' := [(7, .int ((nI (gv S)) - 1)), (6, .int 0), (5, .int 0), (0, .int x1), (1, .ref (ad 5)), (2, .ref (ad 6)), (3, .ref (ad 7)), (4, .ref (ad 10))]) F.1 F.2.1 dL_listOf_12 hl (by decide) rfl (fun ls hl => ?_)
  refine q_loop (P := fun k14 ls => lv_has ls 9 [(7, .int (nI (gv S - k14) - 1)), (6, .int (L_L_listOf_14_6 S x1 k14)), (5, .int (L_L_listOf_14_5 S x1 k14)), (0, .int x1), (1, .ref (ad 5)), (2, .ref (ad 6)), (3, .ref (ad 7)), (4, .ref (ad 10))]) (gv S) (fun k14 ls hk14 hl ih14 => ?_) 0 ls (Nat.zero_le _) (lv_cg (lv_sub hl [0, 1, 2, 3, 4, 5, 6, 7] rfl) rfl)
  refine lv_iload F.1 F.2.1 dL_listOf_14 (lv_at hl 0 rfl) ?_
  refine lv_if_lt (tgt := 81) F.1 F.2.1 dL_listOf_16 (by decide) (fun c_1 => ?_) (fun c_1 => ?_)
  rotate_left
  · have hlt14 : k14 < (gv S) := GD_lt hV.2 hk14 c_1
    rw [show nI (gv S - k14) - 1 = nI (gv S - k14 - 1) from pk_sub (a := gv S - k14) (b := 1) (by omega)] at hl
    have hl : lv_has ls 9 [(7, .int (nI (gv S - k14 - 1))), (6, .int (L_L_listOf_14_6 S x1 k14)), (5, .int (L_L_listOf_14_5 S x1 k14)), (0, .int x1), (1, .ref (ad 5)), (2, .ref (ad 6)), (3, .ref (ad 7)), (4, .ref (ad 10))] := hl
    refine lv_aload_n F.1 F.2.1 dL_listOf_19 rfl (lv_at hl 5 rfl) ?_
    refine lv_iload F.1 F.2.1 dL_listOf_20 (lv_at hl 0 rfl) ?_
    refine l_ild F w hL 6 rfl (gv S - k14 - 1) (show gv S - k14 - 1 < 50 by omega) dL_listOf_22 ?_
    refine lv_sipush (v := 1095) F.1 F.2.1 dL_listOf_23 (by decide) ?_
    refine lv_iadd F.1 F.2.1 dL_listOf_26 ?_
    refine lv_aload F.1 F.2.1 dL_listOf_27 (lv_at hl 7 rfl) ?_
    refine lv_iconst (v := 0) F.1 F.2.1 dL_listOf_29 (by decide) ?_
    refine l_ild F w hL 10 rfl 0 (show 0 < 9 by omega) dL_listOf_30 ?_
    refine jnl (m := m) 9 [(7, .int (nI (gv S - k14 - 1))), (6, .int (if (S 6 (gv S - k14 - 1)) + 1095 ≤ S 10 0 then L_L_listOf_14_6 S x1 k14 else (if ((S 5 (gv S - k14 - 1)) >>> (6 &&& 31)) &&& 7 = x1 then (L_L_listOf_14_6 S x1 k14) + (if f_L_counts S (gv S - k14 - 1) = 0 then 0 else 100) else L_L_listOf_14_6 S x1 k14))), (5, .int (if (S 6 (gv S - k14 - 1)) + 1095 ≤ S 10 0 then L_L_listOf_14_5 S x1 k14 else (if ((S 5 (gv S - k14 - 1)) >>> (6 &&& 31)) &&& 7 = x1 then (L_L_listOf_14_5 S x1 k14) + 1 else L_L_listOf_14_5 S x1 k14))), (0, .int x1), (1, .ref (ad 5)), (2, .ref (ad 6)), (3, .ref (ad 7)), (4, .ref (ad 10))] [] 75 (fun J_2 => ?_) ?_
    · refine lv_icmp_le (tgt := 75) F.1 F.2.1 dL_listOf_31 (by decide) (fun c_3 => ?_) (fun c_3 => ?_)
      · exact J_2 ls (lv_sub hl [0, 1, 2, 3, 4, 5, 6, 7] (by rw [((if_pos c_3) : (if (S 6 (gv S - k14 - 1)) + 1095 ≤ S 10 0 then L_L_listOf_14_6 S x1 k14 else (if ((S 5 (gv S - k14 - 1)) >>> (6 &&& 31)) &&& 7 = x1 then (L_L_listOf_14_6 S x1 k14) + (if f_L_counts S (gv S - k14 - 1) = 0 then 0 else 100) else L_L_listOf_14_6 S x1 k14)) = L_L_listOf_14_6 S x1 k14), ((if_pos c_3) : (if (S 6 (gv S - k14 - 1)) + 1095 ≤ S 10 0 then L_L_listOf_14_5 S x1 k14 else (if ((S 5 (gv S - k14 - 1)) >>> (6 &&& 31)) &&& 7 = x1 then (L_L_listOf_14_5 S x1 k14) + 1 else L_L_listOf_14_5 S x1 k14)) = L_L_listOf_14_5 S x1 k14)] <;> rfl))
      · refine lv_aload_n F.1 F.2.1 dL_listOf_34 rfl (lv_at hl 4 rfl) ?_
        refine lv_iload F.1 F.2.1 dL_listOf_35 (lv_at hl 0 rfl) ?_
        refine l_ild F w hL 5 rfl (gv S - k14 - 1) (show gv S - k14 - 1 < 50 by omega) dL_listOf_37 ?_
        refine lv_bipush (v := 6) F.1 F.2.1 dL_listOf_38 (by decide) ?_
        refine lv_ishr F.1 F.2.1 dL_listOf_40 ?_
        refine lv_bipush (v := 7) F.1 F.2.1 dL_listOf_41 (by decide) ?_
        refine lv_iand F.1 F.2.1 dL_listOf_43 ?_
        refine lv_iload_n F.1 F.2.1 dL_listOf_44 rfl (lv_at hl 3 rfl) ?_
        refine lv_icmp_eq (tgt := 51) F.1 F.2.1 dL_listOf_45 (by decide) (fun c_4 => ?_) (fun c_4 => ?_)
        · refine lv_iinc (v := (L_L_listOf_14_5 S x1 k14) + 1) (lv' := [(5, .int ((L_L_listOf_14_5 S x1 k14) + 1)), (7, .int (nI (gv S - k14 - 1))), (6, .int (L_L_listOf_14_6 S x1 k14)), (0, .int x1), (1, .ref (ad 5)), (2, .ref (ad 6)), (3, .ref (ad 7)), (4, .ref (ad 10))]) F.1 F.2.1 dL_listOf_51 hl (k := 2) rfl rfl (by decide) rfl (fun ls hl => ?_)
          refine lv_iload F.1 F.2.1 dL_listOf_54 (lv_at hl 2 rfl) ?_
          refine lv_iload F.1 F.2.1 dL_listOf_56 (lv_at hl 1 rfl) ?_
          refine lv_aload_n F.1 F.2.1 dL_listOf_58 rfl (lv_at hl 4 rfl) ?_
          refine lv_aload_n F.1 F.2.1 dL_listOf_59 rfl (lv_at hl 6 rfl) ?_
          refine q_rS (rest := [.int (L_L_listOf_14_6 S x1 k14)]) F w kS_L_104 hd_L_counts (c_L_counts l D cy A _ ad S Wf hL (gv S - k14 - 1) (show gv S - k14 - 1 < 50 by omega)) dL_listOf_60 rfl rfl hl.1 ⟨rfl, rfl, Nat.le_of_ble_eq_true rfl, Nat.le_of_ble_eq_true rfl⟩ (Nat.le_of_ble_eq_true rfl) ⟨Nat.zero_le _, Nat.zero_le _⟩ ?_
          refine jn0 (m := m) (ls := ls) (rest := [.int (L_L_listOf_14_6 S x1 k14)]) (if f_L_counts S (gv S - k14 - 1) = 0 then 0 else 100) 72 (fun J_5 => ?_) ?_
          · refine lv_if_eq (tgt := 71) F.1 F.2.1 dL_listOf_63 (by decide) (fun c_6 => ?_) (fun c_6 => ?_)
            · refine lv_iconst (v := 0) F.1 F.2.1 dL_listOf_71 (by decide) ?_
              exact jn_a (if_pos c_6) J_5
            · refine lv_bipush (v := 100) F.1 F.2.1 dL_listOf_66 (by decide) ?_
              refine lv_goto (tgt := 72) F.1 F.2.1 dL_listOf_68 (by decide) ?_
              exact jn_a (if_neg c_6) J_5
          refine lv_iadd F.1 F.2.1 dL_listOf_72 ?_
          refine lv_istore (lv' := [(6, .int ((L_L_listOf_14_6 S x1 k14) + (if f_L_counts S (gv S - k14 - 1) = 0 then 0 else 100))), (5, .int ((L_L_listOf_14_5 S x1 k14) + 1)), (7, .int (nI (gv S - k14 - 1))), (0, .int x1), (1, .ref (ad 5)), (2, .ref (ad 6)), (3, .ref (ad 7)), (4, .ref (ad 10))]) F.1 F.2.1 dL_listOf_73 hl (by decide) rfl (fun ls hl => ?_)
          exact J_2 ls (lv_sub hl [2, 0, 1, 3, 4, 5, 6, 7] (by rw [(((if_neg c_3).trans (if_pos c_4)) : (if (S 6 (gv S - k14 - 1)) + 1095 ≤ S 10 0 then L_L_listOf_14_6 S x1 k14 else (if ((S 5 (gv S - k14 - 1)) >>> (6 &&& 31)) &&& 7 = x1 then (L_L_listOf_14_6 S x1 k14) + (if f_L_counts S (gv S - k14 - 1) = 0 then 0 else 100) else L_L_listOf_14_6 S x1 k14)) = (L_L_listOf_14_6 S x1 k14) + (if f_L_counts S (gv S - k14 - 1) = 0 then 0 else 100)), (((if_neg c_3).trans (if_pos c_4)) : (if (S 6 (gv S - k14 - 1)) + 1095 ≤ S 10 0 then L_L_listOf_14_5 S x1 k14 else (if ((S 5 (gv S - k14 - 1)) >>> (6 &&& 31)) &&& 7 = x1 then (L_L_listOf_14_5 S x1 k14) + 1 else L_L_listOf_14_5 S x1 k14)) = (L_L_listOf_14_5 S x1 k14) + 1)] <;> rfl))
        · refine lv_goto (tgt := 75) F.1 F.2.1 dL_listOf_48 (by decide) ?_
          exact J_2 ls (lv_sub hl [0, 1, 2, 3, 4, 5, 6, 7] (by rw [(((if_neg c_3).trans (if_neg c_4)) : (if (S 6 (gv S - k14 - 1)) + 1095 ≤ S 10 0 then L_L_listOf_14_6 S x1 k14 else (if ((S 5 (gv S - k14 - 1)) >>> (6 &&& 31)) &&& 7 = x1 then (L_L_listOf_14_6 S x1 k14) + (if f_L_counts S (gv S - k14 - 1) = 0 then 0 else 100) else L_L_listOf_14_6 S x1 k14)) = L_L_listOf_14_6 S x1 k14), (((if_neg c_3).trans (if_neg c_4)) : (if (S 6 (gv S - k14 - 1)) + 1095 ≤ S 10 0 then L_L_listOf_14_5 S x1 k14 else (if ((S 5 (gv S - k14 - 1)) >>> (6 &&& 31)) &&& 7 = x1 then (L_L_listOf_14_5 S x1 k14) + 1 else L_L_listOf_14_5 S x1 k14)) = L_L_listOf_14_5 S x1 k14)] <;> rfl))
    intro ls hl
    refine lv_iinc (v := nI (gv S - (k14 + 1)) - 1) (lv' := [(7, .int (nI (gv S - (k14 + 1)) - 1)), (6, .int (if (S 6 (gv S - k14 - 1)) + 1095 ≤ S 10 0 then L_L_listOf_14_6 S x1 k14 else (if ((S 5 (gv S - k14 - 1)) >>> (6 &&& 31)) &&& 7 = x1 then (L_L_listOf_14_6 S x1 k14) + (if f_L_counts S (gv S - k14 - 1) = 0 then 0 else 100) else L_L_listOf_14_6 S x1 k14))), (5, .int (if (S 6 (gv S - k14 - 1)) + 1095 ≤ S 10 0 then L_L_listOf_14_5 S x1 k14 else (if ((S 5 (gv S - k14 - 1)) >>> (6 &&& 31)) &&& 7 = x1 then (L_L_listOf_14_5 S x1 k14) + 1 else L_L_listOf_14_5 S x1 k14))), (0, .int x1), (1, .ref (ad 5)), (2, .ref (ad 6)), (3, .ref (ad 7)), (4, .ref (ad 10))]) F.1 F.2.1 dL_listOf_75 hl (k := 0) rfl (dn1 _ _) (by decide) rfl (fun ls hl => ?_)
    refine lv_goto (tgt := 14) F.1 F.2.1 dL_listOf_78 (by decide) ?_
    exact ih14 ls hlt14 (lv_sub hl [0, 1, 2, 3, 4, 5, 6, 7] rfl)
  have hkn14 : k14 = (gv S) := GD_le hV.2 hk14 c_1
  subst hkn14
  refine lv_iload F.1 F.2.1 dL_listOf_81 (lv_at hl 2 rfl) ?_
  refine lv_bipush (v := 6) F.1 F.2.1 dL_listOf_83 (by decide) ?_
  refine lv_icmp_ge (tgt := 90) F.1 F.2.1 dL_listOf_85 (by decide) (fun c_7 => ?_) (fun c_7 => ?_)
  · rw [(lc_ok x1 hV.2).1] at hl
    have hl : lv_has ls 9 [(7, .int (nI (gv S - gv S) - 1)), (6, .int (L_L_listOf_14_6 S x1 (gv S))), (5, .int (nI (lc S x1))), (0, .int x1), (1, .ref (ad 5)), (2, .ref (ad 6)), (3, .ref (ad 7)), (4, .ref (ad 10))] := hl
    refine lv_iconst (v := 0) F.1 F.2.1 dL_listOf_90 (by decide) ?_
    refine lv_istore (lv' := [(7, .int 0), (6, .int (L_L_listOf_14_6 S x1 (gv S))), (5, .int (nI (lc S x1))), (0, .int x1), (1, .ref (ad 5)), (2, .ref (ad 6)), (3, .ref (ad 7)), (4, .ref (ad 10))]) F.1 F.2.1 dL_listOf_91 hl (by decide) rfl (fun ls hl => ?_)
    refine q_loop (P := fun k93 ls => lv_has ls 9 [(7, .int (nI k93)), (6, .int (L_L_listOf_14_6 S x1 (gv S))), (5, .int (nI (lc S x1))), (0, .int x1), (1, .ref (ad 5)), (2, .ref (ad 6)), (3, .ref (ad 7)), (4, .ref (ad 10))]) (rtq (1762 * lc S x1)) (fun k93 ls hk93 hl ih93 => ?_) 0 ls (Nat.zero_le _) (lv_cg (lv_sub hl [0, 1, 2, 3, 4, 5, 6, 7] rfl) rfl)
    refine lv_iload F.1 F.2.1 dL_listOf_93 (lv_at hl 0 rfl) ?_
    refine lv_iload F.1 F.2.1 dL_listOf_95 (lv_at hl 0 rfl) ?_
    refine lv_imul F.1 F.2.1 dL_listOf_97 ?_
    refine lv_fold (y := nI (k93 * k93)) (pk_mul k93 k93) ?_
    refine lv_sipush (v := 1762) F.1 F.2.1 dL_listOf_98 (by decide) ?_
    refine lv_iload F.1 F.2.1 dL_listOf_101 (lv_at hl 2 rfl) ?_
    refine lv_imul F.1 F.2.1 dL_listOf_103 ?_
    refine lv_fold (y := nI (1762 * (lc S x1))) (pk_mul 1762 (lc S x1)) ?_
    refine lv_icmp_gt (tgt := 113) F.1 F.2.1 dL_listOf_104 (by decide) (fun c_8 => ?_) (fun c_8 => ?_)
    rotate_left
    · have hlt93 : k93 < (rtq (1762 * lc S x1)) := rt_g (by omega) hk93 c_8
      refine lv_iinc (v := nI (k93 + 1)) (lv' := [(7, .int (nI (k93 + 1))), (6, .int (L_L_listOf_14_6 S x1 (gv S))), (5, .int (nI (lc S x1))), (0, .int x1), (1, .ref (ad 5)), (2, .ref (ad 6)), (3, .ref (ad 7)), (4, .ref (ad 10))]) F.1 F.2.1 dL_listOf_107 hl (k := 0) rfl (nI_1 _) (by decide) rfl (fun ls hl => ?_)
      refine lv_goto (tgt := 93) F.1 F.2.1 dL_listOf_110 (by decide) ?_
      exact ih93 ls hlt93 (lv_sub hl [0, 1, 2, 3, 4, 5, 6, 7] rfl)
    have hkn93 : k93 = (rtq (1762 * lc S x1)) := rt_e (by omega) hk93 c_8
    subst hkn93
    refine lv_iload F.1 F.2.1 dL_listOf_113 (lv_at hl 1 rfl) ?_
    refine lv_bipush (v := 7) F.1 F.2.1 dL_listOf_115 (by decide) ?_
    refine lv_iload F.1 F.2.1 dL_listOf_117 (lv_at hl 2 rfl) ?_
    refine lv_imul F.1 F.2.1 dL_listOf_119 ?_
    refine lv_fold (y := nI (7 * (lc S x1))) (pk_mul 7 (lc S x1)) ?_
    refine lv_isub F.1 F.2.1 dL_listOf_120 ?_
    refine lv_fold (y := v_L_listOf_121 S x1) rfl ?_
    refine lv_istore (lv' := [(8, .int (v_L_listOf_121 S x1)), (7, .int (nI (rtq (1762 * lc S x1)))), (6, .int (L_L_listOf_14_6 S x1 (gv S))), (5, .int (nI (lc S x1))), (0, .int x1), (1, .ref (ad 5)), (2, .ref (ad 6)), (3, .ref (ad 7)), (4, .ref (ad 10))]) F.1 F.2.1 dL_listOf_121 hl (by decide) rfl (fun ls hl => ?_)
    refine lv_iload F.1 F.2.1 dL_listOf_123 (lv_at hl 0 rfl) ?_
    refine lv_bipush (v := 50) F.1 F.2.1 dL_listOf_125 (by decide) ?_
    refine lv_isub F.1 F.2.1 dL_listOf_127 ?_
    refine lv_iload F.1 F.2.1 dL_listOf_128 (lv_at hl 1 rfl) ?_
    refine jn0 (m := m) (ls := ls) (rest := []) (if (v_L_listOf_121 S x1) - 50 < nI (rtq (1762 * lc S x1)) then (if (-(v_L_listOf_121 S x1)) - 50 < nI (rtq (1762 * lc S x1)) then 2 else 1) else 3) 153 (fun J_9 => ?_) ?_
    · refine lv_icmp_lt (tgt := 137) F.1 F.2.1 dL_listOf_130 (by decide) (fun c_10 => ?_) (fun c_10 => ?_)
      · refine lv_iload F.1 F.2.1 dL_listOf_137 (lv_at hl 0 rfl) ?_
        refine lv_ineg F.1 F.2.1 dL_listOf_139 ?_
        refine lv_bipush (v := 50) F.1 F.2.1 dL_listOf_140 (by decide) ?_
        refine lv_isub F.1 F.2.1 dL_listOf_142 ?_
        refine lv_iload F.1 F.2.1 dL_listOf_143 (lv_at hl 1 rfl) ?_
        refine lv_icmp_lt (tgt := 152) F.1 F.2.1 dL_listOf_145 (by decide) (fun c_11 => ?_) (fun c_11 => ?_)
        · refine lv_iconst (v := 2) F.1 F.2.1 dL_listOf_152 (by decide) ?_
          exact jn_a ((if_pos c_10).trans (if_pos c_11)) J_9
        · refine lv_iconst (v := 1) F.1 F.2.1 dL_listOf_148 (by decide) ?_
          refine lv_goto (tgt := 153) F.1 F.2.1 dL_listOf_149 (by decide) ?_
          exact jn_a ((if_pos c_10).trans (if_neg c_11)) J_9
      · refine lv_iconst (v := 3) F.1 F.2.1 dL_listOf_133 (by decide) ?_
        refine lv_goto (tgt := 153) F.1 F.2.1 dL_listOf_134 (by decide) ?_
        exact jn_a (if_neg c_10) J_9
    exact q_reti F hr hlk (if_pos c_7) dL_listOf_153
  · refine lv_iconst (v := 0) F.1 F.2.1 dL_listOf_88 (by decide) ?_
    exact q_reti F hr hlk (if_neg c_7) dL_listOf_89
def v_L_points_48 (S : GS) (i1 : Nat) : Int32 := ((S 2 ((14 * i1) + 2)) + (if (S 10 0) - 4380 ≤ S 2 (14 * i1) then 0 else 1)) + (((S 10 7) >>> ((S 2 ((14 * i1) + 4)) &&& 31)) &&& 1)
noncomputable def v_L_points_86 (S : GS) (i1 : Nat) : Int32 := (v_L_points_48 S i1) + (if f_L_listOf S (S 2 ((14 * i1) + 3)) ≤ 1 then 0 else (f_L_listOf S (S 2 ((14 * i1) + 3))) - 1)
def L_L_points_97_9 (S : GS) (i1 : Nat) : Nat → Int32
  | 0 => 0
  | k97 + 1 => if (S 5 k97) &&& 3 = nI i1 then (if S 10 0 < (S 6 k97) + 1095 then (L_L_points_97_9 S i1 k97) + (if f_L_counts S k97 = 0 then 0 else 1) else L_L_points_97_9 S i1 k97) else L_L_points_97_9 S i1 k97
def L_L_points_97_8 (S : GS) (i1 : Nat) : Nat → Int32
  | 0 => 0
  | k97 + 1 => if (S 5 k97) &&& 3 = nI i1 then (if S 10 0 < (S 6 k97) + 1095 then (if f_L_findings (S 5 k97) ≤ L_L_points_97_8 S i1 k97 then L_L_points_97_8 S i1 k97 else f_L_findings (S 5 k97)) else L_L_points_97_8 S i1 k97) else L_L_points_97_8 S i1 k97
noncomputable def f_L_points (S : GS) (i1 : Nat) : Int32 := ((v_L_points_86 S i1) + (if L_L_points_97_8 S i1 (gv S) ≤ 5 then 0 else 1)) + (if L_L_points_97_9 S i1 (gv S) ≤ 2 then L_L_points_97_9 S i1 (gv S) else 2)
set_option maxHeartbeats 4000000 in
set_option maxRecDepth 100000 in
theorem c_L_points (l : Launch) (D : va_G) (cy : Nat → ClassId) (A : Nat → Prop) (μ : MU) (ad : Nat → Nat) (S : GS) (Wf : Nat → Int64) (hL : RepL cy ad S Wf μ) (i1 : Nat) (hi1 : i1 < 4) (hV : S 10 2 = nI (gv S) ∧ gv S ≤ 50) : Met l yL_points (WS yL_points cL_points 11 (Option.some Jvm.ClassFile.FieldType.int)) { frames := 3, cells := 0, slots := 0, locals := 70 } (va_Pc [.int (nI i1), .ref (ad 2), .ref (ad 5), .ref (ad 6), .ref (ad 7), .ref (ad 10)] (Wd D cy A μ)) (QcRead (f_L_points S i1)) 0 0 (fun _ => False) := by
  refine q_met (by decide) (Nat.le_of_ble_eq_true rfl) ?_
  intro p e s m below meth c F w hr hlk hnm ls hl
  have F : CallFix p m c cL_points 11 s _ BIG RL := F
  have hl : lv_has ls 11 [(0, .int (nI i1)), (1, .ref (ad 2)), (2, .ref (ad 5)), (3, .ref (ad 6)), (4, .ref (ad 7)), (5, .ref (ad 10))] := hl
  have hV50 := hV.2
  refine lv_aload_n F.1 F.2.1 dL_points_0 rfl (lv_at hl 1 rfl) ?_
  refine lv_bipush (v := 14) F.1 F.2.1 dL_points_1 (by decide) ?_
  refine lv_iload_n F.1 F.2.1 dL_points_3 rfl (lv_at hl 0 rfl) ?_
  refine lv_imul F.1 F.2.1 dL_points_4 ?_
  refine lv_fold (y := nI (14 * i1)) (pk_mul 14 i1) ?_
  refine lv_iconst (v := 2) F.1 F.2.1 dL_points_5 (by decide) ?_
  refine lv_iadd F.1 F.2.1 dL_points_6 ?_
  refine lv_fold (y := nI ((14 * i1) + 2)) (nI_add (14 * i1) 2) ?_
  refine l_ild F w hL 2 rfl ((14 * i1) + 2) (show (14 * i1) + 2 < 56 by omega) dL_points_7 ?_
  refine lv_aload F.1 F.2.1 dL_points_8 (lv_at hl 5 rfl) ?_
  refine lv_iconst (v := 0) F.1 F.2.1 dL_points_10 (by decide) ?_
  refine l_ild F w hL 10 rfl 0 (show 0 < 9 by omega) dL_points_11 ?_
  refine lv_sipush (v := 4380) F.1 F.2.1 dL_points_12 (by decide) ?_
  refine lv_isub F.1 F.2.1 dL_points_15 ?_
  refine lv_aload_n F.1 F.2.1 dL_points_16 rfl (lv_at hl 1 rfl) ?_
  refine lv_bipush (v := 14) F.1 F.2.1 dL_points_17 (by decide) ?_
  refine lv_iload_n F.1 F.2.1 dL_points_19 rfl (lv_at hl 0 rfl) ?_
  refine lv_imul F.1 F.2.1 dL_points_20 ?_
  refine lv_fold (y := nI (14 * i1)) (pk_mul 14 i1) ?_
  refine l_ild F w hL 2 rfl (14 * i1) (show 14 * i1 < 56 by omega) dL_points_21 ?_
  refine jn0 (m := m) (ls := ls) (rest := [.int (S 2 ((14 * i1) + 2))]) (if (S 10 0) - 4380 ≤ S 2 (14 * i1) then 0 else 1) 30 (fun J_1 => ?_) ?_
  · refine lv_icmp_le (tgt := 29) F.1 F.2.1 dL_points_22 (by decide) (fun c_2 => ?_) (fun c_2 => ?_)
    · refine lv_iconst (v := 0) F.1 F.2.1 dL_points_29 (by decide) ?_
      exact jn_a (if_pos c_2) J_1
    · refine lv_iconst (v := 1) F.1 F.2.1 dL_points_25 (by decide) ?_
      refine lv_goto (tgt := 30) F.1 F.2.1 dL_points_26 (by decide) ?_
      exact jn_a (if_neg c_2) J_1
  refine lv_iadd F.1 F.2.1 dL_points_30 ?_
  refine lv_aload F.1 F.2.1 dL_points_31 (lv_at hl 5 rfl) ?_
  refine lv_bipush (v := 7) F.1 F.2.1 dL_points_33 (by decide) ?_
  refine l_ild F w hL 10 rfl 7 (show 7 < 9 by omega) dL_points_35 ?_
  refine lv_aload_n F.1 F.2.1 dL_points_36 rfl (lv_at hl 1 rfl) ?_
  refine lv_bipush (v := 14) F.1 F.2.1 dL_points_37 (by decide) ?_
  refine lv_iload_n F.1 F.2.1 dL_points_39 rfl (lv_at hl 0 rfl) ?_
  refine lv_imul F.1 F.2.1 dL_points_40 ?_
  refine lv_fold (y := nI (14 * i1)) (pk_mul 14 i1) ?_
  refine lv_iconst (v := 4) F.1 F.2.1 dL_points_41 (by decide) ?_
  refine lv_iadd F.1 F.2.1 dL_points_42 ?_
  refine lv_fold (y := nI ((14 * i1) + 4)) (nI_add (14 * i1) 4) ?_
  refine l_ild F w hL 2 rfl ((14 * i1) + 4) (show (14 * i1) + 4 < 56 by omega) dL_points_43 ?_
  refine lv_ishr F.1 F.2.1 dL_points_44 ?_
  refine lv_iconst (v := 1) F.1 F.2.1 dL_points_45 (by decide) ?_
  refine lv_iand F.1 F.2.1 dL_points_46 ?_
  refine lv_iadd F.1 F.2.1 dL_points_47 ?_
  refine lv_fold (y := v_L_points_48 S i1) rfl ?_
  refine lv_istore (lv' := [(6, .int (v_L_points_48 S i1)), (0, .int (nI i1)), (1, .ref (ad 2)), (2, .ref (ad 5)), (3, .ref (ad 6)), (4, .ref (ad 7)), (5, .ref (ad 10))]) F.1 F.2.1 dL_points_48 hl (by decide) rfl (fun ls hl => ?_)
  refine lv_aload_n F.1 F.2.1 dL_points_50 rfl (lv_at hl 2 rfl) ?_
  refine lv_bipush (v := 14) F.1 F.2.1 dL_points_51 (by decide) ?_
  refine lv_iload_n F.1 F.2.1 dL_points_53 rfl (lv_at hl 1 rfl) ?_
  refine lv_imul F.1 F.2.1 dL_points_54 ?_
  refine lv_fold (y := nI (14 * i1)) (pk_mul 14 i1) ?_
  refine lv_iconst (v := 3) F.1 F.2.1 dL_points_55 (by decide) ?_
  refine lv_iadd F.1 F.2.1 dL_points_56 ?_
  refine lv_fold (y := nI ((14 * i1) + 3)) (nI_add (14 * i1) 3) ?_
  refine l_ild F w hL 2 rfl ((14 * i1) + 3) (show (14 * i1) + 3 < 56 by omega) dL_points_57 ?_
  refine lv_aload_n F.1 F.2.1 dL_points_58 rfl (lv_at hl 3 rfl) ?_
  refine lv_aload_n F.1 F.2.1 dL_points_59 rfl (lv_at hl 4 rfl) ?_
  refine lv_aload F.1 F.2.1 dL_points_60 (lv_at hl 5 rfl) ?_
  refine lv_aload F.1 F.2.1 dL_points_62 (lv_at hl 6 rfl) ?_
  refine q_rS (rest := []) F w kS_L_108 hd_L_listOf (c_L_listOf l D cy A _ ad S Wf hL (S 2 ((14 * i1) + 3)) hV) dL_points_64 rfl rfl hl.1 ⟨rfl, rfl, Nat.le_of_ble_eq_true rfl, Nat.le_of_ble_eq_true rfl⟩ (Nat.le_of_ble_eq_true rfl) ⟨Nat.zero_le _, Nat.zero_le _⟩ ?_
  refine lv_istore (lv' := [(7, .int (f_L_listOf S (S 2 ((14 * i1) + 3)))), (6, .int (v_L_points_48 S i1)), (0, .int (nI i1)), (1, .ref (ad 2)), (2, .ref (ad 5)), (3, .ref (ad 6)), (4, .ref (ad 7)), (5, .ref (ad 10))]) F.1 F.2.1 dL_points_67 hl (by decide) rfl (fun ls hl => ?_)
  refine lv_iload F.1 F.2.1 dL_points_69 (lv_at hl 1 rfl) ?_
  refine lv_iload F.1 F.2.1 dL_points_71 (lv_at hl 0 rfl) ?_
  refine lv_iconst (v := 1) F.1 F.2.1 dL_points_73 (by decide) ?_
  refine jn0 (m := m) (ls := ls) (rest := [.int (v_L_points_48 S i1)]) (if f_L_listOf S (S 2 ((14 * i1) + 3)) ≤ 1 then 0 else (f_L_listOf S (S 2 ((14 * i1) + 3))) - 1) 85 (fun J_3 => ?_) ?_
  · refine lv_icmp_le (tgt := 84) F.1 F.2.1 dL_points_74 (by decide) (fun c_4 => ?_) (fun c_4 => ?_)
    · refine lv_iconst (v := 0) F.1 F.2.1 dL_points_84 (by decide) ?_
      exact jn_a (if_pos c_4) J_3
    · refine lv_iload F.1 F.2.1 dL_points_77 (lv_at hl 0 rfl) ?_
      refine lv_iconst (v := 1) F.1 F.2.1 dL_points_79 (by decide) ?_
      refine lv_isub F.1 F.2.1 dL_points_80 ?_
      refine lv_goto (tgt := 85) F.1 F.2.1 dL_points_81 (by decide) ?_
      exact jn_a (if_neg c_4) J_3
  refine lv_iadd F.1 F.2.1 dL_points_85 ?_
  refine lv_fold (y := v_L_points_86 S i1) rfl ?_
  refine lv_istore (lv' := [(6, .int (v_L_points_86 S i1)), (7, .int (f_L_listOf S (S 2 ((14 * i1) + 3)))), (0, .int (nI i1)), (1, .ref (ad 2)), (2, .ref (ad 5)), (3, .ref (ad 6)), (4, .ref (ad 7)), (5, .ref (ad 10))]) F.1 F.2.1 dL_points_86 hl (by decide) rfl (fun ls hl => ?_)
  refine lv_iconst (v := 0) F.1 F.2.1 dL_points_88 (by decide) ?_
  refine lv_istore (lv' := [(8, .int 0), (6, .int (v_L_points_86 S i1)), (7, .int (f_L_listOf S (S 2 ((14 * i1) + 3)))), (0, .int (nI i1)), (1, .ref (ad 2)), (2, .ref (ad 5)), (3, .ref (ad 6)), (4, .ref (ad 7)), (5, .ref (ad 10))]) F.1 F.2.1 dL_points_89 hl (by decide) rfl (fun ls hl => ?_)
  refine lv_iconst (v := 0) F.1 F.2.1 dL_points_91 (by decide) ?_
  refine lv_istore (lv' := [(9, .int 0), (8, .int 0), (6, .int (v_L_points_86 S i1)), (7, .int (f_L_listOf S (S 2 ((14 * i1) + 3)))), (0, .int (nI i1)), (1, .ref (ad 2)), (2, .ref (ad 5)), (3, .ref (ad 6)), (4, .ref (ad 7)), (5, .ref (ad 10))]) F.1 F.2.1 dL_points_92 hl (by decide) rfl (fun ls hl => ?_)
  refine lv_iconst (v := 0) F.1 F.2.1 dL_points_94 (by decide) ?_
  refine lv_istore (lv' := [(10, .int 0), (9, .int 0), (8, .int 0), (6, .int (v_L_points_86 S i1)), (7, .int (f_L_listOf S (S 2 ((14 * i1) + 3)))), (0, .int (nI i1)), (1, .ref (ad 2)), (2, .ref (ad 5)), (3, .ref (ad 6)), (4, .ref (ad 7)), (5, .ref (ad 10))]) F.1 F.2.1 dL_points_95 hl (by decide) rfl (fun ls hl => ?_)
  refine q_loop (P := fun k97 ls => lv_has ls 11 [(10, .int (nI k97)), (9, .int (L_L_points_97_9 S i1 k97)), (8, .int (L_L_points_97_8 S i1 k97)), (6, .int (v_L_points_86 S i1)), (7, .int (f_L_listOf S (S 2 ((14 * i1) + 3)))), (0, .int (nI i1)), (1, .ref (ad 2)), (2, .ref (ad 5)), (3, .ref (ad 6)), (4, .ref (ad 7)), (5, .ref (ad 10))]) (gv S) (fun k97 ls hk97 hl ih97 => ?_) 0 ls (Nat.zero_le _) (lv_cg (lv_sub hl [0, 1, 2, 3, 4, 5, 6, 7, 8, 9, 10] rfl) rfl)
  refine lv_iload F.1 F.2.1 dL_points_97 (lv_at hl 0 rfl) ?_
  refine lv_aload F.1 F.2.1 dL_points_99 (lv_at hl 10 rfl) ?_
  refine lv_iconst (v := 2) F.1 F.2.1 dL_points_101 (by decide) ?_
  refine l_ild F w hL 10 rfl 2 (show 2 < 9 by omega) dL_points_102 ?_
  refine lv_fold (y := nI (gv S)) (hV.1) ?_
  refine lv_icmp_ge (tgt := 187) F.1 F.2.1 dL_points_103 (by decide) (fun c_5 => ?_) (fun c_5 => ?_)
  rotate_left
  · have hlt97 : k97 < (gv S) := GB_ilt (n := gv S) rfl (by omega) hk97 c_5
    refine lv_aload_n F.1 F.2.1 dL_points_106 rfl (lv_at hl 7 rfl) ?_
    refine lv_iload F.1 F.2.1 dL_points_107 (lv_at hl 0 rfl) ?_
    refine l_ild F w hL 5 rfl k97 (show k97 < 50 by omega) dL_points_109 ?_
    refine lv_iconst (v := 3) F.1 F.2.1 dL_points_110 (by decide) ?_
    refine lv_iand F.1 F.2.1 dL_points_111 ?_
    refine lv_iload_n F.1 F.2.1 dL_points_112 rfl (lv_at hl 5 rfl) ?_
    refine jnl (m := m) 11 [(10, .int (nI k97)), (9, .int (if (S 5 k97) &&& 3 = nI i1 then (if S 10 0 < (S 6 k97) + 1095 then (L_L_points_97_9 S i1 k97) + (if f_L_counts S k97 = 0 then 0 else 1) else L_L_points_97_9 S i1 k97) else L_L_points_97_9 S i1 k97)), (8, .int (if (S 5 k97) &&& 3 = nI i1 then (if S 10 0 < (S 6 k97) + 1095 then (if f_L_findings (S 5 k97) ≤ L_L_points_97_8 S i1 k97 then L_L_points_97_8 S i1 k97 else f_L_findings (S 5 k97)) else L_L_points_97_8 S i1 k97) else L_L_points_97_8 S i1 k97)), (6, .int (v_L_points_86 S i1)), (7, .int (f_L_listOf S (S 2 ((14 * i1) + 3)))), (0, .int (nI i1)), (1, .ref (ad 2)), (2, .ref (ad 5)), (3, .ref (ad 6)), (4, .ref (ad 7)), (5, .ref (ad 10))] [] 181 (fun J_6 => ?_) ?_
    · refine lv_icmp_ne (tgt := 181) F.1 F.2.1 dL_points_113 (by decide) (fun c_7 => ?_) (fun c_7 => ?_)
      · exact J_6 ls (lv_sub hl [0, 1, 2, 3, 4, 5, 6, 7, 8, 9, 10] (by rw [((if_neg c_7) : (if (S 5 k97) &&& 3 = nI i1 then (if S 10 0 < (S 6 k97) + 1095 then (L_L_points_97_9 S i1 k97) + (if f_L_counts S k97 = 0 then 0 else 1) else L_L_points_97_9 S i1 k97) else L_L_points_97_9 S i1 k97) = L_L_points_97_9 S i1 k97), ((if_neg c_7) : (if (S 5 k97) &&& 3 = nI i1 then (if S 10 0 < (S 6 k97) + 1095 then (if f_L_findings (S 5 k97) ≤ L_L_points_97_8 S i1 k97 then L_L_points_97_8 S i1 k97 else f_L_findings (S 5 k97)) else L_L_points_97_8 S i1 k97) else L_L_points_97_8 S i1 k97) = L_L_points_97_8 S i1 k97)] <;> rfl))
      · refine lv_aload F.1 F.2.1 dL_points_116 (lv_at hl 10 rfl) ?_
        refine lv_iconst (v := 0) F.1 F.2.1 dL_points_118 (by decide) ?_
        refine l_ild F w hL 10 rfl 0 (show 0 < 9 by omega) dL_points_119 ?_
        refine lv_aload_n F.1 F.2.1 dL_points_120 rfl (lv_at hl 8 rfl) ?_
        refine lv_iload F.1 F.2.1 dL_points_121 (lv_at hl 0 rfl) ?_
        refine l_ild F w hL 6 rfl k97 (show k97 < 50 by omega) dL_points_123 ?_
        refine lv_sipush (v := 1095) F.1 F.2.1 dL_points_124 (by decide) ?_
        refine lv_iadd F.1 F.2.1 dL_points_127 ?_
        refine lv_icmp_lt (tgt := 134) F.1 F.2.1 dL_points_128 (by decide) (fun c_8 => ?_) (fun c_8 => ?_)
        · refine lv_aload_n F.1 F.2.1 dL_points_134 rfl (lv_at hl 7 rfl) ?_
          refine lv_iload F.1 F.2.1 dL_points_135 (lv_at hl 0 rfl) ?_
          refine l_ild F w hL 5 rfl k97 (show k97 < 50 by omega) dL_points_137 ?_
          refine q_rS (rest := []) F w kS_L_112 hd_L_findings (c_L_findings l D cy A _ (S 5 k97)) dL_points_138 rfl rfl hl.1 ⟨rfl, rfl, Nat.le_of_ble_eq_true rfl, Nat.le_of_ble_eq_true rfl⟩ (Nat.le_of_ble_eq_true rfl) ⟨Nat.zero_le _, Nat.zero_le _⟩ ?_
          refine lv_iload F.1 F.2.1 dL_points_141 (lv_at hl 2 rfl) ?_
          refine jn0 (m := m) (ls := ls) (rest := []) (if f_L_findings (S 5 k97) ≤ L_L_points_97_8 S i1 k97 then L_L_points_97_8 S i1 k97 else f_L_findings (S 5 k97)) 158 (fun J_9 => ?_) ?_
          · refine lv_icmp_le (tgt := 156) F.1 F.2.1 dL_points_143 (by decide) (fun c_10 => ?_) (fun c_10 => ?_)
            · refine lv_iload F.1 F.2.1 dL_points_156 (lv_at hl 2 rfl) ?_
              exact jn_a (if_pos c_10) J_9
            · refine lv_aload_n F.1 F.2.1 dL_points_146 rfl (lv_at hl 7 rfl) ?_
              refine lv_iload F.1 F.2.1 dL_points_147 (lv_at hl 0 rfl) ?_
              refine l_ild F w hL 5 rfl k97 (show k97 < 50 by omega) dL_points_149 ?_
              refine q_rS (rest := []) F w kS_L_112 hd_L_findings (c_L_findings l D cy A _ (S 5 k97)) dL_points_150 rfl rfl hl.1 ⟨rfl, rfl, Nat.le_of_ble_eq_true rfl, Nat.le_of_ble_eq_true rfl⟩ (Nat.le_of_ble_eq_true rfl) ⟨Nat.zero_le _, Nat.zero_le _⟩ ?_
              refine lv_goto (tgt := 158) F.1 F.2.1 dL_points_153 (by decide) ?_
              exact jn_a (if_neg c_10) J_9
          refine lv_istore (lv' := [(8, .int (if f_L_findings (S 5 k97) ≤ L_L_points_97_8 S i1 k97 then L_L_points_97_8 S i1 k97 else f_L_findings (S 5 k97))), (10, .int (nI k97)), (9, .int (L_L_points_97_9 S i1 k97)), (6, .int (v_L_points_86 S i1)), (7, .int (f_L_listOf S (S 2 ((14 * i1) + 3)))), (0, .int (nI i1)), (1, .ref (ad 2)), (2, .ref (ad 5)), (3, .ref (ad 6)), (4, .ref (ad 7)), (5, .ref (ad 10))]) F.1 F.2.1 dL_points_158 hl (by decide) rfl (fun ls hl => ?_)
          refine lv_iload F.1 F.2.1 dL_points_160 (lv_at hl 2 rfl) ?_
          refine lv_iload F.1 F.2.1 dL_points_162 (lv_at hl 1 rfl) ?_
          refine lv_aload_n F.1 F.2.1 dL_points_164 rfl (lv_at hl 7 rfl) ?_
          refine lv_aload F.1 F.2.1 dL_points_165 (lv_at hl 9 rfl) ?_
          refine q_rS (rest := [.int (L_L_points_97_9 S i1 k97)]) F w kS_L_104 hd_L_counts (c_L_counts l D cy A _ ad S Wf hL k97 (show k97 < 50 by omega)) dL_points_167 rfl rfl hl.1 ⟨rfl, rfl, Nat.le_of_ble_eq_true rfl, Nat.le_of_ble_eq_true rfl⟩ (Nat.le_of_ble_eq_true rfl) ⟨Nat.zero_le _, Nat.zero_le _⟩ ?_
          refine jn0 (m := m) (ls := ls) (rest := [.int (L_L_points_97_9 S i1 k97)]) (if f_L_counts S k97 = 0 then 0 else 1) 178 (fun J_11 => ?_) ?_
          · refine lv_if_eq (tgt := 177) F.1 F.2.1 dL_points_170 (by decide) (fun c_12 => ?_) (fun c_12 => ?_)
            · refine lv_iconst (v := 0) F.1 F.2.1 dL_points_177 (by decide) ?_
              exact jn_a (if_pos c_12) J_11
            · refine lv_iconst (v := 1) F.1 F.2.1 dL_points_173 (by decide) ?_
              refine lv_goto (tgt := 178) F.1 F.2.1 dL_points_174 (by decide) ?_
              exact jn_a (if_neg c_12) J_11
          refine lv_iadd F.1 F.2.1 dL_points_178 ?_
          refine lv_istore (lv' := [(9, .int ((L_L_points_97_9 S i1 k97) + (if f_L_counts S k97 = 0 then 0 else 1))), (8, .int (if f_L_findings (S 5 k97) ≤ L_L_points_97_8 S i1 k97 then L_L_points_97_8 S i1 k97 else f_L_findings (S 5 k97))), (10, .int (nI k97)), (6, .int (v_L_points_86 S i1)), (7, .int (f_L_listOf S (S 2 ((14 * i1) + 3)))), (0, .int (nI i1)), (1, .ref (ad 2)), (2, .ref (ad 5)), (3, .ref (ad 6)), (4, .ref (ad 7)), (5, .ref (ad 10))]) F.1 F.2.1 dL_points_179 hl (by decide) rfl (fun ls hl => ?_)
          exact J_6 ls (lv_sub hl [2, 0, 1, 3, 4, 5, 6, 7, 8, 9, 10] (by rw [(((if_pos c_7).trans (if_pos c_8)) : (if (S 5 k97) &&& 3 = nI i1 then (if S 10 0 < (S 6 k97) + 1095 then (L_L_points_97_9 S i1 k97) + (if f_L_counts S k97 = 0 then 0 else 1) else L_L_points_97_9 S i1 k97) else L_L_points_97_9 S i1 k97) = (L_L_points_97_9 S i1 k97) + (if f_L_counts S k97 = 0 then 0 else 1)), (((if_pos c_7).trans (if_pos c_8)) : (if (S 5 k97) &&& 3 = nI i1 then (if S 10 0 < (S 6 k97) + 1095 then (if f_L_findings (S 5 k97) ≤ L_L_points_97_8 S i1 k97 then L_L_points_97_8 S i1 k97 else f_L_findings (S 5 k97)) else L_L_points_97_8 S i1 k97) else L_L_points_97_8 S i1 k97) = if f_L_findings (S 5 k97) ≤ L_L_points_97_8 S i1 k97 then L_L_points_97_8 S i1 k97 else f_L_findings (S 5 k97))] <;> rfl))
        · refine lv_goto (tgt := 181) F.1 F.2.1 dL_points_131 (by decide) ?_
          exact J_6 ls (lv_sub hl [0, 1, 2, 3, 4, 5, 6, 7, 8, 9, 10] (by rw [(((if_pos c_7).trans (if_neg c_8)) : (if (S 5 k97) &&& 3 = nI i1 then (if S 10 0 < (S 6 k97) + 1095 then (L_L_points_97_9 S i1 k97) + (if f_L_counts S k97 = 0 then 0 else 1) else L_L_points_97_9 S i1 k97) else L_L_points_97_9 S i1 k97) = L_L_points_97_9 S i1 k97), (((if_pos c_7).trans (if_neg c_8)) : (if (S 5 k97) &&& 3 = nI i1 then (if S 10 0 < (S 6 k97) + 1095 then (if f_L_findings (S 5 k97) ≤ L_L_points_97_8 S i1 k97 then L_L_points_97_8 S i1 k97 else f_L_findings (S 5 k97)) else L_L_points_97_8 S i1 k97) else L_L_points_97_8 S i1 k97) = L_L_points_97_8 S i1 k97)] <;> rfl))
    intro ls hl
    refine lv_iinc (v := nI (k97 + 1)) (lv' := [(10, .int (nI (k97 + 1))), (9, .int (if (S 5 k97) &&& 3 = nI i1 then (if S 10 0 < (S 6 k97) + 1095 then (L_L_points_97_9 S i1 k97) + (if f_L_counts S k97 = 0 then 0 else 1) else L_L_points_97_9 S i1 k97) else L_L_points_97_9 S i1 k97)), (8, .int (if (S 5 k97) &&& 3 = nI i1 then (if S 10 0 < (S 6 k97) + 1095 then (if f_L_findings (S 5 k97) ≤ L_L_points_97_8 S i1 k97 then L_L_points_97_8 S i1 k97 else f_L_findings (S 5 k97)) else L_L_points_97_8 S i1 k97) else L_L_points_97_8 S i1 k97)), (6, .int (v_L_points_86 S i1)), (7, .int (f_L_listOf S (S 2 ((14 * i1) + 3)))), (0, .int (nI i1)), (1, .ref (ad 2)), (2, .ref (ad 5)), (3, .ref (ad 6)), (4, .ref (ad 7)), (5, .ref (ad 10))]) F.1 F.2.1 dL_points_181 hl (k := 0) rfl (nI_1 _) (by decide) rfl (fun ls hl => ?_)
    refine lv_goto (tgt := 97) F.1 F.2.1 dL_points_184 (by decide) ?_
    exact ih97 ls hlt97 (lv_sub hl [0, 1, 2, 3, 4, 5, 6, 7, 8, 9, 10] rfl)
  have hkn97 : k97 = (gv S) := GB_ile (n := gv S) rfl (by omega) hk97 c_5
  subst hkn97
  refine lv_iload F.1 F.2.1 dL_points_187 (lv_at hl 3 rfl) ?_
  refine lv_iload F.1 F.2.1 dL_points_189 (lv_at hl 2 rfl) ?_
  refine lv_iconst (v := 5) F.1 F.2.1 dL_points_191 (by decide) ?_
  refine jn0 (m := m) (ls := ls) (rest := [.int (v_L_points_86 S i1)]) (if L_L_points_97_8 S i1 (gv S) ≤ 5 then 0 else 1) 200 (fun J_13 => ?_) ?_
  · refine lv_icmp_le (tgt := 199) F.1 F.2.1 dL_points_192 (by decide) (fun c_14 => ?_) (fun c_14 => ?_)
    · refine lv_iconst (v := 0) F.1 F.2.1 dL_points_199 (by decide) ?_
      exact jn_a (if_pos c_14) J_13
    · refine lv_iconst (v := 1) F.1 F.2.1 dL_points_195 (by decide) ?_
      refine lv_goto (tgt := 200) F.1 F.2.1 dL_points_196 (by decide) ?_
      exact jn_a (if_neg c_14) J_13
  refine lv_iadd F.1 F.2.1 dL_points_200 ?_
  refine lv_iload F.1 F.2.1 dL_points_201 (lv_at hl 1 rfl) ?_
  refine lv_iconst (v := 2) F.1 F.2.1 dL_points_203 (by decide) ?_
  refine jn0 (m := m) (ls := ls) (rest := [.int ((v_L_points_86 S i1) + (if L_L_points_97_8 S i1 (gv S) ≤ 5 then 0 else 1))]) (if L_L_points_97_9 S i1 (gv S) ≤ 2 then L_L_points_97_9 S i1 (gv S) else 2) 213 (fun J_15 => ?_) ?_
  · refine lv_icmp_le (tgt := 211) F.1 F.2.1 dL_points_204 (by decide) (fun c_16 => ?_) (fun c_16 => ?_)
    · refine lv_iload F.1 F.2.1 dL_points_211 (lv_at hl 1 rfl) ?_
      exact jn_a (if_pos c_16) J_15
    · refine lv_iconst (v := 2) F.1 F.2.1 dL_points_207 (by decide) ?_
      refine lv_goto (tgt := 213) F.1 F.2.1 dL_points_208 (by decide) ?_
      exact jn_a (if_neg c_16) J_15
  refine lv_iadd F.1 F.2.1 dL_points_213 ?_
  exact q_reti F hr hlk rfl dL_points_214
noncomputable def f_L_risk (S : GS) (i1 : Nat) : Int32 := if f_L_points S i1 ≤ 4 then (if 0 < f_L_points S i1 then 1 else (if f_L_listOf S (S 2 ((14 * i1) + 3)) = 1 then 0 else 1)) else 2
set_option maxHeartbeats 4000000 in
set_option maxRecDepth 100000 in
theorem c_L_risk (l : Launch) (D : va_G) (cy : Nat → ClassId) (A : Nat → Prop) (μ : MU) (ad : Nat → Nat) (S : GS) (Wf : Nat → Int64) (hL : RepL cy ad S Wf μ) (i1 : Nat) (hi1 : i1 < 4) (hV : S 10 2 = nI (gv S) ∧ gv S ≤ 50) : Met l yL_risk (WS yL_risk cL_risk 7 (Option.some Jvm.ClassFile.FieldType.int)) { frames := 4, cells := 0, slots := 0, locals := 100 } (va_Pc [.int (nI i1), .ref (ad 2), .ref (ad 5), .ref (ad 6), .ref (ad 7), .ref (ad 10)] (Wd D cy A μ)) (QcRead (f_L_risk S i1)) 0 0 (fun _ => False) := by
  refine q_met (by decide) (Nat.le_of_ble_eq_true rfl) ?_
  intro p e s m below meth c F w hr hlk hnm ls hl
  have F : CallFix p m c cL_risk 7 s _ BIG RL := F
  have hl : lv_has ls 7 [(0, .int (nI i1)), (1, .ref (ad 2)), (2, .ref (ad 5)), (3, .ref (ad 6)), (4, .ref (ad 7)), (5, .ref (ad 10))] := hl
  refine lv_iload_n F.1 F.2.1 dL_risk_0 rfl (lv_at hl 0 rfl) ?_
  refine lv_aload_n F.1 F.2.1 dL_risk_1 rfl (lv_at hl 1 rfl) ?_
  refine lv_aload_n F.1 F.2.1 dL_risk_2 rfl (lv_at hl 2 rfl) ?_
  refine lv_aload_n F.1 F.2.1 dL_risk_3 rfl (lv_at hl 3 rfl) ?_
  refine lv_aload F.1 F.2.1 dL_risk_4 (lv_at hl 4 rfl) ?_
  refine lv_aload F.1 F.2.1 dL_risk_6 (lv_at hl 5 rfl) ?_
  refine q_rS (rest := []) F w kS_L_115 hd_L_points (c_L_points l D cy A _ ad S Wf hL i1 (show i1 < 4 by omega) hV) dL_risk_8 rfl rfl hl.1 ⟨rfl, rfl, Nat.le_of_ble_eq_true rfl, Nat.le_of_ble_eq_true rfl⟩ (Nat.le_of_ble_eq_true rfl) ⟨Nat.zero_le _, Nat.zero_le _⟩ ?_
  refine lv_istore (lv' := [(6, .int (f_L_points S i1)), (0, .int (nI i1)), (1, .ref (ad 2)), (2, .ref (ad 5)), (3, .ref (ad 6)), (4, .ref (ad 7)), (5, .ref (ad 10))]) F.1 F.2.1 dL_risk_11 hl (by decide) rfl (fun ls hl => ?_)
  refine lv_iload F.1 F.2.1 dL_risk_13 (lv_at hl 0 rfl) ?_
  refine lv_iconst (v := 4) F.1 F.2.1 dL_risk_15 (by decide) ?_
  refine lv_icmp_le (tgt := 21) F.1 F.2.1 dL_risk_16 (by decide) (fun c_1 => ?_) (fun c_1 => ?_)
  · refine lv_iload F.1 F.2.1 dL_risk_21 (lv_at hl 0 rfl) ?_
    refine jn0 (m := m) (ls := ls) (rest := []) (if 0 < f_L_points S i1 then 1 else (if f_L_listOf S (S 2 ((14 * i1) + 3)) = 1 then 0 else 1)) 52 (fun J_2 => ?_) ?_
    · refine lv_if_gt (tgt := 47) F.1 F.2.1 dL_risk_23 (by decide) (fun c_3 => ?_) (fun c_3 => ?_)
      · refine lv_iconst (v := 1) F.1 F.2.1 dL_risk_47 (by decide) ?_
        refine lv_goto (tgt := 52) F.1 F.2.1 dL_risk_48 (by decide) ?_
        exact jn_a (if_pos c_3) J_2
      · refine lv_aload_n F.1 F.2.1 dL_risk_26 rfl (lv_at hl 2 rfl) ?_
        refine lv_bipush (v := 14) F.1 F.2.1 dL_risk_27 (by decide) ?_
        refine lv_iload_n F.1 F.2.1 dL_risk_29 rfl (lv_at hl 1 rfl) ?_
        refine lv_imul F.1 F.2.1 dL_risk_30 ?_
        refine lv_fold (y := nI (14 * i1)) (pk_mul 14 i1) ?_
        refine lv_iconst (v := 3) F.1 F.2.1 dL_risk_31 (by decide) ?_
        refine lv_iadd F.1 F.2.1 dL_risk_32 ?_
        refine lv_fold (y := nI ((14 * i1) + 3)) (nI_add (14 * i1) 3) ?_
        refine l_ild F w hL 2 rfl ((14 * i1) + 3) (show (14 * i1) + 3 < 56 by omega) dL_risk_33 ?_
        refine lv_aload_n F.1 F.2.1 dL_risk_34 rfl (lv_at hl 3 rfl) ?_
        refine lv_aload_n F.1 F.2.1 dL_risk_35 rfl (lv_at hl 4 rfl) ?_
        refine lv_aload F.1 F.2.1 dL_risk_36 (lv_at hl 5 rfl) ?_
        refine lv_aload F.1 F.2.1 dL_risk_38 (lv_at hl 6 rfl) ?_
        refine q_rS (rest := []) F w kS_L_108 hd_L_listOf (c_L_listOf l D cy A _ ad S Wf hL (S 2 ((14 * i1) + 3)) hV) dL_risk_40 rfl rfl hl.1 ⟨rfl, rfl, Nat.le_of_ble_eq_true rfl, Nat.le_of_ble_eq_true rfl⟩ (Nat.le_of_ble_eq_true rfl) ⟨Nat.zero_le _, Nat.zero_le _⟩ ?_
        refine lv_iconst (v := 1) F.1 F.2.1 dL_risk_43 (by decide) ?_
        refine lv_icmp_eq (tgt := 51) F.1 F.2.1 dL_risk_44 (by decide) (fun c_4 => ?_) (fun c_4 => ?_)
        · refine lv_iconst (v := 0) F.1 F.2.1 dL_risk_51 (by decide) ?_
          exact jn_a ((if_neg c_3).trans (if_pos c_4)) J_2
        · refine lv_iconst (v := 1) F.1 F.2.1 dL_risk_47 (by decide) ?_
          refine lv_goto (tgt := 52) F.1 F.2.1 dL_risk_48 (by decide) ?_
          exact jn_a ((if_neg c_3).trans (if_neg c_4)) J_2
    exact q_reti F hr hlk (if_pos c_1) dL_risk_52
  · refine lv_iconst (v := 2) F.1 F.2.1 dL_risk_19 (by decide) ?_
    exact q_reti F hr hlk (if_neg c_1) dL_risk_20
noncomputable def v_L_priority_63 (S : GS) (i1 : Nat) : Int32 := (S 6 (S 2 ((14 * i1) + 8)).toNatClampNeg) + (if f_L_risk S i1 = 2 then 150 else (if f_L_risk S i1 = 0 then 720 else 300))
noncomputable def v_L_priority_96 (S : GS) (i1 : Nat) : Int32 := (S 6 (S 2 ((14 * i1) + 8)).toNatClampNeg) + (if f_L_risk S i1 = 2 then 181 else (if f_L_risk S i1 = 0 then 1081 else 361))
noncomputable def f_L_priority (S : GS) (i1 : Nat) : Int32 := if S 2 ((14 * i1) + 8) = (-1) then 2 else if v_L_priority_63 S i1 ≤ S 10 0 then (if v_L_priority_96 S i1 ≤ S 10 0 then 2 else 1) else 0
set_option maxHeartbeats 4000000 in
set_option maxRecDepth 100000 in
theorem c_L_priority (l : Launch) (D : va_G) (cy : Nat → ClassId) (A : Nat → Prop) (μ : MU) (ad : Nat → Nat) (S : GS) (Wf : Nat → Int64) (hL : RepL cy ad S Wf μ) (i1 : Nat) (hi1 : i1 < 4) (hV : S 10 2 = nI (gv S) ∧ gv S ≤ 50) (hla : ¬ S 2 (14 * i1 + 8) = -1 → vp_in (S 2 (14 * i1 + 8)) 50) : Met l yL_priority (WS yL_priority cL_priority 10 (Option.some Jvm.ClassFile.FieldType.int)) { frames := 5, cells := 0, slots := 0, locals := 126 } (va_Pc [.int (nI i1), .ref (ad 2), .ref (ad 5), .ref (ad 6), .ref (ad 7), .ref (ad 10)] (Wd D cy A μ)) (QcRead (f_L_priority S i1)) 0 0 (fun _ => False) := by
  refine q_met (by decide) (Nat.le_of_ble_eq_true rfl) ?_
  intro p e s m below meth c F w hr hlk hnm ls hl
  have F : CallFix p m c cL_priority 10 s _ BIG RL := F
  have hl : lv_has ls 10 [(0, .int (nI i1)), (1, .ref (ad 2)), (2, .ref (ad 5)), (3, .ref (ad 6)), (4, .ref (ad 7)), (5, .ref (ad 10))] := hl
  refine lv_aload_n F.1 F.2.1 dL_priority_0 rfl (lv_at hl 1 rfl) ?_
  refine lv_bipush (v := 14) F.1 F.2.1 dL_priority_1 (by decide) ?_
  refine lv_iload_n F.1 F.2.1 dL_priority_3 rfl (lv_at hl 0 rfl) ?_
  refine lv_imul F.1 F.2.1 dL_priority_4 ?_
  refine lv_fold (y := nI (14 * i1)) (pk_mul 14 i1) ?_
  refine lv_bipush (v := 8) F.1 F.2.1 dL_priority_5 (by decide) ?_
  refine lv_iadd F.1 F.2.1 dL_priority_7 ?_
  refine lv_fold (y := nI ((14 * i1) + 8)) (nI_add (14 * i1) 8) ?_
  refine l_ild F w hL 2 rfl ((14 * i1) + 8) (show (14 * i1) + 8 < 56 by omega) dL_priority_8 ?_
  refine lv_istore (lv' := [(6, .int (S 2 ((14 * i1) + 8))), (0, .int (nI i1)), (1, .ref (ad 2)), (2, .ref (ad 5)), (3, .ref (ad 6)), (4, .ref (ad 7)), (5, .ref (ad 10))]) F.1 F.2.1 dL_priority_9 hl (by decide) rfl (fun ls hl => ?_)
  refine lv_iload F.1 F.2.1 dL_priority_11 (lv_at hl 0 rfl) ?_
  refine lv_iconst (v := -1) F.1 F.2.1 dL_priority_13 (by decide) ?_
  refine lv_icmp_ne (tgt := 19) F.1 F.2.1 dL_priority_14 (by decide) (fun c_1 => ?_) (fun c_1 => ?_)
  · refine lv_iload_n F.1 F.2.1 dL_priority_19 rfl (lv_at hl 1 rfl) ?_
    refine lv_aload_n F.1 F.2.1 dL_priority_20 rfl (lv_at hl 2 rfl) ?_
    refine lv_aload_n F.1 F.2.1 dL_priority_21 rfl (lv_at hl 3 rfl) ?_
    refine lv_aload_n F.1 F.2.1 dL_priority_22 rfl (lv_at hl 4 rfl) ?_
    refine lv_aload F.1 F.2.1 dL_priority_23 (lv_at hl 5 rfl) ?_
    refine lv_aload F.1 F.2.1 dL_priority_25 (lv_at hl 6 rfl) ?_
    refine q_rS (rest := []) F w kS_L_119 hd_L_risk (c_L_risk l D cy A _ ad S Wf hL i1 (show i1 < 4 by omega) hV) dL_priority_27 rfl rfl hl.1 ⟨rfl, rfl, Nat.le_of_ble_eq_true rfl, Nat.le_of_ble_eq_true rfl⟩ (Nat.le_of_ble_eq_true rfl) ⟨Nat.zero_le _, Nat.zero_le _⟩ ?_
    refine lv_istore (lv' := [(7, .int (f_L_risk S i1)), (6, .int (S 2 ((14 * i1) + 8))), (0, .int (nI i1)), (1, .ref (ad 2)), (2, .ref (ad 5)), (3, .ref (ad 6)), (4, .ref (ad 7)), (5, .ref (ad 10))]) F.1 F.2.1 dL_priority_30 hl (by decide) rfl (fun ls hl => ?_)
    refine lv_aload_n F.1 F.2.1 dL_priority_32 rfl (lv_at hl 5 rfl) ?_
    refine lv_iload F.1 F.2.1 dL_priority_33 (lv_at hl 1 rfl) ?_
    refine l_ildx F w hL 6 rfl (hla c_1) dL_priority_35 ?_
    refine lv_iload F.1 F.2.1 dL_priority_36 (lv_at hl 0 rfl) ?_
    refine lv_iconst (v := 2) F.1 F.2.1 dL_priority_38 (by decide) ?_
    refine jn0 (m := m) (ls := ls) (rest := [.int (S 6 (S 2 ((14 * i1) + 8)).toNatClampNeg)]) (if f_L_risk S i1 = 2 then 150 else (if f_L_risk S i1 = 0 then 720 else 300)) 62 (fun J_2 => ?_) ?_
    · refine lv_icmp_ne (tgt := 48) F.1 F.2.1 dL_priority_39 (by decide) (fun c_3 => ?_) (fun c_3 => ?_)
      · refine lv_iload F.1 F.2.1 dL_priority_48 (lv_at hl 0 rfl) ?_
        refine lv_if_ne (tgt := 59) F.1 F.2.1 dL_priority_50 (by decide) (fun c_4 => ?_) (fun c_4 => ?_)
        · refine lv_sipush (v := 300) F.1 F.2.1 dL_priority_59 (by decide) ?_
          exact jn_a ((if_neg c_3).trans (if_neg c_4)) J_2
        · refine lv_sipush (v := 720) F.1 F.2.1 dL_priority_53 (by decide) ?_
          refine lv_goto (tgt := 62) F.1 F.2.1 dL_priority_56 (by decide) ?_
          exact jn_a ((if_neg c_3).trans (if_pos c_4)) J_2
      · refine lv_sipush (v := 150) F.1 F.2.1 dL_priority_42 (by decide) ?_
        refine lv_goto (tgt := 62) F.1 F.2.1 dL_priority_45 (by decide) ?_
        exact jn_a (if_pos c_3) J_2
    refine lv_iadd F.1 F.2.1 dL_priority_62 ?_
    refine lv_fold (y := v_L_priority_63 S i1) rfl ?_
    refine lv_istore (lv' := [(8, .int (v_L_priority_63 S i1)), (7, .int (f_L_risk S i1)), (6, .int (S 2 ((14 * i1) + 8))), (0, .int (nI i1)), (1, .ref (ad 2)), (2, .ref (ad 5)), (3, .ref (ad 6)), (4, .ref (ad 7)), (5, .ref (ad 10))]) F.1 F.2.1 dL_priority_63 hl (by decide) rfl (fun ls hl => ?_)
    refine lv_aload_n F.1 F.2.1 dL_priority_65 rfl (lv_at hl 6 rfl) ?_
    refine lv_iload F.1 F.2.1 dL_priority_66 (lv_at hl 2 rfl) ?_
    refine l_ildx F w hL 6 rfl (hla c_1) dL_priority_68 ?_
    refine lv_iload F.1 F.2.1 dL_priority_69 (lv_at hl 1 rfl) ?_
    refine lv_iconst (v := 2) F.1 F.2.1 dL_priority_71 (by decide) ?_
    refine jn0 (m := m) (ls := ls) (rest := [.int (S 6 (S 2 ((14 * i1) + 8)).toNatClampNeg)]) (if f_L_risk S i1 = 2 then 181 else (if f_L_risk S i1 = 0 then 1081 else 361)) 95 (fun J_5 => ?_) ?_
    · refine lv_icmp_ne (tgt := 81) F.1 F.2.1 dL_priority_72 (by decide) (fun c_6 => ?_) (fun c_6 => ?_)
      · refine lv_iload F.1 F.2.1 dL_priority_81 (lv_at hl 1 rfl) ?_
        refine lv_if_ne (tgt := 92) F.1 F.2.1 dL_priority_83 (by decide) (fun c_7 => ?_) (fun c_7 => ?_)
        · refine lv_sipush (v := 361) F.1 F.2.1 dL_priority_92 (by decide) ?_
          exact jn_a ((if_neg c_6).trans (if_neg c_7)) J_5
        · refine lv_sipush (v := 1081) F.1 F.2.1 dL_priority_86 (by decide) ?_
          refine lv_goto (tgt := 95) F.1 F.2.1 dL_priority_89 (by decide) ?_
          exact jn_a ((if_neg c_6).trans (if_pos c_7)) J_5
      · refine lv_sipush (v := 181) F.1 F.2.1 dL_priority_75 (by decide) ?_
        refine lv_goto (tgt := 95) F.1 F.2.1 dL_priority_78 (by decide) ?_
        exact jn_a (if_pos c_6) J_5
    refine lv_iadd F.1 F.2.1 dL_priority_95 ?_
    refine lv_fold (y := v_L_priority_96 S i1) rfl ?_
    refine lv_istore (lv' := [(9, .int (v_L_priority_96 S i1)), (8, .int (v_L_priority_63 S i1)), (7, .int (f_L_risk S i1)), (6, .int (S 2 ((14 * i1) + 8))), (0, .int (nI i1)), (1, .ref (ad 2)), (2, .ref (ad 5)), (3, .ref (ad 6)), (4, .ref (ad 7)), (5, .ref (ad 10))]) F.1 F.2.1 dL_priority_96 hl (by decide) rfl (fun ls hl => ?_)
    refine lv_aload F.1 F.2.1 dL_priority_98 (lv_at hl 9 rfl) ?_
    refine lv_iconst (v := 0) F.1 F.2.1 dL_priority_100 (by decide) ?_
    refine l_ild F w hL 10 rfl 0 (show 0 < 9 by omega) dL_priority_101 ?_
    refine lv_iload F.1 F.2.1 dL_priority_102 (lv_at hl 1 rfl) ?_
    refine jn0 (m := m) (ls := ls) (rest := []) (if v_L_priority_63 S i1 ≤ S 10 0 then (if v_L_priority_96 S i1 ≤ S 10 0 then 2 else 1) else 0) 125 (fun J_8 => ?_) ?_
    · refine lv_icmp_ge (tgt := 111) F.1 F.2.1 dL_priority_104 (by decide) (fun c_9 => ?_) (fun c_9 => ?_)
      · refine lv_aload F.1 F.2.1 dL_priority_111 (lv_at hl 9 rfl) ?_
        refine lv_iconst (v := 0) F.1 F.2.1 dL_priority_113 (by decide) ?_
        refine l_ild F w hL 10 rfl 0 (show 0 < 9 by omega) dL_priority_114 ?_
        refine lv_iload F.1 F.2.1 dL_priority_115 (lv_at hl 0 rfl) ?_
        refine lv_icmp_ge (tgt := 124) F.1 F.2.1 dL_priority_117 (by decide) (fun c_10 => ?_) (fun c_10 => ?_)
        · refine lv_iconst (v := 2) F.1 F.2.1 dL_priority_124 (by decide) ?_
          exact jn_a ((if_pos c_9).trans (if_pos c_10)) J_8
        · refine lv_iconst (v := 1) F.1 F.2.1 dL_priority_120 (by decide) ?_
          refine lv_goto (tgt := 125) F.1 F.2.1 dL_priority_121 (by decide) ?_
          exact jn_a ((if_pos c_9).trans (if_neg c_10)) J_8
      · refine lv_iconst (v := 0) F.1 F.2.1 dL_priority_107 (by decide) ?_
        refine lv_goto (tgt := 125) F.1 F.2.1 dL_priority_108 (by decide) ?_
        exact jn_a (if_neg c_9) J_8
    exact q_reti F hr hlk (if_neg c_1) dL_priority_125
  · refine lv_iconst (v := 2) F.1 F.2.1 dL_priority_17 (by decide) ?_
    exact q_reti F hr hlk (if_pos c_1) dL_priority_18
def v_L_ground_69 (S : GS) (i1 : Nat) (x2 : Int32) (k3 : Nat) : Int32 := if S 4 (5 * k3) = x2 then (if S 2 ((14 * i1) + 1) < S 4 ((5 * k3) + 1) then 0 else (if ((S 4 ((5 * k3) + 2)) >>> ((S 2 ((14 * i1) + 2)) &&& 31)) &&& 1 = 1 then 1 else 0)) else 0
theorem nz_v_L_ground_69 (S : GS) (i1 : Nat) (x2 : Int32) (k3 : Nat) : nz (v_L_ground_69 S i1 x2 k3) := (nz_ite (nz_ite nz0 (nz_ite nz1 nz0)) nz0)
def E_L_ground_3 (S : GS) (i1 : Nat) (x2 : Int32) : Nat → Nat → Int32
  | 0, _ => 0
  | d + 1, k3 => if v_L_ground_69 S i1 x2 k3 = 0 then (E_L_ground_3 S i1 x2 d (k3 + 1)) else (if S 10 0 < (if S 4 ((5 * k3) + 3) ≤ S 2 (14 * i1) then S 4 ((5 * k3) + 3) else (S 4 ((5 * k3) + 3)) + (S 4 ((5 * k3) + 4)) : Int32) then (E_L_ground_3 S i1 x2 d (k3 + 1)) else 1)
theorem nz_E_L_ground_3 (S : GS) (i1 : Nat) (x2 : Int32) : ∀ d k : Nat, nz (E_L_ground_3 S i1 x2 d k)
  | 0, _ => nz0
  | d + 1, k3 => (nz_ite (nz_E_L_ground_3 _ _ _ _ _) (nz_ite (nz_E_L_ground_3 _ _ _ _ _) nz1))
def f_L_ground (S : GS) (i1 : Nat) (x2 : Int32) : Int32 := E_L_ground_3 S i1 x2 (gr S) 0
theorem nz_f_L_ground (S : GS) (i1 : Nat) (x2 : Int32) : nz (f_L_ground S i1 x2) := (nz_E_L_ground_3 _ _ _ _ _)
set_option maxHeartbeats 4000000 in
set_option maxRecDepth 100000 in
theorem c_L_ground (l : Launch) (D : va_G) (cy : Nat → ClassId) (A : Nat → Prop) (μ : MU) (ad : Nat → Nat) (S : GS) (Wf : Nat → Int64) (hL : RepL cy ad S Wf μ) (i1 : Nat) (x2 : Int32) (hi1 : i1 < 4) (hRr : S 10 1 = nI (gr S) ∧ gr S ≤ 10) : Met l yL_ground (WS yL_ground cL_ground 8 (Option.some Jvm.ClassFile.FieldType.boolean)) { frames := 0, cells := 0, slots := 0, locals := 0 } (va_Pc [.int (nI i1), .int x2, .ref (ad 2), .ref (ad 4), .ref (ad 10)] (Wd D cy A μ)) (QcRead (f_L_ground S i1 x2)) 0 0 (fun _ => False) := by
  refine q_met (by decide) (Nat.le_of_ble_eq_true rfl) ?_
  intro p e s m below meth c F w hr hlk hnm ls hl
  have F : CallFix p m c cL_ground 8 s _ BIG RL := F
  have hl : lv_has ls 8 [(0, .int (nI i1)), (1, .int x2), (2, .ref (ad 2)), (3, .ref (ad 4)), (4, .ref (ad 10))] := hl
  have hR10 := hRr.2
  refine lv_iconst (v := 0) F.1 F.2.1 dL_ground_0 (by decide) ?_
  refine lv_istore (lv' := [(5, .int 0), (0, .int (nI i1)), (1, .int x2), (2, .ref (ad 2)), (3, .ref (ad 4)), (4, .ref (ad 10))]) F.1 F.2.1 dL_ground_1 hl (by decide) rfl (fun ls hl => ?_)
  refine q_loop (P := fun k3 ls => lv_has ls 8 [(5, .int (nI k3)), (0, .int (nI i1)), (1, .int x2), (2, .ref (ad 2)), (3, .ref (ad 4)), (4, .ref (ad 10))] ∧ E_L_ground_3 S i1 x2 ((gr S) - k3) k3 = E_L_ground_3 S i1 x2 (gr S) 0) (gr S) (fun k3 ls hk3 hl9 ih3 => ?_) 0 ls (Nat.zero_le _) ⟨lv_cg (lv_sub hl [0, 1, 2, 3, 4, 5] rfl) rfl, rfl⟩
  obtain ⟨hl, hE⟩ := hl9
  refine lv_iload F.1 F.2.1 dL_ground_3 (lv_at hl 0 rfl) ?_
  refine lv_aload F.1 F.2.1 dL_ground_5 (lv_at hl 5 rfl) ?_
  refine lv_iconst (v := 1) F.1 F.2.1 dL_ground_7 (by decide) ?_
  refine l_ild F w hL 10 rfl 1 (show 1 < 9 by omega) dL_ground_8 ?_
  refine lv_fold (y := nI (gr S)) (hRr.1) ?_
  refine lv_icmp_ge (tgt := 127) F.1 F.2.1 dL_ground_9 (by decide) (fun c_1 => ?_) (fun c_1 => ?_)
  rotate_left
  · have hlt3 : k3 < (gr S) := GB_ilt (n := gr S) rfl (by omega) hk3 c_1
    have hE : E_L_ground_3 S i1 x2 ((gr S) - (k3 + 1) + 1) k3 = E_L_ground_3 S i1 x2 (gr S) 0 := by rw [show (gr S) - (k3 + 1) + 1 = (gr S) - k3 by omega]; exact hE
    refine lv_aload_n F.1 F.2.1 dL_ground_12 rfl (lv_at hl 4 rfl) ?_
    refine lv_iconst (v := 5) F.1 F.2.1 dL_ground_13 (by decide) ?_
    refine lv_iload F.1 F.2.1 dL_ground_14 (lv_at hl 0 rfl) ?_
    refine lv_imul F.1 F.2.1 dL_ground_16 ?_
    refine lv_fold (y := nI (5 * k3)) (pk_mul 5 k3) ?_
    refine l_ild F w hL 4 rfl (5 * k3) (show 5 * k3 < 50 by omega) dL_ground_17 ?_
    refine lv_iload_n F.1 F.2.1 dL_ground_18 rfl (lv_at hl 2 rfl) ?_
    refine jn0 (m := m) (ls := ls) (rest := []) (if S 4 (5 * k3) = x2 then (if S 2 ((14 * i1) + 1) < S 4 ((5 * k3) + 1) then 0 else (if ((S 4 ((5 * k3) + 2)) >>> ((S 2 ((14 * i1) + 2)) &&& 31)) &&& 1 = 1 then 1 else 0)) else 0) 69 (fun J_2 => ?_) ?_
    · refine lv_icmp_ne (tgt := 68) F.1 F.2.1 dL_ground_19 (by decide) (fun c_3 => ?_) (fun c_3 => ?_)
      · refine lv_iconst (v := 0) F.1 F.2.1 dL_ground_68 (by decide) ?_
        exact jn_a (if_neg c_3) J_2
      · refine lv_aload_n F.1 F.2.1 dL_ground_22 rfl (lv_at hl 3 rfl) ?_
        refine lv_bipush (v := 14) F.1 F.2.1 dL_ground_23 (by decide) ?_
        refine lv_iload_n F.1 F.2.1 dL_ground_25 rfl (lv_at hl 1 rfl) ?_
        refine lv_imul F.1 F.2.1 dL_ground_26 ?_
        refine lv_fold (y := nI (14 * i1)) (pk_mul 14 i1) ?_
        refine lv_iconst (v := 1) F.1 F.2.1 dL_ground_27 (by decide) ?_
        refine lv_iadd F.1 F.2.1 dL_ground_28 ?_
        refine lv_fold (y := nI ((14 * i1) + 1)) (nI_add (14 * i1) 1) ?_
        refine l_ild F w hL 2 rfl ((14 * i1) + 1) (show (14 * i1) + 1 < 56 by omega) dL_ground_29 ?_
        refine lv_aload_n F.1 F.2.1 dL_ground_30 rfl (lv_at hl 4 rfl) ?_
        refine lv_iconst (v := 5) F.1 F.2.1 dL_ground_31 (by decide) ?_
        refine lv_iload F.1 F.2.1 dL_ground_32 (lv_at hl 0 rfl) ?_
        refine lv_imul F.1 F.2.1 dL_ground_34 ?_
        refine lv_fold (y := nI (5 * k3)) (pk_mul 5 k3) ?_
        refine lv_iconst (v := 1) F.1 F.2.1 dL_ground_35 (by decide) ?_
        refine lv_iadd F.1 F.2.1 dL_ground_36 ?_
        refine lv_fold (y := nI ((5 * k3) + 1)) (nI_add (5 * k3) 1) ?_
        refine l_ild F w hL 4 rfl ((5 * k3) + 1) (show (5 * k3) + 1 < 50 by omega) dL_ground_37 ?_
        refine lv_icmp_lt (tgt := 68) F.1 F.2.1 dL_ground_38 (by decide) (fun c_4 => ?_) (fun c_4 => ?_)
        · refine lv_iconst (v := 0) F.1 F.2.1 dL_ground_68 (by decide) ?_
          exact jn_a ((if_pos c_3).trans (if_pos c_4)) J_2
        · refine lv_aload_n F.1 F.2.1 dL_ground_41 rfl (lv_at hl 4 rfl) ?_
          refine lv_iconst (v := 5) F.1 F.2.1 dL_ground_42 (by decide) ?_
          refine lv_iload F.1 F.2.1 dL_ground_43 (lv_at hl 0 rfl) ?_
          refine lv_imul F.1 F.2.1 dL_ground_45 ?_
          refine lv_fold (y := nI (5 * k3)) (pk_mul 5 k3) ?_
          refine lv_iconst (v := 2) F.1 F.2.1 dL_ground_46 (by decide) ?_
          refine lv_iadd F.1 F.2.1 dL_ground_47 ?_
          refine lv_fold (y := nI ((5 * k3) + 2)) (nI_add (5 * k3) 2) ?_
          refine l_ild F w hL 4 rfl ((5 * k3) + 2) (show (5 * k3) + 2 < 50 by omega) dL_ground_48 ?_
          refine lv_aload_n F.1 F.2.1 dL_ground_49 rfl (lv_at hl 3 rfl) ?_
          refine lv_bipush (v := 14) F.1 F.2.1 dL_ground_50 (by decide) ?_
          refine lv_iload_n F.1 F.2.1 dL_ground_52 rfl (lv_at hl 1 rfl) ?_
          refine lv_imul F.1 F.2.1 dL_ground_53 ?_
          refine lv_fold (y := nI (14 * i1)) (pk_mul 14 i1) ?_
          refine lv_iconst (v := 2) F.1 F.2.1 dL_ground_54 (by decide) ?_
          refine lv_iadd F.1 F.2.1 dL_ground_55 ?_
          refine lv_fold (y := nI ((14 * i1) + 2)) (nI_add (14 * i1) 2) ?_
          refine l_ild F w hL 2 rfl ((14 * i1) + 2) (show (14 * i1) + 2 < 56 by omega) dL_ground_56 ?_
          refine lv_ishr F.1 F.2.1 dL_ground_57 ?_
          refine lv_iconst (v := 1) F.1 F.2.1 dL_ground_58 (by decide) ?_
          refine lv_iand F.1 F.2.1 dL_ground_59 ?_
          refine lv_iconst (v := 1) F.1 F.2.1 dL_ground_60 (by decide) ?_
          refine lv_icmp_ne (tgt := 68) F.1 F.2.1 dL_ground_61 (by decide) (fun c_5 => ?_) (fun c_5 => ?_)
          · refine lv_iconst (v := 0) F.1 F.2.1 dL_ground_68 (by decide) ?_
            exact jn_a ((if_pos c_3).trans ((if_neg c_4).trans (if_neg c_5))) J_2
          · refine lv_iconst (v := 1) F.1 F.2.1 dL_ground_64 (by decide) ?_
            refine lv_goto (tgt := 69) F.1 F.2.1 dL_ground_65 (by decide) ?_
            exact jn_a ((if_pos c_3).trans ((if_neg c_4).trans (if_pos c_5))) J_2
    refine lv_fold (y := v_L_ground_69 S i1 x2 k3) rfl ?_
    refine lv_istore (lv' := [(6, .int (v_L_ground_69 S i1 x2 k3)), (5, .int (nI k3)), (0, .int (nI i1)), (1, .int x2), (2, .ref (ad 2)), (3, .ref (ad 4)), (4, .ref (ad 10))]) F.1 F.2.1 dL_ground_69 hl (by decide) rfl (fun ls hl => ?_)
    refine lv_aload_n F.1 F.2.1 dL_ground_71 rfl (lv_at hl 5 rfl) ?_
    refine lv_iconst (v := 5) F.1 F.2.1 dL_ground_72 (by decide) ?_
    refine lv_iload F.1 F.2.1 dL_ground_73 (lv_at hl 1 rfl) ?_
    refine lv_imul F.1 F.2.1 dL_ground_75 ?_
    refine lv_fold (y := nI (5 * k3)) (pk_mul 5 k3) ?_
    refine lv_iconst (v := 3) F.1 F.2.1 dL_ground_76 (by decide) ?_
    refine lv_iadd F.1 F.2.1 dL_ground_77 ?_
    refine lv_fold (y := nI ((5 * k3) + 3)) (nI_add (5 * k3) 3) ?_
    refine l_ild F w hL 4 rfl ((5 * k3) + 3) (show (5 * k3) + 3 < 50 by omega) dL_ground_78 ?_
    refine lv_istore (lv' := [(7, .int (S 4 ((5 * k3) + 3))), (6, .int (v_L_ground_69 S i1 x2 k3)), (5, .int (nI k3)), (0, .int (nI i1)), (1, .int x2), (2, .ref (ad 2)), (3, .ref (ad 4)), (4, .ref (ad 10))]) F.1 F.2.1 dL_ground_79 hl (by decide) rfl (fun ls hl => ?_)
    refine lv_aload_n F.1 F.2.1 dL_ground_81 rfl (lv_at hl 5 rfl) ?_
    refine lv_bipush (v := 14) F.1 F.2.1 dL_ground_82 (by decide) ?_
    refine lv_iload_n F.1 F.2.1 dL_ground_84 rfl (lv_at hl 3 rfl) ?_
    refine lv_imul F.1 F.2.1 dL_ground_85 ?_
    refine lv_fold (y := nI (14 * i1)) (pk_mul 14 i1) ?_
    refine l_ild F w hL 2 rfl (14 * i1) (show 14 * i1 < 56 by omega) dL_ground_86 ?_
    refine lv_iload F.1 F.2.1 dL_ground_87 (lv_at hl 0 rfl) ?_
    refine jnl (m := m) 8 [(7, .int (if S 4 ((5 * k3) + 3) ≤ S 2 (14 * i1) then S 4 ((5 * k3) + 3) else (S 4 ((5 * k3) + 3)) + (S 4 ((5 * k3) + 4)))), (6, .int (v_L_ground_69 S i1 x2 k3)), (5, .int (nI k3)), (0, .int (nI i1)), (1, .int x2), (2, .ref (ad 2)), (3, .ref (ad 4)), (4, .ref (ad 10))] [] 105 (fun J_6 => ?_) ?_
    · refine lv_icmp_ge (tgt := 105) F.1 F.2.1 dL_ground_89 (by decide) (fun c_7 => ?_) (fun c_7 => ?_)
      · exact J_6 ls (lv_sub hl [0, 1, 2, 3, 4, 5, 6, 7] (by rw [((if_pos c_7) : (if S 4 ((5 * k3) + 3) ≤ S 2 (14 * i1) then S 4 ((5 * k3) + 3) else (S 4 ((5 * k3) + 3)) + (S 4 ((5 * k3) + 4))) = S 4 ((5 * k3) + 3))] <;> rfl))
      · refine lv_iload F.1 F.2.1 dL_ground_92 (lv_at hl 0 rfl) ?_
        refine lv_aload_n F.1 F.2.1 dL_ground_94 rfl (lv_at hl 6 rfl) ?_
        refine lv_iconst (v := 5) F.1 F.2.1 dL_ground_95 (by decide) ?_
        refine lv_iload F.1 F.2.1 dL_ground_96 (lv_at hl 2 rfl) ?_
        refine lv_imul F.1 F.2.1 dL_ground_98 ?_
        refine lv_fold (y := nI (5 * k3)) (pk_mul 5 k3) ?_
        refine lv_iconst (v := 4) F.1 F.2.1 dL_ground_99 (by decide) ?_
        refine lv_iadd F.1 F.2.1 dL_ground_100 ?_
        refine lv_fold (y := nI ((5 * k3) + 4)) (nI_add (5 * k3) 4) ?_
        refine l_ild F w hL 4 rfl ((5 * k3) + 4) (show (5 * k3) + 4 < 50 by omega) dL_ground_101 ?_
        refine lv_iadd F.1 F.2.1 dL_ground_102 ?_
        refine lv_istore (lv' := [(7, .int ((S 4 ((5 * k3) + 3)) + (S 4 ((5 * k3) + 4)))), (6, .int (v_L_ground_69 S i1 x2 k3)), (5, .int (nI k3)), (0, .int (nI i1)), (1, .int x2), (2, .ref (ad 2)), (3, .ref (ad 4)), (4, .ref (ad 10))]) F.1 F.2.1 dL_ground_103 hl (by decide) rfl (fun ls hl => ?_)
        exact J_6 ls (lv_sub hl [0, 1, 2, 3, 4, 5, 6, 7] (by rw [((if_neg c_7) : (if S 4 ((5 * k3) + 3) ≤ S 2 (14 * i1) then S 4 ((5 * k3) + 3) else (S 4 ((5 * k3) + 3)) + (S 4 ((5 * k3) + 4))) = (S 4 ((5 * k3) + 3)) + (S 4 ((5 * k3) + 4)))] <;> rfl))
    intro ls hl
    refine lv_iload F.1 F.2.1 dL_ground_105 (lv_at hl 1 rfl) ?_
    refine lv_if_eq (tgt := 121) F.1 F.2.1 dL_ground_107 (by decide) (fun c_8 => ?_) (fun c_8 => ?_)
    · refine lv_iinc (v := nI (k3 + 1)) (lv' := [(5, .int (nI (k3 + 1))), (7, .int (if S 4 ((5 * k3) + 3) ≤ S 2 (14 * i1) then S 4 ((5 * k3) + 3) else (S 4 ((5 * k3) + 3)) + (S 4 ((5 * k3) + 4)))), (6, .int (v_L_ground_69 S i1 x2 k3)), (0, .int (nI i1)), (1, .int x2), (2, .ref (ad 2)), (3, .ref (ad 4)), (4, .ref (ad 10))]) F.1 F.2.1 dL_ground_121 hl (k := 2) rfl (nI_1 _) (by decide) rfl (fun ls hl => ?_)
      refine lv_goto (tgt := 3) F.1 F.2.1 dL_ground_124 (by decide) ?_
      exact ih3 ls hlt3 ⟨lv_sub hl [0, 3, 4, 5, 6, 7] rfl, ((if_pos c_8)).symm.trans hE⟩
    · refine lv_iload F.1 F.2.1 dL_ground_110 (lv_at hl 0 rfl) ?_
      refine lv_aload F.1 F.2.1 dL_ground_112 (lv_at hl 7 rfl) ?_
      refine lv_iconst (v := 0) F.1 F.2.1 dL_ground_114 (by decide) ?_
      refine l_ild F w hL 10 rfl 0 (show 0 < 9 by omega) dL_ground_115 ?_
      refine lv_icmp_gt (tgt := 121) F.1 F.2.1 dL_ground_116 (by decide) (fun c_9 => ?_) (fun c_9 => ?_)
      · refine lv_iinc (v := nI (k3 + 1)) (lv' := [(5, .int (nI (k3 + 1))), (7, .int (if S 4 ((5 * k3) + 3) ≤ S 2 (14 * i1) then S 4 ((5 * k3) + 3) else (S 4 ((5 * k3) + 3)) + (S 4 ((5 * k3) + 4)))), (6, .int (v_L_ground_69 S i1 x2 k3)), (0, .int (nI i1)), (1, .int x2), (2, .ref (ad 2)), (3, .ref (ad 4)), (4, .ref (ad 10))]) F.1 F.2.1 dL_ground_121 hl (k := 2) rfl (nI_1 _) (by decide) rfl (fun ls hl => ?_)
        refine lv_goto (tgt := 3) F.1 F.2.1 dL_ground_124 (by decide) ?_
        exact ih3 ls hlt3 ⟨lv_sub hl [0, 3, 4, 5, 6, 7] rfl, (((if_neg c_8).trans (if_pos c_9))).symm.trans hE⟩
      · refine lv_iconst (v := 1) F.1 F.2.1 dL_ground_119 (by decide) ?_
        exact q_retz F hr hlk (hE.symm.trans ((if_neg c_8).trans (if_neg c_9))) nz1 dL_ground_120
  have hkn3 : k3 = (gr S) := GB_ile (n := gr S) rfl (by omega) hk3 c_1
  subst hkn3
  rw [Nat.sub_self] at hE
  refine lv_iconst (v := 0) F.1 F.2.1 dL_ground_127 (by decide) ?_
  exact q_retz F hr hlk hE.symm nz0 dL_ground_128
def fn (S : GS) (i : Nat) : Nat := (f_L_findings (S 5 i)).toNatClampNeg
theorem fn_ok (S : GS) (i : Nat) : f_L_findings (S 5 i) = nI (fn S i) ∧ fn S i < 16 := by
  unfold fn f_L_findings
  rw [pk_and _ 4 (by decide)]
  have h := Nat.mod_lt (S 5 i >>> (9 &&& 31)).toBitVec.toNat (show 0 < 2 ^ 4 by decide)
  rw [nI_clamp (by omega)]
  exact ⟨rfl, h⟩
def L_L_open_6_5 (S : GS) (Wf : Nat → Int64) (i1 : Nat) (x2 : Int32) : Nat → Int32
  | 0 => 0
  | k6 + 1 => if ((S 8 i1) >>> ((nI (2 * k6)) &&& 31)) &&& 3 = 0 then (L_L_open_6_5 S Wf i1 x2 k6) + (if x2 = 0 then 1 else (((Wf i1) >>> ((nI (4 * k6)).toInt64 &&& 63)) &&& (15 : Int64)).toInt32) else L_L_open_6_5 S Wf i1 x2 k6
def f_L_open (S : GS) (Wf : Nat → Int64) (i1 : Nat) (x2 : Int32) : Int32 := L_L_open_6_5 S Wf i1 x2 (fn S i1)
set_option maxHeartbeats 4000000 in
set_option maxRecDepth 100000 in
theorem c_L_open (l : Launch) (D : va_G) (cy : Nat → ClassId) (A : Nat → Prop) (μ : MU) (ad : Nat → Nat) (S : GS) (Wf : Nat → Int64) (hL : RepL cy ad S Wf μ) (i1 : Nat) (x2 : Int32) (hi1 : i1 < 50) : Met l yL_open (WS yL_open cL_open 7 (Option.some Jvm.ClassFile.FieldType.int)) { frames := 1, cells := 0, slots := 0, locals := 20 } (va_Pc [.int (nI i1), .int x2, .ref (ad 5), .ref (ad 8), .ref (ad 9)] (Wd D cy A μ)) (QcRead (f_L_open S Wf i1 x2)) 0 0 (fun _ => False) := by
  refine q_met (by decide) (Nat.le_of_ble_eq_true rfl) ?_
  intro p e s m below meth c F w hr hlk hnm ls hl
  have F : CallFix p m c cL_open 7 s _ BIG RL := F
  have hl : lv_has ls 7 [(0, .int (nI i1)), (1, .int x2), (2, .ref (ad 5)), (3, .ref (ad 8)), (4, .ref (ad 9))] := hl
  have hfn := (fn_ok S i1).2
  refine lv_iconst (v := 0) F.1 F.2.1 dL_open_0 (by decide) ?_
  refine lv_istore (lv' := [(5, .int 0), (0, .int (nI i1)), (1, .int x2), (2, .ref (ad 5)), (3, .ref (ad 8)), (4, .ref (ad 9))]) F.1 F.2.1 dL_open_1 hl (by decide) rfl (fun ls hl => ?_)
  refine lv_iconst (v := 0) F.1 F.2.1 dL_open_3 (by decide) ?_
  refine lv_istore (lv' := [(6, .int 0), (5, .int 0), (0, .int (nI i1)), (1, .int x2), (2, .ref (ad 5)), (3, .ref (ad 8)), (4, .ref (ad 9))]) F.1 F.2.1 dL_open_4 hl (by decide) rfl (fun ls hl => ?_)
  refine q_loop (P := fun k6 ls => lv_has ls 7 [(6, .int (nI k6)), (5, .int (L_L_open_6_5 S Wf i1 x2 k6)), (0, .int (nI i1)), (1, .int x2), (2, .ref (ad 5)), (3, .ref (ad 8)), (4, .ref (ad 9))]) (fn S i1) (fun k6 ls hk6 hl ih6 => ?_) 0 ls (Nat.zero_le _) (lv_cg (lv_sub hl [0, 1, 2, 3, 4, 5, 6] rfl) rfl)
  refine lv_iload F.1 F.2.1 dL_open_6 (lv_at hl 0 rfl) ?_
  refine lv_aload_n F.1 F.2.1 dL_open_8 rfl (lv_at hl 4 rfl) ?_
  refine lv_iload_n F.1 F.2.1 dL_open_9 rfl (lv_at hl 2 rfl) ?_
  refine l_ild F w hL 5 rfl i1 (show i1 < 50 by omega) dL_open_10 ?_
  refine q_rS (rest := [.int (nI k6)]) F w kS_L_112 hd_L_findings (c_L_findings l D cy A _ (S 5 i1)) dL_open_11 rfl rfl hl.1 ⟨rfl, rfl, Nat.le_of_ble_eq_true rfl, Nat.le_of_ble_eq_true rfl⟩ (Nat.le_of_ble_eq_true rfl) ⟨Nat.zero_le _, Nat.zero_le _⟩ ?_
  refine lv_fold (y := nI (fn S i1)) (fn_ok S i1).1 ?_
  refine lv_icmp_ge (tgt := 63) F.1 F.2.1 dL_open_14 (by decide) (fun c_1 => ?_) (fun c_1 => ?_)
  rotate_left
  · have hlt6 : k6 < (fn S i1) := GB_ilt (n := fn S i1) rfl (by omega) hk6 c_1
    refine lv_aload_n F.1 F.2.1 dL_open_17 rfl (lv_at hl 5 rfl) ?_
    refine lv_iload_n F.1 F.2.1 dL_open_18 rfl (lv_at hl 2 rfl) ?_
    refine l_ild F w hL 8 rfl i1 (show i1 < 50 by omega) dL_open_19 ?_
    refine lv_iconst (v := 2) F.1 F.2.1 dL_open_20 (by decide) ?_
    refine lv_iload F.1 F.2.1 dL_open_21 (lv_at hl 0 rfl) ?_
    refine lv_imul F.1 F.2.1 dL_open_23 ?_
    refine lv_fold (y := nI (2 * k6)) (pk_mul 2 k6) ?_
    refine lv_ishr F.1 F.2.1 dL_open_24 ?_
    refine lv_iconst (v := 3) F.1 F.2.1 dL_open_25 (by decide) ?_
    refine lv_iand F.1 F.2.1 dL_open_26 ?_
    refine jnl (m := m) 7 [(6, .int (nI k6)), (5, .int (if ((S 8 i1) >>> ((nI (2 * k6)) &&& 31)) &&& 3 = 0 then (L_L_open_6_5 S Wf i1 x2 k6) + (if x2 = 0 then 1 else (((Wf i1) >>> ((nI (4 * k6)).toInt64 &&& 63)) &&& (15 : Int64)).toInt32) else L_L_open_6_5 S Wf i1 x2 k6)), (0, .int (nI i1)), (1, .int x2), (2, .ref (ad 5)), (3, .ref (ad 8)), (4, .ref (ad 9))] [] 57 (fun J_2 => ?_) ?_
    · refine lv_if_ne (tgt := 57) F.1 F.2.1 dL_open_27 (by decide) (fun c_3 => ?_) (fun c_3 => ?_)
      · exact J_2 ls (lv_sub hl [0, 1, 2, 3, 4, 5, 6] (by rw [((if_neg c_3) : (if ((S 8 i1) >>> ((nI (2 * k6)) &&& 31)) &&& 3 = 0 then (L_L_open_6_5 S Wf i1 x2 k6) + (if x2 = 0 then 1 else (((Wf i1) >>> ((nI (4 * k6)).toInt64 &&& 63)) &&& (15 : Int64)).toInt32) else L_L_open_6_5 S Wf i1 x2 k6) = L_L_open_6_5 S Wf i1 x2 k6)] <;> rfl))
      · refine lv_iload F.1 F.2.1 dL_open_30 (lv_at hl 1 rfl) ?_
        refine lv_iload_n F.1 F.2.1 dL_open_32 rfl (lv_at hl 3 rfl) ?_
        refine jn0 (m := m) (ls := ls) (rest := [.int (L_L_open_6_5 S Wf i1 x2 k6)]) (if x2 = 0 then 1 else (((Wf i1) >>> ((nI (4 * k6)).toInt64 &&& 63)) &&& (15 : Int64)).toInt32) 54 (fun J_4 => ?_) ?_
        · refine lv_if_eq (tgt := 53) F.1 F.2.1 dL_open_33 (by decide) (fun c_5 => ?_) (fun c_5 => ?_)
          · refine lv_iconst (v := 1) F.1 F.2.1 dL_open_53 (by decide) ?_
            exact jn_a (if_pos c_5) J_4
          · refine lv_aload F.1 F.2.1 dL_open_36 (lv_at hl 6 rfl) ?_
            refine lv_iload_n F.1 F.2.1 dL_open_38 rfl (lv_at hl 2 rfl) ?_
            refine l_lld F w hL i1 (show i1 < 50 by omega) dL_open_39 ?_
            refine lv_iconst (v := 4) F.1 F.2.1 dL_open_40 (by decide) ?_
            refine lv_iload F.1 F.2.1 dL_open_41 (lv_at hl 0 rfl) ?_
            refine lv_imul F.1 F.2.1 dL_open_43 ?_
            refine lv_fold (y := nI (4 * k6)) (pk_mul 4 k6) ?_
            refine lv_lshr (v := (Wf i1) >>> ((nI (4 * k6)).toInt64 &&& 63)) F.1 F.2.1 dL_open_44 rfl ?_
            refine lv_ldc2 (v := 15) F.1 F.2.1 F.2.2.2.1 (F.2.2.2.2 _ wKl_L_122) dL_open_45 ?_
            refine lv_land F.1 F.2.1 dL_open_48 ?_
            refine lv_l2i (v := (((Wf i1) >>> ((nI (4 * k6)).toInt64 &&& 63)) &&& (15 : Int64)).toInt32) F.1 F.2.1 dL_open_49 rfl ?_
            refine lv_goto (tgt := 54) F.1 F.2.1 dL_open_50 (by decide) ?_
            exact jn_a (if_neg c_5) J_4
        refine lv_iadd F.1 F.2.1 dL_open_54 ?_
        refine lv_istore (lv' := [(5, .int ((L_L_open_6_5 S Wf i1 x2 k6) + (if x2 = 0 then 1 else (((Wf i1) >>> ((nI (4 * k6)).toInt64 &&& 63)) &&& (15 : Int64)).toInt32))), (6, .int (nI k6)), (0, .int (nI i1)), (1, .int x2), (2, .ref (ad 5)), (3, .ref (ad 8)), (4, .ref (ad 9))]) F.1 F.2.1 dL_open_55 hl (by decide) rfl (fun ls hl => ?_)
        exact J_2 ls (lv_sub hl [1, 0, 2, 3, 4, 5, 6] (by rw [((if_pos c_3) : (if ((S 8 i1) >>> ((nI (2 * k6)) &&& 31)) &&& 3 = 0 then (L_L_open_6_5 S Wf i1 x2 k6) + (if x2 = 0 then 1 else (((Wf i1) >>> ((nI (4 * k6)).toInt64 &&& 63)) &&& (15 : Int64)).toInt32) else L_L_open_6_5 S Wf i1 x2 k6) = (L_L_open_6_5 S Wf i1 x2 k6) + (if x2 = 0 then 1 else (((Wf i1) >>> ((nI (4 * k6)).toInt64 &&& 63)) &&& (15 : Int64)).toInt32))] <;> rfl))
    intro ls hl
    refine lv_iinc (v := nI (k6 + 1)) (lv' := [(6, .int (nI (k6 + 1))), (5, .int (if ((S 8 i1) >>> ((nI (2 * k6)) &&& 31)) &&& 3 = 0 then (L_L_open_6_5 S Wf i1 x2 k6) + (if x2 = 0 then 1 else (((Wf i1) >>> ((nI (4 * k6)).toInt64 &&& 63)) &&& (15 : Int64)).toInt32) else L_L_open_6_5 S Wf i1 x2 k6)), (0, .int (nI i1)), (1, .int x2), (2, .ref (ad 5)), (3, .ref (ad 8)), (4, .ref (ad 9))]) F.1 F.2.1 dL_open_57 hl (k := 0) rfl (nI_1 _) (by decide) rfl (fun ls hl => ?_)
    refine lv_goto (tgt := 6) F.1 F.2.1 dL_open_60 (by decide) ?_
    exact ih6 ls hlt6 (lv_sub hl [0, 1, 2, 3, 4, 5, 6] rfl)
  have hkn6 : k6 = (fn S i1) := GB_ile (n := fn S i1) rfl (by omega) hk6 c_1
  subst hkn6
  refine lv_iload F.1 F.2.1 dL_open_63 (lv_at hl 1 rfl) ?_
  exact q_reti F hr hlk rfl dL_open_65
