def f_X6_isIndex (x1 : Int32) (x2 : Int32) : Int32 := if x1 < 0 then 0 else (if x2 ≤ x1 then 0 else 1)
theorem nz_f_X6_isIndex (x1 : Int32) (x2 : Int32) : nz (f_X6_isIndex x1 x2) := (nz_ite nz0 (nz_ite nz0 nz1))
set_option maxHeartbeats 4000000 in
set_option maxRecDepth 100000 in
theorem c_X6_isIndex (l : Launch) (D : va_G) (cy : Nat → ClassId) (A : Nat → Prop) (μ : MU) (x1 : Int32) (x2 : Int32) : Met l yX6_isIndex (WS yX6_isIndex cX6_isIndex 2 (Option.some Jvm.ClassFile.FieldType.boolean)) { frames := 0, cells := 0, slots := 0, locals := 0 } (va_Pc [.int x1, .int x2] (Wd D cy A μ)) (QcRead (f_X6_isIndex x1 x2)) 0 0 (fun _ => False) := by
  refine q_met (by decide) (Nat.le_of_ble_eq_true rfl) ?_
  intro p e s m below meth c F w hr hlk hnm ls hl
  have F : CallFix p m c cX6_isIndex 2 s _ BIG RX6 := F
  have hl : lv_has ls 2 [(0, .int x1), (1, .int x2)] := hl
  refine lv_iload_n F.1 F.2.1 dX6_isIndex_0 rfl (lv_at hl 0 rfl) ?_
  refine jn0 (m := m) (ls := ls) (rest := []) (if x1 < 0 then 0 else (if x2 ≤ x1 then 0 else 1)) 14 (fun J_1 => ?_) ?_
  · refine lv_if_lt (tgt := 13) F.1 F.2.1 dX6_isIndex_1 (by decide) (fun c_2 => ?_) (fun c_2 => ?_)
    · refine lv_iconst (v := 0) F.1 F.2.1 dX6_isIndex_13 (by decide) ?_
      exact jn_a (if_pos c_2) J_1
    · refine lv_iload_n F.1 F.2.1 dX6_isIndex_4 rfl (lv_at hl 0 rfl) ?_
      refine lv_iload_n F.1 F.2.1 dX6_isIndex_5 rfl (lv_at hl 1 rfl) ?_
      refine lv_icmp_ge (tgt := 13) F.1 F.2.1 dX6_isIndex_6 (by decide) (fun c_3 => ?_) (fun c_3 => ?_)
      · refine lv_iconst (v := 0) F.1 F.2.1 dX6_isIndex_13 (by decide) ?_
        exact jn_a ((if_neg c_2).trans (if_pos c_3)) J_1
      · refine lv_iconst (v := 1) F.1 F.2.1 dX6_isIndex_9 (by decide) ?_
        refine lv_goto (tgt := 14) F.1 F.2.1 dX6_isIndex_10 (by decide) ?_
        exact jn_a ((if_neg c_2).trans (if_neg c_3)) J_1
  exact q_retz F hr hlk rfl (nz_ite nz0 (nz_ite nz0 nz1)) dX6_isIndex_14
theorem isx_in {x : Int32} {n : Nat} (hn : n < 2 ^ 31) (h : ¬ f_X6_isIndex x (nI n) = 0) : vp_in x n := by
  unfold f_X6_isIndex at h
  split at h
  · exact absurd rfl h
  · split at h
    · exact absurd rfl h
    · rename_i h1 h2
      exact isx_in0 hn h1 h2
def f_X6_isIn (x1 : Int32) (x2 : Int32) : Int32 := if x1 < 0 then 0 else (if (x2 >>> (x1 &&& 31)) &&& 1 = 1 then 1 else 0)
theorem nz_f_X6_isIn (x1 : Int32) (x2 : Int32) : nz (f_X6_isIn x1 x2) := (nz_ite nz0 (nz_ite nz1 nz0))
set_option maxHeartbeats 4000000 in
set_option maxRecDepth 100000 in
theorem c_X6_isIn (l : Launch) (D : va_G) (cy : Nat → ClassId) (A : Nat → Prop) (μ : MU) (x1 : Int32) (x2 : Int32) : Met l yX6_isIn (WS yX6_isIn cX6_isIn 2 (Option.some Jvm.ClassFile.FieldType.boolean)) { frames := 0, cells := 0, slots := 0, locals := 0 } (va_Pc [.int x1, .int x2] (Wd D cy A μ)) (QcRead (f_X6_isIn x1 x2)) 0 0 (fun _ => False) := by
  refine q_met (by decide) (Nat.le_of_ble_eq_true rfl) ?_
  intro p e s m below meth c F w hr hlk hnm ls hl
  have F : CallFix p m c cX6_isIn 2 s _ BIG RX6 := F
  have hl : lv_has ls 2 [(0, .int x1), (1, .int x2)] := hl
  refine lv_iload_n F.1 F.2.1 dX6_isIn_0 rfl (lv_at hl 0 rfl) ?_
  refine jn0 (m := m) (ls := ls) (rest := []) (if x1 < 0 then 0 else (if (x2 >>> (x1 &&& 31)) &&& 1 = 1 then 1 else 0)) 18 (fun J_1 => ?_) ?_
  · refine lv_if_lt (tgt := 17) F.1 F.2.1 dX6_isIn_1 (by decide) (fun c_2 => ?_) (fun c_2 => ?_)
    · refine lv_iconst (v := 0) F.1 F.2.1 dX6_isIn_17 (by decide) ?_
      exact jn_a (if_pos c_2) J_1
    · refine lv_iload_n F.1 F.2.1 dX6_isIn_4 rfl (lv_at hl 1 rfl) ?_
      refine lv_iload_n F.1 F.2.1 dX6_isIn_5 rfl (lv_at hl 0 rfl) ?_
      refine lv_ishr F.1 F.2.1 dX6_isIn_6 ?_
      refine lv_iconst (v := 1) F.1 F.2.1 dX6_isIn_7 (by decide) ?_
      refine lv_iand F.1 F.2.1 dX6_isIn_8 ?_
      refine lv_iconst (v := 1) F.1 F.2.1 dX6_isIn_9 (by decide) ?_
      refine lv_icmp_ne (tgt := 17) F.1 F.2.1 dX6_isIn_10 (by decide) (fun c_3 => ?_) (fun c_3 => ?_)
      · refine lv_iconst (v := 0) F.1 F.2.1 dX6_isIn_17 (by decide) ?_
        exact jn_a ((if_neg c_2).trans (if_neg c_3)) J_1
      · refine lv_iconst (v := 1) F.1 F.2.1 dX6_isIn_13 (by decide) ?_
        refine lv_goto (tgt := 18) F.1 F.2.1 dX6_isIn_14 (by decide) ?_
        exact jn_a ((if_neg c_2).trans (if_pos c_3)) J_1
  exact q_retz F hr hlk rfl (nz_ite nz0 (nz_ite nz1 nz0)) dX6_isIn_18
def f_X6_hangsOn (x1 : Int32) : Int32 := if x1 = 1 then 0 else (if x1 = 2 then 1 else (if x1 = 3 then 0 else (-1)))
set_option maxHeartbeats 4000000 in
set_option maxRecDepth 100000 in
theorem c_X6_hangsOn (l : Launch) (D : va_G) (cy : Nat → ClassId) (A : Nat → Prop) (μ : MU) (x1 : Int32) : Met l yX6_hangsOn (WS yX6_hangsOn cX6_hangsOn 1 (Option.some Jvm.ClassFile.FieldType.int)) { frames := 0, cells := 0, slots := 0, locals := 0 } (va_Pc [.int x1] (Wd D cy A μ)) (QcRead (f_X6_hangsOn x1)) 0 0 (fun _ => False) := by
  refine q_met (by decide) (Nat.le_of_ble_eq_true rfl) ?_
  intro p e s m below meth c F w hr hlk hnm ls hl
  have F : CallFix p m c cX6_hangsOn 1 s _ BIG RX6 := F
  have hl : lv_has ls 1 [(0, .int x1)] := hl
  refine lv_iload_n F.1 F.2.1 dX6_hangsOn_0 rfl (lv_at hl 0 rfl) ?_
  by_cases c_1 : x1 = 1
  · refine lv_tableIn (tgt := 28) F.1 F.2.1 dX6_hangsOn_1 (by rw [c_1]; decide) (by rw [c_1]; decide) (by rw [c_1]; rfl) (by decide) ?_
    refine lv_iconst (v := 0) F.1 F.2.1 dX6_hangsOn_28 (by decide) ?_
    exact q_reti F hr hlk (if_pos c_1) dX6_hangsOn_29
  · by_cases c_2 : x1 = 2
    · refine lv_tableIn (tgt := 32) F.1 F.2.1 dX6_hangsOn_1 (by rw [c_2]; decide) (by rw [c_2]; decide) (by rw [c_2]; rfl) (by decide) ?_
      refine lv_iconst (v := 1) F.1 F.2.1 dX6_hangsOn_32 (by decide) ?_
      exact q_reti F hr hlk ((if_neg c_1).trans (if_pos c_2)) dX6_hangsOn_33
    · by_cases c_3 : x1 = 3
      · refine lv_tableIn (tgt := 30) F.1 F.2.1 dX6_hangsOn_1 (by rw [c_3]; decide) (by rw [c_3]; decide) (by rw [c_3]; rfl) (by decide) ?_
        refine lv_iconst (v := 0) F.1 F.2.1 dX6_hangsOn_30 (by decide) ?_
        exact q_reti F hr hlk ((if_neg c_1).trans ((if_neg c_2).trans (if_pos c_3))) dX6_hangsOn_31
      · refine lv_tableOut (tgt := 34) F.1 F.2.1 dX6_hangsOn_1 (by have q0 : x1.toInt ≠ 1 := i32_ne c_1 rfl; have q1 : x1.toInt ≠ 2 := i32_ne c_2 rfl; have q2 : x1.toInt ≠ 3 := i32_ne c_3 rfl; omega) (by decide) ?_
        refine lv_iconst (v := -1) F.1 F.2.1 dX6_hangsOn_34 (by decide) ?_
        exact q_reti F hr hlk ((if_neg c_1).trans ((if_neg c_2).trans (if_neg c_3))) dX6_hangsOn_35
def f_X6_windowBegin (x1 : Int32) : Int32 := if x1 = 0 then 720 else (if x1 = 2 then 150 else 300)
set_option maxHeartbeats 4000000 in
set_option maxRecDepth 100000 in
theorem c_X6_windowBegin (l : Launch) (D : va_G) (cy : Nat → ClassId) (A : Nat → Prop) (μ : MU) (x1 : Int32) : Met l yX6_windowBegin (WS yX6_windowBegin cX6_windowBegin 1 (Option.some Jvm.ClassFile.FieldType.int)) { frames := 0, cells := 0, slots := 0, locals := 0 } (va_Pc [.int x1] (Wd D cy A μ)) (QcRead (f_X6_windowBegin x1)) 0 0 (fun _ => False) := by
  refine q_met (by decide) (Nat.le_of_ble_eq_true rfl) ?_
  intro p e s m below meth c F w hr hlk hnm ls hl
  have F : CallFix p m c cX6_windowBegin 1 s _ BIG RX6 := F
  have hl : lv_has ls 1 [(0, .int x1)] := hl
  refine lv_iload_n F.1 F.2.1 dX6_windowBegin_0 rfl (lv_at hl 0 rfl) ?_
  by_cases c_1 : x1 = 0
  · refine lv_lookup (tgt := 32) (off := 31) F.1 F.2.1 dX6_windowBegin_1 (by decide) (by rw [c_1]; decide) (by decide) ?_
    refine lv_sipush (v := 720) F.1 F.2.1 dX6_windowBegin_32 (by decide) ?_
    exact q_reti F hr hlk (if_pos c_1) dX6_windowBegin_35
  · by_cases c_2 : x1 = 2
    · refine lv_lookup (tgt := 28) (off := 27) F.1 F.2.1 dX6_windowBegin_1 (by decide) (by rw [c_2]; decide) (by decide) ?_
      refine lv_sipush (v := 150) F.1 F.2.1 dX6_windowBegin_28 (by decide) ?_
      exact q_reti F hr hlk ((if_neg c_1).trans (if_pos c_2)) dX6_windowBegin_31
    · refine lv_lookup (tgt := 36) (off := 35) F.1 F.2.1 dX6_windowBegin_1 (by decide) ((lv_osw c_1 rfl).trans ((lv_osw c_2 rfl).trans rfl)) (by decide) ?_
      refine lv_sipush (v := 300) F.1 F.2.1 dX6_windowBegin_36 (by decide) ?_
      exact q_reti F hr hlk ((if_neg c_1).trans (if_neg c_2)) dX6_windowBegin_39
def f_X6_windowEnd (x1 : Int32) : Int32 := if x1 = 0 then 1080 else (if x1 = 2 then 180 else 360)
set_option maxHeartbeats 4000000 in
set_option maxRecDepth 100000 in
theorem c_X6_windowEnd (l : Launch) (D : va_G) (cy : Nat → ClassId) (A : Nat → Prop) (μ : MU) (x1 : Int32) : Met l yX6_windowEnd (WS yX6_windowEnd cX6_windowEnd 1 (Option.some Jvm.ClassFile.FieldType.int)) { frames := 0, cells := 0, slots := 0, locals := 0 } (va_Pc [.int x1] (Wd D cy A μ)) (QcRead (f_X6_windowEnd x1)) 0 0 (fun _ => False) := by
  refine q_met (by decide) (Nat.le_of_ble_eq_true rfl) ?_
  intro p e s m below meth c F w hr hlk hnm ls hl
  have F : CallFix p m c cX6_windowEnd 1 s _ BIG RX6 := F
  have hl : lv_has ls 1 [(0, .int x1)] := hl
  refine lv_iload_n F.1 F.2.1 dX6_windowEnd_0 rfl (lv_at hl 0 rfl) ?_
  by_cases c_1 : x1 = 0
  · refine lv_lookup (tgt := 32) (off := 31) F.1 F.2.1 dX6_windowEnd_1 (by decide) (by rw [c_1]; decide) (by decide) ?_
    refine lv_sipush (v := 1080) F.1 F.2.1 dX6_windowEnd_32 (by decide) ?_
    exact q_reti F hr hlk (if_pos c_1) dX6_windowEnd_35
  · by_cases c_2 : x1 = 2
    · refine lv_lookup (tgt := 28) (off := 27) F.1 F.2.1 dX6_windowEnd_1 (by decide) (by rw [c_2]; decide) (by decide) ?_
      refine lv_sipush (v := 180) F.1 F.2.1 dX6_windowEnd_28 (by decide) ?_
      exact q_reti F hr hlk ((if_neg c_1).trans (if_pos c_2)) dX6_windowEnd_31
    · refine lv_lookup (tgt := 36) (off := 35) F.1 F.2.1 dX6_windowEnd_1 (by decide) ((lv_osw c_1 rfl).trans ((lv_osw c_2 rfl).trans rfl)) (by decide) ?_
      refine lv_sipush (v := 360) F.1 F.2.1 dX6_windowEnd_36 (by decide) ?_
      exact q_reti F hr hlk ((if_neg c_1).trans (if_neg c_2)) dX6_windowEnd_39
def f_X6_listBy (x1 : Int32) (x2 : Int32) : Int32 := if 6 ≤ x1 then (if ((100 * x2) - (7 * x1)) - 50 ≤ 0 then (if ((7 * x1) - 50) - (100 * x2) ≤ 0 then 2 else (if (((7 * x1) - 50) - (100 * x2)) * (((7 * x1) - 50) - (100 * x2)) ≤ 1762 * x1 then 2 else 1)) else (if (((100 * x2) - (7 * x1)) - 50) * (((100 * x2) - (7 * x1)) - 50) ≤ 1762 * x1 then (if ((7 * x1) - 50) - (100 * x2) ≤ 0 then 2 else (if (((7 * x1) - 50) - (100 * x2)) * (((7 * x1) - 50) - (100 * x2)) ≤ 1762 * x1 then 2 else 1)) else 3)) else 0
set_option maxHeartbeats 4000000 in
set_option maxRecDepth 100000 in
theorem c_X6_listBy (l : Launch) (D : va_G) (cy : Nat → ClassId) (A : Nat → Prop) (μ : MU) (x1 : Int32) (x2 : Int32) : Met l yX6_listBy (WS yX6_listBy cX6_listBy 4 (Option.some Jvm.ClassFile.FieldType.int)) { frames := 0, cells := 0, slots := 0, locals := 0 } (va_Pc [.int x1, .int x2] (Wd D cy A μ)) (QcRead (f_X6_listBy x1 x2)) 0 0 (fun _ => False) := by
  refine q_met (by decide) (Nat.le_of_ble_eq_true rfl) ?_
  intro p e s m below meth c F w hr hlk hnm ls hl
  have F : CallFix p m c cX6_listBy 4 s _ BIG RX6 := F
  have hl : lv_has ls 4 [(0, .int x1), (1, .int x2)] := hl
  refine lv_iload_n F.1 F.2.1 dX6_listBy_0 rfl (lv_at hl 0 rfl) ?_
  refine lv_bipush (v := 6) F.1 F.2.1 dX6_listBy_1 (by decide) ?_
  refine lv_icmp_ge (tgt := 8) F.1 F.2.1 dX6_listBy_3 (by decide) (fun c_1 => ?_) (fun c_1 => ?_)
  · refine lv_bipush (v := 100) F.1 F.2.1 dX6_listBy_8 (by decide) ?_
    refine lv_iload_n F.1 F.2.1 dX6_listBy_10 rfl (lv_at hl 1 rfl) ?_
    refine lv_imul F.1 F.2.1 dX6_listBy_11 ?_
    refine lv_bipush (v := 7) F.1 F.2.1 dX6_listBy_12 (by decide) ?_
    refine lv_iload_n F.1 F.2.1 dX6_listBy_14 rfl (lv_at hl 0 rfl) ?_
    refine lv_imul F.1 F.2.1 dX6_listBy_15 ?_
    refine lv_isub F.1 F.2.1 dX6_listBy_16 ?_
    refine lv_bipush (v := 50) F.1 F.2.1 dX6_listBy_17 (by decide) ?_
    refine lv_isub F.1 F.2.1 dX6_listBy_19 ?_
    refine lv_istore_n (lv' := [(2, .int (((100 * x2) - (7 * x1)) - 50)), (0, .int x1), (1, .int x2)]) F.1 F.2.1 dX6_listBy_20 rfl hl (by decide) rfl (fun ls hl => ?_)
    refine lv_iload_n F.1 F.2.1 dX6_listBy_21 rfl (lv_at hl 0 rfl) ?_
    refine lv_if_le (tgt := 38) F.1 F.2.1 dX6_listBy_22 (by decide) (fun c_2 => ?_) (fun c_2 => ?_)
    · refine lv_bipush (v := 7) F.1 F.2.1 dX6_listBy_38 (by decide) ?_
      refine lv_iload_n F.1 F.2.1 dX6_listBy_40 rfl (lv_at hl 1 rfl) ?_
      refine lv_imul F.1 F.2.1 dX6_listBy_41 ?_
      refine lv_bipush (v := 50) F.1 F.2.1 dX6_listBy_42 (by decide) ?_
      refine lv_isub F.1 F.2.1 dX6_listBy_44 ?_
      refine lv_bipush (v := 100) F.1 F.2.1 dX6_listBy_45 (by decide) ?_
      refine lv_iload_n F.1 F.2.1 dX6_listBy_47 rfl (lv_at hl 2 rfl) ?_
      refine lv_imul F.1 F.2.1 dX6_listBy_48 ?_
      refine lv_isub F.1 F.2.1 dX6_listBy_49 ?_
      refine lv_istore_n (lv' := [(3, .int (((7 * x1) - 50) - (100 * x2))), (2, .int (((100 * x2) - (7 * x1)) - 50)), (0, .int x1), (1, .int x2)]) F.1 F.2.1 dX6_listBy_50 rfl hl (by decide) rfl (fun ls hl => ?_)
      refine lv_iload_n F.1 F.2.1 dX6_listBy_51 rfl (lv_at hl 0 rfl) ?_
      refine jn0 (m := m) (ls := ls) (rest := []) (if ((7 * x1) - 50) - (100 * x2) ≤ 0 then 2 else (if (((7 * x1) - 50) - (100 * x2)) * (((7 * x1) - 50) - (100 * x2)) ≤ 1762 * x1 then 2 else 1)) 71 (fun J_3 => ?_) ?_
      · refine lv_if_le (tgt := 70) F.1 F.2.1 dX6_listBy_52 (by decide) (fun c_4 => ?_) (fun c_4 => ?_)
        · refine lv_iconst (v := 2) F.1 F.2.1 dX6_listBy_70 (by decide) ?_
          exact jn_a (if_pos c_4) J_3
        · refine lv_iload_n F.1 F.2.1 dX6_listBy_55 rfl (lv_at hl 0 rfl) ?_
          refine lv_iload_n F.1 F.2.1 dX6_listBy_56 rfl (lv_at hl 0 rfl) ?_
          refine lv_imul F.1 F.2.1 dX6_listBy_57 ?_
          refine lv_sipush (v := 1762) F.1 F.2.1 dX6_listBy_58 (by decide) ?_
          refine lv_iload_n F.1 F.2.1 dX6_listBy_61 rfl (lv_at hl 2 rfl) ?_
          refine lv_imul F.1 F.2.1 dX6_listBy_62 ?_
          refine lv_icmp_le (tgt := 70) F.1 F.2.1 dX6_listBy_63 (by decide) (fun c_5 => ?_) (fun c_5 => ?_)
          · refine lv_iconst (v := 2) F.1 F.2.1 dX6_listBy_70 (by decide) ?_
            exact jn_a ((if_neg c_4).trans (if_pos c_5)) J_3
          · refine lv_iconst (v := 1) F.1 F.2.1 dX6_listBy_66 (by decide) ?_
            refine lv_goto (tgt := 71) F.1 F.2.1 dX6_listBy_67 (by decide) ?_
            exact jn_a ((if_neg c_4).trans (if_neg c_5)) J_3
      exact q_reti F hr hlk ((if_pos c_1).trans (if_pos c_2)) dX6_listBy_71
    · refine lv_iload_n F.1 F.2.1 dX6_listBy_25 rfl (lv_at hl 0 rfl) ?_
      refine lv_iload_n F.1 F.2.1 dX6_listBy_26 rfl (lv_at hl 0 rfl) ?_
      refine lv_imul F.1 F.2.1 dX6_listBy_27 ?_
      refine lv_sipush (v := 1762) F.1 F.2.1 dX6_listBy_28 (by decide) ?_
      refine lv_iload_n F.1 F.2.1 dX6_listBy_31 rfl (lv_at hl 1 rfl) ?_
      refine lv_imul F.1 F.2.1 dX6_listBy_32 ?_
      refine lv_icmp_le (tgt := 38) F.1 F.2.1 dX6_listBy_33 (by decide) (fun c_6 => ?_) (fun c_6 => ?_)
      · refine lv_bipush (v := 7) F.1 F.2.1 dX6_listBy_38 (by decide) ?_
        refine lv_iload_n F.1 F.2.1 dX6_listBy_40 rfl (lv_at hl 1 rfl) ?_
        refine lv_imul F.1 F.2.1 dX6_listBy_41 ?_
        refine lv_bipush (v := 50) F.1 F.2.1 dX6_listBy_42 (by decide) ?_
        refine lv_isub F.1 F.2.1 dX6_listBy_44 ?_
        refine lv_bipush (v := 100) F.1 F.2.1 dX6_listBy_45 (by decide) ?_
        refine lv_iload_n F.1 F.2.1 dX6_listBy_47 rfl (lv_at hl 2 rfl) ?_
        refine lv_imul F.1 F.2.1 dX6_listBy_48 ?_
        refine lv_isub F.1 F.2.1 dX6_listBy_49 ?_
        refine lv_istore_n (lv' := [(3, .int (((7 * x1) - 50) - (100 * x2))), (2, .int (((100 * x2) - (7 * x1)) - 50)), (0, .int x1), (1, .int x2)]) F.1 F.2.1 dX6_listBy_50 rfl hl (by decide) rfl (fun ls hl => ?_)
        refine lv_iload_n F.1 F.2.1 dX6_listBy_51 rfl (lv_at hl 0 rfl) ?_
        refine jn0 (m := m) (ls := ls) (rest := []) (if ((7 * x1) - 50) - (100 * x2) ≤ 0 then 2 else (if (((7 * x1) - 50) - (100 * x2)) * (((7 * x1) - 50) - (100 * x2)) ≤ 1762 * x1 then 2 else 1)) 71 (fun J_7 => ?_) ?_
        · refine lv_if_le (tgt := 70) F.1 F.2.1 dX6_listBy_52 (by decide) (fun c_8 => ?_) (fun c_8 => ?_)
          · refine lv_iconst (v := 2) F.1 F.2.1 dX6_listBy_70 (by decide) ?_
            exact jn_a (if_pos c_8) J_7
          · refine lv_iload_n F.1 F.2.1 dX6_listBy_55 rfl (lv_at hl 0 rfl) ?_
            refine lv_iload_n F.1 F.2.1 dX6_listBy_56 rfl (lv_at hl 0 rfl) ?_
            refine lv_imul F.1 F.2.1 dX6_listBy_57 ?_
            refine lv_sipush (v := 1762) F.1 F.2.1 dX6_listBy_58 (by decide) ?_
            refine lv_iload_n F.1 F.2.1 dX6_listBy_61 rfl (lv_at hl 2 rfl) ?_
            refine lv_imul F.1 F.2.1 dX6_listBy_62 ?_
            refine lv_icmp_le (tgt := 70) F.1 F.2.1 dX6_listBy_63 (by decide) (fun c_9 => ?_) (fun c_9 => ?_)
            · refine lv_iconst (v := 2) F.1 F.2.1 dX6_listBy_70 (by decide) ?_
              exact jn_a ((if_neg c_8).trans (if_pos c_9)) J_7
            · refine lv_iconst (v := 1) F.1 F.2.1 dX6_listBy_66 (by decide) ?_
              refine lv_goto (tgt := 71) F.1 F.2.1 dX6_listBy_67 (by decide) ?_
              exact jn_a ((if_neg c_8).trans (if_neg c_9)) J_7
        exact q_reti F hr hlk ((if_pos c_1).trans ((if_neg c_2).trans (if_pos c_6))) dX6_listBy_71
      · refine lv_iconst (v := 3) F.1 F.2.1 dX6_listBy_36 (by decide) ?_
        exact q_reti F hr hlk ((if_pos c_1).trans ((if_neg c_2).trans (if_neg c_6))) dX6_listBy_37
  · refine lv_iconst (v := 0) F.1 F.2.1 dX6_listBy_6 (by decide) ?_
    exact q_reti F hr hlk (if_neg c_1) dX6_listBy_7
def f_X6_pointsOfVisits (x1 : Int32) (x2 : Int32) : Int32 := (if x1 = 0 then 0 else 1) + (if 2 < x2 then 2 else x2)
set_option maxHeartbeats 4000000 in
set_option maxRecDepth 100000 in
theorem c_X6_pointsOfVisits (l : Launch) (D : va_G) (cy : Nat → ClassId) (A : Nat → Prop) (μ : MU) (x1 : Int32) (x2 : Int32) : Met l yX6_pointsOfVisits (WS yX6_pointsOfVisits cX6_pointsOfVisits 2 (Option.some Jvm.ClassFile.FieldType.int)) { frames := 1, cells := 0, slots := 0, locals := 21 } (va_Pc [.int x1, .int x2] (Wd D cy A μ)) (QcRead (f_X6_pointsOfVisits x1 x2)) 0 0 (fun _ => False) := by
  refine q_met (by decide) (Nat.le_of_ble_eq_true rfl) ?_
  intro p e s m below meth c F w hr hlk hnm ls hl
  have F : CallFix p m c cX6_pointsOfVisits 2 s _ BIG RX6 := F
  have hl : lv_has ls 2 [(0, .int x1), (1, .int x2)] := hl
  refine lv_iload_n F.1 F.2.1 dX6_pointsOfVisits_0 rfl (lv_at hl 0 rfl) ?_
  refine jn0 (m := m) (ls := ls) (rest := []) (if x1 = 0 then 0 else 1) 9 (fun J_1 => ?_) ?_
  · refine lv_if_eq (tgt := 8) F.1 F.2.1 dX6_pointsOfVisits_1 (by decide) (fun c_2 => ?_) (fun c_2 => ?_)
    · refine lv_iconst (v := 0) F.1 F.2.1 dX6_pointsOfVisits_8 (by decide) ?_
      exact jn_a (if_pos c_2) J_1
    · refine lv_iconst (v := 1) F.1 F.2.1 dX6_pointsOfVisits_4 (by decide) ?_
      refine lv_goto (tgt := 9) F.1 F.2.1 dX6_pointsOfVisits_5 (by decide) ?_
      exact jn_a (if_neg c_2) J_1
  refine lv_iload_n F.1 F.2.1 dX6_pointsOfVisits_9 rfl (lv_at hl 1 rfl) ?_
  refine lv_iconst (v := 2) F.1 F.2.1 dX6_pointsOfVisits_10 (by decide) ?_
  refine va_mmin F.1 F.2.1 (hl.1.symm ▸ F.2.2.1) F.2.2.2.1 (F.2.2.2.2 _ wMl_X6) (F.2.2.2.2 _ wMt_min1) (F.2.2.2.2 _ wMt_i) (F.2.2.2.2 _ wMt_min2) (Nat.le_of_ble_eq_true rfl) (Nat.le_of_ble_eq_true rfl) (Nat.zero_le _) (Nat.zero_le _) dX6_pointsOfVisits_11 ?_
  refine lv_iadd F.1 F.2.1 dX6_pointsOfVisits_14 ?_
  exact q_reti F hr hlk rfl dX6_pointsOfVisits_15
def f_X0_anniversaries (G : GS) (i1 : Nat) (j1 : Nat) : Int32 := nI ((gcT G (5 * i1 + j1) - 1) / 365)
set_option maxHeartbeats 4000000 in
set_option maxRecDepth 100000 in
theorem c_X0_anniversaries (l : Launch) (D : va_G) (cy : Nat → ClassId) (A : Nat → Prop) (μ : MU) (AD : AM) (G : GS) (hM : RepC cy AD G μ) (hI : InvC G) (i1 : Nat) (j1 : Nat) (hi1 : i1 < gnS G) (hj1 : j1 < 5) (hc : G 18 (5 * i1 + j1) = 1) : Met l yX0_anniversaries (WS yX0_anniversaries cX0_anniversaries 1 (Option.some Jvm.ClassFile.FieldType.int)) { frames := 0, cells := 0, slots := 0, locals := 0 } (va_Pc [.ref (AD 13 i1 j1)] (Wd D cy A μ)) (QcRead (f_X0_anniversaries G i1 j1)) 0 0 (fun _ => False) := by
  refine q_met (by decide) (Nat.le_of_ble_eq_true rfl) ?_
  intro p e s m below meth c F w hr hlk hnm ls hl
  have F : CallFix p m c cX0_anniversaries 1 s _ BIG RX0 := F
  have hl : lv_has ls 1 [(0, .ref (AD 13 i1 j1))] := hl
  refine lv_aload_n F.1 F.2.1 dX0_anniversaries_0 rfl (lv_at hl 0 rfl) ?_
  refine gf_X0_18 F w (hM.a13 (hI.o13 (show i1 < gnS G by omega) (show j1 < 5 by omega) hc)) rfl dX0_anniversaries_1 ?_
  refine lv_aload_n F.1 F.2.1 dX0_anniversaries_4 rfl (lv_at hl 0 rfl) ?_
  refine gf_X0_15 F w (hM.a13 (hI.o13 (show i1 < gnS G by omega) (show j1 < 5 by omega) hc)) rfl dX0_anniversaries_5 ?_
  refine lv_isub F.1 F.2.1 dX0_anniversaries_8 ?_
  refine lv_iconst (v := 1) F.1 F.2.1 dX0_anniversaries_9 (by decide) ?_
  refine lv_isub F.1 F.2.1 dX0_anniversaries_10 ?_
  refine lv_sipush (v := 365) F.1 F.2.1 dX0_anniversaries_11 (by decide) ?_
  refine lv_idiv F.1 F.2.1 dX0_anniversaries_14 (by decide) ?_
  refine lv_fold (y := nI ((gcT G (5 * i1 + j1) - 1) / 365)) (ann_div (hI.ca hi1 hj1 hc)) ?_
  exact q_reti F hr hlk rfl dX0_anniversaries_15
def f_X0_anniversaryDay (G : GS) (i1 : Nat) (j1 : Nat) (x1 : Int32) : Int32 := (G 19 (5 * i1 + j1)) + (365 * (x1 + 1))
set_option maxHeartbeats 4000000 in
set_option maxRecDepth 100000 in
theorem c_X0_anniversaryDay (l : Launch) (D : va_G) (cy : Nat → ClassId) (A : Nat → Prop) (μ : MU) (AD : AM) (G : GS) (hM : RepC cy AD G μ) (hI : InvC G) (i1 : Nat) (j1 : Nat) (x1 : Int32) (hi1 : i1 < gnS G) (hj1 : j1 < 5) (hc : G 18 (5 * i1 + j1) = 1) : Met l yX0_anniversaryDay (WS yX0_anniversaryDay cX0_anniversaryDay 2 (Option.some Jvm.ClassFile.FieldType.int)) { frames := 0, cells := 0, slots := 0, locals := 0 } (va_Pc [.ref (AD 13 i1 j1), .int x1] (Wd D cy A μ)) (QcRead (f_X0_anniversaryDay G i1 j1 x1)) 0 0 (fun _ => False) := by
  refine q_met (by decide) (Nat.le_of_ble_eq_true rfl) ?_
  intro p e s m below meth c F w hr hlk hnm ls hl
  have F : CallFix p m c cX0_anniversaryDay 2 s _ BIG RX0 := F
  have hl : lv_has ls 2 [(0, .ref (AD 13 i1 j1)), (1, .int x1)] := hl
  refine lv_aload_n F.1 F.2.1 dX0_anniversaryDay_0 rfl (lv_at hl 0 rfl) ?_
  refine gf_X0_15 F w (hM.a13 (hI.o13 (show i1 < gnS G by omega) (show j1 < 5 by omega) hc)) rfl dX0_anniversaryDay_1 ?_
  refine lv_sipush (v := 365) F.1 F.2.1 dX0_anniversaryDay_4 (by decide) ?_
  refine lv_iload_n F.1 F.2.1 dX0_anniversaryDay_7 rfl (lv_at hl 1 rfl) ?_
  refine lv_iconst (v := 1) F.1 F.2.1 dX0_anniversaryDay_8 (by decide) ?_
  refine lv_iadd F.1 F.2.1 dX0_anniversaryDay_9 ?_
  refine lv_imul F.1 F.2.1 dX0_anniversaryDay_10 ?_
  refine lv_iadd F.1 F.2.1 dX0_anniversaryDay_11 ?_
  exact q_reti F hr hlk rfl dX0_anniversaryDay_12
def E_X0_anniversaryToEndorse_2 (G : GS) (i1 : Nat) (j1 : Nat) (x1 : Int32) : Nat → Nat → Int32
  | 0, _ => (-1)
  | d + 1, k2 => if f_X6_isIn (nI k2) (G 22 (5 * i1 + j1)) = 0 then (if 90 < (if 0 ≤ (x1 - (f_X0_anniversaryDay G i1 j1 (nI k2))) then (x1 - (f_X0_anniversaryDay G i1 j1 (nI k2))) else 0 - (x1 - (f_X0_anniversaryDay G i1 j1 (nI k2))) : Int32) then (E_X0_anniversaryToEndorse_2 G i1 j1 x1 d (k2 + 1)) else (nI k2)) else (E_X0_anniversaryToEndorse_2 G i1 j1 x1 d (k2 + 1))
def f_X0_anniversaryToEndorse (G : GS) (i1 : Nat) (j1 : Nat) (x1 : Int32) : Int32 := E_X0_anniversaryToEndorse_2 G i1 j1 x1 ((gcT G (5 * i1 + j1) - 1) / 365) 0
set_option maxHeartbeats 4000000 in
set_option maxRecDepth 100000 in
theorem c_X0_anniversaryToEndorse (l : Launch) (D : va_G) (cy : Nat → ClassId) (A : Nat → Prop) (μ : MU) (AD : AM) (G : GS) (hM : RepC cy AD G μ) (hI : InvC G) (i1 : Nat) (j1 : Nat) (x1 : Int32) (hi1 : i1 < gnS G) (hj1 : j1 < 5) (hc : G 18 (5 * i1 + j1) = 1) : Met l yX0_anniversaryToEndorse (WS yX0_anniversaryToEndorse cX0_anniversaryToEndorse 3 (Option.some Jvm.ClassFile.FieldType.int)) { frames := 1, cells := 0, slots := 0, locals := 21 } (va_Pc [.ref (AD 13 i1 j1), .int x1] (Wd D cy A μ)) (QcRead (f_X0_anniversaryToEndorse G i1 j1 x1)) 0 0 (fun _ => False) := by
  refine q_met (by decide) (Nat.le_of_ble_eq_true rfl) ?_
  intro p e s m below meth c F w hr hlk hnm ls hl
  have F : CallFix p m c cX0_anniversaryToEndorse 3 s _ BIG RX0 := F
  have hl : lv_has ls 3 [(0, .ref (AD 13 i1 j1)), (1, .int x1)] := hl
  refine lv_iconst (v := 0) F.1 F.2.1 dX0_anniversaryToEndorse_0 (by decide) ?_
  refine lv_istore_n (lv' := [(2, .int 0), (0, .ref (AD 13 i1 j1)), (1, .int x1)]) F.1 F.2.1 dX0_anniversaryToEndorse_1 rfl hl (by decide) rfl (fun ls hl => ?_)
  refine q_loop (P := fun k2 ls => lv_has ls 3 [(2, .int (nI k2)), (0, .ref (AD 13 i1 j1)), (1, .int x1)] ∧ E_X0_anniversaryToEndorse_2 G i1 j1 x1 (((gcT G (5 * i1 + j1) - 1) / 365) - k2) k2 = E_X0_anniversaryToEndorse_2 G i1 j1 x1 ((gcT G (5 * i1 + j1) - 1) / 365) 0) ((gcT G (5 * i1 + j1) - 1) / 365) (fun k2 ls hk2 hl9 ih2 => ?_) 0 ls (Nat.zero_le _) ⟨lv_cg (lv_sub hl [0, 1, 2] rfl) rfl, rfl⟩
  obtain ⟨hl, hE⟩ := hl9
  refine lv_iload_n F.1 F.2.1 dX0_anniversaryToEndorse_2 rfl (lv_at hl 0 rfl) ?_
  refine lv_aload_n F.1 F.2.1 dX0_anniversaryToEndorse_3 rfl (lv_at hl 1 rfl) ?_
  refine q_rV (rest := [.int (nI k2)]) F w kV_X0_21 hd_X0_anniversaries (ci := 1) rfl (c_X0_anniversaries l D cy A _ AD G hM hI i1 j1 (show i1 < gnS G by omega) (show j1 < 5 by omega) hc) (hM.a13 (hI.o13 (show i1 < gnS G by omega) (show j1 < 5 by omega) hc)) dX0_anniversaryToEndorse_4 rfl rfl hl.1 ⟨rfl, rfl, Nat.le_of_ble_eq_true rfl, Nat.le_of_ble_eq_true rfl⟩ (Nat.le_of_ble_eq_true rfl) ⟨Nat.zero_le _, Nat.zero_le _⟩ ?_
  refine lv_fold (y := nI ((gcT G (5 * i1 + j1) - 1) / 365)) rfl ?_
  refine lv_icmp_ge (tgt := 44) F.1 F.2.1 dX0_anniversaryToEndorse_7 (by decide) (fun c_1 => ?_) (fun c_1 => ?_)
  rotate_left
  · have hlt2 : k2 < ((gcT G (5 * i1 + j1) - 1) / 365) := GB_ilt rfl (ann_lt (hI.ca hi1 hj1 hc)) hk2 c_1
    have hE : E_X0_anniversaryToEndorse_2 G i1 j1 x1 (((gcT G (5 * i1 + j1) - 1) / 365) - (k2 + 1) + 1) k2 = E_X0_anniversaryToEndorse_2 G i1 j1 x1 ((gcT G (5 * i1 + j1) - 1) / 365) 0 := by rw [show ((gcT G (5 * i1 + j1) - 1) / 365) - (k2 + 1) + 1 = ((gcT G (5 * i1 + j1) - 1) / 365) - k2 by omega]; exact hE
    refine lv_iload_n F.1 F.2.1 dX0_anniversaryToEndorse_10 rfl (lv_at hl 0 rfl) ?_
    refine lv_aload_n F.1 F.2.1 dX0_anniversaryToEndorse_11 rfl (lv_at hl 1 rfl) ?_
    refine gf_X0_25 F w (hM.a13 (hI.o13 (show i1 < gnS G by omega) (show j1 < 5 by omega) hc)) rfl dX0_anniversaryToEndorse_12 ?_
    refine q_rSN (rest := []) F w w.2.2.2.2.2.2.2.2.2.1 wSt_isIn wI_X6 (gB wC_X6_isIn) hd_X6_isIn (c_X6_isIn l D cy A _ (nI k2) (G 22 (5 * i1 + j1))) dX0_anniversaryToEndorse_15 rfl rfl hl.1 ⟨rfl, rfl, Nat.le_of_ble_eq_true rfl, Nat.le_of_ble_eq_true rfl⟩ (Nat.le_of_ble_eq_true rfl) ⟨Nat.zero_le _, Nat.zero_le _⟩ ?_
    refine lv_if_ne (tgt := 38) F.1 F.2.1 dX0_anniversaryToEndorse_18 (by decide) (fun c_2 => ?_) (fun c_2 => ?_)
    · refine lv_iinc (v := nI (k2 + 1)) (lv' := [(2, .int (nI (k2 + 1))), (0, .ref (AD 13 i1 j1)), (1, .int x1)]) F.1 F.2.1 dX0_anniversaryToEndorse_38 hl (k := 0) rfl (nI_1 _) (by decide) rfl (fun ls hl => ?_)
      refine lv_goto (tgt := 2) F.1 F.2.1 dX0_anniversaryToEndorse_41 (by decide) ?_
      exact ih2 ls hlt2 ⟨lv_sub hl [0, 1, 2] rfl, ((if_neg c_2)).symm.trans hE⟩
    · refine lv_iload_n F.1 F.2.1 dX0_anniversaryToEndorse_21 rfl (lv_at hl 2 rfl) ?_
      refine lv_aload_n F.1 F.2.1 dX0_anniversaryToEndorse_22 rfl (lv_at hl 1 rfl) ?_
      refine lv_iload_n F.1 F.2.1 dX0_anniversaryToEndorse_23 rfl (lv_at hl 0 rfl) ?_
      refine q_rV (rest := [.int x1]) F w kV_X0_32 hd_X0_anniversaryDay (ci := 1) rfl (c_X0_anniversaryDay l D cy A _ AD G hM hI i1 j1 (nI k2) (show i1 < gnS G by omega) (show j1 < 5 by omega) hc) (hM.a13 (hI.o13 (show i1 < gnS G by omega) (show j1 < 5 by omega) hc)) dX0_anniversaryToEndorse_24 rfl rfl hl.1 ⟨rfl, rfl, Nat.le_of_ble_eq_true rfl, Nat.le_of_ble_eq_true rfl⟩ (Nat.le_of_ble_eq_true rfl) ⟨Nat.zero_le _, Nat.zero_le _⟩ ?_
      refine lv_isub F.1 F.2.1 dX0_anniversaryToEndorse_27 ?_
      refine va_mabs F.1 F.2.1 (hl.1.symm ▸ F.2.2.1) F.2.2.2.1 (F.2.2.2.2 _ wMl_X0) (F.2.2.2.2 _ wMt_abs1) (F.2.2.2.2 _ wMt_i) (F.2.2.2.2 _ wMt_abs2) (Nat.le_of_ble_eq_true rfl) (Nat.le_of_ble_eq_true rfl) (Nat.zero_le _) (Nat.zero_le _) dX0_anniversaryToEndorse_28 ?_
      refine lv_bipush (v := 90) F.1 F.2.1 dX0_anniversaryToEndorse_31 (by decide) ?_
      refine lv_icmp_gt (tgt := 38) F.1 F.2.1 dX0_anniversaryToEndorse_33 (by decide) (fun c_3 => ?_) (fun c_3 => ?_)
      · refine lv_iinc (v := nI (k2 + 1)) (lv' := [(2, .int (nI (k2 + 1))), (0, .ref (AD 13 i1 j1)), (1, .int x1)]) F.1 F.2.1 dX0_anniversaryToEndorse_38 hl (k := 0) rfl (nI_1 _) (by decide) rfl (fun ls hl => ?_)
        refine lv_goto (tgt := 2) F.1 F.2.1 dX0_anniversaryToEndorse_41 (by decide) ?_
        exact ih2 ls hlt2 ⟨lv_sub hl [0, 1, 2] rfl, (((if_pos c_2).trans (if_pos c_3))).symm.trans hE⟩
      · refine lv_iload_n F.1 F.2.1 dX0_anniversaryToEndorse_36 rfl (lv_at hl 0 rfl) ?_
        exact q_reti F hr hlk (hE.symm.trans ((if_pos c_2).trans (if_neg c_3))) dX0_anniversaryToEndorse_37
  have hkn2 : k2 = ((gcT G (5 * i1 + j1) - 1) / 365) := GB_ile rfl (ann_lt (hI.ca hi1 hj1 hc)) hk2 c_1
  subst hkn2
  rw [Nat.sub_self] at hE
  refine lv_iconst (v := -1) F.1 F.2.1 dX0_anniversaryToEndorse_44 (by decide) ?_
  exact q_reti F hr hlk hE.symm dX0_anniversaryToEndorse_45
def E_X0_hasLapsedByItself_2 (G : GS) (i1 : Nat) (j1 : Nat) (x1 : Int32) : Nat → Nat → Int32
  | 0, _ => if x1 ≤ G 20 (5 * i1 + j1) then 0 else 1
  | d + 1, k2 => if f_X6_isIn (nI k2) (G 22 (5 * i1 + j1)) = 0 then (if x1 ≤ (f_X0_anniversaryDay G i1 j1 (nI k2)) + 90 then (E_X0_hasLapsedByItself_2 G i1 j1 x1 d (k2 + 1)) else 1) else (E_X0_hasLapsedByItself_2 G i1 j1 x1 d (k2 + 1))
theorem nz_E_X0_hasLapsedByItself_2 (G : GS) (i1 : Nat) (j1 : Nat) (x1 : Int32) : ∀ d k : Nat, nz (E_X0_hasLapsedByItself_2 G i1 j1 x1 d k)
  | 0, _ => (nz_ite nz0 nz1)
  | d + 1, k2 => (nz_ite (nz_ite (nz_E_X0_hasLapsedByItself_2 _ _ _ _ _ _) nz1) (nz_E_X0_hasLapsedByItself_2 _ _ _ _ _ _))
def f_X0_hasLapsedByItself (G : GS) (i1 : Nat) (j1 : Nat) (x1 : Int32) : Int32 := E_X0_hasLapsedByItself_2 G i1 j1 x1 ((gcT G (5 * i1 + j1) - 1) / 365) 0
theorem nz_f_X0_hasLapsedByItself (G : GS) (i1 : Nat) (j1 : Nat) (x1 : Int32) : nz (f_X0_hasLapsedByItself G i1 j1 x1) := (nz_E_X0_hasLapsedByItself_2 _ _ _ _ _ _)
set_option maxHeartbeats 4000000 in
set_option maxRecDepth 100000 in
theorem c_X0_hasLapsedByItself (l : Launch) (D : va_G) (cy : Nat → ClassId) (A : Nat → Prop) (μ : MU) (AD : AM) (G : GS) (hM : RepC cy AD G μ) (hI : InvC G) (i1 : Nat) (j1 : Nat) (x1 : Int32) (hi1 : i1 < gnS G) (hj1 : j1 < 5) (hc : G 18 (5 * i1 + j1) = 1) : Met l yX0_hasLapsedByItself (WS yX0_hasLapsedByItself cX0_hasLapsedByItself 3 (Option.some Jvm.ClassFile.FieldType.boolean)) { frames := 1, cells := 0, slots := 0, locals := 21 } (va_Pc [.ref (AD 13 i1 j1), .int x1] (Wd D cy A μ)) (QcRead (f_X0_hasLapsedByItself G i1 j1 x1)) 0 0 (fun _ => False) := by
  refine q_met (by decide) (Nat.le_of_ble_eq_true rfl) ?_
  intro p e s m below meth c F w hr hlk hnm ls hl
  have F : CallFix p m c cX0_hasLapsedByItself 3 s _ BIG RX0 := F
  have hl : lv_has ls 3 [(0, .ref (AD 13 i1 j1)), (1, .int x1)] := hl
  refine lv_iconst (v := 0) F.1 F.2.1 dX0_hasLapsedByItself_0 (by decide) ?_
  refine lv_istore_n (lv' := [(2, .int 0), (0, .ref (AD 13 i1 j1)), (1, .int x1)]) F.1 F.2.1 dX0_hasLapsedByItself_1 rfl hl (by decide) rfl (fun ls hl => ?_)
  refine q_loop (P := fun k2 ls => lv_has ls 3 [(2, .int (nI k2)), (0, .ref (AD 13 i1 j1)), (1, .int x1)] ∧ E_X0_hasLapsedByItself_2 G i1 j1 x1 (((gcT G (5 * i1 + j1) - 1) / 365) - k2) k2 = E_X0_hasLapsedByItself_2 G i1 j1 x1 ((gcT G (5 * i1 + j1) - 1) / 365) 0) ((gcT G (5 * i1 + j1) - 1) / 365) (fun k2 ls hk2 hl9 ih2 => ?_) 0 ls (Nat.zero_le _) ⟨lv_cg (lv_sub hl [0, 1, 2] rfl) rfl, rfl⟩
  obtain ⟨hl, hE⟩ := hl9
  refine lv_iload_n F.1 F.2.1 dX0_hasLapsedByItself_2 rfl (lv_at hl 0 rfl) ?_
  refine lv_aload_n F.1 F.2.1 dX0_hasLapsedByItself_3 rfl (lv_at hl 1 rfl) ?_
  refine q_rV (rest := [.int (nI k2)]) F w kV_X0_21 hd_X0_anniversaries (ci := 1) rfl (c_X0_anniversaries l D cy A _ AD G hM hI i1 j1 (show i1 < gnS G by omega) (show j1 < 5 by omega) hc) (hM.a13 (hI.o13 (show i1 < gnS G by omega) (show j1 < 5 by omega) hc)) dX0_hasLapsedByItself_4 rfl rfl hl.1 ⟨rfl, rfl, Nat.le_of_ble_eq_true rfl, Nat.le_of_ble_eq_true rfl⟩ (Nat.le_of_ble_eq_true rfl) ⟨Nat.zero_le _, Nat.zero_le _⟩ ?_
  refine lv_fold (y := nI ((gcT G (5 * i1 + j1) - 1) / 365)) rfl ?_
  refine lv_icmp_ge (tgt := 41) F.1 F.2.1 dX0_hasLapsedByItself_7 (by decide) (fun c_1 => ?_) (fun c_1 => ?_)
  rotate_left
  · have hlt2 : k2 < ((gcT G (5 * i1 + j1) - 1) / 365) := GB_ilt rfl (ann_lt (hI.ca hi1 hj1 hc)) hk2 c_1
    have hE : E_X0_hasLapsedByItself_2 G i1 j1 x1 (((gcT G (5 * i1 + j1) - 1) / 365) - (k2 + 1) + 1) k2 = E_X0_hasLapsedByItself_2 G i1 j1 x1 ((gcT G (5 * i1 + j1) - 1) / 365) 0 := by rw [show ((gcT G (5 * i1 + j1) - 1) / 365) - (k2 + 1) + 1 = ((gcT G (5 * i1 + j1) - 1) / 365) - k2 by omega]; exact hE
    refine lv_iload_n F.1 F.2.1 dX0_hasLapsedByItself_10 rfl (lv_at hl 0 rfl) ?_
    refine lv_aload_n F.1 F.2.1 dX0_hasLapsedByItself_11 rfl (lv_at hl 1 rfl) ?_
    refine gf_X0_25 F w (hM.a13 (hI.o13 (show i1 < gnS G by omega) (show j1 < 5 by omega) hc)) rfl dX0_hasLapsedByItself_12 ?_
    refine q_rSN (rest := []) F w w.2.2.2.2.2.2.2.2.2.1 wSt_isIn wI_X6 (gB wC_X6_isIn) hd_X6_isIn (c_X6_isIn l D cy A _ (nI k2) (G 22 (5 * i1 + j1))) dX0_hasLapsedByItself_15 rfl rfl hl.1 ⟨rfl, rfl, Nat.le_of_ble_eq_true rfl, Nat.le_of_ble_eq_true rfl⟩ (Nat.le_of_ble_eq_true rfl) ⟨Nat.zero_le _, Nat.zero_le _⟩ ?_
    refine lv_if_ne (tgt := 35) F.1 F.2.1 dX0_hasLapsedByItself_18 (by decide) (fun c_2 => ?_) (fun c_2 => ?_)
    · refine lv_iinc (v := nI (k2 + 1)) (lv' := [(2, .int (nI (k2 + 1))), (0, .ref (AD 13 i1 j1)), (1, .int x1)]) F.1 F.2.1 dX0_hasLapsedByItself_35 hl (k := 0) rfl (nI_1 _) (by decide) rfl (fun ls hl => ?_)
      refine lv_goto (tgt := 2) F.1 F.2.1 dX0_hasLapsedByItself_38 (by decide) ?_
      exact ih2 ls hlt2 ⟨lv_sub hl [0, 1, 2] rfl, ((if_neg c_2)).symm.trans hE⟩
    · refine lv_iload_n F.1 F.2.1 dX0_hasLapsedByItself_21 rfl (lv_at hl 2 rfl) ?_
      refine lv_aload_n F.1 F.2.1 dX0_hasLapsedByItself_22 rfl (lv_at hl 1 rfl) ?_
      refine lv_iload_n F.1 F.2.1 dX0_hasLapsedByItself_23 rfl (lv_at hl 0 rfl) ?_
      refine q_rV (rest := [.int x1]) F w kV_X0_32 hd_X0_anniversaryDay (ci := 1) rfl (c_X0_anniversaryDay l D cy A _ AD G hM hI i1 j1 (nI k2) (show i1 < gnS G by omega) (show j1 < 5 by omega) hc) (hM.a13 (hI.o13 (show i1 < gnS G by omega) (show j1 < 5 by omega) hc)) dX0_hasLapsedByItself_24 rfl rfl hl.1 ⟨rfl, rfl, Nat.le_of_ble_eq_true rfl, Nat.le_of_ble_eq_true rfl⟩ (Nat.le_of_ble_eq_true rfl) ⟨Nat.zero_le _, Nat.zero_le _⟩ ?_
      refine lv_bipush (v := 90) F.1 F.2.1 dX0_hasLapsedByItself_27 (by decide) ?_
      refine lv_iadd F.1 F.2.1 dX0_hasLapsedByItself_29 ?_
      refine lv_icmp_le (tgt := 35) F.1 F.2.1 dX0_hasLapsedByItself_30 (by decide) (fun c_3 => ?_) (fun c_3 => ?_)
      · refine lv_iinc (v := nI (k2 + 1)) (lv' := [(2, .int (nI (k2 + 1))), (0, .ref (AD 13 i1 j1)), (1, .int x1)]) F.1 F.2.1 dX0_hasLapsedByItself_35 hl (k := 0) rfl (nI_1 _) (by decide) rfl (fun ls hl => ?_)
        refine lv_goto (tgt := 2) F.1 F.2.1 dX0_hasLapsedByItself_38 (by decide) ?_
        exact ih2 ls hlt2 ⟨lv_sub hl [0, 1, 2] rfl, (((if_pos c_2).trans (if_pos c_3))).symm.trans hE⟩
      · refine lv_iconst (v := 1) F.1 F.2.1 dX0_hasLapsedByItself_33 (by decide) ?_
        exact q_retz F hr hlk (hE.symm.trans ((if_pos c_2).trans (if_neg c_3))) nz1 dX0_hasLapsedByItself_34
  have hkn2 : k2 = ((gcT G (5 * i1 + j1) - 1) / 365) := GB_ile rfl (ann_lt (hI.ca hi1 hj1 hc)) hk2 c_1
  subst hkn2
  rw [Nat.sub_self] at hE
  refine lv_iload_n F.1 F.2.1 dX0_hasLapsedByItself_41 rfl (lv_at hl 2 rfl) ?_
  refine lv_aload_n F.1 F.2.1 dX0_hasLapsedByItself_42 rfl (lv_at hl 1 rfl) ?_
  refine gf_X0_18 F w (hM.a13 (hI.o13 (show i1 < gnS G by omega) (show j1 < 5 by omega) hc)) rfl dX0_hasLapsedByItself_43 ?_
  refine jn0 (m := m) (ls := ls) (rest := []) (if x1 ≤ G 20 (5 * i1 + j1) then 0 else 1) 54 (fun J_4 => ?_) ?_
  · refine lv_icmp_le (tgt := 53) F.1 F.2.1 dX0_hasLapsedByItself_46 (by decide) (fun c_5 => ?_) (fun c_5 => ?_)
    · refine lv_iconst (v := 0) F.1 F.2.1 dX0_hasLapsedByItself_53 (by decide) ?_
      exact jn_a (if_pos c_5) J_4
    · refine lv_iconst (v := 1) F.1 F.2.1 dX0_hasLapsedByItself_49 (by decide) ?_
      refine lv_goto (tgt := 54) F.1 F.2.1 dX0_hasLapsedByItself_50 (by decide) ?_
      exact jn_a (if_neg c_5) J_4
  exact q_retz F hr hlk hE.symm (nz_ite nz0 nz1) dX0_hasLapsedByItself_54
def f_X1_isOpen (G : GS) (i1 : Nat) (j1 : Nat) : Int32 := if G 37 (12 * i1 + j1) = 0 then (if G 44 (12 * i1 + j1) = 0 then 1 else 0) else 0
theorem nz_f_X1_isOpen (G : GS) (i1 : Nat) (j1 : Nat) : nz (f_X1_isOpen G i1 j1) := (nz_ite (nz_ite nz1 nz0) nz0)
set_option maxHeartbeats 4000000 in
set_option maxRecDepth 100000 in
theorem c_X1_isOpen (l : Launch) (D : va_G) (cy : Nat → ClassId) (A : Nat → Prop) (μ : MU) (AD : AM) (G : GS) (hM : RepC cy AD G μ) (hI : InvC G) (i1 : Nat) (j1 : Nat) (hi1 : i1 < gnV G) (hj1 : j1 < gnF G i1) : Met l yX1_isOpen (WS yX1_isOpen cX1_isOpen 1 (Option.some Jvm.ClassFile.FieldType.boolean)) { frames := 0, cells := 0, slots := 0, locals := 0 } (va_Pc [.ref (AD 12 i1 j1)] (Wd D cy A μ)) (QcRead (f_X1_isOpen G i1 j1)) 0 0 (fun _ => False) := by
  refine q_met (by decide) (Nat.le_of_ble_eq_true rfl) ?_
  intro p e s m below meth c F w hr hlk hnm ls hl
  have F : CallFix p m c cX1_isOpen 1 s _ BIG RX1 := F
  have hl : lv_has ls 1 [(0, .ref (AD 12 i1 j1))] := hl
  refine lv_aload_n F.1 F.2.1 dX1_isOpen_0 rfl (lv_at hl 0 rfl) ?_
  refine gf_X1_13 F w (hM.a12 (hI.o12 (show i1 < gnV G by omega) (show j1 < gnF G i1 by omega))) rfl dX1_isOpen_1 ?_
  refine jn0 (m := m) (ls := ls) (rest := []) (if G 37 (12 * i1 + j1) = 0 then (if G 44 (12 * i1 + j1) = 0 then 1 else 0) else 0) 19 (fun J_1 => ?_) ?_
  · refine lv_if_ne (tgt := 18) F.1 F.2.1 dX1_isOpen_4 (by decide) (fun c_2 => ?_) (fun c_2 => ?_)
    · refine lv_iconst (v := 0) F.1 F.2.1 dX1_isOpen_18 (by decide) ?_
      exact jn_a (if_neg c_2) J_1
    · refine lv_aload_n F.1 F.2.1 dX1_isOpen_7 rfl (lv_at hl 0 rfl) ?_
      refine gf_X1_17 F w (hM.a12 (hI.o12 (show i1 < gnV G by omega) (show j1 < gnF G i1 by omega))) rfl dX1_isOpen_8 ?_
      refine lv_if_ne (tgt := 18) F.1 F.2.1 dX1_isOpen_11 (by decide) (fun c_3 => ?_) (fun c_3 => ?_)
      · refine lv_iconst (v := 0) F.1 F.2.1 dX1_isOpen_18 (by decide) ?_
        exact jn_a ((if_pos c_2).trans (if_neg c_3)) J_1
      · refine lv_iconst (v := 1) F.1 F.2.1 dX1_isOpen_14 (by decide) ?_
        refine lv_goto (tgt := 19) F.1 F.2.1 dX1_isOpen_15 (by decide) ?_
        exact jn_a ((if_pos c_2).trans (if_pos c_3)) J_1
  exact q_retz F hr hlk rfl (nz_ite (nz_ite nz1 nz0) nz0) dX1_isOpen_19
def L_X5_openFindings_4_1 (G : GS) (i1 : Nat) : Nat → Int32
  | 0 => 0
  | k4 + 1 => (L_X5_openFindings_4_1 G i1 k4) + (if f_X1_isOpen G i1 k4 = 0 then 0 else 1)
def f_X5_openFindings (G : GS) (i1 : Nat) : Int32 := L_X5_openFindings_4_1 G i1 (gnF G i1)
set_option maxHeartbeats 4000000 in
set_option maxRecDepth 100000 in
theorem c_X5_openFindings (l : Launch) (D : va_G) (cy : Nat → ClassId) (A : Nat → Prop) (μ : MU) (AD : AM) (G : GS) (hM : RepC cy AD G μ) (hI : InvC G) (i1 : Nat) (hi1 : i1 < gnV G) : Met l yX5_openFindings (WS yX5_openFindings cX5_openFindings 3 (Option.some Jvm.ClassFile.FieldType.int)) { frames := 3, cells := 0, slots := 0, locals := 64 } (va_Pc [.ref (AD 10 i1 0)] (Wd D cy A μ)) (QcRead (f_X5_openFindings G i1)) 0 0 (fun _ => False) := by
  refine q_met (by decide) (Nat.le_of_ble_eq_true rfl) ?_
  intro p e s m below meth c F w hr hlk hnm ls hl
  have F : CallFix p m c cX5_openFindings 3 s _ BIG RX5 := F
  have hl : lv_has ls 3 [(0, .ref (AD 10 i1 0))] := hl
  refine lv_iconst (v := 0) F.1 F.2.1 dX5_openFindings_0 (by decide) ?_
  refine lv_istore_n (lv' := [(1, .int 0), (0, .ref (AD 10 i1 0))]) F.1 F.2.1 dX5_openFindings_1 rfl hl (by decide) rfl (fun ls hl => ?_)
  refine lv_iconst (v := 0) F.1 F.2.1 dX5_openFindings_2 (by decide) ?_
  refine lv_istore_n (lv' := [(2, .int 0), (1, .int 0), (0, .ref (AD 10 i1 0))]) F.1 F.2.1 dX5_openFindings_3 rfl hl (by decide) rfl (fun ls hl => ?_)
  refine q_loop (P := fun k4 ls => lv_has ls 3 [(2, .int (nI k4)), (1, .int (L_X5_openFindings_4_1 G i1 k4)), (0, .ref (AD 10 i1 0))]) (gnF G i1) (fun k4 ls hk4 hl ih4 => ?_) 0 ls (Nat.zero_le _) (lv_cg (lv_sub hl [0, 1, 2] rfl) rfl)
  refine lv_iload_n F.1 F.2.1 dX5_openFindings_4 rfl (lv_at hl 0 rfl) ?_
  refine lv_aload_n F.1 F.2.1 dX5_openFindings_5 rfl (lv_at hl 2 rfl) ?_
  refine gf_X5_38 F w (hM.a10 (hI.o10 (show i1 < gnV G by omega))) rfl dX5_openFindings_6 ?_
  refine q_rV (rest := [.int (nI k4)]) F w kV_X5_45 hd_Jx4a65c_size_8abf5 (ci := 0) rfl (c_size l D cy A _ (hM.l11 (hI.mv (show i1 < gnV G by omega))).1) (hM.l11 (hI.mv (show i1 < gnV G by omega))).1 dX5_openFindings_9 rfl rfl hl.1 ⟨rfl, rfl, Nat.le_of_ble_eq_true rfl, Nat.le_of_ble_eq_true rfl⟩ (Nat.le_of_ble_eq_true rfl) ⟨Nat.zero_le _, Nat.zero_le _⟩ ?_
  refine lv_icmp_ge (tgt := 46) F.1 F.2.1 dX5_openFindings_12 (by decide) (fun c_1 => ?_) (fun c_1 => ?_)
  rotate_left
  · have hlt4 : k4 < (gnF G i1) := GB_ilt rfl (Nat.lt_of_le_of_lt (hI.f hi1).2.1 (by decide)) hk4 c_1
    refine lv_iload_n F.1 F.2.1 dX5_openFindings_15 rfl (lv_at hl 1 rfl) ?_
    refine lv_aload_n F.1 F.2.1 dX5_openFindings_16 rfl (lv_at hl 2 rfl) ?_
    refine gf_X5_38 F w (hM.a10 (hI.o10 (show i1 < gnV G by omega))) rfl dX5_openFindings_17 ?_
    refine lv_iload_n F.1 F.2.1 dX5_openFindings_20 rfl (lv_at hl 0 rfl) ?_
    refine q_sVq (rest := [.int (L_X5_openFindings_4_1 G i1 k4)]) F w kV_X5_49 hd_Jx4a65c_get_915e3 (ci := 0) rfl (c_get l D cy A _ (hM.l11 (hI.mv (show i1 < gnV G by omega))) (show k4 < gnF G i1 by omega) (show gnF G i1 ≤ 600 by have := (hI.f (show i1 < gnV G by omega)).2.1; omega)) (hM.l11 (hI.mv (show i1 < gnV G by omega))).1 dX5_openFindings_21 rfl rfl hl.1 ⟨rfl, rfl, Nat.le_of_ble_eq_true rfl, Nat.le_of_ble_eq_true rfl⟩ (Nat.le_of_ble_eq_true rfl) ⟨Nat.zero_le _, Nat.zero_le _⟩ ?_
    refine q_cast F w wL_X5_53 (ci := 2) rfl (hM.a12 (hI.o12 (show i1 < gnV G by omega) (show k4 < gnF G i1 by omega))) dX5_openFindings_24 ?_
    refine q_rV (rest := [.int (L_X5_openFindings_4_1 G i1 k4)]) F w kV_X5_55 hd_X1_isOpen (ci := 2) rfl (c_X1_isOpen l D cy A _ AD G hM hI i1 k4 (show i1 < gnV G by omega) (show k4 < gnF G i1 by omega)) (hM.a12 (hI.o12 (show i1 < gnV G by omega) (show k4 < gnF G i1 by omega))) dX5_openFindings_27 rfl rfl hl.1 ⟨rfl, rfl, Nat.le_of_ble_eq_true rfl, Nat.le_of_ble_eq_true rfl⟩ (Nat.le_of_ble_eq_true rfl) ⟨Nat.zero_le _, Nat.zero_le _⟩ ?_
    refine jn0 (m := m) (ls := ls) (rest := [.int (L_X5_openFindings_4_1 G i1 k4)]) (if f_X1_isOpen G i1 k4 = 0 then 0 else 1) 38 (fun J_2 => ?_) ?_
    · refine lv_if_eq (tgt := 37) F.1 F.2.1 dX5_openFindings_30 (by decide) (fun c_3 => ?_) (fun c_3 => ?_)
      · refine lv_iconst (v := 0) F.1 F.2.1 dX5_openFindings_37 (by decide) ?_
        exact jn_a (if_pos c_3) J_2
      · refine lv_iconst (v := 1) F.1 F.2.1 dX5_openFindings_33 (by decide) ?_
        refine lv_goto (tgt := 38) F.1 F.2.1 dX5_openFindings_34 (by decide) ?_
        exact jn_a (if_neg c_3) J_2
    refine lv_iadd F.1 F.2.1 dX5_openFindings_38 ?_
    refine lv_istore_n (lv' := [(1, .int ((L_X5_openFindings_4_1 G i1 k4) + (if f_X1_isOpen G i1 k4 = 0 then 0 else 1))), (2, .int (nI k4)), (0, .ref (AD 10 i1 0))]) F.1 F.2.1 dX5_openFindings_39 rfl hl (by decide) rfl (fun ls hl => ?_)
    refine lv_iinc (v := nI (k4 + 1)) (lv' := [(2, .int (nI (k4 + 1))), (1, .int ((L_X5_openFindings_4_1 G i1 k4) + (if f_X1_isOpen G i1 k4 = 0 then 0 else 1))), (0, .ref (AD 10 i1 0))]) F.1 F.2.1 dX5_openFindings_40 hl (k := 1) rfl (nI_1 _) (by decide) rfl (fun ls hl => ?_)
    refine lv_goto (tgt := 4) F.1 F.2.1 dX5_openFindings_43 (by decide) ?_
    exact ih4 ls hlt4 (lv_sub hl [0, 1, 2] rfl)
  have hkn4 : k4 = (gnF G i1) := GB_ile rfl (Nat.lt_of_le_of_lt (hI.f hi1).2.1 (by decide)) hk4 c_1
  subst hkn4
  refine lv_iload_n F.1 F.2.1 dX5_openFindings_46 rfl (lv_at hl 1 rfl) ?_
  exact q_reti F hr hlk rfl dX5_openFindings_47
def L_X5_openWeight_4_1 (G : GS) (i1 : Nat) : Nat → Int32
  | 0 => 0
  | k4 + 1 => (L_X5_openWeight_4_1 G i1 k4) + (if f_X1_isOpen G i1 k4 = 0 then 0 else G 36 (12 * i1 + k4))
def f_X5_openWeight (G : GS) (i1 : Nat) : Int32 := L_X5_openWeight_4_1 G i1 (gnF G i1)
set_option maxHeartbeats 4000000 in
set_option maxRecDepth 100000 in
theorem c_X5_openWeight (l : Launch) (D : va_G) (cy : Nat → ClassId) (A : Nat → Prop) (μ : MU) (AD : AM) (G : GS) (hM : RepC cy AD G μ) (hI : InvC G) (i1 : Nat) (hi1 : i1 < gnV G) : Met l yX5_openWeight (WS yX5_openWeight cX5_openWeight 4 (Option.some Jvm.ClassFile.FieldType.int)) { frames := 3, cells := 0, slots := 0, locals := 64 } (va_Pc [.ref (AD 10 i1 0)] (Wd D cy A μ)) (QcRead (f_X5_openWeight G i1)) 0 0 (fun _ => False) := by
  refine q_met (by decide) (Nat.le_of_ble_eq_true rfl) ?_
  intro p e s m below meth c F w hr hlk hnm ls hl
  have F : CallFix p m c cX5_openWeight 4 s _ BIG RX5 := F
  have hl : lv_has ls 4 [(0, .ref (AD 10 i1 0))] := hl
  refine lv_iconst (v := 0) F.1 F.2.1 dX5_openWeight_0 (by decide) ?_
  refine lv_istore_n (lv' := [(1, .int 0), (0, .ref (AD 10 i1 0))]) F.1 F.2.1 dX5_openWeight_1 rfl hl (by decide) rfl (fun ls hl => ?_)
  refine lv_iconst (v := 0) F.1 F.2.1 dX5_openWeight_2 (by decide) ?_
  refine lv_istore_n (lv' := [(2, .int 0), (1, .int 0), (0, .ref (AD 10 i1 0))]) F.1 F.2.1 dX5_openWeight_3 rfl hl (by decide) rfl (fun ls hl => ?_)
  refine q_loop (P := fun k4 ls => lv_has ls 4 [(2, .int (nI k4)), (1, .int (L_X5_openWeight_4_1 G i1 k4)), (0, .ref (AD 10 i1 0))]) (gnF G i1) (fun k4 ls hk4 hl ih4 => ?_) 0 ls (Nat.zero_le _) (lv_cg (lv_sub hl [0, 1, 2] rfl) rfl)
  refine lv_iload_n F.1 F.2.1 dX5_openWeight_4 rfl (lv_at hl 0 rfl) ?_
  refine lv_aload_n F.1 F.2.1 dX5_openWeight_5 rfl (lv_at hl 2 rfl) ?_
  refine gf_X5_38 F w (hM.a10 (hI.o10 (show i1 < gnV G by omega))) rfl dX5_openWeight_6 ?_
  refine q_rV (rest := [.int (nI k4)]) F w kV_X5_45 hd_Jx4a65c_size_8abf5 (ci := 0) rfl (c_size l D cy A _ (hM.l11 (hI.mv (show i1 < gnV G by omega))).1) (hM.l11 (hI.mv (show i1 < gnV G by omega))).1 dX5_openWeight_9 rfl rfl hl.1 ⟨rfl, rfl, Nat.le_of_ble_eq_true rfl, Nat.le_of_ble_eq_true rfl⟩ (Nat.le_of_ble_eq_true rfl) ⟨Nat.zero_le _, Nat.zero_le _⟩ ?_
  refine lv_icmp_ge (tgt := 51) F.1 F.2.1 dX5_openWeight_12 (by decide) (fun c_1 => ?_) (fun c_1 => ?_)
  rotate_left
  · have hlt4 : k4 < (gnF G i1) := GB_ilt rfl (Nat.lt_of_le_of_lt (hI.f hi1).2.1 (by decide)) hk4 c_1
    refine lv_aload_n F.1 F.2.1 dX5_openWeight_15 rfl (lv_at hl 2 rfl) ?_
    refine gf_X5_38 F w (hM.a10 (hI.o10 (show i1 < gnV G by omega))) rfl dX5_openWeight_16 ?_
    refine lv_iload_n F.1 F.2.1 dX5_openWeight_19 rfl (lv_at hl 0 rfl) ?_
    refine q_sVq (rest := []) F w kV_X5_49 hd_Jx4a65c_get_915e3 (ci := 0) rfl (c_get l D cy A _ (hM.l11 (hI.mv (show i1 < gnV G by omega))) (show k4 < gnF G i1 by omega) (show gnF G i1 ≤ 600 by have := (hI.f (show i1 < gnV G by omega)).2.1; omega)) (hM.l11 (hI.mv (show i1 < gnV G by omega))).1 dX5_openWeight_20 rfl rfl hl.1 ⟨rfl, rfl, Nat.le_of_ble_eq_true rfl, Nat.le_of_ble_eq_true rfl⟩ (Nat.le_of_ble_eq_true rfl) ⟨Nat.zero_le _, Nat.zero_le _⟩ ?_
    refine q_cast F w wL_X5_53 (ci := 2) rfl (hM.a12 (hI.o12 (show i1 < gnV G by omega) (show k4 < gnF G i1 by omega))) dX5_openWeight_23 ?_
    refine lv_astore_n (lv' := [(3, .ref (AD 12 i1 k4)), (2, .int (nI k4)), (1, .int (L_X5_openWeight_4_1 G i1 k4)), (0, .ref (AD 10 i1 0))]) F.1 F.2.1 dX5_openWeight_26 rfl hl (by decide) rfl (fun ls hl => ?_)
    refine lv_iload_n F.1 F.2.1 dX5_openWeight_27 rfl (lv_at hl 2 rfl) ?_
    refine lv_aload_n F.1 F.2.1 dX5_openWeight_28 rfl (lv_at hl 0 rfl) ?_
    refine q_rV (rest := [.int (L_X5_openWeight_4_1 G i1 k4)]) F w kV_X5_55 hd_X1_isOpen (ci := 2) rfl (c_X1_isOpen l D cy A _ AD G hM hI i1 k4 (show i1 < gnV G by omega) (show k4 < gnF G i1 by omega)) (hM.a12 (hI.o12 (show i1 < gnV G by omega) (show k4 < gnF G i1 by omega))) dX5_openWeight_29 rfl rfl hl.1 ⟨rfl, rfl, Nat.le_of_ble_eq_true rfl, Nat.le_of_ble_eq_true rfl⟩ (Nat.le_of_ble_eq_true rfl) ⟨Nat.zero_le _, Nat.zero_le _⟩ ?_
    refine jn0 (m := m) (ls := ls) (rest := [.int (L_X5_openWeight_4_1 G i1 k4)]) (if f_X1_isOpen G i1 k4 = 0 then 0 else G 36 (12 * i1 + k4)) 43 (fun J_2 => ?_) ?_
    · refine lv_if_eq (tgt := 42) F.1 F.2.1 dX5_openWeight_32 (by decide) (fun c_3 => ?_) (fun c_3 => ?_)
      · refine lv_iconst (v := 0) F.1 F.2.1 dX5_openWeight_42 (by decide) ?_
        exact jn_a (if_pos c_3) J_2
      · refine lv_aload_n F.1 F.2.1 dX5_openWeight_35 rfl (lv_at hl 0 rfl) ?_
        refine gf_X5_59 F w (hM.a12 (hI.o12 (show i1 < gnV G by omega) (show k4 < gnF G i1 by omega))) rfl dX5_openWeight_36 ?_
        refine lv_goto (tgt := 43) F.1 F.2.1 dX5_openWeight_39 (by decide) ?_
        exact jn_a (if_neg c_3) J_2
    refine lv_iadd F.1 F.2.1 dX5_openWeight_43 ?_
    refine lv_istore_n (lv' := [(1, .int ((L_X5_openWeight_4_1 G i1 k4) + (if f_X1_isOpen G i1 k4 = 0 then 0 else G 36 (12 * i1 + k4)))), (3, .ref (AD 12 i1 k4)), (2, .int (nI k4)), (0, .ref (AD 10 i1 0))]) F.1 F.2.1 dX5_openWeight_44 rfl hl (by decide) rfl (fun ls hl => ?_)
    refine lv_iinc (v := nI (k4 + 1)) (lv' := [(2, .int (nI (k4 + 1))), (1, .int ((L_X5_openWeight_4_1 G i1 k4) + (if f_X1_isOpen G i1 k4 = 0 then 0 else G 36 (12 * i1 + k4)))), (3, .ref (AD 12 i1 k4)), (0, .ref (AD 10 i1 0))]) F.1 F.2.1 dX5_openWeight_45 hl (k := 2) rfl (nI_1 _) (by decide) rfl (fun ls hl => ?_)
    refine lv_goto (tgt := 4) F.1 F.2.1 dX5_openWeight_48 (by decide) ?_
    exact ih4 ls hlt4 (lv_sub hl [0, 1, 3] rfl)
  have hkn4 : k4 = (gnF G i1) := GB_ile rfl (Nat.lt_of_le_of_lt (hI.f hi1).2.1 (by decide)) hk4 c_1
  subst hkn4
  refine lv_iload_n F.1 F.2.1 dX5_openWeight_51 rfl (lv_at hl 1 rfl) ?_
  exact q_reti F hr hlk rfl dX5_openWeight_52
def E_X5_hasPutOffUnmended_2 (G : GS) (i1 : Nat) : Nat → Nat → Int32
  | 0, _ => 0
  | d + 1, k2 => if G 44 (12 * i1 + k2) = 0 then (E_X5_hasPutOffUnmended_2 G i1 d (k2 + 1)) else (if G 37 (12 * i1 + k2) = 0 then 1 else (E_X5_hasPutOffUnmended_2 G i1 d (k2 + 1)))
theorem nz_E_X5_hasPutOffUnmended_2 (G : GS) (i1 : Nat) : ∀ d k : Nat, nz (E_X5_hasPutOffUnmended_2 G i1 d k)
  | 0, _ => nz0
  | d + 1, k2 => (nz_ite (nz_E_X5_hasPutOffUnmended_2 _ _ _ _) (nz_ite nz1 (nz_E_X5_hasPutOffUnmended_2 _ _ _ _)))
def f_X5_hasPutOffUnmended (G : GS) (i1 : Nat) : Int32 := E_X5_hasPutOffUnmended_2 G i1 (gnF G i1) 0
theorem nz_f_X5_hasPutOffUnmended (G : GS) (i1 : Nat) : nz (f_X5_hasPutOffUnmended G i1) := (nz_E_X5_hasPutOffUnmended_2 _ _ _ _)
set_option maxHeartbeats 4000000 in
set_option maxRecDepth 100000 in
theorem c_X5_hasPutOffUnmended (l : Launch) (D : va_G) (cy : Nat → ClassId) (A : Nat → Prop) (μ : MU) (AD : AM) (G : GS) (hM : RepC cy AD G μ) (hI : InvC G) (i1 : Nat) (hi1 : i1 < gnV G) : Met l yX5_hasPutOffUnmended (WS yX5_hasPutOffUnmended cX5_hasPutOffUnmended 3 (Option.some Jvm.ClassFile.FieldType.boolean)) { frames := 3, cells := 0, slots := 0, locals := 64 } (va_Pc [.ref (AD 10 i1 0)] (Wd D cy A μ)) (QcRead (f_X5_hasPutOffUnmended G i1)) 0 0 (fun _ => False) := by
  refine q_met (by decide) (Nat.le_of_ble_eq_true rfl) ?_
  intro p e s m below meth c F w hr hlk hnm ls hl
  have F : CallFix p m c cX5_hasPutOffUnmended 3 s _ BIG RX5 := F
  have hl : lv_has ls 3 [(0, .ref (AD 10 i1 0))] := hl
  refine lv_iconst (v := 0) F.1 F.2.1 dX5_hasPutOffUnmended_0 (by decide) ?_
  refine lv_istore_n (lv' := [(1, .int 0), (0, .ref (AD 10 i1 0))]) F.1 F.2.1 dX5_hasPutOffUnmended_1 rfl hl (by decide) rfl (fun ls hl => ?_)
  refine q_loop (P := fun k2 ls => lv_has ls 3 [(1, .int (nI k2)), (0, .ref (AD 10 i1 0))] ∧ E_X5_hasPutOffUnmended_2 G i1 ((gnF G i1) - k2) k2 = E_X5_hasPutOffUnmended_2 G i1 (gnF G i1) 0) (gnF G i1) (fun k2 ls hk2 hl9 ih2 => ?_) 0 ls (Nat.zero_le _) ⟨lv_cg (lv_sub hl [0, 1] rfl) rfl, rfl⟩
  obtain ⟨hl, hE⟩ := hl9
  refine lv_iload_n F.1 F.2.1 dX5_hasPutOffUnmended_2 rfl (lv_at hl 0 rfl) ?_
  refine lv_aload_n F.1 F.2.1 dX5_hasPutOffUnmended_3 rfl (lv_at hl 1 rfl) ?_
  refine gf_X5_38 F w (hM.a10 (hI.o10 (show i1 < gnV G by omega))) rfl dX5_hasPutOffUnmended_4 ?_
  refine q_rV (rest := [.int (nI k2)]) F w kV_X5_45 hd_Jx4a65c_size_8abf5 (ci := 0) rfl (c_size l D cy A _ (hM.l11 (hI.mv (show i1 < gnV G by omega))).1) (hM.l11 (hI.mv (show i1 < gnV G by omega))).1 dX5_hasPutOffUnmended_7 rfl rfl hl.1 ⟨rfl, rfl, Nat.le_of_ble_eq_true rfl, Nat.le_of_ble_eq_true rfl⟩ (Nat.le_of_ble_eq_true rfl) ⟨Nat.zero_le _, Nat.zero_le _⟩ ?_
  refine lv_icmp_ge (tgt := 47) F.1 F.2.1 dX5_hasPutOffUnmended_10 (by decide) (fun c_1 => ?_) (fun c_1 => ?_)
  rotate_left
  · have hlt2 : k2 < (gnF G i1) := GB_ilt rfl (Nat.lt_of_le_of_lt (hI.f hi1).2.1 (by decide)) hk2 c_1
    have hE : E_X5_hasPutOffUnmended_2 G i1 ((gnF G i1) - (k2 + 1) + 1) k2 = E_X5_hasPutOffUnmended_2 G i1 (gnF G i1) 0 := by rw [show (gnF G i1) - (k2 + 1) + 1 = (gnF G i1) - k2 by omega]; exact hE
    refine lv_aload_n F.1 F.2.1 dX5_hasPutOffUnmended_13 rfl (lv_at hl 1 rfl) ?_
    refine gf_X5_38 F w (hM.a10 (hI.o10 (show i1 < gnV G by omega))) rfl dX5_hasPutOffUnmended_14 ?_
    refine lv_iload_n F.1 F.2.1 dX5_hasPutOffUnmended_17 rfl (lv_at hl 0 rfl) ?_
    refine q_sVq (rest := []) F w kV_X5_49 hd_Jx4a65c_get_915e3 (ci := 0) rfl (c_get l D cy A _ (hM.l11 (hI.mv (show i1 < gnV G by omega))) (show k2 < gnF G i1 by omega) (show gnF G i1 ≤ 600 by have := (hI.f (show i1 < gnV G by omega)).2.1; omega)) (hM.l11 (hI.mv (show i1 < gnV G by omega))).1 dX5_hasPutOffUnmended_18 rfl rfl hl.1 ⟨rfl, rfl, Nat.le_of_ble_eq_true rfl, Nat.le_of_ble_eq_true rfl⟩ (Nat.le_of_ble_eq_true rfl) ⟨Nat.zero_le _, Nat.zero_le _⟩ ?_
    refine q_cast F w wL_X5_53 (ci := 2) rfl (hM.a12 (hI.o12 (show i1 < gnV G by omega) (show k2 < gnF G i1 by omega))) dX5_hasPutOffUnmended_21 ?_
    refine lv_astore_n (lv' := [(2, .ref (AD 12 i1 k2)), (1, .int (nI k2)), (0, .ref (AD 10 i1 0))]) F.1 F.2.1 dX5_hasPutOffUnmended_24 rfl hl (by decide) rfl (fun ls hl => ?_)
    refine lv_aload_n F.1 F.2.1 dX5_hasPutOffUnmended_25 rfl (lv_at hl 0 rfl) ?_
    refine gf_X5_62 F w (hM.a12 (hI.o12 (show i1 < gnV G by omega) (show k2 < gnF G i1 by omega))) rfl dX5_hasPutOffUnmended_26 ?_
    refine lv_if_eq (tgt := 41) F.1 F.2.1 dX5_hasPutOffUnmended_29 (by decide) (fun c_2 => ?_) (fun c_2 => ?_)
    · refine lv_iinc (v := nI (k2 + 1)) (lv' := [(1, .int (nI (k2 + 1))), (2, .ref (AD 12 i1 k2)), (0, .ref (AD 10 i1 0))]) F.1 F.2.1 dX5_hasPutOffUnmended_41 hl (k := 1) rfl (nI_1 _) (by decide) rfl (fun ls hl => ?_)
      refine lv_goto (tgt := 2) F.1 F.2.1 dX5_hasPutOffUnmended_44 (by decide) ?_
      exact ih2 ls hlt2 ⟨lv_sub hl [0, 2] rfl, ((if_pos c_2)).symm.trans hE⟩
    · refine lv_aload_n F.1 F.2.1 dX5_hasPutOffUnmended_32 rfl (lv_at hl 0 rfl) ?_
      refine gf_X5_66 F w (hM.a12 (hI.o12 (show i1 < gnV G by omega) (show k2 < gnF G i1 by omega))) rfl dX5_hasPutOffUnmended_33 ?_
      refine lv_if_ne (tgt := 41) F.1 F.2.1 dX5_hasPutOffUnmended_36 (by decide) (fun c_3 => ?_) (fun c_3 => ?_)
      · refine lv_iinc (v := nI (k2 + 1)) (lv' := [(1, .int (nI (k2 + 1))), (2, .ref (AD 12 i1 k2)), (0, .ref (AD 10 i1 0))]) F.1 F.2.1 dX5_hasPutOffUnmended_41 hl (k := 1) rfl (nI_1 _) (by decide) rfl (fun ls hl => ?_)
        refine lv_goto (tgt := 2) F.1 F.2.1 dX5_hasPutOffUnmended_44 (by decide) ?_
        exact ih2 ls hlt2 ⟨lv_sub hl [0, 2] rfl, (((if_neg c_2).trans (if_neg c_3))).symm.trans hE⟩
      · refine lv_iconst (v := 1) F.1 F.2.1 dX5_hasPutOffUnmended_39 (by decide) ?_
        exact q_retz F hr hlk (hE.symm.trans ((if_neg c_2).trans (if_pos c_3))) nz1 dX5_hasPutOffUnmended_40
  have hkn2 : k2 = (gnF G i1) := GB_ile rfl (Nat.lt_of_le_of_lt (hI.f hi1).2.1 (by decide)) hk2 c_1
  subst hkn2
  rw [Nat.sub_self] at hE
  refine lv_iconst (v := 0) F.1 F.2.1 dX5_hasPutOffUnmended_47 (by decide) ?_
  exact q_retz F hr hlk hE.symm nz0 dX5_hasPutOffUnmended_48
def f_X5_wasDetention (G : GS) (i1 : Nat) : Int32 := if G 38 i1 = (-1) then 0 else 1
theorem nz_f_X5_wasDetention (G : GS) (i1 : Nat) : nz (f_X5_wasDetention G i1) := (nz_ite nz0 nz1)
set_option maxHeartbeats 4000000 in
set_option maxRecDepth 100000 in
theorem c_X5_wasDetention (l : Launch) (D : va_G) (cy : Nat → ClassId) (A : Nat → Prop) (μ : MU) (AD : AM) (G : GS) (hM : RepC cy AD G μ) (hI : InvC G) (i1 : Nat) (hi1 : i1 < gnV G) : Met l yX5_wasDetention (WS yX5_wasDetention cX5_wasDetention 1 (Option.some Jvm.ClassFile.FieldType.boolean)) { frames := 0, cells := 0, slots := 0, locals := 0 } (va_Pc [.ref (AD 10 i1 0)] (Wd D cy A μ)) (QcRead (f_X5_wasDetention G i1)) 0 0 (fun _ => False) := by
  refine q_met (by decide) (Nat.le_of_ble_eq_true rfl) ?_
  intro p e s m below meth c F w hr hlk hnm ls hl
  have F : CallFix p m c cX5_wasDetention 1 s _ BIG RX5 := F
  have hl : lv_has ls 1 [(0, .ref (AD 10 i1 0))] := hl
  refine lv_aload_n F.1 F.2.1 dX5_wasDetention_0 rfl (lv_at hl 0 rfl) ?_
  refine gf_X5_42 F w (hM.a10 (hI.o10 (show i1 < gnV G by omega))) rfl dX5_wasDetention_1 ?_
  refine lv_iconst (v := -1) F.1 F.2.1 dX5_wasDetention_4 (by decide) ?_
  refine jn0 (m := m) (ls := ls) (rest := []) (if G 38 i1 = (-1) then 0 else 1) 13 (fun J_1 => ?_) ?_
  · refine lv_icmp_eq (tgt := 12) F.1 F.2.1 dX5_wasDetention_5 (by decide) (fun c_2 => ?_) (fun c_2 => ?_)
    · refine lv_iconst (v := 0) F.1 F.2.1 dX5_wasDetention_12 (by decide) ?_
      exact jn_a (if_pos c_2) J_1
    · refine lv_iconst (v := 1) F.1 F.2.1 dX5_wasDetention_8 (by decide) ?_
      refine lv_goto (tgt := 13) F.1 F.2.1 dX5_wasDetention_9 (by decide) ?_
      exact jn_a (if_neg c_2) J_1
  exact q_retz F hr hlk rfl (nz_ite nz0 nz1) dX5_wasDetention_13
def f_X5_decision (G : GS) (i1 : Nat) : Int32 := if G 40 i1 < 2 then (if G 41 i1 < 2 then 0 else 2) else 1
set_option maxHeartbeats 4000000 in
set_option maxRecDepth 100000 in
theorem c_X5_decision (l : Launch) (D : va_G) (cy : Nat → ClassId) (A : Nat → Prop) (μ : MU) (AD : AM) (G : GS) (hM : RepC cy AD G μ) (hI : InvC G) (i1 : Nat) (hi1 : i1 < gnV G) : Met l yX5_decision (WS yX5_decision cX5_decision 1 (Option.some Jvm.ClassFile.FieldType.int)) { frames := 0, cells := 0, slots := 0, locals := 0 } (va_Pc [.ref (AD 10 i1 0)] (Wd D cy A μ)) (QcRead (f_X5_decision G i1)) 0 0 (fun _ => False) := by
  refine q_met (by decide) (Nat.le_of_ble_eq_true rfl) ?_
  intro p e s m below meth c F w hr hlk hnm ls hl
  have F : CallFix p m c cX5_decision 1 s _ BIG RX5 := F
  have hl : lv_has ls 1 [(0, .ref (AD 10 i1 0))] := hl
  refine lv_aload_n F.1 F.2.1 dX5_decision_0 rfl (lv_at hl 0 rfl) ?_
  refine gf_X5_69 F w (hM.a10 (hI.o10 (show i1 < gnV G by omega))) rfl dX5_decision_1 ?_
  refine lv_iconst (v := 2) F.1 F.2.1 dX5_decision_4 (by decide) ?_
  refine jn0 (m := m) (ls := ls) (rest := []) (if G 40 i1 < 2 then (if G 41 i1 < 2 then 0 else 2) else 1) 25 (fun J_1 => ?_) ?_
  · refine lv_icmp_lt (tgt := 12) F.1 F.2.1 dX5_decision_5 (by decide) (fun c_2 => ?_) (fun c_2 => ?_)
    · refine lv_aload_n F.1 F.2.1 dX5_decision_12 rfl (lv_at hl 0 rfl) ?_
      refine gf_X5_72 F w (hM.a10 (hI.o10 (show i1 < gnV G by omega))) rfl dX5_decision_13 ?_
      refine lv_iconst (v := 2) F.1 F.2.1 dX5_decision_16 (by decide) ?_
      refine lv_icmp_lt (tgt := 24) F.1 F.2.1 dX5_decision_17 (by decide) (fun c_3 => ?_) (fun c_3 => ?_)
      · refine lv_iconst (v := 0) F.1 F.2.1 dX5_decision_24 (by decide) ?_
        exact jn_a ((if_pos c_2).trans (if_pos c_3)) J_1
      · refine lv_iconst (v := 2) F.1 F.2.1 dX5_decision_20 (by decide) ?_
        refine lv_goto (tgt := 25) F.1 F.2.1 dX5_decision_21 (by decide) ?_
        exact jn_a ((if_pos c_2).trans (if_neg c_3)) J_1
    · refine lv_iconst (v := 1) F.1 F.2.1 dX5_decision_8 (by decide) ?_
      refine lv_goto (tgt := 25) F.1 F.2.1 dX5_decision_9 (by decide) ?_
      exact jn_a (if_neg c_2) J_1
  exact q_reti F hr hlk rfl dX5_decision_25
def f_X5_counts (G : GS) (i1 : Nat) : Int32 := if G 38 i1 = (-1) then 0 else (if 2 ≤ G 40 i1 then 0 else 1)
theorem nz_f_X5_counts (G : GS) (i1 : Nat) : nz (f_X5_counts G i1) := (nz_ite nz0 (nz_ite nz0 nz1))
set_option maxHeartbeats 4000000 in
set_option maxRecDepth 100000 in
theorem c_X5_counts (l : Launch) (D : va_G) (cy : Nat → ClassId) (A : Nat → Prop) (μ : MU) (AD : AM) (G : GS) (hM : RepC cy AD G μ) (hI : InvC G) (i1 : Nat) (hi1 : i1 < gnV G) : Met l yX5_counts (WS yX5_counts cX5_counts 1 (Option.some Jvm.ClassFile.FieldType.boolean)) { frames := 0, cells := 0, slots := 0, locals := 0 } (va_Pc [.ref (AD 10 i1 0)] (Wd D cy A μ)) (QcRead (f_X5_counts G i1)) 0 0 (fun _ => False) := by
  refine q_met (by decide) (Nat.le_of_ble_eq_true rfl) ?_
  intro p e s m below meth c F w hr hlk hnm ls hl
  have F : CallFix p m c cX5_counts 1 s _ BIG RX5 := F
  have hl : lv_has ls 1 [(0, .ref (AD 10 i1 0))] := hl
  refine lv_aload_n F.1 F.2.1 dX5_counts_0 rfl (lv_at hl 0 rfl) ?_
  refine gf_X5_42 F w (hM.a10 (hI.o10 (show i1 < gnV G by omega))) rfl dX5_counts_1 ?_
  refine lv_iconst (v := -1) F.1 F.2.1 dX5_counts_4 (by decide) ?_
  refine jn0 (m := m) (ls := ls) (rest := []) (if G 38 i1 = (-1) then 0 else (if 2 ≤ G 40 i1 then 0 else 1)) 21 (fun J_1 => ?_) ?_
  · refine lv_icmp_eq (tgt := 20) F.1 F.2.1 dX5_counts_5 (by decide) (fun c_2 => ?_) (fun c_2 => ?_)
    · refine lv_iconst (v := 0) F.1 F.2.1 dX5_counts_20 (by decide) ?_
      exact jn_a (if_pos c_2) J_1
    · refine lv_aload_n F.1 F.2.1 dX5_counts_8 rfl (lv_at hl 0 rfl) ?_
      refine gf_X5_69 F w (hM.a10 (hI.o10 (show i1 < gnV G by omega))) rfl dX5_counts_9 ?_
      refine lv_iconst (v := 2) F.1 F.2.1 dX5_counts_12 (by decide) ?_
      refine lv_icmp_ge (tgt := 20) F.1 F.2.1 dX5_counts_13 (by decide) (fun c_3 => ?_) (fun c_3 => ?_)
      · refine lv_iconst (v := 0) F.1 F.2.1 dX5_counts_20 (by decide) ?_
        exact jn_a ((if_neg c_2).trans (if_pos c_3)) J_1
      · refine lv_iconst (v := 1) F.1 F.2.1 dX5_counts_16 (by decide) ?_
        refine lv_goto (tgt := 21) F.1 F.2.1 dX5_counts_17 (by decide) ?_
        exact jn_a ((if_neg c_2).trans (if_neg c_3)) J_1
  exact q_retz F hr hlk rfl (nz_ite nz0 (nz_ite nz0 nz1)) dX5_counts_21
def f_X5_isKnownAt (G : GS) (i1 : Nat) (x1 : Int32) (x2 : Int32) : Int32 := if x2 < (if G 31 i1 = x1 then G 32 i1 else (G 32 i1) + 3 : Int32) then 0 else 1
theorem nz_f_X5_isKnownAt (G : GS) (i1 : Nat) (x1 : Int32) (x2 : Int32) : nz (f_X5_isKnownAt G i1 x1 x2) := (nz_ite nz0 nz1)
set_option maxHeartbeats 4000000 in
set_option maxRecDepth 100000 in
theorem c_X5_isKnownAt (l : Launch) (D : va_G) (cy : Nat → ClassId) (A : Nat → Prop) (μ : MU) (AD : AM) (G : GS) (hM : RepC cy AD G μ) (hI : InvC G) (i1 : Nat) (x1 : Int32) (x2 : Int32) (hi1 : i1 < gnV G) : Met l yX5_isKnownAt (WS yX5_isKnownAt cX5_isKnownAt 3 (Option.some Jvm.ClassFile.FieldType.boolean)) { frames := 0, cells := 0, slots := 0, locals := 0 } (va_Pc [.ref (AD 10 i1 0), .int x1, .int x2] (Wd D cy A μ)) (QcRead (f_X5_isKnownAt G i1 x1 x2)) 0 0 (fun _ => False) := by
  refine q_met (by decide) (Nat.le_of_ble_eq_true rfl) ?_
  intro p e s m below meth c F w hr hlk hnm ls hl
  have F : CallFix p m c cX5_isKnownAt 3 s _ BIG RX5 := F
  have hl : lv_has ls 3 [(0, .ref (AD 10 i1 0)), (1, .int x1), (2, .int x2)] := hl
  refine lv_iload_n F.1 F.2.1 dX5_isKnownAt_0 rfl (lv_at hl 2 rfl) ?_
  refine lv_aload_n F.1 F.2.1 dX5_isKnownAt_1 rfl (lv_at hl 0 rfl) ?_
  refine gf_X5_24 F w (hM.a10 (hI.o10 (show i1 < gnV G by omega))) rfl dX5_isKnownAt_2 ?_
  refine lv_iload_n F.1 F.2.1 dX5_isKnownAt_5 rfl (lv_at hl 1 rfl) ?_
  refine jn0 (m := m) (ls := ls) (rest := [.int x2]) (if G 31 i1 = x1 then G 32 i1 else (G 32 i1) + 3) 22 (fun J_1 => ?_) ?_
  · refine lv_icmp_ne (tgt := 16) F.1 F.2.1 dX5_isKnownAt_6 (by decide) (fun c_2 => ?_) (fun c_2 => ?_)
    · refine lv_aload_n F.1 F.2.1 dX5_isKnownAt_16 rfl (lv_at hl 0 rfl) ?_
      refine gf_X5_25 F w (hM.a10 (hI.o10 (show i1 < gnV G by omega))) rfl dX5_isKnownAt_17 ?_
      refine lv_iconst (v := 3) F.1 F.2.1 dX5_isKnownAt_20 (by decide) ?_
      refine lv_iadd F.1 F.2.1 dX5_isKnownAt_21 ?_
      exact jn_a (if_neg c_2) J_1
    · refine lv_aload_n F.1 F.2.1 dX5_isKnownAt_9 rfl (lv_at hl 0 rfl) ?_
      refine gf_X5_25 F w (hM.a10 (hI.o10 (show i1 < gnV G by omega))) rfl dX5_isKnownAt_10 ?_
      refine lv_goto (tgt := 22) F.1 F.2.1 dX5_isKnownAt_13 (by decide) ?_
      exact jn_a (if_pos c_2) J_1
  refine jn0 (m := m) (ls := ls) (rest := []) (if x2 < (if G 31 i1 = x1 then G 32 i1 else (G 32 i1) + 3 : Int32) then 0 else 1) 30 (fun J_3 => ?_) ?_
  · refine lv_icmp_lt (tgt := 29) F.1 F.2.1 dX5_isKnownAt_22 (by decide) (fun c_4 => ?_) (fun c_4 => ?_)
    · refine lv_iconst (v := 0) F.1 F.2.1 dX5_isKnownAt_29 (by decide) ?_
      exact jn_a (if_pos c_4) J_3
    · refine lv_iconst (v := 1) F.1 F.2.1 dX5_isKnownAt_25 (by decide) ?_
      refine lv_goto (tgt := 30) F.1 F.2.1 dX5_isKnownAt_26 (by decide) ?_
      exact jn_a (if_neg c_4) J_3
  exact q_retz F hr hlk rfl (nz_ite nz0 nz1) dX5_isKnownAt_30
def f_X6_isOfLatest (G : GS) (x1 : Int32) : Int32 := if 1095 ≤ (G 1 0) - x1 then 0 else 1
theorem nz_f_X6_isOfLatest (G : GS) (x1 : Int32) : nz (f_X6_isOfLatest G x1) := (nz_ite nz0 nz1)
set_option maxHeartbeats 4000000 in
set_option maxRecDepth 100000 in
theorem c_X6_isOfLatest (l : Launch) (D : va_G) (cy : Nat → ClassId) (A : Nat → Prop) (μ : MU) (AD : AM) (G : GS) (hM : RepC cy AD G μ) (hI : InvC G) (x1 : Int32) : Met l yX6_isOfLatest (WS yX6_isOfLatest cX6_isOfLatest 2 (Option.some Jvm.ClassFile.FieldType.boolean)) { frames := 0, cells := 0, slots := 0, locals := 0 } (va_Pc [.ref (AD 0 0 0), .int x1] (Wd D cy A μ)) (QcRead (f_X6_isOfLatest G x1)) 0 0 (fun _ => False) := by
  refine q_met (by decide) (Nat.le_of_ble_eq_true rfl) ?_
  intro p e s m below meth c F w hr hlk hnm ls hl
  have F : CallFix p m c cX6_isOfLatest 2 s _ BIG RX6 := F
  have hl : lv_has ls 2 [(0, .ref (AD 0 0 0)), (1, .int x1)] := hl
  refine lv_aload_n F.1 F.2.1 dX6_isOfLatest_0 rfl (lv_at hl 0 rfl) ?_
  refine gf_X6_30 F w (hM.a0 ⟨by decide, rfl, rfl⟩) rfl dX6_isOfLatest_1 ?_
  refine lv_iload_n F.1 F.2.1 dX6_isOfLatest_4 rfl (lv_at hl 1 rfl) ?_
  refine lv_isub F.1 F.2.1 dX6_isOfLatest_5 ?_
  refine lv_sipush (v := 1095) F.1 F.2.1 dX6_isOfLatest_6 (by decide) ?_
  refine jn0 (m := m) (ls := ls) (rest := []) (if 1095 ≤ (G 1 0) - x1 then 0 else 1) 17 (fun J_1 => ?_) ?_
  · refine lv_icmp_ge (tgt := 16) F.1 F.2.1 dX6_isOfLatest_9 (by decide) (fun c_2 => ?_) (fun c_2 => ?_)
    · refine lv_iconst (v := 0) F.1 F.2.1 dX6_isOfLatest_16 (by decide) ?_
      exact jn_a (if_pos c_2) J_1
    · refine lv_iconst (v := 1) F.1 F.2.1 dX6_isOfLatest_12 (by decide) ?_
      refine lv_goto (tgt := 17) F.1 F.2.1 dX6_isOfLatest_13 (by decide) ?_
      exact jn_a (if_neg c_2) J_1
  exact q_retz F hr hlk rfl (nz_ite nz0 nz1) dX6_isOfLatest_17
def f_X6_isSuspended (G : GS) (x1 : Int32) : Int32 := if f_X6_isIndex x1 4 = 0 then 0 else (if G 2 x1.toNatClampNeg = 0 then 0 else 1)
theorem nz_f_X6_isSuspended (G : GS) (x1 : Int32) : nz (f_X6_isSuspended G x1) := (nz_ite nz0 (nz_ite nz0 nz1))
set_option maxHeartbeats 4000000 in
set_option maxRecDepth 100000 in
theorem c_X6_isSuspended (l : Launch) (D : va_G) (cy : Nat → ClassId) (A : Nat → Prop) (μ : MU) (AD : AM) (G : GS) (hM : RepC cy AD G μ) (hI : InvC G) (x1 : Int32) : Met l yX6_isSuspended (WS yX6_isSuspended cX6_isSuspended 2 (Option.some Jvm.ClassFile.FieldType.boolean)) { frames := 1, cells := 0, slots := 0, locals := 21 } (va_Pc [.ref (AD 0 0 0), .int x1] (Wd D cy A μ)) (QcRead (f_X6_isSuspended G x1)) 0 0 (fun _ => False) := by
  refine q_met (by decide) (Nat.le_of_ble_eq_true rfl) ?_
  intro p e s m below meth c F w hr hlk hnm ls hl
  have F : CallFix p m c cX6_isSuspended 2 s _ BIG RX6 := F
  have hl : lv_has ls 2 [(0, .ref (AD 0 0 0)), (1, .int x1)] := hl
  refine lv_iload_n F.1 F.2.1 dX6_isSuspended_0 rfl (lv_at hl 1 rfl) ?_
  refine lv_aload_n F.1 F.2.1 dX6_isSuspended_1 rfl (lv_at hl 0 rfl) ?_
  refine gf_X6_22 F w (hM.a0 ⟨by decide, rfl, rfl⟩) rfl dX6_isSuspended_2 ?_
  refine q_alen F w 1 rfl (hM.1 4 0 0 ⟨by decide, rfl, rfl⟩) (v := 4) rfl dX6_isSuspended_5 ?_
  refine q_rS (rest := []) F w kS_X6_46 hd_X6_isIndex (c_X6_isIndex l D cy A _ x1 4) dX6_isSuspended_6 rfl rfl hl.1 ⟨rfl, rfl, Nat.le_of_ble_eq_true rfl, Nat.le_of_ble_eq_true rfl⟩ (Nat.le_of_ble_eq_true rfl) ⟨Nat.zero_le _, Nat.zero_le _⟩ ?_
  refine jn0 (m := m) (ls := ls) (rest := []) (if f_X6_isIndex x1 4 = 0 then 0 else (if G 2 x1.toNatClampNeg = 0 then 0 else 1)) 26 (fun J_1 => ?_) ?_
  · refine lv_if_eq (tgt := 25) F.1 F.2.1 dX6_isSuspended_9 (by decide) (fun c_2 => ?_) (fun c_2 => ?_)
    · refine lv_iconst (v := 0) F.1 F.2.1 dX6_isSuspended_25 (by decide) ?_
      exact jn_a (if_pos c_2) J_1
    · refine lv_aload_n F.1 F.2.1 dX6_isSuspended_12 rfl (lv_at hl 0 rfl) ?_
      refine gf_X6_22 F w (hM.a0 ⟨by decide, rfl, rfl⟩) rfl dX6_isSuspended_13 ?_
      refine lv_iload_n F.1 F.2.1 dX6_isSuspended_16 rfl (lv_at hl 1 rfl) ?_
      refine q_zald F w (hM.1 4 0 0 ⟨by decide, rfl, rfl⟩) (isx_in (n := 4) (by decide) c_2) dX6_isSuspended_17 ?_
      refine lv_if_eq (tgt := 25) F.1 F.2.1 dX6_isSuspended_18 (by decide) (fun c_3 => ?_) (fun c_3 => ?_)
      · refine lv_iconst (v := 0) F.1 F.2.1 dX6_isSuspended_25 (by decide) ?_
        exact jn_a ((if_neg c_2).trans (if_pos c_3)) J_1
      · refine lv_iconst (v := 1) F.1 F.2.1 dX6_isSuspended_21 (by decide) ?_
        refine lv_goto (tgt := 26) F.1 F.2.1 dX6_isSuspended_22 (by decide) ?_
        exact jn_a ((if_neg c_2).trans (if_neg c_3)) J_1
  exact q_retz F hr hlk rfl (nz_ite nz0 (nz_ite nz0 nz1)) dX6_isSuspended_26
def f_X6_isOld (G : GS) (x1 : Int32) : Int32 := if (G 1 0) - x1 ≤ 4380 then 0 else 1
theorem nz_f_X6_isOld (G : GS) (x1 : Int32) : nz (f_X6_isOld G x1) := (nz_ite nz0 nz1)
set_option maxHeartbeats 4000000 in
set_option maxRecDepth 100000 in
theorem c_X6_isOld (l : Launch) (D : va_G) (cy : Nat → ClassId) (A : Nat → Prop) (μ : MU) (AD : AM) (G : GS) (hM : RepC cy AD G μ) (hI : InvC G) (x1 : Int32) : Met l yX6_isOld (WS yX6_isOld cX6_isOld 2 (Option.some Jvm.ClassFile.FieldType.boolean)) { frames := 0, cells := 0, slots := 0, locals := 0 } (va_Pc [.ref (AD 0 0 0), .int x1] (Wd D cy A μ)) (QcRead (f_X6_isOld G x1)) 0 0 (fun _ => False) := by
  refine q_met (by decide) (Nat.le_of_ble_eq_true rfl) ?_
  intro p e s m below meth c F w hr hlk hnm ls hl
  have F : CallFix p m c cX6_isOld 2 s _ BIG RX6 := F
  have hl : lv_has ls 2 [(0, .ref (AD 0 0 0)), (1, .int x1)] := hl
  refine lv_aload_n F.1 F.2.1 dX6_isOld_0 rfl (lv_at hl 0 rfl) ?_
  refine gf_X6_30 F w (hM.a0 ⟨by decide, rfl, rfl⟩) rfl dX6_isOld_1 ?_
  refine lv_iload_n F.1 F.2.1 dX6_isOld_4 rfl (lv_at hl 1 rfl) ?_
  refine lv_isub F.1 F.2.1 dX6_isOld_5 ?_
  refine lv_sipush (v := 4380) F.1 F.2.1 dX6_isOld_6 (by decide) ?_
  refine jn0 (m := m) (ls := ls) (rest := []) (if (G 1 0) - x1 ≤ 4380 then 0 else 1) 17 (fun J_1 => ?_) ?_
  · refine lv_icmp_le (tgt := 16) F.1 F.2.1 dX6_isOld_9 (by decide) (fun c_2 => ?_) (fun c_2 => ?_)
    · refine lv_iconst (v := 0) F.1 F.2.1 dX6_isOld_16 (by decide) ?_
      exact jn_a (if_pos c_2) J_1
    · refine lv_iconst (v := 1) F.1 F.2.1 dX6_isOld_12 (by decide) ?_
      refine lv_goto (tgt := 17) F.1 F.2.1 dX6_isOld_13 (by decide) ?_
      exact jn_a (if_neg c_2) J_1
  exact q_retz F hr hlk rfl (nz_ite nz0 nz1) dX6_isOld_17
def v_X3_isInForce_27 (G : GS) (i2 : Nat) (i1 : Nat) (x1 : Int32) : Int32 := if G 27 i2 ≤ G 4 i1 then G 27 i2 else (G 27 i2) + (G 28 i2)
def f_X3_isInForce (G : GS) (i2 : Nat) (i1 : Nat) (x1 : Int32) : Int32 := if G 5 i1 < G 25 i2 then 0 else (if f_X6_isIn (G 6 i1) (G 26 i2) = 0 then 0 else (if x1 < v_X3_isInForce_27 G i2 i1 x1 then 0 else 1))
theorem nz_f_X3_isInForce (G : GS) (i2 : Nat) (i1 : Nat) (x1 : Int32) : nz (f_X3_isInForce G i2 i1 x1) := (nz_ite nz0 (nz_ite nz0 (nz_ite nz0 nz1)))
set_option maxHeartbeats 4000000 in
set_option maxRecDepth 100000 in
theorem c_X3_isInForce (l : Launch) (D : va_G) (cy : Nat → ClassId) (A : Nat → Prop) (μ : MU) (AD : AM) (G : GS) (hM : RepC cy AD G μ) (hI : InvC G) (i2 : Nat) (i1 : Nat) (x1 : Int32) (hi2 : i2 < gnR G) (hi1 : i1 < gnS G) : Met l yX3_isInForce (WS yX3_isInForce cX3_isInForce 4 (Option.some Jvm.ClassFile.FieldType.boolean)) { frames := 1, cells := 0, slots := 0, locals := 21 } (va_Pc [.ref (AD 9 i2 0), .ref (AD 6 i1 0), .int x1] (Wd D cy A μ)) (QcRead (f_X3_isInForce G i2 i1 x1)) 0 0 (fun _ => False) := by
  refine q_met (by decide) (Nat.le_of_ble_eq_true rfl) ?_
  intro p e s m below meth c F w hr hlk hnm ls hl
  have F : CallFix p m c cX3_isInForce 4 s _ BIG RX3 := F
  have hl : lv_has ls 4 [(0, .ref (AD 9 i2 0)), (1, .ref (AD 6 i1 0)), (2, .int x1)] := hl
  refine lv_aload_n F.1 F.2.1 dX3_isInForce_0 rfl (lv_at hl 1 rfl) ?_
  refine gf_X3_25 F w (hM.a6 (hI.o6 (show i1 < gnS G by omega))) rfl dX3_isInForce_1 ?_
  refine lv_aload_n F.1 F.2.1 dX3_isInForce_4 rfl (lv_at hl 0 rfl) ?_
  refine gf_X3_19 F w (hM.a9 (hI.o9 (show i2 < gnR G by omega))) rfl dX3_isInForce_5 ?_
  refine jn0 (m := m) (ls := ls) (rest := []) (if G 27 i2 ≤ G 4 i1 then G 27 i2 else (G 27 i2) + (G 28 i2)) 27 (fun J_1 => ?_) ?_
  · refine lv_icmp_ge (tgt := 23) F.1 F.2.1 dX3_isInForce_8 (by decide) (fun c_2 => ?_) (fun c_2 => ?_)
    · refine lv_aload_n F.1 F.2.1 dX3_isInForce_23 rfl (lv_at hl 0 rfl) ?_
      refine gf_X3_19 F w (hM.a9 (hI.o9 (show i2 < gnR G by omega))) rfl dX3_isInForce_24 ?_
      exact jn_a (if_pos c_2) J_1
    · refine lv_aload_n F.1 F.2.1 dX3_isInForce_11 rfl (lv_at hl 0 rfl) ?_
      refine gf_X3_19 F w (hM.a9 (hI.o9 (show i2 < gnR G by omega))) rfl dX3_isInForce_12 ?_
      refine lv_aload_n F.1 F.2.1 dX3_isInForce_15 rfl (lv_at hl 0 rfl) ?_
      refine gf_X3_22 F w (hM.a9 (hI.o9 (show i2 < gnR G by omega))) rfl dX3_isInForce_16 ?_
      refine lv_iadd F.1 F.2.1 dX3_isInForce_19 ?_
      refine lv_goto (tgt := 27) F.1 F.2.1 dX3_isInForce_20 (by decide) ?_
      exact jn_a (if_neg c_2) J_1
  refine lv_fold (y := v_X3_isInForce_27 G i2 i1 x1) rfl ?_
  refine lv_istore_n (lv' := [(3, .int (v_X3_isInForce_27 G i2 i1 x1)), (0, .ref (AD 9 i2 0)), (1, .ref (AD 6 i1 0)), (2, .int x1)]) F.1 F.2.1 dX3_isInForce_27 rfl hl (by decide) rfl (fun ls hl => ?_)
  refine lv_aload_n F.1 F.2.1 dX3_isInForce_28 rfl (lv_at hl 2 rfl) ?_
  refine gf_X3_30 F w (hM.a6 (hI.o6 (show i1 < gnS G by omega))) rfl dX3_isInForce_29 ?_
  refine lv_aload_n F.1 F.2.1 dX3_isInForce_32 rfl (lv_at hl 1 rfl) ?_
  refine gf_X3_13 F w (hM.a9 (hI.o9 (show i2 < gnR G by omega))) rfl dX3_isInForce_33 ?_
  refine jn0 (m := m) (ls := ls) (rest := []) (if G 5 i1 < G 25 i2 then 0 else (if f_X6_isIn (G 6 i1) (G 26 i2) = 0 then 0 else (if x1 < v_X3_isInForce_27 G i2 i1 x1 then 0 else 1))) 63 (fun J_3 => ?_) ?_
  · refine lv_icmp_lt (tgt := 62) F.1 F.2.1 dX3_isInForce_36 (by decide) (fun c_4 => ?_) (fun c_4 => ?_)
    · refine lv_iconst (v := 0) F.1 F.2.1 dX3_isInForce_62 (by decide) ?_
      exact jn_a (if_pos c_4) J_3
    · refine lv_aload_n F.1 F.2.1 dX3_isInForce_39 rfl (lv_at hl 2 rfl) ?_
      refine gf_X3_31 F w (hM.a6 (hI.o6 (show i1 < gnS G by omega))) rfl dX3_isInForce_40 ?_
      refine lv_aload_n F.1 F.2.1 dX3_isInForce_43 rfl (lv_at hl 1 rfl) ?_
      refine gf_X3_16 F w (hM.a9 (hI.o9 (show i2 < gnR G by omega))) rfl dX3_isInForce_44 ?_
      refine q_rSN (rest := []) F w w.2.2.2.2.2.2.2.2.2.2.1 wSt_isIn wI_X6 (gB wC_X6_isIn) hd_X6_isIn (c_X6_isIn l D cy A _ (G 6 i1) (G 26 i2)) dX3_isInForce_47 rfl rfl hl.1 ⟨rfl, rfl, Nat.le_of_ble_eq_true rfl, Nat.le_of_ble_eq_true rfl⟩ (Nat.le_of_ble_eq_true rfl) ⟨Nat.zero_le _, Nat.zero_le _⟩ ?_
      refine lv_if_eq (tgt := 62) F.1 F.2.1 dX3_isInForce_50 (by decide) (fun c_5 => ?_) (fun c_5 => ?_)
      · refine lv_iconst (v := 0) F.1 F.2.1 dX3_isInForce_62 (by decide) ?_
        exact jn_a ((if_neg c_4).trans (if_pos c_5)) J_3
      · refine lv_iload_n F.1 F.2.1 dX3_isInForce_53 rfl (lv_at hl 3 rfl) ?_
        refine lv_iload_n F.1 F.2.1 dX3_isInForce_54 rfl (lv_at hl 0 rfl) ?_
        refine lv_icmp_lt (tgt := 62) F.1 F.2.1 dX3_isInForce_55 (by decide) (fun c_6 => ?_) (fun c_6 => ?_)
        · refine lv_iconst (v := 0) F.1 F.2.1 dX3_isInForce_62 (by decide) ?_
          exact jn_a ((if_neg c_4).trans ((if_neg c_5).trans (if_pos c_6))) J_3
        · refine lv_iconst (v := 1) F.1 F.2.1 dX3_isInForce_58 (by decide) ?_
          refine lv_goto (tgt := 63) F.1 F.2.1 dX3_isInForce_59 (by decide) ?_
          exact jn_a ((if_neg c_4).trans ((if_neg c_5).trans (if_neg c_6))) J_3
  exact q_retz F hr hlk rfl (nz_ite nz0 (nz_ite nz0 (nz_ite nz0 nz1))) dX3_isInForce_63
def E_X6_isGroundToday_2 (G : GS) (i1 : Nat) (x1 : Int32) : Nat → Nat → Int32
  | 0, _ => 0
  | d + 1, k2 => if G 24 k2 = x1 then (if f_X3_isInForce G k2 i1 (G 1 0) = 0 then (E_X6_isGroundToday_2 G i1 x1 d (k2 + 1)) else 1) else (E_X6_isGroundToday_2 G i1 x1 d (k2 + 1))
theorem nz_E_X6_isGroundToday_2 (G : GS) (i1 : Nat) (x1 : Int32) : ∀ d k : Nat, nz (E_X6_isGroundToday_2 G i1 x1 d k)
  | 0, _ => nz0
  | d + 1, k2 => (nz_ite (nz_ite (nz_E_X6_isGroundToday_2 _ _ _ _ _) nz1) (nz_E_X6_isGroundToday_2 _ _ _ _ _))
def f_X6_isGroundToday (G : GS) (i1 : Nat) (x1 : Int32) : Int32 := E_X6_isGroundToday_2 G i1 x1 (gnR G) 0
theorem nz_f_X6_isGroundToday (G : GS) (i1 : Nat) (x1 : Int32) : nz (f_X6_isGroundToday G i1 x1) := (nz_E_X6_isGroundToday_2 _ _ _ _ _)
set_option maxHeartbeats 4000000 in
set_option maxRecDepth 100000 in
theorem c_X6_isGroundToday (l : Launch) (D : va_G) (cy : Nat → ClassId) (A : Nat → Prop) (μ : MU) (AD : AM) (G : GS) (hM : RepC cy AD G μ) (hI : InvC G) (i1 : Nat) (x1 : Int32) (hi1 : i1 < gnS G) : Met l yX6_isGroundToday (WS yX6_isGroundToday cX6_isGroundToday 5 (Option.some Jvm.ClassFile.FieldType.boolean)) { frames := 3, cells := 0, slots := 0, locals := 64 } (va_Pc [.ref (AD 0 0 0), .ref (AD 6 i1 0), .int x1] (Wd D cy A μ)) (QcRead (f_X6_isGroundToday G i1 x1)) 0 0 (fun _ => False) := by
  refine q_met (by decide) (Nat.le_of_ble_eq_true rfl) ?_
  intro p e s m below meth c F w hr hlk hnm ls hl
  have F : CallFix p m c cX6_isGroundToday 5 s _ BIG RX6 := F
  have hl : lv_has ls 5 [(0, .ref (AD 0 0 0)), (1, .ref (AD 6 i1 0)), (2, .int x1)] := hl
  refine lv_iconst (v := 0) F.1 F.2.1 dX6_isGroundToday_0 (by decide) ?_
  refine lv_istore_n (lv' := [(3, .int 0), (0, .ref (AD 0 0 0)), (1, .ref (AD 6 i1 0)), (2, .int x1)]) F.1 F.2.1 dX6_isGroundToday_1 rfl hl (by decide) rfl (fun ls hl => ?_)
  refine q_loop (P := fun k2 ls => lv_has ls 5 [(3, .int (nI k2)), (0, .ref (AD 0 0 0)), (1, .ref (AD 6 i1 0)), (2, .int x1)] ∧ E_X6_isGroundToday_2 G i1 x1 ((gnR G) - k2) k2 = E_X6_isGroundToday_2 G i1 x1 (gnR G) 0) (gnR G) (fun k2 ls hk2 hl9 ih2 => ?_) 0 ls (Nat.zero_le _) ⟨lv_cg (lv_sub hl [0, 1, 2, 3] rfl) rfl, rfl⟩
  obtain ⟨hl, hE⟩ := hl9
  refine lv_iload_n F.1 F.2.1 dX6_isGroundToday_2 rfl (lv_at hl 0 rfl) ?_
  refine lv_aload_n F.1 F.2.1 dX6_isGroundToday_3 rfl (lv_at hl 1 rfl) ?_
  refine gf_X6_16 F w (hM.a0 ⟨by decide, rfl, rfl⟩) rfl dX6_isGroundToday_4 ?_
  refine q_rV (rest := [.int (nI k2)]) F w kV_X6_58 hd_Jx4a65c_size_8abf5 (ci := 0) rfl (c_size l D cy A _ hM.l2.1) hM.l2.1 dX6_isGroundToday_7 rfl rfl hl.1 ⟨rfl, rfl, Nat.le_of_ble_eq_true rfl, Nat.le_of_ble_eq_true rfl⟩ (Nat.le_of_ble_eq_true rfl) ⟨Nat.zero_le _, Nat.zero_le _⟩ ?_
  refine lv_icmp_ge (tgt := 56) F.1 F.2.1 dX6_isGroundToday_10 (by decide) (fun c_1 => ?_) (fun c_1 => ?_)
  rotate_left
  · have hlt2 : k2 < (gnR G) := GB_ilt rfl (Nat.lt_of_le_of_lt hI.r.2.1 (by decide)) hk2 c_1
    have hE : E_X6_isGroundToday_2 G i1 x1 ((gnR G) - (k2 + 1) + 1) k2 = E_X6_isGroundToday_2 G i1 x1 (gnR G) 0 := by rw [show (gnR G) - (k2 + 1) + 1 = (gnR G) - k2 by omega]; exact hE
    refine lv_aload_n F.1 F.2.1 dX6_isGroundToday_13 rfl (lv_at hl 1 rfl) ?_
    refine gf_X6_16 F w (hM.a0 ⟨by decide, rfl, rfl⟩) rfl dX6_isGroundToday_14 ?_
    refine lv_iload_n F.1 F.2.1 dX6_isGroundToday_17 rfl (lv_at hl 0 rfl) ?_
    refine q_sVq (rest := []) F w kV_X6_224 hd_Jx4a65c_get_915e3 (ci := 0) rfl (c_get l D cy A _ hM.l2 (show k2 < gnR G by omega) (show gnR G ≤ 600 by have := hI.r.2.1; omega)) hM.l2.1 dX6_isGroundToday_18 rfl rfl hl.1 ⟨rfl, rfl, Nat.le_of_ble_eq_true rfl, Nat.le_of_ble_eq_true rfl⟩ (Nat.le_of_ble_eq_true rfl) ⟨Nat.zero_le _, Nat.zero_le _⟩ ?_
    refine q_cast F w wL_X6_101 (ci := 4) rfl (hM.a9 (hI.o9 (show k2 < gnR G by omega))) dX6_isGroundToday_21 ?_
    refine lv_astore (lv' := [(4, .ref (AD 9 k2 0)), (3, .int (nI k2)), (0, .ref (AD 0 0 0)), (1, .ref (AD 6 i1 0)), (2, .int x1)]) F.1 F.2.1 dX6_isGroundToday_24 hl (by decide) rfl (fun ls hl => ?_)
    refine lv_aload F.1 F.2.1 dX6_isGroundToday_26 (lv_at hl 0 rfl) ?_
    refine gf_X6_329 F w (hM.a9 (hI.o9 (show k2 < gnR G by omega))) rfl dX6_isGroundToday_28 ?_
    refine lv_iload_n F.1 F.2.1 dX6_isGroundToday_31 rfl (lv_at hl 4 rfl) ?_
    refine lv_icmp_ne (tgt := 50) F.1 F.2.1 dX6_isGroundToday_32 (by decide) (fun c_2 => ?_) (fun c_2 => ?_)
    · refine lv_iinc (v := nI (k2 + 1)) (lv' := [(3, .int (nI (k2 + 1))), (4, .ref (AD 9 k2 0)), (0, .ref (AD 0 0 0)), (1, .ref (AD 6 i1 0)), (2, .int x1)]) F.1 F.2.1 dX6_isGroundToday_50 hl (k := 1) rfl (nI_1 _) (by decide) rfl (fun ls hl => ?_)
      refine lv_goto (tgt := 2) F.1 F.2.1 dX6_isGroundToday_53 (by decide) ?_
      exact ih2 ls hlt2 ⟨lv_sub hl [0, 2, 3, 4] rfl, ((if_neg c_2)).symm.trans hE⟩
    · refine lv_aload F.1 F.2.1 dX6_isGroundToday_35 (lv_at hl 0 rfl) ?_
      refine lv_aload_n F.1 F.2.1 dX6_isGroundToday_37 rfl (lv_at hl 3 rfl) ?_
      refine lv_aload_n F.1 F.2.1 dX6_isGroundToday_38 rfl (lv_at hl 2 rfl) ?_
      refine gf_X6_30 F w (hM.a0 ⟨by decide, rfl, rfl⟩) rfl dX6_isGroundToday_39 ?_
      refine q_rV (rest := []) F w kV_X6_332 hd_X3_isInForce (ci := 4) rfl (c_X3_isInForce l D cy A _ AD G hM hI k2 i1 (G 1 0) (show k2 < gnR G by omega) (show i1 < gnS G by omega)) (hM.a9 (hI.o9 (show k2 < gnR G by omega))) dX6_isGroundToday_42 rfl rfl hl.1 ⟨rfl, rfl, Nat.le_of_ble_eq_true rfl, Nat.le_of_ble_eq_true rfl⟩ (Nat.le_of_ble_eq_true rfl) ⟨Nat.zero_le _, Nat.zero_le _⟩ ?_
      refine lv_if_eq (tgt := 50) F.1 F.2.1 dX6_isGroundToday_45 (by decide) (fun c_3 => ?_) (fun c_3 => ?_)
      · refine lv_iinc (v := nI (k2 + 1)) (lv' := [(3, .int (nI (k2 + 1))), (4, .ref (AD 9 k2 0)), (0, .ref (AD 0 0 0)), (1, .ref (AD 6 i1 0)), (2, .int x1)]) F.1 F.2.1 dX6_isGroundToday_50 hl (k := 1) rfl (nI_1 _) (by decide) rfl (fun ls hl => ?_)
        refine lv_goto (tgt := 2) F.1 F.2.1 dX6_isGroundToday_53 (by decide) ?_
        exact ih2 ls hlt2 ⟨lv_sub hl [0, 2, 3, 4] rfl, (((if_pos c_2).trans (if_pos c_3))).symm.trans hE⟩
      · refine lv_iconst (v := 1) F.1 F.2.1 dX6_isGroundToday_48 (by decide) ?_
        exact q_retz F hr hlk (hE.symm.trans ((if_pos c_2).trans (if_neg c_3))) nz1 dX6_isGroundToday_49
  have hkn2 : k2 = (gnR G) := GB_ile rfl (Nat.lt_of_le_of_lt hI.r.2.1 (by decide)) hk2 c_1
  subst hkn2
  rw [Nat.sub_self] at hE
  refine lv_iconst (v := 0) F.1 F.2.1 dX6_isGroundToday_56 (by decide) ?_
  exact q_retz F hr hlk hE.symm nz0 dX6_isGroundToday_57
def L_X6_familiesNotGood_4_2 (G : GS) (i1 : Nat) : Nat → Int32
  | 0 => 0
  | k4 + 1 => if G 18 (5 * i1 + k4) = 0 then (L_X6_familiesNotGood_4_2 G i1 k4) ||| ((1 : Int32) <<< ((nI k4) &&& 31)) else (if f_X0_hasLapsedByItself G i1 k4 (G 1 0) = 0 then (if f_X6_isSuspended G (G 21 (5 * i1 + k4)) = 0 then (if f_X6_isIn (f_X6_hangsOn (nI k4)) (L_X6_familiesNotGood_4_2 G i1 k4) = 0 then L_X6_familiesNotGood_4_2 G i1 k4 else (L_X6_familiesNotGood_4_2 G i1 k4) ||| ((1 : Int32) <<< ((nI k4) &&& 31))) else (L_X6_familiesNotGood_4_2 G i1 k4) ||| ((1 : Int32) <<< ((nI k4) &&& 31))) else (L_X6_familiesNotGood_4_2 G i1 k4) ||| ((1 : Int32) <<< ((nI k4) &&& 31)))
def f_X6_familiesNotGood (G : GS) (i1 : Nat) : Int32 := L_X6_familiesNotGood_4_2 G i1 5
set_option maxHeartbeats 4000000 in
set_option maxRecDepth 100000 in
theorem c_X6_familiesNotGood (l : Launch) (D : va_G) (cy : Nat → ClassId) (A : Nat → Prop) (μ : MU) (AD : AM) (G : GS) (hM : RepC cy AD G μ) (hI : InvC G) (i1 : Nat) (hi1 : i1 < gnS G) : Met l yX6_familiesNotGood (WS yX6_familiesNotGood cX6_familiesNotGood 5 (Option.some Jvm.ClassFile.FieldType.int)) { frames := 2, cells := 0, slots := 0, locals := 43 } (va_Pc [.ref (AD 0 0 0), .ref (AD 6 i1 0)] (Wd D cy A μ)) (QcRead (f_X6_familiesNotGood G i1)) 0 0 (fun _ => False) := by
  refine q_met (by decide) (Nat.le_of_ble_eq_true rfl) ?_
  intro p e s m below meth c F w hr hlk hnm ls hl
  have F : CallFix p m c cX6_familiesNotGood 5 s _ BIG RX6 := F
  have hl : lv_has ls 5 [(0, .ref (AD 0 0 0)), (1, .ref (AD 6 i1 0))] := hl
  refine lv_iconst (v := 0) F.1 F.2.1 dX6_familiesNotGood_0 (by decide) ?_
  refine lv_istore_n (lv' := [(2, .int 0), (0, .ref (AD 0 0 0)), (1, .ref (AD 6 i1 0))]) F.1 F.2.1 dX6_familiesNotGood_1 rfl hl (by decide) rfl (fun ls hl => ?_)
  refine lv_iconst (v := 0) F.1 F.2.1 dX6_familiesNotGood_2 (by decide) ?_
  refine lv_istore_n (lv' := [(3, .int 0), (2, .int 0), (0, .ref (AD 0 0 0)), (1, .ref (AD 6 i1 0))]) F.1 F.2.1 dX6_familiesNotGood_3 rfl hl (by decide) rfl (fun ls hl => ?_)
  refine q_loop (P := fun k4 ls => lv_has ls 5 [(3, .int (nI k4)), (2, .int (L_X6_familiesNotGood_4_2 G i1 k4)), (0, .ref (AD 0 0 0)), (1, .ref (AD 6 i1 0))]) 5 (fun k4 ls hk4 hl ih4 => ?_) 0 ls (Nat.zero_le _) (lv_cg (lv_sub hl [0, 1, 2, 3] rfl) rfl)
  refine lv_iload_n F.1 F.2.1 dX6_familiesNotGood_4 rfl (lv_at hl 0 rfl) ?_
  refine lv_aload_n F.1 F.2.1 dX6_familiesNotGood_5 rfl (lv_at hl 3 rfl) ?_
  refine gf_X6_106 F w (hM.a6 (hI.o6 (show i1 < gnS G by omega))) rfl dX6_familiesNotGood_6 ?_
  refine q_alen F w 2 rfl (hM.1 7 i1 0 (hI.o7 (show i1 < gnS G by omega))) (v := 5) rfl dX6_familiesNotGood_9 ?_
  refine lv_icmp_ge (tgt := 73) F.1 F.2.1 dX6_familiesNotGood_10 (by decide) (fun c_1 => ?_) (fun c_1 => ?_)
  rotate_left
  · have hlt4 : k4 < 5 := GB_ilt (rfl : (5 : Int32) = nI 5) (by decide) hk4 c_1
    refine lv_aload_n F.1 F.2.1 dX6_familiesNotGood_13 rfl (lv_at hl 3 rfl) ?_
    refine gf_X6_106 F w (hM.a6 (hI.o6 (show i1 < gnS G by omega))) rfl dX6_familiesNotGood_14 ?_
    refine lv_iload_n F.1 F.2.1 dX6_familiesNotGood_17 rfl (lv_at hl 0 rfl) ?_
    refine c_aald F w hM (hI.ms (show i1 < gnS G by omega)) (show k4 < 5 by omega) dX6_familiesNotGood_18 ?_
    refine q_astore F (lv' := [(4, va_rf (caF AD G i1 k4)), (3, .int (nI k4)), (2, .int (L_X6_familiesNotGood_4_2 G i1 k4)), (0, .ref (AD 0 0 0)), (1, .ref (AD 6 i1 0))]) dX6_familiesNotGood_19 hl (by decide) rfl (fun ls hl => ?_)
    refine q_aload F dX6_familiesNotGood_21 (lv_at hl 0 rfl) ?_
    refine jnl (m := m) 5 [(4, va_rf (caF AD G i1 k4)), (3, .int (nI k4)), (2, .int (if G 18 (5 * i1 + k4) = 0 then (L_X6_familiesNotGood_4_2 G i1 k4) ||| ((1 : Int32) <<< ((nI k4) &&& 31)) else (if f_X0_hasLapsedByItself G i1 k4 (G 1 0) = 0 then (if f_X6_isSuspended G (G 21 (5 * i1 + k4)) = 0 then (if f_X6_isIn (f_X6_hangsOn (nI k4)) (L_X6_familiesNotGood_4_2 G i1 k4) = 0 then L_X6_familiesNotGood_4_2 G i1 k4 else (L_X6_familiesNotGood_4_2 G i1 k4) ||| ((1 : Int32) <<< ((nI k4) &&& 31))) else (L_X6_familiesNotGood_4_2 G i1 k4) ||| ((1 : Int32) <<< ((nI k4) &&& 31))) else (L_X6_familiesNotGood_4_2 G i1 k4) ||| ((1 : Int32) <<< ((nI k4) &&& 31))))), (0, .ref (AD 0 0 0)), (1, .ref (AD 6 i1 0))] [] 67 (fun J_2 => ?_) ?_
    · refine q_ifnull (P := G 18 (5 * i1 + k4) = 0) (hn := fun h => hI.cn (show i1 < gnS G by omega) (show k4 < 5 by omega) h) (hs := fun h => ⟨_, hI.cs (show i1 < gnS G by omega) (show k4 < 5 by omega) h⟩) (tgt := 61) F.1 F.2.1 dX6_familiesNotGood_23 (by decide) (fun c_3 => ?_) (fun c_3 => ?_)
      · refine lv_iload_n F.1 F.2.1 dX6_familiesNotGood_61 rfl (lv_at hl 2 rfl) ?_
        refine lv_iconst (v := 1) F.1 F.2.1 dX6_familiesNotGood_62 (by decide) ?_
        refine lv_iload_n F.1 F.2.1 dX6_familiesNotGood_63 rfl (lv_at hl 1 rfl) ?_
        refine lv_ishl F.1 F.2.1 dX6_familiesNotGood_64 ?_
        refine lv_ior F.1 F.2.1 dX6_familiesNotGood_65 ?_
        refine lv_istore_n (lv' := [(2, .int ((L_X6_familiesNotGood_4_2 G i1 k4) ||| ((1 : Int32) <<< ((nI k4) &&& 31)))), (4, va_rf (caF AD G i1 k4)), (3, .int (nI k4)), (0, .ref (AD 0 0 0)), (1, .ref (AD 6 i1 0))]) F.1 F.2.1 dX6_familiesNotGood_66 rfl hl (by decide) rfl (fun ls hl => ?_)
        exact J_2 ls (lv_sub hl [1, 2, 0, 3, 4] (by rw [((if_pos c_3) : (if G 18 (5 * i1 + k4) = 0 then (L_X6_familiesNotGood_4_2 G i1 k4) ||| ((1 : Int32) <<< ((nI k4) &&& 31)) else (if f_X0_hasLapsedByItself G i1 k4 (G 1 0) = 0 then (if f_X6_isSuspended G (G 21 (5 * i1 + k4)) = 0 then (if f_X6_isIn (f_X6_hangsOn (nI k4)) (L_X6_familiesNotGood_4_2 G i1 k4) = 0 then L_X6_familiesNotGood_4_2 G i1 k4 else (L_X6_familiesNotGood_4_2 G i1 k4) ||| ((1 : Int32) <<< ((nI k4) &&& 31))) else (L_X6_familiesNotGood_4_2 G i1 k4) ||| ((1 : Int32) <<< ((nI k4) &&& 31))) else (L_X6_familiesNotGood_4_2 G i1 k4) ||| ((1 : Int32) <<< ((nI k4) &&& 31)))) = (L_X6_familiesNotGood_4_2 G i1 k4) ||| ((1 : Int32) <<< ((nI k4) &&& 31)))] <;> rfl))
      · refine q_aload F dX6_familiesNotGood_26 (lv_at hl 0 rfl) ?_
        refine lv_rf (hI.cs (show i1 < gnS G by omega) (show k4 < 5 by omega) c_3) ?_
        refine lv_aload_n F.1 F.2.1 dX6_familiesNotGood_28 rfl (lv_at hl 3 rfl) ?_
        refine gf_X6_30 F w (hM.a0 ⟨by decide, rfl, rfl⟩) rfl dX6_familiesNotGood_29 ?_
        refine q_rV (rest := []) F w kV_X6_335 hd_X0_hasLapsedByItself (ci := 1) rfl (c_X0_hasLapsedByItself l D cy A _ AD G hM hI i1 k4 (G 1 0) (show i1 < gnS G by omega) (show k4 < 5 by omega) (hI.c1 (show i1 < gnS G by omega) (show k4 < 5 by omega) c_3)) (hM.a13 (hI.o13 (show i1 < gnS G by omega) (show k4 < 5 by omega) (hI.c1 (show i1 < gnS G by omega) (show k4 < 5 by omega) c_3))) dX6_familiesNotGood_32 rfl rfl hl.1 ⟨rfl, rfl, Nat.le_of_ble_eq_true rfl, Nat.le_of_ble_eq_true rfl⟩ (Nat.le_of_ble_eq_true rfl) ⟨Nat.zero_le _, Nat.zero_le _⟩ ?_
        refine lv_if_ne (tgt := 61) F.1 F.2.1 dX6_familiesNotGood_35 (by decide) (fun c_4 => ?_) (fun c_4 => ?_)
        · refine lv_iload_n F.1 F.2.1 dX6_familiesNotGood_61 rfl (lv_at hl 2 rfl) ?_
          refine lv_iconst (v := 1) F.1 F.2.1 dX6_familiesNotGood_62 (by decide) ?_
          refine lv_iload_n F.1 F.2.1 dX6_familiesNotGood_63 rfl (lv_at hl 1 rfl) ?_
          refine lv_ishl F.1 F.2.1 dX6_familiesNotGood_64 ?_
          refine lv_ior F.1 F.2.1 dX6_familiesNotGood_65 ?_
          refine lv_istore_n (lv' := [(2, .int ((L_X6_familiesNotGood_4_2 G i1 k4) ||| ((1 : Int32) <<< ((nI k4) &&& 31)))), (4, va_rf (caF AD G i1 k4)), (3, .int (nI k4)), (0, .ref (AD 0 0 0)), (1, .ref (AD 6 i1 0))]) F.1 F.2.1 dX6_familiesNotGood_66 rfl hl (by decide) rfl (fun ls hl => ?_)
          exact J_2 ls (lv_sub hl [1, 2, 0, 3, 4] (by rw [(((if_neg c_3).trans (if_neg c_4)) : (if G 18 (5 * i1 + k4) = 0 then (L_X6_familiesNotGood_4_2 G i1 k4) ||| ((1 : Int32) <<< ((nI k4) &&& 31)) else (if f_X0_hasLapsedByItself G i1 k4 (G 1 0) = 0 then (if f_X6_isSuspended G (G 21 (5 * i1 + k4)) = 0 then (if f_X6_isIn (f_X6_hangsOn (nI k4)) (L_X6_familiesNotGood_4_2 G i1 k4) = 0 then L_X6_familiesNotGood_4_2 G i1 k4 else (L_X6_familiesNotGood_4_2 G i1 k4) ||| ((1 : Int32) <<< ((nI k4) &&& 31))) else (L_X6_familiesNotGood_4_2 G i1 k4) ||| ((1 : Int32) <<< ((nI k4) &&& 31))) else (L_X6_familiesNotGood_4_2 G i1 k4) ||| ((1 : Int32) <<< ((nI k4) &&& 31)))) = (L_X6_familiesNotGood_4_2 G i1 k4) ||| ((1 : Int32) <<< ((nI k4) &&& 31)))] <;> rfl))
        · refine lv_aload_n F.1 F.2.1 dX6_familiesNotGood_38 rfl (lv_at hl 3 rfl) ?_
          refine q_aload F dX6_familiesNotGood_39 (lv_at hl 0 rfl) ?_
          refine lv_rf (hI.cs (show i1 < gnS G by omega) (show k4 < 5 by omega) c_3) ?_
          refine gf_X6_338 F w (hM.a13 (hI.o13 (show i1 < gnS G by omega) (show k4 < 5 by omega) (hI.c1 (show i1 < gnS G by omega) (show k4 < 5 by omega) c_3))) rfl dX6_familiesNotGood_41 ?_
          refine q_rV (rest := []) F w kV_X6_112 hd_X6_isSuspended (ci := 7) rfl (c_X6_isSuspended l D cy A _ AD G hM hI (G 21 (5 * i1 + k4))) (hM.a0 ⟨by decide, rfl, rfl⟩) dX6_familiesNotGood_44 rfl rfl hl.1 ⟨rfl, rfl, Nat.le_of_ble_eq_true rfl, Nat.le_of_ble_eq_true rfl⟩ (Nat.le_of_ble_eq_true rfl) ⟨Nat.zero_le _, Nat.zero_le _⟩ ?_
          refine lv_if_ne (tgt := 61) F.1 F.2.1 dX6_familiesNotGood_47 (by decide) (fun c_5 => ?_) (fun c_5 => ?_)
          · refine lv_iload_n F.1 F.2.1 dX6_familiesNotGood_61 rfl (lv_at hl 2 rfl) ?_
            refine lv_iconst (v := 1) F.1 F.2.1 dX6_familiesNotGood_62 (by decide) ?_
            refine lv_iload_n F.1 F.2.1 dX6_familiesNotGood_63 rfl (lv_at hl 1 rfl) ?_
            refine lv_ishl F.1 F.2.1 dX6_familiesNotGood_64 ?_
            refine lv_ior F.1 F.2.1 dX6_familiesNotGood_65 ?_
            refine lv_istore_n (lv' := [(2, .int ((L_X6_familiesNotGood_4_2 G i1 k4) ||| ((1 : Int32) <<< ((nI k4) &&& 31)))), (4, va_rf (caF AD G i1 k4)), (3, .int (nI k4)), (0, .ref (AD 0 0 0)), (1, .ref (AD 6 i1 0))]) F.1 F.2.1 dX6_familiesNotGood_66 rfl hl (by decide) rfl (fun ls hl => ?_)
            exact J_2 ls (lv_sub hl [1, 2, 0, 3, 4] (by rw [(((if_neg c_3).trans ((if_pos c_4).trans (if_neg c_5))) : (if G 18 (5 * i1 + k4) = 0 then (L_X6_familiesNotGood_4_2 G i1 k4) ||| ((1 : Int32) <<< ((nI k4) &&& 31)) else (if f_X0_hasLapsedByItself G i1 k4 (G 1 0) = 0 then (if f_X6_isSuspended G (G 21 (5 * i1 + k4)) = 0 then (if f_X6_isIn (f_X6_hangsOn (nI k4)) (L_X6_familiesNotGood_4_2 G i1 k4) = 0 then L_X6_familiesNotGood_4_2 G i1 k4 else (L_X6_familiesNotGood_4_2 G i1 k4) ||| ((1 : Int32) <<< ((nI k4) &&& 31))) else (L_X6_familiesNotGood_4_2 G i1 k4) ||| ((1 : Int32) <<< ((nI k4) &&& 31))) else (L_X6_familiesNotGood_4_2 G i1 k4) ||| ((1 : Int32) <<< ((nI k4) &&& 31)))) = (L_X6_familiesNotGood_4_2 G i1 k4) ||| ((1 : Int32) <<< ((nI k4) &&& 31)))] <;> rfl))
          · refine lv_iload_n F.1 F.2.1 dX6_familiesNotGood_50 rfl (lv_at hl 1 rfl) ?_
            refine q_rS (rest := []) F w kS_X6_116 hd_X6_hangsOn (c_X6_hangsOn l D cy A _ (nI k4)) dX6_familiesNotGood_51 rfl rfl hl.1 ⟨rfl, rfl, Nat.le_of_ble_eq_true rfl, Nat.le_of_ble_eq_true rfl⟩ (Nat.le_of_ble_eq_true rfl) ⟨Nat.zero_le _, Nat.zero_le _⟩ ?_
            refine lv_iload_n F.1 F.2.1 dX6_familiesNotGood_54 rfl (lv_at hl 2 rfl) ?_
            refine q_rS (rest := []) F w kS_X6_124 hd_X6_isIn (c_X6_isIn l D cy A _ (f_X6_hangsOn (nI k4)) (L_X6_familiesNotGood_4_2 G i1 k4)) dX6_familiesNotGood_55 rfl rfl hl.1 ⟨rfl, rfl, Nat.le_of_ble_eq_true rfl, Nat.le_of_ble_eq_true rfl⟩ (Nat.le_of_ble_eq_true rfl) ⟨Nat.zero_le _, Nat.zero_le _⟩ ?_
            refine lv_if_eq (tgt := 67) F.1 F.2.1 dX6_familiesNotGood_58 (by decide) (fun c_6 => ?_) (fun c_6 => ?_)
            · exact J_2 ls (lv_sub hl [0, 1, 2, 3, 4] (by rw [(((if_neg c_3).trans ((if_pos c_4).trans ((if_pos c_5).trans (if_pos c_6)))) : (if G 18 (5 * i1 + k4) = 0 then (L_X6_familiesNotGood_4_2 G i1 k4) ||| ((1 : Int32) <<< ((nI k4) &&& 31)) else (if f_X0_hasLapsedByItself G i1 k4 (G 1 0) = 0 then (if f_X6_isSuspended G (G 21 (5 * i1 + k4)) = 0 then (if f_X6_isIn (f_X6_hangsOn (nI k4)) (L_X6_familiesNotGood_4_2 G i1 k4) = 0 then L_X6_familiesNotGood_4_2 G i1 k4 else (L_X6_familiesNotGood_4_2 G i1 k4) ||| ((1 : Int32) <<< ((nI k4) &&& 31))) else (L_X6_familiesNotGood_4_2 G i1 k4) ||| ((1 : Int32) <<< ((nI k4) &&& 31))) else (L_X6_familiesNotGood_4_2 G i1 k4) ||| ((1 : Int32) <<< ((nI k4) &&& 31)))) = L_X6_familiesNotGood_4_2 G i1 k4)] <;> rfl))
            · refine lv_iload_n F.1 F.2.1 dX6_familiesNotGood_61 rfl (lv_at hl 2 rfl) ?_
              refine lv_iconst (v := 1) F.1 F.2.1 dX6_familiesNotGood_62 (by decide) ?_
              refine lv_iload_n F.1 F.2.1 dX6_familiesNotGood_63 rfl (lv_at hl 1 rfl) ?_
              refine lv_ishl F.1 F.2.1 dX6_familiesNotGood_64 ?_
              refine lv_ior F.1 F.2.1 dX6_familiesNotGood_65 ?_
              refine lv_istore_n (lv' := [(2, .int ((L_X6_familiesNotGood_4_2 G i1 k4) ||| ((1 : Int32) <<< ((nI k4) &&& 31)))), (4, va_rf (caF AD G i1 k4)), (3, .int (nI k4)), (0, .ref (AD 0 0 0)), (1, .ref (AD 6 i1 0))]) F.1 F.2.1 dX6_familiesNotGood_66 rfl hl (by decide) rfl (fun ls hl => ?_)
              exact J_2 ls (lv_sub hl [1, 2, 0, 3, 4] (by rw [(((if_neg c_3).trans ((if_pos c_4).trans ((if_pos c_5).trans (if_neg c_6)))) : (if G 18 (5 * i1 + k4) = 0 then (L_X6_familiesNotGood_4_2 G i1 k4) ||| ((1 : Int32) <<< ((nI k4) &&& 31)) else (if f_X0_hasLapsedByItself G i1 k4 (G 1 0) = 0 then (if f_X6_isSuspended G (G 21 (5 * i1 + k4)) = 0 then (if f_X6_isIn (f_X6_hangsOn (nI k4)) (L_X6_familiesNotGood_4_2 G i1 k4) = 0 then L_X6_familiesNotGood_4_2 G i1 k4 else (L_X6_familiesNotGood_4_2 G i1 k4) ||| ((1 : Int32) <<< ((nI k4) &&& 31))) else (L_X6_familiesNotGood_4_2 G i1 k4) ||| ((1 : Int32) <<< ((nI k4) &&& 31))) else (L_X6_familiesNotGood_4_2 G i1 k4) ||| ((1 : Int32) <<< ((nI k4) &&& 31)))) = (L_X6_familiesNotGood_4_2 G i1 k4) ||| ((1 : Int32) <<< ((nI k4) &&& 31)))] <;> rfl))
    intro ls hl
    refine lv_iinc (v := nI (k4 + 1)) (lv' := [(3, .int (nI (k4 + 1))), (4, va_rf (caF AD G i1 k4)), (2, .int (if G 18 (5 * i1 + k4) = 0 then (L_X6_familiesNotGood_4_2 G i1 k4) ||| ((1 : Int32) <<< ((nI k4) &&& 31)) else (if f_X0_hasLapsedByItself G i1 k4 (G 1 0) = 0 then (if f_X6_isSuspended G (G 21 (5 * i1 + k4)) = 0 then (if f_X6_isIn (f_X6_hangsOn (nI k4)) (L_X6_familiesNotGood_4_2 G i1 k4) = 0 then L_X6_familiesNotGood_4_2 G i1 k4 else (L_X6_familiesNotGood_4_2 G i1 k4) ||| ((1 : Int32) <<< ((nI k4) &&& 31))) else (L_X6_familiesNotGood_4_2 G i1 k4) ||| ((1 : Int32) <<< ((nI k4) &&& 31))) else (L_X6_familiesNotGood_4_2 G i1 k4) ||| ((1 : Int32) <<< ((nI k4) &&& 31))))), (0, .ref (AD 0 0 0)), (1, .ref (AD 6 i1 0))]) F.1 F.2.1 dX6_familiesNotGood_67 hl (k := 1) rfl (nI_1 _) (by decide) rfl (fun ls hl => ?_)
    refine lv_goto (tgt := 4) F.1 F.2.1 dX6_familiesNotGood_70 (by decide) ?_
    exact ih4 ls hlt4 (lv_sub hl [0, 2, 3, 4] rfl)
  have hkn4 : k4 = 5 := GB_ile (rfl : (5 : Int32) = nI 5) (by decide) hk4 c_1
  subst hkn4
  refine lv_iload_n F.1 F.2.1 dX6_familiesNotGood_73 rfl (lv_at hl 1 rfl) ?_
  exact q_reti F hr hlk rfl dX6_familiesNotGood_74
def f_X6_isCounted (G : GS) (i2 : Nat) (i1 : Nat) : Int32 := if G 30 i2 = nI i1 then (if f_X6_isOfLatest G (G 32 i2) = 0 then 0 else (if f_X5_counts G i2 = 0 then 0 else 1)) else 0
theorem nz_f_X6_isCounted (G : GS) (i2 : Nat) (i1 : Nat) : nz (f_X6_isCounted G i2 i1) := (nz_ite (nz_ite nz0 (nz_ite nz0 nz1)) nz0)
set_option maxHeartbeats 4000000 in
set_option maxRecDepth 100000 in
theorem c_X6_isCounted (l : Launch) (D : va_G) (cy : Nat → ClassId) (A : Nat → Prop) (μ : MU) (AD : AM) (G : GS) (hM : RepC cy AD G μ) (hI : InvC G) (i2 : Nat) (i1 : Nat) (hi2 : i2 < gnV G) (hi1 : i1 < gnS G) : Met l yX6_isCounted (WS yX6_isCounted cX6_isCounted 3 (Option.some Jvm.ClassFile.FieldType.boolean)) { frames := 1, cells := 0, slots := 0, locals := 21 } (va_Pc [.ref (AD 0 0 0), .ref (AD 10 i2 0), .ref (AD 6 i1 0)] (Wd D cy A μ)) (QcRead (f_X6_isCounted G i2 i1)) 0 0 (fun _ => False) := by
  refine q_met (by decide) (Nat.le_of_ble_eq_true rfl) ?_
  intro p e s m below meth c F w hr hlk hnm ls hl
  have F : CallFix p m c cX6_isCounted 3 s _ BIG RX6 := F
  have hl : lv_has ls 3 [(0, .ref (AD 0 0 0)), (1, .ref (AD 10 i2 0)), (2, .ref (AD 6 i1 0))] := hl
  refine lv_aload_n F.1 F.2.1 dX6_isCounted_0 rfl (lv_at hl 1 rfl) ?_
  refine gf_X6_201 F w (hM.a10 (hI.o10 (show i2 < gnV G by omega))) rfl dX6_isCounted_1 ?_
  refine lv_aload_n F.1 F.2.1 dX6_isCounted_4 rfl (lv_at hl 2 rfl) ?_
  refine jn0 (m := m) (ls := ls) (rest := []) (if G 30 i2 = nI i1 then (if f_X6_isOfLatest G (G 32 i2) = 0 then 0 else (if f_X5_counts G i2 = 0 then 0 else 1)) else 0) 31 (fun J_1 => ?_) ?_
  · refine q_acmp_ne (rx := some (AD 6 (gnO G i2) 0)) (ry := some (AD 6 i1 0)) (P := G 30 i2 = nI i1) (hP := hM.shq hI (show i2 < gnV G by omega) (show i1 < gnS G by omega)) (tgt := 30) F.1 F.2.1 dX6_isCounted_5 (by decide) (fun c_2 => ?_) (fun c_2 => ?_)
    · refine lv_iconst (v := 0) F.1 F.2.1 dX6_isCounted_30 (by decide) ?_
      exact jn_a (if_neg c_2) J_1
    · refine lv_aload_n F.1 F.2.1 dX6_isCounted_8 rfl (lv_at hl 0 rfl) ?_
      refine lv_aload_n F.1 F.2.1 dX6_isCounted_9 rfl (lv_at hl 1 rfl) ?_
      refine gf_X6_309 F w (hM.a10 (hI.o10 (show i2 < gnV G by omega))) rfl dX6_isCounted_10 ?_
      refine q_rV (rest := []) F w kV_X6_339 hd_X6_isOfLatest (ci := 7) rfl (c_X6_isOfLatest l D cy A _ AD G hM hI (G 32 i2)) (hM.a0 ⟨by decide, rfl, rfl⟩) dX6_isCounted_13 rfl rfl hl.1 ⟨rfl, rfl, Nat.le_of_ble_eq_true rfl, Nat.le_of_ble_eq_true rfl⟩ (Nat.le_of_ble_eq_true rfl) ⟨Nat.zero_le _, Nat.zero_le _⟩ ?_
      refine lv_if_eq (tgt := 30) F.1 F.2.1 dX6_isCounted_16 (by decide) (fun c_3 => ?_) (fun c_3 => ?_)
      · refine lv_iconst (v := 0) F.1 F.2.1 dX6_isCounted_30 (by decide) ?_
        exact jn_a ((if_pos c_2).trans (if_pos c_3)) J_1
      · refine lv_aload_n F.1 F.2.1 dX6_isCounted_19 rfl (lv_at hl 1 rfl) ?_
        refine q_rV (rest := []) F w kV_X6_312 hd_X5_counts (ci := 6) rfl (c_X5_counts l D cy A _ AD G hM hI i2 (show i2 < gnV G by omega)) (hM.a10 (hI.o10 (show i2 < gnV G by omega))) dX6_isCounted_20 rfl rfl hl.1 ⟨rfl, rfl, Nat.le_of_ble_eq_true rfl, Nat.le_of_ble_eq_true rfl⟩ (Nat.le_of_ble_eq_true rfl) ⟨Nat.zero_le _, Nat.zero_le _⟩ ?_
        refine lv_if_eq (tgt := 30) F.1 F.2.1 dX6_isCounted_23 (by decide) (fun c_4 => ?_) (fun c_4 => ?_)
        · refine lv_iconst (v := 0) F.1 F.2.1 dX6_isCounted_30 (by decide) ?_
          exact jn_a ((if_pos c_2).trans ((if_neg c_3).trans (if_pos c_4))) J_1
        · refine lv_iconst (v := 1) F.1 F.2.1 dX6_isCounted_26 (by decide) ?_
          refine lv_goto (tgt := 31) F.1 F.2.1 dX6_isCounted_27 (by decide) ?_
          exact jn_a ((if_pos c_2).trans ((if_neg c_3).trans (if_neg c_4))) J_1
  exact q_retz F hr hlk rfl (nz_ite (nz_ite nz0 (nz_ite nz0 nz1)) nz0) dX6_isCounted_31
def L_X6_detentionsThatCount_4_2 (G : GS) (i1 : Nat) : Nat → Int32
  | 0 => 0
  | k4 + 1 => if f_X6_isCounted G k4 i1 = 0 then L_X6_detentionsThatCount_4_2 G i1 k4 else (L_X6_detentionsThatCount_4_2 G i1 k4) + 1
def f_X6_detentionsThatCount (G : GS) (i1 : Nat) : Int32 := L_X6_detentionsThatCount_4_2 G i1 (gnV G)
set_option maxHeartbeats 4000000 in
set_option maxRecDepth 100000 in
theorem c_X6_detentionsThatCount (l : Launch) (D : va_G) (cy : Nat → ClassId) (A : Nat → Prop) (μ : MU) (AD : AM) (G : GS) (hM : RepC cy AD G μ) (hI : InvC G) (i1 : Nat) (hi1 : i1 < gnS G) : Met l yX6_detentionsThatCount (WS yX6_detentionsThatCount cX6_detentionsThatCount 4 (Option.some Jvm.ClassFile.FieldType.int)) { frames := 3, cells := 0, slots := 0, locals := 64 } (va_Pc [.ref (AD 0 0 0), .ref (AD 6 i1 0)] (Wd D cy A μ)) (QcRead (f_X6_detentionsThatCount G i1)) 0 0 (fun _ => False) := by
  refine q_met (by decide) (Nat.le_of_ble_eq_true rfl) ?_
  intro p e s m below meth c F w hr hlk hnm ls hl
  have F : CallFix p m c cX6_detentionsThatCount 4 s _ BIG RX6 := F
  have hl : lv_has ls 4 [(0, .ref (AD 0 0 0)), (1, .ref (AD 6 i1 0))] := hl
  refine lv_iconst (v := 0) F.1 F.2.1 dX6_detentionsThatCount_0 (by decide) ?_
  refine lv_istore_n (lv' := [(2, .int 0), (0, .ref (AD 0 0 0)), (1, .ref (AD 6 i1 0))]) F.1 F.2.1 dX6_detentionsThatCount_1 rfl hl (by decide) rfl (fun ls hl => ?_)
  refine lv_iconst (v := 0) F.1 F.2.1 dX6_detentionsThatCount_2 (by decide) ?_
  refine lv_istore_n (lv' := [(3, .int 0), (2, .int 0), (0, .ref (AD 0 0 0)), (1, .ref (AD 6 i1 0))]) F.1 F.2.1 dX6_detentionsThatCount_3 rfl hl (by decide) rfl (fun ls hl => ?_)
  refine q_loop (P := fun k4 ls => lv_has ls 4 [(3, .int (nI k4)), (2, .int (L_X6_detentionsThatCount_4_2 G i1 k4)), (0, .ref (AD 0 0 0)), (1, .ref (AD 6 i1 0))]) (gnV G) (fun k4 ls hk4 hl ih4 => ?_) 0 ls (Nat.zero_le _) (lv_cg (lv_sub hl [0, 1, 2, 3] rfl) rfl)
  refine lv_iload_n F.1 F.2.1 dX6_detentionsThatCount_4 rfl (lv_at hl 0 rfl) ?_
  refine lv_aload_n F.1 F.2.1 dX6_detentionsThatCount_5 rfl (lv_at hl 2 rfl) ?_
  refine gf_X6_19 F w (hM.a0 ⟨by decide, rfl, rfl⟩) rfl dX6_detentionsThatCount_6 ?_
  refine q_rV (rest := [.int (nI k4)]) F w kV_X6_58 hd_Jx4a65c_size_8abf5 (ci := 0) rfl (c_size l D cy A _ hM.l3.1) hM.l3.1 dX6_detentionsThatCount_9 rfl rfl hl.1 ⟨rfl, rfl, Nat.le_of_ble_eq_true rfl, Nat.le_of_ble_eq_true rfl⟩ (Nat.le_of_ble_eq_true rfl) ⟨Nat.zero_le _, Nat.zero_le _⟩ ?_
  refine lv_icmp_ge (tgt := 43) F.1 F.2.1 dX6_detentionsThatCount_12 (by decide) (fun c_1 => ?_) (fun c_1 => ?_)
  rotate_left
  · have hlt4 : k4 < (gnV G) := GB_ilt rfl (Nat.lt_of_le_of_lt hI.v.2.1 (by decide)) hk4 c_1
    refine lv_aload_n F.1 F.2.1 dX6_detentionsThatCount_15 rfl (lv_at hl 2 rfl) ?_
    refine lv_aload_n F.1 F.2.1 dX6_detentionsThatCount_16 rfl (lv_at hl 2 rfl) ?_
    refine gf_X6_19 F w (hM.a0 ⟨by decide, rfl, rfl⟩) rfl dX6_detentionsThatCount_17 ?_
    refine lv_iload_n F.1 F.2.1 dX6_detentionsThatCount_20 rfl (lv_at hl 0 rfl) ?_
    refine q_sVq (rest := [.ref (AD 0 0 0)]) F w kV_X6_224 hd_Jx4a65c_get_915e3 (ci := 0) rfl (c_get l D cy A _ hM.l3 (show k4 < gnV G by omega) (show gnV G ≤ 600 by have := hI.v.2.1; omega)) hM.l3.1 dX6_detentionsThatCount_21 rfl rfl hl.1 ⟨rfl, rfl, Nat.le_of_ble_eq_true rfl, Nat.le_of_ble_eq_true rfl⟩ (Nat.le_of_ble_eq_true rfl) ⟨Nat.zero_le _, Nat.zero_le _⟩ ?_
    refine q_cast F w wL_X6_179 (ci := 6) rfl (hM.a10 (hI.o10 (show k4 < gnV G by omega))) dX6_detentionsThatCount_24 ?_
    refine lv_aload_n F.1 F.2.1 dX6_detentionsThatCount_27 rfl (lv_at hl 3 rfl) ?_
    refine q_rV (rest := []) F w kV_X6_401 hd_X6_isCounted (ci := 7) rfl (c_X6_isCounted l D cy A _ AD G hM hI k4 i1 (show k4 < gnV G by omega) (show i1 < gnS G by omega)) (hM.a0 ⟨by decide, rfl, rfl⟩) dX6_detentionsThatCount_28 rfl rfl hl.1 ⟨rfl, rfl, Nat.le_of_ble_eq_true rfl, Nat.le_of_ble_eq_true rfl⟩ (Nat.le_of_ble_eq_true rfl) ⟨Nat.zero_le _, Nat.zero_le _⟩ ?_
    refine jnl (m := m) 4 [(3, .int (nI k4)), (2, .int (if f_X6_isCounted G k4 i1 = 0 then L_X6_detentionsThatCount_4_2 G i1 k4 else (L_X6_detentionsThatCount_4_2 G i1 k4) + 1)), (0, .ref (AD 0 0 0)), (1, .ref (AD 6 i1 0))] [] 37 (fun J_2 => ?_) ?_
    · refine lv_if_eq (tgt := 37) F.1 F.2.1 dX6_detentionsThatCount_31 (by decide) (fun c_3 => ?_) (fun c_3 => ?_)
      · exact J_2 ls (lv_sub hl [0, 1, 2, 3] (by rw [((if_pos c_3) : (if f_X6_isCounted G k4 i1 = 0 then L_X6_detentionsThatCount_4_2 G i1 k4 else (L_X6_detentionsThatCount_4_2 G i1 k4) + 1) = L_X6_detentionsThatCount_4_2 G i1 k4)] <;> rfl))
      · refine lv_iinc (v := (L_X6_detentionsThatCount_4_2 G i1 k4) + 1) (lv' := [(2, .int ((L_X6_detentionsThatCount_4_2 G i1 k4) + 1)), (3, .int (nI k4)), (0, .ref (AD 0 0 0)), (1, .ref (AD 6 i1 0))]) F.1 F.2.1 dX6_detentionsThatCount_34 hl (k := 1) rfl rfl (by decide) rfl (fun ls hl => ?_)
        exact J_2 ls (lv_sub hl [1, 0, 2, 3] (by rw [((if_neg c_3) : (if f_X6_isCounted G k4 i1 = 0 then L_X6_detentionsThatCount_4_2 G i1 k4 else (L_X6_detentionsThatCount_4_2 G i1 k4) + 1) = (L_X6_detentionsThatCount_4_2 G i1 k4) + 1)] <;> rfl))
    intro ls hl
    refine lv_iinc (v := nI (k4 + 1)) (lv' := [(3, .int (nI (k4 + 1))), (2, .int (if f_X6_isCounted G k4 i1 = 0 then L_X6_detentionsThatCount_4_2 G i1 k4 else (L_X6_detentionsThatCount_4_2 G i1 k4) + 1)), (0, .ref (AD 0 0 0)), (1, .ref (AD 6 i1 0))]) F.1 F.2.1 dX6_detentionsThatCount_37 hl (k := 0) rfl (nI_1 _) (by decide) rfl (fun ls hl => ?_)
    refine lv_goto (tgt := 4) F.1 F.2.1 dX6_detentionsThatCount_40 (by decide) ?_
    exact ih4 ls hlt4 (lv_sub hl [0, 1, 2, 3] rfl)
  have hkn4 : k4 = (gnV G) := GB_ile rfl (Nat.lt_of_le_of_lt hI.v.2.1 (by decide)) hk4 c_1
  subst hkn4
  refine lv_iload_n F.1 F.2.1 dX6_detentionsThatCount_43 rfl (lv_at hl 1 rfl) ?_
  exact q_reti F hr hlk rfl dX6_detentionsThatCount_44
def L_X6_listOf_7_3 (G : GS) (x1 : Int32) : Nat → Int32
  | 0 => 0
  | k7 + 1 => if G 34 k7 = x1 then (if f_X6_isOfLatest G (G 32 k7) = 0 then L_X6_listOf_7_3 G x1 k7 else (L_X6_listOf_7_3 G x1 k7) + (if f_X5_counts G k7 = 0 then 0 else 1)) else L_X6_listOf_7_3 G x1 k7
def L_X6_listOf_7_2 (G : GS) (x1 : Int32) : Nat → Int32
  | 0 => 0
  | k7 + 1 => if G 34 k7 = x1 then (if f_X6_isOfLatest G (G 32 k7) = 0 then L_X6_listOf_7_2 G x1 k7 else (L_X6_listOf_7_2 G x1 k7) + 1) else L_X6_listOf_7_2 G x1 k7
def f_X6_listOf (G : GS) (x1 : Int32) : Int32 := f_X6_listBy (L_X6_listOf_7_2 G x1 (gnV G)) (L_X6_listOf_7_3 G x1 (gnV G))
set_option maxHeartbeats 4000000 in
set_option maxRecDepth 100000 in
theorem c_X6_listOf (l : Launch) (D : va_G) (cy : Nat → ClassId) (A : Nat → Prop) (μ : MU) (AD : AM) (G : GS) (hM : RepC cy AD G μ) (hI : InvC G) (x1 : Int32) : Met l yX6_listOf (WS yX6_listOf cX6_listOf 6 (Option.some Jvm.ClassFile.FieldType.int)) { frames := 3, cells := 0, slots := 0, locals := 64 } (va_Pc [.ref (AD 0 0 0), .int x1] (Wd D cy A μ)) (QcRead (f_X6_listOf G x1)) 0 0 (fun _ => False) := by
  refine q_met (by decide) (Nat.le_of_ble_eq_true rfl) ?_
  intro p e s m below meth c F w hr hlk hnm ls hl
  have F : CallFix p m c cX6_listOf 6 s _ BIG RX6 := F
  have hl : lv_has ls 6 [(0, .ref (AD 0 0 0)), (1, .int x1)] := hl
  refine lv_iconst (v := 0) F.1 F.2.1 dX6_listOf_0 (by decide) ?_
  refine lv_istore_n (lv' := [(2, .int 0), (0, .ref (AD 0 0 0)), (1, .int x1)]) F.1 F.2.1 dX6_listOf_1 rfl hl (by decide) rfl (fun ls hl => ?_)
  refine lv_iconst (v := 0) F.1 F.2.1 dX6_listOf_2 (by decide) ?_
  refine lv_istore_n (lv' := [(3, .int 0), (2, .int 0), (0, .ref (AD 0 0 0)), (1, .int x1)]) F.1 F.2.1 dX6_listOf_3 rfl hl (by decide) rfl (fun ls hl => ?_)
  refine lv_iconst (v := 0) F.1 F.2.1 dX6_listOf_4 (by decide) ?_
  refine lv_istore (lv' := [(4, .int 0), (3, .int 0), (2, .int 0), (0, .ref (AD 0 0 0)), (1, .int x1)]) F.1 F.2.1 dX6_listOf_5 hl (by decide) rfl (fun ls hl => ?_)
  refine q_loop (P := fun k7 ls => lv_has ls 6 [(4, .int (nI k7)), (3, .int (L_X6_listOf_7_3 G x1 k7)), (2, .int (L_X6_listOf_7_2 G x1 k7)), (0, .ref (AD 0 0 0)), (1, .int x1)]) (gnV G) (fun k7 ls hk7 hl ih7 => ?_) 0 ls (Nat.zero_le _) (lv_cg (lv_sub hl [0, 1, 2, 3, 4] rfl) rfl)
  refine lv_iload F.1 F.2.1 dX6_listOf_7 (lv_at hl 0 rfl) ?_
  refine lv_aload_n F.1 F.2.1 dX6_listOf_9 rfl (lv_at hl 3 rfl) ?_
  refine gf_X6_19 F w (hM.a0 ⟨by decide, rfl, rfl⟩) rfl dX6_listOf_10 ?_
  refine q_rV (rest := [.int (nI k7)]) F w kV_X6_58 hd_Jx4a65c_size_8abf5 (ci := 0) rfl (c_size l D cy A _ hM.l3.1) hM.l3.1 dX6_listOf_13 rfl rfl hl.1 ⟨rfl, rfl, Nat.le_of_ble_eq_true rfl, Nat.le_of_ble_eq_true rfl⟩ (Nat.le_of_ble_eq_true rfl) ⟨Nat.zero_le _, Nat.zero_le _⟩ ?_
  refine lv_icmp_ge (tgt := 79) F.1 F.2.1 dX6_listOf_16 (by decide) (fun c_1 => ?_) (fun c_1 => ?_)
  rotate_left
  · have hlt7 : k7 < (gnV G) := GB_ilt rfl (Nat.lt_of_le_of_lt hI.v.2.1 (by decide)) hk7 c_1
    refine lv_aload_n F.1 F.2.1 dX6_listOf_19 rfl (lv_at hl 3 rfl) ?_
    refine gf_X6_19 F w (hM.a0 ⟨by decide, rfl, rfl⟩) rfl dX6_listOf_20 ?_
    refine lv_iload F.1 F.2.1 dX6_listOf_23 (lv_at hl 0 rfl) ?_
    refine q_sVq (rest := []) F w kV_X6_224 hd_Jx4a65c_get_915e3 (ci := 0) rfl (c_get l D cy A _ hM.l3 (show k7 < gnV G by omega) (show gnV G ≤ 600 by have := hI.v.2.1; omega)) hM.l3.1 dX6_listOf_25 rfl rfl hl.1 ⟨rfl, rfl, Nat.le_of_ble_eq_true rfl, Nat.le_of_ble_eq_true rfl⟩ (Nat.le_of_ble_eq_true rfl) ⟨Nat.zero_le _, Nat.zero_le _⟩ ?_
    refine q_cast F w wL_X6_179 (ci := 6) rfl (hM.a10 (hI.o10 (show k7 < gnV G by omega))) dX6_listOf_28 ?_
    refine lv_astore (lv' := [(5, .ref (AD 10 k7 0)), (4, .int (nI k7)), (3, .int (L_X6_listOf_7_3 G x1 k7)), (2, .int (L_X6_listOf_7_2 G x1 k7)), (0, .ref (AD 0 0 0)), (1, .int x1)]) F.1 F.2.1 dX6_listOf_31 hl (by decide) rfl (fun ls hl => ?_)
    refine lv_aload F.1 F.2.1 dX6_listOf_33 (lv_at hl 0 rfl) ?_
    refine gf_X6_414 F w (hM.a10 (hI.o10 (show k7 < gnV G by omega))) rfl dX6_listOf_35 ?_
    refine lv_iload_n F.1 F.2.1 dX6_listOf_38 rfl (lv_at hl 5 rfl) ?_
    refine jnl (m := m) 6 [(5, .ref (AD 10 k7 0)), (4, .int (nI k7)), (3, .int (if G 34 k7 = x1 then (if f_X6_isOfLatest G (G 32 k7) = 0 then L_X6_listOf_7_3 G x1 k7 else (L_X6_listOf_7_3 G x1 k7) + (if f_X5_counts G k7 = 0 then 0 else 1)) else L_X6_listOf_7_3 G x1 k7)), (2, .int (if G 34 k7 = x1 then (if f_X6_isOfLatest G (G 32 k7) = 0 then L_X6_listOf_7_2 G x1 k7 else (L_X6_listOf_7_2 G x1 k7) + 1) else L_X6_listOf_7_2 G x1 k7)), (0, .ref (AD 0 0 0)), (1, .int x1)] [] 73 (fun J_2 => ?_) ?_
    · refine lv_icmp_ne (tgt := 73) F.1 F.2.1 dX6_listOf_39 (by decide) (fun c_3 => ?_) (fun c_3 => ?_)
      · exact J_2 ls (lv_sub hl [0, 1, 2, 3, 4, 5] (by rw [((if_neg c_3) : (if G 34 k7 = x1 then (if f_X6_isOfLatest G (G 32 k7) = 0 then L_X6_listOf_7_3 G x1 k7 else (L_X6_listOf_7_3 G x1 k7) + (if f_X5_counts G k7 = 0 then 0 else 1)) else L_X6_listOf_7_3 G x1 k7) = L_X6_listOf_7_3 G x1 k7), ((if_neg c_3) : (if G 34 k7 = x1 then (if f_X6_isOfLatest G (G 32 k7) = 0 then L_X6_listOf_7_2 G x1 k7 else (L_X6_listOf_7_2 G x1 k7) + 1) else L_X6_listOf_7_2 G x1 k7) = L_X6_listOf_7_2 G x1 k7)] <;> rfl))
      · refine lv_aload_n F.1 F.2.1 dX6_listOf_42 rfl (lv_at hl 4 rfl) ?_
        refine lv_aload F.1 F.2.1 dX6_listOf_43 (lv_at hl 0 rfl) ?_
        refine gf_X6_309 F w (hM.a10 (hI.o10 (show k7 < gnV G by omega))) rfl dX6_listOf_45 ?_
        refine q_rV (rest := []) F w kV_X6_339 hd_X6_isOfLatest (ci := 7) rfl (c_X6_isOfLatest l D cy A _ AD G hM hI (G 32 k7)) (hM.a0 ⟨by decide, rfl, rfl⟩) dX6_listOf_48 rfl rfl hl.1 ⟨rfl, rfl, Nat.le_of_ble_eq_true rfl, Nat.le_of_ble_eq_true rfl⟩ (Nat.le_of_ble_eq_true rfl) ⟨Nat.zero_le _, Nat.zero_le _⟩ ?_
        refine lv_if_eq (tgt := 73) F.1 F.2.1 dX6_listOf_51 (by decide) (fun c_4 => ?_) (fun c_4 => ?_)
        · exact J_2 ls (lv_sub hl [0, 1, 2, 3, 4, 5] (by rw [(((if_pos c_3).trans (if_pos c_4)) : (if G 34 k7 = x1 then (if f_X6_isOfLatest G (G 32 k7) = 0 then L_X6_listOf_7_3 G x1 k7 else (L_X6_listOf_7_3 G x1 k7) + (if f_X5_counts G k7 = 0 then 0 else 1)) else L_X6_listOf_7_3 G x1 k7) = L_X6_listOf_7_3 G x1 k7), (((if_pos c_3).trans (if_pos c_4)) : (if G 34 k7 = x1 then (if f_X6_isOfLatest G (G 32 k7) = 0 then L_X6_listOf_7_2 G x1 k7 else (L_X6_listOf_7_2 G x1 k7) + 1) else L_X6_listOf_7_2 G x1 k7) = L_X6_listOf_7_2 G x1 k7)] <;> rfl))
        · refine lv_iinc (v := (L_X6_listOf_7_2 G x1 k7) + 1) (lv' := [(2, .int ((L_X6_listOf_7_2 G x1 k7) + 1)), (5, .ref (AD 10 k7 0)), (4, .int (nI k7)), (3, .int (L_X6_listOf_7_3 G x1 k7)), (0, .ref (AD 0 0 0)), (1, .int x1)]) F.1 F.2.1 dX6_listOf_54 hl (k := 3) rfl rfl (by decide) rfl (fun ls hl => ?_)
          refine lv_iload_n F.1 F.2.1 dX6_listOf_57 rfl (lv_at hl 3 rfl) ?_
          refine lv_aload F.1 F.2.1 dX6_listOf_58 (lv_at hl 1 rfl) ?_
          refine q_rV (rest := [.int (L_X6_listOf_7_3 G x1 k7)]) F w kV_X6_312 hd_X5_counts (ci := 6) rfl (c_X5_counts l D cy A _ AD G hM hI k7 (show k7 < gnV G by omega)) (hM.a10 (hI.o10 (show k7 < gnV G by omega))) dX6_listOf_60 rfl rfl hl.1 ⟨rfl, rfl, Nat.le_of_ble_eq_true rfl, Nat.le_of_ble_eq_true rfl⟩ (Nat.le_of_ble_eq_true rfl) ⟨Nat.zero_le _, Nat.zero_le _⟩ ?_
          refine jn0 (m := m) (ls := ls) (rest := [.int (L_X6_listOf_7_3 G x1 k7)]) (if f_X5_counts G k7 = 0 then 0 else 1) 71 (fun J_5 => ?_) ?_
          · refine lv_if_eq (tgt := 70) F.1 F.2.1 dX6_listOf_63 (by decide) (fun c_6 => ?_) (fun c_6 => ?_)
            · refine lv_iconst (v := 0) F.1 F.2.1 dX6_listOf_70 (by decide) ?_
              exact jn_a (if_pos c_6) J_5
            · refine lv_iconst (v := 1) F.1 F.2.1 dX6_listOf_66 (by decide) ?_
              refine lv_goto (tgt := 71) F.1 F.2.1 dX6_listOf_67 (by decide) ?_
              exact jn_a (if_neg c_6) J_5
          refine lv_iadd F.1 F.2.1 dX6_listOf_71 ?_
          refine lv_istore_n (lv' := [(3, .int ((L_X6_listOf_7_3 G x1 k7) + (if f_X5_counts G k7 = 0 then 0 else 1))), (2, .int ((L_X6_listOf_7_2 G x1 k7) + 1)), (5, .ref (AD 10 k7 0)), (4, .int (nI k7)), (0, .ref (AD 0 0 0)), (1, .int x1)]) F.1 F.2.1 dX6_listOf_72 rfl hl (by decide) rfl (fun ls hl => ?_)
          exact J_2 ls (lv_sub hl [2, 3, 0, 1, 4, 5] (by rw [(((if_pos c_3).trans (if_neg c_4)) : (if G 34 k7 = x1 then (if f_X6_isOfLatest G (G 32 k7) = 0 then L_X6_listOf_7_3 G x1 k7 else (L_X6_listOf_7_3 G x1 k7) + (if f_X5_counts G k7 = 0 then 0 else 1)) else L_X6_listOf_7_3 G x1 k7) = (L_X6_listOf_7_3 G x1 k7) + (if f_X5_counts G k7 = 0 then 0 else 1)), (((if_pos c_3).trans (if_neg c_4)) : (if G 34 k7 = x1 then (if f_X6_isOfLatest G (G 32 k7) = 0 then L_X6_listOf_7_2 G x1 k7 else (L_X6_listOf_7_2 G x1 k7) + 1) else L_X6_listOf_7_2 G x1 k7) = (L_X6_listOf_7_2 G x1 k7) + 1)] <;> rfl))
    intro ls hl
    refine lv_iinc (v := nI (k7 + 1)) (lv' := [(4, .int (nI (k7 + 1))), (5, .ref (AD 10 k7 0)), (3, .int (if G 34 k7 = x1 then (if f_X6_isOfLatest G (G 32 k7) = 0 then L_X6_listOf_7_3 G x1 k7 else (L_X6_listOf_7_3 G x1 k7) + (if f_X5_counts G k7 = 0 then 0 else 1)) else L_X6_listOf_7_3 G x1 k7)), (2, .int (if G 34 k7 = x1 then (if f_X6_isOfLatest G (G 32 k7) = 0 then L_X6_listOf_7_2 G x1 k7 else (L_X6_listOf_7_2 G x1 k7) + 1) else L_X6_listOf_7_2 G x1 k7)), (0, .ref (AD 0 0 0)), (1, .int x1)]) F.1 F.2.1 dX6_listOf_73 hl (k := 1) rfl (nI_1 _) (by decide) rfl (fun ls hl => ?_)
    refine lv_goto (tgt := 7) F.1 F.2.1 dX6_listOf_76 (by decide) ?_
    exact ih7 ls hlt7 (lv_sub hl [0, 2, 3, 4, 5] rfl)
  have hkn7 : k7 = (gnV G) := GB_ile rfl (Nat.lt_of_le_of_lt hI.v.2.1 (by decide)) hk7 c_1
  subst hkn7
  refine lv_iload_n F.1 F.2.1 dX6_listOf_79 rfl (lv_at hl 2 rfl) ?_
  refine lv_iload_n F.1 F.2.1 dX6_listOf_80 rfl (lv_at hl 1 rfl) ?_
  refine q_rS (rest := []) F w kS_X6_415 hd_X6_listBy (c_X6_listBy l D cy A _ (L_X6_listOf_7_2 G x1 (gnV G)) (L_X6_listOf_7_3 G x1 (gnV G))) dX6_listOf_81 rfl rfl hl.1 ⟨rfl, rfl, Nat.le_of_ble_eq_true rfl, Nat.le_of_ble_eq_true rfl⟩ (Nat.le_of_ble_eq_true rfl) ⟨Nat.zero_le _, Nat.zero_le _⟩ ?_
  exact q_reti F hr hlk rfl dX6_listOf_84
def v_X6_pointsOfMake_19 (G : GS) (x1 : Int32) (x2 : Int32) : Int32 := if x2 = 2 then 2 else (if x2 = 1 then 1 else 0)
def f_X6_pointsOfMake (G : GS) (x1 : Int32) (x2 : Int32) : Int32 := (if f_X6_isOld G x1 = 0 then 0 else 1) + (v_X6_pointsOfMake_19 G x1 x2)
set_option maxHeartbeats 4000000 in
set_option maxRecDepth 100000 in
theorem c_X6_pointsOfMake (l : Launch) (D : va_G) (cy : Nat → ClassId) (A : Nat → Prop) (μ : MU) (AD : AM) (G : GS) (hM : RepC cy AD G μ) (hI : InvC G) (x1 : Int32) (x2 : Int32) : Met l yX6_pointsOfMake (WS yX6_pointsOfMake cX6_pointsOfMake 4 (Option.some Jvm.ClassFile.FieldType.int)) { frames := 1, cells := 0, slots := 0, locals := 21 } (va_Pc [.ref (AD 0 0 0), .int x1, .int x2] (Wd D cy A μ)) (QcRead (f_X6_pointsOfMake G x1 x2)) 0 0 (fun _ => False) := by
  refine q_met (by decide) (Nat.le_of_ble_eq_true rfl) ?_
  intro p e s m below meth c F w hr hlk hnm ls hl
  have F : CallFix p m c cX6_pointsOfMake 4 s _ BIG RX6 := F
  have hl : lv_has ls 4 [(0, .ref (AD 0 0 0)), (1, .int x1), (2, .int x2)] := hl
  refine lv_iload_n F.1 F.2.1 dX6_pointsOfMake_0 rfl (lv_at hl 2 rfl) ?_
  refine lv_iconst (v := 2) F.1 F.2.1 dX6_pointsOfMake_1 (by decide) ?_
  refine jn0 (m := m) (ls := ls) (rest := []) (if x2 = 2 then 2 else (if x2 = 1 then 1 else 0)) 19 (fun J_1 => ?_) ?_
  · refine lv_icmp_ne (tgt := 9) F.1 F.2.1 dX6_pointsOfMake_2 (by decide) (fun c_2 => ?_) (fun c_2 => ?_)
    · refine lv_iload_n F.1 F.2.1 dX6_pointsOfMake_9 rfl (lv_at hl 2 rfl) ?_
      refine lv_iconst (v := 1) F.1 F.2.1 dX6_pointsOfMake_10 (by decide) ?_
      refine lv_icmp_ne (tgt := 18) F.1 F.2.1 dX6_pointsOfMake_11 (by decide) (fun c_3 => ?_) (fun c_3 => ?_)
      · refine lv_iconst (v := 0) F.1 F.2.1 dX6_pointsOfMake_18 (by decide) ?_
        exact jn_a ((if_neg c_2).trans (if_neg c_3)) J_1
      · refine lv_iconst (v := 1) F.1 F.2.1 dX6_pointsOfMake_14 (by decide) ?_
        refine lv_goto (tgt := 19) F.1 F.2.1 dX6_pointsOfMake_15 (by decide) ?_
        exact jn_a ((if_neg c_2).trans (if_pos c_3)) J_1
    · refine lv_iconst (v := 2) F.1 F.2.1 dX6_pointsOfMake_5 (by decide) ?_
      refine lv_goto (tgt := 19) F.1 F.2.1 dX6_pointsOfMake_6 (by decide) ?_
      exact jn_a (if_pos c_2) J_1
  refine lv_fold (y := v_X6_pointsOfMake_19 G x1 x2) rfl ?_
  refine lv_istore_n (lv' := [(3, .int (v_X6_pointsOfMake_19 G x1 x2)), (0, .ref (AD 0 0 0)), (1, .int x1), (2, .int x2)]) F.1 F.2.1 dX6_pointsOfMake_19 rfl hl (by decide) rfl (fun ls hl => ?_)
  refine lv_aload_n F.1 F.2.1 dX6_pointsOfMake_20 rfl (lv_at hl 1 rfl) ?_
  refine lv_iload_n F.1 F.2.1 dX6_pointsOfMake_21 rfl (lv_at hl 2 rfl) ?_
  refine q_rV (rest := []) F w kV_X6_379 hd_X6_isOld (ci := 7) rfl (c_X6_isOld l D cy A _ AD G hM hI x1) (hM.a0 ⟨by decide, rfl, rfl⟩) dX6_pointsOfMake_22 rfl rfl hl.1 ⟨rfl, rfl, Nat.le_of_ble_eq_true rfl, Nat.le_of_ble_eq_true rfl⟩ (Nat.le_of_ble_eq_true rfl) ⟨Nat.zero_le _, Nat.zero_le _⟩ ?_
  refine jn0 (m := m) (ls := ls) (rest := []) (if f_X6_isOld G x1 = 0 then 0 else 1) 33 (fun J_4 => ?_) ?_
  · refine lv_if_eq (tgt := 32) F.1 F.2.1 dX6_pointsOfMake_25 (by decide) (fun c_5 => ?_) (fun c_5 => ?_)
    · refine lv_iconst (v := 0) F.1 F.2.1 dX6_pointsOfMake_32 (by decide) ?_
      exact jn_a (if_pos c_5) J_4
    · refine lv_iconst (v := 1) F.1 F.2.1 dX6_pointsOfMake_28 (by decide) ?_
      refine lv_goto (tgt := 33) F.1 F.2.1 dX6_pointsOfMake_29 (by decide) ?_
      exact jn_a (if_neg c_5) J_4
  refine lv_iload_n F.1 F.2.1 dX6_pointsOfMake_33 rfl (lv_at hl 0 rfl) ?_
  refine lv_iadd F.1 F.2.1 dX6_pointsOfMake_34 ?_
  exact q_reti F hr hlk rfl dX6_pointsOfMake_35
def v_X6_pointsOfBelonging_25 (G : GS) (x1 : Int32) (x2 : Int32) : Int32 := if f_X6_listOf G x1 = 3 then 2 else (if f_X6_listOf G x1 = 2 then 1 else 0)
def f_X6_pointsOfBelonging (G : GS) (x1 : Int32) (x2 : Int32) : Int32 := (v_X6_pointsOfBelonging_25 G x1 x2) + (if f_X6_isSuspended G x2 = 0 then 0 else 1)
set_option maxHeartbeats 4000000 in
set_option maxRecDepth 100000 in
theorem c_X6_pointsOfBelonging (l : Launch) (D : va_G) (cy : Nat → ClassId) (A : Nat → Prop) (μ : MU) (AD : AM) (G : GS) (hM : RepC cy AD G μ) (hI : InvC G) (x1 : Int32) (x2 : Int32) : Met l yX6_pointsOfBelonging (WS yX6_pointsOfBelonging cX6_pointsOfBelonging 5 (Option.some Jvm.ClassFile.FieldType.int)) { frames := 4, cells := 0, slots := 0, locals := 89 } (va_Pc [.ref (AD 0 0 0), .int x1, .int x2] (Wd D cy A μ)) (QcRead (f_X6_pointsOfBelonging G x1 x2)) 0 0 (fun _ => False) := by
  refine q_met (by decide) (Nat.le_of_ble_eq_true rfl) ?_
  intro p e s m below meth c F w hr hlk hnm ls hl
  have F : CallFix p m c cX6_pointsOfBelonging 5 s _ BIG RX6 := F
  have hl : lv_has ls 5 [(0, .ref (AD 0 0 0)), (1, .int x1), (2, .int x2)] := hl
  refine lv_aload_n F.1 F.2.1 dX6_pointsOfBelonging_0 rfl (lv_at hl 0 rfl) ?_
  refine lv_iload_n F.1 F.2.1 dX6_pointsOfBelonging_1 rfl (lv_at hl 1 rfl) ?_
  refine q_rV (rest := []) F w kV_X6_317 hd_X6_listOf (ci := 7) rfl (c_X6_listOf l D cy A _ AD G hM hI x1) (hM.a0 ⟨by decide, rfl, rfl⟩) dX6_pointsOfBelonging_2 rfl rfl hl.1 ⟨rfl, rfl, Nat.le_of_ble_eq_true rfl, Nat.le_of_ble_eq_true rfl⟩ (Nat.le_of_ble_eq_true rfl) ⟨Nat.zero_le _, Nat.zero_le _⟩ ?_
  refine lv_istore_n (lv' := [(3, .int (f_X6_listOf G x1)), (0, .ref (AD 0 0 0)), (1, .int x1), (2, .int x2)]) F.1 F.2.1 dX6_pointsOfBelonging_5 rfl hl (by decide) rfl (fun ls hl => ?_)
  refine lv_iload_n F.1 F.2.1 dX6_pointsOfBelonging_6 rfl (lv_at hl 0 rfl) ?_
  refine lv_iconst (v := 3) F.1 F.2.1 dX6_pointsOfBelonging_7 (by decide) ?_
  refine jn0 (m := m) (ls := ls) (rest := []) (if f_X6_listOf G x1 = 3 then 2 else (if f_X6_listOf G x1 = 2 then 1 else 0)) 25 (fun J_1 => ?_) ?_
  · refine lv_icmp_ne (tgt := 15) F.1 F.2.1 dX6_pointsOfBelonging_8 (by decide) (fun c_2 => ?_) (fun c_2 => ?_)
    · refine lv_iload_n F.1 F.2.1 dX6_pointsOfBelonging_15 rfl (lv_at hl 0 rfl) ?_
      refine lv_iconst (v := 2) F.1 F.2.1 dX6_pointsOfBelonging_16 (by decide) ?_
      refine lv_icmp_ne (tgt := 24) F.1 F.2.1 dX6_pointsOfBelonging_17 (by decide) (fun c_3 => ?_) (fun c_3 => ?_)
      · refine lv_iconst (v := 0) F.1 F.2.1 dX6_pointsOfBelonging_24 (by decide) ?_
        exact jn_a ((if_neg c_2).trans (if_neg c_3)) J_1
      · refine lv_iconst (v := 1) F.1 F.2.1 dX6_pointsOfBelonging_20 (by decide) ?_
        refine lv_goto (tgt := 25) F.1 F.2.1 dX6_pointsOfBelonging_21 (by decide) ?_
        exact jn_a ((if_neg c_2).trans (if_pos c_3)) J_1
    · refine lv_iconst (v := 2) F.1 F.2.1 dX6_pointsOfBelonging_11 (by decide) ?_
      refine lv_goto (tgt := 25) F.1 F.2.1 dX6_pointsOfBelonging_12 (by decide) ?_
      exact jn_a (if_pos c_2) J_1
  refine lv_fold (y := v_X6_pointsOfBelonging_25 G x1 x2) rfl ?_
  refine lv_istore (lv' := [(4, .int (v_X6_pointsOfBelonging_25 G x1 x2)), (3, .int (f_X6_listOf G x1)), (0, .ref (AD 0 0 0)), (1, .int x1), (2, .int x2)]) F.1 F.2.1 dX6_pointsOfBelonging_25 hl (by decide) rfl (fun ls hl => ?_)
  refine lv_iload F.1 F.2.1 dX6_pointsOfBelonging_27 (lv_at hl 0 rfl) ?_
  refine lv_aload_n F.1 F.2.1 dX6_pointsOfBelonging_29 rfl (lv_at hl 2 rfl) ?_
  refine lv_iload_n F.1 F.2.1 dX6_pointsOfBelonging_30 rfl (lv_at hl 4 rfl) ?_
  refine q_rV (rest := [.int (v_X6_pointsOfBelonging_25 G x1 x2)]) F w kV_X6_112 hd_X6_isSuspended (ci := 7) rfl (c_X6_isSuspended l D cy A _ AD G hM hI x2) (hM.a0 ⟨by decide, rfl, rfl⟩) dX6_pointsOfBelonging_31 rfl rfl hl.1 ⟨rfl, rfl, Nat.le_of_ble_eq_true rfl, Nat.le_of_ble_eq_true rfl⟩ (Nat.le_of_ble_eq_true rfl) ⟨Nat.zero_le _, Nat.zero_le _⟩ ?_
  refine jn0 (m := m) (ls := ls) (rest := [.int (v_X6_pointsOfBelonging_25 G x1 x2)]) (if f_X6_isSuspended G x2 = 0 then 0 else 1) 42 (fun J_4 => ?_) ?_
  · refine lv_if_eq (tgt := 41) F.1 F.2.1 dX6_pointsOfBelonging_34 (by decide) (fun c_5 => ?_) (fun c_5 => ?_)
    · refine lv_iconst (v := 0) F.1 F.2.1 dX6_pointsOfBelonging_41 (by decide) ?_
      exact jn_a (if_pos c_5) J_4
    · refine lv_iconst (v := 1) F.1 F.2.1 dX6_pointsOfBelonging_37 (by decide) ?_
      refine lv_goto (tgt := 42) F.1 F.2.1 dX6_pointsOfBelonging_38 (by decide) ?_
      exact jn_a (if_neg c_5) J_4
  refine lv_iadd F.1 F.2.1 dX6_pointsOfBelonging_42 ?_
  exact q_reti F hr hlk rfl dX6_pointsOfBelonging_43
def L_X6_pointsOf_4_2 (G : GS) (i1 : Nat) : Nat → Int32
  | 0 => 0
  | k4 + 1 => if G 30 k4 = nI i1 then (if f_X6_isOfLatest G (G 32 k4) = 0 then L_X6_pointsOf_4_2 G i1 k4 else (if nI (gnF G k4) ≤ 5 then L_X6_pointsOf_4_2 G i1 k4 else 1)) else L_X6_pointsOf_4_2 G i1 k4
theorem nz_L_X6_pointsOf_4_2 (G : GS) (i1 : Nat) : ∀ n : Nat, nz (L_X6_pointsOf_4_2 G i1 n)
  | 0 => nz0
  | k4 + 1 => (nz_ite (nz_ite (nz_L_X6_pointsOf_4_2 _ _ _) (nz_ite (nz_L_X6_pointsOf_4_2 _ _ _) nz1)) (nz_L_X6_pointsOf_4_2 _ _ _))
def f_X6_pointsOf (G : GS) (i1 : Nat) : Int32 := ((f_X6_pointsOfMake G (G 4 i1) (G 6 i1)) + (f_X6_pointsOfBelonging G (G 7 i1) (G 8 i1))) + (f_X6_pointsOfVisits (L_X6_pointsOf_4_2 G i1 (gnV G)) (f_X6_detentionsThatCount G i1))
set_option maxHeartbeats 4000000 in
set_option maxRecDepth 100000 in
theorem c_X6_pointsOf (l : Launch) (D : va_G) (cy : Nat → ClassId) (A : Nat → Prop) (μ : MU) (AD : AM) (G : GS) (hM : RepC cy AD G μ) (hI : InvC G) (i1 : Nat) (hi1 : i1 < gnS G) : Met l yX6_pointsOf (WS yX6_pointsOf cX6_pointsOf 5 (Option.some Jvm.ClassFile.FieldType.int)) { frames := 5, cells := 0, slots := 0, locals := 113 } (va_Pc [.ref (AD 0 0 0), .ref (AD 6 i1 0)] (Wd D cy A μ)) (QcRead (f_X6_pointsOf G i1)) 0 0 (fun _ => False) := by
  refine q_met (by decide) (Nat.le_of_ble_eq_true rfl) ?_
  intro p e s m below meth c F w hr hlk hnm ls hl
  have F : CallFix p m c cX6_pointsOf 5 s _ BIG RX6 := F
  have hl : lv_has ls 5 [(0, .ref (AD 0 0 0)), (1, .ref (AD 6 i1 0))] := hl
  refine lv_iconst (v := 0) F.1 F.2.1 dX6_pointsOf_0 (by decide) ?_
  refine lv_istore_n (lv' := [(2, .int 0), (0, .ref (AD 0 0 0)), (1, .ref (AD 6 i1 0))]) F.1 F.2.1 dX6_pointsOf_1 rfl hl (by decide) rfl (fun ls hl => ?_)
  refine lv_iconst (v := 0) F.1 F.2.1 dX6_pointsOf_2 (by decide) ?_
  refine lv_istore_n (lv' := [(3, .int 0), (2, .int 0), (0, .ref (AD 0 0 0)), (1, .ref (AD 6 i1 0))]) F.1 F.2.1 dX6_pointsOf_3 rfl hl (by decide) rfl (fun ls hl => ?_)
  refine q_loop (P := fun k4 ls => lv_has ls 5 [(3, .int (nI k4)), (2, .int (L_X6_pointsOf_4_2 G i1 k4)), (0, .ref (AD 0 0 0)), (1, .ref (AD 6 i1 0))]) (gnV G) (fun k4 ls hk4 hl ih4 => ?_) 0 ls (Nat.zero_le _) (lv_cg (lv_sub hl [0, 1, 2, 3] rfl) rfl)
  refine lv_iload_n F.1 F.2.1 dX6_pointsOf_4 rfl (lv_at hl 0 rfl) ?_
  refine lv_aload_n F.1 F.2.1 dX6_pointsOf_5 rfl (lv_at hl 2 rfl) ?_
  refine gf_X6_19 F w (hM.a0 ⟨by decide, rfl, rfl⟩) rfl dX6_pointsOf_6 ?_
  refine q_rV (rest := [.int (nI k4)]) F w kV_X6_58 hd_Jx4a65c_size_8abf5 (ci := 0) rfl (c_size l D cy A _ hM.l3.1) hM.l3.1 dX6_pointsOf_9 rfl rfl hl.1 ⟨rfl, rfl, Nat.le_of_ble_eq_true rfl, Nat.le_of_ble_eq_true rfl⟩ (Nat.le_of_ble_eq_true rfl) ⟨Nat.zero_le _, Nat.zero_le _⟩ ?_
  refine lv_icmp_ge (tgt := 69) F.1 F.2.1 dX6_pointsOf_12 (by decide) (fun c_1 => ?_) (fun c_1 => ?_)
  rotate_left
  · have hlt4 : k4 < (gnV G) := GB_ilt rfl (Nat.lt_of_le_of_lt hI.v.2.1 (by decide)) hk4 c_1
    refine lv_aload_n F.1 F.2.1 dX6_pointsOf_15 rfl (lv_at hl 2 rfl) ?_
    refine gf_X6_19 F w (hM.a0 ⟨by decide, rfl, rfl⟩) rfl dX6_pointsOf_16 ?_
    refine lv_iload_n F.1 F.2.1 dX6_pointsOf_19 rfl (lv_at hl 0 rfl) ?_
    refine q_sVq (rest := []) F w kV_X6_224 hd_Jx4a65c_get_915e3 (ci := 0) rfl (c_get l D cy A _ hM.l3 (show k4 < gnV G by omega) (show gnV G ≤ 600 by have := hI.v.2.1; omega)) hM.l3.1 dX6_pointsOf_20 rfl rfl hl.1 ⟨rfl, rfl, Nat.le_of_ble_eq_true rfl, Nat.le_of_ble_eq_true rfl⟩ (Nat.le_of_ble_eq_true rfl) ⟨Nat.zero_le _, Nat.zero_le _⟩ ?_
    refine q_cast F w wL_X6_179 (ci := 6) rfl (hM.a10 (hI.o10 (show k4 < gnV G by omega))) dX6_pointsOf_23 ?_
    refine lv_astore (lv' := [(4, .ref (AD 10 k4 0)), (3, .int (nI k4)), (2, .int (L_X6_pointsOf_4_2 G i1 k4)), (0, .ref (AD 0 0 0)), (1, .ref (AD 6 i1 0))]) F.1 F.2.1 dX6_pointsOf_26 hl (by decide) rfl (fun ls hl => ?_)
    refine lv_aload F.1 F.2.1 dX6_pointsOf_28 (lv_at hl 0 rfl) ?_
    refine gf_X6_201 F w (hM.a10 (hI.o10 (show k4 < gnV G by omega))) rfl dX6_pointsOf_30 ?_
    refine lv_aload_n F.1 F.2.1 dX6_pointsOf_33 rfl (lv_at hl 4 rfl) ?_
    refine jnl (m := m) 5 [(4, .ref (AD 10 k4 0)), (3, .int (nI k4)), (2, .int (if G 30 k4 = nI i1 then (if f_X6_isOfLatest G (G 32 k4) = 0 then L_X6_pointsOf_4_2 G i1 k4 else (if nI (gnF G k4) ≤ 5 then L_X6_pointsOf_4_2 G i1 k4 else 1)) else L_X6_pointsOf_4_2 G i1 k4)), (0, .ref (AD 0 0 0)), (1, .ref (AD 6 i1 0))] [] 63 (fun J_2 => ?_) ?_
    · refine q_acmp_ne (rx := some (AD 6 (gnO G k4) 0)) (ry := some (AD 6 i1 0)) (P := G 30 k4 = nI i1) (hP := hM.shq hI (show k4 < gnV G by omega) (show i1 < gnS G by omega)) (tgt := 63) F.1 F.2.1 dX6_pointsOf_34 (by decide) (fun c_3 => ?_) (fun c_3 => ?_)
      · exact J_2 ls (lv_sub hl [0, 1, 2, 3, 4] (by rw [((if_neg c_3) : (if G 30 k4 = nI i1 then (if f_X6_isOfLatest G (G 32 k4) = 0 then L_X6_pointsOf_4_2 G i1 k4 else (if nI (gnF G k4) ≤ 5 then L_X6_pointsOf_4_2 G i1 k4 else 1)) else L_X6_pointsOf_4_2 G i1 k4) = L_X6_pointsOf_4_2 G i1 k4)] <;> rfl))
      · refine lv_aload_n F.1 F.2.1 dX6_pointsOf_37 rfl (lv_at hl 3 rfl) ?_
        refine lv_aload F.1 F.2.1 dX6_pointsOf_38 (lv_at hl 0 rfl) ?_
        refine gf_X6_309 F w (hM.a10 (hI.o10 (show k4 < gnV G by omega))) rfl dX6_pointsOf_40 ?_
        refine q_rV (rest := []) F w kV_X6_339 hd_X6_isOfLatest (ci := 7) rfl (c_X6_isOfLatest l D cy A _ AD G hM hI (G 32 k4)) (hM.a0 ⟨by decide, rfl, rfl⟩) dX6_pointsOf_43 rfl rfl hl.1 ⟨rfl, rfl, Nat.le_of_ble_eq_true rfl, Nat.le_of_ble_eq_true rfl⟩ (Nat.le_of_ble_eq_true rfl) ⟨Nat.zero_le _, Nat.zero_le _⟩ ?_
        refine lv_if_eq (tgt := 63) F.1 F.2.1 dX6_pointsOf_46 (by decide) (fun c_4 => ?_) (fun c_4 => ?_)
        · exact J_2 ls (lv_sub hl [0, 1, 2, 3, 4] (by rw [(((if_pos c_3).trans (if_pos c_4)) : (if G 30 k4 = nI i1 then (if f_X6_isOfLatest G (G 32 k4) = 0 then L_X6_pointsOf_4_2 G i1 k4 else (if nI (gnF G k4) ≤ 5 then L_X6_pointsOf_4_2 G i1 k4 else 1)) else L_X6_pointsOf_4_2 G i1 k4) = L_X6_pointsOf_4_2 G i1 k4)] <;> rfl))
        · refine lv_aload F.1 F.2.1 dX6_pointsOf_49 (lv_at hl 0 rfl) ?_
          refine gf_X6_209 F w (hM.a10 (hI.o10 (show k4 < gnV G by omega))) rfl dX6_pointsOf_51 ?_
          refine q_rV (rest := []) F w kV_X6_58 hd_Jx4a65c_size_8abf5 (ci := 0) rfl (c_size l D cy A _ (hM.l11 (hI.mv (show k4 < gnV G by omega))).1) (hM.l11 (hI.mv (show k4 < gnV G by omega))).1 dX6_pointsOf_54 rfl rfl hl.1 ⟨rfl, rfl, Nat.le_of_ble_eq_true rfl, Nat.le_of_ble_eq_true rfl⟩ (Nat.le_of_ble_eq_true rfl) ⟨Nat.zero_le _, Nat.zero_le _⟩ ?_
          refine lv_iconst (v := 5) F.1 F.2.1 dX6_pointsOf_57 (by decide) ?_
          refine lv_icmp_le (tgt := 63) F.1 F.2.1 dX6_pointsOf_58 (by decide) (fun c_5 => ?_) (fun c_5 => ?_)
          · exact J_2 ls (lv_sub hl [0, 1, 2, 3, 4] (by rw [(((if_pos c_3).trans ((if_neg c_4).trans (if_pos c_5))) : (if G 30 k4 = nI i1 then (if f_X6_isOfLatest G (G 32 k4) = 0 then L_X6_pointsOf_4_2 G i1 k4 else (if nI (gnF G k4) ≤ 5 then L_X6_pointsOf_4_2 G i1 k4 else 1)) else L_X6_pointsOf_4_2 G i1 k4) = L_X6_pointsOf_4_2 G i1 k4)] <;> rfl))
          · refine lv_iconst (v := 1) F.1 F.2.1 dX6_pointsOf_61 (by decide) ?_
            refine lv_istore_n (lv' := [(2, .int 1), (4, .ref (AD 10 k4 0)), (3, .int (nI k4)), (0, .ref (AD 0 0 0)), (1, .ref (AD 6 i1 0))]) F.1 F.2.1 dX6_pointsOf_62 rfl hl (by decide) rfl (fun ls hl => ?_)
            exact J_2 ls (lv_sub hl [1, 2, 0, 3, 4] (by rw [(((if_pos c_3).trans ((if_neg c_4).trans (if_neg c_5))) : (if G 30 k4 = nI i1 then (if f_X6_isOfLatest G (G 32 k4) = 0 then L_X6_pointsOf_4_2 G i1 k4 else (if nI (gnF G k4) ≤ 5 then L_X6_pointsOf_4_2 G i1 k4 else 1)) else L_X6_pointsOf_4_2 G i1 k4) = 1)] <;> rfl))
    intro ls hl
    refine lv_iinc (v := nI (k4 + 1)) (lv' := [(3, .int (nI (k4 + 1))), (4, .ref (AD 10 k4 0)), (2, .int (if G 30 k4 = nI i1 then (if f_X6_isOfLatest G (G 32 k4) = 0 then L_X6_pointsOf_4_2 G i1 k4 else (if nI (gnF G k4) ≤ 5 then L_X6_pointsOf_4_2 G i1 k4 else 1)) else L_X6_pointsOf_4_2 G i1 k4)), (0, .ref (AD 0 0 0)), (1, .ref (AD 6 i1 0))]) F.1 F.2.1 dX6_pointsOf_63 hl (k := 1) rfl (nI_1 _) (by decide) rfl (fun ls hl => ?_)
    refine lv_goto (tgt := 4) F.1 F.2.1 dX6_pointsOf_66 (by decide) ?_
    exact ih4 ls hlt4 (lv_sub hl [0, 2, 3, 4] rfl)
  have hkn4 : k4 = (gnV G) := GB_ile rfl (Nat.lt_of_le_of_lt hI.v.2.1 (by decide)) hk4 c_1
  subst hkn4
  refine lv_aload_n F.1 F.2.1 dX6_pointsOf_69 rfl (lv_at hl 2 rfl) ?_
  refine lv_aload_n F.1 F.2.1 dX6_pointsOf_70 rfl (lv_at hl 3 rfl) ?_
  refine gf_X6_342 F w (hM.a6 (hI.o6 (show i1 < gnS G by omega))) rfl dX6_pointsOf_71 ?_
  refine lv_aload_n F.1 F.2.1 dX6_pointsOf_74 rfl (lv_at hl 3 rfl) ?_
  refine gf_X6_345 F w (hM.a6 (hI.o6 (show i1 < gnS G by omega))) rfl dX6_pointsOf_75 ?_
  refine q_rV (rest := []) F w kV_X6_348 hd_X6_pointsOfMake (ci := 7) rfl (c_X6_pointsOfMake l D cy A _ AD G hM hI (G 4 i1) (G 6 i1)) (hM.a0 ⟨by decide, rfl, rfl⟩) dX6_pointsOf_78 rfl rfl hl.1 ⟨rfl, rfl, Nat.le_of_ble_eq_true rfl, Nat.le_of_ble_eq_true rfl⟩ (Nat.le_of_ble_eq_true rfl) ⟨Nat.zero_le _, Nat.zero_le _⟩ ?_
  refine lv_aload_n F.1 F.2.1 dX6_pointsOf_81 rfl (lv_at hl 2 rfl) ?_
  refine lv_aload_n F.1 F.2.1 dX6_pointsOf_82 rfl (lv_at hl 3 rfl) ?_
  refine gf_X6_86 F w (hM.a6 (hI.o6 (show i1 < gnS G by omega))) rfl dX6_pointsOf_83 ?_
  refine lv_aload_n F.1 F.2.1 dX6_pointsOf_86 rfl (lv_at hl 3 rfl) ?_
  refine gf_X6_89 F w (hM.a6 (hI.o6 (show i1 < gnS G by omega))) rfl dX6_pointsOf_87 ?_
  refine q_rV (rest := [.int (f_X6_pointsOfMake G (G 4 i1) (G 6 i1))]) F w kV_X6_352 hd_X6_pointsOfBelonging (ci := 7) rfl (c_X6_pointsOfBelonging l D cy A _ AD G hM hI (G 7 i1) (G 8 i1)) (hM.a0 ⟨by decide, rfl, rfl⟩) dX6_pointsOf_90 rfl rfl hl.1 ⟨rfl, rfl, Nat.le_of_ble_eq_true rfl, Nat.le_of_ble_eq_true rfl⟩ (Nat.le_of_ble_eq_true rfl) ⟨Nat.zero_le _, Nat.zero_le _⟩ ?_
  refine lv_iadd F.1 F.2.1 dX6_pointsOf_93 ?_
  refine lv_iload_n F.1 F.2.1 dX6_pointsOf_94 rfl (lv_at hl 1 rfl) ?_
  refine lv_aload_n F.1 F.2.1 dX6_pointsOf_95 rfl (lv_at hl 2 rfl) ?_
  refine lv_aload_n F.1 F.2.1 dX6_pointsOf_96 rfl (lv_at hl 3 rfl) ?_
  refine q_rV (rest := [.int (L_X6_pointsOf_4_2 G i1 (gnV G)), .int ((f_X6_pointsOfMake G (G 4 i1) (G 6 i1)) + (f_X6_pointsOfBelonging G (G 7 i1) (G 8 i1)))]) F w kV_X6_261 hd_X6_detentionsThatCount (ci := 7) rfl (c_X6_detentionsThatCount l D cy A _ AD G hM hI i1 (show i1 < gnS G by omega)) (hM.a0 ⟨by decide, rfl, rfl⟩) dX6_pointsOf_97 rfl rfl hl.1 ⟨rfl, rfl, Nat.le_of_ble_eq_true rfl, Nat.le_of_ble_eq_true rfl⟩ (Nat.le_of_ble_eq_true rfl) ⟨Nat.zero_le _, Nat.zero_le _⟩ ?_
  refine q_rS (rest := [.int ((f_X6_pointsOfMake G (G 4 i1) (G 6 i1)) + (f_X6_pointsOfBelonging G (G 7 i1) (G 8 i1)))]) F w kS_X6_355 hd_X6_pointsOfVisits (c_X6_pointsOfVisits l D cy A _ (L_X6_pointsOf_4_2 G i1 (gnV G)) (f_X6_detentionsThatCount G i1)) dX6_pointsOf_100 rfl rfl hl.1 ⟨rfl, rfl, Nat.le_of_ble_eq_true rfl, Nat.le_of_ble_eq_true rfl⟩ (Nat.le_of_ble_eq_true rfl) ⟨Nat.zero_le _, Nat.zero_le _⟩ ?_
  refine lv_iadd F.1 F.2.1 dX6_pointsOf_103 ?_
  exact q_reti F hr hlk rfl dX6_pointsOf_104
def L_X6_notesOf_5_3 (G : GS) (i1 : Nat) (x1 : Int32) (x2 : Int32) : Nat → Int32
  | 0 => 0
  | k5 + 1 => if G 46 (514 * i1 + k5) = x1 then (if G 47 (514 * i1 + k5) = x2 then (L_X6_notesOf_5_3 G i1 x1 x2 k5) + 1 else L_X6_notesOf_5_3 G i1 x1 x2 k5) else L_X6_notesOf_5_3 G i1 x1 x2 k5
def f_X6_notesOf (G : GS) (i1 : Nat) (x1 : Int32) (x2 : Int32) : Int32 := L_X6_notesOf_5_3 G i1 x1 x2 (gnN G i1)
set_option maxHeartbeats 4000000 in
set_option maxRecDepth 100000 in
theorem c_X6_notesOf (l : Launch) (D : va_G) (cy : Nat → ClassId) (A : Nat → Prop) (μ : MU) (AD : AM) (G : GS) (hM : RepC cy AD G μ) (hI : InvC G) (i1 : Nat) (x1 : Int32) (x2 : Int32) (hi1 : i1 < gnS G) : Met l yX6_notesOf (WS yX6_notesOf cX6_notesOf 6 (Option.some Jvm.ClassFile.FieldType.int)) { frames := 3, cells := 0, slots := 0, locals := 64 } (va_Pc [.ref (AD 8 i1 0), .int x1, .int x2] (Wd D cy A μ)) (QcRead (f_X6_notesOf G i1 x1 x2)) 0 0 (fun _ => False) := by
  refine q_met (by decide) (Nat.le_of_ble_eq_true rfl) ?_
  intro p e s m below meth c F w hr hlk hnm ls hl
  have F : CallFix p m c cX6_notesOf 6 s _ BIG RX6 := F
  have hl : lv_has ls 6 [(0, .ref (AD 8 i1 0)), (1, .int x1), (2, .int x2)] := hl
  refine lv_iconst (v := 0) F.1 F.2.1 dX6_notesOf_0 (by decide) ?_
  refine lv_istore_n (lv' := [(3, .int 0), (0, .ref (AD 8 i1 0)), (1, .int x1), (2, .int x2)]) F.1 F.2.1 dX6_notesOf_1 rfl hl (by decide) rfl (fun ls hl => ?_)
  refine lv_iconst (v := 0) F.1 F.2.1 dX6_notesOf_2 (by decide) ?_
  refine lv_istore (lv' := [(4, .int 0), (3, .int 0), (0, .ref (AD 8 i1 0)), (1, .int x1), (2, .int x2)]) F.1 F.2.1 dX6_notesOf_3 hl (by decide) rfl (fun ls hl => ?_)
  refine q_loop (P := fun k5 ls => lv_has ls 6 [(4, .int (nI k5)), (3, .int (L_X6_notesOf_5_3 G i1 x1 x2 k5)), (0, .ref (AD 8 i1 0)), (1, .int x1), (2, .int x2)]) (gnN G i1) (fun k5 ls hk5 hl ih5 => ?_) 0 ls (Nat.zero_le _) (lv_cg (lv_sub hl [0, 1, 2, 3, 4] rfl) rfl)
  refine lv_iload F.1 F.2.1 dX6_notesOf_5 (lv_at hl 0 rfl) ?_
  refine lv_aload_n F.1 F.2.1 dX6_notesOf_7 rfl (lv_at hl 2 rfl) ?_
  refine q_rV (rest := [.int (nI k5)]) F w kV_X6_58 hd_Jx4a65c_size_8abf5 (ci := 0) rfl (c_size l D cy A _ (hM.l8 (hI.ms (show i1 < gnS G by omega))).1) (hM.l8 (hI.ms (show i1 < gnS G by omega))).1 dX6_notesOf_8 rfl rfl hl.1 ⟨rfl, rfl, Nat.le_of_ble_eq_true rfl, Nat.le_of_ble_eq_true rfl⟩ (Nat.le_of_ble_eq_true rfl) ⟨Nat.zero_le _, Nat.zero_le _⟩ ?_
  refine lv_icmp_ge (tgt := 52) F.1 F.2.1 dX6_notesOf_11 (by decide) (fun c_1 => ?_) (fun c_1 => ?_)
  rotate_left
  · have hlt5 : k5 < (gnN G i1) := GB_ilt rfl (Nat.lt_of_le_of_lt (hI.n hi1).2.1 (by decide)) hk5 c_1
    refine lv_aload_n F.1 F.2.1 dX6_notesOf_14 rfl (lv_at hl 2 rfl) ?_
    refine lv_iload F.1 F.2.1 dX6_notesOf_15 (lv_at hl 0 rfl) ?_
    refine q_sVq (rest := []) F w kV_X6_224 hd_Jx4a65c_get_915e3 (ci := 0) rfl (c_get l D cy A _ (hM.l8 (hI.ms (show i1 < gnS G by omega))) (show k5 < gnN G i1 by omega) (show gnN G i1 ≤ 600 by have := (hI.n (show i1 < gnS G by omega)).2.1; omega)) (hM.l8 (hI.ms (show i1 < gnS G by omega))).1 dX6_notesOf_17 rfl rfl hl.1 ⟨rfl, rfl, Nat.le_of_ble_eq_true rfl, Nat.le_of_ble_eq_true rfl⟩ (Nat.le_of_ble_eq_true rfl) ⟨Nat.zero_le _, Nat.zero_le _⟩ ?_
    refine q_cast F w wL_X6_69 (ci := 3) rfl (hM.a14 (hI.o14 (show i1 < gnS G by omega) (show k5 < gnN G i1 by omega))) dX6_notesOf_20 ?_
    refine lv_astore (lv' := [(5, .ref (AD 14 i1 k5)), (4, .int (nI k5)), (3, .int (L_X6_notesOf_5_3 G i1 x1 x2 k5)), (0, .ref (AD 8 i1 0)), (1, .int x1), (2, .int x2)]) F.1 F.2.1 dX6_notesOf_23 hl (by decide) rfl (fun ls hl => ?_)
    refine lv_aload F.1 F.2.1 dX6_notesOf_25 (lv_at hl 0 rfl) ?_
    refine gf_X6_359 F w (hM.a14 (hI.o14 (show i1 < gnS G by omega) (show k5 < gnN G i1 by omega))) rfl dX6_notesOf_27 ?_
    refine lv_iload_n F.1 F.2.1 dX6_notesOf_30 rfl (lv_at hl 4 rfl) ?_
    refine jnl (m := m) 6 [(5, .ref (AD 14 i1 k5)), (4, .int (nI k5)), (3, .int (if G 46 (514 * i1 + k5) = x1 then (if G 47 (514 * i1 + k5) = x2 then (L_X6_notesOf_5_3 G i1 x1 x2 k5) + 1 else L_X6_notesOf_5_3 G i1 x1 x2 k5) else L_X6_notesOf_5_3 G i1 x1 x2 k5)), (0, .ref (AD 8 i1 0)), (1, .int x1), (2, .int x2)] [] 46 (fun J_2 => ?_) ?_
    · refine lv_icmp_ne (tgt := 46) F.1 F.2.1 dX6_notesOf_31 (by decide) (fun c_3 => ?_) (fun c_3 => ?_)
      · exact J_2 ls (lv_sub hl [0, 1, 2, 3, 4, 5] (by rw [((if_neg c_3) : (if G 46 (514 * i1 + k5) = x1 then (if G 47 (514 * i1 + k5) = x2 then (L_X6_notesOf_5_3 G i1 x1 x2 k5) + 1 else L_X6_notesOf_5_3 G i1 x1 x2 k5) else L_X6_notesOf_5_3 G i1 x1 x2 k5) = L_X6_notesOf_5_3 G i1 x1 x2 k5)] <;> rfl))
      · refine lv_aload F.1 F.2.1 dX6_notesOf_34 (lv_at hl 0 rfl) ?_
        refine gf_X6_368 F w (hM.a14 (hI.o14 (show i1 < gnS G by omega) (show k5 < gnN G i1 by omega))) rfl dX6_notesOf_36 ?_
        refine lv_iload_n F.1 F.2.1 dX6_notesOf_39 rfl (lv_at hl 5 rfl) ?_
        refine lv_icmp_ne (tgt := 46) F.1 F.2.1 dX6_notesOf_40 (by decide) (fun c_4 => ?_) (fun c_4 => ?_)
        · exact J_2 ls (lv_sub hl [0, 1, 2, 3, 4, 5] (by rw [(((if_pos c_3).trans (if_neg c_4)) : (if G 46 (514 * i1 + k5) = x1 then (if G 47 (514 * i1 + k5) = x2 then (L_X6_notesOf_5_3 G i1 x1 x2 k5) + 1 else L_X6_notesOf_5_3 G i1 x1 x2 k5) else L_X6_notesOf_5_3 G i1 x1 x2 k5) = L_X6_notesOf_5_3 G i1 x1 x2 k5)] <;> rfl))
        · refine lv_iinc (v := (L_X6_notesOf_5_3 G i1 x1 x2 k5) + 1) (lv' := [(3, .int ((L_X6_notesOf_5_3 G i1 x1 x2 k5) + 1)), (5, .ref (AD 14 i1 k5)), (4, .int (nI k5)), (0, .ref (AD 8 i1 0)), (1, .int x1), (2, .int x2)]) F.1 F.2.1 dX6_notesOf_43 hl (k := 2) rfl rfl (by decide) rfl (fun ls hl => ?_)
          exact J_2 ls (lv_sub hl [1, 2, 0, 3, 4, 5] (by rw [(((if_pos c_3).trans (if_pos c_4)) : (if G 46 (514 * i1 + k5) = x1 then (if G 47 (514 * i1 + k5) = x2 then (L_X6_notesOf_5_3 G i1 x1 x2 k5) + 1 else L_X6_notesOf_5_3 G i1 x1 x2 k5) else L_X6_notesOf_5_3 G i1 x1 x2 k5) = (L_X6_notesOf_5_3 G i1 x1 x2 k5) + 1)] <;> rfl))
    intro ls hl
    refine lv_iinc (v := nI (k5 + 1)) (lv' := [(4, .int (nI (k5 + 1))), (5, .ref (AD 14 i1 k5)), (3, .int (if G 46 (514 * i1 + k5) = x1 then (if G 47 (514 * i1 + k5) = x2 then (L_X6_notesOf_5_3 G i1 x1 x2 k5) + 1 else L_X6_notesOf_5_3 G i1 x1 x2 k5) else L_X6_notesOf_5_3 G i1 x1 x2 k5)), (0, .ref (AD 8 i1 0)), (1, .int x1), (2, .int x2)]) F.1 F.2.1 dX6_notesOf_46 hl (k := 1) rfl (nI_1 _) (by decide) rfl (fun ls hl => ?_)
    refine lv_goto (tgt := 5) F.1 F.2.1 dX6_notesOf_49 (by decide) ?_
    exact ih5 ls hlt5 (lv_sub hl [0, 2, 3, 4, 5] rfl)
  have hkn5 : k5 = (gnN G i1) := GB_ile rfl (Nat.lt_of_le_of_lt (hI.n hi1).2.1 (by decide)) hk5 c_1
  subst hkn5
  refine lv_iload_n F.1 F.2.1 dX6_notesOf_52 rfl (lv_at hl 1 rfl) ?_
  exact q_reti F hr hlk rfl dX6_notesOf_53
def f_X6_countsByFile (G : GS) (i1 : Nat) (x1 : Int32) : Int32 := if f_X6_notesOf G i1 4 x1 ≤ 0 then 0 else (if 2 ≤ f_X6_notesOf G i1 5 x1 then 0 else 1)
theorem nz_f_X6_countsByFile (G : GS) (i1 : Nat) (x1 : Int32) : nz (f_X6_countsByFile G i1 x1) := (nz_ite nz0 (nz_ite nz0 nz1))
set_option maxHeartbeats 4000000 in
set_option maxRecDepth 100000 in
theorem c_X6_countsByFile (l : Launch) (D : va_G) (cy : Nat → ClassId) (A : Nat → Prop) (μ : MU) (AD : AM) (G : GS) (hM : RepC cy AD G μ) (hI : InvC G) (i1 : Nat) (x1 : Int32) (hi1 : i1 < gnS G) : Met l yX6_countsByFile (WS yX6_countsByFile cX6_countsByFile 2 (Option.some Jvm.ClassFile.FieldType.boolean)) { frames := 4, cells := 0, slots := 0, locals := 89 } (va_Pc [.ref (AD 8 i1 0), .int x1] (Wd D cy A μ)) (QcRead (f_X6_countsByFile G i1 x1)) 0 0 (fun _ => False) := by
  refine q_met (by decide) (Nat.le_of_ble_eq_true rfl) ?_
  intro p e s m below meth c F w hr hlk hnm ls hl
  have F : CallFix p m c cX6_countsByFile 2 s _ BIG RX6 := F
  have hl : lv_has ls 2 [(0, .ref (AD 8 i1 0)), (1, .int x1)] := hl
  refine lv_aload_n F.1 F.2.1 dX6_countsByFile_0 rfl (lv_at hl 0 rfl) ?_
  refine lv_iconst (v := 4) F.1 F.2.1 dX6_countsByFile_1 (by decide) ?_
  refine lv_iload_n F.1 F.2.1 dX6_countsByFile_2 rfl (lv_at hl 1 rfl) ?_
  refine q_rS (rest := []) F w kS_X6_371 hd_X6_notesOf (c_X6_notesOf l D cy A _ AD G hM hI i1 4 x1 (show i1 < gnS G by omega)) dX6_countsByFile_3 rfl rfl hl.1 ⟨rfl, rfl, Nat.le_of_ble_eq_true rfl, Nat.le_of_ble_eq_true rfl⟩ (Nat.le_of_ble_eq_true rfl) ⟨Nat.zero_le _, Nat.zero_le _⟩ ?_
  refine jn0 (m := m) (ls := ls) (rest := []) (if f_X6_notesOf G i1 4 x1 ≤ 0 then 0 else (if 2 ≤ f_X6_notesOf G i1 5 x1 then 0 else 1)) 24 (fun J_1 => ?_) ?_
  · refine lv_if_le (tgt := 23) F.1 F.2.1 dX6_countsByFile_6 (by decide) (fun c_2 => ?_) (fun c_2 => ?_)
    · refine lv_iconst (v := 0) F.1 F.2.1 dX6_countsByFile_23 (by decide) ?_
      exact jn_a (if_pos c_2) J_1
    · refine lv_aload_n F.1 F.2.1 dX6_countsByFile_9 rfl (lv_at hl 0 rfl) ?_
      refine lv_iconst (v := 5) F.1 F.2.1 dX6_countsByFile_10 (by decide) ?_
      refine lv_iload_n F.1 F.2.1 dX6_countsByFile_11 rfl (lv_at hl 1 rfl) ?_
      refine q_rS (rest := []) F w kS_X6_371 hd_X6_notesOf (c_X6_notesOf l D cy A _ AD G hM hI i1 5 x1 (show i1 < gnS G by omega)) dX6_countsByFile_12 rfl rfl hl.1 ⟨rfl, rfl, Nat.le_of_ble_eq_true rfl, Nat.le_of_ble_eq_true rfl⟩ (Nat.le_of_ble_eq_true rfl) ⟨Nat.zero_le _, Nat.zero_le _⟩ ?_
      refine lv_iconst (v := 2) F.1 F.2.1 dX6_countsByFile_15 (by decide) ?_
      refine lv_icmp_ge (tgt := 23) F.1 F.2.1 dX6_countsByFile_16 (by decide) (fun c_3 => ?_) (fun c_3 => ?_)
      · refine lv_iconst (v := 0) F.1 F.2.1 dX6_countsByFile_23 (by decide) ?_
        exact jn_a ((if_neg c_2).trans (if_pos c_3)) J_1
      · refine lv_iconst (v := 1) F.1 F.2.1 dX6_countsByFile_19 (by decide) ?_
        refine lv_goto (tgt := 24) F.1 F.2.1 dX6_countsByFile_20 (by decide) ?_
        exact jn_a ((if_neg c_2).trans (if_neg c_3)) J_1
  exact q_retz F hr hlk rfl (nz_ite nz0 (nz_ite nz0 nz1)) dX6_countsByFile_24
def v_X6_pointsByFile_82 (G : GS) (i1 : Nat) (k13 : Nat) : Int32 := f_X6_pointsOfBelonging G (G 48 (514 * i1 + k13)) (G 49 (514 * i1 + k13))
def v_X6_pointsByFile_55 (G : GS) (i1 : Nat) (k13 : Nat) : Int32 := f_X6_pointsOfMake G (G 48 (514 * i1 + k13)) (G 49 (514 * i1 + k13))
def L_X6_pointsByFile_13_5 (G : GS) (i1 : Nat) : Nat → Int32
  | 0 => 0
  | k13 + 1 => if G 46 (514 * i1 + k13) = 0 then L_X6_pointsByFile_13_5 G i1 k13 else (if G 46 (514 * i1 + k13) = 1 then L_X6_pointsByFile_13_5 G i1 k13 else (if G 46 (514 * i1 + k13) = 2 then (if f_X6_isOfLatest G (G 48 (514 * i1 + k13)) = 0 then L_X6_pointsByFile_13_5 G i1 k13 else if L_X6_pointsByFile_13_5 G i1 k13 = 0 then (if f_X6_notesOf G i1 3 (G 47 (514 * i1 + k13)) ≤ 5 then 0 else 1) else 1) else L_X6_pointsByFile_13_5 G i1 k13))
theorem nz_L_X6_pointsByFile_13_5 (G : GS) (i1 : Nat) : ∀ n : Nat, nz (L_X6_pointsByFile_13_5 G i1 n)
  | 0 => nz0
  | k13 + 1 => (nz_ite (nz_L_X6_pointsByFile_13_5 _ _ _) (nz_ite (nz_L_X6_pointsByFile_13_5 _ _ _) (nz_ite (nz_ite (nz_L_X6_pointsByFile_13_5 _ _ _) (nz_ite (nz_ite nz0 nz1) nz1)) (nz_L_X6_pointsByFile_13_5 _ _ _))))
def L_X6_pointsByFile_13_4 (G : GS) (i1 : Nat) : Nat → Int32
  | 0 => 0
  | k13 + 1 => if G 46 (514 * i1 + k13) = 0 then L_X6_pointsByFile_13_4 G i1 k13 else (if G 46 (514 * i1 + k13) = 1 then L_X6_pointsByFile_13_4 G i1 k13 else (if G 46 (514 * i1 + k13) = 2 then (if f_X6_isOfLatest G (G 48 (514 * i1 + k13)) = 0 then L_X6_pointsByFile_13_4 G i1 k13 else (L_X6_pointsByFile_13_4 G i1 k13) + (if f_X6_countsByFile G i1 (G 47 (514 * i1 + k13)) = 0 then 0 else 1)) else L_X6_pointsByFile_13_4 G i1 k13))
def L_X6_pointsByFile_13_3 (G : GS) (i1 : Nat) : Nat → Int32
  | 0 => 0
  | k13 + 1 => if G 46 (514 * i1 + k13) = 0 then L_X6_pointsByFile_13_3 G i1 k13 else (if G 46 (514 * i1 + k13) = 1 then v_X6_pointsByFile_82 G i1 k13 else (if G 46 (514 * i1 + k13) = 2 then (if f_X6_isOfLatest G (G 48 (514 * i1 + k13)) = 0 then L_X6_pointsByFile_13_3 G i1 k13 else L_X6_pointsByFile_13_3 G i1 k13) else L_X6_pointsByFile_13_3 G i1 k13))
def L_X6_pointsByFile_13_2 (G : GS) (i1 : Nat) : Nat → Int32
  | 0 => 0
  | k13 + 1 => if G 46 (514 * i1 + k13) = 0 then v_X6_pointsByFile_55 G i1 k13 else (if G 46 (514 * i1 + k13) = 1 then L_X6_pointsByFile_13_2 G i1 k13 else (if G 46 (514 * i1 + k13) = 2 then (if f_X6_isOfLatest G (G 48 (514 * i1 + k13)) = 0 then L_X6_pointsByFile_13_2 G i1 k13 else L_X6_pointsByFile_13_2 G i1 k13) else L_X6_pointsByFile_13_2 G i1 k13))
def f_X6_pointsByFile (G : GS) (i1 : Nat) : Int32 := ((L_X6_pointsByFile_13_2 G i1 (gnN G i1)) + (L_X6_pointsByFile_13_3 G i1 (gnN G i1))) + (f_X6_pointsOfVisits (L_X6_pointsByFile_13_5 G i1 (gnN G i1)) (L_X6_pointsByFile_13_4 G i1 (gnN G i1)))
set_option maxHeartbeats 4000000 in
set_option maxRecDepth 100000 in
theorem c_X6_pointsByFile (l : Launch) (D : va_G) (cy : Nat → ClassId) (A : Nat → Prop) (μ : MU) (AD : AM) (G : GS) (hM : RepC cy AD G μ) (hI : InvC G) (i1 : Nat) (hi1 : i1 < gnS G) : Met l yX6_pointsByFile (WS yX6_pointsByFile cX6_pointsByFile 8 (Option.some Jvm.ClassFile.FieldType.int)) { frames := 5, cells := 0, slots := 0, locals := 113 } (va_Pc [.ref (AD 0 0 0), .ref (AD 8 i1 0)] (Wd D cy A μ)) (QcRead (f_X6_pointsByFile G i1)) 0 0 (fun _ => False) := by
  refine q_met (by decide) (Nat.le_of_ble_eq_true rfl) ?_
  intro p e s m below meth c F w hr hlk hnm ls hl
  have F : CallFix p m c cX6_pointsByFile 8 s _ BIG RX6 := F
  have hl : lv_has ls 8 [(0, .ref (AD 0 0 0)), (1, .ref (AD 8 i1 0))] := hl
  refine lv_iconst (v := 0) F.1 F.2.1 dX6_pointsByFile_0 (by decide) ?_
  refine lv_istore_n (lv' := [(2, .int 0), (0, .ref (AD 0 0 0)), (1, .ref (AD 8 i1 0))]) F.1 F.2.1 dX6_pointsByFile_1 rfl hl (by decide) rfl (fun ls hl => ?_)
  refine lv_iconst (v := 0) F.1 F.2.1 dX6_pointsByFile_2 (by decide) ?_
  refine lv_istore_n (lv' := [(3, .int 0), (2, .int 0), (0, .ref (AD 0 0 0)), (1, .ref (AD 8 i1 0))]) F.1 F.2.1 dX6_pointsByFile_3 rfl hl (by decide) rfl (fun ls hl => ?_)
  refine lv_iconst (v := 0) F.1 F.2.1 dX6_pointsByFile_4 (by decide) ?_
  refine lv_istore (lv' := [(4, .int 0), (3, .int 0), (2, .int 0), (0, .ref (AD 0 0 0)), (1, .ref (AD 8 i1 0))]) F.1 F.2.1 dX6_pointsByFile_5 hl (by decide) rfl (fun ls hl => ?_)
  refine lv_iconst (v := 0) F.1 F.2.1 dX6_pointsByFile_7 (by decide) ?_
  refine lv_istore (lv' := [(5, .int 0), (4, .int 0), (3, .int 0), (2, .int 0), (0, .ref (AD 0 0 0)), (1, .ref (AD 8 i1 0))]) F.1 F.2.1 dX6_pointsByFile_8 hl (by decide) rfl (fun ls hl => ?_)
  refine lv_iconst (v := 0) F.1 F.2.1 dX6_pointsByFile_10 (by decide) ?_
  refine lv_istore (lv' := [(6, .int 0), (5, .int 0), (4, .int 0), (3, .int 0), (2, .int 0), (0, .ref (AD 0 0 0)), (1, .ref (AD 8 i1 0))]) F.1 F.2.1 dX6_pointsByFile_11 hl (by decide) rfl (fun ls hl => ?_)
  refine q_loop (P := fun k13 ls => lv_has ls 8 [(6, .int (nI k13)), (5, .int (L_X6_pointsByFile_13_5 G i1 k13)), (4, .int (L_X6_pointsByFile_13_4 G i1 k13)), (3, .int (L_X6_pointsByFile_13_3 G i1 k13)), (2, .int (L_X6_pointsByFile_13_2 G i1 k13)), (0, .ref (AD 0 0 0)), (1, .ref (AD 8 i1 0))]) (gnN G i1) (fun k13 ls hk13 hl ih13 => ?_) 0 ls (Nat.zero_le _) (lv_cg (lv_sub hl [0, 1, 2, 3, 4, 5, 6] rfl) rfl)
  refine lv_iload F.1 F.2.1 dX6_pointsByFile_13 (lv_at hl 0 rfl) ?_
  refine lv_aload_n F.1 F.2.1 dX6_pointsByFile_15 rfl (lv_at hl 6 rfl) ?_
  refine q_rV (rest := [.int (nI k13)]) F w kV_X6_58 hd_Jx4a65c_size_8abf5 (ci := 0) rfl (c_size l D cy A _ (hM.l8 (hI.ms (show i1 < gnS G by omega))).1) (hM.l8 (hI.ms (show i1 < gnS G by omega))).1 dX6_pointsByFile_16 rfl rfl hl.1 ⟨rfl, rfl, Nat.le_of_ble_eq_true rfl, Nat.le_of_ble_eq_true rfl⟩ (Nat.le_of_ble_eq_true rfl) ⟨Nat.zero_le _, Nat.zero_le _⟩ ?_
  refine lv_icmp_ge (tgt := 161) F.1 F.2.1 dX6_pointsByFile_19 (by decide) (fun c_1 => ?_) (fun c_1 => ?_)
  rotate_left
  · have hlt13 : k13 < (gnN G i1) := GB_ilt rfl (Nat.lt_of_le_of_lt (hI.n hi1).2.1 (by decide)) hk13 c_1
    refine lv_aload_n F.1 F.2.1 dX6_pointsByFile_22 rfl (lv_at hl 6 rfl) ?_
    refine lv_iload F.1 F.2.1 dX6_pointsByFile_23 (lv_at hl 0 rfl) ?_
    refine q_sVq (rest := []) F w kV_X6_224 hd_Jx4a65c_get_915e3 (ci := 0) rfl (c_get l D cy A _ (hM.l8 (hI.ms (show i1 < gnS G by omega))) (show k13 < gnN G i1 by omega) (show gnN G i1 ≤ 600 by have := (hI.n (show i1 < gnS G by omega)).2.1; omega)) (hM.l8 (hI.ms (show i1 < gnS G by omega))).1 dX6_pointsByFile_25 rfl rfl hl.1 ⟨rfl, rfl, Nat.le_of_ble_eq_true rfl, Nat.le_of_ble_eq_true rfl⟩ (Nat.le_of_ble_eq_true rfl) ⟨Nat.zero_le _, Nat.zero_le _⟩ ?_
    refine q_cast F w wL_X6_69 (ci := 3) rfl (hM.a14 (hI.o14 (show i1 < gnS G by omega) (show k13 < gnN G i1 by omega))) dX6_pointsByFile_28 ?_
    refine lv_astore (lv' := [(7, .ref (AD 14 i1 k13)), (6, .int (nI k13)), (5, .int (L_X6_pointsByFile_13_5 G i1 k13)), (4, .int (L_X6_pointsByFile_13_4 G i1 k13)), (3, .int (L_X6_pointsByFile_13_3 G i1 k13)), (2, .int (L_X6_pointsByFile_13_2 G i1 k13)), (0, .ref (AD 0 0 0)), (1, .ref (AD 8 i1 0))]) F.1 F.2.1 dX6_pointsByFile_31 hl (by decide) rfl (fun ls hl => ?_)
    refine lv_aload F.1 F.2.1 dX6_pointsByFile_33 (lv_at hl 0 rfl) ?_
    refine gf_X6_359 F w (hM.a14 (hI.o14 (show i1 < gnS G by omega) (show k13 < gnN G i1 by omega))) rfl dX6_pointsByFile_35 ?_
    refine jnl (m := m) 8 [(7, .ref (AD 14 i1 k13)), (6, .int (nI k13)), (5, .int (if G 46 (514 * i1 + k13) = 0 then L_X6_pointsByFile_13_5 G i1 k13 else (if G 46 (514 * i1 + k13) = 1 then L_X6_pointsByFile_13_5 G i1 k13 else (if G 46 (514 * i1 + k13) = 2 then (if f_X6_isOfLatest G (G 48 (514 * i1 + k13)) = 0 then L_X6_pointsByFile_13_5 G i1 k13 else if L_X6_pointsByFile_13_5 G i1 k13 = 0 then (if f_X6_notesOf G i1 3 (G 47 (514 * i1 + k13)) ≤ 5 then 0 else 1) else 1) else L_X6_pointsByFile_13_5 G i1 k13)))), (4, .int (if G 46 (514 * i1 + k13) = 0 then L_X6_pointsByFile_13_4 G i1 k13 else (if G 46 (514 * i1 + k13) = 1 then L_X6_pointsByFile_13_4 G i1 k13 else (if G 46 (514 * i1 + k13) = 2 then (if f_X6_isOfLatest G (G 48 (514 * i1 + k13)) = 0 then L_X6_pointsByFile_13_4 G i1 k13 else (L_X6_pointsByFile_13_4 G i1 k13) + (if f_X6_countsByFile G i1 (G 47 (514 * i1 + k13)) = 0 then 0 else 1)) else L_X6_pointsByFile_13_4 G i1 k13)))), (3, .int (if G 46 (514 * i1 + k13) = 0 then L_X6_pointsByFile_13_3 G i1 k13 else (if G 46 (514 * i1 + k13) = 1 then v_X6_pointsByFile_82 G i1 k13 else (if G 46 (514 * i1 + k13) = 2 then (if f_X6_isOfLatest G (G 48 (514 * i1 + k13)) = 0 then L_X6_pointsByFile_13_3 G i1 k13 else L_X6_pointsByFile_13_3 G i1 k13) else L_X6_pointsByFile_13_3 G i1 k13)))), (2, .int (if G 46 (514 * i1 + k13) = 0 then v_X6_pointsByFile_55 G i1 k13 else (if G 46 (514 * i1 + k13) = 1 then L_X6_pointsByFile_13_2 G i1 k13 else (if G 46 (514 * i1 + k13) = 2 then (if f_X6_isOfLatest G (G 48 (514 * i1 + k13)) = 0 then L_X6_pointsByFile_13_2 G i1 k13 else L_X6_pointsByFile_13_2 G i1 k13) else L_X6_pointsByFile_13_2 G i1 k13)))), (0, .ref (AD 0 0 0)), (1, .ref (AD 8 i1 0))] [] 155 (fun J_2 => ?_) ?_
    · refine lv_if_ne (tgt := 59) F.1 F.2.1 dX6_pointsByFile_38 (by decide) (fun c_3 => ?_) (fun c_3 => ?_)
      · refine lv_aload F.1 F.2.1 dX6_pointsByFile_59 (lv_at hl 0 rfl) ?_
        refine gf_X6_359 F w (hM.a14 (hI.o14 (show i1 < gnS G by omega) (show k13 < gnN G i1 by omega))) rfl dX6_pointsByFile_61 ?_
        refine lv_iconst (v := 1) F.1 F.2.1 dX6_pointsByFile_64 (by decide) ?_
        refine lv_icmp_ne (tgt := 86) F.1 F.2.1 dX6_pointsByFile_65 (by decide) (fun c_4 => ?_) (fun c_4 => ?_)
        · refine lv_aload F.1 F.2.1 dX6_pointsByFile_86 (lv_at hl 0 rfl) ?_
          refine gf_X6_359 F w (hM.a14 (hI.o14 (show i1 < gnS G by omega) (show k13 < gnN G i1 by omega))) rfl dX6_pointsByFile_88 ?_
          refine lv_iconst (v := 2) F.1 F.2.1 dX6_pointsByFile_91 (by decide) ?_
          refine lv_icmp_ne (tgt := 155) F.1 F.2.1 dX6_pointsByFile_92 (by decide) (fun c_5 => ?_) (fun c_5 => ?_)
          · exact J_2 ls (lv_sub hl [0, 1, 2, 3, 4, 5, 6, 7] (by rw [(((if_neg c_3).trans ((if_neg c_4).trans (if_neg c_5))) : (if G 46 (514 * i1 + k13) = 0 then L_X6_pointsByFile_13_5 G i1 k13 else (if G 46 (514 * i1 + k13) = 1 then L_X6_pointsByFile_13_5 G i1 k13 else (if G 46 (514 * i1 + k13) = 2 then (if f_X6_isOfLatest G (G 48 (514 * i1 + k13)) = 0 then L_X6_pointsByFile_13_5 G i1 k13 else if L_X6_pointsByFile_13_5 G i1 k13 = 0 then (if f_X6_notesOf G i1 3 (G 47 (514 * i1 + k13)) ≤ 5 then 0 else 1) else 1) else L_X6_pointsByFile_13_5 G i1 k13))) = L_X6_pointsByFile_13_5 G i1 k13), (((if_neg c_3).trans ((if_neg c_4).trans (if_neg c_5))) : (if G 46 (514 * i1 + k13) = 0 then L_X6_pointsByFile_13_4 G i1 k13 else (if G 46 (514 * i1 + k13) = 1 then L_X6_pointsByFile_13_4 G i1 k13 else (if G 46 (514 * i1 + k13) = 2 then (if f_X6_isOfLatest G (G 48 (514 * i1 + k13)) = 0 then L_X6_pointsByFile_13_4 G i1 k13 else (L_X6_pointsByFile_13_4 G i1 k13) + (if f_X6_countsByFile G i1 (G 47 (514 * i1 + k13)) = 0 then 0 else 1)) else L_X6_pointsByFile_13_4 G i1 k13))) = L_X6_pointsByFile_13_4 G i1 k13), (((if_neg c_3).trans ((if_neg c_4).trans (if_neg c_5))) : (if G 46 (514 * i1 + k13) = 0 then L_X6_pointsByFile_13_3 G i1 k13 else (if G 46 (514 * i1 + k13) = 1 then v_X6_pointsByFile_82 G i1 k13 else (if G 46 (514 * i1 + k13) = 2 then (if f_X6_isOfLatest G (G 48 (514 * i1 + k13)) = 0 then L_X6_pointsByFile_13_3 G i1 k13 else L_X6_pointsByFile_13_3 G i1 k13) else L_X6_pointsByFile_13_3 G i1 k13))) = L_X6_pointsByFile_13_3 G i1 k13), (((if_neg c_3).trans ((if_neg c_4).trans (if_neg c_5))) : (if G 46 (514 * i1 + k13) = 0 then v_X6_pointsByFile_55 G i1 k13 else (if G 46 (514 * i1 + k13) = 1 then L_X6_pointsByFile_13_2 G i1 k13 else (if G 46 (514 * i1 + k13) = 2 then (if f_X6_isOfLatest G (G 48 (514 * i1 + k13)) = 0 then L_X6_pointsByFile_13_2 G i1 k13 else L_X6_pointsByFile_13_2 G i1 k13) else L_X6_pointsByFile_13_2 G i1 k13))) = L_X6_pointsByFile_13_2 G i1 k13)] <;> rfl))
          · refine lv_aload_n F.1 F.2.1 dX6_pointsByFile_95 rfl (lv_at hl 6 rfl) ?_
            refine lv_aload F.1 F.2.1 dX6_pointsByFile_96 (lv_at hl 0 rfl) ?_
            refine gf_X6_362 F w (hM.a14 (hI.o14 (show i1 < gnS G by omega) (show k13 < gnN G i1 by omega))) rfl dX6_pointsByFile_98 ?_
            refine q_rV (rest := []) F w kV_X6_339 hd_X6_isOfLatest (ci := 7) rfl (c_X6_isOfLatest l D cy A _ AD G hM hI (G 48 (514 * i1 + k13))) (hM.a0 ⟨by decide, rfl, rfl⟩) dX6_pointsByFile_101 rfl rfl hl.1 ⟨rfl, rfl, Nat.le_of_ble_eq_true rfl, Nat.le_of_ble_eq_true rfl⟩ (Nat.le_of_ble_eq_true rfl) ⟨Nat.zero_le _, Nat.zero_le _⟩ ?_
            refine lv_if_eq (tgt := 155) F.1 F.2.1 dX6_pointsByFile_104 (by decide) (fun c_6 => ?_) (fun c_6 => ?_)
            · exact J_2 ls (lv_sub hl [0, 1, 2, 3, 4, 5, 6, 7] (by rw [(((if_neg c_3).trans ((if_neg c_4).trans ((if_pos c_5).trans (if_pos c_6)))) : (if G 46 (514 * i1 + k13) = 0 then L_X6_pointsByFile_13_5 G i1 k13 else (if G 46 (514 * i1 + k13) = 1 then L_X6_pointsByFile_13_5 G i1 k13 else (if G 46 (514 * i1 + k13) = 2 then (if f_X6_isOfLatest G (G 48 (514 * i1 + k13)) = 0 then L_X6_pointsByFile_13_5 G i1 k13 else if L_X6_pointsByFile_13_5 G i1 k13 = 0 then (if f_X6_notesOf G i1 3 (G 47 (514 * i1 + k13)) ≤ 5 then 0 else 1) else 1) else L_X6_pointsByFile_13_5 G i1 k13))) = L_X6_pointsByFile_13_5 G i1 k13), (((if_neg c_3).trans ((if_neg c_4).trans ((if_pos c_5).trans (if_pos c_6)))) : (if G 46 (514 * i1 + k13) = 0 then L_X6_pointsByFile_13_4 G i1 k13 else (if G 46 (514 * i1 + k13) = 1 then L_X6_pointsByFile_13_4 G i1 k13 else (if G 46 (514 * i1 + k13) = 2 then (if f_X6_isOfLatest G (G 48 (514 * i1 + k13)) = 0 then L_X6_pointsByFile_13_4 G i1 k13 else (L_X6_pointsByFile_13_4 G i1 k13) + (if f_X6_countsByFile G i1 (G 47 (514 * i1 + k13)) = 0 then 0 else 1)) else L_X6_pointsByFile_13_4 G i1 k13))) = L_X6_pointsByFile_13_4 G i1 k13), (((if_neg c_3).trans ((if_neg c_4).trans ((if_pos c_5).trans (if_pos c_6)))) : (if G 46 (514 * i1 + k13) = 0 then L_X6_pointsByFile_13_3 G i1 k13 else (if G 46 (514 * i1 + k13) = 1 then v_X6_pointsByFile_82 G i1 k13 else (if G 46 (514 * i1 + k13) = 2 then (if f_X6_isOfLatest G (G 48 (514 * i1 + k13)) = 0 then L_X6_pointsByFile_13_3 G i1 k13 else L_X6_pointsByFile_13_3 G i1 k13) else L_X6_pointsByFile_13_3 G i1 k13))) = L_X6_pointsByFile_13_3 G i1 k13), (((if_neg c_3).trans ((if_neg c_4).trans ((if_pos c_5).trans (if_pos c_6)))) : (if G 46 (514 * i1 + k13) = 0 then v_X6_pointsByFile_55 G i1 k13 else (if G 46 (514 * i1 + k13) = 1 then L_X6_pointsByFile_13_2 G i1 k13 else (if G 46 (514 * i1 + k13) = 2 then (if f_X6_isOfLatest G (G 48 (514 * i1 + k13)) = 0 then L_X6_pointsByFile_13_2 G i1 k13 else L_X6_pointsByFile_13_2 G i1 k13) else L_X6_pointsByFile_13_2 G i1 k13))) = L_X6_pointsByFile_13_2 G i1 k13)] <;> rfl))
            · refine lv_iload F.1 F.2.1 dX6_pointsByFile_107 (lv_at hl 2 rfl) ?_
              refine jn0 (m := m) (ls := ls) (rest := []) (if L_X6_pointsByFile_13_5 G i1 k13 = 0 then (if f_X6_notesOf G i1 3 (G 47 (514 * i1 + k13)) ≤ 5 then 0 else 1) else 1) 131 (fun J_7 => ?_) ?_
              · refine lv_if_ne (tgt := 126) F.1 F.2.1 dX6_pointsByFile_109 (by decide) (fun c_8 => ?_) (fun c_8 => ?_)
                · refine lv_iconst (v := 1) F.1 F.2.1 dX6_pointsByFile_126 (by decide) ?_
                  refine lv_goto (tgt := 131) F.1 F.2.1 dX6_pointsByFile_127 (by decide) ?_
                  exact jn_a (if_neg c_8) J_7
                · refine lv_aload_n F.1 F.2.1 dX6_pointsByFile_112 rfl (lv_at hl 7 rfl) ?_
                  refine lv_iconst (v := 3) F.1 F.2.1 dX6_pointsByFile_113 (by decide) ?_
                  refine lv_aload F.1 F.2.1 dX6_pointsByFile_114 (lv_at hl 0 rfl) ?_
                  refine gf_X6_368 F w (hM.a14 (hI.o14 (show i1 < gnS G by omega) (show k13 < gnN G i1 by omega))) rfl dX6_pointsByFile_116 ?_
                  refine q_rS (rest := []) F w kS_X6_371 hd_X6_notesOf (c_X6_notesOf l D cy A _ AD G hM hI i1 3 (G 47 (514 * i1 + k13)) (show i1 < gnS G by omega)) dX6_pointsByFile_119 rfl rfl hl.1 ⟨rfl, rfl, Nat.le_of_ble_eq_true rfl, Nat.le_of_ble_eq_true rfl⟩ (Nat.le_of_ble_eq_true rfl) ⟨Nat.zero_le _, Nat.zero_le _⟩ ?_
                  refine lv_iconst (v := 5) F.1 F.2.1 dX6_pointsByFile_122 (by decide) ?_
                  refine lv_icmp_le (tgt := 130) F.1 F.2.1 dX6_pointsByFile_123 (by decide) (fun c_9 => ?_) (fun c_9 => ?_)
                  · refine lv_iconst (v := 0) F.1 F.2.1 dX6_pointsByFile_130 (by decide) ?_
                    exact jn_a ((if_pos c_8).trans (if_pos c_9)) J_7
                  · refine lv_iconst (v := 1) F.1 F.2.1 dX6_pointsByFile_126 (by decide) ?_
                    refine lv_goto (tgt := 131) F.1 F.2.1 dX6_pointsByFile_127 (by decide) ?_
                    exact jn_a ((if_pos c_8).trans (if_neg c_9)) J_7
              refine lv_istore (lv' := [(5, .int (if L_X6_pointsByFile_13_5 G i1 k13 = 0 then (if f_X6_notesOf G i1 3 (G 47 (514 * i1 + k13)) ≤ 5 then 0 else 1) else 1)), (7, .ref (AD 14 i1 k13)), (6, .int (nI k13)), (4, .int (L_X6_pointsByFile_13_4 G i1 k13)), (3, .int (L_X6_pointsByFile_13_3 G i1 k13)), (2, .int (L_X6_pointsByFile_13_2 G i1 k13)), (0, .ref (AD 0 0 0)), (1, .ref (AD 8 i1 0))]) F.1 F.2.1 dX6_pointsByFile_131 hl (by decide) rfl (fun ls hl => ?_)
              refine lv_iload F.1 F.2.1 dX6_pointsByFile_133 (lv_at hl 3 rfl) ?_
              refine lv_aload_n F.1 F.2.1 dX6_pointsByFile_135 rfl (lv_at hl 7 rfl) ?_
              refine lv_aload F.1 F.2.1 dX6_pointsByFile_136 (lv_at hl 1 rfl) ?_
              refine gf_X6_368 F w (hM.a14 (hI.o14 (show i1 < gnS G by omega) (show k13 < gnN G i1 by omega))) rfl dX6_pointsByFile_138 ?_
              refine q_rS (rest := [.int (L_X6_pointsByFile_13_4 G i1 k13)]) F w kS_X6_375 hd_X6_countsByFile (c_X6_countsByFile l D cy A _ AD G hM hI i1 (G 47 (514 * i1 + k13)) (show i1 < gnS G by omega)) dX6_pointsByFile_141 rfl rfl hl.1 ⟨rfl, rfl, Nat.le_of_ble_eq_true rfl, Nat.le_of_ble_eq_true rfl⟩ (Nat.le_of_ble_eq_true rfl) ⟨Nat.zero_le _, Nat.zero_le _⟩ ?_
              refine jn0 (m := m) (ls := ls) (rest := [.int (L_X6_pointsByFile_13_4 G i1 k13)]) (if f_X6_countsByFile G i1 (G 47 (514 * i1 + k13)) = 0 then 0 else 1) 152 (fun J_10 => ?_) ?_
              · refine lv_if_eq (tgt := 151) F.1 F.2.1 dX6_pointsByFile_144 (by decide) (fun c_11 => ?_) (fun c_11 => ?_)
                · refine lv_iconst (v := 0) F.1 F.2.1 dX6_pointsByFile_151 (by decide) ?_
                  exact jn_a (if_pos c_11) J_10
                · refine lv_iconst (v := 1) F.1 F.2.1 dX6_pointsByFile_147 (by decide) ?_
                  refine lv_goto (tgt := 152) F.1 F.2.1 dX6_pointsByFile_148 (by decide) ?_
                  exact jn_a (if_neg c_11) J_10
              refine lv_iadd F.1 F.2.1 dX6_pointsByFile_152 ?_
              refine lv_istore (lv' := [(4, .int ((L_X6_pointsByFile_13_4 G i1 k13) + (if f_X6_countsByFile G i1 (G 47 (514 * i1 + k13)) = 0 then 0 else 1))), (5, .int (if L_X6_pointsByFile_13_5 G i1 k13 = 0 then (if f_X6_notesOf G i1 3 (G 47 (514 * i1 + k13)) ≤ 5 then 0 else 1) else 1)), (7, .ref (AD 14 i1 k13)), (6, .int (nI k13)), (3, .int (L_X6_pointsByFile_13_3 G i1 k13)), (2, .int (L_X6_pointsByFile_13_2 G i1 k13)), (0, .ref (AD 0 0 0)), (1, .ref (AD 8 i1 0))]) F.1 F.2.1 dX6_pointsByFile_153 hl (by decide) rfl (fun ls hl => ?_)
              exact J_2 ls (lv_sub hl [2, 3, 1, 0, 4, 5, 6, 7] (by rw [(((if_neg c_3).trans ((if_neg c_4).trans ((if_pos c_5).trans (if_neg c_6)))) : (if G 46 (514 * i1 + k13) = 0 then L_X6_pointsByFile_13_5 G i1 k13 else (if G 46 (514 * i1 + k13) = 1 then L_X6_pointsByFile_13_5 G i1 k13 else (if G 46 (514 * i1 + k13) = 2 then (if f_X6_isOfLatest G (G 48 (514 * i1 + k13)) = 0 then L_X6_pointsByFile_13_5 G i1 k13 else if L_X6_pointsByFile_13_5 G i1 k13 = 0 then (if f_X6_notesOf G i1 3 (G 47 (514 * i1 + k13)) ≤ 5 then 0 else 1) else 1) else L_X6_pointsByFile_13_5 G i1 k13))) = if L_X6_pointsByFile_13_5 G i1 k13 = 0 then (if f_X6_notesOf G i1 3 (G 47 (514 * i1 + k13)) ≤ 5 then 0 else 1) else 1), (((if_neg c_3).trans ((if_neg c_4).trans ((if_pos c_5).trans (if_neg c_6)))) : (if G 46 (514 * i1 + k13) = 0 then L_X6_pointsByFile_13_4 G i1 k13 else (if G 46 (514 * i1 + k13) = 1 then L_X6_pointsByFile_13_4 G i1 k13 else (if G 46 (514 * i1 + k13) = 2 then (if f_X6_isOfLatest G (G 48 (514 * i1 + k13)) = 0 then L_X6_pointsByFile_13_4 G i1 k13 else (L_X6_pointsByFile_13_4 G i1 k13) + (if f_X6_countsByFile G i1 (G 47 (514 * i1 + k13)) = 0 then 0 else 1)) else L_X6_pointsByFile_13_4 G i1 k13))) = (L_X6_pointsByFile_13_4 G i1 k13) + (if f_X6_countsByFile G i1 (G 47 (514 * i1 + k13)) = 0 then 0 else 1)), (((if_neg c_3).trans ((if_neg c_4).trans ((if_pos c_5).trans (if_neg c_6)))) : (if G 46 (514 * i1 + k13) = 0 then L_X6_pointsByFile_13_3 G i1 k13 else (if G 46 (514 * i1 + k13) = 1 then v_X6_pointsByFile_82 G i1 k13 else (if G 46 (514 * i1 + k13) = 2 then (if f_X6_isOfLatest G (G 48 (514 * i1 + k13)) = 0 then L_X6_pointsByFile_13_3 G i1 k13 else L_X6_pointsByFile_13_3 G i1 k13) else L_X6_pointsByFile_13_3 G i1 k13))) = L_X6_pointsByFile_13_3 G i1 k13), (((if_neg c_3).trans ((if_neg c_4).trans ((if_pos c_5).trans (if_neg c_6)))) : (if G 46 (514 * i1 + k13) = 0 then v_X6_pointsByFile_55 G i1 k13 else (if G 46 (514 * i1 + k13) = 1 then L_X6_pointsByFile_13_2 G i1 k13 else (if G 46 (514 * i1 + k13) = 2 then (if f_X6_isOfLatest G (G 48 (514 * i1 + k13)) = 0 then L_X6_pointsByFile_13_2 G i1 k13 else L_X6_pointsByFile_13_2 G i1 k13) else L_X6_pointsByFile_13_2 G i1 k13))) = L_X6_pointsByFile_13_2 G i1 k13)] <;> rfl))
        · refine lv_aload_n F.1 F.2.1 dX6_pointsByFile_68 rfl (lv_at hl 6 rfl) ?_
          refine lv_aload F.1 F.2.1 dX6_pointsByFile_69 (lv_at hl 0 rfl) ?_
          refine gf_X6_362 F w (hM.a14 (hI.o14 (show i1 < gnS G by omega) (show k13 < gnN G i1 by omega))) rfl dX6_pointsByFile_71 ?_
          refine lv_aload F.1 F.2.1 dX6_pointsByFile_74 (lv_at hl 0 rfl) ?_
          refine gf_X6_365 F w (hM.a14 (hI.o14 (show i1 < gnS G by omega) (show k13 < gnN G i1 by omega))) rfl dX6_pointsByFile_76 ?_
          refine q_rV (rest := []) F w kV_X6_352 hd_X6_pointsOfBelonging (ci := 7) rfl (c_X6_pointsOfBelonging l D cy A _ AD G hM hI (G 48 (514 * i1 + k13)) (G 49 (514 * i1 + k13))) (hM.a0 ⟨by decide, rfl, rfl⟩) dX6_pointsByFile_79 rfl rfl hl.1 ⟨rfl, rfl, Nat.le_of_ble_eq_true rfl, Nat.le_of_ble_eq_true rfl⟩ (Nat.le_of_ble_eq_true rfl) ⟨Nat.zero_le _, Nat.zero_le _⟩ ?_
          refine lv_fold (y := v_X6_pointsByFile_82 G i1 k13) rfl ?_
          refine lv_istore_n (lv' := [(3, .int (v_X6_pointsByFile_82 G i1 k13)), (7, .ref (AD 14 i1 k13)), (6, .int (nI k13)), (5, .int (L_X6_pointsByFile_13_5 G i1 k13)), (4, .int (L_X6_pointsByFile_13_4 G i1 k13)), (2, .int (L_X6_pointsByFile_13_2 G i1 k13)), (0, .ref (AD 0 0 0)), (1, .ref (AD 8 i1 0))]) F.1 F.2.1 dX6_pointsByFile_82 rfl hl (by decide) rfl (fun ls hl => ?_)
          refine lv_goto (tgt := 155) F.1 F.2.1 dX6_pointsByFile_83 (by decide) ?_
          exact J_2 ls (lv_sub hl [1, 2, 3, 4, 0, 5, 6, 7] (by rw [(((if_neg c_3).trans (if_pos c_4)) : (if G 46 (514 * i1 + k13) = 0 then L_X6_pointsByFile_13_5 G i1 k13 else (if G 46 (514 * i1 + k13) = 1 then L_X6_pointsByFile_13_5 G i1 k13 else (if G 46 (514 * i1 + k13) = 2 then (if f_X6_isOfLatest G (G 48 (514 * i1 + k13)) = 0 then L_X6_pointsByFile_13_5 G i1 k13 else if L_X6_pointsByFile_13_5 G i1 k13 = 0 then (if f_X6_notesOf G i1 3 (G 47 (514 * i1 + k13)) ≤ 5 then 0 else 1) else 1) else L_X6_pointsByFile_13_5 G i1 k13))) = L_X6_pointsByFile_13_5 G i1 k13), (((if_neg c_3).trans (if_pos c_4)) : (if G 46 (514 * i1 + k13) = 0 then L_X6_pointsByFile_13_4 G i1 k13 else (if G 46 (514 * i1 + k13) = 1 then L_X6_pointsByFile_13_4 G i1 k13 else (if G 46 (514 * i1 + k13) = 2 then (if f_X6_isOfLatest G (G 48 (514 * i1 + k13)) = 0 then L_X6_pointsByFile_13_4 G i1 k13 else (L_X6_pointsByFile_13_4 G i1 k13) + (if f_X6_countsByFile G i1 (G 47 (514 * i1 + k13)) = 0 then 0 else 1)) else L_X6_pointsByFile_13_4 G i1 k13))) = L_X6_pointsByFile_13_4 G i1 k13), (((if_neg c_3).trans (if_pos c_4)) : (if G 46 (514 * i1 + k13) = 0 then L_X6_pointsByFile_13_3 G i1 k13 else (if G 46 (514 * i1 + k13) = 1 then v_X6_pointsByFile_82 G i1 k13 else (if G 46 (514 * i1 + k13) = 2 then (if f_X6_isOfLatest G (G 48 (514 * i1 + k13)) = 0 then L_X6_pointsByFile_13_3 G i1 k13 else L_X6_pointsByFile_13_3 G i1 k13) else L_X6_pointsByFile_13_3 G i1 k13))) = v_X6_pointsByFile_82 G i1 k13), (((if_neg c_3).trans (if_pos c_4)) : (if G 46 (514 * i1 + k13) = 0 then v_X6_pointsByFile_55 G i1 k13 else (if G 46 (514 * i1 + k13) = 1 then L_X6_pointsByFile_13_2 G i1 k13 else (if G 46 (514 * i1 + k13) = 2 then (if f_X6_isOfLatest G (G 48 (514 * i1 + k13)) = 0 then L_X6_pointsByFile_13_2 G i1 k13 else L_X6_pointsByFile_13_2 G i1 k13) else L_X6_pointsByFile_13_2 G i1 k13))) = L_X6_pointsByFile_13_2 G i1 k13)] <;> rfl))
      · refine lv_aload_n F.1 F.2.1 dX6_pointsByFile_41 rfl (lv_at hl 6 rfl) ?_
        refine lv_aload F.1 F.2.1 dX6_pointsByFile_42 (lv_at hl 0 rfl) ?_
        refine gf_X6_362 F w (hM.a14 (hI.o14 (show i1 < gnS G by omega) (show k13 < gnN G i1 by omega))) rfl dX6_pointsByFile_44 ?_
        refine lv_aload F.1 F.2.1 dX6_pointsByFile_47 (lv_at hl 0 rfl) ?_
        refine gf_X6_365 F w (hM.a14 (hI.o14 (show i1 < gnS G by omega) (show k13 < gnN G i1 by omega))) rfl dX6_pointsByFile_49 ?_
        refine q_rV (rest := []) F w kV_X6_348 hd_X6_pointsOfMake (ci := 7) rfl (c_X6_pointsOfMake l D cy A _ AD G hM hI (G 48 (514 * i1 + k13)) (G 49 (514 * i1 + k13))) (hM.a0 ⟨by decide, rfl, rfl⟩) dX6_pointsByFile_52 rfl rfl hl.1 ⟨rfl, rfl, Nat.le_of_ble_eq_true rfl, Nat.le_of_ble_eq_true rfl⟩ (Nat.le_of_ble_eq_true rfl) ⟨Nat.zero_le _, Nat.zero_le _⟩ ?_
        refine lv_fold (y := v_X6_pointsByFile_55 G i1 k13) rfl ?_
        refine lv_istore_n (lv' := [(2, .int (v_X6_pointsByFile_55 G i1 k13)), (7, .ref (AD 14 i1 k13)), (6, .int (nI k13)), (5, .int (L_X6_pointsByFile_13_5 G i1 k13)), (4, .int (L_X6_pointsByFile_13_4 G i1 k13)), (3, .int (L_X6_pointsByFile_13_3 G i1 k13)), (0, .ref (AD 0 0 0)), (1, .ref (AD 8 i1 0))]) F.1 F.2.1 dX6_pointsByFile_55 rfl hl (by decide) rfl (fun ls hl => ?_)
        refine lv_goto (tgt := 155) F.1 F.2.1 dX6_pointsByFile_56 (by decide) ?_
        exact J_2 ls (lv_sub hl [1, 2, 3, 4, 5, 0, 6, 7] (by rw [((if_pos c_3) : (if G 46 (514 * i1 + k13) = 0 then L_X6_pointsByFile_13_5 G i1 k13 else (if G 46 (514 * i1 + k13) = 1 then L_X6_pointsByFile_13_5 G i1 k13 else (if G 46 (514 * i1 + k13) = 2 then (if f_X6_isOfLatest G (G 48 (514 * i1 + k13)) = 0 then L_X6_pointsByFile_13_5 G i1 k13 else if L_X6_pointsByFile_13_5 G i1 k13 = 0 then (if f_X6_notesOf G i1 3 (G 47 (514 * i1 + k13)) ≤ 5 then 0 else 1) else 1) else L_X6_pointsByFile_13_5 G i1 k13))) = L_X6_pointsByFile_13_5 G i1 k13), ((if_pos c_3) : (if G 46 (514 * i1 + k13) = 0 then L_X6_pointsByFile_13_4 G i1 k13 else (if G 46 (514 * i1 + k13) = 1 then L_X6_pointsByFile_13_4 G i1 k13 else (if G 46 (514 * i1 + k13) = 2 then (if f_X6_isOfLatest G (G 48 (514 * i1 + k13)) = 0 then L_X6_pointsByFile_13_4 G i1 k13 else (L_X6_pointsByFile_13_4 G i1 k13) + (if f_X6_countsByFile G i1 (G 47 (514 * i1 + k13)) = 0 then 0 else 1)) else L_X6_pointsByFile_13_4 G i1 k13))) = L_X6_pointsByFile_13_4 G i1 k13), ((if_pos c_3) : (if G 46 (514 * i1 + k13) = 0 then L_X6_pointsByFile_13_3 G i1 k13 else (if G 46 (514 * i1 + k13) = 1 then v_X6_pointsByFile_82 G i1 k13 else (if G 46 (514 * i1 + k13) = 2 then (if f_X6_isOfLatest G (G 48 (514 * i1 + k13)) = 0 then L_X6_pointsByFile_13_3 G i1 k13 else L_X6_pointsByFile_13_3 G i1 k13) else L_X6_pointsByFile_13_3 G i1 k13))) = L_X6_pointsByFile_13_3 G i1 k13), ((if_pos c_3) : (if G 46 (514 * i1 + k13) = 0 then v_X6_pointsByFile_55 G i1 k13 else (if G 46 (514 * i1 + k13) = 1 then L_X6_pointsByFile_13_2 G i1 k13 else (if G 46 (514 * i1 + k13) = 2 then (if f_X6_isOfLatest G (G 48 (514 * i1 + k13)) = 0 then L_X6_pointsByFile_13_2 G i1 k13 else L_X6_pointsByFile_13_2 G i1 k13) else L_X6_pointsByFile_13_2 G i1 k13))) = v_X6_pointsByFile_55 G i1 k13)] <;> rfl))
    intro ls hl
    refine lv_iinc (v := nI (k13 + 1)) (lv' := [(6, .int (nI (k13 + 1))), (7, .ref (AD 14 i1 k13)), (5, .int (if G 46 (514 * i1 + k13) = 0 then L_X6_pointsByFile_13_5 G i1 k13 else (if G 46 (514 * i1 + k13) = 1 then L_X6_pointsByFile_13_5 G i1 k13 else (if G 46 (514 * i1 + k13) = 2 then (if f_X6_isOfLatest G (G 48 (514 * i1 + k13)) = 0 then L_X6_pointsByFile_13_5 G i1 k13 else if L_X6_pointsByFile_13_5 G i1 k13 = 0 then (if f_X6_notesOf G i1 3 (G 47 (514 * i1 + k13)) ≤ 5 then 0 else 1) else 1) else L_X6_pointsByFile_13_5 G i1 k13)))), (4, .int (if G 46 (514 * i1 + k13) = 0 then L_X6_pointsByFile_13_4 G i1 k13 else (if G 46 (514 * i1 + k13) = 1 then L_X6_pointsByFile_13_4 G i1 k13 else (if G 46 (514 * i1 + k13) = 2 then (if f_X6_isOfLatest G (G 48 (514 * i1 + k13)) = 0 then L_X6_pointsByFile_13_4 G i1 k13 else (L_X6_pointsByFile_13_4 G i1 k13) + (if f_X6_countsByFile G i1 (G 47 (514 * i1 + k13)) = 0 then 0 else 1)) else L_X6_pointsByFile_13_4 G i1 k13)))), (3, .int (if G 46 (514 * i1 + k13) = 0 then L_X6_pointsByFile_13_3 G i1 k13 else (if G 46 (514 * i1 + k13) = 1 then v_X6_pointsByFile_82 G i1 k13 else (if G 46 (514 * i1 + k13) = 2 then (if f_X6_isOfLatest G (G 48 (514 * i1 + k13)) = 0 then L_X6_pointsByFile_13_3 G i1 k13 else L_X6_pointsByFile_13_3 G i1 k13) else L_X6_pointsByFile_13_3 G i1 k13)))), (2, .int (if G 46 (514 * i1 + k13) = 0 then v_X6_pointsByFile_55 G i1 k13 else (if G 46 (514 * i1 + k13) = 1 then L_X6_pointsByFile_13_2 G i1 k13 else (if G 46 (514 * i1 + k13) = 2 then (if f_X6_isOfLatest G (G 48 (514 * i1 + k13)) = 0 then L_X6_pointsByFile_13_2 G i1 k13 else L_X6_pointsByFile_13_2 G i1 k13) else L_X6_pointsByFile_13_2 G i1 k13)))), (0, .ref (AD 0 0 0)), (1, .ref (AD 8 i1 0))]) F.1 F.2.1 dX6_pointsByFile_155 hl (k := 1) rfl (nI_1 _) (by decide) rfl (fun ls hl => ?_)
    refine lv_goto (tgt := 13) F.1 F.2.1 dX6_pointsByFile_158 (by decide) ?_
    exact ih13 ls hlt13 (lv_sub hl [0, 2, 3, 4, 5, 6, 7] rfl)
  have hkn13 : k13 = (gnN G i1) := GB_ile rfl (Nat.lt_of_le_of_lt (hI.n hi1).2.1 (by decide)) hk13 c_1
  subst hkn13
  refine lv_iload_n F.1 F.2.1 dX6_pointsByFile_161 rfl (lv_at hl 4 rfl) ?_
  refine lv_iload_n F.1 F.2.1 dX6_pointsByFile_162 rfl (lv_at hl 3 rfl) ?_
  refine lv_iadd F.1 F.2.1 dX6_pointsByFile_163 ?_
  refine lv_iload F.1 F.2.1 dX6_pointsByFile_164 (lv_at hl 1 rfl) ?_
  refine lv_iload F.1 F.2.1 dX6_pointsByFile_166 (lv_at hl 2 rfl) ?_
  refine q_rS (rest := [.int ((L_X6_pointsByFile_13_2 G i1 (gnN G i1)) + (L_X6_pointsByFile_13_3 G i1 (gnN G i1)))]) F w kS_X6_355 hd_X6_pointsOfVisits (c_X6_pointsOfVisits l D cy A _ (L_X6_pointsByFile_13_5 G i1 (gnN G i1)) (L_X6_pointsByFile_13_4 G i1 (gnN G i1))) dX6_pointsByFile_168 rfl rfl hl.1 ⟨rfl, rfl, Nat.le_of_ble_eq_true rfl, Nat.le_of_ble_eq_true rfl⟩ (Nat.le_of_ble_eq_true rfl) ⟨Nat.zero_le _, Nat.zero_le _⟩ ?_
  refine lv_iadd F.1 F.2.1 dX6_pointsByFile_171 ?_
  exact q_reti F hr hlk rfl dX6_pointsByFile_172
def f_X6_riskOf (G : GS) (i1 : Nat) : Int32 := if f_X6_pointsOf G i1 < 5 then (if f_X6_pointsOf G i1 = 0 then (if f_X6_listOf G (G 7 i1) = 1 then 0 else 1) else 1) else 2
set_option maxHeartbeats 4000000 in
set_option maxRecDepth 100000 in
theorem c_X6_riskOf (l : Launch) (D : va_G) (cy : Nat → ClassId) (A : Nat → Prop) (μ : MU) (AD : AM) (G : GS) (hM : RepC cy AD G μ) (hI : InvC G) (i1 : Nat) (hi1 : i1 < gnS G) : Met l yX6_riskOf (WS yX6_riskOf cX6_riskOf 3 (Option.some Jvm.ClassFile.FieldType.int)) { frames := 6, cells := 0, slots := 0, locals := 137 } (va_Pc [.ref (AD 0 0 0), .ref (AD 6 i1 0)] (Wd D cy A μ)) (QcRead (f_X6_riskOf G i1)) 0 0 (fun _ => False) := by
  refine q_met (by decide) (Nat.le_of_ble_eq_true rfl) ?_
  intro p e s m below meth c F w hr hlk hnm ls hl
  have F : CallFix p m c cX6_riskOf 3 s _ BIG RX6 := F
  have hl : lv_has ls 3 [(0, .ref (AD 0 0 0)), (1, .ref (AD 6 i1 0))] := hl
  refine lv_aload_n F.1 F.2.1 dX6_riskOf_0 rfl (lv_at hl 0 rfl) ?_
  refine lv_aload_n F.1 F.2.1 dX6_riskOf_1 rfl (lv_at hl 1 rfl) ?_
  refine q_rV (rest := []) F w kV_X6_293 hd_X6_pointsOf (ci := 7) rfl (c_X6_pointsOf l D cy A _ AD G hM hI i1 (show i1 < gnS G by omega)) (hM.a0 ⟨by decide, rfl, rfl⟩) dX6_riskOf_2 rfl rfl hl.1 ⟨rfl, rfl, Nat.le_of_ble_eq_true rfl, Nat.le_of_ble_eq_true rfl⟩ (Nat.le_of_ble_eq_true rfl) ⟨Nat.zero_le _, Nat.zero_le _⟩ ?_
  refine lv_istore_n (lv' := [(2, .int (f_X6_pointsOf G i1)), (0, .ref (AD 0 0 0)), (1, .ref (AD 6 i1 0))]) F.1 F.2.1 dX6_riskOf_5 rfl hl (by decide) rfl (fun ls hl => ?_)
  refine lv_iload_n F.1 F.2.1 dX6_riskOf_6 rfl (lv_at hl 0 rfl) ?_
  refine lv_iconst (v := 5) F.1 F.2.1 dX6_riskOf_7 (by decide) ?_
  refine lv_icmp_lt (tgt := 13) F.1 F.2.1 dX6_riskOf_8 (by decide) (fun c_1 => ?_) (fun c_1 => ?_)
  · refine lv_iload_n F.1 F.2.1 dX6_riskOf_13 rfl (lv_at hl 0 rfl) ?_
    refine jn0 (m := m) (ls := ls) (rest := []) (if f_X6_pointsOf G i1 = 0 then (if f_X6_listOf G (G 7 i1) = 1 then 0 else 1) else 1) 34 (fun J_2 => ?_) ?_
    · refine lv_if_ne (tgt := 33) F.1 F.2.1 dX6_riskOf_14 (by decide) (fun c_3 => ?_) (fun c_3 => ?_)
      · refine lv_iconst (v := 1) F.1 F.2.1 dX6_riskOf_33 (by decide) ?_
        exact jn_a (if_neg c_3) J_2
      · refine lv_aload_n F.1 F.2.1 dX6_riskOf_17 rfl (lv_at hl 1 rfl) ?_
        refine lv_aload_n F.1 F.2.1 dX6_riskOf_18 rfl (lv_at hl 2 rfl) ?_
        refine gf_X6_86 F w (hM.a6 (hI.o6 (show i1 < gnS G by omega))) rfl dX6_riskOf_19 ?_
        refine q_rV (rest := []) F w kV_X6_317 hd_X6_listOf (ci := 7) rfl (c_X6_listOf l D cy A _ AD G hM hI (G 7 i1)) (hM.a0 ⟨by decide, rfl, rfl⟩) dX6_riskOf_22 rfl rfl hl.1 ⟨rfl, rfl, Nat.le_of_ble_eq_true rfl, Nat.le_of_ble_eq_true rfl⟩ (Nat.le_of_ble_eq_true rfl) ⟨Nat.zero_le _, Nat.zero_le _⟩ ?_
        refine lv_iconst (v := 1) F.1 F.2.1 dX6_riskOf_25 (by decide) ?_
        refine lv_icmp_ne (tgt := 33) F.1 F.2.1 dX6_riskOf_26 (by decide) (fun c_4 => ?_) (fun c_4 => ?_)
        · refine lv_iconst (v := 1) F.1 F.2.1 dX6_riskOf_33 (by decide) ?_
          exact jn_a ((if_pos c_3).trans (if_neg c_4)) J_2
        · refine lv_iconst (v := 0) F.1 F.2.1 dX6_riskOf_29 (by decide) ?_
          refine lv_goto (tgt := 34) F.1 F.2.1 dX6_riskOf_30 (by decide) ?_
          exact jn_a ((if_pos c_3).trans (if_pos c_4)) J_2
    exact q_reti F hr hlk (if_pos c_1) dX6_riskOf_34
  · refine lv_iconst (v := 2) F.1 F.2.1 dX6_riskOf_11 (by decide) ?_
    exact q_reti F hr hlk (if_neg c_1) dX6_riskOf_12
def f_X6_priorityOf (G : GS) (i1 : Nat) : Int32 := if G 12 i1 = -1 then 2 else (if (G 1 0) - (G 32 ((G 12 i1).toNatClampNeg)) ≤ f_X6_windowEnd (f_X6_riskOf G i1) then (if (G 1 0) - (G 32 ((G 12 i1).toNatClampNeg)) < f_X6_windowBegin (f_X6_riskOf G i1) then 0 else 1) else 2)
set_option maxHeartbeats 4000000 in
set_option maxRecDepth 100000 in
theorem c_X6_priorityOf (l : Launch) (D : va_G) (cy : Nat → ClassId) (A : Nat → Prop) (μ : MU) (AD : AM) (G : GS) (hM : RepC cy AD G μ) (hI : InvC G) (i1 : Nat) (hi1 : i1 < gnS G) : Met l yX6_priorityOf (WS yX6_priorityOf cX6_priorityOf 5 (Option.some Jvm.ClassFile.FieldType.int)) { frames := 7, cells := 0, slots := 0, locals := 159 } (va_Pc [.ref (AD 0 0 0), .ref (AD 6 i1 0)] (Wd D cy A μ)) (QcRead (f_X6_priorityOf G i1)) 0 0 (fun _ => False) := by
  refine q_met (by decide) (Nat.le_of_ble_eq_true rfl) ?_
  intro p e s m below meth c F w hr hlk hnm ls hl
  have F : CallFix p m c cX6_priorityOf 5 s _ BIG RX6 := F
  have hl : lv_has ls 5 [(0, .ref (AD 0 0 0)), (1, .ref (AD 6 i1 0))] := hl
  refine lv_aload_n F.1 F.2.1 dX6_priorityOf_0 rfl (lv_at hl 1 rfl) ?_
  refine gf_X6_187 F w (hM.a6 (hI.o6 (show i1 < gnS G by omega))) rfl dX6_priorityOf_1 ?_
  refine q_astore_n F (lv' := [(2, va_rf (xr AD (G 12 i1))), (0, .ref (AD 0 0 0)), (1, .ref (AD 6 i1 0))]) dX6_priorityOf_4 rfl hl (by decide) rfl (fun ls hl => ?_)
  refine q_aload_n F dX6_priorityOf_5 rfl (lv_at hl 0 rfl) ?_
  refine q_ifnonnull (P := G 12 i1 = -1) (hn := fun h => if_pos h) (hs := fun h => ⟨_, if_neg h⟩) (tgt := 11) F.1 F.2.1 dX6_priorityOf_6 (by decide) (fun c_1 => ?_) (fun c_1 => ?_)
  · refine lv_aload_n F.1 F.2.1 dX6_priorityOf_11 rfl (lv_at hl 1 rfl) ?_
    refine gf_X6_30 F w (hM.a0 ⟨by decide, rfl, rfl⟩) rfl dX6_priorityOf_12 ?_
    refine q_aload_n F dX6_priorityOf_15 rfl (lv_at hl 0 rfl) ?_
    refine lv_rf ((if_neg c_1 : xr AD (G 12 i1) = some (AD 10 (G 12 i1).toNatClampNeg 0))) ?_
    rw [show xr AD (G 12 i1) = some (AD 10 (G 12 i1).toNatClampNeg 0) from (if_neg c_1 : xr AD (G 12 i1) = some (AD 10 (G 12 i1).toNatClampNeg 0))] at hl
    have hl : lv_has ls 5 [(2, .ref (AD 10 (G 12 i1).toNatClampNeg 0)), (0, .ref (AD 0 0 0)), (1, .ref (AD 6 i1 0))] := hl
    refine gf_X6_309 F w (hM.a10 (hI.o10 (hI.re 12 (by decide) (show i1 < gnS G by omega) c_1).2)) rfl dX6_priorityOf_16 ?_
    refine lv_isub F.1 F.2.1 dX6_priorityOf_19 ?_
    refine lv_istore_n (lv' := [(3, .int ((G 1 0) - (G 32 ((G 12 i1).toNatClampNeg)))), (2, .ref (AD 10 (G 12 i1).toNatClampNeg 0)), (0, .ref (AD 0 0 0)), (1, .ref (AD 6 i1 0))]) F.1 F.2.1 dX6_priorityOf_20 rfl hl (by decide) rfl (fun ls hl => ?_)
    refine lv_aload_n F.1 F.2.1 dX6_priorityOf_21 rfl (lv_at hl 2 rfl) ?_
    refine lv_aload_n F.1 F.2.1 dX6_priorityOf_22 rfl (lv_at hl 3 rfl) ?_
    refine q_rV (rest := []) F w kV_X6_296 hd_X6_riskOf (ci := 7) rfl (c_X6_riskOf l D cy A _ AD G hM hI i1 (show i1 < gnS G by omega)) (hM.a0 ⟨by decide, rfl, rfl⟩) dX6_priorityOf_23 rfl rfl hl.1 ⟨rfl, rfl, Nat.le_of_ble_eq_true rfl, Nat.le_of_ble_eq_true rfl⟩ (Nat.le_of_ble_eq_true rfl) ⟨Nat.zero_le _, Nat.zero_le _⟩ ?_
    refine lv_istore (lv' := [(4, .int (f_X6_riskOf G i1)), (3, .int ((G 1 0) - (G 32 ((G 12 i1).toNatClampNeg)))), (2, .ref (AD 10 (G 12 i1).toNatClampNeg 0)), (0, .ref (AD 0 0 0)), (1, .ref (AD 6 i1 0))]) F.1 F.2.1 dX6_priorityOf_26 hl (by decide) rfl (fun ls hl => ?_)
    refine lv_iload_n F.1 F.2.1 dX6_priorityOf_28 rfl (lv_at hl 1 rfl) ?_
    refine lv_iload F.1 F.2.1 dX6_priorityOf_29 (lv_at hl 0 rfl) ?_
    refine q_rS (rest := [.int ((G 1 0) - (G 32 ((G 12 i1).toNatClampNeg)))]) F w kS_X6_387 hd_X6_windowEnd (c_X6_windowEnd l D cy A _ (f_X6_riskOf G i1)) dX6_priorityOf_31 rfl rfl hl.1 ⟨rfl, rfl, Nat.le_of_ble_eq_true rfl, Nat.le_of_ble_eq_true rfl⟩ (Nat.le_of_ble_eq_true rfl) ⟨Nat.zero_le _, Nat.zero_le _⟩ ?_
    refine lv_icmp_le (tgt := 39) F.1 F.2.1 dX6_priorityOf_34 (by decide) (fun c_2 => ?_) (fun c_2 => ?_)
    · refine lv_iload_n F.1 F.2.1 dX6_priorityOf_39 rfl (lv_at hl 1 rfl) ?_
      refine lv_iload F.1 F.2.1 dX6_priorityOf_40 (lv_at hl 0 rfl) ?_
      refine q_rS (rest := [.int ((G 1 0) - (G 32 ((G 12 i1).toNatClampNeg)))]) F w kS_X6_390 hd_X6_windowBegin (c_X6_windowBegin l D cy A _ (f_X6_riskOf G i1)) dX6_priorityOf_42 rfl rfl hl.1 ⟨rfl, rfl, Nat.le_of_ble_eq_true rfl, Nat.le_of_ble_eq_true rfl⟩ (Nat.le_of_ble_eq_true rfl) ⟨Nat.zero_le _, Nat.zero_le _⟩ ?_
      refine jn0 (m := m) (ls := ls) (rest := []) (if (G 1 0) - (G 32 ((G 12 i1).toNatClampNeg)) < f_X6_windowBegin (f_X6_riskOf G i1) then 0 else 1) 53 (fun J_3 => ?_) ?_
      · refine lv_icmp_lt (tgt := 52) F.1 F.2.1 dX6_priorityOf_45 (by decide) (fun c_4 => ?_) (fun c_4 => ?_)
        · refine lv_iconst (v := 0) F.1 F.2.1 dX6_priorityOf_52 (by decide) ?_
          exact jn_a (if_pos c_4) J_3
        · refine lv_iconst (v := 1) F.1 F.2.1 dX6_priorityOf_48 (by decide) ?_
          refine lv_goto (tgt := 53) F.1 F.2.1 dX6_priorityOf_49 (by decide) ?_
          exact jn_a (if_neg c_4) J_3
      exact q_reti F hr hlk ((if_neg c_1).trans (if_pos c_2)) dX6_priorityOf_53
    · refine lv_iconst (v := 2) F.1 F.2.1 dX6_priorityOf_37 (by decide) ?_
      exact q_reti F hr hlk ((if_neg c_1).trans (if_neg c_2)) dX6_priorityOf_38
  · refine lv_iconst (v := 2) F.1 F.2.1 dX6_priorityOf_9 (by decide) ?_
    exact q_reti F hr hlk (if_pos c_1) dX6_priorityOf_10
def E_X6_hasPutOffUnmended_2 (G : GS) (i1 : Nat) : Nat → Nat → Int32
  | 0, _ => 0
  | d + 1, k2 => if G 30 k2 = nI i1 then (if f_X5_hasPutOffUnmended G k2 = 0 then (E_X6_hasPutOffUnmended_2 G i1 d (k2 + 1)) else 1) else (E_X6_hasPutOffUnmended_2 G i1 d (k2 + 1))
theorem nz_E_X6_hasPutOffUnmended_2 (G : GS) (i1 : Nat) : ∀ d k : Nat, nz (E_X6_hasPutOffUnmended_2 G i1 d k)
  | 0, _ => nz0
  | d + 1, k2 => (nz_ite (nz_ite (nz_E_X6_hasPutOffUnmended_2 _ _ _ _) nz1) (nz_E_X6_hasPutOffUnmended_2 _ _ _ _))
def f_X6_hasPutOffUnmended (G : GS) (i1 : Nat) : Int32 := E_X6_hasPutOffUnmended_2 G i1 (gnV G) 0
theorem nz_f_X6_hasPutOffUnmended (G : GS) (i1 : Nat) : nz (f_X6_hasPutOffUnmended G i1) := (nz_E_X6_hasPutOffUnmended_2 _ _ _ _)
set_option maxHeartbeats 4000000 in
set_option maxRecDepth 100000 in
theorem c_X6_hasPutOffUnmended (l : Launch) (D : va_G) (cy : Nat → ClassId) (A : Nat → Prop) (μ : MU) (AD : AM) (G : GS) (hM : RepC cy AD G μ) (hI : InvC G) (i1 : Nat) (hi1 : i1 < gnS G) : Met l yX6_hasPutOffUnmended (WS yX6_hasPutOffUnmended cX6_hasPutOffUnmended 4 (Option.some Jvm.ClassFile.FieldType.boolean)) { frames := 4, cells := 0, slots := 0, locals := 86 } (va_Pc [.ref (AD 0 0 0), .ref (AD 6 i1 0)] (Wd D cy A μ)) (QcRead (f_X6_hasPutOffUnmended G i1)) 0 0 (fun _ => False) := by
  refine q_met (by decide) (Nat.le_of_ble_eq_true rfl) ?_
  intro p e s m below meth c F w hr hlk hnm ls hl
  have F : CallFix p m c cX6_hasPutOffUnmended 4 s _ BIG RX6 := F
  have hl : lv_has ls 4 [(0, .ref (AD 0 0 0)), (1, .ref (AD 6 i1 0))] := hl
  refine lv_iconst (v := 0) F.1 F.2.1 dX6_hasPutOffUnmended_0 (by decide) ?_
  refine lv_istore_n (lv' := [(2, .int 0), (0, .ref (AD 0 0 0)), (1, .ref (AD 6 i1 0))]) F.1 F.2.1 dX6_hasPutOffUnmended_1 rfl hl (by decide) rfl (fun ls hl => ?_)
  refine q_loop (P := fun k2 ls => lv_has ls 4 [(2, .int (nI k2)), (0, .ref (AD 0 0 0)), (1, .ref (AD 6 i1 0))] ∧ E_X6_hasPutOffUnmended_2 G i1 ((gnV G) - k2) k2 = E_X6_hasPutOffUnmended_2 G i1 (gnV G) 0) (gnV G) (fun k2 ls hk2 hl9 ih2 => ?_) 0 ls (Nat.zero_le _) ⟨lv_cg (lv_sub hl [0, 1, 2] rfl) rfl, rfl⟩
  obtain ⟨hl, hE⟩ := hl9
  refine lv_iload_n F.1 F.2.1 dX6_hasPutOffUnmended_2 rfl (lv_at hl 0 rfl) ?_
  refine lv_aload_n F.1 F.2.1 dX6_hasPutOffUnmended_3 rfl (lv_at hl 1 rfl) ?_
  refine gf_X6_19 F w (hM.a0 ⟨by decide, rfl, rfl⟩) rfl dX6_hasPutOffUnmended_4 ?_
  refine q_rV (rest := [.int (nI k2)]) F w kV_X6_58 hd_Jx4a65c_size_8abf5 (ci := 0) rfl (c_size l D cy A _ hM.l3.1) hM.l3.1 dX6_hasPutOffUnmended_7 rfl rfl hl.1 ⟨rfl, rfl, Nat.le_of_ble_eq_true rfl, Nat.le_of_ble_eq_true rfl⟩ (Nat.le_of_ble_eq_true rfl) ⟨Nat.zero_le _, Nat.zero_le _⟩ ?_
  refine lv_icmp_ge (tgt := 48) F.1 F.2.1 dX6_hasPutOffUnmended_10 (by decide) (fun c_1 => ?_) (fun c_1 => ?_)
  rotate_left
  · have hlt2 : k2 < (gnV G) := GB_ilt rfl (Nat.lt_of_le_of_lt hI.v.2.1 (by decide)) hk2 c_1
    have hE : E_X6_hasPutOffUnmended_2 G i1 ((gnV G) - (k2 + 1) + 1) k2 = E_X6_hasPutOffUnmended_2 G i1 (gnV G) 0 := by rw [show (gnV G) - (k2 + 1) + 1 = (gnV G) - k2 by omega]; exact hE
    refine lv_aload_n F.1 F.2.1 dX6_hasPutOffUnmended_13 rfl (lv_at hl 1 rfl) ?_
    refine gf_X6_19 F w (hM.a0 ⟨by decide, rfl, rfl⟩) rfl dX6_hasPutOffUnmended_14 ?_
    refine lv_iload_n F.1 F.2.1 dX6_hasPutOffUnmended_17 rfl (lv_at hl 0 rfl) ?_
    refine q_sVq (rest := []) F w kV_X6_224 hd_Jx4a65c_get_915e3 (ci := 0) rfl (c_get l D cy A _ hM.l3 (show k2 < gnV G by omega) (show gnV G ≤ 600 by have := hI.v.2.1; omega)) hM.l3.1 dX6_hasPutOffUnmended_18 rfl rfl hl.1 ⟨rfl, rfl, Nat.le_of_ble_eq_true rfl, Nat.le_of_ble_eq_true rfl⟩ (Nat.le_of_ble_eq_true rfl) ⟨Nat.zero_le _, Nat.zero_le _⟩ ?_
    refine q_cast F w wL_X6_179 (ci := 6) rfl (hM.a10 (hI.o10 (show k2 < gnV G by omega))) dX6_hasPutOffUnmended_21 ?_
    refine lv_astore_n (lv' := [(3, .ref (AD 10 k2 0)), (2, .int (nI k2)), (0, .ref (AD 0 0 0)), (1, .ref (AD 6 i1 0))]) F.1 F.2.1 dX6_hasPutOffUnmended_24 rfl hl (by decide) rfl (fun ls hl => ?_)
    refine lv_aload_n F.1 F.2.1 dX6_hasPutOffUnmended_25 rfl (lv_at hl 0 rfl) ?_
    refine gf_X6_201 F w (hM.a10 (hI.o10 (show k2 < gnV G by omega))) rfl dX6_hasPutOffUnmended_26 ?_
    refine lv_aload_n F.1 F.2.1 dX6_hasPutOffUnmended_29 rfl (lv_at hl 3 rfl) ?_
    refine q_acmp_ne (rx := some (AD 6 (gnO G k2) 0)) (ry := some (AD 6 i1 0)) (P := G 30 k2 = nI i1) (hP := hM.shq hI (show k2 < gnV G by omega) (show i1 < gnS G by omega)) (tgt := 42) F.1 F.2.1 dX6_hasPutOffUnmended_30 (by decide) (fun c_2 => ?_) (fun c_2 => ?_)
    · refine lv_iinc (v := nI (k2 + 1)) (lv' := [(2, .int (nI (k2 + 1))), (3, .ref (AD 10 k2 0)), (0, .ref (AD 0 0 0)), (1, .ref (AD 6 i1 0))]) F.1 F.2.1 dX6_hasPutOffUnmended_42 hl (k := 1) rfl (nI_1 _) (by decide) rfl (fun ls hl => ?_)
      refine lv_goto (tgt := 2) F.1 F.2.1 dX6_hasPutOffUnmended_45 (by decide) ?_
      exact ih2 ls hlt2 ⟨lv_sub hl [0, 2, 3] rfl, ((if_neg c_2)).symm.trans hE⟩
    · refine lv_aload_n F.1 F.2.1 dX6_hasPutOffUnmended_33 rfl (lv_at hl 0 rfl) ?_
      refine q_rV (rest := []) F w kV_X6_396 hd_X5_hasPutOffUnmended (ci := 6) rfl (c_X5_hasPutOffUnmended l D cy A _ AD G hM hI k2 (show k2 < gnV G by omega)) (hM.a10 (hI.o10 (show k2 < gnV G by omega))) dX6_hasPutOffUnmended_34 rfl rfl hl.1 ⟨rfl, rfl, Nat.le_of_ble_eq_true rfl, Nat.le_of_ble_eq_true rfl⟩ (Nat.le_of_ble_eq_true rfl) ⟨Nat.zero_le _, Nat.zero_le _⟩ ?_
      refine lv_if_eq (tgt := 42) F.1 F.2.1 dX6_hasPutOffUnmended_37 (by decide) (fun c_3 => ?_) (fun c_3 => ?_)
      · refine lv_iinc (v := nI (k2 + 1)) (lv' := [(2, .int (nI (k2 + 1))), (3, .ref (AD 10 k2 0)), (0, .ref (AD 0 0 0)), (1, .ref (AD 6 i1 0))]) F.1 F.2.1 dX6_hasPutOffUnmended_42 hl (k := 1) rfl (nI_1 _) (by decide) rfl (fun ls hl => ?_)
        refine lv_goto (tgt := 2) F.1 F.2.1 dX6_hasPutOffUnmended_45 (by decide) ?_
        exact ih2 ls hlt2 ⟨lv_sub hl [0, 2, 3] rfl, (((if_pos c_2).trans (if_pos c_3))).symm.trans hE⟩
      · refine lv_iconst (v := 1) F.1 F.2.1 dX6_hasPutOffUnmended_40 (by decide) ?_
        exact q_retz F hr hlk (hE.symm.trans ((if_pos c_2).trans (if_neg c_3))) nz1 dX6_hasPutOffUnmended_41
  have hkn2 : k2 = (gnV G) := GB_ile rfl (Nat.lt_of_le_of_lt hI.v.2.1 (by decide)) hk2 c_1
  subst hkn2
  rw [Nat.sub_self] at hE
  refine lv_iconst (v := 0) F.1 F.2.1 dX6_hasPutOffUnmended_48 (by decide) ?_
  exact q_retz F hr hlk hE.symm nz0 dX6_hasPutOffUnmended_49
def f_X6_depthOfNext (G : GS) (i1 : Nat) : Int32 := if f_X6_riskOf G i1 = 2 then 2 else (if f_X6_isOld G (G 4 i1) = 0 then (if f_X6_familiesNotGood G i1 = 0 then (if f_X6_hasPutOffUnmended G i1 = 0 then 0 else 1) else 1) else (if G 6 i1 = 0 then (if f_X6_familiesNotGood G i1 = 0 then (if f_X6_hasPutOffUnmended G i1 = 0 then 0 else 1) else 1) else 2))
set_option maxHeartbeats 4000000 in
set_option maxRecDepth 100000 in
theorem c_X6_depthOfNext (l : Launch) (D : va_G) (cy : Nat → ClassId) (A : Nat → Prop) (μ : MU) (AD : AM) (G : GS) (hM : RepC cy AD G μ) (hI : InvC G) (i1 : Nat) (hi1 : i1 < gnS G) : Met l yX6_depthOfNext (WS yX6_depthOfNext cX6_depthOfNext 2 (Option.some Jvm.ClassFile.FieldType.int)) { frames := 7, cells := 0, slots := 0, locals := 159 } (va_Pc [.ref (AD 0 0 0), .ref (AD 6 i1 0)] (Wd D cy A μ)) (QcRead (f_X6_depthOfNext G i1)) 0 0 (fun _ => False) := by
  refine q_met (by decide) (Nat.le_of_ble_eq_true rfl) ?_
  intro p e s m below meth c F w hr hlk hnm ls hl
  have F : CallFix p m c cX6_depthOfNext 2 s _ BIG RX6 := F
  have hl : lv_has ls 2 [(0, .ref (AD 0 0 0)), (1, .ref (AD 6 i1 0))] := hl
  refine lv_aload_n F.1 F.2.1 dX6_depthOfNext_0 rfl (lv_at hl 0 rfl) ?_
  refine lv_aload_n F.1 F.2.1 dX6_depthOfNext_1 rfl (lv_at hl 1 rfl) ?_
  refine q_rV (rest := []) F w kV_X6_296 hd_X6_riskOf (ci := 7) rfl (c_X6_riskOf l D cy A _ AD G hM hI i1 (show i1 < gnS G by omega)) (hM.a0 ⟨by decide, rfl, rfl⟩) dX6_depthOfNext_2 rfl rfl hl.1 ⟨rfl, rfl, Nat.le_of_ble_eq_true rfl, Nat.le_of_ble_eq_true rfl⟩ (Nat.le_of_ble_eq_true rfl) ⟨Nat.zero_le _, Nat.zero_le _⟩ ?_
  refine lv_iconst (v := 2) F.1 F.2.1 dX6_depthOfNext_5 (by decide) ?_
  refine lv_icmp_eq (tgt := 27) F.1 F.2.1 dX6_depthOfNext_6 (by decide) (fun c_1 => ?_) (fun c_1 => ?_)
  · refine lv_iconst (v := 2) F.1 F.2.1 dX6_depthOfNext_27 (by decide) ?_
    exact q_reti F hr hlk (if_pos c_1) dX6_depthOfNext_28
  · refine lv_aload_n F.1 F.2.1 dX6_depthOfNext_9 rfl (lv_at hl 0 rfl) ?_
    refine lv_aload_n F.1 F.2.1 dX6_depthOfNext_10 rfl (lv_at hl 1 rfl) ?_
    refine gf_X6_342 F w (hM.a6 (hI.o6 (show i1 < gnS G by omega))) rfl dX6_depthOfNext_11 ?_
    refine q_rV (rest := []) F w kV_X6_379 hd_X6_isOld (ci := 7) rfl (c_X6_isOld l D cy A _ AD G hM hI (G 4 i1)) (hM.a0 ⟨by decide, rfl, rfl⟩) dX6_depthOfNext_14 rfl rfl hl.1 ⟨rfl, rfl, Nat.le_of_ble_eq_true rfl, Nat.le_of_ble_eq_true rfl⟩ (Nat.le_of_ble_eq_true rfl) ⟨Nat.zero_le _, Nat.zero_le _⟩ ?_
    refine lv_if_eq (tgt := 29) F.1 F.2.1 dX6_depthOfNext_17 (by decide) (fun c_2 => ?_) (fun c_2 => ?_)
    · refine lv_aload_n F.1 F.2.1 dX6_depthOfNext_29 rfl (lv_at hl 0 rfl) ?_
      refine lv_aload_n F.1 F.2.1 dX6_depthOfNext_30 rfl (lv_at hl 1 rfl) ?_
      refine q_rV (rest := []) F w kV_X6_120 hd_X6_familiesNotGood (ci := 7) rfl (c_X6_familiesNotGood l D cy A _ AD G hM hI i1 (show i1 < gnS G by omega)) (hM.a0 ⟨by decide, rfl, rfl⟩) dX6_depthOfNext_31 rfl rfl hl.1 ⟨rfl, rfl, Nat.le_of_ble_eq_true rfl, Nat.le_of_ble_eq_true rfl⟩ (Nat.le_of_ble_eq_true rfl) ⟨Nat.zero_le _, Nat.zero_le _⟩ ?_
      refine jn0 (m := m) (ls := ls) (rest := []) (if f_X6_familiesNotGood G i1 = 0 then (if f_X6_hasPutOffUnmended G i1 = 0 then 0 else 1) else 1) 50 (fun J_3 => ?_) ?_
      · refine lv_if_ne (tgt := 45) F.1 F.2.1 dX6_depthOfNext_34 (by decide) (fun c_4 => ?_) (fun c_4 => ?_)
        · refine lv_iconst (v := 1) F.1 F.2.1 dX6_depthOfNext_45 (by decide) ?_
          refine lv_goto (tgt := 50) F.1 F.2.1 dX6_depthOfNext_46 (by decide) ?_
          exact jn_a (if_neg c_4) J_3
        · refine lv_aload_n F.1 F.2.1 dX6_depthOfNext_37 rfl (lv_at hl 0 rfl) ?_
          refine lv_aload_n F.1 F.2.1 dX6_depthOfNext_38 rfl (lv_at hl 1 rfl) ?_
          refine q_rV (rest := []) F w kV_X6_393 hd_X6_hasPutOffUnmended (ci := 7) rfl (c_X6_hasPutOffUnmended l D cy A _ AD G hM hI i1 (show i1 < gnS G by omega)) (hM.a0 ⟨by decide, rfl, rfl⟩) dX6_depthOfNext_39 rfl rfl hl.1 ⟨rfl, rfl, Nat.le_of_ble_eq_true rfl, Nat.le_of_ble_eq_true rfl⟩ (Nat.le_of_ble_eq_true rfl) ⟨Nat.zero_le _, Nat.zero_le _⟩ ?_
          refine lv_if_eq (tgt := 49) F.1 F.2.1 dX6_depthOfNext_42 (by decide) (fun c_5 => ?_) (fun c_5 => ?_)
          · refine lv_iconst (v := 0) F.1 F.2.1 dX6_depthOfNext_49 (by decide) ?_
            exact jn_a ((if_pos c_4).trans (if_pos c_5)) J_3
          · refine lv_iconst (v := 1) F.1 F.2.1 dX6_depthOfNext_45 (by decide) ?_
            refine lv_goto (tgt := 50) F.1 F.2.1 dX6_depthOfNext_46 (by decide) ?_
            exact jn_a ((if_pos c_4).trans (if_neg c_5)) J_3
      exact q_reti F hr hlk ((if_neg c_1).trans (if_pos c_2)) dX6_depthOfNext_50
    · refine lv_aload_n F.1 F.2.1 dX6_depthOfNext_20 rfl (lv_at hl 1 rfl) ?_
      refine gf_X6_345 F w (hM.a6 (hI.o6 (show i1 < gnS G by omega))) rfl dX6_depthOfNext_21 ?_
      refine lv_if_eq (tgt := 29) F.1 F.2.1 dX6_depthOfNext_24 (by decide) (fun c_6 => ?_) (fun c_6 => ?_)
      · refine lv_aload_n F.1 F.2.1 dX6_depthOfNext_29 rfl (lv_at hl 0 rfl) ?_
        refine lv_aload_n F.1 F.2.1 dX6_depthOfNext_30 rfl (lv_at hl 1 rfl) ?_
        refine q_rV (rest := []) F w kV_X6_120 hd_X6_familiesNotGood (ci := 7) rfl (c_X6_familiesNotGood l D cy A _ AD G hM hI i1 (show i1 < gnS G by omega)) (hM.a0 ⟨by decide, rfl, rfl⟩) dX6_depthOfNext_31 rfl rfl hl.1 ⟨rfl, rfl, Nat.le_of_ble_eq_true rfl, Nat.le_of_ble_eq_true rfl⟩ (Nat.le_of_ble_eq_true rfl) ⟨Nat.zero_le _, Nat.zero_le _⟩ ?_
        refine jn0 (m := m) (ls := ls) (rest := []) (if f_X6_familiesNotGood G i1 = 0 then (if f_X6_hasPutOffUnmended G i1 = 0 then 0 else 1) else 1) 50 (fun J_7 => ?_) ?_
        · refine lv_if_ne (tgt := 45) F.1 F.2.1 dX6_depthOfNext_34 (by decide) (fun c_8 => ?_) (fun c_8 => ?_)
          · refine lv_iconst (v := 1) F.1 F.2.1 dX6_depthOfNext_45 (by decide) ?_
            refine lv_goto (tgt := 50) F.1 F.2.1 dX6_depthOfNext_46 (by decide) ?_
            exact jn_a (if_neg c_8) J_7
          · refine lv_aload_n F.1 F.2.1 dX6_depthOfNext_37 rfl (lv_at hl 0 rfl) ?_
            refine lv_aload_n F.1 F.2.1 dX6_depthOfNext_38 rfl (lv_at hl 1 rfl) ?_
            refine q_rV (rest := []) F w kV_X6_393 hd_X6_hasPutOffUnmended (ci := 7) rfl (c_X6_hasPutOffUnmended l D cy A _ AD G hM hI i1 (show i1 < gnS G by omega)) (hM.a0 ⟨by decide, rfl, rfl⟩) dX6_depthOfNext_39 rfl rfl hl.1 ⟨rfl, rfl, Nat.le_of_ble_eq_true rfl, Nat.le_of_ble_eq_true rfl⟩ (Nat.le_of_ble_eq_true rfl) ⟨Nat.zero_le _, Nat.zero_le _⟩ ?_
            refine lv_if_eq (tgt := 49) F.1 F.2.1 dX6_depthOfNext_42 (by decide) (fun c_9 => ?_) (fun c_9 => ?_)
            · refine lv_iconst (v := 0) F.1 F.2.1 dX6_depthOfNext_49 (by decide) ?_
              exact jn_a ((if_pos c_8).trans (if_pos c_9)) J_7
            · refine lv_iconst (v := 1) F.1 F.2.1 dX6_depthOfNext_45 (by decide) ?_
              refine lv_goto (tgt := 50) F.1 F.2.1 dX6_depthOfNext_46 (by decide) ?_
              exact jn_a ((if_pos c_8).trans (if_neg c_9)) J_7
        exact q_reti F hr hlk ((if_neg c_1).trans ((if_neg c_2).trans (if_pos c_6))) dX6_depthOfNext_50
      · refine lv_iconst (v := 2) F.1 F.2.1 dX6_depthOfNext_27 (by decide) ?_
        exact q_reti F hr hlk ((if_neg c_1).trans ((if_neg c_2).trans (if_neg c_6))) dX6_depthOfNext_28
def f_X6_hasLeftSince (G : GS) (i1 : Nat) : Int32 := if G 11 (gnO G i1) = nI i1 then 0 else 1
theorem nz_f_X6_hasLeftSince (G : GS) (i1 : Nat) : nz (f_X6_hasLeftSince G i1) := (nz_ite nz0 nz1)
set_option maxHeartbeats 4000000 in
set_option maxRecDepth 100000 in
theorem c_X6_hasLeftSince (l : Launch) (D : va_G) (cy : Nat → ClassId) (A : Nat → Prop) (μ : MU) (AD : AM) (G : GS) (hM : RepC cy AD G μ) (hI : InvC G) (i1 : Nat) (hi1 : i1 < gnV G) : Met l yX6_hasLeftSince (WS yX6_hasLeftSince cX6_hasLeftSince 1 (Option.some Jvm.ClassFile.FieldType.boolean)) { frames := 0, cells := 0, slots := 0, locals := 0 } (va_Pc [.ref (AD 10 i1 0)] (Wd D cy A μ)) (QcRead (f_X6_hasLeftSince G i1)) 0 0 (fun _ => False) := by
  refine q_met (by decide) (Nat.le_of_ble_eq_true rfl) ?_
  intro p e s m below meth c F w hr hlk hnm ls hl
  have F : CallFix p m c cX6_hasLeftSince 1 s _ BIG RX6 := F
  have hl : lv_has ls 1 [(0, .ref (AD 10 i1 0))] := hl
  refine lv_aload_n F.1 F.2.1 dX6_hasLeftSince_0 rfl (lv_at hl 0 rfl) ?_
  refine gf_X6_201 F w (hM.a10 (hI.o10 (show i1 < gnV G by omega))) rfl dX6_hasLeftSince_1 ?_
  refine gf_X6_174 F w (hM.a6 (hI.o6 (hI.so (show i1 < gnV G by omega)).2)) rfl dX6_hasLeftSince_4 ?_
  refine lv_aload_n F.1 F.2.1 dX6_hasLeftSince_7 rfl (lv_at hl 0 rfl) ?_
  refine jn0 (m := m) (ls := ls) (rest := []) (if G 11 (gnO G i1) = nI i1 then 0 else 1) 16 (fun J_1 => ?_) ?_
  · refine q_acmp_eq (rx := xr AD (G 11 (gnO G i1))) (ry := some (AD 10 i1 0)) (P := G 11 (gnO G i1) = nI i1) (hP := hM.viq hI 11 (by decide) (hI.so (show i1 < gnV G by omega)).2 (show i1 < gnV G by omega)) (tgt := 15) F.1 F.2.1 dX6_hasLeftSince_8 (by decide) (fun c_2 => ?_) (fun c_2 => ?_)
    · refine lv_iconst (v := 0) F.1 F.2.1 dX6_hasLeftSince_15 (by decide) ?_
      exact jn_a (if_pos c_2) J_1
    · refine lv_iconst (v := 1) F.1 F.2.1 dX6_hasLeftSince_11 (by decide) ?_
      refine lv_goto (tgt := 16) F.1 F.2.1 dX6_hasLeftSince_12 (by decide) ?_
      exact jn_a (if_neg c_2) J_1
  exact q_retz F hr hlk rfl (nz_ite nz0 nz1) dX6_hasLeftSince_16
def f_X6_isDetainable (G : GS) (i1 : Nat) : Int32 := if 10 ≤ f_X5_openWeight G i1 then 1 else (if f_X6_familiesNotGood G (gnO G i1) = 0 then 0 else 1)
theorem nz_f_X6_isDetainable (G : GS) (i1 : Nat) : nz (f_X6_isDetainable G i1) := (nz_ite nz1 (nz_ite nz0 nz1))
set_option maxHeartbeats 4000000 in
set_option maxRecDepth 100000 in
theorem c_X6_isDetainable (l : Launch) (D : va_G) (cy : Nat → ClassId) (A : Nat → Prop) (μ : MU) (AD : AM) (G : GS) (hM : RepC cy AD G μ) (hI : InvC G) (i1 : Nat) (hi1 : i1 < gnV G) : Met l yX6_isDetainable (WS yX6_isDetainable cX6_isDetainable 2 (Option.some Jvm.ClassFile.FieldType.boolean)) { frames := 4, cells := 0, slots := 0, locals := 87 } (va_Pc [.ref (AD 0 0 0), .ref (AD 10 i1 0)] (Wd D cy A μ)) (QcRead (f_X6_isDetainable G i1)) 0 0 (fun _ => False) := by
  refine q_met (by decide) (Nat.le_of_ble_eq_true rfl) ?_
  intro p e s m below meth c F w hr hlk hnm ls hl
  have F : CallFix p m c cX6_isDetainable 2 s _ BIG RX6 := F
  have hl : lv_has ls 2 [(0, .ref (AD 0 0 0)), (1, .ref (AD 10 i1 0))] := hl
  refine lv_aload_n F.1 F.2.1 dX6_isDetainable_0 rfl (lv_at hl 1 rfl) ?_
  refine q_rV (rest := []) F w kV_X6_398 hd_X5_openWeight (ci := 6) rfl (c_X5_openWeight l D cy A _ AD G hM hI i1 (show i1 < gnV G by omega)) (hM.a10 (hI.o10 (show i1 < gnV G by omega))) dX6_isDetainable_1 rfl rfl hl.1 ⟨rfl, rfl, Nat.le_of_ble_eq_true rfl, Nat.le_of_ble_eq_true rfl⟩ (Nat.le_of_ble_eq_true rfl) ⟨Nat.zero_le _, Nat.zero_le _⟩ ?_
  refine lv_bipush (v := 10) F.1 F.2.1 dX6_isDetainable_4 (by decide) ?_
  refine jn0 (m := m) (ls := ls) (rest := []) (if 10 ≤ f_X5_openWeight G i1 then 1 else (if f_X6_familiesNotGood G (gnO G i1) = 0 then 0 else 1)) 25 (fun J_1 => ?_) ?_
  · refine lv_icmp_ge (tgt := 20) F.1 F.2.1 dX6_isDetainable_6 (by decide) (fun c_2 => ?_) (fun c_2 => ?_)
    · refine lv_iconst (v := 1) F.1 F.2.1 dX6_isDetainable_20 (by decide) ?_
      refine lv_goto (tgt := 25) F.1 F.2.1 dX6_isDetainable_21 (by decide) ?_
      exact jn_a (if_pos c_2) J_1
    · refine lv_aload_n F.1 F.2.1 dX6_isDetainable_9 rfl (lv_at hl 0 rfl) ?_
      refine lv_aload_n F.1 F.2.1 dX6_isDetainable_10 rfl (lv_at hl 1 rfl) ?_
      refine gf_X6_201 F w (hM.a10 (hI.o10 (show i1 < gnV G by omega))) rfl dX6_isDetainable_11 ?_
      refine q_rV (rest := []) F w kV_X6_120 hd_X6_familiesNotGood (ci := 7) rfl (c_X6_familiesNotGood l D cy A _ AD G hM hI (gnO G i1) (hI.so (show i1 < gnV G by omega)).2) (hM.a0 ⟨by decide, rfl, rfl⟩) dX6_isDetainable_14 rfl rfl hl.1 ⟨rfl, rfl, Nat.le_of_ble_eq_true rfl, Nat.le_of_ble_eq_true rfl⟩ (Nat.le_of_ble_eq_true rfl) ⟨Nat.zero_le _, Nat.zero_le _⟩ ?_
      refine lv_if_eq (tgt := 24) F.1 F.2.1 dX6_isDetainable_17 (by decide) (fun c_3 => ?_) (fun c_3 => ?_)
      · refine lv_iconst (v := 0) F.1 F.2.1 dX6_isDetainable_24 (by decide) ?_
        exact jn_a ((if_neg c_2).trans (if_pos c_3)) J_1
      · refine lv_iconst (v := 1) F.1 F.2.1 dX6_isDetainable_20 (by decide) ?_
        refine lv_goto (tgt := 25) F.1 F.2.1 dX6_isDetainable_21 (by decide) ?_
        exact jn_a ((if_neg c_2).trans (if_neg c_3)) J_1
  exact q_retz F hr hlk rfl (nz_ite nz1 (nz_ite nz0 nz1)) dX6_isDetainable_25
def f_X6_isBanned (G : GS) (i1 : Nat) : Int32 := if G 16 i1 < G 1 0 then 0 else 1
theorem nz_f_X6_isBanned (G : GS) (i1 : Nat) : nz (f_X6_isBanned G i1) := (nz_ite nz0 nz1)
set_option maxHeartbeats 4000000 in
set_option maxRecDepth 100000 in
theorem c_X6_isBanned (l : Launch) (D : va_G) (cy : Nat → ClassId) (A : Nat → Prop) (μ : MU) (AD : AM) (G : GS) (hM : RepC cy AD G μ) (hI : InvC G) (i1 : Nat) (hi1 : i1 < gnS G) : Met l yX6_isBanned (WS yX6_isBanned cX6_isBanned 2 (Option.some Jvm.ClassFile.FieldType.boolean)) { frames := 0, cells := 0, slots := 0, locals := 0 } (va_Pc [.ref (AD 0 0 0), .ref (AD 6 i1 0)] (Wd D cy A μ)) (QcRead (f_X6_isBanned G i1)) 0 0 (fun _ => False) := by
  refine q_met (by decide) (Nat.le_of_ble_eq_true rfl) ?_
  intro p e s m below meth c F w hr hlk hnm ls hl
  have F : CallFix p m c cX6_isBanned 2 s _ BIG RX6 := F
  have hl : lv_has ls 2 [(0, .ref (AD 0 0 0)), (1, .ref (AD 6 i1 0))] := hl
  refine lv_aload_n F.1 F.2.1 dX6_isBanned_0 rfl (lv_at hl 0 rfl) ?_
  refine gf_X6_30 F w (hM.a0 ⟨by decide, rfl, rfl⟩) rfl dX6_isBanned_1 ?_
  refine lv_aload_n F.1 F.2.1 dX6_isBanned_4 rfl (lv_at hl 1 rfl) ?_
  refine gf_X6_411 F w (hM.a6 (hI.o6 (show i1 < gnS G by omega))) rfl dX6_isBanned_5 ?_
  refine jn0 (m := m) (ls := ls) (rest := []) (if G 16 i1 < G 1 0 then 0 else 1) 16 (fun J_1 => ?_) ?_
  · refine lv_icmp_gt (tgt := 15) F.1 F.2.1 dX6_isBanned_8 (by decide) (fun c_2 => ?_) (fun c_2 => ?_)
    · refine lv_iconst (v := 0) F.1 F.2.1 dX6_isBanned_15 (by decide) ?_
      exact jn_a (if_pos c_2) J_1
    · refine lv_iconst (v := 1) F.1 F.2.1 dX6_isBanned_11 (by decide) ?_
      refine lv_goto (tgt := 16) F.1 F.2.1 dX6_isBanned_12 (by decide) ?_
      exact jn_a (if_neg c_2) J_1
  exact q_retz F hr hlk rfl (nz_ite nz0 nz1) dX6_isBanned_16
