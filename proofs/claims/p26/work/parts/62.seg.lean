set_option maxHeartbeats 4000000 in
set_option maxRecDepth 100000 in
theorem lc_issue_r {p : Program} {l : Launch} {e : Env} {R : Room} {s : State} {m : MethodId} {args : Array Value} {below : List Frame} {meth : Method} {c : Code} {Q : State → Prop} {D : va_G} {cy : Nat → ClassId} {A : Nat → Prop} {o b t i v : Nat} {ad : Nat → Nat} {u v12 : Int32} {n n1 c1 s1 : Nat} {G M S : GS} {Wf : Nat → Int64} {k : Nat} (F : CallFix p m c cL_law 40 s args BIG RL) (hlf : l.stackTraces = false) (hRm : 11 ≤ R.frames ∧ 278 ≤ R.locals ∧ c1 ≤ R.cells ∧ s1 ≤ R.slots) (h511 : n1 ≤ 511) (K : KJ p l e R s m args below meth c Q D cy A o b t ad u n1 c1 s1) (hR : R26 n G M S Wf) (hi4 : i < 4) (hk : k ≤ 5) (hi : i < gnS M) (KN : ∀ {n : Nat} {G M S : GS} {Wf : Nat → Int64} {X Y : MU} {AD : AM} {H : Heap} {locs : List Loc} {cells slots : Nat} {ls : Array Slot}, R26 n G M S Wf → i < gnS M → k < 5 → (cells + (5 - (k + 1)) ≤ c1 ∧ slots + 6 * (5 - (k + 1)) ≤ s1) → n + 0 ≤ n1 → AD 0 0 0 = o → dis X Y → RepC cy AD G X → RepL cy ad S Wf Y → WW D cy A (un X Y) s H locs → lv_has ls 40 [(22, .int (nI (k + 1))), (0, .ref b), (1, .ref o), (2, .ref (ad 2)), (3, .ref (ad 3)), (4, .ref (ad 4)), (5, .ref (ad 5)), (6, .ref (ad 6)), (7, .ref (ad 7)), (8, .ref (ad 8)), (9, .ref (ad 9)), (10, .ref (ad 10)), (11, .int (nI t)), (12, .int v12), (13, .int u), (14, .int (nI i)), (15, .int (nI (14 * i))), (16, .int (nI v)), (17, .int 1)] → W p l e R s m args below meth c H locs cells slots Q (F0 m 955 ls [])) {X Y : MU} {AD : AM} {H : Heap} {locs : List Loc} {cells slots : Nat} (hf : cells + (5 - k) ≤ c1 ∧ slots + 6 * (5 - k) ≤ s1) (hn : n + 0 ≤ n1) (ho : AD 0 0 0 = o) (hd : dis X Y) (hM : RepC cy AD G X) (hY : RepL cy ad S Wf Y) (w : WW D cy A (un X Y) s H locs) {ls : Array Slot} (hl : lv_has ls 40 [(22, .int (nI k)), (0, .ref b), (1, .ref o), (2, .ref (ad 2)), (3, .ref (ad 3)), (4, .ref (ad 4)), (5, .ref (ad 5)), (6, .ref (ad 6)), (7, .ref (ad 7)), (8, .ref (ad 8)), (9, .ref (ad 9)), (10, .ref (ad 10)), (11, .int (nI t)), (12, .int v12), (13, .int u), (14, .int (nI i)), (15, .int (nI (14 * i))), (16, .int (nI v)), (17, .int 1)]) : W p l e R s m args below meth c H locs cells slots Q (F0 m 955 ls []) := by
  have hL := hY.un hd
  obtain ⟨t9, ht9, ht⟩ := hR.td
  have hb4 := hR.b
  have heV := hR.eV
  refine lv_iload F.1 F.2.1 dL_law_955 (lv_at hl 0 rfl) ?_
  refine lv_iconst (v := 5) F.1 F.2.1 dL_law_957 (by decide) ?_
  refine lv_icmp_ge (tgt := 1148) F.1 F.2.1 dL_law_958 (by decide) (fun c_1 => ?_) (fun c_1 => ?_)
  · refine lv_goto (tgt := 3461) F.1 F.2.1 dL_law_1148 (by decide) ?_
    refine W.widen (k := c1) (n := s1) (by omega) (by omega) ?_
    exact K _ _ ls ⟨X, Y, AD, _, _, _, _, ho, hd, hM, hY, w, R26.ups hR (by omega)⟩ (lv_sub hl [18, 1, 2, 3, 4, 5, 6, 7, 8, 9, 10, 11, 12, 14] rfl)
  · have hk5 : k < 5 := Nat.lt_of_not_le (fun q => c_1 (nI_le (a := 5) q (by omega)))
    refine lv_iconst (v := 1) F.1 F.2.1 dL_law_961 (by decide) ?_
    refine lv_iload F.1 F.2.1 dL_law_962 (lv_at hl 14 rfl) ?_
    refine lv_iconst (v := 3) F.1 F.2.1 dL_law_964 (by decide) ?_
    refine lv_ishr F.1 F.2.1 dL_law_965 ?_
    refine lv_iload F.1 F.2.1 dL_law_966 (lv_at hl 14 rfl) ?_
    refine lv_ldc F.1 F.2.1 F.2.2.2.1 (F.2.2.2.2 _ wK_L_174) dL_law_968 ?_
    refine lv_iand F.1 F.2.1 dL_law_970 ?_
    refine lv_if_ne (tgt := 980) F.1 F.2.1 dL_law_971 (by decide) (fun c_2 => ?_) (fun c_2 => ?_)
    · refine lv_sipush (v := 500) F.1 F.2.1 dL_law_980 (by decide) ?_
      obtain ⟨q983, hq983, eq983⟩ := low_ok (u >>> (3 &&& 31)) (n := 500) (by omega) (by omega)
      refine q_rS (rest := [.int 1]) F w kS_L_134 hd_L_low (c_L_low l D cy A _ (u >>> (3 &&& 31)) 500 (by decide)) dL_law_983 rfl rfl hl.1 ⟨rfl, rfl, (show 1 ≤ R.frames by omega), (show 21 ≤ R.locals by omega)⟩ (Nat.le_of_ble_eq_true rfl) ⟨by omega, by omega⟩ ?_
      refine lv_fold (y := nI q983) eq983 ?_
      refine lv_iadd F.1 F.2.1 dL_law_986 ?_
      refine lv_fold (y := nI (1 + q983)) (nI_add 1 q983) ?_
      refine lv_istore (lv' := [(23, .int (nI (1 + q983))), (22, .int (nI k)), (0, .ref b), (1, .ref o), (2, .ref (ad 2)), (3, .ref (ad 3)), (4, .ref (ad 4)), (5, .ref (ad 5)), (6, .ref (ad 6)), (7, .ref (ad 7)), (8, .ref (ad 8)), (9, .ref (ad 9)), (10, .ref (ad 10)), (11, .int (nI t)), (12, .int v12), (13, .int u), (14, .int (nI i)), (15, .int (nI (14 * i))), (16, .int (nI v)), (17, .int 1)]) F.1 F.2.1 dL_law_987 hl (by decide) rfl (fun ls hl => ?_)
      refine lv_iload F.1 F.2.1 dL_law_989 (lv_at hl 16 rfl) ?_
      refine lv_aload_n F.1 F.2.1 dL_law_991 rfl (lv_at hl 5 rfl) ?_
      refine lv_aload F.1 F.2.1 dL_law_992 (lv_at hl 12 rfl) ?_
      refine q_rS (rest := []) F w kS_L_130 hd_L_lapsed (c_L_lapsed l D cy A _ ad S Wf hL i (show i < 4 by omega) hR.cok) dL_law_994 rfl rfl hl.1 ⟨rfl, rfl, (show 2 ≤ R.frames by omega), (show 51 ≤ R.locals by omega)⟩ (Nat.le_of_ble_eq_true rfl) ⟨by omega, by omega⟩ ?_
      refine lv_istore (lv' := [(24, .int (f_L_lapsed S i)), (23, .int (nI (1 + q983))), (22, .int (nI k)), (0, .ref b), (1, .ref o), (2, .ref (ad 2)), (3, .ref (ad 3)), (4, .ref (ad 4)), (5, .ref (ad 5)), (6, .ref (ad 6)), (7, .ref (ad 7)), (8, .ref (ad 8)), (9, .ref (ad 9)), (10, .ref (ad 10)), (11, .int (nI t)), (12, .int v12), (13, .int u), (14, .int (nI i)), (15, .int (nI (14 * i))), (16, .int (nI v)), (17, .int 1)]) F.1 F.2.1 dL_law_997 hl (by decide) rfl (fun ls hl => ?_)
      refine lv_aload F.1 F.2.1 dL_law_999 (lv_at hl 13 rfl) ?_
      refine lv_bipush (v := 7) F.1 F.2.1 dL_law_1001 (by decide) ?_
      refine l_ild F w hL 10 rfl 7 (show 7 < 9 by omega) dL_law_1003 ?_
      refine lv_aload_n F.1 F.2.1 dL_law_1004 rfl (lv_at hl 5 rfl) ?_
      refine lv_iload F.1 F.2.1 dL_law_1005 (lv_at hl 18 rfl) ?_
      refine lv_iconst (v := 4) F.1 F.2.1 dL_law_1007 (by decide) ?_
      refine lv_iadd F.1 F.2.1 dL_law_1008 ?_
      refine lv_fold (y := nI ((14 * i) + 4)) (nI_add (14 * i) 4) ?_
      refine l_ild F w hL 2 rfl ((14 * i) + 4) (show (14 * i) + 4 < 56 by omega) dL_law_1009 ?_
      refine lv_ishr F.1 F.2.1 dL_law_1010 ?_
      refine lv_iconst (v := 1) F.1 F.2.1 dL_law_1011 (by decide) ?_
      refine lv_iand F.1 F.2.1 dL_law_1012 ?_
      refine lv_if_ne (tgt := 1050) F.1 F.2.1 dL_law_1013 (by decide) (fun c_3 => ?_) (fun c_3 => ?_)
      · refine lv_iconst (v := 0) F.1 F.2.1 dL_law_1050 (by decide) ?_
        refine lv_istore (lv' := [(25, .int 0), (24, .int (f_L_lapsed S i)), (23, .int (nI (1 + q983))), (22, .int (nI k)), (0, .ref b), (1, .ref o), (2, .ref (ad 2)), (3, .ref (ad 3)), (4, .ref (ad 4)), (5, .ref (ad 5)), (6, .ref (ad 6)), (7, .ref (ad 7)), (8, .ref (ad 8)), (9, .ref (ad 9)), (10, .ref (ad 10)), (11, .int (nI t)), (12, .int v12), (13, .int u), (14, .int (nI i)), (15, .int (nI (14 * i))), (16, .int (nI v)), (17, .int 1)]) F.1 F.2.1 dL_law_1051 hl (by decide) rfl (fun ls hl => ?_)
        refine lv_iload F.1 F.2.1 dL_law_1053 (lv_at hl 21 rfl) ?_
        refine lv_aload_n F.1 F.2.1 dL_law_1055 rfl (lv_at hl 5 rfl) ?_
        refine lv_iload F.1 F.2.1 dL_law_1056 (lv_at hl 18 rfl) ?_
        refine lv_iload F.1 F.2.1 dL_law_1058 (lv_at hl 3 rfl) ?_
        refine lv_iload F.1 F.2.1 dL_law_1060 (lv_at hl 2 rfl) ?_
        refine lw_issue (rest := [.int 1]) F w hd hM ho hR.r.ic (nI i) (nI k) (nI (1 + q983)) hlf dL_law_1062 hl.1 ⟨by omega, by omega⟩ (Nat.le_of_ble_eq_true rfl) ⟨by omega, by omega⟩ (fun v1062 X AD H locs hv1062 ho hd hM w => ?_)
        have hL := hY.un hd
        refine lv_fold (y := (-7300)) (hv1062.trans ((is_no1 hR hi hk5 (T := 1 + q983) (by omega) (by omega) c_3).1)) ?_
        refine lv_iload F.1 F.2.1 dL_law_1065 (lv_at hl 0 rfl) ?_
        refine lv_if_eq (tgt := 1080) F.1 F.2.1 dL_law_1067 (by decide) (fun c_4 => ?_) (fun c_4 => absurd rfl c_4)
        refine lv_sipush (v := -7300) F.1 F.2.1 dL_law_1080 (by decide) ?_
        refine lv_icmp_ne (tgt := 1090) F.1 F.2.1 dL_law_1083 (by decide) (fun c_5 => absurd rfl c_5) (fun c_5 => ?_)
        refine lv_iconst (v := 1) F.1 F.2.1 dL_law_1086 (by decide) ?_
        refine lv_goto (tgt := 1091) F.1 F.2.1 dL_law_1087 (by decide) ?_
        refine lv_iand F.1 F.2.1 dL_law_1091 ?_
        refine lv_fold (y := 1) (by decide) ?_
        refine lv_istore (lv' := [(17, .int 1), (25, .int 0), (24, .int (f_L_lapsed S i)), (23, .int (nI (1 + q983))), (22, .int (nI k)), (0, .ref b), (1, .ref o), (2, .ref (ad 2)), (3, .ref (ad 3)), (4, .ref (ad 4)), (5, .ref (ad 5)), (6, .ref (ad 6)), (7, .ref (ad 7)), (8, .ref (ad 8)), (9, .ref (ad 9)), (10, .ref (ad 10)), (11, .int (nI t)), (12, .int v12), (13, .int u), (14, .int (nI i)), (15, .int (nI (14 * i))), (16, .int (nI v))]) F.1 F.2.1 dL_law_1092 hl (by decide) rfl (fun ls hl => ?_)
        refine lv_iload F.1 F.2.1 dL_law_1094 (lv_at hl 1 rfl) ?_
        refine lv_if_ne (tgt := 1102) F.1 F.2.1 dL_law_1096 (by decide) (fun c_6 => absurd rfl c_6) (fun c_6 => ?_)
        refine lv_goto (tgt := 1142) F.1 F.2.1 dL_law_1099 (by decide) ?_
        refine lv_iinc (v := nI (k + 1)) (lv' := [(22, .int (nI (k + 1))), (17, .int 1), (25, .int 0), (24, .int (f_L_lapsed S i)), (23, .int (nI (1 + q983))), (0, .ref b), (1, .ref o), (2, .ref (ad 2)), (3, .ref (ad 3)), (4, .ref (ad 4)), (5, .ref (ad 5)), (6, .ref (ad 6)), (7, .ref (ad 7)), (8, .ref (ad 8)), (9, .ref (ad 9)), (10, .ref (ad 10)), (11, .int (nI t)), (12, .int v12), (13, .int u), (14, .int (nI i)), (15, .int (nI (14 * i))), (16, .int (nI v))]) F.1 F.2.1 dL_law_1142 hl (k := 4) rfl (nI_1 _) (by decide) rfl (fun ls hl => ?_)
        refine lv_goto (tgt := 955) F.1 F.2.1 dL_law_1145 (by decide) ?_
        rw [(is_no1 hR hi hk5 (T := 1 + q983) (by omega) (by omega) c_3).2] at hM
        exact KN hR hi hk5 ⟨by omega, by omega⟩ (by omega) ho hd hM hY w (lv_sub hl [0, 5, 6, 7, 8, 9, 10, 11, 12, 13, 14, 15, 16, 17, 18, 19, 20, 21, 1] rfl)
      · refine lv_iload F.1 F.2.1 dL_law_1016 (lv_at hl 2 rfl) ?_
        refine lv_if_eq (tgt := 1046) F.1 F.2.1 dL_law_1018 (by decide) (fun c_7 => ?_) (fun c_7 => ?_)
        · refine lv_iconst (v := 1) F.1 F.2.1 dL_law_1046 (by decide) ?_
          refine lv_goto (tgt := 1051) F.1 F.2.1 dL_law_1047 (by decide) ?_
          refine lv_istore (lv' := [(25, .int 1), (24, .int (f_L_lapsed S i)), (23, .int (nI (1 + q983))), (22, .int (nI k)), (0, .ref b), (1, .ref o), (2, .ref (ad 2)), (3, .ref (ad 3)), (4, .ref (ad 4)), (5, .ref (ad 5)), (6, .ref (ad 6)), (7, .ref (ad 7)), (8, .ref (ad 8)), (9, .ref (ad 9)), (10, .ref (ad 10)), (11, .int (nI t)), (12, .int v12), (13, .int u), (14, .int (nI i)), (15, .int (nI (14 * i))), (16, .int (nI v)), (17, .int 1)]) F.1 F.2.1 dL_law_1051 hl (by decide) rfl (fun ls hl => ?_)
          refine lv_iload F.1 F.2.1 dL_law_1053 (lv_at hl 21 rfl) ?_
          refine lv_aload_n F.1 F.2.1 dL_law_1055 rfl (lv_at hl 5 rfl) ?_
          refine lv_iload F.1 F.2.1 dL_law_1056 (lv_at hl 18 rfl) ?_
          refine lv_iload F.1 F.2.1 dL_law_1058 (lv_at hl 3 rfl) ?_
          refine lv_iload F.1 F.2.1 dL_law_1060 (lv_at hl 2 rfl) ?_
          refine lw_issue (rest := [.int 1]) F w hd hM ho hR.r.ic (nI i) (nI k) (nI (1 + q983)) hlf dL_law_1062 hl.1 ⟨by omega, by omega⟩ (Nat.le_of_ble_eq_true rfl) ⟨by omega, by omega⟩ (fun v1062 X AD H locs hv1062 ho hd hM w => ?_)
          have hL := hY.un hd
          refine lv_fold (y := (S 10 0) + (nI (1 + q983))) (hv1062.trans ((is_ok hR hi hk5 (T := 1 + q983) (by omega) (by omega) c_3 (Or.inl c_7)).1)) ?_
          refine lv_iload F.1 F.2.1 dL_law_1065 (lv_at hl 0 rfl) ?_
          refine lv_if_eq (tgt := 1080) F.1 F.2.1 dL_law_1067 (by decide) (fun c_8 => absurd c_8 (by decide)) (fun c_8 => ?_)
          refine lv_aload F.1 F.2.1 dL_law_1070 (lv_at hl 14 rfl) ?_
          refine lv_iconst (v := 0) F.1 F.2.1 dL_law_1072 (by decide) ?_
          refine l_ild F w hL 10 rfl 0 (show 0 < 9 by omega) dL_law_1073 ?_
          refine lv_iload F.1 F.2.1 dL_law_1074 (lv_at hl 2 rfl) ?_
          refine lv_iadd F.1 F.2.1 dL_law_1076 ?_
          refine lv_goto (tgt := 1083) F.1 F.2.1 dL_law_1077 (by decide) ?_
          refine lv_icmp_ne (tgt := 1090) F.1 F.2.1 dL_law_1083 (by decide) (fun c_9 => absurd rfl c_9) (fun c_9 => ?_)
          refine lv_iconst (v := 1) F.1 F.2.1 dL_law_1086 (by decide) ?_
          refine lv_goto (tgt := 1091) F.1 F.2.1 dL_law_1087 (by decide) ?_
          refine lv_iand F.1 F.2.1 dL_law_1091 ?_
          refine lv_fold (y := 1) (by decide) ?_
          refine lv_istore (lv' := [(17, .int 1), (25, .int 1), (24, .int (f_L_lapsed S i)), (23, .int (nI (1 + q983))), (22, .int (nI k)), (0, .ref b), (1, .ref o), (2, .ref (ad 2)), (3, .ref (ad 3)), (4, .ref (ad 4)), (5, .ref (ad 5)), (6, .ref (ad 6)), (7, .ref (ad 7)), (8, .ref (ad 8)), (9, .ref (ad 9)), (10, .ref (ad 10)), (11, .int (nI t)), (12, .int v12), (13, .int u), (14, .int (nI i)), (15, .int (nI (14 * i))), (16, .int (nI v))]) F.1 F.2.1 dL_law_1092 hl (by decide) rfl (fun ls hl => ?_)
          refine lv_iload F.1 F.2.1 dL_law_1094 (lv_at hl 1 rfl) ?_
          refine lv_if_ne (tgt := 1102) F.1 F.2.1 dL_law_1096 (by decide) (fun c_10 => ?_) (fun c_10 => absurd c_10 (by decide))
          refine lv_bipush (v := 15) F.1 F.2.1 dL_law_1102 (by decide) ?_
          refine lv_iload F.1 F.2.1 dL_law_1104 (lv_at hl 19 rfl) ?_
          refine lv_imul F.1 F.2.1 dL_law_1106 ?_
          refine lv_fold (y := nI (15 * i)) (pk_mul 15 i) ?_
          refine lv_iconst (v := 3) F.1 F.2.1 dL_law_1107 (by decide) ?_
          refine lv_iload F.1 F.2.1 dL_law_1108 (lv_at hl 4 rfl) ?_
          refine lv_imul F.1 F.2.1 dL_law_1110 ?_
          refine lv_fold (y := nI (3 * k)) (pk_mul 3 k) ?_
          refine lv_iadd F.1 F.2.1 dL_law_1111 ?_
          refine lv_fold (y := nI ((15 * i) + (3 * k))) (nI_add _ _) ?_
          refine lv_istore (lv' := [(26, .int (nI ((15 * i) + (3 * k)))), (17, .int 1), (25, .int 1), (24, .int (f_L_lapsed S i)), (23, .int (nI (1 + q983))), (22, .int (nI k)), (0, .ref b), (1, .ref o), (2, .ref (ad 2)), (3, .ref (ad 3)), (4, .ref (ad 4)), (5, .ref (ad 5)), (6, .ref (ad 6)), (7, .ref (ad 7)), (8, .ref (ad 8)), (9, .ref (ad 9)), (10, .ref (ad 10)), (11, .int (nI t)), (12, .int v12), (13, .int u), (14, .int (nI i)), (15, .int (nI (14 * i))), (16, .int (nI v))]) F.1 F.2.1 dL_law_1112 hl (by decide) rfl (fun ls hl => ?_)
          refine lv_aload_n F.1 F.2.1 dL_law_1114 rfl (lv_at hl 9 rfl) ?_
          refine lv_iload F.1 F.2.1 dL_law_1115 (lv_at hl 0 rfl) ?_
          refine lv_aload F.1 F.2.1 dL_law_1117 (lv_at hl 16 rfl) ?_
          refine lv_iconst (v := 0) F.1 F.2.1 dL_law_1119 (by decide) ?_
          refine l_ild F w hL 10 rfl 0 (show 0 < 9 by omega) dL_law_1120 ?_
          refine l_ist F w hd hY 3 rfl ((15 * i) + (3 * k)) (show (15 * i) + (3 * k) < 60 by omega) dL_law_1121 (fun H locs Y hd hY w => ?_)
          have hL := hY.un hd
          refine lv_aload_n F.1 F.2.1 dL_law_1122 rfl (lv_at hl 9 rfl) ?_
          refine lv_iload F.1 F.2.1 dL_law_1123 (lv_at hl 0 rfl) ?_
          refine lv_iconst (v := 1) F.1 F.2.1 dL_law_1125 (by decide) ?_
          refine lv_iadd F.1 F.2.1 dL_law_1126 ?_
          refine lv_fold (y := nI ((15 * i) + (3 * k) + 1)) (nI_add ((15 * i) + (3 * k)) 1) ?_
          refine lv_iload F.1 F.2.1 dL_law_1127 (lv_at hl 4 rfl) ?_
          refine l_ist F w hd hY 3 rfl ((15 * i) + (3 * k) + 1) (show (15 * i) + (3 * k) + 1 < 60 by omega) dL_law_1129 (fun H locs Y hd hY w => ?_)
          have hL := hY.un hd
          refine lv_aload_n F.1 F.2.1 dL_law_1130 rfl (lv_at hl 9 rfl) ?_
          refine lv_iload F.1 F.2.1 dL_law_1131 (lv_at hl 0 rfl) ?_
          refine lv_iconst (v := 2) F.1 F.2.1 dL_law_1133 (by decide) ?_
          refine lv_iadd F.1 F.2.1 dL_law_1134 ?_
          refine lv_fold (y := nI ((15 * i) + (3 * k) + 2)) (nI_add ((15 * i) + (3 * k)) 2) ?_
          refine lv_aload_n F.1 F.2.1 dL_law_1135 rfl (lv_at hl 8 rfl) ?_
          refine lv_iload F.1 F.2.1 dL_law_1136 (lv_at hl 21 rfl) ?_
          refine lv_iconst (v := 4) F.1 F.2.1 dL_law_1138 (by decide) ?_
          refine lv_iadd F.1 F.2.1 dL_law_1139 ?_
          refine lv_fold (y := nI ((14 * i) + 4)) (nI_add (14 * i) 4) ?_
          refine l_ild F w hL 2 rfl ((14 * i) + 4) (show (14 * i) + 4 < 56 by omega) dL_law_1140 ?_
          refine lv_fold (y := S 2 ((14 * i) + 4)) ((up2_r (by decide)).trans (up2_r (by decide))) ?_
          refine l_ist F w hd hY 3 rfl ((15 * i) + (3 * k) + 2) (show (15 * i) + (3 * k) + 2 < 60 by omega) dL_law_1141 (fun H locs Y hd hY w => ?_)
          have hL := hY.un hd
          refine lv_iinc (v := nI (k + 1)) (lv' := [(22, .int (nI (k + 1))), (26, .int (nI ((15 * i) + (3 * k)))), (17, .int 1), (25, .int 1), (24, .int (f_L_lapsed S i)), (23, .int (nI (1 + q983))), (0, .ref b), (1, .ref o), (2, .ref (ad 2)), (3, .ref (ad 3)), (4, .ref (ad 4)), (5, .ref (ad 5)), (6, .ref (ad 6)), (7, .ref (ad 7)), (8, .ref (ad 8)), (9, .ref (ad 9)), (10, .ref (ad 10)), (11, .int (nI t)), (12, .int v12), (13, .int u), (14, .int (nI i)), (15, .int (nI (14 * i))), (16, .int (nI v))]) F.1 F.2.1 dL_law_1142 hl (k := 5) rfl (nI_1 _) (by decide) rfl (fun ls hl => ?_)
          refine lv_goto (tgt := 955) F.1 F.2.1 dL_law_1145 (by decide) ?_
          exact KN ((is_ok hR hi hk5 (T := 1 + q983) (by omega) (by omega) c_3 (Or.inl c_7)).2) hi hk5 ⟨by omega, by omega⟩ (by omega) ho hd hM hY w (lv_sub hl [0, 6, 7, 8, 9, 10, 11, 12, 13, 14, 15, 16, 17, 18, 19, 20, 21, 22, 2] rfl)
        · refine lv_iload F.1 F.2.1 dL_law_1021 (lv_at hl 2 rfl) ?_
          refine lv_iconst (v := 4) F.1 F.2.1 dL_law_1023 (by decide) ?_
          refine lv_icmp_eq (tgt := 1046) F.1 F.2.1 dL_law_1024 (by decide) (fun c_11 => ?_) (fun c_11 => ?_)
          · refine lv_iconst (v := 1) F.1 F.2.1 dL_law_1046 (by decide) ?_
            refine lv_goto (tgt := 1051) F.1 F.2.1 dL_law_1047 (by decide) ?_
            refine lv_istore (lv' := [(25, .int 1), (24, .int (f_L_lapsed S i)), (23, .int (nI (1 + q983))), (22, .int (nI k)), (0, .ref b), (1, .ref o), (2, .ref (ad 2)), (3, .ref (ad 3)), (4, .ref (ad 4)), (5, .ref (ad 5)), (6, .ref (ad 6)), (7, .ref (ad 7)), (8, .ref (ad 8)), (9, .ref (ad 9)), (10, .ref (ad 10)), (11, .int (nI t)), (12, .int v12), (13, .int u), (14, .int (nI i)), (15, .int (nI (14 * i))), (16, .int (nI v)), (17, .int 1)]) F.1 F.2.1 dL_law_1051 hl (by decide) rfl (fun ls hl => ?_)
            refine lv_iload F.1 F.2.1 dL_law_1053 (lv_at hl 21 rfl) ?_
            refine lv_aload_n F.1 F.2.1 dL_law_1055 rfl (lv_at hl 5 rfl) ?_
            refine lv_iload F.1 F.2.1 dL_law_1056 (lv_at hl 18 rfl) ?_
            refine lv_iload F.1 F.2.1 dL_law_1058 (lv_at hl 3 rfl) ?_
            refine lv_iload F.1 F.2.1 dL_law_1060 (lv_at hl 2 rfl) ?_
            refine lw_issue (rest := [.int 1]) F w hd hM ho hR.r.ic (nI i) (nI k) (nI (1 + q983)) hlf dL_law_1062 hl.1 ⟨by omega, by omega⟩ (Nat.le_of_ble_eq_true rfl) ⟨by omega, by omega⟩ (fun v1062 X AD H locs hv1062 ho hd hM w => ?_)
            have hL := hY.un hd
            refine lv_fold (y := (S 10 0) + (nI (1 + q983))) (hv1062.trans ((is_ok hR hi hk5 (T := 1 + q983) (by omega) (by omega) c_3 (Or.inr (Or.inl c_11))).1)) ?_
            refine lv_iload F.1 F.2.1 dL_law_1065 (lv_at hl 0 rfl) ?_
            refine lv_if_eq (tgt := 1080) F.1 F.2.1 dL_law_1067 (by decide) (fun c_12 => absurd c_12 (by decide)) (fun c_12 => ?_)
            refine lv_aload F.1 F.2.1 dL_law_1070 (lv_at hl 14 rfl) ?_
            refine lv_iconst (v := 0) F.1 F.2.1 dL_law_1072 (by decide) ?_
            refine l_ild F w hL 10 rfl 0 (show 0 < 9 by omega) dL_law_1073 ?_
            refine lv_iload F.1 F.2.1 dL_law_1074 (lv_at hl 2 rfl) ?_
            refine lv_iadd F.1 F.2.1 dL_law_1076 ?_
            refine lv_goto (tgt := 1083) F.1 F.2.1 dL_law_1077 (by decide) ?_
            refine lv_icmp_ne (tgt := 1090) F.1 F.2.1 dL_law_1083 (by decide) (fun c_13 => absurd rfl c_13) (fun c_13 => ?_)
            refine lv_iconst (v := 1) F.1 F.2.1 dL_law_1086 (by decide) ?_
            refine lv_goto (tgt := 1091) F.1 F.2.1 dL_law_1087 (by decide) ?_
            refine lv_iand F.1 F.2.1 dL_law_1091 ?_
            refine lv_fold (y := 1) (by decide) ?_
            refine lv_istore (lv' := [(17, .int 1), (25, .int 1), (24, .int (f_L_lapsed S i)), (23, .int (nI (1 + q983))), (22, .int (nI k)), (0, .ref b), (1, .ref o), (2, .ref (ad 2)), (3, .ref (ad 3)), (4, .ref (ad 4)), (5, .ref (ad 5)), (6, .ref (ad 6)), (7, .ref (ad 7)), (8, .ref (ad 8)), (9, .ref (ad 9)), (10, .ref (ad 10)), (11, .int (nI t)), (12, .int v12), (13, .int u), (14, .int (nI i)), (15, .int (nI (14 * i))), (16, .int (nI v))]) F.1 F.2.1 dL_law_1092 hl (by decide) rfl (fun ls hl => ?_)
            refine lv_iload F.1 F.2.1 dL_law_1094 (lv_at hl 1 rfl) ?_
            refine lv_if_ne (tgt := 1102) F.1 F.2.1 dL_law_1096 (by decide) (fun c_14 => ?_) (fun c_14 => absurd c_14 (by decide))
            refine lv_bipush (v := 15) F.1 F.2.1 dL_law_1102 (by decide) ?_
            refine lv_iload F.1 F.2.1 dL_law_1104 (lv_at hl 19 rfl) ?_
            refine lv_imul F.1 F.2.1 dL_law_1106 ?_
            refine lv_fold (y := nI (15 * i)) (pk_mul 15 i) ?_
            refine lv_iconst (v := 3) F.1 F.2.1 dL_law_1107 (by decide) ?_
            refine lv_iload F.1 F.2.1 dL_law_1108 (lv_at hl 4 rfl) ?_
            refine lv_imul F.1 F.2.1 dL_law_1110 ?_
            refine lv_fold (y := nI (3 * k)) (pk_mul 3 k) ?_
            refine lv_iadd F.1 F.2.1 dL_law_1111 ?_
            refine lv_fold (y := nI ((15 * i) + (3 * k))) (nI_add _ _) ?_
            refine lv_istore (lv' := [(26, .int (nI ((15 * i) + (3 * k)))), (17, .int 1), (25, .int 1), (24, .int (f_L_lapsed S i)), (23, .int (nI (1 + q983))), (22, .int (nI k)), (0, .ref b), (1, .ref o), (2, .ref (ad 2)), (3, .ref (ad 3)), (4, .ref (ad 4)), (5, .ref (ad 5)), (6, .ref (ad 6)), (7, .ref (ad 7)), (8, .ref (ad 8)), (9, .ref (ad 9)), (10, .ref (ad 10)), (11, .int (nI t)), (12, .int v12), (13, .int u), (14, .int (nI i)), (15, .int (nI (14 * i))), (16, .int (nI v))]) F.1 F.2.1 dL_law_1112 hl (by decide) rfl (fun ls hl => ?_)
            refine lv_aload_n F.1 F.2.1 dL_law_1114 rfl (lv_at hl 9 rfl) ?_
            refine lv_iload F.1 F.2.1 dL_law_1115 (lv_at hl 0 rfl) ?_
            refine lv_aload F.1 F.2.1 dL_law_1117 (lv_at hl 16 rfl) ?_
            refine lv_iconst (v := 0) F.1 F.2.1 dL_law_1119 (by decide) ?_
            refine l_ild F w hL 10 rfl 0 (show 0 < 9 by omega) dL_law_1120 ?_
            refine l_ist F w hd hY 3 rfl ((15 * i) + (3 * k)) (show (15 * i) + (3 * k) < 60 by omega) dL_law_1121 (fun H locs Y hd hY w => ?_)
            have hL := hY.un hd
            refine lv_aload_n F.1 F.2.1 dL_law_1122 rfl (lv_at hl 9 rfl) ?_
            refine lv_iload F.1 F.2.1 dL_law_1123 (lv_at hl 0 rfl) ?_
            refine lv_iconst (v := 1) F.1 F.2.1 dL_law_1125 (by decide) ?_
            refine lv_iadd F.1 F.2.1 dL_law_1126 ?_
            refine lv_fold (y := nI ((15 * i) + (3 * k) + 1)) (nI_add ((15 * i) + (3 * k)) 1) ?_
            refine lv_iload F.1 F.2.1 dL_law_1127 (lv_at hl 4 rfl) ?_
            refine l_ist F w hd hY 3 rfl ((15 * i) + (3 * k) + 1) (show (15 * i) + (3 * k) + 1 < 60 by omega) dL_law_1129 (fun H locs Y hd hY w => ?_)
            have hL := hY.un hd
            refine lv_aload_n F.1 F.2.1 dL_law_1130 rfl (lv_at hl 9 rfl) ?_
            refine lv_iload F.1 F.2.1 dL_law_1131 (lv_at hl 0 rfl) ?_
            refine lv_iconst (v := 2) F.1 F.2.1 dL_law_1133 (by decide) ?_
            refine lv_iadd F.1 F.2.1 dL_law_1134 ?_
            refine lv_fold (y := nI ((15 * i) + (3 * k) + 2)) (nI_add ((15 * i) + (3 * k)) 2) ?_
            refine lv_aload_n F.1 F.2.1 dL_law_1135 rfl (lv_at hl 8 rfl) ?_
            refine lv_iload F.1 F.2.1 dL_law_1136 (lv_at hl 21 rfl) ?_
            refine lv_iconst (v := 4) F.1 F.2.1 dL_law_1138 (by decide) ?_
            refine lv_iadd F.1 F.2.1 dL_law_1139 ?_
            refine lv_fold (y := nI ((14 * i) + 4)) (nI_add (14 * i) 4) ?_
            refine l_ild F w hL 2 rfl ((14 * i) + 4) (show (14 * i) + 4 < 56 by omega) dL_law_1140 ?_
            refine lv_fold (y := S 2 ((14 * i) + 4)) ((up2_r (by decide)).trans (up2_r (by decide))) ?_
            refine l_ist F w hd hY 3 rfl ((15 * i) + (3 * k) + 2) (show (15 * i) + (3 * k) + 2 < 60 by omega) dL_law_1141 (fun H locs Y hd hY w => ?_)
            have hL := hY.un hd
            refine lv_iinc (v := nI (k + 1)) (lv' := [(22, .int (nI (k + 1))), (26, .int (nI ((15 * i) + (3 * k)))), (17, .int 1), (25, .int 1), (24, .int (f_L_lapsed S i)), (23, .int (nI (1 + q983))), (0, .ref b), (1, .ref o), (2, .ref (ad 2)), (3, .ref (ad 3)), (4, .ref (ad 4)), (5, .ref (ad 5)), (6, .ref (ad 6)), (7, .ref (ad 7)), (8, .ref (ad 8)), (9, .ref (ad 9)), (10, .ref (ad 10)), (11, .int (nI t)), (12, .int v12), (13, .int u), (14, .int (nI i)), (15, .int (nI (14 * i))), (16, .int (nI v))]) F.1 F.2.1 dL_law_1142 hl (k := 5) rfl (nI_1 _) (by decide) rfl (fun ls hl => ?_)
            refine lv_goto (tgt := 955) F.1 F.2.1 dL_law_1145 (by decide) ?_
            exact KN ((is_ok hR hi hk5 (T := 1 + q983) (by omega) (by omega) c_3 (Or.inr (Or.inl c_11))).2) hi hk5 ⟨by omega, by omega⟩ (by omega) ho hd hM hY w (lv_sub hl [0, 6, 7, 8, 9, 10, 11, 12, 13, 14, 15, 16, 17, 18, 19, 20, 21, 22, 2] rfl)
          · refine lv_iload F.1 F.2.1 dL_law_1027 (lv_at hl 0 rfl) ?_
            refine lv_iload F.1 F.2.1 dL_law_1029 (lv_at hl 2 rfl) ?_
            refine lv_iconst (v := 2) F.1 F.2.1 dL_law_1031 (by decide) ?_
            refine lv_icmp_ne (tgt := 1039) F.1 F.2.1 dL_law_1032 (by decide) (fun c_15 => ?_) (fun c_15 => ?_)
            · refine lv_iconst (v := 0) F.1 F.2.1 dL_law_1039 (by decide) ?_
              refine lv_ishr F.1 F.2.1 dL_law_1040 ?_
              refine lv_iconst (v := 1) F.1 F.2.1 dL_law_1041 (by decide) ?_
              refine lv_iand F.1 F.2.1 dL_law_1042 ?_
              refine lv_if_ne (tgt := 1050) F.1 F.2.1 dL_law_1043 (by decide) (fun c_16 => ?_) (fun c_16 => ?_)
              · refine lv_iconst (v := 0) F.1 F.2.1 dL_law_1050 (by decide) ?_
                refine lv_istore (lv' := [(25, .int 0), (24, .int (f_L_lapsed S i)), (23, .int (nI (1 + q983))), (22, .int (nI k)), (0, .ref b), (1, .ref o), (2, .ref (ad 2)), (3, .ref (ad 3)), (4, .ref (ad 4)), (5, .ref (ad 5)), (6, .ref (ad 6)), (7, .ref (ad 7)), (8, .ref (ad 8)), (9, .ref (ad 9)), (10, .ref (ad 10)), (11, .int (nI t)), (12, .int v12), (13, .int u), (14, .int (nI i)), (15, .int (nI (14 * i))), (16, .int (nI v)), (17, .int 1)]) F.1 F.2.1 dL_law_1051 hl (by decide) rfl (fun ls hl => ?_)
                refine lv_iload F.1 F.2.1 dL_law_1053 (lv_at hl 21 rfl) ?_
                refine lv_aload_n F.1 F.2.1 dL_law_1055 rfl (lv_at hl 5 rfl) ?_
                refine lv_iload F.1 F.2.1 dL_law_1056 (lv_at hl 18 rfl) ?_
                refine lv_iload F.1 F.2.1 dL_law_1058 (lv_at hl 3 rfl) ?_
                refine lv_iload F.1 F.2.1 dL_law_1060 (lv_at hl 2 rfl) ?_
                refine lw_issue (rest := [.int 1]) F w hd hM ho hR.r.ic (nI i) (nI k) (nI (1 + q983)) hlf dL_law_1062 hl.1 ⟨by omega, by omega⟩ (Nat.le_of_ble_eq_true rfl) ⟨by omega, by omega⟩ (fun v1062 X AD H locs hv1062 ho hd hM w => ?_)
                have hL := hY.un hd
                refine lv_fold (y := (-7300)) (hv1062.trans ((is_no2 hR hi hk5 (T := 1 + q983) (by omega) (by omega) c_7 c_11 (Or.inr ⟨c_15, c_16⟩)).1)) ?_
                refine lv_iload F.1 F.2.1 dL_law_1065 (lv_at hl 0 rfl) ?_
                refine lv_if_eq (tgt := 1080) F.1 F.2.1 dL_law_1067 (by decide) (fun c_17 => ?_) (fun c_17 => absurd rfl c_17)
                refine lv_sipush (v := -7300) F.1 F.2.1 dL_law_1080 (by decide) ?_
                refine lv_icmp_ne (tgt := 1090) F.1 F.2.1 dL_law_1083 (by decide) (fun c_18 => absurd rfl c_18) (fun c_18 => ?_)
                refine lv_iconst (v := 1) F.1 F.2.1 dL_law_1086 (by decide) ?_
                refine lv_goto (tgt := 1091) F.1 F.2.1 dL_law_1087 (by decide) ?_
                refine lv_iand F.1 F.2.1 dL_law_1091 ?_
                refine lv_fold (y := 1) (by decide) ?_
                refine lv_istore (lv' := [(17, .int 1), (25, .int 0), (24, .int (f_L_lapsed S i)), (23, .int (nI (1 + q983))), (22, .int (nI k)), (0, .ref b), (1, .ref o), (2, .ref (ad 2)), (3, .ref (ad 3)), (4, .ref (ad 4)), (5, .ref (ad 5)), (6, .ref (ad 6)), (7, .ref (ad 7)), (8, .ref (ad 8)), (9, .ref (ad 9)), (10, .ref (ad 10)), (11, .int (nI t)), (12, .int v12), (13, .int u), (14, .int (nI i)), (15, .int (nI (14 * i))), (16, .int (nI v))]) F.1 F.2.1 dL_law_1092 hl (by decide) rfl (fun ls hl => ?_)
                refine lv_iload F.1 F.2.1 dL_law_1094 (lv_at hl 1 rfl) ?_
                refine lv_if_ne (tgt := 1102) F.1 F.2.1 dL_law_1096 (by decide) (fun c_19 => absurd rfl c_19) (fun c_19 => ?_)
                refine lv_goto (tgt := 1142) F.1 F.2.1 dL_law_1099 (by decide) ?_
                refine lv_iinc (v := nI (k + 1)) (lv' := [(22, .int (nI (k + 1))), (17, .int 1), (25, .int 0), (24, .int (f_L_lapsed S i)), (23, .int (nI (1 + q983))), (0, .ref b), (1, .ref o), (2, .ref (ad 2)), (3, .ref (ad 3)), (4, .ref (ad 4)), (5, .ref (ad 5)), (6, .ref (ad 6)), (7, .ref (ad 7)), (8, .ref (ad 8)), (9, .ref (ad 9)), (10, .ref (ad 10)), (11, .int (nI t)), (12, .int v12), (13, .int u), (14, .int (nI i)), (15, .int (nI (14 * i))), (16, .int (nI v))]) F.1 F.2.1 dL_law_1142 hl (k := 4) rfl (nI_1 _) (by decide) rfl (fun ls hl => ?_)
                refine lv_goto (tgt := 955) F.1 F.2.1 dL_law_1145 (by decide) ?_
                rw [(is_no2 hR hi hk5 (T := 1 + q983) (by omega) (by omega) c_7 c_11 (Or.inr ⟨c_15, c_16⟩)).2] at hM
                exact KN hR hi hk5 ⟨by omega, by omega⟩ (by omega) ho hd hM hY w (lv_sub hl [0, 5, 6, 7, 8, 9, 10, 11, 12, 13, 14, 15, 16, 17, 18, 19, 20, 21, 1] rfl)
              · refine lv_iconst (v := 1) F.1 F.2.1 dL_law_1046 (by decide) ?_
                refine lv_goto (tgt := 1051) F.1 F.2.1 dL_law_1047 (by decide) ?_
                refine lv_istore (lv' := [(25, .int 1), (24, .int (f_L_lapsed S i)), (23, .int (nI (1 + q983))), (22, .int (nI k)), (0, .ref b), (1, .ref o), (2, .ref (ad 2)), (3, .ref (ad 3)), (4, .ref (ad 4)), (5, .ref (ad 5)), (6, .ref (ad 6)), (7, .ref (ad 7)), (8, .ref (ad 8)), (9, .ref (ad 9)), (10, .ref (ad 10)), (11, .int (nI t)), (12, .int v12), (13, .int u), (14, .int (nI i)), (15, .int (nI (14 * i))), (16, .int (nI v)), (17, .int 1)]) F.1 F.2.1 dL_law_1051 hl (by decide) rfl (fun ls hl => ?_)
                refine lv_iload F.1 F.2.1 dL_law_1053 (lv_at hl 21 rfl) ?_
                refine lv_aload_n F.1 F.2.1 dL_law_1055 rfl (lv_at hl 5 rfl) ?_
                refine lv_iload F.1 F.2.1 dL_law_1056 (lv_at hl 18 rfl) ?_
                refine lv_iload F.1 F.2.1 dL_law_1058 (lv_at hl 3 rfl) ?_
                refine lv_iload F.1 F.2.1 dL_law_1060 (lv_at hl 2 rfl) ?_
                refine lw_issue (rest := [.int 1]) F w hd hM ho hR.r.ic (nI i) (nI k) (nI (1 + q983)) hlf dL_law_1062 hl.1 ⟨by omega, by omega⟩ (Nat.le_of_ble_eq_true rfl) ⟨by omega, by omega⟩ (fun v1062 X AD H locs hv1062 ho hd hM w => ?_)
                have hL := hY.un hd
                refine lv_fold (y := (S 10 0) + (nI (1 + q983))) (hv1062.trans ((is_ok hR hi hk5 (T := 1 + q983) (by omega) (by omega) c_3 (Or.inr (Or.inr (Or.inr ⟨c_7, c_11, c_15, c_16⟩)))).1)) ?_
                refine lv_iload F.1 F.2.1 dL_law_1065 (lv_at hl 0 rfl) ?_
                refine lv_if_eq (tgt := 1080) F.1 F.2.1 dL_law_1067 (by decide) (fun c_20 => absurd c_20 (by decide)) (fun c_20 => ?_)
                refine lv_aload F.1 F.2.1 dL_law_1070 (lv_at hl 14 rfl) ?_
                refine lv_iconst (v := 0) F.1 F.2.1 dL_law_1072 (by decide) ?_
                refine l_ild F w hL 10 rfl 0 (show 0 < 9 by omega) dL_law_1073 ?_
                refine lv_iload F.1 F.2.1 dL_law_1074 (lv_at hl 2 rfl) ?_
                refine lv_iadd F.1 F.2.1 dL_law_1076 ?_
                refine lv_goto (tgt := 1083) F.1 F.2.1 dL_law_1077 (by decide) ?_
                refine lv_icmp_ne (tgt := 1090) F.1 F.2.1 dL_law_1083 (by decide) (fun c_21 => absurd rfl c_21) (fun c_21 => ?_)
                refine lv_iconst (v := 1) F.1 F.2.1 dL_law_1086 (by decide) ?_
                refine lv_goto (tgt := 1091) F.1 F.2.1 dL_law_1087 (by decide) ?_
                refine lv_iand F.1 F.2.1 dL_law_1091 ?_
                refine lv_fold (y := 1) (by decide) ?_
                refine lv_istore (lv' := [(17, .int 1), (25, .int 1), (24, .int (f_L_lapsed S i)), (23, .int (nI (1 + q983))), (22, .int (nI k)), (0, .ref b), (1, .ref o), (2, .ref (ad 2)), (3, .ref (ad 3)), (4, .ref (ad 4)), (5, .ref (ad 5)), (6, .ref (ad 6)), (7, .ref (ad 7)), (8, .ref (ad 8)), (9, .ref (ad 9)), (10, .ref (ad 10)), (11, .int (nI t)), (12, .int v12), (13, .int u), (14, .int (nI i)), (15, .int (nI (14 * i))), (16, .int (nI v))]) F.1 F.2.1 dL_law_1092 hl (by decide) rfl (fun ls hl => ?_)
                refine lv_iload F.1 F.2.1 dL_law_1094 (lv_at hl 1 rfl) ?_
                refine lv_if_ne (tgt := 1102) F.1 F.2.1 dL_law_1096 (by decide) (fun c_22 => ?_) (fun c_22 => absurd c_22 (by decide))
                refine lv_bipush (v := 15) F.1 F.2.1 dL_law_1102 (by decide) ?_
                refine lv_iload F.1 F.2.1 dL_law_1104 (lv_at hl 19 rfl) ?_
                refine lv_imul F.1 F.2.1 dL_law_1106 ?_
                refine lv_fold (y := nI (15 * i)) (pk_mul 15 i) ?_
                refine lv_iconst (v := 3) F.1 F.2.1 dL_law_1107 (by decide) ?_
                refine lv_iload F.1 F.2.1 dL_law_1108 (lv_at hl 4 rfl) ?_
                refine lv_imul F.1 F.2.1 dL_law_1110 ?_
                refine lv_fold (y := nI (3 * k)) (pk_mul 3 k) ?_
                refine lv_iadd F.1 F.2.1 dL_law_1111 ?_
                refine lv_fold (y := nI ((15 * i) + (3 * k))) (nI_add _ _) ?_
                refine lv_istore (lv' := [(26, .int (nI ((15 * i) + (3 * k)))), (17, .int 1), (25, .int 1), (24, .int (f_L_lapsed S i)), (23, .int (nI (1 + q983))), (22, .int (nI k)), (0, .ref b), (1, .ref o), (2, .ref (ad 2)), (3, .ref (ad 3)), (4, .ref (ad 4)), (5, .ref (ad 5)), (6, .ref (ad 6)), (7, .ref (ad 7)), (8, .ref (ad 8)), (9, .ref (ad 9)), (10, .ref (ad 10)), (11, .int (nI t)), (12, .int v12), (13, .int u), (14, .int (nI i)), (15, .int (nI (14 * i))), (16, .int (nI v))]) F.1 F.2.1 dL_law_1112 hl (by decide) rfl (fun ls hl => ?_)
                refine lv_aload_n F.1 F.2.1 dL_law_1114 rfl (lv_at hl 9 rfl) ?_
                refine lv_iload F.1 F.2.1 dL_law_1115 (lv_at hl 0 rfl) ?_
                refine lv_aload F.1 F.2.1 dL_law_1117 (lv_at hl 16 rfl) ?_
                refine lv_iconst (v := 0) F.1 F.2.1 dL_law_1119 (by decide) ?_
                refine l_ild F w hL 10 rfl 0 (show 0 < 9 by omega) dL_law_1120 ?_
                refine l_ist F w hd hY 3 rfl ((15 * i) + (3 * k)) (show (15 * i) + (3 * k) < 60 by omega) dL_law_1121 (fun H locs Y hd hY w => ?_)
                have hL := hY.un hd
                refine lv_aload_n F.1 F.2.1 dL_law_1122 rfl (lv_at hl 9 rfl) ?_
                refine lv_iload F.1 F.2.1 dL_law_1123 (lv_at hl 0 rfl) ?_
                refine lv_iconst (v := 1) F.1 F.2.1 dL_law_1125 (by decide) ?_
                refine lv_iadd F.1 F.2.1 dL_law_1126 ?_
                refine lv_fold (y := nI ((15 * i) + (3 * k) + 1)) (nI_add ((15 * i) + (3 * k)) 1) ?_
                refine lv_iload F.1 F.2.1 dL_law_1127 (lv_at hl 4 rfl) ?_
                refine l_ist F w hd hY 3 rfl ((15 * i) + (3 * k) + 1) (show (15 * i) + (3 * k) + 1 < 60 by omega) dL_law_1129 (fun H locs Y hd hY w => ?_)
                have hL := hY.un hd
                refine lv_aload_n F.1 F.2.1 dL_law_1130 rfl (lv_at hl 9 rfl) ?_
                refine lv_iload F.1 F.2.1 dL_law_1131 (lv_at hl 0 rfl) ?_
                refine lv_iconst (v := 2) F.1 F.2.1 dL_law_1133 (by decide) ?_
                refine lv_iadd F.1 F.2.1 dL_law_1134 ?_
                refine lv_fold (y := nI ((15 * i) + (3 * k) + 2)) (nI_add ((15 * i) + (3 * k)) 2) ?_
                refine lv_aload_n F.1 F.2.1 dL_law_1135 rfl (lv_at hl 8 rfl) ?_
                refine lv_iload F.1 F.2.1 dL_law_1136 (lv_at hl 21 rfl) ?_
                refine lv_iconst (v := 4) F.1 F.2.1 dL_law_1138 (by decide) ?_
                refine lv_iadd F.1 F.2.1 dL_law_1139 ?_
                refine lv_fold (y := nI ((14 * i) + 4)) (nI_add (14 * i) 4) ?_
                refine l_ild F w hL 2 rfl ((14 * i) + 4) (show (14 * i) + 4 < 56 by omega) dL_law_1140 ?_
                refine lv_fold (y := S 2 ((14 * i) + 4)) ((up2_r (by decide)).trans (up2_r (by decide))) ?_
                refine l_ist F w hd hY 3 rfl ((15 * i) + (3 * k) + 2) (show (15 * i) + (3 * k) + 2 < 60 by omega) dL_law_1141 (fun H locs Y hd hY w => ?_)
                have hL := hY.un hd
                refine lv_iinc (v := nI (k + 1)) (lv' := [(22, .int (nI (k + 1))), (26, .int (nI ((15 * i) + (3 * k)))), (17, .int 1), (25, .int 1), (24, .int (f_L_lapsed S i)), (23, .int (nI (1 + q983))), (0, .ref b), (1, .ref o), (2, .ref (ad 2)), (3, .ref (ad 3)), (4, .ref (ad 4)), (5, .ref (ad 5)), (6, .ref (ad 6)), (7, .ref (ad 7)), (8, .ref (ad 8)), (9, .ref (ad 9)), (10, .ref (ad 10)), (11, .int (nI t)), (12, .int v12), (13, .int u), (14, .int (nI i)), (15, .int (nI (14 * i))), (16, .int (nI v))]) F.1 F.2.1 dL_law_1142 hl (k := 5) rfl (nI_1 _) (by decide) rfl (fun ls hl => ?_)
                refine lv_goto (tgt := 955) F.1 F.2.1 dL_law_1145 (by decide) ?_
                exact KN ((is_ok hR hi hk5 (T := 1 + q983) (by omega) (by omega) c_3 (Or.inr (Or.inr (Or.inr ⟨c_7, c_11, c_15, c_16⟩)))).2) hi hk5 ⟨by omega, by omega⟩ (by omega) ho hd hM hY w (lv_sub hl [0, 6, 7, 8, 9, 10, 11, 12, 13, 14, 15, 16, 17, 18, 19, 20, 21, 22, 2] rfl)
            · refine lv_iconst (v := 1) F.1 F.2.1 dL_law_1035 (by decide) ?_
              refine lv_goto (tgt := 1040) F.1 F.2.1 dL_law_1036 (by decide) ?_
              refine lv_ishr F.1 F.2.1 dL_law_1040 ?_
              refine lv_iconst (v := 1) F.1 F.2.1 dL_law_1041 (by decide) ?_
              refine lv_iand F.1 F.2.1 dL_law_1042 ?_
              refine lv_if_ne (tgt := 1050) F.1 F.2.1 dL_law_1043 (by decide) (fun c_23 => ?_) (fun c_23 => ?_)
              · refine lv_iconst (v := 0) F.1 F.2.1 dL_law_1050 (by decide) ?_
                refine lv_istore (lv' := [(25, .int 0), (24, .int (f_L_lapsed S i)), (23, .int (nI (1 + q983))), (22, .int (nI k)), (0, .ref b), (1, .ref o), (2, .ref (ad 2)), (3, .ref (ad 3)), (4, .ref (ad 4)), (5, .ref (ad 5)), (6, .ref (ad 6)), (7, .ref (ad 7)), (8, .ref (ad 8)), (9, .ref (ad 9)), (10, .ref (ad 10)), (11, .int (nI t)), (12, .int v12), (13, .int u), (14, .int (nI i)), (15, .int (nI (14 * i))), (16, .int (nI v)), (17, .int 1)]) F.1 F.2.1 dL_law_1051 hl (by decide) rfl (fun ls hl => ?_)
                refine lv_iload F.1 F.2.1 dL_law_1053 (lv_at hl 21 rfl) ?_
                refine lv_aload_n F.1 F.2.1 dL_law_1055 rfl (lv_at hl 5 rfl) ?_
                refine lv_iload F.1 F.2.1 dL_law_1056 (lv_at hl 18 rfl) ?_
                refine lv_iload F.1 F.2.1 dL_law_1058 (lv_at hl 3 rfl) ?_
                refine lv_iload F.1 F.2.1 dL_law_1060 (lv_at hl 2 rfl) ?_
                refine lw_issue (rest := [.int 1]) F w hd hM ho hR.r.ic (nI i) (nI k) (nI (1 + q983)) hlf dL_law_1062 hl.1 ⟨by omega, by omega⟩ (Nat.le_of_ble_eq_true rfl) ⟨by omega, by omega⟩ (fun v1062 X AD H locs hv1062 ho hd hM w => ?_)
                have hL := hY.un hd
                refine lv_fold (y := (-7300)) (hv1062.trans ((is_no2 hR hi hk5 (T := 1 + q983) (by omega) (by omega) c_7 c_11 (Or.inl ⟨c_15, c_23⟩)).1)) ?_
                refine lv_iload F.1 F.2.1 dL_law_1065 (lv_at hl 0 rfl) ?_
                refine lv_if_eq (tgt := 1080) F.1 F.2.1 dL_law_1067 (by decide) (fun c_24 => ?_) (fun c_24 => absurd rfl c_24)
                refine lv_sipush (v := -7300) F.1 F.2.1 dL_law_1080 (by decide) ?_
                refine lv_icmp_ne (tgt := 1090) F.1 F.2.1 dL_law_1083 (by decide) (fun c_25 => absurd rfl c_25) (fun c_25 => ?_)
                refine lv_iconst (v := 1) F.1 F.2.1 dL_law_1086 (by decide) ?_
                refine lv_goto (tgt := 1091) F.1 F.2.1 dL_law_1087 (by decide) ?_
                refine lv_iand F.1 F.2.1 dL_law_1091 ?_
                refine lv_fold (y := 1) (by decide) ?_
                refine lv_istore (lv' := [(17, .int 1), (25, .int 0), (24, .int (f_L_lapsed S i)), (23, .int (nI (1 + q983))), (22, .int (nI k)), (0, .ref b), (1, .ref o), (2, .ref (ad 2)), (3, .ref (ad 3)), (4, .ref (ad 4)), (5, .ref (ad 5)), (6, .ref (ad 6)), (7, .ref (ad 7)), (8, .ref (ad 8)), (9, .ref (ad 9)), (10, .ref (ad 10)), (11, .int (nI t)), (12, .int v12), (13, .int u), (14, .int (nI i)), (15, .int (nI (14 * i))), (16, .int (nI v))]) F.1 F.2.1 dL_law_1092 hl (by decide) rfl (fun ls hl => ?_)
                refine lv_iload F.1 F.2.1 dL_law_1094 (lv_at hl 1 rfl) ?_
                refine lv_if_ne (tgt := 1102) F.1 F.2.1 dL_law_1096 (by decide) (fun c_26 => absurd rfl c_26) (fun c_26 => ?_)
                refine lv_goto (tgt := 1142) F.1 F.2.1 dL_law_1099 (by decide) ?_
                refine lv_iinc (v := nI (k + 1)) (lv' := [(22, .int (nI (k + 1))), (17, .int 1), (25, .int 0), (24, .int (f_L_lapsed S i)), (23, .int (nI (1 + q983))), (0, .ref b), (1, .ref o), (2, .ref (ad 2)), (3, .ref (ad 3)), (4, .ref (ad 4)), (5, .ref (ad 5)), (6, .ref (ad 6)), (7, .ref (ad 7)), (8, .ref (ad 8)), (9, .ref (ad 9)), (10, .ref (ad 10)), (11, .int (nI t)), (12, .int v12), (13, .int u), (14, .int (nI i)), (15, .int (nI (14 * i))), (16, .int (nI v))]) F.1 F.2.1 dL_law_1142 hl (k := 4) rfl (nI_1 _) (by decide) rfl (fun ls hl => ?_)
                refine lv_goto (tgt := 955) F.1 F.2.1 dL_law_1145 (by decide) ?_
                rw [(is_no2 hR hi hk5 (T := 1 + q983) (by omega) (by omega) c_7 c_11 (Or.inl ⟨c_15, c_23⟩)).2] at hM
                exact KN hR hi hk5 ⟨by omega, by omega⟩ (by omega) ho hd hM hY w (lv_sub hl [0, 5, 6, 7, 8, 9, 10, 11, 12, 13, 14, 15, 16, 17, 18, 19, 20, 21, 1] rfl)
              · refine lv_iconst (v := 1) F.1 F.2.1 dL_law_1046 (by decide) ?_
                refine lv_goto (tgt := 1051) F.1 F.2.1 dL_law_1047 (by decide) ?_
                refine lv_istore (lv' := [(25, .int 1), (24, .int (f_L_lapsed S i)), (23, .int (nI (1 + q983))), (22, .int (nI k)), (0, .ref b), (1, .ref o), (2, .ref (ad 2)), (3, .ref (ad 3)), (4, .ref (ad 4)), (5, .ref (ad 5)), (6, .ref (ad 6)), (7, .ref (ad 7)), (8, .ref (ad 8)), (9, .ref (ad 9)), (10, .ref (ad 10)), (11, .int (nI t)), (12, .int v12), (13, .int u), (14, .int (nI i)), (15, .int (nI (14 * i))), (16, .int (nI v)), (17, .int 1)]) F.1 F.2.1 dL_law_1051 hl (by decide) rfl (fun ls hl => ?_)
                refine lv_iload F.1 F.2.1 dL_law_1053 (lv_at hl 21 rfl) ?_
                refine lv_aload_n F.1 F.2.1 dL_law_1055 rfl (lv_at hl 5 rfl) ?_
                refine lv_iload F.1 F.2.1 dL_law_1056 (lv_at hl 18 rfl) ?_
                refine lv_iload F.1 F.2.1 dL_law_1058 (lv_at hl 3 rfl) ?_
                refine lv_iload F.1 F.2.1 dL_law_1060 (lv_at hl 2 rfl) ?_
                refine lw_issue (rest := [.int 1]) F w hd hM ho hR.r.ic (nI i) (nI k) (nI (1 + q983)) hlf dL_law_1062 hl.1 ⟨by omega, by omega⟩ (Nat.le_of_ble_eq_true rfl) ⟨by omega, by omega⟩ (fun v1062 X AD H locs hv1062 ho hd hM w => ?_)
                have hL := hY.un hd
                refine lv_fold (y := (S 10 0) + (nI (1 + q983))) (hv1062.trans ((is_ok hR hi hk5 (T := 1 + q983) (by omega) (by omega) c_3 (Or.inr (Or.inr (Or.inl ⟨c_15, c_23⟩)))).1)) ?_
                refine lv_iload F.1 F.2.1 dL_law_1065 (lv_at hl 0 rfl) ?_
                refine lv_if_eq (tgt := 1080) F.1 F.2.1 dL_law_1067 (by decide) (fun c_27 => absurd c_27 (by decide)) (fun c_27 => ?_)
                refine lv_aload F.1 F.2.1 dL_law_1070 (lv_at hl 14 rfl) ?_
                refine lv_iconst (v := 0) F.1 F.2.1 dL_law_1072 (by decide) ?_
                refine l_ild F w hL 10 rfl 0 (show 0 < 9 by omega) dL_law_1073 ?_
                refine lv_iload F.1 F.2.1 dL_law_1074 (lv_at hl 2 rfl) ?_
                refine lv_iadd F.1 F.2.1 dL_law_1076 ?_
                refine lv_goto (tgt := 1083) F.1 F.2.1 dL_law_1077 (by decide) ?_
                refine lv_icmp_ne (tgt := 1090) F.1 F.2.1 dL_law_1083 (by decide) (fun c_28 => absurd rfl c_28) (fun c_28 => ?_)
                refine lv_iconst (v := 1) F.1 F.2.1 dL_law_1086 (by decide) ?_
                refine lv_goto (tgt := 1091) F.1 F.2.1 dL_law_1087 (by decide) ?_
                refine lv_iand F.1 F.2.1 dL_law_1091 ?_
                refine lv_fold (y := 1) (by decide) ?_
                refine lv_istore (lv' := [(17, .int 1), (25, .int 1), (24, .int (f_L_lapsed S i)), (23, .int (nI (1 + q983))), (22, .int (nI k)), (0, .ref b), (1, .ref o), (2, .ref (ad 2)), (3, .ref (ad 3)), (4, .ref (ad 4)), (5, .ref (ad 5)), (6, .ref (ad 6)), (7, .ref (ad 7)), (8, .ref (ad 8)), (9, .ref (ad 9)), (10, .ref (ad 10)), (11, .int (nI t)), (12, .int v12), (13, .int u), (14, .int (nI i)), (15, .int (nI (14 * i))), (16, .int (nI v))]) F.1 F.2.1 dL_law_1092 hl (by decide) rfl (fun ls hl => ?_)
                refine lv_iload F.1 F.2.1 dL_law_1094 (lv_at hl 1 rfl) ?_
                refine lv_if_ne (tgt := 1102) F.1 F.2.1 dL_law_1096 (by decide) (fun c_29 => ?_) (fun c_29 => absurd c_29 (by decide))
                refine lv_bipush (v := 15) F.1 F.2.1 dL_law_1102 (by decide) ?_
                refine lv_iload F.1 F.2.1 dL_law_1104 (lv_at hl 19 rfl) ?_
                refine lv_imul F.1 F.2.1 dL_law_1106 ?_
                refine lv_fold (y := nI (15 * i)) (pk_mul 15 i) ?_
                refine lv_iconst (v := 3) F.1 F.2.1 dL_law_1107 (by decide) ?_
                refine lv_iload F.1 F.2.1 dL_law_1108 (lv_at hl 4 rfl) ?_
                refine lv_imul F.1 F.2.1 dL_law_1110 ?_
                refine lv_fold (y := nI (3 * k)) (pk_mul 3 k) ?_
                refine lv_iadd F.1 F.2.1 dL_law_1111 ?_
                refine lv_fold (y := nI ((15 * i) + (3 * k))) (nI_add _ _) ?_
                refine lv_istore (lv' := [(26, .int (nI ((15 * i) + (3 * k)))), (17, .int 1), (25, .int 1), (24, .int (f_L_lapsed S i)), (23, .int (nI (1 + q983))), (22, .int (nI k)), (0, .ref b), (1, .ref o), (2, .ref (ad 2)), (3, .ref (ad 3)), (4, .ref (ad 4)), (5, .ref (ad 5)), (6, .ref (ad 6)), (7, .ref (ad 7)), (8, .ref (ad 8)), (9, .ref (ad 9)), (10, .ref (ad 10)), (11, .int (nI t)), (12, .int v12), (13, .int u), (14, .int (nI i)), (15, .int (nI (14 * i))), (16, .int (nI v))]) F.1 F.2.1 dL_law_1112 hl (by decide) rfl (fun ls hl => ?_)
                refine lv_aload_n F.1 F.2.1 dL_law_1114 rfl (lv_at hl 9 rfl) ?_
                refine lv_iload F.1 F.2.1 dL_law_1115 (lv_at hl 0 rfl) ?_
                refine lv_aload F.1 F.2.1 dL_law_1117 (lv_at hl 16 rfl) ?_
                refine lv_iconst (v := 0) F.1 F.2.1 dL_law_1119 (by decide) ?_
                refine l_ild F w hL 10 rfl 0 (show 0 < 9 by omega) dL_law_1120 ?_
                refine l_ist F w hd hY 3 rfl ((15 * i) + (3 * k)) (show (15 * i) + (3 * k) < 60 by omega) dL_law_1121 (fun H locs Y hd hY w => ?_)
                have hL := hY.un hd
                refine lv_aload_n F.1 F.2.1 dL_law_1122 rfl (lv_at hl 9 rfl) ?_
                refine lv_iload F.1 F.2.1 dL_law_1123 (lv_at hl 0 rfl) ?_
                refine lv_iconst (v := 1) F.1 F.2.1 dL_law_1125 (by decide) ?_
                refine lv_iadd F.1 F.2.1 dL_law_1126 ?_
                refine lv_fold (y := nI ((15 * i) + (3 * k) + 1)) (nI_add ((15 * i) + (3 * k)) 1) ?_
                refine lv_iload F.1 F.2.1 dL_law_1127 (lv_at hl 4 rfl) ?_
                refine l_ist F w hd hY 3 rfl ((15 * i) + (3 * k) + 1) (show (15 * i) + (3 * k) + 1 < 60 by omega) dL_law_1129 (fun H locs Y hd hY w => ?_)
                have hL := hY.un hd
                refine lv_aload_n F.1 F.2.1 dL_law_1130 rfl (lv_at hl 9 rfl) ?_
                refine lv_iload F.1 F.2.1 dL_law_1131 (lv_at hl 0 rfl) ?_
                refine lv_iconst (v := 2) F.1 F.2.1 dL_law_1133 (by decide) ?_
                refine lv_iadd F.1 F.2.1 dL_law_1134 ?_
                refine lv_fold (y := nI ((15 * i) + (3 * k) + 2)) (nI_add ((15 * i) + (3 * k)) 2) ?_
                refine lv_aload_n F.1 F.2.1 dL_law_1135 rfl (lv_at hl 8 rfl) ?_
                refine lv_iload F.1 F.2.1 dL_law_1136 (lv_at hl 21 rfl) ?_
                refine lv_iconst (v := 4) F.1 F.2.1 dL_law_1138 (by decide) ?_
                refine lv_iadd F.1 F.2.1 dL_law_1139 ?_
                refine lv_fold (y := nI ((14 * i) + 4)) (nI_add (14 * i) 4) ?_
                refine l_ild F w hL 2 rfl ((14 * i) + 4) (show (14 * i) + 4 < 56 by omega) dL_law_1140 ?_
                refine lv_fold (y := S 2 ((14 * i) + 4)) ((up2_r (by decide)).trans (up2_r (by decide))) ?_
                refine l_ist F w hd hY 3 rfl ((15 * i) + (3 * k) + 2) (show (15 * i) + (3 * k) + 2 < 60 by omega) dL_law_1141 (fun H locs Y hd hY w => ?_)
                have hL := hY.un hd
                refine lv_iinc (v := nI (k + 1)) (lv' := [(22, .int (nI (k + 1))), (26, .int (nI ((15 * i) + (3 * k)))), (17, .int 1), (25, .int 1), (24, .int (f_L_lapsed S i)), (23, .int (nI (1 + q983))), (0, .ref b), (1, .ref o), (2, .ref (ad 2)), (3, .ref (ad 3)), (4, .ref (ad 4)), (5, .ref (ad 5)), (6, .ref (ad 6)), (7, .ref (ad 7)), (8, .ref (ad 8)), (9, .ref (ad 9)), (10, .ref (ad 10)), (11, .int (nI t)), (12, .int v12), (13, .int u), (14, .int (nI i)), (15, .int (nI (14 * i))), (16, .int (nI v))]) F.1 F.2.1 dL_law_1142 hl (k := 5) rfl (nI_1 _) (by decide) rfl (fun ls hl => ?_)
                refine lv_goto (tgt := 955) F.1 F.2.1 dL_law_1145 (by decide) ?_
                exact KN ((is_ok hR hi hk5 (T := 1 + q983) (by omega) (by omega) c_3 (Or.inr (Or.inr (Or.inl ⟨c_15, c_23⟩)))).2) hi hk5 ⟨by omega, by omega⟩ (by omega) ho hd hM hY w (lv_sub hl [0, 6, 7, 8, 9, 10, 11, 12, 13, 14, 15, 16, 17, 18, 19, 20, 21, 22, 2] rfl)
    · refine lv_sipush (v := 1825) F.1 F.2.1 dL_law_974 (by decide) ?_
      refine lv_goto (tgt := 983) F.1 F.2.1 dL_law_977 (by decide) ?_
      obtain ⟨q983, hq983, eq983⟩ := low_ok (u >>> (3 &&& 31)) (n := 1825) (by omega) (by omega)
      refine q_rS (rest := [.int 1]) F w kS_L_134 hd_L_low (c_L_low l D cy A _ (u >>> (3 &&& 31)) 1825 (by decide)) dL_law_983 rfl rfl hl.1 ⟨rfl, rfl, (show 1 ≤ R.frames by omega), (show 21 ≤ R.locals by omega)⟩ (Nat.le_of_ble_eq_true rfl) ⟨by omega, by omega⟩ ?_
      refine lv_fold (y := nI q983) eq983 ?_
      refine lv_iadd F.1 F.2.1 dL_law_986 ?_
      refine lv_fold (y := nI (1 + q983)) (nI_add 1 q983) ?_
      refine lv_istore (lv' := [(23, .int (nI (1 + q983))), (22, .int (nI k)), (0, .ref b), (1, .ref o), (2, .ref (ad 2)), (3, .ref (ad 3)), (4, .ref (ad 4)), (5, .ref (ad 5)), (6, .ref (ad 6)), (7, .ref (ad 7)), (8, .ref (ad 8)), (9, .ref (ad 9)), (10, .ref (ad 10)), (11, .int (nI t)), (12, .int v12), (13, .int u), (14, .int (nI i)), (15, .int (nI (14 * i))), (16, .int (nI v)), (17, .int 1)]) F.1 F.2.1 dL_law_987 hl (by decide) rfl (fun ls hl => ?_)
      refine lv_iload F.1 F.2.1 dL_law_989 (lv_at hl 16 rfl) ?_
      refine lv_aload_n F.1 F.2.1 dL_law_991 rfl (lv_at hl 5 rfl) ?_
      refine lv_aload F.1 F.2.1 dL_law_992 (lv_at hl 12 rfl) ?_
      refine q_rS (rest := []) F w kS_L_130 hd_L_lapsed (c_L_lapsed l D cy A _ ad S Wf hL i (show i < 4 by omega) hR.cok) dL_law_994 rfl rfl hl.1 ⟨rfl, rfl, (show 2 ≤ R.frames by omega), (show 51 ≤ R.locals by omega)⟩ (Nat.le_of_ble_eq_true rfl) ⟨by omega, by omega⟩ ?_
      refine lv_istore (lv' := [(24, .int (f_L_lapsed S i)), (23, .int (nI (1 + q983))), (22, .int (nI k)), (0, .ref b), (1, .ref o), (2, .ref (ad 2)), (3, .ref (ad 3)), (4, .ref (ad 4)), (5, .ref (ad 5)), (6, .ref (ad 6)), (7, .ref (ad 7)), (8, .ref (ad 8)), (9, .ref (ad 9)), (10, .ref (ad 10)), (11, .int (nI t)), (12, .int v12), (13, .int u), (14, .int (nI i)), (15, .int (nI (14 * i))), (16, .int (nI v)), (17, .int 1)]) F.1 F.2.1 dL_law_997 hl (by decide) rfl (fun ls hl => ?_)
      refine lv_aload F.1 F.2.1 dL_law_999 (lv_at hl 13 rfl) ?_
      refine lv_bipush (v := 7) F.1 F.2.1 dL_law_1001 (by decide) ?_
      refine l_ild F w hL 10 rfl 7 (show 7 < 9 by omega) dL_law_1003 ?_
      refine lv_aload_n F.1 F.2.1 dL_law_1004 rfl (lv_at hl 5 rfl) ?_
      refine lv_iload F.1 F.2.1 dL_law_1005 (lv_at hl 18 rfl) ?_
      refine lv_iconst (v := 4) F.1 F.2.1 dL_law_1007 (by decide) ?_
      refine lv_iadd F.1 F.2.1 dL_law_1008 ?_
      refine lv_fold (y := nI ((14 * i) + 4)) (nI_add (14 * i) 4) ?_
      refine l_ild F w hL 2 rfl ((14 * i) + 4) (show (14 * i) + 4 < 56 by omega) dL_law_1009 ?_
      refine lv_ishr F.1 F.2.1 dL_law_1010 ?_
      refine lv_iconst (v := 1) F.1 F.2.1 dL_law_1011 (by decide) ?_
      refine lv_iand F.1 F.2.1 dL_law_1012 ?_
      refine lv_if_ne (tgt := 1050) F.1 F.2.1 dL_law_1013 (by decide) (fun c_30 => ?_) (fun c_30 => ?_)
      · refine lv_iconst (v := 0) F.1 F.2.1 dL_law_1050 (by decide) ?_
        refine lv_istore (lv' := [(25, .int 0), (24, .int (f_L_lapsed S i)), (23, .int (nI (1 + q983))), (22, .int (nI k)), (0, .ref b), (1, .ref o), (2, .ref (ad 2)), (3, .ref (ad 3)), (4, .ref (ad 4)), (5, .ref (ad 5)), (6, .ref (ad 6)), (7, .ref (ad 7)), (8, .ref (ad 8)), (9, .ref (ad 9)), (10, .ref (ad 10)), (11, .int (nI t)), (12, .int v12), (13, .int u), (14, .int (nI i)), (15, .int (nI (14 * i))), (16, .int (nI v)), (17, .int 1)]) F.1 F.2.1 dL_law_1051 hl (by decide) rfl (fun ls hl => ?_)
        refine lv_iload F.1 F.2.1 dL_law_1053 (lv_at hl 21 rfl) ?_
        refine lv_aload_n F.1 F.2.1 dL_law_1055 rfl (lv_at hl 5 rfl) ?_
        refine lv_iload F.1 F.2.1 dL_law_1056 (lv_at hl 18 rfl) ?_
        refine lv_iload F.1 F.2.1 dL_law_1058 (lv_at hl 3 rfl) ?_
        refine lv_iload F.1 F.2.1 dL_law_1060 (lv_at hl 2 rfl) ?_
        refine lw_issue (rest := [.int 1]) F w hd hM ho hR.r.ic (nI i) (nI k) (nI (1 + q983)) hlf dL_law_1062 hl.1 ⟨by omega, by omega⟩ (Nat.le_of_ble_eq_true rfl) ⟨by omega, by omega⟩ (fun v1062 X AD H locs hv1062 ho hd hM w => ?_)
        have hL := hY.un hd
        refine lv_fold (y := (-7300)) (hv1062.trans ((is_no1 hR hi hk5 (T := 1 + q983) (by omega) (by omega) c_30).1)) ?_
        refine lv_iload F.1 F.2.1 dL_law_1065 (lv_at hl 0 rfl) ?_
        refine lv_if_eq (tgt := 1080) F.1 F.2.1 dL_law_1067 (by decide) (fun c_31 => ?_) (fun c_31 => absurd rfl c_31)
        refine lv_sipush (v := -7300) F.1 F.2.1 dL_law_1080 (by decide) ?_
        refine lv_icmp_ne (tgt := 1090) F.1 F.2.1 dL_law_1083 (by decide) (fun c_32 => absurd rfl c_32) (fun c_32 => ?_)
        refine lv_iconst (v := 1) F.1 F.2.1 dL_law_1086 (by decide) ?_
        refine lv_goto (tgt := 1091) F.1 F.2.1 dL_law_1087 (by decide) ?_
        refine lv_iand F.1 F.2.1 dL_law_1091 ?_
        refine lv_fold (y := 1) (by decide) ?_
        refine lv_istore (lv' := [(17, .int 1), (25, .int 0), (24, .int (f_L_lapsed S i)), (23, .int (nI (1 + q983))), (22, .int (nI k)), (0, .ref b), (1, .ref o), (2, .ref (ad 2)), (3, .ref (ad 3)), (4, .ref (ad 4)), (5, .ref (ad 5)), (6, .ref (ad 6)), (7, .ref (ad 7)), (8, .ref (ad 8)), (9, .ref (ad 9)), (10, .ref (ad 10)), (11, .int (nI t)), (12, .int v12), (13, .int u), (14, .int (nI i)), (15, .int (nI (14 * i))), (16, .int (nI v))]) F.1 F.2.1 dL_law_1092 hl (by decide) rfl (fun ls hl => ?_)
        refine lv_iload F.1 F.2.1 dL_law_1094 (lv_at hl 1 rfl) ?_
        refine lv_if_ne (tgt := 1102) F.1 F.2.1 dL_law_1096 (by decide) (fun c_33 => absurd rfl c_33) (fun c_33 => ?_)
        refine lv_goto (tgt := 1142) F.1 F.2.1 dL_law_1099 (by decide) ?_
        refine lv_iinc (v := nI (k + 1)) (lv' := [(22, .int (nI (k + 1))), (17, .int 1), (25, .int 0), (24, .int (f_L_lapsed S i)), (23, .int (nI (1 + q983))), (0, .ref b), (1, .ref o), (2, .ref (ad 2)), (3, .ref (ad 3)), (4, .ref (ad 4)), (5, .ref (ad 5)), (6, .ref (ad 6)), (7, .ref (ad 7)), (8, .ref (ad 8)), (9, .ref (ad 9)), (10, .ref (ad 10)), (11, .int (nI t)), (12, .int v12), (13, .int u), (14, .int (nI i)), (15, .int (nI (14 * i))), (16, .int (nI v))]) F.1 F.2.1 dL_law_1142 hl (k := 4) rfl (nI_1 _) (by decide) rfl (fun ls hl => ?_)
        refine lv_goto (tgt := 955) F.1 F.2.1 dL_law_1145 (by decide) ?_
        rw [(is_no1 hR hi hk5 (T := 1 + q983) (by omega) (by omega) c_30).2] at hM
        exact KN hR hi hk5 ⟨by omega, by omega⟩ (by omega) ho hd hM hY w (lv_sub hl [0, 5, 6, 7, 8, 9, 10, 11, 12, 13, 14, 15, 16, 17, 18, 19, 20, 21, 1] rfl)
      · refine lv_iload F.1 F.2.1 dL_law_1016 (lv_at hl 2 rfl) ?_
        refine lv_if_eq (tgt := 1046) F.1 F.2.1 dL_law_1018 (by decide) (fun c_34 => ?_) (fun c_34 => ?_)
        · refine lv_iconst (v := 1) F.1 F.2.1 dL_law_1046 (by decide) ?_
          refine lv_goto (tgt := 1051) F.1 F.2.1 dL_law_1047 (by decide) ?_
          refine lv_istore (lv' := [(25, .int 1), (24, .int (f_L_lapsed S i)), (23, .int (nI (1 + q983))), (22, .int (nI k)), (0, .ref b), (1, .ref o), (2, .ref (ad 2)), (3, .ref (ad 3)), (4, .ref (ad 4)), (5, .ref (ad 5)), (6, .ref (ad 6)), (7, .ref (ad 7)), (8, .ref (ad 8)), (9, .ref (ad 9)), (10, .ref (ad 10)), (11, .int (nI t)), (12, .int v12), (13, .int u), (14, .int (nI i)), (15, .int (nI (14 * i))), (16, .int (nI v)), (17, .int 1)]) F.1 F.2.1 dL_law_1051 hl (by decide) rfl (fun ls hl => ?_)
          refine lv_iload F.1 F.2.1 dL_law_1053 (lv_at hl 21 rfl) ?_
          refine lv_aload_n F.1 F.2.1 dL_law_1055 rfl (lv_at hl 5 rfl) ?_
          refine lv_iload F.1 F.2.1 dL_law_1056 (lv_at hl 18 rfl) ?_
          refine lv_iload F.1 F.2.1 dL_law_1058 (lv_at hl 3 rfl) ?_
          refine lv_iload F.1 F.2.1 dL_law_1060 (lv_at hl 2 rfl) ?_
          refine lw_issue (rest := [.int 1]) F w hd hM ho hR.r.ic (nI i) (nI k) (nI (1 + q983)) hlf dL_law_1062 hl.1 ⟨by omega, by omega⟩ (Nat.le_of_ble_eq_true rfl) ⟨by omega, by omega⟩ (fun v1062 X AD H locs hv1062 ho hd hM w => ?_)
          have hL := hY.un hd
          refine lv_fold (y := (S 10 0) + (nI (1 + q983))) (hv1062.trans ((is_ok hR hi hk5 (T := 1 + q983) (by omega) (by omega) c_30 (Or.inl c_34)).1)) ?_
          refine lv_iload F.1 F.2.1 dL_law_1065 (lv_at hl 0 rfl) ?_
          refine lv_if_eq (tgt := 1080) F.1 F.2.1 dL_law_1067 (by decide) (fun c_35 => absurd c_35 (by decide)) (fun c_35 => ?_)
          refine lv_aload F.1 F.2.1 dL_law_1070 (lv_at hl 14 rfl) ?_
          refine lv_iconst (v := 0) F.1 F.2.1 dL_law_1072 (by decide) ?_
          refine l_ild F w hL 10 rfl 0 (show 0 < 9 by omega) dL_law_1073 ?_
          refine lv_iload F.1 F.2.1 dL_law_1074 (lv_at hl 2 rfl) ?_
          refine lv_iadd F.1 F.2.1 dL_law_1076 ?_
          refine lv_goto (tgt := 1083) F.1 F.2.1 dL_law_1077 (by decide) ?_
          refine lv_icmp_ne (tgt := 1090) F.1 F.2.1 dL_law_1083 (by decide) (fun c_36 => absurd rfl c_36) (fun c_36 => ?_)
          refine lv_iconst (v := 1) F.1 F.2.1 dL_law_1086 (by decide) ?_
          refine lv_goto (tgt := 1091) F.1 F.2.1 dL_law_1087 (by decide) ?_
          refine lv_iand F.1 F.2.1 dL_law_1091 ?_
          refine lv_fold (y := 1) (by decide) ?_
          refine lv_istore (lv' := [(17, .int 1), (25, .int 1), (24, .int (f_L_lapsed S i)), (23, .int (nI (1 + q983))), (22, .int (nI k)), (0, .ref b), (1, .ref o), (2, .ref (ad 2)), (3, .ref (ad 3)), (4, .ref (ad 4)), (5, .ref (ad 5)), (6, .ref (ad 6)), (7, .ref (ad 7)), (8, .ref (ad 8)), (9, .ref (ad 9)), (10, .ref (ad 10)), (11, .int (nI t)), (12, .int v12), (13, .int u), (14, .int (nI i)), (15, .int (nI (14 * i))), (16, .int (nI v))]) F.1 F.2.1 dL_law_1092 hl (by decide) rfl (fun ls hl => ?_)
          refine lv_iload F.1 F.2.1 dL_law_1094 (lv_at hl 1 rfl) ?_
          refine lv_if_ne (tgt := 1102) F.1 F.2.1 dL_law_1096 (by decide) (fun c_37 => ?_) (fun c_37 => absurd c_37 (by decide))
          refine lv_bipush (v := 15) F.1 F.2.1 dL_law_1102 (by decide) ?_
          refine lv_iload F.1 F.2.1 dL_law_1104 (lv_at hl 19 rfl) ?_
          refine lv_imul F.1 F.2.1 dL_law_1106 ?_
          refine lv_fold (y := nI (15 * i)) (pk_mul 15 i) ?_
          refine lv_iconst (v := 3) F.1 F.2.1 dL_law_1107 (by decide) ?_
          refine lv_iload F.1 F.2.1 dL_law_1108 (lv_at hl 4 rfl) ?_
          refine lv_imul F.1 F.2.1 dL_law_1110 ?_
          refine lv_fold (y := nI (3 * k)) (pk_mul 3 k) ?_
          refine lv_iadd F.1 F.2.1 dL_law_1111 ?_
          refine lv_fold (y := nI ((15 * i) + (3 * k))) (nI_add _ _) ?_
          refine lv_istore (lv' := [(26, .int (nI ((15 * i) + (3 * k)))), (17, .int 1), (25, .int 1), (24, .int (f_L_lapsed S i)), (23, .int (nI (1 + q983))), (22, .int (nI k)), (0, .ref b), (1, .ref o), (2, .ref (ad 2)), (3, .ref (ad 3)), (4, .ref (ad 4)), (5, .ref (ad 5)), (6, .ref (ad 6)), (7, .ref (ad 7)), (8, .ref (ad 8)), (9, .ref (ad 9)), (10, .ref (ad 10)), (11, .int (nI t)), (12, .int v12), (13, .int u), (14, .int (nI i)), (15, .int (nI (14 * i))), (16, .int (nI v))]) F.1 F.2.1 dL_law_1112 hl (by decide) rfl (fun ls hl => ?_)
          refine lv_aload_n F.1 F.2.1 dL_law_1114 rfl (lv_at hl 9 rfl) ?_
          refine lv_iload F.1 F.2.1 dL_law_1115 (lv_at hl 0 rfl) ?_
          refine lv_aload F.1 F.2.1 dL_law_1117 (lv_at hl 16 rfl) ?_
          refine lv_iconst (v := 0) F.1 F.2.1 dL_law_1119 (by decide) ?_
          refine l_ild F w hL 10 rfl 0 (show 0 < 9 by omega) dL_law_1120 ?_
          refine l_ist F w hd hY 3 rfl ((15 * i) + (3 * k)) (show (15 * i) + (3 * k) < 60 by omega) dL_law_1121 (fun H locs Y hd hY w => ?_)
          have hL := hY.un hd
          refine lv_aload_n F.1 F.2.1 dL_law_1122 rfl (lv_at hl 9 rfl) ?_
          refine lv_iload F.1 F.2.1 dL_law_1123 (lv_at hl 0 rfl) ?_
          refine lv_iconst (v := 1) F.1 F.2.1 dL_law_1125 (by decide) ?_
          refine lv_iadd F.1 F.2.1 dL_law_1126 ?_
          refine lv_fold (y := nI ((15 * i) + (3 * k) + 1)) (nI_add ((15 * i) + (3 * k)) 1) ?_
          refine lv_iload F.1 F.2.1 dL_law_1127 (lv_at hl 4 rfl) ?_
          refine l_ist F w hd hY 3 rfl ((15 * i) + (3 * k) + 1) (show (15 * i) + (3 * k) + 1 < 60 by omega) dL_law_1129 (fun H locs Y hd hY w => ?_)
          have hL := hY.un hd
          refine lv_aload_n F.1 F.2.1 dL_law_1130 rfl (lv_at hl 9 rfl) ?_
          refine lv_iload F.1 F.2.1 dL_law_1131 (lv_at hl 0 rfl) ?_
          refine lv_iconst (v := 2) F.1 F.2.1 dL_law_1133 (by decide) ?_
          refine lv_iadd F.1 F.2.1 dL_law_1134 ?_
          refine lv_fold (y := nI ((15 * i) + (3 * k) + 2)) (nI_add ((15 * i) + (3 * k)) 2) ?_
          refine lv_aload_n F.1 F.2.1 dL_law_1135 rfl (lv_at hl 8 rfl) ?_
          refine lv_iload F.1 F.2.1 dL_law_1136 (lv_at hl 21 rfl) ?_
          refine lv_iconst (v := 4) F.1 F.2.1 dL_law_1138 (by decide) ?_
          refine lv_iadd F.1 F.2.1 dL_law_1139 ?_
          refine lv_fold (y := nI ((14 * i) + 4)) (nI_add (14 * i) 4) ?_
          refine l_ild F w hL 2 rfl ((14 * i) + 4) (show (14 * i) + 4 < 56 by omega) dL_law_1140 ?_
          refine lv_fold (y := S 2 ((14 * i) + 4)) ((up2_r (by decide)).trans (up2_r (by decide))) ?_
          refine l_ist F w hd hY 3 rfl ((15 * i) + (3 * k) + 2) (show (15 * i) + (3 * k) + 2 < 60 by omega) dL_law_1141 (fun H locs Y hd hY w => ?_)
          have hL := hY.un hd
          refine lv_iinc (v := nI (k + 1)) (lv' := [(22, .int (nI (k + 1))), (26, .int (nI ((15 * i) + (3 * k)))), (17, .int 1), (25, .int 1), (24, .int (f_L_lapsed S i)), (23, .int (nI (1 + q983))), (0, .ref b), (1, .ref o), (2, .ref (ad 2)), (3, .ref (ad 3)), (4, .ref (ad 4)), (5, .ref (ad 5)), (6, .ref (ad 6)), (7, .ref (ad 7)), (8, .ref (ad 8)), (9, .ref (ad 9)), (10, .ref (ad 10)), (11, .int (nI t)), (12, .int v12), (13, .int u), (14, .int (nI i)), (15, .int (nI (14 * i))), (16, .int (nI v))]) F.1 F.2.1 dL_law_1142 hl (k := 5) rfl (nI_1 _) (by decide) rfl (fun ls hl => ?_)
          refine lv_goto (tgt := 955) F.1 F.2.1 dL_law_1145 (by decide) ?_
          exact KN ((is_ok hR hi hk5 (T := 1 + q983) (by omega) (by omega) c_30 (Or.inl c_34)).2) hi hk5 ⟨by omega, by omega⟩ (by omega) ho hd hM hY w (lv_sub hl [0, 6, 7, 8, 9, 10, 11, 12, 13, 14, 15, 16, 17, 18, 19, 20, 21, 22, 2] rfl)
        · refine lv_iload F.1 F.2.1 dL_law_1021 (lv_at hl 2 rfl) ?_
          refine lv_iconst (v := 4) F.1 F.2.1 dL_law_1023 (by decide) ?_
          refine lv_icmp_eq (tgt := 1046) F.1 F.2.1 dL_law_1024 (by decide) (fun c_38 => ?_) (fun c_38 => ?_)
          · refine lv_iconst (v := 1) F.1 F.2.1 dL_law_1046 (by decide) ?_
            refine lv_goto (tgt := 1051) F.1 F.2.1 dL_law_1047 (by decide) ?_
            refine lv_istore (lv' := [(25, .int 1), (24, .int (f_L_lapsed S i)), (23, .int (nI (1 + q983))), (22, .int (nI k)), (0, .ref b), (1, .ref o), (2, .ref (ad 2)), (3, .ref (ad 3)), (4, .ref (ad 4)), (5, .ref (ad 5)), (6, .ref (ad 6)), (7, .ref (ad 7)), (8, .ref (ad 8)), (9, .ref (ad 9)), (10, .ref (ad 10)), (11, .int (nI t)), (12, .int v12), (13, .int u), (14, .int (nI i)), (15, .int (nI (14 * i))), (16, .int (nI v)), (17, .int 1)]) F.1 F.2.1 dL_law_1051 hl (by decide) rfl (fun ls hl => ?_)
            refine lv_iload F.1 F.2.1 dL_law_1053 (lv_at hl 21 rfl) ?_
            refine lv_aload_n F.1 F.2.1 dL_law_1055 rfl (lv_at hl 5 rfl) ?_
            refine lv_iload F.1 F.2.1 dL_law_1056 (lv_at hl 18 rfl) ?_
            refine lv_iload F.1 F.2.1 dL_law_1058 (lv_at hl 3 rfl) ?_
            refine lv_iload F.1 F.2.1 dL_law_1060 (lv_at hl 2 rfl) ?_
            refine lw_issue (rest := [.int 1]) F w hd hM ho hR.r.ic (nI i) (nI k) (nI (1 + q983)) hlf dL_law_1062 hl.1 ⟨by omega, by omega⟩ (Nat.le_of_ble_eq_true rfl) ⟨by omega, by omega⟩ (fun v1062 X AD H locs hv1062 ho hd hM w => ?_)
            have hL := hY.un hd
            refine lv_fold (y := (S 10 0) + (nI (1 + q983))) (hv1062.trans ((is_ok hR hi hk5 (T := 1 + q983) (by omega) (by omega) c_30 (Or.inr (Or.inl c_38))).1)) ?_
            refine lv_iload F.1 F.2.1 dL_law_1065 (lv_at hl 0 rfl) ?_
            refine lv_if_eq (tgt := 1080) F.1 F.2.1 dL_law_1067 (by decide) (fun c_39 => absurd c_39 (by decide)) (fun c_39 => ?_)
            refine lv_aload F.1 F.2.1 dL_law_1070 (lv_at hl 14 rfl) ?_
            refine lv_iconst (v := 0) F.1 F.2.1 dL_law_1072 (by decide) ?_
            refine l_ild F w hL 10 rfl 0 (show 0 < 9 by omega) dL_law_1073 ?_
            refine lv_iload F.1 F.2.1 dL_law_1074 (lv_at hl 2 rfl) ?_
            refine lv_iadd F.1 F.2.1 dL_law_1076 ?_
            refine lv_goto (tgt := 1083) F.1 F.2.1 dL_law_1077 (by decide) ?_
            refine lv_icmp_ne (tgt := 1090) F.1 F.2.1 dL_law_1083 (by decide) (fun c_40 => absurd rfl c_40) (fun c_40 => ?_)
            refine lv_iconst (v := 1) F.1 F.2.1 dL_law_1086 (by decide) ?_
            refine lv_goto (tgt := 1091) F.1 F.2.1 dL_law_1087 (by decide) ?_
            refine lv_iand F.1 F.2.1 dL_law_1091 ?_
            refine lv_fold (y := 1) (by decide) ?_
            refine lv_istore (lv' := [(17, .int 1), (25, .int 1), (24, .int (f_L_lapsed S i)), (23, .int (nI (1 + q983))), (22, .int (nI k)), (0, .ref b), (1, .ref o), (2, .ref (ad 2)), (3, .ref (ad 3)), (4, .ref (ad 4)), (5, .ref (ad 5)), (6, .ref (ad 6)), (7, .ref (ad 7)), (8, .ref (ad 8)), (9, .ref (ad 9)), (10, .ref (ad 10)), (11, .int (nI t)), (12, .int v12), (13, .int u), (14, .int (nI i)), (15, .int (nI (14 * i))), (16, .int (nI v))]) F.1 F.2.1 dL_law_1092 hl (by decide) rfl (fun ls hl => ?_)
            refine lv_iload F.1 F.2.1 dL_law_1094 (lv_at hl 1 rfl) ?_
            refine lv_if_ne (tgt := 1102) F.1 F.2.1 dL_law_1096 (by decide) (fun c_41 => ?_) (fun c_41 => absurd c_41 (by decide))
            refine lv_bipush (v := 15) F.1 F.2.1 dL_law_1102 (by decide) ?_
            refine lv_iload F.1 F.2.1 dL_law_1104 (lv_at hl 19 rfl) ?_
            refine lv_imul F.1 F.2.1 dL_law_1106 ?_
            refine lv_fold (y := nI (15 * i)) (pk_mul 15 i) ?_
            refine lv_iconst (v := 3) F.1 F.2.1 dL_law_1107 (by decide) ?_
            refine lv_iload F.1 F.2.1 dL_law_1108 (lv_at hl 4 rfl) ?_
            refine lv_imul F.1 F.2.1 dL_law_1110 ?_
            refine lv_fold (y := nI (3 * k)) (pk_mul 3 k) ?_
            refine lv_iadd F.1 F.2.1 dL_law_1111 ?_
            refine lv_fold (y := nI ((15 * i) + (3 * k))) (nI_add _ _) ?_
            refine lv_istore (lv' := [(26, .int (nI ((15 * i) + (3 * k)))), (17, .int 1), (25, .int 1), (24, .int (f_L_lapsed S i)), (23, .int (nI (1 + q983))), (22, .int (nI k)), (0, .ref b), (1, .ref o), (2, .ref (ad 2)), (3, .ref (ad 3)), (4, .ref (ad 4)), (5, .ref (ad 5)), (6, .ref (ad 6)), (7, .ref (ad 7)), (8, .ref (ad 8)), (9, .ref (ad 9)), (10, .ref (ad 10)), (11, .int (nI t)), (12, .int v12), (13, .int u), (14, .int (nI i)), (15, .int (nI (14 * i))), (16, .int (nI v))]) F.1 F.2.1 dL_law_1112 hl (by decide) rfl (fun ls hl => ?_)
            refine lv_aload_n F.1 F.2.1 dL_law_1114 rfl (lv_at hl 9 rfl) ?_
            refine lv_iload F.1 F.2.1 dL_law_1115 (lv_at hl 0 rfl) ?_
            refine lv_aload F.1 F.2.1 dL_law_1117 (lv_at hl 16 rfl) ?_
            refine lv_iconst (v := 0) F.1 F.2.1 dL_law_1119 (by decide) ?_
            refine l_ild F w hL 10 rfl 0 (show 0 < 9 by omega) dL_law_1120 ?_
            refine l_ist F w hd hY 3 rfl ((15 * i) + (3 * k)) (show (15 * i) + (3 * k) < 60 by omega) dL_law_1121 (fun H locs Y hd hY w => ?_)
            have hL := hY.un hd
            refine lv_aload_n F.1 F.2.1 dL_law_1122 rfl (lv_at hl 9 rfl) ?_
            refine lv_iload F.1 F.2.1 dL_law_1123 (lv_at hl 0 rfl) ?_
            refine lv_iconst (v := 1) F.1 F.2.1 dL_law_1125 (by decide) ?_
            refine lv_iadd F.1 F.2.1 dL_law_1126 ?_
            refine lv_fold (y := nI ((15 * i) + (3 * k) + 1)) (nI_add ((15 * i) + (3 * k)) 1) ?_
            refine lv_iload F.1 F.2.1 dL_law_1127 (lv_at hl 4 rfl) ?_
            refine l_ist F w hd hY 3 rfl ((15 * i) + (3 * k) + 1) (show (15 * i) + (3 * k) + 1 < 60 by omega) dL_law_1129 (fun H locs Y hd hY w => ?_)
            have hL := hY.un hd
            refine lv_aload_n F.1 F.2.1 dL_law_1130 rfl (lv_at hl 9 rfl) ?_
            refine lv_iload F.1 F.2.1 dL_law_1131 (lv_at hl 0 rfl) ?_
            refine lv_iconst (v := 2) F.1 F.2.1 dL_law_1133 (by decide) ?_
            refine lv_iadd F.1 F.2.1 dL_law_1134 ?_
            refine lv_fold (y := nI ((15 * i) + (3 * k) + 2)) (nI_add ((15 * i) + (3 * k)) 2) ?_
            refine lv_aload_n F.1 F.2.1 dL_law_1135 rfl (lv_at hl 8 rfl) ?_
            refine lv_iload F.1 F.2.1 dL_law_1136 (lv_at hl 21 rfl) ?_
            refine lv_iconst (v := 4) F.1 F.2.1 dL_law_1138 (by decide) ?_
            refine lv_iadd F.1 F.2.1 dL_law_1139 ?_
            refine lv_fold (y := nI ((14 * i) + 4)) (nI_add (14 * i) 4) ?_
            refine l_ild F w hL 2 rfl ((14 * i) + 4) (show (14 * i) + 4 < 56 by omega) dL_law_1140 ?_
            refine lv_fold (y := S 2 ((14 * i) + 4)) ((up2_r (by decide)).trans (up2_r (by decide))) ?_
            refine l_ist F w hd hY 3 rfl ((15 * i) + (3 * k) + 2) (show (15 * i) + (3 * k) + 2 < 60 by omega) dL_law_1141 (fun H locs Y hd hY w => ?_)
            have hL := hY.un hd
            refine lv_iinc (v := nI (k + 1)) (lv' := [(22, .int (nI (k + 1))), (26, .int (nI ((15 * i) + (3 * k)))), (17, .int 1), (25, .int 1), (24, .int (f_L_lapsed S i)), (23, .int (nI (1 + q983))), (0, .ref b), (1, .ref o), (2, .ref (ad 2)), (3, .ref (ad 3)), (4, .ref (ad 4)), (5, .ref (ad 5)), (6, .ref (ad 6)), (7, .ref (ad 7)), (8, .ref (ad 8)), (9, .ref (ad 9)), (10, .ref (ad 10)), (11, .int (nI t)), (12, .int v12), (13, .int u), (14, .int (nI i)), (15, .int (nI (14 * i))), (16, .int (nI v))]) F.1 F.2.1 dL_law_1142 hl (k := 5) rfl (nI_1 _) (by decide) rfl (fun ls hl => ?_)
            refine lv_goto (tgt := 955) F.1 F.2.1 dL_law_1145 (by decide) ?_
            exact KN ((is_ok hR hi hk5 (T := 1 + q983) (by omega) (by omega) c_30 (Or.inr (Or.inl c_38))).2) hi hk5 ⟨by omega, by omega⟩ (by omega) ho hd hM hY w (lv_sub hl [0, 6, 7, 8, 9, 10, 11, 12, 13, 14, 15, 16, 17, 18, 19, 20, 21, 22, 2] rfl)
          · refine lv_iload F.1 F.2.1 dL_law_1027 (lv_at hl 0 rfl) ?_
            refine lv_iload F.1 F.2.1 dL_law_1029 (lv_at hl 2 rfl) ?_
            refine lv_iconst (v := 2) F.1 F.2.1 dL_law_1031 (by decide) ?_
            refine lv_icmp_ne (tgt := 1039) F.1 F.2.1 dL_law_1032 (by decide) (fun c_42 => ?_) (fun c_42 => ?_)
            · refine lv_iconst (v := 0) F.1 F.2.1 dL_law_1039 (by decide) ?_
              refine lv_ishr F.1 F.2.1 dL_law_1040 ?_
              refine lv_iconst (v := 1) F.1 F.2.1 dL_law_1041 (by decide) ?_
              refine lv_iand F.1 F.2.1 dL_law_1042 ?_
              refine lv_if_ne (tgt := 1050) F.1 F.2.1 dL_law_1043 (by decide) (fun c_43 => ?_) (fun c_43 => ?_)
              · refine lv_iconst (v := 0) F.1 F.2.1 dL_law_1050 (by decide) ?_
                refine lv_istore (lv' := [(25, .int 0), (24, .int (f_L_lapsed S i)), (23, .int (nI (1 + q983))), (22, .int (nI k)), (0, .ref b), (1, .ref o), (2, .ref (ad 2)), (3, .ref (ad 3)), (4, .ref (ad 4)), (5, .ref (ad 5)), (6, .ref (ad 6)), (7, .ref (ad 7)), (8, .ref (ad 8)), (9, .ref (ad 9)), (10, .ref (ad 10)), (11, .int (nI t)), (12, .int v12), (13, .int u), (14, .int (nI i)), (15, .int (nI (14 * i))), (16, .int (nI v)), (17, .int 1)]) F.1 F.2.1 dL_law_1051 hl (by decide) rfl (fun ls hl => ?_)
                refine lv_iload F.1 F.2.1 dL_law_1053 (lv_at hl 21 rfl) ?_
                refine lv_aload_n F.1 F.2.1 dL_law_1055 rfl (lv_at hl 5 rfl) ?_
                refine lv_iload F.1 F.2.1 dL_law_1056 (lv_at hl 18 rfl) ?_
                refine lv_iload F.1 F.2.1 dL_law_1058 (lv_at hl 3 rfl) ?_
                refine lv_iload F.1 F.2.1 dL_law_1060 (lv_at hl 2 rfl) ?_
                refine lw_issue (rest := [.int 1]) F w hd hM ho hR.r.ic (nI i) (nI k) (nI (1 + q983)) hlf dL_law_1062 hl.1 ⟨by omega, by omega⟩ (Nat.le_of_ble_eq_true rfl) ⟨by omega, by omega⟩ (fun v1062 X AD H locs hv1062 ho hd hM w => ?_)
                have hL := hY.un hd
                refine lv_fold (y := (-7300)) (hv1062.trans ((is_no2 hR hi hk5 (T := 1 + q983) (by omega) (by omega) c_34 c_38 (Or.inr ⟨c_42, c_43⟩)).1)) ?_
                refine lv_iload F.1 F.2.1 dL_law_1065 (lv_at hl 0 rfl) ?_
                refine lv_if_eq (tgt := 1080) F.1 F.2.1 dL_law_1067 (by decide) (fun c_44 => ?_) (fun c_44 => absurd rfl c_44)
                refine lv_sipush (v := -7300) F.1 F.2.1 dL_law_1080 (by decide) ?_
                refine lv_icmp_ne (tgt := 1090) F.1 F.2.1 dL_law_1083 (by decide) (fun c_45 => absurd rfl c_45) (fun c_45 => ?_)
                refine lv_iconst (v := 1) F.1 F.2.1 dL_law_1086 (by decide) ?_
                refine lv_goto (tgt := 1091) F.1 F.2.1 dL_law_1087 (by decide) ?_
                refine lv_iand F.1 F.2.1 dL_law_1091 ?_
                refine lv_fold (y := 1) (by decide) ?_
                refine lv_istore (lv' := [(17, .int 1), (25, .int 0), (24, .int (f_L_lapsed S i)), (23, .int (nI (1 + q983))), (22, .int (nI k)), (0, .ref b), (1, .ref o), (2, .ref (ad 2)), (3, .ref (ad 3)), (4, .ref (ad 4)), (5, .ref (ad 5)), (6, .ref (ad 6)), (7, .ref (ad 7)), (8, .ref (ad 8)), (9, .ref (ad 9)), (10, .ref (ad 10)), (11, .int (nI t)), (12, .int v12), (13, .int u), (14, .int (nI i)), (15, .int (nI (14 * i))), (16, .int (nI v))]) F.1 F.2.1 dL_law_1092 hl (by decide) rfl (fun ls hl => ?_)
                refine lv_iload F.1 F.2.1 dL_law_1094 (lv_at hl 1 rfl) ?_
                refine lv_if_ne (tgt := 1102) F.1 F.2.1 dL_law_1096 (by decide) (fun c_46 => absurd rfl c_46) (fun c_46 => ?_)
                refine lv_goto (tgt := 1142) F.1 F.2.1 dL_law_1099 (by decide) ?_
                refine lv_iinc (v := nI (k + 1)) (lv' := [(22, .int (nI (k + 1))), (17, .int 1), (25, .int 0), (24, .int (f_L_lapsed S i)), (23, .int (nI (1 + q983))), (0, .ref b), (1, .ref o), (2, .ref (ad 2)), (3, .ref (ad 3)), (4, .ref (ad 4)), (5, .ref (ad 5)), (6, .ref (ad 6)), (7, .ref (ad 7)), (8, .ref (ad 8)), (9, .ref (ad 9)), (10, .ref (ad 10)), (11, .int (nI t)), (12, .int v12), (13, .int u), (14, .int (nI i)), (15, .int (nI (14 * i))), (16, .int (nI v))]) F.1 F.2.1 dL_law_1142 hl (k := 4) rfl (nI_1 _) (by decide) rfl (fun ls hl => ?_)
                refine lv_goto (tgt := 955) F.1 F.2.1 dL_law_1145 (by decide) ?_
                rw [(is_no2 hR hi hk5 (T := 1 + q983) (by omega) (by omega) c_34 c_38 (Or.inr ⟨c_42, c_43⟩)).2] at hM
                exact KN hR hi hk5 ⟨by omega, by omega⟩ (by omega) ho hd hM hY w (lv_sub hl [0, 5, 6, 7, 8, 9, 10, 11, 12, 13, 14, 15, 16, 17, 18, 19, 20, 21, 1] rfl)
              · refine lv_iconst (v := 1) F.1 F.2.1 dL_law_1046 (by decide) ?_
                refine lv_goto (tgt := 1051) F.1 F.2.1 dL_law_1047 (by decide) ?_
                refine lv_istore (lv' := [(25, .int 1), (24, .int (f_L_lapsed S i)), (23, .int (nI (1 + q983))), (22, .int (nI k)), (0, .ref b), (1, .ref o), (2, .ref (ad 2)), (3, .ref (ad 3)), (4, .ref (ad 4)), (5, .ref (ad 5)), (6, .ref (ad 6)), (7, .ref (ad 7)), (8, .ref (ad 8)), (9, .ref (ad 9)), (10, .ref (ad 10)), (11, .int (nI t)), (12, .int v12), (13, .int u), (14, .int (nI i)), (15, .int (nI (14 * i))), (16, .int (nI v)), (17, .int 1)]) F.1 F.2.1 dL_law_1051 hl (by decide) rfl (fun ls hl => ?_)
                refine lv_iload F.1 F.2.1 dL_law_1053 (lv_at hl 21 rfl) ?_
                refine lv_aload_n F.1 F.2.1 dL_law_1055 rfl (lv_at hl 5 rfl) ?_
                refine lv_iload F.1 F.2.1 dL_law_1056 (lv_at hl 18 rfl) ?_
                refine lv_iload F.1 F.2.1 dL_law_1058 (lv_at hl 3 rfl) ?_
                refine lv_iload F.1 F.2.1 dL_law_1060 (lv_at hl 2 rfl) ?_
                refine lw_issue (rest := [.int 1]) F w hd hM ho hR.r.ic (nI i) (nI k) (nI (1 + q983)) hlf dL_law_1062 hl.1 ⟨by omega, by omega⟩ (Nat.le_of_ble_eq_true rfl) ⟨by omega, by omega⟩ (fun v1062 X AD H locs hv1062 ho hd hM w => ?_)
                have hL := hY.un hd
                refine lv_fold (y := (S 10 0) + (nI (1 + q983))) (hv1062.trans ((is_ok hR hi hk5 (T := 1 + q983) (by omega) (by omega) c_30 (Or.inr (Or.inr (Or.inr ⟨c_34, c_38, c_42, c_43⟩)))).1)) ?_
                refine lv_iload F.1 F.2.1 dL_law_1065 (lv_at hl 0 rfl) ?_
                refine lv_if_eq (tgt := 1080) F.1 F.2.1 dL_law_1067 (by decide) (fun c_47 => absurd c_47 (by decide)) (fun c_47 => ?_)
                refine lv_aload F.1 F.2.1 dL_law_1070 (lv_at hl 14 rfl) ?_
                refine lv_iconst (v := 0) F.1 F.2.1 dL_law_1072 (by decide) ?_
                refine l_ild F w hL 10 rfl 0 (show 0 < 9 by omega) dL_law_1073 ?_
                refine lv_iload F.1 F.2.1 dL_law_1074 (lv_at hl 2 rfl) ?_
                refine lv_iadd F.1 F.2.1 dL_law_1076 ?_
                refine lv_goto (tgt := 1083) F.1 F.2.1 dL_law_1077 (by decide) ?_
                refine lv_icmp_ne (tgt := 1090) F.1 F.2.1 dL_law_1083 (by decide) (fun c_48 => absurd rfl c_48) (fun c_48 => ?_)
                refine lv_iconst (v := 1) F.1 F.2.1 dL_law_1086 (by decide) ?_
                refine lv_goto (tgt := 1091) F.1 F.2.1 dL_law_1087 (by decide) ?_
                refine lv_iand F.1 F.2.1 dL_law_1091 ?_
                refine lv_fold (y := 1) (by decide) ?_
                refine lv_istore (lv' := [(17, .int 1), (25, .int 1), (24, .int (f_L_lapsed S i)), (23, .int (nI (1 + q983))), (22, .int (nI k)), (0, .ref b), (1, .ref o), (2, .ref (ad 2)), (3, .ref (ad 3)), (4, .ref (ad 4)), (5, .ref (ad 5)), (6, .ref (ad 6)), (7, .ref (ad 7)), (8, .ref (ad 8)), (9, .ref (ad 9)), (10, .ref (ad 10)), (11, .int (nI t)), (12, .int v12), (13, .int u), (14, .int (nI i)), (15, .int (nI (14 * i))), (16, .int (nI v))]) F.1 F.2.1 dL_law_1092 hl (by decide) rfl (fun ls hl => ?_)
                refine lv_iload F.1 F.2.1 dL_law_1094 (lv_at hl 1 rfl) ?_
                refine lv_if_ne (tgt := 1102) F.1 F.2.1 dL_law_1096 (by decide) (fun c_49 => ?_) (fun c_49 => absurd c_49 (by decide))
                refine lv_bipush (v := 15) F.1 F.2.1 dL_law_1102 (by decide) ?_
                refine lv_iload F.1 F.2.1 dL_law_1104 (lv_at hl 19 rfl) ?_
                refine lv_imul F.1 F.2.1 dL_law_1106 ?_
                refine lv_fold (y := nI (15 * i)) (pk_mul 15 i) ?_
                refine lv_iconst (v := 3) F.1 F.2.1 dL_law_1107 (by decide) ?_
                refine lv_iload F.1 F.2.1 dL_law_1108 (lv_at hl 4 rfl) ?_
                refine lv_imul F.1 F.2.1 dL_law_1110 ?_
                refine lv_fold (y := nI (3 * k)) (pk_mul 3 k) ?_
                refine lv_iadd F.1 F.2.1 dL_law_1111 ?_
                refine lv_fold (y := nI ((15 * i) + (3 * k))) (nI_add _ _) ?_
                refine lv_istore (lv' := [(26, .int (nI ((15 * i) + (3 * k)))), (17, .int 1), (25, .int 1), (24, .int (f_L_lapsed S i)), (23, .int (nI (1 + q983))), (22, .int (nI k)), (0, .ref b), (1, .ref o), (2, .ref (ad 2)), (3, .ref (ad 3)), (4, .ref (ad 4)), (5, .ref (ad 5)), (6, .ref (ad 6)), (7, .ref (ad 7)), (8, .ref (ad 8)), (9, .ref (ad 9)), (10, .ref (ad 10)), (11, .int (nI t)), (12, .int v12), (13, .int u), (14, .int (nI i)), (15, .int (nI (14 * i))), (16, .int (nI v))]) F.1 F.2.1 dL_law_1112 hl (by decide) rfl (fun ls hl => ?_)
                refine lv_aload_n F.1 F.2.1 dL_law_1114 rfl (lv_at hl 9 rfl) ?_
                refine lv_iload F.1 F.2.1 dL_law_1115 (lv_at hl 0 rfl) ?_
                refine lv_aload F.1 F.2.1 dL_law_1117 (lv_at hl 16 rfl) ?_
                refine lv_iconst (v := 0) F.1 F.2.1 dL_law_1119 (by decide) ?_
                refine l_ild F w hL 10 rfl 0 (show 0 < 9 by omega) dL_law_1120 ?_
                refine l_ist F w hd hY 3 rfl ((15 * i) + (3 * k)) (show (15 * i) + (3 * k) < 60 by omega) dL_law_1121 (fun H locs Y hd hY w => ?_)
                have hL := hY.un hd
                refine lv_aload_n F.1 F.2.1 dL_law_1122 rfl (lv_at hl 9 rfl) ?_
                refine lv_iload F.1 F.2.1 dL_law_1123 (lv_at hl 0 rfl) ?_
                refine lv_iconst (v := 1) F.1 F.2.1 dL_law_1125 (by decide) ?_
                refine lv_iadd F.1 F.2.1 dL_law_1126 ?_
                refine lv_fold (y := nI ((15 * i) + (3 * k) + 1)) (nI_add ((15 * i) + (3 * k)) 1) ?_
                refine lv_iload F.1 F.2.1 dL_law_1127 (lv_at hl 4 rfl) ?_
                refine l_ist F w hd hY 3 rfl ((15 * i) + (3 * k) + 1) (show (15 * i) + (3 * k) + 1 < 60 by omega) dL_law_1129 (fun H locs Y hd hY w => ?_)
                have hL := hY.un hd
                refine lv_aload_n F.1 F.2.1 dL_law_1130 rfl (lv_at hl 9 rfl) ?_
                refine lv_iload F.1 F.2.1 dL_law_1131 (lv_at hl 0 rfl) ?_
                refine lv_iconst (v := 2) F.1 F.2.1 dL_law_1133 (by decide) ?_
                refine lv_iadd F.1 F.2.1 dL_law_1134 ?_
                refine lv_fold (y := nI ((15 * i) + (3 * k) + 2)) (nI_add ((15 * i) + (3 * k)) 2) ?_
                refine lv_aload_n F.1 F.2.1 dL_law_1135 rfl (lv_at hl 8 rfl) ?_
                refine lv_iload F.1 F.2.1 dL_law_1136 (lv_at hl 21 rfl) ?_
                refine lv_iconst (v := 4) F.1 F.2.1 dL_law_1138 (by decide) ?_
                refine lv_iadd F.1 F.2.1 dL_law_1139 ?_
                refine lv_fold (y := nI ((14 * i) + 4)) (nI_add (14 * i) 4) ?_
                refine l_ild F w hL 2 rfl ((14 * i) + 4) (show (14 * i) + 4 < 56 by omega) dL_law_1140 ?_
                refine lv_fold (y := S 2 ((14 * i) + 4)) ((up2_r (by decide)).trans (up2_r (by decide))) ?_
                refine l_ist F w hd hY 3 rfl ((15 * i) + (3 * k) + 2) (show (15 * i) + (3 * k) + 2 < 60 by omega) dL_law_1141 (fun H locs Y hd hY w => ?_)
                have hL := hY.un hd
                refine lv_iinc (v := nI (k + 1)) (lv' := [(22, .int (nI (k + 1))), (26, .int (nI ((15 * i) + (3 * k)))), (17, .int 1), (25, .int 1), (24, .int (f_L_lapsed S i)), (23, .int (nI (1 + q983))), (0, .ref b), (1, .ref o), (2, .ref (ad 2)), (3, .ref (ad 3)), (4, .ref (ad 4)), (5, .ref (ad 5)), (6, .ref (ad 6)), (7, .ref (ad 7)), (8, .ref (ad 8)), (9, .ref (ad 9)), (10, .ref (ad 10)), (11, .int (nI t)), (12, .int v12), (13, .int u), (14, .int (nI i)), (15, .int (nI (14 * i))), (16, .int (nI v))]) F.1 F.2.1 dL_law_1142 hl (k := 5) rfl (nI_1 _) (by decide) rfl (fun ls hl => ?_)
                refine lv_goto (tgt := 955) F.1 F.2.1 dL_law_1145 (by decide) ?_
                exact KN ((is_ok hR hi hk5 (T := 1 + q983) (by omega) (by omega) c_30 (Or.inr (Or.inr (Or.inr ⟨c_34, c_38, c_42, c_43⟩)))).2) hi hk5 ⟨by omega, by omega⟩ (by omega) ho hd hM hY w (lv_sub hl [0, 6, 7, 8, 9, 10, 11, 12, 13, 14, 15, 16, 17, 18, 19, 20, 21, 22, 2] rfl)
            · refine lv_iconst (v := 1) F.1 F.2.1 dL_law_1035 (by decide) ?_
              refine lv_goto (tgt := 1040) F.1 F.2.1 dL_law_1036 (by decide) ?_
              refine lv_ishr F.1 F.2.1 dL_law_1040 ?_
              refine lv_iconst (v := 1) F.1 F.2.1 dL_law_1041 (by decide) ?_
              refine lv_iand F.1 F.2.1 dL_law_1042 ?_
              refine lv_if_ne (tgt := 1050) F.1 F.2.1 dL_law_1043 (by decide) (fun c_50 => ?_) (fun c_50 => ?_)
              · refine lv_iconst (v := 0) F.1 F.2.1 dL_law_1050 (by decide) ?_
                refine lv_istore (lv' := [(25, .int 0), (24, .int (f_L_lapsed S i)), (23, .int (nI (1 + q983))), (22, .int (nI k)), (0, .ref b), (1, .ref o), (2, .ref (ad 2)), (3, .ref (ad 3)), (4, .ref (ad 4)), (5, .ref (ad 5)), (6, .ref (ad 6)), (7, .ref (ad 7)), (8, .ref (ad 8)), (9, .ref (ad 9)), (10, .ref (ad 10)), (11, .int (nI t)), (12, .int v12), (13, .int u), (14, .int (nI i)), (15, .int (nI (14 * i))), (16, .int (nI v)), (17, .int 1)]) F.1 F.2.1 dL_law_1051 hl (by decide) rfl (fun ls hl => ?_)
                refine lv_iload F.1 F.2.1 dL_law_1053 (lv_at hl 21 rfl) ?_
                refine lv_aload_n F.1 F.2.1 dL_law_1055 rfl (lv_at hl 5 rfl) ?_
                refine lv_iload F.1 F.2.1 dL_law_1056 (lv_at hl 18 rfl) ?_
                refine lv_iload F.1 F.2.1 dL_law_1058 (lv_at hl 3 rfl) ?_
                refine lv_iload F.1 F.2.1 dL_law_1060 (lv_at hl 2 rfl) ?_
                refine lw_issue (rest := [.int 1]) F w hd hM ho hR.r.ic (nI i) (nI k) (nI (1 + q983)) hlf dL_law_1062 hl.1 ⟨by omega, by omega⟩ (Nat.le_of_ble_eq_true rfl) ⟨by omega, by omega⟩ (fun v1062 X AD H locs hv1062 ho hd hM w => ?_)
                have hL := hY.un hd
                refine lv_fold (y := (-7300)) (hv1062.trans ((is_no2 hR hi hk5 (T := 1 + q983) (by omega) (by omega) c_34 c_38 (Or.inl ⟨c_42, c_50⟩)).1)) ?_
                refine lv_iload F.1 F.2.1 dL_law_1065 (lv_at hl 0 rfl) ?_
                refine lv_if_eq (tgt := 1080) F.1 F.2.1 dL_law_1067 (by decide) (fun c_51 => ?_) (fun c_51 => absurd rfl c_51)
                refine lv_sipush (v := -7300) F.1 F.2.1 dL_law_1080 (by decide) ?_
                refine lv_icmp_ne (tgt := 1090) F.1 F.2.1 dL_law_1083 (by decide) (fun c_52 => absurd rfl c_52) (fun c_52 => ?_)
                refine lv_iconst (v := 1) F.1 F.2.1 dL_law_1086 (by decide) ?_
                refine lv_goto (tgt := 1091) F.1 F.2.1 dL_law_1087 (by decide) ?_
                refine lv_iand F.1 F.2.1 dL_law_1091 ?_
                refine lv_fold (y := 1) (by decide) ?_
                refine lv_istore (lv' := [(17, .int 1), (25, .int 0), (24, .int (f_L_lapsed S i)), (23, .int (nI (1 + q983))), (22, .int (nI k)), (0, .ref b), (1, .ref o), (2, .ref (ad 2)), (3, .ref (ad 3)), (4, .ref (ad 4)), (5, .ref (ad 5)), (6, .ref (ad 6)), (7, .ref (ad 7)), (8, .ref (ad 8)), (9, .ref (ad 9)), (10, .ref (ad 10)), (11, .int (nI t)), (12, .int v12), (13, .int u), (14, .int (nI i)), (15, .int (nI (14 * i))), (16, .int (nI v))]) F.1 F.2.1 dL_law_1092 hl (by decide) rfl (fun ls hl => ?_)
                refine lv_iload F.1 F.2.1 dL_law_1094 (lv_at hl 1 rfl) ?_
                refine lv_if_ne (tgt := 1102) F.1 F.2.1 dL_law_1096 (by decide) (fun c_53 => absurd rfl c_53) (fun c_53 => ?_)
                refine lv_goto (tgt := 1142) F.1 F.2.1 dL_law_1099 (by decide) ?_
                refine lv_iinc (v := nI (k + 1)) (lv' := [(22, .int (nI (k + 1))), (17, .int 1), (25, .int 0), (24, .int (f_L_lapsed S i)), (23, .int (nI (1 + q983))), (0, .ref b), (1, .ref o), (2, .ref (ad 2)), (3, .ref (ad 3)), (4, .ref (ad 4)), (5, .ref (ad 5)), (6, .ref (ad 6)), (7, .ref (ad 7)), (8, .ref (ad 8)), (9, .ref (ad 9)), (10, .ref (ad 10)), (11, .int (nI t)), (12, .int v12), (13, .int u), (14, .int (nI i)), (15, .int (nI (14 * i))), (16, .int (nI v))]) F.1 F.2.1 dL_law_1142 hl (k := 4) rfl (nI_1 _) (by decide) rfl (fun ls hl => ?_)
                refine lv_goto (tgt := 955) F.1 F.2.1 dL_law_1145 (by decide) ?_
                rw [(is_no2 hR hi hk5 (T := 1 + q983) (by omega) (by omega) c_34 c_38 (Or.inl ⟨c_42, c_50⟩)).2] at hM
                exact KN hR hi hk5 ⟨by omega, by omega⟩ (by omega) ho hd hM hY w (lv_sub hl [0, 5, 6, 7, 8, 9, 10, 11, 12, 13, 14, 15, 16, 17, 18, 19, 20, 21, 1] rfl)
              · refine lv_iconst (v := 1) F.1 F.2.1 dL_law_1046 (by decide) ?_
                refine lv_goto (tgt := 1051) F.1 F.2.1 dL_law_1047 (by decide) ?_
                refine lv_istore (lv' := [(25, .int 1), (24, .int (f_L_lapsed S i)), (23, .int (nI (1 + q983))), (22, .int (nI k)), (0, .ref b), (1, .ref o), (2, .ref (ad 2)), (3, .ref (ad 3)), (4, .ref (ad 4)), (5, .ref (ad 5)), (6, .ref (ad 6)), (7, .ref (ad 7)), (8, .ref (ad 8)), (9, .ref (ad 9)), (10, .ref (ad 10)), (11, .int (nI t)), (12, .int v12), (13, .int u), (14, .int (nI i)), (15, .int (nI (14 * i))), (16, .int (nI v)), (17, .int 1)]) F.1 F.2.1 dL_law_1051 hl (by decide) rfl (fun ls hl => ?_)
                refine lv_iload F.1 F.2.1 dL_law_1053 (lv_at hl 21 rfl) ?_
                refine lv_aload_n F.1 F.2.1 dL_law_1055 rfl (lv_at hl 5 rfl) ?_
                refine lv_iload F.1 F.2.1 dL_law_1056 (lv_at hl 18 rfl) ?_
                refine lv_iload F.1 F.2.1 dL_law_1058 (lv_at hl 3 rfl) ?_
                refine lv_iload F.1 F.2.1 dL_law_1060 (lv_at hl 2 rfl) ?_
                refine lw_issue (rest := [.int 1]) F w hd hM ho hR.r.ic (nI i) (nI k) (nI (1 + q983)) hlf dL_law_1062 hl.1 ⟨by omega, by omega⟩ (Nat.le_of_ble_eq_true rfl) ⟨by omega, by omega⟩ (fun v1062 X AD H locs hv1062 ho hd hM w => ?_)
                have hL := hY.un hd
                refine lv_fold (y := (S 10 0) + (nI (1 + q983))) (hv1062.trans ((is_ok hR hi hk5 (T := 1 + q983) (by omega) (by omega) c_30 (Or.inr (Or.inr (Or.inl ⟨c_42, c_50⟩)))).1)) ?_
                refine lv_iload F.1 F.2.1 dL_law_1065 (lv_at hl 0 rfl) ?_
                refine lv_if_eq (tgt := 1080) F.1 F.2.1 dL_law_1067 (by decide) (fun c_54 => absurd c_54 (by decide)) (fun c_54 => ?_)
                refine lv_aload F.1 F.2.1 dL_law_1070 (lv_at hl 14 rfl) ?_
                refine lv_iconst (v := 0) F.1 F.2.1 dL_law_1072 (by decide) ?_
                refine l_ild F w hL 10 rfl 0 (show 0 < 9 by omega) dL_law_1073 ?_
                refine lv_iload F.1 F.2.1 dL_law_1074 (lv_at hl 2 rfl) ?_
                refine lv_iadd F.1 F.2.1 dL_law_1076 ?_
                refine lv_goto (tgt := 1083) F.1 F.2.1 dL_law_1077 (by decide) ?_
                refine lv_icmp_ne (tgt := 1090) F.1 F.2.1 dL_law_1083 (by decide) (fun c_55 => absurd rfl c_55) (fun c_55 => ?_)
                refine lv_iconst (v := 1) F.1 F.2.1 dL_law_1086 (by decide) ?_
                refine lv_goto (tgt := 1091) F.1 F.2.1 dL_law_1087 (by decide) ?_
                refine lv_iand F.1 F.2.1 dL_law_1091 ?_
                refine lv_fold (y := 1) (by decide) ?_
                refine lv_istore (lv' := [(17, .int 1), (25, .int 1), (24, .int (f_L_lapsed S i)), (23, .int (nI (1 + q983))), (22, .int (nI k)), (0, .ref b), (1, .ref o), (2, .ref (ad 2)), (3, .ref (ad 3)), (4, .ref (ad 4)), (5, .ref (ad 5)), (6, .ref (ad 6)), (7, .ref (ad 7)), (8, .ref (ad 8)), (9, .ref (ad 9)), (10, .ref (ad 10)), (11, .int (nI t)), (12, .int v12), (13, .int u), (14, .int (nI i)), (15, .int (nI (14 * i))), (16, .int (nI v))]) F.1 F.2.1 dL_law_1092 hl (by decide) rfl (fun ls hl => ?_)
                refine lv_iload F.1 F.2.1 dL_law_1094 (lv_at hl 1 rfl) ?_
                refine lv_if_ne (tgt := 1102) F.1 F.2.1 dL_law_1096 (by decide) (fun c_56 => ?_) (fun c_56 => absurd c_56 (by decide))
                refine lv_bipush (v := 15) F.1 F.2.1 dL_law_1102 (by decide) ?_
                refine lv_iload F.1 F.2.1 dL_law_1104 (lv_at hl 19 rfl) ?_
                refine lv_imul F.1 F.2.1 dL_law_1106 ?_
                refine lv_fold (y := nI (15 * i)) (pk_mul 15 i) ?_
                refine lv_iconst (v := 3) F.1 F.2.1 dL_law_1107 (by decide) ?_
                refine lv_iload F.1 F.2.1 dL_law_1108 (lv_at hl 4 rfl) ?_
                refine lv_imul F.1 F.2.1 dL_law_1110 ?_
                refine lv_fold (y := nI (3 * k)) (pk_mul 3 k) ?_
                refine lv_iadd F.1 F.2.1 dL_law_1111 ?_
                refine lv_fold (y := nI ((15 * i) + (3 * k))) (nI_add _ _) ?_
                refine lv_istore (lv' := [(26, .int (nI ((15 * i) + (3 * k)))), (17, .int 1), (25, .int 1), (24, .int (f_L_lapsed S i)), (23, .int (nI (1 + q983))), (22, .int (nI k)), (0, .ref b), (1, .ref o), (2, .ref (ad 2)), (3, .ref (ad 3)), (4, .ref (ad 4)), (5, .ref (ad 5)), (6, .ref (ad 6)), (7, .ref (ad 7)), (8, .ref (ad 8)), (9, .ref (ad 9)), (10, .ref (ad 10)), (11, .int (nI t)), (12, .int v12), (13, .int u), (14, .int (nI i)), (15, .int (nI (14 * i))), (16, .int (nI v))]) F.1 F.2.1 dL_law_1112 hl (by decide) rfl (fun ls hl => ?_)
                refine lv_aload_n F.1 F.2.1 dL_law_1114 rfl (lv_at hl 9 rfl) ?_
                refine lv_iload F.1 F.2.1 dL_law_1115 (lv_at hl 0 rfl) ?_
                refine lv_aload F.1 F.2.1 dL_law_1117 (lv_at hl 16 rfl) ?_
                refine lv_iconst (v := 0) F.1 F.2.1 dL_law_1119 (by decide) ?_
                refine l_ild F w hL 10 rfl 0 (show 0 < 9 by omega) dL_law_1120 ?_
                refine l_ist F w hd hY 3 rfl ((15 * i) + (3 * k)) (show (15 * i) + (3 * k) < 60 by omega) dL_law_1121 (fun H locs Y hd hY w => ?_)
                have hL := hY.un hd
                refine lv_aload_n F.1 F.2.1 dL_law_1122 rfl (lv_at hl 9 rfl) ?_
                refine lv_iload F.1 F.2.1 dL_law_1123 (lv_at hl 0 rfl) ?_
                refine lv_iconst (v := 1) F.1 F.2.1 dL_law_1125 (by decide) ?_
                refine lv_iadd F.1 F.2.1 dL_law_1126 ?_
                refine lv_fold (y := nI ((15 * i) + (3 * k) + 1)) (nI_add ((15 * i) + (3 * k)) 1) ?_
                refine lv_iload F.1 F.2.1 dL_law_1127 (lv_at hl 4 rfl) ?_
                refine l_ist F w hd hY 3 rfl ((15 * i) + (3 * k) + 1) (show (15 * i) + (3 * k) + 1 < 60 by omega) dL_law_1129 (fun H locs Y hd hY w => ?_)
                have hL := hY.un hd
                refine lv_aload_n F.1 F.2.1 dL_law_1130 rfl (lv_at hl 9 rfl) ?_
                refine lv_iload F.1 F.2.1 dL_law_1131 (lv_at hl 0 rfl) ?_
                refine lv_iconst (v := 2) F.1 F.2.1 dL_law_1133 (by decide) ?_
                refine lv_iadd F.1 F.2.1 dL_law_1134 ?_
                refine lv_fold (y := nI ((15 * i) + (3 * k) + 2)) (nI_add ((15 * i) + (3 * k)) 2) ?_
                refine lv_aload_n F.1 F.2.1 dL_law_1135 rfl (lv_at hl 8 rfl) ?_
                refine lv_iload F.1 F.2.1 dL_law_1136 (lv_at hl 21 rfl) ?_
                refine lv_iconst (v := 4) F.1 F.2.1 dL_law_1138 (by decide) ?_
                refine lv_iadd F.1 F.2.1 dL_law_1139 ?_
                refine lv_fold (y := nI ((14 * i) + 4)) (nI_add (14 * i) 4) ?_
                refine l_ild F w hL 2 rfl ((14 * i) + 4) (show (14 * i) + 4 < 56 by omega) dL_law_1140 ?_
                refine lv_fold (y := S 2 ((14 * i) + 4)) ((up2_r (by decide)).trans (up2_r (by decide))) ?_
                refine l_ist F w hd hY 3 rfl ((15 * i) + (3 * k) + 2) (show (15 * i) + (3 * k) + 2 < 60 by omega) dL_law_1141 (fun H locs Y hd hY w => ?_)
                have hL := hY.un hd
                refine lv_iinc (v := nI (k + 1)) (lv' := [(22, .int (nI (k + 1))), (26, .int (nI ((15 * i) + (3 * k)))), (17, .int 1), (25, .int 1), (24, .int (f_L_lapsed S i)), (23, .int (nI (1 + q983))), (0, .ref b), (1, .ref o), (2, .ref (ad 2)), (3, .ref (ad 3)), (4, .ref (ad 4)), (5, .ref (ad 5)), (6, .ref (ad 6)), (7, .ref (ad 7)), (8, .ref (ad 8)), (9, .ref (ad 9)), (10, .ref (ad 10)), (11, .int (nI t)), (12, .int v12), (13, .int u), (14, .int (nI i)), (15, .int (nI (14 * i))), (16, .int (nI v))]) F.1 F.2.1 dL_law_1142 hl (k := 5) rfl (nI_1 _) (by decide) rfl (fun ls hl => ?_)
                refine lv_goto (tgt := 955) F.1 F.2.1 dL_law_1145 (by decide) ?_
                exact KN ((is_ok hR hi hk5 (T := 1 + q983) (by omega) (by omega) c_30 (Or.inr (Or.inr (Or.inl ⟨c_42, c_50⟩)))).2) hi hk5 ⟨by omega, by omega⟩ (by omega) ho hd hM hY w (lv_sub hl [0, 6, 7, 8, 9, 10, 11, 12, 13, 14, 15, 16, 17, 18, 19, 20, 21, 22, 2] rfl)
set_option maxHeartbeats 4000000 in
theorem lc_issue_l {p : Program} {l : Launch} {e : Env} {R : Room} {s : State} {m : MethodId} {args : Array Value} {below : List Frame} {meth : Method} {c : Code} {Q : State → Prop} {D : va_G} {cy : Nat → ClassId} {A : Nat → Prop} {o b t i v : Nat} {ad : Nat → Nat} {u v12 : Int32} {n n1 c1 s1 : Nat} {G M S : GS} {Wf : Nat → Int64} (F : CallFix p m c cL_law 40 s args BIG RL) (hlf : l.stackTraces = false) (hRm : 11 ≤ R.frames ∧ 278 ≤ R.locals ∧ c1 ≤ R.cells ∧ s1 ≤ R.slots) (h511 : n1 ≤ 511) (K : KJ p l e R s m args below meth c Q D cy A o b t ad u n1 c1 s1) (hR : R26 n G M S Wf) {k : Nat} (hk : k ≤ 5) (hi4 : i < 4) (hi : i < gnS M) {X Y : MU} {AD : AM} {H : Heap} {locs : List Loc} {cells slots : Nat} (hf : cells + (5 - k) ≤ c1 ∧ slots + 6 * (5 - k) ≤ s1) (hn : n + 0 ≤ n1) (ho : AD 0 0 0 = o) (hd : dis X Y) (hM : RepC cy AD G X) (hY : RepL cy ad S Wf Y) (w : WW D cy A (un X Y) s H locs) {ls : Array Slot} (hl : lv_has ls 40 [(22, .int (nI k)), (0, .ref b), (1, .ref o), (2, .ref (ad 2)), (3, .ref (ad 3)), (4, .ref (ad 4)), (5, .ref (ad 5)), (6, .ref (ad 6)), (7, .ref (ad 7)), (8, .ref (ad 8)), (9, .ref (ad 9)), (10, .ref (ad 10)), (11, .int (nI t)), (12, .int v12), (13, .int u), (14, .int (nI i)), (15, .int (nI (14 * i))), (16, .int (nI v)), (17, .int 1)]) : W p l e R s m args below meth c H locs cells slots Q (F0 m 955 ls []) := by
  have h : ∀ (d k : Nat), k + d = 5 → ∀ {n : Nat} {G M S : GS} {Wf : Nat → Int64} {X Y : MU} {AD : AM} {H : Heap} {locs : List Loc} {cells slots : Nat} {ls : Array Slot}, R26 n G M S Wf → i < gnS M → (cells + (5 - k) ≤ c1 ∧ slots + 6 * (5 - k) ≤ s1) → n + 0 ≤ n1 → AD 0 0 0 = o → dis X Y → RepC cy AD G X → RepL cy ad S Wf Y → WW D cy A (un X Y) s H locs → lv_has ls 40 [(22, .int (nI k)), (0, .ref b), (1, .ref o), (2, .ref (ad 2)), (3, .ref (ad 3)), (4, .ref (ad 4)), (5, .ref (ad 5)), (6, .ref (ad 6)), (7, .ref (ad 7)), (8, .ref (ad 8)), (9, .ref (ad 9)), (10, .ref (ad 10)), (11, .int (nI t)), (12, .int v12), (13, .int u), (14, .int (nI i)), (15, .int (nI (14 * i))), (16, .int (nI v)), (17, .int 1)] → W p l e R s m args below meth c H locs cells slots Q (F0 m 955 ls []) := by
    intro d
    induction d with
    | zero =>
      intro k hk n G M S Wf X Y AD H locs cells slots ls hR hi hf hn ho hd hM hY w hl
      exact lc_issue_r F hlf hRm h511 K hR hi4 (by omega) hi (fun _ _ q => absurd q (by omega)) hf hn ho hd hM hY w hl
    | succ d ih =>
      intro k hk n G M S Wf X Y AD H locs cells slots ls hR hi hf hn ho hd hM hY w hl
      exact lc_issue_r F hlf hRm h511 K hR hi4 (by omega) hi (fun hR hi _ hf hn ho hd hM hY w hl => ih (k + 1) (by omega) hR hi hf hn ho hd hM hY w hl) hf hn ho hd hM hY w hl
  exact h (5 - k) k (by omega) hR hi hf hn ho hd hM hY w hl
set_option maxHeartbeats 4000000 in
set_option maxRecDepth 100000 in
theorem lc_issue {p : Program} {l : Launch} {e : Env} {R : Room} {s : State} {m : MethodId} {args : Array Value} {below : List Frame} {meth : Method} {c : Code} {Q : State → Prop} {D : va_G} {cy : Nat → ClassId} {A : Nat → Prop} {o b t i v : Nat} {ad : Nat → Nat} {u v12 : Int32} {n n1 c1 s1 : Nat} {G M S : GS} {Wf : Nat → Int64} (F : CallFix p m c cL_law 40 s args BIG RL) (hlf : l.stackTraces = false) (hRm : 11 ≤ R.frames ∧ 278 ≤ R.locals ∧ c1 ≤ R.cells ∧ s1 ≤ R.slots) (h511 : n1 ≤ 511) (K : KJ p l e R s m args below meth c Q D cy A o b t ad u n1 c1 s1) (hR : R26 n G M S Wf) (hi4 : i < 4) (hi0 : gnS M = 0 ∨ i < gnS M) (hv50 : v < 50) (hv0 : gnV M = 0 ∨ v < gnV M) {X Y : MU} {AD : AM} {H : Heap} {locs : List Loc} {cells slots : Nat} (hf : cells + 30 ≤ c1 ∧ slots + 9500 ≤ s1) (hn : n + 4 ≤ n1) (ho : AD 0 0 0 = o) (hd : dis X Y) (hM : RepC cy AD G X) (hY : RepL cy ad S Wf Y) (w : WW D cy A (un X Y) s H locs) {ls : Array Slot} (hl : lv_has ls 40 [(0, .ref b), (1, .ref o), (2, .ref (ad 2)), (3, .ref (ad 3)), (4, .ref (ad 4)), (5, .ref (ad 5)), (6, .ref (ad 6)), (7, .ref (ad 7)), (8, .ref (ad 8)), (9, .ref (ad 9)), (10, .ref (ad 10)), (11, .int (nI t)), (12, .int v12), (13, .int u), (14, .int (nI i)), (15, .int (nI (14 * i))), (16, .int (nI v)), (17, .int 1)]) : W p l e R s m args below meth c H locs cells slots Q (F0 m 936 ls []) := by
  have hL := hY.un hd
  obtain ⟨t9, ht9, ht⟩ := hR.td
  have hb4 := hR.b
  have heV := hR.eV
  refine lv_aload F.1 F.2.1 dL_law_936 (lv_at hl 10 rfl) ?_
  refine lv_bipush (v := 8) F.1 F.2.1 dL_law_938 (by decide) ?_
  refine l_ild F w hL 10 rfl 8 (show 8 < 9 by omega) dL_law_940 ?_
  refine lv_if_ne (tgt := 947) F.1 F.2.1 dL_law_941 (by decide) (fun c_1 => ?_) (fun c_1 => ?_)
  · have hi := si_ok hR hi0 c_1
    refine lv_iload F.1 F.2.1 dL_law_947 (lv_at hl 13 rfl) ?_
    refine lv_iconst (v := 3) F.1 F.2.1 dL_law_949 (by decide) ?_
    obtain ⟨q950, hq950, eq950⟩ := low_ok u (n := 3) (by omega) (by omega)
    refine q_rS (rest := []) F w kS_L_134 hd_L_low (c_L_low l D cy A _ u 3 (by decide)) dL_law_950 rfl rfl hl.1 ⟨rfl, rfl, (show 1 ≤ R.frames by omega), (show 21 ≤ R.locals by omega)⟩ (Nat.le_of_ble_eq_true rfl) ⟨by omega, by omega⟩ ?_
    refine lv_fold (y := nI q950) eq950 ?_
    refine lv_istore (lv' := [(22, .int (nI q950)), (0, .ref b), (1, .ref o), (2, .ref (ad 2)), (3, .ref (ad 3)), (4, .ref (ad 4)), (5, .ref (ad 5)), (6, .ref (ad 6)), (7, .ref (ad 7)), (8, .ref (ad 8)), (9, .ref (ad 9)), (10, .ref (ad 10)), (11, .int (nI t)), (12, .int v12), (13, .int u), (14, .int (nI i)), (15, .int (nI (14 * i))), (16, .int (nI v)), (17, .int 1)]) F.1 F.2.1 dL_law_953 hl (by decide) rfl (fun ls hl => ?_)
    exact lc_issue_l F hlf hRm h511 K hR (k := q950) (by omega) hi4 hi ⟨by omega, by omega⟩ (by omega) ho hd hM hY w (lv_sub hl [0, 1, 2, 3, 4, 5, 6, 7, 8, 9, 10, 11, 12, 13, 14, 15, 16, 17, 18] rfl)
  · refine lv_goto (tgt := 3461) F.1 F.2.1 dL_law_944 (by decide) ?_
    refine W.widen (k := c1) (n := s1) (by omega) (by omega) ?_
    exact K _ _ ls ⟨X, Y, AD, _, _, _, _, ho, hd, hM, hY, w, R26.ups hR (by omega)⟩ (lv_sub hl [17, 0, 1, 2, 3, 4, 5, 6, 7, 8, 9, 10, 11, 13] rfl)
