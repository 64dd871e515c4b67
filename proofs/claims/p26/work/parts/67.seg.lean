set_option maxHeartbeats 4000000 in
set_option maxRecDepth 100000 in
theorem lc_votes_r {p : Program} {l : Launch} {e : Env} {R : Room} {s : State} {m : MethodId} {args : Array Value} {below : List Frame} {meth : Method} {c : Code} {Q : State → Prop} {D : va_G} {cy : Nat → ClassId} {A : Nat → Prop} {o b t i v : Nat} {ad : Nat → Nat} {u v12 : Int32} {n n1 c1 s1 : Nat} {G M S : GS} {Wf : Nat → Int64} {k : Nat} (F : CallFix p m c cL_law 40 s args BIG RL) (hlf : l.stackTraces = false) (hRm : 11 ≤ R.frames ∧ 278 ≤ R.locals ∧ c1 ≤ R.cells ∧ s1 ≤ R.slots) (h511 : n1 ≤ 511) (K : KJ p l e R s m args below meth c Q D cy A o b t ad u n1 c1 s1) (hR : R26 n G M S Wf) (hk : k ≤ 3) (hv : v < gnV M) (KN : ∀ {n : Nat} {G M S : GS} {Wf : Nat → Int64} {X Y : MU} {AD : AM} {H : Heap} {locs : List Loc} {cells slots : Nat} {ls : Array Slot}, R26 n G M S Wf → v < gnV M → k < 3 → (cells + 2 * (3 - (k + 1)) ≤ c1 ∧ slots + 1004 * (3 - (k + 1)) ≤ s1) → n + (3 - (k + 1)) ≤ n1 → AD 0 0 0 = o → dis X Y → RepC cy AD G X → RepL cy ad S Wf Y → WW D cy A (un X Y) s H locs → lv_has ls 40 [(35, .int (nI (k + 1))), (0, .ref b), (1, .ref o), (2, .ref (ad 2)), (3, .ref (ad 3)), (4, .ref (ad 4)), (5, .ref (ad 5)), (6, .ref (ad 6)), (7, .ref (ad 7)), (8, .ref (ad 8)), (9, .ref (ad 9)), (10, .ref (ad 10)), (11, .int (nI t)), (12, .int v12), (13, .int u), (14, .int (nI i)), (15, .int (nI (14 * i))), (16, .int (nI v)), (17, .int 1)] → W p l e R s m args below meth c H locs cells slots Q (F0 m 2952 ls [])) {X Y : MU} {AD : AM} {H : Heap} {locs : List Loc} {cells slots : Nat} (hf : cells + 2 * (3 - k) ≤ c1 ∧ slots + 1004 * (3 - k) ≤ s1) (hn : n + (3 - k) ≤ n1) (ho : AD 0 0 0 = o) (hd : dis X Y) (hM : RepC cy AD G X) (hY : RepL cy ad S Wf Y) (w : WW D cy A (un X Y) s H locs) {ls : Array Slot} (hl : lv_has ls 40 [(35, .int (nI k)), (0, .ref b), (1, .ref o), (2, .ref (ad 2)), (3, .ref (ad 3)), (4, .ref (ad 4)), (5, .ref (ad 5)), (6, .ref (ad 6)), (7, .ref (ad 7)), (8, .ref (ad 8)), (9, .ref (ad 9)), (10, .ref (ad 10)), (11, .int (nI t)), (12, .int v12), (13, .int u), (14, .int (nI i)), (15, .int (nI (14 * i))), (16, .int (nI v)), (17, .int 1)]) : W p l e R s m args below meth c H locs cells slots Q (F0 m 2952 ls []) := by
  have hL := hY.un hd
  obtain ⟨t9, ht9, ht⟩ := hR.td
  have hb4 := hR.b
  have heV := hR.eV
  refine lv_iload F.1 F.2.1 dL_law_2952 (lv_at hl 0 rfl) ?_
  refine lv_iload F.1 F.2.1 dL_law_2954 (lv_at hl 14 rfl) ?_
  refine lv_iconst (v := 4) F.1 F.2.1 dL_law_2956 (by decide) ?_
  obtain ⟨q2957, hq2957, eq2957⟩ := low_ok u (n := 4) (by omega) (by omega)
  refine q_rS (rest := [.int (nI k)]) F w kS_L_134 hd_L_low (c_L_low l D cy A _ u 4 (by decide)) dL_law_2957 rfl rfl hl.1 ⟨rfl, rfl, (show 1 ≤ R.frames by omega), (show 21 ≤ R.locals by omega)⟩ (Nat.le_of_ble_eq_true rfl) ⟨by omega, by omega⟩ ?_
  refine lv_fold (y := nI q2957) eq2957 ?_
  refine lv_icmp_ge (tgt := 3169) F.1 F.2.1 dL_law_2960 (by decide) (fun c_1 => ?_) (fun c_1 => ?_)
  · refine lv_goto (tgt := 3461) F.1 F.2.1 dL_law_3169 (by decide) ?_
    refine W.widen (k := c1) (n := s1) (by omega) (by omega) ?_
    exact K _ _ ls ⟨X, Y, AD, _, _, _, _, ho, hd, hM, hY, w, R26.ups hR (by omega)⟩ (lv_sub hl [18, 1, 2, 3, 4, 5, 6, 7, 8, 9, 10, 11, 12, 14] rfl)
  · have hk4 : k < 3 := by have z : k < q2957 := Nat.lt_of_not_le (fun q => c_1 (nI_le q (by omega))); omega
    refine lv_iload F.1 F.2.1 dL_law_2963 (lv_at hl 14 rfl) ?_
    refine lv_iload F.1 F.2.1 dL_law_2965 (lv_at hl 0 rfl) ?_
    refine lv_iconst (v := 4) F.1 F.2.1 dL_law_2967 (by decide) ?_
    refine lv_iadd F.1 F.2.1 dL_law_2968 ?_
    refine lv_fold (y := nI (k + 4)) (nI_add k 4) ?_
    refine lv_ishr F.1 F.2.1 dL_law_2969 ?_
    refine lv_iconst (v := 1) F.1 F.2.1 dL_law_2970 (by decide) ?_
    refine lv_iand F.1 F.2.1 dL_law_2971 ?_
    refine lv_if_ne (tgt := 2979) F.1 F.2.1 dL_law_2972 (by decide) (fun c_2 => ?_) (fun c_2 => ?_)
    · refine lv_iconst (v := 0) F.1 F.2.1 dL_law_2979 (by decide) ?_
      refine lv_istore (lv' := [(36, .int 0), (35, .int (nI k)), (0, .ref b), (1, .ref o), (2, .ref (ad 2)), (3, .ref (ad 3)), (4, .ref (ad 4)), (5, .ref (ad 5)), (6, .ref (ad 6)), (7, .ref (ad 7)), (8, .ref (ad 8)), (9, .ref (ad 9)), (10, .ref (ad 10)), (11, .int (nI t)), (12, .int v12), (13, .int u), (14, .int (nI i)), (15, .int (nI (14 * i))), (16, .int (nI v)), (17, .int 1)]) F.1 F.2.1 dL_law_2980 hl (by decide) rfl (fun ls hl => ?_)
      refine lv_aload F.1 F.2.1 dL_law_2982 (lv_at hl 7 rfl) ?_
      refine lv_iload F.1 F.2.1 dL_law_2984 (lv_at hl 18 rfl) ?_
      refine l_ild F w hL 5 rfl v (show v < 50 by omega) dL_law_2986 ?_
      refine q_rS (rest := []) F w kS_L_101 hd_L_info (c_L_info l D cy A _ (S 5 v)) dL_law_2987 rfl rfl hl.1 ⟨rfl, rfl, (show 1 ≤ R.frames by omega), (show 20 ≤ R.locals by omega)⟩ (Nat.le_of_ble_eq_true rfl) ⟨by omega, by omega⟩ ?_
      refine lv_iconst (v := 1) F.1 F.2.1 dL_law_2990 (by decide) ?_
      refine lv_ishr F.1 F.2.1 dL_law_2991 ?_
      refine lv_iconst (v := 3) F.1 F.2.1 dL_law_2992 (by decide) ?_
      refine lv_iand F.1 F.2.1 dL_law_2993 ?_
      refine lv_istore (lv' := [(37, .int (((f_L_info (S 5 v)) >>> (1 &&& 31)) &&& 3)), (36, .int 0), (35, .int (nI k)), (0, .ref b), (1, .ref o), (2, .ref (ad 2)), (3, .ref (ad 3)), (4, .ref (ad 4)), (5, .ref (ad 5)), (6, .ref (ad 6)), (7, .ref (ad 7)), (8, .ref (ad 8)), (9, .ref (ad 9)), (10, .ref (ad 10)), (11, .int (nI t)), (12, .int v12), (13, .int u), (14, .int (nI i)), (15, .int (nI (14 * i))), (16, .int (nI v)), (17, .int 1)]) F.1 F.2.1 dL_law_2994 hl (by decide) rfl (fun ls hl => ?_)
      refine lv_aload F.1 F.2.1 dL_law_2996 (lv_at hl 8 rfl) ?_
      refine lv_iload F.1 F.2.1 dL_law_2998 (lv_at hl 19 rfl) ?_
      refine l_ild F w hL 5 rfl v (show v < 50 by omega) dL_law_3000 ?_
      refine q_rS (rest := []) F w kS_L_101 hd_L_info (c_L_info l D cy A _ (S 5 v)) dL_law_3001 rfl rfl hl.1 ⟨rfl, rfl, (show 1 ≤ R.frames by omega), (show 20 ≤ R.locals by omega)⟩ (Nat.le_of_ble_eq_true rfl) ⟨by omega, by omega⟩ ?_
      refine lv_iconst (v := 3) F.1 F.2.1 dL_law_3004 (by decide) ?_
      refine lv_ishr F.1 F.2.1 dL_law_3005 ?_
      refine lv_iconst (v := 3) F.1 F.2.1 dL_law_3006 (by decide) ?_
      refine lv_iand F.1 F.2.1 dL_law_3007 ?_
      refine lv_istore (lv' := [(38, .int (((f_L_info (S 5 v)) >>> (3 &&& 31)) &&& 3)), (37, .int (((f_L_info (S 5 v)) >>> (1 &&& 31)) &&& 3)), (36, .int 0), (35, .int (nI k)), (0, .ref b), (1, .ref o), (2, .ref (ad 2)), (3, .ref (ad 3)), (4, .ref (ad 4)), (5, .ref (ad 5)), (6, .ref (ad 6)), (7, .ref (ad 7)), (8, .ref (ad 8)), (9, .ref (ad 9)), (10, .ref (ad 10)), (11, .int (nI t)), (12, .int v12), (13, .int u), (14, .int (nI i)), (15, .int (nI (14 * i))), (16, .int (nI v)), (17, .int 1)]) F.1 F.2.1 dL_law_3008 hl (by decide) rfl (fun ls hl => ?_)
      refine lv_aload F.1 F.2.1 dL_law_3010 (lv_at hl 9 rfl) ?_
      refine lv_iload F.1 F.2.1 dL_law_3012 (lv_at hl 20 rfl) ?_
      refine l_ild F w hL 5 rfl v (show v < 50 by omega) dL_law_3014 ?_
      refine q_rS (rest := []) F w kS_L_101 hd_L_info (c_L_info l D cy A _ (S 5 v)) dL_law_3015 rfl rfl hl.1 ⟨rfl, rfl, (show 1 ≤ R.frames by omega), (show 20 ≤ R.locals by omega)⟩ (Nat.le_of_ble_eq_true rfl) ⟨by omega, by omega⟩ ?_
      refine lv_iconst (v := 1) F.1 F.2.1 dL_law_3018 (by decide) ?_
      refine lv_iand F.1 F.2.1 dL_law_3019 ?_
      refine lv_iconst (v := 1) F.1 F.2.1 dL_law_3020 (by decide) ?_
      refine lv_icmp_ne (tgt := 3040) F.1 F.2.1 dL_law_3021 (by decide) (fun c_3 => ?_) (fun c_3 => ?_)
      · refine lv_iconst (v := 0) F.1 F.2.1 dL_law_3040 (by decide) ?_
        refine lv_istore (lv' := [(39, .int 0), (38, .int (((f_L_info (S 5 v)) >>> (3 &&& 31)) &&& 3)), (37, .int (((f_L_info (S 5 v)) >>> (1 &&& 31)) &&& 3)), (36, .int 0), (35, .int (nI k)), (0, .ref b), (1, .ref o), (2, .ref (ad 2)), (3, .ref (ad 3)), (4, .ref (ad 4)), (5, .ref (ad 5)), (6, .ref (ad 6)), (7, .ref (ad 7)), (8, .ref (ad 8)), (9, .ref (ad 9)), (10, .ref (ad 10)), (11, .int (nI t)), (12, .int v12), (13, .int u), (14, .int (nI i)), (15, .int (nI (14 * i))), (16, .int (nI v)), (17, .int 1)]) F.1 F.2.1 dL_law_3041 hl (by decide) rfl (fun ls hl => ?_)
        refine lv_iload F.1 F.2.1 dL_law_3043 (lv_at hl 0 rfl) ?_
        refine lv_if_eq (tgt := 3070) F.1 F.2.1 dL_law_3045 (by decide) (fun c_4 => ?_) (fun c_4 => absurd rfl c_4)
        refine lv_iload F.1 F.2.1 dL_law_3070 (lv_at hl 2 rfl) ?_
        refine lv_iload F.1 F.2.1 dL_law_3072 (lv_at hl 0 rfl) ?_
        refine lv_if_eq (tgt := 3086) F.1 F.2.1 dL_law_3074 (by decide) (fun c_5 => ?_) (fun c_5 => absurd rfl c_5)
        refine lv_iconst (v := 0) F.1 F.2.1 dL_law_3086 (by decide) ?_
        refine lv_iadd F.1 F.2.1 dL_law_3087 ?_
        refine lv_istore (lv' := [(37, .int ((((f_L_info (S 5 v)) >>> (1 &&& 31)) &&& 3) + 0)), (39, .int 0), (38, .int (((f_L_info (S 5 v)) >>> (3 &&& 31)) &&& 3)), (36, .int 0), (35, .int (nI k)), (0, .ref b), (1, .ref o), (2, .ref (ad 2)), (3, .ref (ad 3)), (4, .ref (ad 4)), (5, .ref (ad 5)), (6, .ref (ad 6)), (7, .ref (ad 7)), (8, .ref (ad 8)), (9, .ref (ad 9)), (10, .ref (ad 10)), (11, .int (nI t)), (12, .int v12), (13, .int u), (14, .int (nI i)), (15, .int (nI (14 * i))), (16, .int (nI v)), (17, .int 1)]) F.1 F.2.1 dL_law_3088 hl (by decide) rfl (fun ls hl => ?_)
        refine lv_iload F.1 F.2.1 dL_law_3090 (lv_at hl 2 rfl) ?_
        refine lv_iload F.1 F.2.1 dL_law_3092 (lv_at hl 1 rfl) ?_
        refine lv_if_eq (tgt := 3106) F.1 F.2.1 dL_law_3094 (by decide) (fun c_6 => ?_) (fun c_6 => absurd rfl c_6)
        refine lv_iconst (v := 0) F.1 F.2.1 dL_law_3106 (by decide) ?_
        refine lv_iadd F.1 F.2.1 dL_law_3107 ?_
        refine lv_istore (lv' := [(38, .int ((((f_L_info (S 5 v)) >>> (3 &&& 31)) &&& 3) + 0)), (37, .int ((((f_L_info (S 5 v)) >>> (1 &&& 31)) &&& 3) + 0)), (39, .int 0), (36, .int 0), (35, .int (nI k)), (0, .ref b), (1, .ref o), (2, .ref (ad 2)), (3, .ref (ad 3)), (4, .ref (ad 4)), (5, .ref (ad 5)), (6, .ref (ad 6)), (7, .ref (ad 7)), (8, .ref (ad 8)), (9, .ref (ad 9)), (10, .ref (ad 10)), (11, .int (nI t)), (12, .int v12), (13, .int u), (14, .int (nI i)), (15, .int (nI (14 * i))), (16, .int (nI v)), (17, .int 1)]) F.1 F.2.1 dL_law_3108 hl (by decide) rfl (fun ls hl => ?_)
        refine lv_iload F.1 F.2.1 dL_law_3110 (lv_at hl 22 rfl) ?_
        refine lv_aload_n F.1 F.2.1 dL_law_3112 rfl (lv_at hl 6 rfl) ?_
        refine lv_iload F.1 F.2.1 dL_law_3113 (lv_at hl 21 rfl) ?_
        refine lv_iload F.1 F.2.1 dL_law_3115 (lv_at hl 3 rfl) ?_
        refine lw_vote (rest := [.int 1]) F w hd hM ho hR.r.ic (nI v) 0 (by decide) (fun s9 hs9 => hR.r.gn (by omega) hs9) hlf dL_law_3117 hl.1 ⟨by omega, by omega⟩ (Nat.le_of_ble_eq_true rfl) ⟨by omega, by omega⟩ (fun v3117 X AD H locs hv3117 ho hd hM w => ?_)
        have hL := hY.un hd
        refine lv_fold (y := (-7300)) (hv3117.trans ((vt_no hR hv (x := 0) (Or.inl c_3)).1)) ?_
        refine lv_iload F.1 F.2.1 dL_law_3120 (lv_at hl 2 rfl) ?_
        refine lv_if_ne (tgt := 3131) F.1 F.2.1 dL_law_3122 (by decide) (fun c_7 => absurd rfl c_7) (fun c_7 => ?_)
        refine lv_sipush (v := -7300) F.1 F.2.1 dL_law_3125 (by decide) ?_
        refine lv_goto (tgt := 3152) F.1 F.2.1 dL_law_3128 (by decide) ?_
        refine lv_icmp_ne (tgt := 3159) F.1 F.2.1 dL_law_3152 (by decide) (fun c_8 => absurd rfl c_8) (fun c_8 => ?_)
        refine lv_iconst (v := 1) F.1 F.2.1 dL_law_3155 (by decide) ?_
        refine lv_goto (tgt := 3160) F.1 F.2.1 dL_law_3156 (by decide) ?_
        refine lv_iand F.1 F.2.1 dL_law_3160 ?_
        refine lv_fold (y := 1) (by decide) ?_
        refine lv_istore (lv' := [(17, .int 1), (38, .int ((((f_L_info (S 5 v)) >>> (3 &&& 31)) &&& 3) + 0)), (37, .int ((((f_L_info (S 5 v)) >>> (1 &&& 31)) &&& 3) + 0)), (39, .int 0), (36, .int 0), (35, .int (nI k)), (0, .ref b), (1, .ref o), (2, .ref (ad 2)), (3, .ref (ad 3)), (4, .ref (ad 4)), (5, .ref (ad 5)), (6, .ref (ad 6)), (7, .ref (ad 7)), (8, .ref (ad 8)), (9, .ref (ad 9)), (10, .ref (ad 10)), (11, .int (nI t)), (12, .int v12), (13, .int u), (14, .int (nI i)), (15, .int (nI (14 * i))), (16, .int (nI v))]) F.1 F.2.1 dL_law_3161 hl (by decide) rfl (fun ls hl => ?_)
        refine lv_iinc (v := nI (k + 1)) (lv' := [(35, .int (nI (k + 1))), (17, .int 1), (38, .int ((((f_L_info (S 5 v)) >>> (3 &&& 31)) &&& 3) + 0)), (37, .int ((((f_L_info (S 5 v)) >>> (1 &&& 31)) &&& 3) + 0)), (39, .int 0), (36, .int 0), (0, .ref b), (1, .ref o), (2, .ref (ad 2)), (3, .ref (ad 3)), (4, .ref (ad 4)), (5, .ref (ad 5)), (6, .ref (ad 6)), (7, .ref (ad 7)), (8, .ref (ad 8)), (9, .ref (ad 9)), (10, .ref (ad 10)), (11, .int (nI t)), (12, .int v12), (13, .int u), (14, .int (nI i)), (15, .int (nI (14 * i))), (16, .int (nI v))]) F.1 F.2.1 dL_law_3163 hl (k := 5) rfl (nI_1 _) (by decide) rfl (fun ls hl => ?_)
        refine lv_goto (tgt := 2952) F.1 F.2.1 dL_law_3166 (by decide) ?_
        rw [(vt_no hR hv (x := 0) (Or.inl c_3)).2] at hM
        exact KN hR hv hk4 ⟨by omega, by omega⟩ (by omega) ho hd hM hY w (lv_sub hl [0, 6, 7, 8, 9, 10, 11, 12, 13, 14, 15, 16, 17, 18, 19, 20, 21, 22, 1] rfl)
      · refine lv_iload F.1 F.2.1 dL_law_3024 (lv_at hl 1 rfl) ?_
        refine lv_iconst (v := 2) F.1 F.2.1 dL_law_3026 (by decide) ?_
        refine lv_icmp_ge (tgt := 3040) F.1 F.2.1 dL_law_3027 (by decide) (fun c_9 => ?_) (fun c_9 => ?_)
        · refine lv_iconst (v := 0) F.1 F.2.1 dL_law_3040 (by decide) ?_
          refine lv_istore (lv' := [(39, .int 0), (38, .int (((f_L_info (S 5 v)) >>> (3 &&& 31)) &&& 3)), (37, .int (((f_L_info (S 5 v)) >>> (1 &&& 31)) &&& 3)), (36, .int 0), (35, .int (nI k)), (0, .ref b), (1, .ref o), (2, .ref (ad 2)), (3, .ref (ad 3)), (4, .ref (ad 4)), (5, .ref (ad 5)), (6, .ref (ad 6)), (7, .ref (ad 7)), (8, .ref (ad 8)), (9, .ref (ad 9)), (10, .ref (ad 10)), (11, .int (nI t)), (12, .int v12), (13, .int u), (14, .int (nI i)), (15, .int (nI (14 * i))), (16, .int (nI v)), (17, .int 1)]) F.1 F.2.1 dL_law_3041 hl (by decide) rfl (fun ls hl => ?_)
          refine lv_iload F.1 F.2.1 dL_law_3043 (lv_at hl 0 rfl) ?_
          refine lv_if_eq (tgt := 3070) F.1 F.2.1 dL_law_3045 (by decide) (fun c_10 => ?_) (fun c_10 => absurd rfl c_10)
          refine lv_iload F.1 F.2.1 dL_law_3070 (lv_at hl 2 rfl) ?_
          refine lv_iload F.1 F.2.1 dL_law_3072 (lv_at hl 0 rfl) ?_
          refine lv_if_eq (tgt := 3086) F.1 F.2.1 dL_law_3074 (by decide) (fun c_11 => ?_) (fun c_11 => absurd rfl c_11)
          refine lv_iconst (v := 0) F.1 F.2.1 dL_law_3086 (by decide) ?_
          refine lv_iadd F.1 F.2.1 dL_law_3087 ?_
          refine lv_istore (lv' := [(37, .int ((((f_L_info (S 5 v)) >>> (1 &&& 31)) &&& 3) + 0)), (39, .int 0), (38, .int (((f_L_info (S 5 v)) >>> (3 &&& 31)) &&& 3)), (36, .int 0), (35, .int (nI k)), (0, .ref b), (1, .ref o), (2, .ref (ad 2)), (3, .ref (ad 3)), (4, .ref (ad 4)), (5, .ref (ad 5)), (6, .ref (ad 6)), (7, .ref (ad 7)), (8, .ref (ad 8)), (9, .ref (ad 9)), (10, .ref (ad 10)), (11, .int (nI t)), (12, .int v12), (13, .int u), (14, .int (nI i)), (15, .int (nI (14 * i))), (16, .int (nI v)), (17, .int 1)]) F.1 F.2.1 dL_law_3088 hl (by decide) rfl (fun ls hl => ?_)
          refine lv_iload F.1 F.2.1 dL_law_3090 (lv_at hl 2 rfl) ?_
          refine lv_iload F.1 F.2.1 dL_law_3092 (lv_at hl 1 rfl) ?_
          refine lv_if_eq (tgt := 3106) F.1 F.2.1 dL_law_3094 (by decide) (fun c_12 => ?_) (fun c_12 => absurd rfl c_12)
          refine lv_iconst (v := 0) F.1 F.2.1 dL_law_3106 (by decide) ?_
          refine lv_iadd F.1 F.2.1 dL_law_3107 ?_
          refine lv_istore (lv' := [(38, .int ((((f_L_info (S 5 v)) >>> (3 &&& 31)) &&& 3) + 0)), (37, .int ((((f_L_info (S 5 v)) >>> (1 &&& 31)) &&& 3) + 0)), (39, .int 0), (36, .int 0), (35, .int (nI k)), (0, .ref b), (1, .ref o), (2, .ref (ad 2)), (3, .ref (ad 3)), (4, .ref (ad 4)), (5, .ref (ad 5)), (6, .ref (ad 6)), (7, .ref (ad 7)), (8, .ref (ad 8)), (9, .ref (ad 9)), (10, .ref (ad 10)), (11, .int (nI t)), (12, .int v12), (13, .int u), (14, .int (nI i)), (15, .int (nI (14 * i))), (16, .int (nI v)), (17, .int 1)]) F.1 F.2.1 dL_law_3108 hl (by decide) rfl (fun ls hl => ?_)
          refine lv_iload F.1 F.2.1 dL_law_3110 (lv_at hl 22 rfl) ?_
          refine lv_aload_n F.1 F.2.1 dL_law_3112 rfl (lv_at hl 6 rfl) ?_
          refine lv_iload F.1 F.2.1 dL_law_3113 (lv_at hl 21 rfl) ?_
          refine lv_iload F.1 F.2.1 dL_law_3115 (lv_at hl 3 rfl) ?_
          refine lw_vote (rest := [.int 1]) F w hd hM ho hR.r.ic (nI v) 0 (by decide) (fun s9 hs9 => hR.r.gn (by omega) hs9) hlf dL_law_3117 hl.1 ⟨by omega, by omega⟩ (Nat.le_of_ble_eq_true rfl) ⟨by omega, by omega⟩ (fun v3117 X AD H locs hv3117 ho hd hM w => ?_)
          have hL := hY.un hd
          refine lv_fold (y := (-7300)) (hv3117.trans ((vt_no hR hv (x := 0) (Or.inr (Or.inl c_9))).1)) ?_
          refine lv_iload F.1 F.2.1 dL_law_3120 (lv_at hl 2 rfl) ?_
          refine lv_if_ne (tgt := 3131) F.1 F.2.1 dL_law_3122 (by decide) (fun c_13 => absurd rfl c_13) (fun c_13 => ?_)
          refine lv_sipush (v := -7300) F.1 F.2.1 dL_law_3125 (by decide) ?_
          refine lv_goto (tgt := 3152) F.1 F.2.1 dL_law_3128 (by decide) ?_
          refine lv_icmp_ne (tgt := 3159) F.1 F.2.1 dL_law_3152 (by decide) (fun c_14 => absurd rfl c_14) (fun c_14 => ?_)
          refine lv_iconst (v := 1) F.1 F.2.1 dL_law_3155 (by decide) ?_
          refine lv_goto (tgt := 3160) F.1 F.2.1 dL_law_3156 (by decide) ?_
          refine lv_iand F.1 F.2.1 dL_law_3160 ?_
          refine lv_fold (y := 1) (by decide) ?_
          refine lv_istore (lv' := [(17, .int 1), (38, .int ((((f_L_info (S 5 v)) >>> (3 &&& 31)) &&& 3) + 0)), (37, .int ((((f_L_info (S 5 v)) >>> (1 &&& 31)) &&& 3) + 0)), (39, .int 0), (36, .int 0), (35, .int (nI k)), (0, .ref b), (1, .ref o), (2, .ref (ad 2)), (3, .ref (ad 3)), (4, .ref (ad 4)), (5, .ref (ad 5)), (6, .ref (ad 6)), (7, .ref (ad 7)), (8, .ref (ad 8)), (9, .ref (ad 9)), (10, .ref (ad 10)), (11, .int (nI t)), (12, .int v12), (13, .int u), (14, .int (nI i)), (15, .int (nI (14 * i))), (16, .int (nI v))]) F.1 F.2.1 dL_law_3161 hl (by decide) rfl (fun ls hl => ?_)
          refine lv_iinc (v := nI (k + 1)) (lv' := [(35, .int (nI (k + 1))), (17, .int 1), (38, .int ((((f_L_info (S 5 v)) >>> (3 &&& 31)) &&& 3) + 0)), (37, .int ((((f_L_info (S 5 v)) >>> (1 &&& 31)) &&& 3) + 0)), (39, .int 0), (36, .int 0), (0, .ref b), (1, .ref o), (2, .ref (ad 2)), (3, .ref (ad 3)), (4, .ref (ad 4)), (5, .ref (ad 5)), (6, .ref (ad 6)), (7, .ref (ad 7)), (8, .ref (ad 8)), (9, .ref (ad 9)), (10, .ref (ad 10)), (11, .int (nI t)), (12, .int v12), (13, .int u), (14, .int (nI i)), (15, .int (nI (14 * i))), (16, .int (nI v))]) F.1 F.2.1 dL_law_3163 hl (k := 5) rfl (nI_1 _) (by decide) rfl (fun ls hl => ?_)
          refine lv_goto (tgt := 2952) F.1 F.2.1 dL_law_3166 (by decide) ?_
          rw [(vt_no hR hv (x := 0) (Or.inr (Or.inl c_9))).2] at hM
          exact KN hR hv hk4 ⟨by omega, by omega⟩ (by omega) ho hd hM hY w (lv_sub hl [0, 6, 7, 8, 9, 10, 11, 12, 13, 14, 15, 16, 17, 18, 19, 20, 21, 22, 1] rfl)
        · refine lv_iload F.1 F.2.1 dL_law_3030 (lv_at hl 0 rfl) ?_
          refine lv_iconst (v := 2) F.1 F.2.1 dL_law_3032 (by decide) ?_
          refine lv_icmp_ge (tgt := 3040) F.1 F.2.1 dL_law_3033 (by decide) (fun c_15 => ?_) (fun c_15 => ?_)
          · refine lv_iconst (v := 0) F.1 F.2.1 dL_law_3040 (by decide) ?_
            refine lv_istore (lv' := [(39, .int 0), (38, .int (((f_L_info (S 5 v)) >>> (3 &&& 31)) &&& 3)), (37, .int (((f_L_info (S 5 v)) >>> (1 &&& 31)) &&& 3)), (36, .int 0), (35, .int (nI k)), (0, .ref b), (1, .ref o), (2, .ref (ad 2)), (3, .ref (ad 3)), (4, .ref (ad 4)), (5, .ref (ad 5)), (6, .ref (ad 6)), (7, .ref (ad 7)), (8, .ref (ad 8)), (9, .ref (ad 9)), (10, .ref (ad 10)), (11, .int (nI t)), (12, .int v12), (13, .int u), (14, .int (nI i)), (15, .int (nI (14 * i))), (16, .int (nI v)), (17, .int 1)]) F.1 F.2.1 dL_law_3041 hl (by decide) rfl (fun ls hl => ?_)
            refine lv_iload F.1 F.2.1 dL_law_3043 (lv_at hl 0 rfl) ?_
            refine lv_if_eq (tgt := 3070) F.1 F.2.1 dL_law_3045 (by decide) (fun c_16 => ?_) (fun c_16 => absurd rfl c_16)
            refine lv_iload F.1 F.2.1 dL_law_3070 (lv_at hl 2 rfl) ?_
            refine lv_iload F.1 F.2.1 dL_law_3072 (lv_at hl 0 rfl) ?_
            refine lv_if_eq (tgt := 3086) F.1 F.2.1 dL_law_3074 (by decide) (fun c_17 => ?_) (fun c_17 => absurd rfl c_17)
            refine lv_iconst (v := 0) F.1 F.2.1 dL_law_3086 (by decide) ?_
            refine lv_iadd F.1 F.2.1 dL_law_3087 ?_
            refine lv_istore (lv' := [(37, .int ((((f_L_info (S 5 v)) >>> (1 &&& 31)) &&& 3) + 0)), (39, .int 0), (38, .int (((f_L_info (S 5 v)) >>> (3 &&& 31)) &&& 3)), (36, .int 0), (35, .int (nI k)), (0, .ref b), (1, .ref o), (2, .ref (ad 2)), (3, .ref (ad 3)), (4, .ref (ad 4)), (5, .ref (ad 5)), (6, .ref (ad 6)), (7, .ref (ad 7)), (8, .ref (ad 8)), (9, .ref (ad 9)), (10, .ref (ad 10)), (11, .int (nI t)), (12, .int v12), (13, .int u), (14, .int (nI i)), (15, .int (nI (14 * i))), (16, .int (nI v)), (17, .int 1)]) F.1 F.2.1 dL_law_3088 hl (by decide) rfl (fun ls hl => ?_)
            refine lv_iload F.1 F.2.1 dL_law_3090 (lv_at hl 2 rfl) ?_
            refine lv_iload F.1 F.2.1 dL_law_3092 (lv_at hl 1 rfl) ?_
            refine lv_if_eq (tgt := 3106) F.1 F.2.1 dL_law_3094 (by decide) (fun c_18 => ?_) (fun c_18 => absurd rfl c_18)
            refine lv_iconst (v := 0) F.1 F.2.1 dL_law_3106 (by decide) ?_
            refine lv_iadd F.1 F.2.1 dL_law_3107 ?_
            refine lv_istore (lv' := [(38, .int ((((f_L_info (S 5 v)) >>> (3 &&& 31)) &&& 3) + 0)), (37, .int ((((f_L_info (S 5 v)) >>> (1 &&& 31)) &&& 3) + 0)), (39, .int 0), (36, .int 0), (35, .int (nI k)), (0, .ref b), (1, .ref o), (2, .ref (ad 2)), (3, .ref (ad 3)), (4, .ref (ad 4)), (5, .ref (ad 5)), (6, .ref (ad 6)), (7, .ref (ad 7)), (8, .ref (ad 8)), (9, .ref (ad 9)), (10, .ref (ad 10)), (11, .int (nI t)), (12, .int v12), (13, .int u), (14, .int (nI i)), (15, .int (nI (14 * i))), (16, .int (nI v)), (17, .int 1)]) F.1 F.2.1 dL_law_3108 hl (by decide) rfl (fun ls hl => ?_)
            refine lv_iload F.1 F.2.1 dL_law_3110 (lv_at hl 22 rfl) ?_
            refine lv_aload_n F.1 F.2.1 dL_law_3112 rfl (lv_at hl 6 rfl) ?_
            refine lv_iload F.1 F.2.1 dL_law_3113 (lv_at hl 21 rfl) ?_
            refine lv_iload F.1 F.2.1 dL_law_3115 (lv_at hl 3 rfl) ?_
            refine lw_vote (rest := [.int 1]) F w hd hM ho hR.r.ic (nI v) 0 (by decide) (fun s9 hs9 => hR.r.gn (by omega) hs9) hlf dL_law_3117 hl.1 ⟨by omega, by omega⟩ (Nat.le_of_ble_eq_true rfl) ⟨by omega, by omega⟩ (fun v3117 X AD H locs hv3117 ho hd hM w => ?_)
            have hL := hY.un hd
            refine lv_fold (y := (-7300)) (hv3117.trans ((vt_no hR hv (x := 0) (Or.inr (Or.inr c_15))).1)) ?_
            refine lv_iload F.1 F.2.1 dL_law_3120 (lv_at hl 2 rfl) ?_
            refine lv_if_ne (tgt := 3131) F.1 F.2.1 dL_law_3122 (by decide) (fun c_19 => absurd rfl c_19) (fun c_19 => ?_)
            refine lv_sipush (v := -7300) F.1 F.2.1 dL_law_3125 (by decide) ?_
            refine lv_goto (tgt := 3152) F.1 F.2.1 dL_law_3128 (by decide) ?_
            refine lv_icmp_ne (tgt := 3159) F.1 F.2.1 dL_law_3152 (by decide) (fun c_20 => absurd rfl c_20) (fun c_20 => ?_)
            refine lv_iconst (v := 1) F.1 F.2.1 dL_law_3155 (by decide) ?_
            refine lv_goto (tgt := 3160) F.1 F.2.1 dL_law_3156 (by decide) ?_
            refine lv_iand F.1 F.2.1 dL_law_3160 ?_
            refine lv_fold (y := 1) (by decide) ?_
            refine lv_istore (lv' := [(17, .int 1), (38, .int ((((f_L_info (S 5 v)) >>> (3 &&& 31)) &&& 3) + 0)), (37, .int ((((f_L_info (S 5 v)) >>> (1 &&& 31)) &&& 3) + 0)), (39, .int 0), (36, .int 0), (35, .int (nI k)), (0, .ref b), (1, .ref o), (2, .ref (ad 2)), (3, .ref (ad 3)), (4, .ref (ad 4)), (5, .ref (ad 5)), (6, .ref (ad 6)), (7, .ref (ad 7)), (8, .ref (ad 8)), (9, .ref (ad 9)), (10, .ref (ad 10)), (11, .int (nI t)), (12, .int v12), (13, .int u), (14, .int (nI i)), (15, .int (nI (14 * i))), (16, .int (nI v))]) F.1 F.2.1 dL_law_3161 hl (by decide) rfl (fun ls hl => ?_)
            refine lv_iinc (v := nI (k + 1)) (lv' := [(35, .int (nI (k + 1))), (17, .int 1), (38, .int ((((f_L_info (S 5 v)) >>> (3 &&& 31)) &&& 3) + 0)), (37, .int ((((f_L_info (S 5 v)) >>> (1 &&& 31)) &&& 3) + 0)), (39, .int 0), (36, .int 0), (0, .ref b), (1, .ref o), (2, .ref (ad 2)), (3, .ref (ad 3)), (4, .ref (ad 4)), (5, .ref (ad 5)), (6, .ref (ad 6)), (7, .ref (ad 7)), (8, .ref (ad 8)), (9, .ref (ad 9)), (10, .ref (ad 10)), (11, .int (nI t)), (12, .int v12), (13, .int u), (14, .int (nI i)), (15, .int (nI (14 * i))), (16, .int (nI v))]) F.1 F.2.1 dL_law_3163 hl (k := 5) rfl (nI_1 _) (by decide) rfl (fun ls hl => ?_)
            refine lv_goto (tgt := 2952) F.1 F.2.1 dL_law_3166 (by decide) ?_
            rw [(vt_no hR hv (x := 0) (Or.inr (Or.inr c_15))).2] at hM
            exact KN hR hv hk4 ⟨by omega, by omega⟩ (by omega) ho hd hM hY w (lv_sub hl [0, 6, 7, 8, 9, 10, 11, 12, 13, 14, 15, 16, 17, 18, 19, 20, 21, 22, 1] rfl)
          · refine lv_iconst (v := 1) F.1 F.2.1 dL_law_3036 (by decide) ?_
            refine lv_goto (tgt := 3041) F.1 F.2.1 dL_law_3037 (by decide) ?_
            refine lv_istore (lv' := [(39, .int 1), (38, .int (((f_L_info (S 5 v)) >>> (3 &&& 31)) &&& 3)), (37, .int (((f_L_info (S 5 v)) >>> (1 &&& 31)) &&& 3)), (36, .int 0), (35, .int (nI k)), (0, .ref b), (1, .ref o), (2, .ref (ad 2)), (3, .ref (ad 3)), (4, .ref (ad 4)), (5, .ref (ad 5)), (6, .ref (ad 6)), (7, .ref (ad 7)), (8, .ref (ad 8)), (9, .ref (ad 9)), (10, .ref (ad 10)), (11, .int (nI t)), (12, .int v12), (13, .int u), (14, .int (nI i)), (15, .int (nI (14 * i))), (16, .int (nI v)), (17, .int 1)]) F.1 F.2.1 dL_law_3041 hl (by decide) rfl (fun ls hl => ?_)
            refine lv_iload F.1 F.2.1 dL_law_3043 (lv_at hl 0 rfl) ?_
            refine lv_if_eq (tgt := 3070) F.1 F.2.1 dL_law_3045 (by decide) (fun c_21 => absurd c_21 (by decide)) (fun c_21 => ?_)
            refine lv_aload F.1 F.2.1 dL_law_3048 (lv_at hl 10 rfl) ?_
            refine lv_iload F.1 F.2.1 dL_law_3050 (lv_at hl 21 rfl) ?_
            refine lv_dup2_11 F.1 F.2.1 dL_law_3052 rfl rfl ?_
            refine l_ild F w hL 5 rfl v (show v < 50 by omega) dL_law_3053 ?_
            refine lv_iload F.1 F.2.1 dL_law_3054 (lv_at hl 3 rfl) ?_
            refine lv_if_eq (tgt := 3063) F.1 F.2.1 dL_law_3056 (by decide) (fun c_22 => ?_) (fun c_22 => absurd rfl c_22)
            refine lv_bipush (v := 8) F.1 F.2.1 dL_law_3063 (by decide) ?_
            refine lv_bipush (v := 13) F.1 F.2.1 dL_law_3065 (by decide) ?_
            refine lv_ishl F.1 F.2.1 dL_law_3067 ?_
            refine lv_iadd F.1 F.2.1 dL_law_3068 ?_
            refine l_ist F w hd hY 5 rfl v (show v < 50 by omega) dL_law_3069 (fun H locs Y hd hY w => ?_)
            have hL := hY.un hd
            refine lv_iload F.1 F.2.1 dL_law_3070 (lv_at hl 2 rfl) ?_
            refine lv_iload F.1 F.2.1 dL_law_3072 (lv_at hl 0 rfl) ?_
            refine lv_if_eq (tgt := 3086) F.1 F.2.1 dL_law_3074 (by decide) (fun c_23 => absurd c_23 (by decide)) (fun c_23 => ?_)
            refine lv_iload F.1 F.2.1 dL_law_3077 (lv_at hl 3 rfl) ?_
            refine lv_if_eq (tgt := 3086) F.1 F.2.1 dL_law_3079 (by decide) (fun c_24 => ?_) (fun c_24 => absurd rfl c_24)
            refine lv_iconst (v := 0) F.1 F.2.1 dL_law_3086 (by decide) ?_
            refine lv_iadd F.1 F.2.1 dL_law_3087 ?_
            refine lv_istore (lv' := [(37, .int ((((f_L_info (S 5 v)) >>> (1 &&& 31)) &&& 3) + 0)), (39, .int 1), (38, .int (((f_L_info (S 5 v)) >>> (3 &&& 31)) &&& 3)), (36, .int 0), (35, .int (nI k)), (0, .ref b), (1, .ref o), (2, .ref (ad 2)), (3, .ref (ad 3)), (4, .ref (ad 4)), (5, .ref (ad 5)), (6, .ref (ad 6)), (7, .ref (ad 7)), (8, .ref (ad 8)), (9, .ref (ad 9)), (10, .ref (ad 10)), (11, .int (nI t)), (12, .int v12), (13, .int u), (14, .int (nI i)), (15, .int (nI (14 * i))), (16, .int (nI v)), (17, .int 1)]) F.1 F.2.1 dL_law_3088 hl (by decide) rfl (fun ls hl => ?_)
            refine lv_iload F.1 F.2.1 dL_law_3090 (lv_at hl 2 rfl) ?_
            refine lv_iload F.1 F.2.1 dL_law_3092 (lv_at hl 1 rfl) ?_
            refine lv_if_eq (tgt := 3106) F.1 F.2.1 dL_law_3094 (by decide) (fun c_25 => absurd c_25 (by decide)) (fun c_25 => ?_)
            refine lv_iload F.1 F.2.1 dL_law_3097 (lv_at hl 3 rfl) ?_
            refine lv_if_ne (tgt := 3106) F.1 F.2.1 dL_law_3099 (by decide) (fun c_26 => absurd rfl c_26) (fun c_26 => ?_)
            refine lv_iconst (v := 1) F.1 F.2.1 dL_law_3102 (by decide) ?_
            refine lv_goto (tgt := 3107) F.1 F.2.1 dL_law_3103 (by decide) ?_
            refine lv_iadd F.1 F.2.1 dL_law_3107 ?_
            refine lv_istore (lv' := [(38, .int ((((f_L_info (S 5 v)) >>> (3 &&& 31)) &&& 3) + 1)), (37, .int ((((f_L_info (S 5 v)) >>> (1 &&& 31)) &&& 3) + 0)), (39, .int 1), (36, .int 0), (35, .int (nI k)), (0, .ref b), (1, .ref o), (2, .ref (ad 2)), (3, .ref (ad 3)), (4, .ref (ad 4)), (5, .ref (ad 5)), (6, .ref (ad 6)), (7, .ref (ad 7)), (8, .ref (ad 8)), (9, .ref (ad 9)), (10, .ref (ad 10)), (11, .int (nI t)), (12, .int v12), (13, .int u), (14, .int (nI i)), (15, .int (nI (14 * i))), (16, .int (nI v)), (17, .int 1)]) F.1 F.2.1 dL_law_3108 hl (by decide) rfl (fun ls hl => ?_)
            refine lv_iload F.1 F.2.1 dL_law_3110 (lv_at hl 22 rfl) ?_
            refine lv_aload_n F.1 F.2.1 dL_law_3112 rfl (lv_at hl 6 rfl) ?_
            refine lv_iload F.1 F.2.1 dL_law_3113 (lv_at hl 21 rfl) ?_
            refine lv_iload F.1 F.2.1 dL_law_3115 (lv_at hl 3 rfl) ?_
            refine lw_vote (rest := [.int 1]) F w hd hM ho hR.r.ic (nI v) 0 (by decide) (fun s9 hs9 => hR.r.gn (by omega) hs9) hlf dL_law_3117 hl.1 ⟨by omega, by omega⟩ (Nat.le_of_ble_eq_true rfl) ⟨by omega, by omega⟩ (fun v3117 X AD H locs hv3117 ho hd hM w => ?_)
            have hL := hY.un hd
            refine lv_fold (y := if (((f_L_info (S 5 v)) >>> (1 &&& 31)) &&& 3) + 0 = 2 then 1 else (if (((f_L_info (S 5 v)) >>> (3 &&& 31)) &&& 3) + 1 = 2 then 2 else 0)) (hv3117.trans ((vt_ok0 hR (by omega) hv c_3 c_9 c_15).1)) ?_
            refine lv_iload F.1 F.2.1 dL_law_3120 (lv_at hl 2 rfl) ?_
            refine lv_if_ne (tgt := 3131) F.1 F.2.1 dL_law_3122 (by decide) (fun c_27 => ?_) (fun c_27 => absurd c_27 (by decide))
            refine lv_iload F.1 F.2.1 dL_law_3131 (lv_at hl 1 rfl) ?_
            refine lv_iconst (v := 2) F.1 F.2.1 dL_law_3133 (by decide) ?_
            refine lv_icmp_ne (tgt := 3141) F.1 F.2.1 dL_law_3134 (by decide) (fun c_28 => ?_) (fun c_28 => ?_)
            · refine lv_iload F.1 F.2.1 dL_law_3141 (lv_at hl 0 rfl) ?_
              refine lv_iconst (v := 2) F.1 F.2.1 dL_law_3143 (by decide) ?_
              refine lv_icmp_ne (tgt := 3151) F.1 F.2.1 dL_law_3144 (by decide) (fun c_29 => ?_) (fun c_29 => ?_)
              · refine lv_iconst (v := 0) F.1 F.2.1 dL_law_3151 (by decide) ?_
                refine lv_icmp_ne (tgt := 3159) F.1 F.2.1 dL_law_3152 (by decide) (fun c_30 => absurd ((if_neg c_28).trans (if_neg c_29)) c_30) (fun c_30 => ?_)
                refine lv_iconst (v := 1) F.1 F.2.1 dL_law_3155 (by decide) ?_
                refine lv_goto (tgt := 3160) F.1 F.2.1 dL_law_3156 (by decide) ?_
                refine lv_iand F.1 F.2.1 dL_law_3160 ?_
                refine lv_fold (y := 1) (by decide) ?_
                refine lv_istore (lv' := [(17, .int 1), (38, .int ((((f_L_info (S 5 v)) >>> (3 &&& 31)) &&& 3) + 1)), (37, .int ((((f_L_info (S 5 v)) >>> (1 &&& 31)) &&& 3) + 0)), (39, .int 1), (36, .int 0), (35, .int (nI k)), (0, .ref b), (1, .ref o), (2, .ref (ad 2)), (3, .ref (ad 3)), (4, .ref (ad 4)), (5, .ref (ad 5)), (6, .ref (ad 6)), (7, .ref (ad 7)), (8, .ref (ad 8)), (9, .ref (ad 9)), (10, .ref (ad 10)), (11, .int (nI t)), (12, .int v12), (13, .int u), (14, .int (nI i)), (15, .int (nI (14 * i))), (16, .int (nI v))]) F.1 F.2.1 dL_law_3161 hl (by decide) rfl (fun ls hl => ?_)
                refine lv_iinc (v := nI (k + 1)) (lv' := [(35, .int (nI (k + 1))), (17, .int 1), (38, .int ((((f_L_info (S 5 v)) >>> (3 &&& 31)) &&& 3) + 1)), (37, .int ((((f_L_info (S 5 v)) >>> (1 &&& 31)) &&& 3) + 0)), (39, .int 1), (36, .int 0), (0, .ref b), (1, .ref o), (2, .ref (ad 2)), (3, .ref (ad 3)), (4, .ref (ad 4)), (5, .ref (ad 5)), (6, .ref (ad 6)), (7, .ref (ad 7)), (8, .ref (ad 8)), (9, .ref (ad 9)), (10, .ref (ad 10)), (11, .int (nI t)), (12, .int v12), (13, .int u), (14, .int (nI i)), (15, .int (nI (14 * i))), (16, .int (nI v))]) F.1 F.2.1 dL_law_3163 hl (k := 5) rfl (nI_1 _) (by decide) rfl (fun ls hl => ?_)
                refine lv_goto (tgt := 2952) F.1 F.2.1 dL_law_3166 (by decide) ?_
                exact KN ((vt_ok0 hR (by omega) hv c_3 c_9 c_15).2) hv hk4 ⟨by omega, by omega⟩ (by omega) ho hd hM hY w (lv_sub hl [0, 6, 7, 8, 9, 10, 11, 12, 13, 14, 15, 16, 17, 18, 19, 20, 21, 22, 1] rfl)
              · refine lv_iconst (v := 2) F.1 F.2.1 dL_law_3147 (by decide) ?_
                refine lv_goto (tgt := 3152) F.1 F.2.1 dL_law_3148 (by decide) ?_
                refine lv_icmp_ne (tgt := 3159) F.1 F.2.1 dL_law_3152 (by decide) (fun c_31 => absurd ((if_neg c_28).trans (if_pos c_29)) c_31) (fun c_31 => ?_)
                refine lv_iconst (v := 1) F.1 F.2.1 dL_law_3155 (by decide) ?_
                refine lv_goto (tgt := 3160) F.1 F.2.1 dL_law_3156 (by decide) ?_
                refine lv_iand F.1 F.2.1 dL_law_3160 ?_
                refine lv_fold (y := 1) (by decide) ?_
                refine lv_istore (lv' := [(17, .int 1), (38, .int ((((f_L_info (S 5 v)) >>> (3 &&& 31)) &&& 3) + 1)), (37, .int ((((f_L_info (S 5 v)) >>> (1 &&& 31)) &&& 3) + 0)), (39, .int 1), (36, .int 0), (35, .int (nI k)), (0, .ref b), (1, .ref o), (2, .ref (ad 2)), (3, .ref (ad 3)), (4, .ref (ad 4)), (5, .ref (ad 5)), (6, .ref (ad 6)), (7, .ref (ad 7)), (8, .ref (ad 8)), (9, .ref (ad 9)), (10, .ref (ad 10)), (11, .int (nI t)), (12, .int v12), (13, .int u), (14, .int (nI i)), (15, .int (nI (14 * i))), (16, .int (nI v))]) F.1 F.2.1 dL_law_3161 hl (by decide) rfl (fun ls hl => ?_)
                refine lv_iinc (v := nI (k + 1)) (lv' := [(35, .int (nI (k + 1))), (17, .int 1), (38, .int ((((f_L_info (S 5 v)) >>> (3 &&& 31)) &&& 3) + 1)), (37, .int ((((f_L_info (S 5 v)) >>> (1 &&& 31)) &&& 3) + 0)), (39, .int 1), (36, .int 0), (0, .ref b), (1, .ref o), (2, .ref (ad 2)), (3, .ref (ad 3)), (4, .ref (ad 4)), (5, .ref (ad 5)), (6, .ref (ad 6)), (7, .ref (ad 7)), (8, .ref (ad 8)), (9, .ref (ad 9)), (10, .ref (ad 10)), (11, .int (nI t)), (12, .int v12), (13, .int u), (14, .int (nI i)), (15, .int (nI (14 * i))), (16, .int (nI v))]) F.1 F.2.1 dL_law_3163 hl (k := 5) rfl (nI_1 _) (by decide) rfl (fun ls hl => ?_)
                refine lv_goto (tgt := 2952) F.1 F.2.1 dL_law_3166 (by decide) ?_
                exact KN ((vt_ok0 hR (by omega) hv c_3 c_9 c_15).2) hv hk4 ⟨by omega, by omega⟩ (by omega) ho hd hM hY w (lv_sub hl [0, 6, 7, 8, 9, 10, 11, 12, 13, 14, 15, 16, 17, 18, 19, 20, 21, 22, 1] rfl)
            · refine lv_iconst (v := 1) F.1 F.2.1 dL_law_3137 (by decide) ?_
              refine lv_goto (tgt := 3152) F.1 F.2.1 dL_law_3138 (by decide) ?_
              refine lv_icmp_ne (tgt := 3159) F.1 F.2.1 dL_law_3152 (by decide) (fun c_32 => absurd (if_pos c_28) c_32) (fun c_32 => ?_)
              refine lv_iconst (v := 1) F.1 F.2.1 dL_law_3155 (by decide) ?_
              refine lv_goto (tgt := 3160) F.1 F.2.1 dL_law_3156 (by decide) ?_
              refine lv_iand F.1 F.2.1 dL_law_3160 ?_
              refine lv_fold (y := 1) (by decide) ?_
              refine lv_istore (lv' := [(17, .int 1), (38, .int ((((f_L_info (S 5 v)) >>> (3 &&& 31)) &&& 3) + 1)), (37, .int ((((f_L_info (S 5 v)) >>> (1 &&& 31)) &&& 3) + 0)), (39, .int 1), (36, .int 0), (35, .int (nI k)), (0, .ref b), (1, .ref o), (2, .ref (ad 2)), (3, .ref (ad 3)), (4, .ref (ad 4)), (5, .ref (ad 5)), (6, .ref (ad 6)), (7, .ref (ad 7)), (8, .ref (ad 8)), (9, .ref (ad 9)), (10, .ref (ad 10)), (11, .int (nI t)), (12, .int v12), (13, .int u), (14, .int (nI i)), (15, .int (nI (14 * i))), (16, .int (nI v))]) F.1 F.2.1 dL_law_3161 hl (by decide) rfl (fun ls hl => ?_)
              refine lv_iinc (v := nI (k + 1)) (lv' := [(35, .int (nI (k + 1))), (17, .int 1), (38, .int ((((f_L_info (S 5 v)) >>> (3 &&& 31)) &&& 3) + 1)), (37, .int ((((f_L_info (S 5 v)) >>> (1 &&& 31)) &&& 3) + 0)), (39, .int 1), (36, .int 0), (0, .ref b), (1, .ref o), (2, .ref (ad 2)), (3, .ref (ad 3)), (4, .ref (ad 4)), (5, .ref (ad 5)), (6, .ref (ad 6)), (7, .ref (ad 7)), (8, .ref (ad 8)), (9, .ref (ad 9)), (10, .ref (ad 10)), (11, .int (nI t)), (12, .int v12), (13, .int u), (14, .int (nI i)), (15, .int (nI (14 * i))), (16, .int (nI v))]) F.1 F.2.1 dL_law_3163 hl (k := 5) rfl (nI_1 _) (by decide) rfl (fun ls hl => ?_)
              refine lv_goto (tgt := 2952) F.1 F.2.1 dL_law_3166 (by decide) ?_
              exact KN ((vt_ok0 hR (by omega) hv c_3 c_9 c_15).2) hv hk4 ⟨by omega, by omega⟩ (by omega) ho hd hM hY w (lv_sub hl [0, 6, 7, 8, 9, 10, 11, 12, 13, 14, 15, 16, 17, 18, 19, 20, 21, 22, 1] rfl)
    · refine lv_iconst (v := 1) F.1 F.2.1 dL_law_2975 (by decide) ?_
      refine lv_goto (tgt := 2980) F.1 F.2.1 dL_law_2976 (by decide) ?_
      refine lv_istore (lv' := [(36, .int 1), (35, .int (nI k)), (0, .ref b), (1, .ref o), (2, .ref (ad 2)), (3, .ref (ad 3)), (4, .ref (ad 4)), (5, .ref (ad 5)), (6, .ref (ad 6)), (7, .ref (ad 7)), (8, .ref (ad 8)), (9, .ref (ad 9)), (10, .ref (ad 10)), (11, .int (nI t)), (12, .int v12), (13, .int u), (14, .int (nI i)), (15, .int (nI (14 * i))), (16, .int (nI v)), (17, .int 1)]) F.1 F.2.1 dL_law_2980 hl (by decide) rfl (fun ls hl => ?_)
      refine lv_aload F.1 F.2.1 dL_law_2982 (lv_at hl 7 rfl) ?_
      refine lv_iload F.1 F.2.1 dL_law_2984 (lv_at hl 18 rfl) ?_
      refine l_ild F w hL 5 rfl v (show v < 50 by omega) dL_law_2986 ?_
      refine q_rS (rest := []) F w kS_L_101 hd_L_info (c_L_info l D cy A _ (S 5 v)) dL_law_2987 rfl rfl hl.1 ⟨rfl, rfl, (show 1 ≤ R.frames by omega), (show 20 ≤ R.locals by omega)⟩ (Nat.le_of_ble_eq_true rfl) ⟨by omega, by omega⟩ ?_
      refine lv_iconst (v := 1) F.1 F.2.1 dL_law_2990 (by decide) ?_
      refine lv_ishr F.1 F.2.1 dL_law_2991 ?_
      refine lv_iconst (v := 3) F.1 F.2.1 dL_law_2992 (by decide) ?_
      refine lv_iand F.1 F.2.1 dL_law_2993 ?_
      refine lv_istore (lv' := [(37, .int (((f_L_info (S 5 v)) >>> (1 &&& 31)) &&& 3)), (36, .int 1), (35, .int (nI k)), (0, .ref b), (1, .ref o), (2, .ref (ad 2)), (3, .ref (ad 3)), (4, .ref (ad 4)), (5, .ref (ad 5)), (6, .ref (ad 6)), (7, .ref (ad 7)), (8, .ref (ad 8)), (9, .ref (ad 9)), (10, .ref (ad 10)), (11, .int (nI t)), (12, .int v12), (13, .int u), (14, .int (nI i)), (15, .int (nI (14 * i))), (16, .int (nI v)), (17, .int 1)]) F.1 F.2.1 dL_law_2994 hl (by decide) rfl (fun ls hl => ?_)
      refine lv_aload F.1 F.2.1 dL_law_2996 (lv_at hl 8 rfl) ?_
      refine lv_iload F.1 F.2.1 dL_law_2998 (lv_at hl 19 rfl) ?_
      refine l_ild F w hL 5 rfl v (show v < 50 by omega) dL_law_3000 ?_
      refine q_rS (rest := []) F w kS_L_101 hd_L_info (c_L_info l D cy A _ (S 5 v)) dL_law_3001 rfl rfl hl.1 ⟨rfl, rfl, (show 1 ≤ R.frames by omega), (show 20 ≤ R.locals by omega)⟩ (Nat.le_of_ble_eq_true rfl) ⟨by omega, by omega⟩ ?_
      refine lv_iconst (v := 3) F.1 F.2.1 dL_law_3004 (by decide) ?_
      refine lv_ishr F.1 F.2.1 dL_law_3005 ?_
      refine lv_iconst (v := 3) F.1 F.2.1 dL_law_3006 (by decide) ?_
      refine lv_iand F.1 F.2.1 dL_law_3007 ?_
      refine lv_istore (lv' := [(38, .int (((f_L_info (S 5 v)) >>> (3 &&& 31)) &&& 3)), (37, .int (((f_L_info (S 5 v)) >>> (1 &&& 31)) &&& 3)), (36, .int 1), (35, .int (nI k)), (0, .ref b), (1, .ref o), (2, .ref (ad 2)), (3, .ref (ad 3)), (4, .ref (ad 4)), (5, .ref (ad 5)), (6, .ref (ad 6)), (7, .ref (ad 7)), (8, .ref (ad 8)), (9, .ref (ad 9)), (10, .ref (ad 10)), (11, .int (nI t)), (12, .int v12), (13, .int u), (14, .int (nI i)), (15, .int (nI (14 * i))), (16, .int (nI v)), (17, .int 1)]) F.1 F.2.1 dL_law_3008 hl (by decide) rfl (fun ls hl => ?_)
      refine lv_aload F.1 F.2.1 dL_law_3010 (lv_at hl 9 rfl) ?_
      refine lv_iload F.1 F.2.1 dL_law_3012 (lv_at hl 20 rfl) ?_
      refine l_ild F w hL 5 rfl v (show v < 50 by omega) dL_law_3014 ?_
      refine q_rS (rest := []) F w kS_L_101 hd_L_info (c_L_info l D cy A _ (S 5 v)) dL_law_3015 rfl rfl hl.1 ⟨rfl, rfl, (show 1 ≤ R.frames by omega), (show 20 ≤ R.locals by omega)⟩ (Nat.le_of_ble_eq_true rfl) ⟨by omega, by omega⟩ ?_
      refine lv_iconst (v := 1) F.1 F.2.1 dL_law_3018 (by decide) ?_
      refine lv_iand F.1 F.2.1 dL_law_3019 ?_
      refine lv_iconst (v := 1) F.1 F.2.1 dL_law_3020 (by decide) ?_
      refine lv_icmp_ne (tgt := 3040) F.1 F.2.1 dL_law_3021 (by decide) (fun c_33 => ?_) (fun c_33 => ?_)
      · refine lv_iconst (v := 0) F.1 F.2.1 dL_law_3040 (by decide) ?_
        refine lv_istore (lv' := [(39, .int 0), (38, .int (((f_L_info (S 5 v)) >>> (3 &&& 31)) &&& 3)), (37, .int (((f_L_info (S 5 v)) >>> (1 &&& 31)) &&& 3)), (36, .int 1), (35, .int (nI k)), (0, .ref b), (1, .ref o), (2, .ref (ad 2)), (3, .ref (ad 3)), (4, .ref (ad 4)), (5, .ref (ad 5)), (6, .ref (ad 6)), (7, .ref (ad 7)), (8, .ref (ad 8)), (9, .ref (ad 9)), (10, .ref (ad 10)), (11, .int (nI t)), (12, .int v12), (13, .int u), (14, .int (nI i)), (15, .int (nI (14 * i))), (16, .int (nI v)), (17, .int 1)]) F.1 F.2.1 dL_law_3041 hl (by decide) rfl (fun ls hl => ?_)
        refine lv_iload F.1 F.2.1 dL_law_3043 (lv_at hl 0 rfl) ?_
        refine lv_if_eq (tgt := 3070) F.1 F.2.1 dL_law_3045 (by decide) (fun c_34 => ?_) (fun c_34 => absurd rfl c_34)
        refine lv_iload F.1 F.2.1 dL_law_3070 (lv_at hl 2 rfl) ?_
        refine lv_iload F.1 F.2.1 dL_law_3072 (lv_at hl 0 rfl) ?_
        refine lv_if_eq (tgt := 3086) F.1 F.2.1 dL_law_3074 (by decide) (fun c_35 => ?_) (fun c_35 => absurd rfl c_35)
        refine lv_iconst (v := 0) F.1 F.2.1 dL_law_3086 (by decide) ?_
        refine lv_iadd F.1 F.2.1 dL_law_3087 ?_
        refine lv_istore (lv' := [(37, .int ((((f_L_info (S 5 v)) >>> (1 &&& 31)) &&& 3) + 0)), (39, .int 0), (38, .int (((f_L_info (S 5 v)) >>> (3 &&& 31)) &&& 3)), (36, .int 1), (35, .int (nI k)), (0, .ref b), (1, .ref o), (2, .ref (ad 2)), (3, .ref (ad 3)), (4, .ref (ad 4)), (5, .ref (ad 5)), (6, .ref (ad 6)), (7, .ref (ad 7)), (8, .ref (ad 8)), (9, .ref (ad 9)), (10, .ref (ad 10)), (11, .int (nI t)), (12, .int v12), (13, .int u), (14, .int (nI i)), (15, .int (nI (14 * i))), (16, .int (nI v)), (17, .int 1)]) F.1 F.2.1 dL_law_3088 hl (by decide) rfl (fun ls hl => ?_)
        refine lv_iload F.1 F.2.1 dL_law_3090 (lv_at hl 2 rfl) ?_
        refine lv_iload F.1 F.2.1 dL_law_3092 (lv_at hl 1 rfl) ?_
        refine lv_if_eq (tgt := 3106) F.1 F.2.1 dL_law_3094 (by decide) (fun c_36 => ?_) (fun c_36 => absurd rfl c_36)
        refine lv_iconst (v := 0) F.1 F.2.1 dL_law_3106 (by decide) ?_
        refine lv_iadd F.1 F.2.1 dL_law_3107 ?_
        refine lv_istore (lv' := [(38, .int ((((f_L_info (S 5 v)) >>> (3 &&& 31)) &&& 3) + 0)), (37, .int ((((f_L_info (S 5 v)) >>> (1 &&& 31)) &&& 3) + 0)), (39, .int 0), (36, .int 1), (35, .int (nI k)), (0, .ref b), (1, .ref o), (2, .ref (ad 2)), (3, .ref (ad 3)), (4, .ref (ad 4)), (5, .ref (ad 5)), (6, .ref (ad 6)), (7, .ref (ad 7)), (8, .ref (ad 8)), (9, .ref (ad 9)), (10, .ref (ad 10)), (11, .int (nI t)), (12, .int v12), (13, .int u), (14, .int (nI i)), (15, .int (nI (14 * i))), (16, .int (nI v)), (17, .int 1)]) F.1 F.2.1 dL_law_3108 hl (by decide) rfl (fun ls hl => ?_)
        refine lv_iload F.1 F.2.1 dL_law_3110 (lv_at hl 22 rfl) ?_
        refine lv_aload_n F.1 F.2.1 dL_law_3112 rfl (lv_at hl 6 rfl) ?_
        refine lv_iload F.1 F.2.1 dL_law_3113 (lv_at hl 21 rfl) ?_
        refine lv_iload F.1 F.2.1 dL_law_3115 (lv_at hl 3 rfl) ?_
        refine lw_vote (rest := [.int 1]) F w hd hM ho hR.r.ic (nI v) 1 (by decide) (fun s9 hs9 => hR.r.gn (by omega) hs9) hlf dL_law_3117 hl.1 ⟨by omega, by omega⟩ (Nat.le_of_ble_eq_true rfl) ⟨by omega, by omega⟩ (fun v3117 X AD H locs hv3117 ho hd hM w => ?_)
        have hL := hY.un hd
        refine lv_fold (y := (-7300)) (hv3117.trans ((vt_no hR hv (x := 1) (Or.inl c_33)).1)) ?_
        refine lv_iload F.1 F.2.1 dL_law_3120 (lv_at hl 2 rfl) ?_
        refine lv_if_ne (tgt := 3131) F.1 F.2.1 dL_law_3122 (by decide) (fun c_37 => absurd rfl c_37) (fun c_37 => ?_)
        refine lv_sipush (v := -7300) F.1 F.2.1 dL_law_3125 (by decide) ?_
        refine lv_goto (tgt := 3152) F.1 F.2.1 dL_law_3128 (by decide) ?_
        refine lv_icmp_ne (tgt := 3159) F.1 F.2.1 dL_law_3152 (by decide) (fun c_38 => absurd rfl c_38) (fun c_38 => ?_)
        refine lv_iconst (v := 1) F.1 F.2.1 dL_law_3155 (by decide) ?_
        refine lv_goto (tgt := 3160) F.1 F.2.1 dL_law_3156 (by decide) ?_
        refine lv_iand F.1 F.2.1 dL_law_3160 ?_
        refine lv_fold (y := 1) (by decide) ?_
        refine lv_istore (lv' := [(17, .int 1), (38, .int ((((f_L_info (S 5 v)) >>> (3 &&& 31)) &&& 3) + 0)), (37, .int ((((f_L_info (S 5 v)) >>> (1 &&& 31)) &&& 3) + 0)), (39, .int 0), (36, .int 1), (35, .int (nI k)), (0, .ref b), (1, .ref o), (2, .ref (ad 2)), (3, .ref (ad 3)), (4, .ref (ad 4)), (5, .ref (ad 5)), (6, .ref (ad 6)), (7, .ref (ad 7)), (8, .ref (ad 8)), (9, .ref (ad 9)), (10, .ref (ad 10)), (11, .int (nI t)), (12, .int v12), (13, .int u), (14, .int (nI i)), (15, .int (nI (14 * i))), (16, .int (nI v))]) F.1 F.2.1 dL_law_3161 hl (by decide) rfl (fun ls hl => ?_)
        refine lv_iinc (v := nI (k + 1)) (lv' := [(35, .int (nI (k + 1))), (17, .int 1), (38, .int ((((f_L_info (S 5 v)) >>> (3 &&& 31)) &&& 3) + 0)), (37, .int ((((f_L_info (S 5 v)) >>> (1 &&& 31)) &&& 3) + 0)), (39, .int 0), (36, .int 1), (0, .ref b), (1, .ref o), (2, .ref (ad 2)), (3, .ref (ad 3)), (4, .ref (ad 4)), (5, .ref (ad 5)), (6, .ref (ad 6)), (7, .ref (ad 7)), (8, .ref (ad 8)), (9, .ref (ad 9)), (10, .ref (ad 10)), (11, .int (nI t)), (12, .int v12), (13, .int u), (14, .int (nI i)), (15, .int (nI (14 * i))), (16, .int (nI v))]) F.1 F.2.1 dL_law_3163 hl (k := 5) rfl (nI_1 _) (by decide) rfl (fun ls hl => ?_)
        refine lv_goto (tgt := 2952) F.1 F.2.1 dL_law_3166 (by decide) ?_
        rw [(vt_no hR hv (x := 1) (Or.inl c_33)).2] at hM
        exact KN hR hv hk4 ⟨by omega, by omega⟩ (by omega) ho hd hM hY w (lv_sub hl [0, 6, 7, 8, 9, 10, 11, 12, 13, 14, 15, 16, 17, 18, 19, 20, 21, 22, 1] rfl)
      · refine lv_iload F.1 F.2.1 dL_law_3024 (lv_at hl 1 rfl) ?_
        refine lv_iconst (v := 2) F.1 F.2.1 dL_law_3026 (by decide) ?_
        refine lv_icmp_ge (tgt := 3040) F.1 F.2.1 dL_law_3027 (by decide) (fun c_39 => ?_) (fun c_39 => ?_)
        · refine lv_iconst (v := 0) F.1 F.2.1 dL_law_3040 (by decide) ?_
          refine lv_istore (lv' := [(39, .int 0), (38, .int (((f_L_info (S 5 v)) >>> (3 &&& 31)) &&& 3)), (37, .int (((f_L_info (S 5 v)) >>> (1 &&& 31)) &&& 3)), (36, .int 1), (35, .int (nI k)), (0, .ref b), (1, .ref o), (2, .ref (ad 2)), (3, .ref (ad 3)), (4, .ref (ad 4)), (5, .ref (ad 5)), (6, .ref (ad 6)), (7, .ref (ad 7)), (8, .ref (ad 8)), (9, .ref (ad 9)), (10, .ref (ad 10)), (11, .int (nI t)), (12, .int v12), (13, .int u), (14, .int (nI i)), (15, .int (nI (14 * i))), (16, .int (nI v)), (17, .int 1)]) F.1 F.2.1 dL_law_3041 hl (by decide) rfl (fun ls hl => ?_)
          refine lv_iload F.1 F.2.1 dL_law_3043 (lv_at hl 0 rfl) ?_
          refine lv_if_eq (tgt := 3070) F.1 F.2.1 dL_law_3045 (by decide) (fun c_40 => ?_) (fun c_40 => absurd rfl c_40)
          refine lv_iload F.1 F.2.1 dL_law_3070 (lv_at hl 2 rfl) ?_
          refine lv_iload F.1 F.2.1 dL_law_3072 (lv_at hl 0 rfl) ?_
          refine lv_if_eq (tgt := 3086) F.1 F.2.1 dL_law_3074 (by decide) (fun c_41 => ?_) (fun c_41 => absurd rfl c_41)
          refine lv_iconst (v := 0) F.1 F.2.1 dL_law_3086 (by decide) ?_
          refine lv_iadd F.1 F.2.1 dL_law_3087 ?_
          refine lv_istore (lv' := [(37, .int ((((f_L_info (S 5 v)) >>> (1 &&& 31)) &&& 3) + 0)), (39, .int 0), (38, .int (((f_L_info (S 5 v)) >>> (3 &&& 31)) &&& 3)), (36, .int 1), (35, .int (nI k)), (0, .ref b), (1, .ref o), (2, .ref (ad 2)), (3, .ref (ad 3)), (4, .ref (ad 4)), (5, .ref (ad 5)), (6, .ref (ad 6)), (7, .ref (ad 7)), (8, .ref (ad 8)), (9, .ref (ad 9)), (10, .ref (ad 10)), (11, .int (nI t)), (12, .int v12), (13, .int u), (14, .int (nI i)), (15, .int (nI (14 * i))), (16, .int (nI v)), (17, .int 1)]) F.1 F.2.1 dL_law_3088 hl (by decide) rfl (fun ls hl => ?_)
          refine lv_iload F.1 F.2.1 dL_law_3090 (lv_at hl 2 rfl) ?_
          refine lv_iload F.1 F.2.1 dL_law_3092 (lv_at hl 1 rfl) ?_
          refine lv_if_eq (tgt := 3106) F.1 F.2.1 dL_law_3094 (by decide) (fun c_42 => ?_) (fun c_42 => absurd rfl c_42)
          refine lv_iconst (v := 0) F.1 F.2.1 dL_law_3106 (by decide) ?_
          refine lv_iadd F.1 F.2.1 dL_law_3107 ?_
          refine lv_istore (lv' := [(38, .int ((((f_L_info (S 5 v)) >>> (3 &&& 31)) &&& 3) + 0)), (37, .int ((((f_L_info (S 5 v)) >>> (1 &&& 31)) &&& 3) + 0)), (39, .int 0), (36, .int 1), (35, .int (nI k)), (0, .ref b), (1, .ref o), (2, .ref (ad 2)), (3, .ref (ad 3)), (4, .ref (ad 4)), (5, .ref (ad 5)), (6, .ref (ad 6)), (7, .ref (ad 7)), (8, .ref (ad 8)), (9, .ref (ad 9)), (10, .ref (ad 10)), (11, .int (nI t)), (12, .int v12), (13, .int u), (14, .int (nI i)), (15, .int (nI (14 * i))), (16, .int (nI v)), (17, .int 1)]) F.1 F.2.1 dL_law_3108 hl (by decide) rfl (fun ls hl => ?_)
          refine lv_iload F.1 F.2.1 dL_law_3110 (lv_at hl 22 rfl) ?_
          refine lv_aload_n F.1 F.2.1 dL_law_3112 rfl (lv_at hl 6 rfl) ?_
          refine lv_iload F.1 F.2.1 dL_law_3113 (lv_at hl 21 rfl) ?_
          refine lv_iload F.1 F.2.1 dL_law_3115 (lv_at hl 3 rfl) ?_
          refine lw_vote (rest := [.int 1]) F w hd hM ho hR.r.ic (nI v) 1 (by decide) (fun s9 hs9 => hR.r.gn (by omega) hs9) hlf dL_law_3117 hl.1 ⟨by omega, by omega⟩ (Nat.le_of_ble_eq_true rfl) ⟨by omega, by omega⟩ (fun v3117 X AD H locs hv3117 ho hd hM w => ?_)
          have hL := hY.un hd
          refine lv_fold (y := (-7300)) (hv3117.trans ((vt_no hR hv (x := 1) (Or.inr (Or.inl c_39))).1)) ?_
          refine lv_iload F.1 F.2.1 dL_law_3120 (lv_at hl 2 rfl) ?_
          refine lv_if_ne (tgt := 3131) F.1 F.2.1 dL_law_3122 (by decide) (fun c_43 => absurd rfl c_43) (fun c_43 => ?_)
          refine lv_sipush (v := -7300) F.1 F.2.1 dL_law_3125 (by decide) ?_
          refine lv_goto (tgt := 3152) F.1 F.2.1 dL_law_3128 (by decide) ?_
          refine lv_icmp_ne (tgt := 3159) F.1 F.2.1 dL_law_3152 (by decide) (fun c_44 => absurd rfl c_44) (fun c_44 => ?_)
          refine lv_iconst (v := 1) F.1 F.2.1 dL_law_3155 (by decide) ?_
          refine lv_goto (tgt := 3160) F.1 F.2.1 dL_law_3156 (by decide) ?_
          refine lv_iand F.1 F.2.1 dL_law_3160 ?_
          refine lv_fold (y := 1) (by decide) ?_
          refine lv_istore (lv' := [(17, .int 1), (38, .int ((((f_L_info (S 5 v)) >>> (3 &&& 31)) &&& 3) + 0)), (37, .int ((((f_L_info (S 5 v)) >>> (1 &&& 31)) &&& 3) + 0)), (39, .int 0), (36, .int 1), (35, .int (nI k)), (0, .ref b), (1, .ref o), (2, .ref (ad 2)), (3, .ref (ad 3)), (4, .ref (ad 4)), (5, .ref (ad 5)), (6, .ref (ad 6)), (7, .ref (ad 7)), (8, .ref (ad 8)), (9, .ref (ad 9)), (10, .ref (ad 10)), (11, .int (nI t)), (12, .int v12), (13, .int u), (14, .int (nI i)), (15, .int (nI (14 * i))), (16, .int (nI v))]) F.1 F.2.1 dL_law_3161 hl (by decide) rfl (fun ls hl => ?_)
          refine lv_iinc (v := nI (k + 1)) (lv' := [(35, .int (nI (k + 1))), (17, .int 1), (38, .int ((((f_L_info (S 5 v)) >>> (3 &&& 31)) &&& 3) + 0)), (37, .int ((((f_L_info (S 5 v)) >>> (1 &&& 31)) &&& 3) + 0)), (39, .int 0), (36, .int 1), (0, .ref b), (1, .ref o), (2, .ref (ad 2)), (3, .ref (ad 3)), (4, .ref (ad 4)), (5, .ref (ad 5)), (6, .ref (ad 6)), (7, .ref (ad 7)), (8, .ref (ad 8)), (9, .ref (ad 9)), (10, .ref (ad 10)), (11, .int (nI t)), (12, .int v12), (13, .int u), (14, .int (nI i)), (15, .int (nI (14 * i))), (16, .int (nI v))]) F.1 F.2.1 dL_law_3163 hl (k := 5) rfl (nI_1 _) (by decide) rfl (fun ls hl => ?_)
          refine lv_goto (tgt := 2952) F.1 F.2.1 dL_law_3166 (by decide) ?_
          rw [(vt_no hR hv (x := 1) (Or.inr (Or.inl c_39))).2] at hM
          exact KN hR hv hk4 ⟨by omega, by omega⟩ (by omega) ho hd hM hY w (lv_sub hl [0, 6, 7, 8, 9, 10, 11, 12, 13, 14, 15, 16, 17, 18, 19, 20, 21, 22, 1] rfl)
        · refine lv_iload F.1 F.2.1 dL_law_3030 (lv_at hl 0 rfl) ?_
          refine lv_iconst (v := 2) F.1 F.2.1 dL_law_3032 (by decide) ?_
          refine lv_icmp_ge (tgt := 3040) F.1 F.2.1 dL_law_3033 (by decide) (fun c_45 => ?_) (fun c_45 => ?_)
          · refine lv_iconst (v := 0) F.1 F.2.1 dL_law_3040 (by decide) ?_
            refine lv_istore (lv' := [(39, .int 0), (38, .int (((f_L_info (S 5 v)) >>> (3 &&& 31)) &&& 3)), (37, .int (((f_L_info (S 5 v)) >>> (1 &&& 31)) &&& 3)), (36, .int 1), (35, .int (nI k)), (0, .ref b), (1, .ref o), (2, .ref (ad 2)), (3, .ref (ad 3)), (4, .ref (ad 4)), (5, .ref (ad 5)), (6, .ref (ad 6)), (7, .ref (ad 7)), (8, .ref (ad 8)), (9, .ref (ad 9)), (10, .ref (ad 10)), (11, .int (nI t)), (12, .int v12), (13, .int u), (14, .int (nI i)), (15, .int (nI (14 * i))), (16, .int (nI v)), (17, .int 1)]) F.1 F.2.1 dL_law_3041 hl (by decide) rfl (fun ls hl => ?_)
            refine lv_iload F.1 F.2.1 dL_law_3043 (lv_at hl 0 rfl) ?_
            refine lv_if_eq (tgt := 3070) F.1 F.2.1 dL_law_3045 (by decide) (fun c_46 => ?_) (fun c_46 => absurd rfl c_46)
            refine lv_iload F.1 F.2.1 dL_law_3070 (lv_at hl 2 rfl) ?_
            refine lv_iload F.1 F.2.1 dL_law_3072 (lv_at hl 0 rfl) ?_
            refine lv_if_eq (tgt := 3086) F.1 F.2.1 dL_law_3074 (by decide) (fun c_47 => ?_) (fun c_47 => absurd rfl c_47)
            refine lv_iconst (v := 0) F.1 F.2.1 dL_law_3086 (by decide) ?_
            refine lv_iadd F.1 F.2.1 dL_law_3087 ?_
            refine lv_istore (lv' := [(37, .int ((((f_L_info (S 5 v)) >>> (1 &&& 31)) &&& 3) + 0)), (39, .int 0), (38, .int (((f_L_info (S 5 v)) >>> (3 &&& 31)) &&& 3)), (36, .int 1), (35, .int (nI k)), (0, .ref b), (1, .ref o), (2, .ref (ad 2)), (3, .ref (ad 3)), (4, .ref (ad 4)), (5, .ref (ad 5)), (6, .ref (ad 6)), (7, .ref (ad 7)), (8, .ref (ad 8)), (9, .ref (ad 9)), (10, .ref (ad 10)), (11, .int (nI t)), (12, .int v12), (13, .int u), (14, .int (nI i)), (15, .int (nI (14 * i))), (16, .int (nI v)), (17, .int 1)]) F.1 F.2.1 dL_law_3088 hl (by decide) rfl (fun ls hl => ?_)
            refine lv_iload F.1 F.2.1 dL_law_3090 (lv_at hl 2 rfl) ?_
            refine lv_iload F.1 F.2.1 dL_law_3092 (lv_at hl 1 rfl) ?_
            refine lv_if_eq (tgt := 3106) F.1 F.2.1 dL_law_3094 (by decide) (fun c_48 => ?_) (fun c_48 => absurd rfl c_48)
            refine lv_iconst (v := 0) F.1 F.2.1 dL_law_3106 (by decide) ?_
            refine lv_iadd F.1 F.2.1 dL_law_3107 ?_
            refine lv_istore (lv' := [(38, .int ((((f_L_info (S 5 v)) >>> (3 &&& 31)) &&& 3) + 0)), (37, .int ((((f_L_info (S 5 v)) >>> (1 &&& 31)) &&& 3) + 0)), (39, .int 0), (36, .int 1), (35, .int (nI k)), (0, .ref b), (1, .ref o), (2, .ref (ad 2)), (3, .ref (ad 3)), (4, .ref (ad 4)), (5, .ref (ad 5)), (6, .ref (ad 6)), (7, .ref (ad 7)), (8, .ref (ad 8)), (9, .ref (ad 9)), (10, .ref (ad 10)), (11, .int (nI t)), (12, .int v12), (13, .int u), (14, .int (nI i)), (15, .int (nI (14 * i))), (16, .int (nI v)), (17, .int 1)]) F.1 F.2.1 dL_law_3108 hl (by decide) rfl (fun ls hl => ?_)
            refine lv_iload F.1 F.2.1 dL_law_3110 (lv_at hl 22 rfl) ?_
            refine lv_aload_n F.1 F.2.1 dL_law_3112 rfl (lv_at hl 6 rfl) ?_
            refine lv_iload F.1 F.2.1 dL_law_3113 (lv_at hl 21 rfl) ?_
            refine lv_iload F.1 F.2.1 dL_law_3115 (lv_at hl 3 rfl) ?_
            refine lw_vote (rest := [.int 1]) F w hd hM ho hR.r.ic (nI v) 1 (by decide) (fun s9 hs9 => hR.r.gn (by omega) hs9) hlf dL_law_3117 hl.1 ⟨by omega, by omega⟩ (Nat.le_of_ble_eq_true rfl) ⟨by omega, by omega⟩ (fun v3117 X AD H locs hv3117 ho hd hM w => ?_)
            have hL := hY.un hd
            refine lv_fold (y := (-7300)) (hv3117.trans ((vt_no hR hv (x := 1) (Or.inr (Or.inr c_45))).1)) ?_
            refine lv_iload F.1 F.2.1 dL_law_3120 (lv_at hl 2 rfl) ?_
            refine lv_if_ne (tgt := 3131) F.1 F.2.1 dL_law_3122 (by decide) (fun c_49 => absurd rfl c_49) (fun c_49 => ?_)
            refine lv_sipush (v := -7300) F.1 F.2.1 dL_law_3125 (by decide) ?_
            refine lv_goto (tgt := 3152) F.1 F.2.1 dL_law_3128 (by decide) ?_
            refine lv_icmp_ne (tgt := 3159) F.1 F.2.1 dL_law_3152 (by decide) (fun c_50 => absurd rfl c_50) (fun c_50 => ?_)
            refine lv_iconst (v := 1) F.1 F.2.1 dL_law_3155 (by decide) ?_
            refine lv_goto (tgt := 3160) F.1 F.2.1 dL_law_3156 (by decide) ?_
            refine lv_iand F.1 F.2.1 dL_law_3160 ?_
            refine lv_fold (y := 1) (by decide) ?_
            refine lv_istore (lv' := [(17, .int 1), (38, .int ((((f_L_info (S 5 v)) >>> (3 &&& 31)) &&& 3) + 0)), (37, .int ((((f_L_info (S 5 v)) >>> (1 &&& 31)) &&& 3) + 0)), (39, .int 0), (36, .int 1), (35, .int (nI k)), (0, .ref b), (1, .ref o), (2, .ref (ad 2)), (3, .ref (ad 3)), (4, .ref (ad 4)), (5, .ref (ad 5)), (6, .ref (ad 6)), (7, .ref (ad 7)), (8, .ref (ad 8)), (9, .ref (ad 9)), (10, .ref (ad 10)), (11, .int (nI t)), (12, .int v12), (13, .int u), (14, .int (nI i)), (15, .int (nI (14 * i))), (16, .int (nI v))]) F.1 F.2.1 dL_law_3161 hl (by decide) rfl (fun ls hl => ?_)
            refine lv_iinc (v := nI (k + 1)) (lv' := [(35, .int (nI (k + 1))), (17, .int 1), (38, .int ((((f_L_info (S 5 v)) >>> (3 &&& 31)) &&& 3) + 0)), (37, .int ((((f_L_info (S 5 v)) >>> (1 &&& 31)) &&& 3) + 0)), (39, .int 0), (36, .int 1), (0, .ref b), (1, .ref o), (2, .ref (ad 2)), (3, .ref (ad 3)), (4, .ref (ad 4)), (5, .ref (ad 5)), (6, .ref (ad 6)), (7, .ref (ad 7)), (8, .ref (ad 8)), (9, .ref (ad 9)), (10, .ref (ad 10)), (11, .int (nI t)), (12, .int v12), (13, .int u), (14, .int (nI i)), (15, .int (nI (14 * i))), (16, .int (nI v))]) F.1 F.2.1 dL_law_3163 hl (k := 5) rfl (nI_1 _) (by decide) rfl (fun ls hl => ?_)
            refine lv_goto (tgt := 2952) F.1 F.2.1 dL_law_3166 (by decide) ?_
            rw [(vt_no hR hv (x := 1) (Or.inr (Or.inr c_45))).2] at hM
            exact KN hR hv hk4 ⟨by omega, by omega⟩ (by omega) ho hd hM hY w (lv_sub hl [0, 6, 7, 8, 9, 10, 11, 12, 13, 14, 15, 16, 17, 18, 19, 20, 21, 22, 1] rfl)
          · refine lv_iconst (v := 1) F.1 F.2.1 dL_law_3036 (by decide) ?_
            refine lv_goto (tgt := 3041) F.1 F.2.1 dL_law_3037 (by decide) ?_
            refine lv_istore (lv' := [(39, .int 1), (38, .int (((f_L_info (S 5 v)) >>> (3 &&& 31)) &&& 3)), (37, .int (((f_L_info (S 5 v)) >>> (1 &&& 31)) &&& 3)), (36, .int 1), (35, .int (nI k)), (0, .ref b), (1, .ref o), (2, .ref (ad 2)), (3, .ref (ad 3)), (4, .ref (ad 4)), (5, .ref (ad 5)), (6, .ref (ad 6)), (7, .ref (ad 7)), (8, .ref (ad 8)), (9, .ref (ad 9)), (10, .ref (ad 10)), (11, .int (nI t)), (12, .int v12), (13, .int u), (14, .int (nI i)), (15, .int (nI (14 * i))), (16, .int (nI v)), (17, .int 1)]) F.1 F.2.1 dL_law_3041 hl (by decide) rfl (fun ls hl => ?_)
            refine lv_iload F.1 F.2.1 dL_law_3043 (lv_at hl 0 rfl) ?_
            refine lv_if_eq (tgt := 3070) F.1 F.2.1 dL_law_3045 (by decide) (fun c_51 => absurd c_51 (by decide)) (fun c_51 => ?_)
            refine lv_aload F.1 F.2.1 dL_law_3048 (lv_at hl 10 rfl) ?_
            refine lv_iload F.1 F.2.1 dL_law_3050 (lv_at hl 21 rfl) ?_
            refine lv_dup2_11 F.1 F.2.1 dL_law_3052 rfl rfl ?_
            refine l_ild F w hL 5 rfl v (show v < 50 by omega) dL_law_3053 ?_
            refine lv_iload F.1 F.2.1 dL_law_3054 (lv_at hl 3 rfl) ?_
            refine lv_if_eq (tgt := 3063) F.1 F.2.1 dL_law_3056 (by decide) (fun c_52 => absurd c_52 (by decide)) (fun c_52 => ?_)
            refine lv_iconst (v := 2) F.1 F.2.1 dL_law_3059 (by decide) ?_
            refine lv_goto (tgt := 3065) F.1 F.2.1 dL_law_3060 (by decide) ?_
            refine lv_bipush (v := 13) F.1 F.2.1 dL_law_3065 (by decide) ?_
            refine lv_ishl F.1 F.2.1 dL_law_3067 ?_
            refine lv_iadd F.1 F.2.1 dL_law_3068 ?_
            refine l_ist F w hd hY 5 rfl v (show v < 50 by omega) dL_law_3069 (fun H locs Y hd hY w => ?_)
            have hL := hY.un hd
            refine lv_iload F.1 F.2.1 dL_law_3070 (lv_at hl 2 rfl) ?_
            refine lv_iload F.1 F.2.1 dL_law_3072 (lv_at hl 0 rfl) ?_
            refine lv_if_eq (tgt := 3086) F.1 F.2.1 dL_law_3074 (by decide) (fun c_53 => absurd c_53 (by decide)) (fun c_53 => ?_)
            refine lv_iload F.1 F.2.1 dL_law_3077 (lv_at hl 3 rfl) ?_
            refine lv_if_eq (tgt := 3086) F.1 F.2.1 dL_law_3079 (by decide) (fun c_54 => absurd c_54 (by decide)) (fun c_54 => ?_)
            refine lv_iconst (v := 1) F.1 F.2.1 dL_law_3082 (by decide) ?_
            refine lv_goto (tgt := 3087) F.1 F.2.1 dL_law_3083 (by decide) ?_
            refine lv_iadd F.1 F.2.1 dL_law_3087 ?_
            refine lv_istore (lv' := [(37, .int ((((f_L_info (S 5 v)) >>> (1 &&& 31)) &&& 3) + 1)), (39, .int 1), (38, .int (((f_L_info (S 5 v)) >>> (3 &&& 31)) &&& 3)), (36, .int 1), (35, .int (nI k)), (0, .ref b), (1, .ref o), (2, .ref (ad 2)), (3, .ref (ad 3)), (4, .ref (ad 4)), (5, .ref (ad 5)), (6, .ref (ad 6)), (7, .ref (ad 7)), (8, .ref (ad 8)), (9, .ref (ad 9)), (10, .ref (ad 10)), (11, .int (nI t)), (12, .int v12), (13, .int u), (14, .int (nI i)), (15, .int (nI (14 * i))), (16, .int (nI v)), (17, .int 1)]) F.1 F.2.1 dL_law_3088 hl (by decide) rfl (fun ls hl => ?_)
            refine lv_iload F.1 F.2.1 dL_law_3090 (lv_at hl 2 rfl) ?_
            refine lv_iload F.1 F.2.1 dL_law_3092 (lv_at hl 1 rfl) ?_
            refine lv_if_eq (tgt := 3106) F.1 F.2.1 dL_law_3094 (by decide) (fun c_55 => absurd c_55 (by decide)) (fun c_55 => ?_)
            refine lv_iload F.1 F.2.1 dL_law_3097 (lv_at hl 3 rfl) ?_
            refine lv_if_ne (tgt := 3106) F.1 F.2.1 dL_law_3099 (by decide) (fun c_56 => ?_) (fun c_56 => absurd c_56 (by decide))
            refine lv_iconst (v := 0) F.1 F.2.1 dL_law_3106 (by decide) ?_
            refine lv_iadd F.1 F.2.1 dL_law_3107 ?_
            refine lv_istore (lv' := [(38, .int ((((f_L_info (S 5 v)) >>> (3 &&& 31)) &&& 3) + 0)), (37, .int ((((f_L_info (S 5 v)) >>> (1 &&& 31)) &&& 3) + 1)), (39, .int 1), (36, .int 1), (35, .int (nI k)), (0, .ref b), (1, .ref o), (2, .ref (ad 2)), (3, .ref (ad 3)), (4, .ref (ad 4)), (5, .ref (ad 5)), (6, .ref (ad 6)), (7, .ref (ad 7)), (8, .ref (ad 8)), (9, .ref (ad 9)), (10, .ref (ad 10)), (11, .int (nI t)), (12, .int v12), (13, .int u), (14, .int (nI i)), (15, .int (nI (14 * i))), (16, .int (nI v)), (17, .int 1)]) F.1 F.2.1 dL_law_3108 hl (by decide) rfl (fun ls hl => ?_)
            refine lv_iload F.1 F.2.1 dL_law_3110 (lv_at hl 22 rfl) ?_
            refine lv_aload_n F.1 F.2.1 dL_law_3112 rfl (lv_at hl 6 rfl) ?_
            refine lv_iload F.1 F.2.1 dL_law_3113 (lv_at hl 21 rfl) ?_
            refine lv_iload F.1 F.2.1 dL_law_3115 (lv_at hl 3 rfl) ?_
            refine lw_vote (rest := [.int 1]) F w hd hM ho hR.r.ic (nI v) 1 (by decide) (fun s9 hs9 => hR.r.gn (by omega) hs9) hlf dL_law_3117 hl.1 ⟨by omega, by omega⟩ (Nat.le_of_ble_eq_true rfl) ⟨by omega, by omega⟩ (fun v3117 X AD H locs hv3117 ho hd hM w => ?_)
            have hL := hY.un hd
            refine lv_fold (y := if (((f_L_info (S 5 v)) >>> (1 &&& 31)) &&& 3) + 1 = 2 then 1 else (if (((f_L_info (S 5 v)) >>> (3 &&& 31)) &&& 3) + 0 = 2 then 2 else 0)) (hv3117.trans ((vt_ok1 hR (by omega) hv c_33 c_39 c_45).1)) ?_
            refine lv_iload F.1 F.2.1 dL_law_3120 (lv_at hl 2 rfl) ?_
            refine lv_if_ne (tgt := 3131) F.1 F.2.1 dL_law_3122 (by decide) (fun c_57 => ?_) (fun c_57 => absurd c_57 (by decide))
            refine lv_iload F.1 F.2.1 dL_law_3131 (lv_at hl 1 rfl) ?_
            refine lv_iconst (v := 2) F.1 F.2.1 dL_law_3133 (by decide) ?_
            refine lv_icmp_ne (tgt := 3141) F.1 F.2.1 dL_law_3134 (by decide) (fun c_58 => ?_) (fun c_58 => ?_)
            · refine lv_iload F.1 F.2.1 dL_law_3141 (lv_at hl 0 rfl) ?_
              refine lv_iconst (v := 2) F.1 F.2.1 dL_law_3143 (by decide) ?_
              refine lv_icmp_ne (tgt := 3151) F.1 F.2.1 dL_law_3144 (by decide) (fun c_59 => ?_) (fun c_59 => ?_)
              · refine lv_iconst (v := 0) F.1 F.2.1 dL_law_3151 (by decide) ?_
                refine lv_icmp_ne (tgt := 3159) F.1 F.2.1 dL_law_3152 (by decide) (fun c_60 => absurd ((if_neg c_58).trans (if_neg c_59)) c_60) (fun c_60 => ?_)
                refine lv_iconst (v := 1) F.1 F.2.1 dL_law_3155 (by decide) ?_
                refine lv_goto (tgt := 3160) F.1 F.2.1 dL_law_3156 (by decide) ?_
                refine lv_iand F.1 F.2.1 dL_law_3160 ?_
                refine lv_fold (y := 1) (by decide) ?_
                refine lv_istore (lv' := [(17, .int 1), (38, .int ((((f_L_info (S 5 v)) >>> (3 &&& 31)) &&& 3) + 0)), (37, .int ((((f_L_info (S 5 v)) >>> (1 &&& 31)) &&& 3) + 1)), (39, .int 1), (36, .int 1), (35, .int (nI k)), (0, .ref b), (1, .ref o), (2, .ref (ad 2)), (3, .ref (ad 3)), (4, .ref (ad 4)), (5, .ref (ad 5)), (6, .ref (ad 6)), (7, .ref (ad 7)), (8, .ref (ad 8)), (9, .ref (ad 9)), (10, .ref (ad 10)), (11, .int (nI t)), (12, .int v12), (13, .int u), (14, .int (nI i)), (15, .int (nI (14 * i))), (16, .int (nI v))]) F.1 F.2.1 dL_law_3161 hl (by decide) rfl (fun ls hl => ?_)
                refine lv_iinc (v := nI (k + 1)) (lv' := [(35, .int (nI (k + 1))), (17, .int 1), (38, .int ((((f_L_info (S 5 v)) >>> (3 &&& 31)) &&& 3) + 0)), (37, .int ((((f_L_info (S 5 v)) >>> (1 &&& 31)) &&& 3) + 1)), (39, .int 1), (36, .int 1), (0, .ref b), (1, .ref o), (2, .ref (ad 2)), (3, .ref (ad 3)), (4, .ref (ad 4)), (5, .ref (ad 5)), (6, .ref (ad 6)), (7, .ref (ad 7)), (8, .ref (ad 8)), (9, .ref (ad 9)), (10, .ref (ad 10)), (11, .int (nI t)), (12, .int v12), (13, .int u), (14, .int (nI i)), (15, .int (nI (14 * i))), (16, .int (nI v))]) F.1 F.2.1 dL_law_3163 hl (k := 5) rfl (nI_1 _) (by decide) rfl (fun ls hl => ?_)
                refine lv_goto (tgt := 2952) F.1 F.2.1 dL_law_3166 (by decide) ?_
                exact KN ((vt_ok1 hR (by omega) hv c_33 c_39 c_45).2) hv hk4 ⟨by omega, by omega⟩ (by omega) ho hd hM hY w (lv_sub hl [0, 6, 7, 8, 9, 10, 11, 12, 13, 14, 15, 16, 17, 18, 19, 20, 21, 22, 1] rfl)
              · refine lv_iconst (v := 2) F.1 F.2.1 dL_law_3147 (by decide) ?_
                refine lv_goto (tgt := 3152) F.1 F.2.1 dL_law_3148 (by decide) ?_
                refine lv_icmp_ne (tgt := 3159) F.1 F.2.1 dL_law_3152 (by decide) (fun c_61 => absurd ((if_neg c_58).trans (if_pos c_59)) c_61) (fun c_61 => ?_)
                refine lv_iconst (v := 1) F.1 F.2.1 dL_law_3155 (by decide) ?_
                refine lv_goto (tgt := 3160) F.1 F.2.1 dL_law_3156 (by decide) ?_
                refine lv_iand F.1 F.2.1 dL_law_3160 ?_
                refine lv_fold (y := 1) (by decide) ?_
                refine lv_istore (lv' := [(17, .int 1), (38, .int ((((f_L_info (S 5 v)) >>> (3 &&& 31)) &&& 3) + 0)), (37, .int ((((f_L_info (S 5 v)) >>> (1 &&& 31)) &&& 3) + 1)), (39, .int 1), (36, .int 1), (35, .int (nI k)), (0, .ref b), (1, .ref o), (2, .ref (ad 2)), (3, .ref (ad 3)), (4, .ref (ad 4)), (5, .ref (ad 5)), (6, .ref (ad 6)), (7, .ref (ad 7)), (8, .ref (ad 8)), (9, .ref (ad 9)), (10, .ref (ad 10)), (11, .int (nI t)), (12, .int v12), (13, .int u), (14, .int (nI i)), (15, .int (nI (14 * i))), (16, .int (nI v))]) F.1 F.2.1 dL_law_3161 hl (by decide) rfl (fun ls hl => ?_)
                refine lv_iinc (v := nI (k + 1)) (lv' := [(35, .int (nI (k + 1))), (17, .int 1), (38, .int ((((f_L_info (S 5 v)) >>> (3 &&& 31)) &&& 3) + 0)), (37, .int ((((f_L_info (S 5 v)) >>> (1 &&& 31)) &&& 3) + 1)), (39, .int 1), (36, .int 1), (0, .ref b), (1, .ref o), (2, .ref (ad 2)), (3, .ref (ad 3)), (4, .ref (ad 4)), (5, .ref (ad 5)), (6, .ref (ad 6)), (7, .ref (ad 7)), (8, .ref (ad 8)), (9, .ref (ad 9)), (10, .ref (ad 10)), (11, .int (nI t)), (12, .int v12), (13, .int u), (14, .int (nI i)), (15, .int (nI (14 * i))), (16, .int (nI v))]) F.1 F.2.1 dL_law_3163 hl (k := 5) rfl (nI_1 _) (by decide) rfl (fun ls hl => ?_)
                refine lv_goto (tgt := 2952) F.1 F.2.1 dL_law_3166 (by decide) ?_
                exact KN ((vt_ok1 hR (by omega) hv c_33 c_39 c_45).2) hv hk4 ⟨by omega, by omega⟩ (by omega) ho hd hM hY w (lv_sub hl [0, 6, 7, 8, 9, 10, 11, 12, 13, 14, 15, 16, 17, 18, 19, 20, 21, 22, 1] rfl)
            · refine lv_iconst (v := 1) F.1 F.2.1 dL_law_3137 (by decide) ?_
              refine lv_goto (tgt := 3152) F.1 F.2.1 dL_law_3138 (by decide) ?_
              refine lv_icmp_ne (tgt := 3159) F.1 F.2.1 dL_law_3152 (by decide) (fun c_62 => absurd (if_pos c_58) c_62) (fun c_62 => ?_)
              refine lv_iconst (v := 1) F.1 F.2.1 dL_law_3155 (by decide) ?_
              refine lv_goto (tgt := 3160) F.1 F.2.1 dL_law_3156 (by decide) ?_
              refine lv_iand F.1 F.2.1 dL_law_3160 ?_
              refine lv_fold (y := 1) (by decide) ?_
              refine lv_istore (lv' := [(17, .int 1), (38, .int ((((f_L_info (S 5 v)) >>> (3 &&& 31)) &&& 3) + 0)), (37, .int ((((f_L_info (S 5 v)) >>> (1 &&& 31)) &&& 3) + 1)), (39, .int 1), (36, .int 1), (35, .int (nI k)), (0, .ref b), (1, .ref o), (2, .ref (ad 2)), (3, .ref (ad 3)), (4, .ref (ad 4)), (5, .ref (ad 5)), (6, .ref (ad 6)), (7, .ref (ad 7)), (8, .ref (ad 8)), (9, .ref (ad 9)), (10, .ref (ad 10)), (11, .int (nI t)), (12, .int v12), (13, .int u), (14, .int (nI i)), (15, .int (nI (14 * i))), (16, .int (nI v))]) F.1 F.2.1 dL_law_3161 hl (by decide) rfl (fun ls hl => ?_)
              refine lv_iinc (v := nI (k + 1)) (lv' := [(35, .int (nI (k + 1))), (17, .int 1), (38, .int ((((f_L_info (S 5 v)) >>> (3 &&& 31)) &&& 3) + 0)), (37, .int ((((f_L_info (S 5 v)) >>> (1 &&& 31)) &&& 3) + 1)), (39, .int 1), (36, .int 1), (0, .ref b), (1, .ref o), (2, .ref (ad 2)), (3, .ref (ad 3)), (4, .ref (ad 4)), (5, .ref (ad 5)), (6, .ref (ad 6)), (7, .ref (ad 7)), (8, .ref (ad 8)), (9, .ref (ad 9)), (10, .ref (ad 10)), (11, .int (nI t)), (12, .int v12), (13, .int u), (14, .int (nI i)), (15, .int (nI (14 * i))), (16, .int (nI v))]) F.1 F.2.1 dL_law_3163 hl (k := 5) rfl (nI_1 _) (by decide) rfl (fun ls hl => ?_)
              refine lv_goto (tgt := 2952) F.1 F.2.1 dL_law_3166 (by decide) ?_
              exact KN ((vt_ok1 hR (by omega) hv c_33 c_39 c_45).2) hv hk4 ⟨by omega, by omega⟩ (by omega) ho hd hM hY w (lv_sub hl [0, 6, 7, 8, 9, 10, 11, 12, 13, 14, 15, 16, 17, 18, 19, 20, 21, 22, 1] rfl)
set_option maxHeartbeats 4000000 in
theorem lc_votes_l {p : Program} {l : Launch} {e : Env} {R : Room} {s : State} {m : MethodId} {args : Array Value} {below : List Frame} {meth : Method} {c : Code} {Q : State → Prop} {D : va_G} {cy : Nat → ClassId} {A : Nat → Prop} {o b t i v : Nat} {ad : Nat → Nat} {u v12 : Int32} {n n1 c1 s1 : Nat} {G M S : GS} {Wf : Nat → Int64} (F : CallFix p m c cL_law 40 s args BIG RL) (hlf : l.stackTraces = false) (hRm : 11 ≤ R.frames ∧ 278 ≤ R.locals ∧ c1 ≤ R.cells ∧ s1 ≤ R.slots) (h511 : n1 ≤ 511) (K : KJ p l e R s m args below meth c Q D cy A o b t ad u n1 c1 s1) (hR : R26 n G M S Wf) {k : Nat} (hk : k ≤ 3) (hv : v < gnV M) {X Y : MU} {AD : AM} {H : Heap} {locs : List Loc} {cells slots : Nat} (hf : cells + 2 * (3 - k) ≤ c1 ∧ slots + 1004 * (3 - k) ≤ s1) (hn : n + (3 - k) ≤ n1) (ho : AD 0 0 0 = o) (hd : dis X Y) (hM : RepC cy AD G X) (hY : RepL cy ad S Wf Y) (w : WW D cy A (un X Y) s H locs) {ls : Array Slot} (hl : lv_has ls 40 [(35, .int (nI k)), (0, .ref b), (1, .ref o), (2, .ref (ad 2)), (3, .ref (ad 3)), (4, .ref (ad 4)), (5, .ref (ad 5)), (6, .ref (ad 6)), (7, .ref (ad 7)), (8, .ref (ad 8)), (9, .ref (ad 9)), (10, .ref (ad 10)), (11, .int (nI t)), (12, .int v12), (13, .int u), (14, .int (nI i)), (15, .int (nI (14 * i))), (16, .int (nI v)), (17, .int 1)]) : W p l e R s m args below meth c H locs cells slots Q (F0 m 2952 ls []) := by
  have h : ∀ (d k : Nat), k + d = 3 → ∀ {n : Nat} {G M S : GS} {Wf : Nat → Int64} {X Y : MU} {AD : AM} {H : Heap} {locs : List Loc} {cells slots : Nat} {ls : Array Slot}, R26 n G M S Wf → v < gnV M → (cells + 2 * (3 - k) ≤ c1 ∧ slots + 1004 * (3 - k) ≤ s1) → n + (3 - k) ≤ n1 → AD 0 0 0 = o → dis X Y → RepC cy AD G X → RepL cy ad S Wf Y → WW D cy A (un X Y) s H locs → lv_has ls 40 [(35, .int (nI k)), (0, .ref b), (1, .ref o), (2, .ref (ad 2)), (3, .ref (ad 3)), (4, .ref (ad 4)), (5, .ref (ad 5)), (6, .ref (ad 6)), (7, .ref (ad 7)), (8, .ref (ad 8)), (9, .ref (ad 9)), (10, .ref (ad 10)), (11, .int (nI t)), (12, .int v12), (13, .int u), (14, .int (nI i)), (15, .int (nI (14 * i))), (16, .int (nI v)), (17, .int 1)] → W p l e R s m args below meth c H locs cells slots Q (F0 m 2952 ls []) := by
    intro d
    induction d with
    | zero =>
      intro k hk n G M S Wf X Y AD H locs cells slots ls hR hv hf hn ho hd hM hY w hl
      exact lc_votes_r F hlf hRm h511 K hR (by omega) hv (fun _ _ q => absurd q (by omega)) hf hn ho hd hM hY w hl
    | succ d ih =>
      intro k hk n G M S Wf X Y AD H locs cells slots ls hR hv hf hn ho hd hM hY w hl
      exact lc_votes_r F hlf hRm h511 K hR (by omega) hv (fun hR hv _ hf hn ho hd hM hY w hl => ih (k + 1) (by omega) hR hv hf hn ho hd hM hY w hl) hf hn ho hd hM hY w hl
  exact h (3 - k) k (by omega) hR hv hf hn ho hd hM hY w hl
set_option maxHeartbeats 4000000 in
set_option maxRecDepth 100000 in
theorem lc_appeal {p : Program} {l : Launch} {e : Env} {R : Room} {s : State} {m : MethodId} {args : Array Value} {below : List Frame} {meth : Method} {c : Code} {Q : State → Prop} {D : va_G} {cy : Nat → ClassId} {A : Nat → Prop} {o b t i v : Nat} {ad : Nat → Nat} {u v12 : Int32} {n n1 c1 s1 : Nat} {G M S : GS} {Wf : Nat → Int64} (F : CallFix p m c cL_law 40 s args BIG RL) (hlf : l.stackTraces = false) (hRm : 11 ≤ R.frames ∧ 278 ≤ R.locals ∧ c1 ≤ R.cells ∧ s1 ≤ R.slots) (h511 : n1 ≤ 511) (K : KJ p l e R s m args below meth c Q D cy A o b t ad u n1 c1 s1) (hR : R26 n G M S Wf) (hi4 : i < 4) (hi0 : gnS M = 0 ∨ i < gnS M) (hv50 : v < 50) (hv0 : gnV M = 0 ∨ v < gnV M) {X Y : MU} {AD : AM} {H : Heap} {locs : List Loc} {cells slots : Nat} (hf : cells + 30 ≤ c1 ∧ slots + 9500 ≤ s1) (hn : n + 4 ≤ n1) (ho : AD 0 0 0 = o) (hd : dis X Y) (hM : RepC cy AD G X) (hY : RepL cy ad S Wf Y) (w : WW D cy A (un X Y) s H locs) {ls : Array Slot} (hl : lv_has ls 40 [(0, .ref b), (1, .ref o), (2, .ref (ad 2)), (3, .ref (ad 3)), (4, .ref (ad 4)), (5, .ref (ad 5)), (6, .ref (ad 6)), (7, .ref (ad 7)), (8, .ref (ad 8)), (9, .ref (ad 9)), (10, .ref (ad 10)), (11, .int (nI t)), (12, .int v12), (13, .int u), (14, .int (nI i)), (15, .int (nI (14 * i))), (16, .int (nI v)), (17, .int 1)]) : W p l e R s m args below meth c H locs cells slots Q (F0 m 2847 ls []) := by
  have hL := hY.un hd
  obtain ⟨t9, ht9, ht⟩ := hR.td
  have hb4 := hR.b
  have heV := hR.eV
  refine lv_aload F.1 F.2.1 dL_law_2847 (lv_at hl 10 rfl) ?_
  refine lv_iconst (v := 2) F.1 F.2.1 dL_law_2849 (by decide) ?_
  refine l_ild F w hL 10 rfl 2 (show 2 < 9 by omega) dL_law_2850 ?_
  refine lv_if_ne (tgt := 2857) F.1 F.2.1 dL_law_2851 (by decide) (fun c_1 => ?_) (fun c_1 => ?_)
  · have hv := vi_ok hR hv0 c_1
    refine lv_aload F.1 F.2.1 dL_law_2857 (lv_at hl 7 rfl) ?_
    refine lv_iload F.1 F.2.1 dL_law_2859 (lv_at hl 16 rfl) ?_
    refine l_ild F w hL 7 rfl v (show v < 50 by omega) dL_law_2861 ?_
    refine lv_iconst (v := -1) F.1 F.2.1 dL_law_2862 (by decide) ?_
    refine lv_icmp_eq (tgt := 2898) F.1 F.2.1 dL_law_2863 (by decide) (fun c_2 => ?_) (fun c_2 => ?_)
    · refine lv_iconst (v := 0) F.1 F.2.1 dL_law_2898 (by decide) ?_
      refine lv_istore (lv' := [(34, .int 0), (0, .ref b), (1, .ref o), (2, .ref (ad 2)), (3, .ref (ad 3)), (4, .ref (ad 4)), (5, .ref (ad 5)), (6, .ref (ad 6)), (7, .ref (ad 7)), (8, .ref (ad 8)), (9, .ref (ad 9)), (10, .ref (ad 10)), (11, .int (nI t)), (12, .int v12), (13, .int u), (14, .int (nI i)), (15, .int (nI (14 * i))), (16, .int (nI v)), (17, .int 1)]) F.1 F.2.1 dL_law_2899 hl (by decide) rfl (fun ls hl => ?_)
      refine lv_aload_n F.1 F.2.1 dL_law_2901 rfl (lv_at hl 2 rfl) ?_
      refine lv_iload F.1 F.2.1 dL_law_2902 (lv_at hl 17 rfl) ?_
      refine lw_appeal (rest := []) F w hd hM ho hR.r.ic (nI v) hlf dL_law_2904 hl.1 ⟨by omega, by omega⟩ (Nat.le_of_ble_eq_true rfl) ⟨by omega, by omega⟩ (fun v2904 X AD H locs hv2904 ho hd hM w => ?_)
      have hL := hY.un hd
      refine lv_fold (y := (-7300)) (hv2904.trans ((ap_no hR hv (Or.inl c_2)).1)) ?_
      refine lv_iload F.1 F.2.1 dL_law_2907 (lv_at hl 0 rfl) ?_
      refine lv_if_eq (tgt := 2916) F.1 F.2.1 dL_law_2909 (by decide) (fun c_3 => ?_) (fun c_3 => absurd rfl c_3)
      refine lv_sipush (v := -7300) F.1 F.2.1 dL_law_2916 (by decide) ?_
      refine lv_icmp_ne (tgt := 2926) F.1 F.2.1 dL_law_2919 (by decide) (fun c_4 => absurd rfl c_4) (fun c_4 => ?_)
      refine lv_iconst (v := 1) F.1 F.2.1 dL_law_2922 (by decide) ?_
      refine lv_goto (tgt := 2927) F.1 F.2.1 dL_law_2923 (by decide) ?_
      refine lv_istore (lv' := [(17, .int 1), (34, .int 0), (0, .ref b), (1, .ref o), (2, .ref (ad 2)), (3, .ref (ad 3)), (4, .ref (ad 4)), (5, .ref (ad 5)), (6, .ref (ad 6)), (7, .ref (ad 7)), (8, .ref (ad 8)), (9, .ref (ad 9)), (10, .ref (ad 10)), (11, .int (nI t)), (12, .int v12), (13, .int u), (14, .int (nI i)), (15, .int (nI (14 * i))), (16, .int (nI v))]) F.1 F.2.1 dL_law_2927 hl (by decide) rfl (fun ls hl => ?_)
      refine lv_aload F.1 F.2.1 dL_law_2929 (lv_at hl 7 rfl) ?_
      refine lv_iload F.1 F.2.1 dL_law_2931 (lv_at hl 18 rfl) ?_
      refine lv_dup2_11 F.1 F.2.1 dL_law_2933 rfl rfl ?_
      refine l_ild F w hL 5 rfl v (show v < 50 by omega) dL_law_2934 ?_
      refine lv_iload F.1 F.2.1 dL_law_2935 (lv_at hl 1 rfl) ?_
      refine lv_if_eq (tgt := 2946) F.1 F.2.1 dL_law_2937 (by decide) (fun c_5 => ?_) (fun c_5 => absurd rfl c_5)
      refine lv_iconst (v := 0) F.1 F.2.1 dL_law_2946 (by decide) ?_
      refine lv_ior F.1 F.2.1 dL_law_2947 ?_
      refine l_ist F w hd hY 5 rfl v (show v < 50 by omega) dL_law_2948 (fun H locs Y hd hY w => ?_)
      have hL := hY.un hd
      refine lv_iconst (v := 0) F.1 F.2.1 dL_law_2949 (by decide) ?_
      refine lv_istore (lv' := [(35, .int 0), (17, .int 1), (34, .int 0), (0, .ref b), (1, .ref o), (2, .ref (ad 2)), (3, .ref (ad 3)), (4, .ref (ad 4)), (5, .ref (ad 5)), (6, .ref (ad 6)), (7, .ref (ad 7)), (8, .ref (ad 8)), (9, .ref (ad 9)), (10, .ref (ad 10)), (11, .int (nI t)), (12, .int v12), (13, .int u), (14, .int (nI i)), (15, .int (nI (14 * i))), (16, .int (nI v))]) F.1 F.2.1 dL_law_2950 hl (by decide) rfl (fun ls hl => ?_)
      rw [(ap_no hR hv (Or.inl c_2)).2] at hM
      rw [en_or0] at hY
      exact lc_votes_l F hlf hRm h511 K hR (k := 0) (by omega) hv ⟨by omega, by omega⟩ (by omega) ho hd hM hY w (lv_sub hl [0, 3, 4, 5, 6, 7, 8, 9, 10, 11, 12, 13, 14, 15, 16, 17, 18, 19, 1] rfl)
    · refine lv_aload F.1 F.2.1 dL_law_2866 (lv_at hl 5 rfl) ?_
      refine lv_iload F.1 F.2.1 dL_law_2868 (lv_at hl 16 rfl) ?_
      refine l_ild F w hL 5 rfl v (show v < 50 by omega) dL_law_2870 ?_
      refine q_rS (rest := []) F w kS_L_101 hd_L_info (c_L_info l D cy A _ (S 5 v)) dL_law_2871 rfl rfl hl.1 ⟨rfl, rfl, (show 1 ≤ R.frames by omega), (show 20 ≤ R.locals by omega)⟩ (Nat.le_of_ble_eq_true rfl) ⟨by omega, by omega⟩ ?_
      refine lv_iconst (v := 1) F.1 F.2.1 dL_law_2874 (by decide) ?_
      refine lv_iand F.1 F.2.1 dL_law_2875 ?_
      refine lv_if_ne (tgt := 2898) F.1 F.2.1 dL_law_2876 (by decide) (fun c_6 => ?_) (fun c_6 => ?_)
      · refine lv_iconst (v := 0) F.1 F.2.1 dL_law_2898 (by decide) ?_
        refine lv_istore (lv' := [(34, .int 0), (0, .ref b), (1, .ref o), (2, .ref (ad 2)), (3, .ref (ad 3)), (4, .ref (ad 4)), (5, .ref (ad 5)), (6, .ref (ad 6)), (7, .ref (ad 7)), (8, .ref (ad 8)), (9, .ref (ad 9)), (10, .ref (ad 10)), (11, .int (nI t)), (12, .int v12), (13, .int u), (14, .int (nI i)), (15, .int (nI (14 * i))), (16, .int (nI v)), (17, .int 1)]) F.1 F.2.1 dL_law_2899 hl (by decide) rfl (fun ls hl => ?_)
        refine lv_aload_n F.1 F.2.1 dL_law_2901 rfl (lv_at hl 2 rfl) ?_
        refine lv_iload F.1 F.2.1 dL_law_2902 (lv_at hl 17 rfl) ?_
        refine lw_appeal (rest := []) F w hd hM ho hR.r.ic (nI v) hlf dL_law_2904 hl.1 ⟨by omega, by omega⟩ (Nat.le_of_ble_eq_true rfl) ⟨by omega, by omega⟩ (fun v2904 X AD H locs hv2904 ho hd hM w => ?_)
        have hL := hY.un hd
        refine lv_fold (y := (-7300)) (hv2904.trans ((ap_no hR hv (Or.inr (Or.inl c_6))).1)) ?_
        refine lv_iload F.1 F.2.1 dL_law_2907 (lv_at hl 0 rfl) ?_
        refine lv_if_eq (tgt := 2916) F.1 F.2.1 dL_law_2909 (by decide) (fun c_7 => ?_) (fun c_7 => absurd rfl c_7)
        refine lv_sipush (v := -7300) F.1 F.2.1 dL_law_2916 (by decide) ?_
        refine lv_icmp_ne (tgt := 2926) F.1 F.2.1 dL_law_2919 (by decide) (fun c_8 => absurd rfl c_8) (fun c_8 => ?_)
        refine lv_iconst (v := 1) F.1 F.2.1 dL_law_2922 (by decide) ?_
        refine lv_goto (tgt := 2927) F.1 F.2.1 dL_law_2923 (by decide) ?_
        refine lv_istore (lv' := [(17, .int 1), (34, .int 0), (0, .ref b), (1, .ref o), (2, .ref (ad 2)), (3, .ref (ad 3)), (4, .ref (ad 4)), (5, .ref (ad 5)), (6, .ref (ad 6)), (7, .ref (ad 7)), (8, .ref (ad 8)), (9, .ref (ad 9)), (10, .ref (ad 10)), (11, .int (nI t)), (12, .int v12), (13, .int u), (14, .int (nI i)), (15, .int (nI (14 * i))), (16, .int (nI v))]) F.1 F.2.1 dL_law_2927 hl (by decide) rfl (fun ls hl => ?_)
        refine lv_aload F.1 F.2.1 dL_law_2929 (lv_at hl 7 rfl) ?_
        refine lv_iload F.1 F.2.1 dL_law_2931 (lv_at hl 18 rfl) ?_
        refine lv_dup2_11 F.1 F.2.1 dL_law_2933 rfl rfl ?_
        refine l_ild F w hL 5 rfl v (show v < 50 by omega) dL_law_2934 ?_
        refine lv_iload F.1 F.2.1 dL_law_2935 (lv_at hl 1 rfl) ?_
        refine lv_if_eq (tgt := 2946) F.1 F.2.1 dL_law_2937 (by decide) (fun c_9 => ?_) (fun c_9 => absurd rfl c_9)
        refine lv_iconst (v := 0) F.1 F.2.1 dL_law_2946 (by decide) ?_
        refine lv_ior F.1 F.2.1 dL_law_2947 ?_
        refine l_ist F w hd hY 5 rfl v (show v < 50 by omega) dL_law_2948 (fun H locs Y hd hY w => ?_)
        have hL := hY.un hd
        refine lv_iconst (v := 0) F.1 F.2.1 dL_law_2949 (by decide) ?_
        refine lv_istore (lv' := [(35, .int 0), (17, .int 1), (34, .int 0), (0, .ref b), (1, .ref o), (2, .ref (ad 2)), (3, .ref (ad 3)), (4, .ref (ad 4)), (5, .ref (ad 5)), (6, .ref (ad 6)), (7, .ref (ad 7)), (8, .ref (ad 8)), (9, .ref (ad 9)), (10, .ref (ad 10)), (11, .int (nI t)), (12, .int v12), (13, .int u), (14, .int (nI i)), (15, .int (nI (14 * i))), (16, .int (nI v))]) F.1 F.2.1 dL_law_2950 hl (by decide) rfl (fun ls hl => ?_)
        rw [(ap_no hR hv (Or.inr (Or.inl c_6))).2] at hM
        rw [en_or0] at hY
        exact lc_votes_l F hlf hRm h511 K hR (k := 0) (by omega) hv ⟨by omega, by omega⟩ (by omega) ho hd hM hY w (lv_sub hl [0, 3, 4, 5, 6, 7, 8, 9, 10, 11, 12, 13, 14, 15, 16, 17, 18, 19, 1] rfl)
      · refine lv_aload F.1 F.2.1 dL_law_2879 (lv_at hl 10 rfl) ?_
        refine lv_iconst (v := 0) F.1 F.2.1 dL_law_2881 (by decide) ?_
        refine l_ild F w hL 10 rfl 0 (show 0 < 9 by omega) dL_law_2882 ?_
        refine lv_aload F.1 F.2.1 dL_law_2883 (lv_at hl 7 rfl) ?_
        refine lv_iload F.1 F.2.1 dL_law_2885 (lv_at hl 16 rfl) ?_
        refine l_ild F w hL 7 rfl v (show v < 50 by omega) dL_law_2887 ?_
        refine lv_isub F.1 F.2.1 dL_law_2888 ?_
        refine lv_bipush (v := 30) F.1 F.2.1 dL_law_2889 (by decide) ?_
        refine lv_icmp_gt (tgt := 2898) F.1 F.2.1 dL_law_2891 (by decide) (fun c_10 => ?_) (fun c_10 => ?_)
        · refine lv_iconst (v := 0) F.1 F.2.1 dL_law_2898 (by decide) ?_
          refine lv_istore (lv' := [(34, .int 0), (0, .ref b), (1, .ref o), (2, .ref (ad 2)), (3, .ref (ad 3)), (4, .ref (ad 4)), (5, .ref (ad 5)), (6, .ref (ad 6)), (7, .ref (ad 7)), (8, .ref (ad 8)), (9, .ref (ad 9)), (10, .ref (ad 10)), (11, .int (nI t)), (12, .int v12), (13, .int u), (14, .int (nI i)), (15, .int (nI (14 * i))), (16, .int (nI v)), (17, .int 1)]) F.1 F.2.1 dL_law_2899 hl (by decide) rfl (fun ls hl => ?_)
          refine lv_aload_n F.1 F.2.1 dL_law_2901 rfl (lv_at hl 2 rfl) ?_
          refine lv_iload F.1 F.2.1 dL_law_2902 (lv_at hl 17 rfl) ?_
          refine lw_appeal (rest := []) F w hd hM ho hR.r.ic (nI v) hlf dL_law_2904 hl.1 ⟨by omega, by omega⟩ (Nat.le_of_ble_eq_true rfl) ⟨by omega, by omega⟩ (fun v2904 X AD H locs hv2904 ho hd hM w => ?_)
          have hL := hY.un hd
          refine lv_fold (y := (-7300)) (hv2904.trans ((ap_no hR hv (Or.inr (Or.inr c_10))).1)) ?_
          refine lv_iload F.1 F.2.1 dL_law_2907 (lv_at hl 0 rfl) ?_
          refine lv_if_eq (tgt := 2916) F.1 F.2.1 dL_law_2909 (by decide) (fun c_11 => ?_) (fun c_11 => absurd rfl c_11)
          refine lv_sipush (v := -7300) F.1 F.2.1 dL_law_2916 (by decide) ?_
          refine lv_icmp_ne (tgt := 2926) F.1 F.2.1 dL_law_2919 (by decide) (fun c_12 => absurd rfl c_12) (fun c_12 => ?_)
          refine lv_iconst (v := 1) F.1 F.2.1 dL_law_2922 (by decide) ?_
          refine lv_goto (tgt := 2927) F.1 F.2.1 dL_law_2923 (by decide) ?_
          refine lv_istore (lv' := [(17, .int 1), (34, .int 0), (0, .ref b), (1, .ref o), (2, .ref (ad 2)), (3, .ref (ad 3)), (4, .ref (ad 4)), (5, .ref (ad 5)), (6, .ref (ad 6)), (7, .ref (ad 7)), (8, .ref (ad 8)), (9, .ref (ad 9)), (10, .ref (ad 10)), (11, .int (nI t)), (12, .int v12), (13, .int u), (14, .int (nI i)), (15, .int (nI (14 * i))), (16, .int (nI v))]) F.1 F.2.1 dL_law_2927 hl (by decide) rfl (fun ls hl => ?_)
          refine lv_aload F.1 F.2.1 dL_law_2929 (lv_at hl 7 rfl) ?_
          refine lv_iload F.1 F.2.1 dL_law_2931 (lv_at hl 18 rfl) ?_
          refine lv_dup2_11 F.1 F.2.1 dL_law_2933 rfl rfl ?_
          refine l_ild F w hL 5 rfl v (show v < 50 by omega) dL_law_2934 ?_
          refine lv_iload F.1 F.2.1 dL_law_2935 (lv_at hl 1 rfl) ?_
          refine lv_if_eq (tgt := 2946) F.1 F.2.1 dL_law_2937 (by decide) (fun c_13 => ?_) (fun c_13 => absurd rfl c_13)
          refine lv_iconst (v := 0) F.1 F.2.1 dL_law_2946 (by decide) ?_
          refine lv_ior F.1 F.2.1 dL_law_2947 ?_
          refine l_ist F w hd hY 5 rfl v (show v < 50 by omega) dL_law_2948 (fun H locs Y hd hY w => ?_)
          have hL := hY.un hd
          refine lv_iconst (v := 0) F.1 F.2.1 dL_law_2949 (by decide) ?_
          refine lv_istore (lv' := [(35, .int 0), (17, .int 1), (34, .int 0), (0, .ref b), (1, .ref o), (2, .ref (ad 2)), (3, .ref (ad 3)), (4, .ref (ad 4)), (5, .ref (ad 5)), (6, .ref (ad 6)), (7, .ref (ad 7)), (8, .ref (ad 8)), (9, .ref (ad 9)), (10, .ref (ad 10)), (11, .int (nI t)), (12, .int v12), (13, .int u), (14, .int (nI i)), (15, .int (nI (14 * i))), (16, .int (nI v))]) F.1 F.2.1 dL_law_2950 hl (by decide) rfl (fun ls hl => ?_)
          rw [(ap_no hR hv (Or.inr (Or.inr c_10))).2] at hM
          rw [en_or0] at hY
          exact lc_votes_l F hlf hRm h511 K hR (k := 0) (by omega) hv ⟨by omega, by omega⟩ (by omega) ho hd hM hY w (lv_sub hl [0, 3, 4, 5, 6, 7, 8, 9, 10, 11, 12, 13, 14, 15, 16, 17, 18, 19, 1] rfl)
        · refine lv_iconst (v := 1) F.1 F.2.1 dL_law_2894 (by decide) ?_
          refine lv_goto (tgt := 2899) F.1 F.2.1 dL_law_2895 (by decide) ?_
          refine lv_istore (lv' := [(34, .int 1), (0, .ref b), (1, .ref o), (2, .ref (ad 2)), (3, .ref (ad 3)), (4, .ref (ad 4)), (5, .ref (ad 5)), (6, .ref (ad 6)), (7, .ref (ad 7)), (8, .ref (ad 8)), (9, .ref (ad 9)), (10, .ref (ad 10)), (11, .int (nI t)), (12, .int v12), (13, .int u), (14, .int (nI i)), (15, .int (nI (14 * i))), (16, .int (nI v)), (17, .int 1)]) F.1 F.2.1 dL_law_2899 hl (by decide) rfl (fun ls hl => ?_)
          refine lv_aload_n F.1 F.2.1 dL_law_2901 rfl (lv_at hl 2 rfl) ?_
          refine lv_iload F.1 F.2.1 dL_law_2902 (lv_at hl 17 rfl) ?_
          refine lw_appeal (rest := []) F w hd hM ho hR.r.ic (nI v) hlf dL_law_2904 hl.1 ⟨by omega, by omega⟩ (Nat.le_of_ble_eq_true rfl) ⟨by omega, by omega⟩ (fun v2904 X AD H locs hv2904 ho hd hM w => ?_)
          have hL := hY.un hd
          refine lv_fold (y := 0) (hv2904.trans ((ap_ok hR hv c_2 c_6 c_10).1)) ?_
          refine lv_iload F.1 F.2.1 dL_law_2907 (lv_at hl 0 rfl) ?_
          refine lv_if_eq (tgt := 2916) F.1 F.2.1 dL_law_2909 (by decide) (fun c_14 => absurd c_14 (by decide)) (fun c_14 => ?_)
          refine lv_iconst (v := 0) F.1 F.2.1 dL_law_2912 (by decide) ?_
          refine lv_goto (tgt := 2919) F.1 F.2.1 dL_law_2913 (by decide) ?_
          refine lv_icmp_ne (tgt := 2926) F.1 F.2.1 dL_law_2919 (by decide) (fun c_15 => absurd rfl c_15) (fun c_15 => ?_)
          refine lv_iconst (v := 1) F.1 F.2.1 dL_law_2922 (by decide) ?_
          refine lv_goto (tgt := 2927) F.1 F.2.1 dL_law_2923 (by decide) ?_
          refine lv_istore (lv' := [(17, .int 1), (34, .int 1), (0, .ref b), (1, .ref o), (2, .ref (ad 2)), (3, .ref (ad 3)), (4, .ref (ad 4)), (5, .ref (ad 5)), (6, .ref (ad 6)), (7, .ref (ad 7)), (8, .ref (ad 8)), (9, .ref (ad 9)), (10, .ref (ad 10)), (11, .int (nI t)), (12, .int v12), (13, .int u), (14, .int (nI i)), (15, .int (nI (14 * i))), (16, .int (nI v))]) F.1 F.2.1 dL_law_2927 hl (by decide) rfl (fun ls hl => ?_)
          refine lv_aload F.1 F.2.1 dL_law_2929 (lv_at hl 7 rfl) ?_
          refine lv_iload F.1 F.2.1 dL_law_2931 (lv_at hl 18 rfl) ?_
          refine lv_dup2_11 F.1 F.2.1 dL_law_2933 rfl rfl ?_
          refine l_ild F w hL 5 rfl v (show v < 50 by omega) dL_law_2934 ?_
          refine lv_iload F.1 F.2.1 dL_law_2935 (lv_at hl 1 rfl) ?_
          refine lv_if_eq (tgt := 2946) F.1 F.2.1 dL_law_2937 (by decide) (fun c_16 => absurd c_16 (by decide)) (fun c_16 => ?_)
          refine lv_sipush (v := 8192) F.1 F.2.1 dL_law_2940 (by decide) ?_
          refine lv_goto (tgt := 2947) F.1 F.2.1 dL_law_2943 (by decide) ?_
          refine lv_ior F.1 F.2.1 dL_law_2947 ?_
          refine l_ist F w hd hY 5 rfl v (show v < 50 by omega) dL_law_2948 (fun H locs Y hd hY w => ?_)
          have hL := hY.un hd
          refine lv_iconst (v := 0) F.1 F.2.1 dL_law_2949 (by decide) ?_
          refine lv_istore (lv' := [(35, .int 0), (17, .int 1), (34, .int 1), (0, .ref b), (1, .ref o), (2, .ref (ad 2)), (3, .ref (ad 3)), (4, .ref (ad 4)), (5, .ref (ad 5)), (6, .ref (ad 6)), (7, .ref (ad 7)), (8, .ref (ad 8)), (9, .ref (ad 9)), (10, .ref (ad 10)), (11, .int (nI t)), (12, .int v12), (13, .int u), (14, .int (nI i)), (15, .int (nI (14 * i))), (16, .int (nI v))]) F.1 F.2.1 dL_law_2950 hl (by decide) rfl (fun ls hl => ?_)
          exact lc_votes_l F hlf hRm h511 K ((ap_ok hR hv c_2 c_6 c_10).2) (k := 0) (by omega) hv ⟨by omega, by omega⟩ (by omega) ho hd hM hY w (lv_sub hl [0, 3, 4, 5, 6, 7, 8, 9, 10, 11, 12, 13, 14, 15, 16, 17, 18, 19, 1] rfl)
  · refine lv_goto (tgt := 3461) F.1 F.2.1 dL_law_2854 (by decide) ?_
    refine W.widen (k := c1) (n := s1) (by omega) (by omega) ?_
    exact K _ _ ls ⟨X, Y, AD, _, _, _, _, ho, hd, hM, hY, w, R26.ups hR (by omega)⟩ (lv_sub hl [17, 0, 1, 2, 3, 4, 5, 6, 7, 8, 9, 10, 11, 13] rfl)
set_option maxHeartbeats 4000000 in
set_option maxRecDepth 100000 in
theorem lc_release {p : Program} {l : Launch} {e : Env} {R : Room} {s : State} {m : MethodId} {args : Array Value} {below : List Frame} {meth : Method} {c : Code} {Q : State → Prop} {D : va_G} {cy : Nat → ClassId} {A : Nat → Prop} {o b t i v : Nat} {ad : Nat → Nat} {u v12 : Int32} {n n1 c1 s1 : Nat} {G M S : GS} {Wf : Nat → Int64} (F : CallFix p m c cL_law 40 s args BIG RL) (hlf : l.stackTraces = false) (hRm : 11 ≤ R.frames ∧ 278 ≤ R.locals ∧ c1 ≤ R.cells ∧ s1 ≤ R.slots) (h511 : n1 ≤ 511) (K : KJ p l e R s m args below meth c Q D cy A o b t ad u n1 c1 s1) (hR : R26 n G M S Wf) (hi4 : i < 4) (hi0 : gnS M = 0 ∨ i < gnS M) (hv50 : v < 50) (hv0 : gnV M = 0 ∨ v < gnV M) {X Y : MU} {AD : AM} {H : Heap} {locs : List Loc} {cells slots : Nat} (hf : cells + 30 ≤ c1 ∧ slots + 9500 ≤ s1) (hn : n + 4 ≤ n1) (ho : AD 0 0 0 = o) (hd : dis X Y) (hM : RepC cy AD G X) (hY : RepL cy ad S Wf Y) (w : WW D cy A (un X Y) s H locs) {ls : Array Slot} (hl : lv_has ls 40 [(0, .ref b), (1, .ref o), (2, .ref (ad 2)), (3, .ref (ad 3)), (4, .ref (ad 4)), (5, .ref (ad 5)), (6, .ref (ad 6)), (7, .ref (ad 7)), (8, .ref (ad 8)), (9, .ref (ad 9)), (10, .ref (ad 10)), (11, .int (nI t)), (12, .int v12), (13, .int u), (14, .int (nI i)), (15, .int (nI (14 * i))), (16, .int (nI v)), (17, .int 1)]) : W p l e R s m args below meth c H locs cells slots Q (F0 m 3172 ls []) := by
  have hL := hY.un hd
  obtain ⟨t9, ht9, ht⟩ := hR.td
  have hb4 := hR.b
  have heV := hR.eV
  refine lv_aload F.1 F.2.1 dL_law_3172 (lv_at hl 10 rfl) ?_
  refine lv_bipush (v := 8) F.1 F.2.1 dL_law_3174 (by decide) ?_
  refine l_ild F w hL 10 rfl 8 (show 8 < 9 by omega) dL_law_3176 ?_
  refine lv_if_le (tgt := 3388) F.1 F.2.1 dL_law_3177 (by decide) (fun c_1 => ?_) (fun c_1 => ?_)
  · exact lc_pass F hlf hRm h511 K hR hi4 hi0 hv50 hv0 ⟨by omega, by omega⟩ (by omega) ho hd hM hY w (lv_sub hl [0, 1, 2, 3, 4, 5, 6, 7, 8, 9, 10, 11, 12, 13, 14, 15, 16, 17] rfl)
  · have hi : i < gnS M := hi0.resolve_left (fun q => by have := g8pos hR c_1; omega)
    refine lv_aload_n F.1 F.2.1 dL_law_3180 rfl (lv_at hl 2 rfl) ?_
    refine lv_iload F.1 F.2.1 dL_law_3181 (lv_at hl 15 rfl) ?_
    refine lv_bipush (v := 9) F.1 F.2.1 dL_law_3183 (by decide) ?_
    refine lv_iadd F.1 F.2.1 dL_law_3185 ?_
    refine lv_fold (y := nI ((14 * i) + 9)) (nI_add (14 * i) 9) ?_
    refine l_ild F w hL 2 rfl ((14 * i) + 9) (show (14 * i) + 9 < 56 by omega) dL_law_3186 ?_
    refine lv_istore (lv' := [(35, .int (S 2 ((14 * i) + 9))), (0, .ref b), (1, .ref o), (2, .ref (ad 2)), (3, .ref (ad 3)), (4, .ref (ad 4)), (5, .ref (ad 5)), (6, .ref (ad 6)), (7, .ref (ad 7)), (8, .ref (ad 8)), (9, .ref (ad 9)), (10, .ref (ad 10)), (11, .int (nI t)), (12, .int v12), (13, .int u), (14, .int (nI i)), (15, .int (nI (14 * i))), (16, .int (nI v)), (17, .int 1)]) F.1 F.2.1 dL_law_3187 hl (by decide) rfl (fun ls hl => ?_)
    refine lv_iload F.1 F.2.1 dL_law_3189 (lv_at hl 0 rfl) ?_
    refine lv_iconst (v := -1) F.1 F.2.1 dL_law_3191 (by decide) ?_
    refine lv_icmp_eq (tgt := 3225) F.1 F.2.1 dL_law_3192 (by decide) (fun c_2 => ?_) (fun c_2 => ?_)
    · refine lv_iconst (v := 0) F.1 F.2.1 dL_law_3225 (by decide) ?_
      refine lv_istore (lv' := [(36, .int 0), (35, .int (S 2 ((14 * i) + 9))), (0, .ref b), (1, .ref o), (2, .ref (ad 2)), (3, .ref (ad 3)), (4, .ref (ad 4)), (5, .ref (ad 5)), (6, .ref (ad 6)), (7, .ref (ad 7)), (8, .ref (ad 8)), (9, .ref (ad 9)), (10, .ref (ad 10)), (11, .int (nI t)), (12, .int v12), (13, .int u), (14, .int (nI i)), (15, .int (nI (14 * i))), (16, .int (nI v)), (17, .int 1)]) F.1 F.2.1 dL_law_3226 hl (by decide) rfl (fun ls hl => ?_)
      refine lv_iload F.1 F.2.1 dL_law_3228 (lv_at hl 0 rfl) ?_
      refine lv_if_eq (tgt := 3249) F.1 F.2.1 dL_law_3230 (by decide) (fun c_3 => ?_) (fun c_3 => absurd rfl c_3)
      refine lv_iconst (v := 0) F.1 F.2.1 dL_law_3249 (by decide) ?_
      refine lv_istore (lv' := [(37, .int 0), (36, .int 0), (35, .int (S 2 ((14 * i) + 9))), (0, .ref b), (1, .ref o), (2, .ref (ad 2)), (3, .ref (ad 3)), (4, .ref (ad 4)), (5, .ref (ad 5)), (6, .ref (ad 6)), (7, .ref (ad 7)), (8, .ref (ad 8)), (9, .ref (ad 9)), (10, .ref (ad 10)), (11, .int (nI t)), (12, .int v12), (13, .int u), (14, .int (nI i)), (15, .int (nI (14 * i))), (16, .int (nI v)), (17, .int 1)]) F.1 F.2.1 dL_law_3250 hl (by decide) rfl (fun ls hl => ?_)
      refine lv_aload_n F.1 F.2.1 dL_law_3252 rfl (lv_at hl 4 rfl) ?_
      refine lv_iload F.1 F.2.1 dL_law_3253 (lv_at hl 17 rfl) ?_
      refine lw_release (rest := []) F w hd hM ho hR.r.ic (nI i) hlf dL_law_3255 hl.1 ⟨by omega, by omega⟩ (Nat.le_of_ble_eq_true rfl) ⟨by omega, by omega⟩ (fun v3255 X AD H locs hv3255 ho hd hM w => ?_)
      have hL := hY.un hd
      refine lv_fold (y := (-7300)) (hv3255.trans ((rl_no hR hi (Or.inl c_2)).1)) ?_
      refine lv_iload F.1 F.2.1 dL_law_3258 (lv_at hl 1 rfl) ?_
      refine lv_if_eq (tgt := 3268) F.1 F.2.1 dL_law_3260 (by decide) (fun c_4 => ?_) (fun c_4 => absurd rfl c_4)
      refine lv_sipush (v := -7300) F.1 F.2.1 dL_law_3268 (by decide) ?_
      refine lv_icmp_ne (tgt := 3278) F.1 F.2.1 dL_law_3271 (by decide) (fun c_5 => absurd rfl c_5) (fun c_5 => ?_)
      refine lv_iconst (v := 1) F.1 F.2.1 dL_law_3274 (by decide) ?_
      refine lv_goto (tgt := 3279) F.1 F.2.1 dL_law_3275 (by decide) ?_
      refine lv_istore (lv' := [(17, .int 1), (37, .int 0), (36, .int 0), (35, .int (S 2 ((14 * i) + 9))), (0, .ref b), (1, .ref o), (2, .ref (ad 2)), (3, .ref (ad 3)), (4, .ref (ad 4)), (5, .ref (ad 5)), (6, .ref (ad 6)), (7, .ref (ad 7)), (8, .ref (ad 8)), (9, .ref (ad 9)), (10, .ref (ad 10)), (11, .int (nI t)), (12, .int v12), (13, .int u), (14, .int (nI i)), (15, .int (nI (14 * i))), (16, .int (nI v))]) F.1 F.2.1 dL_law_3279 hl (by decide) rfl (fun ls hl => ?_)
      refine lv_iload F.1 F.2.1 dL_law_3281 (lv_at hl 2 rfl) ?_
      refine lv_if_eq (tgt := 3388) F.1 F.2.1 dL_law_3283 (by decide) (fun c_6 => ?_) (fun c_6 => absurd rfl c_6)
      rw [(rl_no hR hi (Or.inl c_2)).2] at hM
      exact lc_pass F hlf hRm h511 K hR hi4 hi0 hv50 hv0 ⟨by omega, by omega⟩ (by omega) ho hd hM hY w (lv_sub hl [4, 5, 6, 7, 8, 9, 10, 11, 12, 13, 14, 15, 16, 17, 18, 19, 20, 0] rfl)
    · obtain ⟨j9, hj9, ej, e13⟩ := rl_by hR hi c_2
      refine lv_iload F.1 F.2.1 dL_law_3195 (lv_at hl 15 rfl) ?_
      refine lv_aload_n F.1 F.2.1 dL_law_3197 rfl (lv_at hl 4 rfl) ?_
      refine lv_aload F.1 F.2.1 dL_law_3198 (lv_at hl 11 rfl) ?_
      refine q_rS (rest := []) F w kS_L_130 hd_L_lapsed (c_L_lapsed l D cy A _ ad S Wf hL i (show i < 4 by omega) hR.cok) dL_law_3200 rfl rfl hl.1 ⟨rfl, rfl, (show 2 ≤ R.frames by omega), (show 51 ≤ R.locals by omega)⟩ (Nat.le_of_ble_eq_true rfl) ⟨by omega, by omega⟩ ?_
      refine lv_if_ne (tgt := 3225) F.1 F.2.1 dL_law_3203 (by decide) (fun c_7 => ?_) (fun c_7 => ?_)
      · refine lv_iconst (v := 0) F.1 F.2.1 dL_law_3225 (by decide) ?_
        refine lv_istore (lv' := [(36, .int 0), (35, .int (S 2 ((14 * i) + 9))), (0, .ref b), (1, .ref o), (2, .ref (ad 2)), (3, .ref (ad 3)), (4, .ref (ad 4)), (5, .ref (ad 5)), (6, .ref (ad 6)), (7, .ref (ad 7)), (8, .ref (ad 8)), (9, .ref (ad 9)), (10, .ref (ad 10)), (11, .int (nI t)), (12, .int v12), (13, .int u), (14, .int (nI i)), (15, .int (nI (14 * i))), (16, .int (nI v)), (17, .int 1)]) F.1 F.2.1 dL_law_3226 hl (by decide) rfl (fun ls hl => ?_)
        refine lv_iload F.1 F.2.1 dL_law_3228 (lv_at hl 0 rfl) ?_
        refine lv_if_eq (tgt := 3249) F.1 F.2.1 dL_law_3230 (by decide) (fun c_8 => ?_) (fun c_8 => absurd rfl c_8)
        refine lv_iconst (v := 0) F.1 F.2.1 dL_law_3249 (by decide) ?_
        refine lv_istore (lv' := [(37, .int 0), (36, .int 0), (35, .int (S 2 ((14 * i) + 9))), (0, .ref b), (1, .ref o), (2, .ref (ad 2)), (3, .ref (ad 3)), (4, .ref (ad 4)), (5, .ref (ad 5)), (6, .ref (ad 6)), (7, .ref (ad 7)), (8, .ref (ad 8)), (9, .ref (ad 9)), (10, .ref (ad 10)), (11, .int (nI t)), (12, .int v12), (13, .int u), (14, .int (nI i)), (15, .int (nI (14 * i))), (16, .int (nI v)), (17, .int 1)]) F.1 F.2.1 dL_law_3250 hl (by decide) rfl (fun ls hl => ?_)
        refine lv_aload_n F.1 F.2.1 dL_law_3252 rfl (lv_at hl 4 rfl) ?_
        refine lv_iload F.1 F.2.1 dL_law_3253 (lv_at hl 17 rfl) ?_
        refine lw_release (rest := []) F w hd hM ho hR.r.ic (nI i) hlf dL_law_3255 hl.1 ⟨by omega, by omega⟩ (Nat.le_of_ble_eq_true rfl) ⟨by omega, by omega⟩ (fun v3255 X AD H locs hv3255 ho hd hM w => ?_)
        have hL := hY.un hd
        refine lv_fold (y := (-7300)) (hv3255.trans ((rl_no hR hi (Or.inr ⟨j9, hj9, e13, fun q => c_7 q.1⟩)).1)) ?_
        refine lv_iload F.1 F.2.1 dL_law_3258 (lv_at hl 1 rfl) ?_
        refine lv_if_eq (tgt := 3268) F.1 F.2.1 dL_law_3260 (by decide) (fun c_9 => ?_) (fun c_9 => absurd rfl c_9)
        refine lv_sipush (v := -7300) F.1 F.2.1 dL_law_3268 (by decide) ?_
        refine lv_icmp_ne (tgt := 3278) F.1 F.2.1 dL_law_3271 (by decide) (fun c_10 => absurd rfl c_10) (fun c_10 => ?_)
        refine lv_iconst (v := 1) F.1 F.2.1 dL_law_3274 (by decide) ?_
        refine lv_goto (tgt := 3279) F.1 F.2.1 dL_law_3275 (by decide) ?_
        refine lv_istore (lv' := [(17, .int 1), (37, .int 0), (36, .int 0), (35, .int (S 2 ((14 * i) + 9))), (0, .ref b), (1, .ref o), (2, .ref (ad 2)), (3, .ref (ad 3)), (4, .ref (ad 4)), (5, .ref (ad 5)), (6, .ref (ad 6)), (7, .ref (ad 7)), (8, .ref (ad 8)), (9, .ref (ad 9)), (10, .ref (ad 10)), (11, .int (nI t)), (12, .int v12), (13, .int u), (14, .int (nI i)), (15, .int (nI (14 * i))), (16, .int (nI v))]) F.1 F.2.1 dL_law_3279 hl (by decide) rfl (fun ls hl => ?_)
        refine lv_iload F.1 F.2.1 dL_law_3281 (lv_at hl 2 rfl) ?_
        refine lv_if_eq (tgt := 3388) F.1 F.2.1 dL_law_3283 (by decide) (fun c_11 => ?_) (fun c_11 => absurd rfl c_11)
        rw [(rl_no hR hi (Or.inr ⟨j9, hj9, e13, fun q => c_7 q.1⟩)).2] at hM
        exact lc_pass F hlf hRm h511 K hR hi4 hi0 hv50 hv0 ⟨by omega, by omega⟩ (by omega) ho hd hM hY w (lv_sub hl [4, 5, 6, 7, 8, 9, 10, 11, 12, 13, 14, 15, 16, 17, 18, 19, 20, 0] rfl)
      · refine lv_iload F.1 F.2.1 dL_law_3206 (lv_at hl 0 rfl) ?_
        refine lv_fold (y := nI j9) (ej) ?_
        refine lv_iconst (v := 0) F.1 F.2.1 dL_law_3208 (by decide) ?_
        refine lv_aload F.1 F.2.1 dL_law_3209 (lv_at hl 6 rfl) ?_
        refine lv_aload F.1 F.2.1 dL_law_3211 (lv_at hl 9 rfl) ?_
        refine lv_aload F.1 F.2.1 dL_law_3213 (lv_at hl 10 rfl) ?_
        refine q_rS (rest := []) F w kS_L_153 hd_L_open (c_L_open l D cy A _ ad S Wf hL j9 0 (show j9 < 50 by omega)) dL_law_3215 rfl rfl hl.1 ⟨rfl, rfl, (show 2 ≤ R.frames by omega), (show 46 ≤ R.locals by omega)⟩ (Nat.le_of_ble_eq_true rfl) ⟨by omega, by omega⟩ ?_
        refine lv_if_ne (tgt := 3225) F.1 F.2.1 dL_law_3218 (by decide) (fun c_12 => ?_) (fun c_12 => ?_)
        · refine lv_iconst (v := 0) F.1 F.2.1 dL_law_3225 (by decide) ?_
          refine lv_istore (lv' := [(36, .int 0), (35, .int (S 2 ((14 * i) + 9))), (0, .ref b), (1, .ref o), (2, .ref (ad 2)), (3, .ref (ad 3)), (4, .ref (ad 4)), (5, .ref (ad 5)), (6, .ref (ad 6)), (7, .ref (ad 7)), (8, .ref (ad 8)), (9, .ref (ad 9)), (10, .ref (ad 10)), (11, .int (nI t)), (12, .int v12), (13, .int u), (14, .int (nI i)), (15, .int (nI (14 * i))), (16, .int (nI v)), (17, .int 1)]) F.1 F.2.1 dL_law_3226 hl (by decide) rfl (fun ls hl => ?_)
          refine lv_iload F.1 F.2.1 dL_law_3228 (lv_at hl 0 rfl) ?_
          refine lv_if_eq (tgt := 3249) F.1 F.2.1 dL_law_3230 (by decide) (fun c_13 => ?_) (fun c_13 => absurd rfl c_13)
          refine lv_iconst (v := 0) F.1 F.2.1 dL_law_3249 (by decide) ?_
          refine lv_istore (lv' := [(37, .int 0), (36, .int 0), (35, .int (S 2 ((14 * i) + 9))), (0, .ref b), (1, .ref o), (2, .ref (ad 2)), (3, .ref (ad 3)), (4, .ref (ad 4)), (5, .ref (ad 5)), (6, .ref (ad 6)), (7, .ref (ad 7)), (8, .ref (ad 8)), (9, .ref (ad 9)), (10, .ref (ad 10)), (11, .int (nI t)), (12, .int v12), (13, .int u), (14, .int (nI i)), (15, .int (nI (14 * i))), (16, .int (nI v)), (17, .int 1)]) F.1 F.2.1 dL_law_3250 hl (by decide) rfl (fun ls hl => ?_)
          refine lv_aload_n F.1 F.2.1 dL_law_3252 rfl (lv_at hl 4 rfl) ?_
          refine lv_iload F.1 F.2.1 dL_law_3253 (lv_at hl 17 rfl) ?_
          refine lw_release (rest := []) F w hd hM ho hR.r.ic (nI i) hlf dL_law_3255 hl.1 ⟨by omega, by omega⟩ (Nat.le_of_ble_eq_true rfl) ⟨by omega, by omega⟩ (fun v3255 X AD H locs hv3255 ho hd hM w => ?_)
          have hL := hY.un hd
          refine lv_fold (y := (-7300)) (hv3255.trans ((rl_no hR hi (Or.inr ⟨j9, hj9, e13, fun q => c_12 q.2⟩)).1)) ?_
          refine lv_iload F.1 F.2.1 dL_law_3258 (lv_at hl 1 rfl) ?_
          refine lv_if_eq (tgt := 3268) F.1 F.2.1 dL_law_3260 (by decide) (fun c_14 => ?_) (fun c_14 => absurd rfl c_14)
          refine lv_sipush (v := -7300) F.1 F.2.1 dL_law_3268 (by decide) ?_
          refine lv_icmp_ne (tgt := 3278) F.1 F.2.1 dL_law_3271 (by decide) (fun c_15 => absurd rfl c_15) (fun c_15 => ?_)
          refine lv_iconst (v := 1) F.1 F.2.1 dL_law_3274 (by decide) ?_
          refine lv_goto (tgt := 3279) F.1 F.2.1 dL_law_3275 (by decide) ?_
          refine lv_istore (lv' := [(17, .int 1), (37, .int 0), (36, .int 0), (35, .int (S 2 ((14 * i) + 9))), (0, .ref b), (1, .ref o), (2, .ref (ad 2)), (3, .ref (ad 3)), (4, .ref (ad 4)), (5, .ref (ad 5)), (6, .ref (ad 6)), (7, .ref (ad 7)), (8, .ref (ad 8)), (9, .ref (ad 9)), (10, .ref (ad 10)), (11, .int (nI t)), (12, .int v12), (13, .int u), (14, .int (nI i)), (15, .int (nI (14 * i))), (16, .int (nI v))]) F.1 F.2.1 dL_law_3279 hl (by decide) rfl (fun ls hl => ?_)
          refine lv_iload F.1 F.2.1 dL_law_3281 (lv_at hl 2 rfl) ?_
          refine lv_if_eq (tgt := 3388) F.1 F.2.1 dL_law_3283 (by decide) (fun c_16 => ?_) (fun c_16 => absurd rfl c_16)
          rw [(rl_no hR hi (Or.inr ⟨j9, hj9, e13, fun q => c_12 q.2⟩)).2] at hM
          exact lc_pass F hlf hRm h511 K hR hi4 hi0 hv50 hv0 ⟨by omega, by omega⟩ (by omega) ho hd hM hY w (lv_sub hl [4, 5, 6, 7, 8, 9, 10, 11, 12, 13, 14, 15, 16, 17, 18, 19, 20, 0] rfl)
        · refine lv_iconst (v := 1) F.1 F.2.1 dL_law_3221 (by decide) ?_
          refine lv_goto (tgt := 3226) F.1 F.2.1 dL_law_3222 (by decide) ?_
          refine lv_istore (lv' := [(36, .int 1), (35, .int (S 2 ((14 * i) + 9))), (0, .ref b), (1, .ref o), (2, .ref (ad 2)), (3, .ref (ad 3)), (4, .ref (ad 4)), (5, .ref (ad 5)), (6, .ref (ad 6)), (7, .ref (ad 7)), (8, .ref (ad 8)), (9, .ref (ad 9)), (10, .ref (ad 10)), (11, .int (nI t)), (12, .int v12), (13, .int u), (14, .int (nI i)), (15, .int (nI (14 * i))), (16, .int (nI v)), (17, .int 1)]) F.1 F.2.1 dL_law_3226 hl (by decide) rfl (fun ls hl => ?_)
          refine lv_iload F.1 F.2.1 dL_law_3228 (lv_at hl 0 rfl) ?_
          refine lv_if_eq (tgt := 3249) F.1 F.2.1 dL_law_3230 (by decide) (fun c_17 => absurd c_17 (by decide)) (fun c_17 => ?_)
          refine lv_bipush (v := 100) F.1 F.2.1 dL_law_3233 (by decide) ?_
          refine lv_aload F.1 F.2.1 dL_law_3235 (lv_at hl 12 rfl) ?_
          refine lv_iconst (v := 0) F.1 F.2.1 dL_law_3237 (by decide) ?_
          refine l_ild F w hL 10 rfl 0 (show 0 < 9 by omega) dL_law_3238 ?_
          refine lv_aload F.1 F.2.1 dL_law_3239 (lv_at hl 9 rfl) ?_
          refine lv_iload F.1 F.2.1 dL_law_3241 (lv_at hl 1 rfl) ?_
          refine lv_fold (y := nI j9) (ej) ?_
          refine l_ild F w hL 7 rfl j9 (show j9 < 50 by omega) dL_law_3243 ?_
          refine lv_isub F.1 F.2.1 dL_law_3244 ?_
          refine lv_imul F.1 F.2.1 dL_law_3245 ?_
          refine lv_goto (tgt := 3250) F.1 F.2.1 dL_law_3246 (by decide) ?_
          refine lv_istore (lv' := [(37, .int (100 * ((S 10 0) - (S 7 j9)))), (36, .int 1), (35, .int (S 2 ((14 * i) + 9))), (0, .ref b), (1, .ref o), (2, .ref (ad 2)), (3, .ref (ad 3)), (4, .ref (ad 4)), (5, .ref (ad 5)), (6, .ref (ad 6)), (7, .ref (ad 7)), (8, .ref (ad 8)), (9, .ref (ad 9)), (10, .ref (ad 10)), (11, .int (nI t)), (12, .int v12), (13, .int u), (14, .int (nI i)), (15, .int (nI (14 * i))), (16, .int (nI v)), (17, .int 1)]) F.1 F.2.1 dL_law_3250 hl (by decide) rfl (fun ls hl => ?_)
          refine lv_aload_n F.1 F.2.1 dL_law_3252 rfl (lv_at hl 4 rfl) ?_
          refine lv_iload F.1 F.2.1 dL_law_3253 (lv_at hl 17 rfl) ?_
          refine lw_release (rest := []) F w hd hM ho hR.r.ic (nI i) hlf dL_law_3255 hl.1 ⟨by omega, by omega⟩ (Nat.le_of_ble_eq_true rfl) ⟨by omega, by omega⟩ (fun v3255 X AD H locs hv3255 ho hd hM w => ?_)
          have hL := hY.un hd
          refine lv_fold (y := 100 * ((S 10 0) - (S 7 j9))) (hv3255.trans ((rl_ok hR hi hj9 e13 c_7 c_12).1)) ?_
          refine lv_iload F.1 F.2.1 dL_law_3258 (lv_at hl 1 rfl) ?_
          refine lv_if_eq (tgt := 3268) F.1 F.2.1 dL_law_3260 (by decide) (fun c_18 => absurd c_18 (by decide)) (fun c_18 => ?_)
          refine lv_iload F.1 F.2.1 dL_law_3263 (lv_at hl 0 rfl) ?_
          refine lv_goto (tgt := 3271) F.1 F.2.1 dL_law_3265 (by decide) ?_
          refine lv_icmp_ne (tgt := 3278) F.1 F.2.1 dL_law_3271 (by decide) (fun c_19 => absurd rfl c_19) (fun c_19 => ?_)
          refine lv_iconst (v := 1) F.1 F.2.1 dL_law_3274 (by decide) ?_
          refine lv_goto (tgt := 3279) F.1 F.2.1 dL_law_3275 (by decide) ?_
          refine lv_istore (lv' := [(17, .int 1), (37, .int (100 * ((S 10 0) - (S 7 j9)))), (36, .int 1), (35, .int (S 2 ((14 * i) + 9))), (0, .ref b), (1, .ref o), (2, .ref (ad 2)), (3, .ref (ad 3)), (4, .ref (ad 4)), (5, .ref (ad 5)), (6, .ref (ad 6)), (7, .ref (ad 7)), (8, .ref (ad 8)), (9, .ref (ad 9)), (10, .ref (ad 10)), (11, .int (nI t)), (12, .int v12), (13, .int u), (14, .int (nI i)), (15, .int (nI (14 * i))), (16, .int (nI v))]) F.1 F.2.1 dL_law_3279 hl (by decide) rfl (fun ls hl => ?_)
          refine lv_iload F.1 F.2.1 dL_law_3281 (lv_at hl 2 rfl) ?_
          refine lv_if_eq (tgt := 3388) F.1 F.2.1 dL_law_3283 (by decide) (fun c_20 => absurd c_20 (by decide)) (fun c_20 => ?_)
          refine lv_aload_n F.1 F.2.1 dL_law_3286 rfl (lv_at hl 6 rfl) ?_
          refine lv_iload F.1 F.2.1 dL_law_3287 (lv_at hl 19 rfl) ?_
          refine lv_bipush (v := 9) F.1 F.2.1 dL_law_3289 (by decide) ?_
          refine lv_iadd F.1 F.2.1 dL_law_3291 ?_
          refine lv_fold (y := nI ((14 * i) + 9)) (nI_add (14 * i) 9) ?_
          refine lv_iconst (v := -1) F.1 F.2.1 dL_law_3292 (by decide) ?_
          refine l_ist F w hd hY 2 rfl ((14 * i) + 9) (show (14 * i) + 9 < 56 by omega) dL_law_3293 (fun H locs Y hd hY w => ?_)
          have hL := hY.un hd
          refine lv_aload_n F.1 F.2.1 dL_law_3294 rfl (lv_at hl 6 rfl) ?_
          refine lv_iload F.1 F.2.1 dL_law_3295 (lv_at hl 19 rfl) ?_
          refine lv_bipush (v := 13) F.1 F.2.1 dL_law_3297 (by decide) ?_
          refine lv_iadd F.1 F.2.1 dL_law_3299 ?_
          refine lv_fold (y := nI ((14 * i) + 13)) (nI_add (14 * i) 13) ?_
          refine lv_dup2_11 F.1 F.2.1 dL_law_3300 rfl rfl ?_
          refine l_ild F w hL 2 rfl ((14 * i) + 13) (show (14 * i) + 13 < 56 by omega) dL_law_3301 ?_
          refine lv_fold (y := S 2 ((14 * i) + 13)) (up2_d (by omega)) ?_
          refine lv_iload F.1 F.2.1 dL_law_3302 (lv_at hl 1 rfl) ?_
          refine lv_iadd F.1 F.2.1 dL_law_3304 ?_
          refine l_ist F w hd hY 2 rfl ((14 * i) + 13) (show (14 * i) + 13 < 56 by omega) dL_law_3305 (fun H locs Y hd hY w => ?_)
          have hL := hY.un hd
          refine lv_aload_n F.1 F.2.1 dL_law_3306 rfl (lv_at hl 6 rfl) ?_
          refine lv_iload F.1 F.2.1 dL_law_3307 (lv_at hl 19 rfl) ?_
          refine lv_bipush (v := 10) F.1 F.2.1 dL_law_3309 (by decide) ?_
          refine lv_iadd F.1 F.2.1 dL_law_3311 ?_
          refine lv_fold (y := nI ((14 * i) + 10)) (nI_add (14 * i) 10) ?_
          refine l_ild F w hL 2 rfl ((14 * i) + 10) (show (14 * i) + 10 < 56 by omega) dL_law_3312 ?_
          refine lv_fold (y := S 2 ((14 * i) + 10)) ((up2_d (by omega)).trans (up2_d (by omega))) ?_
          refine lv_iconst (v := 1) F.1 F.2.1 dL_law_3313 (by decide) ?_
          refine lv_icmp_ne (tgt := 3388) F.1 F.2.1 dL_law_3314 (by decide) (fun c_21 => ?_) (fun c_21 => ?_)
          · exact lc_pass F hlf hRm h511 K (rl_A hR hi hj9 e13 c_7 c_12 c_21) hi4 hi0 hv50 hv0 ⟨by omega, by omega⟩ (by omega) ho hd hM hY w (lv_sub hl [4, 5, 6, 7, 8, 9, 10, 11, 12, 13, 14, 15, 16, 17, 18, 19, 20, 0] rfl)
          · refine lv_aload_n F.1 F.2.1 dL_law_3317 rfl (lv_at hl 6 rfl) ?_
            refine lv_iload F.1 F.2.1 dL_law_3318 (lv_at hl 19 rfl) ?_
            refine lv_bipush (v := 11) F.1 F.2.1 dL_law_3320 (by decide) ?_
            refine lv_iadd F.1 F.2.1 dL_law_3322 ?_
            refine lv_fold (y := nI ((14 * i) + 11)) (nI_add (14 * i) 11) ?_
            refine lv_dup2_11 F.1 F.2.1 dL_law_3323 rfl rfl ?_
            refine l_ild F w hL 2 rfl ((14 * i) + 11) (show (14 * i) + 11 < 56 by omega) dL_law_3324 ?_
            refine lv_fold (y := S 2 ((14 * i) + 11)) ((up2_d (by omega)).trans (up2_d (by omega))) ?_
            refine lv_iconst (v := 1) F.1 F.2.1 dL_law_3325 (by decide) ?_
            refine lv_iadd F.1 F.2.1 dL_law_3326 ?_
            refine l_ist F w hd hY 2 rfl ((14 * i) + 11) (show (14 * i) + 11 < 56 by omega) dL_law_3327 (fun H locs Y hd hY w => ?_)
            have hL := hY.un hd
            refine lv_aload_n F.1 F.2.1 dL_law_3328 rfl (lv_at hl 6 rfl) ?_
            refine lv_iload F.1 F.2.1 dL_law_3329 (lv_at hl 19 rfl) ?_
            refine lv_bipush (v := 12) F.1 F.2.1 dL_law_3331 (by decide) ?_
            refine lv_iadd F.1 F.2.1 dL_law_3333 ?_
            refine lv_fold (y := nI ((14 * i) + 12)) (nI_add (14 * i) 12) ?_
            refine lv_aload_n F.1 F.2.1 dL_law_3334 rfl (lv_at hl 6 rfl) ?_
            refine lv_iload F.1 F.2.1 dL_law_3335 (lv_at hl 19 rfl) ?_
            refine lv_bipush (v := 11) F.1 F.2.1 dL_law_3337 (by decide) ?_
            refine lv_iadd F.1 F.2.1 dL_law_3339 ?_
            refine lv_fold (y := nI ((14 * i) + 11)) (nI_add (14 * i) 11) ?_
            refine l_ild F w hL 2 rfl ((14 * i) + 11) (show (14 * i) + 11 < 56 by omega) dL_law_3340 ?_
            refine lv_fold (y := (S 2 ((14 * i) + 11)) + 1) (up2_s) ?_
            refine lv_iconst (v := 1) F.1 F.2.1 dL_law_3341 (by decide) ?_
            refine lv_icmp_ne (tgt := 3355) F.1 F.2.1 dL_law_3342 (by decide) (fun c_22 => ?_) (fun c_22 => ?_)
            · refine lv_aload_n F.1 F.2.1 dL_law_3355 rfl (lv_at hl 6 rfl) ?_
              refine lv_iload F.1 F.2.1 dL_law_3356 (lv_at hl 19 rfl) ?_
              refine lv_bipush (v := 11) F.1 F.2.1 dL_law_3358 (by decide) ?_
              refine lv_iadd F.1 F.2.1 dL_law_3360 ?_
              refine lv_fold (y := nI ((14 * i) + 11)) (nI_add (14 * i) 11) ?_
              refine l_ild F w hL 2 rfl ((14 * i) + 11) (show (14 * i) + 11 < 56 by omega) dL_law_3361 ?_
              refine lv_fold (y := (S 2 ((14 * i) + 11)) + 1) (up2_s) ?_
              refine lv_iconst (v := 2) F.1 F.2.1 dL_law_3362 (by decide) ?_
              refine lv_icmp_ne (tgt := 3377) F.1 F.2.1 dL_law_3363 (by decide) (fun c_23 => ?_) (fun c_23 => ?_)
              · refine lv_ldc F.1 F.2.1 F.2.2.2.1 (F.2.2.2.2 _ wK_L_201) dL_law_3377 ?_
                refine l_ist F w hd hY 2 rfl ((14 * i) + 12) (show (14 * i) + 12 < 56 by omega) dL_law_3379 (fun H locs Y hd hY w => ?_)
                have hL := hY.un hd
                refine lv_aload_n F.1 F.2.1 dL_law_3380 rfl (lv_at hl 6 rfl) ?_
                refine lv_iload F.1 F.2.1 dL_law_3381 (lv_at hl 19 rfl) ?_
                refine lv_bipush (v := 10) F.1 F.2.1 dL_law_3383 (by decide) ?_
                refine lv_iadd F.1 F.2.1 dL_law_3385 ?_
                refine lv_fold (y := nI ((14 * i) + 10)) (nI_add (14 * i) 10) ?_
                refine lv_iconst (v := 0) F.1 F.2.1 dL_law_3386 (by decide) ?_
                refine l_ist F w hd hY 2 rfl ((14 * i) + 10) (show (14 * i) + 10 < 56 by omega) dL_law_3387 (fun H locs Y hd hY w => ?_)
                have hL := hY.un hd
                exact lc_pass F hlf hRm h511 K (rl_B hR hi hj9 e13 c_7 c_12 c_21 (((if_neg c_22).trans (if_neg c_23))).symm) hi4 hi0 hv50 hv0 ⟨by omega, by omega⟩ (by omega) ho hd hM hY w (lv_sub hl [4, 5, 6, 7, 8, 9, 10, 11, 12, 13, 14, 15, 16, 17, 18, 19, 20, 0] rfl)
              · refine lv_aload F.1 F.2.1 dL_law_3366 (lv_at hl 14 rfl) ?_
                refine lv_iconst (v := 0) F.1 F.2.1 dL_law_3368 (by decide) ?_
                refine l_ild F w hL 10 rfl 0 (show 0 < 9 by omega) dL_law_3369 ?_
                refine lv_fold (y := S 10 0) ((up2_r (by decide)).trans ((up2_r (by decide)).trans (up2_r (by decide)))) ?_
                refine lv_sipush (v := 360) F.1 F.2.1 dL_law_3370 (by decide) ?_
                refine lv_iadd F.1 F.2.1 dL_law_3373 ?_
                refine lv_goto (tgt := 3379) F.1 F.2.1 dL_law_3374 (by decide) ?_
                refine l_ist F w hd hY 2 rfl ((14 * i) + 12) (show (14 * i) + 12 < 56 by omega) dL_law_3379 (fun H locs Y hd hY w => ?_)
                have hL := hY.un hd
                refine lv_aload_n F.1 F.2.1 dL_law_3380 rfl (lv_at hl 6 rfl) ?_
                refine lv_iload F.1 F.2.1 dL_law_3381 (lv_at hl 19 rfl) ?_
                refine lv_bipush (v := 10) F.1 F.2.1 dL_law_3383 (by decide) ?_
                refine lv_iadd F.1 F.2.1 dL_law_3385 ?_
                refine lv_fold (y := nI ((14 * i) + 10)) (nI_add (14 * i) 10) ?_
                refine lv_iconst (v := 0) F.1 F.2.1 dL_law_3386 (by decide) ?_
                refine l_ist F w hd hY 2 rfl ((14 * i) + 10) (show (14 * i) + 10 < 56 by omega) dL_law_3387 (fun H locs Y hd hY w => ?_)
                have hL := hY.un hd
                exact lc_pass F hlf hRm h511 K (rl_B hR hi hj9 e13 c_7 c_12 c_21 (((if_neg c_22).trans (if_pos c_23))).symm) hi4 hi0 hv50 hv0 ⟨by omega, by omega⟩ (by omega) ho hd hM hY w (lv_sub hl [4, 5, 6, 7, 8, 9, 10, 11, 12, 13, 14, 15, 16, 17, 18, 19, 20, 0] rfl)
            · refine lv_aload F.1 F.2.1 dL_law_3345 (lv_at hl 14 rfl) ?_
              refine lv_iconst (v := 0) F.1 F.2.1 dL_law_3347 (by decide) ?_
              refine l_ild F w hL 10 rfl 0 (show 0 < 9 by omega) dL_law_3348 ?_
              refine lv_fold (y := S 10 0) ((up2_r (by decide)).trans ((up2_r (by decide)).trans (up2_r (by decide)))) ?_
              refine lv_bipush (v := 90) F.1 F.2.1 dL_law_3349 (by decide) ?_
              refine lv_iadd F.1 F.2.1 dL_law_3351 ?_
              refine lv_goto (tgt := 3379) F.1 F.2.1 dL_law_3352 (by decide) ?_
              refine l_ist F w hd hY 2 rfl ((14 * i) + 12) (show (14 * i) + 12 < 56 by omega) dL_law_3379 (fun H locs Y hd hY w => ?_)
              have hL := hY.un hd
              refine lv_aload_n F.1 F.2.1 dL_law_3380 rfl (lv_at hl 6 rfl) ?_
              refine lv_iload F.1 F.2.1 dL_law_3381 (lv_at hl 19 rfl) ?_
              refine lv_bipush (v := 10) F.1 F.2.1 dL_law_3383 (by decide) ?_
              refine lv_iadd F.1 F.2.1 dL_law_3385 ?_
              refine lv_fold (y := nI ((14 * i) + 10)) (nI_add (14 * i) 10) ?_
              refine lv_iconst (v := 0) F.1 F.2.1 dL_law_3386 (by decide) ?_
              refine l_ist F w hd hY 2 rfl ((14 * i) + 10) (show (14 * i) + 10 < 56 by omega) dL_law_3387 (fun H locs Y hd hY w => ?_)
              have hL := hY.un hd
              exact lc_pass F hlf hRm h511 K (rl_B hR hi hj9 e13 c_7 c_12 c_21 ((if_pos c_22)).symm) hi4 hi0 hv50 hv0 ⟨by omega, by omega⟩ (by omega) ho hd hM hY w (lv_sub hl [4, 5, 6, 7, 8, 9, 10, 11, 12, 13, 14, 15, 16, 17, 18, 19, 20, 0] rfl)
