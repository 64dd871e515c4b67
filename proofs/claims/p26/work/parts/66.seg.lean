set_option maxHeartbeats 4000000 in
set_option maxRecDepth 100000 in
theorem lc_finds_r {p : Program} {l : Launch} {e : Env} {R : Room} {s : State} {m : MethodId} {args : Array Value} {below : List Frame} {meth : Method} {c : Code} {Q : State → Prop} {D : va_G} {cy : Nat → ClassId} {A : Nat → Prop} {o b t i v : Nat} {ad : Nat → Nat} {u v12 : Int32} {n n1 c1 s1 : Nat} {G M S : GS} {Wf : Nat → Int64} {k : Nat} (F : CallFix p m c cL_law 40 s args BIG RL) (hlf : l.stackTraces = false) (hRm : 11 ≤ R.frames ∧ 278 ≤ R.locals ∧ c1 ≤ R.cells ∧ s1 ≤ R.slots) (h511 : n1 ≤ 511) (K : KJ p l e R s m args below meth c Q D cy A o b t ad u n1 c1 s1) (hR : R26 n G M S Wf) (hk : k ≤ 4) (hv : v < gnV M) (KN : ∀ {n : Nat} {G M S : GS} {Wf : Nat → Int64} {X Y : MU} {AD : AM} {H : Heap} {locs : List Loc} {cells slots : Nat} {ls : Array Slot}, R26 n G M S Wf → v < gnV M → k < 4 → (cells + 4 * (4 - (k + 1)) ≤ c1 ∧ slots + 2007 * (4 - (k + 1)) ≤ s1) → n + (4 - (k + 1)) ≤ n1 → AD 0 0 0 = o → dis X Y → RepC cy AD G X → RepL cy ad S Wf Y → WW D cy A (un X Y) s H locs → lv_has ls 40 [(30, .int (nI (k + 1))), (0, .ref b), (1, .ref o), (2, .ref (ad 2)), (3, .ref (ad 3)), (4, .ref (ad 4)), (5, .ref (ad 5)), (6, .ref (ad 6)), (7, .ref (ad 7)), (8, .ref (ad 8)), (9, .ref (ad 9)), (10, .ref (ad 10)), (11, .int (nI t)), (12, .int v12), (13, .int u), (14, .int (nI i)), (15, .int (nI (14 * i))), (16, .int (nI v)), (17, .int 1)] → W p l e R s m args below meth c H locs cells slots Q (F0 m 2043 ls [])) {X Y : MU} {AD : AM} {H : Heap} {locs : List Loc} {cells slots : Nat} (hf : cells + 4 * (4 - k) ≤ c1 ∧ slots + 2007 * (4 - k) ≤ s1) (hn : n + (4 - k) ≤ n1) (ho : AD 0 0 0 = o) (hd : dis X Y) (hM : RepC cy AD G X) (hY : RepL cy ad S Wf Y) (w : WW D cy A (un X Y) s H locs) {ls : Array Slot} (hl : lv_has ls 40 [(30, .int (nI k)), (0, .ref b), (1, .ref o), (2, .ref (ad 2)), (3, .ref (ad 3)), (4, .ref (ad 4)), (5, .ref (ad 5)), (6, .ref (ad 6)), (7, .ref (ad 7)), (8, .ref (ad 8)), (9, .ref (ad 9)), (10, .ref (ad 10)), (11, .int (nI t)), (12, .int v12), (13, .int u), (14, .int (nI i)), (15, .int (nI (14 * i))), (16, .int (nI v)), (17, .int 1)]) : W p l e R s m args below meth c H locs cells slots Q (F0 m 2043 ls []) := by
  have hL := hY.un hd
  obtain ⟨t9, ht9, ht⟩ := hR.td
  have hb4 := hR.b
  have heV := hR.eV
  obtain ⟨s9, hs9, e30, e5⟩ := vi_s hR hv
  have hfc := (hR.fc hv).2
  refine lv_iload F.1 F.2.1 dL_law_2043 (lv_at hl 0 rfl) ?_
  refine lv_iload F.1 F.2.1 dL_law_2045 (lv_at hl 14 rfl) ?_
  refine lv_iconst (v := 4) F.1 F.2.1 dL_law_2047 (by decide) ?_
  obtain ⟨q2048, hq2048, eq2048⟩ := low_ok u (n := 4) (by omega) (by omega)
  refine q_rS (rest := [.int (nI k)]) F w kS_L_134 hd_L_low (c_L_low l D cy A _ u 4 (by decide)) dL_law_2048 rfl rfl hl.1 ⟨rfl, rfl, (show 1 ≤ R.frames by omega), (show 21 ≤ R.locals by omega)⟩ (Nat.le_of_ble_eq_true rfl) ⟨by omega, by omega⟩ ?_
  refine lv_fold (y := nI q2048) eq2048 ?_
  refine lv_icmp_gt (tgt := 2253) F.1 F.2.1 dL_law_2051 (by decide) (fun c_1 => ?_) (fun c_1 => ?_)
  · refine lv_goto (tgt := 3461) F.1 F.2.1 dL_law_2253 (by decide) ?_
    refine W.widen (k := c1) (n := s1) (by omega) (by omega) ?_
    exact K _ _ ls ⟨X, Y, AD, _, _, _, _, ho, hd, hM, hY, w, R26.ups hR (by omega)⟩ (lv_sub hl [18, 1, 2, 3, 4, 5, 6, 7, 8, 9, 10, 11, 12, 14] rfl)
  · have hk4 : k < 4 := Nat.lt_of_le_of_lt (Nat.le_of_not_lt (fun q => c_1 (nI_lt q (by omega)))) hq2048
    refine lv_iload F.1 F.2.1 dL_law_2054 (lv_at hl 14 rfl) ?_
    refine lv_iconst (v := 3) F.1 F.2.1 dL_law_2056 (by decide) ?_
    refine lv_iload F.1 F.2.1 dL_law_2057 (lv_at hl 0 rfl) ?_
    refine lv_iadd F.1 F.2.1 dL_law_2059 ?_
    refine lv_fold (y := nI (3 + k)) (nI_add 3 k) ?_
    refine lv_ishr F.1 F.2.1 dL_law_2060 ?_
    refine lv_iconst (v := 4) F.1 F.2.1 dL_law_2061 (by decide) ?_
    obtain ⟨q2062, hq2062, eq2062⟩ := low_ok (u >>> ((nI (3 + k)) &&& 31)) (n := 4) (by omega) (by omega)
    refine q_rS (rest := []) F w kS_L_134 hd_L_low (c_L_low l D cy A _ (u >>> ((nI (3 + k)) &&& 31)) 4 (by decide)) dL_law_2062 rfl rfl hl.1 ⟨rfl, rfl, (show 1 ≤ R.frames by omega), (show 21 ≤ R.locals by omega)⟩ (Nat.le_of_ble_eq_true rfl) ⟨by omega, by omega⟩ ?_
    refine lv_fold (y := nI q2062) eq2062 ?_
    refine lv_istore (lv' := [(31, .int (nI q2062)), (30, .int (nI k)), (0, .ref b), (1, .ref o), (2, .ref (ad 2)), (3, .ref (ad 3)), (4, .ref (ad 4)), (5, .ref (ad 5)), (6, .ref (ad 6)), (7, .ref (ad 7)), (8, .ref (ad 8)), (9, .ref (ad 9)), (10, .ref (ad 10)), (11, .int (nI t)), (12, .int v12), (13, .int u), (14, .int (nI i)), (15, .int (nI (14 * i))), (16, .int (nI v)), (17, .int 1)]) F.1 F.2.1 dL_law_2065 hl (by decide) rfl (fun ls hl => ?_)
    refine lv_iconst (v := 1) F.1 F.2.1 dL_law_2067 (by decide) ?_
    refine lv_iload F.1 F.2.1 dL_law_2068 (lv_at hl 15 rfl) ?_
    refine lv_bipush (v := 9) F.1 F.2.1 dL_law_2070 (by decide) ?_
    refine lv_iload F.1 F.2.1 dL_law_2072 (lv_at hl 1 rfl) ?_
    refine lv_iadd F.1 F.2.1 dL_law_2074 ?_
    refine lv_fold (y := nI (9 + k)) (nI_add 9 k) ?_
    refine lv_ishr F.1 F.2.1 dL_law_2075 ?_
    refine lv_bipush (v := 10) F.1 F.2.1 dL_law_2076 (by decide) ?_
    obtain ⟨q2078, hq2078, eq2078⟩ := low_ok (u >>> ((nI (9 + k)) &&& 31)) (n := 10) (by omega) (by omega)
    refine q_rS (rest := [.int 1]) F w kS_L_134 hd_L_low (c_L_low l D cy A _ (u >>> ((nI (9 + k)) &&& 31)) 10 (by decide)) dL_law_2078 rfl rfl hl.1 ⟨rfl, rfl, (show 1 ≤ R.frames by omega), (show 21 ≤ R.locals by omega)⟩ (Nat.le_of_ble_eq_true rfl) ⟨by omega, by omega⟩ ?_
    refine lv_fold (y := nI q2078) eq2078 ?_
    refine lv_iadd F.1 F.2.1 dL_law_2081 ?_
    refine lv_fold (y := nI (1 + q2078)) (nI_add 1 q2078) ?_
    refine lv_istore (lv' := [(32, .int (nI (1 + q2078))), (31, .int (nI q2062)), (30, .int (nI k)), (0, .ref b), (1, .ref o), (2, .ref (ad 2)), (3, .ref (ad 3)), (4, .ref (ad 4)), (5, .ref (ad 5)), (6, .ref (ad 6)), (7, .ref (ad 7)), (8, .ref (ad 8)), (9, .ref (ad 9)), (10, .ref (ad 10)), (11, .int (nI t)), (12, .int v12), (13, .int u), (14, .int (nI i)), (15, .int (nI (14 * i))), (16, .int (nI v)), (17, .int 1)]) F.1 F.2.1 dL_law_2082 hl (by decide) rfl (fun ls hl => ?_)
    refine lv_aload F.1 F.2.1 dL_law_2084 (lv_at hl 8 rfl) ?_
    refine lv_iload F.1 F.2.1 dL_law_2086 (lv_at hl 19 rfl) ?_
    refine l_ild F w hL 5 rfl v (show v < 50 by omega) dL_law_2088 ?_
    refine q_rS (rest := []) F w kS_L_112 hd_L_findings (c_L_findings l D cy A _ (S 5 v)) dL_law_2089 rfl rfl hl.1 ⟨rfl, rfl, (show 1 ≤ R.frames by omega), (show 20 ≤ R.locals by omega)⟩ (Nat.le_of_ble_eq_true rfl) ⟨by omega, by omega⟩ ?_
    refine lv_fold (y := nI (gnF M v)) ((vl_fnd hR hv).trans (hR.fc hv).1) ?_
    refine lv_istore (lv' := [(33, .int (nI (gnF M v))), (32, .int (nI (1 + q2078))), (31, .int (nI q2062)), (30, .int (nI k)), (0, .ref b), (1, .ref o), (2, .ref (ad 2)), (3, .ref (ad 3)), (4, .ref (ad 4)), (5, .ref (ad 5)), (6, .ref (ad 6)), (7, .ref (ad 7)), (8, .ref (ad 8)), (9, .ref (ad 9)), (10, .ref (ad 10)), (11, .int (nI t)), (12, .int v12), (13, .int u), (14, .int (nI i)), (15, .int (nI (14 * i))), (16, .int (nI v)), (17, .int 1)]) F.1 F.2.1 dL_law_2092 hl (by decide) rfl (fun ls hl => ?_)
    refine lv_aload_n F.1 F.2.1 dL_law_2094 rfl (lv_at hl 6 rfl) ?_
    refine lv_bipush (v := 14) F.1 F.2.1 dL_law_2095 (by decide) ?_
    refine lv_aload F.1 F.2.1 dL_law_2097 (lv_at hl 9 rfl) ?_
    refine lv_iload F.1 F.2.1 dL_law_2099 (lv_at hl 20 rfl) ?_
    refine l_ild F w hL 5 rfl v (show v < 50 by omega) dL_law_2101 ?_
    refine lv_iconst (v := 3) F.1 F.2.1 dL_law_2102 (by decide) ?_
    refine lv_iand F.1 F.2.1 dL_law_2103 ?_
    refine lv_fold (y := nI s9) (e5) ?_
    refine lv_imul F.1 F.2.1 dL_law_2104 ?_
    refine lv_fold (y := nI (14 * s9)) (pk_mul 14 s9) ?_
    refine lv_bipush (v := 7) F.1 F.2.1 dL_law_2105 (by decide) ?_
    refine lv_iadd F.1 F.2.1 dL_law_2107 ?_
    refine lv_fold (y := nI ((14 * s9) + 7)) (nI_add (14 * s9) 7) ?_
    refine l_ild F w hL 2 rfl ((14 * s9) + 7) (show (14 * s9) + 7 < 56 by omega) dL_law_2108 ?_
    refine lv_iload F.1 F.2.1 dL_law_2109 (lv_at hl 20 rfl) ?_
    refine lv_icmp_ne (tgt := 2145) F.1 F.2.1 dL_law_2111 (by decide) (fun c_2 => ?_) (fun c_2 => ?_)
    · refine lv_iconst (v := 0) F.1 F.2.1 dL_law_2145 (by decide) ?_
      refine lv_istore (lv' := [(34, .int 0), (33, .int (nI (gnF M v))), (32, .int (nI (1 + q2078))), (31, .int (nI q2062)), (30, .int (nI k)), (0, .ref b), (1, .ref o), (2, .ref (ad 2)), (3, .ref (ad 3)), (4, .ref (ad 4)), (5, .ref (ad 5)), (6, .ref (ad 6)), (7, .ref (ad 7)), (8, .ref (ad 8)), (9, .ref (ad 9)), (10, .ref (ad 10)), (11, .int (nI t)), (12, .int v12), (13, .int u), (14, .int (nI i)), (15, .int (nI (14 * i))), (16, .int (nI v)), (17, .int 1)]) F.1 F.2.1 dL_law_2146 hl (by decide) rfl (fun ls hl => ?_)
      refine lv_iload F.1 F.2.1 dL_law_2148 (lv_at hl 22 rfl) ?_
      refine lv_aload_n F.1 F.2.1 dL_law_2150 rfl (lv_at hl 6 rfl) ?_
      refine lv_iload F.1 F.2.1 dL_law_2151 (lv_at hl 21 rfl) ?_
      refine lv_iload F.1 F.2.1 dL_law_2153 (lv_at hl 3 rfl) ?_
      refine lv_iload F.1 F.2.1 dL_law_2155 (lv_at hl 2 rfl) ?_
      refine lw_finds (rest := [.int 1]) F w hd hM ho hR.r.ic (nI v) (nI q2062) (nI (1 + q2078)) (fun s9 hs9 => hR.r.gn (by omega) hs9) hlf dL_law_2157 hl.1 ⟨by omega, by omega⟩ (Nat.le_of_ble_eq_true rfl) ⟨by omega, by omega⟩ (fun v2157 X AD H locs hv2157 ho hd hM w => ?_)
      have hL := hY.un hd
      refine lv_fold (y := (-7300)) (hv2157.trans ((fd_no hR hv hs9 e30 hq2062 (w := 1 + q2078) (by omega) (by omega) (Or.inl c_2)).1)) ?_
      refine lv_iload F.1 F.2.1 dL_law_2160 (lv_at hl 0 rfl) ?_
      refine lv_if_eq (tgt := 2170) F.1 F.2.1 dL_law_2162 (by decide) (fun c_3 => ?_) (fun c_3 => absurd rfl c_3)
      refine lv_sipush (v := -7300) F.1 F.2.1 dL_law_2170 (by decide) ?_
      refine lv_icmp_ne (tgt := 2180) F.1 F.2.1 dL_law_2173 (by decide) (fun c_4 => absurd rfl c_4) (fun c_4 => ?_)
      refine lv_iconst (v := 1) F.1 F.2.1 dL_law_2176 (by decide) ?_
      refine lv_goto (tgt := 2181) F.1 F.2.1 dL_law_2177 (by decide) ?_
      refine lv_iand F.1 F.2.1 dL_law_2181 ?_
      refine lv_fold (y := 1) (by decide) ?_
      refine lv_istore (lv' := [(17, .int 1), (34, .int 0), (33, .int (nI (gnF M v))), (32, .int (nI (1 + q2078))), (31, .int (nI q2062)), (30, .int (nI k)), (0, .ref b), (1, .ref o), (2, .ref (ad 2)), (3, .ref (ad 3)), (4, .ref (ad 4)), (5, .ref (ad 5)), (6, .ref (ad 6)), (7, .ref (ad 7)), (8, .ref (ad 8)), (9, .ref (ad 9)), (10, .ref (ad 10)), (11, .int (nI t)), (12, .int v12), (13, .int u), (14, .int (nI i)), (15, .int (nI (14 * i))), (16, .int (nI v))]) F.1 F.2.1 dL_law_2182 hl (by decide) rfl (fun ls hl => ?_)
      refine lv_iload F.1 F.2.1 dL_law_2184 (lv_at hl 1 rfl) ?_
      refine lv_if_ne (tgt := 2192) F.1 F.2.1 dL_law_2186 (by decide) (fun c_5 => absurd rfl c_5) (fun c_5 => ?_)
      refine lv_goto (tgt := 2247) F.1 F.2.1 dL_law_2189 (by decide) ?_
      refine lv_iinc (v := nI (k + 1)) (lv' := [(30, .int (nI (k + 1))), (17, .int 1), (34, .int 0), (33, .int (nI (gnF M v))), (32, .int (nI (1 + q2078))), (31, .int (nI q2062)), (0, .ref b), (1, .ref o), (2, .ref (ad 2)), (3, .ref (ad 3)), (4, .ref (ad 4)), (5, .ref (ad 5)), (6, .ref (ad 6)), (7, .ref (ad 7)), (8, .ref (ad 8)), (9, .ref (ad 9)), (10, .ref (ad 10)), (11, .int (nI t)), (12, .int v12), (13, .int u), (14, .int (nI i)), (15, .int (nI (14 * i))), (16, .int (nI v))]) F.1 F.2.1 dL_law_2247 hl (k := 5) rfl (nI_1 _) (by decide) rfl (fun ls hl => ?_)
      refine lv_goto (tgt := 2043) F.1 F.2.1 dL_law_2250 (by decide) ?_
      rw [(fd_no hR hv hs9 e30 hq2062 (w := 1 + q2078) (by omega) (by omega) (Or.inl c_2)).2] at hM
      exact KN hR hv hk4 ⟨by omega, by omega⟩ (by omega) ho hd hM hY w (lv_sub hl [0, 6, 7, 8, 9, 10, 11, 12, 13, 14, 15, 16, 17, 18, 19, 20, 21, 22, 1] rfl)
    · refine lv_aload F.1 F.2.1 dL_law_2114 (lv_at hl 9 rfl) ?_
      refine lv_iload F.1 F.2.1 dL_law_2116 (lv_at hl 20 rfl) ?_
      refine l_ild F w hL 5 rfl v (show v < 50 by omega) dL_law_2118 ?_
      refine lv_iconst (v := 3) F.1 F.2.1 dL_law_2119 (by decide) ?_
      refine lv_iand F.1 F.2.1 dL_law_2120 ?_
      refine lv_fold (y := nI s9) (e5) ?_
      refine lv_iload F.1 F.2.1 dL_law_2121 (lv_at hl 2 rfl) ?_
      refine lv_aload_n F.1 F.2.1 dL_law_2123 rfl (lv_at hl 6 rfl) ?_
      refine lv_aload F.1 F.2.1 dL_law_2124 (lv_at hl 8 rfl) ?_
      refine lv_aload F.1 F.2.1 dL_law_2126 (lv_at hl 14 rfl) ?_
      refine q_rS (rest := []) F w kS_L_142 hd_L_ground (c_L_ground l D cy A _ ad S Wf hL s9 (nI q2062) (show s9 < 4 by omega) hR.hR) dL_law_2128 rfl rfl hl.1 ⟨rfl, rfl, (show 1 ≤ R.frames by omega), (show 27 ≤ R.locals by omega)⟩ (Nat.le_of_ble_eq_true rfl) ⟨by omega, by omega⟩ ?_
      refine lv_if_eq (tgt := 2145) F.1 F.2.1 dL_law_2131 (by decide) (fun c_6 => ?_) (fun c_6 => ?_)
      · refine lv_iconst (v := 0) F.1 F.2.1 dL_law_2145 (by decide) ?_
        refine lv_istore (lv' := [(34, .int 0), (33, .int (nI (gnF M v))), (32, .int (nI (1 + q2078))), (31, .int (nI q2062)), (30, .int (nI k)), (0, .ref b), (1, .ref o), (2, .ref (ad 2)), (3, .ref (ad 3)), (4, .ref (ad 4)), (5, .ref (ad 5)), (6, .ref (ad 6)), (7, .ref (ad 7)), (8, .ref (ad 8)), (9, .ref (ad 9)), (10, .ref (ad 10)), (11, .int (nI t)), (12, .int v12), (13, .int u), (14, .int (nI i)), (15, .int (nI (14 * i))), (16, .int (nI v)), (17, .int 1)]) F.1 F.2.1 dL_law_2146 hl (by decide) rfl (fun ls hl => ?_)
        refine lv_iload F.1 F.2.1 dL_law_2148 (lv_at hl 22 rfl) ?_
        refine lv_aload_n F.1 F.2.1 dL_law_2150 rfl (lv_at hl 6 rfl) ?_
        refine lv_iload F.1 F.2.1 dL_law_2151 (lv_at hl 21 rfl) ?_
        refine lv_iload F.1 F.2.1 dL_law_2153 (lv_at hl 3 rfl) ?_
        refine lv_iload F.1 F.2.1 dL_law_2155 (lv_at hl 2 rfl) ?_
        refine lw_finds (rest := [.int 1]) F w hd hM ho hR.r.ic (nI v) (nI q2062) (nI (1 + q2078)) (fun s9 hs9 => hR.r.gn (by omega) hs9) hlf dL_law_2157 hl.1 ⟨by omega, by omega⟩ (Nat.le_of_ble_eq_true rfl) ⟨by omega, by omega⟩ (fun v2157 X AD H locs hv2157 ho hd hM w => ?_)
        have hL := hY.un hd
        refine lv_fold (y := (-7300)) (hv2157.trans ((fd_no hR hv hs9 e30 hq2062 (w := 1 + q2078) (by omega) (by omega) (Or.inr (Or.inl c_6))).1)) ?_
        refine lv_iload F.1 F.2.1 dL_law_2160 (lv_at hl 0 rfl) ?_
        refine lv_if_eq (tgt := 2170) F.1 F.2.1 dL_law_2162 (by decide) (fun c_7 => ?_) (fun c_7 => absurd rfl c_7)
        refine lv_sipush (v := -7300) F.1 F.2.1 dL_law_2170 (by decide) ?_
        refine lv_icmp_ne (tgt := 2180) F.1 F.2.1 dL_law_2173 (by decide) (fun c_8 => absurd rfl c_8) (fun c_8 => ?_)
        refine lv_iconst (v := 1) F.1 F.2.1 dL_law_2176 (by decide) ?_
        refine lv_goto (tgt := 2181) F.1 F.2.1 dL_law_2177 (by decide) ?_
        refine lv_iand F.1 F.2.1 dL_law_2181 ?_
        refine lv_fold (y := 1) (by decide) ?_
        refine lv_istore (lv' := [(17, .int 1), (34, .int 0), (33, .int (nI (gnF M v))), (32, .int (nI (1 + q2078))), (31, .int (nI q2062)), (30, .int (nI k)), (0, .ref b), (1, .ref o), (2, .ref (ad 2)), (3, .ref (ad 3)), (4, .ref (ad 4)), (5, .ref (ad 5)), (6, .ref (ad 6)), (7, .ref (ad 7)), (8, .ref (ad 8)), (9, .ref (ad 9)), (10, .ref (ad 10)), (11, .int (nI t)), (12, .int v12), (13, .int u), (14, .int (nI i)), (15, .int (nI (14 * i))), (16, .int (nI v))]) F.1 F.2.1 dL_law_2182 hl (by decide) rfl (fun ls hl => ?_)
        refine lv_iload F.1 F.2.1 dL_law_2184 (lv_at hl 1 rfl) ?_
        refine lv_if_ne (tgt := 2192) F.1 F.2.1 dL_law_2186 (by decide) (fun c_9 => absurd rfl c_9) (fun c_9 => ?_)
        refine lv_goto (tgt := 2247) F.1 F.2.1 dL_law_2189 (by decide) ?_
        refine lv_iinc (v := nI (k + 1)) (lv' := [(30, .int (nI (k + 1))), (17, .int 1), (34, .int 0), (33, .int (nI (gnF M v))), (32, .int (nI (1 + q2078))), (31, .int (nI q2062)), (0, .ref b), (1, .ref o), (2, .ref (ad 2)), (3, .ref (ad 3)), (4, .ref (ad 4)), (5, .ref (ad 5)), (6, .ref (ad 6)), (7, .ref (ad 7)), (8, .ref (ad 8)), (9, .ref (ad 9)), (10, .ref (ad 10)), (11, .int (nI t)), (12, .int v12), (13, .int u), (14, .int (nI i)), (15, .int (nI (14 * i))), (16, .int (nI v))]) F.1 F.2.1 dL_law_2247 hl (k := 5) rfl (nI_1 _) (by decide) rfl (fun ls hl => ?_)
        refine lv_goto (tgt := 2043) F.1 F.2.1 dL_law_2250 (by decide) ?_
        rw [(fd_no hR hv hs9 e30 hq2062 (w := 1 + q2078) (by omega) (by omega) (Or.inr (Or.inl c_6))).2] at hM
        exact KN hR hv hk4 ⟨by omega, by omega⟩ (by omega) ho hd hM hY w (lv_sub hl [0, 6, 7, 8, 9, 10, 11, 12, 13, 14, 15, 16, 17, 18, 19, 20, 21, 22, 1] rfl)
      · refine lv_iload F.1 F.2.1 dL_law_2134 (lv_at hl 0 rfl) ?_
        refine lv_bipush (v := 12) F.1 F.2.1 dL_law_2136 (by decide) ?_
        refine lv_icmp_ge (tgt := 2145) F.1 F.2.1 dL_law_2138 (by decide) (fun c_10 => ?_) (fun c_10 => ?_)
        · refine lv_iconst (v := 0) F.1 F.2.1 dL_law_2145 (by decide) ?_
          refine lv_istore (lv' := [(34, .int 0), (33, .int (nI (gnF M v))), (32, .int (nI (1 + q2078))), (31, .int (nI q2062)), (30, .int (nI k)), (0, .ref b), (1, .ref o), (2, .ref (ad 2)), (3, .ref (ad 3)), (4, .ref (ad 4)), (5, .ref (ad 5)), (6, .ref (ad 6)), (7, .ref (ad 7)), (8, .ref (ad 8)), (9, .ref (ad 9)), (10, .ref (ad 10)), (11, .int (nI t)), (12, .int v12), (13, .int u), (14, .int (nI i)), (15, .int (nI (14 * i))), (16, .int (nI v)), (17, .int 1)]) F.1 F.2.1 dL_law_2146 hl (by decide) rfl (fun ls hl => ?_)
          refine lv_iload F.1 F.2.1 dL_law_2148 (lv_at hl 22 rfl) ?_
          refine lv_aload_n F.1 F.2.1 dL_law_2150 rfl (lv_at hl 6 rfl) ?_
          refine lv_iload F.1 F.2.1 dL_law_2151 (lv_at hl 21 rfl) ?_
          refine lv_iload F.1 F.2.1 dL_law_2153 (lv_at hl 3 rfl) ?_
          refine lv_iload F.1 F.2.1 dL_law_2155 (lv_at hl 2 rfl) ?_
          refine lw_finds (rest := [.int 1]) F w hd hM ho hR.r.ic (nI v) (nI q2062) (nI (1 + q2078)) (fun s9 hs9 => hR.r.gn (by omega) hs9) hlf dL_law_2157 hl.1 ⟨by omega, by omega⟩ (Nat.le_of_ble_eq_true rfl) ⟨by omega, by omega⟩ (fun v2157 X AD H locs hv2157 ho hd hM w => ?_)
          have hL := hY.un hd
          refine lv_fold (y := (-7300)) (hv2157.trans ((fd_no hR hv hs9 e30 hq2062 (w := 1 + q2078) (by omega) (by omega) (Or.inr (Or.inr c_10))).1)) ?_
          refine lv_iload F.1 F.2.1 dL_law_2160 (lv_at hl 0 rfl) ?_
          refine lv_if_eq (tgt := 2170) F.1 F.2.1 dL_law_2162 (by decide) (fun c_11 => ?_) (fun c_11 => absurd rfl c_11)
          refine lv_sipush (v := -7300) F.1 F.2.1 dL_law_2170 (by decide) ?_
          refine lv_icmp_ne (tgt := 2180) F.1 F.2.1 dL_law_2173 (by decide) (fun c_12 => absurd rfl c_12) (fun c_12 => ?_)
          refine lv_iconst (v := 1) F.1 F.2.1 dL_law_2176 (by decide) ?_
          refine lv_goto (tgt := 2181) F.1 F.2.1 dL_law_2177 (by decide) ?_
          refine lv_iand F.1 F.2.1 dL_law_2181 ?_
          refine lv_fold (y := 1) (by decide) ?_
          refine lv_istore (lv' := [(17, .int 1), (34, .int 0), (33, .int (nI (gnF M v))), (32, .int (nI (1 + q2078))), (31, .int (nI q2062)), (30, .int (nI k)), (0, .ref b), (1, .ref o), (2, .ref (ad 2)), (3, .ref (ad 3)), (4, .ref (ad 4)), (5, .ref (ad 5)), (6, .ref (ad 6)), (7, .ref (ad 7)), (8, .ref (ad 8)), (9, .ref (ad 9)), (10, .ref (ad 10)), (11, .int (nI t)), (12, .int v12), (13, .int u), (14, .int (nI i)), (15, .int (nI (14 * i))), (16, .int (nI v))]) F.1 F.2.1 dL_law_2182 hl (by decide) rfl (fun ls hl => ?_)
          refine lv_iload F.1 F.2.1 dL_law_2184 (lv_at hl 1 rfl) ?_
          refine lv_if_ne (tgt := 2192) F.1 F.2.1 dL_law_2186 (by decide) (fun c_13 => absurd rfl c_13) (fun c_13 => ?_)
          refine lv_goto (tgt := 2247) F.1 F.2.1 dL_law_2189 (by decide) ?_
          refine lv_iinc (v := nI (k + 1)) (lv' := [(30, .int (nI (k + 1))), (17, .int 1), (34, .int 0), (33, .int (nI (gnF M v))), (32, .int (nI (1 + q2078))), (31, .int (nI q2062)), (0, .ref b), (1, .ref o), (2, .ref (ad 2)), (3, .ref (ad 3)), (4, .ref (ad 4)), (5, .ref (ad 5)), (6, .ref (ad 6)), (7, .ref (ad 7)), (8, .ref (ad 8)), (9, .ref (ad 9)), (10, .ref (ad 10)), (11, .int (nI t)), (12, .int v12), (13, .int u), (14, .int (nI i)), (15, .int (nI (14 * i))), (16, .int (nI v))]) F.1 F.2.1 dL_law_2247 hl (k := 5) rfl (nI_1 _) (by decide) rfl (fun ls hl => ?_)
          refine lv_goto (tgt := 2043) F.1 F.2.1 dL_law_2250 (by decide) ?_
          rw [(fd_no hR hv hs9 e30 hq2062 (w := 1 + q2078) (by omega) (by omega) (Or.inr (Or.inr c_10))).2] at hM
          exact KN hR hv hk4 ⟨by omega, by omega⟩ (by omega) ho hd hM hY w (lv_sub hl [0, 6, 7, 8, 9, 10, 11, 12, 13, 14, 15, 16, 17, 18, 19, 20, 21, 22, 1] rfl)
        · refine lv_iconst (v := 1) F.1 F.2.1 dL_law_2141 (by decide) ?_
          refine lv_goto (tgt := 2146) F.1 F.2.1 dL_law_2142 (by decide) ?_
          refine lv_istore (lv' := [(34, .int 1), (33, .int (nI (gnF M v))), (32, .int (nI (1 + q2078))), (31, .int (nI q2062)), (30, .int (nI k)), (0, .ref b), (1, .ref o), (2, .ref (ad 2)), (3, .ref (ad 3)), (4, .ref (ad 4)), (5, .ref (ad 5)), (6, .ref (ad 6)), (7, .ref (ad 7)), (8, .ref (ad 8)), (9, .ref (ad 9)), (10, .ref (ad 10)), (11, .int (nI t)), (12, .int v12), (13, .int u), (14, .int (nI i)), (15, .int (nI (14 * i))), (16, .int (nI v)), (17, .int 1)]) F.1 F.2.1 dL_law_2146 hl (by decide) rfl (fun ls hl => ?_)
          refine lv_iload F.1 F.2.1 dL_law_2148 (lv_at hl 22 rfl) ?_
          refine lv_aload_n F.1 F.2.1 dL_law_2150 rfl (lv_at hl 6 rfl) ?_
          refine lv_iload F.1 F.2.1 dL_law_2151 (lv_at hl 21 rfl) ?_
          refine lv_iload F.1 F.2.1 dL_law_2153 (lv_at hl 3 rfl) ?_
          refine lv_iload F.1 F.2.1 dL_law_2155 (lv_at hl 2 rfl) ?_
          refine lw_finds (rest := [.int 1]) F w hd hM ho hR.r.ic (nI v) (nI q2062) (nI (1 + q2078)) (fun s9 hs9 => hR.r.gn (by omega) hs9) hlf dL_law_2157 hl.1 ⟨by omega, by omega⟩ (Nat.le_of_ble_eq_true rfl) ⟨by omega, by omega⟩ (fun v2157 X AD H locs hv2157 ho hd hM w => ?_)
          have hL := hY.un hd
          refine lv_fold (y := nI (gnF M v)) (hv2157.trans ((fd_ok hR (by omega) hv hs9 e30 hq2062 (w := 1 + q2078) (by omega) (by omega) c_2 c_6 c_10).2.1)) ?_
          refine lv_iload F.1 F.2.1 dL_law_2160 (lv_at hl 0 rfl) ?_
          refine lv_if_eq (tgt := 2170) F.1 F.2.1 dL_law_2162 (by decide) (fun c_14 => absurd c_14 (by decide)) (fun c_14 => ?_)
          refine lv_iload F.1 F.2.1 dL_law_2165 (lv_at hl 1 rfl) ?_
          refine lv_goto (tgt := 2173) F.1 F.2.1 dL_law_2167 (by decide) ?_
          refine lv_icmp_ne (tgt := 2180) F.1 F.2.1 dL_law_2173 (by decide) (fun c_15 => absurd rfl c_15) (fun c_15 => ?_)
          refine lv_iconst (v := 1) F.1 F.2.1 dL_law_2176 (by decide) ?_
          refine lv_goto (tgt := 2181) F.1 F.2.1 dL_law_2177 (by decide) ?_
          refine lv_iand F.1 F.2.1 dL_law_2181 ?_
          refine lv_fold (y := 1) (by decide) ?_
          refine lv_istore (lv' := [(17, .int 1), (34, .int 1), (33, .int (nI (gnF M v))), (32, .int (nI (1 + q2078))), (31, .int (nI q2062)), (30, .int (nI k)), (0, .ref b), (1, .ref o), (2, .ref (ad 2)), (3, .ref (ad 3)), (4, .ref (ad 4)), (5, .ref (ad 5)), (6, .ref (ad 6)), (7, .ref (ad 7)), (8, .ref (ad 8)), (9, .ref (ad 9)), (10, .ref (ad 10)), (11, .int (nI t)), (12, .int v12), (13, .int u), (14, .int (nI i)), (15, .int (nI (14 * i))), (16, .int (nI v))]) F.1 F.2.1 dL_law_2182 hl (by decide) rfl (fun ls hl => ?_)
          refine lv_iload F.1 F.2.1 dL_law_2184 (lv_at hl 1 rfl) ?_
          refine lv_if_ne (tgt := 2192) F.1 F.2.1 dL_law_2186 (by decide) (fun c_16 => ?_) (fun c_16 => absurd c_16 (by decide))
          refine lv_aload F.1 F.2.1 dL_law_2192 (lv_at hl 11 rfl) ?_
          refine lv_iload F.1 F.2.1 dL_law_2194 (lv_at hl 22 rfl) ?_
          refine lv_dup2_11 F.1 F.2.1 dL_law_2196 rfl rfl ?_
          refine l_ild F w hL 5 rfl v (show v < 50 by omega) dL_law_2197 ?_
          refine lv_sipush (v := 512) F.1 F.2.1 dL_law_2198 (by decide) ?_
          refine lv_iadd F.1 F.2.1 dL_law_2201 ?_
          refine l_ist F w hd hY 5 rfl v (show v < 50 by omega) dL_law_2202 (fun H locs Y hd hY w => ?_)
          have hL := hY.un hd
          refine lv_aload F.1 F.2.1 dL_law_2203 (lv_at hl 15 rfl) ?_
          refine lv_iload F.1 F.2.1 dL_law_2205 (lv_at hl 22 rfl) ?_
          refine lv_dup2_11 F.1 F.2.1 dL_law_2207 rfl rfl ?_
          refine l_lld F w hL v (show v < 50 by omega) dL_law_2208 ?_
          refine lv_iload F.1 F.2.1 dL_law_2209 (lv_at hl 3 rfl) ?_
          refine lv_i2l (v := (nI (1 + q2078)).toInt64) F.1 F.2.1 dL_law_2211 rfl ?_
          refine lv_iconst (v := 4) F.1 F.2.1 dL_law_2212 (by decide) ?_
          refine lv_iload F.1 F.2.1 dL_law_2213 (lv_at hl 2 rfl) ?_
          refine lv_imul F.1 F.2.1 dL_law_2215 ?_
          refine lv_fold (y := nI (4 * (gnF M v))) (pk_mul 4 (gnF M v)) ?_
          refine lv_lshl (v := ((nI (1 + q2078)).toInt64) <<< ((nI (4 * (gnF M v))).toInt64 &&& 63)) F.1 F.2.1 dL_law_2216 rfl ?_
          refine lv_lor F.1 F.2.1 dL_law_2217 ?_
          refine l_lst F w hd hY v (show v < 50 by omega) dL_law_2218 (fun H locs Y hd hY w => ?_)
          have hL := hY.un hd
          refine lv_iload F.1 F.2.1 dL_law_2219 (lv_at hl 2 rfl) ?_
          refine lv_iconst (v := 2) F.1 F.2.1 dL_law_2221 (by decide) ?_
          refine lv_icmp_ne (tgt := 2247) F.1 F.2.1 dL_law_2222 (by decide) (fun c_17 => ?_) (fun c_17 => ?_)
          · refine lv_iinc (v := nI (k + 1)) (lv' := [(30, .int (nI (k + 1))), (17, .int 1), (34, .int 1), (33, .int (nI (gnF M v))), (32, .int (nI (1 + q2078))), (31, .int (nI q2062)), (0, .ref b), (1, .ref o), (2, .ref (ad 2)), (3, .ref (ad 3)), (4, .ref (ad 4)), (5, .ref (ad 5)), (6, .ref (ad 6)), (7, .ref (ad 7)), (8, .ref (ad 8)), (9, .ref (ad 9)), (10, .ref (ad 10)), (11, .int (nI t)), (12, .int v12), (13, .int u), (14, .int (nI i)), (15, .int (nI (14 * i))), (16, .int (nI v))]) F.1 F.2.1 dL_law_2247 hl (k := 5) rfl (nI_1 _) (by decide) rfl (fun ls hl => ?_)
            refine lv_goto (tgt := 2043) F.1 F.2.1 dL_law_2250 (by decide) ?_
            exact KN (fd_1 hR (by omega) hv hs9 e30 hq2062 (w := 1 + q2078) (by omega) (by omega) c_2 c_6 c_10 (Or.inl c_17)) hv hk4 ⟨by omega, by omega⟩ (by omega) ho hd hM hY w (lv_sub hl [0, 6, 7, 8, 9, 10, 11, 12, 13, 14, 15, 16, 17, 18, 19, 20, 21, 22, 1] rfl)
          · refine lv_aload F.1 F.2.1 dL_law_2225 (lv_at hl 11 rfl) ?_
            refine lv_iload F.1 F.2.1 dL_law_2227 (lv_at hl 22 rfl) ?_
            refine l_ild F w hL 5 rfl v (show v < 50 by omega) dL_law_2229 ?_
            refine lv_fold (y := (S 5 v) + 512) (up2_s) ?_
            refine lv_iconst (v := 4) F.1 F.2.1 dL_law_2230 (by decide) ?_
            refine lv_ishr F.1 F.2.1 dL_law_2231 ?_
            refine lv_iconst (v := 3) F.1 F.2.1 dL_law_2232 (by decide) ?_
            refine lv_iand F.1 F.2.1 dL_law_2233 ?_
            refine lv_if_ne (tgt := 2247) F.1 F.2.1 dL_law_2234 (by decide) (fun c_18 => ?_) (fun c_18 => ?_)
            · refine lv_iinc (v := nI (k + 1)) (lv' := [(30, .int (nI (k + 1))), (17, .int 1), (34, .int 1), (33, .int (nI (gnF M v))), (32, .int (nI (1 + q2078))), (31, .int (nI q2062)), (0, .ref b), (1, .ref o), (2, .ref (ad 2)), (3, .ref (ad 3)), (4, .ref (ad 4)), (5, .ref (ad 5)), (6, .ref (ad 6)), (7, .ref (ad 7)), (8, .ref (ad 8)), (9, .ref (ad 9)), (10, .ref (ad 10)), (11, .int (nI t)), (12, .int v12), (13, .int u), (14, .int (nI i)), (15, .int (nI (14 * i))), (16, .int (nI v))]) F.1 F.2.1 dL_law_2247 hl (k := 5) rfl (nI_1 _) (by decide) rfl (fun ls hl => ?_)
              refine lv_goto (tgt := 2043) F.1 F.2.1 dL_law_2250 (by decide) ?_
              exact KN (fd_1 hR (by omega) hv hs9 e30 hq2062 (w := 1 + q2078) (by omega) (by omega) c_2 c_6 c_10 (Or.inr c_18)) hv hk4 ⟨by omega, by omega⟩ (by omega) ho hd hM hY w (lv_sub hl [0, 6, 7, 8, 9, 10, 11, 12, 13, 14, 15, 16, 17, 18, 19, 20, 21, 22, 1] rfl)
            · refine lv_aload F.1 F.2.1 dL_law_2237 (lv_at hl 11 rfl) ?_
              refine lv_iload F.1 F.2.1 dL_law_2239 (lv_at hl 22 rfl) ?_
              refine lv_dup2_11 F.1 F.2.1 dL_law_2241 rfl rfl ?_
              refine l_ild F w hL 5 rfl v (show v < 50 by omega) dL_law_2242 ?_
              refine lv_fold (y := (S 5 v) + 512) (up2_s) ?_
              refine lv_bipush (v := 16) F.1 F.2.1 dL_law_2243 (by decide) ?_
              refine lv_ior F.1 F.2.1 dL_law_2245 ?_
              refine l_ist F w hd hY 5 rfl v (show v < 50 by omega) dL_law_2246 (fun H locs Y hd hY w => ?_)
              have hL := hY.un hd
              refine lv_iinc (v := nI (k + 1)) (lv' := [(30, .int (nI (k + 1))), (17, .int 1), (34, .int 1), (33, .int (nI (gnF M v))), (32, .int (nI (1 + q2078))), (31, .int (nI q2062)), (0, .ref b), (1, .ref o), (2, .ref (ad 2)), (3, .ref (ad 3)), (4, .ref (ad 4)), (5, .ref (ad 5)), (6, .ref (ad 6)), (7, .ref (ad 7)), (8, .ref (ad 8)), (9, .ref (ad 9)), (10, .ref (ad 10)), (11, .int (nI t)), (12, .int v12), (13, .int u), (14, .int (nI i)), (15, .int (nI (14 * i))), (16, .int (nI v))]) F.1 F.2.1 dL_law_2247 hl (k := 5) rfl (nI_1 _) (by decide) rfl (fun ls hl => ?_)
              refine lv_goto (tgt := 2043) F.1 F.2.1 dL_law_2250 (by decide) ?_
              exact KN (fd_2 hR (by omega) hv hs9 e30 hq2062 (w := 1 + q2078) (by omega) (by omega) c_2 c_6 c_10 c_17 c_18) hv hk4 ⟨by omega, by omega⟩ (by omega) ho hd hM hY w (lv_sub hl [0, 6, 7, 8, 9, 10, 11, 12, 13, 14, 15, 16, 17, 18, 19, 20, 21, 22, 1] rfl)
set_option maxHeartbeats 4000000 in
theorem lc_finds_l {p : Program} {l : Launch} {e : Env} {R : Room} {s : State} {m : MethodId} {args : Array Value} {below : List Frame} {meth : Method} {c : Code} {Q : State → Prop} {D : va_G} {cy : Nat → ClassId} {A : Nat → Prop} {o b t i v : Nat} {ad : Nat → Nat} {u v12 : Int32} {n n1 c1 s1 : Nat} {G M S : GS} {Wf : Nat → Int64} (F : CallFix p m c cL_law 40 s args BIG RL) (hlf : l.stackTraces = false) (hRm : 11 ≤ R.frames ∧ 278 ≤ R.locals ∧ c1 ≤ R.cells ∧ s1 ≤ R.slots) (h511 : n1 ≤ 511) (K : KJ p l e R s m args below meth c Q D cy A o b t ad u n1 c1 s1) (hR : R26 n G M S Wf) {k : Nat} (hk : k ≤ 4) (hv : v < gnV M) {X Y : MU} {AD : AM} {H : Heap} {locs : List Loc} {cells slots : Nat} (hf : cells + 4 * (4 - k) ≤ c1 ∧ slots + 2007 * (4 - k) ≤ s1) (hn : n + (4 - k) ≤ n1) (ho : AD 0 0 0 = o) (hd : dis X Y) (hM : RepC cy AD G X) (hY : RepL cy ad S Wf Y) (w : WW D cy A (un X Y) s H locs) {ls : Array Slot} (hl : lv_has ls 40 [(30, .int (nI k)), (0, .ref b), (1, .ref o), (2, .ref (ad 2)), (3, .ref (ad 3)), (4, .ref (ad 4)), (5, .ref (ad 5)), (6, .ref (ad 6)), (7, .ref (ad 7)), (8, .ref (ad 8)), (9, .ref (ad 9)), (10, .ref (ad 10)), (11, .int (nI t)), (12, .int v12), (13, .int u), (14, .int (nI i)), (15, .int (nI (14 * i))), (16, .int (nI v)), (17, .int 1)]) : W p l e R s m args below meth c H locs cells slots Q (F0 m 2043 ls []) := by
  have h : ∀ (d k : Nat), k + d = 4 → ∀ {n : Nat} {G M S : GS} {Wf : Nat → Int64} {X Y : MU} {AD : AM} {H : Heap} {locs : List Loc} {cells slots : Nat} {ls : Array Slot}, R26 n G M S Wf → v < gnV M → (cells + 4 * (4 - k) ≤ c1 ∧ slots + 2007 * (4 - k) ≤ s1) → n + (4 - k) ≤ n1 → AD 0 0 0 = o → dis X Y → RepC cy AD G X → RepL cy ad S Wf Y → WW D cy A (un X Y) s H locs → lv_has ls 40 [(30, .int (nI k)), (0, .ref b), (1, .ref o), (2, .ref (ad 2)), (3, .ref (ad 3)), (4, .ref (ad 4)), (5, .ref (ad 5)), (6, .ref (ad 6)), (7, .ref (ad 7)), (8, .ref (ad 8)), (9, .ref (ad 9)), (10, .ref (ad 10)), (11, .int (nI t)), (12, .int v12), (13, .int u), (14, .int (nI i)), (15, .int (nI (14 * i))), (16, .int (nI v)), (17, .int 1)] → W p l e R s m args below meth c H locs cells slots Q (F0 m 2043 ls []) := by
    intro d
    induction d with
    | zero =>
      intro k hk n G M S Wf X Y AD H locs cells slots ls hR hv hf hn ho hd hM hY w hl
      exact lc_finds_r F hlf hRm h511 K hR (by omega) hv (fun _ _ q => absurd q (by omega)) hf hn ho hd hM hY w hl
    | succ d ih =>
      intro k hk n G M S Wf X Y AD H locs cells slots ls hR hv hf hn ho hd hM hY w hl
      exact lc_finds_r F hlf hRm h511 K hR (by omega) hv (fun hR hv _ hf hn ho hd hM hY w hl => ih (k + 1) (by omega) hR hv hf hn ho hd hM hY w hl) hf hn ho hd hM hY w hl
  exact h (4 - k) k (by omega) hR hv hf hn ho hd hM hY w hl
set_option maxHeartbeats 4000000 in
set_option maxRecDepth 100000 in
theorem lc_finds {p : Program} {l : Launch} {e : Env} {R : Room} {s : State} {m : MethodId} {args : Array Value} {below : List Frame} {meth : Method} {c : Code} {Q : State → Prop} {D : va_G} {cy : Nat → ClassId} {A : Nat → Prop} {o b t i v : Nat} {ad : Nat → Nat} {u v12 : Int32} {n n1 c1 s1 : Nat} {G M S : GS} {Wf : Nat → Int64} (F : CallFix p m c cL_law 40 s args BIG RL) (hlf : l.stackTraces = false) (hRm : 11 ≤ R.frames ∧ 278 ≤ R.locals ∧ c1 ≤ R.cells ∧ s1 ≤ R.slots) (h511 : n1 ≤ 511) (K : KJ p l e R s m args below meth c Q D cy A o b t ad u n1 c1 s1) (hR : R26 n G M S Wf) (hi4 : i < 4) (hi0 : gnS M = 0 ∨ i < gnS M) (hv50 : v < 50) (hv0 : gnV M = 0 ∨ v < gnV M) {X Y : MU} {AD : AM} {H : Heap} {locs : List Loc} {cells slots : Nat} (hf : cells + 30 ≤ c1 ∧ slots + 9500 ≤ s1) (hn : n + 4 ≤ n1) (ho : AD 0 0 0 = o) (hd : dis X Y) (hM : RepC cy AD G X) (hY : RepL cy ad S Wf Y) (w : WW D cy A (un X Y) s H locs) {ls : Array Slot} (hl : lv_has ls 40 [(0, .ref b), (1, .ref o), (2, .ref (ad 2)), (3, .ref (ad 3)), (4, .ref (ad 4)), (5, .ref (ad 5)), (6, .ref (ad 6)), (7, .ref (ad 7)), (8, .ref (ad 8)), (9, .ref (ad 9)), (10, .ref (ad 10)), (11, .int (nI t)), (12, .int v12), (13, .int u), (14, .int (nI i)), (15, .int (nI (14 * i))), (16, .int (nI v)), (17, .int 1)]) : W p l e R s m args below meth c H locs cells slots Q (F0 m 2030 ls []) := by
  have hL := hY.un hd
  obtain ⟨t9, ht9, ht⟩ := hR.td
  have hb4 := hR.b
  have heV := hR.eV
  refine lv_aload F.1 F.2.1 dL_law_2030 (lv_at hl 10 rfl) ?_
  refine lv_iconst (v := 2) F.1 F.2.1 dL_law_2032 (by decide) ?_
  refine l_ild F w hL 10 rfl 2 (show 2 < 9 by omega) dL_law_2033 ?_
  refine lv_if_ne (tgt := 2040) F.1 F.2.1 dL_law_2034 (by decide) (fun c_1 => ?_) (fun c_1 => ?_)
  · have hv := vi_ok hR hv0 c_1
    refine lv_iconst (v := 0) F.1 F.2.1 dL_law_2040 (by decide) ?_
    refine lv_istore (lv' := [(30, .int 0), (0, .ref b), (1, .ref o), (2, .ref (ad 2)), (3, .ref (ad 3)), (4, .ref (ad 4)), (5, .ref (ad 5)), (6, .ref (ad 6)), (7, .ref (ad 7)), (8, .ref (ad 8)), (9, .ref (ad 9)), (10, .ref (ad 10)), (11, .int (nI t)), (12, .int v12), (13, .int u), (14, .int (nI i)), (15, .int (nI (14 * i))), (16, .int (nI v)), (17, .int 1)]) F.1 F.2.1 dL_law_2041 hl (by decide) rfl (fun ls hl => ?_)
    exact lc_finds_l F hlf hRm h511 K hR (k := 0) (by omega) hv ⟨by omega, by omega⟩ (by omega) ho hd hM hY w (lv_sub hl [0, 1, 2, 3, 4, 5, 6, 7, 8, 9, 10, 11, 12, 13, 14, 15, 16, 17, 18] rfl)
  · refine lv_goto (tgt := 3461) F.1 F.2.1 dL_law_2037 (by decide) ?_
    refine W.widen (k := c1) (n := s1) (by omega) (by omega) ?_
    exact K _ _ ls ⟨X, Y, AD, _, _, _, _, ho, hd, hM, hY, w, R26.ups hR (by omega)⟩ (lv_sub hl [17, 0, 1, 2, 3, 4, 5, 6, 7, 8, 9, 10, 11, 13] rfl)
set_option maxHeartbeats 4000000 in
set_option maxRecDepth 100000 in
theorem lc_mends_r {p : Program} {l : Launch} {e : Env} {R : Room} {s : State} {m : MethodId} {args : Array Value} {below : List Frame} {meth : Method} {c : Code} {Q : State → Prop} {D : va_G} {cy : Nat → ClassId} {A : Nat → Prop} {o b t i v : Nat} {ad : Nat → Nat} {u v12 : Int32} {n n1 c1 s1 : Nat} {G M S : GS} {Wf : Nat → Int64} {k : Nat} (F : CallFix p m c cL_law 40 s args BIG RL) (hlf : l.stackTraces = false) (hRm : 11 ≤ R.frames ∧ 278 ≤ R.locals ∧ c1 ≤ R.cells ∧ s1 ≤ R.slots) (h511 : n1 ≤ 511) (K : KJ p l e R s m args below meth c Q D cy A o b t ad u n1 c1 s1) (hR : R26 n G M S Wf) (hk : k ≤ 12) (hv : v < gnV M) (KN : ∀ {n : Nat} {G M S : GS} {Wf : Nat → Int64} {X Y : MU} {AD : AM} {H : Heap} {locs : List Loc} {cells slots : Nat} {ls : Array Slot}, R26 n G M S Wf → v < gnV M → k < 12 → (cells + (13 - (k + 1)) ≤ c1 ∧ slots + 6 * (13 - (k + 1)) ≤ s1) → n + 0 ≤ n1 → AD 0 0 0 = o → dis X Y → RepC cy AD G X → RepL cy ad S Wf Y → WW D cy A (un X Y) s H locs → lv_has ls 40 [(30, .int (nI (k + 1))), (0, .ref b), (1, .ref o), (2, .ref (ad 2)), (3, .ref (ad 3)), (4, .ref (ad 4)), (5, .ref (ad 5)), (6, .ref (ad 6)), (7, .ref (ad 7)), (8, .ref (ad 8)), (9, .ref (ad 9)), (10, .ref (ad 10)), (11, .int (nI t)), (12, .int v12), (13, .int u), (14, .int (nI i)), (15, .int (nI (14 * i))), (16, .int (nI v)), (17, .int 1)] → W p l e R s m args below meth c H locs cells slots Q (F0 m 2269 ls [])) {X Y : MU} {AD : AM} {H : Heap} {locs : List Loc} {cells slots : Nat} (hf : cells + (13 - k) ≤ c1 ∧ slots + 6 * (13 - k) ≤ s1) (hn : n + 0 ≤ n1) (ho : AD 0 0 0 = o) (hd : dis X Y) (hM : RepC cy AD G X) (hY : RepL cy ad S Wf Y) (w : WW D cy A (un X Y) s H locs) {ls : Array Slot} (hl : lv_has ls 40 [(30, .int (nI k)), (0, .ref b), (1, .ref o), (2, .ref (ad 2)), (3, .ref (ad 3)), (4, .ref (ad 4)), (5, .ref (ad 5)), (6, .ref (ad 6)), (7, .ref (ad 7)), (8, .ref (ad 8)), (9, .ref (ad 9)), (10, .ref (ad 10)), (11, .int (nI t)), (12, .int v12), (13, .int u), (14, .int (nI i)), (15, .int (nI (14 * i))), (16, .int (nI v)), (17, .int 1)]) : W p l e R s m args below meth c H locs cells slots Q (F0 m 2269 ls []) := by
  have hL := hY.un hd
  obtain ⟨t9, ht9, ht⟩ := hR.td
  have hb4 := hR.b
  have heV := hR.eV
  obtain ⟨s9, hs9, e30, e5⟩ := vi_s hR hv
  have hfc := (hR.fc hv).2
  refine lv_iload F.1 F.2.1 dL_law_2269 (lv_at hl 0 rfl) ?_
  refine lv_aload F.1 F.2.1 dL_law_2271 (lv_at hl 6 rfl) ?_
  refine lv_iload F.1 F.2.1 dL_law_2273 (lv_at hl 17 rfl) ?_
  refine l_ild F w hL 5 rfl v (show v < 50 by omega) dL_law_2275 ?_
  refine q_rS (rest := [.int (nI k)]) F w kS_L_112 hd_L_findings (c_L_findings l D cy A _ (S 5 v)) dL_law_2276 rfl rfl hl.1 ⟨rfl, rfl, (show 1 ≤ R.frames by omega), (show 20 ≤ R.locals by omega)⟩ (Nat.le_of_ble_eq_true rfl) ⟨by omega, by omega⟩ ?_
  refine lv_fold (y := nI (gnF M v)) ((vl_fnd hR hv).trans (hR.fc hv).1) ?_
  refine lv_icmp_ge (tgt := 2489) F.1 F.2.1 dL_law_2279 (by decide) (fun c_1 => ?_) (fun c_1 => ?_)
  · refine lv_iload F.1 F.2.1 dL_law_2489 (lv_at hl 18 rfl) ?_
    refine lv_aload_n F.1 F.2.1 dL_law_2491 rfl (lv_at hl 2 rfl) ?_
    refine lv_iload F.1 F.2.1 dL_law_2492 (lv_at hl 17 rfl) ?_
    refine lv_aload F.1 F.2.1 dL_law_2494 (lv_at hl 6 rfl) ?_
    refine lv_iload F.1 F.2.1 dL_law_2496 (lv_at hl 17 rfl) ?_
    refine l_ild F w hL 5 rfl v (show v < 50 by omega) dL_law_2498 ?_
    refine q_rS (rest := [.int (nI v), .ref o, .int 1]) F w kS_L_112 hd_L_findings (c_L_findings l D cy A _ (S 5 v)) dL_law_2499 rfl rfl hl.1 ⟨rfl, rfl, (show 1 ≤ R.frames by omega), (show 20 ≤ R.locals by omega)⟩ (Nat.le_of_ble_eq_true rfl) ⟨by omega, by omega⟩ ?_
    refine lv_fold (y := nI (gnF M v)) ((vl_fnd hR hv).trans (hR.fc hv).1) ?_
    refine lv_iconst (v := 0) F.1 F.2.1 dL_law_2502 (by decide) ?_
    refine lw_mends (rest := [.int 1]) F w hd hM ho hR.r.ic (nI v) (nI (gnF M v)) 0 (by decide) hlf dL_law_2503 hl.1 ⟨by omega, by omega⟩ (Nat.le_of_ble_eq_true rfl) ⟨by omega, by omega⟩ (fun v2503 X AD H locs hv2503 ho hd hM w => ?_)
    have hL := hY.un hd
    refine lv_fold (y := (-7100)) (hv2503.trans ((sp_mends_ix hR.r (gV9 hR hv)).1)) ?_
    refine lv_sipush (v := -7100) F.1 F.2.1 dL_law_2506 (by decide) ?_
    refine lv_icmp_ne (tgt := 2516) F.1 F.2.1 dL_law_2509 (by decide) (fun c_2 => absurd rfl c_2) (fun c_2 => ?_)
    refine lv_iconst (v := 1) F.1 F.2.1 dL_law_2512 (by decide) ?_
    refine lv_goto (tgt := 2517) F.1 F.2.1 dL_law_2513 (by decide) ?_
    refine lv_iand F.1 F.2.1 dL_law_2517 ?_
    refine lv_fold (y := 1) (by decide) ?_
    refine lv_istore (lv' := [(17, .int 1), (30, .int (nI k)), (0, .ref b), (1, .ref o), (2, .ref (ad 2)), (3, .ref (ad 3)), (4, .ref (ad 4)), (5, .ref (ad 5)), (6, .ref (ad 6)), (7, .ref (ad 7)), (8, .ref (ad 8)), (9, .ref (ad 9)), (10, .ref (ad 10)), (11, .int (nI t)), (12, .int v12), (13, .int u), (14, .int (nI i)), (15, .int (nI (14 * i))), (16, .int (nI v))]) F.1 F.2.1 dL_law_2518 hl (by decide) rfl (fun ls hl => ?_)
    refine lv_goto (tgt := 3461) F.1 F.2.1 dL_law_2520 (by decide) ?_
    rw [(sp_mends_ix hR.r (gV9 hR hv)).2] at hM
    refine W.widen (k := c1) (n := s1) (by omega) (by omega) ?_
    exact K _ _ ls ⟨X, Y, AD, _, _, _, _, ho, hd, hM, hY, w, R26.ups hR (by omega)⟩ (lv_sub hl [0, 2, 3, 4, 5, 6, 7, 8, 9, 10, 11, 12, 13, 15] rfl)
  · have hkf : k < gnF M v := Nat.lt_of_not_le (fun q => c_1 (nI_le q (by omega)))
    refine lv_iload F.1 F.2.1 dL_law_2282 (lv_at hl 14 rfl) ?_
    refine lv_iload F.1 F.2.1 dL_law_2284 (lv_at hl 0 rfl) ?_
    refine lv_iconst (v := 2) F.1 F.2.1 dL_law_2286 (by decide) ?_
    refine lv_iadd F.1 F.2.1 dL_law_2287 ?_
    refine lv_fold (y := nI (k + 2)) (nI_add k 2) ?_
    refine lv_ishr F.1 F.2.1 dL_law_2288 ?_
    refine lv_iconst (v := 3) F.1 F.2.1 dL_law_2289 (by decide) ?_
    obtain ⟨q2290, hq2290, eq2290⟩ := low_ok (u >>> ((nI (k + 2)) &&& 31)) (n := 3) (by omega) (by omega)
    refine q_rS (rest := []) F w kS_L_134 hd_L_low (c_L_low l D cy A _ (u >>> ((nI (k + 2)) &&& 31)) 3 (by decide)) dL_law_2290 rfl rfl hl.1 ⟨rfl, rfl, (show 1 ≤ R.frames by omega), (show 21 ≤ R.locals by omega)⟩ (Nat.le_of_ble_eq_true rfl) ⟨by omega, by omega⟩ ?_
    refine lv_fold (y := nI q2290) eq2290 ?_
    refine lv_if_ne (tgt := 2299) F.1 F.2.1 dL_law_2293 (by decide) (fun c_3 => ?_) (fun c_3 => ?_)
    · refine lv_iload F.1 F.2.1 dL_law_2299 (lv_at hl 14 rfl) ?_
      refine lv_iload F.1 F.2.1 dL_law_2301 (lv_at hl 0 rfl) ?_
      refine lv_ishr F.1 F.2.1 dL_law_2303 ?_
      refine lv_iconst (v := 4) F.1 F.2.1 dL_law_2304 (by decide) ?_
      obtain ⟨q2305, hq2305, eq2305⟩ := low_ok (u >>> ((nI k) &&& 31)) (n := 4) (by omega) (by omega)
      refine q_rS (rest := []) F w kS_L_134 hd_L_low (c_L_low l D cy A _ (u >>> ((nI k) &&& 31)) 4 (by decide)) dL_law_2305 rfl rfl hl.1 ⟨rfl, rfl, (show 1 ≤ R.frames by omega), (show 21 ≤ R.locals by omega)⟩ (Nat.le_of_ble_eq_true rfl) ⟨by omega, by omega⟩ ?_
      refine lv_fold (y := nI q2305) eq2305 ?_
      refine lv_if_ne (tgt := 2315) F.1 F.2.1 dL_law_2308 (by decide) (fun c_4 => ?_) (fun c_4 => ?_)
      · refine lv_iconst (v := 0) F.1 F.2.1 dL_law_2315 (by decide) ?_
        refine lv_istore (lv' := [(31, .int 0), (30, .int (nI k)), (0, .ref b), (1, .ref o), (2, .ref (ad 2)), (3, .ref (ad 3)), (4, .ref (ad 4)), (5, .ref (ad 5)), (6, .ref (ad 6)), (7, .ref (ad 7)), (8, .ref (ad 8)), (9, .ref (ad 9)), (10, .ref (ad 10)), (11, .int (nI t)), (12, .int v12), (13, .int u), (14, .int (nI i)), (15, .int (nI (14 * i))), (16, .int (nI v)), (17, .int 1)]) F.1 F.2.1 dL_law_2316 hl (by decide) rfl (fun ls hl => ?_)
        refine lv_aload F.1 F.2.1 dL_law_2318 (lv_at hl 10 rfl) ?_
        refine lv_iload F.1 F.2.1 dL_law_2320 (lv_at hl 18 rfl) ?_
        refine l_ild F w hL 8 rfl v (show v < 50 by omega) dL_law_2322 ?_
        refine lv_iconst (v := 2) F.1 F.2.1 dL_law_2323 (by decide) ?_
        refine lv_iload F.1 F.2.1 dL_law_2324 (lv_at hl 1 rfl) ?_
        refine lv_imul F.1 F.2.1 dL_law_2326 ?_
        refine lv_fold (y := nI (2 * k)) (pk_mul 2 k) ?_
        refine lv_ishr F.1 F.2.1 dL_law_2327 ?_
        refine lv_iconst (v := 3) F.1 F.2.1 dL_law_2328 (by decide) ?_
        refine lv_iand F.1 F.2.1 dL_law_2329 ?_
        refine lv_istore (lv' := [(32, .int (((S 8 v) >>> ((nI (2 * k)) &&& 31)) &&& 3)), (31, .int 0), (30, .int (nI k)), (0, .ref b), (1, .ref o), (2, .ref (ad 2)), (3, .ref (ad 3)), (4, .ref (ad 4)), (5, .ref (ad 5)), (6, .ref (ad 6)), (7, .ref (ad 7)), (8, .ref (ad 8)), (9, .ref (ad 9)), (10, .ref (ad 10)), (11, .int (nI t)), (12, .int v12), (13, .int u), (14, .int (nI i)), (15, .int (nI (14 * i))), (16, .int (nI v)), (17, .int 1)]) F.1 F.2.1 dL_law_2330 hl (by decide) rfl (fun ls hl => ?_)
        refine lv_iload F.1 F.2.1 dL_law_2332 (lv_at hl 0 rfl) ?_
        refine lv_iconst (v := 1) F.1 F.2.1 dL_law_2334 (by decide) ?_
        refine lv_icmp_eq (tgt := 2390) F.1 F.2.1 dL_law_2335 (by decide) (fun c_5 => ?_) (fun c_5 => ?_)
        · refine lv_iconst (v := 1) F.1 F.2.1 dL_law_2390 (by decide) ?_
          refine lv_goto (tgt := 2395) F.1 F.2.1 dL_law_2391 (by decide) ?_
          refine lv_istore (lv' := [(33, .int 1), (32, .int (((S 8 v) >>> ((nI (2 * k)) &&& 31)) &&& 3)), (31, .int 0), (30, .int (nI k)), (0, .ref b), (1, .ref o), (2, .ref (ad 2)), (3, .ref (ad 3)), (4, .ref (ad 4)), (5, .ref (ad 5)), (6, .ref (ad 6)), (7, .ref (ad 7)), (8, .ref (ad 8)), (9, .ref (ad 9)), (10, .ref (ad 10)), (11, .int (nI t)), (12, .int v12), (13, .int u), (14, .int (nI i)), (15, .int (nI (14 * i))), (16, .int (nI v)), (17, .int 1)]) F.1 F.2.1 dL_law_2395 hl (by decide) rfl (fun ls hl => ?_)
          refine lv_iload F.1 F.2.1 dL_law_2397 (lv_at hl 0 rfl) ?_
          refine lv_if_ne (tgt := 2437) F.1 F.2.1 dL_law_2399 (by decide) (fun c_6 => ?_) (fun c_6 => absurd c_6 (by decide))
          refine lv_iload F.1 F.2.1 dL_law_2437 (lv_at hl 21 rfl) ?_
          refine lv_aload_n F.1 F.2.1 dL_law_2439 rfl (lv_at hl 5 rfl) ?_
          refine lv_iload F.1 F.2.1 dL_law_2440 (lv_at hl 20 rfl) ?_
          refine lv_iload F.1 F.2.1 dL_law_2442 (lv_at hl 3 rfl) ?_
          refine lv_iload F.1 F.2.1 dL_law_2444 (lv_at hl 2 rfl) ?_
          refine lw_mends (rest := [.int 1]) F w hd hM ho hR.r.ic (nI v) (nI k) 0 (by decide) hlf dL_law_2446 hl.1 ⟨by omega, by omega⟩ (Nat.le_of_ble_eq_true rfl) ⟨by omega, by omega⟩ (fun v2446 X AD H locs hv2446 ho hd hM w => ?_)
          have hL := hY.un hd
          refine lv_fold (y := (-7300)) (hv2446.trans ((md_no hR hv hs9 e30 hkf (x := 0) (Or.inl c_5)).1)) ?_
          refine lv_iload F.1 F.2.1 dL_law_2449 (lv_at hl 0 rfl) ?_
          refine lv_if_eq (tgt := 2460) F.1 F.2.1 dL_law_2451 (by decide) (fun c_7 => absurd c_7 (by decide)) (fun c_7 => ?_)
          refine lv_sipush (v := -7300) F.1 F.2.1 dL_law_2454 (by decide) ?_
          refine lv_goto (tgt := 2472) F.1 F.2.1 dL_law_2457 (by decide) ?_
          refine lv_icmp_ne (tgt := 2479) F.1 F.2.1 dL_law_2472 (by decide) (fun c_8 => absurd rfl c_8) (fun c_8 => ?_)
          refine lv_iconst (v := 1) F.1 F.2.1 dL_law_2475 (by decide) ?_
          refine lv_goto (tgt := 2480) F.1 F.2.1 dL_law_2476 (by decide) ?_
          refine lv_iand F.1 F.2.1 dL_law_2480 ?_
          refine lv_fold (y := 1) (by decide) ?_
          refine lv_istore (lv' := [(17, .int 1), (33, .int 1), (32, .int (((S 8 v) >>> ((nI (2 * k)) &&& 31)) &&& 3)), (31, .int 0), (30, .int (nI k)), (0, .ref b), (1, .ref o), (2, .ref (ad 2)), (3, .ref (ad 3)), (4, .ref (ad 4)), (5, .ref (ad 5)), (6, .ref (ad 6)), (7, .ref (ad 7)), (8, .ref (ad 8)), (9, .ref (ad 9)), (10, .ref (ad 10)), (11, .int (nI t)), (12, .int v12), (13, .int u), (14, .int (nI i)), (15, .int (nI (14 * i))), (16, .int (nI v))]) F.1 F.2.1 dL_law_2481 hl (by decide) rfl (fun ls hl => ?_)
          refine lv_iinc (v := nI (k + 1)) (lv' := [(30, .int (nI (k + 1))), (17, .int 1), (33, .int 1), (32, .int (((S 8 v) >>> ((nI (2 * k)) &&& 31)) &&& 3)), (31, .int 0), (0, .ref b), (1, .ref o), (2, .ref (ad 2)), (3, .ref (ad 3)), (4, .ref (ad 4)), (5, .ref (ad 5)), (6, .ref (ad 6)), (7, .ref (ad 7)), (8, .ref (ad 8)), (9, .ref (ad 9)), (10, .ref (ad 10)), (11, .int (nI t)), (12, .int v12), (13, .int u), (14, .int (nI i)), (15, .int (nI (14 * i))), (16, .int (nI v))]) F.1 F.2.1 dL_law_2483 hl (k := 4) rfl (nI_1 _) (by decide) rfl (fun ls hl => ?_)
          refine lv_goto (tgt := 2269) F.1 F.2.1 dL_law_2486 (by decide) ?_
          rw [(md_no hR hv hs9 e30 hkf (x := 0) (Or.inl c_5)).2] at hM
          exact KN hR hv (by omega) ⟨by omega, by omega⟩ (by omega) ho hd hM hY w (lv_sub hl [0, 5, 6, 7, 8, 9, 10, 11, 12, 13, 14, 15, 16, 17, 18, 19, 20, 21, 1] rfl)
        · refine lv_iload F.1 F.2.1 dL_law_2338 (lv_at hl 1 rfl) ?_
          refine lv_if_eq (tgt := 2394) F.1 F.2.1 dL_law_2340 (by decide) (fun c_9 => ?_) (fun c_9 => absurd rfl c_9)
          refine lv_iconst (v := 0) F.1 F.2.1 dL_law_2394 (by decide) ?_
          refine lv_istore (lv' := [(33, .int 0), (32, .int (((S 8 v) >>> ((nI (2 * k)) &&& 31)) &&& 3)), (31, .int 0), (30, .int (nI k)), (0, .ref b), (1, .ref o), (2, .ref (ad 2)), (3, .ref (ad 3)), (4, .ref (ad 4)), (5, .ref (ad 5)), (6, .ref (ad 6)), (7, .ref (ad 7)), (8, .ref (ad 8)), (9, .ref (ad 9)), (10, .ref (ad 10)), (11, .int (nI t)), (12, .int v12), (13, .int u), (14, .int (nI i)), (15, .int (nI (14 * i))), (16, .int (nI v)), (17, .int 1)]) F.1 F.2.1 dL_law_2395 hl (by decide) rfl (fun ls hl => ?_)
          refine lv_iload F.1 F.2.1 dL_law_2397 (lv_at hl 0 rfl) ?_
          refine lv_if_ne (tgt := 2437) F.1 F.2.1 dL_law_2399 (by decide) (fun c_10 => absurd rfl c_10) (fun c_10 => ?_)
          refine lv_aload F.1 F.2.1 dL_law_2402 (lv_at hl 12 rfl) ?_
          refine lv_iload F.1 F.2.1 dL_law_2404 (lv_at hl 20 rfl) ?_
          refine lv_aload F.1 F.2.1 dL_law_2406 (lv_at hl 12 rfl) ?_
          refine lv_iload F.1 F.2.1 dL_law_2408 (lv_at hl 20 rfl) ?_
          refine l_ild F w hL 8 rfl v (show v < 50 by omega) dL_law_2410 ?_
          refine lv_iconst (v := 3) F.1 F.2.1 dL_law_2411 (by decide) ?_
          refine lv_iconst (v := 2) F.1 F.2.1 dL_law_2412 (by decide) ?_
          refine lv_iload F.1 F.2.1 dL_law_2413 (lv_at hl 3 rfl) ?_
          refine lv_imul F.1 F.2.1 dL_law_2415 ?_
          refine lv_fold (y := nI (2 * k)) (pk_mul 2 k) ?_
          refine lv_ishl F.1 F.2.1 dL_law_2416 ?_
          refine lv_iconst (v := -1) F.1 F.2.1 dL_law_2417 (by decide) ?_
          refine lv_ixor F.1 F.2.1 dL_law_2418 ?_
          refine lv_iand F.1 F.2.1 dL_law_2419 ?_
          refine lv_iload F.1 F.2.1 dL_law_2420 (lv_at hl 2 rfl) ?_
          refine lv_if_eq (tgt := 2429) F.1 F.2.1 dL_law_2422 (by decide) (fun c_11 => ?_) (fun c_11 => absurd rfl c_11)
          refine lv_iconst (v := 1) F.1 F.2.1 dL_law_2429 (by decide) ?_
          refine lv_iconst (v := 2) F.1 F.2.1 dL_law_2430 (by decide) ?_
          refine lv_iload F.1 F.2.1 dL_law_2431 (lv_at hl 3 rfl) ?_
          refine lv_imul F.1 F.2.1 dL_law_2433 ?_
          refine lv_fold (y := nI (2 * k)) (pk_mul 2 k) ?_
          refine lv_ishl F.1 F.2.1 dL_law_2434 ?_
          refine lv_ior F.1 F.2.1 dL_law_2435 ?_
          refine l_ist F w hd hY 8 rfl v (show v < 50 by omega) dL_law_2436 (fun H locs Y hd hY w => ?_)
          have hL := hY.un hd
          refine lv_iload F.1 F.2.1 dL_law_2437 (lv_at hl 21 rfl) ?_
          refine lv_aload_n F.1 F.2.1 dL_law_2439 rfl (lv_at hl 5 rfl) ?_
          refine lv_iload F.1 F.2.1 dL_law_2440 (lv_at hl 20 rfl) ?_
          refine lv_iload F.1 F.2.1 dL_law_2442 (lv_at hl 3 rfl) ?_
          refine lv_iload F.1 F.2.1 dL_law_2444 (lv_at hl 2 rfl) ?_
          refine lw_mends (rest := [.int 1]) F w hd hM ho hR.r.ic (nI v) (nI k) 0 (by decide) hlf dL_law_2446 hl.1 ⟨by omega, by omega⟩ (Nat.le_of_ble_eq_true rfl) ⟨by omega, by omega⟩ (fun v2446 X AD H locs hv2446 ho hd hM w => ?_)
          have hL := hY.un hd
          refine lv_fold (y := f_L_open (up2 S 8 v (((S 8 v) &&& (((3 : Int32) <<< ((nI (2 * k)) &&& 31)) ^^^ (-1))) ||| ((1 : Int32) <<< ((nI (2 * k)) &&& 31)))) Wf v 0) (hv2446.trans ((md_ok hR hv hs9 e30 hkf (x := 0) (y := 1) (by decide) c_5 (Or.inl rfl)).1)) ?_
          refine lv_iload F.1 F.2.1 dL_law_2449 (lv_at hl 0 rfl) ?_
          refine lv_if_eq (tgt := 2460) F.1 F.2.1 dL_law_2451 (by decide) (fun c_12 => ?_) (fun c_12 => absurd rfl c_12)
          refine lv_iload F.1 F.2.1 dL_law_2460 (lv_at hl 20 rfl) ?_
          refine lv_iconst (v := 0) F.1 F.2.1 dL_law_2462 (by decide) ?_
          refine lv_aload F.1 F.2.1 dL_law_2463 (lv_at hl 9 rfl) ?_
          refine lv_aload F.1 F.2.1 dL_law_2465 (lv_at hl 12 rfl) ?_
          refine lv_aload F.1 F.2.1 dL_law_2467 (lv_at hl 13 rfl) ?_
          refine q_rS (rest := [.int (f_L_open (up2 S 8 v (((S 8 v) &&& (((3 : Int32) <<< ((nI (2 * k)) &&& 31)) ^^^ (-1))) ||| ((1 : Int32) <<< ((nI (2 * k)) &&& 31)))) Wf v 0), .int 1]) F w kS_L_153 hd_L_open (c_L_open l D cy A _ ad (up2 S 8 v (((S 8 v) &&& (((3 : Int32) <<< ((nI (2 * k)) &&& 31)) ^^^ (-1))) ||| ((1 : Int32) <<< ((nI (2 * k)) &&& 31)))) Wf hL v 0 (show v < 50 by omega)) dL_law_2469 rfl rfl hl.1 ⟨rfl, rfl, (show 2 ≤ R.frames by omega), (show 46 ≤ R.locals by omega)⟩ (Nat.le_of_ble_eq_true rfl) ⟨by omega, by omega⟩ ?_
          refine lv_icmp_ne (tgt := 2479) F.1 F.2.1 dL_law_2472 (by decide) (fun c_13 => absurd rfl c_13) (fun c_13 => ?_)
          refine lv_iconst (v := 1) F.1 F.2.1 dL_law_2475 (by decide) ?_
          refine lv_goto (tgt := 2480) F.1 F.2.1 dL_law_2476 (by decide) ?_
          refine lv_iand F.1 F.2.1 dL_law_2480 ?_
          refine lv_fold (y := 1) (by decide) ?_
          refine lv_istore (lv' := [(17, .int 1), (33, .int 0), (32, .int (((S 8 v) >>> ((nI (2 * k)) &&& 31)) &&& 3)), (31, .int 0), (30, .int (nI k)), (0, .ref b), (1, .ref o), (2, .ref (ad 2)), (3, .ref (ad 3)), (4, .ref (ad 4)), (5, .ref (ad 5)), (6, .ref (ad 6)), (7, .ref (ad 7)), (8, .ref (ad 8)), (9, .ref (ad 9)), (10, .ref (ad 10)), (11, .int (nI t)), (12, .int v12), (13, .int u), (14, .int (nI i)), (15, .int (nI (14 * i))), (16, .int (nI v))]) F.1 F.2.1 dL_law_2481 hl (by decide) rfl (fun ls hl => ?_)
          refine lv_iinc (v := nI (k + 1)) (lv' := [(30, .int (nI (k + 1))), (17, .int 1), (33, .int 0), (32, .int (((S 8 v) >>> ((nI (2 * k)) &&& 31)) &&& 3)), (31, .int 0), (0, .ref b), (1, .ref o), (2, .ref (ad 2)), (3, .ref (ad 3)), (4, .ref (ad 4)), (5, .ref (ad 5)), (6, .ref (ad 6)), (7, .ref (ad 7)), (8, .ref (ad 8)), (9, .ref (ad 9)), (10, .ref (ad 10)), (11, .int (nI t)), (12, .int v12), (13, .int u), (14, .int (nI i)), (15, .int (nI (14 * i))), (16, .int (nI v))]) F.1 F.2.1 dL_law_2483 hl (k := 4) rfl (nI_1 _) (by decide) rfl (fun ls hl => ?_)
          refine lv_goto (tgt := 2269) F.1 F.2.1 dL_law_2486 (by decide) ?_
          exact KN ((md_ok hR hv hs9 e30 hkf (x := 0) (y := 1) (by decide) c_5 (Or.inl rfl)).2) hv (by omega) ⟨by omega, by omega⟩ (by omega) ho hd hM hY w (lv_sub hl [0, 5, 6, 7, 8, 9, 10, 11, 12, 13, 14, 15, 16, 17, 18, 19, 20, 21, 1] rfl)
      · refine lv_iconst (v := 1) F.1 F.2.1 dL_law_2311 (by decide) ?_
        refine lv_goto (tgt := 2316) F.1 F.2.1 dL_law_2312 (by decide) ?_
        refine lv_istore (lv' := [(31, .int 1), (30, .int (nI k)), (0, .ref b), (1, .ref o), (2, .ref (ad 2)), (3, .ref (ad 3)), (4, .ref (ad 4)), (5, .ref (ad 5)), (6, .ref (ad 6)), (7, .ref (ad 7)), (8, .ref (ad 8)), (9, .ref (ad 9)), (10, .ref (ad 10)), (11, .int (nI t)), (12, .int v12), (13, .int u), (14, .int (nI i)), (15, .int (nI (14 * i))), (16, .int (nI v)), (17, .int 1)]) F.1 F.2.1 dL_law_2316 hl (by decide) rfl (fun ls hl => ?_)
        refine lv_aload F.1 F.2.1 dL_law_2318 (lv_at hl 10 rfl) ?_
        refine lv_iload F.1 F.2.1 dL_law_2320 (lv_at hl 18 rfl) ?_
        refine l_ild F w hL 8 rfl v (show v < 50 by omega) dL_law_2322 ?_
        refine lv_iconst (v := 2) F.1 F.2.1 dL_law_2323 (by decide) ?_
        refine lv_iload F.1 F.2.1 dL_law_2324 (lv_at hl 1 rfl) ?_
        refine lv_imul F.1 F.2.1 dL_law_2326 ?_
        refine lv_fold (y := nI (2 * k)) (pk_mul 2 k) ?_
        refine lv_ishr F.1 F.2.1 dL_law_2327 ?_
        refine lv_iconst (v := 3) F.1 F.2.1 dL_law_2328 (by decide) ?_
        refine lv_iand F.1 F.2.1 dL_law_2329 ?_
        refine lv_istore (lv' := [(32, .int (((S 8 v) >>> ((nI (2 * k)) &&& 31)) &&& 3)), (31, .int 1), (30, .int (nI k)), (0, .ref b), (1, .ref o), (2, .ref (ad 2)), (3, .ref (ad 3)), (4, .ref (ad 4)), (5, .ref (ad 5)), (6, .ref (ad 6)), (7, .ref (ad 7)), (8, .ref (ad 8)), (9, .ref (ad 9)), (10, .ref (ad 10)), (11, .int (nI t)), (12, .int v12), (13, .int u), (14, .int (nI i)), (15, .int (nI (14 * i))), (16, .int (nI v)), (17, .int 1)]) F.1 F.2.1 dL_law_2330 hl (by decide) rfl (fun ls hl => ?_)
        refine lv_iload F.1 F.2.1 dL_law_2332 (lv_at hl 0 rfl) ?_
        refine lv_iconst (v := 1) F.1 F.2.1 dL_law_2334 (by decide) ?_
        refine lv_icmp_eq (tgt := 2390) F.1 F.2.1 dL_law_2335 (by decide) (fun c_14 => ?_) (fun c_14 => ?_)
        · refine lv_iconst (v := 1) F.1 F.2.1 dL_law_2390 (by decide) ?_
          refine lv_goto (tgt := 2395) F.1 F.2.1 dL_law_2391 (by decide) ?_
          refine lv_istore (lv' := [(33, .int 1), (32, .int (((S 8 v) >>> ((nI (2 * k)) &&& 31)) &&& 3)), (31, .int 1), (30, .int (nI k)), (0, .ref b), (1, .ref o), (2, .ref (ad 2)), (3, .ref (ad 3)), (4, .ref (ad 4)), (5, .ref (ad 5)), (6, .ref (ad 6)), (7, .ref (ad 7)), (8, .ref (ad 8)), (9, .ref (ad 9)), (10, .ref (ad 10)), (11, .int (nI t)), (12, .int v12), (13, .int u), (14, .int (nI i)), (15, .int (nI (14 * i))), (16, .int (nI v)), (17, .int 1)]) F.1 F.2.1 dL_law_2395 hl (by decide) rfl (fun ls hl => ?_)
          refine lv_iload F.1 F.2.1 dL_law_2397 (lv_at hl 0 rfl) ?_
          refine lv_if_ne (tgt := 2437) F.1 F.2.1 dL_law_2399 (by decide) (fun c_15 => ?_) (fun c_15 => absurd c_15 (by decide))
          refine lv_iload F.1 F.2.1 dL_law_2437 (lv_at hl 21 rfl) ?_
          refine lv_aload_n F.1 F.2.1 dL_law_2439 rfl (lv_at hl 5 rfl) ?_
          refine lv_iload F.1 F.2.1 dL_law_2440 (lv_at hl 20 rfl) ?_
          refine lv_iload F.1 F.2.1 dL_law_2442 (lv_at hl 3 rfl) ?_
          refine lv_iload F.1 F.2.1 dL_law_2444 (lv_at hl 2 rfl) ?_
          refine lw_mends (rest := [.int 1]) F w hd hM ho hR.r.ic (nI v) (nI k) 1 (by decide) hlf dL_law_2446 hl.1 ⟨by omega, by omega⟩ (Nat.le_of_ble_eq_true rfl) ⟨by omega, by omega⟩ (fun v2446 X AD H locs hv2446 ho hd hM w => ?_)
          have hL := hY.un hd
          refine lv_fold (y := (-7300)) (hv2446.trans ((md_no hR hv hs9 e30 hkf (x := 1) (Or.inl c_14)).1)) ?_
          refine lv_iload F.1 F.2.1 dL_law_2449 (lv_at hl 0 rfl) ?_
          refine lv_if_eq (tgt := 2460) F.1 F.2.1 dL_law_2451 (by decide) (fun c_16 => absurd c_16 (by decide)) (fun c_16 => ?_)
          refine lv_sipush (v := -7300) F.1 F.2.1 dL_law_2454 (by decide) ?_
          refine lv_goto (tgt := 2472) F.1 F.2.1 dL_law_2457 (by decide) ?_
          refine lv_icmp_ne (tgt := 2479) F.1 F.2.1 dL_law_2472 (by decide) (fun c_17 => absurd rfl c_17) (fun c_17 => ?_)
          refine lv_iconst (v := 1) F.1 F.2.1 dL_law_2475 (by decide) ?_
          refine lv_goto (tgt := 2480) F.1 F.2.1 dL_law_2476 (by decide) ?_
          refine lv_iand F.1 F.2.1 dL_law_2480 ?_
          refine lv_fold (y := 1) (by decide) ?_
          refine lv_istore (lv' := [(17, .int 1), (33, .int 1), (32, .int (((S 8 v) >>> ((nI (2 * k)) &&& 31)) &&& 3)), (31, .int 1), (30, .int (nI k)), (0, .ref b), (1, .ref o), (2, .ref (ad 2)), (3, .ref (ad 3)), (4, .ref (ad 4)), (5, .ref (ad 5)), (6, .ref (ad 6)), (7, .ref (ad 7)), (8, .ref (ad 8)), (9, .ref (ad 9)), (10, .ref (ad 10)), (11, .int (nI t)), (12, .int v12), (13, .int u), (14, .int (nI i)), (15, .int (nI (14 * i))), (16, .int (nI v))]) F.1 F.2.1 dL_law_2481 hl (by decide) rfl (fun ls hl => ?_)
          refine lv_iinc (v := nI (k + 1)) (lv' := [(30, .int (nI (k + 1))), (17, .int 1), (33, .int 1), (32, .int (((S 8 v) >>> ((nI (2 * k)) &&& 31)) &&& 3)), (31, .int 1), (0, .ref b), (1, .ref o), (2, .ref (ad 2)), (3, .ref (ad 3)), (4, .ref (ad 4)), (5, .ref (ad 5)), (6, .ref (ad 6)), (7, .ref (ad 7)), (8, .ref (ad 8)), (9, .ref (ad 9)), (10, .ref (ad 10)), (11, .int (nI t)), (12, .int v12), (13, .int u), (14, .int (nI i)), (15, .int (nI (14 * i))), (16, .int (nI v))]) F.1 F.2.1 dL_law_2483 hl (k := 4) rfl (nI_1 _) (by decide) rfl (fun ls hl => ?_)
          refine lv_goto (tgt := 2269) F.1 F.2.1 dL_law_2486 (by decide) ?_
          rw [(md_no hR hv hs9 e30 hkf (x := 1) (Or.inl c_14)).2] at hM
          exact KN hR hv (by omega) ⟨by omega, by omega⟩ (by omega) ho hd hM hY w (lv_sub hl [0, 5, 6, 7, 8, 9, 10, 11, 12, 13, 14, 15, 16, 17, 18, 19, 20, 21, 1] rfl)
        · refine lv_iload F.1 F.2.1 dL_law_2338 (lv_at hl 1 rfl) ?_
          refine lv_if_eq (tgt := 2394) F.1 F.2.1 dL_law_2340 (by decide) (fun c_18 => absurd c_18 (by decide)) (fun c_18 => ?_)
          refine lv_iload F.1 F.2.1 dL_law_2343 (lv_at hl 0 rfl) ?_
          refine lv_iconst (v := 2) F.1 F.2.1 dL_law_2345 (by decide) ?_
          refine lv_icmp_eq (tgt := 2390) F.1 F.2.1 dL_law_2346 (by decide) (fun c_19 => ?_) (fun c_19 => ?_)
          · refine lv_iconst (v := 1) F.1 F.2.1 dL_law_2390 (by decide) ?_
            refine lv_goto (tgt := 2395) F.1 F.2.1 dL_law_2391 (by decide) ?_
            refine lv_istore (lv' := [(33, .int 1), (32, .int (((S 8 v) >>> ((nI (2 * k)) &&& 31)) &&& 3)), (31, .int 1), (30, .int (nI k)), (0, .ref b), (1, .ref o), (2, .ref (ad 2)), (3, .ref (ad 3)), (4, .ref (ad 4)), (5, .ref (ad 5)), (6, .ref (ad 6)), (7, .ref (ad 7)), (8, .ref (ad 8)), (9, .ref (ad 9)), (10, .ref (ad 10)), (11, .int (nI t)), (12, .int v12), (13, .int u), (14, .int (nI i)), (15, .int (nI (14 * i))), (16, .int (nI v)), (17, .int 1)]) F.1 F.2.1 dL_law_2395 hl (by decide) rfl (fun ls hl => ?_)
            refine lv_iload F.1 F.2.1 dL_law_2397 (lv_at hl 0 rfl) ?_
            refine lv_if_ne (tgt := 2437) F.1 F.2.1 dL_law_2399 (by decide) (fun c_20 => ?_) (fun c_20 => absurd c_20 (by decide))
            refine lv_iload F.1 F.2.1 dL_law_2437 (lv_at hl 21 rfl) ?_
            refine lv_aload_n F.1 F.2.1 dL_law_2439 rfl (lv_at hl 5 rfl) ?_
            refine lv_iload F.1 F.2.1 dL_law_2440 (lv_at hl 20 rfl) ?_
            refine lv_iload F.1 F.2.1 dL_law_2442 (lv_at hl 3 rfl) ?_
            refine lv_iload F.1 F.2.1 dL_law_2444 (lv_at hl 2 rfl) ?_
            refine lw_mends (rest := [.int 1]) F w hd hM ho hR.r.ic (nI v) (nI k) 1 (by decide) hlf dL_law_2446 hl.1 ⟨by omega, by omega⟩ (Nat.le_of_ble_eq_true rfl) ⟨by omega, by omega⟩ (fun v2446 X AD H locs hv2446 ho hd hM w => ?_)
            have hL := hY.un hd
            refine lv_fold (y := (-7300)) (hv2446.trans ((md_no hR hv hs9 e30 hkf (x := 1) (Or.inr ⟨by decide, Or.inl c_19⟩)).1)) ?_
            refine lv_iload F.1 F.2.1 dL_law_2449 (lv_at hl 0 rfl) ?_
            refine lv_if_eq (tgt := 2460) F.1 F.2.1 dL_law_2451 (by decide) (fun c_21 => absurd c_21 (by decide)) (fun c_21 => ?_)
            refine lv_sipush (v := -7300) F.1 F.2.1 dL_law_2454 (by decide) ?_
            refine lv_goto (tgt := 2472) F.1 F.2.1 dL_law_2457 (by decide) ?_
            refine lv_icmp_ne (tgt := 2479) F.1 F.2.1 dL_law_2472 (by decide) (fun c_22 => absurd rfl c_22) (fun c_22 => ?_)
            refine lv_iconst (v := 1) F.1 F.2.1 dL_law_2475 (by decide) ?_
            refine lv_goto (tgt := 2480) F.1 F.2.1 dL_law_2476 (by decide) ?_
            refine lv_iand F.1 F.2.1 dL_law_2480 ?_
            refine lv_fold (y := 1) (by decide) ?_
            refine lv_istore (lv' := [(17, .int 1), (33, .int 1), (32, .int (((S 8 v) >>> ((nI (2 * k)) &&& 31)) &&& 3)), (31, .int 1), (30, .int (nI k)), (0, .ref b), (1, .ref o), (2, .ref (ad 2)), (3, .ref (ad 3)), (4, .ref (ad 4)), (5, .ref (ad 5)), (6, .ref (ad 6)), (7, .ref (ad 7)), (8, .ref (ad 8)), (9, .ref (ad 9)), (10, .ref (ad 10)), (11, .int (nI t)), (12, .int v12), (13, .int u), (14, .int (nI i)), (15, .int (nI (14 * i))), (16, .int (nI v))]) F.1 F.2.1 dL_law_2481 hl (by decide) rfl (fun ls hl => ?_)
            refine lv_iinc (v := nI (k + 1)) (lv' := [(30, .int (nI (k + 1))), (17, .int 1), (33, .int 1), (32, .int (((S 8 v) >>> ((nI (2 * k)) &&& 31)) &&& 3)), (31, .int 1), (0, .ref b), (1, .ref o), (2, .ref (ad 2)), (3, .ref (ad 3)), (4, .ref (ad 4)), (5, .ref (ad 5)), (6, .ref (ad 6)), (7, .ref (ad 7)), (8, .ref (ad 8)), (9, .ref (ad 9)), (10, .ref (ad 10)), (11, .int (nI t)), (12, .int v12), (13, .int u), (14, .int (nI i)), (15, .int (nI (14 * i))), (16, .int (nI v))]) F.1 F.2.1 dL_law_2483 hl (k := 4) rfl (nI_1 _) (by decide) rfl (fun ls hl => ?_)
            refine lv_goto (tgt := 2269) F.1 F.2.1 dL_law_2486 (by decide) ?_
            rw [(md_no hR hv hs9 e30 hkf (x := 1) (Or.inr ⟨by decide, Or.inl c_19⟩)).2] at hM
            exact KN hR hv (by omega) ⟨by omega, by omega⟩ (by omega) ho hd hM hY w (lv_sub hl [0, 5, 6, 7, 8, 9, 10, 11, 12, 13, 14, 15, 16, 17, 18, 19, 20, 21, 1] rfl)
          · refine lv_aload F.1 F.2.1 dL_law_2349 (lv_at hl 12 rfl) ?_
            refine lv_iload F.1 F.2.1 dL_law_2351 (lv_at hl 19 rfl) ?_
            refine l_lld F w hL v (show v < 50 by omega) dL_law_2353 ?_
            refine lv_iconst (v := 4) F.1 F.2.1 dL_law_2354 (by decide) ?_
            refine lv_iload F.1 F.2.1 dL_law_2355 (lv_at hl 2 rfl) ?_
            refine lv_imul F.1 F.2.1 dL_law_2357 ?_
            refine lv_fold (y := nI (4 * k)) (pk_mul 4 k) ?_
            refine lv_lshr (v := (Wf v) >>> ((nI (4 * k)).toInt64 &&& 63)) F.1 F.2.1 dL_law_2358 rfl ?_
            refine lv_ldc2 (v := 15) F.1 F.2.1 F.2.2.2.1 (F.2.2.2.2 _ wKl_L_122) dL_law_2359 ?_
            refine lv_land F.1 F.2.1 dL_law_2362 ?_
            refine lv_ldc2 (v := 7) F.1 F.2.1 F.2.2.2.1 (F.2.2.2.2 _ wKl_L_187) dL_law_2363 ?_
            refine W.lcmp F.1 F.2.1 dL_law_2366 ?_
            refine lv_if_gt (tgt := 2390) F.1 F.2.1 dL_law_2367 (by decide) (fun c_23 => ?_) (fun c_23 => ?_)
            · refine lv_iconst (v := 1) F.1 F.2.1 dL_law_2390 (by decide) ?_
              refine lv_goto (tgt := 2395) F.1 F.2.1 dL_law_2391 (by decide) ?_
              refine lv_istore (lv' := [(33, .int 1), (32, .int (((S 8 v) >>> ((nI (2 * k)) &&& 31)) &&& 3)), (31, .int 1), (30, .int (nI k)), (0, .ref b), (1, .ref o), (2, .ref (ad 2)), (3, .ref (ad 3)), (4, .ref (ad 4)), (5, .ref (ad 5)), (6, .ref (ad 6)), (7, .ref (ad 7)), (8, .ref (ad 8)), (9, .ref (ad 9)), (10, .ref (ad 10)), (11, .int (nI t)), (12, .int v12), (13, .int u), (14, .int (nI i)), (15, .int (nI (14 * i))), (16, .int (nI v)), (17, .int 1)]) F.1 F.2.1 dL_law_2395 hl (by decide) rfl (fun ls hl => ?_)
              refine lv_iload F.1 F.2.1 dL_law_2397 (lv_at hl 0 rfl) ?_
              refine lv_if_ne (tgt := 2437) F.1 F.2.1 dL_law_2399 (by decide) (fun c_24 => ?_) (fun c_24 => absurd c_24 (by decide))
              refine lv_iload F.1 F.2.1 dL_law_2437 (lv_at hl 21 rfl) ?_
              refine lv_aload_n F.1 F.2.1 dL_law_2439 rfl (lv_at hl 5 rfl) ?_
              refine lv_iload F.1 F.2.1 dL_law_2440 (lv_at hl 20 rfl) ?_
              refine lv_iload F.1 F.2.1 dL_law_2442 (lv_at hl 3 rfl) ?_
              refine lv_iload F.1 F.2.1 dL_law_2444 (lv_at hl 2 rfl) ?_
              refine lw_mends (rest := [.int 1]) F w hd hM ho hR.r.ic (nI v) (nI k) 1 (by decide) hlf dL_law_2446 hl.1 ⟨by omega, by omega⟩ (Nat.le_of_ble_eq_true rfl) ⟨by omega, by omega⟩ (fun v2446 X AD H locs hv2446 ho hd hM w => ?_)
              have hL := hY.un hd
              refine lv_fold (y := (-7300)) (hv2446.trans ((md_no hR hv hs9 e30 hkf (x := 1) (Or.inr ⟨by decide, Or.inr (Or.inl c_23)⟩)).1)) ?_
              refine lv_iload F.1 F.2.1 dL_law_2449 (lv_at hl 0 rfl) ?_
              refine lv_if_eq (tgt := 2460) F.1 F.2.1 dL_law_2451 (by decide) (fun c_25 => absurd c_25 (by decide)) (fun c_25 => ?_)
              refine lv_sipush (v := -7300) F.1 F.2.1 dL_law_2454 (by decide) ?_
              refine lv_goto (tgt := 2472) F.1 F.2.1 dL_law_2457 (by decide) ?_
              refine lv_icmp_ne (tgt := 2479) F.1 F.2.1 dL_law_2472 (by decide) (fun c_26 => absurd rfl c_26) (fun c_26 => ?_)
              refine lv_iconst (v := 1) F.1 F.2.1 dL_law_2475 (by decide) ?_
              refine lv_goto (tgt := 2480) F.1 F.2.1 dL_law_2476 (by decide) ?_
              refine lv_iand F.1 F.2.1 dL_law_2480 ?_
              refine lv_fold (y := 1) (by decide) ?_
              refine lv_istore (lv' := [(17, .int 1), (33, .int 1), (32, .int (((S 8 v) >>> ((nI (2 * k)) &&& 31)) &&& 3)), (31, .int 1), (30, .int (nI k)), (0, .ref b), (1, .ref o), (2, .ref (ad 2)), (3, .ref (ad 3)), (4, .ref (ad 4)), (5, .ref (ad 5)), (6, .ref (ad 6)), (7, .ref (ad 7)), (8, .ref (ad 8)), (9, .ref (ad 9)), (10, .ref (ad 10)), (11, .int (nI t)), (12, .int v12), (13, .int u), (14, .int (nI i)), (15, .int (nI (14 * i))), (16, .int (nI v))]) F.1 F.2.1 dL_law_2481 hl (by decide) rfl (fun ls hl => ?_)
              refine lv_iinc (v := nI (k + 1)) (lv' := [(30, .int (nI (k + 1))), (17, .int 1), (33, .int 1), (32, .int (((S 8 v) >>> ((nI (2 * k)) &&& 31)) &&& 3)), (31, .int 1), (0, .ref b), (1, .ref o), (2, .ref (ad 2)), (3, .ref (ad 3)), (4, .ref (ad 4)), (5, .ref (ad 5)), (6, .ref (ad 6)), (7, .ref (ad 7)), (8, .ref (ad 8)), (9, .ref (ad 9)), (10, .ref (ad 10)), (11, .int (nI t)), (12, .int v12), (13, .int u), (14, .int (nI i)), (15, .int (nI (14 * i))), (16, .int (nI v))]) F.1 F.2.1 dL_law_2483 hl (k := 4) rfl (nI_1 _) (by decide) rfl (fun ls hl => ?_)
              refine lv_goto (tgt := 2269) F.1 F.2.1 dL_law_2486 (by decide) ?_
              rw [(md_no hR hv hs9 e30 hkf (x := 1) (Or.inr ⟨by decide, Or.inr (Or.inl c_23)⟩)).2] at hM
              exact KN hR hv (by omega) ⟨by omega, by omega⟩ (by omega) ho hd hM hY w (lv_sub hl [0, 5, 6, 7, 8, 9, 10, 11, 12, 13, 14, 15, 16, 17, 18, 19, 20, 21, 1] rfl)
            · refine lv_aload_n F.1 F.2.1 dL_law_2370 rfl (lv_at hl 5 rfl) ?_
              refine lv_bipush (v := 14) F.1 F.2.1 dL_law_2371 (by decide) ?_
              refine lv_aload F.1 F.2.1 dL_law_2373 (lv_at hl 8 rfl) ?_
              refine lv_iload F.1 F.2.1 dL_law_2375 (lv_at hl 19 rfl) ?_
              refine l_ild F w hL 5 rfl v (show v < 50 by omega) dL_law_2377 ?_
              refine lv_iconst (v := 3) F.1 F.2.1 dL_law_2378 (by decide) ?_
              refine lv_iand F.1 F.2.1 dL_law_2379 ?_
              refine lv_fold (y := nI s9) (e5) ?_
              refine lv_imul F.1 F.2.1 dL_law_2380 ?_
              refine lv_fold (y := nI (14 * s9)) (pk_mul 14 s9) ?_
              refine lv_bipush (v := 7) F.1 F.2.1 dL_law_2381 (by decide) ?_
              refine lv_iadd F.1 F.2.1 dL_law_2383 ?_
              refine lv_fold (y := nI ((14 * s9) + 7)) (nI_add (14 * s9) 7) ?_
              refine l_ild F w hL 2 rfl ((14 * s9) + 7) (show (14 * s9) + 7 < 56 by omega) dL_law_2384 ?_
              refine lv_iload F.1 F.2.1 dL_law_2385 (lv_at hl 19 rfl) ?_
              refine lv_icmp_eq (tgt := 2394) F.1 F.2.1 dL_law_2387 (by decide) (fun c_27 => ?_) (fun c_27 => ?_)
              · refine lv_iconst (v := 0) F.1 F.2.1 dL_law_2394 (by decide) ?_
                refine lv_istore (lv' := [(33, .int 0), (32, .int (((S 8 v) >>> ((nI (2 * k)) &&& 31)) &&& 3)), (31, .int 1), (30, .int (nI k)), (0, .ref b), (1, .ref o), (2, .ref (ad 2)), (3, .ref (ad 3)), (4, .ref (ad 4)), (5, .ref (ad 5)), (6, .ref (ad 6)), (7, .ref (ad 7)), (8, .ref (ad 8)), (9, .ref (ad 9)), (10, .ref (ad 10)), (11, .int (nI t)), (12, .int v12), (13, .int u), (14, .int (nI i)), (15, .int (nI (14 * i))), (16, .int (nI v)), (17, .int 1)]) F.1 F.2.1 dL_law_2395 hl (by decide) rfl (fun ls hl => ?_)
                refine lv_iload F.1 F.2.1 dL_law_2397 (lv_at hl 0 rfl) ?_
                refine lv_if_ne (tgt := 2437) F.1 F.2.1 dL_law_2399 (by decide) (fun c_28 => absurd rfl c_28) (fun c_28 => ?_)
                refine lv_aload F.1 F.2.1 dL_law_2402 (lv_at hl 12 rfl) ?_
                refine lv_iload F.1 F.2.1 dL_law_2404 (lv_at hl 20 rfl) ?_
                refine lv_aload F.1 F.2.1 dL_law_2406 (lv_at hl 12 rfl) ?_
                refine lv_iload F.1 F.2.1 dL_law_2408 (lv_at hl 20 rfl) ?_
                refine l_ild F w hL 8 rfl v (show v < 50 by omega) dL_law_2410 ?_
                refine lv_iconst (v := 3) F.1 F.2.1 dL_law_2411 (by decide) ?_
                refine lv_iconst (v := 2) F.1 F.2.1 dL_law_2412 (by decide) ?_
                refine lv_iload F.1 F.2.1 dL_law_2413 (lv_at hl 3 rfl) ?_
                refine lv_imul F.1 F.2.1 dL_law_2415 ?_
                refine lv_fold (y := nI (2 * k)) (pk_mul 2 k) ?_
                refine lv_ishl F.1 F.2.1 dL_law_2416 ?_
                refine lv_iconst (v := -1) F.1 F.2.1 dL_law_2417 (by decide) ?_
                refine lv_ixor F.1 F.2.1 dL_law_2418 ?_
                refine lv_iand F.1 F.2.1 dL_law_2419 ?_
                refine lv_iload F.1 F.2.1 dL_law_2420 (lv_at hl 2 rfl) ?_
                refine lv_if_eq (tgt := 2429) F.1 F.2.1 dL_law_2422 (by decide) (fun c_29 => absurd c_29 (by decide)) (fun c_29 => ?_)
                refine lv_iconst (v := 2) F.1 F.2.1 dL_law_2425 (by decide) ?_
                refine lv_goto (tgt := 2430) F.1 F.2.1 dL_law_2426 (by decide) ?_
                refine lv_iconst (v := 2) F.1 F.2.1 dL_law_2430 (by decide) ?_
                refine lv_iload F.1 F.2.1 dL_law_2431 (lv_at hl 3 rfl) ?_
                refine lv_imul F.1 F.2.1 dL_law_2433 ?_
                refine lv_fold (y := nI (2 * k)) (pk_mul 2 k) ?_
                refine lv_ishl F.1 F.2.1 dL_law_2434 ?_
                refine lv_ior F.1 F.2.1 dL_law_2435 ?_
                refine l_ist F w hd hY 8 rfl v (show v < 50 by omega) dL_law_2436 (fun H locs Y hd hY w => ?_)
                have hL := hY.un hd
                refine lv_iload F.1 F.2.1 dL_law_2437 (lv_at hl 21 rfl) ?_
                refine lv_aload_n F.1 F.2.1 dL_law_2439 rfl (lv_at hl 5 rfl) ?_
                refine lv_iload F.1 F.2.1 dL_law_2440 (lv_at hl 20 rfl) ?_
                refine lv_iload F.1 F.2.1 dL_law_2442 (lv_at hl 3 rfl) ?_
                refine lv_iload F.1 F.2.1 dL_law_2444 (lv_at hl 2 rfl) ?_
                refine lw_mends (rest := [.int 1]) F w hd hM ho hR.r.ic (nI v) (nI k) 1 (by decide) hlf dL_law_2446 hl.1 ⟨by omega, by omega⟩ (Nat.le_of_ble_eq_true rfl) ⟨by omega, by omega⟩ (fun v2446 X AD H locs hv2446 ho hd hM w => ?_)
                have hL := hY.un hd
                refine lv_fold (y := f_L_open (up2 S 8 v (((S 8 v) &&& (((3 : Int32) <<< ((nI (2 * k)) &&& 31)) ^^^ (-1))) ||| ((2 : Int32) <<< ((nI (2 * k)) &&& 31)))) Wf v 0) (hv2446.trans ((md_ok hR hv hs9 e30 hkf (x := 1) (y := 2) (by decide) c_14 (Or.inr ⟨c_19, c_23, c_27⟩)).1)) ?_
                refine lv_iload F.1 F.2.1 dL_law_2449 (lv_at hl 0 rfl) ?_
                refine lv_if_eq (tgt := 2460) F.1 F.2.1 dL_law_2451 (by decide) (fun c_30 => ?_) (fun c_30 => absurd rfl c_30)
                refine lv_iload F.1 F.2.1 dL_law_2460 (lv_at hl 20 rfl) ?_
                refine lv_iconst (v := 0) F.1 F.2.1 dL_law_2462 (by decide) ?_
                refine lv_aload F.1 F.2.1 dL_law_2463 (lv_at hl 9 rfl) ?_
                refine lv_aload F.1 F.2.1 dL_law_2465 (lv_at hl 12 rfl) ?_
                refine lv_aload F.1 F.2.1 dL_law_2467 (lv_at hl 13 rfl) ?_
                refine q_rS (rest := [.int (f_L_open (up2 S 8 v (((S 8 v) &&& (((3 : Int32) <<< ((nI (2 * k)) &&& 31)) ^^^ (-1))) ||| ((2 : Int32) <<< ((nI (2 * k)) &&& 31)))) Wf v 0), .int 1]) F w kS_L_153 hd_L_open (c_L_open l D cy A _ ad (up2 S 8 v (((S 8 v) &&& (((3 : Int32) <<< ((nI (2 * k)) &&& 31)) ^^^ (-1))) ||| ((2 : Int32) <<< ((nI (2 * k)) &&& 31)))) Wf hL v 0 (show v < 50 by omega)) dL_law_2469 rfl rfl hl.1 ⟨rfl, rfl, (show 2 ≤ R.frames by omega), (show 46 ≤ R.locals by omega)⟩ (Nat.le_of_ble_eq_true rfl) ⟨by omega, by omega⟩ ?_
                refine lv_icmp_ne (tgt := 2479) F.1 F.2.1 dL_law_2472 (by decide) (fun c_31 => absurd rfl c_31) (fun c_31 => ?_)
                refine lv_iconst (v := 1) F.1 F.2.1 dL_law_2475 (by decide) ?_
                refine lv_goto (tgt := 2480) F.1 F.2.1 dL_law_2476 (by decide) ?_
                refine lv_iand F.1 F.2.1 dL_law_2480 ?_
                refine lv_fold (y := 1) (by decide) ?_
                refine lv_istore (lv' := [(17, .int 1), (33, .int 0), (32, .int (((S 8 v) >>> ((nI (2 * k)) &&& 31)) &&& 3)), (31, .int 1), (30, .int (nI k)), (0, .ref b), (1, .ref o), (2, .ref (ad 2)), (3, .ref (ad 3)), (4, .ref (ad 4)), (5, .ref (ad 5)), (6, .ref (ad 6)), (7, .ref (ad 7)), (8, .ref (ad 8)), (9, .ref (ad 9)), (10, .ref (ad 10)), (11, .int (nI t)), (12, .int v12), (13, .int u), (14, .int (nI i)), (15, .int (nI (14 * i))), (16, .int (nI v))]) F.1 F.2.1 dL_law_2481 hl (by decide) rfl (fun ls hl => ?_)
                refine lv_iinc (v := nI (k + 1)) (lv' := [(30, .int (nI (k + 1))), (17, .int 1), (33, .int 0), (32, .int (((S 8 v) >>> ((nI (2 * k)) &&& 31)) &&& 3)), (31, .int 1), (0, .ref b), (1, .ref o), (2, .ref (ad 2)), (3, .ref (ad 3)), (4, .ref (ad 4)), (5, .ref (ad 5)), (6, .ref (ad 6)), (7, .ref (ad 7)), (8, .ref (ad 8)), (9, .ref (ad 9)), (10, .ref (ad 10)), (11, .int (nI t)), (12, .int v12), (13, .int u), (14, .int (nI i)), (15, .int (nI (14 * i))), (16, .int (nI v))]) F.1 F.2.1 dL_law_2483 hl (k := 4) rfl (nI_1 _) (by decide) rfl (fun ls hl => ?_)
                refine lv_goto (tgt := 2269) F.1 F.2.1 dL_law_2486 (by decide) ?_
                exact KN ((md_ok hR hv hs9 e30 hkf (x := 1) (y := 2) (by decide) c_14 (Or.inr ⟨c_19, c_23, c_27⟩)).2) hv (by omega) ⟨by omega, by omega⟩ (by omega) ho hd hM hY w (lv_sub hl [0, 5, 6, 7, 8, 9, 10, 11, 12, 13, 14, 15, 16, 17, 18, 19, 20, 21, 1] rfl)
              · refine lv_iconst (v := 1) F.1 F.2.1 dL_law_2390 (by decide) ?_
                refine lv_goto (tgt := 2395) F.1 F.2.1 dL_law_2391 (by decide) ?_
                refine lv_istore (lv' := [(33, .int 1), (32, .int (((S 8 v) >>> ((nI (2 * k)) &&& 31)) &&& 3)), (31, .int 1), (30, .int (nI k)), (0, .ref b), (1, .ref o), (2, .ref (ad 2)), (3, .ref (ad 3)), (4, .ref (ad 4)), (5, .ref (ad 5)), (6, .ref (ad 6)), (7, .ref (ad 7)), (8, .ref (ad 8)), (9, .ref (ad 9)), (10, .ref (ad 10)), (11, .int (nI t)), (12, .int v12), (13, .int u), (14, .int (nI i)), (15, .int (nI (14 * i))), (16, .int (nI v)), (17, .int 1)]) F.1 F.2.1 dL_law_2395 hl (by decide) rfl (fun ls hl => ?_)
                refine lv_iload F.1 F.2.1 dL_law_2397 (lv_at hl 0 rfl) ?_
                refine lv_if_ne (tgt := 2437) F.1 F.2.1 dL_law_2399 (by decide) (fun c_32 => ?_) (fun c_32 => absurd c_32 (by decide))
                refine lv_iload F.1 F.2.1 dL_law_2437 (lv_at hl 21 rfl) ?_
                refine lv_aload_n F.1 F.2.1 dL_law_2439 rfl (lv_at hl 5 rfl) ?_
                refine lv_iload F.1 F.2.1 dL_law_2440 (lv_at hl 20 rfl) ?_
                refine lv_iload F.1 F.2.1 dL_law_2442 (lv_at hl 3 rfl) ?_
                refine lv_iload F.1 F.2.1 dL_law_2444 (lv_at hl 2 rfl) ?_
                refine lw_mends (rest := [.int 1]) F w hd hM ho hR.r.ic (nI v) (nI k) 1 (by decide) hlf dL_law_2446 hl.1 ⟨by omega, by omega⟩ (Nat.le_of_ble_eq_true rfl) ⟨by omega, by omega⟩ (fun v2446 X AD H locs hv2446 ho hd hM w => ?_)
                have hL := hY.un hd
                refine lv_fold (y := (-7300)) (hv2446.trans ((md_no hR hv hs9 e30 hkf (x := 1) (Or.inr ⟨by decide, Or.inr (Or.inr c_27)⟩)).1)) ?_
                refine lv_iload F.1 F.2.1 dL_law_2449 (lv_at hl 0 rfl) ?_
                refine lv_if_eq (tgt := 2460) F.1 F.2.1 dL_law_2451 (by decide) (fun c_33 => absurd c_33 (by decide)) (fun c_33 => ?_)
                refine lv_sipush (v := -7300) F.1 F.2.1 dL_law_2454 (by decide) ?_
                refine lv_goto (tgt := 2472) F.1 F.2.1 dL_law_2457 (by decide) ?_
                refine lv_icmp_ne (tgt := 2479) F.1 F.2.1 dL_law_2472 (by decide) (fun c_34 => absurd rfl c_34) (fun c_34 => ?_)
                refine lv_iconst (v := 1) F.1 F.2.1 dL_law_2475 (by decide) ?_
                refine lv_goto (tgt := 2480) F.1 F.2.1 dL_law_2476 (by decide) ?_
                refine lv_iand F.1 F.2.1 dL_law_2480 ?_
                refine lv_fold (y := 1) (by decide) ?_
                refine lv_istore (lv' := [(17, .int 1), (33, .int 1), (32, .int (((S 8 v) >>> ((nI (2 * k)) &&& 31)) &&& 3)), (31, .int 1), (30, .int (nI k)), (0, .ref b), (1, .ref o), (2, .ref (ad 2)), (3, .ref (ad 3)), (4, .ref (ad 4)), (5, .ref (ad 5)), (6, .ref (ad 6)), (7, .ref (ad 7)), (8, .ref (ad 8)), (9, .ref (ad 9)), (10, .ref (ad 10)), (11, .int (nI t)), (12, .int v12), (13, .int u), (14, .int (nI i)), (15, .int (nI (14 * i))), (16, .int (nI v))]) F.1 F.2.1 dL_law_2481 hl (by decide) rfl (fun ls hl => ?_)
                refine lv_iinc (v := nI (k + 1)) (lv' := [(30, .int (nI (k + 1))), (17, .int 1), (33, .int 1), (32, .int (((S 8 v) >>> ((nI (2 * k)) &&& 31)) &&& 3)), (31, .int 1), (0, .ref b), (1, .ref o), (2, .ref (ad 2)), (3, .ref (ad 3)), (4, .ref (ad 4)), (5, .ref (ad 5)), (6, .ref (ad 6)), (7, .ref (ad 7)), (8, .ref (ad 8)), (9, .ref (ad 9)), (10, .ref (ad 10)), (11, .int (nI t)), (12, .int v12), (13, .int u), (14, .int (nI i)), (15, .int (nI (14 * i))), (16, .int (nI v))]) F.1 F.2.1 dL_law_2483 hl (k := 4) rfl (nI_1 _) (by decide) rfl (fun ls hl => ?_)
                refine lv_goto (tgt := 2269) F.1 F.2.1 dL_law_2486 (by decide) ?_
                rw [(md_no hR hv hs9 e30 hkf (x := 1) (Or.inr ⟨by decide, Or.inr (Or.inr c_27)⟩)).2] at hM
                exact KN hR hv (by omega) ⟨by omega, by omega⟩ (by omega) ho hd hM hY w (lv_sub hl [0, 5, 6, 7, 8, 9, 10, 11, 12, 13, 14, 15, 16, 17, 18, 19, 20, 21, 1] rfl)
    · refine lv_goto (tgt := 2483) F.1 F.2.1 dL_law_2296 (by decide) ?_
      refine lv_iinc (v := nI (k + 1)) (lv' := [(30, .int (nI (k + 1))), (0, .ref b), (1, .ref o), (2, .ref (ad 2)), (3, .ref (ad 3)), (4, .ref (ad 4)), (5, .ref (ad 5)), (6, .ref (ad 6)), (7, .ref (ad 7)), (8, .ref (ad 8)), (9, .ref (ad 9)), (10, .ref (ad 10)), (11, .int (nI t)), (12, .int v12), (13, .int u), (14, .int (nI i)), (15, .int (nI (14 * i))), (16, .int (nI v)), (17, .int 1)]) F.1 F.2.1 dL_law_2483 hl (k := 0) rfl (nI_1 _) (by decide) rfl (fun ls hl => ?_)
      refine lv_goto (tgt := 2269) F.1 F.2.1 dL_law_2486 (by decide) ?_
      exact KN hR hv (by omega) ⟨by omega, by omega⟩ (by omega) ho hd hM hY w (lv_sub hl [0, 1, 2, 3, 4, 5, 6, 7, 8, 9, 10, 11, 12, 13, 14, 15, 16, 17, 18] rfl)
set_option maxHeartbeats 4000000 in
theorem lc_mends_l {p : Program} {l : Launch} {e : Env} {R : Room} {s : State} {m : MethodId} {args : Array Value} {below : List Frame} {meth : Method} {c : Code} {Q : State → Prop} {D : va_G} {cy : Nat → ClassId} {A : Nat → Prop} {o b t i v : Nat} {ad : Nat → Nat} {u v12 : Int32} {n n1 c1 s1 : Nat} {G M S : GS} {Wf : Nat → Int64} (F : CallFix p m c cL_law 40 s args BIG RL) (hlf : l.stackTraces = false) (hRm : 11 ≤ R.frames ∧ 278 ≤ R.locals ∧ c1 ≤ R.cells ∧ s1 ≤ R.slots) (h511 : n1 ≤ 511) (K : KJ p l e R s m args below meth c Q D cy A o b t ad u n1 c1 s1) (hR : R26 n G M S Wf) {k : Nat} (hk : k ≤ 12) (hv : v < gnV M) {X Y : MU} {AD : AM} {H : Heap} {locs : List Loc} {cells slots : Nat} (hf : cells + (13 - k) ≤ c1 ∧ slots + 6 * (13 - k) ≤ s1) (hn : n + 0 ≤ n1) (ho : AD 0 0 0 = o) (hd : dis X Y) (hM : RepC cy AD G X) (hY : RepL cy ad S Wf Y) (w : WW D cy A (un X Y) s H locs) {ls : Array Slot} (hl : lv_has ls 40 [(30, .int (nI k)), (0, .ref b), (1, .ref o), (2, .ref (ad 2)), (3, .ref (ad 3)), (4, .ref (ad 4)), (5, .ref (ad 5)), (6, .ref (ad 6)), (7, .ref (ad 7)), (8, .ref (ad 8)), (9, .ref (ad 9)), (10, .ref (ad 10)), (11, .int (nI t)), (12, .int v12), (13, .int u), (14, .int (nI i)), (15, .int (nI (14 * i))), (16, .int (nI v)), (17, .int 1)]) : W p l e R s m args below meth c H locs cells slots Q (F0 m 2269 ls []) := by
  have h : ∀ (d k : Nat), k + d = 12 → ∀ {n : Nat} {G M S : GS} {Wf : Nat → Int64} {X Y : MU} {AD : AM} {H : Heap} {locs : List Loc} {cells slots : Nat} {ls : Array Slot}, R26 n G M S Wf → v < gnV M → (cells + (13 - k) ≤ c1 ∧ slots + 6 * (13 - k) ≤ s1) → n + 0 ≤ n1 → AD 0 0 0 = o → dis X Y → RepC cy AD G X → RepL cy ad S Wf Y → WW D cy A (un X Y) s H locs → lv_has ls 40 [(30, .int (nI k)), (0, .ref b), (1, .ref o), (2, .ref (ad 2)), (3, .ref (ad 3)), (4, .ref (ad 4)), (5, .ref (ad 5)), (6, .ref (ad 6)), (7, .ref (ad 7)), (8, .ref (ad 8)), (9, .ref (ad 9)), (10, .ref (ad 10)), (11, .int (nI t)), (12, .int v12), (13, .int u), (14, .int (nI i)), (15, .int (nI (14 * i))), (16, .int (nI v)), (17, .int 1)] → W p l e R s m args below meth c H locs cells slots Q (F0 m 2269 ls []) := by
    intro d
    induction d with
    | zero =>
      intro k hk n G M S Wf X Y AD H locs cells slots ls hR hv hf hn ho hd hM hY w hl
      exact lc_mends_r F hlf hRm h511 K hR (by omega) hv (fun _ _ q => absurd q (by omega)) hf hn ho hd hM hY w hl
    | succ d ih =>
      intro k hk n G M S Wf X Y AD H locs cells slots ls hR hv hf hn ho hd hM hY w hl
      exact lc_mends_r F hlf hRm h511 K hR (by omega) hv (fun hR hv _ hf hn ho hd hM hY w hl => ih (k + 1) (by omega) hR hv hf hn ho hd hM hY w hl) hf hn ho hd hM hY w hl
  exact h (12 - k) k (by omega) hR hv hf hn ho hd hM hY w hl
set_option maxHeartbeats 4000000 in
set_option maxRecDepth 100000 in
theorem lc_mends {p : Program} {l : Launch} {e : Env} {R : Room} {s : State} {m : MethodId} {args : Array Value} {below : List Frame} {meth : Method} {c : Code} {Q : State → Prop} {D : va_G} {cy : Nat → ClassId} {A : Nat → Prop} {o b t i v : Nat} {ad : Nat → Nat} {u v12 : Int32} {n n1 c1 s1 : Nat} {G M S : GS} {Wf : Nat → Int64} (F : CallFix p m c cL_law 40 s args BIG RL) (hlf : l.stackTraces = false) (hRm : 11 ≤ R.frames ∧ 278 ≤ R.locals ∧ c1 ≤ R.cells ∧ s1 ≤ R.slots) (h511 : n1 ≤ 511) (K : KJ p l e R s m args below meth c Q D cy A o b t ad u n1 c1 s1) (hR : R26 n G M S Wf) (hi4 : i < 4) (hi0 : gnS M = 0 ∨ i < gnS M) (hv50 : v < 50) (hv0 : gnV M = 0 ∨ v < gnV M) {X Y : MU} {AD : AM} {H : Heap} {locs : List Loc} {cells slots : Nat} (hf : cells + 30 ≤ c1 ∧ slots + 9500 ≤ s1) (hn : n + 4 ≤ n1) (ho : AD 0 0 0 = o) (hd : dis X Y) (hM : RepC cy AD G X) (hY : RepL cy ad S Wf Y) (w : WW D cy A (un X Y) s H locs) {ls : Array Slot} (hl : lv_has ls 40 [(0, .ref b), (1, .ref o), (2, .ref (ad 2)), (3, .ref (ad 3)), (4, .ref (ad 4)), (5, .ref (ad 5)), (6, .ref (ad 6)), (7, .ref (ad 7)), (8, .ref (ad 8)), (9, .ref (ad 9)), (10, .ref (ad 10)), (11, .int (nI t)), (12, .int v12), (13, .int u), (14, .int (nI i)), (15, .int (nI (14 * i))), (16, .int (nI v)), (17, .int 1)]) : W p l e R s m args below meth c H locs cells slots Q (F0 m 2256 ls []) := by
  have hL := hY.un hd
  obtain ⟨t9, ht9, ht⟩ := hR.td
  have hb4 := hR.b
  have heV := hR.eV
  refine lv_aload F.1 F.2.1 dL_law_2256 (lv_at hl 10 rfl) ?_
  refine lv_iconst (v := 2) F.1 F.2.1 dL_law_2258 (by decide) ?_
  refine l_ild F w hL 10 rfl 2 (show 2 < 9 by omega) dL_law_2259 ?_
  refine lv_if_ne (tgt := 2266) F.1 F.2.1 dL_law_2260 (by decide) (fun c_1 => ?_) (fun c_1 => ?_)
  · have hv := vi_ok hR hv0 c_1
    refine lv_iconst (v := 0) F.1 F.2.1 dL_law_2266 (by decide) ?_
    refine lv_istore (lv' := [(30, .int 0), (0, .ref b), (1, .ref o), (2, .ref (ad 2)), (3, .ref (ad 3)), (4, .ref (ad 4)), (5, .ref (ad 5)), (6, .ref (ad 6)), (7, .ref (ad 7)), (8, .ref (ad 8)), (9, .ref (ad 9)), (10, .ref (ad 10)), (11, .int (nI t)), (12, .int v12), (13, .int u), (14, .int (nI i)), (15, .int (nI (14 * i))), (16, .int (nI v)), (17, .int 1)]) F.1 F.2.1 dL_law_2267 hl (by decide) rfl (fun ls hl => ?_)
    exact lc_mends_l F hlf hRm h511 K hR (k := 0) (by omega) hv ⟨by omega, by omega⟩ (by omega) ho hd hM hY w (lv_sub hl [0, 1, 2, 3, 4, 5, 6, 7, 8, 9, 10, 11, 12, 13, 14, 15, 16, 17, 18] rfl)
  · refine lv_goto (tgt := 3461) F.1 F.2.1 dL_law_2263 (by decide) ?_
    refine W.widen (k := c1) (n := s1) (by omega) (by omega) ?_
    exact K _ _ ls ⟨X, Y, AD, _, _, _, _, ho, hd, hM, hY, w, R26.ups hR (by omega)⟩ (lv_sub hl [17, 0, 1, 2, 3, 4, 5, 6, 7, 8, 9, 10, 11, 13] rfl)
