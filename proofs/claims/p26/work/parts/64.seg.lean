set_option maxHeartbeats 4000000 in
set_option maxRecDepth 100000 in
theorem lc_mk1 {p : Program} {l : Launch} {e : Env} {R : Room} {s : State} {m : MethodId} {args : Array Value} {below : List Frame} {meth : Method} {c : Code} {Q : State → Prop} {b o t i v k : Nat} {ad : Nat → Nat} {u v12 y24 y25 : Int32} (F : CallFix p m c cL_law 40 s args BIG RL) {H : Heap} {locs : List Loc} {cells slots : Nat} {acc x : Int32} (K1 : x ≤ 0 → ∀ ls, lv_has ls 40 [(27, .int x), (26, .int acc), (25, .int y25), (24, .int y24), (23, .int (nI ((15 * i) + (3 * k)))), (22, .int (nI k)), (0, .ref b), (1, .ref o), (2, .ref (ad 2)), (3, .ref (ad 3)), (4, .ref (ad 4)), (5, .ref (ad 5)), (6, .ref (ad 6)), (7, .ref (ad 7)), (8, .ref (ad 8)), (9, .ref (ad 9)), (10, .ref (ad 10)), (11, .int (nI t)), (12, .int v12), (13, .int u), (14, .int (nI i)), (15, .int (nI (14 * i))), (16, .int (nI v)), (17, .int 1)] → W p l e R s m args below meth c H locs cells slots Q (F0 m 1351 ls [])) (K2 : ¬ x ≤ 0 → ∀ ls, lv_has ls 40 [(27, .int (x >>> (1 &&& 31))), (26, .int (acc + (x &&& 1))), (25, .int y25), (24, .int y24), (23, .int (nI ((15 * i) + (3 * k)))), (22, .int (nI k)), (0, .ref b), (1, .ref o), (2, .ref (ad 2)), (3, .ref (ad 3)), (4, .ref (ad 4)), (5, .ref (ad 5)), (6, .ref (ad 6)), (7, .ref (ad 7)), (8, .ref (ad 8)), (9, .ref (ad 9)), (10, .ref (ad 10)), (11, .int (nI t)), (12, .int v12), (13, .int u), (14, .int (nI i)), (15, .int (nI (14 * i))), (16, .int (nI v)), (17, .int 1)] → W p l e R s m args below meth c H locs cells slots Q (F0 m 1328 ls [])) {ls : Array Slot} (hl : lv_has ls 40 [(27, .int x), (26, .int acc), (25, .int y25), (24, .int y24), (23, .int (nI ((15 * i) + (3 * k)))), (22, .int (nI k)), (0, .ref b), (1, .ref o), (2, .ref (ad 2)), (3, .ref (ad 3)), (4, .ref (ad 4)), (5, .ref (ad 5)), (6, .ref (ad 6)), (7, .ref (ad 7)), (8, .ref (ad 8)), (9, .ref (ad 9)), (10, .ref (ad 10)), (11, .int (nI t)), (12, .int v12), (13, .int u), (14, .int (nI i)), (15, .int (nI (14 * i))), (16, .int (nI v)), (17, .int 1)]) : W p l e R s m args below meth c H locs cells slots Q (F0 m 1328 ls []) := by
  refine lv_iload F.1 F.2.1 dL_law_1328 (lv_at hl 0 rfl) ?_
  refine lv_if_le (tgt := 1351) F.1 F.2.1 dL_law_1330 (by decide) (fun c_1 => ?_) (fun c_1 => ?_)
  · exact K1 c_1 ls hl
  · refine lv_iload F.1 F.2.1 dL_law_1333 (lv_at hl 1 rfl) ?_
    refine lv_iload F.1 F.2.1 dL_law_1335 (lv_at hl 0 rfl) ?_
    refine lv_iconst (v := 1) F.1 F.2.1 dL_law_1337 (by decide) ?_
    refine lv_iand F.1 F.2.1 dL_law_1338 ?_
    refine lv_iadd F.1 F.2.1 dL_law_1339 ?_
    refine lv_istore (lv' := [(26, .int (acc + (x &&& 1))), (27, .int x), (25, .int y25), (24, .int y24), (23, .int (nI ((15 * i) + (3 * k)))), (22, .int (nI k)), (0, .ref b), (1, .ref o), (2, .ref (ad 2)), (3, .ref (ad 3)), (4, .ref (ad 4)), (5, .ref (ad 5)), (6, .ref (ad 6)), (7, .ref (ad 7)), (8, .ref (ad 8)), (9, .ref (ad 9)), (10, .ref (ad 10)), (11, .int (nI t)), (12, .int v12), (13, .int u), (14, .int (nI i)), (15, .int (nI (14 * i))), (16, .int (nI v)), (17, .int 1)]) F.1 F.2.1 dL_law_1340 hl (by decide) rfl (fun ls hl => ?_)
    refine lv_iload F.1 F.2.1 dL_law_1342 (lv_at hl 1 rfl) ?_
    refine lv_iconst (v := 1) F.1 F.2.1 dL_law_1344 (by decide) ?_
    refine lv_ishr F.1 F.2.1 dL_law_1345 ?_
    refine lv_istore (lv' := [(27, .int (x >>> (1 &&& 31))), (26, .int (acc + (x &&& 1))), (25, .int y25), (24, .int y24), (23, .int (nI ((15 * i) + (3 * k)))), (22, .int (nI k)), (0, .ref b), (1, .ref o), (2, .ref (ad 2)), (3, .ref (ad 3)), (4, .ref (ad 4)), (5, .ref (ad 5)), (6, .ref (ad 6)), (7, .ref (ad 7)), (8, .ref (ad 8)), (9, .ref (ad 9)), (10, .ref (ad 10)), (11, .int (nI t)), (12, .int v12), (13, .int u), (14, .int (nI i)), (15, .int (nI (14 * i))), (16, .int (nI v)), (17, .int 1)]) F.1 F.2.1 dL_law_1346 hl (by decide) rfl (fun ls hl => ?_)
    refine lv_goto (tgt := 1328) F.1 F.2.1 dL_law_1348 (by decide) ?_
    exact K2 c_1 ls (lv_sub hl [0, 1, 2, 3, 4, 5, 6, 7, 8, 9, 10, 11, 12, 13, 14, 15, 16, 17, 18, 19, 20, 21, 22, 23] rfl)
theorem lc_mk9 {p : Program} {l : Launch} {e : Env} {R : Room} {s : State} {m : MethodId} {args : Array Value} {below : List Frame} {meth : Method} {c : Code} {Q : State → Prop} {b o t i v k : Nat} {ad : Nat → Nat} {u v12 y24 y25 : Int32} (F : CallFix p m c cL_law 40 s args BIG RL) {H : Heap} {locs : List Loc} {cells slots : Nat} : ∀ (f : Nat) (acc x : Int32), x.toInt < 2 ^ f → (∀ ls x' a', a' = mkL f acc x → lv_has ls 40 [(27, .int x'), (26, .int a'), (25, .int y25), (24, .int y24), (23, .int (nI ((15 * i) + (3 * k)))), (22, .int (nI k)), (0, .ref b), (1, .ref o), (2, .ref (ad 2)), (3, .ref (ad 3)), (4, .ref (ad 4)), (5, .ref (ad 5)), (6, .ref (ad 6)), (7, .ref (ad 7)), (8, .ref (ad 8)), (9, .ref (ad 9)), (10, .ref (ad 10)), (11, .int (nI t)), (12, .int v12), (13, .int u), (14, .int (nI i)), (15, .int (nI (14 * i))), (16, .int (nI v)), (17, .int 1)] → W p l e R s m args below meth c H locs cells slots Q (F0 m 1351 ls [])) → ∀ ls, lv_has ls 40 [(27, .int x), (26, .int acc), (25, .int y25), (24, .int y24), (23, .int (nI ((15 * i) + (3 * k)))), (22, .int (nI k)), (0, .ref b), (1, .ref o), (2, .ref (ad 2)), (3, .ref (ad 3)), (4, .ref (ad 4)), (5, .ref (ad 5)), (6, .ref (ad 6)), (7, .ref (ad 7)), (8, .ref (ad 8)), (9, .ref (ad 9)), (10, .ref (ad 10)), (11, .int (nI t)), (12, .int v12), (13, .int u), (14, .int (nI i)), (15, .int (nI (14 * i))), (16, .int (nI v)), (17, .int 1)] → W p l e R s m args below meth c H locs cells slots Q (F0 m 1328 ls [])
  | 0, acc, x, hx, kk, ls, hl => lc_mk1 F (fun _ ls hl => kk ls x acc rfl hl) (fun c => absurd (Int32.le_iff_toInt_le.mpr (by show x.toInt ≤ (0 : Int); omega)) c) hl
  | f + 1, acc, x, hx, kk, ls, hl => lc_mk1 F (fun c ls hl => kk ls x acc (if_pos c).symm hl) (fun c ls hl => by
      obtain ⟨z, z1, z2⟩ := nI_of (x := x) (fun q => c (Int32.le_of_lt q))
      have e2 : x >>> (1 &&& 31) = nI (z / 2 ^ 1) := by rw [z2]; exact pk_shrN z1 _ 1 (by decide)
      have hz : z < 2 ^ (f + 1) := by rw [z2, nI_toInt z1] at hx; exact_mod_cast hx
      refine lc_mk9 F f _ _ ?_ (fun ls x' a' e hl => kk ls x' a' (e.trans (if_neg c).symm) hl) ls hl
      rw [e2, nI_toInt (by omega)]
      have : z / 2 ^ 1 < 2 ^ f := by rw [Nat.pow_succ] at hz; omega
      exact_mod_cast this) hl
theorem lc_mk {p : Program} {l : Launch} {e : Env} {R : Room} {s : State} {m : MethodId} {args : Array Value} {below : List Frame} {meth : Method} {c : Code} {Q : State → Prop} {b o t i v k : Nat} {ad : Nat → Nat} {u v12 y24 y25 : Int32} (F : CallFix p m c cL_law 40 s args BIG RL) {H : Heap} {locs : List Loc} {cells slots : Nat} {acc x : Int32} {ls : Array Slot} (hl : lv_has ls 40 [(27, .int x), (26, .int acc), (25, .int y25), (24, .int y24), (23, .int (nI ((15 * i) + (3 * k)))), (22, .int (nI k)), (0, .ref b), (1, .ref o), (2, .ref (ad 2)), (3, .ref (ad 3)), (4, .ref (ad 4)), (5, .ref (ad 5)), (6, .ref (ad 6)), (7, .ref (ad 7)), (8, .ref (ad 8)), (9, .ref (ad 9)), (10, .ref (ad 10)), (11, .int (nI t)), (12, .int v12), (13, .int u), (14, .int (nI i)), (15, .int (nI (14 * i))), (16, .int (nI v)), (17, .int 1)]) (kk : ∀ ls x', lv_has ls 40 [(27, .int x'), (26, .int (mkL 31 acc x)), (25, .int y25), (24, .int y24), (23, .int (nI ((15 * i) + (3 * k)))), (22, .int (nI k)), (0, .ref b), (1, .ref o), (2, .ref (ad 2)), (3, .ref (ad 3)), (4, .ref (ad 4)), (5, .ref (ad 5)), (6, .ref (ad 6)), (7, .ref (ad 7)), (8, .ref (ad 8)), (9, .ref (ad 9)), (10, .ref (ad 10)), (11, .int (nI t)), (12, .int v12), (13, .int u), (14, .int (nI i)), (15, .int (nI (14 * i))), (16, .int (nI v)), (17, .int 1)] → W p l e R s m args below meth c H locs cells slots Q (F0 m 1351 ls [])) : W p l e R s m args below meth c H locs cells slots Q (F0 m 1328 ls []) := lc_mk9 F 31 acc x (Int32.toInt_lt x) (fun ls x' a' e hl => by subst e; exact kk ls x' hl) ls hl
set_option maxHeartbeats 4000000 in
set_option maxRecDepth 100000 in
theorem lc_en_a {p : Program} {l : Launch} {e : Env} {R : Room} {s : State} {m : MethodId} {args : Array Value} {below : List Frame} {meth : Method} {c : Code} {Q : State → Prop} {D : va_G} {cy : Nat → ClassId} {A : Nat → Prop} {o b t i v : Nat} {ad : Nat → Nat} {u v12 : Int32} {n n1 c1 s1 : Nat} {G M S : GS} {Wf : Nat → Int64} {k : Nat} (F : CallFix p m c cL_law 40 s args BIG RL) (hlf : l.stackTraces = false) (hRm : 11 ≤ R.frames ∧ 278 ≤ R.locals ∧ c1 ≤ R.cells ∧ s1 ≤ R.slots) (h511 : n1 ≤ 511) (K : KJ p l e R s m args below meth c Q D cy A o b t ad u n1 c1 s1) (hR : R26 n G M S Wf) (hi4 : i < 4) (hk5 : k < 5) (hi : i < gnS M) {D9 T9 b9 e9 t9 : Nat} (q9 : EC M S i k D9 T9 b9 e9) (ht : M 1 0 = nI t9) (ht9 : t9 ≤ 9000) (hDt : D9 ≤ t9) (KN : ∀ {n : Nat} {G M S : GS} {Wf : Nat → Int64} {X Y : MU} {AD : AM} {H : Heap} {locs : List Loc} {cells slots : Nat} {ls : Array Slot}, R26 n G M S Wf → i < gnS M → k < 5 → (cells + (5 - (k + 1)) ≤ c1 ∧ slots + 6 * (5 - (k + 1)) ≤ s1) → n + 0 ≤ n1 → AD 0 0 0 = o → dis X Y → RepC cy AD G X → RepL cy ad S Wf Y → WW D cy A (un X Y) s H locs → lv_has ls 40 [(22, .int (nI (k + 1))), (0, .ref b), (1, .ref o), (2, .ref (ad 2)), (3, .ref (ad 3)), (4, .ref (ad 4)), (5, .ref (ad 5)), (6, .ref (ad 6)), (7, .ref (ad 7)), (8, .ref (ad 8)), (9, .ref (ad 9)), (10, .ref (ad 10)), (11, .int (nI t)), (12, .int v12), (13, .int u), (14, .int (nI i)), (15, .int (nI (14 * i))), (16, .int (nI v)), (17, .int 1)] → W p l e R s m args below meth c H locs cells slots Q (F0 m 1165 ls [])) {X Y : MU} {AD : AM} {H : Heap} {locs : List Loc} {cells slots : Nat} (hf : cells + (5 - k) ≤ c1 ∧ slots + 6 * (5 - k) ≤ s1) (hn : n + 0 ≤ n1) (ho : AD 0 0 0 = o) (hd : dis X Y) (hM : RepC cy AD G X) (hY : RepL cy ad S Wf Y) (w : WW D cy A (un X Y) s H locs) {ls : Array Slot} (hl : lv_has ls 40 [(23, .int (nI ((15 * i) + (3 * k)))), (22, .int (nI k)), (0, .ref b), (1, .ref o), (2, .ref (ad 2)), (3, .ref (ad 3)), (4, .ref (ad 4)), (5, .ref (ad 5)), (6, .ref (ad 6)), (7, .ref (ad 7)), (8, .ref (ad 8)), (9, .ref (ad 9)), (10, .ref (ad 10)), (11, .int (nI t)), (12, .int v12), (13, .int u), (14, .int (nI i)), (15, .int (nI (14 * i))), (16, .int (nI v)), (17, .int 1)]) : W p l e R s m args below meth c H locs cells slots Q (F0 m 1195 ls []) := by
  have hL := hY.un hd
  have hb4 := hR.b
  have heV := hR.eV
  have hT9 := q9.2.2.2.1
  have hD9 := q9.2.1
  obtain ⟨y9, ey⟩ : ∃ y9, y9 = ((t9 - D9) + 90) / 365 := ⟨_, rfl⟩
  refine lv_aload F.1 F.2.1 dL_law_1195 (lv_at hl 12 rfl) ?_
  refine lv_iconst (v := 0) F.1 F.2.1 dL_law_1197 (by decide) ?_
  refine l_ild F w hL 10 rfl 0 (show 0 < 9 by omega) dL_law_1198 ?_
  refine lv_fold (y := nI t9) (hR.g0.trans ht) ?_
  refine lv_aload_n F.1 F.2.1 dL_law_1199 rfl (lv_at hl 5 rfl) ?_
  refine lv_iload F.1 F.2.1 dL_law_1200 (lv_at hl 0 rfl) ?_
  refine l_ild F w hL 3 rfl ((15 * i) + (3 * k)) (show (15 * i) + (3 * k) < 60 by omega) dL_law_1202 ?_
  refine lv_fold (y := nI D9) (q9.2.2.2.2.2.2.2.2.2.1) ?_
  refine lv_isub F.1 F.2.1 dL_law_1203 ?_
  refine lv_fold (y := nI (t9 - D9)) (pk_sub (a := t9) (b := D9) (by omega)) ?_
  refine lv_bipush (v := 90) F.1 F.2.1 dL_law_1204 (by decide) ?_
  refine lv_iadd F.1 F.2.1 dL_law_1206 ?_
  refine lv_fold (y := nI ((t9 - D9) + 90)) (nI_add (t9 - D9) 90) ?_
  refine lv_sipush (v := 365) F.1 F.2.1 dL_law_1207 (by decide) ?_
  refine lv_idiv F.1 F.2.1 dL_law_1210 (by decide) ?_
  refine lv_fold (y := nI y9) (by rw [ey]; exact pk_div (d := 365) (by omega) (by decide) (by decide)) ?_
  refine lv_istore (lv' := [(24, .int (nI y9)), (23, .int (nI ((15 * i) + (3 * k)))), (22, .int (nI k)), (0, .ref b), (1, .ref o), (2, .ref (ad 2)), (3, .ref (ad 3)), (4, .ref (ad 4)), (5, .ref (ad 5)), (6, .ref (ad 6)), (7, .ref (ad 7)), (8, .ref (ad 8)), (9, .ref (ad 9)), (10, .ref (ad 10)), (11, .int (nI t)), (12, .int v12), (13, .int u), (14, .int (nI i)), (15, .int (nI (14 * i))), (16, .int (nI v)), (17, .int 1)]) F.1 F.2.1 dL_law_1211 hl (by decide) rfl (fun ls hl => ?_)
  refine lv_iload F.1 F.2.1 dL_law_1213 (lv_at hl 17 rfl) ?_
  refine lv_aload_n F.1 F.2.1 dL_law_1215 rfl (lv_at hl 6 rfl) ?_
  refine lv_aload F.1 F.2.1 dL_law_1216 (lv_at hl 13 rfl) ?_
  refine q_rS (rest := []) F w kS_L_130 hd_L_lapsed (c_L_lapsed l D cy A _ ad S Wf hL i (show i < 4 by omega) hR.cok) dL_law_1218 rfl rfl hl.1 ⟨rfl, rfl, (show 2 ≤ R.frames by omega), (show 51 ≤ R.locals by omega)⟩ (Nat.le_of_ble_eq_true rfl) ⟨by omega, by omega⟩ ?_
  refine lv_iload F.1 F.2.1 dL_law_1221 (lv_at hl 2 rfl) ?_
  refine lv_ishr F.1 F.2.1 dL_law_1223 ?_
  refine lv_iconst (v := 1) F.1 F.2.1 dL_law_1224 (by decide) ?_
  refine lv_iand F.1 F.2.1 dL_law_1225 ?_
  refine lv_if_ne (tgt := 1290) F.1 F.2.1 dL_law_1226 (by decide) (fun c_1 => ?_) (fun c_1 => ?_)
  · refine lv_iconst (v := 0) F.1 F.2.1 dL_law_1290 (by decide) ?_
    refine lv_istore (lv' := [(25, .int 0), (24, .int (nI y9)), (23, .int (nI ((15 * i) + (3 * k)))), (22, .int (nI k)), (0, .ref b), (1, .ref o), (2, .ref (ad 2)), (3, .ref (ad 3)), (4, .ref (ad 4)), (5, .ref (ad 5)), (6, .ref (ad 6)), (7, .ref (ad 7)), (8, .ref (ad 8)), (9, .ref (ad 9)), (10, .ref (ad 10)), (11, .int (nI t)), (12, .int v12), (13, .int u), (14, .int (nI i)), (15, .int (nI (14 * i))), (16, .int (nI v)), (17, .int 1)]) F.1 F.2.1 dL_law_1291 hl (by decide) rfl (fun ls hl => ?_)
    refine lv_aload_n F.1 F.2.1 dL_law_1293 rfl (lv_at hl 7 rfl) ?_
    refine lv_iload F.1 F.2.1 dL_law_1294 (lv_at hl 2 rfl) ?_
    refine lv_iconst (v := 2) F.1 F.2.1 dL_law_1296 (by decide) ?_
    refine lv_iadd F.1 F.2.1 dL_law_1297 ?_
    refine lv_fold (y := nI ((15 * i) + (3 * k) + 2)) (nI_add ((15 * i) + (3 * k)) 2) ?_
    refine lv_dup2_11 F.1 F.2.1 dL_law_1298 rfl rfl ?_
    refine l_ild F w hL 3 rfl ((15 * i) + (3 * k) + 2) (show (15 * i) + (3 * k) + 2 < 60 by omega) dL_law_1299 ?_
    refine lv_iload F.1 F.2.1 dL_law_1300 (lv_at hl 0 rfl) ?_
    refine lv_if_eq (tgt := 1312) F.1 F.2.1 dL_law_1302 (by decide) (fun c_2 => ?_) (fun c_2 => absurd rfl c_2)
    refine lv_iconst (v := 0) F.1 F.2.1 dL_law_1312 (by decide) ?_
    refine lv_ior F.1 F.2.1 dL_law_1313 ?_
    refine l_ist F w hd hY 3 rfl ((15 * i) + (3 * k) + 2) (show (15 * i) + (3 * k) + 2 < 60 by omega) dL_law_1314 (fun H locs Y hd hY w => ?_)
    have hL := hY.un hd
    refine lv_iconst (v := 0) F.1 F.2.1 dL_law_1315 (by decide) ?_
    refine lv_istore (lv' := [(26, .int 0), (25, .int 0), (24, .int (nI y9)), (23, .int (nI ((15 * i) + (3 * k)))), (22, .int (nI k)), (0, .ref b), (1, .ref o), (2, .ref (ad 2)), (3, .ref (ad 3)), (4, .ref (ad 4)), (5, .ref (ad 5)), (6, .ref (ad 6)), (7, .ref (ad 7)), (8, .ref (ad 8)), (9, .ref (ad 9)), (10, .ref (ad 10)), (11, .int (nI t)), (12, .int v12), (13, .int u), (14, .int (nI i)), (15, .int (nI (14 * i))), (16, .int (nI v)), (17, .int 1)]) F.1 F.2.1 dL_law_1316 hl (by decide) rfl (fun ls hl => ?_)
    refine lv_aload_n F.1 F.2.1 dL_law_1318 rfl (lv_at hl 8 rfl) ?_
    refine lv_iload F.1 F.2.1 dL_law_1319 (lv_at hl 3 rfl) ?_
    refine lv_iconst (v := 2) F.1 F.2.1 dL_law_1321 (by decide) ?_
    refine lv_iadd F.1 F.2.1 dL_law_1322 ?_
    refine lv_fold (y := nI ((15 * i) + (3 * k) + 2)) (nI_add ((15 * i) + (3 * k)) 2) ?_
    refine l_ild F w hL 3 rfl ((15 * i) + (3 * k) + 2) (show (15 * i) + (3 * k) + 2 < 60 by omega) dL_law_1323 ?_
    refine lv_fold (y := (S 3 ((15 * i) + (3 * k) + 2)) ||| 0) (up2_s) ?_
    refine lv_iconst (v := 2) F.1 F.2.1 dL_law_1324 (by decide) ?_
    refine lv_ishr F.1 F.2.1 dL_law_1325 ?_
    refine lv_istore (lv' := [(27, .int (((S 3 ((15 * i) + (3 * k) + 2)) ||| 0) >>> (2 &&& 31))), (26, .int 0), (25, .int 0), (24, .int (nI y9)), (23, .int (nI ((15 * i) + (3 * k)))), (22, .int (nI k)), (0, .ref b), (1, .ref o), (2, .ref (ad 2)), (3, .ref (ad 3)), (4, .ref (ad 4)), (5, .ref (ad 5)), (6, .ref (ad 6)), (7, .ref (ad 7)), (8, .ref (ad 8)), (9, .ref (ad 9)), (10, .ref (ad 10)), (11, .int (nI t)), (12, .int v12), (13, .int u), (14, .int (nI i)), (15, .int (nI (14 * i))), (16, .int (nI v)), (17, .int 1)]) F.1 F.2.1 dL_law_1326 hl (by decide) rfl (fun ls hl => ?_)
    refine lc_mk F (lv_sub hl [0, 1, 2, 3, 4, 5, 6, 7, 8, 9, 10, 11, 12, 13, 14, 15, 16, 17, 18, 19, 20, 21, 22, 23] rfl) (fun ls x9 hl => ?_)
    refine lv_iload F.1 F.2.1 dL_law_1351 (lv_at hl 23 rfl) ?_
    refine lv_aload_n F.1 F.2.1 dL_law_1353 rfl (lv_at hl 7 rfl) ?_
    refine lv_iload F.1 F.2.1 dL_law_1354 (lv_at hl 20 rfl) ?_
    refine lv_iload F.1 F.2.1 dL_law_1356 (lv_at hl 5 rfl) ?_
    refine lw_endorse (rest := [.int 1]) F w hd hM ho hR.r.ic (nI i) (nI k) hlf dL_law_1358 hl.1 ⟨by omega, by omega⟩ (Nat.le_of_ble_eq_true rfl) ⟨by omega, by omega⟩ (fun v1358 X AD H locs hv1358 ho hd hM w => ?_)
    have hL := hY.un hd
    refine lv_fold (y := (-7300)) (hv1358.trans ((en_no0 hR hi hk5 c_1).1)) ?_
    refine lv_iload F.1 F.2.1 dL_law_1361 (lv_at hl 2 rfl) ?_
    refine lv_if_eq (tgt := 1371) F.1 F.2.1 dL_law_1363 (by decide) (fun c_3 => ?_) (fun c_3 => absurd rfl c_3)
    refine lv_sipush (v := -7300) F.1 F.2.1 dL_law_1371 (by decide) ?_
    refine lv_icmp_ne (tgt := 1381) F.1 F.2.1 dL_law_1374 (by decide) (fun c_4 => absurd rfl c_4) (fun c_4 => ?_)
    refine lv_iconst (v := 1) F.1 F.2.1 dL_law_1377 (by decide) ?_
    refine lv_goto (tgt := 1382) F.1 F.2.1 dL_law_1378 (by decide) ?_
    refine lv_iand F.1 F.2.1 dL_law_1382 ?_
    refine lv_fold (y := 1) (by decide) ?_
    refine lv_istore (lv' := [(17, .int 1), (27, .int x9), (26, .int (mkL 31 0 (((S 3 ((15 * i) + (3 * k) + 2)) ||| 0) >>> (2 &&& 31)))), (25, .int 0), (24, .int (nI y9)), (23, .int (nI ((15 * i) + (3 * k)))), (22, .int (nI k)), (0, .ref b), (1, .ref o), (2, .ref (ad 2)), (3, .ref (ad 3)), (4, .ref (ad 4)), (5, .ref (ad 5)), (6, .ref (ad 6)), (7, .ref (ad 7)), (8, .ref (ad 8)), (9, .ref (ad 9)), (10, .ref (ad 10)), (11, .int (nI t)), (12, .int v12), (13, .int u), (14, .int (nI i)), (15, .int (nI (14 * i))), (16, .int (nI v))]) F.1 F.2.1 dL_law_1383 hl (by decide) rfl (fun ls hl => ?_)
    refine lv_iinc (v := nI (k + 1)) (lv' := [(22, .int (nI (k + 1))), (17, .int 1), (27, .int x9), (26, .int (mkL 31 0 (((S 3 ((15 * i) + (3 * k) + 2)) ||| 0) >>> (2 &&& 31)))), (25, .int 0), (24, .int (nI y9)), (23, .int (nI ((15 * i) + (3 * k)))), (0, .ref b), (1, .ref o), (2, .ref (ad 2)), (3, .ref (ad 3)), (4, .ref (ad 4)), (5, .ref (ad 5)), (6, .ref (ad 6)), (7, .ref (ad 7)), (8, .ref (ad 8)), (9, .ref (ad 9)), (10, .ref (ad 10)), (11, .int (nI t)), (12, .int v12), (13, .int u), (14, .int (nI i)), (15, .int (nI (14 * i))), (16, .int (nI v))]) F.1 F.2.1 dL_law_1385 hl (k := 6) rfl (nI_1 _) (by decide) rfl (fun ls hl => ?_)
    refine lv_goto (tgt := 1165) F.1 F.2.1 dL_law_1388 (by decide) ?_
    rw [(en_no0 hR hi hk5 c_1).2] at hM
    rw [en_or0] at hY
    exact KN hR hi hk5 ⟨by omega, by omega⟩ (by omega) ho hd hM hY w (lv_sub hl [0, 7, 8, 9, 10, 11, 12, 13, 14, 15, 16, 17, 18, 19, 20, 21, 22, 23, 1] rfl)
  · refine lv_iload F.1 F.2.1 dL_law_1229 (lv_at hl 0 rfl) ?_
    refine lv_if_le (tgt := 1290) F.1 F.2.1 dL_law_1231 (by decide) (fun c_5 => ?_) (fun c_5 => ?_)
    · refine lv_iconst (v := 0) F.1 F.2.1 dL_law_1290 (by decide) ?_
      refine lv_istore (lv' := [(25, .int 0), (24, .int (nI y9)), (23, .int (nI ((15 * i) + (3 * k)))), (22, .int (nI k)), (0, .ref b), (1, .ref o), (2, .ref (ad 2)), (3, .ref (ad 3)), (4, .ref (ad 4)), (5, .ref (ad 5)), (6, .ref (ad 6)), (7, .ref (ad 7)), (8, .ref (ad 8)), (9, .ref (ad 9)), (10, .ref (ad 10)), (11, .int (nI t)), (12, .int v12), (13, .int u), (14, .int (nI i)), (15, .int (nI (14 * i))), (16, .int (nI v)), (17, .int 1)]) F.1 F.2.1 dL_law_1291 hl (by decide) rfl (fun ls hl => ?_)
      refine lv_aload_n F.1 F.2.1 dL_law_1293 rfl (lv_at hl 7 rfl) ?_
      refine lv_iload F.1 F.2.1 dL_law_1294 (lv_at hl 2 rfl) ?_
      refine lv_iconst (v := 2) F.1 F.2.1 dL_law_1296 (by decide) ?_
      refine lv_iadd F.1 F.2.1 dL_law_1297 ?_
      refine lv_fold (y := nI ((15 * i) + (3 * k) + 2)) (nI_add ((15 * i) + (3 * k)) 2) ?_
      refine lv_dup2_11 F.1 F.2.1 dL_law_1298 rfl rfl ?_
      refine l_ild F w hL 3 rfl ((15 * i) + (3 * k) + 2) (show (15 * i) + (3 * k) + 2 < 60 by omega) dL_law_1299 ?_
      refine lv_iload F.1 F.2.1 dL_law_1300 (lv_at hl 0 rfl) ?_
      refine lv_if_eq (tgt := 1312) F.1 F.2.1 dL_law_1302 (by decide) (fun c_6 => ?_) (fun c_6 => absurd rfl c_6)
      refine lv_iconst (v := 0) F.1 F.2.1 dL_law_1312 (by decide) ?_
      refine lv_ior F.1 F.2.1 dL_law_1313 ?_
      refine l_ist F w hd hY 3 rfl ((15 * i) + (3 * k) + 2) (show (15 * i) + (3 * k) + 2 < 60 by omega) dL_law_1314 (fun H locs Y hd hY w => ?_)
      have hL := hY.un hd
      refine lv_iconst (v := 0) F.1 F.2.1 dL_law_1315 (by decide) ?_
      refine lv_istore (lv' := [(26, .int 0), (25, .int 0), (24, .int (nI y9)), (23, .int (nI ((15 * i) + (3 * k)))), (22, .int (nI k)), (0, .ref b), (1, .ref o), (2, .ref (ad 2)), (3, .ref (ad 3)), (4, .ref (ad 4)), (5, .ref (ad 5)), (6, .ref (ad 6)), (7, .ref (ad 7)), (8, .ref (ad 8)), (9, .ref (ad 9)), (10, .ref (ad 10)), (11, .int (nI t)), (12, .int v12), (13, .int u), (14, .int (nI i)), (15, .int (nI (14 * i))), (16, .int (nI v)), (17, .int 1)]) F.1 F.2.1 dL_law_1316 hl (by decide) rfl (fun ls hl => ?_)
      refine lv_aload_n F.1 F.2.1 dL_law_1318 rfl (lv_at hl 8 rfl) ?_
      refine lv_iload F.1 F.2.1 dL_law_1319 (lv_at hl 3 rfl) ?_
      refine lv_iconst (v := 2) F.1 F.2.1 dL_law_1321 (by decide) ?_
      refine lv_iadd F.1 F.2.1 dL_law_1322 ?_
      refine lv_fold (y := nI ((15 * i) + (3 * k) + 2)) (nI_add ((15 * i) + (3 * k)) 2) ?_
      refine l_ild F w hL 3 rfl ((15 * i) + (3 * k) + 2) (show (15 * i) + (3 * k) + 2 < 60 by omega) dL_law_1323 ?_
      refine lv_fold (y := (S 3 ((15 * i) + (3 * k) + 2)) ||| 0) (up2_s) ?_
      refine lv_iconst (v := 2) F.1 F.2.1 dL_law_1324 (by decide) ?_
      refine lv_ishr F.1 F.2.1 dL_law_1325 ?_
      refine lv_istore (lv' := [(27, .int (((S 3 ((15 * i) + (3 * k) + 2)) ||| 0) >>> (2 &&& 31))), (26, .int 0), (25, .int 0), (24, .int (nI y9)), (23, .int (nI ((15 * i) + (3 * k)))), (22, .int (nI k)), (0, .ref b), (1, .ref o), (2, .ref (ad 2)), (3, .ref (ad 3)), (4, .ref (ad 4)), (5, .ref (ad 5)), (6, .ref (ad 6)), (7, .ref (ad 7)), (8, .ref (ad 8)), (9, .ref (ad 9)), (10, .ref (ad 10)), (11, .int (nI t)), (12, .int v12), (13, .int u), (14, .int (nI i)), (15, .int (nI (14 * i))), (16, .int (nI v)), (17, .int 1)]) F.1 F.2.1 dL_law_1326 hl (by decide) rfl (fun ls hl => ?_)
      refine lc_mk F (lv_sub hl [0, 1, 2, 3, 4, 5, 6, 7, 8, 9, 10, 11, 12, 13, 14, 15, 16, 17, 18, 19, 20, 21, 22, 23] rfl) (fun ls x9 hl => ?_)
      refine lv_iload F.1 F.2.1 dL_law_1351 (lv_at hl 23 rfl) ?_
      refine lv_aload_n F.1 F.2.1 dL_law_1353 rfl (lv_at hl 7 rfl) ?_
      refine lv_iload F.1 F.2.1 dL_law_1354 (lv_at hl 20 rfl) ?_
      refine lv_iload F.1 F.2.1 dL_law_1356 (lv_at hl 5 rfl) ?_
      refine lw_endorse (rest := [.int 1]) F w hd hM ho hR.r.ic (nI i) (nI k) hlf dL_law_1358 hl.1 ⟨by omega, by omega⟩ (Nat.le_of_ble_eq_true rfl) ⟨by omega, by omega⟩ (fun v1358 X AD H locs hv1358 ho hd hM w => ?_)
      have hL := hY.un hd
      refine lv_fold (y := (-7300)) (hv1358.trans ((en_no3 hR hi hk5 q9 ht ht9 hDt ey (Or.inl c_5)).1)) ?_
      refine lv_iload F.1 F.2.1 dL_law_1361 (lv_at hl 2 rfl) ?_
      refine lv_if_eq (tgt := 1371) F.1 F.2.1 dL_law_1363 (by decide) (fun c_7 => ?_) (fun c_7 => absurd rfl c_7)
      refine lv_sipush (v := -7300) F.1 F.2.1 dL_law_1371 (by decide) ?_
      refine lv_icmp_ne (tgt := 1381) F.1 F.2.1 dL_law_1374 (by decide) (fun c_8 => absurd rfl c_8) (fun c_8 => ?_)
      refine lv_iconst (v := 1) F.1 F.2.1 dL_law_1377 (by decide) ?_
      refine lv_goto (tgt := 1382) F.1 F.2.1 dL_law_1378 (by decide) ?_
      refine lv_iand F.1 F.2.1 dL_law_1382 ?_
      refine lv_fold (y := 1) (by decide) ?_
      refine lv_istore (lv' := [(17, .int 1), (27, .int x9), (26, .int (mkL 31 0 (((S 3 ((15 * i) + (3 * k) + 2)) ||| 0) >>> (2 &&& 31)))), (25, .int 0), (24, .int (nI y9)), (23, .int (nI ((15 * i) + (3 * k)))), (22, .int (nI k)), (0, .ref b), (1, .ref o), (2, .ref (ad 2)), (3, .ref (ad 3)), (4, .ref (ad 4)), (5, .ref (ad 5)), (6, .ref (ad 6)), (7, .ref (ad 7)), (8, .ref (ad 8)), (9, .ref (ad 9)), (10, .ref (ad 10)), (11, .int (nI t)), (12, .int v12), (13, .int u), (14, .int (nI i)), (15, .int (nI (14 * i))), (16, .int (nI v))]) F.1 F.2.1 dL_law_1383 hl (by decide) rfl (fun ls hl => ?_)
      refine lv_iinc (v := nI (k + 1)) (lv' := [(22, .int (nI (k + 1))), (17, .int 1), (27, .int x9), (26, .int (mkL 31 0 (((S 3 ((15 * i) + (3 * k) + 2)) ||| 0) >>> (2 &&& 31)))), (25, .int 0), (24, .int (nI y9)), (23, .int (nI ((15 * i) + (3 * k)))), (0, .ref b), (1, .ref o), (2, .ref (ad 2)), (3, .ref (ad 3)), (4, .ref (ad 4)), (5, .ref (ad 5)), (6, .ref (ad 6)), (7, .ref (ad 7)), (8, .ref (ad 8)), (9, .ref (ad 9)), (10, .ref (ad 10)), (11, .int (nI t)), (12, .int v12), (13, .int u), (14, .int (nI i)), (15, .int (nI (14 * i))), (16, .int (nI v))]) F.1 F.2.1 dL_law_1385 hl (k := 6) rfl (nI_1 _) (by decide) rfl (fun ls hl => ?_)
      refine lv_goto (tgt := 1165) F.1 F.2.1 dL_law_1388 (by decide) ?_
      rw [(en_no3 hR hi hk5 q9 ht ht9 hDt ey (Or.inl c_5)).2] at hM
      rw [en_or0] at hY
      exact KN hR hi hk5 ⟨by omega, by omega⟩ (by omega) ho hd hM hY w (lv_sub hl [0, 7, 8, 9, 10, 11, 12, 13, 14, 15, 16, 17, 18, 19, 20, 21, 22, 23, 1] rfl)
    · refine lv_sipush (v := 365) F.1 F.2.1 dL_law_1234 (by decide) ?_
      refine lv_iload F.1 F.2.1 dL_law_1237 (lv_at hl 0 rfl) ?_
      refine lv_imul F.1 F.2.1 dL_law_1239 ?_
      refine lv_fold (y := nI (365 * y9)) (pk_mul 365 y9) ?_
      refine lv_aload_n F.1 F.2.1 dL_law_1240 rfl (lv_at hl 6 rfl) ?_
      refine lv_iload F.1 F.2.1 dL_law_1241 (lv_at hl 1 rfl) ?_
      refine lv_iconst (v := 1) F.1 F.2.1 dL_law_1243 (by decide) ?_
      refine lv_iadd F.1 F.2.1 dL_law_1244 ?_
      refine lv_fold (y := nI ((15 * i) + (3 * k) + 1)) (nI_add ((15 * i) + (3 * k)) 1) ?_
      refine l_ild F w hL 3 rfl ((15 * i) + (3 * k) + 1) (show (15 * i) + (3 * k) + 1 < 60 by omega) dL_law_1245 ?_
      refine lv_fold (y := nI T9) (q9.2.2.2.2.2.2.2.2.2.2.1) ?_
      refine lv_icmp_ge (tgt := 1290) F.1 F.2.1 dL_law_1246 (by decide) (fun c_9 => ?_) (fun c_9 => ?_)
      · refine lv_iconst (v := 0) F.1 F.2.1 dL_law_1290 (by decide) ?_
        refine lv_istore (lv' := [(25, .int 0), (24, .int (nI y9)), (23, .int (nI ((15 * i) + (3 * k)))), (22, .int (nI k)), (0, .ref b), (1, .ref o), (2, .ref (ad 2)), (3, .ref (ad 3)), (4, .ref (ad 4)), (5, .ref (ad 5)), (6, .ref (ad 6)), (7, .ref (ad 7)), (8, .ref (ad 8)), (9, .ref (ad 9)), (10, .ref (ad 10)), (11, .int (nI t)), (12, .int v12), (13, .int u), (14, .int (nI i)), (15, .int (nI (14 * i))), (16, .int (nI v)), (17, .int 1)]) F.1 F.2.1 dL_law_1291 hl (by decide) rfl (fun ls hl => ?_)
        refine lv_aload_n F.1 F.2.1 dL_law_1293 rfl (lv_at hl 7 rfl) ?_
        refine lv_iload F.1 F.2.1 dL_law_1294 (lv_at hl 2 rfl) ?_
        refine lv_iconst (v := 2) F.1 F.2.1 dL_law_1296 (by decide) ?_
        refine lv_iadd F.1 F.2.1 dL_law_1297 ?_
        refine lv_fold (y := nI ((15 * i) + (3 * k) + 2)) (nI_add ((15 * i) + (3 * k)) 2) ?_
        refine lv_dup2_11 F.1 F.2.1 dL_law_1298 rfl rfl ?_
        refine l_ild F w hL 3 rfl ((15 * i) + (3 * k) + 2) (show (15 * i) + (3 * k) + 2 < 60 by omega) dL_law_1299 ?_
        refine lv_iload F.1 F.2.1 dL_law_1300 (lv_at hl 0 rfl) ?_
        refine lv_if_eq (tgt := 1312) F.1 F.2.1 dL_law_1302 (by decide) (fun c_10 => ?_) (fun c_10 => absurd rfl c_10)
        refine lv_iconst (v := 0) F.1 F.2.1 dL_law_1312 (by decide) ?_
        refine lv_ior F.1 F.2.1 dL_law_1313 ?_
        refine l_ist F w hd hY 3 rfl ((15 * i) + (3 * k) + 2) (show (15 * i) + (3 * k) + 2 < 60 by omega) dL_law_1314 (fun H locs Y hd hY w => ?_)
        have hL := hY.un hd
        refine lv_iconst (v := 0) F.1 F.2.1 dL_law_1315 (by decide) ?_
        refine lv_istore (lv' := [(26, .int 0), (25, .int 0), (24, .int (nI y9)), (23, .int (nI ((15 * i) + (3 * k)))), (22, .int (nI k)), (0, .ref b), (1, .ref o), (2, .ref (ad 2)), (3, .ref (ad 3)), (4, .ref (ad 4)), (5, .ref (ad 5)), (6, .ref (ad 6)), (7, .ref (ad 7)), (8, .ref (ad 8)), (9, .ref (ad 9)), (10, .ref (ad 10)), (11, .int (nI t)), (12, .int v12), (13, .int u), (14, .int (nI i)), (15, .int (nI (14 * i))), (16, .int (nI v)), (17, .int 1)]) F.1 F.2.1 dL_law_1316 hl (by decide) rfl (fun ls hl => ?_)
        refine lv_aload_n F.1 F.2.1 dL_law_1318 rfl (lv_at hl 8 rfl) ?_
        refine lv_iload F.1 F.2.1 dL_law_1319 (lv_at hl 3 rfl) ?_
        refine lv_iconst (v := 2) F.1 F.2.1 dL_law_1321 (by decide) ?_
        refine lv_iadd F.1 F.2.1 dL_law_1322 ?_
        refine lv_fold (y := nI ((15 * i) + (3 * k) + 2)) (nI_add ((15 * i) + (3 * k)) 2) ?_
        refine l_ild F w hL 3 rfl ((15 * i) + (3 * k) + 2) (show (15 * i) + (3 * k) + 2 < 60 by omega) dL_law_1323 ?_
        refine lv_fold (y := (S 3 ((15 * i) + (3 * k) + 2)) ||| 0) (up2_s) ?_
        refine lv_iconst (v := 2) F.1 F.2.1 dL_law_1324 (by decide) ?_
        refine lv_ishr F.1 F.2.1 dL_law_1325 ?_
        refine lv_istore (lv' := [(27, .int (((S 3 ((15 * i) + (3 * k) + 2)) ||| 0) >>> (2 &&& 31))), (26, .int 0), (25, .int 0), (24, .int (nI y9)), (23, .int (nI ((15 * i) + (3 * k)))), (22, .int (nI k)), (0, .ref b), (1, .ref o), (2, .ref (ad 2)), (3, .ref (ad 3)), (4, .ref (ad 4)), (5, .ref (ad 5)), (6, .ref (ad 6)), (7, .ref (ad 7)), (8, .ref (ad 8)), (9, .ref (ad 9)), (10, .ref (ad 10)), (11, .int (nI t)), (12, .int v12), (13, .int u), (14, .int (nI i)), (15, .int (nI (14 * i))), (16, .int (nI v)), (17, .int 1)]) F.1 F.2.1 dL_law_1326 hl (by decide) rfl (fun ls hl => ?_)
        refine lc_mk F (lv_sub hl [0, 1, 2, 3, 4, 5, 6, 7, 8, 9, 10, 11, 12, 13, 14, 15, 16, 17, 18, 19, 20, 21, 22, 23] rfl) (fun ls x9 hl => ?_)
        refine lv_iload F.1 F.2.1 dL_law_1351 (lv_at hl 23 rfl) ?_
        refine lv_aload_n F.1 F.2.1 dL_law_1353 rfl (lv_at hl 7 rfl) ?_
        refine lv_iload F.1 F.2.1 dL_law_1354 (lv_at hl 20 rfl) ?_
        refine lv_iload F.1 F.2.1 dL_law_1356 (lv_at hl 5 rfl) ?_
        refine lw_endorse (rest := [.int 1]) F w hd hM ho hR.r.ic (nI i) (nI k) hlf dL_law_1358 hl.1 ⟨by omega, by omega⟩ (Nat.le_of_ble_eq_true rfl) ⟨by omega, by omega⟩ (fun v1358 X AD H locs hv1358 ho hd hM w => ?_)
        have hL := hY.un hd
        refine lv_fold (y := (-7300)) (hv1358.trans ((en_no3 hR hi hk5 q9 ht ht9 hDt ey (Or.inr (Or.inl c_9))).1)) ?_
        refine lv_iload F.1 F.2.1 dL_law_1361 (lv_at hl 2 rfl) ?_
        refine lv_if_eq (tgt := 1371) F.1 F.2.1 dL_law_1363 (by decide) (fun c_11 => ?_) (fun c_11 => absurd rfl c_11)
        refine lv_sipush (v := -7300) F.1 F.2.1 dL_law_1371 (by decide) ?_
        refine lv_icmp_ne (tgt := 1381) F.1 F.2.1 dL_law_1374 (by decide) (fun c_12 => absurd rfl c_12) (fun c_12 => ?_)
        refine lv_iconst (v := 1) F.1 F.2.1 dL_law_1377 (by decide) ?_
        refine lv_goto (tgt := 1382) F.1 F.2.1 dL_law_1378 (by decide) ?_
        refine lv_iand F.1 F.2.1 dL_law_1382 ?_
        refine lv_fold (y := 1) (by decide) ?_
        refine lv_istore (lv' := [(17, .int 1), (27, .int x9), (26, .int (mkL 31 0 (((S 3 ((15 * i) + (3 * k) + 2)) ||| 0) >>> (2 &&& 31)))), (25, .int 0), (24, .int (nI y9)), (23, .int (nI ((15 * i) + (3 * k)))), (22, .int (nI k)), (0, .ref b), (1, .ref o), (2, .ref (ad 2)), (3, .ref (ad 3)), (4, .ref (ad 4)), (5, .ref (ad 5)), (6, .ref (ad 6)), (7, .ref (ad 7)), (8, .ref (ad 8)), (9, .ref (ad 9)), (10, .ref (ad 10)), (11, .int (nI t)), (12, .int v12), (13, .int u), (14, .int (nI i)), (15, .int (nI (14 * i))), (16, .int (nI v))]) F.1 F.2.1 dL_law_1383 hl (by decide) rfl (fun ls hl => ?_)
        refine lv_iinc (v := nI (k + 1)) (lv' := [(22, .int (nI (k + 1))), (17, .int 1), (27, .int x9), (26, .int (mkL 31 0 (((S 3 ((15 * i) + (3 * k) + 2)) ||| 0) >>> (2 &&& 31)))), (25, .int 0), (24, .int (nI y9)), (23, .int (nI ((15 * i) + (3 * k)))), (0, .ref b), (1, .ref o), (2, .ref (ad 2)), (3, .ref (ad 3)), (4, .ref (ad 4)), (5, .ref (ad 5)), (6, .ref (ad 6)), (7, .ref (ad 7)), (8, .ref (ad 8)), (9, .ref (ad 9)), (10, .ref (ad 10)), (11, .int (nI t)), (12, .int v12), (13, .int u), (14, .int (nI i)), (15, .int (nI (14 * i))), (16, .int (nI v))]) F.1 F.2.1 dL_law_1385 hl (k := 6) rfl (nI_1 _) (by decide) rfl (fun ls hl => ?_)
        refine lv_goto (tgt := 1165) F.1 F.2.1 dL_law_1388 (by decide) ?_
        rw [(en_no3 hR hi hk5 q9 ht ht9 hDt ey (Or.inr (Or.inl c_9))).2] at hM
        rw [en_or0] at hY
        exact KN hR hi hk5 ⟨by omega, by omega⟩ (by omega) ho hd hM hY w (lv_sub hl [0, 7, 8, 9, 10, 11, 12, 13, 14, 15, 16, 17, 18, 19, 20, 21, 22, 23, 1] rfl)
      · refine lv_aload F.1 F.2.1 dL_law_1249 (lv_at hl 13 rfl) ?_
        refine lv_iconst (v := 0) F.1 F.2.1 dL_law_1251 (by decide) ?_
        refine l_ild F w hL 10 rfl 0 (show 0 < 9 by omega) dL_law_1252 ?_
        refine lv_fold (y := nI t9) (hR.g0.trans ht) ?_
        refine lv_aload_n F.1 F.2.1 dL_law_1253 rfl (lv_at hl 6 rfl) ?_
        refine lv_iload F.1 F.2.1 dL_law_1254 (lv_at hl 1 rfl) ?_
        refine l_ild F w hL 3 rfl ((15 * i) + (3 * k)) (show (15 * i) + (3 * k) < 60 by omega) dL_law_1256 ?_
        refine lv_fold (y := nI D9) (q9.2.2.2.2.2.2.2.2.2.1) ?_
        refine lv_isub F.1 F.2.1 dL_law_1257 ?_
        refine lv_fold (y := nI (t9 - D9)) (pk_sub (a := t9) (b := D9) (by omega)) ?_
        refine lv_sipush (v := 365) F.1 F.2.1 dL_law_1258 (by decide) ?_
        refine lv_iload F.1 F.2.1 dL_law_1261 (lv_at hl 0 rfl) ?_
        refine lv_imul F.1 F.2.1 dL_law_1263 ?_
        refine lv_fold (y := nI (365 * y9)) (pk_mul 365 y9) ?_
        refine lv_bipush (v := 90) F.1 F.2.1 dL_law_1264 (by decide) ?_
        refine lv_iadd F.1 F.2.1 dL_law_1266 ?_
        refine lv_fold (y := nI ((365 * y9) + 90)) (nI_add (365 * y9) 90) ?_
        refine lv_icmp_gt (tgt := 1290) F.1 F.2.1 dL_law_1267 (by decide) (fun c_13 => ?_) (fun c_13 => ?_)
        · refine lv_iconst (v := 0) F.1 F.2.1 dL_law_1290 (by decide) ?_
          refine lv_istore (lv' := [(25, .int 0), (24, .int (nI y9)), (23, .int (nI ((15 * i) + (3 * k)))), (22, .int (nI k)), (0, .ref b), (1, .ref o), (2, .ref (ad 2)), (3, .ref (ad 3)), (4, .ref (ad 4)), (5, .ref (ad 5)), (6, .ref (ad 6)), (7, .ref (ad 7)), (8, .ref (ad 8)), (9, .ref (ad 9)), (10, .ref (ad 10)), (11, .int (nI t)), (12, .int v12), (13, .int u), (14, .int (nI i)), (15, .int (nI (14 * i))), (16, .int (nI v)), (17, .int 1)]) F.1 F.2.1 dL_law_1291 hl (by decide) rfl (fun ls hl => ?_)
          refine lv_aload_n F.1 F.2.1 dL_law_1293 rfl (lv_at hl 7 rfl) ?_
          refine lv_iload F.1 F.2.1 dL_law_1294 (lv_at hl 2 rfl) ?_
          refine lv_iconst (v := 2) F.1 F.2.1 dL_law_1296 (by decide) ?_
          refine lv_iadd F.1 F.2.1 dL_law_1297 ?_
          refine lv_fold (y := nI ((15 * i) + (3 * k) + 2)) (nI_add ((15 * i) + (3 * k)) 2) ?_
          refine lv_dup2_11 F.1 F.2.1 dL_law_1298 rfl rfl ?_
          refine l_ild F w hL 3 rfl ((15 * i) + (3 * k) + 2) (show (15 * i) + (3 * k) + 2 < 60 by omega) dL_law_1299 ?_
          refine lv_iload F.1 F.2.1 dL_law_1300 (lv_at hl 0 rfl) ?_
          refine lv_if_eq (tgt := 1312) F.1 F.2.1 dL_law_1302 (by decide) (fun c_14 => ?_) (fun c_14 => absurd rfl c_14)
          refine lv_iconst (v := 0) F.1 F.2.1 dL_law_1312 (by decide) ?_
          refine lv_ior F.1 F.2.1 dL_law_1313 ?_
          refine l_ist F w hd hY 3 rfl ((15 * i) + (3 * k) + 2) (show (15 * i) + (3 * k) + 2 < 60 by omega) dL_law_1314 (fun H locs Y hd hY w => ?_)
          have hL := hY.un hd
          refine lv_iconst (v := 0) F.1 F.2.1 dL_law_1315 (by decide) ?_
          refine lv_istore (lv' := [(26, .int 0), (25, .int 0), (24, .int (nI y9)), (23, .int (nI ((15 * i) + (3 * k)))), (22, .int (nI k)), (0, .ref b), (1, .ref o), (2, .ref (ad 2)), (3, .ref (ad 3)), (4, .ref (ad 4)), (5, .ref (ad 5)), (6, .ref (ad 6)), (7, .ref (ad 7)), (8, .ref (ad 8)), (9, .ref (ad 9)), (10, .ref (ad 10)), (11, .int (nI t)), (12, .int v12), (13, .int u), (14, .int (nI i)), (15, .int (nI (14 * i))), (16, .int (nI v)), (17, .int 1)]) F.1 F.2.1 dL_law_1316 hl (by decide) rfl (fun ls hl => ?_)
          refine lv_aload_n F.1 F.2.1 dL_law_1318 rfl (lv_at hl 8 rfl) ?_
          refine lv_iload F.1 F.2.1 dL_law_1319 (lv_at hl 3 rfl) ?_
          refine lv_iconst (v := 2) F.1 F.2.1 dL_law_1321 (by decide) ?_
          refine lv_iadd F.1 F.2.1 dL_law_1322 ?_
          refine lv_fold (y := nI ((15 * i) + (3 * k) + 2)) (nI_add ((15 * i) + (3 * k)) 2) ?_
          refine l_ild F w hL 3 rfl ((15 * i) + (3 * k) + 2) (show (15 * i) + (3 * k) + 2 < 60 by omega) dL_law_1323 ?_
          refine lv_fold (y := (S 3 ((15 * i) + (3 * k) + 2)) ||| 0) (up2_s) ?_
          refine lv_iconst (v := 2) F.1 F.2.1 dL_law_1324 (by decide) ?_
          refine lv_ishr F.1 F.2.1 dL_law_1325 ?_
          refine lv_istore (lv' := [(27, .int (((S 3 ((15 * i) + (3 * k) + 2)) ||| 0) >>> (2 &&& 31))), (26, .int 0), (25, .int 0), (24, .int (nI y9)), (23, .int (nI ((15 * i) + (3 * k)))), (22, .int (nI k)), (0, .ref b), (1, .ref o), (2, .ref (ad 2)), (3, .ref (ad 3)), (4, .ref (ad 4)), (5, .ref (ad 5)), (6, .ref (ad 6)), (7, .ref (ad 7)), (8, .ref (ad 8)), (9, .ref (ad 9)), (10, .ref (ad 10)), (11, .int (nI t)), (12, .int v12), (13, .int u), (14, .int (nI i)), (15, .int (nI (14 * i))), (16, .int (nI v)), (17, .int 1)]) F.1 F.2.1 dL_law_1326 hl (by decide) rfl (fun ls hl => ?_)
          refine lc_mk F (lv_sub hl [0, 1, 2, 3, 4, 5, 6, 7, 8, 9, 10, 11, 12, 13, 14, 15, 16, 17, 18, 19, 20, 21, 22, 23] rfl) (fun ls x9 hl => ?_)
          refine lv_iload F.1 F.2.1 dL_law_1351 (lv_at hl 23 rfl) ?_
          refine lv_aload_n F.1 F.2.1 dL_law_1353 rfl (lv_at hl 7 rfl) ?_
          refine lv_iload F.1 F.2.1 dL_law_1354 (lv_at hl 20 rfl) ?_
          refine lv_iload F.1 F.2.1 dL_law_1356 (lv_at hl 5 rfl) ?_
          refine lw_endorse (rest := [.int 1]) F w hd hM ho hR.r.ic (nI i) (nI k) hlf dL_law_1358 hl.1 ⟨by omega, by omega⟩ (Nat.le_of_ble_eq_true rfl) ⟨by omega, by omega⟩ (fun v1358 X AD H locs hv1358 ho hd hM w => ?_)
          have hL := hY.un hd
          refine lv_fold (y := (-7300)) (hv1358.trans ((en_no3 hR hi hk5 q9 ht ht9 hDt ey (Or.inr (Or.inr (Or.inl c_13)))).1)) ?_
          refine lv_iload F.1 F.2.1 dL_law_1361 (lv_at hl 2 rfl) ?_
          refine lv_if_eq (tgt := 1371) F.1 F.2.1 dL_law_1363 (by decide) (fun c_15 => ?_) (fun c_15 => absurd rfl c_15)
          refine lv_sipush (v := -7300) F.1 F.2.1 dL_law_1371 (by decide) ?_
          refine lv_icmp_ne (tgt := 1381) F.1 F.2.1 dL_law_1374 (by decide) (fun c_16 => absurd rfl c_16) (fun c_16 => ?_)
          refine lv_iconst (v := 1) F.1 F.2.1 dL_law_1377 (by decide) ?_
          refine lv_goto (tgt := 1382) F.1 F.2.1 dL_law_1378 (by decide) ?_
          refine lv_iand F.1 F.2.1 dL_law_1382 ?_
          refine lv_fold (y := 1) (by decide) ?_
          refine lv_istore (lv' := [(17, .int 1), (27, .int x9), (26, .int (mkL 31 0 (((S 3 ((15 * i) + (3 * k) + 2)) ||| 0) >>> (2 &&& 31)))), (25, .int 0), (24, .int (nI y9)), (23, .int (nI ((15 * i) + (3 * k)))), (22, .int (nI k)), (0, .ref b), (1, .ref o), (2, .ref (ad 2)), (3, .ref (ad 3)), (4, .ref (ad 4)), (5, .ref (ad 5)), (6, .ref (ad 6)), (7, .ref (ad 7)), (8, .ref (ad 8)), (9, .ref (ad 9)), (10, .ref (ad 10)), (11, .int (nI t)), (12, .int v12), (13, .int u), (14, .int (nI i)), (15, .int (nI (14 * i))), (16, .int (nI v))]) F.1 F.2.1 dL_law_1383 hl (by decide) rfl (fun ls hl => ?_)
          refine lv_iinc (v := nI (k + 1)) (lv' := [(22, .int (nI (k + 1))), (17, .int 1), (27, .int x9), (26, .int (mkL 31 0 (((S 3 ((15 * i) + (3 * k) + 2)) ||| 0) >>> (2 &&& 31)))), (25, .int 0), (24, .int (nI y9)), (23, .int (nI ((15 * i) + (3 * k)))), (0, .ref b), (1, .ref o), (2, .ref (ad 2)), (3, .ref (ad 3)), (4, .ref (ad 4)), (5, .ref (ad 5)), (6, .ref (ad 6)), (7, .ref (ad 7)), (8, .ref (ad 8)), (9, .ref (ad 9)), (10, .ref (ad 10)), (11, .int (nI t)), (12, .int v12), (13, .int u), (14, .int (nI i)), (15, .int (nI (14 * i))), (16, .int (nI v))]) F.1 F.2.1 dL_law_1385 hl (k := 6) rfl (nI_1 _) (by decide) rfl (fun ls hl => ?_)
          refine lv_goto (tgt := 1165) F.1 F.2.1 dL_law_1388 (by decide) ?_
          rw [(en_no3 hR hi hk5 q9 ht ht9 hDt ey (Or.inr (Or.inr (Or.inl c_13)))).2] at hM
          rw [en_or0] at hY
          exact KN hR hi hk5 ⟨by omega, by omega⟩ (by omega) ho hd hM hY w (lv_sub hl [0, 7, 8, 9, 10, 11, 12, 13, 14, 15, 16, 17, 18, 19, 20, 21, 22, 23, 1] rfl)
        · refine lv_aload_n F.1 F.2.1 dL_law_1270 rfl (lv_at hl 6 rfl) ?_
          refine lv_iload F.1 F.2.1 dL_law_1271 (lv_at hl 1 rfl) ?_
          refine lv_iconst (v := 2) F.1 F.2.1 dL_law_1273 (by decide) ?_
          refine lv_iadd F.1 F.2.1 dL_law_1274 ?_
          refine lv_fold (y := nI ((15 * i) + (3 * k) + 2)) (nI_add ((15 * i) + (3 * k)) 2) ?_
          refine l_ild F w hL 3 rfl ((15 * i) + (3 * k) + 2) (show (15 * i) + (3 * k) + 2 < 60 by omega) dL_law_1275 ?_
          refine lv_iconst (v := 2) F.1 F.2.1 dL_law_1276 (by decide) ?_
          refine lv_iload F.1 F.2.1 dL_law_1277 (lv_at hl 0 rfl) ?_
          refine lv_iadd F.1 F.2.1 dL_law_1279 ?_
          refine lv_fold (y := nI (2 + y9)) (nI_add 2 y9) ?_
          refine lv_ishr F.1 F.2.1 dL_law_1280 ?_
          refine lv_iconst (v := 1) F.1 F.2.1 dL_law_1281 (by decide) ?_
          refine lv_iand F.1 F.2.1 dL_law_1282 ?_
          refine lv_if_ne (tgt := 1290) F.1 F.2.1 dL_law_1283 (by decide) (fun c_17 => ?_) (fun c_17 => ?_)
          · refine lv_iconst (v := 0) F.1 F.2.1 dL_law_1290 (by decide) ?_
            refine lv_istore (lv' := [(25, .int 0), (24, .int (nI y9)), (23, .int (nI ((15 * i) + (3 * k)))), (22, .int (nI k)), (0, .ref b), (1, .ref o), (2, .ref (ad 2)), (3, .ref (ad 3)), (4, .ref (ad 4)), (5, .ref (ad 5)), (6, .ref (ad 6)), (7, .ref (ad 7)), (8, .ref (ad 8)), (9, .ref (ad 9)), (10, .ref (ad 10)), (11, .int (nI t)), (12, .int v12), (13, .int u), (14, .int (nI i)), (15, .int (nI (14 * i))), (16, .int (nI v)), (17, .int 1)]) F.1 F.2.1 dL_law_1291 hl (by decide) rfl (fun ls hl => ?_)
            refine lv_aload_n F.1 F.2.1 dL_law_1293 rfl (lv_at hl 7 rfl) ?_
            refine lv_iload F.1 F.2.1 dL_law_1294 (lv_at hl 2 rfl) ?_
            refine lv_iconst (v := 2) F.1 F.2.1 dL_law_1296 (by decide) ?_
            refine lv_iadd F.1 F.2.1 dL_law_1297 ?_
            refine lv_fold (y := nI ((15 * i) + (3 * k) + 2)) (nI_add ((15 * i) + (3 * k)) 2) ?_
            refine lv_dup2_11 F.1 F.2.1 dL_law_1298 rfl rfl ?_
            refine l_ild F w hL 3 rfl ((15 * i) + (3 * k) + 2) (show (15 * i) + (3 * k) + 2 < 60 by omega) dL_law_1299 ?_
            refine lv_iload F.1 F.2.1 dL_law_1300 (lv_at hl 0 rfl) ?_
            refine lv_if_eq (tgt := 1312) F.1 F.2.1 dL_law_1302 (by decide) (fun c_18 => ?_) (fun c_18 => absurd rfl c_18)
            refine lv_iconst (v := 0) F.1 F.2.1 dL_law_1312 (by decide) ?_
            refine lv_ior F.1 F.2.1 dL_law_1313 ?_
            refine l_ist F w hd hY 3 rfl ((15 * i) + (3 * k) + 2) (show (15 * i) + (3 * k) + 2 < 60 by omega) dL_law_1314 (fun H locs Y hd hY w => ?_)
            have hL := hY.un hd
            refine lv_iconst (v := 0) F.1 F.2.1 dL_law_1315 (by decide) ?_
            refine lv_istore (lv' := [(26, .int 0), (25, .int 0), (24, .int (nI y9)), (23, .int (nI ((15 * i) + (3 * k)))), (22, .int (nI k)), (0, .ref b), (1, .ref o), (2, .ref (ad 2)), (3, .ref (ad 3)), (4, .ref (ad 4)), (5, .ref (ad 5)), (6, .ref (ad 6)), (7, .ref (ad 7)), (8, .ref (ad 8)), (9, .ref (ad 9)), (10, .ref (ad 10)), (11, .int (nI t)), (12, .int v12), (13, .int u), (14, .int (nI i)), (15, .int (nI (14 * i))), (16, .int (nI v)), (17, .int 1)]) F.1 F.2.1 dL_law_1316 hl (by decide) rfl (fun ls hl => ?_)
            refine lv_aload_n F.1 F.2.1 dL_law_1318 rfl (lv_at hl 8 rfl) ?_
            refine lv_iload F.1 F.2.1 dL_law_1319 (lv_at hl 3 rfl) ?_
            refine lv_iconst (v := 2) F.1 F.2.1 dL_law_1321 (by decide) ?_
            refine lv_iadd F.1 F.2.1 dL_law_1322 ?_
            refine lv_fold (y := nI ((15 * i) + (3 * k) + 2)) (nI_add ((15 * i) + (3 * k)) 2) ?_
            refine l_ild F w hL 3 rfl ((15 * i) + (3 * k) + 2) (show (15 * i) + (3 * k) + 2 < 60 by omega) dL_law_1323 ?_
            refine lv_fold (y := (S 3 ((15 * i) + (3 * k) + 2)) ||| 0) (up2_s) ?_
            refine lv_iconst (v := 2) F.1 F.2.1 dL_law_1324 (by decide) ?_
            refine lv_ishr F.1 F.2.1 dL_law_1325 ?_
            refine lv_istore (lv' := [(27, .int (((S 3 ((15 * i) + (3 * k) + 2)) ||| 0) >>> (2 &&& 31))), (26, .int 0), (25, .int 0), (24, .int (nI y9)), (23, .int (nI ((15 * i) + (3 * k)))), (22, .int (nI k)), (0, .ref b), (1, .ref o), (2, .ref (ad 2)), (3, .ref (ad 3)), (4, .ref (ad 4)), (5, .ref (ad 5)), (6, .ref (ad 6)), (7, .ref (ad 7)), (8, .ref (ad 8)), (9, .ref (ad 9)), (10, .ref (ad 10)), (11, .int (nI t)), (12, .int v12), (13, .int u), (14, .int (nI i)), (15, .int (nI (14 * i))), (16, .int (nI v)), (17, .int 1)]) F.1 F.2.1 dL_law_1326 hl (by decide) rfl (fun ls hl => ?_)
            refine lc_mk F (lv_sub hl [0, 1, 2, 3, 4, 5, 6, 7, 8, 9, 10, 11, 12, 13, 14, 15, 16, 17, 18, 19, 20, 21, 22, 23] rfl) (fun ls x9 hl => ?_)
            refine lv_iload F.1 F.2.1 dL_law_1351 (lv_at hl 23 rfl) ?_
            refine lv_aload_n F.1 F.2.1 dL_law_1353 rfl (lv_at hl 7 rfl) ?_
            refine lv_iload F.1 F.2.1 dL_law_1354 (lv_at hl 20 rfl) ?_
            refine lv_iload F.1 F.2.1 dL_law_1356 (lv_at hl 5 rfl) ?_
            refine lw_endorse (rest := [.int 1]) F w hd hM ho hR.r.ic (nI i) (nI k) hlf dL_law_1358 hl.1 ⟨by omega, by omega⟩ (Nat.le_of_ble_eq_true rfl) ⟨by omega, by omega⟩ (fun v1358 X AD H locs hv1358 ho hd hM w => ?_)
            have hL := hY.un hd
            refine lv_fold (y := (-7300)) (hv1358.trans ((en_no3 hR hi hk5 q9 ht ht9 hDt ey (Or.inr (Or.inr (Or.inr ⟨c_9, c_17⟩)))).1)) ?_
            refine lv_iload F.1 F.2.1 dL_law_1361 (lv_at hl 2 rfl) ?_
            refine lv_if_eq (tgt := 1371) F.1 F.2.1 dL_law_1363 (by decide) (fun c_19 => ?_) (fun c_19 => absurd rfl c_19)
            refine lv_sipush (v := -7300) F.1 F.2.1 dL_law_1371 (by decide) ?_
            refine lv_icmp_ne (tgt := 1381) F.1 F.2.1 dL_law_1374 (by decide) (fun c_20 => absurd rfl c_20) (fun c_20 => ?_)
            refine lv_iconst (v := 1) F.1 F.2.1 dL_law_1377 (by decide) ?_
            refine lv_goto (tgt := 1382) F.1 F.2.1 dL_law_1378 (by decide) ?_
            refine lv_iand F.1 F.2.1 dL_law_1382 ?_
            refine lv_fold (y := 1) (by decide) ?_
            refine lv_istore (lv' := [(17, .int 1), (27, .int x9), (26, .int (mkL 31 0 (((S 3 ((15 * i) + (3 * k) + 2)) ||| 0) >>> (2 &&& 31)))), (25, .int 0), (24, .int (nI y9)), (23, .int (nI ((15 * i) + (3 * k)))), (22, .int (nI k)), (0, .ref b), (1, .ref o), (2, .ref (ad 2)), (3, .ref (ad 3)), (4, .ref (ad 4)), (5, .ref (ad 5)), (6, .ref (ad 6)), (7, .ref (ad 7)), (8, .ref (ad 8)), (9, .ref (ad 9)), (10, .ref (ad 10)), (11, .int (nI t)), (12, .int v12), (13, .int u), (14, .int (nI i)), (15, .int (nI (14 * i))), (16, .int (nI v))]) F.1 F.2.1 dL_law_1383 hl (by decide) rfl (fun ls hl => ?_)
            refine lv_iinc (v := nI (k + 1)) (lv' := [(22, .int (nI (k + 1))), (17, .int 1), (27, .int x9), (26, .int (mkL 31 0 (((S 3 ((15 * i) + (3 * k) + 2)) ||| 0) >>> (2 &&& 31)))), (25, .int 0), (24, .int (nI y9)), (23, .int (nI ((15 * i) + (3 * k)))), (0, .ref b), (1, .ref o), (2, .ref (ad 2)), (3, .ref (ad 3)), (4, .ref (ad 4)), (5, .ref (ad 5)), (6, .ref (ad 6)), (7, .ref (ad 7)), (8, .ref (ad 8)), (9, .ref (ad 9)), (10, .ref (ad 10)), (11, .int (nI t)), (12, .int v12), (13, .int u), (14, .int (nI i)), (15, .int (nI (14 * i))), (16, .int (nI v))]) F.1 F.2.1 dL_law_1385 hl (k := 6) rfl (nI_1 _) (by decide) rfl (fun ls hl => ?_)
            refine lv_goto (tgt := 1165) F.1 F.2.1 dL_law_1388 (by decide) ?_
            rw [(en_no3 hR hi hk5 q9 ht ht9 hDt ey (Or.inr (Or.inr (Or.inr ⟨c_9, c_17⟩)))).2] at hM
            rw [en_or0] at hY
            exact KN hR hi hk5 ⟨by omega, by omega⟩ (by omega) ho hd hM hY w (lv_sub hl [0, 7, 8, 9, 10, 11, 12, 13, 14, 15, 16, 17, 18, 19, 20, 21, 22, 23, 1] rfl)
          · refine lv_iconst (v := 1) F.1 F.2.1 dL_law_1286 (by decide) ?_
            refine lv_goto (tgt := 1291) F.1 F.2.1 dL_law_1287 (by decide) ?_
            refine lv_istore (lv' := [(25, .int 1), (24, .int (nI y9)), (23, .int (nI ((15 * i) + (3 * k)))), (22, .int (nI k)), (0, .ref b), (1, .ref o), (2, .ref (ad 2)), (3, .ref (ad 3)), (4, .ref (ad 4)), (5, .ref (ad 5)), (6, .ref (ad 6)), (7, .ref (ad 7)), (8, .ref (ad 8)), (9, .ref (ad 9)), (10, .ref (ad 10)), (11, .int (nI t)), (12, .int v12), (13, .int u), (14, .int (nI i)), (15, .int (nI (14 * i))), (16, .int (nI v)), (17, .int 1)]) F.1 F.2.1 dL_law_1291 hl (by decide) rfl (fun ls hl => ?_)
            refine lv_aload_n F.1 F.2.1 dL_law_1293 rfl (lv_at hl 7 rfl) ?_
            refine lv_iload F.1 F.2.1 dL_law_1294 (lv_at hl 2 rfl) ?_
            refine lv_iconst (v := 2) F.1 F.2.1 dL_law_1296 (by decide) ?_
            refine lv_iadd F.1 F.2.1 dL_law_1297 ?_
            refine lv_fold (y := nI ((15 * i) + (3 * k) + 2)) (nI_add ((15 * i) + (3 * k)) 2) ?_
            refine lv_dup2_11 F.1 F.2.1 dL_law_1298 rfl rfl ?_
            refine l_ild F w hL 3 rfl ((15 * i) + (3 * k) + 2) (show (15 * i) + (3 * k) + 2 < 60 by omega) dL_law_1299 ?_
            refine lv_iload F.1 F.2.1 dL_law_1300 (lv_at hl 0 rfl) ?_
            refine lv_if_eq (tgt := 1312) F.1 F.2.1 dL_law_1302 (by decide) (fun c_21 => absurd c_21 (by decide)) (fun c_21 => ?_)
            refine lv_iconst (v := 4) F.1 F.2.1 dL_law_1305 (by decide) ?_
            refine lv_iload F.1 F.2.1 dL_law_1306 (lv_at hl 1 rfl) ?_
            refine lv_ishl F.1 F.2.1 dL_law_1308 ?_
            refine lv_goto (tgt := 1313) F.1 F.2.1 dL_law_1309 (by decide) ?_
            refine lv_ior F.1 F.2.1 dL_law_1313 ?_
            refine l_ist F w hd hY 3 rfl ((15 * i) + (3 * k) + 2) (show (15 * i) + (3 * k) + 2 < 60 by omega) dL_law_1314 (fun H locs Y hd hY w => ?_)
            have hL := hY.un hd
            refine lv_iconst (v := 0) F.1 F.2.1 dL_law_1315 (by decide) ?_
            refine lv_istore (lv' := [(26, .int 0), (25, .int 1), (24, .int (nI y9)), (23, .int (nI ((15 * i) + (3 * k)))), (22, .int (nI k)), (0, .ref b), (1, .ref o), (2, .ref (ad 2)), (3, .ref (ad 3)), (4, .ref (ad 4)), (5, .ref (ad 5)), (6, .ref (ad 6)), (7, .ref (ad 7)), (8, .ref (ad 8)), (9, .ref (ad 9)), (10, .ref (ad 10)), (11, .int (nI t)), (12, .int v12), (13, .int u), (14, .int (nI i)), (15, .int (nI (14 * i))), (16, .int (nI v)), (17, .int 1)]) F.1 F.2.1 dL_law_1316 hl (by decide) rfl (fun ls hl => ?_)
            refine lv_aload_n F.1 F.2.1 dL_law_1318 rfl (lv_at hl 8 rfl) ?_
            refine lv_iload F.1 F.2.1 dL_law_1319 (lv_at hl 3 rfl) ?_
            refine lv_iconst (v := 2) F.1 F.2.1 dL_law_1321 (by decide) ?_
            refine lv_iadd F.1 F.2.1 dL_law_1322 ?_
            refine lv_fold (y := nI ((15 * i) + (3 * k) + 2)) (nI_add ((15 * i) + (3 * k)) 2) ?_
            refine l_ild F w hL 3 rfl ((15 * i) + (3 * k) + 2) (show (15 * i) + (3 * k) + 2 < 60 by omega) dL_law_1323 ?_
            refine lv_fold (y := (S 3 ((15 * i) + (3 * k) + 2)) ||| ((4 : Int32) <<< ((nI y9) &&& 31))) (up2_s) ?_
            refine lv_iconst (v := 2) F.1 F.2.1 dL_law_1324 (by decide) ?_
            refine lv_ishr F.1 F.2.1 dL_law_1325 ?_
            refine lv_istore (lv' := [(27, .int (((S 3 ((15 * i) + (3 * k) + 2)) ||| ((4 : Int32) <<< ((nI y9) &&& 31))) >>> (2 &&& 31))), (26, .int 0), (25, .int 1), (24, .int (nI y9)), (23, .int (nI ((15 * i) + (3 * k)))), (22, .int (nI k)), (0, .ref b), (1, .ref o), (2, .ref (ad 2)), (3, .ref (ad 3)), (4, .ref (ad 4)), (5, .ref (ad 5)), (6, .ref (ad 6)), (7, .ref (ad 7)), (8, .ref (ad 8)), (9, .ref (ad 9)), (10, .ref (ad 10)), (11, .int (nI t)), (12, .int v12), (13, .int u), (14, .int (nI i)), (15, .int (nI (14 * i))), (16, .int (nI v)), (17, .int 1)]) F.1 F.2.1 dL_law_1326 hl (by decide) rfl (fun ls hl => ?_)
            refine lc_mk F (lv_sub hl [0, 1, 2, 3, 4, 5, 6, 7, 8, 9, 10, 11, 12, 13, 14, 15, 16, 17, 18, 19, 20, 21, 22, 23] rfl) (fun ls x9 hl => ?_)
            refine lv_iload F.1 F.2.1 dL_law_1351 (lv_at hl 23 rfl) ?_
            refine lv_aload_n F.1 F.2.1 dL_law_1353 rfl (lv_at hl 7 rfl) ?_
            refine lv_iload F.1 F.2.1 dL_law_1354 (lv_at hl 20 rfl) ?_
            refine lv_iload F.1 F.2.1 dL_law_1356 (lv_at hl 5 rfl) ?_
            refine lw_endorse (rest := [.int 1]) F w hd hM ho hR.r.ic (nI i) (nI k) hlf dL_law_1358 hl.1 ⟨by omega, by omega⟩ (Nat.le_of_ble_eq_true rfl) ⟨by omega, by omega⟩ (fun v1358 X AD H locs hv1358 ho hd hM w => ?_)
            have hL := hY.un hd
            refine lv_fold (y := mkL 31 0 (((S 3 ((15 * i) + (3 * k) + 2)) ||| ((4 : Int32) <<< ((nI y9) &&& 31))) >>> (2 &&& 31))) (hv1358.trans ((en_ok9 hR hi hk5 q9 ht ht9 hDt ey c_1 c_5 c_9 c_13 c_17).1)) ?_
            refine lv_iload F.1 F.2.1 dL_law_1361 (lv_at hl 2 rfl) ?_
            refine lv_if_eq (tgt := 1371) F.1 F.2.1 dL_law_1363 (by decide) (fun c_22 => absurd c_22 (by decide)) (fun c_22 => ?_)
            refine lv_iload F.1 F.2.1 dL_law_1366 (lv_at hl 1 rfl) ?_
            refine lv_goto (tgt := 1374) F.1 F.2.1 dL_law_1368 (by decide) ?_
            refine lv_icmp_ne (tgt := 1381) F.1 F.2.1 dL_law_1374 (by decide) (fun c_23 => absurd rfl c_23) (fun c_23 => ?_)
            refine lv_iconst (v := 1) F.1 F.2.1 dL_law_1377 (by decide) ?_
            refine lv_goto (tgt := 1382) F.1 F.2.1 dL_law_1378 (by decide) ?_
            refine lv_iand F.1 F.2.1 dL_law_1382 ?_
            refine lv_fold (y := 1) (by decide) ?_
            refine lv_istore (lv' := [(17, .int 1), (27, .int x9), (26, .int (mkL 31 0 (((S 3 ((15 * i) + (3 * k) + 2)) ||| ((4 : Int32) <<< ((nI y9) &&& 31))) >>> (2 &&& 31)))), (25, .int 1), (24, .int (nI y9)), (23, .int (nI ((15 * i) + (3 * k)))), (22, .int (nI k)), (0, .ref b), (1, .ref o), (2, .ref (ad 2)), (3, .ref (ad 3)), (4, .ref (ad 4)), (5, .ref (ad 5)), (6, .ref (ad 6)), (7, .ref (ad 7)), (8, .ref (ad 8)), (9, .ref (ad 9)), (10, .ref (ad 10)), (11, .int (nI t)), (12, .int v12), (13, .int u), (14, .int (nI i)), (15, .int (nI (14 * i))), (16, .int (nI v))]) F.1 F.2.1 dL_law_1383 hl (by decide) rfl (fun ls hl => ?_)
            refine lv_iinc (v := nI (k + 1)) (lv' := [(22, .int (nI (k + 1))), (17, .int 1), (27, .int x9), (26, .int (mkL 31 0 (((S 3 ((15 * i) + (3 * k) + 2)) ||| ((4 : Int32) <<< ((nI y9) &&& 31))) >>> (2 &&& 31)))), (25, .int 1), (24, .int (nI y9)), (23, .int (nI ((15 * i) + (3 * k)))), (0, .ref b), (1, .ref o), (2, .ref (ad 2)), (3, .ref (ad 3)), (4, .ref (ad 4)), (5, .ref (ad 5)), (6, .ref (ad 6)), (7, .ref (ad 7)), (8, .ref (ad 8)), (9, .ref (ad 9)), (10, .ref (ad 10)), (11, .int (nI t)), (12, .int v12), (13, .int u), (14, .int (nI i)), (15, .int (nI (14 * i))), (16, .int (nI v))]) F.1 F.2.1 dL_law_1385 hl (k := 6) rfl (nI_1 _) (by decide) rfl (fun ls hl => ?_)
            refine lv_goto (tgt := 1165) F.1 F.2.1 dL_law_1388 (by decide) ?_
            exact KN ((en_ok9 hR hi hk5 q9 ht ht9 hDt ey c_1 c_5 c_9 c_13 c_17).2) hi hk5 ⟨by omega, by omega⟩ (by omega) ho hd hM hY w (lv_sub hl [0, 7, 8, 9, 10, 11, 12, 13, 14, 15, 16, 17, 18, 19, 20, 21, 22, 23, 1] rfl)
set_option maxHeartbeats 4000000 in
set_option maxRecDepth 100000 in
theorem lc_en_b {p : Program} {l : Launch} {e : Env} {R : Room} {s : State} {m : MethodId} {args : Array Value} {below : List Frame} {meth : Method} {c : Code} {Q : State → Prop} {D : va_G} {cy : Nat → ClassId} {A : Nat → Prop} {o b t i v : Nat} {ad : Nat → Nat} {u v12 : Int32} {n n1 c1 s1 : Nat} {G M S : GS} {Wf : Nat → Int64} {k : Nat} (F : CallFix p m c cL_law 40 s args BIG RL) (hlf : l.stackTraces = false) (hRm : 11 ≤ R.frames ∧ 278 ≤ R.locals ∧ c1 ≤ R.cells ∧ s1 ≤ R.slots) (h511 : n1 ≤ 511) (K : KJ p l e R s m args below meth c Q D cy A o b t ad u n1 c1 s1) (hR : R26 n G M S Wf) (hi4 : i < 4) (hk5 : k < 5) (hi : i < gnS M) {D9 T9 b9 e9 t9 : Nat} (q9 : EC M S i k D9 T9 b9 e9) (ht : M 1 0 = nI t9) (ht9 : t9 ≤ 9000) (hDt : t9 < D9) (KN : ∀ {n : Nat} {G M S : GS} {Wf : Nat → Int64} {X Y : MU} {AD : AM} {H : Heap} {locs : List Loc} {cells slots : Nat} {ls : Array Slot}, R26 n G M S Wf → i < gnS M → k < 5 → (cells + (5 - (k + 1)) ≤ c1 ∧ slots + 6 * (5 - (k + 1)) ≤ s1) → n + 0 ≤ n1 → AD 0 0 0 = o → dis X Y → RepC cy AD G X → RepL cy ad S Wf Y → WW D cy A (un X Y) s H locs → lv_has ls 40 [(22, .int (nI (k + 1))), (0, .ref b), (1, .ref o), (2, .ref (ad 2)), (3, .ref (ad 3)), (4, .ref (ad 4)), (5, .ref (ad 5)), (6, .ref (ad 6)), (7, .ref (ad 7)), (8, .ref (ad 8)), (9, .ref (ad 9)), (10, .ref (ad 10)), (11, .int (nI t)), (12, .int v12), (13, .int u), (14, .int (nI i)), (15, .int (nI (14 * i))), (16, .int (nI v)), (17, .int 1)] → W p l e R s m args below meth c H locs cells slots Q (F0 m 1165 ls [])) {X Y : MU} {AD : AM} {H : Heap} {locs : List Loc} {cells slots : Nat} (hf : cells + (5 - k) ≤ c1 ∧ slots + 6 * (5 - k) ≤ s1) (hn : n + 0 ≤ n1) (ho : AD 0 0 0 = o) (hd : dis X Y) (hM : RepC cy AD G X) (hY : RepL cy ad S Wf Y) (w : WW D cy A (un X Y) s H locs) {ls : Array Slot} (hl : lv_has ls 40 [(23, .int (nI ((15 * i) + (3 * k)))), (22, .int (nI k)), (0, .ref b), (1, .ref o), (2, .ref (ad 2)), (3, .ref (ad 3)), (4, .ref (ad 4)), (5, .ref (ad 5)), (6, .ref (ad 6)), (7, .ref (ad 7)), (8, .ref (ad 8)), (9, .ref (ad 9)), (10, .ref (ad 10)), (11, .int (nI t)), (12, .int v12), (13, .int u), (14, .int (nI i)), (15, .int (nI (14 * i))), (16, .int (nI v)), (17, .int 1)]) : W p l e R s m args below meth c H locs cells slots Q (F0 m 1195 ls []) := by
  have hL := hY.un hd
  have hb4 := hR.b
  have heV := hR.eV
  have hT9 := q9.2.2.2.1
  have hD9 := q9.2.1
  refine lv_aload F.1 F.2.1 dL_law_1195 (lv_at hl 12 rfl) ?_
  refine lv_iconst (v := 0) F.1 F.2.1 dL_law_1197 (by decide) ?_
  refine l_ild F w hL 10 rfl 0 (show 0 < 9 by omega) dL_law_1198 ?_
  refine lv_fold (y := nI t9) (hR.g0.trans ht) ?_
  refine lv_aload_n F.1 F.2.1 dL_law_1199 rfl (lv_at hl 5 rfl) ?_
  refine lv_iload F.1 F.2.1 dL_law_1200 (lv_at hl 0 rfl) ?_
  refine l_ild F w hL 3 rfl ((15 * i) + (3 * k)) (show (15 * i) + (3 * k) < 60 by omega) dL_law_1202 ?_
  refine lv_fold (y := nI D9) (q9.2.2.2.2.2.2.2.2.2.1) ?_
  refine lv_isub F.1 F.2.1 dL_law_1203 ?_
  refine lv_bipush (v := 90) F.1 F.2.1 dL_law_1204 (by decide) ?_
  refine lv_iadd F.1 F.2.1 dL_law_1206 ?_
  refine lv_sipush (v := 365) F.1 F.2.1 dL_law_1207 (by decide) ?_
  refine lv_idiv F.1 F.2.1 dL_law_1210 (by decide) ?_
  refine lv_istore (lv' := [(24, .int ((((nI t9) - (nI D9)) + 90) / 365)), (23, .int (nI ((15 * i) + (3 * k)))), (22, .int (nI k)), (0, .ref b), (1, .ref o), (2, .ref (ad 2)), (3, .ref (ad 3)), (4, .ref (ad 4)), (5, .ref (ad 5)), (6, .ref (ad 6)), (7, .ref (ad 7)), (8, .ref (ad 8)), (9, .ref (ad 9)), (10, .ref (ad 10)), (11, .int (nI t)), (12, .int v12), (13, .int u), (14, .int (nI i)), (15, .int (nI (14 * i))), (16, .int (nI v)), (17, .int 1)]) F.1 F.2.1 dL_law_1211 hl (by decide) rfl (fun ls hl => ?_)
  refine lv_iload F.1 F.2.1 dL_law_1213 (lv_at hl 17 rfl) ?_
  refine lv_aload_n F.1 F.2.1 dL_law_1215 rfl (lv_at hl 6 rfl) ?_
  refine lv_aload F.1 F.2.1 dL_law_1216 (lv_at hl 13 rfl) ?_
  refine q_rS (rest := []) F w kS_L_130 hd_L_lapsed (c_L_lapsed l D cy A _ ad S Wf hL i (show i < 4 by omega) hR.cok) dL_law_1218 rfl rfl hl.1 ⟨rfl, rfl, (show 2 ≤ R.frames by omega), (show 51 ≤ R.locals by omega)⟩ (Nat.le_of_ble_eq_true rfl) ⟨by omega, by omega⟩ ?_
  refine lv_iload F.1 F.2.1 dL_law_1221 (lv_at hl 2 rfl) ?_
  refine lv_ishr F.1 F.2.1 dL_law_1223 ?_
  refine lv_iconst (v := 1) F.1 F.2.1 dL_law_1224 (by decide) ?_
  refine lv_iand F.1 F.2.1 dL_law_1225 ?_
  refine lv_if_ne (tgt := 1290) F.1 F.2.1 dL_law_1226 (by decide) (fun c_1 => ?_) (fun c_1 => ?_)
  · refine lv_iconst (v := 0) F.1 F.2.1 dL_law_1290 (by decide) ?_
    refine lv_istore (lv' := [(25, .int 0), (24, .int ((((nI t9) - (nI D9)) + 90) / 365)), (23, .int (nI ((15 * i) + (3 * k)))), (22, .int (nI k)), (0, .ref b), (1, .ref o), (2, .ref (ad 2)), (3, .ref (ad 3)), (4, .ref (ad 4)), (5, .ref (ad 5)), (6, .ref (ad 6)), (7, .ref (ad 7)), (8, .ref (ad 8)), (9, .ref (ad 9)), (10, .ref (ad 10)), (11, .int (nI t)), (12, .int v12), (13, .int u), (14, .int (nI i)), (15, .int (nI (14 * i))), (16, .int (nI v)), (17, .int 1)]) F.1 F.2.1 dL_law_1291 hl (by decide) rfl (fun ls hl => ?_)
    refine lv_aload_n F.1 F.2.1 dL_law_1293 rfl (lv_at hl 7 rfl) ?_
    refine lv_iload F.1 F.2.1 dL_law_1294 (lv_at hl 2 rfl) ?_
    refine lv_iconst (v := 2) F.1 F.2.1 dL_law_1296 (by decide) ?_
    refine lv_iadd F.1 F.2.1 dL_law_1297 ?_
    refine lv_fold (y := nI ((15 * i) + (3 * k) + 2)) (nI_add ((15 * i) + (3 * k)) 2) ?_
    refine lv_dup2_11 F.1 F.2.1 dL_law_1298 rfl rfl ?_
    refine l_ild F w hL 3 rfl ((15 * i) + (3 * k) + 2) (show (15 * i) + (3 * k) + 2 < 60 by omega) dL_law_1299 ?_
    refine lv_iload F.1 F.2.1 dL_law_1300 (lv_at hl 0 rfl) ?_
    refine lv_if_eq (tgt := 1312) F.1 F.2.1 dL_law_1302 (by decide) (fun c_2 => ?_) (fun c_2 => absurd rfl c_2)
    refine lv_iconst (v := 0) F.1 F.2.1 dL_law_1312 (by decide) ?_
    refine lv_ior F.1 F.2.1 dL_law_1313 ?_
    refine l_ist F w hd hY 3 rfl ((15 * i) + (3 * k) + 2) (show (15 * i) + (3 * k) + 2 < 60 by omega) dL_law_1314 (fun H locs Y hd hY w => ?_)
    have hL := hY.un hd
    refine lv_iconst (v := 0) F.1 F.2.1 dL_law_1315 (by decide) ?_
    refine lv_istore (lv' := [(26, .int 0), (25, .int 0), (24, .int ((((nI t9) - (nI D9)) + 90) / 365)), (23, .int (nI ((15 * i) + (3 * k)))), (22, .int (nI k)), (0, .ref b), (1, .ref o), (2, .ref (ad 2)), (3, .ref (ad 3)), (4, .ref (ad 4)), (5, .ref (ad 5)), (6, .ref (ad 6)), (7, .ref (ad 7)), (8, .ref (ad 8)), (9, .ref (ad 9)), (10, .ref (ad 10)), (11, .int (nI t)), (12, .int v12), (13, .int u), (14, .int (nI i)), (15, .int (nI (14 * i))), (16, .int (nI v)), (17, .int 1)]) F.1 F.2.1 dL_law_1316 hl (by decide) rfl (fun ls hl => ?_)
    refine lv_aload_n F.1 F.2.1 dL_law_1318 rfl (lv_at hl 8 rfl) ?_
    refine lv_iload F.1 F.2.1 dL_law_1319 (lv_at hl 3 rfl) ?_
    refine lv_iconst (v := 2) F.1 F.2.1 dL_law_1321 (by decide) ?_
    refine lv_iadd F.1 F.2.1 dL_law_1322 ?_
    refine lv_fold (y := nI ((15 * i) + (3 * k) + 2)) (nI_add ((15 * i) + (3 * k)) 2) ?_
    refine l_ild F w hL 3 rfl ((15 * i) + (3 * k) + 2) (show (15 * i) + (3 * k) + 2 < 60 by omega) dL_law_1323 ?_
    refine lv_fold (y := (S 3 ((15 * i) + (3 * k) + 2)) ||| 0) (up2_s) ?_
    refine lv_iconst (v := 2) F.1 F.2.1 dL_law_1324 (by decide) ?_
    refine lv_ishr F.1 F.2.1 dL_law_1325 ?_
    refine lv_istore (lv' := [(27, .int (((S 3 ((15 * i) + (3 * k) + 2)) ||| 0) >>> (2 &&& 31))), (26, .int 0), (25, .int 0), (24, .int ((((nI t9) - (nI D9)) + 90) / 365)), (23, .int (nI ((15 * i) + (3 * k)))), (22, .int (nI k)), (0, .ref b), (1, .ref o), (2, .ref (ad 2)), (3, .ref (ad 3)), (4, .ref (ad 4)), (5, .ref (ad 5)), (6, .ref (ad 6)), (7, .ref (ad 7)), (8, .ref (ad 8)), (9, .ref (ad 9)), (10, .ref (ad 10)), (11, .int (nI t)), (12, .int v12), (13, .int u), (14, .int (nI i)), (15, .int (nI (14 * i))), (16, .int (nI v)), (17, .int 1)]) F.1 F.2.1 dL_law_1326 hl (by decide) rfl (fun ls hl => ?_)
    refine lc_mk F (lv_sub hl [0, 1, 2, 3, 4, 5, 6, 7, 8, 9, 10, 11, 12, 13, 14, 15, 16, 17, 18, 19, 20, 21, 22, 23] rfl) (fun ls x9 hl => ?_)
    refine lv_iload F.1 F.2.1 dL_law_1351 (lv_at hl 23 rfl) ?_
    refine lv_aload_n F.1 F.2.1 dL_law_1353 rfl (lv_at hl 7 rfl) ?_
    refine lv_iload F.1 F.2.1 dL_law_1354 (lv_at hl 20 rfl) ?_
    refine lv_iload F.1 F.2.1 dL_law_1356 (lv_at hl 5 rfl) ?_
    refine lw_endorse (rest := [.int 1]) F w hd hM ho hR.r.ic (nI i) (nI k) hlf dL_law_1358 hl.1 ⟨by omega, by omega⟩ (Nat.le_of_ble_eq_true rfl) ⟨by omega, by omega⟩ (fun v1358 X AD H locs hv1358 ho hd hM w => ?_)
    have hL := hY.un hd
    refine lv_fold (y := (-7300)) (hv1358.trans ((en_no0 hR hi hk5 c_1).1)) ?_
    refine lv_iload F.1 F.2.1 dL_law_1361 (lv_at hl 2 rfl) ?_
    refine lv_if_eq (tgt := 1371) F.1 F.2.1 dL_law_1363 (by decide) (fun c_3 => ?_) (fun c_3 => absurd rfl c_3)
    refine lv_sipush (v := -7300) F.1 F.2.1 dL_law_1371 (by decide) ?_
    refine lv_icmp_ne (tgt := 1381) F.1 F.2.1 dL_law_1374 (by decide) (fun c_4 => absurd rfl c_4) (fun c_4 => ?_)
    refine lv_iconst (v := 1) F.1 F.2.1 dL_law_1377 (by decide) ?_
    refine lv_goto (tgt := 1382) F.1 F.2.1 dL_law_1378 (by decide) ?_
    refine lv_iand F.1 F.2.1 dL_law_1382 ?_
    refine lv_fold (y := 1) (by decide) ?_
    refine lv_istore (lv' := [(17, .int 1), (27, .int x9), (26, .int (mkL 31 0 (((S 3 ((15 * i) + (3 * k) + 2)) ||| 0) >>> (2 &&& 31)))), (25, .int 0), (24, .int ((((nI t9) - (nI D9)) + 90) / 365)), (23, .int (nI ((15 * i) + (3 * k)))), (22, .int (nI k)), (0, .ref b), (1, .ref o), (2, .ref (ad 2)), (3, .ref (ad 3)), (4, .ref (ad 4)), (5, .ref (ad 5)), (6, .ref (ad 6)), (7, .ref (ad 7)), (8, .ref (ad 8)), (9, .ref (ad 9)), (10, .ref (ad 10)), (11, .int (nI t)), (12, .int v12), (13, .int u), (14, .int (nI i)), (15, .int (nI (14 * i))), (16, .int (nI v))]) F.1 F.2.1 dL_law_1383 hl (by decide) rfl (fun ls hl => ?_)
    refine lv_iinc (v := nI (k + 1)) (lv' := [(22, .int (nI (k + 1))), (17, .int 1), (27, .int x9), (26, .int (mkL 31 0 (((S 3 ((15 * i) + (3 * k) + 2)) ||| 0) >>> (2 &&& 31)))), (25, .int 0), (24, .int ((((nI t9) - (nI D9)) + 90) / 365)), (23, .int (nI ((15 * i) + (3 * k)))), (0, .ref b), (1, .ref o), (2, .ref (ad 2)), (3, .ref (ad 3)), (4, .ref (ad 4)), (5, .ref (ad 5)), (6, .ref (ad 6)), (7, .ref (ad 7)), (8, .ref (ad 8)), (9, .ref (ad 9)), (10, .ref (ad 10)), (11, .int (nI t)), (12, .int v12), (13, .int u), (14, .int (nI i)), (15, .int (nI (14 * i))), (16, .int (nI v))]) F.1 F.2.1 dL_law_1385 hl (k := 6) rfl (nI_1 _) (by decide) rfl (fun ls hl => ?_)
    refine lv_goto (tgt := 1165) F.1 F.2.1 dL_law_1388 (by decide) ?_
    rw [(en_no0 hR hi hk5 c_1).2] at hM
    rw [en_or0] at hY
    exact KN hR hi hk5 ⟨by omega, by omega⟩ (by omega) ho hd hM hY w (lv_sub hl [0, 7, 8, 9, 10, 11, 12, 13, 14, 15, 16, 17, 18, 19, 20, 21, 22, 23, 1] rfl)
  · refine lv_iload F.1 F.2.1 dL_law_1229 (lv_at hl 0 rfl) ?_
    refine lv_if_le (tgt := 1290) F.1 F.2.1 dL_law_1231 (by decide) (fun c_5 => ?_) (fun c_5 => absurd (neg_y hDt (by omega)) c_5)
    refine lv_iconst (v := 0) F.1 F.2.1 dL_law_1290 (by decide) ?_
    refine lv_istore (lv' := [(25, .int 0), (24, .int ((((nI t9) - (nI D9)) + 90) / 365)), (23, .int (nI ((15 * i) + (3 * k)))), (22, .int (nI k)), (0, .ref b), (1, .ref o), (2, .ref (ad 2)), (3, .ref (ad 3)), (4, .ref (ad 4)), (5, .ref (ad 5)), (6, .ref (ad 6)), (7, .ref (ad 7)), (8, .ref (ad 8)), (9, .ref (ad 9)), (10, .ref (ad 10)), (11, .int (nI t)), (12, .int v12), (13, .int u), (14, .int (nI i)), (15, .int (nI (14 * i))), (16, .int (nI v)), (17, .int 1)]) F.1 F.2.1 dL_law_1291 hl (by decide) rfl (fun ls hl => ?_)
    refine lv_aload_n F.1 F.2.1 dL_law_1293 rfl (lv_at hl 7 rfl) ?_
    refine lv_iload F.1 F.2.1 dL_law_1294 (lv_at hl 2 rfl) ?_
    refine lv_iconst (v := 2) F.1 F.2.1 dL_law_1296 (by decide) ?_
    refine lv_iadd F.1 F.2.1 dL_law_1297 ?_
    refine lv_fold (y := nI ((15 * i) + (3 * k) + 2)) (nI_add ((15 * i) + (3 * k)) 2) ?_
    refine lv_dup2_11 F.1 F.2.1 dL_law_1298 rfl rfl ?_
    refine l_ild F w hL 3 rfl ((15 * i) + (3 * k) + 2) (show (15 * i) + (3 * k) + 2 < 60 by omega) dL_law_1299 ?_
    refine lv_iload F.1 F.2.1 dL_law_1300 (lv_at hl 0 rfl) ?_
    refine lv_if_eq (tgt := 1312) F.1 F.2.1 dL_law_1302 (by decide) (fun c_6 => ?_) (fun c_6 => absurd rfl c_6)
    refine lv_iconst (v := 0) F.1 F.2.1 dL_law_1312 (by decide) ?_
    refine lv_ior F.1 F.2.1 dL_law_1313 ?_
    refine l_ist F w hd hY 3 rfl ((15 * i) + (3 * k) + 2) (show (15 * i) + (3 * k) + 2 < 60 by omega) dL_law_1314 (fun H locs Y hd hY w => ?_)
    have hL := hY.un hd
    refine lv_iconst (v := 0) F.1 F.2.1 dL_law_1315 (by decide) ?_
    refine lv_istore (lv' := [(26, .int 0), (25, .int 0), (24, .int ((((nI t9) - (nI D9)) + 90) / 365)), (23, .int (nI ((15 * i) + (3 * k)))), (22, .int (nI k)), (0, .ref b), (1, .ref o), (2, .ref (ad 2)), (3, .ref (ad 3)), (4, .ref (ad 4)), (5, .ref (ad 5)), (6, .ref (ad 6)), (7, .ref (ad 7)), (8, .ref (ad 8)), (9, .ref (ad 9)), (10, .ref (ad 10)), (11, .int (nI t)), (12, .int v12), (13, .int u), (14, .int (nI i)), (15, .int (nI (14 * i))), (16, .int (nI v)), (17, .int 1)]) F.1 F.2.1 dL_law_1316 hl (by decide) rfl (fun ls hl => ?_)
    refine lv_aload_n F.1 F.2.1 dL_law_1318 rfl (lv_at hl 8 rfl) ?_
    refine lv_iload F.1 F.2.1 dL_law_1319 (lv_at hl 3 rfl) ?_
    refine lv_iconst (v := 2) F.1 F.2.1 dL_law_1321 (by decide) ?_
    refine lv_iadd F.1 F.2.1 dL_law_1322 ?_
    refine lv_fold (y := nI ((15 * i) + (3 * k) + 2)) (nI_add ((15 * i) + (3 * k)) 2) ?_
    refine l_ild F w hL 3 rfl ((15 * i) + (3 * k) + 2) (show (15 * i) + (3 * k) + 2 < 60 by omega) dL_law_1323 ?_
    refine lv_fold (y := (S 3 ((15 * i) + (3 * k) + 2)) ||| 0) (up2_s) ?_
    refine lv_iconst (v := 2) F.1 F.2.1 dL_law_1324 (by decide) ?_
    refine lv_ishr F.1 F.2.1 dL_law_1325 ?_
    refine lv_istore (lv' := [(27, .int (((S 3 ((15 * i) + (3 * k) + 2)) ||| 0) >>> (2 &&& 31))), (26, .int 0), (25, .int 0), (24, .int ((((nI t9) - (nI D9)) + 90) / 365)), (23, .int (nI ((15 * i) + (3 * k)))), (22, .int (nI k)), (0, .ref b), (1, .ref o), (2, .ref (ad 2)), (3, .ref (ad 3)), (4, .ref (ad 4)), (5, .ref (ad 5)), (6, .ref (ad 6)), (7, .ref (ad 7)), (8, .ref (ad 8)), (9, .ref (ad 9)), (10, .ref (ad 10)), (11, .int (nI t)), (12, .int v12), (13, .int u), (14, .int (nI i)), (15, .int (nI (14 * i))), (16, .int (nI v)), (17, .int 1)]) F.1 F.2.1 dL_law_1326 hl (by decide) rfl (fun ls hl => ?_)
    refine lc_mk F (lv_sub hl [0, 1, 2, 3, 4, 5, 6, 7, 8, 9, 10, 11, 12, 13, 14, 15, 16, 17, 18, 19, 20, 21, 22, 23] rfl) (fun ls x9 hl => ?_)
    refine lv_iload F.1 F.2.1 dL_law_1351 (lv_at hl 23 rfl) ?_
    refine lv_aload_n F.1 F.2.1 dL_law_1353 rfl (lv_at hl 7 rfl) ?_
    refine lv_iload F.1 F.2.1 dL_law_1354 (lv_at hl 20 rfl) ?_
    refine lv_iload F.1 F.2.1 dL_law_1356 (lv_at hl 5 rfl) ?_
    refine lw_endorse (rest := [.int 1]) F w hd hM ho hR.r.ic (nI i) (nI k) hlf dL_law_1358 hl.1 ⟨by omega, by omega⟩ (Nat.le_of_ble_eq_true rfl) ⟨by omega, by omega⟩ (fun v1358 X AD H locs hv1358 ho hd hM w => ?_)
    have hL := hY.un hd
    refine lv_fold (y := (-7300)) (hv1358.trans ((en_no4 hR hi hk5 q9 ht ht9 hDt).1)) ?_
    refine lv_iload F.1 F.2.1 dL_law_1361 (lv_at hl 2 rfl) ?_
    refine lv_if_eq (tgt := 1371) F.1 F.2.1 dL_law_1363 (by decide) (fun c_7 => ?_) (fun c_7 => absurd rfl c_7)
    refine lv_sipush (v := -7300) F.1 F.2.1 dL_law_1371 (by decide) ?_
    refine lv_icmp_ne (tgt := 1381) F.1 F.2.1 dL_law_1374 (by decide) (fun c_8 => absurd rfl c_8) (fun c_8 => ?_)
    refine lv_iconst (v := 1) F.1 F.2.1 dL_law_1377 (by decide) ?_
    refine lv_goto (tgt := 1382) F.1 F.2.1 dL_law_1378 (by decide) ?_
    refine lv_iand F.1 F.2.1 dL_law_1382 ?_
    refine lv_fold (y := 1) (by decide) ?_
    refine lv_istore (lv' := [(17, .int 1), (27, .int x9), (26, .int (mkL 31 0 (((S 3 ((15 * i) + (3 * k) + 2)) ||| 0) >>> (2 &&& 31)))), (25, .int 0), (24, .int ((((nI t9) - (nI D9)) + 90) / 365)), (23, .int (nI ((15 * i) + (3 * k)))), (22, .int (nI k)), (0, .ref b), (1, .ref o), (2, .ref (ad 2)), (3, .ref (ad 3)), (4, .ref (ad 4)), (5, .ref (ad 5)), (6, .ref (ad 6)), (7, .ref (ad 7)), (8, .ref (ad 8)), (9, .ref (ad 9)), (10, .ref (ad 10)), (11, .int (nI t)), (12, .int v12), (13, .int u), (14, .int (nI i)), (15, .int (nI (14 * i))), (16, .int (nI v))]) F.1 F.2.1 dL_law_1383 hl (by decide) rfl (fun ls hl => ?_)
    refine lv_iinc (v := nI (k + 1)) (lv' := [(22, .int (nI (k + 1))), (17, .int 1), (27, .int x9), (26, .int (mkL 31 0 (((S 3 ((15 * i) + (3 * k) + 2)) ||| 0) >>> (2 &&& 31)))), (25, .int 0), (24, .int ((((nI t9) - (nI D9)) + 90) / 365)), (23, .int (nI ((15 * i) + (3 * k)))), (0, .ref b), (1, .ref o), (2, .ref (ad 2)), (3, .ref (ad 3)), (4, .ref (ad 4)), (5, .ref (ad 5)), (6, .ref (ad 6)), (7, .ref (ad 7)), (8, .ref (ad 8)), (9, .ref (ad 9)), (10, .ref (ad 10)), (11, .int (nI t)), (12, .int v12), (13, .int u), (14, .int (nI i)), (15, .int (nI (14 * i))), (16, .int (nI v))]) F.1 F.2.1 dL_law_1385 hl (k := 6) rfl (nI_1 _) (by decide) rfl (fun ls hl => ?_)
    refine lv_goto (tgt := 1165) F.1 F.2.1 dL_law_1388 (by decide) ?_
    rw [(en_no4 hR hi hk5 q9 ht ht9 hDt).2] at hM
    rw [en_or0] at hY
    exact KN hR hi hk5 ⟨by omega, by omega⟩ (by omega) ho hd hM hY w (lv_sub hl [0, 7, 8, 9, 10, 11, 12, 13, 14, 15, 16, 17, 18, 19, 20, 21, 22, 23, 1] rfl)
set_option maxHeartbeats 4000000 in
set_option maxRecDepth 100000 in
theorem lc_endorse_r {p : Program} {l : Launch} {e : Env} {R : Room} {s : State} {m : MethodId} {args : Array Value} {below : List Frame} {meth : Method} {c : Code} {Q : State → Prop} {D : va_G} {cy : Nat → ClassId} {A : Nat → Prop} {o b t i v : Nat} {ad : Nat → Nat} {u v12 : Int32} {n n1 c1 s1 : Nat} {G M S : GS} {Wf : Nat → Int64} {k : Nat} (F : CallFix p m c cL_law 40 s args BIG RL) (hlf : l.stackTraces = false) (hRm : 11 ≤ R.frames ∧ 278 ≤ R.locals ∧ c1 ≤ R.cells ∧ s1 ≤ R.slots) (h511 : n1 ≤ 511) (K : KJ p l e R s m args below meth c Q D cy A o b t ad u n1 c1 s1) (hR : R26 n G M S Wf) (hi4 : i < 4) (hk : k ≤ 5) (hi : i < gnS M) (KN : ∀ {n : Nat} {G M S : GS} {Wf : Nat → Int64} {X Y : MU} {AD : AM} {H : Heap} {locs : List Loc} {cells slots : Nat} {ls : Array Slot}, R26 n G M S Wf → i < gnS M → k < 5 → (cells + (5 - (k + 1)) ≤ c1 ∧ slots + 6 * (5 - (k + 1)) ≤ s1) → n + 0 ≤ n1 → AD 0 0 0 = o → dis X Y → RepC cy AD G X → RepL cy ad S Wf Y → WW D cy A (un X Y) s H locs → lv_has ls 40 [(22, .int (nI (k + 1))), (0, .ref b), (1, .ref o), (2, .ref (ad 2)), (3, .ref (ad 3)), (4, .ref (ad 4)), (5, .ref (ad 5)), (6, .ref (ad 6)), (7, .ref (ad 7)), (8, .ref (ad 8)), (9, .ref (ad 9)), (10, .ref (ad 10)), (11, .int (nI t)), (12, .int v12), (13, .int u), (14, .int (nI i)), (15, .int (nI (14 * i))), (16, .int (nI v)), (17, .int 1)] → W p l e R s m args below meth c H locs cells slots Q (F0 m 1165 ls [])) {X Y : MU} {AD : AM} {H : Heap} {locs : List Loc} {cells slots : Nat} (hf : cells + (5 - k) ≤ c1 ∧ slots + 6 * (5 - k) ≤ s1) (hn : n + 0 ≤ n1) (ho : AD 0 0 0 = o) (hd : dis X Y) (hM : RepC cy AD G X) (hY : RepL cy ad S Wf Y) (w : WW D cy A (un X Y) s H locs) {ls : Array Slot} (hl : lv_has ls 40 [(22, .int (nI k)), (0, .ref b), (1, .ref o), (2, .ref (ad 2)), (3, .ref (ad 3)), (4, .ref (ad 4)), (5, .ref (ad 5)), (6, .ref (ad 6)), (7, .ref (ad 7)), (8, .ref (ad 8)), (9, .ref (ad 9)), (10, .ref (ad 10)), (11, .int (nI t)), (12, .int v12), (13, .int u), (14, .int (nI i)), (15, .int (nI (14 * i))), (16, .int (nI v)), (17, .int 1)]) : W p l e R s m args below meth c H locs cells slots Q (F0 m 1165 ls []) := by
  have hL := hY.un hd
  obtain ⟨t9, ht9, ht⟩ := hR.td
  have hb4 := hR.b
  have heV := hR.eV
  refine lv_iload F.1 F.2.1 dL_law_1165 (lv_at hl 0 rfl) ?_
  refine lv_iconst (v := 5) F.1 F.2.1 dL_law_1167 (by decide) ?_
  refine lv_icmp_ge (tgt := 1391) F.1 F.2.1 dL_law_1168 (by decide) (fun c_1 => ?_) (fun c_1 => ?_)
  · refine lv_goto (tgt := 3461) F.1 F.2.1 dL_law_1391 (by decide) ?_
    refine W.widen (k := c1) (n := s1) (by omega) (by omega) ?_
    exact K _ _ ls ⟨X, Y, AD, _, _, _, _, ho, hd, hM, hY, w, R26.ups hR (by omega)⟩ (lv_sub hl [18, 1, 2, 3, 4, 5, 6, 7, 8, 9, 10, 11, 12, 14] rfl)
  · have hk5 : k < 5 := Nat.lt_of_not_le (fun q => c_1 (nI_le (a := 5) q (by omega)))
    refine lv_bipush (v := 15) F.1 F.2.1 dL_law_1171 (by decide) ?_
    refine lv_iload F.1 F.2.1 dL_law_1173 (lv_at hl 15 rfl) ?_
    refine lv_imul F.1 F.2.1 dL_law_1175 ?_
    refine lv_fold (y := nI (15 * i)) (pk_mul 15 i) ?_
    refine lv_iconst (v := 3) F.1 F.2.1 dL_law_1176 (by decide) ?_
    refine lv_iload F.1 F.2.1 dL_law_1177 (lv_at hl 0 rfl) ?_
    refine lv_imul F.1 F.2.1 dL_law_1179 ?_
    refine lv_fold (y := nI (3 * k)) (pk_mul 3 k) ?_
    refine lv_iadd F.1 F.2.1 dL_law_1180 ?_
    refine lv_fold (y := nI ((15 * i) + (3 * k))) (nI_add _ _) ?_
    refine lv_istore (lv' := [(23, .int (nI ((15 * i) + (3 * k)))), (22, .int (nI k)), (0, .ref b), (1, .ref o), (2, .ref (ad 2)), (3, .ref (ad 3)), (4, .ref (ad 4)), (5, .ref (ad 5)), (6, .ref (ad 6)), (7, .ref (ad 7)), (8, .ref (ad 8)), (9, .ref (ad 9)), (10, .ref (ad 10)), (11, .int (nI t)), (12, .int v12), (13, .int u), (14, .int (nI i)), (15, .int (nI (14 * i))), (16, .int (nI v)), (17, .int 1)]) F.1 F.2.1 dL_law_1181 hl (by decide) rfl (fun ls hl => ?_)
    refine lv_aload_n F.1 F.2.1 dL_law_1183 rfl (lv_at hl 5 rfl) ?_
    refine lv_iload F.1 F.2.1 dL_law_1184 (lv_at hl 0 rfl) ?_
    refine l_ild F w hL 3 rfl ((15 * i) + (3 * k)) (show (15 * i) + (3 * k) < 60 by omega) dL_law_1186 ?_
    refine lv_iconst (v := -1) F.1 F.2.1 dL_law_1187 (by decide) ?_
    refine lv_icmp_ne (tgt := 1195) F.1 F.2.1 dL_law_1188 (by decide) (fun c_2 => ?_) (fun c_2 => ?_)
    · obtain ⟨D9, T9, b9, e9, q9⟩ := en_c hR hi4 hk5 c_2
      rcases Nat.lt_or_ge t9 D9 with hDt | hDt
      · exact lc_en_b F hlf hRm h511 K hR hi4 hk5 hi q9 ht ht9 hDt KN hf hn ho hd hM hY w (lv_sub hl [0, 1, 2, 3, 4, 5, 6, 7, 8, 9, 10, 11, 12, 13, 14, 15, 16, 17, 18, 19] rfl)
      · exact lc_en_a F hlf hRm h511 K hR hi4 hk5 hi q9 ht ht9 hDt KN hf hn ho hd hM hY w (lv_sub hl [0, 1, 2, 3, 4, 5, 6, 7, 8, 9, 10, 11, 12, 13, 14, 15, 16, 17, 18, 19] rfl)
    · refine lv_iconst (v := 0) F.1 F.2.1 dL_law_1191 (by decide) ?_
      refine lv_goto (tgt := 1211) F.1 F.2.1 dL_law_1192 (by decide) ?_
      refine lv_istore (lv' := [(24, .int 0), (23, .int (nI ((15 * i) + (3 * k)))), (22, .int (nI k)), (0, .ref b), (1, .ref o), (2, .ref (ad 2)), (3, .ref (ad 3)), (4, .ref (ad 4)), (5, .ref (ad 5)), (6, .ref (ad 6)), (7, .ref (ad 7)), (8, .ref (ad 8)), (9, .ref (ad 9)), (10, .ref (ad 10)), (11, .int (nI t)), (12, .int v12), (13, .int u), (14, .int (nI i)), (15, .int (nI (14 * i))), (16, .int (nI v)), (17, .int 1)]) F.1 F.2.1 dL_law_1211 hl (by decide) rfl (fun ls hl => ?_)
      refine lv_iload F.1 F.2.1 dL_law_1213 (lv_at hl 17 rfl) ?_
      refine lv_aload_n F.1 F.2.1 dL_law_1215 rfl (lv_at hl 6 rfl) ?_
      refine lv_aload F.1 F.2.1 dL_law_1216 (lv_at hl 13 rfl) ?_
      refine q_rS (rest := []) F w kS_L_130 hd_L_lapsed (c_L_lapsed l D cy A _ ad S Wf hL i (show i < 4 by omega) hR.cok) dL_law_1218 rfl rfl hl.1 ⟨rfl, rfl, (show 2 ≤ R.frames by omega), (show 51 ≤ R.locals by omega)⟩ (Nat.le_of_ble_eq_true rfl) ⟨by omega, by omega⟩ ?_
      refine lv_iload F.1 F.2.1 dL_law_1221 (lv_at hl 2 rfl) ?_
      refine lv_ishr F.1 F.2.1 dL_law_1223 ?_
      refine lv_iconst (v := 1) F.1 F.2.1 dL_law_1224 (by decide) ?_
      refine lv_iand F.1 F.2.1 dL_law_1225 ?_
      refine lv_if_ne (tgt := 1290) F.1 F.2.1 dL_law_1226 (by decide) (fun c_3 => ?_) (fun c_3 => ?_)
      · refine lv_iconst (v := 0) F.1 F.2.1 dL_law_1290 (by decide) ?_
        refine lv_istore (lv' := [(25, .int 0), (24, .int 0), (23, .int (nI ((15 * i) + (3 * k)))), (22, .int (nI k)), (0, .ref b), (1, .ref o), (2, .ref (ad 2)), (3, .ref (ad 3)), (4, .ref (ad 4)), (5, .ref (ad 5)), (6, .ref (ad 6)), (7, .ref (ad 7)), (8, .ref (ad 8)), (9, .ref (ad 9)), (10, .ref (ad 10)), (11, .int (nI t)), (12, .int v12), (13, .int u), (14, .int (nI i)), (15, .int (nI (14 * i))), (16, .int (nI v)), (17, .int 1)]) F.1 F.2.1 dL_law_1291 hl (by decide) rfl (fun ls hl => ?_)
        refine lv_aload_n F.1 F.2.1 dL_law_1293 rfl (lv_at hl 7 rfl) ?_
        refine lv_iload F.1 F.2.1 dL_law_1294 (lv_at hl 2 rfl) ?_
        refine lv_iconst (v := 2) F.1 F.2.1 dL_law_1296 (by decide) ?_
        refine lv_iadd F.1 F.2.1 dL_law_1297 ?_
        refine lv_fold (y := nI ((15 * i) + (3 * k) + 2)) (nI_add ((15 * i) + (3 * k)) 2) ?_
        refine lv_dup2_11 F.1 F.2.1 dL_law_1298 rfl rfl ?_
        refine l_ild F w hL 3 rfl ((15 * i) + (3 * k) + 2) (show (15 * i) + (3 * k) + 2 < 60 by omega) dL_law_1299 ?_
        refine lv_iload F.1 F.2.1 dL_law_1300 (lv_at hl 0 rfl) ?_
        refine lv_if_eq (tgt := 1312) F.1 F.2.1 dL_law_1302 (by decide) (fun c_4 => ?_) (fun c_4 => absurd rfl c_4)
        refine lv_iconst (v := 0) F.1 F.2.1 dL_law_1312 (by decide) ?_
        refine lv_ior F.1 F.2.1 dL_law_1313 ?_
        refine l_ist F w hd hY 3 rfl ((15 * i) + (3 * k) + 2) (show (15 * i) + (3 * k) + 2 < 60 by omega) dL_law_1314 (fun H locs Y hd hY w => ?_)
        have hL := hY.un hd
        refine lv_iconst (v := 0) F.1 F.2.1 dL_law_1315 (by decide) ?_
        refine lv_istore (lv' := [(26, .int 0), (25, .int 0), (24, .int 0), (23, .int (nI ((15 * i) + (3 * k)))), (22, .int (nI k)), (0, .ref b), (1, .ref o), (2, .ref (ad 2)), (3, .ref (ad 3)), (4, .ref (ad 4)), (5, .ref (ad 5)), (6, .ref (ad 6)), (7, .ref (ad 7)), (8, .ref (ad 8)), (9, .ref (ad 9)), (10, .ref (ad 10)), (11, .int (nI t)), (12, .int v12), (13, .int u), (14, .int (nI i)), (15, .int (nI (14 * i))), (16, .int (nI v)), (17, .int 1)]) F.1 F.2.1 dL_law_1316 hl (by decide) rfl (fun ls hl => ?_)
        refine lv_aload_n F.1 F.2.1 dL_law_1318 rfl (lv_at hl 8 rfl) ?_
        refine lv_iload F.1 F.2.1 dL_law_1319 (lv_at hl 3 rfl) ?_
        refine lv_iconst (v := 2) F.1 F.2.1 dL_law_1321 (by decide) ?_
        refine lv_iadd F.1 F.2.1 dL_law_1322 ?_
        refine lv_fold (y := nI ((15 * i) + (3 * k) + 2)) (nI_add ((15 * i) + (3 * k)) 2) ?_
        refine l_ild F w hL 3 rfl ((15 * i) + (3 * k) + 2) (show (15 * i) + (3 * k) + 2 < 60 by omega) dL_law_1323 ?_
        refine lv_fold (y := (S 3 ((15 * i) + (3 * k) + 2)) ||| 0) (up2_s) ?_
        refine lv_iconst (v := 2) F.1 F.2.1 dL_law_1324 (by decide) ?_
        refine lv_ishr F.1 F.2.1 dL_law_1325 ?_
        refine lv_istore (lv' := [(27, .int (((S 3 ((15 * i) + (3 * k) + 2)) ||| 0) >>> (2 &&& 31))), (26, .int 0), (25, .int 0), (24, .int 0), (23, .int (nI ((15 * i) + (3 * k)))), (22, .int (nI k)), (0, .ref b), (1, .ref o), (2, .ref (ad 2)), (3, .ref (ad 3)), (4, .ref (ad 4)), (5, .ref (ad 5)), (6, .ref (ad 6)), (7, .ref (ad 7)), (8, .ref (ad 8)), (9, .ref (ad 9)), (10, .ref (ad 10)), (11, .int (nI t)), (12, .int v12), (13, .int u), (14, .int (nI i)), (15, .int (nI (14 * i))), (16, .int (nI v)), (17, .int 1)]) F.1 F.2.1 dL_law_1326 hl (by decide) rfl (fun ls hl => ?_)
        refine lc_mk F (lv_sub hl [0, 1, 2, 3, 4, 5, 6, 7, 8, 9, 10, 11, 12, 13, 14, 15, 16, 17, 18, 19, 20, 21, 22, 23] rfl) (fun ls x9 hl => ?_)
        refine lv_iload F.1 F.2.1 dL_law_1351 (lv_at hl 23 rfl) ?_
        refine lv_aload_n F.1 F.2.1 dL_law_1353 rfl (lv_at hl 7 rfl) ?_
        refine lv_iload F.1 F.2.1 dL_law_1354 (lv_at hl 20 rfl) ?_
        refine lv_iload F.1 F.2.1 dL_law_1356 (lv_at hl 5 rfl) ?_
        refine lw_endorse (rest := [.int 1]) F w hd hM ho hR.r.ic (nI i) (nI k) hlf dL_law_1358 hl.1 ⟨by omega, by omega⟩ (Nat.le_of_ble_eq_true rfl) ⟨by omega, by omega⟩ (fun v1358 X AD H locs hv1358 ho hd hM w => ?_)
        have hL := hY.un hd
        refine lv_fold (y := (-7300)) (hv1358.trans ((en_no0 hR hi hk5 c_3).1)) ?_
        refine lv_iload F.1 F.2.1 dL_law_1361 (lv_at hl 2 rfl) ?_
        refine lv_if_eq (tgt := 1371) F.1 F.2.1 dL_law_1363 (by decide) (fun c_5 => ?_) (fun c_5 => absurd rfl c_5)
        refine lv_sipush (v := -7300) F.1 F.2.1 dL_law_1371 (by decide) ?_
        refine lv_icmp_ne (tgt := 1381) F.1 F.2.1 dL_law_1374 (by decide) (fun c_6 => absurd rfl c_6) (fun c_6 => ?_)
        refine lv_iconst (v := 1) F.1 F.2.1 dL_law_1377 (by decide) ?_
        refine lv_goto (tgt := 1382) F.1 F.2.1 dL_law_1378 (by decide) ?_
        refine lv_iand F.1 F.2.1 dL_law_1382 ?_
        refine lv_fold (y := 1) (by decide) ?_
        refine lv_istore (lv' := [(17, .int 1), (27, .int x9), (26, .int (mkL 31 0 (((S 3 ((15 * i) + (3 * k) + 2)) ||| 0) >>> (2 &&& 31)))), (25, .int 0), (24, .int 0), (23, .int (nI ((15 * i) + (3 * k)))), (22, .int (nI k)), (0, .ref b), (1, .ref o), (2, .ref (ad 2)), (3, .ref (ad 3)), (4, .ref (ad 4)), (5, .ref (ad 5)), (6, .ref (ad 6)), (7, .ref (ad 7)), (8, .ref (ad 8)), (9, .ref (ad 9)), (10, .ref (ad 10)), (11, .int (nI t)), (12, .int v12), (13, .int u), (14, .int (nI i)), (15, .int (nI (14 * i))), (16, .int (nI v))]) F.1 F.2.1 dL_law_1383 hl (by decide) rfl (fun ls hl => ?_)
        refine lv_iinc (v := nI (k + 1)) (lv' := [(22, .int (nI (k + 1))), (17, .int 1), (27, .int x9), (26, .int (mkL 31 0 (((S 3 ((15 * i) + (3 * k) + 2)) ||| 0) >>> (2 &&& 31)))), (25, .int 0), (24, .int 0), (23, .int (nI ((15 * i) + (3 * k)))), (0, .ref b), (1, .ref o), (2, .ref (ad 2)), (3, .ref (ad 3)), (4, .ref (ad 4)), (5, .ref (ad 5)), (6, .ref (ad 6)), (7, .ref (ad 7)), (8, .ref (ad 8)), (9, .ref (ad 9)), (10, .ref (ad 10)), (11, .int (nI t)), (12, .int v12), (13, .int u), (14, .int (nI i)), (15, .int (nI (14 * i))), (16, .int (nI v))]) F.1 F.2.1 dL_law_1385 hl (k := 6) rfl (nI_1 _) (by decide) rfl (fun ls hl => ?_)
        refine lv_goto (tgt := 1165) F.1 F.2.1 dL_law_1388 (by decide) ?_
        rw [(en_no0 hR hi hk5 c_3).2] at hM
        rw [en_or0] at hY
        exact KN hR hi hk5 ⟨by omega, by omega⟩ (by omega) ho hd hM hY w (lv_sub hl [0, 7, 8, 9, 10, 11, 12, 13, 14, 15, 16, 17, 18, 19, 20, 21, 22, 23, 1] rfl)
      · refine lv_iload F.1 F.2.1 dL_law_1229 (lv_at hl 0 rfl) ?_
        refine lv_if_le (tgt := 1290) F.1 F.2.1 dL_law_1231 (by decide) (fun c_7 => ?_) (fun c_7 => absurd (by decide) c_7)
        refine lv_iconst (v := 0) F.1 F.2.1 dL_law_1290 (by decide) ?_
        refine lv_istore (lv' := [(25, .int 0), (24, .int 0), (23, .int (nI ((15 * i) + (3 * k)))), (22, .int (nI k)), (0, .ref b), (1, .ref o), (2, .ref (ad 2)), (3, .ref (ad 3)), (4, .ref (ad 4)), (5, .ref (ad 5)), (6, .ref (ad 6)), (7, .ref (ad 7)), (8, .ref (ad 8)), (9, .ref (ad 9)), (10, .ref (ad 10)), (11, .int (nI t)), (12, .int v12), (13, .int u), (14, .int (nI i)), (15, .int (nI (14 * i))), (16, .int (nI v)), (17, .int 1)]) F.1 F.2.1 dL_law_1291 hl (by decide) rfl (fun ls hl => ?_)
        refine lv_aload_n F.1 F.2.1 dL_law_1293 rfl (lv_at hl 7 rfl) ?_
        refine lv_iload F.1 F.2.1 dL_law_1294 (lv_at hl 2 rfl) ?_
        refine lv_iconst (v := 2) F.1 F.2.1 dL_law_1296 (by decide) ?_
        refine lv_iadd F.1 F.2.1 dL_law_1297 ?_
        refine lv_fold (y := nI ((15 * i) + (3 * k) + 2)) (nI_add ((15 * i) + (3 * k)) 2) ?_
        refine lv_dup2_11 F.1 F.2.1 dL_law_1298 rfl rfl ?_
        refine l_ild F w hL 3 rfl ((15 * i) + (3 * k) + 2) (show (15 * i) + (3 * k) + 2 < 60 by omega) dL_law_1299 ?_
        refine lv_iload F.1 F.2.1 dL_law_1300 (lv_at hl 0 rfl) ?_
        refine lv_if_eq (tgt := 1312) F.1 F.2.1 dL_law_1302 (by decide) (fun c_8 => ?_) (fun c_8 => absurd rfl c_8)
        refine lv_iconst (v := 0) F.1 F.2.1 dL_law_1312 (by decide) ?_
        refine lv_ior F.1 F.2.1 dL_law_1313 ?_
        refine l_ist F w hd hY 3 rfl ((15 * i) + (3 * k) + 2) (show (15 * i) + (3 * k) + 2 < 60 by omega) dL_law_1314 (fun H locs Y hd hY w => ?_)
        have hL := hY.un hd
        refine lv_iconst (v := 0) F.1 F.2.1 dL_law_1315 (by decide) ?_
        refine lv_istore (lv' := [(26, .int 0), (25, .int 0), (24, .int 0), (23, .int (nI ((15 * i) + (3 * k)))), (22, .int (nI k)), (0, .ref b), (1, .ref o), (2, .ref (ad 2)), (3, .ref (ad 3)), (4, .ref (ad 4)), (5, .ref (ad 5)), (6, .ref (ad 6)), (7, .ref (ad 7)), (8, .ref (ad 8)), (9, .ref (ad 9)), (10, .ref (ad 10)), (11, .int (nI t)), (12, .int v12), (13, .int u), (14, .int (nI i)), (15, .int (nI (14 * i))), (16, .int (nI v)), (17, .int 1)]) F.1 F.2.1 dL_law_1316 hl (by decide) rfl (fun ls hl => ?_)
        refine lv_aload_n F.1 F.2.1 dL_law_1318 rfl (lv_at hl 8 rfl) ?_
        refine lv_iload F.1 F.2.1 dL_law_1319 (lv_at hl 3 rfl) ?_
        refine lv_iconst (v := 2) F.1 F.2.1 dL_law_1321 (by decide) ?_
        refine lv_iadd F.1 F.2.1 dL_law_1322 ?_
        refine lv_fold (y := nI ((15 * i) + (3 * k) + 2)) (nI_add ((15 * i) + (3 * k)) 2) ?_
        refine l_ild F w hL 3 rfl ((15 * i) + (3 * k) + 2) (show (15 * i) + (3 * k) + 2 < 60 by omega) dL_law_1323 ?_
        refine lv_fold (y := (S 3 ((15 * i) + (3 * k) + 2)) ||| 0) (up2_s) ?_
        refine lv_iconst (v := 2) F.1 F.2.1 dL_law_1324 (by decide) ?_
        refine lv_ishr F.1 F.2.1 dL_law_1325 ?_
        refine lv_istore (lv' := [(27, .int (((S 3 ((15 * i) + (3 * k) + 2)) ||| 0) >>> (2 &&& 31))), (26, .int 0), (25, .int 0), (24, .int 0), (23, .int (nI ((15 * i) + (3 * k)))), (22, .int (nI k)), (0, .ref b), (1, .ref o), (2, .ref (ad 2)), (3, .ref (ad 3)), (4, .ref (ad 4)), (5, .ref (ad 5)), (6, .ref (ad 6)), (7, .ref (ad 7)), (8, .ref (ad 8)), (9, .ref (ad 9)), (10, .ref (ad 10)), (11, .int (nI t)), (12, .int v12), (13, .int u), (14, .int (nI i)), (15, .int (nI (14 * i))), (16, .int (nI v)), (17, .int 1)]) F.1 F.2.1 dL_law_1326 hl (by decide) rfl (fun ls hl => ?_)
        refine lc_mk F (lv_sub hl [0, 1, 2, 3, 4, 5, 6, 7, 8, 9, 10, 11, 12, 13, 14, 15, 16, 17, 18, 19, 20, 21, 22, 23] rfl) (fun ls x9 hl => ?_)
        refine lv_iload F.1 F.2.1 dL_law_1351 (lv_at hl 23 rfl) ?_
        refine lv_aload_n F.1 F.2.1 dL_law_1353 rfl (lv_at hl 7 rfl) ?_
        refine lv_iload F.1 F.2.1 dL_law_1354 (lv_at hl 20 rfl) ?_
        refine lv_iload F.1 F.2.1 dL_law_1356 (lv_at hl 5 rfl) ?_
        refine lw_endorse (rest := [.int 1]) F w hd hM ho hR.r.ic (nI i) (nI k) hlf dL_law_1358 hl.1 ⟨by omega, by omega⟩ (Nat.le_of_ble_eq_true rfl) ⟨by omega, by omega⟩ (fun v1358 X AD H locs hv1358 ho hd hM w => ?_)
        have hL := hY.un hd
        refine lv_fold (y := (-7300)) (hv1358.trans ((en_no1 hR hi hk5 c_2).1)) ?_
        refine lv_iload F.1 F.2.1 dL_law_1361 (lv_at hl 2 rfl) ?_
        refine lv_if_eq (tgt := 1371) F.1 F.2.1 dL_law_1363 (by decide) (fun c_9 => ?_) (fun c_9 => absurd rfl c_9)
        refine lv_sipush (v := -7300) F.1 F.2.1 dL_law_1371 (by decide) ?_
        refine lv_icmp_ne (tgt := 1381) F.1 F.2.1 dL_law_1374 (by decide) (fun c_10 => absurd rfl c_10) (fun c_10 => ?_)
        refine lv_iconst (v := 1) F.1 F.2.1 dL_law_1377 (by decide) ?_
        refine lv_goto (tgt := 1382) F.1 F.2.1 dL_law_1378 (by decide) ?_
        refine lv_iand F.1 F.2.1 dL_law_1382 ?_
        refine lv_fold (y := 1) (by decide) ?_
        refine lv_istore (lv' := [(17, .int 1), (27, .int x9), (26, .int (mkL 31 0 (((S 3 ((15 * i) + (3 * k) + 2)) ||| 0) >>> (2 &&& 31)))), (25, .int 0), (24, .int 0), (23, .int (nI ((15 * i) + (3 * k)))), (22, .int (nI k)), (0, .ref b), (1, .ref o), (2, .ref (ad 2)), (3, .ref (ad 3)), (4, .ref (ad 4)), (5, .ref (ad 5)), (6, .ref (ad 6)), (7, .ref (ad 7)), (8, .ref (ad 8)), (9, .ref (ad 9)), (10, .ref (ad 10)), (11, .int (nI t)), (12, .int v12), (13, .int u), (14, .int (nI i)), (15, .int (nI (14 * i))), (16, .int (nI v))]) F.1 F.2.1 dL_law_1383 hl (by decide) rfl (fun ls hl => ?_)
        refine lv_iinc (v := nI (k + 1)) (lv' := [(22, .int (nI (k + 1))), (17, .int 1), (27, .int x9), (26, .int (mkL 31 0 (((S 3 ((15 * i) + (3 * k) + 2)) ||| 0) >>> (2 &&& 31)))), (25, .int 0), (24, .int 0), (23, .int (nI ((15 * i) + (3 * k)))), (0, .ref b), (1, .ref o), (2, .ref (ad 2)), (3, .ref (ad 3)), (4, .ref (ad 4)), (5, .ref (ad 5)), (6, .ref (ad 6)), (7, .ref (ad 7)), (8, .ref (ad 8)), (9, .ref (ad 9)), (10, .ref (ad 10)), (11, .int (nI t)), (12, .int v12), (13, .int u), (14, .int (nI i)), (15, .int (nI (14 * i))), (16, .int (nI v))]) F.1 F.2.1 dL_law_1385 hl (k := 6) rfl (nI_1 _) (by decide) rfl (fun ls hl => ?_)
        refine lv_goto (tgt := 1165) F.1 F.2.1 dL_law_1388 (by decide) ?_
        rw [(en_no1 hR hi hk5 c_2).2] at hM
        rw [en_or0] at hY
        exact KN hR hi hk5 ⟨by omega, by omega⟩ (by omega) ho hd hM hY w (lv_sub hl [0, 7, 8, 9, 10, 11, 12, 13, 14, 15, 16, 17, 18, 19, 20, 21, 22, 23, 1] rfl)
set_option maxHeartbeats 4000000 in
theorem lc_endorse_l {p : Program} {l : Launch} {e : Env} {R : Room} {s : State} {m : MethodId} {args : Array Value} {below : List Frame} {meth : Method} {c : Code} {Q : State → Prop} {D : va_G} {cy : Nat → ClassId} {A : Nat → Prop} {o b t i v : Nat} {ad : Nat → Nat} {u v12 : Int32} {n n1 c1 s1 : Nat} {G M S : GS} {Wf : Nat → Int64} (F : CallFix p m c cL_law 40 s args BIG RL) (hlf : l.stackTraces = false) (hRm : 11 ≤ R.frames ∧ 278 ≤ R.locals ∧ c1 ≤ R.cells ∧ s1 ≤ R.slots) (h511 : n1 ≤ 511) (K : KJ p l e R s m args below meth c Q D cy A o b t ad u n1 c1 s1) (hR : R26 n G M S Wf) {k : Nat} (hk : k ≤ 5) (hi4 : i < 4) (hi : i < gnS M) {X Y : MU} {AD : AM} {H : Heap} {locs : List Loc} {cells slots : Nat} (hf : cells + (5 - k) ≤ c1 ∧ slots + 6 * (5 - k) ≤ s1) (hn : n + 0 ≤ n1) (ho : AD 0 0 0 = o) (hd : dis X Y) (hM : RepC cy AD G X) (hY : RepL cy ad S Wf Y) (w : WW D cy A (un X Y) s H locs) {ls : Array Slot} (hl : lv_has ls 40 [(22, .int (nI k)), (0, .ref b), (1, .ref o), (2, .ref (ad 2)), (3, .ref (ad 3)), (4, .ref (ad 4)), (5, .ref (ad 5)), (6, .ref (ad 6)), (7, .ref (ad 7)), (8, .ref (ad 8)), (9, .ref (ad 9)), (10, .ref (ad 10)), (11, .int (nI t)), (12, .int v12), (13, .int u), (14, .int (nI i)), (15, .int (nI (14 * i))), (16, .int (nI v)), (17, .int 1)]) : W p l e R s m args below meth c H locs cells slots Q (F0 m 1165 ls []) := by
  have h : ∀ (d k : Nat), k + d = 5 → ∀ {n : Nat} {G M S : GS} {Wf : Nat → Int64} {X Y : MU} {AD : AM} {H : Heap} {locs : List Loc} {cells slots : Nat} {ls : Array Slot}, R26 n G M S Wf → i < gnS M → (cells + (5 - k) ≤ c1 ∧ slots + 6 * (5 - k) ≤ s1) → n + 0 ≤ n1 → AD 0 0 0 = o → dis X Y → RepC cy AD G X → RepL cy ad S Wf Y → WW D cy A (un X Y) s H locs → lv_has ls 40 [(22, .int (nI k)), (0, .ref b), (1, .ref o), (2, .ref (ad 2)), (3, .ref (ad 3)), (4, .ref (ad 4)), (5, .ref (ad 5)), (6, .ref (ad 6)), (7, .ref (ad 7)), (8, .ref (ad 8)), (9, .ref (ad 9)), (10, .ref (ad 10)), (11, .int (nI t)), (12, .int v12), (13, .int u), (14, .int (nI i)), (15, .int (nI (14 * i))), (16, .int (nI v)), (17, .int 1)] → W p l e R s m args below meth c H locs cells slots Q (F0 m 1165 ls []) := by
    intro d
    induction d with
    | zero =>
      intro k hk n G M S Wf X Y AD H locs cells slots ls hR hi hf hn ho hd hM hY w hl
      exact lc_endorse_r F hlf hRm h511 K hR hi4 (by omega) hi (fun _ _ q => absurd q (by omega)) hf hn ho hd hM hY w hl
    | succ d ih =>
      intro k hk n G M S Wf X Y AD H locs cells slots ls hR hi hf hn ho hd hM hY w hl
      exact lc_endorse_r F hlf hRm h511 K hR hi4 (by omega) hi (fun hR hi _ hf hn ho hd hM hY w hl => ih (k + 1) (by omega) hR hi hf hn ho hd hM hY w hl) hf hn ho hd hM hY w hl
  exact h (5 - k) k (by omega) hR hi hf hn ho hd hM hY w hl
set_option maxHeartbeats 4000000 in
set_option maxRecDepth 100000 in
theorem lc_endorse {p : Program} {l : Launch} {e : Env} {R : Room} {s : State} {m : MethodId} {args : Array Value} {below : List Frame} {meth : Method} {c : Code} {Q : State → Prop} {D : va_G} {cy : Nat → ClassId} {A : Nat → Prop} {o b t i v : Nat} {ad : Nat → Nat} {u v12 : Int32} {n n1 c1 s1 : Nat} {G M S : GS} {Wf : Nat → Int64} (F : CallFix p m c cL_law 40 s args BIG RL) (hlf : l.stackTraces = false) (hRm : 11 ≤ R.frames ∧ 278 ≤ R.locals ∧ c1 ≤ R.cells ∧ s1 ≤ R.slots) (h511 : n1 ≤ 511) (K : KJ p l e R s m args below meth c Q D cy A o b t ad u n1 c1 s1) (hR : R26 n G M S Wf) (hi4 : i < 4) (hi0 : gnS M = 0 ∨ i < gnS M) (hv50 : v < 50) (hv0 : gnV M = 0 ∨ v < gnV M) {X Y : MU} {AD : AM} {H : Heap} {locs : List Loc} {cells slots : Nat} (hf : cells + 30 ≤ c1 ∧ slots + 9500 ≤ s1) (hn : n + 4 ≤ n1) (ho : AD 0 0 0 = o) (hd : dis X Y) (hM : RepC cy AD G X) (hY : RepL cy ad S Wf Y) (w : WW D cy A (un X Y) s H locs) {ls : Array Slot} (hl : lv_has ls 40 [(0, .ref b), (1, .ref o), (2, .ref (ad 2)), (3, .ref (ad 3)), (4, .ref (ad 4)), (5, .ref (ad 5)), (6, .ref (ad 6)), (7, .ref (ad 7)), (8, .ref (ad 8)), (9, .ref (ad 9)), (10, .ref (ad 10)), (11, .int (nI t)), (12, .int v12), (13, .int u), (14, .int (nI i)), (15, .int (nI (14 * i))), (16, .int (nI v)), (17, .int 1)]) : W p l e R s m args below meth c H locs cells slots Q (F0 m 1151 ls []) := by
  have hL := hY.un hd
  obtain ⟨t9, ht9, ht⟩ := hR.td
  have hb4 := hR.b
  have heV := hR.eV
  refine lv_aload F.1 F.2.1 dL_law_1151 (lv_at hl 10 rfl) ?_
  refine lv_bipush (v := 8) F.1 F.2.1 dL_law_1153 (by decide) ?_
  refine l_ild F w hL 10 rfl 8 (show 8 < 9 by omega) dL_law_1155 ?_
  refine lv_if_ne (tgt := 1162) F.1 F.2.1 dL_law_1156 (by decide) (fun c_1 => ?_) (fun c_1 => ?_)
  · have hi := si_ok hR hi0 c_1
    refine lv_iconst (v := 0) F.1 F.2.1 dL_law_1162 (by decide) ?_
    refine lv_istore (lv' := [(22, .int 0), (0, .ref b), (1, .ref o), (2, .ref (ad 2)), (3, .ref (ad 3)), (4, .ref (ad 4)), (5, .ref (ad 5)), (6, .ref (ad 6)), (7, .ref (ad 7)), (8, .ref (ad 8)), (9, .ref (ad 9)), (10, .ref (ad 10)), (11, .int (nI t)), (12, .int v12), (13, .int u), (14, .int (nI i)), (15, .int (nI (14 * i))), (16, .int (nI v)), (17, .int 1)]) F.1 F.2.1 dL_law_1163 hl (by decide) rfl (fun ls hl => ?_)
    exact lc_endorse_l F hlf hRm h511 K hR (k := 0) (by omega) hi4 hi ⟨by omega, by omega⟩ (by omega) ho hd hM hY w (lv_sub hl [0, 1, 2, 3, 4, 5, 6, 7, 8, 9, 10, 11, 12, 13, 14, 15, 16, 17, 18] rfl)
  · refine lv_goto (tgt := 3461) F.1 F.2.1 dL_law_1159 (by decide) ?_
    refine W.widen (k := c1) (n := s1) (by omega) (by omega) ?_
    exact K _ _ ls ⟨X, Y, AD, _, _, _, _, ho, hd, hM, hY, w, R26.ups hR (by omega)⟩ (lv_sub hl [17, 0, 1, 2, 3, 4, 5, 6, 7, 8, 9, 10, 11, 13] rfl)
