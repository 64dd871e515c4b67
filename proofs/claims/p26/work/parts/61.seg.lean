set_option maxHeartbeats 4000000 in
set_option maxRecDepth 100000 in
theorem lc_ship {p : Program} {l : Launch} {e : Env} {R : Room} {s : State} {m : MethodId} {args : Array Value} {below : List Frame} {meth : Method} {c : Code} {Q : State → Prop} {D : va_G} {cy : Nat → ClassId} {A : Nat → Prop} {o b t i v : Nat} {ad : Nat → Nat} {u v12 : Int32} {n n1 c1 s1 : Nat} {G M S : GS} {Wf : Nat → Int64} (F : CallFix p m c cL_law 40 s args BIG RL) (hlf : l.stackTraces = false) (hRm : 11 ≤ R.frames ∧ 278 ≤ R.locals ∧ c1 ≤ R.cells ∧ s1 ≤ R.slots) (h511 : n1 ≤ 511) (K : KJ p l e R s m args below meth c Q D cy A o b t ad u n1 c1 s1) (hR : R26 n G M S Wf) (hi4 : i < 4) (hi0 : gnS M = 0 ∨ i < gnS M) (hv50 : v < 50) (hv0 : gnV M = 0 ∨ v < gnV M) {X Y : MU} {AD : AM} {H : Heap} {locs : List Loc} {cells slots : Nat} (hf : cells + 30 ≤ c1 ∧ slots + 9500 ≤ s1) (hn : n + 1 ≤ n1) (ho : AD 0 0 0 = o) (hd : dis X Y) (hM : RepC cy AD G X) (hY : RepL cy ad S Wf Y) (w : WW D cy A (un X Y) s H locs) {ls : Array Slot} (hl : lv_has ls 40 [(0, .ref b), (1, .ref o), (2, .ref (ad 2)), (3, .ref (ad 3)), (4, .ref (ad 4)), (5, .ref (ad 5)), (6, .ref (ad 6)), (7, .ref (ad 7)), (8, .ref (ad 8)), (9, .ref (ad 9)), (10, .ref (ad 10)), (11, .int (nI t)), (12, .int v12), (13, .int u), (14, .int (nI i)), (15, .int (nI (14 * i))), (16, .int (nI v)), (17, .int 1)]) : W p l e R s m args below meth c H locs cells slots Q (F0 m 340 ls []) := by
  have hL := hY.un hd
  obtain ⟨t9, ht9, ht⟩ := hR.td
  have hb4 := hR.b
  have heV := hR.eV
  refine lv_aload F.1 F.2.1 dL_law_340 (lv_at hl 10 rfl) ?_
  refine lv_bipush (v := 8) F.1 F.2.1 dL_law_342 (by decide) ?_
  refine l_ild F w hL 10 rfl 8 (show 8 < 9 by omega) dL_law_344 ?_
  refine lv_iconst (v := 4) F.1 F.2.1 dL_law_345 (by decide) ?_
  refine lv_icmp_ne (tgt := 352) F.1 F.2.1 dL_law_346 (by decide) (fun c_1 => ?_) (fun c_1 => ?_)
  · have h4 := sh_lt hR c_1
    refine lv_bipush (v := 14) F.1 F.2.1 dL_law_352 (by decide) ?_
    refine lv_aload F.1 F.2.1 dL_law_354 (lv_at hl 10 rfl) ?_
    refine lv_bipush (v := 8) F.1 F.2.1 dL_law_356 (by decide) ?_
    refine l_ild F w hL 10 rfl 8 (show 8 < 9 by omega) dL_law_358 ?_
    refine lv_fold (y := nI (gnS M)) (hR.g8.trans hR.nS) ?_
    refine lv_imul F.1 F.2.1 dL_law_359 ?_
    refine lv_fold (y := nI (14 * (gnS M))) (pk_mul 14 (gnS M)) ?_
    refine lv_istore (lv' := [(18, .int (nI (14 * (gnS M)))), (0, .ref b), (1, .ref o), (2, .ref (ad 2)), (3, .ref (ad 3)), (4, .ref (ad 4)), (5, .ref (ad 5)), (6, .ref (ad 6)), (7, .ref (ad 7)), (8, .ref (ad 8)), (9, .ref (ad 9)), (10, .ref (ad 10)), (11, .int (nI t)), (12, .int v12), (13, .int u), (14, .int (nI i)), (15, .int (nI (14 * i))), (16, .int (nI v)), (17, .int 1)]) F.1 F.2.1 dL_law_360 hl (by decide) rfl (fun ls hl => ?_)
    refine lv_aload_n F.1 F.2.1 dL_law_362 rfl (lv_at hl 3 rfl) ?_
    refine lv_iload F.1 F.2.1 dL_law_363 (lv_at hl 0 rfl) ?_
    refine lv_iload F.1 F.2.1 dL_law_365 (lv_at hl 14 rfl) ?_
    refine lv_iconst (v := 1) F.1 F.2.1 dL_law_367 (by decide) ?_
    refine lv_iand F.1 F.2.1 dL_law_368 ?_
    refine lv_if_ne (tgt := 390) F.1 F.2.1 dL_law_369 (by decide) (fun c_2 => ?_) (fun c_2 => ?_)
    · refine lv_aload F.1 F.2.1 dL_law_390 (lv_at hl 11 rfl) ?_
      refine lv_iconst (v := 0) F.1 F.2.1 dL_law_392 (by decide) ?_
      refine l_ild F w hL 10 rfl 0 (show 0 < 9 by omega) dL_law_393 ?_
      refine lv_fold (y := nI t9) (hR.g0.trans ht) ?_
      refine lv_iload F.1 F.2.1 dL_law_394 (lv_at hl 14 rfl) ?_
      refine lv_iconst (v := 1) F.1 F.2.1 dL_law_396 (by decide) ?_
      refine lv_ishr F.1 F.2.1 dL_law_397 ?_
      refine lv_aload F.1 F.2.1 dL_law_398 (lv_at hl 11 rfl) ?_
      refine lv_iconst (v := 0) F.1 F.2.1 dL_law_400 (by decide) ?_
      refine l_ild F w hL 10 rfl 0 (show 0 < 9 by omega) dL_law_401 ?_
      refine lv_fold (y := nI t9) (hR.g0.trans ht) ?_
      refine lv_iconst (v := 1) F.1 F.2.1 dL_law_402 (by decide) ?_
      refine lv_iadd F.1 F.2.1 dL_law_403 ?_
      refine lv_fold (y := nI (t9 + 1)) (nI_add t9 1) ?_
      obtain ⟨q404, hq404, eq404⟩ := low_ok (u >>> (1 &&& 31)) (n := t9 + 1) (by omega) (by omega)
      refine q_rS (rest := [.int (nI t9), .int (nI (14 * (gnS M))), .ref (ad 2)]) F w kS_L_134 hd_L_low (c_L_low l D cy A _ (u >>> (1 &&& 31)) (nI (t9 + 1)) (nI_ne0 (by omega) (by omega))) dL_law_404 rfl rfl hl.1 ⟨rfl, rfl, (show 1 ≤ R.frames by omega), (show 21 ≤ R.locals by omega)⟩ (Nat.le_of_ble_eq_true rfl) ⟨by omega, by omega⟩ ?_
      refine lv_fold (y := nI q404) eq404 ?_
      refine lv_isub F.1 F.2.1 dL_law_407 ?_
      refine l_ist F w hd hY 2 rfl (14 * (gnS M)) (show 14 * (gnS M) < 56 by omega) dL_law_408 (fun H locs Y hd hY w => ?_)
      have hL := hY.un hd
      refine lv_aload_n F.1 F.2.1 dL_law_409 rfl (lv_at hl 3 rfl) ?_
      refine lv_iload F.1 F.2.1 dL_law_410 (lv_at hl 0 rfl) ?_
      refine lv_aload_n F.1 F.2.1 dL_law_412 rfl (lv_at hl 3 rfl) ?_
      refine lv_iload F.1 F.2.1 dL_law_413 (lv_at hl 0 rfl) ?_
      refine l_ild F w hL 2 rfl (14 * (gnS M)) (show 14 * (gnS M) < 56 by omega) dL_law_415 ?_
      refine lv_fold (y := (nI t9) - (nI q404)) (up2_s) ?_
      refine lv_sipush (v := -10000) F.1 F.2.1 dL_law_416 (by decide) ?_
      refine lv_icmp_ge (tgt := 428) F.1 F.2.1 dL_law_419 (by decide) (fun c_3 => ?_) (fun c_3 => ?_)
      · refine lv_aload_n F.1 F.2.1 dL_law_428 rfl (lv_at hl 3 rfl) ?_
        refine lv_iload F.1 F.2.1 dL_law_429 (lv_at hl 0 rfl) ?_
        refine l_ild F w hL 2 rfl (14 * (gnS M)) (show 14 * (gnS M) < 56 by omega) dL_law_431 ?_
        refine lv_fold (y := (nI t9) - (nI q404)) (up2_s) ?_
        refine l_ist F w hd hY 2 rfl (14 * (gnS M)) (show 14 * (gnS M) < 56 by omega) dL_law_432 (fun H locs Y hd hY w => ?_)
        have hL := hY.un hd
        refine lv_aload_n F.1 F.2.1 dL_law_433 rfl (lv_at hl 3 rfl) ?_
        refine lv_iload F.1 F.2.1 dL_law_434 (lv_at hl 0 rfl) ?_
        refine lv_iconst (v := 1) F.1 F.2.1 dL_law_436 (by decide) ?_
        refine lv_iadd F.1 F.2.1 dL_law_437 ?_
        refine lv_fold (y := nI ((14 * (gnS M)) + 1)) (nI_add (14 * (gnS M)) 1) ?_
        refine lv_bipush (v := 100) F.1 F.2.1 dL_law_438 (by decide) ?_
        refine lv_iload F.1 F.2.1 dL_law_440 (lv_at hl 14 rfl) ?_
        refine lv_iconst (v := 4) F.1 F.2.1 dL_law_442 (by decide) ?_
        refine lv_ishr F.1 F.2.1 dL_law_443 ?_
        refine lv_sipush (v := 2000) F.1 F.2.1 dL_law_444 (by decide) ?_
        obtain ⟨q447, hq447, eq447⟩ := low_ok (u >>> (4 &&& 31)) (n := 2000) (by omega) (by omega)
        refine q_rS (rest := [.int 100, .int (nI ((14 * (gnS M)) + 1)), .ref (ad 2)]) F w kS_L_134 hd_L_low (c_L_low l D cy A _ (u >>> (4 &&& 31)) 2000 (by decide)) dL_law_447 rfl rfl hl.1 ⟨rfl, rfl, (show 1 ≤ R.frames by omega), (show 21 ≤ R.locals by omega)⟩ (Nat.le_of_ble_eq_true rfl) ⟨by omega, by omega⟩ ?_
        refine lv_fold (y := nI q447) eq447 ?_
        refine lv_iadd F.1 F.2.1 dL_law_450 ?_
        refine lv_fold (y := nI (100 + q447)) (nI_add 100 q447) ?_
        refine l_ist F w hd hY 2 rfl ((14 * (gnS M)) + 1) (show (14 * (gnS M)) + 1 < 56 by omega) dL_law_451 (fun H locs Y hd hY w => ?_)
        have hL := hY.un hd
        refine lv_aload_n F.1 F.2.1 dL_law_452 rfl (lv_at hl 3 rfl) ?_
        refine lv_iload F.1 F.2.1 dL_law_453 (lv_at hl 0 rfl) ?_
        refine lv_iconst (v := 2) F.1 F.2.1 dL_law_455 (by decide) ?_
        refine lv_iadd F.1 F.2.1 dL_law_456 ?_
        refine lv_fold (y := nI ((14 * (gnS M)) + 2)) (nI_add (14 * (gnS M)) 2) ?_
        refine lv_iload F.1 F.2.1 dL_law_457 (lv_at hl 14 rfl) ?_
        refine lv_bipush (v := 9) F.1 F.2.1 dL_law_459 (by decide) ?_
        refine lv_ishr F.1 F.2.1 dL_law_461 ?_
        refine lv_iconst (v := 3) F.1 F.2.1 dL_law_462 (by decide) ?_
        obtain ⟨q463, hq463, eq463⟩ := low_ok (u >>> (9 &&& 31)) (n := 3) (by omega) (by omega)
        refine q_rS (rest := [.int (nI ((14 * (gnS M)) + 2)), .ref (ad 2)]) F w kS_L_134 hd_L_low (c_L_low l D cy A _ (u >>> (9 &&& 31)) 3 (by decide)) dL_law_463 rfl rfl hl.1 ⟨rfl, rfl, (show 1 ≤ R.frames by omega), (show 21 ≤ R.locals by omega)⟩ (Nat.le_of_ble_eq_true rfl) ⟨by omega, by omega⟩ ?_
        refine lv_fold (y := nI q463) eq463 ?_
        refine l_ist F w hd hY 2 rfl ((14 * (gnS M)) + 2) (show (14 * (gnS M)) + 2 < 56 by omega) dL_law_466 (fun H locs Y hd hY w => ?_)
        have hL := hY.un hd
        refine lv_aload_n F.1 F.2.1 dL_law_467 rfl (lv_at hl 3 rfl) ?_
        refine lv_iload F.1 F.2.1 dL_law_468 (lv_at hl 0 rfl) ?_
        refine lv_iconst (v := 3) F.1 F.2.1 dL_law_470 (by decide) ?_
        refine lv_iadd F.1 F.2.1 dL_law_471 ?_
        refine lv_fold (y := nI ((14 * (gnS M)) + 3)) (nI_add (14 * (gnS M)) 3) ?_
        refine lv_iload F.1 F.2.1 dL_law_472 (lv_at hl 14 rfl) ?_
        refine lv_bipush (v := 12) F.1 F.2.1 dL_law_474 (by decide) ?_
        refine lv_ishr F.1 F.2.1 dL_law_476 ?_
        refine lv_iconst (v := 3) F.1 F.2.1 dL_law_477 (by decide) ?_
        obtain ⟨q478, hq478, eq478⟩ := low_ok (u >>> (12 &&& 31)) (n := 3) (by omega) (by omega)
        refine q_rS (rest := [.int (nI ((14 * (gnS M)) + 3)), .ref (ad 2)]) F w kS_L_134 hd_L_low (c_L_low l D cy A _ (u >>> (12 &&& 31)) 3 (by decide)) dL_law_478 rfl rfl hl.1 ⟨rfl, rfl, (show 1 ≤ R.frames by omega), (show 21 ≤ R.locals by omega)⟩ (Nat.le_of_ble_eq_true rfl) ⟨by omega, by omega⟩ ?_
        refine lv_fold (y := nI q478) eq478 ?_
        refine l_ist F w hd hY 2 rfl ((14 * (gnS M)) + 3) (show (14 * (gnS M)) + 3 < 56 by omega) dL_law_481 (fun H locs Y hd hY w => ?_)
        have hL := hY.un hd
        refine lv_aload_n F.1 F.2.1 dL_law_482 rfl (lv_at hl 3 rfl) ?_
        refine lv_iload F.1 F.2.1 dL_law_483 (lv_at hl 0 rfl) ?_
        refine lv_iconst (v := 4) F.1 F.2.1 dL_law_485 (by decide) ?_
        refine lv_iadd F.1 F.2.1 dL_law_486 ?_
        refine lv_fold (y := nI ((14 * (gnS M)) + 4)) (nI_add (14 * (gnS M)) 4) ?_
        refine lv_iload F.1 F.2.1 dL_law_487 (lv_at hl 14 rfl) ?_
        refine lv_bipush (v := 15) F.1 F.2.1 dL_law_489 (by decide) ?_
        refine lv_ishr F.1 F.2.1 dL_law_491 ?_
        refine lv_iconst (v := 4) F.1 F.2.1 dL_law_492 (by decide) ?_
        obtain ⟨q493, hq493, eq493⟩ := low_ok (u >>> (15 &&& 31)) (n := 4) (by omega) (by omega)
        refine q_rS (rest := [.int (nI ((14 * (gnS M)) + 4)), .ref (ad 2)]) F w kS_L_134 hd_L_low (c_L_low l D cy A _ (u >>> (15 &&& 31)) 4 (by decide)) dL_law_493 rfl rfl hl.1 ⟨rfl, rfl, (show 1 ≤ R.frames by omega), (show 21 ≤ R.locals by omega)⟩ (Nat.le_of_ble_eq_true rfl) ⟨by omega, by omega⟩ ?_
        refine lv_fold (y := nI q493) eq493 ?_
        refine l_ist F w hd hY 2 rfl ((14 * (gnS M)) + 4) (show (14 * (gnS M)) + 4 < 56 by omega) dL_law_496 (fun H locs Y hd hY w => ?_)
        have hL := hY.un hd
        refine lv_bipush (v := 6) F.1 F.2.1 dL_law_497 (by decide) ?_
        refine lv_istore (lv' := [(19, .int 6), (18, .int (nI (14 * (gnS M)))), (0, .ref b), (1, .ref o), (2, .ref (ad 2)), (3, .ref (ad 3)), (4, .ref (ad 4)), (5, .ref (ad 5)), (6, .ref (ad 6)), (7, .ref (ad 7)), (8, .ref (ad 8)), (9, .ref (ad 9)), (10, .ref (ad 10)), (11, .int (nI t)), (12, .int v12), (13, .int u), (14, .int (nI i)), (15, .int (nI (14 * i))), (16, .int (nI v)), (17, .int 1)]) F.1 F.2.1 dL_law_499 hl (by decide) rfl (fun ls hl => ?_)
        refine lv_iload F.1 F.2.1 dL_law_501 (lv_at hl 0 rfl) ?_
        refine lv_bipush (v := 10) F.1 F.2.1 dL_law_503 (by decide) ?_
        refine lv_icmp_ge (tgt := 522) F.1 F.2.1 dL_law_505 (by decide) (fun c_4 => absurd c_4 (by decide)) (fun c_4 => ?_)
        refine lv_aload_n F.1 F.2.1 dL_law_508 rfl (lv_at hl 4 rfl) ?_
        refine lv_iload F.1 F.2.1 dL_law_509 (lv_at hl 1 rfl) ?_
        refine lv_iload F.1 F.2.1 dL_law_511 (lv_at hl 0 rfl) ?_
        refine lv_iadd F.1 F.2.1 dL_law_513 ?_
        refine lv_fold (y := nI ((14 * (gnS M)) + 6)) (nI_add (14 * (gnS M)) 6) ?_
        refine lv_iconst (v := -1) F.1 F.2.1 dL_law_514 (by decide) ?_
        refine l_ist F w hd hY 2 rfl ((14 * (gnS M)) + 6) (show (14 * (gnS M)) + 6 < 56 by omega) dL_law_515 (fun H locs Y hd hY w => ?_)
        have hL := hY.un hd
        refine lv_iinc (v := 7) (lv' := [(19, .int 7), (18, .int (nI (14 * (gnS M)))), (0, .ref b), (1, .ref o), (2, .ref (ad 2)), (3, .ref (ad 3)), (4, .ref (ad 4)), (5, .ref (ad 5)), (6, .ref (ad 6)), (7, .ref (ad 7)), (8, .ref (ad 8)), (9, .ref (ad 9)), (10, .ref (ad 10)), (11, .int (nI t)), (12, .int v12), (13, .int u), (14, .int (nI i)), (15, .int (nI (14 * i))), (16, .int (nI v)), (17, .int 1)]) F.1 F.2.1 dL_law_516 hl (k := 0) rfl (by decide) (by decide) rfl (fun ls hl => ?_)
        refine lv_goto (tgt := 501) F.1 F.2.1 dL_law_519 (by decide) ?_
        refine lv_iload F.1 F.2.1 dL_law_501 (lv_at hl 0 rfl) ?_
        refine lv_bipush (v := 10) F.1 F.2.1 dL_law_503 (by decide) ?_
        refine lv_icmp_ge (tgt := 522) F.1 F.2.1 dL_law_505 (by decide) (fun c_5 => absurd c_5 (by decide)) (fun c_5 => ?_)
        refine lv_aload_n F.1 F.2.1 dL_law_508 rfl (lv_at hl 4 rfl) ?_
        refine lv_iload F.1 F.2.1 dL_law_509 (lv_at hl 1 rfl) ?_
        refine lv_iload F.1 F.2.1 dL_law_511 (lv_at hl 0 rfl) ?_
        refine lv_iadd F.1 F.2.1 dL_law_513 ?_
        refine lv_fold (y := nI ((14 * (gnS M)) + 7)) (nI_add (14 * (gnS M)) 7) ?_
        refine lv_iconst (v := -1) F.1 F.2.1 dL_law_514 (by decide) ?_
        refine l_ist F w hd hY 2 rfl ((14 * (gnS M)) + 7) (show (14 * (gnS M)) + 7 < 56 by omega) dL_law_515 (fun H locs Y hd hY w => ?_)
        have hL := hY.un hd
        refine lv_iinc (v := 8) (lv' := [(19, .int 8), (18, .int (nI (14 * (gnS M)))), (0, .ref b), (1, .ref o), (2, .ref (ad 2)), (3, .ref (ad 3)), (4, .ref (ad 4)), (5, .ref (ad 5)), (6, .ref (ad 6)), (7, .ref (ad 7)), (8, .ref (ad 8)), (9, .ref (ad 9)), (10, .ref (ad 10)), (11, .int (nI t)), (12, .int v12), (13, .int u), (14, .int (nI i)), (15, .int (nI (14 * i))), (16, .int (nI v)), (17, .int 1)]) F.1 F.2.1 dL_law_516 hl (k := 0) rfl (by decide) (by decide) rfl (fun ls hl => ?_)
        refine lv_goto (tgt := 501) F.1 F.2.1 dL_law_519 (by decide) ?_
        refine lv_iload F.1 F.2.1 dL_law_501 (lv_at hl 0 rfl) ?_
        refine lv_bipush (v := 10) F.1 F.2.1 dL_law_503 (by decide) ?_
        refine lv_icmp_ge (tgt := 522) F.1 F.2.1 dL_law_505 (by decide) (fun c_6 => absurd c_6 (by decide)) (fun c_6 => ?_)
        refine lv_aload_n F.1 F.2.1 dL_law_508 rfl (lv_at hl 4 rfl) ?_
        refine lv_iload F.1 F.2.1 dL_law_509 (lv_at hl 1 rfl) ?_
        refine lv_iload F.1 F.2.1 dL_law_511 (lv_at hl 0 rfl) ?_
        refine lv_iadd F.1 F.2.1 dL_law_513 ?_
        refine lv_fold (y := nI ((14 * (gnS M)) + 8)) (nI_add (14 * (gnS M)) 8) ?_
        refine lv_iconst (v := -1) F.1 F.2.1 dL_law_514 (by decide) ?_
        refine l_ist F w hd hY 2 rfl ((14 * (gnS M)) + 8) (show (14 * (gnS M)) + 8 < 56 by omega) dL_law_515 (fun H locs Y hd hY w => ?_)
        have hL := hY.un hd
        refine lv_iinc (v := 9) (lv' := [(19, .int 9), (18, .int (nI (14 * (gnS M)))), (0, .ref b), (1, .ref o), (2, .ref (ad 2)), (3, .ref (ad 3)), (4, .ref (ad 4)), (5, .ref (ad 5)), (6, .ref (ad 6)), (7, .ref (ad 7)), (8, .ref (ad 8)), (9, .ref (ad 9)), (10, .ref (ad 10)), (11, .int (nI t)), (12, .int v12), (13, .int u), (14, .int (nI i)), (15, .int (nI (14 * i))), (16, .int (nI v)), (17, .int 1)]) F.1 F.2.1 dL_law_516 hl (k := 0) rfl (by decide) (by decide) rfl (fun ls hl => ?_)
        refine lv_goto (tgt := 501) F.1 F.2.1 dL_law_519 (by decide) ?_
        refine lv_iload F.1 F.2.1 dL_law_501 (lv_at hl 0 rfl) ?_
        refine lv_bipush (v := 10) F.1 F.2.1 dL_law_503 (by decide) ?_
        refine lv_icmp_ge (tgt := 522) F.1 F.2.1 dL_law_505 (by decide) (fun c_7 => absurd c_7 (by decide)) (fun c_7 => ?_)
        refine lv_aload_n F.1 F.2.1 dL_law_508 rfl (lv_at hl 4 rfl) ?_
        refine lv_iload F.1 F.2.1 dL_law_509 (lv_at hl 1 rfl) ?_
        refine lv_iload F.1 F.2.1 dL_law_511 (lv_at hl 0 rfl) ?_
        refine lv_iadd F.1 F.2.1 dL_law_513 ?_
        refine lv_fold (y := nI ((14 * (gnS M)) + 9)) (nI_add (14 * (gnS M)) 9) ?_
        refine lv_iconst (v := -1) F.1 F.2.1 dL_law_514 (by decide) ?_
        refine l_ist F w hd hY 2 rfl ((14 * (gnS M)) + 9) (show (14 * (gnS M)) + 9 < 56 by omega) dL_law_515 (fun H locs Y hd hY w => ?_)
        have hL := hY.un hd
        refine lv_iinc (v := 10) (lv' := [(19, .int 10), (18, .int (nI (14 * (gnS M)))), (0, .ref b), (1, .ref o), (2, .ref (ad 2)), (3, .ref (ad 3)), (4, .ref (ad 4)), (5, .ref (ad 5)), (6, .ref (ad 6)), (7, .ref (ad 7)), (8, .ref (ad 8)), (9, .ref (ad 9)), (10, .ref (ad 10)), (11, .int (nI t)), (12, .int v12), (13, .int u), (14, .int (nI i)), (15, .int (nI (14 * i))), (16, .int (nI v)), (17, .int 1)]) F.1 F.2.1 dL_law_516 hl (k := 0) rfl (by decide) (by decide) rfl (fun ls hl => ?_)
        refine lv_goto (tgt := 501) F.1 F.2.1 dL_law_519 (by decide) ?_
        refine lv_iload F.1 F.2.1 dL_law_501 (lv_at hl 0 rfl) ?_
        refine lv_bipush (v := 10) F.1 F.2.1 dL_law_503 (by decide) ?_
        refine lv_icmp_ge (tgt := 522) F.1 F.2.1 dL_law_505 (by decide) (fun c_8 => ?_) (fun c_8 => absurd (by decide) c_8)
        refine lv_aload_n F.1 F.2.1 dL_law_522 rfl (lv_at hl 4 rfl) ?_
        refine lv_iload F.1 F.2.1 dL_law_523 (lv_at hl 1 rfl) ?_
        refine lv_bipush (v := 12) F.1 F.2.1 dL_law_525 (by decide) ?_
        refine lv_iadd F.1 F.2.1 dL_law_527 ?_
        refine lv_fold (y := nI ((14 * (gnS M)) + 12)) (nI_add (14 * (gnS M)) 12) ?_
        refine lv_iconst (v := -1) F.1 F.2.1 dL_law_528 (by decide) ?_
        refine l_ist F w hd hY 2 rfl ((14 * (gnS M)) + 12) (show (14 * (gnS M)) + 12 < 56 by omega) dL_law_529 (fun H locs Y hd hY w => ?_)
        have hL := hY.un hd
        obtain ⟨a9, hRn⟩ := sh_ok hR c_1 ht ht9 (x1 := (nI t9) - (nI q404)) (Int32.le_iff_toInt_le.mp c_3) (by rw [pk_sub_toInt (by omega) (by omega)]; omega) hq447 hq463 hq478 hq493
        refine lv_aload_n F.1 F.2.1 dL_law_530 rfl (lv_at hl 3 rfl) ?_
        refine lv_aload_n F.1 F.2.1 dL_law_531 rfl (lv_at hl 4 rfl) ?_
        refine lv_iload F.1 F.2.1 dL_law_532 (lv_at hl 1 rfl) ?_
        refine l_ild F w hL 2 rfl (14 * (gnS M)) (show 14 * (gnS M) < 56 by omega) dL_law_534 ?_
        refine lv_fold (y := (nI t9) - (nI q404)) ((up2_d (by omega)).trans ((up2_d (by omega)).trans ((up2_d (by omega)).trans ((up2_d (by omega)).trans ((up2_d (by omega)).trans ((up2_d (by omega)).trans ((up2_d (by omega)).trans ((up2_d (by omega)).trans ((up2_d (by omega)).trans (up2_s)))))))))) ?_
        refine lv_aload_n F.1 F.2.1 dL_law_535 rfl (lv_at hl 4 rfl) ?_
        refine lv_iload F.1 F.2.1 dL_law_536 (lv_at hl 1 rfl) ?_
        refine lv_iconst (v := 1) F.1 F.2.1 dL_law_538 (by decide) ?_
        refine lv_iadd F.1 F.2.1 dL_law_539 ?_
        refine lv_fold (y := nI ((14 * (gnS M)) + 1)) (nI_add (14 * (gnS M)) 1) ?_
        refine l_ild F w hL 2 rfl ((14 * (gnS M)) + 1) (show (14 * (gnS M)) + 1 < 56 by omega) dL_law_540 ?_
        refine lv_fold (y := nI (100 + q447)) ((up2_d (by omega)).trans ((up2_d (by omega)).trans ((up2_d (by omega)).trans ((up2_d (by omega)).trans ((up2_d (by omega)).trans ((up2_d (by omega)).trans ((up2_d (by omega)).trans ((up2_d (by omega)).trans (up2_s))))))))) ?_
        refine lv_aload_n F.1 F.2.1 dL_law_541 rfl (lv_at hl 4 rfl) ?_
        refine lv_iload F.1 F.2.1 dL_law_542 (lv_at hl 1 rfl) ?_
        refine lv_iconst (v := 2) F.1 F.2.1 dL_law_544 (by decide) ?_
        refine lv_iadd F.1 F.2.1 dL_law_545 ?_
        refine lv_fold (y := nI ((14 * (gnS M)) + 2)) (nI_add (14 * (gnS M)) 2) ?_
        refine l_ild F w hL 2 rfl ((14 * (gnS M)) + 2) (show (14 * (gnS M)) + 2 < 56 by omega) dL_law_546 ?_
        refine lv_fold (y := nI q463) ((up2_d (by omega)).trans ((up2_d (by omega)).trans ((up2_d (by omega)).trans ((up2_d (by omega)).trans ((up2_d (by omega)).trans ((up2_d (by omega)).trans ((up2_d (by omega)).trans (up2_s)))))))) ?_
        refine lv_aload_n F.1 F.2.1 dL_law_547 rfl (lv_at hl 4 rfl) ?_
        refine lv_iload F.1 F.2.1 dL_law_548 (lv_at hl 1 rfl) ?_
        refine lv_iconst (v := 3) F.1 F.2.1 dL_law_550 (by decide) ?_
        refine lv_iadd F.1 F.2.1 dL_law_551 ?_
        refine lv_fold (y := nI ((14 * (gnS M)) + 3)) (nI_add (14 * (gnS M)) 3) ?_
        refine l_ild F w hL 2 rfl ((14 * (gnS M)) + 3) (show (14 * (gnS M)) + 3 < 56 by omega) dL_law_552 ?_
        refine lv_fold (y := nI q478) ((up2_d (by omega)).trans ((up2_d (by omega)).trans ((up2_d (by omega)).trans ((up2_d (by omega)).trans ((up2_d (by omega)).trans ((up2_d (by omega)).trans (up2_s))))))) ?_
        refine lv_aload_n F.1 F.2.1 dL_law_553 rfl (lv_at hl 4 rfl) ?_
        refine lv_iload F.1 F.2.1 dL_law_554 (lv_at hl 1 rfl) ?_
        refine lv_iconst (v := 4) F.1 F.2.1 dL_law_556 (by decide) ?_
        refine lv_iadd F.1 F.2.1 dL_law_557 ?_
        refine lv_fold (y := nI ((14 * (gnS M)) + 4)) (nI_add (14 * (gnS M)) 4) ?_
        refine l_ild F w hL 2 rfl ((14 * (gnS M)) + 4) (show (14 * (gnS M)) + 4 < 56 by omega) dL_law_558 ?_
        refine lv_fold (y := nI q493) ((up2_d (by omega)).trans ((up2_d (by omega)).trans ((up2_d (by omega)).trans ((up2_d (by omega)).trans ((up2_d (by omega)).trans (up2_s)))))) ?_
        refine lw_ship (rest := []) F w hd hM ho hR.r.ic ((nI t9) - (nI q404)) (nI (100 + q447)) (nI q463) (nI q478) (nI q493) hlf dL_law_559 hl.1 ⟨by omega, by omega⟩ (Nat.le_of_ble_eq_true rfl) ⟨by omega, by omega⟩ (fun v559 X AD H locs hv559 ho hd hM w => ?_)
        have hL := hY.un hd
        refine lv_fold (y := nI (gnS M)) (hv559.trans a9) ?_
        refine lv_aload F.1 F.2.1 dL_law_562 (lv_at hl 12 rfl) ?_
        refine lv_bipush (v := 8) F.1 F.2.1 dL_law_564 (by decide) ?_
        refine l_ild F w hL 10 rfl 8 (show 8 < 9 by omega) dL_law_566 ?_
        refine lv_fold (y := S 10 8) ((up2_r (by decide)).trans ((up2_r (by decide)).trans ((up2_r (by decide)).trans ((up2_r (by decide)).trans ((up2_r (by decide)).trans ((up2_r (by decide)).trans ((up2_r (by decide)).trans ((up2_r (by decide)).trans ((up2_r (by decide)).trans ((up2_r (by decide)).trans (up2_r (by decide)))))))))))) ?_
        refine lv_fold (y := nI (gnS M)) (hR.g8.trans hR.nS) ?_
        refine lv_icmp_ne (tgt := 574) F.1 F.2.1 dL_law_567 (by decide) (fun c_9 => absurd rfl c_9) (fun c_9 => ?_)
        refine lv_iconst (v := 1) F.1 F.2.1 dL_law_570 (by decide) ?_
        refine lv_goto (tgt := 575) F.1 F.2.1 dL_law_571 (by decide) ?_
        refine lv_istore (lv' := [(17, .int 1), (19, .int 10), (18, .int (nI (14 * (gnS M)))), (0, .ref b), (1, .ref o), (2, .ref (ad 2)), (3, .ref (ad 3)), (4, .ref (ad 4)), (5, .ref (ad 5)), (6, .ref (ad 6)), (7, .ref (ad 7)), (8, .ref (ad 8)), (9, .ref (ad 9)), (10, .ref (ad 10)), (11, .int (nI t)), (12, .int v12), (13, .int u), (14, .int (nI i)), (15, .int (nI (14 * i))), (16, .int (nI v))]) F.1 F.2.1 dL_law_575 hl (by decide) rfl (fun ls hl => ?_)
        refine lv_aload F.1 F.2.1 dL_law_577 (lv_at hl 13 rfl) ?_
        refine lv_bipush (v := 8) F.1 F.2.1 dL_law_579 (by decide) ?_
        refine lv_dup2_11 F.1 F.2.1 dL_law_581 rfl rfl ?_
        refine l_ild F w hL 10 rfl 8 (show 8 < 9 by omega) dL_law_582 ?_
        refine lv_fold (y := S 10 8) ((up2_r (by decide)).trans ((up2_r (by decide)).trans ((up2_r (by decide)).trans ((up2_r (by decide)).trans ((up2_r (by decide)).trans ((up2_r (by decide)).trans ((up2_r (by decide)).trans ((up2_r (by decide)).trans ((up2_r (by decide)).trans ((up2_r (by decide)).trans (up2_r (by decide)))))))))))) ?_
        refine lv_iconst (v := 1) F.1 F.2.1 dL_law_583 (by decide) ?_
        refine lv_iadd F.1 F.2.1 dL_law_584 ?_
        refine l_ist F w hd hY 10 rfl 8 (show 8 < 9 by omega) dL_law_585 (fun H locs Y hd hY w => ?_)
        have hL := hY.un hd
        refine lv_goto (tgt := 3461) F.1 F.2.1 dL_law_586 (by decide) ?_
        refine W.widen (k := c1) (n := s1) (by omega) (by omega) ?_
        exact K _ _ ls ⟨X, Y, AD, _, _, _, _, ho, hd, hM, hY, w, R26.ups (hRn _) (by omega)⟩ (lv_sub hl [0, 3, 4, 5, 6, 7, 8, 9, 10, 11, 12, 13, 14, 16] rfl)
      · refine lv_sipush (v := -10000) F.1 F.2.1 dL_law_422 (by decide) ?_
        refine lv_goto (tgt := 432) F.1 F.2.1 dL_law_425 (by decide) ?_
        refine l_ist F w hd hY 2 rfl (14 * (gnS M)) (show 14 * (gnS M) < 56 by omega) dL_law_432 (fun H locs Y hd hY w => ?_)
        have hL := hY.un hd
        refine lv_aload_n F.1 F.2.1 dL_law_433 rfl (lv_at hl 3 rfl) ?_
        refine lv_iload F.1 F.2.1 dL_law_434 (lv_at hl 0 rfl) ?_
        refine lv_iconst (v := 1) F.1 F.2.1 dL_law_436 (by decide) ?_
        refine lv_iadd F.1 F.2.1 dL_law_437 ?_
        refine lv_fold (y := nI ((14 * (gnS M)) + 1)) (nI_add (14 * (gnS M)) 1) ?_
        refine lv_bipush (v := 100) F.1 F.2.1 dL_law_438 (by decide) ?_
        refine lv_iload F.1 F.2.1 dL_law_440 (lv_at hl 14 rfl) ?_
        refine lv_iconst (v := 4) F.1 F.2.1 dL_law_442 (by decide) ?_
        refine lv_ishr F.1 F.2.1 dL_law_443 ?_
        refine lv_sipush (v := 2000) F.1 F.2.1 dL_law_444 (by decide) ?_
        obtain ⟨q447, hq447, eq447⟩ := low_ok (u >>> (4 &&& 31)) (n := 2000) (by omega) (by omega)
        refine q_rS (rest := [.int 100, .int (nI ((14 * (gnS M)) + 1)), .ref (ad 2)]) F w kS_L_134 hd_L_low (c_L_low l D cy A _ (u >>> (4 &&& 31)) 2000 (by decide)) dL_law_447 rfl rfl hl.1 ⟨rfl, rfl, (show 1 ≤ R.frames by omega), (show 21 ≤ R.locals by omega)⟩ (Nat.le_of_ble_eq_true rfl) ⟨by omega, by omega⟩ ?_
        refine lv_fold (y := nI q447) eq447 ?_
        refine lv_iadd F.1 F.2.1 dL_law_450 ?_
        refine lv_fold (y := nI (100 + q447)) (nI_add 100 q447) ?_
        refine l_ist F w hd hY 2 rfl ((14 * (gnS M)) + 1) (show (14 * (gnS M)) + 1 < 56 by omega) dL_law_451 (fun H locs Y hd hY w => ?_)
        have hL := hY.un hd
        refine lv_aload_n F.1 F.2.1 dL_law_452 rfl (lv_at hl 3 rfl) ?_
        refine lv_iload F.1 F.2.1 dL_law_453 (lv_at hl 0 rfl) ?_
        refine lv_iconst (v := 2) F.1 F.2.1 dL_law_455 (by decide) ?_
        refine lv_iadd F.1 F.2.1 dL_law_456 ?_
        refine lv_fold (y := nI ((14 * (gnS M)) + 2)) (nI_add (14 * (gnS M)) 2) ?_
        refine lv_iload F.1 F.2.1 dL_law_457 (lv_at hl 14 rfl) ?_
        refine lv_bipush (v := 9) F.1 F.2.1 dL_law_459 (by decide) ?_
        refine lv_ishr F.1 F.2.1 dL_law_461 ?_
        refine lv_iconst (v := 3) F.1 F.2.1 dL_law_462 (by decide) ?_
        obtain ⟨q463, hq463, eq463⟩ := low_ok (u >>> (9 &&& 31)) (n := 3) (by omega) (by omega)
        refine q_rS (rest := [.int (nI ((14 * (gnS M)) + 2)), .ref (ad 2)]) F w kS_L_134 hd_L_low (c_L_low l D cy A _ (u >>> (9 &&& 31)) 3 (by decide)) dL_law_463 rfl rfl hl.1 ⟨rfl, rfl, (show 1 ≤ R.frames by omega), (show 21 ≤ R.locals by omega)⟩ (Nat.le_of_ble_eq_true rfl) ⟨by omega, by omega⟩ ?_
        refine lv_fold (y := nI q463) eq463 ?_
        refine l_ist F w hd hY 2 rfl ((14 * (gnS M)) + 2) (show (14 * (gnS M)) + 2 < 56 by omega) dL_law_466 (fun H locs Y hd hY w => ?_)
        have hL := hY.un hd
        refine lv_aload_n F.1 F.2.1 dL_law_467 rfl (lv_at hl 3 rfl) ?_
        refine lv_iload F.1 F.2.1 dL_law_468 (lv_at hl 0 rfl) ?_
        refine lv_iconst (v := 3) F.1 F.2.1 dL_law_470 (by decide) ?_
        refine lv_iadd F.1 F.2.1 dL_law_471 ?_
        refine lv_fold (y := nI ((14 * (gnS M)) + 3)) (nI_add (14 * (gnS M)) 3) ?_
        refine lv_iload F.1 F.2.1 dL_law_472 (lv_at hl 14 rfl) ?_
        refine lv_bipush (v := 12) F.1 F.2.1 dL_law_474 (by decide) ?_
        refine lv_ishr F.1 F.2.1 dL_law_476 ?_
        refine lv_iconst (v := 3) F.1 F.2.1 dL_law_477 (by decide) ?_
        obtain ⟨q478, hq478, eq478⟩ := low_ok (u >>> (12 &&& 31)) (n := 3) (by omega) (by omega)
        refine q_rS (rest := [.int (nI ((14 * (gnS M)) + 3)), .ref (ad 2)]) F w kS_L_134 hd_L_low (c_L_low l D cy A _ (u >>> (12 &&& 31)) 3 (by decide)) dL_law_478 rfl rfl hl.1 ⟨rfl, rfl, (show 1 ≤ R.frames by omega), (show 21 ≤ R.locals by omega)⟩ (Nat.le_of_ble_eq_true rfl) ⟨by omega, by omega⟩ ?_
        refine lv_fold (y := nI q478) eq478 ?_
        refine l_ist F w hd hY 2 rfl ((14 * (gnS M)) + 3) (show (14 * (gnS M)) + 3 < 56 by omega) dL_law_481 (fun H locs Y hd hY w => ?_)
        have hL := hY.un hd
        refine lv_aload_n F.1 F.2.1 dL_law_482 rfl (lv_at hl 3 rfl) ?_
        refine lv_iload F.1 F.2.1 dL_law_483 (lv_at hl 0 rfl) ?_
        refine lv_iconst (v := 4) F.1 F.2.1 dL_law_485 (by decide) ?_
        refine lv_iadd F.1 F.2.1 dL_law_486 ?_
        refine lv_fold (y := nI ((14 * (gnS M)) + 4)) (nI_add (14 * (gnS M)) 4) ?_
        refine lv_iload F.1 F.2.1 dL_law_487 (lv_at hl 14 rfl) ?_
        refine lv_bipush (v := 15) F.1 F.2.1 dL_law_489 (by decide) ?_
        refine lv_ishr F.1 F.2.1 dL_law_491 ?_
        refine lv_iconst (v := 4) F.1 F.2.1 dL_law_492 (by decide) ?_
        obtain ⟨q493, hq493, eq493⟩ := low_ok (u >>> (15 &&& 31)) (n := 4) (by omega) (by omega)
        refine q_rS (rest := [.int (nI ((14 * (gnS M)) + 4)), .ref (ad 2)]) F w kS_L_134 hd_L_low (c_L_low l D cy A _ (u >>> (15 &&& 31)) 4 (by decide)) dL_law_493 rfl rfl hl.1 ⟨rfl, rfl, (show 1 ≤ R.frames by omega), (show 21 ≤ R.locals by omega)⟩ (Nat.le_of_ble_eq_true rfl) ⟨by omega, by omega⟩ ?_
        refine lv_fold (y := nI q493) eq493 ?_
        refine l_ist F w hd hY 2 rfl ((14 * (gnS M)) + 4) (show (14 * (gnS M)) + 4 < 56 by omega) dL_law_496 (fun H locs Y hd hY w => ?_)
        have hL := hY.un hd
        refine lv_bipush (v := 6) F.1 F.2.1 dL_law_497 (by decide) ?_
        refine lv_istore (lv' := [(19, .int 6), (18, .int (nI (14 * (gnS M)))), (0, .ref b), (1, .ref o), (2, .ref (ad 2)), (3, .ref (ad 3)), (4, .ref (ad 4)), (5, .ref (ad 5)), (6, .ref (ad 6)), (7, .ref (ad 7)), (8, .ref (ad 8)), (9, .ref (ad 9)), (10, .ref (ad 10)), (11, .int (nI t)), (12, .int v12), (13, .int u), (14, .int (nI i)), (15, .int (nI (14 * i))), (16, .int (nI v)), (17, .int 1)]) F.1 F.2.1 dL_law_499 hl (by decide) rfl (fun ls hl => ?_)
        refine lv_iload F.1 F.2.1 dL_law_501 (lv_at hl 0 rfl) ?_
        refine lv_bipush (v := 10) F.1 F.2.1 dL_law_503 (by decide) ?_
        refine lv_icmp_ge (tgt := 522) F.1 F.2.1 dL_law_505 (by decide) (fun c_10 => absurd c_10 (by decide)) (fun c_10 => ?_)
        refine lv_aload_n F.1 F.2.1 dL_law_508 rfl (lv_at hl 4 rfl) ?_
        refine lv_iload F.1 F.2.1 dL_law_509 (lv_at hl 1 rfl) ?_
        refine lv_iload F.1 F.2.1 dL_law_511 (lv_at hl 0 rfl) ?_
        refine lv_iadd F.1 F.2.1 dL_law_513 ?_
        refine lv_fold (y := nI ((14 * (gnS M)) + 6)) (nI_add (14 * (gnS M)) 6) ?_
        refine lv_iconst (v := -1) F.1 F.2.1 dL_law_514 (by decide) ?_
        refine l_ist F w hd hY 2 rfl ((14 * (gnS M)) + 6) (show (14 * (gnS M)) + 6 < 56 by omega) dL_law_515 (fun H locs Y hd hY w => ?_)
        have hL := hY.un hd
        refine lv_iinc (v := 7) (lv' := [(19, .int 7), (18, .int (nI (14 * (gnS M)))), (0, .ref b), (1, .ref o), (2, .ref (ad 2)), (3, .ref (ad 3)), (4, .ref (ad 4)), (5, .ref (ad 5)), (6, .ref (ad 6)), (7, .ref (ad 7)), (8, .ref (ad 8)), (9, .ref (ad 9)), (10, .ref (ad 10)), (11, .int (nI t)), (12, .int v12), (13, .int u), (14, .int (nI i)), (15, .int (nI (14 * i))), (16, .int (nI v)), (17, .int 1)]) F.1 F.2.1 dL_law_516 hl (k := 0) rfl (by decide) (by decide) rfl (fun ls hl => ?_)
        refine lv_goto (tgt := 501) F.1 F.2.1 dL_law_519 (by decide) ?_
        refine lv_iload F.1 F.2.1 dL_law_501 (lv_at hl 0 rfl) ?_
        refine lv_bipush (v := 10) F.1 F.2.1 dL_law_503 (by decide) ?_
        refine lv_icmp_ge (tgt := 522) F.1 F.2.1 dL_law_505 (by decide) (fun c_11 => absurd c_11 (by decide)) (fun c_11 => ?_)
        refine lv_aload_n F.1 F.2.1 dL_law_508 rfl (lv_at hl 4 rfl) ?_
        refine lv_iload F.1 F.2.1 dL_law_509 (lv_at hl 1 rfl) ?_
        refine lv_iload F.1 F.2.1 dL_law_511 (lv_at hl 0 rfl) ?_
        refine lv_iadd F.1 F.2.1 dL_law_513 ?_
        refine lv_fold (y := nI ((14 * (gnS M)) + 7)) (nI_add (14 * (gnS M)) 7) ?_
        refine lv_iconst (v := -1) F.1 F.2.1 dL_law_514 (by decide) ?_
        refine l_ist F w hd hY 2 rfl ((14 * (gnS M)) + 7) (show (14 * (gnS M)) + 7 < 56 by omega) dL_law_515 (fun H locs Y hd hY w => ?_)
        have hL := hY.un hd
        refine lv_iinc (v := 8) (lv' := [(19, .int 8), (18, .int (nI (14 * (gnS M)))), (0, .ref b), (1, .ref o), (2, .ref (ad 2)), (3, .ref (ad 3)), (4, .ref (ad 4)), (5, .ref (ad 5)), (6, .ref (ad 6)), (7, .ref (ad 7)), (8, .ref (ad 8)), (9, .ref (ad 9)), (10, .ref (ad 10)), (11, .int (nI t)), (12, .int v12), (13, .int u), (14, .int (nI i)), (15, .int (nI (14 * i))), (16, .int (nI v)), (17, .int 1)]) F.1 F.2.1 dL_law_516 hl (k := 0) rfl (by decide) (by decide) rfl (fun ls hl => ?_)
        refine lv_goto (tgt := 501) F.1 F.2.1 dL_law_519 (by decide) ?_
        refine lv_iload F.1 F.2.1 dL_law_501 (lv_at hl 0 rfl) ?_
        refine lv_bipush (v := 10) F.1 F.2.1 dL_law_503 (by decide) ?_
        refine lv_icmp_ge (tgt := 522) F.1 F.2.1 dL_law_505 (by decide) (fun c_12 => absurd c_12 (by decide)) (fun c_12 => ?_)
        refine lv_aload_n F.1 F.2.1 dL_law_508 rfl (lv_at hl 4 rfl) ?_
        refine lv_iload F.1 F.2.1 dL_law_509 (lv_at hl 1 rfl) ?_
        refine lv_iload F.1 F.2.1 dL_law_511 (lv_at hl 0 rfl) ?_
        refine lv_iadd F.1 F.2.1 dL_law_513 ?_
        refine lv_fold (y := nI ((14 * (gnS M)) + 8)) (nI_add (14 * (gnS M)) 8) ?_
        refine lv_iconst (v := -1) F.1 F.2.1 dL_law_514 (by decide) ?_
        refine l_ist F w hd hY 2 rfl ((14 * (gnS M)) + 8) (show (14 * (gnS M)) + 8 < 56 by omega) dL_law_515 (fun H locs Y hd hY w => ?_)
        have hL := hY.un hd
        refine lv_iinc (v := 9) (lv' := [(19, .int 9), (18, .int (nI (14 * (gnS M)))), (0, .ref b), (1, .ref o), (2, .ref (ad 2)), (3, .ref (ad 3)), (4, .ref (ad 4)), (5, .ref (ad 5)), (6, .ref (ad 6)), (7, .ref (ad 7)), (8, .ref (ad 8)), (9, .ref (ad 9)), (10, .ref (ad 10)), (11, .int (nI t)), (12, .int v12), (13, .int u), (14, .int (nI i)), (15, .int (nI (14 * i))), (16, .int (nI v)), (17, .int 1)]) F.1 F.2.1 dL_law_516 hl (k := 0) rfl (by decide) (by decide) rfl (fun ls hl => ?_)
        refine lv_goto (tgt := 501) F.1 F.2.1 dL_law_519 (by decide) ?_
        refine lv_iload F.1 F.2.1 dL_law_501 (lv_at hl 0 rfl) ?_
        refine lv_bipush (v := 10) F.1 F.2.1 dL_law_503 (by decide) ?_
        refine lv_icmp_ge (tgt := 522) F.1 F.2.1 dL_law_505 (by decide) (fun c_13 => absurd c_13 (by decide)) (fun c_13 => ?_)
        refine lv_aload_n F.1 F.2.1 dL_law_508 rfl (lv_at hl 4 rfl) ?_
        refine lv_iload F.1 F.2.1 dL_law_509 (lv_at hl 1 rfl) ?_
        refine lv_iload F.1 F.2.1 dL_law_511 (lv_at hl 0 rfl) ?_
        refine lv_iadd F.1 F.2.1 dL_law_513 ?_
        refine lv_fold (y := nI ((14 * (gnS M)) + 9)) (nI_add (14 * (gnS M)) 9) ?_
        refine lv_iconst (v := -1) F.1 F.2.1 dL_law_514 (by decide) ?_
        refine l_ist F w hd hY 2 rfl ((14 * (gnS M)) + 9) (show (14 * (gnS M)) + 9 < 56 by omega) dL_law_515 (fun H locs Y hd hY w => ?_)
        have hL := hY.un hd
        refine lv_iinc (v := 10) (lv' := [(19, .int 10), (18, .int (nI (14 * (gnS M)))), (0, .ref b), (1, .ref o), (2, .ref (ad 2)), (3, .ref (ad 3)), (4, .ref (ad 4)), (5, .ref (ad 5)), (6, .ref (ad 6)), (7, .ref (ad 7)), (8, .ref (ad 8)), (9, .ref (ad 9)), (10, .ref (ad 10)), (11, .int (nI t)), (12, .int v12), (13, .int u), (14, .int (nI i)), (15, .int (nI (14 * i))), (16, .int (nI v)), (17, .int 1)]) F.1 F.2.1 dL_law_516 hl (k := 0) rfl (by decide) (by decide) rfl (fun ls hl => ?_)
        refine lv_goto (tgt := 501) F.1 F.2.1 dL_law_519 (by decide) ?_
        refine lv_iload F.1 F.2.1 dL_law_501 (lv_at hl 0 rfl) ?_
        refine lv_bipush (v := 10) F.1 F.2.1 dL_law_503 (by decide) ?_
        refine lv_icmp_ge (tgt := 522) F.1 F.2.1 dL_law_505 (by decide) (fun c_14 => ?_) (fun c_14 => absurd (by decide) c_14)
        refine lv_aload_n F.1 F.2.1 dL_law_522 rfl (lv_at hl 4 rfl) ?_
        refine lv_iload F.1 F.2.1 dL_law_523 (lv_at hl 1 rfl) ?_
        refine lv_bipush (v := 12) F.1 F.2.1 dL_law_525 (by decide) ?_
        refine lv_iadd F.1 F.2.1 dL_law_527 ?_
        refine lv_fold (y := nI ((14 * (gnS M)) + 12)) (nI_add (14 * (gnS M)) 12) ?_
        refine lv_iconst (v := -1) F.1 F.2.1 dL_law_528 (by decide) ?_
        refine l_ist F w hd hY 2 rfl ((14 * (gnS M)) + 12) (show (14 * (gnS M)) + 12 < 56 by omega) dL_law_529 (fun H locs Y hd hY w => ?_)
        have hL := hY.un hd
        obtain ⟨a9, hRn⟩ := sh_ok hR c_1 ht ht9 (x1 := (-10000)) (by decide) (by have e : (-10000 : Int32).toInt = -10000 := rfl; omega) hq447 hq463 hq478 hq493
        refine lv_aload_n F.1 F.2.1 dL_law_530 rfl (lv_at hl 3 rfl) ?_
        refine lv_aload_n F.1 F.2.1 dL_law_531 rfl (lv_at hl 4 rfl) ?_
        refine lv_iload F.1 F.2.1 dL_law_532 (lv_at hl 1 rfl) ?_
        refine l_ild F w hL 2 rfl (14 * (gnS M)) (show 14 * (gnS M) < 56 by omega) dL_law_534 ?_
        refine lv_fold (y := (-10000)) ((up2_d (by omega)).trans ((up2_d (by omega)).trans ((up2_d (by omega)).trans ((up2_d (by omega)).trans ((up2_d (by omega)).trans ((up2_d (by omega)).trans ((up2_d (by omega)).trans ((up2_d (by omega)).trans ((up2_d (by omega)).trans (up2_s)))))))))) ?_
        refine lv_aload_n F.1 F.2.1 dL_law_535 rfl (lv_at hl 4 rfl) ?_
        refine lv_iload F.1 F.2.1 dL_law_536 (lv_at hl 1 rfl) ?_
        refine lv_iconst (v := 1) F.1 F.2.1 dL_law_538 (by decide) ?_
        refine lv_iadd F.1 F.2.1 dL_law_539 ?_
        refine lv_fold (y := nI ((14 * (gnS M)) + 1)) (nI_add (14 * (gnS M)) 1) ?_
        refine l_ild F w hL 2 rfl ((14 * (gnS M)) + 1) (show (14 * (gnS M)) + 1 < 56 by omega) dL_law_540 ?_
        refine lv_fold (y := nI (100 + q447)) ((up2_d (by omega)).trans ((up2_d (by omega)).trans ((up2_d (by omega)).trans ((up2_d (by omega)).trans ((up2_d (by omega)).trans ((up2_d (by omega)).trans ((up2_d (by omega)).trans ((up2_d (by omega)).trans (up2_s))))))))) ?_
        refine lv_aload_n F.1 F.2.1 dL_law_541 rfl (lv_at hl 4 rfl) ?_
        refine lv_iload F.1 F.2.1 dL_law_542 (lv_at hl 1 rfl) ?_
        refine lv_iconst (v := 2) F.1 F.2.1 dL_law_544 (by decide) ?_
        refine lv_iadd F.1 F.2.1 dL_law_545 ?_
        refine lv_fold (y := nI ((14 * (gnS M)) + 2)) (nI_add (14 * (gnS M)) 2) ?_
        refine l_ild F w hL 2 rfl ((14 * (gnS M)) + 2) (show (14 * (gnS M)) + 2 < 56 by omega) dL_law_546 ?_
        refine lv_fold (y := nI q463) ((up2_d (by omega)).trans ((up2_d (by omega)).trans ((up2_d (by omega)).trans ((up2_d (by omega)).trans ((up2_d (by omega)).trans ((up2_d (by omega)).trans ((up2_d (by omega)).trans (up2_s)))))))) ?_
        refine lv_aload_n F.1 F.2.1 dL_law_547 rfl (lv_at hl 4 rfl) ?_
        refine lv_iload F.1 F.2.1 dL_law_548 (lv_at hl 1 rfl) ?_
        refine lv_iconst (v := 3) F.1 F.2.1 dL_law_550 (by decide) ?_
        refine lv_iadd F.1 F.2.1 dL_law_551 ?_
        refine lv_fold (y := nI ((14 * (gnS M)) + 3)) (nI_add (14 * (gnS M)) 3) ?_
        refine l_ild F w hL 2 rfl ((14 * (gnS M)) + 3) (show (14 * (gnS M)) + 3 < 56 by omega) dL_law_552 ?_
        refine lv_fold (y := nI q478) ((up2_d (by omega)).trans ((up2_d (by omega)).trans ((up2_d (by omega)).trans ((up2_d (by omega)).trans ((up2_d (by omega)).trans ((up2_d (by omega)).trans (up2_s))))))) ?_
        refine lv_aload_n F.1 F.2.1 dL_law_553 rfl (lv_at hl 4 rfl) ?_
        refine lv_iload F.1 F.2.1 dL_law_554 (lv_at hl 1 rfl) ?_
        refine lv_iconst (v := 4) F.1 F.2.1 dL_law_556 (by decide) ?_
        refine lv_iadd F.1 F.2.1 dL_law_557 ?_
        refine lv_fold (y := nI ((14 * (gnS M)) + 4)) (nI_add (14 * (gnS M)) 4) ?_
        refine l_ild F w hL 2 rfl ((14 * (gnS M)) + 4) (show (14 * (gnS M)) + 4 < 56 by omega) dL_law_558 ?_
        refine lv_fold (y := nI q493) ((up2_d (by omega)).trans ((up2_d (by omega)).trans ((up2_d (by omega)).trans ((up2_d (by omega)).trans ((up2_d (by omega)).trans (up2_s)))))) ?_
        refine lw_ship (rest := []) F w hd hM ho hR.r.ic (-10000) (nI (100 + q447)) (nI q463) (nI q478) (nI q493) hlf dL_law_559 hl.1 ⟨by omega, by omega⟩ (Nat.le_of_ble_eq_true rfl) ⟨by omega, by omega⟩ (fun v559 X AD H locs hv559 ho hd hM w => ?_)
        have hL := hY.un hd
        refine lv_fold (y := nI (gnS M)) (hv559.trans a9) ?_
        refine lv_aload F.1 F.2.1 dL_law_562 (lv_at hl 12 rfl) ?_
        refine lv_bipush (v := 8) F.1 F.2.1 dL_law_564 (by decide) ?_
        refine l_ild F w hL 10 rfl 8 (show 8 < 9 by omega) dL_law_566 ?_
        refine lv_fold (y := S 10 8) ((up2_r (by decide)).trans ((up2_r (by decide)).trans ((up2_r (by decide)).trans ((up2_r (by decide)).trans ((up2_r (by decide)).trans ((up2_r (by decide)).trans ((up2_r (by decide)).trans ((up2_r (by decide)).trans ((up2_r (by decide)).trans ((up2_r (by decide)).trans (up2_r (by decide)))))))))))) ?_
        refine lv_fold (y := nI (gnS M)) (hR.g8.trans hR.nS) ?_
        refine lv_icmp_ne (tgt := 574) F.1 F.2.1 dL_law_567 (by decide) (fun c_15 => absurd rfl c_15) (fun c_15 => ?_)
        refine lv_iconst (v := 1) F.1 F.2.1 dL_law_570 (by decide) ?_
        refine lv_goto (tgt := 575) F.1 F.2.1 dL_law_571 (by decide) ?_
        refine lv_istore (lv' := [(17, .int 1), (19, .int 10), (18, .int (nI (14 * (gnS M)))), (0, .ref b), (1, .ref o), (2, .ref (ad 2)), (3, .ref (ad 3)), (4, .ref (ad 4)), (5, .ref (ad 5)), (6, .ref (ad 6)), (7, .ref (ad 7)), (8, .ref (ad 8)), (9, .ref (ad 9)), (10, .ref (ad 10)), (11, .int (nI t)), (12, .int v12), (13, .int u), (14, .int (nI i)), (15, .int (nI (14 * i))), (16, .int (nI v))]) F.1 F.2.1 dL_law_575 hl (by decide) rfl (fun ls hl => ?_)
        refine lv_aload F.1 F.2.1 dL_law_577 (lv_at hl 13 rfl) ?_
        refine lv_bipush (v := 8) F.1 F.2.1 dL_law_579 (by decide) ?_
        refine lv_dup2_11 F.1 F.2.1 dL_law_581 rfl rfl ?_
        refine l_ild F w hL 10 rfl 8 (show 8 < 9 by omega) dL_law_582 ?_
        refine lv_fold (y := S 10 8) ((up2_r (by decide)).trans ((up2_r (by decide)).trans ((up2_r (by decide)).trans ((up2_r (by decide)).trans ((up2_r (by decide)).trans ((up2_r (by decide)).trans ((up2_r (by decide)).trans ((up2_r (by decide)).trans ((up2_r (by decide)).trans ((up2_r (by decide)).trans (up2_r (by decide)))))))))))) ?_
        refine lv_iconst (v := 1) F.1 F.2.1 dL_law_583 (by decide) ?_
        refine lv_iadd F.1 F.2.1 dL_law_584 ?_
        refine l_ist F w hd hY 10 rfl 8 (show 8 < 9 by omega) dL_law_585 (fun H locs Y hd hY w => ?_)
        have hL := hY.un hd
        refine lv_goto (tgt := 3461) F.1 F.2.1 dL_law_586 (by decide) ?_
        refine W.widen (k := c1) (n := s1) (by omega) (by omega) ?_
        exact K _ _ ls ⟨X, Y, AD, _, _, _, _, ho, hd, hM, hY, w, R26.ups (hRn _) (by omega)⟩ (lv_sub hl [0, 3, 4, 5, 6, 7, 8, 9, 10, 11, 12, 13, 14, 16] rfl)
    · refine lv_aload F.1 F.2.1 dL_law_372 (lv_at hl 11 rfl) ?_
      refine lv_iconst (v := 0) F.1 F.2.1 dL_law_374 (by decide) ?_
      refine l_ild F w hL 10 rfl 0 (show 0 < 9 by omega) dL_law_375 ?_
      refine lv_fold (y := nI t9) (hR.g0.trans ht) ?_
      refine lv_iload F.1 F.2.1 dL_law_376 (lv_at hl 14 rfl) ?_
      refine lv_iconst (v := 1) F.1 F.2.1 dL_law_378 (by decide) ?_
      refine lv_ishr F.1 F.2.1 dL_law_379 ?_
      refine lv_sipush (v := 9000) F.1 F.2.1 dL_law_380 (by decide) ?_
      obtain ⟨q383, hq383, eq383⟩ := low_ok (u >>> (1 &&& 31)) (n := 9000) (by omega) (by omega)
      refine q_rS (rest := [.int (nI t9), .int (nI (14 * (gnS M))), .ref (ad 2)]) F w kS_L_134 hd_L_low (c_L_low l D cy A _ (u >>> (1 &&& 31)) 9000 (by decide)) dL_law_383 rfl rfl hl.1 ⟨rfl, rfl, (show 1 ≤ R.frames by omega), (show 21 ≤ R.locals by omega)⟩ (Nat.le_of_ble_eq_true rfl) ⟨by omega, by omega⟩ ?_
      refine lv_fold (y := nI q383) eq383 ?_
      refine lv_isub F.1 F.2.1 dL_law_386 ?_
      refine lv_goto (tgt := 408) F.1 F.2.1 dL_law_387 (by decide) ?_
      refine l_ist F w hd hY 2 rfl (14 * (gnS M)) (show 14 * (gnS M) < 56 by omega) dL_law_408 (fun H locs Y hd hY w => ?_)
      have hL := hY.un hd
      refine lv_aload_n F.1 F.2.1 dL_law_409 rfl (lv_at hl 3 rfl) ?_
      refine lv_iload F.1 F.2.1 dL_law_410 (lv_at hl 0 rfl) ?_
      refine lv_aload_n F.1 F.2.1 dL_law_412 rfl (lv_at hl 3 rfl) ?_
      refine lv_iload F.1 F.2.1 dL_law_413 (lv_at hl 0 rfl) ?_
      refine l_ild F w hL 2 rfl (14 * (gnS M)) (show 14 * (gnS M) < 56 by omega) dL_law_415 ?_
      refine lv_fold (y := (nI t9) - (nI q383)) (up2_s) ?_
      refine lv_sipush (v := -10000) F.1 F.2.1 dL_law_416 (by decide) ?_
      refine lv_icmp_ge (tgt := 428) F.1 F.2.1 dL_law_419 (by decide) (fun c_16 => ?_) (fun c_16 => ?_)
      · refine lv_aload_n F.1 F.2.1 dL_law_428 rfl (lv_at hl 3 rfl) ?_
        refine lv_iload F.1 F.2.1 dL_law_429 (lv_at hl 0 rfl) ?_
        refine l_ild F w hL 2 rfl (14 * (gnS M)) (show 14 * (gnS M) < 56 by omega) dL_law_431 ?_
        refine lv_fold (y := (nI t9) - (nI q383)) (up2_s) ?_
        refine l_ist F w hd hY 2 rfl (14 * (gnS M)) (show 14 * (gnS M) < 56 by omega) dL_law_432 (fun H locs Y hd hY w => ?_)
        have hL := hY.un hd
        refine lv_aload_n F.1 F.2.1 dL_law_433 rfl (lv_at hl 3 rfl) ?_
        refine lv_iload F.1 F.2.1 dL_law_434 (lv_at hl 0 rfl) ?_
        refine lv_iconst (v := 1) F.1 F.2.1 dL_law_436 (by decide) ?_
        refine lv_iadd F.1 F.2.1 dL_law_437 ?_
        refine lv_fold (y := nI ((14 * (gnS M)) + 1)) (nI_add (14 * (gnS M)) 1) ?_
        refine lv_bipush (v := 100) F.1 F.2.1 dL_law_438 (by decide) ?_
        refine lv_iload F.1 F.2.1 dL_law_440 (lv_at hl 14 rfl) ?_
        refine lv_iconst (v := 4) F.1 F.2.1 dL_law_442 (by decide) ?_
        refine lv_ishr F.1 F.2.1 dL_law_443 ?_
        refine lv_sipush (v := 2000) F.1 F.2.1 dL_law_444 (by decide) ?_
        obtain ⟨q447, hq447, eq447⟩ := low_ok (u >>> (4 &&& 31)) (n := 2000) (by omega) (by omega)
        refine q_rS (rest := [.int 100, .int (nI ((14 * (gnS M)) + 1)), .ref (ad 2)]) F w kS_L_134 hd_L_low (c_L_low l D cy A _ (u >>> (4 &&& 31)) 2000 (by decide)) dL_law_447 rfl rfl hl.1 ⟨rfl, rfl, (show 1 ≤ R.frames by omega), (show 21 ≤ R.locals by omega)⟩ (Nat.le_of_ble_eq_true rfl) ⟨by omega, by omega⟩ ?_
        refine lv_fold (y := nI q447) eq447 ?_
        refine lv_iadd F.1 F.2.1 dL_law_450 ?_
        refine lv_fold (y := nI (100 + q447)) (nI_add 100 q447) ?_
        refine l_ist F w hd hY 2 rfl ((14 * (gnS M)) + 1) (show (14 * (gnS M)) + 1 < 56 by omega) dL_law_451 (fun H locs Y hd hY w => ?_)
        have hL := hY.un hd
        refine lv_aload_n F.1 F.2.1 dL_law_452 rfl (lv_at hl 3 rfl) ?_
        refine lv_iload F.1 F.2.1 dL_law_453 (lv_at hl 0 rfl) ?_
        refine lv_iconst (v := 2) F.1 F.2.1 dL_law_455 (by decide) ?_
        refine lv_iadd F.1 F.2.1 dL_law_456 ?_
        refine lv_fold (y := nI ((14 * (gnS M)) + 2)) (nI_add (14 * (gnS M)) 2) ?_
        refine lv_iload F.1 F.2.1 dL_law_457 (lv_at hl 14 rfl) ?_
        refine lv_bipush (v := 9) F.1 F.2.1 dL_law_459 (by decide) ?_
        refine lv_ishr F.1 F.2.1 dL_law_461 ?_
        refine lv_iconst (v := 3) F.1 F.2.1 dL_law_462 (by decide) ?_
        obtain ⟨q463, hq463, eq463⟩ := low_ok (u >>> (9 &&& 31)) (n := 3) (by omega) (by omega)
        refine q_rS (rest := [.int (nI ((14 * (gnS M)) + 2)), .ref (ad 2)]) F w kS_L_134 hd_L_low (c_L_low l D cy A _ (u >>> (9 &&& 31)) 3 (by decide)) dL_law_463 rfl rfl hl.1 ⟨rfl, rfl, (show 1 ≤ R.frames by omega), (show 21 ≤ R.locals by omega)⟩ (Nat.le_of_ble_eq_true rfl) ⟨by omega, by omega⟩ ?_
        refine lv_fold (y := nI q463) eq463 ?_
        refine l_ist F w hd hY 2 rfl ((14 * (gnS M)) + 2) (show (14 * (gnS M)) + 2 < 56 by omega) dL_law_466 (fun H locs Y hd hY w => ?_)
        have hL := hY.un hd
        refine lv_aload_n F.1 F.2.1 dL_law_467 rfl (lv_at hl 3 rfl) ?_
        refine lv_iload F.1 F.2.1 dL_law_468 (lv_at hl 0 rfl) ?_
        refine lv_iconst (v := 3) F.1 F.2.1 dL_law_470 (by decide) ?_
        refine lv_iadd F.1 F.2.1 dL_law_471 ?_
        refine lv_fold (y := nI ((14 * (gnS M)) + 3)) (nI_add (14 * (gnS M)) 3) ?_
        refine lv_iload F.1 F.2.1 dL_law_472 (lv_at hl 14 rfl) ?_
        refine lv_bipush (v := 12) F.1 F.2.1 dL_law_474 (by decide) ?_
        refine lv_ishr F.1 F.2.1 dL_law_476 ?_
        refine lv_iconst (v := 3) F.1 F.2.1 dL_law_477 (by decide) ?_
        obtain ⟨q478, hq478, eq478⟩ := low_ok (u >>> (12 &&& 31)) (n := 3) (by omega) (by omega)
        refine q_rS (rest := [.int (nI ((14 * (gnS M)) + 3)), .ref (ad 2)]) F w kS_L_134 hd_L_low (c_L_low l D cy A _ (u >>> (12 &&& 31)) 3 (by decide)) dL_law_478 rfl rfl hl.1 ⟨rfl, rfl, (show 1 ≤ R.frames by omega), (show 21 ≤ R.locals by omega)⟩ (Nat.le_of_ble_eq_true rfl) ⟨by omega, by omega⟩ ?_
        refine lv_fold (y := nI q478) eq478 ?_
        refine l_ist F w hd hY 2 rfl ((14 * (gnS M)) + 3) (show (14 * (gnS M)) + 3 < 56 by omega) dL_law_481 (fun H locs Y hd hY w => ?_)
        have hL := hY.un hd
        refine lv_aload_n F.1 F.2.1 dL_law_482 rfl (lv_at hl 3 rfl) ?_
        refine lv_iload F.1 F.2.1 dL_law_483 (lv_at hl 0 rfl) ?_
        refine lv_iconst (v := 4) F.1 F.2.1 dL_law_485 (by decide) ?_
        refine lv_iadd F.1 F.2.1 dL_law_486 ?_
        refine lv_fold (y := nI ((14 * (gnS M)) + 4)) (nI_add (14 * (gnS M)) 4) ?_
        refine lv_iload F.1 F.2.1 dL_law_487 (lv_at hl 14 rfl) ?_
        refine lv_bipush (v := 15) F.1 F.2.1 dL_law_489 (by decide) ?_
        refine lv_ishr F.1 F.2.1 dL_law_491 ?_
        refine lv_iconst (v := 4) F.1 F.2.1 dL_law_492 (by decide) ?_
        obtain ⟨q493, hq493, eq493⟩ := low_ok (u >>> (15 &&& 31)) (n := 4) (by omega) (by omega)
        refine q_rS (rest := [.int (nI ((14 * (gnS M)) + 4)), .ref (ad 2)]) F w kS_L_134 hd_L_low (c_L_low l D cy A _ (u >>> (15 &&& 31)) 4 (by decide)) dL_law_493 rfl rfl hl.1 ⟨rfl, rfl, (show 1 ≤ R.frames by omega), (show 21 ≤ R.locals by omega)⟩ (Nat.le_of_ble_eq_true rfl) ⟨by omega, by omega⟩ ?_
        refine lv_fold (y := nI q493) eq493 ?_
        refine l_ist F w hd hY 2 rfl ((14 * (gnS M)) + 4) (show (14 * (gnS M)) + 4 < 56 by omega) dL_law_496 (fun H locs Y hd hY w => ?_)
        have hL := hY.un hd
        refine lv_bipush (v := 6) F.1 F.2.1 dL_law_497 (by decide) ?_
        refine lv_istore (lv' := [(19, .int 6), (18, .int (nI (14 * (gnS M)))), (0, .ref b), (1, .ref o), (2, .ref (ad 2)), (3, .ref (ad 3)), (4, .ref (ad 4)), (5, .ref (ad 5)), (6, .ref (ad 6)), (7, .ref (ad 7)), (8, .ref (ad 8)), (9, .ref (ad 9)), (10, .ref (ad 10)), (11, .int (nI t)), (12, .int v12), (13, .int u), (14, .int (nI i)), (15, .int (nI (14 * i))), (16, .int (nI v)), (17, .int 1)]) F.1 F.2.1 dL_law_499 hl (by decide) rfl (fun ls hl => ?_)
        refine lv_iload F.1 F.2.1 dL_law_501 (lv_at hl 0 rfl) ?_
        refine lv_bipush (v := 10) F.1 F.2.1 dL_law_503 (by decide) ?_
        refine lv_icmp_ge (tgt := 522) F.1 F.2.1 dL_law_505 (by decide) (fun c_17 => absurd c_17 (by decide)) (fun c_17 => ?_)
        refine lv_aload_n F.1 F.2.1 dL_law_508 rfl (lv_at hl 4 rfl) ?_
        refine lv_iload F.1 F.2.1 dL_law_509 (lv_at hl 1 rfl) ?_
        refine lv_iload F.1 F.2.1 dL_law_511 (lv_at hl 0 rfl) ?_
        refine lv_iadd F.1 F.2.1 dL_law_513 ?_
        refine lv_fold (y := nI ((14 * (gnS M)) + 6)) (nI_add (14 * (gnS M)) 6) ?_
        refine lv_iconst (v := -1) F.1 F.2.1 dL_law_514 (by decide) ?_
        refine l_ist F w hd hY 2 rfl ((14 * (gnS M)) + 6) (show (14 * (gnS M)) + 6 < 56 by omega) dL_law_515 (fun H locs Y hd hY w => ?_)
        have hL := hY.un hd
        refine lv_iinc (v := 7) (lv' := [(19, .int 7), (18, .int (nI (14 * (gnS M)))), (0, .ref b), (1, .ref o), (2, .ref (ad 2)), (3, .ref (ad 3)), (4, .ref (ad 4)), (5, .ref (ad 5)), (6, .ref (ad 6)), (7, .ref (ad 7)), (8, .ref (ad 8)), (9, .ref (ad 9)), (10, .ref (ad 10)), (11, .int (nI t)), (12, .int v12), (13, .int u), (14, .int (nI i)), (15, .int (nI (14 * i))), (16, .int (nI v)), (17, .int 1)]) F.1 F.2.1 dL_law_516 hl (k := 0) rfl (by decide) (by decide) rfl (fun ls hl => ?_)
        refine lv_goto (tgt := 501) F.1 F.2.1 dL_law_519 (by decide) ?_
        refine lv_iload F.1 F.2.1 dL_law_501 (lv_at hl 0 rfl) ?_
        refine lv_bipush (v := 10) F.1 F.2.1 dL_law_503 (by decide) ?_
        refine lv_icmp_ge (tgt := 522) F.1 F.2.1 dL_law_505 (by decide) (fun c_18 => absurd c_18 (by decide)) (fun c_18 => ?_)
        refine lv_aload_n F.1 F.2.1 dL_law_508 rfl (lv_at hl 4 rfl) ?_
        refine lv_iload F.1 F.2.1 dL_law_509 (lv_at hl 1 rfl) ?_
        refine lv_iload F.1 F.2.1 dL_law_511 (lv_at hl 0 rfl) ?_
        refine lv_iadd F.1 F.2.1 dL_law_513 ?_
        refine lv_fold (y := nI ((14 * (gnS M)) + 7)) (nI_add (14 * (gnS M)) 7) ?_
        refine lv_iconst (v := -1) F.1 F.2.1 dL_law_514 (by decide) ?_
        refine l_ist F w hd hY 2 rfl ((14 * (gnS M)) + 7) (show (14 * (gnS M)) + 7 < 56 by omega) dL_law_515 (fun H locs Y hd hY w => ?_)
        have hL := hY.un hd
        refine lv_iinc (v := 8) (lv' := [(19, .int 8), (18, .int (nI (14 * (gnS M)))), (0, .ref b), (1, .ref o), (2, .ref (ad 2)), (3, .ref (ad 3)), (4, .ref (ad 4)), (5, .ref (ad 5)), (6, .ref (ad 6)), (7, .ref (ad 7)), (8, .ref (ad 8)), (9, .ref (ad 9)), (10, .ref (ad 10)), (11, .int (nI t)), (12, .int v12), (13, .int u), (14, .int (nI i)), (15, .int (nI (14 * i))), (16, .int (nI v)), (17, .int 1)]) F.1 F.2.1 dL_law_516 hl (k := 0) rfl (by decide) (by decide) rfl (fun ls hl => ?_)
        refine lv_goto (tgt := 501) F.1 F.2.1 dL_law_519 (by decide) ?_
        refine lv_iload F.1 F.2.1 dL_law_501 (lv_at hl 0 rfl) ?_
        refine lv_bipush (v := 10) F.1 F.2.1 dL_law_503 (by decide) ?_
        refine lv_icmp_ge (tgt := 522) F.1 F.2.1 dL_law_505 (by decide) (fun c_19 => absurd c_19 (by decide)) (fun c_19 => ?_)
        refine lv_aload_n F.1 F.2.1 dL_law_508 rfl (lv_at hl 4 rfl) ?_
        refine lv_iload F.1 F.2.1 dL_law_509 (lv_at hl 1 rfl) ?_
        refine lv_iload F.1 F.2.1 dL_law_511 (lv_at hl 0 rfl) ?_
        refine lv_iadd F.1 F.2.1 dL_law_513 ?_
        refine lv_fold (y := nI ((14 * (gnS M)) + 8)) (nI_add (14 * (gnS M)) 8) ?_
        refine lv_iconst (v := -1) F.1 F.2.1 dL_law_514 (by decide) ?_
        refine l_ist F w hd hY 2 rfl ((14 * (gnS M)) + 8) (show (14 * (gnS M)) + 8 < 56 by omega) dL_law_515 (fun H locs Y hd hY w => ?_)
        have hL := hY.un hd
        refine lv_iinc (v := 9) (lv' := [(19, .int 9), (18, .int (nI (14 * (gnS M)))), (0, .ref b), (1, .ref o), (2, .ref (ad 2)), (3, .ref (ad 3)), (4, .ref (ad 4)), (5, .ref (ad 5)), (6, .ref (ad 6)), (7, .ref (ad 7)), (8, .ref (ad 8)), (9, .ref (ad 9)), (10, .ref (ad 10)), (11, .int (nI t)), (12, .int v12), (13, .int u), (14, .int (nI i)), (15, .int (nI (14 * i))), (16, .int (nI v)), (17, .int 1)]) F.1 F.2.1 dL_law_516 hl (k := 0) rfl (by decide) (by decide) rfl (fun ls hl => ?_)
        refine lv_goto (tgt := 501) F.1 F.2.1 dL_law_519 (by decide) ?_
        refine lv_iload F.1 F.2.1 dL_law_501 (lv_at hl 0 rfl) ?_
        refine lv_bipush (v := 10) F.1 F.2.1 dL_law_503 (by decide) ?_
        refine lv_icmp_ge (tgt := 522) F.1 F.2.1 dL_law_505 (by decide) (fun c_20 => absurd c_20 (by decide)) (fun c_20 => ?_)
        refine lv_aload_n F.1 F.2.1 dL_law_508 rfl (lv_at hl 4 rfl) ?_
        refine lv_iload F.1 F.2.1 dL_law_509 (lv_at hl 1 rfl) ?_
        refine lv_iload F.1 F.2.1 dL_law_511 (lv_at hl 0 rfl) ?_
        refine lv_iadd F.1 F.2.1 dL_law_513 ?_
        refine lv_fold (y := nI ((14 * (gnS M)) + 9)) (nI_add (14 * (gnS M)) 9) ?_
        refine lv_iconst (v := -1) F.1 F.2.1 dL_law_514 (by decide) ?_
        refine l_ist F w hd hY 2 rfl ((14 * (gnS M)) + 9) (show (14 * (gnS M)) + 9 < 56 by omega) dL_law_515 (fun H locs Y hd hY w => ?_)
        have hL := hY.un hd
        refine lv_iinc (v := 10) (lv' := [(19, .int 10), (18, .int (nI (14 * (gnS M)))), (0, .ref b), (1, .ref o), (2, .ref (ad 2)), (3, .ref (ad 3)), (4, .ref (ad 4)), (5, .ref (ad 5)), (6, .ref (ad 6)), (7, .ref (ad 7)), (8, .ref (ad 8)), (9, .ref (ad 9)), (10, .ref (ad 10)), (11, .int (nI t)), (12, .int v12), (13, .int u), (14, .int (nI i)), (15, .int (nI (14 * i))), (16, .int (nI v)), (17, .int 1)]) F.1 F.2.1 dL_law_516 hl (k := 0) rfl (by decide) (by decide) rfl (fun ls hl => ?_)
        refine lv_goto (tgt := 501) F.1 F.2.1 dL_law_519 (by decide) ?_
        refine lv_iload F.1 F.2.1 dL_law_501 (lv_at hl 0 rfl) ?_
        refine lv_bipush (v := 10) F.1 F.2.1 dL_law_503 (by decide) ?_
        refine lv_icmp_ge (tgt := 522) F.1 F.2.1 dL_law_505 (by decide) (fun c_21 => ?_) (fun c_21 => absurd (by decide) c_21)
        refine lv_aload_n F.1 F.2.1 dL_law_522 rfl (lv_at hl 4 rfl) ?_
        refine lv_iload F.1 F.2.1 dL_law_523 (lv_at hl 1 rfl) ?_
        refine lv_bipush (v := 12) F.1 F.2.1 dL_law_525 (by decide) ?_
        refine lv_iadd F.1 F.2.1 dL_law_527 ?_
        refine lv_fold (y := nI ((14 * (gnS M)) + 12)) (nI_add (14 * (gnS M)) 12) ?_
        refine lv_iconst (v := -1) F.1 F.2.1 dL_law_528 (by decide) ?_
        refine l_ist F w hd hY 2 rfl ((14 * (gnS M)) + 12) (show (14 * (gnS M)) + 12 < 56 by omega) dL_law_529 (fun H locs Y hd hY w => ?_)
        have hL := hY.un hd
        obtain ⟨a9, hRn⟩ := sh_ok hR c_1 ht ht9 (x1 := (nI t9) - (nI q383)) (Int32.le_iff_toInt_le.mp c_16) (by rw [pk_sub_toInt (by omega) (by omega)]; omega) hq447 hq463 hq478 hq493
        refine lv_aload_n F.1 F.2.1 dL_law_530 rfl (lv_at hl 3 rfl) ?_
        refine lv_aload_n F.1 F.2.1 dL_law_531 rfl (lv_at hl 4 rfl) ?_
        refine lv_iload F.1 F.2.1 dL_law_532 (lv_at hl 1 rfl) ?_
        refine l_ild F w hL 2 rfl (14 * (gnS M)) (show 14 * (gnS M) < 56 by omega) dL_law_534 ?_
        refine lv_fold (y := (nI t9) - (nI q383)) ((up2_d (by omega)).trans ((up2_d (by omega)).trans ((up2_d (by omega)).trans ((up2_d (by omega)).trans ((up2_d (by omega)).trans ((up2_d (by omega)).trans ((up2_d (by omega)).trans ((up2_d (by omega)).trans ((up2_d (by omega)).trans (up2_s)))))))))) ?_
        refine lv_aload_n F.1 F.2.1 dL_law_535 rfl (lv_at hl 4 rfl) ?_
        refine lv_iload F.1 F.2.1 dL_law_536 (lv_at hl 1 rfl) ?_
        refine lv_iconst (v := 1) F.1 F.2.1 dL_law_538 (by decide) ?_
        refine lv_iadd F.1 F.2.1 dL_law_539 ?_
        refine lv_fold (y := nI ((14 * (gnS M)) + 1)) (nI_add (14 * (gnS M)) 1) ?_
        refine l_ild F w hL 2 rfl ((14 * (gnS M)) + 1) (show (14 * (gnS M)) + 1 < 56 by omega) dL_law_540 ?_
        refine lv_fold (y := nI (100 + q447)) ((up2_d (by omega)).trans ((up2_d (by omega)).trans ((up2_d (by omega)).trans ((up2_d (by omega)).trans ((up2_d (by omega)).trans ((up2_d (by omega)).trans ((up2_d (by omega)).trans ((up2_d (by omega)).trans (up2_s))))))))) ?_
        refine lv_aload_n F.1 F.2.1 dL_law_541 rfl (lv_at hl 4 rfl) ?_
        refine lv_iload F.1 F.2.1 dL_law_542 (lv_at hl 1 rfl) ?_
        refine lv_iconst (v := 2) F.1 F.2.1 dL_law_544 (by decide) ?_
        refine lv_iadd F.1 F.2.1 dL_law_545 ?_
        refine lv_fold (y := nI ((14 * (gnS M)) + 2)) (nI_add (14 * (gnS M)) 2) ?_
        refine l_ild F w hL 2 rfl ((14 * (gnS M)) + 2) (show (14 * (gnS M)) + 2 < 56 by omega) dL_law_546 ?_
        refine lv_fold (y := nI q463) ((up2_d (by omega)).trans ((up2_d (by omega)).trans ((up2_d (by omega)).trans ((up2_d (by omega)).trans ((up2_d (by omega)).trans ((up2_d (by omega)).trans ((up2_d (by omega)).trans (up2_s)))))))) ?_
        refine lv_aload_n F.1 F.2.1 dL_law_547 rfl (lv_at hl 4 rfl) ?_
        refine lv_iload F.1 F.2.1 dL_law_548 (lv_at hl 1 rfl) ?_
        refine lv_iconst (v := 3) F.1 F.2.1 dL_law_550 (by decide) ?_
        refine lv_iadd F.1 F.2.1 dL_law_551 ?_
        refine lv_fold (y := nI ((14 * (gnS M)) + 3)) (nI_add (14 * (gnS M)) 3) ?_
        refine l_ild F w hL 2 rfl ((14 * (gnS M)) + 3) (show (14 * (gnS M)) + 3 < 56 by omega) dL_law_552 ?_
        refine lv_fold (y := nI q478) ((up2_d (by omega)).trans ((up2_d (by omega)).trans ((up2_d (by omega)).trans ((up2_d (by omega)).trans ((up2_d (by omega)).trans ((up2_d (by omega)).trans (up2_s))))))) ?_
        refine lv_aload_n F.1 F.2.1 dL_law_553 rfl (lv_at hl 4 rfl) ?_
        refine lv_iload F.1 F.2.1 dL_law_554 (lv_at hl 1 rfl) ?_
        refine lv_iconst (v := 4) F.1 F.2.1 dL_law_556 (by decide) ?_
        refine lv_iadd F.1 F.2.1 dL_law_557 ?_
        refine lv_fold (y := nI ((14 * (gnS M)) + 4)) (nI_add (14 * (gnS M)) 4) ?_
        refine l_ild F w hL 2 rfl ((14 * (gnS M)) + 4) (show (14 * (gnS M)) + 4 < 56 by omega) dL_law_558 ?_
        refine lv_fold (y := nI q493) ((up2_d (by omega)).trans ((up2_d (by omega)).trans ((up2_d (by omega)).trans ((up2_d (by omega)).trans ((up2_d (by omega)).trans (up2_s)))))) ?_
        refine lw_ship (rest := []) F w hd hM ho hR.r.ic ((nI t9) - (nI q383)) (nI (100 + q447)) (nI q463) (nI q478) (nI q493) hlf dL_law_559 hl.1 ⟨by omega, by omega⟩ (Nat.le_of_ble_eq_true rfl) ⟨by omega, by omega⟩ (fun v559 X AD H locs hv559 ho hd hM w => ?_)
        have hL := hY.un hd
        refine lv_fold (y := nI (gnS M)) (hv559.trans a9) ?_
        refine lv_aload F.1 F.2.1 dL_law_562 (lv_at hl 12 rfl) ?_
        refine lv_bipush (v := 8) F.1 F.2.1 dL_law_564 (by decide) ?_
        refine l_ild F w hL 10 rfl 8 (show 8 < 9 by omega) dL_law_566 ?_
        refine lv_fold (y := S 10 8) ((up2_r (by decide)).trans ((up2_r (by decide)).trans ((up2_r (by decide)).trans ((up2_r (by decide)).trans ((up2_r (by decide)).trans ((up2_r (by decide)).trans ((up2_r (by decide)).trans ((up2_r (by decide)).trans ((up2_r (by decide)).trans ((up2_r (by decide)).trans (up2_r (by decide)))))))))))) ?_
        refine lv_fold (y := nI (gnS M)) (hR.g8.trans hR.nS) ?_
        refine lv_icmp_ne (tgt := 574) F.1 F.2.1 dL_law_567 (by decide) (fun c_22 => absurd rfl c_22) (fun c_22 => ?_)
        refine lv_iconst (v := 1) F.1 F.2.1 dL_law_570 (by decide) ?_
        refine lv_goto (tgt := 575) F.1 F.2.1 dL_law_571 (by decide) ?_
        refine lv_istore (lv' := [(17, .int 1), (19, .int 10), (18, .int (nI (14 * (gnS M)))), (0, .ref b), (1, .ref o), (2, .ref (ad 2)), (3, .ref (ad 3)), (4, .ref (ad 4)), (5, .ref (ad 5)), (6, .ref (ad 6)), (7, .ref (ad 7)), (8, .ref (ad 8)), (9, .ref (ad 9)), (10, .ref (ad 10)), (11, .int (nI t)), (12, .int v12), (13, .int u), (14, .int (nI i)), (15, .int (nI (14 * i))), (16, .int (nI v))]) F.1 F.2.1 dL_law_575 hl (by decide) rfl (fun ls hl => ?_)
        refine lv_aload F.1 F.2.1 dL_law_577 (lv_at hl 13 rfl) ?_
        refine lv_bipush (v := 8) F.1 F.2.1 dL_law_579 (by decide) ?_
        refine lv_dup2_11 F.1 F.2.1 dL_law_581 rfl rfl ?_
        refine l_ild F w hL 10 rfl 8 (show 8 < 9 by omega) dL_law_582 ?_
        refine lv_fold (y := S 10 8) ((up2_r (by decide)).trans ((up2_r (by decide)).trans ((up2_r (by decide)).trans ((up2_r (by decide)).trans ((up2_r (by decide)).trans ((up2_r (by decide)).trans ((up2_r (by decide)).trans ((up2_r (by decide)).trans ((up2_r (by decide)).trans ((up2_r (by decide)).trans (up2_r (by decide)))))))))))) ?_
        refine lv_iconst (v := 1) F.1 F.2.1 dL_law_583 (by decide) ?_
        refine lv_iadd F.1 F.2.1 dL_law_584 ?_
        refine l_ist F w hd hY 10 rfl 8 (show 8 < 9 by omega) dL_law_585 (fun H locs Y hd hY w => ?_)
        have hL := hY.un hd
        refine lv_goto (tgt := 3461) F.1 F.2.1 dL_law_586 (by decide) ?_
        refine W.widen (k := c1) (n := s1) (by omega) (by omega) ?_
        exact K _ _ ls ⟨X, Y, AD, _, _, _, _, ho, hd, hM, hY, w, R26.ups (hRn _) (by omega)⟩ (lv_sub hl [0, 3, 4, 5, 6, 7, 8, 9, 10, 11, 12, 13, 14, 16] rfl)
      · refine lv_sipush (v := -10000) F.1 F.2.1 dL_law_422 (by decide) ?_
        refine lv_goto (tgt := 432) F.1 F.2.1 dL_law_425 (by decide) ?_
        refine l_ist F w hd hY 2 rfl (14 * (gnS M)) (show 14 * (gnS M) < 56 by omega) dL_law_432 (fun H locs Y hd hY w => ?_)
        have hL := hY.un hd
        refine lv_aload_n F.1 F.2.1 dL_law_433 rfl (lv_at hl 3 rfl) ?_
        refine lv_iload F.1 F.2.1 dL_law_434 (lv_at hl 0 rfl) ?_
        refine lv_iconst (v := 1) F.1 F.2.1 dL_law_436 (by decide) ?_
        refine lv_iadd F.1 F.2.1 dL_law_437 ?_
        refine lv_fold (y := nI ((14 * (gnS M)) + 1)) (nI_add (14 * (gnS M)) 1) ?_
        refine lv_bipush (v := 100) F.1 F.2.1 dL_law_438 (by decide) ?_
        refine lv_iload F.1 F.2.1 dL_law_440 (lv_at hl 14 rfl) ?_
        refine lv_iconst (v := 4) F.1 F.2.1 dL_law_442 (by decide) ?_
        refine lv_ishr F.1 F.2.1 dL_law_443 ?_
        refine lv_sipush (v := 2000) F.1 F.2.1 dL_law_444 (by decide) ?_
        obtain ⟨q447, hq447, eq447⟩ := low_ok (u >>> (4 &&& 31)) (n := 2000) (by omega) (by omega)
        refine q_rS (rest := [.int 100, .int (nI ((14 * (gnS M)) + 1)), .ref (ad 2)]) F w kS_L_134 hd_L_low (c_L_low l D cy A _ (u >>> (4 &&& 31)) 2000 (by decide)) dL_law_447 rfl rfl hl.1 ⟨rfl, rfl, (show 1 ≤ R.frames by omega), (show 21 ≤ R.locals by omega)⟩ (Nat.le_of_ble_eq_true rfl) ⟨by omega, by omega⟩ ?_
        refine lv_fold (y := nI q447) eq447 ?_
        refine lv_iadd F.1 F.2.1 dL_law_450 ?_
        refine lv_fold (y := nI (100 + q447)) (nI_add 100 q447) ?_
        refine l_ist F w hd hY 2 rfl ((14 * (gnS M)) + 1) (show (14 * (gnS M)) + 1 < 56 by omega) dL_law_451 (fun H locs Y hd hY w => ?_)
        have hL := hY.un hd
        refine lv_aload_n F.1 F.2.1 dL_law_452 rfl (lv_at hl 3 rfl) ?_
        refine lv_iload F.1 F.2.1 dL_law_453 (lv_at hl 0 rfl) ?_
        refine lv_iconst (v := 2) F.1 F.2.1 dL_law_455 (by decide) ?_
        refine lv_iadd F.1 F.2.1 dL_law_456 ?_
        refine lv_fold (y := nI ((14 * (gnS M)) + 2)) (nI_add (14 * (gnS M)) 2) ?_
        refine lv_iload F.1 F.2.1 dL_law_457 (lv_at hl 14 rfl) ?_
        refine lv_bipush (v := 9) F.1 F.2.1 dL_law_459 (by decide) ?_
        refine lv_ishr F.1 F.2.1 dL_law_461 ?_
        refine lv_iconst (v := 3) F.1 F.2.1 dL_law_462 (by decide) ?_
        obtain ⟨q463, hq463, eq463⟩ := low_ok (u >>> (9 &&& 31)) (n := 3) (by omega) (by omega)
        refine q_rS (rest := [.int (nI ((14 * (gnS M)) + 2)), .ref (ad 2)]) F w kS_L_134 hd_L_low (c_L_low l D cy A _ (u >>> (9 &&& 31)) 3 (by decide)) dL_law_463 rfl rfl hl.1 ⟨rfl, rfl, (show 1 ≤ R.frames by omega), (show 21 ≤ R.locals by omega)⟩ (Nat.le_of_ble_eq_true rfl) ⟨by omega, by omega⟩ ?_
        refine lv_fold (y := nI q463) eq463 ?_
        refine l_ist F w hd hY 2 rfl ((14 * (gnS M)) + 2) (show (14 * (gnS M)) + 2 < 56 by omega) dL_law_466 (fun H locs Y hd hY w => ?_)
        have hL := hY.un hd
        refine lv_aload_n F.1 F.2.1 dL_law_467 rfl (lv_at hl 3 rfl) ?_
        refine lv_iload F.1 F.2.1 dL_law_468 (lv_at hl 0 rfl) ?_
        refine lv_iconst (v := 3) F.1 F.2.1 dL_law_470 (by decide) ?_
        refine lv_iadd F.1 F.2.1 dL_law_471 ?_
        refine lv_fold (y := nI ((14 * (gnS M)) + 3)) (nI_add (14 * (gnS M)) 3) ?_
        refine lv_iload F.1 F.2.1 dL_law_472 (lv_at hl 14 rfl) ?_
        refine lv_bipush (v := 12) F.1 F.2.1 dL_law_474 (by decide) ?_
        refine lv_ishr F.1 F.2.1 dL_law_476 ?_
        refine lv_iconst (v := 3) F.1 F.2.1 dL_law_477 (by decide) ?_
        obtain ⟨q478, hq478, eq478⟩ := low_ok (u >>> (12 &&& 31)) (n := 3) (by omega) (by omega)
        refine q_rS (rest := [.int (nI ((14 * (gnS M)) + 3)), .ref (ad 2)]) F w kS_L_134 hd_L_low (c_L_low l D cy A _ (u >>> (12 &&& 31)) 3 (by decide)) dL_law_478 rfl rfl hl.1 ⟨rfl, rfl, (show 1 ≤ R.frames by omega), (show 21 ≤ R.locals by omega)⟩ (Nat.le_of_ble_eq_true rfl) ⟨by omega, by omega⟩ ?_
        refine lv_fold (y := nI q478) eq478 ?_
        refine l_ist F w hd hY 2 rfl ((14 * (gnS M)) + 3) (show (14 * (gnS M)) + 3 < 56 by omega) dL_law_481 (fun H locs Y hd hY w => ?_)
        have hL := hY.un hd
        refine lv_aload_n F.1 F.2.1 dL_law_482 rfl (lv_at hl 3 rfl) ?_
        refine lv_iload F.1 F.2.1 dL_law_483 (lv_at hl 0 rfl) ?_
        refine lv_iconst (v := 4) F.1 F.2.1 dL_law_485 (by decide) ?_
        refine lv_iadd F.1 F.2.1 dL_law_486 ?_
        refine lv_fold (y := nI ((14 * (gnS M)) + 4)) (nI_add (14 * (gnS M)) 4) ?_
        refine lv_iload F.1 F.2.1 dL_law_487 (lv_at hl 14 rfl) ?_
        refine lv_bipush (v := 15) F.1 F.2.1 dL_law_489 (by decide) ?_
        refine lv_ishr F.1 F.2.1 dL_law_491 ?_
        refine lv_iconst (v := 4) F.1 F.2.1 dL_law_492 (by decide) ?_
        obtain ⟨q493, hq493, eq493⟩ := low_ok (u >>> (15 &&& 31)) (n := 4) (by omega) (by omega)
        refine q_rS (rest := [.int (nI ((14 * (gnS M)) + 4)), .ref (ad 2)]) F w kS_L_134 hd_L_low (c_L_low l D cy A _ (u >>> (15 &&& 31)) 4 (by decide)) dL_law_493 rfl rfl hl.1 ⟨rfl, rfl, (show 1 ≤ R.frames by omega), (show 21 ≤ R.locals by omega)⟩ (Nat.le_of_ble_eq_true rfl) ⟨by omega, by omega⟩ ?_
        refine lv_fold (y := nI q493) eq493 ?_
        refine l_ist F w hd hY 2 rfl ((14 * (gnS M)) + 4) (show (14 * (gnS M)) + 4 < 56 by omega) dL_law_496 (fun H locs Y hd hY w => ?_)
        have hL := hY.un hd
        refine lv_bipush (v := 6) F.1 F.2.1 dL_law_497 (by decide) ?_
        refine lv_istore (lv' := [(19, .int 6), (18, .int (nI (14 * (gnS M)))), (0, .ref b), (1, .ref o), (2, .ref (ad 2)), (3, .ref (ad 3)), (4, .ref (ad 4)), (5, .ref (ad 5)), (6, .ref (ad 6)), (7, .ref (ad 7)), (8, .ref (ad 8)), (9, .ref (ad 9)), (10, .ref (ad 10)), (11, .int (nI t)), (12, .int v12), (13, .int u), (14, .int (nI i)), (15, .int (nI (14 * i))), (16, .int (nI v)), (17, .int 1)]) F.1 F.2.1 dL_law_499 hl (by decide) rfl (fun ls hl => ?_)
        refine lv_iload F.1 F.2.1 dL_law_501 (lv_at hl 0 rfl) ?_
        refine lv_bipush (v := 10) F.1 F.2.1 dL_law_503 (by decide) ?_
        refine lv_icmp_ge (tgt := 522) F.1 F.2.1 dL_law_505 (by decide) (fun c_23 => absurd c_23 (by decide)) (fun c_23 => ?_)
        refine lv_aload_n F.1 F.2.1 dL_law_508 rfl (lv_at hl 4 rfl) ?_
        refine lv_iload F.1 F.2.1 dL_law_509 (lv_at hl 1 rfl) ?_
        refine lv_iload F.1 F.2.1 dL_law_511 (lv_at hl 0 rfl) ?_
        refine lv_iadd F.1 F.2.1 dL_law_513 ?_
        refine lv_fold (y := nI ((14 * (gnS M)) + 6)) (nI_add (14 * (gnS M)) 6) ?_
        refine lv_iconst (v := -1) F.1 F.2.1 dL_law_514 (by decide) ?_
        refine l_ist F w hd hY 2 rfl ((14 * (gnS M)) + 6) (show (14 * (gnS M)) + 6 < 56 by omega) dL_law_515 (fun H locs Y hd hY w => ?_)
        have hL := hY.un hd
        refine lv_iinc (v := 7) (lv' := [(19, .int 7), (18, .int (nI (14 * (gnS M)))), (0, .ref b), (1, .ref o), (2, .ref (ad 2)), (3, .ref (ad 3)), (4, .ref (ad 4)), (5, .ref (ad 5)), (6, .ref (ad 6)), (7, .ref (ad 7)), (8, .ref (ad 8)), (9, .ref (ad 9)), (10, .ref (ad 10)), (11, .int (nI t)), (12, .int v12), (13, .int u), (14, .int (nI i)), (15, .int (nI (14 * i))), (16, .int (nI v)), (17, .int 1)]) F.1 F.2.1 dL_law_516 hl (k := 0) rfl (by decide) (by decide) rfl (fun ls hl => ?_)
        refine lv_goto (tgt := 501) F.1 F.2.1 dL_law_519 (by decide) ?_
        refine lv_iload F.1 F.2.1 dL_law_501 (lv_at hl 0 rfl) ?_
        refine lv_bipush (v := 10) F.1 F.2.1 dL_law_503 (by decide) ?_
        refine lv_icmp_ge (tgt := 522) F.1 F.2.1 dL_law_505 (by decide) (fun c_24 => absurd c_24 (by decide)) (fun c_24 => ?_)
        refine lv_aload_n F.1 F.2.1 dL_law_508 rfl (lv_at hl 4 rfl) ?_
        refine lv_iload F.1 F.2.1 dL_law_509 (lv_at hl 1 rfl) ?_
        refine lv_iload F.1 F.2.1 dL_law_511 (lv_at hl 0 rfl) ?_
        refine lv_iadd F.1 F.2.1 dL_law_513 ?_
        refine lv_fold (y := nI ((14 * (gnS M)) + 7)) (nI_add (14 * (gnS M)) 7) ?_
        refine lv_iconst (v := -1) F.1 F.2.1 dL_law_514 (by decide) ?_
        refine l_ist F w hd hY 2 rfl ((14 * (gnS M)) + 7) (show (14 * (gnS M)) + 7 < 56 by omega) dL_law_515 (fun H locs Y hd hY w => ?_)
        have hL := hY.un hd
        refine lv_iinc (v := 8) (lv' := [(19, .int 8), (18, .int (nI (14 * (gnS M)))), (0, .ref b), (1, .ref o), (2, .ref (ad 2)), (3, .ref (ad 3)), (4, .ref (ad 4)), (5, .ref (ad 5)), (6, .ref (ad 6)), (7, .ref (ad 7)), (8, .ref (ad 8)), (9, .ref (ad 9)), (10, .ref (ad 10)), (11, .int (nI t)), (12, .int v12), (13, .int u), (14, .int (nI i)), (15, .int (nI (14 * i))), (16, .int (nI v)), (17, .int 1)]) F.1 F.2.1 dL_law_516 hl (k := 0) rfl (by decide) (by decide) rfl (fun ls hl => ?_)
        refine lv_goto (tgt := 501) F.1 F.2.1 dL_law_519 (by decide) ?_
        refine lv_iload F.1 F.2.1 dL_law_501 (lv_at hl 0 rfl) ?_
        refine lv_bipush (v := 10) F.1 F.2.1 dL_law_503 (by decide) ?_
        refine lv_icmp_ge (tgt := 522) F.1 F.2.1 dL_law_505 (by decide) (fun c_25 => absurd c_25 (by decide)) (fun c_25 => ?_)
        refine lv_aload_n F.1 F.2.1 dL_law_508 rfl (lv_at hl 4 rfl) ?_
        refine lv_iload F.1 F.2.1 dL_law_509 (lv_at hl 1 rfl) ?_
        refine lv_iload F.1 F.2.1 dL_law_511 (lv_at hl 0 rfl) ?_
        refine lv_iadd F.1 F.2.1 dL_law_513 ?_
        refine lv_fold (y := nI ((14 * (gnS M)) + 8)) (nI_add (14 * (gnS M)) 8) ?_
        refine lv_iconst (v := -1) F.1 F.2.1 dL_law_514 (by decide) ?_
        refine l_ist F w hd hY 2 rfl ((14 * (gnS M)) + 8) (show (14 * (gnS M)) + 8 < 56 by omega) dL_law_515 (fun H locs Y hd hY w => ?_)
        have hL := hY.un hd
        refine lv_iinc (v := 9) (lv' := [(19, .int 9), (18, .int (nI (14 * (gnS M)))), (0, .ref b), (1, .ref o), (2, .ref (ad 2)), (3, .ref (ad 3)), (4, .ref (ad 4)), (5, .ref (ad 5)), (6, .ref (ad 6)), (7, .ref (ad 7)), (8, .ref (ad 8)), (9, .ref (ad 9)), (10, .ref (ad 10)), (11, .int (nI t)), (12, .int v12), (13, .int u), (14, .int (nI i)), (15, .int (nI (14 * i))), (16, .int (nI v)), (17, .int 1)]) F.1 F.2.1 dL_law_516 hl (k := 0) rfl (by decide) (by decide) rfl (fun ls hl => ?_)
        refine lv_goto (tgt := 501) F.1 F.2.1 dL_law_519 (by decide) ?_
        refine lv_iload F.1 F.2.1 dL_law_501 (lv_at hl 0 rfl) ?_
        refine lv_bipush (v := 10) F.1 F.2.1 dL_law_503 (by decide) ?_
        refine lv_icmp_ge (tgt := 522) F.1 F.2.1 dL_law_505 (by decide) (fun c_26 => absurd c_26 (by decide)) (fun c_26 => ?_)
        refine lv_aload_n F.1 F.2.1 dL_law_508 rfl (lv_at hl 4 rfl) ?_
        refine lv_iload F.1 F.2.1 dL_law_509 (lv_at hl 1 rfl) ?_
        refine lv_iload F.1 F.2.1 dL_law_511 (lv_at hl 0 rfl) ?_
        refine lv_iadd F.1 F.2.1 dL_law_513 ?_
        refine lv_fold (y := nI ((14 * (gnS M)) + 9)) (nI_add (14 * (gnS M)) 9) ?_
        refine lv_iconst (v := -1) F.1 F.2.1 dL_law_514 (by decide) ?_
        refine l_ist F w hd hY 2 rfl ((14 * (gnS M)) + 9) (show (14 * (gnS M)) + 9 < 56 by omega) dL_law_515 (fun H locs Y hd hY w => ?_)
        have hL := hY.un hd
        refine lv_iinc (v := 10) (lv' := [(19, .int 10), (18, .int (nI (14 * (gnS M)))), (0, .ref b), (1, .ref o), (2, .ref (ad 2)), (3, .ref (ad 3)), (4, .ref (ad 4)), (5, .ref (ad 5)), (6, .ref (ad 6)), (7, .ref (ad 7)), (8, .ref (ad 8)), (9, .ref (ad 9)), (10, .ref (ad 10)), (11, .int (nI t)), (12, .int v12), (13, .int u), (14, .int (nI i)), (15, .int (nI (14 * i))), (16, .int (nI v)), (17, .int 1)]) F.1 F.2.1 dL_law_516 hl (k := 0) rfl (by decide) (by decide) rfl (fun ls hl => ?_)
        refine lv_goto (tgt := 501) F.1 F.2.1 dL_law_519 (by decide) ?_
        refine lv_iload F.1 F.2.1 dL_law_501 (lv_at hl 0 rfl) ?_
        refine lv_bipush (v := 10) F.1 F.2.1 dL_law_503 (by decide) ?_
        refine lv_icmp_ge (tgt := 522) F.1 F.2.1 dL_law_505 (by decide) (fun c_27 => ?_) (fun c_27 => absurd (by decide) c_27)
        refine lv_aload_n F.1 F.2.1 dL_law_522 rfl (lv_at hl 4 rfl) ?_
        refine lv_iload F.1 F.2.1 dL_law_523 (lv_at hl 1 rfl) ?_
        refine lv_bipush (v := 12) F.1 F.2.1 dL_law_525 (by decide) ?_
        refine lv_iadd F.1 F.2.1 dL_law_527 ?_
        refine lv_fold (y := nI ((14 * (gnS M)) + 12)) (nI_add (14 * (gnS M)) 12) ?_
        refine lv_iconst (v := -1) F.1 F.2.1 dL_law_528 (by decide) ?_
        refine l_ist F w hd hY 2 rfl ((14 * (gnS M)) + 12) (show (14 * (gnS M)) + 12 < 56 by omega) dL_law_529 (fun H locs Y hd hY w => ?_)
        have hL := hY.un hd
        obtain ⟨a9, hRn⟩ := sh_ok hR c_1 ht ht9 (x1 := (-10000)) (by decide) (by have e : (-10000 : Int32).toInt = -10000 := rfl; omega) hq447 hq463 hq478 hq493
        refine lv_aload_n F.1 F.2.1 dL_law_530 rfl (lv_at hl 3 rfl) ?_
        refine lv_aload_n F.1 F.2.1 dL_law_531 rfl (lv_at hl 4 rfl) ?_
        refine lv_iload F.1 F.2.1 dL_law_532 (lv_at hl 1 rfl) ?_
        refine l_ild F w hL 2 rfl (14 * (gnS M)) (show 14 * (gnS M) < 56 by omega) dL_law_534 ?_
        refine lv_fold (y := (-10000)) ((up2_d (by omega)).trans ((up2_d (by omega)).trans ((up2_d (by omega)).trans ((up2_d (by omega)).trans ((up2_d (by omega)).trans ((up2_d (by omega)).trans ((up2_d (by omega)).trans ((up2_d (by omega)).trans ((up2_d (by omega)).trans (up2_s)))))))))) ?_
        refine lv_aload_n F.1 F.2.1 dL_law_535 rfl (lv_at hl 4 rfl) ?_
        refine lv_iload F.1 F.2.1 dL_law_536 (lv_at hl 1 rfl) ?_
        refine lv_iconst (v := 1) F.1 F.2.1 dL_law_538 (by decide) ?_
        refine lv_iadd F.1 F.2.1 dL_law_539 ?_
        refine lv_fold (y := nI ((14 * (gnS M)) + 1)) (nI_add (14 * (gnS M)) 1) ?_
        refine l_ild F w hL 2 rfl ((14 * (gnS M)) + 1) (show (14 * (gnS M)) + 1 < 56 by omega) dL_law_540 ?_
        refine lv_fold (y := nI (100 + q447)) ((up2_d (by omega)).trans ((up2_d (by omega)).trans ((up2_d (by omega)).trans ((up2_d (by omega)).trans ((up2_d (by omega)).trans ((up2_d (by omega)).trans ((up2_d (by omega)).trans ((up2_d (by omega)).trans (up2_s))))))))) ?_
        refine lv_aload_n F.1 F.2.1 dL_law_541 rfl (lv_at hl 4 rfl) ?_
        refine lv_iload F.1 F.2.1 dL_law_542 (lv_at hl 1 rfl) ?_
        refine lv_iconst (v := 2) F.1 F.2.1 dL_law_544 (by decide) ?_
        refine lv_iadd F.1 F.2.1 dL_law_545 ?_
        refine lv_fold (y := nI ((14 * (gnS M)) + 2)) (nI_add (14 * (gnS M)) 2) ?_
        refine l_ild F w hL 2 rfl ((14 * (gnS M)) + 2) (show (14 * (gnS M)) + 2 < 56 by omega) dL_law_546 ?_
        refine lv_fold (y := nI q463) ((up2_d (by omega)).trans ((up2_d (by omega)).trans ((up2_d (by omega)).trans ((up2_d (by omega)).trans ((up2_d (by omega)).trans ((up2_d (by omega)).trans ((up2_d (by omega)).trans (up2_s)))))))) ?_
        refine lv_aload_n F.1 F.2.1 dL_law_547 rfl (lv_at hl 4 rfl) ?_
        refine lv_iload F.1 F.2.1 dL_law_548 (lv_at hl 1 rfl) ?_
        refine lv_iconst (v := 3) F.1 F.2.1 dL_law_550 (by decide) ?_
        refine lv_iadd F.1 F.2.1 dL_law_551 ?_
        refine lv_fold (y := nI ((14 * (gnS M)) + 3)) (nI_add (14 * (gnS M)) 3) ?_
        refine l_ild F w hL 2 rfl ((14 * (gnS M)) + 3) (show (14 * (gnS M)) + 3 < 56 by omega) dL_law_552 ?_
        refine lv_fold (y := nI q478) ((up2_d (by omega)).trans ((up2_d (by omega)).trans ((up2_d (by omega)).trans ((up2_d (by omega)).trans ((up2_d (by omega)).trans ((up2_d (by omega)).trans (up2_s))))))) ?_
        refine lv_aload_n F.1 F.2.1 dL_law_553 rfl (lv_at hl 4 rfl) ?_
        refine lv_iload F.1 F.2.1 dL_law_554 (lv_at hl 1 rfl) ?_
        refine lv_iconst (v := 4) F.1 F.2.1 dL_law_556 (by decide) ?_
        refine lv_iadd F.1 F.2.1 dL_law_557 ?_
        refine lv_fold (y := nI ((14 * (gnS M)) + 4)) (nI_add (14 * (gnS M)) 4) ?_
        refine l_ild F w hL 2 rfl ((14 * (gnS M)) + 4) (show (14 * (gnS M)) + 4 < 56 by omega) dL_law_558 ?_
        refine lv_fold (y := nI q493) ((up2_d (by omega)).trans ((up2_d (by omega)).trans ((up2_d (by omega)).trans ((up2_d (by omega)).trans ((up2_d (by omega)).trans (up2_s)))))) ?_
        refine lw_ship (rest := []) F w hd hM ho hR.r.ic (-10000) (nI (100 + q447)) (nI q463) (nI q478) (nI q493) hlf dL_law_559 hl.1 ⟨by omega, by omega⟩ (Nat.le_of_ble_eq_true rfl) ⟨by omega, by omega⟩ (fun v559 X AD H locs hv559 ho hd hM w => ?_)
        have hL := hY.un hd
        refine lv_fold (y := nI (gnS M)) (hv559.trans a9) ?_
        refine lv_aload F.1 F.2.1 dL_law_562 (lv_at hl 12 rfl) ?_
        refine lv_bipush (v := 8) F.1 F.2.1 dL_law_564 (by decide) ?_
        refine l_ild F w hL 10 rfl 8 (show 8 < 9 by omega) dL_law_566 ?_
        refine lv_fold (y := S 10 8) ((up2_r (by decide)).trans ((up2_r (by decide)).trans ((up2_r (by decide)).trans ((up2_r (by decide)).trans ((up2_r (by decide)).trans ((up2_r (by decide)).trans ((up2_r (by decide)).trans ((up2_r (by decide)).trans ((up2_r (by decide)).trans ((up2_r (by decide)).trans (up2_r (by decide)))))))))))) ?_
        refine lv_fold (y := nI (gnS M)) (hR.g8.trans hR.nS) ?_
        refine lv_icmp_ne (tgt := 574) F.1 F.2.1 dL_law_567 (by decide) (fun c_28 => absurd rfl c_28) (fun c_28 => ?_)
        refine lv_iconst (v := 1) F.1 F.2.1 dL_law_570 (by decide) ?_
        refine lv_goto (tgt := 575) F.1 F.2.1 dL_law_571 (by decide) ?_
        refine lv_istore (lv' := [(17, .int 1), (19, .int 10), (18, .int (nI (14 * (gnS M)))), (0, .ref b), (1, .ref o), (2, .ref (ad 2)), (3, .ref (ad 3)), (4, .ref (ad 4)), (5, .ref (ad 5)), (6, .ref (ad 6)), (7, .ref (ad 7)), (8, .ref (ad 8)), (9, .ref (ad 9)), (10, .ref (ad 10)), (11, .int (nI t)), (12, .int v12), (13, .int u), (14, .int (nI i)), (15, .int (nI (14 * i))), (16, .int (nI v))]) F.1 F.2.1 dL_law_575 hl (by decide) rfl (fun ls hl => ?_)
        refine lv_aload F.1 F.2.1 dL_law_577 (lv_at hl 13 rfl) ?_
        refine lv_bipush (v := 8) F.1 F.2.1 dL_law_579 (by decide) ?_
        refine lv_dup2_11 F.1 F.2.1 dL_law_581 rfl rfl ?_
        refine l_ild F w hL 10 rfl 8 (show 8 < 9 by omega) dL_law_582 ?_
        refine lv_fold (y := S 10 8) ((up2_r (by decide)).trans ((up2_r (by decide)).trans ((up2_r (by decide)).trans ((up2_r (by decide)).trans ((up2_r (by decide)).trans ((up2_r (by decide)).trans ((up2_r (by decide)).trans ((up2_r (by decide)).trans ((up2_r (by decide)).trans ((up2_r (by decide)).trans (up2_r (by decide)))))))))))) ?_
        refine lv_iconst (v := 1) F.1 F.2.1 dL_law_583 (by decide) ?_
        refine lv_iadd F.1 F.2.1 dL_law_584 ?_
        refine l_ist F w hd hY 10 rfl 8 (show 8 < 9 by omega) dL_law_585 (fun H locs Y hd hY w => ?_)
        have hL := hY.un hd
        refine lv_goto (tgt := 3461) F.1 F.2.1 dL_law_586 (by decide) ?_
        refine W.widen (k := c1) (n := s1) (by omega) (by omega) ?_
        exact K _ _ ls ⟨X, Y, AD, _, _, _, _, ho, hd, hM, hY, w, R26.ups (hRn _) (by omega)⟩ (lv_sub hl [0, 3, 4, 5, 6, 7, 8, 9, 10, 11, 12, 13, 14, 16] rfl)
  · refine lv_goto (tgt := 3461) F.1 F.2.1 dL_law_349 (by decide) ?_
    refine W.widen (k := c1) (n := s1) (by omega) (by omega) ?_
    exact K _ _ ls ⟨X, Y, AD, _, _, _, _, ho, hd, hM, hY, w, R26.ups hR (by omega)⟩ (lv_sub hl [17, 0, 1, 2, 3, 4, 5, 6, 7, 8, 9, 10, 11, 13] rfl)
set_option maxHeartbeats 4000000 in
set_option maxRecDepth 100000 in
theorem lc_rule {p : Program} {l : Launch} {e : Env} {R : Room} {s : State} {m : MethodId} {args : Array Value} {below : List Frame} {meth : Method} {c : Code} {Q : State → Prop} {D : va_G} {cy : Nat → ClassId} {A : Nat → Prop} {o b t i v : Nat} {ad : Nat → Nat} {u v12 : Int32} {n n1 c1 s1 : Nat} {G M S : GS} {Wf : Nat → Int64} (F : CallFix p m c cL_law 40 s args BIG RL) (hlf : l.stackTraces = false) (hRm : 11 ≤ R.frames ∧ 278 ≤ R.locals ∧ c1 ≤ R.cells ∧ s1 ≤ R.slots) (h511 : n1 ≤ 511) (K : KJ p l e R s m args below meth c Q D cy A o b t ad u n1 c1 s1) (hR : R26 n G M S Wf) (hi4 : i < 4) (hi0 : gnS M = 0 ∨ i < gnS M) (hv50 : v < 50) (hv0 : gnV M = 0 ∨ v < gnV M) {X Y : MU} {AD : AM} {H : Heap} {locs : List Loc} {cells slots : Nat} (hf : cells + 30 ≤ c1 ∧ slots + 9500 ≤ s1) (hn : n + 1 ≤ n1) (ho : AD 0 0 0 = o) (hd : dis X Y) (hM : RepC cy AD G X) (hY : RepL cy ad S Wf Y) (w : WW D cy A (un X Y) s H locs) {ls : Array Slot} (hl : lv_has ls 40 [(0, .ref b), (1, .ref o), (2, .ref (ad 2)), (3, .ref (ad 3)), (4, .ref (ad 4)), (5, .ref (ad 5)), (6, .ref (ad 6)), (7, .ref (ad 7)), (8, .ref (ad 8)), (9, .ref (ad 9)), (10, .ref (ad 10)), (11, .int (nI t)), (12, .int v12), (13, .int u), (14, .int (nI i)), (15, .int (nI (14 * i))), (16, .int (nI v)), (17, .int 1)]) : W p l e R s m args below meth c H locs cells slots Q (F0 m 589 ls []) := by
  have hL := hY.un hd
  obtain ⟨t9, ht9, ht⟩ := hR.td
  have hb4 := hR.b
  have heV := hR.eV
  refine lv_aload F.1 F.2.1 dL_law_589 (lv_at hl 10 rfl) ?_
  refine lv_iconst (v := 1) F.1 F.2.1 dL_law_591 (by decide) ?_
  refine l_ild F w hL 10 rfl 1 (show 1 < 9 by omega) dL_law_592 ?_
  refine lv_bipush (v := 10) F.1 F.2.1 dL_law_593 (by decide) ?_
  refine lv_icmp_ne (tgt := 601) F.1 F.2.1 dL_law_595 (by decide) (fun c_1 => ?_) (fun c_1 => ?_)
  · have h10 := ru_lt hR c_1
    refine lv_iconst (v := 5) F.1 F.2.1 dL_law_601 (by decide) ?_
    refine lv_aload F.1 F.2.1 dL_law_602 (lv_at hl 10 rfl) ?_
    refine lv_iconst (v := 1) F.1 F.2.1 dL_law_604 (by decide) ?_
    refine l_ild F w hL 10 rfl 1 (show 1 < 9 by omega) dL_law_605 ?_
    refine lv_fold (y := nI (gnR M)) (hR.g1.trans hR.nR) ?_
    refine lv_imul F.1 F.2.1 dL_law_606 ?_
    refine lv_fold (y := nI (5 * (gnR M))) (pk_mul 5 (gnR M)) ?_
    refine lv_istore (lv' := [(19, .int (nI (5 * (gnR M)))), (0, .ref b), (1, .ref o), (2, .ref (ad 2)), (3, .ref (ad 3)), (4, .ref (ad 4)), (5, .ref (ad 5)), (6, .ref (ad 6)), (7, .ref (ad 7)), (8, .ref (ad 8)), (9, .ref (ad 9)), (10, .ref (ad 10)), (11, .int (nI t)), (12, .int v12), (13, .int u), (14, .int (nI i)), (15, .int (nI (14 * i))), (16, .int (nI v)), (17, .int 1)]) F.1 F.2.1 dL_law_607 hl (by decide) rfl (fun ls hl => ?_)
    refine lv_aload F.1 F.2.1 dL_law_609 (lv_at hl 5 rfl) ?_
    refine lv_iload F.1 F.2.1 dL_law_611 (lv_at hl 0 rfl) ?_
    refine lv_iload F.1 F.2.1 dL_law_613 (lv_at hl 14 rfl) ?_
    refine lv_iconst (v := 4) F.1 F.2.1 dL_law_615 (by decide) ?_
    obtain ⟨q616, hq616, eq616⟩ := low_ok u (n := 4) (by omega) (by omega)
    refine q_rS (rest := [.int (nI (5 * (gnR M))), .ref (ad 4)]) F w kS_L_134 hd_L_low (c_L_low l D cy A _ u 4 (by decide)) dL_law_616 rfl rfl hl.1 ⟨rfl, rfl, (show 1 ≤ R.frames by omega), (show 21 ≤ R.locals by omega)⟩ (Nat.le_of_ble_eq_true rfl) ⟨by omega, by omega⟩ ?_
    refine lv_fold (y := nI q616) eq616 ?_
    refine l_ist F w hd hY 4 rfl (5 * (gnR M)) (show 5 * (gnR M) < 50 by omega) dL_law_619 (fun H locs Y hd hY w => ?_)
    have hL := hY.un hd
    refine lv_aload F.1 F.2.1 dL_law_620 (lv_at hl 5 rfl) ?_
    refine lv_iload F.1 F.2.1 dL_law_622 (lv_at hl 0 rfl) ?_
    refine lv_iconst (v := 1) F.1 F.2.1 dL_law_624 (by decide) ?_
    refine lv_iadd F.1 F.2.1 dL_law_625 ?_
    refine lv_fold (y := nI ((5 * (gnR M)) + 1)) (nI_add (5 * (gnR M)) 1) ?_
    refine lv_iload F.1 F.2.1 dL_law_626 (lv_at hl 14 rfl) ?_
    refine lv_iconst (v := 3) F.1 F.2.1 dL_law_628 (by decide) ?_
    refine lv_ishr F.1 F.2.1 dL_law_629 ?_
    refine lv_sipush (v := 1500) F.1 F.2.1 dL_law_630 (by decide) ?_
    obtain ⟨q633, hq633, eq633⟩ := low_ok (u >>> (3 &&& 31)) (n := 1500) (by omega) (by omega)
    refine q_rS (rest := [.int (nI ((5 * (gnR M)) + 1)), .ref (ad 4)]) F w kS_L_134 hd_L_low (c_L_low l D cy A _ (u >>> (3 &&& 31)) 1500 (by decide)) dL_law_633 rfl rfl hl.1 ⟨rfl, rfl, (show 1 ≤ R.frames by omega), (show 21 ≤ R.locals by omega)⟩ (Nat.le_of_ble_eq_true rfl) ⟨by omega, by omega⟩ ?_
    refine lv_fold (y := nI q633) eq633 ?_
    refine l_ist F w hd hY 4 rfl ((5 * (gnR M)) + 1) (show (5 * (gnR M)) + 1 < 50 by omega) dL_law_636 (fun H locs Y hd hY w => ?_)
    have hL := hY.un hd
    refine lv_aload F.1 F.2.1 dL_law_637 (lv_at hl 5 rfl) ?_
    refine lv_iload F.1 F.2.1 dL_law_639 (lv_at hl 0 rfl) ?_
    refine lv_iconst (v := 2) F.1 F.2.1 dL_law_641 (by decide) ?_
    refine lv_iadd F.1 F.2.1 dL_law_642 ?_
    refine lv_fold (y := nI ((5 * (gnR M)) + 2)) (nI_add (5 * (gnR M)) 2) ?_
    refine lv_iconst (v := 1) F.1 F.2.1 dL_law_643 (by decide) ?_
    refine lv_iload F.1 F.2.1 dL_law_644 (lv_at hl 14 rfl) ?_
    refine lv_bipush (v := 9) F.1 F.2.1 dL_law_646 (by decide) ?_
    refine lv_ishr F.1 F.2.1 dL_law_648 ?_
    refine lv_bipush (v := 7) F.1 F.2.1 dL_law_649 (by decide) ?_
    obtain ⟨q651, hq651, eq651⟩ := low_ok (u >>> (9 &&& 31)) (n := 7) (by omega) (by omega)
    refine q_rS (rest := [.int 1, .int (nI ((5 * (gnR M)) + 2)), .ref (ad 4)]) F w kS_L_134 hd_L_low (c_L_low l D cy A _ (u >>> (9 &&& 31)) 7 (by decide)) dL_law_651 rfl rfl hl.1 ⟨rfl, rfl, (show 1 ≤ R.frames by omega), (show 21 ≤ R.locals by omega)⟩ (Nat.le_of_ble_eq_true rfl) ⟨by omega, by omega⟩ ?_
    refine lv_fold (y := nI q651) eq651 ?_
    refine lv_iadd F.1 F.2.1 dL_law_654 ?_
    refine lv_fold (y := nI (1 + q651)) (nI_add 1 q651) ?_
    refine l_ist F w hd hY 4 rfl ((5 * (gnR M)) + 2) (show (5 * (gnR M)) + 2 < 50 by omega) dL_law_655 (fun H locs Y hd hY w => ?_)
    have hL := hY.un hd
    refine lv_aload F.1 F.2.1 dL_law_656 (lv_at hl 5 rfl) ?_
    refine lv_iload F.1 F.2.1 dL_law_658 (lv_at hl 0 rfl) ?_
    refine lv_iconst (v := 3) F.1 F.2.1 dL_law_660 (by decide) ?_
    refine lv_iadd F.1 F.2.1 dL_law_661 ?_
    refine lv_fold (y := nI ((5 * (gnR M)) + 3)) (nI_add (5 * (gnR M)) 3) ?_
    refine lv_iload F.1 F.2.1 dL_law_662 (lv_at hl 14 rfl) ?_
    refine lv_bipush (v := 12) F.1 F.2.1 dL_law_664 (by decide) ?_
    refine lv_ishr F.1 F.2.1 dL_law_666 ?_
    refine lv_sipush (v := 1000) F.1 F.2.1 dL_law_667 (by decide) ?_
    obtain ⟨q670, hq670, eq670⟩ := low_ok (u >>> (12 &&& 31)) (n := 1000) (by omega) (by omega)
    refine q_rS (rest := [.int (nI ((5 * (gnR M)) + 3)), .ref (ad 4)]) F w kS_L_134 hd_L_low (c_L_low l D cy A _ (u >>> (12 &&& 31)) 1000 (by decide)) dL_law_670 rfl rfl hl.1 ⟨rfl, rfl, (show 1 ≤ R.frames by omega), (show 21 ≤ R.locals by omega)⟩ (Nat.le_of_ble_eq_true rfl) ⟨by omega, by omega⟩ ?_
    refine lv_fold (y := nI q670) eq670 ?_
    refine l_ist F w hd hY 4 rfl ((5 * (gnR M)) + 3) (show (5 * (gnR M)) + 3 < 50 by omega) dL_law_673 (fun H locs Y hd hY w => ?_)
    have hL := hY.un hd
    refine lv_aload F.1 F.2.1 dL_law_674 (lv_at hl 5 rfl) ?_
    refine lv_iload F.1 F.2.1 dL_law_676 (lv_at hl 0 rfl) ?_
    refine lv_iconst (v := 4) F.1 F.2.1 dL_law_678 (by decide) ?_
    refine lv_iadd F.1 F.2.1 dL_law_679 ?_
    refine lv_fold (y := nI ((5 * (gnR M)) + 4)) (nI_add (5 * (gnR M)) 4) ?_
    refine lv_iload F.1 F.2.1 dL_law_680 (lv_at hl 14 rfl) ?_
    refine lv_bipush (v := 17) F.1 F.2.1 dL_law_682 (by decide) ?_
    refine lv_ishr F.1 F.2.1 dL_law_684 ?_
    refine lv_sipush (v := 500) F.1 F.2.1 dL_law_685 (by decide) ?_
    obtain ⟨q688, hq688, eq688⟩ := low_ok (u >>> (17 &&& 31)) (n := 500) (by omega) (by omega)
    refine q_rS (rest := [.int (nI ((5 * (gnR M)) + 4)), .ref (ad 4)]) F w kS_L_134 hd_L_low (c_L_low l D cy A _ (u >>> (17 &&& 31)) 500 (by decide)) dL_law_688 rfl rfl hl.1 ⟨rfl, rfl, (show 1 ≤ R.frames by omega), (show 21 ≤ R.locals by omega)⟩ (Nat.le_of_ble_eq_true rfl) ⟨by omega, by omega⟩ ?_
    refine lv_fold (y := nI q688) eq688 ?_
    refine l_ist F w hd hY 4 rfl ((5 * (gnR M)) + 4) (show (5 * (gnR M)) + 4 < 50 by omega) dL_law_691 (fun H locs Y hd hY w => ?_)
    have hL := hY.un hd
    obtain ⟨a9, hRn⟩ := ru_ok hR c_1 hq616 hq633 hq651 hq670 hq688
    refine lv_aload_n F.1 F.2.1 dL_law_692 rfl (lv_at hl 2 rfl) ?_
    refine lv_aload F.1 F.2.1 dL_law_693 (lv_at hl 5 rfl) ?_
    refine lv_iload F.1 F.2.1 dL_law_695 (lv_at hl 0 rfl) ?_
    refine l_ild F w hL 4 rfl (5 * (gnR M)) (show 5 * (gnR M) < 50 by omega) dL_law_697 ?_
    refine lv_fold (y := nI q616) ((up2_d (by omega)).trans ((up2_d (by omega)).trans ((up2_d (by omega)).trans ((up2_d (by omega)).trans (up2_s))))) ?_
    refine lv_aload F.1 F.2.1 dL_law_698 (lv_at hl 5 rfl) ?_
    refine lv_iload F.1 F.2.1 dL_law_700 (lv_at hl 0 rfl) ?_
    refine lv_iconst (v := 1) F.1 F.2.1 dL_law_702 (by decide) ?_
    refine lv_iadd F.1 F.2.1 dL_law_703 ?_
    refine lv_fold (y := nI ((5 * (gnR M)) + 1)) (nI_add (5 * (gnR M)) 1) ?_
    refine l_ild F w hL 4 rfl ((5 * (gnR M)) + 1) (show (5 * (gnR M)) + 1 < 50 by omega) dL_law_704 ?_
    refine lv_fold (y := nI q633) ((up2_d (by omega)).trans ((up2_d (by omega)).trans ((up2_d (by omega)).trans (up2_s)))) ?_
    refine lv_aload F.1 F.2.1 dL_law_705 (lv_at hl 5 rfl) ?_
    refine lv_iload F.1 F.2.1 dL_law_707 (lv_at hl 0 rfl) ?_
    refine lv_iconst (v := 2) F.1 F.2.1 dL_law_709 (by decide) ?_
    refine lv_iadd F.1 F.2.1 dL_law_710 ?_
    refine lv_fold (y := nI ((5 * (gnR M)) + 2)) (nI_add (5 * (gnR M)) 2) ?_
    refine l_ild F w hL 4 rfl ((5 * (gnR M)) + 2) (show (5 * (gnR M)) + 2 < 50 by omega) dL_law_711 ?_
    refine lv_fold (y := nI (1 + q651)) ((up2_d (by omega)).trans ((up2_d (by omega)).trans (up2_s))) ?_
    refine lv_aload F.1 F.2.1 dL_law_712 (lv_at hl 5 rfl) ?_
    refine lv_iload F.1 F.2.1 dL_law_714 (lv_at hl 0 rfl) ?_
    refine lv_iconst (v := 3) F.1 F.2.1 dL_law_716 (by decide) ?_
    refine lv_iadd F.1 F.2.1 dL_law_717 ?_
    refine lv_fold (y := nI ((5 * (gnR M)) + 3)) (nI_add (5 * (gnR M)) 3) ?_
    refine l_ild F w hL 4 rfl ((5 * (gnR M)) + 3) (show (5 * (gnR M)) + 3 < 50 by omega) dL_law_718 ?_
    refine lv_fold (y := nI q670) ((up2_d (by omega)).trans (up2_s)) ?_
    refine lv_aload F.1 F.2.1 dL_law_719 (lv_at hl 5 rfl) ?_
    refine lv_iload F.1 F.2.1 dL_law_721 (lv_at hl 0 rfl) ?_
    refine lv_iconst (v := 4) F.1 F.2.1 dL_law_723 (by decide) ?_
    refine lv_iadd F.1 F.2.1 dL_law_724 ?_
    refine lv_fold (y := nI ((5 * (gnR M)) + 4)) (nI_add (5 * (gnR M)) 4) ?_
    refine l_ild F w hL 4 rfl ((5 * (gnR M)) + 4) (show (5 * (gnR M)) + 4 < 50 by omega) dL_law_725 ?_
    refine lv_fold (y := nI q688) (up2_s) ?_
    refine lw_rule (rest := []) F w hd hM ho hR.r.ic (nI q616) (nI q633) (nI (1 + q651)) (nI q670) (nI q688) hlf dL_law_726 hl.1 ⟨by omega, by omega⟩ (Nat.le_of_ble_eq_true rfl) ⟨by omega, by omega⟩ (fun v726 X AD H locs hv726 ho hd hM w => ?_)
    have hL := hY.un hd
    refine lv_fold (y := nI (gnR M)) (hv726.trans a9) ?_
    refine lv_aload F.1 F.2.1 dL_law_729 (lv_at hl 11 rfl) ?_
    refine lv_iconst (v := 1) F.1 F.2.1 dL_law_731 (by decide) ?_
    refine l_ild F w hL 10 rfl 1 (show 1 < 9 by omega) dL_law_732 ?_
    refine lv_fold (y := S 10 1) ((up2_r (by decide)).trans ((up2_r (by decide)).trans ((up2_r (by decide)).trans ((up2_r (by decide)).trans (up2_r (by decide)))))) ?_
    refine lv_fold (y := nI (gnR M)) (hR.g1.trans hR.nR) ?_
    refine lv_icmp_ne (tgt := 740) F.1 F.2.1 dL_law_733 (by decide) (fun c_2 => absurd rfl c_2) (fun c_2 => ?_)
    refine lv_iconst (v := 1) F.1 F.2.1 dL_law_736 (by decide) ?_
    refine lv_goto (tgt := 741) F.1 F.2.1 dL_law_737 (by decide) ?_
    refine lv_istore (lv' := [(17, .int 1), (19, .int (nI (5 * (gnR M)))), (0, .ref b), (1, .ref o), (2, .ref (ad 2)), (3, .ref (ad 3)), (4, .ref (ad 4)), (5, .ref (ad 5)), (6, .ref (ad 6)), (7, .ref (ad 7)), (8, .ref (ad 8)), (9, .ref (ad 9)), (10, .ref (ad 10)), (11, .int (nI t)), (12, .int v12), (13, .int u), (14, .int (nI i)), (15, .int (nI (14 * i))), (16, .int (nI v))]) F.1 F.2.1 dL_law_741 hl (by decide) rfl (fun ls hl => ?_)
    refine lv_aload F.1 F.2.1 dL_law_743 (lv_at hl 12 rfl) ?_
    refine lv_iconst (v := 1) F.1 F.2.1 dL_law_745 (by decide) ?_
    refine lv_dup2_11 F.1 F.2.1 dL_law_746 rfl rfl ?_
    refine l_ild F w hL 10 rfl 1 (show 1 < 9 by omega) dL_law_747 ?_
    refine lv_fold (y := S 10 1) ((up2_r (by decide)).trans ((up2_r (by decide)).trans ((up2_r (by decide)).trans ((up2_r (by decide)).trans (up2_r (by decide)))))) ?_
    refine lv_iconst (v := 1) F.1 F.2.1 dL_law_748 (by decide) ?_
    refine lv_iadd F.1 F.2.1 dL_law_749 ?_
    refine l_ist F w hd hY 10 rfl 1 (show 1 < 9 by omega) dL_law_750 (fun H locs Y hd hY w => ?_)
    have hL := hY.un hd
    refine lv_goto (tgt := 3461) F.1 F.2.1 dL_law_751 (by decide) ?_
    refine W.widen (k := c1) (n := s1) (by omega) (by omega) ?_
    exact K _ _ ls ⟨X, Y, AD, _, _, _, _, ho, hd, hM, hY, w, R26.ups hRn (by omega)⟩ (lv_sub hl [0, 2, 3, 4, 5, 6, 7, 8, 9, 10, 11, 12, 13, 15] rfl)
  · refine lv_goto (tgt := 3461) F.1 F.2.1 dL_law_598 (by decide) ?_
    refine W.widen (k := c1) (n := s1) (by omega) (by omega) ?_
    exact K _ _ ls ⟨X, Y, AD, _, _, _, _, ho, hd, hM, hY, w, R26.ups hR (by omega)⟩ (lv_sub hl [17, 0, 1, 2, 3, 4, 5, 6, 7, 8, 9, 10, 11, 13] rfl)
set_option maxHeartbeats 4000000 in
set_option maxRecDepth 100000 in
theorem lc_changes {p : Program} {l : Launch} {e : Env} {R : Room} {s : State} {m : MethodId} {args : Array Value} {below : List Frame} {meth : Method} {c : Code} {Q : State → Prop} {D : va_G} {cy : Nat → ClassId} {A : Nat → Prop} {o b t i v : Nat} {ad : Nat → Nat} {u v12 : Int32} {n n1 c1 s1 : Nat} {G M S : GS} {Wf : Nat → Int64} (F : CallFix p m c cL_law 40 s args BIG RL) (hlf : l.stackTraces = false) (hRm : 11 ≤ R.frames ∧ 278 ≤ R.locals ∧ c1 ≤ R.cells ∧ s1 ≤ R.slots) (h511 : n1 ≤ 511) (K : KJ p l e R s m args below meth c Q D cy A o b t ad u n1 c1 s1) (hR : R26 n G M S Wf) (hi4 : i < 4) (hi0 : gnS M = 0 ∨ i < gnS M) (hv50 : v < 50) (hv0 : gnV M = 0 ∨ v < gnV M) {X Y : MU} {AD : AM} {H : Heap} {locs : List Loc} {cells slots : Nat} (hf : cells + 30 ≤ c1 ∧ slots + 9500 ≤ s1) (hn : n + 4 ≤ n1) (ho : AD 0 0 0 = o) (hd : dis X Y) (hM : RepC cy AD G X) (hY : RepL cy ad S Wf Y) (w : WW D cy A (un X Y) s H locs) {ls : Array Slot} (hl : lv_has ls 40 [(0, .ref b), (1, .ref o), (2, .ref (ad 2)), (3, .ref (ad 3)), (4, .ref (ad 4)), (5, .ref (ad 5)), (6, .ref (ad 6)), (7, .ref (ad 7)), (8, .ref (ad 8)), (9, .ref (ad 9)), (10, .ref (ad 10)), (11, .int (nI t)), (12, .int v12), (13, .int u), (14, .int (nI i)), (15, .int (nI (14 * i))), (16, .int (nI v)), (17, .int 1)]) : W p l e R s m args below meth c H locs cells slots Q (F0 m 754 ls []) := by
  have hL := hY.un hd
  obtain ⟨t9, ht9, ht⟩ := hR.td
  have hb4 := hR.b
  have heV := hR.eV
  refine lv_aload F.1 F.2.1 dL_law_754 (lv_at hl 10 rfl) ?_
  refine lv_bipush (v := 8) F.1 F.2.1 dL_law_756 (by decide) ?_
  refine l_ild F w hL 10 rfl 8 (show 8 < 9 by omega) dL_law_758 ?_
  refine lv_if_ne (tgt := 765) F.1 F.2.1 dL_law_759 (by decide) (fun c_1 => ?_) (fun c_1 => ?_)
  · have hi := si_ok hR hi0 c_1
    refine lv_aload_n F.1 F.2.1 dL_law_765 rfl (lv_at hl 2 rfl) ?_
    refine lv_iload F.1 F.2.1 dL_law_766 (lv_at hl 15 rfl) ?_
    refine lv_iconst (v := 3) F.1 F.2.1 dL_law_768 (by decide) ?_
    refine lv_iadd F.1 F.2.1 dL_law_769 ?_
    refine lv_fold (y := nI ((14 * i) + 3)) (nI_add (14 * i) 3) ?_
    refine lv_iload F.1 F.2.1 dL_law_770 (lv_at hl 13 rfl) ?_
    refine lv_iconst (v := 3) F.1 F.2.1 dL_law_772 (by decide) ?_
    obtain ⟨q773, hq773, eq773⟩ := low_ok u (n := 3) (by omega) (by omega)
    refine q_rS (rest := [.int (nI ((14 * i) + 3)), .ref (ad 2)]) F w kS_L_134 hd_L_low (c_L_low l D cy A _ u 3 (by decide)) dL_law_773 rfl rfl hl.1 ⟨rfl, rfl, (show 1 ≤ R.frames by omega), (show 21 ≤ R.locals by omega)⟩ (Nat.le_of_ble_eq_true rfl) ⟨by omega, by omega⟩ ?_
    refine lv_fold (y := nI q773) eq773 ?_
    refine l_ist F w hd hY 2 rfl ((14 * i) + 3) (show (14 * i) + 3 < 56 by omega) dL_law_776 (fun H locs Y hd hY w => ?_)
    have hL := hY.un hd
    refine lv_aload_n F.1 F.2.1 dL_law_777 rfl (lv_at hl 2 rfl) ?_
    refine lv_iload F.1 F.2.1 dL_law_778 (lv_at hl 15 rfl) ?_
    refine lv_iconst (v := 4) F.1 F.2.1 dL_law_780 (by decide) ?_
    refine lv_iadd F.1 F.2.1 dL_law_781 ?_
    refine lv_fold (y := nI ((14 * i) + 4)) (nI_add (14 * i) 4) ?_
    refine lv_iload F.1 F.2.1 dL_law_782 (lv_at hl 13 rfl) ?_
    refine lv_iconst (v := 4) F.1 F.2.1 dL_law_784 (by decide) ?_
    refine lv_ishr F.1 F.2.1 dL_law_785 ?_
    refine lv_iconst (v := 4) F.1 F.2.1 dL_law_786 (by decide) ?_
    obtain ⟨q787, hq787, eq787⟩ := low_ok (u >>> (4 &&& 31)) (n := 4) (by omega) (by omega)
    refine q_rS (rest := [.int (nI ((14 * i) + 4)), .ref (ad 2)]) F w kS_L_134 hd_L_low (c_L_low l D cy A _ (u >>> (4 &&& 31)) 4 (by decide)) dL_law_787 rfl rfl hl.1 ⟨rfl, rfl, (show 1 ≤ R.frames by omega), (show 21 ≤ R.locals by omega)⟩ (Nat.le_of_ble_eq_true rfl) ⟨by omega, by omega⟩ ?_
    refine lv_fold (y := nI q787) eq787 ?_
    refine l_ist F w hd hY 2 rfl ((14 * i) + 4) (show (14 * i) + 4 < 56 by omega) dL_law_790 (fun H locs Y hd hY w => ?_)
    have hL := hY.un hd
    refine lv_aload_n F.1 F.2.1 dL_law_791 rfl (lv_at hl 2 rfl) ?_
    refine lv_iload F.1 F.2.1 dL_law_792 (lv_at hl 15 rfl) ?_
    refine lv_iconst (v := 5) F.1 F.2.1 dL_law_794 (by decide) ?_
    refine lv_iadd F.1 F.2.1 dL_law_795 ?_
    refine lv_fold (y := nI ((14 * i) + 5)) (nI_add (14 * i) 5) ?_
    refine lv_dup2_11 F.1 F.2.1 dL_law_796 rfl rfl ?_
    refine l_ild F w hL 2 rfl ((14 * i) + 5) (show (14 * i) + 5 < 56 by omega) dL_law_797 ?_
    refine lv_fold (y := S 2 ((14 * i) + 5)) ((up2_d (by omega)).trans (up2_d (by omega))) ?_
    refine lv_iconst (v := 1) F.1 F.2.1 dL_law_798 (by decide) ?_
    refine lv_iadd F.1 F.2.1 dL_law_799 ?_
    refine l_ist F w hd hY 2 rfl ((14 * i) + 5) (show (14 * i) + 5 < 56 by omega) dL_law_800 (fun H locs Y hd hY w => ?_)
    have hL := hY.un hd
    obtain ⟨a9, hRn⟩ := ch_ok hR (by omega) hi hq773 hq787
    refine lv_aload_n F.1 F.2.1 dL_law_801 rfl (lv_at hl 1 rfl) ?_
    refine lv_iload F.1 F.2.1 dL_law_802 (lv_at hl 14 rfl) ?_
    refine lv_aload_n F.1 F.2.1 dL_law_804 rfl (lv_at hl 2 rfl) ?_
    refine lv_iload F.1 F.2.1 dL_law_805 (lv_at hl 15 rfl) ?_
    refine lv_iconst (v := 3) F.1 F.2.1 dL_law_807 (by decide) ?_
    refine lv_iadd F.1 F.2.1 dL_law_808 ?_
    refine lv_fold (y := nI ((14 * i) + 3)) (nI_add (14 * i) 3) ?_
    refine l_ild F w hL 2 rfl ((14 * i) + 3) (show (14 * i) + 3 < 56 by omega) dL_law_809 ?_
    refine lv_fold (y := nI q773) ((up2_d (by omega)).trans ((up2_d (by omega)).trans (up2_s))) ?_
    refine lv_aload_n F.1 F.2.1 dL_law_810 rfl (lv_at hl 2 rfl) ?_
    refine lv_iload F.1 F.2.1 dL_law_811 (lv_at hl 15 rfl) ?_
    refine lv_iconst (v := 4) F.1 F.2.1 dL_law_813 (by decide) ?_
    refine lv_iadd F.1 F.2.1 dL_law_814 ?_
    refine lv_fold (y := nI ((14 * i) + 4)) (nI_add (14 * i) 4) ?_
    refine l_ild F w hL 2 rfl ((14 * i) + 4) (show (14 * i) + 4 < 56 by omega) dL_law_815 ?_
    refine lv_fold (y := nI q787) ((up2_d (by omega)).trans (up2_s)) ?_
    refine lw_changes (rest := []) F w hd hM ho hR.r.ic (nI i) (nI q773) (nI q787) (fun s9 hs9 => hR.r.gn (by omega) hs9) hlf dL_law_816 hl.1 ⟨by omega, by omega⟩ (Nat.le_of_ble_eq_true rfl) ⟨by omega, by omega⟩ (fun v816 X AD H locs hv816 ho hd hM w => ?_)
    have hL := hY.un hd
    refine lv_fold (y := (S 2 ((14 * i) + 5)) + 1) (hv816.trans a9) ?_
    refine lv_aload_n F.1 F.2.1 dL_law_819 rfl (lv_at hl 2 rfl) ?_
    refine lv_iload F.1 F.2.1 dL_law_820 (lv_at hl 15 rfl) ?_
    refine lv_iconst (v := 5) F.1 F.2.1 dL_law_822 (by decide) ?_
    refine lv_iadd F.1 F.2.1 dL_law_823 ?_
    refine lv_fold (y := nI ((14 * i) + 5)) (nI_add (14 * i) 5) ?_
    refine l_ild F w hL 2 rfl ((14 * i) + 5) (show (14 * i) + 5 < 56 by omega) dL_law_824 ?_
    refine lv_fold (y := (S 2 ((14 * i) + 5)) + 1) (up2_s) ?_
    refine lv_icmp_ne (tgt := 832) F.1 F.2.1 dL_law_825 (by decide) (fun c_2 => absurd rfl c_2) (fun c_2 => ?_)
    refine lv_iconst (v := 1) F.1 F.2.1 dL_law_828 (by decide) ?_
    refine lv_goto (tgt := 833) F.1 F.2.1 dL_law_829 (by decide) ?_
    refine lv_istore (lv' := [(17, .int 1), (0, .ref b), (1, .ref o), (2, .ref (ad 2)), (3, .ref (ad 3)), (4, .ref (ad 4)), (5, .ref (ad 5)), (6, .ref (ad 6)), (7, .ref (ad 7)), (8, .ref (ad 8)), (9, .ref (ad 9)), (10, .ref (ad 10)), (11, .int (nI t)), (12, .int v12), (13, .int u), (14, .int (nI i)), (15, .int (nI (14 * i))), (16, .int (nI v))]) F.1 F.2.1 dL_law_833 hl (by decide) rfl (fun ls hl => ?_)
    refine lv_goto (tgt := 3461) F.1 F.2.1 dL_law_835 (by decide) ?_
    refine W.widen (k := c1) (n := s1) (by omega) (by omega) ?_
    exact K _ _ ls ⟨X, Y, AD, _, _, _, _, ho, hd, hM, hY, w, R26.ups hRn (by omega)⟩ (lv_sub hl [0, 1, 2, 3, 4, 5, 6, 7, 8, 9, 10, 11, 12, 14] rfl)
  · refine lv_goto (tgt := 3461) F.1 F.2.1 dL_law_762 (by decide) ?_
    refine W.widen (k := c1) (n := s1) (by omega) (by omega) ?_
    exact K _ _ ls ⟨X, Y, AD, _, _, _, _, ho, hd, hM, hY, w, R26.ups hR (by omega)⟩ (lv_sub hl [17, 0, 1, 2, 3, 4, 5, 6, 7, 8, 9, 10, 11, 13] rfl)
set_option maxHeartbeats 4000000 in
set_option maxRecDepth 100000 in
theorem lc_suspend {p : Program} {l : Launch} {e : Env} {R : Room} {s : State} {m : MethodId} {args : Array Value} {below : List Frame} {meth : Method} {c : Code} {Q : State → Prop} {D : va_G} {cy : Nat → ClassId} {A : Nat → Prop} {o b t i v : Nat} {ad : Nat → Nat} {u v12 : Int32} {n n1 c1 s1 : Nat} {G M S : GS} {Wf : Nat → Int64} (F : CallFix p m c cL_law 40 s args BIG RL) (hlf : l.stackTraces = false) (hRm : 11 ≤ R.frames ∧ 278 ≤ R.locals ∧ c1 ≤ R.cells ∧ s1 ≤ R.slots) (h511 : n1 ≤ 511) (K : KJ p l e R s m args below meth c Q D cy A o b t ad u n1 c1 s1) (hR : R26 n G M S Wf) (hi4 : i < 4) (hi0 : gnS M = 0 ∨ i < gnS M) (hv50 : v < 50) (hv0 : gnV M = 0 ∨ v < gnV M) {X Y : MU} {AD : AM} {H : Heap} {locs : List Loc} {cells slots : Nat} (hf : cells + 30 ≤ c1 ∧ slots + 9500 ≤ s1) (hn : n + 4 ≤ n1) (ho : AD 0 0 0 = o) (hd : dis X Y) (hM : RepC cy AD G X) (hY : RepL cy ad S Wf Y) (w : WW D cy A (un X Y) s H locs) {ls : Array Slot} (hl : lv_has ls 40 [(0, .ref b), (1, .ref o), (2, .ref (ad 2)), (3, .ref (ad 3)), (4, .ref (ad 4)), (5, .ref (ad 5)), (6, .ref (ad 6)), (7, .ref (ad 7)), (8, .ref (ad 8)), (9, .ref (ad 9)), (10, .ref (ad 10)), (11, .int (nI t)), (12, .int v12), (13, .int u), (14, .int (nI i)), (15, .int (nI (14 * i))), (16, .int (nI v)), (17, .int 1)]) : W p l e R s m args below meth c H locs cells slots Q (F0 m 838 ls []) := by
  have hL := hY.un hd
  obtain ⟨t9, ht9, ht⟩ := hR.td
  have hb4 := hR.b
  have heV := hR.eV
  refine lv_iload F.1 F.2.1 dL_law_838 (lv_at hl 13 rfl) ?_
  refine lv_iconst (v := 4) F.1 F.2.1 dL_law_840 (by decide) ?_
  obtain ⟨q841, hq841, eq841⟩ := low_ok u (n := 4) (by omega) (by omega)
  refine q_rS (rest := []) F w kS_L_134 hd_L_low (c_L_low l D cy A _ u 4 (by decide)) dL_law_841 rfl rfl hl.1 ⟨rfl, rfl, (show 1 ≤ R.frames by omega), (show 21 ≤ R.locals by omega)⟩ (Nat.le_of_ble_eq_true rfl) ⟨by omega, by omega⟩ ?_
  refine lv_fold (y := nI q841) eq841 ?_
  refine lv_istore (lv' := [(20, .int (nI q841)), (0, .ref b), (1, .ref o), (2, .ref (ad 2)), (3, .ref (ad 3)), (4, .ref (ad 4)), (5, .ref (ad 5)), (6, .ref (ad 6)), (7, .ref (ad 7)), (8, .ref (ad 8)), (9, .ref (ad 9)), (10, .ref (ad 10)), (11, .int (nI t)), (12, .int v12), (13, .int u), (14, .int (nI i)), (15, .int (nI (14 * i))), (16, .int (nI v)), (17, .int 1)]) F.1 F.2.1 dL_law_844 hl (by decide) rfl (fun ls hl => ?_)
  refine lv_iload F.1 F.2.1 dL_law_846 (lv_at hl 14 rfl) ?_
  refine lv_iconst (v := 4) F.1 F.2.1 dL_law_848 (by decide) ?_
  refine lv_ishr F.1 F.2.1 dL_law_849 ?_
  refine lv_iconst (v := 3) F.1 F.2.1 dL_law_850 (by decide) ?_
  refine lv_iand F.1 F.2.1 dL_law_851 ?_
  refine lv_if_le (tgt := 859) F.1 F.2.1 dL_law_852 (by decide) (fun c_1 => ?_) (fun c_1 => ?_)
  · refine lv_iconst (v := 0) F.1 F.2.1 dL_law_859 (by decide) ?_
    refine lv_istore (lv' := [(21, .int 0), (20, .int (nI q841)), (0, .ref b), (1, .ref o), (2, .ref (ad 2)), (3, .ref (ad 3)), (4, .ref (ad 4)), (5, .ref (ad 5)), (6, .ref (ad 6)), (7, .ref (ad 7)), (8, .ref (ad 8)), (9, .ref (ad 9)), (10, .ref (ad 10)), (11, .int (nI t)), (12, .int v12), (13, .int u), (14, .int (nI i)), (15, .int (nI (14 * i))), (16, .int (nI v)), (17, .int 1)]) F.1 F.2.1 dL_law_860 hl (by decide) rfl (fun ls hl => ?_)
    refine lv_aload_n F.1 F.2.1 dL_law_862 rfl (lv_at hl 3 rfl) ?_
    refine lv_iload F.1 F.2.1 dL_law_863 (lv_at hl 1 rfl) ?_
    refine lv_iload F.1 F.2.1 dL_law_865 (lv_at hl 0 rfl) ?_
    refine lv_if_ne (tgt := 874) F.1 F.2.1 dL_law_867 (by decide) (fun c_2 => absurd rfl c_2) (fun c_2 => ?_)
    refine lv_iconst (v := 1) F.1 F.2.1 dL_law_870 (by decide) ?_
    refine lv_goto (tgt := 875) F.1 F.2.1 dL_law_871 (by decide) ?_
    refine lw_suspend (rest := []) F w hd hM ho hR.r.ic (nI q841) 1 (by decide) hlf dL_law_875 hl.1 ⟨by omega, by omega⟩ (Nat.le_of_ble_eq_true rfl) ⟨by omega, by omega⟩ (fun v875 X AD H locs hv875 ho hd hM w => ?_)
    have hL := hY.un hd
    refine lv_fold (y := ((S 10 7) >>> ((nI q841) &&& 31)) &&& 1) (hv875.trans (su_a hR hq841 (Or.inr rfl))) ?_
    refine lv_aload F.1 F.2.1 dL_law_878 (lv_at hl 12 rfl) ?_
    refine lv_bipush (v := 7) F.1 F.2.1 dL_law_880 (by decide) ?_
    refine l_ild F w hL 10 rfl 7 (show 7 < 9 by omega) dL_law_882 ?_
    refine lv_iload F.1 F.2.1 dL_law_883 (lv_at hl 1 rfl) ?_
    refine lv_ishr F.1 F.2.1 dL_law_885 ?_
    refine lv_iconst (v := 1) F.1 F.2.1 dL_law_886 (by decide) ?_
    refine lv_iand F.1 F.2.1 dL_law_887 ?_
    refine lv_icmp_ne (tgt := 895) F.1 F.2.1 dL_law_888 (by decide) (fun c_3 => absurd rfl c_3) (fun c_3 => ?_)
    refine lv_iconst (v := 1) F.1 F.2.1 dL_law_891 (by decide) ?_
    refine lv_goto (tgt := 896) F.1 F.2.1 dL_law_892 (by decide) ?_
    refine lv_istore (lv' := [(17, .int 1), (21, .int 0), (20, .int (nI q841)), (0, .ref b), (1, .ref o), (2, .ref (ad 2)), (3, .ref (ad 3)), (4, .ref (ad 4)), (5, .ref (ad 5)), (6, .ref (ad 6)), (7, .ref (ad 7)), (8, .ref (ad 8)), (9, .ref (ad 9)), (10, .ref (ad 10)), (11, .int (nI t)), (12, .int v12), (13, .int u), (14, .int (nI i)), (15, .int (nI (14 * i))), (16, .int (nI v))]) F.1 F.2.1 dL_law_896 hl (by decide) rfl (fun ls hl => ?_)
    refine lv_aload F.1 F.2.1 dL_law_898 (lv_at hl 13 rfl) ?_
    refine lv_bipush (v := 7) F.1 F.2.1 dL_law_900 (by decide) ?_
    refine lv_iload F.1 F.2.1 dL_law_902 (lv_at hl 1 rfl) ?_
    refine lv_if_eq (tgt := 922) F.1 F.2.1 dL_law_904 (by decide) (fun c_4 => ?_) (fun c_4 => absurd rfl c_4)
    refine lv_aload F.1 F.2.1 dL_law_922 (lv_at hl 13 rfl) ?_
    refine lv_bipush (v := 7) F.1 F.2.1 dL_law_924 (by decide) ?_
    refine l_ild F w hL 10 rfl 7 (show 7 < 9 by omega) dL_law_926 ?_
    refine lv_iconst (v := 1) F.1 F.2.1 dL_law_927 (by decide) ?_
    refine lv_iload F.1 F.2.1 dL_law_928 (lv_at hl 2 rfl) ?_
    refine lv_ishl F.1 F.2.1 dL_law_930 ?_
    refine lv_ior F.1 F.2.1 dL_law_931 ?_
    refine l_ist F w hd hY 10 rfl 7 (show 7 < 9 by omega) dL_law_932 (fun H locs Y hd hY w => ?_)
    have hL := hY.un hd
    refine lv_goto (tgt := 3461) F.1 F.2.1 dL_law_933 (by decide) ?_
    refine W.widen (k := c1) (n := s1) (by omega) (by omega) ?_
    exact K _ _ ls ⟨X, Y, AD, _, _, _, _, ho, hd, hM, hY, w, R26.ups (su_1 hR hq841) (by omega)⟩ (lv_sub hl [0, 3, 4, 5, 6, 7, 8, 9, 10, 11, 12, 13, 14, 16] rfl)
  · refine lv_iconst (v := 1) F.1 F.2.1 dL_law_855 (by decide) ?_
    refine lv_goto (tgt := 860) F.1 F.2.1 dL_law_856 (by decide) ?_
    refine lv_istore (lv' := [(21, .int 1), (20, .int (nI q841)), (0, .ref b), (1, .ref o), (2, .ref (ad 2)), (3, .ref (ad 3)), (4, .ref (ad 4)), (5, .ref (ad 5)), (6, .ref (ad 6)), (7, .ref (ad 7)), (8, .ref (ad 8)), (9, .ref (ad 9)), (10, .ref (ad 10)), (11, .int (nI t)), (12, .int v12), (13, .int u), (14, .int (nI i)), (15, .int (nI (14 * i))), (16, .int (nI v)), (17, .int 1)]) F.1 F.2.1 dL_law_860 hl (by decide) rfl (fun ls hl => ?_)
    refine lv_aload_n F.1 F.2.1 dL_law_862 rfl (lv_at hl 3 rfl) ?_
    refine lv_iload F.1 F.2.1 dL_law_863 (lv_at hl 1 rfl) ?_
    refine lv_iload F.1 F.2.1 dL_law_865 (lv_at hl 0 rfl) ?_
    refine lv_if_ne (tgt := 874) F.1 F.2.1 dL_law_867 (by decide) (fun c_5 => ?_) (fun c_5 => absurd c_5 (by decide))
    refine lv_iconst (v := 0) F.1 F.2.1 dL_law_874 (by decide) ?_
    refine lw_suspend (rest := []) F w hd hM ho hR.r.ic (nI q841) 0 (by decide) hlf dL_law_875 hl.1 ⟨by omega, by omega⟩ (Nat.le_of_ble_eq_true rfl) ⟨by omega, by omega⟩ (fun v875 X AD H locs hv875 ho hd hM w => ?_)
    have hL := hY.un hd
    refine lv_fold (y := ((S 10 7) >>> ((nI q841) &&& 31)) &&& 1) (hv875.trans (su_a hR hq841 (Or.inl rfl))) ?_
    refine lv_aload F.1 F.2.1 dL_law_878 (lv_at hl 12 rfl) ?_
    refine lv_bipush (v := 7) F.1 F.2.1 dL_law_880 (by decide) ?_
    refine l_ild F w hL 10 rfl 7 (show 7 < 9 by omega) dL_law_882 ?_
    refine lv_iload F.1 F.2.1 dL_law_883 (lv_at hl 1 rfl) ?_
    refine lv_ishr F.1 F.2.1 dL_law_885 ?_
    refine lv_iconst (v := 1) F.1 F.2.1 dL_law_886 (by decide) ?_
    refine lv_iand F.1 F.2.1 dL_law_887 ?_
    refine lv_icmp_ne (tgt := 895) F.1 F.2.1 dL_law_888 (by decide) (fun c_6 => absurd rfl c_6) (fun c_6 => ?_)
    refine lv_iconst (v := 1) F.1 F.2.1 dL_law_891 (by decide) ?_
    refine lv_goto (tgt := 896) F.1 F.2.1 dL_law_892 (by decide) ?_
    refine lv_istore (lv' := [(17, .int 1), (21, .int 1), (20, .int (nI q841)), (0, .ref b), (1, .ref o), (2, .ref (ad 2)), (3, .ref (ad 3)), (4, .ref (ad 4)), (5, .ref (ad 5)), (6, .ref (ad 6)), (7, .ref (ad 7)), (8, .ref (ad 8)), (9, .ref (ad 9)), (10, .ref (ad 10)), (11, .int (nI t)), (12, .int v12), (13, .int u), (14, .int (nI i)), (15, .int (nI (14 * i))), (16, .int (nI v))]) F.1 F.2.1 dL_law_896 hl (by decide) rfl (fun ls hl => ?_)
    refine lv_aload F.1 F.2.1 dL_law_898 (lv_at hl 13 rfl) ?_
    refine lv_bipush (v := 7) F.1 F.2.1 dL_law_900 (by decide) ?_
    refine lv_iload F.1 F.2.1 dL_law_902 (lv_at hl 1 rfl) ?_
    refine lv_if_eq (tgt := 922) F.1 F.2.1 dL_law_904 (by decide) (fun c_7 => absurd c_7 (by decide)) (fun c_7 => ?_)
    refine lv_aload F.1 F.2.1 dL_law_907 (lv_at hl 13 rfl) ?_
    refine lv_bipush (v := 7) F.1 F.2.1 dL_law_909 (by decide) ?_
    refine l_ild F w hL 10 rfl 7 (show 7 < 9 by omega) dL_law_911 ?_
    refine lv_iconst (v := 1) F.1 F.2.1 dL_law_912 (by decide) ?_
    refine lv_iload F.1 F.2.1 dL_law_913 (lv_at hl 2 rfl) ?_
    refine lv_ishl F.1 F.2.1 dL_law_915 ?_
    refine lv_iconst (v := -1) F.1 F.2.1 dL_law_916 (by decide) ?_
    refine lv_ixor F.1 F.2.1 dL_law_917 ?_
    refine lv_iand F.1 F.2.1 dL_law_918 ?_
    refine lv_goto (tgt := 932) F.1 F.2.1 dL_law_919 (by decide) ?_
    refine l_ist F w hd hY 10 rfl 7 (show 7 < 9 by omega) dL_law_932 (fun H locs Y hd hY w => ?_)
    have hL := hY.un hd
    refine lv_goto (tgt := 3461) F.1 F.2.1 dL_law_933 (by decide) ?_
    refine W.widen (k := c1) (n := s1) (by omega) (by omega) ?_
    exact K _ _ ls ⟨X, Y, AD, _, _, _, _, ho, hd, hM, hY, w, R26.ups (su_0 hR hq841) (by omega)⟩ (lv_sub hl [0, 3, 4, 5, 6, 7, 8, 9, 10, 11, 12, 13, 14, 16] rfl)
set_option maxHeartbeats 4000000 in
set_option maxRecDepth 100000 in
theorem lc_calls {p : Program} {l : Launch} {e : Env} {R : Room} {s : State} {m : MethodId} {args : Array Value} {below : List Frame} {meth : Method} {c : Code} {Q : State → Prop} {D : va_G} {cy : Nat → ClassId} {A : Nat → Prop} {o b t i v : Nat} {ad : Nat → Nat} {u v12 : Int32} {n n1 c1 s1 : Nat} {G M S : GS} {Wf : Nat → Int64} (F : CallFix p m c cL_law 40 s args BIG RL) (hlf : l.stackTraces = false) (hRm : 11 ≤ R.frames ∧ 278 ≤ R.locals ∧ c1 ≤ R.cells ∧ s1 ≤ R.slots) (h511 : n1 ≤ 511) (K : KJ p l e R s m args below meth c Q D cy A o b t ad u n1 c1 s1) (hR : R26 n G M S Wf) (hi4 : i < 4) (hi0 : gnS M = 0 ∨ i < gnS M) (hv50 : v < 50) (hv0 : gnV M = 0 ∨ v < gnV M) {X Y : MU} {AD : AM} {H : Heap} {locs : List Loc} {cells slots : Nat} (hf : cells + 30 ≤ c1 ∧ slots + 9500 ≤ s1) (hn : n + 4 ≤ n1) (ho : AD 0 0 0 = o) (hd : dis X Y) (hM : RepC cy AD G X) (hY : RepL cy ad S Wf Y) (w : WW D cy A (un X Y) s H locs) {ls : Array Slot} (hl : lv_has ls 40 [(0, .ref b), (1, .ref o), (2, .ref (ad 2)), (3, .ref (ad 3)), (4, .ref (ad 4)), (5, .ref (ad 5)), (6, .ref (ad 6)), (7, .ref (ad 7)), (8, .ref (ad 8)), (9, .ref (ad 9)), (10, .ref (ad 10)), (11, .int (nI t)), (12, .int v12), (13, .int u), (14, .int (nI i)), (15, .int (nI (14 * i))), (16, .int (nI v)), (17, .int 1)]) : W p l e R s m args below meth c H locs cells slots Q (F0 m 1394 ls []) := by
  have hL := hY.un hd
  obtain ⟨t9, ht9, ht⟩ := hR.td
  have hb4 := hR.b
  have heV := hR.eV
  refine lv_aload F.1 F.2.1 dL_law_1394 (lv_at hl 10 rfl) ?_
  refine lv_bipush (v := 8) F.1 F.2.1 dL_law_1396 (by decide) ?_
  refine l_ild F w hL 10 rfl 8 (show 8 < 9 by omega) dL_law_1398 ?_
  refine lv_if_ne (tgt := 1405) F.1 F.2.1 dL_law_1399 (by decide) (fun c_1 => ?_) (fun c_1 => ?_)
  · have hi := si_ok hR hi0 c_1
    refine lv_iload F.1 F.2.1 dL_law_1405 (lv_at hl 13 rfl) ?_
    refine lv_iconst (v := 4) F.1 F.2.1 dL_law_1407 (by decide) ?_
    obtain ⟨q1408, hq1408, eq1408⟩ := low_ok u (n := 4) (by omega) (by omega)
    refine q_rS (rest := []) F w kS_L_134 hd_L_low (c_L_low l D cy A _ u 4 (by decide)) dL_law_1408 rfl rfl hl.1 ⟨rfl, rfl, (show 1 ≤ R.frames by omega), (show 21 ≤ R.locals by omega)⟩ (Nat.le_of_ble_eq_true rfl) ⟨by omega, by omega⟩ ?_
    refine lv_fold (y := nI q1408) eq1408 ?_
    refine lv_istore (lv' := [(22, .int (nI q1408)), (0, .ref b), (1, .ref o), (2, .ref (ad 2)), (3, .ref (ad 3)), (4, .ref (ad 4)), (5, .ref (ad 5)), (6, .ref (ad 6)), (7, .ref (ad 7)), (8, .ref (ad 8)), (9, .ref (ad 9)), (10, .ref (ad 10)), (11, .int (nI t)), (12, .int v12), (13, .int u), (14, .int (nI i)), (15, .int (nI (14 * i))), (16, .int (nI v)), (17, .int 1)]) F.1 F.2.1 dL_law_1411 hl (by decide) rfl (fun ls hl => ?_)
    refine lv_aload_n F.1 F.2.1 dL_law_1413 rfl (lv_at hl 3 rfl) ?_
    refine lv_iload F.1 F.2.1 dL_law_1414 (lv_at hl 16 rfl) ?_
    refine lv_bipush (v := 6) F.1 F.2.1 dL_law_1416 (by decide) ?_
    refine lv_iadd F.1 F.2.1 dL_law_1418 ?_
    refine lv_fold (y := nI ((14 * i) + 6)) (nI_add (14 * i) 6) ?_
    refine l_ild F w hL 2 rfl ((14 * i) + 6) (show (14 * i) + 6 < 56 by omega) dL_law_1419 ?_
    refine lv_iconst (v := -1) F.1 F.2.1 dL_law_1420 (by decide) ?_
    refine lv_icmp_ne (tgt := 1442) F.1 F.2.1 dL_law_1421 (by decide) (fun c_2 => ?_) (fun c_2 => ?_)
    · refine lv_iconst (v := 0) F.1 F.2.1 dL_law_1442 (by decide) ?_
      refine lv_istore (lv' := [(23, .int 0), (22, .int (nI q1408)), (0, .ref b), (1, .ref o), (2, .ref (ad 2)), (3, .ref (ad 3)), (4, .ref (ad 4)), (5, .ref (ad 5)), (6, .ref (ad 6)), (7, .ref (ad 7)), (8, .ref (ad 8)), (9, .ref (ad 9)), (10, .ref (ad 10)), (11, .int (nI t)), (12, .int v12), (13, .int u), (14, .int (nI i)), (15, .int (nI (14 * i))), (16, .int (nI v)), (17, .int 1)]) F.1 F.2.1 dL_law_1443 hl (by decide) rfl (fun ls hl => ?_)
      refine lv_aload_n F.1 F.2.1 dL_law_1445 rfl (lv_at hl 3 rfl) ?_
      refine lv_iload F.1 F.2.1 dL_law_1446 (lv_at hl 16 rfl) ?_
      refine lv_iload F.1 F.2.1 dL_law_1448 (lv_at hl 1 rfl) ?_
      refine lw_calls (rest := []) F w hd hM ho hR.r.ic (nI i) (nI q1408) hlf dL_law_1450 hl.1 ⟨by omega, by omega⟩ (Nat.le_of_ble_eq_true rfl) ⟨by omega, by omega⟩ (fun v1450 X AD H locs hv1450 ho hd hM w => ?_)
      have hL := hY.un hd
      refine lv_fold (y := (-7300)) (hv1450.trans ((cl_no hR hi hq1408 (Or.inl c_2)).1)) ?_
      refine lv_iload F.1 F.2.1 dL_law_1453 (lv_at hl 0 rfl) ?_
      refine lv_if_eq (tgt := 1475) F.1 F.2.1 dL_law_1455 (by decide) (fun c_3 => ?_) (fun c_3 => absurd rfl c_3)
      refine lv_sipush (v := -7300) F.1 F.2.1 dL_law_1475 (by decide) ?_
      refine lv_icmp_ne (tgt := 1485) F.1 F.2.1 dL_law_1478 (by decide) (fun c_4 => absurd rfl c_4) (fun c_4 => ?_)
      refine lv_iconst (v := 1) F.1 F.2.1 dL_law_1481 (by decide) ?_
      refine lv_goto (tgt := 1486) F.1 F.2.1 dL_law_1482 (by decide) ?_
      refine lv_istore (lv' := [(17, .int 1), (23, .int 0), (22, .int (nI q1408)), (0, .ref b), (1, .ref o), (2, .ref (ad 2)), (3, .ref (ad 3)), (4, .ref (ad 4)), (5, .ref (ad 5)), (6, .ref (ad 6)), (7, .ref (ad 7)), (8, .ref (ad 8)), (9, .ref (ad 9)), (10, .ref (ad 10)), (11, .int (nI t)), (12, .int v12), (13, .int u), (14, .int (nI i)), (15, .int (nI (14 * i))), (16, .int (nI v))]) F.1 F.2.1 dL_law_1486 hl (by decide) rfl (fun ls hl => ?_)
      refine lv_iload F.1 F.2.1 dL_law_1488 (lv_at hl 1 rfl) ?_
      refine lv_if_ne (tgt := 1496) F.1 F.2.1 dL_law_1490 (by decide) (fun c_5 => absurd rfl c_5) (fun c_5 => ?_)
      refine lv_goto (tgt := 3461) F.1 F.2.1 dL_law_1493 (by decide) ?_
      rw [(cl_no hR hi hq1408 (Or.inl c_2)).2] at hM
      refine W.widen (k := c1) (n := s1) (by omega) (by omega) ?_
      exact K _ _ ls ⟨X, Y, AD, _, _, _, _, ho, hd, hM, hY, w, R26.ups hR (by omega)⟩ (lv_sub hl [0, 3, 4, 5, 6, 7, 8, 9, 10, 11, 12, 13, 14, 16] rfl)
    · refine lv_aload_n F.1 F.2.1 dL_law_1424 rfl (lv_at hl 3 rfl) ?_
      refine lv_iload F.1 F.2.1 dL_law_1425 (lv_at hl 16 rfl) ?_
      refine lv_bipush (v := 12) F.1 F.2.1 dL_law_1427 (by decide) ?_
      refine lv_iadd F.1 F.2.1 dL_law_1429 ?_
      refine lv_fold (y := nI ((14 * i) + 12)) (nI_add (14 * i) 12) ?_
      refine l_ild F w hL 2 rfl ((14 * i) + 12) (show (14 * i) + 12 < 56 by omega) dL_law_1430 ?_
      refine lv_aload F.1 F.2.1 dL_law_1431 (lv_at hl 11 rfl) ?_
      refine lv_iconst (v := 0) F.1 F.2.1 dL_law_1433 (by decide) ?_
      refine l_ild F w hL 10 rfl 0 (show 0 < 9 by omega) dL_law_1434 ?_
      refine lv_icmp_ge (tgt := 1442) F.1 F.2.1 dL_law_1435 (by decide) (fun c_6 => ?_) (fun c_6 => ?_)
      · refine lv_iconst (v := 0) F.1 F.2.1 dL_law_1442 (by decide) ?_
        refine lv_istore (lv' := [(23, .int 0), (22, .int (nI q1408)), (0, .ref b), (1, .ref o), (2, .ref (ad 2)), (3, .ref (ad 3)), (4, .ref (ad 4)), (5, .ref (ad 5)), (6, .ref (ad 6)), (7, .ref (ad 7)), (8, .ref (ad 8)), (9, .ref (ad 9)), (10, .ref (ad 10)), (11, .int (nI t)), (12, .int v12), (13, .int u), (14, .int (nI i)), (15, .int (nI (14 * i))), (16, .int (nI v)), (17, .int 1)]) F.1 F.2.1 dL_law_1443 hl (by decide) rfl (fun ls hl => ?_)
        refine lv_aload_n F.1 F.2.1 dL_law_1445 rfl (lv_at hl 3 rfl) ?_
        refine lv_iload F.1 F.2.1 dL_law_1446 (lv_at hl 16 rfl) ?_
        refine lv_iload F.1 F.2.1 dL_law_1448 (lv_at hl 1 rfl) ?_
        refine lw_calls (rest := []) F w hd hM ho hR.r.ic (nI i) (nI q1408) hlf dL_law_1450 hl.1 ⟨by omega, by omega⟩ (Nat.le_of_ble_eq_true rfl) ⟨by omega, by omega⟩ (fun v1450 X AD H locs hv1450 ho hd hM w => ?_)
        have hL := hY.un hd
        refine lv_fold (y := (-7300)) (hv1450.trans ((cl_no hR hi hq1408 (Or.inr c_6)).1)) ?_
        refine lv_iload F.1 F.2.1 dL_law_1453 (lv_at hl 0 rfl) ?_
        refine lv_if_eq (tgt := 1475) F.1 F.2.1 dL_law_1455 (by decide) (fun c_7 => ?_) (fun c_7 => absurd rfl c_7)
        refine lv_sipush (v := -7300) F.1 F.2.1 dL_law_1475 (by decide) ?_
        refine lv_icmp_ne (tgt := 1485) F.1 F.2.1 dL_law_1478 (by decide) (fun c_8 => absurd rfl c_8) (fun c_8 => ?_)
        refine lv_iconst (v := 1) F.1 F.2.1 dL_law_1481 (by decide) ?_
        refine lv_goto (tgt := 1486) F.1 F.2.1 dL_law_1482 (by decide) ?_
        refine lv_istore (lv' := [(17, .int 1), (23, .int 0), (22, .int (nI q1408)), (0, .ref b), (1, .ref o), (2, .ref (ad 2)), (3, .ref (ad 3)), (4, .ref (ad 4)), (5, .ref (ad 5)), (6, .ref (ad 6)), (7, .ref (ad 7)), (8, .ref (ad 8)), (9, .ref (ad 9)), (10, .ref (ad 10)), (11, .int (nI t)), (12, .int v12), (13, .int u), (14, .int (nI i)), (15, .int (nI (14 * i))), (16, .int (nI v))]) F.1 F.2.1 dL_law_1486 hl (by decide) rfl (fun ls hl => ?_)
        refine lv_iload F.1 F.2.1 dL_law_1488 (lv_at hl 1 rfl) ?_
        refine lv_if_ne (tgt := 1496) F.1 F.2.1 dL_law_1490 (by decide) (fun c_9 => absurd rfl c_9) (fun c_9 => ?_)
        refine lv_goto (tgt := 3461) F.1 F.2.1 dL_law_1493 (by decide) ?_
        rw [(cl_no hR hi hq1408 (Or.inr c_6)).2] at hM
        refine W.widen (k := c1) (n := s1) (by omega) (by omega) ?_
        exact K _ _ ls ⟨X, Y, AD, _, _, _, _, ho, hd, hM, hY, w, R26.ups hR (by omega)⟩ (lv_sub hl [0, 3, 4, 5, 6, 7, 8, 9, 10, 11, 12, 13, 14, 16] rfl)
      · refine lv_iconst (v := 1) F.1 F.2.1 dL_law_1438 (by decide) ?_
        refine lv_goto (tgt := 1443) F.1 F.2.1 dL_law_1439 (by decide) ?_
        refine lv_istore (lv' := [(23, .int 1), (22, .int (nI q1408)), (0, .ref b), (1, .ref o), (2, .ref (ad 2)), (3, .ref (ad 3)), (4, .ref (ad 4)), (5, .ref (ad 5)), (6, .ref (ad 6)), (7, .ref (ad 7)), (8, .ref (ad 8)), (9, .ref (ad 9)), (10, .ref (ad 10)), (11, .int (nI t)), (12, .int v12), (13, .int u), (14, .int (nI i)), (15, .int (nI (14 * i))), (16, .int (nI v)), (17, .int 1)]) F.1 F.2.1 dL_law_1443 hl (by decide) rfl (fun ls hl => ?_)
        refine lv_aload_n F.1 F.2.1 dL_law_1445 rfl (lv_at hl 3 rfl) ?_
        refine lv_iload F.1 F.2.1 dL_law_1446 (lv_at hl 16 rfl) ?_
        refine lv_iload F.1 F.2.1 dL_law_1448 (lv_at hl 1 rfl) ?_
        refine lw_calls (rest := []) F w hd hM ho hR.r.ic (nI i) (nI q1408) hlf dL_law_1450 hl.1 ⟨by omega, by omega⟩ (Nat.le_of_ble_eq_true rfl) ⟨by omega, by omega⟩ (fun v1450 X AD H locs hv1450 ho hd hM w => ?_)
        have hL := hY.un hd
        refine lv_fold (y := f_L_priority S i) (hv1450.trans ((cl_ok hR hi hq1408 c_2 c_6).1)) ?_
        refine lv_iload F.1 F.2.1 dL_law_1453 (lv_at hl 0 rfl) ?_
        refine lv_if_eq (tgt := 1475) F.1 F.2.1 dL_law_1455 (by decide) (fun c_10 => absurd c_10 (by decide)) (fun c_10 => ?_)
        refine lv_iload F.1 F.2.1 dL_law_1458 (lv_at hl 16 rfl) ?_
        refine lv_aload_n F.1 F.2.1 dL_law_1460 rfl (lv_at hl 4 rfl) ?_
        refine lv_aload F.1 F.2.1 dL_law_1461 (lv_at hl 7 rfl) ?_
        refine lv_aload F.1 F.2.1 dL_law_1463 (lv_at hl 8 rfl) ?_
        refine lv_aload F.1 F.2.1 dL_law_1465 (lv_at hl 9 rfl) ?_
        refine lv_aload F.1 F.2.1 dL_law_1467 (lv_at hl 12 rfl) ?_
        refine q_rS (rest := [.int (f_L_priority S i)]) F w kS_L_127 hd_L_priority (c_L_priority l D cy A _ ad S Wf hL i (show i < 4 by omega) hR.hV (hR.la hi)) dL_law_1469 rfl rfl hl.1 ⟨rfl, rfl, (show 6 ≤ R.frames by omega), (show 155 ≤ R.locals by omega)⟩ (Nat.le_of_ble_eq_true rfl) ⟨by omega, by omega⟩ ?_
        refine lv_goto (tgt := 1478) F.1 F.2.1 dL_law_1472 (by decide) ?_
        refine lv_icmp_ne (tgt := 1485) F.1 F.2.1 dL_law_1478 (by decide) (fun c_11 => absurd rfl c_11) (fun c_11 => ?_)
        refine lv_iconst (v := 1) F.1 F.2.1 dL_law_1481 (by decide) ?_
        refine lv_goto (tgt := 1486) F.1 F.2.1 dL_law_1482 (by decide) ?_
        refine lv_istore (lv' := [(17, .int 1), (23, .int 1), (22, .int (nI q1408)), (0, .ref b), (1, .ref o), (2, .ref (ad 2)), (3, .ref (ad 3)), (4, .ref (ad 4)), (5, .ref (ad 5)), (6, .ref (ad 6)), (7, .ref (ad 7)), (8, .ref (ad 8)), (9, .ref (ad 9)), (10, .ref (ad 10)), (11, .int (nI t)), (12, .int v12), (13, .int u), (14, .int (nI i)), (15, .int (nI (14 * i))), (16, .int (nI v))]) F.1 F.2.1 dL_law_1486 hl (by decide) rfl (fun ls hl => ?_)
        refine lv_iload F.1 F.2.1 dL_law_1488 (lv_at hl 1 rfl) ?_
        refine lv_if_ne (tgt := 1496) F.1 F.2.1 dL_law_1490 (by decide) (fun c_12 => ?_) (fun c_12 => absurd c_12 (by decide))
        refine lv_aload_n F.1 F.2.1 dL_law_1496 rfl (lv_at hl 5 rfl) ?_
        refine lv_iload F.1 F.2.1 dL_law_1497 (lv_at hl 18 rfl) ?_
        refine lv_bipush (v := 6) F.1 F.2.1 dL_law_1499 (by decide) ?_
        refine lv_iadd F.1 F.2.1 dL_law_1501 ?_
        refine lv_fold (y := nI ((14 * i) + 6)) (nI_add (14 * i) 6) ?_
        refine lv_iload F.1 F.2.1 dL_law_1502 (lv_at hl 2 rfl) ?_
        refine l_ist F w hd hY 2 rfl ((14 * i) + 6) (show (14 * i) + 6 < 56 by omega) dL_law_1504 (fun H locs Y hd hY w => ?_)
        have hL := hY.un hd
        refine lv_aload_n F.1 F.2.1 dL_law_1505 rfl (lv_at hl 5 rfl) ?_
        refine lv_iload F.1 F.2.1 dL_law_1506 (lv_at hl 18 rfl) ?_
        refine lv_bipush (v := 7) F.1 F.2.1 dL_law_1508 (by decide) ?_
        refine lv_iadd F.1 F.2.1 dL_law_1510 ?_
        refine lv_fold (y := nI ((14 * i) + 7)) (nI_add (14 * i) 7) ?_
        refine lv_iconst (v := -1) F.1 F.2.1 dL_law_1511 (by decide) ?_
        refine l_ist F w hd hY 2 rfl ((14 * i) + 7) (show (14 * i) + 7 < 56 by omega) dL_law_1512 (fun H locs Y hd hY w => ?_)
        have hL := hY.un hd
        refine lv_goto (tgt := 3461) F.1 F.2.1 dL_law_1513 (by decide) ?_
        refine W.widen (k := c1) (n := s1) (by omega) (by omega) ?_
        exact K _ _ ls ⟨X, Y, AD, _, _, _, _, ho, hd, hM, hY, w, R26.ups ((cl_ok hR hi hq1408 c_2 c_6).2) (by omega)⟩ (lv_sub hl [0, 3, 4, 5, 6, 7, 8, 9, 10, 11, 12, 13, 14, 16] rfl)
  · refine lv_goto (tgt := 3461) F.1 F.2.1 dL_law_1402 (by decide) ?_
    refine W.widen (k := c1) (n := s1) (by omega) (by omega) ?_
    exact K _ _ ls ⟨X, Y, AD, _, _, _, _, ho, hd, hM, hY, w, R26.ups hR (by omega)⟩ (lv_sub hl [17, 0, 1, 2, 3, 4, 5, 6, 7, 8, 9, 10, 11, 13] rfl)
set_option maxHeartbeats 4000000 in
set_option maxRecDepth 100000 in
theorem lc_leaves {p : Program} {l : Launch} {e : Env} {R : Room} {s : State} {m : MethodId} {args : Array Value} {below : List Frame} {meth : Method} {c : Code} {Q : State → Prop} {D : va_G} {cy : Nat → ClassId} {A : Nat → Prop} {o b t i v : Nat} {ad : Nat → Nat} {u v12 : Int32} {n n1 c1 s1 : Nat} {G M S : GS} {Wf : Nat → Int64} (F : CallFix p m c cL_law 40 s args BIG RL) (hlf : l.stackTraces = false) (hRm : 11 ≤ R.frames ∧ 278 ≤ R.locals ∧ c1 ≤ R.cells ∧ s1 ≤ R.slots) (h511 : n1 ≤ 511) (K : KJ p l e R s m args below meth c Q D cy A o b t ad u n1 c1 s1) (hR : R26 n G M S Wf) (hi4 : i < 4) (hi0 : gnS M = 0 ∨ i < gnS M) (hv50 : v < 50) (hv0 : gnV M = 0 ∨ v < gnV M) {X Y : MU} {AD : AM} {H : Heap} {locs : List Loc} {cells slots : Nat} (hf : cells + 30 ≤ c1 ∧ slots + 9500 ≤ s1) (hn : n + 4 ≤ n1) (ho : AD 0 0 0 = o) (hd : dis X Y) (hM : RepC cy AD G X) (hY : RepL cy ad S Wf Y) (w : WW D cy A (un X Y) s H locs) {ls : Array Slot} (hl : lv_has ls 40 [(0, .ref b), (1, .ref o), (2, .ref (ad 2)), (3, .ref (ad 3)), (4, .ref (ad 4)), (5, .ref (ad 5)), (6, .ref (ad 6)), (7, .ref (ad 7)), (8, .ref (ad 8)), (9, .ref (ad 9)), (10, .ref (ad 10)), (11, .int (nI t)), (12, .int v12), (13, .int u), (14, .int (nI i)), (15, .int (nI (14 * i))), (16, .int (nI v)), (17, .int 1)]) : W p l e R s m args below meth c H locs cells slots Q (F0 m 1516 ls []) := by
  have hL := hY.un hd
  obtain ⟨t9, ht9, ht⟩ := hR.td
  have hb4 := hR.b
  have heV := hR.eV
  refine lv_aload F.1 F.2.1 dL_law_1516 (lv_at hl 10 rfl) ?_
  refine lv_bipush (v := 8) F.1 F.2.1 dL_law_1518 (by decide) ?_
  refine l_ild F w hL 10 rfl 8 (show 8 < 9 by omega) dL_law_1520 ?_
  refine lv_if_ne (tgt := 1527) F.1 F.2.1 dL_law_1521 (by decide) (fun c_1 => ?_) (fun c_1 => ?_)
  · have hi := si_ok hR hi0 c_1
    refine lv_aload_n F.1 F.2.1 dL_law_1527 rfl (lv_at hl 2 rfl) ?_
    refine lv_iload F.1 F.2.1 dL_law_1528 (lv_at hl 15 rfl) ?_
    refine lv_bipush (v := 6) F.1 F.2.1 dL_law_1530 (by decide) ?_
    refine lv_iadd F.1 F.2.1 dL_law_1532 ?_
    refine lv_fold (y := nI ((14 * i) + 6)) (nI_add (14 * i) 6) ?_
    refine l_ild F w hL 2 rfl ((14 * i) + 6) (show (14 * i) + 6 < 56 by omega) dL_law_1533 ?_
    refine lv_iconst (v := -1) F.1 F.2.1 dL_law_1534 (by decide) ?_
    refine lv_icmp_eq (tgt := 1553) F.1 F.2.1 dL_law_1535 (by decide) (fun c_2 => ?_) (fun c_2 => ?_)
    · refine lv_iconst (v := 0) F.1 F.2.1 dL_law_1553 (by decide) ?_
      refine lv_istore (lv' := [(24, .int 0), (0, .ref b), (1, .ref o), (2, .ref (ad 2)), (3, .ref (ad 3)), (4, .ref (ad 4)), (5, .ref (ad 5)), (6, .ref (ad 6)), (7, .ref (ad 7)), (8, .ref (ad 8)), (9, .ref (ad 9)), (10, .ref (ad 10)), (11, .int (nI t)), (12, .int v12), (13, .int u), (14, .int (nI i)), (15, .int (nI (14 * i))), (16, .int (nI v)), (17, .int 1)]) F.1 F.2.1 dL_law_1554 hl (by decide) rfl (fun ls hl => ?_)
      refine lv_iload F.1 F.2.1 dL_law_1556 (lv_at hl 0 rfl) ?_
      refine lv_if_eq (tgt := 1594) F.1 F.2.1 dL_law_1558 (by decide) (fun c_3 => ?_) (fun c_3 => absurd rfl c_3)
      refine lv_iconst (v := 0) F.1 F.2.1 dL_law_1594 (by decide) ?_
      refine lv_istore (lv' := [(25, .int 0), (24, .int 0), (0, .ref b), (1, .ref o), (2, .ref (ad 2)), (3, .ref (ad 3)), (4, .ref (ad 4)), (5, .ref (ad 5)), (6, .ref (ad 6)), (7, .ref (ad 7)), (8, .ref (ad 8)), (9, .ref (ad 9)), (10, .ref (ad 10)), (11, .int (nI t)), (12, .int v12), (13, .int u), (14, .int (nI i)), (15, .int (nI (14 * i))), (16, .int (nI v)), (17, .int 1)]) F.1 F.2.1 dL_law_1595 hl (by decide) rfl (fun ls hl => ?_)
      refine lv_aload_n F.1 F.2.1 dL_law_1597 rfl (lv_at hl 3 rfl) ?_
      refine lv_iload F.1 F.2.1 dL_law_1598 (lv_at hl 16 rfl) ?_
      refine lw_leaves (rest := []) F w hd hM ho hR.r.ic (nI i) (fun s9 _ => (R9.rf _ _ _ hR.r).2.2.2.1 s9 (by assumption)) hlf dL_law_1600 hl.1 ⟨by omega, by omega⟩ (Nat.le_of_ble_eq_true rfl) ⟨by omega, by omega⟩ (fun v1600 X AD H locs hv1600 ho hd hM w => ?_)
      have hL := hY.un hd
      refine lv_fold (y := (-7300)) (hv1600.trans ((lv_no9 hR hi (Or.inl c_2)).1)) ?_
      refine lv_iload F.1 F.2.1 dL_law_1603 (lv_at hl 1 rfl) ?_
      refine lv_if_ne (tgt := 1614) F.1 F.2.1 dL_law_1605 (by decide) (fun c_4 => absurd rfl c_4) (fun c_4 => ?_)
      refine lv_sipush (v := -7300) F.1 F.2.1 dL_law_1608 (by decide) ?_
      refine lv_goto (tgt := 1624) F.1 F.2.1 dL_law_1611 (by decide) ?_
      refine lv_icmp_ne (tgt := 1631) F.1 F.2.1 dL_law_1624 (by decide) (fun c_5 => absurd rfl c_5) (fun c_5 => ?_)
      refine lv_iconst (v := 1) F.1 F.2.1 dL_law_1627 (by decide) ?_
      refine lv_goto (tgt := 1632) F.1 F.2.1 dL_law_1628 (by decide) ?_
      refine lv_istore (lv' := [(17, .int 1), (25, .int 0), (24, .int 0), (0, .ref b), (1, .ref o), (2, .ref (ad 2)), (3, .ref (ad 3)), (4, .ref (ad 4)), (5, .ref (ad 5)), (6, .ref (ad 6)), (7, .ref (ad 7)), (8, .ref (ad 8)), (9, .ref (ad 9)), (10, .ref (ad 10)), (11, .int (nI t)), (12, .int v12), (13, .int u), (14, .int (nI i)), (15, .int (nI (14 * i))), (16, .int (nI v))]) F.1 F.2.1 dL_law_1632 hl (by decide) rfl (fun ls hl => ?_)
      refine lv_iload F.1 F.2.1 dL_law_1634 (lv_at hl 2 rfl) ?_
      refine lv_if_ne (tgt := 1642) F.1 F.2.1 dL_law_1636 (by decide) (fun c_6 => absurd rfl c_6) (fun c_6 => ?_)
      refine lv_goto (tgt := 3461) F.1 F.2.1 dL_law_1639 (by decide) ?_
      rw [(lv_no9 hR hi (Or.inl c_2)).2] at hM
      refine W.widen (k := c1) (n := s1) (by omega) (by omega) ?_
      exact K _ _ ls ⟨X, Y, AD, _, _, _, _, ho, hd, hM, hY, w, R26.ups hR (by omega)⟩ (lv_sub hl [0, 3, 4, 5, 6, 7, 8, 9, 10, 11, 12, 13, 14, 16] rfl)
    · obtain ⟨p9, hp4, hp, hpM⟩ := p10 hR hi c_2
      refine lv_aload_n F.1 F.2.1 dL_law_1538 rfl (lv_at hl 2 rfl) ?_
      refine lv_iload F.1 F.2.1 dL_law_1539 (lv_at hl 15 rfl) ?_
      refine lv_bipush (v := 9) F.1 F.2.1 dL_law_1541 (by decide) ?_
      refine lv_iadd F.1 F.2.1 dL_law_1543 ?_
      refine lv_fold (y := nI ((14 * i) + 9)) (nI_add (14 * i) 9) ?_
      refine l_ild F w hL 2 rfl ((14 * i) + 9) (show (14 * i) + 9 < 56 by omega) dL_law_1544 ?_
      refine lv_iconst (v := -1) F.1 F.2.1 dL_law_1545 (by decide) ?_
      refine lv_icmp_ne (tgt := 1553) F.1 F.2.1 dL_law_1546 (by decide) (fun c_7 => ?_) (fun c_7 => ?_)
      · refine lv_iconst (v := 0) F.1 F.2.1 dL_law_1553 (by decide) ?_
        refine lv_istore (lv' := [(24, .int 0), (0, .ref b), (1, .ref o), (2, .ref (ad 2)), (3, .ref (ad 3)), (4, .ref (ad 4)), (5, .ref (ad 5)), (6, .ref (ad 6)), (7, .ref (ad 7)), (8, .ref (ad 8)), (9, .ref (ad 9)), (10, .ref (ad 10)), (11, .int (nI t)), (12, .int v12), (13, .int u), (14, .int (nI i)), (15, .int (nI (14 * i))), (16, .int (nI v)), (17, .int 1)]) F.1 F.2.1 dL_law_1554 hl (by decide) rfl (fun ls hl => ?_)
        refine lv_iload F.1 F.2.1 dL_law_1556 (lv_at hl 0 rfl) ?_
        refine lv_if_eq (tgt := 1594) F.1 F.2.1 dL_law_1558 (by decide) (fun c_8 => ?_) (fun c_8 => absurd rfl c_8)
        refine lv_iconst (v := 0) F.1 F.2.1 dL_law_1594 (by decide) ?_
        refine lv_istore (lv' := [(25, .int 0), (24, .int 0), (0, .ref b), (1, .ref o), (2, .ref (ad 2)), (3, .ref (ad 3)), (4, .ref (ad 4)), (5, .ref (ad 5)), (6, .ref (ad 6)), (7, .ref (ad 7)), (8, .ref (ad 8)), (9, .ref (ad 9)), (10, .ref (ad 10)), (11, .int (nI t)), (12, .int v12), (13, .int u), (14, .int (nI i)), (15, .int (nI (14 * i))), (16, .int (nI v)), (17, .int 1)]) F.1 F.2.1 dL_law_1595 hl (by decide) rfl (fun ls hl => ?_)
        refine lv_aload_n F.1 F.2.1 dL_law_1597 rfl (lv_at hl 3 rfl) ?_
        refine lv_iload F.1 F.2.1 dL_law_1598 (lv_at hl 16 rfl) ?_
        refine lw_leaves (rest := []) F w hd hM ho hR.r.ic (nI i) (fun s9 _ => (R9.rf _ _ _ hR.r).2.2.2.1 s9 (by assumption)) hlf dL_law_1600 hl.1 ⟨by omega, by omega⟩ (Nat.le_of_ble_eq_true rfl) ⟨by omega, by omega⟩ (fun v1600 X AD H locs hv1600 ho hd hM w => ?_)
        have hL := hY.un hd
        refine lv_fold (y := (-7300)) (hv1600.trans ((lv_no9 hR hi (Or.inr c_7)).1)) ?_
        refine lv_iload F.1 F.2.1 dL_law_1603 (lv_at hl 1 rfl) ?_
        refine lv_if_ne (tgt := 1614) F.1 F.2.1 dL_law_1605 (by decide) (fun c_9 => absurd rfl c_9) (fun c_9 => ?_)
        refine lv_sipush (v := -7300) F.1 F.2.1 dL_law_1608 (by decide) ?_
        refine lv_goto (tgt := 1624) F.1 F.2.1 dL_law_1611 (by decide) ?_
        refine lv_icmp_ne (tgt := 1631) F.1 F.2.1 dL_law_1624 (by decide) (fun c_10 => absurd rfl c_10) (fun c_10 => ?_)
        refine lv_iconst (v := 1) F.1 F.2.1 dL_law_1627 (by decide) ?_
        refine lv_goto (tgt := 1632) F.1 F.2.1 dL_law_1628 (by decide) ?_
        refine lv_istore (lv' := [(17, .int 1), (25, .int 0), (24, .int 0), (0, .ref b), (1, .ref o), (2, .ref (ad 2)), (3, .ref (ad 3)), (4, .ref (ad 4)), (5, .ref (ad 5)), (6, .ref (ad 6)), (7, .ref (ad 7)), (8, .ref (ad 8)), (9, .ref (ad 9)), (10, .ref (ad 10)), (11, .int (nI t)), (12, .int v12), (13, .int u), (14, .int (nI i)), (15, .int (nI (14 * i))), (16, .int (nI v))]) F.1 F.2.1 dL_law_1632 hl (by decide) rfl (fun ls hl => ?_)
        refine lv_iload F.1 F.2.1 dL_law_1634 (lv_at hl 2 rfl) ?_
        refine lv_if_ne (tgt := 1642) F.1 F.2.1 dL_law_1636 (by decide) (fun c_11 => absurd rfl c_11) (fun c_11 => ?_)
        refine lv_goto (tgt := 3461) F.1 F.2.1 dL_law_1639 (by decide) ?_
        rw [(lv_no9 hR hi (Or.inr c_7)).2] at hM
        refine W.widen (k := c1) (n := s1) (by omega) (by omega) ?_
        exact K _ _ ls ⟨X, Y, AD, _, _, _, _, ho, hd, hM, hY, w, R26.ups hR (by omega)⟩ (lv_sub hl [0, 3, 4, 5, 6, 7, 8, 9, 10, 11, 12, 13, 14, 16] rfl)
      · refine lv_iconst (v := 1) F.1 F.2.1 dL_law_1549 (by decide) ?_
        refine lv_goto (tgt := 1554) F.1 F.2.1 dL_law_1550 (by decide) ?_
        refine lv_istore (lv' := [(24, .int 1), (0, .ref b), (1, .ref o), (2, .ref (ad 2)), (3, .ref (ad 3)), (4, .ref (ad 4)), (5, .ref (ad 5)), (6, .ref (ad 6)), (7, .ref (ad 7)), (8, .ref (ad 8)), (9, .ref (ad 9)), (10, .ref (ad 10)), (11, .int (nI t)), (12, .int v12), (13, .int u), (14, .int (nI i)), (15, .int (nI (14 * i))), (16, .int (nI v)), (17, .int 1)]) F.1 F.2.1 dL_law_1554 hl (by decide) rfl (fun ls hl => ?_)
        refine lv_iload F.1 F.2.1 dL_law_1556 (lv_at hl 0 rfl) ?_
        refine lv_if_eq (tgt := 1594) F.1 F.2.1 dL_law_1558 (by decide) (fun c_12 => absurd c_12 (by decide)) (fun c_12 => ?_)
        refine lv_aload_n F.1 F.2.1 dL_law_1561 rfl (lv_at hl 3 rfl) ?_
        refine lv_iload F.1 F.2.1 dL_law_1562 (lv_at hl 16 rfl) ?_
        refine lv_bipush (v := 7) F.1 F.2.1 dL_law_1564 (by decide) ?_
        refine lv_iadd F.1 F.2.1 dL_law_1566 ?_
        refine lv_fold (y := nI ((14 * i) + 7)) (nI_add (14 * i) 7) ?_
        refine l_ild F w hL 2 rfl ((14 * i) + 7) (show (14 * i) + 7 < 56 by omega) dL_law_1567 ?_
        refine lv_iconst (v := -1) F.1 F.2.1 dL_law_1568 (by decide) ?_
        refine lv_icmp_ne (tgt := 1594) F.1 F.2.1 dL_law_1569 (by decide) (fun c_13 => ?_) (fun c_13 => ?_)
        · refine lv_iconst (v := 0) F.1 F.2.1 dL_law_1594 (by decide) ?_
          refine lv_istore (lv' := [(25, .int 0), (24, .int 1), (0, .ref b), (1, .ref o), (2, .ref (ad 2)), (3, .ref (ad 3)), (4, .ref (ad 4)), (5, .ref (ad 5)), (6, .ref (ad 6)), (7, .ref (ad 7)), (8, .ref (ad 8)), (9, .ref (ad 9)), (10, .ref (ad 10)), (11, .int (nI t)), (12, .int v12), (13, .int u), (14, .int (nI i)), (15, .int (nI (14 * i))), (16, .int (nI v)), (17, .int 1)]) F.1 F.2.1 dL_law_1595 hl (by decide) rfl (fun ls hl => ?_)
          refine lv_aload_n F.1 F.2.1 dL_law_1597 rfl (lv_at hl 3 rfl) ?_
          refine lv_iload F.1 F.2.1 dL_law_1598 (lv_at hl 16 rfl) ?_
          refine lw_leaves (rest := []) F w hd hM ho hR.r.ic (nI i) (fun s9 _ => (R9.rf _ _ _ hR.r).2.2.2.1 s9 (by assumption)) hlf dL_law_1600 hl.1 ⟨by omega, by omega⟩ (Nat.le_of_ble_eq_true rfl) ⟨by omega, by omega⟩ (fun v1600 X AD H locs hv1600 ho hd hM w => ?_)
          have hL := hY.un hd
          refine lv_fold (y := 0) (hv1600.trans ((lv_ok9 hR hi hp4 hp c_7 (y := 0) (if_neg c_13)).1)) ?_
          refine lv_iload F.1 F.2.1 dL_law_1603 (lv_at hl 1 rfl) ?_
          refine lv_if_ne (tgt := 1614) F.1 F.2.1 dL_law_1605 (by decide) (fun c_14 => ?_) (fun c_14 => absurd c_14 (by decide))
          refine lv_iload F.1 F.2.1 dL_law_1614 (lv_at hl 0 rfl) ?_
          refine lv_if_eq (tgt := 1623) F.1 F.2.1 dL_law_1616 (by decide) (fun c_15 => ?_) (fun c_15 => absurd rfl c_15)
          refine lv_iconst (v := 0) F.1 F.2.1 dL_law_1623 (by decide) ?_
          refine lv_icmp_ne (tgt := 1631) F.1 F.2.1 dL_law_1624 (by decide) (fun c_16 => absurd rfl c_16) (fun c_16 => ?_)
          refine lv_iconst (v := 1) F.1 F.2.1 dL_law_1627 (by decide) ?_
          refine lv_goto (tgt := 1632) F.1 F.2.1 dL_law_1628 (by decide) ?_
          refine lv_istore (lv' := [(17, .int 1), (25, .int 0), (24, .int 1), (0, .ref b), (1, .ref o), (2, .ref (ad 2)), (3, .ref (ad 3)), (4, .ref (ad 4)), (5, .ref (ad 5)), (6, .ref (ad 6)), (7, .ref (ad 7)), (8, .ref (ad 8)), (9, .ref (ad 9)), (10, .ref (ad 10)), (11, .int (nI t)), (12, .int v12), (13, .int u), (14, .int (nI i)), (15, .int (nI (14 * i))), (16, .int (nI v))]) F.1 F.2.1 dL_law_1632 hl (by decide) rfl (fun ls hl => ?_)
          refine lv_iload F.1 F.2.1 dL_law_1634 (lv_at hl 2 rfl) ?_
          refine lv_if_ne (tgt := 1642) F.1 F.2.1 dL_law_1636 (by decide) (fun c_17 => ?_) (fun c_17 => absurd c_17 (by decide))
          refine lv_aload F.1 F.2.1 dL_law_1642 (lv_at hl 13 rfl) ?_
          refine lv_iconst (v := 3) F.1 F.2.1 dL_law_1644 (by decide) ?_
          refine lv_aload_n F.1 F.2.1 dL_law_1645 rfl (lv_at hl 5 rfl) ?_
          refine lv_iload F.1 F.2.1 dL_law_1646 (lv_at hl 18 rfl) ?_
          refine lv_bipush (v := 6) F.1 F.2.1 dL_law_1648 (by decide) ?_
          refine lv_iadd F.1 F.2.1 dL_law_1650 ?_
          refine lv_fold (y := nI ((14 * i) + 6)) (nI_add (14 * i) 6) ?_
          refine l_ild F w hL 2 rfl ((14 * i) + 6) (show (14 * i) + 6 < 56 by omega) dL_law_1651 ?_
          refine lv_fold (y := nI p9) (hp) ?_
          refine lv_iadd F.1 F.2.1 dL_law_1652 ?_
          refine lv_fold (y := nI (3 + p9)) (nI_add 3 p9) ?_
          refine lv_dup2_11 F.1 F.2.1 dL_law_1653 rfl rfl ?_
          refine l_ild F w hL 10 rfl (3 + p9) (show 3 + p9 < 9 by omega) dL_law_1654 ?_
          refine lv_iload F.1 F.2.1 dL_law_1655 (lv_at hl 1 rfl) ?_
          refine lv_if_eq (tgt := 1664) F.1 F.2.1 dL_law_1657 (by decide) (fun c_18 => ?_) (fun c_18 => absurd rfl c_18)
          refine lv_iconst (v := 0) F.1 F.2.1 dL_law_1664 (by decide) ?_
          refine lv_iadd F.1 F.2.1 dL_law_1665 ?_
          refine l_ist F w hd hY 10 rfl (3 + p9) (show 3 + p9 < 9 by omega) dL_law_1666 (fun H locs Y hd hY w => ?_)
          have hL := hY.un hd
          refine lv_aload_n F.1 F.2.1 dL_law_1667 rfl (lv_at hl 5 rfl) ?_
          refine lv_iload F.1 F.2.1 dL_law_1668 (lv_at hl 18 rfl) ?_
          refine lv_bipush (v := 6) F.1 F.2.1 dL_law_1670 (by decide) ?_
          refine lv_iadd F.1 F.2.1 dL_law_1672 ?_
          refine lv_fold (y := nI ((14 * i) + 6)) (nI_add (14 * i) 6) ?_
          refine lv_iconst (v := -1) F.1 F.2.1 dL_law_1673 (by decide) ?_
          refine l_ist F w hd hY 2 rfl ((14 * i) + 6) (show (14 * i) + 6 < 56 by omega) dL_law_1674 (fun H locs Y hd hY w => ?_)
          have hL := hY.un hd
          refine lv_aload_n F.1 F.2.1 dL_law_1675 rfl (lv_at hl 5 rfl) ?_
          refine lv_iload F.1 F.2.1 dL_law_1676 (lv_at hl 18 rfl) ?_
          refine lv_bipush (v := 7) F.1 F.2.1 dL_law_1678 (by decide) ?_
          refine lv_iadd F.1 F.2.1 dL_law_1680 ?_
          refine lv_fold (y := nI ((14 * i) + 7)) (nI_add (14 * i) 7) ?_
          refine lv_iconst (v := -1) F.1 F.2.1 dL_law_1681 (by decide) ?_
          refine l_ist F w hd hY 2 rfl ((14 * i) + 7) (show (14 * i) + 7 < 56 by omega) dL_law_1682 (fun H locs Y hd hY w => ?_)
          have hL := hY.un hd
          refine lv_goto (tgt := 3461) F.1 F.2.1 dL_law_1683 (by decide) ?_
          obtain ⟨M1, hRn⟩ := (lv_ok9 hR hi hp4 hp c_7 (y := 0) (if_neg c_13)).2
          refine W.widen (k := c1) (n := s1) (by omega) (by omega) ?_
          exact K _ _ ls ⟨X, Y, AD, _, _, _, _, ho, hd, hM, hY, w, R26.ups hRn (by omega)⟩ (lv_sub hl [0, 3, 4, 5, 6, 7, 8, 9, 10, 11, 12, 13, 14, 16] rfl)
        · refine lv_iload F.1 F.2.1 dL_law_1572 (lv_at hl 15 rfl) ?_
          refine lv_aload_n F.1 F.2.1 dL_law_1574 rfl (lv_at hl 3 rfl) ?_
          refine lv_aload F.1 F.2.1 dL_law_1575 (lv_at hl 6 rfl) ?_
          refine lv_aload F.1 F.2.1 dL_law_1577 (lv_at hl 7 rfl) ?_
          refine lv_aload F.1 F.2.1 dL_law_1579 (lv_at hl 8 rfl) ?_
          refine lv_aload F.1 F.2.1 dL_law_1581 (lv_at hl 11 rfl) ?_
          refine q_rS (rest := []) F w kS_L_127 hd_L_priority (c_L_priority l D cy A _ ad S Wf hL i (show i < 4 by omega) hR.hV (hR.la hi)) dL_law_1583 rfl rfl hl.1 ⟨rfl, rfl, (show 6 ≤ R.frames by omega), (show 155 ≤ R.locals by omega)⟩ (Nat.le_of_ble_eq_true rfl) ⟨by omega, by omega⟩ ?_
          refine lv_iconst (v := 2) F.1 F.2.1 dL_law_1586 (by decide) ?_
          refine lv_icmp_ne (tgt := 1594) F.1 F.2.1 dL_law_1587 (by decide) (fun c_19 => ?_) (fun c_19 => ?_)
          · refine lv_iconst (v := 0) F.1 F.2.1 dL_law_1594 (by decide) ?_
            refine lv_istore (lv' := [(25, .int 0), (24, .int 1), (0, .ref b), (1, .ref o), (2, .ref (ad 2)), (3, .ref (ad 3)), (4, .ref (ad 4)), (5, .ref (ad 5)), (6, .ref (ad 6)), (7, .ref (ad 7)), (8, .ref (ad 8)), (9, .ref (ad 9)), (10, .ref (ad 10)), (11, .int (nI t)), (12, .int v12), (13, .int u), (14, .int (nI i)), (15, .int (nI (14 * i))), (16, .int (nI v)), (17, .int 1)]) F.1 F.2.1 dL_law_1595 hl (by decide) rfl (fun ls hl => ?_)
            refine lv_aload_n F.1 F.2.1 dL_law_1597 rfl (lv_at hl 3 rfl) ?_
            refine lv_iload F.1 F.2.1 dL_law_1598 (lv_at hl 16 rfl) ?_
            refine lw_leaves (rest := []) F w hd hM ho hR.r.ic (nI i) (fun s9 _ => (R9.rf _ _ _ hR.r).2.2.2.1 s9 (by assumption)) hlf dL_law_1600 hl.1 ⟨by omega, by omega⟩ (Nat.le_of_ble_eq_true rfl) ⟨by omega, by omega⟩ (fun v1600 X AD H locs hv1600 ho hd hM w => ?_)
            have hL := hY.un hd
            refine lv_fold (y := 0) (hv1600.trans ((lv_ok9 hR hi hp4 hp c_7 (y := 0) ((if_pos c_13).trans (if_neg c_19))).1)) ?_
            refine lv_iload F.1 F.2.1 dL_law_1603 (lv_at hl 1 rfl) ?_
            refine lv_if_ne (tgt := 1614) F.1 F.2.1 dL_law_1605 (by decide) (fun c_20 => ?_) (fun c_20 => absurd c_20 (by decide))
            refine lv_iload F.1 F.2.1 dL_law_1614 (lv_at hl 0 rfl) ?_
            refine lv_if_eq (tgt := 1623) F.1 F.2.1 dL_law_1616 (by decide) (fun c_21 => ?_) (fun c_21 => absurd rfl c_21)
            refine lv_iconst (v := 0) F.1 F.2.1 dL_law_1623 (by decide) ?_
            refine lv_icmp_ne (tgt := 1631) F.1 F.2.1 dL_law_1624 (by decide) (fun c_22 => absurd rfl c_22) (fun c_22 => ?_)
            refine lv_iconst (v := 1) F.1 F.2.1 dL_law_1627 (by decide) ?_
            refine lv_goto (tgt := 1632) F.1 F.2.1 dL_law_1628 (by decide) ?_
            refine lv_istore (lv' := [(17, .int 1), (25, .int 0), (24, .int 1), (0, .ref b), (1, .ref o), (2, .ref (ad 2)), (3, .ref (ad 3)), (4, .ref (ad 4)), (5, .ref (ad 5)), (6, .ref (ad 6)), (7, .ref (ad 7)), (8, .ref (ad 8)), (9, .ref (ad 9)), (10, .ref (ad 10)), (11, .int (nI t)), (12, .int v12), (13, .int u), (14, .int (nI i)), (15, .int (nI (14 * i))), (16, .int (nI v))]) F.1 F.2.1 dL_law_1632 hl (by decide) rfl (fun ls hl => ?_)
            refine lv_iload F.1 F.2.1 dL_law_1634 (lv_at hl 2 rfl) ?_
            refine lv_if_ne (tgt := 1642) F.1 F.2.1 dL_law_1636 (by decide) (fun c_23 => ?_) (fun c_23 => absurd c_23 (by decide))
            refine lv_aload F.1 F.2.1 dL_law_1642 (lv_at hl 13 rfl) ?_
            refine lv_iconst (v := 3) F.1 F.2.1 dL_law_1644 (by decide) ?_
            refine lv_aload_n F.1 F.2.1 dL_law_1645 rfl (lv_at hl 5 rfl) ?_
            refine lv_iload F.1 F.2.1 dL_law_1646 (lv_at hl 18 rfl) ?_
            refine lv_bipush (v := 6) F.1 F.2.1 dL_law_1648 (by decide) ?_
            refine lv_iadd F.1 F.2.1 dL_law_1650 ?_
            refine lv_fold (y := nI ((14 * i) + 6)) (nI_add (14 * i) 6) ?_
            refine l_ild F w hL 2 rfl ((14 * i) + 6) (show (14 * i) + 6 < 56 by omega) dL_law_1651 ?_
            refine lv_fold (y := nI p9) (hp) ?_
            refine lv_iadd F.1 F.2.1 dL_law_1652 ?_
            refine lv_fold (y := nI (3 + p9)) (nI_add 3 p9) ?_
            refine lv_dup2_11 F.1 F.2.1 dL_law_1653 rfl rfl ?_
            refine l_ild F w hL 10 rfl (3 + p9) (show 3 + p9 < 9 by omega) dL_law_1654 ?_
            refine lv_iload F.1 F.2.1 dL_law_1655 (lv_at hl 1 rfl) ?_
            refine lv_if_eq (tgt := 1664) F.1 F.2.1 dL_law_1657 (by decide) (fun c_24 => ?_) (fun c_24 => absurd rfl c_24)
            refine lv_iconst (v := 0) F.1 F.2.1 dL_law_1664 (by decide) ?_
            refine lv_iadd F.1 F.2.1 dL_law_1665 ?_
            refine l_ist F w hd hY 10 rfl (3 + p9) (show 3 + p9 < 9 by omega) dL_law_1666 (fun H locs Y hd hY w => ?_)
            have hL := hY.un hd
            refine lv_aload_n F.1 F.2.1 dL_law_1667 rfl (lv_at hl 5 rfl) ?_
            refine lv_iload F.1 F.2.1 dL_law_1668 (lv_at hl 18 rfl) ?_
            refine lv_bipush (v := 6) F.1 F.2.1 dL_law_1670 (by decide) ?_
            refine lv_iadd F.1 F.2.1 dL_law_1672 ?_
            refine lv_fold (y := nI ((14 * i) + 6)) (nI_add (14 * i) 6) ?_
            refine lv_iconst (v := -1) F.1 F.2.1 dL_law_1673 (by decide) ?_
            refine l_ist F w hd hY 2 rfl ((14 * i) + 6) (show (14 * i) + 6 < 56 by omega) dL_law_1674 (fun H locs Y hd hY w => ?_)
            have hL := hY.un hd
            refine lv_aload_n F.1 F.2.1 dL_law_1675 rfl (lv_at hl 5 rfl) ?_
            refine lv_iload F.1 F.2.1 dL_law_1676 (lv_at hl 18 rfl) ?_
            refine lv_bipush (v := 7) F.1 F.2.1 dL_law_1678 (by decide) ?_
            refine lv_iadd F.1 F.2.1 dL_law_1680 ?_
            refine lv_fold (y := nI ((14 * i) + 7)) (nI_add (14 * i) 7) ?_
            refine lv_iconst (v := -1) F.1 F.2.1 dL_law_1681 (by decide) ?_
            refine l_ist F w hd hY 2 rfl ((14 * i) + 7) (show (14 * i) + 7 < 56 by omega) dL_law_1682 (fun H locs Y hd hY w => ?_)
            have hL := hY.un hd
            refine lv_goto (tgt := 3461) F.1 F.2.1 dL_law_1683 (by decide) ?_
            obtain ⟨M1, hRn⟩ := (lv_ok9 hR hi hp4 hp c_7 (y := 0) ((if_pos c_13).trans (if_neg c_19))).2
            refine W.widen (k := c1) (n := s1) (by omega) (by omega) ?_
            exact K _ _ ls ⟨X, Y, AD, _, _, _, _, ho, hd, hM, hY, w, R26.ups hRn (by omega)⟩ (lv_sub hl [0, 3, 4, 5, 6, 7, 8, 9, 10, 11, 12, 13, 14, 16] rfl)
          · refine lv_iconst (v := 1) F.1 F.2.1 dL_law_1590 (by decide) ?_
            refine lv_goto (tgt := 1595) F.1 F.2.1 dL_law_1591 (by decide) ?_
            refine lv_istore (lv' := [(25, .int 1), (24, .int 1), (0, .ref b), (1, .ref o), (2, .ref (ad 2)), (3, .ref (ad 3)), (4, .ref (ad 4)), (5, .ref (ad 5)), (6, .ref (ad 6)), (7, .ref (ad 7)), (8, .ref (ad 8)), (9, .ref (ad 9)), (10, .ref (ad 10)), (11, .int (nI t)), (12, .int v12), (13, .int u), (14, .int (nI i)), (15, .int (nI (14 * i))), (16, .int (nI v)), (17, .int 1)]) F.1 F.2.1 dL_law_1595 hl (by decide) rfl (fun ls hl => ?_)
            refine lv_aload_n F.1 F.2.1 dL_law_1597 rfl (lv_at hl 3 rfl) ?_
            refine lv_iload F.1 F.2.1 dL_law_1598 (lv_at hl 16 rfl) ?_
            refine lw_leaves (rest := []) F w hd hM ho hR.r.ic (nI i) (fun s9 _ => (R9.rf _ _ _ hR.r).2.2.2.1 s9 (by assumption)) hlf dL_law_1600 hl.1 ⟨by omega, by omega⟩ (Nat.le_of_ble_eq_true rfl) ⟨by omega, by omega⟩ (fun v1600 X AD H locs hv1600 ho hd hM w => ?_)
            have hL := hY.un hd
            refine lv_fold (y := 1) (hv1600.trans ((lv_ok9 hR hi hp4 hp c_7 (y := 1) ((if_pos c_13).trans (if_pos c_19))).1)) ?_
            refine lv_iload F.1 F.2.1 dL_law_1603 (lv_at hl 1 rfl) ?_
            refine lv_if_ne (tgt := 1614) F.1 F.2.1 dL_law_1605 (by decide) (fun c_25 => ?_) (fun c_25 => absurd c_25 (by decide))
            refine lv_iload F.1 F.2.1 dL_law_1614 (lv_at hl 0 rfl) ?_
            refine lv_if_eq (tgt := 1623) F.1 F.2.1 dL_law_1616 (by decide) (fun c_26 => absurd c_26 (by decide)) (fun c_26 => ?_)
            refine lv_iconst (v := 1) F.1 F.2.1 dL_law_1619 (by decide) ?_
            refine lv_goto (tgt := 1624) F.1 F.2.1 dL_law_1620 (by decide) ?_
            refine lv_icmp_ne (tgt := 1631) F.1 F.2.1 dL_law_1624 (by decide) (fun c_27 => absurd rfl c_27) (fun c_27 => ?_)
            refine lv_iconst (v := 1) F.1 F.2.1 dL_law_1627 (by decide) ?_
            refine lv_goto (tgt := 1632) F.1 F.2.1 dL_law_1628 (by decide) ?_
            refine lv_istore (lv' := [(17, .int 1), (25, .int 1), (24, .int 1), (0, .ref b), (1, .ref o), (2, .ref (ad 2)), (3, .ref (ad 3)), (4, .ref (ad 4)), (5, .ref (ad 5)), (6, .ref (ad 6)), (7, .ref (ad 7)), (8, .ref (ad 8)), (9, .ref (ad 9)), (10, .ref (ad 10)), (11, .int (nI t)), (12, .int v12), (13, .int u), (14, .int (nI i)), (15, .int (nI (14 * i))), (16, .int (nI v))]) F.1 F.2.1 dL_law_1632 hl (by decide) rfl (fun ls hl => ?_)
            refine lv_iload F.1 F.2.1 dL_law_1634 (lv_at hl 2 rfl) ?_
            refine lv_if_ne (tgt := 1642) F.1 F.2.1 dL_law_1636 (by decide) (fun c_28 => ?_) (fun c_28 => absurd c_28 (by decide))
            refine lv_aload F.1 F.2.1 dL_law_1642 (lv_at hl 13 rfl) ?_
            refine lv_iconst (v := 3) F.1 F.2.1 dL_law_1644 (by decide) ?_
            refine lv_aload_n F.1 F.2.1 dL_law_1645 rfl (lv_at hl 5 rfl) ?_
            refine lv_iload F.1 F.2.1 dL_law_1646 (lv_at hl 18 rfl) ?_
            refine lv_bipush (v := 6) F.1 F.2.1 dL_law_1648 (by decide) ?_
            refine lv_iadd F.1 F.2.1 dL_law_1650 ?_
            refine lv_fold (y := nI ((14 * i) + 6)) (nI_add (14 * i) 6) ?_
            refine l_ild F w hL 2 rfl ((14 * i) + 6) (show (14 * i) + 6 < 56 by omega) dL_law_1651 ?_
            refine lv_fold (y := nI p9) (hp) ?_
            refine lv_iadd F.1 F.2.1 dL_law_1652 ?_
            refine lv_fold (y := nI (3 + p9)) (nI_add 3 p9) ?_
            refine lv_dup2_11 F.1 F.2.1 dL_law_1653 rfl rfl ?_
            refine l_ild F w hL 10 rfl (3 + p9) (show 3 + p9 < 9 by omega) dL_law_1654 ?_
            refine lv_iload F.1 F.2.1 dL_law_1655 (lv_at hl 1 rfl) ?_
            refine lv_if_eq (tgt := 1664) F.1 F.2.1 dL_law_1657 (by decide) (fun c_29 => absurd c_29 (by decide)) (fun c_29 => ?_)
            refine lv_iconst (v := 1) F.1 F.2.1 dL_law_1660 (by decide) ?_
            refine lv_goto (tgt := 1665) F.1 F.2.1 dL_law_1661 (by decide) ?_
            refine lv_iadd F.1 F.2.1 dL_law_1665 ?_
            refine l_ist F w hd hY 10 rfl (3 + p9) (show 3 + p9 < 9 by omega) dL_law_1666 (fun H locs Y hd hY w => ?_)
            have hL := hY.un hd
            refine lv_aload_n F.1 F.2.1 dL_law_1667 rfl (lv_at hl 5 rfl) ?_
            refine lv_iload F.1 F.2.1 dL_law_1668 (lv_at hl 18 rfl) ?_
            refine lv_bipush (v := 6) F.1 F.2.1 dL_law_1670 (by decide) ?_
            refine lv_iadd F.1 F.2.1 dL_law_1672 ?_
            refine lv_fold (y := nI ((14 * i) + 6)) (nI_add (14 * i) 6) ?_
            refine lv_iconst (v := -1) F.1 F.2.1 dL_law_1673 (by decide) ?_
            refine l_ist F w hd hY 2 rfl ((14 * i) + 6) (show (14 * i) + 6 < 56 by omega) dL_law_1674 (fun H locs Y hd hY w => ?_)
            have hL := hY.un hd
            refine lv_aload_n F.1 F.2.1 dL_law_1675 rfl (lv_at hl 5 rfl) ?_
            refine lv_iload F.1 F.2.1 dL_law_1676 (lv_at hl 18 rfl) ?_
            refine lv_bipush (v := 7) F.1 F.2.1 dL_law_1678 (by decide) ?_
            refine lv_iadd F.1 F.2.1 dL_law_1680 ?_
            refine lv_fold (y := nI ((14 * i) + 7)) (nI_add (14 * i) 7) ?_
            refine lv_iconst (v := -1) F.1 F.2.1 dL_law_1681 (by decide) ?_
            refine l_ist F w hd hY 2 rfl ((14 * i) + 7) (show (14 * i) + 7 < 56 by omega) dL_law_1682 (fun H locs Y hd hY w => ?_)
            have hL := hY.un hd
            refine lv_goto (tgt := 3461) F.1 F.2.1 dL_law_1683 (by decide) ?_
            obtain ⟨M1, hRn⟩ := (lv_ok9 hR hi hp4 hp c_7 (y := 1) ((if_pos c_13).trans (if_pos c_19))).2
            refine W.widen (k := c1) (n := s1) (by omega) (by omega) ?_
            exact K _ _ ls ⟨X, Y, AD, _, _, _, _, ho, hd, hM, hY, w, R26.ups hRn (by omega)⟩ (lv_sub hl [0, 3, 4, 5, 6, 7, 8, 9, 10, 11, 12, 13, 14, 16] rfl)
  · refine lv_goto (tgt := 3461) F.1 F.2.1 dL_law_1524 (by decide) ?_
    refine W.widen (k := c1) (n := s1) (by omega) (by omega) ?_
    exact K _ _ ls ⟨X, Y, AD, _, _, _, _, ho, hd, hM, hY, w, R26.ups hR (by omega)⟩ (lv_sub hl [17, 0, 1, 2, 3, 4, 5, 6, 7, 8, 9, 10, 11, 13] rfl)
set_option maxHeartbeats 4000000 in
set_option maxRecDepth 100000 in
theorem lc_pass {p : Program} {l : Launch} {e : Env} {R : Room} {s : State} {m : MethodId} {args : Array Value} {below : List Frame} {meth : Method} {c : Code} {Q : State → Prop} {D : va_G} {cy : Nat → ClassId} {A : Nat → Prop} {o b t i v : Nat} {ad : Nat → Nat} {u v12 : Int32} {n n1 c1 s1 : Nat} {G M S : GS} {Wf : Nat → Int64} (F : CallFix p m c cL_law 40 s args BIG RL) (hlf : l.stackTraces = false) (hRm : 11 ≤ R.frames ∧ 278 ≤ R.locals ∧ c1 ≤ R.cells ∧ s1 ≤ R.slots) (h511 : n1 ≤ 511) (K : KJ p l e R s m args below meth c Q D cy A o b t ad u n1 c1 s1) (hR : R26 n G M S Wf) (hi4 : i < 4) (hi0 : gnS M = 0 ∨ i < gnS M) (hv50 : v < 50) (hv0 : gnV M = 0 ∨ v < gnV M) {X Y : MU} {AD : AM} {H : Heap} {locs : List Loc} {cells slots : Nat} (hf : cells + 15 ≤ c1 ∧ slots + 4700 ≤ s1) (hn : n + 2 ≤ n1) (ho : AD 0 0 0 = o) (hd : dis X Y) (hM : RepC cy AD G X) (hY : RepL cy ad S Wf Y) (w : WW D cy A (un X Y) s H locs) {ls : Array Slot} (hl : lv_has ls 40 [(0, .ref b), (1, .ref o), (2, .ref (ad 2)), (3, .ref (ad 3)), (4, .ref (ad 4)), (5, .ref (ad 5)), (6, .ref (ad 6)), (7, .ref (ad 7)), (8, .ref (ad 8)), (9, .ref (ad 9)), (10, .ref (ad 10)), (11, .int (nI t)), (12, .int v12), (13, .int u), (14, .int (nI i)), (15, .int (nI (14 * i))), (16, .int (nI v)), (17, .int 1)]) : W p l e R s m args below meth c H locs cells slots Q (F0 m 3388 ls []) := by
  have hL := hY.un hd
  obtain ⟨t9, ht9, ht⟩ := hR.td
  have hb4 := hR.b
  have heV := hR.eV
  refine lv_iconst (v := 1) F.1 F.2.1 dL_law_3388 (by decide) ?_
  refine lv_iload F.1 F.2.1 dL_law_3389 (lv_at hl 13 rfl) ?_
  refine lv_iload F.1 F.2.1 dL_law_3391 (lv_at hl 13 rfl) ?_
  refine lv_ldc F.1 F.2.1 F.2.2.2.1 (F.2.2.2.2 _ wK_L_174) dL_law_3393 ?_
  refine lv_iand F.1 F.2.1 dL_law_3395 ?_
  refine lv_if_ne (tgt := 3405) F.1 F.2.1 dL_law_3396 (by decide) (fun c_1 => ?_) (fun c_1 => ?_)
  · refine lv_bipush (v := 20) F.1 F.2.1 dL_law_3405 (by decide) ?_
    obtain ⟨q3407, hq3407, eq3407⟩ := low_ok u (n := 20) (by omega) (by omega)
    refine q_rS (rest := [.int 1]) F w kS_L_134 hd_L_low (c_L_low l D cy A _ u 20 (by decide)) dL_law_3407 rfl rfl hl.1 ⟨rfl, rfl, (show 1 ≤ R.frames by omega), (show 21 ≤ R.locals by omega)⟩ (Nat.le_of_ble_eq_true rfl) ⟨by omega, by omega⟩ ?_
    refine lv_fold (y := nI q3407) eq3407 ?_
    refine lv_iadd F.1 F.2.1 dL_law_3410 ?_
    refine lv_fold (y := nI (1 + q3407)) (nI_add 1 q3407) ?_
    refine lv_istore (lv' := [(35, .int (nI (1 + q3407))), (0, .ref b), (1, .ref o), (2, .ref (ad 2)), (3, .ref (ad 3)), (4, .ref (ad 4)), (5, .ref (ad 5)), (6, .ref (ad 6)), (7, .ref (ad 7)), (8, .ref (ad 8)), (9, .ref (ad 9)), (10, .ref (ad 10)), (11, .int (nI t)), (12, .int v12), (13, .int u), (14, .int (nI i)), (15, .int (nI (14 * i))), (16, .int (nI v)), (17, .int 1)]) F.1 F.2.1 dL_law_3411 hl (by decide) rfl (fun ls hl => ?_)
    refine lv_aload F.1 F.2.1 dL_law_3413 (lv_at hl 11 rfl) ?_
    refine lv_iconst (v := 0) F.1 F.2.1 dL_law_3415 (by decide) ?_
    refine l_ild F w hL 10 rfl 0 (show 0 < 9 by omega) dL_law_3416 ?_
    refine lv_fold (y := nI t9) (hR.g0.trans ht) ?_
    refine lv_iload F.1 F.2.1 dL_law_3417 (lv_at hl 0 rfl) ?_
    refine lv_iadd F.1 F.2.1 dL_law_3419 ?_
    refine lv_fold (y := nI (t9 + (1 + q3407))) (nI_add _ _) ?_
    refine lv_sipush (v := 9000) F.1 F.2.1 dL_law_3420 (by decide) ?_
    refine lv_icmp_le (tgt := 3429) F.1 F.2.1 dL_law_3423 (by decide) (fun c_2 => ?_) (fun c_2 => ?_)
    · have hd9 : t9 + (1 + q3407) ≤ 9000 := (nI_leI (b := 9000) (by omega) (by decide)).mp c_2
      obtain ⟨a9, hRn⟩ := pa_ok hR ht (d := 1 + q3407) (by omega) (by omega) hd9
      refine lv_aload F.1 F.2.1 dL_law_3429 (lv_at hl 11 rfl) ?_
      refine lv_iconst (v := 0) F.1 F.2.1 dL_law_3431 (by decide) ?_
      refine lv_dup2_11 F.1 F.2.1 dL_law_3432 rfl rfl ?_
      refine l_ild F w hL 10 rfl 0 (show 0 < 9 by omega) dL_law_3433 ?_
      refine lv_iload F.1 F.2.1 dL_law_3434 (lv_at hl 0 rfl) ?_
      refine lv_iadd F.1 F.2.1 dL_law_3436 ?_
      refine l_ist F w hd hY 10 rfl 0 (show 0 < 9 by omega) dL_law_3437 (fun H locs Y hd hY w => ?_)
      have hL := hY.un hd
      refine lv_iload F.1 F.2.1 dL_law_3438 (lv_at hl 18 rfl) ?_
      refine lv_aload_n F.1 F.2.1 dL_law_3440 rfl (lv_at hl 2 rfl) ?_
      refine lv_iload F.1 F.2.1 dL_law_3441 (lv_at hl 0 rfl) ?_
      refine lw_pass (rest := [.int 1]) F w hd hM ho hR.r.ic (nI (1 + q3407)) hlf dL_law_3443 hl.1 ⟨by omega, by omega⟩ (Nat.le_of_ble_eq_true rfl) ⟨by omega, by omega⟩ (fun v3443 X AD H locs hv3443 ho hd hM w => ?_)
      have hL := hY.un hd
      refine lv_fold (y := (S 10 0) + (nI (1 + q3407))) (hv3443.trans a9) ?_
      refine lv_aload F.1 F.2.1 dL_law_3446 (lv_at hl 11 rfl) ?_
      refine lv_iconst (v := 0) F.1 F.2.1 dL_law_3448 (by decide) ?_
      refine l_ild F w hL 10 rfl 0 (show 0 < 9 by omega) dL_law_3449 ?_
      refine lv_fold (y := (S 10 0) + (nI (1 + q3407))) (up2_s) ?_
      refine lv_icmp_ne (tgt := 3457) F.1 F.2.1 dL_law_3450 (by decide) (fun c_3 => absurd rfl c_3) (fun c_3 => ?_)
      refine lv_iconst (v := 1) F.1 F.2.1 dL_law_3453 (by decide) ?_
      refine lv_goto (tgt := 3458) F.1 F.2.1 dL_law_3454 (by decide) ?_
      refine lv_iand F.1 F.2.1 dL_law_3458 ?_
      refine lv_fold (y := 1) (by decide) ?_
      refine lv_istore (lv' := [(17, .int 1), (35, .int (nI (1 + q3407))), (0, .ref b), (1, .ref o), (2, .ref (ad 2)), (3, .ref (ad 3)), (4, .ref (ad 4)), (5, .ref (ad 5)), (6, .ref (ad 6)), (7, .ref (ad 7)), (8, .ref (ad 8)), (9, .ref (ad 9)), (10, .ref (ad 10)), (11, .int (nI t)), (12, .int v12), (13, .int u), (14, .int (nI i)), (15, .int (nI (14 * i))), (16, .int (nI v))]) F.1 F.2.1 dL_law_3459 hl (by decide) rfl (fun ls hl => ?_)
      refine W.widen (k := c1) (n := s1) (by omega) (by omega) ?_
      exact K _ _ ls ⟨X, Y, AD, _, _, _, _, ho, hd, hM, hY, w, R26.ups hRn (by omega)⟩ (lv_sub hl [0, 2, 3, 4, 5, 6, 7, 8, 9, 10, 11, 12, 13, 15] rfl)
    · refine lv_goto (tgt := 3461) F.1 F.2.1 dL_law_3426 (by decide) ?_
      refine W.widen (k := c1) (n := s1) (by omega) (by omega) ?_
      exact K _ _ ls ⟨X, Y, AD, _, _, _, _, ho, hd, hM, hY, w, R26.ups hR (by omega)⟩ (lv_sub hl [18, 1, 2, 3, 4, 5, 6, 7, 8, 9, 10, 11, 12, 14] rfl)
  · refine lv_sipush (v := 300) F.1 F.2.1 dL_law_3399 (by decide) ?_
    refine lv_goto (tgt := 3407) F.1 F.2.1 dL_law_3402 (by decide) ?_
    obtain ⟨q3407, hq3407, eq3407⟩ := low_ok u (n := 300) (by omega) (by omega)
    refine q_rS (rest := [.int 1]) F w kS_L_134 hd_L_low (c_L_low l D cy A _ u 300 (by decide)) dL_law_3407 rfl rfl hl.1 ⟨rfl, rfl, (show 1 ≤ R.frames by omega), (show 21 ≤ R.locals by omega)⟩ (Nat.le_of_ble_eq_true rfl) ⟨by omega, by omega⟩ ?_
    refine lv_fold (y := nI q3407) eq3407 ?_
    refine lv_iadd F.1 F.2.1 dL_law_3410 ?_
    refine lv_fold (y := nI (1 + q3407)) (nI_add 1 q3407) ?_
    refine lv_istore (lv' := [(35, .int (nI (1 + q3407))), (0, .ref b), (1, .ref o), (2, .ref (ad 2)), (3, .ref (ad 3)), (4, .ref (ad 4)), (5, .ref (ad 5)), (6, .ref (ad 6)), (7, .ref (ad 7)), (8, .ref (ad 8)), (9, .ref (ad 9)), (10, .ref (ad 10)), (11, .int (nI t)), (12, .int v12), (13, .int u), (14, .int (nI i)), (15, .int (nI (14 * i))), (16, .int (nI v)), (17, .int 1)]) F.1 F.2.1 dL_law_3411 hl (by decide) rfl (fun ls hl => ?_)
    refine lv_aload F.1 F.2.1 dL_law_3413 (lv_at hl 11 rfl) ?_
    refine lv_iconst (v := 0) F.1 F.2.1 dL_law_3415 (by decide) ?_
    refine l_ild F w hL 10 rfl 0 (show 0 < 9 by omega) dL_law_3416 ?_
    refine lv_fold (y := nI t9) (hR.g0.trans ht) ?_
    refine lv_iload F.1 F.2.1 dL_law_3417 (lv_at hl 0 rfl) ?_
    refine lv_iadd F.1 F.2.1 dL_law_3419 ?_
    refine lv_fold (y := nI (t9 + (1 + q3407))) (nI_add _ _) ?_
    refine lv_sipush (v := 9000) F.1 F.2.1 dL_law_3420 (by decide) ?_
    refine lv_icmp_le (tgt := 3429) F.1 F.2.1 dL_law_3423 (by decide) (fun c_4 => ?_) (fun c_4 => ?_)
    · have hd9 : t9 + (1 + q3407) ≤ 9000 := (nI_leI (b := 9000) (by omega) (by decide)).mp c_4
      obtain ⟨a9, hRn⟩ := pa_ok hR ht (d := 1 + q3407) (by omega) (by omega) hd9
      refine lv_aload F.1 F.2.1 dL_law_3429 (lv_at hl 11 rfl) ?_
      refine lv_iconst (v := 0) F.1 F.2.1 dL_law_3431 (by decide) ?_
      refine lv_dup2_11 F.1 F.2.1 dL_law_3432 rfl rfl ?_
      refine l_ild F w hL 10 rfl 0 (show 0 < 9 by omega) dL_law_3433 ?_
      refine lv_iload F.1 F.2.1 dL_law_3434 (lv_at hl 0 rfl) ?_
      refine lv_iadd F.1 F.2.1 dL_law_3436 ?_
      refine l_ist F w hd hY 10 rfl 0 (show 0 < 9 by omega) dL_law_3437 (fun H locs Y hd hY w => ?_)
      have hL := hY.un hd
      refine lv_iload F.1 F.2.1 dL_law_3438 (lv_at hl 18 rfl) ?_
      refine lv_aload_n F.1 F.2.1 dL_law_3440 rfl (lv_at hl 2 rfl) ?_
      refine lv_iload F.1 F.2.1 dL_law_3441 (lv_at hl 0 rfl) ?_
      refine lw_pass (rest := [.int 1]) F w hd hM ho hR.r.ic (nI (1 + q3407)) hlf dL_law_3443 hl.1 ⟨by omega, by omega⟩ (Nat.le_of_ble_eq_true rfl) ⟨by omega, by omega⟩ (fun v3443 X AD H locs hv3443 ho hd hM w => ?_)
      have hL := hY.un hd
      refine lv_fold (y := (S 10 0) + (nI (1 + q3407))) (hv3443.trans a9) ?_
      refine lv_aload F.1 F.2.1 dL_law_3446 (lv_at hl 11 rfl) ?_
      refine lv_iconst (v := 0) F.1 F.2.1 dL_law_3448 (by decide) ?_
      refine l_ild F w hL 10 rfl 0 (show 0 < 9 by omega) dL_law_3449 ?_
      refine lv_fold (y := (S 10 0) + (nI (1 + q3407))) (up2_s) ?_
      refine lv_icmp_ne (tgt := 3457) F.1 F.2.1 dL_law_3450 (by decide) (fun c_5 => absurd rfl c_5) (fun c_5 => ?_)
      refine lv_iconst (v := 1) F.1 F.2.1 dL_law_3453 (by decide) ?_
      refine lv_goto (tgt := 3458) F.1 F.2.1 dL_law_3454 (by decide) ?_
      refine lv_iand F.1 F.2.1 dL_law_3458 ?_
      refine lv_fold (y := 1) (by decide) ?_
      refine lv_istore (lv' := [(17, .int 1), (35, .int (nI (1 + q3407))), (0, .ref b), (1, .ref o), (2, .ref (ad 2)), (3, .ref (ad 3)), (4, .ref (ad 4)), (5, .ref (ad 5)), (6, .ref (ad 6)), (7, .ref (ad 7)), (8, .ref (ad 8)), (9, .ref (ad 9)), (10, .ref (ad 10)), (11, .int (nI t)), (12, .int v12), (13, .int u), (14, .int (nI i)), (15, .int (nI (14 * i))), (16, .int (nI v))]) F.1 F.2.1 dL_law_3459 hl (by decide) rfl (fun ls hl => ?_)
      refine W.widen (k := c1) (n := s1) (by omega) (by omega) ?_
      exact K _ _ ls ⟨X, Y, AD, _, _, _, _, ho, hd, hM, hY, w, R26.ups hRn (by omega)⟩ (lv_sub hl [0, 2, 3, 4, 5, 6, 7, 8, 9, 10, 11, 12, 13, 15] rfl)
    · refine lv_goto (tgt := 3461) F.1 F.2.1 dL_law_3426 (by decide) ?_
      refine W.widen (k := c1) (n := s1) (by omega) (by omega) ?_
      exact K _ _ ls ⟨X, Y, AD, _, _, _, _, ho, hd, hM, hY, w, R26.ups hR (by omega)⟩ (lv_sub hl [18, 1, 2, 3, 4, 5, 6, 7, 8, 9, 10, 11, 12, 14] rfl)
