theorem up2_s {S : GS} {k r : Nat} {v : Int32} : up2 S k r v k r = v := (congrFun (up2_eq _ _ _ _) _).trans pk_us
theorem up2_d {S : GS} {k r i : Nat} {v : Int32} (h : i ≠ r) : up2 S k r v k i = S k i := (congrFun (up2_eq _ _ _ _) _).trans (pk_un h)
theorem up2_r {S : GS} {k r j i : Nat} {v : Int32} (h : j ≠ k) : up2 S k r v j i = S j i := congrFun (up2_ne h) _
theorem an_os5b {n : Nat} {G M S : GS} {Wf : Nat → Int64} (h : R26 n G M S Wf) {s : Nat} (hs : s < gnS M) : A_ofShip G (nI s) 5 = if S 10 0 ≤ S 2 ((14 * s) + 12) then 1 else 0 := by
  rw [an_os5 h hs]
  by_cases c : S 2 ((14 * s) + 12) < S 10 0
  · rw [if_pos c, if_neg (Int32.not_le.mpr c)]
  · rw [if_neg c, if_pos (Int32.not_lt.mp c)]
theorem g8pos {n : Nat} {G M S : GS} {Wf : Nat → Int64} (h : R26 n G M S Wf) (c : ¬ S 10 8 ≤ 0) : 0 < gnS M := by
  rw [h.g8, h.nS] at c
  rcases Nat.eq_zero_or_pos (gnS M) with q | q
  · rw [q] at c
    exact absurd (by decide) c
  · exact q
set_option maxHeartbeats 4000000 in
set_option maxRecDepth 100000 in
theorem it_629 {p : Program} {l : Launch} {e : Env} {R : Room} {s : State} {m : MethodId} {args : Array Value} {below : List Frame} {meth : Method} {c : Code} {D : va_G} {cy : Nat → ClassId} {A : Nat → Prop} {o : Nat} {ad : Nat → Nat} {n : Nat} {G M S : GS} {Wf : Nat → Int64} {u : Int32} (F : CallFix p m c cL_isTold 18 s args BIG RL) (hlf : l.stackTraces = false) (hRm : 10 ≤ R.frames ∧ 230 ≤ R.locals ∧ 70 ≤ R.cells ∧ 420 ≤ R.slots) (hr : meth.sig.returnType = some .boolean) (hlk : meth.locks = false) (hR : R26 n G M S Wf) {X Y : MU} {AD : AM} {H : Heap} {locs : List Loc} {cells slots : Nat} (hf : cells ≤ 64 ∧ slots ≤ 384) (ho : AD 0 0 0 = o) (hd : dis X Y) (hM : RepC cy AD G X) (hY : RepL cy ad S Wf Y) (w : WW D cy A (un X Y) s H locs) {ls : Array Slot} (hl : lv_has ls 18 [(0, .ref o), (1, .int u), (2, .ref (ad 2)), (3, .ref (ad 3)), (4, .ref (ad 4)), (5, .ref (ad 5)), (6, .ref (ad 6)), (7, .ref (ad 7)), (8, .ref (ad 8)), (9, .ref (ad 9)), (10, .ref (ad 10))]) : W p l e R s m args below meth c H locs cells slots (MQ below (va_Qi (fun (r9 : Int32) (μ1 : MU) => r9 = 1 ∧ ∃ (X1 : MU) (AD1 : AM), μ1 = un X1 Y ∧ dis X1 Y ∧ AD1 0 0 0 = o ∧ RepC cy AD1 G X1) (fun μ1 t => Wd D cy A μ1 t) A) args s 70 420 A) (F0 m 629 ls []) := by
  have hL := hY.un hd
  obtain ⟨t, ht9, ht⟩ := hR.td
  have hb4 := hR.b
  have heV := hR.eV
  refine lv_iload_n F.1 F.2.1 dL_isTold_629 rfl (lv_at hl 1 rfl) ?_
  refine lv_iconst (v := 5) F.1 F.2.1 dL_isTold_630 (by decide) ?_
  refine lv_ishr F.1 F.2.1 dL_isTold_631 ?_
  refine lv_bipush (v := 6) F.1 F.2.1 dL_isTold_632 (by decide) ?_
  obtain ⟨q634, hq634, eq634⟩ := low_ok (u >>> (5 &&& 31)) (n := 6) (by omega) (by omega)
  refine q_rS (rest := []) F w kS_L_134 hd_L_low (c_L_low l D cy A _ (u >>> (5 &&& 31)) 6 (by decide)) dL_isTold_634 rfl rfl hl.1 ⟨rfl, rfl, (show 1 ≤ R.frames by omega), (show 21 ≤ R.locals by omega)⟩ (Nat.le_of_ble_eq_true rfl) ⟨by omega, by omega⟩ ?_
  refine lv_fold (y := nI q634) eq634 ?_
  refine lv_istore (lv' := [(11, .int (nI q634)), (0, .ref o), (1, .int u), (2, .ref (ad 2)), (3, .ref (ad 3)), (4, .ref (ad 4)), (5, .ref (ad 5)), (6, .ref (ad 6)), (7, .ref (ad 7)), (8, .ref (ad 8)), (9, .ref (ad 9)), (10, .ref (ad 10))]) F.1 F.2.1 dL_isTold_637 hl (by decide) rfl (fun ls hl => ?_)
  refine lv_aload_n F.1 F.2.1 dL_isTold_639 rfl (lv_at hl 1 rfl) ?_
  refine lv_iload F.1 F.2.1 dL_isTold_640 (lv_at hl 0 rfl) ?_
  refine lw_list (rest := []) F w hd hM ho hR.r.ic (nI q634) hlf dL_isTold_642 hl.1 ⟨by omega, by omega⟩ (Nat.le_of_ble_eq_true rfl) ⟨by omega, by omega⟩ (fun v642 X AD H locs hv642 ho hd hM w => ?_)
  have hL := hY.un hd
  rw [hr_list] at hM
  refine lv_fold (y := f_L_listOf S (nI q634)) (hv642.trans (an_li hR hq634)) ?_
  refine lv_iload F.1 F.2.1 dL_isTold_645 (lv_at hl 0 rfl) ?_
  refine lv_aload F.1 F.2.1 dL_isTold_647 (lv_at hl 6 rfl) ?_
  refine lv_aload F.1 F.2.1 dL_isTold_649 (lv_at hl 7 rfl) ?_
  refine lv_aload F.1 F.2.1 dL_isTold_651 (lv_at hl 8 rfl) ?_
  refine lv_aload F.1 F.2.1 dL_isTold_653 (lv_at hl 11 rfl) ?_
  refine q_rS (rest := [.int (f_L_listOf S (nI q634))]) F w kS_L_108 hd_L_listOf (c_L_listOf l D cy A _ ad S Wf hL (nI q634) hR.hV) dL_isTold_655 rfl rfl hl.1 ⟨rfl, rfl, (show 3 ≤ R.frames by omega), (show 70 ≤ R.locals by omega)⟩ (Nat.le_of_ble_eq_true rfl) ⟨by omega, by omega⟩ ?_
  refine lv_icmp_ne (tgt := 680) F.1 F.2.1 dL_isTold_658 (by decide) (fun c_1 => absurd rfl c_1) (fun c_1 => ?_)
  refine lv_aload_n F.1 F.2.1 dL_isTold_661 rfl (lv_at hl 1 rfl) ?_
  refine lv_aload F.1 F.2.1 dL_isTold_662 (lv_at hl 11 rfl) ?_
  refine lv_iconst (v := 2) F.1 F.2.1 dL_isTold_664 (by decide) ?_
  refine l_ild F w hL 10 rfl 2 (show 2 < 9 by omega) dL_isTold_665 ?_
  refine lv_iconst (v := 0) F.1 F.2.1 dL_isTold_666 (by decide) ?_
  refine lw_ofVisit (rest := []) F w hd hM ho hR.r.ic (S 10 2) 0 hlf dL_isTold_667 hl.1 ⟨by omega, by omega⟩ (Nat.le_of_ble_eq_true rfl) ⟨by omega, by omega⟩ (fun v667 X AD H locs hv667 ho hd hM w => ?_)
  have hL := hY.un hd
  rw [hr_ofVisit] at hM
  refine lv_fold (y := (-7100)) (hv667.trans (an_ovx hR)) ?_
  refine lv_sipush (v := -7100) F.1 F.2.1 dL_isTold_670 (by decide) ?_
  refine lv_icmp_ne (tgt := 680) F.1 F.2.1 dL_isTold_673 (by decide) (fun c_2 => absurd rfl c_2) (fun c_2 => ?_)
  refine lv_iconst (v := 1) F.1 F.2.1 dL_isTold_676 (by decide) ?_
  refine lv_goto (tgt := 681) F.1 F.2.1 dL_isTold_677 (by decide) ?_
  refine W.widen (k := 70) (n := 420) (by omega) (by omega) ?_
  exact q_retZ (S := Unit) F hr hlk w ⟨rfl, X, AD, rfl, hd, ho, hM⟩ nz1 dL_isTold_681
set_option maxHeartbeats 4000000 in
set_option maxRecDepth 100000 in
theorem it_439 {p : Program} {l : Launch} {e : Env} {R : Room} {s : State} {m : MethodId} {args : Array Value} {below : List Frame} {meth : Method} {c : Code} {D : va_G} {cy : Nat → ClassId} {A : Nat → Prop} {o : Nat} {ad : Nat → Nat} {n : Nat} {G M S : GS} {Wf : Nat → Int64} {u : Int32} (F : CallFix p m c cL_isTold 18 s args BIG RL) (hlf : l.stackTraces = false) (hRm : 10 ≤ R.frames ∧ 230 ≤ R.locals ∧ 70 ≤ R.cells ∧ 420 ≤ R.slots) (hr : meth.sig.returnType = some .boolean) (hlk : meth.locks = false) (hR : R26 n G M S Wf) {Y : MU} (hY : RepL cy ad S Wf Y) {j : Nat} (hj9 : j ≤ 4) (K629 : ∀ {X : MU} {AD : AM} {H : Heap} {locs : List Loc} {cells slots : Nat} {ls : Array Slot}, (cells ≤ 64 ∧ slots ≤ 6 * (64)) → AD 0 0 0 = o → dis X Y → RepC cy AD G X → WW D cy A (un X Y) s H locs → lv_has ls 18 [(0, .ref o), (1, .int u), (2, .ref (ad 2)), (3, .ref (ad 3)), (4, .ref (ad 4)), (5, .ref (ad 5)), (6, .ref (ad 6)), (7, .ref (ad 7)), (8, .ref (ad 8)), (9, .ref (ad 9)), (10, .ref (ad 10))] → W p l e R s m args below meth c H locs cells slots (MQ below (va_Qi (fun (r9 : Int32) (μ1 : MU) => r9 = 1 ∧ ∃ (X1 : MU) (AD1 : AM), μ1 = un X1 Y ∧ dis X1 Y ∧ AD1 0 0 0 = o ∧ RepC cy AD1 G X1) (fun μ1 t => Wd D cy A μ1 t) A) args s 70 420 A) (F0 m 629 ls [])) (K439 : ∀ {X : MU} {AD : AM} {H : Heap} {locs : List Loc} {cells slots : Nat} {ls : Array Slot}, j < 4 → (cells ≤ 36 + 7 * (j + 1) ∧ slots ≤ 6 * (36 + 7 * (j + 1))) → AD 0 0 0 = o → dis X Y → RepC cy AD G X → WW D cy A (un X Y) s H locs → lv_has ls 18 [(11, .int (nI (j + 1 + 1))), (0, .ref o), (1, .int u), (2, .ref (ad 2)), (3, .ref (ad 3)), (4, .ref (ad 4)), (5, .ref (ad 5)), (6, .ref (ad 6)), (7, .ref (ad 7)), (8, .ref (ad 8)), (9, .ref (ad 9)), (10, .ref (ad 10))] → W p l e R s m args below meth c H locs cells slots (MQ below (va_Qi (fun (r9 : Int32) (μ1 : MU) => r9 = 1 ∧ ∃ (X1 : MU) (AD1 : AM), μ1 = un X1 Y ∧ dis X1 Y ∧ AD1 0 0 0 = o ∧ RepC cy AD1 G X1) (fun μ1 t => Wd D cy A μ1 t) A) args s 70 420 A) (F0 m 439 ls [])) {X : MU} {AD : AM} {H : Heap} {locs : List Loc} {cells slots : Nat} (hf : cells ≤ 36 + 7 * j ∧ slots ≤ 6 * (36 + 7 * j)) (ho : AD 0 0 0 = o) (hd : dis X Y) (hM : RepC cy AD G X) (w : WW D cy A (un X Y) s H locs) {ls : Array Slot} (hl : lv_has ls 18 [(11, .int (nI (j + 1))), (0, .ref o), (1, .int u), (2, .ref (ad 2)), (3, .ref (ad 3)), (4, .ref (ad 4)), (5, .ref (ad 5)), (6, .ref (ad 6)), (7, .ref (ad 7)), (8, .ref (ad 8)), (9, .ref (ad 9)), (10, .ref (ad 10))]) : W p l e R s m args below meth c H locs cells slots (MQ below (va_Qi (fun (r9 : Int32) (μ1 : MU) => r9 = 1 ∧ ∃ (X1 : MU) (AD1 : AM), μ1 = un X1 Y ∧ dis X1 Y ∧ AD1 0 0 0 = o ∧ RepC cy AD1 G X1) (fun μ1 t => Wd D cy A μ1 t) A) args s 70 420 A) (F0 m 439 ls []) := by
  have hL := hY.un hd
  obtain ⟨t, ht9, ht⟩ := hR.td
  have hb4 := hR.b
  have heV := hR.eV
  refine lv_iload F.1 F.2.1 dL_isTold_439 (lv_at hl 0 rfl) ?_
  refine lv_iconst (v := 4) F.1 F.2.1 dL_isTold_441 (by decide) ?_
  refine lv_icmp_gt (tgt := 629) F.1 F.2.1 dL_isTold_442 (by decide) (fun c_1 => ?_) (fun c_1 => ?_)
  · exact K629 (cells := _) (slots := _) ⟨by omega, by omega⟩ ho hd hM w (lv_sub hl [1, 2, 3, 4, 5, 6, 7, 8, 9, 10, 11] rfl)
  · have hj4 : j < 4 := by have h9 : ¬ 4 < j + 1 := fun q => c_1 (nI_lt (a := 4) q (by omega)); omega
    refine lv_iload F.1 F.2.1 dL_isTold_445 (lv_at hl 0 rfl) ?_
    refine lv_aload F.1 F.2.1 dL_isTold_447 (lv_at hl 11 rfl) ?_
    refine lv_iconst (v := 2) F.1 F.2.1 dL_isTold_449 (by decide) ?_
    refine l_ild F w hL 10 rfl 2 (show 2 < 9 by omega) dL_isTold_450 ?_
    refine lv_fold (y := nI (gv S)) (hR.hV.1) ?_
    refine lv_icmp_gt (tgt := 629) F.1 F.2.1 dL_isTold_451 (by decide) (fun c_2 => ?_) (fun c_2 => ?_)
    · exact K629 (cells := _) (slots := _) ⟨by omega, by omega⟩ ho hd hM w (lv_sub hl [1, 2, 3, 4, 5, 6, 7, 8, 9, 10, 11] rfl)
    · have hj2 : j + 1 ≤ gv S := Nat.le_of_not_lt (fun q => c_2 (nI_lt q (by omega)))
      refine lv_iload F.1 F.2.1 dL_isTold_454 (lv_at hl 0 rfl) ?_
      refine lv_iconst (v := 3) F.1 F.2.1 dL_isTold_456 (by decide) ?_
      refine lv_icmp_ge (tgt := 470) F.1 F.2.1 dL_isTold_457 (by decide) (fun c_3 => ?_) (fun c_3 => ?_)
      · refine lv_iload_n F.1 F.2.1 dL_isTold_470 rfl (lv_at hl 2 rfl) ?_
        refine lv_iload F.1 F.2.1 dL_isTold_471 (lv_at hl 0 rfl) ?_
        refine lv_ishr F.1 F.2.1 dL_isTold_473 ?_
        refine lv_aload F.1 F.2.1 dL_isTold_474 (lv_at hl 11 rfl) ?_
        refine lv_iconst (v := 2) F.1 F.2.1 dL_isTold_476 (by decide) ?_
        refine l_ild F w hL 10 rfl 2 (show 2 < 9 by omega) dL_isTold_477 ?_
        refine lv_fold (y := nI (gv S)) (hR.hV.1) ?_
        obtain ⟨q478, hq478, eq478⟩ := low_ok (u >>> ((nI (j + 1)) &&& 31)) (n := gv S) (by omega) (by omega)
        refine q_rS (rest := []) F w kS_L_134 hd_L_low (c_L_low l D cy A _ (u >>> ((nI (j + 1)) &&& 31)) (nI (gv S)) (nI_ne0 (by omega) (by omega))) dL_isTold_478 rfl rfl hl.1 ⟨rfl, rfl, (show 1 ≤ R.frames by omega), (show 21 ≤ R.locals by omega)⟩ (Nat.le_of_ble_eq_true rfl) ⟨by omega, by omega⟩ ?_
        refine lv_fold (y := nI q478) eq478 ?_
        refine lv_istore (lv' := [(12, .int (nI q478)), (11, .int (nI (j + 1))), (0, .ref o), (1, .int u), (2, .ref (ad 2)), (3, .ref (ad 3)), (4, .ref (ad 4)), (5, .ref (ad 5)), (6, .ref (ad 6)), (7, .ref (ad 7)), (8, .ref (ad 8)), (9, .ref (ad 9)), (10, .ref (ad 10))]) F.1 F.2.1 dL_isTold_481 hl (by decide) rfl (fun ls hl => ?_)
        refine lv_aload_n F.1 F.2.1 dL_isTold_483 rfl (lv_at hl 2 rfl) ?_
        refine lv_iload F.1 F.2.1 dL_isTold_484 (lv_at hl 0 rfl) ?_
        refine lv_iconst (v := 0) F.1 F.2.1 dL_isTold_486 (by decide) ?_
        refine lw_ofVisit (rest := []) F w hd hM ho hR.r.ic (nI q478) 0 hlf dL_isTold_487 hl.1 ⟨by omega, by omega⟩ (Nat.le_of_ble_eq_true rfl) ⟨by omega, by omega⟩ (fun v487 X AD H locs hv487 ho hd hM w => ?_)
        have hL := hY.un hd
        rw [hr_ofVisit] at hM
        refine lv_fold (y := (S 5 q478) &&& 3) (hv487.trans (an_ov0 hR (by omega))) ?_
        refine lv_aload F.1 F.2.1 dL_isTold_490 (lv_at hl 7 rfl) ?_
        refine lv_iload F.1 F.2.1 dL_isTold_492 (lv_at hl 0 rfl) ?_
        refine l_ild F w hL 5 rfl q478 (show q478 < 50 by omega) dL_isTold_494 ?_
        refine lv_iconst (v := 3) F.1 F.2.1 dL_isTold_495 (by decide) ?_
        refine lv_iand F.1 F.2.1 dL_isTold_496 ?_
        refine lv_icmp_ne (tgt := 621) F.1 F.2.1 dL_isTold_497 (by decide) (fun c_4 => absurd rfl c_4) (fun c_4 => ?_)
        refine lv_aload_n F.1 F.2.1 dL_isTold_500 rfl (lv_at hl 2 rfl) ?_
        refine lv_iload F.1 F.2.1 dL_isTold_501 (lv_at hl 0 rfl) ?_
        refine lv_iconst (v := 1) F.1 F.2.1 dL_isTold_503 (by decide) ?_
        refine lw_ofVisit (rest := []) F w hd hM ho hR.r.ic (nI q478) 1 hlf dL_isTold_504 hl.1 ⟨by omega, by omega⟩ (Nat.le_of_ble_eq_true rfl) ⟨by omega, by omega⟩ (fun v504 X AD H locs hv504 ho hd hM w => ?_)
        have hL := hY.un hd
        rw [hr_ofVisit] at hM
        refine lv_fold (y := ((S 5 q478) >>> (2 &&& 31)) &&& 3) (hv504.trans (an_ov1 hR (by omega))) ?_
        refine lv_aload F.1 F.2.1 dL_isTold_507 (lv_at hl 7 rfl) ?_
        refine lv_iload F.1 F.2.1 dL_isTold_509 (lv_at hl 0 rfl) ?_
        refine l_ild F w hL 5 rfl q478 (show q478 < 50 by omega) dL_isTold_511 ?_
        refine lv_iconst (v := 2) F.1 F.2.1 dL_isTold_512 (by decide) ?_
        refine lv_ishr F.1 F.2.1 dL_isTold_513 ?_
        refine lv_iconst (v := 3) F.1 F.2.1 dL_isTold_514 (by decide) ?_
        refine lv_iand F.1 F.2.1 dL_isTold_515 ?_
        refine lv_icmp_ne (tgt := 621) F.1 F.2.1 dL_isTold_516 (by decide) (fun c_5 => absurd rfl c_5) (fun c_5 => ?_)
        refine lv_aload_n F.1 F.2.1 dL_isTold_519 rfl (lv_at hl 2 rfl) ?_
        refine lv_iload F.1 F.2.1 dL_isTold_520 (lv_at hl 0 rfl) ?_
        refine lv_iconst (v := 2) F.1 F.2.1 dL_isTold_522 (by decide) ?_
        refine lw_ofVisit (rest := []) F w hd hM ho hR.r.ic (nI q478) 2 hlf dL_isTold_523 hl.1 ⟨by omega, by omega⟩ (Nat.le_of_ble_eq_true rfl) ⟨by omega, by omega⟩ (fun v523 X AD H locs hv523 ho hd hM w => ?_)
        have hL := hY.un hd
        rw [hr_ofVisit] at hM
        refine lv_fold (y := S 6 q478) (hv523.trans (an_ov2 hR (by omega))) ?_
        refine lv_aload F.1 F.2.1 dL_isTold_526 (lv_at hl 8 rfl) ?_
        refine lv_iload F.1 F.2.1 dL_isTold_528 (lv_at hl 0 rfl) ?_
        refine l_ild F w hL 6 rfl q478 (show q478 < 50 by omega) dL_isTold_530 ?_
        refine lv_icmp_ne (tgt := 621) F.1 F.2.1 dL_isTold_531 (by decide) (fun c_6 => absurd rfl c_6) (fun c_6 => ?_)
        refine lv_aload_n F.1 F.2.1 dL_isTold_534 rfl (lv_at hl 2 rfl) ?_
        refine lv_iload F.1 F.2.1 dL_isTold_535 (lv_at hl 0 rfl) ?_
        refine lv_iconst (v := 3) F.1 F.2.1 dL_isTold_537 (by decide) ?_
        refine lw_ofVisit (rest := []) F w hd hM ho hR.r.ic (nI q478) 3 hlf dL_isTold_538 hl.1 ⟨by omega, by omega⟩ (Nat.le_of_ble_eq_true rfl) ⟨by omega, by omega⟩ (fun v538 X AD H locs hv538 ho hd hM w => ?_)
        have hL := hY.un hd
        rw [hr_ofVisit] at hM
        refine lv_fold (y := ((S 5 q478) >>> (4 &&& 31)) &&& 3) (hv538.trans (an_ov3 hR (by omega))) ?_
        refine lv_aload F.1 F.2.1 dL_isTold_541 (lv_at hl 7 rfl) ?_
        refine lv_iload F.1 F.2.1 dL_isTold_543 (lv_at hl 0 rfl) ?_
        refine l_ild F w hL 5 rfl q478 (show q478 < 50 by omega) dL_isTold_545 ?_
        refine lv_iconst (v := 4) F.1 F.2.1 dL_isTold_546 (by decide) ?_
        refine lv_ishr F.1 F.2.1 dL_isTold_547 ?_
        refine lv_iconst (v := 3) F.1 F.2.1 dL_isTold_548 (by decide) ?_
        refine lv_iand F.1 F.2.1 dL_isTold_549 ?_
        refine lv_icmp_ne (tgt := 621) F.1 F.2.1 dL_isTold_550 (by decide) (fun c_7 => absurd rfl c_7) (fun c_7 => ?_)
        refine lv_aload_n F.1 F.2.1 dL_isTold_553 rfl (lv_at hl 2 rfl) ?_
        refine lv_iload F.1 F.2.1 dL_isTold_554 (lv_at hl 0 rfl) ?_
        refine lv_iconst (v := 4) F.1 F.2.1 dL_isTold_556 (by decide) ?_
        refine lw_ofVisit (rest := []) F w hd hM ho hR.r.ic (nI q478) 4 hlf dL_isTold_557 hl.1 ⟨by omega, by omega⟩ (Nat.le_of_ble_eq_true rfl) ⟨by omega, by omega⟩ (fun v557 X AD H locs hv557 ho hd hM w => ?_)
        have hL := hY.un hd
        rw [hr_ofVisit] at hM
        refine lv_fold (y := f_L_findings (S 5 q478)) (hv557.trans (an_ov4 hR (by omega))) ?_
        refine lv_aload F.1 F.2.1 dL_isTold_560 (lv_at hl 7 rfl) ?_
        refine lv_iload F.1 F.2.1 dL_isTold_562 (lv_at hl 0 rfl) ?_
        refine l_ild F w hL 5 rfl q478 (show q478 < 50 by omega) dL_isTold_564 ?_
        refine q_rS (rest := [.int (f_L_findings (S 5 q478))]) F w kS_L_112 hd_L_findings (c_L_findings l D cy A _ (S 5 q478)) dL_isTold_565 rfl rfl hl.1 ⟨rfl, rfl, (show 1 ≤ R.frames by omega), (show 20 ≤ R.locals by omega)⟩ (Nat.le_of_ble_eq_true rfl) ⟨by omega, by omega⟩ ?_
        refine lv_icmp_ne (tgt := 621) F.1 F.2.1 dL_isTold_568 (by decide) (fun c_8 => absurd rfl c_8) (fun c_8 => ?_)
        refine lv_aload_n F.1 F.2.1 dL_isTold_571 rfl (lv_at hl 2 rfl) ?_
        refine lv_iload F.1 F.2.1 dL_isTold_572 (lv_at hl 0 rfl) ?_
        refine lv_iconst (v := 5) F.1 F.2.1 dL_isTold_574 (by decide) ?_
        refine lw_ofVisit (rest := []) F w hd hM ho hR.r.ic (nI q478) 5 hlf dL_isTold_575 hl.1 ⟨by omega, by omega⟩ (Nat.le_of_ble_eq_true rfl) ⟨by omega, by omega⟩ (fun v575 X AD H locs hv575 ho hd hM w => ?_)
        have hL := hY.un hd
        rw [hr_ofVisit] at hM
        refine lv_fold (y := f_L_open S Wf q478 0) (hv575.trans (an_ov5 hR (by omega))) ?_
        refine lv_iload F.1 F.2.1 dL_isTold_578 (lv_at hl 0 rfl) ?_
        refine lv_iconst (v := 0) F.1 F.2.1 dL_isTold_580 (by decide) ?_
        refine lv_aload F.1 F.2.1 dL_isTold_581 (lv_at hl 7 rfl) ?_
        refine lv_aload F.1 F.2.1 dL_isTold_583 (lv_at hl 10 rfl) ?_
        refine lv_aload F.1 F.2.1 dL_isTold_585 (lv_at hl 11 rfl) ?_
        refine q_rS (rest := [.int (f_L_open S Wf q478 0)]) F w kS_L_153 hd_L_open (c_L_open l D cy A _ ad S Wf hL q478 0 (show q478 < 50 by omega)) dL_isTold_587 rfl rfl hl.1 ⟨rfl, rfl, (show 2 ≤ R.frames by omega), (show 46 ≤ R.locals by omega)⟩ (Nat.le_of_ble_eq_true rfl) ⟨by omega, by omega⟩ ?_
        refine lv_icmp_ne (tgt := 621) F.1 F.2.1 dL_isTold_590 (by decide) (fun c_9 => absurd rfl c_9) (fun c_9 => ?_)
        refine lv_aload_n F.1 F.2.1 dL_isTold_593 rfl (lv_at hl 2 rfl) ?_
        refine lv_iload F.1 F.2.1 dL_isTold_594 (lv_at hl 0 rfl) ?_
        refine lv_bipush (v := 6) F.1 F.2.1 dL_isTold_596 (by decide) ?_
        refine lw_ofVisit (rest := []) F w hd hM ho hR.r.ic (nI q478) 6 hlf dL_isTold_598 hl.1 ⟨by omega, by omega⟩ (Nat.le_of_ble_eq_true rfl) ⟨by omega, by omega⟩ (fun v598 X AD H locs hv598 ho hd hM w => ?_)
        have hL := hY.un hd
        rw [hr_ofVisit] at hM
        refine lv_fold (y := if f_L_counts S q478 = 0 then 0 else 1) (hv598.trans (an_ov6 hR (by omega))) ?_
        refine lv_iload F.1 F.2.1 dL_isTold_601 (lv_at hl 0 rfl) ?_
        refine lv_aload F.1 F.2.1 dL_isTold_603 (lv_at hl 7 rfl) ?_
        refine lv_aload F.1 F.2.1 dL_isTold_605 (lv_at hl 9 rfl) ?_
        refine q_rS (rest := [.int (if f_L_counts S q478 = 0 then 0 else 1)]) F w kS_L_104 hd_L_counts (c_L_counts l D cy A _ ad S Wf hL q478 (show q478 < 50 by omega)) dL_isTold_607 rfl rfl hl.1 ⟨rfl, rfl, (show 2 ≤ R.frames by omega), (show 42 ≤ R.locals by omega)⟩ (Nat.le_of_ble_eq_true rfl) ⟨by omega, by omega⟩ ?_
        refine jn0 (m := m) (ls := ls) (rest := [.int (if f_L_counts S q478 = 0 then 0 else 1)]) (if f_L_counts S q478 = 0 then 0 else 1) 618 (fun J_10 => ?_) ?_
        · refine lv_if_eq (tgt := 617) F.1 F.2.1 dL_isTold_610 (by decide) (fun c_11 => ?_) (fun c_11 => ?_)
          · refine lv_iconst (v := 0) F.1 F.2.1 dL_isTold_617 (by decide) ?_
            exact jn_a (if_pos c_11) J_10
          · refine lv_iconst (v := 1) F.1 F.2.1 dL_isTold_613 (by decide) ?_
            refine lv_goto (tgt := 618) F.1 F.2.1 dL_isTold_614 (by decide) ?_
            exact jn_a (if_neg c_11) J_10
        refine lv_icmp_eq (tgt := 623) F.1 F.2.1 dL_isTold_618 (by decide) (fun c_12 => ?_) (fun c_12 => absurd rfl c_12)
        refine lv_iinc (v := nI (j + 1 + 1)) (lv' := [(11, .int (nI (j + 1 + 1))), (12, .int (nI q478)), (0, .ref o), (1, .int u), (2, .ref (ad 2)), (3, .ref (ad 3)), (4, .ref (ad 4)), (5, .ref (ad 5)), (6, .ref (ad 6)), (7, .ref (ad 7)), (8, .ref (ad 8)), (9, .ref (ad 9)), (10, .ref (ad 10))]) F.1 F.2.1 dL_isTold_623 hl (k := 1) rfl (nI_1 _) (by decide) rfl (fun ls hl => ?_)
        refine lv_goto (tgt := 439) F.1 F.2.1 dL_isTold_626 (by decide) ?_
        have hj5 : j < 4 := hj4
        exact K439 (cells := _) (slots := _) hj5 ⟨by omega, by omega⟩ ho hd hM w (lv_sub hl [0, 2, 3, 4, 5, 6, 7, 8, 9, 10, 11, 12] rfl)
      · refine lv_aload F.1 F.2.1 dL_isTold_460 (lv_at hl 11 rfl) ?_
        refine lv_iconst (v := 2) F.1 F.2.1 dL_isTold_462 (by decide) ?_
        refine l_ild F w hL 10 rfl 2 (show 2 < 9 by omega) dL_isTold_463 ?_
        refine lv_fold (y := nI (gv S)) (hR.hV.1) ?_
        refine lv_iload F.1 F.2.1 dL_isTold_464 (lv_at hl 0 rfl) ?_
        refine lv_isub F.1 F.2.1 dL_isTold_466 ?_
        refine lv_fold (y := nI ((gv S) - (j + 1))) (pk_sub (a := (gv S)) (b := (j + 1)) (by omega)) ?_
        refine lv_goto (tgt := 481) F.1 F.2.1 dL_isTold_467 (by decide) ?_
        refine lv_istore (lv' := [(12, .int (nI ((gv S) - (j + 1)))), (11, .int (nI (j + 1))), (0, .ref o), (1, .int u), (2, .ref (ad 2)), (3, .ref (ad 3)), (4, .ref (ad 4)), (5, .ref (ad 5)), (6, .ref (ad 6)), (7, .ref (ad 7)), (8, .ref (ad 8)), (9, .ref (ad 9)), (10, .ref (ad 10))]) F.1 F.2.1 dL_isTold_481 hl (by decide) rfl (fun ls hl => ?_)
        refine lv_aload_n F.1 F.2.1 dL_isTold_483 rfl (lv_at hl 2 rfl) ?_
        refine lv_iload F.1 F.2.1 dL_isTold_484 (lv_at hl 0 rfl) ?_
        refine lv_iconst (v := 0) F.1 F.2.1 dL_isTold_486 (by decide) ?_
        refine lw_ofVisit (rest := []) F w hd hM ho hR.r.ic (nI ((gv S) - (j + 1))) 0 hlf dL_isTold_487 hl.1 ⟨by omega, by omega⟩ (Nat.le_of_ble_eq_true rfl) ⟨by omega, by omega⟩ (fun v487 X AD H locs hv487 ho hd hM w => ?_)
        have hL := hY.un hd
        rw [hr_ofVisit] at hM
        refine lv_fold (y := (S 5 ((gv S) - (j + 1))) &&& 3) (hv487.trans (an_ov0 hR (by omega))) ?_
        refine lv_aload F.1 F.2.1 dL_isTold_490 (lv_at hl 7 rfl) ?_
        refine lv_iload F.1 F.2.1 dL_isTold_492 (lv_at hl 0 rfl) ?_
        refine l_ild F w hL 5 rfl ((gv S) - (j + 1)) (show (gv S) - (j + 1) < 50 by omega) dL_isTold_494 ?_
        refine lv_iconst (v := 3) F.1 F.2.1 dL_isTold_495 (by decide) ?_
        refine lv_iand F.1 F.2.1 dL_isTold_496 ?_
        refine lv_icmp_ne (tgt := 621) F.1 F.2.1 dL_isTold_497 (by decide) (fun c_13 => absurd rfl c_13) (fun c_13 => ?_)
        refine lv_aload_n F.1 F.2.1 dL_isTold_500 rfl (lv_at hl 2 rfl) ?_
        refine lv_iload F.1 F.2.1 dL_isTold_501 (lv_at hl 0 rfl) ?_
        refine lv_iconst (v := 1) F.1 F.2.1 dL_isTold_503 (by decide) ?_
        refine lw_ofVisit (rest := []) F w hd hM ho hR.r.ic (nI ((gv S) - (j + 1))) 1 hlf dL_isTold_504 hl.1 ⟨by omega, by omega⟩ (Nat.le_of_ble_eq_true rfl) ⟨by omega, by omega⟩ (fun v504 X AD H locs hv504 ho hd hM w => ?_)
        have hL := hY.un hd
        rw [hr_ofVisit] at hM
        refine lv_fold (y := ((S 5 ((gv S) - (j + 1))) >>> (2 &&& 31)) &&& 3) (hv504.trans (an_ov1 hR (by omega))) ?_
        refine lv_aload F.1 F.2.1 dL_isTold_507 (lv_at hl 7 rfl) ?_
        refine lv_iload F.1 F.2.1 dL_isTold_509 (lv_at hl 0 rfl) ?_
        refine l_ild F w hL 5 rfl ((gv S) - (j + 1)) (show (gv S) - (j + 1) < 50 by omega) dL_isTold_511 ?_
        refine lv_iconst (v := 2) F.1 F.2.1 dL_isTold_512 (by decide) ?_
        refine lv_ishr F.1 F.2.1 dL_isTold_513 ?_
        refine lv_iconst (v := 3) F.1 F.2.1 dL_isTold_514 (by decide) ?_
        refine lv_iand F.1 F.2.1 dL_isTold_515 ?_
        refine lv_icmp_ne (tgt := 621) F.1 F.2.1 dL_isTold_516 (by decide) (fun c_14 => absurd rfl c_14) (fun c_14 => ?_)
        refine lv_aload_n F.1 F.2.1 dL_isTold_519 rfl (lv_at hl 2 rfl) ?_
        refine lv_iload F.1 F.2.1 dL_isTold_520 (lv_at hl 0 rfl) ?_
        refine lv_iconst (v := 2) F.1 F.2.1 dL_isTold_522 (by decide) ?_
        refine lw_ofVisit (rest := []) F w hd hM ho hR.r.ic (nI ((gv S) - (j + 1))) 2 hlf dL_isTold_523 hl.1 ⟨by omega, by omega⟩ (Nat.le_of_ble_eq_true rfl) ⟨by omega, by omega⟩ (fun v523 X AD H locs hv523 ho hd hM w => ?_)
        have hL := hY.un hd
        rw [hr_ofVisit] at hM
        refine lv_fold (y := S 6 ((gv S) - (j + 1))) (hv523.trans (an_ov2 hR (by omega))) ?_
        refine lv_aload F.1 F.2.1 dL_isTold_526 (lv_at hl 8 rfl) ?_
        refine lv_iload F.1 F.2.1 dL_isTold_528 (lv_at hl 0 rfl) ?_
        refine l_ild F w hL 6 rfl ((gv S) - (j + 1)) (show (gv S) - (j + 1) < 50 by omega) dL_isTold_530 ?_
        refine lv_icmp_ne (tgt := 621) F.1 F.2.1 dL_isTold_531 (by decide) (fun c_15 => absurd rfl c_15) (fun c_15 => ?_)
        refine lv_aload_n F.1 F.2.1 dL_isTold_534 rfl (lv_at hl 2 rfl) ?_
        refine lv_iload F.1 F.2.1 dL_isTold_535 (lv_at hl 0 rfl) ?_
        refine lv_iconst (v := 3) F.1 F.2.1 dL_isTold_537 (by decide) ?_
        refine lw_ofVisit (rest := []) F w hd hM ho hR.r.ic (nI ((gv S) - (j + 1))) 3 hlf dL_isTold_538 hl.1 ⟨by omega, by omega⟩ (Nat.le_of_ble_eq_true rfl) ⟨by omega, by omega⟩ (fun v538 X AD H locs hv538 ho hd hM w => ?_)
        have hL := hY.un hd
        rw [hr_ofVisit] at hM
        refine lv_fold (y := ((S 5 ((gv S) - (j + 1))) >>> (4 &&& 31)) &&& 3) (hv538.trans (an_ov3 hR (by omega))) ?_
        refine lv_aload F.1 F.2.1 dL_isTold_541 (lv_at hl 7 rfl) ?_
        refine lv_iload F.1 F.2.1 dL_isTold_543 (lv_at hl 0 rfl) ?_
        refine l_ild F w hL 5 rfl ((gv S) - (j + 1)) (show (gv S) - (j + 1) < 50 by omega) dL_isTold_545 ?_
        refine lv_iconst (v := 4) F.1 F.2.1 dL_isTold_546 (by decide) ?_
        refine lv_ishr F.1 F.2.1 dL_isTold_547 ?_
        refine lv_iconst (v := 3) F.1 F.2.1 dL_isTold_548 (by decide) ?_
        refine lv_iand F.1 F.2.1 dL_isTold_549 ?_
        refine lv_icmp_ne (tgt := 621) F.1 F.2.1 dL_isTold_550 (by decide) (fun c_16 => absurd rfl c_16) (fun c_16 => ?_)
        refine lv_aload_n F.1 F.2.1 dL_isTold_553 rfl (lv_at hl 2 rfl) ?_
        refine lv_iload F.1 F.2.1 dL_isTold_554 (lv_at hl 0 rfl) ?_
        refine lv_iconst (v := 4) F.1 F.2.1 dL_isTold_556 (by decide) ?_
        refine lw_ofVisit (rest := []) F w hd hM ho hR.r.ic (nI ((gv S) - (j + 1))) 4 hlf dL_isTold_557 hl.1 ⟨by omega, by omega⟩ (Nat.le_of_ble_eq_true rfl) ⟨by omega, by omega⟩ (fun v557 X AD H locs hv557 ho hd hM w => ?_)
        have hL := hY.un hd
        rw [hr_ofVisit] at hM
        refine lv_fold (y := f_L_findings (S 5 ((gv S) - (j + 1)))) (hv557.trans (an_ov4 hR (by omega))) ?_
        refine lv_aload F.1 F.2.1 dL_isTold_560 (lv_at hl 7 rfl) ?_
        refine lv_iload F.1 F.2.1 dL_isTold_562 (lv_at hl 0 rfl) ?_
        refine l_ild F w hL 5 rfl ((gv S) - (j + 1)) (show (gv S) - (j + 1) < 50 by omega) dL_isTold_564 ?_
        refine q_rS (rest := [.int (f_L_findings (S 5 ((gv S) - (j + 1))))]) F w kS_L_112 hd_L_findings (c_L_findings l D cy A _ (S 5 ((gv S) - (j + 1)))) dL_isTold_565 rfl rfl hl.1 ⟨rfl, rfl, (show 1 ≤ R.frames by omega), (show 20 ≤ R.locals by omega)⟩ (Nat.le_of_ble_eq_true rfl) ⟨by omega, by omega⟩ ?_
        refine lv_icmp_ne (tgt := 621) F.1 F.2.1 dL_isTold_568 (by decide) (fun c_17 => absurd rfl c_17) (fun c_17 => ?_)
        refine lv_aload_n F.1 F.2.1 dL_isTold_571 rfl (lv_at hl 2 rfl) ?_
        refine lv_iload F.1 F.2.1 dL_isTold_572 (lv_at hl 0 rfl) ?_
        refine lv_iconst (v := 5) F.1 F.2.1 dL_isTold_574 (by decide) ?_
        refine lw_ofVisit (rest := []) F w hd hM ho hR.r.ic (nI ((gv S) - (j + 1))) 5 hlf dL_isTold_575 hl.1 ⟨by omega, by omega⟩ (Nat.le_of_ble_eq_true rfl) ⟨by omega, by omega⟩ (fun v575 X AD H locs hv575 ho hd hM w => ?_)
        have hL := hY.un hd
        rw [hr_ofVisit] at hM
        refine lv_fold (y := f_L_open S Wf ((gv S) - (j + 1)) 0) (hv575.trans (an_ov5 hR (by omega))) ?_
        refine lv_iload F.1 F.2.1 dL_isTold_578 (lv_at hl 0 rfl) ?_
        refine lv_iconst (v := 0) F.1 F.2.1 dL_isTold_580 (by decide) ?_
        refine lv_aload F.1 F.2.1 dL_isTold_581 (lv_at hl 7 rfl) ?_
        refine lv_aload F.1 F.2.1 dL_isTold_583 (lv_at hl 10 rfl) ?_
        refine lv_aload F.1 F.2.1 dL_isTold_585 (lv_at hl 11 rfl) ?_
        refine q_rS (rest := [.int (f_L_open S Wf ((gv S) - (j + 1)) 0)]) F w kS_L_153 hd_L_open (c_L_open l D cy A _ ad S Wf hL ((gv S) - (j + 1)) 0 (show (gv S) - (j + 1) < 50 by omega)) dL_isTold_587 rfl rfl hl.1 ⟨rfl, rfl, (show 2 ≤ R.frames by omega), (show 46 ≤ R.locals by omega)⟩ (Nat.le_of_ble_eq_true rfl) ⟨by omega, by omega⟩ ?_
        refine lv_icmp_ne (tgt := 621) F.1 F.2.1 dL_isTold_590 (by decide) (fun c_18 => absurd rfl c_18) (fun c_18 => ?_)
        refine lv_aload_n F.1 F.2.1 dL_isTold_593 rfl (lv_at hl 2 rfl) ?_
        refine lv_iload F.1 F.2.1 dL_isTold_594 (lv_at hl 0 rfl) ?_
        refine lv_bipush (v := 6) F.1 F.2.1 dL_isTold_596 (by decide) ?_
        refine lw_ofVisit (rest := []) F w hd hM ho hR.r.ic (nI ((gv S) - (j + 1))) 6 hlf dL_isTold_598 hl.1 ⟨by omega, by omega⟩ (Nat.le_of_ble_eq_true rfl) ⟨by omega, by omega⟩ (fun v598 X AD H locs hv598 ho hd hM w => ?_)
        have hL := hY.un hd
        rw [hr_ofVisit] at hM
        refine lv_fold (y := if f_L_counts S ((gv S) - (j + 1)) = 0 then 0 else 1) (hv598.trans (an_ov6 hR (by omega))) ?_
        refine lv_iload F.1 F.2.1 dL_isTold_601 (lv_at hl 0 rfl) ?_
        refine lv_aload F.1 F.2.1 dL_isTold_603 (lv_at hl 7 rfl) ?_
        refine lv_aload F.1 F.2.1 dL_isTold_605 (lv_at hl 9 rfl) ?_
        refine q_rS (rest := [.int (if f_L_counts S ((gv S) - (j + 1)) = 0 then 0 else 1)]) F w kS_L_104 hd_L_counts (c_L_counts l D cy A _ ad S Wf hL ((gv S) - (j + 1)) (show (gv S) - (j + 1) < 50 by omega)) dL_isTold_607 rfl rfl hl.1 ⟨rfl, rfl, (show 2 ≤ R.frames by omega), (show 42 ≤ R.locals by omega)⟩ (Nat.le_of_ble_eq_true rfl) ⟨by omega, by omega⟩ ?_
        refine jn0 (m := m) (ls := ls) (rest := [.int (if f_L_counts S ((gv S) - (j + 1)) = 0 then 0 else 1)]) (if f_L_counts S ((gv S) - (j + 1)) = 0 then 0 else 1) 618 (fun J_19 => ?_) ?_
        · refine lv_if_eq (tgt := 617) F.1 F.2.1 dL_isTold_610 (by decide) (fun c_20 => ?_) (fun c_20 => ?_)
          · refine lv_iconst (v := 0) F.1 F.2.1 dL_isTold_617 (by decide) ?_
            exact jn_a (if_pos c_20) J_19
          · refine lv_iconst (v := 1) F.1 F.2.1 dL_isTold_613 (by decide) ?_
            refine lv_goto (tgt := 618) F.1 F.2.1 dL_isTold_614 (by decide) ?_
            exact jn_a (if_neg c_20) J_19
        refine lv_icmp_eq (tgt := 623) F.1 F.2.1 dL_isTold_618 (by decide) (fun c_21 => ?_) (fun c_21 => absurd rfl c_21)
        refine lv_iinc (v := nI (j + 1 + 1)) (lv' := [(11, .int (nI (j + 1 + 1))), (12, .int (nI ((gv S) - (j + 1)))), (0, .ref o), (1, .int u), (2, .ref (ad 2)), (3, .ref (ad 3)), (4, .ref (ad 4)), (5, .ref (ad 5)), (6, .ref (ad 6)), (7, .ref (ad 7)), (8, .ref (ad 8)), (9, .ref (ad 9)), (10, .ref (ad 10))]) F.1 F.2.1 dL_isTold_623 hl (k := 1) rfl (nI_1 _) (by decide) rfl (fun ls hl => ?_)
        refine lv_goto (tgt := 439) F.1 F.2.1 dL_isTold_626 (by decide) ?_
        have hj5 : j < 4 := hj4
        exact K439 (cells := _) (slots := _) hj5 ⟨by omega, by omega⟩ ho hd hM w (lv_sub hl [0, 2, 3, 4, 5, 6, 7, 8, 9, 10, 11, 12] rfl)
theorem it_loop3 {p : Program} {l : Launch} {e : Env} {R : Room} {s : State} {m : MethodId} {args : Array Value} {below : List Frame} {meth : Method} {c : Code} {D : va_G} {cy : Nat → ClassId} {A : Nat → Prop} {o : Nat} {ad : Nat → Nat} {n : Nat} {G M S : GS} {Wf : Nat → Int64} {u : Int32} (F : CallFix p m c cL_isTold 18 s args BIG RL) (hlf : l.stackTraces = false) (hRm : 10 ≤ R.frames ∧ 230 ≤ R.locals ∧ 70 ≤ R.cells ∧ 420 ≤ R.slots) (hr : meth.sig.returnType = some .boolean) (hlk : meth.locks = false) (hR : R26 n G M S Wf) {Y : MU} (hY : RepL cy ad S Wf Y)  {X : MU} {AD : AM} {H : Heap} {locs : List Loc} {cells slots : Nat} (hf : cells ≤ 36 ∧ slots ≤ 6 * (36)) (ho : AD 0 0 0 = o) (hd : dis X Y) (hM : RepC cy AD G X) (w : WW D cy A (un X Y) s H locs) {ls : Array Slot} (hl : lv_has ls 18 [(11, .int (nI (0 + 1))), (0, .ref o), (1, .int u), (2, .ref (ad 2)), (3, .ref (ad 3)), (4, .ref (ad 4)), (5, .ref (ad 5)), (6, .ref (ad 6)), (7, .ref (ad 7)), (8, .ref (ad 8)), (9, .ref (ad 9)), (10, .ref (ad 10))]) : W p l e R s m args below meth c H locs cells slots (MQ below (va_Qi (fun (r9 : Int32) (μ1 : MU) => r9 = 1 ∧ ∃ (X1 : MU) (AD1 : AM), μ1 = un X1 Y ∧ dis X1 Y ∧ AD1 0 0 0 = o ∧ RepC cy AD1 G X1) (fun μ1 t => Wd D cy A μ1 t) A) args s 70 420 A) (F0 m 439 ls []) := by
  have h : ∀ (d j : Nat), j + d = 4 → ∀ {X : MU} {AD : AM} {H : Heap} {locs : List Loc} {cells slots : Nat} {ls : Array Slot}, (cells ≤ 36 + 7 * j ∧ slots ≤ 6 * (36 + 7 * j)) → AD 0 0 0 = o → dis X Y → RepC cy AD G X → WW D cy A (un X Y) s H locs → lv_has ls 18 [(11, .int (nI (j + 1))), (0, .ref o), (1, .int u), (2, .ref (ad 2)), (3, .ref (ad 3)), (4, .ref (ad 4)), (5, .ref (ad 5)), (6, .ref (ad 6)), (7, .ref (ad 7)), (8, .ref (ad 8)), (9, .ref (ad 9)), (10, .ref (ad 10))] → W p l e R s m args below meth c H locs cells slots (MQ below (va_Qi (fun (r9 : Int32) (μ1 : MU) => r9 = 1 ∧ ∃ (X1 : MU) (AD1 : AM), μ1 = un X1 Y ∧ dis X1 Y ∧ AD1 0 0 0 = o ∧ RepC cy AD1 G X1) (fun μ1 t => Wd D cy A μ1 t) A) args s 70 420 A) (F0 m 439 ls []) := by
    intro d
    induction d with
    | zero =>
      intro j hj X AD H locs cells slots ls hf ho hd hM w hl
      exact it_439 F hlf hRm hr hlk hR hY (by omega) (fun hf ho hd hM w hl => it_629 F hlf hRm hr hlk hR hf ho hd hM hY w hl) (fun hj5 _ _ _ _ _ _ => absurd hj5 (by omega)) hf ho hd hM w hl
    | succ d ih =>
      intro j hj X AD H locs cells slots ls hf ho hd hM w hl
      exact it_439 F hlf hRm hr hlk hR hY (by omega) (fun hf ho hd hM w hl => it_629 F hlf hRm hr hlk hR hf ho hd hM hY w hl) (fun _ hf ho hd hM w hl => ih (j + 1) (by omega) hf ho hd hM w hl) hf ho hd hM w hl
  exact h 4 0 rfl hf ho hd hM w hl
def L_L_isTold_274_15 (S : GS) (q228 : Nat) (q237 : Nat) (q252 : Nat) : Nat → Int32
  | 0 => 0
  | k274 + 1 => if (S 5 k274) &&& 3 = nI q228 then (if 3 ≤ (nI q252) - (S 6 k274) then (L_L_isTold_274_15 S q228 q237 q252 k274) + (f_L_findings (S 5 k274)) else (if (nI q252) - (S 6 k274) < 0 then L_L_isTold_274_15 S q228 q237 q252 k274 else (if ((S 5 k274) >>> (2 &&& 31)) &&& 3 = nI q237 then (L_L_isTold_274_15 S q228 q237 q252 k274) + (f_L_findings (S 5 k274)) else L_L_isTold_274_15 S q228 q237 q252 k274))) else L_L_isTold_274_15 S q228 q237 q252 k274
theorem kn_e {n : Nat} {G M S : GS} {Wf : Nat → Int64} (h : R26 n G M S Wf) {s p d : Nat} (hs : s < gnS M) (hp : p < 4) (hd : nI d ≤ M 1 0) (hd9 : d < 2 ^ 31) : A_knew G (nI s) (nI p) (nI d) = L_L_isTold_274_15 S s p d (gv S) := by
  rw [an_kn h hs hp hd hd9, h.eV]
  unfold f_X7_knew
  have hb := h.b.2.2
  have hd5 : d ≤ 9000 := by
    obtain ⟨t, t1, t2⟩ := h.td
    rw [t2] at hd
    have := (nI_leI (by omega) (by omega)).mp hd
    omega
  have : ∀ k, k ≤ gnV M → L_X7_knew_46_4 M s (nI p) (nI d) k = L_L_isTold_274_15 S s p d k := by
    intro k
    induction k with
    | zero => intro _; rfl
    | succ k ih =>
      intro hk
      have hv : k < gnV M := by omega
      obtain ⟨a1, a2, -⟩ := (h.a k hv).g
      obtain ⟨d1, D, d2, d3⟩ := h.d k hv
      have hf := vl_fnd h hv
      have e3 : nI D + 3 = nI (D + 3) := nI_add D 3
      have i1 : (nI d < nI D + 3) ↔ d < D + 3 := by rw [e3, nI_ltI (by omega) (by omega)]
      have i0 : (nI d < nI D + 0) ↔ d < D := by rw [Int32.add_zero, nI_ltI (by omega) (by omega)]
      have s3 : ((3 : Int32) ≤ nI d - nI D) ↔ D + 3 ≤ d := by
        rw [Int32.le_iff_toInt_le, pk_sub_toInt (by omega) (by omega)]
        show (3 : Int) ≤ _ ↔ _
        omega
      have s0 : (nI d - nI D < 0) ↔ d < D := by
        rw [Int32.lt_iff_toInt_lt, pk_sub_toInt (by omega) (by omega)]
        show _ < (0 : Int) ↔ _
        omega
      have e1 : L_X7_knew_46_4 M s (nI p) (nI d) (k + 1) = (L_X7_knew_46_4 M s (nI p) (nI d) k) + (if v_X7_knew_106 M s (nI p) (nI d) k = 0 then 0 else M 35 k) := rfl
      have e2 : L_L_isTold_274_15 S s p d (k + 1) = if (S 5 k) &&& 3 = nI s then (if 3 ≤ (nI d) - (S 6 k) then (L_L_isTold_274_15 S s p d k) + (f_L_findings (S 5 k)) else (if (nI d) - (S 6 k) < 0 then L_L_isTold_274_15 S s p d k else (if ((S 5 k) >>> (2 &&& 31)) &&& 3 = nI p then (L_L_isTold_274_15 S s p d k) + (f_L_findings (S 5 k)) else L_L_isTold_274_15 S s p d k))) else L_L_isTold_274_15 S s p d k := rfl
      rw [e1, e2, ih (by omega), a1, a2, hf, d1, d3]
      unfold v_X7_knew_106
      rw [d3]
      by_cases c1 : M 30 k = nI s
      · rw [if_pos c1, if_pos c1]
        by_cases c2 : D + 3 ≤ d
        · rw [if_pos (s3.mpr c2)]
          by_cases c4 : M 31 k = nI p
          · rw [if_pos c4, if_neg (show ¬ (nI d < nI D + 0) from fun q => by have := i0.mp q; omega), if_neg one_ne]
          · rw [if_neg c4, if_neg (show ¬ (nI d < nI D + 3) from fun q => by have := i1.mp q; omega), if_neg one_ne]
        · rw [if_neg (fun q => c2 (s3.mp q))]
          by_cases c3 : d < D
          · rw [if_pos (s0.mpr c3)]
            by_cases c4 : M 31 k = nI p
            · rw [if_pos c4, if_pos (i0.mpr c3), if_pos rfl, Int32.add_zero]
            · rw [if_neg c4, if_pos (i1.mpr (by omega)), if_pos rfl, Int32.add_zero]
          · rw [if_neg (fun q => c3 (s0.mp q))]
            by_cases c4 : M 31 k = nI p
            · rw [if_pos c4, if_pos c4, if_neg (show ¬ (nI d < nI D + 0) from fun q => c3 (i0.mp q)), if_neg one_ne]
            · rw [if_neg c4, if_neg c4, if_pos (i1.mpr (by omega)), if_pos rfl, Int32.add_zero]
      · rw [if_neg c1, if_neg c1, if_pos rfl, Int32.add_zero]
  exact this _ (Nat.le_refl _)
set_option maxHeartbeats 4000000 in
set_option maxRecDepth 100000 in
theorem it_214 {p : Program} {l : Launch} {e : Env} {R : Room} {s : State} {m : MethodId} {args : Array Value} {below : List Frame} {meth : Method} {c : Code} {D : va_G} {cy : Nat → ClassId} {A : Nat → Prop} {o : Nat} {ad : Nat → Nat} {n : Nat} {G M S : GS} {Wf : Nat → Int64} {u : Int32} (F : CallFix p m c cL_isTold 18 s args BIG RL) (hlf : l.stackTraces = false) (hRm : 10 ≤ R.frames ∧ 230 ≤ R.locals ∧ 70 ≤ R.cells ∧ 420 ≤ R.slots) (hr : meth.sig.returnType = some .boolean) (hlk : meth.locks = false) (hR : R26 n G M S Wf) {Y : MU} (hY : RepL cy ad S Wf Y) (K436 : ∀ {X : MU} {AD : AM} {H : Heap} {locs : List Loc} {cells slots : Nat} {ls : Array Slot}, (cells ≤ 36 ∧ slots ≤ 6 * (36)) → AD 0 0 0 = o → dis X Y → RepC cy AD G X → WW D cy A (un X Y) s H locs → lv_has ls 18 [(0, .ref o), (1, .int u), (2, .ref (ad 2)), (3, .ref (ad 3)), (4, .ref (ad 4)), (5, .ref (ad 5)), (6, .ref (ad 6)), (7, .ref (ad 7)), (8, .ref (ad 8)), (9, .ref (ad 9)), (10, .ref (ad 10))] → W p l e R s m args below meth c H locs cells slots (MQ below (va_Qi (fun (r9 : Int32) (μ1 : MU) => r9 = 1 ∧ ∃ (X1 : MU) (AD1 : AM), μ1 = un X1 Y ∧ dis X1 Y ∧ AD1 0 0 0 = o ∧ RepC cy AD1 G X1) (fun μ1 t => Wd D cy A μ1 t) A) args s 70 420 A) (F0 m 436 ls [])) {X : MU} {AD : AM} {H : Heap} {locs : List Loc} {cells slots : Nat} (hf : cells ≤ 32 ∧ slots ≤ 6 * (32)) (ho : AD 0 0 0 = o) (hd : dis X Y) (hM : RepC cy AD G X) (w : WW D cy A (un X Y) s H locs) {ls : Array Slot} (hl : lv_has ls 18 [(0, .ref o), (1, .int u), (2, .ref (ad 2)), (3, .ref (ad 3)), (4, .ref (ad 4)), (5, .ref (ad 5)), (6, .ref (ad 6)), (7, .ref (ad 7)), (8, .ref (ad 8)), (9, .ref (ad 9)), (10, .ref (ad 10))]) : W p l e R s m args below meth c H locs cells slots (MQ below (va_Qi (fun (r9 : Int32) (μ1 : MU) => r9 = 1 ∧ ∃ (X1 : MU) (AD1 : AM), μ1 = un X1 Y ∧ dis X1 Y ∧ AD1 0 0 0 = o ∧ RepC cy AD1 G X1) (fun μ1 t => Wd D cy A μ1 t) A) args s 70 420 A) (F0 m 214 ls []) := by
  have hL := hY.un hd
  obtain ⟨t, ht9, ht⟩ := hR.td
  have hb4 := hR.b
  have heV := hR.eV
  refine lv_aload F.1 F.2.1 dL_isTold_214 (lv_at hl 10 rfl) ?_
  refine lv_bipush (v := 8) F.1 F.2.1 dL_isTold_216 (by decide) ?_
  refine l_ild F w hL 10 rfl 8 (show 8 < 9 by omega) dL_isTold_218 ?_
  refine lv_if_le (tgt := 436) F.1 F.2.1 dL_isTold_219 (by decide) (fun c_1 => ?_) (fun c_1 => ?_)
  · exact K436 (cells := _) (slots := _) ⟨by omega, by omega⟩ ho hd hM w (lv_sub hl [0, 1, 2, 3, 4, 5, 6, 7, 8, 9, 10] rfl)
  · have hs0 : 0 < gnS M := g8pos hR c_1
    refine lv_iload_n F.1 F.2.1 dL_isTold_222 rfl (lv_at hl 1 rfl) ?_
    refine lv_aload F.1 F.2.1 dL_isTold_223 (lv_at hl 10 rfl) ?_
    refine lv_bipush (v := 8) F.1 F.2.1 dL_isTold_225 (by decide) ?_
    refine l_ild F w hL 10 rfl 8 (show 8 < 9 by omega) dL_isTold_227 ?_
    refine lv_fold (y := nI (gnS M)) (hR.g8.trans hR.nS) ?_
    obtain ⟨q228, hq228, eq228⟩ := low_ok u (n := gnS M) (by omega) (by omega)
    refine q_rS (rest := []) F w kS_L_134 hd_L_low (c_L_low l D cy A _ u (nI (gnS M)) (nI_ne0 (by omega) (by omega))) dL_isTold_228 rfl rfl hl.1 ⟨rfl, rfl, (show 1 ≤ R.frames by omega), (show 21 ≤ R.locals by omega)⟩ (Nat.le_of_ble_eq_true rfl) ⟨by omega, by omega⟩ ?_
    refine lv_fold (y := nI q228) eq228 ?_
    refine lv_istore (lv' := [(11, .int (nI q228)), (0, .ref o), (1, .int u), (2, .ref (ad 2)), (3, .ref (ad 3)), (4, .ref (ad 4)), (5, .ref (ad 5)), (6, .ref (ad 6)), (7, .ref (ad 7)), (8, .ref (ad 8)), (9, .ref (ad 9)), (10, .ref (ad 10))]) F.1 F.2.1 dL_isTold_231 hl (by decide) rfl (fun ls hl => ?_)
    refine lv_iload_n F.1 F.2.1 dL_isTold_233 rfl (lv_at hl 2 rfl) ?_
    refine lv_iconst (v := 3) F.1 F.2.1 dL_isTold_234 (by decide) ?_
    refine lv_ishr F.1 F.2.1 dL_isTold_235 ?_
    refine lv_iconst (v := 4) F.1 F.2.1 dL_isTold_236 (by decide) ?_
    obtain ⟨q237, hq237, eq237⟩ := low_ok (u >>> (3 &&& 31)) (n := 4) (by omega) (by omega)
    refine q_rS (rest := []) F w kS_L_134 hd_L_low (c_L_low l D cy A _ (u >>> (3 &&& 31)) 4 (by decide)) dL_isTold_237 rfl rfl hl.1 ⟨rfl, rfl, (show 1 ≤ R.frames by omega), (show 21 ≤ R.locals by omega)⟩ (Nat.le_of_ble_eq_true rfl) ⟨by omega, by omega⟩ ?_
    refine lv_fold (y := nI q237) eq237 ?_
    refine lv_istore (lv' := [(12, .int (nI q237)), (11, .int (nI q228)), (0, .ref o), (1, .int u), (2, .ref (ad 2)), (3, .ref (ad 3)), (4, .ref (ad 4)), (5, .ref (ad 5)), (6, .ref (ad 6)), (7, .ref (ad 7)), (8, .ref (ad 8)), (9, .ref (ad 9)), (10, .ref (ad 10))]) F.1 F.2.1 dL_isTold_240 hl (by decide) rfl (fun ls hl => ?_)
    refine lv_iload_n F.1 F.2.1 dL_isTold_242 rfl (lv_at hl 3 rfl) ?_
    refine lv_bipush (v := 6) F.1 F.2.1 dL_isTold_243 (by decide) ?_
    refine lv_ishr F.1 F.2.1 dL_isTold_245 ?_
    refine lv_aload F.1 F.2.1 dL_isTold_246 (lv_at hl 12 rfl) ?_
    refine lv_iconst (v := 0) F.1 F.2.1 dL_isTold_248 (by decide) ?_
    refine l_ild F w hL 10 rfl 0 (show 0 < 9 by omega) dL_isTold_249 ?_
    refine lv_fold (y := nI t) (hR.g0.trans ht) ?_
    refine lv_iconst (v := 1) F.1 F.2.1 dL_isTold_250 (by decide) ?_
    refine lv_iadd F.1 F.2.1 dL_isTold_251 ?_
    refine lv_fold (y := nI (t + 1)) (nI_add t 1) ?_
    obtain ⟨q252, hq252, eq252⟩ := low_ok (u >>> (6 &&& 31)) (n := t + 1) (by omega) (by omega)
    refine q_rS (rest := []) F w kS_L_134 hd_L_low (c_L_low l D cy A _ (u >>> (6 &&& 31)) (nI (t + 1)) (nI_ne0 (by omega) (by omega))) dL_isTold_252 rfl rfl hl.1 ⟨rfl, rfl, (show 1 ≤ R.frames by omega), (show 21 ≤ R.locals by omega)⟩ (Nat.le_of_ble_eq_true rfl) ⟨by omega, by omega⟩ ?_
    refine lv_fold (y := nI q252) eq252 ?_
    refine lv_istore (lv' := [(13, .int (nI q252)), (12, .int (nI q237)), (11, .int (nI q228)), (0, .ref o), (1, .int u), (2, .ref (ad 2)), (3, .ref (ad 3)), (4, .ref (ad 4)), (5, .ref (ad 5)), (6, .ref (ad 6)), (7, .ref (ad 7)), (8, .ref (ad 8)), (9, .ref (ad 9)), (10, .ref (ad 10))]) F.1 F.2.1 dL_isTold_255 hl (by decide) rfl (fun ls hl => ?_)
    refine lv_iload_n F.1 F.2.1 dL_isTold_257 rfl (lv_at hl 4 rfl) ?_
    refine lv_bipush (v := 9) F.1 F.2.1 dL_isTold_258 (by decide) ?_
    refine lv_ishr F.1 F.2.1 dL_isTold_260 ?_
    refine lv_bipush (v := 10) F.1 F.2.1 dL_isTold_261 (by decide) ?_
    obtain ⟨q263, hq263, eq263⟩ := low_ok (u >>> (9 &&& 31)) (n := 10) (by omega) (by omega)
    refine q_rS (rest := []) F w kS_L_134 hd_L_low (c_L_low l D cy A _ (u >>> (9 &&& 31)) 10 (by decide)) dL_isTold_263 rfl rfl hl.1 ⟨rfl, rfl, (show 1 ≤ R.frames by omega), (show 21 ≤ R.locals by omega)⟩ (Nat.le_of_ble_eq_true rfl) ⟨by omega, by omega⟩ ?_
    refine lv_fold (y := nI q263) eq263 ?_
    refine lv_istore (lv' := [(14, .int (nI q263)), (13, .int (nI q252)), (12, .int (nI q237)), (11, .int (nI q228)), (0, .ref o), (1, .int u), (2, .ref (ad 2)), (3, .ref (ad 3)), (4, .ref (ad 4)), (5, .ref (ad 5)), (6, .ref (ad 6)), (7, .ref (ad 7)), (8, .ref (ad 8)), (9, .ref (ad 9)), (10, .ref (ad 10))]) F.1 F.2.1 dL_isTold_266 hl (by decide) rfl (fun ls hl => ?_)
    refine lv_iconst (v := 0) F.1 F.2.1 dL_isTold_268 (by decide) ?_
    refine lv_istore (lv' := [(15, .int 0), (14, .int (nI q263)), (13, .int (nI q252)), (12, .int (nI q237)), (11, .int (nI q228)), (0, .ref o), (1, .int u), (2, .ref (ad 2)), (3, .ref (ad 3)), (4, .ref (ad 4)), (5, .ref (ad 5)), (6, .ref (ad 6)), (7, .ref (ad 7)), (8, .ref (ad 8)), (9, .ref (ad 9)), (10, .ref (ad 10))]) F.1 F.2.1 dL_isTold_269 hl (by decide) rfl (fun ls hl => ?_)
    refine lv_iconst (v := 0) F.1 F.2.1 dL_isTold_271 (by decide) ?_
    refine lv_istore (lv' := [(16, .int 0), (15, .int 0), (14, .int (nI q263)), (13, .int (nI q252)), (12, .int (nI q237)), (11, .int (nI q228)), (0, .ref o), (1, .int u), (2, .ref (ad 2)), (3, .ref (ad 3)), (4, .ref (ad 4)), (5, .ref (ad 5)), (6, .ref (ad 6)), (7, .ref (ad 7)), (8, .ref (ad 8)), (9, .ref (ad 9)), (10, .ref (ad 10))]) F.1 F.2.1 dL_isTold_272 hl (by decide) rfl (fun ls hl => ?_)
    refine q_loop (P := fun k274 ls => lv_has ls 18 [(16, .int (nI k274)), (15, .int (L_L_isTold_274_15 S q228 q237 q252 k274)), (14, .int (nI q263)), (13, .int (nI q252)), (12, .int (nI q237)), (11, .int (nI q228)), (0, .ref o), (1, .int u), (2, .ref (ad 2)), (3, .ref (ad 3)), (4, .ref (ad 4)), (5, .ref (ad 5)), (6, .ref (ad 6)), (7, .ref (ad 7)), (8, .ref (ad 8)), (9, .ref (ad 9)), (10, .ref (ad 10))]) (gv S) (fun k274 ls hk274 hl ih274 => ?_) 0 ls (Nat.zero_le _) (lv_cg (lv_sub hl [0, 1, 2, 3, 4, 5, 6, 7, 8, 9, 10, 11, 12, 13, 14, 15, 16] rfl) rfl)
    refine lv_iload F.1 F.2.1 dL_isTold_274 (lv_at hl 0 rfl) ?_
    refine lv_aload F.1 F.2.1 dL_isTold_276 (lv_at hl 16 rfl) ?_
    refine lv_iconst (v := 2) F.1 F.2.1 dL_isTold_278 (by decide) ?_
    refine l_ild F w hL 10 rfl 2 (show 2 < 9 by omega) dL_isTold_279 ?_
    refine lv_fold (y := nI (gv S)) (hR.hV.1) ?_
    refine lv_icmp_ge (tgt := 349) F.1 F.2.1 dL_isTold_280 (by decide) (fun c_2 => ?_) (fun c_2 => ?_)
    rotate_left
    · have hlt274 : k274 < (gv S) := GB_ilt (n := gv S) rfl (by omega) hk274 c_2
      refine lv_iload F.1 F.2.1 dL_isTold_283 (lv_at hl 3 rfl) ?_
      refine lv_aload F.1 F.2.1 dL_isTold_285 (lv_at hl 12 rfl) ?_
      refine lv_iload F.1 F.2.1 dL_isTold_287 (lv_at hl 0 rfl) ?_
      refine l_ild F w hL 6 rfl k274 (show k274 < 50 by omega) dL_isTold_289 ?_
      refine lv_isub F.1 F.2.1 dL_isTold_290 ?_
      refine lv_istore (lv' := [(17, .int ((nI q252) - (S 6 k274))), (16, .int (nI k274)), (15, .int (L_L_isTold_274_15 S q228 q237 q252 k274)), (14, .int (nI q263)), (13, .int (nI q252)), (12, .int (nI q237)), (11, .int (nI q228)), (0, .ref o), (1, .int u), (2, .ref (ad 2)), (3, .ref (ad 3)), (4, .ref (ad 4)), (5, .ref (ad 5)), (6, .ref (ad 6)), (7, .ref (ad 7)), (8, .ref (ad 8)), (9, .ref (ad 9)), (10, .ref (ad 10))]) F.1 F.2.1 dL_isTold_291 hl (by decide) rfl (fun ls hl => ?_)
      refine lv_aload F.1 F.2.1 dL_isTold_293 (lv_at hl 12 rfl) ?_
      refine lv_iload F.1 F.2.1 dL_isTold_295 (lv_at hl 1 rfl) ?_
      refine l_ild F w hL 5 rfl k274 (show k274 < 50 by omega) dL_isTold_297 ?_
      refine lv_iconst (v := 3) F.1 F.2.1 dL_isTold_298 (by decide) ?_
      refine lv_iand F.1 F.2.1 dL_isTold_299 ?_
      refine lv_iload F.1 F.2.1 dL_isTold_300 (lv_at hl 6 rfl) ?_
      refine jnl (m := m) 18 [(17, .int ((nI q252) - (S 6 k274))), (16, .int (nI k274)), (15, .int (if (S 5 k274) &&& 3 = nI q228 then (if 3 ≤ (nI q252) - (S 6 k274) then (L_L_isTold_274_15 S q228 q237 q252 k274) + (f_L_findings (S 5 k274)) else (if (nI q252) - (S 6 k274) < 0 then L_L_isTold_274_15 S q228 q237 q252 k274 else (if ((S 5 k274) >>> (2 &&& 31)) &&& 3 = nI q237 then (L_L_isTold_274_15 S q228 q237 q252 k274) + (f_L_findings (S 5 k274)) else L_L_isTold_274_15 S q228 q237 q252 k274))) else L_L_isTold_274_15 S q228 q237 q252 k274)), (14, .int (nI q263)), (13, .int (nI q252)), (12, .int (nI q237)), (11, .int (nI q228)), (0, .ref o), (1, .int u), (2, .ref (ad 2)), (3, .ref (ad 3)), (4, .ref (ad 4)), (5, .ref (ad 5)), (6, .ref (ad 6)), (7, .ref (ad 7)), (8, .ref (ad 8)), (9, .ref (ad 9)), (10, .ref (ad 10))] [] 343 (fun J_3 => ?_) ?_
      · refine lv_icmp_ne (tgt := 343) F.1 F.2.1 dL_isTold_302 (by decide) (fun c_4 => ?_) (fun c_4 => ?_)
        · exact J_3 ls (lv_sub hl [0, 1, 2, 3, 4, 5, 6, 7, 8, 9, 10, 11, 12, 13, 14, 15, 16, 17] (by rw [((if_neg c_4) : (if (S 5 k274) &&& 3 = nI q228 then (if 3 ≤ (nI q252) - (S 6 k274) then (L_L_isTold_274_15 S q228 q237 q252 k274) + (f_L_findings (S 5 k274)) else (if (nI q252) - (S 6 k274) < 0 then L_L_isTold_274_15 S q228 q237 q252 k274 else (if ((S 5 k274) >>> (2 &&& 31)) &&& 3 = nI q237 then (L_L_isTold_274_15 S q228 q237 q252 k274) + (f_L_findings (S 5 k274)) else L_L_isTold_274_15 S q228 q237 q252 k274))) else L_L_isTold_274_15 S q228 q237 q252 k274) = L_L_isTold_274_15 S q228 q237 q252 k274)] <;> rfl))
        · refine lv_iload F.1 F.2.1 dL_isTold_305 (lv_at hl 0 rfl) ?_
          refine lv_iconst (v := 3) F.1 F.2.1 dL_isTold_307 (by decide) ?_
          refine lv_icmp_ge (tgt := 330) F.1 F.2.1 dL_isTold_308 (by decide) (fun c_5 => ?_) (fun c_5 => ?_)
          · refine lv_iload F.1 F.2.1 dL_isTold_330 (lv_at hl 2 rfl) ?_
            refine lv_aload F.1 F.2.1 dL_isTold_332 (lv_at hl 12 rfl) ?_
            refine lv_iload F.1 F.2.1 dL_isTold_334 (lv_at hl 1 rfl) ?_
            refine l_ild F w hL 5 rfl k274 (show k274 < 50 by omega) dL_isTold_336 ?_
            refine q_rS (rest := [.int (L_L_isTold_274_15 S q228 q237 q252 k274)]) F w kS_L_112 hd_L_findings (c_L_findings l D cy A _ (S 5 k274)) dL_isTold_337 rfl rfl hl.1 ⟨rfl, rfl, (show 1 ≤ R.frames by omega), (show 20 ≤ R.locals by omega)⟩ (Nat.le_of_ble_eq_true rfl) ⟨by omega, by omega⟩ ?_
            refine lv_iadd F.1 F.2.1 dL_isTold_340 ?_
            refine lv_istore (lv' := [(15, .int ((L_L_isTold_274_15 S q228 q237 q252 k274) + (f_L_findings (S 5 k274)))), (17, .int ((nI q252) - (S 6 k274))), (16, .int (nI k274)), (14, .int (nI q263)), (13, .int (nI q252)), (12, .int (nI q237)), (11, .int (nI q228)), (0, .ref o), (1, .int u), (2, .ref (ad 2)), (3, .ref (ad 3)), (4, .ref (ad 4)), (5, .ref (ad 5)), (6, .ref (ad 6)), (7, .ref (ad 7)), (8, .ref (ad 8)), (9, .ref (ad 9)), (10, .ref (ad 10))]) F.1 F.2.1 dL_isTold_341 hl (by decide) rfl (fun ls hl => ?_)
            exact J_3 ls (lv_sub hl [1, 2, 0, 3, 4, 5, 6, 7, 8, 9, 10, 11, 12, 13, 14, 15, 16, 17] (by rw [(((if_pos c_4).trans (if_pos c_5)) : (if (S 5 k274) &&& 3 = nI q228 then (if 3 ≤ (nI q252) - (S 6 k274) then (L_L_isTold_274_15 S q228 q237 q252 k274) + (f_L_findings (S 5 k274)) else (if (nI q252) - (S 6 k274) < 0 then L_L_isTold_274_15 S q228 q237 q252 k274 else (if ((S 5 k274) >>> (2 &&& 31)) &&& 3 = nI q237 then (L_L_isTold_274_15 S q228 q237 q252 k274) + (f_L_findings (S 5 k274)) else L_L_isTold_274_15 S q228 q237 q252 k274))) else L_L_isTold_274_15 S q228 q237 q252 k274) = (L_L_isTold_274_15 S q228 q237 q252 k274) + (f_L_findings (S 5 k274)))] <;> rfl))
          · refine lv_iload F.1 F.2.1 dL_isTold_311 (lv_at hl 0 rfl) ?_
            refine lv_if_lt (tgt := 343) F.1 F.2.1 dL_isTold_313 (by decide) (fun c_6 => ?_) (fun c_6 => ?_)
            · exact J_3 ls (lv_sub hl [0, 1, 2, 3, 4, 5, 6, 7, 8, 9, 10, 11, 12, 13, 14, 15, 16, 17] (by rw [(((if_pos c_4).trans ((if_neg c_5).trans (if_pos c_6))) : (if (S 5 k274) &&& 3 = nI q228 then (if 3 ≤ (nI q252) - (S 6 k274) then (L_L_isTold_274_15 S q228 q237 q252 k274) + (f_L_findings (S 5 k274)) else (if (nI q252) - (S 6 k274) < 0 then L_L_isTold_274_15 S q228 q237 q252 k274 else (if ((S 5 k274) >>> (2 &&& 31)) &&& 3 = nI q237 then (L_L_isTold_274_15 S q228 q237 q252 k274) + (f_L_findings (S 5 k274)) else L_L_isTold_274_15 S q228 q237 q252 k274))) else L_L_isTold_274_15 S q228 q237 q252 k274) = L_L_isTold_274_15 S q228 q237 q252 k274)] <;> rfl))
            · refine lv_aload F.1 F.2.1 dL_isTold_316 (lv_at hl 12 rfl) ?_
              refine lv_iload F.1 F.2.1 dL_isTold_318 (lv_at hl 1 rfl) ?_
              refine l_ild F w hL 5 rfl k274 (show k274 < 50 by omega) dL_isTold_320 ?_
              refine lv_iconst (v := 2) F.1 F.2.1 dL_isTold_321 (by decide) ?_
              refine lv_ishr F.1 F.2.1 dL_isTold_322 ?_
              refine lv_iconst (v := 3) F.1 F.2.1 dL_isTold_323 (by decide) ?_
              refine lv_iand F.1 F.2.1 dL_isTold_324 ?_
              refine lv_iload F.1 F.2.1 dL_isTold_325 (lv_at hl 5 rfl) ?_
              refine lv_icmp_ne (tgt := 343) F.1 F.2.1 dL_isTold_327 (by decide) (fun c_7 => ?_) (fun c_7 => ?_)
              · exact J_3 ls (lv_sub hl [0, 1, 2, 3, 4, 5, 6, 7, 8, 9, 10, 11, 12, 13, 14, 15, 16, 17] (by rw [(((if_pos c_4).trans ((if_neg c_5).trans ((if_neg c_6).trans (if_neg c_7)))) : (if (S 5 k274) &&& 3 = nI q228 then (if 3 ≤ (nI q252) - (S 6 k274) then (L_L_isTold_274_15 S q228 q237 q252 k274) + (f_L_findings (S 5 k274)) else (if (nI q252) - (S 6 k274) < 0 then L_L_isTold_274_15 S q228 q237 q252 k274 else (if ((S 5 k274) >>> (2 &&& 31)) &&& 3 = nI q237 then (L_L_isTold_274_15 S q228 q237 q252 k274) + (f_L_findings (S 5 k274)) else L_L_isTold_274_15 S q228 q237 q252 k274))) else L_L_isTold_274_15 S q228 q237 q252 k274) = L_L_isTold_274_15 S q228 q237 q252 k274)] <;> rfl))
              · refine lv_iload F.1 F.2.1 dL_isTold_330 (lv_at hl 2 rfl) ?_
                refine lv_aload F.1 F.2.1 dL_isTold_332 (lv_at hl 12 rfl) ?_
                refine lv_iload F.1 F.2.1 dL_isTold_334 (lv_at hl 1 rfl) ?_
                refine l_ild F w hL 5 rfl k274 (show k274 < 50 by omega) dL_isTold_336 ?_
                refine q_rS (rest := [.int (L_L_isTold_274_15 S q228 q237 q252 k274)]) F w kS_L_112 hd_L_findings (c_L_findings l D cy A _ (S 5 k274)) dL_isTold_337 rfl rfl hl.1 ⟨rfl, rfl, (show 1 ≤ R.frames by omega), (show 20 ≤ R.locals by omega)⟩ (Nat.le_of_ble_eq_true rfl) ⟨by omega, by omega⟩ ?_
                refine lv_iadd F.1 F.2.1 dL_isTold_340 ?_
                refine lv_istore (lv' := [(15, .int ((L_L_isTold_274_15 S q228 q237 q252 k274) + (f_L_findings (S 5 k274)))), (17, .int ((nI q252) - (S 6 k274))), (16, .int (nI k274)), (14, .int (nI q263)), (13, .int (nI q252)), (12, .int (nI q237)), (11, .int (nI q228)), (0, .ref o), (1, .int u), (2, .ref (ad 2)), (3, .ref (ad 3)), (4, .ref (ad 4)), (5, .ref (ad 5)), (6, .ref (ad 6)), (7, .ref (ad 7)), (8, .ref (ad 8)), (9, .ref (ad 9)), (10, .ref (ad 10))]) F.1 F.2.1 dL_isTold_341 hl (by decide) rfl (fun ls hl => ?_)
                exact J_3 ls (lv_sub hl [1, 2, 0, 3, 4, 5, 6, 7, 8, 9, 10, 11, 12, 13, 14, 15, 16, 17] (by rw [(((if_pos c_4).trans ((if_neg c_5).trans ((if_neg c_6).trans (if_pos c_7)))) : (if (S 5 k274) &&& 3 = nI q228 then (if 3 ≤ (nI q252) - (S 6 k274) then (L_L_isTold_274_15 S q228 q237 q252 k274) + (f_L_findings (S 5 k274)) else (if (nI q252) - (S 6 k274) < 0 then L_L_isTold_274_15 S q228 q237 q252 k274 else (if ((S 5 k274) >>> (2 &&& 31)) &&& 3 = nI q237 then (L_L_isTold_274_15 S q228 q237 q252 k274) + (f_L_findings (S 5 k274)) else L_L_isTold_274_15 S q228 q237 q252 k274))) else L_L_isTold_274_15 S q228 q237 q252 k274) = (L_L_isTold_274_15 S q228 q237 q252 k274) + (f_L_findings (S 5 k274)))] <;> rfl))
      intro ls hl
      refine lv_iinc (v := nI (k274 + 1)) (lv' := [(16, .int (nI (k274 + 1))), (17, .int ((nI q252) - (S 6 k274))), (15, .int (if (S 5 k274) &&& 3 = nI q228 then (if 3 ≤ (nI q252) - (S 6 k274) then (L_L_isTold_274_15 S q228 q237 q252 k274) + (f_L_findings (S 5 k274)) else (if (nI q252) - (S 6 k274) < 0 then L_L_isTold_274_15 S q228 q237 q252 k274 else (if ((S 5 k274) >>> (2 &&& 31)) &&& 3 = nI q237 then (L_L_isTold_274_15 S q228 q237 q252 k274) + (f_L_findings (S 5 k274)) else L_L_isTold_274_15 S q228 q237 q252 k274))) else L_L_isTold_274_15 S q228 q237 q252 k274)), (14, .int (nI q263)), (13, .int (nI q252)), (12, .int (nI q237)), (11, .int (nI q228)), (0, .ref o), (1, .int u), (2, .ref (ad 2)), (3, .ref (ad 3)), (4, .ref (ad 4)), (5, .ref (ad 5)), (6, .ref (ad 6)), (7, .ref (ad 7)), (8, .ref (ad 8)), (9, .ref (ad 9)), (10, .ref (ad 10))]) F.1 F.2.1 dL_isTold_343 hl (k := 1) rfl (nI_1 _) (by decide) rfl (fun ls hl => ?_)
      refine lv_goto (tgt := 274) F.1 F.2.1 dL_isTold_346 (by decide) ?_
      exact ih274 ls hlt274 (lv_sub hl [0, 2, 3, 4, 5, 6, 7, 8, 9, 10, 11, 12, 13, 14, 15, 16, 17] rfl)
    have hkn274 : k274 = (gv S) := GB_ile (n := gv S) rfl (by omega) hk274 c_2
    subst hkn274
    refine lv_aload_n F.1 F.2.1 dL_isTold_349 rfl (lv_at hl 6 rfl) ?_
    refine lv_iload F.1 F.2.1 dL_isTold_350 (lv_at hl 5 rfl) ?_
    refine lv_iload F.1 F.2.1 dL_isTold_352 (lv_at hl 4 rfl) ?_
    refine lv_iload F.1 F.2.1 dL_isTold_354 (lv_at hl 3 rfl) ?_
    refine lw_knew (rest := []) F w hd hM ho hR.r.ic (nI q228) (nI q237) (nI q252) hlf dL_isTold_356 hl.1 ⟨by omega, by omega⟩ (Nat.le_of_ble_eq_true rfl) ⟨by omega, by omega⟩ (fun v356 X AD H locs hv356 ho hd hM w => ?_)
    have hL := hY.un hd
    rw [hr_knew] at hM
    refine lv_fold (y := L_L_isTold_274_15 S q228 q237 q252 (gv S)) (hv356.trans (kn_e hR hq228 hq237 (by rw [ht]; exact nI_le (by omega) (by omega)) (by omega))) ?_
    refine lv_iload F.1 F.2.1 dL_isTold_359 (lv_at hl 1 rfl) ?_
    refine lv_icmp_ne (tgt := 434) F.1 F.2.1 dL_isTold_361 (by decide) (fun c_8 => absurd rfl c_8) (fun c_8 => ?_)
    refine lv_aload_n F.1 F.2.1 dL_isTold_364 rfl (lv_at hl 6 rfl) ?_
    refine lv_iload F.1 F.2.1 dL_isTold_365 (lv_at hl 5 rfl) ?_
    refine lv_iload F.1 F.2.1 dL_isTold_367 (lv_at hl 2 rfl) ?_
    refine lw_isGround (rest := []) F w hd hM ho hR.r.ic (nI q228) (nI q263) hlf dL_isTold_369 hl.1 ⟨by omega, by omega⟩ (Nat.le_of_ble_eq_true rfl) ⟨by omega, by omega⟩ (fun v369 X AD H locs hv369 ho hd hM w => ?_)
    have hL := hY.un hd
    rw [hr_isGround] at hM
    refine lv_fold (y := if f_L_ground S q228 (nI q263) = 0 then 0 else 1) (hv369.trans (an_gr hR hq228 hq263)) ?_
    refine lv_iload F.1 F.2.1 dL_isTold_372 (lv_at hl 5 rfl) ?_
    refine lv_iload F.1 F.2.1 dL_isTold_374 (lv_at hl 2 rfl) ?_
    refine lv_aload_n F.1 F.2.1 dL_isTold_376 rfl (lv_at hl 8 rfl) ?_
    refine lv_aload F.1 F.2.1 dL_isTold_377 (lv_at hl 10 rfl) ?_
    refine lv_aload F.1 F.2.1 dL_isTold_379 (lv_at hl 16 rfl) ?_
    refine q_rS (rest := [.int (if f_L_ground S q228 (nI q263) = 0 then 0 else 1)]) F w kS_L_142 hd_L_ground (c_L_ground l D cy A _ ad S Wf hL q228 (nI q263) (show q228 < 4 by omega) hR.hR) dL_isTold_381 rfl rfl hl.1 ⟨rfl, rfl, (show 1 ≤ R.frames by omega), (show 27 ≤ R.locals by omega)⟩ (Nat.le_of_ble_eq_true rfl) ⟨by omega, by omega⟩ ?_
    refine jn0 (m := m) (ls := ls) (rest := [.int (if f_L_ground S q228 (nI q263) = 0 then 0 else 1)]) (if f_L_ground S q228 (nI q263) = 0 then 0 else 1) 392 (fun J_9 => ?_) ?_
    · refine lv_if_eq (tgt := 391) F.1 F.2.1 dL_isTold_384 (by decide) (fun c_10 => ?_) (fun c_10 => ?_)
      · refine lv_iconst (v := 0) F.1 F.2.1 dL_isTold_391 (by decide) ?_
        exact jn_a (if_pos c_10) J_9
      · refine lv_iconst (v := 1) F.1 F.2.1 dL_isTold_387 (by decide) ?_
        refine lv_goto (tgt := 392) F.1 F.2.1 dL_isTold_388 (by decide) ?_
        exact jn_a (if_neg c_10) J_9
    refine lv_icmp_ne (tgt := 434) F.1 F.2.1 dL_isTold_392 (by decide) (fun c_11 => absurd rfl c_11) (fun c_11 => ?_)
    refine lv_aload_n F.1 F.2.1 dL_isTold_395 rfl (lv_at hl 6 rfl) ?_
    refine lv_iload F.1 F.2.1 dL_isTold_396 (lv_at hl 5 rfl) ?_
    refine lw_pointsAnew (rest := []) F w hd hM ho hR.r.ic (nI q228) hlf dL_isTold_398 hl.1 ⟨by omega, by omega⟩ (Nat.le_of_ble_eq_true rfl) ⟨by omega, by omega⟩ (fun v398 X AD H locs hv398 ho hd hM w => ?_)
    have hL := hY.un hd
    rw [hr_pointsAnew] at hM
    refine lv_fold (y := f_L_points S q228) (hv398.trans (an_pa hR hq228)) ?_
    refine lv_iload F.1 F.2.1 dL_isTold_401 (lv_at hl 5 rfl) ?_
    refine lv_aload_n F.1 F.2.1 dL_isTold_403 rfl (lv_at hl 8 rfl) ?_
    refine lv_aload F.1 F.2.1 dL_isTold_404 (lv_at hl 11 rfl) ?_
    refine lv_aload F.1 F.2.1 dL_isTold_406 (lv_at hl 12 rfl) ?_
    refine lv_aload F.1 F.2.1 dL_isTold_408 (lv_at hl 13 rfl) ?_
    refine lv_aload F.1 F.2.1 dL_isTold_410 (lv_at hl 16 rfl) ?_
    refine q_rS (rest := [.int (f_L_points S q228)]) F w kS_L_115 hd_L_points (c_L_points l D cy A _ ad S Wf hL q228 (show q228 < 4 by omega) hR.hV) dL_isTold_412 rfl rfl hl.1 ⟨rfl, rfl, (show 4 ≤ R.frames by omega), (show 100 ≤ R.locals by omega)⟩ (Nat.le_of_ble_eq_true rfl) ⟨by omega, by omega⟩ ?_
    refine lv_icmp_ne (tgt := 434) F.1 F.2.1 dL_isTold_415 (by decide) (fun c_12 => absurd rfl c_12) (fun c_12 => ?_)
    refine lv_aload_n F.1 F.2.1 dL_isTold_418 rfl (lv_at hl 6 rfl) ?_
    refine lv_iload F.1 F.2.1 dL_isTold_419 (lv_at hl 4 rfl) ?_
    refine lw_missed (rest := []) F w hd hM ho hR.r.ic (nI q237) hlf dL_isTold_421 hl.1 ⟨by omega, by omega⟩ (Nat.le_of_ble_eq_true rfl) ⟨by omega, by omega⟩ (fun v421 X AD H locs hv421 ho hd hM w => ?_)
    have hL := hY.un hd
    rw [hr_missed] at hM
    refine lv_fold (y := S 10 (3 + q237)) (hv421.trans (an_mi hR hq237)) ?_
    refine lv_aload F.1 F.2.1 dL_isTold_424 (lv_at hl 16 rfl) ?_
    refine lv_iconst (v := 3) F.1 F.2.1 dL_isTold_426 (by decide) ?_
    refine lv_iload F.1 F.2.1 dL_isTold_427 (lv_at hl 4 rfl) ?_
    refine lv_iadd F.1 F.2.1 dL_isTold_429 ?_
    refine lv_fold (y := nI (3 + q237)) (nI_add 3 q237) ?_
    refine l_ild F w hL 10 rfl (3 + q237) (show 3 + q237 < 9 by omega) dL_isTold_430 ?_
    refine lv_icmp_eq (tgt := 436) F.1 F.2.1 dL_isTold_431 (by decide) (fun c_13 => ?_) (fun c_13 => absurd rfl c_13)
    exact K436 (cells := _) (slots := _) ⟨by omega, by omega⟩ ho hd hM w (lv_sub hl [6, 7, 8, 9, 10, 11, 12, 13, 14, 15, 16] rfl)
set_option maxHeartbeats 4000000 in
set_option maxRecDepth 100000 in
theorem it_3 {p : Program} {l : Launch} {e : Env} {R : Room} {s : State} {m : MethodId} {args : Array Value} {below : List Frame} {meth : Method} {c : Code} {D : va_G} {cy : Nat → ClassId} {A : Nat → Prop} {o : Nat} {ad : Nat → Nat} {n : Nat} {G M S : GS} {Wf : Nat → Int64} {u : Int32} (F : CallFix p m c cL_isTold 18 s args BIG RL) (hlf : l.stackTraces = false) (hRm : 10 ≤ R.frames ∧ 230 ≤ R.locals ∧ 70 ≤ R.cells ∧ 420 ≤ R.slots) (hr : meth.sig.returnType = some .boolean) (hlk : meth.locks = false) (hR : R26 n G M S Wf) {Y : MU} (hY : RepL cy ad S Wf Y) {k9 : Nat} (hk : k9 ≤ gnS M) (K214 : ∀ {X : MU} {AD : AM} {H : Heap} {locs : List Loc} {cells slots : Nat} {ls : Array Slot}, (cells ≤ 32 ∧ slots ≤ 6 * (32)) → AD 0 0 0 = o → dis X Y → RepC cy AD G X → WW D cy A (un X Y) s H locs → lv_has ls 18 [(0, .ref o), (1, .int u), (2, .ref (ad 2)), (3, .ref (ad 3)), (4, .ref (ad 4)), (5, .ref (ad 5)), (6, .ref (ad 6)), (7, .ref (ad 7)), (8, .ref (ad 8)), (9, .ref (ad 9)), (10, .ref (ad 10))] → W p l e R s m args below meth c H locs cells slots (MQ below (va_Qi (fun (r9 : Int32) (μ1 : MU) => r9 = 1 ∧ ∃ (X1 : MU) (AD1 : AM), μ1 = un X1 Y ∧ dis X1 Y ∧ AD1 0 0 0 = o ∧ RepC cy AD1 G X1) (fun μ1 t => Wd D cy A μ1 t) A) args s 70 420 A) (F0 m 214 ls [])) (K3 : ∀ {X : MU} {AD : AM} {H : Heap} {locs : List Loc} {cells slots : Nat} {ls : Array Slot}, k9 < gnS M → (cells ≤ 8 * (k9 + 1) ∧ slots ≤ 6 * (8 * (k9 + 1))) → AD 0 0 0 = o → dis X Y → RepC cy AD G X → WW D cy A (un X Y) s H locs → lv_has ls 18 [(11, .int (nI (k9 + 1))), (0, .ref o), (1, .int u), (2, .ref (ad 2)), (3, .ref (ad 3)), (4, .ref (ad 4)), (5, .ref (ad 5)), (6, .ref (ad 6)), (7, .ref (ad 7)), (8, .ref (ad 8)), (9, .ref (ad 9)), (10, .ref (ad 10))] → W p l e R s m args below meth c H locs cells slots (MQ below (va_Qi (fun (r9 : Int32) (μ1 : MU) => r9 = 1 ∧ ∃ (X1 : MU) (AD1 : AM), μ1 = un X1 Y ∧ dis X1 Y ∧ AD1 0 0 0 = o ∧ RepC cy AD1 G X1) (fun μ1 t => Wd D cy A μ1 t) A) args s 70 420 A) (F0 m 3 ls [])) {X : MU} {AD : AM} {H : Heap} {locs : List Loc} {cells slots : Nat} (hf : cells ≤ 8 * k9 ∧ slots ≤ 6 * (8 * k9)) (ho : AD 0 0 0 = o) (hd : dis X Y) (hM : RepC cy AD G X) (w : WW D cy A (un X Y) s H locs) {ls : Array Slot} (hl : lv_has ls 18 [(11, .int (nI k9)), (0, .ref o), (1, .int u), (2, .ref (ad 2)), (3, .ref (ad 3)), (4, .ref (ad 4)), (5, .ref (ad 5)), (6, .ref (ad 6)), (7, .ref (ad 7)), (8, .ref (ad 8)), (9, .ref (ad 9)), (10, .ref (ad 10))]) : W p l e R s m args below meth c H locs cells slots (MQ below (va_Qi (fun (r9 : Int32) (μ1 : MU) => r9 = 1 ∧ ∃ (X1 : MU) (AD1 : AM), μ1 = un X1 Y ∧ dis X1 Y ∧ AD1 0 0 0 = o ∧ RepC cy AD1 G X1) (fun μ1 t => Wd D cy A μ1 t) A) args s 70 420 A) (F0 m 3 ls []) := by
  have hL := hY.un hd
  obtain ⟨t, ht9, ht⟩ := hR.td
  have hb4 := hR.b
  have heV := hR.eV
  refine lv_iload F.1 F.2.1 dL_isTold_3 (lv_at hl 0 rfl) ?_
  refine lv_aload F.1 F.2.1 dL_isTold_5 (lv_at hl 11 rfl) ?_
  refine lv_bipush (v := 8) F.1 F.2.1 dL_isTold_7 (by decide) ?_
  refine l_ild F w hL 10 rfl 8 (show 8 < 9 by omega) dL_isTold_9 ?_
  refine lv_fold (y := nI (gnS M)) (hR.g8.trans hR.nS) ?_
  refine lv_icmp_ge (tgt := 214) F.1 F.2.1 dL_isTold_10 (by decide) (fun c_1 => ?_) (fun c_1 => ?_)
  · exact K214 (cells := _) (slots := _) ⟨by omega, by omega⟩ ho hd hM w (lv_sub hl [1, 2, 3, 4, 5, 6, 7, 8, 9, 10, 11] rfl)
  · have hk9 : k9 < gnS M := Nat.lt_of_not_le (fun q => c_1 (nI_le q (by omega)))
    refine lv_aload_n F.1 F.2.1 dL_isTold_13 rfl (lv_at hl 1 rfl) ?_
    refine lv_iload F.1 F.2.1 dL_isTold_14 (lv_at hl 0 rfl) ?_
    refine lv_iconst (v := 0) F.1 F.2.1 dL_isTold_16 (by decide) ?_
    refine lw_ofShip (rest := []) F w hd hM ho hR.r.ic (nI k9) 0 hlf dL_isTold_17 hl.1 ⟨by omega, by omega⟩ (Nat.le_of_ble_eq_true rfl) ⟨by omega, by omega⟩ (fun v17 X AD H locs hv17 ho hd hM w => ?_)
    have hL := hY.un hd
    rw [hr_ofShip] at hM
    refine lv_fold (y := f_L_points S k9) (hv17.trans (an_os0 hR hk9)) ?_
    refine lv_iload F.1 F.2.1 dL_isTold_20 (lv_at hl 0 rfl) ?_
    refine lv_aload_n F.1 F.2.1 dL_isTold_22 rfl (lv_at hl 3 rfl) ?_
    refine lv_aload F.1 F.2.1 dL_isTold_23 (lv_at hl 6 rfl) ?_
    refine lv_aload F.1 F.2.1 dL_isTold_25 (lv_at hl 7 rfl) ?_
    refine lv_aload F.1 F.2.1 dL_isTold_27 (lv_at hl 8 rfl) ?_
    refine lv_aload F.1 F.2.1 dL_isTold_29 (lv_at hl 11 rfl) ?_
    refine q_rS (rest := [.int (f_L_points S k9)]) F w kS_L_115 hd_L_points (c_L_points l D cy A _ ad S Wf hL k9 (show k9 < 4 by omega) hR.hV) dL_isTold_31 rfl rfl hl.1 ⟨rfl, rfl, (show 4 ≤ R.frames by omega), (show 100 ≤ R.locals by omega)⟩ (Nat.le_of_ble_eq_true rfl) ⟨by omega, by omega⟩ ?_
    refine lv_icmp_ne (tgt := 206) F.1 F.2.1 dL_isTold_34 (by decide) (fun c_2 => absurd rfl c_2) (fun c_2 => ?_)
    refine lv_aload_n F.1 F.2.1 dL_isTold_37 rfl (lv_at hl 1 rfl) ?_
    refine lv_iload F.1 F.2.1 dL_isTold_38 (lv_at hl 0 rfl) ?_
    refine lv_iconst (v := 1) F.1 F.2.1 dL_isTold_40 (by decide) ?_
    refine lw_ofShip (rest := []) F w hd hM ho hR.r.ic (nI k9) 1 hlf dL_isTold_41 hl.1 ⟨by omega, by omega⟩ (Nat.le_of_ble_eq_true rfl) ⟨by omega, by omega⟩ (fun v41 X AD H locs hv41 ho hd hM w => ?_)
    have hL := hY.un hd
    rw [hr_ofShip] at hM
    refine lv_fold (y := f_L_risk S k9) (hv41.trans (an_os1 hR hk9)) ?_
    refine lv_iload F.1 F.2.1 dL_isTold_44 (lv_at hl 0 rfl) ?_
    refine lv_aload_n F.1 F.2.1 dL_isTold_46 rfl (lv_at hl 3 rfl) ?_
    refine lv_aload F.1 F.2.1 dL_isTold_47 (lv_at hl 6 rfl) ?_
    refine lv_aload F.1 F.2.1 dL_isTold_49 (lv_at hl 7 rfl) ?_
    refine lv_aload F.1 F.2.1 dL_isTold_51 (lv_at hl 8 rfl) ?_
    refine lv_aload F.1 F.2.1 dL_isTold_53 (lv_at hl 11 rfl) ?_
    refine q_rS (rest := [.int (f_L_risk S k9)]) F w kS_L_119 hd_L_risk (c_L_risk l D cy A _ ad S Wf hL k9 (show k9 < 4 by omega) hR.hV) dL_isTold_55 rfl rfl hl.1 ⟨rfl, rfl, (show 5 ≤ R.frames by omega), (show 126 ≤ R.locals by omega)⟩ (Nat.le_of_ble_eq_true rfl) ⟨by omega, by omega⟩ ?_
    refine lv_icmp_ne (tgt := 206) F.1 F.2.1 dL_isTold_58 (by decide) (fun c_3 => absurd rfl c_3) (fun c_3 => ?_)
    refine lv_aload_n F.1 F.2.1 dL_isTold_61 rfl (lv_at hl 1 rfl) ?_
    refine lv_iload F.1 F.2.1 dL_isTold_62 (lv_at hl 0 rfl) ?_
    refine lv_iconst (v := 2) F.1 F.2.1 dL_isTold_64 (by decide) ?_
    refine lw_ofShip (rest := []) F w hd hM ho hR.r.ic (nI k9) 2 hlf dL_isTold_65 hl.1 ⟨by omega, by omega⟩ (Nat.le_of_ble_eq_true rfl) ⟨by omega, by omega⟩ (fun v65 X AD H locs hv65 ho hd hM w => ?_)
    have hL := hY.un hd
    rw [hr_ofShip] at hM
    refine lv_fold (y := f_L_priority S k9) (hv65.trans (an_os2 hR hk9)) ?_
    refine lv_iload F.1 F.2.1 dL_isTold_68 (lv_at hl 0 rfl) ?_
    refine lv_aload_n F.1 F.2.1 dL_isTold_70 rfl (lv_at hl 3 rfl) ?_
    refine lv_aload F.1 F.2.1 dL_isTold_71 (lv_at hl 6 rfl) ?_
    refine lv_aload F.1 F.2.1 dL_isTold_73 (lv_at hl 7 rfl) ?_
    refine lv_aload F.1 F.2.1 dL_isTold_75 (lv_at hl 8 rfl) ?_
    refine lv_aload F.1 F.2.1 dL_isTold_77 (lv_at hl 11 rfl) ?_
    refine q_rS (rest := [.int (f_L_priority S k9)]) F w kS_L_127 hd_L_priority (c_L_priority l D cy A _ ad S Wf hL k9 (show k9 < 4 by omega) hR.hV (hR.la hk9)) dL_isTold_79 rfl rfl hl.1 ⟨rfl, rfl, (show 6 ≤ R.frames by omega), (show 155 ≤ R.locals by omega)⟩ (Nat.le_of_ble_eq_true rfl) ⟨by omega, by omega⟩ ?_
    refine lv_icmp_ne (tgt := 206) F.1 F.2.1 dL_isTold_82 (by decide) (fun c_4 => absurd rfl c_4) (fun c_4 => ?_)
    refine lv_aload_n F.1 F.2.1 dL_isTold_85 rfl (lv_at hl 1 rfl) ?_
    refine lv_iload F.1 F.2.1 dL_isTold_86 (lv_at hl 0 rfl) ?_
    refine lv_iconst (v := 3) F.1 F.2.1 dL_isTold_88 (by decide) ?_
    refine lw_ofShip (rest := []) F w hd hM ho hR.r.ic (nI k9) 3 hlf dL_isTold_89 hl.1 ⟨by omega, by omega⟩ (Nat.le_of_ble_eq_true rfl) ⟨by omega, by omega⟩ (fun v89 X AD H locs hv89 ho hd hM w => ?_)
    have hL := hY.un hd
    rw [hr_ofShip] at hM
    refine lv_fold (y := S 2 ((14 * k9) + 6)) (hv89.trans (an_os3 hR hk9)) ?_
    refine lv_aload_n F.1 F.2.1 dL_isTold_92 rfl (lv_at hl 3 rfl) ?_
    refine lv_bipush (v := 14) F.1 F.2.1 dL_isTold_93 (by decide) ?_
    refine lv_iload F.1 F.2.1 dL_isTold_95 (lv_at hl 0 rfl) ?_
    refine lv_imul F.1 F.2.1 dL_isTold_97 ?_
    refine lv_fold (y := nI (14 * k9)) (pk_mul 14 k9) ?_
    refine lv_bipush (v := 6) F.1 F.2.1 dL_isTold_98 (by decide) ?_
    refine lv_iadd F.1 F.2.1 dL_isTold_100 ?_
    refine lv_fold (y := nI ((14 * k9) + 6)) (nI_add (14 * k9) 6) ?_
    refine l_ild F w hL 2 rfl ((14 * k9) + 6) (show (14 * k9) + 6 < 56 by omega) dL_isTold_101 ?_
    refine lv_icmp_ne (tgt := 206) F.1 F.2.1 dL_isTold_102 (by decide) (fun c_5 => absurd rfl c_5) (fun c_5 => ?_)
    refine lv_aload_n F.1 F.2.1 dL_isTold_105 rfl (lv_at hl 1 rfl) ?_
    refine lv_iload F.1 F.2.1 dL_isTold_106 (lv_at hl 0 rfl) ?_
    refine lv_iconst (v := 4) F.1 F.2.1 dL_isTold_108 (by decide) ?_
    refine lw_ofShip (rest := []) F w hd hM ho hR.r.ic (nI k9) 4 hlf dL_isTold_109 hl.1 ⟨by omega, by omega⟩ (Nat.le_of_ble_eq_true rfl) ⟨by omega, by omega⟩ (fun v109 X AD H locs hv109 ho hd hM w => ?_)
    have hL := hY.un hd
    rw [hr_ofShip] at hM
    refine lv_fold (y := if S 2 ((14 * k9) + 9) = (-1) then 0 else 1) (hv109.trans (an_os4 hR hk9)) ?_
    refine lv_aload_n F.1 F.2.1 dL_isTold_112 rfl (lv_at hl 3 rfl) ?_
    refine lv_bipush (v := 14) F.1 F.2.1 dL_isTold_113 (by decide) ?_
    refine lv_iload F.1 F.2.1 dL_isTold_115 (lv_at hl 0 rfl) ?_
    refine lv_imul F.1 F.2.1 dL_isTold_117 ?_
    refine lv_fold (y := nI (14 * k9)) (pk_mul 14 k9) ?_
    refine lv_bipush (v := 9) F.1 F.2.1 dL_isTold_118 (by decide) ?_
    refine lv_iadd F.1 F.2.1 dL_isTold_120 ?_
    refine lv_fold (y := nI ((14 * k9) + 9)) (nI_add (14 * k9) 9) ?_
    refine l_ild F w hL 2 rfl ((14 * k9) + 9) (show (14 * k9) + 9 < 56 by omega) dL_isTold_121 ?_
    refine lv_iconst (v := -1) F.1 F.2.1 dL_isTold_122 (by decide) ?_
    refine jn0 (m := m) (ls := ls) (rest := [.int (if S 2 ((14 * k9) + 9) = (-1) then 0 else 1)]) (if S 2 ((14 * k9) + 9) = (-1) then 0 else 1) 131 (fun J_6 => ?_) ?_
    · refine lv_icmp_ne (tgt := 130) F.1 F.2.1 dL_isTold_123 (by decide) (fun c_7 => ?_) (fun c_7 => ?_)
      · refine lv_iconst (v := 1) F.1 F.2.1 dL_isTold_130 (by decide) ?_
        exact jn_a (if_neg c_7) J_6
      · refine lv_iconst (v := 0) F.1 F.2.1 dL_isTold_126 (by decide) ?_
        refine lv_goto (tgt := 131) F.1 F.2.1 dL_isTold_127 (by decide) ?_
        exact jn_a (if_pos c_7) J_6
    refine lv_icmp_ne (tgt := 206) F.1 F.2.1 dL_isTold_131 (by decide) (fun c_8 => absurd rfl c_8) (fun c_8 => ?_)
    refine lv_aload_n F.1 F.2.1 dL_isTold_134 rfl (lv_at hl 1 rfl) ?_
    refine lv_iload F.1 F.2.1 dL_isTold_135 (lv_at hl 0 rfl) ?_
    refine lv_iconst (v := 5) F.1 F.2.1 dL_isTold_137 (by decide) ?_
    refine lw_ofShip (rest := []) F w hd hM ho hR.r.ic (nI k9) 5 hlf dL_isTold_138 hl.1 ⟨by omega, by omega⟩ (Nat.le_of_ble_eq_true rfl) ⟨by omega, by omega⟩ (fun v138 X AD H locs hv138 ho hd hM w => ?_)
    have hL := hY.un hd
    rw [hr_ofShip] at hM
    refine lv_fold (y := if S 10 0 ≤ S 2 ((14 * k9) + 12) then 1 else 0) (hv138.trans (an_os5b hR hk9)) ?_
    refine lv_aload_n F.1 F.2.1 dL_isTold_141 rfl (lv_at hl 3 rfl) ?_
    refine lv_bipush (v := 14) F.1 F.2.1 dL_isTold_142 (by decide) ?_
    refine lv_iload F.1 F.2.1 dL_isTold_144 (lv_at hl 0 rfl) ?_
    refine lv_imul F.1 F.2.1 dL_isTold_146 ?_
    refine lv_fold (y := nI (14 * k9)) (pk_mul 14 k9) ?_
    refine lv_bipush (v := 12) F.1 F.2.1 dL_isTold_147 (by decide) ?_
    refine lv_iadd F.1 F.2.1 dL_isTold_149 ?_
    refine lv_fold (y := nI ((14 * k9) + 12)) (nI_add (14 * k9) 12) ?_
    refine l_ild F w hL 2 rfl ((14 * k9) + 12) (show (14 * k9) + 12 < 56 by omega) dL_isTold_150 ?_
    refine lv_aload F.1 F.2.1 dL_isTold_151 (lv_at hl 11 rfl) ?_
    refine lv_iconst (v := 0) F.1 F.2.1 dL_isTold_153 (by decide) ?_
    refine l_ild F w hL 10 rfl 0 (show 0 < 9 by omega) dL_isTold_154 ?_
    refine jn0 (m := m) (ls := ls) (rest := [.int (if S 10 0 ≤ S 2 ((14 * k9) + 12) then 1 else 0)]) (if S 10 0 ≤ S 2 ((14 * k9) + 12) then 1 else 0) 163 (fun J_9 => ?_) ?_
    · refine lv_icmp_ge (tgt := 162) F.1 F.2.1 dL_isTold_155 (by decide) (fun c_10 => ?_) (fun c_10 => ?_)
      · refine lv_iconst (v := 1) F.1 F.2.1 dL_isTold_162 (by decide) ?_
        exact jn_a (if_pos c_10) J_9
      · refine lv_iconst (v := 0) F.1 F.2.1 dL_isTold_158 (by decide) ?_
        refine lv_goto (tgt := 163) F.1 F.2.1 dL_isTold_159 (by decide) ?_
        exact jn_a (if_neg c_10) J_9
    refine lv_icmp_ne (tgt := 206) F.1 F.2.1 dL_isTold_163 (by decide) (fun c_11 => absurd rfl c_11) (fun c_11 => ?_)
    refine lv_aload_n F.1 F.2.1 dL_isTold_166 rfl (lv_at hl 1 rfl) ?_
    refine lv_iload F.1 F.2.1 dL_isTold_167 (lv_at hl 0 rfl) ?_
    refine lv_bipush (v := 6) F.1 F.2.1 dL_isTold_169 (by decide) ?_
    refine lw_ofShip (rest := []) F w hd hM ho hR.r.ic (nI k9) 6 hlf dL_isTold_171 hl.1 ⟨by omega, by omega⟩ (Nat.le_of_ble_eq_true rfl) ⟨by omega, by omega⟩ (fun v171 X AD H locs hv171 ho hd hM w => ?_)
    have hL := hY.un hd
    rw [hr_ofShip] at hM
    refine lv_fold (y := S 2 ((14 * k9) + 13)) (hv171.trans (an_os6 hR hk9)) ?_
    refine lv_aload_n F.1 F.2.1 dL_isTold_174 rfl (lv_at hl 3 rfl) ?_
    refine lv_bipush (v := 14) F.1 F.2.1 dL_isTold_175 (by decide) ?_
    refine lv_iload F.1 F.2.1 dL_isTold_177 (lv_at hl 0 rfl) ?_
    refine lv_imul F.1 F.2.1 dL_isTold_179 ?_
    refine lv_fold (y := nI (14 * k9)) (pk_mul 14 k9) ?_
    refine lv_bipush (v := 13) F.1 F.2.1 dL_isTold_180 (by decide) ?_
    refine lv_iadd F.1 F.2.1 dL_isTold_182 ?_
    refine lv_fold (y := nI ((14 * k9) + 13)) (nI_add (14 * k9) 13) ?_
    refine l_ild F w hL 2 rfl ((14 * k9) + 13) (show (14 * k9) + 13 < 56 by omega) dL_isTold_183 ?_
    refine lv_icmp_ne (tgt := 206) F.1 F.2.1 dL_isTold_184 (by decide) (fun c_12 => absurd rfl c_12) (fun c_12 => ?_)
    refine lv_aload_n F.1 F.2.1 dL_isTold_187 rfl (lv_at hl 1 rfl) ?_
    refine lv_iload F.1 F.2.1 dL_isTold_188 (lv_at hl 0 rfl) ?_
    refine lv_bipush (v := 7) F.1 F.2.1 dL_isTold_190 (by decide) ?_
    refine lw_ofShip (rest := []) F w hd hM ho hR.r.ic (nI k9) 7 hlf dL_isTold_192 hl.1 ⟨by omega, by omega⟩ (Nat.le_of_ble_eq_true rfl) ⟨by omega, by omega⟩ (fun v192 X AD H locs hv192 ho hd hM w => ?_)
    have hL := hY.un hd
    rw [hr_ofShip] at hM
    refine lv_fold (y := f_L_lapsed S k9) (hv192.trans (an_os7 hR hk9)) ?_
    refine lv_iload F.1 F.2.1 dL_isTold_195 (lv_at hl 0 rfl) ?_
    refine lv_aload_n F.1 F.2.1 dL_isTold_197 rfl (lv_at hl 4 rfl) ?_
    refine lv_aload F.1 F.2.1 dL_isTold_198 (lv_at hl 11 rfl) ?_
    refine q_rS (rest := [.int (f_L_lapsed S k9)]) F w kS_L_130 hd_L_lapsed (c_L_lapsed l D cy A _ ad S Wf hL k9 (show k9 < 4 by omega) hR.cok) dL_isTold_200 rfl rfl hl.1 ⟨rfl, rfl, (show 2 ≤ R.frames by omega), (show 51 ≤ R.locals by omega)⟩ (Nat.le_of_ble_eq_true rfl) ⟨by omega, by omega⟩ ?_
    refine lv_icmp_eq (tgt := 208) F.1 F.2.1 dL_isTold_203 (by decide) (fun c_13 => ?_) (fun c_13 => absurd rfl c_13)
    refine lv_iinc (v := nI (k9 + 1)) (lv' := [(11, .int (nI (k9 + 1))), (0, .ref o), (1, .int u), (2, .ref (ad 2)), (3, .ref (ad 3)), (4, .ref (ad 4)), (5, .ref (ad 5)), (6, .ref (ad 6)), (7, .ref (ad 7)), (8, .ref (ad 8)), (9, .ref (ad 9)), (10, .ref (ad 10))]) F.1 F.2.1 dL_isTold_208 hl (k := 0) rfl (nI_1 _) (by decide) rfl (fun ls hl => ?_)
    refine lv_goto (tgt := 3) F.1 F.2.1 dL_isTold_211 (by decide) ?_
    exact K3 (cells := _) (slots := _) hk9 ⟨by omega, by omega⟩ ho hd hM w (lv_sub hl [0, 1, 2, 3, 4, 5, 6, 7, 8, 9, 10, 11] rfl)
set_option maxHeartbeats 4000000 in
theorem c_L_isTold (l : Launch) (D : va_G) (cy : Nat → ClassId) (A : Nat → Prop) {X Y : MU} {AD : AM} {o : Nat} {ad : Nat → Nat} {n : Nat} {G M S : GS} {Wf : Nat → Int64} (hd : dis X Y) (hM : RepC cy AD G X) (ho : AD 0 0 0 = o) (hY : RepL cy ad S Wf Y) (hR : R26 n G M S Wf) (u : Int32) (hlf : l.stackTraces = false) : Met l yL_isTold (WS yL_isTold cL_isTold 18 (Option.some Jvm.ClassFile.FieldType.boolean)) { frames := 10, cells := 70, slots := 420, locals := 230 } (va_Pc [.ref o, .int u, .ref (ad 2), .ref (ad 3), .ref (ad 4), .ref (ad 5), .ref (ad 6), .ref (ad 7), .ref (ad 8), .ref (ad 9), .ref (ad 10)] (Wd D cy A (un X Y))) (va_Qi (fun (r9 : Int32) (μ1 : MU) => r9 = 1 ∧ ∃ (X1 : MU) (AD1 : AM), μ1 = un X1 Y ∧ dis X1 Y ∧ AD1 0 0 0 = o ∧ RepC cy AD1 G X1) (fun μ1 t => Wd D cy A μ1 t) A) 70 420 A := by
  refine q_met (by decide) (Nat.le_of_ble_eq_true rfl) ?_
  intro p e s m below meth c F w hr hlk hnm ls hl
  have F : CallFix p m c cL_isTold 18 s ([.ref o, .int u, .ref (ad 2), .ref (ad 3), .ref (ad 4), .ref (ad 5), .ref (ad 6), .ref (ad 7), .ref (ad 8), .ref (ad 9), .ref (ad 10)] : List Value).toArray BIG RL := F
  have hl : lv_has ls 18 [(0, .ref o), (1, .int u), (2, .ref (ad 2)), (3, .ref (ad 3)), (4, .ref (ad 4)), (5, .ref (ad 5)), (6, .ref (ad 6)), (7, .ref (ad 7)), (8, .ref (ad 8)), (9, .ref (ad 9)), (10, .ref (ad 10))] := hl
  have hRm : 10 ≤ ({ frames := 10, cells := 70, slots := 420, locals := 230 } : Room).frames ∧ 230 ≤ ({ frames := 10, cells := 70, slots := 420, locals := 230 } : Room).locals ∧ 70 ≤ ({ frames := 10, cells := 70, slots := 420, locals := 230 } : Room).cells ∧ 420 ≤ ({ frames := 10, cells := 70, slots := 420, locals := 230 } : Room).slots := ⟨Nat.le_refl _, Nat.le_refl _, Nat.le_refl _, Nat.le_refl _⟩
  refine lv_iconst (v := 0) F.1 F.2.1 dL_isTold_0 (by decide) ?_
  refine lv_istore (lv' := [(11, .int (nI 0)), (0, .ref o), (1, .int u), (2, .ref (ad 2)), (3, .ref (ad 3)), (4, .ref (ad 4)), (5, .ref (ad 5)), (6, .ref (ad 6)), (7, .ref (ad 7)), (8, .ref (ad 8)), (9, .ref (ad 9)), (10, .ref (ad 10))]) F.1 F.2.1 dL_isTold_1 hl (by decide) rfl (fun ls hl => ?_)
  have hb4 := hR.b
  have K436 : ∀ {X : MU} {AD : AM} {H : Heap} {locs : List Loc} {cells slots : Nat} {ls : Array Slot}, (cells ≤ 36 ∧ slots ≤ 6 * 36) → AD 0 0 0 = o → dis X Y → RepC cy AD G X → WW D cy A (un X Y) s H locs → lv_has ls 18 [(0, .ref o), (1, .int u), (2, .ref (ad 2)), (3, .ref (ad 3)), (4, .ref (ad 4)), (5, .ref (ad 5)), (6, .ref (ad 6)), (7, .ref (ad 7)), (8, .ref (ad 8)), (9, .ref (ad 9)), (10, .ref (ad 10))] → W p l e { frames := 10, cells := 70, slots := 420, locals := 230 } s m ([.ref o, .int u, .ref (ad 2), .ref (ad 3), .ref (ad 4), .ref (ad 5), .ref (ad 6), .ref (ad 7), .ref (ad 8), .ref (ad 9), .ref (ad 10)] : List Value).toArray below meth c H locs cells slots (MQ below (va_Qi (fun (r9 : Int32) (μ1 : MU) => r9 = 1 ∧ ∃ (X1 : MU) (AD1 : AM), μ1 = un X1 Y ∧ dis X1 Y ∧ AD1 0 0 0 = o ∧ RepC cy AD1 G X1) (fun μ1 t => Wd D cy A μ1 t) A) ([.ref o, .int u, .ref (ad 2), .ref (ad 3), .ref (ad 4), .ref (ad 5), .ref (ad 6), .ref (ad 7), .ref (ad 8), .ref (ad 9), .ref (ad 10)] : List Value).toArray s 70 420 A) (F0 m 436 ls []) := fun hf ho hd hM w hl => by
    refine lv_iconst (v := 1) F.1 F.2.1 dL_isTold_436 (by decide) ?_
    refine lv_istore (lv' := [(11, .int (nI (0 + 1))), (0, .ref o), (1, .int u), (2, .ref (ad 2)), (3, .ref (ad 3)), (4, .ref (ad 4)), (5, .ref (ad 5)), (6, .ref (ad 6)), (7, .ref (ad 7)), (8, .ref (ad 8)), (9, .ref (ad 9)), (10, .ref (ad 10))]) F.1 F.2.1 dL_isTold_437 hl (by decide) rfl (fun ls hl => ?_)
    exact it_loop3 F hlf hRm hr hlk hR hY hf ho hd hM w hl
  have h : ∀ (d k : Nat), k + d = gnS M → ∀ {X : MU} {AD : AM} {H : Heap} {locs : List Loc} {cells slots : Nat} {ls : Array Slot}, (cells ≤ 8 * k ∧ slots ≤ 6 * (8 * k)) → AD 0 0 0 = o → dis X Y → RepC cy AD G X → WW D cy A (un X Y) s H locs → lv_has ls 18 [(11, .int (nI k)), (0, .ref o), (1, .int u), (2, .ref (ad 2)), (3, .ref (ad 3)), (4, .ref (ad 4)), (5, .ref (ad 5)), (6, .ref (ad 6)), (7, .ref (ad 7)), (8, .ref (ad 8)), (9, .ref (ad 9)), (10, .ref (ad 10))] → W p l e { frames := 10, cells := 70, slots := 420, locals := 230 } s m ([.ref o, .int u, .ref (ad 2), .ref (ad 3), .ref (ad 4), .ref (ad 5), .ref (ad 6), .ref (ad 7), .ref (ad 8), .ref (ad 9), .ref (ad 10)] : List Value).toArray below meth c H locs cells slots (MQ below (va_Qi (fun (r9 : Int32) (μ1 : MU) => r9 = 1 ∧ ∃ (X1 : MU) (AD1 : AM), μ1 = un X1 Y ∧ dis X1 Y ∧ AD1 0 0 0 = o ∧ RepC cy AD1 G X1) (fun μ1 t => Wd D cy A μ1 t) A) ([.ref o, .int u, .ref (ad 2), .ref (ad 3), .ref (ad 4), .ref (ad 5), .ref (ad 6), .ref (ad 7), .ref (ad 8), .ref (ad 9), .ref (ad 10)] : List Value).toArray s 70 420 A) (F0 m 3 ls []) := by
    intro d
    induction d with
    | zero =>
      intro k hk X AD H locs cells slots ls hf ho hd hM w hl
      exact it_3 F hlf hRm hr hlk hR hY (by omega) (fun hf ho hd hM w hl => it_214 F hlf hRm hr hlk hR hY K436 hf ho hd hM w hl) (fun hj5 _ _ _ _ _ _ => absurd hj5 (by omega)) hf ho hd hM w hl
    | succ d ih =>
      intro k hk X AD H locs cells slots ls hf ho hd hM w hl
      exact it_3 F hlf hRm hr hlk hR hY (by omega) (fun hf ho hd hM w hl => it_214 F hlf hRm hr hlk hR hY K436 hf ho hd hM w hl) (fun _ hf ho hd hM w hl => ih (k + 1) (by omega) hf ho hd hM w hl) hf ho hd hM w hl
  exact h (gnS M) 0 (by omega) ⟨by omega, by omega⟩ ho hd hM w hl
