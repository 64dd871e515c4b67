section ZZ
variable {n : Nat} {G M S : GS} {Wf : Nat → Int64}
theorem z8 (h : R26 n G M S Wf) (c : S 10 8 = 0) : gnS M = 0 := by
  rw [h.g8, h.nS] at c
  exact (nI_eq (b := 0) (by have := h.b.1; omega) (by decide)).mp c
theorem p8 (h : R26 n G M S Wf) (c : ¬ S 10 8 = 0) : 0 < gnS M := Nat.pos_of_ne_zero (fun q => c (by rw [h.g8, h.nS, q]; rfl))
theorem z2 (h : R26 n G M S Wf) (c : S 10 2 = 0) : gnV M = 0 := by
  rw [h.g2, h.nV] at c
  exact (nI_eq (b := 0) (by have := h.b.2.2; omega) (by decide)).mp c
theorem p2 (h : R26 n G M S Wf) (c : ¬ S 10 2 = 0) : 0 < gnV M := Nat.pos_of_ne_zero (fun q => c (by rw [h.g2, h.nV, q]; rfl))
theorem t2_ (t : Nat) : nI (t % 2) = 0 ∨ nI (t % 2) = 1 := by
  rcases (show t % 2 = 0 ∨ t % 2 = 1 by omega) with q | q
  · rw [q]; exact Or.inl rfl
  · rw [q]; exact Or.inr rfl
theorem end_x (h : R26 n G M S Wf) : f_X6_isIndex 4 (nI (gnS G)) = 0 := by
  have := h.b.1
  have := h.r.S
  have z : nI (gnS G) ≤ 4 := nI_le (b := 4) (by omega) (by decide)
  unfold f_X6_isIndex
  rw [if_neg (by decide), if_pos z]
theorem end_c (h : R26 n G M S Wf) : A_calls G 4 4 = (-7100) ∧ H_calls G 4 4 = G := by
  unfold A_calls K_calls H_calls
  rw [if_pos (end_x h), if_pos (end_x h)]
  exact ⟨rfl, rfl⟩
theorem end_i (h : R26 n G M S Wf) : A_issue G 4 0 1 = (-7100) := by
  unfold A_issue K_issue
  rw [if_pos (end_x h)]
  rfl
end ZZ
set_option maxHeartbeats 4000000 in
set_option maxRecDepth 100000 in
theorem lc_tab {p : Program} {l : Launch} {e : Env} {R : Room} {s : State} {m : MethodId} {args : Array Value} {below : List Frame} {meth : Method} {c : Code} {Q : State → Prop} {D : va_G} {cy : Nat → ClassId} {A : Nat → Prop} {o b t i v : Nat} {ad : Nat → Nat} {u v12 : Int32} {n n1 c1 s1 : Nat} {G M S : GS} {Wf : Nat → Int64} {x9 : Int32} (F : CallFix p m c cL_law 40 s args BIG RL) (hlf : l.stackTraces = false) (hRm : 11 ≤ R.frames ∧ 278 ≤ R.locals ∧ c1 ≤ R.cells ∧ s1 ≤ R.slots) (h511 : n1 ≤ 511) (K : KJ p l e R s m args below meth c Q D cy A o b t ad u n1 c1 s1) (hR : R26 n G M S Wf) (hi4 : i < 4) (hi0 : gnS M = 0 ∨ i < gnS M) (hv50 : v < 50) (hv0 : gnV M = 0 ∨ v < gnV M) {X Y : MU} {AD : AM} {H : Heap} {locs : List Loc} {cells slots : Nat} (hf : cells + 30 ≤ c1 ∧ slots + 9500 ≤ s1) (hn : n + 4 ≤ n1) (ho : AD 0 0 0 = o) (hd : dis X Y) (hM : RepC cy AD G X) (hY : RepL cy ad S Wf Y) (w : WW D cy A (un X Y) s H locs) {ls : Array Slot} (hl : lv_has ls 40 [(0, .ref b), (1, .ref o), (2, .ref (ad 2)), (3, .ref (ad 3)), (4, .ref (ad 4)), (5, .ref (ad 5)), (6, .ref (ad 6)), (7, .ref (ad 7)), (8, .ref (ad 8)), (9, .ref (ad 9)), (10, .ref (ad 10)), (11, .int (nI t)), (12, .int v12), (13, .int u), (14, .int (nI i)), (15, .int (nI (14 * i))), (16, .int (nI v)), (17, .int 1)]) : W p l e R s m args below meth c H locs cells slots Q (F0 m 240 ls [.int x9]) := by
  by_cases c_1 : x9 = 0
  · refine lv_tableIn (tgt := 340) F.1 F.2.1 dL_law_240 (by rw [c_1]; decide) (by rw [c_1]; decide) (by rw [c_1]; rfl) (by decide) ?_
    exact lc_ship F hlf hRm h511 K hR hi4 hi0 hv50 hv0 ⟨by omega, by omega⟩ (by omega) ho hd hM hY w (lv_sub hl [0, 1, 2, 3, 4, 5, 6, 7, 8, 9, 10, 11, 12, 13, 14, 15, 16, 17] rfl)
  · by_cases c_2 : x9 = 1
    · refine lv_tableIn (tgt := 589) F.1 F.2.1 dL_law_240 (by rw [c_2]; decide) (by rw [c_2]; decide) (by rw [c_2]; rfl) (by decide) ?_
      exact lc_rule F hlf hRm h511 K hR hi4 hi0 hv50 hv0 ⟨by omega, by omega⟩ (by omega) ho hd hM hY w (lv_sub hl [0, 1, 2, 3, 4, 5, 6, 7, 8, 9, 10, 11, 12, 13, 14, 15, 16, 17] rfl)
    · by_cases c_3 : x9 = 2
      · refine lv_tableIn (tgt := 754) F.1 F.2.1 dL_law_240 (by rw [c_3]; decide) (by rw [c_3]; decide) (by rw [c_3]; rfl) (by decide) ?_
        exact lc_changes F hlf hRm h511 K hR hi4 hi0 hv50 hv0 ⟨by omega, by omega⟩ (by omega) ho hd hM hY w (lv_sub hl [0, 1, 2, 3, 4, 5, 6, 7, 8, 9, 10, 11, 12, 13, 14, 15, 16, 17] rfl)
      · by_cases c_4 : x9 = 3
        · refine lv_tableIn (tgt := 838) F.1 F.2.1 dL_law_240 (by rw [c_4]; decide) (by rw [c_4]; decide) (by rw [c_4]; rfl) (by decide) ?_
          exact lc_suspend F hlf hRm h511 K hR hi4 hi0 hv50 hv0 ⟨by omega, by omega⟩ (by omega) ho hd hM hY w (lv_sub hl [0, 1, 2, 3, 4, 5, 6, 7, 8, 9, 10, 11, 12, 13, 14, 15, 16, 17] rfl)
        · by_cases c_5 : x9 = 4
          · refine lv_tableIn (tgt := 936) F.1 F.2.1 dL_law_240 (by rw [c_5]; decide) (by rw [c_5]; decide) (by rw [c_5]; rfl) (by decide) ?_
            exact lc_issue F hlf hRm h511 K hR hi4 hi0 hv50 hv0 ⟨by omega, by omega⟩ (by omega) ho hd hM hY w (lv_sub hl [0, 1, 2, 3, 4, 5, 6, 7, 8, 9, 10, 11, 12, 13, 14, 15, 16, 17] rfl)
          · by_cases c_6 : x9 = 5
            · refine lv_tableIn (tgt := 936) F.1 F.2.1 dL_law_240 (by rw [c_6]; decide) (by rw [c_6]; decide) (by rw [c_6]; rfl) (by decide) ?_
              exact lc_issue F hlf hRm h511 K hR hi4 hi0 hv50 hv0 ⟨by omega, by omega⟩ (by omega) ho hd hM hY w (lv_sub hl [0, 1, 2, 3, 4, 5, 6, 7, 8, 9, 10, 11, 12, 13, 14, 15, 16, 17] rfl)
            · by_cases c_7 : x9 = 6
              · refine lv_tableIn (tgt := 936) F.1 F.2.1 dL_law_240 (by rw [c_7]; decide) (by rw [c_7]; decide) (by rw [c_7]; rfl) (by decide) ?_
                exact lc_issue F hlf hRm h511 K hR hi4 hi0 hv50 hv0 ⟨by omega, by omega⟩ (by omega) ho hd hM hY w (lv_sub hl [0, 1, 2, 3, 4, 5, 6, 7, 8, 9, 10, 11, 12, 13, 14, 15, 16, 17] rfl)
              · by_cases c_8 : x9 = 7
                · refine lv_tableIn (tgt := 1151) F.1 F.2.1 dL_law_240 (by rw [c_8]; decide) (by rw [c_8]; decide) (by rw [c_8]; rfl) (by decide) ?_
                  exact lc_endorse F hlf hRm h511 K hR hi4 hi0 hv50 hv0 ⟨by omega, by omega⟩ (by omega) ho hd hM hY w (lv_sub hl [0, 1, 2, 3, 4, 5, 6, 7, 8, 9, 10, 11, 12, 13, 14, 15, 16, 17] rfl)
                · by_cases c_9 : x9 = 8
                  · refine lv_tableIn (tgt := 1394) F.1 F.2.1 dL_law_240 (by rw [c_9]; decide) (by rw [c_9]; decide) (by rw [c_9]; rfl) (by decide) ?_
                    exact lc_calls F hlf hRm h511 K hR hi4 hi0 hv50 hv0 ⟨by omega, by omega⟩ (by omega) ho hd hM hY w (lv_sub hl [0, 1, 2, 3, 4, 5, 6, 7, 8, 9, 10, 11, 12, 13, 14, 15, 16, 17] rfl)
                  · by_cases c_10 : x9 = 9
                    · refine lv_tableIn (tgt := 1394) F.1 F.2.1 dL_law_240 (by rw [c_10]; decide) (by rw [c_10]; decide) (by rw [c_10]; rfl) (by decide) ?_
                      exact lc_calls F hlf hRm h511 K hR hi4 hi0 hv50 hv0 ⟨by omega, by omega⟩ (by omega) ho hd hM hY w (lv_sub hl [0, 1, 2, 3, 4, 5, 6, 7, 8, 9, 10, 11, 12, 13, 14, 15, 16, 17] rfl)
                    · by_cases c_11 : x9 = 10
                      · refine lv_tableIn (tgt := 1394) F.1 F.2.1 dL_law_240 (by rw [c_11]; decide) (by rw [c_11]; decide) (by rw [c_11]; rfl) (by decide) ?_
                        exact lc_calls F hlf hRm h511 K hR hi4 hi0 hv50 hv0 ⟨by omega, by omega⟩ (by omega) ho hd hM hY w (lv_sub hl [0, 1, 2, 3, 4, 5, 6, 7, 8, 9, 10, 11, 12, 13, 14, 15, 16, 17] rfl)
                      · by_cases c_12 : x9 = 11
                        · refine lv_tableIn (tgt := 1516) F.1 F.2.1 dL_law_240 (by rw [c_12]; decide) (by rw [c_12]; decide) (by rw [c_12]; rfl) (by decide) ?_
                          exact lc_leaves F hlf hRm h511 K hR hi4 hi0 hv50 hv0 ⟨by omega, by omega⟩ (by omega) ho hd hM hY w (lv_sub hl [0, 1, 2, 3, 4, 5, 6, 7, 8, 9, 10, 11, 12, 13, 14, 15, 16, 17] rfl)
                        · by_cases c_13 : x9 = 12
                          · refine lv_tableIn (tgt := 1686) F.1 F.2.1 dL_law_240 (by rw [c_13]; decide) (by rw [c_13]; decide) (by rw [c_13]; rfl) (by decide) ?_
                            exact lc_visit F hlf hRm h511 K hR hi4 hi0 hv50 hv0 ⟨by omega, by omega⟩ (by omega) ho hd hM hY w (lv_sub hl [0, 1, 2, 3, 4, 5, 6, 7, 8, 9, 10, 11, 12, 13, 14, 15, 16, 17] rfl)
                          · by_cases c_14 : x9 = 13
                            · refine lv_tableIn (tgt := 1686) F.1 F.2.1 dL_law_240 (by rw [c_14]; decide) (by rw [c_14]; decide) (by rw [c_14]; rfl) (by decide) ?_
                              exact lc_visit F hlf hRm h511 K hR hi4 hi0 hv50 hv0 ⟨by omega, by omega⟩ (by omega) ho hd hM hY w (lv_sub hl [0, 1, 2, 3, 4, 5, 6, 7, 8, 9, 10, 11, 12, 13, 14, 15, 16, 17] rfl)
                            · by_cases c_15 : x9 = 14
                              · refine lv_tableIn (tgt := 1686) F.1 F.2.1 dL_law_240 (by rw [c_15]; decide) (by rw [c_15]; decide) (by rw [c_15]; rfl) (by decide) ?_
                                exact lc_visit F hlf hRm h511 K hR hi4 hi0 hv50 hv0 ⟨by omega, by omega⟩ (by omega) ho hd hM hY w (lv_sub hl [0, 1, 2, 3, 4, 5, 6, 7, 8, 9, 10, 11, 12, 13, 14, 15, 16, 17] rfl)
                              · by_cases c_16 : x9 = 15
                                · refine lv_tableIn (tgt := 2030) F.1 F.2.1 dL_law_240 (by rw [c_16]; decide) (by rw [c_16]; decide) (by rw [c_16]; rfl) (by decide) ?_
                                  exact lc_finds F hlf hRm h511 K hR hi4 hi0 hv50 hv0 ⟨by omega, by omega⟩ (by omega) ho hd hM hY w (lv_sub hl [0, 1, 2, 3, 4, 5, 6, 7, 8, 9, 10, 11, 12, 13, 14, 15, 16, 17] rfl)
                                · by_cases c_17 : x9 = 16
                                  · refine lv_tableIn (tgt := 2030) F.1 F.2.1 dL_law_240 (by rw [c_17]; decide) (by rw [c_17]; decide) (by rw [c_17]; rfl) (by decide) ?_
                                    exact lc_finds F hlf hRm h511 K hR hi4 hi0 hv50 hv0 ⟨by omega, by omega⟩ (by omega) ho hd hM hY w (lv_sub hl [0, 1, 2, 3, 4, 5, 6, 7, 8, 9, 10, 11, 12, 13, 14, 15, 16, 17] rfl)
                                  · by_cases c_18 : x9 = 17
                                    · refine lv_tableIn (tgt := 2030) F.1 F.2.1 dL_law_240 (by rw [c_18]; decide) (by rw [c_18]; decide) (by rw [c_18]; rfl) (by decide) ?_
                                      exact lc_finds F hlf hRm h511 K hR hi4 hi0 hv50 hv0 ⟨by omega, by omega⟩ (by omega) ho hd hM hY w (lv_sub hl [0, 1, 2, 3, 4, 5, 6, 7, 8, 9, 10, 11, 12, 13, 14, 15, 16, 17] rfl)
                                    · by_cases c_19 : x9 = 18
                                      · refine lv_tableIn (tgt := 2256) F.1 F.2.1 dL_law_240 (by rw [c_19]; decide) (by rw [c_19]; decide) (by rw [c_19]; rfl) (by decide) ?_
                                        exact lc_mends F hlf hRm h511 K hR hi4 hi0 hv50 hv0 ⟨by omega, by omega⟩ (by omega) ho hd hM hY w (lv_sub hl [0, 1, 2, 3, 4, 5, 6, 7, 8, 9, 10, 11, 12, 13, 14, 15, 16, 17] rfl)
                                      · by_cases c_20 : x9 = 19
                                        · refine lv_tableIn (tgt := 2523) F.1 F.2.1 dL_law_240 (by rw [c_20]; decide) (by rw [c_20]; decide) (by rw [c_20]; rfl) (by decide) ?_
                                          exact lc_detain F hlf hRm h511 K hR hi4 hi0 hv50 hv0 ⟨by omega, by omega⟩ (by omega) ho hd hM hY w (lv_sub hl [0, 1, 2, 3, 4, 5, 6, 7, 8, 9, 10, 11, 12, 13, 14, 15, 16, 17] rfl)
                                        · by_cases c_21 : x9 = 20
                                          · refine lv_tableIn (tgt := 2847) F.1 F.2.1 dL_law_240 (by rw [c_21]; decide) (by rw [c_21]; decide) (by rw [c_21]; rfl) (by decide) ?_
                                            exact lc_appeal F hlf hRm h511 K hR hi4 hi0 hv50 hv0 ⟨by omega, by omega⟩ (by omega) ho hd hM hY w (lv_sub hl [0, 1, 2, 3, 4, 5, 6, 7, 8, 9, 10, 11, 12, 13, 14, 15, 16, 17] rfl)
                                          · refine lv_tableOut (tgt := 3172) F.1 F.2.1 dL_law_240 (by have q0 : x9.toInt ≠ 0 := i32_ne c_1 rfl; have q1 : x9.toInt ≠ 1 := i32_ne c_2 rfl; have q2 : x9.toInt ≠ 2 := i32_ne c_3 rfl; have q3 : x9.toInt ≠ 3 := i32_ne c_4 rfl; have q4 : x9.toInt ≠ 4 := i32_ne c_5 rfl; have q5 : x9.toInt ≠ 5 := i32_ne c_6 rfl; have q6 : x9.toInt ≠ 6 := i32_ne c_7 rfl; have q7 : x9.toInt ≠ 7 := i32_ne c_8 rfl; have q8 : x9.toInt ≠ 8 := i32_ne c_9 rfl; have q9 : x9.toInt ≠ 9 := i32_ne c_10 rfl; have q10 : x9.toInt ≠ 10 := i32_ne c_11 rfl; have q11 : x9.toInt ≠ 11 := i32_ne c_12 rfl; have q12 : x9.toInt ≠ 12 := i32_ne c_13 rfl; have q13 : x9.toInt ≠ 13 := i32_ne c_14 rfl; have q14 : x9.toInt ≠ 14 := i32_ne c_15 rfl; have q15 : x9.toInt ≠ 15 := i32_ne c_16 rfl; have q16 : x9.toInt ≠ 16 := i32_ne c_17 rfl; have q17 : x9.toInt ≠ 17 := i32_ne c_18 rfl; have q18 : x9.toInt ≠ 18 := i32_ne c_19 rfl; have q19 : x9.toInt ≠ 19 := i32_ne c_20 rfl; have q20 : x9.toInt ≠ 20 := i32_ne c_21 rfl; omega) (by decide) ?_
                                            exact lc_release F hlf hRm h511 K hR hi4 hi0 hv50 hv0 ⟨by omega, by omega⟩ (by omega) ho hd hM hY w (lv_sub hl [0, 1, 2, 3, 4, 5, 6, 7, 8, 9, 10, 11, 12, 13, 14, 15, 16, 17] rfl)
set_option maxHeartbeats 4000000 in
theorem lc_tab2 {p : Program} {l : Launch} {e : Env} {R : Room} {s : State} {m : MethodId} {args : Array Value} {below : List Frame} {meth : Method} {c : Code} {Q : State → Prop} {D : va_G} {cy : Nat → ClassId} {A : Nat → Prop} {o b t i v : Nat} {ad : Nat → Nat} {u v12 : Int32} {n n1 c1 s1 : Nat} {G M S : GS} {Wf : Nat → Int64} {x9 : Int32} (hx : x9 = 0 ∨ x9 = 1) (F : CallFix p m c cL_law 40 s args BIG RL) (hlf : l.stackTraces = false) (hRm : 11 ≤ R.frames ∧ 278 ≤ R.locals ∧ c1 ≤ R.cells ∧ s1 ≤ R.slots) (h511 : n1 ≤ 511) (K : KJ p l e R s m args below meth c Q D cy A o b t ad u n1 c1 s1) (hR : R26 n G M S Wf) (hi4 : i < 4) (hi0 : gnS M = 0 ∨ i < gnS M) (hv50 : v < 50) (hv0 : gnV M = 0 ∨ v < gnV M) {X Y : MU} {AD : AM} {H : Heap} {locs : List Loc} {cells slots : Nat} (hf : cells + 30 ≤ c1 ∧ slots + 9500 ≤ s1) (hn : n + 1 ≤ n1) (ho : AD 0 0 0 = o) (hd : dis X Y) (hM : RepC cy AD G X) (hY : RepL cy ad S Wf Y) (w : WW D cy A (un X Y) s H locs) {ls : Array Slot} (hl : lv_has ls 40 [(0, .ref b), (1, .ref o), (2, .ref (ad 2)), (3, .ref (ad 3)), (4, .ref (ad 4)), (5, .ref (ad 5)), (6, .ref (ad 6)), (7, .ref (ad 7)), (8, .ref (ad 8)), (9, .ref (ad 9)), (10, .ref (ad 10)), (11, .int (nI t)), (12, .int v12), (13, .int u), (14, .int (nI i)), (15, .int (nI (14 * i))), (16, .int (nI v)), (17, .int 1)]) : W p l e R s m args below meth c H locs cells slots Q (F0 m 240 ls [.int x9]) := by
  rcases hx with c_1 | c_1
  · refine lv_tableIn (tgt := 340) F.1 F.2.1 dL_law_240 (by rw [c_1]; decide) (by rw [c_1]; decide) (by rw [c_1]; rfl) (by decide) ?_
    exact lc_ship F hlf hRm h511 K hR hi4 hi0 hv50 hv0 ⟨by omega, by omega⟩ (by omega) ho hd hM hY w hl
  · refine lv_tableIn (tgt := 589) F.1 F.2.1 dL_law_240 (by rw [c_1]; decide) (by rw [c_1]; decide) (by rw [c_1]; rfl) (by decide) ?_
    exact lc_rule F hlf hRm h511 K hR hi4 hi0 hv50 hv0 ⟨by omega, by omega⟩ (by omega) ho hd hM hY w hl
set_option maxHeartbeats 4000000 in
set_option maxRecDepth 100000 in
theorem lc_sw {p : Program} {l : Launch} {e : Env} {R : Room} {s : State} {m : MethodId} {args : Array Value} {below : List Frame} {meth : Method} {c : Code} {Q : State → Prop} {D : va_G} {cy : Nat → ClassId} {A : Nat → Prop} {o b t i v : Nat} {ad : Nat → Nat} {u v12 : Int32} {n n1 c1 s1 : Nat} {G M S : GS} {Wf : Nat → Int64} (F : CallFix p m c cL_law 40 s args BIG RL) (hlf : l.stackTraces = false) (hRm : 11 ≤ R.frames ∧ 278 ≤ R.locals ∧ c1 ≤ R.cells ∧ s1 ≤ R.slots) (h511 : n1 ≤ 511) (K : KJ p l e R s m args below meth c Q D cy A o b t ad u n1 c1 s1) (hR : R26 n G M S Wf) (hi4 : i < 4) (hi0 : gnS M = 0 ∨ i < gnS M) (hv50 : v < 50) (hv0 : gnV M = 0 ∨ v < gnV M) (ht3 : t < 130) (hn9 : (t < 4 ∧ n + 1 ≤ n1) ∨ n + 4 ≤ n1) {X Y : MU} {AD : AM} {H : Heap} {locs : List Loc} {cells slots : Nat} (hf : cells + 30 ≤ c1 ∧ slots + 9500 ≤ s1) (hn : n + 0 ≤ n1) (ho : AD 0 0 0 = o) (hd : dis X Y) (hM : RepC cy AD G X) (hY : RepL cy ad S Wf Y) (w : WW D cy A (un X Y) s H locs) {ls : Array Slot} (hl : lv_has ls 40 [(16, .int (nI v)), (15, .int (nI (14 * i))), (14, .int (nI i)), (13, .int u), (12, .int v12), (11, .int (nI t)), (0, .ref b), (1, .ref o), (2, .ref (ad 2)), (3, .ref (ad 3)), (4, .ref (ad 4)), (5, .ref (ad 5)), (6, .ref (ad 6)), (7, .ref (ad 7)), (8, .ref (ad 8)), (9, .ref (ad 9)), (10, .ref (ad 10))]) : W p l e R s m args below meth c H locs cells slots Q (F0 m 217 ls []) := by
  have hL := hY.un hd
  refine lv_iconst (v := 1) F.1 F.2.1 dL_law_217 (by decide) ?_
  refine lv_istore (lv' := [(17, .int 1), (16, .int (nI v)), (15, .int (nI (14 * i))), (14, .int (nI i)), (13, .int u), (12, .int v12), (11, .int (nI t)), (0, .ref b), (1, .ref o), (2, .ref (ad 2)), (3, .ref (ad 3)), (4, .ref (ad 4)), (5, .ref (ad 5)), (6, .ref (ad 6)), (7, .ref (ad 7)), (8, .ref (ad 8)), (9, .ref (ad 9)), (10, .ref (ad 10))]) F.1 F.2.1 dL_law_218 hl (by decide) rfl (fun ls hl => ?_)
  refine lv_iload F.1 F.2.1 dL_law_220 (lv_at hl 6 rfl) ?_
  refine lv_iconst (v := 4) F.1 F.2.1 dL_law_222 (by decide) ?_
  refine lv_icmp_ge (tgt := 233) F.1 F.2.1 dL_law_223 (by decide) (fun c_1 => ?_) (fun c_1 => ?_)
  · refine lv_iload F.1 F.2.1 dL_law_233 (lv_at hl 5 rfl) ?_
    refine lv_bipush (v := 22) F.1 F.2.1 dL_law_235 (by decide) ?_
    obtain ⟨q237, hq237, eq237⟩ := low_ok v12 (n := 22) (by omega) (by omega)
    refine q_rS (rest := []) F w kS_L_134 hd_L_low (c_L_low l D cy A _ v12 22 (by decide)) dL_law_237 rfl rfl hl.1 ⟨rfl, rfl, (show 1 ≤ R.frames by omega), (show 21 ≤ R.locals by omega)⟩ (Nat.le_of_ble_eq_true rfl) ⟨by omega, by omega⟩ ?_
    refine lv_fold (y := nI q237) eq237 ?_
    have h4 : 4 ≤ t := (nI_leI (a := 4) (by decide) (by omega)).mp c_1
    exact lc_tab F hlf hRm h511 K hR hi4 hi0 hv50 hv0 hf (by omega) ho hd hM hY w (lv_sub hl [7, 8, 9, 10, 11, 12, 13, 14, 15, 16, 17, 6, 5, 4, 3, 2, 1, 0] rfl)
  · have h4 : t < 4 := Nat.lt_of_not_le (fun q => c_1 (nI_le (a := 4) q (by omega)))
    refine lv_iload F.1 F.2.1 dL_law_226 (lv_at hl 6 rfl) ?_
    refine lv_iconst (v := 2) F.1 F.2.1 dL_law_228 (by decide) ?_
    refine lv_irem F.1 F.2.1 dL_law_229 (by decide) ?_
    refine lv_fold (y := nI (t % 2)) (pk_rem (d := 2) (by omega) (by decide) (by decide)) ?_
    refine lv_goto (tgt := 240) F.1 F.2.1 dL_law_230 (by decide) ?_
    exact lc_tab2 (t2_ t) F hlf hRm h511 K hR hi4 hi0 hv50 hv0 hf (by omega) ho hd hM hY w (lv_sub hl [7, 8, 9, 10, 11, 12, 13, 14, 15, 16, 17, 6, 5, 4, 3, 2, 1, 0] rfl)
set_option maxHeartbeats 4000000 in
set_option maxRecDepth 100000 in
theorem lc_turn {p : Program} {l : Launch} {e : Env} {R : Room} {s : State} {m : MethodId} {args : Array Value} {below : List Frame} {meth : Method} {c : Code} {Q : State → Prop} {D : va_G} {cy : Nat → ClassId} {A : Nat → Prop} {o b t L9 : Nat} {xs : Nat → Int32} {ad : Nat → Nat} {n n1 c1 s1 : Nat} {G M S : GS} {Wf : Nat → Int64} (F : CallFix p m c cL_law 40 s args BIG RL) (hlf : l.stackTraces = false) (hRm : 11 ≤ R.frames ∧ 278 ≤ R.locals ∧ c1 ≤ R.cells ∧ s1 ≤ R.slots) (h511 : n1 ≤ 511) (K : ∀ u : Int32, KJ p l e R s m args below meth c Q D cy A o b t ad u n1 c1 s1) (hR : R26 n G M S Wf) (hX9 : va_X b L9 xs s s.heap) (hbl : b < s.heap.size) (hbA : ¬ A b) (hL9 : L9 ≤ 260) (ht3 : t < 130) (hn9 : (t < 4 ∧ n + 1 ≤ n1) ∨ n + 4 ≤ n1) {X Y : MU} {AD : AM} {H : Heap} {locs : List Loc} {cells slots : Nat} (hf : cells + 30 ≤ c1 ∧ slots + 9500 ≤ s1) (hn : n + 0 ≤ n1) (ho : AD 0 0 0 = o) (hd : dis X Y) (hM : RepC cy AD G X) (hY : RepL cy ad S Wf Y) (w : WW D cy A (un X Y) s H locs) {ls : Array Slot} (hl : lv_has ls 40 [(11, .int (nI t)), (0, .ref b), (1, .ref o), (2, .ref (ad 2)), (3, .ref (ad 3)), (4, .ref (ad 4)), (5, .ref (ad 5)), (6, .ref (ad 6)), (7, .ref (ad 7)), (8, .ref (ad 8)), (9, .ref (ad 9)), (10, .ref (ad 10))]) : W p l e R s m args below meth c H locs cells slots Q (F0 m 86 ls []) := by
  have hL := hY.un hd
  obtain ⟨t9, ht9, ht⟩ := hR.td
  have hb4 := hR.b
  have heV := hR.eV
  refine lv_iload F.1 F.2.1 dL_law_86 (lv_at hl 0 rfl) ?_
  refine lv_sipush (v := 130) F.1 F.2.1 dL_law_88 (by decide) ?_
  refine lv_icmp_ge (tgt := 3499) F.1 F.2.1 dL_law_91 (by decide) (fun c_1 => absurd c_1 (fun q => by have := (nI_leI (a := 130) (by decide) (by omega)).mp q; omega)) (fun c_1 => ?_)
  refine lv_aload_n F.1 F.2.1 dL_law_94 rfl (lv_at hl 1 rfl) ?_
  refine lv_iconst (v := 2) F.1 F.2.1 dL_law_95 (by decide) ?_
  refine lv_iload F.1 F.2.1 dL_law_96 (lv_at hl 0 rfl) ?_
  refine lv_imul F.1 F.2.1 dL_law_98 ?_
  refine lv_fold (y := nI (2 * t)) (pk_mul 2 t) ?_
  refine q_rS9 (rest := []) F w hX9 hbl hbA kS_L_160 hd_L_cell (c_L_cell l D cy A _ xs (2 * t) (by omega) hL9) dL_law_99 rfl rfl hl.1 ⟨rfl, rfl, (show 1 ≤ R.frames by omega), (show 21 ≤ R.locals by omega)⟩ (Nat.le_of_ble_eq_true rfl) ⟨by omega, by omega⟩ ?_
  refine lv_istore (lv' := [(12, .int (fcell L9 xs (2 * t))), (11, .int (nI t)), (0, .ref b), (1, .ref o), (2, .ref (ad 2)), (3, .ref (ad 3)), (4, .ref (ad 4)), (5, .ref (ad 5)), (6, .ref (ad 6)), (7, .ref (ad 7)), (8, .ref (ad 8)), (9, .ref (ad 9)), (10, .ref (ad 10))]) F.1 F.2.1 dL_law_102 hl (by decide) rfl (fun ls hl => ?_)
  refine lv_aload_n F.1 F.2.1 dL_law_104 rfl (lv_at hl 2 rfl) ?_
  refine lv_iconst (v := 2) F.1 F.2.1 dL_law_105 (by decide) ?_
  refine lv_iload F.1 F.2.1 dL_law_106 (lv_at hl 1 rfl) ?_
  refine lv_imul F.1 F.2.1 dL_law_108 ?_
  refine lv_fold (y := nI (2 * t)) (pk_mul 2 t) ?_
  refine lv_iconst (v := 1) F.1 F.2.1 dL_law_109 (by decide) ?_
  refine lv_iadd F.1 F.2.1 dL_law_110 ?_
  refine lv_fold (y := nI ((2 * t) + 1)) (nI_add (2 * t) 1) ?_
  refine q_rS9 (rest := []) F w hX9 hbl hbA kS_L_160 hd_L_cell (c_L_cell l D cy A _ xs ((2 * t) + 1) (by omega) hL9) dL_law_111 rfl rfl hl.1 ⟨rfl, rfl, (show 1 ≤ R.frames by omega), (show 21 ≤ R.locals by omega)⟩ (Nat.le_of_ble_eq_true rfl) ⟨by omega, by omega⟩ ?_
  refine lv_istore (lv' := [(13, .int (fcell L9 xs ((2 * t) + 1))), (12, .int (fcell L9 xs (2 * t))), (11, .int (nI t)), (0, .ref b), (1, .ref o), (2, .ref (ad 2)), (3, .ref (ad 3)), (4, .ref (ad 4)), (5, .ref (ad 5)), (6, .ref (ad 6)), (7, .ref (ad 7)), (8, .ref (ad 8)), (9, .ref (ad 9)), (10, .ref (ad 10))]) F.1 F.2.1 dL_law_114 hl (by decide) rfl (fun ls hl => ?_)
  refine lv_aload F.1 F.2.1 dL_law_116 (lv_at hl 13 rfl) ?_
  refine lv_bipush (v := 8) F.1 F.2.1 dL_law_118 (by decide) ?_
  refine l_ild F w hL 10 rfl 8 (show 8 < 9 by omega) dL_law_120 ?_
  refine lv_if_ne (tgt := 128) F.1 F.2.1 dL_law_121 (by decide) (fun c_2 => ?_) (fun c_2 => ?_)
  · have hS9 := p8 hR c_2
    refine lv_iload F.1 F.2.1 dL_law_128 (lv_at hl 1 rfl) ?_
    refine lv_iconst (v := 5) F.1 F.2.1 dL_law_130 (by decide) ?_
    refine lv_ishr F.1 F.2.1 dL_law_131 ?_
    refine lv_aload F.1 F.2.1 dL_law_132 (lv_at hl 13 rfl) ?_
    refine lv_bipush (v := 8) F.1 F.2.1 dL_law_134 (by decide) ?_
    refine l_ild F w hL 10 rfl 8 (show 8 < 9 by omega) dL_law_136 ?_
    refine lv_fold (y := nI (gnS M)) (hR.g8.trans hR.nS) ?_
    obtain ⟨q137, hq137, eq137⟩ := low_ok ((fcell L9 xs (2 * t)) >>> (5 &&& 31)) (n := gnS M) (by omega) (by omega)
    refine q_rS (rest := []) F w kS_L_134 hd_L_low (c_L_low l D cy A _ ((fcell L9 xs (2 * t)) >>> (5 &&& 31)) (nI (gnS M)) (nI_ne0 (by omega) (by omega))) dL_law_137 rfl rfl hl.1 ⟨rfl, rfl, (show 1 ≤ R.frames by omega), (show 21 ≤ R.locals by omega)⟩ (Nat.le_of_ble_eq_true rfl) ⟨by omega, by omega⟩ ?_
    refine lv_fold (y := nI q137) eq137 ?_
    refine lv_istore (lv' := [(14, .int (nI q137)), (13, .int (fcell L9 xs ((2 * t) + 1))), (12, .int (fcell L9 xs (2 * t))), (11, .int (nI t)), (0, .ref b), (1, .ref o), (2, .ref (ad 2)), (3, .ref (ad 3)), (4, .ref (ad 4)), (5, .ref (ad 5)), (6, .ref (ad 6)), (7, .ref (ad 7)), (8, .ref (ad 8)), (9, .ref (ad 9)), (10, .ref (ad 10))]) F.1 F.2.1 dL_law_140 hl (by decide) rfl (fun ls hl => ?_)
    refine lv_bipush (v := 14) F.1 F.2.1 dL_law_142 (by decide) ?_
    refine lv_iload F.1 F.2.1 dL_law_144 (lv_at hl 0 rfl) ?_
    refine lv_imul F.1 F.2.1 dL_law_146 ?_
    refine lv_fold (y := nI (14 * q137)) (pk_mul 14 q137) ?_
    refine lv_istore (lv' := [(15, .int (nI (14 * q137))), (14, .int (nI q137)), (13, .int (fcell L9 xs ((2 * t) + 1))), (12, .int (fcell L9 xs (2 * t))), (11, .int (nI t)), (0, .ref b), (1, .ref o), (2, .ref (ad 2)), (3, .ref (ad 3)), (4, .ref (ad 4)), (5, .ref (ad 5)), (6, .ref (ad 6)), (7, .ref (ad 7)), (8, .ref (ad 8)), (9, .ref (ad 9)), (10, .ref (ad 10))]) F.1 F.2.1 dL_law_147 hl (by decide) rfl (fun ls hl => ?_)
    refine lv_aload F.1 F.2.1 dL_law_149 (lv_at hl 15 rfl) ?_
    refine lv_iconst (v := 2) F.1 F.2.1 dL_law_151 (by decide) ?_
    refine l_ild F w hL 10 rfl 2 (show 2 < 9 by omega) dL_law_152 ?_
    refine lv_if_ne (tgt := 160) F.1 F.2.1 dL_law_153 (by decide) (fun c_3 => ?_) (fun c_3 => ?_)
    · have hV9 := p2 hR c_3
      refine lv_iload F.1 F.2.1 dL_law_160 (lv_at hl 3 rfl) ?_
      refine lv_sipush (v := 1536) F.1 F.2.1 dL_law_162 (by decide) ?_
      refine lv_iand F.1 F.2.1 dL_law_165 ?_
      refine lv_if_ne (tgt := 184) F.1 F.2.1 dL_law_166 (by decide) (fun c_4 => ?_) (fun c_4 => ?_)
      · refine lv_aload F.1 F.2.1 dL_law_184 (lv_at hl 15 rfl) ?_
        refine lv_iconst (v := 2) F.1 F.2.1 dL_law_186 (by decide) ?_
        refine l_ild F w hL 10 rfl 2 (show 2 < 9 by omega) dL_law_187 ?_
        refine lv_fold (y := nI (gnV M)) (hR.g2.trans hR.nV) ?_
        refine lv_iconst (v := 1) F.1 F.2.1 dL_law_188 (by decide) ?_
        refine lv_isub F.1 F.2.1 dL_law_189 ?_
        refine lv_fold (y := nI ((gnV M) - 1)) (pk_sub (a := (gnV M)) (b := 1) (by omega)) ?_
        refine lv_iload F.1 F.2.1 dL_law_190 (lv_at hl 3 rfl) ?_
        refine lv_bipush (v := 11) F.1 F.2.1 dL_law_192 (by decide) ?_
        refine lv_ishr F.1 F.2.1 dL_law_194 ?_
        refine lv_aload F.1 F.2.1 dL_law_195 (lv_at hl 15 rfl) ?_
        refine lv_iconst (v := 2) F.1 F.2.1 dL_law_197 (by decide) ?_
        refine l_ild F w hL 10 rfl 2 (show 2 < 9 by omega) dL_law_198 ?_
        refine lv_fold (y := nI (gnV M)) (hR.g2.trans hR.nV) ?_
        refine lv_iconst (v := 3) F.1 F.2.1 dL_law_199 (by decide) ?_
        refine lv_icmp_ge (tgt := 210) F.1 F.2.1 dL_law_200 (by decide) (fun c_5 => ?_) (fun c_5 => ?_)
        · have h39 : 3 ≤ gnV M := (nI_leI (a := 3) (by decide) (by omega)).mp c_5
          refine lv_iconst (v := 3) F.1 F.2.1 dL_law_210 (by decide) ?_
          obtain ⟨q211, hq211, eq211⟩ := low_ok ((fcell L9 xs (2 * t)) >>> (11 &&& 31)) (n := 3) (by omega) (by omega)
          refine q_rS (rest := [.int (nI ((gnV M) - 1))]) F w kS_L_134 hd_L_low (c_L_low l D cy A _ ((fcell L9 xs (2 * t)) >>> (11 &&& 31)) 3 (by decide)) dL_law_211 rfl rfl hl.1 ⟨rfl, rfl, (show 1 ≤ R.frames by omega), (show 21 ≤ R.locals by omega)⟩ (Nat.le_of_ble_eq_true rfl) ⟨by omega, by omega⟩ ?_
          refine lv_fold (y := nI q211) eq211 ?_
          refine lv_isub F.1 F.2.1 dL_law_214 ?_
          refine lv_fold (y := nI (((gnV M) - 1) - q211)) (pk_sub (a := ((gnV M) - 1)) (b := q211) (by omega)) ?_
          refine lv_istore (lv' := [(16, .int (nI (((gnV M) - 1) - q211))), (15, .int (nI (14 * q137))), (14, .int (nI q137)), (13, .int (fcell L9 xs ((2 * t) + 1))), (12, .int (fcell L9 xs (2 * t))), (11, .int (nI t)), (0, .ref b), (1, .ref o), (2, .ref (ad 2)), (3, .ref (ad 3)), (4, .ref (ad 4)), (5, .ref (ad 5)), (6, .ref (ad 6)), (7, .ref (ad 7)), (8, .ref (ad 8)), (9, .ref (ad 9)), (10, .ref (ad 10))]) F.1 F.2.1 dL_law_215 hl (by decide) rfl (fun ls hl => ?_)
          exact lc_sw F hlf hRm h511 (K _) hR (by omega) (by omega) (by omega) (by omega) ht3 hn9 hf hn ho hd hM hY w (lv_sub hl [0, 1, 2, 3, 4, 5, 6, 7, 8, 9, 10, 11, 12, 13, 14, 15, 16] rfl)
        · refine lv_aload F.1 F.2.1 dL_law_203 (lv_at hl 15 rfl) ?_
          refine lv_iconst (v := 2) F.1 F.2.1 dL_law_205 (by decide) ?_
          refine l_ild F w hL 10 rfl 2 (show 2 < 9 by omega) dL_law_206 ?_
          refine lv_fold (y := nI (gnV M)) (hR.g2.trans hR.nV) ?_
          refine lv_goto (tgt := 211) F.1 F.2.1 dL_law_207 (by decide) ?_
          obtain ⟨q211, hq211, eq211⟩ := low_ok ((fcell L9 xs (2 * t)) >>> (11 &&& 31)) (n := gnV M) (by omega) (by omega)
          refine q_rS (rest := [.int (nI ((gnV M) - 1))]) F w kS_L_134 hd_L_low (c_L_low l D cy A _ ((fcell L9 xs (2 * t)) >>> (11 &&& 31)) (nI (gnV M)) (nI_ne0 (by omega) (by omega))) dL_law_211 rfl rfl hl.1 ⟨rfl, rfl, (show 1 ≤ R.frames by omega), (show 21 ≤ R.locals by omega)⟩ (Nat.le_of_ble_eq_true rfl) ⟨by omega, by omega⟩ ?_
          refine lv_fold (y := nI q211) eq211 ?_
          refine lv_isub F.1 F.2.1 dL_law_214 ?_
          refine lv_fold (y := nI (((gnV M) - 1) - q211)) (pk_sub (a := ((gnV M) - 1)) (b := q211) (by omega)) ?_
          refine lv_istore (lv' := [(16, .int (nI (((gnV M) - 1) - q211))), (15, .int (nI (14 * q137))), (14, .int (nI q137)), (13, .int (fcell L9 xs ((2 * t) + 1))), (12, .int (fcell L9 xs (2 * t))), (11, .int (nI t)), (0, .ref b), (1, .ref o), (2, .ref (ad 2)), (3, .ref (ad 3)), (4, .ref (ad 4)), (5, .ref (ad 5)), (6, .ref (ad 6)), (7, .ref (ad 7)), (8, .ref (ad 8)), (9, .ref (ad 9)), (10, .ref (ad 10))]) F.1 F.2.1 dL_law_215 hl (by decide) rfl (fun ls hl => ?_)
          exact lc_sw F hlf hRm h511 (K _) hR (by omega) (by omega) (by omega) (by omega) ht3 hn9 hf hn ho hd hM hY w (lv_sub hl [0, 1, 2, 3, 4, 5, 6, 7, 8, 9, 10, 11, 12, 13, 14, 15, 16] rfl)
      · refine lv_iload F.1 F.2.1 dL_law_169 (lv_at hl 3 rfl) ?_
        refine lv_bipush (v := 11) F.1 F.2.1 dL_law_171 (by decide) ?_
        refine lv_ishr F.1 F.2.1 dL_law_173 ?_
        refine lv_aload F.1 F.2.1 dL_law_174 (lv_at hl 15 rfl) ?_
        refine lv_iconst (v := 2) F.1 F.2.1 dL_law_176 (by decide) ?_
        refine l_ild F w hL 10 rfl 2 (show 2 < 9 by omega) dL_law_177 ?_
        refine lv_fold (y := nI (gnV M)) (hR.g2.trans hR.nV) ?_
        obtain ⟨q178, hq178, eq178⟩ := low_ok ((fcell L9 xs (2 * t)) >>> (11 &&& 31)) (n := gnV M) (by omega) (by omega)
        refine q_rS (rest := []) F w kS_L_134 hd_L_low (c_L_low l D cy A _ ((fcell L9 xs (2 * t)) >>> (11 &&& 31)) (nI (gnV M)) (nI_ne0 (by omega) (by omega))) dL_law_178 rfl rfl hl.1 ⟨rfl, rfl, (show 1 ≤ R.frames by omega), (show 21 ≤ R.locals by omega)⟩ (Nat.le_of_ble_eq_true rfl) ⟨by omega, by omega⟩ ?_
        refine lv_fold (y := nI q178) eq178 ?_
        refine lv_goto (tgt := 215) F.1 F.2.1 dL_law_181 (by decide) ?_
        refine lv_istore (lv' := [(16, .int (nI q178)), (15, .int (nI (14 * q137))), (14, .int (nI q137)), (13, .int (fcell L9 xs ((2 * t) + 1))), (12, .int (fcell L9 xs (2 * t))), (11, .int (nI t)), (0, .ref b), (1, .ref o), (2, .ref (ad 2)), (3, .ref (ad 3)), (4, .ref (ad 4)), (5, .ref (ad 5)), (6, .ref (ad 6)), (7, .ref (ad 7)), (8, .ref (ad 8)), (9, .ref (ad 9)), (10, .ref (ad 10))]) F.1 F.2.1 dL_law_215 hl (by decide) rfl (fun ls hl => ?_)
        exact lc_sw F hlf hRm h511 (K _) hR (by omega) (by omega) (by omega) (by omega) ht3 hn9 hf hn ho hd hM hY w (lv_sub hl [0, 1, 2, 3, 4, 5, 6, 7, 8, 9, 10, 11, 12, 13, 14, 15, 16] rfl)
    · have hV9 := z2 hR c_3
      refine lv_iconst (v := 0) F.1 F.2.1 dL_law_156 (by decide) ?_
      refine lv_fold (y := nI 0) (rfl) ?_
      refine lv_goto (tgt := 215) F.1 F.2.1 dL_law_157 (by decide) ?_
      refine lv_istore (lv' := [(16, .int (nI 0)), (15, .int (nI (14 * q137))), (14, .int (nI q137)), (13, .int (fcell L9 xs ((2 * t) + 1))), (12, .int (fcell L9 xs (2 * t))), (11, .int (nI t)), (0, .ref b), (1, .ref o), (2, .ref (ad 2)), (3, .ref (ad 3)), (4, .ref (ad 4)), (5, .ref (ad 5)), (6, .ref (ad 6)), (7, .ref (ad 7)), (8, .ref (ad 8)), (9, .ref (ad 9)), (10, .ref (ad 10))]) F.1 F.2.1 dL_law_215 hl (by decide) rfl (fun ls hl => ?_)
      exact lc_sw F hlf hRm h511 (K _) hR (by omega) (by omega) (by omega) (by omega) ht3 hn9 hf hn ho hd hM hY w (lv_sub hl [0, 1, 2, 3, 4, 5, 6, 7, 8, 9, 10, 11, 12, 13, 14, 15, 16] rfl)
  · have hS9 := z8 hR c_2
    refine lv_iconst (v := 0) F.1 F.2.1 dL_law_124 (by decide) ?_
    refine lv_fold (y := nI 0) (rfl) ?_
    refine lv_goto (tgt := 140) F.1 F.2.1 dL_law_125 (by decide) ?_
    refine lv_istore (lv' := [(14, .int (nI 0)), (13, .int (fcell L9 xs ((2 * t) + 1))), (12, .int (fcell L9 xs (2 * t))), (11, .int (nI t)), (0, .ref b), (1, .ref o), (2, .ref (ad 2)), (3, .ref (ad 3)), (4, .ref (ad 4)), (5, .ref (ad 5)), (6, .ref (ad 6)), (7, .ref (ad 7)), (8, .ref (ad 8)), (9, .ref (ad 9)), (10, .ref (ad 10))]) F.1 F.2.1 dL_law_140 hl (by decide) rfl (fun ls hl => ?_)
    refine lv_bipush (v := 14) F.1 F.2.1 dL_law_142 (by decide) ?_
    refine lv_iload F.1 F.2.1 dL_law_144 (lv_at hl 0 rfl) ?_
    refine lv_imul F.1 F.2.1 dL_law_146 ?_
    refine lv_fold (y := nI (14 * 0)) (pk_mul 14 0) ?_
    refine lv_istore (lv' := [(15, .int (nI (14 * 0))), (14, .int (nI 0)), (13, .int (fcell L9 xs ((2 * t) + 1))), (12, .int (fcell L9 xs (2 * t))), (11, .int (nI t)), (0, .ref b), (1, .ref o), (2, .ref (ad 2)), (3, .ref (ad 3)), (4, .ref (ad 4)), (5, .ref (ad 5)), (6, .ref (ad 6)), (7, .ref (ad 7)), (8, .ref (ad 8)), (9, .ref (ad 9)), (10, .ref (ad 10))]) F.1 F.2.1 dL_law_147 hl (by decide) rfl (fun ls hl => ?_)
    refine lv_aload F.1 F.2.1 dL_law_149 (lv_at hl 15 rfl) ?_
    refine lv_iconst (v := 2) F.1 F.2.1 dL_law_151 (by decide) ?_
    refine l_ild F w hL 10 rfl 2 (show 2 < 9 by omega) dL_law_152 ?_
    refine lv_if_ne (tgt := 160) F.1 F.2.1 dL_law_153 (by decide) (fun c_6 => ?_) (fun c_6 => ?_)
    · have hV9 := p2 hR c_6
      refine lv_iload F.1 F.2.1 dL_law_160 (lv_at hl 3 rfl) ?_
      refine lv_sipush (v := 1536) F.1 F.2.1 dL_law_162 (by decide) ?_
      refine lv_iand F.1 F.2.1 dL_law_165 ?_
      refine lv_if_ne (tgt := 184) F.1 F.2.1 dL_law_166 (by decide) (fun c_7 => ?_) (fun c_7 => ?_)
      · refine lv_aload F.1 F.2.1 dL_law_184 (lv_at hl 15 rfl) ?_
        refine lv_iconst (v := 2) F.1 F.2.1 dL_law_186 (by decide) ?_
        refine l_ild F w hL 10 rfl 2 (show 2 < 9 by omega) dL_law_187 ?_
        refine lv_fold (y := nI (gnV M)) (hR.g2.trans hR.nV) ?_
        refine lv_iconst (v := 1) F.1 F.2.1 dL_law_188 (by decide) ?_
        refine lv_isub F.1 F.2.1 dL_law_189 ?_
        refine lv_fold (y := nI ((gnV M) - 1)) (pk_sub (a := (gnV M)) (b := 1) (by omega)) ?_
        refine lv_iload F.1 F.2.1 dL_law_190 (lv_at hl 3 rfl) ?_
        refine lv_bipush (v := 11) F.1 F.2.1 dL_law_192 (by decide) ?_
        refine lv_ishr F.1 F.2.1 dL_law_194 ?_
        refine lv_aload F.1 F.2.1 dL_law_195 (lv_at hl 15 rfl) ?_
        refine lv_iconst (v := 2) F.1 F.2.1 dL_law_197 (by decide) ?_
        refine l_ild F w hL 10 rfl 2 (show 2 < 9 by omega) dL_law_198 ?_
        refine lv_fold (y := nI (gnV M)) (hR.g2.trans hR.nV) ?_
        refine lv_iconst (v := 3) F.1 F.2.1 dL_law_199 (by decide) ?_
        refine lv_icmp_ge (tgt := 210) F.1 F.2.1 dL_law_200 (by decide) (fun c_8 => ?_) (fun c_8 => ?_)
        · have h39 : 3 ≤ gnV M := (nI_leI (a := 3) (by decide) (by omega)).mp c_8
          refine lv_iconst (v := 3) F.1 F.2.1 dL_law_210 (by decide) ?_
          obtain ⟨q211, hq211, eq211⟩ := low_ok ((fcell L9 xs (2 * t)) >>> (11 &&& 31)) (n := 3) (by omega) (by omega)
          refine q_rS (rest := [.int (nI ((gnV M) - 1))]) F w kS_L_134 hd_L_low (c_L_low l D cy A _ ((fcell L9 xs (2 * t)) >>> (11 &&& 31)) 3 (by decide)) dL_law_211 rfl rfl hl.1 ⟨rfl, rfl, (show 1 ≤ R.frames by omega), (show 21 ≤ R.locals by omega)⟩ (Nat.le_of_ble_eq_true rfl) ⟨by omega, by omega⟩ ?_
          refine lv_fold (y := nI q211) eq211 ?_
          refine lv_isub F.1 F.2.1 dL_law_214 ?_
          refine lv_fold (y := nI (((gnV M) - 1) - q211)) (pk_sub (a := ((gnV M) - 1)) (b := q211) (by omega)) ?_
          refine lv_istore (lv' := [(16, .int (nI (((gnV M) - 1) - q211))), (15, .int (nI (14 * 0))), (14, .int (nI 0)), (13, .int (fcell L9 xs ((2 * t) + 1))), (12, .int (fcell L9 xs (2 * t))), (11, .int (nI t)), (0, .ref b), (1, .ref o), (2, .ref (ad 2)), (3, .ref (ad 3)), (4, .ref (ad 4)), (5, .ref (ad 5)), (6, .ref (ad 6)), (7, .ref (ad 7)), (8, .ref (ad 8)), (9, .ref (ad 9)), (10, .ref (ad 10))]) F.1 F.2.1 dL_law_215 hl (by decide) rfl (fun ls hl => ?_)
          exact lc_sw F hlf hRm h511 (K _) hR (by omega) (by omega) (by omega) (by omega) ht3 hn9 hf hn ho hd hM hY w (lv_sub hl [0, 1, 2, 3, 4, 5, 6, 7, 8, 9, 10, 11, 12, 13, 14, 15, 16] rfl)
        · refine lv_aload F.1 F.2.1 dL_law_203 (lv_at hl 15 rfl) ?_
          refine lv_iconst (v := 2) F.1 F.2.1 dL_law_205 (by decide) ?_
          refine l_ild F w hL 10 rfl 2 (show 2 < 9 by omega) dL_law_206 ?_
          refine lv_fold (y := nI (gnV M)) (hR.g2.trans hR.nV) ?_
          refine lv_goto (tgt := 211) F.1 F.2.1 dL_law_207 (by decide) ?_
          obtain ⟨q211, hq211, eq211⟩ := low_ok ((fcell L9 xs (2 * t)) >>> (11 &&& 31)) (n := gnV M) (by omega) (by omega)
          refine q_rS (rest := [.int (nI ((gnV M) - 1))]) F w kS_L_134 hd_L_low (c_L_low l D cy A _ ((fcell L9 xs (2 * t)) >>> (11 &&& 31)) (nI (gnV M)) (nI_ne0 (by omega) (by omega))) dL_law_211 rfl rfl hl.1 ⟨rfl, rfl, (show 1 ≤ R.frames by omega), (show 21 ≤ R.locals by omega)⟩ (Nat.le_of_ble_eq_true rfl) ⟨by omega, by omega⟩ ?_
          refine lv_fold (y := nI q211) eq211 ?_
          refine lv_isub F.1 F.2.1 dL_law_214 ?_
          refine lv_fold (y := nI (((gnV M) - 1) - q211)) (pk_sub (a := ((gnV M) - 1)) (b := q211) (by omega)) ?_
          refine lv_istore (lv' := [(16, .int (nI (((gnV M) - 1) - q211))), (15, .int (nI (14 * 0))), (14, .int (nI 0)), (13, .int (fcell L9 xs ((2 * t) + 1))), (12, .int (fcell L9 xs (2 * t))), (11, .int (nI t)), (0, .ref b), (1, .ref o), (2, .ref (ad 2)), (3, .ref (ad 3)), (4, .ref (ad 4)), (5, .ref (ad 5)), (6, .ref (ad 6)), (7, .ref (ad 7)), (8, .ref (ad 8)), (9, .ref (ad 9)), (10, .ref (ad 10))]) F.1 F.2.1 dL_law_215 hl (by decide) rfl (fun ls hl => ?_)
          exact lc_sw F hlf hRm h511 (K _) hR (by omega) (by omega) (by omega) (by omega) ht3 hn9 hf hn ho hd hM hY w (lv_sub hl [0, 1, 2, 3, 4, 5, 6, 7, 8, 9, 10, 11, 12, 13, 14, 15, 16] rfl)
      · refine lv_iload F.1 F.2.1 dL_law_169 (lv_at hl 3 rfl) ?_
        refine lv_bipush (v := 11) F.1 F.2.1 dL_law_171 (by decide) ?_
        refine lv_ishr F.1 F.2.1 dL_law_173 ?_
        refine lv_aload F.1 F.2.1 dL_law_174 (lv_at hl 15 rfl) ?_
        refine lv_iconst (v := 2) F.1 F.2.1 dL_law_176 (by decide) ?_
        refine l_ild F w hL 10 rfl 2 (show 2 < 9 by omega) dL_law_177 ?_
        refine lv_fold (y := nI (gnV M)) (hR.g2.trans hR.nV) ?_
        obtain ⟨q178, hq178, eq178⟩ := low_ok ((fcell L9 xs (2 * t)) >>> (11 &&& 31)) (n := gnV M) (by omega) (by omega)
        refine q_rS (rest := []) F w kS_L_134 hd_L_low (c_L_low l D cy A _ ((fcell L9 xs (2 * t)) >>> (11 &&& 31)) (nI (gnV M)) (nI_ne0 (by omega) (by omega))) dL_law_178 rfl rfl hl.1 ⟨rfl, rfl, (show 1 ≤ R.frames by omega), (show 21 ≤ R.locals by omega)⟩ (Nat.le_of_ble_eq_true rfl) ⟨by omega, by omega⟩ ?_
        refine lv_fold (y := nI q178) eq178 ?_
        refine lv_goto (tgt := 215) F.1 F.2.1 dL_law_181 (by decide) ?_
        refine lv_istore (lv' := [(16, .int (nI q178)), (15, .int (nI (14 * 0))), (14, .int (nI 0)), (13, .int (fcell L9 xs ((2 * t) + 1))), (12, .int (fcell L9 xs (2 * t))), (11, .int (nI t)), (0, .ref b), (1, .ref o), (2, .ref (ad 2)), (3, .ref (ad 3)), (4, .ref (ad 4)), (5, .ref (ad 5)), (6, .ref (ad 6)), (7, .ref (ad 7)), (8, .ref (ad 8)), (9, .ref (ad 9)), (10, .ref (ad 10))]) F.1 F.2.1 dL_law_215 hl (by decide) rfl (fun ls hl => ?_)
        exact lc_sw F hlf hRm h511 (K _) hR (by omega) (by omega) (by omega) (by omega) ht3 hn9 hf hn ho hd hM hY w (lv_sub hl [0, 1, 2, 3, 4, 5, 6, 7, 8, 9, 10, 11, 12, 13, 14, 15, 16] rfl)
    · have hV9 := z2 hR c_6
      refine lv_iconst (v := 0) F.1 F.2.1 dL_law_156 (by decide) ?_
      refine lv_fold (y := nI 0) (rfl) ?_
      refine lv_goto (tgt := 215) F.1 F.2.1 dL_law_157 (by decide) ?_
      refine lv_istore (lv' := [(16, .int (nI 0)), (15, .int (nI (14 * 0))), (14, .int (nI 0)), (13, .int (fcell L9 xs ((2 * t) + 1))), (12, .int (fcell L9 xs (2 * t))), (11, .int (nI t)), (0, .ref b), (1, .ref o), (2, .ref (ad 2)), (3, .ref (ad 3)), (4, .ref (ad 4)), (5, .ref (ad 5)), (6, .ref (ad 6)), (7, .ref (ad 7)), (8, .ref (ad 8)), (9, .ref (ad 9)), (10, .ref (ad 10))]) F.1 F.2.1 dL_law_215 hl (by decide) rfl (fun ls hl => ?_)
      exact lc_sw F hlf hRm h511 (K _) hR (by omega) (by omega) (by omega) (by omega) ht3 hn9 hf hn ho hd hM hY w (lv_sub hl [0, 1, 2, 3, 4, 5, 6, 7, 8, 9, 10, 11, 12, 13, 14, 15, 16] rfl)
set_option maxHeartbeats 4000000 in
set_option maxRecDepth 100000 in
theorem lc_join {p : Program} {l : Launch} {e : Env} {R : Room} {s : State} {m : MethodId} {args : Array Value} {below : List Frame} {meth : Method} {c : Code} {Q : State → Prop} {D : va_G} {cy : Nat → ClassId} {A : Nat → Prop} {o b t : Nat} {ad : Nat → Nat} {u : Int32} {n : Nat} {G M S : GS} {Wf : Nat → Int64} (F : CallFix p m c cL_law 40 s args BIG RL) (hlf : l.stackTraces = false) (hR : R26 n G M S Wf) {X Y : MU} {AD : AM} {H : Heap} {locs : List Loc} {cells slots : Nat} (hRm : 11 ≤ R.frames ∧ 278 ≤ R.locals ∧ cells + 70 ≤ R.cells ∧ slots + 420 ≤ R.slots) (ho : AD 0 0 0 = o) (hd : dis X Y) (hM : RepC cy AD G X) (hY : RepL cy ad S Wf Y) (w : WW D cy A (un X Y) s H locs) (KN : ∀ {X : MU} {AD : AM} {H : Heap} {locs : List Loc} {ls : Array Slot}, AD 0 0 0 = o → dis X Y → RepC cy AD G X → WW D cy A (un X Y) s H locs → lv_has ls 40 [(11, .int (nI (t + 1))), (0, .ref b), (1, .ref o), (2, .ref (ad 2)), (3, .ref (ad 3)), (4, .ref (ad 4)), (5, .ref (ad 5)), (6, .ref (ad 6)), (7, .ref (ad 7)), (8, .ref (ad 8)), (9, .ref (ad 9)), (10, .ref (ad 10))] → W p l e R s m args below meth c H locs (cells + 70) (slots + 420) Q (F0 m 86 ls [])) {ls : Array Slot} (hl : lv_has ls 40 [(17, .int 1), (0, .ref b), (1, .ref o), (2, .ref (ad 2)), (3, .ref (ad 3)), (4, .ref (ad 4)), (5, .ref (ad 5)), (6, .ref (ad 6)), (7, .ref (ad 7)), (8, .ref (ad 8)), (9, .ref (ad 9)), (10, .ref (ad 10)), (11, .int (nI t)), (13, .int u)]) : W p l e R s m args below meth c H locs cells slots Q (F0 m 3461 ls []) := by
  refine lv_iload F.1 F.2.1 dL_law_3461 (lv_at hl 0 rfl) ?_
  refine lv_if_eq (tgt := 3491) F.1 F.2.1 dL_law_3463 (by decide) (fun c_1 => absurd c_1 (by decide)) (fun c_1 => ?_)
  refine lv_aload_n F.1 F.2.1 dL_law_3466 rfl (lv_at hl 2 rfl) ?_
  refine lv_iload F.1 F.2.1 dL_law_3467 (lv_at hl 13 rfl) ?_
  refine lv_aload_n F.1 F.2.1 dL_law_3469 rfl (lv_at hl 3 rfl) ?_
  refine lv_aload_n F.1 F.2.1 dL_law_3470 rfl (lv_at hl 4 rfl) ?_
  refine lv_aload F.1 F.2.1 dL_law_3471 (lv_at hl 5 rfl) ?_
  refine lv_aload F.1 F.2.1 dL_law_3473 (lv_at hl 6 rfl) ?_
  refine lv_aload F.1 F.2.1 dL_law_3475 (lv_at hl 7 rfl) ?_
  refine lv_aload F.1 F.2.1 dL_law_3477 (lv_at hl 8 rfl) ?_
  refine lv_aload F.1 F.2.1 dL_law_3479 (lv_at hl 9 rfl) ?_
  refine lv_aload F.1 F.2.1 dL_law_3481 (lv_at hl 10 rfl) ?_
  refine lv_aload F.1 F.2.1 dL_law_3483 (lv_at hl 11 rfl) ?_
  refine q_mSi (rest := []) F w kS_L_204 hd_L_isTold (c_L_isTold l D cy A hd hM ho hY hR u hlf) dL_law_3485 rfl rfl hl.1 ⟨rfl, rfl, (show 11 ≤ R.frames by omega), (show 267 ≤ R.locals by omega)⟩ (Nat.le_of_ble_eq_true rfl) ⟨by omega, by omega⟩ (fun v9 μ1 H locs hp w => ?_)
  obtain ⟨h9, X, AD, hμ, hd, ho, hM⟩ := hp
  subst h9
  subst hμ
  have hL := hY.un hd
  refine lv_if_ne (tgt := 3493) F.1 F.2.1 dL_law_3488 (by decide) (fun c_2 => ?_) (fun c_2 => absurd c_2 (by decide))
  refine lv_iinc (v := nI (t + 1)) (lv' := [(11, .int (nI (t + 1))), (17, .int 1), (0, .ref b), (1, .ref o), (2, .ref (ad 2)), (3, .ref (ad 3)), (4, .ref (ad 4)), (5, .ref (ad 5)), (6, .ref (ad 6)), (7, .ref (ad 7)), (8, .ref (ad 8)), (9, .ref (ad 9)), (10, .ref (ad 10)), (13, .int u)]) F.1 F.2.1 dL_law_3493 hl (k := 12) rfl (nI_1 _) (by decide) rfl (fun ls hl => ?_)
  refine lv_goto (tgt := 86) F.1 F.2.1 dL_law_3496 (by decide) ?_
  exact KN ho hd hM w (lv_sub hl [0, 2, 3, 4, 5, 6, 7, 8, 9, 10, 11, 12] rfl)
set_option maxHeartbeats 4000000 in
set_option maxRecDepth 100000 in
theorem lc_end {p : Program} {l : Launch} {e : Env} {s : State} {m : MethodId} {below : List Frame} {meth : Method} {c : Code} {D : va_G} {cy : Nat → ClassId} {A : Nat → Prop} {o b : Nat} {ad : Nat → Nat} {n : Nat} {G M S : GS} {Wf : Nat → Int64} (F : CallFix p m c cL_law 40 s #[Value.ref b] BIG RL) (hlf : l.stackTraces = false) (hbA2 : ∀ q, A q → s.heap.size ≤ q) (hr : meth.sig.returnType = ret) (hlk : meth.locks = false) (hR : R26 n G M S Wf) {X Y : MU} {AD : AM} {H : Heap} {locs : List Loc} {cells slots : Nat} (hf : cells ≤ 20000 ∧ slots ≤ 2000000) (ho : AD 0 0 0 = o) (hd : dis X Y) (hM : RepC cy AD G X) (hY : RepL cy ad S Wf Y) (w : WW D cy A (un X Y) s H locs) {ls : Array Slot} (hl : lv_has ls 40 [(11, .int (nI 130)), (0, .ref b), (1, .ref o), (2, .ref (ad 2)), (3, .ref (ad 3)), (4, .ref (ad 4)), (5, .ref (ad 5)), (6, .ref (ad 6)), (7, .ref (ad 7)), (8, .ref (ad 8)), (9, .ref (ad 9)), (10, .ref (ad 10))]) : W p l e room_1 s m #[Value.ref b] below meth c H locs cells slots (lw_Z below #[Value.ref b] s) (F0 m 86 ls []) := by
  have hRm : 11 ≤ room_1.frames ∧ 278 ≤ room_1.locals ∧ 20100 ≤ room_1.cells ∧ 2000100 ≤ room_1.slots := by decide
  refine lv_iload F.1 F.2.1 dL_law_86 (lv_at hl 0 rfl) ?_
  refine lv_sipush (v := 130) F.1 F.2.1 dL_law_88 (by decide) ?_
  refine lv_icmp_ge (tgt := 3499) F.1 F.2.1 dL_law_91 (by decide) (fun c_1 => ?_) (fun c_1 => absurd (by decide) c_1)
  refine lv_aload_n F.1 F.2.1 dL_law_3499 rfl (lv_at hl 2 rfl) ?_
  refine lv_iconst (v := 4) F.1 F.2.1 dL_law_3500 (by decide) ?_
  refine lv_iconst (v := 4) F.1 F.2.1 dL_law_3501 (by decide) ?_
  refine lw_calls (rest := []) F w hd hM ho hR.r.ic 4 4 hlf dL_law_3502 hl.1 ⟨by omega, by omega⟩ (Nat.le_of_ble_eq_true rfl) ⟨by omega, by omega⟩ (fun v3502 X AD H locs hv3502 ho hd hM w => ?_)
  have hL := hY.un hd
  rw [(end_c hR).2] at hM
  refine lv_fold (y := (-7100)) (hv3502.trans ((end_c hR).1)) ?_
  refine lv_sipush (v := -7100) F.1 F.2.1 dL_law_3505 (by decide) ?_
  refine lv_icmp_ne (tgt := 3528) F.1 F.2.1 dL_law_3508 (by decide) (fun c_2 => absurd rfl c_2) (fun c_2 => ?_)
  refine lv_aload_n F.1 F.2.1 dL_law_3511 rfl (lv_at hl 2 rfl) ?_
  refine lv_iconst (v := 4) F.1 F.2.1 dL_law_3512 (by decide) ?_
  refine lv_iconst (v := 0) F.1 F.2.1 dL_law_3513 (by decide) ?_
  refine lv_iconst (v := 1) F.1 F.2.1 dL_law_3514 (by decide) ?_
  refine lw_issue (rest := []) F w hd hM ho hR.r.ic 4 0 1 hlf dL_law_3515 hl.1 ⟨by omega, by omega⟩ (Nat.le_of_ble_eq_true rfl) ⟨by omega, by omega⟩ (fun v3515 X AD H locs hv3515 ho hd hM w => ?_)
  have hL := hY.un hd
  refine lv_fold (y := (-7100)) (hv3515.trans (end_i hR)) ?_
  refine lv_sipush (v := -7100) F.1 F.2.1 dL_law_3518 (by decide) ?_
  refine lv_icmp_ne (tgt := 3528) F.1 F.2.1 dL_law_3521 (by decide) (fun c_3 => absurd rfl c_3) (fun c_3 => ?_)
  refine lv_iconst (v := 1) F.1 F.2.1 dL_law_3524 (by decide) ?_
  refine lv_goto (tgt := 3529) F.1 F.2.1 dL_law_3525 (by decide) ?_
  refine va_forget (fun q hq => hbA2 _ (w.2.2.2.1.2.2 q hq)) ?_
  refine W.widen (k := 660457) (n := 7120328) (by omega) (by omega) ?_
  exact lw_ret F.1 F.2.1 hr hlk dL_law_3529
def nb (t : Nat) : Nat := if t < 4 then t else 4 * t - 12
set_option maxHeartbeats 4000000 in
theorem lc_main {p : Program} {l : Launch} {e : Env} {s : State} {m : MethodId} {below : List Frame} {meth : Method} {c : Code} {D : va_G} {cy : Nat → ClassId} {A : Nat → Prop} {o b L9 : Nat} {xs : Nat → Int32} {ad : Nat → Nat} (F : CallFix p m c cL_law 40 s #[Value.ref b] BIG RL) (hlf : l.stackTraces = false) (hbA2 : ∀ q, A q → s.heap.size ≤ q) (hr : meth.sig.returnType = ret) (hlk : meth.locks = false) (hX9 : va_X b L9 xs s s.heap) (hbl : b < s.heap.size) (hbA : ¬ A b) (hL9 : L9 ≤ 260) : ∀ (d t : Nat), t + d = 130 → ∀ {G M S : GS} {Wf : Nat → Int64} {X Y : MU} {AD : AM} {H : Heap} {locs : List Loc} {ls : Array Slot}, R26 (nb t) G M S Wf → AD 0 0 0 = o → dis X Y → RepC cy AD G X → RepL cy ad S Wf Y → WW D cy A (un X Y) s H locs → lv_has ls 40 [(11, .int (nI t)), (0, .ref b), (1, .ref o), (2, .ref (ad 2)), (3, .ref (ad 3)), (4, .ref (ad 4)), (5, .ref (ad 5)), (6, .ref (ad 6)), (7, .ref (ad 7)), (8, .ref (ad 8)), (9, .ref (ad 9)), (10, .ref (ad 10))] → W p l e room_1 s m #[Value.ref b] below meth c H locs (1000 + 100 * t) (20000 + 10000 * t) (lw_Z below #[Value.ref b] s) (F0 m 86 ls []) := by
  intro d
  induction d with
  | zero =>
    intro t ht G M S Wf X Y AD H locs ls hR ho hd hM hY w hl
    have h130 : t = 130 := ht
    subst h130
    exact lc_end F hlf hbA2 hr hlk hR (by decide) ho hd hM hY w hl
  | succ d ih =>
    intro t ht G M S Wf X Y AD H locs ls hR ho hd hM hY w hl
    have ht3 : t < 130 := by omega
    have r1 : room_1.frames = 13 := rfl
    have r2 : room_1.locals = 540 := rfl
    have r3 : room_1.cells = 660457 := rfl
    have r4 : room_1.slots = 7120328 := rfl
    refine lc_turn (n1 := nb (t + 1)) (c1 := 1000 + 100 * t + 30) (s1 := 20000 + 10000 * t + 9500) F hlf ⟨by omega, by omega, by omega, by omega⟩ (by unfold nb; split <;> omega) (fun u H1 locs1 ls1 hq hl1 => ?_) hR hX9 hbl hbA hL9 ht3 (by unfold nb; split <;> split <;> omega) ⟨by omega, by omega⟩ (by unfold nb; split <;> split <;> omega) ho hd hM hY w hl
    obtain ⟨X, Y, AD, G, M, S, Wf, ho, hd, hM, hY, w, hR⟩ := hq
    have hl1 : lv_has ls1 40 [(17, .int 1), (0, .ref b), (1, .ref o), (2, .ref (ad 2)), (3, .ref (ad 3)), (4, .ref (ad 4)), (5, .ref (ad 5)), (6, .ref (ad 6)), (7, .ref (ad 7)), (8, .ref (ad 8)), (9, .ref (ad 9)), (10, .ref (ad 10)), (11, .int (nI t)), (13, .int u)] := hl1
    refine lc_join F hlf hR ⟨by omega, by omega, by omega, by omega⟩ ho hd hM hY w (fun ho hd hM w hl => ?_) hl1
    refine W.widen (k := 1000 + 100 * (t + 1)) (n := 20000 + 10000 * (t + 1)) (by omega) (by omega) ?_
    exact ih (t + 1) (by omega) hR ho hd hM hY w hl
