/-! each call as the law makes it: its answer, the reference behind it -/
theorem here_e {n : Nat} {G M : GS} (h : R9 n G M) {v s : Nat} (hv : v < gnV G) (hs : M 30 v = nI s) (hs9 : s < 2 ^ 31) : (M 11 s = nI v ↔ f_X6_hasLeftSince G v = 0) := by
  have q := v_here h v
  unfold f_X7_isHere at q
  rw [hs, nI_clamp hs9] at q
  by_cases c : M 11 s = nI v
  · rw [if_pos c] at q
    exact ⟨fun _ => Classical.not_not.mp (fun q9 => absurd (q.mpr q9) (by decide)), fun _ => c⟩
  · rw [if_neg c] at q
    exact ⟨fun q9 => absurd q9 c, fun q9 => absurd q9 (q.mp rfl)⟩
section SP
variable {n : Nat} {G M : GS}
theorem gno (h : R9 n G M) {v : Nat} (hv : v < gnV G) : M 30 v = nI (gnO G v) ∧ gnO G v < gnS G := by
  rw [h.q 30]
  exact h.ic.so hv
theorem sp_pass (h : R9 n G M) {t d : Nat} (ht : M 1 0 = nI t) (d1 : 1 ≤ d) (d2 : d ≤ 500) (h9 : t + d ≤ 9000) : A_pass G (nI d) = nI (t + d) ∧ R9 (n + 1) (H_pass G (nI d)) (g_X7_pass_2 M (nI d)) := by
  have a : ¬ nI d < 1 := fun q => by have := (nI_ltI (b := 1) (by omega) (by decide)).mp q; omega
  have b : nI d ≤ 500 := nI_le (b := 500) d2 (by decide)
  have e : G 1 0 + nI d = nI (t + d) := by rw [← h.q 1, ht, nI_add]
  have c : G 1 0 + nI d ≤ 9000 := by rw [e]; exact nI_le (b := 9000) h9 (by decide)
  have rk := rk_pass h ⟨t + d, h9, e⟩
  refine ⟨?_, ?_⟩
  · unfold A_pass K_pass F_pass x_X6_pass f_X6_pass
    rw [if_neg a, if_pos b, if_pos c, if_neg a, if_pos b, if_pos c]
    exact e
  · unfold H_pass g_X6_pass
    rw [if_neg a, if_pos b, if_pos c]
    exact rk
theorem sp_changes (h : R9 n G M) (hn : n < 512) {i f b : Nat} (hi : i < gnS G) (hf : f < 6) (hb : b < 4) : A_changes G (nI i) (nI f) (nI b) = M 9 i + 1 ∧ R9 (n + 1) (H_changes G (nI i) (nI f) (nI b)) (g_X7_changes_4 M i (nI f) (nI b)) := by
  obtain ⟨k1, k2, k3⟩ := kA_changes h.ic hi (nI f) (nI b)
  have a : ¬ f_X6_isIndex (nI f) 6 = 0 := isx_nz (n := 6) rfl hf (by decide)
  have c : ¬ f_X6_isIndex (nI b) 4 = 0 := isx_nz (n := 4) rfl hb (by decide)
  have rk := rk_changes h hi (h.gn hn hi) ⟨b, hb, rfl⟩ (x2 := nI f)
  refine ⟨?_, ?_⟩
  · unfold A_changes
    rw [k1, k2]
    unfold x_X6_changes f_X6_changes
    rw [if_neg a, if_neg c, if_neg a, if_neg c, h.q 9]
    show (up2 (g_X6_changes_2 G i (nI f) (nI b)) 9 i ((G 9 i) + 1)) 9 i = G 9 i + 1
    exact (congrFun (up2_eq _ _ _ _) _).trans pk_us
  · rw [k3]
    unfold g_X6_changes
    rw [if_neg a, if_neg c]
    exact rk
theorem sp_suspend (h : R9 n G M) {i : Nat} {x : Int32} (hi : i < 4) (hx : x = 0 ∨ x = 1) : A_suspend G (nI i) x = (if M 2 i = 0 then 0 else 1) ∧ R9 (n + 1) (H_suspend G (nI i) x) (g_X7_suspend_2 M i x) := by
  obtain ⟨k1, k2, k3⟩ := kA_suspend h.ic hi x
  refine ⟨?_, ?_⟩
  · unfold A_suspend
    rw [k1, k2, h.q 2]
    rfl
  · rw [k3]
    exact rk_suspend h (by rcases hx with q | q <;> rw [q]; exact nz0; exact nz1)
theorem sp_issue_ok (h : R9 n G M) {i f T : Nat} (hi : i < gnS G) (hf : f < 5) (t1 : 1 ≤ T) (t2 : T ≤ 1825) (c1 : M 2 (M 8 i).toNatClampNeg = 0) (c2 : f_X6_isIn (f_X6_hangsOn (nI f)) (f_X7_lapsedOf M i) = 0) : A_issue G (nI i) (nI f) (nI T) = M 1 0 + nI T ∧ R9 (n + 1) (H_issue G (nI i) (nI f) (nI T)) (g_X7_issue_7 M i f (nI T)) := by
  obtain ⟨k1, k2, k3⟩ := kA_issue h.ic hi hf (nI T)
  have a : ¬ nI T < 1 := fun q => by have := (nI_ltI (b := 1) (by omega) (by decide)).mp q; omega
  have b : nI T ≤ 1825 := nI_le (b := 1825) t2 (by decide)
  have c : f_X6_isSuspended G (G 8 i) = 0 := by rw [v_sus h, if_pos c1]
  rw [v_fam h] at c2
  have rk := rk_issue h hi hf t1 t2 rfl
  refine ⟨?_, ?_⟩
  · unfold A_issue
    rw [k1, k2]
    unfold x_X6_issue f_X6_issue
    rw [if_neg a, if_pos b, if_pos c, if_pos c2, if_neg a, if_pos b, if_pos c, if_pos c2, h.q 1]
    rfl
  · rw [k3]
    unfold g_X6_issue
    rw [if_neg a, if_pos b, if_pos c, if_pos c2]
    exact rk
theorem sp_issue_no (h : R9 n G M) {i f T : Nat} (hi : i < gnS G) (hf : f < 5) (t1 : 1 ≤ T) (t2 : T ≤ 1825) (c9 : ¬ (M 2 (M 8 i).toNatClampNeg = 0 ∧ f_X6_isIn (f_X6_hangsOn (nI f)) (f_X7_lapsedOf M i) = 0)) : A_issue G (nI i) (nI f) (nI T) = -7300 ∧ H_issue G (nI i) (nI f) (nI T) = G := by
  obtain ⟨k1, k2, k3⟩ := kA_issue h.ic hi hf (nI T)
  have a : ¬ nI T < 1 := fun q => by have := (nI_ltI (b := 1) (by omega) (by decide)).mp q; omega
  have b : nI T ≤ 1825 := nI_le (b := 1825) t2 (by decide)
  rw [v_fam h] at c9
  have hK : K_issue G (nI i) (nI f) (nI T) = 2 := by
    rw [k1]
    unfold x_X6_issue
    rw [if_neg a, if_pos b]
    by_cases c : M 2 (M 8 i).toNatClampNeg = 0
    · rw [if_pos (by rw [v_sus h, if_pos c]), if_neg (fun q => c9 ⟨c, q⟩)]
    · rw [if_neg (by rw [v_sus h, if_neg c]; decide)]
  exact ⟨by unfold A_issue; rw [hK]; rfl, hk_issue G _ _ _ (by rw [hK]; decide)⟩
theorem sp_endorse_ok (h : R9 n G M) {i f k : Nat} (hi : i < gnS G) (hf : f < 5) (c0 : f_X6_isIn (nI f) (f_X7_lapsedOf M i) = 0) (k4 : k < 4) (c2 : f_X7_anniversary M (5 * i + f) = nI (k + 1)) : A_endorse G (nI i) (nI f) = f_X7_many ((M 22 (5 * i + f)) ||| ((1 : Int32) <<< (nI (k + 1) &&& 31))) ∧ R9 (n + 1) (H_endorse G (nI i) (nI f)) (g_X7_endorse_3 M i f) ∧ f_X7_anniversary (g_X7_endorse_2 M i f) (5 * i + f) = nI (k + 1) := by
  obtain ⟨k1, k2, k3⟩ := kA_endorse h.ic hi hf
  rw [v_fam h] at c0
  have c18 : ¬ G 18 (5 * i + f) = 0 := fun q => fam_18 h hf q c0
  have cK : f_X0_anniversaryToEndorse G i f (G 1 0) = nI k := by
    rcases v_ann h i f with ⟨q, -⟩ | ⟨j, j1, j2, j3⟩
    · rw [c2] at q; exact absurd q (nI_m1 (by omega))
    · rw [c2] at j3
      have e9 := (nI_eq (by omega) (by omega)).mp j3
      rw [j2, show j = k by omega]
  have cA : ¬ f_X0_anniversaryToEndorse G i f (G 1 0) = -1 := by rw [cK]; exact nI_m1 (by omega)
  have h2 : R9 n G (g_X7_endorse_2 M i f) := (h.z _).z _
  have cA2 : f_X7_anniversary (g_X7_endorse_2 M i f) (5 * i + f) = nI (k + 1) := by
    rcases v_ann h2 i f with ⟨-, q⟩ | ⟨j, j1, j2, j3⟩
    · exact absurd q cA
    · rw [cK] at j2
      have e9 := (nI_eq (by omega) (by omega)).mp j2
      rw [j3, show j = k by omega]
  have rk := rk_endorse h k4 cK cA2 (i := i) (f := f)
  obtain ⟨e, e1, e2, e3⟩ := h.e22 (5 * i + f)
  refine ⟨?_, ?_, cA2⟩
  · unfold A_endorse
    rw [k1, k2]
    unfold x_X6_endorse f_X6_endorse
    rw [if_neg c18, if_pos c0, if_neg cA, if_neg c18, if_pos c0, if_neg cA, cK, e2, e3]
    exact bit_b e e1 k k4
  · rw [k3]
    unfold g_X6_endorse
    rw [if_neg c18, if_pos c0, if_neg cA]
    exact rk
theorem sp_endorse_no (h : R9 n G M) {i f : Nat} (hi : i < gnS G) (hf : f < 5) (c9 : ¬ f_X6_isIn (nI f) (f_X7_lapsedOf M i) = 0 ∨ f_X7_anniversary M (5 * i + f) = -1) : A_endorse G (nI i) (nI f) = -7300 ∧ H_endorse G (nI i) (nI f) = G := by
  obtain ⟨k1, k2, k3⟩ := kA_endorse h.ic hi hf
  rw [v_fam h] at c9
  have hK : K_endorse G (nI i) (nI f) = 2 := by
    rw [k1]
    unfold x_X6_endorse
    by_cases c18 : G 18 (5 * i + f) = 0
    · rw [if_pos c18]
    · rw [if_neg c18]
      rcases c9 with c | c
      · rw [if_neg c]
      · by_cases c0 : f_X6_isIn (nI f) (f_X6_familiesNotGood G i) = 0
        · rw [if_pos c0, if_pos]
          rcases v_ann h i f with ⟨-, q⟩ | ⟨j, j1, j2, j3⟩
          · exact q
          · rw [c] at j3; exact absurd j3.symm (nI_m1 (by omega))
        · rw [if_neg c0]
  exact ⟨by unfold A_endorse; rw [hK]; rfl, hk_endorse G _ _ (by rw [hK]; decide)⟩
theorem sp_calls_ok (h : R9 n G M) {i p : Nat} (hi : i < gnS G) (hp : p < 4) (c1 : M 10 i = -1) (c2 : f_X7_isBanned M i = 0) : A_calls G (nI i) (nI p) = f_X7_priorityOf (g_X7_calls_3 M i (nI p)) i ∧ R9 (n + 1) (H_calls G (nI i) (nI p)) (g_X7_calls_3 M i (nI p)) := by
  obtain ⟨k1, k2, k3⟩ := kA_calls h.ic hi (nI p)
  have a : ¬ f_X6_isIndex (nI p) 4 = 0 := isx_nz (n := 4) rfl hp (by decide)
  rw [h.q 10] at c1
  rw [v_ban h] at c2
  have rk := rk_calls h c1 hp (x2 := nI p) rfl
  refine ⟨?_, ?_⟩
  · unfold A_calls
    rw [k1, k2]
    unfold x_X6_calls f_X6_calls
    rw [if_neg a, if_pos c1, if_pos c2, if_neg a, if_pos c1, if_pos c2, v_pri rk]
    rfl
  · rw [k3]
    unfold g_X6_calls
    rw [if_neg a, if_pos c1, if_pos c2]
    exact rk
theorem sp_calls_no (h : R9 n G M) {i p : Nat} (hi : i < gnS G) (hp : p < 4) (c9 : ¬ (M 10 i = -1 ∧ f_X7_isBanned M i = 0)) : A_calls G (nI i) (nI p) = -7300 ∧ H_calls G (nI i) (nI p) = G := by
  obtain ⟨k1, k2, k3⟩ := kA_calls h.ic hi (nI p)
  have a : ¬ f_X6_isIndex (nI p) 4 = 0 := isx_nz (n := 4) rfl hp (by decide)
  rw [h.q 10, v_ban h] at c9
  have hK : K_calls G (nI i) (nI p) = 2 := by
    rw [k1]
    unfold x_X6_calls
    rw [if_neg a]
    by_cases c : G 10 i = -1
    · rw [if_pos c, if_neg (fun q => c9 ⟨c, q⟩)]
    · rw [if_neg c]
  exact ⟨by unfold A_calls; rw [hK]; rfl, hk_calls G _ _ (by rw [hK]; decide)⟩
theorem sp_leaves_ok (h : R9 n G M) {i p : Nat} (hi : i < gnS G) (hp : p < 4) (c1 : M 10 i = nI p) (c2 : M 13 i = -1) : A_leaves G (nI i) = (if M 11 i = -1 then (if f_X7_priorityOf M i = 2 then 1 else 0) else 0) ∧ ∃ M1, R9 (n + 1) (H_leaves G (nI i)) M1 ∧ M1 = up2 (up2 (up2 (up2 M 0 0 (M1 0 0)) 43 p ((M 43 p) + (if M 11 i = -1 then (if f_X7_priorityOf M i = 2 then 1 else 0) else 0))) 10 i (-1)) 11 i (-1) := by
  rw [h.q 10] at c1
  obtain ⟨k1, k2, k3⟩ := kA_leaves h.ic hi c1 hp
  have hv : v_X7_leaves_74 M i p = (if M 11 i = -1 then (if f_X7_priorityOf M i = 2 then 1 else 0) else 0) := by
    unfold v_X7_leaves_74
    have e9 : f_X7_priorityOf (g_X7_leaves_1 M i p) i = f_X7_priorityOf M i := (v_pri (show R9 n G (g_X7_leaves_1 M i p) from h.z _) i).trans (v_pri h i).symm
    rw [e9]
  have hv6 : v_X6_leaves_52 G i p = v_X7_leaves_74 M i p := by
    rw [hv]
    unfold v_X6_leaves_52
    rw [h.q 11, v_pri h]
  have c13 : G 13 i = -1 := by rw [← h.q 13]; exact c2
  have hx : x_X6_leaves G i p = 0 := by
    unfold x_X6_leaves
    rw [if_pos c13]
    split <;> rfl
  have hf : f_X6_leaves G i p = v_X7_leaves_74 M i p := by
    unfold f_X6_leaves
    rw [if_pos c13, ← hv6]
    split <;> rfl
  have h4 : g_X7_leaves_4 M i p = up2 (up2 (up2 (up2 M 0 0 ((g_X7_leaves_4 M i p) 0 0)) 43 p ((M 43 p) + (if v_X7_leaves_74 M i p = 0 then 0 else 1))) 10 i (-1)) 11 i (-1) := rfl
  have h01 : v_X7_leaves_74 M i p = (if v_X7_leaves_74 M i p = 0 then 0 else 1) := by
    rw [hv]
    (repeat' split) <;> first | rfl | contradiction
  refine ⟨?_, g_X7_leaves_4 M i p, ?_, ?_⟩
  · unfold A_leaves
    rw [k1, k2, hx, hf, ← h01, hv]
    rfl
  · rw [k3]
    unfold g_X6_leaves
    rw [if_pos c13]
    by_cases c : v_X7_leaves_74 M i p = 0
    · rw [if_pos (hv6.trans c)]
      exact rk_leavesA h c
    · rw [if_neg (fun q => c (hv6.symm.trans q))]
      exact rk_leavesB h c
  · rw [← hv, h01]
    exact h4
theorem sp_leaves_no (h : R9 n G M) {i : Nat} (hi : i < gnS G) (c9 : M 10 i = -1 ∨ ¬ M 13 i = -1) : A_leaves G (nI i) = -7300 ∧ H_leaves G (nI i) = G := by
  have hK : K_leaves G (nI i) = 2 := by
    unfold K_leaves
    have e1 : ¬ f_X6_isIndex (nI i) (nI (gnS G)) = 0 := by rw [isx_one hi (by have := h.ic.s.2.1; omega)]; decide
    have ec : (nI i).toNatClampNeg = i := nI_clamp (by have := hi; have := h.ic.s.2.1; omega)
    rw [if_neg e1, ec]
    by_cases c : G 10 i = -1
    · rw [if_pos c]
    · rw [if_neg c]
      unfold x_X6_leaves
      rw [h.q 10, h.q 13] at c9
      rw [if_neg (c9.resolve_left c)]
  have hA : A_leaves G (nI i) = -7300 := by unfold A_leaves; rw [hK]; rfl
  exact ⟨hA, hk_leaves G _ (by rw [hK]; decide)⟩
theorem sp_visit_ok (h : R9 n G M) (hn : n < 512) {i : Nat} (hi : i < gnS G) (hv : gnV G < 60) (c1 : ¬ M 10 i = -1) (c2 : M 11 i = -1) : A_visit G (nI i) = nI (gnV M) ∧ R9 (n + 1) (H_visit G (nI i)) (g_X7_visit_10 M i) := by
  obtain ⟨k1, k2, k3⟩ := kA_visit h.ic hi
  rw [h.q 10] at c1
  rw [h.q 11] at c2
  have c3 : nI (gnV G) < 60 := nI_lt (b := 60) hv (by decide)
  have rk := rk_visit h hi (h.gn hn hi) hv c1 (v_dep h i)
  refine ⟨?_, ?_⟩
  · unfold A_visit
    rw [k1, k2]
    unfold x_X6_visit f_X6_visit
    rw [if_neg c1, if_pos c2, if_pos c3, if_neg c1, if_pos c2, if_pos c3, h.V]
    rfl
  · rw [k3]
    unfold g_X6_visit
    rw [if_neg c1, if_pos c2, if_pos c3]
    exact rk
theorem sp_visit_no (h : R9 n G M) {i : Nat} (hi : i < gnS G) (c9 : M 10 i = -1 ∨ ¬ M 11 i = -1) : A_visit G (nI i) = -7300 ∧ H_visit G (nI i) = G := by
  obtain ⟨k1, k2, k3⟩ := kA_visit h.ic hi
  rw [h.q 10, h.q 11] at c9
  have hK : K_visit G (nI i) = 2 := by
    rw [k1]
    unfold x_X6_visit
    by_cases c : G 10 i = -1
    · rw [if_pos c]
    · rw [if_neg c, if_neg (c9.resolve_left c)]
  exact ⟨by unfold A_visit; rw [hK]; rfl, hk_visit G _ (by rw [hK]; decide)⟩
theorem sp_finds_ok (h : R9 n G M) (hn : n < 512) {v s x w : Nat} (hv : v < gnV G) (hs : M 30 v = nI s) (hs9 : s < 12) (hx : x < 10) (w1 : 1 ≤ w) (w2 : w ≤ 10) (c1 : M 11 s = nI v) (c2 : ¬ f_X7_isGroundFor M s (nI x) = 0) (c3 : gnF M v < 12) : A_finds G (nI v) (nI x) (nI w) = nI (gnF M v) ∧ R9 (n + 1) (H_finds G (nI v) (nI x) (nI w)) (g_X7_finds_6 M v (nI x) (nI w) s) := by
  obtain ⟨k1, k2, k3⟩ := kA_finds h.ic hv (nI x) (nI w)
  obtain ⟨o1, o2⟩ := gno h hv
  have hO : gnO G v = s := by
    rw [hs] at o1
    have := h.ic.s.2.1
    exact ((nI_eq (by omega) (by omega)).mp o1).symm
  have cF : gnF G v < 12 := by rw [← h.F]; exact c3
  obtain ⟨e1, e2, e3⟩ := rt_finds hn h hv cF (x2 := nI x) (x3 := nI w)
  rw [hO] at e1 e2 e3
  have a : ¬ f_X6_isIndex (nI x) 10 = 0 := isx_nz (n := 10) rfl hx (by decide)
  have b1 : ¬ nI w < 1 := fun q => by have := (nI_ltI (b := 1) (by omega) (by decide)).mp q; omega
  have b2 : nI w ≤ 10 := nI_le (b := 10) w2 (by decide)
  have l0 : f_X6_hasLeftSince G v = 0 := (here_e h hv hs (by omega)).mp c1
  have g0 : ¬ f_X6_isGroundToday G s (nI x) = 0 := by rw [← v_gnd h]; exact c2
  have n12 : nI (gnF G v) < 12 := nI_lt (b := 12) cF (by decide)
  have hx0 : x_X6_finds G v (nI x) (nI w) = 0 := by
    unfold x_X6_finds
    rw [hO, if_neg a, if_neg b1, if_pos b2, if_pos l0, if_neg g0, if_pos n12]
    (repeat' split) <;> rfl
  have hsh : f_X7_isVisit M (nI v) = 1 := h_v1 h hv
  have h1 : (if f_X7_isVisit M (nI v) = 0 then 1 else (if f_X7_in (nI x) 0 9 = 0 then 2 else (if f_X7_in (nI w) 1 10 = 0 then 2 else 0)) : Int32) = 0 := by
    rw [hsh, if_neg one_ne, in9, if_neg a]
    unfold f_X7_in
    rw [if_neg b1, if_neg (Int32.not_lt.mpr b2), if_neg one_ne]
  have hz : R9 n G (g_X7_finds_1 M v (nI x) (nI w) s) := h.z _
  have h2 : (if f_X7_isHere (g_X7_finds_1 M v (nI x) (nI w) s) v = 0 then 3 else (if f_X7_isGroundFor (g_X7_finds_1 M v (nI x) (nI w) s) s (nI x) = 0 then 3 else (if 12 ≤ nI (gnF M v) then 3 else 0)) : Int32) ≤ 0 := by
    rw [if_neg (fun q => absurd ((v_here hz v).mp q) (fun q9 => q9 l0)), v_gnd hz, if_neg g0, h.F, if_neg (Int32.not_le.mpr n12)]
    decide
  have hg : g_X7_finds M v (nI x) (nI w) s = g_X7_finds_6 M v (nI x) (nI w) s := by
    unfold g_X7_finds
    rw [if_pos h1, if_pos h2]
  have hf : f_X7_finds M v (nI x) (nI w) s = nI (gnF M v) := by
    unfold f_X7_finds
    rw [if_pos h1, if_pos h2, nI_1]
    exact nI_pred _
  refine ⟨?_, ?_⟩
  · unfold A_finds
    rw [k1, k2, hx0, ← e2 hx0, hf]
    rfl
  · rw [k3, ← hg]
    exact e3
theorem sp_finds_no (h : R9 n G M) {v s x w : Nat} (hv : v < gnV G) (hs : M 30 v = nI s) (hs9 : s < 12) (hx : x < 10) (w1 : 1 ≤ w) (w2 : w ≤ 10) (c9 : ¬ (M 11 s = nI v ∧ ¬ f_X7_isGroundFor M s (nI x) = 0 ∧ gnF M v < 12)) : A_finds G (nI v) (nI x) (nI w) = -7300 ∧ H_finds G (nI v) (nI x) (nI w) = G := by
  obtain ⟨k1, k2, k3⟩ := kA_finds h.ic hv (nI x) (nI w)
  obtain ⟨o1, o2⟩ := gno h hv
  have hO : gnO G v = s := by
    rw [hs] at o1
    have := h.ic.s.2.1
    exact ((nI_eq (by omega) (by omega)).mp o1).symm
  have a : ¬ f_X6_isIndex (nI x) 10 = 0 := isx_nz (n := 10) rfl hx (by decide)
  have b1 : ¬ nI w < 1 := fun q => by have := (nI_ltI (b := 1) (by omega) (by decide)).mp q; omega
  have b2 : nI w ≤ 10 := nI_le (b := 10) w2 (by decide)
  have hK : K_finds G (nI v) (nI x) (nI w) = 2 := by
    rw [k1]
    unfold x_X6_finds
    rw [hO, if_neg a, if_neg b1, if_pos b2]
    by_cases l0 : f_X6_hasLeftSince G v = 0
    · rw [if_pos l0]
      by_cases g0 : f_X6_isGroundToday G s (nI x) = 0
      · rw [if_pos g0]
      · rw [if_neg g0, if_neg]
        intro q
        have q2 := (nI_ltI (b := 12) (by have := (h.ic.f hv).2.1; omega) (by decide)).mp q
        exact c9 ⟨(here_e h hv hs (by omega)).mpr l0, by rw [v_gnd h]; exact g0, by rw [h.F]; exact q2⟩
    · rw [if_neg l0]
  exact ⟨by unfold A_finds; rw [hK]; rfl, hk_finds G _ _ _ (by rw [hK]; decide)⟩
end SP
