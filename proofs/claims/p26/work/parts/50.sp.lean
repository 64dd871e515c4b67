theorem R9.dn {n m : Nat} {G M : GS} (h : R9 m G M) (hb : ∀ s, s < gnS G → gnN G s ≤ 2 + n) : R9 n G M := ⟨h.1, h.2.1, h.2.2.1, h.2.2.2.1, h.2.2.2.2.1, h.2.2.2.2.2.1, h.2.2.2.2.2.2.1, h.2.2.2.2.2.2.2.1, h.2.2.2.2.2.2.2.2.1, h.2.2.2.2.2.2.2.2.2.1, h.2.2.2.2.2.2.2.2.2.2.1, h.2.2.2.2.2.2.2.2.2.2.2.1, h.2.2.2.2.2.2.2.2.2.2.2.2.1, h.2.2.2.2.2.2.2.2.2.2.2.2.2.1, h.2.2.2.2.2.2.2.2.2.2.2.2.2.2.1, h.za, fun s hs => ⟨hb s hs, (h.nt s hs).2⟩⟩
theorem R9.keep {n m : Nat} {G M G1 M1 : GS} (h : R9 n G M) (h1 : R9 m G1 M1) (e3 : G1 3 = G 3) (e45 : G1 45 = G 45) : R9 n G1 M1 := h1.dn (fun s hs => by
  have a : gnS G1 = gnS G := congrArg (fun z : Nat → Int32 => (z 0).toNatClampNeg) e3
  have b : gnN G1 s = gnN G s := congrArg (fun z : Nat → Int32 => (z s).toNatClampNeg) e45
  rw [b]
  exact (h.nt s (by rw [← a]; exact hs)).1)
theorem R9.ups {n m : Nat} {G M : GS} (h : R9 n G M) (hm : n ≤ m) : R9 m G M := h.dn (fun s hs => Nat.le_trans (h.nt s hs).1 (by omega))
section SP2
variable {n : Nat} {G M : GS}
theorem sp_mends_ok (h : R9 n G M) {v s j : Nat} {x : Int32} (hv : v < gnV G) (hs : M 30 v = nI s) (hs9 : s < 12) (hj : j < gnF M v) (c1 : ¬ M 37 (12 * v + j) = 1) (c2 : x = 0 ∨ (¬ M 37 (12 * v + j) = 2 ∧ ¬ 8 ≤ M 36 (12 * v + j) ∧ M 11 s = nI v)) : A_mends G (nI v) (nI j) x = f_X7_openOf (g_X7_mends_3 M v j x) v ∧ R9 n (H_mends G (nI v) (nI j) x) (g_X7_mends_3 M v j x) := by
  obtain ⟨k1, k2, k3⟩ := kA_mends h.ic hv (by rw [← h.F]; exact hj) x
  have e37 := h.e37 (12 * v + j)
  have a : G 37 (12 * v + j) = 0 := by
    by_cases a : G 37 (12 * v + j) = 0
    · exact a
    · rw [if_neg a] at e37
      exact absurd e37 c1
  rw [if_pos a] at e37
  by_cases c : x = 0
  · have rk := rk_mendsA (v := v) (j := j) h c
    have hx : x_X6_mends G v j x = 0 := by unfold x_X6_mends; rw [if_pos a, if_pos c]
    have hf : f_X6_mends G v j x = f_X5_openFindings (g_X6_mends_1 G v j x) v := by unfold f_X6_mends; rw [if_pos a, if_pos c]
    refine ⟨?_, ?_⟩
    · unfold A_mends
      rw [k1, k2, hx, hf, v_opf rk]
      rfl
    · rw [k3]
      unfold g_X6_mends
      rw [if_pos a, if_pos c]
      exact h.keep rk (e_g_X6_mends_1 G v j x (by decide)) (e_g_X6_mends_1 G v j x (by decide))
  · obtain ⟨d1, d2, d3⟩ := c2.resolve_left c
    have d : G 44 (12 * v + j) = 0 := by
      by_cases d : G 44 (12 * v + j) = 0
      · exact d
      · rw [if_neg d] at e37
        exact absurd e37 d1
    rw [h.q 36] at d2
    have l0 : f_X6_hasLeftSince G v = 0 := (here_e h hv hs (by omega)).mp d3
    have rk := rk_mendsB h c a
    have hx : x_X6_mends G v j x = 0 := by unfold x_X6_mends; rw [if_pos a, if_neg c, if_pos d, if_neg d2, if_pos l0]
    have hf : f_X6_mends G v j x = f_X5_openFindings (g_X6_mends_2 G v j x) v := by unfold f_X6_mends; rw [if_pos a, if_neg c, if_pos d, if_neg d2, if_pos l0]
    refine ⟨?_, ?_⟩
    · unfold A_mends
      rw [k1, k2, hx, hf, v_opf rk]
      rfl
    · rw [k3]
      unfold g_X6_mends
      rw [if_pos a, if_neg c, if_pos d, if_neg d2, if_pos l0]
      exact h.keep rk (e_g_X6_mends_2 G v j x (by decide)) (e_g_X6_mends_2 G v j x (by decide))
theorem sp_mends_no (h : R9 n G M) {v s j : Nat} {x : Int32} (hv : v < gnV G) (hs : M 30 v = nI s) (hs9 : s < 12) (hj : j < gnF M v) (c9 : M 37 (12 * v + j) = 1 ∨ (¬ x = 0 ∧ (M 37 (12 * v + j) = 2 ∨ 8 ≤ M 36 (12 * v + j) ∨ ¬ M 11 s = nI v))) : A_mends G (nI v) (nI j) x = -7300 ∧ H_mends G (nI v) (nI j) x = G := by
  obtain ⟨k1, k2, k3⟩ := kA_mends h.ic hv (by rw [← h.F]; exact hj) x
  have e37 := h.e37 (12 * v + j)
  rw [h.q 36] at c9
  have hK : K_mends G (nI v) (nI j) x = 2 := by
    rw [k1]
    unfold x_X6_mends
    by_cases a : G 37 (12 * v + j) = 0
    · rw [if_pos a] at e37
      have n1 : ¬ M 37 (12 * v + j) = 1 := by rw [e37]; split <;> decide
      obtain ⟨c, cc⟩ := c9.resolve_left n1
      rw [if_pos a, if_neg c]
      by_cases d : G 44 (12 * v + j) = 0
      · rw [if_pos d] at e37
        rw [if_pos d]
        have n2 : ¬ M 37 (12 * v + j) = 2 := by rw [e37]; decide
        by_cases e : 8 ≤ G 36 (12 * v + j)
        · rw [if_pos e]
        · rw [if_neg e, if_neg (fun q => (cc.resolve_left n2).resolve_left e ((here_e h hv hs (by omega)).mpr q))]
      · rw [if_neg d]
    · rw [if_neg a]
  exact ⟨by unfold A_mends; rw [hK]; rfl, hk_mends G _ _ _ (by rw [hK]; decide)⟩
theorem sp_mends_ix (h : R9 n G M) {v : Nat} {x : Int32} (hv : v < gnV G) : A_mends G (nI v) (nI (gnF M v)) x = -7100 ∧ H_mends G (nI v) (nI (gnF M v)) x = G := by
  have hK : K_mends G (nI v) (nI (gnF M v)) x = 3 := by
    unfold K_mends
    by_cases a : f_X6_isIndex (nI v) (nI (gnV G)) = 0
    · rw [if_pos a]
    · rw [if_neg a, nI_clamp (by have := h.ic.v.2.1; omega), h.F, if_pos]
      unfold f_X6_isIndex
      rw [if_neg (nI_pos (by have := (h.ic.f hv).2.1; omega)), if_pos (Int32.le_refl _)]
  exact ⟨by unfold A_mends; rw [hK]; rfl, hk_mends G _ _ _ (by rw [hK]; decide)⟩
theorem sp_detain_ok (h : R9 n G M) (hn : n < 512) {v s : Nat} (hv : v < gnV G) (hs : M 30 v = nI s) (hs9 : s < 12) (c1 : M 11 s = nI v) (c2 : M 38 v = -1) (c3 : 10 ≤ f_X7_openWeights M v ∨ ¬ f_X7_lapsedOf M s = 0) : A_detain G (nI v) = f_X7_detentionsOf (g_X7_looksForBan (g_X7_detain_4 M v s) s) s ∧ R9 (n + 1) (H_detain G (nI v)) (g_X7_looksForBan (g_X7_detain_4 M v s) s) := by
  obtain ⟨k1, k2, k3⟩ := kA_detain h.ic hv
  obtain ⟨o1, o2⟩ := gno h hv
  have hO : gnO G v = s := by
    rw [hs] at o1
    have := h.ic.s.2.1
    exact ((nI_eq (by omega) (by omega)).mp o1).symm
  obtain ⟨e1, e2, e3⟩ := rt_detain hn h hv
  rw [hO] at e1 e2 e3
  have l0 : f_X6_hasLeftSince G v = 0 := (here_e h hv hs (by omega)).mp c1
  have c38 : G 38 v = -1 := by rw [← h.q 38]; exact c2
  have w0 : f_X5_wasDetention G v = 0 := by unfold f_X5_wasDetention; rw [if_pos c38]
  have hd : ¬ f_X6_isDetainable G v = 0 := by
    unfold f_X6_isDetainable
    rw [v_opw h, v_fam h] at c3
    rw [hO]
    by_cases d : 10 ≤ f_X5_openWeight G v
    · rw [if_pos d]; decide
    · rw [if_neg d, if_neg (c3.resolve_left d)]; decide
  have hx0 : x_X6_detain G v = 0 := by unfold x_X6_detain; rw [if_pos l0, if_pos w0, if_neg hd]
  have hz : R9 n G (g_X7_detain_1 M v s) := h.z _
  have hV : (if f_X7_isVisit M (nI v) = 0 then 1 else 0 : Int32) = 0 := by rw [h_v1 h hv, if_neg one_ne]
  have h2 : (if f_X7_isHere (g_X7_detain_1 M v s) v = 0 then 2 else (if M 38 v = (-1) then (if v_X7_detain_52 M v s = 0 then 2 else 0) else 2) : Int32) ≤ 0 := by
    rw [if_neg (fun q => absurd ((v_here hz v).mp q) (fun q9 => q9 l0)), if_pos c2, if_neg]
    · decide
    · unfold v_X7_detain_52
      rw [v_opw hz, v_fam hz]
      rw [v_opw h, v_fam h] at c3
      by_cases d : 10 ≤ f_X5_openWeight G v
      · rw [if_pos d]; decide
      · rw [if_neg d, if_neg (c3.resolve_left d)]; decide
  have hg : g_X7_detain M v s = g_X7_looksForBan (g_X7_detain_4 M v s) s := by
    unfold g_X7_detain
    rw [if_pos hV, if_pos h2]
  have hf : f_X7_detain M v s = f_X7_detentionsOf (g_X7_looksForBan (g_X7_detain_4 M v s) s) s := by
    unfold f_X7_detain
    rw [if_pos hV, if_pos h2]
  refine ⟨?_, ?_⟩
  · unfold A_detain
    rw [k1, k2, hx0, ← e2 hx0, hf]
    rfl
  · rw [k3, ← hg]
    exact e3
theorem sp_detain_no (h : R9 n G M) {v s : Nat} (hv : v < gnV G) (hs : M 30 v = nI s) (hs9 : s < 12) (c9 : ¬ (M 11 s = nI v ∧ M 38 v = -1 ∧ (10 ≤ f_X7_openWeights M v ∨ ¬ f_X7_lapsedOf M s = 0))) : A_detain G (nI v) = -7300 ∧ H_detain G (nI v) = G := by
  obtain ⟨k1, k2, k3⟩ := kA_detain h.ic hv
  obtain ⟨o1, o2⟩ := gno h hv
  have hO : gnO G v = s := by
    rw [hs] at o1
    have := h.ic.s.2.1
    exact ((nI_eq (by omega) (by omega)).mp o1).symm
  rw [h.q 38, v_opw h, v_fam h] at c9
  have hK : K_detain G (nI v) = 2 := by
    rw [k1]
    unfold x_X6_detain
    by_cases l0 : f_X6_hasLeftSince G v = 0
    · rw [if_pos l0]
      unfold f_X5_wasDetention
      by_cases c38 : G 38 v = -1
      · rw [if_pos c38, if_pos rfl, if_pos]
        unfold f_X6_isDetainable
        rw [hO]
        have c8 := fun q => c9 ⟨(here_e h hv hs (by omega)).mpr l0, c38, q⟩
        rw [if_neg (fun q => c8 (Or.inl q)), if_pos (Classical.not_not.mp (fun q => c8 (Or.inr q)))]
      · rw [if_neg c38, if_neg one_ne]
    · rw [if_neg l0]
  exact ⟨by unfold A_detain; rw [hK]; rfl, hk_detain G _ (by rw [hK]; decide)⟩
theorem sp_release_ok (h : R9 n G M) {i j : Nat} (hi : i < gnS G) (c1 : M 13 i = nI j) (hj : j < 60) (c2 : f_X7_openOf M j = 0) (c3 : f_X7_lapsedOf M i = 0) : A_release G (nI i) = 100 * (M 1 0 - M 38 j) ∧ R9 (n + 1) (H_release G (nI i)) (if M 14 i = 0 then g_X7_release_4 M i j else g_X7_release_7 M i j) := by
  obtain ⟨k1, k2, k3⟩ := kA_release h.ic hi
  rw [h.q 13] at c1
  have n13 : ¬ G 13 i = -1 := by rw [c1]; exact nI_m1 (by omega)
  have ej : (G 13 i).toNatClampNeg = j := by rw [c1, nI_clamp (by omega)]
  rw [v_opf h] at c2
  rw [v_fam h] at c3
  have d0 : ¬ 0 < f_X5_openFindings G j := by rw [c2]; decide
  refine ⟨?_, ?_⟩
  · unfold A_release
    rw [k1, k2]
    unfold x_X6_release f_X6_release v_X6_release_53
    rw [ej, if_neg n13, if_neg d0, if_pos c3, if_neg n13, if_neg d0, if_pos c3, h.q 1, h.q 38, ite_self, ite_self]
    rfl
  · rw [k3]
    unfold g_X6_release
    rw [ej, if_neg n13, if_neg d0, if_pos c3, h.q 14]
    by_cases d : G 14 i = 0
    · rw [if_pos d, if_pos d]; exact rk_releaseA h hi ej
    · rw [if_neg d, if_neg d]; exact rk_releaseB h hi ej
theorem sp_release_no (h : R9 n G M) {i : Nat} (hi : i < gnS G) (c9 : M 13 i = -1 ∨ ¬ (f_X7_openOf M (M 13 i).toNatClampNeg = 0 ∧ f_X7_lapsedOf M i = 0)) (hp : ¬ f_X7_openOf M (M 13 i).toNatClampNeg < 0) : A_release G (nI i) = -7300 ∧ H_release G (nI i) = G := by
  obtain ⟨k1, k2, k3⟩ := kA_release h.ic hi
  rw [h.q 13, v_opf h, v_fam h] at c9
  rw [h.q 13, v_opf h] at hp
  have hK : K_release G (nI i) = 2 := by
    rw [k1]
    unfold x_X6_release
    by_cases a : G 13 i = -1
    · rw [if_pos a]
    · rw [if_neg a]
      have c8 := c9.resolve_left a
      by_cases b : 0 < f_X5_openFindings G (G 13 i).toNatClampNeg
      · rw [if_pos b]
      · have b0 : f_X5_openFindings G (G 13 i).toNatClampNeg = 0 := by
          apply Int32.toInt_inj.mp
          have p1 : ¬ (f_X5_openFindings G (G 13 i).toNatClampNeg).toInt < 0 := fun q => hp (Int32.lt_iff_toInt_lt.mpr q)
          have p2 : ¬ 0 < (f_X5_openFindings G (G 13 i).toNatClampNeg).toInt := fun q => b (Int32.lt_iff_toInt_lt.mpr q)
          show _ = (0 : Int)
          omega
        rw [if_neg b, if_neg (fun q => c8 ⟨b0, q⟩)]
  exact ⟨by unfold A_release; rw [hK]; rfl, hk_release G _ (by rw [hK]; decide)⟩
theorem sp_appeal_ok (h : R9 n G M) {v : Nat} (hv : v < gnV G) (c1 : ¬ M 38 v = -1) (c2 : M 39 v = 0) (c3 : M 1 0 - M 38 v ≤ 30) : A_appeal G (nI v) = 0 ∧ R9 (n + 1) (H_appeal G (nI v)) (g_X7_appeal_4 M v) := by
  obtain ⟨k1, k3⟩ := kA_appeal h.ic hv
  have rk := rk_appeal h hv
  rw [h.q 38] at c1
  rw [h.q 39] at c2
  rw [h.q 1, h.q 38] at c3
  have w0 : ¬ f_X5_wasDetention G v = 0 := by unfold f_X5_wasDetention; rw [if_neg c1]; decide
  refine ⟨?_, ?_⟩
  · unfold A_appeal
    rw [k1]
    unfold x_X6_appeal
    rw [if_neg w0, if_pos c2, if_pos c3]
    rfl
  · rw [k3]
    unfold g_X6_appeal
    rw [if_neg w0, if_pos c2, if_pos c3]
    exact rk
theorem sp_appeal_no (h : R9 n G M) {v : Nat} (hv : v < gnV G) (c9 : ¬ (¬ M 38 v = -1 ∧ M 39 v = 0 ∧ M 1 0 - M 38 v ≤ 30)) : A_appeal G (nI v) = -7300 ∧ H_appeal G (nI v) = G := by
  obtain ⟨k1, k3⟩ := kA_appeal h.ic hv
  rw [h.q 38, h.q 39, h.q 1] at c9
  have hK : K_appeal G (nI v) = 2 := by
    rw [k1]
    unfold x_X6_appeal f_X5_wasDetention
    by_cases a : G 38 v = -1
    · rw [if_pos a, if_pos rfl]
    · rw [if_neg a, if_neg one_ne]
      by_cases b : G 39 v = 0
      · rw [if_pos b, if_neg (fun q => c9 ⟨a, b, q⟩)]
      · rw [if_neg b]
  exact ⟨by unfold A_appeal; rw [hK]; rfl, hk_appeal G _ (by rw [hK]; decide)⟩
theorem sp_vote_ok (h : R9 n G M) (hn : n < 512) {v : Nat} {x : Int32} (hv : v < gnV G) (hx : x = 0 ∨ x = 1) (c1 : ¬ M 39 v = 0) (c2 : f_X7_decided M v = 0) : A_vote G (nI v) x = f_X7_decided (g_X7_vote_3 M v x) v ∧ R9 (n + 1) (H_vote G (nI v) x) (g_X7_vote_3 M v x) := by
  obtain ⟨k1, k2, k3⟩ := kA_vote h.ic hv x
  obtain ⟨o1, o2⟩ := gno h hv
  rw [h.q 39] at c1
  rw [v_dec h] at c2
  obtain ⟨d1, d2⟩ := dec_0 h c2
  have hg := h.gn hn o2
  refine ⟨?_, ?_⟩
  · unfold A_vote
    rw [k1, k2]
    unfold x_X6_vote f_X6_vote
    rw [if_neg c1, if_pos c2, if_neg c1, if_pos c2, ite_self]
    by_cases c : x = 0
    · rw [if_pos c, v_dec (rk_voteA h hv hg c d2)]; rfl
    · rw [if_neg c, v_dec (rk_voteB h hv hg c d1)]; rfl
  · rw [k3]
    unfold g_X6_vote
    rw [if_neg c1, if_pos c2]
    by_cases c : x = 0
    · rw [if_pos c]; exact rk_voteA h hv hg c d2
    · rw [if_neg c]; exact rk_voteB h hv hg c d1
theorem sp_vote_no (h : R9 n G M) {v : Nat} {x : Int32} (hv : v < gnV G) (c9 : M 39 v = 0 ∨ ¬ f_X7_decided M v = 0) : A_vote G (nI v) x = -7300 ∧ H_vote G (nI v) x = G := by
  obtain ⟨k1, k2, k3⟩ := kA_vote h.ic hv x
  rw [h.q 39, v_dec h] at c9
  have hK : K_vote G (nI v) x = 2 := by
    rw [k1]
    unfold x_X6_vote
    by_cases a : G 39 v = 0
    · rw [if_pos a]
    · rw [if_neg a, if_neg (c9.resolve_left a)]
  exact ⟨by unfold A_vote; rw [hK]; rfl, hk_vote G _ _ (by rw [hK]; decide)⟩
theorem sp_ship (h : R9 n G M) {x1 x2 : Int32} {k f b : Nat} (hS : gnS G < 12) (a1 : ¬ x1 < -10000) (a2 : ¬ M 1 0 < x1) (b1 : ¬ x2 < 100) (b2 : ¬ 200000 < x2) (hk : k < 3) (hf : f < 6) (hb : b < 4) : A_ship G x1 x2 (nI k) (nI f) (nI b) = nI (gnS M) ∧ R9 (n + 1) (H_ship G x1 x2 (nI k) (nI f) (nI b)) (g_X7_ship_12 M x1 x2 (nI k) (nI f) (nI b)) := by
  have c4 : ¬ f_X6_isIndex (nI f) 6 = 0 := isx_nz (n := 6) rfl hf (by decide)
  have c5 : ¬ f_X6_isIndex (nI b) 4 = 0 := isx_nz (n := 4) rfl hb (by decide)
  have c3 : ¬ nI k < 0 := nI_pos (by omega)
  have c32 : nI k ≤ 2 := nI_le (b := 2) (by omega) (by decide)
  have c12 : nI (gnS G) < 12 := nI_lt (b := 12) hS (by decide)
  rw [h.q 1] at a2
  have rk := rk_ship h (x1 := x1) (x2 := x2) (x4 := nI f) hS c3 ⟨b, hb, rfl⟩
  refine ⟨?_, ?_⟩
  · unfold A_ship K_ship F_ship x_X6_ship f_X6_ship
    rw [if_neg c4, if_neg c5, if_neg a1, if_neg a2, if_neg b1, if_neg b2, if_neg c3, if_pos c32, if_pos c12, if_neg c4, if_neg c5, if_neg a1, if_neg a2, if_neg b1, if_neg b2, if_neg c3, if_pos c32, if_pos c12, h.S]
    rfl
  · unfold H_ship g_X6_ship
    rw [if_neg c4, if_neg c5, if_neg a1, if_neg a2, if_neg b1, if_neg b2, if_neg c3, if_pos c32, if_pos c12]
    exact rk
theorem sp_rule (h : R9 n G M) {a b c d e : Nat} (hR : gnR G < 20) (ha : a < 10) (hb : b ≤ 200000) (c1 : 1 ≤ c) (c2 : c ≤ 7) (hd : d ≤ 9000) (he : e ≤ 3000) : A_rule G (nI a) (nI b) (nI c) (nI d) (nI e) = nI (gnR M) ∧ R9 (n + 1) (H_rule G (nI a) (nI b) (nI c) (nI d) (nI e)) (g_X7_rule_7 M (nI a) (nI b) (nI c) (nI d) (nI e)) := by
  have q1 : ¬ f_X6_isIndex (nI a) 10 = 0 := isx_nz (n := 10) rfl ha (by decide)
  have q2 : ¬ nI b < 0 := nI_pos (by omega)
  have q3 : ¬ 200000 < nI b := fun q => by have := (nI_ltI (a := 200000) (by decide) (by omega)).mp q; omega
  have q4 : ¬ nI c < 1 := fun q => by have := (nI_ltI (b := 1) (by omega) (by decide)).mp q; omega
  have q5 : ¬ 7 < nI c := fun q => by have := (nI_ltI (a := 7) (by decide) (by omega)).mp q; omega
  have q6 : ¬ nI d < 0 := nI_pos (by omega)
  have q7 : ¬ 9000 < nI d := fun q => by have := (nI_ltI (a := 9000) (by decide) (by omega)).mp q; omega
  have q8 : ¬ nI e < 0 := nI_pos (by omega)
  have q9 : nI e ≤ 3000 := nI_le (b := 3000) he (by decide)
  have q0 : nI (gnR G) < 20 := nI_lt (b := 20) hR (by decide)
  have rk := rk_rule h (x1 := nI a) (x2 := nI b) (x3 := nI c) (x4 := nI d) (x5 := nI e) hR
  have hr : gnR (grul G (nI a) (nI b) (nI c) (nI d) (nI e)) = gnR M + 1 := by
    rw [← rk.R]
    have e23 : (g_X7_rule_7 M (nI a) (nI b) (nI c) (nI d) (nI e)) 23 0 = nI (gnR M) + 1 := rfl
    unfold gnR
    rw [e23, nI_1, nI_clamp (by rw [h.R]; omega)]
    rfl
  refine ⟨?_, ?_⟩
  · unfold A_rule K_rule F_rule x_X6_rule f_X6_rule
    rw [if_neg q1, if_neg q2, if_neg q3, if_neg q4, if_neg q5, if_neg q6, if_neg q7, if_neg q8, if_pos q9, if_pos q0, if_neg q1, if_neg q2, if_neg q3, if_neg q4, if_neg q5, if_neg q6, if_neg q7, if_neg q8, if_pos q9, if_pos q0, hr]
    exact nI_pred _
  · unfold H_rule g_X6_rule
    rw [if_neg q1, if_neg q2, if_neg q3, if_neg q4, if_neg q5, if_neg q6, if_neg q7, if_neg q8, if_pos q9, if_pos q0]
    exact rk
end SP2
