theorem rt_visit {n : Nat} {G M : GS} (hn : n < 512) (h : R9 n G M) {i : Nat} (hi : i < gnS G) (hv : gnV G < 60) : (g_X7_visit M i) 0 0 = kkm 0 2 1 (x_X6_visit G i) ∧ (x_X6_visit G i = 0 → f_X7_visit M i = f_X6_visit G i) ∧ R9 (n + 1) (g_X6_visit G i) (g_X7_visit M i) := by
  have r0 : (g_X7_visit_10 M i) 0 0 = (if f_X7_isShip M (nI i) = 0 then 1 else (if M 10 i = (-1) then 2 else (if M 11 i = (-1) then (if nI (gnV M) = 60 then 2 else 0) else 2))) := rfl
  have r1 : (g_X7_visit_1 M i) 0 0 = (if f_X7_isShip M (nI i) = 0 then 1 else (if M 10 i = (-1) then 2 else (if M 11 i = (-1) then (if nI (gnV M) = 60 then 2 else 0) else 2))) := rfl
  have f1 : nI (gnV G) < 60 := nI_lt hv (by decide)
  have f3 : ¬ nI (gnV G) = 60 := fun q => by rw [q] at f1; exact absurd f1 (by decide)
  have hd := v_dep h i
  unfold g_X7_visit x_X6_visit f_X7_visit f_X6_visit g_X6_visit
  simp only [h_s1 h hi, h.q 10, h.q 11, h.V, if_pos f1, if_neg f3, if_neg one_ne, Int32.add_sub_cancel] at r0 r1 ⊢
  by_cases a : G 10 i = (-1)
  · simp only [if_pos a, if_neg n10, if_neg n20, if_neg n30, if_pos z00, if_neg one_ne, if_neg two_ne, if_neg three_ne, ↓reduceIte] at r1 ⊢
    first
      | exact ⟨r1, fun q => absurd q (by decide), h.up.z _⟩
  · by_cases c : G 11 i = (-1)
    · simp only [if_neg a, if_pos c, if_neg n10, if_neg n20, if_neg n30, if_pos z00, if_neg one_ne, if_neg two_ne, if_neg three_ne, ↓reduceIte] at r0 ⊢
      exact ⟨r0, fun _ => by first | rfl | trivial, rk_visit h hi (h.gn hn hi) hv a hd⟩
    · simp only [if_neg a, if_neg c, if_neg n10, if_neg n20, if_neg n30, if_pos z00, if_neg one_ne, if_neg two_ne, if_neg three_ne, ↓reduceIte] at r1 ⊢
      first
        | exact ⟨r1, fun q => absurd q (by decide), h.up.z _⟩
theorem rs_visit : RS_visit R9 := fun n G M x1 hn h => by
  unfold HM_visit K_visit H_visit FM_visit F_visit
  rw [h_sh h]
  by_cases b : f_X6_isIndex x1 (nI (gnS G)) = 0
  · simp only [if_pos b]
    exact ⟨rfl, fun q => absurd q (by decide), h.up.z 1⟩
  · obtain ⟨hi, hx⟩ := isx_get (by have := h.ic.s.2.1; omega) b
    simp only [if_neg b]
    have hs : M 29 0 = nI (gnV G) := (congrFun (h.q 29) 0).trans h.ic.v.1
    by_cases full : M 29 0 = 60
    · have f1 : ¬ nI (gnV G) < 60 := by rw [← hs, full]; decide
      simp only [if_pos full]
      unfold x_X6_visit g_X6_visit f_X6_visit
      have e : g_X7_visit_n M x1.toNatClampNeg = up2 M 0 0 2 := by
        unfold g_X7_visit_n g_X7_visit_n_1
        simp only [h_s1 h hi, if_neg one_ne, ite_self]
      rw [e]
      simp only [if_neg f1, ite_self]
      exact ⟨rfl, fun q => absurd q (by decide), h.up.z 2⟩
    · simp only [if_neg full]
      exact rt_visit hn h hi (ne_le hs h.ic.v.2.1 full)
theorem rt_finds {n : Nat} {G M : GS} (hn : n < 512) (h : R9 n G M) {v : Nat} {x2 x3 : Int32} (hv : v < gnV G) (hf : gnF G v < 12) : (g_X7_finds M v x2 x3 (gnO G v)) 0 0 = kkm 2 3 1 (x_X6_finds G v x2 x3) ∧ (x_X6_finds G v x2 x3 = 0 → f_X7_finds M v x2 x3 (gnO G v) = f_X6_finds G v x2 x3) ∧ R9 (n + 1) (g_X6_finds G v x2 x3) (g_X7_finds M v x2 x3 (gnO G v)) := by
  have hg : gnN G (gnO G v) < 514 := h.gn hn (h.ic.so hv).2
  have r1 : (g_X7_finds_1 M v x2 x3 (gnO G v)) 0 0 = (if f_X7_isVisit M (nI v) = 0 then 1 else (if f_X7_in x2 0 9 = 0 then 2 else (if f_X7_in x3 1 10 = 0 then 2 else 0))) := rfl
  have r2 : (g_X7_finds_2 M v x2 x3 (gnO G v)) 0 0 = (if f_X7_isHere (g_X7_finds_1 M v x2 x3 (gnO G v)) v = 0 then 3 else (if f_X7_isGroundFor (g_X7_finds_1 M v x2 x3 (gnO G v)) (gnO G v) x2 = 0 then 3 else (if 12 ≤ nI (gnF M v) then 3 else 0))) := rfl
  have r0 : (g_X7_finds_6 M v x2 x3 (gnO G v)) 0 0 = (if f_X7_isHere (g_X7_finds_1 M v x2 x3 (gnO G v)) v = 0 then 3 else (if f_X7_isGroundFor (g_X7_finds_1 M v x2 x3 (gnO G v)) (gnO G v) x2 = 0 then 3 else (if 12 ≤ nI (gnF M v) then 3 else 0))) := rfl
  have hh := v_here (show R9 n G (g_X7_finds_1 M v x2 x3 (gnO G v)) from h.z _) v
  have hG := v_gnd (show R9 n G (g_X7_finds_1 M v x2 x3 (gnO G v)) from h.z _) (gnO G v) x2
  have f1 : nI (gnF G v) < 12 := nI_lt (b := 12) hf (by decide)
  have f3 : ¬ 12 ≤ nI (gnF G v) := Int32.not_le.mpr f1
  have o1 : gnO (gfnd G v x3) v = gnO G v := congrArg (fun z : Nat → Int32 => (z v).toNatClampNeg) (e_gfnd G v x3 (by decide))
  have g1 : gnF (gfnd G v x3) v = gnF G v + 1 := gfnd_n (by omega)
  have g2 : gnF (gnote (gfnd G v x3) (gnO G v) 3 (nI v) x2 x3) v = gnF G v + 1 := (congrArg (fun z : Nat → Int32 => (z v).toNatClampNeg) (e_gnote _ _ _ _ _ _ (by decide))).trans g1
  have g3 : gnF (gnote (g_X6_finds_1 G v x2 x3) (gnO G v) 3 (nI v) x2 x3) v = gnF G v + 1 := (congrArg (fun z : Nat → Int32 => (z v).toNatClampNeg) (e_gnote _ _ _ _ _ _ (by decide))).trans g1
  unfold g_X7_finds x_X6_finds f_X7_finds f_X6_finds g_X6_finds
  simp only [o1, hG, h_v1 h hv, in9, h.F, g1, g2, g3, nI_pred, Int32.add_sub_cancel, if_pos f1, if_neg f3, if_neg one_ne] at r0 r1 r2 ⊢
  unfold f_X7_in at r1 ⊢
  by_cases a : f_X6_isIndex x2 10 = 0
  · simp only [if_pos a, if_neg n10, if_neg n20, if_neg n30, if_pos z00, if_neg one_ne, if_neg two_ne, if_neg three_ne, ↓reduceIte] at r1 r2 ⊢
    first
      | exact ⟨r1, fun q => absurd q (by decide), h.up.z _⟩
      | exact ⟨r2, fun q => absurd q (by decide), (h.up.z _).z _⟩
  · by_cases c : x3 < 1
    · simp only [if_neg a, if_pos c, if_neg n10, if_neg n20, if_neg n30, if_pos z00, if_neg one_ne, if_neg two_ne, if_neg three_ne, ↓reduceIte] at r1 r2 ⊢
      first
        | exact ⟨r1, fun q => absurd q (by decide), h.up.z _⟩
        | exact ⟨r2, fun q => absurd q (by decide), (h.up.z _).z _⟩
    · by_cases d : x3 ≤ 10
      · have d' : ¬ 10 < x3 := Int32.not_lt.mpr d
        by_cases e : f_X6_hasLeftSince G v = 0
        · have e' : ¬ f_X7_isHere (g_X7_finds_1 M v x2 x3 (gnO G v)) v = 0 := fun q => (hh.mp q) e
          by_cases g : f_X6_isGroundToday G (gnO G v) x2 = 0
          · simp only [if_neg a, if_neg c, if_pos d, if_neg d', if_pos e, if_neg e', if_pos g, if_neg n10, if_neg n20, if_neg n30, if_pos z00, if_neg one_ne, if_neg two_ne, if_neg three_ne, ↓reduceIte] at r1 r2 ⊢
            first
              | exact ⟨r1, fun q => absurd q (by decide), h.up.z _⟩
              | exact ⟨r2, fun q => absurd q (by decide), (h.up.z _).z _⟩
          · by_cases s1 : G 33 v = 0
            · have b3 : gnF G v < 3 := h.b33 v s1
              by_cases s2 : gnF G v + 1 < 3
              · have t2 : nI (gnF G v + 1) < 3 := nI_lt (b := 3) s2 (by decide)
                have hB : (if M 33 v = 0 then (if nI (gnF M v) + 1 = 3 then 1 else M 33 v) else M 33 v) = M 33 v := by
                  have t3 : ¬ nI (gnF G v) + 1 = 3 := fun q => by
                    rw [nI_1] at q
                    have := (nI_eq (b := 3) (by omega) (by decide)).mp q
                    omega
                  rw [h.F, h.q 33, if_pos s1, if_neg t3]
                simp only [if_neg a, if_neg c, if_pos d, if_neg d', if_pos e, if_neg e', if_neg g, if_pos s1, if_pos t2, if_neg n10, if_neg n20, if_neg n30, if_pos z00, if_neg one_ne, if_neg two_ne, if_neg three_ne, ↓reduceIte] at r0 ⊢
                exact ⟨r0, fun _ => by first | rfl | trivial, rk_findsA h hv hg hf (fun _ => s2) hB⟩
              · have t2 : ¬ nI (gnF G v + 1) < 3 := nI_nlt (a := gnF G v + 1) (b := 3) (by omega) (by omega)
                have hB : (if M 33 v = 0 then (if nI (gnF M v) + 1 = 3 then 1 else M 33 v) else M 33 v) = 1 := by
                  have t3 : nI (gnF G v) + 1 = 3 := by
                    rw [nI_1, show gnF G v + 1 = 3 by omega]
                    rfl
                  rw [h.F, h.q 33, if_pos s1, if_pos t3]
                simp only [if_neg a, if_neg c, if_pos d, if_neg d', if_pos e, if_neg e', if_neg g, if_pos s1, if_neg t2, if_neg n10, if_neg n20, if_neg n30, if_pos z00, if_neg one_ne, if_neg two_ne, if_neg three_ne, ↓reduceIte] at r0 ⊢
                exact ⟨r0, fun _ => by first | rfl | trivial, rk_findsB h hv hg hf hB⟩
            · have hB : (if M 33 v = 0 then (if nI (gnF M v) + 1 = 3 then 1 else M 33 v) else M 33 v) = M 33 v := by
                rw [h.q 33, if_neg s1]
              simp only [if_neg a, if_neg c, if_pos d, if_neg d', if_pos e, if_neg e', if_neg g, if_neg s1, if_neg n10, if_neg n20, if_neg n30, if_pos z00, if_neg one_ne, if_neg two_ne, if_neg three_ne, ↓reduceIte] at r0 ⊢
              exact ⟨r0, fun _ => by first | rfl | trivial, rk_findsA h hv hg hf (fun q => absurd q s1) hB⟩
        · have e' : f_X7_isHere (g_X7_finds_1 M v x2 x3 (gnO G v)) v = 0 := hh.mpr e
          simp only [if_neg a, if_neg c, if_pos d, if_neg d', if_neg e, if_pos e', if_neg n10, if_neg n20, if_neg n30, if_pos z00, if_neg one_ne, if_neg two_ne, if_neg three_ne, ↓reduceIte] at r1 r2 ⊢
          first
            | exact ⟨r1, fun q => absurd q (by decide), h.up.z _⟩
            | exact ⟨r2, fun q => absurd q (by decide), (h.up.z _).z _⟩
      · have d' : 10 < x3 := Int32.not_le.mp d
        simp only [if_neg a, if_neg c, if_neg d, if_pos d', if_neg n10, if_neg n20, if_neg n30, if_pos z00, if_neg one_ne, if_neg two_ne, if_neg three_ne, ↓reduceIte] at r1 r2 ⊢
        first
          | exact ⟨r1, fun q => absurd q (by decide), h.up.z _⟩
          | exact ⟨r2, fun q => absurd q (by decide), (h.up.z _).z _⟩
theorem rt_finds_n {n : Nat} {G M : GS} (hn : n < 512) (h : R9 n G M) {v : Nat} {x2 x3 : Int32} (hv : v < gnV G) (hf : gnF G v = 12) : (g_X7_finds_n M v x2 x3 (gnO G v)) 0 0 = kkm 2 3 1 (x_X6_finds G v x2 x3) ∧ (x_X6_finds G v x2 x3 = 0 → f_X7_finds_n M v x2 x3 (gnO G v) = f_X6_finds G v x2 x3) ∧ R9 (n + 1) (g_X6_finds G v x2 x3) (g_X7_finds_n M v x2 x3 (gnO G v)) := by
  have r1 : (g_X7_finds_n_1 M v x2 x3 (gnO G v)) 0 0 = (if f_X7_isVisit M (nI v) = 0 then 1 else (if f_X7_in x2 0 9 = 0 then 2 else (if f_X7_in x3 1 10 = 0 then 2 else 0))) := rfl
  have r2 : (g_X7_finds_n_2 M v x2 x3 (gnO G v)) 0 0 = 3 := rfl
  have f1 : ¬ nI (gnF G v) < 12 := by rw [hf]; decide
  unfold g_X7_finds_n x_X6_finds f_X7_finds_n f_X6_finds g_X6_finds
  simp only [h_v1 h hv, in9, if_neg f1, if_neg one_ne, ite_self] at r1 ⊢
  unfold f_X7_in at r1 ⊢
  by_cases a : f_X6_isIndex x2 10 = 0
  · simp only [if_pos a, if_neg n10, if_neg n20, if_neg n30, if_pos z00, if_neg one_ne, if_neg two_ne, if_neg three_ne, ↓reduceIte] at r1 ⊢
    first
      | exact ⟨r1, fun q => absurd q (by decide), h.up.z _⟩
  · by_cases c : x3 < 1
    · simp only [if_neg a, if_pos c, if_neg n10, if_neg n20, if_neg n30, if_pos z00, if_neg one_ne, if_neg two_ne, if_neg three_ne, ↓reduceIte] at r1 ⊢
      first
        | exact ⟨r1, fun q => absurd q (by decide), h.up.z _⟩
    · by_cases d : x3 ≤ 10
      · have d' : ¬ 10 < x3 := Int32.not_lt.mpr d
        simp only [if_neg a, if_neg c, if_pos d, if_neg d', if_neg n10, if_neg n20, if_neg n30, if_pos z00, if_neg one_ne, if_neg two_ne, if_neg three_ne, ↓reduceIte]
        exact ⟨r2, fun q => absurd q (by decide), (h.up.z _).z _⟩
      · have d' : 10 < x3 := Int32.not_le.mp d
        simp only [if_neg a, if_neg c, if_neg d, if_pos d', if_neg n10, if_neg n20, if_neg n30, if_pos z00, if_neg one_ne, if_neg two_ne, if_neg three_ne, ↓reduceIte] at r1 ⊢
        first
          | exact ⟨r1, fun q => absurd q (by decide), h.up.z _⟩
theorem rs_finds : RS_finds R9 := fun n G M x1 x2 x3 hn h => by
  unfold HM_finds K_finds H_finds FM_finds F_finds
  rw [h_vi h]
  by_cases b : f_X6_isIndex x1 (nI (gnV G)) = 0
  · simp only [if_pos b]
    exact ⟨rfl, fun q => absurd q (by decide), h.up.z 1⟩
  · obtain ⟨hi, hx⟩ := isx_get (by have := h.ic.v.2.1; omega) b
    simp only [if_neg b]
    have f35 : M 35 x1.toNatClampNeg = nI (gnF G x1.toNatClampNeg) := (congrFun (h.q 35) _).trans (h.ic.f hi).1
    have f30 : (M 30 x1.toNatClampNeg).toNatClampNeg = gnO G x1.toNatClampNeg := by rw [h.q 30]; rfl
    rw [f30]
    by_cases full : M 35 x1.toNatClampNeg = 12
    · simp only [if_pos full]
      exact rt_finds_n hn h hi ((nI_eq (b := 12) (by have := (h.ic.f hi).2.1; omega) (by decide)).mp (f35.symm.trans full))
    · simp only [if_neg full]
      exact rt_finds hn h hi (ne_le f35 (h.ic.f hi).2.1 full)
theorem rt_mends {n : Nat} {G M : GS} (hn : n < 512) (h : R9 n G M) {v j : Nat} {x3 : Int32} (hv : v < gnV G) (hj : j < gnF G v) : (g_X7_mends M v j x3) 0 0 = kkm 0 2 1 (x_X6_mends G v j x3) ∧ (x_X6_mends G v j x3 = 0 → f_X7_mends M v j x3 = f_X6_mends G v j x3) ∧ R9 (n + 1) (g_X6_mends G v j x3) (g_X7_mends M v j x3) := by
  have r1 : (g_X7_mends_1 M v j x3) 0 0 = (if f_X7_isVisit M (nI v) = 0 then 1 else (if f_X7_in (nI j) 0 ((M 35 v) - 1) = 0 then 1 else 0)) := rfl
  have r2 : (g_X7_mends_2 M v j x3) 0 0 = (if M 37 ((12 * v) + j) = 1 then 2 else (if (if x3 = 0 then 0 else (if M 37 ((12 * v) + j) = 2 then 1 else (if 8 ≤ M 36 ((12 * v) + j) then 1 else (if f_X7_isHere (g_X7_mends_1 M v j x3) v = 0 then 1 else 0))) : Int32) = 0 then 0 else 2)) := rfl
  have r0 : (g_X7_mends_3 M v j x3) 0 0 = (if M 37 ((12 * v) + j) = 1 then 2 else (if (if x3 = 0 then 0 else (if M 37 ((12 * v) + j) = 2 then 1 else (if 8 ≤ M 36 ((12 * v) + j) then 1 else (if f_X7_isHere (g_X7_mends_1 M v j x3) v = 0 then 1 else 0))) : Int32) = 0 then 0 else 2)) := rfl
  have hh := v_here (show R9 n G (g_X7_mends_1 M v j x3) from h.z _) v
  have f35 : M 35 v = nI (gnF G v) := (congrFun (h.q 35) _).trans (h.ic.f hv).1
  have i4 : f_X7_in (nI j) 0 ((M 35 v) - 1) = 1 := by rw [f35]; exact xin_one hj (by have := (h.ic.f hv).2.1; omega)
  have e37 := h.e37 (12 * v + j)
  unfold g_X7_mends x_X6_mends f_X7_mends f_X6_mends g_X6_mends v_X7_mends_88
  simp only [h_v1 h hv, i4, e37, h.q 36, if_neg one_ne] at r0 r1 r2 ⊢
  by_cases a : G 37 (12 * v + j) = 0
  · by_cases c : x3 = 0
    · by_cases d : G 44 (12 * v + j) = 0
      · have rk := rk_mendsA (v := v) (j := j) h c
        simp only [if_pos a, if_pos c, if_pos d, if_neg n01, if_neg n21, if_neg n02, if_neg n12, if_neg n10, if_neg n20, if_neg n30, if_pos z00, if_neg one_ne, if_neg two_ne, if_neg three_ne, ↓reduceIte] at r0 ⊢
        exact ⟨r0, fun _ => v_opf rk v, rk⟩
      · have rk := rk_mendsA (v := v) (j := j) h c
        simp only [if_pos a, if_pos c, if_neg d, if_neg n01, if_neg n21, if_neg n02, if_neg n12, if_neg n10, if_neg n20, if_neg n30, if_pos z00, if_neg one_ne, if_neg two_ne, if_neg three_ne, ↓reduceIte] at r0 ⊢
        exact ⟨r0, fun _ => v_opf rk v, rk⟩
    · by_cases d : G 44 (12 * v + j) = 0
      · by_cases e : 8 ≤ G 36 (12 * v + j)
        · simp only [if_pos a, if_neg c, if_pos d, if_pos e, if_neg n01, if_neg n21, if_neg n02, if_neg n12, if_neg n10, if_neg n20, if_neg n30, if_pos z00, if_neg one_ne, if_neg two_ne, if_neg three_ne, ↓reduceIte] at r1 r2 ⊢
          first
            | exact ⟨r1, fun q => absurd q (by decide), h.up.z _⟩
            | exact ⟨r2, fun q => absurd q (by decide), (h.up.z _).z _⟩
        · by_cases f : f_X6_hasLeftSince G v = 0
          · have f' : ¬ f_X7_isHere (g_X7_mends_1 M v j x3) v = 0 := fun q => (hh.mp q) f
            have rk := rk_mendsB h c a
            simp only [if_pos a, if_neg c, if_pos d, if_neg e, if_pos f, if_neg f', if_neg n01, if_neg n21, if_neg n02, if_neg n12, if_neg n10, if_neg n20, if_neg n30, if_pos z00, if_neg one_ne, if_neg two_ne, if_neg three_ne, ↓reduceIte] at r0 ⊢
            exact ⟨r0, fun _ => v_opf rk v, rk⟩
          · have f' : f_X7_isHere (g_X7_mends_1 M v j x3) v = 0 := hh.mpr f
            simp only [if_pos a, if_neg c, if_pos d, if_neg e, if_neg f, if_pos f', if_neg n01, if_neg n21, if_neg n02, if_neg n12, if_neg n10, if_neg n20, if_neg n30, if_pos z00, if_neg one_ne, if_neg two_ne, if_neg three_ne, ↓reduceIte] at r1 r2 ⊢
            first
              | exact ⟨r1, fun q => absurd q (by decide), h.up.z _⟩
              | exact ⟨r2, fun q => absurd q (by decide), (h.up.z _).z _⟩
      · simp only [if_pos a, if_neg c, if_neg d, if_neg n01, if_neg n21, if_neg n02, if_neg n12, if_neg n10, if_neg n20, if_neg n30, if_pos z00, if_neg one_ne, if_neg two_ne, if_neg three_ne, ↓reduceIte] at r1 r2 ⊢
        first
          | exact ⟨r1, fun q => absurd q (by decide), h.up.z _⟩
          | exact ⟨r2, fun q => absurd q (by decide), (h.up.z _).z _⟩
  · simp only [if_neg a, if_neg n01, if_neg n21, if_neg n02, if_neg n12, if_neg n10, if_neg n20, if_neg n30, if_pos z00, if_neg one_ne, if_neg two_ne, if_neg three_ne, ↓reduceIte] at r1 r2 ⊢
    first
      | exact ⟨r1, fun q => absurd q (by decide), h.up.z _⟩
      | exact ⟨r2, fun q => absurd q (by decide), (h.up.z _).z _⟩
theorem rs_mends : RS_mends R9 := fun n G M x1 x2 x3 hn h hx3 => by
  unfold HM_mends K_mends H_mends FM_mends F_mends
  rw [h_vi h]
  by_cases b : f_X6_isIndex x1 (nI (gnV G)) = 0
  · simp only [if_pos b]
    exact ⟨rfl, fun q => absurd q (by decide), h.up.z 1⟩
  · obtain ⟨hi, hx⟩ := isx_get (by have := h.ic.v.2.1; omega) b
    simp only [if_neg b]
    have f35 : M 35 x1.toNatClampNeg = nI (gnF G x1.toNatClampNeg) := (congrFun (h.q 35) _).trans (h.ic.f hi).1
    have f12 := (h.ic.f hi).2.1
    have e9 : f_X7_in x2 0 ((M 35 x1.toNatClampNeg) - 1) = f_X6_isIndex x2 (nI (gnF G x1.toNatClampNeg)) := by rw [f35]; exact isx_xin x2 (by omega)
    rw [e9]
    by_cases c : f_X6_isIndex x2 (nI (gnF G x1.toNatClampNeg)) = 0
    · simp only [if_pos c]
      exact ⟨rfl, fun q => absurd q (by decide), h.up.z 1⟩
    · obtain ⟨hj, hx2⟩ := isx_get (by omega) c
      simp only [if_neg c]
      exact rt_mends hn h hi hj
theorem rt_detain {n : Nat} {G M : GS} (hn : n < 512) (h : R9 n G M) {v : Nat} (hv : v < gnV G) : (g_X7_detain M v (gnO G v)) 0 0 = kkm 0 2 1 (x_X6_detain G v) ∧ (x_X6_detain G v = 0 → f_X7_detain M v (gnO G v) = f_X6_detain G v) ∧ R9 (n + 1) (g_X6_detain G v) (g_X7_detain M v (gnO G v)) := by
  have so := h.ic.so hv
  have hg : gnN G (gnO G v) < 514 := h.gn hn so.2
  have r1 : (g_X7_detain_1 M v (gnO G v)) 0 0 = (if f_X7_isVisit M (nI v) = 0 then 1 else 0) := rfl
  have r2 : (g_X7_detain_2 M v (gnO G v)) 0 0 = (if f_X7_isHere (g_X7_detain_1 M v (gnO G v)) v = 0 then 2 else (if M 38 v = (-1) then (if (if 10 ≤ f_X7_openWeights (g_X7_detain_1 M v (gnO G v)) v then 1 else (if f_X7_lapsedOf (g_X7_detain_1 M v (gnO G v)) (gnO G v) = 0 then 0 else 1) : Int32) = 0 then 2 else 0) else 2)) := rfl
  have r3 : (g_X7_looksForBan (g_X7_detain_4 M v (gnO G v)) (gnO G v)) 0 0 = (if f_X7_isHere (g_X7_detain_1 M v (gnO G v)) v = 0 then 2 else (if M 38 v = (-1) then (if (if 10 ≤ f_X7_openWeights (g_X7_detain_1 M v (gnO G v)) v then 1 else (if f_X7_lapsedOf (g_X7_detain_1 M v (gnO G v)) (gnO G v) = 0 then 0 else 1) : Int32) = 0 then 2 else 0) else 2)) := congrFun (e_g_X7_looksForBan (g_X7_detain_4 M v (gnO G v)) (gnO G v) (j := 0) (by decide)) 0
  have hh := v_here (show R9 n G (g_X7_detain_1 M v (gnO G v)) from h.z _) v
  have hw := v_opw (show R9 n G (g_X7_detain_1 M v (gnO G v)) from h.z _) v
  have hl := v_fam (show R9 n G (g_X7_detain_1 M v (gnO G v)) from h.z _) (gnO G v)
  have o1 : gnO (gnote (g_X6_detain_2 G v) (gnO G v) 4 (nI v) (G 1 0) (-1)) v = gnO G v := congrArg (fun z : Nat → Int32 => (z v).toNatClampNeg) ((e_gnote _ _ _ _ _ _ (by decide)).trans (e_g_X6_detain_2 G v (by decide)))
  have o2 : gnO (g_X6_lookForBan (gnote (g_X6_detain_2 G v) (gnO G v) 4 (nI v) (G 1 0) (-1)) (gnO G v)) v = gnO G v := (congrArg (fun z : Nat → Int32 => (z v).toNatClampNeg) (e_g_X6_lookForBan (gnote (g_X6_detain_2 G v) (gnO G v) 4 (nI v) (G 1 0) (-1)) (gnO G v) (by decide))).trans o1
  have s1 : gnS (gnote (g_X6_detain_2 G v) (gnO G v) 4 (nI v) (G 1 0) (-1)) = gnS G := congrArg (fun z : Nat → Int32 => (z 0).toNatClampNeg) ((e_gnote _ _ _ _ _ _ (by decide)).trans (e_g_X6_detain_2 G v (by decide)))
  unfold g_X7_detain x_X6_detain f_X7_detain f_X6_detain g_X6_detain v_X7_detain_52 f_X5_wasDetention f_X6_isDetainable
  simp only [h_v1 h hv, hw, hl, o1, o2, h.q 38, if_neg one_ne] at r1 r2 r3 ⊢
  by_cases a : f_X6_hasLeftSince G v = 0
  · have a' : ¬ f_X7_isHere (g_X7_detain_1 M v (gnO G v)) v = 0 := fun q => (hh.mp q) a
    by_cases c : G 38 v = (-1)
    · have rk := rk_lfb (rk_detain h hv hg c) (s := gnO G v) (by rw [s1]; exact so.2)
      by_cases d : 10 ≤ f_X5_openWeight G v
      · simp only [if_pos a, if_neg a', if_pos c, if_pos d, if_neg n10, if_neg n20, if_neg n30, if_pos z00, if_neg one_ne, if_neg two_ne, if_neg three_ne, ↓reduceIte] at r3 ⊢
        exact ⟨r3, fun _ => v_det rk (gnO G v), rk⟩
      · by_cases e : f_X6_familiesNotGood G (gnO G v) = 0
        · simp only [if_pos a, if_neg a', if_pos c, if_neg d, if_pos e, if_neg n10, if_neg n20, if_neg n30, if_pos z00, if_neg one_ne, if_neg two_ne, if_neg three_ne, ↓reduceIte] at r1 r2 ⊢
          first
            | exact ⟨r1, fun q => absurd q (by decide), h.up.z _⟩
            | exact ⟨r2, fun q => absurd q (by decide), (h.up.z _).z _⟩
        · simp only [if_pos a, if_neg a', if_pos c, if_neg d, if_neg e, if_neg n10, if_neg n20, if_neg n30, if_pos z00, if_neg one_ne, if_neg two_ne, if_neg three_ne, ↓reduceIte] at r3 ⊢
          exact ⟨r3, fun _ => v_det rk (gnO G v), rk⟩
    · simp only [if_pos a, if_neg a', if_neg c, if_neg n10, if_neg n20, if_neg n30, if_pos z00, if_neg one_ne, if_neg two_ne, if_neg three_ne, ↓reduceIte] at r1 r2 ⊢
      first
        | exact ⟨r1, fun q => absurd q (by decide), h.up.z _⟩
        | exact ⟨r2, fun q => absurd q (by decide), (h.up.z _).z _⟩
  · have a' : f_X7_isHere (g_X7_detain_1 M v (gnO G v)) v = 0 := hh.mpr a
    simp only [if_neg a, if_pos a', if_neg n10, if_neg n20, if_neg n30, if_pos z00, if_neg one_ne, if_neg two_ne, if_neg three_ne, ↓reduceIte] at r1 r2 ⊢
    first
      | exact ⟨r1, fun q => absurd q (by decide), h.up.z _⟩
      | exact ⟨r2, fun q => absurd q (by decide), (h.up.z _).z _⟩
theorem rs_detain : RS_detain R9 := fun n G M x1 hn h => by
  unfold HM_detain K_detain H_detain FM_detain F_detain
  rw [h_vi h]
  by_cases b : f_X6_isIndex x1 (nI (gnV G)) = 0
  · simp only [if_pos b]
    exact ⟨rfl, fun q => absurd q (by decide), h.up.z 1⟩
  · obtain ⟨hi, hx⟩ := isx_get (by have := h.ic.v.2.1; omega) b
    simp only [if_neg b]
    have f30 : (M 30 x1.toNatClampNeg).toNatClampNeg = gnO G x1.toNatClampNeg := by rw [h.q 30]; rfl
    rw [f30]
    exact rt_detain hn h hi
theorem rt_release {n : Nat} {G M : GS} (hn : n < 512) (h : R9 n G M) {i j : Nat} (hi : i < gnS G) (h13 : ¬ G 13 i = -1) (hj : (G 13 i).toNatClampNeg = j) (hj6 : j < 60) : (g_X7_release M i j) 0 0 = kkm 0 2 1 (x_X6_release G i) ∧ (x_X6_release G i = 0 → f_X7_release M i j = f_X6_release G i) ∧ R9 (n + 1) (g_X6_release G i) (g_X7_release M i j) := by
  have r1 : (g_X7_release_1 M i j) 0 0 = (if f_X7_isShip M (nI i) = 0 then 1 else (if nI j = (-1) then 2 else 0)) := rfl
  have r2 : (g_X7_release_2 M i j) 0 0 = (if 0 < f_X7_openOf (g_X7_release_1 M i j) j then 2 else (if f_X7_lapsedOf (g_X7_release_1 M i j) i = 0 then 0 else 2)) := rfl
  have r3 : (g_X7_release_4 M i j) 0 0 = (if 0 < f_X7_openOf (g_X7_release_1 M i j) j then 2 else (if f_X7_lapsedOf (g_X7_release_1 M i j) i = 0 then 0 else 2)) := rfl
  have r4 : (g_X7_release_7 M i j) 0 0 = (if 0 < f_X7_openOf (g_X7_release_1 M i j) j then 2 else (if f_X7_lapsedOf (g_X7_release_1 M i j) i = 0 then 0 else 2)) := rfl
  have ho := v_opf (show R9 n G (g_X7_release_1 M i j) from h.z _) j
  have hl := v_fam (show R9 n G (g_X7_release_1 M i j) from h.z _) i
  have nj : ¬ nI j = -1 := nI_m1 (by omega)
  unfold g_X7_release x_X6_release f_X7_release f_X6_release g_X6_release v_X6_release_53
  simp only [h_s1 h hi, ho, hl, hj, h.q 1, h.q 38, h.q 14, if_neg h13, if_neg nj, if_neg one_ne, ite_self] at r1 r2 r3 r4 ⊢
  by_cases a : 0 < f_X5_openFindings G j
  · simp only [if_pos a, if_neg n10, if_neg n20, if_neg n30, if_pos z00, if_neg one_ne, if_neg two_ne, if_neg three_ne, ↓reduceIte] at r1 r2 ⊢
    first
      | exact ⟨r1, fun q => absurd q (by decide), h.up.z _⟩
      | exact ⟨r2, fun q => absurd q (by decide), (h.up.z _).z _⟩
  · by_cases c : f_X6_familiesNotGood G i = 0
    · by_cases d : G 14 i = 0
      · simp only [if_neg a, if_pos c, if_pos d, if_neg n10, if_neg n20, if_neg n30, if_pos z00, if_neg one_ne, if_neg two_ne, if_neg three_ne, ↓reduceIte] at r3 ⊢
        exact ⟨r3, fun _ => by first | rfl | trivial, rk_releaseA h hi hj⟩
      · simp only [if_neg a, if_pos c, if_neg d, if_neg n10, if_neg n20, if_neg n30, if_pos z00, if_neg one_ne, if_neg two_ne, if_neg three_ne, ↓reduceIte] at r4 ⊢
        exact ⟨r4, fun _ => by first | rfl | trivial, rk_releaseB h hi hj⟩
    · simp only [if_neg a, if_neg c, if_neg n10, if_neg n20, if_neg n30, if_pos z00, if_neg one_ne, if_neg two_ne, if_neg three_ne, ↓reduceIte] at r1 r2 ⊢
      first
        | exact ⟨r1, fun q => absurd q (by decide), h.up.z _⟩
        | exact ⟨r2, fun q => absurd q (by decide), (h.up.z _).z _⟩
theorem rs_release : RS_release R9 := fun n G M x1 hn h => by
  unfold HM_release K_release H_release FM_release F_release
  rw [h_sh h]
  by_cases b : f_X6_isIndex x1 (nI (gnS G)) = 0
  · simp only [if_pos b]
    exact ⟨rfl, fun q => absurd q (by decide), h.up.z 1⟩
  · obtain ⟨hi, hx⟩ := isx_get (by have := h.ic.s.2.1; omega) b
    simp only [if_neg b]
    rw [h.q 13]
    by_cases c : G 13 x1.toNatClampNeg = -1
    · simp only [if_pos c]
      unfold x_X6_release g_X6_release f_X6_release
      simp only [if_pos c]
      have e : g_X7_release_n M x1.toNatClampNeg = up2 M 0 0 2 := by
        unfold g_X7_release_n g_X7_release_n_1
        rw [h_s1 h hi]
        rfl
      rw [e]
      exact ⟨rfl, fun q => absurd q (by decide), h.up.z 2⟩
    · simp only [if_neg c]
      exact rt_release hn h hi c rfl (Nat.lt_of_lt_of_le (h.ic.re 13 (by decide) hi c).2 h.ic.v.2.1)
theorem rt_appeal {n : Nat} {G M : GS} (h : R9 n G M) {v : Nat} (hv : v < gnV G) : (g_X7_appeal M v) 0 0 = kkm 0 2 1 (x_X6_appeal G v) ∧ R9 (n + 1) (g_X6_appeal G v) (g_X7_appeal M v) := by
  have r2 : (g_X7_appeal_2 M v) 0 0 = (if (if M 38 v = (-1) then 0 else (if M 39 v = 0 then (if 30 < (M 1 0) - (M 38 v) then 0 else 1) else 0) : Int32) = 0 then 2 else 0) := rfl
  have r0 : (g_X7_appeal_4 M v) 0 0 = (if (if M 38 v = (-1) then 0 else (if M 39 v = 0 then (if 30 < (M 1 0) - (M 38 v) then 0 else 1) else 0) : Int32) = 0 then 2 else 0) := rfl
  unfold g_X7_appeal x_X6_appeal g_X6_appeal v_X7_appeal_64 f_X5_wasDetention
  simp only [h_v1 h hv, h.q 38, h.q 39, h.q 1, if_neg one_ne] at r0 r2 ⊢
  by_cases a : G 38 v = (-1)
  · simp only [if_pos a, if_neg n10, if_neg n20, if_neg n30, if_pos z00, if_neg one_ne, if_neg two_ne, if_neg three_ne, ↓reduceIte] at r2 ⊢
    exact ⟨r2, (h.up.z _).z _⟩
  · by_cases c : G 39 v = 0
    · by_cases d : G 1 0 - G 38 v ≤ 30
      · have d' : ¬ 30 < G 1 0 - G 38 v := Int32.not_lt.mpr d
        simp only [if_neg a, if_pos c, if_pos d, if_neg d', if_neg n10, if_neg n20, if_neg n30, if_pos z00, if_neg one_ne, if_neg two_ne, if_neg three_ne, ↓reduceIte] at r0 ⊢
        exact ⟨r0, rk_appeal h hv⟩
      · have d' : 30 < G 1 0 - G 38 v := Int32.not_le.mp d
        simp only [if_neg a, if_pos c, if_neg d, if_pos d', if_neg n10, if_neg n20, if_neg n30, if_pos z00, if_neg one_ne, if_neg two_ne, if_neg three_ne, ↓reduceIte] at r2 ⊢
        exact ⟨r2, (h.up.z _).z _⟩
    · simp only [if_neg a, if_neg c, if_neg n10, if_neg n20, if_neg n30, if_pos z00, if_neg one_ne, if_neg two_ne, if_neg three_ne, ↓reduceIte] at r2 ⊢
      exact ⟨r2, (h.up.z _).z _⟩
theorem rs_appeal : RS_appeal R9 := fun n G M x1 hn h => by
  unfold HM_appeal K_appeal H_appeal
  rw [h_vi h]
  by_cases b : f_X6_isIndex x1 (nI (gnV G)) = 0
  · simp only [if_pos b]
    exact ⟨rfl, h.up.z 1⟩
  · obtain ⟨hi, hx⟩ := isx_get (by have := h.ic.v.2.1; omega) b
    simp only [if_neg b]
    exact rt_appeal h hi
theorem rt_vote {n : Nat} {G M : GS} (hn : n < 512) (h : R9 n G M) {v : Nat} {x2 : Int32} (hv : v < gnV G) : (g_X7_vote M v x2) 0 0 = kkm 0 2 1 (x_X6_vote G v x2) ∧ (x_X6_vote G v x2 = 0 → f_X7_vote M v x2 = f_X6_vote G v x2) ∧ R9 (n + 1) (g_X6_vote G v x2) (g_X7_vote M v x2) := by
  have hg : gnN G (gnO G v) < 514 := h.gn hn (h.ic.so hv).2
  have r1 : (g_X7_vote_1 M v x2) 0 0 = (if f_X7_isVisit M (nI v) = 0 then 1 else (if M 39 v = 0 then 2 else (if f_X7_decided M v = 0 then 0 else 2))) := rfl
  have r0 : (g_X7_vote_3 M v x2) 0 0 = (if f_X7_isVisit M (nI v) = 0 then 1 else (if M 39 v = 0 then 2 else (if f_X7_decided M v = 0 then 0 else 2))) := rfl
  unfold g_X7_vote x_X6_vote f_X7_vote f_X6_vote g_X6_vote
  simp only [h_v1 h hv, h.q 39, v_dec h, if_neg one_ne, ite_self] at r0 r1 ⊢
  by_cases a : G 39 v = 0
  · simp only [if_pos a, if_neg n10, if_neg n20, if_neg n30, if_pos z00, if_neg one_ne, if_neg two_ne, if_neg three_ne, ↓reduceIte] at r1 ⊢
    first
      | exact ⟨r1, fun q => absurd q (by decide), h.up.z _⟩
  · by_cases c : f_X5_decision G v = 0
    · have d0 := dec_0 h c
      by_cases e : x2 = 0
      · have rk := rk_voteA h hv hg e d0.2
        simp only [if_neg a, if_pos c, if_pos e, if_neg n10, if_neg n20, if_neg n30, if_pos z00, if_neg one_ne, if_neg two_ne, if_neg three_ne, ↓reduceIte] at r0 ⊢
        exact ⟨r0, fun _ => v_dec rk v, rk⟩
      · have rk := rk_voteB h hv hg e d0.1
        simp only [if_neg a, if_pos c, if_neg e, if_neg n10, if_neg n20, if_neg n30, if_pos z00, if_neg one_ne, if_neg two_ne, if_neg three_ne, ↓reduceIte] at r0 ⊢
        exact ⟨r0, fun _ => v_dec rk v, rk⟩
    · simp only [if_neg a, if_neg c, if_neg n10, if_neg n20, if_neg n30, if_pos z00, if_neg one_ne, if_neg two_ne, if_neg three_ne, ↓reduceIte] at r1 ⊢
      first
        | exact ⟨r1, fun q => absurd q (by decide), h.up.z _⟩
theorem rs_vote : RS_vote R9 := fun n G M x1 x2 hn h hx2 => by
  unfold HM_vote K_vote H_vote FM_vote F_vote
  rw [h_vi h]
  by_cases b : f_X6_isIndex x1 (nI (gnV G)) = 0
  · simp only [if_pos b]
    exact ⟨rfl, fun q => absurd q (by decide), h.up.z 1⟩
  · obtain ⟨hi, hx⟩ := isx_get (by have := h.ic.v.2.1; omega) b
    simp only [if_neg b]
    exact rt_vote hn h hi
theorem r_step : Rstep9 R9 := ⟨R9.rf, R9.z0, fun _ _ _ h => h.up, rs_pass, rs_ship, rs_changes, rs_suspend, rs_rule, rs_issue, rs_endorse, rs_calls, rs_leaves, rs_visit, rs_finds, rs_mends, rs_detain, rs_release, rs_appeal, rs_vote, rs_ofShip, rs_pointsAnew, rs_isGround, rs_ofVisit, rs_list, rs_missed, rs_knew⟩
