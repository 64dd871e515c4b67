theorem n01 : ¬ (0 : Int32) = 1 := by decide
theorem n21 : ¬ (2 : Int32) = 1 := by decide
theorem n02 : ¬ (0 : Int32) = 2 := by decide
theorem n12 : ¬ (1 : Int32) = 2 := by decide
theorem il_1 {a0 a1 a2 a3 a4 : Int32} : ∀ f, f < 5 → (if f = 0 then a0 else if f = 1 then a1 else if f = 2 then a2 else if f = 3 then a3 else a4) = 1 → il5 a0 a1 a2 a3 a4 f = 1 := fun f hf e => by
  have h5 : f = 0 ∨ f = 1 ∨ f = 2 ∨ f = 3 ∨ f = 4 := by omega
  rcases h5 with rfl | rfl | rfl | rfl | rfl
  · exact e
  · have e : a1 = 1 := e
    rw [e]; rfl
  · have e : a2 = 1 := e
    rw [e]; rfl
  · have e : a3 = 1 := e
    rw [e]; rfl
  · exact e
theorem fam_18 {n : Nat} {G M : GS} (h : R9 n G M) {i f : Nat} (hf : f < 5) (e : G 18 (5 * i + f) = 0) : ¬ f_X6_isIn (nI f) (f_X6_familiesNotGood G i) = 0 := by
  rw [← v_isl h i hf, v_il h i hf, il_1 f hf]
  · decide
  · have c : ca G i f = 1 := by
      unfold ca
      rw [if_pos e]
    have h5 : f = 0 ∨ f = 1 ∨ f = 2 ∨ f = 3 ∨ f = 4 := by omega
    rcases h5 with rfl | rfl | rfl | rfl | rfl <;> exact c
theorem v_dep {n : Nat} {G M : GS} (h : R9 n G M) (i : Nat) : (if v_X7_visit_90 M i = 0 then (if v_X7_visit_112 M i = 0 then 0 else 1) else 2) = f_X6_depthOfNext G i := by
  unfold v_X7_visit_90 v_X7_visit_112 f_X6_depthOfNext
  rw [v_rsk (show R9 n G (g_X7_visit_1 M i) from h.z _), v_old (show R9 n G (g_X7_visit_1 M i) from h.z _), v_fam (show R9 n G (g_X7_visit_1 M i) from h.z _), v_off (show R9 n G (g_X7_visit_1 M i) from h.z _), h.q 6]
  by_cases a : f_X6_riskOf G i = 2
  · simp only [if_pos a, if_neg one_ne]
  · by_cases b : f_X6_isOld G (G 4 i) = 0
    · by_cases c : f_X6_familiesNotGood G i = 0
      · by_cases d : f_X6_hasPutOffUnmended G i = 0
        · simp only [if_neg a, if_pos b, if_pos c, if_pos d, ↓reduceIte]
        · simp only [if_neg a, if_pos b, if_pos c, if_neg d, if_neg one_ne, ↓reduceIte]
      · simp only [if_neg a, if_pos b, if_neg c, if_neg one_ne, ↓reduceIte]
    · by_cases e : G 6 i = 0
      · by_cases c : f_X6_familiesNotGood G i = 0
        · by_cases d : f_X6_hasPutOffUnmended G i = 0
          · simp only [if_neg a, if_neg b, if_pos e, if_pos c, if_pos d, ↓reduceIte]
          · simp only [if_neg a, if_neg b, if_pos e, if_pos c, if_neg d, if_neg one_ne, ↓reduceIte]
        · simp only [if_neg a, if_neg b, if_pos e, if_neg c, if_neg one_ne, ↓reduceIte]
      · simp only [if_neg a, if_neg b, if_neg e, if_neg one_ne, ↓reduceIte]
theorem dec_0 {n : Nat} {G M : GS} (h : R9 n G M) {v : Nat} (e : f_X5_decision G v = 0) : (G 40 v = 0 ∨ G 40 v = 1) ∧ (G 41 v = 0 ∨ G 41 v = 1) := by
  unfold f_X5_decision at e
  rcases (h.b40 v).1 with a | a | a
  · rcases (h.b40 v).2 with b | b | b
    · exact ⟨Or.inl a, Or.inl b⟩
    · exact ⟨Or.inl a, Or.inr b⟩
    · rw [a, b] at e; exact absurd e (by decide)
  · rcases (h.b40 v).2 with b | b | b
    · exact ⟨Or.inr a, Or.inl b⟩
    · exact ⟨Or.inr a, Or.inr b⟩
    · rw [a, b] at e; exact absurd e (by decide)
  · rw [a, if_neg (by decide : ¬ (2 : Int32) < 2)] at e; exact absurd e (by decide)
theorem ge1 {x : Int32} {k : Nat} (h : ¬ x < 1) (e : x = nI k) : 1 ≤ k := by
  rcases Nat.eq_zero_or_pos k with q | q
  · rw [e, q] at h
    exact absurd (by decide : nI 0 < 1) h
  · exact q
theorem rt_changes {n : Nat} {G M : GS} (hn : n < 512) (h : R9 n G M) {i : Nat} {x2 x3 : Int32} (hi : i < gnS G) : (g_X7_changes M i x2 x3) 0 0 = kkm 0 0 1 (x_X6_changes G i x2 x3) ∧ (x_X6_changes G i x2 x3 = 0 → f_X7_changes M i x2 x3 = f_X6_changes G i x2 x3) ∧ R9 (n + 1) (g_X6_changes G i x2 x3) (g_X7_changes M i x2 x3) := by
  have r0 : (g_X7_changes_4 M i x2 x3) 0 0 = (if f_X7_isShip M (nI i) = 0 then 1 else (if f_X7_isFlag x2 = 0 then 1 else (if f_X7_isBody x3 = 0 then 1 else 0))) := rfl
  have r1 : (g_X7_changes_1 M i x2 x3) 0 0 = (if f_X7_isShip M (nI i) = 0 then 1 else (if f_X7_isFlag x2 = 0 then 1 else (if f_X7_isBody x3 = 0 then 1 else 0))) := rfl
  unfold g_X7_changes x_X6_changes f_X7_changes f_X6_changes g_X6_changes f_X7_isFlag f_X7_isBody
  unfold f_X7_isFlag f_X7_isBody at r0 r1
  simp only [h_s1 h hi, in5, in3, h.q 9, if_neg one_ne] at r0 r1 ⊢
  by_cases a : f_X6_isIndex x2 6 = 0
  · simp only [if_pos a, if_neg n10, if_neg n20, if_neg n30, if_pos z00, if_neg one_ne, if_neg two_ne, if_neg three_ne, ↓reduceIte] at r1 ⊢
    first
      | exact ⟨r1, fun q => absurd q (by decide), h.up.z _⟩
  · by_cases c : f_X6_isIndex x3 4 = 0
    · simp only [if_neg a, if_pos c, if_neg n10, if_neg n20, if_neg n30, if_pos z00, if_neg one_ne, if_neg two_ne, if_neg three_ne, ↓reduceIte] at r1 ⊢
      first
        | exact ⟨r1, fun q => absurd q (by decide), h.up.z _⟩
    · have hb := ix4 c
      simp only [if_neg a, if_neg c, if_neg n10, if_neg n20, if_neg n30, if_pos z00, if_neg one_ne, if_neg two_ne, if_neg three_ne, ↓reduceIte] at r0 ⊢
      exact ⟨r0, fun _ => (pk_us (f := G 9) (k := i) (x := G 9 i + 1)).symm, rk_changes h hi (h.gn hn hi) ⟨_, hb⟩⟩
theorem rs_changes : RS_changes R9 := fun n G M x1 x2 x3 hn h => by
  unfold HM_changes K_changes H_changes FM_changes F_changes
  rw [h_sh h]
  by_cases b : f_X6_isIndex x1 (nI (gnS G)) = 0
  · simp only [if_pos b]
    exact ⟨rfl, fun q => absurd q (by decide), h.up.z 1⟩
  · obtain ⟨hi, hx⟩ := isx_get (by have := h.ic.s.2.1; omega) b
    simp only [if_neg b]
    exact rt_changes hn h hi
theorem rt_issue {n : Nat} {G M : GS} (hn : n < 512) (h : R9 n G M) {i f : Nat} {x3 : Int32} (hi : i < gnS G) (hf : f < 5) : (g_X7_issue M i f x3) 0 0 = kkm 2 3 1 (x_X6_issue G i f x3) ∧ (x_X6_issue G i f x3 = 0 → f_X7_issue M i f x3 = f_X6_issue G i f x3) ∧ R9 (n + 1) (g_X6_issue G i f x3) (g_X7_issue M i f x3) := by
  have r1 : (g_X7_issue_1 M i f x3) 0 0 = (if f_X7_isShip M (nI i) = 0 then 1 else (if f_X7_in (nI f) 0 4 = 0 then 2 else (if f_X7_in x3 1 1825 = 0 then 2 else 0))) := rfl
  have r2 : (g_X7_issue_2 M i f x3) 0 0 = (if M 2 (M 8 i).toNatClampNeg = 0 then (if f_X7_hangsOnLapsed (g_X7_issue_1 M i f x3) i f = 0 then 0 else 3) else 3) := rfl
  have r0 : (g_X7_issue_7 M i f x3) 0 0 = (if M 2 (M 8 i).toNatClampNeg = 0 then (if f_X7_hangsOnLapsed (g_X7_issue_1 M i f x3) i f = 0 then 0 else 3) else 3) := rfl
  have hh : f_X7_hangsOnLapsed (g_X7_issue_1 M i f x3) i f = f_X6_isIn (f_X6_hangsOn (nI f)) (f_X6_familiesNotGood G i) := v_hng (show R9 n G (g_X7_issue_1 M i f x3) from h.z _) i hf
  have i4 : f_X7_in (nI f) 0 4 = 1 := (in4 _).trans (isx_one (n := 5) hf (by decide))
  have hu := v_sus h i
  simp only [h.q 2, h.q 8] at hu
  unfold g_X7_issue x_X6_issue f_X7_issue f_X6_issue g_X6_issue
  simp only [hh, h_s1 h hi, i4, hu, h.q 1, h.q 2, h.q 8, if_neg one_ne] at r0 r1 r2 ⊢
  unfold f_X7_in at r1 ⊢
  by_cases a : x3 < 1
  · simp only [if_pos a, if_neg n10, if_neg n20, if_neg n30, if_pos z00, if_neg one_ne, if_neg two_ne, if_neg three_ne, ↓reduceIte] at r1 r2 ⊢
    first
      | exact ⟨r1, fun q => absurd q (by decide), h.up.z _⟩
      | exact ⟨r2, fun q => absurd q (by decide), (h.up.z _).z _⟩
  · by_cases c : x3 ≤ 1825
    · have c' : ¬ 1825 < x3 := Int32.not_lt.mpr c
      by_cases d : G 2 (G 8 i).toNatClampNeg = 0
      · by_cases e : f_X6_isIn (f_X6_hangsOn (nI f)) (f_X6_familiesNotGood G i) = 0
        · obtain ⟨k, k1, k2⟩ := nI_of2 (M := 1825) (n := 1825) (by decide) (lt1 a) c
          simp only [if_neg a, if_pos c, if_neg c', if_pos d, if_pos e, if_neg n10, if_neg n20, if_neg n30, if_pos z00, if_neg one_ne, if_neg two_ne, if_neg three_ne, ↓reduceIte] at r0 ⊢
          exact ⟨r0, fun _ => by first | rfl | trivial, rk_issue h hi hf (ge1 a k2) k1 k2⟩
        · simp only [if_neg a, if_pos c, if_neg c', if_pos d, if_neg e, if_neg n10, if_neg n20, if_neg n30, if_pos z00, if_neg one_ne, if_neg two_ne, if_neg three_ne, ↓reduceIte] at r1 r2 ⊢
          first
            | exact ⟨r1, fun q => absurd q (by decide), h.up.z _⟩
            | exact ⟨r2, fun q => absurd q (by decide), (h.up.z _).z _⟩
      · simp only [if_neg a, if_pos c, if_neg c', if_neg d, if_neg n10, if_neg n20, if_neg n30, if_pos z00, if_neg one_ne, if_neg two_ne, if_neg three_ne, ↓reduceIte] at r1 r2 ⊢
        first
          | exact ⟨r1, fun q => absurd q (by decide), h.up.z _⟩
          | exact ⟨r2, fun q => absurd q (by decide), (h.up.z _).z _⟩
    · have c' : 1825 < x3 := Int32.not_le.mp c
      simp only [if_neg a, if_neg c, if_pos c', if_neg n10, if_neg n20, if_neg n30, if_pos z00, if_neg one_ne, if_neg two_ne, if_neg three_ne, ↓reduceIte] at r1 r2 ⊢
      first
        | exact ⟨r1, fun q => absurd q (by decide), h.up.z _⟩
        | exact ⟨r2, fun q => absurd q (by decide), (h.up.z _).z _⟩
theorem rs_issue : RS_issue R9 := fun n G M x1 x2 x3 hn h => by
  unfold HM_issue K_issue H_issue FM_issue F_issue
  rw [h_sh h]
  by_cases b : f_X6_isIndex x1 (nI (gnS G)) = 0
  · simp only [if_pos b]
    exact ⟨rfl, fun q => absurd q (by decide), h.up.z 1⟩
  · obtain ⟨hi, hx⟩ := isx_get (by have := h.ic.s.2.1; omega) b
    simp only [if_neg b]
    rw [in4]
    by_cases c : f_X6_isIndex x2 5 = 0
    · simp only [if_pos c]
      have e : g_X7_issue_f M x1.toNatClampNeg x2 x3 = up2 M 0 0 2 := by
        unfold g_X7_issue_f g_X7_issue_f_1
        rw [h_s1 h hi]
        rfl
      rw [e]
      exact ⟨rfl, fun q => absurd q (by decide), h.up.z 2⟩
    · obtain ⟨hf, hx2⟩ := isx_get (n := 5) (by decide) c
      simp only [if_neg c]
      exact rt_issue hn h hi hf
theorem rt_endorse {n : Nat} {G M : GS} (hn : n < 512) (h : R9 n G M) {i f : Nat} (hi : i < gnS G) (hf : f < 5) : (g_X7_endorse M i f) 0 0 = kkm 2 3 1 (x_X6_endorse G i f) ∧ (x_X6_endorse G i f = 0 → f_X7_endorse M i f = f_X6_endorse G i f) ∧ R9 (n + 1) (g_X6_endorse G i f) (g_X7_endorse M i f) := by
  have r1 : (g_X7_endorse_1 M i f) 0 0 = (if f_X7_isShip M (nI i) = 0 then 1 else (if f_X7_in (nI f) 0 4 = 0 then 2 else 0)) := rfl
  have r2 : (g_X7_endorse_2 M i f) 0 0 = (if f_X7_isLapsed (g_X7_endorse_1 M i f) i f = 0 then (if f_X7_anniversary (g_X7_endorse_1 M i f) (5 * i + f) = (-1) then 3 else 0) else 3) := rfl
  have r0 : (g_X7_endorse_3 M i f) 0 0 = (if f_X7_isLapsed (g_X7_endorse_1 M i f) i f = 0 then (if f_X7_anniversary (g_X7_endorse_1 M i f) (5 * i + f) = (-1) then 3 else 0) else 3) := rfl
  have hh : f_X7_isLapsed (g_X7_endorse_1 M i f) i f = f_X6_isIn (nI f) (f_X6_familiesNotGood G i) := v_isl (show R9 n G (g_X7_endorse_1 M i f) from h.z _) i hf
  have i4 : f_X7_in (nI f) 0 4 = 1 := (in4 _).trans (isx_one (n := 5) hf (by decide))
  have w1 := v_ann (show R9 n G (g_X7_endorse_1 M i f) from h.z _) i f
  have w2 := v_ann (show R9 n G (g_X7_endorse_2 M i f) from (h.z _).z _) i f
  unfold g_X7_endorse x_X6_endorse f_X7_endorse f_X6_endorse g_X6_endorse
  simp only [hh, h_s1 h hi, i4, if_neg one_ne] at r0 r1 r2 ⊢
  by_cases a : G 18 (5 * i + f) = 0
  · have a' := fam_18 h hf a
    simp only [if_pos a, if_neg a', if_neg n10, if_neg n20, if_neg n30, if_pos z00, if_neg one_ne, if_neg two_ne, if_neg three_ne, ↓reduceIte] at r1 r2 ⊢
    first
      | exact ⟨r1, fun q => absurd q (by decide), h.up.z _⟩
      | exact ⟨r2, fun q => absurd q (by decide), (h.up.z _).z _⟩
  · by_cases c : f_X6_isIn (nI f) (f_X6_familiesNotGood G i) = 0
    · by_cases d : f_X0_anniversaryToEndorse G i f (G 1 0) = (-1)
      · have d' : f_X7_anniversary (g_X7_endorse_1 M i f) (5 * i + f) = (-1) := by
          rcases w1 with q | ⟨k, q1, q2, q3⟩
          · exact q.1
          · rw [d] at q2; exact absurd q2.symm (nI_m1 (by omega))
        simp only [if_neg a, if_pos c, if_pos d, if_pos d', if_neg n10, if_neg n20, if_neg n30, if_pos z00, if_neg one_ne, if_neg two_ne, if_neg three_ne, ↓reduceIte] at r1 r2 ⊢
        first
          | exact ⟨r1, fun q => absurd q (by decide), h.up.z _⟩
          | exact ⟨r2, fun q => absurd q (by decide), (h.up.z _).z _⟩
      · have d' : ¬ f_X7_anniversary (g_X7_endorse_1 M i f) (5 * i + f) = (-1) := by
          rcases w1 with q | ⟨k, q1, q2, q3⟩
          · exact absurd q.2 d
          · rw [q3]; exact nI_m1 (by omega)
        simp only [if_neg a, if_pos c, if_neg d, if_neg d', if_neg n10, if_neg n20, if_neg n30, if_pos z00, if_neg one_ne, if_neg two_ne, if_neg three_ne, ↓reduceIte] at r0 ⊢
        rcases w2 with q | ⟨k, q1, q2, q3⟩
        · exact absurd q.2 d
        · refine ⟨r0, fun _ => ?_, rk_endorse h q1 q2 q3⟩
          obtain ⟨e9, z1, z2, z3⟩ := h.e22 (5 * i + f)
          rw [q2, q3, z2, z3]
          exact (bit_b e9 z1 k q1).symm
    · simp only [if_neg a, if_neg c, if_neg n10, if_neg n20, if_neg n30, if_pos z00, if_neg one_ne, if_neg two_ne, if_neg three_ne, ↓reduceIte] at r1 r2 ⊢
      first
        | exact ⟨r1, fun q => absurd q (by decide), h.up.z _⟩
        | exact ⟨r2, fun q => absurd q (by decide), (h.up.z _).z _⟩
theorem rs_endorse : RS_endorse R9 := fun n G M x1 x2 hn h => by
  unfold HM_endorse K_endorse H_endorse FM_endorse F_endorse
  rw [h_sh h]
  by_cases b : f_X6_isIndex x1 (nI (gnS G)) = 0
  · simp only [if_pos b]
    exact ⟨rfl, fun q => absurd q (by decide), h.up.z 1⟩
  · obtain ⟨hi, hx⟩ := isx_get (by have := h.ic.s.2.1; omega) b
    simp only [if_neg b]
    rw [in4]
    by_cases c : f_X6_isIndex x2 5 = 0
    · simp only [if_pos c]
      have e : g_X7_endorse_f M x1.toNatClampNeg x2 = up2 M 0 0 2 := by
        unfold g_X7_endorse_f g_X7_endorse_f_1
        rw [h_s1 h hi]
        rfl
      rw [e]
      exact ⟨rfl, fun q => absurd q (by decide), h.up.z 2⟩
    · obtain ⟨hf, hx2⟩ := isx_get (n := 5) (by decide) c
      simp only [if_neg c]
      exact rt_endorse hn h hi hf
theorem rt_calls {n : Nat} {G M : GS} (hn : n < 512) (h : R9 n G M) {i : Nat} {x2 : Int32} (hi : i < gnS G) : (g_X7_calls M i x2) 0 0 = kkm 0 2 1 (x_X6_calls G i x2) ∧ (x_X6_calls G i x2 = 0 → f_X7_calls M i x2 = f_X6_calls G i x2) ∧ R9 (n + 1) (g_X6_calls G i x2) (g_X7_calls M i x2) := by
  have r0 : (g_X7_calls_3 M i x2) 0 0 = (if f_X7_isShip M (nI i) = 0 then 1 else (if f_X7_isPort x2 = 0 then 1 else (if M 10 i = (-1) then (if f_X7_isBanned M i = 0 then 0 else 2) else 2))) := rfl
  have r1 : (g_X7_calls_1 M i x2) 0 0 = (if f_X7_isShip M (nI i) = 0 then 1 else (if f_X7_isPort x2 = 0 then 1 else (if M 10 i = (-1) then (if f_X7_isBanned M i = 0 then 0 else 2) else 2))) := rfl
  unfold g_X7_calls x_X6_calls f_X7_calls f_X6_calls g_X6_calls f_X7_isPort
  unfold f_X7_isPort at r0 r1
  simp only [h_s1 h hi, in3, h.q 10, v_ban h, if_neg one_ne] at r0 r1 ⊢
  by_cases a : f_X6_isIndex x2 4 = 0
  · simp only [if_pos a, if_neg n10, if_neg n20, if_neg n30, if_pos z00, if_neg one_ne, if_neg two_ne, if_neg three_ne, ↓reduceIte] at r1 ⊢
    first
      | exact ⟨r1, fun q => absurd q (by decide), h.up.z _⟩
  · by_cases c : G 10 i = (-1)
    · by_cases d : f_X6_isBanned G i = 0
      · have hb := ix4 a
        have rk := rk_calls h c hb.1 hb.2
        simp only [if_neg a, if_pos c, if_pos d, if_neg n10, if_neg n20, if_neg n30, if_pos z00, if_neg one_ne, if_neg two_ne, if_neg three_ne, ↓reduceIte] at r0 ⊢
        exact ⟨r0, fun _ => v_pri rk i, rk⟩
      · simp only [if_neg a, if_pos c, if_neg d, if_neg n10, if_neg n20, if_neg n30, if_pos z00, if_neg one_ne, if_neg two_ne, if_neg three_ne, ↓reduceIte] at r1 ⊢
        first
          | exact ⟨r1, fun q => absurd q (by decide), h.up.z _⟩
    · simp only [if_neg a, if_neg c, if_neg n10, if_neg n20, if_neg n30, if_pos z00, if_neg one_ne, if_neg two_ne, if_neg three_ne, ↓reduceIte] at r1 ⊢
      first
        | exact ⟨r1, fun q => absurd q (by decide), h.up.z _⟩
theorem rs_calls : RS_calls R9 := fun n G M x1 x2 hn h => by
  unfold HM_calls K_calls H_calls FM_calls F_calls
  rw [h_sh h]
  by_cases b : f_X6_isIndex x1 (nI (gnS G)) = 0
  · simp only [if_pos b]
    exact ⟨rfl, fun q => absurd q (by decide), h.up.z 1⟩
  · obtain ⟨hi, hx⟩ := isx_get (by have := h.ic.s.2.1; omega) b
    simp only [if_neg b]
    exact rt_calls hn h hi
theorem rt_leaves {n : Nat} {G M : GS} (hn : n < 512) (h : R9 n G M) {i p : Nat} (hi : i < gnS G) (hp : p < 4) : (g_X7_leaves M i p) 0 0 = kkm 0 2 1 (x_X6_leaves G i p) ∧ (x_X6_leaves G i p = 0 → f_X7_leaves M i p = f_X6_leaves G i p) ∧ R9 (n + 1) (g_X6_leaves G i p) (g_X7_leaves M i p) := by
  have r0 : (g_X7_leaves_4 M i p) 0 0 = (if f_X7_isShip M (nI i) = 0 then 1 else (if nI p = (-1) then 2 else (if M 13 i = (-1) then 0 else 2))) := rfl
  have r1 : (g_X7_leaves_1 M i p) 0 0 = (if f_X7_isShip M (nI i) = 0 then 1 else (if nI p = (-1) then 2 else (if M 13 i = (-1) then 0 else 2))) := rfl
  have np : ¬ nI p = -1 := nI_m1 (by omega)
  have hv : v_X7_leaves_74 M i p = v_X6_leaves_52 G i p := by
    unfold v_X7_leaves_74 v_X6_leaves_52
    rw [v_pri (show R9 n G (g_X7_leaves_1 M i p) from h.z _), h.q 11]
  unfold g_X7_leaves x_X6_leaves f_X7_leaves f_X6_leaves g_X6_leaves
  simp only [h_s1 h hi, h.q 13, if_neg np, hv, if_neg one_ne, ite_self] at r0 r1 ⊢
  by_cases a : G 13 i = (-1)
  · simp only [if_pos a, if_neg n10, if_neg n20, if_neg n30, if_pos z00, if_neg one_ne, if_neg two_ne, if_neg three_ne, ↓reduceIte] at r0 ⊢
    by_cases c : v_X6_leaves_52 G i p = 0
    · rw [if_pos c]
      exact ⟨r0, fun _ => by first | rfl | trivial, rk_leavesA h (by rw [hv]; exact c)⟩
    · rw [if_neg c]
      exact ⟨r0, fun _ => by first | rfl | trivial, rk_leavesB h (by rw [hv]; exact c)⟩
  · simp only [if_neg a, if_neg n10, if_neg n20, if_neg n30, if_pos z00, if_neg one_ne, if_neg two_ne, if_neg three_ne, ↓reduceIte] at r1 ⊢
    first
      | exact ⟨r1, fun q => absurd q (by decide), h.up.z _⟩
theorem rs_leaves : RS_leaves R9 := fun n G M x1 hn h => by
  unfold HM_leaves K_leaves H_leaves FM_leaves F_leaves
  rw [h_sh h]
  by_cases b : f_X6_isIndex x1 (nI (gnS G)) = 0
  · simp only [if_pos b]
    exact ⟨rfl, fun q => absurd q (by decide), h.up.z 1⟩
  · obtain ⟨hi, hx⟩ := isx_get (by have := h.ic.s.2.1; omega) b
    simp only [if_neg b]
    rw [h.q 10]
    by_cases c : G 10 x1.toNatClampNeg = -1
    · simp only [if_pos c]
      have e : g_X7_leaves_n M x1.toNatClampNeg = up2 M 0 0 2 := by
        unfold g_X7_leaves_n g_X7_leaves_n_1
        rw [h_s1 h hi]
        rfl
      rw [e]
      exact ⟨rfl, fun q => absurd q (by decide), h.up.z 2⟩
    · simp only [if_neg c]
      refine rt_leaves hn h hi ?_
      rcases h.b10 x1.toNatClampNeg with q | ⟨p, p1, p2⟩
      · exact absurd q.1 c
      · rw [p2, nI_clamp (by omega)]; exact p1
