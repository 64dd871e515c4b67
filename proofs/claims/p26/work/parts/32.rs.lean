theorem n10 : ¬ (1 : Int32) ≤ 0 := by decide
theorem n20 : ¬ (2 : Int32) ≤ 0 := by decide
theorem n30 : ¬ (3 : Int32) ≤ 0 := by decide
theorem z00 : (0 : Int32) ≤ 0 := by decide
theorem one_ne : ¬ (1 : Int32) = 0 := by decide
theorem two_ne : ¬ (2 : Int32) = 0 := by decide
theorem three_ne : ¬ (3 : Int32) = 0 := by decide
theorem in3 (x : Int32) : f_X7_in x 0 3 = f_X6_isIndex x 4 := isx_xin x (n := 4) (by decide)
theorem in4 (x : Int32) : f_X7_in x 0 4 = f_X6_isIndex x 5 := isx_xin x (n := 5) (by decide)
theorem in5 (x : Int32) : f_X7_in x 0 5 = f_X6_isIndex x 6 := isx_xin x (n := 6) (by decide)
theorem in6 (x : Int32) : f_X7_in x 0 6 = f_X6_isIndex x 7 := isx_xin x (n := 7) (by decide)
theorem in7 (x : Int32) : f_X7_in x 0 7 = f_X6_isIndex x 8 := isx_xin x (n := 8) (by decide)
theorem in9 (x : Int32) : f_X7_in x 0 9 = f_X6_isIndex x 10 := isx_xin x (n := 10) (by decide)
theorem h_sh {n : Nat} {G M : GS} (h : R9 n G M) (x : Int32) : f_X7_isShip M x = f_X6_isIndex x (nI (gnS G)) := by
  unfold f_X7_isShip
  rw [h.q 3, h.ic.s.1]
  exact isx_xin x (by have := h.ic.s.2.1; omega)
theorem h_vi {n : Nat} {G M : GS} (h : R9 n G M) (x : Int32) : f_X7_isVisit M x = f_X6_isIndex x (nI (gnV G)) := by
  unfold f_X7_isVisit
  rw [h.q 29, h.ic.v.1]
  exact isx_xin x (by have := h.ic.v.2.1; omega)
theorem h_s1 {n : Nat} {G M : GS} (h : R9 n G M) {i : Nat} (hi : i < gnS G) : f_X7_isShip M (nI i) = 1 := by
  rw [h_sh h]
  exact isx_one hi (by have := h.ic.s.2.1; omega)
theorem h_v1 {n : Nat} {G M : GS} (h : R9 n G M) {i : Nat} (hi : i < gnV G) : f_X7_isVisit M (nI i) = 1 := by
  rw [h_vi h]
  exact isx_one hi (by have := h.ic.v.2.1; omega)
theorem lt1 {x : Int32} (h : ¬ x < 1) : ¬ x < 0 := fun q => by
  have e0 : (0 : Int32).toInt = 0 := by decide
  have e1 : (1 : Int32).toInt = 1 := by decide
  have q1 := Int32.lt_iff_toInt_lt.mp q
  exact h (Int32.lt_iff_toInt_lt.mpr (by omega))
theorem ix4 {x : Int32} (h : ¬ f_X6_isIndex x 4 = 0) : x.toNatClampNeg < 4 ∧ x = nI x.toNatClampNeg := isx_get (n := 4) (by decide) h
theorem rs_pass : RS_pass R9 := fun n G M x1 hn h => by
  have r0 : (g_X7_pass_2 M x1) 0 0 = (if f_X7_in x1 1 500 = 0 then 1 else (if M 1 0 + x1 ≤ 9000 then 0 else 2)) := rfl
  unfold HM_pass K_pass FM_pass F_pass H_pass g_X7_pass x_X6_pass f_X7_pass f_X6_pass g_X6_pass g_X7_pass_1
  simp only [h.q 1] at r0 ⊢
  unfold f_X7_in at r0 ⊢
  by_cases a : x1 < 1
  · simp only [if_pos a, if_neg n10, if_neg n20, if_neg n30, if_pos z00, if_neg one_ne, if_neg two_ne, if_neg three_ne, ↓reduceIte]
    exact ⟨rfl, fun q => absurd q (by decide), h.up.z _⟩
  · by_cases b : x1 ≤ 500
    · have b' : ¬ 500 < x1 := Int32.not_lt.mpr b
      by_cases c : G 1 0 + x1 ≤ 9000
      · obtain ⟨t, t1, t2⟩ := h.b1
        obtain ⟨k, k1, k2⟩ := nI_of2 (M := 500) (n := 500) (by decide) (lt1 a) b
        have hb : ∃ t, t ≤ 9000 ∧ G 1 0 + x1 = nI t := ⟨t + k, by rw [t2, k2, nI_add] at c; exact (nI_leI (by omega) (by decide)).mp c, by rw [t2, k2, nI_add]⟩
        simp only [if_neg a, if_pos b, if_neg b', if_pos c, if_neg n10, if_neg n20, if_neg n30, if_pos z00, if_neg one_ne, if_neg two_ne, if_neg three_ne, ↓reduceIte] at r0 ⊢
        exact ⟨r0, fun _ => by first | rfl | trivial, rk_pass h hb⟩
      · simp only [if_neg a, if_pos b, if_neg b', if_neg c, if_neg n10, if_neg n20, if_neg n30, if_pos z00, if_neg one_ne, if_neg two_ne, if_neg three_ne, ↓reduceIte]
        exact ⟨rfl, fun q => absurd q (by decide), h.up.z _⟩
    · have b' : 500 < x1 := Int32.not_le.mp b
      simp only [if_neg a, if_neg b, if_pos b', if_neg n10, if_neg n20, if_neg n30, if_pos z00, if_neg one_ne, if_neg two_ne, if_neg three_ne, ↓reduceIte]
      exact ⟨rfl, fun q => absurd q (by decide), h.up.z _⟩
theorem rs_list : RS_list R9 := fun n G M x1 hn h => by
  unfold HM_list K_list FM_list F_list H_list g_X7_list x_X6_list f_X7_list f_X6_list g_X6_list
  rw [v_lis (show R9 n G (g_X7_list_1 M x1) from h.z _)]
  unfold g_X7_list_1 f_X7_isFlag
  rw [in5]
  by_cases a : f_X6_isIndex x1 6 = 0
  · simp only [if_pos a, if_neg n10, if_neg n20, if_neg n30, if_pos z00, if_neg one_ne, if_neg two_ne, if_neg three_ne, ↓reduceIte]
    exact ⟨rfl, fun q => absurd q (by decide), h.up.z _⟩
  · simp only [if_neg a, if_neg n10, if_neg n20, if_neg n30, if_pos z00, if_neg one_ne, if_neg two_ne, if_neg three_ne, ↓reduceIte]
    exact ⟨rfl, fun _ => by first | rfl | trivial, h.up.z _⟩
theorem rs_missed : RS_missed R9 := fun n G M x1 hn h => by
  unfold HM_missed K_missed FM_missed F_missed H_missed
  by_cases b : f_X6_isIndex x1 4 = 0
  · have b2 : f_X7_isPort x1 = 0 := by unfold f_X7_isPort; rw [in3]; exact b
    simp only [if_pos b, if_pos b2]
    exact ⟨rfl, fun q => absurd q (by decide), h.up.z 1⟩
  · have b2 : ¬ f_X7_isPort x1 = 0 := by unfold f_X7_isPort; rw [in3]; exact b
    obtain ⟨hi, hx⟩ := ix4 b
    simp only [if_neg b, if_neg b2]
    unfold g_X7_missed x_X6_missed f_X7_missed f_X6_missed g_X6_missed g_X7_missed_1
    rw [← hx]
    simp only [if_neg b2, h.q 43, if_neg n10, if_neg n20, if_neg n30, if_pos z00, if_neg one_ne, if_neg two_ne, if_neg three_ne, ↓reduceIte]
    exact ⟨rfl, fun _ => by first | rfl | trivial, h.up.z _⟩
theorem rs_suspend : RS_suspend R9 := fun n G M x1 x2 hn h hx2 => by
  unfold HM_suspend K_suspend FM_suspend F_suspend H_suspend
  by_cases b : f_X6_isIndex x1 4 = 0
  · have b2 : f_X7_isBody x1 = 0 := by unfold f_X7_isBody; rw [in3]; exact b
    simp only [if_pos b, if_pos b2]
    exact ⟨rfl, fun q => absurd q (by decide), h.up.z 1⟩
  · have b2 : ¬ f_X7_isBody x1 = 0 := by unfold f_X7_isBody; rw [in3]; exact b
    obtain ⟨hi, hx⟩ := ix4 b
    have r0 : (g_X7_suspend_2 M x1.toNatClampNeg x2) 0 0 = (if f_X7_isBody (nI x1.toNatClampNeg) = 0 then 1 else 0) := rfl
    have rk : R9 (n + 1) (g_X6_suspend_1 G x1.toNatClampNeg x2) (g_X7_suspend_2 M x1.toNatClampNeg x2) := rk_suspend h (by rcases hx2 with e | e <;> rw [e]; exact nz0; exact nz1)
    simp only [if_neg b, if_neg b2]
    unfold g_X7_suspend x_X6_suspend f_X7_suspend f_X6_suspend g_X6_suspend
    rw [← hx] at r0 ⊢
    simp only [if_neg b2, h.q 2, if_neg n10, if_neg n20, if_neg n30, if_pos z00, if_neg one_ne, if_neg two_ne, if_neg three_ne, ↓reduceIte] at r0 ⊢
    exact ⟨r0, fun _ => by first | rfl | trivial, rk⟩
theorem rt_pointsAnew {n : Nat} {G M : GS} (hn : n < 512) (h : R9 n G M) {i : Nat} (hi : i < gnS G) : (g_X7_pointsAnew M i) 0 0 = kkm 0 0 1 (x_X6_pointsAnew G i) ∧ (x_X6_pointsAnew G i = 0 → f_X7_pointsAnew M i = f_X6_pointsAnew G i) ∧ R9 (n + 1) (g_X6_pointsAnew G i) (g_X7_pointsAnew M i) := by
  unfold g_X7_pointsAnew x_X6_pointsAnew f_X7_pointsAnew f_X6_pointsAnew g_X6_pointsAnew
  rw [v_pts (show R9 n G (g_X7_pointsAnew_1 M i) from h.z _), v_file h hi]
  unfold g_X7_pointsAnew_1
  simp only [h_s1 h hi, if_neg n10, if_neg n20, if_neg n30, if_pos z00, if_neg one_ne, if_neg two_ne, if_neg three_ne, ↓reduceIte]
  exact ⟨rfl, fun _ => by first | rfl | trivial, h.up.z _⟩
theorem rs_pointsAnew : RS_pointsAnew R9 := fun n G M x1 hn h => by
  unfold HM_pointsAnew K_pointsAnew H_pointsAnew FM_pointsAnew F_pointsAnew
  rw [h_sh h]
  by_cases b : f_X6_isIndex x1 (nI (gnS G)) = 0
  · simp only [if_pos b]
    exact ⟨rfl, fun q => absurd q (by decide), h.up.z 1⟩
  · obtain ⟨hi, hx⟩ := isx_get (by have := h.ic.s.2.1; omega) b
    simp only [if_neg b]
    exact rt_pointsAnew hn h hi
theorem gd01 (G : GS) (s : Nat) (x : Int32) : f_X6_isGroundToday G s x = 0 ∨ f_X6_isGroundToday G s x = 1 := by
  unfold f_X6_isGroundToday
  have a : ∀ d k, E_X6_isGroundToday_2 G s x d k = 0 ∨ E_X6_isGroundToday_2 G s x d k = 1 := fun d => by
    induction d with
    | zero => intro k; exact Or.inl rfl
    | succ d ih =>
      intro k
      show (if G 24 k = x then (if f_X3_isInForce G k s (G 1 0) = 0 then (E_X6_isGroundToday_2 G s x d (k + 1)) else 1) else (E_X6_isGroundToday_2 G s x d (k + 1))) = 0 ∨ (if G 24 k = x then (if f_X3_isInForce G k s (G 1 0) = 0 then (E_X6_isGroundToday_2 G s x d (k + 1)) else 1) else (E_X6_isGroundToday_2 G s x d (k + 1))) = 1
      split
      · split
        · exact ih _
        · exact Or.inr rfl
      · exact ih _
  exact a _ _
theorem rt_isGround {n : Nat} {G M : GS} (hn : n < 512) (h : R9 n G M) {i : Nat} {x2 : Int32} (hi : i < gnS G) : (g_X7_isGround M i x2) 0 0 = kkm 2 0 1 (x_X6_isGround G i x2) ∧ (x_X6_isGround G i x2 = 0 → f_X7_isGround M i x2 = f_X6_isGround G i x2) ∧ R9 (n + 1) (g_X6_isGround G i x2) (g_X7_isGround M i x2) := by
  unfold g_X7_isGround x_X6_isGround f_X7_isGround f_X6_isGround g_X6_isGround
  rw [v_gnd (show R9 n G (g_X7_isGround_1 M i x2) from h.z _)]
  unfold g_X7_isGround_1
  simp only [h_s1 h hi, in9, if_neg n10, if_neg n20, if_neg n30, if_pos z00, if_neg one_ne, if_neg two_ne, if_neg three_ne, ↓reduceIte]
  by_cases a : f_X6_isIndex x2 10 = 0
  · simp only [if_pos a, if_neg n10, if_neg n20, if_neg n30, if_pos z00, if_neg one_ne, if_neg two_ne, if_neg three_ne, ↓reduceIte]
    exact ⟨rfl, fun q => absurd q (by decide), h.up.z _⟩
  · have g01 : (if f_X6_isGroundToday G i x2 = 0 then (0 : Int32) else 1) = f_X6_isGroundToday G i x2 := by
      rcases gd01 G i x2 with e | e <;> rw [e] <;> rfl
    simp only [if_neg a, if_neg n10, if_neg n20, if_neg n30, if_pos z00, if_neg one_ne, if_neg two_ne, if_neg three_ne, ↓reduceIte]
    exact ⟨rfl, fun _ => g01, h.up.z _⟩
theorem rs_isGround : RS_isGround R9 := fun n G M x1 x2 hn h => by
  unfold HM_isGround K_isGround H_isGround FM_isGround F_isGround
  rw [h_sh h]
  by_cases b : f_X6_isIndex x1 (nI (gnS G)) = 0
  · simp only [if_pos b]
    exact ⟨rfl, fun q => absurd q (by decide), h.up.z 1⟩
  · obtain ⟨hi, hx⟩ := isx_get (by have := h.ic.s.2.1; omega) b
    simp only [if_neg b]
    exact rt_isGround hn h hi
theorem rt_ofVisit {n : Nat} {G M : GS} (hn : n < 512) (h : R9 n G M) {i : Nat} {x2 : Int32} (hi : i < gnV G) : (g_X7_ofVisit M i x2) 0 0 = kkm 2 0 1 (x_X6_ofVisit G i x2) ∧ (x_X6_ofVisit G i x2 = 0 → f_X7_ofVisit M i x2 = f_X6_ofVisit G i x2) ∧ R9 (n + 1) (g_X6_ofVisit G i x2) (g_X7_ofVisit M i x2) := by
  unfold g_X7_ofVisit x_X6_ofVisit f_X7_ofVisit f_X6_ofVisit g_X6_ofVisit
  rw [v_opf (show R9 n G (g_X7_ofVisit_1 M i x2) from h.z _), v_cnt (show R9 n G (g_X7_ofVisit_1 M i x2) from h.z _)]
  unfold g_X7_ofVisit_1
  simp only [h_v1 h hi, in6, h.q 30, h.q 31, h.q 32, h.q 33, h.q 35, (h.ic.so hi).1, (h.ic.f hi).1, ite_self, if_neg n10, if_neg n20, if_neg n30, if_pos z00, if_neg one_ne, if_neg two_ne, if_neg three_ne, ↓reduceIte]
  by_cases a : f_X6_isIndex x2 7 = 0
  · simp only [if_pos a, if_neg n10, if_neg n20, if_neg n30, if_pos z00, if_neg one_ne, if_neg two_ne, if_neg three_ne, ↓reduceIte]
    exact ⟨rfl, fun q => absurd q (by decide), h.up.z _⟩
  · simp only [if_neg a, if_neg n10, if_neg n20, if_neg n30, if_pos z00, if_neg one_ne, if_neg two_ne, if_neg three_ne, ↓reduceIte]
    exact ⟨rfl, fun _ => by first | rfl | trivial, h.up.z _⟩
theorem rs_ofVisit : RS_ofVisit R9 := fun n G M x1 x2 hn h => by
  unfold HM_ofVisit K_ofVisit H_ofVisit FM_ofVisit F_ofVisit
  rw [h_vi h]
  by_cases b : f_X6_isIndex x1 (nI (gnV G)) = 0
  · simp only [if_pos b]
    exact ⟨rfl, fun q => absurd q (by decide), h.up.z 1⟩
  · obtain ⟨hi, hx⟩ := isx_get (by have := h.ic.v.2.1; omega) b
    simp only [if_neg b]
    exact rt_ofVisit hn h hi
theorem rt_ofShip {n : Nat} {G M : GS} (hn : n < 512) (h : R9 n G M) {i : Nat} {x2 : Int32} (hi : i < gnS G) : (g_X7_ofShip M i x2) 0 0 = kkm 2 0 1 (x_X6_ofShip G i x2) ∧ (x_X6_ofShip G i x2 = 0 → f_X7_ofShip M i x2 = f_X6_ofShip G i x2) ∧ R9 (n + 1) (g_X6_ofShip G i x2) (g_X7_ofShip M i x2) := by
  unfold g_X7_ofShip x_X6_ofShip f_X7_ofShip f_X6_ofShip g_X6_ofShip
  rw [v_pts (show R9 n G (g_X7_ofShip_1 M i x2) from h.z _), v_rsk (show R9 n G (g_X7_ofShip_1 M i x2) from h.z _), v_pri (show R9 n G (g_X7_ofShip_1 M i x2) from h.z _), v_ban (show R9 n G (g_X7_ofShip_1 M i x2) from h.z _), v_fam (show R9 n G (g_X7_ofShip_1 M i x2) from h.z _)]
  unfold g_X7_ofShip_1
  simp only [h_s1 h hi, in7, h.q 10, h.q 13, h.q 17, ite_self, if_neg n10, if_neg n20, if_neg n30, if_pos z00, if_neg one_ne, if_neg two_ne, if_neg three_ne, ↓reduceIte]
  by_cases a : f_X6_isIndex x2 8 = 0
  · simp only [if_pos a, if_neg n10, if_neg n20, if_neg n30, if_pos z00, if_neg one_ne, if_neg two_ne, if_neg three_ne, ↓reduceIte]
    exact ⟨rfl, fun q => absurd q (by decide), h.up.z _⟩
  · simp only [if_neg a, if_neg n10, if_neg n20, if_neg n30, if_pos z00, if_neg one_ne, if_neg two_ne, if_neg three_ne, ↓reduceIte]
    exact ⟨rfl, fun _ => by first | rfl | trivial, h.up.z _⟩
theorem rs_ofShip : RS_ofShip R9 := fun n G M x1 x2 hn h => by
  unfold HM_ofShip K_ofShip H_ofShip FM_ofShip F_ofShip
  rw [h_sh h]
  by_cases b : f_X6_isIndex x1 (nI (gnS G)) = 0
  · simp only [if_pos b]
    exact ⟨rfl, fun q => absurd q (by decide), h.up.z 1⟩
  · obtain ⟨hi, hx⟩ := isx_get (by have := h.ic.s.2.1; omega) b
    simp only [if_neg b]
    exact rt_ofShip hn h hi
theorem rs_knew : RS_knew R9 := fun n G M x1 x2 x3 hn h => by
  unfold HM_knew K_knew H_knew FM_knew F_knew
  rw [h_sh h]
  by_cases b : f_X6_isIndex x1 (nI (gnS G)) = 0
  · simp only [if_pos b]
    exact ⟨rfl, fun q => absurd q (by decide), h.up.z 1⟩
  · obtain ⟨hi, hx⟩ := isx_get (by have := h.ic.s.2.1; omega) b
    simp only [if_neg b]
    rw [← hx]
    unfold x_X6_knew f_X6_knew g_X6_knew g_X7_knew g_X7_knew_t f_X7_knew_t g_X7_knew_1 g_X7_knew_t_1 f_X7_isPort
    rw [← hx, h_sh h, in3, v_knew h]
    simp only [h.q 1, ite_self, if_neg b]
    unfold f_X7_in
    by_cases a : f_X6_isIndex x2 4 = 0
    · simp only [not_true, not_false_iff, if_pos a, if_neg n10, if_neg n20, if_neg n30, if_pos z00, if_neg one_ne, if_neg two_ne, if_neg three_ne, ↓reduceIte]
      exact ⟨rfl, fun q => absurd q (by decide), h.up.z _⟩
    · by_cases c : x3 < 0
      · simp only [not_true, not_false_iff, if_neg a, if_pos c, if_neg n10, if_neg n20, if_neg n30, if_pos z00, if_neg one_ne, if_neg two_ne, if_neg three_ne, ↓reduceIte]
        exact ⟨rfl, fun q => absurd q (by decide), h.up.z _⟩
      · by_cases d : x3 ≤ G 1 0
        · have d' : ¬ G 1 0 < x3 := Int32.not_lt.mpr d
          simp only [not_true, not_false_iff, if_neg a, if_neg c, if_pos d, if_neg d', not_true, not_false_iff, if_neg n10, if_neg n20, if_neg n30, if_pos z00, if_neg one_ne, if_neg two_ne, if_neg three_ne, ↓reduceIte]
          exact ⟨rfl, fun _ => by first | rfl | trivial, h.up.z _⟩
        · have d' : G 1 0 < x3 := Int32.not_le.mp d
          simp only [not_true, not_false_iff, if_neg a, if_neg c, if_neg d, if_pos d', if_neg n10, if_neg n20, if_neg n30, if_pos z00, if_neg one_ne, if_neg two_ne, if_neg three_ne, ↓reduceIte]
          exact ⟨rfl, fun q => absurd q (by decide), h.up.z _⟩
