/-! endorsements: the law's year against the reference's walk through the years -/
def mkL : Nat → Int32 → Int32 → Int32
  | 0, a, _ => a
  | f + 1, a, x => if x ≤ 0 then a else mkL f (a + (x &&& 1)) (x >>> (1 &&& 31))
theorem mk_e : ∀ b, b < 4 → ∀ e, e < 16 → ∀ y, y < 5 → 1 ≤ y → mkL 31 0 ((nI (b + 8 * e) ||| ((4 : Int32) <<< ((nI y) &&& 31))) >>> (2 &&& 31)) = f_X7_many (nI (2 * e) ||| ((1 : Int32) <<< ((nI y) &&& 31))) := by decide +kernel
theorem en_b : ∀ b, b < 4 → ∀ e, e < 16 → ∀ y, y < 5 → (((nI (b + 8 * e)) >>> ((nI (2 + y)) &&& 31)) &&& 1 = 0 ↔ f_X7_isIn (nI (2 * e)) (nI y) = 0) := by decide +kernel
theorem isf (x : Int32) {k : Nat} (hk : k < 5) : f_X6_isIn (nI k) x = 0 ↔ (x >>> ((nI k) &&& 31)) &&& 1 = 0 := by
  unfold f_X6_isIn
  rw [if_neg (fun q => by have := (nI_ltI (b := 0) (by omega) (by decide)).mp q; omega)]
  rcases b01 (x >>> ((nI k) &&& 31)) with q | q <;> rw [q] <;> decide
theorem neg_y {t D : Nat} (h : t < D) (hD : D ≤ 9000) : ((nI t - nI D) + 90) / 365 ≤ 0 := by
  have e : ((nI t - nI D) + 90).toInt = (t : Int) - D + 90 := by
    rw [Int32.toInt_add, pk_sub_toInt (by omega) (by omega), show (90 : Int32).toInt = 90 from rfl]
    exact Int.bmod_eq_of_le (by omega) (by omega)
  rw [Int32.le_iff_toInt_le, Int32.toInt_div, e, show (365 : Int32).toInt = 365 from rfl, show (0 : Int32).toInt = 0 from rfl]
  have q : -100 ≤ ((t : Int) - D + 90).tdiv 365 ∧ ((t : Int) - D + 90).tdiv 365 ≤ 0 := by
    rcases Int.lt_or_le ((t : Int) - D + 90) 0 with c | c
    · rw [show (t : Int) - D + 90 = -((D : Int) - t - 90) by omega, Int.neg_tdiv, Int.tdiv_eq_ediv_of_nonneg (by omega)]
      omega
    · rw [Int.tdiv_eq_ediv_of_nonneg c]
      omega
  rw [Int.bmod_eq_of_le (by omega) (by omega)]
  exact q.2
def AG (M : GS) (j a : Nat) : Prop := f_X7_isIn (M 22 j) (nI a) = 0 ∧ ¬ f_X7_in (M 1 0) (((M 19 j) + (nI (365 * a))) - 90) (((M 19 j) + (nI (365 * a))) + 90) = 0
theorem an_st (M : GS) (j m : Nat) : L_X7_anniversary_4_2 M j (m + 1) = if L_X7_anniversary_4_2 M j m = (-1) then (if f_X7_isIn (M 22 j) (nI (m + 1)) = 0 then (if f_X7_in (M 1 0) (((M 19 j) + (nI (365 * (m + 1)))) - 90) (((M 19 j) + (nI (365 * (m + 1)))) + 90) = 0 then L_X7_anniversary_4_2 M j m else nI (m + 1)) else L_X7_anniversary_4_2 M j m) else L_X7_anniversary_4_2 M j m := rfl
theorem an_none {M : GS} {j : Nat} : ∀ m, (∀ a, 1 ≤ a → a ≤ m → ¬ AG M j a) → L_X7_anniversary_4_2 M j m = -1
  | 0, _ => rfl
  | m + 1, h => by
    have ih := an_none m (fun a a1 a2 => h a a1 (by omega))
    rw [an_st, ih, if_pos rfl]
    by_cases c : f_X7_isIn (M 22 j) (nI (m + 1)) = 0
    · rw [if_pos c]
      by_cases c2 : f_X7_in (M 1 0) (((M 19 j) + (nI (365 * (m + 1)))) - 90) (((M 19 j) + (nI (365 * (m + 1)))) + 90) = 0
      · rw [if_pos c2]
      · exact absurd ⟨c, c2⟩ (h (m + 1) (by omega) (by omega))
    · rw [if_neg c]
theorem an_some {M : GS} {j y : Nat} (hy : 1 ≤ y) (hg : AG M j y) (hu : ∀ a, 1 ≤ a → a < y → ¬ AG M j a) (hy9 : y < 100) : ∀ m, y ≤ m → L_X7_anniversary_4_2 M j m = nI y
  | 0, h => by omega
  | m + 1, h => by
    have hn : ¬ nI y = -1 := nI_m1 (by omega)
    by_cases c : y = m + 1
    · have ih := an_none (M := M) (j := j) m (fun a a1 a2 => hu a a1 (by omega))
      rw [an_st, ih, if_pos rfl, ← c, if_pos hg.1, if_neg hg.2]
    · rw [an_st, an_some hy hg hu hy9 m (by omega), if_neg hn]
theorem in_iff {t D a : Nat} (ht : t ≤ 9000) (hD : D ≤ 9000) (a1 : 1 ≤ a) (a5 : a ≤ 9) : (¬ f_X7_in (nI t) ((nI D + nI (365 * a)) - 90) ((nI D + nI (365 * a)) + 90) = 0) ↔ (D + 365 * a ≤ t + 90 ∧ t ≤ D + 365 * a + 90) := by
  have e1 : nI D + nI (365 * a) - 90 = nI (D + 365 * a - 90) := by rw [nI_add]; exact pk_sub (b := 90) (by omega)
  have e2 : nI D + nI (365 * a) + 90 = nI (D + 365 * a + 90) := by rw [nI_add]; exact nI_add _ 90
  rw [e1, e2]
  unfold f_X7_in
  by_cases c : nI t < nI (D + 365 * a - 90)
  · rw [if_pos c]
    have := (nI_ltI (by omega) (by omega)).mp c
    exact ⟨fun q => absurd rfl q, fun q => by omega⟩
  · rw [if_neg c]
    have q1 : ¬ t < D + 365 * a - 90 := fun q => c ((nI_ltI (by omega) (by omega)).mpr q)
    by_cases c2 : nI (D + 365 * a + 90) < nI t
    · rw [if_pos c2]
      have := (nI_ltI (by omega) (by omega)).mp c2
      exact ⟨fun q => absurd rfl q, fun q => by omega⟩
    · rw [if_neg c2]
      have q2 : ¬ D + 365 * a + 90 < t := fun q => c2 ((nI_ltI (by omega) (by omega)).mpr q)
      exact ⟨fun _ => by omega, fun _ => by decide⟩
def EC (M S : GS) (i k D T b e : Nat) : Prop := M 18 (5 * i + k) = 1 ∧ D ≤ 9000 ∧ 1 ≤ T ∧ T ≤ 1825 ∧ b < 4 ∧ e < 16 ∧ M 19 (5 * i + k) = nI D ∧ M 20 (5 * i + k) = nI T ∧ M 22 (5 * i + k) = nI (2 * e) ∧ S 3 ((15 * i) + (3 * k)) = nI D ∧ S 3 ((15 * i) + (3 * k) + 1) = nI T ∧ S 3 ((15 * i) + (3 * k) + 2) = nI (b + 8 * e)
section EN
variable {n : Nat} {G M S : GS} {Wf : Nat → Int64}
theorem en_c (h : R26 n G M S Wf) {i k : Nat} (hi4 : i < 4) (hk : k < 5) (c : ¬ S 3 ((15 * i) + (3 * k)) = (-1)) : ∃ D T b e, EC M S i k D T b e := by
  have q0 : 3 * (5 * i + k) = (15 * i) + (3 * k) := by omega
  have hc := h.c (5 * i + k) (by omega)
  rw [q0] at hc
  rcases hc with ⟨-, q⟩ | ⟨D, T, b, e, a1, a2, a3, a4, a5, a6, a7, a8, -, aa, ab, ac, ad⟩
  · exact absurd q c
  · exact ⟨D, T, b, e, a1, a2, a3, a4, a5, a6, a7, a8, aa, ab, ac, ad⟩
theorem ec_g {i k D T b e : Nat} (q : EC M S i k D T b e) : gnT M (5 * i + k) = T := by
  unfold gnT
  rw [q.2.2.2.2.2.2.2.1, nI_clamp (by have := q.2.2.2.1; omega)]
theorem ec_ag {i k D T b e t a : Nat} (q : EC M S i k D T b e) (ht : M 1 0 = nI t) (ht9 : t ≤ 9000) (a1 : 1 ≤ a) (a5 : a ≤ 9) : AG M (5 * i + k) a ↔ (f_X7_isIn (nI (2 * e)) (nI a) = 0 ∧ D + 365 * a ≤ t + 90 ∧ t ≤ D + 365 * a + 90) := by
  obtain ⟨-, hD, -, -, -, -, m19, -, m22, -⟩ := q
  unfold AG
  rw [m22, ht, m19, in_iff ht9 hD a1 a5]
theorem en_lap (h : R26 n G M S Wf) {i k : Nat} (hi4 : i < 4) (hk : k < 5) : ((f_L_lapsed S i) >>> ((nI k) &&& 31)) &&& 1 = 0 ↔ f_X6_isIn (nI k) (f_X7_lapsedOf M i) = 0 := by
  rw [vl_lap h hi4]
  exact (isf _ hk).symm
theorem en_no0 (h : R26 n G M S Wf) {i k : Nat} (hi : i < gnS M) (hk : k < 5) (c : ¬ ((f_L_lapsed S i) >>> ((nI k) &&& 31)) &&& 1 = 0) : A_endorse G (nI i) (nI k) = (-7300) ∧ H_endorse G (nI i) (nI k) = G := by
  have hi4 : i < 4 := by have := h.b.1; omega
  exact sp_endorse_no h.r (gS9 h hi) hk (Or.inl (fun q => c ((en_lap h hi4 hk).mpr q)))
theorem en_no1 (h : R26 n G M S Wf) {i k : Nat} (hi : i < gnS M) (hk : k < 5) (c : S 3 ((15 * i) + (3 * k)) = (-1)) : A_endorse G (nI i) (nI k) = (-7300) ∧ H_endorse G (nI i) (nI k) = G := by
  have hi4 : i < 4 := by have := h.b.1; omega
  refine sp_endorse_no h.r (gS9 h hi) hk (Or.inl (fun q => ?_))
  rw [v_fam h.r] at q
  refine fam_18 h.r hk ?_ q
  have hc := h.c (5 * i + k) (by omega)
  rw [show 3 * (5 * i + k) = (15 * i) + (3 * k) by omega] at hc
  rcases hc with ⟨q1, -⟩ | ⟨D, T, b, e, a1, a2, a3, a4, a5, a6, a7, a8, -, aa, ab, ac, ad⟩
  · rw [← h.r.q 18]; exact q1
  · rw [ab] at c
    exact absurd c (nI_m1 (by omega))
theorem en_no2 (h : R26 n G M S Wf) {i k D T b e t : Nat} (hi : i < gnS M) (hk : k < 5) (q : EC M S i k D T b e) (ht : M 1 0 = nI t) (ht9 : t ≤ 9000) (c : ∀ a, 1 ≤ a → 365 * a < T → f_X7_isIn (nI (2 * e)) (nI a) = 0 → D + 365 * a ≤ t + 90 → t ≤ D + 365 * a + 90 → False) : A_endorse G (nI i) (nI k) = (-7300) ∧ H_endorse G (nI i) (nI k) = G := by
  refine sp_endorse_no h.r (gS9 h hi) hk (Or.inr ?_)
  have hT := q.2.2.2.1
  unfold f_X7_anniversary
  rw [ec_g q]
  refine an_none _ (fun a a1 a2 ag => ?_)
  have h9 := (ec_ag q ht ht9 a1 (by omega)).mp ag
  exact c a a1 (by omega) h9.1 h9.2.1 h9.2.2
theorem en_ok (h : R26 n G M S Wf) {i k D T b e t y : Nat} (hi : i < gnS M) (hk : k < 5) (q : EC M S i k D T b e) (ht : M 1 0 = nI t) (ht9 : t ≤ 9000) (hDt : D ≤ t) (ey : y = (t - D + 90) / 365) (cl : ((f_L_lapsed S i) >>> ((nI k) &&& 31)) &&& 1 = 0) (y1 : 1 ≤ y) (yT : 365 * y < T) (yr : t - D ≤ 365 * y + 90) (cb : ((S 3 ((15 * i) + (3 * k) + 2)) >>> ((nI (2 + y)) &&& 31)) &&& 1 = 0) : A_endorse G (nI i) (nI k) = mkL 31 0 (((S 3 ((15 * i) + (3 * k) + 2)) ||| ((4 : Int32) <<< ((nI y) &&& 31))) >>> (2 &&& 31)) ∧ R26 n (H_endorse G (nI i) (nI k)) (g_X7_endorse_3 M i k) (up2 S 3 ((15 * i) + (3 * k) + 2) ((S 3 ((15 * i) + (3 * k) + 2)) ||| ((4 : Int32) <<< ((nI y) &&& 31)))) Wf := by
  have hi4 : i < 4 := by have := h.b.1; omega
  have hT := q.2.2.2.1
  have hb := q.2.2.2.2.1
  have he := q.2.2.2.2.2.1
  have e22 := q.2.2.2.2.2.2.2.2.1
  have e2 := q.2.2.2.2.2.2.2.2.2.2.2
  have y4 : y < 5 := by omega
  have ag : AG M (5 * i + k) y := (ec_ag q ht ht9 y1 (by omega)).mpr ⟨(en_b b hb e he y y4).mp (by rw [← e2]; exact cb), by omega, by omega⟩
  have an : f_X7_anniversary M (5 * i + k) = nI (y - 1 + 1) := by
    unfold f_X7_anniversary
    rw [ec_g q, show y - 1 + 1 = y by omega]
    refine an_some y1 ag (fun a a1 a2 ag2 => ?_) (by omega) _ (by omega)
    have h9 := (ec_ag q ht ht9 a1 (by omega)).mp ag2
    omega
  obtain ⟨a, r, an2⟩ := sp_endorse_ok h.r (gS9 h hi) hk ((en_lap h hi4 hk).mp cl) (by omega) an
  rw [show y - 1 + 1 = y by omega] at a an2
  refine ⟨?_, st_endorse h hi4 hk y1 (by omega) (by rw [q.1]; decide) an2 rfl (h.r.keep r (H_en3 _ _ _ (by decide)) (H_en3 _ _ _ (by decide)))⟩
  rw [a, e22, e2]
  exact (mk_e b hb e he y y4 y1).symm
theorem en_no3 (h : R26 n G M S Wf) {i k D T b e t y : Nat} (hi : i < gnS M) (hk : k < 5) (q : EC M S i k D T b e) (ht : M 1 0 = nI t) (ht9 : t ≤ 9000) (hDt : D ≤ t) (ey : y = ((t - D) + 90) / 365) (c : nI y ≤ 0 ∨ nI T ≤ nI (365 * y) ∨ nI ((365 * y) + 90) < nI (t - D) ∨ (¬ nI T ≤ nI (365 * y) ∧ ¬ ((S 3 ((15 * i) + (3 * k) + 2)) >>> ((nI (2 + y)) &&& 31)) &&& 1 = 0)) : A_endorse G (nI i) (nI k) = (-7300) ∧ H_endorse G (nI i) (nI k) = G := by
  have hT := q.2.2.2.1
  refine en_no2 h hi hk q ht ht9 (fun a a1 aT g g1 g2 => ?_)
  have ya : y = a := by omega
  rcases c with c | c | c | c
  · have := (nI_leI (b := 0) (by omega) (by decide)).mp c
    omega
  · have := (nI_leI (by omega) (by omega)).mp c
    omega
  · have := (nI_ltI (by omega) (by omega)).mp c
    omega
  · refine c.2 ?_
    rw [q.2.2.2.2.2.2.2.2.2.2.2]
    refine (en_b b q.2.2.2.2.1 e q.2.2.2.2.2.1 y (by omega)).mpr ?_
    rw [ya]
    exact g
theorem en_no4 (h : R26 n G M S Wf) {i k D T b e t : Nat} (hi : i < gnS M) (hk : k < 5) (q : EC M S i k D T b e) (ht : M 1 0 = nI t) (ht9 : t ≤ 9000) (hDt : t < D) : A_endorse G (nI i) (nI k) = (-7300) ∧ H_endorse G (nI i) (nI k) = G :=
  en_no2 h hi hk q ht ht9 (fun a a1 aT g g1 g2 => by omega)
theorem en_ok9 (h : R26 n G M S Wf) {i k D T b e t y : Nat} (hi : i < gnS M) (hk : k < 5) (q : EC M S i k D T b e) (ht : M 1 0 = nI t) (ht9 : t ≤ 9000) (hDt : D ≤ t) (ey : y = ((t - D) + 90) / 365) (cl : ((f_L_lapsed S i) >>> ((nI k) &&& 31)) &&& 1 = 0) (y1 : ¬ nI y ≤ 0) (yT : ¬ nI T ≤ nI (365 * y)) (yr : ¬ nI ((365 * y) + 90) < nI (t - D)) (cb : ((S 3 ((15 * i) + (3 * k) + 2)) >>> ((nI (2 + y)) &&& 31)) &&& 1 = 0) : A_endorse G (nI i) (nI k) = mkL 31 0 (((S 3 ((15 * i) + (3 * k) + 2)) ||| ((4 : Int32) <<< ((nI y) &&& 31))) >>> (2 &&& 31)) ∧ R26 n (H_endorse G (nI i) (nI k)) (g_X7_endorse_3 M i k) (up2 S 3 ((15 * i) + (3 * k) + 2) ((S 3 ((15 * i) + (3 * k) + 2)) ||| ((4 : Int32) <<< ((nI y) &&& 31)))) Wf := by
  have hT := q.2.2.2.1
  refine en_ok h hi hk q ht ht9 hDt ey cl ?_ ?_ ?_ cb
  · exact Nat.pos_of_ne_zero (fun z => y1 (by rw [z]; decide))
  · exact Nat.lt_of_not_le (fun z => yT (nI_le z (by omega)))
  · exact Nat.le_of_not_lt (fun z => yr (nI_lt z (by omega)))
theorem en_or0 (S : GS) (k r : Nat) : up2 S k r ((S k r) ||| 0) = S := by
  rw [Int32.or_zero, up2_id]
end EN
