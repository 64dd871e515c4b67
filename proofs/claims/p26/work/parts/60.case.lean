/-! the law's cases at the level of R26: what each call answers and leaves -/
theorem b01 (x : Int32) : x &&& 1 = 0 ∨ x &&& 1 = 1 := by
  have e := pk_and x (m := 1) 1 rfl
  have h : x.toBitVec.toNat % 2 ^ 1 = 0 ∨ x.toBitVec.toNat % 2 ^ 1 = 1 := by omega
  rcases h with q | q <;> rw [q] at e
  · exact Or.inl e
  · exact Or.inr e
section CS
variable {n : Nat} {G M S : GS} {Wf : Nat → Int64}
theorem cl_ok (h : R26 n G M S Wf) {i p : Nat} (hi : i < gnS M) (hp : p < 4) (c1 : S 2 ((14 * i) + 6) = (-1)) (c2 : ¬ S 10 0 ≤ S 2 ((14 * i) + 12)) : A_calls G (nI i) (nI p) = f_L_priority S i ∧ R26 (n + 1) (H_calls G (nI i) (nI p)) (g_X7_calls_3 M i (nI p)) (up2 (up2 S 2 ((14 * i) + 6) (nI p)) 2 ((14 * i) + 7) (-1)) Wf := by
  rw [h.x6 hi] at c1
  obtain ⟨a, b⟩ := sp_calls_ok h.r (gS9 h hi) hp c1 ((ban_e h hi).mp (Int32.not_le.mp c2))
  exact ⟨by rw [a, vl_pri h hi, cg_pri (fun k hk => e_g_X7_calls_3 _ _ _ (by revert hk; revert k; decide))], st_calls h b⟩
theorem cl_no (h : R26 n G M S Wf) {i p : Nat} (hi : i < gnS M) (hp : p < 4) (c9 : ¬ S 2 ((14 * i) + 6) = (-1) ∨ S 10 0 ≤ S 2 ((14 * i) + 12)) : A_calls G (nI i) (nI p) = (-7300) ∧ H_calls G (nI i) (nI p) = G := by
  refine sp_calls_no h.r (gS9 h hi) hp (fun q => ?_)
  rcases c9 with c | c
  · exact c ((h.x6 hi).trans q.1)
  · exact absurd ((ban_e h hi).mpr q.2) (Int32.not_lt.mpr c)
theorem ch_ok (h : R26 n G M S Wf) (hn : n < 512) {i f b : Nat} (hi : i < gnS M) (hf : f < 3) (hb : b < 4) : A_changes G (nI i) (nI f) (nI b) = (S 2 ((14 * i) + 5)) + 1 ∧ R26 (n + 1) (H_changes G (nI i) (nI f) (nI b)) (g_X7_changes_4 M i (nI f) (nI b)) (up2 (up2 (up2 S 2 ((14 * i) + 3) (nI f)) 2 ((14 * i) + 4) (nI b)) 2 ((14 * i) + 5) ((S 2 ((14 * i) + 5)) + 1)) Wf := by
  have hi4 : i < 4 := by have := h.b.1; omega
  obtain ⟨a, b⟩ := sp_changes h.r hn (gS9 h hi) (f := f) (by omega) hb
  exact ⟨by rw [a, h.x5 hi4], st_changes h hi4 hf (by rw [h.x5 hi4]) b⟩
theorem su_a (h : R26 n G M S Wf) {i : Nat} {x : Int32} (hi : i < 4) (hx : x = 0 ∨ x = 1) : A_suspend G (nI i) x = ((S 10 7) >>> ((nI i) &&& 31)) &&& 1 := by
  rw [(sp_suspend h.r hi hx).1, h.su.at hi]
  rcases bit01 h.su hi with q | q <;> rw [q] <;> rfl
theorem su_0 (h : R26 n G M S Wf) {i : Nat} (hi : i < 4) : R26 (n + 1) (H_suspend G (nI i) 0) (g_X7_suspend_2 M i 0) (up2 S 10 7 ((S 10 7) &&& (((1 : Int32) <<< ((nI i) &&& 31)) ^^^ (-1)))) Wf := st_suspend h hi (Or.inl rfl) rfl (sp_suspend h.r hi (Or.inl rfl)).2
theorem su_1 (h : R26 n G M S Wf) {i : Nat} (hi : i < 4) : R26 (n + 1) (H_suspend G (nI i) 1) (g_X7_suspend_2 M i 1) (up2 S 10 7 ((S 10 7) ||| ((1 : Int32) <<< ((nI i) &&& 31)))) Wf := st_suspend h hi (Or.inr rfl) rfl (sp_suspend h.r hi (Or.inr rfl)).2
theorem ru_lt (h : R26 n G M S Wf) (c : ¬ S 10 1 = 10) : gnR M < 10 := by
  have := h.b.2.1
  exact Nat.lt_of_le_of_ne this (fun q => c (by rw [h.g1, h.nR, q]; rfl))
theorem ru_ok (h : R26 n G M S Wf) (c : ¬ S 10 1 = 10) {a b c5 d e : Nat} (ha : a < 4) (hb : b < 1500) (hc : c5 < 7) (hd : d < 1000) (he : e < 500) : A_rule G (nI a) (nI b) (nI (1 + c5)) (nI d) (nI e) = nI (gnR M) ∧ R26 (n + 1) (H_rule G (nI a) (nI b) (nI (1 + c5)) (nI d) (nI e)) (g_X7_rule_7 M (nI a) (nI b) (nI (1 + c5)) (nI d) (nI e)) (up2 (up2 (up2 (up2 (up2 (up2 S 4 (5 * gnR M) (nI a)) 4 ((5 * gnR M) + 1) (nI b)) 4 ((5 * gnR M) + 2) (nI (1 + c5))) 4 ((5 * gnR M) + 3) (nI d)) 4 ((5 * gnR M) + 4) (nI e)) 10 1 ((S 10 1) + 1)) Wf := by
  have h10 := ru_lt h c
  have hr := h.r.R
  obtain ⟨x, y⟩ := sp_rule h.r (by omega) (a := a) (b := b) (c := 1 + c5) (d := d) (e := e) (by omega) (by omega) (by omega) (by omega) (by omega) (by omega)
  exact ⟨x, st_rule h h10 rfl y⟩
theorem sh_lt (h : R26 n G M S Wf) (c : ¬ S 10 8 = 4) : gnS M < 4 := by
  have := h.b.1
  exact Nat.lt_of_le_of_ne this (fun q => c (by rw [h.g8, h.nS, q]; rfl))
theorem sh_ok (h : R26 n G M S Wf) (c : ¬ S 10 8 = 4) {t : Nat} (ht : M 1 0 = nI t) (ht9 : t ≤ 9000) {x1 : Int32} {q2 k f b : Nat} (b1 : -10000 ≤ x1.toInt) (b2 : x1.toInt ≤ t) (h2 : q2 < 2000) (hk : k < 3) (hf : f < 3) (hb : b < 4) : A_ship G x1 (nI (100 + q2)) (nI k) (nI f) (nI b) = nI (gnS M) ∧ ∀ v0, R26 (n + 1) (H_ship G x1 (nI (100 + q2)) (nI k) (nI f) (nI b)) (g_X7_ship_12 M x1 (nI (100 + q2)) (nI k) (nI f) (nI b)) (up2 (up2 (up2 (up2 (up2 (up2 (up2 (up2 (up2 (up2 (up2 (up2 S 2 (14 * gnS M) v0) 2 (14 * gnS M) x1) 2 ((14 * gnS M) + 1) (nI (100 + q2))) 2 ((14 * gnS M) + 2) (nI k)) 2 ((14 * gnS M) + 3) (nI f)) 2 ((14 * gnS M) + 4) (nI b)) 2 ((14 * gnS M) + 6) (-1)) 2 ((14 * gnS M) + 7) (-1)) 2 ((14 * gnS M) + 8) (-1)) 2 ((14 * gnS M) + 9) (-1)) 2 ((14 * gnS M) + 12) (-1)) 10 8 ((S 10 8) + 1)) Wf := by
  have h4 := sh_lt h c
  have hS := h.r.S
  have t9 : (nI t).toInt = t := by rw [← Int32.sub_zero (nI t)]; exact (pk_sub_toInt (b := 0) (by omega) (by decide)).trans (by omega)
  have a1 : ¬ x1 < -10000 := fun q => by
    have := Int32.lt_iff_toInt_lt.mp q
    have e : (-10000 : Int32).toInt = -10000 := rfl
    omega
  have a2 : ¬ M 1 0 < x1 := fun q => by
    rw [ht] at q
    have := Int32.lt_iff_toInt_lt.mp q
    omega
  have e1 : ¬ nI (100 + q2) < 100 := fun q => by have := (nI_ltI (b := 100) (by omega) (by decide)).mp q; omega
  have e2 : ¬ 200000 < nI (100 + q2) := fun q => by have := (nI_ltI (a := 200000) (by decide) (by omega)).mp q; omega
  obtain ⟨x, y⟩ := sp_ship h.r (x1 := x1) (x2 := nI (100 + q2)) (k := k) (f := f) (b := b) (by omega) a1 a2 e1 e2 hk (by omega) hb
  exact ⟨x, fun v0 => st_ship h h4 b1 (by omega) hk hf rfl y⟩
theorem lv_ok9 (h : R26 n G M S Wf) {i p : Nat} (hi : i < gnS M) (hp : p < 4) (e6 : S 2 ((14 * i) + 6) = nI p) (c2 : S 2 ((14 * i) + 9) = (-1)) {y : Int32} (hy : (if S 2 ((14 * i) + 7) = (-1) then (if f_L_priority S i = 2 then 1 else 0) else 0) = y) : A_leaves G (nI i) = y ∧ ∃ M1, R26 (n + 1) (H_leaves G (nI i)) M1 (up2 (up2 (up2 S 10 (3 + p) ((S 10 (3 + p)) + y)) 2 ((14 * i) + 6) (-1)) 2 ((14 * i) + 7) (-1)) Wf := by
  rw [h.x6 hi] at e6
  rw [h.x9 hi] at c2
  rw [h.x7 hi, vl_pri h hi] at hy
  obtain ⟨a, M1, b, c⟩ := sp_leaves_ok h.r (gS9 h hi) hp e6 c2
  rw [hy] at a c
  exact ⟨a, M1, st_leaves h hp c b rfl⟩
theorem lv_no9 (h : R26 n G M S Wf) {i : Nat} (hi : i < gnS M) (c9 : S 2 ((14 * i) + 6) = (-1) ∨ ¬ S 2 ((14 * i) + 9) = (-1)) : A_leaves G (nI i) = (-7300) ∧ H_leaves G (nI i) = G := by
  rw [h.x6 hi, h.x9 hi] at c9
  exact sp_leaves_no h.r (gS9 h hi) c9
theorem is_in (x : Int32) {k : Nat} (hk : k < 5) : f_X6_isIn (f_X6_hangsOn (nI k)) x = 0 ↔ (nI k = 0 ∨ nI k = 4 ∨ (nI k = 2 ∧ (x >>> (1 &&& 31)) &&& 1 = 0) ∨ (¬ nI k = 0 ∧ ¬ nI k = 4 ∧ ¬ nI k = 2 ∧ (x >>> (0 &&& 31)) &&& 1 = 0)) := by
  have z : ∀ y : Int32, (if y &&& 1 = 1 then (1 : Int32) else 0) = 0 ↔ y &&& 1 = 0 := fun y => by
    rcases b01 y with q | q <;> rw [q] <;> decide
  have e0 : f_X6_isIn (-1) x = 0 := by unfold f_X6_isIn; rw [if_pos (by decide)]
  have e1 : f_X6_isIn 1 x = 0 ↔ (x >>> (1 &&& 31)) &&& 1 = 0 := by unfold f_X6_isIn; rw [if_neg (by decide)]; exact z _
  have e2 : f_X6_isIn 0 x = 0 ↔ (x >>> (0 &&& 31)) &&& 1 = 0 := by unfold f_X6_isIn; rw [if_neg (by decide)]; exact z _
  have : k = 0 ∨ k = 1 ∨ k = 2 ∨ k = 3 ∨ k = 4 := by omega
  rcases this with q | q | q | q | q <;> subst q
  · exact ⟨fun _ => Or.inl rfl, fun _ => e0⟩
  · refine ⟨fun q => Or.inr (Or.inr (Or.inr ⟨by decide, by decide, by decide, e2.mp q⟩)), fun q => e2.mpr ?_⟩
    rcases q with q | q | q | q
    · exact absurd q (by decide)
    · exact absurd q (by decide)
    · exact absurd q.1 (by decide)
    · exact q.2.2.2
  · refine ⟨fun q => Or.inr (Or.inr (Or.inl ⟨by decide, e1.mp q⟩)), fun q => e1.mpr ?_⟩
    rcases q with q | q | q | q
    · exact absurd q (by decide)
    · exact absurd q (by decide)
    · exact q.2
    · exact absurd rfl q.2.2.1
  · refine ⟨fun q => Or.inr (Or.inr (Or.inr ⟨by decide, by decide, by decide, e2.mp q⟩)), fun q => e2.mpr ?_⟩
    rcases q with q | q | q | q
    · exact absurd q (by decide)
    · exact absurd q (by decide)
    · exact absurd q.1 (by decide)
    · exact q.2.2.2
  · exact ⟨fun _ => Or.inr (Or.inl rfl), fun _ => e0⟩
theorem is_sus (h : R26 n G M S Wf) {i : Nat} (hi : i < gnS M) : ((S 10 7) >>> ((S 2 ((14 * i) + 4)) &&& 31)) &&& 1 = M 2 (M 8 i).toNatClampNeg := by
  rw [h.x4 hi]
  exact vl_sus h i
theorem H_is3 (G : GS) (x1 x2 x3 : Int32) {j : Nat} (hj : j ∉ [18, 19, 20, 21, 22]) : H_issue G x1 x2 x3 j = G j := by
  unfold H_issue g_X6_issue
  (repeat' split) <;> first | rfl | exact g13_ne hj
theorem H_en3 (G : GS) (x1 x2 : Int32) {j : Nat} (hj : j ∉ [22]) : H_endorse G x1 x2 j = G j := by
  unfold H_endorse g_X6_endorse
  (repeat' split) <;> first | rfl | exact e_g_X6_endorse_1 _ _ _ hj
theorem is_ok (h : R26 n G M S Wf) {i k T : Nat} (hi : i < gnS M) (hk : k < 5) (t1 : 1 ≤ T) (t2 : T ≤ 1825) (c1 : ((S 10 7) >>> ((S 2 ((14 * i) + 4)) &&& 31)) &&& 1 = 0) (c2 : nI k = 0 ∨ nI k = 4 ∨ (nI k = 2 ∧ ((f_L_lapsed S i) >>> (1 &&& 31)) &&& 1 = 0) ∨ (¬ nI k = 0 ∧ ¬ nI k = 4 ∧ ¬ nI k = 2 ∧ ((f_L_lapsed S i) >>> (0 &&& 31)) &&& 1 = 0)) : A_issue G (nI i) (nI k) (nI T) = (S 10 0) + (nI T) ∧ R26 n (H_issue G (nI i) (nI k) (nI T)) (g_X7_issue_7 M i k (nI T)) (up2 (up2 (up2 S 3 ((15 * i) + (3 * k)) (S 10 0)) 3 ((15 * i) + (3 * k) + 1) (nI T)) 3 ((15 * i) + (3 * k) + 2) (S 2 ((14 * i) + 4))) Wf := by
  have hi4 : i < 4 := by have := h.b.1; omega
  rw [vl_lap h hi4] at c2
  obtain ⟨a, b⟩ := sp_issue_ok h.r (gS9 h hi) hk t1 t2 ((is_sus h hi).symm.trans c1) ((is_in _ hk).mpr c2)
  exact ⟨by rw [a, h.g0], st_issue h hi4 hk t1 t2 h.g0 (h.x4 hi) (h.r.keep b (H_is3 _ _ _ _ (by decide)) (H_is3 _ _ _ _ (by decide)))⟩
theorem is_no1 (h : R26 n G M S Wf) {i k T : Nat} (hi : i < gnS M) (hk : k < 5) (t1 : 1 ≤ T) (t2 : T ≤ 1825) (c1 : ¬ ((S 10 7) >>> ((S 2 ((14 * i) + 4)) &&& 31)) &&& 1 = 0) : A_issue G (nI i) (nI k) (nI T) = (-7300) ∧ H_issue G (nI i) (nI k) (nI T) = G :=
  sp_issue_no h.r (gS9 h hi) hk t1 t2 (fun q => c1 ((is_sus h hi).trans q.1))
theorem is_no2 (h : R26 n G M S Wf) {i k T : Nat} (hi : i < gnS M) (hk : k < 5) (t1 : 1 ≤ T) (t2 : T ≤ 1825) (c0 : ¬ nI k = 0) (c4 : ¬ nI k = 4) (c2 : (nI k = 2 ∧ ¬ ((f_L_lapsed S i) >>> (1 &&& 31)) &&& 1 = 0) ∨ (¬ nI k = 2 ∧ ¬ ((f_L_lapsed S i) >>> (0 &&& 31)) &&& 1 = 0)) : A_issue G (nI i) (nI k) (nI T) = (-7300) ∧ H_issue G (nI i) (nI k) (nI T) = G := by
  have hi4 : i < 4 := by have := h.b.1; omega
  rw [vl_lap h hi4] at c2
  refine sp_issue_no h.r (gS9 h hi) hk t1 t2 (fun q => ?_)
  rcases (is_in _ hk).mp q.2 with r | r | r | r
  · exact c0 r
  · exact c4 r
  · rcases c2 with c | c
    · exact c.2 r.2
    · exact c.1 r.1
  · rcases c2 with c | c
    · exact r.2.2.1 c.1
    · exact c.2 r.2.2.2
theorem pa_ok (h : R26 n G M S Wf) {t d : Nat} (ht : M 1 0 = nI t) (d1 : 1 ≤ d) (d2 : d ≤ 500) (h9 : t + d ≤ 9000) : A_pass G (nI d) = (S 10 0) + (nI d) ∧ R26 (n + 1) (H_pass G (nI d)) (g_X7_pass_2 M (nI d)) (up2 S 10 0 ((S 10 0) + (nI d))) Wf := by
  obtain ⟨a, b⟩ := sp_pass h.r ht d1 d2 h9
  exact ⟨by rw [a, h.g0, ht, nI_add], st_pass h (by rw [h.g0]) b⟩
end CS
