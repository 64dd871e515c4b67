theorem QX.pre {n j : Nat} {x m : Nat → Int32} {v : Int32} (h : QX n j x m) : QX n j (upd x (14 * n + j) v) m := fun s hs => (pk_un (by omega)).trans (h s hs)
theorem Q12.new {n : Nat} {x m : Nat → Int32} {v : Int32} (h : Q12 n x m) : Q12 (n + 1) (upd x (14 * n + 12) v) (upd m n v) := fun s hs => by
  by_cases c : s = n
  · rw [c, pk_us, pk_us]; exact Or.inl rfl
  · rw [pk_un c, pk_un (by omega)]
    exact h s (by omega)
theorem QX.ne0 {n j i : Nat} {x m : Nat → Int32} {v : Int32} (h : QX n j x m) (hj : j < 14) (hne : j ≠ 0) : QX n j (upd x (14 * i) v) m := fun s hs => (pk_un (by omega)).trans (h s hs)
theorem Q12.ne0 {n i : Nat} {x m : Nat → Int32} {v : Int32} (h : Q12 n x m) : Q12 n (upd x (14 * i) v) m := fun s hs => by
  rw [pk_un (by omega)]
  exact h s hs
theorem up2_id (S : GS) (k i : Nat) : up2 S k i (S k i) = S := funext (fun a => by
  unfold up2
  by_cases c : a = k
  · rw [if_pos c, c]
    exact upd_id rfl
  · rw [if_neg c])
theorem nI_or16 : ∀ q, q < 3 → True := fun _ _ => trivial
/-- a bit that is clear, set -/
theorem or_bit (h l k : Nat) (hl : l < 2 ^ k) : nI (2 ^ (k + 1) * h + l) ||| nI (2 ^ k) = nI (2 ^ (k + 1) * h + l + 2 ^ k) := by
  rw [fa_or]
  congr 1
  have e0 : (2 : Nat) ^ (k + 1) = 2 ^ k * 2 := Nat.pow_succ 2 k
  have e1 : 2 ^ (k + 1) * h + l = 2 ^ k * (2 * h) + l := by rw [e0, Nat.mul_assoc]
  have e2 : 2 ^ k * (2 * h) + l = 2 ^ k * (2 * h) ||| l := Nat.two_pow_add_eq_or_of_lt hl _
  have e3 : 2 ^ k * (2 * h + 1) + l = 2 ^ k * (2 * h + 1) ||| l := Nat.two_pow_add_eq_or_of_lt hl _
  have e4 : 2 ^ (k + 1) * h + 2 ^ k = 2 ^ (k + 1) * h ||| 2 ^ k := Nat.two_pow_add_eq_or_of_lt (by rw [e0]; have := Nat.two_pow_pos k; omega) _
  have e5 : 2 ^ k * (2 * h + 1) = 2 ^ (k + 1) * h + 2 ^ k := by rw [e0, Nat.mul_add, Nat.mul_assoc, Nat.mul_one]
  have e6 : 2 ^ k * (2 * h) = 2 ^ (k + 1) * h := by rw [e0, Nat.mul_assoc]
  rw [e6] at e2
  have R : 2 ^ (k + 1) * h + l + 2 ^ k = (2 ^ (k + 1) * h ||| 2 ^ k) ||| l := by
    rw [← e4, ← e5, ← e3, e5]
    omega
  rw [R, e2, Nat.or_assoc, Nat.or_comm l, ← Nat.or_assoc]
section ST2
variable {n m : Nat} {G G1 M S : GS} {Wf : Nat → Int64}
theorem st_ship (h : R26 n G M S Wf) {v0 x1 x2 v8 : Int32} {k f b : Nat} (h4 : gnS M < 4) (hb1 : -10000 ≤ x1.toInt) (hb2 : x1.toInt ≤ 9000) (hk : k < 3) (hf : f < 3) (e8 : v8 = S 10 8 + 1) (hR : R9 m G1 (g_X7_ship_12 M x1 x2 (nI k) (nI f) (nI b))) : R26 m G1 (g_X7_ship_12 M x1 x2 (nI k) (nI f) (nI b)) (up2 (up2 (up2 (up2 (up2 (up2 (up2 (up2 (up2 (up2 (up2 (up2 S 2 (14 * gnS M) v0) 2 (14 * gnS M) x1) 2 (14 * gnS M + 1) x2) 2 (14 * gnS M + 2) (nI k)) 2 (14 * gnS M + 3) (nI f)) 2 (14 * gnS M + 4) (nI b)) 2 (14 * gnS M + 6) (-1)) 2 (14 * gnS M + 7) (-1)) 2 (14 * gnS M + 8) (-1)) 2 (14 * gnS M + 9) (-1)) 2 (14 * gnS M + 12) (-1)) 10 8 v8) Wf := by
  have e3 : (g_X7_ship_12 M x1 x2 (nI k) (nI f) (nI b)) 3 0 = nI (gnS M) + 1 := rfl
  have eS : gnS (g_X7_ship_12 M x1 x2 (nI k) (nI f) (nI b)) = gnS M + 1 := by
    show ((g_X7_ship_12 M x1 x2 (nI k) (nI f) (nI b)) 3 0).toNatClampNeg = _
    rw [e3, nI_1, nI_clamp (by omega)]
  have h0 : ∀ j, j ≠ 8 → upd (S 10) 8 v8 j = S 10 j := fun j hj => pk_un hj
  refine ⟨hR, ⟨by rw [eS]; omega, h.b.2⟩, ?_, h.c, h.ru, h.a, h.d, h.e, h.f, h.w, ⟨(h0 0 (by decide)).trans h.g.1, (h0 1 (by decide)).trans h.g.2.1, (h0 2 (by decide)).trans h.g.2.2.1, ?_, fun q hq => (h0 (3 + q) (by omega)).trans (h.g.2.2.2.2 q hq)⟩, ?_, ?_⟩
  · rw [eS]
    exact ⟨(QX.ne (QX.ne (QX.ne (QX.ne (QX.ne (QX.ne (QX.ne (QX.ne (QX.ne (QX.new (QX.pre h.x.1)) (by decide) (by decide) (by decide)) (by decide) (by decide) (by decide)) (by decide) (by decide) (by decide)) (by decide) (by decide) (by decide)) (by decide) (by decide) (by decide)) (by decide) (by decide) (by decide)) (by decide) (by decide) (by decide)) (by decide) (by decide) (by decide)) (by decide) (by decide) (by decide)), (QX.ne (QX.ne (QX.ne (QX.ne (QX.ne (QX.ne (QX.ne (QX.ne (QX.new (QX.ne0 (QX.ne0 h.x.2.1 (by decide) (by decide)) (by decide) (by decide))) (by decide) (by decide) (by decide)) (by decide) (by decide) (by decide)) (by decide) (by decide) (by decide)) (by decide) (by decide) (by decide)) (by decide) (by decide) (by decide)) (by decide) (by decide) (by decide)) (by decide) (by decide) (by decide)) (by decide) (by decide) (by decide)), (QX.ne (QX.ne (QX.ne (QX.ne (QX.ne (QX.ne (QX.ne (QX.new (QX.ne (QX.ne0 (QX.ne0 h.x.2.2.1 (by decide) (by decide)) (by decide) (by decide)) (by decide) (by decide) (by decide))) (by decide) (by decide) (by decide)) (by decide) (by decide) (by decide)) (by decide) (by decide) (by decide)) (by decide) (by decide) (by decide)) (by decide) (by decide) (by decide)) (by decide) (by decide) (by decide)) (by decide) (by decide) (by decide)), (QX.ne (QX.ne (QX.ne (QX.ne (QX.ne (QX.ne (QX.new (QX.ne (QX.ne (QX.ne0 (QX.ne0 h.x.2.2.2.1 (by decide) (by decide)) (by decide) (by decide)) (by decide) (by decide) (by decide)) (by decide) (by decide) (by decide))) (by decide) (by decide) (by decide)) (by decide) (by decide) (by decide)) (by decide) (by decide) (by decide)) (by decide) (by decide) (by decide)) (by decide) (by decide) (by decide)) (by decide) (by decide) (by decide)), (QX.ne (QX.ne (QX.ne (QX.ne (QX.ne (QX.new (QX.ne (QX.ne (QX.ne (QX.ne0 (QX.ne0 h.x.2.2.2.2.1 (by decide) (by decide)) (by decide) (by decide)) (by decide) (by decide) (by decide)) (by decide) (by decide) (by decide)) (by decide) (by decide) (by decide))) (by decide) (by decide) (by decide)) (by decide) (by decide) (by decide)) (by decide) (by decide) (by decide)) (by decide) (by decide) (by decide)) (by decide) (by decide) (by decide)), (QX.ne (QX.ne (QX.ne (QX.ne (QX.ne (QX.ne (QX.ne (QX.ne (QX.ne (QX.ne0 (QX.ne0 h.x.2.2.2.2.2.1 (by decide) (by decide)) (by decide) (by decide)) (by decide) (by decide) (by decide)) (by decide) (by decide) (by decide)) (by decide) (by decide) (by decide)) (by decide) (by decide) (by decide)) (by decide) (by decide) (by decide)) (by decide) (by decide) (by decide)) (by decide) (by decide) (by decide)) (by decide) (by decide) (by decide)) (by decide) (by decide) (by decide)), (QX.ne (QX.ne (QX.ne (QX.ne (QX.new (QX.ne (QX.ne (QX.ne (QX.ne (QX.ne0 (QX.ne0 h.x.2.2.2.2.2.2.1 (by decide) (by decide)) (by decide) (by decide)) (by decide) (by decide) (by decide)) (by decide) (by decide) (by decide)) (by decide) (by decide) (by decide)) (by decide) (by decide) (by decide))) (by decide) (by decide) (by decide)) (by decide) (by decide) (by decide)) (by decide) (by decide) (by decide)) (by decide) (by decide) (by decide)), (QX.ne (QX.ne (QX.ne (QX.new (QX.ne (QX.ne (QX.ne (QX.ne (QX.ne (QX.ne0 (QX.ne0 h.x.2.2.2.2.2.2.2.1 (by decide) (by decide)) (by decide) (by decide)) (by decide) (by decide) (by decide)) (by decide) (by decide) (by decide)) (by decide) (by decide) (by decide)) (by decide) (by decide) (by decide)) (by decide) (by decide) (by decide))) (by decide) (by decide) (by decide)) (by decide) (by decide) (by decide)) (by decide) (by decide) (by decide)), (QX.ne (QX.ne (QX.new (QX.ne (QX.ne (QX.ne (QX.ne (QX.ne (QX.ne (QX.ne0 (QX.ne0 h.x.2.2.2.2.2.2.2.2.1 (by decide) (by decide)) (by decide) (by decide)) (by decide) (by decide) (by decide)) (by decide) (by decide) (by decide)) (by decide) (by decide) (by decide)) (by decide) (by decide) (by decide)) (by decide) (by decide) (by decide)) (by decide) (by decide) (by decide))) (by decide) (by decide) (by decide)) (by decide) (by decide) (by decide)), (QX.ne (QX.new (QX.ne (QX.ne (QX.ne (QX.ne (QX.ne (QX.ne (QX.ne (QX.ne0 (QX.ne0 h.x.2.2.2.2.2.2.2.2.2.1 (by decide) (by decide)) (by decide) (by decide)) (by decide) (by decide) (by decide)) (by decide) (by decide) (by decide)) (by decide) (by decide) (by decide)) (by decide) (by decide) (by decide)) (by decide) (by decide) (by decide)) (by decide) (by decide) (by decide)) (by decide) (by decide) (by decide))) (by decide) (by decide) (by decide)), (QX.ne (QX.ne (QX.ne (QX.ne (QX.ne (QX.ne (QX.ne (QX.ne (QX.ne (QX.ne0 (QX.ne0 h.x.2.2.2.2.2.2.2.2.2.2.1 (by decide) (by decide)) (by decide) (by decide)) (by decide) (by decide) (by decide)) (by decide) (by decide) (by decide)) (by decide) (by decide) (by decide)) (by decide) (by decide) (by decide)) (by decide) (by decide) (by decide)) (by decide) (by decide) (by decide)) (by decide) (by decide) (by decide)) (by decide) (by decide) (by decide)) (by decide) (by decide) (by decide)), (QX.ne (QX.ne (QX.ne (QX.ne (QX.ne (QX.ne (QX.ne (QX.ne (QX.ne (QX.ne0 (QX.ne0 h.x.2.2.2.2.2.2.2.2.2.2.2.1 (by decide) (by decide)) (by decide) (by decide)) (by decide) (by decide) (by decide)) (by decide) (by decide) (by decide)) (by decide) (by decide) (by decide)) (by decide) (by decide) (by decide)) (by decide) (by decide) (by decide)) (by decide) (by decide) (by decide)) (by decide) (by decide) (by decide)) (by decide) (by decide) (by decide)) (by decide) (by decide) (by decide)), (Q12.new (Q12.ne (Q12.ne (Q12.ne (Q12.ne (Q12.ne (Q12.ne (Q12.ne (Q12.ne (Q12.ne0 (Q12.ne0 h.x.2.2.2.2.2.2.2.2.2.2.2.2.1)) (by decide)) (by decide)) (by decide)) (by decide)) (by decide)) (by decide)) (by decide)) (by decide))), (QX.ne (QX.ne (QX.ne (QX.ne (QX.ne (QX.ne (QX.ne (QX.ne (QX.ne (QX.ne0 (QX.ne0 h.x.2.2.2.2.2.2.2.2.2.2.2.2.2 (by decide) (by decide)) (by decide) (by decide)) (by decide) (by decide) (by decide)) (by decide) (by decide) (by decide)) (by decide) (by decide) (by decide)) (by decide) (by decide) (by decide)) (by decide) (by decide) (by decide)) (by decide) (by decide) (by decide)) (by decide) (by decide) (by decide)) (by decide) (by decide) (by decide)) (by decide) (by decide) (by decide))⟩
  · show upd (S 10) 8 v8 8 = (g_X7_ship_12 M x1 x2 (nI k) (nI f) (nI b)) 3 0
    rw [pk_us, e8, h.g8, e3, h.nS]
  · obtain ⟨b0, b1, b2, b3⟩ := h.su
    exact ⟨b0, b1, (show upd (S 10) 8 v8 7 = nI b0 from (pk_un (by decide)).trans b2), b3⟩
  · intro s hs
    rw [eS] at hs
    show (-10000 ≤ ((upd (M 4) (gnS M) x1) s).toInt ∧ ((upd (M 4) (gnS M) x1) s).toInt ≤ 9000) ∧ (∃ k9 : Nat, k9 < 3 ∧ (upd (M 6) (gnS M) (nI k)) s = nI k9) ∧ ∃ f9 : Nat, f9 < 3 ∧ (upd (M 7) (gnS M) (nI f)) s = nI f9
    by_cases c : s = gnS M
    · rw [c, pk_us, pk_us, pk_us]
      exact ⟨⟨hb1, hb2⟩, ⟨k, hk, rfl⟩, f, hf, rfl⟩
    · rw [pk_un c, pk_un c, pk_un c]
      exact h.bb s (by omega)
theorem st_visit (h : R26 n G M S Wf) {i : Nat} {a v2 : Int32} (hi : i < gnS M) (h50 : gnV M < 50) (h10 : ¬ M 10 i = -1) (e2 : v2 = S 10 2 + 1) (ea : ∀ p k f, p < 4 → k < 3 → f < 3 → M 10 i = nI p → M 7 i = nI f → (g_X7_visit_10 M i) 33 (gnV M) = nI k → a = nI (aN i p k f 0 0 0 0 0)) (hk : ∃ k, k < 3 ∧ (g_X7_visit_10 M i) 33 (gnV M) = nI k) (hR : R9 m G1 (g_X7_visit_10 M i)) : R26 m G1 (g_X7_visit_10 M i) (up2 (up2 (up2 (up2 (up2 (up2 S 5 (gnV M) a) 6 (gnV M) (S 10 0)) 7 (gnV M) (-1)) 2 (14 * i + 7) (nI (gnV M))) 2 (14 * i + 8) (nI (gnV M))) 10 2 v2) Wf := by
  have hi4 := h.b.1
  have e29 : (g_X7_visit_10 M i) 29 0 = nI (gnV M) + 1 := rfl
  have eV : gnV (g_X7_visit_10 M i) = gnV M + 1 := by
    show ((g_X7_visit_10 M i) 29 0).toNatClampNeg = _
    rw [e29, nI_1, nI_clamp (by omega)]
  have h0 : ∀ j, j ≠ 2 → upd (S 10) 2 v2 j = S 10 j := fun j hj => pk_un hj
  have z : ∀ r, r ∈ [30, 35, 39, 40, 41, 42] → G r (gnV M) = 0 := fun r hr => by
    have q := h.r.za.2.2.2.2.2.2
    rw [h.r.V]
    simp only [List.mem_cons, List.not_mem_nil, or_false] at hr
    rcases hr with rfl | rfl | rfl | rfl | rfl | rfl
    · exact q.1 _ (Nat.le_refl _)
    · exact q.2.1 _ (Nat.le_refl _)
    · exact q.2.2.1 _ (Nat.le_refl _)
    · exact q.2.2.2.1 _ (Nat.le_refl _)
    · exact q.2.2.2.2.1 _ (Nat.le_refl _)
    · exact q.2.2.2.2.2 _ (Nat.le_refl _)
  refine ⟨hR, ⟨h.b.1, h.b.2.1, by rw [eV]; omega⟩, ⟨(QX.ne (QX.ne h.x.1 (by decide) (by decide) (by decide)) (by decide) (by decide) (by decide)), (QX.ne (QX.ne h.x.2.1 (by decide) (by decide) (by decide)) (by decide) (by decide) (by decide)), (QX.ne (QX.ne h.x.2.2.1 (by decide) (by decide) (by decide)) (by decide) (by decide) (by decide)), (QX.ne (QX.ne h.x.2.2.2.1 (by decide) (by decide) (by decide)) (by decide) (by decide) (by decide)), (QX.ne (QX.ne h.x.2.2.2.2.1 (by decide) (by decide) (by decide)) (by decide) (by decide) (by decide)), (QX.ne (QX.ne h.x.2.2.2.2.2.1 (by decide) (by decide) (by decide)) (by decide) (by decide) (by decide)), (QX.ne (QX.ne h.x.2.2.2.2.2.2.1 (by decide) (by decide) (by decide)) (by decide) (by decide) (by decide)), (QX.ne (QX.up h.x.2.2.2.2.2.2.2.1 rfl) (by decide) (by decide) (by decide)), (QX.up (QX.ne h.x.2.2.2.2.2.2.2.2.1 (by decide) (by decide) (by decide)) rfl), (QX.ne (QX.ne h.x.2.2.2.2.2.2.2.2.2.1 (by decide) (by decide) (by decide)) (by decide) (by decide) (by decide)), (QX.ne (QX.ne h.x.2.2.2.2.2.2.2.2.2.2.1 (by decide) (by decide) (by decide)) (by decide) (by decide) (by decide)), (QX.ne (QX.ne h.x.2.2.2.2.2.2.2.2.2.2.2.1 (by decide) (by decide) (by decide)) (by decide) (by decide) (by decide)), (Q12.ne (Q12.ne h.x.2.2.2.2.2.2.2.2.2.2.2.2.1 (by decide)) (by decide)), (QX.ne (QX.ne h.x.2.2.2.2.2.2.2.2.2.2.2.2.2 (by decide) (by decide) (by decide)) (by decide) (by decide) (by decide))⟩, h.c, h.ru, ?_, ?_, ?_, h.f, h.w, ⟨(h0 0 (by decide)).trans h.g.1, (h0 1 (by decide)).trans h.g.2.1, ?_, (h0 8 (by decide)).trans h.g.2.2.2.1, fun q hq => (h0 (3 + q) (by omega)).trans (h.g.2.2.2.2 q hq)⟩, ?_, h.bb⟩
  · intro v hv
    rw [eV] at hv
    show A1 (upd (M 30) (gnV M) (nI i) v) (upd (M 31) (gnV M) (M 10 i) v) ((g_X7_visit_10 M i) 33 v) (upd (M 34) (gnV M) (M 7 i) v) (M 35 v) (M 39 v) (M 40 v) (M 41 v) (M 42 v) (upd (S 5) (gnV M) a v)
    by_cases c : v = gnV M
    · obtain ⟨k, k1, k2⟩ := hk
      obtain ⟨f, f1, f2⟩ := (h.bb i hi).2.2
      obtain ⟨p, p1, p2⟩ : ∃ p, p < 4 ∧ M 10 i = nI p := by
        rcases h.r.b10 i with q | q
        · exact absurd (by rw [h.r.q 10]; exact q.1) h10
        · obtain ⟨p, p1, p2⟩ := q
          exact ⟨p, p1, by rw [h.r.q 10, p2]⟩
      rw [c, pk_us, pk_us, pk_us, pk_us, k2, f2, p2, ea p k f p1 k1 f1 p2 f2 k2, h.r.q 35, h.r.q 39, h.r.q 40, h.r.q 41, h.r.q 42, z 35 (by decide), z 39 (by decide), z 40 (by decide), z 41 (by decide), z 42 (by decide)]
      exact ⟨i, p, k, f, 0, 0, 0, 0, 0, ⟨by omega, p1, k1, f1, by decide, by decide, by decide, by decide, by decide⟩, rfl, rfl, rfl, rfl, rfl, rfl, rfl, rfl, rfl, rfl⟩
    · have e33 : (g_X7_visit_10 M i) 33 v = M 33 v := pk_un c
      rw [pk_un c, pk_un c, pk_un c, pk_un c, e33]
      exact h.a v (by omega)
  · intro v hv
    rw [eV] at hv
    show upd (S 6) (gnV M) (S 10 0) v = upd (M 32) (gnV M) (M 1 0) v ∧ ∃ D, D ≤ 9000 ∧ upd (M 32) (gnV M) (M 1 0) v = nI D
    by_cases c : v = gnV M
    · rw [c, pk_us, pk_us]
      exact ⟨h.g0, h.td⟩
    · rw [pk_un c, pk_un c]
      exact h.d v (by omega)
  · intro v hv
    rw [eV] at hv
    show upd (S 7) (gnV M) (-1) v = upd (M 38) (gnV M) (-1) v
    by_cases c : v = gnV M
    · rw [c, pk_us, pk_us]
    · rw [pk_un c, pk_un c]
      exact h.e v (by omega)
  · show upd (S 10) 2 v2 2 = (g_X7_visit_10 M i) 29 0
    rw [pk_us, e2, h.g2, e29, h.nV]
  · obtain ⟨b0, b1, b2, b3⟩ := h.su
    exact ⟨b0, b1, (show upd (S 10) 2 v2 7 = nI b0 from (pk_un (by decide)).trans b2), b3⟩
/-- an update of one visit's number -/
theorem QA.up {n v : Nat} {a m30 m31 m33 m34 m35 m39 m40 m41 m42 a9 n33 n35 n39 n40 n41 n42 : Nat → Int32} (h : QA n a m30 m31 m33 m34 m35 m39 m40 m41 m42) (e33 : ∀ u, u ≠ v → n33 u = m33 u) (e35 : ∀ u, u ≠ v → n35 u = m35 u) (e39 : ∀ u, u ≠ v → n39 u = m39 u) (e40 : ∀ u, u ≠ v → n40 u = m40 u) (e41 : ∀ u, u ≠ v → n41 u = m41 u) (e42 : ∀ u, u ≠ v → n42 u = m42 u) (ea : ∀ u, u ≠ v → a9 u = a u) (hv : A1 (m30 v) (m31 v) (n33 v) (m34 v) (n35 v) (n39 v) (n40 v) (n41 v) (n42 v) (a9 v)) : QA n a9 m30 m31 n33 m34 n35 n39 n40 n41 n42 := fun u hu => by
  by_cases c : u = v
  · rw [c]; exact hv
  · rw [e33 u c, e35 u c, e39 u c, e40 u c, e41 u c, e42 u c, ea u c]
    exact h u hu
theorem st_appeal (h : R26 n G M S Wf) {v : Nat} {a : Int32} (hv : v < gnV M) (c0 : M 39 v = 0) (ea : a = S 5 v ||| 8192) (hR : R9 m G1 (g_X7_appeal_4 M v)) : R26 m G1 (g_X7_appeal_4 M v) (up2 S 5 v a) Wf := by
  refine ⟨hR, h.b, h.x, h.c, h.ru, QA.up (v := v) h.a (fun _ _ => rfl) (fun _ _ => rfl) (fun u hu => pk_un hu) (fun _ _ => rfl) (fun _ _ => rfl) (fun _ _ => rfl) (fun u hu => pk_un hu) ?_, h.d, h.e, h.f, h.w, h.g, h.su, h.bb⟩
  show A1 (M 30 v) (M 31 v) (M 33 v) (M 34 v) (M 35 v) (upd (M 39) v 1 v) (M 40 v) (M 41 v) (M 42 v) (upd (S 5) v a v)
  obtain ⟨s, p, k, f, c, y1, y2, y3, y4, ⟨b1, b2, b3, b4, b5, b6, b7, b8, b9⟩, e1, e2, e3, e4, e5, e6, e7, e8, e9, eA⟩ := h.a v hv
  have hy : y1 = 0 := by
    rw [c0] at e6
    exact ((nI_eq (a := 0) (by decide) (by omega)).mp e6).symm
  subst hy
  rw [pk_us, pk_us, ea, eA]
  refine ⟨s, p, k, f, c, 1, y2, y3, y4, ⟨b1, b2, b3, b4, b5, by decide, b7, b8, b9⟩, e1, e2, e3, e4, e5, rfl, e7, e8, e9, ?_⟩
  have q := or_bit (y2 + 4 * y3 + 16 * y4) (s + 4 * p + 16 * k + 64 * f + 512 * c) 13 (by omega)
  have e13 : 2 ^ (13 + 1) * (y2 + 4 * y3 + 16 * y4) + (s + 4 * p + 16 * k + 64 * f + 512 * c) = aN s p k f c 0 y2 y3 y4 := by unfold aN; omega
  rw [e13] at q
  refine q.trans ?_
  congr 1
  unfold aN
  omega
theorem st_vote (h : R26 n G M S Wf) {v : Nat} {a x : Int32} (hv : v < gnV M) (hx : x = 0 ∨ x = 1) (hd : f_X7_decided M v = 0) (ea : a = S 5 v + (if x = 0 then 65536 else 16384)) (hR : R9 m G1 (g_X7_vote_3 M v x)) : R26 m G1 (g_X7_vote_3 M v x) (up2 S 5 v a) Wf := by
  refine ⟨hR, h.b, h.x, h.c, h.ru, QA.up (v := v) h.a (fun _ _ => rfl) (fun _ _ => rfl) (fun _ _ => rfl) (fun u hu => pk_un hu) (fun u hu => pk_un hu) (fun _ _ => rfl) (fun u hu => pk_un hu) ?_, h.d, h.e, h.f, h.w, h.g, h.su, h.bb⟩
  show A1 (M 30 v) (M 31 v) (M 33 v) (M 34 v) (M 35 v) (M 39 v) (upd (M 40) v ((M 40 v) + (if x = 0 then 0 else 1)) v) (upd (M 41) v ((M 41 v) + (if x = 0 then 1 else 0)) v) (M 42 v) (upd (S 5) v a v)
  obtain ⟨s, p, k, f, c, y1, y2, y3, y4, ⟨b1, b2, b3, b4, b5, b6, b7, b8, b9⟩, e1, e2, e3, e4, e5, e6, e7, e8, e9, eA⟩ := h.a v hv
  have d2 : y2 ≤ 1 ∧ y3 ≤ 1 := by
    unfold f_X7_decided at hd
    rw [e7, e8] at hd
    constructor
    · rcases (show y2 ≤ 1 ∨ y2 = 2 by omega) with q | q
      · exact q
      · rw [q, if_pos (show nI 2 = 2 from rfl)] at hd; exact absurd hd (by decide)
    · rcases (show y3 ≤ 1 ∨ y3 = 2 by omega) with q | q
      · exact q
      · by_cases c2 : nI y2 = 2
        · rw [if_pos c2] at hd; exact absurd hd (by decide)
        · rw [if_neg c2, q, if_pos (show nI 2 = 2 from rfl)] at hd; exact absurd hd (by decide)
  rw [pk_us, pk_us, pk_us, ea, eA, e7, e8]
  rcases hx with q | q
  · rw [if_pos q, if_pos q, if_pos q]
    refine ⟨s, p, k, f, c, y1, y2, y3 + 1, y4, ⟨b1, b2, b3, b4, b5, b6, b7, by omega, b9⟩, e1, e2, e3, e4, e5, e6, Int32.add_zero _, nI_1 _, e9, ?_⟩
    refine (nI_add _ 65536).trans ?_
    congr 1
    unfold aN
    omega
  · have n0 : ¬ x = 0 := by rw [q]; decide
    rw [if_neg n0, if_neg n0, if_neg n0]
    refine ⟨s, p, k, f, c, y1, y2 + 1, y3, y4, ⟨b1, b2, b3, b4, b5, b6, by omega, b8, b9⟩, e1, e2, e3, e4, e5, e6, nI_1 _, Int32.add_zero _, e9, ?_⟩
    refine (nI_add _ 16384).trans ?_
    congr 1
    unfold aN
    omega
theorem st_releaseA (h : R26 n G M S Wf) {i j : Nat} {v9 v : Int32} (hi : i < 4) (e13 : v = M 17 i + 100 * (M 1 0 - M 38 j)) (hR : R9 m G1 (g_X7_release_4 M i j)) : R26 m G1 (g_X7_release_4 M i j) (up2 (up2 S 2 (14 * i + 9) (-1)) 2 (14 * i + 13) v) Wf :=
  ⟨hR, h.b, ⟨(QX.ne (QX.ne h.x.1 (by decide) (by decide) (by decide)) (by decide) (by decide) (by decide)), (QX.ne (QX.ne h.x.2.1 (by decide) (by decide) (by decide)) (by decide) (by decide) (by decide)), (QX.ne (QX.ne h.x.2.2.1 (by decide) (by decide) (by decide)) (by decide) (by decide) (by decide)), (QX.ne (QX.ne h.x.2.2.2.1 (by decide) (by decide) (by decide)) (by decide) (by decide) (by decide)), (QX.ne (QX.ne h.x.2.2.2.2.1 (by decide) (by decide) (by decide)) (by decide) (by decide) (by decide)), (QX.ne (QX.ne h.x.2.2.2.2.2.1 (by decide) (by decide) (by decide)) (by decide) (by decide) (by decide)), (QX.ne (QX.ne h.x.2.2.2.2.2.2.1 (by decide) (by decide) (by decide)) (by decide) (by decide) (by decide)), (QX.ne (QX.ne h.x.2.2.2.2.2.2.2.1 (by decide) (by decide) (by decide)) (by decide) (by decide) (by decide)), (QX.ne (QX.ne h.x.2.2.2.2.2.2.2.2.1 (by decide) (by decide) (by decide)) (by decide) (by decide) (by decide)), (QX.ne (QX.up h.x.2.2.2.2.2.2.2.2.2.1 rfl) (by decide) (by decide) (by decide)), (QX.ne (QX.ne h.x.2.2.2.2.2.2.2.2.2.2.1 (by decide) (by decide) (by decide)) (by decide) (by decide) (by decide)), (QX.ne (QX.ne h.x.2.2.2.2.2.2.2.2.2.2.2.1 (by decide) (by decide) (by decide)) (by decide) (by decide) (by decide)), (Q12.ne (Q12.ne h.x.2.2.2.2.2.2.2.2.2.2.2.2.1 (by decide)) (by decide)), (QX.up (QX.ne h.x.2.2.2.2.2.2.2.2.2.2.2.2.2 (by decide) (by decide) (by decide)) e13)⟩, h.c, h.ru, h.a, h.d, h.e, h.f, h.w, h.g, h.su, h.bb⟩
theorem st_releaseB (h : R26 n G M S Wf) {i j : Nat} {v v11 v12 : Int32} (hi : i < 4) (e13 : v = M 17 i + 100 * (M 1 0 - M 38 j)) (e11 : v11 = M 15 i + 1) (e12 : v12 = (if M 15 i = 0 then (M 1 0) + 90 else (if M 15 i = 1 then (M 1 0) + 360 else 100000)) ∨ (v12 = 99999 ∧ (if M 15 i = 0 then (M 1 0) + 90 else (if M 15 i = 1 then (M 1 0) + 360 else 100000)) = 100000)) (hR : R9 m G1 (g_X7_release_7 M i j)) : R26 m G1 (g_X7_release_7 M i j) (up2 (up2 (up2 (up2 (up2 S 2 (14 * i + 9) (-1)) 2 (14 * i + 13) v) 2 (14 * i + 11) v11) 2 (14 * i + 12) v12) 2 (14 * i + 10) 0) Wf :=
  ⟨hR, h.b, ⟨(QX.ne (QX.ne (QX.ne (QX.ne (QX.ne h.x.1 (by decide) (by decide) (by decide)) (by decide) (by decide) (by decide)) (by decide) (by decide) (by decide)) (by decide) (by decide) (by decide)) (by decide) (by decide) (by decide)), (QX.ne (QX.ne (QX.ne (QX.ne (QX.ne h.x.2.1 (by decide) (by decide) (by decide)) (by decide) (by decide) (by decide)) (by decide) (by decide) (by decide)) (by decide) (by decide) (by decide)) (by decide) (by decide) (by decide)), (QX.ne (QX.ne (QX.ne (QX.ne (QX.ne h.x.2.2.1 (by decide) (by decide) (by decide)) (by decide) (by decide) (by decide)) (by decide) (by decide) (by decide)) (by decide) (by decide) (by decide)) (by decide) (by decide) (by decide)), (QX.ne (QX.ne (QX.ne (QX.ne (QX.ne h.x.2.2.2.1 (by decide) (by decide) (by decide)) (by decide) (by decide) (by decide)) (by decide) (by decide) (by decide)) (by decide) (by decide) (by decide)) (by decide) (by decide) (by decide)), (QX.ne (QX.ne (QX.ne (QX.ne (QX.ne h.x.2.2.2.2.1 (by decide) (by decide) (by decide)) (by decide) (by decide) (by decide)) (by decide) (by decide) (by decide)) (by decide) (by decide) (by decide)) (by decide) (by decide) (by decide)), (QX.ne (QX.ne (QX.ne (QX.ne (QX.ne h.x.2.2.2.2.2.1 (by decide) (by decide) (by decide)) (by decide) (by decide) (by decide)) (by decide) (by decide) (by decide)) (by decide) (by decide) (by decide)) (by decide) (by decide) (by decide)), (QX.ne (QX.ne (QX.ne (QX.ne (QX.ne h.x.2.2.2.2.2.2.1 (by decide) (by decide) (by decide)) (by decide) (by decide) (by decide)) (by decide) (by decide) (by decide)) (by decide) (by decide) (by decide)) (by decide) (by decide) (by decide)), (QX.ne (QX.ne (QX.ne (QX.ne (QX.ne h.x.2.2.2.2.2.2.2.1 (by decide) (by decide) (by decide)) (by decide) (by decide) (by decide)) (by decide) (by decide) (by decide)) (by decide) (by decide) (by decide)) (by decide) (by decide) (by decide)), (QX.ne (QX.ne (QX.ne (QX.ne (QX.ne h.x.2.2.2.2.2.2.2.2.1 (by decide) (by decide) (by decide)) (by decide) (by decide) (by decide)) (by decide) (by decide) (by decide)) (by decide) (by decide) (by decide)) (by decide) (by decide) (by decide)), (QX.ne (QX.ne (QX.ne (QX.ne (QX.up h.x.2.2.2.2.2.2.2.2.2.1 rfl) (by decide) (by decide) (by decide)) (by decide) (by decide) (by decide)) (by decide) (by decide) (by decide)) (by decide) (by decide) (by decide)), (QX.up (QX.ne (QX.ne (QX.ne (QX.ne h.x.2.2.2.2.2.2.2.2.2.2.1 (by decide) (by decide) (by decide)) (by decide) (by decide) (by decide)) (by decide) (by decide) (by decide)) (by decide) (by decide) (by decide)) rfl), (QX.ne (QX.ne (QX.up (QX.ne (QX.ne h.x.2.2.2.2.2.2.2.2.2.2.2.1 (by decide) (by decide) (by decide)) (by decide) (by decide) (by decide)) e11) (by decide) (by decide) (by decide)) (by decide) (by decide) (by decide)), (Q12.ne (Q12.up (Q12.ne (Q12.ne (Q12.ne h.x.2.2.2.2.2.2.2.2.2.2.2.2.1 (by decide)) (by decide)) (by decide)) e12) (by decide)), (QX.ne (QX.ne (QX.ne (QX.up (QX.ne h.x.2.2.2.2.2.2.2.2.2.2.2.2.2 (by decide) (by decide) (by decide)) e13) (by decide) (by decide) (by decide)) (by decide) (by decide) (by decide)) (by decide) (by decide) (by decide))⟩, h.c, h.ru, h.a, h.d, h.e, h.f, h.w, h.g, h.su, h.bb⟩
end ST2
