theorem QX.ne {n j j9 i : Nat} {x m : Nat → Int32} {v : Int32} (h : QX n j x m) (hj : j < 14) (hj9 : j9 < 14) (hne : j ≠ j9) : QX n j (upd x (14 * i + j9) v) m := fun s hs => (pk_un (by omega)).trans (h s hs)
theorem QX.up {n j i : Nat} {x m : Nat → Int32} {v v9 : Int32} (h : QX n j x m) (e : v = v9) : QX n j (upd x (14 * i + j) v) (upd m i v9) := fun s hs => by
  by_cases c : s = i
  · rw [c, pk_us, pk_us, e]
  · rw [pk_un c, pk_un (by omega)]
    exact h s hs
theorem Q12.ne {n j9 i : Nat} {x m : Nat → Int32} {v : Int32} (h : Q12 n x m) (hj : j9 < 14 ∧ j9 ≠ 12) : Q12 n (upd x (14 * i + j9) v) m := fun s hs => by
  rw [pk_un (by omega)]
  exact h s hs
theorem Q12.up {n i : Nat} {x m : Nat → Int32} {v v9 : Int32} (h : Q12 n x m) (e : v = v9 ∨ (v = 99999 ∧ v9 = 100000)) : Q12 n (upd x (14 * i + 12) v) (upd m i v9) := fun s hs => by
  by_cases c : s = i
  · rw [c, pk_us, pk_us]
    exact e
  · rw [pk_un c, pk_un (by omega)]
    exact h s hs
theorem QX.new {n j : Nat} {x m : Nat → Int32} {v : Int32} (h : QX n j x m) : QX (n + 1) j (upd x (14 * n + j) v) (upd m n v) := fun s hs => by
  by_cases c : s = n
  · rw [c, pk_us, pk_us]
  · rw [pk_un c, pk_un (by omega)]
    exact h s (by omega)
theorem sus_k1 : ∀ b, b < 16 → ∀ i, i < 4 → (nI b &&& (((1 : Int32) <<< (nI i &&& 31)) ^^^ (-1))) = nI (b &&& (15 - 2 ^ i)) ∧ (nI b ||| ((1 : Int32) <<< (nI i &&& 31))) = nI (b ||| 2 ^ i) ∧ (b &&& (15 - 2 ^ i)) < 16 ∧ (b ||| 2 ^ i) < 16 := by decide +kernel
theorem sus_k2 : ∀ b, b < 16 → ∀ i, i < 4 → ∀ j, j < 4 → (b &&& (15 - 2 ^ i)) / 2 ^ j % 2 = (if j = i then 0 else b / 2 ^ j % 2) ∧ (b ||| 2 ^ i) / 2 ^ j % 2 = (if j = i then 1 else b / 2 ^ j % 2) := by decide +kernel
section ST
variable {n m : Nat} {G G1 M S : GS} {Wf : Nat → Int64}
/-- row 0 of the reference says only what was thrown -/
theorem R26.z (h : R26 n G M S Wf) (c : Int32) : R26 n G (up2 M 0 0 c) S Wf := ⟨h.r.z c, h.b, h.2.2⟩
theorem R26.ups (h : R26 n G M S Wf) (hm : n ≤ m) : R26 m G M S Wf := ⟨h.r.ups hm, h.2⟩
theorem st_calls (h : R26 n G M S Wf) {i : Nat} {p : Int32} (hR : R9 m G1 (g_X7_calls_3 M i p)) : R26 m G1 (g_X7_calls_3 M i p) (up2 (up2 S 2 (14 * i + 6) p) 2 (14 * i + 7) (-1)) Wf :=
  ⟨hR, h.b, ⟨(QX.ne (QX.ne h.x.1 (by decide) (by decide) (by decide)) (by decide) (by decide) (by decide)), (QX.ne (QX.ne h.x.2.1 (by decide) (by decide) (by decide)) (by decide) (by decide) (by decide)), (QX.ne (QX.ne h.x.2.2.1 (by decide) (by decide) (by decide)) (by decide) (by decide) (by decide)), (QX.ne (QX.ne h.x.2.2.2.1 (by decide) (by decide) (by decide)) (by decide) (by decide) (by decide)), (QX.ne (QX.ne h.x.2.2.2.2.1 (by decide) (by decide) (by decide)) (by decide) (by decide) (by decide)), (QX.ne (QX.ne h.x.2.2.2.2.2.1 (by decide) (by decide) (by decide)) (by decide) (by decide) (by decide)), (QX.ne (QX.up h.x.2.2.2.2.2.2.1 rfl) (by decide) (by decide) (by decide)), (QX.up (QX.ne h.x.2.2.2.2.2.2.2.1 (by decide) (by decide) (by decide)) rfl), (QX.ne (QX.ne h.x.2.2.2.2.2.2.2.2.1 (by decide) (by decide) (by decide)) (by decide) (by decide) (by decide)), (QX.ne (QX.ne h.x.2.2.2.2.2.2.2.2.2.1 (by decide) (by decide) (by decide)) (by decide) (by decide) (by decide)), (QX.ne (QX.ne h.x.2.2.2.2.2.2.2.2.2.2.1 (by decide) (by decide) (by decide)) (by decide) (by decide) (by decide)), (QX.ne (QX.ne h.x.2.2.2.2.2.2.2.2.2.2.2.1 (by decide) (by decide) (by decide)) (by decide) (by decide) (by decide)), (Q12.ne (Q12.ne h.x.2.2.2.2.2.2.2.2.2.2.2.2.1 (by decide)) (by decide)), (QX.ne (QX.ne h.x.2.2.2.2.2.2.2.2.2.2.2.2.2 (by decide) (by decide) (by decide)) (by decide) (by decide) (by decide))⟩, h.c, h.ru, h.a, h.d, h.e, h.f, h.w, h.g, h.su, h.bb⟩
theorem st_changes (h : R26 n G M S Wf) {i f b : Nat} {v5 : Int32} (hi : i < 4) (hf : f < 3) (e5 : v5 = M 9 i + 1) (hR : R9 m G1 (g_X7_changes_4 M i (nI f) (nI b))) : R26 m G1 (g_X7_changes_4 M i (nI f) (nI b)) (up2 (up2 (up2 S 2 (14 * i + 3) (nI f)) 2 (14 * i + 4) (nI b)) 2 (14 * i + 5) v5) Wf :=
  ⟨hR, h.b, ⟨(QX.ne (QX.ne (QX.ne h.x.1 (by decide) (by decide) (by decide)) (by decide) (by decide) (by decide)) (by decide) (by decide) (by decide)), (QX.ne (QX.ne (QX.ne h.x.2.1 (by decide) (by decide) (by decide)) (by decide) (by decide) (by decide)) (by decide) (by decide) (by decide)), (QX.ne (QX.ne (QX.ne h.x.2.2.1 (by decide) (by decide) (by decide)) (by decide) (by decide) (by decide)) (by decide) (by decide) (by decide)), (QX.ne (QX.ne (QX.up h.x.2.2.2.1 rfl) (by decide) (by decide) (by decide)) (by decide) (by decide) (by decide)), (QX.ne (QX.up (QX.ne h.x.2.2.2.2.1 (by decide) (by decide) (by decide)) rfl) (by decide) (by decide) (by decide)), (QX.up (QX.ne (QX.ne h.x.2.2.2.2.2.1 (by decide) (by decide) (by decide)) (by decide) (by decide) (by decide)) e5), (QX.ne (QX.ne (QX.ne h.x.2.2.2.2.2.2.1 (by decide) (by decide) (by decide)) (by decide) (by decide) (by decide)) (by decide) (by decide) (by decide)), (QX.ne (QX.ne (QX.ne h.x.2.2.2.2.2.2.2.1 (by decide) (by decide) (by decide)) (by decide) (by decide) (by decide)) (by decide) (by decide) (by decide)), (QX.ne (QX.ne (QX.ne h.x.2.2.2.2.2.2.2.2.1 (by decide) (by decide) (by decide)) (by decide) (by decide) (by decide)) (by decide) (by decide) (by decide)), (QX.ne (QX.ne (QX.ne h.x.2.2.2.2.2.2.2.2.2.1 (by decide) (by decide) (by decide)) (by decide) (by decide) (by decide)) (by decide) (by decide) (by decide)), (QX.ne (QX.ne (QX.ne h.x.2.2.2.2.2.2.2.2.2.2.1 (by decide) (by decide) (by decide)) (by decide) (by decide) (by decide)) (by decide) (by decide) (by decide)), (QX.ne (QX.ne (QX.ne h.x.2.2.2.2.2.2.2.2.2.2.2.1 (by decide) (by decide) (by decide)) (by decide) (by decide) (by decide)) (by decide) (by decide) (by decide)), (Q12.ne (Q12.ne (Q12.ne h.x.2.2.2.2.2.2.2.2.2.2.2.2.1 (by decide)) (by decide)) (by decide)), (QX.ne (QX.ne (QX.ne h.x.2.2.2.2.2.2.2.2.2.2.2.2.2 (by decide) (by decide) (by decide)) (by decide) (by decide) (by decide)) (by decide) (by decide) (by decide))⟩, h.c, h.ru, h.a, h.d, h.e, h.f, h.w, h.g, h.su, fun s hs => ⟨(h.bb s hs).1, (h.bb s hs).2.1, by
    show ∃ f9 : Nat, f9 < 3 ∧ (upd (M 7) i (nI f)) s = nI f9
    by_cases c : s = i
    · rw [c, pk_us]; exact ⟨f, hf, rfl⟩
    · rw [pk_un c]; exact (h.bb s hs).2.2⟩⟩
theorem st_leaves (h : R26 n G M S Wf) {M1 : GS} {i p : Nat} {y v : Int32} (hp : p < 4) (e1 : M1 = up2 (up2 (up2 (up2 M 0 0 (M1 0 0)) 43 p ((M 43 p) + y)) 10 i (-1)) 11 i (-1)) (hR : R9 m G1 M1) (ev : v = S 10 (3 + p) + y) : R26 m G1 M1 (up2 (up2 (up2 S 10 (3 + p) v) 2 (14 * i + 6) (-1)) 2 (14 * i + 7) (-1)) Wf := by
  generalize M1 0 0 = z at e1
  subst e1
  refine ⟨hR, h.b, ⟨(QX.ne (QX.ne h.x.1 (by decide) (by decide) (by decide)) (by decide) (by decide) (by decide)), (QX.ne (QX.ne h.x.2.1 (by decide) (by decide) (by decide)) (by decide) (by decide) (by decide)), (QX.ne (QX.ne h.x.2.2.1 (by decide) (by decide) (by decide)) (by decide) (by decide) (by decide)), (QX.ne (QX.ne h.x.2.2.2.1 (by decide) (by decide) (by decide)) (by decide) (by decide) (by decide)), (QX.ne (QX.ne h.x.2.2.2.2.1 (by decide) (by decide) (by decide)) (by decide) (by decide) (by decide)), (QX.ne (QX.ne h.x.2.2.2.2.2.1 (by decide) (by decide) (by decide)) (by decide) (by decide) (by decide)), (QX.ne (QX.up h.x.2.2.2.2.2.2.1 rfl) (by decide) (by decide) (by decide)), (QX.up (QX.ne h.x.2.2.2.2.2.2.2.1 (by decide) (by decide) (by decide)) rfl), (QX.ne (QX.ne h.x.2.2.2.2.2.2.2.2.1 (by decide) (by decide) (by decide)) (by decide) (by decide) (by decide)), (QX.ne (QX.ne h.x.2.2.2.2.2.2.2.2.2.1 (by decide) (by decide) (by decide)) (by decide) (by decide) (by decide)), (QX.ne (QX.ne h.x.2.2.2.2.2.2.2.2.2.2.1 (by decide) (by decide) (by decide)) (by decide) (by decide) (by decide)), (QX.ne (QX.ne h.x.2.2.2.2.2.2.2.2.2.2.2.1 (by decide) (by decide) (by decide)) (by decide) (by decide) (by decide)), (Q12.ne (Q12.ne h.x.2.2.2.2.2.2.2.2.2.2.2.2.1 (by decide)) (by decide)), (QX.ne (QX.ne h.x.2.2.2.2.2.2.2.2.2.2.2.2.2 (by decide) (by decide) (by decide)) (by decide) (by decide) (by decide))⟩, h.c, h.ru, h.a, h.d, h.e, h.f, h.w, ?_, ?_, h.bb⟩
  · have h0 : ∀ k, k < 3 ∨ k = 7 ∨ k = 8 → upd (S 10) (3 + p) v k = S 10 k := fun k hk => pk_un (by omega)
    refine ⟨(h0 0 (by decide)).trans h.g.1, (h0 1 (by decide)).trans h.g.2.1, (h0 2 (by decide)).trans h.g.2.2.1, (h0 8 (by decide)).trans h.g.2.2.2.1, fun q hq => ?_⟩
    show upd (S 10) (3 + p) v (3 + q) = upd (M 43) p ((M 43 p) + y) q
    by_cases c : q = p
    · rw [c, pk_us, pk_us, ev, h.g.2.2.2.2 p hp]
    · rw [pk_un c, pk_un (by omega)]
      exact h.g.2.2.2.2 q hq
  · obtain ⟨b, b1, b2, b3⟩ := h.su
    exact ⟨b, b1, (pk_un (by omega : (7 : Nat) ≠ 3 + p)).trans b2, b3⟩
theorem st_pass (h : R26 n G M S Wf) {v d : Int32} (e : v = M 1 0 + d) (hR : R9 m G1 (g_X7_pass_2 M d)) : R26 m G1 (g_X7_pass_2 M d) (up2 S 10 0 v) Wf := by
  refine ⟨hR, h.b, h.x, h.c, h.ru, h.a, h.d, h.e, h.f, h.w, ?_, ?_, h.bb⟩
  · have h0 : ∀ k, k ≠ 0 → upd (S 10) 0 v k = S 10 k := fun k hk => pk_un hk
    refine ⟨?_, (h0 1 (by decide)).trans h.g.2.1, (h0 2 (by decide)).trans h.g.2.2.1, (h0 8 (by decide)).trans h.g.2.2.2.1, fun q hq => (h0 (3 + q) (by omega)).trans (h.g.2.2.2.2 q hq)⟩
    show upd (S 10) 0 v 0 = upd (M 1) 0 (M 1 0 + d) 0
    rw [pk_us, pk_us, e]
  · obtain ⟨b, b1, b2, b3⟩ := h.su
    exact ⟨b, b1, (show upd (S 10) 0 v 7 = nI b from (pk_un (by decide)).trans b2), b3⟩
theorem st_issue (h : R26 n G M S Wf) {i f T : Nat} (hi : i < 4) (hf : f < 5) (t1 : 1 ≤ T) (t2 : T ≤ 1825) {v0 v2 : Int32} (e0 : v0 = M 1 0) (e2 : v2 = M 8 i) (hR : R9 m G1 (g_X7_issue_7 M i f (nI T))) : R26 m G1 (g_X7_issue_7 M i f (nI T)) (up2 (up2 (up2 S 3 (15 * i + 3 * f) v0) 3 (15 * i + 3 * f + 1) (nI T)) 3 (15 * i + 3 * f + 2) v2) Wf := by
  refine ⟨hR, h.b, h.x, fun k hk => ?_, h.ru, h.a, h.d, h.e, h.f, h.w, h.g, h.su, h.bb⟩
  show C1 (upd (M 18) (5 * i + f) 1 k) (upd (M 19) (5 * i + f) (M 1 0) k) (upd (M 20) (5 * i + f) (nI T) k) (upd (M 21) (5 * i + f) (M 8 i) k) (upd (M 22) (5 * i + f) 0 k) (upd (upd (upd (S 3) (15 * i + 3 * f) v0) (15 * i + 3 * f + 1) (nI T)) (15 * i + 3 * f + 2) v2 (3 * k)) (upd (upd (upd (S 3) (15 * i + 3 * f) v0) (15 * i + 3 * f + 1) (nI T)) (15 * i + 3 * f + 2) v2 (3 * k + 1)) (upd (upd (upd (S 3) (15 * i + 3 * f) v0) (15 * i + 3 * f + 1) (nI T)) (15 * i + 3 * f + 2) v2 (3 * k + 2))
  by_cases c : k = 5 * i + f
  · obtain ⟨t, t3, t4⟩ := h.td
    obtain ⟨b, b1, b2⟩ := h.b8 i
    have q0 : 3 * k = 15 * i + 3 * f := by omega
    rw [q0, c, pk_us, pk_us, pk_us, pk_us, pk_us, pk_un (by omega : 15 * i + 3 * f ≠ 15 * i + 3 * f + 2), pk_un (by omega : 15 * i + 3 * f ≠ 15 * i + 3 * f + 1), pk_us, pk_un (by omega : 15 * i + 3 * f + 1 ≠ 15 * i + 3 * f + 2), pk_us, pk_us, e0, e2, t4, b2]
    exact Or.inr ⟨t, T, b, 0, rfl, t3, t1, t2, b1, by decide, rfl, rfl, rfl, rfl, rfl, rfl, rfl⟩
  · rw [pk_un c, pk_un c, pk_un c, pk_un c, pk_un c, pk_un (by omega), pk_un (by omega), pk_un (by omega), pk_un (by omega), pk_un (by omega), pk_un (by omega), pk_un (by omega), pk_un (by omega), pk_un (by omega)]
    exact h.c k hk
theorem st_endorse (h : R26 n G M S Wf) {i f y : Nat} (hi : i < 4) (hf : f < 5) (y1 : 1 ≤ y) (y4 : y ≤ 4) (c18 : ¬ M 18 (5 * i + f) = 0) (ha : f_X7_anniversary (g_X7_endorse_2 M i f) (5 * i + f) = nI y) {v2 : Int32} (e2 : v2 = S 3 (15 * i + 3 * f + 2) ||| (4 : Int32) <<< (nI y &&& 31)) (hR : R9 m G1 (g_X7_endorse_3 M i f)) : R26 m G1 (g_X7_endorse_3 M i f) (up2 S 3 (15 * i + 3 * f + 2) v2) Wf := by
  refine ⟨hR, h.b, h.x, fun k hk => ?_, h.ru, h.a, h.d, h.e, h.f, h.w, h.g, h.su, h.bb⟩
  show C1 (M 18 k) (M 19 k) (M 20 k) (M 21 k) (upd (M 22) (5 * i + f) ((M 22 (5 * i + f)) ||| ((1 : Int32) <<< ((f_X7_anniversary (g_X7_endorse_2 M i f) (5 * i + f)) &&& 31))) k) (upd (S 3) (15 * i + 3 * f + 2) v2 (3 * k)) (upd (S 3) (15 * i + 3 * f + 2) v2 (3 * k + 1)) (upd (S 3) (15 * i + 3 * f + 2) v2 (3 * k + 2))
  rw [pk_un (by omega : 3 * k ≠ 15 * i + 3 * f + 2), pk_un (by omega : 3 * k + 1 ≠ 15 * i + 3 * f + 2)]
  by_cases c : k = 5 * i + f
  · have q2 : 3 * k + 2 = 15 * i + 3 * f + 2 := by omega
    have hk9 := h.c k hk
    rw [q2] at hk9 ⊢
    rw [pk_us, c, pk_us, ha, e2]
    rw [c] at hk9
    rcases hk9 with ⟨q, -⟩ | ⟨D, T, b, e, a1, a2, a3, a4, a5, a6, a7, a8, a9, aa, ab, ac, ad⟩
    · exact absurd q c18
    · rw [ad, aa]
      have key : ∀ b, b < 4 → ∀ e, e < 16 → ∀ y, y < 5 → 1 ≤ y → ∃ e9, e9 < 16 ∧ (nI (2 * e) ||| ((1 : Int32) <<< (nI y &&& 31))) = nI (2 * e9) ∧ (nI (b + 8 * e) ||| (4 : Int32) <<< (nI y &&& 31)) = nI (b + 8 * e9) := by decide +kernel
      obtain ⟨e9, f1, f2, f3⟩ := key b a5 e a6 y (by omega) y1
      rw [f2, f3]
      exact Or.inr ⟨D, T, b, e9, a1, a2, a3, a4, a5, f1, a7, a8, a9, rfl, ab, ac, rfl⟩
  · rw [pk_un c, pk_un (by omega)]
    exact h.c k hk
theorem st_suspend (h : R26 n G M S Wf) {i : Nat} {x v : Int32} (hi : i < 4) (hx : x = 0 ∨ x = 1) (ev : v = if x = 0 then S 10 7 &&& (((1 : Int32) <<< (nI i &&& 31)) ^^^ (-1)) else S 10 7 ||| ((1 : Int32) <<< (nI i &&& 31))) (hR : R9 m G1 (g_X7_suspend_2 M i x)) : R26 m G1 (g_X7_suspend_2 M i x) (up2 S 10 7 v) Wf := by
  have h0 : ∀ k, k ≠ 7 → upd (S 10) 7 v k = S 10 k := fun k hk => pk_un hk
  refine ⟨hR, h.b, h.x, h.c, h.ru, h.a, h.d, h.e, h.f, h.w, ⟨(h0 0 (by decide)).trans h.g.1, (h0 1 (by decide)).trans h.g.2.1, (h0 2 (by decide)).trans h.g.2.2.1, (h0 8 (by decide)).trans h.g.2.2.2.1, fun q hq => (h0 (3 + q) (by omega)).trans (h.g.2.2.2.2 q hq)⟩, ?_, h.bb⟩
  obtain ⟨b, b1, b2, b3⟩ := h.su
  obtain ⟨k3, k4, k1, k2⟩ := sus_k1 b b1 i hi
  have k5 := sus_k2 b b1 i hi
  rw [b2, k3, k4] at ev
  rcases hx with q | q
  · rw [if_pos q] at ev
    refine ⟨_, k1, (show upd (S 10) 7 v 7 = nI (b &&& (15 - 2 ^ i)) from pk_us.trans ev), fun j hj => ?_⟩
    rw [(k5 j hj).1]
    show upd (M 2) i x j = _
    by_cases c : j = i
    · rw [if_pos c, c, pk_us, q]; rfl
    · rw [if_neg c, pk_un c, b3 j hj]
  · rw [if_neg (by rw [q]; decide)] at ev
    refine ⟨_, k2, (show upd (S 10) 7 v 7 = nI (b ||| 2 ^ i) from pk_us.trans ev), fun j hj => ?_⟩
    rw [(k5 j hj).2]
    show upd (M 2) i x j = _
    by_cases c : j = i
    · rw [if_pos c, c, pk_us, q]; rfl
    · rw [if_neg c, pk_un c, b3 j hj]
theorem st_rule (h : R26 n G M S Wf) {a b c d e v : Int32} (h10 : gnR M < 10) (hv : v = S 10 1 + 1) (hR : R9 m G1 (g_X7_rule_7 M a b c d e)) : R26 m G1 (g_X7_rule_7 M a b c d e) (up2 (up2 (up2 (up2 (up2 (up2 S 4 (5 * gnR M) a) 4 (5 * gnR M + 1) b) 4 (5 * gnR M + 2) c) 4 (5 * gnR M + 3) d) 4 (5 * gnR M + 4) e) 10 1 v) Wf := by
  have e23 : (g_X7_rule_7 M a b c d e) 23 0 = nI (gnR M) + 1 := rfl
  have eR : gnR (g_X7_rule_7 M a b c d e) = gnR M + 1 := by
    show ((g_X7_rule_7 M a b c d e) 23 0).toNatClampNeg = _
    rw [e23, nI_1, nI_clamp (by omega)]
  have h0 : ∀ k, k ≠ 1 → upd (S 10) 1 v k = S 10 k := fun k hk => pk_un hk
  refine ⟨hR, ⟨h.b.1, by rw [eR]; omega, h.b.2.2⟩, h.x, h.c, fun k hk => ?_, h.a, h.d, h.e, h.f, h.w, ⟨(h0 0 (by decide)).trans h.g.1, ?_, (h0 2 (by decide)).trans h.g.2.2.1, (h0 8 (by decide)).trans h.g.2.2.2.1, fun q hq => (h0 (3 + q) (by omega)).trans (h.g.2.2.2.2 q hq)⟩, ?_, h.bb⟩
  · rw [eR] at hk
    show (upd (upd (upd (upd (upd (S 4) (5 * gnR M) a) (5 * gnR M + 1) b) (5 * gnR M + 2) c) (5 * gnR M + 3) d) (5 * gnR M + 4) e) (5 * k) = upd (M 24) (gnR M) a k ∧ (upd (upd (upd (upd (upd (S 4) (5 * gnR M) a) (5 * gnR M + 1) b) (5 * gnR M + 2) c) (5 * gnR M + 3) d) (5 * gnR M + 4) e) (5 * k + 1) = upd (M 25) (gnR M) b k ∧ (upd (upd (upd (upd (upd (S 4) (5 * gnR M) a) (5 * gnR M + 1) b) (5 * gnR M + 2) c) (5 * gnR M + 3) d) (5 * gnR M + 4) e) (5 * k + 2) = upd (M 26) (gnR M) c k ∧ (upd (upd (upd (upd (upd (S 4) (5 * gnR M) a) (5 * gnR M + 1) b) (5 * gnR M + 2) c) (5 * gnR M + 3) d) (5 * gnR M + 4) e) (5 * k + 3) = upd (M 27) (gnR M) d k ∧ (upd (upd (upd (upd (upd (S 4) (5 * gnR M) a) (5 * gnR M + 1) b) (5 * gnR M + 2) c) (5 * gnR M + 3) d) (5 * gnR M + 4) e) (5 * k + 4) = upd (M 28) (gnR M) e k
    by_cases ck : k = gnR M
    · subst ck
      refine ⟨?_, ?_, ?_, ?_, ?_⟩
      · rw [pk_un (by omega), pk_un (by omega), pk_un (by omega), pk_un (by omega), pk_us, pk_us]
      · rw [pk_un (by omega), pk_un (by omega), pk_un (by omega), pk_us, pk_us]
      · rw [pk_un (by omega), pk_un (by omega), pk_us, pk_us]
      · rw [pk_un (by omega), pk_us, pk_us]
      · rw [pk_us, pk_us]
    · obtain ⟨q0, q1, q2, q3, q4⟩ := h.ru k (by omega)
      rw [pk_un ck, pk_un ck, pk_un ck, pk_un ck, pk_un ck]
      refine ⟨?_, ?_, ?_, ?_, ?_⟩
      · rw [pk_un (by omega), pk_un (by omega), pk_un (by omega), pk_un (by omega), pk_un (by omega)]; exact q0
      · rw [pk_un (by omega), pk_un (by omega), pk_un (by omega), pk_un (by omega), pk_un (by omega)]; exact q1
      · rw [pk_un (by omega), pk_un (by omega), pk_un (by omega), pk_un (by omega), pk_un (by omega)]; exact q2
      · rw [pk_un (by omega), pk_un (by omega), pk_un (by omega), pk_un (by omega), pk_un (by omega)]; exact q3
      · rw [pk_un (by omega), pk_un (by omega), pk_un (by omega), pk_un (by omega), pk_un (by omega)]; exact q4
  · show upd (S 10) 1 v 1 = (g_X7_rule_7 M a b c d e) 23 0
    rw [pk_us, hv, h.g1, e23, h.nR]
  · obtain ⟨b0, b1, b2, b3⟩ := h.su
    exact ⟨b0, b1, (show upd (S 10) 1 v 7 = nI b0 from (pk_un (by decide)).trans b2), b3⟩
end ST
