/-! the law's rows against the reference's state M: Q26; with what M is to the program's state G: R26 -/
def dF (x : Int32) (j : Nat) : Int32 := (x >>> ((nI (2 * j)) &&& 31)) &&& 3
def dW (x : Int64) (j : Nat) : Int32 := ((x >>> ((nI (4 * j)).toInt64 &&& 63)) &&& (15 : Int64)).toInt32
def QX (n j : Nat) (x m : Nat → Int32) : Prop := ∀ s, s < n → x (14 * s + j) = m s
def Q12 (n : Nat) (x m : Nat → Int32) : Prop := ∀ s, s < n → x (14 * s + 12) = m s ∨ (x (14 * s + 12) = 99999 ∧ m s = 100000)
def C1 (x18 x19 x20 x21 x22 c0 c1 c2 : Int32) : Prop := (x18 = 0 ∧ c0 = -1) ∨ ∃ D T b e : Nat, x18 = 1 ∧ D ≤ 9000 ∧ 1 ≤ T ∧ T ≤ 1825 ∧ b < 4 ∧ e < 16 ∧ x19 = nI D ∧ x20 = nI T ∧ x21 = nI b ∧ x22 = nI (2 * e) ∧ c0 = nI D ∧ c1 = nI T ∧ c2 = nI (b + 8 * e)
def QC (c m18 m19 m20 m21 m22 : Nat → Int32) : Prop := ∀ k, k < 20 → C1 (m18 k) (m19 k) (m20 k) (m21 k) (m22 k) (c (3 * k)) (c (3 * k + 1)) (c (3 * k + 2))
def QR (n : Nat) (r m24 m25 m26 m27 m28 : Nat → Int32) : Prop := ∀ k, k < n → r (5 * k) = m24 k ∧ r (5 * k + 1) = m25 k ∧ r (5 * k + 2) = m26 k ∧ r (5 * k + 3) = m27 k ∧ r (5 * k + 4) = m28 k
def aN (s p k f c y1 y2 y3 y4 : Nat) : Nat := s + 4 * p + 16 * k + 64 * f + 512 * c + 8192 * y1 + 16384 * y2 + 65536 * y3 + 262144 * y4
def A1 (x30 x31 x33 x34 x35 x39 x40 x41 x42 a : Int32) : Prop := ∃ s p k f c y1 y2 y3 y4 : Nat, (s < 4 ∧ p < 4 ∧ k < 3 ∧ f < 3 ∧ c ≤ 12 ∧ y1 ≤ 1 ∧ y2 ≤ 2 ∧ y3 ≤ 2 ∧ y4 ≤ 1) ∧ x30 = nI s ∧ x31 = nI p ∧ x33 = nI k ∧ x34 = nI f ∧ x35 = nI c ∧ x39 = nI y1 ∧ x40 = nI y2 ∧ x41 = nI y3 ∧ x42 = nI y4 ∧ a = nI (aN s p k f c y1 y2 y3 y4)
def QA (n : Nat) (a m30 m31 m33 m34 m35 m39 m40 m41 m42 : Nat → Int32) : Prop := ∀ v, v < n → A1 (m30 v) (m31 v) (m33 v) (m34 v) (m35 v) (m39 v) (m40 v) (m41 v) (m42 v) (a v)
def QD (n : Nat) (d m32 : Nat → Int32) : Prop := ∀ v, v < n → d v = m32 v ∧ ∃ D, D ≤ 9000 ∧ m32 v = nI D
def QE (n : Nat) (e m38 : Nat → Int32) : Prop := ∀ v, v < n → e v = m38 v
def QF (f m35 m37 : Nat → Int32) : Prop := ∀ v j, v < 50 → j < 12 → dF (f v) j = if j < (m35 v).toNatClampNeg then m37 (12 * v + j) else 0
def QW (w : Nat → Int64) (m35 m36 : Nat → Int32) : Prop := ∀ v, v < 50 → ∃ N, w v = lN N ∧ N < 16 ^ (m35 v).toNatClampNeg ∧ ∀ j, j < (m35 v).toNatClampNeg → m36 (12 * v + j) = nI (N / 16 ^ j % 16)
def QG (g m1 m3 m23 m29 m43 : Nat → Int32) : Prop := g 0 = m1 0 ∧ g 1 = m23 0 ∧ g 2 = m29 0 ∧ g 8 = m3 0 ∧ ∀ p, p < 4 → g (3 + p) = m43 p
def QS (g m2 : Nat → Int32) : Prop := ∃ b : Nat, b < 16 ∧ g 7 = nI b ∧ ∀ i, i < 4 → m2 i = nI (b / 2 ^ i % 2)
def QB (n : Nat) (m4 m6 m7 : Nat → Int32) : Prop := ∀ s, s < n → (-10000 ≤ (m4 s).toInt ∧ (m4 s).toInt ≤ 9000) ∧ (∃ k : Nat, k < 3 ∧ m6 s = nI k) ∧ ∃ f : Nat, f < 3 ∧ m7 s = nI f
def QXA (n : Nat) (x : Nat → Int32) (M : GS) : Prop := QX n 0 x (M 4) ∧ QX n 1 x (M 5) ∧ QX n 2 x (M 6) ∧ QX n 3 x (M 7) ∧ QX n 4 x (M 8) ∧ QX 4 5 x (M 9) ∧ QX n 6 x (M 10) ∧ QX n 7 x (M 11) ∧ QX n 8 x (M 12) ∧ QX n 9 x (M 13) ∧ QX 4 10 x (M 14) ∧ QX 4 11 x (M 15) ∧ Q12 n x (M 16) ∧ QX 4 13 x (M 17)
def Q26 (M S : GS) (Wf : Nat → Int64) : Prop := QXA (gnS M) (S 2) M ∧ QC (S 3) (M 18) (M 19) (M 20) (M 21) (M 22) ∧ QR (gnR M) (S 4) (M 24) (M 25) (M 26) (M 27) (M 28) ∧ QA (gnV M) (S 5) (M 30) (M 31) (M 33) (M 34) (M 35) (M 39) (M 40) (M 41) (M 42) ∧ QD (gnV M) (S 6) (M 32) ∧ QE (gnV M) (S 7) (M 38) ∧ QF (S 8) (M 35) (M 37) ∧ QW Wf (M 35) (M 36) ∧ QG (S 10) (M 1) (M 3) (M 23) (M 29) (M 43) ∧ QS (S 10) (M 2) ∧ QB (gnS M) (M 4) (M 6) (M 7)
def R26 (n : Nat) (G M S : GS) (Wf : Nat → Int64) : Prop := R9 n G M ∧ (gnS M ≤ 4 ∧ gnR M ≤ 10 ∧ gnV M ≤ 50) ∧ Q26 M S Wf
section R26s
variable {n : Nat} {G M S : GS} {Wf : Nat → Int64}
theorem R26.r (h : R26 n G M S Wf) : R9 n G M := h.1
theorem R26.b (h : R26 n G M S Wf) : gnS M ≤ 4 ∧ gnR M ≤ 10 ∧ gnV M ≤ 50 := h.2.1
theorem R26.x (h : R26 n G M S Wf) : QXA (gnS M) (S 2) M := h.2.2.1
theorem R26.c (h : R26 n G M S Wf) : QC (S 3) (M 18) (M 19) (M 20) (M 21) (M 22) := h.2.2.2.1
theorem R26.ru (h : R26 n G M S Wf) : QR (gnR M) (S 4) (M 24) (M 25) (M 26) (M 27) (M 28) := h.2.2.2.2.1
theorem R26.a (h : R26 n G M S Wf) : QA (gnV M) (S 5) (M 30) (M 31) (M 33) (M 34) (M 35) (M 39) (M 40) (M 41) (M 42) := h.2.2.2.2.2.1
theorem R26.d (h : R26 n G M S Wf) : QD (gnV M) (S 6) (M 32) := h.2.2.2.2.2.2.1
theorem R26.e (h : R26 n G M S Wf) : QE (gnV M) (S 7) (M 38) := h.2.2.2.2.2.2.2.1
theorem R26.f (h : R26 n G M S Wf) : QF (S 8) (M 35) (M 37) := h.2.2.2.2.2.2.2.2.1
theorem R26.w (h : R26 n G M S Wf) : QW Wf (M 35) (M 36) := h.2.2.2.2.2.2.2.2.2.1
theorem R26.g (h : R26 n G M S Wf) : QG (S 10) (M 1) (M 3) (M 23) (M 29) (M 43) := h.2.2.2.2.2.2.2.2.2.2.1
theorem R26.su (h : R26 n G M S Wf) : QS (S 10) (M 2) := h.2.2.2.2.2.2.2.2.2.2.2.1
theorem R26.bb (h : R26 n G M S Wf) : QB (gnS M) (M 4) (M 6) (M 7) := h.2.2.2.2.2.2.2.2.2.2.2.2
theorem R26.x0 (h : R26 n G M S Wf) {s : Nat} (hs : s < gnS M) : S 2 (14 * s) = M 4 s := h.x.1 s hs
theorem R26.x1 (h : R26 n G M S Wf) {s : Nat} (hs : s < gnS M) : S 2 (14 * s + 1) = M 5 s := h.x.2.1 s hs
theorem R26.x2 (h : R26 n G M S Wf) {s : Nat} (hs : s < gnS M) : S 2 (14 * s + 2) = M 6 s := h.x.2.2.1 s hs
theorem R26.x3 (h : R26 n G M S Wf) {s : Nat} (hs : s < gnS M) : S 2 (14 * s + 3) = M 7 s := h.x.2.2.2.1 s hs
theorem R26.x4 (h : R26 n G M S Wf) {s : Nat} (hs : s < gnS M) : S 2 (14 * s + 4) = M 8 s := h.x.2.2.2.2.1 s hs
theorem R26.x5 (h : R26 n G M S Wf) {s : Nat} (hs : s < 4) : S 2 (14 * s + 5) = M 9 s := h.x.2.2.2.2.2.1 s hs
theorem R26.x6 (h : R26 n G M S Wf) {s : Nat} (hs : s < gnS M) : S 2 (14 * s + 6) = M 10 s := h.x.2.2.2.2.2.2.1 s hs
theorem R26.x7 (h : R26 n G M S Wf) {s : Nat} (hs : s < gnS M) : S 2 (14 * s + 7) = M 11 s := h.x.2.2.2.2.2.2.2.1 s hs
theorem R26.x8 (h : R26 n G M S Wf) {s : Nat} (hs : s < gnS M) : S 2 (14 * s + 8) = M 12 s := h.x.2.2.2.2.2.2.2.2.1 s hs
theorem R26.x9 (h : R26 n G M S Wf) {s : Nat} (hs : s < gnS M) : S 2 (14 * s + 9) = M 13 s := h.x.2.2.2.2.2.2.2.2.2.1 s hs
theorem R26.x10 (h : R26 n G M S Wf) {s : Nat} (hs : s < 4) : S 2 (14 * s + 10) = M 14 s := h.x.2.2.2.2.2.2.2.2.2.2.1 s hs
theorem R26.x11 (h : R26 n G M S Wf) {s : Nat} (hs : s < 4) : S 2 (14 * s + 11) = M 15 s := h.x.2.2.2.2.2.2.2.2.2.2.2.1 s hs
theorem R26.x12 (h : R26 n G M S Wf) {s : Nat} (hs : s < gnS M) : S 2 (14 * s + 12) = M 16 s ∨ (S 2 (14 * s + 12) = 99999 ∧ M 16 s = 100000) := h.x.2.2.2.2.2.2.2.2.2.2.2.2.1 s hs
theorem R26.x13 (h : R26 n G M S Wf) {s : Nat} (hs : s < 4) : S 2 (14 * s + 13) = M 17 s := h.x.2.2.2.2.2.2.2.2.2.2.2.2.2 s hs
theorem R26.g0 (h : R26 n G M S Wf) : S 10 0 = M 1 0 := h.g.1
theorem R26.g1 (h : R26 n G M S Wf) : S 10 1 = M 23 0 := h.g.2.1
theorem R26.g2 (h : R26 n G M S Wf) : S 10 2 = M 29 0 := h.g.2.2.1
theorem R26.g8 (h : R26 n G M S Wf) : S 10 8 = M 3 0 := h.g.2.2.2.1
theorem R26.eV (h : R26 n G M S Wf) : gv S = gnV M := by unfold gv gnV; rw [h.g2]
theorem R26.eR (h : R26 n G M S Wf) : gr S = gnR M := by unfold gr gnR; rw [h.g1]
theorem R26.nS (h : R26 n G M S Wf) : M 3 0 = nI (gnS M) := h.r.im.1.1
theorem R26.nR (h : R26 n G M S Wf) : M 23 0 = nI (gnR M) := h.r.im.2.1.1
theorem R26.nV (h : R26 n G M S Wf) : M 29 0 = nI (gnV M) := h.r.im.2.2.1.1
theorem R26.hV (h : R26 n G M S Wf) : S 10 2 = nI (gv S) ∧ gv S ≤ 50 := by rw [h.eV, h.g2]; exact ⟨h.nV, h.b.2.2⟩
theorem R26.hR (h : R26 n G M S Wf) : S 10 1 = nI (gr S) ∧ gr S ≤ 10 := by rw [h.eR, h.g1]; exact ⟨h.nR, h.b.2.1⟩
theorem R26.td (h : R26 n G M S Wf) : ∃ t : Nat, t ≤ 9000 ∧ M 1 0 = nI t := by
  obtain ⟨t, t1, t2⟩ := h.r.b1
  exact ⟨t, t1, by rw [h.r.q 1, t2]⟩
theorem R26.b8 (h : R26 n G M S Wf) (s : Nat) : ∃ b : Nat, b < 4 ∧ M 8 s = nI b := by
  obtain ⟨t, t1, t2⟩ := h.r.b8 s
  exact ⟨t, t1, by rw [h.r.q 8, t2]⟩
theorem R26.fc (h : R26 n G M S Wf) {v : Nat} (hv : v < gnV M) : M 35 v = nI (gnF M v) ∧ gnF M v ≤ 12 := h.r.im.f (by have := h.b.2.2; omega)
theorem R26.f0 (h : R26 n G M S Wf) {v : Nat} (hv : gnV M ≤ v) : gnF M v = 0 := by
  have e := h.r.za.2.2.2.2.2.2.2.1 v (by rw [← h.r.V]; exact hv)
  unfold gnF
  rw [h.r.q 35, e]
  rfl
theorem R26.cok (h : R26 n G M S Wf) : ∀ k, k < 20 → ¬ S 3 (3 * k) = -1 → cOK S k := fun k hk hn => by
  rcases h.c k hk with ⟨-, q⟩ | ⟨D, T, b, e, q1, q2, q3, q4, q5, q6, q7, q8, q9, qa, qb, qc, qd⟩
  · exact absurd q hn
  · unfold cOK cD cT
    rw [qb, qc, nI_clamp (by omega), nI_clamp (by omega)]
    exact ⟨rfl, q2, rfl, q3, q4⟩
theorem R26.la (h : R26 n G M S Wf) {s : Nat} (hs : s < gnS M) : ¬ S 2 (14 * s + 8) = -1 → vp_in (S 2 (14 * s + 8)) 50 := fun hn => by
  rw [h.x8 hs] at hn ⊢
  rw [h.r.q 12] at hn ⊢
  have q := h.r.ic.re 12 (by decide) (by rw [← h.r.S]; exact hs) hn
  rw [q.1]
  exact vp_in_nI (Nat.lt_of_lt_of_le q.2 (by rw [← h.r.V]; exact h.b.2.2)) (by decide)
end R26s
theorem A1.g {x30 x31 x33 x34 x35 x39 x40 x41 x42 a : Int32} (h : A1 x30 x31 x33 x34 x35 x39 x40 x41 x42 a) : a &&& 3 = x30 ∧ (a >>> (2 &&& 31)) &&& 3 = x31 ∧ (a >>> (4 &&& 31)) &&& 3 = x33 ∧ (a >>> (6 &&& 31)) &&& 7 = x34 ∧ f_L_findings a = x35 ∧ (f_L_info a) &&& 1 = x39 ∧ ((f_L_info a) >>> (1 &&& 31)) &&& 3 = x40 ∧ ((f_L_info a) >>> (3 &&& 31)) &&& 3 = x41 ∧ ((f_L_info a) >>> (5 &&& 31)) &&& 1 = x42 := by
  obtain ⟨s, p, k, f, c, y1, y2, y3, y4, ⟨b1, b2, b3, b4, b5, b6, b7, b8, b9⟩, e1, e2, e3, e4, e5, e6, e7, e8, e9, ea⟩ := h
  rw [ea, e1, e2, e3, e4, e5, e6, e7, e8, e9]
  have hN : aN s p k f c y1 y2 y3 y4 < 2 ^ 20 := by unfold aN; omega
  have h13 : f_L_info (nI (aN s p k f c y1 y2 y3 y4)) = nI (aN s p k f c y1 y2 y3 y4 / 2 ^ 13) := pk_shrN (by omega) _ 13 (by decide)
  unfold f_L_findings
  rw [h13]
  refine ⟨?_, ?_, ?_, ?_, ?_, ?_, ?_, ?_, ?_⟩
  · rw [pk_andN (by omega) 2 (by decide)]; congr 1; unfold aN; omega
  · rw [pk_shrN (by omega) _ 2 (by decide), pk_andN (by omega) 2 (by decide)]; congr 1; unfold aN; omega
  · rw [pk_shrN (by omega) _ 4 (by decide), pk_andN (by omega) 2 (by decide)]; congr 1; unfold aN; omega
  · rw [pk_shrN (by omega) _ 6 (by decide), pk_andN (by omega) 3 (by decide)]; congr 1; unfold aN; omega
  · rw [pk_shrN (by omega) _ 9 (by decide), pk_andN (by omega) 4 (by decide)]; congr 1; unfold aN; omega
  · rw [pk_andN (by omega) 1 (by decide)]; congr 1; unfold aN; omega
  · rw [pk_shrN (by omega) _ 1 (by decide), pk_andN (by omega) 2 (by decide)]; congr 1; unfold aN; omega
  · rw [pk_shrN (by omega) _ 3 (by decide), pk_andN (by omega) 2 (by decide)]; congr 1; unfold aN; omega
  · rw [pk_shrN (by omega) _ 5 (by decide), pk_andN (by omega) 1 (by decide)]; congr 1; unfold aN; omega
