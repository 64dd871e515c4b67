/-! digits of findings, weights: one more, one changed -/
theorem bt3 (t : Nat) : bt 3 t = decide (t < 2) := by
  rcases Nat.lt_or_ge t 32 with h | h
  · exact (by decide +kernel : ∀ t, t < 32 → bt 3 t = decide (t < 2)) t h
  · rw [b_big h, decide_eq_false (by omega)]
theorem bty {y : Int32} (hy : y = 1 ∨ y = 2) {t : Nat} (ht : 2 ≤ t) : bt y t = false := by
  rcases Nat.lt_or_ge t 32 with h | h
  · rcases hy with q | q
    · rw [q]; exact (by decide +kernel : ∀ t, t < 32 → 2 ≤ t → bt 1 t = false) t h ht
    · rw [q]; exact (by decide +kernel : ∀ t, t < 32 → 2 ≤ t → bt 2 t = false) t h ht
  · exact b_big h
theorem dF_bt (x : Int32) {j t : Nat} (hj : j < 12) (ht : t < 32) : bt (dF x j) t = (decide (t < 2) && bt x (2 * j + t)) := by
  unfold dF
  rw [b_and, bt3, b_sshr (2 * j) (by omega) x ht]
  by_cases c : t < 2
  · rw [if_pos (by omega), Bool.and_comm]
  · rw [decide_eq_false c, Bool.and_false, Bool.false_and]
theorem dF_set (x : Int32) {y : Int32} (hy : y = 1 ∨ y = 2) {b j : Nat} (hb : b < 12) (hj : j < 12) : dF ((x &&& (((3 : Int32) <<< ((nI (2 * b)) &&& 31)) ^^^ (-1))) ||| (y <<< ((nI (2 * b)) &&& 31))) j = if j = b then y else dF x j := by
  apply b_ext
  intro t ht
  rw [dF_bt _ hj ht]
  by_cases c2 : t < 2
  · have hq : 2 * j + t < 32 := by omega
    rw [decide_eq_true c2, Bool.true_and, b_or, b_and, b_xor, b_m1 _ hq, b_shl (2 * b) (by omega) _ hq, b_shl (2 * b) (by omega) _ hq, bt3]
    by_cases c : j = b
    · rw [if_pos c, c, decide_eq_true (by omega : 2 * b ≤ 2 * b + t), decide_eq_true (by omega : 2 * b + t - 2 * b < 2), show 2 * b + t - 2 * b = t by omega]
      simp
    · rw [if_neg c, dF_bt _ hj ht, decide_eq_true c2, Bool.true_and]
      rcases Nat.lt_or_ge j b with q | q
      · rw [decide_eq_false (by omega : ¬ 2 * b ≤ 2 * j + t)]
        simp
      · rw [decide_eq_false (by omega : ¬ 2 * j + t - 2 * b < 2), bty hy (by omega : 2 ≤ 2 * j + t - 2 * b)]
        simp
  · rw [decide_eq_false c2, Bool.false_and]
    by_cases c : j = b
    · rw [if_pos c, bty hy (by omega)]
    · rw [if_neg c, dF_bt _ hj ht, decide_eq_false c2, Bool.false_and]
theorem pw16 {j c : Nat} (h : j < c) : ∃ q, 16 ^ c = 16 ^ j * (16 * q) := ⟨16 ^ (c - j - 1), by
  rw [← Nat.pow_succ', ← Nat.pow_add]
  congr 1
  omega⟩
theorem dig_lo {N w c j : Nat} (hj : j < c) : (N + w * 16 ^ c) / 16 ^ j % 16 = N / 16 ^ j % 16 := by
  obtain ⟨q, hq⟩ := pw16 hj
  have e : N + w * 16 ^ c = N + 16 ^ j * (16 * (w * q)) := by
    rw [hq]
    congr 1
    rw [Nat.mul_left_comm, Nat.mul_left_comm w 16 q]
  rw [e, Nat.add_mul_div_left _ _ (Nat.pow_pos (by decide)), Nat.add_mul_mod_self_left]
theorem dig_hi {N w c : Nat} (hN : N < 16 ^ c) (hw : w < 16) : (N + w * 16 ^ c) / 16 ^ c % 16 = w := by
  rw [Nat.add_mul_div_right _ _ (Nat.pow_pos (by decide)), Nat.div_eq_of_lt hN, Nat.zero_add, Nat.mod_eq_of_lt hw]
section ST3
variable {n m : Nat} {G G1 M S : GS} {Wf : Nat → Int64}
theorem st_mends (h : R26 n G M S Wf) {v j : Nat} {x y a : Int32} (hv : v < gnV M) (hj : j < gnF M v) (ey : y = if x = 0 then 1 else 2) (ea : a = (S 8 v &&& (((3 : Int32) <<< ((nI (2 * j)) &&& 31)) ^^^ (-1))) ||| (y <<< ((nI (2 * j)) &&& 31))) (hR : R9 m G1 (g_X7_mends_3 M v j x)) : R26 m G1 (g_X7_mends_3 M v j x) (up2 S 8 v a) Wf := by
  have hv50 := h.b.2.2
  have hj12 := (h.fc hv).2
  refine ⟨hR, h.b, h.x, h.c, h.ru, h.a, h.d, h.e, fun u k hu hk => ?_, h.w, h.g, h.su, h.bb⟩
  show dF (upd (S 8) v a u) k = if k < (M 35 u).toNatClampNeg then upd (M 37) (12 * v + j) (if x = 0 then 1 else 2) (12 * u + k) else 0
  have hy : y = 1 ∨ y = 2 := by
    rw [ey]
    by_cases c : x = 0
    · rw [if_pos c]; exact Or.inl rfl
    · rw [if_neg c]; exact Or.inr rfl
  by_cases c : u = v
  · rw [c, pk_us, ea, dF_set _ hy (by omega) hk]
    by_cases ck : k = j
    · rw [if_pos ck, ck, if_pos (show j < (M 35 v).toNatClampNeg from hj), pk_us, ey]
    · rw [if_neg ck, h.f v k (by omega) hk]
      by_cases cl : k < (M 35 v).toNatClampNeg
      · rw [if_pos cl, if_pos cl, pk_un (by omega)]
      · rw [if_neg cl, if_neg cl]
  · rw [pk_un c, h.f u k hu hk]
    by_cases cl : k < (M 35 u).toNatClampNeg
    · rw [if_pos cl, if_pos cl, pk_un (by omega)]
    · rw [if_neg cl, if_neg cl]
theorem fd_FW (h : R26 n G M S Wf) {v s w : Nat} {x : Int32} {l : Int64} (hv : v < gnV M) (hf : gnF M v < 12) (w1 : 1 ≤ w) (w2 : w ≤ 10) (el : l = Wf v ||| ((nI w).toInt64 <<< ((nI (4 * gnF M v)).toInt64 &&& 63))) : QF (S 8) ((g_X7_finds_6 M v x (nI w) s) 35) ((g_X7_finds_6 M v x (nI w) s) 37) ∧ QW (vp_updL Wf v l) ((g_X7_finds_6 M v x (nI w) s) 35) ((g_X7_finds_6 M v x (nI w) s) 36) := by
  have hv50 := h.b.2.2
  have e35 : (g_X7_finds_6 M v x (nI w) s) 35 = upd (M 35) v ((nI (gnF M v)) + 1) := rfl
  have e36 : (g_X7_finds_6 M v x (nI w) s) 36 = upd (M 36) (12 * v + gnF M v) (nI w) := rfl
  have e37 : (g_X7_finds_6 M v x (nI w) s) 37 = upd (M 37) (12 * v + gnF M v) 0 := rfl
  have c35 : (upd (M 35) v ((nI (gnF M v)) + 1) v).toNatClampNeg = gnF M v + 1 := by rw [pk_us, nI_1, nI_clamp (by omega)]
  have o12 : ∀ u, u < 50 → gnF M u ≤ 12 := fun u hu => by
    rcases Nat.lt_or_ge u (gnV M) with q | q
    · exact (h.fc q).2
    · rw [h.f0 q]; decide
  rw [e35, e36, e37]
  constructor
  · intro u k hu hk
    rw [h.f u k hu hk]
    by_cases c : u = v
    · rw [c, c35]
      by_cases ck : k < gnF M v
      · rw [if_pos (show k < (M 35 v).toNatClampNeg from ck), if_pos (by omega), pk_un (by omega)]
      · rw [if_neg (show ¬ k < (M 35 v).toNatClampNeg from ck)]
        by_cases ce : k = gnF M v
        · rw [if_pos (by omega), ce, pk_us]
        · rw [if_neg (by omega)]
    · rw [pk_un c]
      by_cases cl : k < (M 35 u).toNatClampNeg
      · rw [if_pos cl, if_pos cl, pk_un (by have := o12 u hu; omega)]
      · rw [if_neg cl, if_neg cl]
  · intro u hu
    by_cases c : u = v
    · rw [c, c35, pk_uLs]
      obtain ⟨N, n1, n2, n3⟩ := h.w v (by omega)
      have n2 : N < 16 ^ gnF M v := n2
      have p16 : (2 : Nat) ^ (4 * gnF M v) = 16 ^ gnF M v := by rw [Nat.pow_mul]
      have hp : 16 ^ gnF M v ≤ 16 ^ 11 := Nat.pow_le_pow_right (by decide) (by omega)
      have hw : w * 16 ^ gnF M v ≤ 10 * 16 ^ 11 := Nat.mul_le_mul w2 hp
      refine ⟨N + w * 16 ^ gnF M v, ?_, ?_, ?_⟩
      · rw [el, n1, nI_l (by omega), wb_shl w (by omega), p16]
        exact g_or' p16 n2 (by omega)
      · rw [Nat.pow_succ]
        have : w * 16 ^ gnF M v ≤ 15 * 16 ^ gnF M v := Nat.mul_le_mul_right _ (by omega)
        omega
      · intro j hj
        rcases Nat.lt_or_ge j (gnF M v) with q | q
        · rw [pk_un (by omega), dig_lo q]
          exact n3 j q
        · have e : j = gnF M v := by omega
          rw [e, pk_us, dig_hi n2 (by omega)]
    · rw [pk_uLn c, pk_un c]
      obtain ⟨N, n1, n2, n3⟩ := h.w u hu
      refine ⟨N, n1, n2, fun j hj => ?_⟩
      rw [pk_un (by have := o12 u hu; have hj2 : j < gnF M u := hj; omega)]
      exact n3 j hj
theorem st_findsA (h : R26 n G M S Wf) {v s w : Nat} {x a : Int32} {l : Int64} (hv : v < gnV M) (hf : gnF M v < 12) (w1 : 1 ≤ w) (w2 : w ≤ 10) (c9 : ¬ (gnF M v = 2 ∧ M 33 v = 0)) (ea : a = S 5 v + 512) (el : l = Wf v ||| ((nI w).toInt64 <<< ((nI (4 * gnF M v)).toInt64 &&& 63))) (hR : R9 m G1 (g_X7_finds_6 M v x (nI w) s)) : R26 m G1 (g_X7_finds_6 M v x (nI w) s) (up2 S 5 v a) (vp_updL Wf v l) := by
  obtain ⟨q1, q2⟩ := fd_FW h (s := s) (x := x) hv hf w1 w2 el
  have e33 : (g_X7_finds_6 M v x (nI w) s) 33 = upd (M 33) v (if M 33 v = 0 then (if (nI (gnF M v)) + 1 = 3 then 1 else M 33 v) else M 33 v) := rfl
  have h33 : (if M 33 v = 0 then (if (nI (gnF M v)) + 1 = 3 then 1 else M 33 v) else M 33 v) = M 33 v := by
    by_cases c0 : M 33 v = 0
    · rw [if_pos c0, nI_1, if_neg]
      intro q
      have := (nI_eq (b := 3) (by omega) (by decide)).mp q
      exact c9 ⟨by omega, c0⟩
    · rw [if_neg c0]
  refine ⟨hR, h.b, h.x, h.c, h.ru, QA.up (v := v) h.a (fun u hu => pk_un hu) (fun u hu => pk_un hu) (fun _ _ => rfl) (fun _ _ => rfl) (fun _ _ => rfl) (fun _ _ => rfl) (fun u hu => pk_un hu) ?_, h.d, h.e, q1, q2, h.g, h.su, h.bb⟩
  rw [e33]
  show A1 (M 30 v) (M 31 v) (upd (M 33) v _ v) (M 34 v) (upd (M 35) v ((nI (gnF M v)) + 1) v) (M 39 v) (M 40 v) (M 41 v) (M 42 v) (upd (S 5) v a v)
  rw [pk_us, pk_us, pk_us, h33, ea]
  obtain ⟨s, p, k, f, c, y1, y2, y3, y4, ⟨b1, b2, b3, b4, b5, b6, b7, b8, b9⟩, e1, e2, e3, e4, e5, e6, e7, e8, e9, eA⟩ := h.a v hv
  have ec : c = gnF M v := by unfold gnF; rw [e5, nI_clamp (by omega)]
  rw [eA, ← ec]
  refine ⟨s, p, k, f, c + 1, y1, y2, y3, y4, ⟨b1, b2, b3, b4, by omega, b6, b7, b8, b9⟩, e1, e2, e3, e4, nI_1 _, e6, e7, e8, e9, ?_⟩
  refine (nI_add _ 512).trans ?_
  congr 1
  unfold aN
  omega
theorem st_findsB (h : R26 n G M S Wf) {v s w : Nat} {x a a2 : Int32} {l : Int64} (hv : v < gnV M) (w1 : 1 ≤ w) (w2 : w ≤ 10) (c9 : gnF M v = 2 ∧ M 33 v = 0) (ea : a2 = (S 5 v + 512) ||| 16) (el : l = Wf v ||| ((nI w).toInt64 <<< ((nI (4 * gnF M v)).toInt64 &&& 63))) (hR : R9 m G1 (g_X7_finds_6 M v x (nI w) s)) : R26 m G1 (g_X7_finds_6 M v x (nI w) s) (up2 (up2 S 5 v a) 5 v a2) (vp_updL Wf v l) := by
  obtain ⟨q1, q2⟩ := fd_FW h (s := s) (x := x) hv (by rw [c9.1]; decide) w1 w2 el
  have e33 : (g_X7_finds_6 M v x (nI w) s) 33 = upd (M 33) v (if M 33 v = 0 then (if (nI (gnF M v)) + 1 = 3 then 1 else M 33 v) else M 33 v) := rfl
  have h33 : (if M 33 v = 0 then (if (nI (gnF M v)) + 1 = 3 then 1 else M 33 v) else M 33 v) = 1 := by
    rw [if_pos c9.2, c9.1, if_pos (show nI 2 + 1 = 3 from rfl)]
  refine ⟨hR, h.b, h.x, h.c, h.ru, QA.up (v := v) h.a (fun u hu => pk_un hu) (fun u hu => pk_un hu) (fun _ _ => rfl) (fun _ _ => rfl) (fun _ _ => rfl) (fun _ _ => rfl) (fun u hu => (pk_un hu).trans (pk_un hu)) ?_, h.d, h.e, q1, q2, h.g, h.su, h.bb⟩
  rw [e33]
  show A1 (M 30 v) (M 31 v) (upd (M 33) v _ v) (M 34 v) (upd (M 35) v ((nI (gnF M v)) + 1) v) (M 39 v) (M 40 v) (M 41 v) (M 42 v) (upd (upd (S 5) v a) v a2 v)
  rw [pk_us, pk_us, pk_us, h33, ea]
  obtain ⟨s, p, k, f, c, y1, y2, y3, y4, ⟨b1, b2, b3, b4, b5, b6, b7, b8, b9⟩, e1, e2, e3, e4, e5, e6, e7, e8, e9, eA⟩ := h.a v hv
  have ec : c = gnF M v := by unfold gnF; rw [e5, nI_clamp (by omega)]
  have ek : k = 0 := by
    have q := c9.2
    rw [e3] at q
    exact (nI_eq (b := 0) (by omega) (by decide)).mp q
  rw [eA, ← ec]
  subst ek
  refine ⟨s, p, 1, f, c + 1, y1, y2, y3, y4, ⟨b1, b2, by decide, b4, by omega, b6, b7, b8, b9⟩, e1, e2, rfl, e4, nI_1 _, e6, e7, e8, e9, ?_⟩
  have e512 : nI (aN s p 0 f c y1 y2 y3 y4) + 512 = nI (2 ^ (4 + 1) * (2 * f + 16 * (c + 1) + 256 * y1 + 512 * y2 + 2048 * y3 + 8192 * y4) + (s + 4 * p)) := by
    refine (nI_add _ 512).trans ?_
    congr 1
    unfold aN
    omega
  rw [e512]
  refine (or_bit (2 * f + 16 * (c + 1) + 256 * y1 + 512 * y2 + 2048 * y3 + 8192 * y4) (s + 4 * p) 4 (by omega)).trans ?_
  congr 1
  unfold aN
  omega
end ST3
