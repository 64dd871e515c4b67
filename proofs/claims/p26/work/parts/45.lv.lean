/-! what the law's reading methods answer is what the reference's answer: the simple ones, certificates -/
theorem s31 : ∀ n, n < 31 → ((nI n &&& 31).toBitVec.smod 32).toNat = n := fun n h => s_l n (by omega)
theorem QS.at {g m2 : Nat → Int32} (h : QS g m2) {i : Nat} (hi : i < 4) : ((g 7) >>> ((nI i) &&& 31)) &&& 1 = m2 i := by
  obtain ⟨b, h1, h2, h3⟩ := h
  rw [h2, h3 i hi, pk_shrN (by omega) _ i (s31 i (by omega)), pk_andN (by have := Nat.div_le_self b (2 ^ i); omega) 1 (by decide)]
theorem bit01 {g m2 : Nat → Int32} (h : QS g m2) {i : Nat} (hi : i < 4) : m2 i = 0 ∨ m2 i = 1 := by
  obtain ⟨b, h1, h2, h3⟩ := h
  rw [h3 i hi]
  rcases (show b / 2 ^ i % 2 = 0 ∨ b / 2 ^ i % 2 = 1 by omega) with q | q
  · rw [q]; exact Or.inl rfl
  · rw [q]; exact Or.inr rfl
section LV
variable {n : Nat} {G M S : GS} {Wf : Nat → Int64}
theorem vl_cnt (h : R26 n G M S Wf) {v : Nat} (hv : v < gnV M) : f_L_counts S v = f_X7_counts M v := by
  unfold f_L_counts f_X7_counts
  rw [h.e v hv, (h.a v hv).g.2.2.2.2.2.2.1]
theorem vl_fnd (h : R26 n G M S Wf) {v : Nat} (hv : v < gnV M) : f_L_findings (S 5 v) = M 35 v := (h.a v hv).g.2.2.2.2.1
theorem vl_fn (h : R26 n G M S Wf) {v : Nat} (hv : v < gnV M) : fn S v = gnF M v := by
  unfold fn gnF
  rw [vl_fnd h hv]
theorem vl_sus (h : R26 n G M S Wf) (s : Nat) : ((S 10 7) >>> ((M 8 s) &&& 31)) &&& 1 = M 2 (M 8 s).toNatClampNeg := by
  obtain ⟨b, b1, b2⟩ := h.b8 s
  rw [b2, nI_clamp (by omega)]
  exact h.su.at b1
/-- a certificate's last day by the law, against the reference's walk -/
theorem end_L {S M : GS} {k : Nat} {D T b e : Nat} (hD : D ≤ 9000) (hT1 : 1 ≤ T) (hT2 : T ≤ 1825) (he : e < 16) (hb : b < 4) (m19 : M 19 k = nI D) (m20 : M 20 k = nI T) (m22 : M 22 k = nI (2 * e)) (c0 : S 3 (3 * k) = nI D) (c1 : S 3 (3 * k + 1) = nI T) (c2 : S 3 (3 * k + 2) = nI (b + 8 * e)) {t : Nat} (ht : t ≤ 9000) (m1 : M 1 0 = nI t) : ∀ j, j ≤ (T - 1) / 365 → ∃ E : Nat, L_L_end_27_2 S k j = nI E ∧ E ≤ 11000 ∧ (E < t ↔ ¬ L_X7_isOver_28_2 M k j = 0)
  | 0, _ => by
    refine ⟨D + T, ?_, by omega, ?_⟩
    · show (S 3 (3 * k)) + (S 3 ((3 * k) + 1)) = _
      rw [c0, c1, nI_add]
    · show _ ↔ ¬ v_X7_isOver_25 M k = 0
      unfold v_X7_isOver_25
      rw [m1, m19, m20, nI_add]
      by_cases c : nI t ≤ nI (D + T)
      · rw [if_pos c]
        have := (nI_leI (by omega) (by omega)).mp c
        exact ⟨fun q => by omega, fun q => absurd rfl q⟩
      · rw [if_neg c]
        refine ⟨fun _ => by decide, fun _ => ?_⟩
        rcases Nat.lt_or_ge (D + T) t with q | q
        · exact q
        · exact absurd ((nI_leI (by omega) (by omega)).mpr q) c
  | j + 1, hj => by
    obtain ⟨E, h1, h2, h3⟩ := end_L hD hT1 hT2 he hb m19 m20 m22 c0 c1 c2 ht m1 j (by omega)
    have hj4 : j < 4 := by omega
    have hv : v_L_end_70 S k j = nI (D + 365 * (j + 1) + 90) := by
      unfold v_L_end_70
      rw [c0, nI_add]
      exact nI_add _ 90
    have hbit : ((((S 3 ((3 * k) + 2)) >>> (2 &&& 31)) >>> ((nI (j + 1)) &&& 31)) &&& 1 = 0) ↔ f_X7_isIn (M 22 k) (nI (j + 1)) = 0 := by
      unfold f_X7_isIn
      rw [c2, m22, pk_shrN (by omega) _ 2 (by decide), show (b + 8 * e) / 2 ^ 2 = 2 * e by omega]
      by_cases c : (nI (2 * e) >>> (nI (j + 1) &&& 31)) &&& 1 = 1
      · rw [if_pos c, c]
      · rw [if_neg c]
        refine ⟨fun _ => rfl, fun _ => ?_⟩
        obtain ⟨z, z1, z2⟩ := pk_andE (nI (2 * e) >>> (nI (j + 1) &&& 31)) (m := 1) 1 (by decide)
        rw [z2] at c ⊢
        rcases (show z = 0 ∨ z = 1 by omega) with q | q
        · rw [q]; rfl
        · rw [q] at c; exact absurd rfl c
    show ∃ E : Nat, (if (((S 3 ((3 * k) + 2)) >>> (2 &&& 31)) >>> ((nI (j + 1)) &&& 31)) &&& 1 = 0 then (if L_L_end_27_2 S k j ≤ v_L_end_70 S k j then L_L_end_27_2 S k j else v_L_end_70 S k j) else L_L_end_27_2 S k j) = nI E ∧ E ≤ 11000 ∧ (E < t ↔ ¬ (if L_X7_isOver_28_2 M k j = 0 then (if f_X7_isIn (M 22 k) (nI (j + 1)) = 0 then (if M 1 0 ≤ ((M 19 k) + (nI (365 * (j + 1)))) + 90 then 0 else 1) else 0) else 1 : Int32) = 0)
    have e90 : ((M 19 k) + (nI (365 * (j + 1)))) + 90 = nI (D + 365 * (j + 1) + 90) := by
      rw [m19, nI_add]
      exact nI_add _ 90
    rw [hv, h1, m1, e90]
    by_cases cb : (((S 3 ((3 * k) + 2)) >>> (2 &&& 31)) >>> ((nI (j + 1)) &&& 31)) &&& 1 = 0
    · rw [if_pos cb, if_pos (hbit.mp cb)]
      by_cases cE : nI E ≤ nI (D + 365 * (j + 1) + 90)
      · rw [if_pos cE]
        have q := (nI_leI (by omega) (by omega)).mp cE
        refine ⟨E, rfl, h2, ?_⟩
        by_cases co : L_X7_isOver_28_2 M k j = 0
        · rw [if_pos co]
          have q2 : ¬ E < t := fun q9 => (h3.mp q9) co
          rw [if_pos ((nI_leI (a := t) (b := D + 365 * (j + 1) + 90) (by omega) (by omega)).mpr (Nat.le_trans (Nat.not_lt.mp q2) q))]
          exact ⟨fun q9 => absurd q9 q2, fun q9 => absurd rfl q9⟩
        · rw [if_neg co]
          exact ⟨fun _ => by decide, fun _ => h3.mpr co⟩
      · rw [if_neg cE]
        have q : ¬ E ≤ D + 365 * (j + 1) + 90 := fun q9 => cE ((nI_leI (by omega) (by omega)).mpr q9)
        refine ⟨_, rfl, by omega, ?_⟩
        by_cases co : L_X7_isOver_28_2 M k j = 0
        · rw [if_pos co]
          by_cases c9 : nI t ≤ nI (D + 365 * (j + 1) + 90)
          · rw [if_pos c9]
            have := (nI_leI (by omega) (by omega)).mp c9
            exact ⟨fun q9 => by omega, fun q9 => absurd rfl q9⟩
          · rw [if_neg c9]
            refine ⟨fun _ => by decide, fun _ => ?_⟩
            rcases Nat.lt_or_ge (D + 365 * (j + 1) + 90) t with q9 | q9
            · exact q9
            · exact absurd ((nI_leI (by omega) (by omega)).mpr q9) c9
        · rw [if_neg co]
          have := h3.mpr co
          exact ⟨fun _ => by decide, fun _ => by omega⟩
    · rw [if_neg cb, if_neg (fun q => cb (hbit.mpr q))]
      refine ⟨E, rfl, h2, ?_⟩
      by_cases co : L_X7_isOver_28_2 M k j = 0
      · rw [if_pos co]
        exact ⟨fun q9 => absurd co (h3.mp q9), fun q9 => absurd rfl q9⟩
      · rw [if_neg co]
        exact ⟨fun _ => by decide, fun _ => h3.mpr co⟩
theorem vl_67 (h : R26 n G M S Wf) {s f : Nat} (hs : s < 4) (hf : f < 5) : v_L_lapsed_67 S s f = f_X7_lapsedAlone M (5 * s + f) := by
  unfold v_L_lapsed_67 f_X7_lapsedAlone
  rcases h.c (5 * s + f) (by omega) with ⟨q1, q2⟩ | ⟨D, T, b, e, q1, q2, q3, q4, q5, q6, q7, q8, q9, qa, qb, qc, qd⟩
  · rw [if_pos q2, if_pos q1]
  · obtain ⟨t, t1, t2⟩ := h.td
    obtain ⟨E, e1, e2, e3⟩ := end_L (S := S) q2 q3 q4 q6 q5 q7 q8 qa qb qc qd t1 t2 ((T - 1) / 365) (Nat.le_refl _)
    have hT : cT S (5 * s + f) = T := by unfold cT; rw [qc, nI_clamp (by omega)]
    have hgT : gnT M (5 * s + f) = T := by unfold gnT; rw [q8, nI_clamp (by omega)]
    rw [if_neg (show ¬ S 3 (3 * (5 * s + f)) = -1 by rw [qb]; exact nI_m1 (by omega)), if_neg (show ¬ M 18 (5 * s + f) = 0 by rw [q1]; decide)]
    unfold f_L_end f_X7_isOver
    rw [hT, hgT, e1, h.g0, t2, qd, pk_andN (by omega) 2 (by decide), show (b + 8 * e) % 2 ^ 2 = b by omega, q9, nI_clamp (by omega), h.su.at q5]
    by_cases c : E < t
    · rw [if_pos ((nI_ltI (by omega) (by omega)).mpr c), if_neg (e3.mp c)]
    · have c2 : L_X7_isOver_28_2 M (5 * s + f) ((T - 1) / 365) = 0 := Classical.not_not.mp (fun q => c (e3.mpr q))
      rw [if_neg (fun q => c ((nI_ltI (by omega) (by omega)).mp q)), if_pos c2]
      rcases bit01 h.su q5 with q | q
      · rw [q]; rfl
      · rw [q]; rfl
def stL (k : Nat) (a acc : Int32) : Int32 := acc ||| (if (if nI k = 2 then (if nI k = 1 then a ||| (if acc &&& 1 = 1 then 1 else 0) else (if nI k = 3 then a ||| (if acc &&& 1 = 1 then 1 else 0) else a)) ||| (if acc &&& 2 = 2 then 1 else 0) else (if nI k = 1 then a ||| (if acc &&& 1 = 1 then 1 else 0) else (if nI k = 3 then a ||| (if acc &&& 1 = 1 then 1 else 0) else a)) : Int32) = 0 then 0 else (1 : Int32) <<< ((nI k) &&& 31))
theorem stL_d : ∀ b0 b1 b2 b3 b4 : Bool, stL 4 (bI b4) (stL 3 (bI b3) (stL 2 (bI b2) (stL 1 (bI b1) (stL 0 (bI b0) 0)))) = fam5 (bI b0) (bI b1) (bI b2) (bI b3) (bI b4) := by decide +kernel
theorem vl_lap (h : R26 n G M S Wf) {s : Nat} (hs : s < 4) : f_L_lapsed S s = f_X7_lapsedOf M s := by
  have e : f_L_lapsed S s = stL 4 (v_L_lapsed_67 S s 4) (stL 3 (v_L_lapsed_67 S s 3) (stL 2 (v_L_lapsed_67 S s 2) (stL 1 (v_L_lapsed_67 S s 1) (stL 0 (v_L_lapsed_67 S s 0) 0)))) := rfl
  rw [e, vl_67 h hs (by decide : 4 < 5), vl_67 h hs (by decide : 3 < 5), vl_67 h hs (by decide : 2 < 5), vl_67 h hs (by decide : 1 < 5), vl_67 h hs (by decide : 0 < 5), v_al h.r, v_al h.r, v_al h.r, v_al h.r, v_al h.r, v_fam h.r, fam_c]
  obtain ⟨b0, e0⟩ := bI_of (ca_b G s 0)
  obtain ⟨b1, e1⟩ := bI_of (ca_b G s 1)
  obtain ⟨b2, e2⟩ := bI_of (ca_b G s 2)
  obtain ⟨b3, e3⟩ := bI_of (ca_b G s 3)
  obtain ⟨b4, e4⟩ := bI_of (ca_b G s 4)
  rw [e0, e1, e2, e3, e4]
  exact stL_d b0 b1 b2 b3 b4
/-- ground -/
theorem vl_gnd (h : R26 n G M S Wf) {s : Nat} (hs : s < gnS M) (x : Int32) : f_L_ground S s x = f_X7_isGroundFor M s x := by
  unfold f_L_ground f_X7_isGroundFor
  rw [h.eR]
  refine (loopEL (n := gnR M) (b := 0) (p := fun k => if M 24 k = x then (if f_X7_isInForce M k s = 0 then 0 else 1) else 0) (Or.inl rfl) (fun k _ => ?_) rfl (fun k _ => rfl) (fun k => rfl) (fun d k hk => ?_)).symm
  · show (if M 24 k = x then (if f_X7_isInForce M k s = 0 then (0 : Int32) else 1) else 0) = 0 ∨ (if M 24 k = x then (if f_X7_isInForce M k s = 0 then (0 : Int32) else 1) else 0) = 1
    split
    · split
      · exact Or.inl rfl
      · exact Or.inr rfl
    · exact Or.inl rfl
  · obtain ⟨r0, r1, r2, r3, r4⟩ := h.ru k (by omega)
    show (if v_L_ground_69 S s x k = 0 then (E_L_ground_3 S s x d (k + 1)) else (if S 10 0 < (if S 4 ((5 * k) + 3) ≤ S 2 (14 * s) then S 4 ((5 * k) + 3) else (S 4 ((5 * k) + 3)) + (S 4 ((5 * k) + 4)) : Int32) then (E_L_ground_3 S s x d (k + 1)) else 1)) = if (if M 24 k = x then (if f_X7_isInForce M k s = 0 then (0 : Int32) else 1) else 0) = 0 then (E_L_ground_3 S s x d (k + 1)) else 1
    unfold v_L_ground_69 f_X7_isInForce v_X7_isInForce_32 f_X7_isIn
    rw [r0, r1, r2, r3, r4, h.g0, h.x0 hs, h.x1 hs, h.x2 hs]
    by_cases c1 : M 24 k = x
    · rw [if_pos c1, if_pos c1]
      by_cases c2 : M 5 s < M 25 k
      · rw [if_pos c2, if_pos c2]; rfl
      · rw [if_neg c2, if_neg c2]
        by_cases c3 : ((M 26 k) >>> ((M 6 s) &&& 31)) &&& 1 = 1
        · rw [if_pos c3, if_neg one_ne, if_neg one_ne]
          by_cases c4 : M 27 k ≤ M 4 s
          · rw [if_pos c4, if_pos c4, Int32.add_zero]
            by_cases c5 : M 1 0 < M 27 k
            · rw [if_pos c5, if_pos c5]; rfl
            · rw [if_neg c5, if_neg c5]; rfl
          · rw [if_neg c4, if_neg c4]
            by_cases c5 : M 1 0 < M 27 k + M 28 k
            · rw [if_pos c5, if_pos c5]; rfl
            · rw [if_neg c5, if_neg c5]; rfl
        · rw [if_neg c3]; rfl
    · rw [if_neg c1, if_neg c1]; rfl
/-- findings of a visit: open ones, their weights -/
theorem vl_dW (h : R26 n G M S Wf) {v j : Nat} (hv : v < 50) (hj : j < gnF M v) (h12 : gnF M v ≤ 12) : dW (Wf v) j = M 36 (12 * v + j) := by
  obtain ⟨N, e1, e2, e3⟩ := h.w v hv
  have h48 : N < 2 ^ 48 := Nat.lt_of_lt_of_le e2 (by rw [show (2 : Nat) ^ 48 = 16 ^ 12 by decide]; exact Nat.pow_le_pow_right (by decide) h12)
  have h9 := e3 j hj
  unfold dW
  have hsh : (((nI (4 * j)).toInt64 &&& 63).toBitVec.smod 64).toNat = 4 * j := by
    rw [wb_c (4 * j) (by omega), wb_tb, wb_sm (4 * j) (by omega)]
    exact Nat.mod_eq_of_lt (by omega)
  rw [e1, pf_shr hsh (by omega), show (15 : Int64) = lN (16 - 1) from rfl, g_mask (s := 4) (p := 16) rfl (by decide) (by have := Nat.div_le_self N (2 ^ (4 * j)); omega)]
  have hp : 2 ^ (4 * j) = 16 ^ j := by rw [Nat.pow_mul]
  rw [hp, h9]
  have hm : N / 16 ^ j % 16 < 16 := Nat.mod_lt _ (by decide)
  exact (by decide +kernel : ∀ z, z < 16 → (lN z).toInt32 = nI z) _ hm
theorem vl_op0 (h : R26 n G M S Wf) {v : Nat} (hv : v < gnV M) : f_L_open S Wf v 0 = f_X7_openOf M v := by
  have hv50 : v < 50 := Nat.lt_of_lt_of_le hv h.b.2.2
  unfold f_L_open f_X7_openOf
  rw [vl_fn h hv]
  have : ∀ k, k ≤ gnF M v → L_L_open_6_5 S Wf v 0 k = L_X7_openOf_4_2 M v k := by
    intro k
    induction k with
    | zero => intro _; rfl
    | succ k ih =>
      intro hk
      have hf := h.f v k hv50 (by have := (h.fc hv).2; omega)
      rw [if_pos (show k < (M 35 v).toNatClampNeg from hk)] at hf
      show (if dF (S 8 v) k = 0 then (L_L_open_6_5 S Wf v 0 k) + 1 else L_L_open_6_5 S Wf v 0 k) = (L_X7_openOf_4_2 M v k) + (if M 37 ((12 * v) + k) = 0 then 1 else 0)
      rw [hf, ih (by omega)]
      by_cases c : M 37 (12 * v + k) = 0
      · rw [if_pos c, if_pos c]
      · rw [if_neg c, if_neg c, Int32.add_zero]
  exact this _ (Nat.le_refl _)
theorem vl_op1 (h : R26 n G M S Wf) {v : Nat} (hv : v < gnV M) : f_L_open S Wf v 1 = f_X7_openWeights M v := by
  have hv50 : v < 50 := Nat.lt_of_lt_of_le hv h.b.2.2
  unfold f_L_open f_X7_openWeights
  rw [vl_fn h hv]
  have : ∀ k, k ≤ gnF M v → L_L_open_6_5 S Wf v 1 k = L_X7_openWeights_4_2 M v k := by
    intro k
    induction k with
    | zero => intro _; rfl
    | succ k ih =>
      intro hk
      have hf := h.f v k hv50 (by have := (h.fc hv).2; omega)
      rw [if_pos (show k < (M 35 v).toNatClampNeg from hk)] at hf
      show (if dF (S 8 v) k = 0 then (L_L_open_6_5 S Wf v 1 k) + dW (Wf v) k else L_L_open_6_5 S Wf v 1 k) = (L_X7_openWeights_4_2 M v k) + (if M 37 ((12 * v) + k) = 0 then M 36 ((12 * v) + k) else 0)
      rw [hf, ih (by omega), vl_dW h hv50 (by omega) (h.fc hv).2]
      by_cases c : M 37 (12 * v + k) = 0
      · rw [if_pos c, if_pos c]
      · rw [if_neg c, if_neg c, Int32.add_zero]
  exact this _ (Nat.le_refl _)
end LV
