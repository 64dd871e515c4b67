theorem i0x {x : Int32} : (if (if x = 0 then (0 : Int32) else 1) = 0 then (0 : Int32) else 1) = if x = 0 then 0 else 1 := by
  by_cases h : x = 0
  · rw [if_pos h, if_pos rfl]
  · rw [if_neg h, if_neg (by decide)]
theorem isx_v {x : Int32} {n : Nat} : (f_X6_isIndex x (nI n) = 0 ∨ f_X6_isIndex x (nI n) = 1) := by
  unfold f_X6_isIndex
  split
  · exact Or.inl rfl
  · split
    · exact Or.inl rfl
    · exact Or.inr rfl
theorem isx_one {n j : Nat} (h : j < n) (hn : n < 2 ^ 31) : f_X6_isIndex (nI j) (nI n) = 1 := by
  unfold f_X6_isIndex
  rw [if_neg (nI_pos (by omega)), if_neg (nI_ge h hn)]
theorem xin_one {n j : Nat} (h : j < n) (hn : n < 2 ^ 31) : f_X7_in (nI j) 0 (nI n - 1) = 1 := by
  unfold f_X7_in
  rw [show (1 : Int32) = nI 1 from rfl, pk_sub (by omega), if_neg (nI_pos (by omega)), if_neg]
  rw [nI_ltI (by omega) (by omega)]
  omega
theorem isx_xin (x : Int32) {n : Nat} (hn : n < 2 ^ 31) : f_X7_in x 0 (nI n - 1) = f_X6_isIndex x (nI n) := by
  by_cases h : f_X6_isIndex x (nI n) = 0
  · by_cases h2 : f_X7_in x 0 (nI n - 1) = 0
    · rw [h, h2]
    · have q := xin_get' hn h2
      rw [q.2, isx_one q.1 hn] at h
      cases h
  · have q := isx_get hn h
    rw [q.2, isx_one q.1 hn, xin_one q.1 hn]
theorem loopEL {n : Nat} {b : Int32} {p L : Nat → Int32} {E : Nat → Nat → Int32} (hb : b = 0 ∨ b = 1) (hp : ∀ k, k < n → p k = 0 ∨ p k = 1) (hL0 : L 0 = b) (hL : ∀ k, k < n → L (k + 1) = if L k = 0 then p k else 1) (hE0 : ∀ k, E 0 k = b) (hE : ∀ d k, d + k < n → E (d + 1) k = if p k = 0 then E d (k + 1) else 1) : L n = E n 0 := by
  have a1 : ∀ m, m ≤ n → ((b = 0 ∧ ∀ k, k < m → p k = 0) → L m = 0) ∧ (¬ (b = 0 ∧ ∀ k, k < m → p k = 0) → L m = 1) := by
    intro m
    induction m with
    | zero =>
      intro _
      rw [hL0]
      refine ⟨fun q => q.1, fun q => ?_⟩
      rcases hb with e | e
      · exact absurd ⟨e, fun k hk => absurd hk (Nat.not_lt_zero k)⟩ q
      · exact e
    | succ m ih =>
      intro hm
      have i := ih (by omega)
      rw [hL m (by omega)]
      by_cases c : (b = 0 ∧ ∀ k, k < m → p k = 0)
      · rw [if_pos (i.1 c)]
        refine ⟨fun q => q.2 m (by omega), fun q => ?_⟩
        rcases hp m (by omega) with e | e
        · refine absurd ⟨c.1, fun k hk => ?_⟩ q
          by_cases e9 : k = m
          · rw [e9]; exact e
          · exact c.2 k (by omega)
        · exact e
      · rw [if_neg (by rw [i.2 c]; decide)]
        exact ⟨fun q => absurd ⟨q.1, fun k hk => q.2 k (by omega)⟩ c, fun _ => rfl⟩
  have a2 : ∀ m j, m + j ≤ n → ((b = 0 ∧ ∀ k, k < m → p (j + k) = 0) → E m j = 0) ∧ (¬ (b = 0 ∧ ∀ k, k < m → p (j + k) = 0) → E m j = 1) := by
    intro m
    induction m with
    | zero =>
      intro j _
      rw [hE0]
      refine ⟨fun q => q.1, fun q => ?_⟩
      rcases hb with e | e
      · exact absurd ⟨e, fun k hk => absurd hk (Nat.not_lt_zero k)⟩ q
      · exact e
    | succ m ih =>
      intro j hm
      have i := ih (j + 1) (by omega)
      rw [hE m j (by omega)]
      by_cases c : p j = 0
      · rw [if_pos c]
        refine ⟨fun q => i.1 ⟨q.1, fun k hk => ?_⟩, fun q => i.2 (fun r => q ⟨r.1, fun k hk => ?_⟩)⟩
        · rw [Nat.add_assoc, Nat.add_comm 1]; exact q.2 (k + 1) (by omega)
        · cases k with
          | zero => exact c
          | succ k => have := r.2 k (by omega); rw [Nat.add_assoc, Nat.add_comm 1] at this; exact this
      · rw [if_neg c]
        exact ⟨fun q => absurd (q.2 0 (by omega)) c, fun _ => rfl⟩
  have b1 := a1 n (Nat.le_refl n)
  have b2 := a2 n 0 (Nat.le_refl n)
  by_cases c : (b = 0 ∧ ∀ k, k < n → p k = 0)
  · rw [b1.1 c, b2.1 ⟨c.1, fun k hk => by rw [Nat.zero_add]; exact c.2 k hk⟩]
  · rw [b1.2 c, b2.2 (fun q => c ⟨q.1, fun k hk => by have := q.2 k hk; rw [Nat.zero_add] at this; exact this⟩)]
theorem firstEL {n : Nat} {c : Nat → Prop} {L : Nat → Int32} {E : Nat → Nat → Int32} (hn : n < 2 ^ 30) (hL0 : L 0 = -1) (hL1 : ∀ k, k < n → L k = -1 → c k → L (k + 1) = nI (k + 1)) (hL2 : ∀ k, k < n → ¬ c k → L (k + 1) = L k) (hL3 : ∀ k, k < n → ¬ L k = -1 → L (k + 1) = L k) (hE0 : ∀ k, E 0 k = -1) (hE1 : ∀ d k, d + k < n → c k → E (d + 1) k = nI k) (hE2 : ∀ d k, d + k < n → ¬ c k → E (d + 1) k = E d (k + 1)) : (L n = -1 ∧ E n 0 = -1) ∨ ∃ k, k < n ∧ c k ∧ E n 0 = nI k ∧ L n = nI (k + 1) := by
  have a1 : ∀ m, m ≤ n → ((∀ k, k < m → ¬ c k) ∧ L m = -1) ∨ ∃ k, k < m ∧ c k ∧ (∀ j, j < k → ¬ c j) ∧ L m = nI (k + 1) := by
    intro m
    induction m with
    | zero => intro _; exact Or.inl ⟨fun k hk => absurd hk (Nat.not_lt_zero k), hL0⟩
    | succ m ih =>
      intro hm
      rcases ih (by omega) with ⟨i1, i2⟩ | ⟨k, k1, k2, k3, k4⟩
      · by_cases e : c m
        · exact Or.inr ⟨m, by omega, e, i1, hL1 m (by omega) i2 e⟩
        · refine Or.inl ⟨fun k hk => ?_, (hL2 m (by omega) e).trans i2⟩
          by_cases e9 : k = m
          · rw [e9]; exact e
          · exact i1 k (by omega)
      · exact Or.inr ⟨k, by omega, k2, k3, (hL3 m (by omega) (by rw [k4]; exact nI_m1 (by omega))).trans k4⟩
  have a2 : ∀ m j, m + j ≤ n → ((∀ k, k < m → ¬ c (j + k)) ∧ E m j = -1) ∨ ∃ k, k < m ∧ c (j + k) ∧ (∀ i, i < k → ¬ c (j + i)) ∧ E m j = nI (j + k) := by
    intro m
    induction m with
    | zero => intro j _; exact Or.inl ⟨fun k hk => absurd hk (Nat.not_lt_zero k), hE0 j⟩
    | succ m ih =>
      intro j hm
      by_cases e : c j
      · exact Or.inr ⟨0, by omega, e, fun i hi => absurd hi (Nat.not_lt_zero i), hE1 m j (by omega) e⟩
      · have sh : ∀ k, j + 1 + k = j + (k + 1) := fun k => by omega
        rcases ih (j + 1) (by omega) with ⟨i1, i2⟩ | ⟨k, k1, k2, k3, k4⟩
        · refine Or.inl ⟨fun k hk => ?_, (hE2 m j (by omega) e).trans i2⟩
          cases k with
          | zero => exact e
          | succ k => rw [← sh]; exact i1 k (by omega)
        · refine Or.inr ⟨k + 1, by omega, by rw [← sh]; exact k2, fun i hi => ?_, ?_⟩
          · cases i with
            | zero => exact e
            | succ i => rw [← sh]; exact k3 i (by omega)
          · rw [hE2 m j (by omega) e, k4, sh]
  rcases a1 n (Nat.le_refl n) with ⟨i1, i2⟩ | ⟨k, k1, k2, k3, k4⟩
  · rcases a2 n 0 (Nat.le_refl n) with ⟨j1, j2⟩ | ⟨j, j1, j2, j3, j4⟩
    · exact Or.inl ⟨i2, j2⟩
    · rw [Nat.zero_add] at j2
      exact absurd j2 (i1 j j1)
  · rcases a2 n 0 (Nat.le_refl n) with ⟨j1, j2⟩ | ⟨j, j1, j2, j3, j4⟩
    · have := j1 k k1
      rw [Nat.zero_add] at this
      exact absurd k2 this
    · rw [Nat.zero_add] at j2 j4
      have e : j = k := by
        rcases Nat.lt_trichotomy j k with q | q | q
        · exact absurd j2 (k3 j q)
        · exact q
        · have := j3 k q
          rw [Nat.zero_add] at this
          exact absurd k2 this
      rw [e] at j4
      exact Or.inr ⟨k, k1, k2, j4, k4⟩
section V9
variable {n : Nat} {G M : GS}
theorem v_old (h : R9 n G M) (i : Nat) : f_X7_isOld M i = f_X6_isOld G (G 4 i) := by
  unfold f_X7_isOld f_X6_isOld
  rw [h.q 1, h.q 4]
theorem v_lat (h : R9 n G M) (v : Nat) : f_X7_isLatest M v = f_X6_isOfLatest G (G 32 v) := by
  unfold f_X7_isLatest f_X6_isOfLatest
  rw [h.q 1, h.q 32]
theorem v_cnt (h : R9 n G M) (v : Nat) : f_X7_counts M v = f_X5_counts G v := by
  unfold f_X7_counts f_X5_counts
  rw [h.q 38, h.q 40]
theorem v_ban (h : R9 n G M) (s : Nat) : f_X7_isBanned M s = f_X6_isBanned G s := by
  unfold f_X7_isBanned f_X6_isBanned
  rw [h.q 1]
  rcases h.e16 s with e | ⟨e1, e2⟩
  · rw [e]
  · obtain ⟨t, t1, t2⟩ := h.b1
    rw [e1, e2, t2, if_neg, if_neg]
    · exact nI_nlt (b := t) (a := 9000) t1 (by decide)
    · exact nI_nlt (b := t) (a := 100000) (by omega) (by decide)
theorem v_dec (h : R9 n G M) (v : Nat) : f_X7_decided M v = f_X5_decision G v := by
  unfold f_X7_decided f_X5_decision
  rw [h.q 40, h.q 41]
  rcases (h.b40 v).1 with e | e | e <;> rcases (h.b40 v).2 with d | d | d <;> rw [e, d] <;> decide
theorem v_inf (h : R9 n G M) (r s : Nat) : f_X7_isInForce M r s = f_X3_isInForce G r s (G 1 0) := by
  unfold f_X7_isInForce f_X3_isInForce v_X7_isInForce_32 v_X3_isInForce_27 f_X7_isIn f_X6_isIn
  rw [h.q 5, h.q 25, h.q 26, h.q 6, h.q 1, h.q 27, h.q 4, h.q 28, if_neg (h.b6 s)]
  by_cases e : G 27 r ≤ G 4 s
  · rw [if_pos e, if_pos e, Int32.add_zero]
  · rw [if_neg e, if_neg e]
theorem v_gnd (h : R9 n G M) (s : Nat) (x : Int32) : f_X7_isGroundFor M s x = f_X6_isGroundToday G s x := by
  unfold f_X7_isGroundFor f_X6_isGroundToday
  rw [h.R]
  refine loopEL (n := gnR G) (b := 0) (p := fun k => if G 24 k = x then (if f_X3_isInForce G k s (G 1 0) = 0 then 0 else 1) else 0) (Or.inl rfl) (fun k _ => ?_) rfl (fun k _ => ?_) (fun k => rfl) (fun d k _ => ?_)
  · by_cases e : G 24 k = x
    · by_cases d : f_X3_isInForce G k s (G 1 0) = 0
      · exact Or.inl (by rw [if_pos e, if_pos d])
      · exact Or.inr (by rw [if_pos e, if_neg d])
    · exact Or.inl (by rw [if_neg e])
  · show (if L_X7_isGroundFor_5_3 M s x k = 0 then (if M 24 k = x then (if f_X7_isInForce M k s = 0 then 0 else 1) else 0) else 1) = _
    rw [v_inf h, h.q 24]
  · show (if G 24 k = x then (if f_X3_isInForce G k s (G 1 0) = 0 then (E_X6_isGroundToday_2 G s x d (k + 1)) else 1) else (E_X6_isGroundToday_2 G s x d (k + 1))) = _
    by_cases e : G 24 k = x
    · by_cases d9 : f_X3_isInForce G k s (G 1 0) = 0
      · rw [if_pos e, if_pos d9, if_pos (by rw [if_pos e, if_pos d9])]
      · rw [if_pos e, if_neg d9, if_neg (by rw [if_pos e, if_neg d9]; decide)]
    · rw [if_neg e, if_pos (by rw [if_neg e])]
theorem v_opf (h : R9 n G M) (v : Nat) : f_X7_openOf M v = f_X5_openFindings G v := by
  unfold f_X7_openOf f_X5_openFindings
  rw [h.F]
  have a : ∀ k, L_X7_openOf_4_2 M v k = L_X5_openFindings_4_1 G v k := fun k => by
    induction k with
    | zero => rfl
    | succ k ih =>
      show L_X7_openOf_4_2 M v k + (if M 37 ((12 * v) + k) = 0 then 1 else 0) = L_X5_openFindings_4_1 G v k + (if f_X1_isOpen G v k = 0 then 0 else 1)
      rw [ih, h.e37 (12 * v + k)]
      unfold f_X1_isOpen
      by_cases e : G 37 (12 * v + k) = 0
      · by_cases d : G 44 (12 * v + k) = 0
        · rw [if_pos e, if_pos d, if_pos e, if_pos d]; rfl
        · rw [if_pos e, if_neg d, if_pos e, if_neg d]; rfl
      · rw [if_neg e, if_neg e]; rfl
  exact a _
theorem v_opw (h : R9 n G M) (v : Nat) : f_X7_openWeights M v = f_X5_openWeight G v := by
  unfold f_X7_openWeights f_X5_openWeight
  rw [h.F]
  have a : ∀ k, L_X7_openWeights_4_2 M v k = L_X5_openWeight_4_1 G v k := fun k => by
    induction k with
    | zero => rfl
    | succ k ih =>
      show L_X7_openWeights_4_2 M v k + (if M 37 ((12 * v) + k) = 0 then M 36 ((12 * v) + k) else 0) = L_X5_openWeight_4_1 G v k + (if f_X1_isOpen G v k = 0 then 0 else G 36 (12 * v + k))
      rw [ih, h.e37 (12 * v + k), h.q 36]
      unfold f_X1_isOpen
      by_cases e : G 37 (12 * v + k) = 0
      · by_cases d : G 44 (12 * v + k) = 0
        · rw [if_pos e, if_pos d, if_pos e, if_pos d]; rfl
        · rw [if_pos e, if_neg d, if_pos e, if_neg d]; rfl
      · rw [if_neg e, if_neg e]; rfl
  exact a _
theorem v_here (h : R9 n G M) (v : Nat) : f_X7_isHere M v = 0 ↔ ¬ f_X6_hasLeftSince G v = 0 := by
  unfold f_X7_isHere f_X6_hasLeftSince gnO
  rw [h.q 11, h.q 30]
  by_cases e : G 11 (G 30 v).toNatClampNeg = nI v
  · rw [if_pos e, if_pos e]; decide
  · rw [if_neg e, if_neg e]; decide
theorem v_off5 (h : R9 n G M) (s v : Nat) (a0 : Int32) (hv : v < gnV G) (k : Nat) (hk : k = gnF G v) : L_X7_hasOff_15_2 M s v a0 k = if a0 = 0 then (if G 30 v = nI s then f_X5_hasPutOffUnmended G v else 0) else (if k = 0 then a0 else 1) := by
  have l1 : ∀ b, ¬ b = 0 → ∀ k, L_X7_hasOff_15_2 M s v b k = if k = 0 then b else 1 := fun b hb k => by
    induction k with
    | zero => rfl
    | succ k ih =>
      show (if L_X7_hasOff_15_2 M s v b k = 0 then _ else 1) = _
      rw [ih, if_neg]
      · rw [if_neg (by omega)]
      · split
        · exact hb
        · decide
  by_cases e0 : a0 = 0
  · rw [if_pos e0, e0]
    by_cases e : G 30 v = nI s
    · rw [if_pos e, hk]
      unfold f_X5_hasPutOffUnmended
      refine loopEL (n := gnF G v) (b := 0) (p := fun j => if G 44 (12 * v + j) = 0 then 0 else (if G 37 (12 * v + j) = 0 then 1 else 0)) (Or.inl rfl) (fun j _ => ?_) rfl (fun j _ => ?_) (fun j => rfl) (fun d j _ => ?_)
      · by_cases e : G 44 (12 * v + j) = 0
        · exact Or.inl (by rw [if_pos e])
        · by_cases d : G 37 (12 * v + j) = 0
          · exact Or.inr (by rw [if_neg e, if_pos d])
          · exact Or.inl (by rw [if_neg e, if_neg d])
      · show (if L_X7_hasOff_15_2 M s v 0 j = 0 then (if M 30 v = nI s then (if M 37 ((12 * v) + j) = 2 then 1 else 0) else 0) else 1) = _
        rw [h.q 30, if_pos e, h.e37 (12 * v + j)]
        by_cases e : G 37 (12 * v + j) = 0
        · by_cases d : G 44 (12 * v + j) = 0
          · rw [if_pos e, if_pos d, if_pos d]; rfl
          · rw [if_pos e, if_neg d, if_neg d, if_pos e]; rfl
        · by_cases d : G 44 (12 * v + j) = 0
          · rw [if_neg e, if_pos d]; rfl
          · rw [if_neg e, if_neg d, if_neg e]; rfl
      · show (if G 44 (12 * v + j) = 0 then (E_X5_hasPutOffUnmended_2 G v d (j + 1)) else (if G 37 (12 * v + j) = 0 then 1 else (E_X5_hasPutOffUnmended_2 G v d (j + 1)))) = _
        by_cases e : G 44 (12 * v + j) = 0
        · rw [if_pos e, if_pos e]; rfl
        · by_cases d : G 37 (12 * v + j) = 0
          · rw [if_neg e, if_pos d, if_neg e, if_pos d]; rfl
          · rw [if_neg e, if_neg d, if_neg e, if_neg d]; rfl
    · rw [if_neg e]
      clear hk
      induction k with
      | zero => rfl
      | succ k ih =>
        show (if L_X7_hasOff_15_2 M s v 0 k = 0 then (if M 30 v = nI s then (if M 37 ((12 * v) + k) = 2 then 1 else 0) else 0) else 1) = _
        rw [ih, if_pos rfl, h.q 30, if_neg e]
  · rw [if_neg e0]
    exact l1 a0 e0 k
theorem x5_off (G : GS) (v : Nat) : f_X5_hasPutOffUnmended G v = 0 ∨ f_X5_hasPutOffUnmended G v = 1 := by
  unfold f_X5_hasPutOffUnmended
  have a : ∀ d k, E_X5_hasPutOffUnmended_2 G v d k = 0 ∨ E_X5_hasPutOffUnmended_2 G v d k = 1 := fun d => by
    induction d with
    | zero => intro k; exact Or.inl rfl
    | succ d ih =>
      intro k
      show (if G 44 (12 * v + k) = 0 then (E_X5_hasPutOffUnmended_2 G v d (k + 1)) else (if G 37 (12 * v + k) = 0 then 1 else (E_X5_hasPutOffUnmended_2 G v d (k + 1)))) = 0 ∨ (if G 44 (12 * v + k) = 0 then (E_X5_hasPutOffUnmended_2 G v d (k + 1)) else (if G 37 (12 * v + k) = 0 then 1 else (E_X5_hasPutOffUnmended_2 G v d (k + 1)))) = 1
      split
      · exact ih _
      · split
        · exact Or.inr rfl
        · exact ih _
  exact a _ _
theorem v_off (h : R9 n G M) (s : Nat) : f_X7_hasOff M s = f_X6_hasPutOffUnmended G s := by
  unfold f_X7_hasOff f_X6_hasPutOffUnmended
  rw [h.V]
  have ab : ∀ k, k ≤ gnV G → L_X7_hasOff_4_2 M s k = 0 ∨ L_X7_hasOff_4_2 M s k = 1 := fun k => by
    induction k with
    | zero => intro _; exact Or.inl rfl
    | succ k ih =>
      intro hk
      show L_X7_hasOff_15_2 M s k (L_X7_hasOff_4_2 M s k) (gnF M k) = 0 ∨ L_X7_hasOff_15_2 M s k (L_X7_hasOff_4_2 M s k) (gnF M k) = 1
      rw [v_off5 h s k _ (by omega) _ (by rw [h.F])]
      rcases ih (by omega) with e | e
      · rw [if_pos e]
        split
        · exact x5_off G k
        · exact Or.inl rfl
      · rw [if_neg (by rw [e]; decide)]
        split
        · exact Or.inr e
        · exact Or.inr rfl
  refine loopEL (n := gnV G) (b := 0) (p := fun k => if G 30 k = nI s then (if f_X5_hasPutOffUnmended G k = 0 then 0 else 1) else 0) (Or.inl rfl) (fun k _ => ?_) rfl (fun k hk => ?_) (fun k => rfl) (fun d k _ => ?_)
  · by_cases e : G 30 k = nI s
    · by_cases d : f_X5_hasPutOffUnmended G k = 0
      · exact Or.inl (by rw [if_pos e, if_pos d])
      · exact Or.inr (by rw [if_pos e, if_neg d])
    · exact Or.inl (by rw [if_neg e])
  · show L_X7_hasOff_15_2 M s k (L_X7_hasOff_4_2 M s k) (gnF M k) = _
    rw [v_off5 h s k _ hk _ (by rw [h.F])]
    rcases ab k (by omega) with e | e
    · rw [if_pos e, if_pos e]
      by_cases c : G 30 k = nI s
      · rw [if_pos c, if_pos c]
        rcases x5_off G k with d | d
        · rw [d]; rfl
        · rw [d]; rfl
      · rw [if_neg c, if_neg c]
    · have ne : ¬ L_X7_hasOff_4_2 M s k = 0 := by rw [e]; decide
      rw [if_neg ne, if_neg ne, e]
      split <;> rfl
  · show (if G 30 k = nI s then (if f_X5_hasPutOffUnmended G k = 0 then (E_X6_hasPutOffUnmended_2 G s d (k + 1)) else 1) else (E_X6_hasPutOffUnmended_2 G s d (k + 1))) = _
    by_cases e : G 30 k = nI s
    · by_cases d9 : f_X5_hasPutOffUnmended G k = 0
      · rw [if_pos e, if_pos d9, if_pos (by rw [if_pos e, if_pos d9])]
      · rw [if_pos e, if_neg d9, if_neg (by rw [if_pos e, if_neg d9]; decide)]
    · rw [if_neg e, if_pos (by rw [if_neg e])]
theorem v_knew (h : R9 n G M) (s : Nat) (x2 x3 : Int32) : f_X7_knew M s x2 x3 = L_X6_knew_54_5 G s x2 x3 (gnV G) := by
  unfold f_X7_knew
  rw [h.V]
  have a : ∀ k, k ≤ gnV G → L_X7_knew_46_4 M s x2 x3 k = L_X6_knew_54_5 G s x2 x3 k := fun k => by
    induction k with
    | zero => intro _; rfl
    | succ k ih =>
      intro hk
      show L_X7_knew_46_4 M s x2 x3 k + (if v_X7_knew_106 M s x2 x3 k = 0 then 0 else M 35 k) = if G 30 k = nI s then (if f_X5_isKnownAt G k x2 x3 = 0 then L_X6_knew_54_5 G s x2 x3 k else (L_X6_knew_54_5 G s x2 x3 k) + (nI (gnF G k))) else L_X6_knew_54_5 G s x2 x3 k
      rw [ih (by omega), h.q 35, (h.ic.f (by omega : k < gnV G)).1]
      unfold v_X7_knew_106 f_X5_isKnownAt
      rw [h.q 30, h.q 32, h.q 31]
      by_cases e : G 30 k = nI s
      · rw [if_pos e, if_pos e]
        by_cases d : G 31 k = x2
        · rw [if_pos d, if_pos d, Int32.add_zero]
          by_cases c : x3 < G 32 k
          · rw [if_pos c]; exact Int32.add_zero _
          · rw [if_neg c]; rfl
        · rw [if_neg d, if_neg d]
          by_cases c : x3 < G 32 k + 3
          · rw [if_pos c]; exact Int32.add_zero _
          · rw [if_neg c]; rfl
      · rw [if_neg e, if_neg e]; exact Int32.add_zero _
  exact a _ (Nat.le_refl _)
end V9
