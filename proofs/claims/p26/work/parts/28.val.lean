theorem isn_b : ∀ e, e < 16 → ∀ k, k < 4 → f_X7_isIn (nI (2 * e)) (nI (k + 1)) = f_X6_isIn (nI k) (nI e) := by decide +kernel
theorem bit_b : ∀ e, e < 16 → ∀ k, k < 4 → f_J6_bitCount_0f7a4 (nI e ||| ((1 : Int32) <<< (nI k &&& 31))) = f_X7_many (nI (2 * e) ||| ((1 : Int32) <<< (nI (k + 1) &&& 31))) := by decide +kernel
theorem bit_e : ∀ e, e < 16 → ∀ k, k < 4 → (e ||| 2 ^ k) < 16 ∧ (nI e ||| ((1 : Int32) <<< (nI k &&& 31))) = nI (e ||| 2 ^ k) ∧ (nI (2 * e) ||| ((1 : Int32) <<< (nI (k + 1) &&& 31))) = nI (2 * (e ||| 2 ^ k)) := by decide +kernel
def fF (k : Nat) (b acc : Int32) : Int32 := if b = 0 then (if f_X6_isIn (f_X6_hangsOn (nI k)) acc = 0 then acc else acc ||| ((1 : Int32) <<< ((nI k) &&& 31))) else acc ||| ((1 : Int32) <<< ((nI k) &&& 31))
def fam5 (a0 a1 a2 a3 a4 : Int32) : Int32 := fF 4 a4 (fF 3 a3 (fF 2 a2 (fF 1 a1 (fF 0 a0 0))))
def or2 (a b : Int32) : Int32 := if a = 0 then (if b = 0 then 0 else 1) else 1
def il5 (a0 a1 a2 a3 a4 : Int32) (f : Nat) : Int32 := if f = 0 then a0 else if f = 1 then or2 a1 a0 else if f = 2 then or2 (or2 a2 a1) a0 else if f = 3 then or2 a3 a0 else a4
def lo1 (acc : Int32) (k : Nat) (b : Int32) : Int32 := acc ||| (if b = 0 then 0 else (1 : Int32) <<< ((nI k) &&& 31))
def lo5 (a0 a1 a2 a3 a4 : Int32) : Int32 := lo1 (lo1 (lo1 (lo1 (lo1 0 0 (il5 a0 a1 a2 a3 a4 0)) 1 (il5 a0 a1 a2 a3 a4 1)) 2 (il5 a0 a1 a2 a3 a4 2)) 3 (il5 a0 a1 a2 a3 a4 3)) 4 (il5 a0 a1 a2 a3 a4 4)
def ha5 (a0 a1 a2 a3 a4 : Int32) (f : Nat) : Int32 := if f = 2 then il5 a0 a1 a2 a3 a4 1 else if f = 1 then (if il5 a0 a1 a2 a3 a4 0 = 0 then 0 else 1) else if f = 3 then (if il5 a0 a1 a2 a3 a4 0 = 0 then 0 else 1) else 0
def bI (b : Bool) : Int32 := if b then 1 else 0
theorem fam_d : ∀ b0 b1 b2 b3 b4 : Bool, lo5 (bI b0) (bI b1) (bI b2) (bI b3) (bI b4) = fam5 (bI b0) (bI b1) (bI b2) (bI b3) (bI b4) ∧ ∀ f, f < 5 → f_X6_isIn (nI f) (fam5 (bI b0) (bI b1) (bI b2) (bI b3) (bI b4)) = il5 (bI b0) (bI b1) (bI b2) (bI b3) (bI b4) f ∧ f_X6_isIn (f_X6_hangsOn (nI f)) (fam5 (bI b0) (bI b1) (bI b2) (bI b3) (bI b4)) = ha5 (bI b0) (bI b1) (bI b2) (bI b3) (bI b4) f := by decide +kernel
theorem bI_of {x : Int32} (h : x = 0 ∨ x = 1) : ∃ b, x = bI b := by
  rcases h with e | e
  · exact ⟨false, e⟩
  · exact ⟨true, e⟩
def ca (G : GS) (s f : Nat) : Int32 := if G 18 (5 * s + f) = 0 then 1 else (if f_X0_hasLapsedByItself G s f (G 1 0) = 0 then (if f_X6_isSuspended G (G 21 (5 * s + f)) = 0 then 0 else 1) else 1)
theorem ca_b (G : GS) (s f : Nat) : ca G s f = 0 ∨ ca G s f = 1 := by
  unfold ca
  split
  · exact Or.inr rfl
  · split
    · split
      · exact Or.inl rfl
      · exact Or.inr rfl
    · exact Or.inr rfl
theorem fam_c (G : GS) (s : Nat) : f_X6_familiesNotGood G s = fam5 (ca G s 0) (ca G s 1) (ca G s 2) (ca G s 3) (ca G s 4) := by
  have c : ∀ k, L_X6_familiesNotGood_4_2 G s (k + 1) = fF k (ca G s k) (L_X6_familiesNotGood_4_2 G s k) := fun k => by
    show (if G 18 (5 * s + k) = 0 then (L_X6_familiesNotGood_4_2 G s k) ||| ((1 : Int32) <<< ((nI k) &&& 31)) else (if f_X0_hasLapsedByItself G s k (G 1 0) = 0 then (if f_X6_isSuspended G (G 21 (5 * s + k)) = 0 then (if f_X6_isIn (f_X6_hangsOn (nI k)) (L_X6_familiesNotGood_4_2 G s k) = 0 then L_X6_familiesNotGood_4_2 G s k else (L_X6_familiesNotGood_4_2 G s k) ||| ((1 : Int32) <<< ((nI k) &&& 31))) else (L_X6_familiesNotGood_4_2 G s k) ||| ((1 : Int32) <<< ((nI k) &&& 31))) else (L_X6_familiesNotGood_4_2 G s k) ||| ((1 : Int32) <<< ((nI k) &&& 31)))) = _
    unfold fF ca
    by_cases e1 : G 18 (5 * s + k) = 0
    · rw [if_pos e1, if_pos e1, if_neg (by decide)]
    · rw [if_neg e1, if_neg e1]
      by_cases e2 : f_X0_hasLapsedByItself G s k (G 1 0) = 0
      · rw [if_pos e2, if_pos e2]
        by_cases e3 : f_X6_isSuspended G (G 21 (5 * s + k)) = 0
        · rw [if_pos e3, if_pos e3, if_pos rfl]
        · rw [if_neg e3, if_neg e3, if_neg (by decide)]
      · rw [if_neg e2, if_neg e2, if_neg (by decide)]
  show L_X6_familiesNotGood_4_2 G s (4 + 1) = _
  rw [c 4]
  show fF 4 _ (L_X6_familiesNotGood_4_2 G s (3 + 1)) = _
  rw [c 3]
  show fF 4 _ (fF 3 _ (L_X6_familiesNotGood_4_2 G s (2 + 1))) = _
  rw [c 2]
  show fF 4 _ (fF 3 _ (fF 2 _ (L_X6_familiesNotGood_4_2 G s (1 + 1)))) = _
  rw [c 1]
  show fF 4 _ (fF 3 _ (fF 2 _ (fF 1 _ (L_X6_familiesNotGood_4_2 G s (0 + 1))))) = _
  rw [c 0]
  rfl
section V8
variable {n : Nat} {G M : GS}
theorem v_T (h : R9 n G M) (x : Nat) : ∃ T, T ≤ 1825 ∧ M 20 x = nI T ∧ gnT M x = T ∧ gcT G x = T ∧ (T - 1) / 365 ≤ 4 := by
  obtain ⟨T, t1, t2⟩ := h.t20 x
  have e : G 20 x - G 19 x = M 20 x := by
    rw [h.e20 x, Int32.add_comm]
    exact Int32.add_sub_cancel _ _
  refine ⟨T, t1, t2, ?_, ?_, by omega⟩
  · unfold gnT
    rw [t2, nI_clamp (by omega)]
  · unfold gcT
    rw [e, t2, nI_clamp (by omega)]
theorem v_day (h : R9 n G M) (s f k : Nat) : M 19 (5 * s + f) + nI (365 * (k + 1)) = f_X0_anniversaryDay G s f (nI k) := by
  unfold f_X0_anniversaryDay
  have e : nI (365 * (k + 1)) = 365 * (nI k + 1) := by
    have q := pk_mul 365 (k + 1)
    rw [nI_succ k] at q
    exact q.symm
  rw [h.q 19, e]
theorem v_isn (h : R9 n G M) (x : Nat) {k : Nat} (hk : k < 4) : f_X7_isIn (M 22 x) (nI (k + 1)) = f_X6_isIn (nI k) (G 22 x) := by
  obtain ⟨e, e1, e2, e3⟩ := h.e22 x
  rw [e2, e3]
  exact isn_b e e1 k hk
theorem v_over (h : R9 n G M) (s f : Nat) : f_X7_isOver M (5 * s + f) = f_X0_hasLapsedByItself G s f (G 1 0) := by
  obtain ⟨T, t1, t2, t3, t4, t5⟩ := v_T h (5 * s + f)
  unfold f_X7_isOver f_X0_hasLapsedByItself
  rw [t3, t4]
  refine loopEL (n := (T - 1) / 365) (b := if G 1 0 ≤ G 20 (5 * s + f) then 0 else 1) (p := fun k => if f_X6_isIn (nI k) (G 22 (5 * s + f)) = 0 then (if G 1 0 ≤ (f_X0_anniversaryDay G s f (nI k)) + 90 then 0 else 1) else 0) (by split; exact Or.inl rfl; exact Or.inr rfl) (fun k _ => ?_) ?_ (fun k hk => ?_) (fun k => rfl) (fun d k _ => ?_)
  · show (if f_X6_isIn (nI k) (G 22 (5 * s + f)) = 0 then (if G 1 0 ≤ (f_X0_anniversaryDay G s f (nI k)) + 90 then (0 : Int32) else 1) else 0) = 0 ∨ (if f_X6_isIn (nI k) (G 22 (5 * s + f)) = 0 then (if G 1 0 ≤ (f_X0_anniversaryDay G s f (nI k)) + 90 then (0 : Int32) else 1) else 0) = 1
    split
    · split
      · exact Or.inl rfl
      · exact Or.inr rfl
    · exact Or.inl rfl
  · show v_X7_isOver_25 M (5 * s + f) = _
    unfold v_X7_isOver_25
    rw [h.q 1, h.q 19, ← h.e20 (5 * s + f)]
  · show (if L_X7_isOver_28_2 M (5 * s + f) k = 0 then (if f_X7_isIn (M 22 (5 * s + f)) (nI (k + 1)) = 0 then (if M 1 0 ≤ ((M 19 (5 * s + f)) + (nI (365 * (k + 1)))) + 90 then 0 else 1) else 0) else 1) = _
    rw [v_isn h _ (by omega), h.q 1, v_day h]
  · show (if f_X6_isIn (nI k) (G 22 (5 * s + f)) = 0 then (if G 1 0 ≤ (f_X0_anniversaryDay G s f (nI k)) + 90 then (E_X0_hasLapsedByItself_2 G s f (G 1 0) d (k + 1)) else 1) else (E_X0_hasLapsedByItself_2 G s f (G 1 0) d (k + 1))) = _
    by_cases e : f_X6_isIn (nI k) (G 22 (5 * s + f)) = 0
    · by_cases d9 : G 1 0 ≤ (f_X0_anniversaryDay G s f (nI k)) + 90
      · rw [if_pos e, if_pos d9, if_pos (by rw [if_pos e, if_pos d9])]
      · rw [if_pos e, if_neg d9, if_neg (by rw [if_pos e, if_neg d9]; decide)]
    · rw [if_neg e, if_pos (by rw [if_neg e])]
theorem v_al (h : R9 n G M) (s f : Nat) : f_X7_lapsedAlone M (5 * s + f) = ca G s f := by
  unfold f_X7_lapsedAlone ca
  rw [v_over h, h.q 18, h.q 2, h.q 21]
  obtain ⟨b, b1, b2⟩ := h.b21 (5 * s + f)
  have i1 : f_X6_isIndex (nI b) 4 = 1 := isx_one (n := 4) b1 (by decide)
  unfold f_X6_isSuspended
  rw [b2, i1, if_neg (by decide : ¬ (1 : Int32) = 0)]
  by_cases e : G 2 (nI b).toNatClampNeg = 0
  · rw [if_pos e, if_pos rfl]
  · rw [if_neg e, if_neg (by decide : ¬ (1 : Int32) = 0)]
theorem v_sus (h : R9 n G M) (s : Nat) : f_X6_isSuspended G (G 8 s) = if M 2 (M 8 s).toNatClampNeg = 0 then 0 else 1 := by
  rw [h.q 2, h.q 8]
  obtain ⟨b, b1, b2⟩ := h.b8 s
  have i1 : f_X6_isIndex (nI b) 4 = 1 := isx_one (n := 4) b1 (by decide)
  unfold f_X6_isSuspended
  rw [b2, i1, if_neg (by decide : ¬ (1 : Int32) = 0)]
theorem v_il (h : R9 n G M) (s : Nat) {f : Nat} (hf : f < 5) : f_X7_isLapsed M s f = il5 (ca G s 0) (ca G s 1) (ca G s 2) (ca G s 3) (ca G s 4) f := by
  have a := v_al h s
  have h5 : f = 0 ∨ f = 1 ∨ f = 2 ∨ f = 3 ∨ f = 4 := by omega
  rcases h5 with rfl | rfl | rfl | rfl | rfl
  · show f_X7_lapsedAlone M (5 * s + 0) = ca G s 0
    exact a 0
  · show (if f_X7_lapsedAlone M (5 * s + 1) = 0 then (if f_X7_lapsedAlone M (5 * s + 0) = 0 then 0 else 1) else 1) = or2 (ca G s 1) (ca G s 0)
    rw [a 1, a 0]
    rfl
  · show (if (if f_X7_lapsedAlone M (5 * s + 2) = 0 then (if f_X7_lapsedAlone M (5 * s + 1) = 0 then 0 else 1) else 1 : Int32) = 0 then (if f_X7_lapsedAlone M (5 * s + 0) = 0 then 0 else 1) else 1) = or2 (or2 (ca G s 2) (ca G s 1)) (ca G s 0)
    rw [a 2, a 1, a 0]
    rfl
  · show (if f_X7_lapsedAlone M (5 * s + 3) = 0 then (if f_X7_lapsedAlone M (5 * s + 0) = 0 then 0 else 1) else 1) = or2 (ca G s 3) (ca G s 0)
    rw [a 3, a 0]
    rfl
  · show f_X7_lapsedAlone M (5 * s + 4) = ca G s 4
    exact a 4
theorem v_fam (h : R9 n G M) (s : Nat) : f_X7_lapsedOf M s = f_X6_familiesNotGood G s := by
  rw [fam_c]
  have e : f_X7_lapsedOf M s = lo5 (ca G s 0) (ca G s 1) (ca G s 2) (ca G s 3) (ca G s 4) := by
    show lo1 (lo1 (lo1 (lo1 (lo1 0 0 (f_X7_isLapsed M s 0)) 1 (f_X7_isLapsed M s 1)) 2 (f_X7_isLapsed M s 2)) 3 (f_X7_isLapsed M s 3)) 4 (f_X7_isLapsed M s 4) = _
    rw [v_il h s (by decide : 0 < 5), v_il h s (by decide : 1 < 5), v_il h s (by decide : 2 < 5), v_il h s (by decide : 3 < 5), v_il h s (by decide : 4 < 5)]
    rfl
  rw [e]
  obtain ⟨b0, e0⟩ := bI_of (ca_b G s 0)
  obtain ⟨b1, e1⟩ := bI_of (ca_b G s 1)
  obtain ⟨b2, e2⟩ := bI_of (ca_b G s 2)
  obtain ⟨b3, e3⟩ := bI_of (ca_b G s 3)
  obtain ⟨b4, e4⟩ := bI_of (ca_b G s 4)
  rw [e0, e1, e2, e3, e4]
  exact (fam_d b0 b1 b2 b3 b4).1
theorem v_isl (h : R9 n G M) (s : Nat) {f : Nat} (hf : f < 5) : f_X7_isLapsed M s f = f_X6_isIn (nI f) (f_X6_familiesNotGood G s) := by
  rw [fam_c, v_il h s hf]
  obtain ⟨b0, e0⟩ := bI_of (ca_b G s 0)
  obtain ⟨b1, e1⟩ := bI_of (ca_b G s 1)
  obtain ⟨b2, e2⟩ := bI_of (ca_b G s 2)
  obtain ⟨b3, e3⟩ := bI_of (ca_b G s 3)
  obtain ⟨b4, e4⟩ := bI_of (ca_b G s 4)
  rw [e0, e1, e2, e3, e4]
  exact ((fam_d b0 b1 b2 b3 b4).2 f hf).1.symm
theorem v_hng (h : R9 n G M) (s : Nat) {f : Nat} (hf : f < 5) : f_X7_hangsOnLapsed M s f = f_X6_isIn (f_X6_hangsOn (nI f)) (f_X6_familiesNotGood G s) := by
  have e : f_X7_hangsOnLapsed M s f = ha5 (ca G s 0) (ca G s 1) (ca G s 2) (ca G s 3) (ca G s 4) f := by
    unfold f_X7_hangsOnLapsed
    rw [v_il h s (by decide : 0 < 5), v_il h s (by decide : 1 < 5)]
    have h5 : f = 0 ∨ f = 1 ∨ f = 2 ∨ f = 3 ∨ f = 4 := by omega
    rcases h5 with rfl | rfl | rfl | rfl | rfl <;> rfl
  rw [fam_c, e]
  obtain ⟨b0, e0⟩ := bI_of (ca_b G s 0)
  obtain ⟨b1, e1⟩ := bI_of (ca_b G s 1)
  obtain ⟨b2, e2⟩ := bI_of (ca_b G s 2)
  obtain ⟨b3, e3⟩ := bI_of (ca_b G s 3)
  obtain ⟨b4, e4⟩ := bI_of (ca_b G s 4)
  rw [e0, e1, e2, e3, e4]
  exact ((fam_d b0 b1 b2 b3 b4).2 f hf).2.symm
theorem abs_in {t A : Nat} (ht : t ≤ 9000) (hA : A ≤ 11000) (h90 : 90 ≤ A) : (90 < (if 0 ≤ (nI t - nI A) then (nI t - nI A) else 0 - (nI t - nI A) : Int32)) ↔ f_X7_in (nI t) (nI A - 90) (nI A + 90) = 0 := by
  have e1 : nI A - 90 = nI (A - 90) := pk_sub (a := A) (b := 90) h90
  have e2 : nI A + 90 = nI (A + 90) := nI_add A 90
  have z : (0 : Int32).toInt = 0 := by decide
  have n9 : (90 : Int32).toInt = 90 := by decide
  have d1 := pk_sub_toInt (a := t) (b := A) (by omega) (by omega)
  have d2 := pk_sub_toInt (a := A) (b := t) (by omega) (by omega)
  unfold f_X7_in
  rw [e1, e2, Int32.zero_sub, Int32.neg_sub]
  by_cases c9 : (0 : Int32) ≤ nI t - nI A
  · have c := Int32.le_iff_toInt_le.mp c9
    rw [d1, z] at c
    rw [if_pos c9, Int32.lt_iff_toInt_lt, d1, n9, if_neg (by rw [nI_ltI (by omega) (by omega)]; omega)]
    by_cases c2 : A + 90 < t
    · rw [if_pos (nI_lt c2 (by omega))]
      exact ⟨fun _ => rfl, fun _ => by omega⟩
    · rw [if_neg (nI_nlt (by omega) (by omega))]
      exact ⟨fun q => by omega, fun q => absurd q (by decide)⟩
  · have c : ¬ (0 : Int) ≤ (t : Int) - A := fun q => c9 (Int32.le_iff_toInt_le.mpr (by rw [d1, z]; exact q))
    rw [if_neg c9, Int32.lt_iff_toInt_lt, d2, n9]
    by_cases c2 : t < A - 90
    · rw [if_pos (nI_lt c2 (by omega))]
      exact ⟨fun _ => rfl, fun _ => by omega⟩
    · rw [if_neg (nI_nlt (by omega) (by omega)), if_neg (nI_nlt (by omega) (by omega))]
      exact ⟨fun q => by omega, fun q => absurd q (by decide)⟩
theorem v_ann (h : R9 n G M) (s f : Nat) : (f_X7_anniversary M (5 * s + f) = -1 ∧ f_X0_anniversaryToEndorse G s f (G 1 0) = -1) ∨ ∃ k, k < 4 ∧ f_X0_anniversaryToEndorse G s f (G 1 0) = nI k ∧ f_X7_anniversary M (5 * s + f) = nI (k + 1) := by
  obtain ⟨T, t1, t2, t3, t4, t5⟩ := v_T h (5 * s + f)
  obtain ⟨t, u1, u2⟩ := h.b1
  obtain ⟨d9, w1, w2⟩ := h.b19 (5 * s + f)
  have hday : ∀ k, f_X0_anniversaryDay G s f (nI k) = nI (d9 + 365 * (k + 1)) := fun k => by
    rw [← v_day h, h.q 19, w2, nI_add]
  unfold f_X7_anniversary f_X0_anniversaryToEndorse
  rw [t3, t4]
  have key := firstEL (n := (T - 1) / 365) (c := fun k => f_X6_isIn (nI k) (G 22 (5 * s + f)) = 0 ∧ ¬ f_X7_in (M 1 0) (((M 19 (5 * s + f)) + (nI (365 * (k + 1)))) - 90) (((M 19 (5 * s + f)) + (nI (365 * (k + 1)))) + 90) = 0) (L := L_X7_anniversary_4_2 M (5 * s + f)) (E := E_X0_anniversaryToEndorse_2 G s f (G 1 0)) (by omega) rfl
    (fun k hk q c => ?_) (fun k hk c => ?_) (fun k hk q => ?_) (fun k => rfl) (fun d k hk c => ?_) (fun d k hk c => ?_)
  · rcases key with q | ⟨k, k1, _, k3, k4⟩
    · exact Or.inl q
    · exact Or.inr ⟨k, by omega, k3, k4⟩
  · show (if L_X7_anniversary_4_2 M (5 * s + f) k = (-1) then (if f_X7_isIn (M 22 (5 * s + f)) (nI (k + 1)) = 0 then (if f_X7_in (M 1 0) (((M 19 (5 * s + f)) + (nI (365 * (k + 1)))) - 90) (((M 19 (5 * s + f)) + (nI (365 * (k + 1)))) + 90) = 0 then L_X7_anniversary_4_2 M (5 * s + f) k else nI (k + 1)) else L_X7_anniversary_4_2 M (5 * s + f) k) else L_X7_anniversary_4_2 M (5 * s + f) k) = _
    rw [if_pos q, v_isn h _ (by omega), if_pos c.1, if_neg c.2]
  · show (if L_X7_anniversary_4_2 M (5 * s + f) k = (-1) then (if f_X7_isIn (M 22 (5 * s + f)) (nI (k + 1)) = 0 then (if f_X7_in (M 1 0) (((M 19 (5 * s + f)) + (nI (365 * (k + 1)))) - 90) (((M 19 (5 * s + f)) + (nI (365 * (k + 1)))) + 90) = 0 then L_X7_anniversary_4_2 M (5 * s + f) k else nI (k + 1)) else L_X7_anniversary_4_2 M (5 * s + f) k) else L_X7_anniversary_4_2 M (5 * s + f) k) = _
    rw [v_isn h _ (by omega)]
    split
    · split
      · split
        · rfl
        · rename_i c1 c2
          exact absurd ⟨c1, c2⟩ c
      · rfl
    · rfl
  · show (if L_X7_anniversary_4_2 M (5 * s + f) k = (-1) then (if f_X7_isIn (M 22 (5 * s + f)) (nI (k + 1)) = 0 then (if f_X7_in (M 1 0) (((M 19 (5 * s + f)) + (nI (365 * (k + 1)))) - 90) (((M 19 (5 * s + f)) + (nI (365 * (k + 1)))) + 90) = 0 then L_X7_anniversary_4_2 M (5 * s + f) k else nI (k + 1)) else L_X7_anniversary_4_2 M (5 * s + f) k) else L_X7_anniversary_4_2 M (5 * s + f) k) = _
    rw [if_neg q]
  · show (if f_X6_isIn (nI k) (G 22 (5 * s + f)) = 0 then (if 90 < (if 0 ≤ (G 1 0 - (f_X0_anniversaryDay G s f (nI k))) then (G 1 0 - (f_X0_anniversaryDay G s f (nI k))) else 0 - (G 1 0 - (f_X0_anniversaryDay G s f (nI k))) : Int32) then (E_X0_anniversaryToEndorse_2 G s f (G 1 0) d (k + 1)) else (nI k)) else (E_X0_anniversaryToEndorse_2 G s f (G 1 0) d (k + 1))) = _
    rw [if_pos c.1, if_neg]
    rw [hday, u2, abs_in u1 (by omega) (by omega), ← hday, ← u2, ← v_day h, ← h.q 1]
    exact c.2
  · show (if f_X6_isIn (nI k) (G 22 (5 * s + f)) = 0 then (if 90 < (if 0 ≤ (G 1 0 - (f_X0_anniversaryDay G s f (nI k))) then (G 1 0 - (f_X0_anniversaryDay G s f (nI k))) else 0 - (G 1 0 - (f_X0_anniversaryDay G s f (nI k))) : Int32) then (E_X0_anniversaryToEndorse_2 G s f (G 1 0) d (k + 1)) else (nI k)) else (E_X0_anniversaryToEndorse_2 G s f (G 1 0) d (k + 1))) = _
    by_cases c1 : f_X6_isIn (nI k) (G 22 (5 * s + f)) = 0
    · rw [if_pos c1, if_pos]
      rw [hday, u2, abs_in u1 (by omega) (by omega), ← hday, ← u2, ← v_day h, ← h.q 1]
      exact Classical.not_not.mp (fun c2 => c ⟨c1, c2⟩)
    · rw [if_neg c1]
end V8
