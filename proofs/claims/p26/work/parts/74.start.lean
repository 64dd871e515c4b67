/-! from the entry: the object, the nine arrays, the first turn -/
theorem un_09 {X Y : MU} {a : Nat} (h : un X Y a = none) : X a = none ∧ Y a = none := by
  have hx : X a = none := by
    cases q : X a with
    | none => rfl
    | some e => rw [un_l q] at h; cases h
  exact ⟨hx, (un_n hx).symm.trans h⟩
def e0 (cy : Nat → ClassId) (k : Nat) : va_E := if k = 9 then .inl (cy 4, 50, .inr (.inl (fun _ => 0))) else .inl (cy 0, lLen k, .inl (fun _ => 0))
def RLs (ks : List Nat) (cy : Nat → ClassId) (ad : Nat → Nat) (Y : MU) : Prop := ∀ k, k ∈ ks → Y (ad k) = some (e0 cy k) ∧ ∀ j, j ∈ ks → ad j = ad k → j = k
theorem RLs.add {ks : List Nat} {cy : Nat → ClassId} {ad : Nat → Nat} {Y : MU} (h : RLs ks cy ad Y) {a k : Nat} (ha : Y a = none) (hk : k ∉ ks) : RLs (k :: ks) cy (fun j => if j = k then a else ad j) (mset Y a (e0 cy k)) := by
  have ne : ∀ j, j ∈ ks → j ≠ k := fun j hj q => hk (q ▸ hj)
  have nq : ∀ j, j ∈ ks → ad j ≠ a := fun j hj q => by
    have := (h j hj).1
    rw [q, ha] at this
    cases this
  intro i hi
  show mset Y a (e0 cy k) (if i = k then a else ad i) = some (e0 cy i) ∧ ∀ j, j ∈ k :: ks → (if j = k then a else ad j) = (if i = k then a else ad i) → j = i
  rcases List.mem_cons.mp hi with q | q
  · subst q
    rw [if_pos rfl]
    refine ⟨mset_eq _ _ _, fun j hj e => ?_⟩
    rcases List.mem_cons.mp hj with z | z
    · exact z
    · rw [if_neg (ne j z)] at e
      exact absurd e (nq j z)
  · rw [if_neg (ne i q)]
    refine ⟨(mset_ne (nq i q)).trans (h i q).1, fun j hj e => ?_⟩
    rcases List.mem_cons.mp hj with z | z
    · rw [if_pos z] at e
      exact absurd e.symm (nq i q)
    · rw [if_neg (ne j z)] at e
      exact (h i q).2 j z e
theorem RLs.rep {cy : Nat → ClassId} {ad : Nat → Nat} {Y : MU} (h : RLs [10, 9, 8, 7, 6, 5, 4, 3, 2] cy ad Y) : RepL cy ad G0 (fun _ => 0) Y := by
  have hm : ∀ k, (lK k = true ∨ k = 9) → k ∈ [10, 9, 8, 7, 6, 5, 4, 3, 2] := fun k hk => by
    rcases hk with q | q
    · unfold lK at q
      simp only [Bool.or_eq_true, beq_iff_eq] at q
      simp only [List.mem_cons, List.not_mem_nil, or_false]
      omega
    · rw [q]; decide
  refine ⟨fun k hk => ?_, (h 9 (by decide)).1, fun j k hj hk e => (h k (hm k hk)).2 j (hm j hj) e⟩
  have q := (h k (hm k (Or.inl hk))).1
  unfold e0 at q
  rw [if_neg (fun z => by rw [z] at hk; revert hk; decide)] at q
  exact q
def cS : Nat → GS
  | 0 => G0
  | k + 1 => up2 (cS k) 3 (3 * k) (-1)
theorem cS_ne : ∀ k j, j ≠ 3 → cS k j = G0 j
  | 0, _, _ => rfl
  | k + 1, j, h => (up2_ne h).trans (cS_ne k j h)
theorem cS_3 : ∀ n k, k < n → cS n 3 (3 * k) = -1
  | 0, k, h => by omega
  | n + 1, k, h => by
    show up2 (cS n) 3 (3 * n) (-1) 3 (3 * k) = -1
    rw [up2_eq]
    by_cases q : k = n
    · rw [q, pk_us]
    · rw [pk_un (by omega)]
      exact cS_3 n k (by omega)
theorem dF_0 : ∀ j, j < 12 → dF 0 j = 0 := by decide +kernel
theorem r26_0 : R26 0 G0 G0 (cS 20) (fun _ => 0) := by
  have c : ∀ j, j ≠ 3 → ∀ i, cS 20 j i = 0 := fun j hj i => congrFun (cS_ne 20 j hj) i
  have n0 : gnS G0 = 0 := rfl
  have v0 : gnV G0 = 0 := rfl
  have q0 : gnR G0 = 0 := rfl
  refine ⟨R9.z0, by rw [n0, v0, q0]; exact ⟨by decide, by decide, by decide⟩, ?_⟩
  unfold Q26
  rw [n0, v0, q0]
  have vx : ∀ j (x m : Nat → Int32), QX 0 j x m := fun j x m s hs => absurd hs (Nat.not_lt_zero s)
  have wx : ∀ j, QX 4 j (cS 20 2) (G0 j) := fun j s _ => c 2 (by decide) _
  refine ⟨⟨vx _ _ _, vx _ _ _, vx _ _ _, vx _ _ _, vx _ _ _, wx 5, vx _ _ _, vx _ _ _, vx _ _ _, vx _ _ _, wx 10, wx 11, fun s hs => absurd hs (Nat.not_lt_zero s), wx 13⟩, fun k hk => Or.inl ⟨rfl, cS_3 20 k hk⟩, fun k hk => absurd hk (Nat.not_lt_zero k), fun k hk => absurd hk (Nat.not_lt_zero k), fun k hk => absurd hk (Nat.not_lt_zero k), fun k hk => absurd hk (Nat.not_lt_zero k), fun v j hv hj => ?_, fun v hv => ⟨0, rfl, (show 0 < 16 ^ 0 by decide), fun j hj => absurd hj (Nat.not_lt_zero j)⟩, ⟨c 10 (by decide) 0, c 10 (by decide) 1, c 10 (by decide) 2, c 10 (by decide) 8, fun p hp => c 10 (by decide) _⟩, ⟨0, by decide, c 10 (by decide) 7, fun i hi => by rw [Nat.zero_div]; rfl⟩, fun s hs => absurd hs (Nat.not_lt_zero s)⟩
  rw [c 8 (by decide) v, if_neg (show ¬ j < (G0 35 v).toNatClampNeg from Nat.not_lt_zero j)]
  exact dF_0 j hj
