def refs (k : Nat) : List Nat := match k with
  | 0 => [1, 2, 3, 4, 5]
  | 1 => [15]
  | 2 => [16]
  | 3 => [17]
  | 4 => []
  | 5 => []
  | 6 => [7, 8, 10]
  | 7 => [13]
  | 8 => [18]
  | 9 => []
  | 10 => [6, 11]
  | 11 => [19]
  | 12 => []
  | 13 => []
  | 14 => []
  | 15 => [6]
  | 16 => [9]
  | 17 => [10]
  | 18 => [14]
  | _ => [12]
theorem ct_ad {cy : Nat → ClassId} {AD1 AD : AM} {G : GS} {k i j : Nat} (hk : k < 20) (h : ∀ r, r ∈ refs k → AD1 r = AD r) : cont cy AD1 G k i j = cont cy AD G k i j := by
  rcases k20 hk with rfl | rfl | rfl | rfl | rfl | rfl | rfl | rfl | rfl | rfl | rfl | rfl | rfl | rfl | rfl | rfl | rfl | rfl | rfl | rfl
  · simp only [cont, buF, h 1 (by decide), h 2 (by decide), h 3 (by decide), h 4 (by decide), h 5 (by decide)]
  · simp only [cont, h 15 (by decide)]
  · simp only [cont, h 16 (by decide)]
  · simp only [cont, h 17 (by decide)]
  · rfl
  · rfl
  · simp only [cont, shF, xr, h 7 (by decide), h 8 (by decide), h 10 (by decide)]
  · have e : caF AD1 G i = caF AD G i := by
      unfold caF
      rw [h 13 (by decide)]
    simp only [cont, e]
  · simp only [cont, h 18 (by decide)]
  · rfl
  · simp only [cont, viF, h 6 (by decide), h 11 (by decide)]
  · simp only [cont, h 19 (by decide)]
  · rfl
  · rfl
  · rfl
  · simp only [cont, h 6 (by decide)]
  · simp only [cont, h 9 (by decide)]
  · simp only [cont, h 10 (by decide)]
  · simp only [cont, h 14 (by decide)]
  · simp only [cont, h 12 (by decide)]
theorem larr_cg {cy : Nat → ClassId} {n : Nat} {e1 e : Nat → Nat} (h : ∀ j, j < n → e1 j = e j) : larr cy n e1 = larr cy n e := by
  have q : lf n e1 = lf n e := funext (fun j => by
    unfold lf
    split
    · rename_i hj
      rw [h j hj]
    · rfl)
  unfold larr
  rw [q]
theorem dep_made : ∀ k, k < 20 → ∀ a ∈ dep k, a ∉ [50, 51, 52, 53, 54] := by decide
/-- a new object takes its role -/
theorem RepC.mk {cy : Nat → ClassId} {AD : AM} {G : GS} {μ : MU} (h : RepC cy AD G μ) {G1 : GS} {k i j q x0 : Nat} (h7 : k ≠ 7) (hq : ∀ k' i' j', ok G k' i' j' → AD k' i' j' ≠ q)
    (hG : ∀ a x, G1 a x = G a x ∨ (own a = k ∧ a ∉ cntL ∧ x = x0) ∨ a ∈ [50, 51, 52, 53, 54]) (hx0 : rel k i j x0)
    (hok : ∀ k' i' j', ok G1 k' i' j' → ¬ (k' = k ∧ i' = i ∧ j' = j) → ok G k' i' j') (hok1 : ok G1 k i j)
    (hAD : ∀ k' i' j', ok G k' i' j' → k ∈ refs k' → cont cy (upA AD k i j q) G k' i' j' = cont cy AD G k' i' j')
    (hn : μ q = some (cont cy (upA AD k i j q) G1 k i j)) : RepC cy (upA AD k i j q) G1 μ := by
  refine ⟨fun k' i' j' ho => ?_, fun k1 i1 j1 k2 i2 j2 h1 h2 e => ?_⟩
  · by_cases n : k' = k ∧ i' = i ∧ j' = j
    · obtain ⟨rfl, rfl, rfl⟩ := n
      rw [upA_eq]
      exact hn
    · have ho0 := hok k' i' j' ho n
      rw [upA_ne2 n, h.1 k' i' j' ho0]
      have e1 : cont cy (upA AD k i j q) G1 k' i' j' = cont cy (upA AD k i j q) G k' i' j' := ct_cg ho.1 (fun a ha x' hr => by
        rcases hG a x' with e | ⟨e1, e2, e3⟩ | e
        · exact e
        · have hkk : k' = k := (dep_own k' ho.1 a ha e2).symm.trans e1
          subst hkk
          rw [e3] at hr
          exact absurd (have q := rel_inj hok1 ho h7 hx0 hr; ⟨rfl, q.1, q.2⟩) n
        · exact absurd e (dep_made k' ho.1 a ha))
      rw [e1]
      by_cases hr : k ∈ refs k'
      · rw [hAD k' i' j' ho0 hr]
      · rw [ct_ad ho.1 (fun r hr' => upA_ne (fun e => hr (by rw [← e]; exact hr')))]
  · by_cases n1 : k1 = k ∧ i1 = i ∧ j1 = j
    · by_cases n2 : k2 = k ∧ i2 = i ∧ j2 = j
      · exact ⟨n1.1.trans n2.1.symm, n1.2.1.trans n2.2.1.symm, n1.2.2.trans n2.2.2.symm⟩
      · obtain ⟨rfl, rfl, rfl⟩ := n1
        rw [upA_eq, upA_ne2 n2] at e
        exact absurd e.symm (hq k2 i2 j2 (hok k2 i2 j2 h2 n2))
    · by_cases n2 : k2 = k ∧ i2 = i ∧ j2 = j
      · obtain ⟨rfl, rfl, rfl⟩ := n2
        rw [upA_eq, upA_ne2 n1] at e
        exact absurd e (hq k1 i1 j1 (hok k1 i1 j1 h1 n1))
      · rw [upA_ne2 n1, upA_ne2 n2] at e
        exact h.2 k1 i1 j1 k2 i2 j2 (hok k1 i1 j1 h1 n1) (hok k2 i2 j2 h2 n2) e
/-- a list has one element more -/
theorem RepC.la {cy : Nat → ClassId} {AD : AM} {G : GS} {μ μ1 : MU} (h : RepC cy AD G μ) {G1 : GS} {kl ke i n ed1 : Nat} (hkl : ok G kl i 0) (hne : kl ≠ ke)
    (hok : ∀ k' i' j', ok G1 k' i' j' → ¬ (k' = ke ∧ i' = i ∧ j' = 0) → ok G k' i' j') (hke : n ≠ 0 → ok G ke i 0)
    (h1 : μ1 (AD kl i 0) = some (cont cy (upA AD ke i 0 ed1) G1 kl i 0)) (h2 : μ1 ed1 = some (cont cy (upA AD ke i 0 ed1) G1 ke i 0)) (h3 : (n ≠ 0 ∧ ed1 = AD ke i 0) ∨ μ ed1 = none) (h4 : ∀ b, b ≠ AD kl i 0 → b ≠ ed1 → μ1 b = μ b)
    (hc : ∀ k' i' j', ok G k' i' j' → ¬ (k' = kl ∧ i' = i ∧ j' = 0) → ¬ (k' = ke ∧ i' = i ∧ j' = 0) → cont cy (upA AD ke i 0 ed1) G1 k' i' j' = cont cy AD G k' i' j') : RepC cy (upA AD ke i 0 ed1) G1 μ1 := by
  have hed : ∀ k' i' j', ok G k' i' j' → ¬ (k' = ke ∧ i' = i ∧ j' = 0) → AD k' i' j' ≠ ed1 := by
    intro k' i' j' ho n9 e
    rcases h3 with ⟨a1, a2⟩ | a
    · exact n9 (h.2 k' i' j' ke i 0 ho (hke a1) (e.trans a2))
    · exact h.out a ho e
  have nkl : ¬ (kl = ke ∧ i = i ∧ 0 = 0) := fun e => hne e.1
  refine h.al (fun k' i' j' => (k' = kl ∧ i' = i ∧ j' = 0) ∨ (k' = ke ∧ i' = i ∧ j' = 0)) (fun k' i' j' ho n9 => ?_) (fun k' i' j' ho n9 => ?_) (fun k1 i1 j1 k2 i2 j2 n1 n2 o1 o2 e => ?_)
  · have hno : ¬ (k' = ke ∧ i' = i ∧ j' = 0) := fun e => n9 (Or.inr e)
    have hnl : ¬ (k' = kl ∧ i' = i ∧ j' = 0) := fun e => n9 (Or.inl e)
    have ho0 := hok k' i' j' ho hno
    exact ⟨ho0, upA_ne2 hno, hc k' i' j' ho0 hnl hno, h4 _ (fun e => hnl (h.2 k' i' j' kl i 0 ho0 hkl e)) (hed k' i' j' ho0 hno)⟩
  · rcases n9 with ⟨rfl, rfl, rfl⟩ | ⟨rfl, rfl, rfl⟩
    · rw [upA_ne2 nkl]
      exact ⟨h1, Or.inl ⟨hkl, rfl⟩⟩
    · rw [upA_eq]
      refine ⟨h2, ?_⟩
      rcases h3 with ⟨a1, a2⟩ | a
      · exact Or.inl ⟨hke a1, a2⟩
      · exact Or.inr a
  · rcases n1 with ⟨rfl, rfl, rfl⟩ | ⟨rfl, rfl, rfl⟩
    · rcases n2 with ⟨rfl, rfl, rfl⟩ | ⟨rfl, rfl, rfl⟩
      · exact ⟨rfl, rfl, rfl⟩
      · rw [upA_eq, upA_ne2 nkl] at e
        exact absurd e (hed _ _ _ hkl nkl)
    · rcases n2 with ⟨rfl, rfl, rfl⟩ | ⟨rfl, rfl, rfl⟩
      · rw [upA_eq, upA_ne2 nkl] at e
        exact absurd e.symm (hed _ _ _ hkl nkl)
      · exact ⟨rfl, rfl, rfl⟩
