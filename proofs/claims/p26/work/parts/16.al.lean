def refs (k : Nat) : List Nat := match k with
  | 0 => [1, 2, 3, 4, 5]
  | 1 => [15]
  | 2 => [16]
  | 3 => [17]
  | 4 => []
  | 5 => []
  | 6 => [7, 8, 10]
  | 7 => [13]
  | 8 => [18]
  | 9 => []
  | 10 => [6, 11]
  | 11 => [19]
  | 12 => []
  | 13 => []
  | 14 => []
  | 15 => [6]
  | 16 => [9]
  | 17 => [10]
  | 18 => [14]
  | _ => [12]
theorem ct_ad {cy : Nat → ClassId} {AD1 AD : AM} {G : GS} {k i j : Nat} (hk : k < 20) (h : ∀ r, r ∈ refs k → AD1 r = AD r) : cont cy AD1 G k i j = cont cy AD G k i j := by
  rcases k20 hk with rfl | rfl | rfl | rfl | rfl | rfl | rfl | rfl | rfl | rfl | rfl | rfl | rfl | rfl | rfl | rfl | rfl | rfl | rfl | rfl
  · simp only [cont, buF, h 1 (by decide), h 2 (by decide), h 3 (by decide), h 4 (by decide), h 5 (by decide)]
  · simp only [cont, h 15 (by decide)]
  · simp only [cont, h 16 (by decide)]
  · simp only [cont, h 17 (by decide)]
  · rfl
  · rfl
  · simp only [cont, shF, xr, h 7 (by decide), h 8 (by decide), h 10 (by decide)]
  · have e : caF AD1 G i = caF AD G i := by
      unfold caF
      rw [h 13 (by decide)]
    simp only [cont, e]
  · simp only [cont, h 18 (by decide)]
  · rfl
  · simp only [cont, viF, h 6 (by decide), h 11 (by decide)]
  · simp only [cont, h 19 (by decide)]
  · rfl
  · rfl
  · rfl
  · simp only [cont, h 6 (by decide)]
  · simp only [cont, h 9 (by decide)]
  · simp only [cont, h 10 (by decide)]
  · simp only [cont, h 14 (by decide)]
  · simp only [cont, h 12 (by decide)]
theorem larr_cg {cy : Nat → ClassId} {n : Nat} {e1 e : Nat → Nat} (h : ∀ j, j < n → e1 j = e j) : larr cy n e1 = larr cy n e := by
  have q : lf n e1 = lf n e := funext (fun j => by
    unfold lf
    split
    · rename_i hj
      rw [h j hj]
    · rfl)
  unfold larr
  rw [q]
theorem dep_made : ∀ k, k < 20 → ∀ a ∈ dep k, a ∉ [50, 51, 52, 53, 54] := by decide
/-- a new object takes its role -/
theorem RepC.mk {cy : Nat → ClassId} {AD : AM} {G : GS} {μ : MU} (h : RepC cy AD G μ) {G1 : GS} {k i j q x0 : Nat} (h7 : k ≠ 7) (hq : ∀ k' i' j', ok G k' i' j' → AD k' i' j' ≠ q)
    (hG : ∀ a x, G1 a x = G a x ∨ (own a = k ∧ a ∉ cntL ∧ x = x0) ∨ a ∈ [50, 51, 52, 53, 54]) (hx0 : rel k i j x0)
    (hok : ∀ k' i' j', ok G1 k' i' j' → ¬ (k' = k ∧ i' = i ∧ j' = j) → ok G k' i' j') (hok1 : ok G1 k i j)
    (hAD : ∀ k' i' j', ok G k' i' j' → k ∈ refs k' → cont cy (upA AD k i j q) G k' i' j' = cont cy AD G k' i' j')
    (hn : μ q = some (cont cy (upA AD k i j q) G1 k i j)) : RepC cy (upA AD k i j q) G1 μ := by
  refine ⟨fun k' i' j' ho => ?_, fun k1 i1 j1 k2 i2 j2 h1 h2 e => ?_⟩
  · by_cases n : k' = k ∧ i' = i ∧ j' = j
    · obtain ⟨rfl, rfl, rfl⟩ := n
      rw [upA_eq]
      exact hn
    · have ho0 := hok k' i' j' ho n
      rw [upA_ne2 n, h.1 k' i' j' ho0]
      have e1 : cont cy (upA AD k i j q) G1 k' i' j' = cont cy (upA AD k i j q) G k' i' j' := ct_cg ho.1 (fun a ha x' hr => by
        rcases hG a x' with e | ⟨e1, e2, e3⟩ | e
        · exact e
        · have hkk : k' = k := (dep_own k' ho.1 a ha e2).symm.trans e1
          subst hkk
          rw [e3] at hr
          exact absurd (have q := rel_inj hok1 ho h7 hx0 hr; ⟨rfl, q.1, q.2⟩) n
        · exact absurd e (dep_made k' ho.1 a ha))
      rw [e1]
      by_cases hr : k ∈ refs k'
      · rw [hAD k' i' j' ho0 hr]
      · rw [ct_ad ho.1 (fun r hr' => upA_ne (fun e => hr (by rw [← e]; exact hr')))]
  · by_cases n1 : k1 = k ∧ i1 = i ∧ j1 = j
    · by_cases n2 : k2 = k ∧ i2 = i ∧ j2 = j
      · exact ⟨n1.1.trans n2.1.symm, n1.2.1.trans n2.2.1.symm, n1.2.2.trans n2.2.2.symm⟩
      · obtain ⟨rfl, rfl, rfl⟩ := n1
        rw [upA_eq, upA_ne2 n2] at e
        exact absurd e.symm (hq k2 i2 j2 (hok k2 i2 j2 h2 n2))
    · by_cases n2 : k2 = k ∧ i2 = i ∧ j2 = j
      · obtain ⟨rfl, rfl, rfl⟩ := n2
        rw [upA_eq, upA_ne2 n1] at e
        exact absurd e (hq k1 i1 j1 (hok k1 i1 j1 h1 n1))
      · rw [upA_ne2 n1, upA_ne2 n2] at e
        exact h.2 k1 i1 j1 k2 i2 j2 (hok k1 i1 j1 h1 n1) (hok k2 i2 j2 h2 n2) e
/-- a list has one element more -/
theorem RepC.la {cy : Nat → ClassId} {AD : AM} {G : GS} {μ μ1 : MU} (h : RepC cy AD G μ) {G1 : GS} {kl ke i n ed1 : Nat} (hkl : ok G kl i 0) (hne : kl ≠ ke)
    (hok : ∀ k' i' j', ok G1 k' i' j' → ¬ (k' = ke ∧ i' = i ∧ j' = 0) → ok G k' i' j') (hke : n ≠ 0 → ok G ke i 0)
    (h1 : μ1 (AD kl i 0) = some (cont cy (upA AD ke i 0 ed1) G1 kl i 0)) (h2 : μ1 ed1 = some (cont cy (upA AD ke i 0 ed1) G1 ke i 0)) (h3 : (n ≠ 0 ∧ ed1 = AD ke i 0) ∨ μ ed1 = none) (h4 : ∀ b, b ≠ AD kl i 0 → b ≠ ed1 → μ1 b = μ b)
    (hc : ∀ k' i' j', ok G k' i' j' → ¬ (k' = kl ∧ i' = i ∧ j' = 0) → ¬ (k' = ke ∧ i' = i ∧ j' = 0) → cont cy (upA AD ke i 0 ed1) G1 k' i' j' = cont cy AD G k' i' j') : RepC cy (upA AD ke i 0 ed1) G1 μ1 := by
  have hed : ∀ k' i' j', ok G k' i' j' → ¬ (k' = ke ∧ i' = i ∧ j' = 0) → AD k' i' j' ≠ ed1 := by
    intro k' i' j' ho n9 e
    rcases h3 with ⟨a1, a2⟩ | a
    · exact n9 (h.2 k' i' j' ke i 0 ho (hke a1) (e.trans a2))
    · exact h.out a ho e
  have nkl : ¬ (kl = ke ∧ i = i ∧ 0 = 0) := fun e => hne e.1
  refine h.al (fun k' i' j' => (k' = kl ∧ i' = i ∧ j' = 0) ∨ (k' = ke ∧ i' = i ∧ j' = 0)) (fun k' i' j' ho n9 => ?_) (fun k' i' j' ho n9 => ?_) (fun k1 i1 j1 k2 i2 j2 n1 n2 o1 o2 e => ?_)
  · have hno : ¬ (k' = ke ∧ i' = i ∧ j' = 0) := fun e => n9 (Or.inr e)
    have hnl : ¬ (k' = kl ∧ i' = i ∧ j' = 0) := fun e => n9 (Or.inl e)
    have ho0 := hok k' i' j' ho hno
    exact ⟨ho0, upA_ne2 hno, hc k' i' j' ho0 hnl hno, h4 _ (fun e => hnl (h.2 k' i' j' kl i 0 ho0 hkl e)) (hed k' i' j' ho0 hno)⟩
  · rcases n9 with ⟨rfl, rfl, rfl⟩ | ⟨rfl, rfl, rfl⟩
    · rw [upA_ne2 nkl]
      exact ⟨h1, Or.inl ⟨hkl, rfl⟩⟩
    · rw [upA_eq]
      refine ⟨h2, ?_⟩
      rcases h3 with ⟨a1, a2⟩ | a
      · exact Or.inl ⟨hke a1, a2⟩
      · exact Or.inr a
  · rcases n1 with ⟨rfl, rfl, rfl⟩ | ⟨rfl, rfl, rfl⟩
    · rcases n2 with ⟨rfl, rfl, rfl⟩ | ⟨rfl, rfl, rfl⟩
      · exact ⟨rfl, rfl, rfl⟩
      · rw [upA_eq, upA_ne2 nkl] at e
        exact absurd e (hed _ _ _ hkl nkl)
    · rcases n2 with ⟨rfl, rfl, rfl⟩ | ⟨rfl, rfl, rfl⟩
      · rw [upA_eq, upA_ne2 nkl] at e
        exact absurd e.symm (hed _ _ _ hkl nkl)
      · exact ⟨rfl, rfl, rfl⟩
theorem lag_1 {G : GS} (hn : gnS G ≤ 600) : gnS (up2 G 3 0 (nI (gnS G + 1))) = gnS G + 1 := by
  unfold gnS
  rw [up2_at, nI_clamp (by unfold gnS at hn; omega)]
theorem lao_1 {G : GS} {v : Int32} {k' i' j' : Nat} (ho : ok (up2 G 3 0 v) k' i' j') (hno : ¬ (k' = 15 ∧ i' = 0 ∧ j' = 0)) : ok G k' i' j' := by
  obtain ⟨hk, ho⟩ := ho
  refine ⟨hk, ?_⟩
  have hmS : gmS (up2 G 3 0 v) = gmS G := congrArg (fun z : Nat → Int32 => (z 0).toNatClampNeg) (up2_ne (by decide : (50 : Nat) ≠ 3))
  have hmR : gmR (up2 G 3 0 v) = gmR G := congrArg (fun z : Nat → Int32 => (z 0).toNatClampNeg) (up2_ne (by decide : (51 : Nat) ≠ 3))
  have hmV : gmV (up2 G 3 0 v) = gmV G := congrArg (fun z : Nat → Int32 => (z 0).toNatClampNeg) (up2_ne (by decide : (52 : Nat) ≠ 3))
  have hnR : gnR (up2 G 3 0 v) = gnR G := congrArg (fun z : Nat → Int32 => (z 0).toNatClampNeg) (up2_ne (by decide : (23 : Nat) ≠ 3))
  have hnV : gnV (up2 G 3 0 v) = gnV G := congrArg (fun z : Nat → Int32 => (z 0).toNatClampNeg) (up2_ne (by decide : (29 : Nat) ≠ 3))
  have hmF : ∀ i9, gmF (up2 G 3 0 v) i9 = gmF G i9 := fun i9 => congrArg (fun z : Nat → Int32 => (z i9).toNatClampNeg) (up2_ne (by decide : (53 : Nat) ≠ 3))
  have hmN : ∀ i9, gmN (up2 G 3 0 v) i9 = gmN G i9 := fun i9 => congrArg (fun z : Nat → Int32 => (z i9).toNatClampNeg) (up2_ne (by decide : (54 : Nat) ≠ 3))
  have hnN : ∀ i9, gnN (up2 G 3 0 v) i9 = gnN G i9 := fun i9 => congrArg (fun z : Nat → Int32 => (z i9).toNatClampNeg) (up2_ne (by decide : (45 : Nat) ≠ 3))
  have hnF : ∀ i9, gnF (up2 G 3 0 v) i9 = gnF G i9 := fun i9 => congrArg (fun z : Nat → Int32 => (z i9).toNatClampNeg) (up2_ne (by decide : (35 : Nat) ≠ 3))
  have h18 : (up2 G 3 0 v) 18 = G 18 := up2_ne (by decide : (18 : Nat) ≠ 3)
  rcases k20 hk with rfl | rfl | rfl | rfl | rfl | rfl | rfl | rfl | rfl | rfl | rfl | rfl | rfl | rfl | rfl | rfl | rfl | rfl | rfl | rfl
  · exact ⟨ho.1, ho.2⟩
  · exact ⟨ho.1, ho.2⟩
  · exact ⟨ho.1, ho.2⟩
  · exact ⟨ho.1, ho.2⟩
  · exact ⟨ho.1, ho.2⟩
  · exact ⟨ho.1, ho.2⟩
  · exact ⟨Nat.lt_of_lt_of_eq ho.1 hmS, ho.2⟩
  · exact ⟨Nat.lt_of_lt_of_eq ho.1 hmS, ho.2⟩
  · exact ⟨Nat.lt_of_lt_of_eq ho.1 hmS, ho.2⟩
  · exact ⟨Nat.lt_of_lt_of_eq ho.1 hmR, ho.2⟩
  · exact ⟨Nat.lt_of_lt_of_eq ho.1 hmV, ho.2⟩
  · exact ⟨Nat.lt_of_lt_of_eq ho.1 hmV, ho.2⟩
  · exact ⟨Nat.lt_of_lt_of_eq ho.1 hmV, Nat.lt_of_lt_of_eq ho.2.1 (hmF i'), ho.2.2⟩
  · exact ⟨Nat.lt_of_lt_of_eq ho.1 hmS, ho.2.1, (congrFun h18 _).symm.trans ho.2.2⟩
  · exact ⟨Nat.lt_of_lt_of_eq ho.1 hmS, Nat.lt_of_lt_of_eq ho.2.1 (hmN i'), ho.2.2⟩
  · exact absurd ⟨rfl, ho.1, ho.2.1⟩ hno
  · exact ⟨ho.1, ho.2.1, fun hz => ho.2.2 (hnR.trans hz)⟩
  · exact ⟨ho.1, ho.2.1, fun hz => ho.2.2 (hnV.trans hz)⟩
  · exact ⟨Nat.lt_of_lt_of_eq ho.1 hmS, ho.2.1, fun hz => ho.2.2 ((hnN i').trans hz)⟩
  · exact ⟨Nat.lt_of_lt_of_eq ho.1 hmV, ho.2.1, fun hz => ho.2.2 ((hnF i').trans hz)⟩
theorem lac_1 {cy : Nat → ClassId} {AD : AM} {G : GS} {v : Int32} {ed1 k' i' j' : Nat} (ho : ok G k' i' j') (hnl : ¬ (k' = 1 ∧ i' = 0 ∧ j' = 0)) (hno : ¬ (k' = 15 ∧ i' = 0 ∧ j' = 0)) : cont cy (upA AD 15 0 0 ed1) (up2 G 3 0 v) k' i' j' = cont cy AD G k' i' j' := by
  have hk := ho.1
  rcases k20 hk with rfl | rfl | rfl | rfl | rfl | rfl | rfl | rfl | rfl | rfl | rfl | rfl | rfl | rfl | rfl | rfl | rfl | rfl | rfl | rfl
  · exact (ct_cg hk (fun a ha x hr => congrFun (up2_ne (fun e => by rw [e] at ha; revert ha; decide)) x)).trans (ct_ad hk (fun r hr => upA_ne (fun e => by rw [e] at hr; revert hr; decide)))
  · exact absurd ⟨rfl, ho.2.1, ho.2.2⟩ hnl
  · exact (ct_cg hk (fun a ha x hr => congrFun (up2_ne (fun e => by rw [e] at ha; revert ha; decide)) x)).trans (ct_ad hk (fun r hr => upA_ne (fun e => by rw [e] at hr; revert hr; decide)))
  · exact (ct_cg hk (fun a ha x hr => congrFun (up2_ne (fun e => by rw [e] at ha; revert ha; decide)) x)).trans (ct_ad hk (fun r hr => upA_ne (fun e => by rw [e] at hr; revert hr; decide)))
  · exact (ct_cg hk (fun a ha x hr => congrFun (up2_ne (fun e => by rw [e] at ha; revert ha; decide)) x)).trans (ct_ad hk (fun r hr => upA_ne (fun e => by rw [e] at hr; revert hr; decide)))
  · exact (ct_cg hk (fun a ha x hr => congrFun (up2_ne (fun e => by rw [e] at ha; revert ha; decide)) x)).trans (ct_ad hk (fun r hr => upA_ne (fun e => by rw [e] at hr; revert hr; decide)))
  · exact (ct_cg hk (fun a ha x hr => congrFun (up2_ne (fun e => by rw [e] at ha; revert ha; decide)) x)).trans (ct_ad hk (fun r hr => upA_ne (fun e => by rw [e] at hr; revert hr; decide)))
  · exact (ct_cg hk (fun a ha x hr => congrFun (up2_ne (fun e => by rw [e] at ha; revert ha; decide)) x)).trans (ct_ad hk (fun r hr => upA_ne (fun e => by rw [e] at hr; revert hr; decide)))
  · exact (ct_cg hk (fun a ha x hr => congrFun (up2_ne (fun e => by rw [e] at ha; revert ha; decide)) x)).trans (ct_ad hk (fun r hr => upA_ne (fun e => by rw [e] at hr; revert hr; decide)))
  · exact (ct_cg hk (fun a ha x hr => congrFun (up2_ne (fun e => by rw [e] at ha; revert ha; decide)) x)).trans (ct_ad hk (fun r hr => upA_ne (fun e => by rw [e] at hr; revert hr; decide)))
  · exact (ct_cg hk (fun a ha x hr => congrFun (up2_ne (fun e => by rw [e] at ha; revert ha; decide)) x)).trans (ct_ad hk (fun r hr => upA_ne (fun e => by rw [e] at hr; revert hr; decide)))
  · exact (ct_cg hk (fun a ha x hr => congrFun (up2_ne (fun e => by rw [e] at ha; revert ha; decide)) x)).trans (ct_ad hk (fun r hr => upA_ne (fun e => by rw [e] at hr; revert hr; decide)))
  · exact (ct_cg hk (fun a ha x hr => congrFun (up2_ne (fun e => by rw [e] at ha; revert ha; decide)) x)).trans (ct_ad hk (fun r hr => upA_ne (fun e => by rw [e] at hr; revert hr; decide)))
  · exact (ct_cg hk (fun a ha x hr => congrFun (up2_ne (fun e => by rw [e] at ha; revert ha; decide)) x)).trans (ct_ad hk (fun r hr => upA_ne (fun e => by rw [e] at hr; revert hr; decide)))
  · exact (ct_cg hk (fun a ha x hr => congrFun (up2_ne (fun e => by rw [e] at ha; revert ha; decide)) x)).trans (ct_ad hk (fun r hr => upA_ne (fun e => by rw [e] at hr; revert hr; decide)))
  · exact absurd ⟨rfl, ho.2.1, ho.2.2.1⟩ hno
  · exact (ct_cg hk (fun a ha x hr => congrFun (up2_ne (fun e => by rw [e] at ha; revert ha; decide)) x)).trans (ct_ad hk (fun r hr => upA_ne (fun e => by rw [e] at hr; revert hr; decide)))
  · exact (ct_cg hk (fun a ha x hr => congrFun (up2_ne (fun e => by rw [e] at ha; revert ha; decide)) x)).trans (ct_ad hk (fun r hr => upA_ne (fun e => by rw [e] at hr; revert hr; decide)))
  · exact (ct_cg hk (fun a ha x hr => congrFun (up2_ne (fun e => by rw [e] at ha; revert ha; decide)) x)).trans (ct_ad hk (fun r hr => upA_ne (fun e => by rw [e] at hr; revert hr; decide)))
  · exact (ct_cg hk (fun a ha x hr => congrFun (up2_ne (fun e => by rw [e] at ha; revert ha; decide)) x)).trans (ct_ad hk (fun r hr => upA_ne (fun e => by rw [e] at hr; revert hr; decide)))
theorem la_1 {cy : Nat → ClassId} {AD : AM} {G : GS} {μ μ1 : MU} (h : RepC cy AD G μ) (hn : gnS G ≤ 600) {ed1 : Nat} (p1 : μ1 (AD 1 0 0) = some (lobj cy (nI (gnS G + 1)) ed1 (gnS G + 1))) (p2 : μ1 ed1 = some (larr cy (gnS G + 1) (va_up (fun s => AD 6 s 0) (gnS G) (AD 6 (gnS G) 0)))) (p3 : (gnS G ≠ 0 ∧ ed1 = AD 15 0 0) ∨ μ ed1 = none) (p4 : ∀ b, b ≠ AD 1 0 0 → b ≠ ed1 → μ1 b = μ b) : RepC cy (upA AD 15 0 0 ed1) (up2 G 3 0 (nI (gnS G + 1))) μ1 := by
  have hg : gnS (up2 G 3 0 (nI (gnS G + 1))) = gnS G + 1 := lag_1 hn
  refine h.la (kl := 1) (ke := 15) (i := 0) (n := gnS G) ⟨by decide, rfl, rfl⟩ (by decide) (fun k' i' j' ho hno => lao_1 ho hno) (fun hz => ⟨by decide, rfl, rfl, hz⟩) ?_ ?_ p3 p4 (fun k' i' j' ho hnl hno => lac_1 ho hnl hno)
  · show μ1 _ = some (lobj cy (nI (gnS (up2 G 3 0 (nI (gnS G + 1))))) (upA AD 15 0 0 ed1 15 0 0) (gnS (up2 G 3 0 (nI (gnS G + 1)))))
    rw [hg, upA_eq]
    exact p1
  · show μ1 _ = some (larr cy (gnS (up2 G 3 0 (nI (gnS G + 1)))) (fun s => AD 6 s 0))
    rw [hg, p2]
    refine congrArg some (larr_cg (fun j hj => ?_))
    unfold va_up
    split
    · rename_i e
      rw [e]
    · rfl
theorem lag_2 {G : GS} (hn : gnR G ≤ 600) : gnR (up2 G 23 0 (nI (gnR G + 1))) = gnR G + 1 := by
  unfold gnR
  rw [up2_at, nI_clamp (by unfold gnR at hn; omega)]
theorem lao_2 {G : GS} {v : Int32} {k' i' j' : Nat} (ho : ok (up2 G 23 0 v) k' i' j') (hno : ¬ (k' = 16 ∧ i' = 0 ∧ j' = 0)) : ok G k' i' j' := by
  obtain ⟨hk, ho⟩ := ho
  refine ⟨hk, ?_⟩
  have hmS : gmS (up2 G 23 0 v) = gmS G := congrArg (fun z : Nat → Int32 => (z 0).toNatClampNeg) (up2_ne (by decide : (50 : Nat) ≠ 23))
  have hmR : gmR (up2 G 23 0 v) = gmR G := congrArg (fun z : Nat → Int32 => (z 0).toNatClampNeg) (up2_ne (by decide : (51 : Nat) ≠ 23))
  have hmV : gmV (up2 G 23 0 v) = gmV G := congrArg (fun z : Nat → Int32 => (z 0).toNatClampNeg) (up2_ne (by decide : (52 : Nat) ≠ 23))
  have hnS : gnS (up2 G 23 0 v) = gnS G := congrArg (fun z : Nat → Int32 => (z 0).toNatClampNeg) (up2_ne (by decide : (3 : Nat) ≠ 23))
  have hnV : gnV (up2 G 23 0 v) = gnV G := congrArg (fun z : Nat → Int32 => (z 0).toNatClampNeg) (up2_ne (by decide : (29 : Nat) ≠ 23))
  have hmF : ∀ i9, gmF (up2 G 23 0 v) i9 = gmF G i9 := fun i9 => congrArg (fun z : Nat → Int32 => (z i9).toNatClampNeg) (up2_ne (by decide : (53 : Nat) ≠ 23))
  have hmN : ∀ i9, gmN (up2 G 23 0 v) i9 = gmN G i9 := fun i9 => congrArg (fun z : Nat → Int32 => (z i9).toNatClampNeg) (up2_ne (by decide : (54 : Nat) ≠ 23))
  have hnN : ∀ i9, gnN (up2 G 23 0 v) i9 = gnN G i9 := fun i9 => congrArg (fun z : Nat → Int32 => (z i9).toNatClampNeg) (up2_ne (by decide : (45 : Nat) ≠ 23))
  have hnF : ∀ i9, gnF (up2 G 23 0 v) i9 = gnF G i9 := fun i9 => congrArg (fun z : Nat → Int32 => (z i9).toNatClampNeg) (up2_ne (by decide : (35 : Nat) ≠ 23))
  have h18 : (up2 G 23 0 v) 18 = G 18 := up2_ne (by decide : (18 : Nat) ≠ 23)
  rcases k20 hk with rfl | rfl | rfl | rfl | rfl | rfl | rfl | rfl | rfl | rfl | rfl | rfl | rfl | rfl | rfl | rfl | rfl | rfl | rfl | rfl
  · exact ⟨ho.1, ho.2⟩
  · exact ⟨ho.1, ho.2⟩
  · exact ⟨ho.1, ho.2⟩
  · exact ⟨ho.1, ho.2⟩
  · exact ⟨ho.1, ho.2⟩
  · exact ⟨ho.1, ho.2⟩
  · exact ⟨Nat.lt_of_lt_of_eq ho.1 hmS, ho.2⟩
  · exact ⟨Nat.lt_of_lt_of_eq ho.1 hmS, ho.2⟩
  · exact ⟨Nat.lt_of_lt_of_eq ho.1 hmS, ho.2⟩
  · exact ⟨Nat.lt_of_lt_of_eq ho.1 hmR, ho.2⟩
  · exact ⟨Nat.lt_of_lt_of_eq ho.1 hmV, ho.2⟩
  · exact ⟨Nat.lt_of_lt_of_eq ho.1 hmV, ho.2⟩
  · exact ⟨Nat.lt_of_lt_of_eq ho.1 hmV, Nat.lt_of_lt_of_eq ho.2.1 (hmF i'), ho.2.2⟩
  · exact ⟨Nat.lt_of_lt_of_eq ho.1 hmS, ho.2.1, (congrFun h18 _).symm.trans ho.2.2⟩
  · exact ⟨Nat.lt_of_lt_of_eq ho.1 hmS, Nat.lt_of_lt_of_eq ho.2.1 (hmN i'), ho.2.2⟩
  · exact ⟨ho.1, ho.2.1, fun hz => ho.2.2 (hnS.trans hz)⟩
  · exact absurd ⟨rfl, ho.1, ho.2.1⟩ hno
  · exact ⟨ho.1, ho.2.1, fun hz => ho.2.2 (hnV.trans hz)⟩
  · exact ⟨Nat.lt_of_lt_of_eq ho.1 hmS, ho.2.1, fun hz => ho.2.2 ((hnN i').trans hz)⟩
  · exact ⟨Nat.lt_of_lt_of_eq ho.1 hmV, ho.2.1, fun hz => ho.2.2 ((hnF i').trans hz)⟩
theorem lac_2 {cy : Nat → ClassId} {AD : AM} {G : GS} {v : Int32} {ed1 k' i' j' : Nat} (ho : ok G k' i' j') (hnl : ¬ (k' = 2 ∧ i' = 0 ∧ j' = 0)) (hno : ¬ (k' = 16 ∧ i' = 0 ∧ j' = 0)) : cont cy (upA AD 16 0 0 ed1) (up2 G 23 0 v) k' i' j' = cont cy AD G k' i' j' := by
  have hk := ho.1
  rcases k20 hk with rfl | rfl | rfl | rfl | rfl | rfl | rfl | rfl | rfl | rfl | rfl | rfl | rfl | rfl | rfl | rfl | rfl | rfl | rfl | rfl
  · exact (ct_cg hk (fun a ha x hr => congrFun (up2_ne (fun e => by rw [e] at ha; revert ha; decide)) x)).trans (ct_ad hk (fun r hr => upA_ne (fun e => by rw [e] at hr; revert hr; decide)))
  · exact (ct_cg hk (fun a ha x hr => congrFun (up2_ne (fun e => by rw [e] at ha; revert ha; decide)) x)).trans (ct_ad hk (fun r hr => upA_ne (fun e => by rw [e] at hr; revert hr; decide)))
  · exact absurd ⟨rfl, ho.2.1, ho.2.2⟩ hnl
  · exact (ct_cg hk (fun a ha x hr => congrFun (up2_ne (fun e => by rw [e] at ha; revert ha; decide)) x)).trans (ct_ad hk (fun r hr => upA_ne (fun e => by rw [e] at hr; revert hr; decide)))
  · exact (ct_cg hk (fun a ha x hr => congrFun (up2_ne (fun e => by rw [e] at ha; revert ha; decide)) x)).trans (ct_ad hk (fun r hr => upA_ne (fun e => by rw [e] at hr; revert hr; decide)))
  · exact (ct_cg hk (fun a ha x hr => congrFun (up2_ne (fun e => by rw [e] at ha; revert ha; decide)) x)).trans (ct_ad hk (fun r hr => upA_ne (fun e => by rw [e] at hr; revert hr; decide)))
  · exact (ct_cg hk (fun a ha x hr => congrFun (up2_ne (fun e => by rw [e] at ha; revert ha; decide)) x)).trans (ct_ad hk (fun r hr => upA_ne (fun e => by rw [e] at hr; revert hr; decide)))
  · exact (ct_cg hk (fun a ha x hr => congrFun (up2_ne (fun e => by rw [e] at ha; revert ha; decide)) x)).trans (ct_ad hk (fun r hr => upA_ne (fun e => by rw [e] at hr; revert hr; decide)))
  · exact (ct_cg hk (fun a ha x hr => congrFun (up2_ne (fun e => by rw [e] at ha; revert ha; decide)) x)).trans (ct_ad hk (fun r hr => upA_ne (fun e => by rw [e] at hr; revert hr; decide)))
  · exact (ct_cg hk (fun a ha x hr => congrFun (up2_ne (fun e => by rw [e] at ha; revert ha; decide)) x)).trans (ct_ad hk (fun r hr => upA_ne (fun e => by rw [e] at hr; revert hr; decide)))
  · exact (ct_cg hk (fun a ha x hr => congrFun (up2_ne (fun e => by rw [e] at ha; revert ha; decide)) x)).trans (ct_ad hk (fun r hr => upA_ne (fun e => by rw [e] at hr; revert hr; decide)))
  · exact (ct_cg hk (fun a ha x hr => congrFun (up2_ne (fun e => by rw [e] at ha; revert ha; decide)) x)).trans (ct_ad hk (fun r hr => upA_ne (fun e => by rw [e] at hr; revert hr; decide)))
  · exact (ct_cg hk (fun a ha x hr => congrFun (up2_ne (fun e => by rw [e] at ha; revert ha; decide)) x)).trans (ct_ad hk (fun r hr => upA_ne (fun e => by rw [e] at hr; revert hr; decide)))
  · exact (ct_cg hk (fun a ha x hr => congrFun (up2_ne (fun e => by rw [e] at ha; revert ha; decide)) x)).trans (ct_ad hk (fun r hr => upA_ne (fun e => by rw [e] at hr; revert hr; decide)))
  · exact (ct_cg hk (fun a ha x hr => congrFun (up2_ne (fun e => by rw [e] at ha; revert ha; decide)) x)).trans (ct_ad hk (fun r hr => upA_ne (fun e => by rw [e] at hr; revert hr; decide)))
  · exact (ct_cg hk (fun a ha x hr => congrFun (up2_ne (fun e => by rw [e] at ha; revert ha; decide)) x)).trans (ct_ad hk (fun r hr => upA_ne (fun e => by rw [e] at hr; revert hr; decide)))
  · exact absurd ⟨rfl, ho.2.1, ho.2.2.1⟩ hno
  · exact (ct_cg hk (fun a ha x hr => congrFun (up2_ne (fun e => by rw [e] at ha; revert ha; decide)) x)).trans (ct_ad hk (fun r hr => upA_ne (fun e => by rw [e] at hr; revert hr; decide)))
  · exact (ct_cg hk (fun a ha x hr => congrFun (up2_ne (fun e => by rw [e] at ha; revert ha; decide)) x)).trans (ct_ad hk (fun r hr => upA_ne (fun e => by rw [e] at hr; revert hr; decide)))
  · exact (ct_cg hk (fun a ha x hr => congrFun (up2_ne (fun e => by rw [e] at ha; revert ha; decide)) x)).trans (ct_ad hk (fun r hr => upA_ne (fun e => by rw [e] at hr; revert hr; decide)))
theorem la_2 {cy : Nat → ClassId} {AD : AM} {G : GS} {μ μ1 : MU} (h : RepC cy AD G μ) (hn : gnR G ≤ 600) {ed1 : Nat} (p1 : μ1 (AD 2 0 0) = some (lobj cy (nI (gnR G + 1)) ed1 (gnR G + 1))) (p2 : μ1 ed1 = some (larr cy (gnR G + 1) (va_up (fun s => AD 9 s 0) (gnR G) (AD 9 (gnR G) 0)))) (p3 : (gnR G ≠ 0 ∧ ed1 = AD 16 0 0) ∨ μ ed1 = none) (p4 : ∀ b, b ≠ AD 2 0 0 → b ≠ ed1 → μ1 b = μ b) : RepC cy (upA AD 16 0 0 ed1) (up2 G 23 0 (nI (gnR G + 1))) μ1 := by
  have hg : gnR (up2 G 23 0 (nI (gnR G + 1))) = gnR G + 1 := lag_2 hn
  refine h.la (kl := 2) (ke := 16) (i := 0) (n := gnR G) ⟨by decide, rfl, rfl⟩ (by decide) (fun k' i' j' ho hno => lao_2 ho hno) (fun hz => ⟨by decide, rfl, rfl, hz⟩) ?_ ?_ p3 p4 (fun k' i' j' ho hnl hno => lac_2 ho hnl hno)
  · show μ1 _ = some (lobj cy (nI (gnR (up2 G 23 0 (nI (gnR G + 1))))) (upA AD 16 0 0 ed1 16 0 0) (gnR (up2 G 23 0 (nI (gnR G + 1)))))
    rw [hg, upA_eq]
    exact p1
  · show μ1 _ = some (larr cy (gnR (up2 G 23 0 (nI (gnR G + 1)))) (fun s => AD 9 s 0))
    rw [hg, p2]
    refine congrArg some (larr_cg (fun j hj => ?_))
    unfold va_up
    split
    · rename_i e
      rw [e]
    · rfl
theorem lag_3 {G : GS} (hn : gnV G ≤ 600) : gnV (up2 G 29 0 (nI (gnV G + 1))) = gnV G + 1 := by
  unfold gnV
  rw [up2_at, nI_clamp (by unfold gnV at hn; omega)]
theorem lao_3 {G : GS} {v : Int32} {k' i' j' : Nat} (ho : ok (up2 G 29 0 v) k' i' j') (hno : ¬ (k' = 17 ∧ i' = 0 ∧ j' = 0)) : ok G k' i' j' := by
  obtain ⟨hk, ho⟩ := ho
  refine ⟨hk, ?_⟩
  have hmS : gmS (up2 G 29 0 v) = gmS G := congrArg (fun z : Nat → Int32 => (z 0).toNatClampNeg) (up2_ne (by decide : (50 : Nat) ≠ 29))
  have hmR : gmR (up2 G 29 0 v) = gmR G := congrArg (fun z : Nat → Int32 => (z 0).toNatClampNeg) (up2_ne (by decide : (51 : Nat) ≠ 29))
  have hmV : gmV (up2 G 29 0 v) = gmV G := congrArg (fun z : Nat → Int32 => (z 0).toNatClampNeg) (up2_ne (by decide : (52 : Nat) ≠ 29))
  have hnS : gnS (up2 G 29 0 v) = gnS G := congrArg (fun z : Nat → Int32 => (z 0).toNatClampNeg) (up2_ne (by decide : (3 : Nat) ≠ 29))
  have hnR : gnR (up2 G 29 0 v) = gnR G := congrArg (fun z : Nat → Int32 => (z 0).toNatClampNeg) (up2_ne (by decide : (23 : Nat) ≠ 29))
  have hmF : ∀ i9, gmF (up2 G 29 0 v) i9 = gmF G i9 := fun i9 => congrArg (fun z : Nat → Int32 => (z i9).toNatClampNeg) (up2_ne (by decide : (53 : Nat) ≠ 29))
  have hmN : ∀ i9, gmN (up2 G 29 0 v) i9 = gmN G i9 := fun i9 => congrArg (fun z : Nat → Int32 => (z i9).toNatClampNeg) (up2_ne (by decide : (54 : Nat) ≠ 29))
  have hnN : ∀ i9, gnN (up2 G 29 0 v) i9 = gnN G i9 := fun i9 => congrArg (fun z : Nat → Int32 => (z i9).toNatClampNeg) (up2_ne (by decide : (45 : Nat) ≠ 29))
  have hnF : ∀ i9, gnF (up2 G 29 0 v) i9 = gnF G i9 := fun i9 => congrArg (fun z : Nat → Int32 => (z i9).toNatClampNeg) (up2_ne (by decide : (35 : Nat) ≠ 29))
  have h18 : (up2 G 29 0 v) 18 = G 18 := up2_ne (by decide : (18 : Nat) ≠ 29)
  rcases k20 hk with rfl | rfl | rfl | rfl | rfl | rfl | rfl | rfl | rfl | rfl | rfl | rfl | rfl | rfl | rfl | rfl | rfl | rfl | rfl | rfl
  · exact ⟨ho.1, ho.2⟩
  · exact ⟨ho.1, ho.2⟩
  · exact ⟨ho.1, ho.2⟩
  · exact ⟨ho.1, ho.2⟩
  · exact ⟨ho.1, ho.2⟩
  · exact ⟨ho.1, ho.2⟩
  · exact ⟨Nat.lt_of_lt_of_eq ho.1 hmS, ho.2⟩
  · exact ⟨Nat.lt_of_lt_of_eq ho.1 hmS, ho.2⟩
  · exact ⟨Nat.lt_of_lt_of_eq ho.1 hmS, ho.2⟩
  · exact ⟨Nat.lt_of_lt_of_eq ho.1 hmR, ho.2⟩
  · exact ⟨Nat.lt_of_lt_of_eq ho.1 hmV, ho.2⟩
  · exact ⟨Nat.lt_of_lt_of_eq ho.1 hmV, ho.2⟩
  · exact ⟨Nat.lt_of_lt_of_eq ho.1 hmV, Nat.lt_of_lt_of_eq ho.2.1 (hmF i'), ho.2.2⟩
  · exact ⟨Nat.lt_of_lt_of_eq ho.1 hmS, ho.2.1, (congrFun h18 _).symm.trans ho.2.2⟩
  · exact ⟨Nat.lt_of_lt_of_eq ho.1 hmS, Nat.lt_of_lt_of_eq ho.2.1 (hmN i'), ho.2.2⟩
  · exact ⟨ho.1, ho.2.1, fun hz => ho.2.2 (hnS.trans hz)⟩
  · exact ⟨ho.1, ho.2.1, fun hz => ho.2.2 (hnR.trans hz)⟩
  · exact absurd ⟨rfl, ho.1, ho.2.1⟩ hno
  · exact ⟨Nat.lt_of_lt_of_eq ho.1 hmS, ho.2.1, fun hz => ho.2.2 ((hnN i').trans hz)⟩
  · exact ⟨Nat.lt_of_lt_of_eq ho.1 hmV, ho.2.1, fun hz => ho.2.2 ((hnF i').trans hz)⟩
theorem lac_3 {cy : Nat → ClassId} {AD : AM} {G : GS} {v : Int32} {ed1 k' i' j' : Nat} (ho : ok G k' i' j') (hnl : ¬ (k' = 3 ∧ i' = 0 ∧ j' = 0)) (hno : ¬ (k' = 17 ∧ i' = 0 ∧ j' = 0)) : cont cy (upA AD 17 0 0 ed1) (up2 G 29 0 v) k' i' j' = cont cy AD G k' i' j' := by
  have hk := ho.1
  rcases k20 hk with rfl | rfl | rfl | rfl | rfl | rfl | rfl | rfl | rfl | rfl | rfl | rfl | rfl | rfl | rfl | rfl | rfl | rfl | rfl | rfl
  · exact (ct_cg hk (fun a ha x hr => congrFun (up2_ne (fun e => by rw [e] at ha; revert ha; decide)) x)).trans (ct_ad hk (fun r hr => upA_ne (fun e => by rw [e] at hr; revert hr; decide)))
  · exact (ct_cg hk (fun a ha x hr => congrFun (up2_ne (fun e => by rw [e] at ha; revert ha; decide)) x)).trans (ct_ad hk (fun r hr => upA_ne (fun e => by rw [e] at hr; revert hr; decide)))
  · exact (ct_cg hk (fun a ha x hr => congrFun (up2_ne (fun e => by rw [e] at ha; revert ha; decide)) x)).trans (ct_ad hk (fun r hr => upA_ne (fun e => by rw [e] at hr; revert hr; decide)))
  · exact absurd ⟨rfl, ho.2.1, ho.2.2⟩ hnl
  · exact (ct_cg hk (fun a ha x hr => congrFun (up2_ne (fun e => by rw [e] at ha; revert ha; decide)) x)).trans (ct_ad hk (fun r hr => upA_ne (fun e => by rw [e] at hr; revert hr; decide)))
  · exact (ct_cg hk (fun a ha x hr => congrFun (up2_ne (fun e => by rw [e] at ha; revert ha; decide)) x)).trans (ct_ad hk (fun r hr => upA_ne (fun e => by rw [e] at hr; revert hr; decide)))
  · exact (ct_cg hk (fun a ha x hr => congrFun (up2_ne (fun e => by rw [e] at ha; revert ha; decide)) x)).trans (ct_ad hk (fun r hr => upA_ne (fun e => by rw [e] at hr; revert hr; decide)))
  · exact (ct_cg hk (fun a ha x hr => congrFun (up2_ne (fun e => by rw [e] at ha; revert ha; decide)) x)).trans (ct_ad hk (fun r hr => upA_ne (fun e => by rw [e] at hr; revert hr; decide)))
  · exact (ct_cg hk (fun a ha x hr => congrFun (up2_ne (fun e => by rw [e] at ha; revert ha; decide)) x)).trans (ct_ad hk (fun r hr => upA_ne (fun e => by rw [e] at hr; revert hr; decide)))
  · exact (ct_cg hk (fun a ha x hr => congrFun (up2_ne (fun e => by rw [e] at ha; revert ha; decide)) x)).trans (ct_ad hk (fun r hr => upA_ne (fun e => by rw [e] at hr; revert hr; decide)))
  · exact (ct_cg hk (fun a ha x hr => congrFun (up2_ne (fun e => by rw [e] at ha; revert ha; decide)) x)).trans (ct_ad hk (fun r hr => upA_ne (fun e => by rw [e] at hr; revert hr; decide)))
  · exact (ct_cg hk (fun a ha x hr => congrFun (up2_ne (fun e => by rw [e] at ha; revert ha; decide)) x)).trans (ct_ad hk (fun r hr => upA_ne (fun e => by rw [e] at hr; revert hr; decide)))
  · exact (ct_cg hk (fun a ha x hr => congrFun (up2_ne (fun e => by rw [e] at ha; revert ha; decide)) x)).trans (ct_ad hk (fun r hr => upA_ne (fun e => by rw [e] at hr; revert hr; decide)))
  · exact (ct_cg hk (fun a ha x hr => congrFun (up2_ne (fun e => by rw [e] at ha; revert ha; decide)) x)).trans (ct_ad hk (fun r hr => upA_ne (fun e => by rw [e] at hr; revert hr; decide)))
  · exact (ct_cg hk (fun a ha x hr => congrFun (up2_ne (fun e => by rw [e] at ha; revert ha; decide)) x)).trans (ct_ad hk (fun r hr => upA_ne (fun e => by rw [e] at hr; revert hr; decide)))
  · exact (ct_cg hk (fun a ha x hr => congrFun (up2_ne (fun e => by rw [e] at ha; revert ha; decide)) x)).trans (ct_ad hk (fun r hr => upA_ne (fun e => by rw [e] at hr; revert hr; decide)))
  · exact (ct_cg hk (fun a ha x hr => congrFun (up2_ne (fun e => by rw [e] at ha; revert ha; decide)) x)).trans (ct_ad hk (fun r hr => upA_ne (fun e => by rw [e] at hr; revert hr; decide)))
  · exact absurd ⟨rfl, ho.2.1, ho.2.2.1⟩ hno
  · exact (ct_cg hk (fun a ha x hr => congrFun (up2_ne (fun e => by rw [e] at ha; revert ha; decide)) x)).trans (ct_ad hk (fun r hr => upA_ne (fun e => by rw [e] at hr; revert hr; decide)))
  · exact (ct_cg hk (fun a ha x hr => congrFun (up2_ne (fun e => by rw [e] at ha; revert ha; decide)) x)).trans (ct_ad hk (fun r hr => upA_ne (fun e => by rw [e] at hr; revert hr; decide)))
theorem la_3 {cy : Nat → ClassId} {AD : AM} {G : GS} {μ μ1 : MU} (h : RepC cy AD G μ) (hn : gnV G ≤ 600) {ed1 : Nat} (p1 : μ1 (AD 3 0 0) = some (lobj cy (nI (gnV G + 1)) ed1 (gnV G + 1))) (p2 : μ1 ed1 = some (larr cy (gnV G + 1) (va_up (fun s => AD 10 s 0) (gnV G) (AD 10 (gnV G) 0)))) (p3 : (gnV G ≠ 0 ∧ ed1 = AD 17 0 0) ∨ μ ed1 = none) (p4 : ∀ b, b ≠ AD 3 0 0 → b ≠ ed1 → μ1 b = μ b) : RepC cy (upA AD 17 0 0 ed1) (up2 G 29 0 (nI (gnV G + 1))) μ1 := by
  have hg : gnV (up2 G 29 0 (nI (gnV G + 1))) = gnV G + 1 := lag_3 hn
  refine h.la (kl := 3) (ke := 17) (i := 0) (n := gnV G) ⟨by decide, rfl, rfl⟩ (by decide) (fun k' i' j' ho hno => lao_3 ho hno) (fun hz => ⟨by decide, rfl, rfl, hz⟩) ?_ ?_ p3 p4 (fun k' i' j' ho hnl hno => lac_3 ho hnl hno)
  · show μ1 _ = some (lobj cy (nI (gnV (up2 G 29 0 (nI (gnV G + 1))))) (upA AD 17 0 0 ed1 17 0 0) (gnV (up2 G 29 0 (nI (gnV G + 1)))))
    rw [hg, upA_eq]
    exact p1
  · show μ1 _ = some (larr cy (gnV (up2 G 29 0 (nI (gnV G + 1)))) (fun s => AD 10 s 0))
    rw [hg, p2]
    refine congrArg some (larr_cg (fun j hj => ?_))
    unfold va_up
    split
    · rename_i e
      rw [e]
    · rfl
theorem gnN_ne {G : GS} {i j : Nat} {v : Int32} (h : j ≠ i) : gnN (up2 G 45 i v) j = gnN G j := by
  unfold gnN
  rw [up2_eq]
  exact congrArg _ (if_neg h)
theorem lag_8 {G : GS} {i : Nat} (hn : gnN G i ≤ 600) : gnN (up2 G 45 i (nI (gnN G i + 1))) i = gnN G i + 1 := by
  unfold gnN
  rw [up2_at, nI_clamp (by unfold gnN at hn; omega)]
theorem lao_8 {G : GS} {i : Nat} {v : Int32} {k' i' j' : Nat} (ho : ok (up2 G 45 i v) k' i' j') (hno : ¬ (k' = 18 ∧ i' = i ∧ j' = 0)) : ok G k' i' j' := by
  obtain ⟨hk, ho⟩ := ho
  refine ⟨hk, ?_⟩
  have hmS : gmS (up2 G 45 i v) = gmS G := congrArg (fun z : Nat → Int32 => (z 0).toNatClampNeg) (up2_ne (by decide : (50 : Nat) ≠ 45))
  have hmR : gmR (up2 G 45 i v) = gmR G := congrArg (fun z : Nat → Int32 => (z 0).toNatClampNeg) (up2_ne (by decide : (51 : Nat) ≠ 45))
  have hmV : gmV (up2 G 45 i v) = gmV G := congrArg (fun z : Nat → Int32 => (z 0).toNatClampNeg) (up2_ne (by decide : (52 : Nat) ≠ 45))
  have hnS : gnS (up2 G 45 i v) = gnS G := congrArg (fun z : Nat → Int32 => (z 0).toNatClampNeg) (up2_ne (by decide : (3 : Nat) ≠ 45))
  have hnR : gnR (up2 G 45 i v) = gnR G := congrArg (fun z : Nat → Int32 => (z 0).toNatClampNeg) (up2_ne (by decide : (23 : Nat) ≠ 45))
  have hnV : gnV (up2 G 45 i v) = gnV G := congrArg (fun z : Nat → Int32 => (z 0).toNatClampNeg) (up2_ne (by decide : (29 : Nat) ≠ 45))
  have hmF : ∀ i9, gmF (up2 G 45 i v) i9 = gmF G i9 := fun i9 => congrArg (fun z : Nat → Int32 => (z i9).toNatClampNeg) (up2_ne (by decide : (53 : Nat) ≠ 45))
  have hmN : ∀ i9, gmN (up2 G 45 i v) i9 = gmN G i9 := fun i9 => congrArg (fun z : Nat → Int32 => (z i9).toNatClampNeg) (up2_ne (by decide : (54 : Nat) ≠ 45))
  have hnF : ∀ i9, gnF (up2 G 45 i v) i9 = gnF G i9 := fun i9 => congrArg (fun z : Nat → Int32 => (z i9).toNatClampNeg) (up2_ne (by decide : (35 : Nat) ≠ 45))
  have h18 : (up2 G 45 i v) 18 = G 18 := up2_ne (by decide : (18 : Nat) ≠ 45)
  rcases k20 hk with rfl | rfl | rfl | rfl | rfl | rfl | rfl | rfl | rfl | rfl | rfl | rfl | rfl | rfl | rfl | rfl | rfl | rfl | rfl | rfl
  · exact ⟨ho.1, ho.2⟩
  · exact ⟨ho.1, ho.2⟩
  · exact ⟨ho.1, ho.2⟩
  · exact ⟨ho.1, ho.2⟩
  · exact ⟨ho.1, ho.2⟩
  · exact ⟨ho.1, ho.2⟩
  · exact ⟨Nat.lt_of_lt_of_eq ho.1 hmS, ho.2⟩
  · exact ⟨Nat.lt_of_lt_of_eq ho.1 hmS, ho.2⟩
  · exact ⟨Nat.lt_of_lt_of_eq ho.1 hmS, ho.2⟩
  · exact ⟨Nat.lt_of_lt_of_eq ho.1 hmR, ho.2⟩
  · exact ⟨Nat.lt_of_lt_of_eq ho.1 hmV, ho.2⟩
  · exact ⟨Nat.lt_of_lt_of_eq ho.1 hmV, ho.2⟩
  · exact ⟨Nat.lt_of_lt_of_eq ho.1 hmV, Nat.lt_of_lt_of_eq ho.2.1 (hmF i'), ho.2.2⟩
  · exact ⟨Nat.lt_of_lt_of_eq ho.1 hmS, ho.2.1, (congrFun h18 _).symm.trans ho.2.2⟩
  · exact ⟨Nat.lt_of_lt_of_eq ho.1 hmS, Nat.lt_of_lt_of_eq ho.2.1 (hmN i'), ho.2.2⟩
  · exact ⟨ho.1, ho.2.1, fun hz => ho.2.2 (hnS.trans hz)⟩
  · exact ⟨ho.1, ho.2.1, fun hz => ho.2.2 (hnR.trans hz)⟩
  · exact ⟨ho.1, ho.2.1, fun hz => ho.2.2 (hnV.trans hz)⟩
  · have hij : i' ≠ i := fun e => hno ⟨rfl, e, ho.2.1⟩
    exact ⟨Nat.lt_of_lt_of_eq ho.1 hmS, ho.2.1, fun hz => ho.2.2 ((gnN_ne hij).trans hz)⟩
  · exact ⟨Nat.lt_of_lt_of_eq ho.1 hmV, ho.2.1, fun hz => ho.2.2 ((hnF i').trans hz)⟩
theorem lac_8 {cy : Nat → ClassId} {AD : AM} {G : GS} {i : Nat} {v : Int32} {ed1 k' i' j' : Nat} (ho : ok G k' i' j') (hnl : ¬ (k' = 8 ∧ i' = i ∧ j' = 0)) (hno : ¬ (k' = 18 ∧ i' = i ∧ j' = 0)) : cont cy (upA AD 18 i 0 ed1) (up2 G 45 i v) k' i' j' = cont cy AD G k' i' j' := by
  have hk := ho.1
  rcases k20 hk with rfl | rfl | rfl | rfl | rfl | rfl | rfl | rfl | rfl | rfl | rfl | rfl | rfl | rfl | rfl | rfl | rfl | rfl | rfl | rfl
  · exact (ct_cg hk (fun a ha x hr => congrFun (up2_ne (fun e => by rw [e] at ha; revert ha; decide)) x)).trans (ct_ad hk (fun r hr => upA_ne (fun e => by rw [e] at hr; revert hr; decide)))
  · exact (ct_cg hk (fun a ha x hr => congrFun (up2_ne (fun e => by rw [e] at ha; revert ha; decide)) x)).trans (ct_ad hk (fun r hr => upA_ne (fun e => by rw [e] at hr; revert hr; decide)))
  · exact (ct_cg hk (fun a ha x hr => congrFun (up2_ne (fun e => by rw [e] at ha; revert ha; decide)) x)).trans (ct_ad hk (fun r hr => upA_ne (fun e => by rw [e] at hr; revert hr; decide)))
  · exact (ct_cg hk (fun a ha x hr => congrFun (up2_ne (fun e => by rw [e] at ha; revert ha; decide)) x)).trans (ct_ad hk (fun r hr => upA_ne (fun e => by rw [e] at hr; revert hr; decide)))
  · exact (ct_cg hk (fun a ha x hr => congrFun (up2_ne (fun e => by rw [e] at ha; revert ha; decide)) x)).trans (ct_ad hk (fun r hr => upA_ne (fun e => by rw [e] at hr; revert hr; decide)))
  · exact (ct_cg hk (fun a ha x hr => congrFun (up2_ne (fun e => by rw [e] at ha; revert ha; decide)) x)).trans (ct_ad hk (fun r hr => upA_ne (fun e => by rw [e] at hr; revert hr; decide)))
  · exact (ct_cg hk (fun a ha x hr => congrFun (up2_ne (fun e => by rw [e] at ha; revert ha; decide)) x)).trans (ct_ad hk (fun r hr => upA_ne (fun e => by rw [e] at hr; revert hr; decide)))
  · exact (ct_cg hk (fun a ha x hr => congrFun (up2_ne (fun e => by rw [e] at ha; revert ha; decide)) x)).trans (ct_ad hk (fun r hr => upA_ne (fun e => by rw [e] at hr; revert hr; decide)))
  · have hij : i' ≠ i := fun e => hnl ⟨rfl, e, ho.2.2⟩
    show lobj cy (nI (gnN (up2 G 45 i v) i')) (upA AD 18 i 0 ed1 18 i' 0) (gnN (up2 G 45 i v) i') = lobj cy (nI (gnN G i')) (AD 18 i' 0) (gnN G i')
    rw [gnN_ne hij, upA_ne2 (fun e => hij e.2.1)]
  · exact (ct_cg hk (fun a ha x hr => congrFun (up2_ne (fun e => by rw [e] at ha; revert ha; decide)) x)).trans (ct_ad hk (fun r hr => upA_ne (fun e => by rw [e] at hr; revert hr; decide)))
  · exact (ct_cg hk (fun a ha x hr => congrFun (up2_ne (fun e => by rw [e] at ha; revert ha; decide)) x)).trans (ct_ad hk (fun r hr => upA_ne (fun e => by rw [e] at hr; revert hr; decide)))
  · exact (ct_cg hk (fun a ha x hr => congrFun (up2_ne (fun e => by rw [e] at ha; revert ha; decide)) x)).trans (ct_ad hk (fun r hr => upA_ne (fun e => by rw [e] at hr; revert hr; decide)))
  · exact (ct_cg hk (fun a ha x hr => congrFun (up2_ne (fun e => by rw [e] at ha; revert ha; decide)) x)).trans (ct_ad hk (fun r hr => upA_ne (fun e => by rw [e] at hr; revert hr; decide)))
  · exact (ct_cg hk (fun a ha x hr => congrFun (up2_ne (fun e => by rw [e] at ha; revert ha; decide)) x)).trans (ct_ad hk (fun r hr => upA_ne (fun e => by rw [e] at hr; revert hr; decide)))
  · exact (ct_cg hk (fun a ha x hr => congrFun (up2_ne (fun e => by rw [e] at ha; revert ha; decide)) x)).trans (ct_ad hk (fun r hr => upA_ne (fun e => by rw [e] at hr; revert hr; decide)))
  · exact (ct_cg hk (fun a ha x hr => congrFun (up2_ne (fun e => by rw [e] at ha; revert ha; decide)) x)).trans (ct_ad hk (fun r hr => upA_ne (fun e => by rw [e] at hr; revert hr; decide)))
  · exact (ct_cg hk (fun a ha x hr => congrFun (up2_ne (fun e => by rw [e] at ha; revert ha; decide)) x)).trans (ct_ad hk (fun r hr => upA_ne (fun e => by rw [e] at hr; revert hr; decide)))
  · exact (ct_cg hk (fun a ha x hr => congrFun (up2_ne (fun e => by rw [e] at ha; revert ha; decide)) x)).trans (ct_ad hk (fun r hr => upA_ne (fun e => by rw [e] at hr; revert hr; decide)))
  · have hij : i' ≠ i := fun e => hno ⟨rfl, e, ho.2.2.1⟩
    show larr cy (gnN (up2 G 45 i v) i') (fun s => AD 14 i' s) = larr cy (gnN G i') (fun s => AD 14 i' s)
    rw [gnN_ne hij]
  · exact (ct_cg hk (fun a ha x hr => congrFun (up2_ne (fun e => by rw [e] at ha; revert ha; decide)) x)).trans (ct_ad hk (fun r hr => upA_ne (fun e => by rw [e] at hr; revert hr; decide)))
theorem la_8 {cy : Nat → ClassId} {AD : AM} {G : GS} {μ μ1 : MU} (h : RepC cy AD G μ) {i : Nat} (hi : i < gmS G) (hn : gnN G i ≤ 600) {ed1 : Nat} (p1 : μ1 (AD 8 i 0) = some (lobj cy (nI (gnN G i + 1)) ed1 (gnN G i + 1))) (p2 : μ1 ed1 = some (larr cy (gnN G i + 1) (va_up (fun s => AD 14 i s) (gnN G i) (AD 14 i (gnN G i))))) (p3 : (gnN G i ≠ 0 ∧ ed1 = AD 18 i 0) ∨ μ ed1 = none) (p4 : ∀ b, b ≠ AD 8 i 0 → b ≠ ed1 → μ1 b = μ b) : RepC cy (upA AD 18 i 0 ed1) (up2 G 45 i (nI (gnN G i + 1))) μ1 := by
  have hg : gnN (up2 G 45 i (nI (gnN G i + 1))) i = gnN G i + 1 := lag_8 hn
  refine h.la (kl := 8) (ke := 18) (i := i) (n := gnN G i) ⟨by decide, hi, rfl⟩ (by decide) (fun k' i' j' ho hno => lao_8 ho hno) (fun hz => ⟨by decide, hi, rfl, hz⟩) ?_ ?_ p3 p4 (fun k' i' j' ho hnl hno => lac_8 ho hnl hno)
  · show μ1 _ = some (lobj cy (nI (gnN (up2 G 45 i (nI (gnN G i + 1))) i)) (upA AD 18 i 0 ed1 18 i 0) (gnN (up2 G 45 i (nI (gnN G i + 1))) i))
    rw [hg, upA_eq]
    exact p1
  · show μ1 _ = some (larr cy (gnN (up2 G 45 i (nI (gnN G i + 1))) i) (fun s => AD 14 i s))
    rw [hg, p2]
    refine congrArg some (larr_cg (fun j hj => ?_))
    unfold va_up
    split
    · rename_i e
      rw [e]
    · rfl
theorem gnF_ne {G : GS} {i j : Nat} {v : Int32} (h : j ≠ i) : gnF (up2 G 35 i v) j = gnF G j := by
  unfold gnF
  rw [up2_eq]
  exact congrArg _ (if_neg h)
theorem lag_11 {G : GS} {i : Nat} (hn : gnF G i ≤ 600) : gnF (up2 G 35 i (nI (gnF G i + 1))) i = gnF G i + 1 := by
  unfold gnF
  rw [up2_at, nI_clamp (by unfold gnF at hn; omega)]
theorem lao_11 {G : GS} {i : Nat} {v : Int32} {k' i' j' : Nat} (ho : ok (up2 G 35 i v) k' i' j') (hno : ¬ (k' = 19 ∧ i' = i ∧ j' = 0)) : ok G k' i' j' := by
  obtain ⟨hk, ho⟩ := ho
  refine ⟨hk, ?_⟩
  have hmS : gmS (up2 G 35 i v) = gmS G := congrArg (fun z : Nat → Int32 => (z 0).toNatClampNeg) (up2_ne (by decide : (50 : Nat) ≠ 35))
  have hmR : gmR (up2 G 35 i v) = gmR G := congrArg (fun z : Nat → Int32 => (z 0).toNatClampNeg) (up2_ne (by decide : (51 : Nat) ≠ 35))
  have hmV : gmV (up2 G 35 i v) = gmV G := congrArg (fun z : Nat → Int32 => (z 0).toNatClampNeg) (up2_ne (by decide : (52 : Nat) ≠ 35))
  have hnS : gnS (up2 G 35 i v) = gnS G := congrArg (fun z : Nat → Int32 => (z 0).toNatClampNeg) (up2_ne (by decide : (3 : Nat) ≠ 35))
  have hnR : gnR (up2 G 35 i v) = gnR G := congrArg (fun z : Nat → Int32 => (z 0).toNatClampNeg) (up2_ne (by decide : (23 : Nat) ≠ 35))
  have hnV : gnV (up2 G 35 i v) = gnV G := congrArg (fun z : Nat → Int32 => (z 0).toNatClampNeg) (up2_ne (by decide : (29 : Nat) ≠ 35))
  have hmF : ∀ i9, gmF (up2 G 35 i v) i9 = gmF G i9 := fun i9 => congrArg (fun z : Nat → Int32 => (z i9).toNatClampNeg) (up2_ne (by decide : (53 : Nat) ≠ 35))
  have hmN : ∀ i9, gmN (up2 G 35 i v) i9 = gmN G i9 := fun i9 => congrArg (fun z : Nat → Int32 => (z i9).toNatClampNeg) (up2_ne (by decide : (54 : Nat) ≠ 35))
  have hnN : ∀ i9, gnN (up2 G 35 i v) i9 = gnN G i9 := fun i9 => congrArg (fun z : Nat → Int32 => (z i9).toNatClampNeg) (up2_ne (by decide : (45 : Nat) ≠ 35))
  have h18 : (up2 G 35 i v) 18 = G 18 := up2_ne (by decide : (18 : Nat) ≠ 35)
  rcases k20 hk with rfl | rfl | rfl | rfl | rfl | rfl | rfl | rfl | rfl | rfl | rfl | rfl | rfl | rfl | rfl | rfl | rfl | rfl | rfl | rfl
  · exact ⟨ho.1, ho.2⟩
  · exact ⟨ho.1, ho.2⟩
  · exact ⟨ho.1, ho.2⟩
  · exact ⟨ho.1, ho.2⟩
  · exact ⟨ho.1, ho.2⟩
  · exact ⟨ho.1, ho.2⟩
  · exact ⟨Nat.lt_of_lt_of_eq ho.1 hmS, ho.2⟩
  · exact ⟨Nat.lt_of_lt_of_eq ho.1 hmS, ho.2⟩
  · exact ⟨Nat.lt_of_lt_of_eq ho.1 hmS, ho.2⟩
  · exact ⟨Nat.lt_of_lt_of_eq ho.1 hmR, ho.2⟩
  · exact ⟨Nat.lt_of_lt_of_eq ho.1 hmV, ho.2⟩
  · exact ⟨Nat.lt_of_lt_of_eq ho.1 hmV, ho.2⟩
  · exact ⟨Nat.lt_of_lt_of_eq ho.1 hmV, Nat.lt_of_lt_of_eq ho.2.1 (hmF i'), ho.2.2⟩
  · exact ⟨Nat.lt_of_lt_of_eq ho.1 hmS, ho.2.1, (congrFun h18 _).symm.trans ho.2.2⟩
  · exact ⟨Nat.lt_of_lt_of_eq ho.1 hmS, Nat.lt_of_lt_of_eq ho.2.1 (hmN i'), ho.2.2⟩
  · exact ⟨ho.1, ho.2.1, fun hz => ho.2.2 (hnS.trans hz)⟩
  · exact ⟨ho.1, ho.2.1, fun hz => ho.2.2 (hnR.trans hz)⟩
  · exact ⟨ho.1, ho.2.1, fun hz => ho.2.2 (hnV.trans hz)⟩
  · exact ⟨Nat.lt_of_lt_of_eq ho.1 hmS, ho.2.1, fun hz => ho.2.2 ((hnN i').trans hz)⟩
  · have hij : i' ≠ i := fun e => hno ⟨rfl, e, ho.2.1⟩
    exact ⟨Nat.lt_of_lt_of_eq ho.1 hmV, ho.2.1, fun hz => ho.2.2 ((gnF_ne hij).trans hz)⟩
theorem lac_11 {cy : Nat → ClassId} {AD : AM} {G : GS} {i : Nat} {v : Int32} {ed1 k' i' j' : Nat} (ho : ok G k' i' j') (hnl : ¬ (k' = 11 ∧ i' = i ∧ j' = 0)) (hno : ¬ (k' = 19 ∧ i' = i ∧ j' = 0)) : cont cy (upA AD 19 i 0 ed1) (up2 G 35 i v) k' i' j' = cont cy AD G k' i' j' := by
  have hk := ho.1
  rcases k20 hk with rfl | rfl | rfl | rfl | rfl | rfl | rfl | rfl | rfl | rfl | rfl | rfl | rfl | rfl | rfl | rfl | rfl | rfl | rfl | rfl
  · exact (ct_cg hk (fun a ha x hr => congrFun (up2_ne (fun e => by rw [e] at ha; revert ha; decide)) x)).trans (ct_ad hk (fun r hr => upA_ne (fun e => by rw [e] at hr; revert hr; decide)))
  · exact (ct_cg hk (fun a ha x hr => congrFun (up2_ne (fun e => by rw [e] at ha; revert ha; decide)) x)).trans (ct_ad hk (fun r hr => upA_ne (fun e => by rw [e] at hr; revert hr; decide)))
  · exact (ct_cg hk (fun a ha x hr => congrFun (up2_ne (fun e => by rw [e] at ha; revert ha; decide)) x)).trans (ct_ad hk (fun r hr => upA_ne (fun e => by rw [e] at hr; revert hr; decide)))
  · exact (ct_cg hk (fun a ha x hr => congrFun (up2_ne (fun e => by rw [e] at ha; revert ha; decide)) x)).trans (ct_ad hk (fun r hr => upA_ne (fun e => by rw [e] at hr; revert hr; decide)))
  · exact (ct_cg hk (fun a ha x hr => congrFun (up2_ne (fun e => by rw [e] at ha; revert ha; decide)) x)).trans (ct_ad hk (fun r hr => upA_ne (fun e => by rw [e] at hr; revert hr; decide)))
  · exact (ct_cg hk (fun a ha x hr => congrFun (up2_ne (fun e => by rw [e] at ha; revert ha; decide)) x)).trans (ct_ad hk (fun r hr => upA_ne (fun e => by rw [e] at hr; revert hr; decide)))
  · exact (ct_cg hk (fun a ha x hr => congrFun (up2_ne (fun e => by rw [e] at ha; revert ha; decide)) x)).trans (ct_ad hk (fun r hr => upA_ne (fun e => by rw [e] at hr; revert hr; decide)))
  · exact (ct_cg hk (fun a ha x hr => congrFun (up2_ne (fun e => by rw [e] at ha; revert ha; decide)) x)).trans (ct_ad hk (fun r hr => upA_ne (fun e => by rw [e] at hr; revert hr; decide)))
  · exact (ct_cg hk (fun a ha x hr => congrFun (up2_ne (fun e => by rw [e] at ha; revert ha; decide)) x)).trans (ct_ad hk (fun r hr => upA_ne (fun e => by rw [e] at hr; revert hr; decide)))
  · exact (ct_cg hk (fun a ha x hr => congrFun (up2_ne (fun e => by rw [e] at ha; revert ha; decide)) x)).trans (ct_ad hk (fun r hr => upA_ne (fun e => by rw [e] at hr; revert hr; decide)))
  · exact (ct_cg hk (fun a ha x hr => congrFun (up2_ne (fun e => by rw [e] at ha; revert ha; decide)) x)).trans (ct_ad hk (fun r hr => upA_ne (fun e => by rw [e] at hr; revert hr; decide)))
  · have hij : i' ≠ i := fun e => hnl ⟨rfl, e, ho.2.2⟩
    show lobj cy (nI (gnF (up2 G 35 i v) i')) (upA AD 19 i 0 ed1 19 i' 0) (gnF (up2 G 35 i v) i') = lobj cy (nI (gnF G i')) (AD 19 i' 0) (gnF G i')
    rw [gnF_ne hij, upA_ne2 (fun e => hij e.2.1)]
  · exact (ct_cg hk (fun a ha x hr => congrFun (up2_ne (fun e => by rw [e] at ha; revert ha; decide)) x)).trans (ct_ad hk (fun r hr => upA_ne (fun e => by rw [e] at hr; revert hr; decide)))
  · exact (ct_cg hk (fun a ha x hr => congrFun (up2_ne (fun e => by rw [e] at ha; revert ha; decide)) x)).trans (ct_ad hk (fun r hr => upA_ne (fun e => by rw [e] at hr; revert hr; decide)))
  · exact (ct_cg hk (fun a ha x hr => congrFun (up2_ne (fun e => by rw [e] at ha; revert ha; decide)) x)).trans (ct_ad hk (fun r hr => upA_ne (fun e => by rw [e] at hr; revert hr; decide)))
  · exact (ct_cg hk (fun a ha x hr => congrFun (up2_ne (fun e => by rw [e] at ha; revert ha; decide)) x)).trans (ct_ad hk (fun r hr => upA_ne (fun e => by rw [e] at hr; revert hr; decide)))
  · exact (ct_cg hk (fun a ha x hr => congrFun (up2_ne (fun e => by rw [e] at ha; revert ha; decide)) x)).trans (ct_ad hk (fun r hr => upA_ne (fun e => by rw [e] at hr; revert hr; decide)))
  · exact (ct_cg hk (fun a ha x hr => congrFun (up2_ne (fun e => by rw [e] at ha; revert ha; decide)) x)).trans (ct_ad hk (fun r hr => upA_ne (fun e => by rw [e] at hr; revert hr; decide)))
  · exact (ct_cg hk (fun a ha x hr => congrFun (up2_ne (fun e => by rw [e] at ha; revert ha; decide)) x)).trans (ct_ad hk (fun r hr => upA_ne (fun e => by rw [e] at hr; revert hr; decide)))
  · have hij : i' ≠ i := fun e => hno ⟨rfl, e, ho.2.2.1⟩
    show larr cy (gnF (up2 G 35 i v) i') (fun s => AD 12 i' s) = larr cy (gnF G i') (fun s => AD 12 i' s)
    rw [gnF_ne hij]
theorem la_11 {cy : Nat → ClassId} {AD : AM} {G : GS} {μ μ1 : MU} (h : RepC cy AD G μ) {i : Nat} (hi : i < gmV G) (hn : gnF G i ≤ 600) {ed1 : Nat} (p1 : μ1 (AD 11 i 0) = some (lobj cy (nI (gnF G i + 1)) ed1 (gnF G i + 1))) (p2 : μ1 ed1 = some (larr cy (gnF G i + 1) (va_up (fun s => AD 12 i s) (gnF G i) (AD 12 i (gnF G i))))) (p3 : (gnF G i ≠ 0 ∧ ed1 = AD 19 i 0) ∨ μ ed1 = none) (p4 : ∀ b, b ≠ AD 11 i 0 → b ≠ ed1 → μ1 b = μ b) : RepC cy (upA AD 19 i 0 ed1) (up2 G 35 i (nI (gnF G i + 1))) μ1 := by
  have hg : gnF (up2 G 35 i (nI (gnF G i + 1))) i = gnF G i + 1 := lag_11 hn
  refine h.la (kl := 11) (ke := 19) (i := i) (n := gnF G i) ⟨by decide, hi, rfl⟩ (by decide) (fun k' i' j' ho hno => lao_11 ho hno) (fun hz => ⟨by decide, hi, rfl, hz⟩) ?_ ?_ p3 p4 (fun k' i' j' ho hnl hno => lac_11 ho hnl hno)
  · show μ1 _ = some (lobj cy (nI (gnF (up2 G 35 i (nI (gnF G i + 1))) i)) (upA AD 19 i 0 ed1 19 i 0) (gnF (up2 G 35 i (nI (gnF G i + 1))) i))
    rw [hg, upA_eq]
    exact p1
  · show μ1 _ = some (larr cy (gnF (up2 G 35 i (nI (gnF G i + 1))) i) (fun s => AD 12 i s))
    rw [hg, p2]
    refine congrArg some (larr_cg (fun j hj => ?_))
    unfold va_up
    split
    · rename_i e
      rw [e]
    · rfl
