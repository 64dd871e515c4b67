def upL (G : GS) (x0 : Nat) (L : List (Nat × Int32)) : GS := fun a x => if x = x0 then (match L.lookup a with | some v => v | none => G a x) else G a x
theorem upL_x {G : GS} {x0 : Nat} {L : List (Nat × Int32)} {a x : Nat} (h : x ≠ x0) : upL G x0 L a x = G a x := if_neg h
theorem upL_a {G : GS} {x0 : Nat} {L : List (Nat × Int32)} {a : Nat} (h : L.lookup a = none) : upL G x0 L a = G a := funext (fun x => by
  unfold upL
  rw [h]
  split <;> rfl)
theorem upL_v {G : GS} {x0 : Nat} {L : List (Nat × Int32)} {a : Nat} {v : Int32} (h : L.lookup a = some v) : upL G x0 L a x0 = v := by
  unfold upL
  rw [h, if_pos rfl]
theorem lk_none : ∀ {L : List (Nat × Int32)} {a : Nat}, a ∉ L.map Prod.fst → L.lookup a = none
  | [], _, _ => rfl
  | (b, v) :: L, a, h => by
    have h1 : ¬ a = b := fun e => h (by rw [e]; exact List.mem_cons_self)
    have h2 : a ∉ L.map Prod.fst := fun q => h (List.mem_cons_of_mem _ q)
    have h3 : (a == b) = false := beq_eq_false_iff_ne.mpr h1
    show (match a == b with | true => some v | false => L.lookup a) = none
    rw [h3]
    exact lk_none h2
theorem upL_old {G : GS} {x0 : Nat} {L : List (Nat × Int32)} {a x : Nat} (h : a ∈ L.map Prod.fst → x ≠ x0) : upL G x0 L a x = G a x := by
  by_cases ha : a ∈ L.map Prod.fst
  · exact upL_x (h ha)
  · exact congrFun (upL_a (lk_none ha)) x
theorem hG_L {G : GS} {x0 k : Nat} {L : List (Nat × Int32)} {M : List Nat} (hL : ∀ q ∈ L.map Prod.fst, own q = k ∧ q ∉ cntL) : ∀ a x, upL G x0 L a x = G a x ∨ (own a = k ∧ a ∉ cntL ∧ x = x0) ∨ a ∈ M := fun a x => by
  by_cases hx : x = x0
  · by_cases ha : a ∈ L.map Prod.fst
    · exact Or.inr (Or.inl ⟨(hL a ha).1, (hL a ha).2, hx⟩)
    · exact Or.inl (congrFun (upL_a (lk_none ha)) x)
  · exact Or.inl (upL_x hx)
theorem hG_m {G G1 : GS} {x0 k f r : Nat} {v : Int32} {M : List Nat} (hf : f ∈ M) (h : ∀ a x, G1 a x = G a x ∨ (own a = k ∧ a ∉ cntL ∧ x = x0) ∨ a ∈ M) : ∀ a x, up2 G1 f r v a x = G a x ∨ (own a = k ∧ a ∉ cntL ∧ x = x0) ∨ a ∈ M := fun a x => by
  by_cases ha : a = f
  · exact Or.inr (Or.inr (by rw [ha]; exact hf))
  · rw [up2_ne ha]
    exact h a x
theorem up2_cg {G G1 : GS} {f r a : Nat} {v : Int32} (h : G1 a = G a) : up2 G1 f r v a = up2 G f r v a := by
  unfold up2
  rw [h]
theorem keep_new {μ : MU} {q : Nat} {e : va_E} (h : μ q = none) : ∀ b x, μ b = some x → mset μ q e b = some x := fun b x hb => (mset_ne (fun e => by rw [e, h] at hb; cases hb)).trans hb
theorem keep_at {μ μ1 : MU} {q : Nat} (h : μ q = none) (h1 : ∀ b, b ≠ q → μ1 b = μ b) : ∀ b x, μ b = some x → μ1 b = some x := fun b x hb => (h1 b (fun e => by rw [e, h] at hb; cases hb)).trans hb
def g14 (G : GS) (i n : Nat) (x1 : Int32) (x2 : Int32) (x3 : Int32) (x4 : Int32) : GS := up2 (upL G (514 * i + n) [(46, x1), (47, x2), (48, x3), (49, x4)]) 54 i (nI (n + 1))
theorem g14_ne {G : GS} {i n : Nat} {x1 x2 x3 x4 : Int32} {j : Nat} (h : j ∉ [46, 47, 48, 49, 54]) : (g14 G i n x1 x2 x3 x4) j = G j := (up2_ne (fun e => h (by rw [e]; decide))).trans (upL_a (lk_none (fun e => h (List.mem_append_left (bs := [54]) e))))
theorem g14_at {G : GS} {i n : Nat} {x1 x2 x3 x4 : Int32} : (g14 G i n x1 x2 x3 x4) 46 (514 * i + n) = x1 ∧ (g14 G i n x1 x2 x3 x4) 47 (514 * i + n) = x2 ∧ (g14 G i n x1 x2 x3 x4) 48 (514 * i + n) = x3 ∧ (g14 G i n x1 x2 x3 x4) 49 (514 * i + n) = x4 := ⟨(congrFun (up2_ne (by decide)) _).trans (upL_v rfl), (congrFun (up2_ne (by decide)) _).trans (upL_v rfl), (congrFun (up2_ne (by decide)) _).trans (upL_v rfl), (congrFun (up2_ne (by decide)) _).trans (upL_v rfl)⟩
theorem g14_c {G : GS} {i n : Nat} {x1 x2 x3 x4 : Int32} : (g14 G i n x1 x2 x3 x4) 54 i = nI (n + 1) := up2_at _ _ _ _
theorem g14_n {G : GS} {i n : Nat} {x1 x2 x3 x4 : Int32} (hn : n < 600) : gmN (g14 G i n x1 x2 x3 x4) i = n + 1 := by
  unfold gmN
  rw [g14_c, nI_clamp (by omega)]
theorem g14_n2 {G : GS} {i n : Nat} {x1 x2 x3 x4 : Int32} {i9 : Nat} (h : i9 ≠ i) : gmN (g14 G i n x1 x2 x3 x4) i9 = gmN G i9 := congrArg Int32.toNatClampNeg ((congrFun (up2_eq _ _ _ _) _).trans ((if_neg h).trans (congrFun (upL_a rfl) _)))
theorem g14_ok {G : GS} {i n : Nat} {x1 x2 x3 x4 : Int32} {k' i' j' : Nat} (hn : n < 600) (hm : gmN G i = n) (ho : ok (g14 G i n x1 x2 x3 x4) k' i' j') (hno : ¬ (k' = 14 ∧ i' = i ∧ j' = n)) : ok G k' i' j' := by
  obtain ⟨hk, ho⟩ := ho
  refine ⟨hk, ?_⟩
  have hmS : gmS (g14 G i n x1 x2 x3 x4) = gmS G := congrArg (fun z : Nat → Int32 => (z 0).toNatClampNeg) (g14_ne (j := 50) (by decide))
  have hmR : gmR (g14 G i n x1 x2 x3 x4) = gmR G := congrArg (fun z : Nat → Int32 => (z 0).toNatClampNeg) (g14_ne (j := 51) (by decide))
  have hmV : gmV (g14 G i n x1 x2 x3 x4) = gmV G := congrArg (fun z : Nat → Int32 => (z 0).toNatClampNeg) (g14_ne (j := 52) (by decide))
  have hnS : gnS (g14 G i n x1 x2 x3 x4) = gnS G := congrArg (fun z : Nat → Int32 => (z 0).toNatClampNeg) (g14_ne (j := 3) (by decide))
  have hnR : gnR (g14 G i n x1 x2 x3 x4) = gnR G := congrArg (fun z : Nat → Int32 => (z 0).toNatClampNeg) (g14_ne (j := 23) (by decide))
  have hnV : gnV (g14 G i n x1 x2 x3 x4) = gnV G := congrArg (fun z : Nat → Int32 => (z 0).toNatClampNeg) (g14_ne (j := 29) (by decide))
  have hmF : ∀ i9, gmF (g14 G i n x1 x2 x3 x4) i9 = gmF G i9 := fun i9 => congrArg (fun z : Nat → Int32 => (z i9).toNatClampNeg) (g14_ne (j := 53) (by decide))
  have hnN : ∀ i9, gnN (g14 G i n x1 x2 x3 x4) i9 = gnN G i9 := fun i9 => congrArg (fun z : Nat → Int32 => (z i9).toNatClampNeg) (g14_ne (j := 45) (by decide))
  have hnF : ∀ i9, gnF (g14 G i n x1 x2 x3 x4) i9 = gnF G i9 := fun i9 => congrArg (fun z : Nat → Int32 => (z i9).toNatClampNeg) (g14_ne (j := 35) (by decide))
  have h18 : (g14 G i n x1 x2 x3 x4) 18 = G 18 := g14_ne (j := 18) (by decide)
  rcases k20 hk with rfl | rfl | rfl | rfl | rfl | rfl | rfl | rfl | rfl | rfl | rfl | rfl | rfl | rfl | rfl | rfl | rfl | rfl | rfl | rfl
  · exact ⟨ho.1, ho.2⟩
  · exact ⟨ho.1, ho.2⟩
  · exact ⟨ho.1, ho.2⟩
  · exact ⟨ho.1, ho.2⟩
  · exact ⟨ho.1, ho.2⟩
  · exact ⟨ho.1, ho.2⟩
  · exact ⟨Nat.lt_of_lt_of_eq ho.1 hmS, ho.2⟩
  · exact ⟨Nat.lt_of_lt_of_eq ho.1 hmS, ho.2⟩
  · exact ⟨Nat.lt_of_lt_of_eq ho.1 hmS, ho.2⟩
  · exact ⟨Nat.lt_of_lt_of_eq ho.1 hmR, ho.2⟩
  · exact ⟨Nat.lt_of_lt_of_eq ho.1 hmV, ho.2⟩
  · exact ⟨Nat.lt_of_lt_of_eq ho.1 hmV, ho.2⟩
  · exact ⟨Nat.lt_of_lt_of_eq ho.1 hmV, Nat.lt_of_lt_of_eq ho.2.1 (hmF i'), ho.2.2⟩
  · exact ⟨Nat.lt_of_lt_of_eq ho.1 hmS, ho.2.1, (congrFun h18 _).symm.trans ho.2.2⟩
  · by_cases hi : i' = i
    · subst hi
      have h1 : j' < n + 1 := Nat.lt_of_lt_of_eq ho.2.1 (g14_n hn)
      have h2 : j' ≠ n := fun e => hno ⟨rfl, rfl, e⟩
      exact ⟨Nat.lt_of_lt_of_eq ho.1 hmS, show j' < gmN G i' by omega, ho.2.2⟩
    · exact ⟨Nat.lt_of_lt_of_eq ho.1 hmS, Nat.lt_of_lt_of_eq ho.2.1 (g14_n2 hi), ho.2.2⟩
  · exact ⟨ho.1, ho.2.1, fun hz => ho.2.2 (hnS.trans hz)⟩
  · exact ⟨ho.1, ho.2.1, fun hz => ho.2.2 (hnR.trans hz)⟩
  · exact ⟨ho.1, ho.2.1, fun hz => ho.2.2 (hnV.trans hz)⟩
  · exact ⟨Nat.lt_of_lt_of_eq ho.1 hmS, ho.2.1, fun hz => ho.2.2 ((hnN i').trans hz)⟩
  · exact ⟨Nat.lt_of_lt_of_eq ho.1 hmV, ho.2.1, fun hz => ho.2.2 ((hnF i').trans hz)⟩
theorem g14_ok1 {G : GS} {i n : Nat} {x1 x2 x3 x4 : Int32} {k' i' j' : Nat} (hn : n < 600) (hm : gmN G i = n) (ho : ok G k' i' j') : ok (g14 G i n x1 x2 x3 x4) k' i' j' := by
  obtain ⟨hk, ho⟩ := ho
  refine ⟨hk, ?_⟩
  have hmS : gmS (g14 G i n x1 x2 x3 x4) = gmS G := congrArg (fun z : Nat → Int32 => (z 0).toNatClampNeg) (g14_ne (j := 50) (by decide))
  have hmR : gmR (g14 G i n x1 x2 x3 x4) = gmR G := congrArg (fun z : Nat → Int32 => (z 0).toNatClampNeg) (g14_ne (j := 51) (by decide))
  have hmV : gmV (g14 G i n x1 x2 x3 x4) = gmV G := congrArg (fun z : Nat → Int32 => (z 0).toNatClampNeg) (g14_ne (j := 52) (by decide))
  have hnS : gnS (g14 G i n x1 x2 x3 x4) = gnS G := congrArg (fun z : Nat → Int32 => (z 0).toNatClampNeg) (g14_ne (j := 3) (by decide))
  have hnR : gnR (g14 G i n x1 x2 x3 x4) = gnR G := congrArg (fun z : Nat → Int32 => (z 0).toNatClampNeg) (g14_ne (j := 23) (by decide))
  have hnV : gnV (g14 G i n x1 x2 x3 x4) = gnV G := congrArg (fun z : Nat → Int32 => (z 0).toNatClampNeg) (g14_ne (j := 29) (by decide))
  have hmF : ∀ i9, gmF (g14 G i n x1 x2 x3 x4) i9 = gmF G i9 := fun i9 => congrArg (fun z : Nat → Int32 => (z i9).toNatClampNeg) (g14_ne (j := 53) (by decide))
  have hnN : ∀ i9, gnN (g14 G i n x1 x2 x3 x4) i9 = gnN G i9 := fun i9 => congrArg (fun z : Nat → Int32 => (z i9).toNatClampNeg) (g14_ne (j := 45) (by decide))
  have hnF : ∀ i9, gnF (g14 G i n x1 x2 x3 x4) i9 = gnF G i9 := fun i9 => congrArg (fun z : Nat → Int32 => (z i9).toNatClampNeg) (g14_ne (j := 35) (by decide))
  have h18 : (g14 G i n x1 x2 x3 x4) 18 = G 18 := g14_ne (j := 18) (by decide)
  rcases k20 hk with rfl | rfl | rfl | rfl | rfl | rfl | rfl | rfl | rfl | rfl | rfl | rfl | rfl | rfl | rfl | rfl | rfl | rfl | rfl | rfl
  · exact ⟨ho.1, ho.2⟩
  · exact ⟨ho.1, ho.2⟩
  · exact ⟨ho.1, ho.2⟩
  · exact ⟨ho.1, ho.2⟩
  · exact ⟨ho.1, ho.2⟩
  · exact ⟨ho.1, ho.2⟩
  · exact ⟨Nat.lt_of_lt_of_eq ho.1 hmS.symm, ho.2⟩
  · exact ⟨Nat.lt_of_lt_of_eq ho.1 hmS.symm, ho.2⟩
  · exact ⟨Nat.lt_of_lt_of_eq ho.1 hmS.symm, ho.2⟩
  · exact ⟨Nat.lt_of_lt_of_eq ho.1 hmR.symm, ho.2⟩
  · exact ⟨Nat.lt_of_lt_of_eq ho.1 hmV.symm, ho.2⟩
  · exact ⟨Nat.lt_of_lt_of_eq ho.1 hmV.symm, ho.2⟩
  · exact ⟨Nat.lt_of_lt_of_eq ho.1 hmV.symm, Nat.lt_of_lt_of_eq ho.2.1 (hmF i').symm, ho.2.2⟩
  · exact ⟨Nat.lt_of_lt_of_eq ho.1 hmS.symm, ho.2.1, (congrFun h18 _).trans ho.2.2⟩
  · by_cases hi : i' = i
    · subst hi
      exact ⟨Nat.lt_of_lt_of_eq ho.1 hmS.symm, by rw [g14_n hn]; have h9 := ho.2.1; omega, ho.2.2⟩
    · exact ⟨Nat.lt_of_lt_of_eq ho.1 hmS.symm, Nat.lt_of_lt_of_eq ho.2.1 (g14_n2 hi).symm, ho.2.2⟩
  · exact ⟨ho.1, ho.2.1, fun hz => ho.2.2 (hnS.symm.trans hz)⟩
  · exact ⟨ho.1, ho.2.1, fun hz => ho.2.2 (hnR.symm.trans hz)⟩
  · exact ⟨ho.1, ho.2.1, fun hz => ho.2.2 (hnV.symm.trans hz)⟩
  · exact ⟨Nat.lt_of_lt_of_eq ho.1 hmS.symm, ho.2.1, fun hz => ho.2.2 ((hnN i').symm.trans hz)⟩
  · exact ⟨Nat.lt_of_lt_of_eq ho.1 hmV.symm, ho.2.1, fun hz => ho.2.2 ((hnF i').symm.trans hz)⟩
theorem mk_14 {cy : Nat → ClassId} {AD : AM} {G : GS} {μ : MU} (h : RepC cy AD G μ) {i n : Nat} {q : Nat} (hi : i < gmS G) (hn : n < 514) (hm : gmN G i = n) (hg : gnN G i = n) (hq : ∀ k' i' j', ok G k' i' j' → AD k' i' j' ≠ q) {x1 x2 x3 x4 : Int32} (hc : μ q = some (.inr (3, [.int x1, .int x2, .int x3, .int x4]))) : RepC cy (upA AD 14 i n q) (g14 G i n x1 x2 x3 x4) μ := by
  refine h.mk (k := 14) (by decide) hq (hG_m (by decide) (hG_L (show ∀ q ∈ [46, 47, 48, 49], own q = 14 ∧ q ∉ cntL by decide))) rfl (fun k' i' j' ho hno => g14_ok (by omega) hm ho hno) ?_ (fun k' i' j' ho hr => ?_) ?_
  · exact ⟨by decide, Nat.lt_of_lt_of_eq hi (congrArg (fun z : Nat → Int32 => (z 0).toNatClampNeg) (g14_ne (j := 50) (by decide))).symm, by rw [g14_n (by omega)]; omega, hn⟩
  · have hk := ho.1
    rcases k20 hk with rfl | rfl | rfl | rfl | rfl | rfl | rfl | rfl | rfl | rfl | rfl | rfl | rfl | rfl | rfl | rfl | rfl | rfl | rfl | rfl
    · exact absurd hr (by decide)
    · exact absurd hr (by decide)
    · exact absurd hr (by decide)
    · exact absurd hr (by decide)
    · exact absurd hr (by decide)
    · exact absurd hr (by decide)
    · exact absurd hr (by decide)
    · exact absurd hr (by decide)
    · exact absurd hr (by decide)
    · exact absurd hr (by decide)
    · exact absurd hr (by decide)
    · exact absurd hr (by decide)
    · exact absurd hr (by decide)
    · exact absurd hr (by decide)
    · exact absurd hr (by decide)
    · exact absurd hr (by decide)
    · exact absurd hr (by decide)
    · exact absurd hr (by decide)
    · refine larr_cg (fun s hs => ?_)
      refine upA_ne2 (fun e => ?_)
      have h1 := e.2.1
      have h2 := e.2.2
      subst h1
      omega
    · exact absurd hr (by decide)
  · show μ q = some (.inr (3, noF (g14 G i n x1 x2 x3 x4) (514 * i + n)))
    unfold noF
    rw [hc, g14_at.1, g14_at.2.1, g14_at.2.2.1, g14_at.2.2.2]
def g12 (G : GS) (i n : Nat) (x1 : Int32) : GS := up2 (upL G (12 * i + n) [(36, x1), (37, 0), (44, 0)]) 53 i (nI (n + 1))
theorem g12_ne {G : GS} {i n : Nat} {x1 : Int32} {j : Nat} (h : j ∉ [36, 37, 44, 53]) : (g12 G i n x1) j = G j := (up2_ne (fun e => h (by rw [e]; decide))).trans (upL_a (lk_none (fun e => h (List.mem_append_left (bs := [53]) e))))
theorem g12_at {G : GS} {i n : Nat} {x1 : Int32} : (g12 G i n x1) 36 (12 * i + n) = x1 ∧ (g12 G i n x1) 44 (12 * i + n) = 0 ∧ (g12 G i n x1) 37 (12 * i + n) = 0 := ⟨(congrFun (up2_ne (by decide)) _).trans (upL_v rfl), (congrFun (up2_ne (by decide)) _).trans (upL_v rfl), (congrFun (up2_ne (by decide)) _).trans (upL_v rfl)⟩
theorem g12_c {G : GS} {i n : Nat} {x1 : Int32} : (g12 G i n x1) 53 i = nI (n + 1) := up2_at _ _ _ _
theorem g12_n {G : GS} {i n : Nat} {x1 : Int32} (hn : n < 600) : gmF (g12 G i n x1) i = n + 1 := by
  unfold gmF
  rw [g12_c, nI_clamp (by omega)]
theorem g12_n2 {G : GS} {i n : Nat} {x1 : Int32} {i9 : Nat} (h : i9 ≠ i) : gmF (g12 G i n x1) i9 = gmF G i9 := congrArg Int32.toNatClampNeg ((congrFun (up2_eq _ _ _ _) _).trans ((if_neg h).trans (congrFun (upL_a rfl) _)))
theorem g12_ok {G : GS} {i n : Nat} {x1 : Int32} {k' i' j' : Nat} (hn : n < 600) (hm : gmF G i = n) (ho : ok (g12 G i n x1) k' i' j') (hno : ¬ (k' = 12 ∧ i' = i ∧ j' = n)) : ok G k' i' j' := by
  obtain ⟨hk, ho⟩ := ho
  refine ⟨hk, ?_⟩
  have hmS : gmS (g12 G i n x1) = gmS G := congrArg (fun z : Nat → Int32 => (z 0).toNatClampNeg) (g12_ne (j := 50) (by decide))
  have hmR : gmR (g12 G i n x1) = gmR G := congrArg (fun z : Nat → Int32 => (z 0).toNatClampNeg) (g12_ne (j := 51) (by decide))
  have hmV : gmV (g12 G i n x1) = gmV G := congrArg (fun z : Nat → Int32 => (z 0).toNatClampNeg) (g12_ne (j := 52) (by decide))
  have hnS : gnS (g12 G i n x1) = gnS G := congrArg (fun z : Nat → Int32 => (z 0).toNatClampNeg) (g12_ne (j := 3) (by decide))
  have hnR : gnR (g12 G i n x1) = gnR G := congrArg (fun z : Nat → Int32 => (z 0).toNatClampNeg) (g12_ne (j := 23) (by decide))
  have hnV : gnV (g12 G i n x1) = gnV G := congrArg (fun z : Nat → Int32 => (z 0).toNatClampNeg) (g12_ne (j := 29) (by decide))
  have hmN : ∀ i9, gmN (g12 G i n x1) i9 = gmN G i9 := fun i9 => congrArg (fun z : Nat → Int32 => (z i9).toNatClampNeg) (g12_ne (j := 54) (by decide))
  have hnN : ∀ i9, gnN (g12 G i n x1) i9 = gnN G i9 := fun i9 => congrArg (fun z : Nat → Int32 => (z i9).toNatClampNeg) (g12_ne (j := 45) (by decide))
  have hnF : ∀ i9, gnF (g12 G i n x1) i9 = gnF G i9 := fun i9 => congrArg (fun z : Nat → Int32 => (z i9).toNatClampNeg) (g12_ne (j := 35) (by decide))
  have h18 : (g12 G i n x1) 18 = G 18 := g12_ne (j := 18) (by decide)
  rcases k20 hk with rfl | rfl | rfl | rfl | rfl | rfl | rfl | rfl | rfl | rfl | rfl | rfl | rfl | rfl | rfl | rfl | rfl | rfl | rfl | rfl
  · exact ⟨ho.1, ho.2⟩
  · exact ⟨ho.1, ho.2⟩
  · exact ⟨ho.1, ho.2⟩
  · exact ⟨ho.1, ho.2⟩
  · exact ⟨ho.1, ho.2⟩
  · exact ⟨ho.1, ho.2⟩
  · exact ⟨Nat.lt_of_lt_of_eq ho.1 hmS, ho.2⟩
  · exact ⟨Nat.lt_of_lt_of_eq ho.1 hmS, ho.2⟩
  · exact ⟨Nat.lt_of_lt_of_eq ho.1 hmS, ho.2⟩
  · exact ⟨Nat.lt_of_lt_of_eq ho.1 hmR, ho.2⟩
  · exact ⟨Nat.lt_of_lt_of_eq ho.1 hmV, ho.2⟩
  · exact ⟨Nat.lt_of_lt_of_eq ho.1 hmV, ho.2⟩
  · by_cases hi : i' = i
    · subst hi
      have h1 : j' < n + 1 := Nat.lt_of_lt_of_eq ho.2.1 (g12_n hn)
      have h2 : j' ≠ n := fun e => hno ⟨rfl, rfl, e⟩
      exact ⟨Nat.lt_of_lt_of_eq ho.1 hmV, show j' < gmF G i' by omega, ho.2.2⟩
    · exact ⟨Nat.lt_of_lt_of_eq ho.1 hmV, Nat.lt_of_lt_of_eq ho.2.1 (g12_n2 hi), ho.2.2⟩
  · exact ⟨Nat.lt_of_lt_of_eq ho.1 hmS, ho.2.1, (congrFun h18 _).symm.trans ho.2.2⟩
  · exact ⟨Nat.lt_of_lt_of_eq ho.1 hmS, Nat.lt_of_lt_of_eq ho.2.1 (hmN i'), ho.2.2⟩
  · exact ⟨ho.1, ho.2.1, fun hz => ho.2.2 (hnS.trans hz)⟩
  · exact ⟨ho.1, ho.2.1, fun hz => ho.2.2 (hnR.trans hz)⟩
  · exact ⟨ho.1, ho.2.1, fun hz => ho.2.2 (hnV.trans hz)⟩
  · exact ⟨Nat.lt_of_lt_of_eq ho.1 hmS, ho.2.1, fun hz => ho.2.2 ((hnN i').trans hz)⟩
  · exact ⟨Nat.lt_of_lt_of_eq ho.1 hmV, ho.2.1, fun hz => ho.2.2 ((hnF i').trans hz)⟩
theorem g12_ok1 {G : GS} {i n : Nat} {x1 : Int32} {k' i' j' : Nat} (hn : n < 600) (hm : gmF G i = n) (ho : ok G k' i' j') : ok (g12 G i n x1) k' i' j' := by
  obtain ⟨hk, ho⟩ := ho
  refine ⟨hk, ?_⟩
  have hmS : gmS (g12 G i n x1) = gmS G := congrArg (fun z : Nat → Int32 => (z 0).toNatClampNeg) (g12_ne (j := 50) (by decide))
  have hmR : gmR (g12 G i n x1) = gmR G := congrArg (fun z : Nat → Int32 => (z 0).toNatClampNeg) (g12_ne (j := 51) (by decide))
  have hmV : gmV (g12 G i n x1) = gmV G := congrArg (fun z : Nat → Int32 => (z 0).toNatClampNeg) (g12_ne (j := 52) (by decide))
  have hnS : gnS (g12 G i n x1) = gnS G := congrArg (fun z : Nat → Int32 => (z 0).toNatClampNeg) (g12_ne (j := 3) (by decide))
  have hnR : gnR (g12 G i n x1) = gnR G := congrArg (fun z : Nat → Int32 => (z 0).toNatClampNeg) (g12_ne (j := 23) (by decide))
  have hnV : gnV (g12 G i n x1) = gnV G := congrArg (fun z : Nat → Int32 => (z 0).toNatClampNeg) (g12_ne (j := 29) (by decide))
  have hmN : ∀ i9, gmN (g12 G i n x1) i9 = gmN G i9 := fun i9 => congrArg (fun z : Nat → Int32 => (z i9).toNatClampNeg) (g12_ne (j := 54) (by decide))
  have hnN : ∀ i9, gnN (g12 G i n x1) i9 = gnN G i9 := fun i9 => congrArg (fun z : Nat → Int32 => (z i9).toNatClampNeg) (g12_ne (j := 45) (by decide))
  have hnF : ∀ i9, gnF (g12 G i n x1) i9 = gnF G i9 := fun i9 => congrArg (fun z : Nat → Int32 => (z i9).toNatClampNeg) (g12_ne (j := 35) (by decide))
  have h18 : (g12 G i n x1) 18 = G 18 := g12_ne (j := 18) (by decide)
  rcases k20 hk with rfl | rfl | rfl | rfl | rfl | rfl | rfl | rfl | rfl | rfl | rfl | rfl | rfl | rfl | rfl | rfl | rfl | rfl | rfl | rfl
  · exact ⟨ho.1, ho.2⟩
  · exact ⟨ho.1, ho.2⟩
  · exact ⟨ho.1, ho.2⟩
  · exact ⟨ho.1, ho.2⟩
  · exact ⟨ho.1, ho.2⟩
  · exact ⟨ho.1, ho.2⟩
  · exact ⟨Nat.lt_of_lt_of_eq ho.1 hmS.symm, ho.2⟩
  · exact ⟨Nat.lt_of_lt_of_eq ho.1 hmS.symm, ho.2⟩
  · exact ⟨Nat.lt_of_lt_of_eq ho.1 hmS.symm, ho.2⟩
  · exact ⟨Nat.lt_of_lt_of_eq ho.1 hmR.symm, ho.2⟩
  · exact ⟨Nat.lt_of_lt_of_eq ho.1 hmV.symm, ho.2⟩
  · exact ⟨Nat.lt_of_lt_of_eq ho.1 hmV.symm, ho.2⟩
  · by_cases hi : i' = i
    · subst hi
      exact ⟨Nat.lt_of_lt_of_eq ho.1 hmV.symm, by rw [g12_n hn]; have h9 := ho.2.1; omega, ho.2.2⟩
    · exact ⟨Nat.lt_of_lt_of_eq ho.1 hmV.symm, Nat.lt_of_lt_of_eq ho.2.1 (g12_n2 hi).symm, ho.2.2⟩
  · exact ⟨Nat.lt_of_lt_of_eq ho.1 hmS.symm, ho.2.1, (congrFun h18 _).trans ho.2.2⟩
  · exact ⟨Nat.lt_of_lt_of_eq ho.1 hmS.symm, Nat.lt_of_lt_of_eq ho.2.1 (hmN i').symm, ho.2.2⟩
  · exact ⟨ho.1, ho.2.1, fun hz => ho.2.2 (hnS.symm.trans hz)⟩
  · exact ⟨ho.1, ho.2.1, fun hz => ho.2.2 (hnR.symm.trans hz)⟩
  · exact ⟨ho.1, ho.2.1, fun hz => ho.2.2 (hnV.symm.trans hz)⟩
  · exact ⟨Nat.lt_of_lt_of_eq ho.1 hmS.symm, ho.2.1, fun hz => ho.2.2 ((hnN i').symm.trans hz)⟩
  · exact ⟨Nat.lt_of_lt_of_eq ho.1 hmV.symm, ho.2.1, fun hz => ho.2.2 ((hnF i').symm.trans hz)⟩
theorem mk_12 {cy : Nat → ClassId} {AD : AM} {G : GS} {μ : MU} (h : RepC cy AD G μ) {i n : Nat} {q : Nat} (hi : i < gmV G) (hn : n < 12) (hm : gmF G i = n) (hg : gnF G i = n) (hq : ∀ k' i' j', ok G k' i' j' → AD k' i' j' ≠ q) {x1 : Int32} (hc : μ q = some (.inr (2, [.int x1, .int 0, .int 0]))) : RepC cy (upA AD 12 i n q) (g12 G i n x1) μ := by
  refine h.mk (k := 12) (by decide) hq (hG_m (by decide) (hG_L (show ∀ q ∈ [36, 37, 44], own q = 12 ∧ q ∉ cntL by decide))) rfl (fun k' i' j' ho hno => g12_ok (by omega) hm ho hno) ?_ (fun k' i' j' ho hr => ?_) ?_
  · exact ⟨by decide, Nat.lt_of_lt_of_eq hi (congrArg (fun z : Nat → Int32 => (z 0).toNatClampNeg) (g12_ne (j := 52) (by decide))).symm, by rw [g12_n (by omega)]; omega, hn⟩
  · have hk := ho.1
    rcases k20 hk with rfl | rfl | rfl | rfl | rfl | rfl | rfl | rfl | rfl | rfl | rfl | rfl | rfl | rfl | rfl | rfl | rfl | rfl | rfl | rfl
    · exact absurd hr (by decide)
    · exact absurd hr (by decide)
    · exact absurd hr (by decide)
    · exact absurd hr (by decide)
    · exact absurd hr (by decide)
    · exact absurd hr (by decide)
    · exact absurd hr (by decide)
    · exact absurd hr (by decide)
    · exact absurd hr (by decide)
    · exact absurd hr (by decide)
    · exact absurd hr (by decide)
    · exact absurd hr (by decide)
    · exact absurd hr (by decide)
    · exact absurd hr (by decide)
    · exact absurd hr (by decide)
    · exact absurd hr (by decide)
    · exact absurd hr (by decide)
    · exact absurd hr (by decide)
    · exact absurd hr (by decide)
    · refine larr_cg (fun s hs => ?_)
      refine upA_ne2 (fun e => ?_)
      have h1 := e.2.1
      have h2 := e.2.2
      subst h1
      omega
  · show μ q = some (.inr (2, fiF (g12 G i n x1) (12 * i + n)))
    unfold fiF
    rw [hc, g12_at.1, g12_at.2.1, g12_at.2.2]
def g9 (G : GS) (n : Nat) (x1 : Int32) (x2 : Int32) (x3 : Int32) (x4 : Int32) (x5 : Int32) : GS := up2 (upL G (n) [(24, x1), (25, x2), (26, x3), (27, x4), (28, x5)]) 51 0 (nI (n + 1))
theorem g9_ne {G : GS} {n : Nat} {x1 x2 x3 x4 x5 : Int32} {j : Nat} (h : j ∉ [24, 25, 26, 27, 28, 51]) : (g9 G n x1 x2 x3 x4 x5) j = G j := (up2_ne (fun e => h (by rw [e]; decide))).trans (upL_a (lk_none (fun e => h (List.mem_append_left (bs := [51]) e))))
theorem g9_at {G : GS} {n : Nat} {x1 x2 x3 x4 x5 : Int32} : (g9 G n x1 x2 x3 x4 x5) 24 (n) = x1 ∧ (g9 G n x1 x2 x3 x4 x5) 25 (n) = x2 ∧ (g9 G n x1 x2 x3 x4 x5) 26 (n) = x3 ∧ (g9 G n x1 x2 x3 x4 x5) 27 (n) = x4 ∧ (g9 G n x1 x2 x3 x4 x5) 28 (n) = x5 := ⟨(congrFun (up2_ne (by decide)) _).trans (upL_v rfl), (congrFun (up2_ne (by decide)) _).trans (upL_v rfl), (congrFun (up2_ne (by decide)) _).trans (upL_v rfl), (congrFun (up2_ne (by decide)) _).trans (upL_v rfl), (congrFun (up2_ne (by decide)) _).trans (upL_v rfl)⟩
theorem g9_c {G : GS} {n : Nat} {x1 x2 x3 x4 x5 : Int32} : (g9 G n x1 x2 x3 x4 x5) 51 0 = nI (n + 1) := up2_at _ _ _ _
theorem g9_n {G : GS} {n : Nat} {x1 x2 x3 x4 x5 : Int32} (hn : n < 600) : gmR (g9 G n x1 x2 x3 x4 x5) = n + 1 := by
  unfold gmR
  rw [g9_c, nI_clamp (by omega)]
theorem g9_ok {G : GS} {n : Nat} {x1 x2 x3 x4 x5 : Int32} {k' i' j' : Nat} (hn : n < 600) (hm : gmR G = n) (ho : ok (g9 G n x1 x2 x3 x4 x5) k' i' j') (hno : ¬ (k' = 9 ∧ i' = n ∧ j' = 0)) : ok G k' i' j' := by
  obtain ⟨hk, ho⟩ := ho
  refine ⟨hk, ?_⟩
  have hmS : gmS (g9 G n x1 x2 x3 x4 x5) = gmS G := congrArg (fun z : Nat → Int32 => (z 0).toNatClampNeg) (g9_ne (j := 50) (by decide))
  have hmV : gmV (g9 G n x1 x2 x3 x4 x5) = gmV G := congrArg (fun z : Nat → Int32 => (z 0).toNatClampNeg) (g9_ne (j := 52) (by decide))
  have hnS : gnS (g9 G n x1 x2 x3 x4 x5) = gnS G := congrArg (fun z : Nat → Int32 => (z 0).toNatClampNeg) (g9_ne (j := 3) (by decide))
  have hnR : gnR (g9 G n x1 x2 x3 x4 x5) = gnR G := congrArg (fun z : Nat → Int32 => (z 0).toNatClampNeg) (g9_ne (j := 23) (by decide))
  have hnV : gnV (g9 G n x1 x2 x3 x4 x5) = gnV G := congrArg (fun z : Nat → Int32 => (z 0).toNatClampNeg) (g9_ne (j := 29) (by decide))
  have hmF : ∀ i9, gmF (g9 G n x1 x2 x3 x4 x5) i9 = gmF G i9 := fun i9 => congrArg (fun z : Nat → Int32 => (z i9).toNatClampNeg) (g9_ne (j := 53) (by decide))
  have hmN : ∀ i9, gmN (g9 G n x1 x2 x3 x4 x5) i9 = gmN G i9 := fun i9 => congrArg (fun z : Nat → Int32 => (z i9).toNatClampNeg) (g9_ne (j := 54) (by decide))
  have hnN : ∀ i9, gnN (g9 G n x1 x2 x3 x4 x5) i9 = gnN G i9 := fun i9 => congrArg (fun z : Nat → Int32 => (z i9).toNatClampNeg) (g9_ne (j := 45) (by decide))
  have hnF : ∀ i9, gnF (g9 G n x1 x2 x3 x4 x5) i9 = gnF G i9 := fun i9 => congrArg (fun z : Nat → Int32 => (z i9).toNatClampNeg) (g9_ne (j := 35) (by decide))
  have h18 : (g9 G n x1 x2 x3 x4 x5) 18 = G 18 := g9_ne (j := 18) (by decide)
  rcases k20 hk with rfl | rfl | rfl | rfl | rfl | rfl | rfl | rfl | rfl | rfl | rfl | rfl | rfl | rfl | rfl | rfl | rfl | rfl | rfl | rfl
  · exact ⟨ho.1, ho.2⟩
  · exact ⟨ho.1, ho.2⟩
  · exact ⟨ho.1, ho.2⟩
  · exact ⟨ho.1, ho.2⟩
  · exact ⟨ho.1, ho.2⟩
  · exact ⟨ho.1, ho.2⟩
  · exact ⟨Nat.lt_of_lt_of_eq ho.1 hmS, ho.2⟩
  · exact ⟨Nat.lt_of_lt_of_eq ho.1 hmS, ho.2⟩
  · exact ⟨Nat.lt_of_lt_of_eq ho.1 hmS, ho.2⟩
  · have h1 : i' < n + 1 := Nat.lt_of_lt_of_eq ho.1 (g9_n hn)
    have h2 : i' ≠ n := fun e => hno ⟨rfl, e, ho.2⟩
    exact ⟨by omega, ho.2⟩
  · exact ⟨Nat.lt_of_lt_of_eq ho.1 hmV, ho.2⟩
  · exact ⟨Nat.lt_of_lt_of_eq ho.1 hmV, ho.2⟩
  · exact ⟨Nat.lt_of_lt_of_eq ho.1 hmV, Nat.lt_of_lt_of_eq ho.2.1 (hmF i'), ho.2.2⟩
  · exact ⟨Nat.lt_of_lt_of_eq ho.1 hmS, ho.2.1, (congrFun h18 _).symm.trans ho.2.2⟩
  · exact ⟨Nat.lt_of_lt_of_eq ho.1 hmS, Nat.lt_of_lt_of_eq ho.2.1 (hmN i'), ho.2.2⟩
  · exact ⟨ho.1, ho.2.1, fun hz => ho.2.2 (hnS.trans hz)⟩
  · exact ⟨ho.1, ho.2.1, fun hz => ho.2.2 (hnR.trans hz)⟩
  · exact ⟨ho.1, ho.2.1, fun hz => ho.2.2 (hnV.trans hz)⟩
  · exact ⟨Nat.lt_of_lt_of_eq ho.1 hmS, ho.2.1, fun hz => ho.2.2 ((hnN i').trans hz)⟩
  · exact ⟨Nat.lt_of_lt_of_eq ho.1 hmV, ho.2.1, fun hz => ho.2.2 ((hnF i').trans hz)⟩
theorem g9_ok1 {G : GS} {n : Nat} {x1 x2 x3 x4 x5 : Int32} {k' i' j' : Nat} (hn : n < 600) (hm : gmR G = n) (ho : ok G k' i' j') : ok (g9 G n x1 x2 x3 x4 x5) k' i' j' := by
  obtain ⟨hk, ho⟩ := ho
  refine ⟨hk, ?_⟩
  have hmS : gmS (g9 G n x1 x2 x3 x4 x5) = gmS G := congrArg (fun z : Nat → Int32 => (z 0).toNatClampNeg) (g9_ne (j := 50) (by decide))
  have hmV : gmV (g9 G n x1 x2 x3 x4 x5) = gmV G := congrArg (fun z : Nat → Int32 => (z 0).toNatClampNeg) (g9_ne (j := 52) (by decide))
  have hnS : gnS (g9 G n x1 x2 x3 x4 x5) = gnS G := congrArg (fun z : Nat → Int32 => (z 0).toNatClampNeg) (g9_ne (j := 3) (by decide))
  have hnR : gnR (g9 G n x1 x2 x3 x4 x5) = gnR G := congrArg (fun z : Nat → Int32 => (z 0).toNatClampNeg) (g9_ne (j := 23) (by decide))
  have hnV : gnV (g9 G n x1 x2 x3 x4 x5) = gnV G := congrArg (fun z : Nat → Int32 => (z 0).toNatClampNeg) (g9_ne (j := 29) (by decide))
  have hmF : ∀ i9, gmF (g9 G n x1 x2 x3 x4 x5) i9 = gmF G i9 := fun i9 => congrArg (fun z : Nat → Int32 => (z i9).toNatClampNeg) (g9_ne (j := 53) (by decide))
  have hmN : ∀ i9, gmN (g9 G n x1 x2 x3 x4 x5) i9 = gmN G i9 := fun i9 => congrArg (fun z : Nat → Int32 => (z i9).toNatClampNeg) (g9_ne (j := 54) (by decide))
  have hnN : ∀ i9, gnN (g9 G n x1 x2 x3 x4 x5) i9 = gnN G i9 := fun i9 => congrArg (fun z : Nat → Int32 => (z i9).toNatClampNeg) (g9_ne (j := 45) (by decide))
  have hnF : ∀ i9, gnF (g9 G n x1 x2 x3 x4 x5) i9 = gnF G i9 := fun i9 => congrArg (fun z : Nat → Int32 => (z i9).toNatClampNeg) (g9_ne (j := 35) (by decide))
  have h18 : (g9 G n x1 x2 x3 x4 x5) 18 = G 18 := g9_ne (j := 18) (by decide)
  rcases k20 hk with rfl | rfl | rfl | rfl | rfl | rfl | rfl | rfl | rfl | rfl | rfl | rfl | rfl | rfl | rfl | rfl | rfl | rfl | rfl | rfl
  · exact ⟨ho.1, ho.2⟩
  · exact ⟨ho.1, ho.2⟩
  · exact ⟨ho.1, ho.2⟩
  · exact ⟨ho.1, ho.2⟩
  · exact ⟨ho.1, ho.2⟩
  · exact ⟨ho.1, ho.2⟩
  · exact ⟨Nat.lt_of_lt_of_eq ho.1 hmS.symm, ho.2⟩
  · exact ⟨Nat.lt_of_lt_of_eq ho.1 hmS.symm, ho.2⟩
  · exact ⟨Nat.lt_of_lt_of_eq ho.1 hmS.symm, ho.2⟩
  · exact ⟨by rw [g9_n hn]; have h9 := ho.1; omega, ho.2⟩
  · exact ⟨Nat.lt_of_lt_of_eq ho.1 hmV.symm, ho.2⟩
  · exact ⟨Nat.lt_of_lt_of_eq ho.1 hmV.symm, ho.2⟩
  · exact ⟨Nat.lt_of_lt_of_eq ho.1 hmV.symm, Nat.lt_of_lt_of_eq ho.2.1 (hmF i').symm, ho.2.2⟩
  · exact ⟨Nat.lt_of_lt_of_eq ho.1 hmS.symm, ho.2.1, (congrFun h18 _).trans ho.2.2⟩
  · exact ⟨Nat.lt_of_lt_of_eq ho.1 hmS.symm, Nat.lt_of_lt_of_eq ho.2.1 (hmN i').symm, ho.2.2⟩
  · exact ⟨ho.1, ho.2.1, fun hz => ho.2.2 (hnS.symm.trans hz)⟩
  · exact ⟨ho.1, ho.2.1, fun hz => ho.2.2 (hnR.symm.trans hz)⟩
  · exact ⟨ho.1, ho.2.1, fun hz => ho.2.2 (hnV.symm.trans hz)⟩
  · exact ⟨Nat.lt_of_lt_of_eq ho.1 hmS.symm, ho.2.1, fun hz => ho.2.2 ((hnN i').symm.trans hz)⟩
  · exact ⟨Nat.lt_of_lt_of_eq ho.1 hmV.symm, ho.2.1, fun hz => ho.2.2 ((hnF i').symm.trans hz)⟩
theorem mk_9 {cy : Nat → ClassId} {AD : AM} {G : GS} {μ : MU} (h : RepC cy AD G μ) {n : Nat} {q : Nat} (hn : n < 20) (hm : gmR G = n) (hg : gnR G = n) (hq : ∀ k' i' j', ok G k' i' j' → AD k' i' j' ≠ q) {x1 x2 x3 x4 x5 : Int32} (hc : μ q = some (.inr (4, [.int x1, .int x2, .int x3, .int x4, .int x5]))) : RepC cy (upA AD 9 n 0 q) (g9 G n x1 x2 x3 x4 x5) μ := by
  refine h.mk (k := 9) (by decide) hq (hG_m (by decide) (hG_L (show ∀ q ∈ [24, 25, 26, 27, 28], own q = 9 ∧ q ∉ cntL by decide))) rfl (fun k' i' j' ho hno => g9_ok (by omega) hm ho hno) ?_ (fun k' i' j' ho hr => ?_) ?_
  · exact ⟨by decide, by rw [g9_n (by omega)]; omega, rfl⟩
  · have hk := ho.1
    rcases k20 hk with rfl | rfl | rfl | rfl | rfl | rfl | rfl | rfl | rfl | rfl | rfl | rfl | rfl | rfl | rfl | rfl | rfl | rfl | rfl | rfl
    · exact absurd hr (by decide)
    · exact absurd hr (by decide)
    · exact absurd hr (by decide)
    · exact absurd hr (by decide)
    · exact absurd hr (by decide)
    · exact absurd hr (by decide)
    · exact absurd hr (by decide)
    · exact absurd hr (by decide)
    · exact absurd hr (by decide)
    · exact absurd hr (by decide)
    · exact absurd hr (by decide)
    · exact absurd hr (by decide)
    · exact absurd hr (by decide)
    · exact absurd hr (by decide)
    · exact absurd hr (by decide)
    · exact absurd hr (by decide)
    · refine larr_cg (fun s hs => ?_)
      exact upA_ne2 (fun e => by have := e.2.1; omega)
    · exact absurd hr (by decide)
    · exact absurd hr (by decide)
    · exact absurd hr (by decide)
  · show μ q = some (.inr (4, ruF (g9 G n x1 x2 x3 x4 x5) (n)))
    unfold ruF
    rw [hc, g9_at.1, g9_at.2.1, g9_at.2.2.1, g9_at.2.2.2.1, g9_at.2.2.2.2]
def g10 (G : GS) (v i1 : Nat) (x3 x4 : Int32) : GS := up2 (upL G v [(30, nI i1), (31, G 10 i1), (32, x3), (33, x4), (34, G 7 i1), (35, 0), (38, -1), (39, 0), (40, 0), (41, 0), (42, 0), (53, 0)]) 52 0 (nI (v + 1))
theorem g10_ne {G : GS} {v i1 : Nat} {x3 x4 : Int32} {j : Nat} (h : j ∉ [30, 31, 32, 33, 34, 35, 38, 39, 40, 41, 42, 53, 52]) : (g10 G v i1 x3 x4) j = G j := (up2_ne (fun e => h (by rw [e]; decide))).trans (upL_a (lk_none (fun e => h (List.mem_append_left (bs := [52]) e))))
theorem g10_x {G : GS} {v i1 : Nat} {x3 x4 : Int32} {a x : Nat} (ha : a ≠ 52) (hx : x ≠ v) : (g10 G v i1 x3 x4) a x = G a x := (congrFun (up2_ne ha) x).trans (upL_x hx)
theorem g10_at {G : GS} {v i1 : Nat} {x3 x4 : Int32} {a : Nat} {w : Int32} (ha : a ≠ 52) (h : [(30, nI i1), (31, G 10 i1), (32, x3), (33, x4), (34, G 7 i1), (35, 0), (38, -1), (39, 0), (40, 0), (41, 0), (42, 0), (53, 0)].lookup a = some w) : (g10 G v i1 x3 x4) a v = w := (congrFun (up2_ne ha) v).trans (upL_v h)
theorem g10_n {G : GS} {v i1 : Nat} {x3 x4 : Int32} (hn : v < 600) : gmV (g10 G v i1 x3 x4) = v + 1 := by
  unfold gmV
  rw [show (g10 G v i1 x3 x4) 52 0 = nI (v + 1) from up2_at _ _ _ _, nI_clamp (by omega)]
theorem g10_F {G : GS} {v i1 : Nat} {x3 x4 : Int32} : gmF (g10 G v i1 x3 x4) v = 0 := by
  unfold gmF
  rw [g10_at (by decide) rfl]
  rfl
theorem g10_nF {G : GS} {v i1 : Nat} {x3 x4 : Int32} : gnF (g10 G v i1 x3 x4) v = 0 := by
  unfold gnF
  rw [g10_at (by decide) rfl]
  rfl
theorem g10_Fx {G : GS} {v i1 : Nat} {x3 x4 : Int32} {i9 : Nat} (h : i9 ≠ v) : gmF (g10 G v i1 x3 x4) i9 = gmF G i9 := congrArg Int32.toNatClampNeg (g10_x (by decide) h)
theorem g10_nFx {G : GS} {v i1 : Nat} {x3 x4 : Int32} {i9 : Nat} (h : i9 ≠ v) : gnF (g10 G v i1 x3 x4) i9 = gnF G i9 := congrArg Int32.toNatClampNeg (g10_x (by decide) h)
theorem g10_ok {G : GS} {v i1 : Nat} {x3 x4 : Int32} {k' i' j' : Nat} (hn : v < 600) (hm : gmV G = v) (ho : ok (g10 G v i1 x3 x4) k' i' j') (h10 : ¬ (k' = 10 ∧ i' = v ∧ j' = 0)) (h11 : ¬ (k' = 11 ∧ i' = v ∧ j' = 0)) : ok G k' i' j' := by
  obtain ⟨hk, ho⟩ := ho
  refine ⟨hk, ?_⟩
  have hmS : gmS (g10 G v i1 x3 x4) = gmS G := congrArg (fun z : Nat → Int32 => (z 0).toNatClampNeg) (g10_ne (j := 50) (by decide))
  have hmR : gmR (g10 G v i1 x3 x4) = gmR G := congrArg (fun z : Nat → Int32 => (z 0).toNatClampNeg) (g10_ne (j := 51) (by decide))
  have hnS : gnS (g10 G v i1 x3 x4) = gnS G := congrArg (fun z : Nat → Int32 => (z 0).toNatClampNeg) (g10_ne (j := 3) (by decide))
  have hnR : gnR (g10 G v i1 x3 x4) = gnR G := congrArg (fun z : Nat → Int32 => (z 0).toNatClampNeg) (g10_ne (j := 23) (by decide))
  have hnV : gnV (g10 G v i1 x3 x4) = gnV G := congrArg (fun z : Nat → Int32 => (z 0).toNatClampNeg) (g10_ne (j := 29) (by decide))
  have hmN : ∀ i9, gmN (g10 G v i1 x3 x4) i9 = gmN G i9 := fun i9 => congrArg (fun z : Nat → Int32 => (z i9).toNatClampNeg) (g10_ne (j := 54) (by decide))
  have hnN : ∀ i9, gnN (g10 G v i1 x3 x4) i9 = gnN G i9 := fun i9 => congrArg (fun z : Nat → Int32 => (z i9).toNatClampNeg) (g10_ne (j := 45) (by decide))
  have h18 : (g10 G v i1 x3 x4) 18 = G 18 := g10_ne (j := 18) (by decide)
  have hmV : ∀ i9 : Nat, i9 < gmV (g10 G v i1 x3 x4) → i9 ≠ v → i9 < gmV G := fun i9 h1 h2 => by rw [g10_n hn] at h1; omega
  rcases k20 hk with rfl | rfl | rfl | rfl | rfl | rfl | rfl | rfl | rfl | rfl | rfl | rfl | rfl | rfl | rfl | rfl | rfl | rfl | rfl | rfl
  · exact ⟨ho.1, ho.2⟩
  · exact ⟨ho.1, ho.2⟩
  · exact ⟨ho.1, ho.2⟩
  · exact ⟨ho.1, ho.2⟩
  · exact ⟨ho.1, ho.2⟩
  · exact ⟨ho.1, ho.2⟩
  · exact ⟨Nat.lt_of_lt_of_eq ho.1 hmS, ho.2⟩
  · exact ⟨Nat.lt_of_lt_of_eq ho.1 hmS, ho.2⟩
  · exact ⟨Nat.lt_of_lt_of_eq ho.1 hmS, ho.2⟩
  · exact ⟨Nat.lt_of_lt_of_eq ho.1 hmR, ho.2⟩
  · exact ⟨hmV _ ho.1 (fun e => h10 ⟨rfl, e, ho.2⟩), ho.2⟩
  · exact ⟨hmV _ ho.1 (fun e => h11 ⟨rfl, e, ho.2⟩), ho.2⟩
  · have hiv : i' ≠ v := fun e => by
      have h9 := ho.2.1
      rw [e, g10_F] at h9
      omega
    exact ⟨hmV _ ho.1 hiv, Nat.lt_of_lt_of_eq ho.2.1 (g10_Fx hiv), ho.2.2⟩
  · exact ⟨Nat.lt_of_lt_of_eq ho.1 hmS, ho.2.1, (congrFun h18 _).symm.trans ho.2.2⟩
  · exact ⟨Nat.lt_of_lt_of_eq ho.1 hmS, Nat.lt_of_lt_of_eq ho.2.1 (hmN i'), ho.2.2⟩
  · exact ⟨ho.1, ho.2.1, fun hz => ho.2.2 (hnS.trans hz)⟩
  · exact ⟨ho.1, ho.2.1, fun hz => ho.2.2 (hnR.trans hz)⟩
  · exact ⟨ho.1, ho.2.1, fun hz => ho.2.2 (hnV.trans hz)⟩
  · exact ⟨Nat.lt_of_lt_of_eq ho.1 hmS, ho.2.1, fun hz => ho.2.2 ((hnN i').trans hz)⟩
  · have hiv : i' ≠ v := fun e => ho.2.2 (by rw [e]; exact g10_nF)
    exact ⟨hmV _ ho.1 hiv, ho.2.1, fun hz => ho.2.2 ((g10_nFx hiv).trans hz)⟩
theorem g10_ok1 {G : GS} {v i1 : Nat} {x3 x4 : Int32} {k' i' j' : Nat} (hn : v < 600) (hm : gmV G = v) (ho : ok G k' i' j') : ok (g10 G v i1 x3 x4) k' i' j' := by
  obtain ⟨hk, ho⟩ := ho
  refine ⟨hk, ?_⟩
  have hmS : gmS (g10 G v i1 x3 x4) = gmS G := congrArg (fun z : Nat → Int32 => (z 0).toNatClampNeg) (g10_ne (j := 50) (by decide))
  have hmR : gmR (g10 G v i1 x3 x4) = gmR G := congrArg (fun z : Nat → Int32 => (z 0).toNatClampNeg) (g10_ne (j := 51) (by decide))
  have hnS : gnS (g10 G v i1 x3 x4) = gnS G := congrArg (fun z : Nat → Int32 => (z 0).toNatClampNeg) (g10_ne (j := 3) (by decide))
  have hnR : gnR (g10 G v i1 x3 x4) = gnR G := congrArg (fun z : Nat → Int32 => (z 0).toNatClampNeg) (g10_ne (j := 23) (by decide))
  have hnV : gnV (g10 G v i1 x3 x4) = gnV G := congrArg (fun z : Nat → Int32 => (z 0).toNatClampNeg) (g10_ne (j := 29) (by decide))
  have hmN : ∀ i9, gmN (g10 G v i1 x3 x4) i9 = gmN G i9 := fun i9 => congrArg (fun z : Nat → Int32 => (z i9).toNatClampNeg) (g10_ne (j := 54) (by decide))
  have hnN : ∀ i9, gnN (g10 G v i1 x3 x4) i9 = gnN G i9 := fun i9 => congrArg (fun z : Nat → Int32 => (z i9).toNatClampNeg) (g10_ne (j := 45) (by decide))
  have h18 : (g10 G v i1 x3 x4) 18 = G 18 := g10_ne (j := 18) (by decide)
  have hmV : ∀ i9 : Nat, i9 < gmV G → i9 < gmV (g10 G v i1 x3 x4) := fun i9 h1 => by rw [g10_n hn]; omega
  rcases k20 hk with rfl | rfl | rfl | rfl | rfl | rfl | rfl | rfl | rfl | rfl | rfl | rfl | rfl | rfl | rfl | rfl | rfl | rfl | rfl | rfl
  · exact ⟨ho.1, ho.2⟩
  · exact ⟨ho.1, ho.2⟩
  · exact ⟨ho.1, ho.2⟩
  · exact ⟨ho.1, ho.2⟩
  · exact ⟨ho.1, ho.2⟩
  · exact ⟨ho.1, ho.2⟩
  · exact ⟨Nat.lt_of_lt_of_eq ho.1 hmS.symm, ho.2⟩
  · exact ⟨Nat.lt_of_lt_of_eq ho.1 hmS.symm, ho.2⟩
  · exact ⟨Nat.lt_of_lt_of_eq ho.1 hmS.symm, ho.2⟩
  · exact ⟨Nat.lt_of_lt_of_eq ho.1 hmR.symm, ho.2⟩
  · exact ⟨hmV _ ho.1, ho.2⟩
  · exact ⟨hmV _ ho.1, ho.2⟩
  · exact ⟨hmV _ ho.1, Nat.lt_of_lt_of_eq ho.2.1 (g10_Fx (by have h9 := ho.1; omega)).symm, ho.2.2⟩
  · exact ⟨Nat.lt_of_lt_of_eq ho.1 hmS.symm, ho.2.1, (congrFun h18 _).trans ho.2.2⟩
  · exact ⟨Nat.lt_of_lt_of_eq ho.1 hmS.symm, Nat.lt_of_lt_of_eq ho.2.1 (hmN i').symm, ho.2.2⟩
  · exact ⟨ho.1, ho.2.1, fun hz => ho.2.2 (hnS.symm.trans hz)⟩
  · exact ⟨ho.1, ho.2.1, fun hz => ho.2.2 (hnR.symm.trans hz)⟩
  · exact ⟨ho.1, ho.2.1, fun hz => ho.2.2 (hnV.symm.trans hz)⟩
  · exact ⟨Nat.lt_of_lt_of_eq ho.1 hmS.symm, ho.2.1, fun hz => ho.2.2 ((hnN i').symm.trans hz)⟩
  · exact ⟨hmV _ ho.1, ho.2.1, fun hz => ho.2.2 ((g10_nFx (by have h9 := ho.1; omega)).symm.trans hz)⟩
theorem g10_old {G : GS} {v i1 : Nat} {x3 x4 : Int32} {a x k' i' j' : Nat} (hm : gmV G = v) (ho : ok G k' i' j') (ha : a ∈ dep k') (hr : rel k' i' j' x) : (g10 G v i1 x3 x4) a x = G a x := by
  have hk := ho.1
  rcases k20 hk with rfl | rfl | rfl | rfl | rfl | rfl | rfl | rfl | rfl | rfl | rfl | rfl | rfl | rfl | rfl | rfl | rfl | rfl | rfl | rfl
  · exact congrFun (g10_ne ((by decide : ∀ a, a ∈ dep 0 → a ∉ [30, 31, 32, 33, 34, 35, 38, 39, 40, 41, 42, 53, 52]) a ha)) x
  · exact congrFun (g10_ne ((by decide : ∀ a, a ∈ dep 1 → a ∉ [30, 31, 32, 33, 34, 35, 38, 39, 40, 41, 42, 53, 52]) a ha)) x
  · exact congrFun (g10_ne ((by decide : ∀ a, a ∈ dep 2 → a ∉ [30, 31, 32, 33, 34, 35, 38, 39, 40, 41, 42, 53, 52]) a ha)) x
  · exact congrFun (g10_ne ((by decide : ∀ a, a ∈ dep 3 → a ∉ [30, 31, 32, 33, 34, 35, 38, 39, 40, 41, 42, 53, 52]) a ha)) x
  · exact congrFun (g10_ne ((by decide : ∀ a, a ∈ dep 4 → a ∉ [30, 31, 32, 33, 34, 35, 38, 39, 40, 41, 42, 53, 52]) a ha)) x
  · exact congrFun (g10_ne ((by decide : ∀ a, a ∈ dep 5 → a ∉ [30, 31, 32, 33, 34, 35, 38, 39, 40, 41, 42, 53, 52]) a ha)) x
  · exact congrFun (g10_ne ((by decide : ∀ a, a ∈ dep 6 → a ∉ [30, 31, 32, 33, 34, 35, 38, 39, 40, 41, 42, 53, 52]) a ha)) x
  · exact congrFun (g10_ne ((by decide : ∀ a, a ∈ dep 7 → a ∉ [30, 31, 32, 33, 34, 35, 38, 39, 40, 41, 42, 53, 52]) a ha)) x
  · exact congrFun (g10_ne ((by decide : ∀ a, a ∈ dep 8 → a ∉ [30, 31, 32, 33, 34, 35, 38, 39, 40, 41, 42, 53, 52]) a ha)) x
  · exact congrFun (g10_ne ((by decide : ∀ a, a ∈ dep 9 → a ∉ [30, 31, 32, 33, 34, 35, 38, 39, 40, 41, 42, 53, 52]) a ha)) x
  · have h9 : x = i' := hr
    have h8 := ho.2.1
    exact g10_x ((by decide : ∀ a, a ∈ dep 10 → a ≠ 52) a ha) (by omega)
  · have h9 : x = i' := hr
    have h8 := ho.2.1
    exact g10_x ((by decide : ∀ a, a ∈ dep 11 → a ≠ 52) a ha) (by omega)
  · exact congrFun (g10_ne ((by decide : ∀ a, a ∈ dep 12 → a ∉ [30, 31, 32, 33, 34, 35, 38, 39, 40, 41, 42, 53, 52]) a ha)) x
  · exact congrFun (g10_ne ((by decide : ∀ a, a ∈ dep 13 → a ∉ [30, 31, 32, 33, 34, 35, 38, 39, 40, 41, 42, 53, 52]) a ha)) x
  · exact congrFun (g10_ne ((by decide : ∀ a, a ∈ dep 14 → a ∉ [30, 31, 32, 33, 34, 35, 38, 39, 40, 41, 42, 53, 52]) a ha)) x
  · exact congrFun (g10_ne ((by decide : ∀ a, a ∈ dep 15 → a ∉ [30, 31, 32, 33, 34, 35, 38, 39, 40, 41, 42, 53, 52]) a ha)) x
  · exact congrFun (g10_ne ((by decide : ∀ a, a ∈ dep 16 → a ∉ [30, 31, 32, 33, 34, 35, 38, 39, 40, 41, 42, 53, 52]) a ha)) x
  · exact congrFun (g10_ne ((by decide : ∀ a, a ∈ dep 17 → a ∉ [30, 31, 32, 33, 34, 35, 38, 39, 40, 41, 42, 53, 52]) a ha)) x
  · exact congrFun (g10_ne ((by decide : ∀ a, a ∈ dep 18 → a ∉ [30, 31, 32, 33, 34, 35, 38, 39, 40, 41, 42, 53, 52]) a ha)) x
  · have h9 : x = i' := hr
    have h8 := ho.2.1
    exact g10_x ((by decide : ∀ a, a ∈ dep 19 → a ≠ 52) a ha) (by omega)
theorem g10_ct {cy : Nat → ClassId} {AD : AM} {G : GS} {v q la k' i' j' : Nat} (hm : gmV G = v) (hg : gnV G = v) (hre : ∀ s f, s < gmS G → (f = 11 ∨ f = 12 ∨ f = 13) → G f s = -1 ∨ (G f s).toNatClampNeg < v) (ho : ok G k' i' j') : cont cy (upA (upA AD 10 v 0 q) 11 v 0 la) G k' i' j' = cont cy AD G k' i' j' := by
  have hk := ho.1
  rcases k20 hk with rfl | rfl | rfl | rfl | rfl | rfl | rfl | rfl | rfl | rfl | rfl | rfl | rfl | rfl | rfl | rfl | rfl | rfl | rfl | rfl
  · exact ct_ad hk (fun r hr => (upA_ne (fun e => by rw [e] at hr; revert hr; decide)).trans (upA_ne (fun e => by rw [e] at hr; revert hr; decide)))
  · exact ct_ad hk (fun r hr => (upA_ne (fun e => by rw [e] at hr; revert hr; decide)).trans (upA_ne (fun e => by rw [e] at hr; revert hr; decide)))
  · exact ct_ad hk (fun r hr => (upA_ne (fun e => by rw [e] at hr; revert hr; decide)).trans (upA_ne (fun e => by rw [e] at hr; revert hr; decide)))
  · exact ct_ad hk (fun r hr => (upA_ne (fun e => by rw [e] at hr; revert hr; decide)).trans (upA_ne (fun e => by rw [e] at hr; revert hr; decide)))
  · exact ct_ad hk (fun r hr => (upA_ne (fun e => by rw [e] at hr; revert hr; decide)).trans (upA_ne (fun e => by rw [e] at hr; revert hr; decide)))
  · exact ct_ad hk (fun r hr => (upA_ne (fun e => by rw [e] at hr; revert hr; decide)).trans (upA_ne (fun e => by rw [e] at hr; revert hr; decide)))
  · have hx : ∀ f, (f = 11 ∨ f = 12 ∨ f = 13) → xr (upA (upA AD 10 v 0 q) 11 v 0 la) (G f i') = xr AD (G f i') := fun f hf => by
      unfold xr
      rcases hre i' f ho.2.1 hf with e | e
      · rw [if_pos e, if_pos e]
      · rw [upA_ne (by decide), upA_ne2 (fun e9 => by omega)]
    have h7 : (upA (upA AD 10 v 0 q) 11 v 0 la) 7 = AD 7 := (upA_ne (by decide)).trans (upA_ne (by decide))
    have h8 : (upA (upA AD 10 v 0 q) 11 v 0 la) 8 = AD 8 := (upA_ne (by decide)).trans (upA_ne (by decide))
    simp only [cont, shF, hx 11 (by decide), hx 12 (by decide), hx 13 (by decide), h7, h8]
  · exact ct_ad hk (fun r hr => (upA_ne (fun e => by rw [e] at hr; revert hr; decide)).trans (upA_ne (fun e => by rw [e] at hr; revert hr; decide)))
  · exact ct_ad hk (fun r hr => (upA_ne (fun e => by rw [e] at hr; revert hr; decide)).trans (upA_ne (fun e => by rw [e] at hr; revert hr; decide)))
  · exact ct_ad hk (fun r hr => (upA_ne (fun e => by rw [e] at hr; revert hr; decide)).trans (upA_ne (fun e => by rw [e] at hr; revert hr; decide)))
  · have h6 : (upA (upA AD 10 v 0 q) 11 v 0 la) 6 = AD 6 := (upA_ne (by decide)).trans (upA_ne (by decide))
    have h11 : (upA (upA AD 10 v 0 q) 11 v 0 la) 11 i' 0 = AD 11 i' 0 := by
      have h9 := ho.2.1
      rw [upA_ne2 (fun e => by omega), upA_ne (by decide)]
    simp only [cont, viF, h6, h11]
  · exact ct_ad hk (fun r hr => (upA_ne (fun e => by rw [e] at hr; revert hr; decide)).trans (upA_ne (fun e => by rw [e] at hr; revert hr; decide)))
  · exact ct_ad hk (fun r hr => (upA_ne (fun e => by rw [e] at hr; revert hr; decide)).trans (upA_ne (fun e => by rw [e] at hr; revert hr; decide)))
  · exact ct_ad hk (fun r hr => (upA_ne (fun e => by rw [e] at hr; revert hr; decide)).trans (upA_ne (fun e => by rw [e] at hr; revert hr; decide)))
  · exact ct_ad hk (fun r hr => (upA_ne (fun e => by rw [e] at hr; revert hr; decide)).trans (upA_ne (fun e => by rw [e] at hr; revert hr; decide)))
  · exact ct_ad hk (fun r hr => (upA_ne (fun e => by rw [e] at hr; revert hr; decide)).trans (upA_ne (fun e => by rw [e] at hr; revert hr; decide)))
  · exact ct_ad hk (fun r hr => (upA_ne (fun e => by rw [e] at hr; revert hr; decide)).trans (upA_ne (fun e => by rw [e] at hr; revert hr; decide)))
  · refine larr_cg (fun s hs => ?_)
    show (upA (upA AD 10 v 0 q) 11 v 0 la) 10 s 0 = AD 10 s 0
    rw [upA_ne (by decide), upA_ne2 (fun e => by omega)]
  · exact ct_ad hk (fun r hr => (upA_ne (fun e => by rw [e] at hr; revert hr; decide)).trans (upA_ne (fun e => by rw [e] at hr; revert hr; decide)))
  · exact ct_ad hk (fun r hr => (upA_ne (fun e => by rw [e] at hr; revert hr; decide)).trans (upA_ne (fun e => by rw [e] at hr; revert hr; decide)))
theorem mk_10 {cy : Nat → ClassId} {AD : AM} {G : GS} {μ μ1 : MU} (h : RepC cy AD G μ) {v q la i1 : Nat} (hn : v < 600) (hm : gmV G = v) (hg : gnV G = v) (hi1 : i1 < 600) (hq : μ q = none) (hla : μ la = none) (hne : q ≠ la) (hk : ∀ b, b ≠ q → b ≠ la → μ1 b = μ b) (hre : ∀ s f, s < gmS G → (f = 11 ∨ f = 12 ∨ f = 13) → G f s = -1 ∨ (G f s).toNatClampNeg < v) {x3 x4 : Int32} (hc1 : μ1 q = some (.inr (6, [.ref (AD 6 i1 0), .int (nI v), .int (G 10 i1), .int x3, .int (G 7 i1), .ref la, .int x4, .int (-1), .int 0, .int 0, .int 0, .int 0]))) (hc2 : μ1 la = some (lobj cy 0 0 0)) : RepC cy (upA (upA AD 10 v 0 q) 11 v 0 la) (g10 G v i1 x3 x4) μ1 := by
  have e10 : (upA (upA AD 10 v 0 q) 11 v 0 la) 10 v 0 = q := by rw [upA_ne (by decide), upA_eq]
  have e11 : (upA (upA AD 10 v 0 q) 11 v 0 la) 11 v 0 = la := upA_eq _ _ _ _ _
  refine h.al (fun k' i' j' => (k' = 10 ∧ i' = v ∧ j' = 0) ∨ (k' = 11 ∧ i' = v ∧ j' = 0)) (fun k' i' j' ho hn9 => ?_) (fun k' i' j' ho hn9 => ?_) (fun k1 i2 j1 k2 i3 j2 n1 n2 o1 o2 e => ?_)
  · have h10 : ¬ (k' = 10 ∧ i' = v ∧ j' = 0) := fun e => hn9 (Or.inl e)
    have h11 : ¬ (k' = 11 ∧ i' = v ∧ j' = 0) := fun e => hn9 (Or.inr e)
    have ho0 := g10_ok hn hm ho h10 h11
    exact ⟨ho0, (upA_ne2 h11).trans (upA_ne2 h10), (ct_cg ho0.1 (fun a ha x hr => g10_old hm ho0 ha hr)).trans (g10_ct hm hg hre ho0), hk _ (h.out hq ho0) (h.out hla ho0)⟩
  · rcases hn9 with ⟨e1, e2, e3⟩ | ⟨e1, e2, e3⟩
    · rw [e1, e2, e3, e10]
      refine ⟨?_, Or.inr hq⟩
      show μ1 q = some (.inr (6, viF (upA (upA AD 10 v 0 q) 11 v 0 la) (g10 G v i1 x3 x4) v))
      have hO : gnO (g10 G v i1 x3 x4) v = i1 := by
        unfold gnO
        rw [g10_at (by decide) rfl, nI_clamp (by omega)]
      have h6 : (upA (upA AD 10 v 0 q) 11 v 0 la) 6 = AD 6 := (upA_ne (by decide)).trans (upA_ne (by decide))
      unfold viF
      rw [hO, h6, e11, hc1, g10_at (a := 31) (by decide) rfl, g10_at (a := 32) (by decide) rfl, g10_at (a := 34) (by decide) rfl, g10_at (a := 33) (by decide) rfl, g10_at (a := 38) (by decide) rfl, g10_at (a := 42) (by decide) rfl, g10_at (a := 39) (by decide) rfl, g10_at (a := 40) (by decide) rfl, g10_at (a := 41) (by decide) rfl]
    · rw [e1, e2, e3, e11]
      refine ⟨?_, Or.inr hla⟩
      show μ1 la = some (lobj cy (nI (gnF (g10 G v i1 x3 x4) v)) _ (gnF (g10 G v i1 x3 x4) v))
      rw [g10_nF, hc2]
      rfl
  · rcases n1 with ⟨a1, a2, a3⟩ | ⟨a1, a2, a3⟩
    · rcases n2 with ⟨b1, b2, b3⟩ | ⟨b1, b2, b3⟩
      · exact ⟨a1.trans b1.symm, a2.trans b2.symm, a3.trans b3.symm⟩
      · rw [a1, a2, a3, b1, b2, b3, e10, e11] at e
        exact absurd e hne
    · rcases n2 with ⟨b1, b2, b3⟩ | ⟨b1, b2, b3⟩
      · rw [a1, a2, a3, b1, b2, b3, e10, e11] at e
        exact absurd e.symm hne
      · exact ⟨a1.trans b1.symm, a2.trans b2.symm, a3.trans b3.symm⟩
def clr (G : GS) (i : Nat) : GS := fun a x => if a = 18 ∧ 5 * i ≤ x ∧ x < 5 * i + 5 then 0 else G a x
theorem clr_ne {G : GS} {i a : Nat} (h : a ≠ 18) : clr G i a = G a := funext (fun x => if_neg (fun e => h e.1))
def g6 (G : GS) (i : Nat) (x2 x3 x4 x5 x6 : Int32) : GS := up2 (clr (upL G i [(4, x2), (5, x3), (6, x4), (7, x5), (8, x6), (9, 0), (10, -1), (11, -1), (12, -1), (13, -1), (14, 0), (15, 0), (16, -1), (17, 0), (45, 0), (54, 0)]) i) 50 0 (nI (i + 1))
theorem g6_ne {G : GS} {i : Nat} {x2 x3 x4 x5 x6 : Int32} {j : Nat} (h : j ∉ [4, 5, 6, 7, 8, 9, 10, 11, 12, 13, 14, 15, 16, 17, 45, 54, 50, 18]) : (g6 G i x2 x3 x4 x5 x6) j = G j := (up2_ne (fun e => h (by rw [e]; decide))).trans ((clr_ne (fun e => h (by rw [e]; decide))).trans (upL_a (lk_none (fun e => h (List.mem_append_left (bs := [50, 18]) e)))))
theorem g6_x {G : GS} {i : Nat} {x2 x3 x4 x5 x6 : Int32} {a x : Nat} (ha : a ≠ 50) (h18 : a ≠ 18) (hx : x ≠ i) : (g6 G i x2 x3 x4 x5 x6) a x = G a x := (congrFun ((up2_ne ha).trans (clr_ne h18)) x).trans (upL_x hx)
theorem g6_18 {G : GS} {i : Nat} {x2 x3 x4 x5 x6 : Int32} {s f : Nat} (hs : s ≠ i) (hf : f < 5) : (g6 G i x2 x3 x4 x5 x6) 18 (5 * s + f) = G 18 (5 * s + f) := (congrFun (up2_ne (by decide)) _).trans ((if_neg (fun e => by omega)).trans (congrFun (upL_a rfl) _))
theorem g6_18z {G : GS} {i : Nat} {x2 x3 x4 x5 x6 : Int32} {f : Nat} (hf : f < 5) : (g6 G i x2 x3 x4 x5 x6) 18 (5 * i + f) = 0 := (congrFun (up2_ne (by decide)) _).trans (if_pos ⟨rfl, by omega, by omega⟩)
theorem g6_at {G : GS} {i : Nat} {x2 x3 x4 x5 x6 : Int32} {a : Nat} {w : Int32} (ha : a ≠ 50) (h18 : a ≠ 18) (h : [(4, x2), (5, x3), (6, x4), (7, x5), (8, x6), (9, 0), (10, -1), (11, -1), (12, -1), (13, -1), (14, 0), (15, 0), (16, -1), (17, 0), (45, 0), (54, 0)].lookup a = some w) : (g6 G i x2 x3 x4 x5 x6) a i = w := (congrFun ((up2_ne ha).trans (clr_ne h18)) i).trans (upL_v h)
theorem g6_n {G : GS} {i : Nat} {x2 x3 x4 x5 x6 : Int32} (hn : i < 600) : gmS (g6 G i x2 x3 x4 x5 x6) = i + 1 := by
  unfold gmS
  rw [show (g6 G i x2 x3 x4 x5 x6) 50 0 = nI (i + 1) from up2_at _ _ _ _, nI_clamp (by omega)]
theorem g6_N {G : GS} {i : Nat} {x2 x3 x4 x5 x6 : Int32} : gmN (g6 G i x2 x3 x4 x5 x6) i = 0 := by
  unfold gmN
  rw [g6_at (by decide) (by decide) rfl]
  rfl
theorem g6_Nx {G : GS} {i : Nat} {x2 x3 x4 x5 x6 : Int32} {i9 : Nat} (h : i9 ≠ i) : gmN (g6 G i x2 x3 x4 x5 x6) i9 = gmN G i9 := congrArg Int32.toNatClampNeg (g6_x (by decide) (by decide) h)
theorem g6_nN {G : GS} {i : Nat} {x2 x3 x4 x5 x6 : Int32} : gnN (g6 G i x2 x3 x4 x5 x6) i = 0 := by
  unfold gnN
  rw [g6_at (by decide) (by decide) rfl]
  rfl
theorem g6_nNx {G : GS} {i : Nat} {x2 x3 x4 x5 x6 : Int32} {i9 : Nat} (h : i9 ≠ i) : gnN (g6 G i x2 x3 x4 x5 x6) i9 = gnN G i9 := congrArg Int32.toNatClampNeg (g6_x (by decide) (by decide) h)
theorem g6_ok {G : GS} {i : Nat} {x2 x3 x4 x5 x6 : Int32} {k' i' j' : Nat} (hn : i < 600) (hm : gmS G = i) (ho : ok (g6 G i x2 x3 x4 x5 x6) k' i' j') (hno : ¬ ((k' = 6 ∨ k' = 7 ∨ k' = 8) ∧ i' = i ∧ j' = 0)) : ok G k' i' j' := by
  obtain ⟨hk, ho⟩ := ho
  refine ⟨hk, ?_⟩
  have hmR : gmR (g6 G i x2 x3 x4 x5 x6) = gmR G := congrArg (fun z : Nat → Int32 => (z 0).toNatClampNeg) (g6_ne (j := 51) (by decide))
  have hmV : gmV (g6 G i x2 x3 x4 x5 x6) = gmV G := congrArg (fun z : Nat → Int32 => (z 0).toNatClampNeg) (g6_ne (j := 52) (by decide))
  have hnS : gnS (g6 G i x2 x3 x4 x5 x6) = gnS G := congrArg (fun z : Nat → Int32 => (z 0).toNatClampNeg) (g6_ne (j := 3) (by decide))
  have hnR : gnR (g6 G i x2 x3 x4 x5 x6) = gnR G := congrArg (fun z : Nat → Int32 => (z 0).toNatClampNeg) (g6_ne (j := 23) (by decide))
  have hnV : gnV (g6 G i x2 x3 x4 x5 x6) = gnV G := congrArg (fun z : Nat → Int32 => (z 0).toNatClampNeg) (g6_ne (j := 29) (by decide))
  have hmF : ∀ i9, gmF (g6 G i x2 x3 x4 x5 x6) i9 = gmF G i9 := fun i9 => congrArg (fun z : Nat → Int32 => (z i9).toNatClampNeg) (g6_ne (j := 53) (by decide))
  have hnF : ∀ i9, gnF (g6 G i x2 x3 x4 x5 x6) i9 = gnF G i9 := fun i9 => congrArg (fun z : Nat → Int32 => (z i9).toNatClampNeg) (g6_ne (j := 35) (by decide))
  have hmS : ∀ i9 : Nat, i9 < gmS (g6 G i x2 x3 x4 x5 x6) → i9 ≠ i → i9 < gmS G := fun i9 h1 h2 => by rw [g6_n hn] at h1; omega
  rcases k20 hk with rfl | rfl | rfl | rfl | rfl | rfl | rfl | rfl | rfl | rfl | rfl | rfl | rfl | rfl | rfl | rfl | rfl | rfl | rfl | rfl
  · exact ⟨ho.1, ho.2⟩
  · exact ⟨ho.1, ho.2⟩
  · exact ⟨ho.1, ho.2⟩
  · exact ⟨ho.1, ho.2⟩
  · exact ⟨ho.1, ho.2⟩
  · exact ⟨ho.1, ho.2⟩
  · exact ⟨hmS _ ho.1 (fun e => hno ⟨by decide, e, ho.2⟩), ho.2⟩
  · exact ⟨hmS _ ho.1 (fun e => hno ⟨by decide, e, ho.2⟩), ho.2⟩
  · exact ⟨hmS _ ho.1 (fun e => hno ⟨by decide, e, ho.2⟩), ho.2⟩
  · exact ⟨Nat.lt_of_lt_of_eq ho.1 hmR, ho.2⟩
  · exact ⟨Nat.lt_of_lt_of_eq ho.1 hmV, ho.2⟩
  · exact ⟨Nat.lt_of_lt_of_eq ho.1 hmV, ho.2⟩
  · exact ⟨Nat.lt_of_lt_of_eq ho.1 hmV, Nat.lt_of_lt_of_eq ho.2.1 (hmF i'), ho.2.2⟩
  · have hiv : i' ≠ i := fun e => by
      have h9 := ho.2.2
      rw [e, g6_18z ho.2.1] at h9
      exact absurd h9 (by decide)
    exact ⟨hmS _ ho.1 hiv, ho.2.1, (g6_18 hiv ho.2.1).symm.trans ho.2.2⟩
  · have hiv : i' ≠ i := fun e => by
      have h9 := ho.2.1
      rw [e, g6_N] at h9
      omega
    exact ⟨hmS _ ho.1 hiv, Nat.lt_of_lt_of_eq ho.2.1 (g6_Nx hiv), ho.2.2⟩
  · exact ⟨ho.1, ho.2.1, fun hz => ho.2.2 (hnS.trans hz)⟩
  · exact ⟨ho.1, ho.2.1, fun hz => ho.2.2 (hnR.trans hz)⟩
  · exact ⟨ho.1, ho.2.1, fun hz => ho.2.2 (hnV.trans hz)⟩
  · have hiv : i' ≠ i := fun e => ho.2.2 (by rw [e]; exact g6_nN)
    exact ⟨hmS _ ho.1 hiv, ho.2.1, fun hz => ho.2.2 ((g6_nNx hiv).trans hz)⟩
  · exact ⟨Nat.lt_of_lt_of_eq ho.1 hmV, ho.2.1, fun hz => ho.2.2 ((hnF i').trans hz)⟩
theorem g6_ok1 {G : GS} {i : Nat} {x2 x3 x4 x5 x6 : Int32} {k' i' j' : Nat} (hn : i < 600) (hm : gmS G = i) (ho : ok G k' i' j') : ok (g6 G i x2 x3 x4 x5 x6) k' i' j' := by
  obtain ⟨hk, ho⟩ := ho
  refine ⟨hk, ?_⟩
  have hmR : gmR (g6 G i x2 x3 x4 x5 x6) = gmR G := congrArg (fun z : Nat → Int32 => (z 0).toNatClampNeg) (g6_ne (j := 51) (by decide))
  have hmV : gmV (g6 G i x2 x3 x4 x5 x6) = gmV G := congrArg (fun z : Nat → Int32 => (z 0).toNatClampNeg) (g6_ne (j := 52) (by decide))
  have hnS : gnS (g6 G i x2 x3 x4 x5 x6) = gnS G := congrArg (fun z : Nat → Int32 => (z 0).toNatClampNeg) (g6_ne (j := 3) (by decide))
  have hnR : gnR (g6 G i x2 x3 x4 x5 x6) = gnR G := congrArg (fun z : Nat → Int32 => (z 0).toNatClampNeg) (g6_ne (j := 23) (by decide))
  have hnV : gnV (g6 G i x2 x3 x4 x5 x6) = gnV G := congrArg (fun z : Nat → Int32 => (z 0).toNatClampNeg) (g6_ne (j := 29) (by decide))
  have hmF : ∀ i9, gmF (g6 G i x2 x3 x4 x5 x6) i9 = gmF G i9 := fun i9 => congrArg (fun z : Nat → Int32 => (z i9).toNatClampNeg) (g6_ne (j := 53) (by decide))
  have hnF : ∀ i9, gnF (g6 G i x2 x3 x4 x5 x6) i9 = gnF G i9 := fun i9 => congrArg (fun z : Nat → Int32 => (z i9).toNatClampNeg) (g6_ne (j := 35) (by decide))
  have hmS : ∀ i9 : Nat, i9 < gmS G → i9 < gmS (g6 G i x2 x3 x4 x5 x6) := fun i9 h1 => by rw [g6_n hn]; omega
  rcases k20 hk with rfl | rfl | rfl | rfl | rfl | rfl | rfl | rfl | rfl | rfl | rfl | rfl | rfl | rfl | rfl | rfl | rfl | rfl | rfl | rfl
  · exact ⟨ho.1, ho.2⟩
  · exact ⟨ho.1, ho.2⟩
  · exact ⟨ho.1, ho.2⟩
  · exact ⟨ho.1, ho.2⟩
  · exact ⟨ho.1, ho.2⟩
  · exact ⟨ho.1, ho.2⟩
  · exact ⟨hmS _ ho.1, ho.2⟩
  · exact ⟨hmS _ ho.1, ho.2⟩
  · exact ⟨hmS _ ho.1, ho.2⟩
  · exact ⟨Nat.lt_of_lt_of_eq ho.1 hmR.symm, ho.2⟩
  · exact ⟨Nat.lt_of_lt_of_eq ho.1 hmV.symm, ho.2⟩
  · exact ⟨Nat.lt_of_lt_of_eq ho.1 hmV.symm, ho.2⟩
  · exact ⟨Nat.lt_of_lt_of_eq ho.1 hmV.symm, Nat.lt_of_lt_of_eq ho.2.1 (hmF i').symm, ho.2.2⟩
  · exact ⟨hmS _ ho.1, ho.2.1, (g6_18 (by have h9 := ho.1; omega) ho.2.1).trans ho.2.2⟩
  · exact ⟨hmS _ ho.1, Nat.lt_of_lt_of_eq ho.2.1 (g6_Nx (by have h9 := ho.1; omega)).symm, ho.2.2⟩
  · exact ⟨ho.1, ho.2.1, fun hz => ho.2.2 (hnS.symm.trans hz)⟩
  · exact ⟨ho.1, ho.2.1, fun hz => ho.2.2 (hnR.symm.trans hz)⟩
  · exact ⟨ho.1, ho.2.1, fun hz => ho.2.2 (hnV.symm.trans hz)⟩
  · exact ⟨hmS _ ho.1, ho.2.1, fun hz => ho.2.2 ((g6_nNx (by have h9 := ho.1; omega)).symm.trans hz)⟩
  · exact ⟨Nat.lt_of_lt_of_eq ho.1 hmV.symm, ho.2.1, fun hz => ho.2.2 ((hnF i').symm.trans hz)⟩
theorem g6_old {G : GS} {i : Nat} {x2 x3 x4 x5 x6 : Int32} {a x k' i' j' : Nat} (hm : gmS G = i) (ho : ok G k' i' j') (ha : a ∈ dep k') (hr : rel k' i' j' x) : (g6 G i x2 x3 x4 x5 x6) a x = G a x := by
  have hk := ho.1
  rcases k20 hk with rfl | rfl | rfl | rfl | rfl | rfl | rfl | rfl | rfl | rfl | rfl | rfl | rfl | rfl | rfl | rfl | rfl | rfl | rfl | rfl
  · exact congrFun (g6_ne ((by decide : ∀ a, a ∈ dep 0 → a ∉ [4, 5, 6, 7, 8, 9, 10, 11, 12, 13, 14, 15, 16, 17, 45, 54, 50, 18]) a ha)) x
  · exact congrFun (g6_ne ((by decide : ∀ a, a ∈ dep 1 → a ∉ [4, 5, 6, 7, 8, 9, 10, 11, 12, 13, 14, 15, 16, 17, 45, 54, 50, 18]) a ha)) x
  · exact congrFun (g6_ne ((by decide : ∀ a, a ∈ dep 2 → a ∉ [4, 5, 6, 7, 8, 9, 10, 11, 12, 13, 14, 15, 16, 17, 45, 54, 50, 18]) a ha)) x
  · exact congrFun (g6_ne ((by decide : ∀ a, a ∈ dep 3 → a ∉ [4, 5, 6, 7, 8, 9, 10, 11, 12, 13, 14, 15, 16, 17, 45, 54, 50, 18]) a ha)) x
  · exact congrFun (g6_ne ((by decide : ∀ a, a ∈ dep 4 → a ∉ [4, 5, 6, 7, 8, 9, 10, 11, 12, 13, 14, 15, 16, 17, 45, 54, 50, 18]) a ha)) x
  · exact congrFun (g6_ne ((by decide : ∀ a, a ∈ dep 5 → a ∉ [4, 5, 6, 7, 8, 9, 10, 11, 12, 13, 14, 15, 16, 17, 45, 54, 50, 18]) a ha)) x
  · have h9 : x = i' := hr
    have h8 := ho.2.1
    exact g6_x ((by decide : ∀ a, a ∈ dep 6 → a ≠ 50) a ha) ((by decide : ∀ a, a ∈ dep 6 → a ≠ 18) a ha) (by omega)
  · obtain ⟨f, hf, h9⟩ := (show ∃ f, f < 5 ∧ x = 5 * i' + f from hr)
    have h8 := ho.2.1
    rw [(by decide : ∀ a, a ∈ dep 7 → a = 18) a ha, h9]
    exact g6_18 (by omega) hf
  · have h9 : x = i' := hr
    have h8 := ho.2.1
    exact g6_x ((by decide : ∀ a, a ∈ dep 8 → a ≠ 50) a ha) ((by decide : ∀ a, a ∈ dep 8 → a ≠ 18) a ha) (by omega)
  · exact congrFun (g6_ne ((by decide : ∀ a, a ∈ dep 9 → a ∉ [4, 5, 6, 7, 8, 9, 10, 11, 12, 13, 14, 15, 16, 17, 45, 54, 50, 18]) a ha)) x
  · exact congrFun (g6_ne ((by decide : ∀ a, a ∈ dep 10 → a ∉ [4, 5, 6, 7, 8, 9, 10, 11, 12, 13, 14, 15, 16, 17, 45, 54, 50, 18]) a ha)) x
  · exact congrFun (g6_ne ((by decide : ∀ a, a ∈ dep 11 → a ∉ [4, 5, 6, 7, 8, 9, 10, 11, 12, 13, 14, 15, 16, 17, 45, 54, 50, 18]) a ha)) x
  · exact congrFun (g6_ne ((by decide : ∀ a, a ∈ dep 12 → a ∉ [4, 5, 6, 7, 8, 9, 10, 11, 12, 13, 14, 15, 16, 17, 45, 54, 50, 18]) a ha)) x
  · exact congrFun (g6_ne ((by decide : ∀ a, a ∈ dep 13 → a ∉ [4, 5, 6, 7, 8, 9, 10, 11, 12, 13, 14, 15, 16, 17, 45, 54, 50, 18]) a ha)) x
  · exact congrFun (g6_ne ((by decide : ∀ a, a ∈ dep 14 → a ∉ [4, 5, 6, 7, 8, 9, 10, 11, 12, 13, 14, 15, 16, 17, 45, 54, 50, 18]) a ha)) x
  · exact congrFun (g6_ne ((by decide : ∀ a, a ∈ dep 15 → a ∉ [4, 5, 6, 7, 8, 9, 10, 11, 12, 13, 14, 15, 16, 17, 45, 54, 50, 18]) a ha)) x
  · exact congrFun (g6_ne ((by decide : ∀ a, a ∈ dep 16 → a ∉ [4, 5, 6, 7, 8, 9, 10, 11, 12, 13, 14, 15, 16, 17, 45, 54, 50, 18]) a ha)) x
  · exact congrFun (g6_ne ((by decide : ∀ a, a ∈ dep 17 → a ∉ [4, 5, 6, 7, 8, 9, 10, 11, 12, 13, 14, 15, 16, 17, 45, 54, 50, 18]) a ha)) x
  · have h9 : x = i' := hr
    have h8 := ho.2.1
    exact g6_x ((by decide : ∀ a, a ∈ dep 18 → a ≠ 50) a ha) ((by decide : ∀ a, a ∈ dep 18 → a ≠ 18) a ha) (by omega)
  · exact congrFun (g6_ne ((by decide : ∀ a, a ∈ dep 19 → a ∉ [4, 5, 6, 7, 8, 9, 10, 11, 12, 13, 14, 15, 16, 17, 45, 54, 50, 18]) a ha)) x
theorem g6_ct {cy : Nat → ClassId} {AD : AM} {G : GS} {i q ca la k' i' j' : Nat} (hm : gmS G = i) (hg : gnS G = i) (hso : ∀ v, v < gmV G → gnO G v < i) (ho : ok G k' i' j') : cont cy (upA (upA (upA AD 6 i 0 q) 7 i 0 ca) 8 i 0 la) G k' i' j' = cont cy AD G k' i' j' := by
  have hk := ho.1
  rcases k20 hk with rfl | rfl | rfl | rfl | rfl | rfl | rfl | rfl | rfl | rfl | rfl | rfl | rfl | rfl | rfl | rfl | rfl | rfl | rfl | rfl
  · exact ct_ad hk (fun r hr => (upA_ne (fun e => by rw [e] at hr; revert hr; decide)).trans ((upA_ne (fun e => by rw [e] at hr; revert hr; decide)).trans (upA_ne (fun e => by rw [e] at hr; revert hr; decide))))
  · exact ct_ad hk (fun r hr => (upA_ne (fun e => by rw [e] at hr; revert hr; decide)).trans ((upA_ne (fun e => by rw [e] at hr; revert hr; decide)).trans (upA_ne (fun e => by rw [e] at hr; revert hr; decide))))
  · exact ct_ad hk (fun r hr => (upA_ne (fun e => by rw [e] at hr; revert hr; decide)).trans ((upA_ne (fun e => by rw [e] at hr; revert hr; decide)).trans (upA_ne (fun e => by rw [e] at hr; revert hr; decide))))
  · exact ct_ad hk (fun r hr => (upA_ne (fun e => by rw [e] at hr; revert hr; decide)).trans ((upA_ne (fun e => by rw [e] at hr; revert hr; decide)).trans (upA_ne (fun e => by rw [e] at hr; revert hr; decide))))
  · exact ct_ad hk (fun r hr => (upA_ne (fun e => by rw [e] at hr; revert hr; decide)).trans ((upA_ne (fun e => by rw [e] at hr; revert hr; decide)).trans (upA_ne (fun e => by rw [e] at hr; revert hr; decide))))
  · exact ct_ad hk (fun r hr => (upA_ne (fun e => by rw [e] at hr; revert hr; decide)).trans ((upA_ne (fun e => by rw [e] at hr; revert hr; decide)).trans (upA_ne (fun e => by rw [e] at hr; revert hr; decide))))
  · have h9 := ho.2.1
    have h7 : (upA (upA (upA AD 6 i 0 q) 7 i 0 ca) 8 i 0 la) 7 i' 0 = AD 7 i' 0 := by rw [upA_ne (by decide), upA_ne2 (fun e => by omega), upA_ne (by decide)]
    have h8 : (upA (upA (upA AD 6 i 0 q) 7 i 0 ca) 8 i 0 la) 8 i' 0 = AD 8 i' 0 := by rw [upA_ne2 (fun e => by omega), upA_ne (by decide), upA_ne (by decide)]
    have h10 : (upA (upA (upA AD 6 i 0 q) 7 i 0 ca) 8 i 0 la) 10 = AD 10 := (upA_ne (by decide)).trans ((upA_ne (by decide)).trans (upA_ne (by decide)))
    simp only [cont, shF, xr, h7, h8, h10]
  · exact ct_ad hk (fun r hr => (upA_ne (fun e => by rw [e] at hr; revert hr; decide)).trans ((upA_ne (fun e => by rw [e] at hr; revert hr; decide)).trans (upA_ne (fun e => by rw [e] at hr; revert hr; decide))))
  · exact ct_ad hk (fun r hr => (upA_ne (fun e => by rw [e] at hr; revert hr; decide)).trans ((upA_ne (fun e => by rw [e] at hr; revert hr; decide)).trans (upA_ne (fun e => by rw [e] at hr; revert hr; decide))))
  · exact ct_ad hk (fun r hr => (upA_ne (fun e => by rw [e] at hr; revert hr; decide)).trans ((upA_ne (fun e => by rw [e] at hr; revert hr; decide)).trans (upA_ne (fun e => by rw [e] at hr; revert hr; decide))))
  · have h6 : (upA (upA (upA AD 6 i 0 q) 7 i 0 ca) 8 i 0 la) 6 (gnO G i') 0 = AD 6 (gnO G i') 0 := by
      have h9 := hso i' ho.2.1
      rw [upA_ne (by decide), upA_ne (by decide), upA_ne2 (fun e => by omega)]
    have h11 : (upA (upA (upA AD 6 i 0 q) 7 i 0 ca) 8 i 0 la) 11 = AD 11 := (upA_ne (by decide)).trans ((upA_ne (by decide)).trans (upA_ne (by decide)))
    simp only [cont, viF, h6, h11]
  · exact ct_ad hk (fun r hr => (upA_ne (fun e => by rw [e] at hr; revert hr; decide)).trans ((upA_ne (fun e => by rw [e] at hr; revert hr; decide)).trans (upA_ne (fun e => by rw [e] at hr; revert hr; decide))))
  · exact ct_ad hk (fun r hr => (upA_ne (fun e => by rw [e] at hr; revert hr; decide)).trans ((upA_ne (fun e => by rw [e] at hr; revert hr; decide)).trans (upA_ne (fun e => by rw [e] at hr; revert hr; decide))))
  · exact ct_ad hk (fun r hr => (upA_ne (fun e => by rw [e] at hr; revert hr; decide)).trans ((upA_ne (fun e => by rw [e] at hr; revert hr; decide)).trans (upA_ne (fun e => by rw [e] at hr; revert hr; decide))))
  · exact ct_ad hk (fun r hr => (upA_ne (fun e => by rw [e] at hr; revert hr; decide)).trans ((upA_ne (fun e => by rw [e] at hr; revert hr; decide)).trans (upA_ne (fun e => by rw [e] at hr; revert hr; decide))))
  · refine larr_cg (fun s hs => ?_)
    show (upA (upA (upA AD 6 i 0 q) 7 i 0 ca) 8 i 0 la) 6 s 0 = AD 6 s 0
    rw [upA_ne (by decide), upA_ne (by decide), upA_ne2 (fun e => by omega)]
  · exact ct_ad hk (fun r hr => (upA_ne (fun e => by rw [e] at hr; revert hr; decide)).trans ((upA_ne (fun e => by rw [e] at hr; revert hr; decide)).trans (upA_ne (fun e => by rw [e] at hr; revert hr; decide))))
  · exact ct_ad hk (fun r hr => (upA_ne (fun e => by rw [e] at hr; revert hr; decide)).trans ((upA_ne (fun e => by rw [e] at hr; revert hr; decide)).trans (upA_ne (fun e => by rw [e] at hr; revert hr; decide))))
  · exact ct_ad hk (fun r hr => (upA_ne (fun e => by rw [e] at hr; revert hr; decide)).trans ((upA_ne (fun e => by rw [e] at hr; revert hr; decide)).trans (upA_ne (fun e => by rw [e] at hr; revert hr; decide))))
  · exact ct_ad hk (fun r hr => (upA_ne (fun e => by rw [e] at hr; revert hr; decide)).trans ((upA_ne (fun e => by rw [e] at hr; revert hr; decide)).trans (upA_ne (fun e => by rw [e] at hr; revert hr; decide))))
theorem mk_6 {cy : Nat → ClassId} {AD : AM} {G : GS} {μ μ1 : MU} (h : RepC cy AD G μ) {i q ca la : Nat} (hn : i < 600) (hm : gmS G = i) (hg : gnS G = i) (hq : μ q = none) (hca : μ ca = none) (hla : μ la = none) (hqc : q ≠ ca) (hql : q ≠ la) (hcl : ca ≠ la) (hk : ∀ b, b ≠ q → b ≠ ca → b ≠ la → μ1 b = μ b) (hso : ∀ v, v < gmV G → gnO G v < i) {x2 x3 x4 x5 x6 : Int32} (hc1 : μ1 q = some (.inr (5, [.int (nI i), .int x2, .int x3, .int x4, .ref ca, .ref la, .int x5, .int x6, .int 0, .int (-1), .null, .null, .null, .int 0, .int 0, .int (-1), .int 0]))) (hc2 : μ1 ca = some (.inl (cy 2, 5, .inr (.inr (.inr (.inr (fun _ => none))))))) (hc3 : μ1 la = some (lobj cy 0 0 0)) : RepC cy (upA (upA (upA AD 6 i 0 q) 7 i 0 ca) 8 i 0 la) (g6 G i x2 x3 x4 x5 x6) μ1 := by
  have e6 : (upA (upA (upA AD 6 i 0 q) 7 i 0 ca) 8 i 0 la) 6 i 0 = q := by rw [upA_ne (by decide), upA_ne (by decide), upA_eq]
  have e7 : (upA (upA (upA AD 6 i 0 q) 7 i 0 ca) 8 i 0 la) 7 i 0 = ca := by rw [upA_ne (by decide), upA_eq]
  have e8 : (upA (upA (upA AD 6 i 0 q) 7 i 0 ca) 8 i 0 la) 8 i 0 = la := upA_eq _ _ _ _ _
  refine h.al (fun k' i' j' => (k' = 6 ∨ k' = 7 ∨ k' = 8) ∧ i' = i ∧ j' = 0) (fun k' i' j' ho hn9 => ?_) (fun k' i' j' ho hn9 => ?_) (fun k1 i2 j1 k2 i3 j2 n1 n2 o1 o2 e => ?_)
  · have ho0 := g6_ok hn hm ho hn9
    exact ⟨ho0, (upA_ne2 (fun e => hn9 ⟨Or.inr (Or.inr e.1), e.2⟩)).trans ((upA_ne2 (fun e => hn9 ⟨Or.inr (Or.inl e.1), e.2⟩)).trans (upA_ne2 (fun e => hn9 ⟨Or.inl e.1, e.2⟩))), (ct_cg ho0.1 (fun a ha x hr => g6_old hm ho0 ha hr)).trans (g6_ct hm hg hso ho0), hk _ (h.out hq ho0) (h.out hca ho0) (h.out hla ho0)⟩
  · rcases hn9 with ⟨e1 | e1 | e1, e2, e3⟩
    · rw [e1, e2, e3, e6]
      refine ⟨?_, Or.inr hq⟩
      show μ1 q = some (.inr (5, shF (upA (upA (upA AD 6 i 0 q) 7 i 0 ca) 8 i 0 la) (g6 G i x2 x3 x4 x5 x6) i))
      have h9 : ∀ f, (f = 11 ∨ f = 12 ∨ f = 13) → xr (upA (upA (upA AD 6 i 0 q) 7 i 0 ca) 8 i 0 la) (g6 G i x2 x3 x4 x5 x6 f i) = none := fun f hf => if_pos (by rcases hf with rfl | rfl | rfl <;> exact g6_at (by decide) (by decide) rfl)
      unfold shF
      rw [e7, e8, h9 11 (by decide), h9 12 (by decide), h9 13 (by decide), hc1, g6_at (a := 4) (by decide) (by decide) rfl, g6_at (a := 5) (by decide) (by decide) rfl, g6_at (a := 6) (by decide) (by decide) rfl, g6_at (a := 7) (by decide) (by decide) rfl, g6_at (a := 8) (by decide) (by decide) rfl, g6_at (a := 9) (by decide) (by decide) rfl, g6_at (a := 10) (by decide) (by decide) rfl, g6_at (a := 14) (by decide) (by decide) rfl, g6_at (a := 15) (by decide) (by decide) rfl, g6_at (a := 16) (by decide) (by decide) rfl, g6_at (a := 17) (by decide) (by decide) rfl]
      rfl
    · rw [e1, e2, e3, e7]
      refine ⟨?_, Or.inr hca⟩
      show μ1 ca = some (.inl (cy 2, 5, .inr (.inr (.inr (.inr (caF (upA (upA (upA AD 6 i 0 q) 7 i 0 ca) 8 i 0 la) (g6 G i x2 x3 x4 x5 x6) i))))))
      rw [hc2, show caF (upA (upA (upA AD 6 i 0 q) 7 i 0 ca) 8 i 0 la) (g6 G i x2 x3 x4 x5 x6) i = fun _ => none from funext (fun f => by
        unfold caF
        split
        · rename_i hf
          rw [g6_18z hf]
          exact if_neg (by decide)
        · rfl)]
    · rw [e1, e2, e3, e8]
      refine ⟨?_, Or.inr hla⟩
      show μ1 la = some (lobj cy (nI (gnN (g6 G i x2 x3 x4 x5 x6) i)) _ (gnN (g6 G i x2 x3 x4 x5 x6) i))
      rw [g6_nN, hc3]
      rfl
  · rcases n1 with ⟨a1 | a1 | a1, a2, a3⟩
    · rcases n2 with ⟨b1 | b1 | b1, b2, b3⟩
      · exact ⟨a1.trans b1.symm, a2.trans b2.symm, a3.trans b3.symm⟩
      · rw [a1, a2, a3, b1, b2, b3, e6, e7] at e
        exact absurd e hqc
      · rw [a1, a2, a3, b1, b2, b3, e6, e8] at e
        exact absurd e hql
    · rcases n2 with ⟨b1 | b1 | b1, b2, b3⟩
      · rw [a1, a2, a3, b1, b2, b3, e7, e6] at e
        exact absurd e (Ne.symm hqc)
      · exact ⟨a1.trans b1.symm, a2.trans b2.symm, a3.trans b3.symm⟩
      · rw [a1, a2, a3, b1, b2, b3, e7, e8] at e
        exact absurd e hcl
    · rcases n2 with ⟨b1 | b1 | b1, b2, b3⟩
      · rw [a1, a2, a3, b1, b2, b3, e8, e6] at e
        exact absurd e (Ne.symm hql)
      · rw [a1, a2, a3, b1, b2, b3, e8, e7] at e
        exact absurd e (Ne.symm hcl)
      · exact ⟨a1.trans b1.symm, a2.trans b2.symm, a3.trans b3.symm⟩
def g13 (G : GS) (i f : Nat) (b d t : Int32) : GS := upL G (5 * i + f) [(18, 1), (19, d), (20, t), (21, b), (22, 0)]
theorem g13_ne {G : GS} {i f : Nat} {b d t : Int32} {j : Nat} (h : j ∉ [18, 19, 20, 21, 22]) : (g13 G i f b d t) j = G j := upL_a (lk_none h)
theorem g13_x {G : GS} {i f : Nat} {b d t : Int32} {a x : Nat} (hx : x ≠ 5 * i + f) : (g13 G i f b d t) a x = G a x := upL_x hx
theorem g13_at {G : GS} {i f : Nat} {b d t : Int32} {a : Nat} {w : Int32} (h : [(18, 1), (19, d), (20, t), (21, b), (22, 0)].lookup a = some w) : (g13 G i f b d t) a (5 * i + f) = w := upL_v h
theorem g13_ok {G : GS} {i f : Nat} {b d t : Int32} {k' i' j' : Nat} (hf : f < 5) (ho : ok (g13 G i f b d t) k' i' j') (hno : ¬ (k' = 13 ∧ i' = i ∧ j' = f)) : ok G k' i' j' := by
  obtain ⟨hk, ho⟩ := ho
  refine ⟨hk, ?_⟩
  have hmS : gmS (g13 G i f b d t) = gmS G := congrArg (fun z : Nat → Int32 => (z 0).toNatClampNeg) (g13_ne (j := 50) (by decide))
  have hmR : gmR (g13 G i f b d t) = gmR G := congrArg (fun z : Nat → Int32 => (z 0).toNatClampNeg) (g13_ne (j := 51) (by decide))
  have hmV : gmV (g13 G i f b d t) = gmV G := congrArg (fun z : Nat → Int32 => (z 0).toNatClampNeg) (g13_ne (j := 52) (by decide))
  have hnS : gnS (g13 G i f b d t) = gnS G := congrArg (fun z : Nat → Int32 => (z 0).toNatClampNeg) (g13_ne (j := 3) (by decide))
  have hnR : gnR (g13 G i f b d t) = gnR G := congrArg (fun z : Nat → Int32 => (z 0).toNatClampNeg) (g13_ne (j := 23) (by decide))
  have hnV : gnV (g13 G i f b d t) = gnV G := congrArg (fun z : Nat → Int32 => (z 0).toNatClampNeg) (g13_ne (j := 29) (by decide))
  have hmF : ∀ i9, gmF (g13 G i f b d t) i9 = gmF G i9 := fun i9 => congrArg (fun z : Nat → Int32 => (z i9).toNatClampNeg) (g13_ne (j := 53) (by decide))
  have hmN : ∀ i9, gmN (g13 G i f b d t) i9 = gmN G i9 := fun i9 => congrArg (fun z : Nat → Int32 => (z i9).toNatClampNeg) (g13_ne (j := 54) (by decide))
  have hnN : ∀ i9, gnN (g13 G i f b d t) i9 = gnN G i9 := fun i9 => congrArg (fun z : Nat → Int32 => (z i9).toNatClampNeg) (g13_ne (j := 45) (by decide))
  have hnF : ∀ i9, gnF (g13 G i f b d t) i9 = gnF G i9 := fun i9 => congrArg (fun z : Nat → Int32 => (z i9).toNatClampNeg) (g13_ne (j := 35) (by decide))
  rcases k20 hk with rfl | rfl | rfl | rfl | rfl | rfl | rfl | rfl | rfl | rfl | rfl | rfl | rfl | rfl | rfl | rfl | rfl | rfl | rfl | rfl
  · exact ⟨ho.1, ho.2⟩
  · exact ⟨ho.1, ho.2⟩
  · exact ⟨ho.1, ho.2⟩
  · exact ⟨ho.1, ho.2⟩
  · exact ⟨ho.1, ho.2⟩
  · exact ⟨ho.1, ho.2⟩
  · exact ⟨Nat.lt_of_lt_of_eq ho.1 hmS, ho.2⟩
  · exact ⟨Nat.lt_of_lt_of_eq ho.1 hmS, ho.2⟩
  · exact ⟨Nat.lt_of_lt_of_eq ho.1 hmS, ho.2⟩
  · exact ⟨Nat.lt_of_lt_of_eq ho.1 hmR, ho.2⟩
  · exact ⟨Nat.lt_of_lt_of_eq ho.1 hmV, ho.2⟩
  · exact ⟨Nat.lt_of_lt_of_eq ho.1 hmV, ho.2⟩
  · exact ⟨Nat.lt_of_lt_of_eq ho.1 hmV, Nat.lt_of_lt_of_eq ho.2.1 (hmF i'), ho.2.2⟩
  · exact ⟨Nat.lt_of_lt_of_eq ho.1 hmS, ho.2.1, (g13_x (fun e => hno ⟨rfl, by have h9 := ho.2.1; omega, by have h9 := ho.2.1; omega⟩)).symm.trans ho.2.2⟩
  · exact ⟨Nat.lt_of_lt_of_eq ho.1 hmS, Nat.lt_of_lt_of_eq ho.2.1 (hmN i'), ho.2.2⟩
  · exact ⟨ho.1, ho.2.1, fun hz => ho.2.2 (hnS.trans hz)⟩
  · exact ⟨ho.1, ho.2.1, fun hz => ho.2.2 (hnR.trans hz)⟩
  · exact ⟨ho.1, ho.2.1, fun hz => ho.2.2 (hnV.trans hz)⟩
  · exact ⟨Nat.lt_of_lt_of_eq ho.1 hmS, ho.2.1, fun hz => ho.2.2 ((hnN i').trans hz)⟩
  · exact ⟨Nat.lt_of_lt_of_eq ho.1 hmV, ho.2.1, fun hz => ho.2.2 ((hnF i').trans hz)⟩
theorem g13_ok1 {G : GS} {i f : Nat} {b d t : Int32} {k' i' j' : Nat} (hf : f < 5) (ho : ok G k' i' j') : ok (g13 G i f b d t) k' i' j' := by
  obtain ⟨hk, ho⟩ := ho
  refine ⟨hk, ?_⟩
  have hmS : gmS (g13 G i f b d t) = gmS G := congrArg (fun z : Nat → Int32 => (z 0).toNatClampNeg) (g13_ne (j := 50) (by decide))
  have hmR : gmR (g13 G i f b d t) = gmR G := congrArg (fun z : Nat → Int32 => (z 0).toNatClampNeg) (g13_ne (j := 51) (by decide))
  have hmV : gmV (g13 G i f b d t) = gmV G := congrArg (fun z : Nat → Int32 => (z 0).toNatClampNeg) (g13_ne (j := 52) (by decide))
  have hnS : gnS (g13 G i f b d t) = gnS G := congrArg (fun z : Nat → Int32 => (z 0).toNatClampNeg) (g13_ne (j := 3) (by decide))
  have hnR : gnR (g13 G i f b d t) = gnR G := congrArg (fun z : Nat → Int32 => (z 0).toNatClampNeg) (g13_ne (j := 23) (by decide))
  have hnV : gnV (g13 G i f b d t) = gnV G := congrArg (fun z : Nat → Int32 => (z 0).toNatClampNeg) (g13_ne (j := 29) (by decide))
  have hmF : ∀ i9, gmF (g13 G i f b d t) i9 = gmF G i9 := fun i9 => congrArg (fun z : Nat → Int32 => (z i9).toNatClampNeg) (g13_ne (j := 53) (by decide))
  have hmN : ∀ i9, gmN (g13 G i f b d t) i9 = gmN G i9 := fun i9 => congrArg (fun z : Nat → Int32 => (z i9).toNatClampNeg) (g13_ne (j := 54) (by decide))
  have hnN : ∀ i9, gnN (g13 G i f b d t) i9 = gnN G i9 := fun i9 => congrArg (fun z : Nat → Int32 => (z i9).toNatClampNeg) (g13_ne (j := 45) (by decide))
  have hnF : ∀ i9, gnF (g13 G i f b d t) i9 = gnF G i9 := fun i9 => congrArg (fun z : Nat → Int32 => (z i9).toNatClampNeg) (g13_ne (j := 35) (by decide))
  rcases k20 hk with rfl | rfl | rfl | rfl | rfl | rfl | rfl | rfl | rfl | rfl | rfl | rfl | rfl | rfl | rfl | rfl | rfl | rfl | rfl | rfl
  · exact ⟨ho.1, ho.2⟩
  · exact ⟨ho.1, ho.2⟩
  · exact ⟨ho.1, ho.2⟩
  · exact ⟨ho.1, ho.2⟩
  · exact ⟨ho.1, ho.2⟩
  · exact ⟨ho.1, ho.2⟩
  · exact ⟨Nat.lt_of_lt_of_eq ho.1 hmS.symm, ho.2⟩
  · exact ⟨Nat.lt_of_lt_of_eq ho.1 hmS.symm, ho.2⟩
  · exact ⟨Nat.lt_of_lt_of_eq ho.1 hmS.symm, ho.2⟩
  · exact ⟨Nat.lt_of_lt_of_eq ho.1 hmR.symm, ho.2⟩
  · exact ⟨Nat.lt_of_lt_of_eq ho.1 hmV.symm, ho.2⟩
  · exact ⟨Nat.lt_of_lt_of_eq ho.1 hmV.symm, ho.2⟩
  · exact ⟨Nat.lt_of_lt_of_eq ho.1 hmV.symm, Nat.lt_of_lt_of_eq ho.2.1 (hmF i').symm, ho.2.2⟩
  · refine ⟨Nat.lt_of_lt_of_eq ho.1 hmS.symm, ho.2.1, ?_⟩
    by_cases e : 5 * i' + j' = 5 * i + f
    · rw [e]
      exact g13_at rfl
    · exact (g13_x e).trans ho.2.2
  · exact ⟨Nat.lt_of_lt_of_eq ho.1 hmS.symm, Nat.lt_of_lt_of_eq ho.2.1 (hmN i').symm, ho.2.2⟩
  · exact ⟨ho.1, ho.2.1, fun hz => ho.2.2 (hnS.symm.trans hz)⟩
  · exact ⟨ho.1, ho.2.1, fun hz => ho.2.2 (hnR.symm.trans hz)⟩
  · exact ⟨ho.1, ho.2.1, fun hz => ho.2.2 (hnV.symm.trans hz)⟩
  · exact ⟨Nat.lt_of_lt_of_eq ho.1 hmS.symm, ho.2.1, fun hz => ho.2.2 ((hnN i').symm.trans hz)⟩
  · exact ⟨Nat.lt_of_lt_of_eq ho.1 hmV.symm, ho.2.1, fun hz => ho.2.2 ((hnF i').symm.trans hz)⟩
theorem g13_old {G : GS} {i f : Nat} {b d t : Int32} {a x k' i' j' : Nat} (hf : f < 5) (ho : ok G k' i' j') (h7 : ¬ (k' = 7 ∧ i' = i ∧ j' = 0)) (h13 : ¬ (k' = 13 ∧ i' = i ∧ j' = f)) (ha : a ∈ dep k') (hr : rel k' i' j' x) : (g13 G i f b d t) a x = G a x := by
  have hk := ho.1
  rcases k20 hk with rfl | rfl | rfl | rfl | rfl | rfl | rfl | rfl | rfl | rfl | rfl | rfl | rfl | rfl | rfl | rfl | rfl | rfl | rfl | rfl
  · exact congrFun (g13_ne ((by decide : ∀ a, a ∈ dep 0 → a ∉ [18, 19, 20, 21, 22]) a ha)) x
  · exact congrFun (g13_ne ((by decide : ∀ a, a ∈ dep 1 → a ∉ [18, 19, 20, 21, 22]) a ha)) x
  · exact congrFun (g13_ne ((by decide : ∀ a, a ∈ dep 2 → a ∉ [18, 19, 20, 21, 22]) a ha)) x
  · exact congrFun (g13_ne ((by decide : ∀ a, a ∈ dep 3 → a ∉ [18, 19, 20, 21, 22]) a ha)) x
  · exact congrFun (g13_ne ((by decide : ∀ a, a ∈ dep 4 → a ∉ [18, 19, 20, 21, 22]) a ha)) x
  · exact congrFun (g13_ne ((by decide : ∀ a, a ∈ dep 5 → a ∉ [18, 19, 20, 21, 22]) a ha)) x
  · exact congrFun (g13_ne ((by decide : ∀ a, a ∈ dep 6 → a ∉ [18, 19, 20, 21, 22]) a ha)) x
  · obtain ⟨f9, hf9, h9⟩ := (show ∃ f, f < 5 ∧ x = 5 * i' + f from hr)
    exact g13_x (fun e => h7 ⟨rfl, by omega, ho.2.2⟩)
  · exact congrFun (g13_ne ((by decide : ∀ a, a ∈ dep 8 → a ∉ [18, 19, 20, 21, 22]) a ha)) x
  · exact congrFun (g13_ne ((by decide : ∀ a, a ∈ dep 9 → a ∉ [18, 19, 20, 21, 22]) a ha)) x
  · exact congrFun (g13_ne ((by decide : ∀ a, a ∈ dep 10 → a ∉ [18, 19, 20, 21, 22]) a ha)) x
  · exact congrFun (g13_ne ((by decide : ∀ a, a ∈ dep 11 → a ∉ [18, 19, 20, 21, 22]) a ha)) x
  · exact congrFun (g13_ne ((by decide : ∀ a, a ∈ dep 12 → a ∉ [18, 19, 20, 21, 22]) a ha)) x
  · have h9 : x = 5 * i' + j' := hr
    have h8 := ho.2.2.1
    exact g13_x (fun e => h13 ⟨rfl, by omega, by omega⟩)
  · exact congrFun (g13_ne ((by decide : ∀ a, a ∈ dep 14 → a ∉ [18, 19, 20, 21, 22]) a ha)) x
  · exact congrFun (g13_ne ((by decide : ∀ a, a ∈ dep 15 → a ∉ [18, 19, 20, 21, 22]) a ha)) x
  · exact congrFun (g13_ne ((by decide : ∀ a, a ∈ dep 16 → a ∉ [18, 19, 20, 21, 22]) a ha)) x
  · exact congrFun (g13_ne ((by decide : ∀ a, a ∈ dep 17 → a ∉ [18, 19, 20, 21, 22]) a ha)) x
  · exact congrFun (g13_ne ((by decide : ∀ a, a ∈ dep 18 → a ∉ [18, 19, 20, 21, 22]) a ha)) x
  · exact congrFun (g13_ne ((by decide : ∀ a, a ∈ dep 19 → a ∉ [18, 19, 20, 21, 22]) a ha)) x
theorem g13_ct {cy : Nat → ClassId} {AD : AM} {G : GS} {i f q k' i' j' : Nat} (h7 : ¬ (k' = 7 ∧ i' = i ∧ j' = 0)) (ho : ok G k' i' j') : cont cy (upA AD 13 i f q) G k' i' j' = cont cy AD G k' i' j' := by
  have hk := ho.1
  rcases k20 hk with rfl | rfl | rfl | rfl | rfl | rfl | rfl | rfl | rfl | rfl | rfl | rfl | rfl | rfl | rfl | rfl | rfl | rfl | rfl | rfl
  · exact ct_ad hk (fun r hr => upA_ne (fun e => by rw [e] at hr; revert hr; decide))
  · exact ct_ad hk (fun r hr => upA_ne (fun e => by rw [e] at hr; revert hr; decide))
  · exact ct_ad hk (fun r hr => upA_ne (fun e => by rw [e] at hr; revert hr; decide))
  · exact ct_ad hk (fun r hr => upA_ne (fun e => by rw [e] at hr; revert hr; decide))
  · exact ct_ad hk (fun r hr => upA_ne (fun e => by rw [e] at hr; revert hr; decide))
  · exact ct_ad hk (fun r hr => upA_ne (fun e => by rw [e] at hr; revert hr; decide))
  · exact ct_ad hk (fun r hr => upA_ne (fun e => by rw [e] at hr; revert hr; decide))
  · have h9 : i' ≠ i := fun e => h7 ⟨rfl, e, ho.2.2⟩
    have e : caF (upA AD 13 i f q) G i' = caF AD G i' := funext (fun f9 => by
      unfold caF
      rw [upA_ne2 (fun e => h9 e.2.1)])
    simp only [cont, e]
  · exact ct_ad hk (fun r hr => upA_ne (fun e => by rw [e] at hr; revert hr; decide))
  · exact ct_ad hk (fun r hr => upA_ne (fun e => by rw [e] at hr; revert hr; decide))
  · exact ct_ad hk (fun r hr => upA_ne (fun e => by rw [e] at hr; revert hr; decide))
  · exact ct_ad hk (fun r hr => upA_ne (fun e => by rw [e] at hr; revert hr; decide))
  · exact ct_ad hk (fun r hr => upA_ne (fun e => by rw [e] at hr; revert hr; decide))
  · exact ct_ad hk (fun r hr => upA_ne (fun e => by rw [e] at hr; revert hr; decide))
  · exact ct_ad hk (fun r hr => upA_ne (fun e => by rw [e] at hr; revert hr; decide))
  · exact ct_ad hk (fun r hr => upA_ne (fun e => by rw [e] at hr; revert hr; decide))
  · exact ct_ad hk (fun r hr => upA_ne (fun e => by rw [e] at hr; revert hr; decide))
  · exact ct_ad hk (fun r hr => upA_ne (fun e => by rw [e] at hr; revert hr; decide))
  · exact ct_ad hk (fun r hr => upA_ne (fun e => by rw [e] at hr; revert hr; decide))
  · exact ct_ad hk (fun r hr => upA_ne (fun e => by rw [e] at hr; revert hr; decide))
theorem mk_13 {cy : Nat → ClassId} {AD : AM} {G : GS} {μ μ0 : MU} (h : RepC cy AD G μ0) {i f q : Nat} (hi : i < gmS G) (hf : f < 5) (hq : μ0 q = none) (hk : ∀ b, b ≠ q → μ b = μ0 b) {b d t : Int32} (hc : μ q = some (.inr (1, [.int b, .int d, .int t, .int 0]))) : RepC cy (upA AD 13 i f q) (g13 G i f b d t) (mset μ (AD 7 i 0) (.inl (cy 2, 5, .inr (.inr (.inr (.inr (va_up (caF AD G i) f (some q)))))))) := by
  have o7 : ok G 7 i 0 := ⟨by decide, hi, rfl⟩
  have h7q : AD 7 i 0 ≠ q := h.out hq o7
  have e7 : (upA AD 13 i f q) 7 i 0 = AD 7 i 0 := by rw [upA_ne (by decide)]
  have e13 : (upA AD 13 i f q) 13 i f = q := upA_eq _ _ _ _ _
  refine h.al (fun k' i' j' => (k' = 7 ∧ i' = i ∧ j' = 0) ∨ (k' = 13 ∧ i' = i ∧ j' = f)) (fun k' i' j' ho hn9 => ?_) (fun k' i' j' ho hn9 => ?_) (fun k1 i2 j1 k2 i3 j2 n1 n2 o1 o2 e => ?_)
  · have n7 : ¬ (k' = 7 ∧ i' = i ∧ j' = 0) := fun e => hn9 (Or.inl e)
    have n13 : ¬ (k' = 13 ∧ i' = i ∧ j' = f) := fun e => hn9 (Or.inr e)
    have ho0 := g13_ok hf ho n13
    exact ⟨ho0, upA_ne2 n13, (ct_cg ho0.1 (fun a ha x hr => g13_old hf ho0 n7 n13 ha hr)).trans (g13_ct n7 ho0), (mset_ne (fun e => n7 (h.2 k' i' j' 7 i 0 ho0 o7 e))).trans (hk _ (h.out hq ho0))⟩
  · rcases hn9 with ⟨e1, e2, e3⟩ | ⟨e1, e2, e3⟩
    · rw [e1, e2, e3, e7]
      refine ⟨?_, Or.inl ⟨o7, rfl⟩⟩
      rw [mset_eq]
      show some (Sum.inl (cy 2, 5, Sum.inr (Sum.inr (Sum.inr (Sum.inr (va_up (caF AD G i) f (some q))))))) = some (Sum.inl (cy 2, 5, Sum.inr (Sum.inr (Sum.inr (Sum.inr (caF (upA AD 13 i f q) (g13 G i f b d t) i))))))
      rw [show caF (upA AD 13 i f q) (g13 G i f b d t) i = va_up (caF AD G i) f (some q) from funext (fun f9 => by
        by_cases e : f9 = f
        · rw [e, va_up_self]
          unfold caF
          rw [if_pos hf, g13_at rfl, if_pos rfl, e13]
        · rw [va_up_ne _ _ e]
          unfold caF
          rw [g13_x (fun q9 => e (by omega)), upA_ne2 (fun q9 => e q9.2.2)])]
    · rw [e1, e2, e3, e13]
      refine ⟨?_, Or.inr hq⟩
      rw [mset_ne (Ne.symm h7q)]
      show μ q = some (.inr (1, ceF (g13 G i f b d t) (5 * i + f)))
      unfold ceF
      rw [hc, g13_at (a := 21) rfl, g13_at (a := 19) rfl, g13_at (a := 20) rfl, g13_at (a := 22) rfl]
  · rcases n1 with ⟨a1, a2, a3⟩ | ⟨a1, a2, a3⟩
    · rcases n2 with ⟨b1, b2, b3⟩ | ⟨b1, b2, b3⟩
      · exact ⟨a1.trans b1.symm, a2.trans b2.symm, a3.trans b3.symm⟩
      · rw [a1, a2, a3, b1, b2, b3, e7, e13] at e
        exact absurd e h7q
    · rcases n2 with ⟨b1, b2, b3⟩ | ⟨b1, b2, b3⟩
      · rw [a1, a2, a3, b1, b2, b3, e7, e13] at e
        exact absurd e.symm h7q
      · exact ⟨a1.trans b1.symm, a2.trans b2.symm, a3.trans b3.symm⟩
