/-! the class's state: rows as the reference has them where they mean the same; 20 the last day, 22 the endorsements from 0, 37 mended, 44 put off, 45 the notes of a ship, 46 to 49 a note's numbers, 50 to 54 how many objects were made -/
abbrev AM : Type := Nat → Nat → Nat → Nat
def upA (AD : AM) (k i j q : Nat) : AM := fun k' => if k' = k then (fun i' j' => if i' = i ∧ j' = j then q else AD k' i' j') else AD k'
theorem upA_ne {AD : AM} {k i j q k' : Nat} (h : k' ≠ k) : upA AD k i j q k' = AD k' := if_neg h
theorem upA_ne2 {AD : AM} {k i j q k' i' j' : Nat} (h : ¬ (k' = k ∧ i' = i ∧ j' = j)) : upA AD k i j q k' i' j' = AD k' i' j' := by
  unfold upA
  split
  · rename_i e
    exact if_neg (fun q => h ⟨e, q.1, q.2⟩)
  · rfl
theorem upA_eq (AD : AM) (k i j q : Nat) : upA AD k i j q k i j = q := by
  unfold upA
  rw [if_pos rfl, if_pos ⟨rfl, rfl⟩]
def gmS (G : GS) : Nat := (G 50 0).toNatClampNeg
def gmR (G : GS) : Nat := (G 51 0).toNatClampNeg
def gmV (G : GS) : Nat := (G 52 0).toNatClampNeg
def gmF (G : GS) (v : Nat) : Nat := (G 53 v).toNatClampNeg
def gmN (G : GS) (s : Nat) : Nat := (G 54 s).toNatClampNeg
def gnN (G : GS) (s : Nat) : Nat := (G 45 s).toNatClampNeg
def gnO (G : GS) (v : Nat) : Nat := (G 30 v).toNatClampNeg
def okB (G : GS) (k i j : Nat) : Prop := match k with
  | 0 => i = 0 ∧ j = 0
  | 1 => i = 0 ∧ j = 0
  | 2 => i = 0 ∧ j = 0
  | 3 => i = 0 ∧ j = 0
  | 4 => i = 0 ∧ j = 0
  | 5 => i = 0 ∧ j = 0
  | 6 => i < gmS G ∧ j = 0
  | 7 => i < gmS G ∧ j = 0
  | 8 => i < gmS G ∧ j = 0
  | 9 => i < gmR G ∧ j = 0
  | 10 => i < gmV G ∧ j = 0
  | 11 => i < gmV G ∧ j = 0
  | 12 => i < gmV G ∧ j < gmF G i ∧ j < 12
  | 13 => i < gmS G ∧ j < 5 ∧ G 18 (5 * i + j) = 1
  | 14 => i < gmS G ∧ j < gmN G i ∧ j < 514
  | 15 => i = 0 ∧ j = 0 ∧ gnS G ≠ 0
  | 16 => i = 0 ∧ j = 0 ∧ gnR G ≠ 0
  | 17 => i = 0 ∧ j = 0 ∧ gnV G ≠ 0
  | 18 => i < gmS G ∧ j = 0 ∧ gnN G i ≠ 0
  | _ => i < gmV G ∧ j = 0 ∧ gnF G i ≠ 0
def ok (G : GS) (k i j : Nat) : Prop := k < 20 ∧ okB G k i j
def xr (AD : AM) (x : Int32) : Option Nat := if x = -1 then none else some (AD 10 x.toNatClampNeg 0)
def buF (AD : AM) (G : GS) : List Value := [.ref (AD 1 0 0), .ref (AD 2 0 0), .ref (AD 3 0 0), .ref (AD 4 0 0), .ref (AD 5 0 0), .int (G 1 0)]
def shF (AD : AM) (G : GS) (i : Nat) : List Value := [.int (nI i), .int (G 4 i), .int (G 5 i), .int (G 6 i), .ref (AD 7 i 0), .ref (AD 8 i 0), .int (G 7 i), .int (G 8 i), .int (G 9 i), .int (G 10 i), va_rf (xr AD (G 11 i)), va_rf (xr AD (G 12 i)), va_rf (xr AD (G 13 i)), .int (G 14 i), .int (G 15 i), .int (G 16 i), .int (G 17 i)]
def ruF (G : GS) (i : Nat) : List Value := [.int (G 24 i), .int (G 25 i), .int (G 26 i), .int (G 27 i), .int (G 28 i)]
def viF (AD : AM) (G : GS) (i : Nat) : List Value := [.ref (AD 6 (gnO G i) 0), .int (nI i), .int (G 31 i), .int (G 32 i), .int (G 34 i), .ref (AD 11 i 0), .int (G 33 i), .int (G 38 i), .int (G 42 i), .int (G 39 i), .int (G 40 i), .int (G 41 i)]
def fiF (G : GS) (x : Nat) : List Value := [.int (G 36 x), .int (G 44 x), .int (G 37 x)]
def ceF (G : GS) (x : Nat) : List Value := [.int (G 21 x), .int (G 19 x), .int (G 20 x), .int (G 22 x)]
def noF (G : GS) (x : Nat) : List Value := [.int (G 46 x), .int (G 47 x), .int (G 48 x), .int (G 49 x)]
def caF (AD : AM) (G : GS) (i : Nat) : Nat → Option Nat := fun f => if f < 5 then (if G 18 (5 * i + f) = 1 then some (AD 13 i f) else none) else none
def cont (cy : Nat → ClassId) (AD : AM) (G : GS) (k i j : Nat) : va_E := match k with
  | 0 => .inr (7, buF AD G)
  | 1 => lobj cy (nI (gnS G)) (AD 15 0 0) (gnS G)
  | 2 => lobj cy (nI (gnR G)) (AD 16 0 0) (gnR G)
  | 3 => lobj cy (nI (gnV G)) (AD 17 0 0) (gnV G)
  | 4 => .inl (cy 1, 4, .inl (G 2))
  | 5 => .inl (cy 0, 4, .inl (G 43))
  | 6 => .inr (5, shF AD G i)
  | 7 => .inl (cy 2, 5, .inr (.inr (.inr (.inr (caF AD G i)))))
  | 8 => lobj cy (nI (gnN G i)) (AD 18 i 0) (gnN G i)
  | 9 => .inr (4, ruF G i)
  | 10 => .inr (6, viF AD G i)
  | 11 => lobj cy (nI (gnF G i)) (AD 19 i 0) (gnF G i)
  | 12 => .inr (2, fiF G (12 * i + j))
  | 13 => .inr (1, ceF G (5 * i + j))
  | 14 => .inr (3, noF G (514 * i + j))
  | 15 => larr cy (gnS G) (fun s => AD 6 s 0)
  | 16 => larr cy (gnR G) (fun s => AD 9 s 0)
  | 17 => larr cy (gnV G) (fun s => AD 10 s 0)
  | 18 => larr cy (gnN G i) (fun s => AD 14 i s)
  | _ => larr cy (gnF G i) (fun s => AD 12 i s)
def RepC (cy : Nat → ClassId) (AD : AM) (G : GS) (μ : MU) : Prop := (∀ k i j, ok G k i j → μ (AD k i j) = some (cont cy AD G k i j)) ∧ ∀ k i j k' i' j', ok G k i j → ok G k' i' j' → AD k i j = AD k' i' j' → k = k' ∧ i = i' ∧ j = j'
theorem RepC.cg {cy : Nat → ClassId} {AD : AM} {G1 G2 : GS} {μ : MU} (h : RepC cy AD G1 μ) (e : G2 = G1) : RepC cy AD G2 μ := e ▸ h
theorem RepC.keep {cy : Nat → ClassId} {AD : AM} {G : GS} {μ μ1 : MU} (h : RepC cy AD G μ) (hk : ∀ b e, μ b = some e → μ1 b = some e) : RepC cy AD G μ1 := ⟨fun k i j ho => hk _ _ (h.1 k i j ho), h.2⟩
theorem RepC.out {cy : Nat → ClassId} {AD : AM} {G : GS} {μ : MU} (h : RepC cy AD G μ) {q : Nat} (hq : μ q = none) {k i j : Nat} (ho : ok G k i j) : AD k i j ≠ q := fun e => by have := h.1 k i j ho; rw [e, hq] at this; cases this
theorem k20 {k : Nat} (h : k < 20) : k = 0 ∨ k = 1 ∨ k = 2 ∨ k = 3 ∨ k = 4 ∨ k = 5 ∨ k = 6 ∨ k = 7 ∨ k = 8 ∨ k = 9 ∨ k = 10 ∨ k = 11 ∨ k = 12 ∨ k = 13 ∨ k = 14 ∨ k = 15 ∨ k = 16 ∨ k = 17 ∨ k = 18 ∨ k = 19 := by omega
def cntL : List Nat := [3, 18, 23, 29, 35, 45, 50, 51, 52, 53, 54]
def dep (k : Nat) : List Nat := match k with
  | 0 => [1]
  | 1 => [3]
  | 2 => [23]
  | 3 => [29]
  | 4 => [2]
  | 5 => [43]
  | 6 => [4, 5, 6, 7, 8, 9, 10, 11, 12, 13, 14, 15, 16, 17]
  | 7 => [18]
  | 8 => [45]
  | 9 => [24, 25, 26, 27, 28]
  | 10 => [30, 31, 32, 33, 34, 38, 39, 40, 41, 42]
  | 11 => [35]
  | 12 => [36, 44, 37]
  | 13 => [21, 19, 20, 22]
  | 14 => [46, 47, 48, 49]
  | 15 => [3]
  | 16 => [23]
  | 17 => [29]
  | 18 => [45]
  | _ => [35]
def own (f : Nat) : Nat := match f with
  | 1 => 0
  | 2 => 4
  | 4 => 6
  | 5 => 6
  | 6 => 6
  | 7 => 6
  | 8 => 6
  | 9 => 6
  | 10 => 6
  | 11 => 6
  | 12 => 6
  | 13 => 6
  | 14 => 6
  | 15 => 6
  | 16 => 6
  | 17 => 6
  | 19 => 13
  | 20 => 13
  | 21 => 13
  | 22 => 13
  | 24 => 9
  | 25 => 9
  | 26 => 9
  | 27 => 9
  | 28 => 9
  | 30 => 10
  | 31 => 10
  | 32 => 10
  | 33 => 10
  | 34 => 10
  | 36 => 12
  | 37 => 12
  | 38 => 10
  | 39 => 10
  | 40 => 10
  | 41 => 10
  | 42 => 10
  | 43 => 5
  | 44 => 12
  | 46 => 14
  | 47 => 14
  | 48 => 14
  | 49 => 14
  | _ => 20
def rel (k i j x : Nat) : Prop := match k with
  | 4 => True
  | 5 => True
  | 6 => x = i
  | 7 => ∃ f, f < 5 ∧ x = 5 * i + f
  | 8 => x = i
  | 9 => x = i
  | 10 => x = i
  | 11 => x = i
  | 12 => x = 12 * i + j
  | 13 => x = 5 * i + j
  | 14 => x = 514 * i + j
  | 18 => x = i
  | 19 => x = i
  | _ => x = 0
theorem dep_own : ∀ k, k < 20 → ∀ a ∈ dep k, a ∉ cntL → own a = k := by decide

theorem ct_cg {cy : Nat → ClassId} {AD : AM} {G1 G : GS} {k i j : Nat} (hk : k < 20) (h : ∀ a, a ∈ dep k → ∀ x, rel k i j x → G1 a x = G a x) : cont cy AD G1 k i j = cont cy AD G k i j := by
  rcases k20 hk with rfl | rfl | rfl | rfl | rfl | rfl | rfl | rfl | rfl | rfl | rfl | rfl | rfl | rfl | rfl | rfl | rfl | rfl | rfl | rfl
  · simp only [cont, buF, h 1 (by decide) 0 rfl]
  · simp only [cont, gnS, h 3 (by decide) 0 rfl]
  · simp only [cont, gnR, h 23 (by decide) 0 rfl]
  · simp only [cont, gnV, h 29 (by decide) 0 rfl]
  · have e : G1 2 = G 2 := funext (fun x => h 2 (by decide) x trivial)
    simp only [cont, e]
  · have e : G1 43 = G 43 := funext (fun x => h 43 (by decide) x trivial)
    simp only [cont, e]
  · simp only [cont, shF, h 4 (by decide) i rfl, h 5 (by decide) i rfl, h 6 (by decide) i rfl, h 7 (by decide) i rfl, h 8 (by decide) i rfl, h 9 (by decide) i rfl, h 10 (by decide) i rfl, h 11 (by decide) i rfl, h 12 (by decide) i rfl, h 13 (by decide) i rfl, h 14 (by decide) i rfl, h 15 (by decide) i rfl, h 16 (by decide) i rfl, h 17 (by decide) i rfl]
  · have e : caF AD G1 i = caF AD G i := funext (fun f => by
      unfold caF
      split
      · rename_i hf
        rw [h 18 (by decide) (5 * i + f) ⟨f, hf, rfl⟩]
      · rfl)
    simp only [cont, e]
  · simp only [cont, gnN, h 45 (by decide) i rfl]
  · simp only [cont, ruF, h 24 (by decide) i rfl, h 25 (by decide) i rfl, h 26 (by decide) i rfl, h 27 (by decide) i rfl, h 28 (by decide) i rfl]
  · simp only [cont, viF, gnO, h 30 (by decide) i rfl, h 31 (by decide) i rfl, h 32 (by decide) i rfl, h 33 (by decide) i rfl, h 34 (by decide) i rfl, h 38 (by decide) i rfl, h 39 (by decide) i rfl, h 40 (by decide) i rfl, h 41 (by decide) i rfl, h 42 (by decide) i rfl]
  · simp only [cont, gnF, h 35 (by decide) i rfl]
  · simp only [cont, fiF, h 36 (by decide) (12 * i + j) rfl, h 44 (by decide) (12 * i + j) rfl, h 37 (by decide) (12 * i + j) rfl]
  · simp only [cont, ceF, h 21 (by decide) (5 * i + j) rfl, h 19 (by decide) (5 * i + j) rfl, h 20 (by decide) (5 * i + j) rfl, h 22 (by decide) (5 * i + j) rfl]
  · simp only [cont, noF, h 46 (by decide) (514 * i + j) rfl, h 47 (by decide) (514 * i + j) rfl, h 48 (by decide) (514 * i + j) rfl, h 49 (by decide) (514 * i + j) rfl]
  · simp only [cont, gnS, h 3 (by decide) 0 rfl]
  · simp only [cont, gnR, h 23 (by decide) 0 rfl]
  · simp only [cont, gnV, h 29 (by decide) 0 rfl]
  · simp only [cont, gnN, h 45 (by decide) i rfl]
  · simp only [cont, gnF, h 35 (by decide) i rfl]
theorem rel_inj {G : GS} {k i j i' j' x : Nat} (h : ok G k i j) (h' : ok G k i' j') (h7 : k ≠ 7) (r : rel k i j x) (r' : rel k i' j' x) : i' = i ∧ j' = j := by
  obtain ⟨hk, h⟩ := h
  obtain ⟨-, h'⟩ := h'
  rcases k20 hk with rfl | rfl | rfl | rfl | rfl | rfl | rfl | rfl | rfl | rfl | rfl | rfl | rfl | rfl | rfl | rfl | rfl | rfl | rfl | rfl
  · exact ⟨h'.1.trans h.1.symm, h'.2.trans h.2.symm⟩
  · exact ⟨h'.1.trans h.1.symm, h'.2.trans h.2.symm⟩
  · exact ⟨h'.1.trans h.1.symm, h'.2.trans h.2.symm⟩
  · exact ⟨h'.1.trans h.1.symm, h'.2.trans h.2.symm⟩
  · exact ⟨h'.1.trans h.1.symm, h'.2.trans h.2.symm⟩
  · exact ⟨h'.1.trans h.1.symm, h'.2.trans h.2.symm⟩
  · have r : x = i := r
    have r' : x = i' := r'
    exact ⟨r'.symm.trans r, h'.2.trans h.2.symm⟩
  · exact absurd rfl h7
  · have r : x = i := r
    have r' : x = i' := r'
    exact ⟨r'.symm.trans r, h'.2.trans h.2.symm⟩
  · have r : x = i := r
    have r' : x = i' := r'
    exact ⟨r'.symm.trans r, h'.2.trans h.2.symm⟩
  · have r : x = i := r
    have r' : x = i' := r'
    exact ⟨r'.symm.trans r, h'.2.trans h.2.symm⟩
  · have r : x = i := r
    have r' : x = i' := r'
    exact ⟨r'.symm.trans r, h'.2.trans h.2.symm⟩
  · obtain ⟨h1, h2, h3⟩ := h
    obtain ⟨h1', h2', h3'⟩ := h'
    have r : x = 12 * i + j := r
    have r' : x = 12 * i' + j' := r'
    omega
  · obtain ⟨h1, h2, h3⟩ := h
    obtain ⟨h1', h2', h3'⟩ := h'
    have r : x = 5 * i + j := r
    have r' : x = 5 * i' + j' := r'
    omega
  · obtain ⟨h1, h2, h3⟩ := h
    obtain ⟨h1', h2', h3'⟩ := h'
    have r : x = 514 * i + j := r
    have r' : x = 514 * i' + j' := r'
    omega
  · exact ⟨h'.1.trans h.1.symm, h'.2.1.trans h.2.1.symm⟩
  · exact ⟨h'.1.trans h.1.symm, h'.2.1.trans h.2.1.symm⟩
  · exact ⟨h'.1.trans h.1.symm, h'.2.1.trans h.2.1.symm⟩
  · have r : x = i := r
    have r' : x = i' := r'
    exact ⟨r'.symm.trans r, h'.2.1.trans h.2.1.symm⟩
  · have r : x = i := r
    have r' : x = i' := r'
    exact ⟨r'.symm.trans r, h'.2.1.trans h.2.1.symm⟩
theorem ok_cg {G1 G : GS} (h : ∀ a, a ∈ cntL → G1 a = G a) : ok G1 = ok G := by
  funext k i j
  unfold ok okB gmS gmR gmV gmF gmN gnS gnR gnV gnF gnN
  rw [h 3 (by decide), h 18 (by decide), h 23 (by decide), h 29 (by decide), h 35 (by decide), h 45 (by decide), h 50 (by decide), h 51 (by decide), h 52 (by decide), h 53 (by decide), h 54 (by decide)]
theorem RepC.wr {cy : Nat → ClassId} {AD : AM} {G G1 : GS} {μ : MU} (h : RepC cy AD G μ) {k i j : Nat} (hk : ok G k i j) (hok : ok G1 = ok G) (hc : ∀ k' i' j', ok G k' i' j' → ¬ (k' = k ∧ i' = i ∧ j' = j) → cont cy AD G1 k' i' j' = cont cy AD G k' i' j') {e : va_E} (he : e = cont cy AD G1 k i j) : RepC cy AD G1 (mset μ (AD k i j) e) := by
  subst he
  refine ⟨fun k' i' j' ho => ?_, fun k' i' j' k2 i2 j2 h1 h2 => h.2 k' i' j' k2 i2 j2 (hok ▸ h1) (hok ▸ h2)⟩
  rw [hok] at ho
  by_cases e : k' = k ∧ i' = i ∧ j' = j
  · obtain ⟨rfl, rfl, rfl⟩ := e
    exact mset_eq _ _ _
  · rw [mset_ne (fun e9 => e (h.2 k' i' j' k i j ho hk e9)), hc k' i' j' ho e]
    exact h.1 k' i' j' ho
theorem RepC.wf {cy : Nat → ClassId} {AD : AM} {G : GS} {μ : MU} (h : RepC cy AD G μ) {k i j f x : Nat} {v : Int32} (hk : ok G k i j) (hf : own f = k) (hn : f ∉ cntL) (h7 : k ≠ 7) (hx : rel k i j x) {e : va_E} (he : e = cont cy AD (up2 G f x v) k i j) : RepC cy AD (up2 G f x v) (mset μ (AD k i j) e) := by
  refine h.wr hk (ok_cg (fun a ha => up2_ne (fun e => hn (by rw [← e]; exact ha)))) (fun k' i' j' ho hne => ct_cg ho.1 (fun a ha x' hr => ?_)) he
  by_cases e : a = f
  · subst e
    have hkk : k' = k := (dep_own k' ho.1 a ha hn).symm.trans hf
    subst hkk
    rw [up2_eq]
    refine if_neg (fun e => ?_)
    subst e
    exact hne (have q := rel_inj hk ho h7 hx hr; ⟨rfl, q.1, q.2⟩)
  · rw [up2_ne e]
theorem RepC.al {cy : Nat → ClassId} {AD AD1 : AM} {G G1 : GS} {μ μ1 : MU} (h : RepC cy AD G μ) (N : Nat → Nat → Nat → Prop)
    (hold : ∀ k i j, ok G1 k i j → ¬ N k i j → ok G k i j ∧ AD1 k i j = AD k i j ∧ cont cy AD1 G1 k i j = cont cy AD G k i j ∧ μ1 (AD k i j) = μ (AD k i j))
    (hnew : ∀ k i j, ok G1 k i j → N k i j → μ1 (AD1 k i j) = some (cont cy AD1 G1 k i j) ∧ ((ok G k i j ∧ AD1 k i j = AD k i j) ∨ μ (AD1 k i j) = none))
    (hd : ∀ k i j k' i' j', N k i j → N k' i' j' → ok G1 k i j → ok G1 k' i' j' → AD1 k i j = AD1 k' i' j' → k = k' ∧ i = i' ∧ j = j') : RepC cy AD1 G1 μ1 := by
  have hon : ∀ k i j k' i' j', ok G1 k i j → ok G1 k' i' j' → ¬ N k i j → N k' i' j' → AD1 k i j = AD1 k' i' j' → k = k' ∧ i = i' ∧ j = j' := by
    intro k i j k' i' j' h1 h2 n1 n2 e
    obtain ⟨a1, a2, -, -⟩ := hold k i j h1 n1
    rcases (hnew k' i' j' h2 n2).2 with ⟨b1, b2⟩ | b
    · exact h.2 k i j k' i' j' a1 b1 (a2.symm.trans (e.trans b2))
    · exact absurd (a2.symm.trans e) (h.out b a1)
  refine ⟨fun k i j ho => ?_, fun k i j k' i' j' h1 h2 e => ?_⟩
  · by_cases n : N k i j
    · exact (hnew k i j ho n).1
    · obtain ⟨a1, a2, a3, a4⟩ := hold k i j ho n
      rw [a2, a4, a3]
      exact h.1 k i j a1
  · by_cases n1 : N k i j
    · by_cases n2 : N k' i' j'
      · exact hd k i j k' i' j' n1 n2 h1 h2 e
      · have q := hon k' i' j' k i j h2 h1 n2 n1 e.symm
        exact ⟨q.1.symm, q.2.1.symm, q.2.2.symm⟩
    · by_cases n2 : N k' i' j'
      · exact hon k i j k' i' j' h1 h2 n1 n2 e
      · obtain ⟨a1, a2, -, -⟩ := hold k i j h1 n1
        obtain ⟨b1, b2, -, -⟩ := hold k' i' j' h2 n2
        exact h.2 k i j k' i' j' a1 b1 (a2.symm.trans (e.trans b2))
theorem up2_at (G : GS) (f x : Nat) (v : Int32) : up2 G f x v f x = v := by
  rw [up2_eq]
  exact if_pos rfl
theorem nz_fit {v : Int32} (h : nz v) : fits .boolean (.int v) = true := by rcases nz_or h with rfl | rfl <;> rfl
theorem RepC.a0 {cy : Nat → ClassId} {AD : AM} {G : GS} {μ : MU} (h : RepC cy AD G μ) (hk : ok G 0 0 0) : μ (AD 0 0 0) = some (.inr (7, buF AD G)) := h.1 _ _ _ hk
theorem RepC.a6 {cy : Nat → ClassId} {AD : AM} {G : GS} {μ : MU} (h : RepC cy AD G μ) {i : Nat} (hk : ok G 6 i 0) : μ (AD 6 i 0) = some (.inr (5, shF AD G i)) := h.1 _ _ _ hk
theorem RepC.a9 {cy : Nat → ClassId} {AD : AM} {G : GS} {μ : MU} (h : RepC cy AD G μ) {i : Nat} (hk : ok G 9 i 0) : μ (AD 9 i 0) = some (.inr (4, ruF G i)) := h.1 _ _ _ hk
theorem RepC.a10 {cy : Nat → ClassId} {AD : AM} {G : GS} {μ : MU} (h : RepC cy AD G μ) {i : Nat} (hk : ok G 10 i 0) : μ (AD 10 i 0) = some (.inr (6, viF AD G i)) := h.1 _ _ _ hk
theorem RepC.a12 {cy : Nat → ClassId} {AD : AM} {G : GS} {μ : MU} (h : RepC cy AD G μ) {i j : Nat} (hk : ok G 12 i j) : μ (AD 12 i j) = some (.inr (2, fiF G (12 * i + j))) := h.1 _ _ _ hk
theorem RepC.a13 {cy : Nat → ClassId} {AD : AM} {G : GS} {μ : MU} (h : RepC cy AD G μ) {i j : Nat} (hk : ok G 13 i j) : μ (AD 13 i j) = some (.inr (1, ceF G (5 * i + j))) := h.1 _ _ _ hk
theorem RepC.a14 {cy : Nat → ClassId} {AD : AM} {G : GS} {μ : MU} (h : RepC cy AD G μ) {i j : Nat} (hk : ok G 14 i j) : μ (AD 14 i j) = some (.inr (3, noF G (514 * i + j))) := h.1 _ _ _ hk
theorem RepC.l1 {cy : Nat → ClassId} {AD : AM} {G : GS} {μ : MU} (h : RepC cy AD G μ) : LsP cy (AD 1 0 0) (AD 15 0 0) (gnS G) (fun s => AD 6 s 0) μ := ⟨h.1 1 0 0 ⟨by decide, rfl, rfl⟩, fun hz => h.1 15 0 0 ⟨by decide, rfl, rfl, hz⟩⟩
theorem RepC.l2 {cy : Nat → ClassId} {AD : AM} {G : GS} {μ : MU} (h : RepC cy AD G μ) : LsP cy (AD 2 0 0) (AD 16 0 0) (gnR G) (fun s => AD 9 s 0) μ := ⟨h.1 2 0 0 ⟨by decide, rfl, rfl⟩, fun hz => h.1 16 0 0 ⟨by decide, rfl, rfl, hz⟩⟩
theorem RepC.l3 {cy : Nat → ClassId} {AD : AM} {G : GS} {μ : MU} (h : RepC cy AD G μ) : LsP cy (AD 3 0 0) (AD 17 0 0) (gnV G) (fun s => AD 10 s 0) μ := ⟨h.1 3 0 0 ⟨by decide, rfl, rfl⟩, fun hz => h.1 17 0 0 ⟨by decide, rfl, rfl, hz⟩⟩
theorem RepC.l8 {cy : Nat → ClassId} {AD : AM} {G : GS} {μ : MU} (h : RepC cy AD G μ) {i : Nat} (hi : i < gmS G) : LsP cy (AD 8 i 0) (AD 18 i 0) (gnN G i) (fun s => AD 14 i s) μ := ⟨h.1 8 i 0 ⟨by decide, hi, rfl⟩, fun hz => h.1 18 i 0 ⟨by decide, hi, rfl, hz⟩⟩
theorem RepC.l11 {cy : Nat → ClassId} {AD : AM} {G : GS} {μ : MU} (h : RepC cy AD G μ) {i : Nat} (hi : i < gmV G) : LsP cy (AD 11 i 0) (AD 19 i 0) (gnF G i) (fun s => AD 12 i s) μ := ⟨h.1 11 i 0 ⟨by decide, hi, rfl⟩, fun hz => h.1 19 i 0 ⟨by decide, hi, rfl, hz⟩⟩
section RC
variable {p : Program} {l : Launch} {e : Env} {R : Room} {s : State} {m : MethodId} {args : Array Value} {below : List Frame} {meth : Method} {c : Code} {H : Heap} {locs : List Loc} {cells slots : Nat} {Q : State → Prop}
variable {cc : ByteArray} {nL pc : Nat} {ls : Array Slot} {rest st0 : List Value} {D : va_G} {cy : Nat → ClassId} {A : Nat → Prop} {a : Nat} {μ : MU} {own : String} {AD : AM} {G : GS}
theorem sf_0_1 (AD : AM) (G : GS) (i j : Nat) (v : Int32) : (buF AD G).set 5 (.int v) = buF AD (up2 G 1 0 v) := by
  unfold buF
  rw [up2_at]
  rfl
theorem cp_X6_30 (F : CallFix p m c cc nL s args BIG RX6) (w : WW D cy A μ s H locs) (hM : RepC cy AD G μ) {v : Int32} (hk : ok G 0 0 0) (hdg : decode cc pc = .ok (.putfield 30, 3)) (kk : ∀ (H1 : Heap) (locs1 : List Loc) (μ1 : MU), WW D cy A μ1 s H1 locs1 → RepC cy AD (up2 G 1 0 v) μ1 → W p l e R s m args below meth c H1 locs1 cells slots Q (F0 m (pc + 3) ls rest)) : W p l e R s m args below meth c H locs cells slots Q (F0 m pc ls (.int v :: .ref (AD 0 0 0) :: rest)) := pf_X6_30 F w rfl (hM.a0 hk) rfl rfl hdg (fun H1 locs1 w1 => kk H1 locs1 _ w1 (hM.wf hk rfl (by decide) (by decide) rfl (congrArg (fun z => Sum.inr (7, z)) (sf_0_1 AD G 0 0 v))))
theorem sf_6_7 (AD : AM) (G : GS) (i j : Nat) (v : Int32) : (shF AD G i).set 6 (.int v) = shF AD (up2 G 7 i v) i := by
  unfold shF
  rw [up2_at, up2_ne (by decide : (4 : Nat) ≠ 7), up2_ne (by decide : (5 : Nat) ≠ 7), up2_ne (by decide : (6 : Nat) ≠ 7), up2_ne (by decide : (8 : Nat) ≠ 7), up2_ne (by decide : (9 : Nat) ≠ 7), up2_ne (by decide : (10 : Nat) ≠ 7), up2_ne (by decide : (11 : Nat) ≠ 7), up2_ne (by decide : (12 : Nat) ≠ 7), up2_ne (by decide : (13 : Nat) ≠ 7), up2_ne (by decide : (14 : Nat) ≠ 7), up2_ne (by decide : (15 : Nat) ≠ 7), up2_ne (by decide : (16 : Nat) ≠ 7), up2_ne (by decide : (17 : Nat) ≠ 7)]
  rfl
theorem cp_X6_86 (F : CallFix p m c cc nL s args BIG RX6) (w : WW D cy A μ s H locs) (hM : RepC cy AD G μ) {i : Nat} {v : Int32} (hk : ok G 6 i 0) (hdg : decode cc pc = .ok (.putfield 86, 3)) (kk : ∀ (H1 : Heap) (locs1 : List Loc) (μ1 : MU), WW D cy A μ1 s H1 locs1 → RepC cy AD (up2 G 7 i v) μ1 → W p l e R s m args below meth c H1 locs1 cells slots Q (F0 m (pc + 3) ls rest)) : W p l e R s m args below meth c H locs cells slots Q (F0 m pc ls (.int v :: .ref (AD 6 i 0) :: rest)) := pf_X6_86 F w rfl (hM.a6 hk) rfl rfl hdg (fun H1 locs1 w1 => kk H1 locs1 _ w1 (hM.wf hk rfl (by decide) (by decide) rfl (congrArg (fun z => Sum.inr (5, z)) (sf_6_7 AD G i 0 v))))
theorem sf_6_8 (AD : AM) (G : GS) (i j : Nat) (v : Int32) : (shF AD G i).set 7 (.int v) = shF AD (up2 G 8 i v) i := by
  unfold shF
  rw [up2_at, up2_ne (by decide : (4 : Nat) ≠ 8), up2_ne (by decide : (5 : Nat) ≠ 8), up2_ne (by decide : (6 : Nat) ≠ 8), up2_ne (by decide : (7 : Nat) ≠ 8), up2_ne (by decide : (9 : Nat) ≠ 8), up2_ne (by decide : (10 : Nat) ≠ 8), up2_ne (by decide : (11 : Nat) ≠ 8), up2_ne (by decide : (12 : Nat) ≠ 8), up2_ne (by decide : (13 : Nat) ≠ 8), up2_ne (by decide : (14 : Nat) ≠ 8), up2_ne (by decide : (15 : Nat) ≠ 8), up2_ne (by decide : (16 : Nat) ≠ 8), up2_ne (by decide : (17 : Nat) ≠ 8)]
  rfl
theorem cp_X6_89 (F : CallFix p m c cc nL s args BIG RX6) (w : WW D cy A μ s H locs) (hM : RepC cy AD G μ) {i : Nat} {v : Int32} (hk : ok G 6 i 0) (hdg : decode cc pc = .ok (.putfield 89, 3)) (kk : ∀ (H1 : Heap) (locs1 : List Loc) (μ1 : MU), WW D cy A μ1 s H1 locs1 → RepC cy AD (up2 G 8 i v) μ1 → W p l e R s m args below meth c H1 locs1 cells slots Q (F0 m (pc + 3) ls rest)) : W p l e R s m args below meth c H locs cells slots Q (F0 m pc ls (.int v :: .ref (AD 6 i 0) :: rest)) := pf_X6_89 F w rfl (hM.a6 hk) rfl rfl hdg (fun H1 locs1 w1 => kk H1 locs1 _ w1 (hM.wf hk rfl (by decide) (by decide) rfl (congrArg (fun z => Sum.inr (5, z)) (sf_6_8 AD G i 0 v))))
theorem sf_6_9 (AD : AM) (G : GS) (i j : Nat) (v : Int32) : (shF AD G i).set 8 (.int v) = shF AD (up2 G 9 i v) i := by
  unfold shF
  rw [up2_at, up2_ne (by decide : (4 : Nat) ≠ 9), up2_ne (by decide : (5 : Nat) ≠ 9), up2_ne (by decide : (6 : Nat) ≠ 9), up2_ne (by decide : (7 : Nat) ≠ 9), up2_ne (by decide : (8 : Nat) ≠ 9), up2_ne (by decide : (10 : Nat) ≠ 9), up2_ne (by decide : (11 : Nat) ≠ 9), up2_ne (by decide : (12 : Nat) ≠ 9), up2_ne (by decide : (13 : Nat) ≠ 9), up2_ne (by decide : (14 : Nat) ≠ 9), up2_ne (by decide : (15 : Nat) ≠ 9), up2_ne (by decide : (16 : Nat) ≠ 9), up2_ne (by decide : (17 : Nat) ≠ 9)]
  rfl
theorem cp_X6_92 (F : CallFix p m c cc nL s args BIG RX6) (w : WW D cy A μ s H locs) (hM : RepC cy AD G μ) {i : Nat} {v : Int32} (hk : ok G 6 i 0) (hdg : decode cc pc = .ok (.putfield 92, 3)) (kk : ∀ (H1 : Heap) (locs1 : List Loc) (μ1 : MU), WW D cy A μ1 s H1 locs1 → RepC cy AD (up2 G 9 i v) μ1 → W p l e R s m args below meth c H1 locs1 cells slots Q (F0 m (pc + 3) ls rest)) : W p l e R s m args below meth c H locs cells slots Q (F0 m pc ls (.int v :: .ref (AD 6 i 0) :: rest)) := pf_X6_92 F w rfl (hM.a6 hk) rfl rfl hdg (fun H1 locs1 w1 => kk H1 locs1 _ w1 (hM.wf hk rfl (by decide) (by decide) rfl (congrArg (fun z => Sum.inr (5, z)) (sf_6_9 AD G i 0 v))))
theorem sf_13_22 (AD : AM) (G : GS) (i j : Nat) (v : Int32) : (ceF G (5 * i + j)).set 3 (.int v) = ceF (up2 G 22 (5 * i + j) v) (5 * i + j) := by
  unfold ceF
  rw [up2_at, up2_ne (by decide : (21 : Nat) ≠ 22), up2_ne (by decide : (19 : Nat) ≠ 22), up2_ne (by decide : (20 : Nat) ≠ 22)]
  rfl
theorem cp_X6_146 (F : CallFix p m c cc nL s args BIG RX6) (w : WW D cy A μ s H locs) (hM : RepC cy AD G μ) {i j : Nat} {v : Int32} (hk : ok G 13 i j) (hdg : decode cc pc = .ok (.putfield 146, 3)) (kk : ∀ (H1 : Heap) (locs1 : List Loc) (μ1 : MU), WW D cy A μ1 s H1 locs1 → RepC cy AD (up2 G 22 (5 * i + j) v) μ1 → W p l e R s m args below meth c H1 locs1 cells slots Q (F0 m (pc + 3) ls rest)) : W p l e R s m args below meth c H locs cells slots Q (F0 m pc ls (.int v :: .ref (AD 13 i j) :: rest)) := pf_X6_146 F w rfl (hM.a13 hk) rfl rfl hdg (fun H1 locs1 w1 => kk H1 locs1 _ w1 (hM.wf hk rfl (by decide) (by decide) rfl (congrArg (fun z => Sum.inr (1, z)) (sf_13_22 AD G i j v))))
theorem sf_6_10 (AD : AM) (G : GS) (i j : Nat) (v : Int32) : (shF AD G i).set 9 (.int v) = shF AD (up2 G 10 i v) i := by
  unfold shF
  rw [up2_at, up2_ne (by decide : (4 : Nat) ≠ 10), up2_ne (by decide : (5 : Nat) ≠ 10), up2_ne (by decide : (6 : Nat) ≠ 10), up2_ne (by decide : (7 : Nat) ≠ 10), up2_ne (by decide : (8 : Nat) ≠ 10), up2_ne (by decide : (9 : Nat) ≠ 10), up2_ne (by decide : (11 : Nat) ≠ 10), up2_ne (by decide : (12 : Nat) ≠ 10), up2_ne (by decide : (13 : Nat) ≠ 10), up2_ne (by decide : (14 : Nat) ≠ 10), up2_ne (by decide : (15 : Nat) ≠ 10), up2_ne (by decide : (16 : Nat) ≠ 10), up2_ne (by decide : (17 : Nat) ≠ 10)]
  rfl
theorem cp_X6_156 (F : CallFix p m c cc nL s args BIG RX6) (w : WW D cy A μ s H locs) (hM : RepC cy AD G μ) {i : Nat} {v : Int32} (hk : ok G 6 i 0) (hdg : decode cc pc = .ok (.putfield 156, 3)) (kk : ∀ (H1 : Heap) (locs1 : List Loc) (μ1 : MU), WW D cy A μ1 s H1 locs1 → RepC cy AD (up2 G 10 i v) μ1 → W p l e R s m args below meth c H1 locs1 cells slots Q (F0 m (pc + 3) ls rest)) : W p l e R s m args below meth c H locs cells slots Q (F0 m pc ls (.int v :: .ref (AD 6 i 0) :: rest)) := pf_X6_156 F w rfl (hM.a6 hk) rfl rfl hdg (fun H1 locs1 w1 => kk H1 locs1 _ w1 (hM.wf hk rfl (by decide) (by decide) rfl (congrArg (fun z => Sum.inr (5, z)) (sf_6_10 AD G i 0 v))))
theorem sf_6_13 (AD : AM) (G : GS) (i j : Nat) (v : Int32) : (shF AD G i).set 12 (va_rf (xr AD v)) = shF AD (up2 G 13 i v) i := by
  unfold shF
  rw [up2_at, up2_ne (by decide : (4 : Nat) ≠ 13), up2_ne (by decide : (5 : Nat) ≠ 13), up2_ne (by decide : (6 : Nat) ≠ 13), up2_ne (by decide : (7 : Nat) ≠ 13), up2_ne (by decide : (8 : Nat) ≠ 13), up2_ne (by decide : (9 : Nat) ≠ 13), up2_ne (by decide : (10 : Nat) ≠ 13), up2_ne (by decide : (11 : Nat) ≠ 13), up2_ne (by decide : (12 : Nat) ≠ 13), up2_ne (by decide : (14 : Nat) ≠ 13), up2_ne (by decide : (15 : Nat) ≠ 13), up2_ne (by decide : (16 : Nat) ≠ 13), up2_ne (by decide : (17 : Nat) ≠ 13)]
  rfl
theorem cp_X6_168 (F : CallFix p m c cc nL s args BIG RX6) (w : WW D cy A μ s H locs) (hM : RepC cy AD G μ) {i : Nat} {v : Int32} (hk : ok G 6 i 0) (hdg : decode cc pc = .ok (.putfield 168, 3)) (kk : ∀ (H1 : Heap) (locs1 : List Loc) (μ1 : MU), WW D cy A μ1 s H1 locs1 → RepC cy AD (up2 G 13 i v) μ1 → W p l e R s m args below meth c H1 locs1 cells slots Q (F0 m (pc + 3) ls rest)) : W p l e R s m args below meth c H locs cells slots Q (F0 m pc ls (va_rf (xr AD v) :: .ref (AD 6 i 0) :: rest)) := pf_X6_168 F w rfl (hM.a6 hk) (by unfold xr; split <;> rfl) (by unfold xr; split <;> rfl) hdg (fun H1 locs1 w1 => kk H1 locs1 _ w1 (hM.wf hk rfl (by decide) (by decide) rfl (congrArg (fun z => Sum.inr (5, z)) (sf_6_13 AD G i 0 v))))
theorem sf_6_11 (AD : AM) (G : GS) (i j : Nat) (v : Int32) : (shF AD G i).set 10 (va_rf (xr AD v)) = shF AD (up2 G 11 i v) i := by
  unfold shF
  rw [up2_at, up2_ne (by decide : (4 : Nat) ≠ 11), up2_ne (by decide : (5 : Nat) ≠ 11), up2_ne (by decide : (6 : Nat) ≠ 11), up2_ne (by decide : (7 : Nat) ≠ 11), up2_ne (by decide : (8 : Nat) ≠ 11), up2_ne (by decide : (9 : Nat) ≠ 11), up2_ne (by decide : (10 : Nat) ≠ 11), up2_ne (by decide : (12 : Nat) ≠ 11), up2_ne (by decide : (13 : Nat) ≠ 11), up2_ne (by decide : (14 : Nat) ≠ 11), up2_ne (by decide : (15 : Nat) ≠ 11), up2_ne (by decide : (16 : Nat) ≠ 11), up2_ne (by decide : (17 : Nat) ≠ 11)]
  rfl
theorem cp_X6_174 (F : CallFix p m c cc nL s args BIG RX6) (w : WW D cy A μ s H locs) (hM : RepC cy AD G μ) {i : Nat} {v : Int32} (hk : ok G 6 i 0) (hdg : decode cc pc = .ok (.putfield 174, 3)) (kk : ∀ (H1 : Heap) (locs1 : List Loc) (μ1 : MU), WW D cy A μ1 s H1 locs1 → RepC cy AD (up2 G 11 i v) μ1 → W p l e R s m args below meth c H1 locs1 cells slots Q (F0 m (pc + 3) ls rest)) : W p l e R s m args below meth c H locs cells slots Q (F0 m pc ls (va_rf (xr AD v) :: .ref (AD 6 i 0) :: rest)) := pf_X6_174 F w rfl (hM.a6 hk) (by unfold xr; split <;> rfl) (by unfold xr; split <;> rfl) hdg (fun H1 locs1 w1 => kk H1 locs1 _ w1 (hM.wf hk rfl (by decide) (by decide) rfl (congrArg (fun z => Sum.inr (5, z)) (sf_6_11 AD G i 0 v))))
theorem sf_6_12 (AD : AM) (G : GS) (i j : Nat) (v : Int32) : (shF AD G i).set 11 (va_rf (xr AD v)) = shF AD (up2 G 12 i v) i := by
  unfold shF
  rw [up2_at, up2_ne (by decide : (4 : Nat) ≠ 12), up2_ne (by decide : (5 : Nat) ≠ 12), up2_ne (by decide : (6 : Nat) ≠ 12), up2_ne (by decide : (7 : Nat) ≠ 12), up2_ne (by decide : (8 : Nat) ≠ 12), up2_ne (by decide : (9 : Nat) ≠ 12), up2_ne (by decide : (10 : Nat) ≠ 12), up2_ne (by decide : (11 : Nat) ≠ 12), up2_ne (by decide : (13 : Nat) ≠ 12), up2_ne (by decide : (14 : Nat) ≠ 12), up2_ne (by decide : (15 : Nat) ≠ 12), up2_ne (by decide : (16 : Nat) ≠ 12), up2_ne (by decide : (17 : Nat) ≠ 12)]
  rfl
theorem cp_X6_187 (F : CallFix p m c cc nL s args BIG RX6) (w : WW D cy A μ s H locs) (hM : RepC cy AD G μ) {i : Nat} {v : Int32} (hk : ok G 6 i 0) (hdg : decode cc pc = .ok (.putfield 187, 3)) (kk : ∀ (H1 : Heap) (locs1 : List Loc) (μ1 : MU), WW D cy A μ1 s H1 locs1 → RepC cy AD (up2 G 12 i v) μ1 → W p l e R s m args below meth c H1 locs1 cells slots Q (F0 m (pc + 3) ls rest)) : W p l e R s m args below meth c H locs cells slots Q (F0 m pc ls (va_rf (xr AD v) :: .ref (AD 6 i 0) :: rest)) := pf_X6_187 F w rfl (hM.a6 hk) (by unfold xr; split <;> rfl) (by unfold xr; split <;> rfl) hdg (fun H1 locs1 w1 => kk H1 locs1 _ w1 (hM.wf hk rfl (by decide) (by decide) rfl (congrArg (fun z => Sum.inr (5, z)) (sf_6_12 AD G i 0 v))))
theorem sf_10_33 (AD : AM) (G : GS) (i j : Nat) (v : Int32) : (viF AD G i).set 6 (.int v) = viF AD (up2 G 33 i v) i := by
  unfold viF gnO
  rw [up2_at, up2_ne (by decide : (30 : Nat) ≠ 33), up2_ne (by decide : (31 : Nat) ≠ 33), up2_ne (by decide : (32 : Nat) ≠ 33), up2_ne (by decide : (34 : Nat) ≠ 33), up2_ne (by decide : (38 : Nat) ≠ 33), up2_ne (by decide : (39 : Nat) ≠ 33), up2_ne (by decide : (40 : Nat) ≠ 33), up2_ne (by decide : (41 : Nat) ≠ 33), up2_ne (by decide : (42 : Nat) ≠ 33)]
  rfl
theorem cp_X6_219 (F : CallFix p m c cc nL s args BIG RX6) (w : WW D cy A μ s H locs) (hM : RepC cy AD G μ) {i : Nat} {v : Int32} (hk : ok G 10 i 0) (hdg : decode cc pc = .ok (.putfield 219, 3)) (kk : ∀ (H1 : Heap) (locs1 : List Loc) (μ1 : MU), WW D cy A μ1 s H1 locs1 → RepC cy AD (up2 G 33 i v) μ1 → W p l e R s m args below meth c H1 locs1 cells slots Q (F0 m (pc + 3) ls rest)) : W p l e R s m args below meth c H locs cells slots Q (F0 m pc ls (.int v :: .ref (AD 10 i 0) :: rest)) := pf_X6_219 F w rfl (hM.a10 hk) rfl rfl hdg (fun H1 locs1 w1 => kk H1 locs1 _ w1 (hM.wf hk rfl (by decide) (by decide) rfl (congrArg (fun z => Sum.inr (6, z)) (sf_10_33 AD G i 0 v))))
theorem sf_12_37 (AD : AM) (G : GS) (i j : Nat) (v : Int32) : (fiF G (12 * i + j)).set 2 (.int v) = fiF (up2 G 37 (12 * i + j) v) (12 * i + j) := by
  unfold fiF
  rw [up2_at, up2_ne (by decide : (36 : Nat) ≠ 37), up2_ne (by decide : (44 : Nat) ≠ 37)]
  rfl
theorem cp_X6_228 (F : CallFix p m c cc nL s args BIG RX6) (w : WW D cy A μ s H locs) (hM : RepC cy AD G μ) {i j : Nat} {v : Int32} (hk : ok G 12 i j) (hz : nz v) (hdg : decode cc pc = .ok (.putfield 228, 3)) (kk : ∀ (H1 : Heap) (locs1 : List Loc) (μ1 : MU), WW D cy A μ1 s H1 locs1 → RepC cy AD (up2 G 37 (12 * i + j) v) μ1 → W p l e R s m args below meth c H1 locs1 cells slots Q (F0 m (pc + 3) ls rest)) : W p l e R s m args below meth c H locs cells slots Q (F0 m pc ls (.int v :: .ref (AD 12 i j) :: rest)) := pf_X6_228 F w rfl (hM.a12 hk) hz (nz_fit hz) hdg (fun H1 locs1 w1 => kk H1 locs1 _ w1 (hM.wf hk rfl (by decide) (by decide) rfl (congrArg (fun z => Sum.inr (2, z)) (sf_12_37 AD G i j v))))
theorem sf_12_44 (AD : AM) (G : GS) (i j : Nat) (v : Int32) : (fiF G (12 * i + j)).set 1 (.int v) = fiF (up2 G 44 (12 * i + j) v) (12 * i + j) := by
  unfold fiF
  rw [up2_at, up2_ne (by decide : (36 : Nat) ≠ 44), up2_ne (by decide : (37 : Nat) ≠ 44)]
  rfl
theorem cp_X6_234 (F : CallFix p m c cc nL s args BIG RX6) (w : WW D cy A μ s H locs) (hM : RepC cy AD G μ) {i j : Nat} {v : Int32} (hk : ok G 12 i j) (hz : nz v) (hdg : decode cc pc = .ok (.putfield 234, 3)) (kk : ∀ (H1 : Heap) (locs1 : List Loc) (μ1 : MU), WW D cy A μ1 s H1 locs1 → RepC cy AD (up2 G 44 (12 * i + j) v) μ1 → W p l e R s m args below meth c H1 locs1 cells slots Q (F0 m (pc + 3) ls rest)) : W p l e R s m args below meth c H locs cells slots Q (F0 m pc ls (.int v :: .ref (AD 12 i j) :: rest)) := pf_X6_234 F w rfl (hM.a12 hk) hz (nz_fit hz) hdg (fun H1 locs1 w1 => kk H1 locs1 _ w1 (hM.wf hk rfl (by decide) (by decide) rfl (congrArg (fun z => Sum.inr (2, z)) (sf_12_44 AD G i j v))))
theorem sf_10_38 (AD : AM) (G : GS) (i j : Nat) (v : Int32) : (viF AD G i).set 7 (.int v) = viF AD (up2 G 38 i v) i := by
  unfold viF gnO
  rw [up2_at, up2_ne (by decide : (30 : Nat) ≠ 38), up2_ne (by decide : (31 : Nat) ≠ 38), up2_ne (by decide : (32 : Nat) ≠ 38), up2_ne (by decide : (33 : Nat) ≠ 38), up2_ne (by decide : (34 : Nat) ≠ 38), up2_ne (by decide : (39 : Nat) ≠ 38), up2_ne (by decide : (40 : Nat) ≠ 38), up2_ne (by decide : (41 : Nat) ≠ 38), up2_ne (by decide : (42 : Nat) ≠ 38)]
  rfl
theorem cp_X6_254 (F : CallFix p m c cc nL s args BIG RX6) (w : WW D cy A μ s H locs) (hM : RepC cy AD G μ) {i : Nat} {v : Int32} (hk : ok G 10 i 0) (hdg : decode cc pc = .ok (.putfield 254, 3)) (kk : ∀ (H1 : Heap) (locs1 : List Loc) (μ1 : MU), WW D cy A μ1 s H1 locs1 → RepC cy AD (up2 G 38 i v) μ1 → W p l e R s m args below meth c H1 locs1 cells slots Q (F0 m (pc + 3) ls rest)) : W p l e R s m args below meth c H locs cells slots Q (F0 m pc ls (.int v :: .ref (AD 10 i 0) :: rest)) := pf_X6_254 F w rfl (hM.a10 hk) rfl rfl hdg (fun H1 locs1 w1 => kk H1 locs1 _ w1 (hM.wf hk rfl (by decide) (by decide) rfl (congrArg (fun z => Sum.inr (6, z)) (sf_10_38 AD G i 0 v))))
theorem sf_6_17 (AD : AM) (G : GS) (i j : Nat) (v : Int32) : (shF AD G i).set 16 (.int v) = shF AD (up2 G 17 i v) i := by
  unfold shF
  rw [up2_at, up2_ne (by decide : (4 : Nat) ≠ 17), up2_ne (by decide : (5 : Nat) ≠ 17), up2_ne (by decide : (6 : Nat) ≠ 17), up2_ne (by decide : (7 : Nat) ≠ 17), up2_ne (by decide : (8 : Nat) ≠ 17), up2_ne (by decide : (9 : Nat) ≠ 17), up2_ne (by decide : (10 : Nat) ≠ 17), up2_ne (by decide : (11 : Nat) ≠ 17), up2_ne (by decide : (12 : Nat) ≠ 17), up2_ne (by decide : (13 : Nat) ≠ 17), up2_ne (by decide : (14 : Nat) ≠ 17), up2_ne (by decide : (15 : Nat) ≠ 17), up2_ne (by decide : (16 : Nat) ≠ 17)]
  rfl
theorem cp_X6_266 (F : CallFix p m c cc nL s args BIG RX6) (w : WW D cy A μ s H locs) (hM : RepC cy AD G μ) {i : Nat} {v : Int32} (hk : ok G 6 i 0) (hdg : decode cc pc = .ok (.putfield 266, 3)) (kk : ∀ (H1 : Heap) (locs1 : List Loc) (μ1 : MU), WW D cy A μ1 s H1 locs1 → RepC cy AD (up2 G 17 i v) μ1 → W p l e R s m args below meth c H1 locs1 cells slots Q (F0 m (pc + 3) ls rest)) : W p l e R s m args below meth c H locs cells slots Q (F0 m pc ls (.int v :: .ref (AD 6 i 0) :: rest)) := pf_X6_266 F w rfl (hM.a6 hk) rfl rfl hdg (fun H1 locs1 w1 => kk H1 locs1 _ w1 (hM.wf hk rfl (by decide) (by decide) rfl (congrArg (fun z => Sum.inr (5, z)) (sf_6_17 AD G i 0 v))))
theorem sf_6_14 (AD : AM) (G : GS) (i j : Nat) (v : Int32) : (shF AD G i).set 13 (.int v) = shF AD (up2 G 14 i v) i := by
  unfold shF
  rw [up2_at, up2_ne (by decide : (4 : Nat) ≠ 14), up2_ne (by decide : (5 : Nat) ≠ 14), up2_ne (by decide : (6 : Nat) ≠ 14), up2_ne (by decide : (7 : Nat) ≠ 14), up2_ne (by decide : (8 : Nat) ≠ 14), up2_ne (by decide : (9 : Nat) ≠ 14), up2_ne (by decide : (10 : Nat) ≠ 14), up2_ne (by decide : (11 : Nat) ≠ 14), up2_ne (by decide : (12 : Nat) ≠ 14), up2_ne (by decide : (13 : Nat) ≠ 14), up2_ne (by decide : (15 : Nat) ≠ 14), up2_ne (by decide : (16 : Nat) ≠ 14), up2_ne (by decide : (17 : Nat) ≠ 14)]
  rfl
theorem cp_X6_269 (F : CallFix p m c cc nL s args BIG RX6) (w : WW D cy A μ s H locs) (hM : RepC cy AD G μ) {i : Nat} {v : Int32} (hk : ok G 6 i 0) (hz : nz v) (hdg : decode cc pc = .ok (.putfield 269, 3)) (kk : ∀ (H1 : Heap) (locs1 : List Loc) (μ1 : MU), WW D cy A μ1 s H1 locs1 → RepC cy AD (up2 G 14 i v) μ1 → W p l e R s m args below meth c H1 locs1 cells slots Q (F0 m (pc + 3) ls rest)) : W p l e R s m args below meth c H locs cells slots Q (F0 m pc ls (.int v :: .ref (AD 6 i 0) :: rest)) := pf_X6_269 F w rfl (hM.a6 hk) hz (nz_fit hz) hdg (fun H1 locs1 w1 => kk H1 locs1 _ w1 (hM.wf hk rfl (by decide) (by decide) rfl (congrArg (fun z => Sum.inr (5, z)) (sf_6_14 AD G i 0 v))))
theorem sf_10_39 (AD : AM) (G : GS) (i j : Nat) (v : Int32) : (viF AD G i).set 9 (.int v) = viF AD (up2 G 39 i v) i := by
  unfold viF gnO
  rw [up2_at, up2_ne (by decide : (30 : Nat) ≠ 39), up2_ne (by decide : (31 : Nat) ≠ 39), up2_ne (by decide : (32 : Nat) ≠ 39), up2_ne (by decide : (33 : Nat) ≠ 39), up2_ne (by decide : (34 : Nat) ≠ 39), up2_ne (by decide : (38 : Nat) ≠ 39), up2_ne (by decide : (40 : Nat) ≠ 39), up2_ne (by decide : (41 : Nat) ≠ 39), up2_ne (by decide : (42 : Nat) ≠ 39)]
  rfl
theorem cp_X6_275 (F : CallFix p m c cc nL s args BIG RX6) (w : WW D cy A μ s H locs) (hM : RepC cy AD G μ) {i : Nat} {v : Int32} (hk : ok G 10 i 0) (hz : nz v) (hdg : decode cc pc = .ok (.putfield 275, 3)) (kk : ∀ (H1 : Heap) (locs1 : List Loc) (μ1 : MU), WW D cy A μ1 s H1 locs1 → RepC cy AD (up2 G 39 i v) μ1 → W p l e R s m args below meth c H1 locs1 cells slots Q (F0 m (pc + 3) ls rest)) : W p l e R s m args below meth c H locs cells slots Q (F0 m pc ls (.int v :: .ref (AD 10 i 0) :: rest)) := pf_X6_275 F w rfl (hM.a10 hk) hz (nz_fit hz) hdg (fun H1 locs1 w1 => kk H1 locs1 _ w1 (hM.wf hk rfl (by decide) (by decide) rfl (congrArg (fun z => Sum.inr (6, z)) (sf_10_39 AD G i 0 v))))
theorem sf_10_40 (AD : AM) (G : GS) (i j : Nat) (v : Int32) : (viF AD G i).set 10 (.int v) = viF AD (up2 G 40 i v) i := by
  unfold viF gnO
  rw [up2_at, up2_ne (by decide : (30 : Nat) ≠ 40), up2_ne (by decide : (31 : Nat) ≠ 40), up2_ne (by decide : (32 : Nat) ≠ 40), up2_ne (by decide : (33 : Nat) ≠ 40), up2_ne (by decide : (34 : Nat) ≠ 40), up2_ne (by decide : (38 : Nat) ≠ 40), up2_ne (by decide : (39 : Nat) ≠ 40), up2_ne (by decide : (41 : Nat) ≠ 40), up2_ne (by decide : (42 : Nat) ≠ 40)]
  rfl
theorem cp_X6_285 (F : CallFix p m c cc nL s args BIG RX6) (w : WW D cy A μ s H locs) (hM : RepC cy AD G μ) {i : Nat} {v : Int32} (hk : ok G 10 i 0) (hdg : decode cc pc = .ok (.putfield 285, 3)) (kk : ∀ (H1 : Heap) (locs1 : List Loc) (μ1 : MU), WW D cy A μ1 s H1 locs1 → RepC cy AD (up2 G 40 i v) μ1 → W p l e R s m args below meth c H1 locs1 cells slots Q (F0 m (pc + 3) ls rest)) : W p l e R s m args below meth c H locs cells slots Q (F0 m pc ls (.int v :: .ref (AD 10 i 0) :: rest)) := pf_X6_285 F w rfl (hM.a10 hk) rfl rfl hdg (fun H1 locs1 w1 => kk H1 locs1 _ w1 (hM.wf hk rfl (by decide) (by decide) rfl (congrArg (fun z => Sum.inr (6, z)) (sf_10_40 AD G i 0 v))))
theorem sf_10_41 (AD : AM) (G : GS) (i j : Nat) (v : Int32) : (viF AD G i).set 11 (.int v) = viF AD (up2 G 41 i v) i := by
  unfold viF gnO
  rw [up2_at, up2_ne (by decide : (30 : Nat) ≠ 41), up2_ne (by decide : (31 : Nat) ≠ 41), up2_ne (by decide : (32 : Nat) ≠ 41), up2_ne (by decide : (33 : Nat) ≠ 41), up2_ne (by decide : (34 : Nat) ≠ 41), up2_ne (by decide : (38 : Nat) ≠ 41), up2_ne (by decide : (39 : Nat) ≠ 41), up2_ne (by decide : (40 : Nat) ≠ 41), up2_ne (by decide : (42 : Nat) ≠ 41)]
  rfl
theorem cp_X6_288 (F : CallFix p m c cc nL s args BIG RX6) (w : WW D cy A μ s H locs) (hM : RepC cy AD G μ) {i : Nat} {v : Int32} (hk : ok G 10 i 0) (hdg : decode cc pc = .ok (.putfield 288, 3)) (kk : ∀ (H1 : Heap) (locs1 : List Loc) (μ1 : MU), WW D cy A μ1 s H1 locs1 → RepC cy AD (up2 G 41 i v) μ1 → W p l e R s m args below meth c H1 locs1 cells slots Q (F0 m (pc + 3) ls rest)) : W p l e R s m args below meth c H locs cells slots Q (F0 m pc ls (.int v :: .ref (AD 10 i 0) :: rest)) := pf_X6_288 F w rfl (hM.a10 hk) rfl rfl hdg (fun H1 locs1 w1 => kk H1 locs1 _ w1 (hM.wf hk rfl (by decide) (by decide) rfl (congrArg (fun z => Sum.inr (6, z)) (sf_10_41 AD G i 0 v))))
theorem sf_10_42 (AD : AM) (G : GS) (i j : Nat) (v : Int32) : (viF AD G i).set 8 (.int v) = viF AD (up2 G 42 i v) i := by
  unfold viF gnO
  rw [up2_at, up2_ne (by decide : (30 : Nat) ≠ 42), up2_ne (by decide : (31 : Nat) ≠ 42), up2_ne (by decide : (32 : Nat) ≠ 42), up2_ne (by decide : (33 : Nat) ≠ 42), up2_ne (by decide : (34 : Nat) ≠ 42), up2_ne (by decide : (38 : Nat) ≠ 42), up2_ne (by decide : (39 : Nat) ≠ 42), up2_ne (by decide : (40 : Nat) ≠ 42), up2_ne (by decide : (41 : Nat) ≠ 42)]
  rfl
theorem cp_X6_405 (F : CallFix p m c cc nL s args BIG RX6) (w : WW D cy A μ s H locs) (hM : RepC cy AD G μ) {i : Nat} {v : Int32} (hk : ok G 10 i 0) (hz : nz v) (hdg : decode cc pc = .ok (.putfield 405, 3)) (kk : ∀ (H1 : Heap) (locs1 : List Loc) (μ1 : MU), WW D cy A μ1 s H1 locs1 → RepC cy AD (up2 G 42 i v) μ1 → W p l e R s m args below meth c H1 locs1 cells slots Q (F0 m (pc + 3) ls rest)) : W p l e R s m args below meth c H locs cells slots Q (F0 m pc ls (.int v :: .ref (AD 10 i 0) :: rest)) := pf_X6_405 F w rfl (hM.a10 hk) hz (nz_fit hz) hdg (fun H1 locs1 w1 => kk H1 locs1 _ w1 (hM.wf hk rfl (by decide) (by decide) rfl (congrArg (fun z => Sum.inr (6, z)) (sf_10_42 AD G i 0 v))))
theorem sf_6_15 (AD : AM) (G : GS) (i j : Nat) (v : Int32) : (shF AD G i).set 14 (.int v) = shF AD (up2 G 15 i v) i := by
  unfold shF
  rw [up2_at, up2_ne (by decide : (4 : Nat) ≠ 15), up2_ne (by decide : (5 : Nat) ≠ 15), up2_ne (by decide : (6 : Nat) ≠ 15), up2_ne (by decide : (7 : Nat) ≠ 15), up2_ne (by decide : (8 : Nat) ≠ 15), up2_ne (by decide : (9 : Nat) ≠ 15), up2_ne (by decide : (10 : Nat) ≠ 15), up2_ne (by decide : (11 : Nat) ≠ 15), up2_ne (by decide : (12 : Nat) ≠ 15), up2_ne (by decide : (13 : Nat) ≠ 15), up2_ne (by decide : (14 : Nat) ≠ 15), up2_ne (by decide : (16 : Nat) ≠ 15), up2_ne (by decide : (17 : Nat) ≠ 15)]
  rfl
theorem cp_X6_408 (F : CallFix p m c cc nL s args BIG RX6) (w : WW D cy A μ s H locs) (hM : RepC cy AD G μ) {i : Nat} {v : Int32} (hk : ok G 6 i 0) (hdg : decode cc pc = .ok (.putfield 408, 3)) (kk : ∀ (H1 : Heap) (locs1 : List Loc) (μ1 : MU), WW D cy A μ1 s H1 locs1 → RepC cy AD (up2 G 15 i v) μ1 → W p l e R s m args below meth c H1 locs1 cells slots Q (F0 m (pc + 3) ls rest)) : W p l e R s m args below meth c H locs cells slots Q (F0 m pc ls (.int v :: .ref (AD 6 i 0) :: rest)) := pf_X6_408 F w rfl (hM.a6 hk) rfl rfl hdg (fun H1 locs1 w1 => kk H1 locs1 _ w1 (hM.wf hk rfl (by decide) (by decide) rfl (congrArg (fun z => Sum.inr (5, z)) (sf_6_15 AD G i 0 v))))
theorem sf_6_16 (AD : AM) (G : GS) (i j : Nat) (v : Int32) : (shF AD G i).set 15 (.int v) = shF AD (up2 G 16 i v) i := by
  unfold shF
  rw [up2_at, up2_ne (by decide : (4 : Nat) ≠ 16), up2_ne (by decide : (5 : Nat) ≠ 16), up2_ne (by decide : (6 : Nat) ≠ 16), up2_ne (by decide : (7 : Nat) ≠ 16), up2_ne (by decide : (8 : Nat) ≠ 16), up2_ne (by decide : (9 : Nat) ≠ 16), up2_ne (by decide : (10 : Nat) ≠ 16), up2_ne (by decide : (11 : Nat) ≠ 16), up2_ne (by decide : (12 : Nat) ≠ 16), up2_ne (by decide : (13 : Nat) ≠ 16), up2_ne (by decide : (14 : Nat) ≠ 16), up2_ne (by decide : (15 : Nat) ≠ 16), up2_ne (by decide : (17 : Nat) ≠ 16)]
  rfl
theorem cp_X6_411 (F : CallFix p m c cc nL s args BIG RX6) (w : WW D cy A μ s H locs) (hM : RepC cy AD G μ) {i : Nat} {v : Int32} (hk : ok G 6 i 0) (hdg : decode cc pc = .ok (.putfield 411, 3)) (kk : ∀ (H1 : Heap) (locs1 : List Loc) (μ1 : MU), WW D cy A μ1 s H1 locs1 → RepC cy AD (up2 G 16 i v) μ1 → W p l e R s m args below meth c H1 locs1 cells slots Q (F0 m (pc + 3) ls rest)) : W p l e R s m args below meth c H locs cells slots Q (F0 m pc ls (.int v :: .ref (AD 6 i 0) :: rest)) := pf_X6_411 F w rfl (hM.a6 hk) rfl rfl hdg (fun H1 locs1 w1 => kk H1 locs1 _ w1 (hM.wf hk rfl (by decide) (by decide) rfl (congrArg (fun z => Sum.inr (5, z)) (sf_6_16 AD G i 0 v))))
theorem cp_X0_25 (F : CallFix p m c cc nL s args BIG RX0) (w : WW D cy A μ s H locs) (hM : RepC cy AD G μ) {i j : Nat} {v : Int32} (hk : ok G 13 i j) (hdg : decode cc pc = .ok (.putfield 25, 3)) (kk : ∀ (H1 : Heap) (locs1 : List Loc) (μ1 : MU), WW D cy A μ1 s H1 locs1 → RepC cy AD (up2 G 22 (5 * i + j) v) μ1 → W p l e R s m args below meth c H1 locs1 cells slots Q (F0 m (pc + 3) ls rest)) : W p l e R s m args below meth c H locs cells slots Q (F0 m pc ls (.int v :: .ref (AD 13 i j) :: rest)) := pf_X0_25 F w rfl (hM.a13 hk) rfl rfl hdg (fun H1 locs1 w1 => kk H1 locs1 _ w1 (hM.wf hk rfl (by decide) (by decide) rfl (congrArg (fun z => Sum.inr (1, z)) (sf_13_22 AD G i j v))))
theorem cp_X1_13 (F : CallFix p m c cc nL s args BIG RX1) (w : WW D cy A μ s H locs) (hM : RepC cy AD G μ) {i j : Nat} {v : Int32} (hk : ok G 12 i j) (hz : nz v) (hdg : decode cc pc = .ok (.putfield 13, 3)) (kk : ∀ (H1 : Heap) (locs1 : List Loc) (μ1 : MU), WW D cy A μ1 s H1 locs1 → RepC cy AD (up2 G 37 (12 * i + j) v) μ1 → W p l e R s m args below meth c H1 locs1 cells slots Q (F0 m (pc + 3) ls rest)) : W p l e R s m args below meth c H locs cells slots Q (F0 m pc ls (.int v :: .ref (AD 12 i j) :: rest)) := pf_X1_13 F w rfl (hM.a12 hk) hz (nz_fit hz) hdg (fun H1 locs1 w1 => kk H1 locs1 _ w1 (hM.wf hk rfl (by decide) (by decide) rfl (congrArg (fun z => Sum.inr (2, z)) (sf_12_37 AD G i j v))))
theorem cp_X1_17 (F : CallFix p m c cc nL s args BIG RX1) (w : WW D cy A μ s H locs) (hM : RepC cy AD G μ) {i j : Nat} {v : Int32} (hk : ok G 12 i j) (hz : nz v) (hdg : decode cc pc = .ok (.putfield 17, 3)) (kk : ∀ (H1 : Heap) (locs1 : List Loc) (μ1 : MU), WW D cy A μ1 s H1 locs1 → RepC cy AD (up2 G 44 (12 * i + j) v) μ1 → W p l e R s m args below meth c H1 locs1 cells slots Q (F0 m (pc + 3) ls rest)) : W p l e R s m args below meth c H locs cells slots Q (F0 m pc ls (.int v :: .ref (AD 12 i j) :: rest)) := pf_X1_17 F w rfl (hM.a12 hk) hz (nz_fit hz) hdg (fun H1 locs1 w1 => kk H1 locs1 _ w1 (hM.wf hk rfl (by decide) (by decide) rfl (congrArg (fun z => Sum.inr (2, z)) (sf_12_44 AD G i j v))))
theorem cp_X4_24 (F : CallFix p m c cc nL s args BIG RX4) (w : WW D cy A μ s H locs) (hM : RepC cy AD G μ) {i : Nat} {v : Int32} (hk : ok G 6 i 0) (hdg : decode cc pc = .ok (.putfield 24, 3)) (kk : ∀ (H1 : Heap) (locs1 : List Loc) (μ1 : MU), WW D cy A μ1 s H1 locs1 → RepC cy AD (up2 G 7 i v) μ1 → W p l e R s m args below meth c H1 locs1 cells slots Q (F0 m (pc + 3) ls rest)) : W p l e R s m args below meth c H locs cells slots Q (F0 m pc ls (.int v :: .ref (AD 6 i 0) :: rest)) := pf_X4_24 F w rfl (hM.a6 hk) rfl rfl hdg (fun H1 locs1 w1 => kk H1 locs1 _ w1 (hM.wf hk rfl (by decide) (by decide) rfl (congrArg (fun z => Sum.inr (5, z)) (sf_6_7 AD G i 0 v))))
theorem cp_X4_27 (F : CallFix p m c cc nL s args BIG RX4) (w : WW D cy A μ s H locs) (hM : RepC cy AD G μ) {i : Nat} {v : Int32} (hk : ok G 6 i 0) (hdg : decode cc pc = .ok (.putfield 27, 3)) (kk : ∀ (H1 : Heap) (locs1 : List Loc) (μ1 : MU), WW D cy A μ1 s H1 locs1 → RepC cy AD (up2 G 8 i v) μ1 → W p l e R s m args below meth c H1 locs1 cells slots Q (F0 m (pc + 3) ls rest)) : W p l e R s m args below meth c H locs cells slots Q (F0 m pc ls (.int v :: .ref (AD 6 i 0) :: rest)) := pf_X4_27 F w rfl (hM.a6 hk) rfl rfl hdg (fun H1 locs1 w1 => kk H1 locs1 _ w1 (hM.wf hk rfl (by decide) (by decide) rfl (congrArg (fun z => Sum.inr (5, z)) (sf_6_8 AD G i 0 v))))
theorem cp_X4_43 (F : CallFix p m c cc nL s args BIG RX4) (w : WW D cy A μ s H locs) (hM : RepC cy AD G μ) {i : Nat} {v : Int32} (hk : ok G 6 i 0) (hdg : decode cc pc = .ok (.putfield 43, 3)) (kk : ∀ (H1 : Heap) (locs1 : List Loc) (μ1 : MU), WW D cy A μ1 s H1 locs1 → RepC cy AD (up2 G 10 i v) μ1 → W p l e R s m args below meth c H1 locs1 cells slots Q (F0 m (pc + 3) ls rest)) : W p l e R s m args below meth c H locs cells slots Q (F0 m pc ls (.int v :: .ref (AD 6 i 0) :: rest)) := pf_X4_43 F w rfl (hM.a6 hk) rfl rfl hdg (fun H1 locs1 w1 => kk H1 locs1 _ w1 (hM.wf hk rfl (by decide) (by decide) rfl (congrArg (fun z => Sum.inr (5, z)) (sf_6_10 AD G i 0 v))))
theorem cp_X4_46 (F : CallFix p m c cc nL s args BIG RX4) (w : WW D cy A μ s H locs) (hM : RepC cy AD G μ) {i : Nat} {v : Int32} (hk : ok G 6 i 0) (hdg : decode cc pc = .ok (.putfield 46, 3)) (kk : ∀ (H1 : Heap) (locs1 : List Loc) (μ1 : MU), WW D cy A μ1 s H1 locs1 → RepC cy AD (up2 G 16 i v) μ1 → W p l e R s m args below meth c H1 locs1 cells slots Q (F0 m (pc + 3) ls rest)) : W p l e R s m args below meth c H locs cells slots Q (F0 m pc ls (.int v :: .ref (AD 6 i 0) :: rest)) := pf_X4_46 F w rfl (hM.a6 hk) rfl rfl hdg (fun H1 locs1 w1 => kk H1 locs1 _ w1 (hM.wf hk rfl (by decide) (by decide) rfl (congrArg (fun z => Sum.inr (5, z)) (sf_6_16 AD G i 0 v))))
theorem cp_X5_19 (F : CallFix p m c cc nL s args BIG RX5) (w : WW D cy A μ s H locs) (hM : RepC cy AD G μ) {i : Nat} {v : Int32} (hk : ok G 6 i 0) (hdg : decode cc pc = .ok (.putfield 19, 3)) (kk : ∀ (H1 : Heap) (locs1 : List Loc) (μ1 : MU), WW D cy A μ1 s H1 locs1 → RepC cy AD (up2 G 10 i v) μ1 → W p l e R s m args below meth c H1 locs1 cells slots Q (F0 m (pc + 3) ls rest)) : W p l e R s m args below meth c H locs cells slots Q (F0 m pc ls (.int v :: .ref (AD 6 i 0) :: rest)) := pf_X5_19 F w rfl (hM.a6 hk) rfl rfl hdg (fun H1 locs1 w1 => kk H1 locs1 _ w1 (hM.wf hk rfl (by decide) (by decide) rfl (congrArg (fun z => Sum.inr (5, z)) (sf_6_10 AD G i 0 v))))
theorem cp_X5_28 (F : CallFix p m c cc nL s args BIG RX5) (w : WW D cy A μ s H locs) (hM : RepC cy AD G μ) {i : Nat} {v : Int32} (hk : ok G 6 i 0) (hdg : decode cc pc = .ok (.putfield 28, 3)) (kk : ∀ (H1 : Heap) (locs1 : List Loc) (μ1 : MU), WW D cy A μ1 s H1 locs1 → RepC cy AD (up2 G 7 i v) μ1 → W p l e R s m args below meth c H1 locs1 cells slots Q (F0 m (pc + 3) ls rest)) : W p l e R s m args below meth c H locs cells slots Q (F0 m pc ls (.int v :: .ref (AD 6 i 0) :: rest)) := pf_X5_28 F w rfl (hM.a6 hk) rfl rfl hdg (fun H1 locs1 w1 => kk H1 locs1 _ w1 (hM.wf hk rfl (by decide) (by decide) rfl (congrArg (fun z => Sum.inr (5, z)) (sf_6_7 AD G i 0 v))))
theorem cp_X5_32 (F : CallFix p m c cc nL s args BIG RX5) (w : WW D cy A μ s H locs) (hM : RepC cy AD G μ) {i : Nat} {v : Int32} (hk : ok G 10 i 0) (hdg : decode cc pc = .ok (.putfield 32, 3)) (kk : ∀ (H1 : Heap) (locs1 : List Loc) (μ1 : MU), WW D cy A μ1 s H1 locs1 → RepC cy AD (up2 G 33 i v) μ1 → W p l e R s m args below meth c H1 locs1 cells slots Q (F0 m (pc + 3) ls rest)) : W p l e R s m args below meth c H locs cells slots Q (F0 m pc ls (.int v :: .ref (AD 10 i 0) :: rest)) := pf_X5_32 F w rfl (hM.a10 hk) rfl rfl hdg (fun H1 locs1 w1 => kk H1 locs1 _ w1 (hM.wf hk rfl (by decide) (by decide) rfl (congrArg (fun z => Sum.inr (6, z)) (sf_10_33 AD G i 0 v))))
theorem cp_X5_42 (F : CallFix p m c cc nL s args BIG RX5) (w : WW D cy A μ s H locs) (hM : RepC cy AD G μ) {i : Nat} {v : Int32} (hk : ok G 10 i 0) (hdg : decode cc pc = .ok (.putfield 42, 3)) (kk : ∀ (H1 : Heap) (locs1 : List Loc) (μ1 : MU), WW D cy A μ1 s H1 locs1 → RepC cy AD (up2 G 38 i v) μ1 → W p l e R s m args below meth c H1 locs1 cells slots Q (F0 m (pc + 3) ls rest)) : W p l e R s m args below meth c H locs cells slots Q (F0 m pc ls (.int v :: .ref (AD 10 i 0) :: rest)) := pf_X5_42 F w rfl (hM.a10 hk) rfl rfl hdg (fun H1 locs1 w1 => kk H1 locs1 _ w1 (hM.wf hk rfl (by decide) (by decide) rfl (congrArg (fun z => Sum.inr (6, z)) (sf_10_38 AD G i 0 v))))
theorem cp_X5_62 (F : CallFix p m c cc nL s args BIG RX5) (w : WW D cy A μ s H locs) (hM : RepC cy AD G μ) {i j : Nat} {v : Int32} (hk : ok G 12 i j) (hz : nz v) (hdg : decode cc pc = .ok (.putfield 62, 3)) (kk : ∀ (H1 : Heap) (locs1 : List Loc) (μ1 : MU), WW D cy A μ1 s H1 locs1 → RepC cy AD (up2 G 44 (12 * i + j) v) μ1 → W p l e R s m args below meth c H1 locs1 cells slots Q (F0 m (pc + 3) ls rest)) : W p l e R s m args below meth c H locs cells slots Q (F0 m pc ls (.int v :: .ref (AD 12 i j) :: rest)) := pf_X5_62 F w rfl (hM.a12 hk) hz (nz_fit hz) hdg (fun H1 locs1 w1 => kk H1 locs1 _ w1 (hM.wf hk rfl (by decide) (by decide) rfl (congrArg (fun z => Sum.inr (2, z)) (sf_12_44 AD G i j v))))
theorem cp_X5_66 (F : CallFix p m c cc nL s args BIG RX5) (w : WW D cy A μ s H locs) (hM : RepC cy AD G μ) {i j : Nat} {v : Int32} (hk : ok G 12 i j) (hz : nz v) (hdg : decode cc pc = .ok (.putfield 66, 3)) (kk : ∀ (H1 : Heap) (locs1 : List Loc) (μ1 : MU), WW D cy A μ1 s H1 locs1 → RepC cy AD (up2 G 37 (12 * i + j) v) μ1 → W p l e R s m args below meth c H1 locs1 cells slots Q (F0 m (pc + 3) ls rest)) : W p l e R s m args below meth c H locs cells slots Q (F0 m pc ls (.int v :: .ref (AD 12 i j) :: rest)) := pf_X5_66 F w rfl (hM.a12 hk) hz (nz_fit hz) hdg (fun H1 locs1 w1 => kk H1 locs1 _ w1 (hM.wf hk rfl (by decide) (by decide) rfl (congrArg (fun z => Sum.inr (2, z)) (sf_12_37 AD G i j v))))
theorem cp_X5_69 (F : CallFix p m c cc nL s args BIG RX5) (w : WW D cy A μ s H locs) (hM : RepC cy AD G μ) {i : Nat} {v : Int32} (hk : ok G 10 i 0) (hdg : decode cc pc = .ok (.putfield 69, 3)) (kk : ∀ (H1 : Heap) (locs1 : List Loc) (μ1 : MU), WW D cy A μ1 s H1 locs1 → RepC cy AD (up2 G 40 i v) μ1 → W p l e R s m args below meth c H1 locs1 cells slots Q (F0 m (pc + 3) ls rest)) : W p l e R s m args below meth c H locs cells slots Q (F0 m pc ls (.int v :: .ref (AD 10 i 0) :: rest)) := pf_X5_69 F w rfl (hM.a10 hk) rfl rfl hdg (fun H1 locs1 w1 => kk H1 locs1 _ w1 (hM.wf hk rfl (by decide) (by decide) rfl (congrArg (fun z => Sum.inr (6, z)) (sf_10_40 AD G i 0 v))))
theorem cp_X5_72 (F : CallFix p m c cc nL s args BIG RX5) (w : WW D cy A μ s H locs) (hM : RepC cy AD G μ) {i : Nat} {v : Int32} (hk : ok G 10 i 0) (hdg : decode cc pc = .ok (.putfield 72, 3)) (kk : ∀ (H1 : Heap) (locs1 : List Loc) (μ1 : MU), WW D cy A μ1 s H1 locs1 → RepC cy AD (up2 G 41 i v) μ1 → W p l e R s m args below meth c H1 locs1 cells slots Q (F0 m (pc + 3) ls rest)) : W p l e R s m args below meth c H locs cells slots Q (F0 m pc ls (.int v :: .ref (AD 10 i 0) :: rest)) := pf_X5_72 F w rfl (hM.a10 hk) rfl rfl hdg (fun H1 locs1 w1 => kk H1 locs1 _ w1 (hM.wf hk rfl (by decide) (by decide) rfl (congrArg (fun z => Sum.inr (6, z)) (sf_10_41 AD G i 0 v))))
theorem c_ist (F : CallFix p m c cc nL s args BIG own) (w : WW D cy A μ s H locs) (hM : RepC cy AD G μ) {x : Int32} {r : Nat} (hr : r < 4) (hdg : decode cc pc = .ok (.iastore, 1)) (kk : ∀ (H1 : Heap) (locs1 : List Loc) (μ1 : MU), WW D cy A μ1 s H1 locs1 → RepC cy AD (up2 G 43 r x) μ1 → W p l e R s m args below meth c H1 locs1 cells slots Q (F0 m (pc + 1) ls rest)) : W p l e R s m args below meth c H locs cells slots Q (F0 m pc ls (.int x :: .int (nI r) :: .ref (AD 5 0 0) :: rest)) := by
  refine q_iast F w (hM.1 5 0 0 ⟨by decide, rfl, rfl⟩) (i := nI r) (vp_in_nI hr (by decide)) hdg (fun H1 locs1 w1 => kk H1 locs1 _ w1 (hM.wf (k := 5) (i := 0) (j := 0) ⟨by decide, rfl, rfl⟩ rfl (by decide) (by decide) trivial ?_))
  rw [nI_clamp (Nat.lt_trans hr (by decide))]
  exact congrArg (fun f => (Sum.inl (cy 0, 4, Sum.inl f) : va_E)) (up2_eq G 43 r x).symm
theorem c_zst (F : CallFix p m c cc nL s args BIG own) (w : WW D cy A μ s H locs) (hM : RepC cy AD G μ) {x : Int32} {r : Nat} (hr : r < 4) (hx : x = 0 ∨ x = 1) (hdg : decode cc pc = .ok (.bastore, 1)) (kk : ∀ (H1 : Heap) (locs1 : List Loc) (μ1 : MU), WW D cy A μ1 s H1 locs1 → RepC cy AD (up2 G 2 r x) μ1 → W p l e R s m args below meth c H1 locs1 cells slots Q (F0 m (pc + 1) ls rest)) : W p l e R s m args below meth c H locs cells slots Q (F0 m pc ls (.int x :: .int (nI r) :: .ref (AD 4 0 0) :: rest)) := by
  refine q_zast F w (hM.1 4 0 0 ⟨by decide, rfl, rfl⟩) (i := nI r) (vp_in_nI hr (by decide)) hx hdg (fun H1 locs1 w1 => kk H1 locs1 _ w1 (hM.wf (k := 4) (i := 0) (j := 0) ⟨by decide, rfl, rfl⟩ rfl (by decide) (by decide) trivial ?_))
  rw [nI_clamp (Nat.lt_trans hr (by decide))]
  exact congrArg (fun f => (Sum.inl (cy 1, 4, Sum.inl f) : va_E)) (up2_eq G 2 r x).symm
theorem lv_rf {x : Option Nat} {a : Nat} (h : x = some a) (k : W p l e R s m args below meth c H locs cells slots Q (F0 m pc ls (.ref a :: rest))) : W p l e R s m args below meth c H locs cells slots Q (F0 m pc ls (va_rf x :: rest)) := by subst h; exact k
theorem q_cast (F : CallFix p m c cc nL s args BIG own) (w : WW D cy A μ s H locs) {ci index : Nat} {fs : List Value} {q : vw_C} (hlink : Cond.classLink own index q.1 ∈ BIG) (hc : vwCl[ci]? = some q) (he : μ a = some (.inr (ci, fs))) (hdg : decode cc pc = .ok (.checkcast index, 3)) (kk : W p l e R s m args below meth c H locs cells slots Q (F0 m (pc + 3) ls (.ref a :: rest))) : W p l e R s m args below meth c H locs cells slots Q (F0 m pc ls (.ref a :: rest)) := by
  obtain ⟨cC, hC⟩ := w.2.1.1 ci q hc
  exact va_castS F.1 F.2.1 F.2.2.2.1 (F.2.2.2.2 _ hlink) hC (w.recv he hc) hdg kk
theorem q_aload_n (F : CallFix p m c cc nL s args BIG own) {k : Fin 4} {i : Nat} {x : Option Nat} (hdg : decode cc pc = .ok (.aload_n k, 1)) (hi : (k : Nat) = i) (hl : ls[i]? = some (.val (va_rf x))) (kk : W p l e R s m args below meth c H locs cells slots Q (F0 m (pc + 1) ls (va_rf x :: rest))) : W p l e R s m args below meth c H locs cells slots Q (F0 m pc ls rest) := by
  cases x with
  | none => exact lv_aload_nN F.1 F.2.1 hdg hi hl kk
  | some y => exact lv_aload_n F.1 F.2.1 hdg hi hl kk
theorem q_aload (F : CallFix p m c cc nL s args BIG own) {i : Nat} {x : Option Nat} (hdg : decode cc pc = .ok (.aload i, 2)) (hl : ls[i]? = some (.val (va_rf x))) (kk : W p l e R s m args below meth c H locs cells slots Q (F0 m (pc + 2) ls (va_rf x :: rest))) : W p l e R s m args below meth c H locs cells slots Q (F0 m pc ls rest) := by
  cases x with
  | none => exact lv_aloadN F.1 F.2.1 hdg hl kk
  | some y => exact lv_aload F.1 F.2.1 hdg hl kk
theorem q_astore_n (F : CallFix p m c cc nL s args BIG own) {k : Fin 4} {i : Nat} {x : Option Nat} {lv lv' : List (Nat × Value)} (hdg : decode cc pc = .ok (.astore_n k, 1)) (hi : (k : Nat) = i) (h : lv_has ls nL lv) (hn : i < nL) (hl : (i, va_rf x) :: lv.filter (fun q => !(q.1 == i) && !(q.1 + 1 == i && q.2.category == 2)) = lv') (kk : ∀ ls' : Array Slot, lv_has ls' nL lv' → W p l e R s m args below meth c H locs cells slots Q (F0 m (pc + 1) ls' rest)) : W p l e R s m args below meth c H locs cells slots Q (F0 m pc ls (va_rf x :: rest)) := by
  cases x with
  | none => exact lv_astore_nN F.1 F.2.1 hdg hi h hn hl kk
  | some y => exact lv_astore_n F.1 F.2.1 hdg hi h hn hl kk
theorem q_astore (F : CallFix p m c cc nL s args BIG own) {i : Nat} {x : Option Nat} {lv lv' : List (Nat × Value)} (hdg : decode cc pc = .ok (.astore i, 2)) (h : lv_has ls nL lv) (hn : i < nL) (hl : (i, va_rf x) :: lv.filter (fun q => !(q.1 == i) && !(q.1 + 1 == i && q.2.category == 2)) = lv') (kk : ∀ ls' : Array Slot, lv_has ls' nL lv' → W p l e R s m args below meth c H locs cells slots Q (F0 m (pc + 2) ls' rest)) : W p l e R s m args below meth c H locs cells slots Q (F0 m pc ls (va_rf x :: rest)) := by
  cases x with
  | none => exact lv_astoreN F.1 F.2.1 hdg h hn hl kk
  | some y => exact lv_astore F.1 F.2.1 hdg h hn hl kk
theorem q_ifnull (hexec : p.tables.exec = Jvm.exec) (hb9 : c.code = cc) {x : Option Nat} (P : Prop) [Decidable P] (hn : P → x = none) (hs : ¬ P → ∃ a, x = some a) {off : Int} {tgt : Nat} (hdg : decode cc pc = .ok (.ifnull off, 3)) (ht : (pc : Int) + off = (tgt : Int)) (kt : P → W p l e R s m args below meth c H locs cells slots Q (F0 m tgt ls rest)) (kf : ¬ P → W p l e R s m args below meth c H locs cells slots Q (F0 m (pc + 3) ls rest)) : W p l e R s m args below meth c H locs cells slots Q (F0 m pc ls (va_rf x :: rest)) := by
  by_cases h : P
  · rw [hn h]; exact lv_ifnullN hexec hb9 hdg ht (kt h)
  · obtain ⟨b, hb⟩ := hs h
    rw [hb]; exact lv_ifnull hexec hb9 hdg (kf h)
theorem q_ifnonnull (hexec : p.tables.exec = Jvm.exec) (hb9 : c.code = cc) {x : Option Nat} (P : Prop) [Decidable P] (hn : P → x = none) (hs : ¬ P → ∃ a, x = some a) {off : Int} {tgt : Nat} (hdg : decode cc pc = .ok (.ifnonnull off, 3)) (ht : (pc : Int) + off = (tgt : Int)) (kt : ¬ P → W p l e R s m args below meth c H locs cells slots Q (F0 m tgt ls rest)) (kf : P → W p l e R s m args below meth c H locs cells slots Q (F0 m (pc + 3) ls rest)) : W p l e R s m args below meth c H locs cells slots Q (F0 m pc ls (va_rf x :: rest)) := by
  by_cases h : P
  · rw [hn h]; exact lv_ifnonnullN hexec hb9 hdg (kf h)
  · obtain ⟨b, hb⟩ := hs h
    rw [hb]; exact lv_ifnonnull hexec hb9 hdg ht (kt h)
theorem q_acmp_eq (hexec : p.tables.exec = Jvm.exec) (hb9 : c.code = cc) {rx ry : Option Nat} (P : Prop) (hP : rx = ry ↔ P) {off : Int} {tgt : Nat} (hdg : decode cc pc = .ok (.if_acmp .eq off, 3)) (ht : (pc : Int) + off = (tgt : Int)) (kt : P → W p l e R s m args below meth c H locs cells slots Q (F0 m tgt ls rest)) (kf : ¬ P → W p l e R s m args below meth c H locs cells slots Q (F0 m (pc + 3) ls rest)) : W p l e R s m args below meth c H locs cells slots Q (F0 m pc ls (va_rf ry :: va_rf rx :: rest)) := lv_acmp_eq hexec hb9 hdg ht (fun h => kt (hP.mp h)) (fun h => kf (fun q => h (hP.mpr q)))
theorem q_acmp_ne (hexec : p.tables.exec = Jvm.exec) (hb9 : c.code = cc) {rx ry : Option Nat} (P : Prop) (hP : rx = ry ↔ P) {off : Int} {tgt : Nat} (hdg : decode cc pc = .ok (.if_acmp .ne off, 3)) (ht : (pc : Int) + off = (tgt : Int)) (kt : ¬ P → W p l e R s m args below meth c H locs cells slots Q (F0 m tgt ls rest)) (kf : P → W p l e R s m args below meth c H locs cells slots Q (F0 m (pc + 3) ls rest)) : W p l e R s m args below meth c H locs cells slots Q (F0 m pc ls (va_rf ry :: va_rf rx :: rest)) := lv_acmp_ne hexec hb9 hdg ht (fun h => kt (fun q => h (hP.mpr q))) (fun h => kf (hP.mp h))
theorem q_rSN (F : CallFix p m c cc nL s args BIG own) (w : WW D cy A μ s H locs) {y : MethodName} {host : String} {b : ByteArray} {n k idx : Nat} {r : Option FieldType} {rm : Room} {v : Int32} {As : List Value} (hN : va_Nw (.methodLinkNest own idx y host) s) (hs : Cond.static y ∈ BIG) (hini : Cond.initialized y.cls ∈ BIG) (hg : GoodIn BIG (WS y b n r)) (hd : y.cls ≠ "java/lang/invoke/MethodHandle" ∧ y.cls ≠ "java/lang/invoke/VarHandle" ∧ (parseMethodDescriptor y.desc).map (fun d => d.parameters.length) = some k)
    (hM : Met l y (WS y b n r) rm (va_Pc As (Wd D cy A μ)) (QcRead v) 0 0 (fun _ => False)) (hdg : decode cc pc = .ok (.invokestatic idx, 3)) (hn : As.length = k) (hst : st0 = As.reverse ++ rest) (hsz : ls.size = nL) (hR : rm.cells = 0 ∧ rm.slots = 0 ∧ rm.frames + 1 ≤ R.frames ∧ 8 + (n + 11) + rm.locals ≤ R.locals) (hroom : (rest.map fun v => v.category).sum ≤ 8)
    (hf : cells ≤ R.cells ∧ slots ≤ R.slots) (kk : W p l e R s m args below meth c H locs cells slots Q (F0 m (pc + 3) ls (.int v :: rest))) : W p l e R s m args below meth c H locs cells slots Q (F0 m pc ls st0) := by
  have hr := va_runSN (e := e) (below := below) (meth := meth) (H := H) (locs := locs) (As := As) (rest := rest) (g := F0 m pc ls st0) F hM ⟨va_cnB k F.2.2.2.2 hg rfl hR.1 hR.2.1 hN (F.2.2.2.2 _ hini) hd ⟨hR.2.2.1, hR.2.2.2⟩, F.2.2.2.2 _ hs, trivial⟩ ⟨Wd.blind, fun U hU hW => ⟨rfl, w.at hU hW⟩⟩ rfl hn hsz hst (lv_room hroom) hdg ⟨hf.1, hf.2⟩
  intro T hT X
  obtain ⟨v1, st₀, t, T', L, h0, X', hL, e1, e2, hq, st⟩ := hr T hT X
  obtain ⟨hv, hh⟩ := hq
  cases hv
  obtain ⟨t2, a1, b1⟩ := kk T' (by rw [e1, hh, h0]) (Stand.forget X' (fun q h => (hL q h).elim))
  exact ⟨t2, st t2 a1, b1⟩
end RC
