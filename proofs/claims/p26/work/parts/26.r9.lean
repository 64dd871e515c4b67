def KR : List Nat := [1, 2, 3, 4, 5, 6, 7, 8, 9, 10, 11, 12, 13, 14, 15, 17, 18, 19, 21, 23, 24, 25, 26, 27, 28, 29, 30, 31, 32, 33, 34, 35, 36, 38, 39, 40, 41, 42, 43]
def EQR (M G : GS) : Prop := ∀ k, k ∈ KR → M k = G k
theorem al_c {P : Nat → Prop} {a : Nat} {l : List Nat} (h1 : P a) (h2 : ∀ k, k ∈ l → P k) : ∀ k, k ∈ a :: l → P k := fun k hk => by
  rcases List.mem_cons.mp hk with e | e
  · rw [e]; exact h1
  · exact h2 k e
theorem al_n {P : Nat → Prop} : ∀ k, k ∈ ([] : List Nat) → P k := fun k hk => by cases hk
theorem EQR.tm {M G M1 G1 : GS} (h : EQR M G) (TG TM S : List Nat) (eg : ∀ j, j ∉ TG → G1 j = G j) (em : ∀ j, j ∉ TM → M1 j = M j) (d : ∀ k, k ∈ KR → k ∈ S ∨ (k ∉ TG ∧ k ∉ TM)) (hs : ∀ k, k ∈ S → M1 k = G1 k) : EQR M1 G1 := fun k hk => (d k hk).elim (hs k) (fun q => (em k q.2).trans ((h k hk).trans (eg k q.1).symm))
def E16 (m g : Nat → Int32) : Prop := ∀ s, m s = g s ∨ (g s = 9000 ∧ m s = 100000)
def E20 (d t g : Nat → Int32) : Prop := ∀ x, g x = d x + t x
def T20 (t : Nat → Int32) : Prop := ∀ x, ∃ T, T ≤ 1825 ∧ t x = nI T
def E22 (m g : Nat → Int32) : Prop := ∀ x, ∃ e, e < 16 ∧ g x = nI e ∧ m x = nI (2 * e)
def E37 (m a b : Nat → Int32) : Prop := ∀ x, m x = if a x = 0 then (if b x = 0 then 0 else 2) else 1
def B1 (g : Nat → Int32) : Prop := ∃ t, t ≤ 9000 ∧ g 0 = nI t
def B4 (g : Nat → Int32) : Prop := ∀ x, ∃ b, b < 4 ∧ g x = nI b
def B10 (a b : Nat → Int32) : Prop := ∀ s, (a s = -1 ∧ b s = -1) ∨ ∃ p, p < 4 ∧ a s = nI p
def B6 (g : Nat → Int32) : Prop := ∀ s, ¬ g s < 0
def B33 (a f : Nat → Int32) : Prop := ∀ v, a v = 0 → (f v).toNatClampNeg < 3
def B40 (a b : Nat → Int32) : Prop := ∀ v, (a v = 0 ∨ a v = 1 ∨ a v = 2) ∧ (b v = 0 ∨ b v = 1 ∨ b v = 2)
def B19 (g : Nat → Int32) : Prop := ∀ x, ∃ d, d ≤ 9000 ∧ g x = nI d
def Zs (n : Nat) (g : Nat → Int32) : Prop := ∀ x, n ≤ x → g x = 0
def ZA (G : GS) : Prop := Zs (gnS G) (G 9) ∧ Zs (gnS G) (G 12) ∧ Zs (gnS G) (G 14) ∧ Zs (gnS G) (G 15) ∧ Zs (gnS G) (G 17) ∧ Zs (5 * gnS G) (G 18) ∧ Zs (gnV G) (G 30) ∧ Zs (gnV G) (G 35) ∧ Zs (gnV G) (G 39) ∧ Zs (gnV G) (G 40) ∧ Zs (gnV G) (G 41) ∧ Zs (gnV G) (G 42)
abbrev N4 := Int32 × Int32 × Int32 × Int32
def nl (G : GS) (s : Nat) : Nat → List N4
  | 0 => []
  | k + 1 => (G 46 (514 * s + k), G 47 (514 * s + k), G 48 (514 * s + k), G 49 (514 * s + k)) :: nl G s k
def nlg (G : GS) (s : Nat) : List N4 := nl G s (gnN G s)
def lst (w : Int32) : List N4 → Option (Int32 × Int32)
  | [] => none
  | q :: t => if q.1 = w then some q.2.2 else lst w t
def cL (w x : Int32) : List N4 → Nat
  | [] => 0
  | q :: t => cL w x t + (if q.1 = w then (if q.2.1 = x then 1 else 0) else 0)
def sN (a : Nat → Nat) : List N4 → Nat
  | [] => 0
  | q :: t => sN a t + (if q.1 = 2 then a q.2.1.toNatClampNeg else 0)
def sV (g : Nat → Int32) (s : Nat) (a : Nat → Nat) : Nat → Nat
  | 0 => 0
  | k + 1 => sV g s a k + (if g k = nI s then a k else 0)
def kn (G : GS) (s v : Nat) (y : Int32) : Int32 := if v < gnV G then (if G 30 v = nI s then y else 0) else 0
def NQ (G : GS) (s : Nat) (L : List N4) : Prop := ∀ q, q ∈ L → q.1 = 2 → ∃ v, v < gnV G ∧ q.2.1 = nI v ∧ G 30 v = nI s ∧ q.2.2.1 = G 32 v
def NK (G : GS) (s : Nat) (L : List N4) : Prop := ∀ v, v < 60 → nI (cL 3 (nI v) L) = kn G s v (G 35 v) ∧ nI (cL 4 (nI v) L) = kn G s v (if G 38 v = -1 then 0 else 1) ∧ nI (cL 5 (nI v) L) = kn G s v (G 40 v)
def NTs (n : Nat) (G : GS) (s : Nat) : Prop := gnN G s ≤ 2 + n ∧ lst 0 (nlg G s) = some (G 4 s, G 6 s) ∧ lst 1 (nlg G s) = some (G 7 s, G 8 s) ∧ NQ G s (nlg G s) ∧ (∀ a, sN a (nlg G s) = sV (G 30) s a (gnV G)) ∧ NK G s (nlg G s)
def NT (n : Nat) (G : GS) : Prop := ∀ s, s < gnS G → NTs n G s
def R9 (n : Nat) (G M : GS) : Prop := InvC G ∧ EQR M G ∧ E16 (M 16) (G 16) ∧ E20 (G 19) (M 20) (G 20) ∧ T20 (M 20) ∧ E22 (M 22) (G 22) ∧ E37 (M 37) (G 37) (G 44) ∧ B1 (G 1) ∧ B4 (G 8) ∧ B4 (G 21) ∧ B10 (G 10) (G 11) ∧ B6 (G 6) ∧ B33 (G 33) (G 35) ∧ B40 (G 40) (G 41) ∧ B19 (G 19) ∧ ZA G ∧ NT n G
section R9s
variable {n : Nat} {G M : GS}
theorem R9.ic (h : R9 n G M) : InvC G := h.1
theorem R9.eq (h : R9 n G M) : EQR M G := h.2.1
theorem R9.q (h : R9 n G M) (k : Nat) (hk : k ∈ KR := by decide) : M k = G k := h.2.1 k hk
theorem R9.e16 (h : R9 n G M) : E16 (M 16) (G 16) := h.2.2.1
theorem R9.e20 (h : R9 n G M) : E20 (G 19) (M 20) (G 20) := h.2.2.2.1
theorem R9.t20 (h : R9 n G M) : T20 (M 20) := h.2.2.2.2.1
theorem R9.e22 (h : R9 n G M) : E22 (M 22) (G 22) := h.2.2.2.2.2.1
theorem R9.e37 (h : R9 n G M) : E37 (M 37) (G 37) (G 44) := h.2.2.2.2.2.2.1
theorem R9.b1 (h : R9 n G M) : B1 (G 1) := h.2.2.2.2.2.2.2.1
theorem R9.b8 (h : R9 n G M) : B4 (G 8) := h.2.2.2.2.2.2.2.2.1
theorem R9.b21 (h : R9 n G M) : B4 (G 21) := h.2.2.2.2.2.2.2.2.2.1
theorem R9.b10 (h : R9 n G M) : B10 (G 10) (G 11) := h.2.2.2.2.2.2.2.2.2.2.1
theorem R9.b6 (h : R9 n G M) : B6 (G 6) := h.2.2.2.2.2.2.2.2.2.2.2.1
theorem R9.b33 (h : R9 n G M) : B33 (G 33) (G 35) := h.2.2.2.2.2.2.2.2.2.2.2.2.1
theorem R9.b40 (h : R9 n G M) : B40 (G 40) (G 41) := h.2.2.2.2.2.2.2.2.2.2.2.2.2.1
theorem R9.b19 (h : R9 n G M) : B19 (G 19) := h.2.2.2.2.2.2.2.2.2.2.2.2.2.2.1
theorem R9.za (h : R9 n G M) : ZA G := h.2.2.2.2.2.2.2.2.2.2.2.2.2.2.2.1
theorem R9.nt (h : R9 n G M) : NT n G := h.2.2.2.2.2.2.2.2.2.2.2.2.2.2.2.2
theorem R9.S (h : R9 n G M) : gnS M = gnS G := congrArg (fun z : Nat → Int32 => (z 0).toNatClampNeg) (h.q 3)
theorem R9.R (h : R9 n G M) : gnR M = gnR G := congrArg (fun z : Nat → Int32 => (z 0).toNatClampNeg) (h.q 23)
theorem R9.V (h : R9 n G M) : gnV M = gnV G := congrArg (fun z : Nat → Int32 => (z 0).toNatClampNeg) (h.q 29)
theorem R9.F (h : R9 n G M) : gnF M = gnF G := funext (fun x => congrArg (fun z : Nat → Int32 => (z x).toNatClampNeg) (h.q 35))
theorem R9.z (h : R9 n G M) (c : Int32) : R9 n G (up2 M 0 0 c) := ⟨h.1, fun k hk => (up2_ne (fun e => by rw [e] at hk; revert hk; decide)).trans (h.2.1 k hk), h.2.2⟩
theorem R9.up (h : R9 n G M) : R9 (n + 1) G M := ⟨h.1, h.2.1, h.2.2.1, h.2.2.2.1, h.2.2.2.2.1, h.2.2.2.2.2.1, h.2.2.2.2.2.2.1, h.2.2.2.2.2.2.2.1, h.2.2.2.2.2.2.2.2.1, h.2.2.2.2.2.2.2.2.2.1, h.2.2.2.2.2.2.2.2.2.2.1, h.2.2.2.2.2.2.2.2.2.2.2.1, h.2.2.2.2.2.2.2.2.2.2.2.2.1, h.2.2.2.2.2.2.2.2.2.2.2.2.2.1, h.2.2.2.2.2.2.2.2.2.2.2.2.2.2.1, h.za, fun s hs => ⟨Nat.le_succ_of_le (h.nt s hs).1, (h.nt s hs).2⟩⟩
theorem R9.im (h : R9 n G M) : InvM M := by
  have hi := h.ic
  refine ⟨?_, ?_, ?_, fun v hv => ?_, fun v hv => ?_, fun i _ => ?_, fun j _ => ?_, fun j _ => ?_, fun j hj => ?_, fun i _ hn => ?_⟩
  · rw [h.S, h.q 3]; exact ⟨hi.s.1, hi.s.2.1⟩
  · rw [h.R, h.q 23]; exact ⟨hi.r.1, hi.r.2.1⟩
  · rw [h.V, h.q 29]; exact ⟨hi.v.1, hi.v.2.1⟩
  · rw [h.F, h.q 35]
    rcases Nat.lt_or_ge v (gnV G) with q | q
    · exact ⟨(hi.f q).1, (hi.f q).2.1⟩
    · have e : G 35 v = 0 := h.za.2.2.2.2.2.2.2.1 v q
      unfold gnF
      rw [e]
      decide
  · rw [h.q 30]
    rcases Nat.lt_or_ge v (gnV G) with q | q
    · rw [(hi.so q).1]
      exact vp_in_nI (Nat.lt_of_lt_of_le (hi.so q).2 hi.s.2.1) (by decide)
    · have e : G 30 v = 0 := h.za.2.2.2.2.2.2.1 v q
      rw [e]
      exact vp_in_nI (n := 0) (by decide) (by decide)
  · rw [h.q 8]
    obtain ⟨b, b1, b2⟩ := h.b8 i
    rw [b2]
    exact vp_in_nI b1 (by decide)
  · rw [h.q 21]
    obtain ⟨b, b1, b2⟩ := h.b21 j
    rw [b2]
    exact vp_in_nI b1 (by decide)
  · obtain ⟨b, b1, b2⟩ := h.t20 j
    unfold gnT
    rw [b2, nI_clamp (by omega)]
    exact ⟨rfl, b1⟩
  · rw [h.q 2]; exact hi.b2 hj
  · rw [h.q 12] at hn ⊢
    rcases Nat.lt_or_ge i (gnS G) with q | q
    · have b := hi.re 12 (by decide) q hn
      rw [b.1]
      exact vp_in_nI (Nat.lt_of_lt_of_le b.2 hi.v.2.1) (by decide)
    · have e : G 12 i = 0 := h.za.2.1 i q
      rw [e]
      exact vp_in_nI (n := 0) (by decide) (by decide)
theorem R9.z0 : R9 0 G0 G0 := by
  have c : ∀ a x, G0 a x = 0 := fun _ _ => rfl
  refine ⟨InvC.z, fun k _ => rfl, fun s => Or.inl rfl, fun x => rfl, fun x => ⟨0, by decide, rfl⟩, fun x => ⟨0, by decide, rfl, rfl⟩, fun x => rfl, ⟨0, by decide, rfl⟩, fun x => ⟨0, by decide, rfl⟩, fun x => ⟨0, by decide, rfl⟩, fun s => Or.inr ⟨0, by decide, rfl⟩, fun s => (by decide : ¬ (0 : Int32) < 0), fun v _ => (by decide : (0 : Int32).toNatClampNeg < 3), fun v => ⟨Or.inl rfl, Or.inl rfl⟩, fun x => ⟨0, by decide, rfl⟩, ?_, fun s hs => absurd (Nat.lt_of_lt_of_eq hs cl0) (Nat.not_lt_zero s)⟩
  exact ⟨fun _ _ => rfl, fun _ _ => rfl, fun _ _ => rfl, fun _ _ => rfl, fun _ _ => rfl, fun _ _ => rfl, fun _ _ => rfl, fun _ _ => rfl, fun _ _ => rfl, fun _ _ => rfl, fun _ _ => rfl, fun _ _ => rfl⟩
theorem R9.rf : RF9 R9 := fun n G M h => by
  have hi := h.ic
  have p10 : ∀ s, G 10 s = -1 ∨ (G 10 s = nI (G 10 s).toNatClampNeg ∧ (G 10 s).toNatClampNeg < 4) := fun s => by
    rcases h.b10 s with q | ⟨p, q, e⟩
    · exact Or.inl q.1
    · refine Or.inr ?_
      rw [e, nI_clamp (by omega)]
      exact ⟨rfl, q⟩
  refine ⟨hi, h.im, fun hn s hs => ?_, fun s _ => p10 s, fun s _ => ?_, fun v hv => ?_, fun s hs hn => ?_⟩
  · have := (h.nt s hs).1
    omega
  · rw [h.q 10]; exact p10 s
  · rw [h.V] at hv
    rw [h.q 30]
    exact ⟨(hi.so hv).1, Nat.lt_of_lt_of_le (hi.so hv).2 hi.s.2.1⟩
  · rw [h.S] at hs
    rw [h.q 13] at hn ⊢
    have b := hi.re 13 (by decide) hs hn
    exact ⟨b.1, Nat.lt_of_lt_of_le b.2 hi.v.2.1⟩
end R9s
