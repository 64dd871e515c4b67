def gcT (G : GS) (x : Nat) : Nat := (G 20 x - G 19 x).toNatClampNeg
def InvC (G : GS) : Prop := (G 3 0 = nI (gnS G) ∧ gnS G ≤ 12 ∧ gmS G = gnS G) ∧ (G 23 0 = nI (gnR G) ∧ gnR G ≤ 20 ∧ gmR G = gnR G) ∧ (G 29 0 = nI (gnV G) ∧ gnV G ≤ 60 ∧ gmV G = gnV G) ∧ (∀ v, v < gnV G → G 35 v = nI (gnF G v) ∧ gnF G v ≤ 12 ∧ gmF G v = gnF G v) ∧ (∀ s, s < gnS G → G 45 s = nI (gnN G s) ∧ gnN G s ≤ 514 ∧ gmN G s = gnN G s) ∧ (∀ v, v < gnV G → G 30 v = nI (gnO G v) ∧ gnO G v < gnS G) ∧ (∀ s, s < gnS G → (¬ G 11 s = -1 → G 11 s = nI (G 11 s).toNatClampNeg ∧ (G 11 s).toNatClampNeg < gnV G) ∧ (¬ G 12 s = -1 → G 12 s = nI (G 12 s).toNatClampNeg ∧ (G 12 s).toNatClampNeg < gnV G) ∧ (¬ G 13 s = -1 → G 13 s = nI (G 13 s).toNatClampNeg ∧ (G 13 s).toNatClampNeg < gnV G)) ∧ (∀ s f, s < gnS G → f < 5 → nz (G 18 (5 * s + f)) ∧ (G 18 (5 * s + f) = 1 → G 20 (5 * s + f) - G 19 (5 * s + f) = nI (gcT G (5 * s + f)) ∧ 1 ≤ gcT G (5 * s + f) ∧ gcT G (5 * s + f) ≤ 1825)) ∧ (∀ i, i < 4 → nz (G 2 i)) ∧ (∀ s, s < gnS G → nz (G 14 s)) ∧ (∀ v j, v < gnV G → j < gnF G v → nz (G 37 (12 * v + j)) ∧ nz (G 44 (12 * v + j))) ∧ (∀ v, v < gnV G → nz (G 39 v) ∧ nz (G 42 v))
section IC
variable {G : GS}
theorem InvC.s (h : InvC G) : G 3 0 = nI (gnS G) ∧ gnS G ≤ 12 ∧ gmS G = gnS G := h.1
theorem InvC.r (h : InvC G) : G 23 0 = nI (gnR G) ∧ gnR G ≤ 20 ∧ gmR G = gnR G := h.2.1
theorem InvC.v (h : InvC G) : G 29 0 = nI (gnV G) ∧ gnV G ≤ 60 ∧ gmV G = gnV G := h.2.2.1
theorem InvC.f (h : InvC G) {v : Nat} (hv : v < gnV G) : G 35 v = nI (gnF G v) ∧ gnF G v ≤ 12 ∧ gmF G v = gnF G v := h.2.2.2.1 v hv
theorem InvC.n (h : InvC G) {s : Nat} (hs : s < gnS G) : G 45 s = nI (gnN G s) ∧ gnN G s ≤ 514 ∧ gmN G s = gnN G s := h.2.2.2.2.1 s hs
theorem InvC.so (h : InvC G) {v : Nat} (hv : v < gnV G) : G 30 v = nI (gnO G v) ∧ gnO G v < gnS G := h.2.2.2.2.2.1 v hv
theorem InvC.re (h : InvC G) (f : Nat) (hf : f = 11 ∨ f = 12 ∨ f = 13) {s : Nat} (hs : s < gnS G) (hn : ¬ G f s = -1) : G f s = nI (G f s).toNatClampNeg ∧ (G f s).toNatClampNeg < gnV G := by
  have q := h.2.2.2.2.2.2.1 s hs
  rcases hf with rfl | rfl | rfl
  · exact q.1 hn
  · exact q.2.1 hn
  · exact q.2.2 hn
theorem InvC.ce (h : InvC G) {s f : Nat} (hs : s < gnS G) (hf : f < 5) : nz (G 18 (5 * s + f)) := (h.2.2.2.2.2.2.2.1 s f hs hf).1
theorem InvC.ca (h : InvC G) {s f : Nat} (hs : s < gnS G) (hf : f < 5) (hc : G 18 (5 * s + f) = 1) : G 20 (5 * s + f) - G 19 (5 * s + f) = nI (gcT G (5 * s + f)) ∧ 1 ≤ gcT G (5 * s + f) ∧ gcT G (5 * s + f) ≤ 1825 := (h.2.2.2.2.2.2.2.1 s f hs hf).2 hc
theorem InvC.b2 (h : InvC G) {i : Nat} (hi : i < 4) : nz (G 2 i) := h.2.2.2.2.2.2.2.2.1 i hi
theorem InvC.b14 (h : InvC G) {s : Nat} (hs : s < gnS G) : nz (G 14 s) := h.2.2.2.2.2.2.2.2.2.1 s hs
theorem InvC.b37 (h : InvC G) {v j : Nat} (hv : v < gnV G) (hj : j < gnF G v) : nz (G 37 (12 * v + j)) ∧ nz (G 44 (12 * v + j)) := h.2.2.2.2.2.2.2.2.2.2.1 v j hv hj
theorem InvC.b39 (h : InvC G) {v : Nat} (hv : v < gnV G) : nz (G 39 v) ∧ nz (G 42 v) := h.2.2.2.2.2.2.2.2.2.2.2 v hv
theorem InvC.ms (h : InvC G) {i : Nat} (hi : i < gnS G) : i < gmS G := by rw [h.s.2.2]; exact hi
theorem InvC.mr (h : InvC G) {i : Nat} (hi : i < gnR G) : i < gmR G := by rw [h.r.2.2]; exact hi
theorem InvC.mv (h : InvC G) {i : Nat} (hi : i < gnV G) : i < gmV G := by rw [h.v.2.2]; exact hi
theorem InvC.o6 (h : InvC G) {i : Nat} (hi : i < gnS G) : ok G 6 i 0 := ⟨by decide, h.ms hi, rfl⟩
theorem InvC.o7 (h : InvC G) {i : Nat} (hi : i < gnS G) : ok G 7 i 0 := ⟨by decide, h.ms hi, rfl⟩
theorem InvC.o8 (h : InvC G) {i : Nat} (hi : i < gnS G) : ok G 8 i 0 := ⟨by decide, h.ms hi, rfl⟩
theorem InvC.o9 (h : InvC G) {i : Nat} (hi : i < gnR G) : ok G 9 i 0 := ⟨by decide, h.mr hi, rfl⟩
theorem InvC.o10 (h : InvC G) {i : Nat} (hi : i < gnV G) : ok G 10 i 0 := ⟨by decide, h.mv hi, rfl⟩
theorem InvC.o11 (h : InvC G) {i : Nat} (hi : i < gnV G) : ok G 11 i 0 := ⟨by decide, h.mv hi, rfl⟩
theorem InvC.o12 (h : InvC G) {i j : Nat} (hi : i < gnV G) (hj : j < gnF G i) : ok G 12 i j := ⟨by decide, h.mv hi, by rw [(h.f hi).2.2]; exact hj, Nat.lt_of_lt_of_le hj (h.f hi).2.1⟩
theorem InvC.o13 (h : InvC G) {i j : Nat} (hi : i < gnS G) (hj : j < 5) (hc : G 18 (5 * i + j) = 1) : ok G 13 i j := ⟨by decide, h.ms hi, hj, hc⟩
theorem InvC.o14 (h : InvC G) {i j : Nat} (hi : i < gnS G) (hj : j < gnN G i) : ok G 14 i j := ⟨by decide, h.ms hi, by rw [(h.n hi).2.2]; exact hj, Nat.lt_of_lt_of_le hj (h.n hi).2.1⟩
theorem InvC.c1 (h : InvC G) {s f : Nat} (hs : s < gnS G) (hf : f < 5) (hn : ¬ G 18 (5 * s + f) = 0) : G 18 (5 * s + f) = 1 := (nz_or (h.ce hs hf)).resolve_left hn
theorem InvC.cs (h : InvC G) {AD : AM} {s f : Nat} (hs : s < gnS G) (hf : f < 5) (hn : ¬ G 18 (5 * s + f) = 0) : caF AD G s f = some (AD 13 s f) := by
  unfold caF
  rw [if_pos hf, if_pos (h.c1 hs hf hn)]
theorem InvC.cn (h : InvC G) {AD : AM} {s f : Nat} (hs : s < gnS G) (hf : f < 5) (hn : G 18 (5 * s + f) = 0) : caF AD G s f = none := by
  unfold caF
  rw [if_pos hf, if_neg (by rw [hn]; decide)]
theorem nI_m1 {v : Nat} (hv : v < 2 ^ 31) : ¬ nI v = -1 := fun h => by
  have h1 := congrArg Int32.toInt h
  rw [nI_toInt hv] at h1
  have h2 : (-1 : Int32).toInt = -1 := by decide
  omega
theorem RepC.shq {cy : Nat → ClassId} {AD : AM} {μ : MU} (hM : RepC cy AD G μ) (h : InvC G) {v i : Nat} (hv : v < gnV G) (hi : i < gnS G) : (some (AD 6 (gnO G v) 0) = some (AD 6 i 0)) ↔ G 30 v = nI i := by
  constructor
  · intro e
    have q := hM.2 6 _ 0 6 _ 0 (h.o6 (h.so hv).2) (h.o6 hi) (Option.some.inj e)
    rw [(h.so hv).1, q.2.1]
  · intro e
    have q : gnO G v = i := by unfold gnO; rw [e, nI_clamp (by have := h.s.2.1; omega)]
    rw [q]
theorem RepC.viq {cy : Nat → ClassId} {AD : AM} {μ : MU} (hM : RepC cy AD G μ) (h : InvC G) (f : Nat) (hf : f = 11 ∨ f = 12 ∨ f = 13) {s v : Nat} (hs : s < gnS G) (hv : v < gnV G) : (xr AD (G f s) = some (AD 10 v 0)) ↔ G f s = nI v := by
  have hv60 := h.v.2.1
  constructor
  · intro e
    unfold xr at e
    split at e
    · cases e
    · rename_i hn
      have q := hM.2 10 _ 0 10 _ 0 (h.o10 (h.re f hf hs hn).2) (h.o10 hv) (Option.some.inj e)
      rw [(h.re f hf hs hn).1, q.2.1]
  · intro e
    have hn : ¬ G f s = -1 := by rw [e]; exact nI_m1 (by omega)
    unfold xr
    rw [if_neg hn, e, nI_clamp (by omega)]
end IC
def frC (k : Nat) : Bool := k != 2 && k != 3 && k != 11 && k != 12 && k != 13 && k != 14 && k != 18 && k != 19 && k != 20 && k != 23 && k != 29 && k != 30 && k != 35 && k != 37 && k != 39 && k != 42 && k != 44 && k != 45 && k != 50 && k != 51 && k != 52 && k != 53 && k != 54
theorem InvC.oe {G1 G2 : GS} (h : InvC G1) (e : ∀ j, frC j = false → G2 j = G1 j) : InvC G2 := by
  unfold InvC gnS gnR gnV gnF gnN gnO gmS gmR gmV gmF gmN gcT
  rw [e 3 rfl, e 23 rfl, e 29 rfl, e 35 rfl, e 45 rfl, e 30 rfl, e 11 rfl, e 12 rfl, e 13 rfl, e 18 rfl, e 19 rfl, e 20 rfl, e 2 rfl, e 14 rfl, e 37 rfl, e 44 rfl, e 39 rfl, e 42 rfl, e 50 rfl, e 51 rfl, e 52 rfl, e 53 rfl, e 54 rfl]
  exact h
theorem InvC.fr {G : GS} (h : InvC G) (k i : Nat) (v : Int32) (hk : frC k = true) : InvC (up2 G k i v) := h.oe (fun j hj => up2_ne (fun q => by rw [q, hk] at hj; cases hj))
theorem ok_fr {G : GS} {f x k i j : Nat} {v : Int32} (h : f ∉ cntL) (ho : ok G k i j) : ok (up2 G f x v) k i j := by
  rw [ok_cg (fun a ha => up2_ne (fun e => h (by rw [← e]; exact ha)))]
  exact ho
theorem wSt_isIn : Cond.static yX6_isIn ∈ BIG := BIG_t 470 (by decide +kernel) (by decide +kernel)
theorem wMl_X6 : Cond.methodLink RX6 382 Lib.Math.min.name ∈ BIG := BIG_t 587 (by decide +kernel) (by decide +kernel)
theorem wMl_X0 : Cond.methodLink RX0 36 Lib.Math.abs.name ∈ BIG := BIG_t 513 (by decide +kernel) (by decide +kernel)
section IR
variable {p : Program} {l : Launch} {e : Env} {R : Room} {s : State} {m : MethodId} {args : Array Value} {below : List Frame} {meth : Method} {c : Code} {H : Heap} {locs : List Loc} {cells slots : Nat} {Q : State → Prop}
variable {cc : ByteArray} {nL pc : Nat} {ls : Array Slot} {rest st0 : List Value} {D : va_G} {cy : Nat → ClassId} {A : Nat → Prop} {a : Nat} {μ : MU} {own : String} {AD : AM} {G : GS}
theorem c_aald (F : CallFix p m c cc nL s args BIG own) (w : WW D cy A μ s H locs) (hM : RepC cy AD G μ) {i j : Nat} (hi : i < gmS G) (hj : j < 5) (hdg : decode cc pc = .ok (.aaload, 1)) (kk : W p l e R s m args below meth c H locs cells slots Q (F0 m (pc + 1) ls (va_rf (caF AD G i j) :: rest))) : W p l e R s m args below meth c H locs cells slots Q (F0 m pc ls (.int (nI j) :: .ref (AD 7 i 0) :: rest)) := by
  refine q_aald F w 2 rfl (hM.1 7 i 0 ⟨by decide, hi, rfl⟩) (vp_in_nI hj (by decide)) hdg ?_
  rw [nI_clamp (by omega)]
  exact kk
end IR
theorem isx_in0 {x : Int32} {n : Nat} (hn : n < 2 ^ 31) (h1 : ¬ x < 0) (h2 : ¬ nI n ≤ x) : vp_in x n := by
  show ¬ (x < 0 ∨ n ≤ x.toNatClampNeg)
  intro h
  rcases h with h | h
  · exact h1 h
  · have h3 : 0 ≤ x.toInt := by
      have := Int32.not_lt.mp h1
      exact Int32.le_iff_toInt_le.mp this
    have h4 : x.toInt < (n : Int) := by
      have := Int32.lt_iff_toInt_lt.mp (Int32.not_le.mp h2)
      rw [nI_toInt hn] at this
      exact this
    have h5 : x.toNatClampNeg = x.toInt.toNat := rfl
    omega
theorem ann_div {x y : Int32} {T : Nat} (h : x - y = nI T ∧ 1 ≤ T ∧ T ≤ 1825) : (x - y - 1) / 365 = nI ((T - 1) / 365) := by
  rw [h.1, show (1 : Int32) = nI 1 from rfl, pk_sub h.2.1, show (365 : Int32) = nI 365 from rfl, pk_div (by omega) (by decide) (by decide)]
theorem ann_lt {P : Prop} {T : Nat} (h : P ∧ 1 ≤ T ∧ T ≤ 1825) : (T - 1) / 365 < 2 ^ 31 := by omega
