theorem gnote_a {G : GS} {s : Nat} {w x y z : Int32} {a p : Nat} (ha : a ≠ 45) (h54 : a ≠ 54) (hp : p ≠ 514 * s + gnN G s) : gnote G s w x y z a p = G a p := (congrFun (up2_ne ha) p).trans ((congrFun (up2_ne h54) p).trans (upL_x hp))
theorem gnote_v {G : GS} {s : Nat} {w x y z : Int32} : gnote G s w x y z 46 (514 * s + gnN G s) = w ∧ gnote G s w x y z 47 (514 * s + gnN G s) = x ∧ gnote G s w x y z 48 (514 * s + gnN G s) = y ∧ gnote G s w x y z 49 (514 * s + gnN G s) = z := ⟨(congrFun (up2_ne (by decide)) _).trans g14_at.1, (congrFun (up2_ne (by decide)) _).trans g14_at.2.1, (congrFun (up2_ne (by decide)) _).trans g14_at.2.2.1, (congrFun (up2_ne (by decide)) _).trans g14_at.2.2.2⟩
theorem nl_note {G : GS} {s s9 : Nat} {w x y z : Int32} (hn : gnN G s < 514) : ∀ k, k ≤ 514 → (s9 = s → k ≤ gnN G s) → nl (gnote G s w x y z) s9 k = nl G s9 k
  | 0, _, _ => rfl
  | k + 1, hk, hs => by
    have hp : 514 * s9 + k ≠ 514 * s + gnN G s := by
      intro e
      by_cases e9 : s9 = s
      · have := hs e9
        subst e9
        omega
      · omega
    show (gnote G s w x y z 46 (514 * s9 + k), gnote G s w x y z 47 (514 * s9 + k), gnote G s w x y z 48 (514 * s9 + k), gnote G s w x y z 49 (514 * s9 + k)) :: nl (gnote G s w x y z) s9 k = (G 46 (514 * s9 + k), G 47 (514 * s9 + k), G 48 (514 * s9 + k), G 49 (514 * s9 + k)) :: nl G s9 k
    rw [nl_note hn k (by omega) (fun e => by have := hs e; omega), gnote_a (by decide) (by decide) hp, gnote_a (by decide) (by decide) hp, gnote_a (by decide) (by decide) hp, gnote_a (by decide) (by decide) hp]
theorem nlg_s {G : GS} {s : Nat} {w x y z : Int32} (hn : gnN G s < 514) : nlg (gnote G s w x y z) s = (w, x, y, z) :: nlg G s := by
  unfold nlg
  rw [gnote_nN (by omega)]
  show (gnote G s w x y z 46 (514 * s + gnN G s), gnote G s w x y z 47 (514 * s + gnN G s), gnote G s w x y z 48 (514 * s + gnN G s), gnote G s w x y z 49 (514 * s + gnN G s)) :: nl (gnote G s w x y z) s (gnN G s) = _
  rw [nl_note hn _ (by omega) (fun _ => Nat.le_refl _), gnote_v.1, gnote_v.2.1, gnote_v.2.2.1, gnote_v.2.2.2]
theorem nlg_n {G : GS} {s s9 : Nat} {w x y z : Int32} (hn : gnN G s < 514) (h9 : gnN G s9 ≤ 514) (e : s9 ≠ s) : nlg (gnote G s w x y z) s9 = nlg G s9 ∧ gnN (gnote G s w x y z) s9 = gnN G s9 := by
  have c : gnN (gnote G s w x y z) s9 = gnN G s9 := congrArg Int32.toNatClampNeg (gnote_x (Or.inl rfl) e)
  refine ⟨?_, c⟩
  unfold nlg
  rw [c, nl_note hn _ h9 (fun q => absurd q e)]
theorem sV_cg {g g1 : Nat → Int32} {s : Nat} {a : Nat → Nat} : ∀ k, (∀ v, v < k → g1 v = g v) → sV g1 s a k = sV g s a k
  | 0, _ => rfl
  | k + 1, h => by
    show sV g1 s a k + (if g1 k = nI s then a k else 0) = sV g s a k + (if g k = nI s then a k else 0)
    rw [sV_cg k (fun v hv => h v (by omega)), h k (by omega)]
theorem NT_b {n : Nat} {G B : GS} (h : NT n G) (hc : InvC G) {s v : Nat} {w y z : Int32} (hs : s < gnS G) (hv : v < gnV G) (hso : G 30 v = nI s) (hn : gnN G s < 514) (eB : ∀ j, j ∈ [3, 4, 6, 7, 8, 29, 30, 32, 45, 46, 47, 48, 49] → B j = G j) (k3 : ∀ u, B 35 u = G 35 u + (if w = 3 then (if u = v then 1 else 0) else 0)) (k4 : ∀ u, (if B 38 u = -1 then (0 : Int32) else 1) = (if G 38 u = -1 then 0 else 1) + (if w = 4 then (if u = v then 1 else 0) else 0)) (k5 : ∀ u, B 40 u = G 40 u + (if w = 5 then (if u = v then 1 else 0) else 0)) (w0 : ¬ w = 0) (w1 : ¬ w = 1) (w2 : ¬ w = 2) : NT (n + 1) (gnote B s w (nI v) y z) := by
  have eg : ∀ j, j ∉ [46, 47, 48, 49, 54, 45] → gnote B s w (nI v) y z j = B j := fun j hj => e_gnote B s w (nI v) y z hj
  have eN : gnN B = gnN G := funext (fun t => by unfold gnN; rw [eB 45 (by decide)])
  have eL : ∀ t, nlg B t = nlg G t := fun t => nlg_cg (fun j hj => eB j ((by decide : ∀ j, j ∈ [45, 46, 47, 48, 49] → j ∈ [3, 4, 6, 7, 8, 29, 30, 32, 45, 46, 47, 48, 49]) j hj)) t
  have eV : gnV (gnote B s w (nI v) y z) = gnV G := by unfold gnV; rw [eg 29 (by decide), eB 29 (by decide)]
  have hv60 := hc.v.2.1
  have hs12 := hc.s.2.1
  intro t ht
  have ht : t < gnS G := by
    have e : gnS (gnote B s w (nI v) y z) = gnS G := by unfold gnS; rw [eg 3 (by decide), eB 3 (by decide)]
    rw [e] at ht
    exact ht
  obtain ⟨n1, n2, n3, n4, n5, n6⟩ := h t ht
  have kk : ∀ u, u < 60 → ∀ (w9 : Int32) (a b : Int32) (L : Nat), (nI L = kn G t u a) → (b = a + (if w = w9 then (if u = v then 1 else 0) else 0)) → nI (L + (if t = s then (if w = w9 then (if nI v = nI u then 1 else 0) else 0) else 0)) = kn (gnote B s w (nI v) y z) t u b := by
    intro u hu w9 a b L q1 q2
    unfold kn at q1 ⊢
    rw [eV, eg 30 (by decide), eB 30 (by decide), q2, ← nI_add, q1]
    by_cases e1 : u < gnV G
    · rw [if_pos e1, if_pos e1]
      by_cases e2 : G 30 u = nI t
      · rw [if_pos e2, if_pos e2]
        by_cases e3 : u = v
        · have e4 : t = s := by
            rw [e3, hso] at e2
            exact ((nI_eq (by omega) (by omega)).mp e2).symm
          rw [if_pos e4, if_pos e3, e3, if_pos rfl]
          by_cases e5 : w = w9
          · rw [if_pos e5, if_pos e5]; rfl
          · rw [if_neg e5, if_neg e5]; rfl
        · rw [if_neg e3, if_neg (fun q => e3 ((nI_eq (by omega) (by omega)).mp q).symm)]
          by_cases e4 : t = s
          · rw [if_pos e4]
            by_cases e5 : w = w9
            · rw [if_pos e5, if_pos e5]; rfl
            · rw [if_neg e5, if_neg e5]; rfl
          · rw [if_neg e4]
            by_cases e5 : w = w9
            · rw [if_pos e5]; rfl
            · rw [if_neg e5]; rfl
      · rw [if_neg e2, if_neg e2]
        by_cases e4 : t = s
        · rw [if_pos e4]
          have e3 : ¬ nI v = nI u := fun q => by
            have := (nI_eq (by omega) (by omega)).mp q
            rw [← this, e4] at e2
            exact e2 hso
          rw [if_neg e3]
          by_cases e5 : w = w9
          · rw [if_pos e5]; rfl
          · rw [if_neg e5]; rfl
        · rw [if_neg e4]; rfl
    · rw [if_neg e1, if_neg e1]
      have e3 : ¬ nI v = nI u := fun q => by
        have := (nI_eq (by omega) (by omega)).mp q
        omega
      rw [if_neg e3]
      by_cases e4 : t = s
      · rw [if_pos e4]
        by_cases e5 : w = w9
        · rw [if_pos e5]; rfl
        · rw [if_neg e5]; rfl
      · rw [if_neg e4]; rfl
  have rows : gnote B s w (nI v) y z 4 = G 4 ∧ gnote B s w (nI v) y z 6 = G 6 ∧ gnote B s w (nI v) y z 7 = G 7 ∧ gnote B s w (nI v) y z 8 = G 8 ∧ gnote B s w (nI v) y z 30 = G 30 ∧ gnote B s w (nI v) y z 32 = G 32 := ⟨(eg 4 (by decide)).trans (eB 4 (by decide)), (eg 6 (by decide)).trans (eB 6 (by decide)), (eg 7 (by decide)).trans (eB 7 (by decide)), (eg 8 (by decide)).trans (eB 8 (by decide)), (eg 30 (by decide)).trans (eB 30 (by decide)), (eg 32 (by decide)).trans (eB 32 (by decide))⟩
  unfold NTs NQ
  rw [rows.1, rows.2.1, rows.2.2.1, rows.2.2.2.1, rows.2.2.2.2.1, rows.2.2.2.2.2, eV]
  unfold NK
  rw [eg 35 (by decide), eg 38 (by decide), eg 40 (by decide)]
  by_cases e9 : t = s
  · have a1 : nlg (gnote B s w (nI v) y z) t = (w, nI v, y, z) :: nlg G t := by
      rw [e9, nlg_s (by rw [eN]; exact hn), eL]
    have a2 : gnN (gnote B s w (nI v) y z) t = gnN G t + 1 := by
      rw [e9, gnote_nN (by rw [eN]; omega), eN]
    rw [a1, a2]
    refine ⟨by omega, ?_, ?_, fun q hq hq2 => ?_, fun a => ?_, fun u hu => ⟨?_, ?_, ?_⟩⟩
    · show (if w = 0 then _ else lst 0 (nlg G t)) = _
      rw [if_neg w0]; exact n2
    · show (if w = 1 then _ else lst 1 (nlg G t)) = _
      rw [if_neg w1]; exact n3
    · rcases List.mem_cons.mp hq with e | e
      · rw [e] at hq2
        exact absurd hq2 w2
      · exact n4 q e hq2
    · show sN a (nlg G t) + (if w = 2 then _ else 0) = _
      rw [if_neg w2]; exact n5 a
    · have q := kk u hu 3 _ _ _ (n6 u hu).1 (k3 u)
      rw [if_pos e9] at q
      exact q
    · have q := kk u hu 4 _ _ _ (n6 u hu).2.1 (k4 u)
      rw [if_pos e9] at q
      exact q
    · have q := kk u hu 5 _ _ _ (n6 u hu).2.2 (k5 u)
      rw [if_pos e9] at q
      exact q
  · have a0 := nlg_n (G := B) (s := s) (s9 := t) (w := w) (x := nI v) (y := y) (z := z) (by rw [eN]; exact hn) (by rw [eN]; exact (hc.n ht).2.1) e9
    rw [a0.1, a0.2, eL, eN]
    refine ⟨by omega, n2, n3, n4, n5, fun u hu => ⟨?_, ?_, ?_⟩⟩
    · have q := kk u hu 3 _ _ _ (n6 u hu).1 (k3 u)
      rw [if_neg e9] at q
      exact q
    · have q := kk u hu 4 _ _ _ (n6 u hu).2.1 (k4 u)
      rw [if_neg e9] at q
      exact q
    · have q := kk u hu 5 _ _ _ (n6 u hu).2.2 (k5 u)
      rw [if_neg e9] at q
      exact q
theorem NT_a {n : Nat} {G B : GS} (h : NT n G) (hc : InvC G) {s : Nat} {y z : Int32} (hn : gnN G s < 514) (eB : ∀ j, j ∈ [3, 4, 6, 29, 30, 32, 35, 38, 40, 45, 46, 47, 48, 49] → B j = G j) (k7 : ∀ t, B 7 t = if t = s then y else G 7 t) (k8 : ∀ t, B 8 t = if t = s then z else G 8 t) : NT (n + 1) (gnote B s 1 (-1) y z) := by
  have eg : ∀ j, j ∉ [46, 47, 48, 49, 54, 45] → gnote B s 1 (-1) y z j = B j := fun j hj => e_gnote B s 1 (-1) y z hj
  have eN : gnN B = gnN G := funext (fun t => by unfold gnN; rw [eB 45 (by decide)])
  have eL : ∀ t, nlg B t = nlg G t := fun t => nlg_cg (fun j hj => eB j ((by decide : ∀ j, j ∈ [45, 46, 47, 48, 49] → j ∈ [3, 4, 6, 29, 30, 32, 35, 38, 40, 45, 46, 47, 48, 49]) j hj)) t
  have eV : gnV (gnote B s 1 (-1) y z) = gnV G := by unfold gnV; rw [eg 29 (by decide), eB 29 (by decide)]
  intro t ht
  have ht : t < gnS G := by
    have e : gnS (gnote B s 1 (-1) y z) = gnS G := by unfold gnS; rw [eg 3 (by decide), eB 3 (by decide)]
    rw [e] at ht
    exact ht
  obtain ⟨n1, n2, n3, n4, n5, n6⟩ := h t ht
  unfold NTs NQ NK kn
  rw [eV, eg 4 (by decide), eB 4 (by decide), eg 6 (by decide), eB 6 (by decide), eg 7 (by decide), eg 8 (by decide), eg 30 (by decide), eB 30 (by decide), eg 32 (by decide), eB 32 (by decide), eg 35 (by decide), eB 35 (by decide), eg 38 (by decide), eB 38 (by decide), eg 40 (by decide), eB 40 (by decide), k7 t, k8 t]
  by_cases e9 : t = s
  · have a1 : nlg (gnote B s 1 (-1) y z) t = (1, -1, y, z) :: nlg G t := by
      rw [e9, nlg_s (by rw [eN]; exact hn), eL]
    have a2 : gnN (gnote B s 1 (-1) y z) t = gnN G t + 1 := by
      rw [e9, gnote_nN (by rw [eN]; omega), eN]
    rw [a1, a2, if_pos e9, if_pos e9]
    refine ⟨by omega, n2, rfl, fun q hq hq2 => ?_, n5, n6⟩
    rcases List.mem_cons.mp hq with e | e
    · rw [e] at hq2
      exact absurd hq2 (by decide : ¬ (1 : Int32) = 2)
    · exact n4 q e hq2
  · have a0 := nlg_n (G := B) (s := s) (s9 := t) (w := 1) (x := -1) (y := y) (z := z) (by rw [eN]; exact hn) (by rw [eN]; exact (hc.n ht).2.1) e9
    rw [a0.1, a0.2, eL, eN, if_neg e9, if_neg e9]
    exact ⟨by omega, n2, n3, n4, n5, n6⟩
theorem NT_c {n : Nat} {G B : GS} (h : NT n G) (hc : InvC G) {s : Nat} {y z : Int32} (hs : s < gnS G) (hn : gnN G s < 514) (hv : gnV G < 60) (eB : ∀ j, j ∈ [3, 4, 6, 7, 8, 45, 46, 47, 48, 49] → B j = G j) (e29 : gnV B = gnV G + 1) (eO : ∀ j u, j ∈ [30, 32, 35, 38, 40] → u ≠ gnV G → B j u = G j u) (b30 : B 30 (gnV G) = nI s) (b32 : B 32 (gnV G) = y) (b35 : B 35 (gnV G) = 0) (b38 : B 38 (gnV G) = -1) (b40 : B 40 (gnV G) = 0) : NT (n + 1) (gnote B s 2 (nI (gnV G)) y z) := by
  have eg : ∀ j, j ∉ [46, 47, 48, 49, 54, 45] → gnote B s 2 (nI (gnV G)) y z j = B j := fun j hj => e_gnote B s 2 (nI (gnV G)) y z hj
  have eN : gnN B = gnN G := funext (fun t => by unfold gnN; rw [eB 45 (by decide)])
  have eL : ∀ t, nlg B t = nlg G t := fun t => nlg_cg (fun j hj => eB j ((by decide : ∀ j, j ∈ [45, 46, 47, 48, 49] → j ∈ [3, 4, 6, 7, 8, 45, 46, 47, 48, 49]) j hj)) t
  have eV : gnV (gnote B s 2 (nI (gnV G)) y z) = gnV G + 1 := (congrArg (fun z : Nat → Int32 => (z 0).toNatClampNeg) (eg 29 (by decide))).trans e29
  have hs12 := hc.s.2.1
  intro t ht
  have ht : t < gnS G := by
    have e : gnS (gnote B s 2 (nI (gnV G)) y z) = gnS G := by unfold gnS; rw [eg 3 (by decide), eB 3 (by decide)]
    rw [e] at ht
    exact ht
  obtain ⟨n1, n2, n3, n4, n5, n6⟩ := h t ht
  have kk : ∀ u, u < 60 → ∀ (a b : Int32) (L : Nat), (nI L = kn G t u a) → (u ≠ gnV G → b = a) → (u = gnV G → b = 0) → nI L = kn (gnote B s 2 (nI (gnV G)) y z) t u b := by
    intro u hu a b L q1 q2 q3
    unfold kn at q1 ⊢
    rw [eV, eg 30 (by decide), q1]
    by_cases e1 : u = gnV G
    · rw [q3 e1, if_neg (by omega), if_pos (by omega)]
      split <;> rfl
    · rw [q2 e1, eO 30 u (by decide) e1]
      by_cases e2 : u < gnV G
      · rw [if_pos e2, if_pos (show u < gnV G + 1 by omega)]
      · rw [if_neg e2, if_neg (show ¬ u < gnV G + 1 by omega)]
  have nk : ∀ u, u < 60 → nI (cL 3 (nI u) (nlg G t)) = kn (gnote B s 2 (nI (gnV G)) y z) t u (B 35 u) ∧ nI (cL 4 (nI u) (nlg G t)) = kn (gnote B s 2 (nI (gnV G)) y z) t u (if B 38 u = -1 then 0 else 1) ∧ nI (cL 5 (nI u) (nlg G t)) = kn (gnote B s 2 (nI (gnV G)) y z) t u (B 40 u) := fun u hu => by
    refine ⟨kk u hu _ _ _ (n6 u hu).1 (fun e => eO 35 u (by decide) e) (fun e => by rw [e]; exact b35), kk u hu _ _ _ (n6 u hu).2.1 (fun e => by rw [eO 38 u (by decide) e]) (fun e => by rw [e, b38]; rfl), kk u hu _ _ _ (n6 u hu).2.2 (fun e => eO 40 u (by decide) e) (fun e => by rw [e]; exact b40)⟩
  have nq : ∀ q, q ∈ nlg G t → q.1 = 2 → ∃ v, v < gnV G + 1 ∧ q.2.1 = nI v ∧ B 30 v = nI t ∧ q.2.2.1 = B 32 v := fun q hq hq2 => by
    obtain ⟨v, v1, v2, v3, v4⟩ := n4 q hq hq2
    exact ⟨v, by omega, v2, by rw [eO 30 v (by decide) (by omega)]; exact v3, by rw [eO 32 v (by decide) (by omega)]; exact v4⟩
  have sv : ∀ a, sV (B 30) t a (gnV G + 1) = sV (G 30) t a (gnV G) + (if s = t then a (gnV G) else 0) := fun a => by
    show sV (B 30) t a (gnV G) + (if B 30 (gnV G) = nI t then a (gnV G) else 0) = _
    rw [sV_cg (g := G 30) (g1 := B 30) _ (fun v hv9 => eO 30 v (by decide) (by omega)), b30]
    by_cases e : s = t
    · rw [e, if_pos rfl, if_pos rfl]
    · rw [if_neg e, if_neg (fun q => e ((nI_eq (by omega) (by omega)).mp q))]
  unfold NTs NQ
  rw [eV, eg 4 (by decide), eB 4 (by decide), eg 6 (by decide), eB 6 (by decide), eg 7 (by decide), eB 7 (by decide), eg 8 (by decide), eB 8 (by decide), eg 30 (by decide), eg 32 (by decide)]
  unfold NK
  rw [eg 35 (by decide), eg 38 (by decide), eg 40 (by decide)]
  by_cases e9 : t = s
  · have a1 : nlg (gnote B s 2 (nI (gnV G)) y z) t = (2, nI (gnV G), y, z) :: nlg G t := by
      rw [e9, nlg_s (by rw [eN]; exact hn), eL]
    have a2 : gnN (gnote B s 2 (nI (gnV G)) y z) t = gnN G t + 1 := by
      rw [e9, gnote_nN (by rw [eN]; omega), eN]
    rw [a1, a2]
    refine ⟨by omega, n2, n3, fun q hq hq2 => ?_, fun a => ?_, nk⟩
    · rcases List.mem_cons.mp hq with e | e
      · rw [e]
        exact ⟨gnV G, by omega, rfl, by rw [b30, e9], b32.symm⟩
      · exact nq q e hq2
    · show sN a (nlg G t) + a (nI (gnV G)).toNatClampNeg = _
      rw [sv a, n5 a, nI_clamp (by omega), if_pos e9.symm]
  · have a0 := nlg_n (G := B) (s := s) (s9 := t) (w := 2) (x := nI (gnV G)) (y := y) (z := z) (by rw [eN]; exact hn) (by rw [eN]; exact (hc.n ht).2.1) e9
    rw [a0.1, a0.2, eL, eN]
    refine ⟨by omega, n2, n3, nq, fun a => ?_, nk⟩
    rw [sv a, n5 a, if_neg (fun q => e9 q.symm)]
    rfl
theorem NT_d {n : Nat} {G : GS} (h : NT n G) (hc : InvC G) {x1 x2 x3 x4 x5 : Int32} (hn : gnS G < 12) : NT (n + 1) (gshp G x1 x2 x3 x4 x5) := by
  have e : ∀ j, j ∉ [4, 5, 6, 7, 8, 9, 10, 11, 12, 13, 14, 15, 16, 17, 45, 54, 50, 18, 46, 47, 48, 49, 3] → (gshp G x1 x2 x3 x4 x5) j = G j := fun j h => e_gshp G x1 x2 x3 x4 x5 h
  have g9 : ∀ a x, a ∉ [46, 47, 48, 49, 54, 45, 3, 50, 18] → x ≠ gnS G → gshp G x1 x2 x3 x4 x5 a x = G a x := fun a x ha hx => (congrFun (gshp_g6 G x1 x2 x3 x4 x5 (fun e => ha (List.mem_append_left (bs := [50, 18]) e))) x).trans (g6_x (fun e => ha (by rw [e]; decide)) (fun e => ha (by rw [e]; decide)) hx)
  have eV : gnV (gshp G x1 x2 x3 x4 x5) = gnV G := congrArg (fun z : Nat → Int32 => (z 0).toNatClampNeg) (e 29 (by decide))
  intro t ht
  rw [gshp_n (by omega)] at ht
  have z3 : ∀ j, j ≠ 3 → gshp G x1 x2 x3 x4 x5 j = gsh0 G x1 x2 x3 x4 x5 j := fun j hj => up2_ne hj
  have zL : ∀ u, nlg (gshp G x1 x2 x3 x4 x5) u = nlg (gsh0 G x1 x2 x3 x4 x5) u := fun u => nlg_cg (fun j hj => z3 j ((by decide : ∀ j, j ∈ [45, 46, 47, 48, 49] → j ≠ 3) j hj)) u
  have zN : ∀ u, gnN (gshp G x1 x2 x3 x4 x5) u = gnN (gsh0 G x1 x2 x3 x4 x5) u := fun u => by unfold gnN; rw [z3 45 (by decide)]
  unfold NTs NQ NK kn
  rw [eV, e 30 (by decide), e 32 (by decide), e 35 (by decide), e 38 (by decide), e 40 (by decide)]
  by_cases e9 : t = gnS G
  · have f0 : nlg (gshp G x1 x2 x3 x4 x5) t = [(1, -1, x4, x5), (0, -1, x1, x3)] := by
      rw [zL, e9]
      unfold gsh0
      rw [nlg_s (by rw [gsh0_1]; omega), nlg_s (by rw [g6_nN]; omega)]
      unfold nlg
      rw [g6_nN]
      rfl
    have f1 : gnN (gshp G x1 x2 x3 x4 x5) t = 2 := by
      rw [e9]
      unfold gnN
      rw [gshp_45 (Or.inl rfl), nI_clamp (by decide)]
    have no : ∀ v, v < gnV G → ¬ G 30 v = nI t := fun v hv q => by
      have b := hc.so hv
      rw [b.1] at q
      have := (nI_eq (by omega) (by omega)).mp q
      omega
    have rw4 : ∀ a (w : Int32), a ∉ [46, 47, 48, 49, 54, 45, 3] → a ≠ 50 → a ≠ 18 → [(4, x1), (5, x2), (6, x3), (7, x4), (8, x5), (9, 0), (10, -1), (11, -1), (12, -1), (13, -1), (14, 0), (15, 0), (16, -1), (17, 0), (45, 0), (54, 0)].lookup a = some w → gshp G x1 x2 x3 x4 x5 a t = w := fun a w h1 h2 h3 h4 => by
      rw [e9]
      exact (congrFun (gshp_g6 G x1 x2 x3 x4 x5 h1) _).trans (g6_at h2 h3 h4)
    rw [f0, f1, rw4 4 x1 (by decide) (by decide) (by decide) rfl, rw4 6 x3 (by decide) (by decide) (by decide) rfl, rw4 7 x4 (by decide) (by decide) (by decide) rfl, rw4 8 x5 (by decide) (by decide) (by decide) rfl]
    have kz : ∀ (v : Nat) (y : Int32), (if v < gnV G then (if G 30 v = nI t then y else 0) else 0) = 0 := fun v y => by
      by_cases q : v < gnV G
      · rw [if_pos q, if_neg (no v q)]
      · rw [if_neg q]
    refine ⟨by omega, rfl, rfl, fun q hq hq2 => ?_, fun a => ?_, fun v hv => ?_⟩
    · rcases List.mem_cons.mp hq with q1 | q1
      · rw [q1] at hq2
        exact absurd hq2 (by decide : ¬ (1 : Int32) = 2)
      · rcases List.mem_cons.mp q1 with q2 | q2
        · rw [q2] at hq2
          exact absurd hq2 (by decide : ¬ (0 : Int32) = 2)
        · cases q2
    · have z : ∀ k, k ≤ gnV G → sV (G 30) t a k = 0 := fun k => by
        induction k with
        | zero => intro _; rfl
        | succ k ih =>
          intro hk
          show sV (G 30) t a k + (if G 30 k = nI t then a k else 0) = 0
          rw [ih (by omega), if_neg (no k (by omega))]
      rw [z _ (Nat.le_refl _)]
      rfl
    · rw [kz, kz, kz]
      exact ⟨rfl, rfl, rfl⟩
  · have ht9 : t < gnS G := by omega
    obtain ⟨n1, n2, n3, n4, n5, n6⟩ := h t ht9
    have h514 := (hc.n ht9).2.1
    have c6 : gnN (g6 G (gnS G) x1 x2 x3 x4 x5) t = gnN G t := g6_nNx e9
    have b1 := nlg_n (G := g6 G (gnS G) x1 x2 x3 x4 x5) (s := gnS G) (s9 := t) (w := 0) (x := -1) (y := x1) (z := x3) (by rw [g6_nN]; omega) (by rw [c6]; exact h514) e9
    have b2 := nlg_n (G := gnote (g6 G (gnS G) x1 x2 x3 x4 x5) (gnS G) 0 (-1) x1 x3) (s := gnS G) (s9 := t) (w := 1) (x := -1) (y := x4) (z := x5) (by rw [gsh0_1]; omega) (by rw [b1.2, c6]; exact h514) e9
    have f0 : nlg (gshp G x1 x2 x3 x4 x5) t = nlg G t := by
      rw [zL]
      refine b2.1.trans (b1.1.trans ?_)
      unfold nlg
      rw [c6]
      have nlx : ∀ k, nl (g6 G (gnS G) x1 x2 x3 x4 x5) t k = nl G t k := fun k => nl_cg (fun j hj => g6_ne ((by decide : ∀ j, j ∈ [46, 47, 48, 49] → j ∉ [4, 5, 6, 7, 8, 9, 10, 11, 12, 13, 14, 15, 16, 17, 45, 54, 50, 18]) j hj)) t k
      exact nlx _
    have f1 : gnN (gshp G x1 x2 x3 x4 x5) t = gnN G t := by
      rw [zN]
      exact b2.2.trans (b1.2.trans c6)
    rw [f0, f1, g9 4 t (by decide) e9, g9 6 t (by decide) e9, g9 7 t (by decide) e9, g9 8 t (by decide) e9]
    exact ⟨by omega, n2, n3, n4, n5, n6⟩
