theorem nin_l {j : Nat} {as bs : List Nat} (h : j ∉ as ++ bs) : j ∉ as := fun e => h (List.mem_append_left bs e)
theorem nin_r {j : Nat} {as bs : List Nat} (h : j ∉ as ++ bs) : j ∉ bs := fun e => h (List.mem_append_right as e)
theorem NT.up {n : Nat} {G : GS} (h : NT n G) : NT (n + 1) G := fun s hs => ⟨Nat.le_succ_of_le (h s hs).1, (h s hs).2⟩
theorem Zs.u {n i : Nat} {g : Nat → Int32} {v : Int32} (h : Zs n g) (hi : i < n) : Zs n (upd g i v) := fun x hx => (pk_un (by omega)).trans (h x hx)
theorem Zs.w {n : Nat} {g : Nat → Int32} {v : Int32} (h : Zs n g) : Zs (n + 1) (upd g n v) := fun x hx => (pk_un (by omega)).trans (h x (by omega))
theorem Zs.m {n m : Nat} {g : Nat → Int32} (h : Zs n g) (hm : n ≤ m) : Zs m g := fun x hx => h x (by omega)
theorem upd_id {g : Nat → Int32} {i : Nat} {v : Int32} (h : g i = v) : upd g i v = g := funext (fun x => by
  by_cases e : x = i
  · rw [e, pk_us, h]
  · rw [pk_un e])
theorem InvC.w2 {G : GS} (h : InvC G) {i : Nat} {v : Int32} (hv : nz v) : InvC (up2 G 2 i v) := by
  obtain ⟨h1, h2, h3, h4, h5, h6, h7, h8, h9, h10, h11, h12⟩ := h
  exact ⟨h1, h2, h3, h4, h5, h6, h7, h8, fun j hj => by
    show nz (upd (G 2) i v j)
    by_cases e : j = i
    · rw [e, pk_us]; exact hv
    · rw [pk_un e]; exact h9 j hj, h10, h11, h12⟩
theorem R9.gn {n : Nat} {G M : GS} (h : R9 n G M) (hn : n < 512) {s : Nat} (hs : s < gnS G) : gnN G s < 514 := by
  have := (h.nt s hs).1
  omega
theorem i_1 {x : Int32} : x + 1 = 1 ↔ x = 0 := by
  constructor
  · intro e
    have q := Int32.add_sub_cancel x 1
    rw [e] at q
    rw [← q]; decide
  · intro e; rw [e]; decide
theorem i_2 {x : Int32} : x + 1 = 2 ↔ x = 1 := by
  constructor
  · intro e
    have q := Int32.add_sub_cancel x 1
    rw [e] at q
    rw [← q]; decide
  · intro e; rw [e]; decide
theorem rk_pass {n : Nat} {G M : GS} (h : R9 n G M) {x1 : Int32} (hb : ∃ t, t ≤ 9000 ∧ G 1 0 + x1 = nI t) : R9 (n + 1) (g_X6_pass_1 G x1) (g_X7_pass_2 M x1) := by
  have eg : ∀ j9, j9 ∉ [1] → (g_X6_pass_1 G x1) j9 = G j9 := fun j hj => e_g_X6_pass_1 G x1 hj
  have em : ∀ j9, j9 ∉ [1, 0] → (g_X7_pass_2 M x1) j9 = M j9 := fun j hj => e_g_X7_pass_2 M x1 hj
  have hS : gnS (g_X6_pass_1 G x1) = gnS G := congrArg (fun z : Nat → Int32 => (z 0).toNatClampNeg) (eg 3 (by decide))
  have hV : gnV (g_X6_pass_1 G x1) = gnV G := congrArg (fun z : Nat → Int32 => (z 0).toNatClampNeg) (eg 29 (by decide))
  exact ⟨h.ic.fr 1 0 (G 1 0 + x1) rfl,
    h.eq.tm [1] [1, 0] [1] eg em (by decide) (al_c (by show upd (M 1) 0 (M 1 0 + x1) = upd (G 1) 0 (G 1 0 + x1); rw [h.q 1]) al_n),
    (by rw [em 16 (by decide), eg 16 (by decide)]; exact h.e16),
    (by rw [em 20 (by decide), eg 19 (by decide), eg 20 (by decide)]; exact h.e20),
    (by rw [em 20 (by decide)]; exact h.t20),
    (by rw [em 22 (by decide), eg 22 (by decide)]; exact h.e22),
    (by rw [em 37 (by decide), eg 37 (by decide), eg 44 (by decide)]; exact h.e37),
    hb,
    (by rw [eg 8 (by decide)]; exact h.b8),
    (by rw [eg 21 (by decide)]; exact h.b21),
    (by rw [eg 10 (by decide), eg 11 (by decide)]; exact h.b10),
    (by rw [eg 6 (by decide)]; exact h.b6),
    (by rw [eg 33 (by decide), eg 35 (by decide)]; exact h.b33),
    (by rw [eg 40 (by decide), eg 41 (by decide)]; exact h.b40),
    (by rw [eg 19 (by decide)]; exact h.b19),
    ⟨(by rw [hS, eg 9 (by decide)]; exact h.za.1),
      (by rw [hS, eg 12 (by decide)]; exact h.za.2.1),
      (by rw [hS, eg 14 (by decide)]; exact h.za.2.2.1),
      (by rw [hS, eg 15 (by decide)]; exact h.za.2.2.2.1),
      (by rw [hS, eg 17 (by decide)]; exact h.za.2.2.2.2.1),
      (by rw [hS, eg 18 (by decide)]; exact h.za.2.2.2.2.2.1),
      (by rw [hV, eg 30 (by decide)]; exact h.za.2.2.2.2.2.2.1),
      (by rw [hV, eg 35 (by decide)]; exact h.za.2.2.2.2.2.2.2.1),
      (by rw [hV, eg 39 (by decide)]; exact h.za.2.2.2.2.2.2.2.2.1),
      (by rw [hV, eg 40 (by decide)]; exact h.za.2.2.2.2.2.2.2.2.2.1),
      (by rw [hV, eg 41 (by decide)]; exact h.za.2.2.2.2.2.2.2.2.2.2.1),
      (by rw [hV, eg 42 (by decide)]; exact h.za.2.2.2.2.2.2.2.2.2.2.2)⟩,
    (h.nt.cg (fun j hj => eg j ((by decide : ∀ j, j ∈ [3, 4, 6, 7, 8, 29, 30, 32, 35, 38, 40, 45, 46, 47, 48, 49] → j ∉ [1]) j hj))).up⟩
theorem rk_suspend {n : Nat} {G M : GS} (h : R9 n G M) {i : Nat} {x2 : Int32} (hx : nz x2) : R9 (n + 1) (g_X6_suspend_1 G i x2) (g_X7_suspend_2 M i x2) := by
  have eg : ∀ j9, j9 ∉ [2] → (g_X6_suspend_1 G i x2) j9 = G j9 := fun j hj => e_g_X6_suspend_1 G i x2 hj
  have em : ∀ j9, j9 ∉ [2, 0] → (g_X7_suspend_2 M i x2) j9 = M j9 := fun j hj => e_g_X7_suspend_2 M i x2 hj
  have hS : gnS (g_X6_suspend_1 G i x2) = gnS G := congrArg (fun z : Nat → Int32 => (z 0).toNatClampNeg) (eg 3 (by decide))
  have hV : gnV (g_X6_suspend_1 G i x2) = gnV G := congrArg (fun z : Nat → Int32 => (z 0).toNatClampNeg) (eg 29 (by decide))
  exact ⟨h.ic.w2 hx,
    h.eq.tm [2] [2, 0] [2] eg em (by decide) (al_c (by show upd (M 2) i x2 = upd (G 2) i x2; rw [h.q 2]) al_n),
    (by rw [em 16 (by decide), eg 16 (by decide)]; exact h.e16),
    (by rw [em 20 (by decide), eg 19 (by decide), eg 20 (by decide)]; exact h.e20),
    (by rw [em 20 (by decide)]; exact h.t20),
    (by rw [em 22 (by decide), eg 22 (by decide)]; exact h.e22),
    (by rw [em 37 (by decide), eg 37 (by decide), eg 44 (by decide)]; exact h.e37),
    (by rw [eg 1 (by decide)]; exact h.b1),
    (by rw [eg 8 (by decide)]; exact h.b8),
    (by rw [eg 21 (by decide)]; exact h.b21),
    (by rw [eg 10 (by decide), eg 11 (by decide)]; exact h.b10),
    (by rw [eg 6 (by decide)]; exact h.b6),
    (by rw [eg 33 (by decide), eg 35 (by decide)]; exact h.b33),
    (by rw [eg 40 (by decide), eg 41 (by decide)]; exact h.b40),
    (by rw [eg 19 (by decide)]; exact h.b19),
    ⟨(by rw [hS, eg 9 (by decide)]; exact h.za.1),
      (by rw [hS, eg 12 (by decide)]; exact h.za.2.1),
      (by rw [hS, eg 14 (by decide)]; exact h.za.2.2.1),
      (by rw [hS, eg 15 (by decide)]; exact h.za.2.2.2.1),
      (by rw [hS, eg 17 (by decide)]; exact h.za.2.2.2.2.1),
      (by rw [hS, eg 18 (by decide)]; exact h.za.2.2.2.2.2.1),
      (by rw [hV, eg 30 (by decide)]; exact h.za.2.2.2.2.2.2.1),
      (by rw [hV, eg 35 (by decide)]; exact h.za.2.2.2.2.2.2.2.1),
      (by rw [hV, eg 39 (by decide)]; exact h.za.2.2.2.2.2.2.2.2.1),
      (by rw [hV, eg 40 (by decide)]; exact h.za.2.2.2.2.2.2.2.2.2.1),
      (by rw [hV, eg 41 (by decide)]; exact h.za.2.2.2.2.2.2.2.2.2.2.1),
      (by rw [hV, eg 42 (by decide)]; exact h.za.2.2.2.2.2.2.2.2.2.2.2)⟩,
    (h.nt.cg (fun j hj => eg j ((by decide : ∀ j, j ∈ [3, 4, 6, 7, 8, 29, 30, 32, 35, 38, 40, 45, 46, 47, 48, 49] → j ∉ [2]) j hj))).up⟩
theorem rk_rule {n : Nat} {G M : GS} (h : R9 n G M) {x1 x2 x3 x4 x5 : Int32} (hR : gnR G < 20) : R9 (n + 1) (grul G x1 x2 x3 x4 x5) (g_X7_rule_7 M x1 x2 x3 x4 x5) := by
  have q23 : grul G x1 x2 x3 x4 x5 23 = upd (G 23) 0 (nI (gnR G + 1)) := (up2_eq _ _ _ _).trans (by rw [g9_ne (by decide)])
  have eg : ∀ j9, j9 ∉ [24, 25, 26, 27, 28, 51, 23] → (grul G x1 x2 x3 x4 x5) j9 = G j9 := fun j hj => e_grul G x1 x2 x3 x4 x5 hj
  have em : ∀ j9, j9 ∉ [23, 28, 27, 26, 25, 24, 0] → (g_X7_rule_7 M x1 x2 x3 x4 x5) j9 = M j9 := fun j hj => e_g_X7_rule_7 M x1 x2 x3 x4 x5 hj
  have hS : gnS (grul G x1 x2 x3 x4 x5) = gnS G := congrArg (fun z : Nat → Int32 => (z 0).toNatClampNeg) (eg 3 (by decide))
  have hV : gnV (grul G x1 x2 x3 x4 x5) = gnV G := congrArg (fun z : Nat → Int32 => (z 0).toNatClampNeg) (eg 29 (by decide))
  exact ⟨h.ic.rul hR x1 x2 x3 x4 x5,
    h.eq.tm [24, 25, 26, 27, 28, 51, 23] [23, 28, 27, 26, 25, 24, 0] [23, 24, 25, 26, 27, 28] eg em (by decide) (al_c (by rw [q23]; show upd (M 23) 0 (nI (gnR M) + 1) = _; rw [h.q 23, h.R, nI_1]) (al_c (by show upd (M 24) (gnR M) x1 = upd (G 24) (gnR G) x1; rw [h.q 24, h.R]) (al_c (by show upd (M 25) (gnR M) x2 = upd (G 25) (gnR G) x2; rw [h.q 25, h.R]) (al_c (by show upd (M 26) (gnR M) x3 = upd (G 26) (gnR G) x3; rw [h.q 26, h.R]) (al_c (by show upd (M 27) (gnR M) x4 = upd (G 27) (gnR G) x4; rw [h.q 27, h.R]) (al_c (by show upd (M 28) (gnR M) x5 = upd (G 28) (gnR G) x5; rw [h.q 28, h.R]) al_n)))))),
    (by rw [em 16 (by decide), eg 16 (by decide)]; exact h.e16),
    (by rw [em 20 (by decide), eg 19 (by decide), eg 20 (by decide)]; exact h.e20),
    (by rw [em 20 (by decide)]; exact h.t20),
    (by rw [em 22 (by decide), eg 22 (by decide)]; exact h.e22),
    (by rw [em 37 (by decide), eg 37 (by decide), eg 44 (by decide)]; exact h.e37),
    (by rw [eg 1 (by decide)]; exact h.b1),
    (by rw [eg 8 (by decide)]; exact h.b8),
    (by rw [eg 21 (by decide)]; exact h.b21),
    (by rw [eg 10 (by decide), eg 11 (by decide)]; exact h.b10),
    (by rw [eg 6 (by decide)]; exact h.b6),
    (by rw [eg 33 (by decide), eg 35 (by decide)]; exact h.b33),
    (by rw [eg 40 (by decide), eg 41 (by decide)]; exact h.b40),
    (by rw [eg 19 (by decide)]; exact h.b19),
    ⟨(by rw [hS, eg 9 (by decide)]; exact h.za.1),
      (by rw [hS, eg 12 (by decide)]; exact h.za.2.1),
      (by rw [hS, eg 14 (by decide)]; exact h.za.2.2.1),
      (by rw [hS, eg 15 (by decide)]; exact h.za.2.2.2.1),
      (by rw [hS, eg 17 (by decide)]; exact h.za.2.2.2.2.1),
      (by rw [hS, eg 18 (by decide)]; exact h.za.2.2.2.2.2.1),
      (by rw [hV, eg 30 (by decide)]; exact h.za.2.2.2.2.2.2.1),
      (by rw [hV, eg 35 (by decide)]; exact h.za.2.2.2.2.2.2.2.1),
      (by rw [hV, eg 39 (by decide)]; exact h.za.2.2.2.2.2.2.2.2.1),
      (by rw [hV, eg 40 (by decide)]; exact h.za.2.2.2.2.2.2.2.2.2.1),
      (by rw [hV, eg 41 (by decide)]; exact h.za.2.2.2.2.2.2.2.2.2.2.1),
      (by rw [hV, eg 42 (by decide)]; exact h.za.2.2.2.2.2.2.2.2.2.2.2)⟩,
    (h.nt.cg (fun j hj => eg j ((by decide : ∀ j, j ∈ [3, 4, 6, 7, 8, 29, 30, 32, 35, 38, 40, 45, 46, 47, 48, 49] → j ∉ [24, 25, 26, 27, 28, 51, 23]) j hj))).up⟩
theorem rk_changes {n : Nat} {G M : GS} (h : R9 n G M) {i : Nat} {x2 x3 : Int32} (hi : i < gnS G) (hn : gnN G i < 514) (hb : ∃ b, b < 4 ∧ x3 = nI b) : R9 (n + 1) (gnote (g_X6_changes_3 G i x2 x3) i 1 (-1) x2 x3) (g_X7_changes_4 M i x2 x3) := by
  have eg : ∀ j9, j9 ∉ [46, 47, 48, 49, 54, 45, 9, 8, 7] → (gnote (g_X6_changes_3 G i x2 x3) i 1 (-1) x2 x3) j9 = G j9 := fun j hj => (e_gnote _ _ _ _ _ _ (nin_l (as := [46, 47, 48, 49, 54, 45]) (bs := [9, 8, 7]) hj)).trans (e_g_X6_changes_3 G i x2 x3 (nin_r (as := [46, 47, 48, 49, 54, 45]) (bs := [9, 8, 7]) hj))
  have em : ∀ j9, j9 ∉ [9, 8, 7, 0] → (g_X7_changes_4 M i x2 x3) j9 = M j9 := fun j hj => e_g_X7_changes_4 M i x2 x3 hj
  have hS : gnS (gnote (g_X6_changes_3 G i x2 x3) i 1 (-1) x2 x3) = gnS G := congrArg (fun z : Nat → Int32 => (z 0).toNatClampNeg) (eg 3 (by decide))
  have hV : gnV (gnote (g_X6_changes_3 G i x2 x3) i 1 (-1) x2 x3) = gnV G := congrArg (fun z : Nat → Int32 => (z 0).toNatClampNeg) (eg 29 (by decide))
  exact ⟨InvC.note (G := g_X6_changes_3 G i x2 x3) (((h.ic.fr 7 i x2 rfl).fr 8 i x3 rfl).fr 9 i ((G 9 i) + 1) rfl) hi hn 1 (-1) x2 x3,
    h.eq.tm [46, 47, 48, 49, 54, 45, 9, 8, 7] [9, 8, 7, 0] [7, 8, 9] eg em (by decide) (al_c (by rw [e_gnote _ _ _ _ _ _ (by decide)]; show upd (M 7) i x2 = upd (G 7) i x2; rw [h.q 7]) (al_c (by rw [e_gnote _ _ _ _ _ _ (by decide)]; show upd (M 8) i x3 = upd (G 8) i x3; rw [h.q 8]) (al_c (by rw [e_gnote _ _ _ _ _ _ (by decide)]; show upd (M 9) i (M 9 i + 1) = upd (G 9) i (G 9 i + 1); rw [h.q 9]) al_n))),
    (by rw [em 16 (by decide), eg 16 (by decide)]; exact h.e16),
    (by rw [em 20 (by decide), eg 19 (by decide), eg 20 (by decide)]; exact h.e20),
    (by rw [em 20 (by decide)]; exact h.t20),
    (by rw [em 22 (by decide), eg 22 (by decide)]; exact h.e22),
    (by rw [em 37 (by decide), eg 37 (by decide), eg 44 (by decide)]; exact h.e37),
    (by rw [eg 1 (by decide)]; exact h.b1),
    (fun x => by
      rw [e_gnote _ _ _ _ _ _ (by decide)]
      show ∃ b, b < 4 ∧ upd (G 8) i x3 x = nI b
      by_cases e : x = i
      · rw [e, pk_us]; exact hb
      · rw [pk_un e]; exact h.b8 x),
    (by rw [eg 21 (by decide)]; exact h.b21),
    (by rw [eg 10 (by decide), eg 11 (by decide)]; exact h.b10),
    (by rw [eg 6 (by decide)]; exact h.b6),
    (by rw [eg 33 (by decide), eg 35 (by decide)]; exact h.b33),
    (by rw [eg 40 (by decide), eg 41 (by decide)]; exact h.b40),
    (by rw [eg 19 (by decide)]; exact h.b19),
    ⟨(by rw [hS, e_gnote _ _ _ _ _ _ (by decide)]; show Zs (gnS G) (upd (G 9) i (G 9 i + 1)); exact h.za.1.u hi),
      (by rw [hS, eg 12 (by decide)]; exact h.za.2.1),
      (by rw [hS, eg 14 (by decide)]; exact h.za.2.2.1),
      (by rw [hS, eg 15 (by decide)]; exact h.za.2.2.2.1),
      (by rw [hS, eg 17 (by decide)]; exact h.za.2.2.2.2.1),
      (by rw [hS, eg 18 (by decide)]; exact h.za.2.2.2.2.2.1),
      (by rw [hV, eg 30 (by decide)]; exact h.za.2.2.2.2.2.2.1),
      (by rw [hV, eg 35 (by decide)]; exact h.za.2.2.2.2.2.2.2.1),
      (by rw [hV, eg 39 (by decide)]; exact h.za.2.2.2.2.2.2.2.2.1),
      (by rw [hV, eg 40 (by decide)]; exact h.za.2.2.2.2.2.2.2.2.2.1),
      (by rw [hV, eg 41 (by decide)]; exact h.za.2.2.2.2.2.2.2.2.2.2.1),
      (by rw [hV, eg 42 (by decide)]; exact h.za.2.2.2.2.2.2.2.2.2.2.2)⟩,
    NT_a (B := g_X6_changes_3 G i x2 x3) h.nt h.ic hn (fun j hj => e_g_X6_changes_3 G i x2 x3 ((by decide : ∀ j, j ∈ [3, 4, 6, 29, 30, 32, 35, 38, 40, 45, 46, 47, 48, 49] → j ∉ [9, 8, 7]) j hj)) (fun t => rfl) (fun t => rfl)⟩
theorem rk_issue {n : Nat} {G M : GS} (h : R9 n G M) {i f : Nat} {x3 : Int32} {T : Nat} (hi : i < gnS G) (hf : f < 5) (t1 : 1 ≤ T) (t2 : T ≤ 1825) (t3 : x3 = nI T) : R9 (n + 1) (g13 G i f (G 8 i) (G 1 0) ((G 1 0) + x3)) (g_X7_issue_7 M i f x3) := by
  have eg : ∀ j9, j9 ∉ [18, 19, 20, 21, 22] → (g13 G i f (G 8 i) (G 1 0) ((G 1 0) + x3)) j9 = G j9 := fun j hj => g13_ne hj
  have em : ∀ j9, j9 ∉ [22, 21, 20, 19, 18, 0, 0] → (g_X7_issue_7 M i f x3) j9 = M j9 := fun j hj => e_g_X7_issue_7 M i f x3 hj
  have hS : gnS (g13 G i f (G 8 i) (G 1 0) ((G 1 0) + x3)) = gnS G := congrArg (fun z : Nat → Int32 => (z 0).toNatClampNeg) (eg 3 (by decide))
  have hV : gnV (g13 G i f (G 8 i) (G 1 0) ((G 1 0) + x3)) = gnV G := congrArg (fun z : Nat → Int32 => (z 0).toNatClampNeg) (eg 29 (by decide))
  exact ⟨h.ic.crt hf (b := G 8 i) (d := G 1 0) (t := G 1 0 + x3) (T9 := T) (by rw [Int32.add_comm, Int32.add_sub_cancel]; exact t3) t1 t2,
    h.eq.tm [18, 19, 20, 21, 22] [22, 21, 20, 19, 18, 0, 0] [18, 19, 21] eg em (by decide) (al_c (by show upd (M 18) (5 * i + f) 1 = upd (G 18) (5 * i + f) 1; rw [h.q 18]) (al_c (by show upd (M 19) (5 * i + f) (M 1 0) = upd (G 19) (5 * i + f) (G 1 0); rw [h.q 19, h.q 1]) (al_c (by show upd (M 21) (5 * i + f) (M 8 i) = upd (G 21) (5 * i + f) (G 8 i); rw [h.q 21, h.q 8]) al_n))),
    (by rw [em 16 (by decide), eg 16 (by decide)]; exact h.e16),
    (fun x => by
      show upd (G 20) (5 * i + f) ((G 1 0) + x3) x = upd (G 19) (5 * i + f) (G 1 0) x + upd (M 20) (5 * i + f) x3 x
      by_cases e : x = (5 * i + f)
      · rw [e, pk_us, pk_us, pk_us]
      · rw [pk_un e, pk_un e, pk_un e]; exact h.e20 x),
    (fun x => by
      show ∃ T, T ≤ 1825 ∧ upd (M 20) (5 * i + f) x3 x = nI T
      by_cases e : x = (5 * i + f)
      · rw [e, pk_us]; exact ⟨T, t2, t3⟩
      · rw [pk_un e]; exact h.t20 x),
    (fun x => by
      show ∃ e, e < 16 ∧ upd (G 22) (5 * i + f) 0 x = nI e ∧ upd (M 22) (5 * i + f) 0 x = nI (2 * e)
      by_cases e : x = (5 * i + f)
      · rw [e, pk_us, pk_us]; exact ⟨0, by decide, rfl, rfl⟩
      · rw [pk_un e, pk_un e]; exact h.e22 x),
    (by rw [em 37 (by decide), eg 37 (by decide), eg 44 (by decide)]; exact h.e37),
    (by rw [eg 1 (by decide)]; exact h.b1),
    (by rw [eg 8 (by decide)]; exact h.b8),
    (fun x => by
      show ∃ b, b < 4 ∧ upd (G 21) (5 * i + f) (G 8 i) x = nI b
      by_cases e : x = (5 * i + f)
      · rw [e, pk_us]; exact h.b8 i
      · rw [pk_un e]; exact h.b21 x),
    (by rw [eg 10 (by decide), eg 11 (by decide)]; exact h.b10),
    (by rw [eg 6 (by decide)]; exact h.b6),
    (by rw [eg 33 (by decide), eg 35 (by decide)]; exact h.b33),
    (by rw [eg 40 (by decide), eg 41 (by decide)]; exact h.b40),
    (fun x => by
      show ∃ d, d ≤ 9000 ∧ upd (G 19) (5 * i + f) (G 1 0) x = nI d
      by_cases e : x = (5 * i + f)
      · rw [e, pk_us]; exact h.b1
      · rw [pk_un e]; exact h.b19 x),
    ⟨(by rw [hS, eg 9 (by decide)]; exact h.za.1),
      (by rw [hS, eg 12 (by decide)]; exact h.za.2.1),
      (by rw [hS, eg 14 (by decide)]; exact h.za.2.2.1),
      (by rw [hS, eg 15 (by decide)]; exact h.za.2.2.2.1),
      (by rw [hS, eg 17 (by decide)]; exact h.za.2.2.2.2.1),
      (by rw [hS]; show Zs (5 * gnS G) (upd (G 18) (5 * i + f) 1); exact Zs.u h.za.2.2.2.2.2.1 (by omega)),
      (by rw [hV, eg 30 (by decide)]; exact h.za.2.2.2.2.2.2.1),
      (by rw [hV, eg 35 (by decide)]; exact h.za.2.2.2.2.2.2.2.1),
      (by rw [hV, eg 39 (by decide)]; exact h.za.2.2.2.2.2.2.2.2.1),
      (by rw [hV, eg 40 (by decide)]; exact h.za.2.2.2.2.2.2.2.2.2.1),
      (by rw [hV, eg 41 (by decide)]; exact h.za.2.2.2.2.2.2.2.2.2.2.1),
      (by rw [hV, eg 42 (by decide)]; exact h.za.2.2.2.2.2.2.2.2.2.2.2)⟩,
    (h.nt.cg (fun j hj => eg j ((by decide : ∀ j, j ∈ [3, 4, 6, 7, 8, 29, 30, 32, 35, 38, 40, 45, 46, 47, 48, 49] → j ∉ [18, 19, 20, 21, 22]) j hj))).up⟩
theorem rk_endorse {n : Nat} {G M : GS} (h : R9 n G M) {i f k : Nat} (hk : k < 4) (k1 : f_X0_anniversaryToEndorse G i f (G 1 0) = nI k) (k2 : f_X7_anniversary (g_X7_endorse_2 M i f) (5 * i + f) = nI (k + 1)) : R9 (n + 1) (g_X6_endorse_1 G i f) (g_X7_endorse_3 M i f) := by
  have eg : ∀ j9, j9 ∉ [22] → (g_X6_endorse_1 G i f) j9 = G j9 := fun j hj => e_g_X6_endorse_1 G i f hj
  have em : ∀ j9, j9 ∉ [22, 0, 0] → (g_X7_endorse_3 M i f) j9 = M j9 := fun j hj => e_g_X7_endorse_3 M i f hj
  have hS : gnS (g_X6_endorse_1 G i f) = gnS G := congrArg (fun z : Nat → Int32 => (z 0).toNatClampNeg) (eg 3 (by decide))
  have hV : gnV (g_X6_endorse_1 G i f) = gnV G := congrArg (fun z : Nat → Int32 => (z 0).toNatClampNeg) (eg 29 (by decide))
  exact ⟨h.ic.fr 22 _ _ rfl,
    h.eq.tm [22] [22, 0, 0] [] eg em (by decide) al_n,
    (by rw [em 16 (by decide), eg 16 (by decide)]; exact h.e16),
    (by rw [em 20 (by decide), eg 19 (by decide), eg 20 (by decide)]; exact h.e20),
    (by rw [em 20 (by decide)]; exact h.t20),
    (fun x => by
      show ∃ e, e < 16 ∧ upd (G 22) (5 * i + f) ((G 22 (5 * i + f)) ||| ((1 : Int32) <<< ((f_X0_anniversaryToEndorse G i f (G 1 0)) &&& 31))) x = nI e ∧ upd (M 22) (5 * i + f) ((M 22 (5 * i + f)) ||| ((1 : Int32) <<< ((f_X7_anniversary (g_X7_endorse_2 M i f) (5 * i + f)) &&& 31))) x = nI (2 * e)
      by_cases e : x = (5 * i + f)
      · obtain ⟨e9, a1, a2, a3⟩ := h.e22 (5 * i + f)
        rw [e, pk_us, pk_us, k1, k2, a2, a3]
        exact ⟨e9 ||| 2 ^ k, bit_e e9 a1 k hk⟩
      · rw [pk_un e, pk_un e]; exact h.e22 x),
    (by rw [em 37 (by decide), eg 37 (by decide), eg 44 (by decide)]; exact h.e37),
    (by rw [eg 1 (by decide)]; exact h.b1),
    (by rw [eg 8 (by decide)]; exact h.b8),
    (by rw [eg 21 (by decide)]; exact h.b21),
    (by rw [eg 10 (by decide), eg 11 (by decide)]; exact h.b10),
    (by rw [eg 6 (by decide)]; exact h.b6),
    (by rw [eg 33 (by decide), eg 35 (by decide)]; exact h.b33),
    (by rw [eg 40 (by decide), eg 41 (by decide)]; exact h.b40),
    (by rw [eg 19 (by decide)]; exact h.b19),
    ⟨(by rw [hS, eg 9 (by decide)]; exact h.za.1),
      (by rw [hS, eg 12 (by decide)]; exact h.za.2.1),
      (by rw [hS, eg 14 (by decide)]; exact h.za.2.2.1),
      (by rw [hS, eg 15 (by decide)]; exact h.za.2.2.2.1),
      (by rw [hS, eg 17 (by decide)]; exact h.za.2.2.2.2.1),
      (by rw [hS, eg 18 (by decide)]; exact h.za.2.2.2.2.2.1),
      (by rw [hV, eg 30 (by decide)]; exact h.za.2.2.2.2.2.2.1),
      (by rw [hV, eg 35 (by decide)]; exact h.za.2.2.2.2.2.2.2.1),
      (by rw [hV, eg 39 (by decide)]; exact h.za.2.2.2.2.2.2.2.2.1),
      (by rw [hV, eg 40 (by decide)]; exact h.za.2.2.2.2.2.2.2.2.2.1),
      (by rw [hV, eg 41 (by decide)]; exact h.za.2.2.2.2.2.2.2.2.2.2.1),
      (by rw [hV, eg 42 (by decide)]; exact h.za.2.2.2.2.2.2.2.2.2.2.2)⟩,
    (h.nt.cg (fun j hj => eg j ((by decide : ∀ j, j ∈ [3, 4, 6, 7, 8, 29, 30, 32, 35, 38, 40, 45, 46, 47, 48, 49] → j ∉ [22]) j hj))).up⟩
theorem rk_calls {n : Nat} {G M : GS} (h : R9 n G M) {i p : Nat} {x2 : Int32} (ha : G 10 i = -1) (hp : p < 4) (hx : x2 = nI p) : R9 (n + 1) (g_X6_calls_1 G i x2) (g_X7_calls_3 M i x2) := by
  have h11 : G 11 i = -1 := by
    rcases h.b10 i with q | ⟨p9, p1, p2⟩
    · exact q.2
    · rw [ha] at p2
      exact absurd p2.symm (nI_m1 (by omega))
  have eg : ∀ j9, j9 ∉ [10] → (g_X6_calls_1 G i x2) j9 = G j9 := fun j hj => e_g_X6_calls_1 G i x2 hj
  have em : ∀ j9, j9 ∉ [11, 10, 0] → (g_X7_calls_3 M i x2) j9 = M j9 := fun j hj => e_g_X7_calls_3 M i x2 hj
  have hS : gnS (g_X6_calls_1 G i x2) = gnS G := congrArg (fun z : Nat → Int32 => (z 0).toNatClampNeg) (eg 3 (by decide))
  have hV : gnV (g_X6_calls_1 G i x2) = gnV G := congrArg (fun z : Nat → Int32 => (z 0).toNatClampNeg) (eg 29 (by decide))
  exact ⟨h.ic.fr 10 i x2 rfl,
    h.eq.tm [10] [11, 10, 0] [10, 11] eg em (by decide) (al_c (by show upd (M 10) i x2 = upd (G 10) i x2; rw [h.q 10]) (al_c (by show upd (M 11) i (-1) = G 11; rw [h.q 11]; exact upd_id h11) al_n)),
    (by rw [em 16 (by decide), eg 16 (by decide)]; exact h.e16),
    (by rw [em 20 (by decide), eg 19 (by decide), eg 20 (by decide)]; exact h.e20),
    (by rw [em 20 (by decide)]; exact h.t20),
    (by rw [em 22 (by decide), eg 22 (by decide)]; exact h.e22),
    (by rw [em 37 (by decide), eg 37 (by decide), eg 44 (by decide)]; exact h.e37),
    (by rw [eg 1 (by decide)]; exact h.b1),
    (by rw [eg 8 (by decide)]; exact h.b8),
    (by rw [eg 21 (by decide)]; exact h.b21),
    (fun x => by
      show (upd (G 10) i x2 x = -1 ∧ G 11 x = -1) ∨ ∃ p, p < 4 ∧ upd (G 10) i x2 x = nI p
      by_cases e : x = i
      · rw [e, pk_us]; exact Or.inr ⟨p, hp, hx⟩
      · rw [pk_un e]; exact h.b10 x),
    (by rw [eg 6 (by decide)]; exact h.b6),
    (by rw [eg 33 (by decide), eg 35 (by decide)]; exact h.b33),
    (by rw [eg 40 (by decide), eg 41 (by decide)]; exact h.b40),
    (by rw [eg 19 (by decide)]; exact h.b19),
    ⟨(by rw [hS, eg 9 (by decide)]; exact h.za.1),
      (by rw [hS, eg 12 (by decide)]; exact h.za.2.1),
      (by rw [hS, eg 14 (by decide)]; exact h.za.2.2.1),
      (by rw [hS, eg 15 (by decide)]; exact h.za.2.2.2.1),
      (by rw [hS, eg 17 (by decide)]; exact h.za.2.2.2.2.1),
      (by rw [hS, eg 18 (by decide)]; exact h.za.2.2.2.2.2.1),
      (by rw [hV, eg 30 (by decide)]; exact h.za.2.2.2.2.2.2.1),
      (by rw [hV, eg 35 (by decide)]; exact h.za.2.2.2.2.2.2.2.1),
      (by rw [hV, eg 39 (by decide)]; exact h.za.2.2.2.2.2.2.2.2.1),
      (by rw [hV, eg 40 (by decide)]; exact h.za.2.2.2.2.2.2.2.2.2.1),
      (by rw [hV, eg 41 (by decide)]; exact h.za.2.2.2.2.2.2.2.2.2.2.1),
      (by rw [hV, eg 42 (by decide)]; exact h.za.2.2.2.2.2.2.2.2.2.2.2)⟩,
    (h.nt.cg (fun j hj => eg j ((by decide : ∀ j, j ∈ [3, 4, 6, 7, 8, 29, 30, 32, 35, 38, 40, 45, 46, 47, 48, 49] → j ∉ [10]) j hj))).up⟩
theorem rk_leavesA {n : Nat} {G M : GS} (h : R9 n G M) {i p : Nat} (hv : v_X7_leaves_74 M i p = 0) : R9 (n + 1) (g_X6_leaves_3 G i p) (g_X7_leaves_4 M i p) := by
  have eg : ∀ j9, j9 ∉ [11, 10] → (g_X6_leaves_3 G i p) j9 = G j9 := fun j hj => e_g_X6_leaves_3 G i p hj
  have em : ∀ j9, j9 ∉ [11, 10, 43, 0] → (g_X7_leaves_4 M i p) j9 = M j9 := fun j hj => e_g_X7_leaves_4 M i p hj
  have hS : gnS (g_X6_leaves_3 G i p) = gnS G := congrArg (fun z : Nat → Int32 => (z 0).toNatClampNeg) (eg 3 (by decide))
  have hV : gnV (g_X6_leaves_3 G i p) = gnV G := congrArg (fun z : Nat → Int32 => (z 0).toNatClampNeg) (eg 29 (by decide))
  exact ⟨(h.ic.fr 10 i (-1) rfl).wn (f := 11) (s := i) (Or.inl rfl),
    h.eq.tm [11, 10] [11, 10, 43, 0] [10, 11, 43] eg em (by decide) (al_c (by show upd (M 10) i (-1) = upd (G 10) i (-1); rw [h.q 10]) (al_c (by show upd (M 11) i (-1) = upd (G 11) i (-1); rw [h.q 11]) (al_c (by show upd (M 43) p (M 43 p + (if v_X7_leaves_74 M i p = 0 then 0 else 1)) = G 43; rw [hv, if_pos rfl, Int32.add_zero, h.q 43]; exact upd_id rfl) al_n))),
    (by rw [em 16 (by decide), eg 16 (by decide)]; exact h.e16),
    (by rw [em 20 (by decide), eg 19 (by decide), eg 20 (by decide)]; exact h.e20),
    (by rw [em 20 (by decide)]; exact h.t20),
    (by rw [em 22 (by decide), eg 22 (by decide)]; exact h.e22),
    (by rw [em 37 (by decide), eg 37 (by decide), eg 44 (by decide)]; exact h.e37),
    (by rw [eg 1 (by decide)]; exact h.b1),
    (by rw [eg 8 (by decide)]; exact h.b8),
    (by rw [eg 21 (by decide)]; exact h.b21),
    (fun x => by
      show (upd (G 10) i (-1) x = -1 ∧ upd (G 11) i (-1) x = -1) ∨ ∃ p, p < 4 ∧ upd (G 10) i (-1) x = nI p
      by_cases e : x = i
      · rw [e, pk_us, pk_us]; exact Or.inl ⟨rfl, rfl⟩
      · rw [pk_un e, pk_un e]; exact h.b10 x),
    (by rw [eg 6 (by decide)]; exact h.b6),
    (by rw [eg 33 (by decide), eg 35 (by decide)]; exact h.b33),
    (by rw [eg 40 (by decide), eg 41 (by decide)]; exact h.b40),
    (by rw [eg 19 (by decide)]; exact h.b19),
    ⟨(by rw [hS, eg 9 (by decide)]; exact h.za.1),
      (by rw [hS, eg 12 (by decide)]; exact h.za.2.1),
      (by rw [hS, eg 14 (by decide)]; exact h.za.2.2.1),
      (by rw [hS, eg 15 (by decide)]; exact h.za.2.2.2.1),
      (by rw [hS, eg 17 (by decide)]; exact h.za.2.2.2.2.1),
      (by rw [hS, eg 18 (by decide)]; exact h.za.2.2.2.2.2.1),
      (by rw [hV, eg 30 (by decide)]; exact h.za.2.2.2.2.2.2.1),
      (by rw [hV, eg 35 (by decide)]; exact h.za.2.2.2.2.2.2.2.1),
      (by rw [hV, eg 39 (by decide)]; exact h.za.2.2.2.2.2.2.2.2.1),
      (by rw [hV, eg 40 (by decide)]; exact h.za.2.2.2.2.2.2.2.2.2.1),
      (by rw [hV, eg 41 (by decide)]; exact h.za.2.2.2.2.2.2.2.2.2.2.1),
      (by rw [hV, eg 42 (by decide)]; exact h.za.2.2.2.2.2.2.2.2.2.2.2)⟩,
    (h.nt.cg (fun j hj => eg j ((by decide : ∀ j, j ∈ [3, 4, 6, 7, 8, 29, 30, 32, 35, 38, 40, 45, 46, 47, 48, 49] → j ∉ [11, 10]) j hj))).up⟩
theorem rk_leavesB {n : Nat} {G M : GS} (h : R9 n G M) {i p : Nat} (hv : ¬ v_X7_leaves_74 M i p = 0) : R9 (n + 1) (g_X6_leaves_5 G i p) (g_X7_leaves_4 M i p) := by
  have eg : ∀ j9, j9 ∉ [11, 10, 43] → (g_X6_leaves_5 G i p) j9 = G j9 := fun j hj => e_g_X6_leaves_5 G i p hj
  have em : ∀ j9, j9 ∉ [11, 10, 43, 0] → (g_X7_leaves_4 M i p) j9 = M j9 := fun j hj => e_g_X7_leaves_4 M i p hj
  have hS : gnS (g_X6_leaves_5 G i p) = gnS G := congrArg (fun z : Nat → Int32 => (z 0).toNatClampNeg) (eg 3 (by decide))
  have hV : gnV (g_X6_leaves_5 G i p) = gnV G := congrArg (fun z : Nat → Int32 => (z 0).toNatClampNeg) (eg 29 (by decide))
  exact ⟨((h.ic.fr 43 p (G 43 p + 1) rfl).fr 10 i (-1) rfl).wn (f := 11) (s := i) (Or.inl rfl),
    h.eq.tm [11, 10, 43] [11, 10, 43, 0] [10, 11, 43] eg em (by decide) (al_c (by show upd (M 10) i (-1) = upd (G 10) i (-1); rw [h.q 10]) (al_c (by show upd (M 11) i (-1) = upd (G 11) i (-1); rw [h.q 11]) (al_c (by show upd (M 43) p (M 43 p + (if v_X7_leaves_74 M i p = 0 then 0 else 1)) = upd (G 43) p (G 43 p + 1); rw [if_neg hv, h.q 43]) al_n))),
    (by rw [em 16 (by decide), eg 16 (by decide)]; exact h.e16),
    (by rw [em 20 (by decide), eg 19 (by decide), eg 20 (by decide)]; exact h.e20),
    (by rw [em 20 (by decide)]; exact h.t20),
    (by rw [em 22 (by decide), eg 22 (by decide)]; exact h.e22),
    (by rw [em 37 (by decide), eg 37 (by decide), eg 44 (by decide)]; exact h.e37),
    (by rw [eg 1 (by decide)]; exact h.b1),
    (by rw [eg 8 (by decide)]; exact h.b8),
    (by rw [eg 21 (by decide)]; exact h.b21),
    (fun x => by
      show (upd (G 10) i (-1) x = -1 ∧ upd (G 11) i (-1) x = -1) ∨ ∃ p, p < 4 ∧ upd (G 10) i (-1) x = nI p
      by_cases e : x = i
      · rw [e, pk_us, pk_us]; exact Or.inl ⟨rfl, rfl⟩
      · rw [pk_un e, pk_un e]; exact h.b10 x),
    (by rw [eg 6 (by decide)]; exact h.b6),
    (by rw [eg 33 (by decide), eg 35 (by decide)]; exact h.b33),
    (by rw [eg 40 (by decide), eg 41 (by decide)]; exact h.b40),
    (by rw [eg 19 (by decide)]; exact h.b19),
    ⟨(by rw [hS, eg 9 (by decide)]; exact h.za.1),
      (by rw [hS, eg 12 (by decide)]; exact h.za.2.1),
      (by rw [hS, eg 14 (by decide)]; exact h.za.2.2.1),
      (by rw [hS, eg 15 (by decide)]; exact h.za.2.2.2.1),
      (by rw [hS, eg 17 (by decide)]; exact h.za.2.2.2.2.1),
      (by rw [hS, eg 18 (by decide)]; exact h.za.2.2.2.2.2.1),
      (by rw [hV, eg 30 (by decide)]; exact h.za.2.2.2.2.2.2.1),
      (by rw [hV, eg 35 (by decide)]; exact h.za.2.2.2.2.2.2.2.1),
      (by rw [hV, eg 39 (by decide)]; exact h.za.2.2.2.2.2.2.2.2.1),
      (by rw [hV, eg 40 (by decide)]; exact h.za.2.2.2.2.2.2.2.2.2.1),
      (by rw [hV, eg 41 (by decide)]; exact h.za.2.2.2.2.2.2.2.2.2.2.1),
      (by rw [hV, eg 42 (by decide)]; exact h.za.2.2.2.2.2.2.2.2.2.2.2)⟩,
    (h.nt.cg (fun j hj => eg j ((by decide : ∀ j, j ∈ [3, 4, 6, 7, 8, 29, 30, 32, 35, 38, 40, 45, 46, 47, 48, 49] → j ∉ [11, 10, 43]) j hj))).up⟩
theorem rk_visit {n : Nat} {G M : GS} (h : R9 n G M) {i : Nat} (hi : i < gnS G) (hn : gnN G i < 514) (hv : gnV G < 60) (h10 : ¬ G 10 i = -1) (hd : (if v_X7_visit_90 M i = 0 then (if v_X7_visit_112 M i = 0 then 0 else 1) else 2) = f_X6_depthOfNext G i) : R9 (n + 1) (gnote (g_X6_visit_2 G i) i 2 (nI (gnV G)) (G 1 0) (-1)) (g_X7_visit_10 M i) := by
  have e2 : ∀ j, j ∉ [12, 11] ++ [30, 31, 32, 33, 34, 35, 38, 39, 40, 41, 42, 53, 52, 29] → (g_X6_visit_2 G i) j = G j := fun j hj => (e_g_X6_visit_2 G i (nin_l (as := [12, 11]) (bs := [30, 31, 32, 33, 34, 35, 38, 39, 40, 41, 42, 53, 52, 29]) hj)).trans (e_gvi0 G i _ _ (nin_r (as := [12, 11]) (bs := [30, 31, 32, 33, 34, 35, 38, 39, 40, 41, 42, 53, 52, 29]) hj))
  have p29 : (g_X6_visit_2 G i) 29 = upd (G 29) 0 (nI (gnV G + 1)) := (e_g_X6_visit_2 G i (by decide)).trans ((up2_eq _ _ _ _).trans (by rw [g10_ne (by decide)]))
  have q29 : (gnote (g_X6_visit_2 G i) i 2 (nI (gnV G)) (G 1 0) (-1)) 29 = upd (G 29) 0 (nI (gnV G + 1)) := (e_gnote _ _ _ _ _ _ (by decide)).trans p29
  have q11 : (gnote (g_X6_visit_2 G i) i 2 (nI (gnV G)) (G 1 0) (-1)) 11 = upd (G 11) i (nI (gnV G)) := (e_gnote _ _ _ _ _ _ (by decide)).trans ((up2_ne (by decide)).trans ((up2_eq _ _ _ _).trans (by rw [e_gvi0 _ _ _ _ (by decide)])))
  have q12 : (gnote (g_X6_visit_2 G i) i 2 (nI (gnV G)) (G 1 0) (-1)) 12 = upd (G 12) i (nI (gnV G)) := (e_gnote _ _ _ _ _ _ (by decide)).trans ((up2_eq _ _ _ _).trans (by rw [show g_X6_visit_1 G i 12 = G 12 from (up2_ne (by decide)).trans (e_gvi0 _ _ _ _ (by decide))]))
  have eS : gnS (g_X6_visit_2 G i) = gnS G := congrArg (fun z : Nat → Int32 => (z 0).toNatClampNeg) (e2 3 (by decide))
  have eN : gnN (g_X6_visit_2 G i) i = gnN G i := congrArg (fun z : Nat → Int32 => (z i).toNatClampNeg) (e2 45 (by decide))
  have hv1 : gnV (g_X6_visit_2 G i) = gnV G + 1 := by
    show (((g_X6_visit_2 G i) 29) 0).toNatClampNeg = gnV G + 1
    rw [p29, pk_us, nI_clamp (by omega)]
  have hV : gnV (gnote (g_X6_visit_2 G i) i 2 (nI (gnV G)) (G 1 0) (-1)) = gnV G + 1 := by
    show (((gnote (g_X6_visit_2 G i) i 2 (nI (gnV G)) (G 1 0) (-1)) 29) 0).toNatClampNeg = gnV G + 1
    rw [q29, pk_us, nI_clamp (by omega)]
  have hlt : gnV G < gnV (gvi0 G i (G 1 0) (f_X6_depthOfNext G i)) := by rw [gvi0_n (by omega)]; omega
  have eg : ∀ j9, j9 ∉ [46, 47, 48, 49, 54, 45, 12, 11, 30, 31, 32, 33, 34, 35, 38, 39, 40, 41, 42, 53, 52, 29] → (gnote (g_X6_visit_2 G i) i 2 (nI (gnV G)) (G 1 0) (-1)) j9 = G j9 := fun j hj => (e_gnote _ _ _ _ _ _ (nin_l (as := [46, 47, 48, 49, 54, 45]) (bs := [12, 11] ++ [30, 31, 32, 33, 34, 35, 38, 39, 40, 41, 42, 53, 52, 29]) hj)).trans (e2 j (nin_r (as := [46, 47, 48, 49, 54, 45]) (bs := [12, 11] ++ [30, 31, 32, 33, 34, 35, 38, 39, 40, 41, 42, 53, 52, 29]) hj))
  have em : ∀ j9, j9 ∉ [29, 12, 11, 38, 34, 32, 31, 30, 33, 0] → (g_X7_visit_10 M i) j9 = M j9 := fun j hj => e_g_X7_visit_10 M i hj
  have hS : gnS (gnote (g_X6_visit_2 G i) i 2 (nI (gnV G)) (G 1 0) (-1)) = gnS G := congrArg (fun z : Nat → Int32 => (z 0).toNatClampNeg) (eg 3 (by decide))
  exact ⟨InvC.note (G := g_X6_visit_2 G i) (((h.ic.vi0 hi hv (G 1 0) (f_X6_depthOfNext G i)).wq (f := 11) (i := i) (Or.inl rfl) hlt).wq (f := 12) (i := i) (Or.inr (Or.inl rfl)) hlt) (by rw [eS]; exact hi) (by rw [eN]; exact hn) 2 (nI (gnV G)) (G 1 0) (-1),
    h.eq.tm [46, 47, 48, 49, 54, 45, 12, 11, 30, 31, 32, 33, 34, 35, 38, 39, 40, 41, 42, 53, 52, 29] [29, 12, 11, 38, 34, 32, 31, 30, 33, 0] [11, 12, 29, 30, 31, 32, 33, 34, 35, 38, 39, 40, 41, 42] eg em (by decide) (al_c (by rw [q11]; show upd (M 11) i (nI (gnV M)) = _; rw [h.q 11, h.V]) (al_c (by rw [q12]; show upd (M 12) i (nI (gnV M)) = _; rw [h.q 12, h.V]) (al_c (by rw [q29]; show upd (M 29) 0 (nI (gnV M) + 1) = _; rw [h.q 29, h.V, nI_1]) (al_c (by rw [e_gnote _ _ _ _ _ _ (by decide)]; show upd (M 30) (gnV M) (nI i) = upd (G 30) (gnV G) (nI i); rw [h.q 30, h.V]) (al_c (by rw [e_gnote _ _ _ _ _ _ (by decide)]; show upd (M 31) (gnV M) (M 10 i) = upd (G 31) (gnV G) (G 10 i); rw [h.q 31, h.V, h.q 10]) (al_c (by rw [e_gnote _ _ _ _ _ _ (by decide)]; show upd (M 32) (gnV M) (M 1 0) = upd (G 32) (gnV G) (G 1 0); rw [h.q 32, h.V, h.q 1]) (al_c (by rw [e_gnote _ _ _ _ _ _ (by decide)]; show upd (M 33) (gnV M) (if v_X7_visit_90 M i = 0 then (if v_X7_visit_112 M i = 0 then 0 else 1) else 2) = upd (G 33) (gnV G) (f_X6_depthOfNext G i); rw [h.q 33, h.V, hd]) (al_c (by rw [e_gnote _ _ _ _ _ _ (by decide)]; show upd (M 34) (gnV M) (M 7 i) = upd (G 34) (gnV G) (G 7 i); rw [h.q 34, h.V, h.q 7]) (al_c (by rw [e_gnote _ _ _ _ _ _ (by decide)]; show M 35 = upd (G 35) (gnV G) 0; rw [h.q 35]; exact (upd_id (h.za.2.2.2.2.2.2.2.1 (gnV G) (Nat.le_refl _))).symm) (al_c (by rw [e_gnote _ _ _ _ _ _ (by decide)]; show upd (M 38) (gnV M) (-1) = upd (G 38) (gnV G) (-1); rw [h.q 38, h.V]) (al_c (by rw [e_gnote _ _ _ _ _ _ (by decide)]; show M 39 = upd (G 39) (gnV G) 0; rw [h.q 39]; exact (upd_id (h.za.2.2.2.2.2.2.2.2.1 (gnV G) (Nat.le_refl _))).symm) (al_c (by rw [e_gnote _ _ _ _ _ _ (by decide)]; show M 40 = upd (G 40) (gnV G) 0; rw [h.q 40]; exact (upd_id (h.za.2.2.2.2.2.2.2.2.2.1 (gnV G) (Nat.le_refl _))).symm) (al_c (by rw [e_gnote _ _ _ _ _ _ (by decide)]; show M 41 = upd (G 41) (gnV G) 0; rw [h.q 41]; exact (upd_id (h.za.2.2.2.2.2.2.2.2.2.2.1 (gnV G) (Nat.le_refl _))).symm) (al_c (by rw [e_gnote _ _ _ _ _ _ (by decide)]; show M 42 = upd (G 42) (gnV G) 0; rw [h.q 42]; exact (upd_id (h.za.2.2.2.2.2.2.2.2.2.2.2 (gnV G) (Nat.le_refl _))).symm) al_n)))))))))))))),
    (by rw [em 16 (by decide), eg 16 (by decide)]; exact h.e16),
    (by rw [em 20 (by decide), eg 19 (by decide), eg 20 (by decide)]; exact h.e20),
    (by rw [em 20 (by decide)]; exact h.t20),
    (by rw [em 22 (by decide), eg 22 (by decide)]; exact h.e22),
    (by rw [em 37 (by decide), eg 37 (by decide), eg 44 (by decide)]; exact h.e37),
    (by rw [eg 1 (by decide)]; exact h.b1),
    (by rw [eg 8 (by decide)]; exact h.b8),
    (by rw [eg 21 (by decide)]; exact h.b21),
    (by
      rw [q11, eg 10 (by decide)]
      intro x
      by_cases e : x = i
      · rcases h.b10 x with q | q
        · exact absurd (e ▸ q.1) h10
        · exact Or.inr q
      · rw [pk_un e]; exact h.b10 x),
    (by rw [eg 6 (by decide)]; exact h.b6),
    (by
      rw [e_gnote _ _ _ _ _ _ (by decide), e_gnote _ _ _ _ _ _ (by decide)]
      intro x
      show upd (G 33) (gnV G) (f_X6_depthOfNext G i) x = 0 → (upd (G 35) (gnV G) 0 x).toNatClampNeg < 3
      by_cases e : x = gnV G
      · rw [e, pk_us]
        intro _
        rw [pk_us]
        decide
      · rw [pk_un e, pk_un e]; exact h.b33 x),
    (by
      rw [e_gnote _ _ _ _ _ _ (by decide), e_gnote _ _ _ _ _ _ (by decide)]
      intro x
      show (upd (G 40) (gnV G) 0 x = 0 ∨ upd (G 40) (gnV G) 0 x = 1 ∨ upd (G 40) (gnV G) 0 x = 2) ∧ (upd (G 41) (gnV G) 0 x = 0 ∨ upd (G 41) (gnV G) 0 x = 1 ∨ upd (G 41) (gnV G) 0 x = 2)
      by_cases e : x = gnV G
      · rw [e, pk_us, pk_us]
        exact ⟨Or.inl rfl, Or.inl rfl⟩
      · rw [pk_un e, pk_un e]; exact h.b40 x),
    (by rw [eg 19 (by decide)]; exact h.b19),
    ⟨(by rw [hS, eg 9 (by decide)]; exact h.za.1),
      (by rw [hS, q12]; exact Zs.u h.za.2.1 hi),
      (by rw [hS, eg 14 (by decide)]; exact h.za.2.2.1),
      (by rw [hS, eg 15 (by decide)]; exact h.za.2.2.2.1),
      (by rw [hS, eg 17 (by decide)]; exact h.za.2.2.2.2.1),
      (by rw [hS, eg 18 (by decide)]; exact h.za.2.2.2.2.2.1),
      (by rw [hV, e_gnote _ _ _ _ _ _ (by decide)]; show Zs (gnV G + 1) (upd (G 30) (gnV G) (nI i)); exact Zs.w h.za.2.2.2.2.2.2.1),
      (by rw [hV, e_gnote _ _ _ _ _ _ (by decide)]; show Zs (gnV G + 1) (upd (G 35) (gnV G) 0); exact Zs.w h.za.2.2.2.2.2.2.2.1),
      (by rw [hV, e_gnote _ _ _ _ _ _ (by decide)]; show Zs (gnV G + 1) (upd (G 39) (gnV G) 0); exact Zs.w h.za.2.2.2.2.2.2.2.2.1),
      (by rw [hV, e_gnote _ _ _ _ _ _ (by decide)]; show Zs (gnV G + 1) (upd (G 40) (gnV G) 0); exact Zs.w h.za.2.2.2.2.2.2.2.2.2.1),
      (by rw [hV, e_gnote _ _ _ _ _ _ (by decide)]; show Zs (gnV G + 1) (upd (G 41) (gnV G) 0); exact Zs.w h.za.2.2.2.2.2.2.2.2.2.2.1),
      (by rw [hV, e_gnote _ _ _ _ _ _ (by decide)]; show Zs (gnV G + 1) (upd (G 42) (gnV G) 0); exact Zs.w h.za.2.2.2.2.2.2.2.2.2.2.2)⟩,
    NT_c (B := g_X6_visit_2 G i) h.nt h.ic hi hn hv (fun j hj => e2 j ((by decide : ∀ j, j ∈ [3, 4, 6, 7, 8, 45, 46, 47, 48, 49] → j ∉ [12, 11] ++ [30, 31, 32, 33, 34, 35, 38, 39, 40, 41, 42, 53, 52, 29]) j hj)) hv1 (fun j u hj hu => (congrFun (e_g_X6_visit_2 G i ((by decide : ∀ j, j ∈ [30, 32, 35, 38, 40] → j ∉ [12, 11]) j hj)) u).trans (gvi0_x ((by decide : ∀ j, j ∈ [30, 32, 35, 38, 40] → j ∉ [29, 52]) j hj) hu)) ((congrFun (e_g_X6_visit_2 G i (by decide)) _).trans (gvi0_v (by decide) rfl)) ((congrFun (e_g_X6_visit_2 G i (by decide)) _).trans (gvi0_v (by decide) rfl)) ((congrFun (e_g_X6_visit_2 G i (by decide)) _).trans (gvi0_v (by decide) rfl)) ((congrFun (e_g_X6_visit_2 G i (by decide)) _).trans (gvi0_v (by decide) rfl)) ((congrFun (e_g_X6_visit_2 G i (by decide)) _).trans (gvi0_v (by decide) rfl))⟩
theorem rk_findsA {n : Nat} {G M : GS} (h : R9 n G M) {v : Nat} {x2 x3 : Int32} (hv : v < gnV G) (hn : gnN G (gnO G v) < 514) (hf : gnF G v < 12) (hA : G 33 v = 0 → gnF G v + 1 < 3) (hB : (if M 33 v = 0 then (if nI (gnF M v) + 1 = 3 then 1 else M 33 v) else M 33 v) = M 33 v) : R9 (n + 1) (gnote (gfnd G v x3) (gnO G v) 3 (nI v) x2 x3) (g_X7_finds_6 M v x2 x3 (gnO G v)) := by
  have e2 : ∀ j, j ∉ [36, 37, 44, 53, 35] → (gfnd G v x3) j = G j := fun j hj => e_gfnd G v x3 hj
  have so := h.ic.so hv
  have p35 : (gfnd G v x3) 35 = upd (G 35) v (nI (gnF G v + 1)) := ((up2_eq _ _ _ _).trans (by rw [g12_ne (by decide)]))
  have q35 : (gnote (gfnd G v x3) (gnO G v) 3 (nI v) x2 x3) 35 = upd (G 35) v (nI (gnF G v + 1)) := (e_gnote _ _ _ _ _ _ (by decide)).trans p35
  have eS : gnS (gfnd G v x3) = gnS G := congrArg (fun z : Nat → Int32 => (z 0).toNatClampNeg) (e2 3 (by decide))
  have eN : gnN (gfnd G v x3) (gnO G v) = gnN G (gnO G v) := congrArg (fun z : Nat → Int32 => (z (gnO G v)).toNatClampNeg) (e2 45 (by decide))
  have eg : ∀ j9, j9 ∉ [46, 47, 48, 49, 54, 45, 36, 37, 44, 53, 35] → (gnote (gfnd G v x3) (gnO G v) 3 (nI v) x2 x3) j9 = G j9 := fun j hj => (e_gnote _ _ _ _ _ _ (nin_l (as := [46, 47, 48, 49, 54, 45]) (bs := [36, 37, 44, 53, 35]) hj)).trans (e2 j (nin_r (as := [46, 47, 48, 49, 54, 45]) (bs := [36, 37, 44, 53, 35]) hj))
  have em : ∀ j9, j9 ∉ [33, 35, 37, 36, 0, 0] → (g_X7_finds_6 M v x2 x3 (gnO G v)) j9 = M j9 := fun j hj => e_g_X7_finds_6 M v x2 x3 (gnO G v) hj
  have hS : gnS (gnote (gfnd G v x3) (gnO G v) 3 (nI v) x2 x3) = gnS G := congrArg (fun z : Nat → Int32 => (z 0).toNatClampNeg) (eg 3 (by decide))
  have hV : gnV (gnote (gfnd G v x3) (gnO G v) 3 (nI v) x2 x3) = gnV G := congrArg (fun z : Nat → Int32 => (z 0).toNatClampNeg) (eg 29 (by decide))
  exact ⟨InvC.note (G := gfnd G v x3) (h.ic.fnd hv hf x3) (by rw [eS]; exact so.2) (by rw [eN]; exact hn) 3 (nI v) x2 x3,
    h.eq.tm [46, 47, 48, 49, 54, 45, 36, 37, 44, 53, 35] [33, 35, 37, 36, 0, 0] [33, 35, 36] eg em (by decide) (al_c (by rw [eg 33 (by decide)]; show upd (M 33) v (if M 33 v = 0 then (if nI (gnF M v) + 1 = 3 then 1 else M 33 v) else M 33 v) = G 33; rw [hB, h.q 33]; exact upd_id rfl) (al_c (by rw [q35]; show upd (M 35) v (nI (gnF M v) + 1) = _; rw [h.q 35, h.F, nI_1]) (al_c (by rw [e_gnote _ _ _ _ _ _ (by decide)]; show upd (M 36) (12 * v + gnF M v) x3 = upd (G 36) (12 * v + gnF G v) x3; rw [h.q 36, h.F]) al_n))),
    (by rw [em 16 (by decide), eg 16 (by decide)]; exact h.e16),
    (by rw [em 20 (by decide), eg 19 (by decide), eg 20 (by decide)]; exact h.e20),
    (by rw [em 20 (by decide)]; exact h.t20),
    (by rw [em 22 (by decide), eg 22 (by decide)]; exact h.e22),
    (by
      rw [e_gnote _ _ _ _ _ _ (by decide), e_gnote _ _ _ _ _ _ (by decide)]
      intro x
      show upd (M 37) (12 * v + gnF M v) 0 x = if upd (G 37) (12 * v + gnF G v) 0 x = 0 then (if upd (G 44) (12 * v + gnF G v) 0 x = 0 then 0 else 2) else 1
      rw [h.F]
      by_cases e : x = (12 * v + gnF G v)
      · rw [e, pk_us, pk_us, pk_us]; rfl
      · rw [pk_un e, pk_un e, pk_un e]; exact h.e37 x),
    (by rw [eg 1 (by decide)]; exact h.b1),
    (by rw [eg 8 (by decide)]; exact h.b8),
    (by rw [eg 21 (by decide)]; exact h.b21),
    (by rw [eg 10 (by decide), eg 11 (by decide)]; exact h.b10),
    (by rw [eg 6 (by decide)]; exact h.b6),
    (by
      rw [q35, eg 33 (by decide)]
      intro x hx
      by_cases e : x = v
      · rw [e] at hx
        rw [e, pk_us, nI_clamp (by omega)]
        exact hA hx
      · rw [pk_un e]; exact h.b33 x hx),
    (by rw [eg 40 (by decide), eg 41 (by decide)]; exact h.b40),
    (by rw [eg 19 (by decide)]; exact h.b19),
    ⟨(by rw [hS, eg 9 (by decide)]; exact h.za.1),
      (by rw [hS, eg 12 (by decide)]; exact h.za.2.1),
      (by rw [hS, eg 14 (by decide)]; exact h.za.2.2.1),
      (by rw [hS, eg 15 (by decide)]; exact h.za.2.2.2.1),
      (by rw [hS, eg 17 (by decide)]; exact h.za.2.2.2.2.1),
      (by rw [hS, eg 18 (by decide)]; exact h.za.2.2.2.2.2.1),
      (by rw [hV, eg 30 (by decide)]; exact h.za.2.2.2.2.2.2.1),
      (by rw [hV, q35]; exact Zs.u h.za.2.2.2.2.2.2.2.1 hv),
      (by rw [hV, eg 39 (by decide)]; exact h.za.2.2.2.2.2.2.2.2.1),
      (by rw [hV, eg 40 (by decide)]; exact h.za.2.2.2.2.2.2.2.2.2.1),
      (by rw [hV, eg 41 (by decide)]; exact h.za.2.2.2.2.2.2.2.2.2.2.1),
      (by rw [hV, eg 42 (by decide)]; exact h.za.2.2.2.2.2.2.2.2.2.2.2)⟩,
    NT_b (B := gfnd G v x3) h.nt h.ic so.2 hv so.1 hn (fun j hj => e2 j ((by decide : ∀ j, j ∈ [3, 4, 6, 7, 8, 29, 30, 32, 45, 46, 47, 48, 49] → j ∉ [36, 37, 44, 53, 35]) j hj)) (fun u => by
      rw [p35]
      by_cases e : u = v
      · rw [e, pk_us, if_pos rfl, if_pos rfl, (h.ic.f hv).1, nI_1]
      · rw [pk_un e, if_pos rfl, if_neg e, Int32.add_zero]) (fun u => by rw [e2 38 (by decide)]; exact (Int32.add_zero _).symm) (fun u => by rw [e2 40 (by decide)]; exact (Int32.add_zero _).symm) (by decide) (by decide) (by decide)⟩
theorem rk_findsB {n : Nat} {G M : GS} (h : R9 n G M) {v : Nat} {x2 x3 : Int32} (hv : v < gnV G) (hn : gnN G (gnO G v) < 514) (hf : gnF G v < 12) (hB : (if M 33 v = 0 then (if nI (gnF M v) + 1 = 3 then 1 else M 33 v) else M 33 v) = 1) : R9 (n + 1) (gnote (g_X6_finds_1 G v x2 x3) (gnO G v) 3 (nI v) x2 x3) (g_X7_finds_6 M v x2 x3 (gnO G v)) := by
  have e2 : ∀ j, j ∉ [33, 36, 37, 44, 53, 35] → (g_X6_finds_1 G v x2 x3) j = G j := fun j hj => (e_g_X6_finds_1 G v x2 x3 (nin_l (as := [33]) (bs := [36, 37, 44, 53, 35]) hj)).trans (e_gfnd G v x3 (nin_r (as := [33]) (bs := [36, 37, 44, 53, 35]) hj))
  have so := h.ic.so hv
  have q33 : (gnote (g_X6_finds_1 G v x2 x3) (gnO G v) 3 (nI v) x2 x3) 33 = upd (G 33) v 1 := (e_gnote _ _ _ _ _ _ (by decide)).trans ((up2_eq _ _ _ _).trans (by rw [e_gfnd _ _ _ (by decide)]))
  have p35 : (g_X6_finds_1 G v x2 x3) 35 = upd (G 35) v (nI (gnF G v + 1)) := (up2_ne (by decide)).trans ((up2_eq _ _ _ _).trans (by rw [g12_ne (by decide)]))
  have q35 : (gnote (g_X6_finds_1 G v x2 x3) (gnO G v) 3 (nI v) x2 x3) 35 = upd (G 35) v (nI (gnF G v + 1)) := (e_gnote _ _ _ _ _ _ (by decide)).trans p35
  have eS : gnS (g_X6_finds_1 G v x2 x3) = gnS G := congrArg (fun z : Nat → Int32 => (z 0).toNatClampNeg) (e2 3 (by decide))
  have eN : gnN (g_X6_finds_1 G v x2 x3) (gnO G v) = gnN G (gnO G v) := congrArg (fun z : Nat → Int32 => (z (gnO G v)).toNatClampNeg) (e2 45 (by decide))
  have eg : ∀ j9, j9 ∉ [46, 47, 48, 49, 54, 45, 33, 36, 37, 44, 53, 35] → (gnote (g_X6_finds_1 G v x2 x3) (gnO G v) 3 (nI v) x2 x3) j9 = G j9 := fun j hj => (e_gnote _ _ _ _ _ _ (nin_l (as := [46, 47, 48, 49, 54, 45]) (bs := [33, 36, 37, 44, 53, 35]) hj)).trans (e2 j (nin_r (as := [46, 47, 48, 49, 54, 45]) (bs := [33, 36, 37, 44, 53, 35]) hj))
  have em : ∀ j9, j9 ∉ [33, 35, 37, 36, 0, 0] → (g_X7_finds_6 M v x2 x3 (gnO G v)) j9 = M j9 := fun j hj => e_g_X7_finds_6 M v x2 x3 (gnO G v) hj
  have hS : gnS (gnote (g_X6_finds_1 G v x2 x3) (gnO G v) 3 (nI v) x2 x3) = gnS G := congrArg (fun z : Nat → Int32 => (z 0).toNatClampNeg) (eg 3 (by decide))
  have hV : gnV (gnote (g_X6_finds_1 G v x2 x3) (gnO G v) 3 (nI v) x2 x3) = gnV G := congrArg (fun z : Nat → Int32 => (z 0).toNatClampNeg) (eg 29 (by decide))
  exact ⟨InvC.note (G := g_X6_finds_1 G v x2 x3) ((h.ic.fnd hv hf x3).fr 33 v 1 rfl) (by rw [eS]; exact so.2) (by rw [eN]; exact hn) 3 (nI v) x2 x3,
    h.eq.tm [46, 47, 48, 49, 54, 45, 33, 36, 37, 44, 53, 35] [33, 35, 37, 36, 0, 0] [33, 35, 36] eg em (by decide) (al_c (by rw [q33]; show upd (M 33) v (if M 33 v = 0 then (if nI (gnF M v) + 1 = 3 then 1 else M 33 v) else M 33 v) = _; rw [hB, h.q 33]) (al_c (by rw [q35]; show upd (M 35) v (nI (gnF M v) + 1) = _; rw [h.q 35, h.F, nI_1]) (al_c (by rw [e_gnote _ _ _ _ _ _ (by decide)]; show upd (M 36) (12 * v + gnF M v) x3 = upd (G 36) (12 * v + gnF G v) x3; rw [h.q 36, h.F]) al_n))),
    (by rw [em 16 (by decide), eg 16 (by decide)]; exact h.e16),
    (by rw [em 20 (by decide), eg 19 (by decide), eg 20 (by decide)]; exact h.e20),
    (by rw [em 20 (by decide)]; exact h.t20),
    (by rw [em 22 (by decide), eg 22 (by decide)]; exact h.e22),
    (by
      rw [e_gnote _ _ _ _ _ _ (by decide), e_gnote _ _ _ _ _ _ (by decide)]
      intro x
      show upd (M 37) (12 * v + gnF M v) 0 x = if upd (G 37) (12 * v + gnF G v) 0 x = 0 then (if upd (G 44) (12 * v + gnF G v) 0 x = 0 then 0 else 2) else 1
      rw [h.F]
      by_cases e : x = (12 * v + gnF G v)
      · rw [e, pk_us, pk_us, pk_us]; rfl
      · rw [pk_un e, pk_un e, pk_un e]; exact h.e37 x),
    (by rw [eg 1 (by decide)]; exact h.b1),
    (by rw [eg 8 (by decide)]; exact h.b8),
    (by rw [eg 21 (by decide)]; exact h.b21),
    (by rw [eg 10 (by decide), eg 11 (by decide)]; exact h.b10),
    (by rw [eg 6 (by decide)]; exact h.b6),
    (by
      rw [q35, q33]
      intro x hx
      by_cases e : x = v
      · rw [e, pk_us] at hx
        exact absurd hx (by decide)
      · rw [pk_un e] at hx ⊢; exact h.b33 x hx),
    (by rw [eg 40 (by decide), eg 41 (by decide)]; exact h.b40),
    (by rw [eg 19 (by decide)]; exact h.b19),
    ⟨(by rw [hS, eg 9 (by decide)]; exact h.za.1),
      (by rw [hS, eg 12 (by decide)]; exact h.za.2.1),
      (by rw [hS, eg 14 (by decide)]; exact h.za.2.2.1),
      (by rw [hS, eg 15 (by decide)]; exact h.za.2.2.2.1),
      (by rw [hS, eg 17 (by decide)]; exact h.za.2.2.2.2.1),
      (by rw [hS, eg 18 (by decide)]; exact h.za.2.2.2.2.2.1),
      (by rw [hV, eg 30 (by decide)]; exact h.za.2.2.2.2.2.2.1),
      (by rw [hV, q35]; exact Zs.u h.za.2.2.2.2.2.2.2.1 hv),
      (by rw [hV, eg 39 (by decide)]; exact h.za.2.2.2.2.2.2.2.2.1),
      (by rw [hV, eg 40 (by decide)]; exact h.za.2.2.2.2.2.2.2.2.2.1),
      (by rw [hV, eg 41 (by decide)]; exact h.za.2.2.2.2.2.2.2.2.2.2.1),
      (by rw [hV, eg 42 (by decide)]; exact h.za.2.2.2.2.2.2.2.2.2.2.2)⟩,
    NT_b (B := g_X6_finds_1 G v x2 x3) h.nt h.ic so.2 hv so.1 hn (fun j hj => e2 j ((by decide : ∀ j, j ∈ [3, 4, 6, 7, 8, 29, 30, 32, 45, 46, 47, 48, 49] → j ∉ [33, 36, 37, 44, 53, 35]) j hj)) (fun u => by
      rw [p35]
      by_cases e : u = v
      · rw [e, pk_us, if_pos rfl, if_pos rfl, (h.ic.f hv).1, nI_1]
      · rw [pk_un e, if_pos rfl, if_neg e, Int32.add_zero]) (fun u => by rw [e2 38 (by decide)]; exact (Int32.add_zero _).symm) (fun u => by rw [e2 40 (by decide)]; exact (Int32.add_zero _).symm) (by decide) (by decide) (by decide)⟩
theorem rk_mendsA {n : Nat} {G M : GS} (h : R9 n G M) {v j : Nat} {x3 : Int32} (hx : x3 = 0) : R9 (n + 1) (g_X6_mends_1 G v j x3) (g_X7_mends_3 M v j x3) := by
  have eg : ∀ j9, j9 ∉ [37] → (g_X6_mends_1 G v j x3) j9 = G j9 := fun j9 hj => e_g_X6_mends_1 G v j x3 hj
  have em : ∀ j9, j9 ∉ [37, 0, 0] → (g_X7_mends_3 M v j x3) j9 = M j9 := fun j9 hj => e_g_X7_mends_3 M v j x3 hj
  have hS : gnS (g_X6_mends_1 G v j x3) = gnS G := congrArg (fun z : Nat → Int32 => (z 0).toNatClampNeg) (eg 3 (by decide))
  have hV : gnV (g_X6_mends_1 G v j x3) = gnV G := congrArg (fun z : Nat → Int32 => (z 0).toNatClampNeg) (eg 29 (by decide))
  exact ⟨h.ic.w37 nz1,
    h.eq.tm [37] [37, 0, 0] [] eg em (by decide) al_n,
    (by rw [em 16 (by decide), eg 16 (by decide)]; exact h.e16),
    (by rw [em 20 (by decide), eg 19 (by decide), eg 20 (by decide)]; exact h.e20),
    (by rw [em 20 (by decide)]; exact h.t20),
    (by rw [em 22 (by decide), eg 22 (by decide)]; exact h.e22),
    (fun x => by
      show upd (M 37) (12 * v + j) (if x3 = 0 then 1 else 2) x = if upd (G 37) (12 * v + j) 1 x = 0 then (if G 44 x = 0 then 0 else 2) else 1
      by_cases e : x = (12 * v + j)
      · rw [e, pk_us, pk_us]
        rw [if_pos hx, if_neg (by decide)]
      · rw [pk_un e, pk_un e]; exact h.e37 x),
    (by rw [eg 1 (by decide)]; exact h.b1),
    (by rw [eg 8 (by decide)]; exact h.b8),
    (by rw [eg 21 (by decide)]; exact h.b21),
    (by rw [eg 10 (by decide), eg 11 (by decide)]; exact h.b10),
    (by rw [eg 6 (by decide)]; exact h.b6),
    (by rw [eg 33 (by decide), eg 35 (by decide)]; exact h.b33),
    (by rw [eg 40 (by decide), eg 41 (by decide)]; exact h.b40),
    (by rw [eg 19 (by decide)]; exact h.b19),
    ⟨(by rw [hS, eg 9 (by decide)]; exact h.za.1),
      (by rw [hS, eg 12 (by decide)]; exact h.za.2.1),
      (by rw [hS, eg 14 (by decide)]; exact h.za.2.2.1),
      (by rw [hS, eg 15 (by decide)]; exact h.za.2.2.2.1),
      (by rw [hS, eg 17 (by decide)]; exact h.za.2.2.2.2.1),
      (by rw [hS, eg 18 (by decide)]; exact h.za.2.2.2.2.2.1),
      (by rw [hV, eg 30 (by decide)]; exact h.za.2.2.2.2.2.2.1),
      (by rw [hV, eg 35 (by decide)]; exact h.za.2.2.2.2.2.2.2.1),
      (by rw [hV, eg 39 (by decide)]; exact h.za.2.2.2.2.2.2.2.2.1),
      (by rw [hV, eg 40 (by decide)]; exact h.za.2.2.2.2.2.2.2.2.2.1),
      (by rw [hV, eg 41 (by decide)]; exact h.za.2.2.2.2.2.2.2.2.2.2.1),
      (by rw [hV, eg 42 (by decide)]; exact h.za.2.2.2.2.2.2.2.2.2.2.2)⟩,
    (h.nt.cg (fun j hj => eg j ((by decide : ∀ j, j ∈ [3, 4, 6, 7, 8, 29, 30, 32, 35, 38, 40, 45, 46, 47, 48, 49] → j ∉ [37]) j hj))).up⟩
theorem rk_mendsB {n : Nat} {G M : GS} (h : R9 n G M) {v j : Nat} {x3 : Int32} (hx : ¬ x3 = 0) (h0 : G 37 (12 * v + j) = 0) : R9 (n + 1) (g_X6_mends_2 G v j x3) (g_X7_mends_3 M v j x3) := by
  have eg : ∀ j9, j9 ∉ [44] → (g_X6_mends_2 G v j x3) j9 = G j9 := fun j9 hj => e_g_X6_mends_2 G v j x3 hj
  have em : ∀ j9, j9 ∉ [37, 0, 0] → (g_X7_mends_3 M v j x3) j9 = M j9 := fun j9 hj => e_g_X7_mends_3 M v j x3 hj
  have hS : gnS (g_X6_mends_2 G v j x3) = gnS G := congrArg (fun z : Nat → Int32 => (z 0).toNatClampNeg) (eg 3 (by decide))
  have hV : gnV (g_X6_mends_2 G v j x3) = gnV G := congrArg (fun z : Nat → Int32 => (z 0).toNatClampNeg) (eg 29 (by decide))
  exact ⟨h.ic.w44 nz1,
    h.eq.tm [44] [37, 0, 0] [] eg em (by decide) al_n,
    (by rw [em 16 (by decide), eg 16 (by decide)]; exact h.e16),
    (by rw [em 20 (by decide), eg 19 (by decide), eg 20 (by decide)]; exact h.e20),
    (by rw [em 20 (by decide)]; exact h.t20),
    (by rw [em 22 (by decide), eg 22 (by decide)]; exact h.e22),
    (fun x => by
      show upd (M 37) (12 * v + j) (if x3 = 0 then 1 else 2) x = if G 37 x = 0 then (if upd (G 44) (12 * v + j) 1 x = 0 then 0 else 2) else 1
      by_cases e : x = (12 * v + j)
      · rw [e, pk_us, pk_us]
        rw [if_neg hx, if_pos h0, if_neg (by decide)]
      · rw [pk_un e, pk_un e]; exact h.e37 x),
    (by rw [eg 1 (by decide)]; exact h.b1),
    (by rw [eg 8 (by decide)]; exact h.b8),
    (by rw [eg 21 (by decide)]; exact h.b21),
    (by rw [eg 10 (by decide), eg 11 (by decide)]; exact h.b10),
    (by rw [eg 6 (by decide)]; exact h.b6),
    (by rw [eg 33 (by decide), eg 35 (by decide)]; exact h.b33),
    (by rw [eg 40 (by decide), eg 41 (by decide)]; exact h.b40),
    (by rw [eg 19 (by decide)]; exact h.b19),
    ⟨(by rw [hS, eg 9 (by decide)]; exact h.za.1),
      (by rw [hS, eg 12 (by decide)]; exact h.za.2.1),
      (by rw [hS, eg 14 (by decide)]; exact h.za.2.2.1),
      (by rw [hS, eg 15 (by decide)]; exact h.za.2.2.2.1),
      (by rw [hS, eg 17 (by decide)]; exact h.za.2.2.2.2.1),
      (by rw [hS, eg 18 (by decide)]; exact h.za.2.2.2.2.2.1),
      (by rw [hV, eg 30 (by decide)]; exact h.za.2.2.2.2.2.2.1),
      (by rw [hV, eg 35 (by decide)]; exact h.za.2.2.2.2.2.2.2.1),
      (by rw [hV, eg 39 (by decide)]; exact h.za.2.2.2.2.2.2.2.2.1),
      (by rw [hV, eg 40 (by decide)]; exact h.za.2.2.2.2.2.2.2.2.2.1),
      (by rw [hV, eg 41 (by decide)]; exact h.za.2.2.2.2.2.2.2.2.2.2.1),
      (by rw [hV, eg 42 (by decide)]; exact h.za.2.2.2.2.2.2.2.2.2.2.2)⟩,
    (h.nt.cg (fun j hj => eg j ((by decide : ∀ j, j ∈ [3, 4, 6, 7, 8, 29, 30, 32, 35, 38, 40, 45, 46, 47, 48, 49] → j ∉ [44]) j hj))).up⟩
theorem rk_detain {n : Nat} {G M : GS} (h : R9 n G M) {v : Nat} (hv : v < gnV G) (hn : gnN G (gnO G v) < 514) (h38 : G 38 v = -1) : R9 (n + 1) (gnote (g_X6_detain_2 G v) (gnO G v) 4 (nI v) (G 1 0) (-1)) (g_X7_detain_4 M v (gnO G v)) := by
  have so := h.ic.so hv
  have eg : ∀ j9, j9 ∉ [46, 47, 48, 49, 54, 45, 13, 38] → (gnote (g_X6_detain_2 G v) (gnO G v) 4 (nI v) (G 1 0) (-1)) j9 = G j9 := fun j hj => (e_gnote _ _ _ _ _ _ (nin_l (as := [46, 47, 48, 49, 54, 45]) (bs := [13, 38]) hj)).trans (e_g_X6_detain_2 G v (nin_r (as := [46, 47, 48, 49, 54, 45]) (bs := [13, 38]) hj))
  have em : ∀ j9, j9 ∉ [13, 38, 0, 0] → (g_X7_detain_4 M v (gnO G v)) j9 = M j9 := fun j hj => e_g_X7_detain_4 M v (gnO G v) hj
  have hS : gnS (gnote (g_X6_detain_2 G v) (gnO G v) 4 (nI v) (G 1 0) (-1)) = gnS G := congrArg (fun z : Nat → Int32 => (z 0).toNatClampNeg) (eg 3 (by decide))
  have hV : gnV (gnote (g_X6_detain_2 G v) (gnO G v) 4 (nI v) (G 1 0) (-1)) = gnV G := congrArg (fun z : Nat → Int32 => (z 0).toNatClampNeg) (eg 29 (by decide))
  exact ⟨InvC.note (G := g_X6_detain_2 G v) ((h.ic.fr 38 v (G 1 0) rfl).wq (f := 13) (i := gnO G v) (Or.inr (Or.inr rfl)) hv) so.2 hn 4 (nI v) (G 1 0) (-1),
    h.eq.tm [46, 47, 48, 49, 54, 45, 13, 38] [13, 38, 0, 0] [13, 38] eg em (by decide) (al_c (by rw [e_gnote _ _ _ _ _ _ (by decide)]; show upd (M 13) (gnO G v) (nI v) = upd (G 13) (gnO G v) (nI v); rw [h.q 13]) (al_c (by rw [e_gnote _ _ _ _ _ _ (by decide)]; show upd (M 38) v (M 1 0) = upd (G 38) v (G 1 0); rw [h.q 38, h.q 1]) al_n)),
    (by rw [em 16 (by decide), eg 16 (by decide)]; exact h.e16),
    (by rw [em 20 (by decide), eg 19 (by decide), eg 20 (by decide)]; exact h.e20),
    (by rw [em 20 (by decide)]; exact h.t20),
    (by rw [em 22 (by decide), eg 22 (by decide)]; exact h.e22),
    (by rw [em 37 (by decide), eg 37 (by decide), eg 44 (by decide)]; exact h.e37),
    (by rw [eg 1 (by decide)]; exact h.b1),
    (by rw [eg 8 (by decide)]; exact h.b8),
    (by rw [eg 21 (by decide)]; exact h.b21),
    (by rw [eg 10 (by decide), eg 11 (by decide)]; exact h.b10),
    (by rw [eg 6 (by decide)]; exact h.b6),
    (by rw [eg 33 (by decide), eg 35 (by decide)]; exact h.b33),
    (by rw [eg 40 (by decide), eg 41 (by decide)]; exact h.b40),
    (by rw [eg 19 (by decide)]; exact h.b19),
    ⟨(by rw [hS, eg 9 (by decide)]; exact h.za.1),
      (by rw [hS, eg 12 (by decide)]; exact h.za.2.1),
      (by rw [hS, eg 14 (by decide)]; exact h.za.2.2.1),
      (by rw [hS, eg 15 (by decide)]; exact h.za.2.2.2.1),
      (by rw [hS, eg 17 (by decide)]; exact h.za.2.2.2.2.1),
      (by rw [hS, eg 18 (by decide)]; exact h.za.2.2.2.2.2.1),
      (by rw [hV, eg 30 (by decide)]; exact h.za.2.2.2.2.2.2.1),
      (by rw [hV, eg 35 (by decide)]; exact h.za.2.2.2.2.2.2.2.1),
      (by rw [hV, eg 39 (by decide)]; exact h.za.2.2.2.2.2.2.2.2.1),
      (by rw [hV, eg 40 (by decide)]; exact h.za.2.2.2.2.2.2.2.2.2.1),
      (by rw [hV, eg 41 (by decide)]; exact h.za.2.2.2.2.2.2.2.2.2.2.1),
      (by rw [hV, eg 42 (by decide)]; exact h.za.2.2.2.2.2.2.2.2.2.2.2)⟩,
    NT_b (B := g_X6_detain_2 G v) h.nt h.ic so.2 hv so.1 hn (fun j hj => e_g_X6_detain_2 G v ((by decide : ∀ j, j ∈ [3, 4, 6, 7, 8, 29, 30, 32, 45, 46, 47, 48, 49] → j ∉ [13, 38]) j hj)) (fun u => by rw [e_g_X6_detain_2 G v (by decide)]; exact (Int32.add_zero _).symm) (fun u => by
      show (if upd (G 38) v (G 1 0) u = -1 then (0 : Int32) else 1) = _
      obtain ⟨t, t1, t2⟩ := h.b1
      by_cases e : u = v
      · rw [e, pk_us, h38, t2, if_neg (nI_m1 (by omega)), if_pos rfl, if_pos rfl, if_pos rfl]
        rfl
      · rw [pk_un e, if_pos rfl, if_neg e, Int32.add_zero]) (fun u => by rw [e_g_X6_detain_2 G v (by decide)]; exact (Int32.add_zero _).symm) (by decide) (by decide) (by decide)⟩
theorem rk_voteA {n : Nat} {G M : GS} (h : R9 n G M) {v : Nat} {x2 : Int32} (hv : v < gnV G) (hn : gnN G (gnO G v) < 514) (hx : x2 = 0) (hd : G 41 v = 0 ∨ G 41 v = 1) : R9 (n + 1) (gnote (g_X6_vote_1 G v x2) (gnO G v) 6 (nI v) (-1) (-1)) (g_X7_vote_3 M v x2) := by
  have so := h.ic.so hv
  have n12 : ∀ y : Int32, (y = 0 ∨ y = 1) → (y + 1 = 0 ∨ y + 1 = 1 ∨ y + 1 = 2) := fun y hy => by
    rcases hy with e | e
    · rw [e]; exact Or.inr (Or.inl rfl)
    · rw [e]; exact Or.inr (Or.inr rfl)
  have eg : ∀ j9, j9 ∉ [46, 47, 48, 49, 54, 45, 41] → (gnote (g_X6_vote_1 G v x2) (gnO G v) 6 (nI v) (-1) (-1)) j9 = G j9 := fun j hj => (e_gnote _ _ _ _ _ _ (nin_l (as := [46, 47, 48, 49, 54, 45]) (bs := [41]) hj)).trans (e_g_X6_vote_1 G v x2 (nin_r (as := [46, 47, 48, 49, 54, 45]) (bs := [41]) hj))
  have em : ∀ j9, j9 ∉ [41, 40, 0] → (g_X7_vote_3 M v x2) j9 = M j9 := fun j hj => e_g_X7_vote_3 M v x2 hj
  have hS : gnS (gnote (g_X6_vote_1 G v x2) (gnO G v) 6 (nI v) (-1) (-1)) = gnS G := congrArg (fun z : Nat → Int32 => (z 0).toNatClampNeg) (eg 3 (by decide))
  have hV : gnV (gnote (g_X6_vote_1 G v x2) (gnO G v) 6 (nI v) (-1) (-1)) = gnV G := congrArg (fun z : Nat → Int32 => (z 0).toNatClampNeg) (eg 29 (by decide))
  exact ⟨InvC.note (G := g_X6_vote_1 G v x2) (h.ic.fr 41 v (G 41 v + 1) rfl) so.2 hn 6 (nI v) (-1) (-1),
    h.eq.tm [46, 47, 48, 49, 54, 45, 41] [41, 40, 0] [40, 41] eg em (by decide) (al_c (by rw [e_gnote _ _ _ _ _ _ (by decide)]; show upd (M 40) v (M 40 v + (if x2 = 0 then 0 else 1)) = G 40; rw [if_pos hx, Int32.add_zero, h.q 40]; exact upd_id rfl) (al_c (by rw [e_gnote _ _ _ _ _ _ (by decide)]; show upd (M 41) v (M 41 v + (if x2 = 0 then 1 else 0)) = upd (G 41) v (G 41 v + 1); rw [if_pos hx, h.q 41]) al_n)),
    (by rw [em 16 (by decide), eg 16 (by decide)]; exact h.e16),
    (by rw [em 20 (by decide), eg 19 (by decide), eg 20 (by decide)]; exact h.e20),
    (by rw [em 20 (by decide)]; exact h.t20),
    (by rw [em 22 (by decide), eg 22 (by decide)]; exact h.e22),
    (by rw [em 37 (by decide), eg 37 (by decide), eg 44 (by decide)]; exact h.e37),
    (by rw [eg 1 (by decide)]; exact h.b1),
    (by rw [eg 8 (by decide)]; exact h.b8),
    (by rw [eg 21 (by decide)]; exact h.b21),
    (by rw [eg 10 (by decide), eg 11 (by decide)]; exact h.b10),
    (by rw [eg 6 (by decide)]; exact h.b6),
    (by rw [eg 33 (by decide), eg 35 (by decide)]; exact h.b33),
    (by
      rw [e_gnote _ _ _ _ _ _ (by decide), e_gnote _ _ _ _ _ _ (by decide)]
      intro x
      show (G 40 x = 0 ∨ G 40 x = 1 ∨ G 40 x = 2) ∧ (upd (G 41) v (G 41 v + 1) x = 0 ∨ upd (G 41) v (G 41 v + 1) x = 1 ∨ upd (G 41) v (G 41 v + 1) x = 2)
      by_cases e : x = v
      · rw [e, pk_us]; exact ⟨(h.b40 v).1, n12 _ hd⟩
      · rw [pk_un e]; exact h.b40 x),
    (by rw [eg 19 (by decide)]; exact h.b19),
    ⟨(by rw [hS, eg 9 (by decide)]; exact h.za.1),
      (by rw [hS, eg 12 (by decide)]; exact h.za.2.1),
      (by rw [hS, eg 14 (by decide)]; exact h.za.2.2.1),
      (by rw [hS, eg 15 (by decide)]; exact h.za.2.2.2.1),
      (by rw [hS, eg 17 (by decide)]; exact h.za.2.2.2.2.1),
      (by rw [hS, eg 18 (by decide)]; exact h.za.2.2.2.2.2.1),
      (by rw [hV, eg 30 (by decide)]; exact h.za.2.2.2.2.2.2.1),
      (by rw [hV, eg 35 (by decide)]; exact h.za.2.2.2.2.2.2.2.1),
      (by rw [hV, eg 39 (by decide)]; exact h.za.2.2.2.2.2.2.2.2.1),
      (by rw [hV, eg 40 (by decide)]; exact h.za.2.2.2.2.2.2.2.2.2.1),
      (by rw [hV, e_gnote _ _ _ _ _ _ (by decide)]; show Zs (gnV G) (upd (G 41) v (G 41 v + 1)); exact Zs.u h.za.2.2.2.2.2.2.2.2.2.2.1 hv),
      (by rw [hV, eg 42 (by decide)]; exact h.za.2.2.2.2.2.2.2.2.2.2.2)⟩,
    NT_b (B := g_X6_vote_1 G v x2) h.nt h.ic so.2 hv so.1 hn (fun j hj => e_g_X6_vote_1 G v x2 ((by decide : ∀ j, j ∈ [3, 4, 6, 7, 8, 29, 30, 32, 45, 46, 47, 48, 49] → j ∉ [41]) j hj)) (fun u => by rw [e_g_X6_vote_1 G v x2 (by decide)]; exact (Int32.add_zero _).symm) (fun u => by rw [e_g_X6_vote_1 G v x2 (by decide)]; exact (Int32.add_zero _).symm) (fun u => by rw [e_g_X6_vote_1 G v x2 (by decide)]; exact (Int32.add_zero _).symm) (by decide) (by decide) (by decide)⟩
theorem rk_voteB {n : Nat} {G M : GS} (h : R9 n G M) {v : Nat} {x2 : Int32} (hv : v < gnV G) (hn : gnN G (gnO G v) < 514) (hx : ¬ x2 = 0) (hd : G 40 v = 0 ∨ G 40 v = 1) : R9 (n + 1) (gnote (g_X6_vote_2 G v x2) (gnO G v) 5 (nI v) (-1) (-1)) (g_X7_vote_3 M v x2) := by
  have so := h.ic.so hv
  have n12 : ∀ y : Int32, (y = 0 ∨ y = 1) → (y + 1 = 0 ∨ y + 1 = 1 ∨ y + 1 = 2) := fun y hy => by
    rcases hy with e | e
    · rw [e]; exact Or.inr (Or.inl rfl)
    · rw [e]; exact Or.inr (Or.inr rfl)
  have eg : ∀ j9, j9 ∉ [46, 47, 48, 49, 54, 45, 40] → (gnote (g_X6_vote_2 G v x2) (gnO G v) 5 (nI v) (-1) (-1)) j9 = G j9 := fun j hj => (e_gnote _ _ _ _ _ _ (nin_l (as := [46, 47, 48, 49, 54, 45]) (bs := [40]) hj)).trans (e_g_X6_vote_2 G v x2 (nin_r (as := [46, 47, 48, 49, 54, 45]) (bs := [40]) hj))
  have em : ∀ j9, j9 ∉ [41, 40, 0] → (g_X7_vote_3 M v x2) j9 = M j9 := fun j hj => e_g_X7_vote_3 M v x2 hj
  have hS : gnS (gnote (g_X6_vote_2 G v x2) (gnO G v) 5 (nI v) (-1) (-1)) = gnS G := congrArg (fun z : Nat → Int32 => (z 0).toNatClampNeg) (eg 3 (by decide))
  have hV : gnV (gnote (g_X6_vote_2 G v x2) (gnO G v) 5 (nI v) (-1) (-1)) = gnV G := congrArg (fun z : Nat → Int32 => (z 0).toNatClampNeg) (eg 29 (by decide))
  exact ⟨InvC.note (G := g_X6_vote_2 G v x2) (h.ic.fr 40 v (G 40 v + 1) rfl) so.2 hn 5 (nI v) (-1) (-1),
    h.eq.tm [46, 47, 48, 49, 54, 45, 40] [41, 40, 0] [40, 41] eg em (by decide) (al_c (by rw [e_gnote _ _ _ _ _ _ (by decide)]; show upd (M 40) v (M 40 v + (if x2 = 0 then 0 else 1)) = upd (G 40) v (G 40 v + 1); rw [if_neg hx, h.q 40]) (al_c (by rw [e_gnote _ _ _ _ _ _ (by decide)]; show upd (M 41) v (M 41 v + (if x2 = 0 then 1 else 0)) = G 41; rw [if_neg hx, Int32.add_zero, h.q 41]; exact upd_id rfl) al_n)),
    (by rw [em 16 (by decide), eg 16 (by decide)]; exact h.e16),
    (by rw [em 20 (by decide), eg 19 (by decide), eg 20 (by decide)]; exact h.e20),
    (by rw [em 20 (by decide)]; exact h.t20),
    (by rw [em 22 (by decide), eg 22 (by decide)]; exact h.e22),
    (by rw [em 37 (by decide), eg 37 (by decide), eg 44 (by decide)]; exact h.e37),
    (by rw [eg 1 (by decide)]; exact h.b1),
    (by rw [eg 8 (by decide)]; exact h.b8),
    (by rw [eg 21 (by decide)]; exact h.b21),
    (by rw [eg 10 (by decide), eg 11 (by decide)]; exact h.b10),
    (by rw [eg 6 (by decide)]; exact h.b6),
    (by rw [eg 33 (by decide), eg 35 (by decide)]; exact h.b33),
    (by
      rw [e_gnote _ _ _ _ _ _ (by decide), e_gnote _ _ _ _ _ _ (by decide)]
      intro x
      show (upd (G 40) v (G 40 v + 1) x = 0 ∨ upd (G 40) v (G 40 v + 1) x = 1 ∨ upd (G 40) v (G 40 v + 1) x = 2) ∧ (G 41 x = 0 ∨ G 41 x = 1 ∨ G 41 x = 2)
      by_cases e : x = v
      · rw [e, pk_us]; exact ⟨n12 _ hd, (h.b40 v).2⟩
      · rw [pk_un e]; exact h.b40 x),
    (by rw [eg 19 (by decide)]; exact h.b19),
    ⟨(by rw [hS, eg 9 (by decide)]; exact h.za.1),
      (by rw [hS, eg 12 (by decide)]; exact h.za.2.1),
      (by rw [hS, eg 14 (by decide)]; exact h.za.2.2.1),
      (by rw [hS, eg 15 (by decide)]; exact h.za.2.2.2.1),
      (by rw [hS, eg 17 (by decide)]; exact h.za.2.2.2.2.1),
      (by rw [hS, eg 18 (by decide)]; exact h.za.2.2.2.2.2.1),
      (by rw [hV, eg 30 (by decide)]; exact h.za.2.2.2.2.2.2.1),
      (by rw [hV, eg 35 (by decide)]; exact h.za.2.2.2.2.2.2.2.1),
      (by rw [hV, eg 39 (by decide)]; exact h.za.2.2.2.2.2.2.2.2.1),
      (by rw [hV, e_gnote _ _ _ _ _ _ (by decide)]; show Zs (gnV G) (upd (G 40) v (G 40 v + 1)); exact Zs.u h.za.2.2.2.2.2.2.2.2.2.1 hv),
      (by rw [hV, eg 41 (by decide)]; exact h.za.2.2.2.2.2.2.2.2.2.2.1),
      (by rw [hV, eg 42 (by decide)]; exact h.za.2.2.2.2.2.2.2.2.2.2.2)⟩,
    NT_b (B := g_X6_vote_2 G v x2) h.nt h.ic so.2 hv so.1 hn (fun j hj => e_g_X6_vote_2 G v x2 ((by decide : ∀ j, j ∈ [3, 4, 6, 7, 8, 29, 30, 32, 45, 46, 47, 48, 49] → j ∉ [40]) j hj)) (fun u => by rw [e_g_X6_vote_2 G v x2 (by decide)]; exact (Int32.add_zero _).symm) (fun u => by rw [e_g_X6_vote_2 G v x2 (by decide)]; exact (Int32.add_zero _).symm) (fun u => by
      show upd (G 40) v (G 40 v + 1) u = _
      by_cases e : u = v
      · rw [e, pk_us, if_pos rfl, if_pos rfl]
      · rw [pk_un e, if_pos rfl, if_neg e, Int32.add_zero]) (by decide) (by decide) (by decide)⟩
theorem rk_appeal {n : Nat} {G M : GS} (h : R9 n G M) {v : Nat} (hv : v < gnV G) : R9 (n + 1) (g_X6_appeal_1 G v) (g_X7_appeal_4 M v) := by
  have eg : ∀ j9, j9 ∉ [39] → (g_X6_appeal_1 G v) j9 = G j9 := fun j hj => e_g_X6_appeal_1 G v hj
  have em : ∀ j9, j9 ∉ [39, 0, 0] → (g_X7_appeal_4 M v) j9 = M j9 := fun j hj => e_g_X7_appeal_4 M v hj
  have hS : gnS (g_X6_appeal_1 G v) = gnS G := congrArg (fun z : Nat → Int32 => (z 0).toNatClampNeg) (eg 3 (by decide))
  have hV : gnV (g_X6_appeal_1 G v) = gnV G := congrArg (fun z : Nat → Int32 => (z 0).toNatClampNeg) (eg 29 (by decide))
  exact ⟨h.ic.w39 nz1,
    h.eq.tm [39] [39, 0, 0] [39] eg em (by decide) (al_c (by show upd (M 39) v 1 = upd (G 39) v 1; rw [h.q 39]) al_n),
    (by rw [em 16 (by decide), eg 16 (by decide)]; exact h.e16),
    (by rw [em 20 (by decide), eg 19 (by decide), eg 20 (by decide)]; exact h.e20),
    (by rw [em 20 (by decide)]; exact h.t20),
    (by rw [em 22 (by decide), eg 22 (by decide)]; exact h.e22),
    (by rw [em 37 (by decide), eg 37 (by decide), eg 44 (by decide)]; exact h.e37),
    (by rw [eg 1 (by decide)]; exact h.b1),
    (by rw [eg 8 (by decide)]; exact h.b8),
    (by rw [eg 21 (by decide)]; exact h.b21),
    (by rw [eg 10 (by decide), eg 11 (by decide)]; exact h.b10),
    (by rw [eg 6 (by decide)]; exact h.b6),
    (by rw [eg 33 (by decide), eg 35 (by decide)]; exact h.b33),
    (by rw [eg 40 (by decide), eg 41 (by decide)]; exact h.b40),
    (by rw [eg 19 (by decide)]; exact h.b19),
    ⟨(by rw [hS, eg 9 (by decide)]; exact h.za.1),
      (by rw [hS, eg 12 (by decide)]; exact h.za.2.1),
      (by rw [hS, eg 14 (by decide)]; exact h.za.2.2.1),
      (by rw [hS, eg 15 (by decide)]; exact h.za.2.2.2.1),
      (by rw [hS, eg 17 (by decide)]; exact h.za.2.2.2.2.1),
      (by rw [hS, eg 18 (by decide)]; exact h.za.2.2.2.2.2.1),
      (by rw [hV, eg 30 (by decide)]; exact h.za.2.2.2.2.2.2.1),
      (by rw [hV, eg 35 (by decide)]; exact h.za.2.2.2.2.2.2.2.1),
      (by rw [hV]; show Zs (gnV G) (upd (G 39) v 1); exact Zs.u h.za.2.2.2.2.2.2.2.2.1 hv),
      (by rw [hV, eg 40 (by decide)]; exact h.za.2.2.2.2.2.2.2.2.2.1),
      (by rw [hV, eg 41 (by decide)]; exact h.za.2.2.2.2.2.2.2.2.2.2.1),
      (by rw [hV, eg 42 (by decide)]; exact h.za.2.2.2.2.2.2.2.2.2.2.2)⟩,
    (h.nt.cg (fun j hj => eg j ((by decide : ∀ j, j ∈ [3, 4, 6, 7, 8, 29, 30, 32, 35, 38, 40, 45, 46, 47, 48, 49] → j ∉ [39]) j hj))).up⟩
theorem rk_releaseA {n : Nat} {G M : GS} (h : R9 n G M) {i j : Nat} (hi : i < gnS G) (hj : (G 13 i).toNatClampNeg = j) : R9 (n + 1) (g_X6_release_2 G i) (g_X7_release_4 M i j) := by
  have eg : ∀ j9, j9 ∉ [13, 17] → (g_X6_release_2 G i) j9 = G j9 := fun j hj => e_g_X6_release_2 G i hj
  have em : ∀ j9, j9 ∉ [13, 17, 0, 0] → (g_X7_release_4 M i j) j9 = M j9 := fun j9 hj => e_g_X7_release_4 M i j hj
  have hS : gnS (g_X6_release_2 G i) = gnS G := congrArg (fun z : Nat → Int32 => (z 0).toNatClampNeg) (eg 3 (by decide))
  have hV : gnV (g_X6_release_2 G i) = gnV G := congrArg (fun z : Nat → Int32 => (z 0).toNatClampNeg) (eg 29 (by decide))
  exact ⟨(h.ic.fr 17 i _ rfl).wn (f := 13) (s := i) (Or.inr (Or.inr rfl)),
    h.eq.tm [13, 17] [13, 17, 0, 0] [13, 17] eg em (by decide) (al_c (by show upd (M 13) i (-1) = upd (G 13) i (-1); rw [h.q 13]) (al_c (by show upd (M 17) i ((M 17 i) + (100 * ((M 1 0) - (M 38 j)))) = upd (G 17) i ((G 17 i) + (v_X6_release_53 G i)); unfold v_X6_release_53; rw [h.q 17, h.q 1, h.q 38, hj]) al_n)),
    (by rw [em 16 (by decide), eg 16 (by decide)]; exact h.e16),
    (by rw [em 20 (by decide), eg 19 (by decide), eg 20 (by decide)]; exact h.e20),
    (by rw [em 20 (by decide)]; exact h.t20),
    (by rw [em 22 (by decide), eg 22 (by decide)]; exact h.e22),
    (by rw [em 37 (by decide), eg 37 (by decide), eg 44 (by decide)]; exact h.e37),
    (by rw [eg 1 (by decide)]; exact h.b1),
    (by rw [eg 8 (by decide)]; exact h.b8),
    (by rw [eg 21 (by decide)]; exact h.b21),
    (by rw [eg 10 (by decide), eg 11 (by decide)]; exact h.b10),
    (by rw [eg 6 (by decide)]; exact h.b6),
    (by rw [eg 33 (by decide), eg 35 (by decide)]; exact h.b33),
    (by rw [eg 40 (by decide), eg 41 (by decide)]; exact h.b40),
    (by rw [eg 19 (by decide)]; exact h.b19),
    ⟨(by rw [hS, eg 9 (by decide)]; exact h.za.1),
      (by rw [hS, eg 12 (by decide)]; exact h.za.2.1),
      (by rw [hS, eg 14 (by decide)]; exact h.za.2.2.1),
      (by rw [hS, eg 15 (by decide)]; exact h.za.2.2.2.1),
      (by rw [hS]; show Zs (gnS G) (upd (G 17) i ((G 17 i) + (v_X6_release_53 G i))); exact Zs.u h.za.2.2.2.2.1 hi),
      (by rw [hS, eg 18 (by decide)]; exact h.za.2.2.2.2.2.1),
      (by rw [hV, eg 30 (by decide)]; exact h.za.2.2.2.2.2.2.1),
      (by rw [hV, eg 35 (by decide)]; exact h.za.2.2.2.2.2.2.2.1),
      (by rw [hV, eg 39 (by decide)]; exact h.za.2.2.2.2.2.2.2.2.1),
      (by rw [hV, eg 40 (by decide)]; exact h.za.2.2.2.2.2.2.2.2.2.1),
      (by rw [hV, eg 41 (by decide)]; exact h.za.2.2.2.2.2.2.2.2.2.2.1),
      (by rw [hV, eg 42 (by decide)]; exact h.za.2.2.2.2.2.2.2.2.2.2.2)⟩,
    (h.nt.cg (fun j hj => eg j ((by decide : ∀ j, j ∈ [3, 4, 6, 7, 8, 29, 30, 32, 35, 38, 40, 45, 46, 47, 48, 49] → j ∉ [13, 17]) j hj))).up⟩
theorem rk_releaseB {n : Nat} {G M : GS} (h : R9 n G M) {i j : Nat} (hi : i < gnS G) (hj : (G 13 i).toNatClampNeg = j) : R9 (n + 1) (g_X6_ban (g_X6_release_2 G i) i) (g_X7_release_7 M i j) := by
  have eg : ∀ j9, j9 ∉ [16, 15, 14, 13, 17] → (g_X6_ban (g_X6_release_2 G i) i) j9 = G j9 := fun j9 hj => (e_g_X6_ban_3 (g_X6_release_2 G i) i (nin_l (as := [16, 15, 14]) (bs := [13, 17]) hj)).trans (e_g_X6_release_2 G i (nin_r (as := [16, 15, 14]) (bs := [13, 17]) hj))
  have em : ∀ j9, j9 ∉ [14, 15, 16, 13, 17, 0, 0] → (g_X7_release_7 M i j) j9 = M j9 := fun j9 hj => e_g_X7_release_7 M i j hj
  have hS : gnS (g_X6_ban (g_X6_release_2 G i) i) = gnS G := congrArg (fun z : Nat → Int32 => (z 0).toNatClampNeg) (eg 3 (by decide))
  have hV : gnV (g_X6_ban (g_X6_release_2 G i) i) = gnV G := congrArg (fun z : Nat → Int32 => (z 0).toNatClampNeg) (eg 29 (by decide))
  exact ⟨((((h.ic.fr 17 i _ rfl).wn (f := 13) (s := i) (Or.inr (Or.inr rfl))).w14 (s := i) nz0).fr 15 i _ rfl).fr 16 i _ rfl,
    h.eq.tm [16, 15, 14, 13, 17] [14, 15, 16, 13, 17, 0, 0] [13, 14, 15, 17] eg em (by decide) (al_c (by show upd (M 13) i (-1) = upd (G 13) i (-1); rw [h.q 13]) (al_c (by show upd (M 14) i 0 = upd (G 14) i 0; rw [h.q 14]) (al_c (by show upd (M 15) i (M 15 i + 1) = upd (G 15) i (G 15 i + 1); rw [h.q 15]) (al_c (by show upd (M 17) i ((M 17 i) + (100 * ((M 1 0) - (M 38 j)))) = upd (G 17) i ((G 17 i) + (v_X6_release_53 G i)); unfold v_X6_release_53; rw [h.q 17, h.q 1, h.q 38, hj]) al_n)))),
    (fun x => by
      show upd (M 16) i (if M 15 i = 0 then (M 1 0) + 90 else (if M 15 i = 1 then (M 1 0) + 360 else 100000)) x = upd (G 16) i (if (G 15 i) + 1 = 1 then (G 1 0) + 90 else (if (G 15 i) + 1 = 2 then (G 1 0) + 360 else 9000)) x ∨ (upd (G 16) i (if (G 15 i) + 1 = 1 then (G 1 0) + 90 else (if (G 15 i) + 1 = 2 then (G 1 0) + 360 else 9000)) x = 9000 ∧ upd (M 16) i (if M 15 i = 0 then (M 1 0) + 90 else (if M 15 i = 1 then (M 1 0) + 360 else 100000)) x = 100000)
      rw [h.q 15, h.q 1]
      by_cases e : x = i
      · rw [e, pk_us, pk_us]
        by_cases a : G 15 i = 0
        · rw [if_pos a, if_pos (i_1.mpr a)]
          exact Or.inl rfl
        · rw [if_neg a, if_neg (fun q => a (i_1.mp q))]
          by_cases b : G 15 i = 1
          · rw [if_pos b, if_pos (i_2.mpr b)]
            exact Or.inl rfl
          · rw [if_neg b, if_neg (fun q => b (i_2.mp q))]
            exact Or.inr ⟨rfl, rfl⟩
      · rw [pk_un e, pk_un e]; exact h.e16 x),
    (by rw [em 20 (by decide), eg 19 (by decide), eg 20 (by decide)]; exact h.e20),
    (by rw [em 20 (by decide)]; exact h.t20),
    (by rw [em 22 (by decide), eg 22 (by decide)]; exact h.e22),
    (by rw [em 37 (by decide), eg 37 (by decide), eg 44 (by decide)]; exact h.e37),
    (by rw [eg 1 (by decide)]; exact h.b1),
    (by rw [eg 8 (by decide)]; exact h.b8),
    (by rw [eg 21 (by decide)]; exact h.b21),
    (by rw [eg 10 (by decide), eg 11 (by decide)]; exact h.b10),
    (by rw [eg 6 (by decide)]; exact h.b6),
    (by rw [eg 33 (by decide), eg 35 (by decide)]; exact h.b33),
    (by rw [eg 40 (by decide), eg 41 (by decide)]; exact h.b40),
    (by rw [eg 19 (by decide)]; exact h.b19),
    ⟨(by rw [hS, eg 9 (by decide)]; exact h.za.1),
      (by rw [hS, eg 12 (by decide)]; exact h.za.2.1),
      (by rw [hS]; show Zs (gnS G) (upd (G 14) i 0); exact Zs.u h.za.2.2.1 hi),
      (by rw [hS]; show Zs (gnS G) (upd (G 15) i (G 15 i + 1)); exact Zs.u h.za.2.2.2.1 hi),
      (by rw [hS]; show Zs (gnS G) (upd (G 17) i ((G 17 i) + (v_X6_release_53 G i))); exact Zs.u h.za.2.2.2.2.1 hi),
      (by rw [hS, eg 18 (by decide)]; exact h.za.2.2.2.2.2.1),
      (by rw [hV, eg 30 (by decide)]; exact h.za.2.2.2.2.2.2.1),
      (by rw [hV, eg 35 (by decide)]; exact h.za.2.2.2.2.2.2.2.1),
      (by rw [hV, eg 39 (by decide)]; exact h.za.2.2.2.2.2.2.2.2.1),
      (by rw [hV, eg 40 (by decide)]; exact h.za.2.2.2.2.2.2.2.2.2.1),
      (by rw [hV, eg 41 (by decide)]; exact h.za.2.2.2.2.2.2.2.2.2.2.1),
      (by rw [hV, eg 42 (by decide)]; exact h.za.2.2.2.2.2.2.2.2.2.2.2)⟩,
    (h.nt.cg (fun j hj => eg j ((by decide : ∀ j, j ∈ [3, 4, 6, 7, 8, 29, 30, 32, 35, 38, 40, 45, 46, 47, 48, 49] → j ∉ [16, 15, 14, 13, 17]) j hj))).up⟩
theorem rk_lfb {n : Nat} {G M : GS} (h : R9 n G M) {s : Nat} (hs : s < gnS G) : R9 (n) (g_X6_lookForBan G s) (g_X7_looksForBan M s) := by
  have z42 : ∀ k x, k ≤ x → (LG_X6_lookForBan_68 G s k) 42 x = G 42 x := fun k => by
    induction k with
    | zero => intro x _; rfl
    | succ k ih =>
      intro x hx
      have e2 : (LG_X6_lookForBan_68 G s (k + 1)) = if f_X6_isCounted (LG_X6_lookForBan_68 G s k) k s = 0 then LG_X6_lookForBan_68 G s k else up2 (LG_X6_lookForBan_68 G s k) 42 k 1 := rfl
      rw [e2]
      split
      · exact ih x (by omega)
      · rw [up2_eq, pk_un (by omega)]
        exact ih x (by omega)
  have r14 : (g_X6_lookForBan G s) 14 = if 3 ≤ L_X6_lookForBan_4_2 G s (gnV G) then upd (G 14) s 1 else G 14 := by
    unfold g_X6_lookForBan
    split
    · exact LFB_ne G s _ 14 (by decide)
    · rfl
  have r42 : (g_X6_lookForBan G s) 42 = if 3 ≤ L_X6_lookForBan_4_2 G s (gnV G) then (LG_X6_lookForBan_68 G s (gnV G)) 42 else G 42 := by
    unfold g_X6_lookForBan
    split <;> rfl
  have r : (g_X7_looksForBan M s) 14 = (if 3 ≤ L_X6_lookForBan_4_2 G s (gnV G) then upd (G 14) s 1 else G 14) ∧ (g_X7_looksForBan M s) 42 = (if 3 ≤ L_X6_lookForBan_4_2 G s (gnV G) then (LG_X6_lookForBan_68 G s (gnV G)) 42 else G 42) ∧ True := by
    unfold g_X7_looksForBan
    rw [v_lf2 h, h.V]
    by_cases c : 3 ≤ L_X6_lookForBan_4_2 G s (gnV G)
    · rw [if_pos c, if_pos c, if_pos c]
      refine ⟨?_, (up2_ne (by decide)).trans (v_lf42 h s _ (Nat.le_refl _)), trivial⟩
      rw [up2_eq, LG_X7_looksForBan_69_ne M s _ 14 (by decide), h.q 14]
    · rw [if_neg c, if_neg c, if_neg c]
      exact ⟨h.q 14, h.q 42, trivial⟩
  have eg : ∀ j9, j9 ∉ [14, 42] → (g_X6_lookForBan G s) j9 = G j9 := fun j hj => e_g_X6_lookForBan G s hj
  have em : ∀ j9, j9 ∉ [14, 42] → (g_X7_looksForBan M s) j9 = M j9 := fun j hj => e_g_X7_looksForBan M s hj
  have hS : gnS (g_X6_lookForBan G s) = gnS G := congrArg (fun z : Nat → Int32 => (z 0).toNatClampNeg) (eg 3 (by decide))
  have hV : gnV (g_X6_lookForBan G s) = gnV G := congrArg (fun z : Nat → Int32 => (z 0).toNatClampNeg) (eg 29 (by decide))
  exact ⟨h.ic.lfb s,
    h.eq.tm [14, 42] [14, 42] [14, 42] eg em (by decide) (al_c (r.1.trans r14.symm) (al_c (r.2.1.trans r42.symm) al_n)),
    (by rw [em 16 (by decide), eg 16 (by decide)]; exact h.e16),
    (by rw [em 20 (by decide), eg 19 (by decide), eg 20 (by decide)]; exact h.e20),
    (by rw [em 20 (by decide)]; exact h.t20),
    (by rw [em 22 (by decide), eg 22 (by decide)]; exact h.e22),
    (by rw [em 37 (by decide), eg 37 (by decide), eg 44 (by decide)]; exact h.e37),
    (by rw [eg 1 (by decide)]; exact h.b1),
    (by rw [eg 8 (by decide)]; exact h.b8),
    (by rw [eg 21 (by decide)]; exact h.b21),
    (by rw [eg 10 (by decide), eg 11 (by decide)]; exact h.b10),
    (by rw [eg 6 (by decide)]; exact h.b6),
    (by rw [eg 33 (by decide), eg 35 (by decide)]; exact h.b33),
    (by rw [eg 40 (by decide), eg 41 (by decide)]; exact h.b40),
    (by rw [eg 19 (by decide)]; exact h.b19),
    ⟨(by rw [hS, eg 9 (by decide)]; exact h.za.1),
      (by rw [hS, eg 12 (by decide)]; exact h.za.2.1),
      (by rw [hS, r14]; split; exact Zs.u h.za.2.2.1 hs; exact h.za.2.2.1),
      (by rw [hS, eg 15 (by decide)]; exact h.za.2.2.2.1),
      (by rw [hS, eg 17 (by decide)]; exact h.za.2.2.2.2.1),
      (by rw [hS, eg 18 (by decide)]; exact h.za.2.2.2.2.2.1),
      (by rw [hV, eg 30 (by decide)]; exact h.za.2.2.2.2.2.2.1),
      (by rw [hV, eg 35 (by decide)]; exact h.za.2.2.2.2.2.2.2.1),
      (by rw [hV, eg 39 (by decide)]; exact h.za.2.2.2.2.2.2.2.2.1),
      (by rw [hV, eg 40 (by decide)]; exact h.za.2.2.2.2.2.2.2.2.2.1),
      (by rw [hV, eg 41 (by decide)]; exact h.za.2.2.2.2.2.2.2.2.2.2.1),
      (by rw [hV, r42]; split; exact fun x hx => (z42 _ x hx).trans (h.za.2.2.2.2.2.2.2.2.2.2.2 x hx); exact h.za.2.2.2.2.2.2.2.2.2.2.2)⟩,
    h.nt.cg (fun j hj => eg j ((by decide : ∀ j, j ∈ [3, 4, 6, 7, 8, 29, 30, 32, 35, 38, 40, 45, 46, 47, 48, 49] → j ∉ [14, 42]) j hj))⟩
theorem rk_ship {n : Nat} {G M : GS} (h : R9 n G M) {x1 x2 x3 x4 x5 : Int32} (hn : gnS G < 12) (h3 : ¬ x3 < 0) (hb : ∃ b, b < 4 ∧ x5 = nI b) : R9 (n + 1) (gshp G x1 x2 x3 x4 x5) (g_X7_ship_12 M x1 x2 x3 x4 x5) := by
  have row : ∀ a w, a ∉ [46, 47, 48, 49, 54, 45, 3, 50, 18] → [(4, x1), (5, x2), (6, x3), (7, x4), (8, x5), (9, 0), (10, -1), (11, -1), (12, -1), (13, -1), (14, 0), (15, 0), (16, -1), (17, 0), (45, 0), (54, 0)].lookup a = some w → (gshp G x1 x2 x3 x4 x5) a = upd (G a) (gnS G) w := fun a w ha hl => funext (fun x => by
    refine (congrFun (gshp_g6 G x1 x2 x3 x4 x5 (fun e => ha (List.mem_append_left (bs := [50, 18]) e))) x).trans ?_
    by_cases e : x = gnS G
    · rw [e, pk_us]
      exact g6_at (fun e => ha (by rw [e]; decide)) (fun e => ha (by rw [e]; decide)) hl
    · rw [pk_un e]
      exact g6_x (fun e => ha (by rw [e]; decide)) (fun e => ha (by rw [e]; decide)) e)
  have r18 : (gshp G x1 x2 x3 x4 x5) 18 = G 18 := funext (fun x => by
    refine (congrFun (gshp_g6 G x1 x2 x3 x4 x5 (by decide)) x).trans ((congrFun (up2_ne (by decide)) x).trans ?_)
    by_cases e : 5 * gnS G ≤ x ∧ x < 5 * gnS G + 5
    · exact (if_pos ⟨rfl, e⟩).trans (h.za.2.2.2.2.2.1 x e.1).symm
    · exact (if_neg (fun q => e q.2)).trans (congrFun (upL_a rfl) x))
  have r3 : (gshp G x1 x2 x3 x4 x5) 3 = upd (G 3) 0 (nI (gnS G + 1)) := (up2_eq _ _ _ _).trans (by rw [e_gsh0 _ _ _ _ _ _ (by decide)])
  have hS : gnS (gshp G x1 x2 x3 x4 x5) = gnS G + 1 := gshp_n (by omega)
  have eg : ∀ j9, j9 ∉ [4, 5, 6, 7, 8, 9, 10, 11, 12, 13, 14, 15, 16, 17, 45, 54, 50, 18, 46, 47, 48, 49, 3] → (gshp G x1 x2 x3 x4 x5) j9 = G j9 := fun j hj => e_gshp G x1 x2 x3 x4 x5 hj
  have em : ∀ j9, j9 ∉ [3, 16, 13, 12, 11, 10, 8, 7, 6, 5, 4, 0] → (g_X7_ship_12 M x1 x2 x3 x4 x5) j9 = M j9 := fun j hj => e_g_X7_ship_12 M x1 x2 x3 x4 x5 hj
  have hV : gnV (gshp G x1 x2 x3 x4 x5) = gnV G := congrArg (fun z : Nat → Int32 => (z 0).toNatClampNeg) (eg 29 (by decide))
  exact ⟨h.ic.shp hn x1 x2 x3 x4 x5,
    h.eq.tm [4, 5, 6, 7, 8, 9, 10, 11, 12, 13, 14, 15, 16, 17, 45, 54, 50, 18, 46, 47, 48, 49, 3] [3, 16, 13, 12, 11, 10, 8, 7, 6, 5, 4, 0] [3, 4, 5, 6, 7, 8, 9, 10, 11, 12, 13, 14, 15, 17, 18] eg em (by decide) (al_c (by rw [r3]; show upd (M 3) 0 (nI (gnS M) + 1) = _; rw [h.q 3, h.S, nI_1]) (al_c (by rw [row 4 x1 (by decide) rfl]; show upd (M 4) (gnS M) x1 = _; rw [h.q 4, h.S]) (al_c (by rw [row 5 x2 (by decide) rfl]; show upd (M 5) (gnS M) x2 = _; rw [h.q 5, h.S]) (al_c (by rw [row 6 x3 (by decide) rfl]; show upd (M 6) (gnS M) x3 = _; rw [h.q 6, h.S]) (al_c (by rw [row 7 x4 (by decide) rfl]; show upd (M 7) (gnS M) x4 = _; rw [h.q 7, h.S]) (al_c (by rw [row 8 x5 (by decide) rfl]; show upd (M 8) (gnS M) x5 = _; rw [h.q 8, h.S]) (al_c (by rw [row 9 0 (by decide) rfl]; show M 9 = _; rw [h.q 9]; exact (upd_id (h.za.1 (gnS G) (Nat.le_refl _))).symm) (al_c (by rw [row 10 (-1) (by decide) rfl]; show upd (M 10) (gnS M) (-1) = _; rw [h.q 10, h.S]) (al_c (by rw [row 11 (-1) (by decide) rfl]; show upd (M 11) (gnS M) (-1) = _; rw [h.q 11, h.S]) (al_c (by rw [row 12 (-1) (by decide) rfl]; show upd (M 12) (gnS M) (-1) = _; rw [h.q 12, h.S]) (al_c (by rw [row 13 (-1) (by decide) rfl]; show upd (M 13) (gnS M) (-1) = _; rw [h.q 13, h.S]) (al_c (by rw [row 14 0 (by decide) rfl]; show M 14 = _; rw [h.q 14]; exact (upd_id (h.za.2.2.1 (gnS G) (Nat.le_refl _))).symm) (al_c (by rw [row 15 0 (by decide) rfl]; show M 15 = _; rw [h.q 15]; exact (upd_id (h.za.2.2.2.1 (gnS G) (Nat.le_refl _))).symm) (al_c (by rw [row 17 0 (by decide) rfl]; show M 17 = _; rw [h.q 17]; exact (upd_id (h.za.2.2.2.2.1 (gnS G) (Nat.le_refl _))).symm) (al_c (by rw [r18]; exact h.q 18) al_n))))))))))))))),
    (by
      rw [row 16 (-1) (by decide) rfl]
      intro x
      show upd (M 16) (gnS M) (-1) x = upd (G 16) (gnS G) (-1) x ∨ (upd (G 16) (gnS G) (-1) x = 9000 ∧ upd (M 16) (gnS M) (-1) x = 100000)
      rw [h.S]
      by_cases e : x = gnS G
      · rw [e, pk_us, pk_us]; exact Or.inl rfl
      · rw [pk_un e, pk_un e]; exact h.e16 x),
    (by rw [em 20 (by decide), eg 19 (by decide), eg 20 (by decide)]; exact h.e20),
    (by rw [em 20 (by decide)]; exact h.t20),
    (by rw [em 22 (by decide), eg 22 (by decide)]; exact h.e22),
    (by rw [em 37 (by decide), eg 37 (by decide), eg 44 (by decide)]; exact h.e37),
    (by rw [eg 1 (by decide)]; exact h.b1),
    (by
      rw [row 8 x5 (by decide) rfl]
      intro x
      by_cases e : x = gnS G
      · rw [e, pk_us]; exact hb
      · rw [pk_un e]; exact h.b8 x),
    (by rw [eg 21 (by decide)]; exact h.b21),
    (by
      rw [row 10 (-1) (by decide) rfl, row 11 (-1) (by decide) rfl]
      intro x
      by_cases e : x = gnS G
      · rw [e, pk_us, pk_us]; exact Or.inl ⟨rfl, rfl⟩
      · rw [pk_un e, pk_un e]; exact h.b10 x),
    (by
      rw [row 6 x3 (by decide) rfl]
      intro x
      by_cases e : x = gnS G
      · rw [e, pk_us]; exact h3
      · rw [pk_un e]; exact h.b6 x),
    (by rw [eg 33 (by decide), eg 35 (by decide)]; exact h.b33),
    (by rw [eg 40 (by decide), eg 41 (by decide)]; exact h.b40),
    (by rw [eg 19 (by decide)]; exact h.b19),
    ⟨(by rw [hS, row 9 0 (by decide) rfl]; exact Zs.w h.za.1),
      (by rw [hS, row 12 (-1) (by decide) rfl]; exact Zs.w h.za.2.1),
      (by rw [hS, row 14 0 (by decide) rfl]; exact Zs.w h.za.2.2.1),
      (by rw [hS, row 15 0 (by decide) rfl]; exact Zs.w h.za.2.2.2.1),
      (by rw [hS, row 17 0 (by decide) rfl]; exact Zs.w h.za.2.2.2.2.1),
      (by rw [hS, r18]; exact Zs.m h.za.2.2.2.2.2.1 (by omega)),
      (by rw [hV, eg 30 (by decide)]; exact h.za.2.2.2.2.2.2.1),
      (by rw [hV, eg 35 (by decide)]; exact h.za.2.2.2.2.2.2.2.1),
      (by rw [hV, eg 39 (by decide)]; exact h.za.2.2.2.2.2.2.2.2.1),
      (by rw [hV, eg 40 (by decide)]; exact h.za.2.2.2.2.2.2.2.2.2.1),
      (by rw [hV, eg 41 (by decide)]; exact h.za.2.2.2.2.2.2.2.2.2.2.1),
      (by rw [hV, eg 42 (by decide)]; exact h.za.2.2.2.2.2.2.2.2.2.2.2)⟩,
    NT_d h.nt h.ic hn⟩
