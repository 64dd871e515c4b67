theorem isx_nz {j n : Nat} {x : Int32} (e : x = nI n) (h : j < n) (hn : n < 2 ^ 31) : ¬ f_X6_isIndex (nI j) x = 0 := by
  rw [e, isx_one h hn]
  decide
theorem kA_changes {G : GS} (hI : InvC G) {i : Nat} (hi : i < gnS G) (x2 x3 : Int32) : K_changes G (nI i) x2 x3 = x_X6_changes G i x2 x3 ∧ F_changes G (nI i) x2 x3 = f_X6_changes G i x2 x3 ∧ H_changes G (nI i) x2 x3 = g_X6_changes G i x2 x3 := by
  have e1 : ¬ f_X6_isIndex (nI i) (nI (gnS G)) = 0 := isx_nz rfl hi (Nat.lt_of_le_of_lt hI.s.2.1 (by decide))
  have c1 : (nI i).toNatClampNeg = i := nI_clamp (by have := hi; have := hI.s.2.1; omega)
  unfold K_changes F_changes H_changes
  rw [if_neg e1, if_neg e1, if_neg e1, c1]
  exact ⟨rfl, rfl, rfl⟩
theorem kA_suspend {G : GS} (hI : InvC G) {i : Nat} (hi : i < 4) (x2 : Int32) : K_suspend G (nI i) x2 = x_X6_suspend G i x2 ∧ F_suspend G (nI i) x2 = f_X6_suspend G i x2 ∧ H_suspend G (nI i) x2 = g_X6_suspend G i x2 := by
  have e1 : ¬ f_X6_isIndex (nI i) 4 = 0 := isx_nz (n := 4) rfl hi (by decide)
  have c1 : (nI i).toNatClampNeg = i := nI_clamp (by have := hi; omega)
  unfold K_suspend F_suspend H_suspend
  rw [if_neg e1, if_neg e1, if_neg e1, c1]
  exact ⟨rfl, rfl, rfl⟩
theorem kA_issue {G : GS} (hI : InvC G) {i f : Nat} (hi : i < gnS G) (hf : f < 5) (x3 : Int32) : K_issue G (nI i) (nI f) x3 = x_X6_issue G i f x3 ∧ F_issue G (nI i) (nI f) x3 = f_X6_issue G i f x3 ∧ H_issue G (nI i) (nI f) x3 = g_X6_issue G i f x3 := by
  have e1 : ¬ f_X6_isIndex (nI i) (nI (gnS G)) = 0 := isx_nz rfl hi (Nat.lt_of_le_of_lt hI.s.2.1 (by decide))
  have c1 : (nI i).toNatClampNeg = i := nI_clamp (by have := hi; have := hI.s.2.1; omega)
  have e2 : ¬ f_X6_isIndex (nI f) 5 = 0 := isx_nz (n := 5) rfl hf (by decide)
  have c2 : (nI f).toNatClampNeg = f := nI_clamp (by omega)
  unfold K_issue F_issue H_issue
  rw [c1]
  rw [if_neg e1, if_neg e1, if_neg e1]
  rw [if_neg e2, if_neg e2, if_neg e2, c2]
  exact ⟨rfl, rfl, rfl⟩
theorem kA_endorse {G : GS} (hI : InvC G) {i f : Nat} (hi : i < gnS G) (hf : f < 5) : K_endorse G (nI i) (nI f)  = x_X6_endorse G i f  ∧ F_endorse G (nI i) (nI f)  = f_X6_endorse G i f  ∧ H_endorse G (nI i) (nI f)  = g_X6_endorse G i f  := by
  have e1 : ¬ f_X6_isIndex (nI i) (nI (gnS G)) = 0 := isx_nz rfl hi (Nat.lt_of_le_of_lt hI.s.2.1 (by decide))
  have c1 : (nI i).toNatClampNeg = i := nI_clamp (by have := hi; have := hI.s.2.1; omega)
  have e2 : ¬ f_X6_isIndex (nI f) 5 = 0 := isx_nz (n := 5) rfl hf (by decide)
  have c2 : (nI f).toNatClampNeg = f := nI_clamp (by omega)
  unfold K_endorse F_endorse H_endorse
  rw [c1]
  rw [if_neg e1, if_neg e1, if_neg e1]
  rw [if_neg e2, if_neg e2, if_neg e2, c2]
  exact ⟨rfl, rfl, rfl⟩
theorem kA_calls {G : GS} (hI : InvC G) {i : Nat} (hi : i < gnS G) (x2 : Int32) : K_calls G (nI i) x2 = x_X6_calls G i x2 ∧ F_calls G (nI i) x2 = f_X6_calls G i x2 ∧ H_calls G (nI i) x2 = g_X6_calls G i x2 := by
  have e1 : ¬ f_X6_isIndex (nI i) (nI (gnS G)) = 0 := isx_nz rfl hi (Nat.lt_of_le_of_lt hI.s.2.1 (by decide))
  have c1 : (nI i).toNatClampNeg = i := nI_clamp (by have := hi; have := hI.s.2.1; omega)
  unfold K_calls F_calls H_calls
  rw [if_neg e1, if_neg e1, if_neg e1, c1]
  exact ⟨rfl, rfl, rfl⟩
theorem kA_leaves {G : GS} (hI : InvC G) {i p : Nat} (hi : i < gnS G) (hp : G 10 i = nI p) (hp4 : p < 4) : K_leaves G (nI i) = x_X6_leaves G i p ∧ F_leaves G (nI i) = f_X6_leaves G i p ∧ H_leaves G (nI i) = g_X6_leaves G i p := by
  have e1 : ¬ f_X6_isIndex (nI i) (nI (gnS G)) = 0 := isx_nz rfl hi (Nat.lt_of_le_of_lt hI.s.2.1 (by decide))
  have c1 : (nI i).toNatClampNeg = i := nI_clamp (by have := hi; have := hI.s.2.1; omega)
  have e2 : ¬ G 10 i = -1 := by rw [hp]; exact nI_m1 (by omega)
  have c2 : (G 10 i).toNatClampNeg = p := by rw [hp, nI_clamp (by omega)]
  unfold K_leaves F_leaves H_leaves
  rw [c1]
  rw [if_neg e1, if_neg e1, if_neg e1]
  rw [if_neg e2, if_neg e2, if_neg e2, c2]
  exact ⟨rfl, rfl, rfl⟩
theorem kA_visit {G : GS} (hI : InvC G) {i : Nat} (hi : i < gnS G) : K_visit G (nI i)  = x_X6_visit G i  ∧ F_visit G (nI i)  = f_X6_visit G i  ∧ H_visit G (nI i)  = g_X6_visit G i  := by
  have e1 : ¬ f_X6_isIndex (nI i) (nI (gnS G)) = 0 := isx_nz rfl hi (Nat.lt_of_le_of_lt hI.s.2.1 (by decide))
  have c1 : (nI i).toNatClampNeg = i := nI_clamp (by have := hi; have := hI.s.2.1; omega)
  unfold K_visit F_visit H_visit
  rw [if_neg e1, if_neg e1, if_neg e1, c1]
  exact ⟨rfl, rfl, rfl⟩
theorem kA_finds {G : GS} (hI : InvC G) {i : Nat} (hi : i < gnV G) (x2 x3 : Int32) : K_finds G (nI i) x2 x3 = x_X6_finds G i x2 x3 ∧ F_finds G (nI i) x2 x3 = f_X6_finds G i x2 x3 ∧ H_finds G (nI i) x2 x3 = g_X6_finds G i x2 x3 := by
  have e1 : ¬ f_X6_isIndex (nI i) (nI (gnV G)) = 0 := isx_nz rfl hi (Nat.lt_of_le_of_lt hI.v.2.1 (by decide))
  have c1 : (nI i).toNatClampNeg = i := nI_clamp (by have := hi; have := hI.v.2.1; omega)
  unfold K_finds F_finds H_finds
  rw [if_neg e1, if_neg e1, if_neg e1, c1]
  exact ⟨rfl, rfl, rfl⟩
theorem kA_mends {G : GS} (hI : InvC G) {i f : Nat} (hi : i < gnV G) (hf : f < gnF G i) (x3 : Int32) : K_mends G (nI i) (nI f) x3 = x_X6_mends G i f x3 ∧ F_mends G (nI i) (nI f) x3 = f_X6_mends G i f x3 ∧ H_mends G (nI i) (nI f) x3 = g_X6_mends G i f x3 := by
  have e1 : ¬ f_X6_isIndex (nI i) (nI (gnV G)) = 0 := isx_nz rfl hi (Nat.lt_of_le_of_lt hI.v.2.1 (by decide))
  have c1 : (nI i).toNatClampNeg = i := nI_clamp (by have := hi; have := hI.v.2.1; omega)
  have e2 : ¬ f_X6_isIndex (nI f) (nI (gnF G i)) = 0 := by rw [isx_one hf (Nat.lt_of_le_of_lt (hI.f hi).2.1 (by decide))]; decide
  have c2 : (nI f).toNatClampNeg = f := nI_clamp (by have := (hI.f hi).2.1; omega)
  unfold K_mends F_mends H_mends
  rw [c1]
  rw [if_neg e1, if_neg e1, if_neg e1]
  rw [if_neg e2, if_neg e2, if_neg e2, c2]
  exact ⟨rfl, rfl, rfl⟩
theorem kA_detain {G : GS} (hI : InvC G) {i : Nat} (hi : i < gnV G) : K_detain G (nI i)  = x_X6_detain G i  ∧ F_detain G (nI i)  = f_X6_detain G i  ∧ H_detain G (nI i)  = g_X6_detain G i  := by
  have e1 : ¬ f_X6_isIndex (nI i) (nI (gnV G)) = 0 := isx_nz rfl hi (Nat.lt_of_le_of_lt hI.v.2.1 (by decide))
  have c1 : (nI i).toNatClampNeg = i := nI_clamp (by have := hi; have := hI.v.2.1; omega)
  unfold K_detain F_detain H_detain
  rw [if_neg e1, if_neg e1, if_neg e1, c1]
  exact ⟨rfl, rfl, rfl⟩
theorem kA_release {G : GS} (hI : InvC G) {i : Nat} (hi : i < gnS G) : K_release G (nI i)  = x_X6_release G i  ∧ F_release G (nI i)  = f_X6_release G i  ∧ H_release G (nI i)  = g_X6_release G i  := by
  have e1 : ¬ f_X6_isIndex (nI i) (nI (gnS G)) = 0 := isx_nz rfl hi (Nat.lt_of_le_of_lt hI.s.2.1 (by decide))
  have c1 : (nI i).toNatClampNeg = i := nI_clamp (by have := hi; have := hI.s.2.1; omega)
  unfold K_release F_release H_release
  rw [if_neg e1, if_neg e1, if_neg e1, c1]
  exact ⟨rfl, rfl, rfl⟩
theorem kA_appeal {G : GS} (hI : InvC G) {i : Nat} (hi : i < gnV G) : K_appeal G (nI i)  = x_X6_appeal G i  ∧ H_appeal G (nI i)  = g_X6_appeal G i  := by
  have e1 : ¬ f_X6_isIndex (nI i) (nI (gnV G)) = 0 := isx_nz rfl hi (Nat.lt_of_le_of_lt hI.v.2.1 (by decide))
  have c1 : (nI i).toNatClampNeg = i := nI_clamp (by have := hi; have := hI.v.2.1; omega)
  unfold K_appeal H_appeal
  rw [if_neg e1, if_neg e1, c1]
  exact ⟨rfl, rfl⟩
theorem kA_vote {G : GS} (hI : InvC G) {i : Nat} (hi : i < gnV G) (x2 : Int32) : K_vote G (nI i) x2 = x_X6_vote G i x2 ∧ F_vote G (nI i) x2 = f_X6_vote G i x2 ∧ H_vote G (nI i) x2 = g_X6_vote G i x2 := by
  have e1 : ¬ f_X6_isIndex (nI i) (nI (gnV G)) = 0 := isx_nz rfl hi (Nat.lt_of_le_of_lt hI.v.2.1 (by decide))
  have c1 : (nI i).toNatClampNeg = i := nI_clamp (by have := hi; have := hI.v.2.1; omega)
  unfold K_vote F_vote H_vote
  rw [if_neg e1, if_neg e1, if_neg e1, c1]
  exact ⟨rfl, rfl, rfl⟩
theorem kA_ofShip {G : GS} (hI : InvC G) {i : Nat} (hi : i < gnS G) (x2 : Int32) : K_ofShip G (nI i) x2 = x_X6_ofShip G i x2 ∧ F_ofShip G (nI i) x2 = f_X6_ofShip G i x2 ∧ H_ofShip G (nI i) x2 = g_X6_ofShip G i x2 := by
  have e1 : ¬ f_X6_isIndex (nI i) (nI (gnS G)) = 0 := isx_nz rfl hi (Nat.lt_of_le_of_lt hI.s.2.1 (by decide))
  have c1 : (nI i).toNatClampNeg = i := nI_clamp (by have := hi; have := hI.s.2.1; omega)
  unfold K_ofShip F_ofShip H_ofShip
  rw [if_neg e1, if_neg e1, if_neg e1, c1]
  exact ⟨rfl, rfl, rfl⟩
theorem kA_pointsAnew {G : GS} (hI : InvC G) {i : Nat} (hi : i < gnS G) : K_pointsAnew G (nI i)  = x_X6_pointsAnew G i  ∧ F_pointsAnew G (nI i)  = f_X6_pointsAnew G i  ∧ H_pointsAnew G (nI i)  = g_X6_pointsAnew G i  := by
  have e1 : ¬ f_X6_isIndex (nI i) (nI (gnS G)) = 0 := isx_nz rfl hi (Nat.lt_of_le_of_lt hI.s.2.1 (by decide))
  have c1 : (nI i).toNatClampNeg = i := nI_clamp (by have := hi; have := hI.s.2.1; omega)
  unfold K_pointsAnew F_pointsAnew H_pointsAnew
  rw [if_neg e1, if_neg e1, if_neg e1, c1]
  exact ⟨rfl, rfl, rfl⟩
theorem kA_isGround {G : GS} (hI : InvC G) {i : Nat} (hi : i < gnS G) (x2 : Int32) : K_isGround G (nI i) x2 = x_X6_isGround G i x2 ∧ F_isGround G (nI i) x2 = f_X6_isGround G i x2 ∧ H_isGround G (nI i) x2 = g_X6_isGround G i x2 := by
  have e1 : ¬ f_X6_isIndex (nI i) (nI (gnS G)) = 0 := isx_nz rfl hi (Nat.lt_of_le_of_lt hI.s.2.1 (by decide))
  have c1 : (nI i).toNatClampNeg = i := nI_clamp (by have := hi; have := hI.s.2.1; omega)
  unfold K_isGround F_isGround H_isGround
  rw [if_neg e1, if_neg e1, if_neg e1, c1]
  exact ⟨rfl, rfl, rfl⟩
theorem kA_ofVisit {G : GS} (hI : InvC G) {i : Nat} (hi : i < gnV G) (x2 : Int32) : K_ofVisit G (nI i) x2 = x_X6_ofVisit G i x2 ∧ F_ofVisit G (nI i) x2 = f_X6_ofVisit G i x2 ∧ H_ofVisit G (nI i) x2 = g_X6_ofVisit G i x2 := by
  have e1 : ¬ f_X6_isIndex (nI i) (nI (gnV G)) = 0 := isx_nz rfl hi (Nat.lt_of_le_of_lt hI.v.2.1 (by decide))
  have c1 : (nI i).toNatClampNeg = i := nI_clamp (by have := hi; have := hI.v.2.1; omega)
  unfold K_ofVisit F_ofVisit H_ofVisit
  rw [if_neg e1, if_neg e1, if_neg e1, c1]
  exact ⟨rfl, rfl, rfl⟩
theorem kA_missed {G : GS} (hI : InvC G) {i : Nat} (hi : i < 4) : K_missed G (nI i)  = x_X6_missed G i  ∧ F_missed G (nI i)  = f_X6_missed G i  ∧ H_missed G (nI i)  = g_X6_missed G i  := by
  have e1 : ¬ f_X6_isIndex (nI i) 4 = 0 := isx_nz (n := 4) rfl hi (by decide)
  have c1 : (nI i).toNatClampNeg = i := nI_clamp (by have := hi; omega)
  unfold K_missed F_missed H_missed
  rw [if_neg e1, if_neg e1, if_neg e1, c1]
  exact ⟨rfl, rfl, rfl⟩
theorem kA_knew {G : GS} (hI : InvC G) {i : Nat} (hi : i < gnS G) (x2 x3 : Int32) : K_knew G (nI i) x2 x3 = x_X6_knew G i x2 x3 ∧ F_knew G (nI i) x2 x3 = f_X6_knew G i x2 x3 ∧ H_knew G (nI i) x2 x3 = g_X6_knew G i x2 x3 := by
  have e1 : ¬ f_X6_isIndex (nI i) (nI (gnS G)) = 0 := isx_nz rfl hi (Nat.lt_of_le_of_lt hI.s.2.1 (by decide))
  have c1 : (nI i).toNatClampNeg = i := nI_clamp (by have := hi; have := hI.s.2.1; omega)
  unfold K_knew F_knew H_knew
  rw [if_neg e1, if_neg e1, if_neg e1, c1]
  exact ⟨rfl, rfl, rfl⟩
