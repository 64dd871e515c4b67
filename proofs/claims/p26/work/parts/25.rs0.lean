def kkm (a1 a2 a3 : Int32) (c : Nat) : Int32 := match c with
  | 0 => 0
  | 1 => a1
  | 2 => a2
  | _ => a3
theorem kr_pass (G : GS) (x1 : Int32) : K_pass G x1 = 0 ∨ K_pass G x1 = 1 ∨ K_pass G x1 = 2 := by
  unfold K_pass x_X6_pass
  (repeat' split) <;> decide
theorem hk_pass (G : GS) (x1 : Int32) (h : K_pass G x1 ≠ 0) : H_pass G x1 = G := by
  unfold K_pass x_X6_pass at h
  unfold H_pass g_X6_pass
  (repeat' split) <;> first | rfl | simp_all
theorem kr_ship (G : GS) (x1 x2 x3 x4 x5 : Int32) : K_ship G x1 x2 x3 x4 x5 = 0 ∨ K_ship G x1 x2 x3 x4 x5 = 1 ∨ K_ship G x1 x2 x3 x4 x5 = 2 ∨ K_ship G x1 x2 x3 x4 x5 = 3 := by
  unfold K_ship x_X6_ship
  (repeat' split) <;> decide
theorem hk_ship (G : GS) (x1 x2 x3 x4 x5 : Int32) (h : K_ship G x1 x2 x3 x4 x5 ≠ 0) : H_ship G x1 x2 x3 x4 x5 = G := by
  unfold K_ship x_X6_ship at h
  unfold H_ship g_X6_ship
  (repeat' split) <;> first | rfl | simp_all
theorem kr_changes (G : GS) (x1 x2 x3 : Int32) : K_changes G x1 x2 x3 = 0 ∨ K_changes G x1 x2 x3 = 3 := by
  unfold K_changes x_X6_changes
  (repeat' split) <;> decide
theorem hk_changes (G : GS) (x1 x2 x3 : Int32) (h : K_changes G x1 x2 x3 ≠ 0) : H_changes G x1 x2 x3 = G := by
  unfold K_changes x_X6_changes at h
  unfold H_changes g_X6_changes
  (repeat' split) <;> first | rfl | simp_all
theorem kr_suspend (G : GS) (x1 x2 : Int32) : K_suspend G x1 x2 = 0 ∨ K_suspend G x1 x2 = 3 := by
  unfold K_suspend x_X6_suspend
  (repeat' split) <;> decide
theorem hk_suspend (G : GS) (x1 x2 : Int32) (h : K_suspend G x1 x2 ≠ 0) : H_suspend G x1 x2 = G := by
  unfold K_suspend x_X6_suspend at h
  unfold H_suspend g_X6_suspend
  (repeat' split) <;> first | rfl | simp_all
theorem kr_rule (G : GS) (x1 x2 x3 x4 x5 : Int32) : K_rule G x1 x2 x3 x4 x5 = 0 ∨ K_rule G x1 x2 x3 x4 x5 = 1 ∨ K_rule G x1 x2 x3 x4 x5 = 2 := by
  unfold K_rule x_X6_rule
  (repeat' split) <;> decide
theorem hk_rule (G : GS) (x1 x2 x3 x4 x5 : Int32) (h : K_rule G x1 x2 x3 x4 x5 ≠ 0) : H_rule G x1 x2 x3 x4 x5 = G := by
  unfold K_rule x_X6_rule at h
  unfold H_rule g_X6_rule
  (repeat' split) <;> first | rfl | simp_all
theorem kr_issue (G : GS) (x1 x2 x3 : Int32) : K_issue G x1 x2 x3 = 0 ∨ K_issue G x1 x2 x3 = 1 ∨ K_issue G x1 x2 x3 = 2 ∨ K_issue G x1 x2 x3 = 3 := by
  unfold K_issue x_X6_issue
  (repeat' split) <;> decide
theorem hk_issue (G : GS) (x1 x2 x3 : Int32) (h : K_issue G x1 x2 x3 ≠ 0) : H_issue G x1 x2 x3 = G := by
  unfold K_issue x_X6_issue at h
  unfold H_issue g_X6_issue
  (repeat' split) <;> first | rfl | simp_all
theorem kr_endorse (G : GS) (x1 x2 : Int32) : K_endorse G x1 x2 = 0 ∨ K_endorse G x1 x2 = 1 ∨ K_endorse G x1 x2 = 2 ∨ K_endorse G x1 x2 = 3 := by
  unfold K_endorse x_X6_endorse
  (repeat' split) <;> decide
theorem hk_endorse (G : GS) (x1 x2 : Int32) (h : K_endorse G x1 x2 ≠ 0) : H_endorse G x1 x2 = G := by
  unfold K_endorse x_X6_endorse at h
  unfold H_endorse g_X6_endorse
  (repeat' split) <;> first | rfl | simp_all
theorem kr_calls (G : GS) (x1 x2 : Int32) : K_calls G x1 x2 = 0 ∨ K_calls G x1 x2 = 2 ∨ K_calls G x1 x2 = 3 := by
  unfold K_calls x_X6_calls
  (repeat' split) <;> decide
theorem hk_calls (G : GS) (x1 x2 : Int32) (h : K_calls G x1 x2 ≠ 0) : H_calls G x1 x2 = G := by
  unfold K_calls x_X6_calls at h
  unfold H_calls g_X6_calls
  (repeat' split) <;> first | rfl | simp_all
theorem kr_leaves (G : GS) (x1 : Int32) : K_leaves G x1 = 0 ∨ K_leaves G x1 = 2 ∨ K_leaves G x1 = 3 := by
  unfold K_leaves x_X6_leaves
  (repeat' split) <;> decide
theorem hk_leaves (G : GS) (x1 : Int32) (h : K_leaves G x1 ≠ 0) : H_leaves G x1 = G := by
  unfold K_leaves x_X6_leaves at h
  unfold H_leaves g_X6_leaves
  (repeat' split) <;> first | rfl | simp_all
theorem kr_visit (G : GS) (x1 : Int32) : K_visit G x1 = 0 ∨ K_visit G x1 = 2 ∨ K_visit G x1 = 3 := by
  unfold K_visit x_X6_visit
  (repeat' split) <;> decide
theorem hk_visit (G : GS) (x1 : Int32) (h : K_visit G x1 ≠ 0) : H_visit G x1 = G := by
  unfold K_visit x_X6_visit at h
  unfold H_visit g_X6_visit
  (repeat' split) <;> first | rfl | simp_all
theorem kr_finds (G : GS) (x1 x2 x3 : Int32) : K_finds G x1 x2 x3 = 0 ∨ K_finds G x1 x2 x3 = 1 ∨ K_finds G x1 x2 x3 = 2 ∨ K_finds G x1 x2 x3 = 3 := by
  unfold K_finds x_X6_finds
  (repeat' split) <;> decide
theorem hk_finds (G : GS) (x1 x2 x3 : Int32) (h : K_finds G x1 x2 x3 ≠ 0) : H_finds G x1 x2 x3 = G := by
  unfold K_finds x_X6_finds at h
  unfold H_finds g_X6_finds
  (repeat' split) <;> first | rfl | simp_all
theorem kr_mends (G : GS) (x1 x2 x3 : Int32) : K_mends G x1 x2 x3 = 0 ∨ K_mends G x1 x2 x3 = 2 ∨ K_mends G x1 x2 x3 = 3 := by
  unfold K_mends x_X6_mends
  (repeat' split) <;> decide
theorem hk_mends (G : GS) (x1 x2 x3 : Int32) (h : K_mends G x1 x2 x3 ≠ 0) : H_mends G x1 x2 x3 = G := by
  unfold K_mends x_X6_mends at h
  unfold H_mends g_X6_mends
  (repeat' split) <;> first | rfl | simp_all
theorem kr_detain (G : GS) (x1 : Int32) : K_detain G x1 = 0 ∨ K_detain G x1 = 2 ∨ K_detain G x1 = 3 := by
  unfold K_detain x_X6_detain
  (repeat' split) <;> decide
theorem hk_detain (G : GS) (x1 : Int32) (h : K_detain G x1 ≠ 0) : H_detain G x1 = G := by
  unfold K_detain x_X6_detain at h
  unfold H_detain g_X6_detain
  (repeat' split) <;> first | rfl | simp_all
theorem kr_release (G : GS) (x1 : Int32) : K_release G x1 = 0 ∨ K_release G x1 = 2 ∨ K_release G x1 = 3 := by
  unfold K_release x_X6_release
  (repeat' split) <;> decide
theorem hk_release (G : GS) (x1 : Int32) (h : K_release G x1 ≠ 0) : H_release G x1 = G := by
  unfold K_release x_X6_release at h
  unfold H_release g_X6_release
  (repeat' split) <;> first | rfl | simp_all
theorem kr_appeal (G : GS) (x1 : Int32) : K_appeal G x1 = 0 ∨ K_appeal G x1 = 2 ∨ K_appeal G x1 = 3 := by
  unfold K_appeal x_X6_appeal
  (repeat' split) <;> decide
theorem hk_appeal (G : GS) (x1 : Int32) (h : K_appeal G x1 ≠ 0) : H_appeal G x1 = G := by
  unfold K_appeal x_X6_appeal at h
  unfold H_appeal g_X6_appeal
  (repeat' split) <;> first | rfl | simp_all
theorem kr_vote (G : GS) (x1 x2 : Int32) : K_vote G x1 x2 = 0 ∨ K_vote G x1 x2 = 2 ∨ K_vote G x1 x2 = 3 := by
  unfold K_vote x_X6_vote
  (repeat' split) <;> decide
theorem hk_vote (G : GS) (x1 x2 : Int32) (h : K_vote G x1 x2 ≠ 0) : H_vote G x1 x2 = G := by
  unfold K_vote x_X6_vote at h
  unfold H_vote g_X6_vote
  (repeat' split) <;> first | rfl | simp_all
theorem kr_ofShip (G : GS) (x1 x2 : Int32) : K_ofShip G x1 x2 = 0 ∨ K_ofShip G x1 x2 = 1 ∨ K_ofShip G x1 x2 = 3 := by
  unfold K_ofShip x_X6_ofShip
  (repeat' split) <;> decide
theorem hk_ofShip (G : GS) (x1 x2 : Int32) (h : K_ofShip G x1 x2 ≠ 0) : H_ofShip G x1 x2 = G := by
  unfold K_ofShip x_X6_ofShip at h
  unfold H_ofShip g_X6_ofShip
  (repeat' split) <;> first | rfl | simp_all
theorem kr_pointsAnew (G : GS) (x1 : Int32) : K_pointsAnew G x1 = 0 ∨ K_pointsAnew G x1 = 3 := by
  unfold K_pointsAnew x_X6_pointsAnew
  (repeat' split) <;> decide
theorem hk_pointsAnew (G : GS) (x1 : Int32) (h : K_pointsAnew G x1 ≠ 0) : H_pointsAnew G x1 = G := by
  unfold K_pointsAnew x_X6_pointsAnew at h
  unfold H_pointsAnew g_X6_pointsAnew
  (repeat' split) <;> first | rfl | simp_all
theorem kr_isGround (G : GS) (x1 x2 : Int32) : K_isGround G x1 x2 = 0 ∨ K_isGround G x1 x2 = 1 ∨ K_isGround G x1 x2 = 3 := by
  unfold K_isGround x_X6_isGround
  (repeat' split) <;> decide
theorem hk_isGround (G : GS) (x1 x2 : Int32) (h : K_isGround G x1 x2 ≠ 0) : H_isGround G x1 x2 = G := by
  unfold K_isGround x_X6_isGround at h
  unfold H_isGround g_X6_isGround
  (repeat' split) <;> first | rfl | simp_all
theorem kr_ofVisit (G : GS) (x1 x2 : Int32) : K_ofVisit G x1 x2 = 0 ∨ K_ofVisit G x1 x2 = 1 ∨ K_ofVisit G x1 x2 = 3 := by
  unfold K_ofVisit x_X6_ofVisit
  (repeat' split) <;> decide
theorem hk_ofVisit (G : GS) (x1 x2 : Int32) (h : K_ofVisit G x1 x2 ≠ 0) : H_ofVisit G x1 x2 = G := by
  unfold K_ofVisit x_X6_ofVisit at h
  unfold H_ofVisit g_X6_ofVisit
  (repeat' split) <;> first | rfl | simp_all
theorem kr_list (G : GS) (x1 : Int32) : K_list G x1 = 0 ∨ K_list G x1 = 3 := by
  unfold K_list x_X6_list
  (repeat' split) <;> decide
theorem hk_list (G : GS) (x1 : Int32) (h : K_list G x1 ≠ 0) : H_list G x1 = G := by
  unfold K_list x_X6_list at h
  unfold H_list g_X6_list
  (repeat' split) <;> first | rfl | simp_all
theorem kr_missed (G : GS) (x1 : Int32) : K_missed G x1 = 0 ∨ K_missed G x1 = 3 := by
  unfold K_missed x_X6_missed
  (repeat' split) <;> decide
theorem hk_missed (G : GS) (x1 : Int32) (h : K_missed G x1 ≠ 0) : H_missed G x1 = G := by
  unfold K_missed x_X6_missed at h
  unfold H_missed g_X6_missed
  (repeat' split) <;> first | rfl | simp_all
theorem kr_knew (G : GS) (x1 x2 x3 : Int32) : K_knew G x1 x2 x3 = 0 ∨ K_knew G x1 x2 x3 = 1 ∨ K_knew G x1 x2 x3 = 3 := by
  unfold K_knew x_X6_knew
  (repeat' split) <;> decide
theorem hk_knew (G : GS) (x1 x2 x3 : Int32) (h : K_knew G x1 x2 x3 ≠ 0) : H_knew G x1 x2 x3 = G := by
  unfold K_knew x_X6_knew at h
  unfold H_knew g_X6_knew
  (repeat' split) <;> first | rfl | simp_all
def RF9 (R9 : Nat → GS → GS → Prop) : Prop := ∀ (n : Nat) (G M : GS), R9 n G M → InvC G ∧ InvM M ∧ (n < 512 → ∀ s, s < gnS G → gnN G s < 514) ∧ (∀ s, s < gnS G → G 10 s = -1 ∨ (G 10 s = nI (G 10 s).toNatClampNeg ∧ (G 10 s).toNatClampNeg < 4)) ∧ (∀ s, s < gnS M → M 10 s = -1 ∨ (M 10 s = nI (M 10 s).toNatClampNeg ∧ (M 10 s).toNatClampNeg < 4)) ∧ (∀ v, v < gnV M → M 30 v = nI (M 30 v).toNatClampNeg ∧ (M 30 v).toNatClampNeg < 12) ∧ (∀ s, s < gnS M → ¬ M 13 s = -1 → M 13 s = nI (M 13 s).toNatClampNeg ∧ (M 13 s).toNatClampNeg < 60)
def RS_pass (R9 : Nat → GS → GS → Prop) : Prop := ∀ (n : Nat) (G M : GS) (x1 : Int32), n < 512 → R9 n G M → (HM_pass M x1) 0 0 = kkm 1 2 0 (K_pass G x1) ∧ (K_pass G x1 = 0 → FM_pass M x1 = F_pass G x1) ∧ R9 (n + 1) (H_pass G x1) (HM_pass M x1)
def RS_ship (R9 : Nat → GS → GS → Prop) : Prop := ∀ (n : Nat) (G M : GS) (x1 x2 x3 x4 x5 : Int32), n < 512 → R9 n G M → (HM_ship M x1 x2 x3 x4 x5) 0 0 = kkm 2 3 1 (K_ship G x1 x2 x3 x4 x5) ∧ (K_ship G x1 x2 x3 x4 x5 = 0 → FM_ship M x1 x2 x3 x4 x5 = F_ship G x1 x2 x3 x4 x5) ∧ R9 (n + 1) (H_ship G x1 x2 x3 x4 x5) (HM_ship M x1 x2 x3 x4 x5)
def RS_changes (R9 : Nat → GS → GS → Prop) : Prop := ∀ (n : Nat) (G M : GS) (x1 x2 x3 : Int32), n < 512 → R9 n G M → (HM_changes M x1 x2 x3) 0 0 = kkm 0 0 1 (K_changes G x1 x2 x3) ∧ (K_changes G x1 x2 x3 = 0 → FM_changes M x1 x2 x3 = F_changes G x1 x2 x3) ∧ R9 (n + 1) (H_changes G x1 x2 x3) (HM_changes M x1 x2 x3)
def RS_suspend (R9 : Nat → GS → GS → Prop) : Prop := ∀ (n : Nat) (G M : GS) (x1 x2 : Int32), n < 512 → R9 n G M → (x2 = 0 ∨ x2 = 1) → (HM_suspend M x1 x2) 0 0 = kkm 0 0 1 (K_suspend G x1 x2) ∧ (K_suspend G x1 x2 = 0 → FM_suspend M x1 x2 = F_suspend G x1 x2) ∧ R9 (n + 1) (H_suspend G x1 x2) (HM_suspend M x1 x2)
def RS_rule (R9 : Nat → GS → GS → Prop) : Prop := ∀ (n : Nat) (G M : GS) (x1 x2 x3 x4 x5 : Int32), n < 512 → R9 n G M → (HM_rule M x1 x2 x3 x4 x5) 0 0 = kkm 1 2 0 (K_rule G x1 x2 x3 x4 x5) ∧ (K_rule G x1 x2 x3 x4 x5 = 0 → FM_rule M x1 x2 x3 x4 x5 = F_rule G x1 x2 x3 x4 x5) ∧ R9 (n + 1) (H_rule G x1 x2 x3 x4 x5) (HM_rule M x1 x2 x3 x4 x5)
def RS_issue (R9 : Nat → GS → GS → Prop) : Prop := ∀ (n : Nat) (G M : GS) (x1 x2 x3 : Int32), n < 512 → R9 n G M → (HM_issue M x1 x2 x3) 0 0 = kkm 2 3 1 (K_issue G x1 x2 x3) ∧ (K_issue G x1 x2 x3 = 0 → FM_issue M x1 x2 x3 = F_issue G x1 x2 x3) ∧ R9 (n + 1) (H_issue G x1 x2 x3) (HM_issue M x1 x2 x3)
def RS_endorse (R9 : Nat → GS → GS → Prop) : Prop := ∀ (n : Nat) (G M : GS) (x1 x2 : Int32), n < 512 → R9 n G M → (HM_endorse M x1 x2) 0 0 = kkm 2 3 1 (K_endorse G x1 x2) ∧ (K_endorse G x1 x2 = 0 → FM_endorse M x1 x2 = F_endorse G x1 x2) ∧ R9 (n + 1) (H_endorse G x1 x2) (HM_endorse M x1 x2)
def RS_calls (R9 : Nat → GS → GS → Prop) : Prop := ∀ (n : Nat) (G M : GS) (x1 x2 : Int32), n < 512 → R9 n G M → (HM_calls M x1 x2) 0 0 = kkm 0 2 1 (K_calls G x1 x2) ∧ (K_calls G x1 x2 = 0 → FM_calls M x1 x2 = F_calls G x1 x2) ∧ R9 (n + 1) (H_calls G x1 x2) (HM_calls M x1 x2)
def RS_leaves (R9 : Nat → GS → GS → Prop) : Prop := ∀ (n : Nat) (G M : GS) (x1 : Int32), n < 512 → R9 n G M → (HM_leaves M x1) 0 0 = kkm 0 2 1 (K_leaves G x1) ∧ (K_leaves G x1 = 0 → FM_leaves M x1 = F_leaves G x1) ∧ R9 (n + 1) (H_leaves G x1) (HM_leaves M x1)
def RS_visit (R9 : Nat → GS → GS → Prop) : Prop := ∀ (n : Nat) (G M : GS) (x1 : Int32), n < 512 → R9 n G M → (HM_visit M x1) 0 0 = kkm 0 2 1 (K_visit G x1) ∧ (K_visit G x1 = 0 → FM_visit M x1 = F_visit G x1) ∧ R9 (n + 1) (H_visit G x1) (HM_visit M x1)
def RS_finds (R9 : Nat → GS → GS → Prop) : Prop := ∀ (n : Nat) (G M : GS) (x1 x2 x3 : Int32), n < 512 → R9 n G M → (HM_finds M x1 x2 x3) 0 0 = kkm 2 3 1 (K_finds G x1 x2 x3) ∧ (K_finds G x1 x2 x3 = 0 → FM_finds M x1 x2 x3 = F_finds G x1 x2 x3) ∧ R9 (n + 1) (H_finds G x1 x2 x3) (HM_finds M x1 x2 x3)
def RS_mends (R9 : Nat → GS → GS → Prop) : Prop := ∀ (n : Nat) (G M : GS) (x1 x2 x3 : Int32), n < 512 → R9 n G M → (x3 = 0 ∨ x3 = 1) → (HM_mends M x1 x2 x3) 0 0 = kkm 0 2 1 (K_mends G x1 x2 x3) ∧ (K_mends G x1 x2 x3 = 0 → FM_mends M x1 x2 x3 = F_mends G x1 x2 x3) ∧ R9 (n + 1) (H_mends G x1 x2 x3) (HM_mends M x1 x2 x3)
def RS_detain (R9 : Nat → GS → GS → Prop) : Prop := ∀ (n : Nat) (G M : GS) (x1 : Int32), n < 512 → R9 n G M → (HM_detain M x1) 0 0 = kkm 0 2 1 (K_detain G x1) ∧ (K_detain G x1 = 0 → FM_detain M x1 = F_detain G x1) ∧ R9 (n + 1) (H_detain G x1) (HM_detain M x1)
def RS_release (R9 : Nat → GS → GS → Prop) : Prop := ∀ (n : Nat) (G M : GS) (x1 : Int32), n < 512 → R9 n G M → (HM_release M x1) 0 0 = kkm 0 2 1 (K_release G x1) ∧ (K_release G x1 = 0 → FM_release M x1 = F_release G x1) ∧ R9 (n + 1) (H_release G x1) (HM_release M x1)
def RS_appeal (R9 : Nat → GS → GS → Prop) : Prop := ∀ (n : Nat) (G M : GS) (x1 : Int32), n < 512 → R9 n G M → (HM_appeal M x1) 0 0 = kkm 0 2 1 (K_appeal G x1) ∧ R9 (n + 1) (H_appeal G x1) (HM_appeal M x1)
def RS_vote (R9 : Nat → GS → GS → Prop) : Prop := ∀ (n : Nat) (G M : GS) (x1 x2 : Int32), n < 512 → R9 n G M → (x2 = 0 ∨ x2 = 1) → (HM_vote M x1 x2) 0 0 = kkm 0 2 1 (K_vote G x1 x2) ∧ (K_vote G x1 x2 = 0 → FM_vote M x1 x2 = F_vote G x1 x2) ∧ R9 (n + 1) (H_vote G x1 x2) (HM_vote M x1 x2)
def RS_ofShip (R9 : Nat → GS → GS → Prop) : Prop := ∀ (n : Nat) (G M : GS) (x1 x2 : Int32), n < 512 → R9 n G M → (HM_ofShip M x1 x2) 0 0 = kkm 2 0 1 (K_ofShip G x1 x2) ∧ (K_ofShip G x1 x2 = 0 → FM_ofShip M x1 x2 = F_ofShip G x1 x2) ∧ R9 (n + 1) (H_ofShip G x1 x2) (HM_ofShip M x1 x2)
def RS_pointsAnew (R9 : Nat → GS → GS → Prop) : Prop := ∀ (n : Nat) (G M : GS) (x1 : Int32), n < 512 → R9 n G M → (HM_pointsAnew M x1) 0 0 = kkm 0 0 1 (K_pointsAnew G x1) ∧ (K_pointsAnew G x1 = 0 → FM_pointsAnew M x1 = F_pointsAnew G x1) ∧ R9 (n + 1) (H_pointsAnew G x1) (HM_pointsAnew M x1)
def RS_isGround (R9 : Nat → GS → GS → Prop) : Prop := ∀ (n : Nat) (G M : GS) (x1 x2 : Int32), n < 512 → R9 n G M → (HM_isGround M x1 x2) 0 0 = kkm 2 0 1 (K_isGround G x1 x2) ∧ (K_isGround G x1 x2 = 0 → FM_isGround M x1 x2 = F_isGround G x1 x2) ∧ R9 (n + 1) (H_isGround G x1 x2) (HM_isGround M x1 x2)
def RS_ofVisit (R9 : Nat → GS → GS → Prop) : Prop := ∀ (n : Nat) (G M : GS) (x1 x2 : Int32), n < 512 → R9 n G M → (HM_ofVisit M x1 x2) 0 0 = kkm 2 0 1 (K_ofVisit G x1 x2) ∧ (K_ofVisit G x1 x2 = 0 → FM_ofVisit M x1 x2 = F_ofVisit G x1 x2) ∧ R9 (n + 1) (H_ofVisit G x1 x2) (HM_ofVisit M x1 x2)
def RS_list (R9 : Nat → GS → GS → Prop) : Prop := ∀ (n : Nat) (G M : GS) (x1 : Int32), n < 512 → R9 n G M → (HM_list M x1) 0 0 = kkm 0 0 1 (K_list G x1) ∧ (K_list G x1 = 0 → FM_list M x1 = F_list G x1) ∧ R9 (n + 1) (H_list G x1) (HM_list M x1)
def RS_missed (R9 : Nat → GS → GS → Prop) : Prop := ∀ (n : Nat) (G M : GS) (x1 : Int32), n < 512 → R9 n G M → (HM_missed M x1) 0 0 = kkm 0 0 1 (K_missed G x1) ∧ (K_missed G x1 = 0 → FM_missed M x1 = F_missed G x1) ∧ R9 (n + 1) (H_missed G x1) (HM_missed M x1)
def RS_knew (R9 : Nat → GS → GS → Prop) : Prop := ∀ (n : Nat) (G M : GS) (x1 x2 x3 : Int32), n < 512 → R9 n G M → (HM_knew M x1 x2 x3) 0 0 = kkm 2 0 1 (K_knew G x1 x2 x3) ∧ (K_knew G x1 x2 x3 = 0 → FM_knew M x1 x2 x3 = F_knew G x1 x2 x3) ∧ R9 (n + 1) (H_knew G x1 x2 x3) (HM_knew M x1 x2 x3)
def Rstep9 (R9 : Nat → GS → GS → Prop) : Prop := RF9 R9 ∧ R9 0 G0 G0 ∧ (∀ (n : Nat) (G M : GS), R9 n G M → R9 (n + 1) G M) ∧ RS_pass R9 ∧ RS_ship R9 ∧ RS_changes R9 ∧ RS_suspend R9 ∧ RS_rule R9 ∧ RS_issue R9 ∧ RS_endorse R9 ∧ RS_calls R9 ∧ RS_leaves R9 ∧ RS_visit R9 ∧ RS_finds R9 ∧ RS_mends R9 ∧ RS_detain R9 ∧ RS_release R9 ∧ RS_appeal R9 ∧ RS_vote R9 ∧ RS_ofShip R9 ∧ RS_pointsAnew R9 ∧ RS_isGround R9 ∧ RS_ofVisit R9 ∧ RS_list R9 ∧ RS_missed R9 ∧ RS_knew R9
