def gnT (G : GS) (j : Nat) : Nat := (G 20 j).toNatClampNeg
/-- what keeps the reference's places in their rows -/
def InvM (G : GS) : Prop := (G 3 0 = nI (gnS G) ∧ gnS G ≤ 12) ∧ (G 23 0 = nI (gnR G) ∧ gnR G ≤ 20) ∧ (G 29 0 = nI (gnV G) ∧ gnV G ≤ 60) ∧ (∀ v, v < 60 → G 35 v = nI (gnF G v) ∧ gnF G v ≤ 12) ∧ (∀ v, v < 60 → vp_in (G 30 v) 12) ∧ (∀ i, i < 12 → vp_in (G 8 i) 4) ∧ (∀ j, j < 60 → vp_in (G 21 j) 4) ∧ (∀ j, j < 60 → G 20 j = nI (gnT G j) ∧ gnT G j ≤ 1825) ∧ (∀ j, j < 4 → nz (G 2 j)) ∧ (∀ i, i < 12 → ¬ G 12 i = -1 → vp_in (G 12 i) 60)
theorem InvM.s {G : GS} (h : InvM G) : G 3 0 = nI (gnS G) ∧ gnS G ≤ 12 := h.1
theorem InvM.r {G : GS} (h : InvM G) : G 23 0 = nI (gnR G) ∧ gnR G ≤ 20 := h.2.1
theorem InvM.v {G : GS} (h : InvM G) : G 29 0 = nI (gnV G) ∧ gnV G ≤ 60 := h.2.2.1
theorem InvM.f {G : GS} (h : InvM G) {v : Nat} (hv : v < 60) : G 35 v = nI (gnF G v) ∧ gnF G v ≤ 12 := h.2.2.2.1 v hv
theorem InvM.so {G : GS} (h : InvM G) {v : Nat} (hv : v < 60) : vp_in (G 30 v) 12 := h.2.2.2.2.1 v hv
theorem InvM.bo {G : GS} (h : InvM G) {v : Nat} (hv : v < 12) : vp_in (G 8 v) 4 := h.2.2.2.2.2.1 v hv
theorem InvM.is {G : GS} (h : InvM G) {v : Nat} (hv : v < 60) : vp_in (G 21 v) 4 := h.2.2.2.2.2.2.1 v hv
theorem InvM.t {G : GS} (h : InvM G) {v : Nat} (hv : v < 60) : G 20 v = nI (gnT G v) ∧ gnT G v ≤ 1825 := h.2.2.2.2.2.2.2.1 v hv
theorem InvM.su {G : GS} (h : InvM G) {v : Nat} (hv : v < 4) : nz (G 2 v) := h.2.2.2.2.2.2.2.2.1 v hv
theorem InvM.la {G : GS} (h : InvM G) {v : Nat} (hv : v < 12) : ¬ G 12 v = -1 → vp_in (G 12 v) 60 := h.2.2.2.2.2.2.2.2.2 v hv
theorem GB_ale {T k : Nat} {x : Int32} (hx : x = nI T) (hT : T ≤ 1825) (hk : k ≤ (T - 1) / 365) (h : x ≤ nI (365 * (k + 1))) : k = (T - 1) / 365 := by
  rw [hx] at h
  have := (nI_leI (by omega) (by omega)).mp h
  omega
theorem GB_alt {T k : Nat} {x : Int32} (hx : x = nI T) (hT : T ≤ 1825) (hk : k ≤ (T - 1) / 365) (h : ¬ x ≤ nI (365 * (k + 1))) : k < (T - 1) / 365 := by
  rw [hx] at h
  rcases Nat.lt_or_ge k ((T - 1) / 365) with q | q
  · exact q
  · exact absurd ((nI_leI (by omega) (by omega)).mpr (by omega)) h
def f_X7_in (x1 : Int32) (x2 : Int32) (x3 : Int32) : Int32 := if x1 < x2 then 0 else (if x3 < x1 then 0 else 1)
theorem nz_f_X7_in (x1 : Int32) (x2 : Int32) (x3 : Int32) : nz (f_X7_in x1 x2 x3) := (nz_ite nz0 (nz_ite nz0 nz1))
def f_X7_isShip (G : GS) (x1 : Int32) : Int32 := f_X7_in x1 0 ((G 3 0) - 1)
theorem nz_f_X7_isShip (G : GS) (x1 : Int32) : nz (f_X7_isShip G x1) := (nz_f_X7_in _ _ _)
def f_X7_isVisit (G : GS) (x1 : Int32) : Int32 := f_X7_in x1 0 ((G 29 0) - 1)
theorem nz_f_X7_isVisit (G : GS) (x1 : Int32) : nz (f_X7_isVisit G x1) := (nz_f_X7_in _ _ _)
def f_X7_isFlag (x1 : Int32) : Int32 := f_X7_in x1 0 5
theorem nz_f_X7_isFlag (x1 : Int32) : nz (f_X7_isFlag x1) := (nz_f_X7_in _ _ _)
def f_X7_isBody (x1 : Int32) : Int32 := f_X7_in x1 0 3
theorem nz_f_X7_isBody (x1 : Int32) : nz (f_X7_isBody x1) := (nz_f_X7_in _ _ _)
def f_X7_isPort (x1 : Int32) : Int32 := f_X7_in x1 0 3
theorem nz_f_X7_isPort (x1 : Int32) : nz (f_X7_isPort x1) := (nz_f_X7_in _ _ _)
def f_X7_isIn (x1 : Int32) (x2 : Int32) : Int32 := if (x1 >>> (x2 &&& 31)) &&& 1 = 1 then 1 else 0
theorem nz_f_X7_isIn (x1 : Int32) (x2 : Int32) : nz (f_X7_isIn x1 x2) := (nz_ite nz1 nz0)
def f_X7_thrown (G : GS) : Int32 := G 0 0
def f_X7_isOld (G : GS) (i1 : Nat) : Int32 := if (G 1 0) - (G 4 i1) ≤ 4380 then 0 else 1
theorem nz_f_X7_isOld (G : GS) (i1 : Nat) : nz (f_X7_isOld G i1) := (nz_ite nz0 nz1)
def v_X7_isInForce_32 (G : GS) (i1 : Nat) (i2 : Nat) : Int32 := (G 27 i1) + (if G 27 i1 ≤ G 4 i2 then 0 else G 28 i1)
def f_X7_isInForce (G : GS) (i1 : Nat) (i2 : Nat) : Int32 := if G 5 i2 < G 25 i1 then 0 else (if f_X7_isIn (G 26 i1) (G 6 i2) = 0 then 0 else (if G 1 0 < v_X7_isInForce_32 G i1 i2 then 0 else 1))
theorem nz_f_X7_isInForce (G : GS) (i1 : Nat) (i2 : Nat) : nz (f_X7_isInForce G i1 i2) := (nz_ite nz0 (nz_ite nz0 (nz_ite nz0 nz1)))
def f_X7_at (i1 : Nat) (i2 : Nat) : Int32 := nI ((5 * i1) + i2)
def f_X7_isLatest (G : GS) (i1 : Nat) : Int32 := if 1095 ≤ (G 1 0) - (G 32 i1) then 0 else 1
theorem nz_f_X7_isLatest (G : GS) (i1 : Nat) : nz (f_X7_isLatest G i1) := (nz_ite nz0 nz1)
def f_X7_counts (G : GS) (i1 : Nat) : Int32 := if G 38 i1 = (-1) then 0 else (if 2 ≤ G 40 i1 then 0 else 1)
theorem nz_f_X7_counts (G : GS) (i1 : Nat) : nz (f_X7_counts G i1) := (nz_ite nz0 (nz_ite nz0 nz1))
def f_X7_isBanned (G : GS) (i1 : Nat) : Int32 := if G 16 i1 < G 1 0 then 0 else 1
theorem nz_f_X7_isBanned (G : GS) (i1 : Nat) : nz (f_X7_isBanned G i1) := (nz_ite nz0 nz1)
def f_X7_decided (G : GS) (i1 : Nat) : Int32 := if G 40 i1 = 2 then 1 else (if G 41 i1 = 2 then 2 else 0)
def L_X7_isGroundFor_5_3 (G : GS) (i1 : Nat) (x2 : Int32) : Nat → Int32
  | 0 => 0
  | k5 + 1 => if L_X7_isGroundFor_5_3 G i1 x2 k5 = 0 then (if G 24 k5 = x2 then (if f_X7_isInForce G k5 i1 = 0 then 0 else 1) else 0) else 1
theorem nz_L_X7_isGroundFor_5_3 (G : GS) (i1 : Nat) (x2 : Int32) : ∀ n : Nat, nz (L_X7_isGroundFor_5_3 G i1 x2 n)
  | 0 => nz0
  | k5 + 1 => (nz_ite (nz_ite (nz_ite nz0 nz1) nz0) nz1)
def f_X7_isGroundFor (G : GS) (i1 : Nat) (x2 : Int32) : Int32 := L_X7_isGroundFor_5_3 G i1 x2 (gnR G)
theorem nz_f_X7_isGroundFor (G : GS) (i1 : Nat) (x2 : Int32) : nz (f_X7_isGroundFor G i1 x2) := (nz_L_X7_isGroundFor_5_3 _ _ _ _)
def v_X7_isOver_25 (G : GS) (i1 : Nat) : Int32 := if G 1 0 ≤ (G 19 i1) + (G 20 i1) then 0 else 1
theorem nz_v_X7_isOver_25 (G : GS) (i1 : Nat) : nz (v_X7_isOver_25 G i1) := (nz_ite nz0 nz1)
def L_X7_isOver_28_2 (G : GS) (i1 : Nat) : Nat → Int32
  | 0 => v_X7_isOver_25 G i1
  | k28 + 1 => if L_X7_isOver_28_2 G i1 k28 = 0 then (if f_X7_isIn (G 22 i1) (nI (k28 + 1)) = 0 then (if G 1 0 ≤ ((G 19 i1) + (nI (365 * (k28 + 1)))) + 90 then 0 else 1) else 0) else 1
theorem nz_L_X7_isOver_28_2 (G : GS) (i1 : Nat) : ∀ n : Nat, nz (L_X7_isOver_28_2 G i1 n)
  | 0 => (nz_v_X7_isOver_25 _ _)
  | k28 + 1 => (nz_ite (nz_ite (nz_ite nz0 nz1) nz0) nz1)
def f_X7_isOver (G : GS) (i1 : Nat) : Int32 := L_X7_isOver_28_2 G i1 ((gnT G i1 - 1) / 365)
theorem nz_f_X7_isOver (G : GS) (i1 : Nat) : nz (f_X7_isOver G i1) := (nz_L_X7_isOver_28_2 _ _ _)
def f_X7_lapsedAlone (G : GS) (i1 : Nat) : Int32 := if G 18 i1 = 0 then 1 else (if f_X7_isOver G i1 = 0 then (if G 2 (G 21 i1).toNatClampNeg = 0 then 0 else 1) else 1)
theorem nz_f_X7_lapsedAlone (G : GS) (i1 : Nat) : nz (f_X7_lapsedAlone G i1) := (nz_ite nz1 (nz_ite (nz_ite nz0 nz1) nz1))
def v_X7_isLapsed_36 (G : GS) (i1 : Nat) (i2 : Nat) : Int32 := if f_X7_lapsedAlone G (5 * i1 + i2) = 0 then (if f_X7_lapsedAlone G (5 * i1 + 1) = 0 then 0 else 1) else 1
theorem nz_v_X7_isLapsed_36 (G : GS) (i1 : Nat) (i2 : Nat) : nz (v_X7_isLapsed_36 G i1 i2) := (nz_ite (nz_ite nz0 nz1) nz1)
def v_X7_isLapsed_73 (G : GS) (i1 : Nat) (i2 : Nat) : Int32 := if (if nI i2 = 2 then v_X7_isLapsed_36 G i1 i2 else f_X7_lapsedAlone G (5 * i1 + i2) : Int32) = 0 then (if f_X7_lapsedAlone G (5 * i1 + 0) = 0 then 0 else 1) else 1
theorem nz_v_X7_isLapsed_73 (G : GS) (i1 : Nat) (i2 : Nat) : nz (v_X7_isLapsed_73 G i1 i2) := (nz_ite (nz_ite nz0 nz1) nz1)
def f_X7_isLapsed (G : GS) (i1 : Nat) (i2 : Nat) : Int32 := if nI i2 = 1 then v_X7_isLapsed_73 G i1 i2 else (if nI i2 = 2 then v_X7_isLapsed_73 G i1 i2 else (if nI i2 = 3 then v_X7_isLapsed_73 G i1 i2 else if nI i2 = 2 then v_X7_isLapsed_36 G i1 i2 else f_X7_lapsedAlone G (5 * i1 + i2)))
theorem nz_f_X7_isLapsed (G : GS) (i1 : Nat) (i2 : Nat) : nz (f_X7_isLapsed G i1 i2) := (nz_ite (nz_v_X7_isLapsed_73 _ _ _) (nz_ite (nz_v_X7_isLapsed_73 _ _ _) (nz_ite (nz_v_X7_isLapsed_73 _ _ _) (nz_ite (nz_v_X7_isLapsed_36 _ _ _) (nz_f_X7_lapsedAlone _ _)))))
def L_X7_lapsedOf_4_2 (G : GS) (i1 : Nat) : Nat → Int32
  | 0 => 0
  | k4 + 1 => (L_X7_lapsedOf_4_2 G i1 k4) ||| (if f_X7_isLapsed G i1 k4 = 0 then 0 else (1 : Int32) <<< ((nI k4) &&& 31))
def f_X7_lapsedOf (G : GS) (i1 : Nat) : Int32 := L_X7_lapsedOf_4_2 G i1 5
def f_X7_hangsOnLapsed (G : GS) (i1 : Nat) (i2 : Nat) : Int32 := if nI i2 = 2 then f_X7_isLapsed G i1 1 else (if nI i2 = 1 then (if f_X7_isLapsed G i1 0 = 0 then 0 else 1) else (if nI i2 = 3 then (if f_X7_isLapsed G i1 0 = 0 then 0 else 1) else 0))
theorem nz_f_X7_hangsOnLapsed (G : GS) (i1 : Nat) (i2 : Nat) : nz (f_X7_hangsOnLapsed G i1 i2) := (nz_ite (nz_f_X7_isLapsed _ _ _) (nz_ite (nz_ite nz0 nz1) (nz_ite (nz_ite nz0 nz1) nz0)))
def L_X7_anniversary_4_2 (G : GS) (i1 : Nat) : Nat → Int32
  | 0 => (-1)
  | k4 + 1 => if L_X7_anniversary_4_2 G i1 k4 = (-1) then (if f_X7_isIn (G 22 i1) (nI (k4 + 1)) = 0 then (if f_X7_in (G 1 0) (((G 19 i1) + (nI (365 * (k4 + 1)))) - 90) (((G 19 i1) + (nI (365 * (k4 + 1)))) + 90) = 0 then L_X7_anniversary_4_2 G i1 k4 else nI (k4 + 1)) else L_X7_anniversary_4_2 G i1 k4) else L_X7_anniversary_4_2 G i1 k4
def f_X7_anniversary (G : GS) (i1 : Nat) : Int32 := L_X7_anniversary_4_2 G i1 ((gnT G i1 - 1) / 365)
def L_X7_many_4_1 (x1 : Int32) : Nat → Int32
  | 0 => 0
  | k4 + 1 => (L_X7_many_4_1 x1 k4) + ((x1 >>> ((nI k4) &&& 31)) &&& 1)
def f_X7_many (x1 : Int32) : Int32 := L_X7_many_4_1 x1 31
def L_X7_detentionsOf_4_2 (G : GS) (i1 : Nat) : Nat → Int32
  | 0 => 0
  | k4 + 1 => (L_X7_detentionsOf_4_2 G i1 k4) + (if G 30 k4 = nI i1 then (if f_X7_isLatest G k4 = 0 then 0 else (if f_X7_counts G k4 = 0 then 0 else 1)) else 0)
def f_X7_detentionsOf (G : GS) (i1 : Nat) : Int32 := L_X7_detentionsOf_4_2 G i1 (gnV G)
def L_X7_hadMany_4_2 (G : GS) (i1 : Nat) : Nat → Int32
  | 0 => 0
  | k4 + 1 => if L_X7_hadMany_4_2 G i1 k4 = 0 then (if G 30 k4 = nI i1 then (if f_X7_isLatest G k4 = 0 then 0 else (if G 35 k4 ≤ 5 then 0 else 1)) else 0) else 1
theorem nz_L_X7_hadMany_4_2 (G : GS) (i1 : Nat) : ∀ n : Nat, nz (L_X7_hadMany_4_2 G i1 n)
  | 0 => nz0
  | k4 + 1 => (nz_ite (nz_ite (nz_ite nz0 (nz_ite nz0 nz1)) nz0) nz1)
def f_X7_hadMany (G : GS) (i1 : Nat) : Int32 := L_X7_hadMany_4_2 G i1 (gnV G)
theorem nz_f_X7_hadMany (G : GS) (i1 : Nat) : nz (f_X7_hadMany G i1) := (nz_L_X7_hadMany_4_2 _ _ _)
def v_X7_listOf_41 (G : GS) (x1 : Int32) (k7 : Nat) : Int32 := if G 34 k7 = x1 then (if f_X7_isLatest G k7 = 0 then 0 else 1) else 0
theorem nz_v_X7_listOf_41 (G : GS) (x1 : Int32) (k7 : Nat) : nz (v_X7_listOf_41 G x1 k7) := (nz_ite (nz_ite nz0 nz1) nz0)
def L_X7_listOf_7_3 (G : GS) (x1 : Int32) : Nat → Int32
  | 0 => 0
  | k7 + 1 => (L_X7_listOf_7_3 G x1 k7) + (if v_X7_listOf_41 G x1 k7 = 0 then 0 else (if f_X7_counts G k7 = 0 then 0 else 1))
def L_X7_listOf_7_2 (G : GS) (x1 : Int32) : Nat → Int32
  | 0 => 0
  | k7 + 1 => (L_X7_listOf_7_2 G x1 k7) + (if v_X7_listOf_41 G x1 k7 = 0 then 0 else 1)
def v_X7_listOf_96 (G : GS) (x1 : Int32) : Int32 := ((100 * (L_X7_listOf_7_3 G x1 (gnV G))) - (7 * (L_X7_listOf_7_2 G x1 (gnV G)))) - 50
def v_X7_listOf_110 (G : GS) (x1 : Int32) : Int32 := ((7 * (L_X7_listOf_7_2 G x1 (gnV G))) - 50) - (100 * (L_X7_listOf_7_3 G x1 (gnV G)))
def f_X7_listOf (G : GS) (x1 : Int32) : Int32 := if 6 ≤ L_X7_listOf_7_2 G x1 (gnV G) then (if v_X7_listOf_96 G x1 ≤ 0 then (if v_X7_listOf_110 G x1 ≤ 0 then 2 else (if (v_X7_listOf_110 G x1) * (v_X7_listOf_110 G x1) ≤ 1762 * (L_X7_listOf_7_2 G x1 (gnV G)) then 2 else 1)) else (if (v_X7_listOf_96 G x1) * (v_X7_listOf_96 G x1) ≤ 1762 * (L_X7_listOf_7_2 G x1 (gnV G)) then (if v_X7_listOf_110 G x1 ≤ 0 then 2 else (if (v_X7_listOf_110 G x1) * (v_X7_listOf_110 G x1) ≤ 1762 * (L_X7_listOf_7_2 G x1 (gnV G)) then 2 else 1)) else 3)) else 0
def v_X7_pointsOf_56 (G : GS) (i1 : Nat) : Int32 := (if f_X7_isOld G i1 = 0 then 0 else 1) + (if G 6 i1 = 1 then 1 else (if G 6 i1 = 2 then 2 else 0))
def v_X7_pointsOf_78 (G : GS) (i1 : Nat) : Int32 := (v_X7_pointsOf_56 G i1) + (if f_X7_listOf G (G 7 i1) = 2 then 1 else (if f_X7_listOf G (G 7 i1) = 3 then 2 else 0))
def v_X7_pointsOf_100 (G : GS) (i1 : Nat) : Int32 := (v_X7_pointsOf_78 G i1) + (if G 2 (G 8 i1).toNatClampNeg = 0 then 0 else 1)
def v_X7_pointsOf_116 (G : GS) (i1 : Nat) : Int32 := (v_X7_pointsOf_100 G i1) + (if f_X7_hadMany G i1 = 0 then 0 else 1)
def f_X7_pointsOf (G : GS) (i1 : Nat) : Int32 := (v_X7_pointsOf_116 G i1) + (if 2 ≤ f_X7_detentionsOf G i1 then 2 else f_X7_detentionsOf G i1)
def f_X7_riskOf (G : GS) (i1 : Nat) : Int32 := if f_X7_pointsOf G i1 < 5 then (if f_X7_pointsOf G i1 = 0 then (if f_X7_listOf G (G 7 i1) = 1 then 0 else 1) else 1) else 2
def v_X7_priorityOf_60 (G : GS) (i1 : Nat) : Int32 := if f_X7_riskOf G i1 = 2 then 150 else (if f_X7_riskOf G i1 = 1 then 300 else 720)
def v_X7_priorityOf_87 (G : GS) (i1 : Nat) : Int32 := if f_X7_riskOf G i1 = 2 then 180 else (if f_X7_riskOf G i1 = 1 then 360 else 1080)
def f_X7_priorityOf (G : GS) (i1 : Nat) : Int32 := if G 12 i1 = (-1) then 2 else if (G 1 0) - (G 32 (G 12 i1).toNatClampNeg) ≤ v_X7_priorityOf_87 G i1 then (if (G 1 0) - (G 32 (G 12 i1).toNatClampNeg) < v_X7_priorityOf_60 G i1 then 0 else 1) else 2
def L_X7_hasOff_15_2 (G : GS) (i1 : Nat) (k4 : Nat) (a0 : Int32) : Nat → Int32
  | 0 => a0
  | k15 + 1 => if L_X7_hasOff_15_2 G i1 k4 a0 k15 = 0 then (if G 30 k4 = nI i1 then (if G 37 ((12 * k4) + k15) = 2 then 1 else 0) else 0) else 1
theorem nz_L_X7_hasOff_15_2 (G : GS) (i1 : Nat) (k4 : Nat) (a0 : Int32) (h0 : nz a0) : ∀ n : Nat, nz (L_X7_hasOff_15_2 G i1 k4 a0 n)
  | 0 => h0
  | k15 + 1 => (nz_ite (nz_ite (nz_ite nz1 nz0) nz0) nz1)
def L_X7_hasOff_4_2 (G : GS) (i1 : Nat) : Nat → Int32
  | 0 => 0
  | k4 + 1 => L_X7_hasOff_15_2 G i1 k4 (L_X7_hasOff_4_2 G i1 k4) (gnF G k4)
theorem nz_L_X7_hasOff_4_2 (G : GS) (i1 : Nat) : ∀ n : Nat, nz (L_X7_hasOff_4_2 G i1 n)
  | 0 => nz0
  | k4 + 1 => (nz_L_X7_hasOff_15_2 _ _ _ _ (nz_L_X7_hasOff_4_2 _ _ _) _)
def f_X7_hasOff (G : GS) (i1 : Nat) : Int32 := L_X7_hasOff_4_2 G i1 (gnV G)
theorem nz_f_X7_hasOff (G : GS) (i1 : Nat) : nz (f_X7_hasOff G i1) := (nz_L_X7_hasOff_4_2 _ _ _)
def f_X7_isHere (G : GS) (i1 : Nat) : Int32 := if G 11 (G 30 i1).toNatClampNeg = nI i1 then 1 else 0
theorem nz_f_X7_isHere (G : GS) (i1 : Nat) : nz (f_X7_isHere G i1) := (nz_ite nz1 nz0)
def L_X7_openOf_4_2 (G : GS) (i1 : Nat) : Nat → Int32
  | 0 => 0
  | k4 + 1 => (L_X7_openOf_4_2 G i1 k4) + (if G 37 ((12 * i1) + k4) = 0 then 1 else 0)
def f_X7_openOf (G : GS) (i1 : Nat) : Int32 := L_X7_openOf_4_2 G i1 (gnF G i1)
def L_X7_openWeights_4_2 (G : GS) (i1 : Nat) : Nat → Int32
  | 0 => 0
  | k4 + 1 => (L_X7_openWeights_4_2 G i1 k4) + (if G 37 ((12 * i1) + k4) = 0 then G 36 ((12 * i1) + k4) else 0)
def f_X7_openWeights (G : GS) (i1 : Nat) : Int32 := L_X7_openWeights_4_2 G i1 (gnF G i1)
def frK (k : Nat) : Bool := k != 2 && k != 3 && k != 8 && k != 12 && k != 20 && k != 21 && k != 23 && k != 29 && k != 30 && k != 35
theorem InvM.fr {G : GS} (h : InvM G) (k i : Nat) (v : Int32) (hk : frK k = true) : InvM (up2 G k i v) := by
  have e : ∀ j, frK j = false → up2 G k i v j = G j := fun j hj => up2_ne (fun q => by rw [q, hk] at hj; cases hj)
  unfold InvM gnS gnR gnV gnF gnT
  rw [e 3 rfl, e 23 rfl, e 29 rfl, e 35 rfl, e 30 rfl, e 8 rfl, e 21 rfl, e 20 rfl, e 2 rfl, e 12 rfl]
  exact h
def g_X7_pass_1 (G : GS) (x1 : Int32) : GS := up2 G 0 0 (if f_X7_in x1 1 500 = 0 then 1 else (if (G 1 0) + x1 ≤ 9000 then 0 else 2))
theorem e_g_X7_pass_1 (G : GS) (x1 : Int32) {j : Nat} (h : j ∉ [0]) : g_X7_pass_1 G x1 j = G j := (up2_ne (fun q => h (by rw [q]; exact List.mem_cons_self))).trans rfl
def g_X7_pass_2 (G : GS) (x1 : Int32) : GS := up2 (g_X7_pass_1 G x1) 1 0 ((G 1 0) + x1)
theorem e_g_X7_pass_2 (G : GS) (x1 : Int32) {j : Nat} (h : j ∉ [1, 0]) : g_X7_pass_2 G x1 j = G j := (up2_ne (fun q => h (by rw [q]; exact List.mem_cons_self))).trans (e_g_X7_pass_1 G x1 (fun q => h (List.mem_cons_of_mem _ q)))
def f_X7_pass (G : GS) (x1 : Int32) : Int32 := if (if f_X7_in x1 1 500 = 0 then 1 else (if (G 1 0) + x1 ≤ 9000 then 0 else 2) : Int32) ≤ 0 then (G 1 0) + x1 else 0
def g_X7_pass (G : GS) (x1 : Int32) : GS := if (if f_X7_in x1 1 500 = 0 then 1 else (if (G 1 0) + x1 ≤ 9000 then 0 else 2) : Int32) ≤ 0 then g_X7_pass_2 G x1 else g_X7_pass_1 G x1
def v_X7_ship_39 (G : GS) (x1 : Int32) (x2 : Int32) (x3 : Int32) (x4 : Int32) (x5 : Int32) : Int32 := if f_X7_in x1 (-10000) (G 1 0) = 0 then 0 else (if f_X7_in x2 100 200000 = 0 then 0 else (if f_X7_in x3 0 2 = 0 then 0 else 1))
theorem nz_v_X7_ship_39 (G : GS) (x1 : Int32) (x2 : Int32) (x3 : Int32) (x4 : Int32) (x5 : Int32) : nz (v_X7_ship_39 G x1 x2 x3 x4 x5) := (nz_ite nz0 (nz_ite nz0 (nz_ite nz0 nz1)))
def g_X7_ship_1 (G : GS) (x1 : Int32) (x2 : Int32) (x3 : Int32) (x4 : Int32) (x5 : Int32) : GS := up2 G 0 0 (if f_X7_isFlag x4 = 0 then 1 else (if f_X7_isBody x5 = 0 then 1 else (if v_X7_ship_39 G x1 x2 x3 x4 x5 = 0 then 2 else (if nI (gnS G) = 12 then 3 else 0))))
theorem e_g_X7_ship_1 (G : GS) (x1 : Int32) (x2 : Int32) (x3 : Int32) (x4 : Int32) (x5 : Int32) {j : Nat} (h : j ∉ [0]) : g_X7_ship_1 G x1 x2 x3 x4 x5 j = G j := (up2_ne (fun q => h (by rw [q]; exact List.mem_cons_self))).trans rfl
def g_X7_ship_2 (G : GS) (x1 : Int32) (x2 : Int32) (x3 : Int32) (x4 : Int32) (x5 : Int32) : GS := up2 (g_X7_ship_1 G x1 x2 x3 x4 x5) 4 (gnS G) x1
theorem e_g_X7_ship_2 (G : GS) (x1 : Int32) (x2 : Int32) (x3 : Int32) (x4 : Int32) (x5 : Int32) {j : Nat} (h : j ∉ [4, 0]) : g_X7_ship_2 G x1 x2 x3 x4 x5 j = G j := (up2_ne (fun q => h (by rw [q]; exact List.mem_cons_self))).trans (e_g_X7_ship_1 G x1 x2 x3 x4 x5 (fun q => h (List.mem_cons_of_mem _ q)))
def g_X7_ship_3 (G : GS) (x1 : Int32) (x2 : Int32) (x3 : Int32) (x4 : Int32) (x5 : Int32) : GS := up2 (g_X7_ship_2 G x1 x2 x3 x4 x5) 5 (gnS G) x2
theorem e_g_X7_ship_3 (G : GS) (x1 : Int32) (x2 : Int32) (x3 : Int32) (x4 : Int32) (x5 : Int32) {j : Nat} (h : j ∉ [5, 4, 0]) : g_X7_ship_3 G x1 x2 x3 x4 x5 j = G j := (up2_ne (fun q => h (by rw [q]; exact List.mem_cons_self))).trans (e_g_X7_ship_2 G x1 x2 x3 x4 x5 (fun q => h (List.mem_cons_of_mem _ q)))
def g_X7_ship_4 (G : GS) (x1 : Int32) (x2 : Int32) (x3 : Int32) (x4 : Int32) (x5 : Int32) : GS := up2 (g_X7_ship_3 G x1 x2 x3 x4 x5) 6 (gnS G) x3
theorem e_g_X7_ship_4 (G : GS) (x1 : Int32) (x2 : Int32) (x3 : Int32) (x4 : Int32) (x5 : Int32) {j : Nat} (h : j ∉ [6, 5, 4, 0]) : g_X7_ship_4 G x1 x2 x3 x4 x5 j = G j := (up2_ne (fun q => h (by rw [q]; exact List.mem_cons_self))).trans (e_g_X7_ship_3 G x1 x2 x3 x4 x5 (fun q => h (List.mem_cons_of_mem _ q)))
def g_X7_ship_5 (G : GS) (x1 : Int32) (x2 : Int32) (x3 : Int32) (x4 : Int32) (x5 : Int32) : GS := up2 (g_X7_ship_4 G x1 x2 x3 x4 x5) 7 (gnS G) x4
theorem e_g_X7_ship_5 (G : GS) (x1 : Int32) (x2 : Int32) (x3 : Int32) (x4 : Int32) (x5 : Int32) {j : Nat} (h : j ∉ [7, 6, 5, 4, 0]) : g_X7_ship_5 G x1 x2 x3 x4 x5 j = G j := (up2_ne (fun q => h (by rw [q]; exact List.mem_cons_self))).trans (e_g_X7_ship_4 G x1 x2 x3 x4 x5 (fun q => h (List.mem_cons_of_mem _ q)))
def g_X7_ship_6 (G : GS) (x1 : Int32) (x2 : Int32) (x3 : Int32) (x4 : Int32) (x5 : Int32) : GS := up2 (g_X7_ship_5 G x1 x2 x3 x4 x5) 8 (gnS G) x5
theorem e_g_X7_ship_6 (G : GS) (x1 : Int32) (x2 : Int32) (x3 : Int32) (x4 : Int32) (x5 : Int32) {j : Nat} (h : j ∉ [8, 7, 6, 5, 4, 0]) : g_X7_ship_6 G x1 x2 x3 x4 x5 j = G j := (up2_ne (fun q => h (by rw [q]; exact List.mem_cons_self))).trans (e_g_X7_ship_5 G x1 x2 x3 x4 x5 (fun q => h (List.mem_cons_of_mem _ q)))
def g_X7_ship_7 (G : GS) (x1 : Int32) (x2 : Int32) (x3 : Int32) (x4 : Int32) (x5 : Int32) : GS := up2 (g_X7_ship_6 G x1 x2 x3 x4 x5) 10 (gnS G) (-1)
theorem e_g_X7_ship_7 (G : GS) (x1 : Int32) (x2 : Int32) (x3 : Int32) (x4 : Int32) (x5 : Int32) {j : Nat} (h : j ∉ [10, 8, 7, 6, 5, 4, 0]) : g_X7_ship_7 G x1 x2 x3 x4 x5 j = G j := (up2_ne (fun q => h (by rw [q]; exact List.mem_cons_self))).trans (e_g_X7_ship_6 G x1 x2 x3 x4 x5 (fun q => h (List.mem_cons_of_mem _ q)))
def g_X7_ship_8 (G : GS) (x1 : Int32) (x2 : Int32) (x3 : Int32) (x4 : Int32) (x5 : Int32) : GS := up2 (g_X7_ship_7 G x1 x2 x3 x4 x5) 11 (gnS G) (-1)
theorem e_g_X7_ship_8 (G : GS) (x1 : Int32) (x2 : Int32) (x3 : Int32) (x4 : Int32) (x5 : Int32) {j : Nat} (h : j ∉ [11, 10, 8, 7, 6, 5, 4, 0]) : g_X7_ship_8 G x1 x2 x3 x4 x5 j = G j := (up2_ne (fun q => h (by rw [q]; exact List.mem_cons_self))).trans (e_g_X7_ship_7 G x1 x2 x3 x4 x5 (fun q => h (List.mem_cons_of_mem _ q)))
def g_X7_ship_9 (G : GS) (x1 : Int32) (x2 : Int32) (x3 : Int32) (x4 : Int32) (x5 : Int32) : GS := up2 (g_X7_ship_8 G x1 x2 x3 x4 x5) 12 (gnS G) (-1)
theorem e_g_X7_ship_9 (G : GS) (x1 : Int32) (x2 : Int32) (x3 : Int32) (x4 : Int32) (x5 : Int32) {j : Nat} (h : j ∉ [12, 11, 10, 8, 7, 6, 5, 4, 0]) : g_X7_ship_9 G x1 x2 x3 x4 x5 j = G j := (up2_ne (fun q => h (by rw [q]; exact List.mem_cons_self))).trans (e_g_X7_ship_8 G x1 x2 x3 x4 x5 (fun q => h (List.mem_cons_of_mem _ q)))
def g_X7_ship_10 (G : GS) (x1 : Int32) (x2 : Int32) (x3 : Int32) (x4 : Int32) (x5 : Int32) : GS := up2 (g_X7_ship_9 G x1 x2 x3 x4 x5) 13 (gnS G) (-1)
theorem e_g_X7_ship_10 (G : GS) (x1 : Int32) (x2 : Int32) (x3 : Int32) (x4 : Int32) (x5 : Int32) {j : Nat} (h : j ∉ [13, 12, 11, 10, 8, 7, 6, 5, 4, 0]) : g_X7_ship_10 G x1 x2 x3 x4 x5 j = G j := (up2_ne (fun q => h (by rw [q]; exact List.mem_cons_self))).trans (e_g_X7_ship_9 G x1 x2 x3 x4 x5 (fun q => h (List.mem_cons_of_mem _ q)))
def g_X7_ship_11 (G : GS) (x1 : Int32) (x2 : Int32) (x3 : Int32) (x4 : Int32) (x5 : Int32) : GS := up2 (g_X7_ship_10 G x1 x2 x3 x4 x5) 16 (gnS G) (-1)
theorem e_g_X7_ship_11 (G : GS) (x1 : Int32) (x2 : Int32) (x3 : Int32) (x4 : Int32) (x5 : Int32) {j : Nat} (h : j ∉ [16, 13, 12, 11, 10, 8, 7, 6, 5, 4, 0]) : g_X7_ship_11 G x1 x2 x3 x4 x5 j = G j := (up2_ne (fun q => h (by rw [q]; exact List.mem_cons_self))).trans (e_g_X7_ship_10 G x1 x2 x3 x4 x5 (fun q => h (List.mem_cons_of_mem _ q)))
def g_X7_ship_12 (G : GS) (x1 : Int32) (x2 : Int32) (x3 : Int32) (x4 : Int32) (x5 : Int32) : GS := up2 (g_X7_ship_11 G x1 x2 x3 x4 x5) 3 0 ((nI (gnS G)) + 1)
theorem e_g_X7_ship_12 (G : GS) (x1 : Int32) (x2 : Int32) (x3 : Int32) (x4 : Int32) (x5 : Int32) {j : Nat} (h : j ∉ [3, 16, 13, 12, 11, 10, 8, 7, 6, 5, 4, 0]) : g_X7_ship_12 G x1 x2 x3 x4 x5 j = G j := (up2_ne (fun q => h (by rw [q]; exact List.mem_cons_self))).trans (e_g_X7_ship_11 G x1 x2 x3 x4 x5 (fun q => h (List.mem_cons_of_mem _ q)))
def f_X7_ship (G : GS) (x1 : Int32) (x2 : Int32) (x3 : Int32) (x4 : Int32) (x5 : Int32) : Int32 := if (if f_X7_isFlag x4 = 0 then 1 else (if f_X7_isBody x5 = 0 then 1 else (if v_X7_ship_39 G x1 x2 x3 x4 x5 = 0 then 2 else (if nI (gnS G) = 12 then 3 else 0))) : Int32) ≤ 0 then ((nI (gnS G)) + 1) - 1 else 0
def g_X7_ship (G : GS) (x1 : Int32) (x2 : Int32) (x3 : Int32) (x4 : Int32) (x5 : Int32) : GS := if (if f_X7_isFlag x4 = 0 then 1 else (if f_X7_isBody x5 = 0 then 1 else (if v_X7_ship_39 G x1 x2 x3 x4 x5 = 0 then 2 else (if nI (gnS G) = 12 then 3 else 0))) : Int32) ≤ 0 then g_X7_ship_12 G x1 x2 x3 x4 x5 else g_X7_ship_1 G x1 x2 x3 x4 x5
def v_X7_ship_b_39 (G : GS) (x1 : Int32) (x2 : Int32) (x3 : Int32) (x4 : Int32) (x5 : Int32) : Int32 := if f_X7_in x1 (-10000) (G 1 0) = 0 then 0 else (if f_X7_in x2 100 200000 = 0 then 0 else (if f_X7_in x3 0 2 = 0 then 0 else 1))
theorem nz_v_X7_ship_b_39 (G : GS) (x1 : Int32) (x2 : Int32) (x3 : Int32) (x4 : Int32) (x5 : Int32) : nz (v_X7_ship_b_39 G x1 x2 x3 x4 x5) := (nz_ite nz0 (nz_ite nz0 (nz_ite nz0 nz1)))
def g_X7_ship_b_1 (G : GS) (x1 : Int32) (x2 : Int32) (x3 : Int32) (x4 : Int32) (x5 : Int32) : GS := up2 G 0 0 (if f_X7_isFlag x4 = 0 then 1 else (if f_X7_isBody x5 = 0 then 1 else (if v_X7_ship_b_39 G x1 x2 x3 x4 x5 = 0 then 2 else 3)))
theorem e_g_X7_ship_b_1 (G : GS) (x1 : Int32) (x2 : Int32) (x3 : Int32) (x4 : Int32) (x5 : Int32) {j : Nat} (h : j ∉ [0]) : g_X7_ship_b_1 G x1 x2 x3 x4 x5 j = G j := (up2_ne (fun q => h (by rw [q]; exact List.mem_cons_self))).trans rfl
def f_X7_ship_b (G : GS) (x1 : Int32) (x2 : Int32) (x3 : Int32) (x4 : Int32) (x5 : Int32) : Int32 := 0
def g_X7_ship_b (G : GS) (x1 : Int32) (x2 : Int32) (x3 : Int32) (x4 : Int32) (x5 : Int32) : GS := g_X7_ship_b_1 G x1 x2 x3 x4 x5
def g_X7_changes_1 (G : GS) (i1 : Nat) (x2 : Int32) (x3 : Int32) : GS := up2 G 0 0 (if f_X7_isShip G (nI i1) = 0 then 1 else (if f_X7_isFlag x2 = 0 then 1 else (if f_X7_isBody x3 = 0 then 1 else 0)))
theorem e_g_X7_changes_1 (G : GS) (i1 : Nat) (x2 : Int32) (x3 : Int32) {j : Nat} (h : j ∉ [0]) : g_X7_changes_1 G i1 x2 x3 j = G j := (up2_ne (fun q => h (by rw [q]; exact List.mem_cons_self))).trans rfl
def g_X7_changes_2 (G : GS) (i1 : Nat) (x2 : Int32) (x3 : Int32) : GS := up2 (g_X7_changes_1 G i1 x2 x3) 7 i1 x2
theorem e_g_X7_changes_2 (G : GS) (i1 : Nat) (x2 : Int32) (x3 : Int32) {j : Nat} (h : j ∉ [7, 0]) : g_X7_changes_2 G i1 x2 x3 j = G j := (up2_ne (fun q => h (by rw [q]; exact List.mem_cons_self))).trans (e_g_X7_changes_1 G i1 x2 x3 (fun q => h (List.mem_cons_of_mem _ q)))
def g_X7_changes_3 (G : GS) (i1 : Nat) (x2 : Int32) (x3 : Int32) : GS := up2 (g_X7_changes_2 G i1 x2 x3) 8 i1 x3
theorem e_g_X7_changes_3 (G : GS) (i1 : Nat) (x2 : Int32) (x3 : Int32) {j : Nat} (h : j ∉ [8, 7, 0]) : g_X7_changes_3 G i1 x2 x3 j = G j := (up2_ne (fun q => h (by rw [q]; exact List.mem_cons_self))).trans (e_g_X7_changes_2 G i1 x2 x3 (fun q => h (List.mem_cons_of_mem _ q)))
def g_X7_changes_4 (G : GS) (i1 : Nat) (x2 : Int32) (x3 : Int32) : GS := up2 (g_X7_changes_3 G i1 x2 x3) 9 i1 ((G 9 i1) + 1)
theorem e_g_X7_changes_4 (G : GS) (i1 : Nat) (x2 : Int32) (x3 : Int32) {j : Nat} (h : j ∉ [9, 8, 7, 0]) : g_X7_changes_4 G i1 x2 x3 j = G j := (up2_ne (fun q => h (by rw [q]; exact List.mem_cons_self))).trans (e_g_X7_changes_3 G i1 x2 x3 (fun q => h (List.mem_cons_of_mem _ q)))
def f_X7_changes (G : GS) (i1 : Nat) (x2 : Int32) (x3 : Int32) : Int32 := if (if f_X7_isShip G (nI i1) = 0 then 1 else (if f_X7_isFlag x2 = 0 then 1 else (if f_X7_isBody x3 = 0 then 1 else 0)) : Int32) ≤ 0 then (G 9 i1) + 1 else 0
def g_X7_changes (G : GS) (i1 : Nat) (x2 : Int32) (x3 : Int32) : GS := if (if f_X7_isShip G (nI i1) = 0 then 1 else (if f_X7_isFlag x2 = 0 then 1 else (if f_X7_isBody x3 = 0 then 1 else 0)) : Int32) ≤ 0 then g_X7_changes_4 G i1 x2 x3 else g_X7_changes_1 G i1 x2 x3
def g_X7_changes_b_1 (G : GS) (x1 : Int32) (x2 : Int32) (x3 : Int32) : GS := up2 G 0 0 1
theorem e_g_X7_changes_b_1 (G : GS) (x1 : Int32) (x2 : Int32) (x3 : Int32) {j : Nat} (h : j ∉ [0]) : g_X7_changes_b_1 G x1 x2 x3 j = G j := (up2_ne (fun q => h (by rw [q]; exact List.mem_cons_self))).trans rfl
def f_X7_changes_b (G : GS) (x1 : Int32) (x2 : Int32) (x3 : Int32) : Int32 := 0
def g_X7_changes_b (G : GS) (x1 : Int32) (x2 : Int32) (x3 : Int32) : GS := g_X7_changes_b_1 G x1 x2 x3
def g_X7_suspend_1 (G : GS) (i1 : Nat) (x2 : Int32) : GS := up2 G 0 0 (if f_X7_isBody (nI i1) = 0 then 1 else 0)
theorem e_g_X7_suspend_1 (G : GS) (i1 : Nat) (x2 : Int32) {j : Nat} (h : j ∉ [0]) : g_X7_suspend_1 G i1 x2 j = G j := (up2_ne (fun q => h (by rw [q]; exact List.mem_cons_self))).trans rfl
def g_X7_suspend_2 (G : GS) (i1 : Nat) (x2 : Int32) : GS := up2 (g_X7_suspend_1 G i1 x2) 2 i1 x2
theorem e_g_X7_suspend_2 (G : GS) (i1 : Nat) (x2 : Int32) {j : Nat} (h : j ∉ [2, 0]) : g_X7_suspend_2 G i1 x2 j = G j := (up2_ne (fun q => h (by rw [q]; exact List.mem_cons_self))).trans (e_g_X7_suspend_1 G i1 x2 (fun q => h (List.mem_cons_of_mem _ q)))
def f_X7_suspend (G : GS) (i1 : Nat) (x2 : Int32) : Int32 := if (if f_X7_isBody (nI i1) = 0 then 1 else 0 : Int32) ≤ 0 then G 2 i1 else 0
def g_X7_suspend (G : GS) (i1 : Nat) (x2 : Int32) : GS := if (if f_X7_isBody (nI i1) = 0 then 1 else 0 : Int32) ≤ 0 then g_X7_suspend_2 G i1 x2 else g_X7_suspend_1 G i1 x2
def g_X7_suspend_b_1 (G : GS) (x1 : Int32) (x2 : Int32) : GS := up2 G 0 0 1
theorem e_g_X7_suspend_b_1 (G : GS) (x1 : Int32) (x2 : Int32) {j : Nat} (h : j ∉ [0]) : g_X7_suspend_b_1 G x1 x2 j = G j := (up2_ne (fun q => h (by rw [q]; exact List.mem_cons_self))).trans rfl
def f_X7_suspend_b (G : GS) (x1 : Int32) (x2 : Int32) : Int32 := 0
theorem nz_f_X7_suspend_b (G : GS) (x1 : Int32) (x2 : Int32) : nz (f_X7_suspend_b G x1 x2) := nz0
def g_X7_suspend_b (G : GS) (x1 : Int32) (x2 : Int32) : GS := g_X7_suspend_b_1 G x1 x2
def v_X7_rule_59 (G : GS) (x1 : Int32) (x2 : Int32) (x3 : Int32) (x4 : Int32) (x5 : Int32) : Int32 := if f_X7_in x1 0 9 = 0 then 0 else (if f_X7_in x2 0 200000 = 0 then 0 else (if f_X7_in x3 1 7 = 0 then 0 else (if f_X7_in x4 0 9000 = 0 then 0 else (if f_X7_in x5 0 3000 = 0 then 0 else 1))))
theorem nz_v_X7_rule_59 (G : GS) (x1 : Int32) (x2 : Int32) (x3 : Int32) (x4 : Int32) (x5 : Int32) : nz (v_X7_rule_59 G x1 x2 x3 x4 x5) := (nz_ite nz0 (nz_ite nz0 (nz_ite nz0 (nz_ite nz0 (nz_ite nz0 nz1)))))
def g_X7_rule_1 (G : GS) (x1 : Int32) (x2 : Int32) (x3 : Int32) (x4 : Int32) (x5 : Int32) : GS := up2 G 0 0 (if v_X7_rule_59 G x1 x2 x3 x4 x5 = 0 then 1 else (if nI (gnR G) = 20 then 2 else 0))
theorem e_g_X7_rule_1 (G : GS) (x1 : Int32) (x2 : Int32) (x3 : Int32) (x4 : Int32) (x5 : Int32) {j : Nat} (h : j ∉ [0]) : g_X7_rule_1 G x1 x2 x3 x4 x5 j = G j := (up2_ne (fun q => h (by rw [q]; exact List.mem_cons_self))).trans rfl
def g_X7_rule_2 (G : GS) (x1 : Int32) (x2 : Int32) (x3 : Int32) (x4 : Int32) (x5 : Int32) : GS := up2 (g_X7_rule_1 G x1 x2 x3 x4 x5) 24 (gnR G) x1
theorem e_g_X7_rule_2 (G : GS) (x1 : Int32) (x2 : Int32) (x3 : Int32) (x4 : Int32) (x5 : Int32) {j : Nat} (h : j ∉ [24, 0]) : g_X7_rule_2 G x1 x2 x3 x4 x5 j = G j := (up2_ne (fun q => h (by rw [q]; exact List.mem_cons_self))).trans (e_g_X7_rule_1 G x1 x2 x3 x4 x5 (fun q => h (List.mem_cons_of_mem _ q)))
def g_X7_rule_3 (G : GS) (x1 : Int32) (x2 : Int32) (x3 : Int32) (x4 : Int32) (x5 : Int32) : GS := up2 (g_X7_rule_2 G x1 x2 x3 x4 x5) 25 (gnR G) x2
theorem e_g_X7_rule_3 (G : GS) (x1 : Int32) (x2 : Int32) (x3 : Int32) (x4 : Int32) (x5 : Int32) {j : Nat} (h : j ∉ [25, 24, 0]) : g_X7_rule_3 G x1 x2 x3 x4 x5 j = G j := (up2_ne (fun q => h (by rw [q]; exact List.mem_cons_self))).trans (e_g_X7_rule_2 G x1 x2 x3 x4 x5 (fun q => h (List.mem_cons_of_mem _ q)))
def g_X7_rule_4 (G : GS) (x1 : Int32) (x2 : Int32) (x3 : Int32) (x4 : Int32) (x5 : Int32) : GS := up2 (g_X7_rule_3 G x1 x2 x3 x4 x5) 26 (gnR G) x3
theorem e_g_X7_rule_4 (G : GS) (x1 : Int32) (x2 : Int32) (x3 : Int32) (x4 : Int32) (x5 : Int32) {j : Nat} (h : j ∉ [26, 25, 24, 0]) : g_X7_rule_4 G x1 x2 x3 x4 x5 j = G j := (up2_ne (fun q => h (by rw [q]; exact List.mem_cons_self))).trans (e_g_X7_rule_3 G x1 x2 x3 x4 x5 (fun q => h (List.mem_cons_of_mem _ q)))
def g_X7_rule_5 (G : GS) (x1 : Int32) (x2 : Int32) (x3 : Int32) (x4 : Int32) (x5 : Int32) : GS := up2 (g_X7_rule_4 G x1 x2 x3 x4 x5) 27 (gnR G) x4
theorem e_g_X7_rule_5 (G : GS) (x1 : Int32) (x2 : Int32) (x3 : Int32) (x4 : Int32) (x5 : Int32) {j : Nat} (h : j ∉ [27, 26, 25, 24, 0]) : g_X7_rule_5 G x1 x2 x3 x4 x5 j = G j := (up2_ne (fun q => h (by rw [q]; exact List.mem_cons_self))).trans (e_g_X7_rule_4 G x1 x2 x3 x4 x5 (fun q => h (List.mem_cons_of_mem _ q)))
def g_X7_rule_6 (G : GS) (x1 : Int32) (x2 : Int32) (x3 : Int32) (x4 : Int32) (x5 : Int32) : GS := up2 (g_X7_rule_5 G x1 x2 x3 x4 x5) 28 (gnR G) x5
theorem e_g_X7_rule_6 (G : GS) (x1 : Int32) (x2 : Int32) (x3 : Int32) (x4 : Int32) (x5 : Int32) {j : Nat} (h : j ∉ [28, 27, 26, 25, 24, 0]) : g_X7_rule_6 G x1 x2 x3 x4 x5 j = G j := (up2_ne (fun q => h (by rw [q]; exact List.mem_cons_self))).trans (e_g_X7_rule_5 G x1 x2 x3 x4 x5 (fun q => h (List.mem_cons_of_mem _ q)))
def g_X7_rule_7 (G : GS) (x1 : Int32) (x2 : Int32) (x3 : Int32) (x4 : Int32) (x5 : Int32) : GS := up2 (g_X7_rule_6 G x1 x2 x3 x4 x5) 23 0 ((nI (gnR G)) + 1)
theorem e_g_X7_rule_7 (G : GS) (x1 : Int32) (x2 : Int32) (x3 : Int32) (x4 : Int32) (x5 : Int32) {j : Nat} (h : j ∉ [23, 28, 27, 26, 25, 24, 0]) : g_X7_rule_7 G x1 x2 x3 x4 x5 j = G j := (up2_ne (fun q => h (by rw [q]; exact List.mem_cons_self))).trans (e_g_X7_rule_6 G x1 x2 x3 x4 x5 (fun q => h (List.mem_cons_of_mem _ q)))
def f_X7_rule (G : GS) (x1 : Int32) (x2 : Int32) (x3 : Int32) (x4 : Int32) (x5 : Int32) : Int32 := if (if v_X7_rule_59 G x1 x2 x3 x4 x5 = 0 then 1 else (if nI (gnR G) = 20 then 2 else 0) : Int32) ≤ 0 then ((nI (gnR G)) + 1) - 1 else 0
def g_X7_rule (G : GS) (x1 : Int32) (x2 : Int32) (x3 : Int32) (x4 : Int32) (x5 : Int32) : GS := if (if v_X7_rule_59 G x1 x2 x3 x4 x5 = 0 then 1 else (if nI (gnR G) = 20 then 2 else 0) : Int32) ≤ 0 then g_X7_rule_7 G x1 x2 x3 x4 x5 else g_X7_rule_1 G x1 x2 x3 x4 x5
def v_X7_rule_b_59 (G : GS) (x1 : Int32) (x2 : Int32) (x3 : Int32) (x4 : Int32) (x5 : Int32) : Int32 := if f_X7_in x1 0 9 = 0 then 0 else (if f_X7_in x2 0 200000 = 0 then 0 else (if f_X7_in x3 1 7 = 0 then 0 else (if f_X7_in x4 0 9000 = 0 then 0 else (if f_X7_in x5 0 3000 = 0 then 0 else 1))))
theorem nz_v_X7_rule_b_59 (G : GS) (x1 : Int32) (x2 : Int32) (x3 : Int32) (x4 : Int32) (x5 : Int32) : nz (v_X7_rule_b_59 G x1 x2 x3 x4 x5) := (nz_ite nz0 (nz_ite nz0 (nz_ite nz0 (nz_ite nz0 (nz_ite nz0 nz1)))))
def g_X7_rule_b_1 (G : GS) (x1 : Int32) (x2 : Int32) (x3 : Int32) (x4 : Int32) (x5 : Int32) : GS := up2 G 0 0 (if v_X7_rule_b_59 G x1 x2 x3 x4 x5 = 0 then 1 else 2)
theorem e_g_X7_rule_b_1 (G : GS) (x1 : Int32) (x2 : Int32) (x3 : Int32) (x4 : Int32) (x5 : Int32) {j : Nat} (h : j ∉ [0]) : g_X7_rule_b_1 G x1 x2 x3 x4 x5 j = G j := (up2_ne (fun q => h (by rw [q]; exact List.mem_cons_self))).trans rfl
def f_X7_rule_b (G : GS) (x1 : Int32) (x2 : Int32) (x3 : Int32) (x4 : Int32) (x5 : Int32) : Int32 := 0
def g_X7_rule_b (G : GS) (x1 : Int32) (x2 : Int32) (x3 : Int32) (x4 : Int32) (x5 : Int32) : GS := g_X7_rule_b_1 G x1 x2 x3 x4 x5
def g_X7_issue_1 (G : GS) (i1 : Nat) (i2 : Nat) (x3 : Int32) : GS := up2 G 0 0 (if f_X7_isShip G (nI i1) = 0 then 1 else (if f_X7_in (nI i2) 0 4 = 0 then 2 else (if f_X7_in x3 1 1825 = 0 then 2 else 0)))
theorem e_g_X7_issue_1 (G : GS) (i1 : Nat) (i2 : Nat) (x3 : Int32) {j : Nat} (h : j ∉ [0]) : g_X7_issue_1 G i1 i2 x3 j = G j := (up2_ne (fun q => h (by rw [q]; exact List.mem_cons_self))).trans rfl
def g_X7_issue_2 (G : GS) (i1 : Nat) (i2 : Nat) (x3 : Int32) : GS := up2 (g_X7_issue_1 G i1 i2 x3) 0 0 (if G 2 (G 8 i1).toNatClampNeg = 0 then (if f_X7_hangsOnLapsed (g_X7_issue_1 G i1 i2 x3) i1 i2 = 0 then 0 else 3) else 3)
theorem e_g_X7_issue_2 (G : GS) (i1 : Nat) (i2 : Nat) (x3 : Int32) {j : Nat} (h : j ∉ [0, 0]) : g_X7_issue_2 G i1 i2 x3 j = G j := (up2_ne (fun q => h (by rw [q]; exact List.mem_cons_self))).trans (e_g_X7_issue_1 G i1 i2 x3 (fun q => h (List.mem_cons_of_mem _ q)))
def g_X7_issue_3 (G : GS) (i1 : Nat) (i2 : Nat) (x3 : Int32) : GS := up2 (g_X7_issue_2 G i1 i2 x3) 18 (5 * i1 + i2) 1
theorem e_g_X7_issue_3 (G : GS) (i1 : Nat) (i2 : Nat) (x3 : Int32) {j : Nat} (h : j ∉ [18, 0, 0]) : g_X7_issue_3 G i1 i2 x3 j = G j := (up2_ne (fun q => h (by rw [q]; exact List.mem_cons_self))).trans (e_g_X7_issue_2 G i1 i2 x3 (fun q => h (List.mem_cons_of_mem _ q)))
def g_X7_issue_4 (G : GS) (i1 : Nat) (i2 : Nat) (x3 : Int32) : GS := up2 (g_X7_issue_3 G i1 i2 x3) 19 (5 * i1 + i2) (G 1 0)
theorem e_g_X7_issue_4 (G : GS) (i1 : Nat) (i2 : Nat) (x3 : Int32) {j : Nat} (h : j ∉ [19, 18, 0, 0]) : g_X7_issue_4 G i1 i2 x3 j = G j := (up2_ne (fun q => h (by rw [q]; exact List.mem_cons_self))).trans (e_g_X7_issue_3 G i1 i2 x3 (fun q => h (List.mem_cons_of_mem _ q)))
def g_X7_issue_5 (G : GS) (i1 : Nat) (i2 : Nat) (x3 : Int32) : GS := up2 (g_X7_issue_4 G i1 i2 x3) 20 (5 * i1 + i2) x3
theorem e_g_X7_issue_5 (G : GS) (i1 : Nat) (i2 : Nat) (x3 : Int32) {j : Nat} (h : j ∉ [20, 19, 18, 0, 0]) : g_X7_issue_5 G i1 i2 x3 j = G j := (up2_ne (fun q => h (by rw [q]; exact List.mem_cons_self))).trans (e_g_X7_issue_4 G i1 i2 x3 (fun q => h (List.mem_cons_of_mem _ q)))
def g_X7_issue_6 (G : GS) (i1 : Nat) (i2 : Nat) (x3 : Int32) : GS := up2 (g_X7_issue_5 G i1 i2 x3) 21 (5 * i1 + i2) (G 8 i1)
theorem e_g_X7_issue_6 (G : GS) (i1 : Nat) (i2 : Nat) (x3 : Int32) {j : Nat} (h : j ∉ [21, 20, 19, 18, 0, 0]) : g_X7_issue_6 G i1 i2 x3 j = G j := (up2_ne (fun q => h (by rw [q]; exact List.mem_cons_self))).trans (e_g_X7_issue_5 G i1 i2 x3 (fun q => h (List.mem_cons_of_mem _ q)))
def g_X7_issue_7 (G : GS) (i1 : Nat) (i2 : Nat) (x3 : Int32) : GS := up2 (g_X7_issue_6 G i1 i2 x3) 22 (5 * i1 + i2) 0
theorem e_g_X7_issue_7 (G : GS) (i1 : Nat) (i2 : Nat) (x3 : Int32) {j : Nat} (h : j ∉ [22, 21, 20, 19, 18, 0, 0]) : g_X7_issue_7 G i1 i2 x3 j = G j := (up2_ne (fun q => h (by rw [q]; exact List.mem_cons_self))).trans (e_g_X7_issue_6 G i1 i2 x3 (fun q => h (List.mem_cons_of_mem _ q)))
def f_X7_issue (G : GS) (i1 : Nat) (i2 : Nat) (x3 : Int32) : Int32 := if (if f_X7_isShip G (nI i1) = 0 then 1 else (if f_X7_in (nI i2) 0 4 = 0 then 2 else (if f_X7_in x3 1 1825 = 0 then 2 else 0)) : Int32) = 0 then (if (if G 2 (G 8 i1).toNatClampNeg = 0 then (if f_X7_hangsOnLapsed (g_X7_issue_1 G i1 i2 x3) i1 i2 = 0 then 0 else 3) else 3 : Int32) ≤ 0 then (G 1 0) + x3 else 0) else 0
def g_X7_issue (G : GS) (i1 : Nat) (i2 : Nat) (x3 : Int32) : GS := if (if f_X7_isShip G (nI i1) = 0 then 1 else (if f_X7_in (nI i2) 0 4 = 0 then 2 else (if f_X7_in x3 1 1825 = 0 then 2 else 0)) : Int32) = 0 then (if (if G 2 (G 8 i1).toNatClampNeg = 0 then (if f_X7_hangsOnLapsed (g_X7_issue_1 G i1 i2 x3) i1 i2 = 0 then 0 else 3) else 3 : Int32) ≤ 0 then g_X7_issue_7 G i1 i2 x3 else g_X7_issue_2 G i1 i2 x3) else g_X7_issue_1 G i1 i2 x3
def g_X7_issue_b_1 (G : GS) (x1 : Int32) (x2 : Int32) (x3 : Int32) : GS := up2 G 0 0 1
theorem e_g_X7_issue_b_1 (G : GS) (x1 : Int32) (x2 : Int32) (x3 : Int32) {j : Nat} (h : j ∉ [0]) : g_X7_issue_b_1 G x1 x2 x3 j = G j := (up2_ne (fun q => h (by rw [q]; exact List.mem_cons_self))).trans rfl
def f_X7_issue_b (G : GS) (x1 : Int32) (x2 : Int32) (x3 : Int32) : Int32 := 0
def g_X7_issue_b (G : GS) (x1 : Int32) (x2 : Int32) (x3 : Int32) : GS := g_X7_issue_b_1 G x1 x2 x3
def g_X7_issue_f_1 (G : GS) (i1 : Nat) (x2 : Int32) (x3 : Int32) : GS := up2 G 0 0 (if f_X7_isShip G (nI i1) = 0 then 1 else 2)
theorem e_g_X7_issue_f_1 (G : GS) (i1 : Nat) (x2 : Int32) (x3 : Int32) {j : Nat} (h : j ∉ [0]) : g_X7_issue_f_1 G i1 x2 x3 j = G j := (up2_ne (fun q => h (by rw [q]; exact List.mem_cons_self))).trans rfl
def f_X7_issue_f (G : GS) (i1 : Nat) (x2 : Int32) (x3 : Int32) : Int32 := 0
def g_X7_issue_f (G : GS) (i1 : Nat) (x2 : Int32) (x3 : Int32) : GS := g_X7_issue_f_1 G i1 x2 x3
def g_X7_endorse_1 (G : GS) (i1 : Nat) (i2 : Nat) : GS := up2 G 0 0 (if f_X7_isShip G (nI i1) = 0 then 1 else (if f_X7_in (nI i2) 0 4 = 0 then 2 else 0))
theorem e_g_X7_endorse_1 (G : GS) (i1 : Nat) (i2 : Nat) {j : Nat} (h : j ∉ [0]) : g_X7_endorse_1 G i1 i2 j = G j := (up2_ne (fun q => h (by rw [q]; exact List.mem_cons_self))).trans rfl
def g_X7_endorse_2 (G : GS) (i1 : Nat) (i2 : Nat) : GS := up2 (g_X7_endorse_1 G i1 i2) 0 0 (if f_X7_isLapsed (g_X7_endorse_1 G i1 i2) i1 i2 = 0 then (if f_X7_anniversary (g_X7_endorse_1 G i1 i2) (5 * i1 + i2) = (-1) then 3 else 0) else 3)
theorem e_g_X7_endorse_2 (G : GS) (i1 : Nat) (i2 : Nat) {j : Nat} (h : j ∉ [0, 0]) : g_X7_endorse_2 G i1 i2 j = G j := (up2_ne (fun q => h (by rw [q]; exact List.mem_cons_self))).trans (e_g_X7_endorse_1 G i1 i2 (fun q => h (List.mem_cons_of_mem _ q)))
def g_X7_endorse_3 (G : GS) (i1 : Nat) (i2 : Nat) : GS := up2 (g_X7_endorse_2 G i1 i2) 22 (5 * i1 + i2) ((G 22 (5 * i1 + i2)) ||| ((1 : Int32) <<< ((f_X7_anniversary (g_X7_endorse_2 G i1 i2) (5 * i1 + i2)) &&& 31)))
theorem e_g_X7_endorse_3 (G : GS) (i1 : Nat) (i2 : Nat) {j : Nat} (h : j ∉ [22, 0, 0]) : g_X7_endorse_3 G i1 i2 j = G j := (up2_ne (fun q => h (by rw [q]; exact List.mem_cons_self))).trans (e_g_X7_endorse_2 G i1 i2 (fun q => h (List.mem_cons_of_mem _ q)))
def f_X7_endorse (G : GS) (i1 : Nat) (i2 : Nat) : Int32 := if (if f_X7_isShip G (nI i1) = 0 then 1 else (if f_X7_in (nI i2) 0 4 = 0 then 2 else 0) : Int32) = 0 then (if (if f_X7_isLapsed (g_X7_endorse_1 G i1 i2) i1 i2 = 0 then (if f_X7_anniversary (g_X7_endorse_1 G i1 i2) (5 * i1 + i2) = (-1) then 3 else 0) else 3 : Int32) ≤ 0 then f_X7_many ((G 22 (5 * i1 + i2)) ||| ((1 : Int32) <<< ((f_X7_anniversary (g_X7_endorse_2 G i1 i2) (5 * i1 + i2)) &&& 31))) else 0) else 0
def g_X7_endorse (G : GS) (i1 : Nat) (i2 : Nat) : GS := if (if f_X7_isShip G (nI i1) = 0 then 1 else (if f_X7_in (nI i2) 0 4 = 0 then 2 else 0) : Int32) = 0 then (if (if f_X7_isLapsed (g_X7_endorse_1 G i1 i2) i1 i2 = 0 then (if f_X7_anniversary (g_X7_endorse_1 G i1 i2) (5 * i1 + i2) = (-1) then 3 else 0) else 3 : Int32) ≤ 0 then g_X7_endorse_3 G i1 i2 else g_X7_endorse_2 G i1 i2) else g_X7_endorse_1 G i1 i2
def g_X7_endorse_b_1 (G : GS) (x1 : Int32) (x2 : Int32) : GS := up2 G 0 0 1
theorem e_g_X7_endorse_b_1 (G : GS) (x1 : Int32) (x2 : Int32) {j : Nat} (h : j ∉ [0]) : g_X7_endorse_b_1 G x1 x2 j = G j := (up2_ne (fun q => h (by rw [q]; exact List.mem_cons_self))).trans rfl
def f_X7_endorse_b (G : GS) (x1 : Int32) (x2 : Int32) : Int32 := 0
def g_X7_endorse_b (G : GS) (x1 : Int32) (x2 : Int32) : GS := g_X7_endorse_b_1 G x1 x2
def g_X7_endorse_f_1 (G : GS) (i1 : Nat) (x2 : Int32) : GS := up2 G 0 0 (if f_X7_isShip G (nI i1) = 0 then 1 else 2)
theorem e_g_X7_endorse_f_1 (G : GS) (i1 : Nat) (x2 : Int32) {j : Nat} (h : j ∉ [0]) : g_X7_endorse_f_1 G i1 x2 j = G j := (up2_ne (fun q => h (by rw [q]; exact List.mem_cons_self))).trans rfl
def f_X7_endorse_f (G : GS) (i1 : Nat) (x2 : Int32) : Int32 := 0
def g_X7_endorse_f (G : GS) (i1 : Nat) (x2 : Int32) : GS := g_X7_endorse_f_1 G i1 x2
def g_X7_calls_1 (G : GS) (i1 : Nat) (x2 : Int32) : GS := up2 G 0 0 (if f_X7_isShip G (nI i1) = 0 then 1 else (if f_X7_isPort x2 = 0 then 1 else (if G 10 i1 = (-1) then (if f_X7_isBanned G i1 = 0 then 0 else 2) else 2)))
theorem e_g_X7_calls_1 (G : GS) (i1 : Nat) (x2 : Int32) {j : Nat} (h : j ∉ [0]) : g_X7_calls_1 G i1 x2 j = G j := (up2_ne (fun q => h (by rw [q]; exact List.mem_cons_self))).trans rfl
def g_X7_calls_2 (G : GS) (i1 : Nat) (x2 : Int32) : GS := up2 (g_X7_calls_1 G i1 x2) 10 i1 x2
theorem e_g_X7_calls_2 (G : GS) (i1 : Nat) (x2 : Int32) {j : Nat} (h : j ∉ [10, 0]) : g_X7_calls_2 G i1 x2 j = G j := (up2_ne (fun q => h (by rw [q]; exact List.mem_cons_self))).trans (e_g_X7_calls_1 G i1 x2 (fun q => h (List.mem_cons_of_mem _ q)))
def g_X7_calls_3 (G : GS) (i1 : Nat) (x2 : Int32) : GS := up2 (g_X7_calls_2 G i1 x2) 11 i1 (-1)
theorem e_g_X7_calls_3 (G : GS) (i1 : Nat) (x2 : Int32) {j : Nat} (h : j ∉ [11, 10, 0]) : g_X7_calls_3 G i1 x2 j = G j := (up2_ne (fun q => h (by rw [q]; exact List.mem_cons_self))).trans (e_g_X7_calls_2 G i1 x2 (fun q => h (List.mem_cons_of_mem _ q)))
def f_X7_calls (G : GS) (i1 : Nat) (x2 : Int32) : Int32 := if (if f_X7_isShip G (nI i1) = 0 then 1 else (if f_X7_isPort x2 = 0 then 1 else (if G 10 i1 = (-1) then (if f_X7_isBanned G i1 = 0 then 0 else 2) else 2)) : Int32) ≤ 0 then f_X7_priorityOf (g_X7_calls_3 G i1 x2) i1 else 0
def g_X7_calls (G : GS) (i1 : Nat) (x2 : Int32) : GS := if (if f_X7_isShip G (nI i1) = 0 then 1 else (if f_X7_isPort x2 = 0 then 1 else (if G 10 i1 = (-1) then (if f_X7_isBanned G i1 = 0 then 0 else 2) else 2)) : Int32) ≤ 0 then g_X7_calls_3 G i1 x2 else g_X7_calls_1 G i1 x2
def g_X7_calls_b_1 (G : GS) (x1 : Int32) (x2 : Int32) : GS := up2 G 0 0 1
theorem e_g_X7_calls_b_1 (G : GS) (x1 : Int32) (x2 : Int32) {j : Nat} (h : j ∉ [0]) : g_X7_calls_b_1 G x1 x2 j = G j := (up2_ne (fun q => h (by rw [q]; exact List.mem_cons_self))).trans rfl
def f_X7_calls_b (G : GS) (x1 : Int32) (x2 : Int32) : Int32 := 0
def g_X7_calls_b (G : GS) (x1 : Int32) (x2 : Int32) : GS := g_X7_calls_b_1 G x1 x2
def g_X7_leaves_1 (G : GS) (i1 : Nat) (i2 : Nat) : GS := up2 G 0 0 (if f_X7_isShip G (nI i1) = 0 then 1 else (if nI i2 = (-1) then 2 else (if G 13 i1 = (-1) then 0 else 2)))
theorem e_g_X7_leaves_1 (G : GS) (i1 : Nat) (i2 : Nat) {j : Nat} (h : j ∉ [0]) : g_X7_leaves_1 G i1 i2 j = G j := (up2_ne (fun q => h (by rw [q]; exact List.mem_cons_self))).trans rfl
def v_X7_leaves_74 (G : GS) (i1 : Nat) (i2 : Nat) : Int32 := if G 11 i1 = (-1) then (if f_X7_priorityOf (g_X7_leaves_1 G i1 i2) i1 = 2 then 1 else 0) else 0
theorem nz_v_X7_leaves_74 (G : GS) (i1 : Nat) (i2 : Nat) : nz (v_X7_leaves_74 G i1 i2) := (nz_ite (nz_ite nz1 nz0) nz0)
def g_X7_leaves_2 (G : GS) (i1 : Nat) (i2 : Nat) : GS := up2 (g_X7_leaves_1 G i1 i2) 43 i2 ((G 43 i2) + (if v_X7_leaves_74 G i1 i2 = 0 then 0 else 1))
theorem e_g_X7_leaves_2 (G : GS) (i1 : Nat) (i2 : Nat) {j : Nat} (h : j ∉ [43, 0]) : g_X7_leaves_2 G i1 i2 j = G j := (up2_ne (fun q => h (by rw [q]; exact List.mem_cons_self))).trans (e_g_X7_leaves_1 G i1 i2 (fun q => h (List.mem_cons_of_mem _ q)))
def g_X7_leaves_3 (G : GS) (i1 : Nat) (i2 : Nat) : GS := up2 (g_X7_leaves_2 G i1 i2) 10 i1 (-1)
theorem e_g_X7_leaves_3 (G : GS) (i1 : Nat) (i2 : Nat) {j : Nat} (h : j ∉ [10, 43, 0]) : g_X7_leaves_3 G i1 i2 j = G j := (up2_ne (fun q => h (by rw [q]; exact List.mem_cons_self))).trans (e_g_X7_leaves_2 G i1 i2 (fun q => h (List.mem_cons_of_mem _ q)))
def g_X7_leaves_4 (G : GS) (i1 : Nat) (i2 : Nat) : GS := up2 (g_X7_leaves_3 G i1 i2) 11 i1 (-1)
theorem e_g_X7_leaves_4 (G : GS) (i1 : Nat) (i2 : Nat) {j : Nat} (h : j ∉ [11, 10, 43, 0]) : g_X7_leaves_4 G i1 i2 j = G j := (up2_ne (fun q => h (by rw [q]; exact List.mem_cons_self))).trans (e_g_X7_leaves_3 G i1 i2 (fun q => h (List.mem_cons_of_mem _ q)))
def f_X7_leaves (G : GS) (i1 : Nat) (i2 : Nat) : Int32 := if (if f_X7_isShip G (nI i1) = 0 then 1 else (if nI i2 = (-1) then 2 else (if G 13 i1 = (-1) then 0 else 2)) : Int32) ≤ 0 then v_X7_leaves_74 G i1 i2 else 0
theorem nz_f_X7_leaves (G : GS) (i1 : Nat) (i2 : Nat) : nz (f_X7_leaves G i1 i2) := (nz_ite (nz_v_X7_leaves_74 _ _ _) nz0)
def g_X7_leaves (G : GS) (i1 : Nat) (i2 : Nat) : GS := if (if f_X7_isShip G (nI i1) = 0 then 1 else (if nI i2 = (-1) then 2 else (if G 13 i1 = (-1) then 0 else 2)) : Int32) ≤ 0 then g_X7_leaves_4 G i1 i2 else g_X7_leaves_1 G i1 i2
def g_X7_leaves_n_1 (G : GS) (i1 : Nat) : GS := up2 G 0 0 (if f_X7_isShip G (nI i1) = 0 then 1 else 2)
theorem e_g_X7_leaves_n_1 (G : GS) (i1 : Nat) {j : Nat} (h : j ∉ [0]) : g_X7_leaves_n_1 G i1 j = G j := (up2_ne (fun q => h (by rw [q]; exact List.mem_cons_self))).trans rfl
def f_X7_leaves_n (G : GS) (i1 : Nat) : Int32 := 0
theorem nz_f_X7_leaves_n (G : GS) (i1 : Nat) : nz (f_X7_leaves_n G i1) := nz0
def g_X7_leaves_n (G : GS) (i1 : Nat) : GS := g_X7_leaves_n_1 G i1
def g_X7_leaves_b_1 (G : GS) (x1 : Int32) : GS := up2 G 0 0 1
theorem e_g_X7_leaves_b_1 (G : GS) (x1 : Int32) {j : Nat} (h : j ∉ [0]) : g_X7_leaves_b_1 G x1 j = G j := (up2_ne (fun q => h (by rw [q]; exact List.mem_cons_self))).trans rfl
def f_X7_leaves_b (G : GS) (x1 : Int32) : Int32 := 0
theorem nz_f_X7_leaves_b (G : GS) (x1 : Int32) : nz (f_X7_leaves_b G x1) := nz0
def g_X7_leaves_b (G : GS) (x1 : Int32) : GS := g_X7_leaves_b_1 G x1
def g_X7_visit_1 (G : GS) (i1 : Nat) : GS := up2 G 0 0 (if f_X7_isShip G (nI i1) = 0 then 1 else (if G 10 i1 = (-1) then 2 else (if G 11 i1 = (-1) then (if nI (gnV G) = 60 then 2 else 0) else 2)))
theorem e_g_X7_visit_1 (G : GS) (i1 : Nat) {j : Nat} (h : j ∉ [0]) : g_X7_visit_1 G i1 j = G j := (up2_ne (fun q => h (by rw [q]; exact List.mem_cons_self))).trans rfl
def v_X7_visit_90 (G : GS) (i1 : Nat) : Int32 := if f_X7_riskOf (g_X7_visit_1 G i1) i1 = 2 then 1 else (if f_X7_isOld (g_X7_visit_1 G i1) i1 = 0 then 0 else (if G 6 i1 = 0 then 0 else 1))
theorem nz_v_X7_visit_90 (G : GS) (i1 : Nat) : nz (v_X7_visit_90 G i1) := (nz_ite nz1 (nz_ite nz0 (nz_ite nz0 nz1)))
def v_X7_visit_112 (G : GS) (i1 : Nat) : Int32 := if f_X7_lapsedOf (g_X7_visit_1 G i1) i1 = 0 then (if f_X7_hasOff (g_X7_visit_1 G i1) i1 = 0 then 0 else 1) else 1
theorem nz_v_X7_visit_112 (G : GS) (i1 : Nat) : nz (v_X7_visit_112 G i1) := (nz_ite (nz_ite nz0 nz1) nz1)
def g_X7_visit_2 (G : GS) (i1 : Nat) : GS := up2 (g_X7_visit_1 G i1) 33 (gnV G) (if v_X7_visit_90 G i1 = 0 then (if v_X7_visit_112 G i1 = 0 then 0 else 1) else 2)
theorem e_g_X7_visit_2 (G : GS) (i1 : Nat) {j : Nat} (h : j ∉ [33, 0]) : g_X7_visit_2 G i1 j = G j := (up2_ne (fun q => h (by rw [q]; exact List.mem_cons_self))).trans (e_g_X7_visit_1 G i1 (fun q => h (List.mem_cons_of_mem _ q)))
def g_X7_visit_3 (G : GS) (i1 : Nat) : GS := up2 (g_X7_visit_2 G i1) 30 (gnV G) (nI i1)
theorem e_g_X7_visit_3 (G : GS) (i1 : Nat) {j : Nat} (h : j ∉ [30, 33, 0]) : g_X7_visit_3 G i1 j = G j := (up2_ne (fun q => h (by rw [q]; exact List.mem_cons_self))).trans (e_g_X7_visit_2 G i1 (fun q => h (List.mem_cons_of_mem _ q)))
def g_X7_visit_4 (G : GS) (i1 : Nat) : GS := up2 (g_X7_visit_3 G i1) 31 (gnV G) (G 10 i1)
theorem e_g_X7_visit_4 (G : GS) (i1 : Nat) {j : Nat} (h : j ∉ [31, 30, 33, 0]) : g_X7_visit_4 G i1 j = G j := (up2_ne (fun q => h (by rw [q]; exact List.mem_cons_self))).trans (e_g_X7_visit_3 G i1 (fun q => h (List.mem_cons_of_mem _ q)))
def g_X7_visit_5 (G : GS) (i1 : Nat) : GS := up2 (g_X7_visit_4 G i1) 32 (gnV G) (G 1 0)
theorem e_g_X7_visit_5 (G : GS) (i1 : Nat) {j : Nat} (h : j ∉ [32, 31, 30, 33, 0]) : g_X7_visit_5 G i1 j = G j := (up2_ne (fun q => h (by rw [q]; exact List.mem_cons_self))).trans (e_g_X7_visit_4 G i1 (fun q => h (List.mem_cons_of_mem _ q)))
def g_X7_visit_6 (G : GS) (i1 : Nat) : GS := up2 (g_X7_visit_5 G i1) 34 (gnV G) (G 7 i1)
theorem e_g_X7_visit_6 (G : GS) (i1 : Nat) {j : Nat} (h : j ∉ [34, 32, 31, 30, 33, 0]) : g_X7_visit_6 G i1 j = G j := (up2_ne (fun q => h (by rw [q]; exact List.mem_cons_self))).trans (e_g_X7_visit_5 G i1 (fun q => h (List.mem_cons_of_mem _ q)))
def g_X7_visit_7 (G : GS) (i1 : Nat) : GS := up2 (g_X7_visit_6 G i1) 38 (gnV G) (-1)
theorem e_g_X7_visit_7 (G : GS) (i1 : Nat) {j : Nat} (h : j ∉ [38, 34, 32, 31, 30, 33, 0]) : g_X7_visit_7 G i1 j = G j := (up2_ne (fun q => h (by rw [q]; exact List.mem_cons_self))).trans (e_g_X7_visit_6 G i1 (fun q => h (List.mem_cons_of_mem _ q)))
def g_X7_visit_8 (G : GS) (i1 : Nat) : GS := up2 (g_X7_visit_7 G i1) 11 i1 (nI (gnV G))
theorem e_g_X7_visit_8 (G : GS) (i1 : Nat) {j : Nat} (h : j ∉ [11, 38, 34, 32, 31, 30, 33, 0]) : g_X7_visit_8 G i1 j = G j := (up2_ne (fun q => h (by rw [q]; exact List.mem_cons_self))).trans (e_g_X7_visit_7 G i1 (fun q => h (List.mem_cons_of_mem _ q)))
def g_X7_visit_9 (G : GS) (i1 : Nat) : GS := up2 (g_X7_visit_8 G i1) 12 i1 (nI (gnV G))
theorem e_g_X7_visit_9 (G : GS) (i1 : Nat) {j : Nat} (h : j ∉ [12, 11, 38, 34, 32, 31, 30, 33, 0]) : g_X7_visit_9 G i1 j = G j := (up2_ne (fun q => h (by rw [q]; exact List.mem_cons_self))).trans (e_g_X7_visit_8 G i1 (fun q => h (List.mem_cons_of_mem _ q)))
def g_X7_visit_10 (G : GS) (i1 : Nat) : GS := up2 (g_X7_visit_9 G i1) 29 0 ((nI (gnV G)) + 1)
theorem e_g_X7_visit_10 (G : GS) (i1 : Nat) {j : Nat} (h : j ∉ [29, 12, 11, 38, 34, 32, 31, 30, 33, 0]) : g_X7_visit_10 G i1 j = G j := (up2_ne (fun q => h (by rw [q]; exact List.mem_cons_self))).trans (e_g_X7_visit_9 G i1 (fun q => h (List.mem_cons_of_mem _ q)))
def f_X7_visit (G : GS) (i1 : Nat) : Int32 := if (if f_X7_isShip G (nI i1) = 0 then 1 else (if G 10 i1 = (-1) then 2 else (if G 11 i1 = (-1) then (if nI (gnV G) = 60 then 2 else 0) else 2)) : Int32) ≤ 0 then ((nI (gnV G)) + 1) - 1 else 0
def g_X7_visit (G : GS) (i1 : Nat) : GS := if (if f_X7_isShip G (nI i1) = 0 then 1 else (if G 10 i1 = (-1) then 2 else (if G 11 i1 = (-1) then (if nI (gnV G) = 60 then 2 else 0) else 2)) : Int32) ≤ 0 then g_X7_visit_10 G i1 else g_X7_visit_1 G i1
def g_X7_visit_n_1 (G : GS) (i1 : Nat) : GS := up2 G 0 0 (if f_X7_isShip G (nI i1) = 0 then 1 else (if G 10 i1 = (-1) then 2 else (if G 11 i1 = (-1) then 2 else 2)))
theorem e_g_X7_visit_n_1 (G : GS) (i1 : Nat) {j : Nat} (h : j ∉ [0]) : g_X7_visit_n_1 G i1 j = G j := (up2_ne (fun q => h (by rw [q]; exact List.mem_cons_self))).trans rfl
def f_X7_visit_n (G : GS) (i1 : Nat) : Int32 := 0
def g_X7_visit_n (G : GS) (i1 : Nat) : GS := g_X7_visit_n_1 G i1
def g_X7_visit_b_1 (G : GS) (x1 : Int32) : GS := up2 G 0 0 1
theorem e_g_X7_visit_b_1 (G : GS) (x1 : Int32) {j : Nat} (h : j ∉ [0]) : g_X7_visit_b_1 G x1 j = G j := (up2_ne (fun q => h (by rw [q]; exact List.mem_cons_self))).trans rfl
def f_X7_visit_b (G : GS) (x1 : Int32) : Int32 := 0
def g_X7_visit_b (G : GS) (x1 : Int32) : GS := g_X7_visit_b_1 G x1
def L_X7_looksForBan_4_2 (G : GS) (i1 : Nat) : Nat → Int32
  | 0 => 0
  | k4 + 1 => (L_X7_looksForBan_4_2 G i1 k4) + (if G 30 k4 = nI i1 then (if f_X7_isLatest G k4 = 0 then 0 else (if f_X7_counts G k4 = 0 then 0 else (if G 42 k4 = 0 then 1 else 0))) else 0)
def g_X7_looksForBan_3 (G : GS) (i1 : Nat) (k69 : Nat) : GS := up2 G 42 k69 (if G 42 k69 = 0 then (if G 30 k69 = nI i1 then (if f_X7_isLatest G k69 = 0 then 0 else (if f_X7_counts G k69 = 0 then 0 else 1)) else 0) else 1)
theorem e_g_X7_looksForBan_3 (G : GS) (i1 : Nat) (k69 : Nat) {j : Nat} (h : j ∉ [42]) : g_X7_looksForBan_3 G i1 k69 j = G j := (up2_ne (fun q => h (by rw [q]; exact List.mem_cons_self))).trans rfl
def LG_X7_looksForBan_69 (G : GS) (i1 : Nat) : Nat → GS
  | 0 => G
  | k69 + 1 => up2 (LG_X7_looksForBan_69 G i1 k69) 42 k69 (if (LG_X7_looksForBan_69 G i1 k69) 42 k69 = 0 then (if (LG_X7_looksForBan_69 G i1 k69) 30 k69 = nI i1 then (if f_X7_isLatest (LG_X7_looksForBan_69 G i1 k69) k69 = 0 then 0 else (if f_X7_counts (LG_X7_looksForBan_69 G i1 k69) k69 = 0 then 0 else 1)) else 0) else 1)
theorem LG_X7_looksForBan_69_ne (G : GS) (i1 : Nat) : ∀ (k j : Nat), j ≠ 42 → LG_X7_looksForBan_69 G i1 k j = G j
  | 0, j, h => rfl
  | k + 1, j, h => (up2_ne h).trans (LG_X7_looksForBan_69_ne G i1 k j h)
def g_X7_looksForBan (G : GS) (i1 : Nat) : GS := if 3 ≤ L_X7_looksForBan_4_2 G i1 (gnV G) then up2 (LG_X7_looksForBan_69 G i1 (gnV G)) 14 i1 1 else G
def g_X7_finds_1 (G : GS) (i1 : Nat) (x2 : Int32) (x3 : Int32) (i9 : Nat) : GS := up2 G 0 0 (if f_X7_isVisit G (nI i1) = 0 then 1 else (if f_X7_in x2 0 9 = 0 then 2 else (if f_X7_in x3 1 10 = 0 then 2 else 0)))
theorem e_g_X7_finds_1 (G : GS) (i1 : Nat) (x2 : Int32) (x3 : Int32) (i9 : Nat) {j : Nat} (h : j ∉ [0]) : g_X7_finds_1 G i1 x2 x3 i9 j = G j := (up2_ne (fun q => h (by rw [q]; exact List.mem_cons_self))).trans rfl
def g_X7_finds_2 (G : GS) (i1 : Nat) (x2 : Int32) (x3 : Int32) (i9 : Nat) : GS := up2 (g_X7_finds_1 G i1 x2 x3 i9) 0 0 (if f_X7_isHere (g_X7_finds_1 G i1 x2 x3 i9) i1 = 0 then 3 else (if f_X7_isGroundFor (g_X7_finds_1 G i1 x2 x3 i9) i9 x2 = 0 then 3 else (if 12 ≤ nI (gnF G i1) then 3 else 0)))
theorem e_g_X7_finds_2 (G : GS) (i1 : Nat) (x2 : Int32) (x3 : Int32) (i9 : Nat) {j : Nat} (h : j ∉ [0, 0]) : g_X7_finds_2 G i1 x2 x3 i9 j = G j := (up2_ne (fun q => h (by rw [q]; exact List.mem_cons_self))).trans (e_g_X7_finds_1 G i1 x2 x3 i9 (fun q => h (List.mem_cons_of_mem _ q)))
def g_X7_finds_3 (G : GS) (i1 : Nat) (x2 : Int32) (x3 : Int32) (i9 : Nat) : GS := up2 (g_X7_finds_2 G i1 x2 x3 i9) 36 ((12 * i1) + (gnF G i1)) x3
theorem e_g_X7_finds_3 (G : GS) (i1 : Nat) (x2 : Int32) (x3 : Int32) (i9 : Nat) {j : Nat} (h : j ∉ [36, 0, 0]) : g_X7_finds_3 G i1 x2 x3 i9 j = G j := (up2_ne (fun q => h (by rw [q]; exact List.mem_cons_self))).trans (e_g_X7_finds_2 G i1 x2 x3 i9 (fun q => h (List.mem_cons_of_mem _ q)))
def g_X7_finds_4 (G : GS) (i1 : Nat) (x2 : Int32) (x3 : Int32) (i9 : Nat) : GS := up2 (g_X7_finds_3 G i1 x2 x3 i9) 37 ((12 * i1) + (gnF G i1)) 0
theorem e_g_X7_finds_4 (G : GS) (i1 : Nat) (x2 : Int32) (x3 : Int32) (i9 : Nat) {j : Nat} (h : j ∉ [37, 36, 0, 0]) : g_X7_finds_4 G i1 x2 x3 i9 j = G j := (up2_ne (fun q => h (by rw [q]; exact List.mem_cons_self))).trans (e_g_X7_finds_3 G i1 x2 x3 i9 (fun q => h (List.mem_cons_of_mem _ q)))
def g_X7_finds_5 (G : GS) (i1 : Nat) (x2 : Int32) (x3 : Int32) (i9 : Nat) : GS := up2 (g_X7_finds_4 G i1 x2 x3 i9) 35 i1 ((nI (gnF G i1)) + 1)
theorem e_g_X7_finds_5 (G : GS) (i1 : Nat) (x2 : Int32) (x3 : Int32) (i9 : Nat) {j : Nat} (h : j ∉ [35, 37, 36, 0, 0]) : g_X7_finds_5 G i1 x2 x3 i9 j = G j := (up2_ne (fun q => h (by rw [q]; exact List.mem_cons_self))).trans (e_g_X7_finds_4 G i1 x2 x3 i9 (fun q => h (List.mem_cons_of_mem _ q)))
def g_X7_finds_6 (G : GS) (i1 : Nat) (x2 : Int32) (x3 : Int32) (i9 : Nat) : GS := up2 (g_X7_finds_5 G i1 x2 x3 i9) 33 i1 (if G 33 i1 = 0 then (if (nI (gnF G i1)) + 1 = 3 then 1 else G 33 i1) else G 33 i1)
theorem e_g_X7_finds_6 (G : GS) (i1 : Nat) (x2 : Int32) (x3 : Int32) (i9 : Nat) {j : Nat} (h : j ∉ [33, 35, 37, 36, 0, 0]) : g_X7_finds_6 G i1 x2 x3 i9 j = G j := (up2_ne (fun q => h (by rw [q]; exact List.mem_cons_self))).trans (e_g_X7_finds_5 G i1 x2 x3 i9 (fun q => h (List.mem_cons_of_mem _ q)))
def f_X7_finds (G : GS) (i1 : Nat) (x2 : Int32) (x3 : Int32) (i9 : Nat) : Int32 := if (if f_X7_isVisit G (nI i1) = 0 then 1 else (if f_X7_in x2 0 9 = 0 then 2 else (if f_X7_in x3 1 10 = 0 then 2 else 0)) : Int32) = 0 then (if (if f_X7_isHere (g_X7_finds_1 G i1 x2 x3 i9) i1 = 0 then 3 else (if f_X7_isGroundFor (g_X7_finds_1 G i1 x2 x3 i9) i9 x2 = 0 then 3 else (if 12 ≤ nI (gnF G i1) then 3 else 0)) : Int32) ≤ 0 then ((nI (gnF G i1)) + 1) - 1 else 0) else 0
def g_X7_finds (G : GS) (i1 : Nat) (x2 : Int32) (x3 : Int32) (i9 : Nat) : GS := if (if f_X7_isVisit G (nI i1) = 0 then 1 else (if f_X7_in x2 0 9 = 0 then 2 else (if f_X7_in x3 1 10 = 0 then 2 else 0)) : Int32) = 0 then (if (if f_X7_isHere (g_X7_finds_1 G i1 x2 x3 i9) i1 = 0 then 3 else (if f_X7_isGroundFor (g_X7_finds_1 G i1 x2 x3 i9) i9 x2 = 0 then 3 else (if 12 ≤ nI (gnF G i1) then 3 else 0)) : Int32) ≤ 0 then g_X7_finds_6 G i1 x2 x3 i9 else g_X7_finds_2 G i1 x2 x3 i9) else g_X7_finds_1 G i1 x2 x3 i9
def g_X7_finds_n_1 (G : GS) (i1 : Nat) (x2 : Int32) (x3 : Int32) (i9 : Nat) : GS := up2 G 0 0 (if f_X7_isVisit G (nI i1) = 0 then 1 else (if f_X7_in x2 0 9 = 0 then 2 else (if f_X7_in x3 1 10 = 0 then 2 else 0)))
theorem e_g_X7_finds_n_1 (G : GS) (i1 : Nat) (x2 : Int32) (x3 : Int32) (i9 : Nat) {j : Nat} (h : j ∉ [0]) : g_X7_finds_n_1 G i1 x2 x3 i9 j = G j := (up2_ne (fun q => h (by rw [q]; exact List.mem_cons_self))).trans rfl
def g_X7_finds_n_2 (G : GS) (i1 : Nat) (x2 : Int32) (x3 : Int32) (i9 : Nat) : GS := up2 (g_X7_finds_n_1 G i1 x2 x3 i9) 0 0 3
theorem e_g_X7_finds_n_2 (G : GS) (i1 : Nat) (x2 : Int32) (x3 : Int32) (i9 : Nat) {j : Nat} (h : j ∉ [0, 0]) : g_X7_finds_n_2 G i1 x2 x3 i9 j = G j := (up2_ne (fun q => h (by rw [q]; exact List.mem_cons_self))).trans (e_g_X7_finds_n_1 G i1 x2 x3 i9 (fun q => h (List.mem_cons_of_mem _ q)))
def f_X7_finds_n (G : GS) (i1 : Nat) (x2 : Int32) (x3 : Int32) (i9 : Nat) : Int32 := if (if f_X7_isVisit G (nI i1) = 0 then 1 else (if f_X7_in x2 0 9 = 0 then 2 else (if f_X7_in x3 1 10 = 0 then 2 else 0)) : Int32) = 0 then 0 else 0
def g_X7_finds_n (G : GS) (i1 : Nat) (x2 : Int32) (x3 : Int32) (i9 : Nat) : GS := if (if f_X7_isVisit G (nI i1) = 0 then 1 else (if f_X7_in x2 0 9 = 0 then 2 else (if f_X7_in x3 1 10 = 0 then 2 else 0)) : Int32) = 0 then g_X7_finds_n_2 G i1 x2 x3 i9 else g_X7_finds_n_1 G i1 x2 x3 i9
def g_X7_finds_b_1 (G : GS) (x1 : Int32) (x2 : Int32) (x3 : Int32) : GS := up2 G 0 0 1
theorem e_g_X7_finds_b_1 (G : GS) (x1 : Int32) (x2 : Int32) (x3 : Int32) {j : Nat} (h : j ∉ [0]) : g_X7_finds_b_1 G x1 x2 x3 j = G j := (up2_ne (fun q => h (by rw [q]; exact List.mem_cons_self))).trans rfl
def f_X7_finds_b (G : GS) (x1 : Int32) (x2 : Int32) (x3 : Int32) : Int32 := 0
def g_X7_finds_b (G : GS) (x1 : Int32) (x2 : Int32) (x3 : Int32) : GS := g_X7_finds_b_1 G x1 x2 x3
def g_X7_mends_1 (G : GS) (i1 : Nat) (i2 : Nat) (x3 : Int32) : GS := up2 G 0 0 (if f_X7_isVisit G (nI i1) = 0 then 1 else (if f_X7_in (nI i2) 0 ((G 35 i1) - 1) = 0 then 1 else 0))
theorem e_g_X7_mends_1 (G : GS) (i1 : Nat) (i2 : Nat) (x3 : Int32) {j : Nat} (h : j ∉ [0]) : g_X7_mends_1 G i1 i2 x3 j = G j := (up2_ne (fun q => h (by rw [q]; exact List.mem_cons_self))).trans rfl
def v_X7_mends_88 (G : GS) (i1 : Nat) (i2 : Nat) (x3 : Int32) : Int32 := if x3 = 0 then 0 else (if G 37 ((12 * i1) + i2) = 2 then 1 else (if 8 ≤ G 36 ((12 * i1) + i2) then 1 else (if f_X7_isHere (g_X7_mends_1 G i1 i2 x3) i1 = 0 then 1 else 0)))
theorem nz_v_X7_mends_88 (G : GS) (i1 : Nat) (i2 : Nat) (x3 : Int32) : nz (v_X7_mends_88 G i1 i2 x3) := (nz_ite nz0 (nz_ite nz1 (nz_ite nz1 (nz_ite nz1 nz0))))
def g_X7_mends_2 (G : GS) (i1 : Nat) (i2 : Nat) (x3 : Int32) : GS := up2 (g_X7_mends_1 G i1 i2 x3) 0 0 (if G 37 ((12 * i1) + i2) = 1 then 2 else (if v_X7_mends_88 G i1 i2 x3 = 0 then 0 else 2))
theorem e_g_X7_mends_2 (G : GS) (i1 : Nat) (i2 : Nat) (x3 : Int32) {j : Nat} (h : j ∉ [0, 0]) : g_X7_mends_2 G i1 i2 x3 j = G j := (up2_ne (fun q => h (by rw [q]; exact List.mem_cons_self))).trans (e_g_X7_mends_1 G i1 i2 x3 (fun q => h (List.mem_cons_of_mem _ q)))
def g_X7_mends_3 (G : GS) (i1 : Nat) (i2 : Nat) (x3 : Int32) : GS := up2 (g_X7_mends_2 G i1 i2 x3) 37 ((12 * i1) + i2) (if x3 = 0 then 1 else 2)
theorem e_g_X7_mends_3 (G : GS) (i1 : Nat) (i2 : Nat) (x3 : Int32) {j : Nat} (h : j ∉ [37, 0, 0]) : g_X7_mends_3 G i1 i2 x3 j = G j := (up2_ne (fun q => h (by rw [q]; exact List.mem_cons_self))).trans (e_g_X7_mends_2 G i1 i2 x3 (fun q => h (List.mem_cons_of_mem _ q)))
def f_X7_mends (G : GS) (i1 : Nat) (i2 : Nat) (x3 : Int32) : Int32 := if (if f_X7_isVisit G (nI i1) = 0 then 1 else (if f_X7_in (nI i2) 0 ((G 35 i1) - 1) = 0 then 1 else 0) : Int32) = 0 then (if (if G 37 ((12 * i1) + i2) = 1 then 2 else (if v_X7_mends_88 G i1 i2 x3 = 0 then 0 else 2) : Int32) ≤ 0 then f_X7_openOf (g_X7_mends_3 G i1 i2 x3) i1 else 0) else 0
def g_X7_mends (G : GS) (i1 : Nat) (i2 : Nat) (x3 : Int32) : GS := if (if f_X7_isVisit G (nI i1) = 0 then 1 else (if f_X7_in (nI i2) 0 ((G 35 i1) - 1) = 0 then 1 else 0) : Int32) = 0 then (if (if G 37 ((12 * i1) + i2) = 1 then 2 else (if v_X7_mends_88 G i1 i2 x3 = 0 then 0 else 2) : Int32) ≤ 0 then g_X7_mends_3 G i1 i2 x3 else g_X7_mends_2 G i1 i2 x3) else g_X7_mends_1 G i1 i2 x3
def g_X7_mends_f_1 (G : GS) (i1 : Nat) (x2 : Int32) (x3 : Int32) : GS := up2 G 0 0 1
theorem e_g_X7_mends_f_1 (G : GS) (i1 : Nat) (x2 : Int32) (x3 : Int32) {j : Nat} (h : j ∉ [0]) : g_X7_mends_f_1 G i1 x2 x3 j = G j := (up2_ne (fun q => h (by rw [q]; exact List.mem_cons_self))).trans rfl
def f_X7_mends_f (G : GS) (i1 : Nat) (x2 : Int32) (x3 : Int32) : Int32 := 0
def g_X7_mends_f (G : GS) (i1 : Nat) (x2 : Int32) (x3 : Int32) : GS := g_X7_mends_f_1 G i1 x2 x3
def g_X7_mends_b_1 (G : GS) (x1 : Int32) (x2 : Int32) (x3 : Int32) : GS := up2 G 0 0 1
theorem e_g_X7_mends_b_1 (G : GS) (x1 : Int32) (x2 : Int32) (x3 : Int32) {j : Nat} (h : j ∉ [0]) : g_X7_mends_b_1 G x1 x2 x3 j = G j := (up2_ne (fun q => h (by rw [q]; exact List.mem_cons_self))).trans rfl
def f_X7_mends_b (G : GS) (x1 : Int32) (x2 : Int32) (x3 : Int32) : Int32 := 0
def g_X7_mends_b (G : GS) (x1 : Int32) (x2 : Int32) (x3 : Int32) : GS := g_X7_mends_b_1 G x1 x2 x3
theorem e_g_X7_looksForBan (G : GS) (i1 : Nat) {j : Nat} (h : j ∉ [14, 42]) : g_X7_looksForBan G i1 j = G j := by
  have h1 : j ≠ 14 := fun q => h (by rw [q]; decide)
  have h2 : j ≠ 42 := fun q => h (by rw [q]; decide)
  unfold g_X7_looksForBan
  split
  · exact (up2_ne h1).trans (LG_X7_looksForBan_69_ne G i1 _ j h2)
  · rfl
theorem InvM.oe {G1 G2 : GS} (h : InvM G1) (e : ∀ j, frK j = false → G2 j = G1 j) : InvM G2 := by
  unfold InvM gnS gnR gnV gnF gnT
  rw [e 3 rfl, e 23 rfl, e 29 rfl, e 35 rfl, e 30 rfl, e 8 rfl, e 21 rfl, e 20 rfl, e 2 rfl, e 12 rfl]
  exact h
theorem InvM.lfb {G : GS} (h : InvM G) (i1 : Nat) : InvM (g_X7_looksForBan G i1) := h.oe (fun j hj => e_g_X7_looksForBan G i1 (fun q => by rcases List.mem_cons.mp q with q | q; (rw [q] at hj; cases hj); (rcases List.mem_cons.mp q with q | q; (rw [q] at hj; cases hj); cases q)))
def g_X7_detain_1 (G : GS) (i1 : Nat) (i9 : Nat) : GS := up2 G 0 0 (if f_X7_isVisit G (nI i1) = 0 then 1 else 0)
theorem e_g_X7_detain_1 (G : GS) (i1 : Nat) (i9 : Nat) {j : Nat} (h : j ∉ [0]) : g_X7_detain_1 G i1 i9 j = G j := (up2_ne (fun q => h (by rw [q]; exact List.mem_cons_self))).trans rfl
def v_X7_detain_52 (G : GS) (i1 : Nat) (i9 : Nat) : Int32 := if 10 ≤ f_X7_openWeights (g_X7_detain_1 G i1 i9) i1 then 1 else (if f_X7_lapsedOf (g_X7_detain_1 G i1 i9) i9 = 0 then 0 else 1)
theorem nz_v_X7_detain_52 (G : GS) (i1 : Nat) (i9 : Nat) : nz (v_X7_detain_52 G i1 i9) := (nz_ite nz1 (nz_ite nz0 nz1))
def g_X7_detain_2 (G : GS) (i1 : Nat) (i9 : Nat) : GS := up2 (g_X7_detain_1 G i1 i9) 0 0 (if f_X7_isHere (g_X7_detain_1 G i1 i9) i1 = 0 then 2 else (if G 38 i1 = (-1) then (if v_X7_detain_52 G i1 i9 = 0 then 2 else 0) else 2))
theorem e_g_X7_detain_2 (G : GS) (i1 : Nat) (i9 : Nat) {j : Nat} (h : j ∉ [0, 0]) : g_X7_detain_2 G i1 i9 j = G j := (up2_ne (fun q => h (by rw [q]; exact List.mem_cons_self))).trans (e_g_X7_detain_1 G i1 i9 (fun q => h (List.mem_cons_of_mem _ q)))
def g_X7_detain_3 (G : GS) (i1 : Nat) (i9 : Nat) : GS := up2 (g_X7_detain_2 G i1 i9) 38 i1 (G 1 0)
theorem e_g_X7_detain_3 (G : GS) (i1 : Nat) (i9 : Nat) {j : Nat} (h : j ∉ [38, 0, 0]) : g_X7_detain_3 G i1 i9 j = G j := (up2_ne (fun q => h (by rw [q]; exact List.mem_cons_self))).trans (e_g_X7_detain_2 G i1 i9 (fun q => h (List.mem_cons_of_mem _ q)))
def g_X7_detain_4 (G : GS) (i1 : Nat) (i9 : Nat) : GS := up2 (g_X7_detain_3 G i1 i9) 13 i9 (nI i1)
theorem e_g_X7_detain_4 (G : GS) (i1 : Nat) (i9 : Nat) {j : Nat} (h : j ∉ [13, 38, 0, 0]) : g_X7_detain_4 G i1 i9 j = G j := (up2_ne (fun q => h (by rw [q]; exact List.mem_cons_self))).trans (e_g_X7_detain_3 G i1 i9 (fun q => h (List.mem_cons_of_mem _ q)))
def f_X7_detain (G : GS) (i1 : Nat) (i9 : Nat) : Int32 := if (if f_X7_isVisit G (nI i1) = 0 then 1 else 0 : Int32) = 0 then (if (if f_X7_isHere (g_X7_detain_1 G i1 i9) i1 = 0 then 2 else (if G 38 i1 = (-1) then (if v_X7_detain_52 G i1 i9 = 0 then 2 else 0) else 2) : Int32) ≤ 0 then f_X7_detentionsOf (g_X7_looksForBan (g_X7_detain_4 G i1 i9) i9) i9 else 0) else 0
def g_X7_detain (G : GS) (i1 : Nat) (i9 : Nat) : GS := if (if f_X7_isVisit G (nI i1) = 0 then 1 else 0 : Int32) = 0 then (if (if f_X7_isHere (g_X7_detain_1 G i1 i9) i1 = 0 then 2 else (if G 38 i1 = (-1) then (if v_X7_detain_52 G i1 i9 = 0 then 2 else 0) else 2) : Int32) ≤ 0 then g_X7_looksForBan (g_X7_detain_4 G i1 i9) i9 else g_X7_detain_2 G i1 i9) else g_X7_detain_1 G i1 i9
def g_X7_detain_b_1 (G : GS) (x1 : Int32) : GS := up2 G 0 0 1
theorem e_g_X7_detain_b_1 (G : GS) (x1 : Int32) {j : Nat} (h : j ∉ [0]) : g_X7_detain_b_1 G x1 j = G j := (up2_ne (fun q => h (by rw [q]; exact List.mem_cons_self))).trans rfl
def f_X7_detain_b (G : GS) (x1 : Int32) : Int32 := 0
def g_X7_detain_b (G : GS) (x1 : Int32) : GS := g_X7_detain_b_1 G x1
def g_X7_release_1 (G : GS) (i1 : Nat) (i9 : Nat) : GS := up2 G 0 0 (if f_X7_isShip G (nI i1) = 0 then 1 else (if nI i9 = (-1) then 2 else 0))
theorem e_g_X7_release_1 (G : GS) (i1 : Nat) (i9 : Nat) {j : Nat} (h : j ∉ [0]) : g_X7_release_1 G i1 i9 j = G j := (up2_ne (fun q => h (by rw [q]; exact List.mem_cons_self))).trans rfl
def g_X7_release_2 (G : GS) (i1 : Nat) (i9 : Nat) : GS := up2 (g_X7_release_1 G i1 i9) 0 0 (if 0 < f_X7_openOf (g_X7_release_1 G i1 i9) i9 then 2 else (if f_X7_lapsedOf (g_X7_release_1 G i1 i9) i1 = 0 then 0 else 2))
theorem e_g_X7_release_2 (G : GS) (i1 : Nat) (i9 : Nat) {j : Nat} (h : j ∉ [0, 0]) : g_X7_release_2 G i1 i9 j = G j := (up2_ne (fun q => h (by rw [q]; exact List.mem_cons_self))).trans (e_g_X7_release_1 G i1 i9 (fun q => h (List.mem_cons_of_mem _ q)))
def g_X7_release_3 (G : GS) (i1 : Nat) (i9 : Nat) : GS := up2 (g_X7_release_2 G i1 i9) 17 i1 ((G 17 i1) + (100 * ((G 1 0) - (G 38 i9))))
theorem e_g_X7_release_3 (G : GS) (i1 : Nat) (i9 : Nat) {j : Nat} (h : j ∉ [17, 0, 0]) : g_X7_release_3 G i1 i9 j = G j := (up2_ne (fun q => h (by rw [q]; exact List.mem_cons_self))).trans (e_g_X7_release_2 G i1 i9 (fun q => h (List.mem_cons_of_mem _ q)))
def g_X7_release_4 (G : GS) (i1 : Nat) (i9 : Nat) : GS := up2 (g_X7_release_3 G i1 i9) 13 i1 (-1)
theorem e_g_X7_release_4 (G : GS) (i1 : Nat) (i9 : Nat) {j : Nat} (h : j ∉ [13, 17, 0, 0]) : g_X7_release_4 G i1 i9 j = G j := (up2_ne (fun q => h (by rw [q]; exact List.mem_cons_self))).trans (e_g_X7_release_3 G i1 i9 (fun q => h (List.mem_cons_of_mem _ q)))
def g_X7_release_5 (G : GS) (i1 : Nat) (i9 : Nat) : GS := up2 (g_X7_release_4 G i1 i9) 16 i1 (if G 15 i1 = 0 then (G 1 0) + 90 else (if G 15 i1 = 1 then (G 1 0) + 360 else 100000))
theorem e_g_X7_release_5 (G : GS) (i1 : Nat) (i9 : Nat) {j : Nat} (h : j ∉ [16, 13, 17, 0, 0]) : g_X7_release_5 G i1 i9 j = G j := (up2_ne (fun q => h (by rw [q]; exact List.mem_cons_self))).trans (e_g_X7_release_4 G i1 i9 (fun q => h (List.mem_cons_of_mem _ q)))
def g_X7_release_6 (G : GS) (i1 : Nat) (i9 : Nat) : GS := up2 (g_X7_release_5 G i1 i9) 15 i1 ((G 15 i1) + 1)
theorem e_g_X7_release_6 (G : GS) (i1 : Nat) (i9 : Nat) {j : Nat} (h : j ∉ [15, 16, 13, 17, 0, 0]) : g_X7_release_6 G i1 i9 j = G j := (up2_ne (fun q => h (by rw [q]; exact List.mem_cons_self))).trans (e_g_X7_release_5 G i1 i9 (fun q => h (List.mem_cons_of_mem _ q)))
def g_X7_release_7 (G : GS) (i1 : Nat) (i9 : Nat) : GS := up2 (g_X7_release_6 G i1 i9) 14 i1 0
theorem e_g_X7_release_7 (G : GS) (i1 : Nat) (i9 : Nat) {j : Nat} (h : j ∉ [14, 15, 16, 13, 17, 0, 0]) : g_X7_release_7 G i1 i9 j = G j := (up2_ne (fun q => h (by rw [q]; exact List.mem_cons_self))).trans (e_g_X7_release_6 G i1 i9 (fun q => h (List.mem_cons_of_mem _ q)))
def f_X7_release (G : GS) (i1 : Nat) (i9 : Nat) : Int32 := if (if f_X7_isShip G (nI i1) = 0 then 1 else (if nI i9 = (-1) then 2 else 0) : Int32) = 0 then (if (if 0 < f_X7_openOf (g_X7_release_1 G i1 i9) i9 then 2 else (if f_X7_lapsedOf (g_X7_release_1 G i1 i9) i1 = 0 then 0 else 2) : Int32) ≤ 0 then (if G 14 i1 = 0 then 100 * ((G 1 0) - (G 38 i9)) else 100 * ((G 1 0) - (G 38 i9))) else 0) else 0
def g_X7_release (G : GS) (i1 : Nat) (i9 : Nat) : GS := if (if f_X7_isShip G (nI i1) = 0 then 1 else (if nI i9 = (-1) then 2 else 0) : Int32) = 0 then (if (if 0 < f_X7_openOf (g_X7_release_1 G i1 i9) i9 then 2 else (if f_X7_lapsedOf (g_X7_release_1 G i1 i9) i1 = 0 then 0 else 2) : Int32) ≤ 0 then (if G 14 i1 = 0 then g_X7_release_4 G i1 i9 else g_X7_release_7 G i1 i9) else g_X7_release_2 G i1 i9) else g_X7_release_1 G i1 i9
def g_X7_release_n_1 (G : GS) (i1 : Nat) : GS := up2 G 0 0 (if f_X7_isShip G (nI i1) = 0 then 1 else 2)
theorem e_g_X7_release_n_1 (G : GS) (i1 : Nat) {j : Nat} (h : j ∉ [0]) : g_X7_release_n_1 G i1 j = G j := (up2_ne (fun q => h (by rw [q]; exact List.mem_cons_self))).trans rfl
def f_X7_release_n (G : GS) (i1 : Nat) : Int32 := 0
def g_X7_release_n (G : GS) (i1 : Nat) : GS := g_X7_release_n_1 G i1
def g_X7_release_b_1 (G : GS) (x1 : Int32) : GS := up2 G 0 0 1
theorem e_g_X7_release_b_1 (G : GS) (x1 : Int32) {j : Nat} (h : j ∉ [0]) : g_X7_release_b_1 G x1 j = G j := (up2_ne (fun q => h (by rw [q]; exact List.mem_cons_self))).trans rfl
def f_X7_release_b (G : GS) (x1 : Int32) : Int32 := 0
def g_X7_release_b (G : GS) (x1 : Int32) : GS := g_X7_release_b_1 G x1
def g_X7_appeal_1 (G : GS) (i1 : Nat) : GS := up2 G 0 0 (if f_X7_isVisit G (nI i1) = 0 then 1 else 0)
theorem e_g_X7_appeal_1 (G : GS) (i1 : Nat) {j : Nat} (h : j ∉ [0]) : g_X7_appeal_1 G i1 j = G j := (up2_ne (fun q => h (by rw [q]; exact List.mem_cons_self))).trans rfl
def v_X7_appeal_64 (G : GS) (i1 : Nat) : Int32 := if G 38 i1 = (-1) then 0 else (if G 39 i1 = 0 then (if 30 < (G 1 0) - (G 38 i1) then 0 else 1) else 0)
theorem nz_v_X7_appeal_64 (G : GS) (i1 : Nat) : nz (v_X7_appeal_64 G i1) := (nz_ite nz0 (nz_ite (nz_ite nz0 nz1) nz0))
def g_X7_appeal_2 (G : GS) (i1 : Nat) : GS := up2 (g_X7_appeal_1 G i1) 0 0 (if v_X7_appeal_64 G i1 = 0 then 2 else 0)
theorem e_g_X7_appeal_2 (G : GS) (i1 : Nat) {j : Nat} (h : j ∉ [0, 0]) : g_X7_appeal_2 G i1 j = G j := (up2_ne (fun q => h (by rw [q]; exact List.mem_cons_self))).trans (e_g_X7_appeal_1 G i1 (fun q => h (List.mem_cons_of_mem _ q)))
def g_X7_appeal_3 (G : GS) (i1 : Nat) : GS := up2 (g_X7_appeal_1 G i1) 39 i1 1
theorem e_g_X7_appeal_3 (G : GS) (i1 : Nat) {j : Nat} (h : j ∉ [39, 0]) : g_X7_appeal_3 G i1 j = G j := (up2_ne (fun q => h (by rw [q]; exact List.mem_cons_self))).trans (e_g_X7_appeal_1 G i1 (fun q => h (List.mem_cons_of_mem _ q)))
def g_X7_appeal_4 (G : GS) (i1 : Nat) : GS := up2 (g_X7_appeal_2 G i1) 39 i1 1
theorem e_g_X7_appeal_4 (G : GS) (i1 : Nat) {j : Nat} (h : j ∉ [39, 0, 0]) : g_X7_appeal_4 G i1 j = G j := (up2_ne (fun q => h (by rw [q]; exact List.mem_cons_self))).trans (e_g_X7_appeal_2 G i1 (fun q => h (List.mem_cons_of_mem _ q)))
def g_X7_appeal (G : GS) (i1 : Nat) : GS := if (if f_X7_isVisit G (nI i1) = 0 then 1 else 0 : Int32) = 0 then (if (if v_X7_appeal_64 G i1 = 0 then 2 else 0 : Int32) = 0 then g_X7_appeal_4 G i1 else g_X7_appeal_2 G i1) else (if (if f_X7_isVisit G (nI i1) = 0 then 1 else 0 : Int32) = 0 then g_X7_appeal_3 G i1 else g_X7_appeal_1 G i1)
def g_X7_appeal_b_1 (G : GS) (x1 : Int32) : GS := up2 G 0 0 1
theorem e_g_X7_appeal_b_1 (G : GS) (x1 : Int32) {j : Nat} (h : j ∉ [0]) : g_X7_appeal_b_1 G x1 j = G j := (up2_ne (fun q => h (by rw [q]; exact List.mem_cons_self))).trans rfl
def g_X7_appeal_b (G : GS) (x1 : Int32) : GS := g_X7_appeal_b_1 G x1
def g_X7_vote_1 (G : GS) (i1 : Nat) (x2 : Int32) : GS := up2 G 0 0 (if f_X7_isVisit G (nI i1) = 0 then 1 else (if G 39 i1 = 0 then 2 else (if f_X7_decided G i1 = 0 then 0 else 2)))
theorem e_g_X7_vote_1 (G : GS) (i1 : Nat) (x2 : Int32) {j : Nat} (h : j ∉ [0]) : g_X7_vote_1 G i1 x2 j = G j := (up2_ne (fun q => h (by rw [q]; exact List.mem_cons_self))).trans rfl
def g_X7_vote_2 (G : GS) (i1 : Nat) (x2 : Int32) : GS := up2 (g_X7_vote_1 G i1 x2) 40 i1 ((G 40 i1) + (if x2 = 0 then 0 else 1))
theorem e_g_X7_vote_2 (G : GS) (i1 : Nat) (x2 : Int32) {j : Nat} (h : j ∉ [40, 0]) : g_X7_vote_2 G i1 x2 j = G j := (up2_ne (fun q => h (by rw [q]; exact List.mem_cons_self))).trans (e_g_X7_vote_1 G i1 x2 (fun q => h (List.mem_cons_of_mem _ q)))
def g_X7_vote_3 (G : GS) (i1 : Nat) (x2 : Int32) : GS := up2 (g_X7_vote_2 G i1 x2) 41 i1 ((G 41 i1) + (if x2 = 0 then 1 else 0))
theorem e_g_X7_vote_3 (G : GS) (i1 : Nat) (x2 : Int32) {j : Nat} (h : j ∉ [41, 40, 0]) : g_X7_vote_3 G i1 x2 j = G j := (up2_ne (fun q => h (by rw [q]; exact List.mem_cons_self))).trans (e_g_X7_vote_2 G i1 x2 (fun q => h (List.mem_cons_of_mem _ q)))
def f_X7_vote (G : GS) (i1 : Nat) (x2 : Int32) : Int32 := if (if f_X7_isVisit G (nI i1) = 0 then 1 else (if G 39 i1 = 0 then 2 else (if f_X7_decided G i1 = 0 then 0 else 2)) : Int32) ≤ 0 then f_X7_decided (g_X7_vote_3 G i1 x2) i1 else 0
def g_X7_vote (G : GS) (i1 : Nat) (x2 : Int32) : GS := if (if f_X7_isVisit G (nI i1) = 0 then 1 else (if G 39 i1 = 0 then 2 else (if f_X7_decided G i1 = 0 then 0 else 2)) : Int32) ≤ 0 then g_X7_vote_3 G i1 x2 else g_X7_vote_1 G i1 x2
def g_X7_vote_b_1 (G : GS) (x1 : Int32) (x2 : Int32) : GS := up2 G 0 0 1
theorem e_g_X7_vote_b_1 (G : GS) (x1 : Int32) (x2 : Int32) {j : Nat} (h : j ∉ [0]) : g_X7_vote_b_1 G x1 x2 j = G j := (up2_ne (fun q => h (by rw [q]; exact List.mem_cons_self))).trans rfl
def f_X7_vote_b (G : GS) (x1 : Int32) (x2 : Int32) : Int32 := 0
def g_X7_vote_b (G : GS) (x1 : Int32) (x2 : Int32) : GS := g_X7_vote_b_1 G x1 x2
def g_X7_ofShip_1 (G : GS) (i1 : Nat) (x2 : Int32) : GS := up2 G 0 0 (if f_X7_isShip G (nI i1) = 0 then 1 else (if f_X7_in x2 0 7 = 0 then 2 else 0))
theorem e_g_X7_ofShip_1 (G : GS) (i1 : Nat) (x2 : Int32) {j : Nat} (h : j ∉ [0]) : g_X7_ofShip_1 G i1 x2 j = G j := (up2_ne (fun q => h (by rw [q]; exact List.mem_cons_self))).trans rfl
def f_X7_ofShip (G : GS) (i1 : Nat) (x2 : Int32) : Int32 := if (if f_X7_isShip G (nI i1) = 0 then 1 else (if f_X7_in x2 0 7 = 0 then 2 else 0) : Int32) ≤ 0 then (if x2 = 0 then f_X7_pointsOf (g_X7_ofShip_1 G i1 x2) i1 else (if x2 = 1 then f_X7_riskOf (g_X7_ofShip_1 G i1 x2) i1 else (if x2 = 2 then f_X7_priorityOf (g_X7_ofShip_1 G i1 x2) i1 else (if x2 = 3 then G 10 i1 else (if x2 = 4 then (if G 13 i1 = (-1) then 0 else 1) else (if x2 = 5 then (if f_X7_isBanned (g_X7_ofShip_1 G i1 x2) i1 = 0 then 0 else 1) else (if x2 = 6 then G 17 i1 else f_X7_lapsedOf (g_X7_ofShip_1 G i1 x2) i1))))))) else 0
def g_X7_ofShip (G : GS) (i1 : Nat) (x2 : Int32) : GS := if (if f_X7_isShip G (nI i1) = 0 then 1 else (if f_X7_in x2 0 7 = 0 then 2 else 0) : Int32) ≤ 0 then (if x2 = 0 then g_X7_ofShip_1 G i1 x2 else (if x2 = 1 then g_X7_ofShip_1 G i1 x2 else (if x2 = 2 then g_X7_ofShip_1 G i1 x2 else (if x2 = 3 then g_X7_ofShip_1 G i1 x2 else (if x2 = 4 then g_X7_ofShip_1 G i1 x2 else (if x2 = 5 then g_X7_ofShip_1 G i1 x2 else (if x2 = 6 then g_X7_ofShip_1 G i1 x2 else g_X7_ofShip_1 G i1 x2))))))) else g_X7_ofShip_1 G i1 x2
def g_X7_ofShip_b_1 (G : GS) (x1 : Int32) (x2 : Int32) : GS := up2 G 0 0 1
theorem e_g_X7_ofShip_b_1 (G : GS) (x1 : Int32) (x2 : Int32) {j : Nat} (h : j ∉ [0]) : g_X7_ofShip_b_1 G x1 x2 j = G j := (up2_ne (fun q => h (by rw [q]; exact List.mem_cons_self))).trans rfl
def f_X7_ofShip_b (G : GS) (x1 : Int32) (x2 : Int32) : Int32 := 0
def g_X7_ofShip_b (G : GS) (x1 : Int32) (x2 : Int32) : GS := g_X7_ofShip_b_1 G x1 x2
def g_X7_pointsAnew_1 (G : GS) (i1 : Nat) : GS := up2 G 0 0 (if f_X7_isShip G (nI i1) = 0 then 1 else 0)
theorem e_g_X7_pointsAnew_1 (G : GS) (i1 : Nat) {j : Nat} (h : j ∉ [0]) : g_X7_pointsAnew_1 G i1 j = G j := (up2_ne (fun q => h (by rw [q]; exact List.mem_cons_self))).trans rfl
def f_X7_pointsAnew (G : GS) (i1 : Nat) : Int32 := if (if f_X7_isShip G (nI i1) = 0 then 1 else 0 : Int32) ≤ 0 then f_X7_pointsOf (g_X7_pointsAnew_1 G i1) i1 else 0
def g_X7_pointsAnew (G : GS) (i1 : Nat) : GS := g_X7_pointsAnew_1 G i1
def g_X7_pointsAnew_b_1 (G : GS) (x1 : Int32) : GS := up2 G 0 0 1
theorem e_g_X7_pointsAnew_b_1 (G : GS) (x1 : Int32) {j : Nat} (h : j ∉ [0]) : g_X7_pointsAnew_b_1 G x1 j = G j := (up2_ne (fun q => h (by rw [q]; exact List.mem_cons_self))).trans rfl
def f_X7_pointsAnew_b (G : GS) (x1 : Int32) : Int32 := 0
def g_X7_pointsAnew_b (G : GS) (x1 : Int32) : GS := g_X7_pointsAnew_b_1 G x1
def g_X7_isGround_1 (G : GS) (i1 : Nat) (x2 : Int32) : GS := up2 G 0 0 (if f_X7_isShip G (nI i1) = 0 then 1 else (if f_X7_in x2 0 9 = 0 then 2 else 0))
theorem e_g_X7_isGround_1 (G : GS) (i1 : Nat) (x2 : Int32) {j : Nat} (h : j ∉ [0]) : g_X7_isGround_1 G i1 x2 j = G j := (up2_ne (fun q => h (by rw [q]; exact List.mem_cons_self))).trans rfl
def f_X7_isGround (G : GS) (i1 : Nat) (x2 : Int32) : Int32 := if (if f_X7_isShip G (nI i1) = 0 then 1 else (if f_X7_in x2 0 9 = 0 then 2 else 0) : Int32) = 0 then (if f_X7_isGroundFor (g_X7_isGround_1 G i1 x2) i1 x2 = 0 then 0 else 1) else 0
theorem nz_f_X7_isGround (G : GS) (i1 : Nat) (x2 : Int32) : nz (f_X7_isGround G i1 x2) := (nz_ite (nz_ite nz0 nz1) nz0)
def g_X7_isGround (G : GS) (i1 : Nat) (x2 : Int32) : GS := g_X7_isGround_1 G i1 x2
def g_X7_isGround_b_1 (G : GS) (x1 : Int32) (x2 : Int32) : GS := up2 G 0 0 1
theorem e_g_X7_isGround_b_1 (G : GS) (x1 : Int32) (x2 : Int32) {j : Nat} (h : j ∉ [0]) : g_X7_isGround_b_1 G x1 x2 j = G j := (up2_ne (fun q => h (by rw [q]; exact List.mem_cons_self))).trans rfl
def f_X7_isGround_b (G : GS) (x1 : Int32) (x2 : Int32) : Int32 := 0
theorem nz_f_X7_isGround_b (G : GS) (x1 : Int32) (x2 : Int32) : nz (f_X7_isGround_b G x1 x2) := nz0
def g_X7_isGround_b (G : GS) (x1 : Int32) (x2 : Int32) : GS := g_X7_isGround_b_1 G x1 x2
def g_X7_ofVisit_1 (G : GS) (i1 : Nat) (x2 : Int32) : GS := up2 G 0 0 (if f_X7_isVisit G (nI i1) = 0 then 1 else (if f_X7_in x2 0 6 = 0 then 2 else 0))
theorem e_g_X7_ofVisit_1 (G : GS) (i1 : Nat) (x2 : Int32) {j : Nat} (h : j ∉ [0]) : g_X7_ofVisit_1 G i1 x2 j = G j := (up2_ne (fun q => h (by rw [q]; exact List.mem_cons_self))).trans rfl
def f_X7_ofVisit (G : GS) (i1 : Nat) (x2 : Int32) : Int32 := if (if f_X7_isVisit G (nI i1) = 0 then 1 else (if f_X7_in x2 0 6 = 0 then 2 else 0) : Int32) ≤ 0 then (if x2 = 0 then G 30 i1 else (if x2 = 1 then G 31 i1 else (if x2 = 2 then G 32 i1 else (if x2 = 3 then G 33 i1 else (if x2 = 4 then G 35 i1 else (if x2 = 5 then f_X7_openOf (g_X7_ofVisit_1 G i1 x2) i1 else if f_X7_counts (g_X7_ofVisit_1 G i1 x2) i1 = 0 then 0 else 1)))))) else 0
def g_X7_ofVisit (G : GS) (i1 : Nat) (x2 : Int32) : GS := if (if f_X7_isVisit G (nI i1) = 0 then 1 else (if f_X7_in x2 0 6 = 0 then 2 else 0) : Int32) ≤ 0 then (if x2 = 0 then g_X7_ofVisit_1 G i1 x2 else (if x2 = 1 then g_X7_ofVisit_1 G i1 x2 else (if x2 = 2 then g_X7_ofVisit_1 G i1 x2 else (if x2 = 3 then g_X7_ofVisit_1 G i1 x2 else (if x2 = 4 then g_X7_ofVisit_1 G i1 x2 else (if x2 = 5 then g_X7_ofVisit_1 G i1 x2 else g_X7_ofVisit_1 G i1 x2)))))) else g_X7_ofVisit_1 G i1 x2
def g_X7_ofVisit_b_1 (G : GS) (x1 : Int32) (x2 : Int32) : GS := up2 G 0 0 1
theorem e_g_X7_ofVisit_b_1 (G : GS) (x1 : Int32) (x2 : Int32) {j : Nat} (h : j ∉ [0]) : g_X7_ofVisit_b_1 G x1 x2 j = G j := (up2_ne (fun q => h (by rw [q]; exact List.mem_cons_self))).trans rfl
def f_X7_ofVisit_b (G : GS) (x1 : Int32) (x2 : Int32) : Int32 := 0
def g_X7_ofVisit_b (G : GS) (x1 : Int32) (x2 : Int32) : GS := g_X7_ofVisit_b_1 G x1 x2
def g_X7_list_1 (G : GS) (x1 : Int32) : GS := up2 G 0 0 (if f_X7_isFlag x1 = 0 then 1 else 0)
theorem e_g_X7_list_1 (G : GS) (x1 : Int32) {j : Nat} (h : j ∉ [0]) : g_X7_list_1 G x1 j = G j := (up2_ne (fun q => h (by rw [q]; exact List.mem_cons_self))).trans rfl
def f_X7_list (G : GS) (x1 : Int32) : Int32 := if (if f_X7_isFlag x1 = 0 then 1 else 0 : Int32) ≤ 0 then f_X7_listOf (g_X7_list_1 G x1) x1 else 0
def g_X7_list (G : GS) (x1 : Int32) : GS := g_X7_list_1 G x1
def g_X7_missed_1 (G : GS) (i1 : Nat) : GS := up2 G 0 0 (if f_X7_isPort (nI i1) = 0 then 1 else 0)
theorem e_g_X7_missed_1 (G : GS) (i1 : Nat) {j : Nat} (h : j ∉ [0]) : g_X7_missed_1 G i1 j = G j := (up2_ne (fun q => h (by rw [q]; exact List.mem_cons_self))).trans rfl
def f_X7_missed (G : GS) (i1 : Nat) : Int32 := if (if f_X7_isPort (nI i1) = 0 then 1 else 0 : Int32) ≤ 0 then G 43 i1 else 0
def g_X7_missed (G : GS) (i1 : Nat) : GS := g_X7_missed_1 G i1
def g_X7_missed_b_1 (G : GS) (x1 : Int32) : GS := up2 G 0 0 1
theorem e_g_X7_missed_b_1 (G : GS) (x1 : Int32) {j : Nat} (h : j ∉ [0]) : g_X7_missed_b_1 G x1 j = G j := (up2_ne (fun q => h (by rw [q]; exact List.mem_cons_self))).trans rfl
def f_X7_missed_b (G : GS) (x1 : Int32) : Int32 := 0
def g_X7_missed_b (G : GS) (x1 : Int32) : GS := g_X7_missed_b_1 G x1
def g_X7_knew_1 (G : GS) (i1 : Nat) (x2 : Int32) (x3 : Int32) : GS := up2 G 0 0 (if f_X7_isShip G (nI i1) = 0 then 1 else (if f_X7_isPort x2 = 0 then 1 else (if f_X7_in x3 0 (G 1 0) = 0 then 2 else 0)))
theorem e_g_X7_knew_1 (G : GS) (i1 : Nat) (x2 : Int32) (x3 : Int32) {j : Nat} (h : j ∉ [0]) : g_X7_knew_1 G i1 x2 x3 j = G j := (up2_ne (fun q => h (by rw [q]; exact List.mem_cons_self))).trans rfl
def v_X7_knew_106 (G : GS) (i1 : Nat) (x2 : Int32) (x3 : Int32) (k46 : Nat) : Int32 := if G 30 k46 = nI i1 then (if x3 < (G 32 k46) + (if G 31 k46 = x2 then 0 else 3) then 0 else 1) else 0
theorem nz_v_X7_knew_106 (G : GS) (i1 : Nat) (x2 : Int32) (x3 : Int32) (k46 : Nat) : nz (v_X7_knew_106 G i1 x2 x3 k46) := (nz_ite (nz_ite nz0 nz1) nz0)
def L_X7_knew_46_4 (G : GS) (i1 : Nat) (x2 : Int32) (x3 : Int32) : Nat → Int32
  | 0 => 0
  | k46 + 1 => (L_X7_knew_46_4 G i1 x2 x3 k46) + (if v_X7_knew_106 G i1 x2 x3 k46 = 0 then 0 else G 35 k46)
def f_X7_knew (G : GS) (i1 : Nat) (x2 : Int32) (x3 : Int32) : Int32 := L_X7_knew_46_4 G i1 x2 x3 (gnV G)
def g_X7_knew (G : GS) (i1 : Nat) (x2 : Int32) (x3 : Int32) : GS := g_X7_knew_1 G i1 x2 x3
def g_X7_knew_t_1 (G : GS) (i1 : Nat) (x2 : Int32) (x3 : Int32) : GS := up2 G 0 0 (if f_X7_isShip G (nI i1) = 0 then 1 else (if f_X7_isPort x2 = 0 then 1 else (if f_X7_in x3 0 (G 1 0) = 0 then 2 else 0)))
theorem e_g_X7_knew_t_1 (G : GS) (i1 : Nat) (x2 : Int32) (x3 : Int32) {j : Nat} (h : j ∉ [0]) : g_X7_knew_t_1 G i1 x2 x3 j = G j := (up2_ne (fun q => h (by rw [q]; exact List.mem_cons_self))).trans rfl
def f_X7_knew_t (G : GS) (i1 : Nat) (x2 : Int32) (x3 : Int32) : Int32 := 0
def g_X7_knew_t (G : GS) (i1 : Nat) (x2 : Int32) (x3 : Int32) : GS := g_X7_knew_t_1 G i1 x2 x3
def g_X7_knew_b_1 (G : GS) (x1 : Int32) (x2 : Int32) (x3 : Int32) : GS := up2 G 0 0 1
theorem e_g_X7_knew_b_1 (G : GS) (x1 : Int32) (x2 : Int32) (x3 : Int32) {j : Nat} (h : j ∉ [0]) : g_X7_knew_b_1 G x1 x2 x3 j = G j := (up2_ne (fun q => h (by rw [q]; exact List.mem_cons_self))).trans rfl
def f_X7_knew_b (G : GS) (x1 : Int32) (x2 : Int32) (x3 : Int32) : Int32 := 0
def g_X7_knew_b (G : GS) (x1 : Int32) (x2 : Int32) (x3 : Int32) : GS := g_X7_knew_b_1 G x1 x2 x3
theorem xin_get {x : Int32} {n : Nat} (hn : n < 2 ^ 31) (h0 : 1 ≤ n) (h : ¬ f_X7_in x 0 (nI n - 1) = 0) : x.toNatClampNeg < n ∧ x = nI x.toNatClampNeg := by
  unfold f_X7_in at h
  split at h
  · exact absurd rfl h
  · split at h
    · exact absurd rfl h
    · rename_i h1 h2
      rw [show (1 : Int32) = nI 1 from rfl, pk_sub h0] at h2
      have a1 : (0 : Int32).toInt ≤ x.toInt := Int32.le_iff_toInt_le.mp (Int32.not_lt.mp h1)
      have a2 : x.toInt ≤ (nI (n - 1)).toInt := Int32.le_iff_toInt_le.mp (Int32.not_lt.mp h2)
      rw [nI_toInt (by omega)] at a2
      have a3 : (0 : Int32).toInt = 0 := by decide
      rw [a3] at a1
      have a4 : x.toNatClampNeg = x.toInt.toNat := rfl
      refine ⟨by omega, Int32.toInt_inj.mp ?_⟩
      rw [nI_toInt (by omega)]
      omega
theorem xin_0 {x : Int32} : f_X7_in x 0 (nI 0 - 1) = 0 := by
  unfold f_X7_in
  by_cases h : x < 0
  · rw [if_pos h]
  · rw [if_neg h, if_pos]
    have a1 : (0 : Int32).toInt ≤ x.toInt := Int32.le_iff_toInt_le.mp (Int32.not_lt.mp h)
    apply Int32.lt_iff_toInt_lt.mpr
    have a2 : (nI 0 - 1).toInt = -1 := by decide
    have a3 : (0 : Int32).toInt = 0 := by decide
    omega
theorem xin_get' {x : Int32} {n : Nat} (hn : n < 2 ^ 31) (h : ¬ f_X7_in x 0 (nI n - 1) = 0) : x.toNatClampNeg < n ∧ x = nI x.toNatClampNeg := by
  rcases Nat.eq_zero_or_pos n with e | e
  · rw [e] at h
    exact absurd xin_0 h
  · exact xin_get hn e h
theorem shp_get {M : GS} {x : Int32} (hI : InvM M) (h : ¬ f_X7_isShip M x = 0) : x.toNatClampNeg < gnS M ∧ x = nI x.toNatClampNeg := by
  have h9 := hI.1
  unfold f_X7_isShip at h
  rw [h9.1] at h
  exact xin_get' (by omega) h
theorem vis_get {M : GS} {x : Int32} (hI : InvM M) (h : ¬ f_X7_isVisit M x = 0) : x.toNatClampNeg < gnV M ∧ x = nI x.toNatClampNeg := by
  have h9 := hI.2.2.1
  unfold f_X7_isVisit at h
  rw [h9.1] at h
  exact xin_get' (by omega) h
def FM_pass (M : GS) (x1 : Int32) : Int32 := f_X7_pass M x1
def HM_pass (M : GS) (x1 : Int32) : GS := g_X7_pass M x1
def FM_ship (M : GS) (x1 x2 x3 x4 x5 : Int32) : Int32 := if M 3 0 = 12 then f_X7_ship_b M x1 x2 x3 x4 x5 else f_X7_ship M x1 x2 x3 x4 x5
def HM_ship (M : GS) (x1 x2 x3 x4 x5 : Int32) : GS := if M 3 0 = 12 then g_X7_ship_b M x1 x2 x3 x4 x5 else g_X7_ship M x1 x2 x3 x4 x5
def FM_changes (M : GS) (x1 x2 x3 : Int32) : Int32 := if f_X7_isShip M x1 = 0 then f_X7_changes_b M x1 x2 x3 else f_X7_changes M x1.toNatClampNeg x2 x3
def HM_changes (M : GS) (x1 x2 x3 : Int32) : GS := if f_X7_isShip M x1 = 0 then g_X7_changes_b M x1 x2 x3 else g_X7_changes M x1.toNatClampNeg x2 x3
def FM_suspend (M : GS) (x1 x2 : Int32) : Int32 := if f_X7_isBody x1 = 0 then f_X7_suspend_b M x1 x2 else f_X7_suspend M x1.toNatClampNeg x2
def HM_suspend (M : GS) (x1 x2 : Int32) : GS := if f_X7_isBody x1 = 0 then g_X7_suspend_b M x1 x2 else g_X7_suspend M x1.toNatClampNeg x2
def FM_rule (M : GS) (x1 x2 x3 x4 x5 : Int32) : Int32 := if M 23 0 = 20 then f_X7_rule_b M x1 x2 x3 x4 x5 else f_X7_rule M x1 x2 x3 x4 x5
def HM_rule (M : GS) (x1 x2 x3 x4 x5 : Int32) : GS := if M 23 0 = 20 then g_X7_rule_b M x1 x2 x3 x4 x5 else g_X7_rule M x1 x2 x3 x4 x5
def FM_issue (M : GS) (x1 x2 x3 : Int32) : Int32 := if f_X7_isShip M x1 = 0 then f_X7_issue_b M x1 x2 x3 else (if f_X7_in x2 0 4 = 0 then f_X7_issue_f M x1.toNatClampNeg x2 x3 else f_X7_issue M x1.toNatClampNeg x2.toNatClampNeg x3)
def HM_issue (M : GS) (x1 x2 x3 : Int32) : GS := if f_X7_isShip M x1 = 0 then g_X7_issue_b M x1 x2 x3 else (if f_X7_in x2 0 4 = 0 then g_X7_issue_f M x1.toNatClampNeg x2 x3 else g_X7_issue M x1.toNatClampNeg x2.toNatClampNeg x3)
def FM_endorse (M : GS) (x1 x2 : Int32) : Int32 := if f_X7_isShip M x1 = 0 then f_X7_endorse_b M x1 x2 else (if f_X7_in x2 0 4 = 0 then f_X7_endorse_f M x1.toNatClampNeg x2 else f_X7_endorse M x1.toNatClampNeg x2.toNatClampNeg)
def HM_endorse (M : GS) (x1 x2 : Int32) : GS := if f_X7_isShip M x1 = 0 then g_X7_endorse_b M x1 x2 else (if f_X7_in x2 0 4 = 0 then g_X7_endorse_f M x1.toNatClampNeg x2 else g_X7_endorse M x1.toNatClampNeg x2.toNatClampNeg)
def FM_calls (M : GS) (x1 x2 : Int32) : Int32 := if f_X7_isShip M x1 = 0 then f_X7_calls_b M x1 x2 else f_X7_calls M x1.toNatClampNeg x2
def HM_calls (M : GS) (x1 x2 : Int32) : GS := if f_X7_isShip M x1 = 0 then g_X7_calls_b M x1 x2 else g_X7_calls M x1.toNatClampNeg x2
def FM_leaves (M : GS) (x1 : Int32) : Int32 := if f_X7_isShip M x1 = 0 then f_X7_leaves_b M x1 else (if M 10 x1.toNatClampNeg = -1 then f_X7_leaves_n M x1.toNatClampNeg else f_X7_leaves M x1.toNatClampNeg (M 10 x1.toNatClampNeg).toNatClampNeg)
def HM_leaves (M : GS) (x1 : Int32) : GS := if f_X7_isShip M x1 = 0 then g_X7_leaves_b M x1 else (if M 10 x1.toNatClampNeg = -1 then g_X7_leaves_n M x1.toNatClampNeg else g_X7_leaves M x1.toNatClampNeg (M 10 x1.toNatClampNeg).toNatClampNeg)
def FM_visit (M : GS) (x1 : Int32) : Int32 := if f_X7_isShip M x1 = 0 then f_X7_visit_b M x1 else (if M 29 0 = 60 then f_X7_visit_n M x1.toNatClampNeg else f_X7_visit M x1.toNatClampNeg)
def HM_visit (M : GS) (x1 : Int32) : GS := if f_X7_isShip M x1 = 0 then g_X7_visit_b M x1 else (if M 29 0 = 60 then g_X7_visit_n M x1.toNatClampNeg else g_X7_visit M x1.toNatClampNeg)
def FM_finds (M : GS) (x1 x2 x3 : Int32) : Int32 := if f_X7_isVisit M x1 = 0 then f_X7_finds_b M x1 x2 x3 else (if M 35 x1.toNatClampNeg = 12 then f_X7_finds_n M x1.toNatClampNeg x2 x3 (M 30 x1.toNatClampNeg).toNatClampNeg else f_X7_finds M x1.toNatClampNeg x2 x3 (M 30 x1.toNatClampNeg).toNatClampNeg)
def HM_finds (M : GS) (x1 x2 x3 : Int32) : GS := if f_X7_isVisit M x1 = 0 then g_X7_finds_b M x1 x2 x3 else (if M 35 x1.toNatClampNeg = 12 then g_X7_finds_n M x1.toNatClampNeg x2 x3 (M 30 x1.toNatClampNeg).toNatClampNeg else g_X7_finds M x1.toNatClampNeg x2 x3 (M 30 x1.toNatClampNeg).toNatClampNeg)
def FM_mends (M : GS) (x1 x2 x3 : Int32) : Int32 := if f_X7_isVisit M x1 = 0 then f_X7_mends_b M x1 x2 x3 else (if f_X7_in x2 0 ((M 35 x1.toNatClampNeg) - 1) = 0 then f_X7_mends_f M x1.toNatClampNeg x2 x3 else f_X7_mends M x1.toNatClampNeg x2.toNatClampNeg x3)
def HM_mends (M : GS) (x1 x2 x3 : Int32) : GS := if f_X7_isVisit M x1 = 0 then g_X7_mends_b M x1 x2 x3 else (if f_X7_in x2 0 ((M 35 x1.toNatClampNeg) - 1) = 0 then g_X7_mends_f M x1.toNatClampNeg x2 x3 else g_X7_mends M x1.toNatClampNeg x2.toNatClampNeg x3)
def FM_detain (M : GS) (x1 : Int32) : Int32 := if f_X7_isVisit M x1 = 0 then f_X7_detain_b M x1 else f_X7_detain M x1.toNatClampNeg (M 30 x1.toNatClampNeg).toNatClampNeg
def HM_detain (M : GS) (x1 : Int32) : GS := if f_X7_isVisit M x1 = 0 then g_X7_detain_b M x1 else g_X7_detain M x1.toNatClampNeg (M 30 x1.toNatClampNeg).toNatClampNeg
def FM_release (M : GS) (x1 : Int32) : Int32 := if f_X7_isShip M x1 = 0 then f_X7_release_b M x1 else (if M 13 x1.toNatClampNeg = -1 then f_X7_release_n M x1.toNatClampNeg else f_X7_release M x1.toNatClampNeg (M 13 x1.toNatClampNeg).toNatClampNeg)
def HM_release (M : GS) (x1 : Int32) : GS := if f_X7_isShip M x1 = 0 then g_X7_release_b M x1 else (if M 13 x1.toNatClampNeg = -1 then g_X7_release_n M x1.toNatClampNeg else g_X7_release M x1.toNatClampNeg (M 13 x1.toNatClampNeg).toNatClampNeg)
def HM_appeal (M : GS) (x1 : Int32) : GS := if f_X7_isVisit M x1 = 0 then g_X7_appeal_b M x1 else g_X7_appeal M x1.toNatClampNeg
def FM_vote (M : GS) (x1 x2 : Int32) : Int32 := if f_X7_isVisit M x1 = 0 then f_X7_vote_b M x1 x2 else f_X7_vote M x1.toNatClampNeg x2
def HM_vote (M : GS) (x1 x2 : Int32) : GS := if f_X7_isVisit M x1 = 0 then g_X7_vote_b M x1 x2 else g_X7_vote M x1.toNatClampNeg x2
def FM_ofShip (M : GS) (x1 x2 : Int32) : Int32 := if f_X7_isShip M x1 = 0 then f_X7_ofShip_b M x1 x2 else f_X7_ofShip M x1.toNatClampNeg x2
def HM_ofShip (M : GS) (x1 x2 : Int32) : GS := if f_X7_isShip M x1 = 0 then g_X7_ofShip_b M x1 x2 else g_X7_ofShip M x1.toNatClampNeg x2
def FM_pointsAnew (M : GS) (x1 : Int32) : Int32 := if f_X7_isShip M x1 = 0 then f_X7_pointsAnew_b M x1 else f_X7_pointsAnew M x1.toNatClampNeg
def HM_pointsAnew (M : GS) (x1 : Int32) : GS := if f_X7_isShip M x1 = 0 then g_X7_pointsAnew_b M x1 else g_X7_pointsAnew M x1.toNatClampNeg
def FM_isGround (M : GS) (x1 x2 : Int32) : Int32 := if f_X7_isShip M x1 = 0 then f_X7_isGround_b M x1 x2 else f_X7_isGround M x1.toNatClampNeg x2
def HM_isGround (M : GS) (x1 x2 : Int32) : GS := if f_X7_isShip M x1 = 0 then g_X7_isGround_b M x1 x2 else g_X7_isGround M x1.toNatClampNeg x2
def FM_ofVisit (M : GS) (x1 x2 : Int32) : Int32 := if f_X7_isVisit M x1 = 0 then f_X7_ofVisit_b M x1 x2 else f_X7_ofVisit M x1.toNatClampNeg x2
def HM_ofVisit (M : GS) (x1 x2 : Int32) : GS := if f_X7_isVisit M x1 = 0 then g_X7_ofVisit_b M x1 x2 else g_X7_ofVisit M x1.toNatClampNeg x2
def FM_list (M : GS) (x1 : Int32) : Int32 := f_X7_list M x1
def HM_list (M : GS) (x1 : Int32) : GS := g_X7_list M x1
def FM_missed (M : GS) (x1 : Int32) : Int32 := if f_X7_isPort x1 = 0 then f_X7_missed_b M x1 else f_X7_missed M x1.toNatClampNeg
def HM_missed (M : GS) (x1 : Int32) : GS := if f_X7_isPort x1 = 0 then g_X7_missed_b M x1 else g_X7_missed M x1.toNatClampNeg
def FM_knew (M : GS) (x1 x2 x3 : Int32) : Int32 := if f_X7_isShip M x1 = 0 then f_X7_knew_b M x1 x2 x3 else (if ¬ (if f_X7_isShip M (nI x1.toNatClampNeg) = 0 then 1 else (if f_X7_isPort x2 = 0 then 1 else (if f_X7_in x3 0 (M 1 0) = 0 then 2 else 0)) : Int32) = 0 then f_X7_knew_t M x1.toNatClampNeg x2 x3 else f_X7_knew M x1.toNatClampNeg x2 x3)
def HM_knew (M : GS) (x1 x2 x3 : Int32) : GS := if f_X7_isShip M x1 = 0 then g_X7_knew_b M x1 x2 x3 else (if ¬ (if f_X7_isShip M (nI x1.toNatClampNeg) = 0 then 1 else (if f_X7_isPort x2 = 0 then 1 else (if f_X7_in x3 0 (M 1 0) = 0 then 2 else 0)) : Int32) = 0 then g_X7_knew_t M x1.toNatClampNeg x2 x3 else g_X7_knew M x1.toNatClampNeg x2 x3)
