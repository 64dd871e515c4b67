/-! what the program's reading calls answer, in the law's own words -/
theorem hr_ofShip (G : GS) (x1 x2 : Int32) : H_ofShip G x1 x2 = G := by unfold H_ofShip g_X6_ofShip; (repeat' split) <;> rfl
theorem hr_ofVisit (G : GS) (x1 x2 : Int32) : H_ofVisit G x1 x2 = G := by unfold H_ofVisit g_X6_ofVisit; (repeat' split) <;> rfl
theorem hr_pointsAnew (G : GS) (x1 : Int32) : H_pointsAnew G x1 = G := by unfold H_pointsAnew g_X6_pointsAnew; (repeat' split) <;> rfl
theorem hr_isGround (G : GS) (x1 x2 : Int32) : H_isGround G x1 x2 = G := by unfold H_isGround g_X6_isGround; (repeat' split) <;> rfl
theorem hr_list (G : GS) (x1 : Int32) : H_list G x1 = G := by unfold H_list g_X6_list; (repeat' split) <;> rfl
theorem hr_missed (G : GS) (x1 : Int32) : H_missed G x1 = G := by unfold H_missed g_X6_missed; (repeat' split) <;> rfl
theorem hr_knew (G : GS) (x1 x2 x3 : Int32) : H_knew G x1 x2 x3 = G := by unfold H_knew g_X6_knew; (repeat' split) <;> rfl
theorem low_ok (x : Int32) {n : Nat} (h0 : 0 < n) (hn : n < 2 ^ 31) : ∃ a, a < n ∧ f_L_low x (nI n) = nI a := by
  obtain ⟨q, hq, e⟩ : ∃ q, q < 2 ^ 31 ∧ (x.toUInt32 >>> ((1 : Int32).toUInt32 &&& Int32.toUInt32 31)).toInt32 = nI q := by
    obtain ⟨z, z1, z2⟩ := wb_of32 x
    refine ⟨z / 2 ^ 1, by omega, ?_⟩
    rw [z2]
    exact pk_ushrN z1 1 1 (by decide)
  refine ⟨q % n, Nat.mod_lt _ h0, ?_⟩
  unfold f_L_low
  rw [e]
  exact pk_rem hq h0 hn
section AN
variable {n : Nat} {G M S : GS} {Wf : Nat → Int64}
theorem an_os (h : R26 n G M S Wf) {s : Nat} (hs : s < gnS M) (x : Int32) (hx : ¬ f_X6_isIndex x 8 = 0) : A_ofShip G (nI s) x = f_X6_ofShip G s x := by
  obtain ⟨k1, k2, k3⟩ := kA_ofShip h.r.ic (by rw [← h.r.S]; exact hs) x
  have hx0 : x_X6_ofShip G s x = 0 := by
    unfold x_X6_ofShip
    rw [if_neg hx]
    (repeat' split) <;> rfl
  unfold A_ofShip
  rw [k1, k2, hx0]
  rfl
theorem an_os0 (h : R26 n G M S Wf) {s : Nat} (hs : s < gnS M) : A_ofShip G (nI s) 0 = f_L_points S s := by
  rw [an_os h hs 0 (by decide), (vl_pts h hs).1, v_pts h.r]
  unfold f_X6_ofShip
  rw [if_neg (by decide), if_pos rfl]
theorem an_os1 (h : R26 n G M S Wf) {s : Nat} (hs : s < gnS M) : A_ofShip G (nI s) 1 = f_L_risk S s := by
  rw [an_os h hs 1 (by decide), vl_rsk h hs, v_rsk h.r]
  unfold f_X6_ofShip
  rw [if_neg (by decide), if_neg (by decide), if_pos rfl]
theorem an_os2 (h : R26 n G M S Wf) {s : Nat} (hs : s < gnS M) : A_ofShip G (nI s) 2 = f_L_priority S s := by
  rw [an_os h hs 2 (by decide), vl_pri h hs, v_pri h.r]
  unfold f_X6_ofShip
  rw [if_neg (by decide), if_neg (by decide), if_neg (by decide), if_pos rfl]
theorem an_os3 (h : R26 n G M S Wf) {s : Nat} (hs : s < gnS M) : A_ofShip G (nI s) 3 = S 2 ((14 * s) + 6) := by
  rw [an_os h hs 3 (by decide), h.x6 hs, h.r.q 10]
  unfold f_X6_ofShip
  rw [if_neg (by decide), if_neg (by decide), if_neg (by decide), if_neg (by decide), if_pos rfl]
theorem an_os4 (h : R26 n G M S Wf) {s : Nat} (hs : s < gnS M) : A_ofShip G (nI s) 4 = if S 2 ((14 * s) + 9) = (-1) then 0 else 1 := by
  rw [an_os h hs 4 (by decide), h.x9 hs, h.r.q 13]
  unfold f_X6_ofShip
  rw [if_neg (by decide), if_neg (by decide), if_neg (by decide), if_neg (by decide), if_neg (by decide), if_pos rfl]
theorem ban_e (h : R26 n G M S Wf) {s : Nat} (hs : s < gnS M) : (S 2 (14 * s + 12) < S 10 0) ↔ f_X7_isBanned M s = 0 := by
  unfold f_X7_isBanned
  obtain ⟨t, t1, t2⟩ := h.td
  have e : (S 2 (14 * s + 12) < S 10 0) ↔ (M 16 s < M 1 0) := by
    rw [h.g0]
    rcases h.x12 hs with q | ⟨q1, q2⟩
    · rw [q]
    · rw [q1, q2, t2]
      constructor
      · intro q
        have := (nI_ltI (a := 99999) (by decide) (by omega)).mp q
        omega
      · intro q
        have := (nI_ltI (a := 100000) (by decide) (by omega)).mp q
        omega
  rw [e]
  by_cases c : M 16 s < M 1 0
  · rw [if_pos c]; exact ⟨fun _ => rfl, fun _ => c⟩
  · rw [if_neg c]; exact ⟨fun q => absurd q c, fun q => absurd q (by decide)⟩
theorem an_os5 (h : R26 n G M S Wf) {s : Nat} (hs : s < gnS M) : A_ofShip G (nI s) 5 = if S 2 ((14 * s) + 12) < S 10 0 then 0 else 1 := by
  have e := ban_e h hs
  rw [v_ban h.r] at e
  rw [an_os h hs 5 (by decide)]
  unfold f_X6_ofShip
  rw [if_neg (by decide), if_neg (by decide), if_neg (by decide), if_neg (by decide), if_neg (by decide), if_neg (by decide), if_pos rfl]
  by_cases c : f_X6_isBanned G s = 0
  · rw [if_pos c, if_pos (e.mpr c)]
  · rw [if_neg c, if_neg (fun q => c (e.mp q))]
theorem an_os6 (h : R26 n G M S Wf) {s : Nat} (hs : s < gnS M) : A_ofShip G (nI s) 6 = S 2 ((14 * s) + 13) := by
  rw [an_os h hs 6 (by decide), h.x13 (Nat.lt_of_lt_of_le hs h.b.1), h.r.q 17]
  unfold f_X6_ofShip
  rw [if_neg (by decide), if_neg (by decide), if_neg (by decide), if_neg (by decide), if_neg (by decide), if_neg (by decide), if_neg (by decide), if_pos rfl]
theorem an_os7 (h : R26 n G M S Wf) {s : Nat} (hs : s < gnS M) : A_ofShip G (nI s) 7 = f_L_lapsed S s := by
  rw [an_os h hs 7 (by decide), vl_lap h (Nat.lt_of_lt_of_le hs h.b.1), v_fam h.r]
  unfold f_X6_ofShip
  rw [if_neg (by decide), if_neg (by decide), if_neg (by decide), if_neg (by decide), if_neg (by decide), if_neg (by decide), if_neg (by decide), if_neg (by decide)]
theorem an_ov (h : R26 n G M S Wf) {v : Nat} (hv : v < gnV M) (x : Int32) (hx : ¬ f_X6_isIndex x 7 = 0) : A_ofVisit G (nI v) x = f_X6_ofVisit G v x := by
  obtain ⟨k1, k2, k3⟩ := kA_ofVisit h.r.ic (by rw [← h.r.V]; exact hv) x
  have hx0 : x_X6_ofVisit G v x = 0 := by
    unfold x_X6_ofVisit
    rw [if_neg hx]
    (repeat' split) <;> rfl
  unfold A_ofVisit
  rw [k1, k2, hx0]
  rfl
theorem an_ov0 (h : R26 n G M S Wf) {v : Nat} (hv : v < gnV M) : A_ofVisit G (nI v) 0 = (S 5 v) &&& 3 := by
  rw [an_ov h hv 0 (by decide), (h.a v hv).g.1, (gno h.r (by rw [← h.r.V]; exact hv)).1]
  unfold f_X6_ofVisit
  rw [if_neg (by decide), if_pos rfl]
theorem an_ov1 (h : R26 n G M S Wf) {v : Nat} (hv : v < gnV M) : A_ofVisit G (nI v) 1 = ((S 5 v) >>> (2 &&& 31)) &&& 3 := by
  rw [an_ov h hv 1 (by decide), (h.a v hv).g.2.1, h.r.q 31]
  unfold f_X6_ofVisit
  rw [if_neg (by decide), if_neg (by decide), if_pos rfl]
theorem an_ov2 (h : R26 n G M S Wf) {v : Nat} (hv : v < gnV M) : A_ofVisit G (nI v) 2 = S 6 v := by
  rw [an_ov h hv 2 (by decide), (h.d v hv).1, h.r.q 32]
  unfold f_X6_ofVisit
  rw [if_neg (by decide), if_neg (by decide), if_neg (by decide), if_pos rfl]
theorem an_ov3 (h : R26 n G M S Wf) {v : Nat} (hv : v < gnV M) : A_ofVisit G (nI v) 3 = ((S 5 v) >>> (4 &&& 31)) &&& 3 := by
  rw [an_ov h hv 3 (by decide), (h.a v hv).g.2.2.1, h.r.q 33]
  unfold f_X6_ofVisit
  rw [if_neg (by decide), if_neg (by decide), if_neg (by decide), if_neg (by decide), if_pos rfl]
theorem an_ov4 (h : R26 n G M S Wf) {v : Nat} (hv : v < gnV M) : A_ofVisit G (nI v) 4 = f_L_findings (S 5 v) := by
  rw [an_ov h hv 4 (by decide), vl_fnd h hv, (h.fc hv).1, h.r.F]
  unfold f_X6_ofVisit
  rw [if_neg (by decide), if_neg (by decide), if_neg (by decide), if_neg (by decide), if_neg (by decide), if_pos rfl]
theorem an_ov5 (h : R26 n G M S Wf) {v : Nat} (hv : v < gnV M) : A_ofVisit G (nI v) 5 = f_L_open S Wf v 0 := by
  rw [an_ov h hv 5 (by decide), vl_op0 h hv, v_opf h.r]
  unfold f_X6_ofVisit
  rw [if_neg (by decide), if_neg (by decide), if_neg (by decide), if_neg (by decide), if_neg (by decide), if_neg (by decide), if_pos rfl]
theorem an_ov6 (h : R26 n G M S Wf) {v : Nat} (hv : v < gnV M) : A_ofVisit G (nI v) 6 = if f_L_counts S v = 0 then 0 else 1 := by
  rw [an_ov h hv 6 (by decide), vl_cnt h hv, v_cnt h.r]
  unfold f_X6_ofVisit
  rw [if_neg (by decide), if_neg (by decide), if_neg (by decide), if_neg (by decide), if_neg (by decide), if_neg (by decide), if_neg (by decide)]
theorem an_ovx (h : R26 n G M S Wf) : A_ofVisit G (S 10 2) 0 = -7100 := by
  have hK : K_ofVisit G (S 10 2) 0 = 3 := by
    unfold K_ofVisit
    rw [h.g2, h.nV, h.r.V, if_pos]
    unfold f_X6_isIndex
    rw [if_neg (nI_pos (by have := h.r.ic.v.2.1; omega)), if_pos (Int32.le_refl _)]
  unfold A_ofVisit
  rw [hK]
  rfl
theorem an_pa (h : R26 n G M S Wf) {s : Nat} (hs : s < gnS M) : A_pointsAnew G (nI s) = f_L_points S s := by
  have hs9 : s < gnS G := by rw [← h.r.S]; exact hs
  obtain ⟨k1, k2, k3⟩ := kA_pointsAnew h.r.ic hs9
  unfold A_pointsAnew
  rw [k1, k2, (vl_pts h hs).1, v_pts h.r, ← v_file h.r hs9]
  rfl
theorem an_gr (h : R26 n G M S Wf) {s x : Nat} (hs : s < gnS M) (hx : x < 10) : A_isGround G (nI s) (nI x) = if f_L_ground S s (nI x) = 0 then 0 else 1 := by
  have hs9 : s < gnS G := by rw [← h.r.S]; exact hs
  obtain ⟨k1, k2, k3⟩ := kA_isGround h.r.ic hs9 (nI x)
  have a : ¬ f_X6_isIndex (nI x) 10 = 0 := isx_nz (n := 10) rfl hx (by decide)
  unfold A_isGround
  rw [k1, k2, vl_gnd h hs, v_gnd h.r]
  unfold x_X6_isGround f_X6_isGround
  rw [if_neg a, if_neg a]
  rfl
theorem an_li (h : R26 n G M S Wf) {x : Nat} (hx : x < 6) : A_list G (nI x) = f_L_listOf S (nI x) := by
  have a : ¬ f_X6_isIndex (nI x) 6 = 0 := isx_nz (n := 6) rfl hx (by decide)
  unfold A_list K_list F_list x_X6_list f_X6_list
  rw [if_neg a, if_neg a, vl_lis h, v_lis h.r]
  rfl
theorem an_mi (h : R26 n G M S Wf) {p : Nat} (hp : p < 4) : A_missed G (nI p) = S 10 (3 + p) := by
  obtain ⟨k1, k2, k3⟩ := kA_missed h.r.ic hp
  unfold A_missed
  rw [k1, k2, h.g.2.2.2.2 p hp, h.r.q 43]
  rfl
theorem an_kn (h : R26 n G M S Wf) {s p d : Nat} (hs : s < gnS M) (hp : p < 4) (hd : nI d ≤ M 1 0) (hd9 : d < 2 ^ 31) : A_knew G (nI s) (nI p) (nI d) = f_X7_knew M s (nI p) (nI d) := by
  have hs9 : s < gnS G := by rw [← h.r.S]; exact hs
  obtain ⟨k1, k2, k3⟩ := kA_knew h.r.ic hs9 (nI p) (nI d)
  have a : ¬ f_X6_isIndex (nI p) 4 = 0 := isx_nz (n := 4) rfl hp (by decide)
  have b : ¬ nI d < 0 := nI_pos hd9
  rw [h.r.q 1] at hd
  unfold A_knew
  rw [k1, k2, v_knew h.r]
  unfold x_X6_knew f_X6_knew
  rw [if_neg a, if_neg b, if_pos hd, if_neg a, if_neg b, if_pos hd]
  rfl
end AN
