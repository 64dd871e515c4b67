/-! the law's cases of one visit, and release -/
theorem inc1 (x : Int32) : (x + 1 = 1 ↔ x = 0) ∧ (x + 1 = 2 ↔ x = 1) := by
  have e := Int32.add_sub_cancel x 1
  refine ⟨⟨fun q => ?_, fun q => by rw [q]; rfl⟩, ⟨fun q => ?_, fun q => by rw [q]; rfl⟩⟩
  · rw [q] at e; exact e.symm
  · rw [q] at e; exact e.symm
section CV
variable {n : Nat} {G M S : GS} {Wf : Nat → Int64}
theorem vi_s (h : R26 n G M S Wf) {v : Nat} (hv : v < gnV M) : ∃ s, s < gnS M ∧ M 30 v = nI s ∧ (S 5 v) &&& 3 = nI s := by
  obtain ⟨a, b⟩ := gno h.r (gV9 h hv)
  exact ⟨gnO G v, by rw [h.r.S]; exact b, a, (h.a v hv).g.1.trans a⟩
theorem fd_no (h : R26 n G M S Wf) {v s x w : Nat} (hv : v < gnV M) (hs : s < gnS M) (e : M 30 v = nI s) (hx : x < 4) (w1 : 1 ≤ w) (w2 : w ≤ 10) (c9 : ¬ S 2 ((14 * s) + 7) = nI v ∨ f_L_ground S s (nI x) = 0 ∨ 12 ≤ nI (gnF M v)) : A_finds G (nI v) (nI x) (nI w) = (-7300) ∧ H_finds G (nI v) (nI x) (nI w) = G := by
  have hb := h.b.1
  refine sp_finds_no h.r (gV9 h hv) e (by omega) (by omega) w1 w2 (fun q => ?_)
  rcases c9 with c | c | c
  · exact c ((h.x7 hs).trans q.1)
  · exact q.2.1 ((vl_gnd h hs _).symm.trans c)
  · have := (nI_leI (a := 12) (by decide) (by omega)).mp c
    omega
theorem fd_ok (h : R26 n G M S Wf) (hn : n < 512) {v s x w : Nat} (hv : v < gnV M) (hs : s < gnS M) (e : M 30 v = nI s) (hx : x < 4) (w1 : 1 ≤ w) (w2 : w ≤ 10) (c1 : S 2 ((14 * s) + 7) = nI v) (c2 : ¬ f_L_ground S s (nI x) = 0) (c3 : ¬ 12 ≤ nI (gnF M v)) : gnF M v < 12 ∧ A_finds G (nI v) (nI x) (nI w) = nI (gnF M v) ∧ R9 (n + 1) (H_finds G (nI v) (nI x) (nI w)) (g_X7_finds_6 M v (nI x) (nI w) s) := by
  have hb := h.b.1
  have hf : gnF M v < 12 := Nat.lt_of_not_le (fun q => c3 (nI_le (a := 12) q (by have := (h.fc hv).2; omega)))
  exact ⟨hf, sp_finds_ok h.r hn (gV9 h hv) e (by omega) (by omega) w1 w2 ((h.x7 hs).symm.trans c1) (fun q => c2 ((vl_gnd h hs _).trans q)) hf⟩
theorem fd_33 (h : R26 n G M S Wf) {v : Nat} (hv : v < gnV M) : (((S 5 v) + 512) >>> (4 &&& 31)) &&& 3 = M 33 v := by
  obtain ⟨s, p, k, f, c, y1, y2, y3, y4, ⟨b1, b2, b3, b4, b5, b6, b7, b8, b9⟩, e1, e2, e3, e4, e5, e6, e7, e8, e9, eA⟩ := h.a v hv
  have hN : aN s p k f c y1 y2 y3 y4 < 2 ^ 20 := by unfold aN; omega
  rw [eA, e3, show nI (aN s p k f c y1 y2 y3 y4) + 512 = nI (aN s p k f c y1 y2 y3 y4 + 512) from nI_add _ 512, pk_shrN (by omega) _ 4 (by decide), pk_andN (by omega) 2 (by decide)]
  congr 1
  unfold aN
  omega
theorem fd_1 (h : R26 n G M S Wf) (hn : n < 512) {v s x w : Nat} (hv : v < gnV M) (hs : s < gnS M) (e : M 30 v = nI s) (hx : x < 4) (w1 : 1 ≤ w) (w2 : w ≤ 10) (c1 : S 2 ((14 * s) + 7) = nI v) (c2 : ¬ f_L_ground S s (nI x) = 0) (c3 : ¬ 12 ≤ nI (gnF M v)) (c9 : ¬ nI (gnF M v) = 2 ∨ ¬ (((S 5 v) + 512) >>> (4 &&& 31)) &&& 3 = 0) : R26 (n + 1) (H_finds G (nI v) (nI x) (nI w)) (g_X7_finds_6 M v (nI x) (nI w) s) (up2 S 5 v ((S 5 v) + 512)) (vp_updL Wf v ((Wf v) ||| ((nI w).toInt64 <<< ((nI (4 * gnF M v)).toInt64 &&& 63)))) := by
  obtain ⟨hf, -, r⟩ := fd_ok h hn hv hs e hx w1 w2 c1 c2 c3
  rw [fd_33 h hv] at c9
  exact st_findsA h hv hf w1 w2 (fun q => by
    rcases c9 with c | c
    · exact c (by rw [q.1]; rfl)
    · exact c q.2) rfl rfl r
theorem fd_2 (h : R26 n G M S Wf) (hn : n < 512) {v s x w : Nat} (hv : v < gnV M) (hs : s < gnS M) (e : M 30 v = nI s) (hx : x < 4) (w1 : 1 ≤ w) (w2 : w ≤ 10) (c1 : S 2 ((14 * s) + 7) = nI v) (c2 : ¬ f_L_ground S s (nI x) = 0) (c3 : ¬ 12 ≤ nI (gnF M v)) (c8 : nI (gnF M v) = 2) (c9 : (((S 5 v) + 512) >>> (4 &&& 31)) &&& 3 = 0) : R26 (n + 1) (H_finds G (nI v) (nI x) (nI w)) (g_X7_finds_6 M v (nI x) (nI w) s) (up2 (up2 S 5 v ((S 5 v) + 512)) 5 v (((S 5 v) + 512) ||| 16)) (vp_updL Wf v ((Wf v) ||| ((nI w).toInt64 <<< ((nI (4 * gnF M v)).toInt64 &&& 63)))) := by
  obtain ⟨hf, -, r⟩ := fd_ok h hn hv hs e hx w1 w2 c1 c2 c3
  rw [fd_33 h hv] at c9
  exact st_findsB h hv w1 w2 ⟨(nI_eq (b := 2) (by omega) (by decide)).mp c8, c9⟩ rfl rfl r
/-! mends -/
theorem md_f (h : R26 n G M S Wf) {v j : Nat} (hv : v < gnV M) (hj : j < gnF M v) : ((S 8 v) >>> ((nI (2 * j)) &&& 31)) &&& 3 = M 37 (12 * v + j) := by
  have hf := h.f v j (Nat.lt_of_lt_of_le hv h.b.2.2) (by have := (h.fc hv).2; omega)
  rw [if_pos (show j < (M 35 v).toNatClampNeg from hj)] at hf
  exact hf
theorem md_w (h : R26 n G M S Wf) {v j : Nat} (hv : v < gnV M) (hj : j < gnF M v) : 0 < lg_cmp (((Wf v) >>> ((nI (4 * j)).toInt64 &&& 63)) &&& (15 : Int64)) (7 : Int64) ↔ 8 ≤ M 36 (12 * v + j) := by
  obtain ⟨N, e1, e2, e3⟩ := h.w v (Nat.lt_of_lt_of_le hv h.b.2.2)
  have h12 := (h.fc hv).2
  have h48 : N < 2 ^ 48 := Nat.lt_of_lt_of_le e2 (by rw [show (2 : Nat) ^ 48 = 16 ^ 12 by decide]; exact Nat.pow_le_pow_right (by decide) h12)
  have h9 := e3 j hj
  have hsh : (((nI (4 * j)).toInt64 &&& 63).toBitVec.smod 64).toNat = 4 * j := by
    rw [wb_c (4 * j) (by omega), wb_tb, wb_sm (4 * j) (by omega)]
    exact Nat.mod_eq_of_lt (by omega)
  rw [e1, pf_shr hsh (by omega), show (15 : Int64) = lN (16 - 1) from rfl, g_mask (s := 4) (p := 16) rfl (by decide) (by have := Nat.div_le_self N (2 ^ (4 * j)); omega)]
  have hp : 2 ^ (4 * j) = 16 ^ j := by rw [Nat.pow_mul]
  rw [hp, h9]
  have hm : N / 16 ^ j % 16 < 16 := Nat.mod_lt _ (by decide)
  exact (by decide +kernel : ∀ z, z < 16 → (0 < lg_cmp (lN z) (7 : Int64) ↔ 8 ≤ nI z)) _ hm
theorem md_no (h : R26 n G M S Wf) {v s j : Nat} {x : Int32} (hv : v < gnV M) (hs : s < gnS M) (e : M 30 v = nI s) (hj : j < gnF M v) (c9 : ((S 8 v) >>> ((nI (2 * j)) &&& 31)) &&& 3 = 1 ∨ (¬ x = 0 ∧ (((S 8 v) >>> ((nI (2 * j)) &&& 31)) &&& 3 = 2 ∨ 0 < lg_cmp (((Wf v) >>> ((nI (4 * j)).toInt64 &&& 63)) &&& (15 : Int64)) (7 : Int64) ∨ ¬ S 2 ((14 * s) + 7) = nI v))) : A_mends G (nI v) (nI j) x = (-7300) ∧ H_mends G (nI v) (nI j) x = G := by
  have hb := h.b.1
  rw [md_f h hv hj, md_w h hv hj, h.x7 hs] at c9
  exact sp_mends_no h.r (gV9 h hv) e (by omega) hj c9
theorem md_ok (h : R26 n G M S Wf) {v s j : Nat} {x y : Int32} (hv : v < gnV M) (hs : s < gnS M) (e : M 30 v = nI s) (hj : j < gnF M v) (ey : y = if x = 0 then 1 else 2) (c1 : ¬ ((S 8 v) >>> ((nI (2 * j)) &&& 31)) &&& 3 = 1) (c2 : x = 0 ∨ (¬ ((S 8 v) >>> ((nI (2 * j)) &&& 31)) &&& 3 = 2 ∧ ¬ 0 < lg_cmp (((Wf v) >>> ((nI (4 * j)).toInt64 &&& 63)) &&& (15 : Int64)) (7 : Int64) ∧ S 2 ((14 * s) + 7) = nI v)) : A_mends G (nI v) (nI j) x = f_L_open (up2 S 8 v (((S 8 v) &&& (((3 : Int32) <<< ((nI (2 * j)) &&& 31)) ^^^ (-1))) ||| (y <<< ((nI (2 * j)) &&& 31)))) Wf v 0 ∧ R26 n (H_mends G (nI v) (nI j) x) (g_X7_mends_3 M v j x) (up2 S 8 v (((S 8 v) &&& (((3 : Int32) <<< ((nI (2 * j)) &&& 31)) ^^^ (-1))) ||| (y <<< ((nI (2 * j)) &&& 31)))) Wf := by
  have hb := h.b.1
  rw [md_f h hv hj] at c1
  rw [md_f h hv hj, md_w h hv hj, h.x7 hs] at c2
  obtain ⟨a, r⟩ := sp_mends_ok h.r (gV9 h hv) e (by omega) hj c1 c2
  have r2 := st_mends h hv hj ey rfl r
  exact ⟨a.trans (vl_op0 r2 (v := v) hv).symm, r2⟩
/-! appeal, votes -/
theorem ap_i (h : R26 n G M S Wf) {v : Nat} (hv : v < gnV M) : (f_L_info (S 5 v)) &&& 1 = M 39 v := (h.a v hv).g.2.2.2.2.2.1
theorem ap_p (h : R26 n G M S Wf) {v : Nat} (hv : v < gnV M) : ((f_L_info (S 5 v)) >>> (1 &&& 31)) &&& 3 = M 40 v := (h.a v hv).g.2.2.2.2.2.2.1
theorem ap_c (h : R26 n G M S Wf) {v : Nat} (hv : v < gnV M) : ((f_L_info (S 5 v)) >>> (3 &&& 31)) &&& 3 = M 41 v := (h.a v hv).g.2.2.2.2.2.2.2.1
theorem ap_no (h : R26 n G M S Wf) {v : Nat} (hv : v < gnV M) (c9 : S 7 v = (-1) ∨ ¬ (f_L_info (S 5 v)) &&& 1 = 0 ∨ (30 : Int32) < (S 10 0) - (S 7 v)) : A_appeal G (nI v) = (-7300) ∧ H_appeal G (nI v) = G := by
  rw [ap_i h hv, h.e v hv, h.g0] at c9
  refine sp_appeal_no h.r (gV9 h hv) (fun q => ?_)
  rcases c9 with c | c | c
  · exact q.1 c
  · exact c q.2.1
  · exact absurd q.2.2 (Int32.not_le.mpr c)
theorem ap_ok (h : R26 n G M S Wf) {v : Nat} (hv : v < gnV M) (c1 : ¬ S 7 v = (-1)) (c2 : (f_L_info (S 5 v)) &&& 1 = 0) (c3 : ¬ (30 : Int32) < (S 10 0) - (S 7 v)) : A_appeal G (nI v) = 0 ∧ R26 (n + 1) (H_appeal G (nI v)) (g_X7_appeal_4 M v) (up2 S 5 v ((S 5 v) ||| 8192)) Wf := by
  rw [h.e v hv] at c1
  rw [ap_i h hv] at c2
  rw [h.e v hv, h.g0] at c3
  obtain ⟨a, r⟩ := sp_appeal_ok h.r (gV9 h hv) c1 c2 (Int32.not_lt.mp c3)
  exact ⟨a, st_appeal h hv c2 rfl r⟩
theorem vt_d (M : GS) (v : Nat) (x : Int32) : f_X7_decided (g_X7_vote_3 M v x) v = if (M 40 v) + (if x = 0 then 0 else 1) = 2 then 1 else (if (M 41 v) + (if x = 0 then 1 else 0) = 2 then 2 else 0) := by
  have e1 : (g_X7_vote_3 M v x) 40 v = (M 40 v) + (if x = 0 then 0 else 1) := (show upd (M 40) v ((M 40 v) + (if x = 0 then 0 else 1)) v = _ from pk_us)
  have e2 : (g_X7_vote_3 M v x) 41 v = (M 41 v) + (if x = 0 then 1 else 0) := (show upd (M 41) v ((M 41 v) + (if x = 0 then 1 else 0)) v = _ from pk_us)
  unfold f_X7_decided
  rw [e1, e2]
theorem vt_no (h : R26 n G M S Wf) {v : Nat} {x : Int32} (hv : v < gnV M) (c9 : ¬ (f_L_info (S 5 v)) &&& 1 = 1 ∨ (2 : Int32) ≤ ((f_L_info (S 5 v)) >>> (1 &&& 31)) &&& 3 ∨ (2 : Int32) ≤ ((f_L_info (S 5 v)) >>> (3 &&& 31)) &&& 3) : A_vote G (nI v) x = (-7300) ∧ H_vote G (nI v) x = G := by
  refine sp_vote_no h.r (gV9 h hv) ?_
  rw [ap_p h hv, ap_c h hv] at c9
  obtain ⟨s, p, k, f, c, y1, y2, y3, y4, ⟨b1, b2, b3, b4, b5, b6, b7, b8, b9⟩, e1, e2, e3, e4, e5, e6, e7, e8, e9, eA⟩ := h.a v hv
  rcases c9 with c | c | c
  · exact Or.inl ((ap_i h hv).symm.trans ((b01 _).resolve_right c))
  · right
    rw [e7] at c
    have := (nI_leI (a := 2) (by decide) (by omega)).mp c
    unfold f_X7_decided
    rw [e7, show y2 = 2 by omega, if_pos (show nI 2 = 2 from rfl)]
    decide
  · right
    rw [e8] at c
    have := (nI_leI (a := 2) (by decide) (by omega)).mp c
    unfold f_X7_decided
    rw [e8, show y3 = 2 by omega, if_pos (show nI 2 = 2 from rfl)]
    split <;> decide
theorem vt_ok (h : R26 n G M S Wf) (hn : n < 512) {v : Nat} {x : Int32} (hv : v < gnV M) (hx : x = 0 ∨ x = 1) (c1 : (f_L_info (S 5 v)) &&& 1 = 1) (c2 : ¬ (2 : Int32) ≤ ((f_L_info (S 5 v)) >>> (1 &&& 31)) &&& 3) (c3 : ¬ (2 : Int32) ≤ ((f_L_info (S 5 v)) >>> (3 &&& 31)) &&& 3) {a : Int32} (ea : a = if x = 0 then 65536 else 16384) : A_vote G (nI v) x = (if (((f_L_info (S 5 v)) >>> (1 &&& 31)) &&& 3) + (if x = 0 then 0 else 1) = 2 then 1 else (if (((f_L_info (S 5 v)) >>> (3 &&& 31)) &&& 3) + (if x = 0 then 1 else 0) = 2 then 2 else 0)) ∧ R26 (n + 1) (H_vote G (nI v) x) (g_X7_vote_3 M v x) (up2 S 5 v ((S 5 v) + a)) Wf := by
  rw [ap_i h hv] at c1
  rw [ap_p h hv] at c2 ⊢
  rw [ap_c h hv] at c3 ⊢
  have d0 : f_X7_decided M v = 0 := by
    unfold f_X7_decided
    rw [if_neg (fun q => c2 (by rw [q]; decide)), if_neg (fun q => c3 (by rw [q]; decide))]
  obtain ⟨z, r⟩ := sp_vote_ok h.r hn (gV9 h hv) hx (by rw [c1]; decide) d0
  exact ⟨z.trans (vt_d M v x), st_vote h hv hx d0 (by rw [ea]) r⟩
theorem vt_ok1 (h : R26 n G M S Wf) (hn : n < 512) {v : Nat} (hv : v < gnV M) (c1 : (f_L_info (S 5 v)) &&& 1 = 1) (c2 : ¬ (2 : Int32) ≤ ((f_L_info (S 5 v)) >>> (1 &&& 31)) &&& 3) (c3 : ¬ (2 : Int32) ≤ ((f_L_info (S 5 v)) >>> (3 &&& 31)) &&& 3) : A_vote G (nI v) 1 = (if (((f_L_info (S 5 v)) >>> (1 &&& 31)) &&& 3) + 1 = 2 then 1 else (if (((f_L_info (S 5 v)) >>> (3 &&& 31)) &&& 3) + 0 = 2 then 2 else 0)) ∧ R26 (n + 1) (H_vote G (nI v) 1) (g_X7_vote_3 M v 1) (up2 S 5 v ((S 5 v) + ((2 : Int32) <<< (13 &&& 31)))) Wf := by
  have q := vt_ok h hn hv (Or.inr rfl) c1 c2 c3 (a := (2 : Int32) <<< (13 &&& 31)) (by decide)
  rw [if_neg (show ¬ (1 : Int32) = 0 by decide), if_neg (show ¬ (1 : Int32) = 0 by decide)] at q
  exact q
theorem vt_ok0 (h : R26 n G M S Wf) (hn : n < 512) {v : Nat} (hv : v < gnV M) (c1 : (f_L_info (S 5 v)) &&& 1 = 1) (c2 : ¬ (2 : Int32) ≤ ((f_L_info (S 5 v)) >>> (1 &&& 31)) &&& 3) (c3 : ¬ (2 : Int32) ≤ ((f_L_info (S 5 v)) >>> (3 &&& 31)) &&& 3) : A_vote G (nI v) 0 = (if (((f_L_info (S 5 v)) >>> (1 &&& 31)) &&& 3) + 0 = 2 then 1 else (if (((f_L_info (S 5 v)) >>> (3 &&& 31)) &&& 3) + 1 = 2 then 2 else 0)) ∧ R26 (n + 1) (H_vote G (nI v) 0) (g_X7_vote_3 M v 0) (up2 S 5 v ((S 5 v) + ((8 : Int32) <<< (13 &&& 31)))) Wf := by
  have q := vt_ok h hn hv (Or.inl rfl) c1 c2 c3 (a := (8 : Int32) <<< (13 &&& 31)) (by decide)
  rw [if_pos (show (0 : Int32) = 0 from rfl), if_pos (show (0 : Int32) = 0 from rfl)] at q
  exact q
/-! release -/
theorem rl_by (h : R26 n G M S Wf) {i : Nat} (hi : i < gnS M) (c : ¬ S 2 ((14 * i) + 9) = (-1)) : ∃ j, j < gnV M ∧ S 2 ((14 * i) + 9) = nI j ∧ M 13 i = nI j := by
  rw [h.x9 hi] at c ⊢
  have c2 : ¬ G 13 i = -1 := fun q => c (by rw [h.r.q 13]; exact q)
  obtain ⟨a, b⟩ := h.r.ic.re 13 (by decide) (gS9 h hi) c2
  exact ⟨(G 13 i).toNatClampNeg, by rw [h.r.V]; exact b, by rw [h.r.q 13]; exact a, by rw [h.r.q 13]; exact a⟩
theorem op_nn (M : GS) (v : Nat) : ∀ k, ∃ c, c ≤ k ∧ L_X7_openOf_4_2 M v k = nI c
  | 0 => ⟨0, Nat.le_refl _, rfl⟩
  | k + 1 => by
    obtain ⟨c, c1, c2⟩ := op_nn M v k
    show ∃ c, c ≤ k + 1 ∧ (L_X7_openOf_4_2 M v k) + (if M 37 ((12 * v) + k) = 0 then 1 else 0) = nI c
    rw [c2]
    by_cases q : M 37 ((12 * v) + k) = 0
    · rw [if_pos q]; exact ⟨c + 1, by omega, nI_1 _⟩
    · rw [if_neg q]; exact ⟨c, by omega, Int32.add_zero _⟩
theorem op_pos (h : R26 n G M S Wf) (v : Nat) : ¬ f_X7_openOf M v < 0 := fun q => by
  have hf : gnF M v ≤ 12 := by
    rcases Nat.lt_or_ge v (gnV M) with z | z
    · exact (h.fc z).2
    · rw [h.f0 z]; decide
  obtain ⟨c, c1, c2⟩ := op_nn M v (gnF M v)
  have q : L_X7_openOf_4_2 M v (gnF M v) < 0 := q
  rw [c2] at q
  have := (nI_ltI (b := 0) (by omega) (by decide)).mp q
  omega
theorem rl_no (h : R26 n G M S Wf) {i : Nat} (hi : i < gnS M) (c9 : S 2 ((14 * i) + 9) = (-1) ∨ ∃ j, j < gnV M ∧ M 13 i = nI j ∧ ¬ (f_L_lapsed S i = 0 ∧ f_L_open S Wf j 0 = 0)) : A_release G (nI i) = (-7300) ∧ H_release G (nI i) = G := by
  refine sp_release_no h.r (gS9 h hi) ?_ (op_pos h _)
  rcases c9 with c | ⟨j, j1, j2, j3⟩
  · exact Or.inl ((h.x9 hi).symm.trans c)
  · right
    have hb := h.b
    rw [j2, nI_clamp (by omega)]
    rw [vl_lap h (by omega), vl_op0 h j1] at j3
    exact fun q => j3 ⟨q.2, q.1⟩
theorem rl_ok (h : R26 n G M S Wf) {i j : Nat} (hi : i < gnS M) (hj : j < gnV M) (e : M 13 i = nI j) (c1 : f_L_lapsed S i = 0) (c2 : f_L_open S Wf j 0 = 0) : A_release G (nI i) = 100 * ((S 10 0) - (S 7 j)) ∧ R9 (n + 1) (H_release G (nI i)) (if M 14 i = 0 then g_X7_release_4 M i j else g_X7_release_7 M i j) := by
  have hb := h.b
  rw [vl_lap h (by omega)] at c1
  rw [vl_op0 h hj] at c2
  rw [h.g0, h.e j hj]
  exact sp_release_ok h.r (gS9 h hi) e (by omega) c2 c1
theorem rl_14 (h : R26 n G M S Wf) {i : Nat} (hi : i < gnS M) : M 14 i = 0 ↔ ¬ S 2 ((14 * i) + 10) = 1 := by
  have hb := h.b
  rw [h.x10 (by omega)]
  have q : M 14 i = 0 ∨ M 14 i = 1 := by rw [h.r.q 14]; exact nz_or (h.r.ic.b14 (gS9 h hi))
  rcases q with q | q <;> rw [q] <;> decide
theorem rl_A (h : R26 n G M S Wf) {i j : Nat} (hi : i < gnS M) (hj : j < gnV M) (e : M 13 i = nI j) (c1 : f_L_lapsed S i = 0) (c2 : f_L_open S Wf j 0 = 0) (c3 : ¬ S 2 ((14 * i) + 10) = 1) : R26 (n + 1) (H_release G (nI i)) (g_X7_release_4 M i j) (up2 (up2 S 2 ((14 * i) + 9) (-1)) 2 ((14 * i) + 13) ((S 2 ((14 * i) + 13)) + (100 * ((S 10 0) - (S 7 j))))) Wf := by
  have hb := h.b
  have r := (rl_ok h hi hj e c1 c2).2
  rw [if_pos ((rl_14 h hi).mpr c3)] at r
  exact st_releaseA h (v9 := 0) (by omega) (by rw [h.x13 (by omega), h.g0, h.e j hj]) r
theorem rl_B (h : R26 n G M S Wf) {i j : Nat} {v12 : Int32} (hi : i < gnS M) (hj : j < gnV M) (e : M 13 i = nI j) (c1 : f_L_lapsed S i = 0) (c2 : f_L_open S Wf j 0 = 0) (c3 : S 2 ((14 * i) + 10) = 1) (e12 : v12 = if (S 2 ((14 * i) + 11)) + 1 = 1 then (S 10 0) + 90 else (if (S 2 ((14 * i) + 11)) + 1 = 2 then (S 10 0) + 360 else 99999)) : R26 (n + 1) (H_release G (nI i)) (g_X7_release_7 M i j) (up2 (up2 (up2 (up2 (up2 S 2 ((14 * i) + 9) (-1)) 2 ((14 * i) + 13) ((S 2 ((14 * i) + 13)) + (100 * ((S 10 0) - (S 7 j))))) 2 ((14 * i) + 11) ((S 2 ((14 * i) + 11)) + 1)) 2 ((14 * i) + 12) v12) 2 ((14 * i) + 10) 0) Wf := by
  have hb := h.b
  have r := (rl_ok h hi hj e c1 c2).2
  rw [if_neg (fun q => (rl_14 h hi).mp q c3)] at r
  refine st_releaseB h (by omega) (by rw [h.x13 (by omega), h.g0, h.e j hj]) (by rw [h.x11 (by omega)]) ?_ r
  rw [h.x11 (by omega), h.g0] at e12
  by_cases a : M 15 i = 0
  · rw [if_pos ((inc1 _).1.mpr a)] at e12
    rw [if_pos a]
    exact Or.inl e12
  · rw [if_neg (fun q => a ((inc1 _).1.mp q))] at e12
    rw [if_neg a]
    by_cases b : M 15 i = 1
    · rw [if_pos ((inc1 _).2.mpr b)] at e12
      rw [if_pos b]
      exact Or.inl e12
    · rw [if_neg (fun q => b ((inc1 _).2.mp q))] at e12
      rw [if_neg b]
      exact Or.inr ⟨e12, rfl⟩
end CV
