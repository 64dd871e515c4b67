def L_L_law_all_2658_33 (S : GS) (s9 : Nat) : Nat → Int32
  | 0 => 0
  | k2658 + 1 => if (S 5 k2658) &&& 3 = nI s9 then (if (S 6 k2658) + 1095 ≤ S 10 0 then L_L_law_all_2658_33 S s9 k2658 else (if f_L_counts S k2658 = 0 then L_L_law_all_2658_33 S s9 k2658 else (L_L_law_all_2658_33 S s9 k2658) + ((((f_L_info (S 5 k2658)) >>> (5 &&& 31)) &&& 1) ^^^ 1))) else L_L_law_all_2658_33 S s9 k2658
def L_L_law_all_2658_32 (S : GS) (s9 : Nat) : Nat → Int32
  | 0 => 0
  | k2658 + 1 => if (S 5 k2658) &&& 3 = nI s9 then (if (S 6 k2658) + 1095 ≤ S 10 0 then L_L_law_all_2658_32 S s9 k2658 else (if f_L_counts S k2658 = 0 then L_L_law_all_2658_32 S s9 k2658 else (L_L_law_all_2658_32 S s9 k2658) + 1)) else L_L_law_all_2658_32 S s9 k2658
def bnS (S : GS) (s k : Nat) : GS := if (S 5 k) &&& 3 = nI s then (if (S 6 k) + 1095 ≤ S 10 0 then S else (if f_L_counts S k = 0 then S else up2 S 5 k ((S 5 k) ||| 262144))) else S
def bn (S : GS) (s : Nat) : Nat → GS
  | 0 => S
  | k + 1 => bnS (bn S s k) s k
def bnv (S : GS) (s j : Nat) : Int32 := if (S 5 j) &&& 3 = nI s then (if (S 6 j) + 1095 ≤ S 10 0 then S 5 j else (if f_L_counts S j = 0 then S 5 j else (S 5 j) ||| 262144)) else S 5 j
theorem bn_ne (S : GS) (s : Nat) : ∀ (k j : Nat), j ≠ 5 → bn S s k j = S j
  | 0, j, h => rfl
  | k + 1, j, h => by
    have ih := bn_ne S s k j h
    show bnS (bn S s k) s k j = S j
    unfold bnS
    (repeat' split) <;> first | exact ih | exact (up2_ne h).trans ih
theorem bnS_5 {T S : GS} {s k : Nat} (e5 : T 5 k = S 5 k) (e6 : T 6 = S 6) (e7 : T 7 = S 7) (e10 : T 10 = S 10) (j : Nat) : bnS T s k 5 j = if j = k then bnv S s k else T 5 j := by
  have ec : f_L_counts T k = f_L_counts S k := by unfold f_L_counts; rw [e5, e7]
  unfold bnS bnv
  rw [e5, e6, e10, ec]
  by_cases q : j = k
  · rw [if_pos q, q]
    (repeat' split) <;> first | exact e5 | exact (congrFun (up2_eq _ _ _ _) _).trans pk_us
  · rw [if_neg q]
    (repeat' split) <;> first | rfl | exact (congrFun (up2_eq _ _ _ _) _).trans (pk_un q)
theorem bn_5 (S : GS) (s : Nat) : ∀ k, (∀ j, k ≤ j → bn S s k 5 j = S 5 j) ∧ (∀ j, j < k → bn S s k 5 j = bnv S s j)
  | 0 => ⟨fun _ _ => rfl, fun j h => by omega⟩
  | k + 1 => by
    obtain ⟨i1, i2⟩ := bn_5 S s k
    have e := bnS_5 (T := bn S s k) (S := S) (s := s) (k := k) (i1 k (Nat.le_refl _)) (bn_ne S s k 6 (by decide)) (bn_ne S s k 7 (by decide)) (bn_ne S s k 10 (by decide))
    refine ⟨fun j hj => ?_, fun j hj => ?_⟩
    · show bnS (bn S s k) s k 5 j = _
      rw [e j, if_neg (by omega)]
      exact i1 j (by omega)
    · show bnS (bn S s k) s k 5 j = _
      rw [e j]
      by_cases q : j = k
      · rw [if_pos q, q]
      · rw [if_neg q]
        exact i2 j (by omega)
def lgv (M : GS) (s j : Nat) : Int32 := if M 42 j = 0 then (if M 30 j = nI s then (if f_X7_isLatest M j = 0 then 0 else (if f_X7_counts M j = 0 then 0 else 1)) else 0) else 1
theorem lg_5 (M : GS) (s : Nat) : ∀ k, (∀ j, k ≤ j → LG_X7_looksForBan_69 M s k 42 j = M 42 j) ∧ (∀ j, j < k → LG_X7_looksForBan_69 M s k 42 j = lgv M s j)
  | 0 => ⟨fun _ _ => rfl, fun j h => by omega⟩
  | k + 1 => by
    obtain ⟨i1, i2⟩ := lg_5 M s k
    have ne := LG_X7_looksForBan_69_ne M s k
    have el : f_X7_isLatest (LG_X7_looksForBan_69 M s k) k = f_X7_isLatest M k := by unfold f_X7_isLatest; rw [ne 1 (by decide), ne 32 (by decide)]
    have ec : f_X7_counts (LG_X7_looksForBan_69 M s k) k = f_X7_counts M k := by unfold f_X7_counts; rw [ne 38 (by decide), ne 40 (by decide)]
    have e : ∀ j, LG_X7_looksForBan_69 M s (k + 1) 42 j = if j = k then lgv M s k else LG_X7_looksForBan_69 M s k 42 j := fun j => by
      show up2 (LG_X7_looksForBan_69 M s k) 42 k (if (LG_X7_looksForBan_69 M s k) 42 k = 0 then (if (LG_X7_looksForBan_69 M s k) 30 k = nI s then (if f_X7_isLatest (LG_X7_looksForBan_69 M s k) k = 0 then 0 else (if f_X7_counts (LG_X7_looksForBan_69 M s k) k = 0 then 0 else 1)) else 0) else 1) 42 j = _
      rw [up2_eq, el, ec, ne 30 (by decide), i1 k (Nat.le_refl _)]
      by_cases q : j = k
      · rw [if_pos q, q, pk_us]; rfl
      · rw [if_neg q, pk_un q]
    refine ⟨fun j hj => ?_, fun j hj => ?_⟩
    · rw [e j, if_neg (by omega)]
      exact i1 j (by omega)
    · rw [e j]
      by_cases q : j = k
      · rw [if_pos q, q]
      · rw [if_neg q]
        exact i2 j (by omega)
theorem A1.b {x30 x31 x33 x34 x35 x39 x40 x41 x42 a : Int32} (h : A1 x30 x31 x33 x34 x35 x39 x40 x41 x42 a) : A1 x30 x31 x33 x34 x35 x39 x40 x41 1 (a ||| 262144) := by
  obtain ⟨s, p, k, f, c, y1, y2, y3, y4, ⟨b1, b2, b3, b4, b5, b6, b7, b8, b9⟩, e1, e2, e3, e4, e5, e6, e7, e8, e9, eA⟩ := h
  refine ⟨s, p, k, f, c, y1, y2, y3, 1, ⟨b1, b2, b3, b4, b5, b6, b7, b8, by decide⟩, e1, e2, e3, e4, e5, e6, e7, e8, rfl, ?_⟩
  have q := or_bit 0 (aN s p k f c y1 y2 y3 0) 18 (by unfold aN; omega)
  rw [Nat.mul_zero, Nat.zero_add] at q
  have e1 : aN s p k f c y1 y2 y3 1 = aN s p k f c y1 y2 y3 0 + 2 ^ 18 := by unfold aN; omega
  rw [eA, show (262144 : Int32) = nI (2 ^ 18) from rfl, e1, ← q]
  rcases (show y4 = 0 ∨ y4 = 1 by omega) with z | z
  · rw [z]
  · rw [z, e1, ← q, Int32.or_assoc, Int32.or_self]
section DT
variable {n m : Nat} {G G1 M S : GS} {Wf : Nat → Int64}
theorem dt_q (h : R26 n G M S Wf) {M2 F : GS} (r : ∀ j, j ∉ [0, 13, 14, 38, 42] → M2 j = M j) (f3 : F 3 = S 3) (f4 : F 4 = S 4) (f6 : F 6 = S 6) (f8 : F 8 = S 8) (f10 : F 10 = S 10) (hX : QXA (gnS M) (F 2) M2) (hA : QA (gnV M) (F 5) (M 30) (M 31) (M 33) (M 34) (M 35) (M 39) (M 40) (M 41) (M2 42)) (hE : QE (gnV M) (F 7) (M2 38)) (hR : R9 m G1 M2) : R26 m G1 M2 F Wf := by
  have nS : gnS M2 = gnS M := congrArg (fun z : Nat → Int32 => (z 0).toNatClampNeg) (r 3 (by decide))
  have nR : gnR M2 = gnR M := congrArg (fun z : Nat → Int32 => (z 0).toNatClampNeg) (r 23 (by decide))
  have nV : gnV M2 = gnV M := congrArg (fun z : Nat → Int32 => (z 0).toNatClampNeg) (r 29 (by decide))
  refine ⟨hR, by rw [nS, nR, nV]; exact h.b, ?_⟩
  unfold Q26
  rw [nS, nR, nV, f3, f4, f6, f8, f10, r 18 (by decide), r 19 (by decide), r 20 (by decide), r 21 (by decide), r 22 (by decide), r 24 (by decide), r 25 (by decide), r 26 (by decide), r 27 (by decide), r 28 (by decide), r 30 (by decide), r 31 (by decide), r 33 (by decide), r 34 (by decide), r 35 (by decide), r 39 (by decide), r 40 (by decide), r 41 (by decide), r 32 (by decide), r 37 (by decide), r 36 (by decide), r 1 (by decide), r 3 (by decide), r 23 (by decide), r 29 (by decide), r 43 (by decide), r 2 (by decide), r 4 (by decide), r 6 (by decide), r 7 (by decide)]
  exact ⟨hX, h.c, h.ru, hA, h.d, hE, h.f, h.w, h.g, h.su, h.bb⟩
def dS (S : GS) (v s : Nat) : GS := up2 (up2 S 7 v (S 10 0)) 2 ((14 * s) + 9) (nI v)
theorem dt_e (h : R26 n G M S Wf) {v s : Nat} (M2 : GS) (r38 : M2 38 = upd (M 38) v (M 1 0)) : QE (gnV M) ((dS S v s) 7) (M2 38) := fun u hu => by
  rw [r38]
  show upd (S 7) v (S 10 0) u = upd (M 38) v (M 1 0) u
  by_cases c : u = v
  · rw [c, pk_us, pk_us, h.g0]
  · rw [pk_un c, pk_un c]; exact h.e u hu
theorem dt_cnt (h : R26 n G M S Wf) {v s u : Nat} (hu : u < gnV M) : f_L_counts (dS S v s) u = f_X7_counts (g_X7_detain_4 M v s) u := by
  have e7 := dt_e (s := s) h (g_X7_detain_4 M v s) rfl u hu
  have e5 : (dS S v s) 5 = S 5 := rfl
  unfold f_L_counts f_X7_counts
  rw [e7, e5, ap_p h hu, e_g_X7_detain_4 M v s (j := 40) (by decide)]
theorem dt_lat (h : R26 n G M S Wf) {v s u : Nat} (hu : u < gnV M) : ((dS S v s) 6 u) + 1095 ≤ (dS S v s) 10 0 ↔ f_X7_isLatest (g_X7_detain_4 M v s) u = 0 := by
  have e : f_X7_isLatest (g_X7_detain_4 M v s) u = f_X7_isLatest M u := by
    unfold f_X7_isLatest
    rw [e_g_X7_detain_4 M v s (j := 1) (by decide), e_g_X7_detain_4 M v s (j := 32) (by decide)]
  rw [e]
  exact (lat_e h hu).1
theorem dt_42 (h : R26 n G M S Wf) {u : Nat} (hu : u < gnV M) : M 42 u = 0 ∨ M 42 u = 1 := by
  obtain ⟨s, p, k, f, c, y1, y2, y3, y4, ⟨b1, b2, b3, b4, b5, b6, b7, b8, b9⟩, e1, e2, e3, e4, e5, e6, e7, e8, e9, eA⟩ := h.a u hu
  rw [e9]
  rcases (show y4 = 0 ∨ y4 = 1 by omega) with z | z
  · rw [z]; exact Or.inl rfl
  · rw [z]; exact Or.inr rfl
theorem dt_i5 (h : R26 n G M S Wf) {u : Nat} (hu : u < gnV M) : (((f_L_info (S 5 u)) >>> (5 &&& 31)) &&& 1) ^^^ 1 = if M 42 u = 0 then 1 else 0 := by
  rw [(h.a u hu).g.2.2.2.2.2.2.2.2]
  rcases dt_42 h hu with q | q <;> rw [q] <;> decide
theorem dt_all (h : R26 n G M S Wf) {v s : Nat} : ∀ k, k ≤ gnV M → L_L_law_all_2658_32 (dS S v s) s k = L_X7_detentionsOf_4_2 (g_X7_detain_4 M v s) s k ∧ L_L_law_all_2658_33 (dS S v s) s k = L_X7_looksForBan_4_2 (g_X7_detain_4 M v s) s k
  | 0, _ => ⟨rfl, rfl⟩
  | k + 1, hk => by
    obtain ⟨i1, i2⟩ := dt_all h (v := v) (s := s) k (by omega)
    have hu : k < gnV M := by omega
    have e30 : (g_X7_detain_4 M v s) 30 = M 30 := e_g_X7_detain_4 M v s (j := 30) (by decide)
    have e42 : (g_X7_detain_4 M v s) 42 = M 42 := e_g_X7_detain_4 M v s (j := 42) (by decide)
    have e3 : ((dS S v s) 5 k) &&& 3 = M 30 k := (h.a k hu).g.1
    have ei : (((f_L_info ((dS S v s) 5 k)) >>> (5 &&& 31)) &&& 1) ^^^ 1 = if M 42 k = 0 then 1 else 0 := dt_i5 h hu
    have hl := dt_lat h (v := v) (s := s) hu
    have hc := dt_cnt h (v := v) (s := s) hu
    show (if ((dS S v s) 5 k) &&& 3 = nI s then (if ((dS S v s) 6 k) + 1095 ≤ (dS S v s) 10 0 then L_L_law_all_2658_32 (dS S v s) s k else (if f_L_counts (dS S v s) k = 0 then L_L_law_all_2658_32 (dS S v s) s k else (L_L_law_all_2658_32 (dS S v s) s k) + 1)) else L_L_law_all_2658_32 (dS S v s) s k) = (L_X7_detentionsOf_4_2 (g_X7_detain_4 M v s) s k) + (if (g_X7_detain_4 M v s) 30 k = nI s then (if f_X7_isLatest (g_X7_detain_4 M v s) k = 0 then 0 else (if f_X7_counts (g_X7_detain_4 M v s) k = 0 then 0 else 1)) else 0) ∧ (if ((dS S v s) 5 k) &&& 3 = nI s then (if ((dS S v s) 6 k) + 1095 ≤ (dS S v s) 10 0 then L_L_law_all_2658_33 (dS S v s) s k else (if f_L_counts (dS S v s) k = 0 then L_L_law_all_2658_33 (dS S v s) s k else (L_L_law_all_2658_33 (dS S v s) s k) + ((((f_L_info ((dS S v s) 5 k)) >>> (5 &&& 31)) &&& 1) ^^^ 1))) else L_L_law_all_2658_33 (dS S v s) s k) = (L_X7_looksForBan_4_2 (g_X7_detain_4 M v s) s k) + (if (g_X7_detain_4 M v s) 30 k = nI s then (if f_X7_isLatest (g_X7_detain_4 M v s) k = 0 then 0 else (if f_X7_counts (g_X7_detain_4 M v s) k = 0 then 0 else (if (g_X7_detain_4 M v s) 42 k = 0 then 1 else 0))) else 0)
    rw [e3, ei, hc, i1, i2, e30, e42]
    by_cases c1 : M 30 k = nI s
    · rw [if_pos c1, if_pos c1, if_pos c1, if_pos c1]
      by_cases c2 : ((dS S v s) 6 k) + 1095 ≤ (dS S v s) 10 0
      · have c9 := hl.mp c2
        rw [if_pos c2, if_pos c2, if_pos c9, if_pos c9]
        exact ⟨(Int32.add_zero _).symm, (Int32.add_zero _).symm⟩
      · have c9 : ¬ f_X7_isLatest (g_X7_detain_4 M v s) k = 0 := fun q => c2 (hl.mpr q)
        rw [if_neg c2, if_neg c2, if_neg c9, if_neg c9]
        by_cases c3 : f_X7_counts (g_X7_detain_4 M v s) k = 0
        · rw [if_pos c3, if_pos c3, if_pos c3, if_pos c3]
          exact ⟨(Int32.add_zero _).symm, (Int32.add_zero _).symm⟩
        · rw [if_neg c3, if_neg c3, if_neg c3, if_neg c3]
          exact ⟨rfl, rfl⟩
    · rw [if_neg c1, if_neg c1, if_neg c1, if_neg c1]
      exact ⟨(Int32.add_zero _).symm, (Int32.add_zero _).symm⟩
theorem dt_no (h : R26 n G M S Wf) {v s : Nat} (hv : v < gnV M) (hs : s < gnS M) (e : M 30 v = nI s) (c9 : ¬ S 2 ((14 * s) + 7) = nI v ∨ ¬ S 7 v = (-1) ∨ (¬ 9 < f_L_open S Wf v 1 ∧ f_L_lapsed S s ≤ 0)) : A_detain G (nI v) = (-7300) ∧ H_detain G (nI v) = G := by
  have hb := h.b.1
  rw [h.x7 hs, h.e v hv, vl_op1 h hv, lap_0 h (by omega)] at c9
  refine sp_detain_no h.r (gV9 h hv) e (by omega) (fun q => ?_)
  rcases c9 with c | c | c
  · exact c q.1
  · exact c q.2.1
  · rcases q.2.2 with z | z
    · refine c.1 (Int32.lt_iff_toInt_lt.mpr ?_)
      have z := Int32.le_iff_toInt_le.mp z
      have e1 : (10 : Int32).toInt = 10 := rfl
      have e2 : (9 : Int32).toInt = 9 := rfl
      omega
    · exact z c.2
theorem dt_ok (h : R26 n G M S Wf) (hn : n < 512) {v s : Nat} (hv : v < gnV M) (hs : s < gnS M) (e : M 30 v = nI s) (c1 : S 2 ((14 * s) + 7) = nI v) (c2 : S 7 v = (-1)) (c3 : 9 < f_L_open S Wf v 1 ∨ ¬ f_L_lapsed S s ≤ 0) : A_detain G (nI v) = L_L_law_all_2658_32 (dS S v s) s (gv (dS S v s)) ∧ R9 (n + 1) (H_detain G (nI v)) (g_X7_looksForBan (g_X7_detain_4 M v s) s) := by
  have hb := h.b.1
  rw [h.x7 hs] at c1
  rw [h.e v hv] at c2
  rw [vl_op1 h hv, lap_0 h (by omega)] at c3
  obtain ⟨a, r⟩ := sp_detain_ok h.r hn (gV9 h hv) e (by omega) c1 c2 (c3.elim (fun z => Or.inl (by
    have z := Int32.lt_iff_toInt_lt.mp z
    refine Int32.le_iff_toInt_le.mpr ?_
    have e1 : (10 : Int32).toInt = 10 := rfl
    have e2 : (9 : Int32).toInt = 9 := rfl
    omega)) Or.inr)
  refine ⟨?_, r⟩
  have hg : gv (dS S v s) = gnV M := h.eV
  rw [a, cg_det (fun k hk => e_g_X7_looksForBan _ _ (by revert hk; revert k; decide)), hg, (dt_all h (v := v) (s := s) (gnV M) (Nat.le_refl _)).1]
  rfl
theorem dt_fr (h : R26 n G M S Wf) {v s : Nat} : L_L_law_all_2658_33 (dS S v s) s (gv (dS S v s)) = L_X7_looksForBan_4_2 (g_X7_detain_4 M v s) s (gnV (g_X7_detain_4 M v s)) := by
  have hg : gv (dS S v s) = gnV M := h.eV
  rw [hg, (dt_all h (v := v) (s := s) (gnV M) (Nat.le_refl _)).2]
  rfl
theorem dt_1 (h : R26 n G M S Wf) {v s : Nat} (c : ¬ 3 ≤ L_L_law_all_2658_33 (dS S v s) s (gv (dS S v s))) (hR : R9 m G1 (g_X7_looksForBan (g_X7_detain_4 M v s) s)) : R26 m G1 (g_X7_detain_4 M v s) (dS S v s) Wf := by
  rw [dt_fr h] at c
  unfold g_X7_looksForBan at hR
  rw [if_neg c] at hR
  refine dt_q h (fun j hj => e_g_X7_detain_4 M v s (fun q => hj (by revert q; simp only [List.mem_cons, List.not_mem_nil, or_false]; omega))) rfl rfl rfl rfl rfl ?_ ?_ (dt_e h _ rfl) hR
  · exact ⟨(QX.ne h.x.1 (by decide) (by decide) (by decide)), (QX.ne h.x.2.1 (by decide) (by decide) (by decide)), (QX.ne h.x.2.2.1 (by decide) (by decide) (by decide)), (QX.ne h.x.2.2.2.1 (by decide) (by decide) (by decide)), (QX.ne h.x.2.2.2.2.1 (by decide) (by decide) (by decide)), (QX.ne h.x.2.2.2.2.2.1 (by decide) (by decide) (by decide)), (QX.ne h.x.2.2.2.2.2.2.1 (by decide) (by decide) (by decide)), (QX.ne h.x.2.2.2.2.2.2.2.1 (by decide) (by decide) (by decide)), (QX.ne h.x.2.2.2.2.2.2.2.2.1 (by decide) (by decide) (by decide)), (QX.up h.x.2.2.2.2.2.2.2.2.2.1 rfl), (QX.ne h.x.2.2.2.2.2.2.2.2.2.2.1 (by decide) (by decide) (by decide)), (QX.ne h.x.2.2.2.2.2.2.2.2.2.2.2.1 (by decide) (by decide) (by decide)), (Q12.ne h.x.2.2.2.2.2.2.2.2.2.2.2.2.1 (by decide)), (QX.ne h.x.2.2.2.2.2.2.2.2.2.2.2.2.2 (by decide) (by decide) (by decide))⟩
  · exact h.a
theorem dt_2 (h : R26 n G M S Wf) {v s : Nat} (c : 3 ≤ L_L_law_all_2658_33 (dS S v s) s (gv (dS S v s))) (hR : R9 m G1 (g_X7_looksForBan (g_X7_detain_4 M v s) s)) : R26 m G1 (up2 (LG_X7_looksForBan_69 (g_X7_detain_4 M v s) s (gnV (g_X7_detain_4 M v s))) 14 s 1) (bn (up2 (dS S v s) 2 ((14 * s) + 10) 1) s (gv (dS S v s))) Wf := by
  have hg : gv (dS S v s) = gnV M := h.eV
  have hg2 : gnV (g_X7_detain_4 M v s) = gnV M := rfl
  rw [dt_fr h] at c
  unfold g_X7_looksForBan at hR
  rw [if_pos c] at hR
  rw [hg2] at hR ⊢
  rw [hg]
  have ne := LG_X7_looksForBan_69_ne (g_X7_detain_4 M v s) s (gnV M)
  have bne := bn_ne (up2 (dS S v s) 2 ((14 * s) + 10) 1) s (gnV M)
  have rr : ∀ j, j ≠ 14 → j ≠ 42 → (up2 (LG_X7_looksForBan_69 (g_X7_detain_4 M v s) s (gnV M)) 14 s 1) j = (g_X7_detain_4 M v s) j := fun j a b => (up2_ne a).trans (ne j b)
  have r9 : ∀ j, j ∉ [0, 13, 14, 38, 42] → (up2 (LG_X7_looksForBan_69 (g_X7_detain_4 M v s) s (gnV M)) 14 s 1) j = M j := fun j hj => (rr j (fun q => hj (by rw [q]; decide)) (fun q => hj (by rw [q]; decide))).trans (e_g_X7_detain_4 M v s (fun q => hj (by revert q; simp only [List.mem_cons, List.not_mem_nil, or_false]; omega)))
  refine dt_q h r9 (bne 3 (by decide)) (bne 4 (by decide)) (bne 6 (by decide)) (bne 8 (by decide)) (bne 10 (by decide)) ?_ ?_ ?_ hR
  · have e14 : (up2 (LG_X7_looksForBan_69 (g_X7_detain_4 M v s) s (gnV M)) 14 s 1) 14 = upd (M 14) s 1 := by
      rw [up2_eq, ne 14 (by decide), e_g_X7_detain_4 M v s (j := 14) (by decide)]
    unfold QXA
    rw [bne 2 (by decide), r9 4 (by decide), r9 5 (by decide), r9 6 (by decide), r9 7 (by decide), r9 8 (by decide), r9 9 (by decide), r9 10 (by decide), r9 11 (by decide), r9 12 (by decide), r9 15 (by decide), r9 16 (by decide), r9 17 (by decide), rr 13 (by decide) (by decide), e14]
    exact ⟨(QX.ne (QX.ne h.x.1 (by decide) (by decide) (by decide)) (by decide) (by decide) (by decide)), (QX.ne (QX.ne h.x.2.1 (by decide) (by decide) (by decide)) (by decide) (by decide) (by decide)), (QX.ne (QX.ne h.x.2.2.1 (by decide) (by decide) (by decide)) (by decide) (by decide) (by decide)), (QX.ne (QX.ne h.x.2.2.2.1 (by decide) (by decide) (by decide)) (by decide) (by decide) (by decide)), (QX.ne (QX.ne h.x.2.2.2.2.1 (by decide) (by decide) (by decide)) (by decide) (by decide) (by decide)), (QX.ne (QX.ne h.x.2.2.2.2.2.1 (by decide) (by decide) (by decide)) (by decide) (by decide) (by decide)), (QX.ne (QX.ne h.x.2.2.2.2.2.2.1 (by decide) (by decide) (by decide)) (by decide) (by decide) (by decide)), (QX.ne (QX.ne h.x.2.2.2.2.2.2.2.1 (by decide) (by decide) (by decide)) (by decide) (by decide) (by decide)), (QX.ne (QX.ne h.x.2.2.2.2.2.2.2.2.1 (by decide) (by decide) (by decide)) (by decide) (by decide) (by decide)), (QX.ne (QX.up h.x.2.2.2.2.2.2.2.2.2.1 rfl) (by decide) (by decide) (by decide)), (QX.up (QX.ne h.x.2.2.2.2.2.2.2.2.2.2.1 (by decide) (by decide) (by decide)) rfl), (QX.ne (QX.ne h.x.2.2.2.2.2.2.2.2.2.2.2.1 (by decide) (by decide) (by decide)) (by decide) (by decide) (by decide)), (Q12.ne (Q12.ne h.x.2.2.2.2.2.2.2.2.2.2.2.2.1 (by decide)) (by decide)), (QX.ne (QX.ne h.x.2.2.2.2.2.2.2.2.2.2.2.2.2 (by decide) (by decide) (by decide)) (by decide) (by decide) (by decide))⟩
  · intro u hu
    have e42 : (up2 (LG_X7_looksForBan_69 (g_X7_detain_4 M v s) s (gnV M)) 14 s 1) 42 u = lgv (g_X7_detain_4 M v s) s u := (congrFun (up2_ne (by decide)) u).trans ((lg_5 (g_X7_detain_4 M v s) s (gnV M)).2 u hu)
    have e5 : bn (up2 (dS S v s) 2 ((14 * s) + 10) 1) s (gnV M) 5 u = bnv (up2 (dS S v s) 2 ((14 * s) + 10) 1) s u := (bn_5 _ s (gnV M)).2 u hu
    rw [e42, e5]
    have hA := h.a u hu
    have z42 := dt_42 h hu
    unfold lgv bnv
    have a1 : (up2 (dS S v s) 2 ((14 * s) + 10) 1) 5 u = S 5 u := rfl
    have a6 : (up2 (dS S v s) 2 ((14 * s) + 10) 1) 6 u = (dS S v s) 6 u := rfl
    have a10 : (up2 (dS S v s) 2 ((14 * s) + 10) 1) 10 0 = (dS S v s) 10 0 := rfl
    have ac : f_L_counts (up2 (dS S v s) 2 ((14 * s) + 10) 1) u = f_L_counts (dS S v s) u := rfl
    have hl := dt_lat h (v := v) (s := s) hu
    rw [a1, a6, a10, ac, dt_cnt h hu, hA.g.1, e_g_X7_detain_4 M v s (j := 42) (by decide), e_g_X7_detain_4 M v s (j := 30) (by decide)]
    have hz : (if M 42 u = 0 then (0 : Int32) else 1) = M 42 u := by
      rcases z42 with q | q <;> rw [q] <;> decide
    by_cases c1 : M 30 u = nI s
    · rw [if_pos c1, if_pos c1]
      by_cases c2 : ((dS S v s) 6 u) + 1095 ≤ (dS S v s) 10 0
      · rw [if_pos c2, if_pos (hl.mp c2), hz]; exact hA
      · rw [if_neg c2, if_neg (fun q => c2 (hl.mpr q))]
        by_cases c3 : f_X7_counts (g_X7_detain_4 M v s) u = 0
        · rw [if_pos c3, if_pos c3, hz]; exact hA
        · rw [if_neg c3, if_neg c3, ite_self]; exact hA.b
    · rw [if_neg c1, if_neg c1, hz]; exact hA
  · rw [bne 7 (by decide), rr 38 (by decide) (by decide)]
    exact dt_e (s := s) h (g_X7_detain_4 M v s) rfl
end DT
set_option maxHeartbeats 4000000 in
set_option maxRecDepth 100000 in
theorem lc_all {p : Program} {l : Launch} {e : Env} {R : Room} {s : State} {m : MethodId} {args : Array Value} {below : List Frame} {meth : Method} {c : Code} {Q : State → Prop} {D : va_G} {cy : Nat → ClassId} {A : Nat → Prop} {o b t i v s9 N k : Nat} {ad : Nat → Nat} {u v12 : Int32} {n n1 c1 s1 : Nat} {G M S : GS} {Wf : Nat → Int64} (F : CallFix p m c cL_law 40 s args BIG RL) (hRm : 11 ≤ R.frames ∧ 278 ≤ R.locals ∧ c1 ≤ R.cells ∧ s1 ≤ R.slots) (hs4 : s9 < 4)  (h2 : S 10 2 = nI (gv S) ∧ gv S ≤ 50) {X Y : MU} {AD : AM} {H : Heap} {locs : List Loc} {cells slots : Nat} (hf : cells + 0 ≤ c1 ∧ slots + 0 ≤ s1) (hn : n + 0 ≤ n1) (ho : AD 0 0 0 = o) (hd : dis X Y) (hM : RepC cy AD G X) (hY : RepL cy ad S Wf Y) (w : WW D cy A (un X Y) s H locs) {ls : Array Slot} (kk : ∀ ls, lv_has ls 40 [(33, .int (L_L_law_all_2658_33 S s9 (gv S))), (32, .int (L_L_law_all_2658_32 S s9 (gv S))), (30, .int (nI s9)), (0, .ref b), (1, .ref o), (2, .ref (ad 2)), (3, .ref (ad 3)), (4, .ref (ad 4)), (5, .ref (ad 5)), (6, .ref (ad 6)), (7, .ref (ad 7)), (8, .ref (ad 8)), (9, .ref (ad 9)), (10, .ref (ad 10)), (11, .int (nI t)), (12, .int v12), (13, .int u), (14, .int (nI i)), (15, .int (nI (14 * i))), (16, .int (nI v)), (17, .int 1)] → W p l e R s m args below meth c H locs cells slots Q (F0 m 2738 ls [])) (hl : lv_has ls 40 [(30, .int (nI s9)), (0, .ref b), (1, .ref o), (2, .ref (ad 2)), (3, .ref (ad 3)), (4, .ref (ad 4)), (5, .ref (ad 5)), (6, .ref (ad 6)), (7, .ref (ad 7)), (8, .ref (ad 8)), (9, .ref (ad 9)), (10, .ref (ad 10)), (11, .int (nI t)), (12, .int v12), (13, .int u), (14, .int (nI i)), (15, .int (nI (14 * i))), (16, .int (nI v)), (17, .int 1)]) : W p l e R s m args below meth c H locs cells slots Q (F0 m 2649 ls []) := by
  have hL := hY.un hd
  have h50 := h2.2
  refine lv_iconst (v := 0) F.1 F.2.1 dL_law_2649 (by decide) ?_
  refine lv_istore (lv' := [(32, .int 0), (30, .int (nI s9)), (0, .ref b), (1, .ref o), (2, .ref (ad 2)), (3, .ref (ad 3)), (4, .ref (ad 4)), (5, .ref (ad 5)), (6, .ref (ad 6)), (7, .ref (ad 7)), (8, .ref (ad 8)), (9, .ref (ad 9)), (10, .ref (ad 10)), (11, .int (nI t)), (12, .int v12), (13, .int u), (14, .int (nI i)), (15, .int (nI (14 * i))), (16, .int (nI v)), (17, .int 1)]) F.1 F.2.1 dL_law_2650 hl (by decide) rfl (fun ls hl => ?_)
  refine lv_iconst (v := 0) F.1 F.2.1 dL_law_2652 (by decide) ?_
  refine lv_istore (lv' := [(33, .int 0), (32, .int 0), (30, .int (nI s9)), (0, .ref b), (1, .ref o), (2, .ref (ad 2)), (3, .ref (ad 3)), (4, .ref (ad 4)), (5, .ref (ad 5)), (6, .ref (ad 6)), (7, .ref (ad 7)), (8, .ref (ad 8)), (9, .ref (ad 9)), (10, .ref (ad 10)), (11, .int (nI t)), (12, .int v12), (13, .int u), (14, .int (nI i)), (15, .int (nI (14 * i))), (16, .int (nI v)), (17, .int 1)]) F.1 F.2.1 dL_law_2653 hl (by decide) rfl (fun ls hl => ?_)
  refine lv_iconst (v := 0) F.1 F.2.1 dL_law_2655 (by decide) ?_
  refine lv_istore (lv' := [(34, .int 0), (33, .int 0), (32, .int 0), (30, .int (nI s9)), (0, .ref b), (1, .ref o), (2, .ref (ad 2)), (3, .ref (ad 3)), (4, .ref (ad 4)), (5, .ref (ad 5)), (6, .ref (ad 6)), (7, .ref (ad 7)), (8, .ref (ad 8)), (9, .ref (ad 9)), (10, .ref (ad 10)), (11, .int (nI t)), (12, .int v12), (13, .int u), (14, .int (nI i)), (15, .int (nI (14 * i))), (16, .int (nI v)), (17, .int 1)]) F.1 F.2.1 dL_law_2656 hl (by decide) rfl (fun ls hl => ?_)
  refine q_loop (P := fun k2658 ls => lv_has ls 40 [(34, .int (nI k2658)), (33, .int (L_L_law_all_2658_33 S s9 k2658)), (32, .int (L_L_law_all_2658_32 S s9 k2658)), (30, .int (nI s9)), (0, .ref b), (1, .ref o), (2, .ref (ad 2)), (3, .ref (ad 3)), (4, .ref (ad 4)), (5, .ref (ad 5)), (6, .ref (ad 6)), (7, .ref (ad 7)), (8, .ref (ad 8)), (9, .ref (ad 9)), (10, .ref (ad 10)), (11, .int (nI t)), (12, .int v12), (13, .int u), (14, .int (nI i)), (15, .int (nI (14 * i))), (16, .int (nI v)), (17, .int 1)]) (gv S) (fun k2658 ls hk2658 hl ih2658 => ?_) 0 ls (Nat.zero_le _) (lv_cg (lv_sub hl [0, 1, 2, 3, 4, 5, 6, 7, 8, 9, 10, 11, 12, 13, 14, 15, 16, 17, 18, 19, 20, 21] rfl) rfl)
  refine lv_iload F.1 F.2.1 dL_law_2658 (lv_at hl 0 rfl) ?_
  refine lv_aload F.1 F.2.1 dL_law_2660 (lv_at hl 14 rfl) ?_
  refine lv_iconst (v := 2) F.1 F.2.1 dL_law_2662 (by decide) ?_
  refine l_ild F w hL 10 rfl 2 (show 2 < 9 by omega) dL_law_2663 ?_
  refine lv_fold (y := nI (gv S)) (h2.1) ?_
  refine lv_icmp_ge (tgt := 2738) F.1 F.2.1 dL_law_2664 (by decide) (fun c_1 => ?_) (fun c_1 => ?_)
  rotate_left
  · have hlt2658 : k2658 < (gv S) := GB_ilt (n := gv S) rfl (by omega) hk2658 c_1
    refine lv_aload F.1 F.2.1 dL_law_2667 (lv_at hl 9 rfl) ?_
    refine lv_iload F.1 F.2.1 dL_law_2669 (lv_at hl 0 rfl) ?_
    refine l_ild F w hL 5 rfl k2658 (show k2658 < 50 by omega) dL_law_2671 ?_
    refine lv_iconst (v := 3) F.1 F.2.1 dL_law_2672 (by decide) ?_
    refine lv_iand F.1 F.2.1 dL_law_2673 ?_
    refine lv_iload F.1 F.2.1 dL_law_2674 (lv_at hl 3 rfl) ?_
    refine jnl (m := m) 40 [(34, .int (nI k2658)), (33, .int (if (S 5 k2658) &&& 3 = nI s9 then (if (S 6 k2658) + 1095 ≤ S 10 0 then L_L_law_all_2658_33 S s9 k2658 else (if f_L_counts S k2658 = 0 then L_L_law_all_2658_33 S s9 k2658 else (L_L_law_all_2658_33 S s9 k2658) + ((((f_L_info (S 5 k2658)) >>> (5 &&& 31)) &&& 1) ^^^ 1))) else L_L_law_all_2658_33 S s9 k2658)), (32, .int (if (S 5 k2658) &&& 3 = nI s9 then (if (S 6 k2658) + 1095 ≤ S 10 0 then L_L_law_all_2658_32 S s9 k2658 else (if f_L_counts S k2658 = 0 then L_L_law_all_2658_32 S s9 k2658 else (L_L_law_all_2658_32 S s9 k2658) + 1)) else L_L_law_all_2658_32 S s9 k2658)), (30, .int (nI s9)), (0, .ref b), (1, .ref o), (2, .ref (ad 2)), (3, .ref (ad 3)), (4, .ref (ad 4)), (5, .ref (ad 5)), (6, .ref (ad 6)), (7, .ref (ad 7)), (8, .ref (ad 8)), (9, .ref (ad 9)), (10, .ref (ad 10)), (11, .int (nI t)), (12, .int v12), (13, .int u), (14, .int (nI i)), (15, .int (nI (14 * i))), (16, .int (nI v)), (17, .int 1)] [] 2732 (fun J_2 => ?_) ?_
    · refine lv_icmp_ne (tgt := 2732) F.1 F.2.1 dL_law_2676 (by decide) (fun c_3 => ?_) (fun c_3 => ?_)
      · exact J_2 ls (lv_sub hl [0, 1, 2, 3, 4, 5, 6, 7, 8, 9, 10, 11, 12, 13, 14, 15, 16, 17, 18, 19, 20, 21] (by rw [((if_neg c_3) : (if (S 5 k2658) &&& 3 = nI s9 then (if (S 6 k2658) + 1095 ≤ S 10 0 then L_L_law_all_2658_33 S s9 k2658 else (if f_L_counts S k2658 = 0 then L_L_law_all_2658_33 S s9 k2658 else (L_L_law_all_2658_33 S s9 k2658) + ((((f_L_info (S 5 k2658)) >>> (5 &&& 31)) &&& 1) ^^^ 1))) else L_L_law_all_2658_33 S s9 k2658) = L_L_law_all_2658_33 S s9 k2658), ((if_neg c_3) : (if (S 5 k2658) &&& 3 = nI s9 then (if (S 6 k2658) + 1095 ≤ S 10 0 then L_L_law_all_2658_32 S s9 k2658 else (if f_L_counts S k2658 = 0 then L_L_law_all_2658_32 S s9 k2658 else (L_L_law_all_2658_32 S s9 k2658) + 1)) else L_L_law_all_2658_32 S s9 k2658) = L_L_law_all_2658_32 S s9 k2658)] <;> rfl))
      · refine lv_aload F.1 F.2.1 dL_law_2679 (lv_at hl 10 rfl) ?_
        refine lv_iload F.1 F.2.1 dL_law_2681 (lv_at hl 0 rfl) ?_
        refine l_ild F w hL 6 rfl k2658 (show k2658 < 50 by omega) dL_law_2683 ?_
        refine lv_sipush (v := 1095) F.1 F.2.1 dL_law_2684 (by decide) ?_
        refine lv_iadd F.1 F.2.1 dL_law_2687 ?_
        refine lv_aload F.1 F.2.1 dL_law_2688 (lv_at hl 14 rfl) ?_
        refine lv_iconst (v := 0) F.1 F.2.1 dL_law_2690 (by decide) ?_
        refine l_ild F w hL 10 rfl 0 (show 0 < 9 by omega) dL_law_2691 ?_
        refine lv_icmp_le (tgt := 2732) F.1 F.2.1 dL_law_2692 (by decide) (fun c_4 => ?_) (fun c_4 => ?_)
        · exact J_2 ls (lv_sub hl [0, 1, 2, 3, 4, 5, 6, 7, 8, 9, 10, 11, 12, 13, 14, 15, 16, 17, 18, 19, 20, 21] (by rw [(((if_pos c_3).trans (if_pos c_4)) : (if (S 5 k2658) &&& 3 = nI s9 then (if (S 6 k2658) + 1095 ≤ S 10 0 then L_L_law_all_2658_33 S s9 k2658 else (if f_L_counts S k2658 = 0 then L_L_law_all_2658_33 S s9 k2658 else (L_L_law_all_2658_33 S s9 k2658) + ((((f_L_info (S 5 k2658)) >>> (5 &&& 31)) &&& 1) ^^^ 1))) else L_L_law_all_2658_33 S s9 k2658) = L_L_law_all_2658_33 S s9 k2658), (((if_pos c_3).trans (if_pos c_4)) : (if (S 5 k2658) &&& 3 = nI s9 then (if (S 6 k2658) + 1095 ≤ S 10 0 then L_L_law_all_2658_32 S s9 k2658 else (if f_L_counts S k2658 = 0 then L_L_law_all_2658_32 S s9 k2658 else (L_L_law_all_2658_32 S s9 k2658) + 1)) else L_L_law_all_2658_32 S s9 k2658) = L_L_law_all_2658_32 S s9 k2658)] <;> rfl))
        · refine lv_iload F.1 F.2.1 dL_law_2695 (lv_at hl 0 rfl) ?_
          refine lv_aload F.1 F.2.1 dL_law_2697 (lv_at hl 9 rfl) ?_
          refine lv_aload F.1 F.2.1 dL_law_2699 (lv_at hl 11 rfl) ?_
          refine q_rS (rest := []) F w kS_L_104 hd_L_counts (c_L_counts l D cy A _ ad S Wf hL k2658 (show k2658 < 50 by omega)) dL_law_2701 rfl rfl hl.1 ⟨rfl, rfl, (show 2 ≤ R.frames by omega), (show 42 ≤ R.locals by omega)⟩ (Nat.le_of_ble_eq_true rfl) ⟨by omega, by omega⟩ ?_
          refine lv_if_ne (tgt := 2710) F.1 F.2.1 dL_law_2704 (by decide) (fun c_5 => ?_) (fun c_5 => ?_)
          · refine lv_iinc (v := (L_L_law_all_2658_32 S s9 k2658) + 1) (lv' := [(32, .int ((L_L_law_all_2658_32 S s9 k2658) + 1)), (34, .int (nI k2658)), (33, .int (L_L_law_all_2658_33 S s9 k2658)), (30, .int (nI s9)), (0, .ref b), (1, .ref o), (2, .ref (ad 2)), (3, .ref (ad 3)), (4, .ref (ad 4)), (5, .ref (ad 5)), (6, .ref (ad 6)), (7, .ref (ad 7)), (8, .ref (ad 8)), (9, .ref (ad 9)), (10, .ref (ad 10)), (11, .int (nI t)), (12, .int v12), (13, .int u), (14, .int (nI i)), (15, .int (nI (14 * i))), (16, .int (nI v)), (17, .int 1)]) F.1 F.2.1 dL_law_2710 hl (k := 2) rfl rfl (by decide) rfl (fun ls hl => ?_)
            refine lv_iload F.1 F.2.1 dL_law_2713 (lv_at hl 2 rfl) ?_
            refine lv_aload F.1 F.2.1 dL_law_2715 (lv_at hl 9 rfl) ?_
            refine lv_iload F.1 F.2.1 dL_law_2717 (lv_at hl 1 rfl) ?_
            refine l_ild F w hL 5 rfl k2658 (show k2658 < 50 by omega) dL_law_2719 ?_
            refine q_rS (rest := [.int (L_L_law_all_2658_33 S s9 k2658)]) F w kS_L_101 hd_L_info (c_L_info l D cy A _ (S 5 k2658)) dL_law_2720 rfl rfl hl.1 ⟨rfl, rfl, (show 1 ≤ R.frames by omega), (show 20 ≤ R.locals by omega)⟩ (Nat.le_of_ble_eq_true rfl) ⟨by omega, by omega⟩ ?_
            refine lv_iconst (v := 5) F.1 F.2.1 dL_law_2723 (by decide) ?_
            refine lv_ishr F.1 F.2.1 dL_law_2724 ?_
            refine lv_iconst (v := 1) F.1 F.2.1 dL_law_2725 (by decide) ?_
            refine lv_iand F.1 F.2.1 dL_law_2726 ?_
            refine lv_iconst (v := 1) F.1 F.2.1 dL_law_2727 (by decide) ?_
            refine lv_ixor F.1 F.2.1 dL_law_2728 ?_
            refine lv_iadd F.1 F.2.1 dL_law_2729 ?_
            refine lv_istore (lv' := [(33, .int ((L_L_law_all_2658_33 S s9 k2658) + ((((f_L_info (S 5 k2658)) >>> (5 &&& 31)) &&& 1) ^^^ 1))), (32, .int ((L_L_law_all_2658_32 S s9 k2658) + 1)), (34, .int (nI k2658)), (30, .int (nI s9)), (0, .ref b), (1, .ref o), (2, .ref (ad 2)), (3, .ref (ad 3)), (4, .ref (ad 4)), (5, .ref (ad 5)), (6, .ref (ad 6)), (7, .ref (ad 7)), (8, .ref (ad 8)), (9, .ref (ad 9)), (10, .ref (ad 10)), (11, .int (nI t)), (12, .int v12), (13, .int u), (14, .int (nI i)), (15, .int (nI (14 * i))), (16, .int (nI v)), (17, .int 1)]) F.1 F.2.1 dL_law_2730 hl (by decide) rfl (fun ls hl => ?_)
            exact J_2 ls (lv_sub hl [2, 0, 1, 3, 4, 5, 6, 7, 8, 9, 10, 11, 12, 13, 14, 15, 16, 17, 18, 19, 20, 21] (by rw [(((if_pos c_3).trans ((if_neg c_4).trans (if_neg c_5))) : (if (S 5 k2658) &&& 3 = nI s9 then (if (S 6 k2658) + 1095 ≤ S 10 0 then L_L_law_all_2658_33 S s9 k2658 else (if f_L_counts S k2658 = 0 then L_L_law_all_2658_33 S s9 k2658 else (L_L_law_all_2658_33 S s9 k2658) + ((((f_L_info (S 5 k2658)) >>> (5 &&& 31)) &&& 1) ^^^ 1))) else L_L_law_all_2658_33 S s9 k2658) = (L_L_law_all_2658_33 S s9 k2658) + ((((f_L_info (S 5 k2658)) >>> (5 &&& 31)) &&& 1) ^^^ 1)), (((if_pos c_3).trans ((if_neg c_4).trans (if_neg c_5))) : (if (S 5 k2658) &&& 3 = nI s9 then (if (S 6 k2658) + 1095 ≤ S 10 0 then L_L_law_all_2658_32 S s9 k2658 else (if f_L_counts S k2658 = 0 then L_L_law_all_2658_32 S s9 k2658 else (L_L_law_all_2658_32 S s9 k2658) + 1)) else L_L_law_all_2658_32 S s9 k2658) = (L_L_law_all_2658_32 S s9 k2658) + 1)] <;> rfl))
          · refine lv_goto (tgt := 2732) F.1 F.2.1 dL_law_2707 (by decide) ?_
            exact J_2 ls (lv_sub hl [0, 1, 2, 3, 4, 5, 6, 7, 8, 9, 10, 11, 12, 13, 14, 15, 16, 17, 18, 19, 20, 21] (by rw [(((if_pos c_3).trans ((if_neg c_4).trans (if_pos c_5))) : (if (S 5 k2658) &&& 3 = nI s9 then (if (S 6 k2658) + 1095 ≤ S 10 0 then L_L_law_all_2658_33 S s9 k2658 else (if f_L_counts S k2658 = 0 then L_L_law_all_2658_33 S s9 k2658 else (L_L_law_all_2658_33 S s9 k2658) + ((((f_L_info (S 5 k2658)) >>> (5 &&& 31)) &&& 1) ^^^ 1))) else L_L_law_all_2658_33 S s9 k2658) = L_L_law_all_2658_33 S s9 k2658), (((if_pos c_3).trans ((if_neg c_4).trans (if_pos c_5))) : (if (S 5 k2658) &&& 3 = nI s9 then (if (S 6 k2658) + 1095 ≤ S 10 0 then L_L_law_all_2658_32 S s9 k2658 else (if f_L_counts S k2658 = 0 then L_L_law_all_2658_32 S s9 k2658 else (L_L_law_all_2658_32 S s9 k2658) + 1)) else L_L_law_all_2658_32 S s9 k2658) = L_L_law_all_2658_32 S s9 k2658)] <;> rfl))
    intro ls hl
    refine lv_iinc (v := nI (k2658 + 1)) (lv' := [(34, .int (nI (k2658 + 1))), (33, .int (if (S 5 k2658) &&& 3 = nI s9 then (if (S 6 k2658) + 1095 ≤ S 10 0 then L_L_law_all_2658_33 S s9 k2658 else (if f_L_counts S k2658 = 0 then L_L_law_all_2658_33 S s9 k2658 else (L_L_law_all_2658_33 S s9 k2658) + ((((f_L_info (S 5 k2658)) >>> (5 &&& 31)) &&& 1) ^^^ 1))) else L_L_law_all_2658_33 S s9 k2658)), (32, .int (if (S 5 k2658) &&& 3 = nI s9 then (if (S 6 k2658) + 1095 ≤ S 10 0 then L_L_law_all_2658_32 S s9 k2658 else (if f_L_counts S k2658 = 0 then L_L_law_all_2658_32 S s9 k2658 else (L_L_law_all_2658_32 S s9 k2658) + 1)) else L_L_law_all_2658_32 S s9 k2658)), (30, .int (nI s9)), (0, .ref b), (1, .ref o), (2, .ref (ad 2)), (3, .ref (ad 3)), (4, .ref (ad 4)), (5, .ref (ad 5)), (6, .ref (ad 6)), (7, .ref (ad 7)), (8, .ref (ad 8)), (9, .ref (ad 9)), (10, .ref (ad 10)), (11, .int (nI t)), (12, .int v12), (13, .int u), (14, .int (nI i)), (15, .int (nI (14 * i))), (16, .int (nI v)), (17, .int 1)]) F.1 F.2.1 dL_law_2732 hl (k := 0) rfl (nI_1 _) (by decide) rfl (fun ls hl => ?_)
    refine lv_goto (tgt := 2658) F.1 F.2.1 dL_law_2735 (by decide) ?_
    exact ih2658 ls hlt2658 (lv_sub hl [0, 1, 2, 3, 4, 5, 6, 7, 8, 9, 10, 11, 12, 13, 14, 15, 16, 17, 18, 19, 20, 21] rfl)
  have hkn2658 : k2658 = (gv S) := GB_ile (n := gv S) rfl (by omega) hk2658 c_1
  subst hkn2658
  exact kk ls (lv_sub hl [1, 2, 3, 4, 5, 6, 7, 8, 9, 10, 11, 12, 13, 14, 15, 16, 17, 18, 19, 20, 21] rfl)
set_option maxHeartbeats 4000000 in
set_option maxRecDepth 100000 in
theorem lc_ban_r {p : Program} {l : Launch} {e : Env} {R : Room} {s : State} {m : MethodId} {args : Array Value} {below : List Frame} {meth : Method} {c : Code} {Q : State → Prop} {D : va_G} {cy : Nat → ClassId} {A : Nat → Prop} {o b t i v s9 N k : Nat} {ad : Nat → Nat} {u v12 : Int32} {n n1 c1 s1 : Nat} {G M S : GS} {Wf : Nat → Int64} (F : CallFix p m c cL_law 40 s args BIG RL) (hRm : 11 ≤ R.frames ∧ 278 ≤ R.locals ∧ c1 ≤ R.cells ∧ s1 ≤ R.slots) (hs4 : s9 < 4)  (h2 : S 10 2 = nI N ∧ N ≤ 50) (hk : k ≤ N) {X Y : MU} {AD : AM} {H : Heap} {locs : List Loc} {cells slots : Nat} (hf : cells + 0 ≤ c1 ∧ slots + 0 ≤ s1) (hn : n + 0 ≤ n1) (ho : AD 0 0 0 = o) (hd : dis X Y) (hM : RepC cy AD G X) (hY : RepL cy ad S Wf Y) (w : WW D cy A (un X Y) s H locs) {ls : Array Slot} (K1 : k = N → ∀ ls, lv_has ls 40 [(0, .ref b), (1, .ref o), (2, .ref (ad 2)), (3, .ref (ad 3)), (4, .ref (ad 4)), (5, .ref (ad 5)), (6, .ref (ad 6)), (7, .ref (ad 7)), (8, .ref (ad 8)), (9, .ref (ad 9)), (10, .ref (ad 10)), (11, .int (nI t)), (12, .int v12), (13, .int u), (14, .int (nI i)), (15, .int (nI (14 * i))), (16, .int (nI v)), (17, .int 1)] → W p l e R s m args below meth c H locs cells slots Q (F0 m 3461 ls [])) (K2 : k < N → ∀ {Y : MU} {H : Heap} {locs : List Loc} {ls : Array Slot}, dis X Y → RepL cy ad (bnS S s9 k) Wf Y → WW D cy A (un X Y) s H locs → lv_has ls 40 [(34, .int (nI (k + 1))), (30, .int (nI s9)), (0, .ref b), (1, .ref o), (2, .ref (ad 2)), (3, .ref (ad 3)), (4, .ref (ad 4)), (5, .ref (ad 5)), (6, .ref (ad 6)), (7, .ref (ad 7)), (8, .ref (ad 8)), (9, .ref (ad 9)), (10, .ref (ad 10)), (11, .int (nI t)), (12, .int v12), (13, .int u), (14, .int (nI i)), (15, .int (nI (14 * i))), (16, .int (nI v)), (17, .int 1)] → W p l e R s m args below meth c H locs cells slots Q (F0 m 2779 ls [])) (hl : lv_has ls 40 [(34, .int (nI k)), (30, .int (nI s9)), (0, .ref b), (1, .ref o), (2, .ref (ad 2)), (3, .ref (ad 3)), (4, .ref (ad 4)), (5, .ref (ad 5)), (6, .ref (ad 6)), (7, .ref (ad 7)), (8, .ref (ad 8)), (9, .ref (ad 9)), (10, .ref (ad 10)), (11, .int (nI t)), (12, .int v12), (13, .int u), (14, .int (nI i)), (15, .int (nI (14 * i))), (16, .int (nI v)), (17, .int 1)]) : W p l e R s m args below meth c H locs cells slots Q (F0 m 2779 ls []) := by
  have hL := hY.un hd
  have h50 := h2.2
  refine lv_iload F.1 F.2.1 dL_law_2779 (lv_at hl 0 rfl) ?_
  refine lv_aload F.1 F.2.1 dL_law_2781 (lv_at hl 12 rfl) ?_
  refine lv_iconst (v := 2) F.1 F.2.1 dL_law_2783 (by decide) ?_
  refine l_ild F w hL 10 rfl 2 (show 2 < 9 by omega) dL_law_2784 ?_
  refine lv_fold (y := nI N) (h2.1) ?_
  refine lv_icmp_ge (tgt := 2844) F.1 F.2.1 dL_law_2785 (by decide) (fun c_1 => ?_) (fun c_1 => ?_)
  · refine lv_goto (tgt := 3461) F.1 F.2.1 dL_law_2844 (by decide) ?_
    exact K1 (Nat.le_antisymm hk ((nI_leI (by omega) (by omega)).mp c_1)) ls (lv_sub hl [2, 3, 4, 5, 6, 7, 8, 9, 10, 11, 12, 13, 14, 15, 16, 17, 18, 19] rfl)
  · have hkN : k < N := Nat.lt_of_not_le (fun q => c_1 (nI_le q (by omega)))
    refine lv_aload F.1 F.2.1 dL_law_2788 (lv_at hl 7 rfl) ?_
    refine lv_iload F.1 F.2.1 dL_law_2790 (lv_at hl 0 rfl) ?_
    refine l_ild F w hL 5 rfl k (show k < 50 by omega) dL_law_2792 ?_
    refine lv_iconst (v := 3) F.1 F.2.1 dL_law_2793 (by decide) ?_
    refine lv_iand F.1 F.2.1 dL_law_2794 ?_
    refine lv_iload F.1 F.2.1 dL_law_2795 (lv_at hl 1 rfl) ?_
    refine lv_icmp_ne (tgt := 2838) F.1 F.2.1 dL_law_2797 (by decide) (fun c_2 => ?_) (fun c_2 => ?_)
    · refine lv_iinc (v := nI (k + 1)) (lv' := [(34, .int (nI (k + 1))), (30, .int (nI s9)), (0, .ref b), (1, .ref o), (2, .ref (ad 2)), (3, .ref (ad 3)), (4, .ref (ad 4)), (5, .ref (ad 5)), (6, .ref (ad 6)), (7, .ref (ad 7)), (8, .ref (ad 8)), (9, .ref (ad 9)), (10, .ref (ad 10)), (11, .int (nI t)), (12, .int v12), (13, .int u), (14, .int (nI i)), (15, .int (nI (14 * i))), (16, .int (nI v)), (17, .int 1)]) F.1 F.2.1 dL_law_2838 hl (k := 0) rfl (nI_1 _) (by decide) rfl (fun ls hl => ?_)
      refine lv_goto (tgt := 2779) F.1 F.2.1 dL_law_2841 (by decide) ?_
      exact K2 hkN hd (show RepL cy ad (bnS S s9 k) Wf Y from (by rw [show bnS S s9 k = S from (if_neg c_2)]; exact hY)) w (lv_sub hl [0, 1, 2, 3, 4, 5, 6, 7, 8, 9, 10, 11, 12, 13, 14, 15, 16, 17, 18, 19] rfl)
    · refine lv_aload F.1 F.2.1 dL_law_2800 (lv_at hl 8 rfl) ?_
      refine lv_iload F.1 F.2.1 dL_law_2802 (lv_at hl 0 rfl) ?_
      refine l_ild F w hL 6 rfl k (show k < 50 by omega) dL_law_2804 ?_
      refine lv_sipush (v := 1095) F.1 F.2.1 dL_law_2805 (by decide) ?_
      refine lv_iadd F.1 F.2.1 dL_law_2808 ?_
      refine lv_aload F.1 F.2.1 dL_law_2809 (lv_at hl 12 rfl) ?_
      refine lv_iconst (v := 0) F.1 F.2.1 dL_law_2811 (by decide) ?_
      refine l_ild F w hL 10 rfl 0 (show 0 < 9 by omega) dL_law_2812 ?_
      refine lv_icmp_le (tgt := 2838) F.1 F.2.1 dL_law_2813 (by decide) (fun c_3 => ?_) (fun c_3 => ?_)
      · refine lv_iinc (v := nI (k + 1)) (lv' := [(34, .int (nI (k + 1))), (30, .int (nI s9)), (0, .ref b), (1, .ref o), (2, .ref (ad 2)), (3, .ref (ad 3)), (4, .ref (ad 4)), (5, .ref (ad 5)), (6, .ref (ad 6)), (7, .ref (ad 7)), (8, .ref (ad 8)), (9, .ref (ad 9)), (10, .ref (ad 10)), (11, .int (nI t)), (12, .int v12), (13, .int u), (14, .int (nI i)), (15, .int (nI (14 * i))), (16, .int (nI v)), (17, .int 1)]) F.1 F.2.1 dL_law_2838 hl (k := 0) rfl (nI_1 _) (by decide) rfl (fun ls hl => ?_)
        refine lv_goto (tgt := 2779) F.1 F.2.1 dL_law_2841 (by decide) ?_
        exact K2 hkN hd (show RepL cy ad (bnS S s9 k) Wf Y from (by rw [show bnS S s9 k = S from ((if_pos c_2).trans (if_pos c_3))]; exact hY)) w (lv_sub hl [0, 1, 2, 3, 4, 5, 6, 7, 8, 9, 10, 11, 12, 13, 14, 15, 16, 17, 18, 19] rfl)
      · refine lv_iload F.1 F.2.1 dL_law_2816 (lv_at hl 0 rfl) ?_
        refine lv_aload F.1 F.2.1 dL_law_2818 (lv_at hl 7 rfl) ?_
        refine lv_aload F.1 F.2.1 dL_law_2820 (lv_at hl 9 rfl) ?_
        refine q_rS (rest := []) F w kS_L_104 hd_L_counts (c_L_counts l D cy A _ ad S Wf hL k (show k < 50 by omega)) dL_law_2822 rfl rfl hl.1 ⟨rfl, rfl, (show 2 ≤ R.frames by omega), (show 42 ≤ R.locals by omega)⟩ (Nat.le_of_ble_eq_true rfl) ⟨by omega, by omega⟩ ?_
        refine lv_if_eq (tgt := 2838) F.1 F.2.1 dL_law_2825 (by decide) (fun c_4 => ?_) (fun c_4 => ?_)
        · refine lv_iinc (v := nI (k + 1)) (lv' := [(34, .int (nI (k + 1))), (30, .int (nI s9)), (0, .ref b), (1, .ref o), (2, .ref (ad 2)), (3, .ref (ad 3)), (4, .ref (ad 4)), (5, .ref (ad 5)), (6, .ref (ad 6)), (7, .ref (ad 7)), (8, .ref (ad 8)), (9, .ref (ad 9)), (10, .ref (ad 10)), (11, .int (nI t)), (12, .int v12), (13, .int u), (14, .int (nI i)), (15, .int (nI (14 * i))), (16, .int (nI v)), (17, .int 1)]) F.1 F.2.1 dL_law_2838 hl (k := 0) rfl (nI_1 _) (by decide) rfl (fun ls hl => ?_)
          refine lv_goto (tgt := 2779) F.1 F.2.1 dL_law_2841 (by decide) ?_
          exact K2 hkN hd (show RepL cy ad (bnS S s9 k) Wf Y from (by rw [show bnS S s9 k = S from ((if_pos c_2).trans ((if_neg c_3).trans (if_pos c_4)))]; exact hY)) w (lv_sub hl [0, 1, 2, 3, 4, 5, 6, 7, 8, 9, 10, 11, 12, 13, 14, 15, 16, 17, 18, 19] rfl)
        · refine lv_aload F.1 F.2.1 dL_law_2828 (lv_at hl 7 rfl) ?_
          refine lv_iload F.1 F.2.1 dL_law_2830 (lv_at hl 0 rfl) ?_
          refine lv_dup2_11 F.1 F.2.1 dL_law_2832 rfl rfl ?_
          refine l_ild F w hL 5 rfl k (show k < 50 by omega) dL_law_2833 ?_
          refine lv_ldc F.1 F.2.1 F.2.2.2.1 (F.2.2.2.2 _ wK_L_194) dL_law_2834 ?_
          refine lv_ior F.1 F.2.1 dL_law_2836 ?_
          refine l_ist F w hd hY 5 rfl k (show k < 50 by omega) dL_law_2837 (fun H locs Y hd hY w => ?_)
          have hL := hY.un hd
          refine lv_iinc (v := nI (k + 1)) (lv' := [(34, .int (nI (k + 1))), (30, .int (nI s9)), (0, .ref b), (1, .ref o), (2, .ref (ad 2)), (3, .ref (ad 3)), (4, .ref (ad 4)), (5, .ref (ad 5)), (6, .ref (ad 6)), (7, .ref (ad 7)), (8, .ref (ad 8)), (9, .ref (ad 9)), (10, .ref (ad 10)), (11, .int (nI t)), (12, .int v12), (13, .int u), (14, .int (nI i)), (15, .int (nI (14 * i))), (16, .int (nI v)), (17, .int 1)]) F.1 F.2.1 dL_law_2838 hl (k := 0) rfl (nI_1 _) (by decide) rfl (fun ls hl => ?_)
          refine lv_goto (tgt := 2779) F.1 F.2.1 dL_law_2841 (by decide) ?_
          exact K2 hkN hd (show RepL cy ad (bnS S s9 k) Wf Y from (by rw [show bnS S s9 k = up2 S 5 k ((S 5 k) ||| 262144) from ((if_pos c_2).trans ((if_neg c_3).trans (if_neg c_4)))]; exact hY)) w (lv_sub hl [0, 1, 2, 3, 4, 5, 6, 7, 8, 9, 10, 11, 12, 13, 14, 15, 16, 17, 18, 19] rfl)
set_option maxHeartbeats 4000000 in
theorem lc_ban {p : Program} {l : Launch} {e : Env} {R : Room} {s : State} {m : MethodId} {args : Array Value} {below : List Frame} {meth : Method} {c : Code} {Q : State → Prop} {D : va_G} {cy : Nat → ClassId} {A : Nat → Prop} {o b t i v s9 N : Nat} {ad : Nat → Nat} {u v12 : Int32} {n n1 c1 s1 : Nat} {G M S : GS} {Wf : Nat → Int64} (F : CallFix p m c cL_law 40 s args BIG RL) (hRm : 11 ≤ R.frames ∧ 278 ≤ R.locals ∧ c1 ≤ R.cells ∧ s1 ≤ R.slots) (hs4 : s9 < 4)  (h2 : S 10 2 = nI N ∧ N ≤ 50) {X Y : MU} {AD : AM} {H : Heap} {locs : List Loc} {cells slots : Nat} (hf : cells + 0 ≤ c1 ∧ slots + 0 ≤ s1) (hn : n + 0 ≤ n1) (ho : AD 0 0 0 = o) (hd : dis X Y) (hM : RepC cy AD G X) (hY : RepL cy ad S Wf Y) (w : WW D cy A (un X Y) s H locs) {ls : Array Slot} (K0 : ∀ {Y : MU} {H : Heap} {locs : List Loc} {ls : Array Slot}, dis X Y → RepL cy ad (bn S s9 N) Wf Y → WW D cy A (un X Y) s H locs → lv_has ls 40 [(0, .ref b), (1, .ref o), (2, .ref (ad 2)), (3, .ref (ad 3)), (4, .ref (ad 4)), (5, .ref (ad 5)), (6, .ref (ad 6)), (7, .ref (ad 7)), (8, .ref (ad 8)), (9, .ref (ad 9)), (10, .ref (ad 10)), (11, .int (nI t)), (12, .int v12), (13, .int u), (14, .int (nI i)), (15, .int (nI (14 * i))), (16, .int (nI v)), (17, .int 1)] → W p l e R s m args below meth c H locs cells slots Q (F0 m 3461 ls [])) (hl : lv_has ls 40 [(34, .int (nI 0)), (30, .int (nI s9)), (0, .ref b), (1, .ref o), (2, .ref (ad 2)), (3, .ref (ad 3)), (4, .ref (ad 4)), (5, .ref (ad 5)), (6, .ref (ad 6)), (7, .ref (ad 7)), (8, .ref (ad 8)), (9, .ref (ad 9)), (10, .ref (ad 10)), (11, .int (nI t)), (12, .int v12), (13, .int u), (14, .int (nI i)), (15, .int (nI (14 * i))), (16, .int (nI v)), (17, .int 1)]) : W p l e R s m args below meth c H locs cells slots Q (F0 m 2779 ls []) := by
  have h : ∀ (d k : Nat), k + d = N → ∀ {Y : MU} {H : Heap} {locs : List Loc} {ls : Array Slot}, dis X Y → RepL cy ad (bn S s9 k) Wf Y → WW D cy A (un X Y) s H locs → lv_has ls 40 [(34, .int (nI k)), (30, .int (nI s9)), (0, .ref b), (1, .ref o), (2, .ref (ad 2)), (3, .ref (ad 3)), (4, .ref (ad 4)), (5, .ref (ad 5)), (6, .ref (ad 6)), (7, .ref (ad 7)), (8, .ref (ad 8)), (9, .ref (ad 9)), (10, .ref (ad 10)), (11, .int (nI t)), (12, .int v12), (13, .int u), (14, .int (nI i)), (15, .int (nI (14 * i))), (16, .int (nI v)), (17, .int 1)] → W p l e R s m args below meth c H locs cells slots Q (F0 m 2779 ls []) := by
    intro d
    induction d with
    | zero =>
      intro k hk Y H locs ls hd hY w hl
      have hkN : k = N := hk
      subst hkN
      exact lc_ban_r (M := M) (G := G) F hRm hs4 (N := k) (by rw [bn_ne S s9 k 10 (by decide)]; exact h2) (Nat.le_refl _) hf hn ho hd hM hY w (fun _ ls hl => K0 hd hY w hl) (fun q => absurd q (Nat.lt_irrefl _)) hl
    | succ d ih =>
      intro k hk Y H locs ls hd hY w hl
      exact lc_ban_r (M := M) (G := G) F hRm hs4 (N := N) (by rw [bn_ne S s9 k 10 (by decide)]; exact h2) (by omega) hf hn ho hd hM hY w (fun q => absurd q (by omega)) (fun _ {Y H locs ls} hd hY w hl => ih (k + 1) (by omega) hd hY w hl) hl
  exact h N 0 (by omega) hd hY w hl
set_option maxHeartbeats 4000000 in
set_option maxRecDepth 100000 in
theorem lc_detain {p : Program} {l : Launch} {e : Env} {R : Room} {s : State} {m : MethodId} {args : Array Value} {below : List Frame} {meth : Method} {c : Code} {Q : State → Prop} {D : va_G} {cy : Nat → ClassId} {A : Nat → Prop} {o b t i v : Nat} {ad : Nat → Nat} {u v12 : Int32} {n n1 c1 s1 : Nat} {G M S : GS} {Wf : Nat → Int64} (F : CallFix p m c cL_law 40 s args BIG RL) (hlf : l.stackTraces = false) (hRm : 11 ≤ R.frames ∧ 278 ≤ R.locals ∧ c1 ≤ R.cells ∧ s1 ≤ R.slots) (h511 : n1 ≤ 511) (K : KJ p l e R s m args below meth c Q D cy A o b t ad u n1 c1 s1) (hR : R26 n G M S Wf) (hi4 : i < 4) (hi0 : gnS M = 0 ∨ i < gnS M) (hv50 : v < 50) (hv0 : gnV M = 0 ∨ v < gnV M) {X Y : MU} {AD : AM} {H : Heap} {locs : List Loc} {cells slots : Nat} (hf : cells + 30 ≤ c1 ∧ slots + 9500 ≤ s1) (hn : n + 4 ≤ n1) (ho : AD 0 0 0 = o) (hd : dis X Y) (hM : RepC cy AD G X) (hY : RepL cy ad S Wf Y) (w : WW D cy A (un X Y) s H locs) {ls : Array Slot} (hl : lv_has ls 40 [(0, .ref b), (1, .ref o), (2, .ref (ad 2)), (3, .ref (ad 3)), (4, .ref (ad 4)), (5, .ref (ad 5)), (6, .ref (ad 6)), (7, .ref (ad 7)), (8, .ref (ad 8)), (9, .ref (ad 9)), (10, .ref (ad 10)), (11, .int (nI t)), (12, .int v12), (13, .int u), (14, .int (nI i)), (15, .int (nI (14 * i))), (16, .int (nI v)), (17, .int 1)]) : W p l e R s m args below meth c H locs cells slots Q (F0 m 2523 ls []) := by
  have hL := hY.un hd
  obtain ⟨t9, ht9, ht⟩ := hR.td
  have hb4 := hR.b
  have heV := hR.eV
  refine lv_aload F.1 F.2.1 dL_law_2523 (lv_at hl 10 rfl) ?_
  refine lv_iconst (v := 2) F.1 F.2.1 dL_law_2525 (by decide) ?_
  refine l_ild F w hL 10 rfl 2 (show 2 < 9 by omega) dL_law_2526 ?_
  refine lv_if_ne (tgt := 2533) F.1 F.2.1 dL_law_2527 (by decide) (fun c_1 => ?_) (fun c_1 => ?_)
  · have hv := vi_ok hR hv0 c_1
    obtain ⟨s9, hs9, e30, e5⟩ := vi_s hR hv
    have hs4 : s9 < 4 := by omega
    refine lv_aload F.1 F.2.1 dL_law_2533 (lv_at hl 5 rfl) ?_
    refine lv_iload F.1 F.2.1 dL_law_2535 (lv_at hl 16 rfl) ?_
    refine l_ild F w hL 5 rfl v (show v < 50 by omega) dL_law_2537 ?_
    refine lv_iconst (v := 3) F.1 F.2.1 dL_law_2538 (by decide) ?_
    refine lv_iand F.1 F.2.1 dL_law_2539 ?_
    refine lv_fold (y := nI s9) (e5) ?_
    refine lv_istore (lv' := [(30, .int (nI s9)), (0, .ref b), (1, .ref o), (2, .ref (ad 2)), (3, .ref (ad 3)), (4, .ref (ad 4)), (5, .ref (ad 5)), (6, .ref (ad 6)), (7, .ref (ad 7)), (8, .ref (ad 8)), (9, .ref (ad 9)), (10, .ref (ad 10)), (11, .int (nI t)), (12, .int v12), (13, .int u), (14, .int (nI i)), (15, .int (nI (14 * i))), (16, .int (nI v)), (17, .int 1)]) F.1 F.2.1 dL_law_2540 hl (by decide) rfl (fun ls hl => ?_)
    refine lv_aload_n F.1 F.2.1 dL_law_2542 rfl (lv_at hl 3 rfl) ?_
    refine lv_bipush (v := 14) F.1 F.2.1 dL_law_2543 (by decide) ?_
    refine lv_iload F.1 F.2.1 dL_law_2545 (lv_at hl 0 rfl) ?_
    refine lv_imul F.1 F.2.1 dL_law_2547 ?_
    refine lv_fold (y := nI (14 * s9)) (pk_mul 14 s9) ?_
    refine lv_bipush (v := 7) F.1 F.2.1 dL_law_2548 (by decide) ?_
    refine lv_iadd F.1 F.2.1 dL_law_2550 ?_
    refine lv_fold (y := nI ((14 * s9) + 7)) (nI_add (14 * s9) 7) ?_
    refine l_ild F w hL 2 rfl ((14 * s9) + 7) (show (14 * s9) + 7 < 56 by omega) dL_law_2551 ?_
    refine lv_iload F.1 F.2.1 dL_law_2552 (lv_at hl 17 rfl) ?_
    refine lv_icmp_ne (tgt := 2598) F.1 F.2.1 dL_law_2554 (by decide) (fun c_2 => ?_) (fun c_2 => ?_)
    · refine lv_iconst (v := 0) F.1 F.2.1 dL_law_2598 (by decide) ?_
      refine lv_istore (lv' := [(31, .int 0), (30, .int (nI s9)), (0, .ref b), (1, .ref o), (2, .ref (ad 2)), (3, .ref (ad 3)), (4, .ref (ad 4)), (5, .ref (ad 5)), (6, .ref (ad 6)), (7, .ref (ad 7)), (8, .ref (ad 8)), (9, .ref (ad 9)), (10, .ref (ad 10)), (11, .int (nI t)), (12, .int v12), (13, .int u), (14, .int (nI i)), (15, .int (nI (14 * i))), (16, .int (nI v)), (17, .int 1)]) F.1 F.2.1 dL_law_2599 hl (by decide) rfl (fun ls hl => ?_)
      refine lv_iload F.1 F.2.1 dL_law_2601 (lv_at hl 0 rfl) ?_
      refine lv_if_ne (tgt := 2628) F.1 F.2.1 dL_law_2603 (by decide) (fun c_3 => absurd rfl c_3) (fun c_3 => ?_)
      refine lv_aload_n F.1 F.2.1 dL_law_2606 rfl (lv_at hl 3 rfl) ?_
      refine lv_iload F.1 F.2.1 dL_law_2607 (lv_at hl 18 rfl) ?_
      refine lw_detain (rest := []) F w hd hM ho hR.r.ic (nI v) (fun s9 hs9 => hR.r.gn (by omega) hs9) hlf dL_law_2609 hl.1 ⟨by omega, by omega⟩ (Nat.le_of_ble_eq_true rfl) ⟨by omega, by omega⟩ (fun v2609 X AD H locs hv2609 ho hd hM w => ?_)
      have hL := hY.un hd
      refine lv_fold (y := (-7300)) (hv2609.trans ((dt_no hR hv hs9 e30 (Or.inl c_2)).1)) ?_
      refine lv_sipush (v := -7300) F.1 F.2.1 dL_law_2612 (by decide) ?_
      refine lv_icmp_ne (tgt := 2622) F.1 F.2.1 dL_law_2615 (by decide) (fun c_4 => absurd rfl c_4) (fun c_4 => ?_)
      refine lv_iconst (v := 1) F.1 F.2.1 dL_law_2618 (by decide) ?_
      refine lv_goto (tgt := 2623) F.1 F.2.1 dL_law_2619 (by decide) ?_
      refine lv_istore (lv' := [(17, .int 1), (31, .int 0), (30, .int (nI s9)), (0, .ref b), (1, .ref o), (2, .ref (ad 2)), (3, .ref (ad 3)), (4, .ref (ad 4)), (5, .ref (ad 5)), (6, .ref (ad 6)), (7, .ref (ad 7)), (8, .ref (ad 8)), (9, .ref (ad 9)), (10, .ref (ad 10)), (11, .int (nI t)), (12, .int v12), (13, .int u), (14, .int (nI i)), (15, .int (nI (14 * i))), (16, .int (nI v))]) F.1 F.2.1 dL_law_2623 hl (by decide) rfl (fun ls hl => ?_)
      refine lv_goto (tgt := 3461) F.1 F.2.1 dL_law_2625 (by decide) ?_
      rw [(dt_no hR hv hs9 e30 (Or.inl c_2)).2] at hM
      refine W.widen (k := c1) (n := s1) (by omega) (by omega) ?_
      exact K _ _ ls ⟨X, Y, AD, _, _, _, _, ho, hd, hM, hY, w, R26.ups hR (by omega)⟩ (lv_sub hl [0, 3, 4, 5, 6, 7, 8, 9, 10, 11, 12, 13, 14, 16] rfl)
    · refine lv_aload F.1 F.2.1 dL_law_2557 (lv_at hl 8 rfl) ?_
      refine lv_iload F.1 F.2.1 dL_law_2559 (lv_at hl 17 rfl) ?_
      refine l_ild F w hL 7 rfl v (show v < 50 by omega) dL_law_2561 ?_
      refine lv_iconst (v := -1) F.1 F.2.1 dL_law_2562 (by decide) ?_
      refine lv_icmp_ne (tgt := 2598) F.1 F.2.1 dL_law_2563 (by decide) (fun c_5 => ?_) (fun c_5 => ?_)
      · refine lv_iconst (v := 0) F.1 F.2.1 dL_law_2598 (by decide) ?_
        refine lv_istore (lv' := [(31, .int 0), (30, .int (nI s9)), (0, .ref b), (1, .ref o), (2, .ref (ad 2)), (3, .ref (ad 3)), (4, .ref (ad 4)), (5, .ref (ad 5)), (6, .ref (ad 6)), (7, .ref (ad 7)), (8, .ref (ad 8)), (9, .ref (ad 9)), (10, .ref (ad 10)), (11, .int (nI t)), (12, .int v12), (13, .int u), (14, .int (nI i)), (15, .int (nI (14 * i))), (16, .int (nI v)), (17, .int 1)]) F.1 F.2.1 dL_law_2599 hl (by decide) rfl (fun ls hl => ?_)
        refine lv_iload F.1 F.2.1 dL_law_2601 (lv_at hl 0 rfl) ?_
        refine lv_if_ne (tgt := 2628) F.1 F.2.1 dL_law_2603 (by decide) (fun c_6 => absurd rfl c_6) (fun c_6 => ?_)
        refine lv_aload_n F.1 F.2.1 dL_law_2606 rfl (lv_at hl 3 rfl) ?_
        refine lv_iload F.1 F.2.1 dL_law_2607 (lv_at hl 18 rfl) ?_
        refine lw_detain (rest := []) F w hd hM ho hR.r.ic (nI v) (fun s9 hs9 => hR.r.gn (by omega) hs9) hlf dL_law_2609 hl.1 ⟨by omega, by omega⟩ (Nat.le_of_ble_eq_true rfl) ⟨by omega, by omega⟩ (fun v2609 X AD H locs hv2609 ho hd hM w => ?_)
        have hL := hY.un hd
        refine lv_fold (y := (-7300)) (hv2609.trans ((dt_no hR hv hs9 e30 (Or.inr (Or.inl c_5))).1)) ?_
        refine lv_sipush (v := -7300) F.1 F.2.1 dL_law_2612 (by decide) ?_
        refine lv_icmp_ne (tgt := 2622) F.1 F.2.1 dL_law_2615 (by decide) (fun c_7 => absurd rfl c_7) (fun c_7 => ?_)
        refine lv_iconst (v := 1) F.1 F.2.1 dL_law_2618 (by decide) ?_
        refine lv_goto (tgt := 2623) F.1 F.2.1 dL_law_2619 (by decide) ?_
        refine lv_istore (lv' := [(17, .int 1), (31, .int 0), (30, .int (nI s9)), (0, .ref b), (1, .ref o), (2, .ref (ad 2)), (3, .ref (ad 3)), (4, .ref (ad 4)), (5, .ref (ad 5)), (6, .ref (ad 6)), (7, .ref (ad 7)), (8, .ref (ad 8)), (9, .ref (ad 9)), (10, .ref (ad 10)), (11, .int (nI t)), (12, .int v12), (13, .int u), (14, .int (nI i)), (15, .int (nI (14 * i))), (16, .int (nI v))]) F.1 F.2.1 dL_law_2623 hl (by decide) rfl (fun ls hl => ?_)
        refine lv_goto (tgt := 3461) F.1 F.2.1 dL_law_2625 (by decide) ?_
        rw [(dt_no hR hv hs9 e30 (Or.inr (Or.inl c_5))).2] at hM
        refine W.widen (k := c1) (n := s1) (by omega) (by omega) ?_
        exact K _ _ ls ⟨X, Y, AD, _, _, _, _, ho, hd, hM, hY, w, R26.ups hR (by omega)⟩ (lv_sub hl [0, 3, 4, 5, 6, 7, 8, 9, 10, 11, 12, 13, 14, 16] rfl)
      · refine lv_iload F.1 F.2.1 dL_law_2566 (lv_at hl 17 rfl) ?_
        refine lv_iconst (v := 1) F.1 F.2.1 dL_law_2568 (by decide) ?_
        refine lv_aload F.1 F.2.1 dL_law_2569 (lv_at hl 6 rfl) ?_
        refine lv_aload F.1 F.2.1 dL_law_2571 (lv_at hl 9 rfl) ?_
        refine lv_aload F.1 F.2.1 dL_law_2573 (lv_at hl 10 rfl) ?_
        refine q_rS (rest := []) F w kS_L_153 hd_L_open (c_L_open l D cy A _ ad S Wf hL v 1 (show v < 50 by omega)) dL_law_2575 rfl rfl hl.1 ⟨rfl, rfl, (show 2 ≤ R.frames by omega), (show 46 ≤ R.locals by omega)⟩ (Nat.le_of_ble_eq_true rfl) ⟨by omega, by omega⟩ ?_
        refine lv_bipush (v := 9) F.1 F.2.1 dL_law_2578 (by decide) ?_
        refine lv_icmp_gt (tgt := 2594) F.1 F.2.1 dL_law_2580 (by decide) (fun c_8 => ?_) (fun c_8 => ?_)
        · refine lv_iconst (v := 1) F.1 F.2.1 dL_law_2594 (by decide) ?_
          refine lv_goto (tgt := 2599) F.1 F.2.1 dL_law_2595 (by decide) ?_
          refine lv_istore (lv' := [(31, .int 1), (30, .int (nI s9)), (0, .ref b), (1, .ref o), (2, .ref (ad 2)), (3, .ref (ad 3)), (4, .ref (ad 4)), (5, .ref (ad 5)), (6, .ref (ad 6)), (7, .ref (ad 7)), (8, .ref (ad 8)), (9, .ref (ad 9)), (10, .ref (ad 10)), (11, .int (nI t)), (12, .int v12), (13, .int u), (14, .int (nI i)), (15, .int (nI (14 * i))), (16, .int (nI v)), (17, .int 1)]) F.1 F.2.1 dL_law_2599 hl (by decide) rfl (fun ls hl => ?_)
          refine lv_iload F.1 F.2.1 dL_law_2601 (lv_at hl 0 rfl) ?_
          refine lv_if_ne (tgt := 2628) F.1 F.2.1 dL_law_2603 (by decide) (fun c_9 => ?_) (fun c_9 => absurd c_9 (by decide))
          refine lv_aload F.1 F.2.1 dL_law_2628 (lv_at hl 9 rfl) ?_
          refine lv_iload F.1 F.2.1 dL_law_2630 (lv_at hl 18 rfl) ?_
          refine lv_aload F.1 F.2.1 dL_law_2632 (lv_at hl 12 rfl) ?_
          refine lv_iconst (v := 0) F.1 F.2.1 dL_law_2634 (by decide) ?_
          refine l_ild F w hL 10 rfl 0 (show 0 < 9 by omega) dL_law_2635 ?_
          refine l_ist F w hd hY 7 rfl v (show v < 50 by omega) dL_law_2636 (fun H locs Y hd hY w => ?_)
          have hL := hY.un hd
          refine lv_aload_n F.1 F.2.1 dL_law_2637 rfl (lv_at hl 4 rfl) ?_
          refine lv_bipush (v := 14) F.1 F.2.1 dL_law_2638 (by decide) ?_
          refine lv_iload F.1 F.2.1 dL_law_2640 (lv_at hl 1 rfl) ?_
          refine lv_imul F.1 F.2.1 dL_law_2642 ?_
          refine lv_fold (y := nI (14 * s9)) (pk_mul 14 s9) ?_
          refine lv_bipush (v := 9) F.1 F.2.1 dL_law_2643 (by decide) ?_
          refine lv_iadd F.1 F.2.1 dL_law_2645 ?_
          refine lv_fold (y := nI ((14 * s9) + 9)) (nI_add (14 * s9) 9) ?_
          refine lv_iload F.1 F.2.1 dL_law_2646 (lv_at hl 18 rfl) ?_
          refine l_ist F w hd hY 2 rfl ((14 * s9) + 9) (show (14 * s9) + 9 < 56 by omega) dL_law_2648 (fun H locs Y hd hY w => ?_)
          have hL := hY.un hd
          have hY : RepL cy ad (dS S v s9) Wf Y := hY
          refine lc_all (N := 0) (k := 0) (S := dS S v s9) (M := M) (n := n) (n1 := n1) (c1 := c1) (s1 := s1) (G := G) F hRm hs4 hR.hV ⟨by omega, by omega⟩ (by omega) ho hd hM hY w (fun ls hl => ?_) (lv_sub hl [1, 2, 3, 4, 5, 6, 7, 8, 9, 10, 11, 12, 13, 14, 15, 16, 17, 18, 19] rfl)
          refine lv_aload_n F.1 F.2.1 dL_law_2738 rfl (lv_at hl 4 rfl) ?_
          refine lv_iload F.1 F.2.1 dL_law_2739 (lv_at hl 19 rfl) ?_
          refine lw_detain (rest := []) F w hd hM ho hR.r.ic (nI v) (fun s9 hs9 => hR.r.gn (by omega) hs9) hlf dL_law_2741 hl.1 ⟨by omega, by omega⟩ (Nat.le_of_ble_eq_true rfl) ⟨by omega, by omega⟩ (fun v2741 X AD H locs hv2741 ho hd hM w => ?_)
          have hL := hY.un hd
          refine lv_fold (y := L_L_law_all_2658_32 (dS S v s9) s9 (gv (dS S v s9))) (hv2741.trans ((dt_ok hR (by omega) hv hs9 e30 c_2 c_5 (Or.inl c_8)).1)) ?_
          refine lv_iload F.1 F.2.1 dL_law_2744 (lv_at hl 1 rfl) ?_
          refine lv_icmp_ne (tgt := 2753) F.1 F.2.1 dL_law_2746 (by decide) (fun c_10 => absurd rfl c_10) (fun c_10 => ?_)
          refine lv_iconst (v := 1) F.1 F.2.1 dL_law_2749 (by decide) ?_
          refine lv_goto (tgt := 2754) F.1 F.2.1 dL_law_2750 (by decide) ?_
          refine lv_istore (lv' := [(17, .int 1), (33, .int (L_L_law_all_2658_33 (dS S v s9) s9 (gv (dS S v s9)))), (32, .int (L_L_law_all_2658_32 (dS S v s9) s9 (gv (dS S v s9)))), (30, .int (nI s9)), (0, .ref b), (1, .ref o), (2, .ref (ad 2)), (3, .ref (ad 3)), (4, .ref (ad 4)), (5, .ref (ad 5)), (6, .ref (ad 6)), (7, .ref (ad 7)), (8, .ref (ad 8)), (9, .ref (ad 9)), (10, .ref (ad 10)), (11, .int (nI t)), (12, .int v12), (13, .int u), (14, .int (nI i)), (15, .int (nI (14 * i))), (16, .int (nI v))]) F.1 F.2.1 dL_law_2754 hl (by decide) rfl (fun ls hl => ?_)
          refine lv_iload F.1 F.2.1 dL_law_2756 (lv_at hl 1 rfl) ?_
          refine lv_iconst (v := 3) F.1 F.2.1 dL_law_2758 (by decide) ?_
          refine lv_icmp_ge (tgt := 2765) F.1 F.2.1 dL_law_2759 (by decide) (fun c_11 => ?_) (fun c_11 => ?_)
          · refine lv_aload_n F.1 F.2.1 dL_law_2765 rfl (lv_at hl 6 rfl) ?_
            refine lv_bipush (v := 14) F.1 F.2.1 dL_law_2766 (by decide) ?_
            refine lv_iload F.1 F.2.1 dL_law_2768 (lv_at hl 3 rfl) ?_
            refine lv_imul F.1 F.2.1 dL_law_2770 ?_
            refine lv_fold (y := nI (14 * s9)) (pk_mul 14 s9) ?_
            refine lv_bipush (v := 10) F.1 F.2.1 dL_law_2771 (by decide) ?_
            refine lv_iadd F.1 F.2.1 dL_law_2773 ?_
            refine lv_fold (y := nI ((14 * s9) + 10)) (nI_add (14 * s9) 10) ?_
            refine lv_iconst (v := 1) F.1 F.2.1 dL_law_2774 (by decide) ?_
            refine l_ist F w hd hY 2 rfl ((14 * s9) + 10) (show (14 * s9) + 10 < 56 by omega) dL_law_2775 (fun H locs Y hd hY w => ?_)
            have hL := hY.un hd
            refine lv_iconst (v := 0) F.1 F.2.1 dL_law_2776 (by decide) ?_
            refine lv_istore (lv' := [(34, .int 0), (17, .int 1), (33, .int (L_L_law_all_2658_33 (dS S v s9) s9 (gv (dS S v s9)))), (32, .int (L_L_law_all_2658_32 (dS S v s9) s9 (gv (dS S v s9)))), (30, .int (nI s9)), (0, .ref b), (1, .ref o), (2, .ref (ad 2)), (3, .ref (ad 3)), (4, .ref (ad 4)), (5, .ref (ad 5)), (6, .ref (ad 6)), (7, .ref (ad 7)), (8, .ref (ad 8)), (9, .ref (ad 9)), (10, .ref (ad 10)), (11, .int (nI t)), (12, .int v12), (13, .int u), (14, .int (nI i)), (15, .int (nI (14 * i))), (16, .int (nI v))]) F.1 F.2.1 dL_law_2777 hl (by decide) rfl (fun ls hl => ?_)
            refine lc_ban (S := up2 (dS S v s9) 2 ((14 * s9) + 10) 1) (M := M) (n := n) (n1 := n1) (c1 := c1) (s1 := s1) (N := gv (dS S v s9)) F hRm hs4 hR.hV ⟨by omega, by omega⟩ (by omega) ho hd hM hY w (fun {Y H locs ls} hd hY w hl => ?_) (lv_sub hl [0, 4, 5, 6, 7, 8, 9, 10, 11, 12, 13, 14, 15, 16, 17, 18, 19, 20, 21, 1] rfl)
            refine W.widen (k := c1) (n := s1) (by omega) (by omega) ?_
            exact K _ _ ls ⟨X, Y, AD, _, _, _, _, ho, hd, hM, hY, w, R26.ups (dt_2 hR c_11 (dt_ok hR (by omega) hv hs9 e30 c_2 c_5 (Or.inl c_8)).2) (by omega)⟩ (lv_sub hl [17, 0, 1, 2, 3, 4, 5, 6, 7, 8, 9, 10, 11, 13] rfl)
          · refine lv_goto (tgt := 3461) F.1 F.2.1 dL_law_2762 (by decide) ?_
            refine W.widen (k := c1) (n := s1) (by omega) (by omega) ?_
            exact K _ _ ls ⟨X, Y, AD, _, _, _, _, ho, hd, hM, hY, w, R26.ups (dt_1 hR c_11 (dt_ok hR (by omega) hv hs9 e30 c_2 c_5 (Or.inl c_8)).2) (by omega)⟩ (lv_sub hl [0, 4, 5, 6, 7, 8, 9, 10, 11, 12, 13, 14, 15, 17] rfl)
        · refine lv_iload F.1 F.2.1 dL_law_2583 (lv_at hl 0 rfl) ?_
          refine lv_aload_n F.1 F.2.1 dL_law_2585 rfl (lv_at hl 4 rfl) ?_
          refine lv_aload F.1 F.2.1 dL_law_2586 (lv_at hl 11 rfl) ?_
          refine q_rS (rest := []) F w kS_L_130 hd_L_lapsed (c_L_lapsed l D cy A _ ad S Wf hL s9 (show s9 < 4 by omega) hR.cok) dL_law_2588 rfl rfl hl.1 ⟨rfl, rfl, (show 2 ≤ R.frames by omega), (show 51 ≤ R.locals by omega)⟩ (Nat.le_of_ble_eq_true rfl) ⟨by omega, by omega⟩ ?_
          refine lv_if_le (tgt := 2598) F.1 F.2.1 dL_law_2591 (by decide) (fun c_12 => ?_) (fun c_12 => ?_)
          · refine lv_iconst (v := 0) F.1 F.2.1 dL_law_2598 (by decide) ?_
            refine lv_istore (lv' := [(31, .int 0), (30, .int (nI s9)), (0, .ref b), (1, .ref o), (2, .ref (ad 2)), (3, .ref (ad 3)), (4, .ref (ad 4)), (5, .ref (ad 5)), (6, .ref (ad 6)), (7, .ref (ad 7)), (8, .ref (ad 8)), (9, .ref (ad 9)), (10, .ref (ad 10)), (11, .int (nI t)), (12, .int v12), (13, .int u), (14, .int (nI i)), (15, .int (nI (14 * i))), (16, .int (nI v)), (17, .int 1)]) F.1 F.2.1 dL_law_2599 hl (by decide) rfl (fun ls hl => ?_)
            refine lv_iload F.1 F.2.1 dL_law_2601 (lv_at hl 0 rfl) ?_
            refine lv_if_ne (tgt := 2628) F.1 F.2.1 dL_law_2603 (by decide) (fun c_13 => absurd rfl c_13) (fun c_13 => ?_)
            refine lv_aload_n F.1 F.2.1 dL_law_2606 rfl (lv_at hl 3 rfl) ?_
            refine lv_iload F.1 F.2.1 dL_law_2607 (lv_at hl 18 rfl) ?_
            refine lw_detain (rest := []) F w hd hM ho hR.r.ic (nI v) (fun s9 hs9 => hR.r.gn (by omega) hs9) hlf dL_law_2609 hl.1 ⟨by omega, by omega⟩ (Nat.le_of_ble_eq_true rfl) ⟨by omega, by omega⟩ (fun v2609 X AD H locs hv2609 ho hd hM w => ?_)
            have hL := hY.un hd
            refine lv_fold (y := (-7300)) (hv2609.trans ((dt_no hR hv hs9 e30 (Or.inr (Or.inr ⟨c_8, c_12⟩))).1)) ?_
            refine lv_sipush (v := -7300) F.1 F.2.1 dL_law_2612 (by decide) ?_
            refine lv_icmp_ne (tgt := 2622) F.1 F.2.1 dL_law_2615 (by decide) (fun c_14 => absurd rfl c_14) (fun c_14 => ?_)
            refine lv_iconst (v := 1) F.1 F.2.1 dL_law_2618 (by decide) ?_
            refine lv_goto (tgt := 2623) F.1 F.2.1 dL_law_2619 (by decide) ?_
            refine lv_istore (lv' := [(17, .int 1), (31, .int 0), (30, .int (nI s9)), (0, .ref b), (1, .ref o), (2, .ref (ad 2)), (3, .ref (ad 3)), (4, .ref (ad 4)), (5, .ref (ad 5)), (6, .ref (ad 6)), (7, .ref (ad 7)), (8, .ref (ad 8)), (9, .ref (ad 9)), (10, .ref (ad 10)), (11, .int (nI t)), (12, .int v12), (13, .int u), (14, .int (nI i)), (15, .int (nI (14 * i))), (16, .int (nI v))]) F.1 F.2.1 dL_law_2623 hl (by decide) rfl (fun ls hl => ?_)
            refine lv_goto (tgt := 3461) F.1 F.2.1 dL_law_2625 (by decide) ?_
            rw [(dt_no hR hv hs9 e30 (Or.inr (Or.inr ⟨c_8, c_12⟩))).2] at hM
            refine W.widen (k := c1) (n := s1) (by omega) (by omega) ?_
            exact K _ _ ls ⟨X, Y, AD, _, _, _, _, ho, hd, hM, hY, w, R26.ups hR (by omega)⟩ (lv_sub hl [0, 3, 4, 5, 6, 7, 8, 9, 10, 11, 12, 13, 14, 16] rfl)
          · refine lv_iconst (v := 1) F.1 F.2.1 dL_law_2594 (by decide) ?_
            refine lv_goto (tgt := 2599) F.1 F.2.1 dL_law_2595 (by decide) ?_
            refine lv_istore (lv' := [(31, .int 1), (30, .int (nI s9)), (0, .ref b), (1, .ref o), (2, .ref (ad 2)), (3, .ref (ad 3)), (4, .ref (ad 4)), (5, .ref (ad 5)), (6, .ref (ad 6)), (7, .ref (ad 7)), (8, .ref (ad 8)), (9, .ref (ad 9)), (10, .ref (ad 10)), (11, .int (nI t)), (12, .int v12), (13, .int u), (14, .int (nI i)), (15, .int (nI (14 * i))), (16, .int (nI v)), (17, .int 1)]) F.1 F.2.1 dL_law_2599 hl (by decide) rfl (fun ls hl => ?_)
            refine lv_iload F.1 F.2.1 dL_law_2601 (lv_at hl 0 rfl) ?_
            refine lv_if_ne (tgt := 2628) F.1 F.2.1 dL_law_2603 (by decide) (fun c_15 => ?_) (fun c_15 => absurd c_15 (by decide))
            refine lv_aload F.1 F.2.1 dL_law_2628 (lv_at hl 9 rfl) ?_
            refine lv_iload F.1 F.2.1 dL_law_2630 (lv_at hl 18 rfl) ?_
            refine lv_aload F.1 F.2.1 dL_law_2632 (lv_at hl 12 rfl) ?_
            refine lv_iconst (v := 0) F.1 F.2.1 dL_law_2634 (by decide) ?_
            refine l_ild F w hL 10 rfl 0 (show 0 < 9 by omega) dL_law_2635 ?_
            refine l_ist F w hd hY 7 rfl v (show v < 50 by omega) dL_law_2636 (fun H locs Y hd hY w => ?_)
            have hL := hY.un hd
            refine lv_aload_n F.1 F.2.1 dL_law_2637 rfl (lv_at hl 4 rfl) ?_
            refine lv_bipush (v := 14) F.1 F.2.1 dL_law_2638 (by decide) ?_
            refine lv_iload F.1 F.2.1 dL_law_2640 (lv_at hl 1 rfl) ?_
            refine lv_imul F.1 F.2.1 dL_law_2642 ?_
            refine lv_fold (y := nI (14 * s9)) (pk_mul 14 s9) ?_
            refine lv_bipush (v := 9) F.1 F.2.1 dL_law_2643 (by decide) ?_
            refine lv_iadd F.1 F.2.1 dL_law_2645 ?_
            refine lv_fold (y := nI ((14 * s9) + 9)) (nI_add (14 * s9) 9) ?_
            refine lv_iload F.1 F.2.1 dL_law_2646 (lv_at hl 18 rfl) ?_
            refine l_ist F w hd hY 2 rfl ((14 * s9) + 9) (show (14 * s9) + 9 < 56 by omega) dL_law_2648 (fun H locs Y hd hY w => ?_)
            have hL := hY.un hd
            have hY : RepL cy ad (dS S v s9) Wf Y := hY
            refine lc_all (N := 0) (k := 0) (S := dS S v s9) (M := M) (n := n) (n1 := n1) (c1 := c1) (s1 := s1) (G := G) F hRm hs4 hR.hV ⟨by omega, by omega⟩ (by omega) ho hd hM hY w (fun ls hl => ?_) (lv_sub hl [1, 2, 3, 4, 5, 6, 7, 8, 9, 10, 11, 12, 13, 14, 15, 16, 17, 18, 19] rfl)
            refine lv_aload_n F.1 F.2.1 dL_law_2738 rfl (lv_at hl 4 rfl) ?_
            refine lv_iload F.1 F.2.1 dL_law_2739 (lv_at hl 19 rfl) ?_
            refine lw_detain (rest := []) F w hd hM ho hR.r.ic (nI v) (fun s9 hs9 => hR.r.gn (by omega) hs9) hlf dL_law_2741 hl.1 ⟨by omega, by omega⟩ (Nat.le_of_ble_eq_true rfl) ⟨by omega, by omega⟩ (fun v2741 X AD H locs hv2741 ho hd hM w => ?_)
            have hL := hY.un hd
            refine lv_fold (y := L_L_law_all_2658_32 (dS S v s9) s9 (gv (dS S v s9))) (hv2741.trans ((dt_ok hR (by omega) hv hs9 e30 c_2 c_5 (Or.inr c_12)).1)) ?_
            refine lv_iload F.1 F.2.1 dL_law_2744 (lv_at hl 1 rfl) ?_
            refine lv_icmp_ne (tgt := 2753) F.1 F.2.1 dL_law_2746 (by decide) (fun c_16 => absurd rfl c_16) (fun c_16 => ?_)
            refine lv_iconst (v := 1) F.1 F.2.1 dL_law_2749 (by decide) ?_
            refine lv_goto (tgt := 2754) F.1 F.2.1 dL_law_2750 (by decide) ?_
            refine lv_istore (lv' := [(17, .int 1), (33, .int (L_L_law_all_2658_33 (dS S v s9) s9 (gv (dS S v s9)))), (32, .int (L_L_law_all_2658_32 (dS S v s9) s9 (gv (dS S v s9)))), (30, .int (nI s9)), (0, .ref b), (1, .ref o), (2, .ref (ad 2)), (3, .ref (ad 3)), (4, .ref (ad 4)), (5, .ref (ad 5)), (6, .ref (ad 6)), (7, .ref (ad 7)), (8, .ref (ad 8)), (9, .ref (ad 9)), (10, .ref (ad 10)), (11, .int (nI t)), (12, .int v12), (13, .int u), (14, .int (nI i)), (15, .int (nI (14 * i))), (16, .int (nI v))]) F.1 F.2.1 dL_law_2754 hl (by decide) rfl (fun ls hl => ?_)
            refine lv_iload F.1 F.2.1 dL_law_2756 (lv_at hl 1 rfl) ?_
            refine lv_iconst (v := 3) F.1 F.2.1 dL_law_2758 (by decide) ?_
            refine lv_icmp_ge (tgt := 2765) F.1 F.2.1 dL_law_2759 (by decide) (fun c_17 => ?_) (fun c_17 => ?_)
            · refine lv_aload_n F.1 F.2.1 dL_law_2765 rfl (lv_at hl 6 rfl) ?_
              refine lv_bipush (v := 14) F.1 F.2.1 dL_law_2766 (by decide) ?_
              refine lv_iload F.1 F.2.1 dL_law_2768 (lv_at hl 3 rfl) ?_
              refine lv_imul F.1 F.2.1 dL_law_2770 ?_
              refine lv_fold (y := nI (14 * s9)) (pk_mul 14 s9) ?_
              refine lv_bipush (v := 10) F.1 F.2.1 dL_law_2771 (by decide) ?_
              refine lv_iadd F.1 F.2.1 dL_law_2773 ?_
              refine lv_fold (y := nI ((14 * s9) + 10)) (nI_add (14 * s9) 10) ?_
              refine lv_iconst (v := 1) F.1 F.2.1 dL_law_2774 (by decide) ?_
              refine l_ist F w hd hY 2 rfl ((14 * s9) + 10) (show (14 * s9) + 10 < 56 by omega) dL_law_2775 (fun H locs Y hd hY w => ?_)
              have hL := hY.un hd
              refine lv_iconst (v := 0) F.1 F.2.1 dL_law_2776 (by decide) ?_
              refine lv_istore (lv' := [(34, .int 0), (17, .int 1), (33, .int (L_L_law_all_2658_33 (dS S v s9) s9 (gv (dS S v s9)))), (32, .int (L_L_law_all_2658_32 (dS S v s9) s9 (gv (dS S v s9)))), (30, .int (nI s9)), (0, .ref b), (1, .ref o), (2, .ref (ad 2)), (3, .ref (ad 3)), (4, .ref (ad 4)), (5, .ref (ad 5)), (6, .ref (ad 6)), (7, .ref (ad 7)), (8, .ref (ad 8)), (9, .ref (ad 9)), (10, .ref (ad 10)), (11, .int (nI t)), (12, .int v12), (13, .int u), (14, .int (nI i)), (15, .int (nI (14 * i))), (16, .int (nI v))]) F.1 F.2.1 dL_law_2777 hl (by decide) rfl (fun ls hl => ?_)
              refine lc_ban (S := up2 (dS S v s9) 2 ((14 * s9) + 10) 1) (M := M) (n := n) (n1 := n1) (c1 := c1) (s1 := s1) (N := gv (dS S v s9)) F hRm hs4 hR.hV ⟨by omega, by omega⟩ (by omega) ho hd hM hY w (fun {Y H locs ls} hd hY w hl => ?_) (lv_sub hl [0, 4, 5, 6, 7, 8, 9, 10, 11, 12, 13, 14, 15, 16, 17, 18, 19, 20, 21, 1] rfl)
              refine W.widen (k := c1) (n := s1) (by omega) (by omega) ?_
              exact K _ _ ls ⟨X, Y, AD, _, _, _, _, ho, hd, hM, hY, w, R26.ups (dt_2 hR c_17 (dt_ok hR (by omega) hv hs9 e30 c_2 c_5 (Or.inr c_12)).2) (by omega)⟩ (lv_sub hl [17, 0, 1, 2, 3, 4, 5, 6, 7, 8, 9, 10, 11, 13] rfl)
            · refine lv_goto (tgt := 3461) F.1 F.2.1 dL_law_2762 (by decide) ?_
              refine W.widen (k := c1) (n := s1) (by omega) (by omega) ?_
              exact K _ _ ls ⟨X, Y, AD, _, _, _, _, ho, hd, hM, hY, w, R26.ups (dt_1 hR c_17 (dt_ok hR (by omega) hv hs9 e30 c_2 c_5 (Or.inr c_12)).2) (by omega)⟩ (lv_sub hl [0, 4, 5, 6, 7, 8, 9, 10, 11, 12, 13, 14, 15, 17] rfl)
  · refine lv_goto (tgt := 3461) F.1 F.2.1 dL_law_2530 (by decide) ?_
    refine W.widen (k := c1) (n := s1) (by omega) (by omega) ?_
    exact K _ _ ls ⟨X, Y, AD, _, _, _, _, ho, hd, hM, hY, w, R26.ups hR (by omega)⟩ (lv_sub hl [17, 0, 1, 2, 3, 4, 5, 6, 7, 8, 9, 10, 11, 13] rfl)
