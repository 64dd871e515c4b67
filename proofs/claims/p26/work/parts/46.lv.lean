/-! lists by roots, points, risk, priority -/
def sumN (w : Nat → Nat) : Nat → Nat
  | 0 => 0
  | k + 1 => sumN w k + w k
theorem sum_rev (w : Nat → Nat) (n : Nat) : ∀ k, k ≤ n → sumN (fun j => w (n - j - 1)) k + sumN w (n - k) = sumN w n
  | 0, _ => by show 0 + sumN w n = sumN w n; omega
  | k + 1, hk => by
    have h := sum_rev w n k (by omega)
    obtain ⟨m, hm⟩ : ∃ m, n - k = m + 1 := ⟨n - k - 1, by omega⟩
    rw [hm] at h
    have e1 : sumN w (m + 1) = sumN w m + w m := rfl
    have e2 : sumN (fun j => w (n - j - 1)) (k + 1) = sumN (fun j => w (n - j - 1)) k + w (n - k - 1) := rfl
    rw [e2, show n - (k + 1) = m by omega, show n - k - 1 = m by omega]
    omega
theorem sum_le {w : Nat → Nat} {b : Nat} : ∀ n, (∀ k, k < n → w k ≤ b) → sumN w n ≤ b * n
  | 0, _ => Nat.zero_le _
  | n + 1, h => by
    have h1 := sum_le n (fun k hk => h k (by omega))
    have h2 := h n (by omega)
    show sumN w n + w n ≤ b * (n + 1)
    rw [Nat.mul_add]
    omega
theorem sum_cg {w u : Nat → Nat} : ∀ n, (∀ k, k < n → w k = u k) → sumN w n = sumN u n
  | 0, _ => rfl
  | n + 1, h => by
    show sumN w n + w n = sumN u n + u n
    rw [sum_cg n (fun k hk => h k (by omega)), h n (by omega)]
theorem sum_m {w u : Nat → Nat} : ∀ n, (∀ k, k < n → w k ≤ u k) → sumN w n ≤ sumN u n
  | 0, _ => Nat.le_refl _
  | n + 1, h => by
    have h1 := sum_m n (fun k hk => h k (by omega))
    have h2 := h n (by omega)
    show sumN w n + w n ≤ sumN u n + u n
    omega
theorem sum_k {w : Nat → Nat} (c : Nat) : ∀ n, sumN (fun k => c * w k) n = c * sumN w n
  | 0 => rfl
  | n + 1 => by
    show sumN (fun k => c * w k) n + c * w n = c * (sumN w n + w n)
    rw [sum_k c n, Nat.mul_add]
/-- the square against the root -/
theorem rt_cmp {Z : Int32} {z : Int} (hz : Z.toInt = z) (h1 : -5500 ≤ z) (h2 : z ≤ 5500) {n : Nat} (hn1 : 1 ≤ n) (hn : n ≤ 50) : (Z < nI (rtq (1762 * n))) ↔ (Z ≤ 0 ∨ Z * Z ≤ 1762 * nI n) := by
  have b := rt_bd (m := 1762 * n) (by omega)
  have hhi := rq_hi (1762 * n) b
  have hlo := rq_lo (1762 * n)
  have r1 : 1 ≤ rtq (1762 * n) := by
    rcases Nat.eq_zero_or_pos (rtq (1762 * n)) with q | q
    · rw [q] at hhi; omega
    · exact q
  have eL : (Z < nI (rtq (1762 * n))) ↔ z < (rtq (1762 * n) : Int) := by
    rw [Int32.lt_iff_toInt_lt, hz, nI_toInt (by omega)]
  have e0 : (Z ≤ 0) ↔ z ≤ 0 := by
    rw [Int32.le_iff_toInt_le, hz]
    exact Iff.rfl
  have eS : (Z * Z ≤ 1762 * nI n) ↔ z * z ≤ 1762 * (n : Int) := by
    have e1 : (1762 : Int32) * nI n = nI (1762 * n) := pk_mul 1762 n
    have hsq : z * z ≤ 30250000 := by
      rcases Int.le_total 0 z with q | q
      · exact Int.le_trans (Int.mul_le_mul h2 h2 q (by omega)) (by omega)
      · have e : z * z = (-z) * (-z) := by rw [Int.neg_mul_neg]
        rw [e]
        exact Int.le_trans (Int.mul_le_mul (by omega : -z ≤ 5500) (by omega : -z ≤ 5500) (by omega) (by omega)) (by omega)
    have hsq0 : 0 ≤ z * z := by
      rcases Int.le_total 0 z with q | q
      · exact Int.mul_nonneg q q
      · have e : z * z = (-z) * (-z) := by rw [Int.neg_mul_neg]
        rw [e]
        exact Int.mul_nonneg (by omega) (by omega)
    rw [e1, Int32.le_iff_toInt_le, nI_toInt (by omega), Int32.toInt_mul, hz, Int.bmod_eq_of_le (by omega) (by omega)]
    omega
  rw [eL, e0, eS]
  constructor
  · intro h
    rcases Int.le_total z 0 with q | q
    · exact Or.inl q
    · right
      obtain ⟨m, hm⟩ := Int.eq_ofNat_of_zero_le q
      rw [hm] at h ⊢
      have h9 := hlo m (by omega)
      have e9 : ((m * m : Nat) : Int) = (m : Int) * (m : Int) := Int.natCast_mul m m
      omega
  · intro h
    rcases h with h | h
    · omega
    · rcases Int.le_total z 0 with q | q
      · omega
      · obtain ⟨m, hm⟩ := Int.eq_ofNat_of_zero_le q
        rw [hm] at h ⊢
        have e9 : ((m * m : Nat) : Int) = (m : Int) * (m : Int) := Int.natCast_mul m m
        rcases Nat.lt_or_ge m (rtq (1762 * n)) with q9 | q9
        · omega
        · have h8 : rtq (1762 * n) * rtq (1762 * n) ≤ m * m := Nat.mul_le_mul q9 q9
          omega
section LV2
variable {n : Nat} {G M S : GS} {Wf : Nat → Int64}
def lP (M : GS) (x : Int32) (v : Nat) : Nat := if v_X7_listOf_41 M x v = 0 then 0 else 1
def lQ (M : GS) (x : Int32) (v : Nat) : Nat := if v_X7_listOf_41 M x v = 0 then 0 else (if f_X7_counts M v = 0 then 0 else 1)
theorem lat_e (h : R26 n G M S Wf) {v : Nat} (hv : v < gnV M) : ((S 6 v) + 1095 ≤ S 10 0 ↔ f_X7_isLatest M v = 0) ∧ (S 10 0 < (S 6 v) + 1095 ↔ ¬ f_X7_isLatest M v = 0) := by
  obtain ⟨t, t1, t2⟩ := h.td
  obtain ⟨e1, D, d1, d2⟩ := h.d v hv
  have e9 : nI D + 1095 = nI (D + 1095) := nI_add D 1095
  have key : ((1095 : Int32) ≤ nI t - nI D) ↔ D + 1095 ≤ t := by
    rw [Int32.le_iff_toInt_le, pk_sub_toInt (by omega) (by omega)]
    show (1095 : Int) ≤ _ ↔ _
    omega
  unfold f_X7_isLatest
  rw [e1, d2, h.g0, t2, e9]
  constructor
  · rw [nI_leI (by omega) (by omega), ← key]
    by_cases c : (1095 : Int32) ≤ nI t - nI D
    · rw [if_pos c]; exact ⟨fun _ => rfl, fun _ => c⟩
    · rw [if_neg c]; exact ⟨fun q => absurd q c, fun q => absurd q (by decide)⟩
  · rw [nI_ltI (by omega) (by omega)]
    by_cases c : (1095 : Int32) ≤ nI t - nI D
    · rw [if_pos c]
      have := key.mp c
      exact ⟨fun q => by omega, fun q => absurd rfl q⟩
    · rw [if_neg c]
      have : ¬ D + 1095 ≤ t := fun q => c (key.mpr q)
      exact ⟨fun _ => by decide, fun _ => by omega⟩
theorem li_5 (h : R26 n G M S Wf) (x : Int32) : ∀ k, k ≤ gnV M → L_L_listOf_14_5 S x k = nI (sumN (fun j => lP M x (gnV M - j - 1)) k) ∧ L_L_listOf_14_6 S x k = nI (sumN (fun j => 100 * lQ M x (gnV M - j - 1)) k)
  | 0, _ => ⟨rfl, rfl⟩
  | k + 1, hk => by
    obtain ⟨h5, h6⟩ := li_5 h x k (by omega)
    have hv : gnV M - k - 1 < gnV M := by omega
    have hl := (lat_e h hv).1
    have hfl := (h.a _ hv).g.2.2.2.1
    have hct := vl_cnt h hv
    have s5 : sumN (fun j => lP M x (gnV M - j - 1)) (k + 1) = sumN (fun j => lP M x (gnV M - j - 1)) k + lP M x (gnV M - k - 1) := rfl
    have s6 : sumN (fun j => 100 * lQ M x (gnV M - j - 1)) (k + 1) = sumN (fun j => 100 * lQ M x (gnV M - j - 1)) k + 100 * lQ M x (gnV M - k - 1) := rfl
    rw [s5, s6]
    show (if (S 6 (gv S - k - 1)) + 1095 ≤ S 10 0 then L_L_listOf_14_5 S x k else (if ((S 5 (gv S - k - 1)) >>> (6 &&& 31)) &&& 7 = x then (L_L_listOf_14_5 S x k) + 1 else L_L_listOf_14_5 S x k)) = _ ∧ (if (S 6 (gv S - k - 1)) + 1095 ≤ S 10 0 then L_L_listOf_14_6 S x k else (if ((S 5 (gv S - k - 1)) >>> (6 &&& 31)) &&& 7 = x then (L_L_listOf_14_6 S x k) + (if f_L_counts S (gv S - k - 1) = 0 then 0 else 100) else L_L_listOf_14_6 S x k)) = _
    rw [h.eV, hfl, hct, h5, h6]
    unfold lP lQ v_X7_listOf_41
    by_cases c1 : (S 6 (gnV M - k - 1)) + 1095 ≤ S 10 0
    · rw [if_pos c1, if_pos c1, if_pos (hl.mp c1)]
      by_cases c2 : M 34 (gnV M - k - 1) = x
      · rw [if_pos c2]; exact ⟨rfl, rfl⟩
      · rw [if_neg c2]; exact ⟨rfl, rfl⟩
    · rw [if_neg c1, if_neg c1, if_neg (fun q => c1 (hl.mpr q))]
      by_cases c2 : M 34 (gnV M - k - 1) = x
      · rw [if_pos c2, if_pos c2, if_pos c2]
        refine ⟨nI_1 _, ?_⟩
        by_cases c3 : f_X7_counts M (gnV M - k - 1) = 0
        · rw [if_pos c3, if_pos c3]; exact (Int32.add_zero _)
        · rw [if_neg c3, if_neg c3]; exact nI_add _ 100
      · rw [if_neg c2, if_neg c2, if_neg c2]; exact ⟨rfl, rfl⟩
theorem mi_2 (M : GS) (x : Int32) : ∀ k, L_X7_listOf_7_2 M x k = nI (sumN (lP M x) k) ∧ L_X7_listOf_7_3 M x k = nI (sumN (lQ M x) k)
  | 0 => ⟨rfl, rfl⟩
  | k + 1 => by
    obtain ⟨h2, h3⟩ := mi_2 M x k
    show (L_X7_listOf_7_2 M x k) + (if v_X7_listOf_41 M x k = 0 then 0 else 1) = nI (sumN (lP M x) k + lP M x k) ∧ (L_X7_listOf_7_3 M x k) + (if v_X7_listOf_41 M x k = 0 then 0 else (if f_X7_counts M k = 0 then 0 else 1)) = nI (sumN (lQ M x) k + lQ M x k)
    rw [h2, h3]
    unfold lP lQ
    by_cases c1 : v_X7_listOf_41 M x k = 0
    · rw [if_pos c1, if_pos c1, if_pos c1, if_pos c1]; exact ⟨Int32.add_zero _, Int32.add_zero _⟩
    · rw [if_neg c1, if_neg c1, if_neg c1, if_neg c1]
      refine ⟨nI_1 _, ?_⟩
      by_cases c3 : f_X7_counts M k = 0
      · rw [if_pos c3, if_pos c3]; exact Int32.add_zero _
      · rw [if_neg c3, if_neg c3]; exact nI_1 _
theorem vl_lis (h : R26 n G M S Wf) (x : Int32) : f_L_listOf S x = f_X7_listOf M x := by
  have hb := h.b.2.2
  obtain ⟨h5, h6⟩ := li_5 h x (gnV M) (Nat.le_refl _)
  obtain ⟨m2, m3⟩ := mi_2 M x (gnV M)
  have r5 := sum_rev (lP M x) (gnV M) (gnV M) (Nat.le_refl _)
  have r6 := sum_rev (fun j => 100 * lQ M x j) (gnV M) (gnV M) (Nat.le_refl _)
  rw [Nat.sub_self] at r5 r6
  have z0 : ∀ w : Nat → Nat, sumN w 0 = 0 := fun _ => rfl
  rw [z0, Nat.add_zero] at r5 r6
  rw [r5] at h5
  rw [r6, sum_k] at h6
  have le1 : sumN (lP M x) (gnV M) ≤ 1 * gnV M := sum_le _ (fun k _ => by unfold lP; split <;> omega)
  have le2 : sumN (lQ M x) (gnV M) ≤ sumN (lP M x) (gnV M) := sum_m _ (fun k _ => by unfold lP lQ; split; exact Nat.le_refl _; split <;> omega)
  have elc : lc S x = sumN (lP M x) (gnV M) := by
    unfold lc
    rw [h.eV, h5, nI_clamp (by omega)]
  unfold f_L_listOf f_X7_listOf v_L_listOf_121 v_X7_listOf_96 v_X7_listOf_110
  rw [elc, h.eV, h5, h6, m2, m3]
  generalize sumN (lP M x) (gnV M) = a at *
  generalize sumN (lQ M x) (gnV M) = d at *
  by_cases c6 : (6 : Int32) ≤ nI a
  · rw [if_pos c6, if_pos c6]
    have a6 : 6 ≤ a := (nI_leI (a := 6) (by decide) (by omega)).mp c6
    have e1 : (100 : Int32) * nI d = nI (100 * d) := pk_mul 100 d
    have e2 : (7 : Int32) * nI a = nI (7 * a) := pk_mul 7 a
    rw [e1, e2]
    have t0 : (nI (100 * d) - nI (7 * a)).toInt = (100 * d : Int) - 7 * a := by
      rw [pk_sub_toInt (by omega) (by omega)]; omega
    have t1 : ((nI (100 * d) - nI (7 * a)) - 50).toInt = (100 * d : Int) - 7 * a - 50 := by
      rw [Int32.toInt_sub, t0]
      show ((100 * d : Int) - 7 * a - 50).bmod (2 ^ 32) = _
      rw [Int.bmod_eq_of_le (by omega) (by omega)]
    have t2 : ((nI (7 * a) - 50) - nI (100 * d)).toInt = (7 * a : Int) - 50 - 100 * d := by
      have q : (nI (7 * a) - 50).toInt = (7 * a : Int) - 50 := by
        have := pk_sub_toInt (a := 7 * a) (b := 50) (by omega) (by omega)
        exact this.trans (by omega)
      rw [Int32.toInt_sub, q, nI_toInt (by omega), Int.bmod_eq_of_le (by omega) (by omega)]
      omega
    have e3 : (-(nI (100 * d) - nI (7 * a))) - 50 = (nI (7 * a) - 50) - nI (100 * d) := by
      apply Int32.toInt_inj.mp
      rw [t2, Int32.toInt_sub, Int32.toInt_neg, t0]
      show ((-((100 * d : Int) - 7 * a)).bmod (2 ^ 32) - 50).bmod (2 ^ 32) = _
      rw [show (-((100 * d : Int) - 7 * a)).bmod (2 ^ 32) = -((100 * d : Int) - 7 * a) from Int.bmod_eq_of_le (by omega) (by omega), Int.bmod_eq_of_le (by omega) (by omega)]
      omega
    rw [e3]
    have k1 := rt_cmp t1 (by omega) (by omega) (n := a) (by omega) (by omega)
    have k2 := rt_cmp t2 (by omega) (by omega) (n := a) (by omega) (by omega)
    by_cases c1 : (nI (100 * d) - nI (7 * a)) - 50 < nI (rtq (1762 * a))
    · rw [if_pos c1]
      have inner : (if (nI (7 * a) - 50) - nI (100 * d) < nI (rtq (1762 * a)) then (2 : Int32) else 1) = (if (nI (7 * a) - 50) - nI (100 * d) ≤ 0 then 2 else (if ((nI (7 * a) - 50) - nI (100 * d)) * ((nI (7 * a) - 50) - nI (100 * d)) ≤ 1762 * nI a then 2 else 1)) := by
        by_cases c2 : (nI (7 * a) - 50) - nI (100 * d) < nI (rtq (1762 * a))
        · rw [if_pos c2]
          rcases k2.mp c2 with q | q
          · rw [if_pos q]
          · by_cases q0 : (nI (7 * a) - 50) - nI (100 * d) ≤ 0
            · rw [if_pos q0]
            · rw [if_neg q0, if_pos q]
        · rw [if_neg c2, if_neg (fun q => c2 (k2.mpr (Or.inl q))), if_neg (fun q => c2 (k2.mpr (Or.inr q)))]
      rw [inner]
      by_cases q0 : (nI (100 * d) - nI (7 * a)) - 50 ≤ 0
      · rw [if_pos q0]
      · rw [if_neg q0, if_pos ((k1.mp c1).resolve_left q0)]
    · rw [if_neg c1, if_neg (fun q => c1 (k1.mpr (Or.inl q))), if_neg (fun q => c1 (k1.mpr (Or.inr q)))]
  · rw [if_neg c6, if_neg c6]
/-- points -/
theorem list4 (M : GS) (x : Int32) : f_X7_listOf M x = 0 ∨ f_X7_listOf M x = 1 ∨ f_X7_listOf M x = 2 ∨ f_X7_listOf M x = 3 := by
  unfold f_X7_listOf
  (repeat' split) <;> decide
def pF (k o s l m d : Int32) : Int32 := (((k + o) + s) + (if l ≤ 1 then 0 else l - 1) + m) + d
def pM (k o s l m d : Int32) : Int32 := ((((o + (if k = 1 then 1 else (if k = 2 then 2 else 0))) + (if l = 2 then 1 else (if l = 3 then 2 else 0))) + s) + m) + d
theorem pd_b : ((List.range 3).all fun k => (List.range 2).all fun o => (List.range 2).all fun s => (List.range 4).all fun l => (List.range 2).all fun m => (List.range 3).all fun d => decide (pF (nI k) (nI o) (nI s) (nI l) (nI m) (nI d) = pM (nI k) (nI o) (nI s) (nI l) (nI m) (nI d) ∧ pM (nI k) (nI o) (nI s) (nI l) (nI m) (nI d) = nI (o + k + (l - 1) + s + m + d))) = true := by decide +kernel
theorem pd (k : Nat) (hk : k < 3) (o : Nat) (ho : o < 2) (s : Nat) (hs : s < 2) (l : Nat) (hl : l < 4) (m : Nat) (hm : m < 2) (d : Nat) (hd : d < 3) : pF (nI k) (nI o) (nI s) (nI l) (nI m) (nI d) = pM (nI k) (nI o) (nI s) (nI l) (nI m) (nI d) ∧ pM (nI k) (nI o) (nI s) (nI l) (nI m) (nI d) = nI (o + k + (l - 1) + s + m + d) := by
  have h := pd_b
  simp only [List.all_eq_true, List.mem_range, decide_eq_true_eq] at h
  exact h k hk o ho s hs l hl m hm d hd
def ofS (M : GS) (s v : Nat) : Nat := if M 30 v = nI s then (if f_X7_isLatest M v = 0 then 0 else 1) else 0
theorem pt_8 (h : R26 n G M S Wf) (s : Nat) : ∀ k, k ≤ gnV M → ∃ c, c ≤ 12 ∧ L_L_points_97_8 S s k = nI c ∧ (c ≤ 5 ↔ L_X7_hadMany_4_2 M s k = 0)
  | 0, _ => ⟨0, by decide, rfl, fun _ => rfl, fun _ => by decide⟩
  | k + 1, hk => by
    obtain ⟨c, h1, h2, h3⟩ := pt_8 h s k (by omega)
    have hv : k < gnV M := by omega
    have ha := (h.a k hv).g.1
    have hl := (lat_e h hv).2
    have hf := vl_fnd h hv
    obtain ⟨f1, f2⟩ := h.fc hv
    show ∃ c, c ≤ 12 ∧ (if (S 5 k) &&& 3 = nI s then (if S 10 0 < (S 6 k) + 1095 then (if f_L_findings (S 5 k) ≤ L_L_points_97_8 S s k then L_L_points_97_8 S s k else f_L_findings (S 5 k)) else L_L_points_97_8 S s k) else L_L_points_97_8 S s k) = nI c ∧ (c ≤ 5 ↔ (if L_X7_hadMany_4_2 M s k = 0 then (if M 30 k = nI s then (if f_X7_isLatest M k = 0 then 0 else (if M 35 k ≤ 5 then 0 else 1)) else 0) else 1 : Int32) = 0)
    rw [ha, hf, f1, h2]
    have hm : (if L_X7_hadMany_4_2 M s k = 0 then (0 : Int32) else 1) = 0 ↔ L_X7_hadMany_4_2 M s k = 0 := by
      by_cases q : L_X7_hadMany_4_2 M s k = 0
      · rw [if_pos q]; exact ⟨fun _ => q, fun _ => rfl⟩
      · rw [if_neg q]; exact ⟨fun q9 => absurd q9 (by decide), fun q9 => absurd q9 q⟩
    by_cases c1 : M 30 k = nI s
    · rw [if_pos c1, if_pos c1]
      by_cases c2 : S 10 0 < (S 6 k) + 1095
      · rw [if_pos c2, if_neg (hl.mp c2)]
        have h5 : (nI (gnF M k) ≤ 5) ↔ gnF M k ≤ 5 := nI_leI (b := 5) (by omega) (by decide)
        by_cases c3 : nI (gnF M k) ≤ nI c
        · rw [if_pos c3]
          have q3 := (nI_leI (by omega) (by omega)).mp c3
          refine ⟨c, h1, rfl, ?_⟩
          by_cases c4 : L_X7_hadMany_4_2 M s k = 0
          · rw [if_pos c4, if_pos (h5.mpr (by have := h3.mpr c4; omega))]
            exact ⟨fun _ => rfl, fun _ => h3.mpr c4⟩
          · rw [if_neg c4]
            exact ⟨fun q => absurd (h3.mp q) c4, fun q => absurd q (by decide)⟩
        · rw [if_neg c3]
          have q3 : ¬ gnF M k ≤ c := fun q => c3 ((nI_leI (by omega) (by omega)).mpr q)
          refine ⟨gnF M k, f2, rfl, ?_⟩
          by_cases c4 : L_X7_hadMany_4_2 M s k = 0
          · rw [if_pos c4]
            by_cases c5 : nI (gnF M k) ≤ 5
            · rw [if_pos c5]; exact ⟨fun _ => rfl, fun _ => h5.mp c5⟩
            · rw [if_neg c5]; exact ⟨fun q => absurd (h5.mpr q) c5, fun q => absurd q (by decide)⟩
          · rw [if_neg c4]
            have q5 : ¬ c ≤ 5 := fun q => c4 (h3.mp q)
            exact ⟨fun q => by omega, fun q => absurd q (by decide)⟩
      · rw [if_neg c2, if_pos (Classical.not_not.mp (fun q => c2 (hl.mpr q)))]
        exact ⟨c, h1, rfl, h3.trans hm.symm⟩
    · rw [if_neg c1, if_neg c1]
      exact ⟨c, h1, rfl, h3.trans hm.symm⟩
theorem pt_9 (h : R26 n G M S Wf) (s : Nat) : ∀ k, k ≤ gnV M → L_L_points_97_9 S s k = L_X7_detentionsOf_4_2 M s k ∧ ∃ c, c ≤ k ∧ L_X7_detentionsOf_4_2 M s k = nI c
  | 0, _ => ⟨rfl, 0, Nat.le_refl _, rfl⟩
  | k + 1, hk => by
    obtain ⟨h1, c, h2, h3⟩ := pt_9 h s k (by omega)
    have hv : k < gnV M := by omega
    have ha := (h.a k hv).g.1
    have hl := (lat_e h hv).2
    have hct := vl_cnt h hv
    show (if (S 5 k) &&& 3 = nI s then (if S 10 0 < (S 6 k) + 1095 then (L_L_points_97_9 S s k) + (if f_L_counts S k = 0 then 0 else 1) else L_L_points_97_9 S s k) else L_L_points_97_9 S s k) = (L_X7_detentionsOf_4_2 M s k) + (if M 30 k = nI s then (if f_X7_isLatest M k = 0 then 0 else (if f_X7_counts M k = 0 then 0 else 1)) else 0) ∧ ∃ c, c ≤ k + 1 ∧ (L_X7_detentionsOf_4_2 M s k) + (if M 30 k = nI s then (if f_X7_isLatest M k = 0 then 0 else (if f_X7_counts M k = 0 then 0 else 1)) else 0) = nI c
    rw [ha, hct, h1, h3]
    by_cases c1 : M 30 k = nI s
    · rw [if_pos c1, if_pos c1]
      by_cases c2 : S 10 0 < (S 6 k) + 1095
      · rw [if_pos c2, if_neg (hl.mp c2)]
        refine ⟨rfl, ?_⟩
        by_cases c3 : f_X7_counts M k = 0
        · rw [if_pos c3]; exact ⟨c, by omega, Int32.add_zero _⟩
        · rw [if_neg c3]; exact ⟨c + 1, by omega, nI_1 _⟩
      · rw [if_neg c2, if_pos (Classical.not_not.mp (fun q => c2 (hl.mpr q)))]
        exact ⟨(Int32.add_zero _).symm, c, by omega, Int32.add_zero _⟩
    · rw [if_neg c1, if_neg c1]
      exact ⟨(Int32.add_zero _).symm, c, by omega, Int32.add_zero _⟩
theorem vl_pts (h : R26 n G M S Wf) {s : Nat} (hs : s < gnS M) : f_L_points S s = f_X7_pointsOf M s ∧ ∃ k, k ≤ 9 ∧ f_X7_pointsOf M s = nI k := by
  obtain ⟨t, t1, t2⟩ := h.td
  obtain ⟨⟨z1, z2⟩, ⟨k, k1, k2⟩, f, f1, f2⟩ := h.bb s hs
  obtain ⟨c, c1, c2, c3⟩ := pt_8 h s (gnV M) (Nat.le_refl _)
  have c3 : c ≤ 5 ↔ f_X7_hadMany M s = 0 := c3
  obtain ⟨d1, d, d2, d3⟩ := pt_9 h s (gnV M) (Nat.le_refl _)
  have hb := h.b.2.2
  have eo : (if (S 10 0) - 4380 ≤ S 2 (14 * s) then (0 : Int32) else 1) = (if f_X7_isOld M s = 0 then 0 else 1) := by
    unfold f_X7_isOld
    rw [h.g0, h.x0 hs, t2]
    have q1 : (nI t - 4380 ≤ M 4 s) ↔ (nI t - M 4 s ≤ 4380) := by
      rw [Int32.le_iff_toInt_le, Int32.le_iff_toInt_le, Int32.toInt_sub, Int32.toInt_sub, nI_toInt (by omega)]
      show ((t : Int) - 4380).bmod (2 ^ 32) ≤ _ ↔ ((t : Int) - (M 4 s).toInt).bmod (2 ^ 32) ≤ 4380
      rw [Int.bmod_eq_of_le (by omega) (by omega), Int.bmod_eq_of_le (by omega) (by omega)]
      omega
    by_cases q : nI t - 4380 ≤ M 4 s
    · rw [if_pos q, if_pos (q1.mp q)]; rfl
    · rw [if_neg q, if_neg (fun q9 => q (q1.mpr q9))]; rfl
  obtain ⟨o, o1, o2⟩ : ∃ o, o < 2 ∧ (if f_X7_isOld M s = 0 then (0 : Int32) else 1) = nI o := by
    by_cases q : f_X7_isOld M s = 0
    · rw [if_pos q]; exact ⟨0, by decide, rfl⟩
    · rw [if_neg q]; exact ⟨1, by decide, rfl⟩
  obtain ⟨u, u1, u2, u3⟩ : ∃ u, u < 2 ∧ M 2 (M 8 s).toNatClampNeg = nI u ∧ (if M 2 (M 8 s).toNatClampNeg = 0 then (0 : Int32) else 1) = nI u := by
    obtain ⟨b, b1, b2⟩ := h.b8 s
    rw [b2, nI_clamp (by omega)]
    rcases bit01 h.su b1 with q | q
    · rw [q]; exact ⟨0, by decide, rfl, rfl⟩
    · rw [q]; exact ⟨1, by decide, rfl, rfl⟩
  obtain ⟨l, l1, l2⟩ : ∃ l, l < 4 ∧ f_X7_listOf M (M 7 s) = nI l := by
    rcases list4 M (M 7 s) with q | q | q | q
    · exact ⟨0, by decide, q⟩
    · exact ⟨1, by decide, q⟩
    · exact ⟨2, by decide, q⟩
    · exact ⟨3, by decide, q⟩
  obtain ⟨m, m1, m2, m3⟩ : ∃ m, m < 2 ∧ (if nI c ≤ 5 then (0 : Int32) else 1) = nI m ∧ (if f_X7_hadMany M s = 0 then (0 : Int32) else 1) = nI m := by
    have h5 : (nI c ≤ 5) ↔ c ≤ 5 := nI_leI (b := 5) (by omega) (by decide)
    by_cases q : nI c ≤ 5
    · rw [if_pos q, if_pos (c3.mp (h5.mp q))]; exact ⟨0, by decide, rfl, rfl⟩
    · rw [if_neg q, if_neg (fun q9 => q (h5.mpr (c3.mpr q9)))]; exact ⟨1, by decide, rfl, rfl⟩
  obtain ⟨e, e1, e2, e3⟩ : ∃ e, e < 3 ∧ (if nI d ≤ 2 then nI d else 2) = nI e ∧ (if 2 ≤ nI d then (2 : Int32) else nI d) = nI e := by
    have h2 : (nI d ≤ 2) ↔ d ≤ 2 := nI_leI (b := 2) (by omega) (by decide)
    have h2' : ((2 : Int32) ≤ nI d) ↔ 2 ≤ d := nI_leI (a := 2) (by decide) (by omega)
    by_cases q : nI d ≤ 2
    · rw [if_pos q]
      by_cases q2 : (2 : Int32) ≤ nI d
      · rw [if_pos q2]
        have e9 : d = 2 := by have := h2.mp q; have := h2'.mp q2; omega
        exact ⟨2, by decide, by rw [e9], rfl⟩
      · rw [if_neg q2]
        have : ¬ 2 ≤ d := fun q9 => q2 (h2'.mpr q9)
        exact ⟨d, by omega, rfl, rfl⟩
    · rw [if_neg q, if_pos (h2'.mpr (by have : ¬ d ≤ 2 := fun q9 => q (h2.mpr q9); omega))]
      exact ⟨2, by decide, rfl, rfl⟩
  have p := pd k k1 o o1 u u1 l l1 m m1 e e1
  have eL : f_L_points S s = pF (nI k) (nI o) (nI u) (nI l) (nI m) (nI e) := by
    unfold f_L_points v_L_points_86 v_L_points_48
    rw [eo, h.x2 hs, h.x3 hs, h.x4 hs, vl_sus h, vl_lis h, h.eV, c2, d1, d3, o2, k2, u2, l2, m2, e2]
    rfl
  have eM : f_X7_pointsOf M s = pM (nI k) (nI o) (nI u) (nI l) (nI m) (nI e) := by
    unfold f_X7_pointsOf v_X7_pointsOf_116 v_X7_pointsOf_100 v_X7_pointsOf_78 v_X7_pointsOf_56 f_X7_detentionsOf
    rw [o2, k2, l2, u3, m3, d3, e3]
    rfl
  exact ⟨by rw [eL, eM, p.1], o + k + (l - 1) + u + m + e, by omega, by rw [eM, p.2]⟩
theorem vl_rsk (h : R26 n G M S Wf) {s : Nat} (hs : s < gnS M) : f_L_risk S s = f_X7_riskOf M s := by
  obtain ⟨h1, k, k1, k2⟩ := vl_pts h hs
  unfold f_L_risk f_X7_riskOf
  rw [h1, h.x3 hs, vl_lis h, k2]
  have a1 : (nI k ≤ 4) ↔ nI k < 5 := by
    rw [show (nI k ≤ 4) ↔ k ≤ 4 from nI_leI (b := 4) (by omega) (by decide), show (nI k < 5) ↔ k < 5 from nI_ltI (b := 5) (by omega) (by decide)]
    omega
  have a2 : ((0 : Int32) < nI k) ↔ ¬ nI k = 0 := by
    rw [show ((0 : Int32) < nI k) ↔ 0 < k from nI_ltI (a := 0) (by decide) (by omega), show (nI k = 0) ↔ k = 0 from nI_eq (b := 0) (by omega) (by decide)]
    omega
  by_cases c1 : nI k ≤ 4
  · rw [if_pos c1, if_pos (a1.mp c1)]
    by_cases c2 : (0 : Int32) < nI k
    · rw [if_pos c2, if_neg (a2.mp c2)]
    · rw [if_neg c2, if_pos (Classical.not_not.mp (fun q => c2 (a2.mpr q)))]
  · rw [if_neg c1, if_neg (fun q => c1 (a1.mpr q))]
theorem vl_pri (h : R26 n G M S Wf) {s : Nat} (hs : s < gnS M) : f_L_priority S s = f_X7_priorityOf M s := by
  unfold f_L_priority f_X7_priorityOf v_L_priority_63 v_L_priority_96 v_X7_priorityOf_60 v_X7_priorityOf_87
  rw [h.x8 hs, vl_rsk h hs]
  by_cases c1 : M 12 s = -1
  · rw [if_pos c1, if_pos c1]
  · rw [if_neg c1, if_neg c1]
    have hv : (M 12 s).toNatClampNeg < gnV M := by
      have q := h.r.ic.re 12 (by decide) (by rw [← h.r.S]; exact hs) (by rw [← h.r.q 12]; exact c1)
      rw [h.r.q 12, h.r.V]
      exact q.2
    obtain ⟨e1, D, d1, d2⟩ := h.d _ hv
    obtain ⟨t, t1, t2⟩ := h.td
    rw [e1, d2, h.g0, t2]
    have key : ∀ (a b : Nat), a ≤ 1081 → b ≤ 1081 → (if nI D + nI a ≤ nI t then (if nI D + nI (b + 1) ≤ nI t then (2 : Int32) else 1) else 0) = (if nI t - nI D ≤ nI b then (if nI t - nI D < nI a then 0 else 1) else 2) ∨ b < a := by
      intro a b ha hb
      rcases Nat.lt_or_ge b a with q | hab
      · exact Or.inr q
      · left
        have i1 : (nI D + nI a ≤ nI t) ↔ D + a ≤ t := by rw [nI_add, nI_leI (by omega) (by omega)]
        have i2 : (nI D + nI (b + 1) ≤ nI t) ↔ D + (b + 1) ≤ t := by rw [nI_add, nI_leI (by omega) (by omega)]
        have i3 : (nI t - nI D ≤ nI b) ↔ (t : Int) - D ≤ b := by rw [Int32.le_iff_toInt_le, pk_sub_toInt (by omega) (by omega), nI_toInt (by omega)]
        have i4 : (nI t - nI D < nI a) ↔ (t : Int) - D < a := by rw [Int32.lt_iff_toInt_lt, pk_sub_toInt (by omega) (by omega), nI_toInt (by omega)]
        by_cases j1 : D + a ≤ t
        · rw [if_pos (i1.mpr j1)]
          by_cases j2 : D + (b + 1) ≤ t
          · rw [if_pos (i2.mpr j2), if_neg (fun q => by have := i3.mp q; omega)]
          · rw [if_neg (fun q => j2 (i2.mp q)), if_pos (i3.mpr (by omega)), if_neg (fun q => by have := i4.mp q; omega)]
        · rw [if_neg (fun q => j1 (i1.mp q)), if_pos (i3.mpr (by omega)), if_pos (i4.mpr (by omega))]
    have r3 : f_X7_riskOf M s = 0 ∨ f_X7_riskOf M s = 1 ∨ f_X7_riskOf M s = 2 := by
      unfold f_X7_riskOf
      (repeat' split) <;> decide
    rcases r3 with q | q | q
    · rw [q]; exact (key 720 1080 (by decide) (by decide)).resolve_right (by decide)
    · rw [q]; exact (key 300 360 (by decide) (by decide)).resolve_right (by decide)
    · rw [q]; exact (key 150 180 (by decide) (by decide)).resolve_right (by decide)
end LV2
