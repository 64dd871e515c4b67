theorem nl_cg {G G1 : GS} (e : ∀ j, j ∈ [46, 47, 48, 49] → G1 j = G j) (s : Nat) : ∀ k, nl G1 s k = nl G s k
  | 0 => rfl
  | k + 1 => by
    show (G1 46 (514 * s + k), G1 47 (514 * s + k), G1 48 (514 * s + k), G1 49 (514 * s + k)) :: nl G1 s k = (G 46 (514 * s + k), G 47 (514 * s + k), G 48 (514 * s + k), G 49 (514 * s + k)) :: nl G s k
    rw [nl_cg e s k, e 46 (by decide), e 47 (by decide), e 48 (by decide), e 49 (by decide)]
theorem nlg_cg {G G1 : GS} (e : ∀ j, j ∈ [45, 46, 47, 48, 49] → G1 j = G j) (s : Nat) : nlg G1 s = nlg G s := by
  unfold nlg gnN
  rw [e 45 (by decide)]
  exact nl_cg (fun j hj => e j (List.mem_cons_of_mem _ hj)) s _
theorem NT.cg {n : Nat} {G G1 : GS} (h : NT n G) (e : ∀ j, j ∈ [3, 4, 6, 7, 8, 29, 30, 32, 35, 38, 40, 45, 46, 47, 48, 49] → G1 j = G j) : NT n G1 := by
  have eL : ∀ s, nlg G1 s = nlg G s := nlg_cg (fun j hj => e j ((by decide : ∀ j, j ∈ [45, 46, 47, 48, 49] → j ∈ [3, 4, 6, 7, 8, 29, 30, 32, 35, 38, 40, 45, 46, 47, 48, 49]) j hj))
  unfold NT NTs NQ NK kn gnS gnV gnN at h ⊢
  intro s hs
  rw [e 3 (by decide)] at hs
  rw [eL s, e 4 (by decide), e 6 (by decide), e 7 (by decide), e 8 (by decide), e 29 (by decide), e 30 (by decide), e 32 (by decide), e 35 (by decide), e 38 (by decide), e 40 (by decide), e 45 (by decide)]
  exact h s hs
theorem ZA.cg {G G1 : GS} (h : ZA G) (e : ∀ j, j ∈ [3, 29, 9, 12, 14, 15, 17, 18, 30, 35, 39, 40, 41, 42] → G1 j = G j) : ZA G1 := by
  unfold ZA gnS gnV at h ⊢
  rw [e 3 (by decide), e 29 (by decide), e 9 (by decide), e 12 (by decide), e 14 (by decide), e 15 (by decide), e 17 (by decide), e 18 (by decide), e 30 (by decide), e 35 (by decide), e 39 (by decide), e 40 (by decide), e 41 (by decide), e 42 (by decide)]
  exact h
theorem cnt_L (G : GS) (s : Nat) (w x : Int32) : f_X6_notesOf G s w x = nI (cL w x (nlg G s)) := by
  unfold f_X6_notesOf nlg
  have a : ∀ k, L_X6_notesOf_5_3 G s w x k = nI (cL w x (nl G s k)) := fun k => by
    induction k with
    | zero => rfl
    | succ k ih =>
      show (if G 46 (514 * s + k) = w then (if G 47 (514 * s + k) = x then (L_X6_notesOf_5_3 G s w x k) + 1 else L_X6_notesOf_5_3 G s w x k) else L_X6_notesOf_5_3 G s w x k) = nI (cL w x (nl G s k) + (if G 46 (514 * s + k) = w then (if G 47 (514 * s + k) = x then 1 else 0) else 0))
      rw [ih]
      by_cases e : G 46 (514 * s + k) = w
      · by_cases d : G 47 (514 * s + k) = x
        · rw [if_pos e, if_pos d, if_pos e, if_pos d, nI_succ]
        · rw [if_pos e, if_neg d, if_pos e, if_neg d]; rfl
      · rw [if_neg e, if_neg e]; rfl
  exact a _
def wA (G : GS) (v : Nat) : Nat := if f_X6_isOfLatest G (G 32 v) = 0 then 0 else (if f_X5_counts G v = 0 then 0 else 1)
def wB (G : GS) (v : Nat) : Nat := if f_X6_isOfLatest G (G 32 v) = 0 then 0 else (if nI (gnF G v) ≤ 5 then 0 else 1)
theorem sum_A (G : GS) (s : Nat) : f_X6_detentionsThatCount G s = nI (sV (G 30) s (wA G) (gnV G)) := by
  unfold f_X6_detentionsThatCount
  have a : ∀ k, L_X6_detentionsThatCount_4_2 G s k = nI (sV (G 30) s (wA G) k) := fun k => by
    induction k with
    | zero => rfl
    | succ k ih =>
      show (if f_X6_isCounted G k s = 0 then L_X6_detentionsThatCount_4_2 G s k else (L_X6_detentionsThatCount_4_2 G s k) + 1) = nI (sV (G 30) s (wA G) k + (if G 30 k = nI s then wA G k else 0))
      unfold f_X6_isCounted wA
      rw [ih]
      by_cases e : G 30 k = nI s
      · rw [if_pos e, if_pos e]
        by_cases d : f_X6_isOfLatest G (G 32 k) = 0
        · rw [if_pos d, if_pos d]; rfl
        · rw [if_neg d, if_neg d]
          by_cases c : f_X5_counts G k = 0
          · rw [if_pos c, if_pos c]; rfl
          · rw [if_neg c, if_neg c, nI_succ]; rfl
      · rw [if_neg e, if_neg e]; rfl
  exact a _
theorem sum_B (G : GS) (s : Nat) : L_X6_pointsOf_4_2 G s (gnV G) = if sV (G 30) s (wB G) (gnV G) = 0 then 0 else 1 := by
  have a : ∀ k, L_X6_pointsOf_4_2 G s k = if sV (G 30) s (wB G) k = 0 then 0 else 1 := fun k => by
    induction k with
    | zero => rfl
    | succ k ih =>
      show (if G 30 k = nI s then (if f_X6_isOfLatest G (G 32 k) = 0 then L_X6_pointsOf_4_2 G s k else (if nI (gnF G k) ≤ 5 then L_X6_pointsOf_4_2 G s k else 1)) else L_X6_pointsOf_4_2 G s k) = if sV (G 30) s (wB G) k + (if G 30 k = nI s then wB G k else 0) = 0 then 0 else 1
      unfold wB at ih ⊢
      rw [ih]
      by_cases e : G 30 k = nI s
      · rw [if_pos e, if_pos e]
        by_cases d : f_X6_isOfLatest G (G 32 k) = 0
        · rw [if_pos d, if_pos d]; rfl
        · rw [if_neg d, if_neg d]
          by_cases c : nI (gnF G k) ≤ 5
          · rw [if_pos c, if_pos c]; rfl
          · rw [if_neg c, if_neg c, if_neg (by omega)]
      · rw [if_neg e, if_neg e]; rfl
  exact a _
theorem fil_2 (G : GS) (s : Nat) : ∀ k, L_X6_pointsByFile_13_2 G s k = match lst 0 (nl G s k) with | some q => f_X6_pointsOfMake G q.1 q.2 | none => 0
  | 0 => rfl
  | k + 1 => by
    show (if G 46 (514 * s + k) = 0 then v_X6_pointsByFile_55 G s k else (if G 46 (514 * s + k) = 1 then L_X6_pointsByFile_13_2 G s k else (if G 46 (514 * s + k) = 2 then (if f_X6_isOfLatest G (G 48 (514 * s + k)) = 0 then L_X6_pointsByFile_13_2 G s k else L_X6_pointsByFile_13_2 G s k) else L_X6_pointsByFile_13_2 G s k))) = match (if G 46 (514 * s + k) = 0 then some (G 48 (514 * s + k), G 49 (514 * s + k)) else lst 0 (nl G s k)) with | some q => f_X6_pointsOfMake G q.1 q.2 | none => 0
    by_cases e : G 46 (514 * s + k) = 0
    · rw [if_pos e, if_pos e]; rfl
    · rw [if_neg e, if_neg e, ← fil_2 G s k]
      split
      · rfl
      · split
        · split <;> rfl
        · rfl
theorem fil_3 (G : GS) (s : Nat) : ∀ k, L_X6_pointsByFile_13_3 G s k = match lst 1 (nl G s k) with | some q => f_X6_pointsOfBelonging G q.1 q.2 | none => 0
  | 0 => rfl
  | k + 1 => by
    show (if G 46 (514 * s + k) = 0 then L_X6_pointsByFile_13_3 G s k else (if G 46 (514 * s + k) = 1 then v_X6_pointsByFile_82 G s k else (if G 46 (514 * s + k) = 2 then (if f_X6_isOfLatest G (G 48 (514 * s + k)) = 0 then L_X6_pointsByFile_13_3 G s k else L_X6_pointsByFile_13_3 G s k) else L_X6_pointsByFile_13_3 G s k))) = match (if G 46 (514 * s + k) = 1 then some (G 48 (514 * s + k), G 49 (514 * s + k)) else lst 1 (nl G s k)) with | some q => f_X6_pointsOfBelonging G q.1 q.2 | none => 0
    by_cases e : G 46 (514 * s + k) = 1
    · rw [if_pos e, if_pos e, if_neg (by rw [e]; decide)]; rfl
    · rw [if_neg e, if_neg e, ← fil_3 G s k]
      split
      · rfl
      · split
        · split <;> rfl
        · rfl
theorem fil_k {G : GS} {s : Nat} (hc : InvC G) (hk : NK G s (nlg G s)) {v : Nat} (hv : v < gnV G) (hs : G 30 v = nI s) : f_X6_countsByFile G s (nI v) = f_X5_counts G v ∧ f_X6_notesOf G s 3 (nI v) = nI (gnF G v) := by
  have q := hk v (Nat.lt_of_lt_of_le hv hc.v.2.1)
  unfold kn at q
  rw [if_pos hv, if_pos hs, if_pos hv, if_pos hs, if_pos hv, if_pos hs] at q
  unfold f_X6_countsByFile f_X5_counts
  rw [cnt_L, cnt_L, cnt_L, q.1, q.2.1, q.2.2]
  refine ⟨?_, (hc.f hv).1⟩
  by_cases e : G 38 v = -1
  · rw [if_pos e, if_pos e]; rfl
  · rw [if_neg e, if_neg e]; rfl
theorem fil_4 {G : GS} {s : Nat} (hc : InvC G) (hk : NK G s (nlg G s)) : ∀ k, NQ G s (nl G s k) → L_X6_pointsByFile_13_4 G s k = nI (sN (wA G) (nl G s k))
  | 0, _ => rfl
  | k + 1, hq => by
    have hq2 : NQ G s (nl G s k) := fun q h1 => hq q (List.mem_cons_of_mem _ h1)
    show (if G 46 (514 * s + k) = 0 then L_X6_pointsByFile_13_4 G s k else (if G 46 (514 * s + k) = 1 then L_X6_pointsByFile_13_4 G s k else (if G 46 (514 * s + k) = 2 then (if f_X6_isOfLatest G (G 48 (514 * s + k)) = 0 then L_X6_pointsByFile_13_4 G s k else (L_X6_pointsByFile_13_4 G s k) + (if f_X6_countsByFile G s (G 47 (514 * s + k)) = 0 then 0 else 1)) else L_X6_pointsByFile_13_4 G s k))) = nI (sN (wA G) (nl G s k) + (if G 46 (514 * s + k) = 2 then wA G (G 47 (514 * s + k)).toNatClampNeg else 0))
    rw [fil_4 hc hk k hq2]
    by_cases e : G 46 (514 * s + k) = 2
    · rw [if_neg (by rw [e]; decide), if_neg (by rw [e]; decide), if_pos e, if_pos e]
      obtain ⟨v, v1, v2, v3, v4⟩ := hq _ List.mem_cons_self e
      have v2 : G 47 (514 * s + k) = nI v := v2
      have v4 : G 48 (514 * s + k) = G 32 v := v4
      have c := (fil_k hc hk v1 v3).1
      rw [v2, v4, c, nI_clamp (by have := hc.v.2.1; omega)]
      unfold wA
      by_cases d : f_X6_isOfLatest G (G 32 v) = 0
      · rw [if_pos d, if_pos d]; rfl
      · rw [if_neg d, if_neg d, ← nI_add]
        by_cases b : f_X5_counts G v = 0
        · rw [if_pos b, if_pos b]; rfl
        · rw [if_neg b, if_neg b]; rfl
    · rw [if_neg e, if_neg e]
      split
      · rfl
      · split <;> rfl
theorem fil_5 {G : GS} {s : Nat} (hc : InvC G) (hk : NK G s (nlg G s)) : ∀ k, NQ G s (nl G s k) → L_X6_pointsByFile_13_5 G s k = if sN (wB G) (nl G s k) = 0 then 0 else 1
  | 0, _ => rfl
  | k + 1, hq => by
    have hq2 : NQ G s (nl G s k) := fun q h1 => hq q (List.mem_cons_of_mem _ h1)
    show (if G 46 (514 * s + k) = 0 then L_X6_pointsByFile_13_5 G s k else (if G 46 (514 * s + k) = 1 then L_X6_pointsByFile_13_5 G s k else (if G 46 (514 * s + k) = 2 then (if f_X6_isOfLatest G (G 48 (514 * s + k)) = 0 then L_X6_pointsByFile_13_5 G s k else if L_X6_pointsByFile_13_5 G s k = 0 then (if f_X6_notesOf G s 3 (G 47 (514 * s + k)) ≤ 5 then 0 else 1) else 1) else L_X6_pointsByFile_13_5 G s k))) = if sN (wB G) (nl G s k) + (if G 46 (514 * s + k) = 2 then wB G (G 47 (514 * s + k)).toNatClampNeg else 0) = 0 then 0 else 1
    rw [fil_5 hc hk k hq2]
    by_cases e : G 46 (514 * s + k) = 2
    · rw [if_neg (by rw [e]; decide), if_neg (by rw [e]; decide), if_pos e, if_pos e]
      obtain ⟨v, v1, v2, v3, v4⟩ := hq _ List.mem_cons_self e
      have v2 : G 47 (514 * s + k) = nI v := v2
      have v4 : G 48 (514 * s + k) = G 32 v := v4
      have c := (fil_k hc hk v1 v3).2
      rw [v2, v4, c, nI_clamp (by have := hc.v.2.1; omega)]
      rw [show wB G v = if f_X6_isOfLatest G (G 32 v) = 0 then 0 else (if nI (gnF G v) ≤ 5 then 0 else 1) from rfl]
      by_cases d : f_X6_isOfLatest G (G 32 v) = 0
      · rw [if_pos d, if_pos d]; rfl
      · rw [if_neg d, if_neg d]
        by_cases z : sN (wB G) (nl G s k) = 0
        · rw [if_pos z, if_pos rfl, z]
          by_cases b : nI (gnF G v) ≤ 5
          · rw [if_pos b, if_pos b]; rfl
          · rw [if_neg b, if_neg b]; rfl
        · rw [if_neg z, if_neg (by decide), if_neg (by omega)]
    · rw [if_neg e, if_neg e]
      split
      · rfl
      · split <;> rfl
theorem v_file {n : Nat} {G M : GS} (h : R9 n G M) {s : Nat} (hs : s < gnS G) : f_X6_pointsByFile G s = f_X6_pointsOf G s := by
  obtain ⟨_, n2, n3, n4, n5, n6⟩ := h.nt s hs
  unfold f_X6_pointsByFile f_X6_pointsOf
  have e2 := fil_2 G s (gnN G s)
  have e3 := fil_3 G s (gnN G s)
  rw [show nl G s (gnN G s) = nlg G s from rfl, n2] at e2
  rw [show nl G s (gnN G s) = nlg G s from rfl, n3] at e3
  rw [e2, e3, fil_4 h.ic n6 _ n4, fil_5 h.ic n6 _ n4, show nl G s (gnN G s) = nlg G s from rfl, n5, n5, sum_A, sum_B]
section V7
variable {n : Nat} {G M : GS}
theorem v_det (h : R9 n G M) (s : Nat) : f_X7_detentionsOf M s = f_X6_detentionsThatCount G s := by
  unfold f_X7_detentionsOf f_X6_detentionsThatCount
  rw [h.V]
  have a : ∀ k, L_X7_detentionsOf_4_2 M s k = L_X6_detentionsThatCount_4_2 G s k := fun k => by
    induction k with
    | zero => rfl
    | succ k ih =>
      show L_X7_detentionsOf_4_2 M s k + (if M 30 k = nI s then (if f_X7_isLatest M k = 0 then 0 else (if f_X7_counts M k = 0 then 0 else 1)) else 0) = if f_X6_isCounted G k s = 0 then L_X6_detentionsThatCount_4_2 G s k else (L_X6_detentionsThatCount_4_2 G s k) + 1
      unfold f_X6_isCounted
      rw [ih, v_lat h, v_cnt h, h.q 30]
      by_cases e : G 30 k = nI s
      · rw [if_pos e]
        by_cases d : f_X6_isOfLatest G (G 32 k) = 0
        · rw [if_pos d]; exact Int32.add_zero _
        · rw [if_neg d]
          by_cases c : f_X5_counts G k = 0
          · rw [if_pos c]; exact Int32.add_zero _
          · rw [if_neg c]; rfl
      · rw [if_neg e]; exact Int32.add_zero _
  exact a _
theorem v_had (h : R9 n G M) (s : Nat) : f_X7_hadMany M s = L_X6_pointsOf_4_2 G s (gnV G) := by
  unfold f_X7_hadMany
  rw [h.V]
  have a : ∀ k, k ≤ gnV G → L_X7_hadMany_4_2 M s k = L_X6_pointsOf_4_2 G s k ∧ (L_X7_hadMany_4_2 M s k = 0 ∨ L_X7_hadMany_4_2 M s k = 1) := fun k => by
    induction k with
    | zero => intro _; exact ⟨rfl, Or.inl rfl⟩
    | succ k ih =>
      intro hk
      have i := ih (by omega)
      have e1 : L_X7_hadMany_4_2 M s (k + 1) = if L_X7_hadMany_4_2 M s k = 0 then (if M 30 k = nI s then (if f_X7_isLatest M k = 0 then 0 else (if M 35 k ≤ 5 then 0 else 1)) else 0) else 1 := rfl
      have e2 : L_X6_pointsOf_4_2 G s (k + 1) = if G 30 k = nI s then (if f_X6_isOfLatest G (G 32 k) = 0 then L_X6_pointsOf_4_2 G s k else (if nI (gnF G k) ≤ 5 then L_X6_pointsOf_4_2 G s k else 1)) else L_X6_pointsOf_4_2 G s k := rfl
      rw [h.q 30, v_lat h, h.q 35, (h.ic.f (by omega : k < gnV G)).1] at e1
      rw [← i.1] at e2
      rw [e1, e2]
      rcases i.2 with z | z
      · rw [z, if_pos rfl]
        by_cases e : G 30 k = nI s
        · rw [if_pos e]
          by_cases d : f_X6_isOfLatest G (G 32 k) = 0
          · rw [if_pos d]; exact ⟨rfl, Or.inl rfl⟩
          · rw [if_neg d]
            by_cases c : nI (gnF G k) ≤ 5
            · rw [if_pos c]; exact ⟨rfl, Or.inl rfl⟩
            · rw [if_neg c]; exact ⟨rfl, Or.inr rfl⟩
        · rw [if_neg e]; exact ⟨rfl, Or.inl rfl⟩
      · rw [z, if_neg (by decide)]
        refine ⟨?_, Or.inr rfl⟩
        split
        · split
          · rfl
          · split <;> rfl
        · rfl
  exact (a _ (Nat.le_refl _)).1
theorem v_lis (h : R9 n G M) (x : Int32) : f_X7_listOf M x = f_X6_listOf G x := by
  have a2 : ∀ k, L_X7_listOf_7_2 M x k = L_X6_listOf_7_2 G x k := fun k => by
    induction k with
    | zero => rfl
    | succ k ih =>
      show L_X7_listOf_7_2 M x k + (if v_X7_listOf_41 M x k = 0 then 0 else 1) = if G 34 k = x then (if f_X6_isOfLatest G (G 32 k) = 0 then L_X6_listOf_7_2 G x k else (L_X6_listOf_7_2 G x k) + 1) else L_X6_listOf_7_2 G x k
      unfold v_X7_listOf_41
      rw [ih, h.q 34, v_lat h]
      by_cases e : G 34 k = x
      · rw [if_pos e, if_pos e]
        by_cases d : f_X6_isOfLatest G (G 32 k) = 0
        · rw [if_pos d, if_pos d]; exact Int32.add_zero _
        · rw [if_neg d, if_neg d]; rfl
      · rw [if_neg e, if_neg e]; exact Int32.add_zero _
  have a3 : ∀ k, L_X7_listOf_7_3 M x k = L_X6_listOf_7_3 G x k := fun k => by
    induction k with
    | zero => rfl
    | succ k ih =>
      show L_X7_listOf_7_3 M x k + (if v_X7_listOf_41 M x k = 0 then 0 else (if f_X7_counts M k = 0 then 0 else 1)) = if G 34 k = x then (if f_X6_isOfLatest G (G 32 k) = 0 then L_X6_listOf_7_3 G x k else (L_X6_listOf_7_3 G x k) + (if f_X5_counts G k = 0 then 0 else 1)) else L_X6_listOf_7_3 G x k
      unfold v_X7_listOf_41
      rw [ih, h.q 34, v_lat h, v_cnt h]
      by_cases e : G 34 k = x
      · rw [if_pos e, if_pos e]
        by_cases d : f_X6_isOfLatest G (G 32 k) = 0
        · rw [if_pos d, if_pos d]; exact Int32.add_zero _
        · rw [if_neg d, if_neg d]; rfl
      · rw [if_neg e, if_neg e]; exact Int32.add_zero _
  unfold f_X7_listOf f_X6_listOf v_X7_listOf_96 v_X7_listOf_110 f_X6_listBy
  rw [h.V, a2, a3]
theorem v_pts (h : R9 n G M) (s : Nat) : f_X7_pointsOf M s = f_X6_pointsOf G s := by
  unfold f_X7_pointsOf v_X7_pointsOf_116 v_X7_pointsOf_100 v_X7_pointsOf_78 v_X7_pointsOf_56 f_X6_pointsOf f_X6_pointsOfMake f_X6_pointsOfBelonging f_X6_pointsOfVisits v_X6_pointsOfMake_19 v_X6_pointsOfBelonging_25
  rw [v_old h, h.q 6, v_lis h, h.q 7, v_had h, v_det h, v_sus h]
  have e1 : (if G 6 s = 1 then (1 : Int32) else (if G 6 s = 2 then 2 else 0)) = (if G 6 s = 2 then 2 else (if G 6 s = 1 then 1 else 0)) := by
    by_cases a : G 6 s = 1
    · rw [a]; rfl
    · rw [if_neg a, if_neg a]
  have e2 : (if f_X6_listOf G (G 7 s) = 2 then (1 : Int32) else (if f_X6_listOf G (G 7 s) = 3 then 2 else 0)) = (if f_X6_listOf G (G 7 s) = 3 then 2 else (if f_X6_listOf G (G 7 s) = 2 then 1 else 0)) := by
    by_cases a : f_X6_listOf G (G 7 s) = 2
    · rw [a]; rfl
    · rw [if_neg a, if_neg a]
  have e3 : ∀ d : Int32, (if 2 ≤ d then 2 else d) = (if 2 < d then 2 else d) := fun d => by
    by_cases a : 2 < d
    · rw [if_pos a, if_pos]
      have q := Int32.lt_iff_toInt_lt.mp a
      exact Int32.le_iff_toInt_le.mpr (by omega)
    · rw [if_neg a]
      by_cases b : 2 ≤ d
      · rw [if_pos b]
        exact Int32.le_antisymm b (Int32.not_lt.mp a)
      · rw [if_neg b]
  have e4 : ∀ c : Prop, [Decidable c] → (if (if c then (0 : Int32) else 1) = 0 then (0 : Int32) else 1) = (if c then 0 else 1) := fun c _ => by
    by_cases a : c
    · rw [if_pos a]; rfl
    · rw [if_neg a]; rfl
  rw [e1, e2, e3, e4]
  generalize (if f_X6_isOld G (G 4 s) = 0 then (0 : Int32) else 1) = a
  generalize (if G 6 s = 2 then (2 : Int32) else (if G 6 s = 1 then 1 else 0)) = b
  generalize (if f_X6_listOf G (G 7 s) = 3 then (2 : Int32) else (if f_X6_listOf G (G 7 s) = 2 then 1 else 0)) = c
  generalize (if M 2 (M 8 s).toNatClampNeg = 0 then (0 : Int32) else 1) = d
  rw [Int32.add_assoc (a + b) c d, Int32.add_assoc ((a + b) + (c + d))]
theorem v_rsk (h : R9 n G M) (s : Nat) : f_X7_riskOf M s = f_X6_riskOf G s := by
  unfold f_X7_riskOf f_X6_riskOf
  rw [v_pts h, v_lis h, h.q 7]
theorem rsk3 (G : GS) (s : Nat) : f_X6_riskOf G s = 0 ∨ f_X6_riskOf G s = 1 ∨ f_X6_riskOf G s = 2 := by
  unfold f_X6_riskOf
  split
  · split
    · split
      · exact Or.inl rfl
      · exact Or.inr (Or.inl rfl)
    · exact Or.inr (Or.inl rfl)
  · exact Or.inr (Or.inr rfl)
theorem v_pri (h : R9 n G M) (s : Nat) : f_X7_priorityOf M s = f_X6_priorityOf G s := by
  unfold f_X7_priorityOf f_X6_priorityOf v_X7_priorityOf_60 v_X7_priorityOf_87 f_X6_windowBegin f_X6_windowEnd
  rw [v_rsk h, h.q 12, h.q 1, h.q 32]
  rcases rsk3 G s with e | e | e <;> rw [e] <;> rfl
theorem v_lf2 (h : R9 n G M) (s k : Nat) : L_X7_looksForBan_4_2 M s k = L_X6_lookForBan_4_2 G s k := by
  induction k with
  | zero => rfl
  | succ k ih =>
    show L_X7_looksForBan_4_2 M s k + (if M 30 k = nI s then (if f_X7_isLatest M k = 0 then 0 else (if f_X7_counts M k = 0 then 0 else (if M 42 k = 0 then 1 else 0))) else 0) = if f_X6_isCounted G k s = 0 then L_X6_lookForBan_4_2 G s k else (if G 42 k = 0 then (L_X6_lookForBan_4_2 G s k) + 1 else L_X6_lookForBan_4_2 G s k)
    unfold f_X6_isCounted
    rw [ih, v_lat h, v_cnt h, h.q 30, h.q 42]
    by_cases e : G 30 k = nI s
    · rw [if_pos e, if_pos e]
      by_cases d : f_X6_isOfLatest G (G 32 k) = 0
      · rw [if_pos d, if_pos d]; exact Int32.add_zero _
      · rw [if_neg d, if_neg d]
        by_cases c : f_X5_counts G k = 0
        · rw [if_pos c, if_pos c]; exact Int32.add_zero _
        · rw [if_neg c, if_neg c]
          by_cases b : G 42 k = 0
          · rw [if_pos b, if_pos b]; rfl
          · rw [if_neg b, if_neg b]; exact Int32.add_zero _
    · rw [if_neg e, if_neg e]; exact Int32.add_zero _
theorem v_lf42 (h : R9 n G M) (s : Nat) : ∀ k, k ≤ gnV G → (LG_X7_looksForBan_69 M s k) 42 = (LG_X6_lookForBan_68 G s k) 42
  | 0, _ => h.q 42
  | k + 1, hk => by
    have ih := v_lf42 h s k (by omega)
    have m := fun j hj => LG_X7_looksForBan_69_ne M s k j hj
    have g : ∀ j, j ≠ 42 → j ≠ 14 → (LG_X6_lookForBan_68 G s k) j = G j := fun j h1 h2 => (LFB_ne G s k j h1).trans (up2_ne h2)
    have c1 : (if (LG_X7_looksForBan_69 M s k) 30 k = nI s then (if f_X7_isLatest (LG_X7_looksForBan_69 M s k) k = 0 then (0 : Int32) else (if f_X7_counts (LG_X7_looksForBan_69 M s k) k = 0 then 0 else 1)) else 0) = f_X6_isCounted G k s := by
      have l1 : f_X7_isLatest (LG_X7_looksForBan_69 M s k) k = f_X7_isLatest M k := by
        unfold f_X7_isLatest
        rw [m 1 (by decide), m 32 (by decide)]
      have l2 : f_X7_counts (LG_X7_looksForBan_69 M s k) k = f_X7_counts M k := by
        unfold f_X7_counts
        rw [m 38 (by decide), m 40 (by decide)]
      rw [l1, l2, m 30 (by decide), v_lat h, v_cnt h, h.q 30]
      rfl
    have c2 : f_X6_isCounted (LG_X6_lookForBan_68 G s k) k s = f_X6_isCounted G k s := by
      unfold f_X6_isCounted f_X6_isOfLatest f_X5_counts
      rw [g 1 (by decide) (by decide), g 30 (by decide) (by decide), g 32 (by decide) (by decide), g 38 (by decide) (by decide), g 40 (by decide) (by decide)]
    have z := nz_or ((LFB_I s h.ic k).b39 (v := k) (by rw [LFB_V]; omega)).2
    have e1 : (LG_X7_looksForBan_69 M s (k + 1)) 42 = upd ((LG_X7_looksForBan_69 M s k) 42) k (if (LG_X7_looksForBan_69 M s k) 42 k = 0 then f_X6_isCounted G k s else 1) := by
      rw [← c1]
      exact up2_eq _ _ _ _
    have e2 : (LG_X6_lookForBan_68 G s (k + 1)) = if f_X6_isCounted (LG_X6_lookForBan_68 G s k) k s = 0 then LG_X6_lookForBan_68 G s k else up2 (LG_X6_lookForBan_68 G s k) 42 k 1 := rfl
    rw [e1, e2, c2, ih]
    by_cases c : f_X6_isCounted G k s = 0
    · rw [if_pos c, c]
      funext x
      unfold upd
      by_cases e : x = k
      · rw [if_pos e, e]
        rcases z with z | z <;> rw [z] <;> rfl
      · rw [if_neg e]
    · rw [if_neg c, up2_eq]
      have c9 : f_X6_isCounted G k s = 1 := by
        unfold f_X6_isCounted at c ⊢
        split at c
        · rename_i q
          rw [if_pos q]
          split at c
          · exact absurd rfl c
          · rename_i q
            rw [if_neg q]
            split at c
            · exact absurd rfl c
            · rename_i q
              rw [if_neg q]
        · exact absurd rfl c
      rw [c9]
      rcases z with z | z <;> rw [z] <;> rfl
end V7
