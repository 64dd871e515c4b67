/-! the reference's answers look at few of its rows -/
def PRL : List Nat := [1, 2, 4, 6, 7, 8, 12, 29, 30, 32, 34, 35, 38, 40]
section CG
variable {M1 M : GS}
theorem cg_cnt (e : ∀ k, k ∈ PRL → M1 k = M k) (v : Nat) : f_X7_counts M1 v = f_X7_counts M v := by
  unfold f_X7_counts
  rw [e 38 (by decide), e 40 (by decide)]
theorem cg_lat (e : ∀ k, k ∈ PRL → M1 k = M k) (v : Nat) : f_X7_isLatest M1 v = f_X7_isLatest M v := by
  unfold f_X7_isLatest
  rw [e 1 (by decide), e 32 (by decide)]
theorem cg_V (e : ∀ k, k ∈ PRL → M1 k = M k) : gnV M1 = gnV M := congrArg (fun z : Nat → Int32 => (z 0).toNatClampNeg) (e 29 (by decide))
theorem cg_41 (e : ∀ k, k ∈ PRL → M1 k = M k) (x : Int32) (k : Nat) : v_X7_listOf_41 M1 x k = v_X7_listOf_41 M x k := by
  unfold v_X7_listOf_41
  rw [e 34 (by decide), cg_lat e]
theorem cg_l2 (e : ∀ k, k ∈ PRL → M1 k = M k) (x : Int32) : ∀ k, L_X7_listOf_7_2 M1 x k = L_X7_listOf_7_2 M x k
  | 0 => rfl
  | k + 1 => by
    show (L_X7_listOf_7_2 M1 x k) + (if v_X7_listOf_41 M1 x k = 0 then 0 else 1) = (L_X7_listOf_7_2 M x k) + (if v_X7_listOf_41 M x k = 0 then 0 else 1)
    rw [cg_l2 e x k, cg_41 e]
theorem cg_l3 (e : ∀ k, k ∈ PRL → M1 k = M k) (x : Int32) : ∀ k, L_X7_listOf_7_3 M1 x k = L_X7_listOf_7_3 M x k
  | 0 => rfl
  | k + 1 => by
    show (L_X7_listOf_7_3 M1 x k) + (if v_X7_listOf_41 M1 x k = 0 then 0 else (if f_X7_counts M1 k = 0 then 0 else 1)) = (L_X7_listOf_7_3 M x k) + (if v_X7_listOf_41 M x k = 0 then 0 else (if f_X7_counts M k = 0 then 0 else 1))
    rw [cg_l3 e x k, cg_41 e, cg_cnt e]
theorem cg_lis (e : ∀ k, k ∈ PRL → M1 k = M k) (x : Int32) : f_X7_listOf M1 x = f_X7_listOf M x := by
  unfold f_X7_listOf v_X7_listOf_96 v_X7_listOf_110
  rw [cg_V e, cg_l2 e, cg_l3 e]
theorem cg_had (e : ∀ k, k ∈ PRL → M1 k = M k) (s : Nat) : ∀ k, L_X7_hadMany_4_2 M1 s k = L_X7_hadMany_4_2 M s k
  | 0 => rfl
  | k + 1 => by
    show (if L_X7_hadMany_4_2 M1 s k = 0 then (if M1 30 k = nI s then (if f_X7_isLatest M1 k = 0 then 0 else (if M1 35 k ≤ 5 then 0 else 1)) else 0) else 1) = (if L_X7_hadMany_4_2 M s k = 0 then (if M 30 k = nI s then (if f_X7_isLatest M k = 0 then 0 else (if M 35 k ≤ 5 then 0 else 1)) else 0) else 1)
    rw [cg_had e s k, cg_lat e, e 30 (by decide), e 35 (by decide)]
theorem cg_det4 (e : ∀ k, k ∈ PRL → M1 k = M k) (s : Nat) : ∀ k, L_X7_detentionsOf_4_2 M1 s k = L_X7_detentionsOf_4_2 M s k
  | 0 => rfl
  | k + 1 => by
    show (L_X7_detentionsOf_4_2 M1 s k) + (if M1 30 k = nI s then (if f_X7_isLatest M1 k = 0 then 0 else (if f_X7_counts M1 k = 0 then 0 else 1)) else 0) = (L_X7_detentionsOf_4_2 M s k) + (if M 30 k = nI s then (if f_X7_isLatest M k = 0 then 0 else (if f_X7_counts M k = 0 then 0 else 1)) else 0)
    rw [cg_det4 e s k, cg_lat e, cg_cnt e, e 30 (by decide)]
theorem cg_det (e : ∀ k, k ∈ PRL → M1 k = M k) (s : Nat) : f_X7_detentionsOf M1 s = f_X7_detentionsOf M s := by
  unfold f_X7_detentionsOf
  rw [cg_V e, cg_det4 e]
theorem cg_pts (e : ∀ k, k ∈ PRL → M1 k = M k) (s : Nat) : f_X7_pointsOf M1 s = f_X7_pointsOf M s := by
  unfold f_X7_pointsOf v_X7_pointsOf_116 v_X7_pointsOf_100 v_X7_pointsOf_78 v_X7_pointsOf_56 f_X7_isOld f_X7_hadMany
  rw [cg_V e, cg_had e, cg_det e, cg_lis e, e 1 (by decide), e 2 (by decide), e 4 (by decide), e 6 (by decide), e 7 (by decide), e 8 (by decide)]
theorem cg_rsk (e : ∀ k, k ∈ PRL → M1 k = M k) (s : Nat) : f_X7_riskOf M1 s = f_X7_riskOf M s := by
  unfold f_X7_riskOf
  rw [cg_pts e, cg_lis e, e 7 (by decide)]
theorem cg_pri (e : ∀ k, k ∈ PRL → M1 k = M k) (s : Nat) : f_X7_priorityOf M1 s = f_X7_priorityOf M s := by
  unfold f_X7_priorityOf v_X7_priorityOf_60 v_X7_priorityOf_87
  rw [cg_rsk e, e 1 (by decide), e 12 (by decide), e 32 (by decide)]
end CG
def LQ (D : va_G) (cy : Nat → ClassId) (A : Nat → Prop) (s : State) (o : Nat) (ad : Nat → Nat) (n : Nat) (H : Heap) (locs : List Loc) : Prop := ∃ (X Y : MU) (AD : AM) (G M S : GS) (Wf : Nat → Int64), AD 0 0 0 = o ∧ dis X Y ∧ RepC cy AD G X ∧ RepL cy ad S Wf Y ∧ WW D cy A (un X Y) s H locs ∧ R26 n G M S Wf
def LJ (b o t : Nat) (ad : Nat → Nat) (u : Int32) : List (Nat × Value) := [(17, .int 1), (0, .ref b), (1, .ref o), (2, .ref (ad 2)), (3, .ref (ad 3)), (4, .ref (ad 4)), (5, .ref (ad 5)), (6, .ref (ad 6)), (7, .ref (ad 7)), (8, .ref (ad 8)), (9, .ref (ad 9)), (10, .ref (ad 10)), (11, .int (nI t)), (13, .int u)]
def KJ (p : Program) (l : Launch) (e : Env) (R : Room) (s : State) (m : MethodId) (args : Array Value) (below : List Frame) (meth : Method) (c : Code) (Q : State → Prop) (D : va_G) (cy : Nat → ClassId) (A : Nat → Prop) (o b t : Nat) (ad : Nat → Nat) (u : Int32) (n1 c1 s1 : Nat) : Prop := ∀ (H1 : Heap) (locs1 : List Loc) (ls1 : Array Slot), LQ D cy A s o ad n1 H1 locs1 → lv_has ls1 40 (LJ b o t ad u) → W p l e R s m args below meth c H1 locs1 c1 s1 Q (F0 m 3461 ls1 [])
section SI
variable {n : Nat} {G M S : GS} {Wf : Nat → Int64}
theorem si_ok (h : R26 n G M S Wf) {i : Nat} (hi0 : gnS M = 0 ∨ i < gnS M) (c : ¬ S 10 8 = 0) : i < gnS M := by
  rcases hi0 with q | q
  · exact absurd (by rw [h.g8, h.nS, q]; rfl) c
  · exact q
theorem vi_ok (h : R26 n G M S Wf) {v : Nat} (hv0 : gnV M = 0 ∨ v < gnV M) (c : ¬ S 10 2 = 0) : v < gnV M := by
  rcases hv0 with q | q
  · exact absurd (by rw [h.g2, h.nV, q]; rfl) c
  · exact q
theorem gS9 (h : R26 n G M S Wf) {i : Nat} (hi : i < gnS M) : i < gnS G := by rw [← h.r.S]; exact hi
theorem gV9 (h : R26 n G M S Wf) {v : Nat} (hv : v < gnV M) : v < gnV G := by rw [← h.r.V]; exact hv
theorem p10 (h : R26 n G M S Wf) {i : Nat} (hi : i < gnS M) (hn : ¬ S 2 (14 * i + 6) = -1) : ∃ p, p < 4 ∧ S 2 (14 * i + 6) = nI p ∧ M 10 i = nI p := by
  rw [h.x6 hi] at hn ⊢
  rcases h.r.b10 i with q | ⟨p, p1, p2⟩
  · exact absurd (by rw [h.r.q 10]; exact q.1) hn
  · exact ⟨p, p1, by rw [h.r.q 10, p2], by rw [h.r.q 10, p2]⟩
end SI
