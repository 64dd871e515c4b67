def L_L_law_vo_1780_27 (S : GS) (i : Nat) (k1768 : Nat) (a0 : Int32) : Nat → Int32
  | 0 => a0
  | k1780 + 1 => (L_L_law_vo_1780_27 S i k1768 a0 k1780) ||| (if (S 5 k1768) &&& 3 = nI i then (if ((S 8 k1768) >>> ((nI (2 * k1780)) &&& 31)) &&& 3 = 2 then 1 else 0) else 0)
def L_L_law_vo_1780_27x4 (S : GS) (i : Nat) (k1768 : Nat) (a0 : Int32) : Nat → Int32
  | 0 => a0
  | k1780 + 1 => (L_L_law_vo_1780_27x4 S i k1768 a0 k1780) ||| (if (S 5 k1768) &&& 3 = nI i then (if ((S 8 k1768) >>> ((nI (2 * k1780)) &&& 31)) &&& 3 = 2 then 1 else 0) else 0)
def L_L_law_vo_1768_27 (S : GS) (i : Nat) : Nat → Int32
  | 0 => 0
  | k1768 + 1 => L_L_law_vo_1780_27x4 S i k1768 (L_L_law_vo_1768_27 S i k1768) (fn S k1768)
theorem fn_e {n : Nat} {G M S : GS} {Wf : Nat → Int64} (h : R26 n G M S Wf) {v : Nat} (hv : v < gnV M) : f_L_findings (S 5 v) = nI (fn S v) ∧ fn S v ≤ 12 := by
  rw [vl_fn h hv]
  exact ⟨(vl_fnd h hv).trans (h.fc hv).1, (h.fc hv).2⟩
theorem or01 : ∀ x y : Int32, (x = 0 ∨ x = 1) → (y = 0 ∨ y = 1) → (x ||| y = if x = 0 then y else 1) ∧ ((if x = 0 then y else 1) = 0 ∨ (if x = 0 then y else 1) = 1) := by
  intro x y hx hy
  rcases hx with hx | hx <;> rcases hy with hy | hy <;> subst hx <;> subst hy <;> decide
theorem vo_e {n : Nat} {G M S : GS} {Wf : Nat → Int64} (h : R26 n G M S Wf) {i : Nat} : L_L_law_vo_1768_27 S i (gv S) = f_X7_hasOff M i := by
  rw [h.eV]
  have hin : ∀ k, k < gnV M → ∀ a0 : Int32, (a0 = 0 ∨ a0 = 1) → ∀ b, b ≤ gnF M k → L_L_law_vo_1780_27x4 S i k a0 b = L_X7_hasOff_15_2 M i k a0 b ∧ (L_X7_hasOff_15_2 M i k a0 b = 0 ∨ L_X7_hasOff_15_2 M i k a0 b = 1) := by
    intro k hk a0 h0 b
    induction b with
    | zero => intro _; exact ⟨rfl, h0⟩
    | succ b ih =>
      intro hb
      obtain ⟨i1, i2⟩ := ih (by omega)
      have hy : (if M 30 k = nI i then (if M 37 ((12 * k) + b) = 2 then (1 : Int32) else 0) else 0) = 0 ∨ (if M 30 k = nI i then (if M 37 ((12 * k) + b) = 2 then (1 : Int32) else 0) else 0) = 1 := by
        by_cases c : M 30 k = nI i
        · rw [if_pos c]
          by_cases c2 : M 37 ((12 * k) + b) = 2
          · rw [if_pos c2]; exact Or.inr rfl
          · rw [if_neg c2]; exact Or.inl rfl
        · rw [if_neg c]; exact Or.inl rfl
      have q := or01 _ _ i2 hy
      show (L_L_law_vo_1780_27x4 S i k a0 b) ||| (if (S 5 k) &&& 3 = nI i then (if ((S 8 k) >>> ((nI (2 * b)) &&& 31)) &&& 3 = 2 then 1 else 0) else 0) = (if L_X7_hasOff_15_2 M i k a0 b = 0 then (if M 30 k = nI i then (if M 37 ((12 * k) + b) = 2 then 1 else 0) else 0) else 1) ∧ _
      rw [(h.a k hk).g.1, md_f h hk (show b < gnF M k by omega), i1]
      exact q
  have : ∀ k, k ≤ gnV M → L_L_law_vo_1768_27 S i k = L_X7_hasOff_4_2 M i k ∧ (L_X7_hasOff_4_2 M i k = 0 ∨ L_X7_hasOff_4_2 M i k = 1) := by
    intro k
    induction k with
    | zero => intro _; exact ⟨rfl, Or.inl rfl⟩
    | succ k ih =>
      intro hk
      obtain ⟨i1, i2⟩ := ih (by omega)
      show L_L_law_vo_1780_27x4 S i k (L_L_law_vo_1768_27 S i k) (fn S k) = L_X7_hasOff_15_2 M i k (L_X7_hasOff_4_2 M i k) (gnF M k) ∧ _
      rw [i1, vl_fn h (by omega)]
      exact hin k (by omega) _ i2 _ (Nat.le_refl _)
  exact (this _ (Nat.le_refl _)).1
theorem lap_nn (M : GS) (s : Nat) : ∀ k, k ≤ 5 → ∃ z, z < 2 ^ k ∧ L_X7_lapsedOf_4_2 M s k = nI z
  | 0, _ => ⟨0, by decide, rfl⟩
  | k + 1, hk => by
    obtain ⟨z, z1, z2⟩ := lap_nn M s k (by omega)
    show ∃ y, y < 2 ^ (k + 1) ∧ (L_X7_lapsedOf_4_2 M s k) ||| (if f_X7_isLapsed M s k = 0 then 0 else (1 : Int32) <<< ((nI k) &&& 31)) = nI y
    rw [z2]
    by_cases c : f_X7_isLapsed M s k = 0
    · rw [if_pos c, Int32.or_zero]
      exact ⟨z, by rw [Nat.pow_succ]; omega, rfl⟩
    · rw [if_neg c, (by decide +kernel : ∀ k, k < 5 → (1 : Int32) <<< ((nI k) &&& 31) = nI (2 ^ k)) k (by omega), fa_or]
      exact ⟨_, Nat.or_lt_two_pow (Nat.lt_trans z1 (Nat.pow_lt_pow_right (by decide) (by omega))) (Nat.pow_lt_pow_right (by decide) (by omega)), rfl⟩
theorem lap_0 {n : Nat} {G M S : GS} {Wf : Nat → Int64} (h : R26 n G M S Wf) {s : Nat} (hs : s < 4) : f_L_lapsed S s ≤ 0 ↔ f_X7_lapsedOf M s = 0 := by
  rw [vl_lap h hs]
  obtain ⟨z, z1, z2⟩ := lap_nn M s 5 (by decide)
  have z2 : f_X7_lapsedOf M s = nI z := z2
  rw [z2]
  constructor
  · intro q
    have := (nI_leI (b := 0) (by omega) (by decide)).mp q
    rw [show z = 0 by omega]
    rfl
  · intro q
    rw [q]
    decide
theorem va_n : ∀ i, i < 4 → ∀ p, p < 4 → ∀ k, k < 3 → ∀ f, f < 3 → (((nI i) ||| ((nI p) <<< (2 &&& 31))) ||| ((nI k) <<< (4 &&& 31))) ||| ((nI f) <<< (6 &&& 31)) = nI (aN i p k f 0 0 0 0 0) := by decide +kernel
section VS
variable {n : Nat} {G M S : GS} {Wf : Nat → Int64}
theorem vs_lt (h : R26 n G M S Wf) (c : ¬ S 10 2 = 50) : gnV M < 50 := by
  have := h.b.2.2
  exact Nat.lt_of_le_of_ne this (fun q => c (by rw [h.g2, h.nV, q]; rfl))
theorem vs_no (h : R26 n G M S Wf) {i : Nat} (hi : i < gnS M) (c9 : S 2 ((14 * i) + 6) = (-1) ∨ ¬ S 2 ((14 * i) + 7) = (-1)) : A_visit G (nI i) = (-7300) ∧ H_visit G (nI i) = G := by
  rw [h.x6 hi, h.x7 hi] at c9
  exact sp_visit_no h.r (gS9 h hi) c9
theorem vs_kind (h : R26 n G M S Wf) {i : Nat} (hi : i < gnS M) : (g_X7_visit_10 M i) 33 (gnV M) = if f_L_risk S i = 2 then 2 else (if (S 10 0) - (S 2 (14 * i)) ≤ 4380 then (if f_X7_hasOff M i = 0 then (if f_L_lapsed S i ≤ 0 then 0 else 1) else 1) else (if S 2 ((14 * i) + 2) = 0 then (if f_X7_hasOff M i = 0 then (if f_L_lapsed S i ≤ 0 then 0 else 1) else 1) else 2)) := by
  have hi4 : i < 4 := by have := h.b.1; omega
  have h1 : R26 n G (g_X7_visit_1 M i) S Wf := h.z _
  have e : (g_X7_visit_10 M i) 33 (gnV M) = (if v_X7_visit_90 M i = 0 then (if v_X7_visit_112 M i = 0 then 0 else 1) else 2) := (show upd ((g_X7_visit_1 M i) 33) (gnV M) (if v_X7_visit_90 M i = 0 then (if v_X7_visit_112 M i = 0 then 0 else 1) else 2) (gnV M) = _ from pk_us)
  rw [e]
  have e90 : v_X7_visit_90 M i = (if f_L_risk S i = 2 then 1 else (if (S 10 0) - (S 2 (14 * i)) ≤ 4380 then 0 else (if S 2 ((14 * i) + 2) = 0 then 0 else 1))) := by
    unfold v_X7_visit_90 f_X7_isOld
    rw [vl_rsk h1 hi, h.g0, h.x0 hi, h.x2 hi, e_g_X7_visit_1 M i (by decide), e_g_X7_visit_1 M i (by decide)]
    by_cases c : (M 1 0) - (M 4 i) ≤ 4380
    · rw [if_pos c, if_pos c, if_pos rfl]
    · rw [if_neg c, if_neg c, if_neg one_ne]
  have e112 : v_X7_visit_112 M i = 0 ↔ (f_X7_hasOff M i = 0 ∧ f_L_lapsed S i ≤ 0) := by
    unfold v_X7_visit_112
    rw [(vo_e h1).symm.trans (vo_e h), lap_0 h1 hi4]
    by_cases c : f_X7_lapsedOf (g_X7_visit_1 M i) i = 0
    · rw [if_pos c]
      by_cases c2 : f_X7_hasOff M i = 0
      · rw [if_pos c2]; exact ⟨fun _ => ⟨c2, c⟩, fun _ => rfl⟩
      · rw [if_neg c2]; exact ⟨fun q => absurd q one_ne, fun q => absurd q.1 c2⟩
    · rw [if_neg c]; exact ⟨fun q => absurd q one_ne, fun q => absurd q.2 c⟩
  have eJ : (if v_X7_visit_112 M i = 0 then (0 : Int32) else 1) = (if f_X7_hasOff M i = 0 then (if f_L_lapsed S i ≤ 0 then 0 else 1) else 1) := by
    by_cases a : f_X7_hasOff M i = 0
    · rw [if_pos a]
      by_cases b : f_L_lapsed S i ≤ 0
      · rw [if_pos b, if_pos (e112.mpr ⟨a, b⟩)]
      · rw [if_neg b, if_neg (fun q => b (e112.mp q).2)]
    · rw [if_neg a, if_neg (fun q => a (e112.mp q).1)]
  rw [eJ, e90]
  by_cases c1 : f_L_risk S i = 2
  · rw [if_pos c1, if_pos c1, if_neg one_ne]
  · rw [if_neg c1, if_neg c1]
    by_cases c2 : (S 10 0) - (S 2 (14 * i)) ≤ 4380
    · rw [if_pos c2, if_pos c2, if_pos rfl]
    · rw [if_neg c2, if_neg c2]
      by_cases c3 : S 2 ((14 * i) + 2) = 0
      · rw [if_pos c3, if_pos c3, if_pos rfl]
      · rw [if_neg c3, if_neg c3, if_neg one_ne]
theorem vs_ok (h : R26 n G M S Wf) (hn : n < 512) {i k : Nat} (hi : i < gnS M) (h50 : gnV M < 50) (c6 : ¬ S 2 ((14 * i) + 6) = (-1)) (c7 : S 2 ((14 * i) + 7) = (-1)) (hk : k < 3) (ek : (g_X7_visit_10 M i) 33 (gnV M) = nI k) : A_visit G (nI i) = nI (gnV M) ∧ R26 (n + 1) (H_visit G (nI i)) (g_X7_visit_10 M i) (up2 (up2 (up2 (up2 (up2 (up2 S 5 (gnV M) ((((nI i) ||| ((S 2 ((14 * i) + 6)) <<< (2 &&& 31))) ||| ((nI k) <<< (4 &&& 31))) ||| ((S 2 ((14 * i) + 3)) <<< (6 &&& 31)))) 6 (gnV M) (S 10 0)) 7 (gnV M) (-1)) 2 ((14 * i) + 7) (nI (gnV M))) 2 ((14 * i) + 8) (nI (gnV M))) 10 2 ((S 10 2) + 1)) Wf := by
  have hi4 : i < 4 := by have := h.b.1; omega
  have hV := h.r.V
  rw [h.x6 hi] at c6
  rw [h.x7 hi] at c7
  obtain ⟨a, r⟩ := sp_visit_ok h.r hn (gS9 h hi) (by omega) c6 c7
  refine ⟨a, st_visit h hi h50 c6 rfl (fun p k9 f hp hk9 hf e10 e7 e33 => ?_) ⟨k, hk, ek⟩ r⟩
  have q := (nI_eq (by omega) (by omega)).mp (e33.symm.trans ek)
  rw [h.x6 hi, h.x3 hi, e10, e7, q]
  exact va_n i hi4 p hp k hk f hf
end VS
set_option maxHeartbeats 4000000 in
set_option maxRecDepth 100000 in
theorem lc_vo {p : Program} {l : Launch} {e : Env} {R : Room} {s : State} {m : MethodId} {args : Array Value} {below : List Frame} {meth : Method} {c : Code} {Q : State → Prop} {D : va_G} {cy : Nat → ClassId} {A : Nat → Prop} {o b t i v : Nat} {ad : Nat → Nat} {u v12 : Int32} {n n1 c1 s1 : Nat} {G M S : GS} {Wf : Nat → Int64} (F : CallFix p m c cL_law 40 s args BIG RL) (hlf : l.stackTraces = false) (hRm : 11 ≤ R.frames ∧ 278 ≤ R.locals ∧ c1 ≤ R.cells ∧ s1 ≤ R.slots) (h511 : n1 ≤ 511) (hR : R26 n G M S Wf) (hi4 : i < 4) {X Y : MU} {AD : AM} {H : Heap} {locs : List Loc} {cells slots : Nat} (hf : cells + 0 ≤ c1 ∧ slots + 0 ≤ s1) (hn : n + 0 ≤ n1) (ho : AD 0 0 0 = o) (hd : dis X Y) (hM : RepC cy AD G X) (hY : RepL cy ad S Wf Y) (w : WW D cy A (un X Y) s H locs) {ls : Array Slot} (kk : ∀ ls, lv_has ls 40 [(27, .int (f_X7_hasOff M i)), (0, .ref b), (1, .ref o), (2, .ref (ad 2)), (3, .ref (ad 3)), (4, .ref (ad 4)), (5, .ref (ad 5)), (6, .ref (ad 6)), (7, .ref (ad 7)), (8, .ref (ad 8)), (9, .ref (ad 9)), (10, .ref (ad 10)), (11, .int (nI t)), (12, .int v12), (13, .int u), (14, .int (nI i)), (15, .int (nI (14 * i))), (16, .int (nI v)), (17, .int 1)] → W p l e R s m args below meth c H locs cells slots Q (F0 m 1843 ls [])) (hl : lv_has ls 40 [(0, .ref b), (1, .ref o), (2, .ref (ad 2)), (3, .ref (ad 3)), (4, .ref (ad 4)), (5, .ref (ad 5)), (6, .ref (ad 6)), (7, .ref (ad 7)), (8, .ref (ad 8)), (9, .ref (ad 9)), (10, .ref (ad 10)), (11, .int (nI t)), (12, .int v12), (13, .int u), (14, .int (nI i)), (15, .int (nI (14 * i))), (16, .int (nI v)), (17, .int 1)]) : W p l e R s m args below meth c H locs cells slots Q (F0 m 1762 ls []) := by
  have hL := hY.un hd
  obtain ⟨t9, ht9, ht⟩ := hR.td
  have hb4 := hR.b
  have heV := hR.eV
  refine lv_iconst (v := 0) F.1 F.2.1 dL_law_1762 (by decide) ?_
  refine lv_istore (lv' := [(27, .int 0), (0, .ref b), (1, .ref o), (2, .ref (ad 2)), (3, .ref (ad 3)), (4, .ref (ad 4)), (5, .ref (ad 5)), (6, .ref (ad 6)), (7, .ref (ad 7)), (8, .ref (ad 8)), (9, .ref (ad 9)), (10, .ref (ad 10)), (11, .int (nI t)), (12, .int v12), (13, .int u), (14, .int (nI i)), (15, .int (nI (14 * i))), (16, .int (nI v)), (17, .int 1)]) F.1 F.2.1 dL_law_1763 hl (by decide) rfl (fun ls hl => ?_)
  refine lv_iconst (v := 0) F.1 F.2.1 dL_law_1765 (by decide) ?_
  refine lv_istore (lv' := [(28, .int 0), (27, .int 0), (0, .ref b), (1, .ref o), (2, .ref (ad 2)), (3, .ref (ad 3)), (4, .ref (ad 4)), (5, .ref (ad 5)), (6, .ref (ad 6)), (7, .ref (ad 7)), (8, .ref (ad 8)), (9, .ref (ad 9)), (10, .ref (ad 10)), (11, .int (nI t)), (12, .int v12), (13, .int u), (14, .int (nI i)), (15, .int (nI (14 * i))), (16, .int (nI v)), (17, .int 1)]) F.1 F.2.1 dL_law_1766 hl (by decide) rfl (fun ls hl => ?_)
  refine q_loop (P := fun k1768 ls => lv_has ls 40 [(28, .int (nI k1768)), (27, .int (L_L_law_vo_1768_27 S i k1768)), (0, .ref b), (1, .ref o), (2, .ref (ad 2)), (3, .ref (ad 3)), (4, .ref (ad 4)), (5, .ref (ad 5)), (6, .ref (ad 6)), (7, .ref (ad 7)), (8, .ref (ad 8)), (9, .ref (ad 9)), (10, .ref (ad 10)), (11, .int (nI t)), (12, .int v12), (13, .int u), (14, .int (nI i)), (15, .int (nI (14 * i))), (16, .int (nI v)), (17, .int 1)]) (gv S) (fun k1768 ls hk1768 hl ih1768 => ?_) 0 ls (Nat.zero_le _) (lv_cg (lv_sub hl [0, 1, 2, 3, 4, 5, 6, 7, 8, 9, 10, 11, 12, 13, 14, 15, 16, 17, 18, 19] rfl) rfl)
  refine lv_iload F.1 F.2.1 dL_law_1768 (lv_at hl 0 rfl) ?_
  refine lv_aload F.1 F.2.1 dL_law_1770 (lv_at hl 12 rfl) ?_
  refine lv_iconst (v := 2) F.1 F.2.1 dL_law_1772 (by decide) ?_
  refine l_ild F w hL 10 rfl 2 (show 2 < 9 by omega) dL_law_1773 ?_
  refine lv_fold (y := nI (gv S)) (hR.hV.1) ?_
  refine lv_icmp_ge (tgt := 1843) F.1 F.2.1 dL_law_1774 (by decide) (fun c_1 => ?_) (fun c_1 => ?_)
  rotate_left
  · have hlt1768 : k1768 < (gv S) := GB_ilt (n := gv S) rfl (by omega) hk1768 c_1
    have hfk := (fn_e hR (v := k1768) (by omega)).2
    refine lv_iconst (v := 0) F.1 F.2.1 dL_law_1777 (by decide) ?_
    refine lv_istore (lv' := [(29, .int 0), (28, .int (nI k1768)), (27, .int (L_L_law_vo_1768_27 S i k1768)), (0, .ref b), (1, .ref o), (2, .ref (ad 2)), (3, .ref (ad 3)), (4, .ref (ad 4)), (5, .ref (ad 5)), (6, .ref (ad 6)), (7, .ref (ad 7)), (8, .ref (ad 8)), (9, .ref (ad 9)), (10, .ref (ad 10)), (11, .int (nI t)), (12, .int v12), (13, .int u), (14, .int (nI i)), (15, .int (nI (14 * i))), (16, .int (nI v)), (17, .int 1)]) F.1 F.2.1 dL_law_1778 hl (by decide) rfl (fun ls hl => ?_)
    refine q_loop (P := fun k1780 ls => lv_has ls 40 [(29, .int (nI k1780)), (28, .int (nI k1768)), (27, .int (L_L_law_vo_1780_27x4 S i k1768 (L_L_law_vo_1768_27 S i k1768) k1780)), (0, .ref b), (1, .ref o), (2, .ref (ad 2)), (3, .ref (ad 3)), (4, .ref (ad 4)), (5, .ref (ad 5)), (6, .ref (ad 6)), (7, .ref (ad 7)), (8, .ref (ad 8)), (9, .ref (ad 9)), (10, .ref (ad 10)), (11, .int (nI t)), (12, .int v12), (13, .int u), (14, .int (nI i)), (15, .int (nI (14 * i))), (16, .int (nI v)), (17, .int 1)]) (fn S k1768) (fun k1780 ls hk1780 hl ih1780 => ?_) 0 ls (Nat.zero_le _) (lv_cg (lv_sub hl [0, 1, 2, 3, 4, 5, 6, 7, 8, 9, 10, 11, 12, 13, 14, 15, 16, 17, 18, 19, 20] rfl) rfl)
    refine lv_iload F.1 F.2.1 dL_law_1780 (lv_at hl 0 rfl) ?_
    refine lv_aload F.1 F.2.1 dL_law_1782 (lv_at hl 8 rfl) ?_
    refine lv_iload F.1 F.2.1 dL_law_1784 (lv_at hl 1 rfl) ?_
    refine l_ild F w hL 5 rfl k1768 (show k1768 < 50 by omega) dL_law_1786 ?_
    refine q_rS (rest := [.int (nI k1780)]) F w kS_L_112 hd_L_findings (c_L_findings l D cy A _ (S 5 k1768)) dL_law_1787 rfl rfl hl.1 ⟨rfl, rfl, (show 1 ≤ R.frames by omega), (show 20 ≤ R.locals by omega)⟩ (Nat.le_of_ble_eq_true rfl) ⟨by omega, by omega⟩ ?_
    refine lv_fold (y := nI (fn S k1768)) ((fn_e hR (by omega)).1) ?_
    refine lv_icmp_ge (tgt := 1837) F.1 F.2.1 dL_law_1790 (by decide) (fun c_2 => ?_) (fun c_2 => ?_)
    rotate_left
    · have hlt1780 : k1780 < (fn S k1768) := GB_ilt (n := fn S k1768) rfl (by omega) hk1780 c_2
      refine lv_iload F.1 F.2.1 dL_law_1793 (lv_at hl 2 rfl) ?_
      refine lv_aload F.1 F.2.1 dL_law_1795 (lv_at hl 8 rfl) ?_
      refine lv_iload F.1 F.2.1 dL_law_1797 (lv_at hl 1 rfl) ?_
      refine l_ild F w hL 5 rfl k1768 (show k1768 < 50 by omega) dL_law_1799 ?_
      refine lv_iconst (v := 3) F.1 F.2.1 dL_law_1800 (by decide) ?_
      refine lv_iand F.1 F.2.1 dL_law_1801 ?_
      refine lv_iload F.1 F.2.1 dL_law_1802 (lv_at hl 17 rfl) ?_
      refine jn0 (m := m) (ls := ls) (rest := [.int (L_L_law_vo_1780_27x4 S i k1768 (L_L_law_vo_1768_27 S i k1768) k1780)]) (if (S 5 k1768) &&& 3 = nI i then (if ((S 8 k1768) >>> ((nI (2 * k1780)) &&& 31)) &&& 3 = 2 then 1 else 0) else 0) 1828 (fun J_3 => ?_) ?_
      · refine lv_icmp_ne (tgt := 1827) F.1 F.2.1 dL_law_1804 (by decide) (fun c_4 => ?_) (fun c_4 => ?_)
        · refine lv_iconst (v := 0) F.1 F.2.1 dL_law_1827 (by decide) ?_
          exact jn_a (if_neg c_4) J_3
        · refine lv_aload F.1 F.2.1 dL_law_1807 (lv_at hl 11 rfl) ?_
          refine lv_iload F.1 F.2.1 dL_law_1809 (lv_at hl 1 rfl) ?_
          refine l_ild F w hL 8 rfl k1768 (show k1768 < 50 by omega) dL_law_1811 ?_
          refine lv_iconst (v := 2) F.1 F.2.1 dL_law_1812 (by decide) ?_
          refine lv_iload F.1 F.2.1 dL_law_1813 (lv_at hl 0 rfl) ?_
          refine lv_imul F.1 F.2.1 dL_law_1815 ?_
          refine lv_fold (y := nI (2 * k1780)) (pk_mul 2 k1780) ?_
          refine lv_ishr F.1 F.2.1 dL_law_1816 ?_
          refine lv_iconst (v := 3) F.1 F.2.1 dL_law_1817 (by decide) ?_
          refine lv_iand F.1 F.2.1 dL_law_1818 ?_
          refine lv_iconst (v := 2) F.1 F.2.1 dL_law_1819 (by decide) ?_
          refine lv_icmp_ne (tgt := 1827) F.1 F.2.1 dL_law_1820 (by decide) (fun c_5 => ?_) (fun c_5 => ?_)
          · refine lv_iconst (v := 0) F.1 F.2.1 dL_law_1827 (by decide) ?_
            exact jn_a ((if_pos c_4).trans (if_neg c_5)) J_3
          · refine lv_iconst (v := 1) F.1 F.2.1 dL_law_1823 (by decide) ?_
            refine lv_goto (tgt := 1828) F.1 F.2.1 dL_law_1824 (by decide) ?_
            exact jn_a ((if_pos c_4).trans (if_pos c_5)) J_3
      refine lv_ior F.1 F.2.1 dL_law_1828 ?_
      refine lv_istore (lv' := [(27, .int ((L_L_law_vo_1780_27x4 S i k1768 (L_L_law_vo_1768_27 S i k1768) k1780) ||| (if (S 5 k1768) &&& 3 = nI i then (if ((S 8 k1768) >>> ((nI (2 * k1780)) &&& 31)) &&& 3 = 2 then 1 else 0) else 0))), (29, .int (nI k1780)), (28, .int (nI k1768)), (0, .ref b), (1, .ref o), (2, .ref (ad 2)), (3, .ref (ad 3)), (4, .ref (ad 4)), (5, .ref (ad 5)), (6, .ref (ad 6)), (7, .ref (ad 7)), (8, .ref (ad 8)), (9, .ref (ad 9)), (10, .ref (ad 10)), (11, .int (nI t)), (12, .int v12), (13, .int u), (14, .int (nI i)), (15, .int (nI (14 * i))), (16, .int (nI v)), (17, .int 1)]) F.1 F.2.1 dL_law_1829 hl (by decide) rfl (fun ls hl => ?_)
      refine lv_iinc (v := nI (k1780 + 1)) (lv' := [(29, .int (nI (k1780 + 1))), (27, .int ((L_L_law_vo_1780_27x4 S i k1768 (L_L_law_vo_1768_27 S i k1768) k1780) ||| (if (S 5 k1768) &&& 3 = nI i then (if ((S 8 k1768) >>> ((nI (2 * k1780)) &&& 31)) &&& 3 = 2 then 1 else 0) else 0))), (28, .int (nI k1768)), (0, .ref b), (1, .ref o), (2, .ref (ad 2)), (3, .ref (ad 3)), (4, .ref (ad 4)), (5, .ref (ad 5)), (6, .ref (ad 6)), (7, .ref (ad 7)), (8, .ref (ad 8)), (9, .ref (ad 9)), (10, .ref (ad 10)), (11, .int (nI t)), (12, .int v12), (13, .int u), (14, .int (nI i)), (15, .int (nI (14 * i))), (16, .int (nI v)), (17, .int 1)]) F.1 F.2.1 dL_law_1831 hl (k := 1) rfl (nI_1 _) (by decide) rfl (fun ls hl => ?_)
      refine lv_goto (tgt := 1780) F.1 F.2.1 dL_law_1834 (by decide) ?_
      exact ih1780 ls hlt1780 (lv_sub hl [0, 2, 1, 3, 4, 5, 6, 7, 8, 9, 10, 11, 12, 13, 14, 15, 16, 17, 18, 19, 20] rfl)
    have hkn1780 : k1780 = (fn S k1768) := GB_ile (n := fn S k1768) rfl (by omega) hk1780 c_2
    subst hkn1780
    refine lv_iinc (v := nI (k1768 + 1)) (lv' := [(28, .int (nI (k1768 + 1))), (29, .int (nI (fn S k1768))), (27, .int (L_L_law_vo_1780_27x4 S i k1768 (L_L_law_vo_1768_27 S i k1768) (fn S k1768))), (0, .ref b), (1, .ref o), (2, .ref (ad 2)), (3, .ref (ad 3)), (4, .ref (ad 4)), (5, .ref (ad 5)), (6, .ref (ad 6)), (7, .ref (ad 7)), (8, .ref (ad 8)), (9, .ref (ad 9)), (10, .ref (ad 10)), (11, .int (nI t)), (12, .int v12), (13, .int u), (14, .int (nI i)), (15, .int (nI (14 * i))), (16, .int (nI v)), (17, .int 1)]) F.1 F.2.1 dL_law_1837 hl (k := 1) rfl (nI_1 _) (by decide) rfl (fun ls hl => ?_)
    refine lv_goto (tgt := 1768) F.1 F.2.1 dL_law_1840 (by decide) ?_
    exact ih1768 ls hlt1768 (lv_sub hl [0, 2, 3, 4, 5, 6, 7, 8, 9, 10, 11, 12, 13, 14, 15, 16, 17, 18, 19, 20] rfl)
  have hkn1768 : k1768 = (gv S) := GB_ile (n := gv S) rfl (by omega) hk1768 c_1
  subst hkn1768
  rw [vo_e hR] at hl
  exact kk ls (lv_sub hl [1, 2, 3, 4, 5, 6, 7, 8, 9, 10, 11, 12, 13, 14, 15, 16, 17, 18, 19] rfl)
set_option maxHeartbeats 4000000 in
set_option maxRecDepth 100000 in
theorem lc_visit {p : Program} {l : Launch} {e : Env} {R : Room} {s : State} {m : MethodId} {args : Array Value} {below : List Frame} {meth : Method} {c : Code} {Q : State → Prop} {D : va_G} {cy : Nat → ClassId} {A : Nat → Prop} {o b t i v : Nat} {ad : Nat → Nat} {u v12 : Int32} {n n1 c1 s1 : Nat} {G M S : GS} {Wf : Nat → Int64} (F : CallFix p m c cL_law 40 s args BIG RL) (hlf : l.stackTraces = false) (hRm : 11 ≤ R.frames ∧ 278 ≤ R.locals ∧ c1 ≤ R.cells ∧ s1 ≤ R.slots) (h511 : n1 ≤ 511) (K : KJ p l e R s m args below meth c Q D cy A o b t ad u n1 c1 s1) (hR : R26 n G M S Wf) (hi4 : i < 4) (hi0 : gnS M = 0 ∨ i < gnS M) (hv50 : v < 50) (hv0 : gnV M = 0 ∨ v < gnV M) {X Y : MU} {AD : AM} {H : Heap} {locs : List Loc} {cells slots : Nat} (hf : cells + 30 ≤ c1 ∧ slots + 9500 ≤ s1) (hn : n + 4 ≤ n1) (ho : AD 0 0 0 = o) (hd : dis X Y) (hM : RepC cy AD G X) (hY : RepL cy ad S Wf Y) (w : WW D cy A (un X Y) s H locs) {ls : Array Slot} (hl : lv_has ls 40 [(0, .ref b), (1, .ref o), (2, .ref (ad 2)), (3, .ref (ad 3)), (4, .ref (ad 4)), (5, .ref (ad 5)), (6, .ref (ad 6)), (7, .ref (ad 7)), (8, .ref (ad 8)), (9, .ref (ad 9)), (10, .ref (ad 10)), (11, .int (nI t)), (12, .int v12), (13, .int u), (14, .int (nI i)), (15, .int (nI (14 * i))), (16, .int (nI v)), (17, .int 1)]) : W p l e R s m args below meth c H locs cells slots Q (F0 m 1686 ls []) := by
  have hL := hY.un hd
  obtain ⟨t9, ht9, ht⟩ := hR.td
  have hb4 := hR.b
  have heV := hR.eV
  refine lv_aload F.1 F.2.1 dL_law_1686 (lv_at hl 10 rfl) ?_
  refine lv_bipush (v := 8) F.1 F.2.1 dL_law_1688 (by decide) ?_
  refine l_ild F w hL 10 rfl 8 (show 8 < 9 by omega) dL_law_1690 ?_
  refine lv_if_eq (tgt := 3461) F.1 F.2.1 dL_law_1691 (by decide) (fun c_1 => ?_) (fun c_1 => ?_)
  · refine W.widen (k := c1) (n := s1) (by omega) (by omega) ?_
    exact K _ _ ls ⟨X, Y, AD, _, _, _, _, ho, hd, hM, hY, w, R26.ups hR (by omega)⟩ (lv_sub hl [17, 0, 1, 2, 3, 4, 5, 6, 7, 8, 9, 10, 11, 13] rfl)
  · have hi := si_ok hR hi0 c_1
    refine lv_aload F.1 F.2.1 dL_law_1694 (lv_at hl 10 rfl) ?_
    refine lv_iconst (v := 2) F.1 F.2.1 dL_law_1696 (by decide) ?_
    refine l_ild F w hL 10 rfl 2 (show 2 < 9 by omega) dL_law_1697 ?_
    refine lv_bipush (v := 50) F.1 F.2.1 dL_law_1698 (by decide) ?_
    refine lv_icmp_ne (tgt := 1706) F.1 F.2.1 dL_law_1700 (by decide) (fun c_2 => ?_) (fun c_2 => ?_)
    · have h50 := vs_lt hR c_2
      refine lv_aload_n F.1 F.2.1 dL_law_1706 rfl (lv_at hl 2 rfl) ?_
      refine lv_iload F.1 F.2.1 dL_law_1707 (lv_at hl 15 rfl) ?_
      refine lv_bipush (v := 6) F.1 F.2.1 dL_law_1709 (by decide) ?_
      refine lv_iadd F.1 F.2.1 dL_law_1711 ?_
      refine lv_fold (y := nI ((14 * i) + 6)) (nI_add (14 * i) 6) ?_
      refine l_ild F w hL 2 rfl ((14 * i) + 6) (show (14 * i) + 6 < 56 by omega) dL_law_1712 ?_
      refine lv_iconst (v := -1) F.1 F.2.1 dL_law_1713 (by decide) ?_
      refine lv_icmp_eq (tgt := 1732) F.1 F.2.1 dL_law_1714 (by decide) (fun c_3 => ?_) (fun c_3 => ?_)
      · refine lv_iconst (v := 0) F.1 F.2.1 dL_law_1732 (by decide) ?_
        refine lv_istore (lv' := [(26, .int 0), (0, .ref b), (1, .ref o), (2, .ref (ad 2)), (3, .ref (ad 3)), (4, .ref (ad 4)), (5, .ref (ad 5)), (6, .ref (ad 6)), (7, .ref (ad 7)), (8, .ref (ad 8)), (9, .ref (ad 9)), (10, .ref (ad 10)), (11, .int (nI t)), (12, .int v12), (13, .int u), (14, .int (nI i)), (15, .int (nI (14 * i))), (16, .int (nI v)), (17, .int 1)]) F.1 F.2.1 dL_law_1733 hl (by decide) rfl (fun ls hl => ?_)
        refine lv_iload F.1 F.2.1 dL_law_1735 (lv_at hl 0 rfl) ?_
        refine lv_if_ne (tgt := 1762) F.1 F.2.1 dL_law_1737 (by decide) (fun c_4 => absurd rfl c_4) (fun c_4 => ?_)
        refine lv_aload_n F.1 F.2.1 dL_law_1740 rfl (lv_at hl 2 rfl) ?_
        refine lv_iload F.1 F.2.1 dL_law_1741 (lv_at hl 15 rfl) ?_
        refine lw_visit (rest := []) F w hd hM ho hR.r.ic (nI i) (fun s9 hs9 => hR.r.gn (by omega) hs9) hlf dL_law_1743 hl.1 ⟨by omega, by omega⟩ (Nat.le_of_ble_eq_true rfl) ⟨by omega, by omega⟩ (fun v1743 X AD H locs hv1743 ho hd hM w => ?_)
        have hL := hY.un hd
        refine lv_fold (y := (-7300)) (hv1743.trans ((vs_no hR hi (Or.inl c_3)).1)) ?_
        refine lv_sipush (v := -7300) F.1 F.2.1 dL_law_1746 (by decide) ?_
        refine lv_icmp_ne (tgt := 1756) F.1 F.2.1 dL_law_1749 (by decide) (fun c_5 => absurd rfl c_5) (fun c_5 => ?_)
        refine lv_iconst (v := 1) F.1 F.2.1 dL_law_1752 (by decide) ?_
        refine lv_goto (tgt := 1757) F.1 F.2.1 dL_law_1753 (by decide) ?_
        refine lv_istore (lv' := [(17, .int 1), (26, .int 0), (0, .ref b), (1, .ref o), (2, .ref (ad 2)), (3, .ref (ad 3)), (4, .ref (ad 4)), (5, .ref (ad 5)), (6, .ref (ad 6)), (7, .ref (ad 7)), (8, .ref (ad 8)), (9, .ref (ad 9)), (10, .ref (ad 10)), (11, .int (nI t)), (12, .int v12), (13, .int u), (14, .int (nI i)), (15, .int (nI (14 * i))), (16, .int (nI v))]) F.1 F.2.1 dL_law_1757 hl (by decide) rfl (fun ls hl => ?_)
        refine lv_goto (tgt := 3461) F.1 F.2.1 dL_law_1759 (by decide) ?_
        rw [(vs_no hR hi (Or.inl c_3)).2] at hM
        refine W.widen (k := c1) (n := s1) (by omega) (by omega) ?_
        exact K _ _ ls ⟨X, Y, AD, _, _, _, _, ho, hd, hM, hY, w, R26.ups hR (by omega)⟩ (lv_sub hl [0, 2, 3, 4, 5, 6, 7, 8, 9, 10, 11, 12, 13, 15] rfl)
      · refine lv_aload_n F.1 F.2.1 dL_law_1717 rfl (lv_at hl 2 rfl) ?_
        refine lv_iload F.1 F.2.1 dL_law_1718 (lv_at hl 15 rfl) ?_
        refine lv_bipush (v := 7) F.1 F.2.1 dL_law_1720 (by decide) ?_
        refine lv_iadd F.1 F.2.1 dL_law_1722 ?_
        refine lv_fold (y := nI ((14 * i) + 7)) (nI_add (14 * i) 7) ?_
        refine l_ild F w hL 2 rfl ((14 * i) + 7) (show (14 * i) + 7 < 56 by omega) dL_law_1723 ?_
        refine lv_iconst (v := -1) F.1 F.2.1 dL_law_1724 (by decide) ?_
        refine lv_icmp_ne (tgt := 1732) F.1 F.2.1 dL_law_1725 (by decide) (fun c_6 => ?_) (fun c_6 => ?_)
        · refine lv_iconst (v := 0) F.1 F.2.1 dL_law_1732 (by decide) ?_
          refine lv_istore (lv' := [(26, .int 0), (0, .ref b), (1, .ref o), (2, .ref (ad 2)), (3, .ref (ad 3)), (4, .ref (ad 4)), (5, .ref (ad 5)), (6, .ref (ad 6)), (7, .ref (ad 7)), (8, .ref (ad 8)), (9, .ref (ad 9)), (10, .ref (ad 10)), (11, .int (nI t)), (12, .int v12), (13, .int u), (14, .int (nI i)), (15, .int (nI (14 * i))), (16, .int (nI v)), (17, .int 1)]) F.1 F.2.1 dL_law_1733 hl (by decide) rfl (fun ls hl => ?_)
          refine lv_iload F.1 F.2.1 dL_law_1735 (lv_at hl 0 rfl) ?_
          refine lv_if_ne (tgt := 1762) F.1 F.2.1 dL_law_1737 (by decide) (fun c_7 => absurd rfl c_7) (fun c_7 => ?_)
          refine lv_aload_n F.1 F.2.1 dL_law_1740 rfl (lv_at hl 2 rfl) ?_
          refine lv_iload F.1 F.2.1 dL_law_1741 (lv_at hl 15 rfl) ?_
          refine lw_visit (rest := []) F w hd hM ho hR.r.ic (nI i) (fun s9 hs9 => hR.r.gn (by omega) hs9) hlf dL_law_1743 hl.1 ⟨by omega, by omega⟩ (Nat.le_of_ble_eq_true rfl) ⟨by omega, by omega⟩ (fun v1743 X AD H locs hv1743 ho hd hM w => ?_)
          have hL := hY.un hd
          refine lv_fold (y := (-7300)) (hv1743.trans ((vs_no hR hi (Or.inr c_6)).1)) ?_
          refine lv_sipush (v := -7300) F.1 F.2.1 dL_law_1746 (by decide) ?_
          refine lv_icmp_ne (tgt := 1756) F.1 F.2.1 dL_law_1749 (by decide) (fun c_8 => absurd rfl c_8) (fun c_8 => ?_)
          refine lv_iconst (v := 1) F.1 F.2.1 dL_law_1752 (by decide) ?_
          refine lv_goto (tgt := 1757) F.1 F.2.1 dL_law_1753 (by decide) ?_
          refine lv_istore (lv' := [(17, .int 1), (26, .int 0), (0, .ref b), (1, .ref o), (2, .ref (ad 2)), (3, .ref (ad 3)), (4, .ref (ad 4)), (5, .ref (ad 5)), (6, .ref (ad 6)), (7, .ref (ad 7)), (8, .ref (ad 8)), (9, .ref (ad 9)), (10, .ref (ad 10)), (11, .int (nI t)), (12, .int v12), (13, .int u), (14, .int (nI i)), (15, .int (nI (14 * i))), (16, .int (nI v))]) F.1 F.2.1 dL_law_1757 hl (by decide) rfl (fun ls hl => ?_)
          refine lv_goto (tgt := 3461) F.1 F.2.1 dL_law_1759 (by decide) ?_
          rw [(vs_no hR hi (Or.inr c_6)).2] at hM
          refine W.widen (k := c1) (n := s1) (by omega) (by omega) ?_
          exact K _ _ ls ⟨X, Y, AD, _, _, _, _, ho, hd, hM, hY, w, R26.ups hR (by omega)⟩ (lv_sub hl [0, 2, 3, 4, 5, 6, 7, 8, 9, 10, 11, 12, 13, 15] rfl)
        · refine lv_iconst (v := 1) F.1 F.2.1 dL_law_1728 (by decide) ?_
          refine lv_goto (tgt := 1733) F.1 F.2.1 dL_law_1729 (by decide) ?_
          refine lv_istore (lv' := [(26, .int 1), (0, .ref b), (1, .ref o), (2, .ref (ad 2)), (3, .ref (ad 3)), (4, .ref (ad 4)), (5, .ref (ad 5)), (6, .ref (ad 6)), (7, .ref (ad 7)), (8, .ref (ad 8)), (9, .ref (ad 9)), (10, .ref (ad 10)), (11, .int (nI t)), (12, .int v12), (13, .int u), (14, .int (nI i)), (15, .int (nI (14 * i))), (16, .int (nI v)), (17, .int 1)]) F.1 F.2.1 dL_law_1733 hl (by decide) rfl (fun ls hl => ?_)
          refine lv_iload F.1 F.2.1 dL_law_1735 (lv_at hl 0 rfl) ?_
          refine lv_if_ne (tgt := 1762) F.1 F.2.1 dL_law_1737 (by decide) (fun c_9 => ?_) (fun c_9 => absurd c_9 (by decide))
          refine lc_vo F hlf hRm h511 hR hi4 ⟨by omega, by omega⟩ (by omega) ho hd hM hY w (fun ls hl => ?_) (lv_sub hl [1, 2, 3, 4, 5, 6, 7, 8, 9, 10, 11, 12, 13, 14, 15, 16, 17, 18] rfl)
          refine lv_iload F.1 F.2.1 dL_law_1843 (lv_at hl 15 rfl) ?_
          refine lv_aload_n F.1 F.2.1 dL_law_1845 rfl (lv_at hl 3 rfl) ?_
          refine lv_aload F.1 F.2.1 dL_law_1846 (lv_at hl 6 rfl) ?_
          refine lv_aload F.1 F.2.1 dL_law_1848 (lv_at hl 7 rfl) ?_
          refine lv_aload F.1 F.2.1 dL_law_1850 (lv_at hl 8 rfl) ?_
          refine lv_aload F.1 F.2.1 dL_law_1852 (lv_at hl 11 rfl) ?_
          refine q_rS (rest := []) F w kS_L_119 hd_L_risk (c_L_risk l D cy A _ ad S Wf hL i (show i < 4 by omega) hR.hV) dL_law_1854 rfl rfl hl.1 ⟨rfl, rfl, (show 5 ≤ R.frames by omega), (show 126 ≤ R.locals by omega)⟩ (Nat.le_of_ble_eq_true rfl) ⟨by omega, by omega⟩ ?_
          refine lv_iconst (v := 2) F.1 F.2.1 dL_law_1857 (by decide) ?_
          refine lv_icmp_eq (tgt := 1885) F.1 F.2.1 dL_law_1858 (by decide) (fun c_10 => ?_) (fun c_10 => ?_)
          · refine lv_iconst (v := 1) F.1 F.2.1 dL_law_1885 (by decide) ?_
            refine lv_goto (tgt := 1890) F.1 F.2.1 dL_law_1886 (by decide) ?_
            refine lv_istore (lv' := [(28, .int 1), (27, .int (f_X7_hasOff M i)), (0, .ref b), (1, .ref o), (2, .ref (ad 2)), (3, .ref (ad 3)), (4, .ref (ad 4)), (5, .ref (ad 5)), (6, .ref (ad 6)), (7, .ref (ad 7)), (8, .ref (ad 8)), (9, .ref (ad 9)), (10, .ref (ad 10)), (11, .int (nI t)), (12, .int v12), (13, .int u), (14, .int (nI i)), (15, .int (nI (14 * i))), (16, .int (nI v)), (17, .int 1)]) F.1 F.2.1 dL_law_1890 hl (by decide) rfl (fun ls hl => ?_)
            refine lv_iload F.1 F.2.1 dL_law_1892 (lv_at hl 0 rfl) ?_
            refine lv_if_eq (tgt := 1901) F.1 F.2.1 dL_law_1894 (by decide) (fun c_11 => absurd c_11 (by decide)) (fun c_11 => ?_)
            refine lv_iconst (v := 2) F.1 F.2.1 dL_law_1897 (by decide) ?_
            refine lv_goto (tgt := 1922) F.1 F.2.1 dL_law_1898 (by decide) ?_
            refine lv_istore (lv' := [(29, .int 2), (28, .int 1), (27, .int (f_X7_hasOff M i)), (0, .ref b), (1, .ref o), (2, .ref (ad 2)), (3, .ref (ad 3)), (4, .ref (ad 4)), (5, .ref (ad 5)), (6, .ref (ad 6)), (7, .ref (ad 7)), (8, .ref (ad 8)), (9, .ref (ad 9)), (10, .ref (ad 10)), (11, .int (nI t)), (12, .int v12), (13, .int u), (14, .int (nI i)), (15, .int (nI (14 * i))), (16, .int (nI v)), (17, .int 1)]) F.1 F.2.1 dL_law_1922 hl (by decide) rfl (fun ls hl => ?_)
            refine lv_aload F.1 F.2.1 dL_law_1924 (lv_at hl 8 rfl) ?_
            refine lv_aload F.1 F.2.1 dL_law_1926 (lv_at hl 13 rfl) ?_
            refine lv_iconst (v := 2) F.1 F.2.1 dL_law_1928 (by decide) ?_
            refine l_ild F w hL 10 rfl 2 (show 2 < 9 by omega) dL_law_1929 ?_
            refine lv_fold (y := nI (gnV M)) (hR.g2.trans hR.nV) ?_
            refine lv_iload F.1 F.2.1 dL_law_1930 (lv_at hl 17 rfl) ?_
            refine lv_aload_n F.1 F.2.1 dL_law_1932 rfl (lv_at hl 5 rfl) ?_
            refine lv_iload F.1 F.2.1 dL_law_1933 (lv_at hl 18 rfl) ?_
            refine lv_bipush (v := 6) F.1 F.2.1 dL_law_1935 (by decide) ?_
            refine lv_iadd F.1 F.2.1 dL_law_1937 ?_
            refine lv_fold (y := nI ((14 * i) + 6)) (nI_add (14 * i) 6) ?_
            refine l_ild F w hL 2 rfl ((14 * i) + 6) (show (14 * i) + 6 < 56 by omega) dL_law_1938 ?_
            refine lv_iconst (v := 2) F.1 F.2.1 dL_law_1939 (by decide) ?_
            refine lv_ishl F.1 F.2.1 dL_law_1940 ?_
            refine lv_ior F.1 F.2.1 dL_law_1941 ?_
            refine lv_iload F.1 F.2.1 dL_law_1942 (lv_at hl 0 rfl) ?_
            refine lv_iconst (v := 4) F.1 F.2.1 dL_law_1944 (by decide) ?_
            refine lv_ishl F.1 F.2.1 dL_law_1945 ?_
            refine lv_ior F.1 F.2.1 dL_law_1946 ?_
            refine lv_aload_n F.1 F.2.1 dL_law_1947 rfl (lv_at hl 5 rfl) ?_
            refine lv_iload F.1 F.2.1 dL_law_1948 (lv_at hl 18 rfl) ?_
            refine lv_iconst (v := 3) F.1 F.2.1 dL_law_1950 (by decide) ?_
            refine lv_iadd F.1 F.2.1 dL_law_1951 ?_
            refine lv_fold (y := nI ((14 * i) + 3)) (nI_add (14 * i) 3) ?_
            refine l_ild F w hL 2 rfl ((14 * i) + 3) (show (14 * i) + 3 < 56 by omega) dL_law_1952 ?_
            refine lv_bipush (v := 6) F.1 F.2.1 dL_law_1953 (by decide) ?_
            refine lv_ishl F.1 F.2.1 dL_law_1955 ?_
            refine lv_ior F.1 F.2.1 dL_law_1956 ?_
            refine l_ist F w hd hY 5 rfl (gnV M) (show gnV M < 50 by omega) dL_law_1957 (fun H locs Y hd hY w => ?_)
            have hL := hY.un hd
            refine lv_aload F.1 F.2.1 dL_law_1958 (lv_at hl 9 rfl) ?_
            refine lv_aload F.1 F.2.1 dL_law_1960 (lv_at hl 13 rfl) ?_
            refine lv_iconst (v := 2) F.1 F.2.1 dL_law_1962 (by decide) ?_
            refine l_ild F w hL 10 rfl 2 (show 2 < 9 by omega) dL_law_1963 ?_
            refine lv_fold (y := S 10 2) (up2_r (by decide)) ?_
            refine lv_fold (y := nI (gnV M)) (hR.g2.trans hR.nV) ?_
            refine lv_aload F.1 F.2.1 dL_law_1964 (lv_at hl 13 rfl) ?_
            refine lv_iconst (v := 0) F.1 F.2.1 dL_law_1966 (by decide) ?_
            refine l_ild F w hL 10 rfl 0 (show 0 < 9 by omega) dL_law_1967 ?_
            refine lv_fold (y := S 10 0) (up2_r (by decide)) ?_
            refine l_ist F w hd hY 6 rfl (gnV M) (show gnV M < 50 by omega) dL_law_1968 (fun H locs Y hd hY w => ?_)
            have hL := hY.un hd
            refine lv_aload F.1 F.2.1 dL_law_1969 (lv_at hl 10 rfl) ?_
            refine lv_aload F.1 F.2.1 dL_law_1971 (lv_at hl 13 rfl) ?_
            refine lv_iconst (v := 2) F.1 F.2.1 dL_law_1973 (by decide) ?_
            refine l_ild F w hL 10 rfl 2 (show 2 < 9 by omega) dL_law_1974 ?_
            refine lv_fold (y := S 10 2) ((up2_r (by decide)).trans (up2_r (by decide))) ?_
            refine lv_fold (y := nI (gnV M)) (hR.g2.trans hR.nV) ?_
            refine lv_iconst (v := -1) F.1 F.2.1 dL_law_1975 (by decide) ?_
            refine l_ist F w hd hY 7 rfl (gnV M) (show gnV M < 50 by omega) dL_law_1976 (fun H locs Y hd hY w => ?_)
            have hL := hY.un hd
            refine lv_aload_n F.1 F.2.1 dL_law_1977 rfl (lv_at hl 5 rfl) ?_
            refine lv_iload F.1 F.2.1 dL_law_1978 (lv_at hl 18 rfl) ?_
            refine lv_bipush (v := 7) F.1 F.2.1 dL_law_1980 (by decide) ?_
            refine lv_iadd F.1 F.2.1 dL_law_1982 ?_
            refine lv_fold (y := nI ((14 * i) + 7)) (nI_add (14 * i) 7) ?_
            refine lv_aload F.1 F.2.1 dL_law_1983 (lv_at hl 13 rfl) ?_
            refine lv_iconst (v := 2) F.1 F.2.1 dL_law_1985 (by decide) ?_
            refine l_ild F w hL 10 rfl 2 (show 2 < 9 by omega) dL_law_1986 ?_
            refine lv_fold (y := S 10 2) ((up2_r (by decide)).trans ((up2_r (by decide)).trans (up2_r (by decide)))) ?_
            refine lv_fold (y := nI (gnV M)) (hR.g2.trans hR.nV) ?_
            refine l_ist F w hd hY 2 rfl ((14 * i) + 7) (show (14 * i) + 7 < 56 by omega) dL_law_1987 (fun H locs Y hd hY w => ?_)
            have hL := hY.un hd
            refine lv_aload_n F.1 F.2.1 dL_law_1988 rfl (lv_at hl 5 rfl) ?_
            refine lv_iload F.1 F.2.1 dL_law_1989 (lv_at hl 18 rfl) ?_
            refine lv_bipush (v := 8) F.1 F.2.1 dL_law_1991 (by decide) ?_
            refine lv_iadd F.1 F.2.1 dL_law_1993 ?_
            refine lv_fold (y := nI ((14 * i) + 8)) (nI_add (14 * i) 8) ?_
            refine lv_aload F.1 F.2.1 dL_law_1994 (lv_at hl 13 rfl) ?_
            refine lv_iconst (v := 2) F.1 F.2.1 dL_law_1996 (by decide) ?_
            refine l_ild F w hL 10 rfl 2 (show 2 < 9 by omega) dL_law_1997 ?_
            refine lv_fold (y := S 10 2) ((up2_r (by decide)).trans ((up2_r (by decide)).trans ((up2_r (by decide)).trans (up2_r (by decide))))) ?_
            refine lv_fold (y := nI (gnV M)) (hR.g2.trans hR.nV) ?_
            refine l_ist F w hd hY 2 rfl ((14 * i) + 8) (show (14 * i) + 8 < 56 by omega) dL_law_1998 (fun H locs Y hd hY w => ?_)
            have hL := hY.un hd
            refine lv_aload_n F.1 F.2.1 dL_law_1999 rfl (lv_at hl 4 rfl) ?_
            refine lv_iload F.1 F.2.1 dL_law_2000 (lv_at hl 17 rfl) ?_
            refine lw_visit (rest := []) F w hd hM ho hR.r.ic (nI i) (fun s9 hs9 => hR.r.gn (by omega) hs9) hlf dL_law_2002 hl.1 ⟨by omega, by omega⟩ (Nat.le_of_ble_eq_true rfl) ⟨by omega, by omega⟩ (fun v2002 X AD H locs hv2002 ho hd hM w => ?_)
            have hL := hY.un hd
            refine lv_fold (y := nI (gnV M)) (hv2002.trans ((vs_ok hR (by omega) hi h50 c_3 c_6 (k := 2) (by decide) ((vs_kind hR hi).trans (if_pos c_10))).1)) ?_
            refine lv_aload F.1 F.2.1 dL_law_2005 (lv_at hl 13 rfl) ?_
            refine lv_iconst (v := 2) F.1 F.2.1 dL_law_2007 (by decide) ?_
            refine l_ild F w hL 10 rfl 2 (show 2 < 9 by omega) dL_law_2008 ?_
            refine lv_fold (y := S 10 2) ((up2_r (by decide)).trans ((up2_r (by decide)).trans ((up2_r (by decide)).trans ((up2_r (by decide)).trans (up2_r (by decide)))))) ?_
            refine lv_fold (y := nI (gnV M)) (hR.g2.trans hR.nV) ?_
            refine lv_icmp_ne (tgt := 2016) F.1 F.2.1 dL_law_2009 (by decide) (fun c_12 => absurd rfl c_12) (fun c_12 => ?_)
            refine lv_iconst (v := 1) F.1 F.2.1 dL_law_2012 (by decide) ?_
            refine lv_goto (tgt := 2017) F.1 F.2.1 dL_law_2013 (by decide) ?_
            refine lv_istore (lv' := [(17, .int 1), (29, .int 2), (28, .int 1), (27, .int (f_X7_hasOff M i)), (0, .ref b), (1, .ref o), (2, .ref (ad 2)), (3, .ref (ad 3)), (4, .ref (ad 4)), (5, .ref (ad 5)), (6, .ref (ad 6)), (7, .ref (ad 7)), (8, .ref (ad 8)), (9, .ref (ad 9)), (10, .ref (ad 10)), (11, .int (nI t)), (12, .int v12), (13, .int u), (14, .int (nI i)), (15, .int (nI (14 * i))), (16, .int (nI v))]) F.1 F.2.1 dL_law_2017 hl (by decide) rfl (fun ls hl => ?_)
            refine lv_aload F.1 F.2.1 dL_law_2019 (lv_at hl 14 rfl) ?_
            refine lv_iconst (v := 2) F.1 F.2.1 dL_law_2021 (by decide) ?_
            refine lv_dup2_11 F.1 F.2.1 dL_law_2022 rfl rfl ?_
            refine l_ild F w hL 10 rfl 2 (show 2 < 9 by omega) dL_law_2023 ?_
            refine lv_fold (y := S 10 2) ((up2_r (by decide)).trans ((up2_r (by decide)).trans ((up2_r (by decide)).trans ((up2_r (by decide)).trans (up2_r (by decide)))))) ?_
            refine lv_iconst (v := 1) F.1 F.2.1 dL_law_2024 (by decide) ?_
            refine lv_iadd F.1 F.2.1 dL_law_2025 ?_
            refine l_ist F w hd hY 10 rfl 2 (show 2 < 9 by omega) dL_law_2026 (fun H locs Y hd hY w => ?_)
            have hL := hY.un hd
            refine lv_goto (tgt := 3461) F.1 F.2.1 dL_law_2027 (by decide) ?_
            refine W.widen (k := c1) (n := s1) (by omega) (by omega) ?_
            exact K _ _ ls ⟨X, Y, AD, _, _, _, _, ho, hd, hM, hY, w, R26.ups ((vs_ok hR (by omega) hi h50 c_3 c_6 (k := 2) (by decide) ((vs_kind hR hi).trans (if_pos c_10))).2) (by omega)⟩ (lv_sub hl [0, 4, 5, 6, 7, 8, 9, 10, 11, 12, 13, 14, 15, 17] rfl)
          · refine lv_aload F.1 F.2.1 dL_law_1861 (lv_at hl 11 rfl) ?_
            refine lv_iconst (v := 0) F.1 F.2.1 dL_law_1863 (by decide) ?_
            refine l_ild F w hL 10 rfl 0 (show 0 < 9 by omega) dL_law_1864 ?_
            refine lv_aload_n F.1 F.2.1 dL_law_1865 rfl (lv_at hl 3 rfl) ?_
            refine lv_iload F.1 F.2.1 dL_law_1866 (lv_at hl 16 rfl) ?_
            refine l_ild F w hL 2 rfl (14 * i) (show 14 * i < 56 by omega) dL_law_1868 ?_
            refine lv_isub F.1 F.2.1 dL_law_1869 ?_
            refine lv_sipush (v := 4380) F.1 F.2.1 dL_law_1870 (by decide) ?_
            refine lv_icmp_le (tgt := 1889) F.1 F.2.1 dL_law_1873 (by decide) (fun c_13 => ?_) (fun c_13 => ?_)
            · refine lv_iconst (v := 0) F.1 F.2.1 dL_law_1889 (by decide) ?_
              refine lv_istore (lv' := [(28, .int 0), (27, .int (f_X7_hasOff M i)), (0, .ref b), (1, .ref o), (2, .ref (ad 2)), (3, .ref (ad 3)), (4, .ref (ad 4)), (5, .ref (ad 5)), (6, .ref (ad 6)), (7, .ref (ad 7)), (8, .ref (ad 8)), (9, .ref (ad 9)), (10, .ref (ad 10)), (11, .int (nI t)), (12, .int v12), (13, .int u), (14, .int (nI i)), (15, .int (nI (14 * i))), (16, .int (nI v)), (17, .int 1)]) F.1 F.2.1 dL_law_1890 hl (by decide) rfl (fun ls hl => ?_)
              refine lv_iload F.1 F.2.1 dL_law_1892 (lv_at hl 0 rfl) ?_
              refine lv_if_eq (tgt := 1901) F.1 F.2.1 dL_law_1894 (by decide) (fun c_14 => ?_) (fun c_14 => absurd rfl c_14)
              refine lv_iload F.1 F.2.1 dL_law_1901 (lv_at hl 1 rfl) ?_
              refine lv_if_ne (tgt := 1917) F.1 F.2.1 dL_law_1903 (by decide) (fun c_15 => ?_) (fun c_15 => ?_)
              · refine lv_iconst (v := 1) F.1 F.2.1 dL_law_1917 (by decide) ?_
                refine lv_goto (tgt := 1922) F.1 F.2.1 dL_law_1918 (by decide) ?_
                refine lv_istore (lv' := [(29, .int 1), (28, .int 0), (27, .int (f_X7_hasOff M i)), (0, .ref b), (1, .ref o), (2, .ref (ad 2)), (3, .ref (ad 3)), (4, .ref (ad 4)), (5, .ref (ad 5)), (6, .ref (ad 6)), (7, .ref (ad 7)), (8, .ref (ad 8)), (9, .ref (ad 9)), (10, .ref (ad 10)), (11, .int (nI t)), (12, .int v12), (13, .int u), (14, .int (nI i)), (15, .int (nI (14 * i))), (16, .int (nI v)), (17, .int 1)]) F.1 F.2.1 dL_law_1922 hl (by decide) rfl (fun ls hl => ?_)
                refine lv_aload F.1 F.2.1 dL_law_1924 (lv_at hl 8 rfl) ?_
                refine lv_aload F.1 F.2.1 dL_law_1926 (lv_at hl 13 rfl) ?_
                refine lv_iconst (v := 2) F.1 F.2.1 dL_law_1928 (by decide) ?_
                refine l_ild F w hL 10 rfl 2 (show 2 < 9 by omega) dL_law_1929 ?_
                refine lv_fold (y := nI (gnV M)) (hR.g2.trans hR.nV) ?_
                refine lv_iload F.1 F.2.1 dL_law_1930 (lv_at hl 17 rfl) ?_
                refine lv_aload_n F.1 F.2.1 dL_law_1932 rfl (lv_at hl 5 rfl) ?_
                refine lv_iload F.1 F.2.1 dL_law_1933 (lv_at hl 18 rfl) ?_
                refine lv_bipush (v := 6) F.1 F.2.1 dL_law_1935 (by decide) ?_
                refine lv_iadd F.1 F.2.1 dL_law_1937 ?_
                refine lv_fold (y := nI ((14 * i) + 6)) (nI_add (14 * i) 6) ?_
                refine l_ild F w hL 2 rfl ((14 * i) + 6) (show (14 * i) + 6 < 56 by omega) dL_law_1938 ?_
                refine lv_iconst (v := 2) F.1 F.2.1 dL_law_1939 (by decide) ?_
                refine lv_ishl F.1 F.2.1 dL_law_1940 ?_
                refine lv_ior F.1 F.2.1 dL_law_1941 ?_
                refine lv_iload F.1 F.2.1 dL_law_1942 (lv_at hl 0 rfl) ?_
                refine lv_iconst (v := 4) F.1 F.2.1 dL_law_1944 (by decide) ?_
                refine lv_ishl F.1 F.2.1 dL_law_1945 ?_
                refine lv_ior F.1 F.2.1 dL_law_1946 ?_
                refine lv_aload_n F.1 F.2.1 dL_law_1947 rfl (lv_at hl 5 rfl) ?_
                refine lv_iload F.1 F.2.1 dL_law_1948 (lv_at hl 18 rfl) ?_
                refine lv_iconst (v := 3) F.1 F.2.1 dL_law_1950 (by decide) ?_
                refine lv_iadd F.1 F.2.1 dL_law_1951 ?_
                refine lv_fold (y := nI ((14 * i) + 3)) (nI_add (14 * i) 3) ?_
                refine l_ild F w hL 2 rfl ((14 * i) + 3) (show (14 * i) + 3 < 56 by omega) dL_law_1952 ?_
                refine lv_bipush (v := 6) F.1 F.2.1 dL_law_1953 (by decide) ?_
                refine lv_ishl F.1 F.2.1 dL_law_1955 ?_
                refine lv_ior F.1 F.2.1 dL_law_1956 ?_
                refine l_ist F w hd hY 5 rfl (gnV M) (show gnV M < 50 by omega) dL_law_1957 (fun H locs Y hd hY w => ?_)
                have hL := hY.un hd
                refine lv_aload F.1 F.2.1 dL_law_1958 (lv_at hl 9 rfl) ?_
                refine lv_aload F.1 F.2.1 dL_law_1960 (lv_at hl 13 rfl) ?_
                refine lv_iconst (v := 2) F.1 F.2.1 dL_law_1962 (by decide) ?_
                refine l_ild F w hL 10 rfl 2 (show 2 < 9 by omega) dL_law_1963 ?_
                refine lv_fold (y := S 10 2) (up2_r (by decide)) ?_
                refine lv_fold (y := nI (gnV M)) (hR.g2.trans hR.nV) ?_
                refine lv_aload F.1 F.2.1 dL_law_1964 (lv_at hl 13 rfl) ?_
                refine lv_iconst (v := 0) F.1 F.2.1 dL_law_1966 (by decide) ?_
                refine l_ild F w hL 10 rfl 0 (show 0 < 9 by omega) dL_law_1967 ?_
                refine lv_fold (y := S 10 0) (up2_r (by decide)) ?_
                refine l_ist F w hd hY 6 rfl (gnV M) (show gnV M < 50 by omega) dL_law_1968 (fun H locs Y hd hY w => ?_)
                have hL := hY.un hd
                refine lv_aload F.1 F.2.1 dL_law_1969 (lv_at hl 10 rfl) ?_
                refine lv_aload F.1 F.2.1 dL_law_1971 (lv_at hl 13 rfl) ?_
                refine lv_iconst (v := 2) F.1 F.2.1 dL_law_1973 (by decide) ?_
                refine l_ild F w hL 10 rfl 2 (show 2 < 9 by omega) dL_law_1974 ?_
                refine lv_fold (y := S 10 2) ((up2_r (by decide)).trans (up2_r (by decide))) ?_
                refine lv_fold (y := nI (gnV M)) (hR.g2.trans hR.nV) ?_
                refine lv_iconst (v := -1) F.1 F.2.1 dL_law_1975 (by decide) ?_
                refine l_ist F w hd hY 7 rfl (gnV M) (show gnV M < 50 by omega) dL_law_1976 (fun H locs Y hd hY w => ?_)
                have hL := hY.un hd
                refine lv_aload_n F.1 F.2.1 dL_law_1977 rfl (lv_at hl 5 rfl) ?_
                refine lv_iload F.1 F.2.1 dL_law_1978 (lv_at hl 18 rfl) ?_
                refine lv_bipush (v := 7) F.1 F.2.1 dL_law_1980 (by decide) ?_
                refine lv_iadd F.1 F.2.1 dL_law_1982 ?_
                refine lv_fold (y := nI ((14 * i) + 7)) (nI_add (14 * i) 7) ?_
                refine lv_aload F.1 F.2.1 dL_law_1983 (lv_at hl 13 rfl) ?_
                refine lv_iconst (v := 2) F.1 F.2.1 dL_law_1985 (by decide) ?_
                refine l_ild F w hL 10 rfl 2 (show 2 < 9 by omega) dL_law_1986 ?_
                refine lv_fold (y := S 10 2) ((up2_r (by decide)).trans ((up2_r (by decide)).trans (up2_r (by decide)))) ?_
                refine lv_fold (y := nI (gnV M)) (hR.g2.trans hR.nV) ?_
                refine l_ist F w hd hY 2 rfl ((14 * i) + 7) (show (14 * i) + 7 < 56 by omega) dL_law_1987 (fun H locs Y hd hY w => ?_)
                have hL := hY.un hd
                refine lv_aload_n F.1 F.2.1 dL_law_1988 rfl (lv_at hl 5 rfl) ?_
                refine lv_iload F.1 F.2.1 dL_law_1989 (lv_at hl 18 rfl) ?_
                refine lv_bipush (v := 8) F.1 F.2.1 dL_law_1991 (by decide) ?_
                refine lv_iadd F.1 F.2.1 dL_law_1993 ?_
                refine lv_fold (y := nI ((14 * i) + 8)) (nI_add (14 * i) 8) ?_
                refine lv_aload F.1 F.2.1 dL_law_1994 (lv_at hl 13 rfl) ?_
                refine lv_iconst (v := 2) F.1 F.2.1 dL_law_1996 (by decide) ?_
                refine l_ild F w hL 10 rfl 2 (show 2 < 9 by omega) dL_law_1997 ?_
                refine lv_fold (y := S 10 2) ((up2_r (by decide)).trans ((up2_r (by decide)).trans ((up2_r (by decide)).trans (up2_r (by decide))))) ?_
                refine lv_fold (y := nI (gnV M)) (hR.g2.trans hR.nV) ?_
                refine l_ist F w hd hY 2 rfl ((14 * i) + 8) (show (14 * i) + 8 < 56 by omega) dL_law_1998 (fun H locs Y hd hY w => ?_)
                have hL := hY.un hd
                refine lv_aload_n F.1 F.2.1 dL_law_1999 rfl (lv_at hl 4 rfl) ?_
                refine lv_iload F.1 F.2.1 dL_law_2000 (lv_at hl 17 rfl) ?_
                refine lw_visit (rest := []) F w hd hM ho hR.r.ic (nI i) (fun s9 hs9 => hR.r.gn (by omega) hs9) hlf dL_law_2002 hl.1 ⟨by omega, by omega⟩ (Nat.le_of_ble_eq_true rfl) ⟨by omega, by omega⟩ (fun v2002 X AD H locs hv2002 ho hd hM w => ?_)
                have hL := hY.un hd
                refine lv_fold (y := nI (gnV M)) (hv2002.trans ((vs_ok hR (by omega) hi h50 c_3 c_6 (k := 1) (by decide) ((vs_kind hR hi).trans ((if_neg c_10).trans ((if_pos c_13).trans (if_neg c_15))))).1)) ?_
                refine lv_aload F.1 F.2.1 dL_law_2005 (lv_at hl 13 rfl) ?_
                refine lv_iconst (v := 2) F.1 F.2.1 dL_law_2007 (by decide) ?_
                refine l_ild F w hL 10 rfl 2 (show 2 < 9 by omega) dL_law_2008 ?_
                refine lv_fold (y := S 10 2) ((up2_r (by decide)).trans ((up2_r (by decide)).trans ((up2_r (by decide)).trans ((up2_r (by decide)).trans (up2_r (by decide)))))) ?_
                refine lv_fold (y := nI (gnV M)) (hR.g2.trans hR.nV) ?_
                refine lv_icmp_ne (tgt := 2016) F.1 F.2.1 dL_law_2009 (by decide) (fun c_16 => absurd rfl c_16) (fun c_16 => ?_)
                refine lv_iconst (v := 1) F.1 F.2.1 dL_law_2012 (by decide) ?_
                refine lv_goto (tgt := 2017) F.1 F.2.1 dL_law_2013 (by decide) ?_
                refine lv_istore (lv' := [(17, .int 1), (29, .int 1), (28, .int 0), (27, .int (f_X7_hasOff M i)), (0, .ref b), (1, .ref o), (2, .ref (ad 2)), (3, .ref (ad 3)), (4, .ref (ad 4)), (5, .ref (ad 5)), (6, .ref (ad 6)), (7, .ref (ad 7)), (8, .ref (ad 8)), (9, .ref (ad 9)), (10, .ref (ad 10)), (11, .int (nI t)), (12, .int v12), (13, .int u), (14, .int (nI i)), (15, .int (nI (14 * i))), (16, .int (nI v))]) F.1 F.2.1 dL_law_2017 hl (by decide) rfl (fun ls hl => ?_)
                refine lv_aload F.1 F.2.1 dL_law_2019 (lv_at hl 14 rfl) ?_
                refine lv_iconst (v := 2) F.1 F.2.1 dL_law_2021 (by decide) ?_
                refine lv_dup2_11 F.1 F.2.1 dL_law_2022 rfl rfl ?_
                refine l_ild F w hL 10 rfl 2 (show 2 < 9 by omega) dL_law_2023 ?_
                refine lv_fold (y := S 10 2) ((up2_r (by decide)).trans ((up2_r (by decide)).trans ((up2_r (by decide)).trans ((up2_r (by decide)).trans (up2_r (by decide)))))) ?_
                refine lv_iconst (v := 1) F.1 F.2.1 dL_law_2024 (by decide) ?_
                refine lv_iadd F.1 F.2.1 dL_law_2025 ?_
                refine l_ist F w hd hY 10 rfl 2 (show 2 < 9 by omega) dL_law_2026 (fun H locs Y hd hY w => ?_)
                have hL := hY.un hd
                refine lv_goto (tgt := 3461) F.1 F.2.1 dL_law_2027 (by decide) ?_
                refine W.widen (k := c1) (n := s1) (by omega) (by omega) ?_
                exact K _ _ ls ⟨X, Y, AD, _, _, _, _, ho, hd, hM, hY, w, R26.ups ((vs_ok hR (by omega) hi h50 c_3 c_6 (k := 1) (by decide) ((vs_kind hR hi).trans ((if_neg c_10).trans ((if_pos c_13).trans (if_neg c_15))))).2) (by omega)⟩ (lv_sub hl [0, 4, 5, 6, 7, 8, 9, 10, 11, 12, 13, 14, 15, 17] rfl)
              · refine lv_iload F.1 F.2.1 dL_law_1906 (lv_at hl 16 rfl) ?_
                refine lv_aload_n F.1 F.2.1 dL_law_1908 rfl (lv_at hl 5 rfl) ?_
                refine lv_aload F.1 F.2.1 dL_law_1909 (lv_at hl 12 rfl) ?_
                refine q_rS (rest := []) F w kS_L_130 hd_L_lapsed (c_L_lapsed l D cy A _ ad S Wf hL i (show i < 4 by omega) hR.cok) dL_law_1911 rfl rfl hl.1 ⟨rfl, rfl, (show 2 ≤ R.frames by omega), (show 51 ≤ R.locals by omega)⟩ (Nat.le_of_ble_eq_true rfl) ⟨by omega, by omega⟩ ?_
                refine lv_if_le (tgt := 1921) F.1 F.2.1 dL_law_1914 (by decide) (fun c_17 => ?_) (fun c_17 => ?_)
                · refine lv_iconst (v := 0) F.1 F.2.1 dL_law_1921 (by decide) ?_
                  refine lv_istore (lv' := [(29, .int 0), (28, .int 0), (27, .int (f_X7_hasOff M i)), (0, .ref b), (1, .ref o), (2, .ref (ad 2)), (3, .ref (ad 3)), (4, .ref (ad 4)), (5, .ref (ad 5)), (6, .ref (ad 6)), (7, .ref (ad 7)), (8, .ref (ad 8)), (9, .ref (ad 9)), (10, .ref (ad 10)), (11, .int (nI t)), (12, .int v12), (13, .int u), (14, .int (nI i)), (15, .int (nI (14 * i))), (16, .int (nI v)), (17, .int 1)]) F.1 F.2.1 dL_law_1922 hl (by decide) rfl (fun ls hl => ?_)
                  refine lv_aload F.1 F.2.1 dL_law_1924 (lv_at hl 8 rfl) ?_
                  refine lv_aload F.1 F.2.1 dL_law_1926 (lv_at hl 13 rfl) ?_
                  refine lv_iconst (v := 2) F.1 F.2.1 dL_law_1928 (by decide) ?_
                  refine l_ild F w hL 10 rfl 2 (show 2 < 9 by omega) dL_law_1929 ?_
                  refine lv_fold (y := nI (gnV M)) (hR.g2.trans hR.nV) ?_
                  refine lv_iload F.1 F.2.1 dL_law_1930 (lv_at hl 17 rfl) ?_
                  refine lv_aload_n F.1 F.2.1 dL_law_1932 rfl (lv_at hl 5 rfl) ?_
                  refine lv_iload F.1 F.2.1 dL_law_1933 (lv_at hl 18 rfl) ?_
                  refine lv_bipush (v := 6) F.1 F.2.1 dL_law_1935 (by decide) ?_
                  refine lv_iadd F.1 F.2.1 dL_law_1937 ?_
                  refine lv_fold (y := nI ((14 * i) + 6)) (nI_add (14 * i) 6) ?_
                  refine l_ild F w hL 2 rfl ((14 * i) + 6) (show (14 * i) + 6 < 56 by omega) dL_law_1938 ?_
                  refine lv_iconst (v := 2) F.1 F.2.1 dL_law_1939 (by decide) ?_
                  refine lv_ishl F.1 F.2.1 dL_law_1940 ?_
                  refine lv_ior F.1 F.2.1 dL_law_1941 ?_
                  refine lv_iload F.1 F.2.1 dL_law_1942 (lv_at hl 0 rfl) ?_
                  refine lv_iconst (v := 4) F.1 F.2.1 dL_law_1944 (by decide) ?_
                  refine lv_ishl F.1 F.2.1 dL_law_1945 ?_
                  refine lv_ior F.1 F.2.1 dL_law_1946 ?_
                  refine lv_aload_n F.1 F.2.1 dL_law_1947 rfl (lv_at hl 5 rfl) ?_
                  refine lv_iload F.1 F.2.1 dL_law_1948 (lv_at hl 18 rfl) ?_
                  refine lv_iconst (v := 3) F.1 F.2.1 dL_law_1950 (by decide) ?_
                  refine lv_iadd F.1 F.2.1 dL_law_1951 ?_
                  refine lv_fold (y := nI ((14 * i) + 3)) (nI_add (14 * i) 3) ?_
                  refine l_ild F w hL 2 rfl ((14 * i) + 3) (show (14 * i) + 3 < 56 by omega) dL_law_1952 ?_
                  refine lv_bipush (v := 6) F.1 F.2.1 dL_law_1953 (by decide) ?_
                  refine lv_ishl F.1 F.2.1 dL_law_1955 ?_
                  refine lv_ior F.1 F.2.1 dL_law_1956 ?_
                  refine l_ist F w hd hY 5 rfl (gnV M) (show gnV M < 50 by omega) dL_law_1957 (fun H locs Y hd hY w => ?_)
                  have hL := hY.un hd
                  refine lv_aload F.1 F.2.1 dL_law_1958 (lv_at hl 9 rfl) ?_
                  refine lv_aload F.1 F.2.1 dL_law_1960 (lv_at hl 13 rfl) ?_
                  refine lv_iconst (v := 2) F.1 F.2.1 dL_law_1962 (by decide) ?_
                  refine l_ild F w hL 10 rfl 2 (show 2 < 9 by omega) dL_law_1963 ?_
                  refine lv_fold (y := S 10 2) (up2_r (by decide)) ?_
                  refine lv_fold (y := nI (gnV M)) (hR.g2.trans hR.nV) ?_
                  refine lv_aload F.1 F.2.1 dL_law_1964 (lv_at hl 13 rfl) ?_
                  refine lv_iconst (v := 0) F.1 F.2.1 dL_law_1966 (by decide) ?_
                  refine l_ild F w hL 10 rfl 0 (show 0 < 9 by omega) dL_law_1967 ?_
                  refine lv_fold (y := S 10 0) (up2_r (by decide)) ?_
                  refine l_ist F w hd hY 6 rfl (gnV M) (show gnV M < 50 by omega) dL_law_1968 (fun H locs Y hd hY w => ?_)
                  have hL := hY.un hd
                  refine lv_aload F.1 F.2.1 dL_law_1969 (lv_at hl 10 rfl) ?_
                  refine lv_aload F.1 F.2.1 dL_law_1971 (lv_at hl 13 rfl) ?_
                  refine lv_iconst (v := 2) F.1 F.2.1 dL_law_1973 (by decide) ?_
                  refine l_ild F w hL 10 rfl 2 (show 2 < 9 by omega) dL_law_1974 ?_
                  refine lv_fold (y := S 10 2) ((up2_r (by decide)).trans (up2_r (by decide))) ?_
                  refine lv_fold (y := nI (gnV M)) (hR.g2.trans hR.nV) ?_
                  refine lv_iconst (v := -1) F.1 F.2.1 dL_law_1975 (by decide) ?_
                  refine l_ist F w hd hY 7 rfl (gnV M) (show gnV M < 50 by omega) dL_law_1976 (fun H locs Y hd hY w => ?_)
                  have hL := hY.un hd
                  refine lv_aload_n F.1 F.2.1 dL_law_1977 rfl (lv_at hl 5 rfl) ?_
                  refine lv_iload F.1 F.2.1 dL_law_1978 (lv_at hl 18 rfl) ?_
                  refine lv_bipush (v := 7) F.1 F.2.1 dL_law_1980 (by decide) ?_
                  refine lv_iadd F.1 F.2.1 dL_law_1982 ?_
                  refine lv_fold (y := nI ((14 * i) + 7)) (nI_add (14 * i) 7) ?_
                  refine lv_aload F.1 F.2.1 dL_law_1983 (lv_at hl 13 rfl) ?_
                  refine lv_iconst (v := 2) F.1 F.2.1 dL_law_1985 (by decide) ?_
                  refine l_ild F w hL 10 rfl 2 (show 2 < 9 by omega) dL_law_1986 ?_
                  refine lv_fold (y := S 10 2) ((up2_r (by decide)).trans ((up2_r (by decide)).trans (up2_r (by decide)))) ?_
                  refine lv_fold (y := nI (gnV M)) (hR.g2.trans hR.nV) ?_
                  refine l_ist F w hd hY 2 rfl ((14 * i) + 7) (show (14 * i) + 7 < 56 by omega) dL_law_1987 (fun H locs Y hd hY w => ?_)
                  have hL := hY.un hd
                  refine lv_aload_n F.1 F.2.1 dL_law_1988 rfl (lv_at hl 5 rfl) ?_
                  refine lv_iload F.1 F.2.1 dL_law_1989 (lv_at hl 18 rfl) ?_
                  refine lv_bipush (v := 8) F.1 F.2.1 dL_law_1991 (by decide) ?_
                  refine lv_iadd F.1 F.2.1 dL_law_1993 ?_
                  refine lv_fold (y := nI ((14 * i) + 8)) (nI_add (14 * i) 8) ?_
                  refine lv_aload F.1 F.2.1 dL_law_1994 (lv_at hl 13 rfl) ?_
                  refine lv_iconst (v := 2) F.1 F.2.1 dL_law_1996 (by decide) ?_
                  refine l_ild F w hL 10 rfl 2 (show 2 < 9 by omega) dL_law_1997 ?_
                  refine lv_fold (y := S 10 2) ((up2_r (by decide)).trans ((up2_r (by decide)).trans ((up2_r (by decide)).trans (up2_r (by decide))))) ?_
                  refine lv_fold (y := nI (gnV M)) (hR.g2.trans hR.nV) ?_
                  refine l_ist F w hd hY 2 rfl ((14 * i) + 8) (show (14 * i) + 8 < 56 by omega) dL_law_1998 (fun H locs Y hd hY w => ?_)
                  have hL := hY.un hd
                  refine lv_aload_n F.1 F.2.1 dL_law_1999 rfl (lv_at hl 4 rfl) ?_
                  refine lv_iload F.1 F.2.1 dL_law_2000 (lv_at hl 17 rfl) ?_
                  refine lw_visit (rest := []) F w hd hM ho hR.r.ic (nI i) (fun s9 hs9 => hR.r.gn (by omega) hs9) hlf dL_law_2002 hl.1 ⟨by omega, by omega⟩ (Nat.le_of_ble_eq_true rfl) ⟨by omega, by omega⟩ (fun v2002 X AD H locs hv2002 ho hd hM w => ?_)
                  have hL := hY.un hd
                  refine lv_fold (y := nI (gnV M)) (hv2002.trans ((vs_ok hR (by omega) hi h50 c_3 c_6 (k := 0) (by decide) ((vs_kind hR hi).trans ((if_neg c_10).trans ((if_pos c_13).trans ((if_pos c_15).trans (if_pos c_17)))))).1)) ?_
                  refine lv_aload F.1 F.2.1 dL_law_2005 (lv_at hl 13 rfl) ?_
                  refine lv_iconst (v := 2) F.1 F.2.1 dL_law_2007 (by decide) ?_
                  refine l_ild F w hL 10 rfl 2 (show 2 < 9 by omega) dL_law_2008 ?_
                  refine lv_fold (y := S 10 2) ((up2_r (by decide)).trans ((up2_r (by decide)).trans ((up2_r (by decide)).trans ((up2_r (by decide)).trans (up2_r (by decide)))))) ?_
                  refine lv_fold (y := nI (gnV M)) (hR.g2.trans hR.nV) ?_
                  refine lv_icmp_ne (tgt := 2016) F.1 F.2.1 dL_law_2009 (by decide) (fun c_18 => absurd rfl c_18) (fun c_18 => ?_)
                  refine lv_iconst (v := 1) F.1 F.2.1 dL_law_2012 (by decide) ?_
                  refine lv_goto (tgt := 2017) F.1 F.2.1 dL_law_2013 (by decide) ?_
                  refine lv_istore (lv' := [(17, .int 1), (29, .int 0), (28, .int 0), (27, .int (f_X7_hasOff M i)), (0, .ref b), (1, .ref o), (2, .ref (ad 2)), (3, .ref (ad 3)), (4, .ref (ad 4)), (5, .ref (ad 5)), (6, .ref (ad 6)), (7, .ref (ad 7)), (8, .ref (ad 8)), (9, .ref (ad 9)), (10, .ref (ad 10)), (11, .int (nI t)), (12, .int v12), (13, .int u), (14, .int (nI i)), (15, .int (nI (14 * i))), (16, .int (nI v))]) F.1 F.2.1 dL_law_2017 hl (by decide) rfl (fun ls hl => ?_)
                  refine lv_aload F.1 F.2.1 dL_law_2019 (lv_at hl 14 rfl) ?_
                  refine lv_iconst (v := 2) F.1 F.2.1 dL_law_2021 (by decide) ?_
                  refine lv_dup2_11 F.1 F.2.1 dL_law_2022 rfl rfl ?_
                  refine l_ild F w hL 10 rfl 2 (show 2 < 9 by omega) dL_law_2023 ?_
                  refine lv_fold (y := S 10 2) ((up2_r (by decide)).trans ((up2_r (by decide)).trans ((up2_r (by decide)).trans ((up2_r (by decide)).trans (up2_r (by decide)))))) ?_
                  refine lv_iconst (v := 1) F.1 F.2.1 dL_law_2024 (by decide) ?_
                  refine lv_iadd F.1 F.2.1 dL_law_2025 ?_
                  refine l_ist F w hd hY 10 rfl 2 (show 2 < 9 by omega) dL_law_2026 (fun H locs Y hd hY w => ?_)
                  have hL := hY.un hd
                  refine lv_goto (tgt := 3461) F.1 F.2.1 dL_law_2027 (by decide) ?_
                  refine W.widen (k := c1) (n := s1) (by omega) (by omega) ?_
                  exact K _ _ ls ⟨X, Y, AD, _, _, _, _, ho, hd, hM, hY, w, R26.ups ((vs_ok hR (by omega) hi h50 c_3 c_6 (k := 0) (by decide) ((vs_kind hR hi).trans ((if_neg c_10).trans ((if_pos c_13).trans ((if_pos c_15).trans (if_pos c_17)))))).2) (by omega)⟩ (lv_sub hl [0, 4, 5, 6, 7, 8, 9, 10, 11, 12, 13, 14, 15, 17] rfl)
                · refine lv_iconst (v := 1) F.1 F.2.1 dL_law_1917 (by decide) ?_
                  refine lv_goto (tgt := 1922) F.1 F.2.1 dL_law_1918 (by decide) ?_
                  refine lv_istore (lv' := [(29, .int 1), (28, .int 0), (27, .int (f_X7_hasOff M i)), (0, .ref b), (1, .ref o), (2, .ref (ad 2)), (3, .ref (ad 3)), (4, .ref (ad 4)), (5, .ref (ad 5)), (6, .ref (ad 6)), (7, .ref (ad 7)), (8, .ref (ad 8)), (9, .ref (ad 9)), (10, .ref (ad 10)), (11, .int (nI t)), (12, .int v12), (13, .int u), (14, .int (nI i)), (15, .int (nI (14 * i))), (16, .int (nI v)), (17, .int 1)]) F.1 F.2.1 dL_law_1922 hl (by decide) rfl (fun ls hl => ?_)
                  refine lv_aload F.1 F.2.1 dL_law_1924 (lv_at hl 8 rfl) ?_
                  refine lv_aload F.1 F.2.1 dL_law_1926 (lv_at hl 13 rfl) ?_
                  refine lv_iconst (v := 2) F.1 F.2.1 dL_law_1928 (by decide) ?_
                  refine l_ild F w hL 10 rfl 2 (show 2 < 9 by omega) dL_law_1929 ?_
                  refine lv_fold (y := nI (gnV M)) (hR.g2.trans hR.nV) ?_
                  refine lv_iload F.1 F.2.1 dL_law_1930 (lv_at hl 17 rfl) ?_
                  refine lv_aload_n F.1 F.2.1 dL_law_1932 rfl (lv_at hl 5 rfl) ?_
                  refine lv_iload F.1 F.2.1 dL_law_1933 (lv_at hl 18 rfl) ?_
                  refine lv_bipush (v := 6) F.1 F.2.1 dL_law_1935 (by decide) ?_
                  refine lv_iadd F.1 F.2.1 dL_law_1937 ?_
                  refine lv_fold (y := nI ((14 * i) + 6)) (nI_add (14 * i) 6) ?_
                  refine l_ild F w hL 2 rfl ((14 * i) + 6) (show (14 * i) + 6 < 56 by omega) dL_law_1938 ?_
                  refine lv_iconst (v := 2) F.1 F.2.1 dL_law_1939 (by decide) ?_
                  refine lv_ishl F.1 F.2.1 dL_law_1940 ?_
                  refine lv_ior F.1 F.2.1 dL_law_1941 ?_
                  refine lv_iload F.1 F.2.1 dL_law_1942 (lv_at hl 0 rfl) ?_
                  refine lv_iconst (v := 4) F.1 F.2.1 dL_law_1944 (by decide) ?_
                  refine lv_ishl F.1 F.2.1 dL_law_1945 ?_
                  refine lv_ior F.1 F.2.1 dL_law_1946 ?_
                  refine lv_aload_n F.1 F.2.1 dL_law_1947 rfl (lv_at hl 5 rfl) ?_
                  refine lv_iload F.1 F.2.1 dL_law_1948 (lv_at hl 18 rfl) ?_
                  refine lv_iconst (v := 3) F.1 F.2.1 dL_law_1950 (by decide) ?_
                  refine lv_iadd F.1 F.2.1 dL_law_1951 ?_
                  refine lv_fold (y := nI ((14 * i) + 3)) (nI_add (14 * i) 3) ?_
                  refine l_ild F w hL 2 rfl ((14 * i) + 3) (show (14 * i) + 3 < 56 by omega) dL_law_1952 ?_
                  refine lv_bipush (v := 6) F.1 F.2.1 dL_law_1953 (by decide) ?_
                  refine lv_ishl F.1 F.2.1 dL_law_1955 ?_
                  refine lv_ior F.1 F.2.1 dL_law_1956 ?_
                  refine l_ist F w hd hY 5 rfl (gnV M) (show gnV M < 50 by omega) dL_law_1957 (fun H locs Y hd hY w => ?_)
                  have hL := hY.un hd
                  refine lv_aload F.1 F.2.1 dL_law_1958 (lv_at hl 9 rfl) ?_
                  refine lv_aload F.1 F.2.1 dL_law_1960 (lv_at hl 13 rfl) ?_
                  refine lv_iconst (v := 2) F.1 F.2.1 dL_law_1962 (by decide) ?_
                  refine l_ild F w hL 10 rfl 2 (show 2 < 9 by omega) dL_law_1963 ?_
                  refine lv_fold (y := S 10 2) (up2_r (by decide)) ?_
                  refine lv_fold (y := nI (gnV M)) (hR.g2.trans hR.nV) ?_
                  refine lv_aload F.1 F.2.1 dL_law_1964 (lv_at hl 13 rfl) ?_
                  refine lv_iconst (v := 0) F.1 F.2.1 dL_law_1966 (by decide) ?_
                  refine l_ild F w hL 10 rfl 0 (show 0 < 9 by omega) dL_law_1967 ?_
                  refine lv_fold (y := S 10 0) (up2_r (by decide)) ?_
                  refine l_ist F w hd hY 6 rfl (gnV M) (show gnV M < 50 by omega) dL_law_1968 (fun H locs Y hd hY w => ?_)
                  have hL := hY.un hd
                  refine lv_aload F.1 F.2.1 dL_law_1969 (lv_at hl 10 rfl) ?_
                  refine lv_aload F.1 F.2.1 dL_law_1971 (lv_at hl 13 rfl) ?_
                  refine lv_iconst (v := 2) F.1 F.2.1 dL_law_1973 (by decide) ?_
                  refine l_ild F w hL 10 rfl 2 (show 2 < 9 by omega) dL_law_1974 ?_
                  refine lv_fold (y := S 10 2) ((up2_r (by decide)).trans (up2_r (by decide))) ?_
                  refine lv_fold (y := nI (gnV M)) (hR.g2.trans hR.nV) ?_
                  refine lv_iconst (v := -1) F.1 F.2.1 dL_law_1975 (by decide) ?_
                  refine l_ist F w hd hY 7 rfl (gnV M) (show gnV M < 50 by omega) dL_law_1976 (fun H locs Y hd hY w => ?_)
                  have hL := hY.un hd
                  refine lv_aload_n F.1 F.2.1 dL_law_1977 rfl (lv_at hl 5 rfl) ?_
                  refine lv_iload F.1 F.2.1 dL_law_1978 (lv_at hl 18 rfl) ?_
                  refine lv_bipush (v := 7) F.1 F.2.1 dL_law_1980 (by decide) ?_
                  refine lv_iadd F.1 F.2.1 dL_law_1982 ?_
                  refine lv_fold (y := nI ((14 * i) + 7)) (nI_add (14 * i) 7) ?_
                  refine lv_aload F.1 F.2.1 dL_law_1983 (lv_at hl 13 rfl) ?_
                  refine lv_iconst (v := 2) F.1 F.2.1 dL_law_1985 (by decide) ?_
                  refine l_ild F w hL 10 rfl 2 (show 2 < 9 by omega) dL_law_1986 ?_
                  refine lv_fold (y := S 10 2) ((up2_r (by decide)).trans ((up2_r (by decide)).trans (up2_r (by decide)))) ?_
                  refine lv_fold (y := nI (gnV M)) (hR.g2.trans hR.nV) ?_
                  refine l_ist F w hd hY 2 rfl ((14 * i) + 7) (show (14 * i) + 7 < 56 by omega) dL_law_1987 (fun H locs Y hd hY w => ?_)
                  have hL := hY.un hd
                  refine lv_aload_n F.1 F.2.1 dL_law_1988 rfl (lv_at hl 5 rfl) ?_
                  refine lv_iload F.1 F.2.1 dL_law_1989 (lv_at hl 18 rfl) ?_
                  refine lv_bipush (v := 8) F.1 F.2.1 dL_law_1991 (by decide) ?_
                  refine lv_iadd F.1 F.2.1 dL_law_1993 ?_
                  refine lv_fold (y := nI ((14 * i) + 8)) (nI_add (14 * i) 8) ?_
                  refine lv_aload F.1 F.2.1 dL_law_1994 (lv_at hl 13 rfl) ?_
                  refine lv_iconst (v := 2) F.1 F.2.1 dL_law_1996 (by decide) ?_
                  refine l_ild F w hL 10 rfl 2 (show 2 < 9 by omega) dL_law_1997 ?_
                  refine lv_fold (y := S 10 2) ((up2_r (by decide)).trans ((up2_r (by decide)).trans ((up2_r (by decide)).trans (up2_r (by decide))))) ?_
                  refine lv_fold (y := nI (gnV M)) (hR.g2.trans hR.nV) ?_
                  refine l_ist F w hd hY 2 rfl ((14 * i) + 8) (show (14 * i) + 8 < 56 by omega) dL_law_1998 (fun H locs Y hd hY w => ?_)
                  have hL := hY.un hd
                  refine lv_aload_n F.1 F.2.1 dL_law_1999 rfl (lv_at hl 4 rfl) ?_
                  refine lv_iload F.1 F.2.1 dL_law_2000 (lv_at hl 17 rfl) ?_
                  refine lw_visit (rest := []) F w hd hM ho hR.r.ic (nI i) (fun s9 hs9 => hR.r.gn (by omega) hs9) hlf dL_law_2002 hl.1 ⟨by omega, by omega⟩ (Nat.le_of_ble_eq_true rfl) ⟨by omega, by omega⟩ (fun v2002 X AD H locs hv2002 ho hd hM w => ?_)
                  have hL := hY.un hd
                  refine lv_fold (y := nI (gnV M)) (hv2002.trans ((vs_ok hR (by omega) hi h50 c_3 c_6 (k := 1) (by decide) ((vs_kind hR hi).trans ((if_neg c_10).trans ((if_pos c_13).trans ((if_pos c_15).trans (if_neg c_17)))))).1)) ?_
                  refine lv_aload F.1 F.2.1 dL_law_2005 (lv_at hl 13 rfl) ?_
                  refine lv_iconst (v := 2) F.1 F.2.1 dL_law_2007 (by decide) ?_
                  refine l_ild F w hL 10 rfl 2 (show 2 < 9 by omega) dL_law_2008 ?_
                  refine lv_fold (y := S 10 2) ((up2_r (by decide)).trans ((up2_r (by decide)).trans ((up2_r (by decide)).trans ((up2_r (by decide)).trans (up2_r (by decide)))))) ?_
                  refine lv_fold (y := nI (gnV M)) (hR.g2.trans hR.nV) ?_
                  refine lv_icmp_ne (tgt := 2016) F.1 F.2.1 dL_law_2009 (by decide) (fun c_19 => absurd rfl c_19) (fun c_19 => ?_)
                  refine lv_iconst (v := 1) F.1 F.2.1 dL_law_2012 (by decide) ?_
                  refine lv_goto (tgt := 2017) F.1 F.2.1 dL_law_2013 (by decide) ?_
                  refine lv_istore (lv' := [(17, .int 1), (29, .int 1), (28, .int 0), (27, .int (f_X7_hasOff M i)), (0, .ref b), (1, .ref o), (2, .ref (ad 2)), (3, .ref (ad 3)), (4, .ref (ad 4)), (5, .ref (ad 5)), (6, .ref (ad 6)), (7, .ref (ad 7)), (8, .ref (ad 8)), (9, .ref (ad 9)), (10, .ref (ad 10)), (11, .int (nI t)), (12, .int v12), (13, .int u), (14, .int (nI i)), (15, .int (nI (14 * i))), (16, .int (nI v))]) F.1 F.2.1 dL_law_2017 hl (by decide) rfl (fun ls hl => ?_)
                  refine lv_aload F.1 F.2.1 dL_law_2019 (lv_at hl 14 rfl) ?_
                  refine lv_iconst (v := 2) F.1 F.2.1 dL_law_2021 (by decide) ?_
                  refine lv_dup2_11 F.1 F.2.1 dL_law_2022 rfl rfl ?_
                  refine l_ild F w hL 10 rfl 2 (show 2 < 9 by omega) dL_law_2023 ?_
                  refine lv_fold (y := S 10 2) ((up2_r (by decide)).trans ((up2_r (by decide)).trans ((up2_r (by decide)).trans ((up2_r (by decide)).trans (up2_r (by decide)))))) ?_
                  refine lv_iconst (v := 1) F.1 F.2.1 dL_law_2024 (by decide) ?_
                  refine lv_iadd F.1 F.2.1 dL_law_2025 ?_
                  refine l_ist F w hd hY 10 rfl 2 (show 2 < 9 by omega) dL_law_2026 (fun H locs Y hd hY w => ?_)
                  have hL := hY.un hd
                  refine lv_goto (tgt := 3461) F.1 F.2.1 dL_law_2027 (by decide) ?_
                  refine W.widen (k := c1) (n := s1) (by omega) (by omega) ?_
                  exact K _ _ ls ⟨X, Y, AD, _, _, _, _, ho, hd, hM, hY, w, R26.ups ((vs_ok hR (by omega) hi h50 c_3 c_6 (k := 1) (by decide) ((vs_kind hR hi).trans ((if_neg c_10).trans ((if_pos c_13).trans ((if_pos c_15).trans (if_neg c_17)))))).2) (by omega)⟩ (lv_sub hl [0, 4, 5, 6, 7, 8, 9, 10, 11, 12, 13, 14, 15, 17] rfl)
            · refine lv_aload_n F.1 F.2.1 dL_law_1876 rfl (lv_at hl 3 rfl) ?_
              refine lv_iload F.1 F.2.1 dL_law_1877 (lv_at hl 16 rfl) ?_
              refine lv_iconst (v := 2) F.1 F.2.1 dL_law_1879 (by decide) ?_
              refine lv_iadd F.1 F.2.1 dL_law_1880 ?_
              refine lv_fold (y := nI ((14 * i) + 2)) (nI_add (14 * i) 2) ?_
              refine l_ild F w hL 2 rfl ((14 * i) + 2) (show (14 * i) + 2 < 56 by omega) dL_law_1881 ?_
              refine lv_if_eq (tgt := 1889) F.1 F.2.1 dL_law_1882 (by decide) (fun c_20 => ?_) (fun c_20 => ?_)
              · refine lv_iconst (v := 0) F.1 F.2.1 dL_law_1889 (by decide) ?_
                refine lv_istore (lv' := [(28, .int 0), (27, .int (f_X7_hasOff M i)), (0, .ref b), (1, .ref o), (2, .ref (ad 2)), (3, .ref (ad 3)), (4, .ref (ad 4)), (5, .ref (ad 5)), (6, .ref (ad 6)), (7, .ref (ad 7)), (8, .ref (ad 8)), (9, .ref (ad 9)), (10, .ref (ad 10)), (11, .int (nI t)), (12, .int v12), (13, .int u), (14, .int (nI i)), (15, .int (nI (14 * i))), (16, .int (nI v)), (17, .int 1)]) F.1 F.2.1 dL_law_1890 hl (by decide) rfl (fun ls hl => ?_)
                refine lv_iload F.1 F.2.1 dL_law_1892 (lv_at hl 0 rfl) ?_
                refine lv_if_eq (tgt := 1901) F.1 F.2.1 dL_law_1894 (by decide) (fun c_21 => ?_) (fun c_21 => absurd rfl c_21)
                refine lv_iload F.1 F.2.1 dL_law_1901 (lv_at hl 1 rfl) ?_
                refine lv_if_ne (tgt := 1917) F.1 F.2.1 dL_law_1903 (by decide) (fun c_22 => ?_) (fun c_22 => ?_)
                · refine lv_iconst (v := 1) F.1 F.2.1 dL_law_1917 (by decide) ?_
                  refine lv_goto (tgt := 1922) F.1 F.2.1 dL_law_1918 (by decide) ?_
                  refine lv_istore (lv' := [(29, .int 1), (28, .int 0), (27, .int (f_X7_hasOff M i)), (0, .ref b), (1, .ref o), (2, .ref (ad 2)), (3, .ref (ad 3)), (4, .ref (ad 4)), (5, .ref (ad 5)), (6, .ref (ad 6)), (7, .ref (ad 7)), (8, .ref (ad 8)), (9, .ref (ad 9)), (10, .ref (ad 10)), (11, .int (nI t)), (12, .int v12), (13, .int u), (14, .int (nI i)), (15, .int (nI (14 * i))), (16, .int (nI v)), (17, .int 1)]) F.1 F.2.1 dL_law_1922 hl (by decide) rfl (fun ls hl => ?_)
                  refine lv_aload F.1 F.2.1 dL_law_1924 (lv_at hl 8 rfl) ?_
                  refine lv_aload F.1 F.2.1 dL_law_1926 (lv_at hl 13 rfl) ?_
                  refine lv_iconst (v := 2) F.1 F.2.1 dL_law_1928 (by decide) ?_
                  refine l_ild F w hL 10 rfl 2 (show 2 < 9 by omega) dL_law_1929 ?_
                  refine lv_fold (y := nI (gnV M)) (hR.g2.trans hR.nV) ?_
                  refine lv_iload F.1 F.2.1 dL_law_1930 (lv_at hl 17 rfl) ?_
                  refine lv_aload_n F.1 F.2.1 dL_law_1932 rfl (lv_at hl 5 rfl) ?_
                  refine lv_iload F.1 F.2.1 dL_law_1933 (lv_at hl 18 rfl) ?_
                  refine lv_bipush (v := 6) F.1 F.2.1 dL_law_1935 (by decide) ?_
                  refine lv_iadd F.1 F.2.1 dL_law_1937 ?_
                  refine lv_fold (y := nI ((14 * i) + 6)) (nI_add (14 * i) 6) ?_
                  refine l_ild F w hL 2 rfl ((14 * i) + 6) (show (14 * i) + 6 < 56 by omega) dL_law_1938 ?_
                  refine lv_iconst (v := 2) F.1 F.2.1 dL_law_1939 (by decide) ?_
                  refine lv_ishl F.1 F.2.1 dL_law_1940 ?_
                  refine lv_ior F.1 F.2.1 dL_law_1941 ?_
                  refine lv_iload F.1 F.2.1 dL_law_1942 (lv_at hl 0 rfl) ?_
                  refine lv_iconst (v := 4) F.1 F.2.1 dL_law_1944 (by decide) ?_
                  refine lv_ishl F.1 F.2.1 dL_law_1945 ?_
                  refine lv_ior F.1 F.2.1 dL_law_1946 ?_
                  refine lv_aload_n F.1 F.2.1 dL_law_1947 rfl (lv_at hl 5 rfl) ?_
                  refine lv_iload F.1 F.2.1 dL_law_1948 (lv_at hl 18 rfl) ?_
                  refine lv_iconst (v := 3) F.1 F.2.1 dL_law_1950 (by decide) ?_
                  refine lv_iadd F.1 F.2.1 dL_law_1951 ?_
                  refine lv_fold (y := nI ((14 * i) + 3)) (nI_add (14 * i) 3) ?_
                  refine l_ild F w hL 2 rfl ((14 * i) + 3) (show (14 * i) + 3 < 56 by omega) dL_law_1952 ?_
                  refine lv_bipush (v := 6) F.1 F.2.1 dL_law_1953 (by decide) ?_
                  refine lv_ishl F.1 F.2.1 dL_law_1955 ?_
                  refine lv_ior F.1 F.2.1 dL_law_1956 ?_
                  refine l_ist F w hd hY 5 rfl (gnV M) (show gnV M < 50 by omega) dL_law_1957 (fun H locs Y hd hY w => ?_)
                  have hL := hY.un hd
                  refine lv_aload F.1 F.2.1 dL_law_1958 (lv_at hl 9 rfl) ?_
                  refine lv_aload F.1 F.2.1 dL_law_1960 (lv_at hl 13 rfl) ?_
                  refine lv_iconst (v := 2) F.1 F.2.1 dL_law_1962 (by decide) ?_
                  refine l_ild F w hL 10 rfl 2 (show 2 < 9 by omega) dL_law_1963 ?_
                  refine lv_fold (y := S 10 2) (up2_r (by decide)) ?_
                  refine lv_fold (y := nI (gnV M)) (hR.g2.trans hR.nV) ?_
                  refine lv_aload F.1 F.2.1 dL_law_1964 (lv_at hl 13 rfl) ?_
                  refine lv_iconst (v := 0) F.1 F.2.1 dL_law_1966 (by decide) ?_
                  refine l_ild F w hL 10 rfl 0 (show 0 < 9 by omega) dL_law_1967 ?_
                  refine lv_fold (y := S 10 0) (up2_r (by decide)) ?_
                  refine l_ist F w hd hY 6 rfl (gnV M) (show gnV M < 50 by omega) dL_law_1968 (fun H locs Y hd hY w => ?_)
                  have hL := hY.un hd
                  refine lv_aload F.1 F.2.1 dL_law_1969 (lv_at hl 10 rfl) ?_
                  refine lv_aload F.1 F.2.1 dL_law_1971 (lv_at hl 13 rfl) ?_
                  refine lv_iconst (v := 2) F.1 F.2.1 dL_law_1973 (by decide) ?_
                  refine l_ild F w hL 10 rfl 2 (show 2 < 9 by omega) dL_law_1974 ?_
                  refine lv_fold (y := S 10 2) ((up2_r (by decide)).trans (up2_r (by decide))) ?_
                  refine lv_fold (y := nI (gnV M)) (hR.g2.trans hR.nV) ?_
                  refine lv_iconst (v := -1) F.1 F.2.1 dL_law_1975 (by decide) ?_
                  refine l_ist F w hd hY 7 rfl (gnV M) (show gnV M < 50 by omega) dL_law_1976 (fun H locs Y hd hY w => ?_)
                  have hL := hY.un hd
                  refine lv_aload_n F.1 F.2.1 dL_law_1977 rfl (lv_at hl 5 rfl) ?_
                  refine lv_iload F.1 F.2.1 dL_law_1978 (lv_at hl 18 rfl) ?_
                  refine lv_bipush (v := 7) F.1 F.2.1 dL_law_1980 (by decide) ?_
                  refine lv_iadd F.1 F.2.1 dL_law_1982 ?_
                  refine lv_fold (y := nI ((14 * i) + 7)) (nI_add (14 * i) 7) ?_
                  refine lv_aload F.1 F.2.1 dL_law_1983 (lv_at hl 13 rfl) ?_
                  refine lv_iconst (v := 2) F.1 F.2.1 dL_law_1985 (by decide) ?_
                  refine l_ild F w hL 10 rfl 2 (show 2 < 9 by omega) dL_law_1986 ?_
                  refine lv_fold (y := S 10 2) ((up2_r (by decide)).trans ((up2_r (by decide)).trans (up2_r (by decide)))) ?_
                  refine lv_fold (y := nI (gnV M)) (hR.g2.trans hR.nV) ?_
                  refine l_ist F w hd hY 2 rfl ((14 * i) + 7) (show (14 * i) + 7 < 56 by omega) dL_law_1987 (fun H locs Y hd hY w => ?_)
                  have hL := hY.un hd
                  refine lv_aload_n F.1 F.2.1 dL_law_1988 rfl (lv_at hl 5 rfl) ?_
                  refine lv_iload F.1 F.2.1 dL_law_1989 (lv_at hl 18 rfl) ?_
                  refine lv_bipush (v := 8) F.1 F.2.1 dL_law_1991 (by decide) ?_
                  refine lv_iadd F.1 F.2.1 dL_law_1993 ?_
                  refine lv_fold (y := nI ((14 * i) + 8)) (nI_add (14 * i) 8) ?_
                  refine lv_aload F.1 F.2.1 dL_law_1994 (lv_at hl 13 rfl) ?_
                  refine lv_iconst (v := 2) F.1 F.2.1 dL_law_1996 (by decide) ?_
                  refine l_ild F w hL 10 rfl 2 (show 2 < 9 by omega) dL_law_1997 ?_
                  refine lv_fold (y := S 10 2) ((up2_r (by decide)).trans ((up2_r (by decide)).trans ((up2_r (by decide)).trans (up2_r (by decide))))) ?_
                  refine lv_fold (y := nI (gnV M)) (hR.g2.trans hR.nV) ?_
                  refine l_ist F w hd hY 2 rfl ((14 * i) + 8) (show (14 * i) + 8 < 56 by omega) dL_law_1998 (fun H locs Y hd hY w => ?_)
                  have hL := hY.un hd
                  refine lv_aload_n F.1 F.2.1 dL_law_1999 rfl (lv_at hl 4 rfl) ?_
                  refine lv_iload F.1 F.2.1 dL_law_2000 (lv_at hl 17 rfl) ?_
                  refine lw_visit (rest := []) F w hd hM ho hR.r.ic (nI i) (fun s9 hs9 => hR.r.gn (by omega) hs9) hlf dL_law_2002 hl.1 ⟨by omega, by omega⟩ (Nat.le_of_ble_eq_true rfl) ⟨by omega, by omega⟩ (fun v2002 X AD H locs hv2002 ho hd hM w => ?_)
                  have hL := hY.un hd
                  refine lv_fold (y := nI (gnV M)) (hv2002.trans ((vs_ok hR (by omega) hi h50 c_3 c_6 (k := 1) (by decide) ((vs_kind hR hi).trans ((if_neg c_10).trans ((if_neg c_13).trans ((if_pos c_20).trans (if_neg c_22)))))).1)) ?_
                  refine lv_aload F.1 F.2.1 dL_law_2005 (lv_at hl 13 rfl) ?_
                  refine lv_iconst (v := 2) F.1 F.2.1 dL_law_2007 (by decide) ?_
                  refine l_ild F w hL 10 rfl 2 (show 2 < 9 by omega) dL_law_2008 ?_
                  refine lv_fold (y := S 10 2) ((up2_r (by decide)).trans ((up2_r (by decide)).trans ((up2_r (by decide)).trans ((up2_r (by decide)).trans (up2_r (by decide)))))) ?_
                  refine lv_fold (y := nI (gnV M)) (hR.g2.trans hR.nV) ?_
                  refine lv_icmp_ne (tgt := 2016) F.1 F.2.1 dL_law_2009 (by decide) (fun c_23 => absurd rfl c_23) (fun c_23 => ?_)
                  refine lv_iconst (v := 1) F.1 F.2.1 dL_law_2012 (by decide) ?_
                  refine lv_goto (tgt := 2017) F.1 F.2.1 dL_law_2013 (by decide) ?_
                  refine lv_istore (lv' := [(17, .int 1), (29, .int 1), (28, .int 0), (27, .int (f_X7_hasOff M i)), (0, .ref b), (1, .ref o), (2, .ref (ad 2)), (3, .ref (ad 3)), (4, .ref (ad 4)), (5, .ref (ad 5)), (6, .ref (ad 6)), (7, .ref (ad 7)), (8, .ref (ad 8)), (9, .ref (ad 9)), (10, .ref (ad 10)), (11, .int (nI t)), (12, .int v12), (13, .int u), (14, .int (nI i)), (15, .int (nI (14 * i))), (16, .int (nI v))]) F.1 F.2.1 dL_law_2017 hl (by decide) rfl (fun ls hl => ?_)
                  refine lv_aload F.1 F.2.1 dL_law_2019 (lv_at hl 14 rfl) ?_
                  refine lv_iconst (v := 2) F.1 F.2.1 dL_law_2021 (by decide) ?_
                  refine lv_dup2_11 F.1 F.2.1 dL_law_2022 rfl rfl ?_
                  refine l_ild F w hL 10 rfl 2 (show 2 < 9 by omega) dL_law_2023 ?_
                  refine lv_fold (y := S 10 2) ((up2_r (by decide)).trans ((up2_r (by decide)).trans ((up2_r (by decide)).trans ((up2_r (by decide)).trans (up2_r (by decide)))))) ?_
                  refine lv_iconst (v := 1) F.1 F.2.1 dL_law_2024 (by decide) ?_
                  refine lv_iadd F.1 F.2.1 dL_law_2025 ?_
                  refine l_ist F w hd hY 10 rfl 2 (show 2 < 9 by omega) dL_law_2026 (fun H locs Y hd hY w => ?_)
                  have hL := hY.un hd
                  refine lv_goto (tgt := 3461) F.1 F.2.1 dL_law_2027 (by decide) ?_
                  refine W.widen (k := c1) (n := s1) (by omega) (by omega) ?_
                  exact K _ _ ls ⟨X, Y, AD, _, _, _, _, ho, hd, hM, hY, w, R26.ups ((vs_ok hR (by omega) hi h50 c_3 c_6 (k := 1) (by decide) ((vs_kind hR hi).trans ((if_neg c_10).trans ((if_neg c_13).trans ((if_pos c_20).trans (if_neg c_22)))))).2) (by omega)⟩ (lv_sub hl [0, 4, 5, 6, 7, 8, 9, 10, 11, 12, 13, 14, 15, 17] rfl)
                · refine lv_iload F.1 F.2.1 dL_law_1906 (lv_at hl 16 rfl) ?_
                  refine lv_aload_n F.1 F.2.1 dL_law_1908 rfl (lv_at hl 5 rfl) ?_
                  refine lv_aload F.1 F.2.1 dL_law_1909 (lv_at hl 12 rfl) ?_
                  refine q_rS (rest := []) F w kS_L_130 hd_L_lapsed (c_L_lapsed l D cy A _ ad S Wf hL i (show i < 4 by omega) hR.cok) dL_law_1911 rfl rfl hl.1 ⟨rfl, rfl, (show 2 ≤ R.frames by omega), (show 51 ≤ R.locals by omega)⟩ (Nat.le_of_ble_eq_true rfl) ⟨by omega, by omega⟩ ?_
                  refine lv_if_le (tgt := 1921) F.1 F.2.1 dL_law_1914 (by decide) (fun c_24 => ?_) (fun c_24 => ?_)
                  · refine lv_iconst (v := 0) F.1 F.2.1 dL_law_1921 (by decide) ?_
                    refine lv_istore (lv' := [(29, .int 0), (28, .int 0), (27, .int (f_X7_hasOff M i)), (0, .ref b), (1, .ref o), (2, .ref (ad 2)), (3, .ref (ad 3)), (4, .ref (ad 4)), (5, .ref (ad 5)), (6, .ref (ad 6)), (7, .ref (ad 7)), (8, .ref (ad 8)), (9, .ref (ad 9)), (10, .ref (ad 10)), (11, .int (nI t)), (12, .int v12), (13, .int u), (14, .int (nI i)), (15, .int (nI (14 * i))), (16, .int (nI v)), (17, .int 1)]) F.1 F.2.1 dL_law_1922 hl (by decide) rfl (fun ls hl => ?_)
                    refine lv_aload F.1 F.2.1 dL_law_1924 (lv_at hl 8 rfl) ?_
                    refine lv_aload F.1 F.2.1 dL_law_1926 (lv_at hl 13 rfl) ?_
                    refine lv_iconst (v := 2) F.1 F.2.1 dL_law_1928 (by decide) ?_
                    refine l_ild F w hL 10 rfl 2 (show 2 < 9 by omega) dL_law_1929 ?_
                    refine lv_fold (y := nI (gnV M)) (hR.g2.trans hR.nV) ?_
                    refine lv_iload F.1 F.2.1 dL_law_1930 (lv_at hl 17 rfl) ?_
                    refine lv_aload_n F.1 F.2.1 dL_law_1932 rfl (lv_at hl 5 rfl) ?_
                    refine lv_iload F.1 F.2.1 dL_law_1933 (lv_at hl 18 rfl) ?_
                    refine lv_bipush (v := 6) F.1 F.2.1 dL_law_1935 (by decide) ?_
                    refine lv_iadd F.1 F.2.1 dL_law_1937 ?_
                    refine lv_fold (y := nI ((14 * i) + 6)) (nI_add (14 * i) 6) ?_
                    refine l_ild F w hL 2 rfl ((14 * i) + 6) (show (14 * i) + 6 < 56 by omega) dL_law_1938 ?_
                    refine lv_iconst (v := 2) F.1 F.2.1 dL_law_1939 (by decide) ?_
                    refine lv_ishl F.1 F.2.1 dL_law_1940 ?_
                    refine lv_ior F.1 F.2.1 dL_law_1941 ?_
                    refine lv_iload F.1 F.2.1 dL_law_1942 (lv_at hl 0 rfl) ?_
                    refine lv_iconst (v := 4) F.1 F.2.1 dL_law_1944 (by decide) ?_
                    refine lv_ishl F.1 F.2.1 dL_law_1945 ?_
                    refine lv_ior F.1 F.2.1 dL_law_1946 ?_
                    refine lv_aload_n F.1 F.2.1 dL_law_1947 rfl (lv_at hl 5 rfl) ?_
                    refine lv_iload F.1 F.2.1 dL_law_1948 (lv_at hl 18 rfl) ?_
                    refine lv_iconst (v := 3) F.1 F.2.1 dL_law_1950 (by decide) ?_
                    refine lv_iadd F.1 F.2.1 dL_law_1951 ?_
                    refine lv_fold (y := nI ((14 * i) + 3)) (nI_add (14 * i) 3) ?_
                    refine l_ild F w hL 2 rfl ((14 * i) + 3) (show (14 * i) + 3 < 56 by omega) dL_law_1952 ?_
                    refine lv_bipush (v := 6) F.1 F.2.1 dL_law_1953 (by decide) ?_
                    refine lv_ishl F.1 F.2.1 dL_law_1955 ?_
                    refine lv_ior F.1 F.2.1 dL_law_1956 ?_
                    refine l_ist F w hd hY 5 rfl (gnV M) (show gnV M < 50 by omega) dL_law_1957 (fun H locs Y hd hY w => ?_)
                    have hL := hY.un hd
                    refine lv_aload F.1 F.2.1 dL_law_1958 (lv_at hl 9 rfl) ?_
                    refine lv_aload F.1 F.2.1 dL_law_1960 (lv_at hl 13 rfl) ?_
                    refine lv_iconst (v := 2) F.1 F.2.1 dL_law_1962 (by decide) ?_
                    refine l_ild F w hL 10 rfl 2 (show 2 < 9 by omega) dL_law_1963 ?_
                    refine lv_fold (y := S 10 2) (up2_r (by decide)) ?_
                    refine lv_fold (y := nI (gnV M)) (hR.g2.trans hR.nV) ?_
                    refine lv_aload F.1 F.2.1 dL_law_1964 (lv_at hl 13 rfl) ?_
                    refine lv_iconst (v := 0) F.1 F.2.1 dL_law_1966 (by decide) ?_
                    refine l_ild F w hL 10 rfl 0 (show 0 < 9 by omega) dL_law_1967 ?_
                    refine lv_fold (y := S 10 0) (up2_r (by decide)) ?_
                    refine l_ist F w hd hY 6 rfl (gnV M) (show gnV M < 50 by omega) dL_law_1968 (fun H locs Y hd hY w => ?_)
                    have hL := hY.un hd
                    refine lv_aload F.1 F.2.1 dL_law_1969 (lv_at hl 10 rfl) ?_
                    refine lv_aload F.1 F.2.1 dL_law_1971 (lv_at hl 13 rfl) ?_
                    refine lv_iconst (v := 2) F.1 F.2.1 dL_law_1973 (by decide) ?_
                    refine l_ild F w hL 10 rfl 2 (show 2 < 9 by omega) dL_law_1974 ?_
                    refine lv_fold (y := S 10 2) ((up2_r (by decide)).trans (up2_r (by decide))) ?_
                    refine lv_fold (y := nI (gnV M)) (hR.g2.trans hR.nV) ?_
                    refine lv_iconst (v := -1) F.1 F.2.1 dL_law_1975 (by decide) ?_
                    refine l_ist F w hd hY 7 rfl (gnV M) (show gnV M < 50 by omega) dL_law_1976 (fun H locs Y hd hY w => ?_)
                    have hL := hY.un hd
                    refine lv_aload_n F.1 F.2.1 dL_law_1977 rfl (lv_at hl 5 rfl) ?_
                    refine lv_iload F.1 F.2.1 dL_law_1978 (lv_at hl 18 rfl) ?_
                    refine lv_bipush (v := 7) F.1 F.2.1 dL_law_1980 (by decide) ?_
                    refine lv_iadd F.1 F.2.1 dL_law_1982 ?_
                    refine lv_fold (y := nI ((14 * i) + 7)) (nI_add (14 * i) 7) ?_
                    refine lv_aload F.1 F.2.1 dL_law_1983 (lv_at hl 13 rfl) ?_
                    refine lv_iconst (v := 2) F.1 F.2.1 dL_law_1985 (by decide) ?_
                    refine l_ild F w hL 10 rfl 2 (show 2 < 9 by omega) dL_law_1986 ?_
                    refine lv_fold (y := S 10 2) ((up2_r (by decide)).trans ((up2_r (by decide)).trans (up2_r (by decide)))) ?_
                    refine lv_fold (y := nI (gnV M)) (hR.g2.trans hR.nV) ?_
                    refine l_ist F w hd hY 2 rfl ((14 * i) + 7) (show (14 * i) + 7 < 56 by omega) dL_law_1987 (fun H locs Y hd hY w => ?_)
                    have hL := hY.un hd
                    refine lv_aload_n F.1 F.2.1 dL_law_1988 rfl (lv_at hl 5 rfl) ?_
                    refine lv_iload F.1 F.2.1 dL_law_1989 (lv_at hl 18 rfl) ?_
                    refine lv_bipush (v := 8) F.1 F.2.1 dL_law_1991 (by decide) ?_
                    refine lv_iadd F.1 F.2.1 dL_law_1993 ?_
                    refine lv_fold (y := nI ((14 * i) + 8)) (nI_add (14 * i) 8) ?_
                    refine lv_aload F.1 F.2.1 dL_law_1994 (lv_at hl 13 rfl) ?_
                    refine lv_iconst (v := 2) F.1 F.2.1 dL_law_1996 (by decide) ?_
                    refine l_ild F w hL 10 rfl 2 (show 2 < 9 by omega) dL_law_1997 ?_
                    refine lv_fold (y := S 10 2) ((up2_r (by decide)).trans ((up2_r (by decide)).trans ((up2_r (by decide)).trans (up2_r (by decide))))) ?_
                    refine lv_fold (y := nI (gnV M)) (hR.g2.trans hR.nV) ?_
                    refine l_ist F w hd hY 2 rfl ((14 * i) + 8) (show (14 * i) + 8 < 56 by omega) dL_law_1998 (fun H locs Y hd hY w => ?_)
                    have hL := hY.un hd
                    refine lv_aload_n F.1 F.2.1 dL_law_1999 rfl (lv_at hl 4 rfl) ?_
                    refine lv_iload F.1 F.2.1 dL_law_2000 (lv_at hl 17 rfl) ?_
                    refine lw_visit (rest := []) F w hd hM ho hR.r.ic (nI i) (fun s9 hs9 => hR.r.gn (by omega) hs9) hlf dL_law_2002 hl.1 ⟨by omega, by omega⟩ (Nat.le_of_ble_eq_true rfl) ⟨by omega, by omega⟩ (fun v2002 X AD H locs hv2002 ho hd hM w => ?_)
                    have hL := hY.un hd
                    refine lv_fold (y := nI (gnV M)) (hv2002.trans ((vs_ok hR (by omega) hi h50 c_3 c_6 (k := 0) (by decide) ((vs_kind hR hi).trans ((if_neg c_10).trans ((if_neg c_13).trans ((if_pos c_20).trans ((if_pos c_22).trans (if_pos c_24))))))).1)) ?_
                    refine lv_aload F.1 F.2.1 dL_law_2005 (lv_at hl 13 rfl) ?_
                    refine lv_iconst (v := 2) F.1 F.2.1 dL_law_2007 (by decide) ?_
                    refine l_ild F w hL 10 rfl 2 (show 2 < 9 by omega) dL_law_2008 ?_
                    refine lv_fold (y := S 10 2) ((up2_r (by decide)).trans ((up2_r (by decide)).trans ((up2_r (by decide)).trans ((up2_r (by decide)).trans (up2_r (by decide)))))) ?_
                    refine lv_fold (y := nI (gnV M)) (hR.g2.trans hR.nV) ?_
                    refine lv_icmp_ne (tgt := 2016) F.1 F.2.1 dL_law_2009 (by decide) (fun c_25 => absurd rfl c_25) (fun c_25 => ?_)
                    refine lv_iconst (v := 1) F.1 F.2.1 dL_law_2012 (by decide) ?_
                    refine lv_goto (tgt := 2017) F.1 F.2.1 dL_law_2013 (by decide) ?_
                    refine lv_istore (lv' := [(17, .int 1), (29, .int 0), (28, .int 0), (27, .int (f_X7_hasOff M i)), (0, .ref b), (1, .ref o), (2, .ref (ad 2)), (3, .ref (ad 3)), (4, .ref (ad 4)), (5, .ref (ad 5)), (6, .ref (ad 6)), (7, .ref (ad 7)), (8, .ref (ad 8)), (9, .ref (ad 9)), (10, .ref (ad 10)), (11, .int (nI t)), (12, .int v12), (13, .int u), (14, .int (nI i)), (15, .int (nI (14 * i))), (16, .int (nI v))]) F.1 F.2.1 dL_law_2017 hl (by decide) rfl (fun ls hl => ?_)
                    refine lv_aload F.1 F.2.1 dL_law_2019 (lv_at hl 14 rfl) ?_
                    refine lv_iconst (v := 2) F.1 F.2.1 dL_law_2021 (by decide) ?_
                    refine lv_dup2_11 F.1 F.2.1 dL_law_2022 rfl rfl ?_
                    refine l_ild F w hL 10 rfl 2 (show 2 < 9 by omega) dL_law_2023 ?_
                    refine lv_fold (y := S 10 2) ((up2_r (by decide)).trans ((up2_r (by decide)).trans ((up2_r (by decide)).trans ((up2_r (by decide)).trans (up2_r (by decide)))))) ?_
                    refine lv_iconst (v := 1) F.1 F.2.1 dL_law_2024 (by decide) ?_
                    refine lv_iadd F.1 F.2.1 dL_law_2025 ?_
                    refine l_ist F w hd hY 10 rfl 2 (show 2 < 9 by omega) dL_law_2026 (fun H locs Y hd hY w => ?_)
                    have hL := hY.un hd
                    refine lv_goto (tgt := 3461) F.1 F.2.1 dL_law_2027 (by decide) ?_
                    refine W.widen (k := c1) (n := s1) (by omega) (by omega) ?_
                    exact K _ _ ls ⟨X, Y, AD, _, _, _, _, ho, hd, hM, hY, w, R26.ups ((vs_ok hR (by omega) hi h50 c_3 c_6 (k := 0) (by decide) ((vs_kind hR hi).trans ((if_neg c_10).trans ((if_neg c_13).trans ((if_pos c_20).trans ((if_pos c_22).trans (if_pos c_24))))))).2) (by omega)⟩ (lv_sub hl [0, 4, 5, 6, 7, 8, 9, 10, 11, 12, 13, 14, 15, 17] rfl)
                  · refine lv_iconst (v := 1) F.1 F.2.1 dL_law_1917 (by decide) ?_
                    refine lv_goto (tgt := 1922) F.1 F.2.1 dL_law_1918 (by decide) ?_
                    refine lv_istore (lv' := [(29, .int 1), (28, .int 0), (27, .int (f_X7_hasOff M i)), (0, .ref b), (1, .ref o), (2, .ref (ad 2)), (3, .ref (ad 3)), (4, .ref (ad 4)), (5, .ref (ad 5)), (6, .ref (ad 6)), (7, .ref (ad 7)), (8, .ref (ad 8)), (9, .ref (ad 9)), (10, .ref (ad 10)), (11, .int (nI t)), (12, .int v12), (13, .int u), (14, .int (nI i)), (15, .int (nI (14 * i))), (16, .int (nI v)), (17, .int 1)]) F.1 F.2.1 dL_law_1922 hl (by decide) rfl (fun ls hl => ?_)
                    refine lv_aload F.1 F.2.1 dL_law_1924 (lv_at hl 8 rfl) ?_
                    refine lv_aload F.1 F.2.1 dL_law_1926 (lv_at hl 13 rfl) ?_
                    refine lv_iconst (v := 2) F.1 F.2.1 dL_law_1928 (by decide) ?_
                    refine l_ild F w hL 10 rfl 2 (show 2 < 9 by omega) dL_law_1929 ?_
                    refine lv_fold (y := nI (gnV M)) (hR.g2.trans hR.nV) ?_
                    refine lv_iload F.1 F.2.1 dL_law_1930 (lv_at hl 17 rfl) ?_
                    refine lv_aload_n F.1 F.2.1 dL_law_1932 rfl (lv_at hl 5 rfl) ?_
                    refine lv_iload F.1 F.2.1 dL_law_1933 (lv_at hl 18 rfl) ?_
                    refine lv_bipush (v := 6) F.1 F.2.1 dL_law_1935 (by decide) ?_
                    refine lv_iadd F.1 F.2.1 dL_law_1937 ?_
                    refine lv_fold (y := nI ((14 * i) + 6)) (nI_add (14 * i) 6) ?_
                    refine l_ild F w hL 2 rfl ((14 * i) + 6) (show (14 * i) + 6 < 56 by omega) dL_law_1938 ?_
                    refine lv_iconst (v := 2) F.1 F.2.1 dL_law_1939 (by decide) ?_
                    refine lv_ishl F.1 F.2.1 dL_law_1940 ?_
                    refine lv_ior F.1 F.2.1 dL_law_1941 ?_
                    refine lv_iload F.1 F.2.1 dL_law_1942 (lv_at hl 0 rfl) ?_
                    refine lv_iconst (v := 4) F.1 F.2.1 dL_law_1944 (by decide) ?_
                    refine lv_ishl F.1 F.2.1 dL_law_1945 ?_
                    refine lv_ior F.1 F.2.1 dL_law_1946 ?_
                    refine lv_aload_n F.1 F.2.1 dL_law_1947 rfl (lv_at hl 5 rfl) ?_
                    refine lv_iload F.1 F.2.1 dL_law_1948 (lv_at hl 18 rfl) ?_
                    refine lv_iconst (v := 3) F.1 F.2.1 dL_law_1950 (by decide) ?_
                    refine lv_iadd F.1 F.2.1 dL_law_1951 ?_
                    refine lv_fold (y := nI ((14 * i) + 3)) (nI_add (14 * i) 3) ?_
                    refine l_ild F w hL 2 rfl ((14 * i) + 3) (show (14 * i) + 3 < 56 by omega) dL_law_1952 ?_
                    refine lv_bipush (v := 6) F.1 F.2.1 dL_law_1953 (by decide) ?_
                    refine lv_ishl F.1 F.2.1 dL_law_1955 ?_
                    refine lv_ior F.1 F.2.1 dL_law_1956 ?_
                    refine l_ist F w hd hY 5 rfl (gnV M) (show gnV M < 50 by omega) dL_law_1957 (fun H locs Y hd hY w => ?_)
                    have hL := hY.un hd
                    refine lv_aload F.1 F.2.1 dL_law_1958 (lv_at hl 9 rfl) ?_
                    refine lv_aload F.1 F.2.1 dL_law_1960 (lv_at hl 13 rfl) ?_
                    refine lv_iconst (v := 2) F.1 F.2.1 dL_law_1962 (by decide) ?_
                    refine l_ild F w hL 10 rfl 2 (show 2 < 9 by omega) dL_law_1963 ?_
                    refine lv_fold (y := S 10 2) (up2_r (by decide)) ?_
                    refine lv_fold (y := nI (gnV M)) (hR.g2.trans hR.nV) ?_
                    refine lv_aload F.1 F.2.1 dL_law_1964 (lv_at hl 13 rfl) ?_
                    refine lv_iconst (v := 0) F.1 F.2.1 dL_law_1966 (by decide) ?_
                    refine l_ild F w hL 10 rfl 0 (show 0 < 9 by omega) dL_law_1967 ?_
                    refine lv_fold (y := S 10 0) (up2_r (by decide)) ?_
                    refine l_ist F w hd hY 6 rfl (gnV M) (show gnV M < 50 by omega) dL_law_1968 (fun H locs Y hd hY w => ?_)
                    have hL := hY.un hd
                    refine lv_aload F.1 F.2.1 dL_law_1969 (lv_at hl 10 rfl) ?_
                    refine lv_aload F.1 F.2.1 dL_law_1971 (lv_at hl 13 rfl) ?_
                    refine lv_iconst (v := 2) F.1 F.2.1 dL_law_1973 (by decide) ?_
                    refine l_ild F w hL 10 rfl 2 (show 2 < 9 by omega) dL_law_1974 ?_
                    refine lv_fold (y := S 10 2) ((up2_r (by decide)).trans (up2_r (by decide))) ?_
                    refine lv_fold (y := nI (gnV M)) (hR.g2.trans hR.nV) ?_
                    refine lv_iconst (v := -1) F.1 F.2.1 dL_law_1975 (by decide) ?_
                    refine l_ist F w hd hY 7 rfl (gnV M) (show gnV M < 50 by omega) dL_law_1976 (fun H locs Y hd hY w => ?_)
                    have hL := hY.un hd
                    refine lv_aload_n F.1 F.2.1 dL_law_1977 rfl (lv_at hl 5 rfl) ?_
                    refine lv_iload F.1 F.2.1 dL_law_1978 (lv_at hl 18 rfl) ?_
                    refine lv_bipush (v := 7) F.1 F.2.1 dL_law_1980 (by decide) ?_
                    refine lv_iadd F.1 F.2.1 dL_law_1982 ?_
                    refine lv_fold (y := nI ((14 * i) + 7)) (nI_add (14 * i) 7) ?_
                    refine lv_aload F.1 F.2.1 dL_law_1983 (lv_at hl 13 rfl) ?_
                    refine lv_iconst (v := 2) F.1 F.2.1 dL_law_1985 (by decide) ?_
                    refine l_ild F w hL 10 rfl 2 (show 2 < 9 by omega) dL_law_1986 ?_
                    refine lv_fold (y := S 10 2) ((up2_r (by decide)).trans ((up2_r (by decide)).trans (up2_r (by decide)))) ?_
                    refine lv_fold (y := nI (gnV M)) (hR.g2.trans hR.nV) ?_
                    refine l_ist F w hd hY 2 rfl ((14 * i) + 7) (show (14 * i) + 7 < 56 by omega) dL_law_1987 (fun H locs Y hd hY w => ?_)
                    have hL := hY.un hd
                    refine lv_aload_n F.1 F.2.1 dL_law_1988 rfl (lv_at hl 5 rfl) ?_
                    refine lv_iload F.1 F.2.1 dL_law_1989 (lv_at hl 18 rfl) ?_
                    refine lv_bipush (v := 8) F.1 F.2.1 dL_law_1991 (by decide) ?_
                    refine lv_iadd F.1 F.2.1 dL_law_1993 ?_
                    refine lv_fold (y := nI ((14 * i) + 8)) (nI_add (14 * i) 8) ?_
                    refine lv_aload F.1 F.2.1 dL_law_1994 (lv_at hl 13 rfl) ?_
                    refine lv_iconst (v := 2) F.1 F.2.1 dL_law_1996 (by decide) ?_
                    refine l_ild F w hL 10 rfl 2 (show 2 < 9 by omega) dL_law_1997 ?_
                    refine lv_fold (y := S 10 2) ((up2_r (by decide)).trans ((up2_r (by decide)).trans ((up2_r (by decide)).trans (up2_r (by decide))))) ?_
                    refine lv_fold (y := nI (gnV M)) (hR.g2.trans hR.nV) ?_
                    refine l_ist F w hd hY 2 rfl ((14 * i) + 8) (show (14 * i) + 8 < 56 by omega) dL_law_1998 (fun H locs Y hd hY w => ?_)
                    have hL := hY.un hd
                    refine lv_aload_n F.1 F.2.1 dL_law_1999 rfl (lv_at hl 4 rfl) ?_
                    refine lv_iload F.1 F.2.1 dL_law_2000 (lv_at hl 17 rfl) ?_
                    refine lw_visit (rest := []) F w hd hM ho hR.r.ic (nI i) (fun s9 hs9 => hR.r.gn (by omega) hs9) hlf dL_law_2002 hl.1 ⟨by omega, by omega⟩ (Nat.le_of_ble_eq_true rfl) ⟨by omega, by omega⟩ (fun v2002 X AD H locs hv2002 ho hd hM w => ?_)
                    have hL := hY.un hd
                    refine lv_fold (y := nI (gnV M)) (hv2002.trans ((vs_ok hR (by omega) hi h50 c_3 c_6 (k := 1) (by decide) ((vs_kind hR hi).trans ((if_neg c_10).trans ((if_neg c_13).trans ((if_pos c_20).trans ((if_pos c_22).trans (if_neg c_24))))))).1)) ?_
                    refine lv_aload F.1 F.2.1 dL_law_2005 (lv_at hl 13 rfl) ?_
                    refine lv_iconst (v := 2) F.1 F.2.1 dL_law_2007 (by decide) ?_
                    refine l_ild F w hL 10 rfl 2 (show 2 < 9 by omega) dL_law_2008 ?_
                    refine lv_fold (y := S 10 2) ((up2_r (by decide)).trans ((up2_r (by decide)).trans ((up2_r (by decide)).trans ((up2_r (by decide)).trans (up2_r (by decide)))))) ?_
                    refine lv_fold (y := nI (gnV M)) (hR.g2.trans hR.nV) ?_
                    refine lv_icmp_ne (tgt := 2016) F.1 F.2.1 dL_law_2009 (by decide) (fun c_26 => absurd rfl c_26) (fun c_26 => ?_)
                    refine lv_iconst (v := 1) F.1 F.2.1 dL_law_2012 (by decide) ?_
                    refine lv_goto (tgt := 2017) F.1 F.2.1 dL_law_2013 (by decide) ?_
                    refine lv_istore (lv' := [(17, .int 1), (29, .int 1), (28, .int 0), (27, .int (f_X7_hasOff M i)), (0, .ref b), (1, .ref o), (2, .ref (ad 2)), (3, .ref (ad 3)), (4, .ref (ad 4)), (5, .ref (ad 5)), (6, .ref (ad 6)), (7, .ref (ad 7)), (8, .ref (ad 8)), (9, .ref (ad 9)), (10, .ref (ad 10)), (11, .int (nI t)), (12, .int v12), (13, .int u), (14, .int (nI i)), (15, .int (nI (14 * i))), (16, .int (nI v))]) F.1 F.2.1 dL_law_2017 hl (by decide) rfl (fun ls hl => ?_)
                    refine lv_aload F.1 F.2.1 dL_law_2019 (lv_at hl 14 rfl) ?_
                    refine lv_iconst (v := 2) F.1 F.2.1 dL_law_2021 (by decide) ?_
                    refine lv_dup2_11 F.1 F.2.1 dL_law_2022 rfl rfl ?_
                    refine l_ild F w hL 10 rfl 2 (show 2 < 9 by omega) dL_law_2023 ?_
                    refine lv_fold (y := S 10 2) ((up2_r (by decide)).trans ((up2_r (by decide)).trans ((up2_r (by decide)).trans ((up2_r (by decide)).trans (up2_r (by decide)))))) ?_
                    refine lv_iconst (v := 1) F.1 F.2.1 dL_law_2024 (by decide) ?_
                    refine lv_iadd F.1 F.2.1 dL_law_2025 ?_
                    refine l_ist F w hd hY 10 rfl 2 (show 2 < 9 by omega) dL_law_2026 (fun H locs Y hd hY w => ?_)
                    have hL := hY.un hd
                    refine lv_goto (tgt := 3461) F.1 F.2.1 dL_law_2027 (by decide) ?_
                    refine W.widen (k := c1) (n := s1) (by omega) (by omega) ?_
                    exact K _ _ ls ⟨X, Y, AD, _, _, _, _, ho, hd, hM, hY, w, R26.ups ((vs_ok hR (by omega) hi h50 c_3 c_6 (k := 1) (by decide) ((vs_kind hR hi).trans ((if_neg c_10).trans ((if_neg c_13).trans ((if_pos c_20).trans ((if_pos c_22).trans (if_neg c_24))))))).2) (by omega)⟩ (lv_sub hl [0, 4, 5, 6, 7, 8, 9, 10, 11, 12, 13, 14, 15, 17] rfl)
              · refine lv_iconst (v := 1) F.1 F.2.1 dL_law_1885 (by decide) ?_
                refine lv_goto (tgt := 1890) F.1 F.2.1 dL_law_1886 (by decide) ?_
                refine lv_istore (lv' := [(28, .int 1), (27, .int (f_X7_hasOff M i)), (0, .ref b), (1, .ref o), (2, .ref (ad 2)), (3, .ref (ad 3)), (4, .ref (ad 4)), (5, .ref (ad 5)), (6, .ref (ad 6)), (7, .ref (ad 7)), (8, .ref (ad 8)), (9, .ref (ad 9)), (10, .ref (ad 10)), (11, .int (nI t)), (12, .int v12), (13, .int u), (14, .int (nI i)), (15, .int (nI (14 * i))), (16, .int (nI v)), (17, .int 1)]) F.1 F.2.1 dL_law_1890 hl (by decide) rfl (fun ls hl => ?_)
                refine lv_iload F.1 F.2.1 dL_law_1892 (lv_at hl 0 rfl) ?_
                refine lv_if_eq (tgt := 1901) F.1 F.2.1 dL_law_1894 (by decide) (fun c_27 => absurd c_27 (by decide)) (fun c_27 => ?_)
                refine lv_iconst (v := 2) F.1 F.2.1 dL_law_1897 (by decide) ?_
                refine lv_goto (tgt := 1922) F.1 F.2.1 dL_law_1898 (by decide) ?_
                refine lv_istore (lv' := [(29, .int 2), (28, .int 1), (27, .int (f_X7_hasOff M i)), (0, .ref b), (1, .ref o), (2, .ref (ad 2)), (3, .ref (ad 3)), (4, .ref (ad 4)), (5, .ref (ad 5)), (6, .ref (ad 6)), (7, .ref (ad 7)), (8, .ref (ad 8)), (9, .ref (ad 9)), (10, .ref (ad 10)), (11, .int (nI t)), (12, .int v12), (13, .int u), (14, .int (nI i)), (15, .int (nI (14 * i))), (16, .int (nI v)), (17, .int 1)]) F.1 F.2.1 dL_law_1922 hl (by decide) rfl (fun ls hl => ?_)
                refine lv_aload F.1 F.2.1 dL_law_1924 (lv_at hl 8 rfl) ?_
                refine lv_aload F.1 F.2.1 dL_law_1926 (lv_at hl 13 rfl) ?_
                refine lv_iconst (v := 2) F.1 F.2.1 dL_law_1928 (by decide) ?_
                refine l_ild F w hL 10 rfl 2 (show 2 < 9 by omega) dL_law_1929 ?_
                refine lv_fold (y := nI (gnV M)) (hR.g2.trans hR.nV) ?_
                refine lv_iload F.1 F.2.1 dL_law_1930 (lv_at hl 17 rfl) ?_
                refine lv_aload_n F.1 F.2.1 dL_law_1932 rfl (lv_at hl 5 rfl) ?_
                refine lv_iload F.1 F.2.1 dL_law_1933 (lv_at hl 18 rfl) ?_
                refine lv_bipush (v := 6) F.1 F.2.1 dL_law_1935 (by decide) ?_
                refine lv_iadd F.1 F.2.1 dL_law_1937 ?_
                refine lv_fold (y := nI ((14 * i) + 6)) (nI_add (14 * i) 6) ?_
                refine l_ild F w hL 2 rfl ((14 * i) + 6) (show (14 * i) + 6 < 56 by omega) dL_law_1938 ?_
                refine lv_iconst (v := 2) F.1 F.2.1 dL_law_1939 (by decide) ?_
                refine lv_ishl F.1 F.2.1 dL_law_1940 ?_
                refine lv_ior F.1 F.2.1 dL_law_1941 ?_
                refine lv_iload F.1 F.2.1 dL_law_1942 (lv_at hl 0 rfl) ?_
                refine lv_iconst (v := 4) F.1 F.2.1 dL_law_1944 (by decide) ?_
                refine lv_ishl F.1 F.2.1 dL_law_1945 ?_
                refine lv_ior F.1 F.2.1 dL_law_1946 ?_
                refine lv_aload_n F.1 F.2.1 dL_law_1947 rfl (lv_at hl 5 rfl) ?_
                refine lv_iload F.1 F.2.1 dL_law_1948 (lv_at hl 18 rfl) ?_
                refine lv_iconst (v := 3) F.1 F.2.1 dL_law_1950 (by decide) ?_
                refine lv_iadd F.1 F.2.1 dL_law_1951 ?_
                refine lv_fold (y := nI ((14 * i) + 3)) (nI_add (14 * i) 3) ?_
                refine l_ild F w hL 2 rfl ((14 * i) + 3) (show (14 * i) + 3 < 56 by omega) dL_law_1952 ?_
                refine lv_bipush (v := 6) F.1 F.2.1 dL_law_1953 (by decide) ?_
                refine lv_ishl F.1 F.2.1 dL_law_1955 ?_
                refine lv_ior F.1 F.2.1 dL_law_1956 ?_
                refine l_ist F w hd hY 5 rfl (gnV M) (show gnV M < 50 by omega) dL_law_1957 (fun H locs Y hd hY w => ?_)
                have hL := hY.un hd
                refine lv_aload F.1 F.2.1 dL_law_1958 (lv_at hl 9 rfl) ?_
                refine lv_aload F.1 F.2.1 dL_law_1960 (lv_at hl 13 rfl) ?_
                refine lv_iconst (v := 2) F.1 F.2.1 dL_law_1962 (by decide) ?_
                refine l_ild F w hL 10 rfl 2 (show 2 < 9 by omega) dL_law_1963 ?_
                refine lv_fold (y := S 10 2) (up2_r (by decide)) ?_
                refine lv_fold (y := nI (gnV M)) (hR.g2.trans hR.nV) ?_
                refine lv_aload F.1 F.2.1 dL_law_1964 (lv_at hl 13 rfl) ?_
                refine lv_iconst (v := 0) F.1 F.2.1 dL_law_1966 (by decide) ?_
                refine l_ild F w hL 10 rfl 0 (show 0 < 9 by omega) dL_law_1967 ?_
                refine lv_fold (y := S 10 0) (up2_r (by decide)) ?_
                refine l_ist F w hd hY 6 rfl (gnV M) (show gnV M < 50 by omega) dL_law_1968 (fun H locs Y hd hY w => ?_)
                have hL := hY.un hd
                refine lv_aload F.1 F.2.1 dL_law_1969 (lv_at hl 10 rfl) ?_
                refine lv_aload F.1 F.2.1 dL_law_1971 (lv_at hl 13 rfl) ?_
                refine lv_iconst (v := 2) F.1 F.2.1 dL_law_1973 (by decide) ?_
                refine l_ild F w hL 10 rfl 2 (show 2 < 9 by omega) dL_law_1974 ?_
                refine lv_fold (y := S 10 2) ((up2_r (by decide)).trans (up2_r (by decide))) ?_
                refine lv_fold (y := nI (gnV M)) (hR.g2.trans hR.nV) ?_
                refine lv_iconst (v := -1) F.1 F.2.1 dL_law_1975 (by decide) ?_
                refine l_ist F w hd hY 7 rfl (gnV M) (show gnV M < 50 by omega) dL_law_1976 (fun H locs Y hd hY w => ?_)
                have hL := hY.un hd
                refine lv_aload_n F.1 F.2.1 dL_law_1977 rfl (lv_at hl 5 rfl) ?_
                refine lv_iload F.1 F.2.1 dL_law_1978 (lv_at hl 18 rfl) ?_
                refine lv_bipush (v := 7) F.1 F.2.1 dL_law_1980 (by decide) ?_
                refine lv_iadd F.1 F.2.1 dL_law_1982 ?_
                refine lv_fold (y := nI ((14 * i) + 7)) (nI_add (14 * i) 7) ?_
                refine lv_aload F.1 F.2.1 dL_law_1983 (lv_at hl 13 rfl) ?_
                refine lv_iconst (v := 2) F.1 F.2.1 dL_law_1985 (by decide) ?_
                refine l_ild F w hL 10 rfl 2 (show 2 < 9 by omega) dL_law_1986 ?_
                refine lv_fold (y := S 10 2) ((up2_r (by decide)).trans ((up2_r (by decide)).trans (up2_r (by decide)))) ?_
                refine lv_fold (y := nI (gnV M)) (hR.g2.trans hR.nV) ?_
                refine l_ist F w hd hY 2 rfl ((14 * i) + 7) (show (14 * i) + 7 < 56 by omega) dL_law_1987 (fun H locs Y hd hY w => ?_)
                have hL := hY.un hd
                refine lv_aload_n F.1 F.2.1 dL_law_1988 rfl (lv_at hl 5 rfl) ?_
                refine lv_iload F.1 F.2.1 dL_law_1989 (lv_at hl 18 rfl) ?_
                refine lv_bipush (v := 8) F.1 F.2.1 dL_law_1991 (by decide) ?_
                refine lv_iadd F.1 F.2.1 dL_law_1993 ?_
                refine lv_fold (y := nI ((14 * i) + 8)) (nI_add (14 * i) 8) ?_
                refine lv_aload F.1 F.2.1 dL_law_1994 (lv_at hl 13 rfl) ?_
                refine lv_iconst (v := 2) F.1 F.2.1 dL_law_1996 (by decide) ?_
                refine l_ild F w hL 10 rfl 2 (show 2 < 9 by omega) dL_law_1997 ?_
                refine lv_fold (y := S 10 2) ((up2_r (by decide)).trans ((up2_r (by decide)).trans ((up2_r (by decide)).trans (up2_r (by decide))))) ?_
                refine lv_fold (y := nI (gnV M)) (hR.g2.trans hR.nV) ?_
                refine l_ist F w hd hY 2 rfl ((14 * i) + 8) (show (14 * i) + 8 < 56 by omega) dL_law_1998 (fun H locs Y hd hY w => ?_)
                have hL := hY.un hd
                refine lv_aload_n F.1 F.2.1 dL_law_1999 rfl (lv_at hl 4 rfl) ?_
                refine lv_iload F.1 F.2.1 dL_law_2000 (lv_at hl 17 rfl) ?_
                refine lw_visit (rest := []) F w hd hM ho hR.r.ic (nI i) (fun s9 hs9 => hR.r.gn (by omega) hs9) hlf dL_law_2002 hl.1 ⟨by omega, by omega⟩ (Nat.le_of_ble_eq_true rfl) ⟨by omega, by omega⟩ (fun v2002 X AD H locs hv2002 ho hd hM w => ?_)
                have hL := hY.un hd
                refine lv_fold (y := nI (gnV M)) (hv2002.trans ((vs_ok hR (by omega) hi h50 c_3 c_6 (k := 2) (by decide) ((vs_kind hR hi).trans ((if_neg c_10).trans ((if_neg c_13).trans (if_neg c_20))))).1)) ?_
                refine lv_aload F.1 F.2.1 dL_law_2005 (lv_at hl 13 rfl) ?_
                refine lv_iconst (v := 2) F.1 F.2.1 dL_law_2007 (by decide) ?_
                refine l_ild F w hL 10 rfl 2 (show 2 < 9 by omega) dL_law_2008 ?_
                refine lv_fold (y := S 10 2) ((up2_r (by decide)).trans ((up2_r (by decide)).trans ((up2_r (by decide)).trans ((up2_r (by decide)).trans (up2_r (by decide)))))) ?_
                refine lv_fold (y := nI (gnV M)) (hR.g2.trans hR.nV) ?_
                refine lv_icmp_ne (tgt := 2016) F.1 F.2.1 dL_law_2009 (by decide) (fun c_28 => absurd rfl c_28) (fun c_28 => ?_)
                refine lv_iconst (v := 1) F.1 F.2.1 dL_law_2012 (by decide) ?_
                refine lv_goto (tgt := 2017) F.1 F.2.1 dL_law_2013 (by decide) ?_
                refine lv_istore (lv' := [(17, .int 1), (29, .int 2), (28, .int 1), (27, .int (f_X7_hasOff M i)), (0, .ref b), (1, .ref o), (2, .ref (ad 2)), (3, .ref (ad 3)), (4, .ref (ad 4)), (5, .ref (ad 5)), (6, .ref (ad 6)), (7, .ref (ad 7)), (8, .ref (ad 8)), (9, .ref (ad 9)), (10, .ref (ad 10)), (11, .int (nI t)), (12, .int v12), (13, .int u), (14, .int (nI i)), (15, .int (nI (14 * i))), (16, .int (nI v))]) F.1 F.2.1 dL_law_2017 hl (by decide) rfl (fun ls hl => ?_)
                refine lv_aload F.1 F.2.1 dL_law_2019 (lv_at hl 14 rfl) ?_
                refine lv_iconst (v := 2) F.1 F.2.1 dL_law_2021 (by decide) ?_
                refine lv_dup2_11 F.1 F.2.1 dL_law_2022 rfl rfl ?_
                refine l_ild F w hL 10 rfl 2 (show 2 < 9 by omega) dL_law_2023 ?_
                refine lv_fold (y := S 10 2) ((up2_r (by decide)).trans ((up2_r (by decide)).trans ((up2_r (by decide)).trans ((up2_r (by decide)).trans (up2_r (by decide)))))) ?_
                refine lv_iconst (v := 1) F.1 F.2.1 dL_law_2024 (by decide) ?_
                refine lv_iadd F.1 F.2.1 dL_law_2025 ?_
                refine l_ist F w hd hY 10 rfl 2 (show 2 < 9 by omega) dL_law_2026 (fun H locs Y hd hY w => ?_)
                have hL := hY.un hd
                refine lv_goto (tgt := 3461) F.1 F.2.1 dL_law_2027 (by decide) ?_
                refine W.widen (k := c1) (n := s1) (by omega) (by omega) ?_
                exact K _ _ ls ⟨X, Y, AD, _, _, _, _, ho, hd, hM, hY, w, R26.ups ((vs_ok hR (by omega) hi h50 c_3 c_6 (k := 2) (by decide) ((vs_kind hR hi).trans ((if_neg c_10).trans ((if_neg c_13).trans (if_neg c_20))))).2) (by omega)⟩ (lv_sub hl [0, 4, 5, 6, 7, 8, 9, 10, 11, 12, 13, 14, 15, 17] rfl)
    · refine lv_goto (tgt := 3461) F.1 F.2.1 dL_law_1703 (by decide) ?_
      refine W.widen (k := c1) (n := s1) (by omega) (by omega) ?_
      exact K _ _ ls ⟨X, Y, AD, _, _, _, _, ho, hd, hM, hY, w, R26.ups hR (by omega)⟩ (lv_sub hl [17, 0, 1, 2, 3, 4, 5, 6, 7, 8, 9, 10, 11, 13] rfl)
