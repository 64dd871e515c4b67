def lK (k : Nat) : Bool := k == 2 || k == 3 || k == 4 || k == 5 || k == 6 || k == 7 || k == 8 || k == 10
def lLen (k : Nat) : Nat := match k with
  | 2 => 56
  | 3 => 60
  | 10 => 9
  | _ => 50
theorem lLen_lt (k : Nat) : lLen k < 2 ^ 31 := by unfold lLen; split <;> decide
/-- the law's rows: ad k the address of the row in its local k, S k its numbers, Wf those of the one of longs -/
def RepL (cy : Nat → ClassId) (ad : Nat → Nat) (S : GS) (Wf : Nat → Int64) (μ : MU) : Prop := (∀ k, lK k = true → μ (ad k) = some (.inl (cy 0, lLen k, .inl (S k)))) ∧ μ (ad 9) = some (.inl (cy 4, 50, .inr (.inl Wf))) ∧ ∀ j k, (lK j = true ∨ j = 9) → (lK k = true ∨ k = 9) → ad j = ad k → j = k
def gv (S : GS) : Nat := (S 10 2).toNatClampNeg
def gr (S : GS) : Nat := (S 10 1).toNatClampNeg
def cT (S : GS) (k : Nat) : Nat := (S 3 (3 * k + 1)).toNatClampNeg
def cD (S : GS) (k : Nat) : Nat := (S 3 (3 * k)).toNatClampNeg
def cOK (S : GS) (k : Nat) : Prop := S 3 (3 * k) = nI (cD S k) ∧ cD S k ≤ 9000 ∧ S 3 (3 * k + 1) = nI (cT S k) ∧ 1 ≤ cT S k ∧ cT S k ≤ 1825
/-- the least number whose square is above m, if it is at most f -/
def rt (m : Nat) : Nat → Nat
  | 0 => 0
  | f + 1 => if rt m f * rt m f ≤ m then rt m f + 1 else rt m f
theorem rt_le (m : Nat) : ∀ f, rt m f ≤ f
  | 0 => Nat.le_refl _
  | f + 1 => by
    have := rt_le m f
    unfold rt
    split <;> omega
theorem rt_lo (m : Nat) : ∀ f j, j < rt m f → j * j ≤ m
  | 0, j, h => absurd h (Nat.not_lt_zero j)
  | f + 1, j, h => by
    unfold rt at h
    split at h
    · rename_i c
      rcases Nat.lt_or_ge j (rt m f) with q | q
      · exact rt_lo m f j q
      · have e : j = rt m f := by omega
        rw [e]; exact c
    · exact rt_lo m f j h
theorem rt_hi (m : Nat) : ∀ f, rt m f < f → m < rt m f * rt m f
  | 0, h => absurd h (Nat.not_lt_zero _)
  | f + 1, h => by
    unfold rt at h ⊢
    split
    · rename_i c
      rw [if_pos c] at h
      have := rt_hi m f (by omega)
      omega
    · rename_i c
      omega
theorem rt_ex (m : Nat) : ∃ r, r ≤ 300 ∧ (∀ j, j < r → j * j ≤ m) ∧ (r < 300 → m < r * r) := ⟨rt m 300, rt_le m 300, rt_lo m 300, rt_hi m 300⟩
/-- the root that the law counts up to -/
noncomputable def rtq (m : Nat) : Nat := Classical.choose (rt_ex m)
theorem rq_le (m : Nat) : rtq m ≤ 300 := (Classical.choose_spec (rt_ex m)).1
theorem rq_lo (m j : Nat) (h : j < rtq m) : j * j ≤ m := (Classical.choose_spec (rt_ex m)).2.1 j h
theorem rq_hi (m : Nat) (h : rtq m < 300) : m < rtq m * rtq m := (Classical.choose_spec (rt_ex m)).2.2 h
theorem rt_bd {m : Nat} (hm : m ≤ 88100) : rtq m < 300 := by
  have h1 := rq_le m
  rcases Nat.lt_or_ge (rtq m) 300 with q | q
  · exact q
  · have := rq_lo m 299 (by omega)
    omega
theorem rt_e {m k : Nat} (hm : m ≤ 88100) (hk : k ≤ rtq m) (h : nI m < nI (k * k)) : k = rtq m := by
  have b := rt_bd hm
  have h1 : k * k ≤ 300 * 300 := Nat.mul_le_mul (by omega) (by omega)
  have h2 := (nI_ltI (by omega) (by omega)).mp h
  rcases Nat.lt_or_ge k (rtq m) with q | q
  · have := rq_lo m k q
    omega
  · omega
theorem rt_g {m k : Nat} (hm : m ≤ 88100) (hk : k ≤ rtq m) (h : ¬ nI m < nI (k * k)) : k < rtq m := by
  have b := rt_bd hm
  have h1 : k * k ≤ 300 * 300 := Nat.mul_le_mul (by omega) (by omega)
  have h2 : ¬ m < k * k := fun q => h ((nI_ltI (by omega) (by omega)).mpr q)
  rcases Nat.lt_or_ge k (rtq m) with q | q
  · exact q
  · have e : k = rtq m := by omega
    have := rq_hi m b
    rw [← e] at this
    omega
theorem GD_lt {n k : Nat} (hn : n ≤ 50) (hk : k ≤ n) (h : ¬ nI (n - k) - 1 < 0) : k < n := by
  rcases Nat.lt_or_ge k n with q | q
  · exact q
  · have e : n - k = 0 := by omega
    rw [e] at h
    exact absurd (by decide) h
theorem GD_le {n k : Nat} (hn : n ≤ 50) (hk : k ≤ n) (h : nI (n - k) - 1 < 0) : k = n := by
  rcases Nat.lt_or_ge k n with q | q
  · rw [show (1 : Int32) = nI 1 from rfl, pk_sub (by omega)] at h
    exact absurd h (nI_pos (by omega))
  · omega
theorem dn1 (n k : Nat) : nI (n - k - 1) + (-1) = nI (n - (k + 1)) - 1 := by
  rw [Nat.sub_sub]
  exact (Int32.sub_eq_add_neg ..).symm
theorem GE_lt {S : GS} {k j : Nat} (hc : cOK S k) (h : ¬ S 3 (3 * k) + S 3 (3 * k + 1) ≤ S 3 (3 * k) + nI (365 * (j + 1))) (hj : j ≤ (cT S k - 1) / 365) : j < (cT S k - 1) / 365 := by
  obtain ⟨h1, h2, h3, h4, h5⟩ := hc
  rw [h1, h3, nI_add, nI_add] at h
  have : ¬ cD S k + cT S k ≤ cD S k + 365 * (j + 1) := fun q => h ((nI_leI (by omega) (by omega)).mpr q)
  omega
theorem GE_le {S : GS} {k j : Nat} (hc : cOK S k) (h : S 3 (3 * k) + S 3 (3 * k + 1) ≤ S 3 (3 * k) + nI (365 * (j + 1))) (hj : j ≤ (cT S k - 1) / 365) : j = (cT S k - 1) / 365 := by
  obtain ⟨h1, h2, h3, h4, h5⟩ := hc
  rw [h1, h3, nI_add, nI_add] at h
  have := (nI_leI (by omega) (by omega)).mp h
  omega
section LR
variable {p : Program} {l : Launch} {e : Env} {R : Room} {s : State} {m : MethodId} {args : Array Value} {below : List Frame} {meth : Method} {c : Code} {H : Heap} {locs : List Loc} {cells slots : Nat} {Q : State → Prop}
variable {cc : ByteArray} {nL pc : Nat} {ls : Array Slot} {rest st0 : List Value} {D : va_G} {cy : Nat → ClassId} {A : Nat → Prop} {μ : MU} {own : String} {ad : Nat → Nat} {S : GS} {Wf : Nat → Int64}
theorem l_ild (F : CallFix p m c cc nL s args BIG own) (w : WW D cy A μ s H locs) (hL : RepL cy ad S Wf μ) (k : Nat) (hk : lK k = true) (r : Nat) (hr : r < lLen k) (hdg : decode cc pc = .ok (.iaload, 1))
    (kk : W p l e R s m args below meth c H locs cells slots Q (F0 m (pc + 1) ls (.int (S k r) :: rest))) : W p l e R s m args below meth c H locs cells slots Q (F0 m pc ls (.int (nI r) :: .ref (ad k) :: rest)) := by
  refine q_iald F w (hL.1 k hk) (vp_in_nI hr (lLen_lt k)) hdg ?_
  rw [nI_clamp (Nat.lt_trans hr (lLen_lt k))]
  exact kk
theorem l_ildx (F : CallFix p m c cc nL s args BIG own) (w : WW D cy A μ s H locs) (hL : RepL cy ad S Wf μ) (k : Nat) (hk : lK k = true) {x : Int32} (hr : vp_in x (lLen k)) (hdg : decode cc pc = .ok (.iaload, 1))
    (kk : W p l e R s m args below meth c H locs cells slots Q (F0 m (pc + 1) ls (.int (S k x.toNatClampNeg) :: rest))) : W p l e R s m args below meth c H locs cells slots Q (F0 m pc ls (.int x :: .ref (ad k) :: rest)) :=
  q_iald F w (hL.1 k hk) hr hdg kk
theorem l_lld (F : CallFix p m c cc nL s args BIG own) (w : WW D cy A μ s H locs) (hL : RepL cy ad S Wf μ) (r : Nat) (hr : r < 50) (hdg : decode cc pc = .ok (.laload, 1))
    (kk : W p l e R s m args below meth c H locs cells slots Q (F0 m (pc + 1) ls (.long (Wf r) :: rest))) : W p l e R s m args below meth c H locs cells slots Q (F0 m pc ls (.int (nI r) :: .ref (ad 9) :: rest)) := by
  refine q_lald F w hL.2.1 (vp_in_nI hr (by decide)) hdg ?_
  rw [nI_clamp (by omega)]
  exact kk
end LR
theorem wKl_L_122 : Cond.constantLong RL 122 (15) ∈ BIG := BIG_t 834 (by decide +kernel) (by decide +kernel)
theorem wKl_L_187 : Cond.constantLong RL 187 (7) ∈ BIG := BIG_t 907 (by decide +kernel) (by decide +kernel)
