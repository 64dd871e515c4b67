theorem isx_get {x : Int32} {n : Nat} (hn : n < 2 ^ 31) (h : ¬ f_X6_isIndex x (nI n) = 0) : x.toNatClampNeg < n ∧ x = nI x.toNatClampNeg := by
  unfold f_X6_isIndex at h
  split at h
  · exact absurd rfl h
  · split at h
    · exact absurd rfl h
    · rename_i h1 h2
      have a1 : (0 : Int32).toInt ≤ x.toInt := Int32.le_iff_toInt_le.mp (Int32.not_lt.mp h1)
      have a2 : x.toInt < (nI n).toInt := Int32.lt_iff_toInt_lt.mp (Int32.not_le.mp h2)
      rw [nI_toInt hn] at a2
      have a3 : (0 : Int32).toInt = 0 := by decide
      rw [a3] at a1
      have a4 : x.toNatClampNeg = x.toInt.toNat := rfl
      refine ⟨by omega, Int32.toInt_inj.mp ?_⟩
      rw [nI_toInt (by omega)]
      omega
theorem xin_get {x : Int32} {n : Nat} (hn : n < 2 ^ 31) (h0 : 1 ≤ n) (h : ¬ f_X7_in x 0 (nI n - 1) = 0) : x.toNatClampNeg < n ∧ x = nI x.toNatClampNeg := by
  unfold f_X7_in at h
  split at h
  · exact absurd rfl h
  · split at h
    · exact absurd rfl h
    · rename_i h1 h2
      rw [show (1 : Int32) = nI 1 from rfl, pk_sub h0] at h2
      have a1 : (0 : Int32).toInt ≤ x.toInt := Int32.le_iff_toInt_le.mp (Int32.not_lt.mp h1)
      have a2 : x.toInt ≤ (nI (n - 1)).toInt := Int32.le_iff_toInt_le.mp (Int32.not_lt.mp h2)
      rw [nI_toInt (by omega)] at a2
      have a3 : (0 : Int32).toInt = 0 := by decide
      rw [a3] at a1
      have a4 : x.toNatClampNeg = x.toInt.toNat := rfl
      refine ⟨by omega, Int32.toInt_inj.mp ?_⟩
      rw [nI_toInt (by omega)]
      omega
theorem xin_0 {x : Int32} : f_X7_in x 0 (nI 0 - 1) = 0 := by
  unfold f_X7_in
  by_cases h : x < 0
  · rw [if_pos h]
  · rw [if_neg h, if_pos]
    have a1 : (0 : Int32).toInt ≤ x.toInt := Int32.le_iff_toInt_le.mp (Int32.not_lt.mp h)
    apply Int32.lt_iff_toInt_lt.mpr
    have a2 : (nI 0 - 1).toInt = -1 := by decide
    have a3 : (0 : Int32).toInt = 0 := by decide
    omega
theorem xin_get' {x : Int32} {n : Nat} (hn : n < 2 ^ 31) (h : ¬ f_X7_in x 0 (nI n - 1) = 0) : x.toNatClampNeg < n ∧ x = nI x.toNatClampNeg := by
  rcases Nat.eq_zero_or_pos n with e | e
  · rw [e] at h
    exact absurd xin_0 h
  · exact xin_get hn e h
theorem ne_le {x : Int32} {n k : Nat} (hx : x = nI n) (hn : n ≤ k) (h : ¬ x = nI k) : n < k := by
  rcases Nat.lt_or_eq_of_le hn with q | q
  · exact q
  · exact absurd (by rw [hx, q]) h
def K_pass (G : GS) (x1 : Int32) : Nat := x_X6_pass G x1
def F_pass (G : GS) (x1 : Int32) : Int32 := f_X6_pass G x1
def H_pass (G : GS) (x1 : Int32) : GS := g_X6_pass G x1
theorem t_X6_pass (l : Launch) (D : va_G) (cy : Nat → ClassId) (A : Nat → Prop) (μ : MU) (AD : AM) (G : GS) (hM : RepC cy AD G μ) (hI : InvC G) (x1 : Int32) (hlf : l.stackTraces = false) : vx_Met l yX6_pass (WS yX6_pass cX6_pass 2 (Option.some Jvm.ClassFile.FieldType.int)) { frames := 6, cells := 1, slots := 6, locals := 100 } (va_Pc [.ref (AD 0 0 0), .int x1] (Wd D cy A μ)) (va_Qi (fun (r9 : Int32) (μ1 : MU) => K_pass G x1 = 0 ∧ r9 = F_pass G x1 ∧ ∃ AD1 : AM, AD1 0 = AD 0 ∧ RepC cy AD1 (H_pass G x1) μ1) (fun μ1 t => Wd D cy A μ1 t) A) (XC9 D A μ (xnm (K_pass G x1))) 1 6 A := by
  exact c_X6_pass l D cy A μ AD G hM hI x1 hlf
def K_ship (G : GS) (x1 x2 x3 x4 x5 : Int32) : Nat := x_X6_ship G x1 x2 x3 x4 x5
def F_ship (G : GS) (x1 x2 x3 x4 x5 : Int32) : Int32 := f_X6_ship G x1 x2 x3 x4 x5
def H_ship (G : GS) (x1 x2 x3 x4 x5 : Int32) : GS := g_X6_ship G x1 x2 x3 x4 x5
theorem t_X6_ship (l : Launch) (D : va_G) (cy : Nat → ClassId) (A : Nat → Prop) (μ : MU) (AD : AM) (G : GS) (hM : RepC cy AD G μ) (hI : InvC G) (x1 x2 x3 x4 x5 : Int32) (hlf : l.stackTraces = false) : vx_Met l yX6_ship (WS yX6_ship cX6_ship 7 (Option.some Jvm.ClassFile.FieldType.int)) { frames := 8, cells := 8, slots := 3033, locals := 225 } (va_Pc [.ref (AD 0 0 0), .int x1, .int x2, .int x3, .int x4, .int x5] (Wd D cy A μ)) (va_Qi (fun (r9 : Int32) (μ1 : MU) => K_ship G x1 x2 x3 x4 x5 = 0 ∧ r9 = F_ship G x1 x2 x3 x4 x5 ∧ ∃ AD1 : AM, AD1 0 = AD 0 ∧ RepC cy AD1 (H_ship G x1 x2 x3 x4 x5) μ1) (fun μ1 t => Wd D cy A μ1 t) A) (XC9 D A μ (xnm (K_ship G x1 x2 x3 x4 x5))) 8 3033 A := by
  exact c_X6_ship l D cy A μ AD G hM hI x1 x2 x3 x4 x5 hlf
def K_changes (G : GS) (x1 x2 x3 : Int32) : Nat := if f_X6_isIndex x1 (nI (gnS G)) = 0 then 3 else x_X6_changes G x1.toNatClampNeg x2 x3
def F_changes (G : GS) (x1 x2 x3 : Int32) : Int32 := if f_X6_isIndex x1 (nI (gnS G)) = 0 then 0 else f_X6_changes G x1.toNatClampNeg x2 x3
def H_changes (G : GS) (x1 x2 x3 : Int32) : GS := if f_X6_isIndex x1 (nI (gnS G)) = 0 then G else g_X6_changes G x1.toNatClampNeg x2 x3
theorem t_X6_changes (l : Launch) (D : va_G) (cy : Nat → ClassId) (A : Nat → Prop) (μ : MU) (AD : AM) (G : GS) (hM : RepC cy AD G μ) (hI : InvC G) (x1 x2 x3 : Int32) (hn : ∀ s, s < gnS G → gnN G s < 514) (hlf : l.stackTraces = false) : vx_Met l yX6_changes (WS yX6_changes cX6_changes 5 (Option.some Jvm.ClassFile.FieldType.int)) { frames := 8, cells := 2, slots := 1004, locals := 225 } (va_Pc [.ref (AD 0 0 0), .int x1, .int x2, .int x3] (Wd D cy A μ)) (va_Qi (fun (r9 : Int32) (μ1 : MU) => K_changes G x1 x2 x3 = 0 ∧ r9 = F_changes G x1 x2 x3 ∧ ∃ AD1 : AM, AD1 0 = AD 0 ∧ RepC cy AD1 (H_changes G x1 x2 x3) μ1) (fun μ1 t => Wd D cy A μ1 t) A) (XC9 D A μ (xnm (K_changes G x1 x2 x3))) 2 1004 A := by
  by_cases hb : f_X6_isIndex x1 (nI (gnS G)) = 0
  · have eK : K_changes G x1 x2 x3 = 3 := if_pos hb
    rw [eK]
    exact vx_up (c_X6_changes_b l D cy A μ AD G hM hI x1 x2 x3 hb hlf) (Nat.le_of_ble_eq_true rfl) (Nat.le_of_ble_eq_true rfl) (Nat.le_of_ble_eq_true rfl) (Nat.le_of_ble_eq_true rfl) (Nat.le_of_ble_eq_true rfl) (Nat.le_of_ble_eq_true rfl) (fun _ _ _ _ q => q.elim) (fun _ _ _ q => q)
  · have hi := isx_get (n := gnS G) (Nat.lt_of_le_of_lt hI.s.2.1 (by decide)) hb
    have h := c_X6_changes l D cy A μ AD G hM hI x1.toNatClampNeg x2 x3 hi.1 (hn _ hi.1) hlf
    rw [← hi.2] at h
    have eK := (show K_changes G x1 x2 x3 = x_X6_changes G x1.toNatClampNeg x2 x3 from if_neg hb)
    have eF := (show F_changes G x1 x2 x3 = f_X6_changes G x1.toNatClampNeg x2 x3 from if_neg hb)
    have eH := (show H_changes G x1 x2 x3 = g_X6_changes G x1.toNatClampNeg x2 x3 from if_neg hb)
    rw [eK, eF, eH]
    exact vx_up h (Nat.le_of_ble_eq_true rfl) (Nat.le_of_ble_eq_true rfl) (Nat.le_of_ble_eq_true rfl) (Nat.le_of_ble_eq_true rfl) (Nat.le_of_ble_eq_true rfl) (Nat.le_of_ble_eq_true rfl) (fun _ _ _ _ q => q) (fun _ _ _ q => q)
def K_suspend (G : GS) (x1 x2 : Int32) : Nat := if f_X6_isIndex x1 4 = 0 then 3 else x_X6_suspend G x1.toNatClampNeg x2
def F_suspend (G : GS) (x1 x2 : Int32) : Int32 := if f_X6_isIndex x1 4 = 0 then 0 else f_X6_suspend G x1.toNatClampNeg x2
def H_suspend (G : GS) (x1 x2 : Int32) : GS := if f_X6_isIndex x1 4 = 0 then G else g_X6_suspend G x1.toNatClampNeg x2
theorem t_X6_suspend (l : Launch) (D : va_G) (cy : Nat → ClassId) (A : Nat → Prop) (μ : MU) (AD : AM) (G : GS) (hM : RepC cy AD G μ) (hI : InvC G) (x1 x2 : Int32) (hx2 : x2 = 0 ∨ x2 = 1) (hlf : l.stackTraces = false) : vx_Met l yX6_suspend (WS yX6_suspend cX6_suspend 4 (Option.some Jvm.ClassFile.FieldType.boolean)) { frames := 6, cells := 1, slots := 6, locals := 100 } (va_Pc [.ref (AD 0 0 0), .int x1, .int x2] (Wd D cy A μ)) (va_Qi (fun (r9 : Int32) (μ1 : MU) => K_suspend G x1 x2 = 0 ∧ r9 = F_suspend G x1 x2 ∧ ∃ AD1 : AM, AD1 0 = AD 0 ∧ RepC cy AD1 (H_suspend G x1 x2) μ1) (fun μ1 t => Wd D cy A μ1 t) A) (XC9 D A μ (xnm (K_suspend G x1 x2))) 1 6 A := by
  by_cases hb : f_X6_isIndex x1 4 = 0
  · have eK : K_suspend G x1 x2 = 3 := if_pos hb
    rw [eK]
    exact vx_up (c_X6_suspend_b l D cy A μ AD G hM hI x1 x2 hb hlf) (Nat.le_of_ble_eq_true rfl) (Nat.le_of_ble_eq_true rfl) (Nat.le_of_ble_eq_true rfl) (Nat.le_of_ble_eq_true rfl) (Nat.le_of_ble_eq_true rfl) (Nat.le_of_ble_eq_true rfl) (fun _ _ _ _ q => q.elim) (fun _ _ _ q => q)
  · have hi := isx_get (n := 4) (by decide : 4 < 2 ^ 31) hb
    have h := c_X6_suspend l D cy A μ AD G hM hI x1.toNatClampNeg x2 hi.1 hx2 hlf
    rw [← hi.2] at h
    have eK := (show K_suspend G x1 x2 = x_X6_suspend G x1.toNatClampNeg x2 from if_neg hb)
    have eF := (show F_suspend G x1 x2 = f_X6_suspend G x1.toNatClampNeg x2 from if_neg hb)
    have eH := (show H_suspend G x1 x2 = g_X6_suspend G x1.toNatClampNeg x2 from if_neg hb)
    rw [eK, eF, eH]
    exact vx_up h (Nat.le_of_ble_eq_true rfl) (Nat.le_of_ble_eq_true rfl) (Nat.le_of_ble_eq_true rfl) (Nat.le_of_ble_eq_true rfl) (Nat.le_of_ble_eq_true rfl) (Nat.le_of_ble_eq_true rfl) (fun _ _ _ _ q => q) (fun _ _ _ q => q)
def K_rule (G : GS) (x1 x2 x3 x4 x5 : Int32) : Nat := x_X6_rule G x1 x2 x3 x4 x5
def F_rule (G : GS) (x1 x2 x3 x4 x5 : Int32) : Int32 := f_X6_rule G x1 x2 x3 x4 x5
def H_rule (G : GS) (x1 x2 x3 x4 x5 : Int32) : GS := g_X6_rule G x1 x2 x3 x4 x5
theorem t_X6_rule (l : Launch) (D : va_G) (cy : Nat → ClassId) (A : Nat → Prop) (μ : MU) (AD : AM) (G : GS) (hM : RepC cy AD G μ) (hI : InvC G) (x1 x2 x3 x4 x5 : Int32) (hlf : l.stackTraces = false) : vx_Met l yX6_rule (WS yX6_rule cX6_rule 6 (Option.some Jvm.ClassFile.FieldType.int)) { frames := 7, cells := 2, slots := 1006, locals := 201 } (va_Pc [.ref (AD 0 0 0), .int x1, .int x2, .int x3, .int x4, .int x5] (Wd D cy A μ)) (va_Qi (fun (r9 : Int32) (μ1 : MU) => K_rule G x1 x2 x3 x4 x5 = 0 ∧ r9 = F_rule G x1 x2 x3 x4 x5 ∧ ∃ AD1 : AM, AD1 0 = AD 0 ∧ RepC cy AD1 (H_rule G x1 x2 x3 x4 x5) μ1) (fun μ1 t => Wd D cy A μ1 t) A) (XC9 D A μ (xnm (K_rule G x1 x2 x3 x4 x5))) 2 1006 A := by
  exact c_X6_rule l D cy A μ AD G hM hI x1 x2 x3 x4 x5 hlf
def K_issue (G : GS) (x1 x2 x3 : Int32) : Nat := if f_X6_isIndex x1 (nI (gnS G)) = 0 then 3 else (if f_X6_isIndex x2 5 = 0 then 1 else x_X6_issue G x1.toNatClampNeg x2.toNatClampNeg x3)
def F_issue (G : GS) (x1 x2 x3 : Int32) : Int32 := if f_X6_isIndex x1 (nI (gnS G)) = 0 then 0 else (if f_X6_isIndex x2 5 = 0 then 0 else f_X6_issue G x1.toNatClampNeg x2.toNatClampNeg x3)
def H_issue (G : GS) (x1 x2 x3 : Int32) : GS := if f_X6_isIndex x1 (nI (gnS G)) = 0 then G else (if f_X6_isIndex x2 5 = 0 then G else g_X6_issue G x1.toNatClampNeg x2.toNatClampNeg x3)
theorem t_X6_issue (l : Launch) (D : va_G) (cy : Nat → ClassId) (A : Nat → Prop) (μ : MU) (AD : AM) (G : GS) (hM : RepC cy AD G μ) (hI : InvC G) (x1 x2 x3 : Int32) (hlf : l.stackTraces = false) : vx_Met l yX6_issue (WS yX6_issue cX6_issue 6 (Option.some Jvm.ClassFile.FieldType.int)) { frames := 7, cells := 1, slots := 6, locals := 121 } (va_Pc [.ref (AD 0 0 0), .int x1, .int x2, .int x3] (Wd D cy A μ)) (va_Qi (fun (r9 : Int32) (μ1 : MU) => K_issue G x1 x2 x3 = 0 ∧ r9 = F_issue G x1 x2 x3 ∧ ∃ AD1 : AM, AD1 0 = AD 0 ∧ RepC cy AD1 (H_issue G x1 x2 x3) μ1) (fun μ1 t => Wd D cy A μ1 t) A) (XC9 D A μ (xnm (K_issue G x1 x2 x3))) 1 6 A := by
  by_cases hb : f_X6_isIndex x1 (nI (gnS G)) = 0
  · have eK : K_issue G x1 x2 x3 = 3 := if_pos hb
    rw [eK]
    exact vx_up (c_X6_issue_b l D cy A μ AD G hM hI x1 x2 x3 hb hlf) (Nat.le_of_ble_eq_true rfl) (Nat.le_of_ble_eq_true rfl) (Nat.le_of_ble_eq_true rfl) (Nat.le_of_ble_eq_true rfl) (Nat.le_of_ble_eq_true rfl) (Nat.le_of_ble_eq_true rfl) (fun _ _ _ _ q => q.elim) (fun _ _ _ q => q)
  · have hi := isx_get (n := gnS G) (Nat.lt_of_le_of_lt hI.s.2.1 (by decide)) hb
    by_cases hb2 : f_X6_isIndex x2 5 = 0
    · have eK : K_issue G x1 x2 x3 = 1 := (if_neg hb).trans (if_pos hb2)
      have h := c_X6_issue_f l D cy A μ AD G hM hI x1.toNatClampNeg x2 x3 hi.1 hb2 hlf
      rw [← hi.2] at h
      rw [eK]
      exact vx_up h (Nat.le_of_ble_eq_true rfl) (Nat.le_of_ble_eq_true rfl) (Nat.le_of_ble_eq_true rfl) (Nat.le_of_ble_eq_true rfl) (Nat.le_of_ble_eq_true rfl) (Nat.le_of_ble_eq_true rfl) (fun _ _ _ _ q => q.elim) (fun _ _ _ q => q)
    · have hi2 := isx_get (n := 5) (by decide) hb2
      have h := c_X6_issue l D cy A μ AD G hM hI x1.toNatClampNeg x2.toNatClampNeg x3 hi.1 hi2.1 hlf
      rw [← hi.2, ← hi2.2] at h
      have eK := (show K_issue G x1 x2 x3 = x_X6_issue G x1.toNatClampNeg x2.toNatClampNeg x3 from (if_neg hb).trans (if_neg hb2))
      have eF := (show F_issue G x1 x2 x3 = f_X6_issue G x1.toNatClampNeg x2.toNatClampNeg x3 from (if_neg hb).trans (if_neg hb2))
      have eH := (show H_issue G x1 x2 x3 = g_X6_issue G x1.toNatClampNeg x2.toNatClampNeg x3 from (if_neg hb).trans (if_neg hb2))
      rw [eK, eF, eH]
      exact vx_up h (Nat.le_of_ble_eq_true rfl) (Nat.le_of_ble_eq_true rfl) (Nat.le_of_ble_eq_true rfl) (Nat.le_of_ble_eq_true rfl) (Nat.le_of_ble_eq_true rfl) (Nat.le_of_ble_eq_true rfl) (fun _ _ _ _ q => q) (fun _ _ _ q => q)
def K_endorse (G : GS) (x1 x2 : Int32) : Nat := if f_X6_isIndex x1 (nI (gnS G)) = 0 then 3 else (if f_X6_isIndex x2 5 = 0 then 1 else x_X6_endorse G x1.toNatClampNeg x2.toNatClampNeg)
def F_endorse (G : GS) (x1 x2 : Int32) : Int32 := if f_X6_isIndex x1 (nI (gnS G)) = 0 then 0 else (if f_X6_isIndex x2 5 = 0 then 0 else f_X6_endorse G x1.toNatClampNeg x2.toNatClampNeg)
def H_endorse (G : GS) (x1 x2 : Int32) : GS := if f_X6_isIndex x1 (nI (gnS G)) = 0 then G else (if f_X6_isIndex x2 5 = 0 then G else g_X6_endorse G x1.toNatClampNeg x2.toNatClampNeg)
theorem t_X6_endorse (l : Launch) (D : va_G) (cy : Nat → ClassId) (A : Nat → Prop) (μ : MU) (AD : AM) (G : GS) (hM : RepC cy AD G μ) (hI : InvC G) (x1 x2 : Int32) (hlf : l.stackTraces = false) : vx_Met l yX6_endorse (WS yX6_endorse cX6_endorse 6 (Option.some Jvm.ClassFile.FieldType.int)) { frames := 7, cells := 1, slots := 6, locals := 121 } (va_Pc [.ref (AD 0 0 0), .int x1, .int x2] (Wd D cy A μ)) (va_Qi (fun (r9 : Int32) (μ1 : MU) => K_endorse G x1 x2 = 0 ∧ r9 = F_endorse G x1 x2 ∧ ∃ AD1 : AM, AD1 0 = AD 0 ∧ RepC cy AD1 (H_endorse G x1 x2) μ1) (fun μ1 t => Wd D cy A μ1 t) A) (XC9 D A μ (xnm (K_endorse G x1 x2))) 1 6 A := by
  by_cases hb : f_X6_isIndex x1 (nI (gnS G)) = 0
  · have eK : K_endorse G x1 x2 = 3 := if_pos hb
    rw [eK]
    exact vx_up (c_X6_endorse_b l D cy A μ AD G hM hI x1 x2 hb hlf) (Nat.le_of_ble_eq_true rfl) (Nat.le_of_ble_eq_true rfl) (Nat.le_of_ble_eq_true rfl) (Nat.le_of_ble_eq_true rfl) (Nat.le_of_ble_eq_true rfl) (Nat.le_of_ble_eq_true rfl) (fun _ _ _ _ q => q.elim) (fun _ _ _ q => q)
  · have hi := isx_get (n := gnS G) (Nat.lt_of_le_of_lt hI.s.2.1 (by decide)) hb
    by_cases hb2 : f_X6_isIndex x2 5 = 0
    · have eK : K_endorse G x1 x2 = 1 := (if_neg hb).trans (if_pos hb2)
      have h := c_X6_endorse_f l D cy A μ AD G hM hI x1.toNatClampNeg x2 hi.1 hb2 hlf
      rw [← hi.2] at h
      rw [eK]
      exact vx_up h (Nat.le_of_ble_eq_true rfl) (Nat.le_of_ble_eq_true rfl) (Nat.le_of_ble_eq_true rfl) (Nat.le_of_ble_eq_true rfl) (Nat.le_of_ble_eq_true rfl) (Nat.le_of_ble_eq_true rfl) (fun _ _ _ _ q => q.elim) (fun _ _ _ q => q)
    · have hi2 := isx_get (n := 5) (by decide) hb2
      have h := c_X6_endorse l D cy A μ AD G hM hI x1.toNatClampNeg x2.toNatClampNeg hi.1 hi2.1 hlf
      rw [← hi.2, ← hi2.2] at h
      have eK := (show K_endorse G x1 x2 = x_X6_endorse G x1.toNatClampNeg x2.toNatClampNeg from (if_neg hb).trans (if_neg hb2))
      have eF := (show F_endorse G x1 x2 = f_X6_endorse G x1.toNatClampNeg x2.toNatClampNeg from (if_neg hb).trans (if_neg hb2))
      have eH := (show H_endorse G x1 x2 = g_X6_endorse G x1.toNatClampNeg x2.toNatClampNeg from (if_neg hb).trans (if_neg hb2))
      rw [eK, eF, eH]
      exact vx_up h (Nat.le_of_ble_eq_true rfl) (Nat.le_of_ble_eq_true rfl) (Nat.le_of_ble_eq_true rfl) (Nat.le_of_ble_eq_true rfl) (Nat.le_of_ble_eq_true rfl) (Nat.le_of_ble_eq_true rfl) (fun _ _ _ _ q => q) (fun _ _ _ q => q)
def K_calls (G : GS) (x1 x2 : Int32) : Nat := if f_X6_isIndex x1 (nI (gnS G)) = 0 then 3 else x_X6_calls G x1.toNatClampNeg x2
def F_calls (G : GS) (x1 x2 : Int32) : Int32 := if f_X6_isIndex x1 (nI (gnS G)) = 0 then 0 else f_X6_calls G x1.toNatClampNeg x2
def H_calls (G : GS) (x1 x2 : Int32) : GS := if f_X6_isIndex x1 (nI (gnS G)) = 0 then G else g_X6_calls G x1.toNatClampNeg x2
theorem t_X6_calls (l : Launch) (D : va_G) (cy : Nat → ClassId) (A : Nat → Prop) (μ : MU) (AD : AM) (G : GS) (hM : RepC cy AD G μ) (hI : InvC G) (x1 x2 : Int32) (hlf : l.stackTraces = false) : vx_Met l yX6_calls (WS yX6_calls cX6_calls 4 (Option.some Jvm.ClassFile.FieldType.int)) { frames := 8, cells := 1, slots := 6, locals := 183 } (va_Pc [.ref (AD 0 0 0), .int x1, .int x2] (Wd D cy A μ)) (va_Qi (fun (r9 : Int32) (μ1 : MU) => K_calls G x1 x2 = 0 ∧ r9 = F_calls G x1 x2 ∧ ∃ AD1 : AM, AD1 0 = AD 0 ∧ RepC cy AD1 (H_calls G x1 x2) μ1) (fun μ1 t => Wd D cy A μ1 t) A) (XC9 D A μ (xnm (K_calls G x1 x2))) 1 6 A := by
  by_cases hb : f_X6_isIndex x1 (nI (gnS G)) = 0
  · have eK : K_calls G x1 x2 = 3 := if_pos hb
    rw [eK]
    exact vx_up (c_X6_calls_b l D cy A μ AD G hM hI x1 x2 hb hlf) (Nat.le_of_ble_eq_true rfl) (Nat.le_of_ble_eq_true rfl) (Nat.le_of_ble_eq_true rfl) (Nat.le_of_ble_eq_true rfl) (Nat.le_of_ble_eq_true rfl) (Nat.le_of_ble_eq_true rfl) (fun _ _ _ _ q => q.elim) (fun _ _ _ q => q)
  · have hi := isx_get (n := gnS G) (Nat.lt_of_le_of_lt hI.s.2.1 (by decide)) hb
    have h := c_X6_calls l D cy A μ AD G hM hI x1.toNatClampNeg x2 hi.1 hlf
    rw [← hi.2] at h
    have eK := (show K_calls G x1 x2 = x_X6_calls G x1.toNatClampNeg x2 from if_neg hb)
    have eF := (show F_calls G x1 x2 = f_X6_calls G x1.toNatClampNeg x2 from if_neg hb)
    have eH := (show H_calls G x1 x2 = g_X6_calls G x1.toNatClampNeg x2 from if_neg hb)
    rw [eK, eF, eH]
    exact vx_up h (Nat.le_of_ble_eq_true rfl) (Nat.le_of_ble_eq_true rfl) (Nat.le_of_ble_eq_true rfl) (Nat.le_of_ble_eq_true rfl) (Nat.le_of_ble_eq_true rfl) (Nat.le_of_ble_eq_true rfl) (fun _ _ _ _ q => q) (fun _ _ _ q => q)
def K_leaves (G : GS) (x1 : Int32) : Nat := if f_X6_isIndex x1 (nI (gnS G)) = 0 then 3 else (if G 10 x1.toNatClampNeg = -1 then 2 else x_X6_leaves G x1.toNatClampNeg (G 10 x1.toNatClampNeg).toNatClampNeg)
def F_leaves (G : GS) (x1 : Int32) : Int32 := if f_X6_isIndex x1 (nI (gnS G)) = 0 then 0 else (if G 10 x1.toNatClampNeg = -1 then 0 else f_X6_leaves G x1.toNatClampNeg (G 10 x1.toNatClampNeg).toNatClampNeg)
def H_leaves (G : GS) (x1 : Int32) : GS := if f_X6_isIndex x1 (nI (gnS G)) = 0 then G else (if G 10 x1.toNatClampNeg = -1 then G else g_X6_leaves G x1.toNatClampNeg (G 10 x1.toNatClampNeg).toNatClampNeg)
theorem t_X6_leaves (l : Launch) (D : va_G) (cy : Nat → ClassId) (A : Nat → Prop) (μ : MU) (AD : AM) (G : GS) (hM : RepC cy AD G μ) (hI : InvC G) (x1 : Int32) (hp : ∀ s, s < gnS G → G 10 s = -1 ∨ (G 10 s = nI (G 10 s).toNatClampNeg ∧ (G 10 s).toNatClampNeg < 4)) (hlf : l.stackTraces = false) : vx_Met l yX6_leaves (WS yX6_leaves cX6_leaves 4 (Option.some Jvm.ClassFile.FieldType.boolean)) { frames := 8, cells := 1, slots := 6, locals := 183 } (va_Pc [.ref (AD 0 0 0), .int x1] (Wd D cy A μ)) (va_Qi (fun (r9 : Int32) (μ1 : MU) => K_leaves G x1 = 0 ∧ r9 = F_leaves G x1 ∧ ∃ AD1 : AM, AD1 0 = AD 0 ∧ RepC cy AD1 (H_leaves G x1) μ1) (fun μ1 t => Wd D cy A μ1 t) A) (XC9 D A μ (xnm (K_leaves G x1))) 1 6 A := by
  by_cases hb : f_X6_isIndex x1 (nI (gnS G)) = 0
  · have eK : K_leaves G x1 = 3 := if_pos hb
    rw [eK]
    exact vx_up (c_X6_leaves_b l D cy A μ AD G hM hI x1 hb hlf) (Nat.le_of_ble_eq_true rfl) (Nat.le_of_ble_eq_true rfl) (Nat.le_of_ble_eq_true rfl) (Nat.le_of_ble_eq_true rfl) (Nat.le_of_ble_eq_true rfl) (Nat.le_of_ble_eq_true rfl) (fun _ _ _ _ q => q.elim) (fun _ _ _ q => q)
  · have hi := isx_get (n := gnS G) (Nat.lt_of_le_of_lt hI.s.2.1 (by decide)) hb
    by_cases hb2 : G 10 x1.toNatClampNeg = -1
    · have eK : K_leaves G x1 = 2 := (if_neg hb).trans (if_pos hb2)
      have h := c_X6_leaves_n l D cy A μ AD G hM hI x1.toNatClampNeg hi.1 hb2 hlf
      rw [← hi.2] at h
      rw [eK]
      exact vx_up h (Nat.le_of_ble_eq_true rfl) (Nat.le_of_ble_eq_true rfl) (Nat.le_of_ble_eq_true rfl) (Nat.le_of_ble_eq_true rfl) (Nat.le_of_ble_eq_true rfl) (Nat.le_of_ble_eq_true rfl) (fun _ _ _ _ q => q.elim) (fun _ _ _ q => q)
    · have hi2 := (hp _ hi.1).resolve_left hb2
      have h := c_X6_leaves l D cy A μ AD G hM hI x1.toNatClampNeg (G 10 x1.toNatClampNeg).toNatClampNeg hi.1 hi2.2 hi2.1 hlf
      rw [← hi.2] at h
      have eK := (show K_leaves G x1 = x_X6_leaves G x1.toNatClampNeg (G 10 x1.toNatClampNeg).toNatClampNeg from (if_neg hb).trans (if_neg hb2))
      have eF := (show F_leaves G x1 = f_X6_leaves G x1.toNatClampNeg (G 10 x1.toNatClampNeg).toNatClampNeg from (if_neg hb).trans (if_neg hb2))
      have eH := (show H_leaves G x1 = g_X6_leaves G x1.toNatClampNeg (G 10 x1.toNatClampNeg).toNatClampNeg from (if_neg hb).trans (if_neg hb2))
      rw [eK, eF, eH]
      exact vx_up h (Nat.le_of_ble_eq_true rfl) (Nat.le_of_ble_eq_true rfl) (Nat.le_of_ble_eq_true rfl) (Nat.le_of_ble_eq_true rfl) (Nat.le_of_ble_eq_true rfl) (Nat.le_of_ble_eq_true rfl) (fun _ _ _ _ q => q) (fun _ _ _ q => q)
def K_visit (G : GS) (x1 : Int32) : Nat := if f_X6_isIndex x1 (nI (gnS G)) = 0 then 3 else x_X6_visit G x1.toNatClampNeg
def F_visit (G : GS) (x1 : Int32) : Int32 := if f_X6_isIndex x1 (nI (gnS G)) = 0 then 0 else f_X6_visit G x1.toNatClampNeg
def H_visit (G : GS) (x1 : Int32) : GS := if f_X6_isIndex x1 (nI (gnS G)) = 0 then G else g_X6_visit G x1.toNatClampNeg
theorem t_X6_visit (l : Launch) (D : va_G) (cy : Nat → ClassId) (A : Nat → Prop) (μ : MU) (AD : AM) (G : GS) (hM : RepC cy AD G μ) (hI : InvC G) (x1 : Int32) (hn : ∀ s, s < gnS G → gnN G s < 514) (hlf : l.stackTraces = false) : vx_Met l yX6_visit (WS yX6_visit cX6_visit 4 (Option.some Jvm.ClassFile.FieldType.int)) { frames := 8, cells := 5, slots := 2019, locals := 225 } (va_Pc [.ref (AD 0 0 0), .int x1] (Wd D cy A μ)) (va_Qi (fun (r9 : Int32) (μ1 : MU) => K_visit G x1 = 0 ∧ r9 = F_visit G x1 ∧ ∃ AD1 : AM, AD1 0 = AD 0 ∧ RepC cy AD1 (H_visit G x1) μ1) (fun μ1 t => Wd D cy A μ1 t) A) (XC9 D A μ (xnm (K_visit G x1))) 5 2019 A := by
  by_cases hb : f_X6_isIndex x1 (nI (gnS G)) = 0
  · have eK : K_visit G x1 = 3 := if_pos hb
    rw [eK]
    exact vx_up (c_X6_visit_b l D cy A μ AD G hM hI x1 hb hlf) (Nat.le_of_ble_eq_true rfl) (Nat.le_of_ble_eq_true rfl) (Nat.le_of_ble_eq_true rfl) (Nat.le_of_ble_eq_true rfl) (Nat.le_of_ble_eq_true rfl) (Nat.le_of_ble_eq_true rfl) (fun _ _ _ _ q => q.elim) (fun _ _ _ q => q)
  · have hi := isx_get (n := gnS G) (Nat.lt_of_le_of_lt hI.s.2.1 (by decide)) hb
    have h := c_X6_visit l D cy A μ AD G hM hI x1.toNatClampNeg hi.1 (hn _ hi.1) hlf
    rw [← hi.2] at h
    have eK := (show K_visit G x1 = x_X6_visit G x1.toNatClampNeg from if_neg hb)
    have eF := (show F_visit G x1 = f_X6_visit G x1.toNatClampNeg from if_neg hb)
    have eH := (show H_visit G x1 = g_X6_visit G x1.toNatClampNeg from if_neg hb)
    rw [eK, eF, eH]
    exact vx_up h (Nat.le_of_ble_eq_true rfl) (Nat.le_of_ble_eq_true rfl) (Nat.le_of_ble_eq_true rfl) (Nat.le_of_ble_eq_true rfl) (Nat.le_of_ble_eq_true rfl) (Nat.le_of_ble_eq_true rfl) (fun _ _ _ _ q => q) (fun _ _ _ q => q)
def K_finds (G : GS) (x1 x2 x3 : Int32) : Nat := if f_X6_isIndex x1 (nI (gnV G)) = 0 then 3 else x_X6_finds G x1.toNatClampNeg x2 x3
def F_finds (G : GS) (x1 x2 x3 : Int32) : Int32 := if f_X6_isIndex x1 (nI (gnV G)) = 0 then 0 else f_X6_finds G x1.toNatClampNeg x2 x3
def H_finds (G : GS) (x1 x2 x3 : Int32) : GS := if f_X6_isIndex x1 (nI (gnV G)) = 0 then G else g_X6_finds G x1.toNatClampNeg x2 x3
theorem t_X6_finds (l : Launch) (D : va_G) (cy : Nat → ClassId) (A : Nat → Prop) (μ : MU) (AD : AM) (G : GS) (hM : RepC cy AD G μ) (hI : InvC G) (x1 x2 x3 : Int32) (hn : ∀ s, s < gnS G → gnN G s < 514) (hlf : l.stackTraces = false) : vx_Met l yX6_finds (WS yX6_finds cX6_finds 5 (Option.some Jvm.ClassFile.FieldType.int)) { frames := 8, cells := 4, slots := 2007, locals := 225 } (va_Pc [.ref (AD 0 0 0), .int x1, .int x2, .int x3] (Wd D cy A μ)) (va_Qi (fun (r9 : Int32) (μ1 : MU) => K_finds G x1 x2 x3 = 0 ∧ r9 = F_finds G x1 x2 x3 ∧ ∃ AD1 : AM, AD1 0 = AD 0 ∧ RepC cy AD1 (H_finds G x1 x2 x3) μ1) (fun μ1 t => Wd D cy A μ1 t) A) (XC9 D A μ (xnm (K_finds G x1 x2 x3))) 4 2007 A := by
  by_cases hb : f_X6_isIndex x1 (nI (gnV G)) = 0
  · have eK : K_finds G x1 x2 x3 = 3 := if_pos hb
    rw [eK]
    exact vx_up (c_X6_finds_b l D cy A μ AD G hM hI x1 x2 x3 hb hlf) (Nat.le_of_ble_eq_true rfl) (Nat.le_of_ble_eq_true rfl) (Nat.le_of_ble_eq_true rfl) (Nat.le_of_ble_eq_true rfl) (Nat.le_of_ble_eq_true rfl) (Nat.le_of_ble_eq_true rfl) (fun _ _ _ _ q => q.elim) (fun _ _ _ q => q)
  · have hi := isx_get (n := gnV G) (Nat.lt_of_le_of_lt hI.v.2.1 (by decide)) hb
    have h := c_X6_finds l D cy A μ AD G hM hI x1.toNatClampNeg x2 x3 hi.1 (hn _ (hI.so hi.1).2) hlf
    rw [← hi.2] at h
    have eK := (show K_finds G x1 x2 x3 = x_X6_finds G x1.toNatClampNeg x2 x3 from if_neg hb)
    have eF := (show F_finds G x1 x2 x3 = f_X6_finds G x1.toNatClampNeg x2 x3 from if_neg hb)
    have eH := (show H_finds G x1 x2 x3 = g_X6_finds G x1.toNatClampNeg x2 x3 from if_neg hb)
    rw [eK, eF, eH]
    exact vx_up h (Nat.le_of_ble_eq_true rfl) (Nat.le_of_ble_eq_true rfl) (Nat.le_of_ble_eq_true rfl) (Nat.le_of_ble_eq_true rfl) (Nat.le_of_ble_eq_true rfl) (Nat.le_of_ble_eq_true rfl) (fun _ _ _ _ q => q) (fun _ _ _ q => q)
def K_mends (G : GS) (x1 x2 x3 : Int32) : Nat := if f_X6_isIndex x1 (nI (gnV G)) = 0 then 3 else (if f_X6_isIndex x2 (nI (gnF G x1.toNatClampNeg)) = 0 then 3 else x_X6_mends G x1.toNatClampNeg x2.toNatClampNeg x3)
def F_mends (G : GS) (x1 x2 x3 : Int32) : Int32 := if f_X6_isIndex x1 (nI (gnV G)) = 0 then 0 else (if f_X6_isIndex x2 (nI (gnF G x1.toNatClampNeg)) = 0 then 0 else f_X6_mends G x1.toNatClampNeg x2.toNatClampNeg x3)
def H_mends (G : GS) (x1 x2 x3 : Int32) : GS := if f_X6_isIndex x1 (nI (gnV G)) = 0 then G else (if f_X6_isIndex x2 (nI (gnF G x1.toNatClampNeg)) = 0 then G else g_X6_mends G x1.toNatClampNeg x2.toNatClampNeg x3)
theorem t_X6_mends (l : Launch) (D : va_G) (cy : Nat → ClassId) (A : Nat → Prop) (μ : MU) (AD : AM) (G : GS) (hM : RepC cy AD G μ) (hI : InvC G) (x1 x2 x3 : Int32) (hx3 : x3 = 0 ∨ x3 = 1) (hlf : l.stackTraces = false) : vx_Met l yX6_mends (WS yX6_mends cX6_mends 6 (Option.some Jvm.ClassFile.FieldType.int)) { frames := 7, cells := 1, slots := 6, locals := 121 } (va_Pc [.ref (AD 0 0 0), .int x1, .int x2, .int x3] (Wd D cy A μ)) (va_Qi (fun (r9 : Int32) (μ1 : MU) => K_mends G x1 x2 x3 = 0 ∧ r9 = F_mends G x1 x2 x3 ∧ ∃ AD1 : AM, AD1 0 = AD 0 ∧ RepC cy AD1 (H_mends G x1 x2 x3) μ1) (fun μ1 t => Wd D cy A μ1 t) A) (XC9 D A μ (xnm (K_mends G x1 x2 x3))) 1 6 A := by
  by_cases hb : f_X6_isIndex x1 (nI (gnV G)) = 0
  · have eK : K_mends G x1 x2 x3 = 3 := if_pos hb
    rw [eK]
    exact vx_up (c_X6_mends_b l D cy A μ AD G hM hI x1 x2 x3 hb hlf) (Nat.le_of_ble_eq_true rfl) (Nat.le_of_ble_eq_true rfl) (Nat.le_of_ble_eq_true rfl) (Nat.le_of_ble_eq_true rfl) (Nat.le_of_ble_eq_true rfl) (Nat.le_of_ble_eq_true rfl) (fun _ _ _ _ q => q.elim) (fun _ _ _ q => q)
  · have hi := isx_get (n := gnV G) (Nat.lt_of_le_of_lt hI.v.2.1 (by decide)) hb
    by_cases hb2 : f_X6_isIndex x2 (nI (gnF G x1.toNatClampNeg)) = 0
    · have eK : K_mends G x1 x2 x3 = 3 := (if_neg hb).trans (if_pos hb2)
      have h := c_X6_mends_f l D cy A μ AD G hM hI x1.toNatClampNeg x2 x3 hi.1 hb2 hlf
      rw [← hi.2] at h
      rw [eK]
      exact vx_up h (Nat.le_of_ble_eq_true rfl) (Nat.le_of_ble_eq_true rfl) (Nat.le_of_ble_eq_true rfl) (Nat.le_of_ble_eq_true rfl) (Nat.le_of_ble_eq_true rfl) (Nat.le_of_ble_eq_true rfl) (fun _ _ _ _ q => q.elim) (fun _ _ _ q => q)
    · have hi2 := isx_get (n := gnF G x1.toNatClampNeg) (Nat.lt_of_le_of_lt (hI.f hi.1).2.1 (by decide)) hb2
      have h := c_X6_mends l D cy A μ AD G hM hI x1.toNatClampNeg x2.toNatClampNeg x3 hi.1 hi2.1 hlf
      rw [← hi.2, ← hi2.2] at h
      have eK := (show K_mends G x1 x2 x3 = x_X6_mends G x1.toNatClampNeg x2.toNatClampNeg x3 from (if_neg hb).trans (if_neg hb2))
      have eF := (show F_mends G x1 x2 x3 = f_X6_mends G x1.toNatClampNeg x2.toNatClampNeg x3 from (if_neg hb).trans (if_neg hb2))
      have eH := (show H_mends G x1 x2 x3 = g_X6_mends G x1.toNatClampNeg x2.toNatClampNeg x3 from (if_neg hb).trans (if_neg hb2))
      rw [eK, eF, eH]
      exact vx_up h (Nat.le_of_ble_eq_true rfl) (Nat.le_of_ble_eq_true rfl) (Nat.le_of_ble_eq_true rfl) (Nat.le_of_ble_eq_true rfl) (Nat.le_of_ble_eq_true rfl) (Nat.le_of_ble_eq_true rfl) (fun _ _ _ _ q => q) (fun _ _ _ q => q)
def K_detain (G : GS) (x1 : Int32) : Nat := if f_X6_isIndex x1 (nI (gnV G)) = 0 then 3 else x_X6_detain G x1.toNatClampNeg
def F_detain (G : GS) (x1 : Int32) : Int32 := if f_X6_isIndex x1 (nI (gnV G)) = 0 then 0 else f_X6_detain G x1.toNatClampNeg
def H_detain (G : GS) (x1 : Int32) : GS := if f_X6_isIndex x1 (nI (gnV G)) = 0 then G else g_X6_detain G x1.toNatClampNeg
theorem t_X6_detain (l : Launch) (D : va_G) (cy : Nat → ClassId) (A : Nat → Prop) (μ : MU) (AD : AM) (G : GS) (hM : RepC cy AD G μ) (hI : InvC G) (x1 : Int32) (hn : ∀ s, s < gnS G → gnN G s < 514) (hlf : l.stackTraces = false) : vx_Met l yX6_detain (WS yX6_detain cX6_detain 3 (Option.some Jvm.ClassFile.FieldType.int)) { frames := 8, cells := 2, slots := 1004, locals := 225 } (va_Pc [.ref (AD 0 0 0), .int x1] (Wd D cy A μ)) (va_Qi (fun (r9 : Int32) (μ1 : MU) => K_detain G x1 = 0 ∧ r9 = F_detain G x1 ∧ ∃ AD1 : AM, AD1 0 = AD 0 ∧ RepC cy AD1 (H_detain G x1) μ1) (fun μ1 t => Wd D cy A μ1 t) A) (XC9 D A μ (xnm (K_detain G x1))) 2 1004 A := by
  by_cases hb : f_X6_isIndex x1 (nI (gnV G)) = 0
  · have eK : K_detain G x1 = 3 := if_pos hb
    rw [eK]
    exact vx_up (c_X6_detain_b l D cy A μ AD G hM hI x1 hb hlf) (Nat.le_of_ble_eq_true rfl) (Nat.le_of_ble_eq_true rfl) (Nat.le_of_ble_eq_true rfl) (Nat.le_of_ble_eq_true rfl) (Nat.le_of_ble_eq_true rfl) (Nat.le_of_ble_eq_true rfl) (fun _ _ _ _ q => q.elim) (fun _ _ _ q => q)
  · have hi := isx_get (n := gnV G) (Nat.lt_of_le_of_lt hI.v.2.1 (by decide)) hb
    have h := c_X6_detain l D cy A μ AD G hM hI x1.toNatClampNeg hi.1 (hn _ (hI.so hi.1).2) hlf
    rw [← hi.2] at h
    have eK := (show K_detain G x1 = x_X6_detain G x1.toNatClampNeg from if_neg hb)
    have eF := (show F_detain G x1 = f_X6_detain G x1.toNatClampNeg from if_neg hb)
    have eH := (show H_detain G x1 = g_X6_detain G x1.toNatClampNeg from if_neg hb)
    rw [eK, eF, eH]
    exact vx_up h (Nat.le_of_ble_eq_true rfl) (Nat.le_of_ble_eq_true rfl) (Nat.le_of_ble_eq_true rfl) (Nat.le_of_ble_eq_true rfl) (Nat.le_of_ble_eq_true rfl) (Nat.le_of_ble_eq_true rfl) (fun _ _ _ _ q => q) (fun _ _ _ q => q)
def K_release (G : GS) (x1 : Int32) : Nat := if f_X6_isIndex x1 (nI (gnS G)) = 0 then 3 else x_X6_release G x1.toNatClampNeg
def F_release (G : GS) (x1 : Int32) : Int32 := if f_X6_isIndex x1 (nI (gnS G)) = 0 then 0 else f_X6_release G x1.toNatClampNeg
def H_release (G : GS) (x1 : Int32) : GS := if f_X6_isIndex x1 (nI (gnS G)) = 0 then G else g_X6_release G x1.toNatClampNeg
theorem t_X6_release (l : Launch) (D : va_G) (cy : Nat → ClassId) (A : Nat → Prop) (μ : MU) (AD : AM) (G : GS) (hM : RepC cy AD G μ) (hI : InvC G) (x1 : Int32) (hlf : l.stackTraces = false) : vx_Met l yX6_release (WS yX6_release cX6_release 5 (Option.some Jvm.ClassFile.FieldType.int)) { frames := 7, cells := 1, slots := 6, locals := 121 } (va_Pc [.ref (AD 0 0 0), .int x1] (Wd D cy A μ)) (va_Qi (fun (r9 : Int32) (μ1 : MU) => K_release G x1 = 0 ∧ r9 = F_release G x1 ∧ ∃ AD1 : AM, AD1 0 = AD 0 ∧ RepC cy AD1 (H_release G x1) μ1) (fun μ1 t => Wd D cy A μ1 t) A) (XC9 D A μ (xnm (K_release G x1))) 1 6 A := by
  by_cases hb : f_X6_isIndex x1 (nI (gnS G)) = 0
  · have eK : K_release G x1 = 3 := if_pos hb
    rw [eK]
    exact vx_up (c_X6_release_b l D cy A μ AD G hM hI x1 hb hlf) (Nat.le_of_ble_eq_true rfl) (Nat.le_of_ble_eq_true rfl) (Nat.le_of_ble_eq_true rfl) (Nat.le_of_ble_eq_true rfl) (Nat.le_of_ble_eq_true rfl) (Nat.le_of_ble_eq_true rfl) (fun _ _ _ _ q => q.elim) (fun _ _ _ q => q)
  · have hi := isx_get (n := gnS G) (Nat.lt_of_le_of_lt hI.s.2.1 (by decide)) hb
    have h := c_X6_release l D cy A μ AD G hM hI x1.toNatClampNeg hi.1 hlf
    rw [← hi.2] at h
    have eK := (show K_release G x1 = x_X6_release G x1.toNatClampNeg from if_neg hb)
    have eF := (show F_release G x1 = f_X6_release G x1.toNatClampNeg from if_neg hb)
    have eH := (show H_release G x1 = g_X6_release G x1.toNatClampNeg from if_neg hb)
    rw [eK, eF, eH]
    exact vx_up h (Nat.le_of_ble_eq_true rfl) (Nat.le_of_ble_eq_true rfl) (Nat.le_of_ble_eq_true rfl) (Nat.le_of_ble_eq_true rfl) (Nat.le_of_ble_eq_true rfl) (Nat.le_of_ble_eq_true rfl) (fun _ _ _ _ q => q) (fun _ _ _ q => q)
def K_appeal (G : GS) (x1 : Int32) : Nat := if f_X6_isIndex x1 (nI (gnV G)) = 0 then 3 else x_X6_appeal G x1.toNatClampNeg
def H_appeal (G : GS) (x1 : Int32) : GS := if f_X6_isIndex x1 (nI (gnV G)) = 0 then G else g_X6_appeal G x1.toNatClampNeg
theorem t_X6_appeal (l : Launch) (D : va_G) (cy : Nat → ClassId) (A : Nat → Prop) (μ : MU) (AD : AM) (G : GS) (hM : RepC cy AD G μ) (hI : InvC G) (x1 : Int32) (hlf : l.stackTraces = false) : vx_Met l yX6_appeal (WS yX6_appeal cX6_appeal 3 (Option.none : Option Jvm.ClassFile.FieldType)) { frames := 7, cells := 1, slots := 6, locals := 121 } (va_Pc [.ref (AD 0 0 0), .int x1] (Wd D cy A μ)) (va_Qv (fun μ1 : MU => K_appeal G x1 = 0 ∧ ∃ AD1 : AM, AD1 0 = AD 0 ∧ RepC cy AD1 (H_appeal G x1) μ1) (fun μ1 t => Wd D cy A μ1 t) A) (XC9 D A μ (xnm (K_appeal G x1))) 1 6 A := by
  by_cases hb : f_X6_isIndex x1 (nI (gnV G)) = 0
  · have eK : K_appeal G x1 = 3 := if_pos hb
    rw [eK]
    exact vx_up (c_X6_appeal_b l D cy A μ AD G hM hI x1 hb hlf) (Nat.le_of_ble_eq_true rfl) (Nat.le_of_ble_eq_true rfl) (Nat.le_of_ble_eq_true rfl) (Nat.le_of_ble_eq_true rfl) (Nat.le_of_ble_eq_true rfl) (Nat.le_of_ble_eq_true rfl) (fun _ _ _ _ q => q.elim) (fun _ _ _ q => q)
  · have hi := isx_get (n := gnV G) (Nat.lt_of_le_of_lt hI.v.2.1 (by decide)) hb
    have h := c_X6_appeal l D cy A μ AD G hM hI x1.toNatClampNeg hi.1 hlf
    rw [← hi.2] at h
    have eK := (show K_appeal G x1 = x_X6_appeal G x1.toNatClampNeg from if_neg hb)
    have eH := (show H_appeal G x1 = g_X6_appeal G x1.toNatClampNeg from if_neg hb)
    rw [eK, eH]
    exact vx_up h (Nat.le_of_ble_eq_true rfl) (Nat.le_of_ble_eq_true rfl) (Nat.le_of_ble_eq_true rfl) (Nat.le_of_ble_eq_true rfl) (Nat.le_of_ble_eq_true rfl) (Nat.le_of_ble_eq_true rfl) (fun _ _ _ _ q => q) (fun _ _ _ q => q)
def K_vote (G : GS) (x1 x2 : Int32) : Nat := if f_X6_isIndex x1 (nI (gnV G)) = 0 then 3 else x_X6_vote G x1.toNatClampNeg x2
def F_vote (G : GS) (x1 x2 : Int32) : Int32 := if f_X6_isIndex x1 (nI (gnV G)) = 0 then 0 else f_X6_vote G x1.toNatClampNeg x2
def H_vote (G : GS) (x1 x2 : Int32) : GS := if f_X6_isIndex x1 (nI (gnV G)) = 0 then G else g_X6_vote G x1.toNatClampNeg x2
theorem t_X6_vote (l : Launch) (D : va_G) (cy : Nat → ClassId) (A : Nat → Prop) (μ : MU) (AD : AM) (G : GS) (hM : RepC cy AD G μ) (hI : InvC G) (x1 x2 : Int32) (hx2 : x2 = 0 ∨ x2 = 1) (hn : ∀ s, s < gnS G → gnN G s < 514) (hlf : l.stackTraces = false) : vx_Met l yX6_vote (WS yX6_vote cX6_vote 4 (Option.some Jvm.ClassFile.FieldType.int)) { frames := 8, cells := 2, slots := 1004, locals := 225 } (va_Pc [.ref (AD 0 0 0), .int x1, .int x2] (Wd D cy A μ)) (va_Qi (fun (r9 : Int32) (μ1 : MU) => K_vote G x1 x2 = 0 ∧ r9 = F_vote G x1 x2 ∧ ∃ AD1 : AM, AD1 0 = AD 0 ∧ RepC cy AD1 (H_vote G x1 x2) μ1) (fun μ1 t => Wd D cy A μ1 t) A) (XC9 D A μ (xnm (K_vote G x1 x2))) 2 1004 A := by
  by_cases hb : f_X6_isIndex x1 (nI (gnV G)) = 0
  · have eK : K_vote G x1 x2 = 3 := if_pos hb
    rw [eK]
    exact vx_up (c_X6_vote_b l D cy A μ AD G hM hI x1 x2 hb hlf) (Nat.le_of_ble_eq_true rfl) (Nat.le_of_ble_eq_true rfl) (Nat.le_of_ble_eq_true rfl) (Nat.le_of_ble_eq_true rfl) (Nat.le_of_ble_eq_true rfl) (Nat.le_of_ble_eq_true rfl) (fun _ _ _ _ q => q.elim) (fun _ _ _ q => q)
  · have hi := isx_get (n := gnV G) (Nat.lt_of_le_of_lt hI.v.2.1 (by decide)) hb
    have h := c_X6_vote l D cy A μ AD G hM hI x1.toNatClampNeg x2 hi.1 hx2 (hn _ (hI.so hi.1).2) hlf
    rw [← hi.2] at h
    have eK := (show K_vote G x1 x2 = x_X6_vote G x1.toNatClampNeg x2 from if_neg hb)
    have eF := (show F_vote G x1 x2 = f_X6_vote G x1.toNatClampNeg x2 from if_neg hb)
    have eH := (show H_vote G x1 x2 = g_X6_vote G x1.toNatClampNeg x2 from if_neg hb)
    rw [eK, eF, eH]
    exact vx_up h (Nat.le_of_ble_eq_true rfl) (Nat.le_of_ble_eq_true rfl) (Nat.le_of_ble_eq_true rfl) (Nat.le_of_ble_eq_true rfl) (Nat.le_of_ble_eq_true rfl) (Nat.le_of_ble_eq_true rfl) (fun _ _ _ _ q => q) (fun _ _ _ q => q)
def K_ofShip (G : GS) (x1 x2 : Int32) : Nat := if f_X6_isIndex x1 (nI (gnS G)) = 0 then 3 else x_X6_ofShip G x1.toNatClampNeg x2
def F_ofShip (G : GS) (x1 x2 : Int32) : Int32 := if f_X6_isIndex x1 (nI (gnS G)) = 0 then 0 else f_X6_ofShip G x1.toNatClampNeg x2
def H_ofShip (G : GS) (x1 x2 : Int32) : GS := if f_X6_isIndex x1 (nI (gnS G)) = 0 then G else g_X6_ofShip G x1.toNatClampNeg x2
theorem t_X6_ofShip (l : Launch) (D : va_G) (cy : Nat → ClassId) (A : Nat → Prop) (μ : MU) (AD : AM) (G : GS) (hM : RepC cy AD G μ) (hI : InvC G) (x1 x2 : Int32) (hlf : l.stackTraces = false) : vx_Met l yX6_ofShip (WS yX6_ofShip cX6_ofShip 4 (Option.some Jvm.ClassFile.FieldType.int)) { frames := 8, cells := 1, slots := 6, locals := 183 } (va_Pc [.ref (AD 0 0 0), .int x1, .int x2] (Wd D cy A μ)) (va_Qi (fun (r9 : Int32) (μ1 : MU) => K_ofShip G x1 x2 = 0 ∧ r9 = F_ofShip G x1 x2 ∧ ∃ AD1 : AM, AD1 0 = AD 0 ∧ RepC cy AD1 (H_ofShip G x1 x2) μ1) (fun μ1 t => Wd D cy A μ1 t) A) (XC9 D A μ (xnm (K_ofShip G x1 x2))) 1 6 A := by
  by_cases hb : f_X6_isIndex x1 (nI (gnS G)) = 0
  · have eK : K_ofShip G x1 x2 = 3 := if_pos hb
    rw [eK]
    exact vx_up (c_X6_ofShip_b l D cy A μ AD G hM hI x1 x2 hb hlf) (Nat.le_of_ble_eq_true rfl) (Nat.le_of_ble_eq_true rfl) (Nat.le_of_ble_eq_true rfl) (Nat.le_of_ble_eq_true rfl) (Nat.le_of_ble_eq_true rfl) (Nat.le_of_ble_eq_true rfl) (fun _ _ _ _ q => q.elim) (fun _ _ _ q => q)
  · have hi := isx_get (n := gnS G) (Nat.lt_of_le_of_lt hI.s.2.1 (by decide)) hb
    have h := c_X6_ofShip l D cy A μ AD G hM hI x1.toNatClampNeg x2 hi.1 hlf
    rw [← hi.2] at h
    have eK := (show K_ofShip G x1 x2 = x_X6_ofShip G x1.toNatClampNeg x2 from if_neg hb)
    have eF := (show F_ofShip G x1 x2 = f_X6_ofShip G x1.toNatClampNeg x2 from if_neg hb)
    have eH := (show H_ofShip G x1 x2 = g_X6_ofShip G x1.toNatClampNeg x2 from if_neg hb)
    rw [eK, eF, eH]
    exact vx_up h (Nat.le_of_ble_eq_true rfl) (Nat.le_of_ble_eq_true rfl) (Nat.le_of_ble_eq_true rfl) (Nat.le_of_ble_eq_true rfl) (Nat.le_of_ble_eq_true rfl) (Nat.le_of_ble_eq_true rfl) (fun _ _ _ _ q => q) (fun _ _ _ q => q)
def K_pointsAnew (G : GS) (x1 : Int32) : Nat := if f_X6_isIndex x1 (nI (gnS G)) = 0 then 3 else x_X6_pointsAnew G x1.toNatClampNeg
def F_pointsAnew (G : GS) (x1 : Int32) : Int32 := if f_X6_isIndex x1 (nI (gnS G)) = 0 then 0 else f_X6_pointsAnew G x1.toNatClampNeg
def H_pointsAnew (G : GS) (x1 : Int32) : GS := if f_X6_isIndex x1 (nI (gnS G)) = 0 then G else g_X6_pointsAnew G x1.toNatClampNeg
theorem t_X6_pointsAnew (l : Launch) (D : va_G) (cy : Nat → ClassId) (A : Nat → Prop) (μ : MU) (AD : AM) (G : GS) (hM : RepC cy AD G μ) (hI : InvC G) (x1 : Int32) (hlf : l.stackTraces = false) : vx_Met l yX6_pointsAnew (WS yX6_pointsAnew cX6_pointsAnew 2 (Option.some Jvm.ClassFile.FieldType.int)) { frames := 7, cells := 1, slots := 6, locals := 140 } (va_Pc [.ref (AD 0 0 0), .int x1] (Wd D cy A μ)) (va_Qi (fun (r9 : Int32) (μ1 : MU) => K_pointsAnew G x1 = 0 ∧ r9 = F_pointsAnew G x1 ∧ ∃ AD1 : AM, AD1 0 = AD 0 ∧ RepC cy AD1 (H_pointsAnew G x1) μ1) (fun μ1 t => Wd D cy A μ1 t) A) (XC9 D A μ (xnm (K_pointsAnew G x1))) 1 6 A := by
  by_cases hb : f_X6_isIndex x1 (nI (gnS G)) = 0
  · have eK : K_pointsAnew G x1 = 3 := if_pos hb
    rw [eK]
    exact vx_up (c_X6_pointsAnew_b l D cy A μ AD G hM hI x1 hb hlf) (Nat.le_of_ble_eq_true rfl) (Nat.le_of_ble_eq_true rfl) (Nat.le_of_ble_eq_true rfl) (Nat.le_of_ble_eq_true rfl) (Nat.le_of_ble_eq_true rfl) (Nat.le_of_ble_eq_true rfl) (fun _ _ _ _ q => q.elim) (fun _ _ _ q => q)
  · have hi := isx_get (n := gnS G) (Nat.lt_of_le_of_lt hI.s.2.1 (by decide)) hb
    have h := c_X6_pointsAnew l D cy A μ AD G hM hI x1.toNatClampNeg hi.1 hlf
    rw [← hi.2] at h
    have eK := (show K_pointsAnew G x1 = x_X6_pointsAnew G x1.toNatClampNeg from if_neg hb)
    have eF := (show F_pointsAnew G x1 = f_X6_pointsAnew G x1.toNatClampNeg from if_neg hb)
    have eH := (show H_pointsAnew G x1 = g_X6_pointsAnew G x1.toNatClampNeg from if_neg hb)
    rw [eK, eF, eH]
    exact vx_up h (Nat.le_of_ble_eq_true rfl) (Nat.le_of_ble_eq_true rfl) (Nat.le_of_ble_eq_true rfl) (Nat.le_of_ble_eq_true rfl) (Nat.le_of_ble_eq_true rfl) (Nat.le_of_ble_eq_true rfl) (fun _ _ _ _ q => q) (fun _ _ _ q => q)
def K_isGround (G : GS) (x1 x2 : Int32) : Nat := if f_X6_isIndex x1 (nI (gnS G)) = 0 then 3 else x_X6_isGround G x1.toNatClampNeg x2
def F_isGround (G : GS) (x1 x2 : Int32) : Int32 := if f_X6_isIndex x1 (nI (gnS G)) = 0 then 0 else f_X6_isGround G x1.toNatClampNeg x2
def H_isGround (G : GS) (x1 x2 : Int32) : GS := if f_X6_isIndex x1 (nI (gnS G)) = 0 then G else g_X6_isGround G x1.toNatClampNeg x2
theorem t_X6_isGround (l : Launch) (D : va_G) (cy : Nat → ClassId) (A : Nat → Prop) (μ : MU) (AD : AM) (G : GS) (hM : RepC cy AD G μ) (hI : InvC G) (x1 x2 : Int32) (hlf : l.stackTraces = false) : vx_Met l yX6_isGround (WS yX6_isGround cX6_isGround 4 (Option.some Jvm.ClassFile.FieldType.boolean)) { frames := 7, cells := 1, slots := 6, locals := 121 } (va_Pc [.ref (AD 0 0 0), .int x1, .int x2] (Wd D cy A μ)) (va_Qi (fun (r9 : Int32) (μ1 : MU) => K_isGround G x1 x2 = 0 ∧ r9 = F_isGround G x1 x2 ∧ ∃ AD1 : AM, AD1 0 = AD 0 ∧ RepC cy AD1 (H_isGround G x1 x2) μ1) (fun μ1 t => Wd D cy A μ1 t) A) (XC9 D A μ (xnm (K_isGround G x1 x2))) 1 6 A := by
  by_cases hb : f_X6_isIndex x1 (nI (gnS G)) = 0
  · have eK : K_isGround G x1 x2 = 3 := if_pos hb
    rw [eK]
    exact vx_up (c_X6_isGround_b l D cy A μ AD G hM hI x1 x2 hb hlf) (Nat.le_of_ble_eq_true rfl) (Nat.le_of_ble_eq_true rfl) (Nat.le_of_ble_eq_true rfl) (Nat.le_of_ble_eq_true rfl) (Nat.le_of_ble_eq_true rfl) (Nat.le_of_ble_eq_true rfl) (fun _ _ _ _ q => q.elim) (fun _ _ _ q => q)
  · have hi := isx_get (n := gnS G) (Nat.lt_of_le_of_lt hI.s.2.1 (by decide)) hb
    have h := c_X6_isGround l D cy A μ AD G hM hI x1.toNatClampNeg x2 hi.1 hlf
    rw [← hi.2] at h
    have eK := (show K_isGround G x1 x2 = x_X6_isGround G x1.toNatClampNeg x2 from if_neg hb)
    have eF := (show F_isGround G x1 x2 = f_X6_isGround G x1.toNatClampNeg x2 from if_neg hb)
    have eH := (show H_isGround G x1 x2 = g_X6_isGround G x1.toNatClampNeg x2 from if_neg hb)
    rw [eK, eF, eH]
    exact vx_up h (Nat.le_of_ble_eq_true rfl) (Nat.le_of_ble_eq_true rfl) (Nat.le_of_ble_eq_true rfl) (Nat.le_of_ble_eq_true rfl) (Nat.le_of_ble_eq_true rfl) (Nat.le_of_ble_eq_true rfl) (fun _ _ _ _ q => q) (fun _ _ _ q => q)
def K_ofVisit (G : GS) (x1 x2 : Int32) : Nat := if f_X6_isIndex x1 (nI (gnV G)) = 0 then 3 else x_X6_ofVisit G x1.toNatClampNeg x2
def F_ofVisit (G : GS) (x1 x2 : Int32) : Int32 := if f_X6_isIndex x1 (nI (gnV G)) = 0 then 0 else f_X6_ofVisit G x1.toNatClampNeg x2
def H_ofVisit (G : GS) (x1 x2 : Int32) : GS := if f_X6_isIndex x1 (nI (gnV G)) = 0 then G else g_X6_ofVisit G x1.toNatClampNeg x2
theorem t_X6_ofVisit (l : Launch) (D : va_G) (cy : Nat → ClassId) (A : Nat → Prop) (μ : MU) (AD : AM) (G : GS) (hM : RepC cy AD G μ) (hI : InvC G) (x1 x2 : Int32) (hlf : l.stackTraces = false) : vx_Met l yX6_ofVisit (WS yX6_ofVisit cX6_ofVisit 4 (Option.some Jvm.ClassFile.FieldType.int)) { frames := 7, cells := 1, slots := 6, locals := 121 } (va_Pc [.ref (AD 0 0 0), .int x1, .int x2] (Wd D cy A μ)) (va_Qi (fun (r9 : Int32) (μ1 : MU) => K_ofVisit G x1 x2 = 0 ∧ r9 = F_ofVisit G x1 x2 ∧ ∃ AD1 : AM, AD1 0 = AD 0 ∧ RepC cy AD1 (H_ofVisit G x1 x2) μ1) (fun μ1 t => Wd D cy A μ1 t) A) (XC9 D A μ (xnm (K_ofVisit G x1 x2))) 1 6 A := by
  by_cases hb : f_X6_isIndex x1 (nI (gnV G)) = 0
  · have eK : K_ofVisit G x1 x2 = 3 := if_pos hb
    rw [eK]
    exact vx_up (c_X6_ofVisit_b l D cy A μ AD G hM hI x1 x2 hb hlf) (Nat.le_of_ble_eq_true rfl) (Nat.le_of_ble_eq_true rfl) (Nat.le_of_ble_eq_true rfl) (Nat.le_of_ble_eq_true rfl) (Nat.le_of_ble_eq_true rfl) (Nat.le_of_ble_eq_true rfl) (fun _ _ _ _ q => q.elim) (fun _ _ _ q => q)
  · have hi := isx_get (n := gnV G) (Nat.lt_of_le_of_lt hI.v.2.1 (by decide)) hb
    have h := c_X6_ofVisit l D cy A μ AD G hM hI x1.toNatClampNeg x2 hi.1 hlf
    rw [← hi.2] at h
    have eK := (show K_ofVisit G x1 x2 = x_X6_ofVisit G x1.toNatClampNeg x2 from if_neg hb)
    have eF := (show F_ofVisit G x1 x2 = f_X6_ofVisit G x1.toNatClampNeg x2 from if_neg hb)
    have eH := (show H_ofVisit G x1 x2 = g_X6_ofVisit G x1.toNatClampNeg x2 from if_neg hb)
    rw [eK, eF, eH]
    exact vx_up h (Nat.le_of_ble_eq_true rfl) (Nat.le_of_ble_eq_true rfl) (Nat.le_of_ble_eq_true rfl) (Nat.le_of_ble_eq_true rfl) (Nat.le_of_ble_eq_true rfl) (Nat.le_of_ble_eq_true rfl) (fun _ _ _ _ q => q) (fun _ _ _ q => q)
def K_list (G : GS) (x1 : Int32) : Nat := x_X6_list G x1
def F_list (G : GS) (x1 : Int32) : Int32 := f_X6_list G x1
def H_list (G : GS) (x1 : Int32) : GS := g_X6_list G x1
theorem t_X6_list (l : Launch) (D : va_G) (cy : Nat → ClassId) (A : Nat → Prop) (μ : MU) (AD : AM) (G : GS) (hM : RepC cy AD G μ) (hI : InvC G) (x1 : Int32) (hlf : l.stackTraces = false) : vx_Met l yX6_list (WS yX6_list cX6_list 2 (Option.some Jvm.ClassFile.FieldType.int)) { frames := 6, cells := 1, slots := 6, locals := 100 } (va_Pc [.ref (AD 0 0 0), .int x1] (Wd D cy A μ)) (va_Qi (fun (r9 : Int32) (μ1 : MU) => K_list G x1 = 0 ∧ r9 = F_list G x1 ∧ ∃ AD1 : AM, AD1 0 = AD 0 ∧ RepC cy AD1 (H_list G x1) μ1) (fun μ1 t => Wd D cy A μ1 t) A) (XC9 D A μ (xnm (K_list G x1))) 1 6 A := by
  exact c_X6_list l D cy A μ AD G hM hI x1 hlf
def K_missed (G : GS) (x1 : Int32) : Nat := if f_X6_isIndex x1 4 = 0 then 3 else x_X6_missed G x1.toNatClampNeg
def F_missed (G : GS) (x1 : Int32) : Int32 := if f_X6_isIndex x1 4 = 0 then 0 else f_X6_missed G x1.toNatClampNeg
def H_missed (G : GS) (x1 : Int32) : GS := if f_X6_isIndex x1 4 = 0 then G else g_X6_missed G x1.toNatClampNeg
theorem t_X6_missed (l : Launch) (D : va_G) (cy : Nat → ClassId) (A : Nat → Prop) (μ : MU) (AD : AM) (G : GS) (hM : RepC cy AD G μ) (hI : InvC G) (x1 : Int32) (hlf : l.stackTraces = false) : vx_Met l yX6_missed (WS yX6_missed cX6_missed 2 (Option.some Jvm.ClassFile.FieldType.int)) { frames := 6, cells := 1, slots := 6, locals := 100 } (va_Pc [.ref (AD 0 0 0), .int x1] (Wd D cy A μ)) (va_Qi (fun (r9 : Int32) (μ1 : MU) => K_missed G x1 = 0 ∧ r9 = F_missed G x1 ∧ ∃ AD1 : AM, AD1 0 = AD 0 ∧ RepC cy AD1 (H_missed G x1) μ1) (fun μ1 t => Wd D cy A μ1 t) A) (XC9 D A μ (xnm (K_missed G x1))) 1 6 A := by
  by_cases hb : f_X6_isIndex x1 4 = 0
  · have eK : K_missed G x1 = 3 := if_pos hb
    rw [eK]
    exact vx_up (c_X6_missed_b l D cy A μ AD G hM hI x1 hb hlf) (Nat.le_of_ble_eq_true rfl) (Nat.le_of_ble_eq_true rfl) (Nat.le_of_ble_eq_true rfl) (Nat.le_of_ble_eq_true rfl) (Nat.le_of_ble_eq_true rfl) (Nat.le_of_ble_eq_true rfl) (fun _ _ _ _ q => q.elim) (fun _ _ _ q => q)
  · have hi := isx_get (n := 4) (by decide : 4 < 2 ^ 31) hb
    have h := c_X6_missed l D cy A μ AD G hM hI x1.toNatClampNeg hi.1 hlf
    rw [← hi.2] at h
    have eK := (show K_missed G x1 = x_X6_missed G x1.toNatClampNeg from if_neg hb)
    have eF := (show F_missed G x1 = f_X6_missed G x1.toNatClampNeg from if_neg hb)
    have eH := (show H_missed G x1 = g_X6_missed G x1.toNatClampNeg from if_neg hb)
    rw [eK, eF, eH]
    exact vx_up h (Nat.le_of_ble_eq_true rfl) (Nat.le_of_ble_eq_true rfl) (Nat.le_of_ble_eq_true rfl) (Nat.le_of_ble_eq_true rfl) (Nat.le_of_ble_eq_true rfl) (Nat.le_of_ble_eq_true rfl) (fun _ _ _ _ q => q) (fun _ _ _ q => q)
def K_knew (G : GS) (x1 x2 x3 : Int32) : Nat := if f_X6_isIndex x1 (nI (gnS G)) = 0 then 3 else x_X6_knew G x1.toNatClampNeg x2 x3
def F_knew (G : GS) (x1 x2 x3 : Int32) : Int32 := if f_X6_isIndex x1 (nI (gnS G)) = 0 then 0 else f_X6_knew G x1.toNatClampNeg x2 x3
def H_knew (G : GS) (x1 x2 x3 : Int32) : GS := if f_X6_isIndex x1 (nI (gnS G)) = 0 then G else g_X6_knew G x1.toNatClampNeg x2 x3
theorem t_X6_knew (l : Launch) (D : va_G) (cy : Nat → ClassId) (A : Nat → Prop) (μ : MU) (AD : AM) (G : GS) (hM : RepC cy AD G μ) (hI : InvC G) (x1 x2 x3 : Int32) (hlf : l.stackTraces = false) : vx_Met l yX6_knew (WS yX6_knew cX6_knew 8 (Option.some Jvm.ClassFile.FieldType.int)) { frames := 7, cells := 1, slots := 6, locals := 121 } (va_Pc [.ref (AD 0 0 0), .int x1, .int x2, .int x3] (Wd D cy A μ)) (va_Qi (fun (r9 : Int32) (μ1 : MU) => K_knew G x1 x2 x3 = 0 ∧ r9 = F_knew G x1 x2 x3 ∧ ∃ AD1 : AM, AD1 0 = AD 0 ∧ RepC cy AD1 (H_knew G x1 x2 x3) μ1) (fun μ1 t => Wd D cy A μ1 t) A) (XC9 D A μ (xnm (K_knew G x1 x2 x3))) 1 6 A := by
  by_cases hb : f_X6_isIndex x1 (nI (gnS G)) = 0
  · have eK : K_knew G x1 x2 x3 = 3 := if_pos hb
    rw [eK]
    exact vx_up (c_X6_knew_b l D cy A μ AD G hM hI x1 x2 x3 hb hlf) (Nat.le_of_ble_eq_true rfl) (Nat.le_of_ble_eq_true rfl) (Nat.le_of_ble_eq_true rfl) (Nat.le_of_ble_eq_true rfl) (Nat.le_of_ble_eq_true rfl) (Nat.le_of_ble_eq_true rfl) (fun _ _ _ _ q => q.elim) (fun _ _ _ q => q)
  · have hi := isx_get (n := gnS G) (Nat.lt_of_le_of_lt hI.s.2.1 (by decide)) hb
    have h := c_X6_knew l D cy A μ AD G hM hI x1.toNatClampNeg x2 x3 hi.1 hlf
    rw [← hi.2] at h
    have eK := (show K_knew G x1 x2 x3 = x_X6_knew G x1.toNatClampNeg x2 x3 from if_neg hb)
    have eF := (show F_knew G x1 x2 x3 = f_X6_knew G x1.toNatClampNeg x2 x3 from if_neg hb)
    have eH := (show H_knew G x1 x2 x3 = g_X6_knew G x1.toNatClampNeg x2 x3 from if_neg hb)
    rw [eK, eF, eH]
    exact vx_up h (Nat.le_of_ble_eq_true rfl) (Nat.le_of_ble_eq_true rfl) (Nat.le_of_ble_eq_true rfl) (Nat.le_of_ble_eq_true rfl) (Nat.le_of_ble_eq_true rfl) (Nat.le_of_ble_eq_true rfl) (fun _ _ _ _ q => q) (fun _ _ _ q => q)
theorem shp_get {M : GS} {x : Int32} (hI : InvM M) (h : ¬ f_X7_isShip M x = 0) : x.toNatClampNeg < gnS M ∧ x = nI x.toNatClampNeg := by
  have h9 := hI.1
  unfold f_X7_isShip at h
  rw [h9.1] at h
  exact xin_get' (by omega) h
theorem vis_get {M : GS} {x : Int32} (hI : InvM M) (h : ¬ f_X7_isVisit M x = 0) : x.toNatClampNeg < gnV M ∧ x = nI x.toNatClampNeg := by
  have h9 := hI.2.2.1
  unfold f_X7_isVisit at h
  rw [h9.1] at h
  exact xin_get' (by omega) h
def FM_pass (M : GS) (x1 : Int32) : Int32 := f_X7_pass M x1
def HM_pass (M : GS) (x1 : Int32) : GS := g_X7_pass M x1
theorem t_X7_pass (l : Launch) (D : va_G) (cy : Nat → ClassId) (A : Nat → Prop) (μ : MU) (m0 : Nat) (ad : Nat → Nat) (M : GS) (hM : RepM cy m0 ad M μ) (hI : InvM M) (x1 : Int32) : Met l yX7_pass (WS yX7_pass cX7_pass 2 (Option.some Jvm.ClassFile.FieldType.int)) { frames := 1, cells := 0, slots := 0, locals := 22 } (va_Pc [.ref m0, .int x1] (Wd D cy A μ)) (va_Qi (fun (r9 : Int32) (μ1 : MU) => r9 = FM_pass M x1 ∧ RepM cy m0 ad (HM_pass M x1) μ1) (fun μ1 t => Wd D cy A μ1 t) A) 0 0 A := by
  have h := c_X7_pass l D cy A μ m0 ad M hM x1
  have eF : FM_pass M x1 = f_X7_pass M x1 := rfl
  have eH : HM_pass M x1 = g_X7_pass M x1 := rfl
  rw [eF, eH]
  exact met_up h (Nat.le_of_ble_eq_true rfl) (Nat.le_of_ble_eq_true rfl) (Nat.le_of_ble_eq_true rfl) (Nat.le_of_ble_eq_true rfl) (fun _ _ _ _ q => q)
def FM_ship (M : GS) (x1 x2 x3 x4 x5 : Int32) : Int32 := if M 3 0 = 12 then f_X7_ship_b M x1 x2 x3 x4 x5 else f_X7_ship M x1 x2 x3 x4 x5
def HM_ship (M : GS) (x1 x2 x3 x4 x5 : Int32) : GS := if M 3 0 = 12 then g_X7_ship_b M x1 x2 x3 x4 x5 else g_X7_ship M x1 x2 x3 x4 x5
theorem t_X7_ship (l : Launch) (D : va_G) (cy : Nat → ClassId) (A : Nat → Prop) (μ : MU) (m0 : Nat) (ad : Nat → Nat) (M : GS) (hM : RepM cy m0 ad M μ) (hI : InvM M) (x1 x2 x3 x4 x5 : Int32) : Met l yX7_ship (WS yX7_ship cX7_ship 7 (Option.some Jvm.ClassFile.FieldType.int)) { frames := 2, cells := 0, slots := 0, locals := 42 } (va_Pc [.ref m0, .int x1, .int x2, .int x3, .int x4, .int x5] (Wd D cy A μ)) (va_Qi (fun (r9 : Int32) (μ1 : MU) => r9 = FM_ship M x1 x2 x3 x4 x5 ∧ RepM cy m0 ad (HM_ship M x1 x2 x3 x4 x5) μ1) (fun μ1 t => Wd D cy A μ1 t) A) 0 0 A := by
  by_cases hb1 : M 3 0 = 12
  · have h := c_X7_ship_b l D cy A μ m0 ad M hM x1 x2 x3 x4 x5 hb1
    have eF : FM_ship M x1 x2 x3 x4 x5 = f_X7_ship_b M x1 x2 x3 x4 x5 := if_pos hb1
    have eH : HM_ship M x1 x2 x3 x4 x5 = g_X7_ship_b M x1 x2 x3 x4 x5 := if_pos hb1
    rw [eF, eH]
    exact met_up h (Nat.le_of_ble_eq_true rfl) (Nat.le_of_ble_eq_true rfl) (Nat.le_of_ble_eq_true rfl) (Nat.le_of_ble_eq_true rfl) (fun _ _ _ _ q => q)
  · have h := c_X7_ship l D cy A μ m0 ad M hM x1 x2 x3 x4 x5 hI (ne_le hI.1.1 hI.1.2 hb1)
    have eF : FM_ship M x1 x2 x3 x4 x5 = f_X7_ship M x1 x2 x3 x4 x5 := if_neg hb1
    have eH : HM_ship M x1 x2 x3 x4 x5 = g_X7_ship M x1 x2 x3 x4 x5 := if_neg hb1
    rw [eF, eH]
    exact met_up h (Nat.le_of_ble_eq_true rfl) (Nat.le_of_ble_eq_true rfl) (Nat.le_of_ble_eq_true rfl) (Nat.le_of_ble_eq_true rfl) (fun _ _ _ _ q => q)
def FM_changes (M : GS) (x1 x2 x3 : Int32) : Int32 := if f_X7_isShip M x1 = 0 then f_X7_changes_b M x1 x2 x3 else f_X7_changes M x1.toNatClampNeg x2 x3
def HM_changes (M : GS) (x1 x2 x3 : Int32) : GS := if f_X7_isShip M x1 = 0 then g_X7_changes_b M x1 x2 x3 else g_X7_changes M x1.toNatClampNeg x2 x3
theorem t_X7_changes (l : Launch) (D : va_G) (cy : Nat → ClassId) (A : Nat → Prop) (μ : MU) (m0 : Nat) (ad : Nat → Nat) (M : GS) (hM : RepM cy m0 ad M μ) (hI : InvM M) (x1 x2 x3 : Int32) : Met l yX7_changes (WS yX7_changes cX7_changes 4 (Option.some Jvm.ClassFile.FieldType.int)) { frames := 2, cells := 0, slots := 0, locals := 43 } (va_Pc [.ref m0, .int x1, .int x2, .int x3] (Wd D cy A μ)) (va_Qi (fun (r9 : Int32) (μ1 : MU) => r9 = FM_changes M x1 x2 x3 ∧ RepM cy m0 ad (HM_changes M x1 x2 x3) μ1) (fun μ1 t => Wd D cy A μ1 t) A) 0 0 A := by
  by_cases hb1 : f_X7_isShip M x1 = 0
  · have h := c_X7_changes_b l D cy A μ m0 ad M hM x1 x2 x3 hb1
    have eF : FM_changes M x1 x2 x3 = f_X7_changes_b M x1 x2 x3 := if_pos hb1
    have eH : HM_changes M x1 x2 x3 = g_X7_changes_b M x1 x2 x3 := if_pos hb1
    rw [eF, eH]
    exact met_up h (Nat.le_of_ble_eq_true rfl) (Nat.le_of_ble_eq_true rfl) (Nat.le_of_ble_eq_true rfl) (Nat.le_of_ble_eq_true rfl) (fun _ _ _ _ q => q)
  · have hi := shp_get hI hb1
    have hi12 : x1.toNatClampNeg < 12 := Nat.lt_of_lt_of_le hi.1 hI.1.2
    have h := c_X7_changes l D cy A μ m0 ad M hM x1.toNatClampNeg x2 x3 hi12
    rw [← hi.2] at h
    have eF : FM_changes M x1 x2 x3 = f_X7_changes M x1.toNatClampNeg x2 x3 := if_neg hb1
    have eH : HM_changes M x1 x2 x3 = g_X7_changes M x1.toNatClampNeg x2 x3 := if_neg hb1
    rw [eF, eH]
    exact met_up h (Nat.le_of_ble_eq_true rfl) (Nat.le_of_ble_eq_true rfl) (Nat.le_of_ble_eq_true rfl) (Nat.le_of_ble_eq_true rfl) (fun _ _ _ _ q => q)
def FM_suspend (M : GS) (x1 x2 : Int32) : Int32 := if f_X7_isBody x1 = 0 then f_X7_suspend_b M x1 x2 else f_X7_suspend M x1.toNatClampNeg x2
def HM_suspend (M : GS) (x1 x2 : Int32) : GS := if f_X7_isBody x1 = 0 then g_X7_suspend_b M x1 x2 else g_X7_suspend M x1.toNatClampNeg x2
theorem t_X7_suspend (l : Launch) (D : va_G) (cy : Nat → ClassId) (A : Nat → Prop) (μ : MU) (m0 : Nat) (ad : Nat → Nat) (M : GS) (hM : RepM cy m0 ad M μ) (hI : InvM M) (x1 x2 : Int32) (hx2 : x2 = 0 ∨ x2 = 1) : Met l yX7_suspend (WS yX7_suspend cX7_suspend 4 (Option.some Jvm.ClassFile.FieldType.boolean)) { frames := 2, cells := 0, slots := 0, locals := 42 } (va_Pc [.ref m0, .int x1, .int x2] (Wd D cy A μ)) (va_Qi (fun (r9 : Int32) (μ1 : MU) => r9 = FM_suspend M x1 x2 ∧ RepM cy m0 ad (HM_suspend M x1 x2) μ1) (fun μ1 t => Wd D cy A μ1 t) A) 0 0 A := by
  by_cases hb1 : f_X7_isBody x1 = 0
  · have h := c_X7_suspend_b l D cy A μ m0 ad M hM x1 x2 hb1
    have eF : FM_suspend M x1 x2 = f_X7_suspend_b M x1 x2 := if_pos hb1
    have eH : HM_suspend M x1 x2 = g_X7_suspend_b M x1 x2 := if_pos hb1
    rw [eF, eH]
    exact met_up h (Nat.le_of_ble_eq_true rfl) (Nat.le_of_ble_eq_true rfl) (Nat.le_of_ble_eq_true rfl) (Nat.le_of_ble_eq_true rfl) (fun _ _ _ _ q => q)
  · have hi := xin_get' (n := 4) (by decide) hb1
    have h := c_X7_suspend l D cy A μ m0 ad M hM x1.toNatClampNeg x2 hi.1 hx2 hI
    rw [← hi.2] at h
    have eF : FM_suspend M x1 x2 = f_X7_suspend M x1.toNatClampNeg x2 := if_neg hb1
    have eH : HM_suspend M x1 x2 = g_X7_suspend M x1.toNatClampNeg x2 := if_neg hb1
    rw [eF, eH]
    exact met_up h (Nat.le_of_ble_eq_true rfl) (Nat.le_of_ble_eq_true rfl) (Nat.le_of_ble_eq_true rfl) (Nat.le_of_ble_eq_true rfl) (fun _ _ _ _ q => q)
def FM_rule (M : GS) (x1 x2 x3 x4 x5 : Int32) : Int32 := if M 23 0 = 20 then f_X7_rule_b M x1 x2 x3 x4 x5 else f_X7_rule M x1 x2 x3 x4 x5
def HM_rule (M : GS) (x1 x2 x3 x4 x5 : Int32) : GS := if M 23 0 = 20 then g_X7_rule_b M x1 x2 x3 x4 x5 else g_X7_rule M x1 x2 x3 x4 x5
theorem t_X7_rule (l : Launch) (D : va_G) (cy : Nat → ClassId) (A : Nat → Prop) (μ : MU) (m0 : Nat) (ad : Nat → Nat) (M : GS) (hM : RepM cy m0 ad M μ) (hI : InvM M) (x1 x2 x3 x4 x5 : Int32) : Met l yX7_rule (WS yX7_rule cX7_rule 7 (Option.some Jvm.ClassFile.FieldType.int)) { frames := 1, cells := 0, slots := 0, locals := 22 } (va_Pc [.ref m0, .int x1, .int x2, .int x3, .int x4, .int x5] (Wd D cy A μ)) (va_Qi (fun (r9 : Int32) (μ1 : MU) => r9 = FM_rule M x1 x2 x3 x4 x5 ∧ RepM cy m0 ad (HM_rule M x1 x2 x3 x4 x5) μ1) (fun μ1 t => Wd D cy A μ1 t) A) 0 0 A := by
  by_cases hb1 : M 23 0 = 20
  · have h := c_X7_rule_b l D cy A μ m0 ad M hM x1 x2 x3 x4 x5 hb1
    have eF : FM_rule M x1 x2 x3 x4 x5 = f_X7_rule_b M x1 x2 x3 x4 x5 := if_pos hb1
    have eH : HM_rule M x1 x2 x3 x4 x5 = g_X7_rule_b M x1 x2 x3 x4 x5 := if_pos hb1
    rw [eF, eH]
    exact met_up h (Nat.le_of_ble_eq_true rfl) (Nat.le_of_ble_eq_true rfl) (Nat.le_of_ble_eq_true rfl) (Nat.le_of_ble_eq_true rfl) (fun _ _ _ _ q => q)
  · have h := c_X7_rule l D cy A μ m0 ad M hM x1 x2 x3 x4 x5 hI (ne_le hI.2.1.1 hI.2.1.2 hb1)
    have eF : FM_rule M x1 x2 x3 x4 x5 = f_X7_rule M x1 x2 x3 x4 x5 := if_neg hb1
    have eH : HM_rule M x1 x2 x3 x4 x5 = g_X7_rule M x1 x2 x3 x4 x5 := if_neg hb1
    rw [eF, eH]
    exact met_up h (Nat.le_of_ble_eq_true rfl) (Nat.le_of_ble_eq_true rfl) (Nat.le_of_ble_eq_true rfl) (Nat.le_of_ble_eq_true rfl) (fun _ _ _ _ q => q)
def FM_issue (M : GS) (x1 x2 x3 : Int32) : Int32 := if f_X7_isShip M x1 = 0 then f_X7_issue_b M x1 x2 x3 else (if f_X7_in x2 0 4 = 0 then f_X7_issue_f M x1.toNatClampNeg x2 x3 else f_X7_issue M x1.toNatClampNeg x2.toNatClampNeg x3)
def HM_issue (M : GS) (x1 x2 x3 : Int32) : GS := if f_X7_isShip M x1 = 0 then g_X7_issue_b M x1 x2 x3 else (if f_X7_in x2 0 4 = 0 then g_X7_issue_f M x1.toNatClampNeg x2 x3 else g_X7_issue M x1.toNatClampNeg x2.toNatClampNeg x3)
theorem t_X7_issue (l : Launch) (D : va_G) (cy : Nat → ClassId) (A : Nat → Prop) (μ : MU) (m0 : Nat) (ad : Nat → Nat) (M : GS) (hM : RepM cy m0 ad M μ) (hI : InvM M) (x1 x2 x3 : Int32) : Met l yX7_issue (WS yX7_issue cX7_issue 5 (Option.some Jvm.ClassFile.FieldType.int)) { frames := 5, cells := 0, slots := 0, locals := 110 } (va_Pc [.ref m0, .int x1, .int x2, .int x3] (Wd D cy A μ)) (va_Qi (fun (r9 : Int32) (μ1 : MU) => r9 = FM_issue M x1 x2 x3 ∧ RepM cy m0 ad (HM_issue M x1 x2 x3) μ1) (fun μ1 t => Wd D cy A μ1 t) A) 0 0 A := by
  by_cases hb1 : f_X7_isShip M x1 = 0
  · have h := c_X7_issue_b l D cy A μ m0 ad M hM x1 x2 x3 hb1
    have eF : FM_issue M x1 x2 x3 = f_X7_issue_b M x1 x2 x3 := if_pos hb1
    have eH : HM_issue M x1 x2 x3 = g_X7_issue_b M x1 x2 x3 := if_pos hb1
    rw [eF, eH]
    exact met_up h (Nat.le_of_ble_eq_true rfl) (Nat.le_of_ble_eq_true rfl) (Nat.le_of_ble_eq_true rfl) (Nat.le_of_ble_eq_true rfl) (fun _ _ _ _ q => q)
  · have hi := shp_get hI hb1
    have hi12 : x1.toNatClampNeg < 12 := Nat.lt_of_lt_of_le hi.1 hI.1.2
    by_cases hb2 : f_X7_in x2 0 4 = 0
    · have h := c_X7_issue_f l D cy A μ m0 ad M hM x1.toNatClampNeg x2 x3 hi12 hb2
      rw [← hi.2] at h
      have eF : FM_issue M x1 x2 x3 = f_X7_issue_f M x1.toNatClampNeg x2 x3 := (if_neg hb1).trans (if_pos hb2)
      have eH : HM_issue M x1 x2 x3 = g_X7_issue_f M x1.toNatClampNeg x2 x3 := (if_neg hb1).trans (if_pos hb2)
      rw [eF, eH]
      exact met_up h (Nat.le_of_ble_eq_true rfl) (Nat.le_of_ble_eq_true rfl) (Nat.le_of_ble_eq_true rfl) (Nat.le_of_ble_eq_true rfl) (fun _ _ _ _ q => q)
    · have hb3 := hb2
      have hi2 := xin_get' (n := 5) (by decide) hb2
      have h := c_X7_issue l D cy A μ m0 ad M hM x1.toNatClampNeg x2.toNatClampNeg x3 hi12 hi2.1 hI
      rw [← hi.2, ← hi2.2] at h
      have eF : FM_issue M x1 x2 x3 = f_X7_issue M x1.toNatClampNeg x2.toNatClampNeg x3 := (if_neg hb1).trans (if_neg hb3)
      have eH : HM_issue M x1 x2 x3 = g_X7_issue M x1.toNatClampNeg x2.toNatClampNeg x3 := (if_neg hb1).trans (if_neg hb3)
      rw [eF, eH]
      exact met_up h (Nat.le_of_ble_eq_true rfl) (Nat.le_of_ble_eq_true rfl) (Nat.le_of_ble_eq_true rfl) (Nat.le_of_ble_eq_true rfl) (fun _ _ _ _ q => q)
def FM_endorse (M : GS) (x1 x2 : Int32) : Int32 := if f_X7_isShip M x1 = 0 then f_X7_endorse_b M x1 x2 else (if f_X7_in x2 0 4 = 0 then f_X7_endorse_f M x1.toNatClampNeg x2 else f_X7_endorse M x1.toNatClampNeg x2.toNatClampNeg)
def HM_endorse (M : GS) (x1 x2 : Int32) : GS := if f_X7_isShip M x1 = 0 then g_X7_endorse_b M x1 x2 else (if f_X7_in x2 0 4 = 0 then g_X7_endorse_f M x1.toNatClampNeg x2 else g_X7_endorse M x1.toNatClampNeg x2.toNatClampNeg)
theorem t_X7_endorse (l : Launch) (D : va_G) (cy : Nat → ClassId) (A : Nat → Prop) (μ : MU) (m0 : Nat) (ad : Nat → Nat) (M : GS) (hM : RepM cy m0 ad M μ) (hI : InvM M) (x1 x2 : Int32) : Met l yX7_endorse (WS yX7_endorse cX7_endorse 4 (Option.some Jvm.ClassFile.FieldType.int)) { frames := 4, cells := 0, slots := 0, locals := 88 } (va_Pc [.ref m0, .int x1, .int x2] (Wd D cy A μ)) (va_Qi (fun (r9 : Int32) (μ1 : MU) => r9 = FM_endorse M x1 x2 ∧ RepM cy m0 ad (HM_endorse M x1 x2) μ1) (fun μ1 t => Wd D cy A μ1 t) A) 0 0 A := by
  by_cases hb1 : f_X7_isShip M x1 = 0
  · have h := c_X7_endorse_b l D cy A μ m0 ad M hM x1 x2 hb1
    have eF : FM_endorse M x1 x2 = f_X7_endorse_b M x1 x2 := if_pos hb1
    have eH : HM_endorse M x1 x2 = g_X7_endorse_b M x1 x2 := if_pos hb1
    rw [eF, eH]
    exact met_up h (Nat.le_of_ble_eq_true rfl) (Nat.le_of_ble_eq_true rfl) (Nat.le_of_ble_eq_true rfl) (Nat.le_of_ble_eq_true rfl) (fun _ _ _ _ q => q)
  · have hi := shp_get hI hb1
    have hi12 : x1.toNatClampNeg < 12 := Nat.lt_of_lt_of_le hi.1 hI.1.2
    by_cases hb2 : f_X7_in x2 0 4 = 0
    · have h := c_X7_endorse_f l D cy A μ m0 ad M hM x1.toNatClampNeg x2 hi12 hb2
      rw [← hi.2] at h
      have eF : FM_endorse M x1 x2 = f_X7_endorse_f M x1.toNatClampNeg x2 := (if_neg hb1).trans (if_pos hb2)
      have eH : HM_endorse M x1 x2 = g_X7_endorse_f M x1.toNatClampNeg x2 := (if_neg hb1).trans (if_pos hb2)
      rw [eF, eH]
      exact met_up h (Nat.le_of_ble_eq_true rfl) (Nat.le_of_ble_eq_true rfl) (Nat.le_of_ble_eq_true rfl) (Nat.le_of_ble_eq_true rfl) (fun _ _ _ _ q => q)
    · have hb3 := hb2
      have hi2 := xin_get' (n := 5) (by decide) hb2
      have h := c_X7_endorse l D cy A μ m0 ad M hM x1.toNatClampNeg x2.toNatClampNeg hi12 hi2.1 hI
      rw [← hi.2, ← hi2.2] at h
      have eF : FM_endorse M x1 x2 = f_X7_endorse M x1.toNatClampNeg x2.toNatClampNeg := (if_neg hb1).trans (if_neg hb3)
      have eH : HM_endorse M x1 x2 = g_X7_endorse M x1.toNatClampNeg x2.toNatClampNeg := (if_neg hb1).trans (if_neg hb3)
      rw [eF, eH]
      exact met_up h (Nat.le_of_ble_eq_true rfl) (Nat.le_of_ble_eq_true rfl) (Nat.le_of_ble_eq_true rfl) (Nat.le_of_ble_eq_true rfl) (fun _ _ _ _ q => q)
def FM_calls (M : GS) (x1 x2 : Int32) : Int32 := if f_X7_isShip M x1 = 0 then f_X7_calls_b M x1 x2 else f_X7_calls M x1.toNatClampNeg x2
def HM_calls (M : GS) (x1 x2 : Int32) : GS := if f_X7_isShip M x1 = 0 then g_X7_calls_b M x1 x2 else g_X7_calls M x1.toNatClampNeg x2
theorem t_X7_calls (l : Launch) (D : va_G) (cy : Nat → ClassId) (A : Nat → Prop) (μ : MU) (m0 : Nat) (ad : Nat → Nat) (M : GS) (hM : RepM cy m0 ad M μ) (hI : InvM M) (x1 x2 : Int32) : Met l yX7_calls (WS yX7_calls cX7_calls 3 (Option.some Jvm.ClassFile.FieldType.int)) { frames := 5, cells := 0, slots := 0, locals := 117 } (va_Pc [.ref m0, .int x1, .int x2] (Wd D cy A μ)) (va_Qi (fun (r9 : Int32) (μ1 : MU) => r9 = FM_calls M x1 x2 ∧ RepM cy m0 ad (HM_calls M x1 x2) μ1) (fun μ1 t => Wd D cy A μ1 t) A) 0 0 A := by
  by_cases hb1 : f_X7_isShip M x1 = 0
  · have h := c_X7_calls_b l D cy A μ m0 ad M hM x1 x2 hb1
    have eF : FM_calls M x1 x2 = f_X7_calls_b M x1 x2 := if_pos hb1
    have eH : HM_calls M x1 x2 = g_X7_calls_b M x1 x2 := if_pos hb1
    rw [eF, eH]
    exact met_up h (Nat.le_of_ble_eq_true rfl) (Nat.le_of_ble_eq_true rfl) (Nat.le_of_ble_eq_true rfl) (Nat.le_of_ble_eq_true rfl) (fun _ _ _ _ q => q)
  · have hi := shp_get hI hb1
    have hi12 : x1.toNatClampNeg < 12 := Nat.lt_of_lt_of_le hi.1 hI.1.2
    have h := c_X7_calls l D cy A μ m0 ad M hM x1.toNatClampNeg x2 hi12 hI
    rw [← hi.2] at h
    have eF : FM_calls M x1 x2 = f_X7_calls M x1.toNatClampNeg x2 := if_neg hb1
    have eH : HM_calls M x1 x2 = g_X7_calls M x1.toNatClampNeg x2 := if_neg hb1
    rw [eF, eH]
    exact met_up h (Nat.le_of_ble_eq_true rfl) (Nat.le_of_ble_eq_true rfl) (Nat.le_of_ble_eq_true rfl) (Nat.le_of_ble_eq_true rfl) (fun _ _ _ _ q => q)
def FM_leaves (M : GS) (x1 : Int32) : Int32 := if f_X7_isShip M x1 = 0 then f_X7_leaves_b M x1 else (if M 10 x1.toNatClampNeg = -1 then f_X7_leaves_n M x1.toNatClampNeg else f_X7_leaves M x1.toNatClampNeg (M 10 x1.toNatClampNeg).toNatClampNeg)
def HM_leaves (M : GS) (x1 : Int32) : GS := if f_X7_isShip M x1 = 0 then g_X7_leaves_b M x1 else (if M 10 x1.toNatClampNeg = -1 then g_X7_leaves_n M x1.toNatClampNeg else g_X7_leaves M x1.toNatClampNeg (M 10 x1.toNatClampNeg).toNatClampNeg)
theorem t_X7_leaves (l : Launch) (D : va_G) (cy : Nat → ClassId) (A : Nat → Prop) (μ : MU) (m0 : Nat) (ad : Nat → Nat) (M : GS) (hM : RepM cy m0 ad M μ) (hI : InvM M) (x1 : Int32) (hp : ∀ s, s < gnS M → M 10 s = -1 ∨ (M 10 s = nI (M 10 s).toNatClampNeg ∧ (M 10 s).toNatClampNeg < 4)) : Met l yX7_leaves (WS yX7_leaves cX7_leaves 3 (Option.some Jvm.ClassFile.FieldType.boolean)) { frames := 5, cells := 0, slots := 0, locals := 117 } (va_Pc [.ref m0, .int x1] (Wd D cy A μ)) (va_Qi (fun (r9 : Int32) (μ1 : MU) => r9 = FM_leaves M x1 ∧ RepM cy m0 ad (HM_leaves M x1) μ1) (fun μ1 t => Wd D cy A μ1 t) A) 0 0 A := by
  by_cases hb1 : f_X7_isShip M x1 = 0
  · have h := c_X7_leaves_b l D cy A μ m0 ad M hM x1 hb1
    have eF : FM_leaves M x1 = f_X7_leaves_b M x1 := if_pos hb1
    have eH : HM_leaves M x1 = g_X7_leaves_b M x1 := if_pos hb1
    rw [eF, eH]
    exact met_up h (Nat.le_of_ble_eq_true rfl) (Nat.le_of_ble_eq_true rfl) (Nat.le_of_ble_eq_true rfl) (Nat.le_of_ble_eq_true rfl) (fun _ _ _ _ q => q)
  · have hi := shp_get hI hb1
    have hi12 : x1.toNatClampNeg < 12 := Nat.lt_of_lt_of_le hi.1 hI.1.2
    by_cases hb2 : M 10 x1.toNatClampNeg = -1
    · have h := c_X7_leaves_n l D cy A μ m0 ad M hM x1.toNatClampNeg hi12 hb2
      rw [← hi.2] at h
      have eF : FM_leaves M x1 = f_X7_leaves_n M x1.toNatClampNeg := (if_neg hb1).trans (if_pos hb2)
      have eH : HM_leaves M x1 = g_X7_leaves_n M x1.toNatClampNeg := (if_neg hb1).trans (if_pos hb2)
      rw [eF, eH]
      exact met_up h (Nat.le_of_ble_eq_true rfl) (Nat.le_of_ble_eq_true rfl) (Nat.le_of_ble_eq_true rfl) (Nat.le_of_ble_eq_true rfl) (fun _ _ _ _ q => q)
    · have h := c_X7_leaves l D cy A μ m0 ad M hM x1.toNatClampNeg (M 10 x1.toNatClampNeg).toNatClampNeg hi12 ((hp _ hi.1).resolve_left hb2).2 hI ((hp _ hi.1).resolve_left hb2).1
      rw [← hi.2] at h
      have eF : FM_leaves M x1 = f_X7_leaves M x1.toNatClampNeg (M 10 x1.toNatClampNeg).toNatClampNeg := (if_neg hb1).trans (if_neg hb2)
      have eH : HM_leaves M x1 = g_X7_leaves M x1.toNatClampNeg (M 10 x1.toNatClampNeg).toNatClampNeg := (if_neg hb1).trans (if_neg hb2)
      rw [eF, eH]
      exact met_up h (Nat.le_of_ble_eq_true rfl) (Nat.le_of_ble_eq_true rfl) (Nat.le_of_ble_eq_true rfl) (Nat.le_of_ble_eq_true rfl) (fun _ _ _ _ q => q)
def FM_visit (M : GS) (x1 : Int32) : Int32 := if f_X7_isShip M x1 = 0 then f_X7_visit_b M x1 else (if M 29 0 = 60 then f_X7_visit_n M x1.toNatClampNeg else f_X7_visit M x1.toNatClampNeg)
def HM_visit (M : GS) (x1 : Int32) : GS := if f_X7_isShip M x1 = 0 then g_X7_visit_b M x1 else (if M 29 0 = 60 then g_X7_visit_n M x1.toNatClampNeg else g_X7_visit M x1.toNatClampNeg)
theorem t_X7_visit (l : Launch) (D : va_G) (cy : Nat → ClassId) (A : Nat → Prop) (μ : MU) (m0 : Nat) (ad : Nat → Nat) (M : GS) (hM : RepM cy m0 ad M μ) (hI : InvM M) (x1 : Int32) : Met l yX7_visit (WS yX7_visit cX7_visit 4 (Option.some Jvm.ClassFile.FieldType.int)) { frames := 5, cells := 0, slots := 0, locals := 111 } (va_Pc [.ref m0, .int x1] (Wd D cy A μ)) (va_Qi (fun (r9 : Int32) (μ1 : MU) => r9 = FM_visit M x1 ∧ RepM cy m0 ad (HM_visit M x1) μ1) (fun μ1 t => Wd D cy A μ1 t) A) 0 0 A := by
  by_cases hb1 : f_X7_isShip M x1 = 0
  · have h := c_X7_visit_b l D cy A μ m0 ad M hM x1 hb1
    have eF : FM_visit M x1 = f_X7_visit_b M x1 := if_pos hb1
    have eH : HM_visit M x1 = g_X7_visit_b M x1 := if_pos hb1
    rw [eF, eH]
    exact met_up h (Nat.le_of_ble_eq_true rfl) (Nat.le_of_ble_eq_true rfl) (Nat.le_of_ble_eq_true rfl) (Nat.le_of_ble_eq_true rfl) (fun _ _ _ _ q => q)
  · have hi := shp_get hI hb1
    have hi12 : x1.toNatClampNeg < 12 := Nat.lt_of_lt_of_le hi.1 hI.1.2
    by_cases hb2 : M 29 0 = 60
    · have h := c_X7_visit_n l D cy A μ m0 ad M hM x1.toNatClampNeg hi12 hb2
      rw [← hi.2] at h
      have eF : FM_visit M x1 = f_X7_visit_n M x1.toNatClampNeg := (if_neg hb1).trans (if_pos hb2)
      have eH : HM_visit M x1 = g_X7_visit_n M x1.toNatClampNeg := (if_neg hb1).trans (if_pos hb2)
      rw [eF, eH]
      exact met_up h (Nat.le_of_ble_eq_true rfl) (Nat.le_of_ble_eq_true rfl) (Nat.le_of_ble_eq_true rfl) (Nat.le_of_ble_eq_true rfl) (fun _ _ _ _ q => q)
    · have h := c_X7_visit l D cy A μ m0 ad M hM x1.toNatClampNeg hi12 hI (ne_le hI.2.2.1.1 hI.2.2.1.2 hb2)
      rw [← hi.2] at h
      have eF : FM_visit M x1 = f_X7_visit M x1.toNatClampNeg := (if_neg hb1).trans (if_neg hb2)
      have eH : HM_visit M x1 = g_X7_visit M x1.toNatClampNeg := (if_neg hb1).trans (if_neg hb2)
      rw [eF, eH]
      exact met_up h (Nat.le_of_ble_eq_true rfl) (Nat.le_of_ble_eq_true rfl) (Nat.le_of_ble_eq_true rfl) (Nat.le_of_ble_eq_true rfl) (fun _ _ _ _ q => q)
def FM_finds (M : GS) (x1 x2 x3 : Int32) : Int32 := if f_X7_isVisit M x1 = 0 then f_X7_finds_b M x1 x2 x3 else (if M 35 x1.toNatClampNeg = 12 then f_X7_finds_n M x1.toNatClampNeg x2 x3 (M 30 x1.toNatClampNeg).toNatClampNeg else f_X7_finds M x1.toNatClampNeg x2 x3 (M 30 x1.toNatClampNeg).toNatClampNeg)
def HM_finds (M : GS) (x1 x2 x3 : Int32) : GS := if f_X7_isVisit M x1 = 0 then g_X7_finds_b M x1 x2 x3 else (if M 35 x1.toNatClampNeg = 12 then g_X7_finds_n M x1.toNatClampNeg x2 x3 (M 30 x1.toNatClampNeg).toNatClampNeg else g_X7_finds M x1.toNatClampNeg x2 x3 (M 30 x1.toNatClampNeg).toNatClampNeg)
theorem t_X7_finds (l : Launch) (D : va_G) (cy : Nat → ClassId) (A : Nat → Prop) (μ : MU) (m0 : Nat) (ad : Nat → Nat) (M : GS) (hM : RepM cy m0 ad M μ) (hI : InvM M) (x1 x2 x3 : Int32) (hso : ∀ v, v < gnV M → M 30 v = nI (M 30 v).toNatClampNeg ∧ (M 30 v).toNatClampNeg < 12) : Met l yX7_finds (WS yX7_finds cX7_finds 4 (Option.some Jvm.ClassFile.FieldType.int)) { frames := 3, cells := 0, slots := 0, locals := 68 } (va_Pc [.ref m0, .int x1, .int x2, .int x3] (Wd D cy A μ)) (va_Qi (fun (r9 : Int32) (μ1 : MU) => r9 = FM_finds M x1 x2 x3 ∧ RepM cy m0 ad (HM_finds M x1 x2 x3) μ1) (fun μ1 t => Wd D cy A μ1 t) A) 0 0 A := by
  by_cases hb1 : f_X7_isVisit M x1 = 0
  · have h := c_X7_finds_b l D cy A μ m0 ad M hM x1 x2 x3 hb1
    have eF : FM_finds M x1 x2 x3 = f_X7_finds_b M x1 x2 x3 := if_pos hb1
    have eH : HM_finds M x1 x2 x3 = g_X7_finds_b M x1 x2 x3 := if_pos hb1
    rw [eF, eH]
    exact met_up h (Nat.le_of_ble_eq_true rfl) (Nat.le_of_ble_eq_true rfl) (Nat.le_of_ble_eq_true rfl) (Nat.le_of_ble_eq_true rfl) (fun _ _ _ _ q => q)
  · have hi := vis_get hI hb1
    have hi60 : x1.toNatClampNeg < 60 := Nat.lt_of_lt_of_le hi.1 hI.2.2.1.2
    by_cases hb2 : M 35 x1.toNatClampNeg = 12
    · have h := c_X7_finds_n l D cy A μ m0 ad M hM x1.toNatClampNeg x2 x3 (M 30 x1.toNatClampNeg).toNatClampNeg hi60 (hso _ hi.1).2 hI (hso _ hi.1).1 hb2
      rw [← hi.2] at h
      have eF : FM_finds M x1 x2 x3 = f_X7_finds_n M x1.toNatClampNeg x2 x3 (M 30 x1.toNatClampNeg).toNatClampNeg := (if_neg hb1).trans (if_pos hb2)
      have eH : HM_finds M x1 x2 x3 = g_X7_finds_n M x1.toNatClampNeg x2 x3 (M 30 x1.toNatClampNeg).toNatClampNeg := (if_neg hb1).trans (if_pos hb2)
      rw [eF, eH]
      exact met_up h (Nat.le_of_ble_eq_true rfl) (Nat.le_of_ble_eq_true rfl) (Nat.le_of_ble_eq_true rfl) (Nat.le_of_ble_eq_true rfl) (fun _ _ _ _ q => q)
    · have h := c_X7_finds l D cy A μ m0 ad M hM x1.toNatClampNeg x2 x3 (M 30 x1.toNatClampNeg).toNatClampNeg hi60 (hso _ hi.1).2 hI (hso _ hi.1).1 (ne_le (hI.2.2.2.1 _ hi60).1 (hI.2.2.2.1 _ hi60).2 hb2)
      rw [← hi.2] at h
      have eF : FM_finds M x1 x2 x3 = f_X7_finds M x1.toNatClampNeg x2 x3 (M 30 x1.toNatClampNeg).toNatClampNeg := (if_neg hb1).trans (if_neg hb2)
      have eH : HM_finds M x1 x2 x3 = g_X7_finds M x1.toNatClampNeg x2 x3 (M 30 x1.toNatClampNeg).toNatClampNeg := (if_neg hb1).trans (if_neg hb2)
      rw [eF, eH]
      exact met_up h (Nat.le_of_ble_eq_true rfl) (Nat.le_of_ble_eq_true rfl) (Nat.le_of_ble_eq_true rfl) (Nat.le_of_ble_eq_true rfl) (fun _ _ _ _ q => q)
def FM_mends (M : GS) (x1 x2 x3 : Int32) : Int32 := if f_X7_isVisit M x1 = 0 then f_X7_mends_b M x1 x2 x3 else (if f_X7_in x2 0 ((M 35 x1.toNatClampNeg) - 1) = 0 then f_X7_mends_f M x1.toNatClampNeg x2 x3 else f_X7_mends M x1.toNatClampNeg x2.toNatClampNeg x3)
def HM_mends (M : GS) (x1 x2 x3 : Int32) : GS := if f_X7_isVisit M x1 = 0 then g_X7_mends_b M x1 x2 x3 else (if f_X7_in x2 0 ((M 35 x1.toNatClampNeg) - 1) = 0 then g_X7_mends_f M x1.toNatClampNeg x2 x3 else g_X7_mends M x1.toNatClampNeg x2.toNatClampNeg x3)
theorem t_X7_mends (l : Launch) (D : va_G) (cy : Nat → ClassId) (A : Nat → Prop) (μ : MU) (m0 : Nat) (ad : Nat → Nat) (M : GS) (hM : RepM cy m0 ad M μ) (hI : InvM M) (x1 x2 x3 : Int32) : Met l yX7_mends (WS yX7_mends cX7_mends 6 (Option.some Jvm.ClassFile.FieldType.int)) { frames := 2, cells := 0, slots := 0, locals := 43 } (va_Pc [.ref m0, .int x1, .int x2, .int x3] (Wd D cy A μ)) (va_Qi (fun (r9 : Int32) (μ1 : MU) => r9 = FM_mends M x1 x2 x3 ∧ RepM cy m0 ad (HM_mends M x1 x2 x3) μ1) (fun μ1 t => Wd D cy A μ1 t) A) 0 0 A := by
  by_cases hb1 : f_X7_isVisit M x1 = 0
  · have h := c_X7_mends_b l D cy A μ m0 ad M hM x1 x2 x3 hb1
    have eF : FM_mends M x1 x2 x3 = f_X7_mends_b M x1 x2 x3 := if_pos hb1
    have eH : HM_mends M x1 x2 x3 = g_X7_mends_b M x1 x2 x3 := if_pos hb1
    rw [eF, eH]
    exact met_up h (Nat.le_of_ble_eq_true rfl) (Nat.le_of_ble_eq_true rfl) (Nat.le_of_ble_eq_true rfl) (Nat.le_of_ble_eq_true rfl) (fun _ _ _ _ q => q)
  · have hi := vis_get hI hb1
    have hi60 : x1.toNatClampNeg < 60 := Nat.lt_of_lt_of_le hi.1 hI.2.2.1.2
    by_cases hb2 : f_X7_in x2 0 ((M 35 x1.toNatClampNeg) - 1) = 0
    · have h := c_X7_mends_f l D cy A μ m0 ad M hM x1.toNatClampNeg x2 x3 hi60 hb2
      rw [← hi.2] at h
      have eF : FM_mends M x1 x2 x3 = f_X7_mends_f M x1.toNatClampNeg x2 x3 := (if_neg hb1).trans (if_pos hb2)
      have eH : HM_mends M x1 x2 x3 = g_X7_mends_f M x1.toNatClampNeg x2 x3 := (if_neg hb1).trans (if_pos hb2)
      rw [eF, eH]
      exact met_up h (Nat.le_of_ble_eq_true rfl) (Nat.le_of_ble_eq_true rfl) (Nat.le_of_ble_eq_true rfl) (Nat.le_of_ble_eq_true rfl) (fun _ _ _ _ q => q)
    · have hb3 := hb2
      have h35 := hI.2.2.2.1 _ hi60
      rw [h35.1] at hb2
      have hi2 := xin_get' (Nat.lt_of_le_of_lt h35.2 (by decide)) hb2
      have h := c_X7_mends l D cy A μ m0 ad M hM x1.toNatClampNeg x2.toNatClampNeg x3 hi60 (Nat.lt_of_lt_of_le hi2.1 h35.2) hI
      rw [← hi.2, ← hi2.2] at h
      have eF : FM_mends M x1 x2 x3 = f_X7_mends M x1.toNatClampNeg x2.toNatClampNeg x3 := (if_neg hb1).trans (if_neg hb3)
      have eH : HM_mends M x1 x2 x3 = g_X7_mends M x1.toNatClampNeg x2.toNatClampNeg x3 := (if_neg hb1).trans (if_neg hb3)
      rw [eF, eH]
      exact met_up h (Nat.le_of_ble_eq_true rfl) (Nat.le_of_ble_eq_true rfl) (Nat.le_of_ble_eq_true rfl) (Nat.le_of_ble_eq_true rfl) (fun _ _ _ _ q => q)
def FM_detain (M : GS) (x1 : Int32) : Int32 := if f_X7_isVisit M x1 = 0 then f_X7_detain_b M x1 else f_X7_detain M x1.toNatClampNeg (M 30 x1.toNatClampNeg).toNatClampNeg
def HM_detain (M : GS) (x1 : Int32) : GS := if f_X7_isVisit M x1 = 0 then g_X7_detain_b M x1 else g_X7_detain M x1.toNatClampNeg (M 30 x1.toNatClampNeg).toNatClampNeg
theorem t_X7_detain (l : Launch) (D : va_G) (cy : Nat → ClassId) (A : Nat → Prop) (μ : MU) (m0 : Nat) (ad : Nat → Nat) (M : GS) (hM : RepM cy m0 ad M μ) (hI : InvM M) (x1 : Int32) (hso : ∀ v, v < gnV M → M 30 v = nI (M 30 v).toNatClampNeg ∧ (M 30 v).toNatClampNeg < 12) : Met l yX7_detain (WS yX7_detain cX7_detain 3 (Option.some Jvm.ClassFile.FieldType.int)) { frames := 5, cells := 0, slots := 0, locals := 111 } (va_Pc [.ref m0, .int x1] (Wd D cy A μ)) (va_Qi (fun (r9 : Int32) (μ1 : MU) => r9 = FM_detain M x1 ∧ RepM cy m0 ad (HM_detain M x1) μ1) (fun μ1 t => Wd D cy A μ1 t) A) 0 0 A := by
  by_cases hb1 : f_X7_isVisit M x1 = 0
  · have h := c_X7_detain_b l D cy A μ m0 ad M hM x1 hb1
    have eF : FM_detain M x1 = f_X7_detain_b M x1 := if_pos hb1
    have eH : HM_detain M x1 = g_X7_detain_b M x1 := if_pos hb1
    rw [eF, eH]
    exact met_up h (Nat.le_of_ble_eq_true rfl) (Nat.le_of_ble_eq_true rfl) (Nat.le_of_ble_eq_true rfl) (Nat.le_of_ble_eq_true rfl) (fun _ _ _ _ q => q)
  · have hi := vis_get hI hb1
    have hi60 : x1.toNatClampNeg < 60 := Nat.lt_of_lt_of_le hi.1 hI.2.2.1.2
    have h := c_X7_detain l D cy A μ m0 ad M hM x1.toNatClampNeg (M 30 x1.toNatClampNeg).toNatClampNeg hi60 (hso _ hi.1).2 hI (hso _ hi.1).1
    rw [← hi.2] at h
    have eF : FM_detain M x1 = f_X7_detain M x1.toNatClampNeg (M 30 x1.toNatClampNeg).toNatClampNeg := if_neg hb1
    have eH : HM_detain M x1 = g_X7_detain M x1.toNatClampNeg (M 30 x1.toNatClampNeg).toNatClampNeg := if_neg hb1
    rw [eF, eH]
    exact met_up h (Nat.le_of_ble_eq_true rfl) (Nat.le_of_ble_eq_true rfl) (Nat.le_of_ble_eq_true rfl) (Nat.le_of_ble_eq_true rfl) (fun _ _ _ _ q => q)
def FM_release (M : GS) (x1 : Int32) : Int32 := if f_X7_isShip M x1 = 0 then f_X7_release_b M x1 else (if M 13 x1.toNatClampNeg = -1 then f_X7_release_n M x1.toNatClampNeg else f_X7_release M x1.toNatClampNeg (M 13 x1.toNatClampNeg).toNatClampNeg)
def HM_release (M : GS) (x1 : Int32) : GS := if f_X7_isShip M x1 = 0 then g_X7_release_b M x1 else (if M 13 x1.toNatClampNeg = -1 then g_X7_release_n M x1.toNatClampNeg else g_X7_release M x1.toNatClampNeg (M 13 x1.toNatClampNeg).toNatClampNeg)
theorem t_X7_release (l : Launch) (D : va_G) (cy : Nat → ClassId) (A : Nat → Prop) (μ : MU) (m0 : Nat) (ad : Nat → Nat) (M : GS) (hM : RepM cy m0 ad M μ) (hI : InvM M) (x1 : Int32) (hr : ∀ s, s < gnS M → ¬ M 13 s = -1 → M 13 s = nI (M 13 s).toNatClampNeg ∧ (M 13 s).toNatClampNeg < 60) : Met l yX7_release (WS yX7_release cX7_release 3 (Option.some Jvm.ClassFile.FieldType.int)) { frames := 5, cells := 0, slots := 0, locals := 111 } (va_Pc [.ref m0, .int x1] (Wd D cy A μ)) (va_Qi (fun (r9 : Int32) (μ1 : MU) => r9 = FM_release M x1 ∧ RepM cy m0 ad (HM_release M x1) μ1) (fun μ1 t => Wd D cy A μ1 t) A) 0 0 A := by
  by_cases hb1 : f_X7_isShip M x1 = 0
  · have h := c_X7_release_b l D cy A μ m0 ad M hM x1 hb1
    have eF : FM_release M x1 = f_X7_release_b M x1 := if_pos hb1
    have eH : HM_release M x1 = g_X7_release_b M x1 := if_pos hb1
    rw [eF, eH]
    exact met_up h (Nat.le_of_ble_eq_true rfl) (Nat.le_of_ble_eq_true rfl) (Nat.le_of_ble_eq_true rfl) (Nat.le_of_ble_eq_true rfl) (fun _ _ _ _ q => q)
  · have hi := shp_get hI hb1
    have hi12 : x1.toNatClampNeg < 12 := Nat.lt_of_lt_of_le hi.1 hI.1.2
    by_cases hb2 : M 13 x1.toNatClampNeg = -1
    · have h := c_X7_release_n l D cy A μ m0 ad M hM x1.toNatClampNeg hi12 hb2
      rw [← hi.2] at h
      have eF : FM_release M x1 = f_X7_release_n M x1.toNatClampNeg := (if_neg hb1).trans (if_pos hb2)
      have eH : HM_release M x1 = g_X7_release_n M x1.toNatClampNeg := (if_neg hb1).trans (if_pos hb2)
      rw [eF, eH]
      exact met_up h (Nat.le_of_ble_eq_true rfl) (Nat.le_of_ble_eq_true rfl) (Nat.le_of_ble_eq_true rfl) (Nat.le_of_ble_eq_true rfl) (fun _ _ _ _ q => q)
    · have h := c_X7_release l D cy A μ m0 ad M hM x1.toNatClampNeg (M 13 x1.toNatClampNeg).toNatClampNeg hi12 (hr _ hi.1 hb2).2 hI (hr _ hi.1 hb2).1
      rw [← hi.2] at h
      have eF : FM_release M x1 = f_X7_release M x1.toNatClampNeg (M 13 x1.toNatClampNeg).toNatClampNeg := (if_neg hb1).trans (if_neg hb2)
      have eH : HM_release M x1 = g_X7_release M x1.toNatClampNeg (M 13 x1.toNatClampNeg).toNatClampNeg := (if_neg hb1).trans (if_neg hb2)
      rw [eF, eH]
      exact met_up h (Nat.le_of_ble_eq_true rfl) (Nat.le_of_ble_eq_true rfl) (Nat.le_of_ble_eq_true rfl) (Nat.le_of_ble_eq_true rfl) (fun _ _ _ _ q => q)
def HM_appeal (M : GS) (x1 : Int32) : GS := if f_X7_isVisit M x1 = 0 then g_X7_appeal_b M x1 else g_X7_appeal M x1.toNatClampNeg
theorem t_X7_appeal (l : Launch) (D : va_G) (cy : Nat → ClassId) (A : Nat → Prop) (μ : MU) (m0 : Nat) (ad : Nat → Nat) (M : GS) (hM : RepM cy m0 ad M μ) (hI : InvM M) (x1 : Int32) : Met l yX7_appeal (WS yX7_appeal cX7_appeal 3 (Option.none : Option Jvm.ClassFile.FieldType)) { frames := 2, cells := 0, slots := 0, locals := 43 } (va_Pc [.ref m0, .int x1] (Wd D cy A μ)) (va_Qv (fun μ1 : MU => RepM cy m0 ad (HM_appeal M x1) μ1) (fun μ1 t => Wd D cy A μ1 t) A) 0 0 A := by
  by_cases hb1 : f_X7_isVisit M x1 = 0
  · have h := c_X7_appeal_b l D cy A μ m0 ad M hM x1 hb1
    have eH : HM_appeal M x1 = g_X7_appeal_b M x1 := if_pos hb1
    rw [eH]
    exact met_up h (Nat.le_of_ble_eq_true rfl) (Nat.le_of_ble_eq_true rfl) (Nat.le_of_ble_eq_true rfl) (Nat.le_of_ble_eq_true rfl) (fun _ _ _ _ q => q)
  · have hi := vis_get hI hb1
    have hi60 : x1.toNatClampNeg < 60 := Nat.lt_of_lt_of_le hi.1 hI.2.2.1.2
    have h := c_X7_appeal l D cy A μ m0 ad M hM x1.toNatClampNeg hi60
    rw [← hi.2] at h
    have eH : HM_appeal M x1 = g_X7_appeal M x1.toNatClampNeg := if_neg hb1
    rw [eH]
    exact met_up h (Nat.le_of_ble_eq_true rfl) (Nat.le_of_ble_eq_true rfl) (Nat.le_of_ble_eq_true rfl) (Nat.le_of_ble_eq_true rfl) (fun _ _ _ _ q => q)
def FM_vote (M : GS) (x1 x2 : Int32) : Int32 := if f_X7_isVisit M x1 = 0 then f_X7_vote_b M x1 x2 else f_X7_vote M x1.toNatClampNeg x2
def HM_vote (M : GS) (x1 x2 : Int32) : GS := if f_X7_isVisit M x1 = 0 then g_X7_vote_b M x1 x2 else g_X7_vote M x1.toNatClampNeg x2
theorem t_X7_vote (l : Launch) (D : va_G) (cy : Nat → ClassId) (A : Nat → Prop) (μ : MU) (m0 : Nat) (ad : Nat → Nat) (M : GS) (hM : RepM cy m0 ad M μ) (hI : InvM M) (x1 x2 : Int32) : Met l yX7_vote (WS yX7_vote cX7_vote 3 (Option.some Jvm.ClassFile.FieldType.int)) { frames := 2, cells := 0, slots := 0, locals := 43 } (va_Pc [.ref m0, .int x1, .int x2] (Wd D cy A μ)) (va_Qi (fun (r9 : Int32) (μ1 : MU) => r9 = FM_vote M x1 x2 ∧ RepM cy m0 ad (HM_vote M x1 x2) μ1) (fun μ1 t => Wd D cy A μ1 t) A) 0 0 A := by
  by_cases hb1 : f_X7_isVisit M x1 = 0
  · have h := c_X7_vote_b l D cy A μ m0 ad M hM x1 x2 hb1
    have eF : FM_vote M x1 x2 = f_X7_vote_b M x1 x2 := if_pos hb1
    have eH : HM_vote M x1 x2 = g_X7_vote_b M x1 x2 := if_pos hb1
    rw [eF, eH]
    exact met_up h (Nat.le_of_ble_eq_true rfl) (Nat.le_of_ble_eq_true rfl) (Nat.le_of_ble_eq_true rfl) (Nat.le_of_ble_eq_true rfl) (fun _ _ _ _ q => q)
  · have hi := vis_get hI hb1
    have hi60 : x1.toNatClampNeg < 60 := Nat.lt_of_lt_of_le hi.1 hI.2.2.1.2
    have h := c_X7_vote l D cy A μ m0 ad M hM x1.toNatClampNeg x2 hi60
    rw [← hi.2] at h
    have eF : FM_vote M x1 x2 = f_X7_vote M x1.toNatClampNeg x2 := if_neg hb1
    have eH : HM_vote M x1 x2 = g_X7_vote M x1.toNatClampNeg x2 := if_neg hb1
    rw [eF, eH]
    exact met_up h (Nat.le_of_ble_eq_true rfl) (Nat.le_of_ble_eq_true rfl) (Nat.le_of_ble_eq_true rfl) (Nat.le_of_ble_eq_true rfl) (fun _ _ _ _ q => q)
def FM_ofShip (M : GS) (x1 x2 : Int32) : Int32 := if f_X7_isShip M x1 = 0 then f_X7_ofShip_b M x1 x2 else f_X7_ofShip M x1.toNatClampNeg x2
def HM_ofShip (M : GS) (x1 x2 : Int32) : GS := if f_X7_isShip M x1 = 0 then g_X7_ofShip_b M x1 x2 else g_X7_ofShip M x1.toNatClampNeg x2
theorem t_X7_ofShip (l : Launch) (D : va_G) (cy : Nat → ClassId) (A : Nat → Prop) (μ : MU) (m0 : Nat) (ad : Nat → Nat) (M : GS) (hM : RepM cy m0 ad M μ) (hI : InvM M) (x1 x2 : Int32) : Met l yX7_ofShip (WS yX7_ofShip cX7_ofShip 3 (Option.some Jvm.ClassFile.FieldType.int)) { frames := 5, cells := 0, slots := 0, locals := 117 } (va_Pc [.ref m0, .int x1, .int x2] (Wd D cy A μ)) (va_Qi (fun (r9 : Int32) (μ1 : MU) => r9 = FM_ofShip M x1 x2 ∧ RepM cy m0 ad (HM_ofShip M x1 x2) μ1) (fun μ1 t => Wd D cy A μ1 t) A) 0 0 A := by
  by_cases hb1 : f_X7_isShip M x1 = 0
  · have h := c_X7_ofShip_b l D cy A μ m0 ad M hM x1 x2 hb1
    have eF : FM_ofShip M x1 x2 = f_X7_ofShip_b M x1 x2 := if_pos hb1
    have eH : HM_ofShip M x1 x2 = g_X7_ofShip_b M x1 x2 := if_pos hb1
    rw [eF, eH]
    exact met_up h (Nat.le_of_ble_eq_true rfl) (Nat.le_of_ble_eq_true rfl) (Nat.le_of_ble_eq_true rfl) (Nat.le_of_ble_eq_true rfl) (fun _ _ _ _ q => q)
  · have hi := shp_get hI hb1
    have hi12 : x1.toNatClampNeg < 12 := Nat.lt_of_lt_of_le hi.1 hI.1.2
    have h := c_X7_ofShip l D cy A μ m0 ad M hM x1.toNatClampNeg x2 hi12 hI
    rw [← hi.2] at h
    have eF : FM_ofShip M x1 x2 = f_X7_ofShip M x1.toNatClampNeg x2 := if_neg hb1
    have eH : HM_ofShip M x1 x2 = g_X7_ofShip M x1.toNatClampNeg x2 := if_neg hb1
    rw [eF, eH]
    exact met_up h (Nat.le_of_ble_eq_true rfl) (Nat.le_of_ble_eq_true rfl) (Nat.le_of_ble_eq_true rfl) (Nat.le_of_ble_eq_true rfl) (fun _ _ _ _ q => q)
def FM_pointsAnew (M : GS) (x1 : Int32) : Int32 := if f_X7_isShip M x1 = 0 then f_X7_pointsAnew_b M x1 else f_X7_pointsAnew M x1.toNatClampNeg
def HM_pointsAnew (M : GS) (x1 : Int32) : GS := if f_X7_isShip M x1 = 0 then g_X7_pointsAnew_b M x1 else g_X7_pointsAnew M x1.toNatClampNeg
theorem t_X7_pointsAnew (l : Launch) (D : va_G) (cy : Nat → ClassId) (A : Nat → Prop) (μ : MU) (m0 : Nat) (ad : Nat → Nat) (M : GS) (hM : RepM cy m0 ad M μ) (hI : InvM M) (x1 : Int32) : Met l yX7_pointsAnew (WS yX7_pointsAnew cX7_pointsAnew 2 (Option.some Jvm.ClassFile.FieldType.int)) { frames := 3, cells := 0, slots := 0, locals := 70 } (va_Pc [.ref m0, .int x1] (Wd D cy A μ)) (va_Qi (fun (r9 : Int32) (μ1 : MU) => r9 = FM_pointsAnew M x1 ∧ RepM cy m0 ad (HM_pointsAnew M x1) μ1) (fun μ1 t => Wd D cy A μ1 t) A) 0 0 A := by
  by_cases hb1 : f_X7_isShip M x1 = 0
  · have h := c_X7_pointsAnew_b l D cy A μ m0 ad M hM x1 hb1
    have eF : FM_pointsAnew M x1 = f_X7_pointsAnew_b M x1 := if_pos hb1
    have eH : HM_pointsAnew M x1 = g_X7_pointsAnew_b M x1 := if_pos hb1
    rw [eF, eH]
    exact met_up h (Nat.le_of_ble_eq_true rfl) (Nat.le_of_ble_eq_true rfl) (Nat.le_of_ble_eq_true rfl) (Nat.le_of_ble_eq_true rfl) (fun _ _ _ _ q => q)
  · have hi := shp_get hI hb1
    have hi12 : x1.toNatClampNeg < 12 := Nat.lt_of_lt_of_le hi.1 hI.1.2
    have h := c_X7_pointsAnew l D cy A μ m0 ad M hM x1.toNatClampNeg hi12 hI
    rw [← hi.2] at h
    have eF : FM_pointsAnew M x1 = f_X7_pointsAnew M x1.toNatClampNeg := if_neg hb1
    have eH : HM_pointsAnew M x1 = g_X7_pointsAnew M x1.toNatClampNeg := if_neg hb1
    rw [eF, eH]
    exact met_up h (Nat.le_of_ble_eq_true rfl) (Nat.le_of_ble_eq_true rfl) (Nat.le_of_ble_eq_true rfl) (Nat.le_of_ble_eq_true rfl) (fun _ _ _ _ q => q)
def FM_isGround (M : GS) (x1 x2 : Int32) : Int32 := if f_X7_isShip M x1 = 0 then f_X7_isGround_b M x1 x2 else f_X7_isGround M x1.toNatClampNeg x2
def HM_isGround (M : GS) (x1 x2 : Int32) : GS := if f_X7_isShip M x1 = 0 then g_X7_isGround_b M x1 x2 else g_X7_isGround M x1.toNatClampNeg x2
theorem t_X7_isGround (l : Launch) (D : va_G) (cy : Nat → ClassId) (A : Nat → Prop) (μ : MU) (m0 : Nat) (ad : Nat → Nat) (M : GS) (hM : RepM cy m0 ad M μ) (hI : InvM M) (x1 x2 : Int32) : Met l yX7_isGround (WS yX7_isGround cX7_isGround 3 (Option.some Jvm.ClassFile.FieldType.boolean)) { frames := 3, cells := 0, slots := 0, locals := 68 } (va_Pc [.ref m0, .int x1, .int x2] (Wd D cy A μ)) (va_Qi (fun (r9 : Int32) (μ1 : MU) => r9 = FM_isGround M x1 x2 ∧ RepM cy m0 ad (HM_isGround M x1 x2) μ1) (fun μ1 t => Wd D cy A μ1 t) A) 0 0 A := by
  by_cases hb1 : f_X7_isShip M x1 = 0
  · have h := c_X7_isGround_b l D cy A μ m0 ad M hM x1 x2 hb1
    have eF : FM_isGround M x1 x2 = f_X7_isGround_b M x1 x2 := if_pos hb1
    have eH : HM_isGround M x1 x2 = g_X7_isGround_b M x1 x2 := if_pos hb1
    rw [eF, eH]
    exact met_up h (Nat.le_of_ble_eq_true rfl) (Nat.le_of_ble_eq_true rfl) (Nat.le_of_ble_eq_true rfl) (Nat.le_of_ble_eq_true rfl) (fun _ _ _ _ q => q)
  · have hi := shp_get hI hb1
    have hi12 : x1.toNatClampNeg < 12 := Nat.lt_of_lt_of_le hi.1 hI.1.2
    have h := c_X7_isGround l D cy A μ m0 ad M hM x1.toNatClampNeg x2 hi12 hI
    rw [← hi.2] at h
    have eF : FM_isGround M x1 x2 = f_X7_isGround M x1.toNatClampNeg x2 := if_neg hb1
    have eH : HM_isGround M x1 x2 = g_X7_isGround M x1.toNatClampNeg x2 := if_neg hb1
    rw [eF, eH]
    exact met_up h (Nat.le_of_ble_eq_true rfl) (Nat.le_of_ble_eq_true rfl) (Nat.le_of_ble_eq_true rfl) (Nat.le_of_ble_eq_true rfl) (fun _ _ _ _ q => q)
def FM_ofVisit (M : GS) (x1 x2 : Int32) : Int32 := if f_X7_isVisit M x1 = 0 then f_X7_ofVisit_b M x1 x2 else f_X7_ofVisit M x1.toNatClampNeg x2
def HM_ofVisit (M : GS) (x1 x2 : Int32) : GS := if f_X7_isVisit M x1 = 0 then g_X7_ofVisit_b M x1 x2 else g_X7_ofVisit M x1.toNatClampNeg x2
theorem t_X7_ofVisit (l : Launch) (D : va_G) (cy : Nat → ClassId) (A : Nat → Prop) (μ : MU) (m0 : Nat) (ad : Nat → Nat) (M : GS) (hM : RepM cy m0 ad M μ) (hI : InvM M) (x1 x2 : Int32) : Met l yX7_ofVisit (WS yX7_ofVisit cX7_ofVisit 3 (Option.some Jvm.ClassFile.FieldType.int)) { frames := 2, cells := 0, slots := 0, locals := 43 } (va_Pc [.ref m0, .int x1, .int x2] (Wd D cy A μ)) (va_Qi (fun (r9 : Int32) (μ1 : MU) => r9 = FM_ofVisit M x1 x2 ∧ RepM cy m0 ad (HM_ofVisit M x1 x2) μ1) (fun μ1 t => Wd D cy A μ1 t) A) 0 0 A := by
  by_cases hb1 : f_X7_isVisit M x1 = 0
  · have h := c_X7_ofVisit_b l D cy A μ m0 ad M hM x1 x2 hb1
    have eF : FM_ofVisit M x1 x2 = f_X7_ofVisit_b M x1 x2 := if_pos hb1
    have eH : HM_ofVisit M x1 x2 = g_X7_ofVisit_b M x1 x2 := if_pos hb1
    rw [eF, eH]
    exact met_up h (Nat.le_of_ble_eq_true rfl) (Nat.le_of_ble_eq_true rfl) (Nat.le_of_ble_eq_true rfl) (Nat.le_of_ble_eq_true rfl) (fun _ _ _ _ q => q)
  · have hi := vis_get hI hb1
    have hi60 : x1.toNatClampNeg < 60 := Nat.lt_of_lt_of_le hi.1 hI.2.2.1.2
    have h := c_X7_ofVisit l D cy A μ m0 ad M hM x1.toNatClampNeg x2 hi60 hI
    rw [← hi.2] at h
    have eF : FM_ofVisit M x1 x2 = f_X7_ofVisit M x1.toNatClampNeg x2 := if_neg hb1
    have eH : HM_ofVisit M x1 x2 = g_X7_ofVisit M x1.toNatClampNeg x2 := if_neg hb1
    rw [eF, eH]
    exact met_up h (Nat.le_of_ble_eq_true rfl) (Nat.le_of_ble_eq_true rfl) (Nat.le_of_ble_eq_true rfl) (Nat.le_of_ble_eq_true rfl) (fun _ _ _ _ q => q)
def FM_list (M : GS) (x1 : Int32) : Int32 := f_X7_list M x1
def HM_list (M : GS) (x1 : Int32) : GS := g_X7_list M x1
theorem t_X7_list (l : Launch) (D : va_G) (cy : Nat → ClassId) (A : Nat → Prop) (μ : MU) (m0 : Nat) (ad : Nat → Nat) (M : GS) (hM : RepM cy m0 ad M μ) (hI : InvM M) (x1 : Int32) : Met l yX7_list (WS yX7_list cX7_list 2 (Option.some Jvm.ClassFile.FieldType.int)) { frames := 2, cells := 0, slots := 0, locals := 46 } (va_Pc [.ref m0, .int x1] (Wd D cy A μ)) (va_Qi (fun (r9 : Int32) (μ1 : MU) => r9 = FM_list M x1 ∧ RepM cy m0 ad (HM_list M x1) μ1) (fun μ1 t => Wd D cy A μ1 t) A) 0 0 A := by
  have h := c_X7_list l D cy A μ m0 ad M hM x1 hI
  have eF : FM_list M x1 = f_X7_list M x1 := rfl
  have eH : HM_list M x1 = g_X7_list M x1 := rfl
  rw [eF, eH]
  exact met_up h (Nat.le_of_ble_eq_true rfl) (Nat.le_of_ble_eq_true rfl) (Nat.le_of_ble_eq_true rfl) (Nat.le_of_ble_eq_true rfl) (fun _ _ _ _ q => q)
def FM_missed (M : GS) (x1 : Int32) : Int32 := if f_X7_isPort x1 = 0 then f_X7_missed_b M x1 else f_X7_missed M x1.toNatClampNeg
def HM_missed (M : GS) (x1 : Int32) : GS := if f_X7_isPort x1 = 0 then g_X7_missed_b M x1 else g_X7_missed M x1.toNatClampNeg
theorem t_X7_missed (l : Launch) (D : va_G) (cy : Nat → ClassId) (A : Nat → Prop) (μ : MU) (m0 : Nat) (ad : Nat → Nat) (M : GS) (hM : RepM cy m0 ad M μ) (hI : InvM M) (x1 : Int32) : Met l yX7_missed (WS yX7_missed cX7_missed 2 (Option.some Jvm.ClassFile.FieldType.int)) { frames := 2, cells := 0, slots := 0, locals := 42 } (va_Pc [.ref m0, .int x1] (Wd D cy A μ)) (va_Qi (fun (r9 : Int32) (μ1 : MU) => r9 = FM_missed M x1 ∧ RepM cy m0 ad (HM_missed M x1) μ1) (fun μ1 t => Wd D cy A μ1 t) A) 0 0 A := by
  by_cases hb1 : f_X7_isPort x1 = 0
  · have h := c_X7_missed_b l D cy A μ m0 ad M hM x1 hb1
    have eF : FM_missed M x1 = f_X7_missed_b M x1 := if_pos hb1
    have eH : HM_missed M x1 = g_X7_missed_b M x1 := if_pos hb1
    rw [eF, eH]
    exact met_up h (Nat.le_of_ble_eq_true rfl) (Nat.le_of_ble_eq_true rfl) (Nat.le_of_ble_eq_true rfl) (Nat.le_of_ble_eq_true rfl) (fun _ _ _ _ q => q)
  · have hi := xin_get' (n := 4) (by decide) hb1
    have h := c_X7_missed l D cy A μ m0 ad M hM x1.toNatClampNeg hi.1
    rw [← hi.2] at h
    have eF : FM_missed M x1 = f_X7_missed M x1.toNatClampNeg := if_neg hb1
    have eH : HM_missed M x1 = g_X7_missed M x1.toNatClampNeg := if_neg hb1
    rw [eF, eH]
    exact met_up h (Nat.le_of_ble_eq_true rfl) (Nat.le_of_ble_eq_true rfl) (Nat.le_of_ble_eq_true rfl) (Nat.le_of_ble_eq_true rfl) (fun _ _ _ _ q => q)
def FM_knew (M : GS) (x1 x2 x3 : Int32) : Int32 := if f_X7_isShip M x1 = 0 then f_X7_knew_b M x1 x2 x3 else (if ¬ (if f_X7_isShip M (nI x1.toNatClampNeg) = 0 then 1 else (if f_X7_isPort x2 = 0 then 1 else (if f_X7_in x3 0 (M 1 0) = 0 then 2 else 0)) : Int32) = 0 then f_X7_knew_t M x1.toNatClampNeg x2 x3 else f_X7_knew M x1.toNatClampNeg x2 x3)
def HM_knew (M : GS) (x1 x2 x3 : Int32) : GS := if f_X7_isShip M x1 = 0 then g_X7_knew_b M x1 x2 x3 else (if ¬ (if f_X7_isShip M (nI x1.toNatClampNeg) = 0 then 1 else (if f_X7_isPort x2 = 0 then 1 else (if f_X7_in x3 0 (M 1 0) = 0 then 2 else 0)) : Int32) = 0 then g_X7_knew_t M x1.toNatClampNeg x2 x3 else g_X7_knew M x1.toNatClampNeg x2 x3)
theorem t_X7_knew (l : Launch) (D : va_G) (cy : Nat → ClassId) (A : Nat → Prop) (μ : MU) (m0 : Nat) (ad : Nat → Nat) (M : GS) (hM : RepM cy m0 ad M μ) (hI : InvM M) (x1 x2 x3 : Int32) : Met l yX7_knew (WS yX7_knew cX7_knew 7 (Option.some Jvm.ClassFile.FieldType.int)) { frames := 2, cells := 0, slots := 0, locals := 43 } (va_Pc [.ref m0, .int x1, .int x2, .int x3] (Wd D cy A μ)) (va_Qi (fun (r9 : Int32) (μ1 : MU) => r9 = FM_knew M x1 x2 x3 ∧ RepM cy m0 ad (HM_knew M x1 x2 x3) μ1) (fun μ1 t => Wd D cy A μ1 t) A) 0 0 A := by
  by_cases hb1 : f_X7_isShip M x1 = 0
  · have h := c_X7_knew_b l D cy A μ m0 ad M hM x1 x2 x3 hb1
    have eF : FM_knew M x1 x2 x3 = f_X7_knew_b M x1 x2 x3 := if_pos hb1
    have eH : HM_knew M x1 x2 x3 = g_X7_knew_b M x1 x2 x3 := if_pos hb1
    rw [eF, eH]
    exact met_up h (Nat.le_of_ble_eq_true rfl) (Nat.le_of_ble_eq_true rfl) (Nat.le_of_ble_eq_true rfl) (Nat.le_of_ble_eq_true rfl) (fun _ _ _ _ q => q)
  · have hi := shp_get hI hb1
    have hi12 : x1.toNatClampNeg < 12 := Nat.lt_of_lt_of_le hi.1 hI.1.2
    by_cases hb2 : ¬ (if f_X7_isShip M (nI x1.toNatClampNeg) = 0 then 1 else (if f_X7_isPort x2 = 0 then 1 else (if f_X7_in x3 0 (M 1 0) = 0 then 2 else 0)) : Int32) = 0
    · have h := c_X7_knew_t l D cy A μ m0 ad M hM x1.toNatClampNeg x2 x3 hi12 hb2
      rw [← hi.2] at h
      have eF : FM_knew M x1 x2 x3 = f_X7_knew_t M x1.toNatClampNeg x2 x3 := (if_neg hb1).trans (if_pos hb2)
      have eH : HM_knew M x1 x2 x3 = g_X7_knew_t M x1.toNatClampNeg x2 x3 := (if_neg hb1).trans (if_pos hb2)
      rw [eF, eH]
      exact met_up h (Nat.le_of_ble_eq_true rfl) (Nat.le_of_ble_eq_true rfl) (Nat.le_of_ble_eq_true rfl) (Nat.le_of_ble_eq_true rfl) (fun _ _ _ _ q => q)
    · have h := c_X7_knew l D cy A μ m0 ad M hM x1.toNatClampNeg x2 x3 hi12 hI (Classical.not_not.mp hb2)
      rw [← hi.2] at h
      have eF : FM_knew M x1 x2 x3 = f_X7_knew M x1.toNatClampNeg x2 x3 := (if_neg hb1).trans (if_neg hb2)
      have eH : HM_knew M x1 x2 x3 = g_X7_knew M x1.toNatClampNeg x2 x3 := (if_neg hb1).trans (if_neg hb2)
      rw [eF, eH]
      exact met_up h (Nat.le_of_ble_eq_true rfl) (Nat.le_of_ble_eq_true rfl) (Nat.le_of_ble_eq_true rfl) (Nat.le_of_ble_eq_true rfl) (fun _ _ _ _ q => q)
