theorem isx_get {x : Int32} {n : Nat} (hn : n < 2 ^ 31) (h : ¬ f_X6_isIndex x (nI n) = 0) : x.toNatClampNeg < n ∧ x = nI x.toNatClampNeg := by
  unfold f_X6_isIndex at h
  split at h
  · exact absurd rfl h
  · split at h
    · exact absurd rfl h
    · rename_i h1 h2
      have a1 : (0 : Int32).toInt ≤ x.toInt := Int32.le_iff_toInt_le.mp (Int32.not_lt.mp h1)
      have a2 : x.toInt < (nI n).toInt := Int32.lt_iff_toInt_lt.mp (Int32.not_le.mp h2)
      rw [nI_toInt hn] at a2
      have a3 : (0 : Int32).toInt = 0 := by decide
      rw [a3] at a1
      have a4 : x.toNatClampNeg = x.toInt.toNat := rfl
      refine ⟨by omega, Int32.toInt_inj.mp ?_⟩
      rw [nI_toInt (by omega)]
      omega
theorem ne_le {x : Int32} {n k : Nat} (hx : x = nI n) (hn : n ≤ k) (h : ¬ x = nI k) : n < k := by
  rcases Nat.lt_or_eq_of_le hn with q | q
  · exact q
  · exact absurd (by rw [hx, q]) h
def K_pass (G : GS) (x1 : Int32) : Nat := x_X6_pass G x1
def F_pass (G : GS) (x1 : Int32) : Int32 := f_X6_pass G x1
def H_pass (G : GS) (x1 : Int32) : GS := g_X6_pass G x1
theorem t_X6_pass (l : Launch) (D : va_G) (cy : Nat → ClassId) (A : Nat → Prop) (μ : MU) (AD : AM) (G : GS) (hM : RepC cy AD G μ) (hI : InvC G) (x1 : Int32) (hlf : l.stackTraces = false) : vx_Met l yX6_pass (WS yX6_pass cX6_pass 2 (Option.some Jvm.ClassFile.FieldType.int)) { frames := 6, cells := 1, slots := 6, locals := 100 } (va_Pc [.ref (AD 0 0 0), .int x1] (Wd D cy A μ)) (va_Qi (fun (r9 : Int32) (μ1 : MU) => K_pass G x1 = 0 ∧ r9 = F_pass G x1 ∧ ∃ AD1 : AM, AD1 0 = AD 0 ∧ RepC cy AD1 (H_pass G x1) μ1) (fun μ1 t => Wd D cy A μ1 t) A) (XC9 D A μ (xnm (K_pass G x1))) 1 6 A := by
  exact c_X6_pass l D cy A μ AD G hM hI x1 hlf
def K_ship (G : GS) (x1 x2 x3 x4 x5 : Int32) : Nat := x_X6_ship G x1 x2 x3 x4 x5
def F_ship (G : GS) (x1 x2 x3 x4 x5 : Int32) : Int32 := f_X6_ship G x1 x2 x3 x4 x5
def H_ship (G : GS) (x1 x2 x3 x4 x5 : Int32) : GS := g_X6_ship G x1 x2 x3 x4 x5
theorem t_X6_ship (l : Launch) (D : va_G) (cy : Nat → ClassId) (A : Nat → Prop) (μ : MU) (AD : AM) (G : GS) (hM : RepC cy AD G μ) (hI : InvC G) (x1 x2 x3 x4 x5 : Int32) (hlf : l.stackTraces = false) : vx_Met l yX6_ship (WS yX6_ship cX6_ship 7 (Option.some Jvm.ClassFile.FieldType.int)) { frames := 8, cells := 8, slots := 3033, locals := 225 } (va_Pc [.ref (AD 0 0 0), .int x1, .int x2, .int x3, .int x4, .int x5] (Wd D cy A μ)) (va_Qi (fun (r9 : Int32) (μ1 : MU) => K_ship G x1 x2 x3 x4 x5 = 0 ∧ r9 = F_ship G x1 x2 x3 x4 x5 ∧ ∃ AD1 : AM, AD1 0 = AD 0 ∧ RepC cy AD1 (H_ship G x1 x2 x3 x4 x5) μ1) (fun μ1 t => Wd D cy A μ1 t) A) (XC9 D A μ (xnm (K_ship G x1 x2 x3 x4 x5))) 8 3033 A := by
  exact c_X6_ship l D cy A μ AD G hM hI x1 x2 x3 x4 x5 hlf
def K_changes (G : GS) (x1 x2 x3 : Int32) : Nat := if f_X6_isIndex x1 (nI (gnS G)) = 0 then 3 else x_X6_changes G x1.toNatClampNeg x2 x3
def F_changes (G : GS) (x1 x2 x3 : Int32) : Int32 := if f_X6_isIndex x1 (nI (gnS G)) = 0 then 0 else f_X6_changes G x1.toNatClampNeg x2 x3
def H_changes (G : GS) (x1 x2 x3 : Int32) : GS := if f_X6_isIndex x1 (nI (gnS G)) = 0 then G else g_X6_changes G x1.toNatClampNeg x2 x3
theorem t_X6_changes (l : Launch) (D : va_G) (cy : Nat → ClassId) (A : Nat → Prop) (μ : MU) (AD : AM) (G : GS) (hM : RepC cy AD G μ) (hI : InvC G) (x1 x2 x3 : Int32) (hn : ∀ s, s < gnS G → gnN G s < 514) (hlf : l.stackTraces = false) : vx_Met l yX6_changes (WS yX6_changes cX6_changes 5 (Option.some Jvm.ClassFile.FieldType.int)) { frames := 8, cells := 2, slots := 1004, locals := 225 } (va_Pc [.ref (AD 0 0 0), .int x1, .int x2, .int x3] (Wd D cy A μ)) (va_Qi (fun (r9 : Int32) (μ1 : MU) => K_changes G x1 x2 x3 = 0 ∧ r9 = F_changes G x1 x2 x3 ∧ ∃ AD1 : AM, AD1 0 = AD 0 ∧ RepC cy AD1 (H_changes G x1 x2 x3) μ1) (fun μ1 t => Wd D cy A μ1 t) A) (XC9 D A μ (xnm (K_changes G x1 x2 x3))) 2 1004 A := by
  by_cases hb : f_X6_isIndex x1 (nI (gnS G)) = 0
  · have eK : K_changes G x1 x2 x3 = 3 := if_pos hb
    rw [eK]
    exact vx_up (c_X6_changes_b l D cy A μ AD G hM hI x1 x2 x3 hb hlf) (Nat.le_of_ble_eq_true rfl) (Nat.le_of_ble_eq_true rfl) (Nat.le_of_ble_eq_true rfl) (Nat.le_of_ble_eq_true rfl) (Nat.le_of_ble_eq_true rfl) (Nat.le_of_ble_eq_true rfl) (fun _ _ _ _ q => q.elim) (fun _ _ _ q => q)
  · have hi := isx_get (n := gnS G) (Nat.lt_of_le_of_lt hI.s.2.1 (by decide)) hb
    have h := c_X6_changes l D cy A μ AD G hM hI x1.toNatClampNeg x2 x3 hi.1 (hn _ hi.1) hlf
    rw [← hi.2] at h
    have eK := (show K_changes G x1 x2 x3 = x_X6_changes G x1.toNatClampNeg x2 x3 from if_neg hb)
    have eF := (show F_changes G x1 x2 x3 = f_X6_changes G x1.toNatClampNeg x2 x3 from if_neg hb)
    have eH := (show H_changes G x1 x2 x3 = g_X6_changes G x1.toNatClampNeg x2 x3 from if_neg hb)
    rw [eK, eF, eH]
    exact vx_up h (Nat.le_of_ble_eq_true rfl) (Nat.le_of_ble_eq_true rfl) (Nat.le_of_ble_eq_true rfl) (Nat.le_of_ble_eq_true rfl) (Nat.le_of_ble_eq_true rfl) (Nat.le_of_ble_eq_true rfl) (fun _ _ _ _ q => q) (fun _ _ _ q => q)
def K_suspend (G : GS) (x1 x2 : Int32) : Nat := if f_X6_isIndex x1 4 = 0 then 3 else x_X6_suspend G x1.toNatClampNeg x2
def F_suspend (G : GS) (x1 x2 : Int32) : Int32 := if f_X6_isIndex x1 4 = 0 then 0 else f_X6_suspend G x1.toNatClampNeg x2
def H_suspend (G : GS) (x1 x2 : Int32) : GS := if f_X6_isIndex x1 4 = 0 then G else g_X6_suspend G x1.toNatClampNeg x2
theorem t_X6_suspend (l : Launch) (D : va_G) (cy : Nat → ClassId) (A : Nat → Prop) (μ : MU) (AD : AM) (G : GS) (hM : RepC cy AD G μ) (hI : InvC G) (x1 x2 : Int32) (hx2 : x2 = 0 ∨ x2 = 1) (hlf : l.stackTraces = false) : vx_Met l yX6_suspend (WS yX6_suspend cX6_suspend 4 (Option.some Jvm.ClassFile.FieldType.boolean)) { frames := 6, cells := 1, slots := 6, locals := 100 } (va_Pc [.ref (AD 0 0 0), .int x1, .int x2] (Wd D cy A μ)) (va_Qi (fun (r9 : Int32) (μ1 : MU) => K_suspend G x1 x2 = 0 ∧ r9 = F_suspend G x1 x2 ∧ ∃ AD1 : AM, AD1 0 = AD 0 ∧ RepC cy AD1 (H_suspend G x1 x2) μ1) (fun μ1 t => Wd D cy A μ1 t) A) (XC9 D A μ (xnm (K_suspend G x1 x2))) 1 6 A := by
  by_cases hb : f_X6_isIndex x1 4 = 0
  · have eK : K_suspend G x1 x2 = 3 := if_pos hb
    rw [eK]
    exact vx_up (c_X6_suspend_b l D cy A μ AD G hM hI x1 x2 hb hlf) (Nat.le_of_ble_eq_true rfl) (Nat.le_of_ble_eq_true rfl) (Nat.le_of_ble_eq_true rfl) (Nat.le_of_ble_eq_true rfl) (Nat.le_of_ble_eq_true rfl) (Nat.le_of_ble_eq_true rfl) (fun _ _ _ _ q => q.elim) (fun _ _ _ q => q)
  · have hi := isx_get (n := 4) (by decide : 4 < 2 ^ 31) hb
    have h := c_X6_suspend l D cy A μ AD G hM hI x1.toNatClampNeg x2 hi.1 hx2 hlf
    rw [← hi.2] at h
    have eK := (show K_suspend G x1 x2 = x_X6_suspend G x1.toNatClampNeg x2 from if_neg hb)
    have eF := (show F_suspend G x1 x2 = f_X6_suspend G x1.toNatClampNeg x2 from if_neg hb)
    have eH := (show H_suspend G x1 x2 = g_X6_suspend G x1.toNatClampNeg x2 from if_neg hb)
    rw [eK, eF, eH]
    exact vx_up h (Nat.le_of_ble_eq_true rfl) (Nat.le_of_ble_eq_true rfl) (Nat.le_of_ble_eq_true rfl) (Nat.le_of_ble_eq_true rfl) (Nat.le_of_ble_eq_true rfl) (Nat.le_of_ble_eq_true rfl) (fun _ _ _ _ q => q) (fun _ _ _ q => q)
def K_rule (G : GS) (x1 x2 x3 x4 x5 : Int32) : Nat := x_X6_rule G x1 x2 x3 x4 x5
def F_rule (G : GS) (x1 x2 x3 x4 x5 : Int32) : Int32 := f_X6_rule G x1 x2 x3 x4 x5
def H_rule (G : GS) (x1 x2 x3 x4 x5 : Int32) : GS := g_X6_rule G x1 x2 x3 x4 x5
theorem t_X6_rule (l : Launch) (D : va_G) (cy : Nat → ClassId) (A : Nat → Prop) (μ : MU) (AD : AM) (G : GS) (hM : RepC cy AD G μ) (hI : InvC G) (x1 x2 x3 x4 x5 : Int32) (hlf : l.stackTraces = false) : vx_Met l yX6_rule (WS yX6_rule cX6_rule 6 (Option.some Jvm.ClassFile.FieldType.int)) { frames := 7, cells := 2, slots := 1006, locals := 201 } (va_Pc [.ref (AD 0 0 0), .int x1, .int x2, .int x3, .int x4, .int x5] (Wd D cy A μ)) (va_Qi (fun (r9 : Int32) (μ1 : MU) => K_rule G x1 x2 x3 x4 x5 = 0 ∧ r9 = F_rule G x1 x2 x3 x4 x5 ∧ ∃ AD1 : AM, AD1 0 = AD 0 ∧ RepC cy AD1 (H_rule G x1 x2 x3 x4 x5) μ1) (fun μ1 t => Wd D cy A μ1 t) A) (XC9 D A μ (xnm (K_rule G x1 x2 x3 x4 x5))) 2 1006 A := by
  exact c_X6_rule l D cy A μ AD G hM hI x1 x2 x3 x4 x5 hlf
def K_issue (G : GS) (x1 x2 x3 : Int32) : Nat := if f_X6_isIndex x1 (nI (gnS G)) = 0 then 3 else (if f_X6_isIndex x2 5 = 0 then 1 else x_X6_issue G x1.toNatClampNeg x2.toNatClampNeg x3)
def F_issue (G : GS) (x1 x2 x3 : Int32) : Int32 := if f_X6_isIndex x1 (nI (gnS G)) = 0 then 0 else (if f_X6_isIndex x2 5 = 0 then 0 else f_X6_issue G x1.toNatClampNeg x2.toNatClampNeg x3)
def H_issue (G : GS) (x1 x2 x3 : Int32) : GS := if f_X6_isIndex x1 (nI (gnS G)) = 0 then G else (if f_X6_isIndex x2 5 = 0 then G else g_X6_issue G x1.toNatClampNeg x2.toNatClampNeg x3)
theorem t_X6_issue (l : Launch) (D : va_G) (cy : Nat → ClassId) (A : Nat → Prop) (μ : MU) (AD : AM) (G : GS) (hM : RepC cy AD G μ) (hI : InvC G) (x1 x2 x3 : Int32) (hlf : l.stackTraces = false) : vx_Met l yX6_issue (WS yX6_issue cX6_issue 6 (Option.some Jvm.ClassFile.FieldType.int)) { frames := 7, cells := 1, slots := 6, locals := 121 } (va_Pc [.ref (AD 0 0 0), .int x1, .int x2, .int x3] (Wd D cy A μ)) (va_Qi (fun (r9 : Int32) (μ1 : MU) => K_issue G x1 x2 x3 = 0 ∧ r9 = F_issue G x1 x2 x3 ∧ ∃ AD1 : AM, AD1 0 = AD 0 ∧ RepC cy AD1 (H_issue G x1 x2 x3) μ1) (fun μ1 t => Wd D cy A μ1 t) A) (XC9 D A μ (xnm (K_issue G x1 x2 x3))) 1 6 A := by
  by_cases hb : f_X6_isIndex x1 (nI (gnS G)) = 0
  · have eK : K_issue G x1 x2 x3 = 3 := if_pos hb
    rw [eK]
    exact vx_up (c_X6_issue_b l D cy A μ AD G hM hI x1 x2 x3 hb hlf) (Nat.le_of_ble_eq_true rfl) (Nat.le_of_ble_eq_true rfl) (Nat.le_of_ble_eq_true rfl) (Nat.le_of_ble_eq_true rfl) (Nat.le_of_ble_eq_true rfl) (Nat.le_of_ble_eq_true rfl) (fun _ _ _ _ q => q.elim) (fun _ _ _ q => q)
  · have hi := isx_get (n := gnS G) (Nat.lt_of_le_of_lt hI.s.2.1 (by decide)) hb
    by_cases hb2 : f_X6_isIndex x2 5 = 0
    · have eK : K_issue G x1 x2 x3 = 1 := (if_neg hb).trans (if_pos hb2)
      have h := c_X6_issue_f l D cy A μ AD G hM hI x1.toNatClampNeg x2 x3 hi.1 hb2 hlf
      rw [← hi.2] at h
      rw [eK]
      exact vx_up h (Nat.le_of_ble_eq_true rfl) (Nat.le_of_ble_eq_true rfl) (Nat.le_of_ble_eq_true rfl) (Nat.le_of_ble_eq_true rfl) (Nat.le_of_ble_eq_true rfl) (Nat.le_of_ble_eq_true rfl) (fun _ _ _ _ q => q.elim) (fun _ _ _ q => q)
    · have hi2 := isx_get (n := 5) (by decide) hb2
      have h := c_X6_issue l D cy A μ AD G hM hI x1.toNatClampNeg x2.toNatClampNeg x3 hi.1 hi2.1 hlf
      rw [← hi.2, ← hi2.2] at h
      have eK := (show K_issue G x1 x2 x3 = x_X6_issue G x1.toNatClampNeg x2.toNatClampNeg x3 from (if_neg hb).trans (if_neg hb2))
      have eF := (show F_issue G x1 x2 x3 = f_X6_issue G x1.toNatClampNeg x2.toNatClampNeg x3 from (if_neg hb).trans (if_neg hb2))
      have eH := (show H_issue G x1 x2 x3 = g_X6_issue G x1.toNatClampNeg x2.toNatClampNeg x3 from (if_neg hb).trans (if_neg hb2))
      rw [eK, eF, eH]
      exact vx_up h (Nat.le_of_ble_eq_true rfl) (Nat.le_of_ble_eq_true rfl) (Nat.le_of_ble_eq_true rfl) (Nat.le_of_ble_eq_true rfl) (Nat.le_of_ble_eq_true rfl) (Nat.le_of_ble_eq_true rfl) (fun _ _ _ _ q => q) (fun _ _ _ q => q)
def K_endorse (G : GS) (x1 x2 : Int32) : Nat := if f_X6_isIndex x1 (nI (gnS G)) = 0 then 3 else (if f_X6_isIndex x2 5 = 0 then 1 else x_X6_endorse G x1.toNatClampNeg x2.toNatClampNeg)
def F_endorse (G : GS) (x1 x2 : Int32) : Int32 := if f_X6_isIndex x1 (nI (gnS G)) = 0 then 0 else (if f_X6_isIndex x2 5 = 0 then 0 else f_X6_endorse G x1.toNatClampNeg x2.toNatClampNeg)
def H_endorse (G : GS) (x1 x2 : Int32) : GS := if f_X6_isIndex x1 (nI (gnS G)) = 0 then G else (if f_X6_isIndex x2 5 = 0 then G else g_X6_endorse G x1.toNatClampNeg x2.toNatClampNeg)
theorem t_X6_endorse (l : Launch) (D : va_G) (cy : Nat → ClassId) (A : Nat → Prop) (μ : MU) (AD : AM) (G : GS) (hM : RepC cy AD G μ) (hI : InvC G) (x1 x2 : Int32) (hlf : l.stackTraces = false) : vx_Met l yX6_endorse (WS yX6_endorse cX6_endorse 6 (Option.some Jvm.ClassFile.FieldType.int)) { frames := 7, cells := 1, slots := 6, locals := 121 } (va_Pc [.ref (AD 0 0 0), .int x1, .int x2] (Wd D cy A μ)) (va_Qi (fun (r9 : Int32) (μ1 : MU) => K_endorse G x1 x2 = 0 ∧ r9 = F_endorse G x1 x2 ∧ ∃ AD1 : AM, AD1 0 = AD 0 ∧ RepC cy AD1 (H_endorse G x1 x2) μ1) (fun μ1 t => Wd D cy A μ1 t) A) (XC9 D A μ (xnm (K_endorse G x1 x2))) 1 6 A := by
  by_cases hb : f_X6_isIndex x1 (nI (gnS G)) = 0
  · have eK : K_endorse G x1 x2 = 3 := if_pos hb
    rw [eK]
    exact vx_up (c_X6_endorse_b l D cy A μ AD G hM hI x1 x2 hb hlf) (Nat.le_of_ble_eq_true rfl) (Nat.le_of_ble_eq_true rfl) (Nat.le_of_ble_eq_true rfl) (Nat.le_of_ble_eq_true rfl) (Nat.le_of_ble_eq_true rfl) (Nat.le_of_ble_eq_true rfl) (fun _ _ _ _ q => q.elim) (fun _ _ _ q => q)
  · have hi := isx_get (n := gnS G) (Nat.lt_of_le_of_lt hI.s.2.1 (by decide)) hb
    by_cases hb2 : f_X6_isIndex x2 5 = 0
    · have eK : K_endorse G x1 x2 = 1 := (if_neg hb).trans (if_pos hb2)
      have h := c_X6_endorse_f l D cy A μ AD G hM hI x1.toNatClampNeg x2 hi.1 hb2 hlf
      rw [← hi.2] at h
      rw [eK]
      exact vx_up h (Nat.le_of_ble_eq_true rfl) (Nat.le_of_ble_eq_true rfl) (Nat.le_of_ble_eq_true rfl) (Nat.le_of_ble_eq_true rfl) (Nat.le_of_ble_eq_true rfl) (Nat.le_of_ble_eq_true rfl) (fun _ _ _ _ q => q.elim) (fun _ _ _ q => q)
    · have hi2 := isx_get (n := 5) (by decide) hb2
      have h := c_X6_endorse l D cy A μ AD G hM hI x1.toNatClampNeg x2.toNatClampNeg hi.1 hi2.1 hlf
      rw [← hi.2, ← hi2.2] at h
      have eK := (show K_endorse G x1 x2 = x_X6_endorse G x1.toNatClampNeg x2.toNatClampNeg from (if_neg hb).trans (if_neg hb2))
      have eF := (show F_endorse G x1 x2 = f_X6_endorse G x1.toNatClampNeg x2.toNatClampNeg from (if_neg hb).trans (if_neg hb2))
      have eH := (show H_endorse G x1 x2 = g_X6_endorse G x1.toNatClampNeg x2.toNatClampNeg from (if_neg hb).trans (if_neg hb2))
      rw [eK, eF, eH]
      exact vx_up h (Nat.le_of_ble_eq_true rfl) (Nat.le_of_ble_eq_true rfl) (Nat.le_of_ble_eq_true rfl) (Nat.le_of_ble_eq_true rfl) (Nat.le_of_ble_eq_true rfl) (Nat.le_of_ble_eq_true rfl) (fun _ _ _ _ q => q) (fun _ _ _ q => q)
def K_calls (G : GS) (x1 x2 : Int32) : Nat := if f_X6_isIndex x1 (nI (gnS G)) = 0 then 3 else x_X6_calls G x1.toNatClampNeg x2
def F_calls (G : GS) (x1 x2 : Int32) : Int32 := if f_X6_isIndex x1 (nI (gnS G)) = 0 then 0 else f_X6_calls G x1.toNatClampNeg x2
def H_calls (G : GS) (x1 x2 : Int32) : GS := if f_X6_isIndex x1 (nI (gnS G)) = 0 then G else g_X6_calls G x1.toNatClampNeg x2
theorem t_X6_calls (l : Launch) (D : va_G) (cy : Nat → ClassId) (A : Nat → Prop) (μ : MU) (AD : AM) (G : GS) (hM : RepC cy AD G μ) (hI : InvC G) (x1 x2 : Int32) (hlf : l.stackTraces = false) : vx_Met l yX6_calls (WS yX6_calls cX6_calls 4 (Option.some Jvm.ClassFile.FieldType.int)) { frames := 8, cells := 1, slots := 6, locals := 183 } (va_Pc [.ref (AD 0 0 0), .int x1, .int x2] (Wd D cy A μ)) (va_Qi (fun (r9 : Int32) (μ1 : MU) => K_calls G x1 x2 = 0 ∧ r9 = F_calls G x1 x2 ∧ ∃ AD1 : AM, AD1 0 = AD 0 ∧ RepC cy AD1 (H_calls G x1 x2) μ1) (fun μ1 t => Wd D cy A μ1 t) A) (XC9 D A μ (xnm (K_calls G x1 x2))) 1 6 A := by
  by_cases hb : f_X6_isIndex x1 (nI (gnS G)) = 0
  · have eK : K_calls G x1 x2 = 3 := if_pos hb
    rw [eK]
    exact vx_up (c_X6_calls_b l D cy A μ AD G hM hI x1 x2 hb hlf) (Nat.le_of_ble_eq_true rfl) (Nat.le_of_ble_eq_true rfl) (Nat.le_of_ble_eq_true rfl) (Nat.le_of_ble_eq_true rfl) (Nat.le_of_ble_eq_true rfl) (Nat.le_of_ble_eq_true rfl) (fun _ _ _ _ q => q.elim) (fun _ _ _ q => q)
  · have hi := isx_get (n := gnS G) (Nat.lt_of_le_of_lt hI.s.2.1 (by decide)) hb
    have h := c_X6_calls l D cy A μ AD G hM hI x1.toNatClampNeg x2 hi.1 hlf
    rw [← hi.2] at h
    have eK := (show K_calls G x1 x2 = x_X6_calls G x1.toNatClampNeg x2 from if_neg hb)
    have eF := (show F_calls G x1 x2 = f_X6_calls G x1.toNatClampNeg x2 from if_neg hb)
    have eH := (show H_calls G x1 x2 = g_X6_calls G x1.toNatClampNeg x2 from if_neg hb)
    rw [eK, eF, eH]
    exact vx_up h (Nat.le_of_ble_eq_true rfl) (Nat.le_of_ble_eq_true rfl) (Nat.le_of_ble_eq_true rfl) (Nat.le_of_ble_eq_true rfl) (Nat.le_of_ble_eq_true rfl) (Nat.le_of_ble_eq_true rfl) (fun _ _ _ _ q => q) (fun _ _ _ q => q)
def K_leaves (G : GS) (x1 : Int32) : Nat := if f_X6_isIndex x1 (nI (gnS G)) = 0 then 3 else (if G 10 x1.toNatClampNeg = -1 then 2 else x_X6_leaves G x1.toNatClampNeg (G 10 x1.toNatClampNeg).toNatClampNeg)
def F_leaves (G : GS) (x1 : Int32) : Int32 := if f_X6_isIndex x1 (nI (gnS G)) = 0 then 0 else (if G 10 x1.toNatClampNeg = -1 then 0 else f_X6_leaves G x1.toNatClampNeg (G 10 x1.toNatClampNeg).toNatClampNeg)
def H_leaves (G : GS) (x1 : Int32) : GS := if f_X6_isIndex x1 (nI (gnS G)) = 0 then G else (if G 10 x1.toNatClampNeg = -1 then G else g_X6_leaves G x1.toNatClampNeg (G 10 x1.toNatClampNeg).toNatClampNeg)
theorem t_X6_leaves (l : Launch) (D : va_G) (cy : Nat → ClassId) (A : Nat → Prop) (μ : MU) (AD : AM) (G : GS) (hM : RepC cy AD G μ) (hI : InvC G) (x1 : Int32) (hp : ∀ s, s < gnS G → G 10 s = -1 ∨ (G 10 s = nI (G 10 s).toNatClampNeg ∧ (G 10 s).toNatClampNeg < 4)) (hlf : l.stackTraces = false) : vx_Met l yX6_leaves (WS yX6_leaves cX6_leaves 4 (Option.some Jvm.ClassFile.FieldType.boolean)) { frames := 8, cells := 1, slots := 6, locals := 183 } (va_Pc [.ref (AD 0 0 0), .int x1] (Wd D cy A μ)) (va_Qi (fun (r9 : Int32) (μ1 : MU) => K_leaves G x1 = 0 ∧ r9 = F_leaves G x1 ∧ ∃ AD1 : AM, AD1 0 = AD 0 ∧ RepC cy AD1 (H_leaves G x1) μ1) (fun μ1 t => Wd D cy A μ1 t) A) (XC9 D A μ (xnm (K_leaves G x1))) 1 6 A := by
  by_cases hb : f_X6_isIndex x1 (nI (gnS G)) = 0
  · have eK : K_leaves G x1 = 3 := if_pos hb
    rw [eK]
    exact vx_up (c_X6_leaves_b l D cy A μ AD G hM hI x1 hb hlf) (Nat.le_of_ble_eq_true rfl) (Nat.le_of_ble_eq_true rfl) (Nat.le_of_ble_eq_true rfl) (Nat.le_of_ble_eq_true rfl) (Nat.le_of_ble_eq_true rfl) (Nat.le_of_ble_eq_true rfl) (fun _ _ _ _ q => q.elim) (fun _ _ _ q => q)
  · have hi := isx_get (n := gnS G) (Nat.lt_of_le_of_lt hI.s.2.1 (by decide)) hb
    by_cases hb2 : G 10 x1.toNatClampNeg = -1
    · have eK : K_leaves G x1 = 2 := (if_neg hb).trans (if_pos hb2)
      have h := c_X6_leaves_n l D cy A μ AD G hM hI x1.toNatClampNeg hi.1 hb2 hlf
      rw [← hi.2] at h
      rw [eK]
      exact vx_up h (Nat.le_of_ble_eq_true rfl) (Nat.le_of_ble_eq_true rfl) (Nat.le_of_ble_eq_true rfl) (Nat.le_of_ble_eq_true rfl) (Nat.le_of_ble_eq_true rfl) (Nat.le_of_ble_eq_true rfl) (fun _ _ _ _ q => q.elim) (fun _ _ _ q => q)
    · have hi2 := (hp _ hi.1).resolve_left hb2
      have h := c_X6_leaves l D cy A μ AD G hM hI x1.toNatClampNeg (G 10 x1.toNatClampNeg).toNatClampNeg hi.1 hi2.2 hi2.1 hlf
      rw [← hi.2] at h
      have eK := (show K_leaves G x1 = x_X6_leaves G x1.toNatClampNeg (G 10 x1.toNatClampNeg).toNatClampNeg from (if_neg hb).trans (if_neg hb2))
      have eF := (show F_leaves G x1 = f_X6_leaves G x1.toNatClampNeg (G 10 x1.toNatClampNeg).toNatClampNeg from (if_neg hb).trans (if_neg hb2))
      have eH := (show H_leaves G x1 = g_X6_leaves G x1.toNatClampNeg (G 10 x1.toNatClampNeg).toNatClampNeg from (if_neg hb).trans (if_neg hb2))
      rw [eK, eF, eH]
      exact vx_up h (Nat.le_of_ble_eq_true rfl) (Nat.le_of_ble_eq_true rfl) (Nat.le_of_ble_eq_true rfl) (Nat.le_of_ble_eq_true rfl) (Nat.le_of_ble_eq_true rfl) (Nat.le_of_ble_eq_true rfl) (fun _ _ _ _ q => q) (fun _ _ _ q => q)
def K_visit (G : GS) (x1 : Int32) : Nat := if f_X6_isIndex x1 (nI (gnS G)) = 0 then 3 else x_X6_visit G x1.toNatClampNeg
def F_visit (G : GS) (x1 : Int32) : Int32 := if f_X6_isIndex x1 (nI (gnS G)) = 0 then 0 else f_X6_visit G x1.toNatClampNeg
def H_visit (G : GS) (x1 : Int32) : GS := if f_X6_isIndex x1 (nI (gnS G)) = 0 then G else g_X6_visit G x1.toNatClampNeg
theorem t_X6_visit (l : Launch) (D : va_G) (cy : Nat → ClassId) (A : Nat → Prop) (μ : MU) (AD : AM) (G : GS) (hM : RepC cy AD G μ) (hI : InvC G) (x1 : Int32) (hn : ∀ s, s < gnS G → gnN G s < 514) (hlf : l.stackTraces = false) : vx_Met l yX6_visit (WS yX6_visit cX6_visit 4 (Option.some Jvm.ClassFile.FieldType.int)) { frames := 8, cells := 5, slots := 2019, locals := 225 } (va_Pc [.ref (AD 0 0 0), .int x1] (Wd D cy A μ)) (va_Qi (fun (r9 : Int32) (μ1 : MU) => K_visit G x1 = 0 ∧ r9 = F_visit G x1 ∧ ∃ AD1 : AM, AD1 0 = AD 0 ∧ RepC cy AD1 (H_visit G x1) μ1) (fun μ1 t => Wd D cy A μ1 t) A) (XC9 D A μ (xnm (K_visit G x1))) 5 2019 A := by
  by_cases hb : f_X6_isIndex x1 (nI (gnS G)) = 0
  · have eK : K_visit G x1 = 3 := if_pos hb
    rw [eK]
    exact vx_up (c_X6_visit_b l D cy A μ AD G hM hI x1 hb hlf) (Nat.le_of_ble_eq_true rfl) (Nat.le_of_ble_eq_true rfl) (Nat.le_of_ble_eq_true rfl) (Nat.le_of_ble_eq_true rfl) (Nat.le_of_ble_eq_true rfl) (Nat.le_of_ble_eq_true rfl) (fun _ _ _ _ q => q.elim) (fun _ _ _ q => q)
  · have hi := isx_get (n := gnS G) (Nat.lt_of_le_of_lt hI.s.2.1 (by decide)) hb
    have h := c_X6_visit l D cy A μ AD G hM hI x1.toNatClampNeg hi.1 (hn _ hi.1) hlf
    rw [← hi.2] at h
    have eK := (show K_visit G x1 = x_X6_visit G x1.toNatClampNeg from if_neg hb)
    have eF := (show F_visit G x1 = f_X6_visit G x1.toNatClampNeg from if_neg hb)
    have eH := (show H_visit G x1 = g_X6_visit G x1.toNatClampNeg from if_neg hb)
    rw [eK, eF, eH]
    exact vx_up h (Nat.le_of_ble_eq_true rfl) (Nat.le_of_ble_eq_true rfl) (Nat.le_of_ble_eq_true rfl) (Nat.le_of_ble_eq_true rfl) (Nat.le_of_ble_eq_true rfl) (Nat.le_of_ble_eq_true rfl) (fun _ _ _ _ q => q) (fun _ _ _ q => q)
def K_finds (G : GS) (x1 x2 x3 : Int32) : Nat := if f_X6_isIndex x1 (nI (gnV G)) = 0 then 3 else x_X6_finds G x1.toNatClampNeg x2 x3
def F_finds (G : GS) (x1 x2 x3 : Int32) : Int32 := if f_X6_isIndex x1 (nI (gnV G)) = 0 then 0 else f_X6_finds G x1.toNatClampNeg x2 x3
def H_finds (G : GS) (x1 x2 x3 : Int32) : GS := if f_X6_isIndex x1 (nI (gnV G)) = 0 then G else g_X6_finds G x1.toNatClampNeg x2 x3
theorem t_X6_finds (l : Launch) (D : va_G) (cy : Nat → ClassId) (A : Nat → Prop) (μ : MU) (AD : AM) (G : GS) (hM : RepC cy AD G μ) (hI : InvC G) (x1 x2 x3 : Int32) (hn : ∀ s, s < gnS G → gnN G s < 514) (hlf : l.stackTraces = false) : vx_Met l yX6_finds (WS yX6_finds cX6_finds 5 (Option.some Jvm.ClassFile.FieldType.int)) { frames := 8, cells := 4, slots := 2007, locals := 225 } (va_Pc [.ref (AD 0 0 0), .int x1, .int x2, .int x3] (Wd D cy A μ)) (va_Qi (fun (r9 : Int32) (μ1 : MU) => K_finds G x1 x2 x3 = 0 ∧ r9 = F_finds G x1 x2 x3 ∧ ∃ AD1 : AM, AD1 0 = AD 0 ∧ RepC cy AD1 (H_finds G x1 x2 x3) μ1) (fun μ1 t => Wd D cy A μ1 t) A) (XC9 D A μ (xnm (K_finds G x1 x2 x3))) 4 2007 A := by
  by_cases hb : f_X6_isIndex x1 (nI (gnV G)) = 0
  · have eK : K_finds G x1 x2 x3 = 3 := if_pos hb
    rw [eK]
    exact vx_up (c_X6_finds_b l D cy A μ AD G hM hI x1 x2 x3 hb hlf) (Nat.le_of_ble_eq_true rfl) (Nat.le_of_ble_eq_true rfl) (Nat.le_of_ble_eq_true rfl) (Nat.le_of_ble_eq_true rfl) (Nat.le_of_ble_eq_true rfl) (Nat.le_of_ble_eq_true rfl) (fun _ _ _ _ q => q.elim) (fun _ _ _ q => q)
  · have hi := isx_get (n := gnV G) (Nat.lt_of_le_of_lt hI.v.2.1 (by decide)) hb
    have h := c_X6_finds l D cy A μ AD G hM hI x1.toNatClampNeg x2 x3 hi.1 (hn _ (hI.so hi.1).2) hlf
    rw [← hi.2] at h
    have eK := (show K_finds G x1 x2 x3 = x_X6_finds G x1.toNatClampNeg x2 x3 from if_neg hb)
    have eF := (show F_finds G x1 x2 x3 = f_X6_finds G x1.toNatClampNeg x2 x3 from if_neg hb)
    have eH := (show H_finds G x1 x2 x3 = g_X6_finds G x1.toNatClampNeg x2 x3 from if_neg hb)
    rw [eK, eF, eH]
    exact vx_up h (Nat.le_of_ble_eq_true rfl) (Nat.le_of_ble_eq_true rfl) (Nat.le_of_ble_eq_true rfl) (Nat.le_of_ble_eq_true rfl) (Nat.le_of_ble_eq_true rfl) (Nat.le_of_ble_eq_true rfl) (fun _ _ _ _ q => q) (fun _ _ _ q => q)
def K_mends (G : GS) (x1 x2 x3 : Int32) : Nat := if f_X6_isIndex x1 (nI (gnV G)) = 0 then 3 else (if f_X6_isIndex x2 (nI (gnF G x1.toNatClampNeg)) = 0 then 3 else x_X6_mends G x1.toNatClampNeg x2.toNatClampNeg x3)
def F_mends (G : GS) (x1 x2 x3 : Int32) : Int32 := if f_X6_isIndex x1 (nI (gnV G)) = 0 then 0 else (if f_X6_isIndex x2 (nI (gnF G x1.toNatClampNeg)) = 0 then 0 else f_X6_mends G x1.toNatClampNeg x2.toNatClampNeg x3)
def H_mends (G : GS) (x1 x2 x3 : Int32) : GS := if f_X6_isIndex x1 (nI (gnV G)) = 0 then G else (if f_X6_isIndex x2 (nI (gnF G x1.toNatClampNeg)) = 0 then G else g_X6_mends G x1.toNatClampNeg x2.toNatClampNeg x3)
theorem t_X6_mends (l : Launch) (D : va_G) (cy : Nat → ClassId) (A : Nat → Prop) (μ : MU) (AD : AM) (G : GS) (hM : RepC cy AD G μ) (hI : InvC G) (x1 x2 x3 : Int32) (hx3 : x3 = 0 ∨ x3 = 1) (hlf : l.stackTraces = false) : vx_Met l yX6_mends (WS yX6_mends cX6_mends 6 (Option.some Jvm.ClassFile.FieldType.int)) { frames := 7, cells := 1, slots := 6, locals := 121 } (va_Pc [.ref (AD 0 0 0), .int x1, .int x2, .int x3] (Wd D cy A μ)) (va_Qi (fun (r9 : Int32) (μ1 : MU) => K_mends G x1 x2 x3 = 0 ∧ r9 = F_mends G x1 x2 x3 ∧ ∃ AD1 : AM, AD1 0 = AD 0 ∧ RepC cy AD1 (H_mends G x1 x2 x3) μ1) (fun μ1 t => Wd D cy A μ1 t) A) (XC9 D A μ (xnm (K_mends G x1 x2 x3))) 1 6 A := by
  by_cases hb : f_X6_isIndex x1 (nI (gnV G)) = 0
  · have eK : K_mends G x1 x2 x3 = 3 := if_pos hb
    rw [eK]
    exact vx_up (c_X6_mends_b l D cy A μ AD G hM hI x1 x2 x3 hb hlf) (Nat.le_of_ble_eq_true rfl) (Nat.le_of_ble_eq_true rfl) (Nat.le_of_ble_eq_true rfl) (Nat.le_of_ble_eq_true rfl) (Nat.le_of_ble_eq_true rfl) (Nat.le_of_ble_eq_true rfl) (fun _ _ _ _ q => q.elim) (fun _ _ _ q => q)
  · have hi := isx_get (n := gnV G) (Nat.lt_of_le_of_lt hI.v.2.1 (by decide)) hb
    by_cases hb2 : f_X6_isIndex x2 (nI (gnF G x1.toNatClampNeg)) = 0
    · have eK : K_mends G x1 x2 x3 = 3 := (if_neg hb).trans (if_pos hb2)
      have h := c_X6_mends_f l D cy A μ AD G hM hI x1.toNatClampNeg x2 x3 hi.1 hb2 hlf
      rw [← hi.2] at h
      rw [eK]
      exact vx_up h (Nat.le_of_ble_eq_true rfl) (Nat.le_of_ble_eq_true rfl) (Nat.le_of_ble_eq_true rfl) (Nat.le_of_ble_eq_true rfl) (Nat.le_of_ble_eq_true rfl) (Nat.le_of_ble_eq_true rfl) (fun _ _ _ _ q => q.elim) (fun _ _ _ q => q)
    · have hi2 := isx_get (n := gnF G x1.toNatClampNeg) (Nat.lt_of_le_of_lt (hI.f hi.1).2.1 (by decide)) hb2
      have h := c_X6_mends l D cy A μ AD G hM hI x1.toNatClampNeg x2.toNatClampNeg x3 hi.1 hi2.1 hlf
      rw [← hi.2, ← hi2.2] at h
      have eK := (show K_mends G x1 x2 x3 = x_X6_mends G x1.toNatClampNeg x2.toNatClampNeg x3 from (if_neg hb).trans (if_neg hb2))
      have eF := (show F_mends G x1 x2 x3 = f_X6_mends G x1.toNatClampNeg x2.toNatClampNeg x3 from (if_neg hb).trans (if_neg hb2))
      have eH := (show H_mends G x1 x2 x3 = g_X6_mends G x1.toNatClampNeg x2.toNatClampNeg x3 from (if_neg hb).trans (if_neg hb2))
      rw [eK, eF, eH]
      exact vx_up h (Nat.le_of_ble_eq_true rfl) (Nat.le_of_ble_eq_true rfl) (Nat.le_of_ble_eq_true rfl) (Nat.le_of_ble_eq_true rfl) (Nat.le_of_ble_eq_true rfl) (Nat.le_of_ble_eq_true rfl) (fun _ _ _ _ q => q) (fun _ _ _ q => q)
def K_detain (G : GS) (x1 : Int32) : Nat := if f_X6_isIndex x1 (nI (gnV G)) = 0 then 3 else x_X6_detain G x1.toNatClampNeg
def F_detain (G : GS) (x1 : Int32) : Int32 := if f_X6_isIndex x1 (nI (gnV G)) = 0 then 0 else f_X6_detain G x1.toNatClampNeg
def H_detain (G : GS) (x1 : Int32) : GS := if f_X6_isIndex x1 (nI (gnV G)) = 0 then G else g_X6_detain G x1.toNatClampNeg
theorem t_X6_detain (l : Launch) (D : va_G) (cy : Nat → ClassId) (A : Nat → Prop) (μ : MU) (AD : AM) (G : GS) (hM : RepC cy AD G μ) (hI : InvC G) (x1 : Int32) (hn : ∀ s, s < gnS G → gnN G s < 514) (hlf : l.stackTraces = false) : vx_Met l yX6_detain (WS yX6_detain cX6_detain 3 (Option.some Jvm.ClassFile.FieldType.int)) { frames := 8, cells := 2, slots := 1004, locals := 225 } (va_Pc [.ref (AD 0 0 0), .int x1] (Wd D cy A μ)) (va_Qi (fun (r9 : Int32) (μ1 : MU) => K_detain G x1 = 0 ∧ r9 = F_detain G x1 ∧ ∃ AD1 : AM, AD1 0 = AD 0 ∧ RepC cy AD1 (H_detain G x1) μ1) (fun μ1 t => Wd D cy A μ1 t) A) (XC9 D A μ (xnm (K_detain G x1))) 2 1004 A := by
  by_cases hb : f_X6_isIndex x1 (nI (gnV G)) = 0
  · have eK : K_detain G x1 = 3 := if_pos hb
    rw [eK]
    exact vx_up (c_X6_detain_b l D cy A μ AD G hM hI x1 hb hlf) (Nat.le_of_ble_eq_true rfl) (Nat.le_of_ble_eq_true rfl) (Nat.le_of_ble_eq_true rfl) (Nat.le_of_ble_eq_true rfl) (Nat.le_of_ble_eq_true rfl) (Nat.le_of_ble_eq_true rfl) (fun _ _ _ _ q => q.elim) (fun _ _ _ q => q)
  · have hi := isx_get (n := gnV G) (Nat.lt_of_le_of_lt hI.v.2.1 (by decide)) hb
    have h := c_X6_detain l D cy A μ AD G hM hI x1.toNatClampNeg hi.1 (hn _ (hI.so hi.1).2) hlf
    rw [← hi.2] at h
    have eK := (show K_detain G x1 = x_X6_detain G x1.toNatClampNeg from if_neg hb)
    have eF := (show F_detain G x1 = f_X6_detain G x1.toNatClampNeg from if_neg hb)
    have eH := (show H_detain G x1 = g_X6_detain G x1.toNatClampNeg from if_neg hb)
    rw [eK, eF, eH]
    exact vx_up h (Nat.le_of_ble_eq_true rfl) (Nat.le_of_ble_eq_true rfl) (Nat.le_of_ble_eq_true rfl) (Nat.le_of_ble_eq_true rfl) (Nat.le_of_ble_eq_true rfl) (Nat.le_of_ble_eq_true rfl) (fun _ _ _ _ q => q) (fun _ _ _ q => q)
def K_release (G : GS) (x1 : Int32) : Nat := if f_X6_isIndex x1 (nI (gnS G)) = 0 then 3 else x_X6_release G x1.toNatClampNeg
def F_release (G : GS) (x1 : Int32) : Int32 := if f_X6_isIndex x1 (nI (gnS G)) = 0 then 0 else f_X6_release G x1.toNatClampNeg
def H_release (G : GS) (x1 : Int32) : GS := if f_X6_isIndex x1 (nI (gnS G)) = 0 then G else g_X6_release G x1.toNatClampNeg
theorem t_X6_release (l : Launch) (D : va_G) (cy : Nat → ClassId) (A : Nat → Prop) (μ : MU) (AD : AM) (G : GS) (hM : RepC cy AD G μ) (hI : InvC G) (x1 : Int32) (hlf : l.stackTraces = false) : vx_Met l yX6_release (WS yX6_release cX6_release 5 (Option.some Jvm.ClassFile.FieldType.int)) { frames := 7, cells := 1, slots := 6, locals := 121 } (va_Pc [.ref (AD 0 0 0), .int x1] (Wd D cy A μ)) (va_Qi (fun (r9 : Int32) (μ1 : MU) => K_release G x1 = 0 ∧ r9 = F_release G x1 ∧ ∃ AD1 : AM, AD1 0 = AD 0 ∧ RepC cy AD1 (H_release G x1) μ1) (fun μ1 t => Wd D cy A μ1 t) A) (XC9 D A μ (xnm (K_release G x1))) 1 6 A := by
  by_cases hb : f_X6_isIndex x1 (nI (gnS G)) = 0
  · have eK : K_release G x1 = 3 := if_pos hb
    rw [eK]
    exact vx_up (c_X6_release_b l D cy A μ AD G hM hI x1 hb hlf) (Nat.le_of_ble_eq_true rfl) (Nat.le_of_ble_eq_true rfl) (Nat.le_of_ble_eq_true rfl) (Nat.le_of_ble_eq_true rfl) (Nat.le_of_ble_eq_true rfl) (Nat.le_of_ble_eq_true rfl) (fun _ _ _ _ q => q.elim) (fun _ _ _ q => q)
  · have hi := isx_get (n := gnS G) (Nat.lt_of_le_of_lt hI.s.2.1 (by decide)) hb
    have h := c_X6_release l D cy A μ AD G hM hI x1.toNatClampNeg hi.1 hlf
    rw [← hi.2] at h
    have eK := (show K_release G x1 = x_X6_release G x1.toNatClampNeg from if_neg hb)
    have eF := (show F_release G x1 = f_X6_release G x1.toNatClampNeg from if_neg hb)
    have eH := (show H_release G x1 = g_X6_release G x1.toNatClampNeg from if_neg hb)
    rw [eK, eF, eH]
    exact vx_up h (Nat.le_of_ble_eq_true rfl) (Nat.le_of_ble_eq_true rfl) (Nat.le_of_ble_eq_true rfl) (Nat.le_of_ble_eq_true rfl) (Nat.le_of_ble_eq_true rfl) (Nat.le_of_ble_eq_true rfl) (fun _ _ _ _ q => q) (fun _ _ _ q => q)
def K_appeal (G : GS) (x1 : Int32) : Nat := if f_X6_isIndex x1 (nI (gnV G)) = 0 then 3 else x_X6_appeal G x1.toNatClampNeg
def H_appeal (G : GS) (x1 : Int32) : GS := if f_X6_isIndex x1 (nI (gnV G)) = 0 then G else g_X6_appeal G x1.toNatClampNeg
theorem t_X6_appeal (l : Launch) (D : va_G) (cy : Nat → ClassId) (A : Nat → Prop) (μ : MU) (AD : AM) (G : GS) (hM : RepC cy AD G μ) (hI : InvC G) (x1 : Int32) (hlf : l.stackTraces = false) : vx_Met l yX6_appeal (WS yX6_appeal cX6_appeal 3 (Option.none : Option Jvm.ClassFile.FieldType)) { frames := 7, cells := 1, slots := 6, locals := 121 } (va_Pc [.ref (AD 0 0 0), .int x1] (Wd D cy A μ)) (va_Qv (fun μ1 : MU => K_appeal G x1 = 0 ∧ ∃ AD1 : AM, AD1 0 = AD 0 ∧ RepC cy AD1 (H_appeal G x1) μ1) (fun μ1 t => Wd D cy A μ1 t) A) (XC9 D A μ (xnm (K_appeal G x1))) 1 6 A := by
  by_cases hb : f_X6_isIndex x1 (nI (gnV G)) = 0
  · have eK : K_appeal G x1 = 3 := if_pos hb
    rw [eK]
    exact vx_up (c_X6_appeal_b l D cy A μ AD G hM hI x1 hb hlf) (Nat.le_of_ble_eq_true rfl) (Nat.le_of_ble_eq_true rfl) (Nat.le_of_ble_eq_true rfl) (Nat.le_of_ble_eq_true rfl) (Nat.le_of_ble_eq_true rfl) (Nat.le_of_ble_eq_true rfl) (fun _ _ _ _ q => q.elim) (fun _ _ _ q => q)
  · have hi := isx_get (n := gnV G) (Nat.lt_of_le_of_lt hI.v.2.1 (by decide)) hb
    have h := c_X6_appeal l D cy A μ AD G hM hI x1.toNatClampNeg hi.1 hlf
    rw [← hi.2] at h
    have eK := (show K_appeal G x1 = x_X6_appeal G x1.toNatClampNeg from if_neg hb)
    have eH := (show H_appeal G x1 = g_X6_appeal G x1.toNatClampNeg from if_neg hb)
    rw [eK, eH]
    exact vx_up h (Nat.le_of_ble_eq_true rfl) (Nat.le_of_ble_eq_true rfl) (Nat.le_of_ble_eq_true rfl) (Nat.le_of_ble_eq_true rfl) (Nat.le_of_ble_eq_true rfl) (Nat.le_of_ble_eq_true rfl) (fun _ _ _ _ q => q) (fun _ _ _ q => q)
def K_vote (G : GS) (x1 x2 : Int32) : Nat := if f_X6_isIndex x1 (nI (gnV G)) = 0 then 3 else x_X6_vote G x1.toNatClampNeg x2
def F_vote (G : GS) (x1 x2 : Int32) : Int32 := if f_X6_isIndex x1 (nI (gnV G)) = 0 then 0 else f_X6_vote G x1.toNatClampNeg x2
def H_vote (G : GS) (x1 x2 : Int32) : GS := if f_X6_isIndex x1 (nI (gnV G)) = 0 then G else g_X6_vote G x1.toNatClampNeg x2
theorem t_X6_vote (l : Launch) (D : va_G) (cy : Nat → ClassId) (A : Nat → Prop) (μ : MU) (AD : AM) (G : GS) (hM : RepC cy AD G μ) (hI : InvC G) (x1 x2 : Int32) (hx2 : x2 = 0 ∨ x2 = 1) (hn : ∀ s, s < gnS G → gnN G s < 514) (hlf : l.stackTraces = false) : vx_Met l yX6_vote (WS yX6_vote cX6_vote 4 (Option.some Jvm.ClassFile.FieldType.int)) { frames := 8, cells := 2, slots := 1004, locals := 225 } (va_Pc [.ref (AD 0 0 0), .int x1, .int x2] (Wd D cy A μ)) (va_Qi (fun (r9 : Int32) (μ1 : MU) => K_vote G x1 x2 = 0 ∧ r9 = F_vote G x1 x2 ∧ ∃ AD1 : AM, AD1 0 = AD 0 ∧ RepC cy AD1 (H_vote G x1 x2) μ1) (fun μ1 t => Wd D cy A μ1 t) A) (XC9 D A μ (xnm (K_vote G x1 x2))) 2 1004 A := by
  by_cases hb : f_X6_isIndex x1 (nI (gnV G)) = 0
  · have eK : K_vote G x1 x2 = 3 := if_pos hb
    rw [eK]
    exact vx_up (c_X6_vote_b l D cy A μ AD G hM hI x1 x2 hb hlf) (Nat.le_of_ble_eq_true rfl) (Nat.le_of_ble_eq_true rfl) (Nat.le_of_ble_eq_true rfl) (Nat.le_of_ble_eq_true rfl) (Nat.le_of_ble_eq_true rfl) (Nat.le_of_ble_eq_true rfl) (fun _ _ _ _ q => q.elim) (fun _ _ _ q => q)
  · have hi := isx_get (n := gnV G) (Nat.lt_of_le_of_lt hI.v.2.1 (by decide)) hb
    have h := c_X6_vote l D cy A μ AD G hM hI x1.toNatClampNeg x2 hi.1 hx2 (hn _ (hI.so hi.1).2) hlf
    rw [← hi.2] at h
    have eK := (show K_vote G x1 x2 = x_X6_vote G x1.toNatClampNeg x2 from if_neg hb)
    have eF := (show F_vote G x1 x2 = f_X6_vote G x1.toNatClampNeg x2 from if_neg hb)
    have eH := (show H_vote G x1 x2 = g_X6_vote G x1.toNatClampNeg x2 from if_neg hb)
    rw [eK, eF, eH]
    exact vx_up h (Nat.le_of_ble_eq_true rfl) (Nat.le_of_ble_eq_true rfl) (Nat.le_of_ble_eq_true rfl) (Nat.le_of_ble_eq_true rfl) (Nat.le_of_ble_eq_true rfl) (Nat.le_of_ble_eq_true rfl) (fun _ _ _ _ q => q) (fun _ _ _ q => q)
def K_ofShip (G : GS) (x1 x2 : Int32) : Nat := if f_X6_isIndex x1 (nI (gnS G)) = 0 then 3 else x_X6_ofShip G x1.toNatClampNeg x2
def F_ofShip (G : GS) (x1 x2 : Int32) : Int32 := if f_X6_isIndex x1 (nI (gnS G)) = 0 then 0 else f_X6_ofShip G x1.toNatClampNeg x2
def H_ofShip (G : GS) (x1 x2 : Int32) : GS := if f_X6_isIndex x1 (nI (gnS G)) = 0 then G else g_X6_ofShip G x1.toNatClampNeg x2
theorem t_X6_ofShip (l : Launch) (D : va_G) (cy : Nat → ClassId) (A : Nat → Prop) (μ : MU) (AD : AM) (G : GS) (hM : RepC cy AD G μ) (hI : InvC G) (x1 x2 : Int32) (hlf : l.stackTraces = false) : vx_Met l yX6_ofShip (WS yX6_ofShip cX6_ofShip 4 (Option.some Jvm.ClassFile.FieldType.int)) { frames := 8, cells := 1, slots := 6, locals := 183 } (va_Pc [.ref (AD 0 0 0), .int x1, .int x2] (Wd D cy A μ)) (va_Qi (fun (r9 : Int32) (μ1 : MU) => K_ofShip G x1 x2 = 0 ∧ r9 = F_ofShip G x1 x2 ∧ ∃ AD1 : AM, AD1 0 = AD 0 ∧ RepC cy AD1 (H_ofShip G x1 x2) μ1) (fun μ1 t => Wd D cy A μ1 t) A) (XC9 D A μ (xnm (K_ofShip G x1 x2))) 1 6 A := by
  by_cases hb : f_X6_isIndex x1 (nI (gnS G)) = 0
  · have eK : K_ofShip G x1 x2 = 3 := if_pos hb
    rw [eK]
    exact vx_up (c_X6_ofShip_b l D cy A μ AD G hM hI x1 x2 hb hlf) (Nat.le_of_ble_eq_true rfl) (Nat.le_of_ble_eq_true rfl) (Nat.le_of_ble_eq_true rfl) (Nat.le_of_ble_eq_true rfl) (Nat.le_of_ble_eq_true rfl) (Nat.le_of_ble_eq_true rfl) (fun _ _ _ _ q => q.elim) (fun _ _ _ q => q)
  · have hi := isx_get (n := gnS G) (Nat.lt_of_le_of_lt hI.s.2.1 (by decide)) hb
    have h := c_X6_ofShip l D cy A μ AD G hM hI x1.toNatClampNeg x2 hi.1 hlf
    rw [← hi.2] at h
    have eK := (show K_ofShip G x1 x2 = x_X6_ofShip G x1.toNatClampNeg x2 from if_neg hb)
    have eF := (show F_ofShip G x1 x2 = f_X6_ofShip G x1.toNatClampNeg x2 from if_neg hb)
    have eH := (show H_ofShip G x1 x2 = g_X6_ofShip G x1.toNatClampNeg x2 from if_neg hb)
    rw [eK, eF, eH]
    exact vx_up h (Nat.le_of_ble_eq_true rfl) (Nat.le_of_ble_eq_true rfl) (Nat.le_of_ble_eq_true rfl) (Nat.le_of_ble_eq_true rfl) (Nat.le_of_ble_eq_true rfl) (Nat.le_of_ble_eq_true rfl) (fun _ _ _ _ q => q) (fun _ _ _ q => q)
def K_pointsAnew (G : GS) (x1 : Int32) : Nat := if f_X6_isIndex x1 (nI (gnS G)) = 0 then 3 else x_X6_pointsAnew G x1.toNatClampNeg
def F_pointsAnew (G : GS) (x1 : Int32) : Int32 := if f_X6_isIndex x1 (nI (gnS G)) = 0 then 0 else f_X6_pointsAnew G x1.toNatClampNeg
def H_pointsAnew (G : GS) (x1 : Int32) : GS := if f_X6_isIndex x1 (nI (gnS G)) = 0 then G else g_X6_pointsAnew G x1.toNatClampNeg
theorem t_X6_pointsAnew (l : Launch) (D : va_G) (cy : Nat → ClassId) (A : Nat → Prop) (μ : MU) (AD : AM) (G : GS) (hM : RepC cy AD G μ) (hI : InvC G) (x1 : Int32) (hlf : l.stackTraces = false) : vx_Met l yX6_pointsAnew (WS yX6_pointsAnew cX6_pointsAnew 2 (Option.some Jvm.ClassFile.FieldType.int)) { frames := 7, cells := 1, slots := 6, locals := 140 } (va_Pc [.ref (AD 0 0 0), .int x1] (Wd D cy A μ)) (va_Qi (fun (r9 : Int32) (μ1 : MU) => K_pointsAnew G x1 = 0 ∧ r9 = F_pointsAnew G x1 ∧ ∃ AD1 : AM, AD1 0 = AD 0 ∧ RepC cy AD1 (H_pointsAnew G x1) μ1) (fun μ1 t => Wd D cy A μ1 t) A) (XC9 D A μ (xnm (K_pointsAnew G x1))) 1 6 A := by
  by_cases hb : f_X6_isIndex x1 (nI (gnS G)) = 0
  · have eK : K_pointsAnew G x1 = 3 := if_pos hb
    rw [eK]
    exact vx_up (c_X6_pointsAnew_b l D cy A μ AD G hM hI x1 hb hlf) (Nat.le_of_ble_eq_true rfl) (Nat.le_of_ble_eq_true rfl) (Nat.le_of_ble_eq_true rfl) (Nat.le_of_ble_eq_true rfl) (Nat.le_of_ble_eq_true rfl) (Nat.le_of_ble_eq_true rfl) (fun _ _ _ _ q => q.elim) (fun _ _ _ q => q)
  · have hi := isx_get (n := gnS G) (Nat.lt_of_le_of_lt hI.s.2.1 (by decide)) hb
    have h := c_X6_pointsAnew l D cy A μ AD G hM hI x1.toNatClampNeg hi.1 hlf
    rw [← hi.2] at h
    have eK := (show K_pointsAnew G x1 = x_X6_pointsAnew G x1.toNatClampNeg from if_neg hb)
    have eF := (show F_pointsAnew G x1 = f_X6_pointsAnew G x1.toNatClampNeg from if_neg hb)
    have eH := (show H_pointsAnew G x1 = g_X6_pointsAnew G x1.toNatClampNeg from if_neg hb)
    rw [eK, eF, eH]
    exact vx_up h (Nat.le_of_ble_eq_true rfl) (Nat.le_of_ble_eq_true rfl) (Nat.le_of_ble_eq_true rfl) (Nat.le_of_ble_eq_true rfl) (Nat.le_of_ble_eq_true rfl) (Nat.le_of_ble_eq_true rfl) (fun _ _ _ _ q => q) (fun _ _ _ q => q)
def K_isGround (G : GS) (x1 x2 : Int32) : Nat := if f_X6_isIndex x1 (nI (gnS G)) = 0 then 3 else x_X6_isGround G x1.toNatClampNeg x2
def F_isGround (G : GS) (x1 x2 : Int32) : Int32 := if f_X6_isIndex x1 (nI (gnS G)) = 0 then 0 else f_X6_isGround G x1.toNatClampNeg x2
def H_isGround (G : GS) (x1 x2 : Int32) : GS := if f_X6_isIndex x1 (nI (gnS G)) = 0 then G else g_X6_isGround G x1.toNatClampNeg x2
theorem t_X6_isGround (l : Launch) (D : va_G) (cy : Nat → ClassId) (A : Nat → Prop) (μ : MU) (AD : AM) (G : GS) (hM : RepC cy AD G μ) (hI : InvC G) (x1 x2 : Int32) (hlf : l.stackTraces = false) : vx_Met l yX6_isGround (WS yX6_isGround cX6_isGround 4 (Option.some Jvm.ClassFile.FieldType.boolean)) { frames := 7, cells := 1, slots := 6, locals := 121 } (va_Pc [.ref (AD 0 0 0), .int x1, .int x2] (Wd D cy A μ)) (va_Qi (fun (r9 : Int32) (μ1 : MU) => K_isGround G x1 x2 = 0 ∧ r9 = F_isGround G x1 x2 ∧ ∃ AD1 : AM, AD1 0 = AD 0 ∧ RepC cy AD1 (H_isGround G x1 x2) μ1) (fun μ1 t => Wd D cy A μ1 t) A) (XC9 D A μ (xnm (K_isGround G x1 x2))) 1 6 A := by
  by_cases hb : f_X6_isIndex x1 (nI (gnS G)) = 0
  · have eK : K_isGround G x1 x2 = 3 := if_pos hb
    rw [eK]
    exact vx_up (c_X6_isGround_b l D cy A μ AD G hM hI x1 x2 hb hlf) (Nat.le_of_ble_eq_true rfl) (Nat.le_of_ble_eq_true rfl) (Nat.le_of_ble_eq_true rfl) (Nat.le_of_ble_eq_true rfl) (Nat.le_of_ble_eq_true rfl) (Nat.le_of_ble_eq_true rfl) (fun _ _ _ _ q => q.elim) (fun _ _ _ q => q)
  · have hi := isx_get (n := gnS G) (Nat.lt_of_le_of_lt hI.s.2.1 (by decide)) hb
    have h := c_X6_isGround l D cy A μ AD G hM hI x1.toNatClampNeg x2 hi.1 hlf
    rw [← hi.2] at h
    have eK := (show K_isGround G x1 x2 = x_X6_isGround G x1.toNatClampNeg x2 from if_neg hb)
    have eF := (show F_isGround G x1 x2 = f_X6_isGround G x1.toNatClampNeg x2 from if_neg hb)
    have eH := (show H_isGround G x1 x2 = g_X6_isGround G x1.toNatClampNeg x2 from if_neg hb)
    rw [eK, eF, eH]
    exact vx_up h (Nat.le_of_ble_eq_true rfl) (Nat.le_of_ble_eq_true rfl) (Nat.le_of_ble_eq_true rfl) (Nat.le_of_ble_eq_true rfl) (Nat.le_of_ble_eq_true rfl) (Nat.le_of_ble_eq_true rfl) (fun _ _ _ _ q => q) (fun _ _ _ q => q)
def K_ofVisit (G : GS) (x1 x2 : Int32) : Nat := if f_X6_isIndex x1 (nI (gnV G)) = 0 then 3 else x_X6_ofVisit G x1.toNatClampNeg x2
def F_ofVisit (G : GS) (x1 x2 : Int32) : Int32 := if f_X6_isIndex x1 (nI (gnV G)) = 0 then 0 else f_X6_ofVisit G x1.toNatClampNeg x2
def H_ofVisit (G : GS) (x1 x2 : Int32) : GS := if f_X6_isIndex x1 (nI (gnV G)) = 0 then G else g_X6_ofVisit G x1.toNatClampNeg x2
theorem t_X6_ofVisit (l : Launch) (D : va_G) (cy : Nat → ClassId) (A : Nat → Prop) (μ : MU) (AD : AM) (G : GS) (hM : RepC cy AD G μ) (hI : InvC G) (x1 x2 : Int32) (hlf : l.stackTraces = false) : vx_Met l yX6_ofVisit (WS yX6_ofVisit cX6_ofVisit 4 (Option.some Jvm.ClassFile.FieldType.int)) { frames := 7, cells := 1, slots := 6, locals := 121 } (va_Pc [.ref (AD 0 0 0), .int x1, .int x2] (Wd D cy A μ)) (va_Qi (fun (r9 : Int32) (μ1 : MU) => K_ofVisit G x1 x2 = 0 ∧ r9 = F_ofVisit G x1 x2 ∧ ∃ AD1 : AM, AD1 0 = AD 0 ∧ RepC cy AD1 (H_ofVisit G x1 x2) μ1) (fun μ1 t => Wd D cy A μ1 t) A) (XC9 D A μ (xnm (K_ofVisit G x1 x2))) 1 6 A := by
  by_cases hb : f_X6_isIndex x1 (nI (gnV G)) = 0
  · have eK : K_ofVisit G x1 x2 = 3 := if_pos hb
    rw [eK]
    exact vx_up (c_X6_ofVisit_b l D cy A μ AD G hM hI x1 x2 hb hlf) (Nat.le_of_ble_eq_true rfl) (Nat.le_of_ble_eq_true rfl) (Nat.le_of_ble_eq_true rfl) (Nat.le_of_ble_eq_true rfl) (Nat.le_of_ble_eq_true rfl) (Nat.le_of_ble_eq_true rfl) (fun _ _ _ _ q => q.elim) (fun _ _ _ q => q)
  · have hi := isx_get (n := gnV G) (Nat.lt_of_le_of_lt hI.v.2.1 (by decide)) hb
    have h := c_X6_ofVisit l D cy A μ AD G hM hI x1.toNatClampNeg x2 hi.1 hlf
    rw [← hi.2] at h
    have eK := (show K_ofVisit G x1 x2 = x_X6_ofVisit G x1.toNatClampNeg x2 from if_neg hb)
    have eF := (show F_ofVisit G x1 x2 = f_X6_ofVisit G x1.toNatClampNeg x2 from if_neg hb)
    have eH := (show H_ofVisit G x1 x2 = g_X6_ofVisit G x1.toNatClampNeg x2 from if_neg hb)
    rw [eK, eF, eH]
    exact vx_up h (Nat.le_of_ble_eq_true rfl) (Nat.le_of_ble_eq_true rfl) (Nat.le_of_ble_eq_true rfl) (Nat.le_of_ble_eq_true rfl) (Nat.le_of_ble_eq_true rfl) (Nat.le_of_ble_eq_true rfl) (fun _ _ _ _ q => q) (fun _ _ _ q => q)
def K_list (G : GS) (x1 : Int32) : Nat := x_X6_list G x1
def F_list (G : GS) (x1 : Int32) : Int32 := f_X6_list G x1
def H_list (G : GS) (x1 : Int32) : GS := g_X6_list G x1
theorem t_X6_list (l : Launch) (D : va_G) (cy : Nat → ClassId) (A : Nat → Prop) (μ : MU) (AD : AM) (G : GS) (hM : RepC cy AD G μ) (hI : InvC G) (x1 : Int32) (hlf : l.stackTraces = false) : vx_Met l yX6_list (WS yX6_list cX6_list 2 (Option.some Jvm.ClassFile.FieldType.int)) { frames := 6, cells := 1, slots := 6, locals := 100 } (va_Pc [.ref (AD 0 0 0), .int x1] (Wd D cy A μ)) (va_Qi (fun (r9 : Int32) (μ1 : MU) => K_list G x1 = 0 ∧ r9 = F_list G x1 ∧ ∃ AD1 : AM, AD1 0 = AD 0 ∧ RepC cy AD1 (H_list G x1) μ1) (fun μ1 t => Wd D cy A μ1 t) A) (XC9 D A μ (xnm (K_list G x1))) 1 6 A := by
  exact c_X6_list l D cy A μ AD G hM hI x1 hlf
def K_missed (G : GS) (x1 : Int32) : Nat := if f_X6_isIndex x1 4 = 0 then 3 else x_X6_missed G x1.toNatClampNeg
def F_missed (G : GS) (x1 : Int32) : Int32 := if f_X6_isIndex x1 4 = 0 then 0 else f_X6_missed G x1.toNatClampNeg
def H_missed (G : GS) (x1 : Int32) : GS := if f_X6_isIndex x1 4 = 0 then G else g_X6_missed G x1.toNatClampNeg
theorem t_X6_missed (l : Launch) (D : va_G) (cy : Nat → ClassId) (A : Nat → Prop) (μ : MU) (AD : AM) (G : GS) (hM : RepC cy AD G μ) (hI : InvC G) (x1 : Int32) (hlf : l.stackTraces = false) : vx_Met l yX6_missed (WS yX6_missed cX6_missed 2 (Option.some Jvm.ClassFile.FieldType.int)) { frames := 6, cells := 1, slots := 6, locals := 100 } (va_Pc [.ref (AD 0 0 0), .int x1] (Wd D cy A μ)) (va_Qi (fun (r9 : Int32) (μ1 : MU) => K_missed G x1 = 0 ∧ r9 = F_missed G x1 ∧ ∃ AD1 : AM, AD1 0 = AD 0 ∧ RepC cy AD1 (H_missed G x1) μ1) (fun μ1 t => Wd D cy A μ1 t) A) (XC9 D A μ (xnm (K_missed G x1))) 1 6 A := by
  by_cases hb : f_X6_isIndex x1 4 = 0
  · have eK : K_missed G x1 = 3 := if_pos hb
    rw [eK]
    exact vx_up (c_X6_missed_b l D cy A μ AD G hM hI x1 hb hlf) (Nat.le_of_ble_eq_true rfl) (Nat.le_of_ble_eq_true rfl) (Nat.le_of_ble_eq_true rfl) (Nat.le_of_ble_eq_true rfl) (Nat.le_of_ble_eq_true rfl) (Nat.le_of_ble_eq_true rfl) (fun _ _ _ _ q => q.elim) (fun _ _ _ q => q)
  · have hi := isx_get (n := 4) (by decide : 4 < 2 ^ 31) hb
    have h := c_X6_missed l D cy A μ AD G hM hI x1.toNatClampNeg hi.1 hlf
    rw [← hi.2] at h
    have eK := (show K_missed G x1 = x_X6_missed G x1.toNatClampNeg from if_neg hb)
    have eF := (show F_missed G x1 = f_X6_missed G x1.toNatClampNeg from if_neg hb)
    have eH := (show H_missed G x1 = g_X6_missed G x1.toNatClampNeg from if_neg hb)
    rw [eK, eF, eH]
    exact vx_up h (Nat.le_of_ble_eq_true rfl) (Nat.le_of_ble_eq_true rfl) (Nat.le_of_ble_eq_true rfl) (Nat.le_of_ble_eq_true rfl) (Nat.le_of_ble_eq_true rfl) (Nat.le_of_ble_eq_true rfl) (fun _ _ _ _ q => q) (fun _ _ _ q => q)
def K_knew (G : GS) (x1 x2 x3 : Int32) : Nat := if f_X6_isIndex x1 (nI (gnS G)) = 0 then 3 else x_X6_knew G x1.toNatClampNeg x2 x3
def F_knew (G : GS) (x1 x2 x3 : Int32) : Int32 := if f_X6_isIndex x1 (nI (gnS G)) = 0 then 0 else f_X6_knew G x1.toNatClampNeg x2 x3
def H_knew (G : GS) (x1 x2 x3 : Int32) : GS := if f_X6_isIndex x1 (nI (gnS G)) = 0 then G else g_X6_knew G x1.toNatClampNeg x2 x3
theorem t_X6_knew (l : Launch) (D : va_G) (cy : Nat → ClassId) (A : Nat → Prop) (μ : MU) (AD : AM) (G : GS) (hM : RepC cy AD G μ) (hI : InvC G) (x1 x2 x3 : Int32) (hlf : l.stackTraces = false) : vx_Met l yX6_knew (WS yX6_knew cX6_knew 8 (Option.some Jvm.ClassFile.FieldType.int)) { frames := 7, cells := 1, slots := 6, locals := 121 } (va_Pc [.ref (AD 0 0 0), .int x1, .int x2, .int x3] (Wd D cy A μ)) (va_Qi (fun (r9 : Int32) (μ1 : MU) => K_knew G x1 x2 x3 = 0 ∧ r9 = F_knew G x1 x2 x3 ∧ ∃ AD1 : AM, AD1 0 = AD 0 ∧ RepC cy AD1 (H_knew G x1 x2 x3) μ1) (fun μ1 t => Wd D cy A μ1 t) A) (XC9 D A μ (xnm (K_knew G x1 x2 x3))) 1 6 A := by
  by_cases hb : f_X6_isIndex x1 (nI (gnS G)) = 0
  · have eK : K_knew G x1 x2 x3 = 3 := if_pos hb
    rw [eK]
    exact vx_up (c_X6_knew_b l D cy A μ AD G hM hI x1 x2 x3 hb hlf) (Nat.le_of_ble_eq_true rfl) (Nat.le_of_ble_eq_true rfl) (Nat.le_of_ble_eq_true rfl) (Nat.le_of_ble_eq_true rfl) (Nat.le_of_ble_eq_true rfl) (Nat.le_of_ble_eq_true rfl) (fun _ _ _ _ q => q.elim) (fun _ _ _ q => q)
  · have hi := isx_get (n := gnS G) (Nat.lt_of_le_of_lt hI.s.2.1 (by decide)) hb
    have h := c_X6_knew l D cy A μ AD G hM hI x1.toNatClampNeg x2 x3 hi.1 hlf
    rw [← hi.2] at h
    have eK := (show K_knew G x1 x2 x3 = x_X6_knew G x1.toNatClampNeg x2 x3 from if_neg hb)
    have eF := (show F_knew G x1 x2 x3 = f_X6_knew G x1.toNatClampNeg x2 x3 from if_neg hb)
    have eH := (show H_knew G x1 x2 x3 = g_X6_knew G x1.toNatClampNeg x2 x3 from if_neg hb)
    rw [eK, eF, eH]
    exact vx_up h (Nat.le_of_ble_eq_true rfl) (Nat.le_of_ble_eq_true rfl) (Nat.le_of_ble_eq_true rfl) (Nat.le_of_ble_eq_true rfl) (Nat.le_of_ble_eq_true rfl) (Nat.le_of_ble_eq_true rfl) (fun _ _ _ _ q => q) (fun _ _ _ q => q)
