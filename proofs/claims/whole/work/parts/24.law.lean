def R_law : String := "DetentionbureauLaw"
def lw_P (b : Addr) (xs : List Int32) (args : Array Value) (s : State) : Prop := args = #[.ref b] ∧ s.IntsAt b xs ∧ xs.length ≤ 3072 ∧ (Jvm.Cond.and given_1 narrow_1).before args s = true
def lw_Q (_ : Array Value) (s : State) (o : Outcome) (t : State) : Prop := o = .returned (some (.int 1)) ∧ Framed s o t [] 601024 7293034
def lw_Z (below : List Frame) (a : Array Value) (s : State) : State → Prop := fun t => ∃ o, t.status = .running ∧ Ended t below o ∧ lw_Q a s o t
/-- the law's own end, with 1 on the stack, nothing written that was there before, its room as the claim has it -/
theorem lw_ret {p : Program} {l : Launch} {e : Env} {s : State} {m : MethodId} {below : List Frame} {meth : Method} {c : Code} {b : Nat} (hx : p.tables.exec = Jvm.exec) (hb : c.code = code) (hr : meth.sig.returnType = ret) (hlocks : meth.locks = false) {pc : Nat} {H : Heap} {ls : Array Slot} (hdg : decode code pc = .ok (.ireturn, 1)) : W p l e room_1 s m #[Value.ref b] below meth c H [] 601024 7293034 (lw_Z below #[Value.ref b] s) (F0 m pc ls [.int 1]) := by
  intro T hT X
  obtain ⟨fs, hret, hrun, hended, hW, hframe⟩ := X.leave (v := some (.int 1)) (hlocks := hlocks) (fun h => by rw [hr] at h; cases h)
  have hmeth' : T.vm.method? m = some meth := X.method'
  refine ⟨T.setFrames fs, ?_, .returned (some (.int 1)), hrun, hended, rfl, ⟨_, rfl⟩, hW, hframe⟩
  jvm_step X.here [X.here.top, hx, hb, hdg, hmeth', hr, ret, narrow_b1]
  (try refine ⟨rfl, ?_⟩); (try refine ⟨rfl, ?_⟩)
  first | (intro acts; rw [hret _ acts rfl rfl rfl]) | rw [hret _ _ rfl rfl rfl]
  exact Steps.refl _
/-- what holds at the law's entry: the machine, the code, the tables' words (any of lw_tbl by 'hts w (by decide +kernel)'), the script of L ints xs at the cell b, what the Statement gives of the start (any of its parts by flat_of_before) -/
def lw_At (p : Program) (s : State) (m : MethodId) (meth : Method) (c : Code) (b L : Nat) (xs : Nat → Int32) : Prop :=
  p.tables.exec = Jvm.exec ∧ c.code = code ∧ meth.sig.returnType = ret ∧ c.maxLocals = 7 ∧ s.vm.findClass R_law = some m.cls ∧ (∀ w ∈ lw_tbl, w.before #[Value.ref b] s = true) ∧ va_X b L xs s s.heap ∧ b < s.heap.size ∧ meth.locks = false ∧ (Jvm.Cond.and given_1 narrow_1).before #[Value.ref b] s = true
def RF9 (R9 : Nat → GS → GS → Prop) : Prop := ∀ (n : Nat) (G M : GS), R9 n G M → InvC G ∧ InvM M ∧ (n < 512 → ∀ s, s < gnS G → gnN G s < 514) ∧ (∀ s, s < gnS G → G 10 s = -1 ∨ (G 10 s = nI (G 10 s).toNatClampNeg ∧ (G 10 s).toNatClampNeg < 4)) ∧ (∀ s, s < gnS M → M 10 s = -1 ∨ (M 10 s = nI (M 10 s).toNatClampNeg ∧ (M 10 s).toNatClampNeg < 4)) ∧ (∀ v, v < gnV M → M 30 v = nI (M 30 v).toNatClampNeg ∧ (M 30 v).toNatClampNeg < 12) ∧ (∀ s, s < gnS M → ¬ M 13 s = -1 → M 13 s = nI (M 13 s).toNatClampNeg ∧ (M 13 s).toNatClampNeg < 60)
def RS_pass (R9 : Nat → GS → GS → Prop) : Prop := ∀ (n : Nat) (G M : GS) (x1 : Int32), n < 512 → R9 n G M → (HM_pass M x1) 0 0 = kkm 1 2 0 (K_pass G x1) ∧ (K_pass G x1 = 0 → FM_pass M x1 = F_pass G x1) ∧ R9 (n + 1) (H_pass G x1) (HM_pass M x1)
def RS_ship (R9 : Nat → GS → GS → Prop) : Prop := ∀ (n : Nat) (G M : GS) (x1 x2 x3 x4 x5 : Int32), n < 512 → R9 n G M → (HM_ship M x1 x2 x3 x4 x5) 0 0 = kkm 2 3 1 (K_ship G x1 x2 x3 x4 x5) ∧ (K_ship G x1 x2 x3 x4 x5 = 0 → FM_ship M x1 x2 x3 x4 x5 = F_ship G x1 x2 x3 x4 x5) ∧ R9 (n + 1) (H_ship G x1 x2 x3 x4 x5) (HM_ship M x1 x2 x3 x4 x5)
def RS_changes (R9 : Nat → GS → GS → Prop) : Prop := ∀ (n : Nat) (G M : GS) (x1 x2 x3 : Int32), n < 512 → R9 n G M → (HM_changes M x1 x2 x3) 0 0 = kkm 0 0 1 (K_changes G x1 x2 x3) ∧ (K_changes G x1 x2 x3 = 0 → FM_changes M x1 x2 x3 = F_changes G x1 x2 x3) ∧ R9 (n + 1) (H_changes G x1 x2 x3) (HM_changes M x1 x2 x3)
def RS_suspend (R9 : Nat → GS → GS → Prop) : Prop := ∀ (n : Nat) (G M : GS) (x1 x2 : Int32), n < 512 → R9 n G M → (x2 = 0 ∨ x2 = 1) → (HM_suspend M x1 x2) 0 0 = kkm 0 0 1 (K_suspend G x1 x2) ∧ (K_suspend G x1 x2 = 0 → FM_suspend M x1 x2 = F_suspend G x1 x2) ∧ R9 (n + 1) (H_suspend G x1 x2) (HM_suspend M x1 x2)
def RS_rule (R9 : Nat → GS → GS → Prop) : Prop := ∀ (n : Nat) (G M : GS) (x1 x2 x3 x4 x5 : Int32), n < 512 → R9 n G M → (HM_rule M x1 x2 x3 x4 x5) 0 0 = kkm 1 2 0 (K_rule G x1 x2 x3 x4 x5) ∧ (K_rule G x1 x2 x3 x4 x5 = 0 → FM_rule M x1 x2 x3 x4 x5 = F_rule G x1 x2 x3 x4 x5) ∧ R9 (n + 1) (H_rule G x1 x2 x3 x4 x5) (HM_rule M x1 x2 x3 x4 x5)
def RS_issue (R9 : Nat → GS → GS → Prop) : Prop := ∀ (n : Nat) (G M : GS) (x1 x2 x3 : Int32), n < 512 → R9 n G M → (HM_issue M x1 x2 x3) 0 0 = kkm 2 3 1 (K_issue G x1 x2 x3) ∧ (K_issue G x1 x2 x3 = 0 → FM_issue M x1 x2 x3 = F_issue G x1 x2 x3) ∧ R9 (n + 1) (H_issue G x1 x2 x3) (HM_issue M x1 x2 x3)
def RS_endorse (R9 : Nat → GS → GS → Prop) : Prop := ∀ (n : Nat) (G M : GS) (x1 x2 : Int32), n < 512 → R9 n G M → (HM_endorse M x1 x2) 0 0 = kkm 2 3 1 (K_endorse G x1 x2) ∧ (K_endorse G x1 x2 = 0 → FM_endorse M x1 x2 = F_endorse G x1 x2) ∧ R9 (n + 1) (H_endorse G x1 x2) (HM_endorse M x1 x2)
def RS_calls (R9 : Nat → GS → GS → Prop) : Prop := ∀ (n : Nat) (G M : GS) (x1 x2 : Int32), n < 512 → R9 n G M → (HM_calls M x1 x2) 0 0 = kkm 0 2 1 (K_calls G x1 x2) ∧ (K_calls G x1 x2 = 0 → FM_calls M x1 x2 = F_calls G x1 x2) ∧ R9 (n + 1) (H_calls G x1 x2) (HM_calls M x1 x2)
def RS_leaves (R9 : Nat → GS → GS → Prop) : Prop := ∀ (n : Nat) (G M : GS) (x1 : Int32), n < 512 → R9 n G M → (HM_leaves M x1) 0 0 = kkm 0 2 1 (K_leaves G x1) ∧ (K_leaves G x1 = 0 → FM_leaves M x1 = F_leaves G x1) ∧ R9 (n + 1) (H_leaves G x1) (HM_leaves M x1)
def RS_visit (R9 : Nat → GS → GS → Prop) : Prop := ∀ (n : Nat) (G M : GS) (x1 : Int32), n < 512 → R9 n G M → (HM_visit M x1) 0 0 = kkm 0 2 1 (K_visit G x1) ∧ (K_visit G x1 = 0 → FM_visit M x1 = F_visit G x1) ∧ R9 (n + 1) (H_visit G x1) (HM_visit M x1)
def RS_finds (R9 : Nat → GS → GS → Prop) : Prop := ∀ (n : Nat) (G M : GS) (x1 x2 x3 : Int32), n < 512 → R9 n G M → (HM_finds M x1 x2 x3) 0 0 = kkm 2 3 1 (K_finds G x1 x2 x3) ∧ (K_finds G x1 x2 x3 = 0 → FM_finds M x1 x2 x3 = F_finds G x1 x2 x3) ∧ R9 (n + 1) (H_finds G x1 x2 x3) (HM_finds M x1 x2 x3)
def RS_mends (R9 : Nat → GS → GS → Prop) : Prop := ∀ (n : Nat) (G M : GS) (x1 x2 x3 : Int32), n < 512 → R9 n G M → (x3 = 0 ∨ x3 = 1) → (HM_mends M x1 x2 x3) 0 0 = kkm 0 2 1 (K_mends G x1 x2 x3) ∧ (K_mends G x1 x2 x3 = 0 → FM_mends M x1 x2 x3 = F_mends G x1 x2 x3) ∧ R9 (n + 1) (H_mends G x1 x2 x3) (HM_mends M x1 x2 x3)
def RS_detain (R9 : Nat → GS → GS → Prop) : Prop := ∀ (n : Nat) (G M : GS) (x1 : Int32), n < 512 → R9 n G M → (HM_detain M x1) 0 0 = kkm 0 2 1 (K_detain G x1) ∧ (K_detain G x1 = 0 → FM_detain M x1 = F_detain G x1) ∧ R9 (n + 1) (H_detain G x1) (HM_detain M x1)
def RS_release (R9 : Nat → GS → GS → Prop) : Prop := ∀ (n : Nat) (G M : GS) (x1 : Int32), n < 512 → R9 n G M → (HM_release M x1) 0 0 = kkm 0 2 1 (K_release G x1) ∧ (K_release G x1 = 0 → FM_release M x1 = F_release G x1) ∧ R9 (n + 1) (H_release G x1) (HM_release M x1)
def RS_appeal (R9 : Nat → GS → GS → Prop) : Prop := ∀ (n : Nat) (G M : GS) (x1 : Int32), n < 512 → R9 n G M → (HM_appeal M x1) 0 0 = kkm 0 2 1 (K_appeal G x1) ∧ R9 (n + 1) (H_appeal G x1) (HM_appeal M x1)
def RS_vote (R9 : Nat → GS → GS → Prop) : Prop := ∀ (n : Nat) (G M : GS) (x1 x2 : Int32), n < 512 → R9 n G M → (x2 = 0 ∨ x2 = 1) → (HM_vote M x1 x2) 0 0 = kkm 0 2 1 (K_vote G x1 x2) ∧ (K_vote G x1 x2 = 0 → FM_vote M x1 x2 = F_vote G x1 x2) ∧ R9 (n + 1) (H_vote G x1 x2) (HM_vote M x1 x2)
def RS_ofShip (R9 : Nat → GS → GS → Prop) : Prop := ∀ (n : Nat) (G M : GS) (x1 x2 : Int32), n < 512 → R9 n G M → (HM_ofShip M x1 x2) 0 0 = kkm 2 0 1 (K_ofShip G x1 x2) ∧ (K_ofShip G x1 x2 = 0 → FM_ofShip M x1 x2 = F_ofShip G x1 x2) ∧ R9 (n + 1) (H_ofShip G x1 x2) (HM_ofShip M x1 x2)
def RS_pointsAnew (R9 : Nat → GS → GS → Prop) : Prop := ∀ (n : Nat) (G M : GS) (x1 : Int32), n < 512 → R9 n G M → (HM_pointsAnew M x1) 0 0 = kkm 0 0 1 (K_pointsAnew G x1) ∧ (K_pointsAnew G x1 = 0 → FM_pointsAnew M x1 = F_pointsAnew G x1) ∧ R9 (n + 1) (H_pointsAnew G x1) (HM_pointsAnew M x1)
def RS_isGround (R9 : Nat → GS → GS → Prop) : Prop := ∀ (n : Nat) (G M : GS) (x1 x2 : Int32), n < 512 → R9 n G M → (HM_isGround M x1 x2) 0 0 = kkm 2 0 1 (K_isGround G x1 x2) ∧ (K_isGround G x1 x2 = 0 → FM_isGround M x1 x2 = F_isGround G x1 x2) ∧ R9 (n + 1) (H_isGround G x1 x2) (HM_isGround M x1 x2)
def RS_ofVisit (R9 : Nat → GS → GS → Prop) : Prop := ∀ (n : Nat) (G M : GS) (x1 x2 : Int32), n < 512 → R9 n G M → (HM_ofVisit M x1 x2) 0 0 = kkm 2 0 1 (K_ofVisit G x1 x2) ∧ (K_ofVisit G x1 x2 = 0 → FM_ofVisit M x1 x2 = F_ofVisit G x1 x2) ∧ R9 (n + 1) (H_ofVisit G x1 x2) (HM_ofVisit M x1 x2)
def RS_list (R9 : Nat → GS → GS → Prop) : Prop := ∀ (n : Nat) (G M : GS) (x1 : Int32), n < 512 → R9 n G M → (HM_list M x1) 0 0 = kkm 0 0 1 (K_list G x1) ∧ (K_list G x1 = 0 → FM_list M x1 = F_list G x1) ∧ R9 (n + 1) (H_list G x1) (HM_list M x1)
def RS_missed (R9 : Nat → GS → GS → Prop) : Prop := ∀ (n : Nat) (G M : GS) (x1 : Int32), n < 512 → R9 n G M → (HM_missed M x1) 0 0 = kkm 0 0 1 (K_missed G x1) ∧ (K_missed G x1 = 0 → FM_missed M x1 = F_missed G x1) ∧ R9 (n + 1) (H_missed G x1) (HM_missed M x1)
def RS_knew (R9 : Nat → GS → GS → Prop) : Prop := ∀ (n : Nat) (G M : GS) (x1 x2 x3 : Int32), n < 512 → R9 n G M → (HM_knew M x1 x2 x3) 0 0 = kkm 2 0 1 (K_knew G x1 x2 x3) ∧ (K_knew G x1 x2 x3 = 0 → FM_knew M x1 x2 x3 = F_knew G x1 x2 x3) ∧ R9 (n + 1) (H_knew G x1 x2 x3) (HM_knew M x1 x2 x3)
def Rstep9 (R9 : Nat → GS → GS → Prop) : Prop := RF9 R9 ∧ R9 0 G0 G0 ∧ (∀ (n : Nat) (G M : GS), R9 n G M → R9 (n + 1) G M) ∧ RS_pass R9 ∧ RS_ship R9 ∧ RS_changes R9 ∧ RS_suspend R9 ∧ RS_rule R9 ∧ RS_issue R9 ∧ RS_endorse R9 ∧ RS_calls R9 ∧ RS_leaves R9 ∧ RS_visit R9 ∧ RS_finds R9 ∧ RS_mends R9 ∧ RS_detain R9 ∧ RS_release R9 ∧ RS_appeal R9 ∧ RS_vote R9 ∧ RS_ofShip R9 ∧ RS_pointsAnew R9 ∧ RS_isGround R9 ∧ RS_ofVisit R9 ∧ RS_list R9 ∧ RS_missed R9 ∧ RS_knew R9
def LInv9 (D : va_G) (cy : Nat → ClassId) (A : Nat → Prop) (s : State) (x0 m0 o : Nat) (R9 : Nat → GS → GS → Prop) (j : Nat) (H : Heap) (locs : List Loc) : Prop := ∃ (X Y : MU) (AD : AM) (ad : Nat → Nat) (G M : GS) (f : Nat → Int64), WW D cy A (un (un X (oneO cy o f)) Y) s H locs ∧ dis X (oneO cy o f) ∧ dis (un X (oneO cy o f)) Y ∧ AD 0 0 0 = x0 ∧ RepC cy AD G X ∧ RepM cy m0 ad M Y ∧ R9 j G M
theorem lgc0 (x : Int64) : lg_cmp x x = 0 := by simp [lg_cmp]
theorem repM_un {cy : Nat → ClassId} {m0 : Nat} {ad : Nat → Nat} {M : GS} {X Y : MU} (h : RepM cy m0 ad M Y) (hd : dis X Y) : RepM cy m0 ad M (un X Y) := ⟨un_r hd h.1, fun k hk hs => un_r hd (h.2.1 k hk hs), h.2.2⟩
theorem k0_pass (G : GS) (x1 : Int32) (h : kkm 1 2 0 (K_pass G x1) = 0) : K_pass G x1 = 0 := by
  rcases kr_pass G x1 with q | q | q
  · exact q
  · rw [q] at h
    exact absurd h (by decide)
  · rw [q] at h
    exact absurd h (by decide)
theorem k0_ship (G : GS) (x1 x2 x3 x4 x5 : Int32) (h : kkm 2 3 1 (K_ship G x1 x2 x3 x4 x5) = 0) : K_ship G x1 x2 x3 x4 x5 = 0 := by
  rcases kr_ship G x1 x2 x3 x4 x5 with q | q | q | q
  · exact q
  · rw [q] at h
    exact absurd h (by decide)
  · rw [q] at h
    exact absurd h (by decide)
  · rw [q] at h
    exact absurd h (by decide)
theorem k0_changes (G : GS) (x1 x2 x3 : Int32) (h : kkm 0 0 1 (K_changes G x1 x2 x3) = 0) : K_changes G x1 x2 x3 = 0 := by
  rcases kr_changes G x1 x2 x3 with q | q
  · exact q
  · rw [q] at h
    exact absurd h (by decide)
theorem k0_suspend (G : GS) (x1 x2 : Int32) (h : kkm 0 0 1 (K_suspend G x1 x2) = 0) : K_suspend G x1 x2 = 0 := by
  rcases kr_suspend G x1 x2 with q | q
  · exact q
  · rw [q] at h
    exact absurd h (by decide)
theorem k0_rule (G : GS) (x1 x2 x3 x4 x5 : Int32) (h : kkm 1 2 0 (K_rule G x1 x2 x3 x4 x5) = 0) : K_rule G x1 x2 x3 x4 x5 = 0 := by
  rcases kr_rule G x1 x2 x3 x4 x5 with q | q | q
  · exact q
  · rw [q] at h
    exact absurd h (by decide)
  · rw [q] at h
    exact absurd h (by decide)
theorem k0_issue (G : GS) (x1 x2 x3 : Int32) (h : kkm 2 3 1 (K_issue G x1 x2 x3) = 0) : K_issue G x1 x2 x3 = 0 := by
  rcases kr_issue G x1 x2 x3 with q | q | q | q
  · exact q
  · rw [q] at h
    exact absurd h (by decide)
  · rw [q] at h
    exact absurd h (by decide)
  · rw [q] at h
    exact absurd h (by decide)
theorem k0_endorse (G : GS) (x1 x2 : Int32) (h : kkm 2 3 1 (K_endorse G x1 x2) = 0) : K_endorse G x1 x2 = 0 := by
  rcases kr_endorse G x1 x2 with q | q | q | q
  · exact q
  · rw [q] at h
    exact absurd h (by decide)
  · rw [q] at h
    exact absurd h (by decide)
  · rw [q] at h
    exact absurd h (by decide)
theorem k0_calls (G : GS) (x1 x2 : Int32) (h : kkm 0 2 1 (K_calls G x1 x2) = 0) : K_calls G x1 x2 = 0 := by
  rcases kr_calls G x1 x2 with q | q | q
  · exact q
  · rw [q] at h
    exact absurd h (by decide)
  · rw [q] at h
    exact absurd h (by decide)
theorem k0_leaves (G : GS) (x1 : Int32) (h : kkm 0 2 1 (K_leaves G x1) = 0) : K_leaves G x1 = 0 := by
  rcases kr_leaves G x1 with q | q | q
  · exact q
  · rw [q] at h
    exact absurd h (by decide)
  · rw [q] at h
    exact absurd h (by decide)
theorem k0_visit (G : GS) (x1 : Int32) (h : kkm 0 2 1 (K_visit G x1) = 0) : K_visit G x1 = 0 := by
  rcases kr_visit G x1 with q | q | q
  · exact q
  · rw [q] at h
    exact absurd h (by decide)
  · rw [q] at h
    exact absurd h (by decide)
theorem k0_finds (G : GS) (x1 x2 x3 : Int32) (h : kkm 2 3 1 (K_finds G x1 x2 x3) = 0) : K_finds G x1 x2 x3 = 0 := by
  rcases kr_finds G x1 x2 x3 with q | q | q | q
  · exact q
  · rw [q] at h
    exact absurd h (by decide)
  · rw [q] at h
    exact absurd h (by decide)
  · rw [q] at h
    exact absurd h (by decide)
theorem k0_mends (G : GS) (x1 x2 x3 : Int32) (h : kkm 0 2 1 (K_mends G x1 x2 x3) = 0) : K_mends G x1 x2 x3 = 0 := by
  rcases kr_mends G x1 x2 x3 with q | q | q
  · exact q
  · rw [q] at h
    exact absurd h (by decide)
  · rw [q] at h
    exact absurd h (by decide)
theorem k0_detain (G : GS) (x1 : Int32) (h : kkm 0 2 1 (K_detain G x1) = 0) : K_detain G x1 = 0 := by
  rcases kr_detain G x1 with q | q | q
  · exact q
  · rw [q] at h
    exact absurd h (by decide)
  · rw [q] at h
    exact absurd h (by decide)
theorem k0_release (G : GS) (x1 : Int32) (h : kkm 0 2 1 (K_release G x1) = 0) : K_release G x1 = 0 := by
  rcases kr_release G x1 with q | q | q
  · exact q
  · rw [q] at h
    exact absurd h (by decide)
  · rw [q] at h
    exact absurd h (by decide)
theorem k0_appeal (G : GS) (x1 : Int32) (h : kkm 0 2 1 (K_appeal G x1) = 0) : K_appeal G x1 = 0 := by
  rcases kr_appeal G x1 with q | q | q
  · exact q
  · rw [q] at h
    exact absurd h (by decide)
  · rw [q] at h
    exact absurd h (by decide)
theorem k0_vote (G : GS) (x1 x2 : Int32) (h : kkm 0 2 1 (K_vote G x1 x2) = 0) : K_vote G x1 x2 = 0 := by
  rcases kr_vote G x1 x2 with q | q | q
  · exact q
  · rw [q] at h
    exact absurd h (by decide)
  · rw [q] at h
    exact absurd h (by decide)
theorem k0_ofShip (G : GS) (x1 x2 : Int32) (h : kkm 2 0 1 (K_ofShip G x1 x2) = 0) : K_ofShip G x1 x2 = 0 := by
  rcases kr_ofShip G x1 x2 with q | q | q
  · exact q
  · rw [q] at h
    exact absurd h (by decide)
  · rw [q] at h
    exact absurd h (by decide)
theorem k0_pointsAnew (G : GS) (x1 : Int32) (h : kkm 0 0 1 (K_pointsAnew G x1) = 0) : K_pointsAnew G x1 = 0 := by
  rcases kr_pointsAnew G x1 with q | q
  · exact q
  · rw [q] at h
    exact absurd h (by decide)
theorem k0_isGround (G : GS) (x1 x2 : Int32) (h : kkm 2 0 1 (K_isGround G x1 x2) = 0) : K_isGround G x1 x2 = 0 := by
  rcases kr_isGround G x1 x2 with q | q | q
  · exact q
  · rw [q] at h
    exact absurd h (by decide)
  · rw [q] at h
    exact absurd h (by decide)
theorem k0_ofVisit (G : GS) (x1 x2 : Int32) (h : kkm 2 0 1 (K_ofVisit G x1 x2) = 0) : K_ofVisit G x1 x2 = 0 := by
  rcases kr_ofVisit G x1 x2 with q | q | q
  · exact q
  · rw [q] at h
    exact absurd h (by decide)
  · rw [q] at h
    exact absurd h (by decide)
theorem k0_list (G : GS) (x1 : Int32) (h : kkm 0 0 1 (K_list G x1) = 0) : K_list G x1 = 0 := by
  rcases kr_list G x1 with q | q
  · exact q
  · rw [q] at h
    exact absurd h (by decide)
theorem k0_missed (G : GS) (x1 : Int32) (h : kkm 0 0 1 (K_missed G x1) = 0) : K_missed G x1 = 0 := by
  rcases kr_missed G x1 with q | q
  · exact q
  · rw [q] at h
    exact absurd h (by decide)
theorem k0_knew (G : GS) (x1 x2 x3 : Int32) (h : kkm 2 0 1 (K_knew G x1 x2 x3) = 0) : K_knew G x1 x2 x3 = 0 := by
  rcases kr_knew G x1 x2 x3 with q | q | q
  · exact q
  · rw [q] at h
    exact absurd h (by decide)
  · rw [q] at h
    exact absurd h (by decide)
section LW
variable {p : Program} {l : Launch} {e : Env} {s : State} {m : MethodId} {below : List Frame} {meth : Method} {c : Code} {Q : State → Prop} {D : va_G} {cy : Nat → ClassId} {A : Nat → Prop} {b L x0 m0 o : Nat} {xs : Nat → Int32} {R9 : Nat → GS → GS → Prop}
set_option maxHeartbeats 4000000 in
set_option maxRecDepth 100000 in
theorem lk_pass (F : CallFix p m c cL_law 7 s #[Value.ref b] BIG RL) (hlf : l.stackTraces = false) (hR : Rstep9 R9) (hX : va_X b L xs s s.heap) (hbl : b < s.heap.size) (hbA : ¬ A b) (hL : L ≤ 3072) {j : Nat} (hj : j < 512) (h6 : 6 * j + 6 ≤ L) {H : Heap} {locs : List Loc} {ls : Array Slot} (hI : LInv9 D cy A s x0 m0 o R9 j H locs) (hl : lv_has ls 7 [(4, .int (nI (6 * j))), (3, .ref o), (2, .ref m0), (1, .ref x0), (0, .ref b)])
    (kk : ∀ (H1 : Heap) (locs1 : List Loc) (ls1 : Array Slot), LInv9 D cy A s x0 m0 o R9 (j + 1) H1 locs1 → lv_has ls1 7 [(4, .int (nI (6 * j))), (3, .ref o), (2, .ref m0), (1, .ref x0), (0, .ref b)] → W p l e room_1 s m #[Value.ref b] below meth c H1 locs1 (50 + 8 * (j + 1)) (3000 + 3033 * (j + 1)) Q (F0 m 1785 ls1 [])) : W p l e room_1 s m #[Value.ref b] below meth c H locs (50 + 8 * j) (3000 + 3033 * j) Q (F0 m 148 ls []) := by
  obtain ⟨X, Y, AD, ad, G, M, f, w, hd1, hd2, hAD, hM, hMm, hRel⟩ := hI
  subst hAD
  obtain ⟨hI, hIM, hn9, hp9, hpM, hso, hrM⟩ := hR.1 j G M hRel
  have hn := hn9 hj
  obtain ⟨hs1, hs2, hs3⟩ := hR.2.2.2.1 j G M (xs (6 * j + 1)) hj hRel
  refine lv_aload_n F.1 F.2.1 dL_law_148 rfl (lv_at hl 3 rfl) ?_
  refine lv_aload_n F.1 F.2.1 dL_law_149 rfl (lv_at hl 4 rfl) ?_
  refine lv_iload F.1 F.2.1 dL_law_150 (lv_at hl 0 rfl) ?_
  refine lv_iconst (v := 1) F.1 F.2.1 dL_law_152 (by decide) ?_
  refine lv_iadd F.1 F.2.1 dL_law_153 ?_
  refine lv_fold (y := nI (6 * j + 1)) (nI_add (6 * j) 1) ?_
  refine va_sld F.1 F.2.1 hX hbl hbA w.2.2.2.1 (vp_in_nI (show 6 * j + 1 < L by omega) (by omega)) dL_law_154 ?_
  refine lv_fold (y := xs (6 * j + 1)) (by rw [nI_clamp (by omega)]) ?_
  refine lv_aload_n F.1 F.2.1 dL_law_155 rfl (lv_at hl 1 rfl) ?_
  refine q_uSi (rest := []) F w hd2 kW_pass hdW_pass (c_L_pass l D cy _ X AD G hM hI f hd1 (xs (6 * j + 1)) hlf) dL_law_156 rfl rfl hl.1 ⟨rfl, rfl, (Nat.le_of_ble_eq_true rfl), (Nat.le_of_ble_eq_true rfl)⟩ (Nat.le_of_ble_eq_true rfl) ⟨(show 50 + 8 * j + 1 ≤ 601024 by omega), (show 3000 + 3033 * j + 6 ≤ 7293034 by omega)⟩ (fun k9 μ1 H locs hp hd2 w => ?_)
  obtain ⟨hk9, X1, AD1, f1, hμ, hd1, hA1, hM1, hv⟩ := hp
  subst hμ
  refine lv_istore (lv' := [(5, .int k9), (4, .int (nI (6 * j))), (3, .ref o), (2, .ref m0), (1, .ref (AD 0 0 0)), (0, .ref b)]) F.1 F.2.1 dL_law_159 hl (by decide) rfl (fun ls hl => ?_)
  refine lv_aload_n F.1 F.2.1 dL_law_161 rfl (lv_at hl 3 rfl) ?_
  refine lv_aload_n F.1 F.2.1 dL_law_162 rfl (lv_at hl 5 rfl) ?_
  refine lv_iload F.1 F.2.1 dL_law_163 (lv_at hl 1 rfl) ?_
  refine lv_iconst (v := 1) F.1 F.2.1 dL_law_165 (by decide) ?_
  refine lv_iadd F.1 F.2.1 dL_law_166 ?_
  refine lv_fold (y := nI (6 * j + 1)) (nI_add (6 * j) 1) ?_
  refine va_sld F.1 F.2.1 hX hbl hbA w.2.2.2.1 (vp_in_nI (show 6 * j + 1 < L by omega) (by omega)) dL_law_167 ?_
  refine lv_fold (y := xs (6 * j + 1)) (by rw [nI_clamp (by omega)]) ?_
  rw [un_comm hd2] at w
  refine q_uVi (rest := []) F w hd2.symm kV_L_103 hd_X7_pass (ci := 8) rfl (t_X7_pass l D cy _ _ m0 ad M hMm hIM (xs (6 * j + 1))) hMm.1 dL_law_168 rfl rfl hl.1 ⟨rfl, rfl, (Nat.le_of_ble_eq_true rfl), (Nat.le_of_ble_eq_true rfl)⟩ (Nat.le_of_ble_eq_true rfl) ⟨(show 50 + 8 * j + 1 + 0 ≤ 601024 by omega), (show 3000 + 3033 * j + 6 + 0 ≤ 7293034 by omega)⟩ (fun b9 Y1 H locs hp hd3 w => ?_)
  obtain ⟨hb9, hMm⟩ := hp
  rw [un_comm hd3] at w
  have hd2 := hd3.symm
  refine lv_istore (lv' := [(6, .int b9), (5, .int k9), (4, .int (nI (6 * j))), (3, .ref o), (2, .ref m0), (1, .ref (AD 0 0 0)), (0, .ref b)]) F.1 F.2.1 dL_law_171 hl (by decide) rfl (fun ls hl => ?_)
  refine lv_aload_n F.1 F.2.1 dL_law_173 rfl (lv_at hl 4 rfl) ?_
  have hMu := repM_un hMm hd2
  refine q_rV (rest := []) F w kV_L_104 hd_X7_thrown (ci := 8) rfl (c_X7_thrown l D cy A _ m0 ad _ hMu) hMu.1 dL_law_174 rfl rfl hl.1 ⟨rfl, rfl, (Nat.le_of_ble_eq_true rfl), (Nat.le_of_ble_eq_true rfl)⟩ (Nat.le_of_ble_eq_true rfl) ⟨(show 50 + 8 * j + 1 + 0 ≤ 601024 by omega), (show 3000 + 3033 * j + 6 + 0 ≤ 7293034 by omega)⟩ ?_
  refine lv_fold (y := (HM_pass M (xs (6 * j + 1))) 0 0) rfl ?_
  refine lv_iload F.1 F.2.1 dL_law_177 (lv_at hl 1 rfl) ?_
  refine lv_icmp_eq (tgt := 184) F.1 F.2.1 dL_law_179 (by decide) (fun c_1 => ?_) (fun c_1 => absurd (hs1.trans hk9.symm) c_1)
  refine lv_iload F.1 F.2.1 dL_law_184 (lv_at hl 1 rfl) ?_
  refine lv_if_ne (tgt := 201) F.1 F.2.1 dL_law_186 (by decide) (fun c_2 => ?_) (fun c_2 => ?_)
  · refine lv_goto (tgt := 1785) F.1 F.2.1 dL_law_201 (by decide) ?_
    refine W.widen (k := 50 + 8 * (j + 1)) (n := 3000 + 3033 * (j + 1)) (by omega) (by omega) ?_
    exact kk _ _ ls ⟨X1, Y1, AD1, ad, _, _, f1, w, hd1, hd2, congrFun (congrFun hA1 0) 0, hM1, hMm, hs3⟩ (lv_sub hl [2, 3, 4, 5, 6] rfl)
  · have hK0 := k0_pass G (xs (6 * j + 1)) (hk9.symm.trans c_2)
    refine lv_aload_n F.1 F.2.1 dL_law_189 rfl (lv_at hl 3 rfl) ?_
    refine lv_iconst (v := 0) F.1 F.2.1 dL_law_190 (by decide) ?_
    refine q_lald F w (un_l (un_r hd1 oneO_at)) (i := 0) (vp_in_nI (n := 0) (N := 1) (by decide) (by decide)) dL_law_191 ?_
    refine lv_iload F.1 F.2.1 dL_law_192 (lv_at hl 0 rfl) ?_
    refine lv_i2l F.1 F.2.1 dL_law_194 rfl ?_
    refine W.lcmp F.1 F.2.1 dL_law_195 ?_
    refine lv_if_eq (tgt := 201) F.1 F.2.1 dL_law_196 (by decide) (fun c_4 => ?_) (fun c_4 => absurd ((congrArg (fun z => lg_cmp z b9.toInt64) (show f1 0 = b9.toInt64 by rw [hv hK0, hb9, hs2 hK0])).trans (lgc0 _)) c_4)
    refine lv_goto (tgt := 1785) F.1 F.2.1 dL_law_201 (by decide) ?_
    refine W.widen (k := 50 + 8 * (j + 1)) (n := 3000 + 3033 * (j + 1)) (by omega) (by omega) ?_
    exact kk _ _ ls ⟨X1, Y1, AD1, ad, _, _, f1, w, hd1, hd2, congrFun (congrFun hA1 0) 0, hM1, hMm, hs3⟩ (lv_sub hl [2, 3, 4, 5, 6] rfl)
set_option maxHeartbeats 4000000 in
set_option maxRecDepth 100000 in
theorem lk_ship (F : CallFix p m c cL_law 7 s #[Value.ref b] BIG RL) (hlf : l.stackTraces = false) (hR : Rstep9 R9) (hX : va_X b L xs s s.heap) (hbl : b < s.heap.size) (hbA : ¬ A b) (hL : L ≤ 3072) {j : Nat} (hj : j < 512) (h6 : 6 * j + 6 ≤ L) {H : Heap} {locs : List Loc} {ls : Array Slot} (hI : LInv9 D cy A s x0 m0 o R9 j H locs) (hl : lv_has ls 7 [(4, .int (nI (6 * j))), (3, .ref o), (2, .ref m0), (1, .ref x0), (0, .ref b)])
    (kk : ∀ (H1 : Heap) (locs1 : List Loc) (ls1 : Array Slot), LInv9 D cy A s x0 m0 o R9 (j + 1) H1 locs1 → lv_has ls1 7 [(4, .int (nI (6 * j))), (3, .ref o), (2, .ref m0), (1, .ref x0), (0, .ref b)] → W p l e room_1 s m #[Value.ref b] below meth c H1 locs1 (50 + 8 * (j + 1)) (3000 + 3033 * (j + 1)) Q (F0 m 1785 ls1 [])) : W p l e room_1 s m #[Value.ref b] below meth c H locs (50 + 8 * j) (3000 + 3033 * j) Q (F0 m 204 ls []) := by
  obtain ⟨X, Y, AD, ad, G, M, f, w, hd1, hd2, hAD, hM, hMm, hRel⟩ := hI
  subst hAD
  obtain ⟨hI, hIM, hn9, hp9, hpM, hso, hrM⟩ := hR.1 j G M hRel
  have hn := hn9 hj
  obtain ⟨hs1, hs2, hs3⟩ := hR.2.2.2.2.1 j G M (xs (6 * j + 1)) (xs (6 * j + 2)) (xs (6 * j + 3)) (xs (6 * j + 4)) (xs (6 * j + 5)) hj hRel
  refine lv_aload_n F.1 F.2.1 dL_law_204 rfl (lv_at hl 3 rfl) ?_
  refine lv_aload_n F.1 F.2.1 dL_law_205 rfl (lv_at hl 4 rfl) ?_
  refine lv_iload F.1 F.2.1 dL_law_206 (lv_at hl 0 rfl) ?_
  refine lv_iconst (v := 1) F.1 F.2.1 dL_law_208 (by decide) ?_
  refine lv_iadd F.1 F.2.1 dL_law_209 ?_
  refine lv_fold (y := nI (6 * j + 1)) (nI_add (6 * j) 1) ?_
  refine va_sld F.1 F.2.1 hX hbl hbA w.2.2.2.1 (vp_in_nI (show 6 * j + 1 < L by omega) (by omega)) dL_law_210 ?_
  refine lv_fold (y := xs (6 * j + 1)) (by rw [nI_clamp (by omega)]) ?_
  refine lv_aload_n F.1 F.2.1 dL_law_211 rfl (lv_at hl 4 rfl) ?_
  refine lv_iload F.1 F.2.1 dL_law_212 (lv_at hl 0 rfl) ?_
  refine lv_iconst (v := 2) F.1 F.2.1 dL_law_214 (by decide) ?_
  refine lv_iadd F.1 F.2.1 dL_law_215 ?_
  refine lv_fold (y := nI (6 * j + 2)) (nI_add (6 * j) 2) ?_
  refine va_sld F.1 F.2.1 hX hbl hbA w.2.2.2.1 (vp_in_nI (show 6 * j + 2 < L by omega) (by omega)) dL_law_216 ?_
  refine lv_fold (y := xs (6 * j + 2)) (by rw [nI_clamp (by omega)]) ?_
  refine lv_aload_n F.1 F.2.1 dL_law_217 rfl (lv_at hl 4 rfl) ?_
  refine lv_iload F.1 F.2.1 dL_law_218 (lv_at hl 0 rfl) ?_
  refine lv_iconst (v := 3) F.1 F.2.1 dL_law_220 (by decide) ?_
  refine lv_iadd F.1 F.2.1 dL_law_221 ?_
  refine lv_fold (y := nI (6 * j + 3)) (nI_add (6 * j) 3) ?_
  refine va_sld F.1 F.2.1 hX hbl hbA w.2.2.2.1 (vp_in_nI (show 6 * j + 3 < L by omega) (by omega)) dL_law_222 ?_
  refine lv_fold (y := xs (6 * j + 3)) (by rw [nI_clamp (by omega)]) ?_
  refine lv_aload_n F.1 F.2.1 dL_law_223 rfl (lv_at hl 4 rfl) ?_
  refine lv_iload F.1 F.2.1 dL_law_224 (lv_at hl 0 rfl) ?_
  refine lv_iconst (v := 4) F.1 F.2.1 dL_law_226 (by decide) ?_
  refine lv_iadd F.1 F.2.1 dL_law_227 ?_
  refine lv_fold (y := nI (6 * j + 4)) (nI_add (6 * j) 4) ?_
  refine va_sld F.1 F.2.1 hX hbl hbA w.2.2.2.1 (vp_in_nI (show 6 * j + 4 < L by omega) (by omega)) dL_law_228 ?_
  refine lv_fold (y := xs (6 * j + 4)) (by rw [nI_clamp (by omega)]) ?_
  refine lv_aload_n F.1 F.2.1 dL_law_229 rfl (lv_at hl 4 rfl) ?_
  refine lv_iload F.1 F.2.1 dL_law_230 (lv_at hl 0 rfl) ?_
  refine lv_iconst (v := 5) F.1 F.2.1 dL_law_232 (by decide) ?_
  refine lv_iadd F.1 F.2.1 dL_law_233 ?_
  refine lv_fold (y := nI (6 * j + 5)) (nI_add (6 * j) 5) ?_
  refine va_sld F.1 F.2.1 hX hbl hbA w.2.2.2.1 (vp_in_nI (show 6 * j + 5 < L by omega) (by omega)) dL_law_234 ?_
  refine lv_fold (y := xs (6 * j + 5)) (by rw [nI_clamp (by omega)]) ?_
  refine lv_aload_n F.1 F.2.1 dL_law_235 rfl (lv_at hl 1 rfl) ?_
  refine q_uSi (rest := []) F w hd2 kW_ship hdW_ship (c_L_ship l D cy _ X AD G hM hI f hd1 (xs (6 * j + 1)) (xs (6 * j + 2)) (xs (6 * j + 3)) (xs (6 * j + 4)) (xs (6 * j + 5)) hlf) dL_law_236 rfl rfl hl.1 ⟨rfl, rfl, (Nat.le_of_ble_eq_true rfl), (Nat.le_of_ble_eq_true rfl)⟩ (Nat.le_of_ble_eq_true rfl) ⟨(show 50 + 8 * j + 8 ≤ 601024 by omega), (show 3000 + 3033 * j + 3033 ≤ 7293034 by omega)⟩ (fun k9 μ1 H locs hp hd2 w => ?_)
  obtain ⟨hk9, X1, AD1, f1, hμ, hd1, hA1, hM1, hv⟩ := hp
  subst hμ
  refine lv_istore (lv' := [(5, .int k9), (4, .int (nI (6 * j))), (3, .ref o), (2, .ref m0), (1, .ref (AD 0 0 0)), (0, .ref b)]) F.1 F.2.1 dL_law_239 hl (by decide) rfl (fun ls hl => ?_)
  refine lv_aload_n F.1 F.2.1 dL_law_241 rfl (lv_at hl 3 rfl) ?_
  refine lv_aload_n F.1 F.2.1 dL_law_242 rfl (lv_at hl 5 rfl) ?_
  refine lv_iload F.1 F.2.1 dL_law_243 (lv_at hl 1 rfl) ?_
  refine lv_iconst (v := 1) F.1 F.2.1 dL_law_245 (by decide) ?_
  refine lv_iadd F.1 F.2.1 dL_law_246 ?_
  refine lv_fold (y := nI (6 * j + 1)) (nI_add (6 * j) 1) ?_
  refine va_sld F.1 F.2.1 hX hbl hbA w.2.2.2.1 (vp_in_nI (show 6 * j + 1 < L by omega) (by omega)) dL_law_247 ?_
  refine lv_fold (y := xs (6 * j + 1)) (by rw [nI_clamp (by omega)]) ?_
  refine lv_aload_n F.1 F.2.1 dL_law_248 rfl (lv_at hl 5 rfl) ?_
  refine lv_iload F.1 F.2.1 dL_law_249 (lv_at hl 1 rfl) ?_
  refine lv_iconst (v := 2) F.1 F.2.1 dL_law_251 (by decide) ?_
  refine lv_iadd F.1 F.2.1 dL_law_252 ?_
  refine lv_fold (y := nI (6 * j + 2)) (nI_add (6 * j) 2) ?_
  refine va_sld F.1 F.2.1 hX hbl hbA w.2.2.2.1 (vp_in_nI (show 6 * j + 2 < L by omega) (by omega)) dL_law_253 ?_
  refine lv_fold (y := xs (6 * j + 2)) (by rw [nI_clamp (by omega)]) ?_
  refine lv_aload_n F.1 F.2.1 dL_law_254 rfl (lv_at hl 5 rfl) ?_
  refine lv_iload F.1 F.2.1 dL_law_255 (lv_at hl 1 rfl) ?_
  refine lv_iconst (v := 3) F.1 F.2.1 dL_law_257 (by decide) ?_
  refine lv_iadd F.1 F.2.1 dL_law_258 ?_
  refine lv_fold (y := nI (6 * j + 3)) (nI_add (6 * j) 3) ?_
  refine va_sld F.1 F.2.1 hX hbl hbA w.2.2.2.1 (vp_in_nI (show 6 * j + 3 < L by omega) (by omega)) dL_law_259 ?_
  refine lv_fold (y := xs (6 * j + 3)) (by rw [nI_clamp (by omega)]) ?_
  refine lv_aload_n F.1 F.2.1 dL_law_260 rfl (lv_at hl 5 rfl) ?_
  refine lv_iload F.1 F.2.1 dL_law_261 (lv_at hl 1 rfl) ?_
  refine lv_iconst (v := 4) F.1 F.2.1 dL_law_263 (by decide) ?_
  refine lv_iadd F.1 F.2.1 dL_law_264 ?_
  refine lv_fold (y := nI (6 * j + 4)) (nI_add (6 * j) 4) ?_
  refine va_sld F.1 F.2.1 hX hbl hbA w.2.2.2.1 (vp_in_nI (show 6 * j + 4 < L by omega) (by omega)) dL_law_265 ?_
  refine lv_fold (y := xs (6 * j + 4)) (by rw [nI_clamp (by omega)]) ?_
  refine lv_aload_n F.1 F.2.1 dL_law_266 rfl (lv_at hl 5 rfl) ?_
  refine lv_iload F.1 F.2.1 dL_law_267 (lv_at hl 1 rfl) ?_
  refine lv_iconst (v := 5) F.1 F.2.1 dL_law_269 (by decide) ?_
  refine lv_iadd F.1 F.2.1 dL_law_270 ?_
  refine lv_fold (y := nI (6 * j + 5)) (nI_add (6 * j) 5) ?_
  refine va_sld F.1 F.2.1 hX hbl hbA w.2.2.2.1 (vp_in_nI (show 6 * j + 5 < L by omega) (by omega)) dL_law_271 ?_
  refine lv_fold (y := xs (6 * j + 5)) (by rw [nI_clamp (by omega)]) ?_
  rw [un_comm hd2] at w
  refine q_uVi (rest := []) F w hd2.symm kV_L_111 hd_X7_ship (ci := 8) rfl (t_X7_ship l D cy _ _ m0 ad M hMm hIM (xs (6 * j + 1)) (xs (6 * j + 2)) (xs (6 * j + 3)) (xs (6 * j + 4)) (xs (6 * j + 5))) hMm.1 dL_law_272 rfl rfl hl.1 ⟨rfl, rfl, (Nat.le_of_ble_eq_true rfl), (Nat.le_of_ble_eq_true rfl)⟩ (Nat.le_of_ble_eq_true rfl) ⟨(show 50 + 8 * j + 8 + 0 ≤ 601024 by omega), (show 3000 + 3033 * j + 3033 + 0 ≤ 7293034 by omega)⟩ (fun b9 Y1 H locs hp hd3 w => ?_)
  obtain ⟨hb9, hMm⟩ := hp
  rw [un_comm hd3] at w
  have hd2 := hd3.symm
  refine lv_istore (lv' := [(6, .int b9), (5, .int k9), (4, .int (nI (6 * j))), (3, .ref o), (2, .ref m0), (1, .ref (AD 0 0 0)), (0, .ref b)]) F.1 F.2.1 dL_law_275 hl (by decide) rfl (fun ls hl => ?_)
  refine lv_aload_n F.1 F.2.1 dL_law_277 rfl (lv_at hl 4 rfl) ?_
  have hMu := repM_un hMm hd2
  refine q_rV (rest := []) F w kV_L_104 hd_X7_thrown (ci := 8) rfl (c_X7_thrown l D cy A _ m0 ad _ hMu) hMu.1 dL_law_278 rfl rfl hl.1 ⟨rfl, rfl, (Nat.le_of_ble_eq_true rfl), (Nat.le_of_ble_eq_true rfl)⟩ (Nat.le_of_ble_eq_true rfl) ⟨(show 50 + 8 * j + 8 + 0 ≤ 601024 by omega), (show 3000 + 3033 * j + 3033 + 0 ≤ 7293034 by omega)⟩ ?_
  refine lv_fold (y := (HM_ship M (xs (6 * j + 1)) (xs (6 * j + 2)) (xs (6 * j + 3)) (xs (6 * j + 4)) (xs (6 * j + 5))) 0 0) rfl ?_
  refine lv_iload F.1 F.2.1 dL_law_281 (lv_at hl 1 rfl) ?_
  refine lv_icmp_eq (tgt := 288) F.1 F.2.1 dL_law_283 (by decide) (fun c_1 => ?_) (fun c_1 => absurd (hs1.trans hk9.symm) c_1)
  refine lv_iload F.1 F.2.1 dL_law_288 (lv_at hl 1 rfl) ?_
  refine lv_if_ne (tgt := 305) F.1 F.2.1 dL_law_290 (by decide) (fun c_2 => ?_) (fun c_2 => ?_)
  · refine lv_goto (tgt := 1785) F.1 F.2.1 dL_law_305 (by decide) ?_
    refine W.widen (k := 50 + 8 * (j + 1)) (n := 3000 + 3033 * (j + 1)) (by omega) (by omega) ?_
    exact kk _ _ ls ⟨X1, Y1, AD1, ad, _, _, f1, w, hd1, hd2, congrFun (congrFun hA1 0) 0, hM1, hMm, hs3⟩ (lv_sub hl [2, 3, 4, 5, 6] rfl)
  · have hK0 := k0_ship G (xs (6 * j + 1)) (xs (6 * j + 2)) (xs (6 * j + 3)) (xs (6 * j + 4)) (xs (6 * j + 5)) (hk9.symm.trans c_2)
    refine lv_aload_n F.1 F.2.1 dL_law_293 rfl (lv_at hl 3 rfl) ?_
    refine lv_iconst (v := 0) F.1 F.2.1 dL_law_294 (by decide) ?_
    refine q_lald F w (un_l (un_r hd1 oneO_at)) (i := 0) (vp_in_nI (n := 0) (N := 1) (by decide) (by decide)) dL_law_295 ?_
    refine lv_iload F.1 F.2.1 dL_law_296 (lv_at hl 0 rfl) ?_
    refine lv_i2l F.1 F.2.1 dL_law_298 rfl ?_
    refine W.lcmp F.1 F.2.1 dL_law_299 ?_
    refine lv_if_eq (tgt := 305) F.1 F.2.1 dL_law_300 (by decide) (fun c_4 => ?_) (fun c_4 => absurd ((congrArg (fun z => lg_cmp z b9.toInt64) (show f1 0 = b9.toInt64 by rw [hv hK0, hb9, hs2 hK0])).trans (lgc0 _)) c_4)
    refine lv_goto (tgt := 1785) F.1 F.2.1 dL_law_305 (by decide) ?_
    refine W.widen (k := 50 + 8 * (j + 1)) (n := 3000 + 3033 * (j + 1)) (by omega) (by omega) ?_
    exact kk _ _ ls ⟨X1, Y1, AD1, ad, _, _, f1, w, hd1, hd2, congrFun (congrFun hA1 0) 0, hM1, hMm, hs3⟩ (lv_sub hl [2, 3, 4, 5, 6] rfl)
set_option maxHeartbeats 4000000 in
set_option maxRecDepth 100000 in
theorem lk_changes (F : CallFix p m c cL_law 7 s #[Value.ref b] BIG RL) (hlf : l.stackTraces = false) (hR : Rstep9 R9) (hX : va_X b L xs s s.heap) (hbl : b < s.heap.size) (hbA : ¬ A b) (hL : L ≤ 3072) {j : Nat} (hj : j < 512) (h6 : 6 * j + 6 ≤ L) {H : Heap} {locs : List Loc} {ls : Array Slot} (hI : LInv9 D cy A s x0 m0 o R9 j H locs) (hl : lv_has ls 7 [(4, .int (nI (6 * j))), (3, .ref o), (2, .ref m0), (1, .ref x0), (0, .ref b)])
    (kk : ∀ (H1 : Heap) (locs1 : List Loc) (ls1 : Array Slot), LInv9 D cy A s x0 m0 o R9 (j + 1) H1 locs1 → lv_has ls1 7 [(4, .int (nI (6 * j))), (3, .ref o), (2, .ref m0), (1, .ref x0), (0, .ref b)] → W p l e room_1 s m #[Value.ref b] below meth c H1 locs1 (50 + 8 * (j + 1)) (3000 + 3033 * (j + 1)) Q (F0 m 1785 ls1 [])) : W p l e room_1 s m #[Value.ref b] below meth c H locs (50 + 8 * j) (3000 + 3033 * j) Q (F0 m 308 ls []) := by
  obtain ⟨X, Y, AD, ad, G, M, f, w, hd1, hd2, hAD, hM, hMm, hRel⟩ := hI
  subst hAD
  obtain ⟨hI, hIM, hn9, hp9, hpM, hso, hrM⟩ := hR.1 j G M hRel
  have hn := hn9 hj
  obtain ⟨hs1, hs2, hs3⟩ := hR.2.2.2.2.2.1 j G M (xs (6 * j + 1)) (xs (6 * j + 2)) (xs (6 * j + 3)) hj hRel
  refine lv_aload_n F.1 F.2.1 dL_law_308 rfl (lv_at hl 3 rfl) ?_
  refine lv_aload_n F.1 F.2.1 dL_law_309 rfl (lv_at hl 4 rfl) ?_
  refine lv_iload F.1 F.2.1 dL_law_310 (lv_at hl 0 rfl) ?_
  refine lv_iconst (v := 1) F.1 F.2.1 dL_law_312 (by decide) ?_
  refine lv_iadd F.1 F.2.1 dL_law_313 ?_
  refine lv_fold (y := nI (6 * j + 1)) (nI_add (6 * j) 1) ?_
  refine va_sld F.1 F.2.1 hX hbl hbA w.2.2.2.1 (vp_in_nI (show 6 * j + 1 < L by omega) (by omega)) dL_law_314 ?_
  refine lv_fold (y := xs (6 * j + 1)) (by rw [nI_clamp (by omega)]) ?_
  refine lv_aload_n F.1 F.2.1 dL_law_315 rfl (lv_at hl 4 rfl) ?_
  refine lv_iload F.1 F.2.1 dL_law_316 (lv_at hl 0 rfl) ?_
  refine lv_iconst (v := 2) F.1 F.2.1 dL_law_318 (by decide) ?_
  refine lv_iadd F.1 F.2.1 dL_law_319 ?_
  refine lv_fold (y := nI (6 * j + 2)) (nI_add (6 * j) 2) ?_
  refine va_sld F.1 F.2.1 hX hbl hbA w.2.2.2.1 (vp_in_nI (show 6 * j + 2 < L by omega) (by omega)) dL_law_320 ?_
  refine lv_fold (y := xs (6 * j + 2)) (by rw [nI_clamp (by omega)]) ?_
  refine lv_aload_n F.1 F.2.1 dL_law_321 rfl (lv_at hl 4 rfl) ?_
  refine lv_iload F.1 F.2.1 dL_law_322 (lv_at hl 0 rfl) ?_
  refine lv_iconst (v := 3) F.1 F.2.1 dL_law_324 (by decide) ?_
  refine lv_iadd F.1 F.2.1 dL_law_325 ?_
  refine lv_fold (y := nI (6 * j + 3)) (nI_add (6 * j) 3) ?_
  refine va_sld F.1 F.2.1 hX hbl hbA w.2.2.2.1 (vp_in_nI (show 6 * j + 3 < L by omega) (by omega)) dL_law_326 ?_
  refine lv_fold (y := xs (6 * j + 3)) (by rw [nI_clamp (by omega)]) ?_
  refine lv_aload_n F.1 F.2.1 dL_law_327 rfl (lv_at hl 1 rfl) ?_
  refine q_uSi (rest := []) F w hd2 kW_changes hdW_changes (c_L_changes l D cy _ X AD G hM hI f hd1 (xs (6 * j + 1)) (xs (6 * j + 2)) (xs (6 * j + 3)) hn hlf) dL_law_328 rfl rfl hl.1 ⟨rfl, rfl, (Nat.le_of_ble_eq_true rfl), (Nat.le_of_ble_eq_true rfl)⟩ (Nat.le_of_ble_eq_true rfl) ⟨(show 50 + 8 * j + 2 ≤ 601024 by omega), (show 3000 + 3033 * j + 1004 ≤ 7293034 by omega)⟩ (fun k9 μ1 H locs hp hd2 w => ?_)
  obtain ⟨hk9, X1, AD1, f1, hμ, hd1, hA1, hM1, hv⟩ := hp
  subst hμ
  refine lv_istore (lv' := [(5, .int k9), (4, .int (nI (6 * j))), (3, .ref o), (2, .ref m0), (1, .ref (AD 0 0 0)), (0, .ref b)]) F.1 F.2.1 dL_law_331 hl (by decide) rfl (fun ls hl => ?_)
  refine lv_aload_n F.1 F.2.1 dL_law_333 rfl (lv_at hl 3 rfl) ?_
  refine lv_aload_n F.1 F.2.1 dL_law_334 rfl (lv_at hl 5 rfl) ?_
  refine lv_iload F.1 F.2.1 dL_law_335 (lv_at hl 1 rfl) ?_
  refine lv_iconst (v := 1) F.1 F.2.1 dL_law_337 (by decide) ?_
  refine lv_iadd F.1 F.2.1 dL_law_338 ?_
  refine lv_fold (y := nI (6 * j + 1)) (nI_add (6 * j) 1) ?_
  refine va_sld F.1 F.2.1 hX hbl hbA w.2.2.2.1 (vp_in_nI (show 6 * j + 1 < L by omega) (by omega)) dL_law_339 ?_
  refine lv_fold (y := xs (6 * j + 1)) (by rw [nI_clamp (by omega)]) ?_
  refine lv_aload_n F.1 F.2.1 dL_law_340 rfl (lv_at hl 5 rfl) ?_
  refine lv_iload F.1 F.2.1 dL_law_341 (lv_at hl 1 rfl) ?_
  refine lv_iconst (v := 2) F.1 F.2.1 dL_law_343 (by decide) ?_
  refine lv_iadd F.1 F.2.1 dL_law_344 ?_
  refine lv_fold (y := nI (6 * j + 2)) (nI_add (6 * j) 2) ?_
  refine va_sld F.1 F.2.1 hX hbl hbA w.2.2.2.1 (vp_in_nI (show 6 * j + 2 < L by omega) (by omega)) dL_law_345 ?_
  refine lv_fold (y := xs (6 * j + 2)) (by rw [nI_clamp (by omega)]) ?_
  refine lv_aload_n F.1 F.2.1 dL_law_346 rfl (lv_at hl 5 rfl) ?_
  refine lv_iload F.1 F.2.1 dL_law_347 (lv_at hl 1 rfl) ?_
  refine lv_iconst (v := 3) F.1 F.2.1 dL_law_349 (by decide) ?_
  refine lv_iadd F.1 F.2.1 dL_law_350 ?_
  refine lv_fold (y := nI (6 * j + 3)) (nI_add (6 * j) 3) ?_
  refine va_sld F.1 F.2.1 hX hbl hbA w.2.2.2.1 (vp_in_nI (show 6 * j + 3 < L by omega) (by omega)) dL_law_351 ?_
  refine lv_fold (y := xs (6 * j + 3)) (by rw [nI_clamp (by omega)]) ?_
  rw [un_comm hd2] at w
  refine q_uVi (rest := []) F w hd2.symm kV_L_115 hd_X7_changes (ci := 8) rfl (t_X7_changes l D cy _ _ m0 ad M hMm hIM (xs (6 * j + 1)) (xs (6 * j + 2)) (xs (6 * j + 3))) hMm.1 dL_law_352 rfl rfl hl.1 ⟨rfl, rfl, (Nat.le_of_ble_eq_true rfl), (Nat.le_of_ble_eq_true rfl)⟩ (Nat.le_of_ble_eq_true rfl) ⟨(show 50 + 8 * j + 2 + 0 ≤ 601024 by omega), (show 3000 + 3033 * j + 1004 + 0 ≤ 7293034 by omega)⟩ (fun b9 Y1 H locs hp hd3 w => ?_)
  obtain ⟨hb9, hMm⟩ := hp
  rw [un_comm hd3] at w
  have hd2 := hd3.symm
  refine lv_istore (lv' := [(6, .int b9), (5, .int k9), (4, .int (nI (6 * j))), (3, .ref o), (2, .ref m0), (1, .ref (AD 0 0 0)), (0, .ref b)]) F.1 F.2.1 dL_law_355 hl (by decide) rfl (fun ls hl => ?_)
  refine lv_aload_n F.1 F.2.1 dL_law_357 rfl (lv_at hl 4 rfl) ?_
  have hMu := repM_un hMm hd2
  refine q_rV (rest := []) F w kV_L_104 hd_X7_thrown (ci := 8) rfl (c_X7_thrown l D cy A _ m0 ad _ hMu) hMu.1 dL_law_358 rfl rfl hl.1 ⟨rfl, rfl, (Nat.le_of_ble_eq_true rfl), (Nat.le_of_ble_eq_true rfl)⟩ (Nat.le_of_ble_eq_true rfl) ⟨(show 50 + 8 * j + 2 + 0 ≤ 601024 by omega), (show 3000 + 3033 * j + 1004 + 0 ≤ 7293034 by omega)⟩ ?_
  refine lv_fold (y := (HM_changes M (xs (6 * j + 1)) (xs (6 * j + 2)) (xs (6 * j + 3))) 0 0) rfl ?_
  refine lv_iload F.1 F.2.1 dL_law_361 (lv_at hl 1 rfl) ?_
  refine lv_icmp_eq (tgt := 368) F.1 F.2.1 dL_law_363 (by decide) (fun c_1 => ?_) (fun c_1 => absurd (hs1.trans hk9.symm) c_1)
  refine lv_iload F.1 F.2.1 dL_law_368 (lv_at hl 1 rfl) ?_
  refine lv_if_ne (tgt := 385) F.1 F.2.1 dL_law_370 (by decide) (fun c_2 => ?_) (fun c_2 => ?_)
  · refine lv_goto (tgt := 1785) F.1 F.2.1 dL_law_385 (by decide) ?_
    refine W.widen (k := 50 + 8 * (j + 1)) (n := 3000 + 3033 * (j + 1)) (by omega) (by omega) ?_
    exact kk _ _ ls ⟨X1, Y1, AD1, ad, _, _, f1, w, hd1, hd2, congrFun (congrFun hA1 0) 0, hM1, hMm, hs3⟩ (lv_sub hl [2, 3, 4, 5, 6] rfl)
  · have hK0 := k0_changes G (xs (6 * j + 1)) (xs (6 * j + 2)) (xs (6 * j + 3)) (hk9.symm.trans c_2)
    refine lv_aload_n F.1 F.2.1 dL_law_373 rfl (lv_at hl 3 rfl) ?_
    refine lv_iconst (v := 0) F.1 F.2.1 dL_law_374 (by decide) ?_
    refine q_lald F w (un_l (un_r hd1 oneO_at)) (i := 0) (vp_in_nI (n := 0) (N := 1) (by decide) (by decide)) dL_law_375 ?_
    refine lv_iload F.1 F.2.1 dL_law_376 (lv_at hl 0 rfl) ?_
    refine lv_i2l F.1 F.2.1 dL_law_378 rfl ?_
    refine W.lcmp F.1 F.2.1 dL_law_379 ?_
    refine lv_if_eq (tgt := 385) F.1 F.2.1 dL_law_380 (by decide) (fun c_4 => ?_) (fun c_4 => absurd ((congrArg (fun z => lg_cmp z b9.toInt64) (show f1 0 = b9.toInt64 by rw [hv hK0, hb9, hs2 hK0])).trans (lgc0 _)) c_4)
    refine lv_goto (tgt := 1785) F.1 F.2.1 dL_law_385 (by decide) ?_
    refine W.widen (k := 50 + 8 * (j + 1)) (n := 3000 + 3033 * (j + 1)) (by omega) (by omega) ?_
    exact kk _ _ ls ⟨X1, Y1, AD1, ad, _, _, f1, w, hd1, hd2, congrFun (congrFun hA1 0) 0, hM1, hMm, hs3⟩ (lv_sub hl [2, 3, 4, 5, 6] rfl)
set_option maxHeartbeats 4000000 in
set_option maxRecDepth 100000 in
theorem lk_suspend (F : CallFix p m c cL_law 7 s #[Value.ref b] BIG RL) (hlf : l.stackTraces = false) (hR : Rstep9 R9) (hX : va_X b L xs s s.heap) (hbl : b < s.heap.size) (hbA : ¬ A b) (hL : L ≤ 3072) {j : Nat} (hj : j < 512) (h6 : 6 * j + 6 ≤ L) {H : Heap} {locs : List Loc} {ls : Array Slot} (hI : LInv9 D cy A s x0 m0 o R9 j H locs) (hl : lv_has ls 7 [(4, .int (nI (6 * j))), (3, .ref o), (2, .ref m0), (1, .ref x0), (0, .ref b)])
    (kk : ∀ (H1 : Heap) (locs1 : List Loc) (ls1 : Array Slot), LInv9 D cy A s x0 m0 o R9 (j + 1) H1 locs1 → lv_has ls1 7 [(4, .int (nI (6 * j))), (3, .ref o), (2, .ref m0), (1, .ref x0), (0, .ref b)] → W p l e room_1 s m #[Value.ref b] below meth c H1 locs1 (50 + 8 * (j + 1)) (3000 + 3033 * (j + 1)) Q (F0 m 1785 ls1 [])) : W p l e room_1 s m #[Value.ref b] below meth c H locs (50 + 8 * j) (3000 + 3033 * j) Q (F0 m 388 ls []) := by
  obtain ⟨X, Y, AD, ad, G, M, f, w, hd1, hd2, hAD, hM, hMm, hRel⟩ := hI
  subst hAD
  obtain ⟨hI, hIM, hn9, hp9, hpM, hso, hrM⟩ := hR.1 j G M hRel
  have hn := hn9 hj
  by_cases cb : xs (6 * j + 2) = 0
  · obtain ⟨hs1, hs2, hs3⟩ := hR.2.2.2.2.2.2.1 j G M (xs (6 * j + 1)) 0 hj hRel (by decide)
    refine lv_aload_n F.1 F.2.1 dL_law_388 rfl (lv_at hl 3 rfl) ?_
    refine lv_aload_n F.1 F.2.1 dL_law_389 rfl (lv_at hl 4 rfl) ?_
    refine lv_iload F.1 F.2.1 dL_law_390 (lv_at hl 0 rfl) ?_
    refine lv_iconst (v := 1) F.1 F.2.1 dL_law_392 (by decide) ?_
    refine lv_iadd F.1 F.2.1 dL_law_393 ?_
    refine lv_fold (y := nI (6 * j + 1)) (nI_add (6 * j) 1) ?_
    refine va_sld F.1 F.2.1 hX hbl hbA w.2.2.2.1 (vp_in_nI (show 6 * j + 1 < L by omega) (by omega)) dL_law_394 ?_
    refine lv_fold (y := xs (6 * j + 1)) (by rw [nI_clamp (by omega)]) ?_
    refine lv_aload_n F.1 F.2.1 dL_law_395 rfl (lv_at hl 4 rfl) ?_
    refine lv_iload F.1 F.2.1 dL_law_396 (lv_at hl 0 rfl) ?_
    refine lv_iconst (v := 2) F.1 F.2.1 dL_law_398 (by decide) ?_
    refine lv_iadd F.1 F.2.1 dL_law_399 ?_
    refine lv_fold (y := nI (6 * j + 2)) (nI_add (6 * j) 2) ?_
    refine va_sld F.1 F.2.1 hX hbl hbA w.2.2.2.1 (vp_in_nI (show 6 * j + 2 < L by omega) (by omega)) dL_law_400 ?_
    refine lv_fold (y := xs (6 * j + 2)) (by rw [nI_clamp (by omega)]) ?_
    refine lv_if_eq (tgt := 408) F.1 F.2.1 dL_law_401 (by decide) (fun c_1 => ?_) (fun c_1 => absurd cb c_1)
    refine lv_iconst (v := 0) F.1 F.2.1 dL_law_408 (by decide) ?_
    refine lv_aload_n F.1 F.2.1 dL_law_409 rfl (lv_at hl 1 rfl) ?_
    refine q_uSi (rest := []) F w hd2 kW_suspend hdW_suspend (c_L_suspend l D cy _ X AD G hM hI f hd1 (xs (6 * j + 1)) 0 (by decide) hlf) dL_law_410 rfl rfl hl.1 ⟨rfl, rfl, (Nat.le_of_ble_eq_true rfl), (Nat.le_of_ble_eq_true rfl)⟩ (Nat.le_of_ble_eq_true rfl) ⟨(show 50 + 8 * j + 1 ≤ 601024 by omega), (show 3000 + 3033 * j + 6 ≤ 7293034 by omega)⟩ (fun k9 μ1 H locs hp hd2 w => ?_)
    obtain ⟨hk9, X1, AD1, f1, hμ, hd1, hA1, hM1, hv⟩ := hp
    subst hμ
    refine lv_istore (lv' := [(5, .int k9), (4, .int (nI (6 * j))), (3, .ref o), (2, .ref m0), (1, .ref (AD 0 0 0)), (0, .ref b)]) F.1 F.2.1 dL_law_413 hl (by decide) rfl (fun ls hl => ?_)
    refine lv_aload_n F.1 F.2.1 dL_law_415 rfl (lv_at hl 3 rfl) ?_
    refine lv_aload_n F.1 F.2.1 dL_law_416 rfl (lv_at hl 5 rfl) ?_
    refine lv_iload F.1 F.2.1 dL_law_417 (lv_at hl 1 rfl) ?_
    refine lv_iconst (v := 1) F.1 F.2.1 dL_law_419 (by decide) ?_
    refine lv_iadd F.1 F.2.1 dL_law_420 ?_
    refine lv_fold (y := nI (6 * j + 1)) (nI_add (6 * j) 1) ?_
    refine va_sld F.1 F.2.1 hX hbl hbA w.2.2.2.1 (vp_in_nI (show 6 * j + 1 < L by omega) (by omega)) dL_law_421 ?_
    refine lv_fold (y := xs (6 * j + 1)) (by rw [nI_clamp (by omega)]) ?_
    refine lv_aload_n F.1 F.2.1 dL_law_422 rfl (lv_at hl 5 rfl) ?_
    refine lv_iload F.1 F.2.1 dL_law_423 (lv_at hl 1 rfl) ?_
    refine lv_iconst (v := 2) F.1 F.2.1 dL_law_425 (by decide) ?_
    refine lv_iadd F.1 F.2.1 dL_law_426 ?_
    refine lv_fold (y := nI (6 * j + 2)) (nI_add (6 * j) 2) ?_
    refine va_sld F.1 F.2.1 hX hbl hbA w.2.2.2.1 (vp_in_nI (show 6 * j + 2 < L by omega) (by omega)) dL_law_427 ?_
    refine lv_fold (y := xs (6 * j + 2)) (by rw [nI_clamp (by omega)]) ?_
    refine lv_if_eq (tgt := 435) F.1 F.2.1 dL_law_428 (by decide) (fun c_1 => ?_) (fun c_1 => absurd cb c_1)
    refine lv_iconst (v := 0) F.1 F.2.1 dL_law_435 (by decide) ?_
    rw [un_comm hd2] at w
    refine q_uVi (rest := []) F w hd2.symm kV_L_119 hd_X7_suspend (ci := 8) rfl (t_X7_suspend l D cy _ _ m0 ad M hMm hIM (xs (6 * j + 1)) 0 (by decide)) hMm.1 dL_law_436 rfl rfl hl.1 ⟨rfl, rfl, (Nat.le_of_ble_eq_true rfl), (Nat.le_of_ble_eq_true rfl)⟩ (Nat.le_of_ble_eq_true rfl) ⟨(show 50 + 8 * j + 1 + 0 ≤ 601024 by omega), (show 3000 + 3033 * j + 6 + 0 ≤ 7293034 by omega)⟩ (fun b9 Y1 H locs hp hd3 w => ?_)
    obtain ⟨hb9, hMm⟩ := hp
    rw [un_comm hd3] at w
    have hd2 := hd3.symm
    refine lv_istore (lv' := [(6, .int b9), (5, .int k9), (4, .int (nI (6 * j))), (3, .ref o), (2, .ref m0), (1, .ref (AD 0 0 0)), (0, .ref b)]) F.1 F.2.1 dL_law_439 hl (by decide) rfl (fun ls hl => ?_)
    refine lv_aload_n F.1 F.2.1 dL_law_441 rfl (lv_at hl 4 rfl) ?_
    have hMu := repM_un hMm hd2
    refine q_rV (rest := []) F w kV_L_104 hd_X7_thrown (ci := 8) rfl (c_X7_thrown l D cy A _ m0 ad _ hMu) hMu.1 dL_law_442 rfl rfl hl.1 ⟨rfl, rfl, (Nat.le_of_ble_eq_true rfl), (Nat.le_of_ble_eq_true rfl)⟩ (Nat.le_of_ble_eq_true rfl) ⟨(show 50 + 8 * j + 1 + 0 ≤ 601024 by omega), (show 3000 + 3033 * j + 6 + 0 ≤ 7293034 by omega)⟩ ?_
    refine lv_fold (y := (HM_suspend M (xs (6 * j + 1)) 0) 0 0) rfl ?_
    refine lv_iload F.1 F.2.1 dL_law_445 (lv_at hl 1 rfl) ?_
    refine lv_icmp_eq (tgt := 452) F.1 F.2.1 dL_law_447 (by decide) (fun c_1 => ?_) (fun c_1 => absurd (hs1.trans hk9.symm) c_1)
    refine lv_iload F.1 F.2.1 dL_law_452 (lv_at hl 1 rfl) ?_
    refine lv_if_ne (tgt := 476) F.1 F.2.1 dL_law_454 (by decide) (fun c_2 => ?_) (fun c_2 => ?_)
    · refine lv_goto (tgt := 1785) F.1 F.2.1 dL_law_476 (by decide) ?_
      refine W.widen (k := 50 + 8 * (j + 1)) (n := 3000 + 3033 * (j + 1)) (by omega) (by omega) ?_
      exact kk _ _ ls ⟨X1, Y1, AD1, ad, _, _, f1, w, hd1, hd2, congrFun (congrFun hA1 0) 0, hM1, hMm, hs3⟩ (lv_sub hl [2, 3, 4, 5, 6] rfl)
    · have hK0 := k0_suspend G (xs (6 * j + 1)) 0 (hk9.symm.trans c_2)
      refine lv_aload_n F.1 F.2.1 dL_law_457 rfl (lv_at hl 3 rfl) ?_
      refine lv_iconst (v := 0) F.1 F.2.1 dL_law_458 (by decide) ?_
      refine q_lald F w (un_l (un_r hd1 oneO_at)) (i := 0) (vp_in_nI (n := 0) (N := 1) (by decide) (by decide)) dL_law_459 ?_
      refine lv_iload F.1 F.2.1 dL_law_460 (lv_at hl 0 rfl) ?_
      refine lv_if_eq (tgt := 469) F.1 F.2.1 dL_law_462 (by decide) (fun c_3 => ?_) (fun c_3 => ?_)
      · refine lv_lconst (v := 0) F.1 F.2.1 dL_law_469 (by decide) ?_
        refine W.lcmp F.1 F.2.1 dL_law_470 ?_
        refine lv_if_eq (tgt := 476) F.1 F.2.1 dL_law_471 (by decide) (fun c_4 => ?_) (fun c_4 => absurd ((congrArg (fun z => lg_cmp z 0) (show f1 0 = 0 by rw [hv hK0, ← hs2 hK0, ← hb9, if_pos c_3])).trans (lgc0 _)) c_4)
        refine lv_goto (tgt := 1785) F.1 F.2.1 dL_law_476 (by decide) ?_
        refine W.widen (k := 50 + 8 * (j + 1)) (n := 3000 + 3033 * (j + 1)) (by omega) (by omega) ?_
        exact kk _ _ ls ⟨X1, Y1, AD1, ad, _, _, f1, w, hd1, hd2, congrFun (congrFun hA1 0) 0, hM1, hMm, hs3⟩ (lv_sub hl [2, 3, 4, 5, 6] rfl)
      · refine lv_lconst (v := 1) F.1 F.2.1 dL_law_465 (by decide) ?_
        refine lv_goto (tgt := 470) F.1 F.2.1 dL_law_466 (by decide) ?_
        refine W.lcmp F.1 F.2.1 dL_law_470 ?_
        refine lv_if_eq (tgt := 476) F.1 F.2.1 dL_law_471 (by decide) (fun c_4 => ?_) (fun c_4 => absurd ((congrArg (fun z => lg_cmp z 1) (show f1 0 = 1 by rw [hv hK0, ← hs2 hK0, ← hb9, if_neg c_3])).trans (lgc0 _)) c_4)
        refine lv_goto (tgt := 1785) F.1 F.2.1 dL_law_476 (by decide) ?_
        refine W.widen (k := 50 + 8 * (j + 1)) (n := 3000 + 3033 * (j + 1)) (by omega) (by omega) ?_
        exact kk _ _ ls ⟨X1, Y1, AD1, ad, _, _, f1, w, hd1, hd2, congrFun (congrFun hA1 0) 0, hM1, hMm, hs3⟩ (lv_sub hl [2, 3, 4, 5, 6] rfl)
  · obtain ⟨hs1, hs2, hs3⟩ := hR.2.2.2.2.2.2.1 j G M (xs (6 * j + 1)) 1 hj hRel (by decide)
    refine lv_aload_n F.1 F.2.1 dL_law_388 rfl (lv_at hl 3 rfl) ?_
    refine lv_aload_n F.1 F.2.1 dL_law_389 rfl (lv_at hl 4 rfl) ?_
    refine lv_iload F.1 F.2.1 dL_law_390 (lv_at hl 0 rfl) ?_
    refine lv_iconst (v := 1) F.1 F.2.1 dL_law_392 (by decide) ?_
    refine lv_iadd F.1 F.2.1 dL_law_393 ?_
    refine lv_fold (y := nI (6 * j + 1)) (nI_add (6 * j) 1) ?_
    refine va_sld F.1 F.2.1 hX hbl hbA w.2.2.2.1 (vp_in_nI (show 6 * j + 1 < L by omega) (by omega)) dL_law_394 ?_
    refine lv_fold (y := xs (6 * j + 1)) (by rw [nI_clamp (by omega)]) ?_
    refine lv_aload_n F.1 F.2.1 dL_law_395 rfl (lv_at hl 4 rfl) ?_
    refine lv_iload F.1 F.2.1 dL_law_396 (lv_at hl 0 rfl) ?_
    refine lv_iconst (v := 2) F.1 F.2.1 dL_law_398 (by decide) ?_
    refine lv_iadd F.1 F.2.1 dL_law_399 ?_
    refine lv_fold (y := nI (6 * j + 2)) (nI_add (6 * j) 2) ?_
    refine va_sld F.1 F.2.1 hX hbl hbA w.2.2.2.1 (vp_in_nI (show 6 * j + 2 < L by omega) (by omega)) dL_law_400 ?_
    refine lv_fold (y := xs (6 * j + 2)) (by rw [nI_clamp (by omega)]) ?_
    refine lv_if_eq (tgt := 408) F.1 F.2.1 dL_law_401 (by decide) (fun c_1 => absurd c_1 cb) (fun c_1 => ?_)
    refine lv_iconst (v := 1) F.1 F.2.1 dL_law_404 (by decide) ?_
    refine lv_goto (tgt := 409) F.1 F.2.1 dL_law_405 (by decide) ?_
    refine lv_aload_n F.1 F.2.1 dL_law_409 rfl (lv_at hl 1 rfl) ?_
    refine q_uSi (rest := []) F w hd2 kW_suspend hdW_suspend (c_L_suspend l D cy _ X AD G hM hI f hd1 (xs (6 * j + 1)) 1 (by decide) hlf) dL_law_410 rfl rfl hl.1 ⟨rfl, rfl, (Nat.le_of_ble_eq_true rfl), (Nat.le_of_ble_eq_true rfl)⟩ (Nat.le_of_ble_eq_true rfl) ⟨(show 50 + 8 * j + 1 ≤ 601024 by omega), (show 3000 + 3033 * j + 6 ≤ 7293034 by omega)⟩ (fun k9 μ1 H locs hp hd2 w => ?_)
    obtain ⟨hk9, X1, AD1, f1, hμ, hd1, hA1, hM1, hv⟩ := hp
    subst hμ
    refine lv_istore (lv' := [(5, .int k9), (4, .int (nI (6 * j))), (3, .ref o), (2, .ref m0), (1, .ref (AD 0 0 0)), (0, .ref b)]) F.1 F.2.1 dL_law_413 hl (by decide) rfl (fun ls hl => ?_)
    refine lv_aload_n F.1 F.2.1 dL_law_415 rfl (lv_at hl 3 rfl) ?_
    refine lv_aload_n F.1 F.2.1 dL_law_416 rfl (lv_at hl 5 rfl) ?_
    refine lv_iload F.1 F.2.1 dL_law_417 (lv_at hl 1 rfl) ?_
    refine lv_iconst (v := 1) F.1 F.2.1 dL_law_419 (by decide) ?_
    refine lv_iadd F.1 F.2.1 dL_law_420 ?_
    refine lv_fold (y := nI (6 * j + 1)) (nI_add (6 * j) 1) ?_
    refine va_sld F.1 F.2.1 hX hbl hbA w.2.2.2.1 (vp_in_nI (show 6 * j + 1 < L by omega) (by omega)) dL_law_421 ?_
    refine lv_fold (y := xs (6 * j + 1)) (by rw [nI_clamp (by omega)]) ?_
    refine lv_aload_n F.1 F.2.1 dL_law_422 rfl (lv_at hl 5 rfl) ?_
    refine lv_iload F.1 F.2.1 dL_law_423 (lv_at hl 1 rfl) ?_
    refine lv_iconst (v := 2) F.1 F.2.1 dL_law_425 (by decide) ?_
    refine lv_iadd F.1 F.2.1 dL_law_426 ?_
    refine lv_fold (y := nI (6 * j + 2)) (nI_add (6 * j) 2) ?_
    refine va_sld F.1 F.2.1 hX hbl hbA w.2.2.2.1 (vp_in_nI (show 6 * j + 2 < L by omega) (by omega)) dL_law_427 ?_
    refine lv_fold (y := xs (6 * j + 2)) (by rw [nI_clamp (by omega)]) ?_
    refine lv_if_eq (tgt := 435) F.1 F.2.1 dL_law_428 (by decide) (fun c_1 => absurd c_1 cb) (fun c_1 => ?_)
    refine lv_iconst (v := 1) F.1 F.2.1 dL_law_431 (by decide) ?_
    refine lv_goto (tgt := 436) F.1 F.2.1 dL_law_432 (by decide) ?_
    rw [un_comm hd2] at w
    refine q_uVi (rest := []) F w hd2.symm kV_L_119 hd_X7_suspend (ci := 8) rfl (t_X7_suspend l D cy _ _ m0 ad M hMm hIM (xs (6 * j + 1)) 1 (by decide)) hMm.1 dL_law_436 rfl rfl hl.1 ⟨rfl, rfl, (Nat.le_of_ble_eq_true rfl), (Nat.le_of_ble_eq_true rfl)⟩ (Nat.le_of_ble_eq_true rfl) ⟨(show 50 + 8 * j + 1 + 0 ≤ 601024 by omega), (show 3000 + 3033 * j + 6 + 0 ≤ 7293034 by omega)⟩ (fun b9 Y1 H locs hp hd3 w => ?_)
    obtain ⟨hb9, hMm⟩ := hp
    rw [un_comm hd3] at w
    have hd2 := hd3.symm
    refine lv_istore (lv' := [(6, .int b9), (5, .int k9), (4, .int (nI (6 * j))), (3, .ref o), (2, .ref m0), (1, .ref (AD 0 0 0)), (0, .ref b)]) F.1 F.2.1 dL_law_439 hl (by decide) rfl (fun ls hl => ?_)
    refine lv_aload_n F.1 F.2.1 dL_law_441 rfl (lv_at hl 4 rfl) ?_
    have hMu := repM_un hMm hd2
    refine q_rV (rest := []) F w kV_L_104 hd_X7_thrown (ci := 8) rfl (c_X7_thrown l D cy A _ m0 ad _ hMu) hMu.1 dL_law_442 rfl rfl hl.1 ⟨rfl, rfl, (Nat.le_of_ble_eq_true rfl), (Nat.le_of_ble_eq_true rfl)⟩ (Nat.le_of_ble_eq_true rfl) ⟨(show 50 + 8 * j + 1 + 0 ≤ 601024 by omega), (show 3000 + 3033 * j + 6 + 0 ≤ 7293034 by omega)⟩ ?_
    refine lv_fold (y := (HM_suspend M (xs (6 * j + 1)) 1) 0 0) rfl ?_
    refine lv_iload F.1 F.2.1 dL_law_445 (lv_at hl 1 rfl) ?_
    refine lv_icmp_eq (tgt := 452) F.1 F.2.1 dL_law_447 (by decide) (fun c_1 => ?_) (fun c_1 => absurd (hs1.trans hk9.symm) c_1)
    refine lv_iload F.1 F.2.1 dL_law_452 (lv_at hl 1 rfl) ?_
    refine lv_if_ne (tgt := 476) F.1 F.2.1 dL_law_454 (by decide) (fun c_2 => ?_) (fun c_2 => ?_)
    · refine lv_goto (tgt := 1785) F.1 F.2.1 dL_law_476 (by decide) ?_
      refine W.widen (k := 50 + 8 * (j + 1)) (n := 3000 + 3033 * (j + 1)) (by omega) (by omega) ?_
      exact kk _ _ ls ⟨X1, Y1, AD1, ad, _, _, f1, w, hd1, hd2, congrFun (congrFun hA1 0) 0, hM1, hMm, hs3⟩ (lv_sub hl [2, 3, 4, 5, 6] rfl)
    · have hK0 := k0_suspend G (xs (6 * j + 1)) 1 (hk9.symm.trans c_2)
      refine lv_aload_n F.1 F.2.1 dL_law_457 rfl (lv_at hl 3 rfl) ?_
      refine lv_iconst (v := 0) F.1 F.2.1 dL_law_458 (by decide) ?_
      refine q_lald F w (un_l (un_r hd1 oneO_at)) (i := 0) (vp_in_nI (n := 0) (N := 1) (by decide) (by decide)) dL_law_459 ?_
      refine lv_iload F.1 F.2.1 dL_law_460 (lv_at hl 0 rfl) ?_
      refine lv_if_eq (tgt := 469) F.1 F.2.1 dL_law_462 (by decide) (fun c_3 => ?_) (fun c_3 => ?_)
      · refine lv_lconst (v := 0) F.1 F.2.1 dL_law_469 (by decide) ?_
        refine W.lcmp F.1 F.2.1 dL_law_470 ?_
        refine lv_if_eq (tgt := 476) F.1 F.2.1 dL_law_471 (by decide) (fun c_4 => ?_) (fun c_4 => absurd ((congrArg (fun z => lg_cmp z 0) (show f1 0 = 0 by rw [hv hK0, ← hs2 hK0, ← hb9, if_pos c_3])).trans (lgc0 _)) c_4)
        refine lv_goto (tgt := 1785) F.1 F.2.1 dL_law_476 (by decide) ?_
        refine W.widen (k := 50 + 8 * (j + 1)) (n := 3000 + 3033 * (j + 1)) (by omega) (by omega) ?_
        exact kk _ _ ls ⟨X1, Y1, AD1, ad, _, _, f1, w, hd1, hd2, congrFun (congrFun hA1 0) 0, hM1, hMm, hs3⟩ (lv_sub hl [2, 3, 4, 5, 6] rfl)
      · refine lv_lconst (v := 1) F.1 F.2.1 dL_law_465 (by decide) ?_
        refine lv_goto (tgt := 470) F.1 F.2.1 dL_law_466 (by decide) ?_
        refine W.lcmp F.1 F.2.1 dL_law_470 ?_
        refine lv_if_eq (tgt := 476) F.1 F.2.1 dL_law_471 (by decide) (fun c_4 => ?_) (fun c_4 => absurd ((congrArg (fun z => lg_cmp z 1) (show f1 0 = 1 by rw [hv hK0, ← hs2 hK0, ← hb9, if_neg c_3])).trans (lgc0 _)) c_4)
        refine lv_goto (tgt := 1785) F.1 F.2.1 dL_law_476 (by decide) ?_
        refine W.widen (k := 50 + 8 * (j + 1)) (n := 3000 + 3033 * (j + 1)) (by omega) (by omega) ?_
        exact kk _ _ ls ⟨X1, Y1, AD1, ad, _, _, f1, w, hd1, hd2, congrFun (congrFun hA1 0) 0, hM1, hMm, hs3⟩ (lv_sub hl [2, 3, 4, 5, 6] rfl)
set_option maxHeartbeats 4000000 in
set_option maxRecDepth 100000 in
theorem lk_rule (F : CallFix p m c cL_law 7 s #[Value.ref b] BIG RL) (hlf : l.stackTraces = false) (hR : Rstep9 R9) (hX : va_X b L xs s s.heap) (hbl : b < s.heap.size) (hbA : ¬ A b) (hL : L ≤ 3072) {j : Nat} (hj : j < 512) (h6 : 6 * j + 6 ≤ L) {H : Heap} {locs : List Loc} {ls : Array Slot} (hI : LInv9 D cy A s x0 m0 o R9 j H locs) (hl : lv_has ls 7 [(4, .int (nI (6 * j))), (3, .ref o), (2, .ref m0), (1, .ref x0), (0, .ref b)])
    (kk : ∀ (H1 : Heap) (locs1 : List Loc) (ls1 : Array Slot), LInv9 D cy A s x0 m0 o R9 (j + 1) H1 locs1 → lv_has ls1 7 [(4, .int (nI (6 * j))), (3, .ref o), (2, .ref m0), (1, .ref x0), (0, .ref b)] → W p l e room_1 s m #[Value.ref b] below meth c H1 locs1 (50 + 8 * (j + 1)) (3000 + 3033 * (j + 1)) Q (F0 m 1785 ls1 [])) : W p l e room_1 s m #[Value.ref b] below meth c H locs (50 + 8 * j) (3000 + 3033 * j) Q (F0 m 479 ls []) := by
  obtain ⟨X, Y, AD, ad, G, M, f, w, hd1, hd2, hAD, hM, hMm, hRel⟩ := hI
  subst hAD
  obtain ⟨hI, hIM, hn9, hp9, hpM, hso, hrM⟩ := hR.1 j G M hRel
  have hn := hn9 hj
  obtain ⟨hs1, hs2, hs3⟩ := hR.2.2.2.2.2.2.2.1 j G M (xs (6 * j + 1)) (xs (6 * j + 2)) (xs (6 * j + 3)) (xs (6 * j + 4)) (xs (6 * j + 5)) hj hRel
  refine lv_aload_n F.1 F.2.1 dL_law_479 rfl (lv_at hl 3 rfl) ?_
  refine lv_aload_n F.1 F.2.1 dL_law_480 rfl (lv_at hl 4 rfl) ?_
  refine lv_iload F.1 F.2.1 dL_law_481 (lv_at hl 0 rfl) ?_
  refine lv_iconst (v := 1) F.1 F.2.1 dL_law_483 (by decide) ?_
  refine lv_iadd F.1 F.2.1 dL_law_484 ?_
  refine lv_fold (y := nI (6 * j + 1)) (nI_add (6 * j) 1) ?_
  refine va_sld F.1 F.2.1 hX hbl hbA w.2.2.2.1 (vp_in_nI (show 6 * j + 1 < L by omega) (by omega)) dL_law_485 ?_
  refine lv_fold (y := xs (6 * j + 1)) (by rw [nI_clamp (by omega)]) ?_
  refine lv_aload_n F.1 F.2.1 dL_law_486 rfl (lv_at hl 4 rfl) ?_
  refine lv_iload F.1 F.2.1 dL_law_487 (lv_at hl 0 rfl) ?_
  refine lv_iconst (v := 2) F.1 F.2.1 dL_law_489 (by decide) ?_
  refine lv_iadd F.1 F.2.1 dL_law_490 ?_
  refine lv_fold (y := nI (6 * j + 2)) (nI_add (6 * j) 2) ?_
  refine va_sld F.1 F.2.1 hX hbl hbA w.2.2.2.1 (vp_in_nI (show 6 * j + 2 < L by omega) (by omega)) dL_law_491 ?_
  refine lv_fold (y := xs (6 * j + 2)) (by rw [nI_clamp (by omega)]) ?_
  refine lv_aload_n F.1 F.2.1 dL_law_492 rfl (lv_at hl 4 rfl) ?_
  refine lv_iload F.1 F.2.1 dL_law_493 (lv_at hl 0 rfl) ?_
  refine lv_iconst (v := 3) F.1 F.2.1 dL_law_495 (by decide) ?_
  refine lv_iadd F.1 F.2.1 dL_law_496 ?_
  refine lv_fold (y := nI (6 * j + 3)) (nI_add (6 * j) 3) ?_
  refine va_sld F.1 F.2.1 hX hbl hbA w.2.2.2.1 (vp_in_nI (show 6 * j + 3 < L by omega) (by omega)) dL_law_497 ?_
  refine lv_fold (y := xs (6 * j + 3)) (by rw [nI_clamp (by omega)]) ?_
  refine lv_aload_n F.1 F.2.1 dL_law_498 rfl (lv_at hl 4 rfl) ?_
  refine lv_iload F.1 F.2.1 dL_law_499 (lv_at hl 0 rfl) ?_
  refine lv_iconst (v := 4) F.1 F.2.1 dL_law_501 (by decide) ?_
  refine lv_iadd F.1 F.2.1 dL_law_502 ?_
  refine lv_fold (y := nI (6 * j + 4)) (nI_add (6 * j) 4) ?_
  refine va_sld F.1 F.2.1 hX hbl hbA w.2.2.2.1 (vp_in_nI (show 6 * j + 4 < L by omega) (by omega)) dL_law_503 ?_
  refine lv_fold (y := xs (6 * j + 4)) (by rw [nI_clamp (by omega)]) ?_
  refine lv_aload_n F.1 F.2.1 dL_law_504 rfl (lv_at hl 4 rfl) ?_
  refine lv_iload F.1 F.2.1 dL_law_505 (lv_at hl 0 rfl) ?_
  refine lv_iconst (v := 5) F.1 F.2.1 dL_law_507 (by decide) ?_
  refine lv_iadd F.1 F.2.1 dL_law_508 ?_
  refine lv_fold (y := nI (6 * j + 5)) (nI_add (6 * j) 5) ?_
  refine va_sld F.1 F.2.1 hX hbl hbA w.2.2.2.1 (vp_in_nI (show 6 * j + 5 < L by omega) (by omega)) dL_law_509 ?_
  refine lv_fold (y := xs (6 * j + 5)) (by rw [nI_clamp (by omega)]) ?_
  refine lv_aload_n F.1 F.2.1 dL_law_510 rfl (lv_at hl 1 rfl) ?_
  refine q_uSi (rest := []) F w hd2 kW_rule hdW_rule (c_L_rule l D cy _ X AD G hM hI f hd1 (xs (6 * j + 1)) (xs (6 * j + 2)) (xs (6 * j + 3)) (xs (6 * j + 4)) (xs (6 * j + 5)) hlf) dL_law_511 rfl rfl hl.1 ⟨rfl, rfl, (Nat.le_of_ble_eq_true rfl), (Nat.le_of_ble_eq_true rfl)⟩ (Nat.le_of_ble_eq_true rfl) ⟨(show 50 + 8 * j + 2 ≤ 601024 by omega), (show 3000 + 3033 * j + 1006 ≤ 7293034 by omega)⟩ (fun k9 μ1 H locs hp hd2 w => ?_)
  obtain ⟨hk9, X1, AD1, f1, hμ, hd1, hA1, hM1, hv⟩ := hp
  subst hμ
  refine lv_istore (lv' := [(5, .int k9), (4, .int (nI (6 * j))), (3, .ref o), (2, .ref m0), (1, .ref (AD 0 0 0)), (0, .ref b)]) F.1 F.2.1 dL_law_514 hl (by decide) rfl (fun ls hl => ?_)
  refine lv_aload_n F.1 F.2.1 dL_law_516 rfl (lv_at hl 3 rfl) ?_
  refine lv_aload_n F.1 F.2.1 dL_law_517 rfl (lv_at hl 5 rfl) ?_
  refine lv_iload F.1 F.2.1 dL_law_518 (lv_at hl 1 rfl) ?_
  refine lv_iconst (v := 1) F.1 F.2.1 dL_law_520 (by decide) ?_
  refine lv_iadd F.1 F.2.1 dL_law_521 ?_
  refine lv_fold (y := nI (6 * j + 1)) (nI_add (6 * j) 1) ?_
  refine va_sld F.1 F.2.1 hX hbl hbA w.2.2.2.1 (vp_in_nI (show 6 * j + 1 < L by omega) (by omega)) dL_law_522 ?_
  refine lv_fold (y := xs (6 * j + 1)) (by rw [nI_clamp (by omega)]) ?_
  refine lv_aload_n F.1 F.2.1 dL_law_523 rfl (lv_at hl 5 rfl) ?_
  refine lv_iload F.1 F.2.1 dL_law_524 (lv_at hl 1 rfl) ?_
  refine lv_iconst (v := 2) F.1 F.2.1 dL_law_526 (by decide) ?_
  refine lv_iadd F.1 F.2.1 dL_law_527 ?_
  refine lv_fold (y := nI (6 * j + 2)) (nI_add (6 * j) 2) ?_
  refine va_sld F.1 F.2.1 hX hbl hbA w.2.2.2.1 (vp_in_nI (show 6 * j + 2 < L by omega) (by omega)) dL_law_528 ?_
  refine lv_fold (y := xs (6 * j + 2)) (by rw [nI_clamp (by omega)]) ?_
  refine lv_aload_n F.1 F.2.1 dL_law_529 rfl (lv_at hl 5 rfl) ?_
  refine lv_iload F.1 F.2.1 dL_law_530 (lv_at hl 1 rfl) ?_
  refine lv_iconst (v := 3) F.1 F.2.1 dL_law_532 (by decide) ?_
  refine lv_iadd F.1 F.2.1 dL_law_533 ?_
  refine lv_fold (y := nI (6 * j + 3)) (nI_add (6 * j) 3) ?_
  refine va_sld F.1 F.2.1 hX hbl hbA w.2.2.2.1 (vp_in_nI (show 6 * j + 3 < L by omega) (by omega)) dL_law_534 ?_
  refine lv_fold (y := xs (6 * j + 3)) (by rw [nI_clamp (by omega)]) ?_
  refine lv_aload_n F.1 F.2.1 dL_law_535 rfl (lv_at hl 5 rfl) ?_
  refine lv_iload F.1 F.2.1 dL_law_536 (lv_at hl 1 rfl) ?_
  refine lv_iconst (v := 4) F.1 F.2.1 dL_law_538 (by decide) ?_
  refine lv_iadd F.1 F.2.1 dL_law_539 ?_
  refine lv_fold (y := nI (6 * j + 4)) (nI_add (6 * j) 4) ?_
  refine va_sld F.1 F.2.1 hX hbl hbA w.2.2.2.1 (vp_in_nI (show 6 * j + 4 < L by omega) (by omega)) dL_law_540 ?_
  refine lv_fold (y := xs (6 * j + 4)) (by rw [nI_clamp (by omega)]) ?_
  refine lv_aload_n F.1 F.2.1 dL_law_541 rfl (lv_at hl 5 rfl) ?_
  refine lv_iload F.1 F.2.1 dL_law_542 (lv_at hl 1 rfl) ?_
  refine lv_iconst (v := 5) F.1 F.2.1 dL_law_544 (by decide) ?_
  refine lv_iadd F.1 F.2.1 dL_law_545 ?_
  refine lv_fold (y := nI (6 * j + 5)) (nI_add (6 * j) 5) ?_
  refine va_sld F.1 F.2.1 hX hbl hbA w.2.2.2.1 (vp_in_nI (show 6 * j + 5 < L by omega) (by omega)) dL_law_546 ?_
  refine lv_fold (y := xs (6 * j + 5)) (by rw [nI_clamp (by omega)]) ?_
  rw [un_comm hd2] at w
  refine q_uVi (rest := []) F w hd2.symm kV_L_122 hd_X7_rule (ci := 8) rfl (t_X7_rule l D cy _ _ m0 ad M hMm hIM (xs (6 * j + 1)) (xs (6 * j + 2)) (xs (6 * j + 3)) (xs (6 * j + 4)) (xs (6 * j + 5))) hMm.1 dL_law_547 rfl rfl hl.1 ⟨rfl, rfl, (Nat.le_of_ble_eq_true rfl), (Nat.le_of_ble_eq_true rfl)⟩ (Nat.le_of_ble_eq_true rfl) ⟨(show 50 + 8 * j + 2 + 0 ≤ 601024 by omega), (show 3000 + 3033 * j + 1006 + 0 ≤ 7293034 by omega)⟩ (fun b9 Y1 H locs hp hd3 w => ?_)
  obtain ⟨hb9, hMm⟩ := hp
  rw [un_comm hd3] at w
  have hd2 := hd3.symm
  refine lv_istore (lv' := [(6, .int b9), (5, .int k9), (4, .int (nI (6 * j))), (3, .ref o), (2, .ref m0), (1, .ref (AD 0 0 0)), (0, .ref b)]) F.1 F.2.1 dL_law_550 hl (by decide) rfl (fun ls hl => ?_)
  refine lv_aload_n F.1 F.2.1 dL_law_552 rfl (lv_at hl 4 rfl) ?_
  have hMu := repM_un hMm hd2
  refine q_rV (rest := []) F w kV_L_104 hd_X7_thrown (ci := 8) rfl (c_X7_thrown l D cy A _ m0 ad _ hMu) hMu.1 dL_law_553 rfl rfl hl.1 ⟨rfl, rfl, (Nat.le_of_ble_eq_true rfl), (Nat.le_of_ble_eq_true rfl)⟩ (Nat.le_of_ble_eq_true rfl) ⟨(show 50 + 8 * j + 2 + 0 ≤ 601024 by omega), (show 3000 + 3033 * j + 1006 + 0 ≤ 7293034 by omega)⟩ ?_
  refine lv_fold (y := (HM_rule M (xs (6 * j + 1)) (xs (6 * j + 2)) (xs (6 * j + 3)) (xs (6 * j + 4)) (xs (6 * j + 5))) 0 0) rfl ?_
  refine lv_iload F.1 F.2.1 dL_law_556 (lv_at hl 1 rfl) ?_
  refine lv_icmp_eq (tgt := 563) F.1 F.2.1 dL_law_558 (by decide) (fun c_1 => ?_) (fun c_1 => absurd (hs1.trans hk9.symm) c_1)
  refine lv_iload F.1 F.2.1 dL_law_563 (lv_at hl 1 rfl) ?_
  refine lv_if_ne (tgt := 580) F.1 F.2.1 dL_law_565 (by decide) (fun c_2 => ?_) (fun c_2 => ?_)
  · refine lv_goto (tgt := 1785) F.1 F.2.1 dL_law_580 (by decide) ?_
    refine W.widen (k := 50 + 8 * (j + 1)) (n := 3000 + 3033 * (j + 1)) (by omega) (by omega) ?_
    exact kk _ _ ls ⟨X1, Y1, AD1, ad, _, _, f1, w, hd1, hd2, congrFun (congrFun hA1 0) 0, hM1, hMm, hs3⟩ (lv_sub hl [2, 3, 4, 5, 6] rfl)
  · have hK0 := k0_rule G (xs (6 * j + 1)) (xs (6 * j + 2)) (xs (6 * j + 3)) (xs (6 * j + 4)) (xs (6 * j + 5)) (hk9.symm.trans c_2)
    refine lv_aload_n F.1 F.2.1 dL_law_568 rfl (lv_at hl 3 rfl) ?_
    refine lv_iconst (v := 0) F.1 F.2.1 dL_law_569 (by decide) ?_
    refine q_lald F w (un_l (un_r hd1 oneO_at)) (i := 0) (vp_in_nI (n := 0) (N := 1) (by decide) (by decide)) dL_law_570 ?_
    refine lv_iload F.1 F.2.1 dL_law_571 (lv_at hl 0 rfl) ?_
    refine lv_i2l F.1 F.2.1 dL_law_573 rfl ?_
    refine W.lcmp F.1 F.2.1 dL_law_574 ?_
    refine lv_if_eq (tgt := 580) F.1 F.2.1 dL_law_575 (by decide) (fun c_4 => ?_) (fun c_4 => absurd ((congrArg (fun z => lg_cmp z b9.toInt64) (show f1 0 = b9.toInt64 by rw [hv hK0, hb9, hs2 hK0])).trans (lgc0 _)) c_4)
    refine lv_goto (tgt := 1785) F.1 F.2.1 dL_law_580 (by decide) ?_
    refine W.widen (k := 50 + 8 * (j + 1)) (n := 3000 + 3033 * (j + 1)) (by omega) (by omega) ?_
    exact kk _ _ ls ⟨X1, Y1, AD1, ad, _, _, f1, w, hd1, hd2, congrFun (congrFun hA1 0) 0, hM1, hMm, hs3⟩ (lv_sub hl [2, 3, 4, 5, 6] rfl)
set_option maxHeartbeats 4000000 in
set_option maxRecDepth 100000 in
theorem lk_issue (F : CallFix p m c cL_law 7 s #[Value.ref b] BIG RL) (hlf : l.stackTraces = false) (hR : Rstep9 R9) (hX : va_X b L xs s s.heap) (hbl : b < s.heap.size) (hbA : ¬ A b) (hL : L ≤ 3072) {j : Nat} (hj : j < 512) (h6 : 6 * j + 6 ≤ L) {H : Heap} {locs : List Loc} {ls : Array Slot} (hI : LInv9 D cy A s x0 m0 o R9 j H locs) (hl : lv_has ls 7 [(4, .int (nI (6 * j))), (3, .ref o), (2, .ref m0), (1, .ref x0), (0, .ref b)])
    (kk : ∀ (H1 : Heap) (locs1 : List Loc) (ls1 : Array Slot), LInv9 D cy A s x0 m0 o R9 (j + 1) H1 locs1 → lv_has ls1 7 [(4, .int (nI (6 * j))), (3, .ref o), (2, .ref m0), (1, .ref x0), (0, .ref b)] → W p l e room_1 s m #[Value.ref b] below meth c H1 locs1 (50 + 8 * (j + 1)) (3000 + 3033 * (j + 1)) Q (F0 m 1785 ls1 [])) : W p l e room_1 s m #[Value.ref b] below meth c H locs (50 + 8 * j) (3000 + 3033 * j) Q (F0 m 583 ls []) := by
  obtain ⟨X, Y, AD, ad, G, M, f, w, hd1, hd2, hAD, hM, hMm, hRel⟩ := hI
  subst hAD
  obtain ⟨hI, hIM, hn9, hp9, hpM, hso, hrM⟩ := hR.1 j G M hRel
  have hn := hn9 hj
  obtain ⟨hs1, hs2, hs3⟩ := hR.2.2.2.2.2.2.2.2.1 j G M (xs (6 * j + 1)) (xs (6 * j + 2)) (xs (6 * j + 3)) hj hRel
  refine lv_aload_n F.1 F.2.1 dL_law_583 rfl (lv_at hl 3 rfl) ?_
  refine lv_aload_n F.1 F.2.1 dL_law_584 rfl (lv_at hl 4 rfl) ?_
  refine lv_iload F.1 F.2.1 dL_law_585 (lv_at hl 0 rfl) ?_
  refine lv_iconst (v := 1) F.1 F.2.1 dL_law_587 (by decide) ?_
  refine lv_iadd F.1 F.2.1 dL_law_588 ?_
  refine lv_fold (y := nI (6 * j + 1)) (nI_add (6 * j) 1) ?_
  refine va_sld F.1 F.2.1 hX hbl hbA w.2.2.2.1 (vp_in_nI (show 6 * j + 1 < L by omega) (by omega)) dL_law_589 ?_
  refine lv_fold (y := xs (6 * j + 1)) (by rw [nI_clamp (by omega)]) ?_
  refine lv_aload_n F.1 F.2.1 dL_law_590 rfl (lv_at hl 4 rfl) ?_
  refine lv_iload F.1 F.2.1 dL_law_591 (lv_at hl 0 rfl) ?_
  refine lv_iconst (v := 2) F.1 F.2.1 dL_law_593 (by decide) ?_
  refine lv_iadd F.1 F.2.1 dL_law_594 ?_
  refine lv_fold (y := nI (6 * j + 2)) (nI_add (6 * j) 2) ?_
  refine va_sld F.1 F.2.1 hX hbl hbA w.2.2.2.1 (vp_in_nI (show 6 * j + 2 < L by omega) (by omega)) dL_law_595 ?_
  refine lv_fold (y := xs (6 * j + 2)) (by rw [nI_clamp (by omega)]) ?_
  refine lv_aload_n F.1 F.2.1 dL_law_596 rfl (lv_at hl 4 rfl) ?_
  refine lv_iload F.1 F.2.1 dL_law_597 (lv_at hl 0 rfl) ?_
  refine lv_iconst (v := 3) F.1 F.2.1 dL_law_599 (by decide) ?_
  refine lv_iadd F.1 F.2.1 dL_law_600 ?_
  refine lv_fold (y := nI (6 * j + 3)) (nI_add (6 * j) 3) ?_
  refine va_sld F.1 F.2.1 hX hbl hbA w.2.2.2.1 (vp_in_nI (show 6 * j + 3 < L by omega) (by omega)) dL_law_601 ?_
  refine lv_fold (y := xs (6 * j + 3)) (by rw [nI_clamp (by omega)]) ?_
  refine lv_aload_n F.1 F.2.1 dL_law_602 rfl (lv_at hl 1 rfl) ?_
  refine q_uSi (rest := []) F w hd2 kW_issue hdW_issue (c_L_issue l D cy _ X AD G hM hI f hd1 (xs (6 * j + 1)) (xs (6 * j + 2)) (xs (6 * j + 3)) hlf) dL_law_603 rfl rfl hl.1 ⟨rfl, rfl, (Nat.le_of_ble_eq_true rfl), (Nat.le_of_ble_eq_true rfl)⟩ (Nat.le_of_ble_eq_true rfl) ⟨(show 50 + 8 * j + 1 ≤ 601024 by omega), (show 3000 + 3033 * j + 6 ≤ 7293034 by omega)⟩ (fun k9 μ1 H locs hp hd2 w => ?_)
  obtain ⟨hk9, X1, AD1, f1, hμ, hd1, hA1, hM1, hv⟩ := hp
  subst hμ
  refine lv_istore (lv' := [(5, .int k9), (4, .int (nI (6 * j))), (3, .ref o), (2, .ref m0), (1, .ref (AD 0 0 0)), (0, .ref b)]) F.1 F.2.1 dL_law_606 hl (by decide) rfl (fun ls hl => ?_)
  refine lv_aload_n F.1 F.2.1 dL_law_608 rfl (lv_at hl 3 rfl) ?_
  refine lv_aload_n F.1 F.2.1 dL_law_609 rfl (lv_at hl 5 rfl) ?_
  refine lv_iload F.1 F.2.1 dL_law_610 (lv_at hl 1 rfl) ?_
  refine lv_iconst (v := 1) F.1 F.2.1 dL_law_612 (by decide) ?_
  refine lv_iadd F.1 F.2.1 dL_law_613 ?_
  refine lv_fold (y := nI (6 * j + 1)) (nI_add (6 * j) 1) ?_
  refine va_sld F.1 F.2.1 hX hbl hbA w.2.2.2.1 (vp_in_nI (show 6 * j + 1 < L by omega) (by omega)) dL_law_614 ?_
  refine lv_fold (y := xs (6 * j + 1)) (by rw [nI_clamp (by omega)]) ?_
  refine lv_aload_n F.1 F.2.1 dL_law_615 rfl (lv_at hl 5 rfl) ?_
  refine lv_iload F.1 F.2.1 dL_law_616 (lv_at hl 1 rfl) ?_
  refine lv_iconst (v := 2) F.1 F.2.1 dL_law_618 (by decide) ?_
  refine lv_iadd F.1 F.2.1 dL_law_619 ?_
  refine lv_fold (y := nI (6 * j + 2)) (nI_add (6 * j) 2) ?_
  refine va_sld F.1 F.2.1 hX hbl hbA w.2.2.2.1 (vp_in_nI (show 6 * j + 2 < L by omega) (by omega)) dL_law_620 ?_
  refine lv_fold (y := xs (6 * j + 2)) (by rw [nI_clamp (by omega)]) ?_
  refine lv_aload_n F.1 F.2.1 dL_law_621 rfl (lv_at hl 5 rfl) ?_
  refine lv_iload F.1 F.2.1 dL_law_622 (lv_at hl 1 rfl) ?_
  refine lv_iconst (v := 3) F.1 F.2.1 dL_law_624 (by decide) ?_
  refine lv_iadd F.1 F.2.1 dL_law_625 ?_
  refine lv_fold (y := nI (6 * j + 3)) (nI_add (6 * j) 3) ?_
  refine va_sld F.1 F.2.1 hX hbl hbA w.2.2.2.1 (vp_in_nI (show 6 * j + 3 < L by omega) (by omega)) dL_law_626 ?_
  refine lv_fold (y := xs (6 * j + 3)) (by rw [nI_clamp (by omega)]) ?_
  rw [un_comm hd2] at w
  refine q_uVi (rest := []) F w hd2.symm kV_L_125 hd_X7_issue (ci := 8) rfl (t_X7_issue l D cy _ _ m0 ad M hMm hIM (xs (6 * j + 1)) (xs (6 * j + 2)) (xs (6 * j + 3))) hMm.1 dL_law_627 rfl rfl hl.1 ⟨rfl, rfl, (Nat.le_of_ble_eq_true rfl), (Nat.le_of_ble_eq_true rfl)⟩ (Nat.le_of_ble_eq_true rfl) ⟨(show 50 + 8 * j + 1 + 0 ≤ 601024 by omega), (show 3000 + 3033 * j + 6 + 0 ≤ 7293034 by omega)⟩ (fun b9 Y1 H locs hp hd3 w => ?_)
  obtain ⟨hb9, hMm⟩ := hp
  rw [un_comm hd3] at w
  have hd2 := hd3.symm
  refine lv_istore (lv' := [(6, .int b9), (5, .int k9), (4, .int (nI (6 * j))), (3, .ref o), (2, .ref m0), (1, .ref (AD 0 0 0)), (0, .ref b)]) F.1 F.2.1 dL_law_630 hl (by decide) rfl (fun ls hl => ?_)
  refine lv_aload_n F.1 F.2.1 dL_law_632 rfl (lv_at hl 4 rfl) ?_
  have hMu := repM_un hMm hd2
  refine q_rV (rest := []) F w kV_L_104 hd_X7_thrown (ci := 8) rfl (c_X7_thrown l D cy A _ m0 ad _ hMu) hMu.1 dL_law_633 rfl rfl hl.1 ⟨rfl, rfl, (Nat.le_of_ble_eq_true rfl), (Nat.le_of_ble_eq_true rfl)⟩ (Nat.le_of_ble_eq_true rfl) ⟨(show 50 + 8 * j + 1 + 0 ≤ 601024 by omega), (show 3000 + 3033 * j + 6 + 0 ≤ 7293034 by omega)⟩ ?_
  refine lv_fold (y := (HM_issue M (xs (6 * j + 1)) (xs (6 * j + 2)) (xs (6 * j + 3))) 0 0) rfl ?_
  refine lv_iload F.1 F.2.1 dL_law_636 (lv_at hl 1 rfl) ?_
  refine lv_icmp_eq (tgt := 643) F.1 F.2.1 dL_law_638 (by decide) (fun c_1 => ?_) (fun c_1 => absurd (hs1.trans hk9.symm) c_1)
  refine lv_iload F.1 F.2.1 dL_law_643 (lv_at hl 1 rfl) ?_
  refine lv_if_ne (tgt := 660) F.1 F.2.1 dL_law_645 (by decide) (fun c_2 => ?_) (fun c_2 => ?_)
  · refine lv_goto (tgt := 1785) F.1 F.2.1 dL_law_660 (by decide) ?_
    refine W.widen (k := 50 + 8 * (j + 1)) (n := 3000 + 3033 * (j + 1)) (by omega) (by omega) ?_
    exact kk _ _ ls ⟨X1, Y1, AD1, ad, _, _, f1, w, hd1, hd2, congrFun (congrFun hA1 0) 0, hM1, hMm, hs3⟩ (lv_sub hl [2, 3, 4, 5, 6] rfl)
  · have hK0 := k0_issue G (xs (6 * j + 1)) (xs (6 * j + 2)) (xs (6 * j + 3)) (hk9.symm.trans c_2)
    refine lv_aload_n F.1 F.2.1 dL_law_648 rfl (lv_at hl 3 rfl) ?_
    refine lv_iconst (v := 0) F.1 F.2.1 dL_law_649 (by decide) ?_
    refine q_lald F w (un_l (un_r hd1 oneO_at)) (i := 0) (vp_in_nI (n := 0) (N := 1) (by decide) (by decide)) dL_law_650 ?_
    refine lv_iload F.1 F.2.1 dL_law_651 (lv_at hl 0 rfl) ?_
    refine lv_i2l F.1 F.2.1 dL_law_653 rfl ?_
    refine W.lcmp F.1 F.2.1 dL_law_654 ?_
    refine lv_if_eq (tgt := 660) F.1 F.2.1 dL_law_655 (by decide) (fun c_4 => ?_) (fun c_4 => absurd ((congrArg (fun z => lg_cmp z b9.toInt64) (show f1 0 = b9.toInt64 by rw [hv hK0, hb9, hs2 hK0])).trans (lgc0 _)) c_4)
    refine lv_goto (tgt := 1785) F.1 F.2.1 dL_law_660 (by decide) ?_
    refine W.widen (k := 50 + 8 * (j + 1)) (n := 3000 + 3033 * (j + 1)) (by omega) (by omega) ?_
    exact kk _ _ ls ⟨X1, Y1, AD1, ad, _, _, f1, w, hd1, hd2, congrFun (congrFun hA1 0) 0, hM1, hMm, hs3⟩ (lv_sub hl [2, 3, 4, 5, 6] rfl)
set_option maxHeartbeats 4000000 in
set_option maxRecDepth 100000 in
theorem lk_endorse (F : CallFix p m c cL_law 7 s #[Value.ref b] BIG RL) (hlf : l.stackTraces = false) (hR : Rstep9 R9) (hX : va_X b L xs s s.heap) (hbl : b < s.heap.size) (hbA : ¬ A b) (hL : L ≤ 3072) {j : Nat} (hj : j < 512) (h6 : 6 * j + 6 ≤ L) {H : Heap} {locs : List Loc} {ls : Array Slot} (hI : LInv9 D cy A s x0 m0 o R9 j H locs) (hl : lv_has ls 7 [(4, .int (nI (6 * j))), (3, .ref o), (2, .ref m0), (1, .ref x0), (0, .ref b)])
    (kk : ∀ (H1 : Heap) (locs1 : List Loc) (ls1 : Array Slot), LInv9 D cy A s x0 m0 o R9 (j + 1) H1 locs1 → lv_has ls1 7 [(4, .int (nI (6 * j))), (3, .ref o), (2, .ref m0), (1, .ref x0), (0, .ref b)] → W p l e room_1 s m #[Value.ref b] below meth c H1 locs1 (50 + 8 * (j + 1)) (3000 + 3033 * (j + 1)) Q (F0 m 1785 ls1 [])) : W p l e room_1 s m #[Value.ref b] below meth c H locs (50 + 8 * j) (3000 + 3033 * j) Q (F0 m 663 ls []) := by
  obtain ⟨X, Y, AD, ad, G, M, f, w, hd1, hd2, hAD, hM, hMm, hRel⟩ := hI
  subst hAD
  obtain ⟨hI, hIM, hn9, hp9, hpM, hso, hrM⟩ := hR.1 j G M hRel
  have hn := hn9 hj
  obtain ⟨hs1, hs2, hs3⟩ := hR.2.2.2.2.2.2.2.2.2.1 j G M (xs (6 * j + 1)) (xs (6 * j + 2)) hj hRel
  refine lv_aload_n F.1 F.2.1 dL_law_663 rfl (lv_at hl 3 rfl) ?_
  refine lv_aload_n F.1 F.2.1 dL_law_664 rfl (lv_at hl 4 rfl) ?_
  refine lv_iload F.1 F.2.1 dL_law_665 (lv_at hl 0 rfl) ?_
  refine lv_iconst (v := 1) F.1 F.2.1 dL_law_667 (by decide) ?_
  refine lv_iadd F.1 F.2.1 dL_law_668 ?_
  refine lv_fold (y := nI (6 * j + 1)) (nI_add (6 * j) 1) ?_
  refine va_sld F.1 F.2.1 hX hbl hbA w.2.2.2.1 (vp_in_nI (show 6 * j + 1 < L by omega) (by omega)) dL_law_669 ?_
  refine lv_fold (y := xs (6 * j + 1)) (by rw [nI_clamp (by omega)]) ?_
  refine lv_aload_n F.1 F.2.1 dL_law_670 rfl (lv_at hl 4 rfl) ?_
  refine lv_iload F.1 F.2.1 dL_law_671 (lv_at hl 0 rfl) ?_
  refine lv_iconst (v := 2) F.1 F.2.1 dL_law_673 (by decide) ?_
  refine lv_iadd F.1 F.2.1 dL_law_674 ?_
  refine lv_fold (y := nI (6 * j + 2)) (nI_add (6 * j) 2) ?_
  refine va_sld F.1 F.2.1 hX hbl hbA w.2.2.2.1 (vp_in_nI (show 6 * j + 2 < L by omega) (by omega)) dL_law_675 ?_
  refine lv_fold (y := xs (6 * j + 2)) (by rw [nI_clamp (by omega)]) ?_
  refine lv_aload_n F.1 F.2.1 dL_law_676 rfl (lv_at hl 1 rfl) ?_
  refine q_uSi (rest := []) F w hd2 kW_endorse hdW_endorse (c_L_endorse l D cy _ X AD G hM hI f hd1 (xs (6 * j + 1)) (xs (6 * j + 2)) hlf) dL_law_677 rfl rfl hl.1 ⟨rfl, rfl, (Nat.le_of_ble_eq_true rfl), (Nat.le_of_ble_eq_true rfl)⟩ (Nat.le_of_ble_eq_true rfl) ⟨(show 50 + 8 * j + 1 ≤ 601024 by omega), (show 3000 + 3033 * j + 6 ≤ 7293034 by omega)⟩ (fun k9 μ1 H locs hp hd2 w => ?_)
  obtain ⟨hk9, X1, AD1, f1, hμ, hd1, hA1, hM1, hv⟩ := hp
  subst hμ
  refine lv_istore (lv' := [(5, .int k9), (4, .int (nI (6 * j))), (3, .ref o), (2, .ref m0), (1, .ref (AD 0 0 0)), (0, .ref b)]) F.1 F.2.1 dL_law_680 hl (by decide) rfl (fun ls hl => ?_)
  refine lv_aload_n F.1 F.2.1 dL_law_682 rfl (lv_at hl 3 rfl) ?_
  refine lv_aload_n F.1 F.2.1 dL_law_683 rfl (lv_at hl 5 rfl) ?_
  refine lv_iload F.1 F.2.1 dL_law_684 (lv_at hl 1 rfl) ?_
  refine lv_iconst (v := 1) F.1 F.2.1 dL_law_686 (by decide) ?_
  refine lv_iadd F.1 F.2.1 dL_law_687 ?_
  refine lv_fold (y := nI (6 * j + 1)) (nI_add (6 * j) 1) ?_
  refine va_sld F.1 F.2.1 hX hbl hbA w.2.2.2.1 (vp_in_nI (show 6 * j + 1 < L by omega) (by omega)) dL_law_688 ?_
  refine lv_fold (y := xs (6 * j + 1)) (by rw [nI_clamp (by omega)]) ?_
  refine lv_aload_n F.1 F.2.1 dL_law_689 rfl (lv_at hl 5 rfl) ?_
  refine lv_iload F.1 F.2.1 dL_law_690 (lv_at hl 1 rfl) ?_
  refine lv_iconst (v := 2) F.1 F.2.1 dL_law_692 (by decide) ?_
  refine lv_iadd F.1 F.2.1 dL_law_693 ?_
  refine lv_fold (y := nI (6 * j + 2)) (nI_add (6 * j) 2) ?_
  refine va_sld F.1 F.2.1 hX hbl hbA w.2.2.2.1 (vp_in_nI (show 6 * j + 2 < L by omega) (by omega)) dL_law_694 ?_
  refine lv_fold (y := xs (6 * j + 2)) (by rw [nI_clamp (by omega)]) ?_
  rw [un_comm hd2] at w
  refine q_uVi (rest := []) F w hd2.symm kV_L_129 hd_X7_endorse (ci := 8) rfl (t_X7_endorse l D cy _ _ m0 ad M hMm hIM (xs (6 * j + 1)) (xs (6 * j + 2))) hMm.1 dL_law_695 rfl rfl hl.1 ⟨rfl, rfl, (Nat.le_of_ble_eq_true rfl), (Nat.le_of_ble_eq_true rfl)⟩ (Nat.le_of_ble_eq_true rfl) ⟨(show 50 + 8 * j + 1 + 0 ≤ 601024 by omega), (show 3000 + 3033 * j + 6 + 0 ≤ 7293034 by omega)⟩ (fun b9 Y1 H locs hp hd3 w => ?_)
  obtain ⟨hb9, hMm⟩ := hp
  rw [un_comm hd3] at w
  have hd2 := hd3.symm
  refine lv_istore (lv' := [(6, .int b9), (5, .int k9), (4, .int (nI (6 * j))), (3, .ref o), (2, .ref m0), (1, .ref (AD 0 0 0)), (0, .ref b)]) F.1 F.2.1 dL_law_698 hl (by decide) rfl (fun ls hl => ?_)
  refine lv_aload_n F.1 F.2.1 dL_law_700 rfl (lv_at hl 4 rfl) ?_
  have hMu := repM_un hMm hd2
  refine q_rV (rest := []) F w kV_L_104 hd_X7_thrown (ci := 8) rfl (c_X7_thrown l D cy A _ m0 ad _ hMu) hMu.1 dL_law_701 rfl rfl hl.1 ⟨rfl, rfl, (Nat.le_of_ble_eq_true rfl), (Nat.le_of_ble_eq_true rfl)⟩ (Nat.le_of_ble_eq_true rfl) ⟨(show 50 + 8 * j + 1 + 0 ≤ 601024 by omega), (show 3000 + 3033 * j + 6 + 0 ≤ 7293034 by omega)⟩ ?_
  refine lv_fold (y := (HM_endorse M (xs (6 * j + 1)) (xs (6 * j + 2))) 0 0) rfl ?_
  refine lv_iload F.1 F.2.1 dL_law_704 (lv_at hl 1 rfl) ?_
  refine lv_icmp_eq (tgt := 711) F.1 F.2.1 dL_law_706 (by decide) (fun c_1 => ?_) (fun c_1 => absurd (hs1.trans hk9.symm) c_1)
  refine lv_iload F.1 F.2.1 dL_law_711 (lv_at hl 1 rfl) ?_
  refine lv_if_ne (tgt := 728) F.1 F.2.1 dL_law_713 (by decide) (fun c_2 => ?_) (fun c_2 => ?_)
  · refine lv_goto (tgt := 1785) F.1 F.2.1 dL_law_728 (by decide) ?_
    refine W.widen (k := 50 + 8 * (j + 1)) (n := 3000 + 3033 * (j + 1)) (by omega) (by omega) ?_
    exact kk _ _ ls ⟨X1, Y1, AD1, ad, _, _, f1, w, hd1, hd2, congrFun (congrFun hA1 0) 0, hM1, hMm, hs3⟩ (lv_sub hl [2, 3, 4, 5, 6] rfl)
  · have hK0 := k0_endorse G (xs (6 * j + 1)) (xs (6 * j + 2)) (hk9.symm.trans c_2)
    refine lv_aload_n F.1 F.2.1 dL_law_716 rfl (lv_at hl 3 rfl) ?_
    refine lv_iconst (v := 0) F.1 F.2.1 dL_law_717 (by decide) ?_
    refine q_lald F w (un_l (un_r hd1 oneO_at)) (i := 0) (vp_in_nI (n := 0) (N := 1) (by decide) (by decide)) dL_law_718 ?_
    refine lv_iload F.1 F.2.1 dL_law_719 (lv_at hl 0 rfl) ?_
    refine lv_i2l F.1 F.2.1 dL_law_721 rfl ?_
    refine W.lcmp F.1 F.2.1 dL_law_722 ?_
    refine lv_if_eq (tgt := 728) F.1 F.2.1 dL_law_723 (by decide) (fun c_4 => ?_) (fun c_4 => absurd ((congrArg (fun z => lg_cmp z b9.toInt64) (show f1 0 = b9.toInt64 by rw [hv hK0, hb9, hs2 hK0])).trans (lgc0 _)) c_4)
    refine lv_goto (tgt := 1785) F.1 F.2.1 dL_law_728 (by decide) ?_
    refine W.widen (k := 50 + 8 * (j + 1)) (n := 3000 + 3033 * (j + 1)) (by omega) (by omega) ?_
    exact kk _ _ ls ⟨X1, Y1, AD1, ad, _, _, f1, w, hd1, hd2, congrFun (congrFun hA1 0) 0, hM1, hMm, hs3⟩ (lv_sub hl [2, 3, 4, 5, 6] rfl)
set_option maxHeartbeats 4000000 in
set_option maxRecDepth 100000 in
theorem lk_calls (F : CallFix p m c cL_law 7 s #[Value.ref b] BIG RL) (hlf : l.stackTraces = false) (hR : Rstep9 R9) (hX : va_X b L xs s s.heap) (hbl : b < s.heap.size) (hbA : ¬ A b) (hL : L ≤ 3072) {j : Nat} (hj : j < 512) (h6 : 6 * j + 6 ≤ L) {H : Heap} {locs : List Loc} {ls : Array Slot} (hI : LInv9 D cy A s x0 m0 o R9 j H locs) (hl : lv_has ls 7 [(4, .int (nI (6 * j))), (3, .ref o), (2, .ref m0), (1, .ref x0), (0, .ref b)])
    (kk : ∀ (H1 : Heap) (locs1 : List Loc) (ls1 : Array Slot), LInv9 D cy A s x0 m0 o R9 (j + 1) H1 locs1 → lv_has ls1 7 [(4, .int (nI (6 * j))), (3, .ref o), (2, .ref m0), (1, .ref x0), (0, .ref b)] → W p l e room_1 s m #[Value.ref b] below meth c H1 locs1 (50 + 8 * (j + 1)) (3000 + 3033 * (j + 1)) Q (F0 m 1785 ls1 [])) : W p l e room_1 s m #[Value.ref b] below meth c H locs (50 + 8 * j) (3000 + 3033 * j) Q (F0 m 731 ls []) := by
  obtain ⟨X, Y, AD, ad, G, M, f, w, hd1, hd2, hAD, hM, hMm, hRel⟩ := hI
  subst hAD
  obtain ⟨hI, hIM, hn9, hp9, hpM, hso, hrM⟩ := hR.1 j G M hRel
  have hn := hn9 hj
  obtain ⟨hs1, hs2, hs3⟩ := hR.2.2.2.2.2.2.2.2.2.2.1 j G M (xs (6 * j + 1)) (xs (6 * j + 2)) hj hRel
  refine lv_aload_n F.1 F.2.1 dL_law_731 rfl (lv_at hl 3 rfl) ?_
  refine lv_aload_n F.1 F.2.1 dL_law_732 rfl (lv_at hl 4 rfl) ?_
  refine lv_iload F.1 F.2.1 dL_law_733 (lv_at hl 0 rfl) ?_
  refine lv_iconst (v := 1) F.1 F.2.1 dL_law_735 (by decide) ?_
  refine lv_iadd F.1 F.2.1 dL_law_736 ?_
  refine lv_fold (y := nI (6 * j + 1)) (nI_add (6 * j) 1) ?_
  refine va_sld F.1 F.2.1 hX hbl hbA w.2.2.2.1 (vp_in_nI (show 6 * j + 1 < L by omega) (by omega)) dL_law_737 ?_
  refine lv_fold (y := xs (6 * j + 1)) (by rw [nI_clamp (by omega)]) ?_
  refine lv_aload_n F.1 F.2.1 dL_law_738 rfl (lv_at hl 4 rfl) ?_
  refine lv_iload F.1 F.2.1 dL_law_739 (lv_at hl 0 rfl) ?_
  refine lv_iconst (v := 2) F.1 F.2.1 dL_law_741 (by decide) ?_
  refine lv_iadd F.1 F.2.1 dL_law_742 ?_
  refine lv_fold (y := nI (6 * j + 2)) (nI_add (6 * j) 2) ?_
  refine va_sld F.1 F.2.1 hX hbl hbA w.2.2.2.1 (vp_in_nI (show 6 * j + 2 < L by omega) (by omega)) dL_law_743 ?_
  refine lv_fold (y := xs (6 * j + 2)) (by rw [nI_clamp (by omega)]) ?_
  refine lv_aload_n F.1 F.2.1 dL_law_744 rfl (lv_at hl 1 rfl) ?_
  refine q_uSi (rest := []) F w hd2 kW_calls hdW_calls (c_L_calls l D cy _ X AD G hM hI f hd1 (xs (6 * j + 1)) (xs (6 * j + 2)) hlf) dL_law_745 rfl rfl hl.1 ⟨rfl, rfl, (Nat.le_of_ble_eq_true rfl), (Nat.le_of_ble_eq_true rfl)⟩ (Nat.le_of_ble_eq_true rfl) ⟨(show 50 + 8 * j + 1 ≤ 601024 by omega), (show 3000 + 3033 * j + 6 ≤ 7293034 by omega)⟩ (fun k9 μ1 H locs hp hd2 w => ?_)
  obtain ⟨hk9, X1, AD1, f1, hμ, hd1, hA1, hM1, hv⟩ := hp
  subst hμ
  refine lv_istore (lv' := [(5, .int k9), (4, .int (nI (6 * j))), (3, .ref o), (2, .ref m0), (1, .ref (AD 0 0 0)), (0, .ref b)]) F.1 F.2.1 dL_law_748 hl (by decide) rfl (fun ls hl => ?_)
  refine lv_aload_n F.1 F.2.1 dL_law_750 rfl (lv_at hl 3 rfl) ?_
  refine lv_aload_n F.1 F.2.1 dL_law_751 rfl (lv_at hl 5 rfl) ?_
  refine lv_iload F.1 F.2.1 dL_law_752 (lv_at hl 1 rfl) ?_
  refine lv_iconst (v := 1) F.1 F.2.1 dL_law_754 (by decide) ?_
  refine lv_iadd F.1 F.2.1 dL_law_755 ?_
  refine lv_fold (y := nI (6 * j + 1)) (nI_add (6 * j) 1) ?_
  refine va_sld F.1 F.2.1 hX hbl hbA w.2.2.2.1 (vp_in_nI (show 6 * j + 1 < L by omega) (by omega)) dL_law_756 ?_
  refine lv_fold (y := xs (6 * j + 1)) (by rw [nI_clamp (by omega)]) ?_
  refine lv_aload_n F.1 F.2.1 dL_law_757 rfl (lv_at hl 5 rfl) ?_
  refine lv_iload F.1 F.2.1 dL_law_758 (lv_at hl 1 rfl) ?_
  refine lv_iconst (v := 2) F.1 F.2.1 dL_law_760 (by decide) ?_
  refine lv_iadd F.1 F.2.1 dL_law_761 ?_
  refine lv_fold (y := nI (6 * j + 2)) (nI_add (6 * j) 2) ?_
  refine va_sld F.1 F.2.1 hX hbl hbA w.2.2.2.1 (vp_in_nI (show 6 * j + 2 < L by omega) (by omega)) dL_law_762 ?_
  refine lv_fold (y := xs (6 * j + 2)) (by rw [nI_clamp (by omega)]) ?_
  rw [un_comm hd2] at w
  refine q_uVi (rest := []) F w hd2.symm kV_L_132 hd_X7_calls (ci := 8) rfl (t_X7_calls l D cy _ _ m0 ad M hMm hIM (xs (6 * j + 1)) (xs (6 * j + 2))) hMm.1 dL_law_763 rfl rfl hl.1 ⟨rfl, rfl, (Nat.le_of_ble_eq_true rfl), (Nat.le_of_ble_eq_true rfl)⟩ (Nat.le_of_ble_eq_true rfl) ⟨(show 50 + 8 * j + 1 + 0 ≤ 601024 by omega), (show 3000 + 3033 * j + 6 + 0 ≤ 7293034 by omega)⟩ (fun b9 Y1 H locs hp hd3 w => ?_)
  obtain ⟨hb9, hMm⟩ := hp
  rw [un_comm hd3] at w
  have hd2 := hd3.symm
  refine lv_istore (lv' := [(6, .int b9), (5, .int k9), (4, .int (nI (6 * j))), (3, .ref o), (2, .ref m0), (1, .ref (AD 0 0 0)), (0, .ref b)]) F.1 F.2.1 dL_law_766 hl (by decide) rfl (fun ls hl => ?_)
  refine lv_aload_n F.1 F.2.1 dL_law_768 rfl (lv_at hl 4 rfl) ?_
  have hMu := repM_un hMm hd2
  refine q_rV (rest := []) F w kV_L_104 hd_X7_thrown (ci := 8) rfl (c_X7_thrown l D cy A _ m0 ad _ hMu) hMu.1 dL_law_769 rfl rfl hl.1 ⟨rfl, rfl, (Nat.le_of_ble_eq_true rfl), (Nat.le_of_ble_eq_true rfl)⟩ (Nat.le_of_ble_eq_true rfl) ⟨(show 50 + 8 * j + 1 + 0 ≤ 601024 by omega), (show 3000 + 3033 * j + 6 + 0 ≤ 7293034 by omega)⟩ ?_
  refine lv_fold (y := (HM_calls M (xs (6 * j + 1)) (xs (6 * j + 2))) 0 0) rfl ?_
  refine lv_iload F.1 F.2.1 dL_law_772 (lv_at hl 1 rfl) ?_
  refine lv_icmp_eq (tgt := 779) F.1 F.2.1 dL_law_774 (by decide) (fun c_1 => ?_) (fun c_1 => absurd (hs1.trans hk9.symm) c_1)
  refine lv_iload F.1 F.2.1 dL_law_779 (lv_at hl 1 rfl) ?_
  refine lv_if_ne (tgt := 796) F.1 F.2.1 dL_law_781 (by decide) (fun c_2 => ?_) (fun c_2 => ?_)
  · refine lv_goto (tgt := 1785) F.1 F.2.1 dL_law_796 (by decide) ?_
    refine W.widen (k := 50 + 8 * (j + 1)) (n := 3000 + 3033 * (j + 1)) (by omega) (by omega) ?_
    exact kk _ _ ls ⟨X1, Y1, AD1, ad, _, _, f1, w, hd1, hd2, congrFun (congrFun hA1 0) 0, hM1, hMm, hs3⟩ (lv_sub hl [2, 3, 4, 5, 6] rfl)
  · have hK0 := k0_calls G (xs (6 * j + 1)) (xs (6 * j + 2)) (hk9.symm.trans c_2)
    refine lv_aload_n F.1 F.2.1 dL_law_784 rfl (lv_at hl 3 rfl) ?_
    refine lv_iconst (v := 0) F.1 F.2.1 dL_law_785 (by decide) ?_
    refine q_lald F w (un_l (un_r hd1 oneO_at)) (i := 0) (vp_in_nI (n := 0) (N := 1) (by decide) (by decide)) dL_law_786 ?_
    refine lv_iload F.1 F.2.1 dL_law_787 (lv_at hl 0 rfl) ?_
    refine lv_i2l F.1 F.2.1 dL_law_789 rfl ?_
    refine W.lcmp F.1 F.2.1 dL_law_790 ?_
    refine lv_if_eq (tgt := 796) F.1 F.2.1 dL_law_791 (by decide) (fun c_4 => ?_) (fun c_4 => absurd ((congrArg (fun z => lg_cmp z b9.toInt64) (show f1 0 = b9.toInt64 by rw [hv hK0, hb9, hs2 hK0])).trans (lgc0 _)) c_4)
    refine lv_goto (tgt := 1785) F.1 F.2.1 dL_law_796 (by decide) ?_
    refine W.widen (k := 50 + 8 * (j + 1)) (n := 3000 + 3033 * (j + 1)) (by omega) (by omega) ?_
    exact kk _ _ ls ⟨X1, Y1, AD1, ad, _, _, f1, w, hd1, hd2, congrFun (congrFun hA1 0) 0, hM1, hMm, hs3⟩ (lv_sub hl [2, 3, 4, 5, 6] rfl)
set_option maxHeartbeats 4000000 in
set_option maxRecDepth 100000 in
theorem lk_leaves (F : CallFix p m c cL_law 7 s #[Value.ref b] BIG RL) (hlf : l.stackTraces = false) (hR : Rstep9 R9) (hX : va_X b L xs s s.heap) (hbl : b < s.heap.size) (hbA : ¬ A b) (hL : L ≤ 3072) {j : Nat} (hj : j < 512) (h6 : 6 * j + 6 ≤ L) {H : Heap} {locs : List Loc} {ls : Array Slot} (hI : LInv9 D cy A s x0 m0 o R9 j H locs) (hl : lv_has ls 7 [(4, .int (nI (6 * j))), (3, .ref o), (2, .ref m0), (1, .ref x0), (0, .ref b)])
    (kk : ∀ (H1 : Heap) (locs1 : List Loc) (ls1 : Array Slot), LInv9 D cy A s x0 m0 o R9 (j + 1) H1 locs1 → lv_has ls1 7 [(4, .int (nI (6 * j))), (3, .ref o), (2, .ref m0), (1, .ref x0), (0, .ref b)] → W p l e room_1 s m #[Value.ref b] below meth c H1 locs1 (50 + 8 * (j + 1)) (3000 + 3033 * (j + 1)) Q (F0 m 1785 ls1 [])) : W p l e room_1 s m #[Value.ref b] below meth c H locs (50 + 8 * j) (3000 + 3033 * j) Q (F0 m 799 ls []) := by
  obtain ⟨X, Y, AD, ad, G, M, f, w, hd1, hd2, hAD, hM, hMm, hRel⟩ := hI
  subst hAD
  obtain ⟨hI, hIM, hn9, hp9, hpM, hso, hrM⟩ := hR.1 j G M hRel
  have hn := hn9 hj
  obtain ⟨hs1, hs2, hs3⟩ := hR.2.2.2.2.2.2.2.2.2.2.2.1 j G M (xs (6 * j + 1)) hj hRel
  refine lv_aload_n F.1 F.2.1 dL_law_799 rfl (lv_at hl 3 rfl) ?_
  refine lv_aload_n F.1 F.2.1 dL_law_800 rfl (lv_at hl 4 rfl) ?_
  refine lv_iload F.1 F.2.1 dL_law_801 (lv_at hl 0 rfl) ?_
  refine lv_iconst (v := 1) F.1 F.2.1 dL_law_803 (by decide) ?_
  refine lv_iadd F.1 F.2.1 dL_law_804 ?_
  refine lv_fold (y := nI (6 * j + 1)) (nI_add (6 * j) 1) ?_
  refine va_sld F.1 F.2.1 hX hbl hbA w.2.2.2.1 (vp_in_nI (show 6 * j + 1 < L by omega) (by omega)) dL_law_805 ?_
  refine lv_fold (y := xs (6 * j + 1)) (by rw [nI_clamp (by omega)]) ?_
  refine lv_aload_n F.1 F.2.1 dL_law_806 rfl (lv_at hl 1 rfl) ?_
  refine q_uSi (rest := []) F w hd2 kW_leaves hdW_leaves (c_L_leaves l D cy _ X AD G hM hI f hd1 (xs (6 * j + 1)) hp9 hlf) dL_law_807 rfl rfl hl.1 ⟨rfl, rfl, (Nat.le_of_ble_eq_true rfl), (Nat.le_of_ble_eq_true rfl)⟩ (Nat.le_of_ble_eq_true rfl) ⟨(show 50 + 8 * j + 1 ≤ 601024 by omega), (show 3000 + 3033 * j + 6 ≤ 7293034 by omega)⟩ (fun k9 μ1 H locs hp hd2 w => ?_)
  obtain ⟨hk9, X1, AD1, f1, hμ, hd1, hA1, hM1, hv⟩ := hp
  subst hμ
  refine lv_istore (lv' := [(5, .int k9), (4, .int (nI (6 * j))), (3, .ref o), (2, .ref m0), (1, .ref (AD 0 0 0)), (0, .ref b)]) F.1 F.2.1 dL_law_810 hl (by decide) rfl (fun ls hl => ?_)
  refine lv_aload_n F.1 F.2.1 dL_law_812 rfl (lv_at hl 3 rfl) ?_
  refine lv_aload_n F.1 F.2.1 dL_law_813 rfl (lv_at hl 5 rfl) ?_
  refine lv_iload F.1 F.2.1 dL_law_814 (lv_at hl 1 rfl) ?_
  refine lv_iconst (v := 1) F.1 F.2.1 dL_law_816 (by decide) ?_
  refine lv_iadd F.1 F.2.1 dL_law_817 ?_
  refine lv_fold (y := nI (6 * j + 1)) (nI_add (6 * j) 1) ?_
  refine va_sld F.1 F.2.1 hX hbl hbA w.2.2.2.1 (vp_in_nI (show 6 * j + 1 < L by omega) (by omega)) dL_law_818 ?_
  refine lv_fold (y := xs (6 * j + 1)) (by rw [nI_clamp (by omega)]) ?_
  rw [un_comm hd2] at w
  refine q_uVi (rest := []) F w hd2.symm kV_L_135 hd_X7_leaves (ci := 8) rfl (t_X7_leaves l D cy _ _ m0 ad M hMm hIM (xs (6 * j + 1)) hpM) hMm.1 dL_law_819 rfl rfl hl.1 ⟨rfl, rfl, (Nat.le_of_ble_eq_true rfl), (Nat.le_of_ble_eq_true rfl)⟩ (Nat.le_of_ble_eq_true rfl) ⟨(show 50 + 8 * j + 1 + 0 ≤ 601024 by omega), (show 3000 + 3033 * j + 6 + 0 ≤ 7293034 by omega)⟩ (fun b9 Y1 H locs hp hd3 w => ?_)
  obtain ⟨hb9, hMm⟩ := hp
  rw [un_comm hd3] at w
  have hd2 := hd3.symm
  refine lv_istore (lv' := [(6, .int b9), (5, .int k9), (4, .int (nI (6 * j))), (3, .ref o), (2, .ref m0), (1, .ref (AD 0 0 0)), (0, .ref b)]) F.1 F.2.1 dL_law_822 hl (by decide) rfl (fun ls hl => ?_)
  refine lv_aload_n F.1 F.2.1 dL_law_824 rfl (lv_at hl 4 rfl) ?_
  have hMu := repM_un hMm hd2
  refine q_rV (rest := []) F w kV_L_104 hd_X7_thrown (ci := 8) rfl (c_X7_thrown l D cy A _ m0 ad _ hMu) hMu.1 dL_law_825 rfl rfl hl.1 ⟨rfl, rfl, (Nat.le_of_ble_eq_true rfl), (Nat.le_of_ble_eq_true rfl)⟩ (Nat.le_of_ble_eq_true rfl) ⟨(show 50 + 8 * j + 1 + 0 ≤ 601024 by omega), (show 3000 + 3033 * j + 6 + 0 ≤ 7293034 by omega)⟩ ?_
  refine lv_fold (y := (HM_leaves M (xs (6 * j + 1))) 0 0) rfl ?_
  refine lv_iload F.1 F.2.1 dL_law_828 (lv_at hl 1 rfl) ?_
  refine lv_icmp_eq (tgt := 835) F.1 F.2.1 dL_law_830 (by decide) (fun c_1 => ?_) (fun c_1 => absurd (hs1.trans hk9.symm) c_1)
  refine lv_iload F.1 F.2.1 dL_law_835 (lv_at hl 1 rfl) ?_
  refine lv_if_ne (tgt := 859) F.1 F.2.1 dL_law_837 (by decide) (fun c_2 => ?_) (fun c_2 => ?_)
  · refine lv_goto (tgt := 1785) F.1 F.2.1 dL_law_859 (by decide) ?_
    refine W.widen (k := 50 + 8 * (j + 1)) (n := 3000 + 3033 * (j + 1)) (by omega) (by omega) ?_
    exact kk _ _ ls ⟨X1, Y1, AD1, ad, _, _, f1, w, hd1, hd2, congrFun (congrFun hA1 0) 0, hM1, hMm, hs3⟩ (lv_sub hl [2, 3, 4, 5, 6] rfl)
  · have hK0 := k0_leaves G (xs (6 * j + 1)) (hk9.symm.trans c_2)
    refine lv_aload_n F.1 F.2.1 dL_law_840 rfl (lv_at hl 3 rfl) ?_
    refine lv_iconst (v := 0) F.1 F.2.1 dL_law_841 (by decide) ?_
    refine q_lald F w (un_l (un_r hd1 oneO_at)) (i := 0) (vp_in_nI (n := 0) (N := 1) (by decide) (by decide)) dL_law_842 ?_
    refine lv_iload F.1 F.2.1 dL_law_843 (lv_at hl 0 rfl) ?_
    refine lv_if_eq (tgt := 852) F.1 F.2.1 dL_law_845 (by decide) (fun c_3 => ?_) (fun c_3 => ?_)
    · refine lv_lconst (v := 0) F.1 F.2.1 dL_law_852 (by decide) ?_
      refine W.lcmp F.1 F.2.1 dL_law_853 ?_
      refine lv_if_eq (tgt := 859) F.1 F.2.1 dL_law_854 (by decide) (fun c_4 => ?_) (fun c_4 => absurd ((congrArg (fun z => lg_cmp z 0) (show f1 0 = 0 by rw [hv hK0, ← hs2 hK0, ← hb9, if_pos c_3])).trans (lgc0 _)) c_4)
      refine lv_goto (tgt := 1785) F.1 F.2.1 dL_law_859 (by decide) ?_
      refine W.widen (k := 50 + 8 * (j + 1)) (n := 3000 + 3033 * (j + 1)) (by omega) (by omega) ?_
      exact kk _ _ ls ⟨X1, Y1, AD1, ad, _, _, f1, w, hd1, hd2, congrFun (congrFun hA1 0) 0, hM1, hMm, hs3⟩ (lv_sub hl [2, 3, 4, 5, 6] rfl)
    · refine lv_lconst (v := 1) F.1 F.2.1 dL_law_848 (by decide) ?_
      refine lv_goto (tgt := 853) F.1 F.2.1 dL_law_849 (by decide) ?_
      refine W.lcmp F.1 F.2.1 dL_law_853 ?_
      refine lv_if_eq (tgt := 859) F.1 F.2.1 dL_law_854 (by decide) (fun c_4 => ?_) (fun c_4 => absurd ((congrArg (fun z => lg_cmp z 1) (show f1 0 = 1 by rw [hv hK0, ← hs2 hK0, ← hb9, if_neg c_3])).trans (lgc0 _)) c_4)
      refine lv_goto (tgt := 1785) F.1 F.2.1 dL_law_859 (by decide) ?_
      refine W.widen (k := 50 + 8 * (j + 1)) (n := 3000 + 3033 * (j + 1)) (by omega) (by omega) ?_
      exact kk _ _ ls ⟨X1, Y1, AD1, ad, _, _, f1, w, hd1, hd2, congrFun (congrFun hA1 0) 0, hM1, hMm, hs3⟩ (lv_sub hl [2, 3, 4, 5, 6] rfl)
set_option maxHeartbeats 4000000 in
set_option maxRecDepth 100000 in
theorem lk_visit (F : CallFix p m c cL_law 7 s #[Value.ref b] BIG RL) (hlf : l.stackTraces = false) (hR : Rstep9 R9) (hX : va_X b L xs s s.heap) (hbl : b < s.heap.size) (hbA : ¬ A b) (hL : L ≤ 3072) {j : Nat} (hj : j < 512) (h6 : 6 * j + 6 ≤ L) {H : Heap} {locs : List Loc} {ls : Array Slot} (hI : LInv9 D cy A s x0 m0 o R9 j H locs) (hl : lv_has ls 7 [(4, .int (nI (6 * j))), (3, .ref o), (2, .ref m0), (1, .ref x0), (0, .ref b)])
    (kk : ∀ (H1 : Heap) (locs1 : List Loc) (ls1 : Array Slot), LInv9 D cy A s x0 m0 o R9 (j + 1) H1 locs1 → lv_has ls1 7 [(4, .int (nI (6 * j))), (3, .ref o), (2, .ref m0), (1, .ref x0), (0, .ref b)] → W p l e room_1 s m #[Value.ref b] below meth c H1 locs1 (50 + 8 * (j + 1)) (3000 + 3033 * (j + 1)) Q (F0 m 1785 ls1 [])) : W p l e room_1 s m #[Value.ref b] below meth c H locs (50 + 8 * j) (3000 + 3033 * j) Q (F0 m 862 ls []) := by
  obtain ⟨X, Y, AD, ad, G, M, f, w, hd1, hd2, hAD, hM, hMm, hRel⟩ := hI
  subst hAD
  obtain ⟨hI, hIM, hn9, hp9, hpM, hso, hrM⟩ := hR.1 j G M hRel
  have hn := hn9 hj
  obtain ⟨hs1, hs2, hs3⟩ := hR.2.2.2.2.2.2.2.2.2.2.2.2.1 j G M (xs (6 * j + 1)) hj hRel
  refine lv_aload_n F.1 F.2.1 dL_law_862 rfl (lv_at hl 3 rfl) ?_
  refine lv_aload_n F.1 F.2.1 dL_law_863 rfl (lv_at hl 4 rfl) ?_
  refine lv_iload F.1 F.2.1 dL_law_864 (lv_at hl 0 rfl) ?_
  refine lv_iconst (v := 1) F.1 F.2.1 dL_law_866 (by decide) ?_
  refine lv_iadd F.1 F.2.1 dL_law_867 ?_
  refine lv_fold (y := nI (6 * j + 1)) (nI_add (6 * j) 1) ?_
  refine va_sld F.1 F.2.1 hX hbl hbA w.2.2.2.1 (vp_in_nI (show 6 * j + 1 < L by omega) (by omega)) dL_law_868 ?_
  refine lv_fold (y := xs (6 * j + 1)) (by rw [nI_clamp (by omega)]) ?_
  refine lv_aload_n F.1 F.2.1 dL_law_869 rfl (lv_at hl 1 rfl) ?_
  refine q_uSi (rest := []) F w hd2 kW_visit hdW_visit (c_L_visit l D cy _ X AD G hM hI f hd1 (xs (6 * j + 1)) hn hlf) dL_law_870 rfl rfl hl.1 ⟨rfl, rfl, (Nat.le_of_ble_eq_true rfl), (Nat.le_of_ble_eq_true rfl)⟩ (Nat.le_of_ble_eq_true rfl) ⟨(show 50 + 8 * j + 5 ≤ 601024 by omega), (show 3000 + 3033 * j + 2019 ≤ 7293034 by omega)⟩ (fun k9 μ1 H locs hp hd2 w => ?_)
  obtain ⟨hk9, X1, AD1, f1, hμ, hd1, hA1, hM1, hv⟩ := hp
  subst hμ
  refine lv_istore (lv' := [(5, .int k9), (4, .int (nI (6 * j))), (3, .ref o), (2, .ref m0), (1, .ref (AD 0 0 0)), (0, .ref b)]) F.1 F.2.1 dL_law_873 hl (by decide) rfl (fun ls hl => ?_)
  refine lv_aload_n F.1 F.2.1 dL_law_875 rfl (lv_at hl 3 rfl) ?_
  refine lv_aload_n F.1 F.2.1 dL_law_876 rfl (lv_at hl 5 rfl) ?_
  refine lv_iload F.1 F.2.1 dL_law_877 (lv_at hl 1 rfl) ?_
  refine lv_iconst (v := 1) F.1 F.2.1 dL_law_879 (by decide) ?_
  refine lv_iadd F.1 F.2.1 dL_law_880 ?_
  refine lv_fold (y := nI (6 * j + 1)) (nI_add (6 * j) 1) ?_
  refine va_sld F.1 F.2.1 hX hbl hbA w.2.2.2.1 (vp_in_nI (show 6 * j + 1 < L by omega) (by omega)) dL_law_881 ?_
  refine lv_fold (y := xs (6 * j + 1)) (by rw [nI_clamp (by omega)]) ?_
  rw [un_comm hd2] at w
  refine q_uVi (rest := []) F w hd2.symm kV_L_138 hd_X7_visit (ci := 8) rfl (t_X7_visit l D cy _ _ m0 ad M hMm hIM (xs (6 * j + 1))) hMm.1 dL_law_882 rfl rfl hl.1 ⟨rfl, rfl, (Nat.le_of_ble_eq_true rfl), (Nat.le_of_ble_eq_true rfl)⟩ (Nat.le_of_ble_eq_true rfl) ⟨(show 50 + 8 * j + 5 + 0 ≤ 601024 by omega), (show 3000 + 3033 * j + 2019 + 0 ≤ 7293034 by omega)⟩ (fun b9 Y1 H locs hp hd3 w => ?_)
  obtain ⟨hb9, hMm⟩ := hp
  rw [un_comm hd3] at w
  have hd2 := hd3.symm
  refine lv_istore (lv' := [(6, .int b9), (5, .int k9), (4, .int (nI (6 * j))), (3, .ref o), (2, .ref m0), (1, .ref (AD 0 0 0)), (0, .ref b)]) F.1 F.2.1 dL_law_885 hl (by decide) rfl (fun ls hl => ?_)
  refine lv_aload_n F.1 F.2.1 dL_law_887 rfl (lv_at hl 4 rfl) ?_
  have hMu := repM_un hMm hd2
  refine q_rV (rest := []) F w kV_L_104 hd_X7_thrown (ci := 8) rfl (c_X7_thrown l D cy A _ m0 ad _ hMu) hMu.1 dL_law_888 rfl rfl hl.1 ⟨rfl, rfl, (Nat.le_of_ble_eq_true rfl), (Nat.le_of_ble_eq_true rfl)⟩ (Nat.le_of_ble_eq_true rfl) ⟨(show 50 + 8 * j + 5 + 0 ≤ 601024 by omega), (show 3000 + 3033 * j + 2019 + 0 ≤ 7293034 by omega)⟩ ?_
  refine lv_fold (y := (HM_visit M (xs (6 * j + 1))) 0 0) rfl ?_
  refine lv_iload F.1 F.2.1 dL_law_891 (lv_at hl 1 rfl) ?_
  refine lv_icmp_eq (tgt := 898) F.1 F.2.1 dL_law_893 (by decide) (fun c_1 => ?_) (fun c_1 => absurd (hs1.trans hk9.symm) c_1)
  refine lv_iload F.1 F.2.1 dL_law_898 (lv_at hl 1 rfl) ?_
  refine lv_if_ne (tgt := 915) F.1 F.2.1 dL_law_900 (by decide) (fun c_2 => ?_) (fun c_2 => ?_)
  · refine lv_goto (tgt := 1785) F.1 F.2.1 dL_law_915 (by decide) ?_
    refine W.widen (k := 50 + 8 * (j + 1)) (n := 3000 + 3033 * (j + 1)) (by omega) (by omega) ?_
    exact kk _ _ ls ⟨X1, Y1, AD1, ad, _, _, f1, w, hd1, hd2, congrFun (congrFun hA1 0) 0, hM1, hMm, hs3⟩ (lv_sub hl [2, 3, 4, 5, 6] rfl)
  · have hK0 := k0_visit G (xs (6 * j + 1)) (hk9.symm.trans c_2)
    refine lv_aload_n F.1 F.2.1 dL_law_903 rfl (lv_at hl 3 rfl) ?_
    refine lv_iconst (v := 0) F.1 F.2.1 dL_law_904 (by decide) ?_
    refine q_lald F w (un_l (un_r hd1 oneO_at)) (i := 0) (vp_in_nI (n := 0) (N := 1) (by decide) (by decide)) dL_law_905 ?_
    refine lv_iload F.1 F.2.1 dL_law_906 (lv_at hl 0 rfl) ?_
    refine lv_i2l F.1 F.2.1 dL_law_908 rfl ?_
    refine W.lcmp F.1 F.2.1 dL_law_909 ?_
    refine lv_if_eq (tgt := 915) F.1 F.2.1 dL_law_910 (by decide) (fun c_4 => ?_) (fun c_4 => absurd ((congrArg (fun z => lg_cmp z b9.toInt64) (show f1 0 = b9.toInt64 by rw [hv hK0, hb9, hs2 hK0])).trans (lgc0 _)) c_4)
    refine lv_goto (tgt := 1785) F.1 F.2.1 dL_law_915 (by decide) ?_
    refine W.widen (k := 50 + 8 * (j + 1)) (n := 3000 + 3033 * (j + 1)) (by omega) (by omega) ?_
    exact kk _ _ ls ⟨X1, Y1, AD1, ad, _, _, f1, w, hd1, hd2, congrFun (congrFun hA1 0) 0, hM1, hMm, hs3⟩ (lv_sub hl [2, 3, 4, 5, 6] rfl)
set_option maxHeartbeats 4000000 in
set_option maxRecDepth 100000 in
theorem lk_finds (F : CallFix p m c cL_law 7 s #[Value.ref b] BIG RL) (hlf : l.stackTraces = false) (hR : Rstep9 R9) (hX : va_X b L xs s s.heap) (hbl : b < s.heap.size) (hbA : ¬ A b) (hL : L ≤ 3072) {j : Nat} (hj : j < 512) (h6 : 6 * j + 6 ≤ L) {H : Heap} {locs : List Loc} {ls : Array Slot} (hI : LInv9 D cy A s x0 m0 o R9 j H locs) (hl : lv_has ls 7 [(4, .int (nI (6 * j))), (3, .ref o), (2, .ref m0), (1, .ref x0), (0, .ref b)])
    (kk : ∀ (H1 : Heap) (locs1 : List Loc) (ls1 : Array Slot), LInv9 D cy A s x0 m0 o R9 (j + 1) H1 locs1 → lv_has ls1 7 [(4, .int (nI (6 * j))), (3, .ref o), (2, .ref m0), (1, .ref x0), (0, .ref b)] → W p l e room_1 s m #[Value.ref b] below meth c H1 locs1 (50 + 8 * (j + 1)) (3000 + 3033 * (j + 1)) Q (F0 m 1785 ls1 [])) : W p l e room_1 s m #[Value.ref b] below meth c H locs (50 + 8 * j) (3000 + 3033 * j) Q (F0 m 918 ls []) := by
  obtain ⟨X, Y, AD, ad, G, M, f, w, hd1, hd2, hAD, hM, hMm, hRel⟩ := hI
  subst hAD
  obtain ⟨hI, hIM, hn9, hp9, hpM, hso, hrM⟩ := hR.1 j G M hRel
  have hn := hn9 hj
  obtain ⟨hs1, hs2, hs3⟩ := hR.2.2.2.2.2.2.2.2.2.2.2.2.2.1 j G M (xs (6 * j + 1)) (xs (6 * j + 2)) (xs (6 * j + 3)) hj hRel
  refine lv_aload_n F.1 F.2.1 dL_law_918 rfl (lv_at hl 3 rfl) ?_
  refine lv_aload_n F.1 F.2.1 dL_law_919 rfl (lv_at hl 4 rfl) ?_
  refine lv_iload F.1 F.2.1 dL_law_920 (lv_at hl 0 rfl) ?_
  refine lv_iconst (v := 1) F.1 F.2.1 dL_law_922 (by decide) ?_
  refine lv_iadd F.1 F.2.1 dL_law_923 ?_
  refine lv_fold (y := nI (6 * j + 1)) (nI_add (6 * j) 1) ?_
  refine va_sld F.1 F.2.1 hX hbl hbA w.2.2.2.1 (vp_in_nI (show 6 * j + 1 < L by omega) (by omega)) dL_law_924 ?_
  refine lv_fold (y := xs (6 * j + 1)) (by rw [nI_clamp (by omega)]) ?_
  refine lv_aload_n F.1 F.2.1 dL_law_925 rfl (lv_at hl 4 rfl) ?_
  refine lv_iload F.1 F.2.1 dL_law_926 (lv_at hl 0 rfl) ?_
  refine lv_iconst (v := 2) F.1 F.2.1 dL_law_928 (by decide) ?_
  refine lv_iadd F.1 F.2.1 dL_law_929 ?_
  refine lv_fold (y := nI (6 * j + 2)) (nI_add (6 * j) 2) ?_
  refine va_sld F.1 F.2.1 hX hbl hbA w.2.2.2.1 (vp_in_nI (show 6 * j + 2 < L by omega) (by omega)) dL_law_930 ?_
  refine lv_fold (y := xs (6 * j + 2)) (by rw [nI_clamp (by omega)]) ?_
  refine lv_aload_n F.1 F.2.1 dL_law_931 rfl (lv_at hl 4 rfl) ?_
  refine lv_iload F.1 F.2.1 dL_law_932 (lv_at hl 0 rfl) ?_
  refine lv_iconst (v := 3) F.1 F.2.1 dL_law_934 (by decide) ?_
  refine lv_iadd F.1 F.2.1 dL_law_935 ?_
  refine lv_fold (y := nI (6 * j + 3)) (nI_add (6 * j) 3) ?_
  refine va_sld F.1 F.2.1 hX hbl hbA w.2.2.2.1 (vp_in_nI (show 6 * j + 3 < L by omega) (by omega)) dL_law_936 ?_
  refine lv_fold (y := xs (6 * j + 3)) (by rw [nI_clamp (by omega)]) ?_
  refine lv_aload_n F.1 F.2.1 dL_law_937 rfl (lv_at hl 1 rfl) ?_
  refine q_uSi (rest := []) F w hd2 kW_finds hdW_finds (c_L_finds l D cy _ X AD G hM hI f hd1 (xs (6 * j + 1)) (xs (6 * j + 2)) (xs (6 * j + 3)) hn hlf) dL_law_938 rfl rfl hl.1 ⟨rfl, rfl, (Nat.le_of_ble_eq_true rfl), (Nat.le_of_ble_eq_true rfl)⟩ (Nat.le_of_ble_eq_true rfl) ⟨(show 50 + 8 * j + 4 ≤ 601024 by omega), (show 3000 + 3033 * j + 2007 ≤ 7293034 by omega)⟩ (fun k9 μ1 H locs hp hd2 w => ?_)
  obtain ⟨hk9, X1, AD1, f1, hμ, hd1, hA1, hM1, hv⟩ := hp
  subst hμ
  refine lv_istore (lv' := [(5, .int k9), (4, .int (nI (6 * j))), (3, .ref o), (2, .ref m0), (1, .ref (AD 0 0 0)), (0, .ref b)]) F.1 F.2.1 dL_law_941 hl (by decide) rfl (fun ls hl => ?_)
  refine lv_aload_n F.1 F.2.1 dL_law_943 rfl (lv_at hl 3 rfl) ?_
  refine lv_aload_n F.1 F.2.1 dL_law_944 rfl (lv_at hl 5 rfl) ?_
  refine lv_iload F.1 F.2.1 dL_law_945 (lv_at hl 1 rfl) ?_
  refine lv_iconst (v := 1) F.1 F.2.1 dL_law_947 (by decide) ?_
  refine lv_iadd F.1 F.2.1 dL_law_948 ?_
  refine lv_fold (y := nI (6 * j + 1)) (nI_add (6 * j) 1) ?_
  refine va_sld F.1 F.2.1 hX hbl hbA w.2.2.2.1 (vp_in_nI (show 6 * j + 1 < L by omega) (by omega)) dL_law_949 ?_
  refine lv_fold (y := xs (6 * j + 1)) (by rw [nI_clamp (by omega)]) ?_
  refine lv_aload_n F.1 F.2.1 dL_law_950 rfl (lv_at hl 5 rfl) ?_
  refine lv_iload F.1 F.2.1 dL_law_951 (lv_at hl 1 rfl) ?_
  refine lv_iconst (v := 2) F.1 F.2.1 dL_law_953 (by decide) ?_
  refine lv_iadd F.1 F.2.1 dL_law_954 ?_
  refine lv_fold (y := nI (6 * j + 2)) (nI_add (6 * j) 2) ?_
  refine va_sld F.1 F.2.1 hX hbl hbA w.2.2.2.1 (vp_in_nI (show 6 * j + 2 < L by omega) (by omega)) dL_law_955 ?_
  refine lv_fold (y := xs (6 * j + 2)) (by rw [nI_clamp (by omega)]) ?_
  refine lv_aload_n F.1 F.2.1 dL_law_956 rfl (lv_at hl 5 rfl) ?_
  refine lv_iload F.1 F.2.1 dL_law_957 (lv_at hl 1 rfl) ?_
  refine lv_iconst (v := 3) F.1 F.2.1 dL_law_959 (by decide) ?_
  refine lv_iadd F.1 F.2.1 dL_law_960 ?_
  refine lv_fold (y := nI (6 * j + 3)) (nI_add (6 * j) 3) ?_
  refine va_sld F.1 F.2.1 hX hbl hbA w.2.2.2.1 (vp_in_nI (show 6 * j + 3 < L by omega) (by omega)) dL_law_961 ?_
  refine lv_fold (y := xs (6 * j + 3)) (by rw [nI_clamp (by omega)]) ?_
  rw [un_comm hd2] at w
  refine q_uVi (rest := []) F w hd2.symm kV_L_141 hd_X7_finds (ci := 8) rfl (t_X7_finds l D cy _ _ m0 ad M hMm hIM (xs (6 * j + 1)) (xs (6 * j + 2)) (xs (6 * j + 3)) hso) hMm.1 dL_law_962 rfl rfl hl.1 ⟨rfl, rfl, (Nat.le_of_ble_eq_true rfl), (Nat.le_of_ble_eq_true rfl)⟩ (Nat.le_of_ble_eq_true rfl) ⟨(show 50 + 8 * j + 4 + 0 ≤ 601024 by omega), (show 3000 + 3033 * j + 2007 + 0 ≤ 7293034 by omega)⟩ (fun b9 Y1 H locs hp hd3 w => ?_)
  obtain ⟨hb9, hMm⟩ := hp
  rw [un_comm hd3] at w
  have hd2 := hd3.symm
  refine lv_istore (lv' := [(6, .int b9), (5, .int k9), (4, .int (nI (6 * j))), (3, .ref o), (2, .ref m0), (1, .ref (AD 0 0 0)), (0, .ref b)]) F.1 F.2.1 dL_law_965 hl (by decide) rfl (fun ls hl => ?_)
  refine lv_aload_n F.1 F.2.1 dL_law_967 rfl (lv_at hl 4 rfl) ?_
  have hMu := repM_un hMm hd2
  refine q_rV (rest := []) F w kV_L_104 hd_X7_thrown (ci := 8) rfl (c_X7_thrown l D cy A _ m0 ad _ hMu) hMu.1 dL_law_968 rfl rfl hl.1 ⟨rfl, rfl, (Nat.le_of_ble_eq_true rfl), (Nat.le_of_ble_eq_true rfl)⟩ (Nat.le_of_ble_eq_true rfl) ⟨(show 50 + 8 * j + 4 + 0 ≤ 601024 by omega), (show 3000 + 3033 * j + 2007 + 0 ≤ 7293034 by omega)⟩ ?_
  refine lv_fold (y := (HM_finds M (xs (6 * j + 1)) (xs (6 * j + 2)) (xs (6 * j + 3))) 0 0) rfl ?_
  refine lv_iload F.1 F.2.1 dL_law_971 (lv_at hl 1 rfl) ?_
  refine lv_icmp_eq (tgt := 978) F.1 F.2.1 dL_law_973 (by decide) (fun c_1 => ?_) (fun c_1 => absurd (hs1.trans hk9.symm) c_1)
  refine lv_iload F.1 F.2.1 dL_law_978 (lv_at hl 1 rfl) ?_
  refine lv_if_ne (tgt := 995) F.1 F.2.1 dL_law_980 (by decide) (fun c_2 => ?_) (fun c_2 => ?_)
  · refine lv_goto (tgt := 1785) F.1 F.2.1 dL_law_995 (by decide) ?_
    refine W.widen (k := 50 + 8 * (j + 1)) (n := 3000 + 3033 * (j + 1)) (by omega) (by omega) ?_
    exact kk _ _ ls ⟨X1, Y1, AD1, ad, _, _, f1, w, hd1, hd2, congrFun (congrFun hA1 0) 0, hM1, hMm, hs3⟩ (lv_sub hl [2, 3, 4, 5, 6] rfl)
  · have hK0 := k0_finds G (xs (6 * j + 1)) (xs (6 * j + 2)) (xs (6 * j + 3)) (hk9.symm.trans c_2)
    refine lv_aload_n F.1 F.2.1 dL_law_983 rfl (lv_at hl 3 rfl) ?_
    refine lv_iconst (v := 0) F.1 F.2.1 dL_law_984 (by decide) ?_
    refine q_lald F w (un_l (un_r hd1 oneO_at)) (i := 0) (vp_in_nI (n := 0) (N := 1) (by decide) (by decide)) dL_law_985 ?_
    refine lv_iload F.1 F.2.1 dL_law_986 (lv_at hl 0 rfl) ?_
    refine lv_i2l F.1 F.2.1 dL_law_988 rfl ?_
    refine W.lcmp F.1 F.2.1 dL_law_989 ?_
    refine lv_if_eq (tgt := 995) F.1 F.2.1 dL_law_990 (by decide) (fun c_4 => ?_) (fun c_4 => absurd ((congrArg (fun z => lg_cmp z b9.toInt64) (show f1 0 = b9.toInt64 by rw [hv hK0, hb9, hs2 hK0])).trans (lgc0 _)) c_4)
    refine lv_goto (tgt := 1785) F.1 F.2.1 dL_law_995 (by decide) ?_
    refine W.widen (k := 50 + 8 * (j + 1)) (n := 3000 + 3033 * (j + 1)) (by omega) (by omega) ?_
    exact kk _ _ ls ⟨X1, Y1, AD1, ad, _, _, f1, w, hd1, hd2, congrFun (congrFun hA1 0) 0, hM1, hMm, hs3⟩ (lv_sub hl [2, 3, 4, 5, 6] rfl)
set_option maxHeartbeats 4000000 in
set_option maxRecDepth 100000 in
theorem lk_mends (F : CallFix p m c cL_law 7 s #[Value.ref b] BIG RL) (hlf : l.stackTraces = false) (hR : Rstep9 R9) (hX : va_X b L xs s s.heap) (hbl : b < s.heap.size) (hbA : ¬ A b) (hL : L ≤ 3072) {j : Nat} (hj : j < 512) (h6 : 6 * j + 6 ≤ L) {H : Heap} {locs : List Loc} {ls : Array Slot} (hI : LInv9 D cy A s x0 m0 o R9 j H locs) (hl : lv_has ls 7 [(4, .int (nI (6 * j))), (3, .ref o), (2, .ref m0), (1, .ref x0), (0, .ref b)])
    (kk : ∀ (H1 : Heap) (locs1 : List Loc) (ls1 : Array Slot), LInv9 D cy A s x0 m0 o R9 (j + 1) H1 locs1 → lv_has ls1 7 [(4, .int (nI (6 * j))), (3, .ref o), (2, .ref m0), (1, .ref x0), (0, .ref b)] → W p l e room_1 s m #[Value.ref b] below meth c H1 locs1 (50 + 8 * (j + 1)) (3000 + 3033 * (j + 1)) Q (F0 m 1785 ls1 [])) : W p l e room_1 s m #[Value.ref b] below meth c H locs (50 + 8 * j) (3000 + 3033 * j) Q (F0 m 998 ls []) := by
  obtain ⟨X, Y, AD, ad, G, M, f, w, hd1, hd2, hAD, hM, hMm, hRel⟩ := hI
  subst hAD
  obtain ⟨hI, hIM, hn9, hp9, hpM, hso, hrM⟩ := hR.1 j G M hRel
  have hn := hn9 hj
  by_cases cb : xs (6 * j + 3) = 0
  · obtain ⟨hs1, hs2, hs3⟩ := hR.2.2.2.2.2.2.2.2.2.2.2.2.2.2.1 j G M (xs (6 * j + 1)) (xs (6 * j + 2)) 0 hj hRel (by decide)
    refine lv_aload_n F.1 F.2.1 dL_law_998 rfl (lv_at hl 3 rfl) ?_
    refine lv_aload_n F.1 F.2.1 dL_law_999 rfl (lv_at hl 4 rfl) ?_
    refine lv_iload F.1 F.2.1 dL_law_1000 (lv_at hl 0 rfl) ?_
    refine lv_iconst (v := 1) F.1 F.2.1 dL_law_1002 (by decide) ?_
    refine lv_iadd F.1 F.2.1 dL_law_1003 ?_
    refine lv_fold (y := nI (6 * j + 1)) (nI_add (6 * j) 1) ?_
    refine va_sld F.1 F.2.1 hX hbl hbA w.2.2.2.1 (vp_in_nI (show 6 * j + 1 < L by omega) (by omega)) dL_law_1004 ?_
    refine lv_fold (y := xs (6 * j + 1)) (by rw [nI_clamp (by omega)]) ?_
    refine lv_aload_n F.1 F.2.1 dL_law_1005 rfl (lv_at hl 4 rfl) ?_
    refine lv_iload F.1 F.2.1 dL_law_1006 (lv_at hl 0 rfl) ?_
    refine lv_iconst (v := 2) F.1 F.2.1 dL_law_1008 (by decide) ?_
    refine lv_iadd F.1 F.2.1 dL_law_1009 ?_
    refine lv_fold (y := nI (6 * j + 2)) (nI_add (6 * j) 2) ?_
    refine va_sld F.1 F.2.1 hX hbl hbA w.2.2.2.1 (vp_in_nI (show 6 * j + 2 < L by omega) (by omega)) dL_law_1010 ?_
    refine lv_fold (y := xs (6 * j + 2)) (by rw [nI_clamp (by omega)]) ?_
    refine lv_aload_n F.1 F.2.1 dL_law_1011 rfl (lv_at hl 4 rfl) ?_
    refine lv_iload F.1 F.2.1 dL_law_1012 (lv_at hl 0 rfl) ?_
    refine lv_iconst (v := 3) F.1 F.2.1 dL_law_1014 (by decide) ?_
    refine lv_iadd F.1 F.2.1 dL_law_1015 ?_
    refine lv_fold (y := nI (6 * j + 3)) (nI_add (6 * j) 3) ?_
    refine va_sld F.1 F.2.1 hX hbl hbA w.2.2.2.1 (vp_in_nI (show 6 * j + 3 < L by omega) (by omega)) dL_law_1016 ?_
    refine lv_fold (y := xs (6 * j + 3)) (by rw [nI_clamp (by omega)]) ?_
    refine lv_if_eq (tgt := 1024) F.1 F.2.1 dL_law_1017 (by decide) (fun c_1 => ?_) (fun c_1 => absurd cb c_1)
    refine lv_iconst (v := 0) F.1 F.2.1 dL_law_1024 (by decide) ?_
    refine lv_aload_n F.1 F.2.1 dL_law_1025 rfl (lv_at hl 1 rfl) ?_
    refine q_uSi (rest := []) F w hd2 kW_mends hdW_mends (c_L_mends l D cy _ X AD G hM hI f hd1 (xs (6 * j + 1)) (xs (6 * j + 2)) 0 (by decide) hlf) dL_law_1026 rfl rfl hl.1 ⟨rfl, rfl, (Nat.le_of_ble_eq_true rfl), (Nat.le_of_ble_eq_true rfl)⟩ (Nat.le_of_ble_eq_true rfl) ⟨(show 50 + 8 * j + 1 ≤ 601024 by omega), (show 3000 + 3033 * j + 6 ≤ 7293034 by omega)⟩ (fun k9 μ1 H locs hp hd2 w => ?_)
    obtain ⟨hk9, X1, AD1, f1, hμ, hd1, hA1, hM1, hv⟩ := hp
    subst hμ
    refine lv_istore (lv' := [(5, .int k9), (4, .int (nI (6 * j))), (3, .ref o), (2, .ref m0), (1, .ref (AD 0 0 0)), (0, .ref b)]) F.1 F.2.1 dL_law_1029 hl (by decide) rfl (fun ls hl => ?_)
    refine lv_aload_n F.1 F.2.1 dL_law_1031 rfl (lv_at hl 3 rfl) ?_
    refine lv_aload_n F.1 F.2.1 dL_law_1032 rfl (lv_at hl 5 rfl) ?_
    refine lv_iload F.1 F.2.1 dL_law_1033 (lv_at hl 1 rfl) ?_
    refine lv_iconst (v := 1) F.1 F.2.1 dL_law_1035 (by decide) ?_
    refine lv_iadd F.1 F.2.1 dL_law_1036 ?_
    refine lv_fold (y := nI (6 * j + 1)) (nI_add (6 * j) 1) ?_
    refine va_sld F.1 F.2.1 hX hbl hbA w.2.2.2.1 (vp_in_nI (show 6 * j + 1 < L by omega) (by omega)) dL_law_1037 ?_
    refine lv_fold (y := xs (6 * j + 1)) (by rw [nI_clamp (by omega)]) ?_
    refine lv_aload_n F.1 F.2.1 dL_law_1038 rfl (lv_at hl 5 rfl) ?_
    refine lv_iload F.1 F.2.1 dL_law_1039 (lv_at hl 1 rfl) ?_
    refine lv_iconst (v := 2) F.1 F.2.1 dL_law_1041 (by decide) ?_
    refine lv_iadd F.1 F.2.1 dL_law_1042 ?_
    refine lv_fold (y := nI (6 * j + 2)) (nI_add (6 * j) 2) ?_
    refine va_sld F.1 F.2.1 hX hbl hbA w.2.2.2.1 (vp_in_nI (show 6 * j + 2 < L by omega) (by omega)) dL_law_1043 ?_
    refine lv_fold (y := xs (6 * j + 2)) (by rw [nI_clamp (by omega)]) ?_
    refine lv_aload_n F.1 F.2.1 dL_law_1044 rfl (lv_at hl 5 rfl) ?_
    refine lv_iload F.1 F.2.1 dL_law_1045 (lv_at hl 1 rfl) ?_
    refine lv_iconst (v := 3) F.1 F.2.1 dL_law_1047 (by decide) ?_
    refine lv_iadd F.1 F.2.1 dL_law_1048 ?_
    refine lv_fold (y := nI (6 * j + 3)) (nI_add (6 * j) 3) ?_
    refine va_sld F.1 F.2.1 hX hbl hbA w.2.2.2.1 (vp_in_nI (show 6 * j + 3 < L by omega) (by omega)) dL_law_1049 ?_
    refine lv_fold (y := xs (6 * j + 3)) (by rw [nI_clamp (by omega)]) ?_
    refine lv_if_eq (tgt := 1057) F.1 F.2.1 dL_law_1050 (by decide) (fun c_1 => ?_) (fun c_1 => absurd cb c_1)
    refine lv_iconst (v := 0) F.1 F.2.1 dL_law_1057 (by decide) ?_
    rw [un_comm hd2] at w
    refine q_uVi (rest := []) F w hd2.symm kV_L_145 hd_X7_mends (ci := 8) rfl (t_X7_mends l D cy _ _ m0 ad M hMm hIM (xs (6 * j + 1)) (xs (6 * j + 2)) 0) hMm.1 dL_law_1058 rfl rfl hl.1 ⟨rfl, rfl, (Nat.le_of_ble_eq_true rfl), (Nat.le_of_ble_eq_true rfl)⟩ (Nat.le_of_ble_eq_true rfl) ⟨(show 50 + 8 * j + 1 + 0 ≤ 601024 by omega), (show 3000 + 3033 * j + 6 + 0 ≤ 7293034 by omega)⟩ (fun b9 Y1 H locs hp hd3 w => ?_)
    obtain ⟨hb9, hMm⟩ := hp
    rw [un_comm hd3] at w
    have hd2 := hd3.symm
    refine lv_istore (lv' := [(6, .int b9), (5, .int k9), (4, .int (nI (6 * j))), (3, .ref o), (2, .ref m0), (1, .ref (AD 0 0 0)), (0, .ref b)]) F.1 F.2.1 dL_law_1061 hl (by decide) rfl (fun ls hl => ?_)
    refine lv_aload_n F.1 F.2.1 dL_law_1063 rfl (lv_at hl 4 rfl) ?_
    have hMu := repM_un hMm hd2
    refine q_rV (rest := []) F w kV_L_104 hd_X7_thrown (ci := 8) rfl (c_X7_thrown l D cy A _ m0 ad _ hMu) hMu.1 dL_law_1064 rfl rfl hl.1 ⟨rfl, rfl, (Nat.le_of_ble_eq_true rfl), (Nat.le_of_ble_eq_true rfl)⟩ (Nat.le_of_ble_eq_true rfl) ⟨(show 50 + 8 * j + 1 + 0 ≤ 601024 by omega), (show 3000 + 3033 * j + 6 + 0 ≤ 7293034 by omega)⟩ ?_
    refine lv_fold (y := (HM_mends M (xs (6 * j + 1)) (xs (6 * j + 2)) 0) 0 0) rfl ?_
    refine lv_iload F.1 F.2.1 dL_law_1067 (lv_at hl 1 rfl) ?_
    refine lv_icmp_eq (tgt := 1074) F.1 F.2.1 dL_law_1069 (by decide) (fun c_1 => ?_) (fun c_1 => absurd (hs1.trans hk9.symm) c_1)
    refine lv_iload F.1 F.2.1 dL_law_1074 (lv_at hl 1 rfl) ?_
    refine lv_if_ne (tgt := 1091) F.1 F.2.1 dL_law_1076 (by decide) (fun c_2 => ?_) (fun c_2 => ?_)
    · refine lv_goto (tgt := 1785) F.1 F.2.1 dL_law_1091 (by decide) ?_
      refine W.widen (k := 50 + 8 * (j + 1)) (n := 3000 + 3033 * (j + 1)) (by omega) (by omega) ?_
      exact kk _ _ ls ⟨X1, Y1, AD1, ad, _, _, f1, w, hd1, hd2, congrFun (congrFun hA1 0) 0, hM1, hMm, hs3⟩ (lv_sub hl [2, 3, 4, 5, 6] rfl)
    · have hK0 := k0_mends G (xs (6 * j + 1)) (xs (6 * j + 2)) 0 (hk9.symm.trans c_2)
      refine lv_aload_n F.1 F.2.1 dL_law_1079 rfl (lv_at hl 3 rfl) ?_
      refine lv_iconst (v := 0) F.1 F.2.1 dL_law_1080 (by decide) ?_
      refine q_lald F w (un_l (un_r hd1 oneO_at)) (i := 0) (vp_in_nI (n := 0) (N := 1) (by decide) (by decide)) dL_law_1081 ?_
      refine lv_iload F.1 F.2.1 dL_law_1082 (lv_at hl 0 rfl) ?_
      refine lv_i2l F.1 F.2.1 dL_law_1084 rfl ?_
      refine W.lcmp F.1 F.2.1 dL_law_1085 ?_
      refine lv_if_eq (tgt := 1091) F.1 F.2.1 dL_law_1086 (by decide) (fun c_4 => ?_) (fun c_4 => absurd ((congrArg (fun z => lg_cmp z b9.toInt64) (show f1 0 = b9.toInt64 by rw [hv hK0, hb9, hs2 hK0])).trans (lgc0 _)) c_4)
      refine lv_goto (tgt := 1785) F.1 F.2.1 dL_law_1091 (by decide) ?_
      refine W.widen (k := 50 + 8 * (j + 1)) (n := 3000 + 3033 * (j + 1)) (by omega) (by omega) ?_
      exact kk _ _ ls ⟨X1, Y1, AD1, ad, _, _, f1, w, hd1, hd2, congrFun (congrFun hA1 0) 0, hM1, hMm, hs3⟩ (lv_sub hl [2, 3, 4, 5, 6] rfl)
  · obtain ⟨hs1, hs2, hs3⟩ := hR.2.2.2.2.2.2.2.2.2.2.2.2.2.2.1 j G M (xs (6 * j + 1)) (xs (6 * j + 2)) 1 hj hRel (by decide)
    refine lv_aload_n F.1 F.2.1 dL_law_998 rfl (lv_at hl 3 rfl) ?_
    refine lv_aload_n F.1 F.2.1 dL_law_999 rfl (lv_at hl 4 rfl) ?_
    refine lv_iload F.1 F.2.1 dL_law_1000 (lv_at hl 0 rfl) ?_
    refine lv_iconst (v := 1) F.1 F.2.1 dL_law_1002 (by decide) ?_
    refine lv_iadd F.1 F.2.1 dL_law_1003 ?_
    refine lv_fold (y := nI (6 * j + 1)) (nI_add (6 * j) 1) ?_
    refine va_sld F.1 F.2.1 hX hbl hbA w.2.2.2.1 (vp_in_nI (show 6 * j + 1 < L by omega) (by omega)) dL_law_1004 ?_
    refine lv_fold (y := xs (6 * j + 1)) (by rw [nI_clamp (by omega)]) ?_
    refine lv_aload_n F.1 F.2.1 dL_law_1005 rfl (lv_at hl 4 rfl) ?_
    refine lv_iload F.1 F.2.1 dL_law_1006 (lv_at hl 0 rfl) ?_
    refine lv_iconst (v := 2) F.1 F.2.1 dL_law_1008 (by decide) ?_
    refine lv_iadd F.1 F.2.1 dL_law_1009 ?_
    refine lv_fold (y := nI (6 * j + 2)) (nI_add (6 * j) 2) ?_
    refine va_sld F.1 F.2.1 hX hbl hbA w.2.2.2.1 (vp_in_nI (show 6 * j + 2 < L by omega) (by omega)) dL_law_1010 ?_
    refine lv_fold (y := xs (6 * j + 2)) (by rw [nI_clamp (by omega)]) ?_
    refine lv_aload_n F.1 F.2.1 dL_law_1011 rfl (lv_at hl 4 rfl) ?_
    refine lv_iload F.1 F.2.1 dL_law_1012 (lv_at hl 0 rfl) ?_
    refine lv_iconst (v := 3) F.1 F.2.1 dL_law_1014 (by decide) ?_
    refine lv_iadd F.1 F.2.1 dL_law_1015 ?_
    refine lv_fold (y := nI (6 * j + 3)) (nI_add (6 * j) 3) ?_
    refine va_sld F.1 F.2.1 hX hbl hbA w.2.2.2.1 (vp_in_nI (show 6 * j + 3 < L by omega) (by omega)) dL_law_1016 ?_
    refine lv_fold (y := xs (6 * j + 3)) (by rw [nI_clamp (by omega)]) ?_
    refine lv_if_eq (tgt := 1024) F.1 F.2.1 dL_law_1017 (by decide) (fun c_1 => absurd c_1 cb) (fun c_1 => ?_)
    refine lv_iconst (v := 1) F.1 F.2.1 dL_law_1020 (by decide) ?_
    refine lv_goto (tgt := 1025) F.1 F.2.1 dL_law_1021 (by decide) ?_
    refine lv_aload_n F.1 F.2.1 dL_law_1025 rfl (lv_at hl 1 rfl) ?_
    refine q_uSi (rest := []) F w hd2 kW_mends hdW_mends (c_L_mends l D cy _ X AD G hM hI f hd1 (xs (6 * j + 1)) (xs (6 * j + 2)) 1 (by decide) hlf) dL_law_1026 rfl rfl hl.1 ⟨rfl, rfl, (Nat.le_of_ble_eq_true rfl), (Nat.le_of_ble_eq_true rfl)⟩ (Nat.le_of_ble_eq_true rfl) ⟨(show 50 + 8 * j + 1 ≤ 601024 by omega), (show 3000 + 3033 * j + 6 ≤ 7293034 by omega)⟩ (fun k9 μ1 H locs hp hd2 w => ?_)
    obtain ⟨hk9, X1, AD1, f1, hμ, hd1, hA1, hM1, hv⟩ := hp
    subst hμ
    refine lv_istore (lv' := [(5, .int k9), (4, .int (nI (6 * j))), (3, .ref o), (2, .ref m0), (1, .ref (AD 0 0 0)), (0, .ref b)]) F.1 F.2.1 dL_law_1029 hl (by decide) rfl (fun ls hl => ?_)
    refine lv_aload_n F.1 F.2.1 dL_law_1031 rfl (lv_at hl 3 rfl) ?_
    refine lv_aload_n F.1 F.2.1 dL_law_1032 rfl (lv_at hl 5 rfl) ?_
    refine lv_iload F.1 F.2.1 dL_law_1033 (lv_at hl 1 rfl) ?_
    refine lv_iconst (v := 1) F.1 F.2.1 dL_law_1035 (by decide) ?_
    refine lv_iadd F.1 F.2.1 dL_law_1036 ?_
    refine lv_fold (y := nI (6 * j + 1)) (nI_add (6 * j) 1) ?_
    refine va_sld F.1 F.2.1 hX hbl hbA w.2.2.2.1 (vp_in_nI (show 6 * j + 1 < L by omega) (by omega)) dL_law_1037 ?_
    refine lv_fold (y := xs (6 * j + 1)) (by rw [nI_clamp (by omega)]) ?_
    refine lv_aload_n F.1 F.2.1 dL_law_1038 rfl (lv_at hl 5 rfl) ?_
    refine lv_iload F.1 F.2.1 dL_law_1039 (lv_at hl 1 rfl) ?_
    refine lv_iconst (v := 2) F.1 F.2.1 dL_law_1041 (by decide) ?_
    refine lv_iadd F.1 F.2.1 dL_law_1042 ?_
    refine lv_fold (y := nI (6 * j + 2)) (nI_add (6 * j) 2) ?_
    refine va_sld F.1 F.2.1 hX hbl hbA w.2.2.2.1 (vp_in_nI (show 6 * j + 2 < L by omega) (by omega)) dL_law_1043 ?_
    refine lv_fold (y := xs (6 * j + 2)) (by rw [nI_clamp (by omega)]) ?_
    refine lv_aload_n F.1 F.2.1 dL_law_1044 rfl (lv_at hl 5 rfl) ?_
    refine lv_iload F.1 F.2.1 dL_law_1045 (lv_at hl 1 rfl) ?_
    refine lv_iconst (v := 3) F.1 F.2.1 dL_law_1047 (by decide) ?_
    refine lv_iadd F.1 F.2.1 dL_law_1048 ?_
    refine lv_fold (y := nI (6 * j + 3)) (nI_add (6 * j) 3) ?_
    refine va_sld F.1 F.2.1 hX hbl hbA w.2.2.2.1 (vp_in_nI (show 6 * j + 3 < L by omega) (by omega)) dL_law_1049 ?_
    refine lv_fold (y := xs (6 * j + 3)) (by rw [nI_clamp (by omega)]) ?_
    refine lv_if_eq (tgt := 1057) F.1 F.2.1 dL_law_1050 (by decide) (fun c_1 => absurd c_1 cb) (fun c_1 => ?_)
    refine lv_iconst (v := 1) F.1 F.2.1 dL_law_1053 (by decide) ?_
    refine lv_goto (tgt := 1058) F.1 F.2.1 dL_law_1054 (by decide) ?_
    rw [un_comm hd2] at w
    refine q_uVi (rest := []) F w hd2.symm kV_L_145 hd_X7_mends (ci := 8) rfl (t_X7_mends l D cy _ _ m0 ad M hMm hIM (xs (6 * j + 1)) (xs (6 * j + 2)) 1) hMm.1 dL_law_1058 rfl rfl hl.1 ⟨rfl, rfl, (Nat.le_of_ble_eq_true rfl), (Nat.le_of_ble_eq_true rfl)⟩ (Nat.le_of_ble_eq_true rfl) ⟨(show 50 + 8 * j + 1 + 0 ≤ 601024 by omega), (show 3000 + 3033 * j + 6 + 0 ≤ 7293034 by omega)⟩ (fun b9 Y1 H locs hp hd3 w => ?_)
    obtain ⟨hb9, hMm⟩ := hp
    rw [un_comm hd3] at w
    have hd2 := hd3.symm
    refine lv_istore (lv' := [(6, .int b9), (5, .int k9), (4, .int (nI (6 * j))), (3, .ref o), (2, .ref m0), (1, .ref (AD 0 0 0)), (0, .ref b)]) F.1 F.2.1 dL_law_1061 hl (by decide) rfl (fun ls hl => ?_)
    refine lv_aload_n F.1 F.2.1 dL_law_1063 rfl (lv_at hl 4 rfl) ?_
    have hMu := repM_un hMm hd2
    refine q_rV (rest := []) F w kV_L_104 hd_X7_thrown (ci := 8) rfl (c_X7_thrown l D cy A _ m0 ad _ hMu) hMu.1 dL_law_1064 rfl rfl hl.1 ⟨rfl, rfl, (Nat.le_of_ble_eq_true rfl), (Nat.le_of_ble_eq_true rfl)⟩ (Nat.le_of_ble_eq_true rfl) ⟨(show 50 + 8 * j + 1 + 0 ≤ 601024 by omega), (show 3000 + 3033 * j + 6 + 0 ≤ 7293034 by omega)⟩ ?_
    refine lv_fold (y := (HM_mends M (xs (6 * j + 1)) (xs (6 * j + 2)) 1) 0 0) rfl ?_
    refine lv_iload F.1 F.2.1 dL_law_1067 (lv_at hl 1 rfl) ?_
    refine lv_icmp_eq (tgt := 1074) F.1 F.2.1 dL_law_1069 (by decide) (fun c_1 => ?_) (fun c_1 => absurd (hs1.trans hk9.symm) c_1)
    refine lv_iload F.1 F.2.1 dL_law_1074 (lv_at hl 1 rfl) ?_
    refine lv_if_ne (tgt := 1091) F.1 F.2.1 dL_law_1076 (by decide) (fun c_2 => ?_) (fun c_2 => ?_)
    · refine lv_goto (tgt := 1785) F.1 F.2.1 dL_law_1091 (by decide) ?_
      refine W.widen (k := 50 + 8 * (j + 1)) (n := 3000 + 3033 * (j + 1)) (by omega) (by omega) ?_
      exact kk _ _ ls ⟨X1, Y1, AD1, ad, _, _, f1, w, hd1, hd2, congrFun (congrFun hA1 0) 0, hM1, hMm, hs3⟩ (lv_sub hl [2, 3, 4, 5, 6] rfl)
    · have hK0 := k0_mends G (xs (6 * j + 1)) (xs (6 * j + 2)) 1 (hk9.symm.trans c_2)
      refine lv_aload_n F.1 F.2.1 dL_law_1079 rfl (lv_at hl 3 rfl) ?_
      refine lv_iconst (v := 0) F.1 F.2.1 dL_law_1080 (by decide) ?_
      refine q_lald F w (un_l (un_r hd1 oneO_at)) (i := 0) (vp_in_nI (n := 0) (N := 1) (by decide) (by decide)) dL_law_1081 ?_
      refine lv_iload F.1 F.2.1 dL_law_1082 (lv_at hl 0 rfl) ?_
      refine lv_i2l F.1 F.2.1 dL_law_1084 rfl ?_
      refine W.lcmp F.1 F.2.1 dL_law_1085 ?_
      refine lv_if_eq (tgt := 1091) F.1 F.2.1 dL_law_1086 (by decide) (fun c_4 => ?_) (fun c_4 => absurd ((congrArg (fun z => lg_cmp z b9.toInt64) (show f1 0 = b9.toInt64 by rw [hv hK0, hb9, hs2 hK0])).trans (lgc0 _)) c_4)
      refine lv_goto (tgt := 1785) F.1 F.2.1 dL_law_1091 (by decide) ?_
      refine W.widen (k := 50 + 8 * (j + 1)) (n := 3000 + 3033 * (j + 1)) (by omega) (by omega) ?_
      exact kk _ _ ls ⟨X1, Y1, AD1, ad, _, _, f1, w, hd1, hd2, congrFun (congrFun hA1 0) 0, hM1, hMm, hs3⟩ (lv_sub hl [2, 3, 4, 5, 6] rfl)
set_option maxHeartbeats 4000000 in
set_option maxRecDepth 100000 in
theorem lk_detain (F : CallFix p m c cL_law 7 s #[Value.ref b] BIG RL) (hlf : l.stackTraces = false) (hR : Rstep9 R9) (hX : va_X b L xs s s.heap) (hbl : b < s.heap.size) (hbA : ¬ A b) (hL : L ≤ 3072) {j : Nat} (hj : j < 512) (h6 : 6 * j + 6 ≤ L) {H : Heap} {locs : List Loc} {ls : Array Slot} (hI : LInv9 D cy A s x0 m0 o R9 j H locs) (hl : lv_has ls 7 [(4, .int (nI (6 * j))), (3, .ref o), (2, .ref m0), (1, .ref x0), (0, .ref b)])
    (kk : ∀ (H1 : Heap) (locs1 : List Loc) (ls1 : Array Slot), LInv9 D cy A s x0 m0 o R9 (j + 1) H1 locs1 → lv_has ls1 7 [(4, .int (nI (6 * j))), (3, .ref o), (2, .ref m0), (1, .ref x0), (0, .ref b)] → W p l e room_1 s m #[Value.ref b] below meth c H1 locs1 (50 + 8 * (j + 1)) (3000 + 3033 * (j + 1)) Q (F0 m 1785 ls1 [])) : W p l e room_1 s m #[Value.ref b] below meth c H locs (50 + 8 * j) (3000 + 3033 * j) Q (F0 m 1094 ls []) := by
  obtain ⟨X, Y, AD, ad, G, M, f, w, hd1, hd2, hAD, hM, hMm, hRel⟩ := hI
  subst hAD
  obtain ⟨hI, hIM, hn9, hp9, hpM, hso, hrM⟩ := hR.1 j G M hRel
  have hn := hn9 hj
  obtain ⟨hs1, hs2, hs3⟩ := hR.2.2.2.2.2.2.2.2.2.2.2.2.2.2.2.1 j G M (xs (6 * j + 1)) hj hRel
  refine lv_aload_n F.1 F.2.1 dL_law_1094 rfl (lv_at hl 3 rfl) ?_
  refine lv_aload_n F.1 F.2.1 dL_law_1095 rfl (lv_at hl 4 rfl) ?_
  refine lv_iload F.1 F.2.1 dL_law_1096 (lv_at hl 0 rfl) ?_
  refine lv_iconst (v := 1) F.1 F.2.1 dL_law_1098 (by decide) ?_
  refine lv_iadd F.1 F.2.1 dL_law_1099 ?_
  refine lv_fold (y := nI (6 * j + 1)) (nI_add (6 * j) 1) ?_
  refine va_sld F.1 F.2.1 hX hbl hbA w.2.2.2.1 (vp_in_nI (show 6 * j + 1 < L by omega) (by omega)) dL_law_1100 ?_
  refine lv_fold (y := xs (6 * j + 1)) (by rw [nI_clamp (by omega)]) ?_
  refine lv_aload_n F.1 F.2.1 dL_law_1101 rfl (lv_at hl 1 rfl) ?_
  refine q_uSi (rest := []) F w hd2 kW_detain hdW_detain (c_L_detain l D cy _ X AD G hM hI f hd1 (xs (6 * j + 1)) hn hlf) dL_law_1102 rfl rfl hl.1 ⟨rfl, rfl, (Nat.le_of_ble_eq_true rfl), (Nat.le_of_ble_eq_true rfl)⟩ (Nat.le_of_ble_eq_true rfl) ⟨(show 50 + 8 * j + 2 ≤ 601024 by omega), (show 3000 + 3033 * j + 1004 ≤ 7293034 by omega)⟩ (fun k9 μ1 H locs hp hd2 w => ?_)
  obtain ⟨hk9, X1, AD1, f1, hμ, hd1, hA1, hM1, hv⟩ := hp
  subst hμ
  refine lv_istore (lv' := [(5, .int k9), (4, .int (nI (6 * j))), (3, .ref o), (2, .ref m0), (1, .ref (AD 0 0 0)), (0, .ref b)]) F.1 F.2.1 dL_law_1105 hl (by decide) rfl (fun ls hl => ?_)
  refine lv_aload_n F.1 F.2.1 dL_law_1107 rfl (lv_at hl 3 rfl) ?_
  refine lv_aload_n F.1 F.2.1 dL_law_1108 rfl (lv_at hl 5 rfl) ?_
  refine lv_iload F.1 F.2.1 dL_law_1109 (lv_at hl 1 rfl) ?_
  refine lv_iconst (v := 1) F.1 F.2.1 dL_law_1111 (by decide) ?_
  refine lv_iadd F.1 F.2.1 dL_law_1112 ?_
  refine lv_fold (y := nI (6 * j + 1)) (nI_add (6 * j) 1) ?_
  refine va_sld F.1 F.2.1 hX hbl hbA w.2.2.2.1 (vp_in_nI (show 6 * j + 1 < L by omega) (by omega)) dL_law_1113 ?_
  refine lv_fold (y := xs (6 * j + 1)) (by rw [nI_clamp (by omega)]) ?_
  rw [un_comm hd2] at w
  refine q_uVi (rest := []) F w hd2.symm kV_L_148 hd_X7_detain (ci := 8) rfl (t_X7_detain l D cy _ _ m0 ad M hMm hIM (xs (6 * j + 1)) hso) hMm.1 dL_law_1114 rfl rfl hl.1 ⟨rfl, rfl, (Nat.le_of_ble_eq_true rfl), (Nat.le_of_ble_eq_true rfl)⟩ (Nat.le_of_ble_eq_true rfl) ⟨(show 50 + 8 * j + 2 + 0 ≤ 601024 by omega), (show 3000 + 3033 * j + 1004 + 0 ≤ 7293034 by omega)⟩ (fun b9 Y1 H locs hp hd3 w => ?_)
  obtain ⟨hb9, hMm⟩ := hp
  rw [un_comm hd3] at w
  have hd2 := hd3.symm
  refine lv_istore (lv' := [(6, .int b9), (5, .int k9), (4, .int (nI (6 * j))), (3, .ref o), (2, .ref m0), (1, .ref (AD 0 0 0)), (0, .ref b)]) F.1 F.2.1 dL_law_1117 hl (by decide) rfl (fun ls hl => ?_)
  refine lv_aload_n F.1 F.2.1 dL_law_1119 rfl (lv_at hl 4 rfl) ?_
  have hMu := repM_un hMm hd2
  refine q_rV (rest := []) F w kV_L_104 hd_X7_thrown (ci := 8) rfl (c_X7_thrown l D cy A _ m0 ad _ hMu) hMu.1 dL_law_1120 rfl rfl hl.1 ⟨rfl, rfl, (Nat.le_of_ble_eq_true rfl), (Nat.le_of_ble_eq_true rfl)⟩ (Nat.le_of_ble_eq_true rfl) ⟨(show 50 + 8 * j + 2 + 0 ≤ 601024 by omega), (show 3000 + 3033 * j + 1004 + 0 ≤ 7293034 by omega)⟩ ?_
  refine lv_fold (y := (HM_detain M (xs (6 * j + 1))) 0 0) rfl ?_
  refine lv_iload F.1 F.2.1 dL_law_1123 (lv_at hl 1 rfl) ?_
  refine lv_icmp_eq (tgt := 1130) F.1 F.2.1 dL_law_1125 (by decide) (fun c_1 => ?_) (fun c_1 => absurd (hs1.trans hk9.symm) c_1)
  refine lv_iload F.1 F.2.1 dL_law_1130 (lv_at hl 1 rfl) ?_
  refine lv_if_ne (tgt := 1147) F.1 F.2.1 dL_law_1132 (by decide) (fun c_2 => ?_) (fun c_2 => ?_)
  · refine lv_goto (tgt := 1785) F.1 F.2.1 dL_law_1147 (by decide) ?_
    refine W.widen (k := 50 + 8 * (j + 1)) (n := 3000 + 3033 * (j + 1)) (by omega) (by omega) ?_
    exact kk _ _ ls ⟨X1, Y1, AD1, ad, _, _, f1, w, hd1, hd2, congrFun (congrFun hA1 0) 0, hM1, hMm, hs3⟩ (lv_sub hl [2, 3, 4, 5, 6] rfl)
  · have hK0 := k0_detain G (xs (6 * j + 1)) (hk9.symm.trans c_2)
    refine lv_aload_n F.1 F.2.1 dL_law_1135 rfl (lv_at hl 3 rfl) ?_
    refine lv_iconst (v := 0) F.1 F.2.1 dL_law_1136 (by decide) ?_
    refine q_lald F w (un_l (un_r hd1 oneO_at)) (i := 0) (vp_in_nI (n := 0) (N := 1) (by decide) (by decide)) dL_law_1137 ?_
    refine lv_iload F.1 F.2.1 dL_law_1138 (lv_at hl 0 rfl) ?_
    refine lv_i2l F.1 F.2.1 dL_law_1140 rfl ?_
    refine W.lcmp F.1 F.2.1 dL_law_1141 ?_
    refine lv_if_eq (tgt := 1147) F.1 F.2.1 dL_law_1142 (by decide) (fun c_4 => ?_) (fun c_4 => absurd ((congrArg (fun z => lg_cmp z b9.toInt64) (show f1 0 = b9.toInt64 by rw [hv hK0, hb9, hs2 hK0])).trans (lgc0 _)) c_4)
    refine lv_goto (tgt := 1785) F.1 F.2.1 dL_law_1147 (by decide) ?_
    refine W.widen (k := 50 + 8 * (j + 1)) (n := 3000 + 3033 * (j + 1)) (by omega) (by omega) ?_
    exact kk _ _ ls ⟨X1, Y1, AD1, ad, _, _, f1, w, hd1, hd2, congrFun (congrFun hA1 0) 0, hM1, hMm, hs3⟩ (lv_sub hl [2, 3, 4, 5, 6] rfl)
set_option maxHeartbeats 4000000 in
set_option maxRecDepth 100000 in
theorem lk_release (F : CallFix p m c cL_law 7 s #[Value.ref b] BIG RL) (hlf : l.stackTraces = false) (hR : Rstep9 R9) (hX : va_X b L xs s s.heap) (hbl : b < s.heap.size) (hbA : ¬ A b) (hL : L ≤ 3072) {j : Nat} (hj : j < 512) (h6 : 6 * j + 6 ≤ L) {H : Heap} {locs : List Loc} {ls : Array Slot} (hI : LInv9 D cy A s x0 m0 o R9 j H locs) (hl : lv_has ls 7 [(4, .int (nI (6 * j))), (3, .ref o), (2, .ref m0), (1, .ref x0), (0, .ref b)])
    (kk : ∀ (H1 : Heap) (locs1 : List Loc) (ls1 : Array Slot), LInv9 D cy A s x0 m0 o R9 (j + 1) H1 locs1 → lv_has ls1 7 [(4, .int (nI (6 * j))), (3, .ref o), (2, .ref m0), (1, .ref x0), (0, .ref b)] → W p l e room_1 s m #[Value.ref b] below meth c H1 locs1 (50 + 8 * (j + 1)) (3000 + 3033 * (j + 1)) Q (F0 m 1785 ls1 [])) : W p l e room_1 s m #[Value.ref b] below meth c H locs (50 + 8 * j) (3000 + 3033 * j) Q (F0 m 1150 ls []) := by
  obtain ⟨X, Y, AD, ad, G, M, f, w, hd1, hd2, hAD, hM, hMm, hRel⟩ := hI
  subst hAD
  obtain ⟨hI, hIM, hn9, hp9, hpM, hso, hrM⟩ := hR.1 j G M hRel
  have hn := hn9 hj
  obtain ⟨hs1, hs2, hs3⟩ := hR.2.2.2.2.2.2.2.2.2.2.2.2.2.2.2.2.1 j G M (xs (6 * j + 1)) hj hRel
  refine lv_aload_n F.1 F.2.1 dL_law_1150 rfl (lv_at hl 3 rfl) ?_
  refine lv_aload_n F.1 F.2.1 dL_law_1151 rfl (lv_at hl 4 rfl) ?_
  refine lv_iload F.1 F.2.1 dL_law_1152 (lv_at hl 0 rfl) ?_
  refine lv_iconst (v := 1) F.1 F.2.1 dL_law_1154 (by decide) ?_
  refine lv_iadd F.1 F.2.1 dL_law_1155 ?_
  refine lv_fold (y := nI (6 * j + 1)) (nI_add (6 * j) 1) ?_
  refine va_sld F.1 F.2.1 hX hbl hbA w.2.2.2.1 (vp_in_nI (show 6 * j + 1 < L by omega) (by omega)) dL_law_1156 ?_
  refine lv_fold (y := xs (6 * j + 1)) (by rw [nI_clamp (by omega)]) ?_
  refine lv_aload_n F.1 F.2.1 dL_law_1157 rfl (lv_at hl 1 rfl) ?_
  refine q_uSi (rest := []) F w hd2 kW_release hdW_release (c_L_release l D cy _ X AD G hM hI f hd1 (xs (6 * j + 1)) hlf) dL_law_1158 rfl rfl hl.1 ⟨rfl, rfl, (Nat.le_of_ble_eq_true rfl), (Nat.le_of_ble_eq_true rfl)⟩ (Nat.le_of_ble_eq_true rfl) ⟨(show 50 + 8 * j + 1 ≤ 601024 by omega), (show 3000 + 3033 * j + 6 ≤ 7293034 by omega)⟩ (fun k9 μ1 H locs hp hd2 w => ?_)
  obtain ⟨hk9, X1, AD1, f1, hμ, hd1, hA1, hM1, hv⟩ := hp
  subst hμ
  refine lv_istore (lv' := [(5, .int k9), (4, .int (nI (6 * j))), (3, .ref o), (2, .ref m0), (1, .ref (AD 0 0 0)), (0, .ref b)]) F.1 F.2.1 dL_law_1161 hl (by decide) rfl (fun ls hl => ?_)
  refine lv_aload_n F.1 F.2.1 dL_law_1163 rfl (lv_at hl 3 rfl) ?_
  refine lv_aload_n F.1 F.2.1 dL_law_1164 rfl (lv_at hl 5 rfl) ?_
  refine lv_iload F.1 F.2.1 dL_law_1165 (lv_at hl 1 rfl) ?_
  refine lv_iconst (v := 1) F.1 F.2.1 dL_law_1167 (by decide) ?_
  refine lv_iadd F.1 F.2.1 dL_law_1168 ?_
  refine lv_fold (y := nI (6 * j + 1)) (nI_add (6 * j) 1) ?_
  refine va_sld F.1 F.2.1 hX hbl hbA w.2.2.2.1 (vp_in_nI (show 6 * j + 1 < L by omega) (by omega)) dL_law_1169 ?_
  refine lv_fold (y := xs (6 * j + 1)) (by rw [nI_clamp (by omega)]) ?_
  rw [un_comm hd2] at w
  refine q_uVi (rest := []) F w hd2.symm kV_L_151 hd_X7_release (ci := 8) rfl (t_X7_release l D cy _ _ m0 ad M hMm hIM (xs (6 * j + 1)) hrM) hMm.1 dL_law_1170 rfl rfl hl.1 ⟨rfl, rfl, (Nat.le_of_ble_eq_true rfl), (Nat.le_of_ble_eq_true rfl)⟩ (Nat.le_of_ble_eq_true rfl) ⟨(show 50 + 8 * j + 1 + 0 ≤ 601024 by omega), (show 3000 + 3033 * j + 6 + 0 ≤ 7293034 by omega)⟩ (fun b9 Y1 H locs hp hd3 w => ?_)
  obtain ⟨hb9, hMm⟩ := hp
  rw [un_comm hd3] at w
  have hd2 := hd3.symm
  refine lv_istore (lv' := [(6, .int b9), (5, .int k9), (4, .int (nI (6 * j))), (3, .ref o), (2, .ref m0), (1, .ref (AD 0 0 0)), (0, .ref b)]) F.1 F.2.1 dL_law_1173 hl (by decide) rfl (fun ls hl => ?_)
  refine lv_aload_n F.1 F.2.1 dL_law_1175 rfl (lv_at hl 4 rfl) ?_
  have hMu := repM_un hMm hd2
  refine q_rV (rest := []) F w kV_L_104 hd_X7_thrown (ci := 8) rfl (c_X7_thrown l D cy A _ m0 ad _ hMu) hMu.1 dL_law_1176 rfl rfl hl.1 ⟨rfl, rfl, (Nat.le_of_ble_eq_true rfl), (Nat.le_of_ble_eq_true rfl)⟩ (Nat.le_of_ble_eq_true rfl) ⟨(show 50 + 8 * j + 1 + 0 ≤ 601024 by omega), (show 3000 + 3033 * j + 6 + 0 ≤ 7293034 by omega)⟩ ?_
  refine lv_fold (y := (HM_release M (xs (6 * j + 1))) 0 0) rfl ?_
  refine lv_iload F.1 F.2.1 dL_law_1179 (lv_at hl 1 rfl) ?_
  refine lv_icmp_eq (tgt := 1186) F.1 F.2.1 dL_law_1181 (by decide) (fun c_1 => ?_) (fun c_1 => absurd (hs1.trans hk9.symm) c_1)
  refine lv_iload F.1 F.2.1 dL_law_1186 (lv_at hl 1 rfl) ?_
  refine lv_if_ne (tgt := 1203) F.1 F.2.1 dL_law_1188 (by decide) (fun c_2 => ?_) (fun c_2 => ?_)
  · refine lv_goto (tgt := 1785) F.1 F.2.1 dL_law_1203 (by decide) ?_
    refine W.widen (k := 50 + 8 * (j + 1)) (n := 3000 + 3033 * (j + 1)) (by omega) (by omega) ?_
    exact kk _ _ ls ⟨X1, Y1, AD1, ad, _, _, f1, w, hd1, hd2, congrFun (congrFun hA1 0) 0, hM1, hMm, hs3⟩ (lv_sub hl [2, 3, 4, 5, 6] rfl)
  · have hK0 := k0_release G (xs (6 * j + 1)) (hk9.symm.trans c_2)
    refine lv_aload_n F.1 F.2.1 dL_law_1191 rfl (lv_at hl 3 rfl) ?_
    refine lv_iconst (v := 0) F.1 F.2.1 dL_law_1192 (by decide) ?_
    refine q_lald F w (un_l (un_r hd1 oneO_at)) (i := 0) (vp_in_nI (n := 0) (N := 1) (by decide) (by decide)) dL_law_1193 ?_
    refine lv_iload F.1 F.2.1 dL_law_1194 (lv_at hl 0 rfl) ?_
    refine lv_i2l F.1 F.2.1 dL_law_1196 rfl ?_
    refine W.lcmp F.1 F.2.1 dL_law_1197 ?_
    refine lv_if_eq (tgt := 1203) F.1 F.2.1 dL_law_1198 (by decide) (fun c_4 => ?_) (fun c_4 => absurd ((congrArg (fun z => lg_cmp z b9.toInt64) (show f1 0 = b9.toInt64 by rw [hv hK0, hb9, hs2 hK0])).trans (lgc0 _)) c_4)
    refine lv_goto (tgt := 1785) F.1 F.2.1 dL_law_1203 (by decide) ?_
    refine W.widen (k := 50 + 8 * (j + 1)) (n := 3000 + 3033 * (j + 1)) (by omega) (by omega) ?_
    exact kk _ _ ls ⟨X1, Y1, AD1, ad, _, _, f1, w, hd1, hd2, congrFun (congrFun hA1 0) 0, hM1, hMm, hs3⟩ (lv_sub hl [2, 3, 4, 5, 6] rfl)
set_option maxHeartbeats 4000000 in
set_option maxRecDepth 100000 in
theorem lk_appeal (F : CallFix p m c cL_law 7 s #[Value.ref b] BIG RL) (hlf : l.stackTraces = false) (hR : Rstep9 R9) (hX : va_X b L xs s s.heap) (hbl : b < s.heap.size) (hbA : ¬ A b) (hL : L ≤ 3072) {j : Nat} (hj : j < 512) (h6 : 6 * j + 6 ≤ L) {H : Heap} {locs : List Loc} {ls : Array Slot} (hI : LInv9 D cy A s x0 m0 o R9 j H locs) (hl : lv_has ls 7 [(4, .int (nI (6 * j))), (3, .ref o), (2, .ref m0), (1, .ref x0), (0, .ref b)])
    (kk : ∀ (H1 : Heap) (locs1 : List Loc) (ls1 : Array Slot), LInv9 D cy A s x0 m0 o R9 (j + 1) H1 locs1 → lv_has ls1 7 [(4, .int (nI (6 * j))), (3, .ref o), (2, .ref m0), (1, .ref x0), (0, .ref b)] → W p l e room_1 s m #[Value.ref b] below meth c H1 locs1 (50 + 8 * (j + 1)) (3000 + 3033 * (j + 1)) Q (F0 m 1785 ls1 [])) : W p l e room_1 s m #[Value.ref b] below meth c H locs (50 + 8 * j) (3000 + 3033 * j) Q (F0 m 1206 ls []) := by
  obtain ⟨X, Y, AD, ad, G, M, f, w, hd1, hd2, hAD, hM, hMm, hRel⟩ := hI
  subst hAD
  obtain ⟨hI, hIM, hn9, hp9, hpM, hso, hrM⟩ := hR.1 j G M hRel
  have hn := hn9 hj
  obtain ⟨hs1, hs3⟩ := hR.2.2.2.2.2.2.2.2.2.2.2.2.2.2.2.2.2.1 j G M (xs (6 * j + 1)) hj hRel
  refine lv_aload_n F.1 F.2.1 dL_law_1206 rfl (lv_at hl 3 rfl) ?_
  refine lv_aload_n F.1 F.2.1 dL_law_1207 rfl (lv_at hl 4 rfl) ?_
  refine lv_iload F.1 F.2.1 dL_law_1208 (lv_at hl 0 rfl) ?_
  refine lv_iconst (v := 1) F.1 F.2.1 dL_law_1210 (by decide) ?_
  refine lv_iadd F.1 F.2.1 dL_law_1211 ?_
  refine lv_fold (y := nI (6 * j + 1)) (nI_add (6 * j) 1) ?_
  refine va_sld F.1 F.2.1 hX hbl hbA w.2.2.2.1 (vp_in_nI (show 6 * j + 1 < L by omega) (by omega)) dL_law_1212 ?_
  refine lv_fold (y := xs (6 * j + 1)) (by rw [nI_clamp (by omega)]) ?_
  refine q_uSi (rest := []) F w hd2 kW_appeal hdW_appeal (c_L_appeal l D cy _ X AD G hM hI f hd1 (xs (6 * j + 1)) hlf) dL_law_1213 rfl rfl hl.1 ⟨rfl, rfl, (Nat.le_of_ble_eq_true rfl), (Nat.le_of_ble_eq_true rfl)⟩ (Nat.le_of_ble_eq_true rfl) ⟨(show 50 + 8 * j + 1 ≤ 601024 by omega), (show 3000 + 3033 * j + 6 ≤ 7293034 by omega)⟩ (fun k9 μ1 H locs hp hd2 w => ?_)
  obtain ⟨hk9, X1, AD1, f1, hμ, hd1, hA1, hM1, hv⟩ := hp
  subst hμ
  refine lv_istore (lv' := [(5, .int k9), (4, .int (nI (6 * j))), (3, .ref o), (2, .ref m0), (1, .ref (AD 0 0 0)), (0, .ref b)]) F.1 F.2.1 dL_law_1216 hl (by decide) rfl (fun ls hl => ?_)
  refine lv_aload_n F.1 F.2.1 dL_law_1218 rfl (lv_at hl 3 rfl) ?_
  refine lv_aload_n F.1 F.2.1 dL_law_1219 rfl (lv_at hl 5 rfl) ?_
  refine lv_iload F.1 F.2.1 dL_law_1220 (lv_at hl 1 rfl) ?_
  refine lv_iconst (v := 1) F.1 F.2.1 dL_law_1222 (by decide) ?_
  refine lv_iadd F.1 F.2.1 dL_law_1223 ?_
  refine lv_fold (y := nI (6 * j + 1)) (nI_add (6 * j) 1) ?_
  refine va_sld F.1 F.2.1 hX hbl hbA w.2.2.2.1 (vp_in_nI (show 6 * j + 1 < L by omega) (by omega)) dL_law_1224 ?_
  refine lv_fold (y := xs (6 * j + 1)) (by rw [nI_clamp (by omega)]) ?_
  rw [un_comm hd2] at w
  refine q_uVv (rest := []) F w hd2.symm kV_L_155 hd_X7_appeal (ci := 8) rfl (t_X7_appeal l D cy _ _ m0 ad M hMm hIM (xs (6 * j + 1))) hMm.1 dL_law_1225 rfl rfl hl.1 ⟨rfl, rfl, (Nat.le_of_ble_eq_true rfl), (Nat.le_of_ble_eq_true rfl)⟩ (Nat.le_of_ble_eq_true rfl) ⟨(show 50 + 8 * j + 1 + 0 ≤ 601024 by omega), (show 3000 + 3033 * j + 6 + 0 ≤ 7293034 by omega)⟩ (fun Y1 H locs hp hd3 w => ?_)
  have hMm := hp
  rw [un_comm hd3] at w
  have hd2 := hd3.symm
  refine lv_aload_n F.1 F.2.1 dL_law_1228 rfl (lv_at hl 3 rfl) ?_
  have hMu := repM_un hMm hd2
  refine q_rV (rest := []) F w kV_L_104 hd_X7_thrown (ci := 8) rfl (c_X7_thrown l D cy A _ m0 ad _ hMu) hMu.1 dL_law_1229 rfl rfl hl.1 ⟨rfl, rfl, (Nat.le_of_ble_eq_true rfl), (Nat.le_of_ble_eq_true rfl)⟩ (Nat.le_of_ble_eq_true rfl) ⟨(show 50 + 8 * j + 1 + 0 ≤ 601024 by omega), (show 3000 + 3033 * j + 6 + 0 ≤ 7293034 by omega)⟩ ?_
  refine lv_fold (y := (HM_appeal M (xs (6 * j + 1))) 0 0) rfl ?_
  refine lv_iload F.1 F.2.1 dL_law_1232 (lv_at hl 0 rfl) ?_
  refine lv_icmp_eq (tgt := 1239) F.1 F.2.1 dL_law_1234 (by decide) (fun c_1 => ?_) (fun c_1 => absurd (hs1.trans hk9.symm) c_1)
  refine lv_goto (tgt := 1785) F.1 F.2.1 dL_law_1239 (by decide) ?_
  refine W.widen (k := 50 + 8 * (j + 1)) (n := 3000 + 3033 * (j + 1)) (by omega) (by omega) ?_
  exact kk _ _ ls ⟨X1, Y1, AD1, ad, _, _, f1, w, hd1, hd2, congrFun (congrFun hA1 0) 0, hM1, hMm, hs3⟩ (lv_sub hl [1, 2, 3, 4, 5] rfl)
set_option maxHeartbeats 4000000 in
set_option maxRecDepth 100000 in
theorem lk_vote (F : CallFix p m c cL_law 7 s #[Value.ref b] BIG RL) (hlf : l.stackTraces = false) (hR : Rstep9 R9) (hX : va_X b L xs s s.heap) (hbl : b < s.heap.size) (hbA : ¬ A b) (hL : L ≤ 3072) {j : Nat} (hj : j < 512) (h6 : 6 * j + 6 ≤ L) {H : Heap} {locs : List Loc} {ls : Array Slot} (hI : LInv9 D cy A s x0 m0 o R9 j H locs) (hl : lv_has ls 7 [(4, .int (nI (6 * j))), (3, .ref o), (2, .ref m0), (1, .ref x0), (0, .ref b)])
    (kk : ∀ (H1 : Heap) (locs1 : List Loc) (ls1 : Array Slot), LInv9 D cy A s x0 m0 o R9 (j + 1) H1 locs1 → lv_has ls1 7 [(4, .int (nI (6 * j))), (3, .ref o), (2, .ref m0), (1, .ref x0), (0, .ref b)] → W p l e room_1 s m #[Value.ref b] below meth c H1 locs1 (50 + 8 * (j + 1)) (3000 + 3033 * (j + 1)) Q (F0 m 1785 ls1 [])) : W p l e room_1 s m #[Value.ref b] below meth c H locs (50 + 8 * j) (3000 + 3033 * j) Q (F0 m 1242 ls []) := by
  obtain ⟨X, Y, AD, ad, G, M, f, w, hd1, hd2, hAD, hM, hMm, hRel⟩ := hI
  subst hAD
  obtain ⟨hI, hIM, hn9, hp9, hpM, hso, hrM⟩ := hR.1 j G M hRel
  have hn := hn9 hj
  by_cases cb : xs (6 * j + 2) = 0
  · obtain ⟨hs1, hs2, hs3⟩ := hR.2.2.2.2.2.2.2.2.2.2.2.2.2.2.2.2.2.2.1 j G M (xs (6 * j + 1)) 0 hj hRel (by decide)
    refine lv_aload_n F.1 F.2.1 dL_law_1242 rfl (lv_at hl 3 rfl) ?_
    refine lv_aload_n F.1 F.2.1 dL_law_1243 rfl (lv_at hl 4 rfl) ?_
    refine lv_iload F.1 F.2.1 dL_law_1244 (lv_at hl 0 rfl) ?_
    refine lv_iconst (v := 1) F.1 F.2.1 dL_law_1246 (by decide) ?_
    refine lv_iadd F.1 F.2.1 dL_law_1247 ?_
    refine lv_fold (y := nI (6 * j + 1)) (nI_add (6 * j) 1) ?_
    refine va_sld F.1 F.2.1 hX hbl hbA w.2.2.2.1 (vp_in_nI (show 6 * j + 1 < L by omega) (by omega)) dL_law_1248 ?_
    refine lv_fold (y := xs (6 * j + 1)) (by rw [nI_clamp (by omega)]) ?_
    refine lv_aload_n F.1 F.2.1 dL_law_1249 rfl (lv_at hl 4 rfl) ?_
    refine lv_iload F.1 F.2.1 dL_law_1250 (lv_at hl 0 rfl) ?_
    refine lv_iconst (v := 2) F.1 F.2.1 dL_law_1252 (by decide) ?_
    refine lv_iadd F.1 F.2.1 dL_law_1253 ?_
    refine lv_fold (y := nI (6 * j + 2)) (nI_add (6 * j) 2) ?_
    refine va_sld F.1 F.2.1 hX hbl hbA w.2.2.2.1 (vp_in_nI (show 6 * j + 2 < L by omega) (by omega)) dL_law_1254 ?_
    refine lv_fold (y := xs (6 * j + 2)) (by rw [nI_clamp (by omega)]) ?_
    refine lv_if_eq (tgt := 1262) F.1 F.2.1 dL_law_1255 (by decide) (fun c_1 => ?_) (fun c_1 => absurd cb c_1)
    refine lv_iconst (v := 0) F.1 F.2.1 dL_law_1262 (by decide) ?_
    refine lv_aload_n F.1 F.2.1 dL_law_1263 rfl (lv_at hl 1 rfl) ?_
    refine q_uSi (rest := []) F w hd2 kW_vote hdW_vote (c_L_vote l D cy _ X AD G hM hI f hd1 (xs (6 * j + 1)) 0 (by decide) hn hlf) dL_law_1264 rfl rfl hl.1 ⟨rfl, rfl, (Nat.le_of_ble_eq_true rfl), (Nat.le_of_ble_eq_true rfl)⟩ (Nat.le_of_ble_eq_true rfl) ⟨(show 50 + 8 * j + 2 ≤ 601024 by omega), (show 3000 + 3033 * j + 1004 ≤ 7293034 by omega)⟩ (fun k9 μ1 H locs hp hd2 w => ?_)
    obtain ⟨hk9, X1, AD1, f1, hμ, hd1, hA1, hM1, hv⟩ := hp
    subst hμ
    refine lv_istore (lv' := [(5, .int k9), (4, .int (nI (6 * j))), (3, .ref o), (2, .ref m0), (1, .ref (AD 0 0 0)), (0, .ref b)]) F.1 F.2.1 dL_law_1267 hl (by decide) rfl (fun ls hl => ?_)
    refine lv_aload_n F.1 F.2.1 dL_law_1269 rfl (lv_at hl 3 rfl) ?_
    refine lv_aload_n F.1 F.2.1 dL_law_1270 rfl (lv_at hl 5 rfl) ?_
    refine lv_iload F.1 F.2.1 dL_law_1271 (lv_at hl 1 rfl) ?_
    refine lv_iconst (v := 1) F.1 F.2.1 dL_law_1273 (by decide) ?_
    refine lv_iadd F.1 F.2.1 dL_law_1274 ?_
    refine lv_fold (y := nI (6 * j + 1)) (nI_add (6 * j) 1) ?_
    refine va_sld F.1 F.2.1 hX hbl hbA w.2.2.2.1 (vp_in_nI (show 6 * j + 1 < L by omega) (by omega)) dL_law_1275 ?_
    refine lv_fold (y := xs (6 * j + 1)) (by rw [nI_clamp (by omega)]) ?_
    refine lv_aload_n F.1 F.2.1 dL_law_1276 rfl (lv_at hl 5 rfl) ?_
    refine lv_iload F.1 F.2.1 dL_law_1277 (lv_at hl 1 rfl) ?_
    refine lv_iconst (v := 2) F.1 F.2.1 dL_law_1279 (by decide) ?_
    refine lv_iadd F.1 F.2.1 dL_law_1280 ?_
    refine lv_fold (y := nI (6 * j + 2)) (nI_add (6 * j) 2) ?_
    refine va_sld F.1 F.2.1 hX hbl hbA w.2.2.2.1 (vp_in_nI (show 6 * j + 2 < L by omega) (by omega)) dL_law_1281 ?_
    refine lv_fold (y := xs (6 * j + 2)) (by rw [nI_clamp (by omega)]) ?_
    refine lv_if_eq (tgt := 1289) F.1 F.2.1 dL_law_1282 (by decide) (fun c_1 => ?_) (fun c_1 => absurd cb c_1)
    refine lv_iconst (v := 0) F.1 F.2.1 dL_law_1289 (by decide) ?_
    rw [un_comm hd2] at w
    refine q_uVi (rest := []) F w hd2.symm kV_L_158 hd_X7_vote (ci := 8) rfl (t_X7_vote l D cy _ _ m0 ad M hMm hIM (xs (6 * j + 1)) 0) hMm.1 dL_law_1290 rfl rfl hl.1 ⟨rfl, rfl, (Nat.le_of_ble_eq_true rfl), (Nat.le_of_ble_eq_true rfl)⟩ (Nat.le_of_ble_eq_true rfl) ⟨(show 50 + 8 * j + 2 + 0 ≤ 601024 by omega), (show 3000 + 3033 * j + 1004 + 0 ≤ 7293034 by omega)⟩ (fun b9 Y1 H locs hp hd3 w => ?_)
    obtain ⟨hb9, hMm⟩ := hp
    rw [un_comm hd3] at w
    have hd2 := hd3.symm
    refine lv_istore (lv' := [(6, .int b9), (5, .int k9), (4, .int (nI (6 * j))), (3, .ref o), (2, .ref m0), (1, .ref (AD 0 0 0)), (0, .ref b)]) F.1 F.2.1 dL_law_1293 hl (by decide) rfl (fun ls hl => ?_)
    refine lv_aload_n F.1 F.2.1 dL_law_1295 rfl (lv_at hl 4 rfl) ?_
    have hMu := repM_un hMm hd2
    refine q_rV (rest := []) F w kV_L_104 hd_X7_thrown (ci := 8) rfl (c_X7_thrown l D cy A _ m0 ad _ hMu) hMu.1 dL_law_1296 rfl rfl hl.1 ⟨rfl, rfl, (Nat.le_of_ble_eq_true rfl), (Nat.le_of_ble_eq_true rfl)⟩ (Nat.le_of_ble_eq_true rfl) ⟨(show 50 + 8 * j + 2 + 0 ≤ 601024 by omega), (show 3000 + 3033 * j + 1004 + 0 ≤ 7293034 by omega)⟩ ?_
    refine lv_fold (y := (HM_vote M (xs (6 * j + 1)) 0) 0 0) rfl ?_
    refine lv_iload F.1 F.2.1 dL_law_1299 (lv_at hl 1 rfl) ?_
    refine lv_icmp_eq (tgt := 1306) F.1 F.2.1 dL_law_1301 (by decide) (fun c_1 => ?_) (fun c_1 => absurd (hs1.trans hk9.symm) c_1)
    refine lv_iload F.1 F.2.1 dL_law_1306 (lv_at hl 1 rfl) ?_
    refine lv_if_ne (tgt := 1323) F.1 F.2.1 dL_law_1308 (by decide) (fun c_2 => ?_) (fun c_2 => ?_)
    · refine lv_goto (tgt := 1785) F.1 F.2.1 dL_law_1323 (by decide) ?_
      refine W.widen (k := 50 + 8 * (j + 1)) (n := 3000 + 3033 * (j + 1)) (by omega) (by omega) ?_
      exact kk _ _ ls ⟨X1, Y1, AD1, ad, _, _, f1, w, hd1, hd2, congrFun (congrFun hA1 0) 0, hM1, hMm, hs3⟩ (lv_sub hl [2, 3, 4, 5, 6] rfl)
    · have hK0 := k0_vote G (xs (6 * j + 1)) 0 (hk9.symm.trans c_2)
      refine lv_aload_n F.1 F.2.1 dL_law_1311 rfl (lv_at hl 3 rfl) ?_
      refine lv_iconst (v := 0) F.1 F.2.1 dL_law_1312 (by decide) ?_
      refine q_lald F w (un_l (un_r hd1 oneO_at)) (i := 0) (vp_in_nI (n := 0) (N := 1) (by decide) (by decide)) dL_law_1313 ?_
      refine lv_iload F.1 F.2.1 dL_law_1314 (lv_at hl 0 rfl) ?_
      refine lv_i2l F.1 F.2.1 dL_law_1316 rfl ?_
      refine W.lcmp F.1 F.2.1 dL_law_1317 ?_
      refine lv_if_eq (tgt := 1323) F.1 F.2.1 dL_law_1318 (by decide) (fun c_4 => ?_) (fun c_4 => absurd ((congrArg (fun z => lg_cmp z b9.toInt64) (show f1 0 = b9.toInt64 by rw [hv hK0, hb9, hs2 hK0])).trans (lgc0 _)) c_4)
      refine lv_goto (tgt := 1785) F.1 F.2.1 dL_law_1323 (by decide) ?_
      refine W.widen (k := 50 + 8 * (j + 1)) (n := 3000 + 3033 * (j + 1)) (by omega) (by omega) ?_
      exact kk _ _ ls ⟨X1, Y1, AD1, ad, _, _, f1, w, hd1, hd2, congrFun (congrFun hA1 0) 0, hM1, hMm, hs3⟩ (lv_sub hl [2, 3, 4, 5, 6] rfl)
  · obtain ⟨hs1, hs2, hs3⟩ := hR.2.2.2.2.2.2.2.2.2.2.2.2.2.2.2.2.2.2.1 j G M (xs (6 * j + 1)) 1 hj hRel (by decide)
    refine lv_aload_n F.1 F.2.1 dL_law_1242 rfl (lv_at hl 3 rfl) ?_
    refine lv_aload_n F.1 F.2.1 dL_law_1243 rfl (lv_at hl 4 rfl) ?_
    refine lv_iload F.1 F.2.1 dL_law_1244 (lv_at hl 0 rfl) ?_
    refine lv_iconst (v := 1) F.1 F.2.1 dL_law_1246 (by decide) ?_
    refine lv_iadd F.1 F.2.1 dL_law_1247 ?_
    refine lv_fold (y := nI (6 * j + 1)) (nI_add (6 * j) 1) ?_
    refine va_sld F.1 F.2.1 hX hbl hbA w.2.2.2.1 (vp_in_nI (show 6 * j + 1 < L by omega) (by omega)) dL_law_1248 ?_
    refine lv_fold (y := xs (6 * j + 1)) (by rw [nI_clamp (by omega)]) ?_
    refine lv_aload_n F.1 F.2.1 dL_law_1249 rfl (lv_at hl 4 rfl) ?_
    refine lv_iload F.1 F.2.1 dL_law_1250 (lv_at hl 0 rfl) ?_
    refine lv_iconst (v := 2) F.1 F.2.1 dL_law_1252 (by decide) ?_
    refine lv_iadd F.1 F.2.1 dL_law_1253 ?_
    refine lv_fold (y := nI (6 * j + 2)) (nI_add (6 * j) 2) ?_
    refine va_sld F.1 F.2.1 hX hbl hbA w.2.2.2.1 (vp_in_nI (show 6 * j + 2 < L by omega) (by omega)) dL_law_1254 ?_
    refine lv_fold (y := xs (6 * j + 2)) (by rw [nI_clamp (by omega)]) ?_
    refine lv_if_eq (tgt := 1262) F.1 F.2.1 dL_law_1255 (by decide) (fun c_1 => absurd c_1 cb) (fun c_1 => ?_)
    refine lv_iconst (v := 1) F.1 F.2.1 dL_law_1258 (by decide) ?_
    refine lv_goto (tgt := 1263) F.1 F.2.1 dL_law_1259 (by decide) ?_
    refine lv_aload_n F.1 F.2.1 dL_law_1263 rfl (lv_at hl 1 rfl) ?_
    refine q_uSi (rest := []) F w hd2 kW_vote hdW_vote (c_L_vote l D cy _ X AD G hM hI f hd1 (xs (6 * j + 1)) 1 (by decide) hn hlf) dL_law_1264 rfl rfl hl.1 ⟨rfl, rfl, (Nat.le_of_ble_eq_true rfl), (Nat.le_of_ble_eq_true rfl)⟩ (Nat.le_of_ble_eq_true rfl) ⟨(show 50 + 8 * j + 2 ≤ 601024 by omega), (show 3000 + 3033 * j + 1004 ≤ 7293034 by omega)⟩ (fun k9 μ1 H locs hp hd2 w => ?_)
    obtain ⟨hk9, X1, AD1, f1, hμ, hd1, hA1, hM1, hv⟩ := hp
    subst hμ
    refine lv_istore (lv' := [(5, .int k9), (4, .int (nI (6 * j))), (3, .ref o), (2, .ref m0), (1, .ref (AD 0 0 0)), (0, .ref b)]) F.1 F.2.1 dL_law_1267 hl (by decide) rfl (fun ls hl => ?_)
    refine lv_aload_n F.1 F.2.1 dL_law_1269 rfl (lv_at hl 3 rfl) ?_
    refine lv_aload_n F.1 F.2.1 dL_law_1270 rfl (lv_at hl 5 rfl) ?_
    refine lv_iload F.1 F.2.1 dL_law_1271 (lv_at hl 1 rfl) ?_
    refine lv_iconst (v := 1) F.1 F.2.1 dL_law_1273 (by decide) ?_
    refine lv_iadd F.1 F.2.1 dL_law_1274 ?_
    refine lv_fold (y := nI (6 * j + 1)) (nI_add (6 * j) 1) ?_
    refine va_sld F.1 F.2.1 hX hbl hbA w.2.2.2.1 (vp_in_nI (show 6 * j + 1 < L by omega) (by omega)) dL_law_1275 ?_
    refine lv_fold (y := xs (6 * j + 1)) (by rw [nI_clamp (by omega)]) ?_
    refine lv_aload_n F.1 F.2.1 dL_law_1276 rfl (lv_at hl 5 rfl) ?_
    refine lv_iload F.1 F.2.1 dL_law_1277 (lv_at hl 1 rfl) ?_
    refine lv_iconst (v := 2) F.1 F.2.1 dL_law_1279 (by decide) ?_
    refine lv_iadd F.1 F.2.1 dL_law_1280 ?_
    refine lv_fold (y := nI (6 * j + 2)) (nI_add (6 * j) 2) ?_
    refine va_sld F.1 F.2.1 hX hbl hbA w.2.2.2.1 (vp_in_nI (show 6 * j + 2 < L by omega) (by omega)) dL_law_1281 ?_
    refine lv_fold (y := xs (6 * j + 2)) (by rw [nI_clamp (by omega)]) ?_
    refine lv_if_eq (tgt := 1289) F.1 F.2.1 dL_law_1282 (by decide) (fun c_1 => absurd c_1 cb) (fun c_1 => ?_)
    refine lv_iconst (v := 1) F.1 F.2.1 dL_law_1285 (by decide) ?_
    refine lv_goto (tgt := 1290) F.1 F.2.1 dL_law_1286 (by decide) ?_
    rw [un_comm hd2] at w
    refine q_uVi (rest := []) F w hd2.symm kV_L_158 hd_X7_vote (ci := 8) rfl (t_X7_vote l D cy _ _ m0 ad M hMm hIM (xs (6 * j + 1)) 1) hMm.1 dL_law_1290 rfl rfl hl.1 ⟨rfl, rfl, (Nat.le_of_ble_eq_true rfl), (Nat.le_of_ble_eq_true rfl)⟩ (Nat.le_of_ble_eq_true rfl) ⟨(show 50 + 8 * j + 2 + 0 ≤ 601024 by omega), (show 3000 + 3033 * j + 1004 + 0 ≤ 7293034 by omega)⟩ (fun b9 Y1 H locs hp hd3 w => ?_)
    obtain ⟨hb9, hMm⟩ := hp
    rw [un_comm hd3] at w
    have hd2 := hd3.symm
    refine lv_istore (lv' := [(6, .int b9), (5, .int k9), (4, .int (nI (6 * j))), (3, .ref o), (2, .ref m0), (1, .ref (AD 0 0 0)), (0, .ref b)]) F.1 F.2.1 dL_law_1293 hl (by decide) rfl (fun ls hl => ?_)
    refine lv_aload_n F.1 F.2.1 dL_law_1295 rfl (lv_at hl 4 rfl) ?_
    have hMu := repM_un hMm hd2
    refine q_rV (rest := []) F w kV_L_104 hd_X7_thrown (ci := 8) rfl (c_X7_thrown l D cy A _ m0 ad _ hMu) hMu.1 dL_law_1296 rfl rfl hl.1 ⟨rfl, rfl, (Nat.le_of_ble_eq_true rfl), (Nat.le_of_ble_eq_true rfl)⟩ (Nat.le_of_ble_eq_true rfl) ⟨(show 50 + 8 * j + 2 + 0 ≤ 601024 by omega), (show 3000 + 3033 * j + 1004 + 0 ≤ 7293034 by omega)⟩ ?_
    refine lv_fold (y := (HM_vote M (xs (6 * j + 1)) 1) 0 0) rfl ?_
    refine lv_iload F.1 F.2.1 dL_law_1299 (lv_at hl 1 rfl) ?_
    refine lv_icmp_eq (tgt := 1306) F.1 F.2.1 dL_law_1301 (by decide) (fun c_1 => ?_) (fun c_1 => absurd (hs1.trans hk9.symm) c_1)
    refine lv_iload F.1 F.2.1 dL_law_1306 (lv_at hl 1 rfl) ?_
    refine lv_if_ne (tgt := 1323) F.1 F.2.1 dL_law_1308 (by decide) (fun c_2 => ?_) (fun c_2 => ?_)
    · refine lv_goto (tgt := 1785) F.1 F.2.1 dL_law_1323 (by decide) ?_
      refine W.widen (k := 50 + 8 * (j + 1)) (n := 3000 + 3033 * (j + 1)) (by omega) (by omega) ?_
      exact kk _ _ ls ⟨X1, Y1, AD1, ad, _, _, f1, w, hd1, hd2, congrFun (congrFun hA1 0) 0, hM1, hMm, hs3⟩ (lv_sub hl [2, 3, 4, 5, 6] rfl)
    · have hK0 := k0_vote G (xs (6 * j + 1)) 1 (hk9.symm.trans c_2)
      refine lv_aload_n F.1 F.2.1 dL_law_1311 rfl (lv_at hl 3 rfl) ?_
      refine lv_iconst (v := 0) F.1 F.2.1 dL_law_1312 (by decide) ?_
      refine q_lald F w (un_l (un_r hd1 oneO_at)) (i := 0) (vp_in_nI (n := 0) (N := 1) (by decide) (by decide)) dL_law_1313 ?_
      refine lv_iload F.1 F.2.1 dL_law_1314 (lv_at hl 0 rfl) ?_
      refine lv_i2l F.1 F.2.1 dL_law_1316 rfl ?_
      refine W.lcmp F.1 F.2.1 dL_law_1317 ?_
      refine lv_if_eq (tgt := 1323) F.1 F.2.1 dL_law_1318 (by decide) (fun c_4 => ?_) (fun c_4 => absurd ((congrArg (fun z => lg_cmp z b9.toInt64) (show f1 0 = b9.toInt64 by rw [hv hK0, hb9, hs2 hK0])).trans (lgc0 _)) c_4)
      refine lv_goto (tgt := 1785) F.1 F.2.1 dL_law_1323 (by decide) ?_
      refine W.widen (k := 50 + 8 * (j + 1)) (n := 3000 + 3033 * (j + 1)) (by omega) (by omega) ?_
      exact kk _ _ ls ⟨X1, Y1, AD1, ad, _, _, f1, w, hd1, hd2, congrFun (congrFun hA1 0) 0, hM1, hMm, hs3⟩ (lv_sub hl [2, 3, 4, 5, 6] rfl)
set_option maxHeartbeats 4000000 in
set_option maxRecDepth 100000 in
theorem lk_ofShip (F : CallFix p m c cL_law 7 s #[Value.ref b] BIG RL) (hlf : l.stackTraces = false) (hR : Rstep9 R9) (hX : va_X b L xs s s.heap) (hbl : b < s.heap.size) (hbA : ¬ A b) (hL : L ≤ 3072) {j : Nat} (hj : j < 512) (h6 : 6 * j + 6 ≤ L) {H : Heap} {locs : List Loc} {ls : Array Slot} (hI : LInv9 D cy A s x0 m0 o R9 j H locs) (hl : lv_has ls 7 [(4, .int (nI (6 * j))), (3, .ref o), (2, .ref m0), (1, .ref x0), (0, .ref b)])
    (kk : ∀ (H1 : Heap) (locs1 : List Loc) (ls1 : Array Slot), LInv9 D cy A s x0 m0 o R9 (j + 1) H1 locs1 → lv_has ls1 7 [(4, .int (nI (6 * j))), (3, .ref o), (2, .ref m0), (1, .ref x0), (0, .ref b)] → W p l e room_1 s m #[Value.ref b] below meth c H1 locs1 (50 + 8 * (j + 1)) (3000 + 3033 * (j + 1)) Q (F0 m 1785 ls1 [])) : W p l e room_1 s m #[Value.ref b] below meth c H locs (50 + 8 * j) (3000 + 3033 * j) Q (F0 m 1326 ls []) := by
  obtain ⟨X, Y, AD, ad, G, M, f, w, hd1, hd2, hAD, hM, hMm, hRel⟩ := hI
  subst hAD
  obtain ⟨hI, hIM, hn9, hp9, hpM, hso, hrM⟩ := hR.1 j G M hRel
  have hn := hn9 hj
  obtain ⟨hs1, hs2, hs3⟩ := hR.2.2.2.2.2.2.2.2.2.2.2.2.2.2.2.2.2.2.2.1 j G M (xs (6 * j + 1)) (xs (6 * j + 2)) hj hRel
  refine lv_aload_n F.1 F.2.1 dL_law_1326 rfl (lv_at hl 3 rfl) ?_
  refine lv_aload_n F.1 F.2.1 dL_law_1327 rfl (lv_at hl 4 rfl) ?_
  refine lv_iload F.1 F.2.1 dL_law_1328 (lv_at hl 0 rfl) ?_
  refine lv_iconst (v := 1) F.1 F.2.1 dL_law_1330 (by decide) ?_
  refine lv_iadd F.1 F.2.1 dL_law_1331 ?_
  refine lv_fold (y := nI (6 * j + 1)) (nI_add (6 * j) 1) ?_
  refine va_sld F.1 F.2.1 hX hbl hbA w.2.2.2.1 (vp_in_nI (show 6 * j + 1 < L by omega) (by omega)) dL_law_1332 ?_
  refine lv_fold (y := xs (6 * j + 1)) (by rw [nI_clamp (by omega)]) ?_
  refine lv_aload_n F.1 F.2.1 dL_law_1333 rfl (lv_at hl 4 rfl) ?_
  refine lv_iload F.1 F.2.1 dL_law_1334 (lv_at hl 0 rfl) ?_
  refine lv_iconst (v := 2) F.1 F.2.1 dL_law_1336 (by decide) ?_
  refine lv_iadd F.1 F.2.1 dL_law_1337 ?_
  refine lv_fold (y := nI (6 * j + 2)) (nI_add (6 * j) 2) ?_
  refine va_sld F.1 F.2.1 hX hbl hbA w.2.2.2.1 (vp_in_nI (show 6 * j + 2 < L by omega) (by omega)) dL_law_1338 ?_
  refine lv_fold (y := xs (6 * j + 2)) (by rw [nI_clamp (by omega)]) ?_
  refine lv_aload_n F.1 F.2.1 dL_law_1339 rfl (lv_at hl 1 rfl) ?_
  refine q_uSi (rest := []) F w hd2 kW_ofShip hdW_ofShip (c_L_ofShip l D cy _ X AD G hM hI f hd1 (xs (6 * j + 1)) (xs (6 * j + 2)) hlf) dL_law_1340 rfl rfl hl.1 ⟨rfl, rfl, (Nat.le_of_ble_eq_true rfl), (Nat.le_of_ble_eq_true rfl)⟩ (Nat.le_of_ble_eq_true rfl) ⟨(show 50 + 8 * j + 1 ≤ 601024 by omega), (show 3000 + 3033 * j + 6 ≤ 7293034 by omega)⟩ (fun k9 μ1 H locs hp hd2 w => ?_)
  obtain ⟨hk9, X1, AD1, f1, hμ, hd1, hA1, hM1, hv⟩ := hp
  subst hμ
  refine lv_istore (lv' := [(5, .int k9), (4, .int (nI (6 * j))), (3, .ref o), (2, .ref m0), (1, .ref (AD 0 0 0)), (0, .ref b)]) F.1 F.2.1 dL_law_1343 hl (by decide) rfl (fun ls hl => ?_)
  refine lv_aload_n F.1 F.2.1 dL_law_1345 rfl (lv_at hl 3 rfl) ?_
  refine lv_aload_n F.1 F.2.1 dL_law_1346 rfl (lv_at hl 5 rfl) ?_
  refine lv_iload F.1 F.2.1 dL_law_1347 (lv_at hl 1 rfl) ?_
  refine lv_iconst (v := 1) F.1 F.2.1 dL_law_1349 (by decide) ?_
  refine lv_iadd F.1 F.2.1 dL_law_1350 ?_
  refine lv_fold (y := nI (6 * j + 1)) (nI_add (6 * j) 1) ?_
  refine va_sld F.1 F.2.1 hX hbl hbA w.2.2.2.1 (vp_in_nI (show 6 * j + 1 < L by omega) (by omega)) dL_law_1351 ?_
  refine lv_fold (y := xs (6 * j + 1)) (by rw [nI_clamp (by omega)]) ?_
  refine lv_aload_n F.1 F.2.1 dL_law_1352 rfl (lv_at hl 5 rfl) ?_
  refine lv_iload F.1 F.2.1 dL_law_1353 (lv_at hl 1 rfl) ?_
  refine lv_iconst (v := 2) F.1 F.2.1 dL_law_1355 (by decide) ?_
  refine lv_iadd F.1 F.2.1 dL_law_1356 ?_
  refine lv_fold (y := nI (6 * j + 2)) (nI_add (6 * j) 2) ?_
  refine va_sld F.1 F.2.1 hX hbl hbA w.2.2.2.1 (vp_in_nI (show 6 * j + 2 < L by omega) (by omega)) dL_law_1357 ?_
  refine lv_fold (y := xs (6 * j + 2)) (by rw [nI_clamp (by omega)]) ?_
  rw [un_comm hd2] at w
  refine q_uVi (rest := []) F w hd2.symm kV_L_161 hd_X7_ofShip (ci := 8) rfl (t_X7_ofShip l D cy _ _ m0 ad M hMm hIM (xs (6 * j + 1)) (xs (6 * j + 2))) hMm.1 dL_law_1358 rfl rfl hl.1 ⟨rfl, rfl, (Nat.le_of_ble_eq_true rfl), (Nat.le_of_ble_eq_true rfl)⟩ (Nat.le_of_ble_eq_true rfl) ⟨(show 50 + 8 * j + 1 + 0 ≤ 601024 by omega), (show 3000 + 3033 * j + 6 + 0 ≤ 7293034 by omega)⟩ (fun b9 Y1 H locs hp hd3 w => ?_)
  obtain ⟨hb9, hMm⟩ := hp
  rw [un_comm hd3] at w
  have hd2 := hd3.symm
  refine lv_istore (lv' := [(6, .int b9), (5, .int k9), (4, .int (nI (6 * j))), (3, .ref o), (2, .ref m0), (1, .ref (AD 0 0 0)), (0, .ref b)]) F.1 F.2.1 dL_law_1361 hl (by decide) rfl (fun ls hl => ?_)
  refine lv_aload_n F.1 F.2.1 dL_law_1363 rfl (lv_at hl 4 rfl) ?_
  have hMu := repM_un hMm hd2
  refine q_rV (rest := []) F w kV_L_104 hd_X7_thrown (ci := 8) rfl (c_X7_thrown l D cy A _ m0 ad _ hMu) hMu.1 dL_law_1364 rfl rfl hl.1 ⟨rfl, rfl, (Nat.le_of_ble_eq_true rfl), (Nat.le_of_ble_eq_true rfl)⟩ (Nat.le_of_ble_eq_true rfl) ⟨(show 50 + 8 * j + 1 + 0 ≤ 601024 by omega), (show 3000 + 3033 * j + 6 + 0 ≤ 7293034 by omega)⟩ ?_
  refine lv_fold (y := (HM_ofShip M (xs (6 * j + 1)) (xs (6 * j + 2))) 0 0) rfl ?_
  refine lv_iload F.1 F.2.1 dL_law_1367 (lv_at hl 1 rfl) ?_
  refine lv_icmp_eq (tgt := 1374) F.1 F.2.1 dL_law_1369 (by decide) (fun c_1 => ?_) (fun c_1 => absurd (hs1.trans hk9.symm) c_1)
  refine lv_iload F.1 F.2.1 dL_law_1374 (lv_at hl 1 rfl) ?_
  refine lv_if_ne (tgt := 1391) F.1 F.2.1 dL_law_1376 (by decide) (fun c_2 => ?_) (fun c_2 => ?_)
  · refine lv_goto (tgt := 1785) F.1 F.2.1 dL_law_1391 (by decide) ?_
    refine W.widen (k := 50 + 8 * (j + 1)) (n := 3000 + 3033 * (j + 1)) (by omega) (by omega) ?_
    exact kk _ _ ls ⟨X1, Y1, AD1, ad, _, _, f1, w, hd1, hd2, congrFun (congrFun hA1 0) 0, hM1, hMm, hs3⟩ (lv_sub hl [2, 3, 4, 5, 6] rfl)
  · have hK0 := k0_ofShip G (xs (6 * j + 1)) (xs (6 * j + 2)) (hk9.symm.trans c_2)
    refine lv_aload_n F.1 F.2.1 dL_law_1379 rfl (lv_at hl 3 rfl) ?_
    refine lv_iconst (v := 0) F.1 F.2.1 dL_law_1380 (by decide) ?_
    refine q_lald F w (un_l (un_r hd1 oneO_at)) (i := 0) (vp_in_nI (n := 0) (N := 1) (by decide) (by decide)) dL_law_1381 ?_
    refine lv_iload F.1 F.2.1 dL_law_1382 (lv_at hl 0 rfl) ?_
    refine lv_i2l F.1 F.2.1 dL_law_1384 rfl ?_
    refine W.lcmp F.1 F.2.1 dL_law_1385 ?_
    refine lv_if_eq (tgt := 1391) F.1 F.2.1 dL_law_1386 (by decide) (fun c_4 => ?_) (fun c_4 => absurd ((congrArg (fun z => lg_cmp z b9.toInt64) (show f1 0 = b9.toInt64 by rw [hv hK0, hb9, hs2 hK0])).trans (lgc0 _)) c_4)
    refine lv_goto (tgt := 1785) F.1 F.2.1 dL_law_1391 (by decide) ?_
    refine W.widen (k := 50 + 8 * (j + 1)) (n := 3000 + 3033 * (j + 1)) (by omega) (by omega) ?_
    exact kk _ _ ls ⟨X1, Y1, AD1, ad, _, _, f1, w, hd1, hd2, congrFun (congrFun hA1 0) 0, hM1, hMm, hs3⟩ (lv_sub hl [2, 3, 4, 5, 6] rfl)
set_option maxHeartbeats 4000000 in
set_option maxRecDepth 100000 in
theorem lk_pointsAnew (F : CallFix p m c cL_law 7 s #[Value.ref b] BIG RL) (hlf : l.stackTraces = false) (hR : Rstep9 R9) (hX : va_X b L xs s s.heap) (hbl : b < s.heap.size) (hbA : ¬ A b) (hL : L ≤ 3072) {j : Nat} (hj : j < 512) (h6 : 6 * j + 6 ≤ L) {H : Heap} {locs : List Loc} {ls : Array Slot} (hI : LInv9 D cy A s x0 m0 o R9 j H locs) (hl : lv_has ls 7 [(4, .int (nI (6 * j))), (3, .ref o), (2, .ref m0), (1, .ref x0), (0, .ref b)])
    (kk : ∀ (H1 : Heap) (locs1 : List Loc) (ls1 : Array Slot), LInv9 D cy A s x0 m0 o R9 (j + 1) H1 locs1 → lv_has ls1 7 [(4, .int (nI (6 * j))), (3, .ref o), (2, .ref m0), (1, .ref x0), (0, .ref b)] → W p l e room_1 s m #[Value.ref b] below meth c H1 locs1 (50 + 8 * (j + 1)) (3000 + 3033 * (j + 1)) Q (F0 m 1785 ls1 [])) : W p l e room_1 s m #[Value.ref b] below meth c H locs (50 + 8 * j) (3000 + 3033 * j) Q (F0 m 1394 ls []) := by
  obtain ⟨X, Y, AD, ad, G, M, f, w, hd1, hd2, hAD, hM, hMm, hRel⟩ := hI
  subst hAD
  obtain ⟨hI, hIM, hn9, hp9, hpM, hso, hrM⟩ := hR.1 j G M hRel
  have hn := hn9 hj
  obtain ⟨hs1, hs2, hs3⟩ := hR.2.2.2.2.2.2.2.2.2.2.2.2.2.2.2.2.2.2.2.2.1 j G M (xs (6 * j + 1)) hj hRel
  refine lv_aload_n F.1 F.2.1 dL_law_1394 rfl (lv_at hl 3 rfl) ?_
  refine lv_aload_n F.1 F.2.1 dL_law_1395 rfl (lv_at hl 4 rfl) ?_
  refine lv_iload F.1 F.2.1 dL_law_1396 (lv_at hl 0 rfl) ?_
  refine lv_iconst (v := 1) F.1 F.2.1 dL_law_1398 (by decide) ?_
  refine lv_iadd F.1 F.2.1 dL_law_1399 ?_
  refine lv_fold (y := nI (6 * j + 1)) (nI_add (6 * j) 1) ?_
  refine va_sld F.1 F.2.1 hX hbl hbA w.2.2.2.1 (vp_in_nI (show 6 * j + 1 < L by omega) (by omega)) dL_law_1400 ?_
  refine lv_fold (y := xs (6 * j + 1)) (by rw [nI_clamp (by omega)]) ?_
  refine lv_aload_n F.1 F.2.1 dL_law_1401 rfl (lv_at hl 1 rfl) ?_
  refine q_uSi (rest := []) F w hd2 kW_pointsAnew hdW_pointsAnew (c_L_pointsAnew l D cy _ X AD G hM hI f hd1 (xs (6 * j + 1)) hlf) dL_law_1402 rfl rfl hl.1 ⟨rfl, rfl, (Nat.le_of_ble_eq_true rfl), (Nat.le_of_ble_eq_true rfl)⟩ (Nat.le_of_ble_eq_true rfl) ⟨(show 50 + 8 * j + 1 ≤ 601024 by omega), (show 3000 + 3033 * j + 6 ≤ 7293034 by omega)⟩ (fun k9 μ1 H locs hp hd2 w => ?_)
  obtain ⟨hk9, X1, AD1, f1, hμ, hd1, hA1, hM1, hv⟩ := hp
  subst hμ
  refine lv_istore (lv' := [(5, .int k9), (4, .int (nI (6 * j))), (3, .ref o), (2, .ref m0), (1, .ref (AD 0 0 0)), (0, .ref b)]) F.1 F.2.1 dL_law_1405 hl (by decide) rfl (fun ls hl => ?_)
  refine lv_aload_n F.1 F.2.1 dL_law_1407 rfl (lv_at hl 3 rfl) ?_
  refine lv_aload_n F.1 F.2.1 dL_law_1408 rfl (lv_at hl 5 rfl) ?_
  refine lv_iload F.1 F.2.1 dL_law_1409 (lv_at hl 1 rfl) ?_
  refine lv_iconst (v := 1) F.1 F.2.1 dL_law_1411 (by decide) ?_
  refine lv_iadd F.1 F.2.1 dL_law_1412 ?_
  refine lv_fold (y := nI (6 * j + 1)) (nI_add (6 * j) 1) ?_
  refine va_sld F.1 F.2.1 hX hbl hbA w.2.2.2.1 (vp_in_nI (show 6 * j + 1 < L by omega) (by omega)) dL_law_1413 ?_
  refine lv_fold (y := xs (6 * j + 1)) (by rw [nI_clamp (by omega)]) ?_
  rw [un_comm hd2] at w
  refine q_uVi (rest := []) F w hd2.symm kV_L_164 hd_X7_pointsAnew (ci := 8) rfl (t_X7_pointsAnew l D cy _ _ m0 ad M hMm hIM (xs (6 * j + 1))) hMm.1 dL_law_1414 rfl rfl hl.1 ⟨rfl, rfl, (Nat.le_of_ble_eq_true rfl), (Nat.le_of_ble_eq_true rfl)⟩ (Nat.le_of_ble_eq_true rfl) ⟨(show 50 + 8 * j + 1 + 0 ≤ 601024 by omega), (show 3000 + 3033 * j + 6 + 0 ≤ 7293034 by omega)⟩ (fun b9 Y1 H locs hp hd3 w => ?_)
  obtain ⟨hb9, hMm⟩ := hp
  rw [un_comm hd3] at w
  have hd2 := hd3.symm
  refine lv_istore (lv' := [(6, .int b9), (5, .int k9), (4, .int (nI (6 * j))), (3, .ref o), (2, .ref m0), (1, .ref (AD 0 0 0)), (0, .ref b)]) F.1 F.2.1 dL_law_1417 hl (by decide) rfl (fun ls hl => ?_)
  refine lv_aload_n F.1 F.2.1 dL_law_1419 rfl (lv_at hl 4 rfl) ?_
  have hMu := repM_un hMm hd2
  refine q_rV (rest := []) F w kV_L_104 hd_X7_thrown (ci := 8) rfl (c_X7_thrown l D cy A _ m0 ad _ hMu) hMu.1 dL_law_1420 rfl rfl hl.1 ⟨rfl, rfl, (Nat.le_of_ble_eq_true rfl), (Nat.le_of_ble_eq_true rfl)⟩ (Nat.le_of_ble_eq_true rfl) ⟨(show 50 + 8 * j + 1 + 0 ≤ 601024 by omega), (show 3000 + 3033 * j + 6 + 0 ≤ 7293034 by omega)⟩ ?_
  refine lv_fold (y := (HM_pointsAnew M (xs (6 * j + 1))) 0 0) rfl ?_
  refine lv_iload F.1 F.2.1 dL_law_1423 (lv_at hl 1 rfl) ?_
  refine lv_icmp_eq (tgt := 1430) F.1 F.2.1 dL_law_1425 (by decide) (fun c_1 => ?_) (fun c_1 => absurd (hs1.trans hk9.symm) c_1)
  refine lv_iload F.1 F.2.1 dL_law_1430 (lv_at hl 1 rfl) ?_
  refine lv_if_ne (tgt := 1447) F.1 F.2.1 dL_law_1432 (by decide) (fun c_2 => ?_) (fun c_2 => ?_)
  · refine lv_goto (tgt := 1785) F.1 F.2.1 dL_law_1447 (by decide) ?_
    refine W.widen (k := 50 + 8 * (j + 1)) (n := 3000 + 3033 * (j + 1)) (by omega) (by omega) ?_
    exact kk _ _ ls ⟨X1, Y1, AD1, ad, _, _, f1, w, hd1, hd2, congrFun (congrFun hA1 0) 0, hM1, hMm, hs3⟩ (lv_sub hl [2, 3, 4, 5, 6] rfl)
  · have hK0 := k0_pointsAnew G (xs (6 * j + 1)) (hk9.symm.trans c_2)
    refine lv_aload_n F.1 F.2.1 dL_law_1435 rfl (lv_at hl 3 rfl) ?_
    refine lv_iconst (v := 0) F.1 F.2.1 dL_law_1436 (by decide) ?_
    refine q_lald F w (un_l (un_r hd1 oneO_at)) (i := 0) (vp_in_nI (n := 0) (N := 1) (by decide) (by decide)) dL_law_1437 ?_
    refine lv_iload F.1 F.2.1 dL_law_1438 (lv_at hl 0 rfl) ?_
    refine lv_i2l F.1 F.2.1 dL_law_1440 rfl ?_
    refine W.lcmp F.1 F.2.1 dL_law_1441 ?_
    refine lv_if_eq (tgt := 1447) F.1 F.2.1 dL_law_1442 (by decide) (fun c_4 => ?_) (fun c_4 => absurd ((congrArg (fun z => lg_cmp z b9.toInt64) (show f1 0 = b9.toInt64 by rw [hv hK0, hb9, hs2 hK0])).trans (lgc0 _)) c_4)
    refine lv_goto (tgt := 1785) F.1 F.2.1 dL_law_1447 (by decide) ?_
    refine W.widen (k := 50 + 8 * (j + 1)) (n := 3000 + 3033 * (j + 1)) (by omega) (by omega) ?_
    exact kk _ _ ls ⟨X1, Y1, AD1, ad, _, _, f1, w, hd1, hd2, congrFun (congrFun hA1 0) 0, hM1, hMm, hs3⟩ (lv_sub hl [2, 3, 4, 5, 6] rfl)
set_option maxHeartbeats 4000000 in
set_option maxRecDepth 100000 in
theorem lk_isGround (F : CallFix p m c cL_law 7 s #[Value.ref b] BIG RL) (hlf : l.stackTraces = false) (hR : Rstep9 R9) (hX : va_X b L xs s s.heap) (hbl : b < s.heap.size) (hbA : ¬ A b) (hL : L ≤ 3072) {j : Nat} (hj : j < 512) (h6 : 6 * j + 6 ≤ L) {H : Heap} {locs : List Loc} {ls : Array Slot} (hI : LInv9 D cy A s x0 m0 o R9 j H locs) (hl : lv_has ls 7 [(4, .int (nI (6 * j))), (3, .ref o), (2, .ref m0), (1, .ref x0), (0, .ref b)])
    (kk : ∀ (H1 : Heap) (locs1 : List Loc) (ls1 : Array Slot), LInv9 D cy A s x0 m0 o R9 (j + 1) H1 locs1 → lv_has ls1 7 [(4, .int (nI (6 * j))), (3, .ref o), (2, .ref m0), (1, .ref x0), (0, .ref b)] → W p l e room_1 s m #[Value.ref b] below meth c H1 locs1 (50 + 8 * (j + 1)) (3000 + 3033 * (j + 1)) Q (F0 m 1785 ls1 [])) : W p l e room_1 s m #[Value.ref b] below meth c H locs (50 + 8 * j) (3000 + 3033 * j) Q (F0 m 1450 ls []) := by
  obtain ⟨X, Y, AD, ad, G, M, f, w, hd1, hd2, hAD, hM, hMm, hRel⟩ := hI
  subst hAD
  obtain ⟨hI, hIM, hn9, hp9, hpM, hso, hrM⟩ := hR.1 j G M hRel
  have hn := hn9 hj
  obtain ⟨hs1, hs2, hs3⟩ := hR.2.2.2.2.2.2.2.2.2.2.2.2.2.2.2.2.2.2.2.2.2.1 j G M (xs (6 * j + 1)) (xs (6 * j + 2)) hj hRel
  refine lv_aload_n F.1 F.2.1 dL_law_1450 rfl (lv_at hl 3 rfl) ?_
  refine lv_aload_n F.1 F.2.1 dL_law_1451 rfl (lv_at hl 4 rfl) ?_
  refine lv_iload F.1 F.2.1 dL_law_1452 (lv_at hl 0 rfl) ?_
  refine lv_iconst (v := 1) F.1 F.2.1 dL_law_1454 (by decide) ?_
  refine lv_iadd F.1 F.2.1 dL_law_1455 ?_
  refine lv_fold (y := nI (6 * j + 1)) (nI_add (6 * j) 1) ?_
  refine va_sld F.1 F.2.1 hX hbl hbA w.2.2.2.1 (vp_in_nI (show 6 * j + 1 < L by omega) (by omega)) dL_law_1456 ?_
  refine lv_fold (y := xs (6 * j + 1)) (by rw [nI_clamp (by omega)]) ?_
  refine lv_aload_n F.1 F.2.1 dL_law_1457 rfl (lv_at hl 4 rfl) ?_
  refine lv_iload F.1 F.2.1 dL_law_1458 (lv_at hl 0 rfl) ?_
  refine lv_iconst (v := 2) F.1 F.2.1 dL_law_1460 (by decide) ?_
  refine lv_iadd F.1 F.2.1 dL_law_1461 ?_
  refine lv_fold (y := nI (6 * j + 2)) (nI_add (6 * j) 2) ?_
  refine va_sld F.1 F.2.1 hX hbl hbA w.2.2.2.1 (vp_in_nI (show 6 * j + 2 < L by omega) (by omega)) dL_law_1462 ?_
  refine lv_fold (y := xs (6 * j + 2)) (by rw [nI_clamp (by omega)]) ?_
  refine lv_aload_n F.1 F.2.1 dL_law_1463 rfl (lv_at hl 1 rfl) ?_
  refine q_uSi (rest := []) F w hd2 kW_isGround hdW_isGround (c_L_isGround l D cy _ X AD G hM hI f hd1 (xs (6 * j + 1)) (xs (6 * j + 2)) hlf) dL_law_1464 rfl rfl hl.1 ⟨rfl, rfl, (Nat.le_of_ble_eq_true rfl), (Nat.le_of_ble_eq_true rfl)⟩ (Nat.le_of_ble_eq_true rfl) ⟨(show 50 + 8 * j + 1 ≤ 601024 by omega), (show 3000 + 3033 * j + 6 ≤ 7293034 by omega)⟩ (fun k9 μ1 H locs hp hd2 w => ?_)
  obtain ⟨hk9, X1, AD1, f1, hμ, hd1, hA1, hM1, hv⟩ := hp
  subst hμ
  refine lv_istore (lv' := [(5, .int k9), (4, .int (nI (6 * j))), (3, .ref o), (2, .ref m0), (1, .ref (AD 0 0 0)), (0, .ref b)]) F.1 F.2.1 dL_law_1467 hl (by decide) rfl (fun ls hl => ?_)
  refine lv_aload_n F.1 F.2.1 dL_law_1469 rfl (lv_at hl 3 rfl) ?_
  refine lv_aload_n F.1 F.2.1 dL_law_1470 rfl (lv_at hl 5 rfl) ?_
  refine lv_iload F.1 F.2.1 dL_law_1471 (lv_at hl 1 rfl) ?_
  refine lv_iconst (v := 1) F.1 F.2.1 dL_law_1473 (by decide) ?_
  refine lv_iadd F.1 F.2.1 dL_law_1474 ?_
  refine lv_fold (y := nI (6 * j + 1)) (nI_add (6 * j) 1) ?_
  refine va_sld F.1 F.2.1 hX hbl hbA w.2.2.2.1 (vp_in_nI (show 6 * j + 1 < L by omega) (by omega)) dL_law_1475 ?_
  refine lv_fold (y := xs (6 * j + 1)) (by rw [nI_clamp (by omega)]) ?_
  refine lv_aload_n F.1 F.2.1 dL_law_1476 rfl (lv_at hl 5 rfl) ?_
  refine lv_iload F.1 F.2.1 dL_law_1477 (lv_at hl 1 rfl) ?_
  refine lv_iconst (v := 2) F.1 F.2.1 dL_law_1479 (by decide) ?_
  refine lv_iadd F.1 F.2.1 dL_law_1480 ?_
  refine lv_fold (y := nI (6 * j + 2)) (nI_add (6 * j) 2) ?_
  refine va_sld F.1 F.2.1 hX hbl hbA w.2.2.2.1 (vp_in_nI (show 6 * j + 2 < L by omega) (by omega)) dL_law_1481 ?_
  refine lv_fold (y := xs (6 * j + 2)) (by rw [nI_clamp (by omega)]) ?_
  rw [un_comm hd2] at w
  refine q_uVi (rest := []) F w hd2.symm kV_L_167 hd_X7_isGround (ci := 8) rfl (t_X7_isGround l D cy _ _ m0 ad M hMm hIM (xs (6 * j + 1)) (xs (6 * j + 2))) hMm.1 dL_law_1482 rfl rfl hl.1 ⟨rfl, rfl, (Nat.le_of_ble_eq_true rfl), (Nat.le_of_ble_eq_true rfl)⟩ (Nat.le_of_ble_eq_true rfl) ⟨(show 50 + 8 * j + 1 + 0 ≤ 601024 by omega), (show 3000 + 3033 * j + 6 + 0 ≤ 7293034 by omega)⟩ (fun b9 Y1 H locs hp hd3 w => ?_)
  obtain ⟨hb9, hMm⟩ := hp
  rw [un_comm hd3] at w
  have hd2 := hd3.symm
  refine lv_istore (lv' := [(6, .int b9), (5, .int k9), (4, .int (nI (6 * j))), (3, .ref o), (2, .ref m0), (1, .ref (AD 0 0 0)), (0, .ref b)]) F.1 F.2.1 dL_law_1485 hl (by decide) rfl (fun ls hl => ?_)
  refine lv_aload_n F.1 F.2.1 dL_law_1487 rfl (lv_at hl 4 rfl) ?_
  have hMu := repM_un hMm hd2
  refine q_rV (rest := []) F w kV_L_104 hd_X7_thrown (ci := 8) rfl (c_X7_thrown l D cy A _ m0 ad _ hMu) hMu.1 dL_law_1488 rfl rfl hl.1 ⟨rfl, rfl, (Nat.le_of_ble_eq_true rfl), (Nat.le_of_ble_eq_true rfl)⟩ (Nat.le_of_ble_eq_true rfl) ⟨(show 50 + 8 * j + 1 + 0 ≤ 601024 by omega), (show 3000 + 3033 * j + 6 + 0 ≤ 7293034 by omega)⟩ ?_
  refine lv_fold (y := (HM_isGround M (xs (6 * j + 1)) (xs (6 * j + 2))) 0 0) rfl ?_
  refine lv_iload F.1 F.2.1 dL_law_1491 (lv_at hl 1 rfl) ?_
  refine lv_icmp_eq (tgt := 1498) F.1 F.2.1 dL_law_1493 (by decide) (fun c_1 => ?_) (fun c_1 => absurd (hs1.trans hk9.symm) c_1)
  refine lv_iload F.1 F.2.1 dL_law_1498 (lv_at hl 1 rfl) ?_
  refine lv_if_ne (tgt := 1522) F.1 F.2.1 dL_law_1500 (by decide) (fun c_2 => ?_) (fun c_2 => ?_)
  · refine lv_goto (tgt := 1785) F.1 F.2.1 dL_law_1522 (by decide) ?_
    refine W.widen (k := 50 + 8 * (j + 1)) (n := 3000 + 3033 * (j + 1)) (by omega) (by omega) ?_
    exact kk _ _ ls ⟨X1, Y1, AD1, ad, _, _, f1, w, hd1, hd2, congrFun (congrFun hA1 0) 0, hM1, hMm, hs3⟩ (lv_sub hl [2, 3, 4, 5, 6] rfl)
  · have hK0 := k0_isGround G (xs (6 * j + 1)) (xs (6 * j + 2)) (hk9.symm.trans c_2)
    refine lv_aload_n F.1 F.2.1 dL_law_1503 rfl (lv_at hl 3 rfl) ?_
    refine lv_iconst (v := 0) F.1 F.2.1 dL_law_1504 (by decide) ?_
    refine q_lald F w (un_l (un_r hd1 oneO_at)) (i := 0) (vp_in_nI (n := 0) (N := 1) (by decide) (by decide)) dL_law_1505 ?_
    refine lv_iload F.1 F.2.1 dL_law_1506 (lv_at hl 0 rfl) ?_
    refine lv_if_eq (tgt := 1515) F.1 F.2.1 dL_law_1508 (by decide) (fun c_3 => ?_) (fun c_3 => ?_)
    · refine lv_lconst (v := 0) F.1 F.2.1 dL_law_1515 (by decide) ?_
      refine W.lcmp F.1 F.2.1 dL_law_1516 ?_
      refine lv_if_eq (tgt := 1522) F.1 F.2.1 dL_law_1517 (by decide) (fun c_4 => ?_) (fun c_4 => absurd ((congrArg (fun z => lg_cmp z 0) (show f1 0 = 0 by rw [hv hK0, ← hs2 hK0, ← hb9, if_pos c_3])).trans (lgc0 _)) c_4)
      refine lv_goto (tgt := 1785) F.1 F.2.1 dL_law_1522 (by decide) ?_
      refine W.widen (k := 50 + 8 * (j + 1)) (n := 3000 + 3033 * (j + 1)) (by omega) (by omega) ?_
      exact kk _ _ ls ⟨X1, Y1, AD1, ad, _, _, f1, w, hd1, hd2, congrFun (congrFun hA1 0) 0, hM1, hMm, hs3⟩ (lv_sub hl [2, 3, 4, 5, 6] rfl)
    · refine lv_lconst (v := 1) F.1 F.2.1 dL_law_1511 (by decide) ?_
      refine lv_goto (tgt := 1516) F.1 F.2.1 dL_law_1512 (by decide) ?_
      refine W.lcmp F.1 F.2.1 dL_law_1516 ?_
      refine lv_if_eq (tgt := 1522) F.1 F.2.1 dL_law_1517 (by decide) (fun c_4 => ?_) (fun c_4 => absurd ((congrArg (fun z => lg_cmp z 1) (show f1 0 = 1 by rw [hv hK0, ← hs2 hK0, ← hb9, if_neg c_3])).trans (lgc0 _)) c_4)
      refine lv_goto (tgt := 1785) F.1 F.2.1 dL_law_1522 (by decide) ?_
      refine W.widen (k := 50 + 8 * (j + 1)) (n := 3000 + 3033 * (j + 1)) (by omega) (by omega) ?_
      exact kk _ _ ls ⟨X1, Y1, AD1, ad, _, _, f1, w, hd1, hd2, congrFun (congrFun hA1 0) 0, hM1, hMm, hs3⟩ (lv_sub hl [2, 3, 4, 5, 6] rfl)
set_option maxHeartbeats 4000000 in
set_option maxRecDepth 100000 in
theorem lk_ofVisit (F : CallFix p m c cL_law 7 s #[Value.ref b] BIG RL) (hlf : l.stackTraces = false) (hR : Rstep9 R9) (hX : va_X b L xs s s.heap) (hbl : b < s.heap.size) (hbA : ¬ A b) (hL : L ≤ 3072) {j : Nat} (hj : j < 512) (h6 : 6 * j + 6 ≤ L) {H : Heap} {locs : List Loc} {ls : Array Slot} (hI : LInv9 D cy A s x0 m0 o R9 j H locs) (hl : lv_has ls 7 [(4, .int (nI (6 * j))), (3, .ref o), (2, .ref m0), (1, .ref x0), (0, .ref b)])
    (kk : ∀ (H1 : Heap) (locs1 : List Loc) (ls1 : Array Slot), LInv9 D cy A s x0 m0 o R9 (j + 1) H1 locs1 → lv_has ls1 7 [(4, .int (nI (6 * j))), (3, .ref o), (2, .ref m0), (1, .ref x0), (0, .ref b)] → W p l e room_1 s m #[Value.ref b] below meth c H1 locs1 (50 + 8 * (j + 1)) (3000 + 3033 * (j + 1)) Q (F0 m 1785 ls1 [])) : W p l e room_1 s m #[Value.ref b] below meth c H locs (50 + 8 * j) (3000 + 3033 * j) Q (F0 m 1525 ls []) := by
  obtain ⟨X, Y, AD, ad, G, M, f, w, hd1, hd2, hAD, hM, hMm, hRel⟩ := hI
  subst hAD
  obtain ⟨hI, hIM, hn9, hp9, hpM, hso, hrM⟩ := hR.1 j G M hRel
  have hn := hn9 hj
  obtain ⟨hs1, hs2, hs3⟩ := hR.2.2.2.2.2.2.2.2.2.2.2.2.2.2.2.2.2.2.2.2.2.2.1 j G M (xs (6 * j + 1)) (xs (6 * j + 2)) hj hRel
  refine lv_aload_n F.1 F.2.1 dL_law_1525 rfl (lv_at hl 3 rfl) ?_
  refine lv_aload_n F.1 F.2.1 dL_law_1526 rfl (lv_at hl 4 rfl) ?_
  refine lv_iload F.1 F.2.1 dL_law_1527 (lv_at hl 0 rfl) ?_
  refine lv_iconst (v := 1) F.1 F.2.1 dL_law_1529 (by decide) ?_
  refine lv_iadd F.1 F.2.1 dL_law_1530 ?_
  refine lv_fold (y := nI (6 * j + 1)) (nI_add (6 * j) 1) ?_
  refine va_sld F.1 F.2.1 hX hbl hbA w.2.2.2.1 (vp_in_nI (show 6 * j + 1 < L by omega) (by omega)) dL_law_1531 ?_
  refine lv_fold (y := xs (6 * j + 1)) (by rw [nI_clamp (by omega)]) ?_
  refine lv_aload_n F.1 F.2.1 dL_law_1532 rfl (lv_at hl 4 rfl) ?_
  refine lv_iload F.1 F.2.1 dL_law_1533 (lv_at hl 0 rfl) ?_
  refine lv_iconst (v := 2) F.1 F.2.1 dL_law_1535 (by decide) ?_
  refine lv_iadd F.1 F.2.1 dL_law_1536 ?_
  refine lv_fold (y := nI (6 * j + 2)) (nI_add (6 * j) 2) ?_
  refine va_sld F.1 F.2.1 hX hbl hbA w.2.2.2.1 (vp_in_nI (show 6 * j + 2 < L by omega) (by omega)) dL_law_1537 ?_
  refine lv_fold (y := xs (6 * j + 2)) (by rw [nI_clamp (by omega)]) ?_
  refine lv_aload_n F.1 F.2.1 dL_law_1538 rfl (lv_at hl 1 rfl) ?_
  refine q_uSi (rest := []) F w hd2 kW_ofVisit hdW_ofVisit (c_L_ofVisit l D cy _ X AD G hM hI f hd1 (xs (6 * j + 1)) (xs (6 * j + 2)) hlf) dL_law_1539 rfl rfl hl.1 ⟨rfl, rfl, (Nat.le_of_ble_eq_true rfl), (Nat.le_of_ble_eq_true rfl)⟩ (Nat.le_of_ble_eq_true rfl) ⟨(show 50 + 8 * j + 1 ≤ 601024 by omega), (show 3000 + 3033 * j + 6 ≤ 7293034 by omega)⟩ (fun k9 μ1 H locs hp hd2 w => ?_)
  obtain ⟨hk9, X1, AD1, f1, hμ, hd1, hA1, hM1, hv⟩ := hp
  subst hμ
  refine lv_istore (lv' := [(5, .int k9), (4, .int (nI (6 * j))), (3, .ref o), (2, .ref m0), (1, .ref (AD 0 0 0)), (0, .ref b)]) F.1 F.2.1 dL_law_1542 hl (by decide) rfl (fun ls hl => ?_)
  refine lv_aload_n F.1 F.2.1 dL_law_1544 rfl (lv_at hl 3 rfl) ?_
  refine lv_aload_n F.1 F.2.1 dL_law_1545 rfl (lv_at hl 5 rfl) ?_
  refine lv_iload F.1 F.2.1 dL_law_1546 (lv_at hl 1 rfl) ?_
  refine lv_iconst (v := 1) F.1 F.2.1 dL_law_1548 (by decide) ?_
  refine lv_iadd F.1 F.2.1 dL_law_1549 ?_
  refine lv_fold (y := nI (6 * j + 1)) (nI_add (6 * j) 1) ?_
  refine va_sld F.1 F.2.1 hX hbl hbA w.2.2.2.1 (vp_in_nI (show 6 * j + 1 < L by omega) (by omega)) dL_law_1550 ?_
  refine lv_fold (y := xs (6 * j + 1)) (by rw [nI_clamp (by omega)]) ?_
  refine lv_aload_n F.1 F.2.1 dL_law_1551 rfl (lv_at hl 5 rfl) ?_
  refine lv_iload F.1 F.2.1 dL_law_1552 (lv_at hl 1 rfl) ?_
  refine lv_iconst (v := 2) F.1 F.2.1 dL_law_1554 (by decide) ?_
  refine lv_iadd F.1 F.2.1 dL_law_1555 ?_
  refine lv_fold (y := nI (6 * j + 2)) (nI_add (6 * j) 2) ?_
  refine va_sld F.1 F.2.1 hX hbl hbA w.2.2.2.1 (vp_in_nI (show 6 * j + 2 < L by omega) (by omega)) dL_law_1556 ?_
  refine lv_fold (y := xs (6 * j + 2)) (by rw [nI_clamp (by omega)]) ?_
  rw [un_comm hd2] at w
  refine q_uVi (rest := []) F w hd2.symm kV_L_170 hd_X7_ofVisit (ci := 8) rfl (t_X7_ofVisit l D cy _ _ m0 ad M hMm hIM (xs (6 * j + 1)) (xs (6 * j + 2))) hMm.1 dL_law_1557 rfl rfl hl.1 ⟨rfl, rfl, (Nat.le_of_ble_eq_true rfl), (Nat.le_of_ble_eq_true rfl)⟩ (Nat.le_of_ble_eq_true rfl) ⟨(show 50 + 8 * j + 1 + 0 ≤ 601024 by omega), (show 3000 + 3033 * j + 6 + 0 ≤ 7293034 by omega)⟩ (fun b9 Y1 H locs hp hd3 w => ?_)
  obtain ⟨hb9, hMm⟩ := hp
  rw [un_comm hd3] at w
  have hd2 := hd3.symm
  refine lv_istore (lv' := [(6, .int b9), (5, .int k9), (4, .int (nI (6 * j))), (3, .ref o), (2, .ref m0), (1, .ref (AD 0 0 0)), (0, .ref b)]) F.1 F.2.1 dL_law_1560 hl (by decide) rfl (fun ls hl => ?_)
  refine lv_aload_n F.1 F.2.1 dL_law_1562 rfl (lv_at hl 4 rfl) ?_
  have hMu := repM_un hMm hd2
  refine q_rV (rest := []) F w kV_L_104 hd_X7_thrown (ci := 8) rfl (c_X7_thrown l D cy A _ m0 ad _ hMu) hMu.1 dL_law_1563 rfl rfl hl.1 ⟨rfl, rfl, (Nat.le_of_ble_eq_true rfl), (Nat.le_of_ble_eq_true rfl)⟩ (Nat.le_of_ble_eq_true rfl) ⟨(show 50 + 8 * j + 1 + 0 ≤ 601024 by omega), (show 3000 + 3033 * j + 6 + 0 ≤ 7293034 by omega)⟩ ?_
  refine lv_fold (y := (HM_ofVisit M (xs (6 * j + 1)) (xs (6 * j + 2))) 0 0) rfl ?_
  refine lv_iload F.1 F.2.1 dL_law_1566 (lv_at hl 1 rfl) ?_
  refine lv_icmp_eq (tgt := 1573) F.1 F.2.1 dL_law_1568 (by decide) (fun c_1 => ?_) (fun c_1 => absurd (hs1.trans hk9.symm) c_1)
  refine lv_iload F.1 F.2.1 dL_law_1573 (lv_at hl 1 rfl) ?_
  refine lv_if_ne (tgt := 1590) F.1 F.2.1 dL_law_1575 (by decide) (fun c_2 => ?_) (fun c_2 => ?_)
  · refine lv_goto (tgt := 1785) F.1 F.2.1 dL_law_1590 (by decide) ?_
    refine W.widen (k := 50 + 8 * (j + 1)) (n := 3000 + 3033 * (j + 1)) (by omega) (by omega) ?_
    exact kk _ _ ls ⟨X1, Y1, AD1, ad, _, _, f1, w, hd1, hd2, congrFun (congrFun hA1 0) 0, hM1, hMm, hs3⟩ (lv_sub hl [2, 3, 4, 5, 6] rfl)
  · have hK0 := k0_ofVisit G (xs (6 * j + 1)) (xs (6 * j + 2)) (hk9.symm.trans c_2)
    refine lv_aload_n F.1 F.2.1 dL_law_1578 rfl (lv_at hl 3 rfl) ?_
    refine lv_iconst (v := 0) F.1 F.2.1 dL_law_1579 (by decide) ?_
    refine q_lald F w (un_l (un_r hd1 oneO_at)) (i := 0) (vp_in_nI (n := 0) (N := 1) (by decide) (by decide)) dL_law_1580 ?_
    refine lv_iload F.1 F.2.1 dL_law_1581 (lv_at hl 0 rfl) ?_
    refine lv_i2l F.1 F.2.1 dL_law_1583 rfl ?_
    refine W.lcmp F.1 F.2.1 dL_law_1584 ?_
    refine lv_if_eq (tgt := 1590) F.1 F.2.1 dL_law_1585 (by decide) (fun c_4 => ?_) (fun c_4 => absurd ((congrArg (fun z => lg_cmp z b9.toInt64) (show f1 0 = b9.toInt64 by rw [hv hK0, hb9, hs2 hK0])).trans (lgc0 _)) c_4)
    refine lv_goto (tgt := 1785) F.1 F.2.1 dL_law_1590 (by decide) ?_
    refine W.widen (k := 50 + 8 * (j + 1)) (n := 3000 + 3033 * (j + 1)) (by omega) (by omega) ?_
    exact kk _ _ ls ⟨X1, Y1, AD1, ad, _, _, f1, w, hd1, hd2, congrFun (congrFun hA1 0) 0, hM1, hMm, hs3⟩ (lv_sub hl [2, 3, 4, 5, 6] rfl)
set_option maxHeartbeats 4000000 in
set_option maxRecDepth 100000 in
theorem lk_list (F : CallFix p m c cL_law 7 s #[Value.ref b] BIG RL) (hlf : l.stackTraces = false) (hR : Rstep9 R9) (hX : va_X b L xs s s.heap) (hbl : b < s.heap.size) (hbA : ¬ A b) (hL : L ≤ 3072) {j : Nat} (hj : j < 512) (h6 : 6 * j + 6 ≤ L) {H : Heap} {locs : List Loc} {ls : Array Slot} (hI : LInv9 D cy A s x0 m0 o R9 j H locs) (hl : lv_has ls 7 [(4, .int (nI (6 * j))), (3, .ref o), (2, .ref m0), (1, .ref x0), (0, .ref b)])
    (kk : ∀ (H1 : Heap) (locs1 : List Loc) (ls1 : Array Slot), LInv9 D cy A s x0 m0 o R9 (j + 1) H1 locs1 → lv_has ls1 7 [(4, .int (nI (6 * j))), (3, .ref o), (2, .ref m0), (1, .ref x0), (0, .ref b)] → W p l e room_1 s m #[Value.ref b] below meth c H1 locs1 (50 + 8 * (j + 1)) (3000 + 3033 * (j + 1)) Q (F0 m 1785 ls1 [])) : W p l e room_1 s m #[Value.ref b] below meth c H locs (50 + 8 * j) (3000 + 3033 * j) Q (F0 m 1593 ls []) := by
  obtain ⟨X, Y, AD, ad, G, M, f, w, hd1, hd2, hAD, hM, hMm, hRel⟩ := hI
  subst hAD
  obtain ⟨hI, hIM, hn9, hp9, hpM, hso, hrM⟩ := hR.1 j G M hRel
  have hn := hn9 hj
  obtain ⟨hs1, hs2, hs3⟩ := hR.2.2.2.2.2.2.2.2.2.2.2.2.2.2.2.2.2.2.2.2.2.2.2.1 j G M (xs (6 * j + 1)) hj hRel
  refine lv_aload_n F.1 F.2.1 dL_law_1593 rfl (lv_at hl 3 rfl) ?_
  refine lv_aload_n F.1 F.2.1 dL_law_1594 rfl (lv_at hl 4 rfl) ?_
  refine lv_iload F.1 F.2.1 dL_law_1595 (lv_at hl 0 rfl) ?_
  refine lv_iconst (v := 1) F.1 F.2.1 dL_law_1597 (by decide) ?_
  refine lv_iadd F.1 F.2.1 dL_law_1598 ?_
  refine lv_fold (y := nI (6 * j + 1)) (nI_add (6 * j) 1) ?_
  refine va_sld F.1 F.2.1 hX hbl hbA w.2.2.2.1 (vp_in_nI (show 6 * j + 1 < L by omega) (by omega)) dL_law_1599 ?_
  refine lv_fold (y := xs (6 * j + 1)) (by rw [nI_clamp (by omega)]) ?_
  refine lv_aload_n F.1 F.2.1 dL_law_1600 rfl (lv_at hl 1 rfl) ?_
  refine q_uSi (rest := []) F w hd2 kW_list hdW_list (c_L_list l D cy _ X AD G hM hI f hd1 (xs (6 * j + 1)) hlf) dL_law_1601 rfl rfl hl.1 ⟨rfl, rfl, (Nat.le_of_ble_eq_true rfl), (Nat.le_of_ble_eq_true rfl)⟩ (Nat.le_of_ble_eq_true rfl) ⟨(show 50 + 8 * j + 1 ≤ 601024 by omega), (show 3000 + 3033 * j + 6 ≤ 7293034 by omega)⟩ (fun k9 μ1 H locs hp hd2 w => ?_)
  obtain ⟨hk9, X1, AD1, f1, hμ, hd1, hA1, hM1, hv⟩ := hp
  subst hμ
  refine lv_istore (lv' := [(5, .int k9), (4, .int (nI (6 * j))), (3, .ref o), (2, .ref m0), (1, .ref (AD 0 0 0)), (0, .ref b)]) F.1 F.2.1 dL_law_1604 hl (by decide) rfl (fun ls hl => ?_)
  refine lv_aload_n F.1 F.2.1 dL_law_1606 rfl (lv_at hl 3 rfl) ?_
  refine lv_aload_n F.1 F.2.1 dL_law_1607 rfl (lv_at hl 5 rfl) ?_
  refine lv_iload F.1 F.2.1 dL_law_1608 (lv_at hl 1 rfl) ?_
  refine lv_iconst (v := 1) F.1 F.2.1 dL_law_1610 (by decide) ?_
  refine lv_iadd F.1 F.2.1 dL_law_1611 ?_
  refine lv_fold (y := nI (6 * j + 1)) (nI_add (6 * j) 1) ?_
  refine va_sld F.1 F.2.1 hX hbl hbA w.2.2.2.1 (vp_in_nI (show 6 * j + 1 < L by omega) (by omega)) dL_law_1612 ?_
  refine lv_fold (y := xs (6 * j + 1)) (by rw [nI_clamp (by omega)]) ?_
  rw [un_comm hd2] at w
  refine q_uVi (rest := []) F w hd2.symm kV_L_173 hd_X7_list (ci := 8) rfl (t_X7_list l D cy _ _ m0 ad M hMm hIM (xs (6 * j + 1))) hMm.1 dL_law_1613 rfl rfl hl.1 ⟨rfl, rfl, (Nat.le_of_ble_eq_true rfl), (Nat.le_of_ble_eq_true rfl)⟩ (Nat.le_of_ble_eq_true rfl) ⟨(show 50 + 8 * j + 1 + 0 ≤ 601024 by omega), (show 3000 + 3033 * j + 6 + 0 ≤ 7293034 by omega)⟩ (fun b9 Y1 H locs hp hd3 w => ?_)
  obtain ⟨hb9, hMm⟩ := hp
  rw [un_comm hd3] at w
  have hd2 := hd3.symm
  refine lv_istore (lv' := [(6, .int b9), (5, .int k9), (4, .int (nI (6 * j))), (3, .ref o), (2, .ref m0), (1, .ref (AD 0 0 0)), (0, .ref b)]) F.1 F.2.1 dL_law_1616 hl (by decide) rfl (fun ls hl => ?_)
  refine lv_aload_n F.1 F.2.1 dL_law_1618 rfl (lv_at hl 4 rfl) ?_
  have hMu := repM_un hMm hd2
  refine q_rV (rest := []) F w kV_L_104 hd_X7_thrown (ci := 8) rfl (c_X7_thrown l D cy A _ m0 ad _ hMu) hMu.1 dL_law_1619 rfl rfl hl.1 ⟨rfl, rfl, (Nat.le_of_ble_eq_true rfl), (Nat.le_of_ble_eq_true rfl)⟩ (Nat.le_of_ble_eq_true rfl) ⟨(show 50 + 8 * j + 1 + 0 ≤ 601024 by omega), (show 3000 + 3033 * j + 6 + 0 ≤ 7293034 by omega)⟩ ?_
  refine lv_fold (y := (HM_list M (xs (6 * j + 1))) 0 0) rfl ?_
  refine lv_iload F.1 F.2.1 dL_law_1622 (lv_at hl 1 rfl) ?_
  refine lv_icmp_eq (tgt := 1629) F.1 F.2.1 dL_law_1624 (by decide) (fun c_1 => ?_) (fun c_1 => absurd (hs1.trans hk9.symm) c_1)
  refine lv_iload F.1 F.2.1 dL_law_1629 (lv_at hl 1 rfl) ?_
  refine lv_if_ne (tgt := 1646) F.1 F.2.1 dL_law_1631 (by decide) (fun c_2 => ?_) (fun c_2 => ?_)
  · refine lv_goto (tgt := 1785) F.1 F.2.1 dL_law_1646 (by decide) ?_
    refine W.widen (k := 50 + 8 * (j + 1)) (n := 3000 + 3033 * (j + 1)) (by omega) (by omega) ?_
    exact kk _ _ ls ⟨X1, Y1, AD1, ad, _, _, f1, w, hd1, hd2, congrFun (congrFun hA1 0) 0, hM1, hMm, hs3⟩ (lv_sub hl [2, 3, 4, 5, 6] rfl)
  · have hK0 := k0_list G (xs (6 * j + 1)) (hk9.symm.trans c_2)
    refine lv_aload_n F.1 F.2.1 dL_law_1634 rfl (lv_at hl 3 rfl) ?_
    refine lv_iconst (v := 0) F.1 F.2.1 dL_law_1635 (by decide) ?_
    refine q_lald F w (un_l (un_r hd1 oneO_at)) (i := 0) (vp_in_nI (n := 0) (N := 1) (by decide) (by decide)) dL_law_1636 ?_
    refine lv_iload F.1 F.2.1 dL_law_1637 (lv_at hl 0 rfl) ?_
    refine lv_i2l F.1 F.2.1 dL_law_1639 rfl ?_
    refine W.lcmp F.1 F.2.1 dL_law_1640 ?_
    refine lv_if_eq (tgt := 1646) F.1 F.2.1 dL_law_1641 (by decide) (fun c_4 => ?_) (fun c_4 => absurd ((congrArg (fun z => lg_cmp z b9.toInt64) (show f1 0 = b9.toInt64 by rw [hv hK0, hb9, hs2 hK0])).trans (lgc0 _)) c_4)
    refine lv_goto (tgt := 1785) F.1 F.2.1 dL_law_1646 (by decide) ?_
    refine W.widen (k := 50 + 8 * (j + 1)) (n := 3000 + 3033 * (j + 1)) (by omega) (by omega) ?_
    exact kk _ _ ls ⟨X1, Y1, AD1, ad, _, _, f1, w, hd1, hd2, congrFun (congrFun hA1 0) 0, hM1, hMm, hs3⟩ (lv_sub hl [2, 3, 4, 5, 6] rfl)
set_option maxHeartbeats 4000000 in
set_option maxRecDepth 100000 in
theorem lk_missed (F : CallFix p m c cL_law 7 s #[Value.ref b] BIG RL) (hlf : l.stackTraces = false) (hR : Rstep9 R9) (hX : va_X b L xs s s.heap) (hbl : b < s.heap.size) (hbA : ¬ A b) (hL : L ≤ 3072) {j : Nat} (hj : j < 512) (h6 : 6 * j + 6 ≤ L) {H : Heap} {locs : List Loc} {ls : Array Slot} (hI : LInv9 D cy A s x0 m0 o R9 j H locs) (hl : lv_has ls 7 [(4, .int (nI (6 * j))), (3, .ref o), (2, .ref m0), (1, .ref x0), (0, .ref b)])
    (kk : ∀ (H1 : Heap) (locs1 : List Loc) (ls1 : Array Slot), LInv9 D cy A s x0 m0 o R9 (j + 1) H1 locs1 → lv_has ls1 7 [(4, .int (nI (6 * j))), (3, .ref o), (2, .ref m0), (1, .ref x0), (0, .ref b)] → W p l e room_1 s m #[Value.ref b] below meth c H1 locs1 (50 + 8 * (j + 1)) (3000 + 3033 * (j + 1)) Q (F0 m 1785 ls1 [])) : W p l e room_1 s m #[Value.ref b] below meth c H locs (50 + 8 * j) (3000 + 3033 * j) Q (F0 m 1649 ls []) := by
  obtain ⟨X, Y, AD, ad, G, M, f, w, hd1, hd2, hAD, hM, hMm, hRel⟩ := hI
  subst hAD
  obtain ⟨hI, hIM, hn9, hp9, hpM, hso, hrM⟩ := hR.1 j G M hRel
  have hn := hn9 hj
  obtain ⟨hs1, hs2, hs3⟩ := hR.2.2.2.2.2.2.2.2.2.2.2.2.2.2.2.2.2.2.2.2.2.2.2.2.1 j G M (xs (6 * j + 1)) hj hRel
  refine lv_aload_n F.1 F.2.1 dL_law_1649 rfl (lv_at hl 3 rfl) ?_
  refine lv_aload_n F.1 F.2.1 dL_law_1650 rfl (lv_at hl 4 rfl) ?_
  refine lv_iload F.1 F.2.1 dL_law_1651 (lv_at hl 0 rfl) ?_
  refine lv_iconst (v := 1) F.1 F.2.1 dL_law_1653 (by decide) ?_
  refine lv_iadd F.1 F.2.1 dL_law_1654 ?_
  refine lv_fold (y := nI (6 * j + 1)) (nI_add (6 * j) 1) ?_
  refine va_sld F.1 F.2.1 hX hbl hbA w.2.2.2.1 (vp_in_nI (show 6 * j + 1 < L by omega) (by omega)) dL_law_1655 ?_
  refine lv_fold (y := xs (6 * j + 1)) (by rw [nI_clamp (by omega)]) ?_
  refine lv_aload_n F.1 F.2.1 dL_law_1656 rfl (lv_at hl 1 rfl) ?_
  refine q_uSi (rest := []) F w hd2 kW_missed hdW_missed (c_L_missed l D cy _ X AD G hM hI f hd1 (xs (6 * j + 1)) hlf) dL_law_1657 rfl rfl hl.1 ⟨rfl, rfl, (Nat.le_of_ble_eq_true rfl), (Nat.le_of_ble_eq_true rfl)⟩ (Nat.le_of_ble_eq_true rfl) ⟨(show 50 + 8 * j + 1 ≤ 601024 by omega), (show 3000 + 3033 * j + 6 ≤ 7293034 by omega)⟩ (fun k9 μ1 H locs hp hd2 w => ?_)
  obtain ⟨hk9, X1, AD1, f1, hμ, hd1, hA1, hM1, hv⟩ := hp
  subst hμ
  refine lv_istore (lv' := [(5, .int k9), (4, .int (nI (6 * j))), (3, .ref o), (2, .ref m0), (1, .ref (AD 0 0 0)), (0, .ref b)]) F.1 F.2.1 dL_law_1660 hl (by decide) rfl (fun ls hl => ?_)
  refine lv_aload_n F.1 F.2.1 dL_law_1662 rfl (lv_at hl 3 rfl) ?_
  refine lv_aload_n F.1 F.2.1 dL_law_1663 rfl (lv_at hl 5 rfl) ?_
  refine lv_iload F.1 F.2.1 dL_law_1664 (lv_at hl 1 rfl) ?_
  refine lv_iconst (v := 1) F.1 F.2.1 dL_law_1666 (by decide) ?_
  refine lv_iadd F.1 F.2.1 dL_law_1667 ?_
  refine lv_fold (y := nI (6 * j + 1)) (nI_add (6 * j) 1) ?_
  refine va_sld F.1 F.2.1 hX hbl hbA w.2.2.2.1 (vp_in_nI (show 6 * j + 1 < L by omega) (by omega)) dL_law_1668 ?_
  refine lv_fold (y := xs (6 * j + 1)) (by rw [nI_clamp (by omega)]) ?_
  rw [un_comm hd2] at w
  refine q_uVi (rest := []) F w hd2.symm kV_L_176 hd_X7_missed (ci := 8) rfl (t_X7_missed l D cy _ _ m0 ad M hMm hIM (xs (6 * j + 1))) hMm.1 dL_law_1669 rfl rfl hl.1 ⟨rfl, rfl, (Nat.le_of_ble_eq_true rfl), (Nat.le_of_ble_eq_true rfl)⟩ (Nat.le_of_ble_eq_true rfl) ⟨(show 50 + 8 * j + 1 + 0 ≤ 601024 by omega), (show 3000 + 3033 * j + 6 + 0 ≤ 7293034 by omega)⟩ (fun b9 Y1 H locs hp hd3 w => ?_)
  obtain ⟨hb9, hMm⟩ := hp
  rw [un_comm hd3] at w
  have hd2 := hd3.symm
  refine lv_istore (lv' := [(6, .int b9), (5, .int k9), (4, .int (nI (6 * j))), (3, .ref o), (2, .ref m0), (1, .ref (AD 0 0 0)), (0, .ref b)]) F.1 F.2.1 dL_law_1672 hl (by decide) rfl (fun ls hl => ?_)
  refine lv_aload_n F.1 F.2.1 dL_law_1674 rfl (lv_at hl 4 rfl) ?_
  have hMu := repM_un hMm hd2
  refine q_rV (rest := []) F w kV_L_104 hd_X7_thrown (ci := 8) rfl (c_X7_thrown l D cy A _ m0 ad _ hMu) hMu.1 dL_law_1675 rfl rfl hl.1 ⟨rfl, rfl, (Nat.le_of_ble_eq_true rfl), (Nat.le_of_ble_eq_true rfl)⟩ (Nat.le_of_ble_eq_true rfl) ⟨(show 50 + 8 * j + 1 + 0 ≤ 601024 by omega), (show 3000 + 3033 * j + 6 + 0 ≤ 7293034 by omega)⟩ ?_
  refine lv_fold (y := (HM_missed M (xs (6 * j + 1))) 0 0) rfl ?_
  refine lv_iload F.1 F.2.1 dL_law_1678 (lv_at hl 1 rfl) ?_
  refine lv_icmp_eq (tgt := 1685) F.1 F.2.1 dL_law_1680 (by decide) (fun c_1 => ?_) (fun c_1 => absurd (hs1.trans hk9.symm) c_1)
  refine lv_iload F.1 F.2.1 dL_law_1685 (lv_at hl 1 rfl) ?_
  refine lv_if_ne (tgt := 1702) F.1 F.2.1 dL_law_1687 (by decide) (fun c_2 => ?_) (fun c_2 => ?_)
  · refine lv_goto (tgt := 1785) F.1 F.2.1 dL_law_1702 (by decide) ?_
    refine W.widen (k := 50 + 8 * (j + 1)) (n := 3000 + 3033 * (j + 1)) (by omega) (by omega) ?_
    exact kk _ _ ls ⟨X1, Y1, AD1, ad, _, _, f1, w, hd1, hd2, congrFun (congrFun hA1 0) 0, hM1, hMm, hs3⟩ (lv_sub hl [2, 3, 4, 5, 6] rfl)
  · have hK0 := k0_missed G (xs (6 * j + 1)) (hk9.symm.trans c_2)
    refine lv_aload_n F.1 F.2.1 dL_law_1690 rfl (lv_at hl 3 rfl) ?_
    refine lv_iconst (v := 0) F.1 F.2.1 dL_law_1691 (by decide) ?_
    refine q_lald F w (un_l (un_r hd1 oneO_at)) (i := 0) (vp_in_nI (n := 0) (N := 1) (by decide) (by decide)) dL_law_1692 ?_
    refine lv_iload F.1 F.2.1 dL_law_1693 (lv_at hl 0 rfl) ?_
    refine lv_i2l F.1 F.2.1 dL_law_1695 rfl ?_
    refine W.lcmp F.1 F.2.1 dL_law_1696 ?_
    refine lv_if_eq (tgt := 1702) F.1 F.2.1 dL_law_1697 (by decide) (fun c_4 => ?_) (fun c_4 => absurd ((congrArg (fun z => lg_cmp z b9.toInt64) (show f1 0 = b9.toInt64 by rw [hv hK0, hb9, hs2 hK0])).trans (lgc0 _)) c_4)
    refine lv_goto (tgt := 1785) F.1 F.2.1 dL_law_1702 (by decide) ?_
    refine W.widen (k := 50 + 8 * (j + 1)) (n := 3000 + 3033 * (j + 1)) (by omega) (by omega) ?_
    exact kk _ _ ls ⟨X1, Y1, AD1, ad, _, _, f1, w, hd1, hd2, congrFun (congrFun hA1 0) 0, hM1, hMm, hs3⟩ (lv_sub hl [2, 3, 4, 5, 6] rfl)
set_option maxHeartbeats 4000000 in
set_option maxRecDepth 100000 in
theorem lk_knew (F : CallFix p m c cL_law 7 s #[Value.ref b] BIG RL) (hlf : l.stackTraces = false) (hR : Rstep9 R9) (hX : va_X b L xs s s.heap) (hbl : b < s.heap.size) (hbA : ¬ A b) (hL : L ≤ 3072) {j : Nat} (hj : j < 512) (h6 : 6 * j + 6 ≤ L) {H : Heap} {locs : List Loc} {ls : Array Slot} (hI : LInv9 D cy A s x0 m0 o R9 j H locs) (hl : lv_has ls 7 [(4, .int (nI (6 * j))), (3, .ref o), (2, .ref m0), (1, .ref x0), (0, .ref b)])
    (kk : ∀ (H1 : Heap) (locs1 : List Loc) (ls1 : Array Slot), LInv9 D cy A s x0 m0 o R9 (j + 1) H1 locs1 → lv_has ls1 7 [(4, .int (nI (6 * j))), (3, .ref o), (2, .ref m0), (1, .ref x0), (0, .ref b)] → W p l e room_1 s m #[Value.ref b] below meth c H1 locs1 (50 + 8 * (j + 1)) (3000 + 3033 * (j + 1)) Q (F0 m 1785 ls1 [])) : W p l e room_1 s m #[Value.ref b] below meth c H locs (50 + 8 * j) (3000 + 3033 * j) Q (F0 m 1705 ls []) := by
  obtain ⟨X, Y, AD, ad, G, M, f, w, hd1, hd2, hAD, hM, hMm, hRel⟩ := hI
  subst hAD
  obtain ⟨hI, hIM, hn9, hp9, hpM, hso, hrM⟩ := hR.1 j G M hRel
  have hn := hn9 hj
  obtain ⟨hs1, hs2, hs3⟩ := hR.2.2.2.2.2.2.2.2.2.2.2.2.2.2.2.2.2.2.2.2.2.2.2.2.2 j G M (xs (6 * j + 1)) (xs (6 * j + 2)) (xs (6 * j + 3)) hj hRel
  refine lv_aload_n F.1 F.2.1 dL_law_1705 rfl (lv_at hl 3 rfl) ?_
  refine lv_aload_n F.1 F.2.1 dL_law_1706 rfl (lv_at hl 4 rfl) ?_
  refine lv_iload F.1 F.2.1 dL_law_1707 (lv_at hl 0 rfl) ?_
  refine lv_iconst (v := 1) F.1 F.2.1 dL_law_1709 (by decide) ?_
  refine lv_iadd F.1 F.2.1 dL_law_1710 ?_
  refine lv_fold (y := nI (6 * j + 1)) (nI_add (6 * j) 1) ?_
  refine va_sld F.1 F.2.1 hX hbl hbA w.2.2.2.1 (vp_in_nI (show 6 * j + 1 < L by omega) (by omega)) dL_law_1711 ?_
  refine lv_fold (y := xs (6 * j + 1)) (by rw [nI_clamp (by omega)]) ?_
  refine lv_aload_n F.1 F.2.1 dL_law_1712 rfl (lv_at hl 4 rfl) ?_
  refine lv_iload F.1 F.2.1 dL_law_1713 (lv_at hl 0 rfl) ?_
  refine lv_iconst (v := 2) F.1 F.2.1 dL_law_1715 (by decide) ?_
  refine lv_iadd F.1 F.2.1 dL_law_1716 ?_
  refine lv_fold (y := nI (6 * j + 2)) (nI_add (6 * j) 2) ?_
  refine va_sld F.1 F.2.1 hX hbl hbA w.2.2.2.1 (vp_in_nI (show 6 * j + 2 < L by omega) (by omega)) dL_law_1717 ?_
  refine lv_fold (y := xs (6 * j + 2)) (by rw [nI_clamp (by omega)]) ?_
  refine lv_aload_n F.1 F.2.1 dL_law_1718 rfl (lv_at hl 4 rfl) ?_
  refine lv_iload F.1 F.2.1 dL_law_1719 (lv_at hl 0 rfl) ?_
  refine lv_iconst (v := 3) F.1 F.2.1 dL_law_1721 (by decide) ?_
  refine lv_iadd F.1 F.2.1 dL_law_1722 ?_
  refine lv_fold (y := nI (6 * j + 3)) (nI_add (6 * j) 3) ?_
  refine va_sld F.1 F.2.1 hX hbl hbA w.2.2.2.1 (vp_in_nI (show 6 * j + 3 < L by omega) (by omega)) dL_law_1723 ?_
  refine lv_fold (y := xs (6 * j + 3)) (by rw [nI_clamp (by omega)]) ?_
  refine lv_aload_n F.1 F.2.1 dL_law_1724 rfl (lv_at hl 1 rfl) ?_
  refine q_uSi (rest := []) F w hd2 kW_knew hdW_knew (c_L_knew l D cy _ X AD G hM hI f hd1 (xs (6 * j + 1)) (xs (6 * j + 2)) (xs (6 * j + 3)) hlf) dL_law_1725 rfl rfl hl.1 ⟨rfl, rfl, (Nat.le_of_ble_eq_true rfl), (Nat.le_of_ble_eq_true rfl)⟩ (Nat.le_of_ble_eq_true rfl) ⟨(show 50 + 8 * j + 1 ≤ 601024 by omega), (show 3000 + 3033 * j + 6 ≤ 7293034 by omega)⟩ (fun k9 μ1 H locs hp hd2 w => ?_)
  obtain ⟨hk9, X1, AD1, f1, hμ, hd1, hA1, hM1, hv⟩ := hp
  subst hμ
  refine lv_istore (lv' := [(5, .int k9), (4, .int (nI (6 * j))), (3, .ref o), (2, .ref m0), (1, .ref (AD 0 0 0)), (0, .ref b)]) F.1 F.2.1 dL_law_1728 hl (by decide) rfl (fun ls hl => ?_)
  refine lv_aload_n F.1 F.2.1 dL_law_1730 rfl (lv_at hl 3 rfl) ?_
  refine lv_aload_n F.1 F.2.1 dL_law_1731 rfl (lv_at hl 5 rfl) ?_
  refine lv_iload F.1 F.2.1 dL_law_1732 (lv_at hl 1 rfl) ?_
  refine lv_iconst (v := 1) F.1 F.2.1 dL_law_1734 (by decide) ?_
  refine lv_iadd F.1 F.2.1 dL_law_1735 ?_
  refine lv_fold (y := nI (6 * j + 1)) (nI_add (6 * j) 1) ?_
  refine va_sld F.1 F.2.1 hX hbl hbA w.2.2.2.1 (vp_in_nI (show 6 * j + 1 < L by omega) (by omega)) dL_law_1736 ?_
  refine lv_fold (y := xs (6 * j + 1)) (by rw [nI_clamp (by omega)]) ?_
  refine lv_aload_n F.1 F.2.1 dL_law_1737 rfl (lv_at hl 5 rfl) ?_
  refine lv_iload F.1 F.2.1 dL_law_1738 (lv_at hl 1 rfl) ?_
  refine lv_iconst (v := 2) F.1 F.2.1 dL_law_1740 (by decide) ?_
  refine lv_iadd F.1 F.2.1 dL_law_1741 ?_
  refine lv_fold (y := nI (6 * j + 2)) (nI_add (6 * j) 2) ?_
  refine va_sld F.1 F.2.1 hX hbl hbA w.2.2.2.1 (vp_in_nI (show 6 * j + 2 < L by omega) (by omega)) dL_law_1742 ?_
  refine lv_fold (y := xs (6 * j + 2)) (by rw [nI_clamp (by omega)]) ?_
  refine lv_aload_n F.1 F.2.1 dL_law_1743 rfl (lv_at hl 5 rfl) ?_
  refine lv_iload F.1 F.2.1 dL_law_1744 (lv_at hl 1 rfl) ?_
  refine lv_iconst (v := 3) F.1 F.2.1 dL_law_1746 (by decide) ?_
  refine lv_iadd F.1 F.2.1 dL_law_1747 ?_
  refine lv_fold (y := nI (6 * j + 3)) (nI_add (6 * j) 3) ?_
  refine va_sld F.1 F.2.1 hX hbl hbA w.2.2.2.1 (vp_in_nI (show 6 * j + 3 < L by omega) (by omega)) dL_law_1748 ?_
  refine lv_fold (y := xs (6 * j + 3)) (by rw [nI_clamp (by omega)]) ?_
  rw [un_comm hd2] at w
  refine q_uVi (rest := []) F w hd2.symm kV_L_179 hd_X7_knew (ci := 8) rfl (t_X7_knew l D cy _ _ m0 ad M hMm hIM (xs (6 * j + 1)) (xs (6 * j + 2)) (xs (6 * j + 3))) hMm.1 dL_law_1749 rfl rfl hl.1 ⟨rfl, rfl, (Nat.le_of_ble_eq_true rfl), (Nat.le_of_ble_eq_true rfl)⟩ (Nat.le_of_ble_eq_true rfl) ⟨(show 50 + 8 * j + 1 + 0 ≤ 601024 by omega), (show 3000 + 3033 * j + 6 + 0 ≤ 7293034 by omega)⟩ (fun b9 Y1 H locs hp hd3 w => ?_)
  obtain ⟨hb9, hMm⟩ := hp
  rw [un_comm hd3] at w
  have hd2 := hd3.symm
  refine lv_istore (lv' := [(6, .int b9), (5, .int k9), (4, .int (nI (6 * j))), (3, .ref o), (2, .ref m0), (1, .ref (AD 0 0 0)), (0, .ref b)]) F.1 F.2.1 dL_law_1752 hl (by decide) rfl (fun ls hl => ?_)
  refine lv_aload_n F.1 F.2.1 dL_law_1754 rfl (lv_at hl 4 rfl) ?_
  have hMu := repM_un hMm hd2
  refine q_rV (rest := []) F w kV_L_104 hd_X7_thrown (ci := 8) rfl (c_X7_thrown l D cy A _ m0 ad _ hMu) hMu.1 dL_law_1755 rfl rfl hl.1 ⟨rfl, rfl, (Nat.le_of_ble_eq_true rfl), (Nat.le_of_ble_eq_true rfl)⟩ (Nat.le_of_ble_eq_true rfl) ⟨(show 50 + 8 * j + 1 + 0 ≤ 601024 by omega), (show 3000 + 3033 * j + 6 + 0 ≤ 7293034 by omega)⟩ ?_
  refine lv_fold (y := (HM_knew M (xs (6 * j + 1)) (xs (6 * j + 2)) (xs (6 * j + 3))) 0 0) rfl ?_
  refine lv_iload F.1 F.2.1 dL_law_1758 (lv_at hl 1 rfl) ?_
  refine lv_icmp_eq (tgt := 1765) F.1 F.2.1 dL_law_1760 (by decide) (fun c_1 => ?_) (fun c_1 => absurd (hs1.trans hk9.symm) c_1)
  refine lv_iload F.1 F.2.1 dL_law_1765 (lv_at hl 1 rfl) ?_
  refine lv_if_ne (tgt := 1782) F.1 F.2.1 dL_law_1767 (by decide) (fun c_2 => ?_) (fun c_2 => ?_)
  · refine lv_goto (tgt := 1785) F.1 F.2.1 dL_law_1782 (by decide) ?_
    refine W.widen (k := 50 + 8 * (j + 1)) (n := 3000 + 3033 * (j + 1)) (by omega) (by omega) ?_
    exact kk _ _ ls ⟨X1, Y1, AD1, ad, _, _, f1, w, hd1, hd2, congrFun (congrFun hA1 0) 0, hM1, hMm, hs3⟩ (lv_sub hl [2, 3, 4, 5, 6] rfl)
  · have hK0 := k0_knew G (xs (6 * j + 1)) (xs (6 * j + 2)) (xs (6 * j + 3)) (hk9.symm.trans c_2)
    refine lv_aload_n F.1 F.2.1 dL_law_1770 rfl (lv_at hl 3 rfl) ?_
    refine lv_iconst (v := 0) F.1 F.2.1 dL_law_1771 (by decide) ?_
    refine q_lald F w (un_l (un_r hd1 oneO_at)) (i := 0) (vp_in_nI (n := 0) (N := 1) (by decide) (by decide)) dL_law_1772 ?_
    refine lv_iload F.1 F.2.1 dL_law_1773 (lv_at hl 0 rfl) ?_
    refine lv_i2l F.1 F.2.1 dL_law_1775 rfl ?_
    refine W.lcmp F.1 F.2.1 dL_law_1776 ?_
    refine lv_if_eq (tgt := 1782) F.1 F.2.1 dL_law_1777 (by decide) (fun c_4 => ?_) (fun c_4 => absurd ((congrArg (fun z => lg_cmp z b9.toInt64) (show f1 0 = b9.toInt64 by rw [hv hK0, hb9, hs2 hK0])).trans (lgc0 _)) c_4)
    refine lv_goto (tgt := 1785) F.1 F.2.1 dL_law_1782 (by decide) ?_
    refine W.widen (k := 50 + 8 * (j + 1)) (n := 3000 + 3033 * (j + 1)) (by omega) (by omega) ?_
    exact kk _ _ ls ⟨X1, Y1, AD1, ad, _, _, f1, w, hd1, hd2, congrFun (congrFun hA1 0) 0, hM1, hMm, hs3⟩ (lv_sub hl [2, 3, 4, 5, 6] rfl)
theorem lw_in {L k : Nat} (hL : L ≤ 3072) (hk : k ≤ 3078) : nI L - 6 < nI k ↔ L < k + 6 := by
  rw [Int32.lt_iff_toInt_lt, show (6 : Int32) = nI 6 from rfl, pk_sub_toInt (by omega) (by decide), nI_toInt (by omega)]
  omega
set_option maxHeartbeats 4000000 in
set_option maxRecDepth 100000 in
theorem law_loop (F : CallFix p m c cL_law 7 s #[Value.ref b] BIG RL) (hlf : l.stackTraces = false) (hR : Rstep9 R9) (hX : va_X b L xs s s.heap) (hbl : b < s.heap.size) (hbA : ¬ A b) (hL : L ≤ 3072) (hbA2 : ∀ q, A q → s.heap.size ≤ q) (hr : meth.sig.returnType = ret) (hlk : meth.locks = false) : ∀ (d9 j : Nat) (H : Heap) (locs : List Loc) (ls : Array Slot), j ≤ 512 → L ≤ 6 * (j + d9) → LInv9 D cy A s x0 m0 o R9 j H locs → lv_has ls 7 [(4, .int (nI (6 * j))), (3, .ref o), (2, .ref m0), (1, .ref x0), (0, .ref b)] → W p l e room_1 s m #[Value.ref b] below meth c H locs (50 + 8 * j) (3000 + 3033 * j) (lw_Z below #[Value.ref b] s) (F0 m 23 ls []) := by
  intro d9
  induction d9 with
  | zero =>
    intro j H locs ls hj hd hI hl
    have hI0 := hI
    obtain ⟨X, Y, AD, ad, G, M, f, w, -⟩ := hI0
    refine lv_iload F.1 F.2.1 dL_law_23 (lv_at hl 0 rfl) ?_
    refine lv_aload_n F.1 F.2.1 dL_law_25 rfl (lv_at hl 4 rfl) ?_
    refine va_slen F.1 F.2.1 hX hbl hbA w.2.2.2.1 dL_law_26 ?_
    refine lv_fold (y := nI L) rfl ?_
    refine lv_bipush (v := 6) F.1 F.2.1 dL_law_27 (by decide) ?_
    refine lv_isub F.1 F.2.1 dL_law_29 ?_
    refine lv_icmp_gt (tgt := 1791) F.1 F.2.1 dL_law_30 (by decide) (fun c_1 => ?_) (fun c_1 => absurd ((lw_in hL (by omega)).mpr (by omega)) c_1)
    refine lv_iconst (v := 1) F.1 F.2.1 dL_law_1791 (by decide) ?_
    refine va_forget (fun q hq => hbA2 _ (w.2.2.2.1.2.2 q hq)) ?_
    refine W.widen (k := 601024) (n := 7293034) (by omega) (by omega) ?_
    exact lw_ret F.1 F.2.1 hr hlk dL_law_1792
  | succ d9 ih =>
    intro j H locs ls hj hd hI hl
    have hI0 := hI
    obtain ⟨X, Y, AD, ad, G, M, f, w, -⟩ := hI0
    refine lv_iload F.1 F.2.1 dL_law_23 (lv_at hl 0 rfl) ?_
    refine lv_aload_n F.1 F.2.1 dL_law_25 rfl (lv_at hl 4 rfl) ?_
    refine va_slen F.1 F.2.1 hX hbl hbA w.2.2.2.1 dL_law_26 ?_
    refine lv_fold (y := nI L) rfl ?_
    refine lv_bipush (v := 6) F.1 F.2.1 dL_law_27 (by decide) ?_
    refine lv_isub F.1 F.2.1 dL_law_29 ?_
    refine lv_icmp_gt (tgt := 1791) F.1 F.2.1 dL_law_30 (by decide) (fun c_1 => ?_) (fun c_1 => ?_)
    · refine lv_iconst (v := 1) F.1 F.2.1 dL_law_1791 (by decide) ?_
      refine va_forget (fun q hq => hbA2 _ (w.2.2.2.1.2.2 q hq)) ?_
      refine W.widen (k := 601024) (n := 7293034) (by omega) (by omega) ?_
      exact lw_ret F.1 F.2.1 hr hlk dL_law_1792
    · have h6 : 6 * j + 6 ≤ L := Nat.not_lt.mp (fun q => c_1 ((lw_in hL (by omega)).mpr q))
      have hj2 : j < 512 := by omega
      refine lv_aload_n F.1 F.2.1 dL_law_33 rfl (lv_at hl 4 rfl) ?_
      refine lv_iload F.1 F.2.1 dL_law_34 (lv_at hl 0 rfl) ?_
      refine va_sld F.1 F.2.1 hX hbl hbA w.2.2.2.1 (vp_in_nI (show 6 * j < L by omega) (by omega)) dL_law_36 ?_
      generalize xs (nI (6 * j)).toNatClampNeg = x9
      refine lv_bipush (v := 31) F.1 F.2.1 dL_law_37 (by decide) ?_
      refine lv_iand F.1 F.2.1 dL_law_39 ?_
      generalize x9 &&& 31 = x8
      have kk : ∀ (H1 : Heap) (locs1 : List Loc) (ls1 : Array Slot), LInv9 D cy A s x0 m0 o R9 (j + 1) H1 locs1 → lv_has ls1 7 [(4, .int (nI (6 * j))), (3, .ref o), (2, .ref m0), (1, .ref x0), (0, .ref b)] → W p l e room_1 s m #[Value.ref b] below meth c H1 locs1 (50 + 8 * (j + 1)) (3000 + 3033 * (j + 1)) (lw_Z below #[Value.ref b] s) (F0 m 1785 ls1 []) := by
        intro H1 locs1 ls1 hI1 hl1
        refine lv_iinc (v := nI (6 * (j + 1))) (lv' := [(4, .int (nI (6 * (j + 1)))), (3, .ref o), (2, .ref m0), (1, .ref x0), (0, .ref b)]) F.1 F.2.1 dL_law_1785 hl1 (k := 0) rfl ((nI_add (6 * j) 6).trans (congrArg nI (by omega))) (by decide) rfl (fun ls hl => ?_)
        refine lv_goto (tgt := 23) F.1 F.2.1 dL_law_1788 (by decide) ?_
        exact ih (j + 1) H1 locs1 ls (by omega) (by omega) hI1 hl
      by_cases c_s0 : x8 = 0
      · refine lv_tableIn (tgt := 148) F.1 F.2.1 dL_law_40 (by rw [c_s0]; decide) (by rw [c_s0]; decide) (by rw [c_s0]; rfl) (by decide) ?_
        exact lk_pass F hlf hR hX hbl hbA hL hj2 h6 hI hl kk
      by_cases c_s1 : x8 = 1
      · refine lv_tableIn (tgt := 204) F.1 F.2.1 dL_law_40 (by rw [c_s1]; decide) (by rw [c_s1]; decide) (by rw [c_s1]; rfl) (by decide) ?_
        exact lk_ship F hlf hR hX hbl hbA hL hj2 h6 hI hl kk
      by_cases c_s2 : x8 = 2
      · refine lv_tableIn (tgt := 308) F.1 F.2.1 dL_law_40 (by rw [c_s2]; decide) (by rw [c_s2]; decide) (by rw [c_s2]; rfl) (by decide) ?_
        exact lk_changes F hlf hR hX hbl hbA hL hj2 h6 hI hl kk
      by_cases c_s3 : x8 = 3
      · refine lv_tableIn (tgt := 388) F.1 F.2.1 dL_law_40 (by rw [c_s3]; decide) (by rw [c_s3]; decide) (by rw [c_s3]; rfl) (by decide) ?_
        exact lk_suspend F hlf hR hX hbl hbA hL hj2 h6 hI hl kk
      by_cases c_s4 : x8 = 4
      · refine lv_tableIn (tgt := 479) F.1 F.2.1 dL_law_40 (by rw [c_s4]; decide) (by rw [c_s4]; decide) (by rw [c_s4]; rfl) (by decide) ?_
        exact lk_rule F hlf hR hX hbl hbA hL hj2 h6 hI hl kk
      by_cases c_s5 : x8 = 5
      · refine lv_tableIn (tgt := 583) F.1 F.2.1 dL_law_40 (by rw [c_s5]; decide) (by rw [c_s5]; decide) (by rw [c_s5]; rfl) (by decide) ?_
        exact lk_issue F hlf hR hX hbl hbA hL hj2 h6 hI hl kk
      by_cases c_s6 : x8 = 6
      · refine lv_tableIn (tgt := 663) F.1 F.2.1 dL_law_40 (by rw [c_s6]; decide) (by rw [c_s6]; decide) (by rw [c_s6]; rfl) (by decide) ?_
        exact lk_endorse F hlf hR hX hbl hbA hL hj2 h6 hI hl kk
      by_cases c_s7 : x8 = 7
      · refine lv_tableIn (tgt := 731) F.1 F.2.1 dL_law_40 (by rw [c_s7]; decide) (by rw [c_s7]; decide) (by rw [c_s7]; rfl) (by decide) ?_
        exact lk_calls F hlf hR hX hbl hbA hL hj2 h6 hI hl kk
      by_cases c_s8 : x8 = 8
      · refine lv_tableIn (tgt := 799) F.1 F.2.1 dL_law_40 (by rw [c_s8]; decide) (by rw [c_s8]; decide) (by rw [c_s8]; rfl) (by decide) ?_
        exact lk_leaves F hlf hR hX hbl hbA hL hj2 h6 hI hl kk
      by_cases c_s9 : x8 = 9
      · refine lv_tableIn (tgt := 862) F.1 F.2.1 dL_law_40 (by rw [c_s9]; decide) (by rw [c_s9]; decide) (by rw [c_s9]; rfl) (by decide) ?_
        exact lk_visit F hlf hR hX hbl hbA hL hj2 h6 hI hl kk
      by_cases c_s10 : x8 = 10
      · refine lv_tableIn (tgt := 918) F.1 F.2.1 dL_law_40 (by rw [c_s10]; decide) (by rw [c_s10]; decide) (by rw [c_s10]; rfl) (by decide) ?_
        exact lk_finds F hlf hR hX hbl hbA hL hj2 h6 hI hl kk
      by_cases c_s11 : x8 = 11
      · refine lv_tableIn (tgt := 998) F.1 F.2.1 dL_law_40 (by rw [c_s11]; decide) (by rw [c_s11]; decide) (by rw [c_s11]; rfl) (by decide) ?_
        exact lk_mends F hlf hR hX hbl hbA hL hj2 h6 hI hl kk
      by_cases c_s12 : x8 = 12
      · refine lv_tableIn (tgt := 1094) F.1 F.2.1 dL_law_40 (by rw [c_s12]; decide) (by rw [c_s12]; decide) (by rw [c_s12]; rfl) (by decide) ?_
        exact lk_detain F hlf hR hX hbl hbA hL hj2 h6 hI hl kk
      by_cases c_s13 : x8 = 13
      · refine lv_tableIn (tgt := 1150) F.1 F.2.1 dL_law_40 (by rw [c_s13]; decide) (by rw [c_s13]; decide) (by rw [c_s13]; rfl) (by decide) ?_
        exact lk_release F hlf hR hX hbl hbA hL hj2 h6 hI hl kk
      by_cases c_s14 : x8 = 14
      · refine lv_tableIn (tgt := 1206) F.1 F.2.1 dL_law_40 (by rw [c_s14]; decide) (by rw [c_s14]; decide) (by rw [c_s14]; rfl) (by decide) ?_
        exact lk_appeal F hlf hR hX hbl hbA hL hj2 h6 hI hl kk
      by_cases c_s15 : x8 = 15
      · refine lv_tableIn (tgt := 1242) F.1 F.2.1 dL_law_40 (by rw [c_s15]; decide) (by rw [c_s15]; decide) (by rw [c_s15]; rfl) (by decide) ?_
        exact lk_vote F hlf hR hX hbl hbA hL hj2 h6 hI hl kk
      by_cases c_s16 : x8 = 16
      · refine lv_tableIn (tgt := 1326) F.1 F.2.1 dL_law_40 (by rw [c_s16]; decide) (by rw [c_s16]; decide) (by rw [c_s16]; rfl) (by decide) ?_
        exact lk_ofShip F hlf hR hX hbl hbA hL hj2 h6 hI hl kk
      by_cases c_s17 : x8 = 17
      · refine lv_tableIn (tgt := 1394) F.1 F.2.1 dL_law_40 (by rw [c_s17]; decide) (by rw [c_s17]; decide) (by rw [c_s17]; rfl) (by decide) ?_
        exact lk_pointsAnew F hlf hR hX hbl hbA hL hj2 h6 hI hl kk
      by_cases c_s18 : x8 = 18
      · refine lv_tableIn (tgt := 1450) F.1 F.2.1 dL_law_40 (by rw [c_s18]; decide) (by rw [c_s18]; decide) (by rw [c_s18]; rfl) (by decide) ?_
        exact lk_isGround F hlf hR hX hbl hbA hL hj2 h6 hI hl kk
      by_cases c_s19 : x8 = 19
      · refine lv_tableIn (tgt := 1525) F.1 F.2.1 dL_law_40 (by rw [c_s19]; decide) (by rw [c_s19]; decide) (by rw [c_s19]; rfl) (by decide) ?_
        exact lk_ofVisit F hlf hR hX hbl hbA hL hj2 h6 hI hl kk
      by_cases c_s20 : x8 = 20
      · refine lv_tableIn (tgt := 1593) F.1 F.2.1 dL_law_40 (by rw [c_s20]; decide) (by rw [c_s20]; decide) (by rw [c_s20]; rfl) (by decide) ?_
        exact lk_list F hlf hR hX hbl hbA hL hj2 h6 hI hl kk
      by_cases c_s21 : x8 = 21
      · refine lv_tableIn (tgt := 1649) F.1 F.2.1 dL_law_40 (by rw [c_s21]; decide) (by rw [c_s21]; decide) (by rw [c_s21]; rfl) (by decide) ?_
        exact lk_missed F hlf hR hX hbl hbA hL hj2 h6 hI hl kk
      by_cases c_s22 : x8 = 22
      · refine lv_tableIn (tgt := 1705) F.1 F.2.1 dL_law_40 (by rw [c_s22]; decide) (by rw [c_s22]; decide) (by rw [c_s22]; rfl) (by decide) ?_
        exact lk_knew F hlf hR hX hbl hbA hL hj2 h6 hI hl kk
      refine lv_tableOut (tgt := 1785) F.1 F.2.1 dL_law_40 (by have q0 : x8.toInt ≠ 0 := i32_ne c_s0 rfl; have q1 : x8.toInt ≠ 1 := i32_ne c_s1 rfl; have q2 : x8.toInt ≠ 2 := i32_ne c_s2 rfl; have q3 : x8.toInt ≠ 3 := i32_ne c_s3 rfl; have q4 : x8.toInt ≠ 4 := i32_ne c_s4 rfl; have q5 : x8.toInt ≠ 5 := i32_ne c_s5 rfl; have q6 : x8.toInt ≠ 6 := i32_ne c_s6 rfl; have q7 : x8.toInt ≠ 7 := i32_ne c_s7 rfl; have q8 : x8.toInt ≠ 8 := i32_ne c_s8 rfl; have q9 : x8.toInt ≠ 9 := i32_ne c_s9 rfl; have q10 : x8.toInt ≠ 10 := i32_ne c_s10 rfl; have q11 : x8.toInt ≠ 11 := i32_ne c_s11 rfl; have q12 : x8.toInt ≠ 12 := i32_ne c_s12 rfl; have q13 : x8.toInt ≠ 13 := i32_ne c_s13 rfl; have q14 : x8.toInt ≠ 14 := i32_ne c_s14 rfl; have q15 : x8.toInt ≠ 15 := i32_ne c_s15 rfl; have q16 : x8.toInt ≠ 16 := i32_ne c_s16 rfl; have q17 : x8.toInt ≠ 17 := i32_ne c_s17 rfl; have q18 : x8.toInt ≠ 18 := i32_ne c_s18 rfl; have q19 : x8.toInt ≠ 19 := i32_ne c_s19 rfl; have q20 : x8.toInt ≠ 20 := i32_ne c_s20 rfl; have q21 : x8.toInt ≠ 21 := i32_ne c_s21 rfl; have q22 : x8.toInt ≠ 22 := i32_ne c_s22 rfl; omega) (by decide) ?_
      obtain ⟨X, Y, AD, ad, G, M, f, w, g1, g2, g3, g4, g5, g6⟩ := hI
      refine W.widen (k := 50 + 8 * (j + 1)) (n := 3000 + 3033 * (j + 1)) (by omega) (by omega) ?_
      exact kk _ _ ls ⟨X, Y, AD, ad, G, M, f, w, g1, g2, g3, g4, g5, hR.2.2.1 j G M g6⟩ hl
end LW
