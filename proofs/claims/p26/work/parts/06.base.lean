/-! the reference's state: G k i is field k, place i; a number alone stands at place 0 -/
abbrev GS : Type := Nat → Nat → Int32
def up2 (G : GS) (k i : Nat) (v : Int32) : GS := fun a => if a = k then upd (G a) i v else G a
theorem up2_ne {G : GS} {k i : Nat} {v : Int32} {a : Nat} (h : a ≠ k) : up2 G k i v a = G a := if_neg h
theorem up2_eq (G : GS) (k i : Nat) (v : Int32) : up2 G k i v k = upd (G k) i v := if_pos rfl
section QM
variable {p : Program} {l : Launch} {e : Env} {R : Room} {s : State} {m : MethodId} {args : Array Value} {below : List Frame} {meth : Method} {c : Code} {H : Heap} {locs : List Loc} {cells slots : Nat} {Q : State → Prop}
variable {cc : ByteArray} {nL pc : Nat} {ls : Array Slot} {rest st0 : List Value} {D : va_G} {cy : Nat → ClassId} {A : Nat → Prop} {a : Nat} {μ : MU} {own : String} {m0 : Nat} {ad : Nat → Nat} {G : GS}
theorem lv_fold {x y : Int32} (h : x = y) (k : W p l e R s m args below meth c H locs cells slots Q (F0 m pc ls (.int y :: rest))) : W p l e R s m args below meth c H locs cells slots Q (F0 m pc ls (.int x :: rest)) := h ▸ k
theorem q_reti (F : CallFix p m c cc nL s args BIG own) (hr : meth.sig.returnType = some .int) (hlk : meth.locks = false) {v v' : Int32} (h : v = v') (hdg : decode cc pc = .ok (.ireturn, 1)) : W p l e R s m args below meth c s.heap [] 0 0 (MQ below (QcRead v) args s 0 0 (fun _ => False)) (F0 m pc ls [.int v']) := by
  subst h
  exact W.iret F.1 F.2.1 hr (fun t ht hW => ⟨rfl, ht⟩) (fun q hq => nomatch hq) hdg hlk
abbrev nz (v : Int32) : Prop := narrow .boolean (.int v) = .int v
theorem q_retz (F : CallFix p m c cc nL s args BIG own) (hr : meth.sig.returnType = some .boolean) (hlk : meth.locks = false) {v v' : Int32} (h : v = v') (hz : nz v') (hdg : decode cc pc = .ok (.ireturn, 1)) : W p l e R s m args below meth c s.heap [] 0 0 (MQ below (QcRead v) args s 0 0 (fun _ => False)) (F0 m pc ls [.int v']) := by
  subst h
  exact W.zret F.1 F.2.1 hr hz (fun t ht hW => ⟨rfl, ht⟩) (fun q hq => nomatch hq) hdg hlk
theorem q_retI {S : Type} {post : Int32 → MU → Prop} (F : CallFix p m c cc nL s args BIG own) (hr : meth.sig.returnType = some .int) (hlk : meth.locks = false) (w : WW D cy A μ s H locs) {v : Int32} (h : post v μ) (hdg : decode cc pc = .ok (.ireturn, 1)) : W p l e R s m args below meth c H locs cells slots (MQ below (va_Qi post (fun μ1 t => Wd D cy A μ1 t) A) args s cells slots A) (F0 m pc ls [.int v]) :=
  W.iret F.1 F.2.1 hr (fun t ht hW => ⟨⟨v, μ, rfl, h, w.at ht hW⟩, w.2.2.2.1.F ht⟩) w.2.2.2.1.2.2 hdg hlk
theorem q_retZ {S : Type} {post : Int32 → MU → Prop} (F : CallFix p m c cc nL s args BIG own) (hr : meth.sig.returnType = some .boolean) (hlk : meth.locks = false) (w : WW D cy A μ s H locs) {v : Int32} (h : post v μ) (hz : nz v) (hdg : decode cc pc = .ok (.ireturn, 1)) : W p l e R s m args below meth c H locs cells slots (MQ below (va_Qi post (fun μ1 t => Wd D cy A μ1 t) A) args s cells slots A) (F0 m pc ls [.int v]) :=
  W.zret F.1 F.2.1 hr hz (fun t ht hW => ⟨⟨v, μ, rfl, h, w.at ht hW⟩, w.2.2.2.1.F ht⟩) w.2.2.2.1.2.2 hdg hlk
theorem q_retV {post : MU → Prop} (F : CallFix p m c cc nL s args BIG own) (hr : meth.sig.returnType = none) (hlk : meth.locks = false) (w : WW D cy A μ s H locs) (h : post μ) (hdg : decode cc pc = .ok (.return_, 1)) : W p l e R s m args below meth c H locs cells slots (MQ below (va_Qv post (fun μ1 t => Wd D cy A μ1 t) A) args s cells slots A) (F0 m pc ls []) :=
  W.vret F.1 F.2.1 hr (fun t ht hW => ⟨⟨μ, rfl, h, w.at ht hW⟩, w.2.2.2.1.F ht⟩) w.2.2.2.1.2.2 hdg hlk
end QM
section QMC
variable {p : Program} {l : Launch} {e : Env} {R : Room} {s : State} {m : MethodId} {args : Array Value} {below : List Frame} {meth : Method} {c : Code} {H : Heap} {locs : List Loc} {cells slots : Nat} {Q : State → Prop}
variable {cc : ByteArray} {nL pc : Nat} {ls : Array Slot} {rest st0 : List Value} {D : va_G} {cy : Nat → ClassId} {A : Nat → Prop} {a : Nat} {μ : MU} {own : String}
/-- calls that may change the world -/
theorem q_mVv (F : CallFix p m c cc nL s args BIG own) (w : WW D cy A μ s H locs) {y : MethodName} {b : ByteArray} {n k idx mc ms : Nat} {r : Option FieldType} {rm : Room} {o ci : Nat} {fs As : List Value} {q : vw_C} {post : MU → Prop} (hg : GoodIn BIG (wsV own idx q.1 y (WS y b n r))) (hd : y.cls = q.1 ∧ y.cls ≠ "java/lang/invoke/MethodHandle" ∧ y.cls ≠ "java/lang/invoke/VarHandle" ∧ (parseMethodDescriptor y.desc).map (fun d => d.parameters.length) = some k) (hc : vwCl[ci]? = some q)
    (hM : Met l y (WS y b n r) rm (va_Pc (.ref o :: As) (Wd D cy A μ)) (va_Qv post (fun μ1 t => Wd D cy A μ1 t) A) mc ms A) (ho : μ o = some (.inr (ci, fs))) (hdg : decode cc pc = .ok (.invokevirtual idx, 3)) (hn : As.length = k) (hst : st0 = As.reverse ++ .ref o :: rest) (hsz : ls.size = nL) (hR : rm.cells = mc ∧ rm.slots = ms ∧ rm.frames + 1 ≤ R.frames ∧ 8 + (n + 11) + rm.locals ≤ R.locals) (hroom : (rest.map fun v => v.category).sum ≤ 8)
    (hf : cells + mc ≤ R.cells ∧ slots + ms ≤ R.slots) (kk : ∀ (μ1 : MU) (H1 : Heap) (locs1 : List Loc), post μ1 → WW D cy A μ1 s H1 locs1 → W p l e R s m args below meth c H1 locs1 (cells + mc) (slots + ms) Q (F0 m (pc + 3) ls rest)) : W p l e R s m args below meth c H locs cells slots Q (F0 m pc ls st0) :=
  va_callv (va_runV (As := As) (rest := rest) F hM (cwV k F.2.2.2.2 hg rfl hR.1 hR.2.1 hd ⟨hR.2.2.1, hR.2.2.2⟩) ⟨Wd.blind, w.recv ho hc, fun U hU hW => ⟨rfl, w.at hU hW⟩⟩ rfl hn hsz hst (lv_room hroom) hdg hf) w.2.2.2.1 (fun q _ h => h) (fun q h => h) (fun u t H1 locs1 ht hvm hp hB hz hk hS => kk u H1 locs1 hp (w.next hB ht hS))
theorem q_mVi (F : CallFix p m c cc nL s args BIG own) (w : WW D cy A μ s H locs) {y : MethodName} {b : ByteArray} {n k idx mc ms : Nat} {r : Option FieldType} {rm : Room} {o ci : Nat} {fs As : List Value} {q : vw_C} {post : Int32 → MU → Prop} (hg : GoodIn BIG (wsV own idx q.1 y (WS y b n r))) (hd : y.cls = q.1 ∧ y.cls ≠ "java/lang/invoke/MethodHandle" ∧ y.cls ≠ "java/lang/invoke/VarHandle" ∧ (parseMethodDescriptor y.desc).map (fun d => d.parameters.length) = some k) (hc : vwCl[ci]? = some q)
    (hM : Met l y (WS y b n r) rm (va_Pc (.ref o :: As) (Wd D cy A μ)) (va_Qi post (fun μ1 t => Wd D cy A μ1 t) A) mc ms A) (ho : μ o = some (.inr (ci, fs))) (hdg : decode cc pc = .ok (.invokevirtual idx, 3)) (hn : As.length = k) (hst : st0 = As.reverse ++ .ref o :: rest) (hsz : ls.size = nL) (hR : rm.cells = mc ∧ rm.slots = ms ∧ rm.frames + 1 ≤ R.frames ∧ 8 + (n + 11) + rm.locals ≤ R.locals) (hroom : (rest.map fun v => v.category).sum ≤ 8)
    (hf : cells + mc ≤ R.cells ∧ slots + ms ≤ R.slots) (kk : ∀ (v : Int32) (μ1 : MU) (H1 : Heap) (locs1 : List Loc), post v μ1 → WW D cy A μ1 s H1 locs1 → W p l e R s m args below meth c H1 locs1 (cells + mc) (slots + ms) Q (F0 m (pc + 3) ls (.int v :: rest))) : W p l e R s m args below meth c H locs cells slots Q (F0 m pc ls st0) :=
  va_calli (va_runV (As := As) (rest := rest) F hM (cwV k F.2.2.2.2 hg rfl hR.1 hR.2.1 hd ⟨hR.2.2.1, hR.2.2.2⟩) ⟨Wd.blind, w.recv ho hc, fun U hU hW => ⟨rfl, w.at hU hW⟩⟩ rfl hn hsz hst (lv_room hroom) hdg hf) w.2.2.2.1 (fun q _ h => h) (fun q h => h) (fun v u t H1 locs1 ht hvm hp hB hz hk hS => kk v u H1 locs1 hp (w.next hB ht hS))
theorem q_loopW (P : Nat → MU → Heap → List Loc → Array Slot → Prop) (n : Nat) (hs : ∀ (k : Nat) (μ : MU) (H : Heap) (locs : List Loc) (ls : Array Slot), k ≤ n → P k μ H locs ls → (∀ (μ1 : MU) (H1 : Heap) (locs1 : List Loc) (ls1 : Array Slot), k < n → P (k + 1) μ1 H1 locs1 ls1 → W p l e R s m args below meth c H1 locs1 cells slots Q (F0 m pc ls1 [])) → W p l e R s m args below meth c H locs cells slots Q (F0 m pc ls [])) : ∀ (k : Nat) (μ : MU) (H : Heap) (locs : List Loc) (ls : Array Slot), k ≤ n → P k μ H locs ls → W p l e R s m args below meth c H locs cells slots Q (F0 m pc ls []) := by
  have h : ∀ (d k : Nat) (μ : MU) (H : Heap) (locs : List Loc) (ls : Array Slot), k + d = n → P k μ H locs ls → W p l e R s m args below meth c H locs cells slots Q (F0 m pc ls []) := by
    intro d
    induction d with
    | zero => exact fun k μ H locs ls hk hp => hs k μ H locs ls (by omega) hp (fun μ1 H1 locs1 ls1 h _ => absurd h (by omega))
    | succ d ih => exact fun k μ H locs ls hk hp => hs k μ H locs ls (by omega) hp (fun μ1 H1 locs1 ls1 _ h => ih (k + 1) μ1 H1 locs1 ls1 (by omega) h)
  exact fun k μ H locs ls hk hp => h (n - k) k μ H locs ls (by omega) hp
end QMC
theorem nz0 : nz 0 := rfl
theorem nz1 : nz 1 := rfl
theorem nz_ite {c : Prop} [Decidable c] {a b : Int32} (ha : nz a) (hb : nz b) : nz (if c then a else b) := by split <;> assumption
theorem nz_or {v : Int32} (h : nz v) : v = 0 ∨ v = 1 := by
  have h1 : (v &&& 1) = v := by
    have h2 : narrow .boolean (.int v) = .int v := h
    simp only [narrow] at h2
    injection h2
  have h3 := pk_and v (m := 1) 1 (by decide)
  rw [h1] at h3
  have h4 : v.toBitVec.toNat % 2 ^ 1 < 2 := Nat.mod_lt _ (by decide)
  rcases (show v.toBitVec.toNat % 2 ^ 1 = 0 ∨ v.toBitVec.toNat % 2 ^ 1 = 1 by omega) with q | q
  · left; rw [h3, q]; rfl
  · right; rw [h3, q]; rfl
theorem jn_a {K : JFrame → Prop} {m : MethodId} {pc : Nat} {ls : Array Slot} {rest : List Value} {x v : Int32} (h : x = v) (J : K (F0 m pc ls (.int x :: rest))) : K (F0 m pc ls (.int v :: rest)) := h ▸ J
/-- two ways meet at pcj with x on the stack -/
theorem jn0 {K : JFrame → Prop} {g : JFrame} {m : MethodId} {ls : Array Slot} {rest : List Value} (x : Int32) (pcj : Nat) (h2 : K (F0 m pcj ls (.int x :: rest)) → K g) (h1 : K (F0 m pcj ls (.int x :: rest))) : K g := h2 h1
/-- two ways meet at pcj with locals lv -/
theorem jnl {K : JFrame → Prop} {g : JFrame} {m : MethodId} (nL : Nat) (lv : List (Nat × Value)) (st : List Value) (pcj : Nat) (h2 : (∀ ls : Array Slot, lv_has ls nL lv → K (F0 m pcj ls st)) → K g) (h1 : ∀ ls : Array Slot, lv_has ls nL lv → K (F0 m pcj ls st)) : K g := h2 h1
theorem lv_cg {ls : Array Slot} {nL : Nat} {l l' : List (Nat × Value)} (h : lv_has ls nL l) (e : l = l') : lv_has ls nL l' := e ▸ h
theorem GB_ile {n k : Nat} {x : Int32} (hx : x = nI n) (hn : n < 2 ^ 31) (hk : k ≤ n) (h : x ≤ nI k) : k = n := by
  rw [hx] at h
  have := (nI_leI hn (Nat.lt_of_le_of_lt hk hn)).mp h
  omega
theorem GB_ilt {n k : Nat} {x : Int32} (hx : x = nI n) (hn : n < 2 ^ 31) (hk : k ≤ n) (h : ¬ x ≤ nI k) : k < n := by
  rw [hx] at h
  rcases Nat.lt_or_ge k n with q | q
  · exact q
  · exact absurd ((nI_leI hn (Nat.lt_of_le_of_lt hk hn)).mpr q) h
theorem i32_ne {x n : Int32} {z : Int} (h : ¬ x = n) (hz : n.toInt = z) : x.toInt ≠ z := fun e => h (Int32.toInt_inj.mp (e.trans hz.symm))
def gnS (G : GS) : Nat := (G 3 0).toNatClampNeg
def gnR (G : GS) : Nat := (G 23 0).toNatClampNeg
def gnV (G : GS) : Nat := (G 29 0).toNatClampNeg
def gnF (G : GS) (v : Nat) : Nat := (G 35 v).toNatClampNeg
theorem wArI : Cond.arrayClass .int ∈ BIG := BIG_t 78 (by decide +kernel) (by decide +kernel)
theorem wArZ : Cond.arrayClass .boolean ∈ BIG := BIG_t 77 (by decide +kernel) (by decide +kernel)
theorem wArJ : Cond.arrayClass .long ∈ BIG := BIG_t 910 (by decide +kernel) (by decide +kernel)
theorem wObjI : Cond.instanceMethod objectInit ∈ BIG := BIG_t 30 (by decide +kernel) (by decide +kernel)
theorem wObjC : Cond.code objectInit ⟨#[0xb1]⟩ 1 none ∈ BIG := BIG_t 31 (by decide +kernel) (by decide +kernel)
theorem wO_X6_1 : Cond.methodLink RX6 1 objectInit ∈ BIG := BIG_t 29 (by decide +kernel) (by decide +kernel)
theorem wO_Jxa1e45_1 : Cond.methodLink RJxa1e45 1 objectInit ∈ BIG := BIG_t 43 (by decide +kernel) (by decide +kernel)
theorem wO_X4_3 : Cond.methodLink RX4 3 objectInit ∈ BIG := BIG_t 218 (by decide +kernel) (by decide +kernel)
theorem wO_X2_1 : Cond.methodLink RX2 1 objectInit ∈ BIG := BIG_t 299 (by decide +kernel) (by decide +kernel)
theorem wO_X3_1 : Cond.methodLink RX3 1 objectInit ∈ BIG := BIG_t 424 (by decide +kernel) (by decide +kernel)
theorem wO_X0_3 : Cond.methodLink RX0 3 objectInit ∈ BIG := BIG_t 483 (by decide +kernel) (by decide +kernel)
theorem wO_X5_3 : Cond.methodLink RX5 3 objectInit ∈ BIG := BIG_t 629 (by decide +kernel) (by decide +kernel)
theorem wO_X1_1 : Cond.methodLink RX1 1 objectInit ∈ BIG := BIG_t 710 (by decide +kernel) (by decide +kernel)
section QN
variable {p : Program} {l : Launch} {e : Env} {R : Room} {s : State} {m : MethodId} {args : Array Value} {below : List Frame} {meth : Method} {c : Code} {H : Heap} {locs : List Loc} {cells slots : Nat} {Q : State → Prop}
variable {cc : ByteArray} {nL pc : Nat} {ls : Array Slot} {rest st0 : List Value} {D : va_G} {cy : Nat → ClassId} {A : Nat → Prop} {a : Nat} {μ : MU} {own : String}
theorem q_obj (F : CallFix p m c cc nL s args BIG own) {idx : Nat} (h1 : Cond.methodLink own idx objectInit ∈ BIG) (hdg : decode cc pc = .ok (.invokespecial idx, 3)) (hsz : ls.size = nL) (hfr : 1 ≤ R.frames) (hlo : 2 * 0 + (rest.map fun v => v.category).sum + 12 ≤ R.locals) (kk : W p l e R s m args below meth c H locs cells slots Q (F0 m (pc + 3) ls rest)) : W p l e R s m args below meth c H locs cells slots Q (F0 m pc ls (.ref a :: rest)) :=
  W.objInit F.1 F.2.1 F.2.2.2.1 (F.2.2.2.2 _ h1) (F.2.2.2.2 _ wObjI) (F.2.2.2.2 _ wObjC) rfl (hsz.trans F.2.2.1.symm) rfl hdg hfr hlo (W.eq (g2 := F0 m (pc + 3) ls rest) rfl kk)
theorem q_newI (F : CallFix p m c cc nL s args BIG own) (w : WW D cy A μ s H locs) {n : Int32} (N : Nat) (hn : n = nI N) (hN : N < 100000) (hcells : cells + 1 ≤ R.cells) (hslots : slots + N ≤ R.slots) (hdg : decode cc pc = .ok (.newarray .int, 2))
    (kk : ∀ (q : Nat) (H1 : Heap), μ q = none → WW D cy A (mset μ q (.inl (cy 0, N, .inl (fun _ => 0)))) s H1 locs → W p l e R s m args below meth c H1 locs (cells + 1) (slots + N) Q (F0 m (pc + 2) ls (.ref q :: rest))) : W p l e R s m args below meth c H locs cells slots Q (F0 m pc ls (.int n :: rest)) := by
  obtain ⟨hP, hK, hA, hS, hE⟩ := w
  have hN2 : N < 2 ^ 31 := Nat.lt_trans hN (by decide)
  subst hn
  have hby : N * componentBytes (FieldType.int) ≤ 536870912 := Nat.le_trans (Nat.mul_le_mul (Nat.le_of_lt hN) (by decide : componentBytes (FieldType.int) ≤ 8)) (by decide)
  refine va_newa (atype := .int) (a0 := (N, .inl (fun _ => 0))) F.1 F.2.1 (F.2.2.2.2 _ wArI) rfl hK hP.lP hP.lD hS hA (fun _ => rfl) (nI_pos hN2) (nI_clamp hN2) hby hcells hslots hdg (fun q cA H1 hK1 hP1 hD1 hS1 => ?_)
  have hcy : cA = cy 0 := Option.some.inj ((hK1.2 5 _ rfl).2.symm.trans (hK.2 0 _ rfl).2)
  subst hcy
  exact kk q H1 (hP.new hP1 hD1).1 ⟨(hP.new hP1 hD1).2, hK, hA, hS1, hE⟩
theorem q_newZ (F : CallFix p m c cc nL s args BIG own) (w : WW D cy A μ s H locs) {n : Int32} (N : Nat) (hn : n = nI N) (hN : N < 100000) (hcells : cells + 1 ≤ R.cells) (hslots : slots + N ≤ R.slots) (hdg : decode cc pc = .ok (.newarray .boolean, 2))
    (kk : ∀ (q : Nat) (H1 : Heap), μ q = none → WW D cy A (mset μ q (.inl (cy 1, N, .inl (fun _ => 0)))) s H1 locs → W p l e R s m args below meth c H1 locs (cells + 1) (slots + N) Q (F0 m (pc + 2) ls (.ref q :: rest))) : W p l e R s m args below meth c H locs cells slots Q (F0 m pc ls (.int n :: rest)) := by
  obtain ⟨hP, hK, hA, hS, hE⟩ := w
  have hN2 : N < 2 ^ 31 := Nat.lt_trans hN (by decide)
  subst hn
  have hby : N * componentBytes (FieldType.boolean) ≤ 536870912 := Nat.le_trans (Nat.mul_le_mul (Nat.le_of_lt hN) (by decide : componentBytes (FieldType.boolean) ≤ 8)) (by decide)
  refine va_newa (atype := .boolean) (a0 := (N, .inl (fun _ => 0))) F.1 F.2.1 (F.2.2.2.2 _ wArZ) rfl hK hP.lP hP.lD hS hA (fun _ => rfl) (nI_pos hN2) (nI_clamp hN2) hby hcells hslots hdg (fun q cA H1 hK1 hP1 hD1 hS1 => ?_)
  have hcy : cA = cy 1 := Option.some.inj ((hK1.2 5 _ rfl).2.symm.trans (hK.2 1 _ rfl).2)
  subst hcy
  exact kk q H1 (hP.new hP1 hD1).1 ⟨(hP.new hP1 hD1).2, hK, hA, hS1, hE⟩
theorem q_newJ (F : CallFix p m c cc nL s args BIG own) (w : WW D cy A μ s H locs) {n : Int32} (N : Nat) (hn : n = nI N) (hN : N < 100000) (hcells : cells + 1 ≤ R.cells) (hslots : slots + N ≤ R.slots) (hdg : decode cc pc = .ok (.newarray .long, 2))
    (kk : ∀ (q : Nat) (H1 : Heap), μ q = none → WW D cy A (mset μ q (.inl (cy 4, N, .inr (.inl (fun _ => 0))))) s H1 locs → W p l e R s m args below meth c H1 locs (cells + 1) (slots + N) Q (F0 m (pc + 2) ls (.ref q :: rest))) : W p l e R s m args below meth c H locs cells slots Q (F0 m pc ls (.int n :: rest)) := by
  obtain ⟨hP, hK, hA, hS, hE⟩ := w
  have hN2 : N < 2 ^ 31 := Nat.lt_trans hN (by decide)
  subst hn
  have hby : N * componentBytes (FieldType.long) ≤ 536870912 := Nat.le_trans (Nat.mul_le_mul (Nat.le_of_lt hN) (by decide : componentBytes (FieldType.long) ≤ 8)) (by decide)
  refine va_newa (atype := .long) (a0 := (N, .inr (.inl (fun _ => 0)))) F.1 F.2.1 (F.2.2.2.2 _ wArJ) rfl hK hP.lP hP.lD hS hA (fun _ => rfl) (nI_pos hN2) (nI_clamp hN2) hby hcells hslots hdg (fun q cA H1 hK1 hP1 hD1 hS1 => ?_)
  have hcy : cA = cy 4 := Option.some.inj ((hK1.2 5 _ rfl).2.symm.trans (hK.2 4 _ rfl).2)
  subst hcy
  exact kk q H1 (hP.new hP1 hD1).1 ⟨(hP.new hP1 hD1).2, hK, hA, hS1, hE⟩
theorem q_newQ (F : CallFix p m c cc nL s args BIG own) (w : WW D cy A μ s H locs) {C : String} {index : Nat} (t0 : Nat) {cA : ClassId} (ht : (tysC cy)[t0]? = some (cA, .object C)) (hcl : Cond.classLink own index C ∈ BIG) (hover : va_AO C s) {n : Int32} (N : Nat) (hn : n = nI N) (hN : N < 100000) (hcells : cells + 1 ≤ R.cells) (hslots : slots + N ≤ R.slots) (hdg : decode cc pc = .ok (.anewarray index, 3))
    (kk : ∀ (q : Nat) (H1 : Heap), μ q = none → WW D cy A (mset μ q (.inl (cA, N, .inr (.inr (.inr (.inr (fun _ => none))))))) s H1 locs → W p l e R s m args below meth c H1 locs (cells + 1) (slots + N) Q (F0 m (pc + 3) ls (.ref q :: rest))) : W p l e R s m args below meth c H locs cells slots Q (F0 m pc ls (.int n :: rest)) := by
  obtain ⟨hP, hK, hA, hS, hE⟩ := w
  have hN2 : N < 2 ^ 31 := Nat.lt_trans hN (by decide)
  subst hn
  refine va_newq F.1 F.2.1 F.2.2.2.1 (F.2.2.2.2 _ hcl) hover hK hP.lP hP.lD hS hA (nI_pos hN2) (nI_clamp hN2) (by omega) hcells hslots hdg (fun q cA1 H1 hK1 hP1 hD1 hS1 => ?_)
  have hcy : cA1 = cA := by
    obtain ⟨_, _, _, _, _, g4⟩ := (hK.2 t0 _ ht).2
    obtain ⟨_, _, _, _, _, f4⟩ := (hK1.2 5 _ rfl).2
    exact Option.some.inj (f4.symm.trans g4)
  subst hcy
  exact kk q H1 (hP.new hP1 hD1).1 ⟨(hP.new hP1 hD1).2, hK, hA, hS1, hE⟩
end QN
