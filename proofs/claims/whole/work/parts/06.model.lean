/-! the reference's state: G k i is field k, place i; a number alone stands at place 0 -/
abbrev GS : Type := Nat → Nat → Int32
def up2 (G : GS) (k i : Nat) (v : Int32) : GS := fun a => if a = k then upd (G a) i v else G a
theorem up2_ne {G : GS} {k i : Nat} {v : Int32} {a : Nat} (h : a ≠ k) : up2 G k i v a = G a := if_neg h
theorem up2_eq (G : GS) (k i : Nat) (v : Int32) : up2 G k i v k = upd (G k) i v := if_pos rfl
def mSc (k : Nat) : Bool := k == 0 || k == 1 || k == 3 || k == 23 || k == 29
def mLen (k : Nat) : Nat := match k with
  | 2 => 4
  | 4 => 12
  | 5 => 12
  | 6 => 12
  | 7 => 12
  | 8 => 12
  | 9 => 12
  | 10 => 12
  | 11 => 12
  | 12 => 12
  | 13 => 12
  | 14 => 12
  | 15 => 12
  | 16 => 12
  | 17 => 12
  | 18 => 60
  | 19 => 60
  | 20 => 60
  | 21 => 60
  | 22 => 60
  | 24 => 20
  | 25 => 20
  | 26 => 20
  | 27 => 20
  | 28 => 20
  | 30 => 60
  | 31 => 60
  | 32 => 60
  | 33 => 60
  | 34 => 60
  | 35 => 60
  | 36 => 720
  | 37 => 720
  | 38 => 60
  | 39 => 60
  | 40 => 60
  | 41 => 60
  | 42 => 60
  | 43 => 4
  | _ => 0
def mTy (k : Nat) : Nat := match k with
  | 2 => 1
  | 14 => 1
  | 18 => 1
  | 39 => 1
  | 42 => 1
  | _ => 0
def mObj (ad : Nat → Nat) (G : GS) : List Value := [.int (G 0 0), .int (G 1 0), .ref (ad 2), .int (G 3 0), .ref (ad 4), .ref (ad 5), .ref (ad 6), .ref (ad 7), .ref (ad 8), .ref (ad 9), .ref (ad 10), .ref (ad 11), .ref (ad 12), .ref (ad 13), .ref (ad 14), .ref (ad 15), .ref (ad 16), .ref (ad 17), .ref (ad 18), .ref (ad 19), .ref (ad 20), .ref (ad 21), .ref (ad 22), .int (G 23 0), .ref (ad 24), .ref (ad 25), .ref (ad 26), .ref (ad 27), .ref (ad 28), .int (G 29 0), .ref (ad 30), .ref (ad 31), .ref (ad 32), .ref (ad 33), .ref (ad 34), .ref (ad 35), .ref (ad 36), .ref (ad 37), .ref (ad 38), .ref (ad 39), .ref (ad 40), .ref (ad 41), .ref (ad 42), .ref (ad 43)]
def RepM (cy : Nat → ClassId) (m0 : Nat) (ad : Nat → Nat) (G : GS) (μ : MU) : Prop := μ m0 = some (.inr (8, mObj ad G)) ∧ (∀ k, k < 44 → mSc k = false → μ (ad k) = some (.inl (cy (mTy k), mLen k, .inl (G k)))) ∧ ∀ j k, j < 44 → k < 44 → mSc j = false → mSc k = false → ad j = ad k → j = k
theorem mObj_ar {ad : Nat → Nat} {G : GS} {k i : Nat} {v : Int32} (h : mSc k = false) : mObj ad (up2 G k i v) = mObj ad G := by
  have h0 : ∀ j, mSc j = true → up2 G k i v j = G j := fun j hj => up2_ne (fun e => by rw [e, h] at hj; cases hj)
  unfold mObj
  rw [h0 0 rfl, h0 1 rfl, h0 3 rfl, h0 23 rfl, h0 29 rfl]
theorem RepM.ar {cy : Nat → ClassId} {m0 : Nat} {ad : Nat → Nat} {G : GS} {μ : MU} (h : RepM cy m0 ad G μ) {k i : Nat} (v : Int32) (hk : k < 44) (hs : mSc k = false) : RepM cy m0 ad (up2 G k i v) (mset μ (ad k) (.inl (cy (mTy k), mLen k, .inl (upd (G k) i v)))) := by
  refine ⟨?_, fun j hj hjs => ?_, h.2.2⟩
  · rw [mset_ne (fun e => by have h1 := h.1; rw [e, h.2.1 k hk hs] at h1; cases h1), mObj_ar hs]
    exact h.1
  · by_cases hjk : j = k
    · subst hjk
      rw [mset_eq, up2_eq]
    · rw [mset_ne (fun e => hjk (h.2.2 j k hj hk hjs hs e)), up2_ne hjk]
      exact h.2.1 j hj hjs
theorem RepM.sc {cy : Nat → ClassId} {m0 : Nat} {ad : Nat → Nat} {G : GS} {μ : MU} (h : RepM cy m0 ad G μ) {k : Nat} {v : Int32} {fs : List Value} (hs : mSc k = true) (hf : fs = mObj ad (up2 G k 0 v)) : RepM cy m0 ad (up2 G k 0 v) (mset μ m0 (.inr (8, fs))) := by
  refine ⟨by rw [mset_eq, hf], fun j hj hjs => ?_, h.2.2⟩
  rw [mset_ne (fun e => by have h1 := h.1; rw [← e, h.2.1 j hj hjs] at h1; cases h1), up2_ne (fun e => by rw [e, hs] at hjs; cases hjs)]
  exact h.2.1 j hj hjs
section QM
variable {p : Program} {l : Launch} {e : Env} {R : Room} {s : State} {m : MethodId} {args : Array Value} {below : List Frame} {meth : Method} {c : Code} {H : Heap} {locs : List Loc} {cells slots : Nat} {Q : State → Prop}
variable {cc : ByteArray} {nL pc : Nat} {ls : Array Slot} {rest st0 : List Value} {D : va_G} {cy : Nat → ClassId} {A : Nat → Prop} {a : Nat} {μ : MU} {own : String} {m0 : Nat} {ad : Nat → Nat} {G : GS}
theorem lv_fold {x y : Int32} (h : x = y) (k : W p l e R s m args below meth c H locs cells slots Q (F0 m pc ls (.int y :: rest))) : W p l e R s m args below meth c H locs cells slots Q (F0 m pc ls (.int x :: rest)) := h ▸ k
/-- a read of the int array k at place r -/
theorem m_ild (F : CallFix p m c cc nL s args BIG own) (w : WW D cy A μ s H locs) (hM : RepM cy m0 ad G μ) (k : Nat) (hk : k < 44) (hs : mSc k = false) (ht : mTy k = 0) (r : Nat) (hr : r < mLen k) (hn : mLen k < 2 ^ 31) (hdg : decode cc pc = .ok (.iaload, 1))
    (kk : W p l e R s m args below meth c H locs cells slots Q (F0 m (pc + 1) ls (.int (G k r) :: rest))) : W p l e R s m args below meth c H locs cells slots Q (F0 m pc ls (.int (nI r) :: .ref (ad k) :: rest)) := by
  have he := hM.2.1 k hk hs
  rw [ht] at he
  refine q_iald F w he (vp_in_nI hr hn) hdg ?_
  rw [nI_clamp (Nat.lt_trans hr hn)]
  exact kk
theorem m_zld (F : CallFix p m c cc nL s args BIG own) (w : WW D cy A μ s H locs) (hM : RepM cy m0 ad G μ) (k : Nat) (hk : k < 44) (hs : mSc k = false) (ht : mTy k = 1) (r : Nat) (hr : r < mLen k) (hn : mLen k < 2 ^ 31) (hdg : decode cc pc = .ok (.baload, 1))
    (kk : W p l e R s m args below meth c H locs cells slots Q (F0 m (pc + 1) ls (.int (G k r) :: rest))) : W p l e R s m args below meth c H locs cells slots Q (F0 m pc ls (.int (nI r) :: .ref (ad k) :: rest)) := by
  have he := hM.2.1 k hk hs
  rw [ht] at he
  refine q_zald F w he (vp_in_nI hr hn) hdg ?_
  rw [nI_clamp (Nat.lt_trans hr hn)]
  exact kk
theorem m_ist (F : CallFix p m c cc nL s args BIG own) (w : WW D cy A μ s H locs) (hM : RepM cy m0 ad G μ) (k : Nat) (hk : k < 44) (hs : mSc k = false) (ht : mTy k = 0) (r : Nat) (hr : r < mLen k) (hn : mLen k < 2 ^ 31) {x : Int32} (hdg : decode cc pc = .ok (.iastore, 1))
    (kk : ∀ (H1 : Heap) (locs1 : List Loc) (μ1 : MU), WW D cy A μ1 s H1 locs1 → RepM cy m0 ad (up2 G k r x) μ1 → W p l e R s m args below meth c H1 locs1 cells slots Q (F0 m (pc + 1) ls rest)) : W p l e R s m args below meth c H locs cells slots Q (F0 m pc ls (.int x :: .int (nI r) :: .ref (ad k) :: rest)) := by
  have he := hM.2.1 k hk hs
  have hR := hM.ar (i := r) x hk hs
  rw [ht] at he hR
  refine q_iast F w he (vp_in_nI hr hn) hdg (fun H1 locs1 w1 => ?_)
  rw [nI_clamp (Nat.lt_trans hr hn)] at w1
  exact kk H1 locs1 _ w1 hR
theorem m_zst (F : CallFix p m c cc nL s args BIG own) (w : WW D cy A μ s H locs) (hM : RepM cy m0 ad G μ) (k : Nat) (hk : k < 44) (hs : mSc k = false) (ht : mTy k = 1) (r : Nat) (hr : r < mLen k) (hn : mLen k < 2 ^ 31) {x : Int32} (hx : x = 0 ∨ x = 1) (hdg : decode cc pc = .ok (.bastore, 1))
    (kk : ∀ (H1 : Heap) (locs1 : List Loc) (μ1 : MU), WW D cy A μ1 s H1 locs1 → RepM cy m0 ad (up2 G k r x) μ1 → W p l e R s m args below meth c H1 locs1 cells slots Q (F0 m (pc + 1) ls rest)) : W p l e R s m args below meth c H locs cells slots Q (F0 m pc ls (.int x :: .int (nI r) :: .ref (ad k) :: rest)) := by
  have he := hM.2.1 k hk hs
  have hR := hM.ar (i := r) x hk hs
  rw [ht] at he hR
  refine q_zast F w he (vp_in_nI hr hn) hx hdg (fun H1 locs1 w1 => ?_)
  rw [nI_clamp (Nat.lt_trans hr hn)] at w1
  exact kk H1 locs1 _ w1 hR
theorem q_reti (F : CallFix p m c cc nL s args BIG own) (hr : meth.sig.returnType = some .int) (hlk : meth.locks = false) {v v' : Int32} (h : v = v') (hdg : decode cc pc = .ok (.ireturn, 1)) : W p l e R s m args below meth c s.heap [] 0 0 (MQ below (QcRead v) args s 0 0 (fun _ => False)) (F0 m pc ls [.int v']) := by
  subst h
  exact W.iret F.1 F.2.1 hr (fun t ht hW => ⟨rfl, ht⟩) (fun q hq => nomatch hq) hdg hlk
abbrev nz (v : Int32) : Prop := narrow .boolean (.int v) = .int v
theorem q_retz (F : CallFix p m c cc nL s args BIG own) (hr : meth.sig.returnType = some .boolean) (hlk : meth.locks = false) {v v' : Int32} (h : v = v') (hz : nz v') (hdg : decode cc pc = .ok (.ireturn, 1)) : W p l e R s m args below meth c s.heap [] 0 0 (MQ below (QcRead v) args s 0 0 (fun _ => False)) (F0 m pc ls [.int v']) := by
  subst h
  exact W.zret F.1 F.2.1 hr hz (fun t ht hW => ⟨rfl, ht⟩) (fun q hq => nomatch hq) hdg hlk
theorem q_retI {S : Type} {post : Int32 → MU → Prop} (F : CallFix p m c cc nL s args BIG own) (hr : meth.sig.returnType = some .int) (hlk : meth.locks = false) (w : WW D cy A μ s H locs) {v : Int32} (h : post v μ) (hdg : decode cc pc = .ok (.ireturn, 1)) : W p l e R s m args below meth c H locs cells slots (MQ below (va_Qi post (fun μ1 t => Wd D cy A μ1 t) A) args s cells slots A) (F0 m pc ls [.int v]) :=
  W.iret F.1 F.2.1 hr (fun t ht hW => ⟨⟨v, μ, rfl, h, w.at ht hW⟩, w.2.2.2.1.F ht⟩) w.2.2.2.1.2.2 hdg hlk
theorem q_retZ {S : Type} {post : Int32 → MU → Prop} (F : CallFix p m c cc nL s args BIG own) (hr : meth.sig.returnType = some .boolean) (hlk : meth.locks = false) (w : WW D cy A μ s H locs) {v : Int32} (h : post v μ) (hz : nz v) (hdg : decode cc pc = .ok (.ireturn, 1)) : W p l e R s m args below meth c H locs cells slots (MQ below (va_Qi post (fun μ1 t => Wd D cy A μ1 t) A) args s cells slots A) (F0 m pc ls [.int v]) :=
  W.zret F.1 F.2.1 hr hz (fun t ht hW => ⟨⟨v, μ, rfl, h, w.at ht hW⟩, w.2.2.2.1.F ht⟩) w.2.2.2.1.2.2 hdg hlk
theorem q_retV {post : MU → Prop} (F : CallFix p m c cc nL s args BIG own) (hr : meth.sig.returnType = none) (hlk : meth.locks = false) (w : WW D cy A μ s H locs) (h : post μ) (hdg : decode cc pc = .ok (.return_, 1)) : W p l e R s m args below meth c H locs cells slots (MQ below (va_Qv post (fun μ1 t => Wd D cy A μ1 t) A) args s cells slots A) (F0 m pc ls []) :=
  W.vret F.1 F.2.1 hr (fun t ht hW => ⟨⟨μ, rfl, h, w.at ht hW⟩, w.2.2.2.1.F ht⟩) w.2.2.2.1.2.2 hdg hlk
end QM
section QMC
variable {p : Program} {l : Launch} {e : Env} {R : Room} {s : State} {m : MethodId} {args : Array Value} {below : List Frame} {meth : Method} {c : Code} {H : Heap} {locs : List Loc} {cells slots : Nat} {Q : State → Prop}
variable {cc : ByteArray} {nL pc : Nat} {ls : Array Slot} {rest st0 : List Value} {D : va_G} {cy : Nat → ClassId} {A : Nat → Prop} {a : Nat} {μ : MU} {own : String}
/-- calls that may change the world -/
theorem q_mVv (F : CallFix p m c cc nL s args BIG own) (w : WW D cy A μ s H locs) {y : MethodName} {b : ByteArray} {n k idx mc ms : Nat} {r : Option FieldType} {rm : Room} {o ci : Nat} {fs As : List Value} {q : vw_C} {post : MU → Prop} (hg : GoodIn BIG (wsV own idx q.1 y (WS y b n r))) (hd : y.cls = q.1 ∧ y.cls ≠ "java/lang/invoke/MethodHandle" ∧ y.cls ≠ "java/lang/invoke/VarHandle" ∧ (parseMethodDescriptor y.desc).map (fun d => d.parameters.length) = some k) (hc : vwCl[ci]? = some q)
    (hM : Met l y (WS y b n r) rm (va_Pc (.ref o :: As) (Wd D cy A μ)) (va_Qv post (fun μ1 t => Wd D cy A μ1 t) A) mc ms A) (ho : μ o = some (.inr (ci, fs))) (hdg : decode cc pc = .ok (.invokevirtual idx, 3)) (hn : As.length = k) (hst : st0 = As.reverse ++ .ref o :: rest) (hsz : ls.size = nL) (hR : rm.cells = mc ∧ rm.slots = ms ∧ rm.frames + 1 ≤ R.frames ∧ 8 + (n + 11) + rm.locals ≤ R.locals) (hroom : (rest.map fun v => v.category).sum ≤ 8)
    (hf : cells + mc ≤ R.cells ∧ slots + ms ≤ R.slots) (kk : ∀ (μ1 : MU) (H1 : Heap) (locs1 : List Loc), post μ1 → WW D cy A μ1 s H1 locs1 → W p l e R s m args below meth c H1 locs1 (cells + mc) (slots + ms) Q (F0 m (pc + 3) ls rest)) : W p l e R s m args below meth c H locs cells slots Q (F0 m pc ls st0) :=
  va_callv (va_runV (As := As) (rest := rest) F hM (cwV k F.2.2.2.2 hg rfl hR.1 hR.2.1 hd ⟨hR.2.2.1, hR.2.2.2⟩) ⟨Wd.blind, w.recv ho hc, fun U hU hW => ⟨rfl, w.at hU hW⟩⟩ rfl hn hsz hst (lv_room hroom) hdg hf) w.2.2.2.1 (fun q _ h => h) (fun q h => h) (fun u t H1 locs1 ht hvm hp hB hz hk hS => kk u H1 locs1 hp (w.next hB ht hS))
theorem q_mVi (F : CallFix p m c cc nL s args BIG own) (w : WW D cy A μ s H locs) {y : MethodName} {b : ByteArray} {n k idx mc ms : Nat} {r : Option FieldType} {rm : Room} {o ci : Nat} {fs As : List Value} {q : vw_C} {post : Int32 → MU → Prop} (hg : GoodIn BIG (wsV own idx q.1 y (WS y b n r))) (hd : y.cls = q.1 ∧ y.cls ≠ "java/lang/invoke/MethodHandle" ∧ y.cls ≠ "java/lang/invoke/VarHandle" ∧ (parseMethodDescriptor y.desc).map (fun d => d.parameters.length) = some k) (hc : vwCl[ci]? = some q)
    (hM : Met l y (WS y b n r) rm (va_Pc (.ref o :: As) (Wd D cy A μ)) (va_Qi post (fun μ1 t => Wd D cy A μ1 t) A) mc ms A) (ho : μ o = some (.inr (ci, fs))) (hdg : decode cc pc = .ok (.invokevirtual idx, 3)) (hn : As.length = k) (hst : st0 = As.reverse ++ .ref o :: rest) (hsz : ls.size = nL) (hR : rm.cells = mc ∧ rm.slots = ms ∧ rm.frames + 1 ≤ R.frames ∧ 8 + (n + 11) + rm.locals ≤ R.locals) (hroom : (rest.map fun v => v.category).sum ≤ 8)
    (hf : cells + mc ≤ R.cells ∧ slots + ms ≤ R.slots) (kk : ∀ (v : Int32) (μ1 : MU) (H1 : Heap) (locs1 : List Loc), post v μ1 → WW D cy A μ1 s H1 locs1 → W p l e R s m args below meth c H1 locs1 (cells + mc) (slots + ms) Q (F0 m (pc + 3) ls (.int v :: rest))) : W p l e R s m args below meth c H locs cells slots Q (F0 m pc ls st0) :=
  va_calli (va_runV (As := As) (rest := rest) F hM (cwV k F.2.2.2.2 hg rfl hR.1 hR.2.1 hd ⟨hR.2.2.1, hR.2.2.2⟩) ⟨Wd.blind, w.recv ho hc, fun U hU hW => ⟨rfl, w.at hU hW⟩⟩ rfl hn hsz hst (lv_room hroom) hdg hf) w.2.2.2.1 (fun q _ h => h) (fun q h => h) (fun v u t H1 locs1 ht hvm hp hB hz hk hS => kk v u H1 locs1 hp (w.next hB ht hS))
theorem q_loopW (P : Nat → MU → Heap → List Loc → Array Slot → Prop) (n : Nat) (hs : ∀ (k : Nat) (μ : MU) (H : Heap) (locs : List Loc) (ls : Array Slot), k ≤ n → P k μ H locs ls → (∀ (μ1 : MU) (H1 : Heap) (locs1 : List Loc) (ls1 : Array Slot), k < n → P (k + 1) μ1 H1 locs1 ls1 → W p l e R s m args below meth c H1 locs1 cells slots Q (F0 m pc ls1 [])) → W p l e R s m args below meth c H locs cells slots Q (F0 m pc ls [])) : ∀ (k : Nat) (μ : MU) (H : Heap) (locs : List Loc) (ls : Array Slot), k ≤ n → P k μ H locs ls → W p l e R s m args below meth c H locs cells slots Q (F0 m pc ls []) := by
  have h : ∀ (d k : Nat) (μ : MU) (H : Heap) (locs : List Loc) (ls : Array Slot), k + d = n → P k μ H locs ls → W p l e R s m args below meth c H locs cells slots Q (F0 m pc ls []) := by
    intro d
    induction d with
    | zero => exact fun k μ H locs ls hk hp => hs k μ H locs ls (by omega) hp (fun μ1 H1 locs1 ls1 h _ => absurd h (by omega))
    | succ d ih => exact fun k μ H locs ls hk hp => hs k μ H locs ls (by omega) hp (fun μ1 H1 locs1 ls1 _ h => ih (k + 1) μ1 H1 locs1 ls1 (by omega) h)
  exact fun k μ H locs ls hk hp => h (n - k) k μ H locs ls (by omega) hp
end QMC
theorem nz0 : nz 0 := rfl
theorem nz1 : nz 1 := rfl
theorem nz_ite {c : Prop} [Decidable c] {a b : Int32} (ha : nz a) (hb : nz b) : nz (if c then a else b) := by split <;> assumption
theorem nz_or {v : Int32} (h : nz v) : v = 0 ∨ v = 1 := by
  have h1 : (v &&& 1) = v := by
    have h2 : narrow .boolean (.int v) = .int v := h
    simp only [narrow] at h2
    injection h2
  have h3 := pk_and v (m := 1) 1 (by decide)
  rw [h1] at h3
  have h4 : v.toBitVec.toNat % 2 ^ 1 < 2 := Nat.mod_lt _ (by decide)
  rcases (show v.toBitVec.toNat % 2 ^ 1 = 0 ∨ v.toBitVec.toNat % 2 ^ 1 = 1 by omega) with q | q
  · left; rw [h3, q]; rfl
  · right; rw [h3, q]; rfl
theorem jn_a {K : JFrame → Prop} {m : MethodId} {pc : Nat} {ls : Array Slot} {rest : List Value} {x v : Int32} (h : x = v) (J : K (F0 m pc ls (.int x :: rest))) : K (F0 m pc ls (.int v :: rest)) := h ▸ J
/-- two ways meet at pcj with x on the stack -/
theorem jn0 {K : JFrame → Prop} {g : JFrame} {m : MethodId} {ls : Array Slot} {rest : List Value} (x : Int32) (pcj : Nat) (h2 : K (F0 m pcj ls (.int x :: rest)) → K g) (h1 : K (F0 m pcj ls (.int x :: rest))) : K g := h2 h1
/-- two ways meet at pcj with locals lv -/
theorem jnl {K : JFrame → Prop} {g : JFrame} {m : MethodId} (nL : Nat) (lv : List (Nat × Value)) (st : List Value) (pcj : Nat) (h2 : (∀ ls : Array Slot, lv_has ls nL lv → K (F0 m pcj ls st)) → K g) (h1 : ∀ ls : Array Slot, lv_has ls nL lv → K (F0 m pcj ls st)) : K g := h2 h1
theorem lv_cg {ls : Array Slot} {nL : Nat} {l l' : List (Nat × Value)} (h : lv_has ls nL l) (e : l = l') : lv_has ls nL l' := e ▸ h
theorem GB_ile {n k : Nat} {x : Int32} (hx : x = nI n) (hn : n < 2 ^ 31) (hk : k ≤ n) (h : x ≤ nI k) : k = n := by
  rw [hx] at h
  have := (nI_leI hn (Nat.lt_of_le_of_lt hk hn)).mp h
  omega
theorem GB_ilt {n k : Nat} {x : Int32} (hx : x = nI n) (hn : n < 2 ^ 31) (hk : k ≤ n) (h : ¬ x ≤ nI k) : k < n := by
  rw [hx] at h
  rcases Nat.lt_or_ge k n with q | q
  · exact q
  · exact absurd ((nI_leI hn (Nat.lt_of_le_of_lt hk hn)).mpr q) h
theorem mp_128 {p : Program} {l : Launch} {e : Env} {R : Room} {s : State} {m : MethodId} {args : Array Value} {below : List Frame} {meth : Method} {c : Code} {H : Heap} {locs : List Loc} {cells slots : Nat} {Q : State → Prop} {cc : ByteArray} {nL pc : Nat} {ls : Array Slot} {rest : List Value} {D : va_G} {cy : Nat → ClassId} {A : Nat → Prop} {μ : MU} {m0 : Nat} {ad : Nat → Nat} {G : GS} (F : CallFix p m c cc nL s args BIG RX7) (w : WW D cy A μ s H locs) (hM : RepM cy m0 ad G μ) {v : Int32} (hdg : decode cc pc = .ok (.putfield 128, 3)) (kk : ∀ (H1 : Heap) (locs1 : List Loc) (μ1 : MU), WW D cy A μ1 s H1 locs1 → RepM cy m0 ad (up2 G 0 0 v) μ1 → W p l e R s m args below meth c H1 locs1 cells slots Q (F0 m (pc + 3) ls rest)) : W p l e R s m args below meth c H locs cells slots Q (F0 m pc ls (.int v :: .ref m0 :: rest)) := pf_X7_128 F w rfl hM.1 rfl rfl hdg (fun H1 locs1 w1 => kk H1 locs1 _ w1 (hM.sc (k := 0) rfl rfl))
theorem mp_142 {p : Program} {l : Launch} {e : Env} {R : Room} {s : State} {m : MethodId} {args : Array Value} {below : List Frame} {meth : Method} {c : Code} {H : Heap} {locs : List Loc} {cells slots : Nat} {Q : State → Prop} {cc : ByteArray} {nL pc : Nat} {ls : Array Slot} {rest : List Value} {D : va_G} {cy : Nat → ClassId} {A : Nat → Prop} {μ : MU} {m0 : Nat} {ad : Nat → Nat} {G : GS} (F : CallFix p m c cc nL s args BIG RX7) (w : WW D cy A μ s H locs) (hM : RepM cy m0 ad G μ) {v : Int32} (hdg : decode cc pc = .ok (.putfield 142, 3)) (kk : ∀ (H1 : Heap) (locs1 : List Loc) (μ1 : MU), WW D cy A μ1 s H1 locs1 → RepM cy m0 ad (up2 G 1 0 v) μ1 → W p l e R s m args below meth c H1 locs1 cells slots Q (F0 m (pc + 3) ls rest)) : W p l e R s m args below meth c H locs cells slots Q (F0 m pc ls (.int v :: .ref m0 :: rest)) := pf_X7_142 F w rfl hM.1 rfl rfl hdg (fun H1 locs1 w1 => kk H1 locs1 _ w1 (hM.sc (k := 1) rfl rfl))
theorem mp_132 {p : Program} {l : Launch} {e : Env} {R : Room} {s : State} {m : MethodId} {args : Array Value} {below : List Frame} {meth : Method} {c : Code} {H : Heap} {locs : List Loc} {cells slots : Nat} {Q : State → Prop} {cc : ByteArray} {nL pc : Nat} {ls : Array Slot} {rest : List Value} {D : va_G} {cy : Nat → ClassId} {A : Nat → Prop} {μ : MU} {m0 : Nat} {ad : Nat → Nat} {G : GS} (F : CallFix p m c cc nL s args BIG RX7) (w : WW D cy A μ s H locs) (hM : RepM cy m0 ad G μ) {v : Int32} (hdg : decode cc pc = .ok (.putfield 132, 3)) (kk : ∀ (H1 : Heap) (locs1 : List Loc) (μ1 : MU), WW D cy A μ1 s H1 locs1 → RepM cy m0 ad (up2 G 3 0 v) μ1 → W p l e R s m args below meth c H1 locs1 cells slots Q (F0 m (pc + 3) ls rest)) : W p l e R s m args below meth c H locs cells slots Q (F0 m pc ls (.int v :: .ref m0 :: rest)) := pf_X7_132 F w rfl hM.1 rfl rfl hdg (fun H1 locs1 w1 => kk H1 locs1 _ w1 (hM.sc (k := 3) rfl rfl))
theorem mp_156 {p : Program} {l : Launch} {e : Env} {R : Room} {s : State} {m : MethodId} {args : Array Value} {below : List Frame} {meth : Method} {c : Code} {H : Heap} {locs : List Loc} {cells slots : Nat} {Q : State → Prop} {cc : ByteArray} {nL pc : Nat} {ls : Array Slot} {rest : List Value} {D : va_G} {cy : Nat → ClassId} {A : Nat → Prop} {μ : MU} {m0 : Nat} {ad : Nat → Nat} {G : GS} (F : CallFix p m c cc nL s args BIG RX7) (w : WW D cy A μ s H locs) (hM : RepM cy m0 ad G μ) {v : Int32} (hdg : decode cc pc = .ok (.putfield 156, 3)) (kk : ∀ (H1 : Heap) (locs1 : List Loc) (μ1 : MU), WW D cy A μ1 s H1 locs1 → RepM cy m0 ad (up2 G 23 0 v) μ1 → W p l e R s m args below meth c H1 locs1 cells slots Q (F0 m (pc + 3) ls rest)) : W p l e R s m args below meth c H locs cells slots Q (F0 m pc ls (.int v :: .ref m0 :: rest)) := pf_X7_156 F w rfl hM.1 rfl rfl hdg (fun H1 locs1 w1 => kk H1 locs1 _ w1 (hM.sc (k := 23) rfl rfl))
theorem mp_139 {p : Program} {l : Launch} {e : Env} {R : Room} {s : State} {m : MethodId} {args : Array Value} {below : List Frame} {meth : Method} {c : Code} {H : Heap} {locs : List Loc} {cells slots : Nat} {Q : State → Prop} {cc : ByteArray} {nL pc : Nat} {ls : Array Slot} {rest : List Value} {D : va_G} {cy : Nat → ClassId} {A : Nat → Prop} {μ : MU} {m0 : Nat} {ad : Nat → Nat} {G : GS} (F : CallFix p m c cc nL s args BIG RX7) (w : WW D cy A μ s H locs) (hM : RepM cy m0 ad G μ) {v : Int32} (hdg : decode cc pc = .ok (.putfield 139, 3)) (kk : ∀ (H1 : Heap) (locs1 : List Loc) (μ1 : MU), WW D cy A μ1 s H1 locs1 → RepM cy m0 ad (up2 G 29 0 v) μ1 → W p l e R s m args below meth c H1 locs1 cells slots Q (F0 m (pc + 3) ls rest)) : W p l e R s m args below meth c H locs cells slots Q (F0 m pc ls (.int v :: .ref m0 :: rest)) := pf_X7_139 F w rfl hM.1 rfl rfl hdg (fun H1 locs1 w1 => kk H1 locs1 _ w1 (hM.sc (k := 29) rfl rfl))
