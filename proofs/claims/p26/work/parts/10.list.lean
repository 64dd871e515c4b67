theorem wGc1 : Cond.methodLink RJ7 86 ⟨"java/lang/Object", "getClass", "()Ljava/lang/Class;"⟩ ∈ BIG := BIG_t 346 (by decide +kernel) (by decide +kernel)
theorem wGc2 : Cond.selects "[Ljava/lang/Object;" ⟨"java/lang/Object", "getClass", "()Ljava/lang/Class;"⟩ ⟨"java/lang/Object", "getClass", "()Ljava/lang/Class;"⟩ ∈ BIG := BIG_t 926 (by decide +kernel) (by decide +kernel)
theorem wGc3 : Cond.instanceMethod ⟨"java/lang/Object", "getClass", "()Ljava/lang/Class;"⟩ ∈ BIG := BIG_t 347 (by decide +kernel) (by decide +kernel)
theorem wGc4 : Cond.native ⟨"java/lang/Object", "getClass", "()Ljava/lang/Class;"⟩ ∈ BIG := BIG_t 360 (by decide +kernel) (by decide +kernel)
theorem wAc1 : Cond.methodLink RJ7 150 arraycopyName ∈ BIG := BIG_t 370 (by decide +kernel) (by decide +kernel)
theorem wAc2 : Cond.native arraycopyName ∈ BIG := BIG_t 372 (by decide +kernel) (by decide +kernel)
theorem wAc3 : Cond.static arraycopyName ∈ BIG := BIG_t 371 (by decide +kernel) (by decide +kernel)
theorem wAc4 : Cond.initialized "java/lang/System" ∈ BIG := BIG_t 16 (by decide +kernel) (by decide +kernel)
theorem wMt_max1 : Cond.static Lib.Math.max.name ∈ BIG := BIG_t 337 (by decide +kernel) (by decide +kernel)
theorem wMt_max2 : Cond.code Lib.Math.max.name Lib.Math.max.code 2 (some .int) ∈ BIG := BIG_t 338 (by decide +kernel) (by decide +kernel)
theorem wMt_min1 : Cond.static Lib.Math.min.name ∈ BIG := BIG_t 368 (by decide +kernel) (by decide +kernel)
theorem wMt_min2 : Cond.code Lib.Math.min.name Lib.Math.min.code 2 (some .int) ∈ BIG := BIG_t 369 (by decide +kernel) (by decide +kernel)
theorem wMt_abs1 : Cond.static Lib.Math.abs.name ∈ BIG := BIG_t 514 (by decide +kernel) (by decide +kernel)
theorem wMt_abs2 : Cond.code Lib.Math.abs.name Lib.Math.abs.code 1 (some .int) ∈ BIG := BIG_t 515 (by decide +kernel) (by decide +kernel)
theorem wMt_i : Cond.initialized "java/lang/Math" ∈ BIG := BIG_t 14 (by decide +kernel) (by decide +kernel)
def capN : Nat → Nat
  | 0 => 0
  | n + 1 => if n = capN n then (if n = 0 then 10 else n + n / 2) else capN n
theorem capN_ge : ∀ n, n ≤ capN n ∧ (1 ≤ n → 10 ≤ capN n) ∧ capN n ≤ n + n / 2 + 10
  | 0 => ⟨Nat.le_refl 0, fun h => by omega, by decide⟩
  | n + 1 => by
    obtain ⟨h1, h2, h3⟩ := capN_ge n
    rw [capN]
    by_cases h : n = capN n
    · rw [if_pos h]
      by_cases h0 : n = 0
      · rw [if_pos h0]; omega
      · rw [if_neg h0]
        have := h2 (by omega)
        omega
    · rw [if_neg h]
      have h6 : 1 ≤ n := by
        rcases Nat.eq_zero_or_pos n with e | e
        · exact absurd (by rw [e]; rfl) h
        · exact e
      have := h2 h6
      omega
def lf (n : Nat) (el : Nat → Nat) : Nat → Option Nat := fun i => if i < n then some (el i) else none
def lobj (cy : Nat → ClassId) (x : Int32) (ed n : Nat) : va_E := .inr (0, [.int x, .ref (if n = 0 then cy 9 else ed), .int (nI n)])
def larr (cy : Nat → ClassId) (n : Nat) (el : Nat → Nat) : va_E := .inl (cy 3, capN n, .inr (.inr (.inr (.inr (lf n el)))))
/-- a list of n elements el, at la, its row (if there is one) at ed -/
def LsP (cy : Nat → ClassId) (la ed n : Nat) (el : Nat → Nat) (μ : MU) : Prop := μ la = some (lobj cy (nI n) ed n) ∧ (n ≠ 0 → μ ed = some (larr cy n el))
theorem lf_at {n i : Nat} {el : Nat → Nat} (h : i < n) : lf n el i = some (el i) := if_pos h
theorem lf_add {n : Nat} {el : Nat → Nat} {v : Nat} : va_up (lf n el) n (some v) = lf (n + 1) (va_up el n v) := by
  funext i
  by_cases h : i = n
  · subst h
    rw [va_up_self, lf_at (Nat.lt_succ_self i), va_up_self]
  · rw [va_up_ne _ _ h]
    by_cases h2 : i < n
    · rw [lf_at h2, lf_at (by omega), va_up_ne _ _ h]
    · unfold lf; rw [if_neg h2, if_neg (by omega)]
theorem lf_cpy {n : Nat} {f : Nat → Option Nat} : va_cpy f (fun _ => none) 0 0 n = fun i => if i < n then f i else none := by
  funext i
  unfold va_cpy
  by_cases h : i < n
  · rw [if_pos ⟨Nat.zero_le _, by omega⟩, if_pos h, Nat.sub_zero, Nat.zero_add]
  · rw [if_neg (by omega), if_neg h]
section QL
variable {p : Program} {l : Launch} {e : Env} {R : Room} {s : State} {m : MethodId} {args : Array Value} {below : List Frame} {meth : Method} {c : Code} {H : Heap} {locs : List Loc} {cells slots : Nat} {Q : State → Prop}
variable {cc : ByteArray} {nL pc : Nat} {ls : Array Slot} {rest st0 : List Value} {D : va_G} {cy : Nat → ClassId} {A : Nat → Prop} {a : Nat} {μ : MU} {own : String}
variable {y : MethodName} {b : ByteArray} {n k idx mc ms : Nat} {r : Option FieldType} {rm : Room} {As : List Value} {q : vw_C} {o ci : Nat} {fs : List Value}
theorem q_sVq (F : CallFix p m c cc nL s args BIG own) (w : WW D cy A μ s H locs) {v : Nat} (hg : GoodIn BIG (wsV own idx q.1 y (WS y b n r))) (hd : y.cls = q.1 ∧ y.cls ≠ "java/lang/invoke/MethodHandle" ∧ y.cls ≠ "java/lang/invoke/VarHandle" ∧ (parseMethodDescriptor y.desc).map (fun d => d.parameters.length) = some k) (hc : vwCl[ci]? = some q)
    (hM : Met l y (WS y b n r) rm (va_Pc (.ref o :: As) (Wd D cy A μ)) (va_Sq (fun z => z = some v)) 0 0 (fun _ => False)) (ho : μ o = some (.inr (ci, fs))) (hdg : decode cc pc = .ok (.invokevirtual idx, 3)) (hn : As.length = k) (hst : st0 = As.reverse ++ .ref o :: rest) (hsz : ls.size = nL) (hR : rm.cells = 0 ∧ rm.slots = 0 ∧ rm.frames + 1 ≤ R.frames ∧ 8 + (n + 11) + rm.locals ≤ R.locals) (hroom : (rest.map fun v => v.category).sum ≤ 8)
    (hf : cells ≤ R.cells ∧ slots ≤ R.slots) (kk : W p l e R s m args below meth c H locs cells slots Q (F0 m (pc + 3) ls (.ref v :: rest))) : W p l e R s m args below meth c H locs cells slots Q (F0 m pc ls st0) :=
  va_csq (W.runV (As := As) (rest := rest) F hM (cwV k F.2.2.2.2 hg rfl hR.1 hR.2.1 hd ⟨hR.2.2.1, hR.2.2.2⟩) ⟨Wd.blind, w.recv ho hc, fun U hU hW => ⟨rfl, w.at hU hW⟩⟩ rfl hn hsz hst (lv_room hroom) hdg ⟨hf.1, hf.2⟩) (fun z hz => by subst hz; exact kk)
theorem q_mVr (F : CallFix p m c cc nL s args BIG own) (w : WW D cy A μ s H locs) {P : Nat → MU → Prop} (hg : GoodIn BIG (wsV own idx q.1 y (WS y b n r))) (hd : y.cls = q.1 ∧ y.cls ≠ "java/lang/invoke/MethodHandle" ∧ y.cls ≠ "java/lang/invoke/VarHandle" ∧ (parseMethodDescriptor y.desc).map (fun d => d.parameters.length) = some k) (hc : vwCl[ci]? = some q)
    (hM : Met l y (WS y b n r) rm (va_Pc (.ref o :: As) (Wd D cy A μ)) (va_Qr (fun _ : MU => True) (fun μ1 a1 t => Wd D cy A μ1 t ∧ P a1 μ1) A) mc ms A) (ho : μ o = some (.inr (ci, fs))) (hdg : decode cc pc = .ok (.invokevirtual idx, 3)) (hn : As.length = k) (hst : st0 = As.reverse ++ .ref o :: rest) (hsz : ls.size = nL) (hR : rm.cells = mc ∧ rm.slots = ms ∧ rm.frames + 1 ≤ R.frames ∧ 8 + (n + 11) + rm.locals ≤ R.locals) (hroom : (rest.map fun v => v.category).sum ≤ 8)
    (hf : cells + mc ≤ R.cells ∧ slots + ms ≤ R.slots) (kk : ∀ (ra : Nat) (μ1 : MU) (H1 : Heap) (locs1 : List Loc), P ra μ1 → WW D cy A μ1 s H1 locs1 → W p l e R s m args below meth c H1 locs1 (cells + mc) (slots + ms) Q (F0 m (pc + 3) ls (.ref ra :: rest))) : W p l e R s m args below meth c H locs cells slots Q (F0 m pc ls st0) :=
  va_callr (va_runV (As := As) (rest := rest) F hM (cwV k F.2.2.2.2 hg rfl hR.1 hR.2.1 hd ⟨hR.2.2.1, hR.2.2.2⟩) ⟨Wd.blind, w.recv ho hc, fun U hU hW => ⟨rfl, w.at hU hW⟩⟩ rfl hn hsz hst (lv_room hroom) hdg hf) w.2.2.2.1 (fun q _ h => h) (fun q h => h) (fun u ra t H1 locs1 ht hvm hp hB hz hk hS => kk ra u H1 locs1 hB.2 (w.next hB.1 ht hS))
theorem q_mSr (F : CallFix p m c cc nL s args BIG own) (w : WW D cy A μ s H locs) {P : Nat → MU → Prop} (hg : GoodIn BIG (va_wsS own idx y (WS y b n r))) (hd : y.cls ≠ "java/lang/invoke/MethodHandle" ∧ y.cls ≠ "java/lang/invoke/VarHandle" ∧ (parseMethodDescriptor y.desc).map (fun d => d.parameters.length) = some k)
    (hM : Met l y (WS y b n r) rm (va_Pc As (Wd D cy A μ)) (va_Qr (fun _ : MU => True) (fun μ1 a1 t => Wd D cy A μ1 t ∧ P a1 μ1) A) mc ms A) (hdg : decode cc pc = .ok (.invokestatic idx, 3)) (hn : As.length = k) (hst : st0 = As.reverse ++ rest) (hsz : ls.size = nL) (hR : rm.cells = mc ∧ rm.slots = ms ∧ rm.frames + 1 ≤ R.frames ∧ 8 + (n + 11) + rm.locals ≤ R.locals) (hroom : (rest.map fun v => v.category).sum ≤ 8)
    (hf : cells + mc ≤ R.cells ∧ slots + ms ≤ R.slots) (kk : ∀ (ra : Nat) (μ1 : MU) (H1 : Heap) (locs1 : List Loc), P ra μ1 → WW D cy A μ1 s H1 locs1 → W p l e R s m args below meth c H1 locs1 (cells + mc) (slots + ms) Q (F0 m (pc + 3) ls (.ref ra :: rest))) : W p l e R s m args below meth c H locs cells slots Q (F0 m pc ls st0) :=
  va_callr (va_runS (As := As) (rest := rest) F hM (va_cwS k F.2.2.2.2 hg rfl hR.1 hR.2.1 hd ⟨hR.2.2.1, hR.2.2.2⟩) ⟨Wd.blind, fun U hU hW => ⟨rfl, w.at hU hW⟩⟩ rfl hn hsz hst (lv_room hroom) hdg hf) w.2.2.2.1 (fun q _ h => h) (fun q h => h) (fun u ra t H1 locs1 ht hvm hp hB hz hk hS => kk ra u H1 locs1 hB.2 (w.next hB.1 ht hS))
theorem q_mI (F : CallFix p m c cc nL s args BIG own) (w : WW D cy A μ s H locs) {post : MU → Prop} (hg : GoodIn BIG (WS y b n none)) (hl : Cond.methodLink own idx y ∈ BIG) (hi : Cond.instanceMethod y ∈ BIG) (hini : Cond.initialized y.cls ∈ BIG) (hy1 : y.name = "<init>") (hd : y.cls ≠ "java/lang/invoke/MethodHandle" ∧ y.cls ≠ "java/lang/invoke/VarHandle" ∧ (parseMethodDescriptor y.desc).map (fun d => d.parameters.length) = some k)
    (hM : Met l y (WS y b n none) rm (va_Pc (.ref o :: As) (Wd D cy A μ)) (va_Qv post (fun μ1 t => Wd D cy A μ1 t) A) mc ms A) (hdg : decode cc pc = .ok (.invokespecial idx, 3)) (hn : As.length = k) (hst : st0 = As.reverse ++ .ref o :: rest) (hsz : ls.size = nL) (hR : rm.cells = mc ∧ rm.slots = ms ∧ rm.frames + 1 ≤ R.frames ∧ 8 + (n + 11) + rm.locals ≤ R.locals) (hroom : (rest.map fun v => v.category).sum ≤ 8)
    (hf : cells + mc ≤ R.cells ∧ slots + ms ≤ R.slots) (kk : ∀ (μ1 : MU) (H1 : Heap) (locs1 : List Loc), post μ1 → WW D cy A μ1 s H1 locs1 → W p l e R s m args below meth c H1 locs1 (cells + mc) (slots + ms) Q (F0 m (pc + 3) ls rest)) : W p l e R s m args below meth c H locs cells slots Q (F0 m pc ls st0) :=
  va_callv (va_runI (As := As) (rest := rest) F hM (cwI k F.2.2.2.2 hg rfl hR.1 hR.2.1 (F.2.2.2.2 _ hini) (F.2.2.2.2 _ hl) (F.2.2.2.2 _ hi) hy1 hd ⟨hR.2.2.1, hR.2.2.2⟩) ⟨Wd.blind, fun U hU hW => ⟨rfl, w.at hU hW⟩⟩ rfl hn hsz hst (lv_room hroom) hdg hf) w.2.2.2.1 (fun q _ h => h) (fun q h => h) (fun u t H1 locs1 ht hvm hp hB hz hk hS => kk u H1 locs1 hp (w.next hB ht hS))
theorem q_retq (F : CallFix p m c cc nL s args BIG own) {rt : FieldType} (hr : meth.sig.returnType = some rt) (hrt : (∃ n, rt = .object n) ∨ ∃ t, rt = .array t) (hlk : meth.locks = false) {v : Nat} (hdg : decode cc pc = .ok (.areturn, 1)) : W p l e R s m args below meth c s.heap [] 0 0 (MQ below (va_Sq (fun z => z = some v)) args s 0 0 (fun _ => False)) (F0 m pc ls [.ref v]) :=
  W.aret F.1 F.2.1 hr hrt (Or.inr ⟨v, rfl⟩) (fun t ht hW => ⟨some v, rfl, rfl, ht⟩) (fun q hq => nomatch hq) hdg hlk
theorem q_retR (F : CallFix p m c cc nL s args BIG own) {rt : FieldType} (hr : meth.sig.returnType = some rt) (hrt : (∃ n, rt = .object n) ∨ ∃ t, rt = .array t) (hlk : meth.locks = false) (w : WW D cy A μ s H locs) {P : Nat → MU → Prop} {v : Nat} (h : P v μ) (hdg : decode cc pc = .ok (.areturn, 1)) : W p l e R s m args below meth c H locs cells slots (MQ below (va_Qr (fun _ : MU => True) (fun μ1 a1 t => Wd D cy A μ1 t ∧ P a1 μ1) A) args s cells slots A) (F0 m pc ls [.ref v]) :=
  W.aret F.1 F.2.1 hr hrt (Or.inr ⟨v, rfl⟩) (fun t ht hW => ⟨⟨μ, v, rfl, trivial, w.at ht hW, h⟩, w.2.2.2.1.F ht⟩) w.2.2.2.1.2.2 hdg hlk
theorem q_aaldS (F : CallFix p m c cc nL s args BIG own) (w : WW D cy A μ s H locs) (t0 : Nat) {cA : ClassId} {C : String} {f : Nat → Option Nat} (ht : (tysC cy)[t0]? = some (cA, .object C)) (he : μ a = some (.inl (cA, n, .inr (.inr (.inr (.inr f)))))) (j : Nat) {z : Nat} (hj : j < n) (hn : n < 2 ^ 31) (hf : f j = some z) (hdg : decode cc pc = .ok (.aaload, 1))
    (kk : W p l e R s m args below meth c H locs cells slots Q (F0 m (pc + 1) ls (.ref z :: rest))) : W p l e R s m args below meth c H locs cells slots Q (F0 m pc ls (.int (nI j) :: .ref a :: rest)) := by
  refine q_aald F w t0 ht he (vp_in_nI hj hn) hdg ?_
  rw [nI_clamp (Nat.lt_trans hj hn), hf]
  exact kk
theorem q_aastO (F : CallFix p m c cc nL s args BIG own) (w : WW D cy A μ s H locs) {v : Nat} {vs : List Value} {f : Nat → Option Nat} (he : μ a = some (.inl (cy 3, n, .inr (.inr (.inr (.inr f)))))) (hv : μ v = some (.inr (ci, vs))) (hc : vwCl[ci]? = some q) (hca : (q.1, "java/lang/Object") ∈ CAST9) (j : Nat) (hj : j < n) (hn : n < 2 ^ 31) (hdg : decode cc pc = .ok (.aastore, 1))
    (kk : ∀ (H1 : Heap) (locs1 : List Loc), WW D cy A (mset μ a (.inl (cy 3, n, .inr (.inr (.inr (.inr (va_up f j (some v)))))))) s H1 locs1 → W p l e R s m args below meth c H1 locs1 cells slots Q (F0 m (pc + 1) ls rest)) : W p l e R s m args below meth c H locs cells slots Q (F0 m pc ls (.ref v :: .int (nI j) :: .ref a :: rest)) := by
  obtain ⟨hP, hK, hA, hS, hE⟩ := w
  obtain ⟨q0, h0⟩ := hP.at he
  obtain ⟨q1, h1⟩ := hP.at hv
  refine va_astqO F.1 F.2.1 hK hP.lP hP.lD hS q0 3 q1 ci h0 rfl (hE.2.2.2.1 _ hca) h1 hc (vp_in_nI hj hn) hdg (fun H1 locs1 hP1 hD1 hS1 => ?_)
  rw [nI_clamp (Nat.lt_trans hj hn)] at hP1 hD1
  exact kk H1 locs1 ⟨hP.set h0 hP1 hD1, hK, hA, hS1, hE⟩
theorem q_aastS (F : CallFix p m c cc nL s args BIG own) (w : WW D cy A μ s H locs) (t0 : Nat) {cA : ClassId} {v : Nat} {vs : List Value} {f : Nat → Option Nat} (ht : (tysC cy)[t0]? = some (cA, .object q.1)) (he : μ a = some (.inl (cA, n, .inr (.inr (.inr (.inr f)))))) (hv : μ v = some (.inr (ci, vs))) (hc : vwCl[ci]? = some q) (j : Nat) (hj : j < n) (hn : n < 2 ^ 31) (hdg : decode cc pc = .ok (.aastore, 1))
    (kk : ∀ (H1 : Heap) (locs1 : List Loc), WW D cy A (mset μ a (.inl (cA, n, .inr (.inr (.inr (.inr (va_up f j (some v)))))))) s H1 locs1 → W p l e R s m args below meth c H1 locs1 cells slots Q (F0 m (pc + 1) ls rest)) : W p l e R s m args below meth c H locs cells slots Q (F0 m pc ls (.ref v :: .int (nI j) :: .ref a :: rest)) := by
  obtain ⟨hP, hK, hA, hS, hE⟩ := w
  obtain ⟨q0, h0⟩ := hP.at he
  obtain ⟨q1, h1⟩ := hP.at hv
  refine va_astq F.1 F.2.1 hK hP.lP hP.lD hS q0 t0 q1 ci h0 ht h1 hc (vp_in_nI hj hn) hdg (fun H1 locs1 hP1 hD1 hS1 => ?_)
  rw [nI_clamp (Nat.lt_trans hj hn)] at hP1 hD1
  exact kk H1 locs1 ⟨hP.set h0 hP1 hD1, hK, hA, hS1, hE⟩
/-- arraycopy of the first N places between two rows of objects -/
theorem q_copy (F : CallFix p m c cc nL s args BIG RJ7) (w : WW D cy A μ s H locs) {a0 n0 n1 N : Nat} {f g : Nat → Option Nat} (he0 : μ a0 = some (.inl (cy 3, n0, .inr (.inr (.inr (.inr f)))))) (he1 : μ a = some (.inl (cy 3, n1, .inr (.inr (.inr (.inr g)))))) (hc : vwCl[ci]? = some q) (hca : (q.1, "java/lang/Object") ∈ CAST9) (hel : ∀ i, i < N → ∀ y, f i = some y → ∃ vs, μ y = some (.inr (ci, vs))) (h0 : N ≤ n0) (h1 : N ≤ n1) (hN : N < 2 ^ 31) (hsz : ls.size = nL) (hframes : 1 ≤ R.frames) (hlocals : (rest.map fun v => v.category).sum + (nativeFrameWords "java/lang/System" "arraycopy" 5 + 11) ≤ R.locals) (hdg : decode cc pc = .ok (.invokestatic 150, 3))
    (kk : ∀ (H1 : Heap) (locs1 : List Loc), WW D cy A (mset μ a (.inl (cy 3, n1, .inr (.inr (.inr (.inr (va_cpy f g 0 0 N))))))) s H1 locs1 → W p l e R s m args below meth c H1 locs1 cells slots Q (F0 m (pc + 3) ls rest)) : W p l e R s m args below meth c H locs cells slots Q (F0 m pc ls (.int (nI N) :: .int 0 :: .ref a :: .int 0 :: .ref a0 :: rest)) := by
  obtain ⟨hP, hK, hA, hS, hE⟩ := id w
  obtain ⟨q0, k0⟩ := hP.at he0
  obtain ⟨q1, k1⟩ := hP.at he1
  have z0 : (0 : Int32).toNatClampNeg = 0 := sb_cl0
  have zN : (nI N).toNatClampNeg = N := nI_clamp hN
  refine va_copyq (C := q.1) F.1 F.2.1 (F.2.2.1.trans hsz.symm) F.2.2.2.1 (F.2.2.2.2 _ wAc1) (F.2.2.2.2 _ wAc2) (F.2.2.2.2 _ wAc3) (F.2.2.2.2 _ wAc4) hK hP.lP hP.lD hS q0 q1 3 3 k0 k1 rfl rfl (by decide) (by decide) (nI_pos hN) (by rw [z0, zN]; omega) (by rw [z0, zN]; omega) (fun i hi z hz => ?_) (fun comp c0 g1 g2 => ?_) hframes hlocals hdg (fun H1 locs1 hP1 hD1 hS1 => ?_)
  · rw [zN] at hi
    rw [z0, Nat.zero_add] at hz
    obtain ⟨vs, hvs⟩ := hel i hi z hz
    exact w.recv hvs hc
  · obtain ⟨c9, t9, f1, f2, f3⟩ := Cond.castable_spec (va_Nw.use (A := args) rfl (hE.2.2.2.1 _ hca))
    cases g1.symm.trans f2
    cases g2.symm.trans f1
    exact f3
  · rw [z0, zN] at hP1 hD1
    exact kk H1 locs1 ⟨hP.set k1 hP1 hD1, hK, hA, hS1, hE⟩
theorem q_gets (F : CallFix p m c cc nL s args BIG RJx4a65c) (w : WW D cy A μ s H locs) (hdg : decode cc pc = .ok (.getstatic 39, 3)) (kk : W p l e R s m args below meth c H locs cells slots Q (F0 m (pc + 3) ls (.ref (cy 9) :: rest))) : W p l e R s m args below meth c H locs cells slots Q (F0 m pc ls rest) :=
  va_gets F.1 F.2.1 w.2.2.2.2.2.1.1 w.2.2.2.1 F.2.2.2.1 (F.2.2.2.2 _ wF_Jx4a65c_39) (fun _ h => h) hdg kk
theorem q_len0 (F : CallFix p m c cc nL s args BIG own) (w : WW D cy A μ s H locs) (hdg : decode cc pc = .ok (.arraylength, 1)) (kk : W p l e R s m args below meth c H locs cells slots Q (F0 m (pc + 1) ls (.int 0 :: rest))) : W p l e R s m args below meth c H locs cells slots Q (F0 m pc ls (.ref (cy 9) :: rest)) :=
  va_tlen F.1 F.2.1 w.2.2.2.2.2.1.2.1 w.2.2.2.1 rfl hdg kk
theorem q_getC (F : CallFix p m c cc nL s args BIG RJ7) (w : WW D cy A μ s H locs) {x : vp_A} (he : μ a = some (.inl (cy 3, x))) (hsz : ls.size = nL) (hframes : 1 ≤ R.frames) (hlocals : (rest.map fun v => v.category).sum + 14 ≤ R.locals) (hdg : decode cc pc = .ok (.invokevirtual 86, 3)) (kk : W p l e R s m args below meth c H locs cells slots Q (F0 m (pc + 3) ls (.ref (cy 8) :: rest))) : W p l e R s m args below meth c H locs cells slots Q (F0 m pc ls (.ref a :: rest)) := by
  refine va_getC (C := "[Ljava/lang/Object;") F.1 F.2.1 (F.2.2.1.trans hsz.symm) F.2.2.2.1 (F.2.2.2.2 _ wGc1) (va_Dc.use w.2.2.2.2.1.2.2.1) (F.2.2.2.2 _ wGc2) (F.2.2.2.2 _ wGc3) (F.2.2.2.2 _ wGc4) w.2.2.2.2.1.2.2.2 ?_ hframes hlocals hdg kk
  obtain ⟨_, _, _, _, _, g4⟩ := (w.2.1.2 3 _ rfl).2
  have h1 : H[a]? = some (vp_cell (cy 3) x) := (w.1 a _ he).1
  obtain ⟨n9, f9 | f9 | f9 | f9 | f9⟩ := x <;> exact ⟨_, h1, rfl, g4⟩
end QL
set_option maxHeartbeats 4000000 in
set_option maxRecDepth 100000 in
theorem c_size (l : Launch) (D : va_G) (cy : Nat → ClassId) (A : Nat → Prop) (μ : MU) {la : Nat} {x v : Int32} {y : Value} (hL : μ la = some (.inr (0, [.int x, y, .int v]))) : Met l yJx4a65c_size_8abf5 (WS yJx4a65c_size_8abf5 cJx4a65c_size_8abf5 1 (some .int)) { frames := 0, cells := 0, slots := 0, locals := 0 } (va_Pc [.ref la] (Wd D cy A μ)) (QcRead v) 0 0 (fun _ => False) := by
  refine q_met (by decide) (Nat.le_of_ble_eq_true rfl) ?_
  intro p e s m below meth c F w hr hlk hnm ls hl
  have F : CallFix p m c cJx4a65c_size_8abf5 1 s _ BIG RJx4a65c := F
  have hl : lv_has ls 1 [(0, .ref la)] := hl
  refine lv_aload_n F.1 F.2.1 dJx4a65c_size_8abf5_0 rfl (lv_at hl 0 rfl) ?_
  refine gf_Jx4a65c_48 F w hL rfl dJx4a65c_size_8abf5_1 ?_
  exact q_reti F hr hlk rfl dJx4a65c_size_8abf5_4
set_option maxHeartbeats 4000000 in
set_option maxRecDepth 100000 in
theorem c_chk3 (l : Launch) (D : va_G) (cy : Nat → ClassId) (A : Nat → Prop) (μ : MU) {i n : Nat} (hi : i < n) (hn : n < 2 ^ 31) : Met l yJ3_checkIndex_8e157 (WS yJ3_checkIndex_8e157 cJ3_checkIndex_8e157 3 (some .int)) { frames := 0, cells := 0, slots := 0, locals := 0 } (va_Pc [.int (nI i), .int (nI n), .null] (Wd D cy A μ)) (QcRead (nI i)) 0 0 (fun _ => False) := by
  refine q_met (by decide) (Nat.le_of_ble_eq_true rfl) ?_
  intro p e s m below meth c F w hr hlk hnm ls hl
  have F : CallFix p m c cJ3_checkIndex_8e157 3 s _ BIG RJ3 := F
  have hl : lv_has ls 3 [(0, .int (nI i)), (1, .int (nI n)), (2, .null)] := hl
  refine lv_iload_n F.1 F.2.1 dJ3_checkIndex_8e157_0 rfl (lv_at hl 0 rfl) ?_
  refine lv_if_lt (tgt := 9) F.1 F.2.1 dJ3_checkIndex_8e157_1 (by decide) (fun c_1 => absurd c_1 (nI_pos (Nat.lt_trans hi hn))) (fun c_1 => ?_)
  refine lv_iload_n F.1 F.2.1 dJ3_checkIndex_8e157_4 rfl (lv_at hl 0 rfl) ?_
  refine lv_iload_n F.1 F.2.1 dJ3_checkIndex_8e157_5 rfl (lv_at hl 1 rfl) ?_
  refine lv_icmp_lt (tgt := 16) F.1 F.2.1 dJ3_checkIndex_8e157_6 (by decide) (fun c_2 => ?_) (fun c_2 => absurd (nI_lt hi hn) c_2)
  refine lv_iload_n F.1 F.2.1 dJ3_checkIndex_8e157_16 rfl (lv_at hl 0 rfl) ?_
  exact q_reti F hr hlk rfl dJ3_checkIndex_8e157_17
set_option maxHeartbeats 4000000 in
set_option maxRecDepth 100000 in
theorem c_chk2 (l : Launch) (D : va_G) (cy : Nat → ClassId) (A : Nat → Prop) (μ : MU) {i n : Nat} (hi : i < n) (hn : n < 2 ^ 31) : Met l yJ15_checkIndex_7cf53 (WS yJ15_checkIndex_7cf53 cJ15_checkIndex_7cf53 2 (some .int)) { frames := 1, cells := 0, slots := 0, locals := 22 } (va_Pc [.int (nI i), .int (nI n)] (Wd D cy A μ)) (QcRead (nI i)) 0 0 (fun _ => False) := by
  refine q_met (by decide) (Nat.le_of_ble_eq_true rfl) ?_
  intro p e s m below meth c F w hr hlk hnm ls hl
  have F : CallFix p m c cJ15_checkIndex_7cf53 2 s _ BIG RJ15 := F
  have hl : lv_has ls 2 [(0, .int (nI i)), (1, .int (nI n))] := hl
  refine lv_iload_n F.1 F.2.1 dJ15_checkIndex_7cf53_0 rfl (lv_at hl 0 rfl) ?_
  refine lv_iload_n F.1 F.2.1 dJ15_checkIndex_7cf53_1 rfl (lv_at hl 1 rfl) ?_
  refine lv_null F.1 F.2.1 dJ15_checkIndex_7cf53_2 ?_
  refine q_rS (rest := []) F w kS_J15_105 hd_J3_checkIndex_8e157 (c_chk3 l D cy A _ hi hn) dJ15_checkIndex_7cf53_3 rfl rfl hl.1 ⟨rfl, rfl, Nat.le_of_ble_eq_true rfl, Nat.le_of_ble_eq_true rfl⟩ (Nat.le_of_ble_eq_true rfl) ⟨Nat.zero_le _, Nat.zero_le _⟩ ?_
  exact q_reti F hr hlk rfl dJ15_checkIndex_7cf53_6
set_option maxHeartbeats 4000000 in
set_option maxRecDepth 100000 in
theorem c_elem (l : Launch) (D : va_G) (cy : Nat → ClassId) (A : Nat → Prop) (μ : MU) {la ed n i : Nat} {el : Nat → Nat} (hL : LsP cy la ed n el μ) (hi : i < n) (hn : n ≤ 600) : Met l yJx4a65c_elementData_915e3 (WS yJx4a65c_elementData_915e3 cJx4a65c_elementData_915e3 2 (some (.object "java/lang/Object"))) { frames := 0, cells := 0, slots := 0, locals := 0 } (va_Pc [.ref la, .int (nI i)] (Wd D cy A μ)) (va_Sq (fun z => z = some (el i))) 0 0 (fun _ => False) := by
  refine q_met (by decide) (Nat.le_of_ble_eq_true rfl) ?_
  intro p e s m below meth c F w hr hlk hnm ls hl
  have F : CallFix p m c cJx4a65c_elementData_915e3 2 s _ BIG RJx4a65c := F
  have hl : lv_has ls 2 [(0, .ref la), (1, .int (nI i))] := hl
  have hn0 : n ≠ 0 := by omega
  have hcap := (capN_ge n).2.2
  have hge := (capN_ge n).1
  have hed := hL.2 hn0
  have hla : μ la = some (.inr (0, [.int (nI n), .ref ed, .int (nI n)])) := by rw [hL.1, lobj, if_neg hn0]
  refine lv_aload_n F.1 F.2.1 dJx4a65c_elementData_915e3_0 rfl (lv_at hl 0 rfl) ?_
  refine gf_Jx4a65c_9 F w hla rfl dJx4a65c_elementData_915e3_1 ?_
  refine lv_iload_n F.1 F.2.1 dJx4a65c_elementData_915e3_4 rfl (lv_at hl 1 rfl) ?_
  refine q_aaldS F w 3 rfl hed i (by omega) (by omega) (lf_at hi) dJx4a65c_elementData_915e3_5 ?_
  exact q_retq F hr (Or.inl ⟨_, rfl⟩) hlk dJx4a65c_elementData_915e3_6
set_option maxHeartbeats 4000000 in
set_option maxRecDepth 100000 in
theorem c_get (l : Launch) (D : va_G) (cy : Nat → ClassId) (A : Nat → Prop) (μ : MU) {la ed n i : Nat} {el : Nat → Nat} (hL : LsP cy la ed n el μ) (hi : i < n) (hn : n ≤ 600) : Met l yJx4a65c_get_915e3 (WS yJx4a65c_get_915e3 cJx4a65c_get_915e3 2 (some (.object "java/lang/Object"))) { frames := 2, cells := 0, slots := 0, locals := 43 } (va_Pc [.ref la, .int (nI i)] (Wd D cy A μ)) (va_Sq (fun z => z = some (el i))) 0 0 (fun _ => False) := by
  refine q_met (by decide) (Nat.le_of_ble_eq_true rfl) ?_
  intro p e s m below meth c F w hr hlk hnm ls hl
  have F : CallFix p m c cJx4a65c_get_915e3 2 s _ BIG RJx4a65c := F
  have hl : lv_has ls 2 [(0, .ref la), (1, .int (nI i))] := hl
  refine lv_iload_n F.1 F.2.1 dJx4a65c_get_915e3_0 rfl (lv_at hl 1 rfl) ?_
  refine lv_aload_n F.1 F.2.1 dJx4a65c_get_915e3_1 rfl (lv_at hl 0 rfl) ?_
  refine gf_Jx4a65c_48 F w hL.1 rfl dJx4a65c_get_915e3_2 ?_
  refine q_rS (rest := []) F w kS_Jx4a65c_118 hd_J15_checkIndex_7cf53 (c_chk2 l D cy A _ hi (by omega)) dJx4a65c_get_915e3_5 rfl rfl hl.1 ⟨rfl, rfl, Nat.le_of_ble_eq_true rfl, Nat.le_of_ble_eq_true rfl⟩ (Nat.le_of_ble_eq_true rfl) ⟨Nat.zero_le _, Nat.zero_le _⟩ ?_
  refine lv_pop F.1 F.2.1 dJx4a65c_get_915e3_8 rfl ?_
  refine lv_aload_n F.1 F.2.1 dJx4a65c_get_915e3_9 rfl (lv_at hl 0 rfl) ?_
  refine lv_iload_n F.1 F.2.1 dJx4a65c_get_915e3_10 rfl (lv_at hl 1 rfl) ?_
  refine q_sVq (rest := []) F w kV_Jx4a65c_123 hd_Jx4a65c_elementData_915e3 (ci := 0) rfl (c_elem l D cy A _ hL hi hn) hL.1 dJx4a65c_get_915e3_11 rfl rfl hl.1 ⟨rfl, rfl, Nat.le_of_ble_eq_true rfl, Nat.le_of_ble_eq_true rfl⟩ (Nat.le_of_ble_eq_true rfl) ⟨Nat.zero_le _, Nat.zero_le _⟩ ?_
  exact q_retq F hr (Or.inl ⟨_, rfl⟩) hlk dJx4a65c_get_915e3_14
set_option maxHeartbeats 4000000 in
set_option maxRecDepth 100000 in
theorem c_ACinit (l : Launch) (D : va_G) (cy : Nat → ClassId) (A : Nat → Prop) (μ : MU) {la : Nat} : Met l yJxa1e45_init_da8c8 (WS yJxa1e45_init_da8c8 cJxa1e45_init_da8c8 1 none) { frames := 1, cells := 0, slots := 0, locals := 12 } (va_Pc [.ref la] (Wd D cy A μ)) (va_Qv (fun μ1 : MU => μ1 = μ) (fun μ1 t => Wd D cy A μ1 t) A) 0 0 A := by
  refine q_met (by decide) (Nat.le_of_ble_eq_true rfl) ?_
  intro p e s m below meth c F w hr hlk hnm ls hl
  have F : CallFix p m c cJxa1e45_init_da8c8 1 s _ BIG RJxa1e45 := F
  have hl : lv_has ls 1 [(0, .ref la)] := hl
  refine lv_aload_n F.1 F.2.1 dJxa1e45_init_da8c8_0 rfl (lv_at hl 0 rfl) ?_
  refine q_obj F wO_Jxa1e45_1 dJxa1e45_init_da8c8_1 hl.1 (Nat.le_of_ble_eq_true rfl) (Nat.le_of_ble_eq_true rfl) ?_
  exact q_retV F hr hlk w rfl dJxa1e45_init_da8c8_4
set_option maxHeartbeats 4000000 in
set_option maxRecDepth 100000 in
theorem c_ALinit0 (l : Launch) (D : va_G) (cy : Nat → ClassId) (A : Nat → Prop) (μ : MU) {la : Nat} {x y z : Value} (hL : μ la = some (.inr (0, [x, y, z]))) : Met l yJxc12de_init_da8c8 (WS yJxc12de_init_da8c8 cJxc12de_init_da8c8 1 none) { frames := 2, cells := 0, slots := 0, locals := 32 } (va_Pc [.ref la] (Wd D cy A μ)) (va_Qv (fun μ1 : MU => μ1 = mset μ la (.inr (0, [.int 0, y, z]))) (fun μ1 t => Wd D cy A μ1 t) A) 0 0 A := by
  refine q_met (by decide) (Nat.le_of_ble_eq_true rfl) ?_
  intro p e s m below meth c F w hr hlk hnm ls hl
  have F : CallFix p m c cJxc12de_init_da8c8 1 s _ BIG RJxc12de := F
  have hl : lv_has ls 1 [(0, .ref la)] := hl
  refine lv_aload_n F.1 F.2.1 dJxc12de_init_da8c8_0 rfl (lv_at hl 0 rfl) ?_
  refine q_mI (rest := []) F w kI_Jxc12de_1 wM_Jxc12de_1 wMi_Jxc12de_1 wI_Jxa1e45 rfl hd_Jxa1e45_init_da8c8 (c_ACinit l D cy A μ) dJxc12de_init_da8c8_1 rfl rfl hl.1 ⟨rfl, rfl, Nat.le_of_ble_eq_true rfl, Nat.le_of_ble_eq_true rfl⟩ (Nat.le_of_ble_eq_true rfl) ⟨Nat.le_refl _, Nat.le_refl _⟩ (fun μ1 H locs hp w => ?_)
  rw [hp] at w
  refine lv_aload_n F.1 F.2.1 dJxc12de_init_da8c8_4 rfl (lv_at hl 0 rfl) ?_
  refine lv_iconst (v := 0) F.1 F.2.1 dJxc12de_init_da8c8_5 (by decide) ?_
  refine pf_Jxc12de_7 (v := .int 0) F w rfl hL rfl rfl dJxc12de_init_da8c8_6 (fun H locs w => ?_)
  exact q_retV F hr hlk w rfl dJxc12de_init_da8c8_9
set_option maxHeartbeats 4000000 in
set_option maxRecDepth 100000 in
theorem c_ALinit (l : Launch) (D : va_G) (cy : Nat → ClassId) (A : Nat → Prop) (μ : MU) {la : Nat} {x y : Value} (hL : μ la = some (.inr (0, [x, y, .int 0]))) : Met l yJx4a65c_init_da8c8 (WS yJx4a65c_init_da8c8 cJx4a65c_init_da8c8 1 none) { frames := 3, cells := 0, slots := 0, locals := 52 } (va_Pc [.ref la] (Wd D cy A μ)) (va_Qv (fun μ1 : MU => μ1 la = some (lobj cy 0 0 0) ∧ ∀ b, b ≠ la → μ1 b = μ b) (fun μ1 t => Wd D cy A μ1 t) A) 0 0 A := by
  refine q_met (by decide) (Nat.le_of_ble_eq_true rfl) ?_
  intro p e s m below meth c F w hr hlk hnm ls hl
  have F : CallFix p m c cJx4a65c_init_da8c8 1 s _ BIG RJx4a65c := F
  have hl : lv_has ls 1 [(0, .ref la)] := hl
  refine lv_aload_n F.1 F.2.1 dJx4a65c_init_da8c8_0 rfl (lv_at hl 0 rfl) ?_
  refine q_mI (rest := []) F w kI_Jx4a65c_1 wM_Jx4a65c_1 wMi_Jx4a65c_1 wI_Jxc12de rfl hd_Jxc12de_init_da8c8 (c_ALinit0 l D cy A μ hL) dJx4a65c_init_da8c8_1 rfl rfl hl.1 ⟨rfl, rfl, Nat.le_of_ble_eq_true rfl, Nat.le_of_ble_eq_true rfl⟩ (Nat.le_of_ble_eq_true rfl) ⟨Nat.le_refl _, Nat.le_refl _⟩ (fun μ1 H locs hp w => ?_)
  rw [hp] at w
  refine lv_aload_n F.1 F.2.1 dJx4a65c_init_da8c8_4 rfl (lv_at hl 0 rfl) ?_
  refine q_gets F w dJx4a65c_init_da8c8_5 ?_
  refine pf_Jx4a65c_9 F w rfl (mset_eq _ _ _) rfl rfl dJx4a65c_init_da8c8_8 (fun H locs w => ?_)
  exact q_retV F hr hlk w ⟨(mset_eq _ _ _).trans rfl, fun b hb => (mset_ne hb).trans (mset_ne hb)⟩ dJx4a65c_init_da8c8_11
set_option maxHeartbeats 4000000 in
set_option maxRecDepth 100000 in
theorem c_newLen (l : Launch) (D : va_G) (cy : Nat → ClassId) (A : Nat → Prop) (μ : MU) {n : Nat} (h10 : 10 ≤ n) (hn : n ≤ 2000) : Met l yJ8_newLength_cabcc (WS yJ8_newLength_cabcc cJ8_newLength_cabcc 4 (some .int)) { frames := 1, cells := 0, slots := 0, locals := 16 } (va_Pc [.int (nI n), .int (nI 1), .int (nI (n / 2))] (Wd D cy A μ)) (QcRead (nI (n + n / 2))) 0 0 (fun _ => False) := by
  refine q_met (by decide) (Nat.le_of_ble_eq_true rfl) ?_
  intro p e s m below meth c F w hr hlk hnm ls hl
  have F : CallFix p m c cJ8_newLength_cabcc 4 s _ BIG RJ8 := F
  have hl : lv_has ls 4 [(0, .int (nI n)), (1, .int (nI 1)), (2, .int (nI (n / 2)))] := hl
  refine lv_iload_n F.1 F.2.1 dJ8_newLength_cabcc_0 rfl (lv_at hl 0 rfl) ?_
  refine lv_iload_n F.1 F.2.1 dJ8_newLength_cabcc_1 rfl (lv_at hl 1 rfl) ?_
  refine lv_iload_n F.1 F.2.1 dJ8_newLength_cabcc_2 rfl (lv_at hl 2 rfl) ?_
  refine va_mmax F.1 F.2.1 (F.2.2.1.trans hl.1.symm) F.2.2.2.1 (F.2.2.2.2 _ wM_J8_194) (F.2.2.2.2 _ wMt_max1) (F.2.2.2.2 _ wMt_i) (F.2.2.2.2 _ wMt_max2) (Nat.le_of_ble_eq_true rfl) (Nat.le_of_ble_eq_true rfl) (Nat.zero_le _) (Nat.zero_le _) dJ8_newLength_cabcc_3 ?_
  refine lv_fold (y := nI (n / 2)) (if_pos (nI_lt (by omega) (by omega))) ?_
  refine lv_iadd F.1 F.2.1 dJ8_newLength_cabcc_6 ?_
  refine lv_fold (y := nI (n + (n / 2))) (nI_add _ _) ?_
  refine lv_istore_n (lv' := [(3, .int (nI (n + (n / 2)))), (0, .int (nI n)), (1, .int (nI 1)), (2, .int (nI (n / 2)))]) F.1 F.2.1 dJ8_newLength_cabcc_7 rfl hl (by decide) rfl (fun ls hl => ?_)
  refine lv_iconst (v := 0) F.1 F.2.1 dJ8_newLength_cabcc_8 (by decide) ?_
  refine lv_iload_n F.1 F.2.1 dJ8_newLength_cabcc_9 rfl (lv_at hl 0 rfl) ?_
  refine lv_icmp_ge (tgt := 21) F.1 F.2.1 dJ8_newLength_cabcc_10 (by decide) (fun c_1 => absurd c_1 (nI_nle (by omega) (by omega))) (fun c_1 => ?_)
  refine lv_iload_n F.1 F.2.1 dJ8_newLength_cabcc_13 rfl (lv_at hl 0 rfl) ?_
  refine lv_ldc F.1 F.2.1 F.2.2.2.1 (F.2.2.2.2 _ wK_J8_200) dJ8_newLength_cabcc_14 ?_
  refine lv_icmp_gt (tgt := 21) F.1 F.2.1 dJ8_newLength_cabcc_16 (by decide) (fun c_2 => absurd c_2 (fun h9 => absurd ((nI_ltI (a := 2147483639) (by decide) (by omega)).mp h9) (by omega))) (fun c_2 => ?_)
  refine lv_iload_n F.1 F.2.1 dJ8_newLength_cabcc_19 rfl (lv_at hl 0 rfl) ?_
  exact q_reti F hr hlk rfl dJ8_newLength_cabcc_20
set_option maxHeartbeats 4000000 in
set_option maxRecDepth 100000 in
theorem c_copy3 (l : Launch) (D : va_G) (cy : Nat → ClassId) (A : Nat → Prop) (μ : MU) {ed n N ci : Nat} {f : Nat → Option Nat} {q : vw_C} (he : μ ed = some (.inl (cy 3, n, .inr (.inr (.inr (.inr f)))))) (hc : vwCl[ci]? = some q) (hca : (q.1, "java/lang/Object") ∈ CAST9) (hel : ∀ i, i < n → ∀ y, f i = some y → ∃ vs, μ y = some (.inr (ci, vs))) (hnN : n ≤ N) (hN : N ≤ 2000) : Met l yJ7_copyOf_6403c (WS yJ7_copyOf_6403c cJ7_copyOf_6403c 4 (some (.array (.object "java/lang/Object")))) { frames := 1, cells := 1, slots := N, locals := 60 } (va_Pc [.ref ed, .int (nI N), .ref (cy 8)] (Wd D cy A μ)) (va_Qr (fun _ : MU => True) (fun μ1 a1 t => Wd D cy A μ1 t ∧ (μ a1 = none ∧ μ1 a1 = some (.inl (cy 3, N, .inr (.inr (.inr (.inr (fun i => if i < n then f i else none)))))) ∧ ∀ b, b ≠ a1 → μ1 b = μ b)) A) 1 N A := by
  refine q_met (by decide) (Nat.le_of_ble_eq_true rfl) ?_
  intro p e s m below meth c F w hr hlk hnm ls hl
  have F : CallFix p m c cJ7_copyOf_6403c 4 s _ BIG RJ7 := F
  have hl : lv_has ls 4 [(0, .ref ed), (1, .int (nI N)), (2, .ref (cy 8))] := hl
  refine lv_aload_n F.1 F.2.1 dJ7_copyOf_6403c_0 rfl (lv_at hl 2 rfl) ?_
  refine va_ldcM F.1 F.2.1 F.2.2.2.1 (F.2.2.2.2 _ wL_J7_110) w.2.2.2.2.1.2.2.2 dJ7_copyOf_6403c_1 ?_
  refine lv_acmp_ne (rx := some (cy 8)) (ry := some (cy 8)) (tgt := 13) F.1 F.2.1 dJ7_copyOf_6403c_3 (by decide) (fun c9 => absurd rfl c9) (fun _ => ?_)
  refine lv_iload_n F.1 F.2.1 dJ7_copyOf_6403c_6 rfl (lv_at hl 1 rfl) ?_
  refine q_newQ F w 3 rfl wL_J7_2 w.2.2.2.2.1.2.1 N rfl (by omega) (Nat.le_of_ble_eq_true rfl) (by show 0 + N ≤ N; omega) dJ7_copyOf_6403c_7 (fun q9 H hq w => ?_)
  refine lv_goto (tgt := 24) F.1 F.2.1 dJ7_copyOf_6403c_10 (by decide) ?_
  refine lv_astore_n (lv' := [(3, .ref q9), (0, .ref ed), (1, .int (nI N)), (2, .ref (cy 8))]) F.1 F.2.1 dJ7_copyOf_6403c_24 rfl hl (by decide) rfl (fun ls hl => ?_)
  refine lv_aload_n F.1 F.2.1 dJ7_copyOf_6403c_25 rfl (lv_at hl 1 rfl) ?_
  refine lv_iconst (v := 0) F.1 F.2.1 dJ7_copyOf_6403c_26 (by decide) ?_
  refine lv_aload_n F.1 F.2.1 dJ7_copyOf_6403c_27 rfl (lv_at hl 0 rfl) ?_
  refine lv_iconst (v := 0) F.1 F.2.1 dJ7_copyOf_6403c_28 (by decide) ?_
  refine lv_aload_n F.1 F.2.1 dJ7_copyOf_6403c_29 rfl (lv_at hl 1 rfl) ?_
  have hne : ed ≠ q9 := fun e9 => by rw [e9, hq] at he; cases he
  refine q_alen F w 3 rfl ((mset_ne hne).trans he) rfl dJ7_copyOf_6403c_30 ?_
  refine lv_fold (y := nI n) rfl ?_
  refine lv_iload_n F.1 F.2.1 dJ7_copyOf_6403c_31 rfl (lv_at hl 2 rfl) ?_
  refine va_mmin F.1 F.2.1 (F.2.2.1.trans hl.1.symm) F.2.2.2.1 (F.2.2.2.2 _ wM_J7_304) (F.2.2.2.2 _ wMt_min1) (F.2.2.2.2 _ wMt_i) (F.2.2.2.2 _ wMt_min2) (Nat.le_of_ble_eq_true rfl) (Nat.le_of_ble_eq_true rfl) (Nat.le_of_ble_eq_true rfl) (by show 0 + N ≤ N; omega) dJ7_copyOf_6403c_32 ?_
  refine lv_fold (y := nI n) (if_neg (nI_nlt hnN (by omega))) ?_
  refine q_copy F w ((mset_ne hne).trans he) (mset_eq _ _ _) hc hca (fun i hi y hy => by obtain ⟨vs, hvs⟩ := hel i hi y hy; exact ⟨vs, (mset_ne (fun e9 => by rw [e9, hq] at hvs; cases hvs)).trans hvs⟩) (Nat.le_refl _) hnN (by omega) hl.1 (Nat.le_of_ble_eq_true rfl) (Nat.le_of_ble_eq_true rfl) dJ7_copyOf_6403c_35 (fun H locs w => ?_)
  refine lv_aload_n F.1 F.2.1 dJ7_copyOf_6403c_38 rfl (lv_at hl 0 rfl) ?_
  refine W.widen (k := 1) (n := N) (Nat.le_refl _) (by show 0 + N ≤ N; omega) ?_
  exact q_retR F hr (Or.inr ⟨_, rfl⟩) hlk w ⟨hq, by rw [mset_eq, lf_cpy], fun b hb => (mset_ne hb).trans (mset_ne hb)⟩ dJ7_copyOf_6403c_39
set_option maxHeartbeats 4000000 in
set_option maxRecDepth 100000 in
theorem c_copy2 (l : Launch) (D : va_G) (cy : Nat → ClassId) (A : Nat → Prop) (μ : MU) {ed n N ci : Nat} {f : Nat → Option Nat} {q : vw_C} (he : μ ed = some (.inl (cy 3, n, .inr (.inr (.inr (.inr f)))))) (hc : vwCl[ci]? = some q) (hca : (q.1, "java/lang/Object") ∈ CAST9) (hel : ∀ i, i < n → ∀ y, f i = some y → ∃ vs, μ y = some (.inr (ci, vs))) (hnN : n ≤ N) (hN : N ≤ 2000) : Met l yJ7_copyOf_1904c (WS yJ7_copyOf_1904c cJ7_copyOf_1904c 2 (some (.array (.object "java/lang/Object")))) { frames := 2, cells := 1, slots := N, locals := 84 } (va_Pc [.ref ed, .int (nI N)] (Wd D cy A μ)) (va_Qr (fun _ : MU => True) (fun μ1 a1 t => Wd D cy A μ1 t ∧ (μ a1 = none ∧ μ1 a1 = some (.inl (cy 3, N, .inr (.inr (.inr (.inr (fun i => if i < n then f i else none)))))) ∧ ∀ b, b ≠ a1 → μ1 b = μ b)) A) 1 N A := by
  refine q_met (by decide) (Nat.le_of_ble_eq_true rfl) ?_
  intro p e s m below meth c F w hr hlk hnm ls hl
  have F : CallFix p m c cJ7_copyOf_1904c 2 s _ BIG RJ7 := F
  have hl : lv_has ls 2 [(0, .ref ed), (1, .int (nI N))] := hl
  refine lv_aload_n F.1 F.2.1 dJ7_copyOf_1904c_0 rfl (lv_at hl 0 rfl) ?_
  refine lv_iload_n F.1 F.2.1 dJ7_copyOf_1904c_1 rfl (lv_at hl 1 rfl) ?_
  refine lv_aload_n F.1 F.2.1 dJ7_copyOf_1904c_2 rfl (lv_at hl 0 rfl) ?_
  refine q_getC F w he hl.1 (Nat.le_of_ble_eq_true rfl) (Nat.le_of_ble_eq_true rfl) dJ7_copyOf_1904c_3 ?_
  refine q_mSr (rest := []) F w kS_J7_300 hd_J7_copyOf_6403c (c_copy3 l D cy A _ he hc hca hel hnN hN) dJ7_copyOf_1904c_6 rfl rfl hl.1 ⟨rfl, rfl, Nat.le_of_ble_eq_true rfl, Nat.le_of_ble_eq_true rfl⟩ (Nat.le_of_ble_eq_true rfl) ⟨Nat.le_of_ble_eq_true rfl, by show 0 + N ≤ N; omega⟩ (fun q9 μ1 H locs hp w => ?_)
  refine W.widen (k := 1) (n := N) (Nat.le_refl _) (by show 0 + N ≤ N; omega) ?_
  exact q_retR F hr (Or.inr ⟨_, rfl⟩) hlk w hp dJ7_copyOf_1904c_9
set_option maxHeartbeats 4000000 in
set_option maxRecDepth 100000 in
theorem c_grow1_0 (l : Launch) (D : va_G) (cy : Nat → ClassId) (A : Nat → Prop) (μ : MU) {la ed : Nat} {x : Int32} {el : Nat → Nat} (hla : μ la = some (lobj cy x ed 0)) : Met l yJx4a65c_grow_92f84 (WS yJx4a65c_grow_92f84 cJx4a65c_grow_92f84 4 (some (.array (.object "java/lang/Object")))) { frames := 3, cells := 1, slots := 1000, locals := 105 } (va_Pc [.ref la, .int (nI 1)] (Wd D cy A μ)) (va_Qr (fun _ : MU => True) (fun μ1 a1 t => Wd D cy A μ1 t ∧ (μ a1 = none ∧ μ1 la = some (.inr (0, [.int x, .ref a1, .int (nI 0)])) ∧ μ1 a1 = some (.inl (cy 3, capN (0 + 1), .inr (.inr (.inr (.inr (lf 0 el)))))) ∧ ∀ b, b ≠ la → b ≠ a1 → μ1 b = μ b)) A) 1 1000 A := by
  have hl0 : μ la = some (.inr (0, [.int x, .ref (cy 9), .int (nI 0)])) := hla
  refine q_met (by decide) (Nat.le_of_ble_eq_true rfl) ?_
  intro p e s m below meth c F w hr hlk hnm ls hl
  have F : CallFix p m c cJx4a65c_grow_92f84 4 s _ BIG RJx4a65c := F
  have hl : lv_has ls 4 [(0, .ref la), (1, .int (nI 1))] := hl
  refine lv_aload_n F.1 F.2.1 dJx4a65c_grow_92f84_0 rfl (lv_at hl 0 rfl) ?_
  refine gf_Jx4a65c_9 F w hl0 rfl dJx4a65c_grow_92f84_1 ?_
  refine q_len0 F w dJx4a65c_grow_92f84_4 ?_
  refine lv_istore_n (lv' := [(2, .int 0), (0, .ref la), (1, .int (nI 1))]) F.1 F.2.1 dJx4a65c_grow_92f84_5 rfl hl (by decide) rfl (fun ls hl => ?_)
  refine lv_iload_n F.1 F.2.1 dJx4a65c_grow_92f84_6 rfl (lv_at hl 0 rfl) ?_
  refine lv_if_gt (tgt := 20) F.1 F.2.1 dJx4a65c_grow_92f84_7 (by decide) (fun c_1 => absurd c_1 (by decide)) (fun c_1 => ?_)
  refine lv_aload_n F.1 F.2.1 dJx4a65c_grow_92f84_10 rfl (lv_at hl 1 rfl) ?_
  refine gf_Jx4a65c_9 F w hl0 rfl dJx4a65c_grow_92f84_11 ?_
  refine q_gets F w dJx4a65c_grow_92f84_14 ?_
  refine lv_acmp_eq (rx := some (cy 9)) (ry := some (cy 9)) (tgt := 45) F.1 F.2.1 dJx4a65c_grow_92f84_17 (by decide) (fun _ => ?_) (fun c9 => absurd rfl c9)
  refine lv_aload_n F.1 F.2.1 dJx4a65c_grow_92f84_45 rfl (lv_at hl 1 rfl) ?_
  refine lv_bipush (v := 10) F.1 F.2.1 dJx4a65c_grow_92f84_46 (by decide) ?_
  refine lv_iload_n F.1 F.2.1 dJx4a65c_grow_92f84_48 rfl (lv_at hl 2 rfl) ?_
  refine va_mmax F.1 F.2.1 (F.2.2.1.trans hl.1.symm) F.2.2.2.1 (F.2.2.2.2 _ wM_Jx4a65c_79) (F.2.2.2.2 _ wMt_max1) (F.2.2.2.2 _ wMt_i) (F.2.2.2.2 _ wMt_max2) (Nat.le_of_ble_eq_true rfl) (Nat.le_of_ble_eq_true rfl) (Nat.zero_le _) (Nat.zero_le _) dJx4a65c_grow_92f84_49 ?_
  refine lv_fold (y := nI 10) (if_neg (by decide)) ?_
  refine q_newQ F w 3 rfl wL_Jx4a65c_7 w.2.2.2.2.1.2.1 10 rfl (by decide) (Nat.le_of_ble_eq_true rfl) (Nat.le_of_ble_eq_true rfl) dJx4a65c_grow_92f84_52 (fun q9 H hq w => ?_)
  refine lv_dup_x1 F.1 F.2.1 dJx4a65c_grow_92f84_55 rfl rfl ?_
  have hne : la ≠ q9 := fun e9 => by rw [e9, hq] at hl0; cases hl0
  refine pf_Jx4a65c_9 (v := .ref q9) F w rfl ((mset_ne hne).trans hl0) rfl rfl dJx4a65c_grow_92f84_56 (fun H locs w => ?_)
  refine W.widen (k := 1) (n := 1000) (Nat.le_refl _) (Nat.le_of_ble_eq_true rfl) ?_
  refine q_retR F hr (Or.inr ⟨_, rfl⟩) hlk w ⟨hq, mset_eq _ _ _, (mset_ne (Ne.symm hne)).trans ((mset_eq _ _ _).trans ?_), fun b hb hb2 => (mset_ne hb).trans (mset_ne hb2)⟩ dJx4a65c_grow_92f84_59
  rw [show lf 0 el = (fun _ => none) from funext (fun i => if_neg (by omega))]
  rfl
set_option maxHeartbeats 4000000 in
set_option maxRecDepth 100000 in
theorem c_grow1_1 (l : Launch) (D : va_G) (cy : Nat → ClassId) (A : Nat → Prop) (μ : MU) {la ed n ci : Nat} {x : Int32} {el : Nat → Nat} {q : vw_C} (hla : μ la = some (lobj cy x ed n)) (hed : n ≠ 0 → μ ed = some (larr cy n el)) (hfull : n = capN n) (hc : vwCl[ci]? = some q) (hca : (q.1, "java/lang/Object") ∈ CAST9) (hel : ∀ i, i < n → ∃ vs, μ (el i) = some (.inr (ci, vs))) (hn : n ≤ 600) (hz : n ≠ 0) : Met l yJx4a65c_grow_92f84 (WS yJx4a65c_grow_92f84 cJx4a65c_grow_92f84 4 (some (.array (.object "java/lang/Object")))) { frames := 3, cells := 1, slots := 1000, locals := 105 } (va_Pc [.ref la, .int (nI (n + 1))] (Wd D cy A μ)) (va_Qr (fun _ : MU => True) (fun μ1 a1 t => Wd D cy A μ1 t ∧ (μ a1 = none ∧ μ1 la = some (.inr (0, [.int x, .ref a1, .int (nI n)])) ∧ μ1 a1 = some (.inl (cy 3, capN (n + 1), .inr (.inr (.inr (.inr (lf n el)))))) ∧ ∀ b, b ≠ la → b ≠ a1 → μ1 b = μ b)) A) 1 1000 A := by
  have hl1 : μ la = some (.inr (0, [.int x, .ref ed, .int (nI n)])) := by rw [hla, lobj, if_neg hz]
  have hed1 : μ ed = some (.inl (cy 3, n, .inr (.inr (.inr (.inr (lf n el)))))) := by have h9 := hed hz; rw [larr, ← hfull] at h9; exact h9
  have h10 : 10 ≤ n := by have := (capN_ge n).2.1 (by omega); omega
  refine q_met (by decide) (Nat.le_of_ble_eq_true rfl) ?_
  intro p e s m below meth c F w hr hlk hnm ls hl
  have F : CallFix p m c cJx4a65c_grow_92f84 4 s _ BIG RJx4a65c := F
  have hl : lv_has ls 4 [(0, .ref la), (1, .int (nI (n + 1)))] := hl
  refine lv_aload_n F.1 F.2.1 dJx4a65c_grow_92f84_0 rfl (lv_at hl 0 rfl) ?_
  refine gf_Jx4a65c_9 F w hl1 rfl dJx4a65c_grow_92f84_1 ?_
  refine q_alen F w 3 rfl hed1 rfl dJx4a65c_grow_92f84_4 ?_
  refine lv_fold (y := nI n) rfl ?_
  refine lv_istore_n (lv' := [(2, .int (nI n)), (0, .ref la), (1, .int (nI (n + 1)))]) F.1 F.2.1 dJx4a65c_grow_92f84_5 rfl hl (by decide) rfl (fun ls hl => ?_)
  refine lv_iload_n F.1 F.2.1 dJx4a65c_grow_92f84_6 rfl (lv_at hl 0 rfl) ?_
  refine lv_if_gt (tgt := 20) F.1 F.2.1 dJx4a65c_grow_92f84_7 (by decide) (fun c_1 => ?_) (fun c_1 => absurd (by have := nI_lt (a := 0) (b := n) (by omega) (by omega); exact this) c_1)
  refine lv_iload_n F.1 F.2.1 dJx4a65c_grow_92f84_20 rfl (lv_at hl 0 rfl) ?_
  refine lv_iload_n F.1 F.2.1 dJx4a65c_grow_92f84_21 rfl (lv_at hl 2 rfl) ?_
  refine lv_iload_n F.1 F.2.1 dJx4a65c_grow_92f84_22 rfl (lv_at hl 0 rfl) ?_
  refine lv_isub F.1 F.2.1 dJx4a65c_grow_92f84_23 ?_
  refine lv_fold (y := nI 1) (by rw [pk_sub (Nat.le_succ n)]; congr 1; omega) ?_
  refine lv_iload_n F.1 F.2.1 dJx4a65c_grow_92f84_24 rfl (lv_at hl 0 rfl) ?_
  refine lv_iconst (v := 1) F.1 F.2.1 dJx4a65c_grow_92f84_25 (by decide) ?_
  refine lv_ishr F.1 F.2.1 dJx4a65c_grow_92f84_26 ?_
  refine lv_fold (y := nI (n / 2)) ((pk_shrN (by omega) _ 1 (by decide)).trans rfl) ?_
  refine q_rS (rest := []) F w kS_Jx4a65c_73 hd_J8_newLength_cabcc (c_newLen l D cy A _ h10 (by omega)) dJx4a65c_grow_92f84_27 rfl rfl hl.1 ⟨rfl, rfl, Nat.le_of_ble_eq_true rfl, Nat.le_of_ble_eq_true rfl⟩ (Nat.le_of_ble_eq_true rfl) ⟨Nat.zero_le _, Nat.zero_le _⟩ ?_
  refine lv_istore_n (lv' := [(3, .int (nI (n + n / 2))), (2, .int (nI n)), (0, .ref la), (1, .int (nI (n + 1)))]) F.1 F.2.1 dJx4a65c_grow_92f84_30 rfl hl (by decide) rfl (fun ls hl => ?_)
  refine lv_aload_n F.1 F.2.1 dJx4a65c_grow_92f84_31 rfl (lv_at hl 2 rfl) ?_
  refine lv_aload_n F.1 F.2.1 dJx4a65c_grow_92f84_32 rfl (lv_at hl 2 rfl) ?_
  refine gf_Jx4a65c_9 F w hl1 rfl dJx4a65c_grow_92f84_33 ?_
  refine lv_iload_n F.1 F.2.1 dJx4a65c_grow_92f84_36 rfl (lv_at hl 0 rfl) ?_
  refine q_mSr (rest := [.ref la]) F w kS_Jx4a65c_66 hd_J7_copyOf_1904c (c_copy2 l D cy A _ hed1 hc hca (fun i hi y hy => by rw [lf_at hi] at hy; cases hy; exact hel i hi) (by omega) (by omega)) dJx4a65c_grow_92f84_37 rfl rfl hl.1 ⟨rfl, rfl, Nat.le_of_ble_eq_true rfl, Nat.le_of_ble_eq_true rfl⟩ (Nat.le_of_ble_eq_true rfl) ⟨Nat.le_of_ble_eq_true rfl, by show 0 + (n + n / 2) ≤ 1000; omega⟩ (fun q9 μ1 H locs hp w => ?_)
  obtain ⟨hq, hq1, hq2⟩ := hp
  have hne : la ≠ q9 := fun e9 => by rw [e9, hq] at hl1; cases hl1
  refine lv_dup_x1 F.1 F.2.1 dJx4a65c_grow_92f84_40 rfl rfl ?_
  refine pf_Jx4a65c_9 (v := .ref q9) F w rfl ((hq2 la hne).trans hl1) rfl rfl dJx4a65c_grow_92f84_41 (fun H locs w => ?_)
  refine W.widen (k := 1) (n := 1000) (Nat.le_refl _) (by show 0 + (n + n / 2) ≤ 1000; omega) ?_
  refine q_retR F hr (Or.inr ⟨_, rfl⟩) hlk w ⟨hq, mset_eq _ _ _, (mset_ne (Ne.symm hne)).trans (hq1.trans ?_), fun b hb hb2 => (mset_ne hb).trans (hq2 b hb2)⟩ dJx4a65c_grow_92f84_44
  rw [show capN (n + 1) = n + n / 2 by rw [capN, if_pos hfull, if_neg hz]]
  rw [show (fun i => if i < n then lf n el i else none) = lf n el from funext (fun i => by by_cases hi : i < n; (rw [if_pos hi]); (rw [if_neg hi]; exact (if_neg hi).symm))]
theorem c_grow1 (l : Launch) (D : va_G) (cy : Nat → ClassId) (A : Nat → Prop) (μ : MU) {la ed n ci : Nat} {x : Int32} {el : Nat → Nat} {q : vw_C} (hla : μ la = some (lobj cy x ed n)) (hed : n ≠ 0 → μ ed = some (larr cy n el)) (hfull : n = capN n) (hc : vwCl[ci]? = some q) (hca : (q.1, "java/lang/Object") ∈ CAST9) (hel : ∀ i, i < n → ∃ vs, μ (el i) = some (.inr (ci, vs))) (hn : n ≤ 600) : Met l yJx4a65c_grow_92f84 (WS yJx4a65c_grow_92f84 cJx4a65c_grow_92f84 4 (some (.array (.object "java/lang/Object")))) { frames := 3, cells := 1, slots := 1000, locals := 105 } (va_Pc [.ref la, .int (nI (n + 1))] (Wd D cy A μ)) (va_Qr (fun _ : MU => True) (fun μ1 a1 t => Wd D cy A μ1 t ∧ (μ a1 = none ∧ μ1 la = some (.inr (0, [.int x, .ref a1, .int (nI n)])) ∧ μ1 a1 = some (.inl (cy 3, capN (n + 1), .inr (.inr (.inr (.inr (lf n el)))))) ∧ ∀ b, b ≠ la → b ≠ a1 → μ1 b = μ b)) A) 1 1000 A := by
  by_cases hz : n = 0
  · subst hz
    exact c_grow1_0 l D cy A μ hla
  · exact c_grow1_1 l D cy A μ hla hed hfull hc hca hel hn hz
set_option maxHeartbeats 4000000 in
set_option maxRecDepth 100000 in
theorem c_grow0 (l : Launch) (D : va_G) (cy : Nat → ClassId) (A : Nat → Prop) (μ : MU) {la ed n ci : Nat} {x : Int32} {el : Nat → Nat} {q : vw_C} (hla : μ la = some (lobj cy x ed n)) (hed : n ≠ 0 → μ ed = some (larr cy n el)) (hfull : n = capN n) (hc : vwCl[ci]? = some q) (hca : (q.1, "java/lang/Object") ∈ CAST9) (hel : ∀ i, i < n → ∃ vs, μ (el i) = some (.inr (ci, vs))) (hn : n ≤ 600) : Met l yJx4a65c_grow_d5877 (WS yJx4a65c_grow_d5877 cJx4a65c_grow_d5877 1 (some (.array (.object "java/lang/Object")))) { frames := 4, cells := 1, slots := 1000, locals := 130 } (va_Pc [.ref la] (Wd D cy A μ)) (va_Qr (fun _ : MU => True) (fun μ1 a1 t => Wd D cy A μ1 t ∧ (μ a1 = none ∧ μ1 la = some (.inr (0, [.int x, .ref a1, .int (nI n)])) ∧ μ1 a1 = some (.inl (cy 3, capN (n + 1), .inr (.inr (.inr (.inr (lf n el)))))) ∧ ∀ b, b ≠ la → b ≠ a1 → μ1 b = μ b)) A) 1 1000 A := by
  refine q_met (by decide) (Nat.le_of_ble_eq_true rfl) ?_
  intro p e s m below meth c F w hr hlk hnm ls hl
  have F : CallFix p m c cJx4a65c_grow_d5877 1 s _ BIG RJx4a65c := F
  have hl : lv_has ls 1 [(0, .ref la)] := hl
  refine lv_aload_n F.1 F.2.1 dJx4a65c_grow_d5877_0 rfl (lv_at hl 0 rfl) ?_
  refine lv_aload_n F.1 F.2.1 dJx4a65c_grow_d5877_1 rfl (lv_at hl 0 rfl) ?_
  refine gf_Jx4a65c_48 F w hla rfl dJx4a65c_grow_d5877_2 ?_
  refine lv_iconst (v := 1) F.1 F.2.1 dJx4a65c_grow_d5877_5 (by decide) ?_
  refine lv_iadd F.1 F.2.1 dJx4a65c_grow_d5877_6 ?_
  refine lv_fold (y := nI (n + 1)) (nI_1 n) ?_
  refine q_mVr (rest := []) F w kV_Jx4a65c_69 hd_Jx4a65c_grow_92f84 (ci := 0) rfl (c_grow1 l D cy A _ hla hed hfull hc hca hel hn) hla dJx4a65c_grow_d5877_7 rfl rfl hl.1 ⟨rfl, rfl, Nat.le_of_ble_eq_true rfl, Nat.le_of_ble_eq_true rfl⟩ (Nat.le_of_ble_eq_true rfl) ⟨Nat.le_of_ble_eq_true rfl, Nat.le_of_ble_eq_true rfl⟩ (fun q9 μ1 H locs hp w => ?_)
  exact q_retR F hr (Or.inr ⟨_, rfl⟩) hlk w hp dJx4a65c_grow_d5877_10
set_option maxHeartbeats 4000000 in
set_option maxRecDepth 100000 in
theorem c_add3_0 (l : Launch) (D : va_G) (cy : Nat → ClassId) (A : Nat → Prop) (μ : MU) {la ed ci : Nat} {x : Int32} {v : Nat} {vv : List Value} {el : Nat → Nat} {q : vw_C} (hla : μ la = some (lobj cy x ed 0)) (hc : vwCl[ci]? = some q) (hca : (q.1, "java/lang/Object") ∈ CAST9) (hv : μ v = some (.inr (ci, vv))) : Met l yJx4a65c_add_72be8 (WS yJx4a65c_add_72be8 cJx4a65c_add_72be8 4 none) { frames := 5, cells := 1, slots := 1000, locals := 150 } (va_Pc [.ref la, .ref v, .ref (cy 9), .int (nI 0)] (Wd D cy A μ)) (va_Qv (fun μ1 : MU => ∃ ed1 : Nat, μ1 la = some (lobj cy x ed1 (0 + 1)) ∧ μ1 ed1 = some (larr cy (0 + 1) (va_up el 0 v)) ∧ ((0 ≠ 0 ∧ ed1 = ed) ∨ μ ed1 = none) ∧ ∀ b, b ≠ la → b ≠ ed1 → μ1 b = μ b) (fun μ1 t => Wd D cy A μ1 t) A) 1 1000 A := by
  refine q_met (by decide) (Nat.le_of_ble_eq_true rfl) ?_
  intro p e s m below meth c F w hr hlk hnm ls hl
  have F : CallFix p m c cJx4a65c_add_72be8 4 s _ BIG RJx4a65c := F
  have hl : lv_has ls 4 [(0, .ref la), (1, .ref v), (2, .ref (cy 9)), (3, .int (nI 0))] := hl
  refine lv_iload_n F.1 F.2.1 dJx4a65c_add_72be8_0 rfl (lv_at hl 3 rfl) ?_
  refine lv_aload_n F.1 F.2.1 dJx4a65c_add_72be8_1 rfl (lv_at hl 2 rfl) ?_
  refine q_len0 F w dJx4a65c_add_72be8_2 ?_
  refine lv_icmp_ne (tgt := 11) F.1 F.2.1 dJx4a65c_add_72be8_3 (by decide) (fun c9 => absurd rfl c9) (fun _ => ?_)
  refine lv_aload_n F.1 F.2.1 dJx4a65c_add_72be8_6 rfl (lv_at hl 0 rfl) ?_
  refine q_mVr (rest := []) F w kV_Jx4a65c_129 hd_Jx4a65c_grow_d5877 (ci := 0) rfl (c_grow0 l D cy A _ (el := el) hla (fun h => absurd rfl h) rfl hc hca (fun i hi => absurd hi (Nat.not_lt_zero i)) (by decide)) hla dJx4a65c_add_72be8_7 rfl rfl hl.1 ⟨rfl, rfl, Nat.le_of_ble_eq_true rfl, Nat.le_of_ble_eq_true rfl⟩ (Nat.le_of_ble_eq_true rfl) ⟨Nat.le_of_ble_eq_true rfl, Nat.le_of_ble_eq_true rfl⟩ (fun q9 μ1 H locs hp w => ?_)
  obtain ⟨hq, hq0, hq1, hq2⟩ := hp
  have hne : la ≠ q9 := fun e9 => by rw [e9, hq] at hla; cases hla
  have hvl : v ≠ la := fun e9 => by rw [e9, hla] at hv; cases hv; revert hca; rw [show q = (RJx4a65c, TJx4a65c, 3) from (Option.some.inj hc).symm]; decide
  have hvq : v ≠ q9 := fun e9 => by rw [e9, hq] at hv; cases hv
  have hv1 := (hq2 v hvl hvq).trans hv
  refine lv_astore_n (lv' := [(2, .ref q9), (0, .ref la), (1, .ref v), (3, .int (nI 0))]) F.1 F.2.1 dJx4a65c_add_72be8_10 rfl hl (by decide) rfl (fun ls hl => ?_)
  refine lv_aload_n F.1 F.2.1 dJx4a65c_add_72be8_11 rfl (lv_at hl 0 rfl) ?_
  refine lv_iload_n F.1 F.2.1 dJx4a65c_add_72be8_12 rfl (lv_at hl 3 rfl) ?_
  refine lv_aload_n F.1 F.2.1 dJx4a65c_add_72be8_13 rfl (lv_at hl 2 rfl) ?_
  refine q_aastO F w hq1 hv1 hc hca 0 (by decide) (by decide) dJx4a65c_add_72be8_14 (fun H locs w => ?_)
  refine lv_aload_n F.1 F.2.1 dJx4a65c_add_72be8_15 rfl (lv_at hl 1 rfl) ?_
  refine lv_iload_n F.1 F.2.1 dJx4a65c_add_72be8_16 rfl (lv_at hl 3 rfl) ?_
  refine lv_iconst (v := 1) F.1 F.2.1 dJx4a65c_add_72be8_17 (by decide) ?_
  refine lv_iadd F.1 F.2.1 dJx4a65c_add_72be8_18 ?_
  refine lv_fold (y := nI (0 + 1)) (nI_1 0) ?_
  refine pf_Jx4a65c_48 (v := .int (nI (0 + 1))) F w rfl ((mset_ne hne).trans hq0) rfl rfl dJx4a65c_add_72be8_19 (fun H locs w => ?_)
  refine q_retV F hr hlk w ⟨q9, (mset_eq _ _ _).trans ?_, (mset_ne (Ne.symm hne)).trans ((mset_eq _ _ _).trans ?_), Or.inr hq, fun b hb hb2 => (mset_ne hb).trans ((mset_ne hb2).trans (hq2 b hb hb2))⟩ dJx4a65c_add_72be8_22
  · rw [lobj, if_neg (Nat.succ_ne_zero 0)]; rfl
  · rw [larr, lf_add]
set_option maxHeartbeats 4000000 in
set_option maxRecDepth 100000 in
theorem c_add3_1 (l : Launch) (D : va_G) (cy : Nat → ClassId) (A : Nat → Prop) (μ : MU) {la ed n ci : Nat} {x : Int32} {v : Nat} {vv : List Value} {el : Nat → Nat} {q : vw_C} (hla : μ la = some (lobj cy x ed n)) (hed : n ≠ 0 → μ ed = some (larr cy n el)) (hc : vwCl[ci]? = some q) (hca : (q.1, "java/lang/Object") ∈ CAST9) (hel : ∀ i, i < n → ∃ vs, μ (el i) = some (.inr (ci, vs))) (hv : μ v = some (.inr (ci, vv))) (hn : n ≤ 600) (hz : n ≠ 0) (hfull : n = capN n) : Met l yJx4a65c_add_72be8 (WS yJx4a65c_add_72be8 cJx4a65c_add_72be8 4 none) { frames := 5, cells := 1, slots := 1000, locals := 150 } (va_Pc [.ref la, .ref v, .ref ed, .int (nI n)] (Wd D cy A μ)) (va_Qv (fun μ1 : MU => ∃ ed1 : Nat, μ1 la = some (lobj cy x ed1 (n + 1)) ∧ μ1 ed1 = some (larr cy (n + 1) (va_up el n v)) ∧ ((n ≠ 0 ∧ ed1 = ed) ∨ μ ed1 = none) ∧ ∀ b, b ≠ la → b ≠ ed1 → μ1 b = μ b) (fun μ1 t => Wd D cy A μ1 t) A) 1 1000 A := by
  have hed1 : μ ed = some (.inl (cy 3, n, .inr (.inr (.inr (.inr (lf n el)))))) := by have h9 := hed hz; rw [larr, ← hfull] at h9; exact h9
  refine q_met (by decide) (Nat.le_of_ble_eq_true rfl) ?_
  intro p e s m below meth c F w hr hlk hnm ls hl
  have F : CallFix p m c cJx4a65c_add_72be8 4 s _ BIG RJx4a65c := F
  have hl : lv_has ls 4 [(0, .ref la), (1, .ref v), (2, .ref ed), (3, .int (nI n))] := hl
  refine lv_iload_n F.1 F.2.1 dJx4a65c_add_72be8_0 rfl (lv_at hl 3 rfl) ?_
  refine lv_aload_n F.1 F.2.1 dJx4a65c_add_72be8_1 rfl (lv_at hl 2 rfl) ?_
  refine q_alen F w 3 rfl hed1 rfl dJx4a65c_add_72be8_2 ?_
  refine lv_fold (y := nI n) rfl ?_
  refine lv_icmp_ne (tgt := 11) F.1 F.2.1 dJx4a65c_add_72be8_3 (by decide) (fun c9 => absurd rfl c9) (fun _ => ?_)
  refine lv_aload_n F.1 F.2.1 dJx4a65c_add_72be8_6 rfl (lv_at hl 0 rfl) ?_
  refine q_mVr (rest := []) F w kV_Jx4a65c_129 hd_Jx4a65c_grow_d5877 (ci := 0) rfl (c_grow0 l D cy A _ hla hed hfull hc hca hel hn) hla dJx4a65c_add_72be8_7 rfl rfl hl.1 ⟨rfl, rfl, Nat.le_of_ble_eq_true rfl, Nat.le_of_ble_eq_true rfl⟩ (Nat.le_of_ble_eq_true rfl) ⟨Nat.le_of_ble_eq_true rfl, Nat.le_of_ble_eq_true rfl⟩ (fun q9 μ1 H locs hp w => ?_)
  obtain ⟨hq, hq0, hq1, hq2⟩ := hp
  have hne : la ≠ q9 := fun e9 => by rw [e9, hq] at hla; cases hla
  have hvl : v ≠ la := fun e9 => by rw [e9, hla] at hv; cases hv; revert hca; rw [show q = (RJx4a65c, TJx4a65c, 3) from (Option.some.inj hc).symm]; decide
  have hvq : v ≠ q9 := fun e9 => by rw [e9, hq] at hv; cases hv
  have hv1 := (hq2 v hvl hvq).trans hv
  refine lv_astore_n (lv' := [(2, .ref q9), (0, .ref la), (1, .ref v), (3, .int (nI n))]) F.1 F.2.1 dJx4a65c_add_72be8_10 rfl hl (by decide) rfl (fun ls hl => ?_)
  refine lv_aload_n F.1 F.2.1 dJx4a65c_add_72be8_11 rfl (lv_at hl 0 rfl) ?_
  refine lv_iload_n F.1 F.2.1 dJx4a65c_add_72be8_12 rfl (lv_at hl 3 rfl) ?_
  refine lv_aload_n F.1 F.2.1 dJx4a65c_add_72be8_13 rfl (lv_at hl 2 rfl) ?_
  refine q_aastO F w hq1 hv1 hc hca n (by have := (capN_ge (n + 1)).1; omega) (by have := (capN_ge (n + 1)).2.2; omega) dJx4a65c_add_72be8_14 (fun H locs w => ?_)
  refine lv_aload_n F.1 F.2.1 dJx4a65c_add_72be8_15 rfl (lv_at hl 1 rfl) ?_
  refine lv_iload_n F.1 F.2.1 dJx4a65c_add_72be8_16 rfl (lv_at hl 3 rfl) ?_
  refine lv_iconst (v := 1) F.1 F.2.1 dJx4a65c_add_72be8_17 (by decide) ?_
  refine lv_iadd F.1 F.2.1 dJx4a65c_add_72be8_18 ?_
  refine lv_fold (y := nI (n + 1)) (nI_1 n) ?_
  refine pf_Jx4a65c_48 (v := .int (nI (n + 1))) F w rfl ((mset_ne hne).trans hq0) rfl rfl dJx4a65c_add_72be8_19 (fun H locs w => ?_)
  refine q_retV F hr hlk w ⟨q9, (mset_eq _ _ _).trans ?_, (mset_ne (Ne.symm hne)).trans ((mset_eq _ _ _).trans ?_), Or.inr hq, fun b hb hb2 => (mset_ne hb).trans ((mset_ne hb2).trans (hq2 b hb hb2))⟩ dJx4a65c_add_72be8_22
  · rw [lobj, if_neg (Nat.succ_ne_zero n)]; rfl
  · rw [larr, lf_add]
set_option maxHeartbeats 4000000 in
set_option maxRecDepth 100000 in
theorem c_add3_2 (l : Launch) (D : va_G) (cy : Nat → ClassId) (A : Nat → Prop) (μ : MU) {la ed n ci : Nat} {x : Int32} {v : Nat} {vv : List Value} {el : Nat → Nat} {q : vw_C} (hla : μ la = some (lobj cy x ed n)) (hed : n ≠ 0 → μ ed = some (larr cy n el)) (hc : vwCl[ci]? = some q) (hca : (q.1, "java/lang/Object") ∈ CAST9) (hel : ∀ i, i < n → ∃ vs, μ (el i) = some (.inr (ci, vs))) (hv : μ v = some (.inr (ci, vv))) (hn : n ≤ 600) (hz : n ≠ 0) (hnf : n ≠ capN n) : Met l yJx4a65c_add_72be8 (WS yJx4a65c_add_72be8 cJx4a65c_add_72be8 4 none) { frames := 5, cells := 1, slots := 1000, locals := 150 } (va_Pc [.ref la, .ref v, .ref ed, .int (nI n)] (Wd D cy A μ)) (va_Qv (fun μ1 : MU => ∃ ed1 : Nat, μ1 la = some (lobj cy x ed1 (n + 1)) ∧ μ1 ed1 = some (larr cy (n + 1) (va_up el n v)) ∧ ((n ≠ 0 ∧ ed1 = ed) ∨ μ ed1 = none) ∧ ∀ b, b ≠ la → b ≠ ed1 → μ1 b = μ b) (fun μ1 t => Wd D cy A μ1 t) A) 1 1000 A := by
  have hed1 : μ ed = some (.inl (cy 3, capN n, .inr (.inr (.inr (.inr (lf n el)))))) := hed hz
  have hl1 : μ la = some (.inr (0, [.int x, .ref ed, .int (nI n)])) := by rw [hla, lobj, if_neg hz]
  have hne : la ≠ ed := fun e9 => by rw [e9, hed1] at hl1; cases hl1
  have hge := (capN_ge n).1
  have hcap := (capN_ge n).2.2
  refine q_met (by decide) (Nat.le_of_ble_eq_true rfl) ?_
  intro p e s m below meth c F w hr hlk hnm ls hl
  have F : CallFix p m c cJx4a65c_add_72be8 4 s _ BIG RJx4a65c := F
  have hl : lv_has ls 4 [(0, .ref la), (1, .ref v), (2, .ref ed), (3, .int (nI n))] := hl
  refine lv_iload_n F.1 F.2.1 dJx4a65c_add_72be8_0 rfl (lv_at hl 3 rfl) ?_
  refine lv_aload_n F.1 F.2.1 dJx4a65c_add_72be8_1 rfl (lv_at hl 2 rfl) ?_
  refine q_alen F w 3 rfl hed1 rfl dJx4a65c_add_72be8_2 ?_
  refine lv_fold (y := nI (capN n)) rfl ?_
  refine lv_icmp_ne (tgt := 11) F.1 F.2.1 dJx4a65c_add_72be8_3 (by decide) (fun _ => ?_) (fun c9 => absurd ((nI_eq (by omega) (by omega)).mp c9) hnf)
  refine lv_aload_n F.1 F.2.1 dJx4a65c_add_72be8_11 rfl (lv_at hl 2 rfl) ?_
  refine lv_iload_n F.1 F.2.1 dJx4a65c_add_72be8_12 rfl (lv_at hl 3 rfl) ?_
  refine lv_aload_n F.1 F.2.1 dJx4a65c_add_72be8_13 rfl (lv_at hl 1 rfl) ?_
  refine q_aastO F w hed1 hv hc hca n (by omega) (by omega) dJx4a65c_add_72be8_14 (fun H locs w => ?_)
  refine lv_aload_n F.1 F.2.1 dJx4a65c_add_72be8_15 rfl (lv_at hl 0 rfl) ?_
  refine lv_iload_n F.1 F.2.1 dJx4a65c_add_72be8_16 rfl (lv_at hl 3 rfl) ?_
  refine lv_iconst (v := 1) F.1 F.2.1 dJx4a65c_add_72be8_17 (by decide) ?_
  refine lv_iadd F.1 F.2.1 dJx4a65c_add_72be8_18 ?_
  refine lv_fold (y := nI (n + 1)) (nI_1 n) ?_
  refine pf_Jx4a65c_48 (v := .int (nI (n + 1))) F w rfl ((mset_ne hne).trans hl1) rfl rfl dJx4a65c_add_72be8_19 (fun H locs w => ?_)
  refine W.widen (k := 1) (n := 1000) (Nat.zero_le _) (Nat.zero_le _) ?_
  refine q_retV F hr hlk w ⟨ed, (mset_eq _ _ _).trans ?_, (mset_ne (Ne.symm hne)).trans ((mset_eq _ _ _).trans ?_), Or.inl ⟨hz, rfl⟩, fun b hb hb2 => (mset_ne hb).trans (mset_ne hb2)⟩ dJx4a65c_add_72be8_22
  · rw [lobj, if_neg (Nat.succ_ne_zero n)]; rfl
  · rw [larr, ← lf_add, capN, if_neg hnf]
theorem c_add3 (l : Launch) (D : va_G) (cy : Nat → ClassId) (A : Nat → Prop) (μ : MU) {la ed n ci : Nat} {x : Int32} {v : Nat} {vv : List Value} {el : Nat → Nat} {q : vw_C} (hla : μ la = some (lobj cy x ed n)) (hed : n ≠ 0 → μ ed = some (larr cy n el)) (hc : vwCl[ci]? = some q) (hca : (q.1, "java/lang/Object") ∈ CAST9) (hel : ∀ i, i < n → ∃ vs, μ (el i) = some (.inr (ci, vs))) (hv : μ v = some (.inr (ci, vv))) (hn : n ≤ 600) : Met l yJx4a65c_add_72be8 (WS yJx4a65c_add_72be8 cJx4a65c_add_72be8 4 none) { frames := 5, cells := 1, slots := 1000, locals := 150 } (va_Pc [.ref la, .ref v, .ref (if n = 0 then cy 9 else ed), .int (nI n)] (Wd D cy A μ)) (va_Qv (fun μ1 : MU => ∃ ed1 : Nat, μ1 la = some (lobj cy x ed1 (n + 1)) ∧ μ1 ed1 = some (larr cy (n + 1) (va_up el n v)) ∧ ((n ≠ 0 ∧ ed1 = ed) ∨ μ ed1 = none) ∧ ∀ b, b ≠ la → b ≠ ed1 → μ1 b = μ b) (fun μ1 t => Wd D cy A μ1 t) A) 1 1000 A := by
  by_cases hz : n = 0
  · subst hz
    exact c_add3_0 l D cy A μ hla hc hca hv
  · rw [if_neg hz]
    by_cases hf : n = capN n
    · exact c_add3_1 l D cy A μ hla hed hc hca hel hv hn hz hf
    · exact c_add3_2 l D cy A μ hla hed hc hca hel hv hn hz hf
set_option maxHeartbeats 4000000 in
set_option maxRecDepth 100000 in
theorem c_add (l : Launch) (D : va_G) (cy : Nat → ClassId) (A : Nat → Prop) (μ : MU) {la ed n ci : Nat} {v : Nat} {vv : List Value} {el : Nat → Nat} {q : vw_C} (hla : μ la = some (lobj cy (nI n) ed n)) (hed : n ≠ 0 → μ ed = some (larr cy n el)) (hc : vwCl[ci]? = some q) (hca : (q.1, "java/lang/Object") ∈ CAST9) (hel : ∀ i, i < n → ∃ vs, μ (el i) = some (.inr (ci, vs))) (hv : μ v = some (.inr (ci, vv))) (hn : n ≤ 600) : Met l yJx4a65c_add_9ea2d (WS yJx4a65c_add_9ea2d cJx4a65c_add_9ea2d 2 (some .boolean)) { frames := 6, cells := 1, slots := 1000, locals := 180 } (va_Pc [.ref la, .ref v] (Wd D cy A μ)) (va_Qi (fun (r9 : Int32) (μ1 : MU) => r9 = 1 ∧ ∃ ed1 : Nat, μ1 la = some (lobj cy (nI (n + 1)) ed1 (n + 1)) ∧ μ1 ed1 = some (larr cy (n + 1) (va_up el n v)) ∧ ((n ≠ 0 ∧ ed1 = ed) ∨ μ ed1 = none) ∧ ∀ b, b ≠ la → b ≠ ed1 → μ1 b = μ b) (fun μ1 t => Wd D cy A μ1 t) A) 1 1000 A := by
  refine q_met (by decide) (Nat.le_of_ble_eq_true rfl) ?_
  intro p e s m below meth c F w hr hlk hnm ls hl
  have F : CallFix p m c cJx4a65c_add_9ea2d 2 s _ BIG RJx4a65c := F
  have hl : lv_has ls 2 [(0, .ref la), (1, .ref v)] := hl
  refine lv_aload_n F.1 F.2.1 dJx4a65c_add_9ea2d_0 rfl (lv_at hl 0 rfl) ?_
  refine lv_dup F.1 F.2.1 dJx4a65c_add_9ea2d_1 rfl ?_
  refine gf_Jx4a65c_63 F w hla rfl dJx4a65c_add_9ea2d_2 ?_
  refine lv_iconst (v := 1) F.1 F.2.1 dJx4a65c_add_9ea2d_5 (by decide) ?_
  refine lv_iadd F.1 F.2.1 dJx4a65c_add_9ea2d_6 ?_
  refine lv_fold (y := nI (n + 1)) (nI_1 n) ?_
  refine pf_Jx4a65c_63 (v := .int (nI (n + 1))) F w rfl hla rfl rfl dJx4a65c_add_9ea2d_7 (fun H locs w => ?_)
  have hvl : v ≠ la := fun e9 => by rw [e9, hla] at hv; cases hv; revert hca; rw [show q = (RJx4a65c, TJx4a65c, 3) from (Option.some.inj hc).symm]; decide
  have hla1 : mset μ la (lobj cy (nI (n + 1)) ed n) la = some (lobj cy (nI (n + 1)) ed n) := mset_eq _ _ _
  have hed1 : n ≠ 0 → mset μ la (lobj cy (nI (n + 1)) ed n) ed = some (larr cy n el) := fun h => (mset_ne (fun e9 => by have h9 := hed h; rw [e9, hla] at h9; cases h9)).trans (hed h)
  have hel1 : ∀ i, i < n → ∃ vs, mset μ la (lobj cy (nI (n + 1)) ed n) (el i) = some (.inr (ci, vs)) := fun i hi => by
    obtain ⟨vs, hvs⟩ := hel i hi
    exact ⟨vs, (mset_ne (fun e9 => by rw [e9, hla] at hvs; cases hvs; revert hca; rw [show q = (RJx4a65c, TJx4a65c, 3) from (Option.some.inj hc).symm]; decide)).trans hvs⟩
  have hv1 := (mset_ne (μ := μ) (e := lobj cy (nI (n + 1)) ed n) hvl).trans hv
  refine lv_aload_n F.1 F.2.1 dJx4a65c_add_9ea2d_10 rfl (lv_at hl 0 rfl) ?_
  refine lv_aload_n F.1 F.2.1 dJx4a65c_add_9ea2d_11 rfl (lv_at hl 1 rfl) ?_
  refine lv_aload_n F.1 F.2.1 dJx4a65c_add_9ea2d_12 rfl (lv_at hl 0 rfl) ?_
  refine gf_Jx4a65c_9 F w hla1 rfl dJx4a65c_add_9ea2d_13 ?_
  refine lv_aload_n F.1 F.2.1 dJx4a65c_add_9ea2d_16 rfl (lv_at hl 0 rfl) ?_
  refine gf_Jx4a65c_48 F w hla1 rfl dJx4a65c_add_9ea2d_17 ?_
  refine q_mVv (rest := []) F w kV_Jx4a65c_131 hd_Jx4a65c_add_72be8 (ci := 0) rfl (c_add3 l D cy A _ hla1 hed1 hc hca hel1 hv1 hn) hla1 dJx4a65c_add_9ea2d_20 rfl rfl hl.1 ⟨rfl, rfl, Nat.le_of_ble_eq_true rfl, Nat.le_of_ble_eq_true rfl⟩ (Nat.le_of_ble_eq_true rfl) ⟨Nat.le_of_ble_eq_true rfl, Nat.le_of_ble_eq_true rfl⟩ (fun μ1 H locs hp w => ?_)
  obtain ⟨ed1, p1, p2, p3, p4⟩ := hp
  refine lv_iconst (v := 1) F.1 F.2.1 dJx4a65c_add_9ea2d_23 (by decide) ?_
  refine q_retZ (S := Unit) F hr hlk w ⟨rfl, ed1, p1, p2, ?_, fun b hb hb2 => (p4 b hb hb2).trans (mset_ne hb)⟩ nz1 dJx4a65c_add_9ea2d_24
  exact p3.elim Or.inl (fun h => Or.inr (by by_cases e9 : ed1 = la; (rw [e9, mset_eq] at h; cases h); (rw [mset_ne e9] at h; exact h)))
