theorem hR_mono {s : State} {pl : Platform} {r r' : Room} (hf : r.frames ≤ r'.frames) (hl : r.locals ≤ r'.locals) (hc : r.cells ≤ r'.cells) (hs : r.slots ≤ r'.slots) (h : s.hasRoom pl r' = true) : s.hasRoom pl r = true := by
  simp only [State.hasRoom, Bool.and_eq_true, decide_eq_true_eq] at h ⊢
  obtain ⟨⟨⟨⟨y, a, b, c, d, e⟩, f⟩, g⟩, i⟩ := h
  exact ⟨⟨⟨⟨by omega, by omega, by omega, by omega, by omega, e⟩, by omega⟩, by omega⟩, i⟩
/-- a contract in more room, with a weaker end -/
theorem met_up {l : Launch} {y : MethodName} {ws : List Cond} {rm rm' : Room} {Pc : Array Value → State → Prop} {Qc Qc' : Array Value → State → Outcome → State → Prop} {mc ms : Nat} {free : Addr → Prop} (h : Met l y ws rm Pc Qc mc ms free) (hf : rm.frames ≤ rm'.frames) (hl : rm.locals ≤ rm'.locals) (hc : rm.cells ≤ rm'.cells) (hs : rm.slots ≤ rm'.slots) (hQ : ∀ a s o t, Qc a s o t → Qc' a s o t) : Met l y ws rm' Pc Qc' mc ms free := by
  intro p e ha hcs hk s m args below hfr happ hP hK
  obtain ⟨a1, a2, a3, a4, a5, a6, a7, a8⟩ := (Spec.appliesLoose_iff hfr).mp happ
  obtain ⟨n, o, h1, h2, h3, h4⟩ := h p e ha hcs hk s m args below hfr ((Spec.appliesLoose_iff hfr).mpr ⟨a1, a2, a3, a4, a5, a6, hR_mono hf hl hc hs a7, a8⟩) hP hK
  exact ⟨n, o, h1, h2, h3, hQ _ _ _ _ h4.1, h4.2⟩
theorem vx_up {l : Launch} {y : MethodName} {ws : List Cond} {rm rm' : Room} {Pc : Array Value → State → Prop} {Qc Qc' : Array Value → State → Outcome → State → Prop} {XC XC' : String → State → State → Prop} {mc ms mc' ms' : Nat} {free : Addr → Prop} (h : vx_Met l y ws rm Pc Qc XC mc ms free) (hf : rm.frames ≤ rm'.frames) (hl : rm.locals ≤ rm'.locals) (hc : rm.cells ≤ rm'.cells) (hs : rm.slots ≤ rm'.slots) (hmc : mc ≤ mc') (hms : ms ≤ ms') (hQ : ∀ a s o t, Qc a s o t → Qc' a s o t) (hX : ∀ E s t, XC E s t → XC' E s t) : vx_Met l y ws rm' Pc Qc' XC' mc' ms' free := by
  intro p e ha hcs hk s m args below hfr happ hP hK
  obtain ⟨a1, a2, a3, a4, a5, a6, a7, a8⟩ := (Spec.appliesLoose_iff hfr).mp happ
  obtain ⟨n, o, h1, h2, h3, h4⟩ := h p e ha hcs hk s m args below hfr ((Spec.appliesLoose_iff hfr).mpr ⟨a1, a2, a3, a4, a5, a6, hR_mono hf hl hc hs a7, a8⟩) hP hK
  refine ⟨n, o, h1, h2, h3, ?_⟩
  rcases h4 with ⟨q, L, ⟨f1, f2, f3⟩, hL⟩ | ⟨q, ho, E, ce, L, b1, b2, b3, b4, b5, b6, b7⟩
  · exact Or.inl ⟨hQ _ _ _ _ q, L, ⟨f1, f2, f3.mono hmc hms⟩, hL⟩
  · exact Or.inr ⟨q, ho, E, ce, L, hX _ _ _ b1, b2, b3, b4, b5, b6.mono hmc hms, b7⟩
/-- two pieces of a world -/
def un (X Y : MU) : MU := fun b => match X b with | some e => some e | none => Y b
def dis (X Y : MU) : Prop := ∀ b, X b = none ∨ Y b = none
def cutA (A : Nat → Prop) (Y : MU) : Nat → Prop := fun q => A q ∧ Y q = none
theorem un_l {X Y : MU} {b : Nat} {e : va_E} (h : X b = some e) : un X Y b = some e := by
  unfold un
  rw [h]
theorem un_n {X Y : MU} {b : Nat} (h : X b = none) : un X Y b = Y b := by
  unfold un
  rw [h]
theorem dis_l {X Y : MU} (hd : dis X Y) {b : Nat} {e : va_E} (h : X b = some e) : Y b = none := (hd b).resolve_left (fun q => by rw [h] at q; cases q)
theorem dis_r {X Y : MU} (hd : dis X Y) {b : Nat} {e : va_E} (h : Y b = some e) : X b = none := (hd b).resolve_right (fun q => by rw [h] at q; cases q)
theorem un_r {X Y : MU} (hd : dis X Y) {b : Nat} {e : va_E} (h : Y b = some e) : un X Y b = some e := (un_n (dis_r hd h)).trans h
theorem dis.symm {X Y : MU} (hd : dis X Y) : dis Y X := fun b => (hd b).symm
theorem un_comm {X Y : MU} (hd : dis X Y) : un X Y = un Y X := funext (fun b => by
  cases hx : X b with
  | some e => rw [un_l hx, un_n (dis_l hd hx), hx]
  | none =>
    rw [un_n hx]
    cases hy : Y b with
    | some e => rw [un_l hy]
    | none => rw [un_n hy, hx])
theorem un_assoc {X Y Z : MU} : un (un X Y) Z = un X (un Y Z) := funext (fun b => by
  cases hx : X b with
  | some e => rw [un_l hx, un_l (un_l hx)]
  | none =>
    rw [un_n hx]
    cases hy : Y b with
    | some e => rw [un_l ((un_n hx).trans hy), un_l hy]
    | none => rw [un_n ((un_n hx).trans hy), un_n hy])
theorem un_0 {X : MU} : un X (fun _ => none) = X := funext (fun b => by
  cases hx : X b with
  | some e => rw [un_l hx]
  | none => rw [un_n hx])
theorem dis_un {X Y Z : MU} (h1 : dis X Z) (h2 : dis Y Z) : dis (un X Y) Z := fun b => by
  rcases h1 b with h | h
  · rcases h2 b with h9 | h9
    · exact Or.inl ((un_n h).trans h9)
    · exact Or.inr h9
  · exact Or.inr h
theorem dis_un_l {X Y Z : MU} (h : dis (un X Y) Z) : dis X Z := fun b => by
  rcases h b with h | h
  · cases hx : X b with
    | some e => rw [un_l hx] at h; cases h
    | none => exact Or.inl rfl
  · exact Or.inr h
theorem dis_un_r {X Y Z : MU} (hd : dis X Y) (h : dis (un X Y) Z) : dis Y Z := dis_un_l (un_comm hd ▸ h)
theorem E9.narrow {cy : Nat → ClassId} {A B : Nat → Prop} {U : State} (h : E9 cy A U) (hAB : ∀ q, B q → A q) : E9 cy B U := ⟨h.1, ⟨h.2.1.1.narrow hAB, h.2.1.2.1.narrow hAB, h.2.1.2.2.1.narrow hAB, h.2.1.2.2.2.narrow hAB⟩, h.2.2⟩
section UN
variable {p : Program} {l : Launch} {e : Env} {R : Room} {s : State} {m : MethodId} {args : Array Value} {below : List Frame} {meth : Method} {c : Code} {H : Heap} {locs : List Loc} {cells slots : Nat} {Q : State → Prop}
variable {cc : ByteArray} {nL pc : Nat} {ls : Array Slot} {rest st0 : List Value} {D : va_G} {cy : Nat → ClassId} {A : Nat → Prop} {X Y : MU} {own : String}
theorem WW.cut (w : WW D cy A (un X Y) s H locs) (hd : dis X Y) {U : State} (hU : U.heap = H) (hv : s.WarmedH U.vm) : Wd D cy (cutA A Y) X U := by
  obtain ⟨h1, h2, h3, h4⟩ := w.at hU hv
  refine ⟨fun b e hb => ⟨(h1 b e (un_l hb)).1, (h1 b e (un_l hb)).2, dis_l hd hb⟩, h2, fun q hq => ⟨h3 q hq, ?_⟩, h4.narrow (fun q h => h.1)⟩
  cases hy : Y q with
  | none => rfl
  | some e =>
    have := h1.lt (un_r hd hy)
    omega
theorem WW.join {X1 : MU} {t : State} {H1 : Heap} {locs1 : List Loc} (w : WW D cy A (un X Y) s H locs) (hd : dis X Y) (h1 : HP D (cutA A Y) X1 t.heap) (ht : t.heap = H1) (hk : ∀ q : Nat, q < H.size → ¬ cutA A Y q → H1[q]? = H[q]?) (hS : va_S A s.heap H1 locs1) : WW D cy A (un X1 Y) s H1 locs1 ∧ dis X1 Y := by
  have hd1 : dis X1 Y := fun b => by
    cases hx : X1 b with
    | none => exact Or.inl rfl
    | some e => exact Or.inr (h1 b e hx).2.2
  refine ⟨⟨fun b e hb => ?_, w.2.1, w.2.2.1, hS, w.2.2.2.2⟩, hd1⟩
  cases hx : X1 b with
  | some e1 =>
    rw [un_l hx] at hb
    cases hb
    exact ⟨by rw [← ht]; exact (h1 b _ hx).1, (h1 b _ hx).2.1⟩
  | none =>
    rw [un_n hx] at hb
    have h9 := w.1 b e (un_r hd hb)
    exact ⟨h9.1.kept (hk b (w.1.lt (un_r hd hb)) (fun q => by have q2 := q.2; rw [hb] at q2; cases q2)), h9.2⟩
theorem vx_Run.ff {mc ms : Nat} {g : JFrame} {Qa : State → Outcome → State → Prop} {XC : String → State → State → Prop} {free : Addr → Prop} (h : vx_Run p l e R s m args below meth c H locs cells slots mc ms g rest (fun _ _ _ => False) XC free) : vx_Run p l e R s m args below meth c H locs cells slots mc ms g rest Qa XC free := fun T hT Xs => by
  rcases h T hT Xs with ⟨v, st₀, t, T', L, h0, X', hL, e1, e2, hq, st⟩ | h9
  · exact hq.elim
  · exact Or.inr h9
/-- a call of the bureau from a method that catches -/
theorem q_uVx (F : CallFix p m c cc nL s args BIG own) (w : WW D cy A (un X Y) s H locs) (hd : dis X Y) {y : MethodName} {b : ByteArray} {n k idx mc ms : Nat} {r : Option FieldType} {rm : Room} {o ci : Nat} {fs As : List Value} {q : vw_C} {post : Int32 → MU → Prop} {E0 : String} (hg : GoodIn BIG (wsV own idx q.1 y (WS y b n r))) (hd9 : y.cls = q.1 ∧ y.cls ≠ "java/lang/invoke/MethodHandle" ∧ y.cls ≠ "java/lang/invoke/VarHandle" ∧ (parseMethodDescriptor y.desc).map (fun d => d.parameters.length) = some k) (hc : vwCl[ci]? = some q)
    (hM : vx_Met l y (WS y b n r) rm (va_Pc (.ref o :: As) (Wd D cy (cutA A Y) X)) (va_Qi post (fun μ1 t => Wd D cy (cutA A Y) μ1 t) (cutA A Y)) (XC9 D (cutA A Y) X E0) mc ms (cutA A Y)) (ho : X o = some (.inr (ci, fs))) (hdg : decode cc pc = .ok (.invokevirtual idx, 3)) (hn : As.length = k) (hst : st0 = As.reverse ++ .ref o :: rest) (hsz : ls.size = nL) (hR : rm.cells = mc ∧ rm.slots = ms ∧ rm.frames + 1 ≤ R.frames ∧ 8 + (n + 11) + rm.locals ≤ R.locals) (hroom : (rest.map fun v => v.category).sum ≤ 8)
    (hf : cells + mc ≤ R.cells ∧ slots + ms ≤ R.slots)
    (kx : ∀ (E : String) (ce : Cell) (q9 : Addr) (H1 : Heap) (locs1 : List Loc), E = E0 → E0 ≠ "" → WW D cy A (un X Y) s H1 locs1 → H1[q9]? = some ce → ce.vm = .none → s.vm.findClass E = some ce.cls → vx_W p l e R s m args below meth c H1 locs1 (cells + mc) (slots + ms) Q (F0 m pc ls rest) q9)
    (kk : ∀ (v : Int32) (X1 : MU) (H1 : Heap) (locs1 : List Loc), post v X1 → dis X1 Y → WW D cy A (un X1 Y) s H1 locs1 → W p l e R s m args below meth c H1 locs1 (cells + mc) (slots + ms) Q (F0 m (pc + 3) ls (.int v :: rest))) : W p l e R s m args below meth c H locs cells slots Q (F0 m pc ls st0) :=
  vx_calli (vx_runV (As := As) (rest := rest) F hM (cwV k F.2.2.2.2 hg rfl hR.1 hR.2.1 hd9 ⟨hR.2.2.1, hR.2.2.2⟩) ⟨Wd.blind, w.recv (un_l ho) hc, fun U hU hW => ⟨rfl, w.cut hd hU hW⟩⟩ rfl hn hsz hst (lv_room hroom) hdg hf) w.2.2.2.1 (fun q _ h => h.1) (fun q h => h.1) (fun q _ h => h.1)
    (fun E ce q9 u t H1 locs1 ht hvm hp hB hz hk hS hce hcv hcl => by
      obtain ⟨hE, hne, hh⟩ := hB
      subst hp
      exact kx E ce q9 H1 locs1 hE hne (w.join hd hh ht hk hS).1 hce hcv hcl)
    (fun v u t H1 locs1 ht hvm hp hB hz hk hS => kk v u H1 locs1 hp (w.join hd hB.1 ht hk hS).2 (w.join hd hB.1 ht hk hS).1)
theorem q_uVxv (F : CallFix p m c cc nL s args BIG own) (w : WW D cy A (un X Y) s H locs) (hd : dis X Y) {y : MethodName} {b : ByteArray} {n k idx mc ms : Nat} {r : Option FieldType} {rm : Room} {o ci : Nat} {fs As : List Value} {q : vw_C} {post : MU → Prop} {E0 : String} (hg : GoodIn BIG (wsV own idx q.1 y (WS y b n r))) (hd9 : y.cls = q.1 ∧ y.cls ≠ "java/lang/invoke/MethodHandle" ∧ y.cls ≠ "java/lang/invoke/VarHandle" ∧ (parseMethodDescriptor y.desc).map (fun d => d.parameters.length) = some k) (hc : vwCl[ci]? = some q)
    (hM : vx_Met l y (WS y b n r) rm (va_Pc (.ref o :: As) (Wd D cy (cutA A Y) X)) (va_Qv post (fun μ1 t => Wd D cy (cutA A Y) μ1 t) (cutA A Y)) (XC9 D (cutA A Y) X E0) mc ms (cutA A Y)) (ho : X o = some (.inr (ci, fs))) (hdg : decode cc pc = .ok (.invokevirtual idx, 3)) (hn : As.length = k) (hst : st0 = As.reverse ++ .ref o :: rest) (hsz : ls.size = nL) (hR : rm.cells = mc ∧ rm.slots = ms ∧ rm.frames + 1 ≤ R.frames ∧ 8 + (n + 11) + rm.locals ≤ R.locals) (hroom : (rest.map fun v => v.category).sum ≤ 8)
    (hf : cells + mc ≤ R.cells ∧ slots + ms ≤ R.slots)
    (kx : ∀ (E : String) (ce : Cell) (q9 : Addr) (H1 : Heap) (locs1 : List Loc), E = E0 → E0 ≠ "" → WW D cy A (un X Y) s H1 locs1 → H1[q9]? = some ce → ce.vm = .none → s.vm.findClass E = some ce.cls → vx_W p l e R s m args below meth c H1 locs1 (cells + mc) (slots + ms) Q (F0 m pc ls rest) q9)
    (kk : ∀ (X1 : MU) (H1 : Heap) (locs1 : List Loc), post X1 → dis X1 Y → WW D cy A (un X1 Y) s H1 locs1 → W p l e R s m args below meth c H1 locs1 (cells + mc) (slots + ms) Q (F0 m (pc + 3) ls rest)) : W p l e R s m args below meth c H locs cells slots Q (F0 m pc ls st0) :=
  vx_callv (vx_runV (As := As) (rest := rest) F hM (cwV k F.2.2.2.2 hg rfl hR.1 hR.2.1 hd9 ⟨hR.2.2.1, hR.2.2.2⟩) ⟨Wd.blind, w.recv (un_l ho) hc, fun U hU hW => ⟨rfl, w.cut hd hU hW⟩⟩ rfl hn hsz hst (lv_room hroom) hdg hf) w.2.2.2.1 (fun q _ h => h.1) (fun q h => h.1) (fun q _ h => h.1)
    (fun E ce q9 u t H1 locs1 ht hvm hp hB hz hk hS hce hcv hcl => by
      obtain ⟨hE, hne, hh⟩ := hB
      subst hp
      exact kx E ce q9 H1 locs1 hE hne (w.join hd hh ht hk hS).1 hce hcv hcl)
    (fun u t H1 locs1 ht hvm hp hB hz hk hS => kk u H1 locs1 hp (w.join hd hB.1 ht hk hS).2 (w.join hd hB.1 ht hk hS).1)
/-- calls over a piece of the world -/
theorem q_uVi (F : CallFix p m c cc nL s args BIG own) (w : WW D cy A (un X Y) s H locs) (hd : dis X Y) {y : MethodName} {b : ByteArray} {n k idx mc ms : Nat} {r : Option FieldType} {rm : Room} {o ci : Nat} {fs As : List Value} {q : vw_C} {post : Int32 → MU → Prop} (hg : GoodIn BIG (wsV own idx q.1 y (WS y b n r))) (hd9 : y.cls = q.1 ∧ y.cls ≠ "java/lang/invoke/MethodHandle" ∧ y.cls ≠ "java/lang/invoke/VarHandle" ∧ (parseMethodDescriptor y.desc).map (fun d => d.parameters.length) = some k) (hc : vwCl[ci]? = some q)
    (hM : Met l y (WS y b n r) rm (va_Pc (.ref o :: As) (Wd D cy (cutA A Y) X)) (va_Qi post (fun μ1 t => Wd D cy (cutA A Y) μ1 t) (cutA A Y)) mc ms (cutA A Y)) (ho : X o = some (.inr (ci, fs))) (hdg : decode cc pc = .ok (.invokevirtual idx, 3)) (hn : As.length = k) (hst : st0 = As.reverse ++ .ref o :: rest) (hsz : ls.size = nL) (hR : rm.cells = mc ∧ rm.slots = ms ∧ rm.frames + 1 ≤ R.frames ∧ 8 + (n + 11) + rm.locals ≤ R.locals) (hroom : (rest.map fun v => v.category).sum ≤ 8)
    (hf : cells + mc ≤ R.cells ∧ slots + ms ≤ R.slots)
    (kk : ∀ (v : Int32) (X1 : MU) (H1 : Heap) (locs1 : List Loc), post v X1 → dis X1 Y → WW D cy A (un X1 Y) s H1 locs1 → W p l e R s m args below meth c H1 locs1 (cells + mc) (slots + ms) Q (F0 m (pc + 3) ls (.int v :: rest))) : W p l e R s m args below meth c H locs cells slots Q (F0 m pc ls st0) :=
  va_calli (va_runV (As := As) (rest := rest) F hM (cwV k F.2.2.2.2 hg rfl hR.1 hR.2.1 hd9 ⟨hR.2.2.1, hR.2.2.2⟩) ⟨Wd.blind, w.recv (un_l ho) hc, fun U hU hW => ⟨rfl, w.cut hd hU hW⟩⟩ rfl hn hsz hst (lv_room hroom) hdg hf) w.2.2.2.1 (fun q _ h => h.1) (fun q h => h.1) (fun v u t H1 locs1 ht hvm hp hB hz hk hS => kk v u H1 locs1 hp (w.join hd hB.1 ht hk hS).2 (w.join hd hB.1 ht hk hS).1)
theorem q_uVv (F : CallFix p m c cc nL s args BIG own) (w : WW D cy A (un X Y) s H locs) (hd : dis X Y) {y : MethodName} {b : ByteArray} {n k idx mc ms : Nat} {r : Option FieldType} {rm : Room} {o ci : Nat} {fs As : List Value} {q : vw_C} {post : MU → Prop} (hg : GoodIn BIG (wsV own idx q.1 y (WS y b n r))) (hd9 : y.cls = q.1 ∧ y.cls ≠ "java/lang/invoke/MethodHandle" ∧ y.cls ≠ "java/lang/invoke/VarHandle" ∧ (parseMethodDescriptor y.desc).map (fun d => d.parameters.length) = some k) (hc : vwCl[ci]? = some q)
    (hM : Met l y (WS y b n r) rm (va_Pc (.ref o :: As) (Wd D cy (cutA A Y) X)) (va_Qv post (fun μ1 t => Wd D cy (cutA A Y) μ1 t) (cutA A Y)) mc ms (cutA A Y)) (ho : X o = some (.inr (ci, fs))) (hdg : decode cc pc = .ok (.invokevirtual idx, 3)) (hn : As.length = k) (hst : st0 = As.reverse ++ .ref o :: rest) (hsz : ls.size = nL) (hR : rm.cells = mc ∧ rm.slots = ms ∧ rm.frames + 1 ≤ R.frames ∧ 8 + (n + 11) + rm.locals ≤ R.locals) (hroom : (rest.map fun v => v.category).sum ≤ 8)
    (hf : cells + mc ≤ R.cells ∧ slots + ms ≤ R.slots)
    (kk : ∀ (X1 : MU) (H1 : Heap) (locs1 : List Loc), post X1 → dis X1 Y → WW D cy A (un X1 Y) s H1 locs1 → W p l e R s m args below meth c H1 locs1 (cells + mc) (slots + ms) Q (F0 m (pc + 3) ls rest)) : W p l e R s m args below meth c H locs cells slots Q (F0 m pc ls st0) :=
  va_callv (va_runV (As := As) (rest := rest) F hM (cwV k F.2.2.2.2 hg rfl hR.1 hR.2.1 hd9 ⟨hR.2.2.1, hR.2.2.2⟩) ⟨Wd.blind, w.recv (un_l ho) hc, fun U hU hW => ⟨rfl, w.cut hd hU hW⟩⟩ rfl hn hsz hst (lv_room hroom) hdg hf) w.2.2.2.1 (fun q _ h => h.1) (fun q h => h.1) (fun u t H1 locs1 ht hvm hp hB hz hk hS => kk u H1 locs1 hp (w.join hd hB.1 ht hk hS).2 (w.join hd hB.1 ht hk hS).1)
theorem q_uI (F : CallFix p m c cc nL s args BIG own) (w : WW D cy A (un X Y) s H locs) (hd : dis X Y) {y : MethodName} {b : ByteArray} {n k idx mc ms : Nat} {rm : Room} {o : Nat} {As : List Value} {post : MU → Prop} (hg : GoodIn BIG (WS y b n none)) (hl : Cond.methodLink own idx y ∈ BIG) (hi : Cond.instanceMethod y ∈ BIG) (hini : Cond.initialized y.cls ∈ BIG) (hy1 : y.name = "<init>") (hd9 : y.cls ≠ "java/lang/invoke/MethodHandle" ∧ y.cls ≠ "java/lang/invoke/VarHandle" ∧ (parseMethodDescriptor y.desc).map (fun d => d.parameters.length) = some k)
    (hM : Met l y (WS y b n none) rm (va_Pc (.ref o :: As) (Wd D cy (cutA A Y) X)) (va_Qv post (fun μ1 t => Wd D cy (cutA A Y) μ1 t) (cutA A Y)) mc ms (cutA A Y)) (hdg : decode cc pc = .ok (.invokespecial idx, 3)) (hn : As.length = k) (hst : st0 = As.reverse ++ .ref o :: rest) (hsz : ls.size = nL) (hR : rm.cells = mc ∧ rm.slots = ms ∧ rm.frames + 1 ≤ R.frames ∧ 8 + (n + 11) + rm.locals ≤ R.locals) (hroom : (rest.map fun v => v.category).sum ≤ 8)
    (hf : cells + mc ≤ R.cells ∧ slots + ms ≤ R.slots) (kk : ∀ (X1 : MU) (H1 : Heap) (locs1 : List Loc), post X1 → dis X1 Y → WW D cy A (un X1 Y) s H1 locs1 → W p l e R s m args below meth c H1 locs1 (cells + mc) (slots + ms) Q (F0 m (pc + 3) ls rest)) : W p l e R s m args below meth c H locs cells slots Q (F0 m pc ls st0) :=
  va_callv (va_runI (As := As) (rest := rest) F hM (cwI k F.2.2.2.2 hg rfl hR.1 hR.2.1 (F.2.2.2.2 _ hini) (F.2.2.2.2 _ hl) (F.2.2.2.2 _ hi) hy1 hd9 ⟨hR.2.2.1, hR.2.2.2⟩) ⟨Wd.blind, fun U hU hW => ⟨rfl, w.cut hd hU hW⟩⟩ rfl hn hsz hst (lv_room hroom) hdg hf) w.2.2.2.1 (fun q _ h => h.1) (fun q h => h.1) (fun u t H1 locs1 ht hvm hp hB hz hk hS => kk u H1 locs1 hp (w.join hd hB.1 ht hk hS).2 (w.join hd hB.1 ht hk hS).1)
abbrev WSh (y : MethodName) (b : ByteArray) (n : Nat) (r : Option FieldType) (hh : List (Nat × Nat × Nat × Nat)) : List Cond := .codeWith y b n r hh :: BIG
theorem gBh {y : MethodName} {b : ByteArray} {n : Nat} {r : Option FieldType} {hh : List (Nat × Nat × Nat × Nat)} (h : Cond.codeWith y b n r hh ∈ BIG) : GoodIn BIG (WSh y b n r hh) := gC h (fun w hw => ⟨hw, good_of_word (BIG_good _ hw)⟩)
theorem gSh {own : String} {idx : Nat} {y : MethodName} {b : ByteArray} {n : Nat} {r : Option FieldType} {hh : List (Nat × Nat × Nat × Nat)} (h1 : Cond.methodLink own idx y ∈ BIG) (h2 : Cond.static y ∈ BIG) (h4 : Cond.initialized y.cls ∈ BIG) (h5 : Cond.codeWith y b n r hh ∈ BIG) : GoodIn BIG (va_wsS own idx y (WSh y b n r hh)) := gC h1 (gC h2 (gC h4 (gBh h5)))
theorem q_uSi (F : CallFix p m c cc nL s args BIG own) (w : WW D cy A (un X Y) s H locs) (hd : dis X Y) {y : MethodName} {b : ByteArray} {n k idx mc ms : Nat} {r : Option FieldType} {hh : List (Nat × Nat × Nat × Nat)} {rm : Room} {As : List Value} {post : Int32 → MU → Prop} (hg : GoodIn BIG (va_wsS own idx y (WSh y b n r hh))) (hd9 : y.cls ≠ "java/lang/invoke/MethodHandle" ∧ y.cls ≠ "java/lang/invoke/VarHandle" ∧ (parseMethodDescriptor y.desc).map (fun d => d.parameters.length) = some k)
    (hM : Met l y (WSh y b n r hh) rm (va_Pc As (Wd D cy (cutA A Y) X)) (va_Qi post (fun μ1 t => Wd D cy (cutA A Y) μ1 t) (cutA A Y)) mc ms (cutA A Y)) (hdg : decode cc pc = .ok (.invokestatic idx, 3)) (hn : As.length = k) (hst : st0 = As.reverse ++ rest) (hsz : ls.size = nL) (hR : rm.cells = mc ∧ rm.slots = ms ∧ rm.frames + 1 ≤ R.frames ∧ 8 + (n + 11) + rm.locals ≤ R.locals) (hroom : (rest.map fun v => v.category).sum ≤ 8)
    (hf : cells + mc ≤ R.cells ∧ slots + ms ≤ R.slots)
    (kk : ∀ (v : Int32) (X1 : MU) (H1 : Heap) (locs1 : List Loc), post v X1 → dis X1 Y → WW D cy A (un X1 Y) s H1 locs1 → W p l e R s m args below meth c H1 locs1 (cells + mc) (slots + ms) Q (F0 m (pc + 3) ls (.int v :: rest))) : W p l e R s m args below meth c H locs cells slots Q (F0 m pc ls st0) :=
  va_calli (vx_runSW (As := As) (rest := rest) F hM (vx_cwSW k F.2.2.2.2 hg rfl hR.1 hR.2.1 hd9 ⟨hR.2.2.1, hR.2.2.2⟩) ⟨Wd.blind, fun U hU hW => ⟨rfl, w.cut hd hU hW⟩⟩ rfl hn hsz hst (lv_room hroom) hdg hf) w.2.2.2.1 (fun q _ h => h.1) (fun q h => h.1) (fun v u t H1 locs1 ht hvm hp hB hz hk hS => kk v u H1 locs1 hp (w.join hd hB.1 ht hk hS).2 (w.join hd hB.1 ht hk hS).1)
end UN
/-- the start of a contract of a method with an exception table that lets nothing out -/
theorem q_metW {l : Launch} {y : MethodName} {b : ByteArray} {n : Nat} {r : Option FieldType} {hh : List (Nat × Nat × Nat × Nat)} {rm : Room} {D : va_G} {cy : Nat → ClassId} {A : Nat → Prop} {μ : MU} {av : List Value} {Qc : Array Value → State → Outcome → State → Prop} {mc ms : Nat} {free : Addr → Prop} (hy : plainName y.cls = true) (hn : (lg_sl av).length ≤ n)
    (body : ∀ p e s m below meth c, CallFix p m c b n s av.toArray BIG y.cls → WW D cy A μ s s.heap [] → meth.sig.returnType = r → meth.locks = false → c.exceptionTable.toList = tableOf hh → ∀ ls : Array Slot, lv_has ls n (lv_args 0 av) → W p l e rm s m av.toArray below meth c s.heap [] 0 0 (MQ below Qc av.toArray s mc ms free) (F0 m 0 ls [])) : Met l y (WSh y b n r hh) rm (va_Pc av (Wd D cy A μ)) Qc mc ms free := by
  refine MetFree.of_bodyS (code := b) (maxLocals := n) (ret := r) hy ?_ ?_
  · intro args s m h hn
    obtain ⟨m9, meth, c, hn9, h1, h2, h3, h4, -, h5, h6, -⟩ := Cond.codeWith_spec (atoms_spec (ws := WSh y b n r hh) h _ List.mem_cons_self)
    cases hn.symm.trans hn9
    exact ⟨meth, c, h1, h2, h3, h4, h5, h6⟩
  · intro p e s m args below meth c s₁ B hml hP _
    have hh0 : s₁.heap = s.heap := by rw [B.state]; rfl
    obtain ⟨rfl, hw⟩ := hP
    have hts := atoms_spec (ws := WSh y b n r hh) B.pre
    have hl := lv_entry av (n := n) hn
    have hb := body p e s m below meth c ⟨B.exec, B.bytes, hml, findClass_of_methodNamed B.named, fun w h => hts w (List.mem_cons_of_mem _ h)⟩ hw.start B.returns B.notSynchronized (vx_table (x := y) B (hts _ List.mem_cons_self)) _ hl
    rw [← lg_entry_eq] at hb
    obtain ⟨t, a1, o, b1, b2, b3⟩ := hb s₁ hh0 (Stand.of_body B)
    exact ⟨t, o, a1, b1, b2, ⟨b3.1, b3.2⟩⟩
/-- the law's row of one number -/
def oneO (cy : Nat → ClassId) (o : Nat) (f : Nat → Int64) : MU := fun b => if b = o then some (.inl (cy 4, 1, .inr (.inl f))) else none
theorem oneO_at {cy : Nat → ClassId} {o : Nat} {f : Nat → Int64} : oneO cy o f o = some (.inl (cy 4, 1, .inr (.inl f))) := if_pos rfl
theorem dis_oneO {cy : Nat → ClassId} {o : Nat} {f f1 : Nat → Int64} {X : MU} (h : dis X (oneO cy o f)) : dis X (oneO cy o f1) := fun b => by
  rcases h b with h | h
  · exact Or.inl h
  · refine Or.inr ?_
    unfold oneO at h ⊢
    split at h
    · cases h
    · rename_i hb
      exact if_neg hb
theorem mset_oneO {cy : Nat → ClassId} {o : Nat} {f f1 : Nat → Int64} {X : MU} (h : dis X (oneO cy o f)) : mset (un X (oneO cy o f)) o (.inl (cy 4, 1, .inr (.inl f1))) = un X (oneO cy o f1) := funext (fun b => by
  by_cases e : b = o
  · rw [e, mset_eq, un_n (dis_r h oneO_at), oneO_at]
  · rw [mset_ne e]
    cases hx : X b with
    | some e9 => rw [un_l hx, un_l hx]
    | none =>
      rw [un_n hx, un_n hx]
      unfold oneO
      rw [if_neg e, if_neg e])
def PW (cy : Nat → ClassId) (o : Nat) (AD : AM) (G1 : GS) (z : Prop) (v : Int64) (μ1 : MU) : Prop := ∃ (X1 : MU) (AD1 : AM) (f1 : Nat → Int64), μ1 = un X1 (oneO cy o f1) ∧ dis X1 (oneO cy o f1) ∧ AD1 0 = AD 0 ∧ RepC cy AD1 G1 X1 ∧ (z → f1 0 = v)
section UO
variable {p : Program} {l : Launch} {e : Env} {R : Room} {s : State} {m : MethodId} {args : Array Value} {below : List Frame} {meth : Method} {c : Code} {H : Heap} {locs : List Loc} {cells slots : Nat} {Q : State → Prop}
variable {cc : ByteArray} {nL pc : Nat} {ls : Array Slot} {rest st0 : List Value} {D : va_G} {cy : Nat → ClassId} {A : Nat → Prop} {X Y : MU} {own : String}
theorem q_lsto (F : CallFix p m c cc nL s args BIG own) {o : Nat} {f : Nat → Int64} (w : WW D cy A (un X (oneO cy o f)) s H locs) (hd : dis X (oneO cy o f)) {x : Int64} (hdg : decode cc pc = .ok (.lastore, 1))
    (kk : ∀ (f1 : Nat → Int64) (H1 : Heap) (locs1 : List Loc), f1 0 = x → dis X (oneO cy o f1) → WW D cy A (un X (oneO cy o f1)) s H1 locs1 → W p l e R s m args below meth c H1 locs1 cells slots Q (F0 m (pc + 1) ls rest)) : W p l e R s m args below meth c H locs cells slots Q (F0 m pc ls (.long x :: .int 0 :: .ref o :: rest)) :=
  q_last F w (un_r hd oneO_at) (i := 0) (vp_in_nI (n := 0) (N := 1) (by decide) (by decide)) hdg (fun H1 locs1 w1 => by
    rw [mset_oneO hd] at w1
    exact kk _ H1 locs1 (if_pos rfl) (dis_oneO hd) w1)
end UO
