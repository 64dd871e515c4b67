theorem mset_un {X Y : MU} {a : Nat} {e : va_E} (h : X a = none) : mset (un X Y) a e = un X (mset Y a e) := funext (fun b => by
  by_cases c : b = a
  · rw [c, mset_eq, un_n h, mset_eq]
  · rw [mset_ne c]
    cases hx : X b with
    | some e9 => rw [un_l hx, un_l hx]
    | none => rw [un_n hx, un_n hx, mset_ne c])
theorem dis_mset {X Y : MU} {a : Nat} {e : va_E} (hd : dis X Y) (h : X a = none) : dis X (mset Y a e) := fun b => by
  by_cases c : b = a
  · rw [c]; exact Or.inl h
  · rw [mset_ne c]; exact hd b
theorem RepL.un {cy : Nat → ClassId} {ad : Nat → Nat} {S : GS} {Wf : Nat → Int64} {X Y : MU} (h : RepL cy ad S Wf Y) (hd : dis X Y) : RepL cy ad S Wf (un X Y) := ⟨fun k hk => un_r hd (h.1 k hk), un_r hd h.2.1, h.2.2⟩
theorem RepL.st {cy : Nat → ClassId} {ad : Nat → Nat} {S : GS} {Wf : Nat → Int64} {Y : MU} (h : RepL cy ad S Wf Y) {k r : Nat} {x : Int32} (hk : lK k = true) : RepL cy ad (up2 S k r x) Wf (mset Y (ad k) (.inl (cy 0, lLen k, .inl (upd (S k) r x)))) := by
  refine ⟨fun j hj => ?_, ?_, h.2.2⟩
  · by_cases c : j = k
    · rw [c, mset_eq, up2_eq]
    · rw [mset_ne (fun e => c (h.2.2 j k (Or.inl hj) (Or.inl hk) e)), up2_ne c]
      exact h.1 j hj
  · rw [mset_ne (fun e => by have := h.2.2 9 k (Or.inr rfl) (Or.inl hk) e; subst this; revert hk; decide)]
    exact h.2.1
theorem RepL.stL {cy : Nat → ClassId} {ad : Nat → Nat} {S : GS} {Wf : Nat → Int64} {Y : MU} (h : RepL cy ad S Wf Y) {f : Nat → Int64} : RepL cy ad S f (mset Y (ad 9) (.inl (cy 4, 50, .inr (.inl f)))) := by
  refine ⟨fun j hj => ?_, mset_eq _ _ _, h.2.2⟩
  rw [mset_ne (fun e => by have := h.2.2 j 9 (Or.inl hj) (Or.inr rfl) e; subst this; revert hj; decide)]
  exact h.1 j hj
section LW
variable {p : Program} {l : Launch} {e : Env} {R : Room} {s : State} {m : MethodId} {args : Array Value} {below : List Frame} {meth : Method} {c : Code} {H : Heap} {locs : List Loc} {cells slots : Nat} {Q : State → Prop}
variable {cc : ByteArray} {nL pc : Nat} {ls : Array Slot} {rest st0 : List Value} {D : va_G} {cy : Nat → ClassId} {A : Nat → Prop} {X Y : MU} {own : String} {ad : Nat → Nat} {S : GS} {Wf : Nat → Int64}
theorem l_ist (F : CallFix p m c cc nL s args BIG own) (w : WW D cy A (un X Y) s H locs) (hd : dis X Y) (hY : RepL cy ad S Wf Y) (k : Nat) (hk : lK k = true) (r : Nat) (hr : r < lLen k) {x : Int32} (hdg : decode cc pc = .ok (.iastore, 1))
    (kk : ∀ (H1 : Heap) (locs1 : List Loc) (Y1 : MU), dis X Y1 → RepL cy ad (up2 S k r x) Wf Y1 → WW D cy A (un X Y1) s H1 locs1 → W p l e R s m args below meth c H1 locs1 cells slots Q (F0 m (pc + 1) ls rest)) : W p l e R s m args below meth c H locs cells slots Q (F0 m pc ls (.int x :: .int (nI r) :: .ref (ad k) :: rest)) :=
  q_iast F w ((hY.un hd).1 k hk) (vp_in_nI hr (lLen_lt k)) hdg (fun H1 locs1 w1 => by
    have h0 := dis_r hd (hY.1 k hk)
    rw [nI_clamp (Nat.lt_trans hr (lLen_lt k)), mset_un h0] at w1
    exact kk H1 locs1 _ (dis_mset hd h0) (hY.st hk) w1)
theorem l_lst (F : CallFix p m c cc nL s args BIG own) (w : WW D cy A (un X Y) s H locs) (hd : dis X Y) (hY : RepL cy ad S Wf Y) (r : Nat) (hr : r < 50) {x : Int64} (hdg : decode cc pc = .ok (.lastore, 1))
    (kk : ∀ (H1 : Heap) (locs1 : List Loc) (Y1 : MU), dis X Y1 → RepL cy ad S (vp_updL Wf r x) Y1 → WW D cy A (un X Y1) s H1 locs1 → W p l e R s m args below meth c H1 locs1 cells slots Q (F0 m (pc + 1) ls rest)) : W p l e R s m args below meth c H locs cells slots Q (F0 m pc ls (.long x :: .int (nI r) :: .ref (ad 9) :: rest)) :=
  q_last F w ((hY.un hd).2.1) (vp_in_nI hr (by decide)) hdg (fun H1 locs1 w1 => by
    have h0 := dis_r hd hY.2.1
    rw [nI_clamp (by omega), mset_un h0] at w1
    exact kk H1 locs1 _ (dis_mset hd h0) hY.stL w1)
theorem q_mSi {μ : MU} (F : CallFix p m c cc nL s args BIG own) (w : WW D cy A μ s H locs) {y : MethodName} {b : ByteArray} {n k idx mc ms : Nat} {r : Option FieldType} {rm : Room} {As : List Value} {post : Int32 → MU → Prop} (hg : GoodIn BIG (va_wsS own idx y (WS y b n r))) (hd : y.cls ≠ "java/lang/invoke/MethodHandle" ∧ y.cls ≠ "java/lang/invoke/VarHandle" ∧ (parseMethodDescriptor y.desc).map (fun d => d.parameters.length) = some k)
    (hM : Met l y (WS y b n r) rm (va_Pc As (Wd D cy A μ)) (va_Qi post (fun μ1 t => Wd D cy A μ1 t) A) mc ms A) (hdg : decode cc pc = .ok (.invokestatic idx, 3)) (hn : As.length = k) (hst : st0 = As.reverse ++ rest) (hsz : ls.size = nL) (hR : rm.cells = mc ∧ rm.slots = ms ∧ rm.frames + 1 ≤ R.frames ∧ 8 + (n + 11) + rm.locals ≤ R.locals) (hroom : (rest.map fun v => v.category).sum ≤ 8)
    (hf : cells + mc ≤ R.cells ∧ slots + ms ≤ R.slots) (kk : ∀ (v : Int32) (μ1 : MU) (H1 : Heap) (locs1 : List Loc), post v μ1 → WW D cy A μ1 s H1 locs1 → W p l e R s m args below meth c H1 locs1 (cells + mc) (slots + ms) Q (F0 m (pc + 3) ls (.int v :: rest))) : W p l e R s m args below meth c H locs cells slots Q (F0 m pc ls st0) :=
  va_calli (va_runS (As := As) (rest := rest) F hM (va_cwS k F.2.2.2.2 hg rfl hR.1 hR.2.1 hd ⟨hR.2.2.1, hR.2.2.2⟩) ⟨Wd.blind, fun U hU hW => ⟨rfl, w.at hU hW⟩⟩ rfl hn hsz hst (lv_room hroom) hdg hf) w.2.2.2.1 (fun q _ h => h) (fun q h => h) (fun v u t H1 locs1 ht hvm hp hB hz hk hS => kk v u H1 locs1 hp (w.next hB ht hS))
theorem lw_pass {AD : AM} {G : GS} {o : Nat} (F : CallFix p m c cc nL s args BIG RL) (w : WW D cy A (un X Y) s H locs) (hd : dis X Y) (hM : RepC cy AD G X) (ho : AD 0 0 0 = o) (hI : InvC G) (x1 : Int32) (hlf : l.stackTraces = false) (hdg : decode cc pc = .ok (.invokestatic 202, 3)) (hsz : ls.size = nL) (hR : 8 ≤ R.frames ∧ 144 ≤ R.locals) (hroom : (rest.map fun v => v.category).sum ≤ 8) (hf : cells + 1 ≤ R.cells ∧ slots + 6 ≤ R.slots)
    (kk : ∀ (v : Int32) (X1 : MU) (AD1 : AM) (H1 : Heap) (locs1 : List Loc), v = A_pass G x1 → AD1 0 0 0 = o → dis X1 Y → RepC cy AD1 (H_pass G x1) X1 → WW D cy A (un X1 Y) s H1 locs1 → W p l e R s m args below meth c H1 locs1 (cells + 1) (slots + 6) Q (F0 m (pc + 3) ls (.int v :: rest))) : W p l e R s m args below meth c H locs cells slots Q (F0 m pc ls (.int x1 :: .ref o :: rest)) := by
  subst ho
  refine q_uSi (rest := rest) F w hd kW_pass hdW_pass (c_L_pass l D cy _ X AD G hM hI x1 hlf) hdg rfl rfl hsz ⟨rfl, rfl, hR.1, hR.2⟩ hroom hf (fun v X1 H1 locs1 hp hd1 w1 => ?_)
  obtain ⟨h1, AD1, h2, h3⟩ := hp
  exact kk v X1 AD1 H1 locs1 h1 (by rw [h2]) hd1 h3 w1
theorem lw_ship {AD : AM} {G : GS} {o : Nat} (F : CallFix p m c cc nL s args BIG RL) (w : WW D cy A (un X Y) s H locs) (hd : dis X Y) (hM : RepC cy AD G X) (ho : AD 0 0 0 = o) (hI : InvC G) (x1 x2 x3 x4 x5 : Int32) (hlf : l.stackTraces = false) (hdg : decode cc pc = .ok (.invokestatic 164, 3)) (hsz : ls.size = nL) (hR : 10 ≤ R.frames ∧ 278 ≤ R.locals) (hroom : (rest.map fun v => v.category).sum ≤ 8) (hf : cells + 8 ≤ R.cells ∧ slots + 3033 ≤ R.slots)
    (kk : ∀ (v : Int32) (X1 : MU) (AD1 : AM) (H1 : Heap) (locs1 : List Loc), v = A_ship G x1 x2 x3 x4 x5 → AD1 0 0 0 = o → dis X1 Y → RepC cy AD1 (H_ship G x1 x2 x3 x4 x5) X1 → WW D cy A (un X1 Y) s H1 locs1 → W p l e R s m args below meth c H1 locs1 (cells + 8) (slots + 3033) Q (F0 m (pc + 3) ls (.int v :: rest))) : W p l e R s m args below meth c H locs cells slots Q (F0 m pc ls (.int x5 :: .int x4 :: .int x3 :: .int x2 :: .int x1 :: .ref o :: rest)) := by
  subst ho
  refine q_uSi (rest := rest) F w hd kW_ship hdW_ship (c_L_ship l D cy _ X AD G hM hI x1 x2 x3 x4 x5 hlf) hdg rfl rfl hsz ⟨rfl, rfl, hR.1, hR.2⟩ hroom hf (fun v X1 H1 locs1 hp hd1 w1 => ?_)
  obtain ⟨h1, AD1, h2, h3⟩ := hp
  exact kk v X1 AD1 H1 locs1 h1 (by rw [h2]) hd1 h3 w1
theorem lw_changes {AD : AM} {G : GS} {o : Nat} (F : CallFix p m c cc nL s args BIG RL) (w : WW D cy A (un X Y) s H locs) (hd : dis X Y) (hM : RepC cy AD G X) (ho : AD 0 0 0 = o) (hI : InvC G) (x1 x2 x3 : Int32) (hn : ∀ s, s < gnS G → gnN G s < 514) (hlf : l.stackTraces = false) (hdg : decode cc pc = .ok (.invokestatic 169, 3)) (hsz : ls.size = nL) (hR : 10 ≤ R.frames ∧ 274 ≤ R.locals) (hroom : (rest.map fun v => v.category).sum ≤ 8) (hf : cells + 2 ≤ R.cells ∧ slots + 1004 ≤ R.slots)
    (kk : ∀ (v : Int32) (X1 : MU) (AD1 : AM) (H1 : Heap) (locs1 : List Loc), v = A_changes G x1 x2 x3 → AD1 0 0 0 = o → dis X1 Y → RepC cy AD1 (H_changes G x1 x2 x3) X1 → WW D cy A (un X1 Y) s H1 locs1 → W p l e R s m args below meth c H1 locs1 (cells + 2) (slots + 1004) Q (F0 m (pc + 3) ls (.int v :: rest))) : W p l e R s m args below meth c H locs cells slots Q (F0 m pc ls (.int x3 :: .int x2 :: .int x1 :: .ref o :: rest)) := by
  subst ho
  refine q_uSi (rest := rest) F w hd kW_changes hdW_changes (c_L_changes l D cy _ X AD G hM hI x1 x2 x3 hn hlf) hdg rfl rfl hsz ⟨rfl, rfl, hR.1, hR.2⟩ hroom hf (fun v X1 H1 locs1 hp hd1 w1 => ?_)
  obtain ⟨h1, AD1, h2, h3⟩ := hp
  exact kk v X1 AD1 H1 locs1 h1 (by rw [h2]) hd1 h3 w1
theorem lw_suspend {AD : AM} {G : GS} {o : Nat} (F : CallFix p m c cc nL s args BIG RL) (w : WW D cy A (un X Y) s H locs) (hd : dis X Y) (hM : RepC cy AD G X) (ho : AD 0 0 0 = o) (hI : InvC G) (x1 x2 : Int32) (hx2 : x2 = 0 ∨ x2 = 1) (hlf : l.stackTraces = false) (hdg : decode cc pc = .ok (.invokestatic 171, 3)) (hsz : ls.size = nL) (hR : 8 ≤ R.frames ∧ 147 ≤ R.locals) (hroom : (rest.map fun v => v.category).sum ≤ 8) (hf : cells + 1 ≤ R.cells ∧ slots + 6 ≤ R.slots)
    (kk : ∀ (v : Int32) (X1 : MU) (AD1 : AM) (H1 : Heap) (locs1 : List Loc), v = A_suspend G x1 x2 → AD1 0 0 0 = o → dis X1 Y → RepC cy AD1 (H_suspend G x1 x2) X1 → WW D cy A (un X1 Y) s H1 locs1 → W p l e R s m args below meth c H1 locs1 (cells + 1) (slots + 6) Q (F0 m (pc + 3) ls (.int v :: rest))) : W p l e R s m args below meth c H locs cells slots Q (F0 m pc ls (.int x2 :: .int x1 :: .ref o :: rest)) := by
  subst ho
  refine q_uSi (rest := rest) F w hd kW_suspend hdW_suspend (c_L_suspend l D cy _ X AD G hM hI x1 x2 hx2 hlf) hdg rfl rfl hsz ⟨rfl, rfl, hR.1, hR.2⟩ hroom hf (fun v X1 H1 locs1 hp hd1 w1 => ?_)
  obtain ⟨h1, AD1, h2, h3⟩ := hp
  exact kk v X1 AD1 H1 locs1 h1 (by rw [h2]) hd1 h3 w1
theorem lw_rule {AD : AM} {G : GS} {o : Nat} (F : CallFix p m c cc nL s args BIG RL) (w : WW D cy A (un X Y) s H locs) (hd : dis X Y) (hM : RepC cy AD G X) (ho : AD 0 0 0 = o) (hI : InvC G) (x1 x2 x3 x4 x5 : Int32) (hlf : l.stackTraces = false) (hdg : decode cc pc = .ok (.invokestatic 167, 3)) (hsz : ls.size = nL) (hR : 9 ≤ R.frames ∧ 253 ≤ R.locals) (hroom : (rest.map fun v => v.category).sum ≤ 8) (hf : cells + 2 ≤ R.cells ∧ slots + 1006 ≤ R.slots)
    (kk : ∀ (v : Int32) (X1 : MU) (AD1 : AM) (H1 : Heap) (locs1 : List Loc), v = A_rule G x1 x2 x3 x4 x5 → AD1 0 0 0 = o → dis X1 Y → RepC cy AD1 (H_rule G x1 x2 x3 x4 x5) X1 → WW D cy A (un X1 Y) s H1 locs1 → W p l e R s m args below meth c H1 locs1 (cells + 2) (slots + 1006) Q (F0 m (pc + 3) ls (.int v :: rest))) : W p l e R s m args below meth c H locs cells slots Q (F0 m pc ls (.int x5 :: .int x4 :: .int x3 :: .int x2 :: .int x1 :: .ref o :: rest)) := by
  subst ho
  refine q_uSi (rest := rest) F w hd kW_rule hdW_rule (c_L_rule l D cy _ X AD G hM hI x1 x2 x3 x4 x5 hlf) hdg rfl rfl hsz ⟨rfl, rfl, hR.1, hR.2⟩ hroom hf (fun v X1 H1 locs1 hp hd1 w1 => ?_)
  obtain ⟨h1, AD1, h2, h3⟩ := hp
  exact kk v X1 AD1 H1 locs1 h1 (by rw [h2]) hd1 h3 w1
theorem lw_issue {AD : AM} {G : GS} {o : Nat} (F : CallFix p m c cc nL s args BIG RL) (w : WW D cy A (un X Y) s H locs) (hd : dis X Y) (hM : RepC cy AD G X) (ho : AD 0 0 0 = o) (hI : InvC G) (x1 x2 x3 : Int32) (hlf : l.stackTraces = false) (hdg : decode cc pc = .ok (.invokestatic 175, 3)) (hsz : ls.size = nL) (hR : 9 ≤ R.frames ∧ 171 ≤ R.locals) (hroom : (rest.map fun v => v.category).sum ≤ 8) (hf : cells + 1 ≤ R.cells ∧ slots + 6 ≤ R.slots)
    (kk : ∀ (v : Int32) (X1 : MU) (AD1 : AM) (H1 : Heap) (locs1 : List Loc), v = A_issue G x1 x2 x3 → AD1 0 0 0 = o → dis X1 Y → RepC cy AD1 (H_issue G x1 x2 x3) X1 → WW D cy A (un X1 Y) s H1 locs1 → W p l e R s m args below meth c H1 locs1 (cells + 1) (slots + 6) Q (F0 m (pc + 3) ls (.int v :: rest))) : W p l e R s m args below meth c H locs cells slots Q (F0 m pc ls (.int x3 :: .int x2 :: .int x1 :: .ref o :: rest)) := by
  subst ho
  refine q_uSi (rest := rest) F w hd kW_issue hdW_issue (c_L_issue l D cy _ X AD G hM hI x1 x2 x3 hlf) hdg rfl rfl hsz ⟨rfl, rfl, hR.1, hR.2⟩ hroom hf (fun v X1 H1 locs1 hp hd1 w1 => ?_)
  obtain ⟨h1, AD1, h2, h3⟩ := hp
  exact kk v X1 AD1 H1 locs1 h1 (by rw [h2]) hd1 h3 w1
theorem lw_endorse {AD : AM} {G : GS} {o : Nat} (F : CallFix p m c cc nL s args BIG RL) (w : WW D cy A (un X Y) s H locs) (hd : dis X Y) (hM : RepC cy AD G X) (ho : AD 0 0 0 = o) (hI : InvC G) (x1 x2 : Int32) (hlf : l.stackTraces = false) (hdg : decode cc pc = .ok (.invokestatic 177, 3)) (hsz : ls.size = nL) (hR : 9 ≤ R.frames ∧ 170 ≤ R.locals) (hroom : (rest.map fun v => v.category).sum ≤ 8) (hf : cells + 1 ≤ R.cells ∧ slots + 6 ≤ R.slots)
    (kk : ∀ (v : Int32) (X1 : MU) (AD1 : AM) (H1 : Heap) (locs1 : List Loc), v = A_endorse G x1 x2 → AD1 0 0 0 = o → dis X1 Y → RepC cy AD1 (H_endorse G x1 x2) X1 → WW D cy A (un X1 Y) s H1 locs1 → W p l e R s m args below meth c H1 locs1 (cells + 1) (slots + 6) Q (F0 m (pc + 3) ls (.int v :: rest))) : W p l e R s m args below meth c H locs cells slots Q (F0 m pc ls (.int x2 :: .int x1 :: .ref o :: rest)) := by
  subst ho
  refine q_uSi (rest := rest) F w hd kW_endorse hdW_endorse (c_L_endorse l D cy _ X AD G hM hI x1 x2 hlf) hdg rfl rfl hsz ⟨rfl, rfl, hR.1, hR.2⟩ hroom hf (fun v X1 H1 locs1 hp hd1 w1 => ?_)
  obtain ⟨h1, AD1, h2, h3⟩ := hp
  exact kk v X1 AD1 H1 locs1 h1 (by rw [h2]) hd1 h3 w1
theorem lw_calls {AD : AM} {G : GS} {o : Nat} (F : CallFix p m c cc nL s args BIG RL) (w : WW D cy A (un X Y) s H locs) (hd : dis X Y) (hM : RepC cy AD G X) (ho : AD 0 0 0 = o) (hI : InvC G) (x1 x2 : Int32) (hlf : l.stackTraces = false) (hdg : decode cc pc = .ok (.invokestatic 179, 3)) (hsz : ls.size = nL) (hR : 10 ≤ R.frames ∧ 230 ≤ R.locals) (hroom : (rest.map fun v => v.category).sum ≤ 8) (hf : cells + 1 ≤ R.cells ∧ slots + 6 ≤ R.slots)
    (kk : ∀ (v : Int32) (X1 : MU) (AD1 : AM) (H1 : Heap) (locs1 : List Loc), v = A_calls G x1 x2 → AD1 0 0 0 = o → dis X1 Y → RepC cy AD1 (H_calls G x1 x2) X1 → WW D cy A (un X1 Y) s H1 locs1 → W p l e R s m args below meth c H1 locs1 (cells + 1) (slots + 6) Q (F0 m (pc + 3) ls (.int v :: rest))) : W p l e R s m args below meth c H locs cells slots Q (F0 m pc ls (.int x2 :: .int x1 :: .ref o :: rest)) := by
  subst ho
  refine q_uSi (rest := rest) F w hd kW_calls hdW_calls (c_L_calls l D cy _ X AD G hM hI x1 x2 hlf) hdg rfl rfl hsz ⟨rfl, rfl, hR.1, hR.2⟩ hroom hf (fun v X1 H1 locs1 hp hd1 w1 => ?_)
  obtain ⟨h1, AD1, h2, h3⟩ := hp
  exact kk v X1 AD1 H1 locs1 h1 (by rw [h2]) hd1 h3 w1
theorem lw_leaves {AD : AM} {G : GS} {o : Nat} (F : CallFix p m c cc nL s args BIG RL) (w : WW D cy A (un X Y) s H locs) (hd : dis X Y) (hM : RepC cy AD G X) (ho : AD 0 0 0 = o) (hI : InvC G) (x1 : Int32) (hp : ∀ s, s < gnS G → G 10 s = -1 ∨ (G 10 s = nI (G 10 s).toNatClampNeg ∧ (G 10 s).toNatClampNeg < 4)) (hlf : l.stackTraces = false) (hdg : decode cc pc = .ok (.invokestatic 181, 3)) (hsz : ls.size = nL) (hR : 10 ≤ R.frames ∧ 229 ≤ R.locals) (hroom : (rest.map fun v => v.category).sum ≤ 8) (hf : cells + 1 ≤ R.cells ∧ slots + 6 ≤ R.slots)
    (kk : ∀ (v : Int32) (X1 : MU) (AD1 : AM) (H1 : Heap) (locs1 : List Loc), v = A_leaves G x1 → AD1 0 0 0 = o → dis X1 Y → RepC cy AD1 (H_leaves G x1) X1 → WW D cy A (un X1 Y) s H1 locs1 → W p l e R s m args below meth c H1 locs1 (cells + 1) (slots + 6) Q (F0 m (pc + 3) ls (.int v :: rest))) : W p l e R s m args below meth c H locs cells slots Q (F0 m pc ls (.int x1 :: .ref o :: rest)) := by
  subst ho
  refine q_uSi (rest := rest) F w hd kW_leaves hdW_leaves (c_L_leaves l D cy _ X AD G hM hI x1 hp hlf) hdg rfl rfl hsz ⟨rfl, rfl, hR.1, hR.2⟩ hroom hf (fun v X1 H1 locs1 hp hd1 w1 => ?_)
  obtain ⟨h1, AD1, h2, h3⟩ := hp
  exact kk v X1 AD1 H1 locs1 h1 (by rw [h2]) hd1 h3 w1
theorem lw_visit {AD : AM} {G : GS} {o : Nat} (F : CallFix p m c cc nL s args BIG RL) (w : WW D cy A (un X Y) s H locs) (hd : dis X Y) (hM : RepC cy AD G X) (ho : AD 0 0 0 = o) (hI : InvC G) (x1 : Int32) (hn : ∀ s, s < gnS G → gnN G s < 514) (hlf : l.stackTraces = false) (hdg : decode cc pc = .ok (.invokestatic 183, 3)) (hsz : ls.size = nL) (hR : 10 ≤ R.frames ∧ 271 ≤ R.locals) (hroom : (rest.map fun v => v.category).sum ≤ 8) (hf : cells + 5 ≤ R.cells ∧ slots + 2019 ≤ R.slots)
    (kk : ∀ (v : Int32) (X1 : MU) (AD1 : AM) (H1 : Heap) (locs1 : List Loc), v = A_visit G x1 → AD1 0 0 0 = o → dis X1 Y → RepC cy AD1 (H_visit G x1) X1 → WW D cy A (un X1 Y) s H1 locs1 → W p l e R s m args below meth c H1 locs1 (cells + 5) (slots + 2019) Q (F0 m (pc + 3) ls (.int v :: rest))) : W p l e R s m args below meth c H locs cells slots Q (F0 m pc ls (.int x1 :: .ref o :: rest)) := by
  subst ho
  refine q_uSi (rest := rest) F w hd kW_visit hdW_visit (c_L_visit l D cy _ X AD G hM hI x1 hn hlf) hdg rfl rfl hsz ⟨rfl, rfl, hR.1, hR.2⟩ hroom hf (fun v X1 H1 locs1 hp hd1 w1 => ?_)
  obtain ⟨h1, AD1, h2, h3⟩ := hp
  exact kk v X1 AD1 H1 locs1 h1 (by rw [h2]) hd1 h3 w1
theorem lw_finds {AD : AM} {G : GS} {o : Nat} (F : CallFix p m c cc nL s args BIG RL) (w : WW D cy A (un X Y) s H locs) (hd : dis X Y) (hM : RepC cy AD G X) (ho : AD 0 0 0 = o) (hI : InvC G) (x1 x2 x3 : Int32) (hn : ∀ s, s < gnS G → gnN G s < 514) (hlf : l.stackTraces = false) (hdg : decode cc pc = .ok (.invokestatic 185, 3)) (hsz : ls.size = nL) (hR : 10 ≤ R.frames ∧ 274 ≤ R.locals) (hroom : (rest.map fun v => v.category).sum ≤ 8) (hf : cells + 4 ≤ R.cells ∧ slots + 2007 ≤ R.slots)
    (kk : ∀ (v : Int32) (X1 : MU) (AD1 : AM) (H1 : Heap) (locs1 : List Loc), v = A_finds G x1 x2 x3 → AD1 0 0 0 = o → dis X1 Y → RepC cy AD1 (H_finds G x1 x2 x3) X1 → WW D cy A (un X1 Y) s H1 locs1 → W p l e R s m args below meth c H1 locs1 (cells + 4) (slots + 2007) Q (F0 m (pc + 3) ls (.int v :: rest))) : W p l e R s m args below meth c H locs cells slots Q (F0 m pc ls (.int x3 :: .int x2 :: .int x1 :: .ref o :: rest)) := by
  subst ho
  refine q_uSi (rest := rest) F w hd kW_finds hdW_finds (c_L_finds l D cy _ X AD G hM hI x1 x2 x3 hn hlf) hdg rfl rfl hsz ⟨rfl, rfl, hR.1, hR.2⟩ hroom hf (fun v X1 H1 locs1 hp hd1 w1 => ?_)
  obtain ⟨h1, AD1, h2, h3⟩ := hp
  exact kk v X1 AD1 H1 locs1 h1 (by rw [h2]) hd1 h3 w1
theorem lw_mends {AD : AM} {G : GS} {o : Nat} (F : CallFix p m c cc nL s args BIG RL) (w : WW D cy A (un X Y) s H locs) (hd : dis X Y) (hM : RepC cy AD G X) (ho : AD 0 0 0 = o) (hI : InvC G) (x1 x2 x3 : Int32) (hx3 : x3 = 0 ∨ x3 = 1) (hlf : l.stackTraces = false) (hdg : decode cc pc = .ok (.invokestatic 189, 3)) (hsz : ls.size = nL) (hR : 9 ≤ R.frames ∧ 171 ≤ R.locals) (hroom : (rest.map fun v => v.category).sum ≤ 8) (hf : cells + 1 ≤ R.cells ∧ slots + 6 ≤ R.slots)
    (kk : ∀ (v : Int32) (X1 : MU) (AD1 : AM) (H1 : Heap) (locs1 : List Loc), v = A_mends G x1 x2 x3 → AD1 0 0 0 = o → dis X1 Y → RepC cy AD1 (H_mends G x1 x2 x3) X1 → WW D cy A (un X1 Y) s H1 locs1 → W p l e R s m args below meth c H1 locs1 (cells + 1) (slots + 6) Q (F0 m (pc + 3) ls (.int v :: rest))) : W p l e R s m args below meth c H locs cells slots Q (F0 m pc ls (.int x3 :: .int x2 :: .int x1 :: .ref o :: rest)) := by
  subst ho
  refine q_uSi (rest := rest) F w hd kW_mends hdW_mends (c_L_mends l D cy _ X AD G hM hI x1 x2 x3 hx3 hlf) hdg rfl rfl hsz ⟨rfl, rfl, hR.1, hR.2⟩ hroom hf (fun v X1 H1 locs1 hp hd1 w1 => ?_)
  obtain ⟨h1, AD1, h2, h3⟩ := hp
  exact kk v X1 AD1 H1 locs1 h1 (by rw [h2]) hd1 h3 w1
theorem lw_detain {AD : AM} {G : GS} {o : Nat} (F : CallFix p m c cc nL s args BIG RL) (w : WW D cy A (un X Y) s H locs) (hd : dis X Y) (hM : RepC cy AD G X) (ho : AD 0 0 0 = o) (hI : InvC G) (x1 : Int32) (hn : ∀ s, s < gnS G → gnN G s < 514) (hlf : l.stackTraces = false) (hdg : decode cc pc = .ok (.invokestatic 192, 3)) (hsz : ls.size = nL) (hR : 10 ≤ R.frames ∧ 270 ≤ R.locals) (hroom : (rest.map fun v => v.category).sum ≤ 8) (hf : cells + 2 ≤ R.cells ∧ slots + 1004 ≤ R.slots)
    (kk : ∀ (v : Int32) (X1 : MU) (AD1 : AM) (H1 : Heap) (locs1 : List Loc), v = A_detain G x1 → AD1 0 0 0 = o → dis X1 Y → RepC cy AD1 (H_detain G x1) X1 → WW D cy A (un X1 Y) s H1 locs1 → W p l e R s m args below meth c H1 locs1 (cells + 2) (slots + 1004) Q (F0 m (pc + 3) ls (.int v :: rest))) : W p l e R s m args below meth c H locs cells slots Q (F0 m pc ls (.int x1 :: .ref o :: rest)) := by
  subst ho
  refine q_uSi (rest := rest) F w hd kW_detain hdW_detain (c_L_detain l D cy _ X AD G hM hI x1 hn hlf) hdg rfl rfl hsz ⟨rfl, rfl, hR.1, hR.2⟩ hroom hf (fun v X1 H1 locs1 hp hd1 w1 => ?_)
  obtain ⟨h1, AD1, h2, h3⟩ := hp
  exact kk v X1 AD1 H1 locs1 h1 (by rw [h2]) hd1 h3 w1
theorem lw_release {AD : AM} {G : GS} {o : Nat} (F : CallFix p m c cc nL s args BIG RL) (w : WW D cy A (un X Y) s H locs) (hd : dis X Y) (hM : RepC cy AD G X) (ho : AD 0 0 0 = o) (hI : InvC G) (x1 : Int32) (hlf : l.stackTraces = false) (hdg : decode cc pc = .ok (.invokestatic 199, 3)) (hsz : ls.size = nL) (hR : 9 ≤ R.frames ∧ 168 ≤ R.locals) (hroom : (rest.map fun v => v.category).sum ≤ 8) (hf : cells + 1 ≤ R.cells ∧ slots + 6 ≤ R.slots)
    (kk : ∀ (v : Int32) (X1 : MU) (AD1 : AM) (H1 : Heap) (locs1 : List Loc), v = A_release G x1 → AD1 0 0 0 = o → dis X1 Y → RepC cy AD1 (H_release G x1) X1 → WW D cy A (un X1 Y) s H1 locs1 → W p l e R s m args below meth c H1 locs1 (cells + 1) (slots + 6) Q (F0 m (pc + 3) ls (.int v :: rest))) : W p l e R s m args below meth c H locs cells slots Q (F0 m pc ls (.int x1 :: .ref o :: rest)) := by
  subst ho
  refine q_uSi (rest := rest) F w hd kW_release hdW_release (c_L_release l D cy _ X AD G hM hI x1 hlf) hdg rfl rfl hsz ⟨rfl, rfl, hR.1, hR.2⟩ hroom hf (fun v X1 H1 locs1 hp hd1 w1 => ?_)
  obtain ⟨h1, AD1, h2, h3⟩ := hp
  exact kk v X1 AD1 H1 locs1 h1 (by rw [h2]) hd1 h3 w1
theorem lw_appeal {AD : AM} {G : GS} {o : Nat} (F : CallFix p m c cc nL s args BIG RL) (w : WW D cy A (un X Y) s H locs) (hd : dis X Y) (hM : RepC cy AD G X) (ho : AD 0 0 0 = o) (hI : InvC G) (x1 : Int32) (hlf : l.stackTraces = false) (hdg : decode cc pc = .ok (.invokestatic 195, 3)) (hsz : ls.size = nL) (hR : 9 ≤ R.frames ∧ 165 ≤ R.locals) (hroom : (rest.map fun v => v.category).sum ≤ 8) (hf : cells + 1 ≤ R.cells ∧ slots + 6 ≤ R.slots)
    (kk : ∀ (v : Int32) (X1 : MU) (AD1 : AM) (H1 : Heap) (locs1 : List Loc), v = A_appeal G x1 → AD1 0 0 0 = o → dis X1 Y → RepC cy AD1 (H_appeal G x1) X1 → WW D cy A (un X1 Y) s H1 locs1 → W p l e R s m args below meth c H1 locs1 (cells + 1) (slots + 6) Q (F0 m (pc + 3) ls (.int v :: rest))) : W p l e R s m args below meth c H locs cells slots Q (F0 m pc ls (.int x1 :: .ref o :: rest)) := by
  subst ho
  refine q_uSi (rest := rest) F w hd kW_appeal hdW_appeal (c_L_appeal l D cy _ X AD G hM hI x1 hlf) hdg rfl rfl hsz ⟨rfl, rfl, hR.1, hR.2⟩ hroom hf (fun v X1 H1 locs1 hp hd1 w1 => ?_)
  obtain ⟨h1, AD1, h2, h3⟩ := hp
  exact kk v X1 AD1 H1 locs1 h1 (by rw [h2]) hd1 h3 w1
theorem lw_vote {AD : AM} {G : GS} {o : Nat} (F : CallFix p m c cc nL s args BIG RL) (w : WW D cy A (un X Y) s H locs) (hd : dis X Y) (hM : RepC cy AD G X) (ho : AD 0 0 0 = o) (hI : InvC G) (x1 x2 : Int32) (hx2 : x2 = 0 ∨ x2 = 1) (hn : ∀ s, s < gnS G → gnN G s < 514) (hlf : l.stackTraces = false) (hdg : decode cc pc = .ok (.invokestatic 197, 3)) (hsz : ls.size = nL) (hR : 10 ≤ R.frames ∧ 272 ≤ R.locals) (hroom : (rest.map fun v => v.category).sum ≤ 8) (hf : cells + 2 ≤ R.cells ∧ slots + 1004 ≤ R.slots)
    (kk : ∀ (v : Int32) (X1 : MU) (AD1 : AM) (H1 : Heap) (locs1 : List Loc), v = A_vote G x1 x2 → AD1 0 0 0 = o → dis X1 Y → RepC cy AD1 (H_vote G x1 x2) X1 → WW D cy A (un X1 Y) s H1 locs1 → W p l e R s m args below meth c H1 locs1 (cells + 2) (slots + 1004) Q (F0 m (pc + 3) ls (.int v :: rest))) : W p l e R s m args below meth c H locs cells slots Q (F0 m pc ls (.int x2 :: .int x1 :: .ref o :: rest)) := by
  subst ho
  refine q_uSi (rest := rest) F w hd kW_vote hdW_vote (c_L_vote l D cy _ X AD G hM hI x1 x2 hx2 hn hlf) hdg rfl rfl hsz ⟨rfl, rfl, hR.1, hR.2⟩ hroom hf (fun v X1 H1 locs1 hp hd1 w1 => ?_)
  obtain ⟨h1, AD1, h2, h3⟩ := hp
  exact kk v X1 AD1 H1 locs1 h1 (by rw [h2]) hd1 h3 w1
theorem lw_ofShip {AD : AM} {G : GS} {o : Nat} (F : CallFix p m c cc nL s args BIG RL) (w : WW D cy A (un X Y) s H locs) (hd : dis X Y) (hM : RepC cy AD G X) (ho : AD 0 0 0 = o) (hI : InvC G) (x1 x2 : Int32) (hlf : l.stackTraces = false) (hdg : decode cc pc = .ok (.invokestatic 124, 3)) (hsz : ls.size = nL) (hR : 10 ≤ R.frames ∧ 230 ≤ R.locals) (hroom : (rest.map fun v => v.category).sum ≤ 8) (hf : cells + 1 ≤ R.cells ∧ slots + 6 ≤ R.slots)
    (kk : ∀ (v : Int32) (X1 : MU) (AD1 : AM) (H1 : Heap) (locs1 : List Loc), v = A_ofShip G x1 x2 → AD1 0 0 0 = o → dis X1 Y → RepC cy AD1 (H_ofShip G x1 x2) X1 → WW D cy A (un X1 Y) s H1 locs1 → W p l e R s m args below meth c H1 locs1 (cells + 1) (slots + 6) Q (F0 m (pc + 3) ls (.int v :: rest))) : W p l e R s m args below meth c H locs cells slots Q (F0 m pc ls (.int x2 :: .int x1 :: .ref o :: rest)) := by
  subst ho
  refine q_uSi (rest := rest) F w hd kW_ofShip hdW_ofShip (c_L_ofShip l D cy _ X AD G hM hI x1 x2 hlf) hdg rfl rfl hsz ⟨rfl, rfl, hR.1, hR.2⟩ hroom hf (fun v X1 H1 locs1 hp hd1 w1 => ?_)
  obtain ⟨h1, AD1, h2, h3⟩ := hp
  exact kk v X1 AD1 H1 locs1 h1 (by rw [h2]) hd1 h3 w1
theorem lw_pointsAnew {AD : AM} {G : GS} {o : Nat} (F : CallFix p m c cc nL s args BIG RL) (w : WW D cy A (un X Y) s H locs) (hd : dis X Y) (hM : RepC cy AD G X) (ho : AD 0 0 0 = o) (hI : InvC G) (x1 : Int32) (hlf : l.stackTraces = false) (hdg : decode cc pc = .ok (.invokestatic 146, 3)) (hsz : ls.size = nL) (hR : 9 ≤ R.frames ∧ 184 ≤ R.locals) (hroom : (rest.map fun v => v.category).sum ≤ 8) (hf : cells + 1 ≤ R.cells ∧ slots + 6 ≤ R.slots)
    (kk : ∀ (v : Int32) (X1 : MU) (AD1 : AM) (H1 : Heap) (locs1 : List Loc), v = A_pointsAnew G x1 → AD1 0 0 0 = o → dis X1 Y → RepC cy AD1 (H_pointsAnew G x1) X1 → WW D cy A (un X1 Y) s H1 locs1 → W p l e R s m args below meth c H1 locs1 (cells + 1) (slots + 6) Q (F0 m (pc + 3) ls (.int v :: rest))) : W p l e R s m args below meth c H locs cells slots Q (F0 m pc ls (.int x1 :: .ref o :: rest)) := by
  subst ho
  refine q_uSi (rest := rest) F w hd kW_pointsAnew hdW_pointsAnew (c_L_pointsAnew l D cy _ X AD G hM hI x1 hlf) hdg rfl rfl hsz ⟨rfl, rfl, hR.1, hR.2⟩ hroom hf (fun v X1 H1 locs1 hp hd1 w1 => ?_)
  obtain ⟨h1, AD1, h2, h3⟩ := hp
  exact kk v X1 AD1 H1 locs1 h1 (by rw [h2]) hd1 h3 w1
theorem lw_isGround {AD : AM} {G : GS} {o : Nat} (F : CallFix p m c cc nL s args BIG RL) (w : WW D cy A (un X Y) s H locs) (hd : dis X Y) (hM : RepC cy AD G X) (ho : AD 0 0 0 = o) (hI : InvC G) (x1 x2 : Int32) (hlf : l.stackTraces = false) (hdg : decode cc pc = .ok (.invokestatic 140, 3)) (hsz : ls.size = nL) (hR : 9 ≤ R.frames ∧ 168 ≤ R.locals) (hroom : (rest.map fun v => v.category).sum ≤ 8) (hf : cells + 1 ≤ R.cells ∧ slots + 6 ≤ R.slots)
    (kk : ∀ (v : Int32) (X1 : MU) (AD1 : AM) (H1 : Heap) (locs1 : List Loc), v = A_isGround G x1 x2 → AD1 0 0 0 = o → dis X1 Y → RepC cy AD1 (H_isGround G x1 x2) X1 → WW D cy A (un X1 Y) s H1 locs1 → W p l e R s m args below meth c H1 locs1 (cells + 1) (slots + 6) Q (F0 m (pc + 3) ls (.int v :: rest))) : W p l e R s m args below meth c H locs cells slots Q (F0 m pc ls (.int x2 :: .int x1 :: .ref o :: rest)) := by
  subst ho
  refine q_uSi (rest := rest) F w hd kW_isGround hdW_isGround (c_L_isGround l D cy _ X AD G hM hI x1 x2 hlf) hdg rfl rfl hsz ⟨rfl, rfl, hR.1, hR.2⟩ hroom hf (fun v X1 H1 locs1 hp hd1 w1 => ?_)
  obtain ⟨h1, AD1, h2, h3⟩ := hp
  exact kk v X1 AD1 H1 locs1 h1 (by rw [h2]) hd1 h3 w1
theorem lw_ofVisit {AD : AM} {G : GS} {o : Nat} (F : CallFix p m c cc nL s args BIG RL) (w : WW D cy A (un X Y) s H locs) (hd : dis X Y) (hM : RepC cy AD G X) (ho : AD 0 0 0 = o) (hI : InvC G) (x1 x2 : Int32) (hlf : l.stackTraces = false) (hdg : decode cc pc = .ok (.invokestatic 151, 3)) (hsz : ls.size = nL) (hR : 9 ≤ R.frames ∧ 168 ≤ R.locals) (hroom : (rest.map fun v => v.category).sum ≤ 8) (hf : cells + 1 ≤ R.cells ∧ slots + 6 ≤ R.slots)
    (kk : ∀ (v : Int32) (X1 : MU) (AD1 : AM) (H1 : Heap) (locs1 : List Loc), v = A_ofVisit G x1 x2 → AD1 0 0 0 = o → dis X1 Y → RepC cy AD1 (H_ofVisit G x1 x2) X1 → WW D cy A (un X1 Y) s H1 locs1 → W p l e R s m args below meth c H1 locs1 (cells + 1) (slots + 6) Q (F0 m (pc + 3) ls (.int v :: rest))) : W p l e R s m args below meth c H locs cells slots Q (F0 m pc ls (.int x2 :: .int x1 :: .ref o :: rest)) := by
  subst ho
  refine q_uSi (rest := rest) F w hd kW_ofVisit hdW_ofVisit (c_L_ofVisit l D cy _ X AD G hM hI x1 x2 hlf) hdg rfl rfl hsz ⟨rfl, rfl, hR.1, hR.2⟩ hroom hf (fun v X1 H1 locs1 hp hd1 w1 => ?_)
  obtain ⟨h1, AD1, h2, h3⟩ := hp
  exact kk v X1 AD1 H1 locs1 h1 (by rw [h2]) hd1 h3 w1
theorem lw_list {AD : AM} {G : GS} {o : Nat} (F : CallFix p m c cc nL s args BIG RL) (w : WW D cy A (un X Y) s H locs) (hd : dis X Y) (hM : RepC cy AD G X) (ho : AD 0 0 0 = o) (hI : InvC G) (x1 : Int32) (hlf : l.stackTraces = false) (hdg : decode cc pc = .ok (.invokestatic 157, 3)) (hsz : ls.size = nL) (hR : 8 ≤ R.frames ∧ 144 ≤ R.locals) (hroom : (rest.map fun v => v.category).sum ≤ 8) (hf : cells + 1 ≤ R.cells ∧ slots + 6 ≤ R.slots)
    (kk : ∀ (v : Int32) (X1 : MU) (AD1 : AM) (H1 : Heap) (locs1 : List Loc), v = A_list G x1 → AD1 0 0 0 = o → dis X1 Y → RepC cy AD1 (H_list G x1) X1 → WW D cy A (un X1 Y) s H1 locs1 → W p l e R s m args below meth c H1 locs1 (cells + 1) (slots + 6) Q (F0 m (pc + 3) ls (.int v :: rest))) : W p l e R s m args below meth c H locs cells slots Q (F0 m pc ls (.int x1 :: .ref o :: rest)) := by
  subst ho
  refine q_uSi (rest := rest) F w hd kW_list hdW_list (c_L_list l D cy _ X AD G hM hI x1 hlf) hdg rfl rfl hsz ⟨rfl, rfl, hR.1, hR.2⟩ hroom hf (fun v X1 H1 locs1 hp hd1 w1 => ?_)
  obtain ⟨h1, AD1, h2, h3⟩ := hp
  exact kk v X1 AD1 H1 locs1 h1 (by rw [h2]) hd1 h3 w1
theorem lw_missed {AD : AM} {G : GS} {o : Nat} (F : CallFix p m c cc nL s args BIG RL) (w : WW D cy A (un X Y) s H locs) (hd : dis X Y) (hM : RepC cy AD G X) (ho : AD 0 0 0 = o) (hI : InvC G) (x1 : Int32) (hlf : l.stackTraces = false) (hdg : decode cc pc = .ok (.invokestatic 149, 3)) (hsz : ls.size = nL) (hR : 8 ≤ R.frames ∧ 144 ≤ R.locals) (hroom : (rest.map fun v => v.category).sum ≤ 8) (hf : cells + 1 ≤ R.cells ∧ slots + 6 ≤ R.slots)
    (kk : ∀ (v : Int32) (X1 : MU) (AD1 : AM) (H1 : Heap) (locs1 : List Loc), v = A_missed G x1 → AD1 0 0 0 = o → dis X1 Y → RepC cy AD1 (H_missed G x1) X1 → WW D cy A (un X1 Y) s H1 locs1 → W p l e R s m args below meth c H1 locs1 (cells + 1) (slots + 6) Q (F0 m (pc + 3) ls (.int v :: rest))) : W p l e R s m args below meth c H locs cells slots Q (F0 m pc ls (.int x1 :: .ref o :: rest)) := by
  subst ho
  refine q_uSi (rest := rest) F w hd kW_missed hdW_missed (c_L_missed l D cy _ X AD G hM hI x1 hlf) hdg rfl rfl hsz ⟨rfl, rfl, hR.1, hR.2⟩ hroom hf (fun v X1 H1 locs1 hp hd1 w1 => ?_)
  obtain ⟨h1, AD1, h2, h3⟩ := hp
  exact kk v X1 AD1 H1 locs1 h1 (by rw [h2]) hd1 h3 w1
theorem lw_knew {AD : AM} {G : GS} {o : Nat} (F : CallFix p m c cc nL s args BIG RL) (w : WW D cy A (un X Y) s H locs) (hd : dis X Y) (hM : RepC cy AD G X) (ho : AD 0 0 0 = o) (hI : InvC G) (x1 x2 x3 : Int32) (hlf : l.stackTraces = false) (hdg : decode cc pc = .ok (.invokestatic 137, 3)) (hsz : ls.size = nL) (hR : 9 ≤ R.frames ∧ 173 ≤ R.locals) (hroom : (rest.map fun v => v.category).sum ≤ 8) (hf : cells + 1 ≤ R.cells ∧ slots + 6 ≤ R.slots)
    (kk : ∀ (v : Int32) (X1 : MU) (AD1 : AM) (H1 : Heap) (locs1 : List Loc), v = A_knew G x1 x2 x3 → AD1 0 0 0 = o → dis X1 Y → RepC cy AD1 (H_knew G x1 x2 x3) X1 → WW D cy A (un X1 Y) s H1 locs1 → W p l e R s m args below meth c H1 locs1 (cells + 1) (slots + 6) Q (F0 m (pc + 3) ls (.int v :: rest))) : W p l e R s m args below meth c H locs cells slots Q (F0 m pc ls (.int x3 :: .int x2 :: .int x1 :: .ref o :: rest)) := by
  subst ho
  refine q_uSi (rest := rest) F w hd kW_knew hdW_knew (c_L_knew l D cy _ X AD G hM hI x1 x2 x3 hlf) hdg rfl rfl hsz ⟨rfl, rfl, hR.1, hR.2⟩ hroom hf (fun v X1 H1 locs1 hp hd1 w1 => ?_)
  obtain ⟨h1, AD1, h2, h3⟩ := hp
  exact kk v X1 AD1 H1 locs1 h1 (by rw [h2]) hd1 h3 w1
end LW
