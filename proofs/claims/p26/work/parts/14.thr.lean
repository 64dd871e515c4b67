def NM9 : List String := ["java/lang/RuntimeException", "java/lang/Exception"]
def xnm (k : Nat) : String := match k with
  | 0 => ""
  | 1 => "java/lang/IllegalArgumentException"
  | 2 => "java/lang/IllegalStateException"
  | _ => "java/lang/IndexOutOfBoundsException"
def SUB9 : List Cond := tables_1.take 216 ++ tables_1.drop 905
theorem SUB9_in {w : Cond} (h : w ∈ SUB9) : w ∈ lw_tbl := by
  rcases List.mem_append.mp h with h | h
  · exact List.mem_append_right _ (List.mem_of_mem_take h)
  · exact List.mem_append_right _ (List.mem_of_mem_drop h)
def DCL9 : List Cond := DEC9.map (fun q => Cond.declares ⟨q, "<init>", "(Ljava/lang/String;)V"⟩)
def TH9 (ik ic : Nat) (cls : String) : Prop := Bundle.fit cls = true ∧ Cond.classLink RX6 ik cls ∈ BIG ∧ Cond.initialized cls ∈ BIG ∧ (∀ w ∈ (vx_atS RX6 ic cls NM9).filter goodWord, w ∈ BIG) ∧ (∀ w ∈ (vx_atS RX6 ic cls NM9).filter (fun w => !goodWord w), w ∈ Cond.castable cls cls :: DCL9) ∧ (cls, cls) ∈ CAST9 ∧ ∀ w ∈ Cond.classLink RX6 ik cls :: Cond.initialized cls :: vx_atS RX6 ic cls NM9, vx_ot w = true
theorem NM9_fit : ∀ n ∈ NM9, Bundle.fit n = true := by decide +kernel
theorem th9_1_s : ∀ w ∈ (vx_atS RX6 38 "java/lang/IllegalArgumentException" NM9).filter goodWord, w ∈ SUB9 := by decide +kernel
theorem th9_1_c : ∀ w ∈ (vx_atS RX6 38 "java/lang/IllegalArgumentException" NM9).filter (fun w => !goodWord w), w ∈ Cond.castable "java/lang/IllegalArgumentException" "java/lang/IllegalArgumentException" :: DCL9 := by decide +kernel
theorem th9_1_o : ∀ w ∈ Cond.classLink RX6 34 "java/lang/IllegalArgumentException" :: Cond.initialized "java/lang/IllegalArgumentException" :: vx_atS RX6 38 "java/lang/IllegalArgumentException" NM9, vx_ot w = true := by decide +kernel
theorem th9_1 : TH9 34 38 (xnm 1) := ⟨by decide +kernel, wL_X6_34, BIG_t 9 (by decide +kernel) (by decide +kernel), fun w h => BIG_in (SUB9_in (th9_1_s w h)) (List.mem_filter.mp h).2, th9_1_c, by decide +kernel, th9_1_o⟩
theorem th9_2_s : ∀ w ∈ (vx_atS RX6 45 "java/lang/IllegalStateException" NM9).filter goodWord, w ∈ SUB9 := by decide +kernel
theorem th9_2_c : ∀ w ∈ (vx_atS RX6 45 "java/lang/IllegalStateException" NM9).filter (fun w => !goodWord w), w ∈ Cond.castable "java/lang/IllegalStateException" "java/lang/IllegalStateException" :: DCL9 := by decide +kernel
theorem th9_2_o : ∀ w ∈ Cond.classLink RX6 41 "java/lang/IllegalStateException" :: Cond.initialized "java/lang/IllegalStateException" :: vx_atS RX6 45 "java/lang/IllegalStateException" NM9, vx_ot w = true := by decide +kernel
theorem th9_2 : TH9 41 45 (xnm 2) := ⟨by decide +kernel, wL_X6_41, BIG_t 10 (by decide +kernel) (by decide +kernel), fun w h => BIG_in (SUB9_in (th9_2_s w h)) (List.mem_filter.mp h).2, th9_2_c, by decide +kernel, th9_2_o⟩
theorem th9_3_s : ∀ w ∈ (vx_atS RX6 54 "java/lang/IndexOutOfBoundsException" NM9).filter goodWord, w ∈ SUB9 := by decide +kernel
theorem th9_3_c : ∀ w ∈ (vx_atS RX6 54 "java/lang/IndexOutOfBoundsException" NM9).filter (fun w => !goodWord w), w ∈ Cond.castable "java/lang/IndexOutOfBoundsException" "java/lang/IndexOutOfBoundsException" :: DCL9 := by decide +kernel
theorem th9_3_o : ∀ w ∈ Cond.classLink RX6 50 "java/lang/IndexOutOfBoundsException" :: Cond.initialized "java/lang/IndexOutOfBoundsException" :: vx_atS RX6 54 "java/lang/IndexOutOfBoundsException" NM9, vx_ot w = true := by decide +kernel
theorem th9_3 : TH9 50 54 (xnm 3) := ⟨by decide +kernel, wL_X6_50, BIG_t 8 (by decide +kernel) (by decide +kernel), fun w h => BIG_in (SUB9_in (th9_3_s w h)) (List.mem_filter.mp h).2, th9_3_c, by decide +kernel, th9_3_o⟩
theorem th9_ne {ik ic : Nat} {cls : String} (h : TH9 ik ic cls) : cls ≠ "" := fun e => by
  have h9 := h.2.2.2.2.2.1
  rw [e] at h9
  exact absurd h9 (by decide +kernel)
/-- how a call of the class ends that throws: nothing is changed -/
def XC9 (D : va_G) (A : Nat → Prop) (μ : MU) (E : String) : String → State → State → Prop := vx_X (fun μ1 : MU => μ1 = μ) (fun E1 μ1 t => E1 = E ∧ E ≠ "" ∧ HP D A μ1 t.heap) A
theorem q_metx {l : Launch} {y : MethodName} {b : ByteArray} {n : Nat} {r : Option FieldType} {rm : Room} {D : va_G} {cy : Nat → ClassId} {A : Nat → Prop} {μ : MU} {av : List Value} {Qc : Array Value → State → Outcome → State → Prop} {XC : String → State → State → Prop} {mc ms : Nat} {free : Addr → Prop} (hy : plainName y.cls = true) (hn : (lg_sl av).length ≤ n)
    (body : ∀ p e s m below meth c, CallFix p m c b n s av.toArray BIG y.cls → WW D cy A μ s s.heap [] → meth.sig.returnType = r → meth.locks = false → (∀ x ∈ c.exceptionTable.toList, False) → ∀ ls : Array Slot, lv_has ls n (lv_args 0 av) → W p l e rm s m av.toArray below meth c s.heap [] 0 0 (vx_MQ below Qc XC av.toArray s mc ms free) (F0 m 0 ls [])) : vx_Met l y (WS y b n r) rm (va_Pc av (Wd D cy A μ)) Qc XC mc ms free := by
  refine vx_ofW (cc := b) (maxL := n) (ret := r) hy rfl ?_
  intro p e s m args below meth c s₁ B hml ht hv
  obtain ⟨rfl, hw⟩ := hv
  have hts := atoms_spec (ws := WS y b n r) B.pre
  have hl := lv_entry av (n := n) hn
  rw [lg_entry_eq]
  exact body p e s m below meth c ⟨B.exec, B.bytes, hml, findClass_of_methodNamed B.named, fun w h => hts w (List.mem_cons_of_mem _ h)⟩ hw.start B.returns B.notSynchronized ht _ hl
section TR
variable {p : Program} {l : Launch} {e : Env} {R : Room} {s : State} {m : MethodId} {args : Array Value} {below : List Frame} {meth : Method} {c : Code} {H : Heap} {locs : List Loc} {cells slots : Nat} {Q : State → Prop}
variable {cc : ByteArray} {nL pc : Nat} {ls : Array Slot} {rest st0 : List Value} {D : va_G} {cy : Nat → ClassId} {A : Nat → Prop} {a : Nat} {μ : MU} {own : String} {Qc : Array Value → State → Outcome → State → Prop}
theorem q_thx (w : WW D cy A μ s H locs) {E cls : String} (hE : cls = E) (hne : cls ≠ "") (t : State) (hv : s.vm.Alike t.vm) (h1 : H.size ≤ t.heap.size) (h2 : ∀ q : Nat, q < H.size → t.heap[q]? = H[q]?) : XC9 D A μ E cls s t :=
  ⟨μ, rfl, ⟨hE, hE ▸ hne, w.1.kept (fun q hq _ => h2 q hq)⟩, ⟨Nat.le_trans w.2.2.2.1.1 h1, fun q hq hA => (h2 q (Nat.lt_of_lt_of_le hq w.2.2.2.1.1)).trans (w.2.2.2.1.2.1 q hq hA)⟩⟩
theorem q_hat (F : CallFix p m c cc nL s args BIG RX6) (w : WW D cy A μ s H locs) {ik ic : Nat} {cls : String} (h : TH9 ik ic cls) : ∀ w ∈ vx_atS RX6 ic cls NM9, w.before args s = true :=
  vx_hat (fun w h9 => F.2.2.2.2 _ (h.2.2.2.1 w h9)) h.2.2.2.2.1 (vx_c (va_Nw.use rfl (w.2.2.2.2.2.2.2.1 _ h.2.2.2.2.2.1)) (fun v hv => by
    obtain ⟨q, hq, rfl⟩ := List.mem_map.mp hv
    exact va_Nw.use rfl (w.2.2.2.2.2.2.2.2.2.2.2 q hq)))
theorem q_thS (F : CallFix p m c cc nL s args BIG RX6) (w : WW D cy A μ s H locs) (hlf : l.stackTraces = false) {ik ic is mc ms k9 : Nat} {cls text E : String} (h : TH9 ik ic cls) (hst : STR9[k9]? = some ("Detentionbureau", is, text)) (hsz : ls.size = nL) (hE : cls = E) (ht : ∀ x ∈ c.exceptionTable.toList, False) (hlk : meth.locks = false)
    (d0 : decode cc pc = .ok (.new ik, 3)) (d3 : decode cc (pc + 3) = .ok (.dup, 1)) (d4 : decode cc (pc + 4) = .ok (.ldc is, 2)) (d6 : decode cc (pc + 6) = .ok (.invokespecial ic, 3)) (d9 : decode cc (pc + 9) = .ok (.athrow, 1))
    (hRf : 5 < R.frames) (hRl : (rest.map fun v => v.category).sum + 82 ≤ R.locals) (hRc : cells + 1 ≤ R.cells) (hRs : slots + 6 ≤ R.slots) (hmc : cells + 1 ≤ mc) (hms : slots + 6 ≤ ms) : W p l e R s m args below meth c H locs cells slots (vx_MQ below Qc (XC9 D A μ E) args s mc ms A) (F0 m pc ls rest) := by
  obtain ⟨sa, hsa⟩ := w.2.2.2.2.2.2.1 _ (List.mem_of_getElem? hst)
  exact vx_throwS F.1 F.2.1 hlf F.2.2.2.1 h.1 NM9_fit (F.2.2.2.2 _ h.2.1) (F.2.2.2.2 _ h.2.2.1) hsa (q_hat F w h) h.2.2.2.2.2.2 w.2.2.2.2.2.1.2.2.1 w.2.2.2.2.2.1.2.2.2 w.2.2.2.1 (hsz.trans F.2.2.1.symm) d0 d3 d4 d6 d9 (fun x hx => (ht x hx).elim) hRf hRl hRc hRs hlk (fun t hv h1 h2 => q_thx w hE (th9_ne h) t hv h1 h2) w.2.2.2.1.2.2 hmc hms
theorem q_thW (F : CallFix p m c cc nL s args BIG RX6) (w : WW D cy A μ s H locs) (hlf : l.stackTraces = false) {ik ic is mc ms k9 : Nat} {cls text E : String} (h : TH9 ik ic cls) (hst : STR9[k9]? = some ("Detentionbureau", is, text)) (hsz : ls.size = nL) (hE : cls = E) (ht : ∀ x ∈ c.exceptionTable.toList, False) (hlk : meth.locks = false)
    (d0 : decode cc pc = .ok (.new ik, 3)) (d3 : decode cc (pc + 3) = .ok (.dup, 1)) (d4 : decode cc (pc + 4) = .ok (.ldc_w is, 3)) (d7 : decode cc (pc + 7) = .ok (.invokespecial ic, 3)) (d10 : decode cc (pc + 10) = .ok (.athrow, 1))
    (hRf : 5 < R.frames) (hRl : (rest.map fun v => v.category).sum + 82 ≤ R.locals) (hRc : cells + 1 ≤ R.cells) (hRs : slots + 6 ≤ R.slots) (hmc : cells + 1 ≤ mc) (hms : slots + 6 ≤ ms) : W p l e R s m args below meth c H locs cells slots (vx_MQ below Qc (XC9 D A μ E) args s mc ms A) (F0 m pc ls rest) := by
  obtain ⟨sa, hsa⟩ := w.2.2.2.2.2.2.1 _ (List.mem_of_getElem? hst)
  exact vx_throwSW F.1 F.2.1 hlf F.2.2.2.1 h.1 NM9_fit (F.2.2.2.2 _ h.2.1) (F.2.2.2.2 _ h.2.2.1) hsa (q_hat F w h) h.2.2.2.2.2.2 w.2.2.2.2.2.1.2.2.1 w.2.2.2.2.2.1.2.2.2 w.2.2.2.1 (hsz.trans F.2.2.1.symm) d0 d3 d4 d7 d10 (fun x hx => (ht x hx).elim) hRf hRl hRc hRs hlk (fun t hv h1 h2 => q_thx w hE (th9_ne h) t hv h1 h2) w.2.2.2.1.2.2 hmc hms
/-- a call that throws for sure: it goes on out of here -/
theorem q_xV (F : CallFix p m c cc nL s args BIG own) (w : WW D cy A μ s H locs) {y : MethodName} {b : ByteArray} {n k idx mc ms : Nat} {r : Option FieldType} {rm : Room} {o ci : Nat} {fs As : List Value} {q : vw_C} {E E1 : String} (hE : E1 = E) (ht : ∀ x ∈ c.exceptionTable.toList, False) (hlk : meth.locks = false) (hg : GoodIn BIG (wsV own idx q.1 y (WS y b n r))) (hd : y.cls = q.1 ∧ y.cls ≠ "java/lang/invoke/MethodHandle" ∧ y.cls ≠ "java/lang/invoke/VarHandle" ∧ (parseMethodDescriptor y.desc).map (fun d => d.parameters.length) = some k) (hc : vwCl[ci]? = some q)
    (hM : vx_Met l y (WS y b n r) rm (va_Pc (.ref o :: As) (Wd D cy A μ)) (fun _ _ _ _ => False) (XC9 D A μ E1) 1 6 A) (ho : μ o = some (.inr (ci, fs))) (hdg : decode cc pc = .ok (.invokevirtual idx, 3)) (hn : As.length = k) (hst : st0 = As.reverse ++ .ref o :: rest) (hsz : ls.size = nL) (hR : rm.cells = 1 ∧ rm.slots = 6 ∧ rm.frames + 1 ≤ R.frames ∧ 8 + (n + 11) + rm.locals ≤ R.locals) (hroom : (rest.map fun v => v.category).sum ≤ 8)
    (hf : cells + 1 ≤ R.cells ∧ slots + 6 ≤ R.slots) (hmc : cells + 1 ≤ mc) (hms : slots + 6 ≤ ms) : W p l e R s m args below meth c H locs cells slots (vx_MQ below Qc (XC9 D A μ E) args s mc ms A) (F0 m pc ls st0) := by
  subst hE
  have hr := vx_runV (e := e) (below := below) (meth := meth) (H := H) (locs := locs) (As := As) (rest := rest) (g := F0 m pc ls st0) F hM (cwV k F.2.2.2.2 hg rfl hR.1 hR.2.1 hd ⟨hR.2.2.1, hR.2.2.2⟩) ⟨Wd.blind, w.recv ho hc, fun U hU hW => ⟨rfl, w.at hU hW⟩⟩ rfl hn hsz hst (lv_room hroom) hdg hf
  intro T hT X
  rcases hr T hT X with ⟨v, st₀, t, T', L, h0, X', hL, e1, e2, hq, st⟩ | ⟨q9, st₀, t, T', L, E9, ce, h0, X', hL, e1, e2, ⟨u, hp, ⟨hE, hb⟩, hF⟩, hce, hcv, hcl, st⟩
  · exact hq.elim
  · obtain ⟨k1, k2, k3⟩ := vx_keep h0 e1 w.2.2.2.1 (fun q _ h => h) (fun q h => h) hL hF
    obtain ⟨t2, a1, b1⟩ := vx_out (Qc := Qc) (XC := XC9 D A μ E1) (free := A) (ls := ls) (rest := rest) (pc := pc) (fun x hx => (ht x hx).elim) hlk (H := T'.heap) (locs := locs ++ L) (by rw [e1]; exact hce) hcv hcl (fun t3 h3 _ => ⟨u, hp, ⟨hE, by rw [h3, e1]; exact hb⟩, k3.F h3⟩) k3.2.2 hmc hms T' rfl X'
    exact ⟨t2, st.trans a1, b1⟩
end TR
