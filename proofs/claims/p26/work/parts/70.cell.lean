/-! the law's reading of its script: a method's contract that knows the script's cell besides the world -/
def PC9 (D : va_G) (cy : Nat → ClassId) (A : Nat → Prop) (μ : MU) (b L : Nat) (xs : Nat → Int32) (t : State) : Prop := Wd D cy A μ t ∧ va_X b L xs t t.heap ∧ b < t.heap.size ∧ ¬ A b
theorem PC9.blind {D : va_G} {cy : Nat → ClassId} {A : Nat → Prop} {μ : MU} {b L : Nat} {xs : Nat → Int32} {av : List Value} : FrameBlind (va_Pc av (PC9 D cy A μ b L xs)) := fun a U g mk q => ⟨q.1, (Wd.blind (av := av) a U g mk ⟨q.1, q.2.1⟩).2, va_X.moved (u := U) (U := U.calling g mk a) (Vm.Alike.refl U.vm) q.2.2.1, q.2.2.2⟩
theorem q_met9 {l : Launch} {y : MethodName} {b : ByteArray} {n : Nat} {r : Option FieldType} {rm : Room} {D : va_G} {cy : Nat → ClassId} {A : Nat → Prop} {μ : MU} {av : List Value} {b9 L : Nat} {xs : Nat → Int32} {Qc : Array Value → State → Outcome → State → Prop} {mc ms : Nat} {free : Addr → Prop} (hy : plainName y.cls = true) (hn : (lg_sl av).length ≤ n)
    (body : ∀ p e s m below meth c, CallFix p m c b n s av.toArray BIG y.cls → WW D cy A μ s s.heap [] → (va_X b9 L xs s s.heap ∧ b9 < s.heap.size ∧ ¬ A b9) → meth.sig.returnType = r → meth.locks = false → ∀ ls : Array Slot, lv_has ls n (lv_args 0 av) → W p l e rm s m av.toArray below meth c s.heap [] 0 0 (MQ below Qc av.toArray s mc ms free) (F0 m 0 ls [])) : Met l y (WS y b n r) rm (va_Pc av (PC9 D cy A μ b9 L xs)) Qc mc ms free := by
  refine Met.ofW (cc := b) (maxL := n) (ret := r) hy rfl ?_
  intro p e s m args below meth c s₁ B hml hv
  obtain ⟨rfl, hw, hx9⟩ := hv
  have hts := atoms_spec (ws := WS y b n r) B.pre
  have hl := lv_entry av (n := n) hn
  rw [lg_entry_eq]
  exact body p e s m below meth c ⟨B.exec, B.bytes, hml, findClass_of_methodNamed B.named, fun w h => hts w (List.mem_cons_of_mem _ h)⟩ hw.start hx9 B.returns B.notSynchronized _ hl
section CE
variable {p : Program} {l : Launch} {e : Env} {R : Room} {s : State} {m : MethodId} {args : Array Value} {below : List Frame} {meth : Method} {c : Code} {H : Heap} {locs : List Loc} {cells slots : Nat} {Q : State → Prop}
variable {cc : ByteArray} {nL pc : Nat} {ls : Array Slot} {rest st0 : List Value} {D : va_G} {cy : Nat → ClassId} {A : Nat → Prop} {μ : MU} {own : String}
theorem q_rS9 (F : CallFix p m c cc nL s args BIG own) (w : WW D cy A μ s H locs) {b9 L : Nat} {xs : Nat → Int32} (hX : va_X b9 L xs s s.heap) (hbl : b9 < s.heap.size) (hbA : ¬ A b9) {y : MethodName} {b : ByteArray} {n k idx : Nat} {r : Option FieldType} {rm : Room} {v : Int32} {As : List Value} (hg : GoodIn BIG (va_wsS own idx y (WS y b n r))) (hd : y.cls ≠ "java/lang/invoke/MethodHandle" ∧ y.cls ≠ "java/lang/invoke/VarHandle" ∧ (parseMethodDescriptor y.desc).map (fun d => d.parameters.length) = some k)
    (hM : Met l y (WS y b n r) rm (va_Pc As (PC9 D cy A μ b9 L xs)) (QcRead v) 0 0 (fun _ => False)) (hdg : decode cc pc = .ok (.invokestatic idx, 3)) (hn : As.length = k) (hst : st0 = As.reverse ++ rest) (hsz : ls.size = nL) (hR : rm.cells = 0 ∧ rm.slots = 0 ∧ rm.frames + 1 ≤ R.frames ∧ 8 + (n + 11) + rm.locals ≤ R.locals) (hroom : (rest.map fun v => v.category).sum ≤ 8)
    (hf : cells ≤ R.cells ∧ slots ≤ R.slots) (kk : W p l e R s m args below meth c H locs cells slots Q (F0 m (pc + 3) ls (.int v :: rest))) : W p l e R s m args below meth c H locs cells slots Q (F0 m pc ls st0) :=
  W.callR (W.runS (As := As) (rest := rest) F hM (va_cwS k F.2.2.2.2 hg rfl hR.1 hR.2.1 hd ⟨hR.2.2.1, hR.2.2.2⟩) ⟨PC9.blind, fun U hU hW => ⟨rfl, w.at hU hW, by rw [hU]; exact (hX.kept (w.2.2.2.1.2.1 b9 hbl hbA)).moved hW.alike, by rw [hU]; exact Nat.lt_of_lt_of_le hbl w.2.2.2.1.1, hbA⟩⟩ rfl hn hsz hst (lv_room hroom) hdg ⟨hf.1, hf.2⟩) kk
end CE
def fcell (L : Nat) (xs : Nat → Int32) (x : Nat) : Int32 := if nI L ≤ nI x then 1205587473 * (nI x + 11) else xs x
theorem c_L_cell (l : Launch) (D : va_G) (cy : Nat → ClassId) (A : Nat → Prop) (μ : MU) {b9 L : Nat} (xs : Nat → Int32) (x : Nat) (hx31 : x < 2 ^ 31) (hL : L ≤ 260) : Met l yL_cell (WS yL_cell cL_cell 2 (Option.some Jvm.ClassFile.FieldType.int)) { frames := 0, cells := 0, slots := 0, locals := 0 } (va_Pc [.ref b9, .int (nI x)] (PC9 D cy A μ b9 L xs)) (QcRead (fcell L xs x)) 0 0 (fun _ => False) := by
  refine q_met9 (by decide) (Nat.le_of_ble_eq_true rfl) ?_
  intro p e s m below meth c F w hX hr hlk ls hl
  have F : CallFix p m c cL_cell 2 s _ BIG RL := F
  have hl : lv_has ls 2 [(0, .ref b9), (1, .int (nI x))] := hl
  refine lv_iload_n F.1 F.2.1 dL_cell_0 rfl (lv_at hl 1 rfl) ?_
  refine lv_aload_n F.1 F.2.1 dL_cell_1 rfl (lv_at hl 0 rfl) ?_
  refine va_slen F.1 F.2.1 hX.1 hX.2.1 hX.2.2 w.2.2.2.1 dL_cell_2 ?_
  refine lv_fold (y := nI L) rfl ?_
  refine lv_icmp_ge (tgt := 12) F.1 F.2.1 dL_cell_3 (by decide) (fun c_1 => ?_) (fun c_1 => ?_)
  · refine lv_ldc F.1 F.2.1 F.2.2.2.1 (F.2.2.2.2 _ wK_L_7) dL_cell_12 ?_
    refine lv_iload_n F.1 F.2.1 dL_cell_14 rfl (lv_at hl 1 rfl) ?_
    refine lv_bipush (v := 11) F.1 F.2.1 dL_cell_15 (by decide) ?_
    refine lv_iadd F.1 F.2.1 dL_cell_17 ?_
    refine lv_imul F.1 F.2.1 dL_cell_18 ?_
    exact q_reti F hr hlk (if_pos c_1) dL_cell_19
  · have hx : x < L := Nat.lt_of_not_le (fun q => c_1 (nI_le q hx31))
    refine lv_aload_n F.1 F.2.1 dL_cell_6 rfl (lv_at hl 0 rfl) ?_
    refine lv_iload_n F.1 F.2.1 dL_cell_7 rfl (lv_at hl 1 rfl) ?_
    refine va_sld F.1 F.2.1 hX.1 hX.2.1 hX.2.2 w.2.2.2.1 (vp_in_nI hx (by omega)) dL_cell_8 ?_
    refine lv_fold (y := xs x) (by rw [nI_clamp (by omega)]) ?_
    refine lv_goto (tgt := 19) F.1 F.2.1 dL_cell_9 (by decide) ?_
    exact q_reti F hr hlk (if_neg c_1) dL_cell_19
