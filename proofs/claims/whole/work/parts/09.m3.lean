theorem wArI : Cond.arrayClass .int ∈ BIG := BIG_t 79 (by decide +kernel) (by decide +kernel)
theorem wArZ : Cond.arrayClass .boolean ∈ BIG := BIG_t 78 (by decide +kernel) (by decide +kernel)
theorem wArJ : Cond.arrayClass .long ∈ BIG := BIG_t 1226 (by decide +kernel) (by decide +kernel)
theorem wObjI : Cond.instanceMethod objectInit ∈ BIG := BIG_t 31 (by decide +kernel) (by decide +kernel)
theorem wObjC : Cond.code objectInit ⟨#[0xb1]⟩ 1 none ∈ BIG := BIG_t 32 (by decide +kernel) (by decide +kernel)
theorem wO_X6_1 : Cond.methodLink RX6 1 objectInit ∈ BIG := BIG_t 30 (by decide +kernel) (by decide +kernel)
theorem wO_Jxa1e45_1 : Cond.methodLink RJxa1e45 1 objectInit ∈ BIG := BIG_t 44 (by decide +kernel) (by decide +kernel)
theorem wO_X4_3 : Cond.methodLink RX4 3 objectInit ∈ BIG := BIG_t 212 (by decide +kernel) (by decide +kernel)
theorem wO_X2_1 : Cond.methodLink RX2 1 objectInit ∈ BIG := BIG_t 293 (by decide +kernel) (by decide +kernel)
theorem wO_X3_1 : Cond.methodLink RX3 1 objectInit ∈ BIG := BIG_t 419 (by decide +kernel) (by decide +kernel)
theorem wO_X0_3 : Cond.methodLink RX0 3 objectInit ∈ BIG := BIG_t 478 (by decide +kernel) (by decide +kernel)
theorem wO_X5_3 : Cond.methodLink RX5 3 objectInit ∈ BIG := BIG_t 624 (by decide +kernel) (by decide +kernel)
theorem wO_X1_1 : Cond.methodLink RX1 1 objectInit ∈ BIG := BIG_t 705 (by decide +kernel) (by decide +kernel)
theorem wO_X7_1 : Cond.methodLink RX7 1 objectInit ∈ BIG := BIG_t 869 (by decide +kernel) (by decide +kernel)
section QN
variable {p : Program} {l : Launch} {e : Env} {R : Room} {s : State} {m : MethodId} {args : Array Value} {below : List Frame} {meth : Method} {c : Code} {H : Heap} {locs : List Loc} {cells slots : Nat} {Q : State → Prop}
variable {cc : ByteArray} {nL pc : Nat} {ls : Array Slot} {rest st0 : List Value} {D : va_G} {cy : Nat → ClassId} {A : Nat → Prop} {a : Nat} {μ : MU} {own : String}
theorem q_obj (F : CallFix p m c cc nL s args BIG own) {idx : Nat} (h1 : Cond.methodLink own idx objectInit ∈ BIG) (hdg : decode cc pc = .ok (.invokespecial idx, 3)) (hsz : ls.size = nL) (hfr : 1 ≤ R.frames) (hlo : 2 * 0 + (rest.map fun v => v.category).sum + 12 ≤ R.locals) (kk : W p l e R s m args below meth c H locs cells slots Q (F0 m (pc + 3) ls rest)) : W p l e R s m args below meth c H locs cells slots Q (F0 m pc ls (.ref a :: rest)) :=
  W.objInit F.1 F.2.1 F.2.2.2.1 (F.2.2.2.2 _ h1) (F.2.2.2.2 _ wObjI) (F.2.2.2.2 _ wObjC) rfl (hsz.trans F.2.2.1.symm) rfl hdg hfr hlo (W.eq (g2 := F0 m (pc + 3) ls rest) rfl kk)
theorem q_newI (F : CallFix p m c cc nL s args BIG own) (w : WW D cy A μ s H locs) {n : Int32} (N : Nat) (hn : n = nI N) (hN : N < 100000) (hcells : cells + 1 ≤ R.cells) (hslots : slots + N ≤ R.slots) (hdg : decode cc pc = .ok (.newarray .int, 2))
    (kk : ∀ (q : Nat) (H1 : Heap), μ q = none → WW D cy A (mset μ q (.inl (cy 0, N, .inl (fun _ => 0)))) s H1 locs → W p l e R s m args below meth c H1 locs (cells + 1) (slots + N) Q (F0 m (pc + 2) ls (.ref q :: rest))) : W p l e R s m args below meth c H locs cells slots Q (F0 m pc ls (.int n :: rest)) := by
  obtain ⟨hP, hK, hA, hS, hE⟩ := w
  have hN2 : N < 2 ^ 31 := Nat.lt_trans hN (by decide)
  subst hn
  have hby : N * componentBytes (FieldType.int) ≤ 536870912 := Nat.le_trans (Nat.mul_le_mul (Nat.le_of_lt hN) (by decide : componentBytes (FieldType.int) ≤ 8)) (by decide)
  refine va_newa (atype := .int) (a0 := (N, .inl (fun _ => 0))) F.1 F.2.1 (F.2.2.2.2 _ wArI) rfl hK hP.lP hP.lD hS hA (fun _ => rfl) (nI_pos hN2) (nI_clamp hN2) hby hcells hslots hdg (fun q cA H1 hK1 hP1 hD1 hS1 => ?_)
  have hcy : cA = cy 0 := Option.some.inj ((hK1.2 5 _ rfl).2.symm.trans (hK.2 0 _ rfl).2)
  subst hcy
  exact kk q H1 (hP.new hP1 hD1).1 ⟨(hP.new hP1 hD1).2, hK, hA, hS1, hE⟩
theorem q_newZ (F : CallFix p m c cc nL s args BIG own) (w : WW D cy A μ s H locs) {n : Int32} (N : Nat) (hn : n = nI N) (hN : N < 100000) (hcells : cells + 1 ≤ R.cells) (hslots : slots + N ≤ R.slots) (hdg : decode cc pc = .ok (.newarray .boolean, 2))
    (kk : ∀ (q : Nat) (H1 : Heap), μ q = none → WW D cy A (mset μ q (.inl (cy 1, N, .inl (fun _ => 0)))) s H1 locs → W p l e R s m args below meth c H1 locs (cells + 1) (slots + N) Q (F0 m (pc + 2) ls (.ref q :: rest))) : W p l e R s m args below meth c H locs cells slots Q (F0 m pc ls (.int n :: rest)) := by
  obtain ⟨hP, hK, hA, hS, hE⟩ := w
  have hN2 : N < 2 ^ 31 := Nat.lt_trans hN (by decide)
  subst hn
  have hby : N * componentBytes (FieldType.boolean) ≤ 536870912 := Nat.le_trans (Nat.mul_le_mul (Nat.le_of_lt hN) (by decide : componentBytes (FieldType.boolean) ≤ 8)) (by decide)
  refine va_newa (atype := .boolean) (a0 := (N, .inl (fun _ => 0))) F.1 F.2.1 (F.2.2.2.2 _ wArZ) rfl hK hP.lP hP.lD hS hA (fun _ => rfl) (nI_pos hN2) (nI_clamp hN2) hby hcells hslots hdg (fun q cA H1 hK1 hP1 hD1 hS1 => ?_)
  have hcy : cA = cy 1 := Option.some.inj ((hK1.2 5 _ rfl).2.symm.trans (hK.2 1 _ rfl).2)
  subst hcy
  exact kk q H1 (hP.new hP1 hD1).1 ⟨(hP.new hP1 hD1).2, hK, hA, hS1, hE⟩
theorem q_newJ (F : CallFix p m c cc nL s args BIG own) (w : WW D cy A μ s H locs) {n : Int32} (N : Nat) (hn : n = nI N) (hN : N < 100000) (hcells : cells + 1 ≤ R.cells) (hslots : slots + N ≤ R.slots) (hdg : decode cc pc = .ok (.newarray .long, 2))
    (kk : ∀ (q : Nat) (H1 : Heap), μ q = none → WW D cy A (mset μ q (.inl (cy 4, N, .inr (.inl (fun _ => 0))))) s H1 locs → W p l e R s m args below meth c H1 locs (cells + 1) (slots + N) Q (F0 m (pc + 2) ls (.ref q :: rest))) : W p l e R s m args below meth c H locs cells slots Q (F0 m pc ls (.int n :: rest)) := by
  obtain ⟨hP, hK, hA, hS, hE⟩ := w
  have hN2 : N < 2 ^ 31 := Nat.lt_trans hN (by decide)
  subst hn
  have hby : N * componentBytes (FieldType.long) ≤ 536870912 := Nat.le_trans (Nat.mul_le_mul (Nat.le_of_lt hN) (by decide : componentBytes (FieldType.long) ≤ 8)) (by decide)
  refine va_newa (atype := .long) (a0 := (N, .inr (.inl (fun _ => 0)))) F.1 F.2.1 (F.2.2.2.2 _ wArJ) rfl hK hP.lP hP.lD hS hA (fun _ => rfl) (nI_pos hN2) (nI_clamp hN2) hby hcells hslots hdg (fun q cA H1 hK1 hP1 hD1 hS1 => ?_)
  have hcy : cA = cy 4 := Option.some.inj ((hK1.2 5 _ rfl).2.symm.trans (hK.2 4 _ rfl).2)
  subst hcy
  exact kk q H1 (hP.new hP1 hD1).1 ⟨(hP.new hP1 hD1).2, hK, hA, hS1, hE⟩
theorem q_newQ (F : CallFix p m c cc nL s args BIG own) (w : WW D cy A μ s H locs) {C : String} {index : Nat} (t0 : Nat) {cA : ClassId} (ht : (tysC cy)[t0]? = some (cA, .object C)) (hcl : Cond.classLink own index C ∈ BIG) (hover : va_AO C s) {n : Int32} (N : Nat) (hn : n = nI N) (hN : N < 100000) (hcells : cells + 1 ≤ R.cells) (hslots : slots + N ≤ R.slots) (hdg : decode cc pc = .ok (.anewarray index, 3))
    (kk : ∀ (q : Nat) (H1 : Heap), μ q = none → WW D cy A (mset μ q (.inl (cA, N, .inr (.inr (.inr (.inr (fun _ => none))))))) s H1 locs → W p l e R s m args below meth c H1 locs (cells + 1) (slots + N) Q (F0 m (pc + 3) ls (.ref q :: rest))) : W p l e R s m args below meth c H locs cells slots Q (F0 m pc ls (.int n :: rest)) := by
  obtain ⟨hP, hK, hA, hS, hE⟩ := w
  have hN2 : N < 2 ^ 31 := Nat.lt_trans hN (by decide)
  subst hn
  refine va_newq F.1 F.2.1 F.2.2.2.1 (F.2.2.2.2 _ hcl) hover hK hP.lP hP.lD hS hA (nI_pos hN2) (nI_clamp hN2) (by omega) hcells hslots hdg (fun q cA1 H1 hK1 hP1 hD1 hS1 => ?_)
  have hcy : cA1 = cA := by
    obtain ⟨_, _, _, _, _, g4⟩ := (hK.2 t0 _ ht).2
    obtain ⟨_, _, _, _, _, f4⟩ := (hK1.2 5 _ rfl).2
    exact Option.some.inj (f4.symm.trans g4)
  subst hcy
  exact kk q H1 (hP.new hP1 hD1).1 ⟨(hP.new hP1 hD1).2, hK, hA, hS1, hE⟩
end QN
def mObjP (K : List Nat) (ad : Nat → Nat) : List Value := (List.range 44).map (fun j => if mSc j = true then .int 0 else if j ∈ K then .ref (ad j) else .null)
theorem mObjP_len (K : List Nat) (ad : Nat → Nat) : 44 = (mObjP K ad).length := by simp [mObjP]
def QM (cy : Nat → ClassId) (m0 : Nat) (K : List Nat) (ad : Nat → Nat) (μ : MU) : Prop := μ m0 = some (.inr (8, mObjP K ad)) ∧ (∀ k ∈ K, μ (ad k) = some (.inl (cy (mTy k), mLen k, .inl (fun _ => 0)))) ∧ ∀ j ∈ K, ∀ k ∈ K, ad j = ad k → j = k
theorem QM.ne {cy : Nat → ClassId} {m0 : Nat} {K : List Nat} {ad : Nat → Nat} {μ : MU} (h : QM cy m0 K ad μ) {q : Nat} (hq : μ q = none) : m0 ≠ q := fun e => by rw [← e, h.1] at hq; cases hq
theorem QM.obj {cy : Nat → ClassId} {m0 : Nat} {K : List Nat} {ad : Nat → Nat} {μ : MU} (h : QM cy m0 K ad μ) {q : Nat} (hq : μ q = none) {e : va_E} : mset μ q e m0 = some (.inr (8, mObjP K ad)) := (mset_ne (h.ne hq)).trans h.1
theorem mObjP_set {K : List Nat} {ad : Nat → Nat} {k q : Nat} (hs : mSc k = false) : (mObjP K ad).set k (.ref q) = mObjP (k :: K) (va_up ad k q) := by
  unfold mObjP
  apply List.ext_getElem
  · simp
  · intro i h1 h2
    rw [List.getElem_set, List.getElem_map, List.getElem_map, List.getElem_range]
    by_cases hik : k = i
    · subst hik
      rw [if_pos rfl, if_neg (by rw [hs]; decide), if_pos List.mem_cons_self, va_up_self]
    · rw [if_neg hik]
      have hm : (i ∈ k :: K) ↔ i ∈ K := ⟨fun h => (List.mem_cons.mp h).elim (fun e => absurd e.symm hik) id, fun h => List.mem_cons_of_mem _ h⟩
      simp only [hm, va_up_ne _ _ (Ne.symm hik)]
theorem QM.step {D : va_G} {A : Nat → Prop} {s : State} {H : Heap} {locs : List Loc} {cy : Nat → ClassId} {m0 : Nat} {K : List Nat} {ad : Nat → Nat} {μ : MU} (h : QM cy m0 K ad μ) (k : Nat) {q : Nat} (hs : mSc k = false) (hk : k ∉ K) (hq : μ q = none) (w : WW D cy A (mset (mset μ q (.inl (cy (mTy k), mLen k, .inl (fun _ => 0)))) m0 (.inr (8, (mObjP K ad).set k (.ref q)))) s H locs) : ∃ (ad1 : Nat → Nat) (μ1 : MU), QM cy m0 (k :: K) ad1 μ1 ∧ WW D cy A μ1 s H locs := by
  refine ⟨va_up ad k q, _, ⟨?_, fun j hj => ?_, fun j hj i hi hji => ?_⟩, w⟩
  · rw [mset_eq, mObjP_set hs]
  · by_cases hjk : j = k
    · subst hjk
      rw [va_up_self, mset_ne (Ne.symm (h.ne hq)), mset_eq]
    · have hjK : j ∈ K := (List.mem_cons.mp hj).resolve_left hjk
      have h1 := h.2.1 j hjK
      rw [va_up_ne _ _ hjk, mset_ne (fun e => by rw [e, h.1] at h1; cases h1), mset_ne (fun e => by rw [e, hq] at h1; cases h1)]
      exact h1
  · by_cases hjk : j = k <;> by_cases hik : i = k
    · rw [hjk, hik]
    · have hiK : i ∈ K := (List.mem_cons.mp hi).resolve_left hik
      have h1 := h.2.1 i hiK
      rw [hjk, va_up_self, va_up_ne _ _ hik] at hji
      rw [← hji, hq] at h1; cases h1
    · have hjK : j ∈ K := (List.mem_cons.mp hj).resolve_left hjk
      have h1 := h.2.1 j hjK
      rw [hik, va_up_self, va_up_ne _ _ hjk] at hji
      rw [hji, hq] at h1; cases h1
    · rw [va_up_ne _ _ hjk, va_up_ne _ _ hik] at hji
      exact h.2.2 j ((List.mem_cons.mp hj).resolve_left hjk) i ((List.mem_cons.mp hi).resolve_left hik) hji

theorem QM.fin {cy : Nat → ClassId} {m0 : Nat} {ad : Nat → Nat} {μ : MU} (h : QM cy m0 [43, 42, 41, 40, 39, 38, 37, 36, 35, 34, 33, 32, 31, 30, 28, 27, 26, 25, 24, 22, 21, 20, 19, 18, 17, 16, 15, 14, 13, 12, 11, 10, 9, 8, 7, 6, 5, 4, 2] ad μ) : RepM cy m0 ad (fun _ _ => 0) μ := by
  have hm : ∀ k, k < 44 → mSc k = false → k ∈ ([43, 42, 41, 40, 39, 38, 37, 36, 35, 34, 33, 32, 31, 30, 28, 27, 26, 25, 24, 22, 21, 20, 19, 18, 17, 16, 15, 14, 13, 12, 11, 10, 9, 8, 7, 6, 5, 4, 2] : List Nat) := by decide
  exact ⟨h.1, fun k h1 h2 => h.2.1 k (hm k h1 h2), fun j k h1 h2 h3 h4 e => h.2.2 j (hm j h1 h3) k (hm k h2 h4) e⟩
set_option maxHeartbeats 4000000 in
set_option maxRecDepth 100000 in
theorem c_X7_init (l : Launch) (D : va_G) (cy : Nat → ClassId) (A : Nat → Prop) (μ : MU) (m0 : Nat) (h0 : μ m0 = some (.inr (8, mObjP [] (fun _ => 0)))) : Met l yX7_init (WS yX7_init cX7_init 1 none) { frames := 1, cells := 39, slots := 2676, locals := 12 } (va_Pc [.ref m0] (Wd D cy A μ)) (va_Qv (fun μ1 : MU => ∃ ad : Nat → Nat, RepM cy m0 ad (fun _ _ => 0) μ1) (fun μ1 t => Wd D cy A μ1 t) A) 39 2676 A := by
  refine q_met (by decide) (Nat.le_of_ble_eq_true rfl) ?_
  intro p e s m below meth c F w hr hlk hnm ls hl
  have F : CallFix p m c cX7_init 1 s _ BIG RX7 := F
  have hnm : meth.name = "<init>" := hnm
  have hl : lv_has ls 1 [(0, .ref m0)] := hl
  have hQ : QM cy m0 [] (fun _ => 0) μ := ⟨h0, fun _ h => (nomatch h), fun _ h => (nomatch h)⟩
  refine lv_aload_n F.1 F.2.1 dX7_init_0 rfl (lv_at hl 0 rfl) ?_
  refine q_obj F wO_X7_1 dX7_init_1 hl.1 (Nat.le_of_ble_eq_true rfl) (Nat.le_of_ble_eq_true rfl) ?_
  refine lv_aload_n F.1 F.2.1 dX7_init_4 rfl (lv_at hl 0 rfl) ?_
  refine lv_iconst (v := 4) F.1 F.2.1 dX7_init_5 (by decide) ?_
  refine q_newZ F w 4 rfl (by decide) (Nat.le_of_ble_eq_true rfl) (Nat.le_of_ble_eq_true rfl) dX7_init_6 (fun q H hq w => ?_)
  refine pf_X7_7 F w (mObjP_len _ _) hnm (hQ.obj hq) rfl rfl dX7_init_8 (fun H locs w => ?_)
  obtain ⟨ad, μ, hQ, w⟩ := hQ.step 2 rfl (by decide) hq w
  refine lv_aload_n F.1 F.2.1 dX7_init_11 rfl (lv_at hl 0 rfl) ?_
  refine lv_bipush (v := 12) F.1 F.2.1 dX7_init_12 (by decide) ?_
  refine q_newI F w 12 rfl (by decide) (Nat.le_of_ble_eq_true rfl) (Nat.le_of_ble_eq_true rfl) dX7_init_14 (fun q H hq w => ?_)
  refine pf_X7_13 F w (mObjP_len _ _) hnm (hQ.obj hq) rfl rfl dX7_init_16 (fun H locs w => ?_)
  obtain ⟨ad, μ, hQ, w⟩ := hQ.step 4 rfl (by decide) hq w
  refine lv_aload_n F.1 F.2.1 dX7_init_19 rfl (lv_at hl 0 rfl) ?_
  refine lv_bipush (v := 12) F.1 F.2.1 dX7_init_20 (by decide) ?_
  refine q_newI F w 12 rfl (by decide) (Nat.le_of_ble_eq_true rfl) (Nat.le_of_ble_eq_true rfl) dX7_init_22 (fun q H hq w => ?_)
  refine pf_X7_17 F w (mObjP_len _ _) hnm (hQ.obj hq) rfl rfl dX7_init_24 (fun H locs w => ?_)
  obtain ⟨ad, μ, hQ, w⟩ := hQ.step 5 rfl (by decide) hq w
  refine lv_aload_n F.1 F.2.1 dX7_init_27 rfl (lv_at hl 0 rfl) ?_
  refine lv_bipush (v := 12) F.1 F.2.1 dX7_init_28 (by decide) ?_
  refine q_newI F w 12 rfl (by decide) (Nat.le_of_ble_eq_true rfl) (Nat.le_of_ble_eq_true rfl) dX7_init_30 (fun q H hq w => ?_)
  refine pf_X7_20 F w (mObjP_len _ _) hnm (hQ.obj hq) rfl rfl dX7_init_32 (fun H locs w => ?_)
  obtain ⟨ad, μ, hQ, w⟩ := hQ.step 6 rfl (by decide) hq w
  refine lv_aload_n F.1 F.2.1 dX7_init_35 rfl (lv_at hl 0 rfl) ?_
  refine lv_bipush (v := 12) F.1 F.2.1 dX7_init_36 (by decide) ?_
  refine q_newI F w 12 rfl (by decide) (Nat.le_of_ble_eq_true rfl) (Nat.le_of_ble_eq_true rfl) dX7_init_38 (fun q H hq w => ?_)
  refine pf_X7_23 F w (mObjP_len _ _) hnm (hQ.obj hq) rfl rfl dX7_init_40 (fun H locs w => ?_)
  obtain ⟨ad, μ, hQ, w⟩ := hQ.step 7 rfl (by decide) hq w
  refine lv_aload_n F.1 F.2.1 dX7_init_43 rfl (lv_at hl 0 rfl) ?_
  refine lv_bipush (v := 12) F.1 F.2.1 dX7_init_44 (by decide) ?_
  refine q_newI F w 12 rfl (by decide) (Nat.le_of_ble_eq_true rfl) (Nat.le_of_ble_eq_true rfl) dX7_init_46 (fun q H hq w => ?_)
  refine pf_X7_26 F w (mObjP_len _ _) hnm (hQ.obj hq) rfl rfl dX7_init_48 (fun H locs w => ?_)
  obtain ⟨ad, μ, hQ, w⟩ := hQ.step 8 rfl (by decide) hq w
  refine lv_aload_n F.1 F.2.1 dX7_init_51 rfl (lv_at hl 0 rfl) ?_
  refine lv_bipush (v := 12) F.1 F.2.1 dX7_init_52 (by decide) ?_
  refine q_newI F w 12 rfl (by decide) (Nat.le_of_ble_eq_true rfl) (Nat.le_of_ble_eq_true rfl) dX7_init_54 (fun q H hq w => ?_)
  refine pf_X7_29 F w (mObjP_len _ _) hnm (hQ.obj hq) rfl rfl dX7_init_56 (fun H locs w => ?_)
  obtain ⟨ad, μ, hQ, w⟩ := hQ.step 9 rfl (by decide) hq w
  refine lv_aload_n F.1 F.2.1 dX7_init_59 rfl (lv_at hl 0 rfl) ?_
  refine lv_bipush (v := 12) F.1 F.2.1 dX7_init_60 (by decide) ?_
  refine q_newI F w 12 rfl (by decide) (Nat.le_of_ble_eq_true rfl) (Nat.le_of_ble_eq_true rfl) dX7_init_62 (fun q H hq w => ?_)
  refine pf_X7_32 F w (mObjP_len _ _) hnm (hQ.obj hq) rfl rfl dX7_init_64 (fun H locs w => ?_)
  obtain ⟨ad, μ, hQ, w⟩ := hQ.step 10 rfl (by decide) hq w
  refine lv_aload_n F.1 F.2.1 dX7_init_67 rfl (lv_at hl 0 rfl) ?_
  refine lv_bipush (v := 12) F.1 F.2.1 dX7_init_68 (by decide) ?_
  refine q_newI F w 12 rfl (by decide) (Nat.le_of_ble_eq_true rfl) (Nat.le_of_ble_eq_true rfl) dX7_init_70 (fun q H hq w => ?_)
  refine pf_X7_35 F w (mObjP_len _ _) hnm (hQ.obj hq) rfl rfl dX7_init_72 (fun H locs w => ?_)
  obtain ⟨ad, μ, hQ, w⟩ := hQ.step 11 rfl (by decide) hq w
  refine lv_aload_n F.1 F.2.1 dX7_init_75 rfl (lv_at hl 0 rfl) ?_
  refine lv_bipush (v := 12) F.1 F.2.1 dX7_init_76 (by decide) ?_
  refine q_newI F w 12 rfl (by decide) (Nat.le_of_ble_eq_true rfl) (Nat.le_of_ble_eq_true rfl) dX7_init_78 (fun q H hq w => ?_)
  refine pf_X7_38 F w (mObjP_len _ _) hnm (hQ.obj hq) rfl rfl dX7_init_80 (fun H locs w => ?_)
  obtain ⟨ad, μ, hQ, w⟩ := hQ.step 12 rfl (by decide) hq w
  refine lv_aload_n F.1 F.2.1 dX7_init_83 rfl (lv_at hl 0 rfl) ?_
  refine lv_bipush (v := 12) F.1 F.2.1 dX7_init_84 (by decide) ?_
  refine q_newI F w 12 rfl (by decide) (Nat.le_of_ble_eq_true rfl) (Nat.le_of_ble_eq_true rfl) dX7_init_86 (fun q H hq w => ?_)
  refine pf_X7_41 F w (mObjP_len _ _) hnm (hQ.obj hq) rfl rfl dX7_init_88 (fun H locs w => ?_)
  obtain ⟨ad, μ, hQ, w⟩ := hQ.step 13 rfl (by decide) hq w
  refine lv_aload_n F.1 F.2.1 dX7_init_91 rfl (lv_at hl 0 rfl) ?_
  refine lv_bipush (v := 12) F.1 F.2.1 dX7_init_92 (by decide) ?_
  refine q_newZ F w 12 rfl (by decide) (Nat.le_of_ble_eq_true rfl) (Nat.le_of_ble_eq_true rfl) dX7_init_94 (fun q H hq w => ?_)
  refine pf_X7_44 F w (mObjP_len _ _) hnm (hQ.obj hq) rfl rfl dX7_init_96 (fun H locs w => ?_)
  obtain ⟨ad, μ, hQ, w⟩ := hQ.step 14 rfl (by decide) hq w
  refine lv_aload_n F.1 F.2.1 dX7_init_99 rfl (lv_at hl 0 rfl) ?_
  refine lv_bipush (v := 12) F.1 F.2.1 dX7_init_100 (by decide) ?_
  refine q_newI F w 12 rfl (by decide) (Nat.le_of_ble_eq_true rfl) (Nat.le_of_ble_eq_true rfl) dX7_init_102 (fun q H hq w => ?_)
  refine pf_X7_47 F w (mObjP_len _ _) hnm (hQ.obj hq) rfl rfl dX7_init_104 (fun H locs w => ?_)
  obtain ⟨ad, μ, hQ, w⟩ := hQ.step 15 rfl (by decide) hq w
  refine lv_aload_n F.1 F.2.1 dX7_init_107 rfl (lv_at hl 0 rfl) ?_
  refine lv_bipush (v := 12) F.1 F.2.1 dX7_init_108 (by decide) ?_
  refine q_newI F w 12 rfl (by decide) (Nat.le_of_ble_eq_true rfl) (Nat.le_of_ble_eq_true rfl) dX7_init_110 (fun q H hq w => ?_)
  refine pf_X7_50 F w (mObjP_len _ _) hnm (hQ.obj hq) rfl rfl dX7_init_112 (fun H locs w => ?_)
  obtain ⟨ad, μ, hQ, w⟩ := hQ.step 16 rfl (by decide) hq w
  refine lv_aload_n F.1 F.2.1 dX7_init_115 rfl (lv_at hl 0 rfl) ?_
  refine lv_bipush (v := 12) F.1 F.2.1 dX7_init_116 (by decide) ?_
  refine q_newI F w 12 rfl (by decide) (Nat.le_of_ble_eq_true rfl) (Nat.le_of_ble_eq_true rfl) dX7_init_118 (fun q H hq w => ?_)
  refine pf_X7_53 F w (mObjP_len _ _) hnm (hQ.obj hq) rfl rfl dX7_init_120 (fun H locs w => ?_)
  obtain ⟨ad, μ, hQ, w⟩ := hQ.step 17 rfl (by decide) hq w
  refine lv_aload_n F.1 F.2.1 dX7_init_123 rfl (lv_at hl 0 rfl) ?_
  refine lv_bipush (v := 60) F.1 F.2.1 dX7_init_124 (by decide) ?_
  refine q_newZ F w 60 rfl (by decide) (Nat.le_of_ble_eq_true rfl) (Nat.le_of_ble_eq_true rfl) dX7_init_126 (fun q H hq w => ?_)
  refine pf_X7_56 F w (mObjP_len _ _) hnm (hQ.obj hq) rfl rfl dX7_init_128 (fun H locs w => ?_)
  obtain ⟨ad, μ, hQ, w⟩ := hQ.step 18 rfl (by decide) hq w
  refine lv_aload_n F.1 F.2.1 dX7_init_131 rfl (lv_at hl 0 rfl) ?_
  refine lv_bipush (v := 60) F.1 F.2.1 dX7_init_132 (by decide) ?_
  refine q_newI F w 60 rfl (by decide) (Nat.le_of_ble_eq_true rfl) (Nat.le_of_ble_eq_true rfl) dX7_init_134 (fun q H hq w => ?_)
  refine pf_X7_59 F w (mObjP_len _ _) hnm (hQ.obj hq) rfl rfl dX7_init_136 (fun H locs w => ?_)
  obtain ⟨ad, μ, hQ, w⟩ := hQ.step 19 rfl (by decide) hq w
  refine lv_aload_n F.1 F.2.1 dX7_init_139 rfl (lv_at hl 0 rfl) ?_
  refine lv_bipush (v := 60) F.1 F.2.1 dX7_init_140 (by decide) ?_
  refine q_newI F w 60 rfl (by decide) (Nat.le_of_ble_eq_true rfl) (Nat.le_of_ble_eq_true rfl) dX7_init_142 (fun q H hq w => ?_)
  refine pf_X7_62 F w (mObjP_len _ _) hnm (hQ.obj hq) rfl rfl dX7_init_144 (fun H locs w => ?_)
  obtain ⟨ad, μ, hQ, w⟩ := hQ.step 20 rfl (by decide) hq w
  refine lv_aload_n F.1 F.2.1 dX7_init_147 rfl (lv_at hl 0 rfl) ?_
  refine lv_bipush (v := 60) F.1 F.2.1 dX7_init_148 (by decide) ?_
  refine q_newI F w 60 rfl (by decide) (Nat.le_of_ble_eq_true rfl) (Nat.le_of_ble_eq_true rfl) dX7_init_150 (fun q H hq w => ?_)
  refine pf_X7_65 F w (mObjP_len _ _) hnm (hQ.obj hq) rfl rfl dX7_init_152 (fun H locs w => ?_)
  obtain ⟨ad, μ, hQ, w⟩ := hQ.step 21 rfl (by decide) hq w
  refine lv_aload_n F.1 F.2.1 dX7_init_155 rfl (lv_at hl 0 rfl) ?_
  refine lv_bipush (v := 60) F.1 F.2.1 dX7_init_156 (by decide) ?_
  refine q_newI F w 60 rfl (by decide) (Nat.le_of_ble_eq_true rfl) (Nat.le_of_ble_eq_true rfl) dX7_init_158 (fun q H hq w => ?_)
  refine pf_X7_68 F w (mObjP_len _ _) hnm (hQ.obj hq) rfl rfl dX7_init_160 (fun H locs w => ?_)
  obtain ⟨ad, μ, hQ, w⟩ := hQ.step 22 rfl (by decide) hq w
  refine lv_aload_n F.1 F.2.1 dX7_init_163 rfl (lv_at hl 0 rfl) ?_
  refine lv_bipush (v := 20) F.1 F.2.1 dX7_init_164 (by decide) ?_
  refine q_newI F w 20 rfl (by decide) (Nat.le_of_ble_eq_true rfl) (Nat.le_of_ble_eq_true rfl) dX7_init_166 (fun q H hq w => ?_)
  refine pf_X7_71 F w (mObjP_len _ _) hnm (hQ.obj hq) rfl rfl dX7_init_168 (fun H locs w => ?_)
  obtain ⟨ad, μ, hQ, w⟩ := hQ.step 24 rfl (by decide) hq w
  refine lv_aload_n F.1 F.2.1 dX7_init_171 rfl (lv_at hl 0 rfl) ?_
  refine lv_bipush (v := 20) F.1 F.2.1 dX7_init_172 (by decide) ?_
  refine q_newI F w 20 rfl (by decide) (Nat.le_of_ble_eq_true rfl) (Nat.le_of_ble_eq_true rfl) dX7_init_174 (fun q H hq w => ?_)
  refine pf_X7_74 F w (mObjP_len _ _) hnm (hQ.obj hq) rfl rfl dX7_init_176 (fun H locs w => ?_)
  obtain ⟨ad, μ, hQ, w⟩ := hQ.step 25 rfl (by decide) hq w
  refine lv_aload_n F.1 F.2.1 dX7_init_179 rfl (lv_at hl 0 rfl) ?_
  refine lv_bipush (v := 20) F.1 F.2.1 dX7_init_180 (by decide) ?_
  refine q_newI F w 20 rfl (by decide) (Nat.le_of_ble_eq_true rfl) (Nat.le_of_ble_eq_true rfl) dX7_init_182 (fun q H hq w => ?_)
  refine pf_X7_77 F w (mObjP_len _ _) hnm (hQ.obj hq) rfl rfl dX7_init_184 (fun H locs w => ?_)
  obtain ⟨ad, μ, hQ, w⟩ := hQ.step 26 rfl (by decide) hq w
  refine lv_aload_n F.1 F.2.1 dX7_init_187 rfl (lv_at hl 0 rfl) ?_
  refine lv_bipush (v := 20) F.1 F.2.1 dX7_init_188 (by decide) ?_
  refine q_newI F w 20 rfl (by decide) (Nat.le_of_ble_eq_true rfl) (Nat.le_of_ble_eq_true rfl) dX7_init_190 (fun q H hq w => ?_)
  refine pf_X7_80 F w (mObjP_len _ _) hnm (hQ.obj hq) rfl rfl dX7_init_192 (fun H locs w => ?_)
  obtain ⟨ad, μ, hQ, w⟩ := hQ.step 27 rfl (by decide) hq w
  refine lv_aload_n F.1 F.2.1 dX7_init_195 rfl (lv_at hl 0 rfl) ?_
  refine lv_bipush (v := 20) F.1 F.2.1 dX7_init_196 (by decide) ?_
  refine q_newI F w 20 rfl (by decide) (Nat.le_of_ble_eq_true rfl) (Nat.le_of_ble_eq_true rfl) dX7_init_198 (fun q H hq w => ?_)
  refine pf_X7_83 F w (mObjP_len _ _) hnm (hQ.obj hq) rfl rfl dX7_init_200 (fun H locs w => ?_)
  obtain ⟨ad, μ, hQ, w⟩ := hQ.step 28 rfl (by decide) hq w
  refine lv_aload_n F.1 F.2.1 dX7_init_203 rfl (lv_at hl 0 rfl) ?_
  refine lv_bipush (v := 60) F.1 F.2.1 dX7_init_204 (by decide) ?_
  refine q_newI F w 60 rfl (by decide) (Nat.le_of_ble_eq_true rfl) (Nat.le_of_ble_eq_true rfl) dX7_init_206 (fun q H hq w => ?_)
  refine pf_X7_86 F w (mObjP_len _ _) hnm (hQ.obj hq) rfl rfl dX7_init_208 (fun H locs w => ?_)
  obtain ⟨ad, μ, hQ, w⟩ := hQ.step 30 rfl (by decide) hq w
  refine lv_aload_n F.1 F.2.1 dX7_init_211 rfl (lv_at hl 0 rfl) ?_
  refine lv_bipush (v := 60) F.1 F.2.1 dX7_init_212 (by decide) ?_
  refine q_newI F w 60 rfl (by decide) (Nat.le_of_ble_eq_true rfl) (Nat.le_of_ble_eq_true rfl) dX7_init_214 (fun q H hq w => ?_)
  refine pf_X7_89 F w (mObjP_len _ _) hnm (hQ.obj hq) rfl rfl dX7_init_216 (fun H locs w => ?_)
  obtain ⟨ad, μ, hQ, w⟩ := hQ.step 31 rfl (by decide) hq w
  refine lv_aload_n F.1 F.2.1 dX7_init_219 rfl (lv_at hl 0 rfl) ?_
  refine lv_bipush (v := 60) F.1 F.2.1 dX7_init_220 (by decide) ?_
  refine q_newI F w 60 rfl (by decide) (Nat.le_of_ble_eq_true rfl) (Nat.le_of_ble_eq_true rfl) dX7_init_222 (fun q H hq w => ?_)
  refine pf_X7_92 F w (mObjP_len _ _) hnm (hQ.obj hq) rfl rfl dX7_init_224 (fun H locs w => ?_)
  obtain ⟨ad, μ, hQ, w⟩ := hQ.step 32 rfl (by decide) hq w
  refine lv_aload_n F.1 F.2.1 dX7_init_227 rfl (lv_at hl 0 rfl) ?_
  refine lv_bipush (v := 60) F.1 F.2.1 dX7_init_228 (by decide) ?_
  refine q_newI F w 60 rfl (by decide) (Nat.le_of_ble_eq_true rfl) (Nat.le_of_ble_eq_true rfl) dX7_init_230 (fun q H hq w => ?_)
  refine pf_X7_95 F w (mObjP_len _ _) hnm (hQ.obj hq) rfl rfl dX7_init_232 (fun H locs w => ?_)
  obtain ⟨ad, μ, hQ, w⟩ := hQ.step 33 rfl (by decide) hq w
  refine lv_aload_n F.1 F.2.1 dX7_init_235 rfl (lv_at hl 0 rfl) ?_
  refine lv_bipush (v := 60) F.1 F.2.1 dX7_init_236 (by decide) ?_
  refine q_newI F w 60 rfl (by decide) (Nat.le_of_ble_eq_true rfl) (Nat.le_of_ble_eq_true rfl) dX7_init_238 (fun q H hq w => ?_)
  refine pf_X7_98 F w (mObjP_len _ _) hnm (hQ.obj hq) rfl rfl dX7_init_240 (fun H locs w => ?_)
  obtain ⟨ad, μ, hQ, w⟩ := hQ.step 34 rfl (by decide) hq w
  refine lv_aload_n F.1 F.2.1 dX7_init_243 rfl (lv_at hl 0 rfl) ?_
  refine lv_bipush (v := 60) F.1 F.2.1 dX7_init_244 (by decide) ?_
  refine q_newI F w 60 rfl (by decide) (Nat.le_of_ble_eq_true rfl) (Nat.le_of_ble_eq_true rfl) dX7_init_246 (fun q H hq w => ?_)
  refine pf_X7_101 F w (mObjP_len _ _) hnm (hQ.obj hq) rfl rfl dX7_init_248 (fun H locs w => ?_)
  obtain ⟨ad, μ, hQ, w⟩ := hQ.step 35 rfl (by decide) hq w
  refine lv_aload_n F.1 F.2.1 dX7_init_251 rfl (lv_at hl 0 rfl) ?_
  refine lv_sipush (v := 720) F.1 F.2.1 dX7_init_252 (by decide) ?_
  refine q_newI F w 720 rfl (by decide) (Nat.le_of_ble_eq_true rfl) (Nat.le_of_ble_eq_true rfl) dX7_init_255 (fun q H hq w => ?_)
  refine pf_X7_104 F w (mObjP_len _ _) hnm (hQ.obj hq) rfl rfl dX7_init_257 (fun H locs w => ?_)
  obtain ⟨ad, μ, hQ, w⟩ := hQ.step 36 rfl (by decide) hq w
  refine lv_aload_n F.1 F.2.1 dX7_init_260 rfl (lv_at hl 0 rfl) ?_
  refine lv_sipush (v := 720) F.1 F.2.1 dX7_init_261 (by decide) ?_
  refine q_newI F w 720 rfl (by decide) (Nat.le_of_ble_eq_true rfl) (Nat.le_of_ble_eq_true rfl) dX7_init_264 (fun q H hq w => ?_)
  refine pf_X7_107 F w (mObjP_len _ _) hnm (hQ.obj hq) rfl rfl dX7_init_266 (fun H locs w => ?_)
  obtain ⟨ad, μ, hQ, w⟩ := hQ.step 37 rfl (by decide) hq w
  refine lv_aload_n F.1 F.2.1 dX7_init_269 rfl (lv_at hl 0 rfl) ?_
  refine lv_bipush (v := 60) F.1 F.2.1 dX7_init_270 (by decide) ?_
  refine q_newI F w 60 rfl (by decide) (Nat.le_of_ble_eq_true rfl) (Nat.le_of_ble_eq_true rfl) dX7_init_272 (fun q H hq w => ?_)
  refine pf_X7_110 F w (mObjP_len _ _) hnm (hQ.obj hq) rfl rfl dX7_init_274 (fun H locs w => ?_)
  obtain ⟨ad, μ, hQ, w⟩ := hQ.step 38 rfl (by decide) hq w
  refine lv_aload_n F.1 F.2.1 dX7_init_277 rfl (lv_at hl 0 rfl) ?_
  refine lv_bipush (v := 60) F.1 F.2.1 dX7_init_278 (by decide) ?_
  refine q_newZ F w 60 rfl (by decide) (Nat.le_of_ble_eq_true rfl) (Nat.le_of_ble_eq_true rfl) dX7_init_280 (fun q H hq w => ?_)
  refine pf_X7_113 F w (mObjP_len _ _) hnm (hQ.obj hq) rfl rfl dX7_init_282 (fun H locs w => ?_)
  obtain ⟨ad, μ, hQ, w⟩ := hQ.step 39 rfl (by decide) hq w
  refine lv_aload_n F.1 F.2.1 dX7_init_285 rfl (lv_at hl 0 rfl) ?_
  refine lv_bipush (v := 60) F.1 F.2.1 dX7_init_286 (by decide) ?_
  refine q_newI F w 60 rfl (by decide) (Nat.le_of_ble_eq_true rfl) (Nat.le_of_ble_eq_true rfl) dX7_init_288 (fun q H hq w => ?_)
  refine pf_X7_116 F w (mObjP_len _ _) hnm (hQ.obj hq) rfl rfl dX7_init_290 (fun H locs w => ?_)
  obtain ⟨ad, μ, hQ, w⟩ := hQ.step 40 rfl (by decide) hq w
  refine lv_aload_n F.1 F.2.1 dX7_init_293 rfl (lv_at hl 0 rfl) ?_
  refine lv_bipush (v := 60) F.1 F.2.1 dX7_init_294 (by decide) ?_
  refine q_newI F w 60 rfl (by decide) (Nat.le_of_ble_eq_true rfl) (Nat.le_of_ble_eq_true rfl) dX7_init_296 (fun q H hq w => ?_)
  refine pf_X7_119 F w (mObjP_len _ _) hnm (hQ.obj hq) rfl rfl dX7_init_298 (fun H locs w => ?_)
  obtain ⟨ad, μ, hQ, w⟩ := hQ.step 41 rfl (by decide) hq w
  refine lv_aload_n F.1 F.2.1 dX7_init_301 rfl (lv_at hl 0 rfl) ?_
  refine lv_bipush (v := 60) F.1 F.2.1 dX7_init_302 (by decide) ?_
  refine q_newZ F w 60 rfl (by decide) (Nat.le_of_ble_eq_true rfl) (Nat.le_of_ble_eq_true rfl) dX7_init_304 (fun q H hq w => ?_)
  refine pf_X7_122 F w (mObjP_len _ _) hnm (hQ.obj hq) rfl rfl dX7_init_306 (fun H locs w => ?_)
  obtain ⟨ad, μ, hQ, w⟩ := hQ.step 42 rfl (by decide) hq w
  refine lv_aload_n F.1 F.2.1 dX7_init_309 rfl (lv_at hl 0 rfl) ?_
  refine lv_iconst (v := 4) F.1 F.2.1 dX7_init_310 (by decide) ?_
  refine q_newI F w 4 rfl (by decide) (Nat.le_of_ble_eq_true rfl) (Nat.le_of_ble_eq_true rfl) dX7_init_311 (fun q H hq w => ?_)
  refine pf_X7_125 F w (mObjP_len _ _) hnm (hQ.obj hq) rfl rfl dX7_init_313 (fun H locs w => ?_)
  obtain ⟨ad, μ, hQ, w⟩ := hQ.step 43 rfl (by decide) hq w
  exact q_retV F hr hlk w ⟨ad, hQ.fin⟩ dX7_init_316
