/-! the world as a map from addresses: rows of the kit over it -/
abbrev MU : Type := Nat → Option va_E
def mset (μ : MU) (a : Nat) (e : va_E) : MU := fun b => if b = a then some e else μ b
theorem mset_eq (μ : MU) (a : Nat) (e : va_E) : mset μ a e a = some e := if_pos rfl
theorem mset_ne {μ : MU} {a b : Nat} {e : va_E} (h : b ≠ a) : mset μ a e b = μ b := if_neg h
def HP (D : va_G) (A : Nat → Prop) (μ : MU) (H : Heap) : Prop := ∀ (a : Nat) (e : va_E), μ a = some e → va_at D vwCl (a, e) H ∧ A a
abbrev tysC (cy : Nat → ClassId) : List (ClassId × FieldType) := [(cy 0, .int), (cy 1, .boolean), (cy 2, .object "Detentionbureau$Certificate"), (cy 3, .object "java/lang/Object"), (cy 4, .long)]
theorem HP.one {D : va_G} {A : Nat → Prop} {μ : MU} {H : Heap} (h : HP D A μ H) {a : Nat} {e : va_E} (he : μ a = some e) : va_P D vwCl [(a, e)] H := by
  intro k q hk
  match k, hk with
  | 0, hk => cases hk; exact (h a e he).1
  | k + 1, hk => simp at hk
theorem HP.two {D : va_G} {A : Nat → Prop} {μ : MU} {H : Heap} (h : HP D A μ H) {a b : Nat} {e f : va_E} (he : μ a = some e) (hf : μ b = some f) : va_P D vwCl [(a, e), (b, f)] H := by
  intro k q hk
  match k, hk with
  | 0, hk => cases hk; exact (h a e he).1
  | 1, hk => cases hk; exact (h b f hf).1
  | k + 2, hk => simp at hk
theorem HP.lt {D : va_G} {A : Nat → Prop} {μ : MU} {H : Heap} (h : HP D A μ H) {a : Nat} {e : va_E} (he : μ a = some e) : a < H.size := (h a e he).1.lt
theorem HP.fresh {D : va_G} {A : Nat → Prop} {μ : MU} {H : Heap} (h : HP D A μ H) : μ H.size = none := by
  cases hq : μ H.size with
  | none => rfl
  | some e => exact absurd (h.lt hq) (Nat.lt_irrefl _)
theorem HP.kept {D : va_G} {A : Nat → Prop} {μ : MU} {H H1 : Heap} (h : HP D A μ H) (hk : ∀ q : Nat, q < H.size → A q → H1[q]? = H[q]?) : HP D A μ H1 := fun b x hb => ⟨(h b x hb).1.kept (hk b (h.lt hb) (h b x hb).2), (h b x hb).2⟩
/-- the cells of a map, as the kit's lists have them -/
def wl (μ : MU) (n : Nat) : va_W := (List.range n).filterMap (fun b => (μ b).map (fun e => (b, e)))
theorem wl_in {μ : MU} {n b : Nat} {e : va_E} (hb : b < n) (h : μ b = some e) : (b, e) ∈ wl μ n := List.mem_filterMap.mpr ⟨b, List.mem_range.mpr hb, by rw [h]; rfl⟩
theorem wl_out {μ : MU} {n : Nat} {q : Nat × va_E} (h : q ∈ wl μ n) : μ q.1 = some q.2 := by
  obtain ⟨b, -, hb⟩ := List.mem_filterMap.mp h
  cases hm : μ b with
  | none => rw [hm] at hb; cases hb
  | some e => rw [hm] at hb; cases hb; exact hm
theorem wl_pw (μ : MU) (n : Nat) : (wl μ n).Pairwise (fun p q => p.1 ≠ q.1) := by
  refine List.Pairwise.filterMap _ (R := fun a b => a ≠ b) (fun a b hab p hp q hq => ?_) List.nodup_range
  cases ha : μ a with
  | none => rw [ha] at hp; cases hp
  | some x =>
    cases hb : μ b with
    | none => rw [hb] at hq; cases hq
    | some y =>
      rw [ha] at hp; rw [hb] at hq
      cases hp; cases hq
      exact hab
theorem HP.lP {D : va_G} {A : Nat → Prop} {μ : MU} {H : Heap} (h : HP D A μ H) : va_P D vwCl (wl μ H.size) H := fun k q hk => (h q.1 q.2 (wl_out (List.mem_of_getElem? hk))).1
theorem HP.lD {D : va_G} {A : Nat → Prop} {μ : MU} {H : Heap} (h : HP D A μ H) : va_D A (wl μ H.size) := by
  refine ⟨fun i j p q hi hj hpq => ?_, fun k q hk => (h q.1 q.2 (wl_out (List.mem_of_getElem? hk))).2⟩
  obtain ⟨hi1, hi2⟩ := List.getElem?_eq_some_iff.mp hi
  obtain ⟨hj1, hj2⟩ := List.getElem?_eq_some_iff.mp hj
  have hw := List.pairwise_iff_getElem.mp (wl_pw μ H.size)
  rcases Nat.lt_trichotomy i j with c | c | c
  · exact absurd (by rw [hi2, hj2]; exact hpq) (hw i j hi1 hj1 c)
  · exact c
  · exact absurd (by rw [hi2, hj2]; exact hpq.symm) (hw j i hj1 hi1 c)
theorem HP.at {D : va_G} {A : Nat → Prop} {μ : MU} {H : Heap} (h : HP D A μ H) {a : Nat} {e : va_E} (he : μ a = some e) : ∃ k : Nat, (wl μ H.size)[k]? = some (a, e) := List.getElem?_of_mem (wl_in (h.lt he) he)
theorem HP.set {D : va_G} {A : Nat → Prop} {μ : MU} {H H1 : Heap} (h : HP D A μ H) {a k : Nat} {e0 e : va_E} (hk : (wl μ H.size)[k]? = some (a, e0)) (hP : va_P D vwCl ((wl μ H.size).set k (a, e)) H1) (hD : va_D A ((wl μ H.size).set k (a, e))) : HP D A (mset μ a e) H1 := by
  have hl := (List.getElem?_eq_some_iff.mp hk).1
  intro b x hb
  by_cases hba : b = a
  · subst hba
    rw [mset_eq] at hb
    cases hb
    have h1 : ((wl μ H.size).set k (b, e))[k]? = some (b, e) := List.getElem?_set_self hl
    exact ⟨hP k _ h1, hD.2 k _ h1⟩
  · rw [mset_ne hba] at hb
    obtain ⟨j, hj⟩ := h.at hb
    have hjk : j ≠ k := fun e9 => by rw [e9, hk] at hj; cases hj; exact hba rfl
    have h1 : ((wl μ H.size).set k (a, e))[j]? = some (b, x) := by rw [List.getElem?_set_ne (Ne.symm hjk)]; exact hj
    exact ⟨hP j _ h1, hD.2 j _ h1⟩
theorem HP.new {D : va_G} {A : Nat → Prop} {μ : MU} {H H1 : Heap} (h : HP D A μ H) {q : Nat} {e : va_E} (hP : va_P D vwCl (wl μ H.size ++ [(q, e)]) H1) (hD : va_D A (wl μ H.size ++ [(q, e)])) : μ q = none ∧ HP D A (mset μ q e) H1 := by
  have hlast : (wl μ H.size ++ [(q, e)])[(wl μ H.size).length]? = some (q, e) := by rw [List.getElem?_append_right (Nat.le_refl _), Nat.sub_self]; rfl
  have hold : ∀ {b : Nat} {x : va_E}, μ b = some x → ∃ j : Nat, j < (wl μ H.size).length ∧ (wl μ H.size ++ [(q, e)])[j]? = some (b, x) := by
    intro b x hb
    obtain ⟨j, hj⟩ := h.at hb
    have hl := (List.getElem?_eq_some_iff.mp hj).1
    exact ⟨j, hl, by rw [List.getElem?_append_left hl]; exact hj⟩
  refine ⟨?_, fun b x hb => ?_⟩
  · cases hq : μ q with
    | none => rfl
    | some x =>
      obtain ⟨j, hj1, hj2⟩ := hold hq
      have := hD.1 _ _ _ _ hj2 hlast rfl
      omega
  · by_cases hba : b = q
    · subst hba
      rw [mset_eq] at hb
      cases hb
      exact ⟨hP _ _ hlast, hD.2 _ _ hlast⟩
    · rw [mset_ne hba] at hb
      obtain ⟨j, -, hj2⟩ := hold hb
      exact ⟨hP _ _ hj2, hD.2 _ _ hj2⟩
/-- a method's world at its start and end -/
def Wd (D : va_G) (cy : Nat → ClassId) (A : Nat → Prop) (μ : MU) (U : State) : Prop := HP D A μ U.heap ∧ va_K D vwCl (tysC cy) U ∧ (∀ q : Nat, U.heap.size ≤ q → A q) ∧ E9 cy A U
/-- the world inside a method -/
def WW (D : va_G) (cy : Nat → ClassId) (A : Nat → Prop) (μ : MU) (s : State) (H : Heap) (locs : List Loc) : Prop := HP D A μ H ∧ va_K D vwCl (tysC cy) s ∧ (∀ q : Nat, s.heap.size ≤ q → A q) ∧ va_S A s.heap H locs ∧ E9 cy A s
theorem Wd.blind {D : va_G} {cy : Nat → ClassId} {A : Nat → Prop} {μ : MU} {av : List Value} : FrameBlind (va_Pc av (Wd D cy A μ)) := fun a U g mk q => ⟨q.1, q.2.1, va_K.moved (u := U) (U := U.calling g mk a) (Vm.Alike.refl U.vm) q.2.2.1, q.2.2.2.1, q.2.2.2.2.call⟩
theorem Wd.start {D : va_G} {cy : Nat → ClassId} {A : Nat → Prop} {μ : MU} {s : State} (h : Wd D cy A μ s) : WW D cy A μ s s.heap [] := ⟨h.1, h.2.1, h.2.2.1, va_S.rf, h.2.2.2⟩
theorem WW.at {D : va_G} {cy : Nat → ClassId} {A : Nat → Prop} {μ : MU} {s : State} {H : Heap} {locs : List Loc} (w : WW D cy A μ s H locs) {U : State} (hU : U.heap = H) (hv : s.WarmedH U.vm) : Wd D cy A μ U := ⟨by rw [hU]; exact w.1, va_K.moved hv.alike w.2.1, fun q hq => w.2.2.1 q (Nat.le_trans w.2.2.2.1.1 (by rw [← hU]; exact hq)), E9.at w.2.2.2.1 w.2.2.2.2 hU hv⟩
theorem WW.next {D : va_G} {cy : Nat → ClassId} {A : Nat → Prop} {μ μ1 : MU} {s t : State} {H H1 : Heap} {locs locs1 : List Loc} (w : WW D cy A μ s H locs) (h1 : Wd D cy A μ1 t) (ht : t.heap = H1) (hS : va_S A s.heap H1 locs1) : WW D cy A μ1 s H1 locs1 := ⟨by rw [← ht]; exact h1.1, w.2.1, w.2.2.1, hS, w.2.2.2.2⟩
theorem WW.recv {D : va_G} {cy : Nat → ClassId} {A : Nat → Prop} {μ : MU} {s : State} {H : Heap} {locs : List Loc} (w : WW D cy A μ s H locs) {a ci : Nat} {fs : List Value} {q : vw_C} (he : μ a = some (.inr (ci, fs))) (hc : vwCl[ci]? = some q) : ∃ cell : Cell, H[a]? = some cell ∧ cell.vm.isStatics = false ∧ s.vm.findClass q.1 = some cell.cls := va_recv (q0 := 0) w.2.1 (w.1.one he) hc rfl
def BIG : List Cond := lw_tbl.filter goodWord
theorem BIG_in {w : Cond} (h : w ∈ lw_tbl) (g : goodWord w = true) : w ∈ BIG := List.mem_filter.mpr ⟨h, g⟩
theorem BIG_t {w : Cond} (i : Nat) (h : tables_1[i]? = some w) (g : goodWord w = true) : w ∈ BIG := BIG_in (List.mem_append_right _ (List.mem_of_getElem? h)) g
theorem BIG_p {w : Cond} (i : Nat) (h : (k2_sels lw_privs)[i]? = some w) (g : goodWord w = true) : w ∈ BIG := BIG_in (List.mem_append_left _ (List.mem_of_getElem? h)) g
theorem BIG_good : ∀ w ∈ BIG, goodWord w = true := fun _ h => (List.mem_filter.mp h).2
theorem BIG_of {args : Array Value} {s : State} (h : ∀ w ∈ lw_tbl, w.before args s = true) : ∀ w ∈ BIG, w.before args s = true := fun w hw => h w (List.mem_filter.mp hw).1
abbrev WS (y : MethodName) (b : ByteArray) (n : Nat) (r : Option FieldType) : List Cond := .code y b n r :: BIG
theorem gB {y : MethodName} {b : ByteArray} {n : Nat} {r : Option FieldType} (h : Cond.code y b n r ∈ BIG) : GoodIn BIG (WS y b n r) := by
  intro w hw
  rcases List.mem_cons.mp hw with e | e
  · rw [e]; exact ⟨h, good_of_word (BIG_good _ h)⟩
  · exact ⟨e, good_of_word (BIG_good _ e)⟩
theorem gC {w : Cond} {ws : List Cond} (h : w ∈ BIG) (g : GoodIn BIG ws) : GoodIn BIG (w :: ws) := by
  intro v hv
  rcases List.mem_cons.mp hv with e | e
  · rw [e]; exact ⟨h, good_of_word (BIG_good _ h)⟩
  · exact g v e
theorem gV {own C : String} {idx : Nat} {y : MethodName} {b : ByteArray} {n : Nat} {r : Option FieldType} (h1 : Cond.methodLink own idx y ∈ BIG) (h2 : Cond.instanceMethod y ∈ BIG) (h3 : Cond.selects C y y ∈ BIG) (h4 : Cond.initialized C ∈ BIG) (h5 : Cond.code y b n r ∈ BIG) : GoodIn BIG (wsV own idx C y (WS y b n r)) := gC h1 (gC h2 (gC h3 (gC h4 (gB h5))))
theorem gS {own : String} {idx : Nat} {y : MethodName} {b : ByteArray} {n : Nat} {r : Option FieldType} (h1 : Cond.methodLink own idx y ∈ BIG) (h2 : Cond.static y ∈ BIG) (h4 : Cond.initialized y.cls ∈ BIG) (h5 : Cond.code y b n r ∈ BIG) : GoodIn BIG (va_wsS own idx y (WS y b n r)) := gC h1 (gC h2 (gC h4 (gB h5)))
theorem jn1 {K : JFrame → Prop} {g : JFrame} {m : MethodId} {ls : Array Slot} {rest : List Value} (x : Int32) (pcj : Nat) (h2 : (∀ v : Int32, v = x → K (F0 m pcj ls (.int v :: rest))) → K g) (h1 : ∀ v : Int32, v = x → K (F0 m pcj ls (.int v :: rest))) : K g := h2 h1
theorem jnL {K : JFrame → Prop} {g : JFrame} {m : MethodId} (P : Array Slot → Prop) (pcj : Nat) (st : List Value) (h2 : (∀ ls : Array Slot, P ls → K (F0 m pcj ls st)) → K g) (h1 : ∀ ls : Array Slot, P ls → K (F0 m pcj ls st)) : K g := h2 h1
/-- a loop with a counter k up to n: its head at pc, P k of the locals there -/
theorem q_loop {K : JFrame → Prop} {m : MethodId} {pc : Nat} (P : Nat → Array Slot → Prop) (n : Nat) (hs : ∀ (k : Nat) (ls : Array Slot), k ≤ n → P k ls → (∀ ls1 : Array Slot, k < n → P (k + 1) ls1 → K (F0 m pc ls1 [])) → K (F0 m pc ls [])) : ∀ (k : Nat) (ls : Array Slot), k ≤ n → P k ls → K (F0 m pc ls []) := by
  have h : ∀ (d k : Nat) (ls : Array Slot), k + d = n → P k ls → K (F0 m pc ls []) := by
    intro d
    induction d with
    | zero => exact fun k ls hk hp => hs k ls (by omega) hp (fun ls1 h _ => absurd h (by omega))
    | succ d ih => exact fun k ls hk hp => hs k ls (by omega) hp (fun ls1 _ h => ih (k + 1) ls1 (by omega) h)
  exact fun k ls hk hp => h (n - k) k ls (by omega) hp
section QR
variable {p : Program} {l : Launch} {e : Env} {R : Room} {s : State} {m : MethodId} {args : Array Value} {below : List Frame} {meth : Method} {c : Code} {H : Heap} {locs : List Loc} {cells slots : Nat} {Q : State → Prop}
variable {cc : ByteArray} {nL pc : Nat} {ls : Array Slot} {rest st0 : List Value} {D : va_G} {cy : Nat → ClassId} {A : Nat → Prop} {a : Nat} {μ : MU} {own : String}
theorem q_get (F : CallFix p m c cc nL s args BIG own) (w : WW D cy A μ s H locs) {ref C : String} {T : u_T} {N ci index : Nat} (hin : ∀ w ∈ u_ws C T N, w ∈ BIG) {fs : List Value} (hc : vwCl[ci]? = some (C, T, N)) (k : Nat) (hk : k < N) (hlink : Cond.fieldLink own index ref (T k).2.1 (T k).2.2.1 ∈ BIG) (hsame : ∀ x, s.fieldFound? (T k).1 (T k).2.1 (T k).2.2.1 = some x → s.fieldFound? ref (T k).2.1 (T k).2.2.1 = some x) (he : μ a = some (.inr (ci, fs))) {v : Value} (hv : fs[k]? = some v) (hdg : decode cc pc = .ok (.getfield index, 3))
    (kk : W p l e R s m args below meth c H locs cells slots Q (F0 m (pc + 3) ls (v :: rest))) : W p l e R s m args below meth c H locs cells slots Q (F0 m pc ls (.ref a :: rest)) :=
  va_get F.1 F.2.1 F.2.2.2.2 hin F.2.2.2.1 w.2.1 (w.1.one he) 0 rfl hc k hk (F.2.2.2.2 _ hlink) hsame hv hdg kk
theorem q_put (F : CallFix p m c cc nL s args BIG own) (w : WW D cy A μ s H locs) {ref C : String} {T : u_T} {N ci index : Nat} (hin : ∀ w ∈ u_ws C T N, w ∈ BIG) (ty0 : Nat → FieldType) (hty : ∀ k, k < N → parseFieldDescriptor (T k).2.2.1 = some (ty0 k)) (hnm : ∀ a, a < N → ∀ b, b < N → a ≠ b → (T a).2.1 ≠ (T b).2.1) {fs : List Value} (hc : vwCl[ci]? = some (C, T, N)) (k : Nat) (hk : k < N) (hlink : Cond.fieldLink own index ref (T k).2.1 (T k).2.2.1 ∈ BIG) (hsame : ∀ x, s.fieldFound? (T k).1 (T k).2.1 (T k).2.2.1 = some x → s.fieldFound? ref (T k).2.1 (T k).2.2.1 = some x) (hfin : (T k).2.2.2 = false) (hl : N = fs.length) (he : μ a = some (.inr (ci, fs))) {v : Value} (hn : narrow (ty0 k) v = v) (hfit : fits (ty0 k) v = true) (hdg : decode cc pc = .ok (.putfield index, 3))
    (kk : ∀ (H1 : Heap) (locs1 : List Loc), WW D cy A (mset μ a (.inr (ci, fs.set k v))) s H1 locs1 → W p l e R s m args below meth c H1 locs1 cells slots Q (F0 m (pc + 3) ls rest)) : W p l e R s m args below meth c H locs cells slots Q (F0 m pc ls (v :: .ref a :: rest)) := by
  obtain ⟨hP, hK, hA, hS, hE⟩ := w
  obtain ⟨q0, h0⟩ := hP.at he
  exact va_put F.1 F.2.1 F.2.2.2.2 hin ty0 hty hnm F.2.2.2.1 hK hP.lP hP.lD hS q0 h0 hc k hk (F.2.2.2.2 _ hlink) hsame hfin (hty k hk) hn hfit (by omega) hdg (fun H1 locs1 hP1 hD1 hS1 => kk H1 locs1 ⟨hP.set h0 hP1 hD1, hK, hA, hS1, hE⟩)
theorem q_putF (F : CallFix p m c cc nL s args BIG own) (w : WW D cy A μ s H locs) {ref C : String} {T : u_T} {N ci index : Nat} (hin : ∀ w ∈ u_ws C T N, w ∈ BIG) (ty0 : Nat → FieldType) (hty : ∀ k, k < N → parseFieldDescriptor (T k).2.2.1 = some (ty0 k)) (hnm : ∀ a, a < N → ∀ b, b < N → a ≠ b → (T a).2.1 ≠ (T b).2.1) {fs : List Value} (hc : vwCl[ci]? = some (C, T, N)) (k : Nat) (hk : k < N) (hlink : Cond.fieldLink own index ref (T k).2.1 (T k).2.2.1 ∈ BIG) (hsame : ∀ x, s.fieldFound? (T k).1 (T k).2.1 (T k).2.2.1 = some x → s.fieldFound? ref (T k).2.1 (T k).2.2.1 = some x) (hfin : (T k).2.2.2 = true) (hdecl : (T k).1 = own) (hl : N = fs.length) (hin2 : meth.name = "<init>") (he : μ a = some (.inr (ci, fs))) {v : Value} (hn : narrow (ty0 k) v = v) (hfit : fits (ty0 k) v = true) (hdg : decode cc pc = .ok (.putfield index, 3))
    (kk : ∀ (H1 : Heap) (locs1 : List Loc), WW D cy A (mset μ a (.inr (ci, fs.set k v))) s H1 locs1 → W p l e R s m args below meth c H1 locs1 cells slots Q (F0 m (pc + 3) ls rest)) : W p l e R s m args below meth c H locs cells slots Q (F0 m pc ls (v :: .ref a :: rest)) := by
  obtain ⟨hP, hK, hA, hS, hE⟩ := w
  obtain ⟨q0, h0⟩ := hP.at he
  exact va_putF F.1 F.2.1 F.2.2.2.2 hin ty0 hty hnm F.2.2.2.1 hK hP.lP hP.lD hS q0 h0 hc k hk (F.2.2.2.2 _ hlink) hsame hfin hin2 hdecl (hty k hk) hn hfit (by omega) hdg (fun H1 locs1 hP1 hD1 hS1 => kk H1 locs1 ⟨hP.set h0 hP1 hD1, hK, hA, hS1, hE⟩)
theorem q_new (F : CallFix p m c cc nL s args BIG own) (w : WW D cy A μ s H locs) {C : String} {T : u_T} {N ci index : Nat} (hin : ∀ w ∈ u_ws C T N, w ∈ BIG) (ty0 : Nat → FieldType) (hty : ∀ k, k < N → parseFieldDescriptor (T k).2.2.1 = some (ty0 k)) (hc : vwCl[ci]? = some (C, T, N)) (hcl : Cond.classLink own index C ∈ BIG) (hinst : Cond.instantiable C N ∈ BIG) (hini : Cond.initialized C ∈ BIG) {fs : List Value} (hfs : ∀ j, j < N → defaultValue (ty0 j) = vp_V fs j) (hcells : cells + 1 ≤ R.cells) (hslots : slots + N ≤ R.slots) (hdg : decode cc pc = .ok (.new index, 3))
    (kk : ∀ (q : Nat) (H1 : Heap), μ q = none → WW D cy A (mset μ q (.inr (ci, fs))) s H1 locs → W p l e R s m args below meth c H1 locs (cells + 1) (slots + N) Q (F0 m (pc + 3) ls (.ref q :: rest))) : W p l e R s m args below meth c H locs cells slots Q (F0 m pc ls rest) := by
  obtain ⟨hP, hK, hA, hS, hE⟩ := w
  exact va_new F.1 F.2.1 F.2.2.2.2 hin ty0 hty F.2.2.2.1 (F.2.2.2.2 _ hcl) (F.2.2.2.2 _ hinst) (F.2.2.2.2 _ hini) hK hP.lP hP.lD hS hA hc hfs hcells hslots hdg (fun q H1 hP1 hD1 hS1 => kk q H1 (hP.new hP1 hD1).1 ⟨(hP.new hP1 hD1).2, hK, hA, hS1, hE⟩)
theorem q_iald (F : CallFix p m c cc nL s args BIG own) (w : WW D cy A μ s H locs) {n : Nat} {f : Nat → Int32} (he : μ a = some (.inl (cy 0, n, .inl f))) {i : Int32} (hin : vp_in i n) (hdg : decode cc pc = .ok (.iaload, 1))
    (kk : W p l e R s m args below meth c H locs cells slots Q (F0 m (pc + 1) ls (.int (f i.toNatClampNeg) :: rest))) : W p l e R s m args below meth c H locs cells slots Q (F0 m pc ls (.int i :: .ref a :: rest)) :=
  va_iald F.1 F.2.1 w.2.1 (w.1.one he) 0 0 rfl rfl hin hdg kk
theorem q_zald (F : CallFix p m c cc nL s args BIG own) (w : WW D cy A μ s H locs) {n : Nat} {f : Nat → Int32} (he : μ a = some (.inl (cy 1, n, .inl f))) {i : Int32} (hin : vp_in i n) (hdg : decode cc pc = .ok (.baload, 1))
    (kk : W p l e R s m args below meth c H locs cells slots Q (F0 m (pc + 1) ls (.int (f i.toNatClampNeg) :: rest))) : W p l e R s m args below meth c H locs cells slots Q (F0 m pc ls (.int i :: .ref a :: rest)) :=
  va_zald F.1 F.2.1 w.2.1 (w.1.one he) 0 1 rfl rfl hin hdg kk
theorem q_lald (F : CallFix p m c cc nL s args BIG own) (w : WW D cy A μ s H locs) {n : Nat} {f : Nat → Int64} (he : μ a = some (.inl (cy 4, n, .inr (.inl f)))) {i : Int32} (hin : vp_in i n) (hdg : decode cc pc = .ok (.laload, 1))
    (kk : W p l e R s m args below meth c H locs cells slots Q (F0 m (pc + 1) ls (.long (f i.toNatClampNeg) :: rest))) : W p l e R s m args below meth c H locs cells slots Q (F0 m pc ls (.int i :: .ref a :: rest)) :=
  va_lald F.1 F.2.1 w.2.1 (w.1.one he) 0 4 rfl rfl hin hdg kk
theorem q_aald (F : CallFix p m c cc nL s args BIG own) (w : WW D cy A μ s H locs) (t0 : Nat) {cA : ClassId} {C : String} {n : Nat} {f : Nat → Option Nat} (ht : (tysC cy)[t0]? = some (cA, .object C)) (he : μ a = some (.inl (cA, n, .inr (.inr (.inr (.inr f)))))) {i : Int32} (hin : vp_in i n) (hdg : decode cc pc = .ok (.aaload, 1))
    (kk : W p l e R s m args below meth c H locs cells slots Q (F0 m (pc + 1) ls (va_rf (f i.toNatClampNeg) :: rest))) : W p l e R s m args below meth c H locs cells slots Q (F0 m pc ls (.int i :: .ref a :: rest)) :=
  va_aldq F.1 F.2.1 w.2.1 (w.1.one he) 0 t0 rfl ht hin hdg kk
theorem q_alen (F : CallFix p m c cc nL s args BIG own) (w : WW D cy A μ s H locs) (t0 : Nat) {cA : ClassId} {ty : FieldType} {x : vp_A} (ht : (tysC cy)[t0]? = some (cA, ty)) (he : μ a = some (.inl (cA, x))) {v : Int32} (hv : Int32.ofNat x.1 = v) (hdg : decode cc pc = .ok (.arraylength, 1))
    (kk : W p l e R s m args below meth c H locs cells slots Q (F0 m (pc + 1) ls (.int v :: rest))) : W p l e R s m args below meth c H locs cells slots Q (F0 m pc ls (.ref a :: rest)) :=
  va_alen F.1 F.2.1 w.2.1 (w.1.one he) 0 t0 rfl ht hv hdg kk
theorem q_iast (F : CallFix p m c cc nL s args BIG own) (w : WW D cy A μ s H locs) {n : Nat} {f : Nat → Int32} (he : μ a = some (.inl (cy 0, n, .inl f))) {i x : Int32} (hin : vp_in i n) (hdg : decode cc pc = .ok (.iastore, 1))
    (kk : ∀ (H1 : Heap) (locs1 : List Loc), WW D cy A (mset μ a (.inl (cy 0, n, .inl (upd f i.toNatClampNeg x)))) s H1 locs1 → W p l e R s m args below meth c H1 locs1 cells slots Q (F0 m (pc + 1) ls rest)) : W p l e R s m args below meth c H locs cells slots Q (F0 m pc ls (.int x :: .int i :: .ref a :: rest)) := by
  obtain ⟨hP, hK, hA, hS, hE⟩ := w
  obtain ⟨q0, h0⟩ := hP.at he
  exact va_iast F.1 F.2.1 hK hP.lP hP.lD hS q0 0 h0 rfl hin hdg (fun H1 locs1 hP1 hD1 hS1 => kk H1 locs1 ⟨hP.set h0 hP1 hD1, hK, hA, hS1, hE⟩)
theorem q_zast (F : CallFix p m c cc nL s args BIG own) (w : WW D cy A μ s H locs) {n : Nat} {f : Nat → Int32} (he : μ a = some (.inl (cy 1, n, .inl f))) {i x : Int32} (hin : vp_in i n) (hx : x = 0 ∨ x = 1) (hdg : decode cc pc = .ok (.bastore, 1))
    (kk : ∀ (H1 : Heap) (locs1 : List Loc), WW D cy A (mset μ a (.inl (cy 1, n, .inl (upd f i.toNatClampNeg x)))) s H1 locs1 → W p l e R s m args below meth c H1 locs1 cells slots Q (F0 m (pc + 1) ls rest)) : W p l e R s m args below meth c H locs cells slots Q (F0 m pc ls (.int x :: .int i :: .ref a :: rest)) := by
  obtain ⟨hP, hK, hA, hS, hE⟩ := w
  obtain ⟨q0, h0⟩ := hP.at he
  have hx1 : vp_nar .boolean x = x := by rcases hx with rfl | rfl <;> rfl
  refine va_zast F.1 F.2.1 hK hP.lP hP.lD hS q0 1 h0 rfl hin hdg (fun H1 locs1 hP1 hD1 hS1 => ?_)
  rw [hx1] at hP1 hD1
  exact kk H1 locs1 ⟨hP.set h0 hP1 hD1, hK, hA, hS1, hE⟩
theorem q_last (F : CallFix p m c cc nL s args BIG own) (w : WW D cy A μ s H locs) {n : Nat} {f : Nat → Int64} (he : μ a = some (.inl (cy 4, n, .inr (.inl f)))) {i : Int32} {x : Int64} (hin : vp_in i n) (hdg : decode cc pc = .ok (.lastore, 1))
    (kk : ∀ (H1 : Heap) (locs1 : List Loc), WW D cy A (mset μ a (.inl (cy 4, n, .inr (.inl (vp_updL f i.toNatClampNeg x))))) s H1 locs1 → W p l e R s m args below meth c H1 locs1 cells slots Q (F0 m (pc + 1) ls rest)) : W p l e R s m args below meth c H locs cells slots Q (F0 m pc ls (.long x :: .int i :: .ref a :: rest)) := by
  obtain ⟨hP, hK, hA, hS, hE⟩ := w
  obtain ⟨q0, h0⟩ := hP.at he
  exact va_last F.1 F.2.1 hK hP.lP hP.lD hS q0 4 h0 rfl hin hdg (fun H1 locs1 hP1 hD1 hS1 => kk H1 locs1 ⟨hP.set h0 hP1 hD1, hK, hA, hS1, hE⟩)
/-- a call that answers an int and changes nothing -/
theorem q_rV (F : CallFix p m c cc nL s args BIG own) (w : WW D cy A μ s H locs) {y : MethodName} {b : ByteArray} {n k idx : Nat} {r : Option FieldType} {rm : Room} {v : Int32} {o ci : Nat} {fs As : List Value} {q : vw_C} (hg : GoodIn BIG (wsV own idx q.1 y (WS y b n r))) (hd : y.cls = q.1 ∧ y.cls ≠ "java/lang/invoke/MethodHandle" ∧ y.cls ≠ "java/lang/invoke/VarHandle" ∧ (parseMethodDescriptor y.desc).map (fun d => d.parameters.length) = some k) (hc : vwCl[ci]? = some q)
    (hM : Met l y (WS y b n r) rm (va_Pc (.ref o :: As) (Wd D cy A μ)) (QcRead v) 0 0 (fun _ => False)) (ho : μ o = some (.inr (ci, fs))) (hdg : decode cc pc = .ok (.invokevirtual idx, 3)) (hn : As.length = k) (hst : st0 = As.reverse ++ .ref o :: rest) (hsz : ls.size = nL) (hR : rm.cells = 0 ∧ rm.slots = 0 ∧ rm.frames + 1 ≤ R.frames ∧ 8 + (n + 11) + rm.locals ≤ R.locals) (hroom : (rest.map fun v => v.category).sum ≤ 8)
    (hf : cells ≤ R.cells ∧ slots ≤ R.slots) (kk : W p l e R s m args below meth c H locs cells slots Q (F0 m (pc + 3) ls (.int v :: rest))) : W p l e R s m args below meth c H locs cells slots Q (F0 m pc ls st0) :=
  W.callR (W.runV (As := As) (rest := rest) F hM (cwV k F.2.2.2.2 hg rfl hR.1 hR.2.1 hd ⟨hR.2.2.1, hR.2.2.2⟩) ⟨Wd.blind, w.recv ho hc, fun U hU hW => ⟨rfl, w.at hU hW⟩⟩ rfl hn hsz hst (lv_room hroom) hdg ⟨hf.1, hf.2⟩) kk
theorem q_rS (F : CallFix p m c cc nL s args BIG own) (w : WW D cy A μ s H locs) {y : MethodName} {b : ByteArray} {n k idx : Nat} {r : Option FieldType} {rm : Room} {v : Int32} {As : List Value} (hg : GoodIn BIG (va_wsS own idx y (WS y b n r))) (hd : y.cls ≠ "java/lang/invoke/MethodHandle" ∧ y.cls ≠ "java/lang/invoke/VarHandle" ∧ (parseMethodDescriptor y.desc).map (fun d => d.parameters.length) = some k)
    (hM : Met l y (WS y b n r) rm (va_Pc As (Wd D cy A μ)) (QcRead v) 0 0 (fun _ => False)) (hdg : decode cc pc = .ok (.invokestatic idx, 3)) (hn : As.length = k) (hst : st0 = As.reverse ++ rest) (hsz : ls.size = nL) (hR : rm.cells = 0 ∧ rm.slots = 0 ∧ rm.frames + 1 ≤ R.frames ∧ 8 + (n + 11) + rm.locals ≤ R.locals) (hroom : (rest.map fun v => v.category).sum ≤ 8)
    (hf : cells ≤ R.cells ∧ slots ≤ R.slots) (kk : W p l e R s m args below meth c H locs cells slots Q (F0 m (pc + 3) ls (.int v :: rest))) : W p l e R s m args below meth c H locs cells slots Q (F0 m pc ls st0) :=
  W.callR (W.runS (As := As) (rest := rest) F hM (va_cwS k F.2.2.2.2 hg rfl hR.1 hR.2.1 hd ⟨hR.2.2.1, hR.2.2.2⟩) ⟨Wd.blind, fun U hU hW => ⟨rfl, w.at hU hW⟩⟩ rfl hn hsz hst (lv_room hroom) hdg ⟨hf.1, hf.2⟩) kk
end QR
/-- the start of a method's contract -/
theorem q_met {l : Launch} {y : MethodName} {b : ByteArray} {n : Nat} {r : Option FieldType} {rm : Room} {D : va_G} {cy : Nat → ClassId} {A : Nat → Prop} {μ : MU} {av : List Value} {Qc : Array Value → State → Outcome → State → Prop} {mc ms : Nat} {free : Addr → Prop} (hy : plainName y.cls = true) (hn : (lg_sl av).length ≤ n)
    (body : ∀ p e s m below meth c, CallFix p m c b n s av.toArray BIG y.cls → WW D cy A μ s s.heap [] → meth.sig.returnType = r → meth.locks = false → meth.name = y.name → ∀ ls : Array Slot, lv_has ls n (lv_args 0 av) → W p l e rm s m av.toArray below meth c s.heap [] 0 0 (MQ below Qc av.toArray s mc ms free) (F0 m 0 ls [])) : Met l y (WS y b n r) rm (va_Pc av (Wd D cy A μ)) Qc mc ms free := by
  refine Met.ofW (cc := b) (maxL := n) (ret := r) hy rfl ?_
  intro p e s m args below meth c s₁ B hml hv
  obtain ⟨rfl, hw⟩ := hv
  have hts := atoms_spec (ws := WS y b n r) B.pre
  have hl := lv_entry av (n := n) hn
  rw [lg_entry_eq]
  exact body p e s m below meth c ⟨B.exec, B.bytes, hml, findClass_of_methodNamed B.named, fun w h => hts w (List.mem_cons_of_mem _ h)⟩ hw.start B.returns B.notSynchronized (name_of_methodNamed B.named B.method).1 _ hl
