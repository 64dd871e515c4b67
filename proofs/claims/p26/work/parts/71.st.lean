theorem st_str : ∀ q ∈ STR9, Cond.stringRef q.1 q.2.1 q.2.2 ∈ tables_1 := by decide +kernel
theorem st_own : ∀ q ∈ STR9, q.1 = RX6 := by decide +kernel
theorem st_cast : ∀ q ∈ CAST9, Cond.castable q.1 q.2 ∈ tables_1 := by decide +kernel
theorem st_dec : ∀ q ∈ DEC9, Cond.declares ⟨q, "<init>", "(Ljava/lang/String;)V"⟩ ∈ tables_1 := by decide +kernel
theorem st_nc : ∀ q ∈ NC9, Cond.not (Cond.castable q.1 q.2) ∈ flatC (Jvm.Cond.and given_1 narrow_1) := by decide +kernel
def tmD : Term := .static "java/util/ArrayList" "DEFAULTCAPACITY_EMPTY_ELEMENTDATA" "[Ljava/lang/Object;"
theorem st_n1 : Cond.arrayOf tmD (.object "java/lang/Object") ∈ flatC (Jvm.Cond.and given_1 narrow_1) := by decide +kernel
theorem st_n2 : Cond.eq (.length tmD) (.int 0) ∈ flatC (Jvm.Cond.and given_1 narrow_1) := by decide +kernel
theorem st_n3 : Cond.isRef (.static Bundle.tN "UNASSIGNED_STACK" Bundle.steD) ∈ flatC (Jvm.Cond.and given_1 narrow_1) := by decide +kernel
theorem st_n4 : Cond.isRef (.static Bundle.tN "SUPPRESSED_SENTINEL" Bundle.listD) ∈ flatC (Jvm.Cond.and given_1 narrow_1) := by decide +kernel
theorem st_n5 : Cond.isRef (.mirror "[Ljava/lang/Object;") ∈ flatC (Jvm.Cond.and given_1 narrow_1) := by decide +kernel
theorem st_t1 : Cond.laysStatic "java/util/ArrayList" "DEFAULTCAPACITY_EMPTY_ELEMENTDATA" "[Ljava/lang/Object;" ∈ tables_1 := by decide +kernel
theorem st_t2 : Cond.laysStatic Bundle.tN "UNASSIGNED_STACK" Bundle.steD ∈ tables_1 := by decide +kernel
theorem st_t3 : Cond.laysStatic Bundle.tN "SUPPRESSED_SENTINEL" Bundle.listD ∈ tables_1 := by decide +kernel
theorem st_t4 : Cond.initialized Bundle.tN ∈ tables_1 := by decide +kernel
theorem st_t5 : Cond.arrayOver (.object "Detentionbureau$Certificate") ∈ tables_1 := by decide +kernel
theorem st_t6 : Cond.arrayOver (.object "java/lang/Object") ∈ tables_1 := by decide +kernel
theorem st_t7 : Cond.declares ⟨"java/lang/Object", "getClass", "()Ljava/lang/Class;"⟩ ∈ tables_1 := by decide +kernel
theorem st_t8 : Cond.methodLinkNest RX0 28 yX6_isIn RX6 ∈ tables_1 := by decide +kernel
theorem st_t9 : Cond.methodLinkNest RX3 34 yX6_isIn RX6 ∈ tables_1 := by decide +kernel
set_option maxHeartbeats 4000000 in
theorem st_E9 {s : State} {b : Nat} {A : Nat → Prop} (hts : ∀ w ∈ lw_tbl, w.before #[Value.ref b] s = true) (hgv : (Jvm.Cond.and given_1 narrow_1).before #[Value.ref b] s = true) (hA : ∀ a : Nat, a < s.heap.size → ¬ A a) : ∃ (D : va_G) (cy : Nat → ClassId), va_K D vwCl (tysC cy) s ∧ E9 cy A s := by
  have ht : ∀ w ∈ tables_1, w.before #[Value.ref b] s = true := fun w h => hts w (List.mem_append_right _ h)
  have hB : ∀ w ∈ BIG, w.before #[Value.ref b] s = true := BIG_of hts
  have hs := flat_of_before _ hgv
  obtain ⟨c0, i0, k0⟩ := u_known (C := RJx4a65c) (T := TJx4a65c) (N := 3) (n := 3) hts inJx4a65c (hB _ wN_Jx4a65c)
  obtain ⟨c1, i1, k1⟩ := u_known (C := RX0) (T := TX0) (N := 4) (n := 4) hts inX0 (hB _ wN_X0)
  obtain ⟨c2, i2, k2⟩ := u_known (C := RX1) (T := TX1) (N := 3) (n := 3) hts inX1 (hB _ wN_X1)
  obtain ⟨c3, i3, k3⟩ := u_known (C := RX2) (T := TX2) (N := 4) (n := 4) hts inX2 (hB _ wN_X2)
  obtain ⟨c4, i4, k4⟩ := u_known (C := RX3) (T := TX3) (N := 5) (n := 5) hts inX3 (hB _ wN_X3)
  obtain ⟨c5, i5, k5⟩ := u_known (C := RX4) (T := TX4) (N := 17) (n := 17) hts inX4 (hB _ wN_X4)
  obtain ⟨c6, i6, k6⟩ := u_known (C := RX5) (T := TX5) (N := 12) (n := 12) hts inX5 (hB _ wN_X5)
  obtain ⟨c7, i7, k7⟩ := u_known (C := RX6) (T := TX6) (N := 6) (n := 6) hts inX6 (hB _ wN_X6)
  obtain ⟨dC, dI, hKc⟩ : ∃ (dC : Nat → ClassId) (dI : Nat → Nat → Nat), ∀ (k : Nat) (q : vw_C), vwCl[k]? = some q → u_Kn s q.1 q.2.1 q.2.2 (dC k) (dI k) := by
    refine ⟨fun k => match k with | 0 => c0 | 1 => c1 | 2 => c2 | 3 => c3 | 4 => c4 | 5 => c5 | 6 => c6 | _ => c7, fun k => match k with | 0 => i0 | 1 => i1 | 2 => i2 | 3 => i3 | 4 => i4 | 5 => i5 | 6 => i6 | _ => i7, ?_⟩
    intro k q hq
    match k, hq with
    | 0, hq => cases hq; exact k0
    | 1, hq => cases hq; exact k1
    | 2, hq => cases hq; exact k2
    | 3, hq => cases hq; exact k3
    | 4, hq => cases hq; exact k4
    | 5, hq => cases hq; exact k5
    | 6, hq => cases hq; exact k6
    | 7, hq => cases hq; exact k7
    | k + 8, hq => simp [vwCl] at hq
  obtain ⟨a0, kA0, comp0, f0, g0, h0⟩ := Cond.arrayClass_spec (hB _ wArI)
  obtain ⟨a1, kA1, comp1, f1, g1, h1⟩ := Cond.arrayClass_spec (hB _ wArZ)
  obtain ⟨comp2, a2, kA2, f2, -, g2, h2, i92⟩ := Cond.arrayOver_spec (ht _ st_t5)
  obtain ⟨comp3, a3, kA3, f3, -, g3, h3, i93⟩ := Cond.arrayOver_spec (ht _ st_t6)
  obtain ⟨a4, kA4, comp4, f4, g4, h4⟩ := Cond.arrayClass_spec (hB _ wArJ)
  obtain ⟨mi, hmi⟩ := va_Mi.of (hs _ st_n5)
  obtain ⟨t9, he9, hT9⟩ := va_Tof (N := 0) (f := fun _ => .null) (A := A) (by decide) (hs _ st_n1) (va_eqt (hs _ st_n2)) (fun j hj => absurd hj (Nat.not_lt_zero j)) hA
  refine ⟨(dC, dI), fun k => match k with | 0 => a0 | 1 => a1 | 2 => a2 | 3 => a3 | 4 => a4 | 8 => mi | _ => t9, ⟨hKc, fun k q hk => ?_⟩, ⟨va_AO.of (ht _ st_t5), va_AO.of (ht _ st_t6), va_Dc.of (ht _ st_t7), hmi⟩, ⟨va_Zof (ht _ st_t1) (hB _ wI_Jx4a65c) he9 hA, hT9, vx_Zqof (ht _ st_t2) (ht _ st_t4) (hs _ st_n3) hA, vx_Zqof (ht _ st_t3) (ht _ st_t4) (hs _ st_n4) hA⟩, fun q hq => ?_, fun q hq => va_Nw.of rfl (ht _ (st_cast q hq)), fun q hq => va_Nc.of (hs _ (st_nc q hq)), va_Nw.of rfl (ht _ st_t8), va_Nw.of rfl (ht _ st_t9), fun q hq => va_Nw.of rfl (ht _ (st_dec q hq))⟩
  · match k, hk with
    | 0, hk => cases hk; exact ⟨fun n z => ⟨fun k h => (by cases h), kA0, g0, comp0, h0⟩, f0⟩
    | 1, hk => cases hk; exact ⟨fun n z => ⟨fun k h => (by cases h), kA1, g1, comp1, h1⟩, f1⟩
    | 2, hk => cases hk; exact ⟨fun n z => ⟨fun k h => (by cases h), kA2, g2, comp2, h2⟩, kA2, comp2, g2, h2, f2, i92⟩
    | 3, hk => cases hk; exact ⟨fun n z => ⟨fun k h => (by cases h), kA3, g3, comp3, h3⟩, kA3, comp3, g3, h3, f3, i93⟩
    | 4, hk => cases hk; exact ⟨fun n z => ⟨fun k h => (by cases h), kA4, g4, comp4, h4⟩, f4⟩
    | k + 5, hk => simp [tysC] at hk
  · have h1 := ht _ (st_str q hq)
    have hcur : s.vm.findClass q.1 = some (dC 7) := by rw [st_own q hq]; exact (hKc 7 _ rfl).2.1
    obtain ⟨k, cf, i, a, -, -, -, -, -, hev⟩ := Cond.stringRef_spec hcur h1
    exact ⟨a, vk_R.of h1 hev⟩
theorem hdI_X6 : yX6_init.cls ≠ "java/lang/invoke/MethodHandle" ∧ yX6_init.cls ≠ "java/lang/invoke/VarHandle" ∧ (parseMethodDescriptor yX6_init.desc).map (fun d => d.parameters.length) = some 0 := by decide +kernel
