set_option maxHeartbeats 4000000 in
set_option maxRecDepth 100000 in
theorem lc_init_r {p : Program} {l : Launch} {e : Env} {R : Room} {s : State} {m : MethodId} {args : Array Value} {below : List Frame} {meth : Method} {c : Code} {Q : State → Prop} {D : va_G} {cy : Nat → ClassId} {A : Nat → Prop} {o b : Nat} {ad : Nat → Nat} {k : Nat} {S : GS} {Wf : Nat → Int64} (F : CallFix p m c cL_law 40 s args BIG RL) (hk : k ≤ 20) {X Y : MU} {H : Heap} {locs : List Loc} {cells slots : Nat} (hd : dis X Y) (hY : RepL cy ad S Wf Y) (w : WW D cy A (un X Y) s H locs) (K1 : k = 20 → ∀ ls, lv_has ls 40 [(10, .ref (ad 10)), (9, .ref (ad 9)), (8, .ref (ad 8)), (7, .ref (ad 7)), (6, .ref (ad 6)), (5, .ref (ad 5)), (4, .ref (ad 4)), (3, .ref (ad 3)), (2, .ref (ad 2)), (1, .ref o), (0, .ref b)] → W p l e R s m args below meth c H locs cells slots Q (F0 m 83 ls [])) (K2 : k < 20 → ∀ {Y : MU} {H : Heap} {locs : List Loc} {ls : Array Slot}, dis X Y → RepL cy ad (up2 S 3 (3 * k) (-1)) Wf Y → WW D cy A (un X Y) s H locs → lv_has ls 40 [(11, .int (nI (k + 1))), (10, .ref (ad 10)), (9, .ref (ad 9)), (8, .ref (ad 8)), (7, .ref (ad 7)), (6, .ref (ad 6)), (5, .ref (ad 5)), (4, .ref (ad 4)), (3, .ref (ad 3)), (2, .ref (ad 2)), (1, .ref o), (0, .ref b)] → W p l e R s m args below meth c H locs cells slots Q (F0 m 63 ls [])) {ls : Array Slot} (hl : lv_has ls 40 [(11, .int (nI k)), (10, .ref (ad 10)), (9, .ref (ad 9)), (8, .ref (ad 8)), (7, .ref (ad 7)), (6, .ref (ad 6)), (5, .ref (ad 5)), (4, .ref (ad 4)), (3, .ref (ad 3)), (2, .ref (ad 2)), (1, .ref o), (0, .ref b)]) : W p l e R s m args below meth c H locs cells slots Q (F0 m 63 ls []) := by
  have hL := hY.un hd
  refine lv_iload F.1 F.2.1 dL_law_63 (lv_at hl 0 rfl) ?_
  refine lv_bipush (v := 20) F.1 F.2.1 dL_law_65 (by decide) ?_
  refine lv_icmp_ge (tgt := 83) F.1 F.2.1 dL_law_67 (by decide) (fun c_1 => ?_) (fun c_1 => ?_)
  · exact K1 (by have := (nI_leI (a := 20) (by decide) (by omega)).mp c_1; omega) ls (lv_sub hl [1, 2, 3, 4, 5, 6, 7, 8, 9, 10, 11] rfl)
  · have hk9 : k < 20 := Nat.lt_of_not_le (fun q => c_1 (nI_le (a := 20) q (by omega)))
    refine lv_aload_n F.1 F.2.1 dL_law_70 rfl (lv_at hl 8 rfl) ?_
    refine lv_iconst (v := 3) F.1 F.2.1 dL_law_71 (by decide) ?_
    refine lv_iload F.1 F.2.1 dL_law_72 (lv_at hl 0 rfl) ?_
    refine lv_imul F.1 F.2.1 dL_law_74 ?_
    refine lv_fold (y := nI (3 * k)) (pk_mul 3 k) ?_
    refine lv_iconst (v := -1) F.1 F.2.1 dL_law_75 (by decide) ?_
    refine l_ist F w hd hY 3 rfl (3 * k) (show 3 * k < 60 by omega) dL_law_76 (fun H locs Y hd hY w => ?_)
    have hL := hY.un hd
    refine lv_iinc (v := nI (k + 1)) (lv' := [(11, .int (nI (k + 1))), (10, .ref (ad 10)), (9, .ref (ad 9)), (8, .ref (ad 8)), (7, .ref (ad 7)), (6, .ref (ad 6)), (5, .ref (ad 5)), (4, .ref (ad 4)), (3, .ref (ad 3)), (2, .ref (ad 2)), (1, .ref o), (0, .ref b)]) F.1 F.2.1 dL_law_77 hl (k := 0) rfl (nI_1 _) (by decide) rfl (fun ls hl => ?_)
    refine lv_goto (tgt := 63) F.1 F.2.1 dL_law_80 (by decide) ?_
    exact K2 hk9 hd hY w (lv_sub hl [0, 1, 2, 3, 4, 5, 6, 7, 8, 9, 10, 11] rfl)
set_option maxHeartbeats 4000000 in
theorem lc_init {p : Program} {l : Launch} {e : Env} {R : Room} {s : State} {m : MethodId} {args : Array Value} {below : List Frame} {meth : Method} {c : Code} {Q : State → Prop} {D : va_G} {cy : Nat → ClassId} {A : Nat → Prop} {o b : Nat} {ad : Nat → Nat} (F : CallFix p m c cL_law 40 s args BIG RL) {X : MU} {cells slots : Nat} (K0 : ∀ {Y : MU} {H : Heap} {locs : List Loc} {ls : Array Slot}, dis X Y → RepL cy ad (cS 20) (fun _ => 0) Y → WW D cy A (un X Y) s H locs → lv_has ls 40 [(10, .ref (ad 10)), (9, .ref (ad 9)), (8, .ref (ad 8)), (7, .ref (ad 7)), (6, .ref (ad 6)), (5, .ref (ad 5)), (4, .ref (ad 4)), (3, .ref (ad 3)), (2, .ref (ad 2)), (1, .ref o), (0, .ref b)] → W p l e R s m args below meth c H locs cells slots Q (F0 m 83 ls [])) : ∀ (d k : Nat), k + d = 20 → ∀ {Y : MU} {H : Heap} {locs : List Loc} {ls : Array Slot}, dis X Y → RepL cy ad (cS k) (fun _ => 0) Y → WW D cy A (un X Y) s H locs → lv_has ls 40 [(11, .int (nI k)), (10, .ref (ad 10)), (9, .ref (ad 9)), (8, .ref (ad 8)), (7, .ref (ad 7)), (6, .ref (ad 6)), (5, .ref (ad 5)), (4, .ref (ad 4)), (3, .ref (ad 3)), (2, .ref (ad 2)), (1, .ref o), (0, .ref b)] → W p l e R s m args below meth c H locs cells slots Q (F0 m 63 ls []) := by
  intro d
  induction d with
  | zero =>
    intro k hk Y H locs ls hd hY w hl
    have hk9 : k = 20 := hk
    subst hk9
    exact lc_init_r F (Nat.le_refl _) hd hY w (fun _ ls hl => K0 hd hY w hl) (fun q => absurd q (Nat.lt_irrefl _)) hl
  | succ d ih =>
    intro k hk Y H locs ls hd hY w hl
    exact lc_init_r F (by omega) hd hY w (fun q => absurd q (by omega)) (fun _ {Y H locs ls} hd hY w hl => ih (k + 1) (by omega) hd hY w hl) hl
set_option maxHeartbeats 4000000 in
theorem lc_first {p : Program} {l : Launch} {e : Env} {s : State} {m : MethodId} {below : List Frame} {meth : Method} {c : Code} {D : va_G} {cy : Nat → ClassId} {A : Nat → Prop} {o b L9 : Nat} {xs : Nat → Int32} {ad : Nat → Nat} (F : CallFix p m c cL_law 40 s #[Value.ref b] BIG RL) (hlf : l.stackTraces = false) (hbA2 : ∀ q, A q → s.heap.size ≤ q) (hr : meth.sig.returnType = ret) (hlk : meth.locks = false) (hX9 : va_X b L9 xs s s.heap) (hbl : b < s.heap.size) (hbA : ¬ A b) (hL9 : L9 ≤ 260) {X Y : MU} {AD : AM} {H : Heap} {locs : List Loc} (ho : AD 0 0 0 = o) (hd : dis X Y) (hM : RepC cy AD G0 X) (hY : RepL cy ad G0 (fun _ => 0) Y) (w : WW D cy A (un X Y) s H locs) {ls : Array Slot} (hl : lv_has ls 40 [(10, .ref (ad 10)), (9, .ref (ad 9)), (8, .ref (ad 8)), (7, .ref (ad 7)), (6, .ref (ad 6)), (5, .ref (ad 5)), (4, .ref (ad 4)), (3, .ref (ad 3)), (2, .ref (ad 2)), (1, .ref o), (0, .ref b)]) : W p l e room_1 s m #[Value.ref b] below meth c H locs 1000 20000 (lw_Z below #[Value.ref b] s) (F0 m 60 ls []) := by
  refine lv_iconst (v := 0) F.1 F.2.1 dL_law_60 (by decide) ?_
  refine lv_istore (lv' := [(11, .int (nI 0)), (10, .ref (ad 10)), (9, .ref (ad 9)), (8, .ref (ad 8)), (7, .ref (ad 7)), (6, .ref (ad 6)), (5, .ref (ad 5)), (4, .ref (ad 4)), (3, .ref (ad 3)), (2, .ref (ad 2)), (1, .ref o), (0, .ref b)]) F.1 F.2.1 dL_law_61 hl (by decide) rfl (fun ls hl => ?_)
  refine lc_init F (fun {Y H locs ls} hd hY w hl => ?_) 20 0 (by decide) hd hY w hl
  refine lv_iconst (v := 0) F.1 F.2.1 dL_law_83 (by decide) ?_
  refine lv_istore (lv' := [(11, .int (nI 0)), (10, .ref (ad 10)), (9, .ref (ad 9)), (8, .ref (ad 8)), (7, .ref (ad 7)), (6, .ref (ad 6)), (5, .ref (ad 5)), (4, .ref (ad 4)), (3, .ref (ad 3)), (2, .ref (ad 2)), (1, .ref o), (0, .ref b)]) F.1 F.2.1 dL_law_84 hl (by decide) rfl (fun ls hl => ?_)
  exact lc_main F hlf hbA2 hr hlk hX9 hbl hbA hL9 130 0 (by decide) (r26_0.ups (by decide)) ho hd hM hY w (lv_sub hl [0, 11, 10, 9, 8, 7, 6, 5, 4, 3, 2, 1] rfl)
set_option maxHeartbeats 4000000 in
set_option maxRecDepth 100000 in
theorem whole_start {p : Program} {e : Env} {s : State} {m : MethodId} {below : List Frame} {meth : Method} {c : Code} (l : Launch) (hflags : l.flags = flags0) {b L : Nat} {xs : Nat → Int32} (hL : L ≤ 260) (C0 : lw_At p s m meth c b L xs) : W p l e room_1 s m #[Value.ref b] below meth c s.heap [] 0 0 (lw_Z below #[Value.ref b] s) (entryFrame m ([Value.ref b] : List Value).toArray 40) := by
  obtain ⟨hx, hb, hr, hml, hown, hts, hX, hbl, hlocks, hgv⟩ := id C0
  have hlf : l.stackTraces = false := by unfold Launch.stackTraces; rw [hflags]; decide
  have hbA : ¬ (fun q : Nat => s.heap.size ≤ q) b := Nat.not_le.mpr hbl
  obtain ⟨D, cy, hK, hE⟩ := st_E9 (A := fun q : Nat => s.heap.size ≤ q) hts hgv (fun a ha => Nat.not_le.mpr ha)
  have F : CallFix p m c cL_law 40 s #[Value.ref b] BIG RL := ⟨hx, hb, hml, hown, BIG_of hts⟩
  have w : WW D cy (fun q : Nat => s.heap.size ≤ q) (fun _ => none) s s.heap [] := ⟨fun b e h => (nomatch h), hK, fun q hq => hq, va_S.rf, hE⟩
  have hl := lv_entry ([.ref b]) (n := 40) (Nat.le_of_ble_eq_true rfl)
  rw [lg_entry_eq]
  generalize (lg_sl ([.ref b]) ++ List.replicate (40 - (lg_sl ([.ref b])).length) Slot.unset).toArray = ls at hl ⊢
  have hl : lv_has ls 40 [(0, .ref b)] := hl
  refine nw_L_9 F w (Nat.le_of_ble_eq_true rfl) (Nat.le_of_ble_eq_true rfl) dL_law_0 (fun o H hx0 w => ?_)
  refine lv_dup F.1 F.2.1 dL_law_3 rfl ?_
  refine q_mI (rest := [.ref o]) F w kI_L_159 wM_L_159 wMi_L_159 wI_X6 rfl hdI_X6 (c_X6_init l D cy _ _ (mset_eq _ _ _)) dL_law_4 rfl rfl hl.1 ⟨rfl, rfl, (Nat.le_of_ble_eq_true rfl), (Nat.le_of_ble_eq_true rfl)⟩ (Nat.le_of_ble_eq_true rfl) ⟨(Nat.le_of_ble_eq_true rfl), (Nat.le_of_ble_eq_true rfl)⟩ (fun X H locs hp w => ?_)
  obtain ⟨AD, hAD, hM⟩ := hp
  refine lv_astore_n (lv' := [(1, .ref o), (0, .ref b)]) F.1 F.2.1 dL_law_7 rfl hl (by decide) rfl (fun ls hl => ?_)
  have hun : un X (fun _ => none) = X := funext (fun a => by
    cases q : X a with
    | some z => rw [un_l q]
    | none => exact un_n q)
  have hd : dis X (fun _ => none) := fun a => Or.inr rfl
  have w : WW D cy (fun q : Nat => s.heap.size ≤ q) (un X (fun _ => none)) s H locs := by rw [hun]; exact w
  have hq : RLs [] cy (fun _ => 0) (fun _ => none) := fun k hk => absurd hk List.not_mem_nil
  refine lv_bipush (v := 56) F.1 F.2.1 dL_law_8 (by decide) ?_
  refine q_newI F w 56 rfl (by decide) (Nat.le_of_ble_eq_true rfl) (Nat.le_of_ble_eq_true rfl) dL_law_10 (fun a2 H h2 w => ?_)
  obtain ⟨x2, y2⟩ := un_09 h2
  rw [mset_un x2] at w
  have hd : dis X (mset _ a2 (e0 cy 2)) := dis_mset hd x2
  have hq := hq.add (a := a2) y2 (k := 2) (by decide)
  have w : WW D cy _ (un X (mset _ a2 (e0 cy 2))) s H locs := w
  refine lv_astore_n (lv' := [(2, .ref a2), (1, .ref o), (0, .ref b)]) F.1 F.2.1 dL_law_12 rfl hl (by decide) rfl (fun ls hl => ?_)
  refine lv_bipush (v := 60) F.1 F.2.1 dL_law_13 (by decide) ?_
  refine q_newI F w 60 rfl (by decide) (Nat.le_of_ble_eq_true rfl) (Nat.le_of_ble_eq_true rfl) dL_law_15 (fun a3 H h3 w => ?_)
  obtain ⟨x3, y3⟩ := un_09 h3
  rw [mset_un x3] at w
  have hd : dis X (mset _ a3 (e0 cy 3)) := dis_mset hd x3
  have hq := hq.add (a := a3) y3 (k := 3) (by decide)
  have w : WW D cy _ (un X (mset _ a3 (e0 cy 3))) s H locs := w
  refine lv_astore_n (lv' := [(3, .ref a3), (2, .ref a2), (1, .ref o), (0, .ref b)]) F.1 F.2.1 dL_law_17 rfl hl (by decide) rfl (fun ls hl => ?_)
  refine lv_bipush (v := 50) F.1 F.2.1 dL_law_18 (by decide) ?_
  refine q_newI F w 50 rfl (by decide) (Nat.le_of_ble_eq_true rfl) (Nat.le_of_ble_eq_true rfl) dL_law_20 (fun a4 H h4 w => ?_)
  obtain ⟨x4, y4⟩ := un_09 h4
  rw [mset_un x4] at w
  have hd : dis X (mset _ a4 (e0 cy 4)) := dis_mset hd x4
  have hq := hq.add (a := a4) y4 (k := 4) (by decide)
  have w : WW D cy _ (un X (mset _ a4 (e0 cy 4))) s H locs := w
  refine lv_astore (lv' := [(4, .ref a4), (3, .ref a3), (2, .ref a2), (1, .ref o), (0, .ref b)]) F.1 F.2.1 dL_law_22 hl (by decide) rfl (fun ls hl => ?_)
  refine lv_bipush (v := 50) F.1 F.2.1 dL_law_24 (by decide) ?_
  refine q_newI F w 50 rfl (by decide) (Nat.le_of_ble_eq_true rfl) (Nat.le_of_ble_eq_true rfl) dL_law_26 (fun a5 H h5 w => ?_)
  obtain ⟨x5, y5⟩ := un_09 h5
  rw [mset_un x5] at w
  have hd : dis X (mset _ a5 (e0 cy 5)) := dis_mset hd x5
  have hq := hq.add (a := a5) y5 (k := 5) (by decide)
  have w : WW D cy _ (un X (mset _ a5 (e0 cy 5))) s H locs := w
  refine lv_astore (lv' := [(5, .ref a5), (4, .ref a4), (3, .ref a3), (2, .ref a2), (1, .ref o), (0, .ref b)]) F.1 F.2.1 dL_law_28 hl (by decide) rfl (fun ls hl => ?_)
  refine lv_bipush (v := 50) F.1 F.2.1 dL_law_30 (by decide) ?_
  refine q_newI F w 50 rfl (by decide) (Nat.le_of_ble_eq_true rfl) (Nat.le_of_ble_eq_true rfl) dL_law_32 (fun a6 H h6 w => ?_)
  obtain ⟨x6, y6⟩ := un_09 h6
  rw [mset_un x6] at w
  have hd : dis X (mset _ a6 (e0 cy 6)) := dis_mset hd x6
  have hq := hq.add (a := a6) y6 (k := 6) (by decide)
  have w : WW D cy _ (un X (mset _ a6 (e0 cy 6))) s H locs := w
  refine lv_astore (lv' := [(6, .ref a6), (5, .ref a5), (4, .ref a4), (3, .ref a3), (2, .ref a2), (1, .ref o), (0, .ref b)]) F.1 F.2.1 dL_law_34 hl (by decide) rfl (fun ls hl => ?_)
  refine lv_bipush (v := 50) F.1 F.2.1 dL_law_36 (by decide) ?_
  refine q_newI F w 50 rfl (by decide) (Nat.le_of_ble_eq_true rfl) (Nat.le_of_ble_eq_true rfl) dL_law_38 (fun a7 H h7 w => ?_)
  obtain ⟨x7, y7⟩ := un_09 h7
  rw [mset_un x7] at w
  have hd : dis X (mset _ a7 (e0 cy 7)) := dis_mset hd x7
  have hq := hq.add (a := a7) y7 (k := 7) (by decide)
  have w : WW D cy _ (un X (mset _ a7 (e0 cy 7))) s H locs := w
  refine lv_astore (lv' := [(7, .ref a7), (6, .ref a6), (5, .ref a5), (4, .ref a4), (3, .ref a3), (2, .ref a2), (1, .ref o), (0, .ref b)]) F.1 F.2.1 dL_law_40 hl (by decide) rfl (fun ls hl => ?_)
  refine lv_bipush (v := 50) F.1 F.2.1 dL_law_42 (by decide) ?_
  refine q_newI F w 50 rfl (by decide) (Nat.le_of_ble_eq_true rfl) (Nat.le_of_ble_eq_true rfl) dL_law_44 (fun a8 H h8 w => ?_)
  obtain ⟨x8, y8⟩ := un_09 h8
  rw [mset_un x8] at w
  have hd : dis X (mset _ a8 (e0 cy 8)) := dis_mset hd x8
  have hq := hq.add (a := a8) y8 (k := 8) (by decide)
  have w : WW D cy _ (un X (mset _ a8 (e0 cy 8))) s H locs := w
  refine lv_astore (lv' := [(8, .ref a8), (7, .ref a7), (6, .ref a6), (5, .ref a5), (4, .ref a4), (3, .ref a3), (2, .ref a2), (1, .ref o), (0, .ref b)]) F.1 F.2.1 dL_law_46 hl (by decide) rfl (fun ls hl => ?_)
  refine lv_bipush (v := 50) F.1 F.2.1 dL_law_48 (by decide) ?_
  refine q_newJ F w 50 rfl (by decide) (Nat.le_of_ble_eq_true rfl) (Nat.le_of_ble_eq_true rfl) dL_law_50 (fun a9 H h9 w => ?_)
  obtain ⟨x9, y9⟩ := un_09 h9
  rw [mset_un x9] at w
  have hd : dis X (mset _ a9 (e0 cy 9)) := dis_mset hd x9
  have hq := hq.add (a := a9) y9 (k := 9) (by decide)
  have w : WW D cy _ (un X (mset _ a9 (e0 cy 9))) s H locs := w
  refine lv_astore (lv' := [(9, .ref a9), (8, .ref a8), (7, .ref a7), (6, .ref a6), (5, .ref a5), (4, .ref a4), (3, .ref a3), (2, .ref a2), (1, .ref o), (0, .ref b)]) F.1 F.2.1 dL_law_52 hl (by decide) rfl (fun ls hl => ?_)
  refine lv_bipush (v := 9) F.1 F.2.1 dL_law_54 (by decide) ?_
  refine q_newI F w 9 rfl (by decide) (Nat.le_of_ble_eq_true rfl) (Nat.le_of_ble_eq_true rfl) dL_law_56 (fun a10 H h10 w => ?_)
  obtain ⟨x10, y10⟩ := un_09 h10
  rw [mset_un x10] at w
  have hd : dis X (mset _ a10 (e0 cy 10)) := dis_mset hd x10
  have hq := hq.add (a := a10) y10 (k := 10) (by decide)
  have w : WW D cy _ (un X (mset _ a10 (e0 cy 10))) s H locs := w
  refine lv_astore (lv' := [(10, .ref a10), (9, .ref a9), (8, .ref a8), (7, .ref a7), (6, .ref a6), (5, .ref a5), (4, .ref a4), (3, .ref a3), (2, .ref a2), (1, .ref o), (0, .ref b)]) F.1 F.2.1 dL_law_58 hl (by decide) rfl (fun ls hl => ?_)
  refine W.widen (k := 1000) (n := 20000) (Nat.le_of_ble_eq_true rfl) (Nat.le_of_ble_eq_true rfl) ?_
  exact lc_first F hlf (fun q hq => hq) hr hlocks hX hbl hbA hL hAD hd hM hq.rep w hl
set_option maxHeartbeats 4000000 in
theorem lw_walk (l : Launch) (hflags : l.flags = flags0) (b : Addr) (xs : List Int32) : MetFree l x (headSpec (Jvm.Cond.code x code maxLocals ret :: tables_1) room_1) (lw_P b xs) (fun _ _ _ _ _ => True) lw_Q := by
  refine MetFree.of_bodyS (code := code) (maxLocals := maxLocals) (ret := ret) (by decide) ?_ ?_
  · intro args s m h hn
    obtain ⟨meth, c, h1, h2, h3, h4, h5, h6, -, -⟩ := Cond.code_spec hn (atoms_spec (ws := Jvm.Cond.code x code maxLocals ret :: tables_1) h _ List.mem_cons_self)
    exact ⟨meth, c, h1, h2, h3, h4, h5, h6⟩
  · intro p e s m args below meth c s₁ B hml0 hP _
    obtain ⟨rfl, hx, hbd, hgv⟩ := hP
    obtain ⟨scr, harrAt, hlist, hof, hsmall⟩ := hx
    obtain ⟨hcb, hkn, -, -⟩ := State.arrayAt?_spec harrAt
    have hown : s.vm.findClass R_law = some m.cls := findClass_of_methodNamed B.named
    have hts0 : ∀ c ∈ (Jvm.Cond.code x code maxLocals ret :: tables_1), c.before #[Value.ref b] s = true := atoms_spec (ws := Jvm.Cond.code x code maxLocals ret :: tables_1) B.pre
    have hts : ∀ w ∈ lw_tbl, w.before #[Value.ref b] s = true := k2_hts_sels lw_privs (fun w hw => hts0 w (List.mem_cons_of_mem _ hw)) lw_privs_ok
    have hml : c.maxLocals = 40 := B.maxLocals_eq (hts0 _ List.mem_cons_self)
    have X₀ : Stand p l e room_1 s m #[Value.ref b] below meth c s₁ [] 0 0 := Stand.of_body B
    have hh0 : s₁.heap = s.heap := by rw [B.state]; rfl
    have hsz : scr.slots.size = xs.length := by rw [← Array.length_toList, hlist, List.length_map]
    have hval : ∀ j : Nat, j < xs.length → scr.slots[j]? = some (.int (xs.getD j 0)) := fun j hj => by
      rw [← Array.getElem?_toList, hlist]
      simp [hj]
    have hbl : b < s.heap.size := (Array.getElem?_eq_some_iff.mp hcb).1
    have hX : va_X b xs.length (fun j => xs.getD j 0) s s.heap := ⟨scr, hcb, hof, hkn, hsz, hval⟩
    have K : W p l e room_1 s m #[Value.ref b] below meth c s₁.heap [] 0 0 (lw_Z below #[Value.ref b] s) (entryFrame m ([Value.ref b] : List Value).toArray 40) := by
      rw [hh0]
      exact whole_start l hflags hbd ⟨B.exec, B.bytes, B.returns, hml, hown, hts, hX, hbl, B.notSynchronized, hgv⟩
    obtain ⟨t, a1, o, b1, b2, b3⟩ := K s₁ rfl X₀
    exact ⟨t, o, a1, b1, b2, b3⟩
theorem lw_pre_spec {args : Array Value} {s : State} (h : (Jvm.Cond.and given_1 narrow_1).before args s = true) (hr : rest_1_c.before args s = true) : ∃ (b : Addr) (xs : List Int32), lw_P b xs args s := by
  have hs := flat_of_before _ h
  have hq := flat_of_before _ hr
  have hc : (Cond.count 1).before args s = true := hs _ (by decide +kernel)
  have harr : (Cond.arrayOf (.arg 0) .int).before args s = true := hs _ (by decide +kernel)
  have hle : (Cond.le (.length (.arg 0)) (.int 260)).before args s = true := hs _ (by decide +kernel)
  have hlen : (Cond.isInt (.length (.arg 0))).before args s = true := hq _ (by decide +kernel)
  have hall : (Cond.all (.arg 0) (.isInt (.elem (.arg 0) (.index 0)))).before args s = true := hq _ (by decide +kernel)
  obtain ⟨b, xs, hb, hx⟩ := State.ints_of_pre rfl harr hlen hall
  have hsm : xs.length < 2 ^ 31 := hx.choose_spec.2.2.2
  have hev : (Term.length (.arg 0)).eval args s none [] s = some (.int xs.length.toInt32) := hx.length_eval hb
  have hv := Cond.le_ints hev (show (Term.int 260).eval args s none [] s = some (.int 260) from rfl)
  have hd : xs.length.toInt32 ≤ 260 := by
    simpa [Cond.before, Cond.holds, hv] using hle
  have hN : xs.length ≤ 260 := (Int32.ofNat_le_ofNat hsm (by decide)).mp (show Int32.ofNat xs.length ≤ Int32.ofNat 260 from hd)
  exact ⟨b, xs, Cond.one_arg hc (show args[0]? = some (.ref b) from hb), hx, hN, h⟩
theorem lw_comes (l : Launch) (hflags : l.flags = flags0) : Comes l x (Jvm.Cond.code x code maxLocals ret :: tables_1) room_1 (fun tb e args s => Calls_1 tb e args s ∧ rest_1 tb e args s ∧ Pre_1 tb e args s)
    (fun _ _ args s o t => lw_Q args s o t) := by
  intro p e ha hc hk s m args below hf hfit hheap happ hpre
  obtain ⟨b, xs, hP⟩ := lw_pre_spec hpre.2.2 hpre.2.1
  obtain ⟨k, o, h1, h2, h3, hQ⟩ := lw_walk l hflags b xs p e ha hc hk s m args below hf ((Spec.applies_iff_loose hf).mp happ).1 hP trivial
  exact ⟨k, o, h1, h2, h3, hQ⟩
theorem lw_frame {s t : State} {o : Outcome} {args : Array Value} (h : Framed s o t [] 660457 7120328) :
    Framed s o t (fieldLocs frame_1_writes args s ++ arrayLocs frame_1_arrays args s ++ staticLocs frame_1_statics s) 660457 7120328 := h
theorem lw_limb (L : Cond) (hL : ∀ (args : Array Value) (s t : State), L.after args s (.returned (some (.int 1))) t = true) :
    ArmFor flags0 classFile x code maxLocals ret World_1 tables_1 room_1 Calls_1 rest_1 Pre_1
      (fun tb e a s o t => postC L tb e a s o t ∧ Framed s o t (fieldLocs frame_1_writes a s ++ arrayLocs frame_1_arrays a s ++ staticLocs frame_1_statics s) 660457 7120328) := by
  intro l hflags _ _ p e ha hc hk s m args below hf hfit hheap happ hpre
  obtain ⟨k, o, h1, h2, h3, rfl, hF⟩ := lw_comes l hflags p e ha hc hk s m args below hf hfit hheap happ hpre
  exact ⟨k, _, h1, h2, h3, hL args s _, lw_frame hF⟩
