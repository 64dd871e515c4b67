def gnote (G : GS) (i : Nat) (x1 x2 x3 x4 : Int32) : GS := up2 (g14 G i (gnN G i) x1 x2 x3 x4) 45 i (nI (gnN G i + 1))
theorem e_gnote (G : GS) (i : Nat) (x1 x2 x3 x4 : Int32) {j : Nat} (h : j ∉ [46, 47, 48, 49, 54, 45]) : gnote G i x1 x2 x3 x4 j = G j := (up2_ne (fun e => h (by rw [e]; decide))).trans (g14_ne (fun e => h (List.mem_append_left (bs := [45]) e)))
theorem note_lt {n : Nat} (hn : n < 514) : ¬ (514 : Int32) ≤ nI n := fun h => by
  have h1 := (nI_leI (a := 514) (b := n) (by decide) (by omega)).mp h
  omega
theorem lv_st {p : Program} {l : Launch} {e : Env} {R : Room} {s : State} {m : MethodId} {args : Array Value} {below : List Frame} {meth : Method} {c : Code} {H : Heap} {locs : List Loc} {cells slots : Nat} {Q : State → Prop} {pc : Nat} {ls : Array Slot} {st st' : List Value} (e9 : st = st') (k : W p l e R s m args below meth c H locs cells slots Q (F0 m pc ls st)) : W p l e R s m args below meth c H locs cells slots Q (F0 m pc ls st') := e9 ▸ k
theorem xr_nI {AD : AM} {v : Nat} (hv : v < 2 ^ 31) : xr AD (nI v) = some (AD 10 v 0) := by
  unfold xr
  rw [if_neg (nI_m1 hv), nI_clamp hv]
set_option maxHeartbeats 4000000 in
set_option maxRecDepth 100000 in
theorem c_X4_note (l : Launch) (D : va_G) (cy : Nat → ClassId) (A : Nat → Prop) (μ : MU) (AD : AM) (G : GS) (hM : RepC cy AD G μ) (i1 : Nat) (hi : i1 < gmS G) (hn : gnN G i1 < 514) (hm : gmN G i1 = gnN G i1) (x1 x2 x3 x4 : Int32) : Met l yX4_note (WS yX4_note cX4_note 5 (Option.none : Option Jvm.ClassFile.FieldType)) { frames := 7, cells := 2, slots := 1004, locals := 201 } (va_Pc [.ref (AD 6 i1 0), .int x1, .int x2, .int x3, .int x4] (Wd D cy A μ)) (va_Qv (fun μ1 : MU => ∃ AD1 : AM, (∀ k, k ≠ 14 → k ≠ 18 → AD1 k = AD k) ∧ RepC cy AD1 (gnote G i1 x1 x2 x3 x4) μ1) (fun μ1 t => Wd D cy A μ1 t) A) 2 1004 A := by
  refine q_met (by decide) (Nat.le_of_ble_eq_true rfl) ?_
  intro p e s m below meth c F w hr hlk hnm ls hl
  have F : CallFix p m c cX4_note 5 s _ BIG RX4 := F
  have hl : lv_has ls 5 [(0, .ref (AD 6 i1 0)), (1, .int x1), (2, .int x2), (3, .int x3), (4, .int x4)] := hl
  have o6 : ok G 6 i1 0 := ⟨by decide, hi, rfl⟩
  refine lv_aload_n F.1 F.2.1 dX4_note_0 rfl (lv_at hl 0 rfl) ?_
  refine gf_X4_39 F w (hM.a6 o6) rfl dX4_note_1 ?_
  refine q_rV (rest := []) F w kV_X4_49 hd_Jx4a65c_size_8abf5 (ci := 0) rfl (c_size l D cy A _ (hM.l8 hi).1) (hM.l8 hi).1 dX4_note_4 rfl rfl hl.1 ⟨rfl, rfl, Nat.le_of_ble_eq_true rfl, Nat.le_of_ble_eq_true rfl⟩ (Nat.le_of_ble_eq_true rfl) ⟨Nat.zero_le _, Nat.zero_le _⟩ ?_
  refine lv_sipush (v := 514) F.1 F.2.1 dX4_note_7 (by decide) ?_
  refine lv_icmp_ge (tgt := 33) F.1 F.2.1 dX4_note_10 (by decide) (fun c_1 => absurd c_1 (note_lt hn)) (fun c_1 => ?_)
  refine lv_aload_n F.1 F.2.1 dX4_note_13 rfl (lv_at hl 0 rfl) ?_
  refine gf_X4_39 F w (hM.a6 o6) rfl dX4_note_14 ?_
  refine nw_X4_52 F w (Nat.le_of_ble_eq_true rfl) (Nat.le_of_ble_eq_true rfl) dX4_note_17 (fun q H hq w => ?_)
  refine lv_dup F.1 F.2.1 dX4_note_20 rfl ?_
  refine lv_iload_n F.1 F.2.1 dX4_note_21 rfl (lv_at hl 1 rfl) ?_
  refine lv_iload_n F.1 F.2.1 dX4_note_22 rfl (lv_at hl 2 rfl) ?_
  refine lv_iload_n F.1 F.2.1 dX4_note_23 rfl (lv_at hl 3 rfl) ?_
  refine lv_iload F.1 F.2.1 dX4_note_24 (lv_at hl 4 rfl) ?_
  refine q_mI (rest := [.ref q, .ref (AD 8 i1 0)]) F w kI_X4_54 wM_X4_54 wMi_X4_54 wI_X2 rfl hd_X2_init (c_X2_init l D cy A _ x1 x2 x3 x4 (mset_eq _ _ _)) dX4_note_26 rfl rfl hl.1 ⟨rfl, rfl, (Nat.le_of_ble_eq_true rfl), (Nat.le_of_ble_eq_true rfl)⟩ (Nat.le_of_ble_eq_true rfl) ⟨(Nat.le_of_ble_eq_true rfl), (Nat.le_of_ble_eq_true rfl)⟩ (fun μ1 H locs hp w => ?_)
  obtain ⟨hp1, hp2⟩ := hp
  have hM1 : RepC cy AD G μ1 := hM.keep (keep_at hq (fun b hb => (hp2 b hb).trans (mset_ne hb)))
  have hM2 := mk_14 hM1 hi hn hm rfl (fun k' i' j' ho => hM.out hq ho) hp1
  have hi2 : i1 < gmS (g14 G i1 (gnN G i1) x1 x2 x3 x4) := (g14_ok1 (by omega) hm o6).2.1
  have hN : gnN (g14 G i1 (gnN G i1) x1 x2 x3 x4) i1 = gnN G i1 := congrArg (fun z : Nat → Int32 => (z i1).toNatClampNeg) (g14_ne (j := 45) (by decide))
  have hL := hM2.l8 hi2
  rw [hN, upA_ne (k' := 8) (by decide)] at hL
  refine q_mVi (rest := []) F w kV_X4_57 hd_Jx4a65c_add_9ea2d (ci := 0) rfl (c_add l D cy A _ (ci := 3) hL.1 hL.2 rfl (by decide) (fun i hi9 => ⟨_, hM2.a14 (g14_ok1 (by omega) hm ⟨by decide, hi, by omega, by omega⟩)⟩) hp1 (by omega)) hL.1 dX4_note_29 rfl rfl hl.1 ⟨rfl, rfl, (Nat.le_of_ble_eq_true rfl), (Nat.le_of_ble_eq_true rfl)⟩ (Nat.le_of_ble_eq_true rfl) ⟨(Nat.le_of_ble_eq_true rfl), (Nat.le_of_ble_eq_true rfl)⟩ (fun v μ2 H locs hp w => ?_)
  obtain ⟨-, ed1, p1, p2, p3, p4⟩ := hp
  have hM3 := la_8 hM2 hi2 (by omega) (ed1 := ed1) (by rw [hN, upA_ne (k' := 8) (by decide)]; exact p1) (by rw [hN, upA_eq]; exact p2) (by rw [hN]; exact p3) (by rw [upA_ne (k' := 8) (by decide)]; exact p4)
  rw [hN] at hM3
  refine lv_pop F.1 F.2.1 dX4_note_32 rfl ?_
  refine W.widen (k := 2) (n := 1004) (Nat.le_of_ble_eq_true rfl) (Nat.le_of_ble_eq_true rfl) ?_
  exact q_retV F hr hlk w ⟨_, fun k h1 h2 => (upA_ne h2).trans (upA_ne h1), hM3⟩ dX4_note_33
theorem InvC.note {G : GS} (h : InvC G) {i : Nat} (hi : i < gnS G) (hn : gnN G i < 514) (x1 x2 x3 x4 : Int32) : InvC (gnote G i x1 x2 x3 x4) := by
  have e : ∀ j, j ∉ [46, 47, 48, 49, 54, 45] → (gnote G i x1 x2 x3 x4) j = G j := fun j h => e_gnote G i x1 x2 x3 x4 h
  have h0 := h
  obtain ⟨h1, h2, h3, h4, h5, h6, h7, h8, h9, h10, h11, h12⟩ := h
  have qgnS : gnS (gnote G i x1 x2 x3 x4) = gnS G := congrArg (fun z : Nat → Int32 => (z 0).toNatClampNeg) (e 3 (by decide))
  have qgnR : gnR (gnote G i x1 x2 x3 x4) = gnR G := congrArg (fun z : Nat → Int32 => (z 0).toNatClampNeg) (e 23 (by decide))
  have qgnV : gnV (gnote G i x1 x2 x3 x4) = gnV G := congrArg (fun z : Nat → Int32 => (z 0).toNatClampNeg) (e 29 (by decide))
  have qgmS : gmS (gnote G i x1 x2 x3 x4) = gmS G := congrArg (fun z : Nat → Int32 => (z 0).toNatClampNeg) (e 50 (by decide))
  have qgmR : gmR (gnote G i x1 x2 x3 x4) = gmR G := congrArg (fun z : Nat → Int32 => (z 0).toNatClampNeg) (e 51 (by decide))
  have qgmV : gmV (gnote G i x1 x2 x3 x4) = gmV G := congrArg (fun z : Nat → Int32 => (z 0).toNatClampNeg) (e 52 (by decide))
  have qgnF : gnF (gnote G i x1 x2 x3 x4) = gnF G := funext (fun x => congrArg (fun z : Nat → Int32 => (z x).toNatClampNeg) (e 35 (by decide)))
  have qgnO : gnO (gnote G i x1 x2 x3 x4) = gnO G := funext (fun x => congrArg (fun z : Nat → Int32 => (z x).toNatClampNeg) (e 30 (by decide)))
  have qgmF : gmF (gnote G i x1 x2 x3 x4) = gmF G := funext (fun x => congrArg (fun z : Nat → Int32 => (z x).toNatClampNeg) (e 53 (by decide)))
  have qgcT : gcT (gnote G i x1 x2 x3 x4) = gcT G := funext (fun x => by unfold gcT; rw [e 19 (by decide), e 20 (by decide)])
  have a1 : (gnote G i x1 x2 x3 x4) 45 = upd (G 45) i (nI (gnN G i + 1)) := (up2_eq _ _ _ _).trans (by rw [g14_ne (by decide)])
  have a2 : (gnote G i x1 x2 x3 x4) 54 = upd (G 54) i (nI (gnN G i + 1)) := (up2_ne (by decide)).trans ((up2_eq _ _ _ _).trans (by rw [upL_a rfl]))
  refine ⟨(by rw [qgnS, qgmS, e 3 (by decide)]; exact h1),
    (by rw [qgnR, qgmR, e 23 (by decide)]; exact h2),
    (by rw [qgnV, qgmV, e 29 (by decide)]; exact h3),
    (by rw [qgnV, qgnF, qgmF, e 35 (by decide)]; exact h4),
    fun s hs => ?_,
    (by rw [qgnV, qgnO, qgnS, e 30 (by decide)]; exact h6),
    (by rw [qgnS, qgnV, e 11 (by decide), e 12 (by decide), e 13 (by decide)]; exact h7),
    (by rw [qgnS, qgcT, e 18 (by decide), e 19 (by decide), e 20 (by decide)]; exact h8),
    (by rw [e 2 (by decide)]; exact h9),
    (by rw [qgnS, e 14 (by decide)]; exact h10),
    (by rw [qgnV, qgnF, e 37 (by decide), e 44 (by decide)]; exact h11),
    (by rw [qgnV, e 39 (by decide), e 42 (by decide)]; exact h12)⟩
  rw [qgnS] at hs
  have b := h5 s hs
  unfold gnN gmN at b ⊢
  rw [a1, a2]
  unfold upd
  by_cases e9 : s = i
  · subst e9
    rw [if_pos rfl, if_pos rfl, nI_clamp (by omega)]
    exact ⟨rfl, hn, rfl⟩
  · rw [if_neg e9, if_neg e9]
    exact b
def gfnd (G : GS) (i : Nat) (x1 : Int32) : GS := up2 (g12 G i (gnF G i) x1) 35 i (nI (gnF G i + 1))
theorem e_gfnd (G : GS) (i : Nat) (x1 : Int32) {j : Nat} (h : j ∉ [36, 37, 44, 53, 35]) : gfnd G i x1 j = G j := (up2_ne (fun e => h (by rw [e]; decide))).trans (g12_ne (fun e => h (List.mem_append_left (bs := [35]) e)))
theorem gfnd_n {G : GS} {i : Nat} {x1 : Int32} (hn : gnF G i < 600) : gnF (gfnd G i x1) i = gnF G i + 1 := by
  unfold gnF gfnd
  rw [up2_at, nI_clamp (by unfold gnF at hn ⊢; omega)]
  rfl
theorem gfnd_nx {G : GS} {i i9 : Nat} {x1 : Int32} (h : i9 ≠ i) : gnF (gfnd G i x1) i9 = gnF G i9 := congrArg Int32.toNatClampNeg ((congrFun (up2_eq _ _ _ _) _).trans ((if_neg h).trans (congrFun (g12_ne (by decide)) _)))
theorem InvC.fnd {G : GS} (h : InvC G) {i : Nat} (hi : i < gnV G) (hn : gnF G i < 12) (x1 : Int32) : InvC (gfnd G i x1) := by
  have e : ∀ j, j ∉ [36, 37, 44, 53, 35] → (gfnd G i x1) j = G j := fun j h => e_gfnd G i x1 h
  have h0 := h
  obtain ⟨h1, h2, h3, h4, h5, h6, h7, h8, h9, h10, h11, h12⟩ := h
  have qgnS : gnS (gfnd G i x1) = gnS G := congrArg (fun z : Nat → Int32 => (z 0).toNatClampNeg) (e 3 (by decide))
  have qgnR : gnR (gfnd G i x1) = gnR G := congrArg (fun z : Nat → Int32 => (z 0).toNatClampNeg) (e 23 (by decide))
  have qgnV : gnV (gfnd G i x1) = gnV G := congrArg (fun z : Nat → Int32 => (z 0).toNatClampNeg) (e 29 (by decide))
  have qgmS : gmS (gfnd G i x1) = gmS G := congrArg (fun z : Nat → Int32 => (z 0).toNatClampNeg) (e 50 (by decide))
  have qgmR : gmR (gfnd G i x1) = gmR G := congrArg (fun z : Nat → Int32 => (z 0).toNatClampNeg) (e 51 (by decide))
  have qgmV : gmV (gfnd G i x1) = gmV G := congrArg (fun z : Nat → Int32 => (z 0).toNatClampNeg) (e 52 (by decide))
  have qgnN : gnN (gfnd G i x1) = gnN G := funext (fun x => congrArg (fun z : Nat → Int32 => (z x).toNatClampNeg) (e 45 (by decide)))
  have qgnO : gnO (gfnd G i x1) = gnO G := funext (fun x => congrArg (fun z : Nat → Int32 => (z x).toNatClampNeg) (e 30 (by decide)))
  have qgmN : gmN (gfnd G i x1) = gmN G := funext (fun x => congrArg (fun z : Nat → Int32 => (z x).toNatClampNeg) (e 54 (by decide)))
  have qgcT : gcT (gfnd G i x1) = gcT G := funext (fun x => by unfold gcT; rw [e 19 (by decide), e 20 (by decide)])
  have a1 : (gfnd G i x1) 35 = upd (G 35) i (nI (gnF G i + 1)) := (up2_eq _ _ _ _).trans (by rw [g12_ne (by decide)])
  have a2 : (gfnd G i x1) 53 = upd (G 53) i (nI (gnF G i + 1)) := (up2_ne (by decide)).trans ((up2_eq _ _ _ _).trans (by rw [upL_a rfl]))
  have a3 : ∀ a x, (a = 37 ∨ a = 44) → (x = 12 * i + gnF G i → (gfnd G i x1) a x = 0) ∧ (x ≠ 12 * i + gnF G i → (gfnd G i x1) a x = G a x) := fun a x ha => by
    rcases ha with rfl | rfl
    · exact ⟨fun e9 => by rw [e9]; exact (congrFun (up2_ne (by decide)) _).trans g12_at.2.2, fun e9 => (congrFun ((up2_ne (by decide)).trans (up2_ne (by decide))) _).trans (upL_x e9)⟩
    · exact ⟨fun e9 => by rw [e9]; exact (congrFun (up2_ne (by decide)) _).trans g12_at.2.1, fun e9 => (congrFun ((up2_ne (by decide)).trans (up2_ne (by decide))) _).trans (upL_x e9)⟩
  refine ⟨(by rw [qgnS, qgmS, e 3 (by decide)]; exact h1),
    (by rw [qgnR, qgmR, e 23 (by decide)]; exact h2),
    (by rw [qgnV, qgmV, e 29 (by decide)]; exact h3),
    fun v hv => ?_,
    (by rw [qgnS, qgnN, qgmN, e 45 (by decide)]; exact h5),
    (by rw [qgnV, qgnO, qgnS, e 30 (by decide)]; exact h6),
    (by rw [qgnS, qgnV, e 11 (by decide), e 12 (by decide), e 13 (by decide)]; exact h7),
    (by rw [qgnS, qgcT, e 18 (by decide), e 19 (by decide), e 20 (by decide)]; exact h8),
    (by rw [e 2 (by decide)]; exact h9),
    (by rw [qgnS, e 14 (by decide)]; exact h10),
    fun v j hv hj => ?_,
    (by rw [qgnV, e 39 (by decide), e 42 (by decide)]; exact h12)⟩
  · rw [qgnV] at hv
    have b := h4 v hv
    unfold gnF gmF at b ⊢
    rw [a1, a2]
    unfold upd
    by_cases e9 : v = i
    · subst e9
      rw [if_pos rfl, if_pos rfl, nI_clamp (by omega)]
      exact ⟨rfl, hn, rfl⟩
    · rw [if_neg e9, if_neg e9]
      exact b
  · rw [qgnV] at hv
    have hj2 : (v = i ∧ j = gnF G i) ∨ (j < gnF G v ∧ 12 * v + j ≠ 12 * i + gnF G i) := by
      have b4 := (h4 v hv).2.1
      by_cases e9 : v = i
      · subst e9
        rw [gfnd_n (by omega)] at hj
        by_cases e8 : j = gnF G v
        · exact Or.inl ⟨rfl, e8⟩
        · exact Or.inr ⟨by omega, by omega⟩
      · rw [gfnd_nx e9] at hj
        exact Or.inr ⟨hj, by omega⟩
    rcases hj2 with ⟨e9, e8⟩ | ⟨b1, b2⟩
    · rw [(a3 37 _ (Or.inl rfl)).1 (by rw [e9, e8]), (a3 44 _ (Or.inr rfl)).1 (by rw [e9, e8])]
      exact ⟨nz0, nz0⟩
    · rw [(a3 37 _ (Or.inl rfl)).2 b2, (a3 44 _ (Or.inr rfl)).2 b2]
      exact h11 v j hv b1
def grul (G : GS) (x1 x2 x3 x4 x5 : Int32) : GS := up2 (g9 G (gnR G) x1 x2 x3 x4 x5) 23 0 (nI (gnR G + 1))
theorem e_grul (G : GS) (x1 x2 x3 x4 x5 : Int32) {j : Nat} (h : j ∉ [24, 25, 26, 27, 28, 51, 23]) : grul G x1 x2 x3 x4 x5 j = G j := (up2_ne (fun e => h (by rw [e]; decide))).trans (g9_ne (fun e => h (List.mem_append_left (bs := [23]) e)))
theorem grul_n {G : GS} {x1 x2 x3 x4 x5 : Int32} (hn : gnR G < 600) : gnR (grul G x1 x2 x3 x4 x5) = gnR G + 1 := by
  unfold gnR grul
  rw [up2_at, nI_clamp (by unfold gnR at hn ⊢; omega)]
  rfl
theorem InvC.rul {G : GS} (h : InvC G) (hn : gnR G < 20) (x1 x2 x3 x4 x5 : Int32) : InvC (grul G x1 x2 x3 x4 x5) := by
  have e : ∀ j, j ∉ [24, 25, 26, 27, 28, 51, 23] → (grul G x1 x2 x3 x4 x5) j = G j := fun j h => e_grul G x1 x2 x3 x4 x5 h
  have h0 := h
  obtain ⟨h1, h2, h3, h4, h5, h6, h7, h8, h9, h10, h11, h12⟩ := h
  have qgnS : gnS (grul G x1 x2 x3 x4 x5) = gnS G := congrArg (fun z : Nat → Int32 => (z 0).toNatClampNeg) (e 3 (by decide))
  have qgnV : gnV (grul G x1 x2 x3 x4 x5) = gnV G := congrArg (fun z : Nat → Int32 => (z 0).toNatClampNeg) (e 29 (by decide))
  have qgmS : gmS (grul G x1 x2 x3 x4 x5) = gmS G := congrArg (fun z : Nat → Int32 => (z 0).toNatClampNeg) (e 50 (by decide))
  have qgmV : gmV (grul G x1 x2 x3 x4 x5) = gmV G := congrArg (fun z : Nat → Int32 => (z 0).toNatClampNeg) (e 52 (by decide))
  have qgnF : gnF (grul G x1 x2 x3 x4 x5) = gnF G := funext (fun x => congrArg (fun z : Nat → Int32 => (z x).toNatClampNeg) (e 35 (by decide)))
  have qgnN : gnN (grul G x1 x2 x3 x4 x5) = gnN G := funext (fun x => congrArg (fun z : Nat → Int32 => (z x).toNatClampNeg) (e 45 (by decide)))
  have qgnO : gnO (grul G x1 x2 x3 x4 x5) = gnO G := funext (fun x => congrArg (fun z : Nat → Int32 => (z x).toNatClampNeg) (e 30 (by decide)))
  have qgmF : gmF (grul G x1 x2 x3 x4 x5) = gmF G := funext (fun x => congrArg (fun z : Nat → Int32 => (z x).toNatClampNeg) (e 53 (by decide)))
  have qgmN : gmN (grul G x1 x2 x3 x4 x5) = gmN G := funext (fun x => congrArg (fun z : Nat → Int32 => (z x).toNatClampNeg) (e 54 (by decide)))
  have qgcT : gcT (grul G x1 x2 x3 x4 x5) = gcT G := funext (fun x => by unfold gcT; rw [e 19 (by decide), e 20 (by decide)])
  have a1 : (grul G x1 x2 x3 x4 x5) 23 0 = nI (gnR G + 1) := up2_at _ _ _ _
  have a2 : (grul G x1 x2 x3 x4 x5) 51 0 = nI (gnR G + 1) := (congrFun (up2_ne (by decide)) _).trans (up2_at _ _ _ _)
  refine ⟨(by rw [qgnS, qgmS, e 3 (by decide)]; exact h1),
    ?_,
    (by rw [qgnV, qgmV, e 29 (by decide)]; exact h3),
    (by rw [qgnV, qgnF, qgmF, e 35 (by decide)]; exact h4),
    (by rw [qgnS, qgnN, qgmN, e 45 (by decide)]; exact h5),
    (by rw [qgnV, qgnO, qgnS, e 30 (by decide)]; exact h6),
    (by rw [qgnS, qgnV, e 11 (by decide), e 12 (by decide), e 13 (by decide)]; exact h7),
    (by rw [qgnS, qgcT, e 18 (by decide), e 19 (by decide), e 20 (by decide)]; exact h8),
    (by rw [e 2 (by decide)]; exact h9),
    (by rw [qgnS, e 14 (by decide)]; exact h10),
    (by rw [qgnV, qgnF, e 37 (by decide), e 44 (by decide)]; exact h11),
    (by rw [qgnV, e 39 (by decide), e 42 (by decide)]; exact h12)⟩
  unfold gmR
  rw [grul_n (by omega), a1, a2, nI_clamp (by omega)]
  exact ⟨rfl, hn, rfl⟩
def gvi0 (G : GS) (i1 : Nat) (x3 x4 : Int32) : GS := up2 (g10 G (gnV G) i1 x3 x4) 29 0 (nI (gnV G + 1))
theorem e_gvi0 (G : GS) (i1 : Nat) (x3 x4 : Int32) {j : Nat} (h : j ∉ [30, 31, 32, 33, 34, 35, 38, 39, 40, 41, 42, 53, 52, 29]) : gvi0 G i1 x3 x4 j = G j := (up2_ne (fun e => h (by rw [e]; decide))).trans (g10_ne (fun e => h (List.mem_append_left (bs := [29]) e)))
theorem gvi0_n {G : GS} {i1 : Nat} {x3 x4 : Int32} (hn : gnV G < 600) : gnV (gvi0 G i1 x3 x4) = gnV G + 1 := by
  show (up2 (g10 G (gnV G) i1 x3 x4) 29 0 (nI (gnV G + 1)) 29 0).toNatClampNeg = gnV G + 1
  rw [up2_at, nI_clamp (by omega)]
theorem gvi0_x {G : GS} {i1 : Nat} {x3 x4 : Int32} {a x : Nat} (ha : a ∉ [29, 52]) (hx : x ≠ gnV G) : gvi0 G i1 x3 x4 a x = G a x := (congrFun (up2_ne (fun e => ha (by rw [e]; decide))) x).trans (g10_x (fun e => ha (by rw [e]; decide)) hx)
theorem gvi0_v {G : GS} {i1 : Nat} {x3 x4 : Int32} {a : Nat} {w : Int32} (ha : a ∉ [29, 52]) (h : [(30, nI i1), (31, G 10 i1), (32, x3), (33, x4), (34, G 7 i1), (35, 0), (38, -1), (39, 0), (40, 0), (41, 0), (42, 0), (53, 0)].lookup a = some w) : gvi0 G i1 x3 x4 a (gnV G) = w := (congrFun (up2_ne (fun e => ha (by rw [e]; decide))) _).trans (g10_at (fun e => ha (by rw [e]; decide)) h)
theorem InvC.vi0 {G : GS} (h : InvC G) {i1 : Nat} (hi : i1 < gnS G) (hn : gnV G < 60) (x3 x4 : Int32) : InvC (gvi0 G i1 x3 x4) := by
  have e : ∀ j, j ∉ [30, 31, 32, 33, 34, 35, 38, 39, 40, 41, 42, 53, 52, 29] → (gvi0 G i1 x3 x4) j = G j := fun j h => e_gvi0 G i1 x3 x4 h
  have h0 := h
  obtain ⟨h1, h2, h3, h4, h5, h6, h7, h8, h9, h10, h11, h12⟩ := h
  have qgnS : gnS (gvi0 G i1 x3 x4) = gnS G := congrArg (fun z : Nat → Int32 => (z 0).toNatClampNeg) (e 3 (by decide))
  have qgnR : gnR (gvi0 G i1 x3 x4) = gnR G := congrArg (fun z : Nat → Int32 => (z 0).toNatClampNeg) (e 23 (by decide))
  have qgmS : gmS (gvi0 G i1 x3 x4) = gmS G := congrArg (fun z : Nat → Int32 => (z 0).toNatClampNeg) (e 50 (by decide))
  have qgmR : gmR (gvi0 G i1 x3 x4) = gmR G := congrArg (fun z : Nat → Int32 => (z 0).toNatClampNeg) (e 51 (by decide))
  have qgnN : gnN (gvi0 G i1 x3 x4) = gnN G := funext (fun x => congrArg (fun z : Nat → Int32 => (z x).toNatClampNeg) (e 45 (by decide)))
  have qgmN : gmN (gvi0 G i1 x3 x4) = gmN G := funext (fun x => congrArg (fun z : Nat → Int32 => (z x).toNatClampNeg) (e 54 (by decide)))
  have qgcT : gcT (gvi0 G i1 x3 x4) = gcT G := funext (fun x => by unfold gcT; rw [e 19 (by decide), e 20 (by decide)])
  have hN := gvi0_n (i1 := i1) (x3 := x3) (x4 := x4) (G := G) (by omega)
  have hz : gnF (gvi0 G i1 x3 x4) (gnV G) = 0 := by
    unfold gnF
    rw [gvi0_v (by decide) rfl]
    rfl
  have hx : ∀ v, v ≠ gnV G → gnF (gvi0 G i1 x3 x4) v = gnF G v := fun v hv => congrArg Int32.toNatClampNeg (gvi0_x (by decide) hv)
  have hlt : ∀ v, v < gnV (gvi0 G i1 x3 x4) → v = gnV G ∨ (v ≠ gnV G ∧ v < gnV G) := fun v hv => by rw [hN] at hv; omega
  refine ⟨(by rw [qgnS, qgmS, e 3 (by decide)]; exact h1),
    (by rw [qgnR, qgmR, e 23 (by decide)]; exact h2),
    ?_,
    fun v hv => ?_,
    (by rw [qgnS, qgnN, qgmN, e 45 (by decide)]; exact h5),
    fun v hv => ?_,
    fun s hs => ?_,
    (by rw [qgnS, qgcT, e 18 (by decide), e 19 (by decide), e 20 (by decide)]; exact h8),
    (by rw [e 2 (by decide)]; exact h9),
    (by rw [qgnS, e 14 (by decide)]; exact h10),
    fun v j hv hj => ?_,
    fun v hv => ?_⟩
  · unfold gmV
    rw [hN, show gvi0 G i1 x3 x4 29 0 = nI (gnV G + 1) from up2_at _ _ _ _, show gvi0 G i1 x3 x4 52 0 = nI (gnV G + 1) from (congrFun (up2_ne (by decide)) _).trans (up2_at _ _ _ _), nI_clamp (by omega)]
    exact ⟨rfl, hn, rfl⟩
  · rcases hlt v hv with e9 | ⟨e9, e8⟩
    · rw [e9, hz]
      unfold gmF
      rw [gvi0_v (a := 35) (by decide) rfl, gvi0_v (a := 53) (by decide) rfl]
      exact ⟨rfl, by omega, rfl⟩
    · rw [hx v e9, gvi0_x (by decide) e9]
      unfold gmF
      rw [gvi0_x (by decide) e9]
      exact h4 v e8
  · unfold gnO
    rw [qgnS]
    rcases hlt v hv with e9 | ⟨e9, e8⟩
    · rw [e9, gvi0_v (by decide) rfl, nI_clamp (by have := h1.2.1; omega)]
      exact ⟨rfl, hi⟩
    · rw [gvi0_x (by decide) e9]
      exact h6 v e8
  · rw [qgnS] at hs
    have b := h7 s hs
    rw [e 11 (by decide), e 12 (by decide), e 13 (by decide), hN]
    have c3 : ∀ x : Int32, (¬ x = -1 → x = nI x.toNatClampNeg ∧ x.toNatClampNeg < gnV G) → (¬ x = -1 → x = nI x.toNatClampNeg ∧ x.toNatClampNeg < gnV G + 1) := fun x hx9 hy => ⟨(hx9 hy).1, by have := (hx9 hy).2; omega⟩
    exact ⟨c3 _ b.1, c3 _ b.2.1, c3 _ b.2.2⟩
  · rcases hlt v hv with e9 | ⟨e9, e8⟩
    · rw [e9, hz] at hj
      omega
    · rw [hx v e9] at hj
      rw [e 37 (by decide), e 44 (by decide)]
      exact h11 v j e8 hj
  · rcases hlt v hv with e9 | ⟨e9, e8⟩
    · rw [e9, gvi0_v (a := 39) (by decide) rfl, gvi0_v (a := 42) (by decide) rfl]
      exact ⟨nz0, nz0⟩
    · rw [gvi0_x (a := 39) (by decide) e9, gvi0_x (a := 42) (by decide) e9]
      exact h12 v e8
theorem InvC.hre {G : GS} (hI : InvC G) : ∀ s f, s < gmS G → (f = 11 ∨ f = 12 ∨ f = 13) → G f s = -1 ∨ (G f s).toNatClampNeg < gnV G := fun s f hs hf => by
  rcases Classical.em (G f s = -1) with e | e
  · exact Or.inl e
  · exact Or.inr (hI.re f hf (by rw [← hI.s.2.2]; exact hs) e).2
theorem trm9 {d x : Int32} (h1 : ¬ x < 1) (h2 : x ≤ 1825) : (d + x) - d = nI x.toNatClampNeg ∧ 1 ≤ x.toNatClampNeg ∧ x.toNatClampNeg ≤ 1825 := by
  have e : (d + x) - d = x := by
    rw [Int32.add_comm]
    exact Int32.add_sub_cancel _ _
  have a1 : (1 : Int32).toInt ≤ x.toInt := Int32.le_iff_toInt_le.mp (Int32.not_lt.mp h1)
  have a2 : x.toInt ≤ (1825 : Int32).toInt := Int32.le_iff_toInt_le.mp h2
  have b1 : (1 : Int32).toInt = 1 := by decide
  have b2 : (1825 : Int32).toInt = 1825 := by decide
  rw [b1] at a1
  rw [b2] at a2
  have c1 : x.toNatClampNeg = x.toInt.toNat := rfl
  rw [e]
  refine ⟨?_, by omega, by omega⟩
  apply Int32.toInt_inj.mp
  rw [nI_toInt (by omega)]
  omega
theorem InvC.crt {G : GS} (h : InvC G) {i f : Nat} (hf : f < 5) {b d t : Int32} {T9 : Nat} (ht : t - d = nI T9) (ht1 : 1 ≤ T9) (ht2 : T9 ≤ 1825) : InvC (g13 G i f b d t) := by
  have e : ∀ j, j ∉ [18, 19, 20, 21, 22] → (g13 G i f b d t) j = G j := fun j h => g13_ne h
  have h0 := h
  obtain ⟨h1, h2, h3, h4, h5, h6, h7, h8, h9, h10, h11, h12⟩ := h
  have qgnS : gnS (g13 G i f b d t) = gnS G := congrArg (fun z : Nat → Int32 => (z 0).toNatClampNeg) (e 3 (by decide))
  have qgnR : gnR (g13 G i f b d t) = gnR G := congrArg (fun z : Nat → Int32 => (z 0).toNatClampNeg) (e 23 (by decide))
  have qgnV : gnV (g13 G i f b d t) = gnV G := congrArg (fun z : Nat → Int32 => (z 0).toNatClampNeg) (e 29 (by decide))
  have qgmS : gmS (g13 G i f b d t) = gmS G := congrArg (fun z : Nat → Int32 => (z 0).toNatClampNeg) (e 50 (by decide))
  have qgmR : gmR (g13 G i f b d t) = gmR G := congrArg (fun z : Nat → Int32 => (z 0).toNatClampNeg) (e 51 (by decide))
  have qgmV : gmV (g13 G i f b d t) = gmV G := congrArg (fun z : Nat → Int32 => (z 0).toNatClampNeg) (e 52 (by decide))
  have qgnF : gnF (g13 G i f b d t) = gnF G := funext (fun x => congrArg (fun z : Nat → Int32 => (z x).toNatClampNeg) (e 35 (by decide)))
  have qgnN : gnN (g13 G i f b d t) = gnN G := funext (fun x => congrArg (fun z : Nat → Int32 => (z x).toNatClampNeg) (e 45 (by decide)))
  have qgnO : gnO (g13 G i f b d t) = gnO G := funext (fun x => congrArg (fun z : Nat → Int32 => (z x).toNatClampNeg) (e 30 (by decide)))
  have qgmF : gmF (g13 G i f b d t) = gmF G := funext (fun x => congrArg (fun z : Nat → Int32 => (z x).toNatClampNeg) (e 53 (by decide)))
  have qgmN : gmN (g13 G i f b d t) = gmN G := funext (fun x => congrArg (fun z : Nat → Int32 => (z x).toNatClampNeg) (e 54 (by decide)))
  refine ⟨(by rw [qgnS, qgmS, e 3 (by decide)]; exact h1),
    (by rw [qgnR, qgmR, e 23 (by decide)]; exact h2),
    (by rw [qgnV, qgmV, e 29 (by decide)]; exact h3),
    (by rw [qgnV, qgnF, qgmF, e 35 (by decide)]; exact h4),
    (by rw [qgnS, qgnN, qgmN, e 45 (by decide)]; exact h5),
    (by rw [qgnV, qgnO, qgnS, e 30 (by decide)]; exact h6),
    (by rw [qgnS, qgnV, e 11 (by decide), e 12 (by decide), e 13 (by decide)]; exact h7),
    fun s f9 hs hf9 => ?_,
    (by rw [e 2 (by decide)]; exact h9),
    (by rw [qgnS, e 14 (by decide)]; exact h10),
    (by rw [qgnV, qgnF, e 37 (by decide), e 44 (by decide)]; exact h11),
    (by rw [qgnV, e 39 (by decide), e 42 (by decide)]; exact h12)⟩
  rw [qgnS] at hs
  have b8 := h8 s f9 hs hf9
  unfold gcT at b8 ⊢
  by_cases e9 : 5 * s + f9 = 5 * i + f
  · rw [e9, g13_at (a := 18) rfl, g13_at (a := 19) rfl, g13_at (a := 20) rfl, ht, nI_clamp (by omega)]
    exact ⟨nz1, fun _ => ⟨rfl, ht1, ht2⟩⟩
  · rw [g13_x e9, g13_x e9, g13_x e9]
    exact b8
theorem InvC.wq {G : GS} (h : InvC G) {f i v : Nat} (hf : f = 11 ∨ f = 12 ∨ f = 13) (hv : v < gnV G) : InvC (up2 G f i (nI v)) := by
  have hv60 := h.v.2.1
  obtain ⟨h1, h2, h3, h4, h5, h6, h7, h8⟩ := h
  have hu : ∀ (x : Nat) (y : Int32), (¬ y = -1 → y = nI y.toNatClampNeg ∧ y.toNatClampNeg < gnV G) → (¬ (if x = i then nI v else y) = -1 → (if x = i then nI v else y) = nI (if x = i then nI v else y).toNatClampNeg ∧ (if x = i then nI v else y).toNatClampNeg < gnV G) := by
    intro x y hp
    by_cases e9 : x = i
    · rw [if_pos e9, nI_clamp (by omega)]
      exact fun _ => ⟨rfl, hv⟩
    · rw [if_neg e9]
      exact hp
  rcases hf with rfl | rfl | rfl
  · exact ⟨h1, h2, h3, h4, h5, h6, fun x hx => ⟨hu x _ (h7 x hx).1, (h7 x hx).2⟩, h8⟩
  · exact ⟨h1, h2, h3, h4, h5, h6, fun x hx => ⟨(h7 x hx).1, hu x _ (h7 x hx).2.1, (h7 x hx).2.2⟩, h8⟩
  · exact ⟨h1, h2, h3, h4, h5, h6, fun x hx => ⟨(h7 x hx).1, (h7 x hx).2.1, hu x _ (h7 x hx).2.2⟩, h8⟩
theorem e_g_X6_lookForBan (G : GS) (i1 : Nat) {j : Nat} (h : j ∉ [14, 42]) : g_X6_lookForBan G i1 j = G j := by
  unfold g_X6_lookForBan
  split
  · exact (LFB_ne G i1 _ j (fun e => h (by rw [e]; decide))).trans (up2_ne (fun e => h (by rw [e]; decide)))
  · rfl
theorem InvC.lfb {G : GS} (h : InvC G) (i1 : Nat) : InvC (g_X6_lookForBan G i1) := by
  unfold g_X6_lookForBan
  split
  · exact LFB_I i1 h _
  · exact h
def gsh0 (G : GS) (x1 x2 x3 x4 x5 : Int32) : GS := gnote (gnote (g6 G (gnS G) x1 x2 x3 x4 x5) (gnS G) 0 (-1) x1 x3) (gnS G) 1 (-1) x4 x5
def gshp (G : GS) (x1 x2 x3 x4 x5 : Int32) : GS := up2 (gsh0 G x1 x2 x3 x4 x5) 3 0 (nI (gnS G + 1))
theorem e_gsh0 (G : GS) (x1 x2 x3 x4 x5 : Int32) {j : Nat} (h : j ∉ [4, 5, 6, 7, 8, 9, 10, 11, 12, 13, 14, 15, 16, 17, 45, 54, 50, 18, 46, 47, 48, 49]) : gsh0 G x1 x2 x3 x4 x5 j = G j := (e_gnote _ _ _ _ _ _ (fun e => h ((by decide : ∀ a ∈ [46, 47, 48, 49, 54, 45], a ∈ [4, 5, 6, 7, 8, 9, 10, 11, 12, 13, 14, 15, 16, 17, 45, 54, 50, 18, 46, 47, 48, 49]) j e))).trans ((e_gnote _ _ _ _ _ _ (fun e => h ((by decide : ∀ a ∈ [46, 47, 48, 49, 54, 45], a ∈ [4, 5, 6, 7, 8, 9, 10, 11, 12, 13, 14, 15, 16, 17, 45, 54, 50, 18, 46, 47, 48, 49]) j e))).trans (g6_ne (fun e => h (List.mem_append_left (bs := [46, 47, 48, 49]) e))))
theorem e_gshp (G : GS) (x1 x2 x3 x4 x5 : Int32) {j : Nat} (h : j ∉ [4, 5, 6, 7, 8, 9, 10, 11, 12, 13, 14, 15, 16, 17, 45, 54, 50, 18, 46, 47, 48, 49, 3]) : gshp G x1 x2 x3 x4 x5 j = G j := (up2_ne (fun e => h (by rw [e]; decide))).trans (e_gsh0 G x1 x2 x3 x4 x5 (fun e => h (List.mem_append_left (bs := [3]) e)))
theorem gshp_n {G : GS} {x1 x2 x3 x4 x5 : Int32} (hn : gnS G < 600) : gnS (gshp G x1 x2 x3 x4 x5) = gnS G + 1 := by
  show (up2 (gsh0 G x1 x2 x3 x4 x5) 3 0 (nI (gnS G + 1)) 3 0).toNatClampNeg = gnS G + 1
  rw [up2_at, nI_clamp (by omega)]
theorem gshp_g6 (G : GS) (x1 x2 x3 x4 x5 : Int32) {j : Nat} (h : j ∉ [46, 47, 48, 49, 54, 45, 3]) : gshp G x1 x2 x3 x4 x5 j = g6 G (gnS G) x1 x2 x3 x4 x5 j := (up2_ne (fun e => h (by rw [e]; decide))).trans ((e_gnote _ _ _ _ _ _ (fun e => h (List.mem_append_left (bs := [3]) e))).trans (e_gnote _ _ _ _ _ _ (fun e => h (List.mem_append_left (bs := [3]) e))))
theorem gnote_45 {G : GS} {i : Nat} {x1 x2 x3 x4 : Int32} : gnote G i x1 x2 x3 x4 45 i = nI (gnN G i + 1) := up2_at _ _ _ _
theorem gnote_54 {G : GS} {i : Nat} {x1 x2 x3 x4 : Int32} : gnote G i x1 x2 x3 x4 54 i = nI (gnN G i + 1) := (congrFun (up2_ne (by decide)) _).trans (up2_at _ _ _ _)
theorem gnote_x {G : GS} {i x a : Nat} {x1 x2 x3 x4 : Int32} (ha : a = 45 ∨ a = 54) (hx : x ≠ i) : gnote G i x1 x2 x3 x4 a x = G a x := by
  rcases ha with rfl | rfl
  · exact (congrFun (up2_eq _ _ _ _) _).trans ((if_neg hx).trans (congrFun (g14_ne (by decide)) _))
  · exact (congrFun (up2_ne (by decide)) _).trans ((congrFun (up2_eq _ _ _ _) _).trans ((if_neg hx).trans (congrFun (upL_a rfl) _)))
theorem gnote_nN {G : GS} {i : Nat} {x1 x2 x3 x4 : Int32} (hn : gnN G i < 600) : gnN (gnote G i x1 x2 x3 x4) i = gnN G i + 1 := by
  show (gnote G i x1 x2 x3 x4 45 i).toNatClampNeg = gnN G i + 1
  rw [gnote_45, nI_clamp (by omega)]
theorem gnote_mN {G : GS} {i : Nat} {x1 x2 x3 x4 : Int32} (hn : gnN G i < 600) : gmN (gnote G i x1 x2 x3 x4) i = gnN G i + 1 := by
  show (gnote G i x1 x2 x3 x4 54 i).toNatClampNeg = gnN G i + 1
  rw [gnote_54, nI_clamp (by omega)]
theorem gsh0_1 {G : GS} {x1 x2 x3 x4 x5 : Int32} : gnN (gnote (g6 G (gnS G) x1 x2 x3 x4 x5) (gnS G) 0 (-1) x1 x3) (gnS G) = 1 := by
  rw [gnote_nN (by rw [g6_nN]; omega), g6_nN]
theorem gsh0_1m {G : GS} {x1 x2 x3 x4 x5 : Int32} : gmN (gnote (g6 G (gnS G) x1 x2 x3 x4 x5) (gnS G) 0 (-1) x1 x3) (gnS G) = 1 := by
  rw [gnote_mN (by rw [g6_nN]; omega), g6_nN]
theorem gshp_45 {G : GS} {x1 x2 x3 x4 x5 : Int32} {a : Nat} (ha : a = 45 ∨ a = 54) : gshp G x1 x2 x3 x4 x5 a (gnS G) = nI 2 := by
  rcases ha with rfl | rfl
  · refine (congrFun (up2_ne (by decide)) _).trans (gnote_45.trans ?_)
    rw [gsh0_1]
  · refine (congrFun (up2_ne (by decide)) _).trans (gnote_54.trans ?_)
    rw [gsh0_1]
theorem gshp_45x {G : GS} {x1 x2 x3 x4 x5 : Int32} {a x : Nat} (ha : a = 45 ∨ a = 54) (hx : x ≠ gnS G) : gshp G x1 x2 x3 x4 x5 a x = G a x := (congrFun (up2_ne (by rcases ha with rfl | rfl <;> decide)) _).trans ((gnote_x ha hx).trans ((gnote_x ha hx).trans (g6_x (by rcases ha with rfl | rfl <;> decide) (by rcases ha with rfl | rfl <;> decide) hx)))
theorem InvC.shp {G : GS} (h : InvC G) (hn : gnS G < 12) (x1 x2 x3 x4 x5 : Int32) : InvC (gshp G x1 x2 x3 x4 x5) := by
  have e : ∀ j, j ∉ [4, 5, 6, 7, 8, 9, 10, 11, 12, 13, 14, 15, 16, 17, 45, 54, 50, 18, 46, 47, 48, 49, 3] → (gshp G x1 x2 x3 x4 x5) j = G j := fun j h => e_gshp G x1 x2 x3 x4 x5 h
  have h0 := h
  obtain ⟨h1, h2, h3, h4, h5, h6, h7, h8, h9, h10, h11, h12⟩ := h
  have qgnR : gnR (gshp G x1 x2 x3 x4 x5) = gnR G := congrArg (fun z : Nat → Int32 => (z 0).toNatClampNeg) (e 23 (by decide))
  have qgnV : gnV (gshp G x1 x2 x3 x4 x5) = gnV G := congrArg (fun z : Nat → Int32 => (z 0).toNatClampNeg) (e 29 (by decide))
  have qgmR : gmR (gshp G x1 x2 x3 x4 x5) = gmR G := congrArg (fun z : Nat → Int32 => (z 0).toNatClampNeg) (e 51 (by decide))
  have qgmV : gmV (gshp G x1 x2 x3 x4 x5) = gmV G := congrArg (fun z : Nat → Int32 => (z 0).toNatClampNeg) (e 52 (by decide))
  have qgnF : gnF (gshp G x1 x2 x3 x4 x5) = gnF G := funext (fun x => congrArg (fun z : Nat → Int32 => (z x).toNatClampNeg) (e 35 (by decide)))
  have qgnO : gnO (gshp G x1 x2 x3 x4 x5) = gnO G := funext (fun x => congrArg (fun z : Nat → Int32 => (z x).toNatClampNeg) (e 30 (by decide)))
  have qgmF : gmF (gshp G x1 x2 x3 x4 x5) = gmF G := funext (fun x => congrArg (fun z : Nat → Int32 => (z x).toNatClampNeg) (e 53 (by decide)))
  have qgcT : gcT (gshp G x1 x2 x3 x4 x5) = gcT G := funext (fun x => by unfold gcT; rw [e 19 (by decide), e 20 (by decide)])
  have hN := gshp_n (G := G) (x1 := x1) (x2 := x2) (x3 := x3) (x4 := x4) (x5 := x5) (by omega)
  have hlt : ∀ v, v < gnS (gshp G x1 x2 x3 x4 x5) → v = gnS G ∨ (v ≠ gnS G ∧ v < gnS G) := fun v hv => by rw [hN] at hv; omega
  have g9 : ∀ a x, a ∉ [46, 47, 48, 49, 54, 45, 3, 50, 18] → x ≠ gnS G → gshp G x1 x2 x3 x4 x5 a x = G a x := fun a x ha hx => (congrFun (gshp_g6 G x1 x2 x3 x4 x5 (fun e => ha (List.mem_append_left (bs := [50, 18]) e))) x).trans (g6_x (fun e => ha (by rw [e]; decide)) (fun e => ha (by rw [e]; decide)) hx)
  refine ⟨?_,
    (by rw [qgnR, qgmR, e 23 (by decide)]; exact h2),
    (by rw [qgnV, qgmV, e 29 (by decide)]; exact h3),
    (by rw [qgnV, qgnF, qgmF, e 35 (by decide)]; exact h4),
    fun v hv => ?_,
    fun v hv => ?_,
    fun v hv => ?_,
    fun v f hv hf => ?_,
    (by rw [e 2 (by decide)]; exact h9),
    fun v hv => ?_,
    (by rw [qgnV, qgnF, e 37 (by decide), e 44 (by decide)]; exact h11),
    (by rw [qgnV, e 39 (by decide), e 42 (by decide)]; exact h12)⟩
  · unfold gmS
    rw [hN, show gshp G x1 x2 x3 x4 x5 3 0 = nI (gnS G + 1) from up2_at _ _ _ _, congrFun (gshp_g6 G x1 x2 x3 x4 x5 (j := 50) (by decide)) 0, show g6 G (gnS G) x1 x2 x3 x4 x5 50 0 = nI (gnS G + 1) from up2_at _ _ _ _, nI_clamp (by omega)]
    exact ⟨rfl, hn, rfl⟩
  · unfold gnN gmN
    rcases hlt v hv with e9 | ⟨e9, e8⟩
    · rw [e9, gshp_45 (Or.inl rfl), gshp_45 (Or.inr rfl)]
      decide
    · rw [gshp_45x (Or.inl rfl) e9, gshp_45x (Or.inr rfl) e9]
      exact h5 v e8
  · rw [qgnV] at hv
    rw [qgnO, e 30 (by decide), hN]
    exact ⟨(h6 v hv).1, by have := (h6 v hv).2; omega⟩
  · rw [qgnV]
    rcases hlt v hv with e9 | ⟨e9, e8⟩
    · have z : ∀ f, (f = 11 ∨ f = 12 ∨ f = 13) → gshp G x1 x2 x3 x4 x5 f v = -1 := fun f hf => by
        rw [e9]
        rcases hf with rfl | rfl | rfl
        · exact (congrFun (gshp_g6 G x1 x2 x3 x4 x5 (by decide)) _).trans (g6_at (by decide) (by decide) rfl)
        · exact (congrFun (gshp_g6 G x1 x2 x3 x4 x5 (by decide)) _).trans (g6_at (by decide) (by decide) rfl)
        · exact (congrFun (gshp_g6 G x1 x2 x3 x4 x5 (by decide)) _).trans (g6_at (by decide) (by decide) rfl)
      rw [z 11 (by decide), z 12 (by decide), z 13 (by decide)]
      exact ⟨fun q => absurd rfl q, fun q => absurd rfl q, fun q => absurd rfl q⟩
    · rw [g9 11 v (by decide) e9, g9 12 v (by decide) e9, g9 13 v (by decide) e9]
      exact h7 v e8
  · unfold gcT
    rw [e 19 (by decide), e 20 (by decide)]
    rw [congrFun (gshp_g6 G x1 x2 x3 x4 x5 (j := 18) (by decide)) _]
    rcases hlt v hv with e9 | ⟨e9, e8⟩
    · rw [e9, g6_18z hf]
      exact ⟨nz0, fun q => absurd q (by decide)⟩
    · rw [g6_18 e9 hf]
      exact h8 v f e8 hf
  · rcases hlt v hv with e9 | ⟨e9, e8⟩
    · rw [e9, congrFun (gshp_g6 G x1 x2 x3 x4 x5 (j := 14) (by decide)) _, g6_at (by decide) (by decide) rfl]
      exact nz0
    · rw [g9 14 v (by decide) e9]
      exact h10 v e8
