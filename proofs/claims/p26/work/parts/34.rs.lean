set_option maxHeartbeats 8000000 in
theorem rs_ship : RS_ship R9 := fun n G M x1 x2 x3 x4 x5 hn h => by
  have hs : M 3 0 = nI (gnS G) := (congrFun (h.q 3) 0).trans h.ic.s.1
  unfold HM_ship K_ship FM_ship F_ship H_ship x_X6_ship f_X6_ship g_X6_ship
  by_cases full : M 3 0 = 12
  · have f1 : ¬ nI (gnS G) < 12 := by rw [← hs, full]; decide
    unfold g_X7_ship_b g_X7_ship_b_1 v_X7_ship_b_39 f_X7_ship_b f_X7_isFlag f_X7_isBody
    simp only [if_pos full, if_neg f1, h.q 1, in5, in3, ite_self]
    unfold f_X7_in
    by_cases a4 : f_X6_isIndex x4 6 = 0
    · simp only [if_pos a4, if_neg n10, if_neg n20, if_neg n30, if_pos z00, if_neg one_ne, if_neg two_ne, if_neg three_ne, ↓reduceIte]
      exact ⟨rfl, fun q => absurd q (by decide), h.up.z _⟩
    · by_cases a5 : f_X6_isIndex x5 4 = 0
      · simp only [if_neg a4, if_pos a5, if_neg n10, if_neg n20, if_neg n30, if_pos z00, if_neg one_ne, if_neg two_ne, if_neg three_ne, ↓reduceIte]
        exact ⟨rfl, fun q => absurd q (by decide), h.up.z _⟩
      · by_cases c1 : x1 < (-10000)
        · simp only [if_neg a4, if_neg a5, if_pos c1, if_neg n10, if_neg n20, if_neg n30, if_pos z00, if_neg one_ne, if_neg two_ne, if_neg three_ne, ↓reduceIte]
          exact ⟨rfl, fun q => absurd q (by decide), h.up.z _⟩
        · by_cases c2 : G 1 0 < x1
          · simp only [if_neg a4, if_neg a5, if_neg c1, if_pos c2, if_neg n10, if_neg n20, if_neg n30, if_pos z00, if_neg one_ne, if_neg two_ne, if_neg three_ne, ↓reduceIte]
            exact ⟨rfl, fun q => absurd q (by decide), h.up.z _⟩
          · by_cases c3 : x2 < 100
            · simp only [if_neg a4, if_neg a5, if_neg c1, if_neg c2, if_pos c3, if_neg n10, if_neg n20, if_neg n30, if_pos z00, if_neg one_ne, if_neg two_ne, if_neg three_ne, ↓reduceIte]
              exact ⟨rfl, fun q => absurd q (by decide), h.up.z _⟩
            · by_cases c4 : 200000 < x2
              · simp only [if_neg a4, if_neg a5, if_neg c1, if_neg c2, if_neg c3, if_pos c4, if_neg n10, if_neg n20, if_neg n30, if_pos z00, if_neg one_ne, if_neg two_ne, if_neg three_ne, ↓reduceIte]
                exact ⟨rfl, fun q => absurd q (by decide), h.up.z _⟩
              · by_cases c5 : x3 < 0
                · simp only [if_neg a4, if_neg a5, if_neg c1, if_neg c2, if_neg c3, if_neg c4, if_pos c5, if_neg n10, if_neg n20, if_neg n30, if_pos z00, if_neg one_ne, if_neg two_ne, if_neg three_ne, ↓reduceIte]
                  exact ⟨rfl, fun q => absurd q (by decide), h.up.z _⟩
                · by_cases c6 : x3 ≤ 2
                  · have c6' : ¬ 2 < x3 := Int32.not_lt.mpr c6
                    simp only [if_neg a4, if_neg a5, if_neg c1, if_neg c2, if_neg c3, if_neg c4, if_neg c5, if_pos c6, if_neg c6', if_neg n10, if_neg n20, if_neg n30, if_pos z00, if_neg one_ne, if_neg two_ne, if_neg three_ne, ↓reduceIte]
                    exact ⟨rfl, fun q => absurd q (by decide), h.up.z _⟩
                  · have c6' : 2 < x3 := Int32.not_le.mp c6
                    simp only [if_neg a4, if_neg a5, if_neg c1, if_neg c2, if_neg c3, if_neg c4, if_neg c5, if_neg c6, if_pos c6', if_neg n10, if_neg n20, if_neg n30, if_pos z00, if_neg one_ne, if_neg two_ne, if_neg three_ne, ↓reduceIte]
                    exact ⟨rfl, fun q => absurd q (by decide), h.up.z _⟩
  · have f2 : gnS G < 12 := ne_le hs h.ic.s.2.1 full
    have f1 : nI (gnS G) < 12 := nI_lt f2 (by decide)
    have f3 : ¬ nI (gnS G) = 12 := fun q => by rw [q] at f1; exact absurd f1 (by decide)
    have r0 : (g_X7_ship_12 M x1 x2 x3 x4 x5) 0 0 = (if f_X7_isFlag x4 = 0 then 1 else (if f_X7_isBody x5 = 0 then 1 else (if (if f_X7_in x1 (-10000) (M 1 0) = 0 then 0 else (if f_X7_in x2 100 200000 = 0 then 0 else (if f_X7_in x3 0 2 = 0 then 0 else 1)) : Int32) = 0 then 2 else (if nI (gnS M) = 12 then 3 else 0)))) := rfl
    unfold g_X7_ship g_X7_ship_1 f_X7_ship v_X7_ship_39 f_X7_isFlag f_X7_isBody
    unfold f_X7_isFlag f_X7_isBody at r0
    simp only [if_neg full, if_pos f1, if_neg f3, h.q 1, h.S, in5, in3, Int32.add_sub_cancel] at r0 ⊢
    unfold f_X7_in at r0 ⊢
    by_cases a4 : f_X6_isIndex x4 6 = 0
    · simp only [if_pos a4, if_neg n10, if_neg n20, if_neg n30, if_pos z00, if_neg one_ne, if_neg two_ne, if_neg three_ne, ↓reduceIte]
      exact ⟨rfl, fun q => absurd q (by decide), h.up.z _⟩
    · by_cases a5 : f_X6_isIndex x5 4 = 0
      · simp only [if_neg a4, if_pos a5, if_neg n10, if_neg n20, if_neg n30, if_pos z00, if_neg one_ne, if_neg two_ne, if_neg three_ne, ↓reduceIte]
        exact ⟨rfl, fun q => absurd q (by decide), h.up.z _⟩
      · by_cases c1 : x1 < (-10000)
        · simp only [if_neg a4, if_neg a5, if_pos c1, if_neg n10, if_neg n20, if_neg n30, if_pos z00, if_neg one_ne, if_neg two_ne, if_neg three_ne, ↓reduceIte]
          exact ⟨rfl, fun q => absurd q (by decide), h.up.z _⟩
        · by_cases c2 : G 1 0 < x1
          · simp only [if_neg a4, if_neg a5, if_neg c1, if_pos c2, if_neg n10, if_neg n20, if_neg n30, if_pos z00, if_neg one_ne, if_neg two_ne, if_neg three_ne, ↓reduceIte]
            exact ⟨rfl, fun q => absurd q (by decide), h.up.z _⟩
          · by_cases c3 : x2 < 100
            · simp only [if_neg a4, if_neg a5, if_neg c1, if_neg c2, if_pos c3, if_neg n10, if_neg n20, if_neg n30, if_pos z00, if_neg one_ne, if_neg two_ne, if_neg three_ne, ↓reduceIte]
              exact ⟨rfl, fun q => absurd q (by decide), h.up.z _⟩
            · by_cases c4 : 200000 < x2
              · simp only [if_neg a4, if_neg a5, if_neg c1, if_neg c2, if_neg c3, if_pos c4, if_neg n10, if_neg n20, if_neg n30, if_pos z00, if_neg one_ne, if_neg two_ne, if_neg three_ne, ↓reduceIte]
                exact ⟨rfl, fun q => absurd q (by decide), h.up.z _⟩
              · by_cases c5 : x3 < 0
                · simp only [if_neg a4, if_neg a5, if_neg c1, if_neg c2, if_neg c3, if_neg c4, if_pos c5, if_neg n10, if_neg n20, if_neg n30, if_pos z00, if_neg one_ne, if_neg two_ne, if_neg three_ne, ↓reduceIte]
                  exact ⟨rfl, fun q => absurd q (by decide), h.up.z _⟩
                · by_cases c6 : x3 ≤ 2
                  · have c6' : ¬ 2 < x3 := Int32.not_lt.mpr c6
                    have hb := ix4 a5
                    simp only [if_neg a4, if_neg a5, if_neg c1, if_neg c2, if_neg c3, if_neg c4, if_neg c5, if_pos c6, if_neg c6', if_neg n10, if_neg n20, if_neg n30, if_pos z00, if_neg one_ne, if_neg two_ne, if_neg three_ne, ↓reduceIte] at r0 ⊢
                    exact ⟨r0, fun _ => by first | rfl | trivial, rk_ship h f2 c5 ⟨_, hb⟩⟩
                  · have c6' : 2 < x3 := Int32.not_le.mp c6
                    simp only [if_neg a4, if_neg a5, if_neg c1, if_neg c2, if_neg c3, if_neg c4, if_neg c5, if_neg c6, if_pos c6', if_neg n10, if_neg n20, if_neg n30, if_pos z00, if_neg one_ne, if_neg two_ne, if_neg three_ne, ↓reduceIte]
                    exact ⟨rfl, fun q => absurd q (by decide), h.up.z _⟩
set_option maxHeartbeats 8000000 in
theorem rs_rule : RS_rule R9 := fun n G M x1 x2 x3 x4 x5 hn h => by
  have hs : M 23 0 = nI (gnR G) := (congrFun (h.q 23) 0).trans h.ic.r.1
  unfold HM_rule K_rule FM_rule F_rule H_rule x_X6_rule f_X6_rule g_X6_rule
  by_cases full : M 23 0 = 20
  · have f1 : ¬ nI (gnR G) < 20 := by rw [← hs, full]; decide
    unfold g_X7_rule_b g_X7_rule_b_1 v_X7_rule_b_59 f_X7_rule_b
    simp only [if_pos full, if_neg f1, in9, ite_self]
    unfold f_X7_in
    by_cases a : f_X6_isIndex x1 10 = 0
    · simp only [if_pos a, if_neg n10, if_neg n20, if_neg n30, if_pos z00, if_neg one_ne, if_neg two_ne, if_neg three_ne, ↓reduceIte]
      exact ⟨rfl, fun q => absurd q (by decide), h.up.z _⟩
    · by_cases c1 : x2 < 0
      · simp only [if_neg a, if_pos c1, if_neg n10, if_neg n20, if_neg n30, if_pos z00, if_neg one_ne, if_neg two_ne, if_neg three_ne, ↓reduceIte]
        exact ⟨rfl, fun q => absurd q (by decide), h.up.z _⟩
      · by_cases c2 : 200000 < x2
        · simp only [if_neg a, if_neg c1, if_pos c2, if_neg n10, if_neg n20, if_neg n30, if_pos z00, if_neg one_ne, if_neg two_ne, if_neg three_ne, ↓reduceIte]
          exact ⟨rfl, fun q => absurd q (by decide), h.up.z _⟩
        · by_cases c3 : x3 < 1
          · simp only [if_neg a, if_neg c1, if_neg c2, if_pos c3, if_neg n10, if_neg n20, if_neg n30, if_pos z00, if_neg one_ne, if_neg two_ne, if_neg three_ne, ↓reduceIte]
            exact ⟨rfl, fun q => absurd q (by decide), h.up.z _⟩
          · by_cases c4 : 7 < x3
            · simp only [if_neg a, if_neg c1, if_neg c2, if_neg c3, if_pos c4, if_neg n10, if_neg n20, if_neg n30, if_pos z00, if_neg one_ne, if_neg two_ne, if_neg three_ne, ↓reduceIte]
              exact ⟨rfl, fun q => absurd q (by decide), h.up.z _⟩
            · by_cases c5 : x4 < 0
              · simp only [if_neg a, if_neg c1, if_neg c2, if_neg c3, if_neg c4, if_pos c5, if_neg n10, if_neg n20, if_neg n30, if_pos z00, if_neg one_ne, if_neg two_ne, if_neg three_ne, ↓reduceIte]
                exact ⟨rfl, fun q => absurd q (by decide), h.up.z _⟩
              · by_cases c6 : 9000 < x4
                · simp only [if_neg a, if_neg c1, if_neg c2, if_neg c3, if_neg c4, if_neg c5, if_pos c6, if_neg n10, if_neg n20, if_neg n30, if_pos z00, if_neg one_ne, if_neg two_ne, if_neg three_ne, ↓reduceIte]
                  exact ⟨rfl, fun q => absurd q (by decide), h.up.z _⟩
                · by_cases c7 : x5 < 0
                  · simp only [if_neg a, if_neg c1, if_neg c2, if_neg c3, if_neg c4, if_neg c5, if_neg c6, if_pos c7, if_neg n10, if_neg n20, if_neg n30, if_pos z00, if_neg one_ne, if_neg two_ne, if_neg three_ne, ↓reduceIte]
                    exact ⟨rfl, fun q => absurd q (by decide), h.up.z _⟩
                  · by_cases c8 : x5 ≤ 3000
                    · have c8' : ¬ 3000 < x5 := Int32.not_lt.mpr c8
                      simp only [if_neg a, if_neg c1, if_neg c2, if_neg c3, if_neg c4, if_neg c5, if_neg c6, if_neg c7, if_pos c8, if_neg c8', if_neg n10, if_neg n20, if_neg n30, if_pos z00, if_neg one_ne, if_neg two_ne, if_neg three_ne, ↓reduceIte]
                      exact ⟨rfl, fun q => absurd q (by decide), h.up.z _⟩
                    · have c8' : 3000 < x5 := Int32.not_le.mp c8
                      simp only [if_neg a, if_neg c1, if_neg c2, if_neg c3, if_neg c4, if_neg c5, if_neg c6, if_neg c7, if_neg c8, if_pos c8', if_neg n10, if_neg n20, if_neg n30, if_pos z00, if_neg one_ne, if_neg two_ne, if_neg three_ne, ↓reduceIte]
                      exact ⟨rfl, fun q => absurd q (by decide), h.up.z _⟩
  · have f2 : gnR G < 20 := ne_le hs h.ic.r.2.1 full
    have f1 : nI (gnR G) < 20 := nI_lt f2 (by decide)
    have f3 : ¬ nI (gnR G) = 20 := fun q => by rw [q] at f1; exact absurd f1 (by decide)
    have r0 : (g_X7_rule_7 M x1 x2 x3 x4 x5) 0 0 = (if (if f_X7_in x1 0 9 = 0 then 0 else (if f_X7_in x2 0 200000 = 0 then 0 else (if f_X7_in x3 1 7 = 0 then 0 else (if f_X7_in x4 0 9000 = 0 then 0 else (if f_X7_in x5 0 3000 = 0 then 0 else 1)))) : Int32) = 0 then 1 else (if nI (gnR M) = 20 then 2 else 0)) := rfl
    have an : nI (gnR (grul G x1 x2 x3 x4 x5)) - 1 = nI (gnR G) := by rw [grul_n (by omega), nI_pred]
    unfold g_X7_rule g_X7_rule_1 f_X7_rule v_X7_rule_59
    simp only [if_neg full, if_pos f1, if_neg f3, h.R, in9, Int32.add_sub_cancel, an] at r0 ⊢
    unfold f_X7_in at r0 ⊢
    by_cases a : f_X6_isIndex x1 10 = 0
    · simp only [if_pos a, if_neg n10, if_neg n20, if_neg n30, if_pos z00, if_neg one_ne, if_neg two_ne, if_neg three_ne, ↓reduceIte]
      exact ⟨rfl, fun q => absurd q (by decide), h.up.z _⟩
    · by_cases c1 : x2 < 0
      · simp only [if_neg a, if_pos c1, if_neg n10, if_neg n20, if_neg n30, if_pos z00, if_neg one_ne, if_neg two_ne, if_neg three_ne, ↓reduceIte]
        exact ⟨rfl, fun q => absurd q (by decide), h.up.z _⟩
      · by_cases c2 : 200000 < x2
        · simp only [if_neg a, if_neg c1, if_pos c2, if_neg n10, if_neg n20, if_neg n30, if_pos z00, if_neg one_ne, if_neg two_ne, if_neg three_ne, ↓reduceIte]
          exact ⟨rfl, fun q => absurd q (by decide), h.up.z _⟩
        · by_cases c3 : x3 < 1
          · simp only [if_neg a, if_neg c1, if_neg c2, if_pos c3, if_neg n10, if_neg n20, if_neg n30, if_pos z00, if_neg one_ne, if_neg two_ne, if_neg three_ne, ↓reduceIte]
            exact ⟨rfl, fun q => absurd q (by decide), h.up.z _⟩
          · by_cases c4 : 7 < x3
            · simp only [if_neg a, if_neg c1, if_neg c2, if_neg c3, if_pos c4, if_neg n10, if_neg n20, if_neg n30, if_pos z00, if_neg one_ne, if_neg two_ne, if_neg three_ne, ↓reduceIte]
              exact ⟨rfl, fun q => absurd q (by decide), h.up.z _⟩
            · by_cases c5 : x4 < 0
              · simp only [if_neg a, if_neg c1, if_neg c2, if_neg c3, if_neg c4, if_pos c5, if_neg n10, if_neg n20, if_neg n30, if_pos z00, if_neg one_ne, if_neg two_ne, if_neg three_ne, ↓reduceIte]
                exact ⟨rfl, fun q => absurd q (by decide), h.up.z _⟩
              · by_cases c6 : 9000 < x4
                · simp only [if_neg a, if_neg c1, if_neg c2, if_neg c3, if_neg c4, if_neg c5, if_pos c6, if_neg n10, if_neg n20, if_neg n30, if_pos z00, if_neg one_ne, if_neg two_ne, if_neg three_ne, ↓reduceIte]
                  exact ⟨rfl, fun q => absurd q (by decide), h.up.z _⟩
                · by_cases c7 : x5 < 0
                  · simp only [if_neg a, if_neg c1, if_neg c2, if_neg c3, if_neg c4, if_neg c5, if_neg c6, if_pos c7, if_neg n10, if_neg n20, if_neg n30, if_pos z00, if_neg one_ne, if_neg two_ne, if_neg three_ne, ↓reduceIte]
                    exact ⟨rfl, fun q => absurd q (by decide), h.up.z _⟩
                  · by_cases c8 : x5 ≤ 3000
                    · have c8' : ¬ 3000 < x5 := Int32.not_lt.mpr c8
                      simp only [if_neg a, if_neg c1, if_neg c2, if_neg c3, if_neg c4, if_neg c5, if_neg c6, if_neg c7, if_pos c8, if_neg c8', if_neg n10, if_neg n20, if_neg n30, if_pos z00, if_neg one_ne, if_neg two_ne, if_neg three_ne, ↓reduceIte] at r0 ⊢
                      exact ⟨r0, fun _ => by first | rfl | trivial, rk_rule h f2⟩
                    · have c8' : 3000 < x5 := Int32.not_le.mp c8
                      simp only [if_neg a, if_neg c1, if_neg c2, if_neg c3, if_neg c4, if_neg c5, if_neg c6, if_neg c7, if_neg c8, if_pos c8', if_neg n10, if_neg n20, if_neg n30, if_pos z00, if_neg one_ne, if_neg two_ne, if_neg three_ne, ↓reduceIte]
                      exact ⟨rfl, fun q => absurd q (by decide), h.up.z _⟩
