theorem a_ship (p1 p2 p3 p4 p5 p6 p7 : Int32) : ∃ q1 q2, s_X6_ship 0 p1 p2 p3 p4 p5 p6 p7 g0 w0 = some q1 ∧ s_X7_ship 0 p1 p2 p3 p4 p5 p6 p7 q1.2.1 q1.2.2 = some q2 ∧ q1.1 = q2.1 := by
  by_cases c1 : (1 : Int32) ≤ p1 ∧ p1 ≤ 50
  · skip
    by_cases c2 : (0 : Int32) ≤ p2 ∧ p2 ≤ 9
    · skip
      by_cases c3 : (0 : Int32) ≤ p3 ∧ p3 ≤ 47
      · skip
        by_cases c4 : (1 : Int32) ≤ p4 ∧ p4 ≤ 4
        · skip
          by_cases c5 : (1 : Int32) ≤ p5 ∧ p5 ≤ 20
          · skip
            by_cases c6 : (0 : Int32) ≤ p6 ∧ p6 ≤ 5
            · skip
              by_cases c7 : (0 : Int32) ≤ p7 ∧ p7 ≤ 5
              · skip
                have e : s_X6_ship 0 p1 p2 p3 p4 p5 p6 p7 g0 w0 = some ((0 : Int32), gI (s_X4_come 0 p1 p2 p3 p4 p5 p6 p7 g0 w0).1 1 0 10 1, (s_X4_come 0 p1 p2 p3 p4 p5 p6 p7 g0 w0).2) := by
                  unfold s_X6_ship 
                  rw [within_eq p1, within_eq p2, isHour6 p3, within_eq p4, within_eq p5, isBerth6 p6, isBerth6 p7, decide_eq_true c1, decide_eq_true c2, decide_eq_true c3, decide_eq_true c4, decide_eq_true c5, decide_eq_true c6, decide_eq_true c7]
                  rfl
                obtain ⟨q2, h1, h2⟩ : ∃ q2, s_X7_ship 0 p1 p2 p3 p4 p5 p6 p7 ((0 : Int32), gI (s_X4_come 0 p1 p2 p3 p4 p5 p6 p7 g0 w0).1 1 0 10 1, (s_X4_come 0 p1 p2 p3 p4 p5 p6 p7 g0 w0).2).2.1 ((0 : Int32), gI (s_X4_come 0 p1 p2 p3 p4 p5 p6 p7 g0 w0).1 1 0 10 1, (s_X4_come 0 p1 p2 p3 p4 p5 p6 p7 g0 w0).2).2.2 = some q2 ∧ ((0 : Int32), gI (s_X4_come 0 p1 p2 p3 p4 p5 p6 p7 g0 w0).1 1 0 10 1, (s_X4_come 0 p1 p2 p3 p4 p5 p6 p7 g0 w0).2).1 = q2.1 := by
                  exact exm (ship7 p1 p2 p3 p4 p5 p6 p7 c1 c2 c3 c4 c5 c6 c7 _ _ rfl)
                exact ⟨_, q2, e, h1, h2⟩
              · refine ⟨(-1, g0, w0), (-1, g0, w0), ?_, ?_, rfl⟩
                · unfold s_X6_ship
                  rw [within_eq p1, within_eq p2, isHour6 p3, within_eq p4, within_eq p5, isBerth6 p6, isBerth6 p7, decide_eq_true c1, decide_eq_true c2, decide_eq_true c3, decide_eq_true c4, decide_eq_true c5, decide_eq_true c6, decide_eq_false c7]
                  rfl
                · unfold s_X7_ship
                  rw [in32 p1 1 50 (by decide) (by decide), in32 p2 0 9 (by decide) (by decide), isHour7 p3, in32 p4 1 4 (by decide) (by decide), in32 p5 1 20 (by decide) (by decide), isBerth7 p6, isBerth7 p7, decide_eq_true c1, decide_eq_true c2, decide_eq_true c3, decide_eq_true c4, decide_eq_true c5, decide_eq_true c6, decide_eq_false c7]
                  rfl
            · refine ⟨(-1, g0, w0), (-1, g0, w0), ?_, ?_, rfl⟩
              · unfold s_X6_ship
                rw [within_eq p1, within_eq p2, isHour6 p3, within_eq p4, within_eq p5, isBerth6 p6, decide_eq_true c1, decide_eq_true c2, decide_eq_true c3, decide_eq_true c4, decide_eq_true c5, decide_eq_false c6]
                rfl
              · unfold s_X7_ship
                rw [in32 p1 1 50 (by decide) (by decide), in32 p2 0 9 (by decide) (by decide), isHour7 p3, in32 p4 1 4 (by decide) (by decide), in32 p5 1 20 (by decide) (by decide), isBerth7 p6, decide_eq_true c1, decide_eq_true c2, decide_eq_true c3, decide_eq_true c4, decide_eq_true c5, decide_eq_false c6]
                rfl
          · refine ⟨(-1, g0, w0), (-1, g0, w0), ?_, ?_, rfl⟩
            · unfold s_X6_ship
              rw [within_eq p1, within_eq p2, isHour6 p3, within_eq p4, within_eq p5, decide_eq_true c1, decide_eq_true c2, decide_eq_true c3, decide_eq_true c4, decide_eq_false c5]
              rfl
            · unfold s_X7_ship
              rw [in32 p1 1 50 (by decide) (by decide), in32 p2 0 9 (by decide) (by decide), isHour7 p3, in32 p4 1 4 (by decide) (by decide), in32 p5 1 20 (by decide) (by decide), decide_eq_true c1, decide_eq_true c2, decide_eq_true c3, decide_eq_true c4, decide_eq_false c5]
              rfl
        · refine ⟨(-1, g0, w0), (-1, g0, w0), ?_, ?_, rfl⟩
          · unfold s_X6_ship
            rw [within_eq p1, within_eq p2, isHour6 p3, within_eq p4, decide_eq_true c1, decide_eq_true c2, decide_eq_true c3, decide_eq_false c4]
            rfl
          · unfold s_X7_ship
            rw [in32 p1 1 50 (by decide) (by decide), in32 p2 0 9 (by decide) (by decide), isHour7 p3, in32 p4 1 4 (by decide) (by decide), decide_eq_true c1, decide_eq_true c2, decide_eq_true c3, decide_eq_false c4]
            rfl
      · refine ⟨(-1, g0, w0), (-1, g0, w0), ?_, ?_, rfl⟩
        · unfold s_X6_ship
          rw [within_eq p1, within_eq p2, isHour6 p3, decide_eq_true c1, decide_eq_true c2, decide_eq_false c3]
          rfl
        · unfold s_X7_ship
          rw [in32 p1 1 50 (by decide) (by decide), in32 p2 0 9 (by decide) (by decide), isHour7 p3, decide_eq_true c1, decide_eq_true c2, decide_eq_false c3]
          rfl
    · refine ⟨(-1, g0, w0), (-1, g0, w0), ?_, ?_, rfl⟩
      · unfold s_X6_ship
        rw [within_eq p1, within_eq p2, decide_eq_true c1, decide_eq_false c2]
        rfl
      · unfold s_X7_ship
        rw [in32 p1 1 50 (by decide) (by decide), in32 p2 0 9 (by decide) (by decide), decide_eq_true c1, decide_eq_false c2]
        rfl
  · refine ⟨(-1, g0, w0), (-1, g0, w0), ?_, ?_, rfl⟩
    · unfold s_X6_ship
      rw [within_eq p1, decide_eq_false c1]
      rfl
    · unfold s_X7_ship
      rw [in32 p1 1 50 (by decide) (by decide), decide_eq_false c1]
      rfl
theorem tell0 (p1 p2 p3 p4 : Int32) : s_X3_tell 0 p1 p2 p3 p4 g0 w0 = some (true, (gI (gI (gI (gI (gI g0 1012 2 0 p1) 1012 3 0 p2) 1012 4 0 p3) 1012 5 0 p4) 3 0 4 1), w0) := rfl
theorem a_priceRule (p1 p2 p3 p4 : Int32) : ∃ q1 q2, s_X6_priceRule 0 p1 p2 p3 p4 g0 w0 = some q1 ∧ s_X7_priceRule 0 p1 p2 p3 p4 q1.2.1 q1.2.2 = some q2 ∧ q1.1 = q2.1 := by
  by_cases c1 : (0 : Int32) ≤ p1 ∧ p1 ≤ 6
  · by_cases c2 : (0 : Int32) ≤ p2 ∧ p2 ≤ 400
    · by_cases c3 : (0 : Int32) ≤ p3 ∧ p3 ≤ 1
      · by_cases h0 : p3 ≠ 0
        · by_cases c4 : (-100 : Int32) ≤ p4 ∧ p4 ≤ 1000
          · refine ⟨((1 : Int32), (gI (gI (gI (gI (gI g0 1012 2 0 p1) 1012 3 0 p2) 1012 4 0 p3) 1012 5 0 p4) 3 0 4 1), w0), ?_⟩
            obtain ⟨q2, h1, h2⟩ : ∃ q2, s_X7_priceRule 0 p1 p2 p3 p4 (gI (gI (gI (gI (gI g0 1012 2 0 p1) 1012 3 0 p2) 1012 4 0 p3) 1012 5 0 p4) 3 0 4 1) w0 = some q2 ∧ (1 : Int32) = q2.1 := by
              refine exm ?_
              unfold s_X7_priceRule s_X7_priceRule_50 s_X7_priceRule_63
              rw [if_pos h0, if_pos h0, in32 p1 0 6 (by decide) (by decide), in32 p2 0 400 (by decide) (by decide), in32 p3 0 1 (by decide) (by decide), in32 p4 (-100) 1000 (by decide) (by decide), decide_eq_true c1, decide_eq_true c2, decide_eq_true c3, decide_eq_true c4]
              rfl
            refine ⟨q2, ?_, h1, h2⟩
            unfold s_X6_priceRule s_X6_priceRule_67
            rw [if_pos h0, within_eq p1, within_eq p2, within_eq p3, within_eq p4, decide_eq_true c1, decide_eq_true c2, decide_eq_true c3, decide_eq_true c4, tell0]
            rfl
          · refine ⟨(-1, g0, w0), (-1, g0, w0), ?_, ?_, rfl⟩
            · unfold s_X6_priceRule
              rw [if_pos h0, within_eq p1, within_eq p2, within_eq p3, within_eq p4, decide_eq_true c1, decide_eq_true c2, decide_eq_true c3, decide_eq_false c4]
              rfl
            · unfold s_X7_priceRule s_X7_priceRule_50 s_X7_priceRule_63
              rw [if_pos h0, if_pos h0, in32 p1 0 6 (by decide) (by decide), in32 p2 0 400 (by decide) (by decide), in32 p3 0 1 (by decide) (by decide), in32 p4 (-100) 1000 (by decide) (by decide), decide_eq_true c1, decide_eq_true c2, decide_eq_true c3, decide_eq_false c4]
              rfl
        · by_cases c4 : (-1000 : Int32) ≤ p4 ∧ p4 ≤ 100000
          · refine ⟨((1 : Int32), (gI (gI (gI (gI (gI g0 1012 2 0 p1) 1012 3 0 p2) 1012 4 0 p3) 1012 5 0 p4) 3 0 4 1), w0), ?_⟩
            obtain ⟨q2, h1, h2⟩ : ∃ q2, s_X7_priceRule 0 p1 p2 p3 p4 (gI (gI (gI (gI (gI g0 1012 2 0 p1) 1012 3 0 p2) 1012 4 0 p3) 1012 5 0 p4) 3 0 4 1) w0 = some q2 ∧ (1 : Int32) = q2.1 := by
              refine exm ?_
              unfold s_X7_priceRule s_X7_priceRule_50 s_X7_priceRule_63
              rw [if_neg h0, if_neg h0, in32 p1 0 6 (by decide) (by decide), in32 p2 0 400 (by decide) (by decide), in32 p3 0 1 (by decide) (by decide), in32 p4 (-1000) 100000 (by decide) (by decide), decide_eq_true c1, decide_eq_true c2, decide_eq_true c3, decide_eq_true c4]
              rfl
            refine ⟨q2, ?_, h1, h2⟩
            unfold s_X6_priceRule s_X6_priceRule_67
            rw [if_neg h0, within_eq p1, within_eq p2, within_eq p3, within_eq p4, decide_eq_true c1, decide_eq_true c2, decide_eq_true c3, decide_eq_true c4, tell0]
            rfl
          · refine ⟨(-1, g0, w0), (-1, g0, w0), ?_, ?_, rfl⟩
            · unfold s_X6_priceRule
              rw [if_neg h0, within_eq p1, within_eq p2, within_eq p3, within_eq p4, decide_eq_true c1, decide_eq_true c2, decide_eq_true c3, decide_eq_false c4]
              rfl
            · unfold s_X7_priceRule s_X7_priceRule_50 s_X7_priceRule_63
              rw [if_neg h0, if_neg h0, in32 p1 0 6 (by decide) (by decide), in32 p2 0 400 (by decide) (by decide), in32 p3 0 1 (by decide) (by decide), in32 p4 (-1000) 100000 (by decide) (by decide), decide_eq_true c1, decide_eq_true c2, decide_eq_true c3, decide_eq_false c4]
              rfl
      · refine ⟨(-1, g0, w0), (-1, g0, w0), ?_, ?_, rfl⟩
        · unfold s_X6_priceRule
          rw [within_eq p1, within_eq p2, within_eq p3, decide_eq_true c1, decide_eq_true c2, decide_eq_false c3]
          rfl
        · unfold s_X7_priceRule
          rw [in32 p1 0 6 (by decide) (by decide), in32 p2 0 400 (by decide) (by decide), in32 p3 0 1 (by decide) (by decide), decide_eq_true c1, decide_eq_true c2, decide_eq_false c3]
          rfl
    · refine ⟨(-1, g0, w0), (-1, g0, w0), ?_, ?_, rfl⟩
      · unfold s_X6_priceRule
        rw [within_eq p1, within_eq p2, decide_eq_true c1, decide_eq_false c2]
        rfl
      · unfold s_X7_priceRule
        rw [in32 p1 0 6 (by decide) (by decide), in32 p2 0 400 (by decide) (by decide), decide_eq_true c1, decide_eq_false c2]
        rfl
  · refine ⟨(-1, g0, w0), (-1, g0, w0), ?_, ?_, rfl⟩
    · unfold s_X6_priceRule
      rw [within_eq p1, decide_eq_false c1]
      rfl
    · unfold s_X7_priceRule
      rw [in32 p1 0 6 (by decide) (by decide), decide_eq_false c1]
      rfl
theorem and0 (x : Int64) : (0 : Int64) &&& x = 0 := Int64.zero_and
theorem blow_step (a b : Int32) (rec43 : Int64 → Int32 → Int32 → (Nat → Nat → Nat → Int32) → (Nat → Nat → Nat → Int64) → Option (Int32 × GS)) (v3 : Int64) (v5 k : Int32) (w : Nat → Nat → Nat → Int64) (h : 0 ≤ k.toInt ∧ k.toInt < 8) : s_X1_blow_43 0 a b rec43 v3 v5 k g0 w = rec43 v3 v5 (k + 1) g0 w := by
  unfold s_X1_blow_43 s_X1_blow_96
  rw [if_neg (show ¬ (8 : Int32) ≤ k from fun q => by have := Int32.le_iff_toInt_le.mp q; rw [show (8 : Int32).toInt = 8 from by decide] at this; omega), inR_t h.1 (by omega), if_pos rfl]
  rw [show s_X4_jobHours (8 * 0 + k.toNatClampNeg) g0 w = 0 from rfl, and0]
  rfl
theorem blow_loop (a b : Int32) (v3 : Int64) (v5 : Int32) (w : Nat → Nat → Nat → Int64) (n : Nat) : ∀ (m : Nat) (k : Int32), 0 ≤ k.toInt → k.toInt + m = 8 → s_X1_blow_R43 0 a b (m + 1 + n) v3 v5 k g0 w = some (v5, g0, w) := by
  intro m
  induction m with
  | zero =>
    intro k h0 h8
    rw [show 0 + 1 + n = n + 1 by omega]
    show s_X1_blow_43 0 a b _ v3 v5 k g0 w = _
    unfold s_X1_blow_43
    rw [if_pos (Int32.le_iff_toInt_le.mpr (by rw [show (8 : Int32).toInt = 8 from by decide]; omega))]
  | succ m ih =>
    intro k h0 h8
    rw [show m + 1 + 1 + n = (m + 1 + n) + 1 by omega]
    show s_X1_blow_43 0 a b (s_X1_blow_R43 0 a b (m + 1 + n)) v3 v5 k g0 w = _
    rw [blow_step _ _ _ _ _ _ _ ⟨h0, by omega⟩]
    have e1 : (k + 1).toInt = k.toInt + 1 := by
      rw [add_toInt] <;> rw [show (1 : Int32).toInt = 1 from by decide] <;> omega
    exact ih (k + 1) (by omega) (by omega)
theorem a_storm (a b : Int32) : ∃ q1 q2, s_X6_storm 0 a b g0 w0 = some q1 ∧ s_X7_storm 0 a b q1.2.1 q1.2.2 = some q2 ∧ q1.1 = q2.1 := by
  by_cases c1 : (0 : Int32) ≤ a ∧ a ≤ 47
  · by_cases c2 : (0 : Int32) ≤ b ∧ b ≤ 47
    · by_cases c3 : a ≤ b
      · obtain ⟨W, hW⟩ : ∃ W, s_X1_blow 0 a b g0 w0 = some (0, g0, wL w0 1 0 8 W) := by
          refine ⟨((w0 1 0 8) ||| ((s_X6_hoursAhead (b + (1 : Int32)) g0 w0) &&& ((s_X6_hoursAhead a g0 w0) ^^^ (-1 : Int64)))), ?_⟩
          unfold s_X1_blow
          rw [show FU = 8 + 1 + 991 from rfl]
          exact blow_loop a b _ 0 _ 991 8 0 (by decide) (by decide)
        obtain ⟨q2, h1, h2⟩ : ∃ q2, s_X7_storm 0 a b g0 (wL w0 1 0 8 W) = some q2 ∧ (0 : Int32) = q2.1 := by
          refine exm ?_
          unfold s_X7_storm
          rw [isHour7, isHour7, decide_eq_true c1, decide_eq_true c2, if_pos c3]
          rfl
        refine ⟨(0, g0, wL w0 1 0 8 W), q2, ?_, h1, h2⟩
        unfold s_X6_storm
        rw [isHour6, isHour6, decide_eq_true c1, decide_eq_true c2, if_pos c3, hW]
        rfl
      · refine ⟨(-1, g0, w0), (-1, g0, w0), ?_, ?_, rfl⟩
        · unfold s_X6_storm
          rw [isHour6, isHour6, decide_eq_true c1, decide_eq_true c2, if_neg c3]
          rfl
        · unfold s_X7_storm
          rw [isHour7, isHour7, decide_eq_true c1, decide_eq_true c2, if_neg c3]
          rfl
    · refine ⟨(-1, g0, w0), (-1, g0, w0), ?_, ?_, rfl⟩
      · unfold s_X6_storm
        rw [isHour6, isHour6, decide_eq_true c1, decide_eq_false c2]
        rfl
      · unfold s_X7_storm
        rw [isHour7, isHour7, decide_eq_true c1, decide_eq_false c2]
        rfl
  · refine ⟨(-1, g0, w0), (-1, g0, w0), ?_, ?_, rfl⟩
    · unfold s_X6_storm
      rw [isHour6, decide_eq_false c1]
      rfl
    · unfold s_X7_storm
      rw [isHour7, decide_eq_false c1]
      rfl
theorem bu_step (p : Int32) (rec11 : Int32 → (Nat → Nat → Nat → Int32) → (Nat → Nat → Nat → Int64) → Option Bool) (k : Int32) (h : 0 ≤ k.toInt ∧ k.toInt < 8) : s_X1_isBerthUsed_11 0 p rec11 k g0 w0 = rec11 (k + 1) g0 w0 := by
  unfold s_X1_isBerthUsed_11 s_X1_isBerthUsed_51
  rw [if_neg (show ¬ (8 : Int32) ≤ k from fun q => by have := Int32.le_iff_toInt_le.mp q; rw [show (8 : Int32).toInt = 8 from by decide] at this; omega), inR_t h.1 (by omega), if_pos rfl]
  rw [show s_X4_hasJob (8 * 0 + k.toNatClampNeg) g0 w0 = false from rfl]
  rfl
theorem bu_loop (p : Int32) (n : Nat) : ∀ (m : Nat) (k : Int32), 0 ≤ k.toInt → k.toInt + m = 8 → s_X1_isBerthUsed_R11 0 p (m + 1 + n) k g0 w0 = some false := by
  intro m
  induction m with
  | zero =>
    intro k h0 h8
    rw [show 0 + 1 + n = n + 1 by omega]
    show s_X1_isBerthUsed_11 0 p _ k g0 w0 = _
    unfold s_X1_isBerthUsed_11
    rw [if_pos (Int32.le_iff_toInt_le.mpr (by rw [show (8 : Int32).toInt = 8 from by decide]; omega))]
  | succ m ih =>
    intro k h0 h8
    rw [show m + 1 + 1 + n = (m + 1 + n) + 1 by omega]
    show s_X1_isBerthUsed_11 0 p (s_X1_isBerthUsed_R11 0 p (m + 1 + n)) k g0 w0 = _
    rw [bu_step _ _ _ ⟨h0, by omega⟩]
    have e1 : (k + 1).toInt = k.toInt + 1 := by
      rw [add_toInt] <;> rw [show (1 : Int32).toInt = 1 from by decide] <;> omega
    exact ih (k + 1) (by omega) (by omega)
theorem bu (p : Int32) : s_X1_isBerthUsed 0 p g0 w0 = some false := by
  unfold s_X1_isBerthUsed
  rw [show FU = 8 + 1 + 991 from rfl]
  exact bu_loop p 991 8 0 (by decide) (by decide)
theorem rb (p1 p2 p3 : Int32) (i1 : inR p1 6 = true) (g : Nat → Nat → Nat → Int32) (h2 : p2 ≠ 0 → g 1006 3 p1.toNatClampNeg = 0) (h3 : ¬ p2 ≠ 0 → g 1006 2 p1.toNatClampNeg = g0 1006 0 p1.toNatClampNeg) : (s_X7_berth_R42 0 p1 p2 p3 FU 0 g w0).map (fun q => q.1) = some (if p2 ≠ 0 then 0 else g0 1006 0 p1.toNatClampNeg) := by
  show (s_X7_berth_42 0 p1 p2 p3 (s_X7_berth_R42 0 p1 p2 p3 999) 0 g w0).map (fun q => q.1) = _
  unfold s_X7_berth_42 s_X7_berth_116 s_X7_berth_137 s_X7_berth_158
  rw [if_pos (show 0 ≤ lg_cmp (0 : Int32).toInt64 (w0 2218 0 (65 : Int32).toNatClampNeg) by decide), i1]
  by_cases h : p2 ≠ 0
  · rw [if_pos h, if_pos h, if_pos h, h2 h]
    by_cases h1 : p2 ≠ 1
    · rw [if_pos h1]
      rfl
    · rw [if_neg h1]
      rfl
  · rw [if_neg h, if_neg h, if_neg h, h3 h]
    have h1 : p2 ≠ 1 := fun e => h (by rw [e]; decide)
    rw [if_pos h1]
    rfl
theorem a_berth (p1 p2 p3 : Int32) : ∃ q1 q2, s_X6_berth 0 p1 p2 p3 g0 w0 = some q1 ∧ s_X7_berth 0 p1 p2 p3 q1.2.1 q1.2.2 = some q2 ∧ q1.1 = q2.1 := by
  by_cases c1 : (0 : Int32) ≤ p1 ∧ p1 ≤ 5
  · have r := rngN (a := 0) (b := 5) c1 (by decide) (by decide)
    have i1 : inR p1 6 = true := inR_t r.1 (by omega)
    by_cases c2 : (0 : Int32) ≤ p2 ∧ p2 ≤ 1
    · by_cases h : p2 ≠ 0
      · by_cases c3 : (0 : Int32) ≤ p3 ∧ p3 ≤ 1
        · obtain ⟨q2, e2, e3⟩ := exm (rb p1 p2 p3 i1 (gI g0 1006 1 p1.toNatClampNeg p3) (fun _ => by rw [gI_at, if_neg (by omega)]; rfl) (fun q => absurd h q))
          rw [if_pos h] at e3
          refine ⟨(0, gI g0 1006 1 p1.toNatClampNeg p3, w0), q2, ?_, ?_, e3⟩
          · unfold s_X6_berth s_X6_berth_28 s_X6_berth_71
            rw [isBerth6, within_eq p2, decide_eq_true c1, decide_eq_true c2, if_pos h, within_eq p3, decide_eq_true c3, bu, i1]
            show (if p2 ≠ 0 then _ else _) = _
            rw [if_pos h]
            rfl
          · unfold s_X7_berth s_X7_berth_31
            rw [isBerth7, in32 p2 0 1 (by decide) (by decide), decide_eq_true c1, decide_eq_true c2, if_pos h, in32 p3 0 1 (by decide) (by decide), decide_eq_true c3]
            exact e2
        · refine ⟨(-1, g0, w0), (-1, g0, w0), ?_, ?_, rfl⟩
          · unfold s_X6_berth s_X6_berth_28
            rw [isBerth6, within_eq p2, decide_eq_true c1, decide_eq_true c2, if_pos h, within_eq p3, decide_eq_false c3]
            rfl
          · unfold s_X7_berth s_X7_berth_31
            rw [isBerth7, in32 p2 0 1 (by decide) (by decide), decide_eq_true c1, decide_eq_true c2, if_pos h, in32 p3 0 1 (by decide) (by decide), decide_eq_false c3]
            rfl
      · by_cases c3 : (0 : Int32) ≤ p3 ∧ p3 ≤ 60
        · obtain ⟨q2, e2, e3⟩ := exm (rb p1 p2 p3 i1 (gI g0 1006 0 p1.toNatClampNeg p3) (fun q => absurd q h) (fun _ => by rw [gI_at, if_neg (by omega)]; rfl))
          rw [if_neg h] at e3
          refine ⟨(g0 1006 0 p1.toNatClampNeg, gI g0 1006 0 p1.toNatClampNeg p3, w0), q2, ?_, ?_, e3⟩
          · unfold s_X6_berth s_X6_berth_28 s_X6_berth_71
            rw [isBerth6, within_eq p2, decide_eq_true c1, decide_eq_true c2, if_neg h, within_eq p3, decide_eq_true c3, bu, i1]
            show (if p2 ≠ 0 then _ else _) = _
            rw [if_neg h]
            rfl
          · unfold s_X7_berth s_X7_berth_31
            rw [isBerth7, in32 p2 0 1 (by decide) (by decide), decide_eq_true c1, decide_eq_true c2, if_neg h, in32 p3 0 60 (by decide) (by decide), decide_eq_true c3]
            exact e2
        · refine ⟨(-1, g0, w0), (-1, g0, w0), ?_, ?_, rfl⟩
          · unfold s_X6_berth s_X6_berth_28
            rw [isBerth6, within_eq p2, decide_eq_true c1, decide_eq_true c2, if_neg h, within_eq p3, decide_eq_false c3]
            rfl
          · unfold s_X7_berth s_X7_berth_31
            rw [isBerth7, in32 p2 0 1 (by decide) (by decide), decide_eq_true c1, decide_eq_true c2, if_neg h, in32 p3 0 60 (by decide) (by decide), decide_eq_false c3]
            rfl
    · refine ⟨(-1, g0, w0), (-1, g0, w0), ?_, ?_, rfl⟩
      · unfold s_X6_berth
        rw [isBerth6, within_eq p2, decide_eq_true c1, decide_eq_false c2]
        rfl
      · unfold s_X7_berth
        rw [isBerth7, in32 p2 0 1 (by decide) (by decide), decide_eq_true c1, decide_eq_false c2]
        rfl
  · refine ⟨(-1, g0, w0), (-1, g0, w0), ?_, ?_, rfl⟩
    · unfold s_X6_berth
      rw [isBerth6, decide_eq_false c1]
      rfl
    · unfold s_X7_berth
      rw [isBerth7, decide_eq_false c1]
      rfl
