/-! the first call on fresh objects -/
theorem fS6 (p : Int32) : s_X6_isShip 0 p g0 w0 = false := by
  unfold s_X6_isShip s_X6_isShip_25 s_X6_isShip_26
  rw [within_eq]
  by_cases h : (0 : Int32) ≤ p ∧ p ≤ 7
  · rw [decide_eq_true h, if_pos rfl, if_pos (show g0 1 0 10 ≤ p from h.1)]
  · rw [decide_eq_false h, if_neg (by decide)]
theorem fT6 (p : Int32) : s_X6_isTug 0 p g0 w0 = false := by
  unfold s_X6_isTug s_X6_isTug_24 s_X6_isTug_25
  rw [within_eq]
  by_cases h : (0 : Int32) ≤ p ∧ p ≤ 5
  · rw [decide_eq_true h, if_pos rfl, if_pos (show g0 1 0 9 ≤ p from h.1)]
  · rw [decide_eq_false h, if_neg (by decide)]
theorem fP6 (p : Int32) : s_X6_isPlanned 0 p g0 w0 = false := by
  unfold s_X6_isPlanned s_X6_isPlanned_24 s_X6_isPlanned_25
  rw [within_eq]
  by_cases h : (1 : Int32) ≤ p ∧ p ≤ 4
  · rw [decide_eq_true h, if_pos rfl, if_pos (show g0 1 0 10 < p from by
      have h9 := rng h
      rw [Int32.lt_iff_toInt_lt, show (g0 1 0 10).toInt = 0 from by decide]
      rw [show (1 : Int32).toInt = 1 from by decide] at h9
      omega)]
  · rw [decide_eq_false h, if_neg (by decide)]
theorem f7 (p : Int32) {k : Int64} (hk : k = -1) (g : Nat → Nat → Nat → Int32) (w : Nat → Nat → Nat → Int64) : s_X7_in p.toInt64 0 k g w = false := by
  subst hk
  rw [in_eq]
  refine decide_eq_false (fun h => ?_)
  have h1 := Int64.le_iff_toInt_le.mp h.1
  have h2 := Int64.le_iff_toInt_le.mp h.2
  rw [show (0 : Int64).toInt = 0 from by decide] at h1
  rw [show (-1 : Int64).toInt = -1 from by decide] at h2
  omega
theorem fS7 (p : Int32) : s_X7_isShip 0 p g0 w0 = false := f7 p (by decide) _ _
theorem fT7 (p : Int32) : s_X7_isTug 0 p g0 w0 = false := f7 p (by decide) _ _
theorem fM7 (p : Int32) : s_X7_isMany 0 p g0 w0 = false := by
  unfold s_X7_isMany s_X7_isMany_29 s_X7_isMany_30
  rw [in32 p 1 4 (by decide) (by decide)]
  by_cases h : (1 : Int32) ≤ p ∧ p ≤ 4
  · rw [decide_eq_true h, if_pos rfl, if_pos]
    rw [lg_cmp_gt, show w0 2218 0 (65 : Int32).toNatClampNeg = (0 : Int32).toInt64 from by decide, Int64.lt_iff_toInt_lt, Int32.toInt_toInt64, Int32.toInt_toInt64]
    have h9 := rng h
    rw [show (1 : Int32).toInt = 1 from by decide] at h9
    rw [show (0 : Int32).toInt = 0 from by decide]
    omega
  · rw [decide_eq_false h, if_neg (by decide)]
theorem a_needs (a b : Int32) : s_X6_needs 0 a b g0 w0 = some (-1) ∧ s_X7_needs 0 a b g0 w0 = some (-1) := ⟨by unfold s_X6_needs; rw [fS6]; rfl, by unfold s_X7_needs; rw [fS7]; rfl⟩
theorem a_bunker (a b : Int32) : s_X6_bunker 0 a b g0 w0 = some (-1, g0, w0) ∧ s_X7_bunker 0 a b g0 w0 = some (-1, g0, w0) := ⟨by unfold s_X6_bunker; rw [fT6]; rfl, by unfold s_X7_bunker; rw [fT7]; rfl⟩
theorem a_fuel (a b : Int32) : s_X6_fuel 0 a b g0 w0 = some (-1) ∧ s_X7_fuel 0 a b g0 w0 = some (-1) := ⟨by unfold s_X6_fuel; rw [fT6]; rfl, by unfold s_X7_fuel; rw [fT7]; rfl⟩
theorem a_may (a b c : Int32) : s_X6_may 0 a b c g0 w0 = some (-1) ∧ s_X7_may 0 a b c g0 w0 = some (-1) := ⟨by unfold s_X6_may; rw [fS6]; rfl, by unfold s_X7_may; rw [fS7]; rfl⟩
theorem a_lay (a b c : Int32) : s_X6_lay 0 a b c g0 w0 = some (-1, g0, w0) ∧ s_X7_lay 0 a b c g0 w0 = some (-1, g0, w0) := ⟨by unfold s_X6_lay; rw [fS6]; rfl, by unfold s_X7_lay; rw [(a_may a b c).2]; rfl⟩
theorem a_off (a : Int32) : s_X6_off 0 a g0 w0 = some (-1, g0, w0) ∧ s_X7_off 0 a g0 w0 = some (-1, g0, w0) := ⟨by unfold s_X6_off; rw [fS6]; rfl, by unfold s_X7_off; rw [fS7]; rfl⟩
theorem a_best (a b : Int32) : s_X6_best 0 a b g0 w0 = some (-1, g0, w0) ∧ s_X7_best 0 a b g0 w0 = some (-1, g0, w0) := ⟨by unfold s_X6_best; rw [fS6]; rfl, by unfold s_X7_best; rw [fS7]; rfl⟩
theorem a_job (a b : Int32) : s_X6_job 0 a b g0 w0 = some (-1) ∧ s_X7_job 0 a b g0 w0 = some (-1) := ⟨by unfold s_X6_job; rw [fS6]; rfl, by unfold s_X7_job; rw [fS7]; rfl⟩
theorem a_order (a b : Int32) : s_X6_order 0 a b g0 w0 = some (-1, g0, w0) ∧ s_X7_order 0 a b g0 w0 = some (-1, g0, w0) := ⟨by unfold s_X6_order; rw [fP6]; rfl, by unfold s_X7_order; rw [fM7]; rfl⟩
theorem a_layOrder (a : Int32) : s_X6_layOrder 0 a g0 w0 = some (-1, g0, w0) ∧ s_X7_layOrder 0 a g0 w0 = some (-1, g0, w0) := ⟨by unfold s_X6_layOrder; rw [fP6]; rfl, by unfold s_X7_layOrder; rw [fM7]; rfl⟩
theorem a_mended (a b : Int32) : s_X6_mended 0 a b g0 w0 = some (-1, g0, w0) ∧ s_X7_mended 0 a b g0 w0 = some (-1, g0, w0) := ⟨by unfold s_X6_mended; rw [fP6]; rfl, by unfold s_X7_mended; rw [fM7]; rfl⟩
theorem a_layMended (a : Int32) : s_X6_layMended 0 a g0 w0 = some (-1, g0, w0) ∧ s_X7_layMended 0 a g0 w0 = some (-1, g0, w0) := ⟨by unfold s_X6_layMended; rw [fP6]; rfl, by unfold s_X7_layMended; rw [fM7]; rfl⟩
theorem a_breaks (a b : Int32) : s_X6_breaks 0 a b g0 w0 = some (-1, g0, w0) ∧ s_X7_breaks 0 a b g0 w0 = some (-1, g0, w0) := ⟨by unfold s_X6_breaks; rw [fT6]; rfl, by unfold s_X7_breaks; rw [fT7]; rfl⟩
theorem a_mend (a : Int32) : s_X6_mend 0 a g0 w0 = some (-1, g0, w0) ∧ s_X7_mend 0 a g0 w0 = some (-1, g0, w0) := ⟨by unfold s_X6_mend; rw [fT6]; rfl, by unfold s_X7_mend; rw [fT7]; rfl⟩
theorem a_price (a : Int32) : s_X6_price 0 a g0 w0 = some (-1000000001) ∧ s_X7_price 0 a g0 w0 = some (-1000000001) := ⟨by unfold s_X6_price; rw [fS6]; rfl, by unfold s_X7_price; rw [fS7]; rfl⟩
theorem a_work (a b : Int32) : s_X6_work 0 a b g0 w0 = some (-1) ∧ s_X7_work 0 a b g0 w0 = some (-1) := ⟨by unfold s_X6_work; rw [fT6]; rfl, by unfold s_X7_work; rw [fT7]; rfl⟩
theorem a_about (a b : Int32) : s_X6_about 0 a b g0 w0 = some (-100) ∧ s_X7_about 0 a b g0 w0 = some (-100) := ⟨by unfold s_X6_about; rw [fT6]; rfl, by unfold s_X7_about; rw [fT7]; rfl⟩
set_option maxRecDepth 100000 in
theorem a_keep : ((s_X6_keep 0 g0 w0).bind fun q1 => (s_X7_keep 0 q1.2.1 q1.2.2).map fun q2 => (q1.1, q2.1)) = some (1, 1) := by decide +kernel
set_option maxRecDepth 100000 in
theorem a_back : ((s_X6_back 0 g0 w0).bind fun q1 => (s_X7_back 0 q1.2.1 q1.2.2).map fun q2 => (q1.1, q2.1)) = some (-2, -2) := by decide +kernel
set_option maxRecDepth 100000 in
theorem a_calm : (s_X7_calm 0 (s_X6_calm 0 g0 w0).2.1 (s_X6_calm 0 g0 w0).2.2).map (fun q2 => ((s_X6_calm 0 g0 w0).1, q2.1)) = some (0, 0) := by decide +kernel
theorem w0_12 : ∀ n : Nat, n < 12 → w0 2218 0 n = 5 := by decide +kernel
theorem w0_60 : ∀ n : Nat, n < 60 → 12 ≤ n → w0 2218 0 n = 0 := by decide +kernel
theorem a_tide (a b : Int32) : ∃ q1 q2, s_X6_tide 0 a b g0 w0 = some q1 ∧ s_X7_tide 0 a b q1.2.1 q1.2.2 = some q2 ∧ q1.1 = q2.1 := by
  by_cases c1 : (0 : Int32) ≤ a ∧ a ≤ 11
  · by_cases c2 : (0 : Int32) ≤ b ∧ b ≤ 9
    · have r := rngN (a := 0) (b := 11) c1 (by decide) (by decide)
      have i1 : inR a 12 = true := inR_t r.1 (by omega)
      have i2 : inR a 218 = true := inR_t r.1 (by omega)
      have hn : a.toNatClampNeg < 12 := by rw [nat_of]; omega
      refine ⟨(5, gI g0 1012 0 a.toNatClampNeg b, w0), (5, gI g0 1012 0 a.toNatClampNeg b, wL w0 2218 0 a.toNatClampNeg b.toInt64), ?_, ?_, rfl⟩
      · unfold s_X6_tide
        rw [within_eq, within_eq, decide_eq_true c1, decide_eq_true c2, i1]
        rfl
      · unfold s_X7_tide
        rw [in32 a 0 11 (by decide) (by decide), in32 b 0 9 (by decide) (by decide), decide_eq_true c1, decide_eq_true c2, i2]
        show some ((w0 2218 0 a.toNatClampNeg).toInt32, _, _) = _
        rw [w0_12 _ hn]
        rfl
    · refine ⟨(-1, g0, w0), (-1, g0, w0), ?_, ?_, rfl⟩
      · unfold s_X6_tide
        rw [within_eq, within_eq, decide_eq_true c1, decide_eq_false c2]
        rfl
      · unfold s_X7_tide
        rw [in32 a 0 11 (by decide) (by decide), in32 b 0 9 (by decide) (by decide), decide_eq_true c1, decide_eq_false c2]
        rfl
  · refine ⟨(-1, g0, w0), (-1, g0, w0), ?_, ?_, rfl⟩
    · unfold s_X6_tide
      rw [within_eq, decide_eq_false c1]
      rfl
    · unfold s_X7_tide
      rw [in32 a 0 11 (by decide) (by decide), decide_eq_false c1]
      rfl
theorem a_wind (a b : Int32) : ∃ q1 q2, s_X6_wind 0 a b g0 w0 = some q1 ∧ s_X7_wind 0 a b q1.2.1 q1.2.2 = some q2 ∧ q1.1 = q2.1 := by
  by_cases c1 : (0 : Int32) ≤ a ∧ a ≤ 47
  · by_cases c2 : (0 : Int32) ≤ b ∧ b ≤ 9
    · have r := rngN (a := 0) (b := 47) c1 (by decide) (by decide)
      have e12 : ((12 : Int32) + a).toInt = 12 + a.toInt := by
        rw [add_toInt] <;> rw [show (12 : Int32).toInt = 12 from by decide] <;> omega
      have i1 : inR a 48 = true := inR_t r.1 (by omega)
      have i2 : inR ((12 : Int32) + a) 218 = true := inR_t (by omega) (by omega)
      have hn : ((12 : Int32) + a).toNatClampNeg < 60 := by rw [nat_of]; omega
      have hn2 : 12 ≤ ((12 : Int32) + a).toNatClampNeg := by rw [nat_of]; omega
      refine ⟨(0, gI g0 1048 0 a.toNatClampNeg b, w0), (0, gI g0 1048 0 a.toNatClampNeg b, wL w0 2218 0 ((12 : Int32) + a).toNatClampNeg b.toInt64), ?_, ?_, rfl⟩
      · unfold s_X6_wind
        rw [isHour6, within_eq, decide_eq_true c1, decide_eq_true c2, i1]
        rfl
      · unfold s_X7_wind
        rw [isHour7, in32 b 0 9 (by decide) (by decide), decide_eq_true c1, decide_eq_true c2, i2]
        show some ((w0 2218 0 ((12 : Int32) + a).toNatClampNeg).toInt32, _, _) = _
        rw [w0_60 _ hn hn2]
        rfl
    · refine ⟨(-1, g0, w0), (-1, g0, w0), ?_, ?_, rfl⟩
      · unfold s_X6_wind
        rw [isHour6, within_eq, decide_eq_true c1, decide_eq_false c2]
        rfl
      · unfold s_X7_wind
        rw [isHour7, in32 b 0 9 (by decide) (by decide), decide_eq_true c1, decide_eq_false c2]
        rfl
  · refine ⟨(-1, g0, w0), (-1, g0, w0), ?_, ?_, rfl⟩
    · unfold s_X6_wind
      rw [isHour6, decide_eq_false c1]
      rfl
    · unfold s_X7_wind
      rw [isHour7, decide_eq_false c1]
      rfl
theorem a_rule (a b : Int32) : ∃ q2, s_X7_rule 0 a b (s_X6_rule 0 a b g0 w0).2.1 (s_X6_rule 0 a b g0 w0).2.2 = some q2 ∧ (s_X6_rule 0 a b g0 w0).1 = q2.1 := by
  by_cases a0 : a = 0
  · subst a0
    by_cases c : (0 : Int32) ≤ b ∧ b ≤ 6
    · have e : s_X6_rule 0 0 b g0 w0 = (2, gI g0 1 0 5 b, w0) := by
        unfold s_X6_rule
        rw [within_eq, decide_eq_true c]
        rfl
      rw [e]
      refine ⟨(2, gI g0 1 0 5 b, wL w0 2218 0 60 b.toInt64), ?_, rfl⟩
      unfold s_X7_rule s_X7_rule_24 s_X7_rule_46
      rw [in32 (l := 0) (h := 2) 0 0 2 (by decide) (by decide), in32 (l := 0) (h := 6) b 0 6 (by decide) (by decide), decide_eq_true c]
      rfl
    · have e : s_X6_rule 0 0 b g0 w0 = (-1, g0, w0) := by
        unfold s_X6_rule
        rw [within_eq, decide_eq_false c]
        rfl
      rw [e]
      refine ⟨(-1, g0, w0), ?_, rfl⟩
      unfold s_X7_rule s_X7_rule_24 s_X7_rule_46
      rw [in32 (l := 0) (h := 2) 0 0 2 (by decide) (by decide), in32 (l := 0) (h := 6) b 0 6 (by decide) (by decide), decide_eq_false c]
      rfl
  · by_cases a1 : a = 1
    · subst a1
      by_cases c : (0 : Int32) ≤ b ∧ b ≤ 1
      · have e : s_X6_rule 0 1 b g0 w0 = (0, gI g0 1 0 6 b, w0) := by
          unfold s_X6_rule s_X6_rule_35
          rw [within_eq, within_eq, decide_eq_true c]
          rfl
        rw [e]
        refine ⟨(0, gI g0 1 0 6 b, wL w0 2218 0 61 b.toInt64), ?_, rfl⟩
        unfold s_X7_rule s_X7_rule_24 s_X7_rule_46
        rw [in32 (l := 0) (h := 2) 1 0 2 (by decide) (by decide), in32 (l := 0) (h := 1) b 0 1 (by decide) (by decide), decide_eq_true c]
        rfl
      · have e : s_X6_rule 0 1 b g0 w0 = (-1, g0, w0) := by
          unfold s_X6_rule s_X6_rule_35
          rw [within_eq, within_eq, decide_eq_false c]
          rfl
        rw [e]
        refine ⟨(-1, g0, w0), ?_, rfl⟩
        unfold s_X7_rule s_X7_rule_24 s_X7_rule_46
        rw [in32 (l := 0) (h := 2) 1 0 2 (by decide) (by decide), in32 (l := 0) (h := 1) b 0 1 (by decide) (by decide), decide_eq_false c]
        rfl
    · by_cases a2 : a = 2
      · subst a2
        by_cases c : (1 : Int32) ≤ b ∧ b ≤ 30
        · have e : s_X6_rule 0 2 b g0 w0 = (10, gI g0 1 0 7 b, w0) := by
            unfold s_X6_rule s_X6_rule_35 s_X6_rule_68
            rw [within_eq b 1 30, decide_eq_true c]
            rfl
          rw [e]
          refine ⟨(10, gI g0 1 0 7 b, wL w0 2218 0 62 b.toInt64), ?_, rfl⟩
          unfold s_X7_rule s_X7_rule_24 s_X7_rule_46
          rw [in32 (l := 0) (h := 2) 2 0 2 (by decide) (by decide), in32 (l := 1) (h := 30) b 1 30 (by decide) (by decide), decide_eq_true c]
          rfl
        · have e : s_X6_rule 0 2 b g0 w0 = (-1, g0, w0) := by
            unfold s_X6_rule s_X6_rule_35 s_X6_rule_68
            rw [within_eq b 1 30, decide_eq_false c]
            rfl
          rw [e]
          refine ⟨(-1, g0, w0), ?_, rfl⟩
          unfold s_X7_rule s_X7_rule_24 s_X7_rule_46
          rw [in32 (l := 0) (h := 2) 2 0 2 (by decide) (by decide), in32 (l := 1) (h := 30) b 1 30 (by decide) (by decide), decide_eq_false c]
          rfl
      · have e : s_X6_rule 0 a b g0 w0 = (-1, g0, w0) := by
          unfold s_X6_rule s_X6_rule_35 s_X6_rule_68
          rw [if_pos a0, if_pos a1, if_pos a2]
          rfl
        rw [e]
        refine ⟨(-1, g0, w0), ?_, rfl⟩
        unfold s_X7_rule
        rw [in32 (l := 0) (h := 2) a 0 2 (by decide) (by decide), decide_eq_false]
        · rfl
        · intro h
          have r := rngN (a := 0) (b := 2) h (by decide) (by decide)
          have h3 : a.toInt = 0 ∨ a.toInt = 1 ∨ a.toInt = 2 := by omega
          rcases h3 with h3 | h3 | h3
          · exact a0 (Int32.toInt_inj.mp (h3.trans (by decide)))
          · exact a1 (Int32.toInt_inj.mp (h3.trans (by decide)))
          · exact a2 (Int32.toInt_inj.mp (h3.trans (by decide)))
