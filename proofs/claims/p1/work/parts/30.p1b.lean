theorem exm {α : Type} {X : Option (Int32 × α)} {v : Int32} (h : X.map (fun q => q.1) = some v) : ∃ q, X = some q ∧ v = q.1 := by
  cases X with
  | none => cases h
  | some q => exact ⟨q, rfl, (Option.some.inj h).symm⟩
theorem u_way (a b : Int32) : ∃ q, s_X6_way 0 a b g0 w0 = some q ∧ s_X7_way 0 a b g0 w0 = some q := by
  by_cases c1 : (0 : Int32) ≤ a ∧ a ≤ 5
  · by_cases c2 : (0 : Int32) ≤ b ∧ b ≤ 5
    · have r1 := rngN (a := 0) (b := 5) c1 (by decide) (by decide)
      have r2 := rngN (a := 0) (b := 5) c2 (by decide) (by decide)
      have i1 : inR a 6 = true := inR_t r1.1 (by omega)
      have i2 : inR b 6 = true := inR_t r2.1 (by omega)
      have hp : ∀ n, g0 1006 2 n = g0 1006 0 n := fun n => rfl
      have hd : ∀ x y : Int32, (if x ≤ y then y - x else x - y) = (if y ≤ x then x - y else y - x) := by
        intro x y
        by_cases h1 : x ≤ y
        · by_cases h2 : y ≤ x
          · rw [if_pos h1, if_pos h2]
            have e : x = y := Int32.toInt_inj.mp (by have := Int32.le_iff_toInt_le.mp h1; have := Int32.le_iff_toInt_le.mp h2; omega)
            rw [e]
          · rw [if_pos h1, if_neg h2]
        · rw [if_neg h1, if_pos (Int32.le_iff_toInt_le.mpr (by have h3 : ¬ x.toInt ≤ y.toInt := fun q => h1 (Int32.le_iff_toInt_le.mpr q); omega))]
      refine ⟨((if g0 1006 0 a.toNatClampNeg ≤ g0 1006 0 b.toNatClampNeg then g0 1006 0 b.toNatClampNeg - g0 1006 0 a.toNatClampNeg else g0 1006 0 a.toNatClampNeg - g0 1006 0 b.toNatClampNeg) + 10 - 1) / 10, ?_, ?_⟩
      · unfold s_X6_way s_X0_hoursBetween s_X0_hoursBetween_64
        rw [isBerth6, isBerth6, decide_eq_true c1, decide_eq_true c2, i1, i2, show g0 1 0 7 = 10 from rfl]
        by_cases h : g0 1006 0 a.toNatClampNeg ≤ g0 1006 0 b.toNatClampNeg
        · rw [if_pos h, if_pos h]
          rfl
        · rw [if_neg h, if_neg h]
          rfl
      · unfold s_X7_way s_X7_wayOf s_X7_wayOf_44 s_X7_way_24
        rw [isBerth7, isBerth7, decide_eq_true c1, decide_eq_true c2, i1, i2, hd, hp, hp, show (w0 2218 0 (62 : Int32).toNatClampNeg).toInt32 = 10 from by decide]
        by_cases h : g0 1006 0 b.toNatClampNeg ≤ g0 1006 0 a.toNatClampNeg
        · rw [if_pos h, if_pos h]
          rfl
        · rw [if_neg h, if_neg h]
          rfl
    · refine ⟨-1, ?_, ?_⟩
      · unfold s_X6_way
        rw [isBerth6, isBerth6, decide_eq_true c1, decide_eq_false c2]
        rfl
      · unfold s_X7_way
        rw [isBerth7, isBerth7, decide_eq_true c1, decide_eq_false c2]
        rfl
  · refine ⟨-1, ?_, ?_⟩
    · unfold s_X6_way
      rw [isBerth6, decide_eq_false c1]
      rfl
    · unfold s_X7_way
      rw [isBerth7, decide_eq_false c1]
      rfl
theorem u_count (p : Int32) : ∃ q, s_X6_count 0 p g0 w0 = some q ∧ s_X7_count 0 p g0 w0 = some q := by
  by_cases h0 : p = 0
  · subst h0; exact ⟨0, by decide +kernel, by decide +kernel⟩
  by_cases h1 : p = 1
  · subst h1; exact ⟨0, by decide +kernel, by decide +kernel⟩
  by_cases h2 : p = 2
  · subst h2; exact ⟨0, by decide +kernel, by decide +kernel⟩
  by_cases h3 : p = 3
  · subst h3; exact ⟨0, by decide +kernel, by decide +kernel⟩
  by_cases h4 : p = 4
  · subst h4; exact ⟨0, by decide +kernel, by decide +kernel⟩
  by_cases h5 : p = 5
  · subst h5; exact ⟨0, by decide +kernel, by decide +kernel⟩
  by_cases h6 : p = 6
  · subst h6; exact ⟨0, by decide +kernel, by decide +kernel⟩
  by_cases h7 : p = 7
  · subst h7; exact ⟨0, by decide +kernel, by decide +kernel⟩
  by_cases h8 : p = 8
  · subst h8; exact ⟨0, by decide +kernel, by decide +kernel⟩
  by_cases h9 : p = 9
  · subst h9; exact ⟨0, by decide +kernel, by decide +kernel⟩
  refine ⟨-1, ?_, ?_⟩
  · unfold s_X6_count
    rw [if_neg h0, if_neg h1, if_neg h2, if_neg h3, if_neg h4, if_neg h5, if_neg h6, if_neg h7, if_neg h8, if_neg h9]
  · show s_X7_count_4 0 p (s_X7_count_R4 0 p 999) 0 0 g0 w0 = some (-1)
    unfold s_X7_count_4
    rw [if_pos (by decide), if_neg h0, if_neg h1, if_neg h2, if_neg h3, if_neg h4, if_neg h5, if_neg h6, if_neg h7, if_neg h8, if_neg h9]
theorem u_pool (a b : Int32) : ∃ q, s_X6_pool 0 a b g0 w0 = some q ∧ s_X7_pool 0 a b g0 w0 = some q := by
  have e1 : s_X1_pullHours 0 1 g0 w0 = some 0 := by decide +kernel
  have e0 : s_X1_pullHours 0 0 g0 w0 = some 0 := by decide +kernel
  by_cases c1 : (0 : Int32) ≤ a ∧ a ≤ 1
  · by_cases c2 : (0 : Int32) ≤ b ∧ b ≤ 1000000
    · by_cases h : a ≠ 1
      · refine ⟨b - 0, ?_, ?_⟩
        · unfold s_X6_pool s_X6_pool_61
          rw [within_eq, within_eq, decide_eq_true c1, decide_eq_true c2, e1, e0, if_pos h]
          rfl
        · unfold s_X7_pool
          rw [in32 a 0 1 (by decide) (by decide), in32 b 0 1000000 (by decide) (by decide), decide_eq_true c1, decide_eq_true c2]
          show s_X7_pool_119 0 a b 0 g0 w0 = _
          unfold s_X7_pool_119
          rw [if_pos h]
          rfl
      · refine ⟨0, ?_, ?_⟩
        · unfold s_X6_pool s_X6_pool_61
          rw [within_eq, within_eq, decide_eq_true c1, decide_eq_true c2, e1, e0, if_neg h]
          rfl
        · unfold s_X7_pool
          rw [in32 a 0 1 (by decide) (by decide), in32 b 0 1000000 (by decide) (by decide), decide_eq_true c1, decide_eq_true c2]
          show s_X7_pool_119 0 a b 0 g0 w0 = _
          unfold s_X7_pool_119
          rw [if_neg h]
          rfl
    · refine ⟨-1, ?_, ?_⟩
      · unfold s_X6_pool
        rw [within_eq, within_eq, decide_eq_true c1, decide_eq_false c2]
        rfl
      · unfold s_X7_pool
        rw [in32 a 0 1 (by decide) (by decide), in32 b 0 1000000 (by decide) (by decide), decide_eq_true c1, decide_eq_false c2]
        rfl
  · refine ⟨-1, ?_, ?_⟩
    · unfold s_X6_pool
      rw [within_eq, decide_eq_false c1]
      rfl
    · unfold s_X7_pool
      rw [in32 a 0 1 (by decide) (by decide), decide_eq_false c1]
      rfl
theorem tug7 (p1 p2 p3 p4 p5 p6 p7 : Int32) (c1 : (0 : Int32) ≤ p1 ∧ p1 ≤ 1) (c2 : (1 : Int32) ≤ p2 ∧ p2 ≤ 60) (c3 : (0 : Int32) ≤ p3 ∧ p3 ≤ 1) (c5 : (1 : Int32) ≤ p5 ∧ p5 ≤ 48) (c4 : (0 : Int32) ≤ p4 ∧ p4 ≤ p5) (c6 : (1 : Int32) ≤ p6 ∧ p6 ≤ 12) (c7 : (0 : Int32) ≤ p7 ∧ p7 ≤ 5) (g : Nat → Nat → Nat → Int32) (W : Nat → Nat → Nat → Int64) (hW : W 2218 0 (64 : Int32).toNatClampNeg = 0) : (s_X7_tug 0 p1 p2 p3 p4 p5 p6 p7 g W).map (fun q => q.1) = some 0 := by
  have f0 : lg_cmp (0 : Int64) 6 ≠ 0 := by decide
  have k0 : inR (((70 : Int32) + ((10 : Int32) * (0 : Int64).toInt32)) + (0 : Int32)) 218 = true := by decide
  have k1 : inR (((70 : Int32) + ((10 : Int32) * (0 : Int64).toInt32)) + (1 : Int32)) 218 = true := by decide
  have k2 : inR (((70 : Int32) + ((10 : Int32) * (0 : Int64).toInt32)) + (2 : Int32)) 218 = true := by decide
  have k3 : inR (((70 : Int32) + ((10 : Int32) * (0 : Int64).toInt32)) + (3 : Int32)) 218 = true := by decide
  have k4 : inR (((70 : Int32) + ((10 : Int32) * (0 : Int64).toInt32)) + (4 : Int32)) 218 = true := by decide
  have k5 : inR (((70 : Int32) + ((10 : Int32) * (0 : Int64).toInt32)) + (5 : Int32)) 218 = true := by decide
  have k6 : inR (((70 : Int32) + ((10 : Int32) * (0 : Int64).toInt32)) + (6 : Int32)) 218 = true := by decide
  have k7 : inR (((70 : Int32) + ((10 : Int32) * (0 : Int64).toInt32)) + (7 : Int32)) 218 = true := by decide
  have k8 : inR (((70 : Int32) + ((10 : Int32) * (0 : Int64).toInt32)) + (8 : Int32)) 218 = true := by decide
  have k9 : inR (((70 : Int32) + ((10 : Int32) * (0 : Int64).toInt32)) + (9 : Int32)) 218 = true := by decide
  unfold s_X7_tug
  rw [in32 p1 0 1 (by decide) (by decide), in32 p2 1 60 (by decide) (by decide), in32 p3 0 1 (by decide) (by decide), in32 p5 1 48 (by decide) (by decide), in32 p4 0 p5 (by decide) rfl, in32 p6 1 12 (by decide) (by decide), isBerth7 p7, decide_eq_true c1, decide_eq_true c2, decide_eq_true c3, decide_eq_true c5, decide_eq_true c4, decide_eq_true c6, decide_eq_true c7]
  rw [if_pos rfl, if_pos rfl, if_pos rfl, if_pos rfl, if_pos rfl, if_pos rfl, if_pos rfl, hW, if_pos f0, k0, if_pos rfl, k1, if_pos rfl, k2, if_pos rfl, k3, if_pos rfl, k4, if_pos rfl, k5, if_pos rfl, k6, if_pos rfl, k7, if_pos rfl, k8, if_pos rfl, k9, if_pos rfl]
  show some _ = some _
  congr 1
  simp (config := { decide := true }) only [wL_at, hW, if_true, if_false]
theorem ship7 (p1 p2 p3 p4 p5 p6 p7 : Int32) (c1 : (1 : Int32) ≤ p1 ∧ p1 ≤ 50) (c2 : (0 : Int32) ≤ p2 ∧ p2 ≤ 9) (c3 : (0 : Int32) ≤ p3 ∧ p3 ≤ 47) (c4 : (1 : Int32) ≤ p4 ∧ p4 ≤ 4) (c5 : (1 : Int32) ≤ p5 ∧ p5 ≤ 20) (c6 : (0 : Int32) ≤ p6 ∧ p6 ≤ 5) (c7 : (0 : Int32) ≤ p7 ∧ p7 ≤ 5) (g : Nat → Nat → Nat → Int32) (W : Nat → Nat → Nat → Int64) (hW : W 2218 0 (65 : Int32).toNatClampNeg = 0) : (s_X7_ship 0 p1 p2 p3 p4 p5 p6 p7 g W).map (fun q => q.1) = some 0 := by
  have f0 : lg_cmp (0 : Int64) 8 ≠ 0 := by decide
  have k0 : inR (((130 : Int32) + ((11 : Int32) * (0 : Int64).toInt32)) + (0 : Int32)) 218 = true := by decide
  have k1 : inR (((130 : Int32) + ((11 : Int32) * (0 : Int64).toInt32)) + (1 : Int32)) 218 = true := by decide
  have k2 : inR (((130 : Int32) + ((11 : Int32) * (0 : Int64).toInt32)) + (2 : Int32)) 218 = true := by decide
  have k3 : inR (((130 : Int32) + ((11 : Int32) * (0 : Int64).toInt32)) + (3 : Int32)) 218 = true := by decide
  have k4 : inR (((130 : Int32) + ((11 : Int32) * (0 : Int64).toInt32)) + (4 : Int32)) 218 = true := by decide
  have k5 : inR (((130 : Int32) + ((11 : Int32) * (0 : Int64).toInt32)) + (5 : Int32)) 218 = true := by decide
  have k6 : inR (((130 : Int32) + ((11 : Int32) * (0 : Int64).toInt32)) + (6 : Int32)) 218 = true := by decide
  have k7 : inR (((130 : Int32) + ((11 : Int32) * (0 : Int64).toInt32)) + (7 : Int32)) 218 = true := by decide
  have k8 : inR (((130 : Int32) + ((11 : Int32) * (0 : Int64).toInt32)) + (8 : Int32)) 218 = true := by decide
  unfold s_X7_ship
  rw [in32 p1 1 50 (by decide) (by decide), in32 p2 0 9 (by decide) (by decide), isHour7 p3, in32 p4 1 4 (by decide) (by decide), in32 p5 1 20 (by decide) (by decide), isBerth7 p6, isBerth7 p7, decide_eq_true c1, decide_eq_true c2, decide_eq_true c3, decide_eq_true c4, decide_eq_true c5, decide_eq_true c6, decide_eq_true c7]
  rw [if_pos rfl, if_pos rfl, if_pos rfl, if_pos rfl, if_pos rfl, if_pos rfl, if_pos rfl, hW, if_pos f0, k0, if_pos rfl, k1, if_pos rfl, k2, if_pos rfl, k3, if_pos rfl, k4, if_pos rfl, k5, if_pos rfl, k6, if_pos rfl, k7, if_pos rfl, k8, if_pos rfl]
  show some _ = some _
  congr 1
  simp (config := { decide := true }) only [wL_at, hW, if_true, if_false]
theorem a_tug (p1 p2 p3 p4 p5 p6 p7 : Int32) : ∃ q1 q2, s_X6_tug 0 p1 p2 p3 p4 p5 p6 p7 g0 w0 = some q1 ∧ s_X7_tug 0 p1 p2 p3 p4 p5 p6 p7 q1.2.1 q1.2.2 = some q2 ∧ q1.1 = q2.1 := by
  by_cases c1 : (0 : Int32) ≤ p1 ∧ p1 ≤ 1
  · by_cases c2 : (1 : Int32) ≤ p2 ∧ p2 ≤ 60
    · by_cases c3 : (0 : Int32) ≤ p3 ∧ p3 ≤ 1
      · by_cases c5 : (1 : Int32) ≤ p5 ∧ p5 ≤ 48
        · by_cases c4 : (0 : Int32) ≤ p4 ∧ p4 ≤ p5
          · by_cases c6 : (1 : Int32) ≤ p6 ∧ p6 ≤ 12
            · by_cases c7 : (0 : Int32) ≤ p7 ∧ p7 ≤ 5
              · have e : s_X6_tug 0 p1 p2 p3 p4 p5 p6 p7 g0 w0 = some (0, gI (s_X5_come 0 p1 p2 p3 p4 p5 p6 p7 g0 w0).1 1 0 9 1, (s_X5_come 0 p1 p2 p3 p4 p5 p6 p7 g0 w0).2) := by
                  unfold s_X6_tug
                  rw [within_eq p1, within_eq p2, within_eq p3, within_eq p5, within_eq p4, within_eq p6, isBerth6, decide_eq_true c1, decide_eq_true c2, decide_eq_true c3, decide_eq_true c4, decide_eq_true c5, decide_eq_true c6, decide_eq_true c7]
                  rfl
                obtain ⟨q2, h1, h2⟩ : ∃ q2, s_X7_tug 0 p1 p2 p3 p4 p5 p6 p7 (gI (s_X5_come 0 p1 p2 p3 p4 p5 p6 p7 g0 w0).1 1 0 9 1) (s_X5_come 0 p1 p2 p3 p4 p5 p6 p7 g0 w0).2 = some q2 ∧ (0 : Int32) = q2.1 := by
                  exact exm (tug7 p1 p2 p3 p4 p5 p6 p7 c1 c2 c3 c5 c4 c6 c7 _ _ rfl)
                exact ⟨_, q2, e, h1, h2⟩
              · refine ⟨(-1, g0, w0), (-1, g0, w0), ?_, ?_, rfl⟩
                · unfold s_X6_tug
                  rw [within_eq p1, within_eq p2, within_eq p3, within_eq p5, within_eq p4, within_eq p6, isBerth6, decide_eq_true c1, decide_eq_true c2, decide_eq_true c3, decide_eq_true c4, decide_eq_true c5, decide_eq_true c6, decide_eq_false c7]
                  rfl
                · unfold s_X7_tug
                  rw [in32 p1 0 1 (by decide) (by decide), in32 p2 1 60 (by decide) (by decide), in32 p3 0 1 (by decide) (by decide), in32 p5 1 48 (by decide) (by decide), in32 p4 0 p5 (by decide) rfl, in32 p6 1 12 (by decide) (by decide), isBerth7, decide_eq_true c1, decide_eq_true c2, decide_eq_true c3, decide_eq_true c4, decide_eq_true c5, decide_eq_true c6, decide_eq_false c7]
                  rfl
            · refine ⟨(-1, g0, w0), (-1, g0, w0), ?_, ?_, rfl⟩
              · unfold s_X6_tug
                rw [within_eq p1, within_eq p2, within_eq p3, within_eq p5, within_eq p4, within_eq p6, decide_eq_true c1, decide_eq_true c2, decide_eq_true c3, decide_eq_true c4, decide_eq_true c5, decide_eq_false c6]
                rfl
              · unfold s_X7_tug
                rw [in32 p1 0 1 (by decide) (by decide), in32 p2 1 60 (by decide) (by decide), in32 p3 0 1 (by decide) (by decide), in32 p5 1 48 (by decide) (by decide), in32 p4 0 p5 (by decide) rfl, in32 p6 1 12 (by decide) (by decide), decide_eq_true c1, decide_eq_true c2, decide_eq_true c3, decide_eq_true c4, decide_eq_true c5, decide_eq_false c6]
                rfl
          · refine ⟨(-1, g0, w0), (-1, g0, w0), ?_, ?_, rfl⟩
            · unfold s_X6_tug
              rw [within_eq p1, within_eq p2, within_eq p3, within_eq p5, within_eq p4, decide_eq_true c1, decide_eq_true c2, decide_eq_true c3, decide_eq_false c4, decide_eq_true c5]
              rfl
            · unfold s_X7_tug
              rw [in32 p1 0 1 (by decide) (by decide), in32 p2 1 60 (by decide) (by decide), in32 p3 0 1 (by decide) (by decide), in32 p5 1 48 (by decide) (by decide), in32 p4 0 p5 (by decide) rfl, decide_eq_true c1, decide_eq_true c2, decide_eq_true c3, decide_eq_false c4, decide_eq_true c5]
              rfl
        · refine ⟨(-1, g0, w0), (-1, g0, w0), ?_, ?_, rfl⟩
          · unfold s_X6_tug
            rw [within_eq p1, within_eq p2, within_eq p3, within_eq p5, decide_eq_true c1, decide_eq_true c2, decide_eq_true c3, decide_eq_false c5]
            rfl
          · unfold s_X7_tug
            rw [in32 p1 0 1 (by decide) (by decide), in32 p2 1 60 (by decide) (by decide), in32 p3 0 1 (by decide) (by decide), in32 p5 1 48 (by decide) (by decide), decide_eq_true c1, decide_eq_true c2, decide_eq_true c3, decide_eq_false c5]
            rfl
      · refine ⟨(-1, g0, w0), (-1, g0, w0), ?_, ?_, rfl⟩
        · unfold s_X6_tug
          rw [within_eq p1, within_eq p2, within_eq p3, decide_eq_true c1, decide_eq_true c2, decide_eq_false c3]
          rfl
        · unfold s_X7_tug
          rw [in32 p1 0 1 (by decide) (by decide), in32 p2 1 60 (by decide) (by decide), in32 p3 0 1 (by decide) (by decide), decide_eq_true c1, decide_eq_true c2, decide_eq_false c3]
          rfl
    · refine ⟨(-1, g0, w0), (-1, g0, w0), ?_, ?_, rfl⟩
      · unfold s_X6_tug
        rw [within_eq p1, within_eq p2, decide_eq_true c1, decide_eq_false c2]
        rfl
      · unfold s_X7_tug
        rw [in32 p1 0 1 (by decide) (by decide), in32 p2 1 60 (by decide) (by decide), decide_eq_true c1, decide_eq_false c2]
        rfl
  · refine ⟨(-1, g0, w0), (-1, g0, w0), ?_, ?_, rfl⟩
    · unfold s_X6_tug
      rw [within_eq p1, decide_eq_false c1]
      rfl
    · unfold s_X7_tug
      rw [in32 p1 0 1 (by decide) (by decide), decide_eq_false c1]
      rfl
