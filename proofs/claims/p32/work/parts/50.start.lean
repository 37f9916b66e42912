/-! what holds between two calls holds at the start -/
theorem nbeq {a b : Nat} (h : a ≠ b) : Nat.beq a b = false := by
  cases hb : Nat.beq a b with
  | false => rfl
  | true => exact absurd (Nat.eq_of_beq_eq_true hb) h
theorem rgg_z (d : Nat) : rgg d 0 := by
  unfold rgg clo chi
  rw [show (0 : Int32).toInt = 0 from rfl]
  (repeat' split) <;> omega
theorem rgw_z {d : Nat} (h : d ≠ 2) : rgw d 0 := by
  unfold rgw klo khi
  rw [show (0 : Int64).toInt = 0 from rfl]
  (repeat' split) <;> omega
theorem g0_z {F i j : Nat} (h : F ≠ 1) (h2 : F ≠ 1012) (h3 : F ≠ 5) (h4 : F ≠ 4) (h5 : F ≠ 1004) (h6 : F ≠ 1006) : g0 F i j = 0 := by
  unfold g0
  have b : ∀ {m : Nat}, F ≠ m → Nat.beq F m = false := fun q => nbeq q
  rw [b h, b h2, b h3, b h4, b h5, b h6]
  rfl
theorem invG_0 : InvG g0 := by
  intro F i j
  by_cases h1 : F = 1
  · subst h1
    by_cases hj : j = 5
    · subst hj
      show clo 5 ≤ (2 : Int32).toInt ∧ (2 : Int32).toInt ≤ chi 5
      decide
    · rw [show gk 1 j = 0 from by unfold gk; rw [if_neg (by decide), if_neg (by decide), if_neg (by decide), if_pos rfl, if_neg hj]]
      exact rgg_0 _
  by_cases h5 : F = 5
  · subst h5
    by_cases hj : j = 7
    · subst hj
      exact rgg_0 _
    · rw [show g0 5 i j = 0 from by unfold g0; rw [show Nat.beq j 7 = false from nbeq hj]; rfl]
      exact rgg_z _
  by_cases h4 : F = 4
  · subst h4
    by_cases hj : j = 7
    · subst hj
      exact rgg_0 _
    · rw [show g0 4 i j = 0 from by unfold g0; rw [show Nat.beq j 7 = false from nbeq hj]; rfl]
      exact rgg_z _
  by_cases h12 : F = 1012
  · subst h12; exact rgg_0 _
  by_cases h04 : F = 1004
  · subst h04; exact rgg_0 _
  by_cases h06 : F = 1006
  · subst h06; exact rgg_0 _
  rw [g0_z h1 h12 h5 h4 h04 h06]
  exact rgg_z _
theorem w0_z {F i j : Nat} (h : ¬ (F = 2218 ∧ (j < 12 ∨ j = 60 ∨ j = 62))) : w0 F i j = 0 := by
  unfold w0
  by_cases h1 : F = 2218
  · subst h1
    rw [show Nat.blt j 12 = false from by
      cases hb : Nat.blt j 12 with
      | false => rfl
      | true => exact absurd (Nat.blt_eq.mp hb) (by omega)]
    rw [show Nat.beq j 60 = false from nbeq (by omega), show Nat.beq j 62 = false from nbeq (by omega)]
    rfl
  · rw [show Nat.beq F 2218 = false from nbeq h1]
    rfl
theorem invW_0 : InvW w0 := by
  intro F i j
  by_cases h : F = 2218 ∧ (j < 12 ∨ j = 60 ∨ j = 62)
  · obtain ⟨rfl, hj⟩ := h
    by_cases hi : i = 0
    · subst hi
      rcases hj with hj | rfl | rfl
      · rw [show wk 2218 0 j = kd j from rfl, kd_low (by omega)]; exact rgw_0 _
      · show klo 1 ≤ (2 : Int64).toInt ∧ (2 : Int64).toInt ≤ khi 1
        decide
      · show klo 2 ≤ (10 : Int64).toInt ∧ (10 : Int64).toInt ≤ khi 2
        decide
    · rw [show wk 2218 i j = 0 from by unfold wk; rw [if_neg hi]]
      exact rgw_0 _
  · rw [w0_z h]
    refine rgw_z ?_
    unfold wk
    split
    · split
      · next q =>
        have hj : j ≠ 62 := by omega
        unfold kd
        rw [if_neg hj]
        (repeat' split) <;> omega
      · (repeat' split) <;> omega
    · decide
theorem rb_0 : RB g0 w0 := by
  refine ⟨⟨by decide +kernel, by decide +kernel, by decide +kernel, by decide +kernel, by decide +kernel, by decide +kernel⟩, rfl, ?_, rfl, by decide +kernel⟩
  intro i hi
  rw [show g0 7 0 2 = 0 from rfl, show (0 : Int32).toInt = 0 from rfl] at hi
  omega
theorem st_0 : ST g0 w0 := ⟨invG_0, invW_0, fun i hi => by
  rw [show g0 7 0 2 = 0 from rfl, show (0 : Int32).toInt = 0 from rfl] at hi
  omega, rb_0⟩
