/-! numbers and ranges; reading behind a write -/
theorem gI_at (g : Nat → Nat → Nat → Int32) (F i j : Nat) (x : Int32) (F' i' j' : Nat) : gI g F i j x F' i' j' = if F' = F ∧ i' = i ∧ j' = j then x else g F' i' j' := by
  unfold gI upd
  by_cases h : F' = F ∧ i' = i
  · rw [if_pos h]
    by_cases hj : j' = j
    · rw [if_pos hj, if_pos ⟨h.1, h.2, hj⟩]
    · rw [if_neg hj, if_neg (fun q => hj q.2.2), h.1, h.2]
  · rw [if_neg h, if_neg (fun q => h ⟨q.1, q.2.1⟩)]
theorem wL_at (w : Nat → Nat → Nat → Int64) (F i j : Nat) (x : Int64) (F' i' j' : Nat) : wL w F i j x F' i' j' = if F' = F ∧ i' = i ∧ j' = j then x else w F' i' j' := by
  unfold wL vp_updL
  by_cases h : F' = F ∧ i' = i
  · rw [if_pos h]
    by_cases hj : j' = j
    · rw [if_pos hj, if_pos ⟨h.1, h.2, hj⟩]
    · rw [if_neg hj, if_neg (fun q => hj q.2.2), h.1, h.2]
  · rw [if_neg h, if_neg (fun q => h ⟨q.1, q.2.1⟩)]
theorem within_eq (v lo hi : Int32) (g : Nat → Nat → Nat → Int32) (w : Nat → Nat → Nat → Int64) : s_X6_within v lo hi g w = decide (lo ≤ v ∧ v ≤ hi) := by
  unfold s_X6_within s_X6_within_14 s_X6_within_15
  simp only [Int32.lt_iff_toInt_lt, Int32.le_iff_toInt_le]
  by_cases h1 : v.toInt < lo.toInt
  · rw [if_pos h1]
    exact (decide_eq_false (by omega)).symm
  · rw [if_neg h1]
    by_cases h2 : hi.toInt < v.toInt
    · rw [if_pos h2]
      exact (decide_eq_false (by omega)).symm
    · rw [if_neg h2]
      exact (decide_eq_true (by omega)).symm
theorem in_eq (v lo hi : Int64) (g : Nat → Nat → Nat → Int32) (w : Nat → Nat → Nat → Int64) : s_X7_in v lo hi g w = decide (lo ≤ v ∧ v ≤ hi) := by
  unfold s_X7_in s_X7_in_17 s_X7_in_18
  simp only [lg_cmp_lt, lg_cmp_gt]
  simp only [Int64.lt_iff_toInt_lt, Int64.le_iff_toInt_le]
  by_cases h1 : v.toInt < lo.toInt
  · rw [if_pos h1]
    exact (decide_eq_false (by omega)).symm
  · rw [if_neg h1]
    by_cases h2 : hi.toInt < v.toInt
    · rw [if_pos h2]
      exact (decide_eq_false (by omega)).symm
    · rw [if_neg h2]
      exact (decide_eq_true (by omega)).symm
theorem le64 (a b : Int32) : (a.toInt64 ≤ b.toInt64) ↔ (a ≤ b) := by
  rw [Int64.le_iff_toInt_le, Int32.le_iff_toInt_le, Int32.toInt_toInt64, Int32.toInt_toInt64]
theorem in32 (v lo hi : Int32) {l h : Int64} (hl : lo.toInt64 = l) (hh : hi.toInt64 = h) (g : Nat → Nat → Nat → Int32) (w : Nat → Nat → Nat → Int64) : s_X7_in v.toInt64 l h g w = decide (lo ≤ v ∧ v ≤ hi) := by
  subst hl; subst hh
  rw [in_eq]
  exact decide_eq_decide.mpr ⟨fun q => ⟨(le64 _ _).mp q.1, (le64 _ _).mp q.2⟩, fun q => ⟨(le64 _ _).mpr q.1, (le64 _ _).mpr q.2⟩⟩
theorem isHour6 (v : Int32) (g : Nat → Nat → Nat → Int32) (w : Nat → Nat → Nat → Int64) : s_X6_isHour v g w = decide ((0 : Int32) ≤ v ∧ v ≤ 47) := within_eq _ _ _ _ _
theorem isHour7 (v : Int32) (g : Nat → Nat → Nat → Int32) (w : Nat → Nat → Nat → Int64) : s_X7_isHour v g w = decide ((0 : Int32) ≤ v ∧ v ≤ 47) := in32 v 0 47 (by decide) (by decide) _ _
theorem isBerth7 (v : Int32) (g : Nat → Nat → Nat → Int32) (w : Nat → Nat → Nat → Int64) : s_X7_isBerth v g w = decide ((0 : Int32) ≤ v ∧ v ≤ 5) := in32 v 0 5 (by decide) (by decide) _ _
theorem isBerth6 (v : Int32) (g : Nat → Nat → Nat → Int32) (w : Nat → Nat → Nat → Int64) : s_X6_isBerth v g w = decide ((0 : Int32) ≤ v ∧ v ≤ 5) := by
  have e6 : (6 : Int32).toInt = 6 := by decide
  have e5 : (5 : Int32).toInt = 5 := by decide
  have e0 : (0 : Int32).toInt = 0 := by decide
  unfold s_X6_isBerth
  simp only [Int32.lt_iff_toInt_lt, Int32.le_iff_toInt_le, e0, e5, e6]
  by_cases h1 : v.toInt < 0
  · rw [if_pos h1]
    exact (decide_eq_false (by omega)).symm
  · rw [if_neg h1]
    by_cases h2 : 6 ≤ v.toInt
    · rw [if_pos h2]
      exact (decide_eq_false (by omega)).symm
    · rw [if_neg h2]
      exact (decide_eq_true (by omega)).symm
theorem nat_of (v : Int32) : v.toNatClampNeg = v.toInt.toNat := rfl
theorem inR_t {n : Int32} {len : Nat} (h0 : 0 ≤ n.toInt) (h1 : n.toInt < len) : inR n len = true := by
  unfold inR
  refine decide_eq_true ?_
  rw [Int32.lt_iff_toInt_lt, nat_of, show (0 : Int32).toInt = 0 from by decide]
  omega
theorem add_toInt {a b : Int32} (h1 : -2147483648 ≤ a.toInt + b.toInt) (h2 : a.toInt + b.toInt < 2147483648) : (a + b).toInt = a.toInt + b.toInt := by
  rw [Int32.toInt_add]
  exact Int.bmod_eq_of_le (by omega) (by omega)
theorem sub_toInt {a b : Int32} (h1 : -2147483648 ≤ a.toInt - b.toInt) (h2 : a.toInt - b.toInt < 2147483648) : (a - b).toInt = a.toInt - b.toInt := by
  rw [Int32.toInt_sub]
  exact Int.bmod_eq_of_le (by omega) (by omega)
theorem rng {v lo hi : Int32} (h : lo ≤ v ∧ v ≤ hi) : lo.toInt ≤ v.toInt ∧ v.toInt ≤ hi.toInt := ⟨Int32.le_iff_toInt_le.mp h.1, Int32.le_iff_toInt_le.mp h.2⟩
theorem rngN {v lo hi : Int32} {a b : Int} (h : lo ≤ v ∧ v ≤ hi) (ha : lo.toInt = a) (hb : hi.toInt = b) : a ≤ v.toInt ∧ v.toInt ≤ b := by
  rw [← ha, ← hb]
  exact rng h
