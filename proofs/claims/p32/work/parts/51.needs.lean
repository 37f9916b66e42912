/-! the same things there are; needs: both sides alike -/
section
variable {g : Nat → Nat → Nat → Int32} {w : Nat → Nat → Nat → Int64} {p p1 p2 : Int32}
theorem isShip6_e {n : Nat} (hn : n ≤ 8) (eg : g 1 0 10 = I n) : s_X6_isShip 0 p g w = decide (0 ≤ p.toInt ∧ p.toInt < n) := by
  unfold s_X6_isShip s_X6_isShip_25 s_X6_isShip_26
  rw [within_eq, eg]
  by_cases h : (0 : Int32) ≤ p ∧ p ≤ 7
  · rw [if_pos (decide_eq_true h)]
    have q := rngN h (a := 0) (b := 7) rfl rfl
    by_cases h2 : I n ≤ p
    · rw [if_pos h2]
      rw [Int32.le_iff_toInt_le, I_toInt (by omega)] at h2
      exact (decide_eq_false (by omega)).symm
    · rw [if_neg h2]
      rw [Int32.le_iff_toInt_le, I_toInt (by omega)] at h2
      exact (decide_eq_true (by omega)).symm
  · rw [if_neg (fun q => h (of_decide_eq_true q))]
    rw [Int32.le_iff_toInt_le, Int32.le_iff_toInt_le, show (0 : Int32).toInt = 0 from rfl, show (7 : Int32).toInt = 7 from rfl] at h
    exact (decide_eq_false (by omega)).symm
theorem isTug6_e {n : Nat} (hn : n ≤ 6) (eg : g 1 0 9 = I n) : s_X6_isTug 0 p g w = decide (0 ≤ p.toInt ∧ p.toInt < n) := by
  unfold s_X6_isTug s_X6_isTug_24 s_X6_isTug_25
  rw [within_eq, eg]
  by_cases h : (0 : Int32) ≤ p ∧ p ≤ 5
  · rw [if_pos (decide_eq_true h)]
    have q := rngN h (a := 0) (b := 5) rfl rfl
    by_cases h2 : I n ≤ p
    · rw [if_pos h2]
      rw [Int32.le_iff_toInt_le, I_toInt (by omega)] at h2
      exact (decide_eq_false (by omega)).symm
    · rw [if_neg h2]
      rw [Int32.le_iff_toInt_le, I_toInt (by omega)] at h2
      exact (decide_eq_true (by omega)).symm
  · rw [if_neg (fun q => h (of_decide_eq_true q))]
    rw [Int32.le_iff_toInt_le, Int32.le_iff_toInt_le, show (0 : Int32).toInt = 0 from rfl, show (5 : Int32).toInt = 5 from rfl] at h
    exact (decide_eq_false (by omega)).symm
theorem in7_e {n : Nat} {x : Int64} (hn : n ≤ 64) (ew : x = (I n).toInt64) : s_X7_in p.toInt64 0 (x - 1) g w = decide (0 ≤ p.toInt ∧ p.toInt < n) := by
  rw [in_eq]
  refine decide_eq_decide.mpr ?_
  rw [Int64.le_iff_toInt_le, Int64.le_iff_toInt_le, Int32.toInt_toInt64, J_pred (x := x) (a := n) (by rw [ew, I64 (by omega)]) (by omega), show (0 : Int64).toInt = 0 from rfl]
  omega
theorem isShip7_e {n : Nat} (hn : n ≤ 8) (ew : w 2218 0 65 = (I n).toInt64) : s_X7_isShip 0 p g w = decide (0 ≤ p.toInt ∧ p.toInt < n) := in7_e (by omega) ew
theorem isTug7_e {n : Nat} (hn : n ≤ 6) (ew : w 2218 0 64 = (I n).toInt64) : s_X7_isTug 0 p g w = decide (0 ≤ p.toInt ∧ p.toInt < n) := in7_e (by omega) ew
theorem st_ships (h : ST g w) : ∃ n : Nat, n ≤ 8 ∧ g 1 0 10 = I n ∧ w 2218 0 65 = (I n).toInt64 := by
  have ew : w 2218 0 65 = (g 1 0 10).toInt64 := h.2.2.2.1.2.2.2.1 1 (by decide)
  have q := h.2.1 2218 0 65
  rw [ew, show wk 2218 0 65 = 4 from rfl] at q
  have q1 : 0 ≤ (g 1 0 10).toInt64.toInt := q.1
  have q2 : (g 1 0 10).toInt64.toInt ≤ 8 := q.2
  rw [Int32.toInt_toInt64] at q1 q2
  obtain ⟨a, ha, ea⟩ := I_ex (v := g 1 0 10) (n := 8) q1 q2
  exact ⟨a, ha, ea, ew.trans (congrArg Int32.toInt64 ea)⟩
theorem st_tugs (h : ST g w) : ∃ n : Nat, n ≤ 6 ∧ g 1 0 9 = I n ∧ w 2218 0 64 = (I n).toInt64 := by
  have ew : w 2218 0 64 = (g 1 0 9).toInt64 := h.2.2.2.1.2.2.2.1 0 (by decide)
  have q := h.2.1 2218 0 64
  rw [ew, show wk 2218 0 64 = 3 from rfl] at q
  have q1 : 0 ≤ (g 1 0 9).toInt64.toInt := q.1
  have q2 : (g 1 0 9).toInt64.toInt ≤ 6 := q.2
  rw [Int32.toInt_toInt64] at q1 q2
  obtain ⟨a, ha, ea⟩ := I_ex (v := g 1 0 9) (n := 6) q1 q2
  exact ⟨a, ha, ea, ew.trans (congrArg Int32.toInt64 ea)⟩
theorem needed_e {hb s k : Nat} (hk : k ≤ 47) : s_X1_neededPull hb s (I k) g w = some (g 4 s 0 + g 4 s 0 * g 1048 hb k / 5) := by
  unfold s_X1_neededPull
  have hc : (0 : Int32) ≤ I k ∧ I k ≤ 47 := ⟨(I_le (a := 0) (b := k) (by decide) (by omega)).mpr (by omega), (I_le (a := k) (b := 47) (by omega) (by decide)).mpr (by omega)⟩
  rw [within_eq, if_pos (decide_eq_true hc), if_pos (inR_I (by omega) (by decide)), I_tn (by omega)]
  rfl
theorem needsOf_e {s k : Nat} (hs : s < 8) (hk : k ≤ 47) : s_X7_needsOf 0 (I s) (I k) g w = some ((w 2218 0 (130 + 11 * s + 0)).toInt32 + (w 2218 0 (130 + 11 * s + 0)).toInt32 * (w 2218 0 (12 + k)).toInt32 / 5) := by
  unfold s_X7_needsOf
  rw [show s_X7_ofShip 0 (I s) 0 g w = some (w 2218 0 (130 + 11 * s + 0)).toInt32 from ofShip_e hs (by decide)]
  show (if inR ((12 : Int32) + I k) 218 = true then some (_) else none) = _
  rw [i_12, I_add, if_pos (inR_I (by omega) (by decide)), I_tn (by omega)]
theorem pr_needsE (h : ST g w) : Ok (s_X6_needs 0 p1 p2 g w) (fun q => Ok (s_X7_needs 0 p1 p2 g w) (fun r => q = r)) := by
  obtain ⟨n, hn, eg, ew⟩ := st_ships h
  unfold s_X6_needs s_X7_needs s_X6_needs_15 s_X7_needs_24 s_X7_needs_25
  rw [isShip6_e hn eg, isShip7_e hn ew, isHour6, isHour7]
  by_cases c1 : 0 ≤ p1.toInt ∧ p1.toInt < n
  · rw [if_pos (decide_eq_true c1), if_pos (decide_eq_true c1)]
    obtain ⟨s, hs, rfl⟩ := I_ex (v := p1) (n := 7) c1.1 (by omega)
    by_cases c2 : (0 : Int32) ≤ p2 ∧ p2 ≤ 47
    · rw [if_pos (decide_eq_true c2), if_pos (decide_eq_true c2), if_pos (inR_I (by omega) (by decide))]
      have q := rngN c2 (a := 0) (b := 47) rfl rfl
      obtain ⟨k, hk, rfl⟩ := I_ex (v := p2) (n := 47) q.1 q.2
      rw [I_tn (by omega), show 8 * 0 + s = s by omega, needed_e hk, needsOf_e (by omega) hk]
      refine ok_some (ok_some ?_)
      have e1 : w 2218 0 (130 + 11 * s + 0) = (g 4 s 0).toInt64 := by
        have := h.2.2.2.1.2.2.2.2.2 s (by omega) 0 (by decide)
        rw [this, show 8 * 0 + s = s by omega]
      have e2 : w 2218 0 (12 + k) = (g 1048 0 k).toInt64 := h.2.2.2.1.2.1 k (by omega)
      rw [e1, e2, t6432, t6432]
    · rw [if_neg (fun q => c2 (of_decide_eq_true q)), if_neg (fun q => c2 (of_decide_eq_true q))]
      exact ok_some (ok_some rfl)
  · rw [if_neg (fun q => c1 (of_decide_eq_true q)), if_neg (fun q => c1 (of_decide_eq_true q))]
    exact ok_some (ok_some rfl)
end
