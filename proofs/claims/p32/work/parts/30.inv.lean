/-! what holds of the reference's cells in every state -/
def kd (k : Nat) : Nat :=
  if k = 60 then 1 else if k = 62 then 2 else if k = 64 then 3 else if k = 65 then 4 else
  if 70 ≤ k ∧ k < 130 then (if (k - 70) % 10 = 5 then 5 else if (k - 70) % 10 = 6 then 6 else 0) else
  if 130 ≤ k then (if (k - 130) % 11 = 3 then 7 else if (k - 130) % 11 = 5 then 6 else if (k - 130) % 11 = 6 then 6 else if (k - 130) % 11 = 7 then 8 else 0) else 0
def klo (d : Nat) : Int := if d = 2 then 1 else if d = 8 then -4 else if d = 0 then -9223372036854775808 else 0
def khi (d : Nat) : Int := if d = 1 then 6 else if d = 2 then 30 else if d = 3 then 6 else if d = 4 then 8 else if d = 5 then 12 else if d = 6 then 5 else if d = 7 then 4 else if d = 8 then 47 else 9223372036854775807
def rgk (k : Nat) (x : Int64) : Prop := klo (kd k) ≤ x.toInt ∧ x.toInt ≤ khi (kd k)
def BK (c : Nat → Int64) : Prop := ∀ k, rgk k (c k)
theorem rgk_free {k : Nat} {x : Int64} (h : kd k = 0) : rgk k x := by
  have h1 := x.le_toInt
  have h2 := x.toInt_lt
  unfold rgk
  rw [h]
  exact ⟨h1, by have : khi 0 = 9223372036854775807 := rfl; omega⟩
theorem kd_sh {s j : Nat} (hj : j < 11) : kd (130 + 11 * s + j) = (if j = 3 then 7 else if j = 5 then 6 else if j = 6 then 6 else if j = 7 then 8 else 0) := by
  unfold kd
  have e : (130 + 11 * s + j - 130) % 11 = j := by omega
  rw [if_neg (by omega), if_neg (by omega), if_neg (by omega), if_neg (by omega), if_neg (by omega), if_pos (by omega), e]
theorem kd_tu {t j : Nat} (ht : t < 6) (hj : j < 10) : kd (70 + 10 * t + j) = (if j = 5 then 5 else if j = 6 then 6 else 0) := by
  unfold kd
  have e : (70 + 10 * t + j - 70) % 10 = j := by omega
  rw [if_neg (by omega), if_neg (by omega), if_neg (by omega), if_neg (by omega), if_pos (by omega), e]
theorem kd_size {s : Nat} : kd (130 + 11 * s + 0) = 0 := (kd_sh (by decide)).trans rfl
theorem kd_draft {s : Nat} : kd (130 + 11 * s + 1) = 0 := (kd_sh (by decide)).trans rfl
theorem kd_ready {s : Nat} : kd (130 + 11 * s + 2) = 0 := (kd_sh (by decide)).trans rfl
theorem kd_length {s : Nat} : kd (130 + 11 * s + 3) = 7 := (kd_sh (by decide)).trans rfl
theorem kd_weight {s : Nat} : kd (130 + 11 * s + 4) = 0 := (kd_sh (by decide)).trans rfl
theorem kd_from {s : Nat} : kd (130 + 11 * s + 5) = 6 := (kd_sh (by decide)).trans rfl
theorem kd_to {s : Nat} : kd (130 + 11 * s + 6) = 6 := (kd_sh (by decide)).trans rfl
theorem kd_hour {s : Nat} : kd (130 + 11 * s + 7) = 8 := (kd_sh (by decide)).trans rfl
theorem kd_set {s : Nat} : kd (130 + 11 * s + 8) = 0 := (kd_sh (by decide)).trans rfl
theorem kd_crew {t : Nat} (h : t < 6) : kd (70 + 10 * t + 5) = 5 := (kd_tu h (by decide)).trans rfl
theorem kd_home {t : Nat} (h : t < 6) : kd (70 + 10 * t + 6) = 6 := (kd_tu h (by decide)).trans rfl
theorem kd_tug {t j : Nat} (h : t < 6) (hj : j < 10) (h5 : j ≠ 5) (h6 : j ≠ 6) : kd (70 + 10 * t + j) = 0 := by rw [kd_tu h hj, if_neg h5, if_neg h6]
def InvR (g : Nat → Nat → Nat → Int32) (w : Nat → Nat → Nat → Int64) : Prop :=
  BK (w 2218 0) ∧ (0 ≤ (g 7 0 2).toInt ∧ (g 7 0 2).toInt ≤ 3) ∧ (∀ i : Nat, (i : Int) < (g 7 0 2).toInt → ∀ k, k < 218 → rgk k (w 2654 0 (218 * i + k)))
  ∧ (0 ≤ (g 7 0 10).toInt ∧ (g 7 0 10).toInt ≤ 47) ∧ (∀ s, s < 8 → rgk (130 + 11 * s + 7) (w 2022 0 (6 + 2 * s))) ∧ (0 ≤ (g 7 0 5).toInt ∧ (g 7 0 5).toInt ≤ 12)
theorem rg_ex {k d n : Nat} {x : Int64} (h : rgk k x) (hk : kd k = d) (hl : klo d = 0) (hh : khi d = n) (hn : n < 2147483648) : ∃ a : Nat, a ≤ n ∧ x.toInt = a ∧ x.toInt32 = I a := by
  unfold rgk at h
  rw [hk, hl, hh] at h
  refine ⟨x.toInt.toNat, by omega, by omega, ?_⟩
  have e := n32 (x := x) (by omega) (by omega)
  rw [I_of (v := x.toInt32) (by omega), e]
section
variable {g : Nat → Nat → Nat → Int32} {w : Nat → Nat → Nat → Int64}
theorem bk_tugn (h : BK (w 2218 0)) : ∃ a : Nat, a ≤ 6 ∧ (w 2218 0 64).toInt = a ∧ (w 2218 0 64).toInt32 = I a := rg_ex (h 64) rfl rfl rfl (by decide)
theorem bk_shipn (h : BK (w 2218 0)) : ∃ a : Nat, a ≤ 8 ∧ (w 2218 0 65).toInt = a ∧ (w 2218 0 65).toInt32 = I a := rg_ex (h 65) rfl rfl rfl (by decide)
theorem bk_rest (h : BK (w 2218 0)) : ∃ a : Nat, a ≤ 6 ∧ (w 2218 0 60).toInt = a ∧ (w 2218 0 60).toInt32 = I a := rg_ex (h 60) rfl rfl rfl (by decide)
theorem bk_speed (h : BK (w 2218 0)) : nzI (w 2218 0 62).toInt32 = true := by
  have := h 62
  unfold rgk at this
  rw [show klo (kd 62) = 1 from rfl, show khi (kd 62) = 30 from rfl] at this
  refine decide_eq_true ?_
  intro q
  have e := n32 (x := w 2218 0 62) (by omega) (by omega)
  rw [q, show (0 : Int32).toInt = 0 from rfl] at e
  omega
theorem tug_lt (h : BK (w 2218 0)) {k : Nat} (hk : k < 2147483648) (hc : ¬ (0 : Int32) ≤ lg_cmp (I k).toInt64 (w 2218 0 (64 : Int32).toNatClampNeg)) : k < 6 := by
  obtain ⟨a, ha, e, _⟩ := bk_tugn h
  have := lgk hk hc
  rw [show (64 : Int32).toNatClampNeg = 64 from rfl, e] at this
  omega
theorem ship_lt (h : BK (w 2218 0)) {k : Nat} (hk : k < 2147483648) (hc : ¬ (0 : Int32) ≤ lg_cmp (I k).toInt64 (w 2218 0 (65 : Int32).toNatClampNeg)) : k < 8 := by
  obtain ⟨a, ha, e, _⟩ := bk_shipn h
  have := lgk hk hc
  rw [show (65 : Int32).toNatClampNeg = 65 from rfl, e] at this
  omega
theorem ix_tug {t j : Nat} : ((70 : Int32) + (10 : Int32) * I t) + I j = I (70 + 10 * t + j) := by
  rw [i_70, i_10, I_mul, I_add, I_add]
theorem ix_ship {s j : Nat} : ((130 : Int32) + (11 : Int32) * I s) + I j = I (130 + 11 * s + j) := by
  rw [i_130, i_11, I_mul, I_add, I_add]
theorem ofTug_e {t j : Nat} (ht : t < 6) (hj : j < 10) : s_X7_ofTug 0 (I t) (I j) g w = some (w 2218 0 (70 + 10 * t + j)).toInt32 := by
  unfold s_X7_ofTug
  rw [ix_tug, if_pos (inR_I (by omega) (by omega)), I_tn (by omega)]
theorem ofShip_e {s j : Nat} (hs : s < 8) (hj : j < 11) : s_X7_ofShip 0 (I s) (I j) g w = some (w 2218 0 (130 + 11 * s + j)).toInt32 := by
  unfold s_X7_ofShip
  rw [ix_ship, if_pos (inR_I (by omega) (by omega)), I_tn (by omega)]
theorem workOf_e {t : Nat} (ht : t < 6) : s_X7_workOf 0 (I t) g w = some (w 2218 0 (70 + 10 * t + 8)) := by
  unfold s_X7_workOf
  rw [i_8, ix_tug, if_pos (inR_I (by omega) (by omega)), I_tn (by omega)]
theorem bunkersOf_e {t : Nat} (ht : t < 6) : s_X7_bunkersOf 0 (I t) g w = some (w 2218 0 (70 + 10 * t + 9)) := by
  unfold s_X7_bunkersOf
  rw [i_9, ix_tug, if_pos (inR_I (by omega) (by omega)), I_tn (by omega)]
end
