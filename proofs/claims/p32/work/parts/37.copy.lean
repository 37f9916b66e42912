/-! a harbour copied into another, exactly -/
section
variable {g : Nat → Nat → Nat → Int32} {w : Nat → Nat → Nat → Int64}
theorem cp5 {i p : Nat} (hip : i ≠ p) : s_X5_copyFrom i p g w = ((fun F a j => if F = 5 ∧ a = i ∧ j < 8 then g 5 p j else g F a j), (fun F a j => if F = 5 ∧ a = i ∧ (j = 8 ∨ j = 9) then w 5 p j else w F a j)) := by
  unfold s_X5_copyFrom s_X5_come
  have hpi : ¬ p = i := fun h => hip h.symm
  refine Prod.ext ?_ ?_
  · funext F a j
    simp only [gI_at, hpi, false_and, and_false, if_false]
    by_cases h : F = 5 ∧ a = i
    · obtain ⟨rfl, rfl⟩ := h
      simp only [true_and]
      by_cases hj : j < 8
      · rw [if_pos hj]
        have : j = 0 ∨ j = 1 ∨ j = 2 ∨ j = 3 ∨ j = 4 ∨ j = 5 ∨ j = 6 ∨ j = 7 := by omega
        rcases this with rfl | rfl | rfl | rfl | rfl | rfl | rfl | rfl <;> rfl
      · rw [if_neg hj]
        (repeat rw [if_neg (by omega)])
    · rw [if_neg (fun q => h ⟨q.1, q.2.1⟩)]
      (repeat rw [if_neg (fun q => h ⟨q.1, q.2.1⟩)])
  · funext F a j
    simp only [wL_at, hpi, false_and, and_false, if_false]
    by_cases h : F = 5 ∧ a = i
    · obtain ⟨rfl, rfl⟩ := h
      simp only [true_and]
      by_cases hj : j = 8 ∨ j = 9
      · rw [if_pos hj]
        rcases hj with rfl | rfl <;> rfl
      · rw [if_neg hj]
        (repeat rw [if_neg (by omega)])
    · rw [if_neg (fun q => h ⟨q.1, q.2.1⟩)]
      (repeat rw [if_neg (fun q => h ⟨q.1, q.2.1⟩)])
theorem cp4 {i p : Nat} (hip : i ≠ p) : s_X4_copyFrom i p g w = ((fun F a j => if F = 4 ∧ a = i ∧ j < 9 then g 4 p j else g F a j), w) := by
  unfold s_X4_copyFrom s_X4_come s_X4_dropJob
  have hpi : ¬ p = i := fun h => hip h.symm
  refine Prod.ext ?_ rfl
  funext F a j
  simp only [gI_at, hpi, false_and, and_false, if_false]
  by_cases h : F = 4 ∧ a = i
  · obtain ⟨rfl, rfl⟩ := h
    simp only [true_and]
    by_cases hj : j < 9
    · rw [if_pos hj]
      have : j = 0 ∨ j = 1 ∨ j = 2 ∨ j = 3 ∨ j = 4 ∨ j = 5 ∨ j = 6 ∨ j = 7 ∨ j = 8 := by omega
      rcases this with rfl | rfl | rfl | rfl | rfl | rfl | rfl | rfl | rfl <;> rfl
    · rw [if_neg hj]
      (repeat rw [if_neg (by omega)])
  · rw [if_neg (fun q => h ⟨q.1, q.2.1⟩)]
    (repeat rw [if_neg (fun q => h ⟨q.1, q.2.1⟩)])
def cpg (nt ns nh : Nat) (i0 p1 : Nat) (g : Nat → Nat → Nat → Int32) : Nat → Nat → Nat → Int32 := fun F i j =>
  if F = 1012 ∧ i = td i0 ∧ j < 12 then g 1012 (td p1) j
  else if F = 1048 ∧ i = i0 ∧ j < 48 then g 1048 p1 j
  else if F = 5 ∧ (6 * i0 ≤ i ∧ i < 6 * i0 + nt) ∧ j < 8 then g 5 (6 * p1 + (i - 6 * i0)) j
  else if F = 4 ∧ (8 * i0 ≤ i ∧ i < 8 * i0 + ns) ∧ j < 9 then g 4 (8 * p1 + (i - 8 * i0)) j
  else if F = 1 ∧ i = i0 ∧ 5 ≤ j ∧ j < nh ∧ j ≠ 8 then g 1 p1 j
  else g F i j
def cpw (nt nh : Nat) (i0 p1 : Nat) (w : Nat → Nat → Nat → Int64) : Nat → Nat → Nat → Int64 := fun F i j =>
  if F = 5 ∧ (6 * i0 ≤ i ∧ i < 6 * i0 + nt) ∧ (j = 8 ∨ j = 9) then w 5 (6 * p1 + (i - 6 * i0)) j
  else if F = 1 ∧ i = i0 ∧ j = 8 ∧ 8 < nh then w 1 p1 8
  else w F i j
theorem cpg_t {i0 p1 k : Nat} (hip : i0 ≠ p1) (hk : k < 6) : (s_X5_copyFrom (6 * i0 + k) (6 * p1 + k) (cpg k 0 0 i0 p1 g) (cpw k 0 i0 p1 w)) = (cpg (k + 1) 0 0 i0 p1 g, cpw (k + 1) 0 i0 p1 w) := by
  rw [cp5 (by omega)]
  refine Prod.ext ?_ ?_
  · funext F a j
    show (if F = 5 ∧ a = 6 * i0 + k ∧ j < 8 then _ else _) = cpg (k + 1) 0 0 i0 p1 g F a j
    by_cases h : F = 5 ∧ a = 6 * i0 + k ∧ j < 8
    · rw [if_pos h]
      obtain ⟨rfl, rfl, hj⟩ := h
      unfold cpg
      rw [if_neg (by omega), if_neg (by omega), if_neg (by omega), if_neg (by omega), if_neg (by omega), if_neg (by omega), if_neg (by omega), if_pos (by omega)]
      congr 1; omega
    · rw [if_neg h]
      unfold cpg
      have : (F = 5 ∧ (6 * i0 ≤ a ∧ a < 6 * i0 + k) ∧ j < 8) ↔ (F = 5 ∧ (6 * i0 ≤ a ∧ a < 6 * i0 + (k + 1)) ∧ j < 8) := by omega
      simp only [this]
  · funext F a j
    show (if F = 5 ∧ a = 6 * i0 + k ∧ (j = 8 ∨ j = 9) then _ else _) = cpw (k + 1) 0 i0 p1 w F a j
    by_cases h : F = 5 ∧ a = 6 * i0 + k ∧ (j = 8 ∨ j = 9)
    · rw [if_pos h]
      obtain ⟨rfl, rfl, hj⟩ := h
      unfold cpw
      rw [if_neg (by omega), if_neg (by omega), if_pos (by omega)]
      congr 1; omega
    · rw [if_neg h]
      unfold cpw
      have : (F = 5 ∧ (6 * i0 ≤ a ∧ a < 6 * i0 + k) ∧ (j = 8 ∨ j = 9)) ↔ (F = 5 ∧ (6 * i0 ≤ a ∧ a < 6 * i0 + (k + 1)) ∧ (j = 8 ∨ j = 9)) := by omega
      simp only [this]
theorem cpg_s {i0 p1 k : Nat} (hip : i0 ≠ p1) (hk : k < 8) : (s_X4_copyFrom (8 * i0 + k) (8 * p1 + k) (cpg 6 k 0 i0 p1 g) (cpw 6 0 i0 p1 w)) = (cpg 6 (k + 1) 0 i0 p1 g, cpw 6 0 i0 p1 w) := by
  rw [cp4 (by omega)]
  refine Prod.ext ?_ rfl
  funext F a j
  show (if F = 4 ∧ a = 8 * i0 + k ∧ j < 9 then _ else _) = cpg 6 (k + 1) 0 i0 p1 g F a j
  by_cases h : F = 4 ∧ a = 8 * i0 + k ∧ j < 9
  · rw [if_pos h]
    obtain ⟨rfl, rfl, hj⟩ := h
    unfold cpg
    rw [if_neg (by omega), if_neg (by omega), if_neg (by omega), if_neg (by omega), if_neg (by omega), if_neg (by omega), if_neg (by omega), if_neg (by omega), if_pos (by omega)]
    congr 1; omega
  · rw [if_neg h]
    unfold cpg
    have : (F = 4 ∧ (8 * i0 ≤ a ∧ a < 8 * i0 + k) ∧ j < 9) ↔ (F = 4 ∧ (8 * i0 ≤ a ∧ a < 8 * i0 + (k + 1)) ∧ j < 9) := by omega
    simp only [this]
theorem cp_R61 {i0 p1 : Nat} (hip : i0 ≠ p1) : ∀ (n k : Nat), k ≤ 8 → 9 - k < n → s_X1_copyFrom_R61 i0 p1 n (I k) (cpg 6 k 0 i0 p1 g) (cpw 6 0 i0 p1 w) = some (cpg 6 8 15 i0 p1 g, cpw 6 15 i0 p1 w) := by
  intro n
  induction n with
  | zero => intro k h1 hm; omega
  | succ n ih =>
    intro k h1 hm
    show s_X1_copyFrom_61 i0 p1 (s_X1_copyFrom_R61 i0 p1 n) (I k) (cpg 6 k 0 i0 p1 g) (cpw 6 0 i0 p1 w) = _
    unfold s_X1_copyFrom_61
    by_cases hk : k < 8
    · have e : I k = I k := rfl
      rw [if_neg (fun q => by have := (I_le (a := 8) (b := k) (by decide) (by omega)).mp q; omega), if_pos (inR_I hk (by decide)), if_pos (inR_I hk (by decide)), I_tn (by omega), cpg_s hip hk, I_suc]
      exact ih (k + 1) (by omega) (by omega)
    · have e : k = 8 := by omega
      subst e
      rw [if_pos (show (8 : Int32) ≤ I 8 from by decide)]
      refine congrArg some (Prod.ext ?_ ?_)
      · funext F a j
        have hpi : ¬ p1 = i0 := fun h => hip h.symm
        simp only [gI_at, hpi, false_and, and_false, if_false]
        by_cases h : F = 1 ∧ a = i0
        · obtain ⟨rfl, rfl⟩ := h
          simp only [true_and]
          by_cases hj : 5 ≤ j ∧ j < 15 ∧ j ≠ 8
          · have : j = 5 ∨ j = 6 ∨ j = 7 ∨ j = 9 ∨ j = 10 ∨ j = 11 ∨ j = 12 ∨ j = 13 ∨ j = 14 := by omega
            unfold cpg
            rcases this with rfl | rfl | rfl | rfl | rfl | rfl | rfl | rfl | rfl <;> simp
          · (repeat rw [if_neg (by omega)])
            unfold cpg
            have h1 : ¬ (5 ≤ j ∧ j < 0 ∧ j ≠ 8) := by omega
            simp only [true_and, h1, hj, if_false]
        · (repeat rw [if_neg (fun q => h ⟨q.1, q.2.1⟩)])
          unfold cpg
          have h1 : ¬ (F = 1 ∧ a = i0 ∧ 5 ≤ j ∧ j < 0 ∧ j ≠ 8) := fun q => h ⟨q.1, q.2.1⟩
          have h2 : ¬ (F = 1 ∧ a = i0 ∧ 5 ≤ j ∧ j < 15 ∧ j ≠ 8) := fun q => h ⟨q.1, q.2.1⟩
          simp only [h1, h2, if_false]
      · funext F a j
        simp only [wL_at]
        unfold cpw
        by_cases h : F = 1 ∧ a = i0 ∧ j = 8
        · rw [if_pos h, if_neg (by omega), if_neg (by omega), if_neg (by omega), if_pos (by omega)]
        · rw [if_neg h]
          have h1 : ¬ (F = 1 ∧ a = i0 ∧ j = 8 ∧ 8 < 0) := by omega
          have h2 : ¬ (F = 1 ∧ a = i0 ∧ j = 8 ∧ 8 < 15) := by omega
          simp only [h1, h2, if_false]
theorem cp_R32 {i0 p1 : Nat} (hip : i0 ≠ p1) : ∀ (n k : Nat), k ≤ 6 → 9 - k < n → s_X1_copyFrom_R32 i0 p1 n (I k) (cpg k 0 0 i0 p1 g) (cpw k 0 i0 p1 w) = some (cpg 6 8 15 i0 p1 g, cpw 6 15 i0 p1 w) := by
  intro n
  induction n with
  | zero => intro k h1 hm; omega
  | succ n ih =>
    intro k h1 hm
    show s_X1_copyFrom_32 i0 p1 (s_X1_copyFrom_R32 i0 p1 n) (I k) (cpg k 0 0 i0 p1 g) (cpw k 0 i0 p1 w) = _
    unfold s_X1_copyFrom_32
    by_cases hk : k < 6
    · rw [if_neg (fun q => by have := (I_le (a := 6) (b := k) (by decide) (by omega)).mp q; omega), if_pos (inR_I hk (by decide)), if_pos (inR_I hk (by decide)), I_tn (by omega), cpg_t hip hk, I_suc]
      exact ih (k + 1) (by omega) (by omega)
    · have e : k = 6 := by omega
      subst e
      rw [if_pos (show (6 : Int32) ≤ I 6 from by decide)]
      exact cp_R61 hip FU 0 (by decide) (by decide)
theorem td_ne {a b : Nat} (h : a ≠ b) : td a ≠ td b := by unfold td; (repeat' split) <;> omega
theorem copyFrom_e {i0 p1 : Nat} (hip : i0 ≠ p1) : s_X1_copyFrom i0 p1 g w = some (cpg 6 8 15 i0 p1 g, cpw 6 15 i0 p1 w) := by
  unfold s_X1_copyFrom
  refine Eq.trans ?_ (cp_R32 hip FU 0 (by decide) (by decide))
  refine congr (congrArg (s_X1_copyFrom_R32 i0 p1 FU (0 : Int32)) ?_) ?_
  · funext F a j
    have ht := td_ne hip
    have e0 : (0 : Int32).toNatClampNeg = 0 := rfl
    have e12 : (12 : Int32).toNatClampNeg = 12 := rfl
    have e48 : (48 : Int32).toNatClampNeg = 48 := rfl
    rw [e0, e12, e48]
    unfold cpg gRow va_cpy
    have hpi : ¬ p1 = i0 := fun h => hip h.symm
    have hF : ¬ (1048 = 1012) := by decide
    by_cases h1 : F = 1048 ∧ a = i0
    · obtain ⟨rfl, rfl⟩ := h1
      simp only [true_and, hpi, hF, false_and, if_false, if_true]
      by_cases hj : j < 48
      · simp [hj]
      · simp [hj]
    · have h1' : ¬ (F = 1048 ∧ a = i0 ∧ j < 48) := fun q => h1 ⟨q.1, q.2.1⟩
      by_cases h2 : F = 1012 ∧ a = td i0
      · obtain ⟨rfl, rfl⟩ := h2
        by_cases hj : j < 12
        · simp [hj, h1]
        · simp [hj, h1]
      · have h2' : ¬ (F = 1012 ∧ a = td i0 ∧ j < 12) := fun q => h2 ⟨q.1, q.2.1⟩
        rw [if_neg h1, if_neg h2, if_neg h2', if_neg h1', if_neg (by omega), if_neg (by omega), if_neg (by omega)]
  · funext F a j
    unfold cpw
    rw [if_neg (by omega), if_neg (by omega)]
end
