/-! bits of hours, of sets -/
def tb (x : Int64) (k : Nat) : Bool := x.toBitVec.getLsbD k
theorem tb_ext {x y : Int64} (h : ∀ k, k < 64 → tb x k = tb y k) : x = y := Int64.toBitVec_inj.mp (BitVec.eq_of_getLsbD_eq (fun i hi => h i hi))
theorem tb_or (x y : Int64) (k : Nat) : tb (x ||| y) k = (tb x k || tb y k) := by unfold tb; rw [Int64.toBitVec_or, BitVec.getLsbD_or]
theorem tb_and (x y : Int64) (k : Nat) : tb (x &&& y) k = (tb x k && tb y k) := by unfold tb; rw [Int64.toBitVec_and, BitVec.getLsbD_and]
theorem tb_m1 : ∀ k, k < 64 → tb (-1) k = true := by decide +kernel
theorem tb_not (x : Int64) {k : Nat} (hk : k < 64) : tb (x ^^^ -1) k = !tb x k := by
  have h : tb (x ^^^ -1) k = (tb x k ^^ tb (-1) k) := by unfold tb; rw [Int64.toBitVec_xor, BitVec.getLsbD_xor]
  rw [h, tb_m1 k hk, Bool.xor_true]
theorem tb_0 (k : Nat) : tb 0 k = false := BitVec.getLsbD_zero
theorem tb_big {x : Int64} {k : Nat} (h : 64 ≤ k) : tb x k = false := BitVec.getLsbD_of_ge _ _ h
theorem tb_J (n : Nat) {k : Nat} (hk : k < 64) : tb (J n) k = n.testBit k := by
  show (BitVec.ofNat 64 n).getLsbD k = _
  rw [BitVec.getLsbD_ofNat]
  simp [hk]
theorem J_ex (x : Int64) : ∃ n, n < 2 ^ 64 ∧ x = J n := wb_of x
theorem and_0 {x y : Int64} : x &&& y = 0 ↔ ∀ k, k < 64 → tb x k = true → tb y k = true → False := by
  constructor
  · intro h k hk h1 h2
    have := congrArg (fun z => tb z k) h
    simp only [tb_and, tb_0, h1, h2] at this
    cases this
  · intro h
    refine tb_ext (fun k hk => ?_)
    rw [tb_and, tb_0]
    cases h1 : tb x k with
    | false => rfl
    | true =>
      cases h2 : tb y k with
      | false => rfl
      | true => exact absurd (h k hk h1 h2) id
theorem lg0 (x : Int64) : lg_cmp x 0 = 0 ↔ x = 0 := lg_cmp_eq x 0
theorem J_sub {x y : Nat} (h : y ≤ x) : J x - J y = J (x - y) := by
  have e : J x = J (x - y) + J y := by
    rw [← show J (x - y + y) = J (x - y) + J y from Int64.ofNat_add _ _, Nat.sub_add_cancel h]
  rw [e, Int64.add_sub_cancel]
/-- the hours from a up to b -/
def HH (a b : Nat) : Int64 := J (2 ^ b - 2 ^ a)
theorem tb_HH {a b : Nat} (h : a ≤ b) (hb : b < 64) (k : Nat) : tb (HH a b) k = decide (a ≤ k ∧ k < b) := by
  by_cases hk : k < 64
  · unfold HH
    rw [tb_J _ hk]
    have e : 2 ^ b - 2 ^ a = 2 ^ a * (2 ^ (b - a) - 1) := by
      rw [Nat.mul_sub, ← Nat.pow_add, Nat.mul_one, show a + (b - a) = b by omega]
    rw [e, Nat.testBit_two_pow_mul, Nat.testBit_two_pow_sub_one]
    by_cases h1 : a ≤ k
    · by_cases h2 : k < b
      · simp [h1, h2]; omega
      · simp [h1, h2]; omega
    · simp [h1]
  · rw [tb_big (by omega)]
    exact (decide_eq_false (by omega)).symm
theorem shl_J (n : Nat) {k : Nat} (hk : k < 64) : J n <<< ((I k).toInt64 &&& 63) = J (n * 2 ^ k) := wb_shl n hk
theorem shl_1 {k : Nat} (hk : k < 64) : (1 : Int64) <<< ((I k).toInt64 &&& 63) = J (2 ^ k) := by
  have := shl_J 1 hk
  rw [Nat.one_mul] at this
  exact this
section
variable {g : Nat → Nat → Nat → Int32} {w : Nat → Nat → Nat → Int64}
theorem hours7 {a b : Nat} (h : a ≤ b) (hb : b < 64) : s_X7_hours (I a) (I b) g w = HH a b := by
  unfold s_X7_hours HH
  rw [shl_1 hb, shl_1 (by omega), J_sub (Nat.pow_le_pow_right (by decide) h)]
theorem ahead6 {a : Nat} (h : a < 64) : s_X6_hoursAhead (I a) g w = HH 0 a := by
  unfold s_X6_hoursAhead HH
  rw [shl_1 h, show (1 : Int64) = J (2 ^ 0) from rfl, J_sub (Nat.pow_le_pow_right (by decide) (Nat.zero_le a))]
theorem hoursFrom6 {p h l : Nat} (el : g 4 p 3 = I l) (hl : h + l < 64) : s_X4_hoursFrom p (I h) g w = HH h (h + l) := by
  unfold s_X4_hoursFrom
  rw [el, ahead6 (by omega)]
  unfold HH
  rw [shl_J _ (by omega), Nat.sub_mul, ← Nat.pow_add, Nat.pow_zero, Nat.one_mul, Nat.add_comm l h]
theorem J_bit {n k : Nat} (hn : n < 2 ^ 64) (hk : k < 64) : J (n / 2 ^ k % 2) = if tb (J n) k = true then 1 else 0 := by
  rw [tb_J n hk, Nat.testBit_eq_decide_div_mod_eq]
  have := Nat.mod_lt (n / 2 ^ k) (show 2 > 0 by decide)
  by_cases h : n / 2 ^ k % 2 = 1
  · rw [h]; rfl
  · rw [show n / 2 ^ k % 2 = 0 by omega]; rfl
theorem jl_bit (x : Int64) {k : Nat} (hk : k < 64) : (jlush x (I k)) &&& 1 = if tb x k = true then 1 else 0 := by
  obtain ⟨n, hn, rfl⟩ := J_ex x
  rw [← J_bit hn hk]
  exact wb_bit hn hk
theorem jl_bit0 (x : Int64) {k : Nat} (hk : k < 64) : lg_cmp ((jlush x (I k)) &&& 1) 0 ≠ 0 ↔ tb x k = true := by
  rw [jl_bit x hk]
  cases tb x k <;> decide
theorem ss_l : ∀ n, n < 64 → (((I n).toInt64 &&& 63).toBitVec.smod 64).toNat = n := by decide +kernel
theorem sshr0 (x : Int64) {k : Nat} (hk : k < 64) : tb (x >>> ((I k).toInt64 &&& 63)) 0 = tb x k := by
  unfold tb
  rw [Int64.toBitVec_shiftRight]
  show (x.toBitVec.sshiftRight (((I k).toInt64 &&& 63).toBitVec.smod 64).toNat).getLsbD 0 = _
  rw [ss_l k hk, BitVec.getLsbD_sshiftRight]
  simp [hk]
theorem and1 (y : Int64) : y &&& 1 = if tb y 0 = true then 1 else 0 := by
  refine tb_ext (fun k hk => ?_)
  have h1 : ∀ k, k < 64 → tb 1 k = decide (k = 0) := by decide +kernel
  rw [tb_and, h1 k hk]
  by_cases e : k = 0
  · subst e
    cases tb y 0 <;> rfl
  · rw [decide_eq_false e, Bool.and_false]
    cases tb y 0
    · exact (tb_0 k).symm
    · rw [if_pos rfl, h1 k hk, decide_eq_false e]
theorem has7 (x : Int64) {k : Nat} (hk : k < 64) : s_X7_has x (I k) g w = tb x k := by
  unfold s_X7_has s_X7_has_15
  rw [and1, sshr0 x hk]
  cases tb x k <;> rfl
theorem bit1 {k : Nat} (hk : k < 64) (j : Nat) : tb (J (2 ^ k)) j = decide (k = j) := by
  by_cases hj : j < 64
  · rw [tb_J _ hj, Nat.testBit_two_pow]
  · rw [tb_big (by omega)]
    exact (decide_eq_false (by omega)).symm
/-! sets of tugs, of ships: small numbers -/
theorem jb_all : ∀ S, S < 64 → ∀ t, t < 8 → (((jush (I S) (I t)) &&& 1 = 0) = (S.testBit t = false)) := by
  have : ∀ S, S < 64 → ∀ t, t < 8 → (decide ((jush (I S) (I t)) &&& 1 = 0) = !S.testBit t) := by decide +kernel
  intro S hS t ht
  have := this S hS t ht
  by_cases h : (jush (I S) (I t)) &&& 1 = 0
  · rw [decide_eq_true h] at this
    have e : S.testBit t = false := by cases hh : S.testBit t <;> simp_all
    simp [h, e]
  · rw [decide_eq_false h] at this
    have e : S.testBit t = true := by cases hh : S.testBit t <;> simp_all
    simp [h, e]
theorem jb {S t : Nat} (hS : S < 64) (ht : t < 8) : (jush (I S) (I t)) &&& 1 = 0 ↔ S.testBit t = false := by rw [jb_all S hS t ht]
theorem sb_all : ∀ S, S < 64 → ∀ t, t < 8 → decide (((I S) >>> ((I t) &&& 31)) &&& 1 = 1) = S.testBit t := by decide +kernel
theorem sb {S t : Nat} (hS : S < 64) (ht : t < 8) : ((I S) >>> ((I t) &&& 31)) &&& 1 = 1 ↔ S.testBit t = true := by
  rw [← sb_all S hS t ht, decide_eq_true_eq]
theorem sb0_all : ∀ S, S < 64 → ∀ t, t < 8 → decide (((I S) >>> ((I t) &&& 31)) &&& 1 ≠ 0) = S.testBit t := by decide +kernel
theorem sb0 {S t : Nat} (hS : S < 64) (ht : t < 8) : ((I S) >>> ((I t) &&& 31)) &&& 1 ≠ 0 ↔ S.testBit t = true := by
  rw [← sb0_all S hS t ht, decide_eq_true_eq]
theorem isIn6 {S t : Nat} (hS : S < 64) (ht : t < 8) : s_X6_isIn (I t) (I S) g w = S.testBit t := by
  unfold s_X6_isIn s_X6_isIn_13
  by_cases h : (jush (I S) (I t)) &&& 1 = 0
  · rw [if_pos h, (jb hS ht).mp h]
  · rw [if_neg h]
    cases hh : S.testBit t with
    | true => rfl
    | false => exact absurd ((jb hS ht).mpr hh) h
theorem shl32 : ∀ t, t < 8 → (1 : Int32) <<< ((I t) &&& 31) = I (2 ^ t) := by decide +kernel
theorem or32 : ∀ a, a < 64 → ∀ b, b < 64 → (I a) ||| (I b) = I (a ||| b) := by decide +kernel
theorem sub32 : ∀ a, a < 64 → ∀ b, b < 64 → (decide ((I a) &&& ((I b) ^^^ -1) ≠ 0)) = decide (a &&& b ≠ a) := by decide +kernel
theorem clr32 : ∀ a, a < 64 → ∀ t, t < 8 → (I a) &&& ((I (2 ^ t)) ^^^ -1) = I (a - (a &&& 2 ^ t)) := by decide +kernel
/-- how many of a small set -/
def bc (S : Nat) : Nat := fb_ct (fun k => S.testBit k) 8
theorem bc6_all : ∀ S, S < 64 → s_J_Integer_bitCount (I S) (fun _ _ _ => 0) (fun _ _ _ => 0) = I (bc S) := by decide +kernel
theorem bc6 {S : Nat} (hS : S < 64) : s_J_Integer_bitCount (I S) g w = I (bc S) := bc6_all S hS
theorem b01 : ∀ S, S < 64 → ∀ t, t < 8 → ((I S) >>> ((I t) &&& 31)) &&& 1 = I (if S.testBit t = true then 1 else 0) := by decide +kernel
theorem bits7 {S : Nat} (hS : S < 64) : s_X7_bits (I S) g w = some (I (bc S)) := by
  have key : ∀ (n k : Nat), k ≤ 8 → 8 - k < n → s_X7_bits_R4 (I S) n (I (fb_ct (fun k => S.testBit k) k)) (I k) g w = some (I (bc S)) := by
    intro n
    induction n with
    | zero => intro k h1 hm; omega
    | succ n ih =>
      intro k h1 hm
      show s_X7_bits_4 (I S) (s_X7_bits_R4 (I S) n) (I (fb_ct (fun k => S.testBit k) k)) (I k) g w = _
      unfold s_X7_bits_4
      by_cases hk : k < 8
      · rw [if_neg (fun q => by have := (I_le (a := 8) (b := k) (by decide) (by omega)).mp q; omega), b01 S hS k hk, I_add, I_suc]
        exact ih (k + 1) (by omega) (by omega)
      · have e : k = 8 := by omega
        subst e
        rw [if_pos (show (8 : Int32) ≤ I 8 from by decide)]
        rfl
  exact key FU 0 (by decide) (by decide)
theorem bc_le (S : Nat) : bc S ≤ 8 := fb_ct_le _ 8
end
