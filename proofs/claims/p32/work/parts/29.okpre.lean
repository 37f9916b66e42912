/-! answers that are never none; small numbers -/
def Ok {α : Type} (o : Option α) (P : α → Prop) : Prop := ∃ r, o = some r ∧ P r
theorem ok_some {α : Type} {P : α → Prop} {r : α} (h : P r) : Ok (some r) P := ⟨r, rfl, h⟩
theorem ok_gd {α : Type} {P : α → Prop} {b : Bool} {A : Option α} (hb : b = true) (h : Ok A P) : Ok (if b = true then A else none) P := by
  rw [if_pos hb]; exact h
theorem ok_ite {α : Type} {P : α → Prop} {c : Prop} [Decidable c] {A B : Option α} (h1 : c → Ok A P) (h2 : ¬ c → Ok B P) : Ok (if c then A else B) P := by
  by_cases hc : c
  · rw [if_pos hc]; exact h1 hc
  · rw [if_neg hc]; exact h2 hc
theorem ok_bind {α β : Type} {Q : α → Prop} {P : β → Prop} {o : Option α} {f : α → Option β} (h : Ok o Q) (h2 : ∀ r, Q r → Ok (f r) P) : Ok (o.bind f) P := by
  obtain ⟨r, rfl, hr⟩ := h
  exact h2 r hr
theorem ok_imp {α : Type} {P Q : α → Prop} {o : Option α} (h : Ok o Q) (h2 : ∀ r, Q r → P r) : Ok o P := by
  obtain ⟨r, e, hr⟩ := h
  exact ⟨r, e, h2 r hr⟩
def I (k : Nat) : Int32 := Int32.ofNat k
def J (k : Nat) : Int64 := Int64.ofNat k
theorem I_add (a b : Nat) : I a + I b = I (a + b) := (Int32.ofNat_add a b).symm
theorem I_mul (a b : Nat) : I a * I b = I (a * b) := (Int32.ofNat_mul a b).symm
theorem I_suc (a : Nat) : I a + 1 = I (a + 1) := I_add a 1
theorem i_0 : (0 : Int32) = I 0 := rfl
theorem i_1 : (1 : Int32) = I 1 := rfl
theorem i_2 : (2 : Int32) = I 2 := rfl
theorem i_3 : (3 : Int32) = I 3 := rfl
theorem i_4 : (4 : Int32) = I 4 := rfl
theorem i_5 : (5 : Int32) = I 5 := rfl
theorem i_6 : (6 : Int32) = I 6 := rfl
theorem i_7 : (7 : Int32) = I 7 := rfl
theorem i_8 : (8 : Int32) = I 8 := rfl
theorem i_9 : (9 : Int32) = I 9 := rfl
theorem i_10 : (10 : Int32) = I 10 := rfl
theorem i_11 : (11 : Int32) = I 11 := rfl
theorem i_12 : (12 : Int32) = I 12 := rfl
theorem i_13 : (13 : Int32) = I 13 := rfl
theorem i_24 : (24 : Int32) = I 24 := rfl
theorem i_47 : (47 : Int32) = I 47 := rfl
theorem i_48 : (48 : Int32) = I 48 := rfl
theorem i_60 : (60 : Int32) = I 60 := rfl
theorem i_61 : (61 : Int32) = I 61 := rfl
theorem i_62 : (62 : Int32) = I 62 := rfl
theorem i_63 : (63 : Int32) = I 63 := rfl
theorem i_64 : (64 : Int32) = I 64 := rfl
theorem i_65 : (65 : Int32) = I 65 := rfl
theorem i_70 : (70 : Int32) = I 70 := rfl
theorem i_130 : (130 : Int32) = I 130 := rfl
theorem i_218 : (218 : Int32) = I 218 := rfl
theorem I_toInt {k : Nat} (h : k < 2147483648) : (I k).toInt = k := by
  unfold I
  rw [Int32.toInt_ofNat', show Int32.size = 4294967296 from rfl]
  exact Int.bmod_eq_of_le (by omega) (by omega)
theorem I_tn {k : Nat} (h : k < 2147483648) : (I k).toNatClampNeg = k := by
  rw [nat_of, I_toInt h]; rfl
theorem J_toInt {k : Nat} (h : k < 2147483648) : (J k).toInt = k := by
  unfold J
  rw [Int64.toInt_ofNat', show Int64.size = 18446744073709551616 from rfl]
  exact Int.bmod_eq_of_le (by omega) (by omega)
theorem inR_I {k n : Nat} (h : k < n) (h2 : n < 2147483648) : inR (I k) n = true := inR_t (by rw [I_toInt (by omega)]; omega) (by rw [I_toInt (by omega)]; omega)
theorem I_of {v : Int32} (h : 0 ≤ v.toInt) : v = I v.toInt.toNat := by
  apply Int32.toInt_inj.mp
  have := v.toInt_lt
  rw [I_toInt (by omega)]
  omega
theorem I_ex {v : Int32} {n : Nat} (h : 0 ≤ v.toInt) (h2 : v.toInt ≤ n) : ∃ k, k ≤ n ∧ v = I k := ⟨v.toInt.toNat, by omega, I_of h⟩
theorem I_le {a b : Nat} (ha : a < 2147483648) (hb : b < 2147483648) : (I a ≤ I b) ↔ (a ≤ b) := by
  rw [Int32.le_iff_toInt_le, I_toInt ha, I_toInt hb]; omega
theorem I_lt {a b : Nat} (ha : a < 2147483648) (hb : b < 2147483648) : (I a < I b) ↔ (a < b) := by
  rw [Int32.lt_iff_toInt_lt, I_toInt ha, I_toInt hb]; omega
theorem I_nle {a b : Nat} (hb : b < 2147483648) (ha : a ≤ b) (h : ¬ I b ≤ I a) : a < b := by
  rw [I_le hb (by omega)] at h; omega
theorem n32 {x : Int64} (h : -2147483648 ≤ x.toInt) (h2 : x.toInt < 2147483648) : x.toInt32.toInt = x.toInt := by
  rw [Int64.toInt_toInt32]
  exact Int.bmod_eq_of_le (by omega) (by omega)
theorem I64 {k : Nat} (h : k < 2147483648) : (I k).toInt64.toInt = k := by
  rw [Int32.toInt_toInt64, I_toInt h]
theorem lgn {x y : Int64} (h : ¬ (0 : Int32) ≤ lg_cmp x y) : x.toInt < y.toInt := by
  apply Int.not_le.mp
  intro hh
  apply h
  rcases Int.lt_or_eq_of_le hh with h1 | h1
  · have : (0 : Int32) < lg_cmp x y := (lg_cmp_gt x y).mpr (Int64.lt_iff_toInt_lt.mpr h1)
    rw [Int32.lt_iff_toInt_lt] at this; rw [Int32.le_iff_toInt_le]; omega
  · have e : y = x := Int64.toInt_inj.mp h1
    subst e
    have : ¬ (lg_cmp y y < 0) := fun q => by
      have := (lg_cmp_lt y y).mp q
      rw [Int64.lt_iff_toInt_lt] at this; omega
    rw [Int32.lt_iff_toInt_lt] at this; rw [Int32.le_iff_toInt_le]; omega
theorem lgk {k : Nat} {x : Int64} (hk : k < 2147483648) (h : ¬ (0 : Int32) ≤ lg_cmp (I k).toInt64 x) : (k : Int) < x.toInt := by
  have := lgn h
  rwa [I64 hk] at this
theorem rem12 {k : Nat} {n : Nat} (h : k < 64) (hn : 12 ≤ n) (h2 : n < 2147483648) : inR (I k - I k / 12 * 12) n = true := by
  have : ∀ k, k < 64 → I k - I k / 12 * 12 = I (k % 12) := by decide +kernel
  rw [this k h]
  exact inR_I (by omega) h2
