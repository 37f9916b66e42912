/-! Long.bitCount tells how many bits there are -/
def bm (f : Nat → Nat) : Nat → Nat → Nat
  | 0, _ => 0
  | k + 1, n => f (n % 256) + 256 * bm f k (n / 256)
def bys (f : Nat → Nat) : Nat → Nat → Nat
  | 0, _ => 0
  | k + 1, n => f (n % 256) + bys f k (n / 256)
def rp (m : Nat) : Nat → Nat
  | 0 => 0
  | k + 1 => m + 256 * rp m k
theorem and_by {a b c d : Nat} (ha : a < 256) (hc : c < 256) : (a + 256 * b) &&& (c + 256 * d) = (a &&& c) + 256 * (b &&& d) := by
  have h1 : a &&& c < 2 ^ 8 := Nat.and_lt_two_pow _ hc
  refine Nat.eq_of_testBit_eq (fun i => ?_)
  rw [Nat.testBit_and, Nat.add_comm a, Nat.add_comm c, Nat.add_comm (a &&& c), show 256 = 2 ^ 8 from rfl, Nat.testBit_two_pow_mul_add _ (show a < 2 ^ 8 from ha), Nat.testBit_two_pow_mul_add _ (show c < 2 ^ 8 from hc), Nat.testBit_two_pow_mul_add _ h1]
  by_cases h : i < 8
  · rw [if_pos h, if_pos h, if_pos h, Nat.testBit_and]
  · rw [if_neg h, if_neg h, if_neg h, Nat.testBit_and]
theorem bm_cong {f h : Nat → Nat} (e : ∀ B, B < 256 → f B = h B) : ∀ k n, bm f k n = bm h k n
  | 0, _ => rfl
  | k + 1, n => by
    show f (n % 256) + 256 * bm f k (n / 256) = h (n % 256) + 256 * bm h k (n / 256)
    rw [e _ (Nat.mod_lt _ (by decide)), bm_cong e k]
theorem bm_add (f h : Nat → Nat) : ∀ k n, bm f k n + bm h k n = bm (fun B => f B + h B) k n
  | 0, _ => rfl
  | k + 1, n => by
    show f (n % 256) + 256 * bm f k (n / 256) + (h (n % 256) + 256 * bm h k (n / 256)) = f (n % 256) + h (n % 256) + 256 * bm (fun B => f B + h B) k (n / 256)
    rw [← bm_add f h k]
    omega
theorem bm_id : ∀ k n, n < 256 ^ k → bm (fun B => B) k n = n
  | 0, n, h => by
    have : n = 0 := by rw [Nat.pow_zero] at h; omega
    subst this; rfl
  | k + 1, n, h => by
    show n % 256 + 256 * bm (fun B => B) k (n / 256) = n
    rw [bm_id k (n / 256) (by rw [Nat.pow_succ] at h; omega)]
    omega
theorem bm_bm {f h : Nat → Nat} (hf : ∀ B, B < 256 → f B < 256) : ∀ k n, bm h k (bm f k n) = bm (fun B => h (f B)) k n
  | 0, _ => rfl
  | k + 1, n => by
    have := hf (n % 256) (Nat.mod_lt _ (by decide))
    show h ((f (n % 256) + 256 * bm f k (n / 256)) % 256) + 256 * bm h k ((f (n % 256) + 256 * bm f k (n / 256)) / 256) = h (f (n % 256)) + 256 * bm (fun B => h (f B)) k (n / 256)
    rw [show (f (n % 256) + 256 * bm f k (n / 256)) % 256 = f (n % 256) by omega, show (f (n % 256) + 256 * bm f k (n / 256)) / 256 = bm f k (n / 256) by omega, bm_bm hf k]
theorem bm_lt {f : Nat → Nat} (hf : ∀ B, B < 256 → f B < 256) : ∀ k n, bm f k n < 256 ^ k
  | 0, _ => by show 0 < 1; decide
  | k + 1, n => by
    have h1 := hf (n % 256) (Nat.mod_lt _ (by decide))
    have h2 := bm_lt hf k (n / 256)
    show f (n % 256) + 256 * bm f k (n / 256) < 256 ^ (k + 1)
    rw [Nat.pow_succ]; omega
theorem bm_and {m : Nat} (hm : m < 256) : ∀ k n, n &&& rp m k = bm (fun B => B &&& m) k n
  | 0, n => Nat.and_zero n
  | k + 1, n => by
    have e : n &&& rp m (k + 1) = (n % 256 + 256 * (n / 256)) &&& (m + 256 * rp m k) := by
      rw [Nat.mod_add_div]; rfl
    rw [e, and_by (Nat.mod_lt _ (by decide)) hm, bm_and hm k]
    rfl
theorem bm_and2 : ∀ k n, n / 2 &&& rp 85 k = bm (fun B => B / 2 &&& 85) k n
  | 0, n => Nat.and_zero _
  | k + 1, n => by
    have e : n / 2 &&& rp 85 (k + 1) = (n % 256 / 2 + 128 * (n / 256 % 2) + 256 * (n / 256 / 2)) &&& (85 + 256 * rp 85 k) := by
      rw [show n / 2 = n % 256 / 2 + 128 * (n / 256 % 2) + 256 * (n / 256 / 2) by omega]; rfl
    have d : ∀ B, B < 256 → ∀ r, r < 2 → (B / 2 + 128 * r) &&& 85 = B / 2 &&& 85 := by decide +kernel
    rw [e, and_by (by omega) (by decide), bm_and2 k, d _ (Nat.mod_lt _ (by decide)) _ (Nat.mod_lt _ (by decide))]
    rfl
theorem bm_and4 : ∀ k n, n / 4 &&& rp 51 k = bm (fun B => B / 4 &&& 51) k n
  | 0, n => Nat.and_zero _
  | k + 1, n => by
    have e : n / 4 &&& rp 51 (k + 1) = (n % 256 / 4 + 64 * (n / 256 % 4) + 256 * (n / 256 / 4)) &&& (51 + 256 * rp 51 k) := by
      rw [show n / 4 = n % 256 / 4 + 64 * (n / 256 % 4) + 256 * (n / 256 / 4) by omega]; rfl
    have d : ∀ B, B < 256 → ∀ r, r < 4 → (B / 4 + 64 * r) &&& 51 = B / 4 &&& 51 := by decide +kernel
    rw [e, and_by (by omega) (by decide), bm_and4 k, d _ (Nat.mod_lt _ (by decide)) _ (Nat.mod_lt _ (by decide))]
    rfl
theorem bm_and16 {f : Nat → Nat} (hf : ∀ B, B < 256 → f B ≤ 68 ∧ f B % 16 ≤ 4) : ∀ k n, (bm f k n + bm f k n / 16) &&& rp 15 k = bm (fun B => (f B + f B / 16) &&& 15) k n
  | 0, n => Nat.and_zero _
  | k + 1, n => by
    have h1 := hf (n % 256) (Nat.mod_lt _ (by decide))
    have h2 : bm f k (n / 256) % 16 ≤ 4 := by
      cases k with
      | zero => exact Nat.zero_le 4
      | succ k =>
        have := hf (n / 256 % 256) (Nat.mod_lt _ (by decide))
        show (f (n / 256 % 256) + 256 * bm f k (n / 256 / 256)) % 16 ≤ 4
        omega
    have e : (bm f (k + 1) n + bm f (k + 1) n / 16) &&& rp 15 (k + 1) = (f (n % 256) + f (n % 256) / 16 + 16 * (bm f k (n / 256) % 16) + 256 * (bm f k (n / 256) + bm f k (n / 256) / 16)) &&& (15 + 256 * rp 15 k) := by
      show ((f (n % 256) + 256 * bm f k (n / 256)) + (f (n % 256) + 256 * bm f k (n / 256)) / 16) &&& _ = _
      rw [show (f (n % 256) + 256 * bm f k (n / 256)) + (f (n % 256) + 256 * bm f k (n / 256)) / 16 = f (n % 256) + f (n % 256) / 16 + 16 * (bm f k (n / 256) % 16) + 256 * (bm f k (n / 256) + bm f k (n / 256) / 16) by omega]
      rfl
    rw [e, and_by (by omega) (by decide), bm_and16 hf k, Nat.and_two_pow_sub_one_eq_mod _ 4]
    show _ = ((f (n % 256) + f (n % 256) / 16) &&& 15) + 256 * _
    rw [Nat.and_two_pow_sub_one_eq_mod _ 4]
    omega
def q1 (B : Nat) : Nat := B - (B / 2 &&& 85)
def q2 (B : Nat) : Nat := (q1 B &&& 51) + (q1 B / 4 &&& 51)
theorem q_all : ∀ B, B < 256 → q1 B + (B / 2 &&& 85) = B ∧ q1 B < 256 ∧ q2 B ≤ 68 ∧ q2 B % 16 ≤ 4 ∧ (q2 B + q2 B / 16) &&& 15 = bc B ∧ bc B ≤ 8 := by decide +kernel
theorem ct_bs : ∀ k n, fb_ct (fun i => n.testBit i) (8 * k) = bys bc k n
  | 0, _ => rfl
  | k + 1, n => by
    rw [show 8 * (k + 1) = 8 + 8 * k by omega, fb_ct_split]
    have e1 : fb_ct (fun i => n.testBit i) 8 = bc (n % 256) := fb_ct_cong (fun i hi => by
      rw [show n % 256 = n % 2 ^ 8 from rfl, Nat.testBit_mod_two_pow, decide_eq_true hi, Bool.true_and])
    have e2 : fb_ct (fun i => n.testBit (8 + i)) (8 * k) = fb_ct (fun i => (n / 256).testBit i) (8 * k) := fb_ct_cong (fun i hi => by
      rw [show n / 256 = n / 2 ^ 8 from rfl, Nat.testBit_div_two_pow, Nat.add_comm])
    rw [e1, e2, ct_bs k]
    rfl
theorem J_add (a b : Nat) : J a + J b = J (a + b) := (Int64.ofNat_add a b).symm
theorem J_and {a b : Nat} (ha : a < 2 ^ 64) (hb : b < 2 ^ 64) : J a &&& J b = J (a &&& b) := wb_and ha hb
theorem jl_J {n k : Nat} (hn : n < 2 ^ 64) (hk : k < 64) : jlush (J n) (I k) = J (n / 2 ^ k) := wb_shr hn hk
theorem J_I (n : Nat) : (J n).toInt32 = I n := by
  apply Int32.toInt_inj.mp
  unfold I J
  rw [Int64.toInt_toInt32, Int64.toInt_ofNat', Int32.toInt_ofNat', show Int32.size = 4294967296 from rfl, show Int64.size = 18446744073709551616 from rfl]
  exact Int.bmod_bmod_of_dvd (by decide)
theorem I_127 (n : Nat) : I n &&& 127 = I (n % 128) := by
  apply Int32.toBitVec_inj.mp
  rw [Int32.toBitVec_and]
  apply BitVec.eq_of_toNat_eq
  show ((BitVec.ofNat 32 n) &&& (BitVec.ofNat 32 127)).toNat = (BitVec.ofNat 32 (n % 128)).toNat
  rw [BitVec.toNat_and, BitVec.toNat_ofNat, BitVec.toNat_ofNat, BitVec.toNat_ofNat, show 127 % 2 ^ 32 = 2 ^ 7 - 1 from rfl, Nat.and_two_pow_sub_one_eq_mod]
  omega
theorem last3 {a0 a1 a2 a3 a4 a5 : Nat} (h0 : a0 ≤ 8) (h1 : a1 ≤ 8) (h2 : a2 ≤ 8) (h3 : a3 ≤ 8) (h4 : a4 ≤ 8) (h5 : a5 ≤ 8) {v3 v4 v5 v6 : Nat}
    (e3 : v3 = a0 + 256 * (a1 + 256 * (a2 + 256 * (a3 + 256 * (a4 + 256 * a5))))) (e4 : v4 = v3 + v3 / 256) (e5 : v5 = v4 + v4 / 65536) (e6 : v6 = v5 + v5 / 4294967296) :
    v6 % 128 = a0 + a1 + a2 + a3 + a4 + a5 ∧ v6 < 2 ^ 62 := by
  have d3 : v3 / 256 = a1 + 256 * (a2 + 256 * (a3 + 256 * (a4 + 256 * a5))) := by omega
  have d4 : v4 = (a0 + a1) + 256 * ((a1 + a2) + 256 * ((a2 + a3) + 256 * ((a3 + a4) + 256 * ((a4 + a5) + 256 * a5)))) := by omega
  have d5 : v4 / 65536 = (a2 + a3) + 256 * ((a3 + a4) + 256 * ((a4 + a5) + 256 * a5)) := by omega
  have d6 : v5 = (a0 + a1 + a2 + a3) + 256 * ((a1 + a2 + a3 + a4) + 256 * ((a2 + a3 + a4 + a5) + 256 * ((a3 + a4 + a5) + 256 * ((a4 + a5) + 256 * a5)))) := by omega
  have d7 : v5 / 4294967296 = (a4 + a5) + 256 * a5 := by omega
  omega
theorem lbc {n : Nat} (hn : n < 2 ^ 48) {g : Nat → Nat → Nat → Int32} {w : Nat → Nat → Nat → Int64} : s_J_Long_bitCount (J n) g w = I (fb_ct (fun i => n.testBit i) 48) := by
  have hn8 : n < 256 ^ 6 := hn
  have hB : ∀ B, B < 256 → B / 2 &&& 85 < 256 := by decide +kernel
  have h1f : ∀ B, B < 256 → q1 B < 256 := fun B h => (q_all B h).2.1
  have h2f : ∀ B, B < 256 → q2 B < 256 := fun B h => by have := (q_all B h).2.2.1; omega
  -- the numbers behind each step
  have hp8 : (256 : Nat) ^ 8 = 2 ^ 64 := by decide
  have n8 : n < 256 ^ 8 := by omega
  have a1 : n / 2 &&& rp 85 8 = bm (fun B => B / 2 &&& 85) 8 n := bm_and2 8 n
  have s1 : bm q1 8 n + bm (fun B => B / 2 &&& 85) 8 n = n := by
    rw [bm_add, bm_cong (h := fun B => B) (fun B h => (q_all B h).1), bm_id 8 n n8]
  have l1 : bm q1 8 n < 2 ^ 64 := bm_lt h1f 8 n
  have a2 : bm q1 8 n &&& rp 51 8 = bm (fun B => q1 B &&& 51) 8 n := by rw [bm_and (by decide), bm_bm h1f]
  have a3 : bm q1 8 n / 4 &&& rp 51 8 = bm (fun B => q1 B / 4 &&& 51) 8 n := by rw [bm_and4, bm_bm h1f]
  have s2 : bm (fun B => q1 B &&& 51) 8 n + bm (fun B => q1 B / 4 &&& 51) 8 n = bm q2 8 n := bm_add _ _ 8 n
  have l2 : bm q2 8 n < 2 ^ 64 := bm_lt h2f 8 n
  have a4 : (bm q2 8 n + bm q2 8 n / 16) &&& rp 15 8 = bm bc 8 n := by
    rw [bm_and16 (fun B h => ⟨(q_all B h).2.2.1, (q_all B h).2.2.2.1⟩), bm_cong (fun B h => (q_all B h).2.2.2.2.1)]
  -- the top bytes are 0
  have z : ∀ f : Nat → Nat, f 0 = 0 → bm f 8 n = bm f 6 n := by
    intro f hf
    have e6 : n / 256 / 256 / 256 / 256 / 256 / 256 = 0 := by omega
    show f (n % 256) + 256 * (f (n / 256 % 256) + 256 * (f (n / 256 / 256 % 256) + 256 * (f (n / 256 / 256 / 256 % 256) + 256 * (f (n / 256 / 256 / 256 / 256 % 256) + 256 * (f (n / 256 / 256 / 256 / 256 / 256 % 256) + 256 * (f (n / 256 / 256 / 256 / 256 / 256 / 256 % 256) + 256 * (f (n / 256 / 256 / 256 / 256 / 256 / 256 / 256 % 256) + 256 * 0))))))) = f (n % 256) + 256 * (f (n / 256 % 256) + 256 * (f (n / 256 / 256 % 256) + 256 * (f (n / 256 / 256 / 256 % 256) + 256 * (f (n / 256 / 256 / 256 / 256 % 256) + 256 * (f (n / 256 / 256 / 256 / 256 / 256 % 256) + 256 * 0)))))
    rw [e6, show 0 % 256 = 0 from rfl, hf]
    try omega
  have hbc : ∀ x, bc (x % 256) ≤ 8 := fun x => bc_le _
  have v2s : bm q2 8 n < 2 ^ 48 := by
    rw [z q2 rfl]; exact bm_lt h2f 6 n
  have q := last3 (hbc n) (hbc (n / 256)) (hbc (n / 256 / 256)) (hbc (n / 256 / 256 / 256)) (hbc (n / 256 / 256 / 256 / 256)) (hbc (n / 256 / 256 / 256 / 256 / 256)) (v3 := bm bc 8 n) (by rw [z bc rfl]; rfl) rfl rfl rfl
  have v3s : bm bc 8 n < 2 ^ 48 := by
    rw [z bc rfl]; exact bm_lt (fun B h => by have := bc_le B; omega) 6 n
  -- the machine's steps
  have m1 : jlush (J n) 1 &&& 6148914691236517205 = J (bm (fun B => B / 2 &&& 85) 8 n) := by
    rw [show jlush (J n) 1 = J (n / 2) from jl_J (k := 1) (by omega) (by decide), ← a1]
    exact J_and (b := rp 85 8) (by omega) (by decide)
  have m2 : J n - J (bm (fun B => B / 2 &&& 85) 8 n) = J (bm q1 8 n) := by
    rw [J_sub (by omega)]
    exact congrArg J (by omega)
  have m3 : J (bm q1 8 n) &&& 3689348814741910323 = J (bm (fun B => q1 B &&& 51) 8 n) := by
    rw [← a2]
    exact J_and (b := rp 51 8) l1 (by decide)
  have m4 : jlush (J (bm q1 8 n)) 2 &&& 3689348814741910323 = J (bm (fun B => q1 B / 4 &&& 51) 8 n) := by
    rw [show jlush (J (bm q1 8 n)) 2 = J (bm q1 8 n / 4) from jl_J (k := 2) l1 (by decide), ← a3]
    exact J_and (b := rp 51 8) (by omega) (by decide)
  have m5 : J (bm q2 8 n) + jlush (J (bm q2 8 n)) 4 = J (bm q2 8 n + bm q2 8 n / 16) := by
    rw [show jlush (J (bm q2 8 n)) 4 = J (bm q2 8 n / 16) from jl_J (k := 4) l2 (by decide), J_add]
  have m6 : J (bm q2 8 n + bm q2 8 n / 16) &&& 1085102592571150095 = J (bm bc 8 n) := by
    rw [← a4]
    exact J_and (b := rp 15 8) (by omega) (by decide)
  have m7 : J (bm bc 8 n) + jlush (J (bm bc 8 n)) 8 = J (bm bc 8 n + bm bc 8 n / 256) := by
    rw [show jlush (J (bm bc 8 n)) 8 = J (bm bc 8 n / 256) from jl_J (k := 8) (by omega) (by decide), J_add]
  have m8 : ∀ x, x < 2 ^ 60 → J x + jlush (J x) 16 = J (x + x / 65536) := fun x hx => by
    rw [show jlush (J x) 16 = J (x / 65536) from jl_J (k := 16) (by omega) (by decide), J_add]
  have m9 : ∀ x, x < 2 ^ 60 → J x + jlush (J x) 32 = J (x + x / 4294967296) := fun x hx => by
    rw [show jlush (J x) 32 = J (x / 4294967296) from jl_J (k := 32) (by omega) (by decide), J_add]
  unfold s_J_Long_bitCount
  rw [m1, m2, m3, m4, J_add, s2, m5, m6, m7, m8 _ (by omega), m9 _ (by omega), J_I, I_127, q.1]
  rw [show (48 : Nat) = 8 * 6 from rfl, ct_bs]
  show _ = I (bc (n % 256) + (bc (n / 256 % 256) + (bc (n / 256 / 256 % 256) + (bc (n / 256 / 256 / 256 % 256) + (bc (n / 256 / 256 / 256 / 256 % 256) + (bc (n / 256 / 256 / 256 / 256 / 256 % 256) + 0))))))
  exact congrArg I (by omega)
/-- how many hours -/
def ct (x : Int64) : Nat := fb_ct (fun i => tb x i) 48
theorem bitCount6 {x : Int64} (h : ∀ k, 48 ≤ k → k < 64 → tb x k = false) {g : Nat → Nat → Nat → Int32} {w : Nat → Nat → Nat → Int64} : s_J_Long_bitCount x g w = I (ct x) := by
  obtain ⟨n, hn, rfl⟩ := J_ex x
  have hs : n < 2 ^ 48 := by
    refine Nat.lt_pow_two_of_testBit n (fun i hi => ?_)
    by_cases h6 : i < 64
    · rw [← tb_J n h6]; exact h i hi h6
    · exact Nat.testBit_lt_two_pow (Nat.lt_of_lt_of_le hn (Nat.pow_le_pow_right (by decide) (by omega)))
  rw [lbc hs]
  refine congrArg I ?_
  exact fb_ct_cong (fun i hi => (tb_J n (by omega)).symm)
