/-! readers of both sides in the same numbers -/
theorem nle {a k : Nat} (h : k < a) (ha : a < 2147483648) : ¬ I a ≤ I k := by
  rw [I_le ha (by omega)]; omega
theorem ile {a k : Nat} (h : a ≤ k) (hk : k < 2147483648) : I a ≤ I k := (I_le (by omega) hk).mpr h
theorem nlt {a k : Nat} (h : k ≤ a) (ha : a < 2147483648) : ¬ I a < I k := by
  rw [I_lt ha (by omega)]; omega
theorem ilt {a k : Nat} (h : a < k) (hk : k < 2147483648) : I a < I k := (I_lt (by omega) hk).mpr h
theorem I_sub {x y : Nat} (h : y ≤ x) : I x - I y = I (x - y) := by
  have e : I x = I (x - y) + I y := by rw [I_add, Nat.sub_add_cancel h]
  rw [e, Int32.add_sub_cancel]
theorem I_div {a b : Nat} (ha : a < 2147483648) (hb : b < 2147483648) : I a / I b = I (a / b) := by
  have hq : a / b ≤ a := Nat.div_le_self a b
  have h0 : (0 : Int) ≤ ((a / b : Nat) : Int) := Int.natCast_nonneg _
  apply Int32.toInt_inj.mp
  rw [Int32.toInt_div, I_toInt ha, I_toInt hb, I_toInt (by omega), ← Int.ofNat_tdiv]
  exact Int.bmod_eq_of_le (by omega) (by omega)
theorem I_ne0 {b : Nat} (h : 1 ≤ b) (hb : b < 2147483648) : nzI (I b) = true := by
  refine decide_eq_true (fun q => ?_)
  have := I_inj hb (by decide) (show I b = I 0 from q)
  omega
theorem b_iff {a b : Bool} {P : Prop} (h1 : a = true ↔ P) (h2 : b = true ↔ P) : a = b := by
  cases a <;> cases b <;> simp_all
def LAST (c : Nat → Int64) (s : Nat) : Nat := SF c s 7 + SF c s 3 - 1
def WITH (c : Nat → Int64) (s t : Nat) : Prop := s < SN c ∧ JOB c s ∧ (SF c s 8).testBit t = true
def NEED (c : Nat → Int64) (s k : Nat) : Nat := SF c s 0 + SF c s 0 * nf c (12 + k) / 5
def WAY (pl : Nat → Nat) (v a b : Nat) : Nat := ((if pl a ≤ pl b then pl b - pl a else pl a - pl b) + v - 1) / v
def PC (g : Nat → Nat → Nat → Int32) (pl ba : Nat → Nat) : Prop := ∀ b, b < 6 → g 1006 0 b = I (pl b) ∧ g 1006 1 b = I (ba b)
def PR (g : Nat → Nat → Nat → Int32) (pl ba : Nat → Nat) : Prop := ∀ b, b < 6 → g 1006 2 b = I (pl b) ∧ g 1006 3 b = I (ba b)
def PB (pl ba : Nat → Nat) : Prop := ∀ b, b < 6 → pl b ≤ 60 ∧ ba b ≤ 1
section
variable {g : Nat → Nat → Nat → Int32} {w : Nat → Nat → Nat → Int64} {hb : Nat} {c : Nat → Int64} {pl ba : Nat → Nat}
theorem isB6 {a : Nat} (ha : a < 6) : s_X6_isBerth (I a) g w = true := by
  rw [isBerth6]
  exact decide_eq_true ⟨ile (a := 0) (by omega) (by omega), ile (k := 5) (by omega) (by decide)⟩
theorem way6 (P : PC g pl ba) (Q : PB pl ba) {a b v : Nat} (ha : a < 6) (hb : b < 6) (h1 : 1 ≤ v) (h30 : v ≤ 30) : s_X0_hoursBetween 0 (I a) (I b) (I v) g w = some (I (WAY pl v a b)) := by
  unfold s_X0_hoursBetween s_X0_hoursBetween_64 WAY
  have qa := Q a ha
  have qb := Q b hb
  rw [if_pos (isB6 ha), if_pos (isB6 hb), if_pos (show (0 : Int32) < I v from ilt (a := 0) (by omega) (by omega)), if_pos (inR_I ha (by decide)), if_pos (inR_I hb (by decide)), I_tn (by omega), I_tn (by omega), (P a ha).1, (P b hb).1, if_pos (I_ne0 h1 (by omega))]
  by_cases h : pl a ≤ pl b
  · rw [if_pos (ile h (by omega)), if_pos (inR_I hb (by decide)), if_pos (inR_I ha (by decide)), if_pos h, I_sub h, I_add, show (1 : Int32) = I 1 from rfl, I_sub (by omega), I_div (by omega) (by omega)]
  · rw [if_neg (nle (by omega) (by omega)), if_pos (inR_I ha (by decide)), if_pos (inR_I hb (by decide)), if_pos (I_ne0 h1 (by omega)), if_neg h, I_sub (by omega), I_add, show (1 : Int32) = I 1 from rfl, I_sub (by omega), I_div (by omega) (by omega)]
theorem way7 (P : PR g pl ba) (Q : PB pl ba) (R : RV w c) (B : BI c) {a b : Nat} (ha : a < 6) (hb : b < 6) : s_X7_wayOf 0 (I a) (I b) g w = some (I (WAY pl (nf c 62) a b)) := by
  unfold s_X7_wayOf s_X7_wayOf_44 WAY
  have qa := Q a ha
  have qb := Q b hb
  have hv := nf_rb B.1.2.2.2.2.1
  rw [n62, R 62 (by decide), nf_I B.1.2.2.2.2.1 (by decide), if_pos (inR_I ha (by decide)), if_pos (inR_I hb (by decide)), I_tn (by omega), I_tn (by omega), (P a ha).1, (P b hb).1, if_pos (I_ne0 hv.1 (by omega))]
  by_cases h : pl b ≤ pl a
  · rw [if_pos (ile h (by omega)), if_pos (inR_I ha (by decide)), if_pos (inR_I hb (by decide)), I_sub h, I_add, show (1 : Int32) = I 1 from rfl, I_sub (by omega), I_div (by omega) (by omega)]
    by_cases h2 : pl a ≤ pl b
    · rw [if_pos h2, show pl a - pl b = pl b - pl a by omega]
    · rw [if_neg h2]
  · rw [if_neg (nle (by omega) (by omega)), if_pos (inR_I hb (by decide)), if_pos (inR_I ha (by decide)), if_pos (I_ne0 hv.1 (by omega)), if_pos (show pl a ≤ pl b by omega), I_sub (by omega), I_add, show (1 : Int32) = I 1 from rfl, I_sub (by omega), I_div (by omega) (by omega)]
theorem way_le (Q : PB pl ba) {a b v : Nat} (ha : a < 6) (hb : b < 6) (h1 : 1 ≤ v) : WAY pl v a b ≤ 100 := by
  unfold WAY
  have qa := Q a ha
  have qb := Q b hb
  refine Nat.div_le_of_le_mul ?_
  have : v * 100 ≥ 60 + v := by omega
  split <;> omega
theorem hasJob6 (H : HB g w hb c) (B : BI c) {s : Nat} (hs : s < 8) : s_X4_hasJob (8 * hb + s) g w = true ↔ s < SN c ∧ JOB c s := by
  unfold s_X4_hasJob s_X4_hasJob_14
  by_cases h : s < SN c ∧ JOB c s
  · rw [c_hour H B h.1 h.2]
    rcases job_hr B h.1 with ⟨h2, _⟩ | ⟨_, _, h2, _⟩
    · exact absurd h.2 h2
    · rw [if_neg (fun q => by have := congrArg Int32.toInt q; rw [I_toInt (by omega), show (-4 : Int32).toInt = -4 from rfl] at this; omega)]
      simp [h.1, h.2]
  · rw [c_nohour H B hs h, if_pos rfl]
    simp only [h, iff_false]; decide
theorem with6 (H : HB g w hb c) (B : BI c) {s t : Nat} (hs : s < 8) (ht : t < 8) : s_X4_hasJobWith (8 * hb + s) (I t) g w = true ↔ WITH c s t := by
  unfold s_X4_hasJobWith s_X4_hasJobWith_24 s_X4_hasJobWith_25 WITH
  by_cases h : s < SN c ∧ JOB c s
  · rcases job_hr B h.1 with ⟨h2, _⟩ | ⟨_, _, h2, _, _, _, h3⟩
    · exact absurd h.2 h2
    · rw [c_hour H B h.1 h.2, c_ship H B h.1 (by decide) (by decide)]
      rw [if_neg (fun q => by have := congrArg Int32.toInt q; rw [I_toInt (by omega), show (-4 : Int32).toInt = -4 from rfl] at this; omega)]
      by_cases e : (jush (I (SF c s 8)) (I t)) &&& 1 = 0
      · rw [if_pos e]
        have := (jb h3 ht).mp e
        simp [this]
      · rw [if_neg e]
        have : (SF c s 8).testBit t = true := by
          cases hh : (SF c s 8).testBit t with
          | true => rfl
          | false => exact absurd ((jb h3 ht).mpr hh) e
        simp [this, h.1, h.2]
  · rw [c_nohour H B hs h, if_pos rfl]
    constructor
    · intro q; cases q
    · intro q; exact absurd ⟨q.1, q.2.1⟩ h
theorem isOf7 (R : RV w c) (B : BI c) {s t : Nat} (hs : s < SN c) (ht : t < 8) : ∃ b, s_X7_isOf 0 (I s) (I t) g w = some b ∧ (b = true ↔ WITH c s t) := by
  unfold s_X7_isOf s_X7_isOf_27 s_X7_isOf_28 WITH
  obtain ⟨b, e, hbb⟩ := r_hasJob (g := g) R B hs
  rw [e]
  cases b with
  | false =>
    refine ⟨false, rfl, ?_⟩
    have : ¬ JOB c s := fun q => by have := hbb.mpr q; cases this
    simp [this]
  | true =>
    have hJ := hbb.mp rfl
    rcases job_hr B hs with ⟨h2, _⟩ | ⟨_, _, h2, _, _, _, h3⟩
    · exact absurd hJ h2
    · show ∃ b, ((s_X7_ofShip 0 (I s) 8 g w).bind fun q2 => if ((q2 >>> ((I t) &&& 31)) &&& 1) ≠ 1 then some false else some true) = some b ∧ _
      rw [show s_X7_ofShip 0 (I s) 8 g w = some (I (SF c s 8)) from r_ship R B hs (by decide) (by decide)]
      show ∃ b, (if ((I (SF c s 8) >>> ((I t) &&& 31)) &&& 1) ≠ 1 then some false else some true) = some b ∧ _
      by_cases e2 : (SF c s 8).testBit t = true
      · rw [if_neg (fun q => q ((sb h3 ht).mpr e2))]
        exact ⟨true, rfl, by simp [hs, hJ, e2]⟩
      · rw [if_pos (fun q => e2 ((sb h3 ht).mp q))]
        exact ⟨false, rfl, by simp [e2]⟩
theorem len_ge (B : BI c) {s : Nat} (hs : s < SN c) : 1 ≤ SF c s 3 ∧ SF c s 3 ≤ 4 := nf_rb (bs B hs).2.2.2.1
theorem last6 (H : HB g w hb c) (B : BI c) {s : Nat} (hs : s < SN c) (hJ : JOB c s) : s_X4_lastHour (8 * hb + s) g w = I (LAST c s) := by
  unfold s_X4_lastHour LAST
  have := len_ge B hs
  rw [c_hour H B hs hJ, c_ship H B hs (by decide) (by decide), I_add, show (1 : Int32) = I 1 from rfl, I_sub (by omega)]
theorem last7 (R : RV w c) (B : BI c) {s : Nat} (hs : s < SN c) (hJ : JOB c s) : s_X7_last 0 (I s) g w = some (I (LAST c s)) := by
  unfold s_X7_last LAST
  have := len_ge B hs
  rw [show s_X7_ofShip 0 (I s) 7 g w = some (I (SF c s 7)) from r_hour R B hs hJ, show s_X7_ofShip 0 (I s) 3 g w = some (I (SF c s 3)) from r_ship R B hs (by decide) (by decide)]
  show some (I (SF c s 7) + I (SF c s 3) - 1) = _
  rw [I_add, show (1 : Int32) = I 1 from rfl, I_sub (by omega)]
theorem last_lt (B : BI c) {s : Nat} (hs : s < SN c) (hJ : JOB c s) : LAST c s < 48 ∧ SF c s 7 ≤ LAST c s ∧ LAST c s + 1 = SF c s 7 + SF c s 3 := by
  have := len_ge B hs
  unfold LAST
  rcases job_hr B hs with ⟨h2, _⟩ | ⟨_, _, h2, _⟩
  · exact absurd hJ h2
  · omega
theorem inTime6 (H : HB g w hb c) (B : BI c) {s h : Nat} (hs : s < SN c) (hh : h < 100) : s_X4_isInTime (8 * hb + s) (I h) g w = true ↔ SF c s 2 ≤ h ∧ h + SF c s 3 ≤ 48 := by
  unfold s_X4_isInTime s_X4_isInTime_23 s_X4_isInTime_24
  have l := len_ge B hs
  have r := nf_rb (bs B hs).2.2.1
  have r2 : SF c s 2 ≤ 47 := r.2
  rw [c_ship H B hs (by decide) (by decide), c_ship H B hs (by decide) (by decide), I_add]
  by_cases h1 : h < SF c s 2
  · rw [if_pos (ilt h1 (by omega))]
    constructor
    · intro q; cases q
    · intro q; omega
  · rw [if_neg (nlt (by omega) (by omega))]
    by_cases h2 : 48 < h + SF c s 3
    · rw [if_pos (show (48 : Int32) < I (h + SF c s 3) from ilt (a := 48) h2 (by omega))]
      constructor
      · intro q; cases q
      · intro q; omega
    · rw [if_neg (show ¬ (48 : Int32) < I (h + SF c s 3) from nlt (a := 48) (by omega) (by decide))]
      constructor
      · intro q; omega
      · intro q; rfl
theorem free6 (H : HB g w hb c) {t : Nat} (ht : t < TN c) (x : Int64) : s_X5_isFree (6 * hb + t) x g w = true ↔ (WK c t ||| BN c t) &&& x = 0 := by
  unfold s_X5_isFree s_X5_isFree_21
  rw [(H.2.2.1 t ht).2.1, (H.2.2.1 t ht).2.2]
  by_cases h : (WK c t ||| BN c t) &&& x = 0
  · rw [if_neg (fun q => q ((lg0 _).mpr h))]
    simp [h]
  · rw [if_pos (fun q => h ((lg0 _).mp q))]
    constructor
    · intro q; cases q
    · intro q; exact absurd q h
theorem broken6 (H : HB g w hb c) (B : BI c) {t h : Nat} (ht : t < TN c) (hh : h < 2147483648) : s_X5_isBroken (6 * hb + t) (I h) g w = true ↔ TF c t 7 ≤ h := by
  unfold s_X5_isBroken s_X5_isBroken_13
  have r : TF c t 7 ≤ 60 := (nf_rb (bt_j B ht (j := 7) (by decide))).2
  rw [c_tug H B ht (by decide)]
  by_cases h1 : h < TF c t 7
  · rw [if_pos (ilt h1 (by omega))]
    constructor
    · intro q; cases q
    · intro q; omega
  · rw [if_neg (nlt (by omega) hh)]
    constructor
    · intro q; omega
    · intro q; rfl
theorem needed6 (H : HB g w hb c) (B : BI c) {s k : Nat} (hs : s < SN c) (hk : k ≤ 47) : s_X1_neededPull hb (8 * hb + s) (I k) g w = some (I (NEED c s k)) := by
  have q := nf_rb (bs B hs).1
  have q2 : SF c s 0 ≤ 50 := q.2
  have q3 := (nf_rb (B.2.2.1 k (by omega))).2
  have q4 : SF c s 0 * nf c (12 + k) ≤ 50 * 9 := Nat.mul_le_mul q2 q3
  rw [needed_e hk, c_ship H B hs (by decide) (by decide), c_wind H B (by omega), I_mul, show (5 : Int32) = I 5 from rfl, I_div (by omega) (by decide), I_add]
  rfl
theorem needs7 (R : RV w c) (B : BI c) {s k : Nat} (hs : s < SN c) (hk : k ≤ 47) : s_X7_needsOf 0 (I s) (I k) g w = some (I (NEED c s k)) := by
  have h8 := sn8 B
  have q := nf_rb (bs B hs).1
  have q2 : SF c s 0 ≤ 50 := q.2
  have q3 := (nf_rb (B.2.2.1 k (by omega))).2
  have q4 : SF c s 0 * nf c (12 + k) ≤ 50 * 9 := Nat.mul_le_mul q2 q3
  rw [needsOf_e (by omega) hk, R _ (by omega), R _ (by omega), nf_I (bs B hs).1 (by decide), nf_I (B.2.2.1 k (by omega)) (by decide)]
  show some (I (SF c s 0) + I (SF c s 0) * I (nf c (12 + k)) / 5) = _
  rw [I_mul, show (5 : Int32) = I 5 from rfl, I_div (by omega) (by decide), I_add]
  rfl
theorem need_le (B : BI c) {s k : Nat} (hs : s < SN c) (hk : k ≤ 47) : NEED c s k ≤ 140 := by
  have q := nf_rb (bs B hs).1
  have q2 : SF c s 0 ≤ 50 := q.2
  have q3 := (nf_rb (B.2.2.1 k (by omega))).2
  have q4 : SF c s 0 * nf c (12 + k) ≤ 50 * 9 := Nat.mul_le_mul q2 q3
  unfold NEED
  omega
end
