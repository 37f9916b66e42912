/-! which ship, which tug, which set, how many: both sides alike -/
def IX (n : Nat) (p : Int32) : Prop := ∃ s, s < n ∧ p = I s
section
variable {g : Nat → Nat → Nat → Int32} {w : Nat → Nat → Nat → Int64} {hb : Nat} {c : Nat → Int64} {p : Int32}
theorem ix_dec {n : Nat} {b : Bool} (hn : n ≤ 64) (h : b = decide (0 ≤ p.toInt ∧ p.toInt < n)) : b = true ↔ IX n p := by
  rw [h, decide_eq_true_iff]
  constructor
  · intro q
    obtain ⟨k, hk, e⟩ := I_ex (v := p) (n := n) q.1 (by omega)
    subst e
    rw [I_toInt (by omega)] at q
    exact ⟨k, by omega, rfl⟩
  · rintro ⟨k, hk, rfl⟩
    rw [I_toInt (by omega)]
    omega
theorem gs6 (H : HB g w 0 c) (B : BI c) : s_X6_isShip 0 p g w = true ↔ IX (SN c) p := ix_dec (by have := sn8 B; omega) (isShip6_e (sn8 B) (c_sn H B))
theorem gt6 (H : HB g w 0 c) (B : BI c) : s_X6_isTug 0 p g w = true ↔ IX (TN c) p := ix_dec (by have := tn6 B; omega) (isTug6_e (tn6 B) (c_tn H B))
theorem r65 (R : RV w c) (B : BI c) : w 2218 0 65 = (I (SN c)).toInt64 := (R 65 (by decide)).trans (nf_L B.1.2.1 (by decide))
theorem r64 (R : RV w c) (B : BI c) : w 2218 0 64 = (I (TN c)).toInt64 := (R 64 (by decide)).trans (nf_L B.1.1 (by decide))
theorem gs7 (R : RV w c) (B : BI c) : s_X7_isShip 0 p g w = true ↔ IX (SN c) p := ix_dec (by have := sn8 B; omega) (isShip7_e (sn8 B) (r65 R B))
theorem gt7 (R : RV w c) (B : BI c) : s_X7_isTug 0 p g w = true ↔ IX (TN c) p := ix_dec (by have := tn6 B; omega) (isTug7_e (tn6 B) (r64 R B))
theorem ix_rg {n : Nat} (hn : n < 2147483648) : ((0 : Int32) ≤ p ∧ p ≤ I n) ↔ IX (n + 1) p := by
  rw [Int32.le_iff_toInt_le, Int32.le_iff_toInt_le, I_toInt hn, show (0 : Int32).toInt = 0 from rfl]
  constructor
  · intro q
    obtain ⟨k, hk, e⟩ := I_ex (v := p) (n := n) q.1 q.2
    exact ⟨k, by omega, e⟩
  · rintro ⟨k, hk, rfl⟩
    rw [I_toInt (by omega)]
    omega
theorem gh6 : s_X6_isHour p g w = true ↔ IX 48 p := by rw [isHour6, decide_eq_true_iff]; exact ix_rg (n := 47) (by decide)
theorem gh7 : s_X7_isHour p g w = true ↔ IX 48 p := by rw [isHour7, decide_eq_true_iff]; exact ix_rg (n := 47) (by decide)
theorem gb6 : s_X6_isBerth p g w = true ↔ IX 6 p := by rw [isBerth6, decide_eq_true_iff]; exact ix_rg (n := 5) (by decide)
theorem gb7 : s_X7_isBerth p g w = true ↔ IX 6 p := by rw [isBerth7, decide_eq_true_iff]; exact ix_rg (n := 5) (by decide)
def IS (n : Nat) (p : Int32) : Prop := ∃ S, 1 ≤ S ∧ S < n ∧ p = I S
theorem is_rg {n : Nat} (h1 : 1 ≤ n) (hn : n < 2147483648) : ((1 : Int32) ≤ p ∧ p ≤ I (n - 1)) ↔ IS n p := by
  rw [Int32.le_iff_toInt_le, Int32.le_iff_toInt_le, I_toInt (by omega), show (1 : Int32).toInt = 1 from rfl]
  constructor
  · intro q
    obtain ⟨k, hk, e⟩ := I_ex (v := p) (n := n) (by omega) (by omega)
    subst e
    rw [I_toInt (by omega)] at q
    exact ⟨k, by omega, by omega, rfl⟩
  · rintro ⟨k, h1, h2, rfl⟩
    rw [I_toInt (by omega)]
    omega
theorem p2_all : ∀ k, k < 7 → ((1 : Int64) <<< ((I k).toInt64 &&& 63)) - 1 = (I (2 ^ k - 1)).toInt64 := by decide +kernel
theorem p2_32 : ∀ k, k < 7 → ((1 : Int32) <<< (I k &&& 31)) - 1 = I (2 ^ k - 1) := by decide +kernel
theorem p2_lt {k : Nat} (hk : k < 7) : 1 ≤ 2 ^ k ∧ 2 ^ k < 65 := ⟨Nat.one_le_two_pow, by have := Nat.pow_le_pow_right (n := 2) (by decide) (show k ≤ 6 by omega); omega⟩
theorem gx6 (H : HB g w 0 c) (B : BI c) : s_X6_isSet 0 p g w = true ↔ IS (2 ^ TN c) p := by
  have h6 := tn6 B
  have h2 := p2_lt (k := TN c) (by omega)
  unfold s_X6_isSet
  rw [c_tn H B, p2_32 _ (by omega), within_eq, decide_eq_true_iff]
  exact is_rg h2.1 (by omega)
theorem gx7 (R : RV w c) (B : BI c) : s_X7_isSet 0 p g w = true ↔ IS (2 ^ TN c) p := by
  have h6 := tn6 B
  have h2 := p2_lt (k := TN c) (by omega)
  unfold s_X7_isSet
  rw [n64, r64 R B, t6432, p2_all _ (by omega), in32 p 1 (I (2 ^ TN c - 1)) (by decide) rfl, decide_eq_true_iff]
  exact is_rg h2.1 (by omega)
theorem lg_gt (x y : Int64) : (0 : Int32) < lg_cmp x y ↔ y.toInt < x.toInt := by
  constructor
  · intro h
    have a := (lg_ge x y).mp (by rw [Int32.le_iff_toInt_le]; rw [Int32.lt_iff_toInt_lt] at h; omega)
    by_cases e : x = y
    · rw [(lg_cmp_eq x y).mpr e] at h
      exact absurd h (by decide)
    · have : x.toInt ≠ y.toInt := fun q => e (Int64.toInt_inj.mp q)
      omega
  · intro h
    have a := (lg_ge x y).mpr (by omega)
    have n : lg_cmp x y ≠ 0 := fun q => by
      have := (lg_cmp_eq x y).mp q
      subst this
      omega
    rw [Int32.lt_iff_toInt_lt]
    rw [Int32.le_iff_toInt_le] at a
    have : (lg_cmp x y).toInt ≠ (0 : Int32).toInt := fun q => n (Int32.toInt_inj.mp q)
    omega
def IM (n : Nat) (p : Int32) : Prop := ∃ k, 1 ≤ k ∧ k ≤ 4 ∧ k ≤ n ∧ p = I k
theorem gm6 (H : HB g w 0 c) (B : BI c) : s_X6_isPlanned 0 p g w = true ↔ IM (SN c) p := by
  have h8 := sn8 B
  unfold s_X6_isPlanned s_X6_isPlanned_24 s_X6_isPlanned_25
  rw [within_eq, c_sn H B]
  have q := is_rg (p := p) (n := 5) (by decide) (by decide)
  by_cases h : (1 : Int32) ≤ p ∧ p ≤ 4
  · rw [if_pos (decide_eq_true h)]
    obtain ⟨k, h1, h2, rfl⟩ := q.mp h
    by_cases e : k ≤ SN c
    · rw [if_neg (nlt e (by omega))]
      exact ⟨fun _ => ⟨k, h1, by omega, e, rfl⟩, fun _ => rfl⟩
    · rw [if_pos (ilt (by omega) (by omega))]
      refine ⟨fun r => absurd r (by decide), ?_⟩
      rintro ⟨k', r1, r2, r3, r4⟩
      have := I_inj (by omega) (by omega) r4
      omega
  · rw [if_neg (fun r => h (of_decide_eq_true r))]
    refine ⟨fun r => absurd r (by decide), ?_⟩
    rintro ⟨k', r1, r2, r3, r4⟩
    exact absurd (q.mpr ⟨k', r1, by omega, r4⟩) h
theorem gm7 (R : RV w c) (B : BI c) : s_X7_isMany 0 p g w = true ↔ IM (SN c) p := by
  have h8 := sn8 B
  unfold s_X7_isMany s_X7_isMany_29 s_X7_isMany_30
  rw [n65, r65 R B, in32 p 1 4 (by decide) (by decide)]
  have q := is_rg (p := p) (n := 5) (by decide) (by decide)
  by_cases h : (1 : Int32) ≤ p ∧ p ≤ 4
  · rw [if_pos (decide_eq_true h)]
    obtain ⟨k, h1, h2, rfl⟩ := q.mp h
    by_cases e : k ≤ SN c
    · rw [if_neg (fun r => by rw [lg_gt, I64 (by omega), I64 (by omega)] at r; omega)]
      exact ⟨fun _ => ⟨k, h1, by omega, e, rfl⟩, fun _ => rfl⟩
    · rw [if_pos (by rw [lg_gt, I64 (by omega), I64 (by omega)]; omega)]
      refine ⟨fun r => absurd r (by decide), ?_⟩
      rintro ⟨k', r1, r2, r3, r4⟩
      have := I_inj (by omega) (by omega) r4
      omega
  · rw [if_neg (fun r => h (of_decide_eq_true r))]
    refine ⟨fun r => absurd r (by decide), ?_⟩
    rintro ⟨k', r1, r2, r3, r4⟩
    exact absurd (q.mpr ⟨k', r1, by omega, r4⟩) h
/-- the hours of a word of the reference -/
theorem hoursIn7 {x : Int64} : s_X7_hoursIn 0 x g w = some (I (ct x)) := by
  have key : ∀ (n k : Nat), k ≤ 48 → 49 - k < n → s_X7_hoursIn_R5 0 x n (I (fb_ct (fun i => tb x i) k)) (I k) g w = some (I (ct x)) := by
    intro n
    induction n with
    | zero => intro k _ hm; omega
    | succ n ih =>
      intro k h1 hm
      show s_X7_hoursIn_5 0 x (s_X7_hoursIn_R5 0 x n) (I (fb_ct (fun i => tb x i) k)) (I k) g w = _
      unfold s_X7_hoursIn_5 s_X7_hoursIn_27
      rw [I_suc]
      by_cases hk : k < 48
      · rw [if_neg (show ¬ (48 : Int32) ≤ I k from nle (a := 48) hk (by decide)), has7 x (by omega)]
        have := ih (k + 1) (by omega) (by omega)
        rw [fb_ct_succ] at this
        by_cases e : tb x k = true
        · rw [if_pos e, bI_v, if_pos rfl, I_add]
          rw [if_pos e] at this
          exact this
        · rw [if_neg e, bI_v, if_neg (by decide), I_add]
          rw [if_neg e] at this
          exact this
      · have e : k = 48 := by omega
        subst e
        rw [if_pos (show (48 : Int32) ≤ I 48 by decide)]
        rfl
  exact key FU 0 (by decide) (by show 49 - 0 < 1000; omega)
/-- how many ships have a job -/
noncomputable def JC (c : Nat → Int64) (n : Nat) : Nat := fb_sm (fun s => @ite _ (s < SN c ∧ JOB c s) (Classical.propDecidable _) 1 0) n
theorem jc_yes {s : Nat} (h : s < SN c ∧ JOB c s) : JC c (s + 1) = JC c s + 1 := by unfold JC; rw [fb_sm_succ, if_pos h]
theorem jc_no {s : Nat} (h : ¬ (s < SN c ∧ JOB c s)) : JC c (s + 1) = JC c s := by unfold JC; rw [fb_sm_succ, if_neg h]; rfl
theorem jobsLaid6 (H : HB g w hb c) (B : BI c) : s_X1_jobsLaid hb g w = some (I (JC c 8)) := by
  have key : ∀ (n k : Nat), k ≤ 8 → 9 - k < n → s_X1_jobsLaid_R13 hb n (I (JC c k)) (I k) g w = some (I (JC c 8)) := by
    intro n
    induction n with
    | zero => intro k _ hm; omega
    | succ n ih =>
      intro k h1 hm
      show s_X1_jobsLaid_13 hb (s_X1_jobsLaid_R13 hb n) (I (JC c k)) (I k) g w = _
      unfold s_X1_jobsLaid_13 s_X1_jobsLaid_36
      by_cases hk : k < 8
      · rw [if_neg (show ¬ (8 : Int32) ≤ I k from nle (a := 8) hk (by decide)), if_pos (inR_I hk (by decide)), I_tn (by omega), I_suc, I_suc]
        have := ih (k + 1) (by omega) (by omega)
        by_cases e : k < SN c ∧ JOB c k
        · rw [if_pos ((hasJob6 H B hk).mpr e)]
          rw [jc_yes e] at this
          exact this
        · rw [if_neg (fun q => e ((hasJob6 H B hk).mp q))]
          rw [jc_no e] at this
          exact this
      · have e : k = 8 := by omega
        subst e
        rw [if_pos (show (8 : Int32) ≤ I 8 by decide)]
  exact key FU 0 (by decide) (by show 9 - 0 < 1000; omega)
theorem jc_stop : ∀ {k : Nat}, SN c ≤ k → JC c k = JC c (SN c)
  | 0, h => by have : SN c = 0 := by omega
               rw [this]
  | k + 1, h => by
    by_cases e : SN c = k + 1
    · rw [e]
    · rw [jc_no (fun q => by omega)]
      exact jc_stop (by omega)
end
