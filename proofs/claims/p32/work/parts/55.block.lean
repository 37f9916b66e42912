/-! the block of a harbour: its numbers, and what holds of it -/
def nf (c : Nat → Int64) (k : Nat) : Nat := (c k).toInt.toNat
def TF (c : Nat → Int64) (t j : Nat) : Nat := nf c (70 + 10 * t + j)
def SF (c : Nat → Int64) (s j : Nat) : Nat := nf c (130 + 11 * s + j)
def TN (c : Nat → Int64) : Nat := nf c 64
def SN (c : Nat → Int64) : Nat := nf c 65
def WK (c : Nat → Int64) (t : Nat) : Int64 := c (70 + 10 * t + 8)
def BN (c : Nat → Int64) (t : Nat) : Int64 := c (70 + 10 * t + 9)
def HR (c : Nat → Int64) (s : Nat) : Int := (c (130 + 11 * s + 7)).toInt
def JOB (c : Nat → Int64) (s : Nat) : Prop := 0 ≤ HR c s
def rb (c : Nat → Int64) (k lo hi : Nat) : Prop := (lo : Int) ≤ (c k).toInt ∧ (c k).toInt ≤ hi
def b48 (x : Int64) : Prop := ∀ k, 48 ≤ k → tb x k = false
/-- of a tug's row -/
def BT (c : Nat → Int64) (t : Nat) : Prop :=
  rb c (70 + 10 * t + 0) 0 1 ∧ rb c (70 + 10 * t + 1) 1 60 ∧ rb c (70 + 10 * t + 2) 0 1 ∧ rb c (70 + 10 * t + 3) 0 48 ∧ rb c (70 + 10 * t + 4) 1 48 ∧
  rb c (70 + 10 * t + 5) 1 12 ∧ rb c (70 + 10 * t + 6) 0 5 ∧ rb c (70 + 10 * t + 7) 0 48 ∧ TF c t 3 ≤ TF c t 4 ∧ b48 (WK c t) ∧ b48 (BN c t)
/-- of a ship's row -/
def BS (c : Nat → Int64) (s : Nat) : Prop :=
  rb c (130 + 11 * s + 0) 1 50 ∧ rb c (130 + 11 * s + 1) 0 9 ∧ rb c (130 + 11 * s + 2) 0 47 ∧ rb c (130 + 11 * s + 3) 1 4 ∧ rb c (130 + 11 * s + 4) 1 20 ∧
  rb c (130 + 11 * s + 5) 0 5 ∧ rb c (130 + 11 * s + 6) 0 5 ∧
  ((HR c s = -4 ∧ c (130 + 11 * s + 8) = 0) ∨ (0 ≤ HR c s ∧ HR c s + SF c s 3 ≤ 48 ∧ rb c (130 + 11 * s + 8) 1 63 ∧ SF c s 8 < 2 ^ TN c))
def BI (c : Nat → Int64) : Prop :=
  (rb c 64 0 6 ∧ rb c 65 0 8 ∧ rb c 60 0 6 ∧ rb c 61 0 1 ∧ rb c 62 1 30 ∧ b48 (c 63)) ∧ (∀ k, k < 12 → rb c k 0 9) ∧ (∀ k, k < 48 → rb c (12 + k) 0 9) ∧
  (∀ t, t < TN c → BT c t) ∧ (∀ s, s < SN c → BS c s) ∧
  (∀ s, s < SN c → JOB c s → ∀ t, t < TN c → (SF c s 8).testBit t = true → ∀ k, SF c s 7 ≤ k → k < SF c s 7 + SF c s 3 → tb (WK c t) k = true) ∧
  (∀ s s', s < SN c → s' < SN c → s ≠ s' → JOB c s → JOB c s' → ∀ t, t < TN c → (SF c s 8).testBit t = true → (SF c s' 8).testBit t = true → SF c s 7 + SF c s 3 ≤ SF c s' 7 ∨ SF c s' 7 + SF c s' 3 ≤ SF c s 7)
/-- the job's cells of a harbour of the program -/
def JB (g : Nat → Nat → Nat → Int32) (w : Nat → Nat → Nat → Int64) (hb : Nat) (c : Nat → Int64) : Prop :=
  w 1 hb 8 = c 63 ∧ (∀ t, t < TN c → g 5 (6 * hb + t) 7 = I (TF c t 7) ∧ w 5 (6 * hb + t) 8 = WK c t ∧ w 5 (6 * hb + t) 9 = BN c t) ∧
  (∀ t, TN c ≤ t → t < 6 → w 5 (6 * hb + t) 8 = 0) ∧
  (∀ s, s < SN c → (g 4 (8 * hb + s) 7).toInt = HR c s ∧ g 4 (8 * hb + s) 8 = I (SF c s 8)) ∧ (∀ s, SN c ≤ s → s < 8 → g 4 (8 * hb + s) 7 = -4)
def HB (g : Nat → Nat → Nat → Int32) (w : Nat → Nat → Nat → Int64) (hb : Nat) (c : Nat → Int64) : Prop := RBk g hb c ∧ JB g w hb c
def RV (w : Nat → Nat → Nat → Int64) (c : Nat → Int64) : Prop := ∀ k, k < 218 → w 2218 0 k = c k
section
variable {g : Nat → Nat → Nat → Int32} {w : Nat → Nat → Nat → Int64} {hb : Nat} {c : Nat → Int64}
theorem nf_rb {k lo hi : Nat} (h : rb c k lo hi) : lo ≤ nf c k ∧ nf c k ≤ hi := by
  unfold rb at h; unfold nf; omega
theorem nf_i {k lo hi : Nat} (h : rb c k lo hi) : (c k).toInt = nf c k := by
  unfold rb at h; unfold nf; omega
theorem nf_I {k lo hi : Nat} (h : rb c k lo hi) (hh : hi < 2147483648) : (c k).toInt32 = I (nf c k) := by
  have e := nf_i h
  have q := nf_rb h
  apply Int32.toInt_inj.mp
  rw [n32 (by omega) (by omega), I_toInt (by omega), e]
theorem nf_L {k lo hi : Nat} (h : rb c k lo hi) (hh : hi < 2147483648) : c k = (I (nf c k)).toInt64 := by
  have e := nf_i h
  have q := nf_rb h
  apply Int64.toInt_inj.mp
  rw [I64 (by omega), e]
theorem nf_eq {k n : Nat} (h : c k = (I n).toInt64) (hn : n < 2147483648) : nf c k = n := by
  unfold nf
  rw [h, I64 hn]; rfl
theorem tn6 (B : BI c) : TN c ≤ 6 := (nf_rb B.1.1).2
theorem sn8 (B : BI c) : SN c ≤ 8 := (nf_rb B.1.2.1).2
theorem n64 : (64 : Int32).toNatClampNeg = 64 := rfl
theorem n65 : (65 : Int32).toNatClampNeg = 65 := rfl
theorem n60 : (60 : Int32).toNatClampNeg = 60 := rfl
theorem n61 : (61 : Int32).toNatClampNeg = 61 := rfl
theorem n62 : (62 : Int32).toNatClampNeg = 62 := rfl
theorem n63 : (63 : Int32).toNatClampNeg = 63 := rfl
theorem lg_ge (x y : Int64) : (0 : Int32) ≤ lg_cmp x y ↔ y.toInt ≤ x.toInt := by
  constructor
  · intro h
    refine Int.not_lt.mp (fun q => ?_)
    have := (lg_cmp_lt x y).mpr (Int64.lt_iff_toInt_lt.mpr q)
    rw [Int32.lt_iff_toInt_lt] at this; rw [Int32.le_iff_toInt_le] at h; omega
  · intro h
    by_cases q : (0 : Int32) ≤ lg_cmp x y
    · exact q
    · exact absurd (lgn q) (by omega)
theorem lgI {k n : Nat} {x : Int64} (e : x = (I n).toInt64) (hk : k < 2147483648) (hn : n < 2147483648) : (0 : Int32) ≤ lg_cmp (I k).toInt64 x ↔ n ≤ k := by
  rw [lg_ge, e, I64 hk, I64 hn]; omega
/-- a loop of the reference over its tugs, its ships -/
theorem endT (R : RV w c) (B : BI c) {k : Nat} (hk : k < 2147483648) : (0 : Int32) ≤ lg_cmp (I k).toInt64 (w 2218 0 (64 : Int32).toNatClampNeg) ↔ TN c ≤ k := by
  have h6 := tn6 B
  exact lgI ((R 64 (by decide)).trans (nf_L B.1.1 (by decide))) hk (by omega)
theorem endS (R : RV w c) (B : BI c) {k : Nat} (hk : k < 2147483648) : (0 : Int32) ≤ lg_cmp (I k).toInt64 (w 2218 0 (65 : Int32).toNatClampNeg) ↔ SN c ≤ k := by
  have h8 := sn8 B
  exact lgI ((R 65 (by decide)).trans (nf_L B.1.2.1 (by decide))) hk (by omega)
/-- of the tugs -/
theorem bt (B : BI c) {t : Nat} (ht : t < TN c) : BT c t := B.2.2.2.1 t ht
theorem bs (B : BI c) {s : Nat} (hs : s < SN c) : BS c s := B.2.2.2.2.1 s hs
theorem bt_j (B : BI c) {t j : Nat} (ht : t < TN c) (hj : j < 8) : rb c (70 + 10 * t + j) 0 60 := by
  have q := bt B ht
  have w : ∀ {k lo hi : Nat}, rb c k lo hi → hi ≤ 60 → rb c k 0 60 := fun h hh => ⟨by unfold rb at h; omega, by unfold rb at h; omega⟩
  have hj8 : j = 0 ∨ j = 1 ∨ j = 2 ∨ j = 3 ∨ j = 4 ∨ j = 5 ∨ j = 6 ∨ j = 7 := by omega
  rcases hj8 with rfl | rfl | rfl | rfl | rfl | rfl | rfl | rfl
  · exact w q.1 (by decide)
  · exact w q.2.1 (by decide)
  · exact w q.2.2.1 (by decide)
  · exact w q.2.2.2.1 (by decide)
  · exact w q.2.2.2.2.1 (by decide)
  · exact w q.2.2.2.2.2.1 (by decide)
  · exact w q.2.2.2.2.2.2.1 (by decide)
  · exact w q.2.2.2.2.2.2.2.1 (by decide)
theorem bs_j (B : BI c) {s j : Nat} (hs : s < SN c) (hj : j < 9) (h7 : j ≠ 7) : rb c (130 + 11 * s + j) 0 63 := by
  have q := bs B hs
  have w : ∀ {k lo hi : Nat}, rb c k lo hi → hi ≤ 63 → rb c k 0 63 := fun h hh => ⟨by unfold rb at h; omega, by unfold rb at h; omega⟩
  have hj8 : j = 0 ∨ j = 1 ∨ j = 2 ∨ j = 3 ∨ j = 4 ∨ j = 5 ∨ j = 6 ∨ j = 8 := by omega
  rcases hj8 with rfl | rfl | rfl | rfl | rfl | rfl | rfl | rfl
  · exact w q.1 (by decide)
  · exact w q.2.1 (by decide)
  · exact w q.2.2.1 (by decide)
  · exact w q.2.2.2.1 (by decide)
  · exact w q.2.2.2.2.1 (by decide)
  · exact w q.2.2.2.2.2.1 (by decide)
  · exact w q.2.2.2.2.2.2.1 (by decide)
  · rcases q.2.2.2.2.2.2.2 with ⟨_, e⟩ | ⟨_, _, e, _⟩
    · unfold rb; rw [e]; decide
    · exact w e (by decide)
theorem job_hr (B : BI c) {s : Nat} (hs : s < SN c) : (¬ JOB c s ∧ HR c s = -4 ∧ SF c s 8 = 0) ∨ (JOB c s ∧ HR c s = SF c s 7 ∧ SF c s 7 + SF c s 3 ≤ 48 ∧ 1 ≤ SF c s 8 ∧ SF c s 8 < 2 ^ TN c ∧ rb c (130 + 11 * s + 7) 0 47 ∧ SF c s 8 < 64) := by
  have q := bs B hs
  have l := nf_rb q.2.2.2.1
  rcases q.2.2.2.2.2.2.2 with ⟨e, e2⟩ | ⟨e1, e2, e3, e4⟩
  · refine Or.inl ⟨by unfold JOB; omega, e, ?_⟩
    unfold SF nf; rw [e2]; rfl
  · refine Or.inr ⟨e1, ?_, ?_, (nf_rb e3).1, e4, ?_, by have := (nf_rb e3).2; unfold SF; omega⟩
    · unfold HR at e1 ⊢; unfold SF nf; omega
    · unfold HR at e1 e2; unfold SF at e2 ⊢; unfold nf at e2 ⊢; omega
    · unfold HR at e1 e2; unfold SF at e2; unfold rb; omega
theorem job_dec (c : Nat → Int64) (s : Nat) : JOB c s ∨ ¬ JOB c s := by unfold JOB; omega
/-- the program's cells -/
theorem c_tug (H : HB g w hb c) (B : BI c) {t j : Nat} (ht : t < TN c) (hj : j < 8) : g 5 (6 * hb + t) j = I (TF c t j) := by
  by_cases h7 : j = 7
  · subst h7; exact (H.2.2.1 t ht).1
  · have h6 := tn6 B
    have e := H.1.2.2.2.2.1 t (by omega) j (by omega)
    have e2 := nf_I (bt_j B ht hj) (by decide)
    rw [e, t6432] at e2
    exact e2
theorem c_ship (H : HB g w hb c) (B : BI c) {s j : Nat} (hs : s < SN c) (hj : j < 9) (h7 : j ≠ 7) : g 4 (8 * hb + s) j = I (SF c s j) := by
  by_cases h8 : j = 8
  · subst h8; exact (H.2.2.2.2.1 s hs).2
  · have h6 := sn8 B
    have e := H.1.2.2.2.2.2 s (by omega) j (by omega)
    have e2 := nf_I (bs_j B hs hj h7) (by decide)
    rw [e, t6432] at e2
    exact e2
theorem c_hour (H : HB g w hb c) (B : BI c) {s : Nat} (hs : s < SN c) (hJ : JOB c s) : g 4 (8 * hb + s) 7 = I (SF c s 7) := by
  rcases job_hr B hs with ⟨h, _⟩ | ⟨_, h, h2, _⟩
  · exact absurd hJ h
  · apply Int32.toInt_inj.mp
    rw [(H.2.2.2.2.1 s hs).1, h, I_toInt (by omega)]
theorem c_nohour (H : HB g w hb c) (B : BI c) {s : Nat} (hs : s < 8) (hJ : ¬ (s < SN c ∧ JOB c s)) : g 4 (8 * hb + s) 7 = -4 := by
  by_cases h : s < SN c
  · rcases job_hr B h with ⟨_, h2, _⟩ | ⟨h1, _⟩
    · apply Int32.toInt_inj.mp
      rw [(H.2.2.2.2.1 s h).1, h2]; rfl
    · exact absurd ⟨h, h1⟩ hJ
  · exact H.2.2.2.2.2 s (by omega) hs
theorem c_tn (H : HB g w hb c) (B : BI c) : g 1 hb 9 = I (TN c) := by
  have e := H.1.2.2.2.1 0 (by decide)
  have e2 := nf_I B.1.1 (by decide)
  rw [show c 64 = (g 1 hb 9).toInt64 from e, t6432] at e2
  exact e2
theorem c_sn (H : HB g w hb c) (B : BI c) : g 1 hb 10 = I (SN c) := by
  have e := H.1.2.2.2.1 1 (by decide)
  have e2 := nf_I B.1.2.1 (by decide)
  rw [show c 65 = (g 1 hb 10).toInt64 from e, t6432] at e2
  exact e2
theorem c_rest (H : HB g w hb c) (B : BI c) : g 1 hb 5 = I (nf c 60) := by
  have e := H.1.2.2.1 0 (by decide)
  have e2 := nf_I B.1.2.2.1 (by decide)
  rw [show c 60 = (g 1 hb 5).toInt64 from e, t6432] at e2
  exact e2
theorem c_fire (H : HB g w hb c) (B : BI c) : g 1 hb 6 = I (nf c 61) := by
  have e := H.1.2.2.1 1 (by decide)
  have e2 := nf_I B.1.2.2.2.1 (by decide)
  rw [show c 61 = (g 1 hb 6).toInt64 from e, t6432] at e2
  exact e2
theorem c_speed (H : HB g w hb c) (B : BI c) : g 1 hb 7 = I (nf c 62) := by
  have e := H.1.2.2.1 2 (by decide)
  have e2 := nf_I B.1.2.2.2.2.1 (by decide)
  rw [show c 62 = (g 1 hb 7).toInt64 from e, t6432] at e2
  exact e2
theorem c_tide (H : HB g w hb c) (B : BI c) {k : Nat} (hk : k < 12) : g 1012 (td hb) k = I (nf c k) := by
  have e := H.1.1 k hk
  have e2 := nf_I (B.2.1 k hk) (by decide)
  rw [e, t6432] at e2
  exact e2
theorem c_wind (H : HB g w hb c) (B : BI c) {k : Nat} (hk : k < 48) : g 1048 hb k = I (nf c (12 + k)) := by
  have e := H.1.2.1 k hk
  have e2 := nf_I (B.2.2.1 k hk) (by decide)
  rw [e, t6432] at e2
  exact e2
/-- the reference's -/
theorem r_tug (R : RV w c) (B : BI c) {t j : Nat} (ht : t < TN c) (hj : j < 8) : s_X7_ofTug 0 (I t) (I j) g w = some (I (TF c t j)) := by
  have h6 := tn6 B
  rw [ofTug_e (by omega) (by omega), R _ (by omega), nf_I (bt_j B ht hj) (by decide)]; rfl
theorem r_ship (R : RV w c) (B : BI c) {s j : Nat} (hs : s < SN c) (hj : j < 9) (h7 : j ≠ 7) : s_X7_ofShip 0 (I s) (I j) g w = some (I (SF c s j)) := by
  have h6 := sn8 B
  rw [ofShip_e (by omega) (by omega), R _ (by omega), nf_I (bs_j B hs hj h7) (by decide)]; rfl
theorem r_hour (R : RV w c) (B : BI c) {s : Nat} (hs : s < SN c) (hJ : JOB c s) : s_X7_ofShip 0 (I s) (I 7) g w = some (I (SF c s 7)) := by
  have h6 := sn8 B
  rcases job_hr B hs with ⟨h, _⟩ | ⟨_, h, h2, _, _, h3, _⟩
  · exact absurd hJ h
  · rw [ofShip_e (by omega) (by omega), R _ (by omega), nf_I h3 (by decide)]; rfl
theorem r_nohour (R : RV w c) (B : BI c) {s : Nat} (hs : s < SN c) (hJ : ¬ JOB c s) : s_X7_ofShip 0 (I s) (I 7) g w = some (-4) := by
  have h6 := sn8 B
  rcases job_hr B hs with ⟨_, h, _⟩ | ⟨h, _⟩
  · rw [ofShip_e (by omega) (by omega), R _ (by omega)]
    refine congrArg some ?_
    apply Int32.toInt_inj.mp
    unfold HR at h
    rw [n32 (by omega) (by omega), h]; rfl
  · exact absurd h hJ
theorem r_hasJob (R : RV w c) (B : BI c) {s : Nat} (hs : s < SN c) : ∃ b, s_X7_hasJob 0 (I s) g w = some b ∧ (b = true ↔ JOB c s) := by
  unfold s_X7_hasJob s_X7_hasJob_15
  rcases job_dec c s with h | h
  · rw [show s_X7_ofShip 0 (I s) 7 g w = some (I (SF c s 7)) from r_hour R B hs h]
    refine ⟨true, ?_, by simp [h]⟩
    show (if I (SF c s 7) < 0 then some false else some true) = some true
    rcases job_hr B hs with ⟨h2, _⟩ | ⟨_, _, h2, _⟩
    · exact absurd h h2
    · rw [if_neg]
      rw [Int32.lt_iff_toInt_lt, I_toInt (by omega), show (0 : Int32).toInt = 0 from rfl]; omega
  · rw [show s_X7_ofShip 0 (I s) 7 g w = some (-4) from r_nohour R B hs h]
    exact ⟨false, rfl, by simp [h]⟩
theorem r_work (R : RV w c) (B : BI c) {t : Nat} (ht : t < TN c) : s_X7_workOf 0 (I t) g w = some (WK c t) := by
  have h6 := tn6 B
  rw [workOf_e (by omega), R _ (by omega)]; rfl
theorem r_bunk (R : RV w c) (B : BI c) {t : Nat} (ht : t < TN c) : s_X7_bunkersOf 0 (I t) g w = some (BN c t) := by
  have h6 := tn6 B
  rw [bunkersOf_e (by omega), R _ (by omega)]; rfl
end
