/-! jobs taken: both sides, exactly -/
def MH (c : Nat → Int64) (s f : Nat) : Int64 := HH (SF c s 7) (SF c s 7 + SF c s 3) &&& (HH 0 f ^^^ -1)
def BEG (c : Nat → Int64) (s f : Nat) : Nat := if f ≤ SF c s 7 then SF c s 7 else f
def CNT (c : Nat → Int64) (S n : Nat) : Nat := fb_sm (fun t => if S.testBit t = true then n else 0) (TN c)
section
variable {g g' : Nat → Nat → Nat → Int32} {w w' : Nat → Nat → Nat → Int64} {hb : Nat} {c : Nat → Int64} {pl ba : Nat → Nat}
theorem mh_eq {s f : Nat} (h : SF c s 7 + SF c s 3 ≤ 48) (hf : f ≤ SF c s 7 + SF c s 3) : MH c s f = HH (BEG c s f) (SF c s 7 + SF c s 3) := by
  have hb : BEG c s f ≤ SF c s 7 + SF c s 3 := by unfold BEG; split <;> omega
  refine tb_ext (fun k hk => ?_)
  unfold MH
  rw [tb_and, tb_not _ hk, tb_HH (by omega) (by omega), tb_HH (by omega) (by omega), tb_HH hb (by omega)]
  unfold BEG
  by_cases e : f ≤ SF c s 7
  · rw [if_pos e]
    by_cases q : SF c s 7 ≤ k ∧ k < SF c s 7 + SF c s 3
    · rw [decide_eq_true q, decide_eq_false (show ¬ (0 ≤ k ∧ k < f) by omega)]; rfl
    · rw [decide_eq_false q]; rfl
  · rw [if_neg e]
    by_cases q : f ≤ k ∧ k < SF c s 7 + SF c s 3
    · rw [decide_eq_true q, decide_eq_false (show ¬ (0 ≤ k ∧ k < f) by omega), decide_eq_true (show SF c s 7 ≤ k ∧ k < SF c s 7 + SF c s 3 by omega)]; rfl
    · rw [decide_eq_false q]
      by_cases q2 : 0 ≤ k ∧ k < f
      · rw [decide_eq_true q2]; simp
      · rw [decide_eq_false (show ¬ (SF c s 7 ≤ k ∧ k < SF c s 7 + SF c s 3) by omega)]; rfl
theorem mh_in {s f : Nat} (h : SF c s 7 + SF c s 3 ≤ 48) (k : Nat) (q : tb (MH c s f) k = true) : SF c s 7 ≤ k ∧ k < SF c s 7 + SF c s 3 := by
  unfold MH at q
  rw [tb_and, Bool.and_eq_true, tb_HH (by omega) (by omega)] at q
  exact of_decide_eq_true q.1
theorem ct_all {p : Nat → Bool} : ∀ n, (∀ k, k < n → p k = true) → fb_ct p n = n
  | 0, _ => rfl
  | n + 1, h => by rw [fb_ct_succ, ct_all n (fun k hk => h k (by omega)), if_pos (h n (by omega))]
/-- hours all of which are in x -/
theorem ct_run {x : Int64} {a b : Nat} (h : a ≤ b) (hb : b ≤ 48) (hx : ∀ k, a ≤ k → k < b → tb x k = true) : ct (x &&& HH a b) = b - a := by
  unfold ct
  have e : ∀ k, tb (x &&& HH a b) k = decide (a ≤ k ∧ k < b) := fun k => by
    rw [tb_and, tb_HH h (by omega)]
    by_cases q : a ≤ k ∧ k < b
    · rw [decide_eq_true q, hx k q.1 q.2]; rfl
    · rw [decide_eq_false q, Bool.and_false]
  have s1 := fb_ct_split (fun i => tb (x &&& HH a b) i) a (48 - a)
  have s2 := fb_ct_split (fun i => tb (x &&& HH a b) (a + i)) (b - a) (48 - b)
  have z1 : fb_ct (fun i => tb (x &&& HH a b) i) a = 0 := fb_ct_zero.mpr (fun k hk => by rw [e]; exact decide_eq_false (by omega))
  have z2 : fb_ct (fun i => tb (x &&& HH a b) (a + i)) (b - a) = b - a := ct_all _ (fun k hk => by rw [e]; exact decide_eq_true (by omega))
  have z3 : fb_ct (fun k => tb (x &&& HH a b) (a + (b - a + k))) (48 - b) = 0 := fb_ct_zero.mpr (fun k hk => by rw [e]; exact decide_eq_false (by omega))
  rw [show a + (48 - a) = 48 by omega] at s1
  rw [show b - a + (48 - b) = 48 - a by omega] at s2
  rw [s1, s2, z1, z2, z3]
  omega
theorem release_e (H : HB g w hb c) (B : BI c) {s S f : Nat} (hs : s < SN c) (hJ : JOB c s) (hS : S < 2 ^ TN c) (hsub : ∀ t, S.testBit t = true → (SF c s 8).testBit t = true) (hf : f ≤ SF c s 7 + SF c s 3) :
    s_X1_release hb (8 * hb + s) (I S) (I f) g w = some (I (CNT c S (SF c s 7 + SF c s 3 - BEG c s f)), g, w5 hb (frel S (MH c s f)) 6 w) := by
  have h6 := tn6 B
  have h8 := sn8 B
  have hS6 := s64 B hS
  have ll := last_lt B hs hJ
  have hbeg : BEG c s f ≤ SF c s 7 + SF c s 3 ∧ SF c s 7 ≤ BEG c s f := by unfold BEG; split <;> omega
  have em := mh_eq (c := c) (s := s) (f := f) (by omega) hf
  have key : ∀ (n k : Nat), k ≤ 6 → 7 - k < n → s_X1_release_R21 hb (8 * hb + s) (I S) (I f) n (MH c s f) (I (fb_sm (fun t => if S.testBit t = true then SF c s 7 + SF c s 3 - BEG c s f else 0) k)) (I k) g (w5 hb (frel S (MH c s f)) k w) = some (I (fb_sm (fun t => if S.testBit t = true then SF c s 7 + SF c s 3 - BEG c s f else 0) 6), g, w5 hb (frel S (MH c s f)) 6 w) := by
    intro n
    induction n with
    | zero => intro k h1 hm; omega
    | succ n ih =>
      intro k h1 hm
      show s_X1_release_21 hb (8 * hb + s) (I S) (I f) (s_X1_release_R21 hb (8 * hb + s) (I S) (I f) n) (MH c s f) (I (fb_sm (fun t => if S.testBit t = true then SF c s 7 + SF c s 3 - BEG c s f else 0) k)) (I k) g (w5 hb (frel S (MH c s f)) k w) = _
      unfold s_X1_release_21 s_X1_release_82
      rw [I_suc]
      by_cases hk : k < 6
      · rw [if_neg (show ¬ (6 : Int32) ≤ I k from nle (a := 6) hk (by decide)), isIn6 hS6 (by omega)]
        by_cases e : S.testBit k = true
        · have hkt := bit_lt hS e
          rw [if_pos e, if_pos (inR_I hk (by decide)), if_pos (inR_I hk (by decide)), I_tn (by omega)]
          have q := w5_s (hb := hb) (w := w) (f := frel S (MH c s f)) (k := k)
          rw [show frel S (MH c s f) k (w5 hb (frel S (MH c s f)) k w 5 (6 * hb + k) 8) = w5 hb (frel S (MH c s f)) k w 5 (6 * hb + k) 8 &&& (MH c s f ^^^ -1) from if_pos e] at q
          rw [q, w5_out (F := 5) (i := 6 * hb + k) (j := 8) (by omega), (H.2.2.1 k hkt).2.1]
          have hw : ∀ j, BEG c s f ≤ j → j < SF c s 7 + SF c s 3 → tb (WK c k) j = true := fun j j1 j2 => B.2.2.2.2.2.1 s hs hJ k hkt (hsub k e) j (by omega) j2
          have eb : s_J_Long_bitCount (WK c k &&& MH c s f) g (w5 hb (frel S (MH c s f)) k w) = I (SF c s 7 + SF c s 3 - BEG c s f) := by
            rw [bitCount6 (fun j j1 j2 => by rw [tb_and, wk48 B hkt j j1]; rfl), em, ct_run hbeg.1 (by omega) hw]
          rw [eb, I_add]
          have := ih (k + 1) (by omega) (by omega)
          rw [fb_sm_succ, if_pos e] at this
          exact this
        · rw [if_neg e, w5_n (k := k) (fun y => if_neg e)]
          have := ih (k + 1) (by omega) (by omega)
          rw [fb_sm_succ, if_neg e, Nat.add_zero] at this
          exact this
      · have e : k = 6 := by omega
        subst e
        rw [if_pos (show (6 : Int32) ≤ I 6 by decide)]
  have e0 : fb_sm (fun t => if S.testBit t = true then SF c s 7 + SF c s 3 - BEG c s f else 0) 6 = CNT c S (SF c s 7 + SF c s 3 - BEG c s f) := by
    have := fb_sm_split (fun t => if S.testBit t = true then SF c s 7 + SF c s 3 - BEG c s f else 0) (TN c) (6 - TN c)
    rw [show TN c + (6 - TN c) = 6 by omega] at this
    have z1 : ∀ k, k < 6 - TN c → (fun k => (fun t => if S.testBit t = true then SF c s 7 + SF c s 3 - BEG c s f else 0) (TN c + k)) k = 0 := fun k _ => if_neg (fun q => by have := bit_lt hS q; omega)
    have z : fb_sm (fun k => (fun t => if S.testBit t = true then SF c s 7 + SF c s 3 - BEG c s f else 0) (TN c + k)) (6 - TN c) = 0 := by
      rw [fb_sm_cong (g := fun _ => 0) z1, fb_sm_const, Nat.mul_zero]
    rw [this, z]; rfl
  unfold s_X1_release
  rw [jobHours6 H B hs hJ, ahead6 (by omega)]
  have := key FU 0 (by decide) (by decide)
  rw [w5_0, e0] at this
  exact this
theorem drop_e {p : Nat} : s_X4_dropJob p g w = (pg p (-4) (I 0) g, w) := rfl
theorem lift_e (H : HB g w hb c) (B : BI c) {s : Nat} (hs : s < SN c) (hJ : JOB c s) : s_X1_lift hb (8 * hb + s) g w = some (pg (8 * hb + s) (-4) (I 0) g, w5 hb (frel (SF c s 8) (MH c s 0)) 6 w) := by
  rcases job_hr B hs with ⟨h, _⟩ | ⟨_, _, _, _, hS, _⟩
  · exact absurd hJ h
  unfold s_X1_lift
  rw [c_ship H B hs (by decide) (by decide), show s_X1_release hb (8 * hb + s) (I (SF c s 8)) 0 g w = _ from release_e H B hs hJ hS (fun t q => q) (f := 0) (Nat.zero_le _)]
  rfl
theorem takeOff_e (H : HB g w hb c) (B : BI c) {s f : Nat} (hs : s < SN c) (hJ : JOB c s) (hf : f ≤ SF c s 7 + SF c s 3) :
    s_X1_takeOff hb (8 * hb + s) (I f) g w = some (I (CNT c (SF c s 8) (SF c s 7 + SF c s 3 - BEG c s f)), gI (pg (8 * hb + s) (-4) (I 0) g) 1 hb 12 (g 1 hb 12 + 1), w5 hb (frel (SF c s 8) (MH c s f)) 6 w) := by
  rcases job_hr B hs with ⟨h, _⟩ | ⟨_, _, _, _, hS, _⟩
  · exact absurd hJ h
  unfold s_X1_takeOff
  rw [c_ship H B hs (by decide) (by decide), release_e H B hs hJ hS (fun t q => q) hf]
  have e : pg (8 * hb + s) (-4) (I 0) g 1 hb 12 = g 1 hb 12 := by unfold pg; rw [gI_at, if_neg (by omega), gI_at, if_neg (by omega)]
  show some (_, gI (pg (8 * hb + s) (-4) (I 0) g) 1 hb 12 (pg (8 * hb + s) (-4) (I 0) g 1 hb 12 + 1), _) = _
  rw [e]
  rfl
theorem hb_take (H : HB g w hb c) (B : BI c) {s : Nat} {m : Int64} (hs : s < SN c) (hJ : JOB c s) : HB (pg (8 * hb + s) (-4) (I 0) g) (w5 hb (frel (SF c s 8) m) 6 w) hb (ctake c s m) := by
  rcases job_hr B hs with ⟨h, _⟩ | ⟨_, _, _, _, hS, _⟩
  · exact absurd hJ h
  exact hb_job H (tn6 B) (sn8 B) (a := -4) (n := 0) hs (fun t q1 q2 => by
    unfold frel
    rw [if_neg (fun q => by have := bit_lt hS q; omega)]) (by decide)
/-! the reference -/
theorem ship_cg {s j : Nat} (hs : s < 8) (hj : j < 11) (h : w' 2218 0 (130 + 11 * s + j) = w 2218 0 (130 + 11 * s + j)) : s_X7_ofShip 0 (I s) (I j) g w' = s_X7_ofShip 0 (I s) (I j) g w := by
  rw [ofShip_e hs hj, ofShip_e hs hj, h]
theorem isOf_cg {s t : Nat} (hs : s < 8) (h : ∀ j, j < 11 → w' 2218 0 (130 + 11 * s + j) = w 2218 0 (130 + 11 * s + j)) : s_X7_isOf 0 (I s) (I t) g w' = s_X7_isOf 0 (I s) (I t) g w := by
  unfold s_X7_isOf s_X7_hasJob s_X7_isOf_27 s_X7_isOf_28 s_X7_hasJob_15
  rw [show s_X7_ofShip 0 (I s) 7 g w' = s_X7_ofShip 0 (I s) 7 g w from ship_cg hs (j := 7) (by decide) (h 7 (by decide)), show s_X7_ofShip 0 (I s) 8 g w' = s_X7_ofShip 0 (I s) 8 g w from ship_cg hs (j := 8) (by decide) (h 8 (by decide))]
theorem last_cg {s : Nat} (hs : s < 8) (h : ∀ j, j < 11 → w' 2218 0 (130 + 11 * s + j) = w 2218 0 (130 + 11 * s + j)) : s_X7_last 0 (I s) g w' = s_X7_last 0 (I s) g w := by
  unfold s_X7_last
  rw [show s_X7_ofShip 0 (I s) 7 g w' = s_X7_ofShip 0 (I s) 7 g w from ship_cg hs (j := 7) (by decide) (h 7 (by decide)), show s_X7_ofShip 0 (I s) 3 g w' = s_X7_ofShip 0 (I s) 3 g w from ship_cg hs (j := 3) (by decide) (h 3 (by decide))]
theorem takes_e (R : RV w c) (B : BI c) {s f : Nat} (hs : s < SN c) (hJ : JOB c s) (hf : f ≤ SF c s 7 + SF c s 3) :
    s_X7_takes 0 (I s) (I f) g w = some (I (CNT c (SF c s 8) (SF c s 7 + SF c s 3 - BEG c s f)), g, wj s (-4) 0 (wr (frel (SF c s 8) (MH c s f)) (TN c) w)) := by
  have h6 := tn6 B
  have h8 := sn8 B
  have ll := last_lt B hs hJ
  have hbeg : BEG c s f ≤ SF c s 7 + SF c s 3 ∧ SF c s 7 ≤ BEG c s f := by unfold BEG; split <;> omega
  have em := mh_eq (c := c) (s := s) (f := f) (by omega) hf
  have sh : ∀ k, k ≤ 6 → ∀ j, j < 11 → wr (frel (SF c s 8) (MH c s f)) k w 2218 0 (130 + 11 * s + j) = w 2218 0 (130 + 11 * s + j) := fun k hk j hj => wr_out (by omega)
  have key : ∀ (n k : Nat), k ≤ TN c → 7 - k < n → s_X7_takes_R29 0 (I s) (I f) n (I (fb_sm (fun t => if (SF c s 8).testBit t = true then SF c s 7 + SF c s 3 - BEG c s f else 0) k)) (I (BEG c s f)) (I k) g (wr (frel (SF c s 8) (MH c s f)) k w) = some (I (CNT c (SF c s 8) (SF c s 7 + SF c s 3 - BEG c s f)), g, wj s (-4) 0 (wr (frel (SF c s 8) (MH c s f)) (TN c) w)) := by
    intro n
    induction n with
    | zero => intro k h1 hm; omega
    | succ n ih =>
      intro k h1 hm
      show s_X7_takes_29 0 (I s) (I f) (s_X7_takes_R29 0 (I s) (I f) n) (I (fb_sm (fun t => if (SF c s 8).testBit t = true then SF c s 7 + SF c s 3 - BEG c s f else 0) k)) (I (BEG c s f)) (I k) g (wr (frel (SF c s 8) (MH c s f)) k w) = _
      unfold s_X7_takes_29 s_X7_takes_101
      have eN := lgI (k := k) ((wr_out (w := w) (f := frel (SF c s 8) (MH c s f)) (n := k) (F := 2218) (i := 0) (j := 64) (by omega)).trans ((R 64 (by decide)).trans (nf_L B.1.1 (by decide)))) (by omega) (by unfold TN at h6; omega)
      rw [n64, I_suc]
      by_cases hk : k < TN c
      · have q8 := iw8 (t := k) (by omega)
        obtain ⟨b, eb, hbb⟩ := isOf7 (g := g) R B hs (t := k) (by omega)
        rw [if_neg (fun q => by have := eN.mp q; unfold TN at hk; omega), isOf_cg (by omega) (sh k (by omega)), eb]
        show (if b = true then _ else _) = _
        have hbt : b = true ↔ (SF c s 8).testBit k = true := hbb.trans ⟨fun q => q.2.2, fun q => ⟨hs, hJ, q⟩⟩
        have q := wr_s (w := w) (f := frel (SF c s 8) (MH c s f)) (k := k)
        have := ih (k + 1) (by omega) (by omega)
        rw [fb_sm_succ] at this
        by_cases e : (SF c s 8).testBit k = true
        · rw [if_pos (hbt.mpr e), if_pos q8.1, last_cg (by omega) (sh k (by omega)), last7 R B hs hJ]
          rw [show frel (SF c s 8) (MH c s f) k (wr (frel (SF c s 8) (MH c s f)) k w 2218 0 (70 + 10 * k + 8)) = wr (frel (SF c s 8) (MH c s f)) k w 2218 0 (70 + 10 * k + 8) &&& (MH c s f ^^^ -1) from if_pos e] at q
          show (if inR (((70 : Int32) + (10 : Int32) * I k) + 8) 218 = true then (s_X7_last 0 (I s) g (wL (wr (frel (SF c s 8) (MH c s f)) k w) 2218 0 (((70 : Int32) + (10 : Int32) * I k) + 8).toNatClampNeg (wr (frel (SF c s 8) (MH c s f)) k w 2218 0 (((70 : Int32) + (10 : Int32) * I k) + 8).toNatClampNeg &&& (s_X7_hours (I (BEG c s f)) (I (LAST c s) + 1) g (wr (frel (SF c s 8) (MH c s f)) k w) ^^^ -1)))).bind fun q3 => s_X7_takes_R29 0 (I s) (I f) n (I (fb_sm (fun t => if (SF c s 8).testBit t = true then SF c s 7 + SF c s 3 - BEG c s f else 0) k) + ((q3 + 1) - I (BEG c s f))) (I (BEG c s f)) (I (k + 1)) g (wL (wr (frel (SF c s 8) (MH c s f)) k w) 2218 0 (((70 : Int32) + (10 : Int32) * I k) + 8).toNatClampNeg (wr (frel (SF c s 8) (MH c s f)) k w 2218 0 (((70 : Int32) + (10 : Int32) * I k) + 8).toNatClampNeg &&& (s_X7_hours (I (BEG c s f)) (I (LAST c s) + 1) g (wr (frel (SF c s 8) (MH c s f)) k w) ^^^ -1))) else none) = _
          rw [if_pos q8.1, q8.2, I_suc, ll.2.2, hours7 hbeg.1 (by omega), ← em, q, last_cg (by omega) (sh (k + 1) (by omega)), last7 R B hs hJ]
          show s_X7_takes_R29 0 (I s) (I f) n (I (fb_sm (fun t => if (SF c s 8).testBit t = true then SF c s 7 + SF c s 3 - BEG c s f else 0) k) + ((I (LAST c s) + 1) - I (BEG c s f))) (I (BEG c s f)) (I (k + 1)) g (wr (frel (SF c s 8) (MH c s f)) (k + 1) w) = _
          rw [I_suc, ll.2.2, I_sub hbeg.1, I_add]
          rw [if_pos e] at this
          exact this
        · rw [if_neg (fun p => e (hbt.mp p)), wr_n (k := k) (fun y => if_neg e)]
          rw [if_neg e, Nat.add_zero] at this
          exact this
      · have ek : k = TN c := by omega
        have q7 := ix7 (s := s) (by omega)
        have q8 := ix8 (s := s) (by omega)
        rw [if_pos (eN.mpr (by unfold TN at ek; omega)), if_pos q7.1, if_pos q8.1, q7.2, q8.2, ek]
        rfl
  unfold s_X7_takes s_X7_takes_24
  rw [show s_X7_ofShip 0 (I s) 7 g w = some (I (SF c s 7)) from r_hour R B hs hJ]
  show (if I f ≤ I (SF c s 7) then s_X7_takes_R29 0 (I s) (I f) FU 0 (I (SF c s 7)) 0 g w else s_X7_takes_R29 0 (I s) (I f) FU 0 (I f) 0 g w) = _
  have := key FU 0 (by omega) (by show 7 - 0 < 1000; omega)
  rw [wr_0] at this
  unfold BEG at this ⊢
  by_cases e : f ≤ SF c s 7
  · rw [if_pos (ile e (by omega))]
    rw [if_pos e] at this ⊢
    exact this
  · rw [if_neg (nle (by omega) (by omega))]
    rw [if_neg e] at this ⊢
    exact this
theorem rv_take (R : RV w c) (B : BI c) {s : Nat} {m : Int64} (hs : s < SN c) (hJ : JOB c s) : RV (wj s (-4) 0 (wr (frel (SF c s 8) m) (TN c) w)) (ctake c s m) := by
  rcases job_hr B hs with ⟨h, _⟩ | ⟨_, _, _, _, hS, _⟩
  · exact absurd hJ h
  refine rc_wj (rc_wr R (tn6 B) (fun t q1 q2 => ?_))
  unfold frel
  rw [if_neg (fun q => by have := bit_lt hS q; omega)]
end
