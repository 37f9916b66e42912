/-! mended plans: jobs lifted, what becomes of it -/
def liftN (m : Nat) (c : Nat → Int64) : Nat → (Nat → Int64)
  | 0 => c
  | k + 1 => if m.testBit k = true then ctake (liftN m c k) k (MH (liftN m c k) k 0) else liftN m c k
def CAND (c : Nat → Int64) (m : Nat) : Prop := ∀ s, m.testBit s = true → s < SN c ∧ JOB c s
noncomputable def MC (pl ba : Nat → Nat) (n : Nat) (c : Nat → Int64) (m : Nat) : Nat → Int64 := layN pl ba (fun i => i) (liftN m c n) n
noncomputable def MANY (pl ba : Nat → Nat) (n : Nat) (c : Nat → Int64) (m : Nat) : Nat := fb_sm (fun s => if 0 ≤ HR (MC pl ba n c m) s then 1 else 0) n
noncomputable def MW (pl ba : Nat → Nat) (n : Nat) (c : Nat → Int64) (m : Nat) : Int32 := W32 (MC pl ba n c m) n
def BETR (pl ba : Nat → Nat) (n : Nat) (c : Nat → Int64) (a b : Nat) : Prop := MANY pl ba n c b < MANY pl ba n c a ∨ (MANY pl ba n c a = MANY pl ba n c b ∧ (bc a < bc b ∨ (bc a = bc b ∧ MW pl ba n c a < MW pl ba n c b)))
noncomputable def mb (pl ba : Nat → Nat) (n : Nat) (c : Nat → Int64) : Nat → Nat
  | 0 => 0
  | k + 1 => @ite _ (CAND c k ∧ BETR pl ba n c k (mb pl ba n c k)) (Classical.propDecidable _) k (mb pl ba n c k)
section
variable {g g' g'' : Nat → Nat → Nat → Int32} {w w' w'' : Nat → Nat → Nat → Int64} {hb : Nat} {c c' : Nat → Int64} {pl ba : Nat → Nat}
theorem ctake_hr {s s' : Nat} {m : Int64} (hne : s' ≠ s) : HR (ctake c s m) s' = HR c s' := by
  unfold HR; rw [ctake_o (by omega) (by omega) (by omega)]
theorem liftN_hr {m : Nat} : ∀ {k s : Nat}, k ≤ s → HR (liftN m c k) s = HR c s
  | 0, _, _ => rfl
  | k + 1, s, h => by
    show HR (if m.testBit k = true then ctake (liftN m c k) k (MH (liftN m c k) k 0) else liftN m c k) s = _
    split
    · rw [ctake_hr (by omega)]; exact liftN_hr (by omega)
    · exact liftN_hr (by omega)
theorem liftN_pln {m : Nat} (hC : CAND c m) : ∀ k, PLN c (liftN m c k)
  | 0 => pln_refl
  | k + 1 => by
    have q := liftN_pln hC k
    show PLN c (if m.testBit k = true then ctake (liftN m c k) k (MH (liftN m c k) k 0) else liftN m c k)
    split
    · next h => exact pln_trans q (pln_ctake (by rw [pln_sn q]; exact (hC k h).1))
    · exact q
theorem liftN_bi {m : Nat} (B : BI c) (hC : CAND c m) : ∀ k, BI (liftN m c k)
  | 0 => B
  | k + 1 => by
    have q := liftN_bi B hC k
    have p := liftN_pln hC k
    show BI (if m.testBit k = true then ctake (liftN m c k) k (MH (liftN m c k) k 0) else liftN m c k)
    split
    · next h =>
      have hs : k < SN (liftN m c k) := by rw [pln_sn p]; exact (hC k h).1
      have hJ : JOB (liftN m c k) k := by unfold JOB; rw [liftN_hr (Nat.le_refl k)]; exact (hC k h).2
      have l := last_lt q hs hJ
      exact bi_take q hs hJ (fun j hj => mh_in (by omega) j hj)
    · exact q
theorem liftN_stop {m n : Nat} (hm : m < 2 ^ n) : ∀ k, n ≤ k → liftN m c k = liftN m c n
  | 0, h => by
    have : n = 0 := by omega
    subst this; rfl
  | k + 1, h => by
    by_cases e : n = k + 1
    · subst e; rfl
    · show (if m.testBit k = true then ctake (liftN m c k) k (MH (liftN m c k) k 0) else liftN m c k) = _
      rw [if_neg (fun q => by have := bit_lt hm q; omega)]
      exact liftN_stop hm k (by omega)
/-- one is lifted -/
theorem lift1_6 (H : HB g w hb c) (B : BI c) {s : Nat} (hs : s < SN c) (hJ : JOB c s) : ∃ g' w', s_X1_lift hb (8 * hb + s) g w = some (g', w') ∧ HB g' w' hb (ctake c s (MH c s 0)) ∧ FC hb g w g' w' ∧ g' 1 hb 11 = g 1 hb 11 := by
  have h8 := sn8 B
  refine ⟨_, _, lift_e H B hs hJ, hb_take H B hs hJ, fc_trans (fc_w5 (n := 6) (by decide)) (fc_pg (by omega)), ?_⟩
  unfold pg; rw [gI_at, if_neg (by omega), gI_at, if_neg (by omega)]
theorem liftAll6 {m : Nat} (hm : m < 64) (H : HB g w hb c) (B : BI c) (hC : CAND c m) : ∃ g' w', s_X1_liftAll hb (I m) g w = some (g', w') ∧ HB g' w' hb (liftN m c 8) ∧ FC hb g w g' w' ∧ g' 1 hb 11 = g 1 hb 11 := by
  have h8 := sn8 B
  have key : ∀ (n k : Nat) (g1 : Nat → Nat → Nat → Int32) (w1 : Nat → Nat → Nat → Int64), k ≤ 8 → HB g1 w1 hb (liftN m c k) → FC hb g w g1 w1 → g1 1 hb 11 = g 1 hb 11 → 9 - k < n →
      ∃ g' w', s_X1_liftAll_R2 hb (I m) n (I k) g1 w1 = some (g', w') ∧ HB g' w' hb (liftN m c 8) ∧ FC hb g w g' w' ∧ g' 1 hb 11 = g 1 hb 11 := by
    intro n
    induction n with
    | zero => intro k g1 w1 h1 h2 h3 h4 hm; omega
    | succ n ih =>
      intro k g1 w1 h1 h2 h3 h4 hm'
      show ∃ g' w', s_X1_liftAll_2 hb (I m) (s_X1_liftAll_R2 hb (I m) n) (I k) g1 w1 = some (g', w') ∧ _
      unfold s_X1_liftAll_2 s_X1_liftAll_29
      rw [I_suc]
      by_cases hk : k < 8
      · have en : liftN m c (k + 1) = if m.testBit k = true then ctake (liftN m c k) k (MH (liftN m c k) k 0) else liftN m c k := rfl
        rw [if_neg (show ¬ (8 : Int32) ≤ I k from nle (a := 8) hk (by decide))]
        by_cases e : (jush (I m) (I k)) &&& 1 = 0
        · have e' := (jb hm hk).mp e
          rw [if_pos e]
          exact ih (k + 1) g1 w1 (by omega) (by rw [en, e', if_neg (by decide)]; exact h2) h3 h4 (by omega)
        · have e' : m.testBit k = true := by
            cases hh : m.testBit k with
            | true => rfl
            | false => exact absurd ((jb hm hk).mpr hh) e
          have p := liftN_pln hC k
          have hs : k < SN (liftN m c k) := by rw [pln_sn p]; exact (hC k e').1
          have hJ : JOB (liftN m c k) k := by unfold JOB; rw [liftN_hr (Nat.le_refl k)]; exact (hC k e').2
          rw [if_neg e, if_pos (inR_I hk (by decide)), I_tn (by omega)]
          obtain ⟨g2, w2, q1, q2, q3, q4⟩ := lift1_6 h2 (liftN_bi B hC k) hs hJ
          rw [q1]
          exact ih (k + 1) g2 w2 (by omega) (by rw [en, if_pos e']; exact q2) (fc_trans h3 q3) (q4.trans h4) (by omega)
      · have e : k = 8 := by omega
        subst e
        rw [if_pos (show (8 : Int32) ≤ I 8 by decide)]
        exact ⟨g1, w1, rfl, h2, h3, h4⟩
  exact key FU 0 g w (by decide) H fc_refl rfl (by decide)
theorem tries2 {n m : Nat} {p2 : Int32} (hp : p2 = I m) (hm : m < 2 ^ n) (hn : n ≤ 4) (R : RV w c) (B : BI c) (hC : CAND c m) : ∃ w', s_X7_tries 0 (I n) p2 g w = s_X7_tries_R34 0 (I n) p2 FU 0 0 g w' ∧ RV w' (liftN m c n) ∧ FP g w g w' := by
  subst hp
  have h6 := tn6 B
  have h8 := sn8 B
  have hm6 : m < 64 := Nat.lt_of_lt_of_le hm (Nat.pow_le_pow_right (n := 2) (by decide) (show n ≤ 6 by omega))
  have key : ∀ (x k : Nat) (w1 : Nat → Nat → Nat → Int64), k ≤ n → RV w1 (liftN m c k) → FP g w g w1 → 5 - k < x →
      ∃ w', s_X7_tries_R2 0 (I n) (I m) x (I k) g w1 = s_X7_tries_R34 0 (I n) (I m) FU 0 0 g w' ∧ RV w' (liftN m c n) ∧ FP g w g w' := by
    intro x
    induction x with
    | zero => intro k w1 h1 h2 h3 hm; omega
    | succ x ih =>
      intro k w1 h1 h2 h3 hm'
      show ∃ w', s_X7_tries_2 0 (I n) (I m) (s_X7_tries_R2 0 (I n) (I m) x) (I k) g w1 = _ ∧ _
      unfold s_X7_tries_2 s_X7_tries_23
      rw [I_suc]
      by_cases hk : k < n
      · have en : liftN m c (k + 1) = if m.testBit k = true then ctake (liftN m c k) k (MH (liftN m c k) k 0) else liftN m c k := rfl
        rw [if_neg (nle hk (by omega))]
        by_cases e' : m.testBit k = true
        · have p := liftN_pln hC k
          have hs : k < SN (liftN m c k) := by rw [pln_sn p]; exact (hC k e').1
          have hJ : JOB (liftN m c k) k := by unfold JOB; rw [liftN_hr (Nat.le_refl k)]; exact (hC k e').2
          have b := liftN_bi B hC k
          have htn : TN (liftN m c k) = TN c := same_tn (pln_same B p)
          rw [if_neg (fun q => q ((sb hm6 (by omega)).mpr e')), show s_X7_takes 0 (I k) 0 g w1 = _ from takes_e (f := 0) h2 b hs hJ (Nat.zero_le _)]
          exact ih (k + 1) _ (by omega) (by rw [en, if_pos e']; exact rv_take h2 b hs hJ) (fp_trans h3 (fp_trans (fp_wr (n := TN (liftN m c k)) (by omega)) (fp_wj (by omega)))) (by omega)
        · rw [if_pos (fun q => e' ((sb hm6 (by omega)).mp q))]
          exact ih (k + 1) w1 (by omega) (by rw [en, if_neg e']; exact h2) h3 (by omega)
      · have e : k = n := by omega
        subst e
        rw [if_pos (ile (Nat.le_refl _) (by omega))]
        exact ⟨w1, rfl, h2, h3⟩
  exact key FU 0 w (by omega) R fp_refl (by show 5 - 0 < 1000; omega)
theorem layN_hr {f : Nat → Nat} {s : Nat} : ∀ {n k : Nat}, k ≤ n → (∀ i, k ≤ i → i < n → f i ≠ s) → HR (layN pl ba f c n) s = HR (layN pl ba f c k) s
  | 0, k, h, _ => by
    have : k = 0 := by omega
    subst this; rfl
  | n + 1, k, h, hne => by
    by_cases e : k = n + 1
    · subst e; rfl
    · show HR (stepL pl ba (layN pl ba f c n) (f n)) s = _
      rw [step_hr (fun q => hne n (by omega) (by omega) q.symm)]
      exact layN_hr (by omega) (fun i h1 h2 => hne i h1 (by omega))
theorem srv_many {n : Nat} : SRV pl ba (fun i => i) c n = fb_sm (fun s => if 0 ≤ HR (layN pl ba (fun i => i) c n) s then 1 else 0) n :=
  fb_sm_cong (fun k hk => by rw [layN_hr (n := n) (k := k + 1) (by omega) (fun i h1 h2 => by show i ≠ k; omega)])
theorem many_le (n m : Nat) : MANY pl ba n c m ≤ n := by
  have := fb_sm_bound (f := fun s => if 0 ≤ HR (MC pl ba n c m) s then 1 else 0) (c := 1) (n := n) (fun k hk => by split <;> omega)
  unfold MANY
  omega
/-- whether each of them has a job -/
theorem all6 (H : HB g w hb c) (B : BI c) {m : Nat} (hm : m < 64) : Ok (s_X2_allHaveJobs hb (I m) g w) (fun b => b = true ↔ CAND c m) := by
  have h8 := sn8 B
  have key : ∀ (n k : Nat), k ≤ 8 → 9 - k < n → Ok (s_X2_allHaveJobs_R2 hb (I m) n (I k) g w) (fun b => b = true ↔ ∀ s, k ≤ s → s < 8 → (m.testBit s = true → s < SN c ∧ JOB c s)) := by
    intro n
    induction n with
    | zero => intro k h1 hm; omega
    | succ n ih =>
      intro k h1 hm'
      show Ok (s_X2_allHaveJobs_2 hb (I m) (s_X2_allHaveJobs_R2 hb (I m) n) (I k) g w) _
      unfold s_X2_allHaveJobs_2 s_X2_allHaveJobs_33
      rw [I_suc]
      by_cases hk : k < 8
      · rw [if_neg (show ¬ (8 : Int32) ≤ I k from nle (a := 8) hk (by decide))]
        by_cases e : (jush (I m) (I k)) &&& 1 = 0
        · have e' := (jb hm hk).mp e
          rw [if_pos e]
          exact ok_b (all_yes (fun _ q => by rw [e'] at q; cases q)) (ih (k + 1) (by omega) (by omega))
        · have e' : m.testBit k = true := by
            cases hh : m.testBit k with
            | true => rfl
            | false => exact absurd ((jb hm hk).mpr hh) e
          rw [if_neg e, if_pos (inR_I hk (by decide)), I_tn (by omega)]
          by_cases e2 : s_X4_hasJob (8 * hb + k) g w = true
          · rw [if_pos e2]
            exact ok_b (all_yes (fun _ _ => (hasJob6 H B hk).mp e2)) (ih (k + 1) (by omega) (by omega))
          · rw [if_neg e2]
            exact ok_f (fun q => e2 ((hasJob6 H B hk).mpr (q k (Nat.le_refl _) hk e')))
      · rw [if_pos (show (8 : Int32) ≤ I k from ile (a := 8) (by omega) (by omega))]
        exact ok_t (fun s q1 q2 => by omega)
  refine ok_b ?_ (key FU 0 (by decide) (by decide))
  constructor
  · intro q s _ _ h; exact q s h
  · intro q s h
    refine q s (Nat.zero_le _) ?_ h
    have := bit_lt (S := m) (n := 6) hm h
    omega
theorem mb_le {n : Nat} : ∀ k, mb pl ba n c k ≤ k
  | 0 => Nat.le_refl _
  | k + 1 => by
    show @ite _ (CAND c k ∧ BETR pl ba n c k (mb pl ba n c k)) (Classical.propDecidable _) k (mb pl ba n c k) ≤ k + 1
    split
    · omega
    · have := mb_le (n := n) k; omega
theorem mb_lt {n : Nat} : ∀ k, 1 ≤ k → mb pl ba n c k < k
  | 0, h => by omega
  | k + 1, _ => by
    show @ite _ (CAND c k ∧ BETR pl ba n c k (mb pl ba n c k)) (Classical.propDecidable _) k (mb pl ba n c k) < k + 1
    split
    · omega
    · have := mb_le (pl := pl) (ba := ba) (c := c) (n := n) k; omega
theorem cand_0 : CAND c 0 := fun s h => by rw [Nat.zero_testBit] at h; cases h
theorem mb_cand {n : Nat} : ∀ k, CAND c (mb pl ba n c k)
  | 0 => cand_0
  | k + 1 => by
    show CAND c (@ite _ (CAND c k ∧ BETR pl ba n c k (mb pl ba n c k)) (Classical.propDecidable _) k (mb pl ba n c k))
    split
    · next h => exact h.1
    · exact mb_cand k
theorem mb_yes {n k : Nat} (h : CAND c k) (h2 : BETR pl ba n c k (mb pl ba n c k)) : mb pl ba n c (k + 1) = k := if_pos ⟨h, h2⟩
theorem mb_no {n k : Nat} (h : ¬ (CAND c k ∧ BETR pl ba n c k (mb pl ba n c k))) : mb pl ba n c (k + 1) = mb pl ba n c k := if_neg h
theorem mb_1 {n : Nat} : mb pl ba n c (0 + 1) = 0 := by
  show @ite _ (CAND c 0 ∧ BETR pl ba n c 0 (mb pl ba n c 0)) (Classical.propDecidable _) 0 (mb pl ba n c 0) = 0
  split <;> rfl
theorem better6 {n a b : Nat} (h4 : n ≤ 4) (ha : a < 64) (hb2 : b < 64) (e4 : g 2 0 4 = I (MANY pl ba n c b)) (e6 : g 2 0 6 = I b) (e5 : g 2 0 5 = MW pl ba n c b) :
    s_X2_isBetter 0 (I (MANY pl ba n c a)) (I a) (MW pl ba n c a) g w = true ↔ BETR pl ba n c a b := by
  have m1 := many_le (pl := pl) (ba := ba) (c := c) n a
  have m2 := many_le (pl := pl) (ba := ba) (c := c) n b
  have k1 := bc_le a
  have k2 := bc_le b
  unfold s_X2_isBetter s_X2_isBetter_72 s_X2_isBetter_21
  rw [e4, e6, e5, bc6 ha, bc6 hb2]
  unfold BETR
  by_cases h1 : MANY pl ba n c a = MANY pl ba n c b
  · rw [h1, if_pos rfl]
    by_cases h2 : bc a = bc b
    · rw [h2, if_pos rfl]
      by_cases h3 : MW pl ba n c b ≤ MW pl ba n c a
      · rw [if_pos h3]
        have h3' : ¬ MW pl ba n c a < MW pl ba n c b := by rw [lt32]; exact fun q => q h3
        simp [h3']
      · rw [if_neg h3]
        have h3' : MW pl ba n c a < MW pl ba n c b := by rw [lt32]; exact h3
        simp [h3']
    · rw [if_neg (fun q => h2 (I_inj (by omega) (by omega) q))]
      by_cases h3 : bc b ≤ bc a
      · rw [if_pos (ile h3 (by omega))]
        have h3' : ¬ bc a < bc b := by omega
        simp [h3', h2]
      · rw [if_neg (nle (by omega) (by omega))]
        have h3' : bc a < bc b := by omega
        simp [h3']
  · rw [if_neg (fun q => h1 (I_inj (by omega) (by omega) q))]
    by_cases h3 : MANY pl ba n c a ≤ MANY pl ba n c b
    · rw [if_pos (ile h3 (by omega))]
      have h3' : ¬ MANY pl ba n c b < MANY pl ba n c a := by omega
      simp [h3', h1]
    · rw [if_neg (nle (by omega) (by omega))]
      have h3' : MANY pl ba n c b < MANY pl ba n c a := by omega
      simp [h3']
theorem pow16 {n : Nat} (h4 : n ≤ 4) : 2 ^ n ≤ 16 := Nat.pow_le_pow_right (n := 2) (by decide) h4
/-- the program's mended plan -/
theorem findMended6 {n : Nat} (h1 : 1 ≤ n) (h4 : n ≤ 4) (H : HB g w 0 c) (B : BI c) (P : PC g pl ba) (Q : PB pl ba) (hn : n ≤ SN c) (h04 : ∀ i, i < 4 → g 1004 0 i = I i) :
    ∃ g' w', s_X2_findMended 0 0 (I n) g w = some (g', w') ∧ g' 2 0 4 = I (MANY pl ba n c (mb pl ba n c (2 ^ n))) ∧ g' 2 0 6 = I (mb pl ba n c (2 ^ n)) ∧ g' 2 0 5 = MW pl ba n c (mb pl ba n c (2 ^ n)) ∧ FT g w g' w' := by
  have h8 := sn8 B
  have hp := pow16 h4
  have key : ∀ (m k : Nat) (g1 : Nat → Nat → Nat → Int32) (w1 : Nat → Nat → Nat → Int64), k ≤ 2 ^ n → FT g w g1 w1 → ((k = 0 ∧ g1 2 0 4 = -1) ∨ (1 ≤ k ∧ g1 2 0 4 = I (MANY pl ba n c (mb pl ba n c k)) ∧ g1 2 0 6 = I (mb pl ba n c k) ∧ g1 2 0 5 = MW pl ba n c (mb pl ba n c k))) → 17 - k < m →
      ∃ g' w', s_X2_findMended_R7 0 0 (I n) m (I k) g1 w1 = some (g', w') ∧ g' 2 0 4 = I (MANY pl ba n c (mb pl ba n c (2 ^ n))) ∧ g' 2 0 6 = I (mb pl ba n c (2 ^ n)) ∧ g' 2 0 5 = MW pl ba n c (mb pl ba n c (2 ^ n)) ∧ FT g w g' w' := by
    intro m
    induction m with
    | zero => intro k g1 w1 q1 q2 q3 hm; omega
    | succ m ih =>
      intro k g1 w1 q1 q2 q3 hm
      have H1 := hb_ft H B q2
      have P1 := pc_ft P q2
      show ∃ g' w', s_X2_findMended_7 0 0 (I n) (s_X2_findMended_R7 0 0 (I n) m) (I k) g1 w1 = some (g', w') ∧ _
      unfold s_X2_findMended_7 s_X2_findMended_91
      rw [shl32 n (by omega), I_suc]
      by_cases hk : k < 2 ^ n
      · rw [if_neg (nle hk (by omega))]
        obtain ⟨b, eb, hbb⟩ := all6 H1 B (m := k) (by omega)
        rw [eb]
        show ∃ g' w', (if b = true then _ else s_X2_findMended_R7 0 0 (I n) m (I (k + 1)) g1 w1) = some (g', w') ∧ _
        by_cases e : b = true
        · have hC := hbb.mp e
          rw [if_pos e, copyFrom_e (by decide)]
          have Hc := hb_cp (i0 := 1) H1 (tn6 B) (sn8 B)
          have F1 := ft_trans q2 (ft_cp (g := g1) (w := w1))
          obtain ⟨g2, w2, l1, l2, l3, _⟩ := liftAll6 (m := k) (by omega) Hc B hC
          have F2 := ft_trans F1 (ft_fc l3)
          have B2 := liftN_bi B hC 8
          have hpl := liftN_pln hC 8
          have hst : liftN k c 8 = liftN k c n := liftN_stop hk 8 (by omega)
          rw [hst] at l2 B2 hpl
          obtain ⟨g3, w3, e1, e2, e3, e4, _⟩ := layEach6 (a := 0) (n := n) (f := fun i => i) Q h4 (by decide) g2 w2 _ l2 B2 (pc_ft P F2) (fun i hi => (F2.1 _ _ _ (by omega)).trans (h04 i (by omega))) (fun i hi => by rw [pln_sn hpl]; show i < SN c; omega)
          have hpl2 := layN_pln (pl := pl) (ba := ba) (f := fun i => i) (c := liftN k c n) n (fun i hi => by rw [pln_sn hpl]; show i < SN c; omega)
          have F3 := ft_trans F2 (ft_fc e4)
          have eW : s_X1_waitedOf 1 (I n) g3 w3 = some (MW pl ba n c k) := waited6 e2 e3 (by rw [pln_sn hpl2, pln_sn hpl]; omega)
          have eS : SRV pl ba (fun i => i) (liftN k c n) n = MANY pl ba n c k := srv_many
          rw [eS] at e1
          show ∃ g' w', ((s_X1_liftAll 1 (I k) (cpg 6 8 15 1 0 g1) (cpw 6 15 1 0 w1)).bind fun q3 => (s_X1_layEach 1 0 (I n) q3.1 q3.2).bind fun q4 => (s_X1_waitedOf 1 (I n) q4.2.1 q4.2.2).bind fun q5 => if s_X2_isBetter 0 q4.1 (I k) q5 q4.2.1 q4.2.2 = true then s_X2_findMended_R7 0 0 (I n) m (I (k + 1)) (gI (gI (gI q4.2.1 2 0 4 q4.1) 2 0 6 (I k)) 2 0 5 q5) q4.2.2 else s_X2_findMended_R7 0 0 (I n) m (I (k + 1)) q4.2.1 q4.2.2) = some (g', w') ∧ _
          rw [l1]
          show ∃ g' w', ((s_X1_layEach 1 0 (I n) g2 w2).bind fun q4 => (s_X1_waitedOf 1 (I n) q4.2.1 q4.2.2).bind fun q5 => if s_X2_isBetter 0 q4.1 (I k) q5 q4.2.1 q4.2.2 = true then s_X2_findMended_R7 0 0 (I n) m (I (k + 1)) (gI (gI (gI q4.2.1 2 0 4 q4.1) 2 0 6 (I k)) 2 0 5 q5) q4.2.2 else s_X2_findMended_R7 0 0 (I n) m (I (k + 1)) q4.2.1 q4.2.2) = some (g', w') ∧ _
          rw [e1]
          show ∃ g' w', ((s_X1_waitedOf 1 (I n) g3 w3).bind fun q5 => if s_X2_isBetter 0 (I (MANY pl ba n c k)) (I k) q5 g3 w3 = true then s_X2_findMended_R7 0 0 (I n) m (I (k + 1)) (gI (gI (gI g3 2 0 4 (I (MANY pl ba n c k))) 2 0 6 (I k)) 2 0 5 q5) w3 else s_X2_findMended_R7 0 0 (I n) m (I (k + 1)) g3 w3) = some (g', w') ∧ _
          rw [eW]
          show ∃ g' w', (if s_X2_isBetter 0 (I (MANY pl ba n c k)) (I k) (MW pl ba n c k) g3 w3 = true then s_X2_findMended_R7 0 0 (I n) m (I (k + 1)) (gI (gI (gI g3 2 0 4 (I (MANY pl ba n c k))) 2 0 6 (I k)) 2 0 5 (MW pl ba n c k)) w3 else s_X2_findMended_R7 0 0 (I n) m (I (k + 1)) g3 w3) = some (g', w') ∧ _
          have same2 : ∀ j, g3 2 0 j = g1 2 0 j := fun j => (e4.1 _ _ _ (by omega)).trans ((l3.1 _ _ _ (by omega)).trans (cpg_o (by omega) (by omega) (by omega) (by omega) (by omega)))
          have take : mb pl ba n c (k + 1) = k → ∃ g' w', s_X2_findMended_R7 0 0 (I n) m (I (k + 1)) (gI (gI (gI g3 2 0 4 (I (MANY pl ba n c k))) 2 0 6 (I k)) 2 0 5 (MW pl ba n c k)) w3 = some (g', w') ∧ g' 2 0 4 = I (MANY pl ba n c (mb pl ba n c (2 ^ n))) ∧ g' 2 0 6 = I (mb pl ba n c (2 ^ n)) ∧ g' 2 0 5 = MW pl ba n c (mb pl ba n c (2 ^ n)) ∧ FT g w g' w' := fun hmb => by
            refine ih (k + 1) _ _ (by omega) (ft_trans F3 (ft_trans ft_2 (ft_trans ft_2 ft_2))) (Or.inr ⟨by omega, ?_, ?_, ?_⟩) (by omega)
            · rw [hmb, gI_at, if_neg (by omega), gI_at, if_neg (by omega), gI_at, if_pos ⟨rfl, rfl, rfl⟩]
            · rw [hmb, gI_at, if_neg (by omega), gI_at, if_pos ⟨rfl, rfl, rfl⟩]
            · rw [hmb, gI_at, if_pos ⟨rfl, rfl, rfl⟩]
          rcases q3 with ⟨rfl, q4⟩ | ⟨q4, q5, q6, q7⟩
          · have ml := many_le (pl := pl) (ba := ba) (c := c) n 0
            have yes : s_X2_isBetter 0 (I (MANY pl ba n c 0)) (I 0) (MW pl ba n c 0) g3 w3 = true := by
              unfold s_X2_isBetter s_X2_isBetter_21
              rw [same2, q4]
              have m1 : (-1 : Int32).toInt = -1 := rfl
              rw [if_neg (fun q => by have := congrArg Int32.toInt q; rw [I_toInt (by omega), m1] at this; omega), if_neg (by rw [Int32.le_iff_toInt_le, I_toInt (by omega), m1]; omega)]
            rw [if_pos yes]
            exact take mb_1
          · have hmk : mb pl ba n c k < 64 := by have := mb_lt (pl := pl) (ba := ba) (c := c) (n := n) k q4; omega
            have hB := better6 (g := g3) (w := w3) (a := k) h4 (by omega) hmk ((same2 4).trans q5) ((same2 6).trans q6) ((same2 5).trans q7)
            by_cases e5 : s_X2_isBetter 0 (I (MANY pl ba n c k)) (I k) (MW pl ba n c k) g3 w3 = true
            · rw [if_pos e5]
              exact take (mb_yes hC (hB.mp e5))
            · rw [if_neg e5]
              have hmb := mb_no (pl := pl) (ba := ba) (n := n) (c := c) (k := k) (fun q => e5 (hB.mpr q.2))
              exact ih (k + 1) g3 w3 (by omega) F3 (Or.inr ⟨by omega, by rw [same2, hmb]; exact q5, by rw [same2, hmb]; exact q6, by rw [same2, hmb]; exact q7⟩) (by omega)
        · rw [if_neg e]
          have hC : ¬ CAND c k := fun q => e (hbb.mpr q)
          rcases q3 with ⟨rfl, q4⟩ | ⟨q4, q5, q6, q7⟩
          · exact absurd cand_0 hC
          · have hmb := mb_no (pl := pl) (ba := ba) (n := n) (c := c) (k := k) (fun q => hC q.1)
            exact ih (k + 1) g1 w1 (by omega) q2 (Or.inr ⟨by omega, by rw [hmb]; exact q5, by rw [hmb]; exact q6, by rw [hmb]; exact q7⟩) (by omega)
      · have ek : k = 2 ^ n := by omega
        have h2n : 1 ≤ 2 ^ n := Nat.one_le_two_pow
        rw [if_pos (ile (by omega) (by omega))]
        rcases q3 with ⟨q3, _⟩ | ⟨_, q5, q6, q7⟩
        · omega
        · rw [ek] at q5 q6 q7
          exact ⟨g1, w1, rfl, q5, q6, q7, q2⟩
  exact key FU 0 (gI g 2 0 4 (-1)) w (Nat.zero_le _) ft_2 (Or.inl ⟨rfl, by rw [gI_at, if_pos ⟨rfl, rfl, rfl⟩]⟩) (by show 17 - 0 < 1000; omega)
end
