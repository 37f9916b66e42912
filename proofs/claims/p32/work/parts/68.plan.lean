/-! a plan: ships one behind the other -/
noncomputable def bestF (pl ba : Nat → Nat) (c : Nat → Int64) (s : Nat) : Nat × Nat := Classical.epsilon (fun p : Nat × Nat => BESTR c pl ba s p.1 p.2 ∨ (NOBEST c pl ba s ∧ p.2 = 0))
noncomputable def stepL (pl ba : Nat → Nat) (c : Nat → Int64) (s : Nat) : Nat → Int64 := if 0 ≤ HR c s then c else if (bestF pl ba c s).2 = 0 then c else cput c s (bestF pl ba c s).1 (bestF pl ba c s).2
noncomputable def laidF (pl ba : Nat → Nat) (c : Nat → Int64) (s : Nat) : Nat := if 0 ≤ HR c s then 0 else if (bestF pl ba c s).2 = 0 then 0 else 1
noncomputable def layN (pl ba : Nat → Nat) (f : Nat → Nat) (c : Nat → Int64) : Nat → (Nat → Int64)
  | 0 => c
  | n + 1 => stepL pl ba (layN pl ba f c n) (f n)
noncomputable def LAIDN (pl ba : Nat → Nat) (f : Nat → Nat) (c : Nat → Int64) (n : Nat) : Nat := fb_sm (fun i => laidF pl ba (layN pl ba f c i) (f i)) n
noncomputable def SRV (pl ba : Nat → Nat) (f : Nat → Nat) (c : Nat → Int64) (n : Nat) : Nat := fb_sm (fun i => if 0 ≤ HR (layN pl ba f c (i + 1)) (f i) then 1 else 0) n
section
variable {g g' : Nat → Nat → Nat → Int32} {w w' : Nat → Nat → Nat → Int64} {hb : Nat} {c c' : Nat → Int64} {pl ba : Nat → Nat}
theorem bestF_yes {s h v : Nat} (hB : BESTR c pl ba s h v) : bestF pl ba c s = (h, v) := by
  have q : BESTR c pl ba s (bestF pl ba c s).1 (bestF pl ba c s).2 ∨ (NOBEST c pl ba s ∧ (bestF pl ba c s).2 = 0) := Classical.epsilon_spec (p := fun p : Nat × Nat => BESTR c pl ba s p.1 p.2 ∨ (NOBEST c pl ba s ∧ p.2 = 0)) ⟨(h, v), Or.inl hB⟩
  rcases q with q | q
  · have := best_uniq q hB
    exact Prod.ext this.1 this.2
  · exact absurd (best_none hB q.1) id
theorem bestF_no {s : Nat} (hB : NOBEST c pl ba s) : (bestF pl ba c s).2 = 0 := by
  have q : BESTR c pl ba s (bestF pl ba c s).1 (bestF pl ba c s).2 ∨ (NOBEST c pl ba s ∧ (bestF pl ba c s).2 = 0) := Classical.epsilon_spec (p := fun p : Nat × Nat => BESTR c pl ba s p.1 p.2 ∨ (NOBEST c pl ba s ∧ p.2 = 0)) ⟨(0, 0), Or.inr ⟨hB, rfl⟩⟩
  rcases q with q | q
  · exact absurd (best_none q hB) id
  · exact q.2
/-- what the best job is like -/
theorem best_ok {s h v : Nat} (B : BI c) (hB : BESTR c pl ba s h v) : h ≤ 47 ∧ h + SF c s 3 ≤ 48 ∧ 1 ≤ v ∧ v < 2 ^ TN c ∧ ∀ t, t < TN c → v.testBit t = true → (WK c t ||| BN c t) &&& OWN c s h = 0 := by
  obtain ⟨h1, h2, h3, ⟨A, h4, h5⟩, _⟩ := hB
  refine ⟨h1, h2.1.2, by omega, ?_, fun t ht hv => ?_⟩
  · rcases h5 with ⟨q, _⟩ | ⟨_, q, _⟩
    · exact absurd q h3
    · have := h4.1; omega
  · rcases h5 with ⟨q, _⟩ | ⟨_, _, q, _⟩
    · exact absurd q h3
    · exact ((h4.2 t ht).mp (sub_bit q.1 hv)).1
theorem stepL_job {s : Nat} (h : JOB c s) : stepL pl ba c s = c := if_pos h
theorem stepL_no {s : Nat} (h : ¬ JOB c s) (h0 : (bestF pl ba c s).2 = 0) : stepL pl ba c s = c := by
  unfold stepL; rw [if_neg (show ¬ 0 ≤ HR c s from h), if_pos h0]
theorem stepL_yes {s h v : Nat} (hJ : ¬ JOB c s) (hB : BESTR c pl ba s h v) : stepL pl ba c s = cput c s h v := by
  unfold stepL
  rw [if_neg (show ¬ 0 ≤ HR c s from hJ), bestF_yes hB, if_neg hB.2.2.1]
theorem laidF_job {s : Nat} (h : JOB c s) : laidF pl ba c s = 0 := if_pos h
theorem laidF_no {s : Nat} (h : ¬ JOB c s) (h0 : (bestF pl ba c s).2 = 0) : laidF pl ba c s = 0 := by
  unfold laidF; rw [if_neg (show ¬ 0 ≤ HR c s from h), if_pos h0]
theorem laidF_yes {s h v : Nat} (hJ : ¬ JOB c s) (hB : BESTR c pl ba s h v) : laidF pl ba c s = 1 := by
  unfold laidF
  rw [if_neg (show ¬ 0 ≤ HR c s from hJ), bestF_yes hB, if_neg hB.2.2.1]
theorem cput_job {s h S : Nat} (hh : h ≤ 48) : JOB (cput c s h S) s := by
  unfold JOB HR; rw [cput_7, I64 (by omega)]; omega
theorem cput_hr {s s' h S : Nat} (hne : s' ≠ s) : HR (cput c s h S) s' = HR c s' := by
  unfold HR; rw [cput_o (by omega) (by omega) (by omega)]
/-- a best one there is, or none: the program finds it -/
theorem has_best (H : HB g w hb c) (B : BI c) (P : PC g pl ba) (Q : PB pl ba) {s : Nat} (hs : s < SN c) : NOBEST c pl ba s ∨ ∃ h v, BESTR c pl ba s h v := by
  obtain ⟨r, g', _, _, q⟩ := seek6 H B P Q hs
  rcases q with ⟨_, q⟩ | ⟨h, v, _, q, _⟩
  · exact Or.inl q
  · exact Or.inr ⟨h, v, q⟩
theorem step_pln {s : Nat} (hs : s < SN c) : PLN c (stepL pl ba c s) := by
  unfold stepL
  split
  · exact pln_refl
  · split
    · exact pln_refl
    · exact pln_cput hs
theorem layN_pln {f : Nat → Nat} : ∀ n, (∀ i, i < n → f i < SN c) → PLN c (layN pl ba f c n)
  | 0, _ => pln_refl
  | n + 1, h => by
    have q := layN_pln n (fun i hi => h i (by omega))
    exact pln_trans q (step_pln (by rw [pln_sn q]; exact h n (by omega)))
theorem step_hr {s s' : Nat} (hne : s' ≠ s) : HR (stepL pl ba c s) s' = HR c s' := by
  unfold stepL
  split
  · rfl
  · split
    · rfl
    · exact cput_hr hne
/-- the program lays one -/
theorem lay1_6 (H : HB g w hb c) (B : BI c) (P : PC g pl ba) (Q : PB pl ba) {s : Nat} (hs : s < SN c) (hJ : ¬ JOB c s) :
    ∃ r g1, s_X1_seekBest hb (8 * hb + s) g w = some (r, g1, w) ∧ ((r = -4 ∧ stepL pl ba c s = c ∧ laidF pl ba c s = 0 ∧ HB g1 w hb c ∧ FC hb g w g1 w ∧ g1 1 hb 11 = g 1 hb 11) ∨
      (r ≠ -4 ∧ ∃ g2 w2, s_X1_put hb (8 * hb + s) r (g1 1 hb 15) g1 w = some (g2, w2) ∧ HB g2 w2 hb (stepL pl ba c s) ∧ BI (stepL pl ba c s) ∧ FC hb g w g2 w2 ∧ laidF pl ba c s = 1 ∧ JOB (stepL pl ba c s) s ∧ g2 1 hb 11 = g 1 hb 11 + 1)) := by
  obtain ⟨r, g1, e1, e2, q⟩ := seek6 H B P Q hs
  have H1 := hb_frb H B e2
  have h8 := sn8 B
  have e11 : g1 1 hb 11 = g 1 hb 11 := e2 _ _ _ (by omega)
  refine ⟨r, g1, e1, ?_⟩
  rcases q with ⟨rfl, q⟩ | ⟨h, v, rfl, q, q15⟩
  · exact Or.inl ⟨rfl, stepL_no hJ (bestF_no q), laidF_no hJ (bestF_no q), H1, fc_frb e2, e11⟩
  · have ok := best_ok B q
    have hv6 := s64 B ok.2.2.2.1
    refine Or.inr ⟨fun p => ?_, ?_⟩
    · have := congrArg Int32.toInt p
      rw [I_toInt (by omega), show (-4 : Int32).toInt = -4 from rfl] at this
      omega
    · have ep := put_e H1 B hs ok.2.1 (S := v) hv6
      rw [q15, stepL_yes hJ q]
      refine ⟨_, _, ep, hb_put H1 B hs ok.2.2.2.1, bi_put B hs hJ ok.2.1 ok.2.2.1 ok.2.2.2.1 ok.2.2.2.2, ?_, laidF_yes hJ q, cput_job (by omega), ?_⟩
      · exact fc_trans (fc_frb e2) (fc_trans (fc_w5 (n := 6) (by decide)) (fc_trans (fc_pg (by omega)) (fc_1 (Or.inl rfl))))
      · rw [gI_at, if_pos ⟨rfl, rfl, rfl⟩, e11]
theorem bI_v (b : Bool) : bI b = I (if b = true then 1 else 0) := by cases b <;> rfl
/-- the program lays each -/
theorem layEach6 {a n : Nat} {f : Nat → Nat} (Q : PB pl ba) (hn : n ≤ 4) (ha : a < 3) : ∀ (g : Nat → Nat → Nat → Int32) (w : Nat → Nat → Nat → Int64) (c : Nat → Int64), HB g w hb c → BI c → PC g pl ba → (∀ i, i < n → g 1004 a i = I (f i)) → (∀ i, i < n → f i < SN c) →
    ∃ g' w', s_X1_layEach hb a (I n) g w = some (I (SRV pl ba f c n), g', w') ∧ HB g' w' hb (layN pl ba f c n) ∧ BI (layN pl ba f c n) ∧ FC hb g w g' w' ∧ g' 1 hb 11 = g 1 hb 11 + I (LAIDN pl ba f c n) := by
  intro g w c H B P hf hs
  have h8 := sn8 B
  have key : ∀ (m k : Nat) (g1 : Nat → Nat → Nat → Int32) (w1 : Nat → Nat → Nat → Int64), k ≤ n → HB g1 w1 hb (layN pl ba f c k) → BI (layN pl ba f c k) → FC hb g w g1 w1 → g1 1 hb 11 = g 1 hb 11 + I (LAIDN pl ba f c k) → 5 - k < m →
      ∃ g' w', s_X1_layEach_R5 hb a (I n) m (I (SRV pl ba f c k)) (I k) g1 w1 = some (I (SRV pl ba f c n), g', w') ∧ HB g' w' hb (layN pl ba f c n) ∧ BI (layN pl ba f c n) ∧ FC hb g w g' w' ∧ g' 1 hb 11 = g 1 hb 11 + I (LAIDN pl ba f c n) := by
    intro m
    induction m with
    | zero => intro k g1 w1 h1 h2 h3 h4 h5 hm; omega
    | succ m ih =>
      intro k g1 w1 h1 h2 h3 h4 h5 hm
      show ∃ g' w', s_X1_layEach_5 hb a (I n) (s_X1_layEach_R5 hb a (I n) m) (I (SRV pl ba f c k)) (I k) g1 w1 = some (I (SRV pl ba f c n), g', w') ∧ _
      unfold s_X1_layEach_5 s_X1_layEach_98 s_X1_layEach_104
      by_cases hk : k < n
      · have hfk := hs k hk
        have hf8 : f k < 8 := by omega
        have e04 : g1 1004 a k = I (f k) := (h4.1 _ _ _ (by omega)).trans (hf k hk)
        have hpl := layN_pln (pl := pl) (ba := ba) (f := f) (c := c) k (fun i hi => hs i (by omega))
        have hs1 : f k < SN (layN pl ba f c k) := by rw [pln_sn hpl]; exact hfk
        have P1 := pc_fc P h4
        have hw7 : s_X6_within (I (f k)) 0 7 g1 w1 = true := by
          rw [within_eq]
          exact decide_eq_true ⟨ile (a := 0) (by omega) (by omega), ile (k := 7) (by omega) (by decide)⟩
        rw [if_neg (nle hk (by omega)), if_neg (show ¬ (4 : Int32) ≤ I k from nle (a := 4) (by omega) (by decide)), if_pos (inR_I (by omega) (by decide)), I_tn (by omega), e04, if_pos hw7, if_pos (inR_I (by omega) (by decide)), if_pos (inR_I hf8 (by decide)), I_tn (by omega)]
        -- the end of a round
        have fin : ∀ g2 w2 (b : Bool), HB g2 w2 hb (layN pl ba f c (k + 1)) → BI (layN pl ba f c (k + 1)) → FC hb g w g2 w2 → g2 1 hb 11 = g 1 hb 11 + I (LAIDN pl ba f c (k + 1)) →
            ∃ g' w', s_X1_layEach_82 hb a (I n) (s_X1_layEach_R5 hb a (I n) m) (I (SRV pl ba f c k)) (I k) (8 * hb + f k) g2 w2 = some (I (SRV pl ba f c n), g', w') ∧ HB g' w' hb (layN pl ba f c n) ∧ BI (layN pl ba f c n) ∧ FC hb g w g' w' ∧ g' 1 hb 11 = g 1 hb 11 + I (LAIDN pl ba f c n) := by
          intro g2 w2 _ p1 p2 p3 p4
          unfold s_X1_layEach_82 s_X1_layEach_96 s_X1_layEach_98
          have hpl2 := layN_pln (pl := pl) (ba := ba) (f := f) (c := c) (k + 1) (fun i hi => hs i (by omega))
          have hj := hasJob6 p1 p2 (s := f k) hf8
          have es : SRV pl ba f c (k + 1) = SRV pl ba f c k + (if 0 ≤ HR (layN pl ba f c (k + 1)) (f k) then 1 else 0) := fb_sm_succ _ k
          by_cases e : s_X4_hasJob (8 * hb + f k) g2 w2 = true
          · rw [if_pos e, bI_v, if_pos rfl, I_add, I_suc]
            rw [if_pos (show 0 ≤ HR (layN pl ba f c (k + 1)) (f k) from (hj.mp e).2)] at es
            rw [← es]
            exact ih (k + 1) g2 w2 (by omega) p1 p2 p3 p4 (by omega)
          · rw [if_neg e, bI_v, if_neg (by decide), I_add, I_suc]
            have hn : ¬ JOB (layN pl ba f c (k + 1)) (f k) := fun q => e (hj.mpr ⟨by rw [pln_sn hpl2]; exact hfk, q⟩)
            rw [if_neg (show ¬ 0 ≤ HR (layN pl ba f c (k + 1)) (f k) from hn)] at es
            rw [← es]
            exact ih (k + 1) g2 w2 (by omega) p1 p2 p3 p4 (by omega)
        have el : LAIDN pl ba f c (k + 1) = LAIDN pl ba f c k + laidF pl ba (layN pl ba f c k) (f k) := fb_sm_succ _ k
        have en : layN pl ba f c (k + 1) = stepL pl ba (layN pl ba f c k) (f k) := rfl
        by_cases e : s_X4_hasJob (8 * hb + f k) g1 w1 = true
        · have hJ := ((hasJob6 h2 h3 hf8).mp e).2
          rw [if_pos e]
          show ∃ g' w', (if (-4 : Int32) = -4 then s_X1_layEach_82 hb a (I n) (s_X1_layEach_R5 hb a (I n) m) (I (SRV pl ba f c k)) (I k) (8 * hb + f k) g1 w1 else _) = some (I (SRV pl ba f c n), g', w') ∧ _
          rw [if_pos rfl]
          rw [stepL_job hJ] at en
          rw [laidF_job hJ, Nat.add_zero] at el
          exact fin g1 w1 true (by rw [en]; exact h2) (by rw [en]; exact h3) h4 (by rw [el]; exact h5)
        · have hJ : ¬ JOB (layN pl ba f c k) (f k) := fun q => e ((hasJob6 h2 h3 hf8).mpr ⟨hs1, q⟩)
          rw [if_neg e]
          obtain ⟨r, g2, q1, q2⟩ := lay1_6 h2 h3 P1 Q hs1 hJ
          rw [q1]
          show ∃ g' w', s_X1_layEach_61 hb a (I n) (s_X1_layEach_R5 hb a (I n) m) r (I (SRV pl ba f c k)) (I k) (8 * hb + f k) g2 w1 = some (I (SRV pl ba f c n), g', w') ∧ _
          unfold s_X1_layEach_61
          rcases q2 with ⟨rfl, q3, q4, q5, q6, q7⟩ | ⟨q3, g3, w3, q4, q5, q6, q7, q8, q9, q10⟩
          · rw [if_pos rfl]
            rw [q3] at en
            rw [q4, Nat.add_zero] at el
            exact fin g2 w1 true (by rw [en]; exact q5) (by rw [en]; exact h3) (fc_trans h4 q6) (by rw [q7, h5, el]; rfl)
          · rw [if_neg q3, q4]
            show ∃ g' w', s_X1_layEach_82 hb a (I n) (s_X1_layEach_R5 hb a (I n) m) (I (SRV pl ba f c k)) (I k) (8 * hb + f k) g3 w3 = some (I (SRV pl ba f c n), g', w') ∧ _
            rw [q8] at el
            exact fin g3 w3 true q5 q6 (fc_trans h4 q7) (by rw [q10, h5, el, Int32.add_assoc, I_suc])
      · have e : k = n := by omega
        subst e
        rw [if_pos (ile (Nat.le_refl _) (by omega))]
        exact ⟨g1, w1, rfl, h2, h3, h4, h5⟩
  exact key FU 0 g w (by omega) H B fc_refl (by show g 1 hb 11 = g 1 hb 11 + 0; rw [Int32.add_zero]) (by show 5 - 0 < 1000; omega)
/-- the reference lays one -/
theorem lay1_7 (R : RV w c) (B : BI c) (P : PR g pl ba) (Q : PB pl ba) {s : Nat} (hs : s < SN c) (hJ : ¬ JOB c s) :
    ∃ r g1, s_X7_finds 0 (I s) g w = some (r, g1, w) ∧ ((r = false ∧ stepL pl ba c s = c ∧ laidF pl ba c s = 0 ∧ FP g w g1 w) ∨
      (r = true ∧ ∃ w2, s_X7_lays 0 (I s) (g1 7 0 10) (g1 7 0 11) g1 w = some (g1, w2) ∧ RV w2 (stepL pl ba c s) ∧ BI (stepL pl ba c s) ∧ FP g w g1 w2 ∧ laidF pl ba c s = 1)) := by
  obtain ⟨r, g1, e1, e2, q⟩ := finds7 R B P Q hs hJ
  have h6 := tn6 B
  have h8 := sn8 B
  refine ⟨r, g1, e1, ?_⟩
  rcases q with ⟨rfl, q⟩ | ⟨h, v, rfl, q, q10, q11⟩
  · exact Or.inl ⟨rfl, stepL_no hJ (bestF_no q), laidF_no hJ (bestF_no q), fp_fr7 e2⟩
  · have ok := best_ok B q
    have hv6 := s64 B ok.2.2.2.1
    have ep := lays_e (g := g1) R B hs ok.2.1 (S := v) hv6
    rw [q10, q11, stepL_yes hJ q]
    refine Or.inr ⟨rfl, _, ep, rc_put R B hs ok.2.2.2.1, bi_put B hs hJ ok.2.1 ok.2.2.1 ok.2.2.2.1 ok.2.2.2.2, ?_, laidF_yes hJ q⟩
    exact fp_trans (fp_fr7 e2) (fp_trans (fp_wj (by omega)) (fp_wr h6))
end
