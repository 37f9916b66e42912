/-! all jobs off; what is set aside and comes back -/
def cclr (c : Nat → Int64) : Nat → Int64 := fun k => if 70 ≤ k ∧ k < 130 ∧ (k - 70) % 10 = 8 then 0 else if 130 ≤ k ∧ (k - 130) / 11 < SN c ∧ (k - 130) % 11 = 7 then -4 else if 130 ≤ k ∧ (k - 130) / 11 < SN c ∧ (k - 130) % 11 = 8 then 0 else c k
/-- the cells that a plan changes -/
def pk (c : Nat → Int64) (k : Nat) : Prop := (70 ≤ k ∧ k < 130 ∧ (k - 70) % 10 = 8) ∨ (130 ≤ k ∧ (k - 130) / 11 < SN c ∧ ((k - 130) % 11 = 7 ∨ (k - 130) % 11 = 8))
def PLN (c c' : Nat → Int64) : Prop := ∀ k, ¬ pk c k → c' k = c k
def FC (hb : Nat) (g0 : Nat → Nat → Nat → Int32) (w0 : Nat → Nat → Nat → Int64) (g : Nat → Nat → Nat → Int32) (w : Nat → Nat → Nat → Int64) : Prop :=
  (∀ F i j, ¬ ((F = 4 ∧ 8 * hb ≤ i ∧ i < 8 * hb + 8 ∧ (j = 7 ∨ j = 8)) ∨ (F = 1 ∧ i = hb ∧ (j = 11 ∨ j = 15))) → g F i j = g0 F i j) ∧
  (∀ F i j, ¬ (F = 5 ∧ 6 * hb ≤ i ∧ i < 6 * hb + 6 ∧ j = 8) → w F i j = w0 F i j)
/-- the reference's plan: only cells of its own -/
def FP (g0 : Nat → Nat → Nat → Int32) (w0 : Nat → Nat → Nat → Int64) (g : Nat → Nat → Nat → Int32) (w : Nat → Nat → Nat → Int64) : Prop :=
  (∀ F i j, ¬ (F = 7 ∧ i = 0 ∧ (j = 10 ∨ j = 11)) → g F i j = g0 F i j) ∧ (∀ F i j, ¬ (F = 2218 ∧ i = 0 ∧ 70 ≤ j ∧ j < 218) → w F i j = w0 F i j)
section
variable {g g' g'' : Nat → Nat → Nat → Int32} {w w' w'' : Nat → Nat → Nat → Int64} {hb : Nat} {c c' : Nat → Int64} {pl ba : Nat → Nat}
theorem fc_refl : FC hb g w g w := ⟨fun _ _ _ _ => rfl, fun _ _ _ _ => rfl⟩
theorem fc_trans (h1 : FC hb g w g' w') (h2 : FC hb g' w' g'' w'') : FC hb g w g'' w'' := ⟨fun F i j q => (h2.1 F i j q).trans (h1.1 F i j q), fun F i j q => (h2.2 F i j q).trans (h1.2 F i j q)⟩
theorem fp_refl : FP g w g w := ⟨fun _ _ _ _ => rfl, fun _ _ _ _ => rfl⟩
theorem fp_trans (h1 : FP g w g' w') (h2 : FP g' w' g'' w'') : FP g w g'' w'' := ⟨fun F i j q => (h2.1 F i j q).trans (h1.1 F i j q), fun F i j q => (h2.2 F i j q).trans (h1.2 F i j q)⟩
theorem fc_pg {s : Nat} {a b : Int32} (hs : s < 8) : FC hb g w (pg (8 * hb + s) a b g) w := ⟨fun F i j q => by unfold pg; rw [gI_at, if_neg (by omega), gI_at, if_neg (by omega)], fun _ _ _ _ => rfl⟩
theorem fc_w5 {f : Nat → Int64 → Int64} {n : Nat} (hn : n ≤ 6) : FC hb g w g (w5 hb f n w) := ⟨fun _ _ _ _ => rfl, fun F i j q => w5_out (by omega)⟩
theorem fc_1 {j : Nat} {x : Int32} (hj : j = 11 ∨ j = 15) : FC hb g w (gI g 1 hb j x) w := ⟨fun F i j' q => by rw [gI_at, if_neg (by omega)], fun _ _ _ _ => rfl⟩
theorem fc_frb (h : FRB hb g g') : FC hb g w g' w := ⟨fun F i j q => h F i j (by omega), fun _ _ _ _ => rfl⟩
theorem fp_fr7 (h : FR7 g g') : FP g w g' w := ⟨h, fun _ _ _ _ => rfl⟩
theorem fp_wr {f : Nat → Int64 → Int64} {n : Nat} (hn : n ≤ 6) : FP g w g (wr f n w) := ⟨fun _ _ _ _ => rfl, fun F i j q => wr_out (by omega)⟩
theorem fp_wj {s : Nat} {a b : Int64} (hs : s < 8) : FP g w g (wj s a b w) := ⟨fun _ _ _ _ => rfl, fun F i j q => by unfold wj; rw [wL_at, if_neg (by omega), wL_at, if_neg (by omega)]⟩
theorem pc_fc (P : PC g pl ba) (h : FC hb g w g' w') : PC g' pl ba := fun b hb2 => ⟨(h.1 1006 0 b (by omega)).trans (P b hb2).1, (h.1 1006 1 b (by omega)).trans (P b hb2).2⟩
theorem pr_fp (P : PR g pl ba) (h : FP g w g' w') : PR g' pl ba := fun b hb2 => ⟨(h.1 1006 2 b (by omega)).trans (P b hb2).1, (h.1 1006 3 b (by omega)).trans (P b hb2).2⟩
theorem pln_refl : PLN c c := fun _ _ => rfl
theorem pln_sn (h : PLN c c') : SN c' = SN c := by unfold SN nf; rw [h 65 (by unfold pk; omega)]
theorem pln_trans {c2 : Nat → Int64} (h1 : PLN c c') (h2 : PLN c' c2) : PLN c c2 := fun k q => (h2 k (by unfold pk at q ⊢; rw [pln_sn h1]; exact q)).trans (h1 k q)
theorem pln_cput {s h S : Nat} (hs : s < SN c) : PLN c (cput c s h S) := fun k q => cput_o (by unfold pk at q; omega) (by unfold pk at q; omega) (by unfold pk at q; omega)
theorem pln_ctake {s : Nat} {m : Int64} (hs : s < SN c) : PLN c (ctake c s m) := fun k q => ctake_o (by unfold pk at q; omega) (by unfold pk at q; omega) (by unfold pk at q; omega)
theorem pln_cclr : PLN c (cclr c) := fun k q => by
  unfold cclr
  unfold pk at q
  rw [if_neg (by omega), if_neg (by omega), if_neg (by omega)]
theorem cclr_pln (h : PLN c c') : cclr c' = cclr c := by
  funext k
  unfold cclr
  rw [pln_sn h]
  by_cases h1 : 70 ≤ k ∧ k < 130 ∧ (k - 70) % 10 = 8
  · rw [if_pos h1, if_pos h1]
  · rw [if_neg h1, if_neg h1]
    by_cases h2 : 130 ≤ k ∧ (k - 130) / 11 < SN c ∧ (k - 130) % 11 = 7
    · rw [if_pos h2, if_pos h2]
    · rw [if_neg h2, if_neg h2]
      by_cases h3 : 130 ≤ k ∧ (k - 130) / 11 < SN c ∧ (k - 130) % 11 = 8
      · rw [if_pos h3, if_pos h3]
      · rw [if_neg h3, if_neg h3]
        exact h k (by unfold pk; omega)
theorem pln_same (B : BI c) (h : PLN c c') : SAME c c' := fun k q => h k (by
  have := sn8 B
  unfold jk at q
  unfold pk
  omega)
theorem cclr_7 {s : Nat} (hs : s < SN c) : cclr c (130 + 11 * s + 7) = -4 := by
  unfold cclr; rw [if_neg (by omega), if_pos (by omega)]
theorem cclr_8 {s : Nat} (hs : s < SN c) : cclr c (130 + 11 * s + 8) = 0 := by
  unfold cclr; rw [if_neg (by omega), if_neg (by omega), if_pos (by omega)]
theorem cclr_wk {t : Nat} (ht : t < 6) : WK (cclr c) t = 0 := by
  unfold WK cclr; rw [if_pos (by omega)]
theorem cclr_nojob {s : Nat} (hs : s < SN c) : ¬ JOB (cclr c) s := by
  unfold JOB HR; rw [cclr_7 hs]; decide
theorem b48_0 : b48 0 := fun k _ => tb_0 k
theorem bi_clr (B : BI c) : BI (cclr c) := by
  have e6 := tn6 B
  refine bi_mk B (pln_same B pln_cclr) ?_ (fun t ht => ⟨?_, ?_, ?_⟩) (fun s hs => Or.inl ⟨?_, cclr_8 hs⟩) (fun s hs hJ => absurd hJ (cclr_nojob hs)) (fun s s' hs hs' hne hJ => absurd hJ (cclr_nojob hs))
  · rw [pln_cclr 63 (by unfold pk; omega)]; exact B.1.2.2.2.2.2
  · unfold rb; rw [pln_cclr _ (by unfold pk; omega)]; exact (bt B ht).2.2.2.2.2.2.2.1
  · rw [cclr_wk (by omega)]; exact b48_0
  · show b48 (cclr c (70 + 10 * t + 9))
    rw [pln_cclr _ (by unfold pk; omega)]; exact (bt B ht).2.2.2.2.2.2.2.2.2.2
  · unfold HR; rw [cclr_7 hs]; rfl
/-- the program -/
def g4n (hb n : Nat) (g : Nat → Nat → Nat → Int32) : Nat → Nat → Nat → Int32 := fun F i j => if F = 4 ∧ 8 * hb ≤ i ∧ i < 8 * hb + n ∧ j = 7 then -4 else if F = 4 ∧ 8 * hb ≤ i ∧ i < 8 * hb + n ∧ j = 8 then 0 else g F i j
theorem g4n_s {k : Nat} : pg (8 * hb + k) (-4) (I 0) (g4n hb k g) = g4n hb (k + 1) g := by
  funext F i j
  unfold pg
  rw [gI_at, gI_at]
  unfold g4n
  by_cases h8 : F = 4 ∧ i = 8 * hb + k ∧ j = 8
  · rw [if_pos h8, if_neg (by omega), if_pos (by omega)]; rfl
  · by_cases h7 : F = 4 ∧ i = 8 * hb + k ∧ j = 7
    · rw [if_neg h8, if_pos h7, if_pos (by omega)]
    · rw [if_neg h8, if_neg h7]
      have e1 : (F = 4 ∧ 8 * hb ≤ i ∧ i < 8 * hb + k ∧ j = 7) ↔ (F = 4 ∧ 8 * hb ≤ i ∧ i < 8 * hb + (k + 1) ∧ j = 7) := by omega
      have e2 : (F = 4 ∧ 8 * hb ≤ i ∧ i < 8 * hb + k ∧ j = 8) ↔ (F = 4 ∧ 8 * hb ≤ i ∧ i < 8 * hb + (k + 1) ∧ j = 8) := by omega
      simp only [e1, e2]
theorem clear_e : s_X1_clearPlan hb g w = some (g4n hb 8 g, w5 hb (fun _ _ => 0) 6 w) := by
  have key2 : ∀ (n k : Nat), k ≤ 8 → 9 - k < n → s_X1_clearPlan_R42 hb n (I k) (g4n hb k g) (w5 hb (fun _ _ => 0) 6 w) = some (g4n hb 8 g, w5 hb (fun _ _ => 0) 6 w) := by
    intro n
    induction n with
    | zero => intro k h1 hm; omega
    | succ n ih =>
      intro k h1 hm
      show s_X1_clearPlan_42 hb (s_X1_clearPlan_R42 hb n) (I k) (g4n hb k g) (w5 hb (fun _ _ => 0) 6 w) = _
      unfold s_X1_clearPlan_42
      by_cases hk : k < 8
      · rw [if_neg (show ¬ (8 : Int32) ≤ I k from nle (a := 8) hk (by decide)), if_pos (inR_I hk (by decide)), I_tn (by omega), drop_e, I_suc]
        show s_X1_clearPlan_R42 hb n (I (k + 1)) (pg (8 * hb + k) (-4) (I 0) (g4n hb k g)) (w5 hb (fun _ _ => 0) 6 w) = _
        rw [g4n_s]
        exact ih (k + 1) (by omega) (by omega)
      · have e : k = 8 := by omega
        subst e
        rw [if_pos (show (8 : Int32) ≤ I 8 by decide)]
  have key : ∀ (n k : Nat), k ≤ 6 → 7 - k < n → s_X1_clearPlan_R10 hb n (I k) g (w5 hb (fun _ _ => 0) k w) = some (g4n hb 8 g, w5 hb (fun _ _ => 0) 6 w) := by
    intro n
    induction n with
    | zero => intro k h1 hm; omega
    | succ n ih =>
      intro k h1 hm
      show s_X1_clearPlan_10 hb (s_X1_clearPlan_R10 hb n) (I k) g (w5 hb (fun _ _ => 0) k w) = _
      unfold s_X1_clearPlan_10
      by_cases hk : k < 6
      · rw [if_neg (show ¬ (6 : Int32) ≤ I k from nle (a := 6) hk (by decide)), if_pos (inR_I hk (by decide)), I_tn (by omega), I_suc]
        have q := w5_s (hb := hb) (w := w) (f := fun _ _ => 0) (k := k)
        rw [q]
        exact ih (k + 1) (by omega) (by omega)
      · have e : k = 6 := by omega
        subst e
        rw [if_pos (show (6 : Int32) ≤ I 6 by decide)]
        have q := key2 FU 0 (by decide) (by decide)
        have e0 : g4n hb 0 g = g := by
          funext F i j; unfold g4n; rw [if_neg (by omega), if_neg (by omega)]
        rw [e0] at q
        exact q
  have q := key FU 0 (by decide) (by decide)
  rw [w5_0] at q
  exact q
theorem fc_clear : FC hb g w (g4n hb 8 g) (w5 hb (fun _ _ => 0) 6 w) := ⟨fun F i j q => by unfold g4n; rw [if_neg (by omega), if_neg (by omega)], fun F i j q => w5_out (by omega)⟩
theorem hb_clear (H : HB g w hb c) (B : BI c) : HB (g4n hb 8 g) (w5 hb (fun _ _ => 0) 6 w) hb (cclr c) := by
  have h6 := tn6 B
  have h8 := sn8 B
  have S := pln_same B (pln_cclr (c := c))
  have go : ∀ F i j, ¬ (F = 4 ∧ 8 * hb ≤ i ∧ i < 8 * hb + 8 ∧ (j = 7 ∨ j = 8)) → g4n hb 8 g F i j = g F i j := fun F i j q => by unfold g4n; rw [if_neg (by omega), if_neg (by omega)]
  have e7 : ∀ s, s < 8 → g4n hb 8 g 4 (8 * hb + s) 7 = -4 := fun s hs => by unfold g4n; rw [if_pos (by omega)]
  refine ⟨⟨fun x hx => ?_, fun x hx => ?_, fun j hj => ?_, fun j hj => ?_, fun t ht j hj => ?_, fun s' hs' j hj => ?_⟩, ?_, fun t ht => ⟨?_, ?_, ?_⟩, fun t q1 q2 => ?_, fun s' hs' => ⟨?_, ?_⟩, fun s' q1 q2 => ?_⟩
  · rw [pln_cclr _ (by unfold pk; omega), go _ _ _ (by omega)]; exact H.1.1 x hx
  · rw [pln_cclr _ (by unfold pk; omega), go _ _ _ (by omega)]; exact H.1.2.1 x hx
  · rw [pln_cclr _ (by unfold pk; omega), go _ _ _ (by omega)]; exact H.1.2.2.1 j hj
  · rw [pln_cclr _ (by unfold pk; omega), go _ _ _ (by omega)]; exact H.1.2.2.2.1 j hj
  · rw [pln_cclr _ (by unfold pk; omega), go _ _ _ (by omega)]; exact H.1.2.2.2.2.1 t ht j hj
  · rw [pln_cclr _ (by unfold pk; omega), go _ _ _ (by omega)]; exact H.1.2.2.2.2.2 s' hs' j hj
  · rw [pln_cclr _ (by unfold pk; omega), w5_out (by omega)]; exact H.2.1
  · rw [same_tn S] at ht
    rw [go _ _ _ (by omega), show TF (cclr c) t 7 = TF c t 7 from by unfold TF nf; rw [pln_cclr _ (by unfold pk; omega)]]
    exact (H.2.2.1 t ht).1
  · rw [same_tn S] at ht
    rw [w5_at (by omega), cclr_wk (by omega)]
  · rw [same_tn S] at ht
    rw [w5_out (by omega), (H.2.2.1 t ht).2.2]
    exact (pln_cclr (70 + 10 * t + 9) (by unfold pk; omega)).symm
  · rw [w5_at (by omega)]
  · rw [same_sn S] at hs'
    rw [e7 s' (by omega)]
    unfold HR
    rw [cclr_7 hs']; rfl
  · rw [same_sn S] at hs'
    unfold SF nf
    rw [cclr_8 hs']
    unfold g4n
    rw [if_neg (by omega), if_pos (by omega)]; rfl
  · exact e7 s' q2
/-- the reference -/
def wcl (n : Nat) (w : Nat → Nat → Nat → Int64) : Nat → Nat → Nat → Int64 := fun F i j => if F = 2218 ∧ i = 0 ∧ 130 ≤ j ∧ (j - 130) / 11 < n ∧ (j - 130) % 11 = 7 then -4 else if F = 2218 ∧ i = 0 ∧ 130 ≤ j ∧ (j - 130) / 11 < n ∧ (j - 130) % 11 = 8 then 0 else w F i j
theorem wcl_s {k : Nat} : wj k (-4) 0 (wcl k w) = wcl (k + 1) w := by
  funext F i j
  unfold wj
  rw [wL_at, wL_at]
  unfold wcl
  by_cases h8 : F = 2218 ∧ i = 0 ∧ j = 130 + 11 * k + 8
  · rw [if_pos h8, if_neg (by omega), if_pos (by omega)]
  · by_cases h7 : F = 2218 ∧ i = 0 ∧ j = 130 + 11 * k + 7
    · rw [if_neg h8, if_pos h7, if_pos (by omega)]
    · rw [if_neg h8, if_neg h7]
      have e1 : (F = 2218 ∧ i = 0 ∧ 130 ≤ j ∧ (j - 130) / 11 < k ∧ (j - 130) % 11 = 7) ↔ (F = 2218 ∧ i = 0 ∧ 130 ≤ j ∧ (j - 130) / 11 < k + 1 ∧ (j - 130) % 11 = 7) := by omega
      have e2 : (F = 2218 ∧ i = 0 ∧ 130 ≤ j ∧ (j - 130) / 11 < k ∧ (j - 130) % 11 = 8) ↔ (F = 2218 ∧ i = 0 ∧ 130 ≤ j ∧ (j - 130) / 11 < k + 1 ∧ (j - 130) % 11 = 8) := by omega
      simp only [e1, e2]
theorem empties_e (R : RV w c) (B : BI c) : s_X7_empties 0 g w = some (g, wcl (SN c) (wr (fun _ _ => 0) 6 w)) := by
  have h8 := sn8 B
  have e65 : ∀ k, wcl k (wr (fun _ _ => 0) 6 w) 2218 0 65 = c 65 := fun k => by
    unfold wcl; rw [if_neg (by omega), if_neg (by omega), wr_out (by omega), R 65 (by decide)]
  have key2 : ∀ (n k : Nat), k ≤ SN c → 9 - k < n → s_X7_empties_R32 0 n (I k) g (wcl k (wr (fun _ _ => 0) 6 w)) = some (g, wcl (SN c) (wr (fun _ _ => 0) 6 w)) := by
    intro n
    induction n with
    | zero => intro k h1 hm; omega
    | succ n ih =>
      intro k h1 hm
      show s_X7_empties_32 0 (s_X7_empties_R32 0 n) (I k) g (wcl k (wr (fun _ _ => 0) 6 w)) = _
      unfold s_X7_empties_32
      have eN := lgI (k := k) ((e65 k).trans (nf_L B.1.2.1 (by decide))) (by omega) (by unfold SN at h8; omega)
      rw [n65, I_suc]
      by_cases hk : k < SN c
      · have q7 := ix7 (s := k) (by omega)
        have q8 := ix8 (s := k) (by omega)
        rw [if_neg (fun q => by have := eN.mp q; unfold SN at hk; omega), if_pos q7.1, if_pos q8.1, q7.2, q8.2]
        show s_X7_empties_R32 0 n (I (k + 1)) g (wj k (-4) 0 (wcl k (wr (fun _ _ => 0) 6 w))) = _
        rw [wcl_s]
        exact ih (k + 1) (by omega) (by omega)
      · have ek : k = SN c := by omega
        rw [if_pos (eN.mpr (by unfold SN at ek; omega)), ek]
  have key : ∀ (n k : Nat), k ≤ 6 → 7 - k < n → s_X7_empties_R2 0 n (I k) g (wr (fun _ _ => 0) k w) = some (g, wcl (SN c) (wr (fun _ _ => 0) 6 w)) := by
    intro n
    induction n with
    | zero => intro k h1 hm; omega
    | succ n ih =>
      intro k h1 hm
      show s_X7_empties_2 0 (s_X7_empties_R2 0 n) (I k) g (wr (fun _ _ => 0) k w) = _
      unfold s_X7_empties_2
      by_cases hk : k < 6
      · have q8 := iw8 (t := k) (by omega)
        rw [if_neg (show ¬ (6 : Int32) ≤ I k from nle (a := 6) hk (by decide)), if_pos q8.1, q8.2, I_suc]
        have q := wr_s (w := w) (f := fun _ _ => 0) (k := k)
        rw [q]
        exact ih (k + 1) (by omega) (by omega)
      · have e : k = 6 := by omega
        subst e
        rw [if_pos (show (6 : Int32) ≤ I 6 by decide)]
        have q := key2 FU 0 (by omega) (by show 9 - 0 < 1000; omega)
        have e0 : wcl 0 (wr (fun _ _ => 0) 6 w) = wr (fun _ _ => 0) 6 w := by
          funext F i j; unfold wcl; rw [if_neg (by omega), if_neg (by omega)]
        rw [e0] at q
        exact q
  have q := key FU 0 (by decide) (by decide)
  rw [wr_0] at q
  exact q
theorem fp_empties (B : BI c) : FP g w g (wcl (SN c) (wr (fun _ _ => 0) 6 w)) := by
  have h8 := sn8 B
  refine ⟨fun _ _ _ _ => rfl, fun F i j q => ?_⟩
  unfold wcl
  rw [if_neg (by omega), if_neg (by omega), wr_out (by omega)]
theorem rv_empties (R : RV w c) (B : BI c) : RV (wcl (SN c) (wr (fun _ _ => 0) 6 w)) (cclr c) := by
  have h8 := sn8 B
  intro k hk
  unfold wcl cclr
  by_cases h1 : 70 ≤ k ∧ k < 130 ∧ (k - 70) % 10 = 8
  · obtain ⟨t, rfl, ht⟩ : ∃ t, k = 70 + 10 * t + 8 ∧ t < 6 := ⟨(k - 70) / 10, by omega, by omega⟩
    rw [if_neg (by omega), if_neg (by omega), wr_at ht, if_pos h1]
  · rw [if_neg h1]
    by_cases h2 : 130 ≤ k ∧ (k - 130) / 11 < SN c ∧ (k - 130) % 11 = 7
    · rw [if_pos (by omega), if_pos h2]
    · rw [if_neg (by omega), if_neg h2]
      by_cases h3 : 130 ≤ k ∧ (k - 130) / 11 < SN c ∧ (k - 130) % 11 = 8
      · rw [if_pos (by omega), if_pos h3]
      · rw [if_neg (by omega), if_neg h3, wr_out (by omega), R k hk]
/-! set aside, and back -/
def wa (n m : Nat) (w : Nat → Nat → Nat → Int64) : Nat → Nat → Nat → Int64 := fun F i j =>
  if F = 2022 ∧ i = 0 ∧ j < n then w 2218 0 (70 + 10 * j + 8) else if F = 2022 ∧ i = 0 ∧ 6 ≤ j ∧ j < 6 + 2 * m then w 2218 0 (130 + 11 * ((j - 6) / 2) + 7 + (j - 6) % 2) else w F i j
def wb (n m : Nat) (w : Nat → Nat → Nat → Int64) : Nat → Nat → Nat → Int64 := fun F i j =>
  if F = 2218 ∧ i = 0 ∧ 70 ≤ j ∧ j < 70 + 10 * n ∧ (j - 70) % 10 = 8 then w 2022 0 ((j - 70) / 10) else if F = 2218 ∧ i = 0 ∧ 130 ≤ j ∧ (j - 130) / 11 < m ∧ ((j - 130) % 11 = 7 ∨ (j - 130) % 11 = 8) then w 2022 0 (6 + 2 * ((j - 130) / 11) + ((j - 130) % 11 - 7)) else w F i j
theorem ia {k : Nat} (hk : k < 22) : inR (I k) 22 = true ∧ (I k).toNatClampNeg = k := ⟨inR_I hk (by decide), I_tn (by omega)⟩
theorem i6 {k : Nat} (hk : k < 8) : inR ((6 : Int32) + (2 : Int32) * I k) 22 = true ∧ ((6 : Int32) + (2 : Int32) * I k).toNatClampNeg = 6 + 2 * k := by
  rw [i_6, i_2, I_mul, I_add]
  exact ⟨inR_I (by omega) (by decide), I_tn (by omega)⟩
theorem i7 {k : Nat} (hk : k < 8) : inR ((7 : Int32) + (2 : Int32) * I k) 22 = true ∧ ((7 : Int32) + (2 : Int32) * I k).toNatClampNeg = 7 + 2 * k := by
  rw [i_7, i_2, I_mul, I_add]
  exact ⟨inR_I (by omega) (by decide), I_tn (by omega)⟩
theorem asides_e : s_X7_asides 0 g w = some (g, wa 6 8 w) := by
  have key2 : ∀ (n k : Nat), k ≤ 8 → 9 - k < n → s_X7_asides_R37 0 n (I k) g (wa 6 k w) = some (g, wa 6 8 w) := by
    intro n
    induction n with
    | zero => intro k h1 hm; omega
    | succ n ih =>
      intro k h1 hm
      show s_X7_asides_37 0 (s_X7_asides_R37 0 n) (I k) g (wa 6 k w) = _
      unfold s_X7_asides_37
      by_cases hk : k < 8
      · have q7 := ix7 (s := k) hk
        have q8 := ix8 (s := k) hk
        have a6 := i6 hk
        have a7 := i7 hk
        rw [if_neg (show ¬ (8 : Int32) ≤ I k from nle (a := 8) hk (by decide)), if_pos q7.1, if_pos a6.1, if_pos q8.1, if_pos a7.1, q7.2, q8.2, a6.2, a7.2, I_suc]
        have e : wL (wL (wa 6 k w) 2022 0 (6 + 2 * k) (wa 6 k w 2218 0 (130 + 11 * k + 7))) 2022 0 (7 + 2 * k) (wL (wa 6 k w) 2022 0 (6 + 2 * k) (wa 6 k w 2218 0 (130 + 11 * k + 7)) 2218 0 (130 + 11 * k + 8)) = wa 6 (k + 1) w := by
          have r : ∀ x, wa 6 k w 2218 0 x = w 2218 0 x := fun x => by unfold wa; rw [if_neg (by omega), if_neg (by omega)]
          funext F i j
          rw [wL_at, wL_at, wL_at, r, if_neg (show ¬ (2218 = 2022 ∧ 0 = 0 ∧ 130 + 11 * k + 8 = 6 + 2 * k) by omega), r]
          unfold wa
          by_cases h7 : F = 2022 ∧ i = 0 ∧ j = 7 + 2 * k
          · obtain ⟨rfl, rfl, rfl⟩ := h7
            rw [if_pos ⟨rfl, rfl, rfl⟩, if_neg (by omega), if_pos (by omega), show 130 + 11 * ((7 + 2 * k - 6) / 2) + 7 + (7 + 2 * k - 6) % 2 = 130 + 11 * k + 8 by omega]
          · by_cases h6 : F = 2022 ∧ i = 0 ∧ j = 6 + 2 * k
            · obtain ⟨rfl, rfl, rfl⟩ := h6
              rw [if_neg h7, if_pos ⟨rfl, rfl, rfl⟩, if_neg (by omega), if_pos (by omega), show 130 + 11 * ((6 + 2 * k - 6) / 2) + 7 + (6 + 2 * k - 6) % 2 = 130 + 11 * k + 7 by omega]
            · rw [if_neg h7, if_neg h6]
              have e1 : (F = 2022 ∧ i = 0 ∧ 6 ≤ j ∧ j < 6 + 2 * k) ↔ (F = 2022 ∧ i = 0 ∧ 6 ≤ j ∧ j < 6 + 2 * (k + 1)) := by omega
              simp only [e1]
        rw [e]
        exact ih (k + 1) (by omega) (by omega)
      · have e : k = 8 := by omega
        subst e
        rw [if_pos (show (8 : Int32) ≤ I 8 by decide)]
  have key : ∀ (n k : Nat), k ≤ 6 → 7 - k < n → s_X7_asides_R2 0 n (I k) g (wa k 0 w) = some (g, wa 6 8 w) := by
    intro n
    induction n with
    | zero => intro k h1 hm; omega
    | succ n ih =>
      intro k h1 hm
      show s_X7_asides_2 0 (s_X7_asides_R2 0 n) (I k) g (wa k 0 w) = _
      unfold s_X7_asides_2
      by_cases hk : k < 6
      · have q8 := iw8 (t := k) (by omega)
        have a := ia (k := k) (by omega)
        rw [if_neg (show ¬ (6 : Int32) ≤ I k from nle (a := 6) hk (by decide)), if_pos q8.1, if_pos a.1, q8.2, a.2, I_suc]
        have e : wL (wa k 0 w) 2022 0 k (wa k 0 w 2218 0 (70 + 10 * k + 8)) = wa (k + 1) 0 w := by
          have r : ∀ x, wa k 0 w 2218 0 x = w 2218 0 x := fun x => by unfold wa; rw [if_neg (by omega), if_neg (by omega)]
          funext F i j
          rw [wL_at, r]
          unfold wa
          by_cases h6 : F = 2022 ∧ i = 0 ∧ j = k
          · obtain ⟨rfl, rfl, rfl⟩ := h6
            rw [if_pos ⟨rfl, rfl, rfl⟩, if_pos (by omega)]
          · rw [if_neg h6]
            have e1 : (F = 2022 ∧ i = 0 ∧ j < k) ↔ (F = 2022 ∧ i = 0 ∧ j < k + 1) := by omega
            simp only [e1]
        rw [e]
        exact ih (k + 1) (by omega) (by omega)
      · have e : k = 6 := by omega
        subst e
        rw [if_pos (show (6 : Int32) ≤ I 6 by decide)]
        exact key2 FU 0 (by decide) (by decide)
  have q := key FU 0 (by decide) (by decide)
  have e0 : wa 0 0 w = w := by
    funext F i j; unfold wa; rw [if_neg (by omega), if_neg (by omega)]
  rw [e0] at q
  exact q
theorem returns_e : s_X7_returns 0 g w = some (g, wb 6 8 w) := by
  have key2 : ∀ (n k : Nat), k ≤ 8 → 9 - k < n → s_X7_returns_R37 0 n (I k) g (wb 6 k w) = some (g, wb 6 8 w) := by
    intro n
    induction n with
    | zero => intro k h1 hm; omega
    | succ n ih =>
      intro k h1 hm
      show s_X7_returns_37 0 (s_X7_returns_R37 0 n) (I k) g (wb 6 k w) = _
      unfold s_X7_returns_37
      by_cases hk : k < 8
      · have q7 := ix7 (s := k) hk
        have q8 := ix8 (s := k) hk
        have a6 := i6 hk
        have a7 := i7 hk
        rw [if_neg (show ¬ (8 : Int32) ≤ I k from nle (a := 8) hk (by decide)), if_pos a6.1, if_pos q7.1, if_pos a7.1, if_pos q8.1, q7.2, q8.2, a6.2, a7.2, I_suc]
        have e : wL (wL (wb 6 k w) 2218 0 (130 + 11 * k + 7) (wb 6 k w 2022 0 (6 + 2 * k))) 2218 0 (130 + 11 * k + 8) (wL (wb 6 k w) 2218 0 (130 + 11 * k + 7) (wb 6 k w 2022 0 (6 + 2 * k)) 2022 0 (7 + 2 * k)) = wb 6 (k + 1) w := by
          have r : ∀ x, wb 6 k w 2022 0 x = w 2022 0 x := fun x => by unfold wb; rw [if_neg (by omega), if_neg (by omega)]
          funext F i j
          rw [wL_at, wL_at, wL_at, r, if_neg (show ¬ (2022 = 2218 ∧ 0 = 0 ∧ 7 + 2 * k = 130 + 11 * k + 7) by omega), r]
          unfold wb
          by_cases h8 : F = 2218 ∧ i = 0 ∧ j = 130 + 11 * k + 8
          · obtain ⟨rfl, rfl, rfl⟩ := h8
            rw [if_pos ⟨rfl, rfl, rfl⟩, if_neg (by omega), if_pos (by omega), show 6 + 2 * ((130 + 11 * k + 8 - 130) / 11) + ((130 + 11 * k + 8 - 130) % 11 - 7) = 7 + 2 * k by omega]
          · by_cases h7 : F = 2218 ∧ i = 0 ∧ j = 130 + 11 * k + 7
            · obtain ⟨rfl, rfl, rfl⟩ := h7
              rw [if_neg h8, if_pos ⟨rfl, rfl, rfl⟩, if_neg (by omega), if_pos (by omega), show 6 + 2 * ((130 + 11 * k + 7 - 130) / 11) + ((130 + 11 * k + 7 - 130) % 11 - 7) = 6 + 2 * k by omega]
            · rw [if_neg h8, if_neg h7]
              have e1 : (F = 2218 ∧ i = 0 ∧ 130 ≤ j ∧ (j - 130) / 11 < k ∧ ((j - 130) % 11 = 7 ∨ (j - 130) % 11 = 8)) ↔ (F = 2218 ∧ i = 0 ∧ 130 ≤ j ∧ (j - 130) / 11 < k + 1 ∧ ((j - 130) % 11 = 7 ∨ (j - 130) % 11 = 8)) := by omega
              simp only [e1]
        rw [e]
        exact ih (k + 1) (by omega) (by omega)
      · have e : k = 8 := by omega
        subst e
        rw [if_pos (show (8 : Int32) ≤ I 8 by decide)]
  have key : ∀ (n k : Nat), k ≤ 6 → 7 - k < n → s_X7_returns_R2 0 n (I k) g (wb k 0 w) = some (g, wb 6 8 w) := by
    intro n
    induction n with
    | zero => intro k h1 hm; omega
    | succ n ih =>
      intro k h1 hm
      show s_X7_returns_2 0 (s_X7_returns_R2 0 n) (I k) g (wb k 0 w) = _
      unfold s_X7_returns_2
      by_cases hk : k < 6
      · have q8 := iw8 (t := k) (by omega)
        have a := ia (k := k) (by omega)
        rw [if_neg (show ¬ (6 : Int32) ≤ I k from nle (a := 6) hk (by decide)), if_pos a.1, if_pos q8.1, q8.2, a.2, I_suc]
        have e : wL (wb k 0 w) 2218 0 (70 + 10 * k + 8) (wb k 0 w 2022 0 k) = wb (k + 1) 0 w := by
          have r : ∀ x, wb k 0 w 2022 0 x = w 2022 0 x := fun x => by unfold wb; rw [if_neg (by omega), if_neg (by omega)]
          funext F i j
          rw [wL_at, r]
          unfold wb
          by_cases h6 : F = 2218 ∧ i = 0 ∧ j = 70 + 10 * k + 8
          · obtain ⟨rfl, rfl, rfl⟩ := h6
            rw [if_pos ⟨rfl, rfl, rfl⟩, if_pos (by omega), show (70 + 10 * k + 8 - 70) / 10 = k by omega]
          · rw [if_neg h6]
            have e1 : (F = 2218 ∧ i = 0 ∧ 70 ≤ j ∧ j < 70 + 10 * k ∧ (j - 70) % 10 = 8) ↔ (F = 2218 ∧ i = 0 ∧ 70 ≤ j ∧ j < 70 + 10 * (k + 1) ∧ (j - 70) % 10 = 8) := by omega
            simp only [e1]
        rw [e]
        exact ih (k + 1) (by omega) (by omega)
      · have e : k = 6 := by omega
        subst e
        rw [if_pos (show (6 : Int32) ≤ I 6 by decide)]
        exact key2 FU 0 (by decide) (by decide)
  have q := key FU 0 (by decide) (by decide)
  have e0 : wb 0 0 w = w := by
    funext F i j; unfold wb; rw [if_neg (by omega), if_neg (by omega)]
  rw [e0] at q
  exact q
/-- what a block had comes back -/
def AS (w : Nat → Nat → Nat → Int64) (c : Nat → Int64) : Prop := (∀ t, t < 6 → w 2022 0 t = c (70 + 10 * t + 8)) ∧ ∀ s, s < 8 → w 2022 0 (6 + 2 * s) = c (130 + 11 * s + 7) ∧ w 2022 0 (7 + 2 * s) = c (130 + 11 * s + 8)
theorem as_wa (R : RV w c) : AS (wa 6 8 w) c := by
  refine ⟨fun t ht => ?_, fun s hs => ⟨?_, ?_⟩⟩
  · unfold wa; rw [if_pos ⟨rfl, rfl, ht⟩, R _ (by omega)]
  · unfold wa; rw [if_neg (by omega), if_pos (by omega), show 130 + 11 * ((6 + 2 * s - 6) / 2) + 7 + (6 + 2 * s - 6) % 2 = 130 + 11 * s + 7 by omega, R _ (by omega)]
  · unfold wa; rw [if_neg (by omega), if_pos (by omega), show 130 + 11 * ((7 + 2 * s - 6) / 2) + 7 + (7 + 2 * s - 6) % 2 = 130 + 11 * s + 8 by omega, R _ (by omega)]
theorem rv_wa (R : RV w c) : RV (wa 6 8 w) c := fun k hk => by unfold wa; rw [if_neg (by omega), if_neg (by omega), R k hk]
theorem as_fp (A : AS w c) (h : FP g w g' w') : AS w' c := by
  refine ⟨fun t ht => ?_, fun s hs => ⟨?_, ?_⟩⟩
  · rw [h.2 _ _ _ (by omega)]; exact A.1 t ht
  · rw [h.2 _ _ _ (by omega)]; exact (A.2 s hs).1
  · rw [h.2 _ _ _ (by omega)]; exact (A.2 s hs).2
theorem as_wb (A : AS w c) : AS (wb 6 8 w) c := by
  have r : ∀ x, wb 6 8 w 2022 0 x = w 2022 0 x := fun x => by unfold wb; rw [if_neg (by omega), if_neg (by omega)]
  exact ⟨fun t ht => (r _).trans (A.1 t ht), fun s hs => ⟨(r _).trans (A.2 s hs).1, (r _).trans (A.2 s hs).2⟩⟩
theorem rv_wb (A : AS w c) (B : BI c) (R : RV w c') (h : PLN c c') : RV (wb 6 8 w) c := by
  have h8 := sn8 B
  intro k hk
  unfold wb
  by_cases h1 : 70 ≤ k ∧ k < 130 ∧ (k - 70) % 10 = 8
  · obtain ⟨t, rfl, ht⟩ : ∃ t, k = 70 + 10 * t + 8 ∧ t < 6 := ⟨(k - 70) / 10, by omega, by omega⟩
    rw [if_pos (by omega), show (70 + 10 * t + 8 - 70) / 10 = t by omega]
    exact A.1 t ht
  · rw [if_neg (by omega)]
    by_cases h2 : 130 ≤ k ∧ (k - 130) / 11 < 8 ∧ ((k - 130) % 11 = 7 ∨ (k - 130) % 11 = 8)
    · rw [if_pos (by omega)]
      obtain ⟨s, hs, e⟩ : ∃ s, s < 8 ∧ (k = 130 + 11 * s + 7 ∨ k = 130 + 11 * s + 8) := ⟨(k - 130) / 11, by omega, by omega⟩
      rcases e with rfl | rfl
      · rw [show 6 + 2 * ((130 + 11 * s + 7 - 130) / 11) + ((130 + 11 * s + 7 - 130) % 11 - 7) = 6 + 2 * s by omega]
        exact (A.2 s hs).1
      · rw [show 6 + 2 * ((130 + 11 * s + 8 - 130) / 11) + ((130 + 11 * s + 8 - 130) % 11 - 7) = 7 + 2 * s by omega]
        exact (A.2 s hs).2
    · rw [if_neg (by omega), R k hk]
      exact h k (by unfold pk; omega)
end
