/-! plans of the reference -/
section
variable {g g' : Nat → Nat → Nat → Int32} {w w' : Nat → Nat → Nat → Int64} {hb : Nat} {c c' : Nat → Int64} {pl ba : Nat → Nat}
theorem layN_cong {f f' : Nat → Nat} : ∀ {n : Nat}, (∀ i, i < n → f i = f' i) → layN pl ba f c n = layN pl ba f' c n
  | 0, _ => rfl
  | n + 1, h => by
    show stepL pl ba (layN pl ba f c n) (f n) = stepL pl ba (layN pl ba f' c n) (f' n)
    rw [layN_cong (fun i hi => h i (by omega)), h n (by omega)]
theorem laidN_cong {f f' : Nat → Nat} {n : Nat} (h : ∀ i, i < n → f i = f' i) : LAIDN pl ba f c n = LAIDN pl ba f' c n :=
  fb_sm_cong (fun k hk => by rw [layN_cong (f := f) (f' := f') (fun i hi => h i (by omega)), h k hk])
theorem plans7 {p2 : Int32} {n : Nat} {f : Nat → Nat} (Q : PB pl ba) (hn : n ≤ 4) (R : RV w c) (B : BI c) (P : PR g pl ba) (hp : ∀ i, i < n → (p2 >>> (((3 : Int32) * I i) &&& 31)) &&& 7 = I (f i)) (hs : ∀ i, i < n → f i < SN c) (hi : ∀ i j, i < n → j < n → i ≠ j → f i ≠ f j) (hJ : ∀ s, s < SN c → ¬ JOB c s) :
    ∃ g' w', s_X7_plans 0 (I n) p2 g w = some (I (LAIDN pl ba f c n), g', w') ∧ RV w' (layN pl ba f c n) ∧ BI (layN pl ba f c n) ∧ FP g w g' w' := by
  have nojob : ∀ k, k ≤ n → ∀ i, k ≤ i → i < n → ¬ JOB (layN pl ba f c k) (f i) := by
    intro k
    induction k with
    | zero => intro _ i _ q; exact hJ _ (hs i q)
    | succ k ih =>
      intro h1 i h2 h3
      show ¬ 0 ≤ HR (stepL pl ba (layN pl ba f c k) (f k)) (f i)
      rw [step_hr (hi i k h3 (by omega) (by omega))]
      exact ih (by omega) i (by omega) h3
  have key : ∀ (m k : Nat) (g1 : Nat → Nat → Nat → Int32) (w1 : Nat → Nat → Nat → Int64), k ≤ n → RV w1 (layN pl ba f c k) → BI (layN pl ba f c k) → FP g w g1 w1 → 5 - k < m →
      ∃ g' w', s_X7_plans_R5 0 (I n) p2 m (I (LAIDN pl ba f c k)) (I k) g1 w1 = some (I (LAIDN pl ba f c n), g', w') ∧ RV w' (layN pl ba f c n) ∧ BI (layN pl ba f c n) ∧ FP g w g' w' := by
    intro m
    induction m with
    | zero => intro k g1 w1 h1 h2 h3 h4 hm; omega
    | succ m ih =>
      intro k g1 w1 h1 h2 h3 h4 hm
      show ∃ g' w', s_X7_plans_5 0 (I n) p2 (s_X7_plans_R5 0 (I n) p2 m) (I (LAIDN pl ba f c k)) (I k) g1 w1 = some (I (LAIDN pl ba f c n), g', w') ∧ _
      unfold s_X7_plans_5 s_X7_plans_48
      by_cases hk : k < n
      · have hpl := layN_pln (pl := pl) (ba := ba) (f := f) (c := c) k (fun i hi => hs i (by omega))
        have hs1 : f k < SN (layN pl ba f c k) := by rw [pln_sn hpl]; exact hs k hk
        have el : LAIDN pl ba f c (k + 1) = LAIDN pl ba f c k + laidF pl ba (layN pl ba f c k) (f k) := fb_sm_succ _ k
        have en : layN pl ba f c (k + 1) = stepL pl ba (layN pl ba f c k) (f k) := rfl
        rw [if_neg (nle hk (by omega)), hp k hk, I_suc, I_suc]
        obtain ⟨r, g2, q1, q2⟩ := lay1_7 h2 h3 (pr_fp P h4) Q hs1 (nojob k (by omega) k (Nat.le_refl _) hk)
        rw [q1]
        show ∃ g' w', (if r = true then (s_X7_lays 0 (I (f k)) (g2 7 0 10) (g2 7 0 11) g2 w1).bind fun q2 => s_X7_plans_R5 0 (I n) p2 m (I (LAIDN pl ba f c k + 1)) (I (k + 1)) q2.1 q2.2 else s_X7_plans_R5 0 (I n) p2 m (I (LAIDN pl ba f c k)) (I (k + 1)) g2 w1) = some (I (LAIDN pl ba f c n), g', w') ∧ _
        rcases q2 with ⟨rfl, q3, q4, q5⟩ | ⟨rfl, w3, q4, q5, q6, q7, q8⟩
        · rw [if_neg (by decide)]
          have := ih (k + 1) g2 w1 (by omega) (by rw [en, q3]; exact h2) (by rw [en, q3]; exact h3) (fp_trans h4 q5) (by omega)
          rw [el, q4] at this
          exact this
        · rw [if_pos rfl, q4]
          have := ih (k + 1) g2 w3 (by omega) q5 q6 (fp_trans h4 q7) (by omega)
          rw [el, q8] at this
          exact this
      · have e : k = n := by omega
        subst e
        rw [if_pos (ile (Nat.le_refl _) (by omega))]
        exact ⟨g1, w1, rfl, h2, h3, h4⟩
  exact key FU 0 g w (by omega) R B fp_refl (by show 5 - 0 < 1000; omega)
/-- the ships of a mended plan have theirs laid -/
theorem tries34 {p2 : Int32} {n : Nat} (Q : PB pl ba) (hn : n ≤ 4) (R : RV w c) (B : BI c) (P : PR g pl ba) (hs : n ≤ SN c) :
    ∃ g' w', s_X7_tries_R34 0 (I n) p2 FU 0 0 g w = some (I (LAIDN pl ba (fun i => i) c n), g', w') ∧ RV w' (layN pl ba (fun i => i) c n) ∧ BI (layN pl ba (fun i => i) c n) ∧ FP g w g' w' := by
  have key : ∀ (m k : Nat) (g1 : Nat → Nat → Nat → Int32) (w1 : Nat → Nat → Nat → Int64), k ≤ n → RV w1 (layN pl ba (fun i => i) c k) → BI (layN pl ba (fun i => i) c k) → FP g w g1 w1 → 5 - k < m →
      ∃ g' w', s_X7_tries_R34 0 (I n) p2 m (I (LAIDN pl ba (fun i => i) c k)) (I k) g1 w1 = some (I (LAIDN pl ba (fun i => i) c n), g', w') ∧ RV w' (layN pl ba (fun i => i) c n) ∧ BI (layN pl ba (fun i => i) c n) ∧ FP g w g' w' := by
    intro m
    induction m with
    | zero => intro k g1 w1 h1 h2 h3 h4 hm; omega
    | succ m ih =>
      intro k g1 w1 h1 h2 h3 h4 hm
      show ∃ g' w', s_X7_tries_34 0 (I n) p2 (s_X7_tries_R34 0 (I n) p2 m) (I (LAIDN pl ba (fun i => i) c k)) (I k) g1 w1 = some (I (LAIDN pl ba (fun i => i) c n), g', w') ∧ _
      unfold s_X7_tries_34 s_X7_tries_75
      by_cases hk : k < n
      · have hpl := layN_pln (pl := pl) (ba := ba) (f := fun i => i) (c := c) k (fun i hi => by show i < SN c; omega)
        have hs1 : k < SN (layN pl ba (fun i => i) c k) := by rw [pln_sn hpl]; omega
        have el : LAIDN pl ba (fun i => i) c (k + 1) = LAIDN pl ba (fun i => i) c k + laidF pl ba (layN pl ba (fun i => i) c k) k := fb_sm_succ _ k
        have en : layN pl ba (fun i => i) c (k + 1) = stepL pl ba (layN pl ba (fun i => i) c k) k := rfl
        rw [if_neg (nle hk (by omega)), I_suc]
        obtain ⟨b, eb, hbb⟩ := r_hasJob (g := g1) h2 h3 hs1
        rw [eb]
        show ∃ g' w', (if b = true then s_X7_tries_R34 0 (I n) p2 m (I (LAIDN pl ba (fun i => i) c k)) (I (k + 1)) g1 w1 else _) = some (I (LAIDN pl ba (fun i => i) c n), g', w') ∧ _
        by_cases e : b = true
        · rw [if_pos e]
          have hJ := hbb.mp e
          have := ih (k + 1) g1 w1 (by omega) (by rw [en, stepL_job hJ]; exact h2) (by rw [en, stepL_job hJ]; exact h3) h4 (by omega)
          rw [el, laidF_job hJ] at this
          exact this
        · rw [if_neg e]
          have hJ : ¬ JOB (layN pl ba (fun i => i) c k) k := fun q => e (hbb.mpr q)
          obtain ⟨r, g2, q1, q2⟩ := lay1_7 h2 h3 (pr_fp P h4) Q hs1 hJ
          rw [q1]
          show ∃ g' w', (if r = true then (s_X7_lays 0 (I k) (g2 7 0 10) (g2 7 0 11) g2 w1).bind fun q3 => s_X7_tries_R34 0 (I n) p2 m (I (LAIDN pl ba (fun i => i) c k) + 1) (I (k + 1)) q3.1 q3.2 else s_X7_tries_R34 0 (I n) p2 m (I (LAIDN pl ba (fun i => i) c k)) (I (k + 1)) g2 w1) = some (I (LAIDN pl ba (fun i => i) c n), g', w') ∧ _
          rcases q2 with ⟨rfl, q3, q4, q5⟩ | ⟨rfl, w3, q4, q5, q6, q7, q8⟩
          · rw [if_neg (by decide)]
            have := ih (k + 1) g2 w1 (by omega) (by rw [en, q3]; exact h2) (by rw [en, q3]; exact h3) (fp_trans h4 q5) (by omega)
            rw [el, q4] at this
            exact this
          · rw [if_pos rfl, q4, I_suc]
            have := ih (k + 1) g2 w3 (by omega) q5 q6 (fp_trans h4 q7) (by omega)
            rw [el, q8] at this
            exact this
      · have e : k = n := by omega
        subst e
        rw [if_pos (ile (Nat.le_refl _) (by omega))]
        exact ⟨g1, w1, rfl, h2, h3, h4⟩
  exact key FU 0 g w (by omega) R B fp_refl (by show 5 - 0 < 1000; omega)
end
/-! the best order -/
noncomputable def OW (pl ba : Nat → Nat) (n : Nat) (c : Nat → Int64) (k : Nat) : Int32 := W32 (layN pl ba (pm n k) (cclr c) n) n
noncomputable def bk (pl ba : Nat → Nat) (n : Nat) (c : Nat → Int64) : Nat → Nat
  | 0 => 0
  | m + 1 => if OW pl ba n c m < OW pl ba n c (bk pl ba n c m) then m else bk pl ba n c m
/-- frames of the plans of both sides -/
def FT (g0 : Nat → Nat → Nat → Int32) (w0 : Nat → Nat → Nat → Int64) (g : Nat → Nat → Nat → Int32) (w : Nat → Nat → Nat → Int64) : Prop :=
  (∀ F i j, ¬ (F = 2 ∨ (F = 1004 ∧ (i = 1 ∨ i = 2)) ∨ (F = 1 ∧ i = 1) ∨ (F = 4 ∧ 8 ≤ i ∧ i < 16) ∨ (F = 5 ∧ 6 ≤ i ∧ i < 12) ∨ (F = 1012 ∧ i = 1) ∨ (F = 1048 ∧ i = 1)) → g F i j = g0 F i j) ∧
  (∀ F i j, ¬ ((F = 1 ∧ i = 1) ∨ (F = 5 ∧ 6 ≤ i ∧ i < 12)) → w F i j = w0 F i j)
def FQ (g0 : Nat → Nat → Nat → Int32) (w0 : Nat → Nat → Nat → Int64) (g : Nat → Nat → Nat → Int32) (w : Nat → Nat → Nat → Int64) : Prop :=
  (∀ F i j, ¬ (F = 7 ∧ i = 0 ∧ 10 ≤ j) → g F i j = g0 F i j) ∧ (∀ F i j, ¬ ((F = 2218 ∧ i = 0 ∧ 70 ≤ j ∧ j < 218) ∨ F = 2022) → w F i j = w0 F i j)
section
variable {g g' g'' : Nat → Nat → Nat → Int32} {w w' w'' : Nat → Nat → Nat → Int64} {hb : Nat} {c c' : Nat → Int64} {pl ba : Nat → Nat}
theorem ft_refl : FT g w g w := ⟨fun _ _ _ _ => rfl, fun _ _ _ _ => rfl⟩
theorem ft_trans (h1 : FT g w g' w') (h2 : FT g' w' g'' w'') : FT g w g'' w'' := ⟨fun F i j q => (h2.1 F i j q).trans (h1.1 F i j q), fun F i j q => (h2.2 F i j q).trans (h1.2 F i j q)⟩
theorem ft_fc (h : FC 1 g w g' w') : FT g w g' w' := ⟨fun F i j q => h.1 F i j (by omega), fun F i j q => h.2 F i j (by omega)⟩
theorem ft_2 {i j : Nat} {x : Int32} : FT g w (gI g 2 i j x) w := ⟨fun F i' j' q => by rw [gI_at, if_neg (by omega)], fun _ _ _ _ => rfl⟩
theorem ft_04 {b : Nat} (hb : b = 1 ∨ b = 2) (h : ∀ F i j, ¬ (F = 1004 ∧ i = b) → g' F i j = g F i j) : FT g w g' w := ⟨fun F i j q => h F i j (by omega), fun _ _ _ _ => rfl⟩
theorem fq_refl : FQ g w g w := ⟨fun _ _ _ _ => rfl, fun _ _ _ _ => rfl⟩
theorem fq_trans (h1 : FQ g w g' w') (h2 : FQ g' w' g'' w'') : FQ g w g'' w'' := ⟨fun F i j q => (h2.1 F i j q).trans (h1.1 F i j q), fun F i j q => (h2.2 F i j q).trans (h1.2 F i j q)⟩
theorem fq_fp (h : FP g w g' w') : FQ g w g' w' := ⟨fun F i j q => h.1 F i j (by omega), fun F i j q => h.2 F i j (by omega)⟩
theorem fq_7 {j : Nat} {x : Int32} (hj : 10 ≤ j) : FQ g w (gI g 7 0 j x) w := ⟨fun F i' j' q => by rw [gI_at, if_neg (by omega)], fun _ _ _ _ => rfl⟩
theorem fq_wa : FQ g w g (wa 6 8 w) := ⟨fun _ _ _ _ => rfl, fun F i j q => by unfold wa; rw [if_neg (by omega), if_neg (by omega)]⟩
theorem fq_wb : FQ g w g (wb 6 8 w) := ⟨fun _ _ _ _ => rfl, fun F i j q => by unfold wb; rw [if_neg (by omega), if_neg (by omega)]⟩
theorem pr_fq (P : PR g pl ba) (h : FQ g w g' w') : PR g' pl ba := fun b hb2 => ⟨(h.1 1006 2 b (by omega)).trans (P b hb2).1, (h.1 1006 3 b (by omega)).trans (P b hb2).2⟩
theorem pc_ft (P : PC g pl ba) (h : FT g w g' w') : PC g' pl ba := fun b hb2 => ⟨(h.1 1006 0 b (by omega)).trans (P b hb2).1, (h.1 1006 1 b (by omega)).trans (P b hb2).2⟩
/-- a harbour copied -/
theorem hb_cp {i0 p : Nat} (H : HB g w p c) (h6 : TN c ≤ 6) (h8 : SN c ≤ 8) : HB (cpg 6 8 15 i0 p g) (cpw 6 15 i0 p w) i0 c := by
  have cw : ∀ t j, t < 6 → (j = 8 ∨ j = 9) → cpw 6 15 i0 p w 5 (6 * i0 + t) j = w 5 (6 * p + t) j := fun t j ht hj => by
    unfold cpw; rw [if_pos (by omega), show 6 * i0 + t - 6 * i0 = t by omega]
  refine ⟨rbk_cp H.1, ?_, fun t ht => ⟨?_, ?_, ?_⟩, fun t q1 q2 => ?_, fun s hs => ⟨?_, ?_⟩, fun s q1 q2 => ?_⟩
  · unfold cpw; rw [if_neg (by omega), if_pos (by omega)]; exact H.2.1
  · rw [cpg_5 (by omega) (by decide)]; exact (H.2.2.1 t ht).1
  · rw [cw t 8 (by omega) (Or.inl rfl)]; exact (H.2.2.1 t ht).2.1
  · rw [cw t 9 (by omega) (Or.inr rfl)]; exact (H.2.2.1 t ht).2.2
  · rw [cw t 8 q2 (Or.inl rfl)]; exact H.2.2.2.1 t q1 q2
  · rw [cpg_4 (by omega) (by decide)]; exact (H.2.2.2.2.1 s hs).1
  · rw [cpg_4 (by omega) (by decide)]; exact (H.2.2.2.2.1 s hs).2
  · rw [cpg_4 q2 (by decide)]; exact H.2.2.2.2.2 s q1 q2
theorem ft_cp : FT g w (cpg 6 8 15 1 0 g) (cpw 6 15 1 0 w) := by
  have t1 : td 1 = 1 := rfl
  refine ⟨fun F i j q => ?_, fun F i j q => ?_⟩
  · exact cpg_o (by omega) (by omega) (by omega) (by omega) (by omega)
  · unfold cpw; rw [if_neg (by omega), if_neg (by omega)]
theorem hb_ft (H : HB g w 0 c) (B : BI c) (h : FT g w g' w') : HB g' w' 0 c := by
  have t0 := td0
  exact hb_cg H (tn6 B) (sn8 B) (fun F i j q => h.1 F i j (by unfold hbc at q; omega)) (fun F i j q => h.2 F i j (by unfold hbw at q; omega))
theorem lt32 (a b : Int32) : a < b ↔ ¬ b ≤ a := by rw [Int32.lt_iff_toInt_lt, Int32.le_iff_toInt_le]; omega
theorem pm_lt {n k i : Nat} (h1 : 1 ≤ n) (h4 : n ≤ 4) (hk : k < FA n) (hi : i < n) : pm n k i < n := pm_a n (by omega) h1 k hk i hi
/-- the program's best order -/
theorem findOrder6 {n : Nat} (h1 : 1 ≤ n) (h4 : n ≤ 4) (H : HB g w 0 c) (B : BI c) (P : PC g pl ba) (Q : PB pl ba) (hn : n ≤ SN c) (h04 : ∀ i, i < 4 → g 1004 0 i = I i) :
    ∃ g' w', s_X2_findOrder 0 0 (I n) g w = some (g', w') ∧ g' 2 0 5 = OW pl ba n c (bk pl ba n c (FA n)) ∧ (∀ i, i < 4 → g' 1004 2 i = I (pmx n (bk pl ba n c (FA n)) i)) ∧ FT g w g' w' := by
  have hFA := FA_le (n := n)
  have key : ∀ (m k : Nat) (v : Bool) (g1 : Nat → Nat → Nat → Int32) (w1 : Nat → Nat → Nat → Int64) (c1 : Nat → Int64), k ≤ FA n → HB g1 w1 1 c1 → BI c1 → cclr c1 = cclr c → FT g w g1 w1 → ((v = true ∧ k < FA n ∧ ∀ i, i < 4 → g1 1004 1 i = I (pmx n k i)) ∨ (v = false ∧ k = FA n)) →
      (k = 0 ∨ (g1 2 0 5 = OW pl ba n c (bk pl ba n c k) ∧ ∀ i, i < 4 → g1 1004 2 i = I (pmx n (bk pl ba n c k) i))) → 25 - k < m →
      ∃ g' w', s_X2_findOrder_R24 0 0 (I n) m v (I k) g1 w1 = some (g', w') ∧ g' 2 0 5 = OW pl ba n c (bk pl ba n c (FA n)) ∧ (∀ i, i < 4 → g' 1004 2 i = I (pmx n (bk pl ba n c (FA n)) i)) ∧ FT g w g' w' := by
    intro m
    induction m with
    | zero => intro k v g1 w1 c1 q1 q2 q3 q4 q5 q6 q7 hm; omega
    | succ m ih =>
      intro k v g1 w1 c1 q1 q2 q3 q4 q5 q6 q7 hm
      show ∃ g' w', s_X2_findOrder_24 0 0 (I n) (s_X2_findOrder_R24 0 0 (I n) m) v (I k) g1 w1 = some (g', w') ∧ _
      unfold s_X2_findOrder_24 s_X2_findOrder_108
      rcases q6 with ⟨rfl, hk, q6⟩ | ⟨rfl, rfl⟩
      · rw [if_pos rfl, if_neg (show ¬ (24 : Int32) ≤ I k from nle (a := 24) (by omega) (by decide)), clear_e]
        have Hc := hb_clear q2 q3
        have Bc := bi_clr q3
        rw [q4] at Hc Bc
        have F1 := ft_trans q5 (ft_fc (fc_clear (hb := 1)))
        have hsn : SN (cclr c) = SN c := pln_sn pln_cclr
        have f04 : ∀ i, i < n → g4n 1 8 g1 1004 1 i = I (pm n k i) := fun i hi => by
          have := q6 i (by omega)
          rw [show pmx n k i = pm n k i from if_pos hi] at this
          rw [← this]
          unfold g4n; rw [if_neg (by omega), if_neg (by omega)]
        have fs : ∀ i, i < n → pm n k i < SN (cclr c) := fun i hi => by have := pm_lt h1 h4 hk hi; omega
        obtain ⟨g2, w2, e1, e2, e3, e4, e5⟩ := layEach6 (a := 1) (f := pm n k) Q h4 (by decide) _ _ _ Hc Bc (pc_ft P F1) f04 fs
        have hpl := layN_pln (pl := pl) (ba := ba) (f := pm n k) (c := cclr c) n fs
        have F2 := ft_trans F1 (ft_fc e4)
        show ∃ g' w', ((s_X1_layEach 1 1 (I n) (g4n 1 8 g1) (w5 1 (fun _ _ => 0) 6 w1)).bind fun q2 => (s_X1_waitedOf 1 (I n) q2.2.1 q2.2.2).bind fun q3 => if I k = 0 then s_X2_findOrder_79 0 0 (I n) (s_X2_findOrder_R24 0 0 (I n) m) (I k) q3 q2.2.1 q2.2.2 else if q2.2.1 2 0 5 ≤ q3 then s_X2_findOrder_96 0 0 (I n) (s_X2_findOrder_R24 0 0 (I n) m) (I k) q2.2.1 q2.2.2 else s_X2_findOrder_79 0 0 (I n) (s_X2_findOrder_R24 0 0 (I n) m) (I k) q3 q2.2.1 q2.2.2) = some (g', w') ∧ _
        rw [e1]
        show ∃ g' w', ((s_X1_waitedOf 1 (I n) g2 w2).bind fun q3 => if I k = 0 then s_X2_findOrder_79 0 0 (I n) (s_X2_findOrder_R24 0 0 (I n) m) (I k) q3 g2 w2 else if g2 2 0 5 ≤ q3 then s_X2_findOrder_96 0 0 (I n) (s_X2_findOrder_R24 0 0 (I n) m) (I k) g2 w2 else s_X2_findOrder_79 0 0 (I n) (s_X2_findOrder_R24 0 0 (I n) m) (I k) q3 g2 w2) = some (g', w') ∧ _
        rw [waited6 e2 e3 (by rw [pln_sn hpl]; omega)]
        show ∃ g' w', (if I k = 0 then s_X2_findOrder_79 0 0 (I n) (s_X2_findOrder_R24 0 0 (I n) m) (I k) (OW pl ba n c k) g2 w2 else if g2 2 0 5 ≤ OW pl ba n c k then s_X2_findOrder_96 0 0 (I n) (s_X2_findOrder_R24 0 0 (I n) m) (I k) g2 w2 else s_X2_findOrder_79 0 0 (I n) (s_X2_findOrder_R24 0 0 (I n) m) (I k) (OW pl ba n c k) g2 w2) = some (g', w') ∧ _
        have same4 : ∀ b i, g2 1004 b i = g1 1004 b i := fun b i => (e4.1 _ _ _ (by omega)).trans (by unfold g4n; rw [if_neg (by omega), if_neg (by omega)])
        have same2 : ∀ j, g2 2 0 j = g1 2 0 j := fun j => (e4.1 _ _ _ (by omega)).trans (by unfold g4n; rw [if_neg (by omega), if_neg (by omega)])
        have ecl : cclr (layN pl ba (pm n k) (cclr c) n) = cclr c := (cclr_pln hpl).trans (cclr_pln pln_cclr)
        -- the step to the next order
        have nx : ∀ g3, (∀ i, i < 4 → g3 1004 1 i = I (pmx n k i)) → HB g3 w2 1 (layN pl ba (pm n k) (cclr c) n) → FT g w g3 w2 → g3 2 0 5 = OW pl ba n c (bk pl ba n c (k + 1)) → (∀ i, i < 4 → g3 1004 2 i = I (pmx n (bk pl ba n c (k + 1)) i)) →
            ∃ g' w', s_X2_findOrder_96 0 0 (I n) (s_X2_findOrder_R24 0 0 (I n) m) (I k) g3 w2 = some (g', w') ∧ g' 2 0 5 = OW pl ba n c (bk pl ba n c (FA n)) ∧ (∀ i, i < 4 → g' 1004 2 i = I (pmx n (bk pl ba n c (FA n)) i)) ∧ FT g w g' w' := by
          intro g3 r1 r2 r3 r4 r5
          unfold s_X2_findOrder_96
          obtain ⟨b, g4, x1, x2, x3⟩ := next6 (w := w2) h1 h4 hk r1
          rw [x1]
          show ∃ g' w', s_X2_findOrder_R24 0 0 (I n) m b (I k + 1) g4 w2 = some (g', w') ∧ _
          rw [I_suc]
          have H4 : HB g4 w2 1 (layN pl ba (pm n k) (cclr c) n) := hb_cg r2 (tn6 e3) (sn8 e3) (fun F i j q => x2 F i j (by unfold hbc at q; omega)) (fun _ _ _ _ => rfl)
          refine ih (k + 1) b g4 w2 _ (by omega) H4 e3 ecl (ft_trans r3 (ft_04 (Or.inl rfl) x2)) ?_ (Or.inr ⟨(x2 _ _ _ (by omega)).trans r4, fun i hi => (x2 _ _ _ (by omega)).trans (r5 i hi)⟩) (by omega)
          rcases x3 with ⟨y1, y2, y3⟩ | ⟨y1, y2⟩
          · exact Or.inl ⟨y1, y2, y3⟩
          · exact Or.inr ⟨y1, by omega⟩
        -- a new best order
        have nb : bk pl ba n c (k + 1) = k → ∃ g' w', s_X2_findOrder_79 0 0 (I n) (s_X2_findOrder_R24 0 0 (I n) m) (I k) (OW pl ba n c k) g2 w2 = some (g', w') ∧ g' 2 0 5 = OW pl ba n c (bk pl ba n c (FA n)) ∧ (∀ i, i < 4 → g' 1004 2 i = I (pmx n (bk pl ba n c (FA n)) i)) ∧ FT g w g' w' := by
          intro hbk
          unfold s_X2_findOrder_79
          obtain ⟨g3, x1, x2, x3⟩ := over6 (g := gI g2 2 0 5 (OW pl ba n c k)) (w := w2) (a := 1) (b := 2) (by decide)
          rw [x1]
          have r2 : ∀ F i j, ¬ (F = 2 ∧ i = 0 ∧ j = 5) → gI g2 2 0 5 (OW pl ba n c k) F i j = g2 F i j := fun F i j q => by rw [gI_at, if_neg q]
          refine nx g3 (fun i hi => ?_) ?_ (ft_trans (ft_trans F2 ft_2) (ft_04 (Or.inr rfl) x3)) ?_ (fun i hi => ?_)
          · rw [x3 _ _ _ (by omega), r2 _ _ _ (by omega), same4]; exact q6 i hi
          · exact hb_cg e2 (tn6 e3) (sn8 e3) (fun F i j q => (x3 F i j (by unfold hbc at q; omega)).trans (r2 F i j (by unfold hbc at q; omega))) (fun _ _ _ _ => rfl)
          · rw [x3 _ _ _ (by omega), gI_at, if_pos ⟨rfl, rfl, rfl⟩, hbk]
          · rw [x2 i hi, r2 _ _ _ (by omega), same4, hbk]; exact q6 i hi
        have ebk : bk pl ba n c (k + 1) = if OW pl ba n c k < OW pl ba n c (bk pl ba n c k) then k else bk pl ba n c k := rfl
        by_cases e0 : k = 0
        · subst e0
          rw [if_pos (show I 0 = 0 from rfl)]
          refine nb ?_
          rw [ebk]
          split
          · rfl
          · rfl
        · rw [if_neg (nz_I e0 (by omega))]
          rcases q7 with q7 | ⟨q7, q8⟩
          · exact absurd q7 e0
          rw [same2, q7]
          by_cases e : OW pl ba n c (bk pl ba n c k) ≤ OW pl ba n c k
          · rw [if_pos e]
            have hbk : bk pl ba n c (k + 1) = bk pl ba n c k := by rw [ebk, if_neg (by rw [lt32]; exact fun q => q e)]
            exact nx g2 (fun i hi => by rw [same4]; exact q6 i hi) e2 F2 (by rw [same2, hbk]; exact q7) (fun i hi => by rw [same4, hbk]; exact q8 i hi)
          · rw [if_neg e]
            exact nb (by rw [ebk, if_pos (by rw [lt32]; exact e)])
      · rw [if_neg (by decide)]
        rcases q7 with q7 | ⟨q7, q8⟩
        · omega
        · exact ⟨g1, w1, rfl, q7, q8, q5⟩
  have fin : ∀ m, 25 < m → ∃ g' w', ((some (cpg 6 8 15 1 0 g, cpw 6 15 1 0 w)).bind fun q1 => (s_X2_takeOver 0 1 q1.1 q1.2).bind fun q2 => s_X2_findOrder_R24 0 0 (I n) m true 0 q2.1 q2.2) = some (g', w') ∧ g' 2 0 5 = OW pl ba n c (bk pl ba n c (FA n)) ∧ (∀ i, i < 4 → g' 1004 2 i = I (pmx n (bk pl ba n c (FA n)) i)) ∧ FT g w g' w' := by
    intro m hm
    obtain ⟨g1, x1, x2, x3⟩ := over6 (g := cpg 6 8 15 1 0 g) (w := cpw 6 15 1 0 w) (a := 0) (b := 1) (by decide)
    show ∃ g' w', ((s_X2_takeOver 0 1 (cpg 6 8 15 1 0 g) (cpw 6 15 1 0 w)).bind fun q2 => s_X2_findOrder_R24 0 0 (I n) m true 0 q2.1 q2.2) = some (g', w') ∧ _
    rw [x1]
    have Hc := hb_cp (i0 := 1) H (tn6 B) (sn8 B)
    refine key m 0 true g1 _ c (by omega) (hb_cg Hc (tn6 B) (sn8 B) (fun F i j q => x3 F i j (by unfold hbc at q; omega)) (fun _ _ _ _ => rfl)) B rfl (ft_trans ft_cp (ft_04 (Or.inl rfl) x3)) (Or.inl ⟨rfl, by omega, fun i hi => ?_⟩) (Or.inl rfl) (by omega)
    rw [x2 i hi, (ft_cp (w := w)).1 _ _ _ (by omega), h04 i hi, pm_0 n (by omega) h1 i hi]
  unfold s_X2_findOrder
  rw [copyFrom_e (by decide)]
  exact fin FU (by show 25 < 1000; decide)
end
