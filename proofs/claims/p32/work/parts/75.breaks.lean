/-! the jobs of a tug that breaks down -/
noncomputable def bkS (t h s : Nat) (c : Nat → Int64) : Nat → Int64 :=
  @ite _ (WITH c s t ∧ h ≤ LAST c s) (Classical.propDecidable _)
    (@ite _ (GOES c s t h) (Classical.propDecidable _) (cadd (cgo c s t h) 68 (I (LAST c s + 1 - h)).toInt64)
      (cadd (ctake c s (MH c s h)) 68 (I (CNT c (SF c s 8) (SF c s 7 + SF c s 3 - BEG c s h))).toInt64)) c
noncomputable def bkN (t h s : Nat) (c : Nat → Int64) : Nat := @ite _ ((WITH c s t ∧ h ≤ LAST c s) ∧ ¬ GOES c s t h) (Classical.propDecidable _) 1 0
noncomputable def cB (t h : Nat) (c : Nat → Int64) : Nat → (Nat → Int64)
  | 0 => c
  | s + 1 => bkS t h s (cB t h c s)
noncomputable def bN (t h : Nat) (c : Nat → Int64) : Nat → Nat
  | 0 => 0
  | s + 1 => bN t h c s + bkN t h s (cB t h c s)
/-- its hours after it, its bunkers before it, the jobs lost counted -/
def cend (c : Nat → Int64) (t h n : Nat) : Nat → Int64 := fun k => if k = 70 + 10 * t + 7 then (I h).toInt64 else if k = 70 + 10 * t + 9 then c k &&& HH 0 h else if k = 67 then c k + (I n).toInt64 else c k
def FD (hb : Nat) (g0 : Nat → Nat → Nat → Int32) (w0 : Nat → Nat → Nat → Int64) (g : Nat → Nat → Nat → Int32) (w : Nat → Nat → Nat → Int64) : Prop :=
  (∀ F i j, ¬ ((F = 1 ∧ i = hb ∧ 11 ≤ j) ∨ (F = 4 ∧ 8 * hb ≤ i ∧ i < 8 * hb + 8) ∨ (F = 5 ∧ 6 * hb ≤ i ∧ i < 6 * hb + 6)) → g F i j = g0 F i j) ∧
  (∀ F i j, ¬ ((F = 1 ∧ i = hb) ∨ (F = 5 ∧ 6 * hb ≤ i ∧ i < 6 * hb + 6)) → w F i j = w0 F i j)
/-- the reference's row alone -/
def FRW (w0 w : Nat → Nat → Nat → Int64) : Prop := ∀ F i j, ¬ (F = 2218 ∧ i = 0) → w F i j = w0 F i j
section
variable {g g' g'' : Nat → Nat → Nat → Int32} {w w' w'' : Nat → Nat → Nat → Int64} {hb : Nat} {c c' : Nat → Int64} {pl ba : Nat → Nat}
theorem fd_refl : FD hb g w g w := ⟨fun _ _ _ _ => rfl, fun _ _ _ _ => rfl⟩
theorem fd_trans (h1 : FD hb g w g' w') (h2 : FD hb g' w' g'' w'') : FD hb g w g'' w'' := ⟨fun F i j q => (h2.1 F i j q).trans (h1.1 F i j q), fun F i j q => (h2.2 F i j q).trans (h1.2 F i j q)⟩
theorem fd_1 {j : Nat} {x : Int32} (hj : 11 ≤ j) : FD hb g w (gI g 1 hb j x) w := ⟨fun F i j' q => by rw [gI_at, if_neg (by omega)], fun _ _ _ _ => rfl⟩
theorem fd_4 {s j : Nat} {x : Int32} (hs : s < 8) : FD hb g w (gI g 4 (8 * hb + s) j x) w := ⟨fun F i j' q => by rw [gI_at, if_neg (by omega)], fun _ _ _ _ => rfl⟩
theorem fd_5 {t j : Nat} {x : Int32} (ht : t < 6) : FD hb g w (gI g 5 (6 * hb + t) j x) w := ⟨fun F i j' q => by rw [gI_at, if_neg (by omega)], fun _ _ _ _ => rfl⟩
theorem fd_w5 {f : Nat → Int64 → Int64} : FD hb g w g (w5 hb f 6 w) := ⟨fun _ _ _ _ => rfl, fun F i j q => w5_out (by omega)⟩
theorem fd_wL {t j : Nat} {x : Int64} (ht : t < 6) : FD hb g w g (wL w 5 (6 * hb + t) j x) := ⟨fun _ _ _ _ => rfl, fun F i j' q => by rw [wL_at, if_neg (by omega)]⟩
theorem fd_pg {s : Nat} {a b : Int32} (hs : s < 8) : FD hb g w (pg (8 * hb + s) a b g) w := fd_trans (fd_4 hs) (fd_4 hs)
theorem frw_refl : FRW w w := fun _ _ _ _ => rfl
theorem frw_trans (h1 : FRW w w') (h2 : FRW w' w'') : FRW w w'' := fun F i j q => (h2 F i j q).trans (h1 F i j q)
theorem frw_L {j : Nat} {x : Int64} : FRW w (wL w 2218 0 j x) := fun F i j' q => by rw [wL_at, if_neg (by omega)]
theorem frw_fp (h : FP g w g' w') : FRW w w' := fun F i j q => h.2 F i j (by omega)
theorem t32_add (x : Int64) (n : Nat) : (x + (I n).toInt64).toInt32 = x.toInt32 + I n := by rw [Int64.toInt32_add, t6432]
theorem bkS_no {t h s : Nat} (q : ¬ (WITH c s t ∧ h ≤ LAST c s)) : bkS t h s c = c := if_neg q
theorem bkS_go {t h s : Nat} (q : WITH c s t ∧ h ≤ LAST c s) (q2 : GOES c s t h) : bkS t h s c = cadd (cgo c s t h) 68 (I (LAST c s + 1 - h)).toInt64 := (if_pos q).trans (if_pos q2)
theorem bkS_off {t h s : Nat} (q : WITH c s t ∧ h ≤ LAST c s) (q2 : ¬ GOES c s t h) : bkS t h s c = cadd (ctake c s (MH c s h)) 68 (I (CNT c (SF c s 8) (SF c s 7 + SF c s 3 - BEG c s h))).toInt64 := (if_pos q).trans (if_neg q2)
theorem bkN_no {t h s : Nat} (q : ¬ (WITH c s t ∧ h ≤ LAST c s)) : bkN t h s c = 0 := if_neg (fun p => q p.1)
theorem bkN_go {t h s : Nat} (q2 : GOES c s t h) : bkN t h s c = 0 := if_neg (fun p => p.2 q2)
theorem bkN_off {t h s : Nat} (q : WITH c s t ∧ h ≤ LAST c s) (q2 : ¬ GOES c s t h) : bkN t h s c = 1 := if_pos ⟨q, q2⟩
theorem bkS_same {t h s : Nat} (hs : s < 8) : SAME c (bkS t h s c) := by
  by_cases q : WITH c s t ∧ h ≤ LAST c s
  · by_cases q2 : GOES c s t h
    · rw [bkS_go q q2]; exact same_trans (cgo_same hs) (eqx_same (eqx_add (by decide) (by decide)))
    · rw [bkS_off q q2]; exact same_trans (ctake_same hs) (eqx_same (eqx_add (by decide) (by decide)))
  · rw [bkS_no q]; exact fun _ _ => rfl
theorem bkS_bi {t h s : Nat} (B : BI c) (ht : t < TN c) : BI (bkS t h s c) := by
  by_cases q : WITH c s t ∧ h ≤ LAST c s
  · by_cases q2 : GOES c s t h
    · rw [bkS_go q q2]; exact eqx_bi (bi_go B q.1.1 ht q.1.2.1 q2.2.1 q.1.2.2) (eqx_add (by decide) (by decide))
    · rw [bkS_off q q2]
      exact eqx_bi (bi_take B q.1.1 q.1.2.1 (fun j hj => mh_in (by have := last_lt B q.1.1 q.1.2.1; omega) j hj)) (eqx_add (by decide) (by decide))
  · rw [bkS_no q]; exact B
theorem cB_same {t h : Nat} : ∀ {k : Nat}, k ≤ 8 → SAME c (cB t h c k)
  | 0, _ => fun _ _ => rfl
  | k + 1, hk => same_trans (cB_same (k := k) (by omega)) (bkS_same (by omega))
theorem cB_bi {t h : Nat} (B : BI c) (ht : t < TN c) : ∀ {k : Nat}, k ≤ 8 → BI (cB t h c k)
  | 0, _ => B
  | k + 1, hk => bkS_bi (cB_bi B ht (k := k) (by omega)) (by rw [same_tn (cB_same (by omega))]; exact ht)
theorem cB_stop {t h : Nat} : ∀ {k : Nat}, SN c ≤ k → k ≤ 8 → cB t h c k = cB t h c (SN c) ∧ bN t h c k = bN t h c (SN c)
  | 0, h1, _ => by have : SN c = 0 := by omega
                   rw [this]; exact ⟨rfl, rfl⟩
  | k + 1, h1, h2 => by
    by_cases e : SN c = k + 1
    · rw [e]; exact ⟨rfl, rfl⟩
    · have ih := cB_stop (t := t) (h := h) (k := k) (by omega) (by omega)
      have no : ¬ (WITH (cB t h c k) k t ∧ h ≤ LAST (cB t h c k) k) := fun q => by
        have := q.1.1
        rw [same_sn (cB_same (by omega))] at this
        omega
      constructor
      · show bkS t h k (cB t h c k) = _
        rw [bkS_no no]; exact ih.1
      · show bN t h c k + bkN t h k (cB t h c k) = _
        rw [bkN_no no]; exact ih.2
theorem bN_le {t h : Nat} : ∀ k, bN t h c k ≤ k
  | 0 => Nat.le_refl _
  | k + 1 => by
    have := bN_le (t := t) (h := h) k
    show bN t h c k + bkN t h k (cB t h c k) ≤ k + 1
    have : bkN t h k (cB t h c k) ≤ 1 := by unfold bkN; split <;> omega
    omega
theorem cend_same {t h n : Nat} (ht : t < 6) : SAME c (cend c t h n) := fun k q => by
  unfold jk at q
  unfold cend; rw [if_neg (by omega), if_neg (by omega), if_neg (by omega)]
theorem cend_o {t h n k : Nat} (h1 : k ≠ 70 + 10 * t + 7) (h2 : k ≠ 70 + 10 * t + 9) (h3 : k ≠ 67) : cend c t h n k = c k := by
  unfold cend; rw [if_neg h1, if_neg h2, if_neg h3]
theorem cend_7 {t h n : Nat} : cend c t h n (70 + 10 * t + 7) = (I h).toInt64 := if_pos rfl
theorem cend_9 {t h n : Nat} : cend c t h n (70 + 10 * t + 9) = c (70 + 10 * t + 9) &&& HH 0 h := by
  unfold cend; rw [if_neg (by omega), if_pos rfl]
theorem cend_67 {t h n : Nat} : cend c t h n 67 = c 67 + (I n).toInt64 := by
  unfold cend; rw [if_neg (by omega), if_neg (by omega), if_pos rfl]
theorem cend_sf {t h n s j : Nat} (ht : t < 6) (hj : j < 11) : SF (cend c t h n) s j = SF c s j := by unfold SF nf; rw [cend_o (by omega) (by omega) (by omega)]
theorem cend_hr {t h n s : Nat} (ht : t < 6) : HR (cend c t h n) s = HR c s := by unfold HR; rw [cend_o (by omega) (by omega) (by omega)]
theorem cend_wk {t h n t' : Nat} : WK (cend c t h n) t' = WK c t' := by unfold WK; rw [cend_o (by omega) (by omega) (by omega)]
theorem and48 {x y : Int64} (h : b48 x) : b48 (x &&& y) := fun k hk => by rw [tb_and, h k hk]; rfl
theorem bi_end (B : BI c) {t h n : Nat} (ht : t < TN c) (hh : h ≤ 48) : BI (cend c t h n) := by
  have e6 := tn6 B
  have oj : ∀ s', (JOB (cend c t h n) s' ↔ JOB c s') := fun s' => by unfold JOB; rw [cend_hr (by omega)]
  refine bi_mk B (cend_same (by omega)) ?_ (fun i hi => ⟨?_, ?_, ?_⟩) (fun s hs => ?_) (fun s hs hJ i hi hbi k k1 k2 => ?_) (fun s1 s2 q1 q2 hne j1 j2 i hi b1 b2 => ?_)
  · rw [cend_o (by omega) (by omega) (by omega)]; exact B.1.2.2.2.2.2
  · by_cases e : i = t
    · subst e
      unfold rb
      rw [cend_7, Int32.toInt_toInt64, I_toInt (by omega)]
      omega
    · unfold rb; rw [cend_o (by omega) (by omega) (by omega)]; exact (bt B hi).2.2.2.2.2.2.2.1
  · rw [cend_wk]; exact wk48 B hi
  · have b := (bt B hi).2.2.2.2.2.2.2.2.2.2
    by_cases e : i = t
    · subst e
      show b48 (cend c i h n (70 + 10 * i + 9))
      rw [cend_9]; exact and48 b
    · show b48 (cend c t h n (70 + 10 * i + 9))
      rw [cend_o (by omega) (by omega) (by omega)]; exact b
  · rw [cend_sf (by omega) (by decide), cend_hr (by omega)]; unfold rb; rw [cend_o (by omega) (by omega) (by omega)]; exact (bs B hs).2.2.2.2.2.2.2
  · rw [cend_sf (by omega) (by decide)] at hbi k1 k2
    rw [cend_wk]
    exact B.2.2.2.2.2.1 s hs ((oj s).mp hJ) i hi hbi k k1 k2
  · rw [cend_sf (by omega) (by decide)] at b1 b2
    rw [cend_sf (by omega) (by decide), cend_sf (by omega) (by decide)]
    exact B.2.2.2.2.2.2 s1 s2 q1 q2 hne ((oj s1).mp j1) ((oj s2).mp j2) i hi b1 b2
theorem hb_end (H : HB g w hb c) (B : BI c) {t h n : Nat} (ht : t < TN c) (hh : h ≤ 48) : HB (gI g 5 (6 * hb + t) 7 (I h)) (wL w 5 (6 * hb + t) 9 (BN c t &&& HH 0 h)) hb (cend c t h n) := by
  have e6 := tn6 B
  have e8 := sn8 B
  have S := cend_same (c := c) (t := t) (h := h) (n := n) (by omega)
  have go : ∀ F i j, ¬ (F = 5 ∧ i = 6 * hb + t ∧ j = 7) → gI g 5 (6 * hb + t) 7 (I h) F i j = g F i j := fun F i j q => by rw [gI_at, if_neg (by omega)]
  refine ⟨⟨fun x hx => ?_, fun x hx => ?_, fun j hj => ?_, fun j hj => ?_, fun t' ht' j hj => ?_, fun s' hs' j hj => ?_⟩, ?_, fun t' ht' => ⟨?_, ?_, ?_⟩, fun t' q1 q2 => ?_, fun s' hs' => ⟨?_, ?_⟩, fun s' q1 q2 => ?_⟩
  · rw [cend_o (by omega) (by omega) (by omega), go _ _ _ (by omega)]; exact H.1.1 x hx
  · rw [cend_o (by omega) (by omega) (by omega), go _ _ _ (by omega)]; exact H.1.2.1 x hx
  · rw [cend_o (by omega) (by omega) (by omega), go _ _ _ (by omega)]; exact H.1.2.2.1 j hj
  · rw [cend_o (by omega) (by omega) (by omega), go _ _ _ (by omega)]; exact H.1.2.2.2.1 j hj
  · rw [cend_o (by omega) (by omega) (by omega), go _ _ _ (by omega)]; exact H.1.2.2.2.2.1 t' ht' j hj
  · rw [cend_o (by omega) (by omega) (by omega), go _ _ _ (by omega)]; exact H.1.2.2.2.2.2 s' hs' j hj
  · rw [cend_o (by omega) (by omega) (by omega), wL_at, if_neg (by omega)]; exact H.2.1
  · rw [same_tn S] at ht'
    by_cases e : t' = t
    · subst e
      rw [gI_at, if_pos ⟨rfl, rfl, rfl⟩, show TF (cend c t' h n) t' 7 = h from nf_eq cend_7 (by omega)]
    · rw [go _ _ _ (by omega), show TF (cend c t h n) t' 7 = TF c t' 7 from by unfold TF nf; rw [cend_o (by omega) (by omega) (by omega)]]
      exact (H.2.2.1 t' ht').1
  · rw [same_tn S] at ht'
    rw [cend_wk, wL_at, if_neg (by omega)]
    exact (H.2.2.1 t' ht').2.1
  · rw [same_tn S] at ht'
    by_cases e : t' = t
    · subst e
      rw [wL_at, if_pos ⟨rfl, rfl, rfl⟩]
      exact cend_9.symm
    · rw [wL_at, if_neg (by omega), (H.2.2.1 t' ht').2.2]
      exact (cend_o (k := 70 + 10 * t' + 9) (by omega) (by omega) (by omega)).symm
  · rw [same_tn S] at q1
    rw [wL_at, if_neg (by omega)]
    exact H.2.2.2.1 t' q1 q2
  · rw [same_sn S] at hs'
    rw [cend_hr (by omega), go _ _ _ (by omega)]
    exact (H.2.2.2.2.1 s' hs').1
  · rw [same_sn S] at hs'
    rw [cend_sf (by omega) (by decide), go _ _ _ (by omega)]
    exact (H.2.2.2.2.1 s' hs').2
  · rw [same_sn S] at q1
    rw [go _ _ _ (by omega)]
    exact H.2.2.2.2.2 s' q1 q2
/-- the program -/
theorem breakDown6 (H : HB g w hb c) (B : BI c) {t h : Nat} (ht : t < TN c) (hh : h ≤ 47) (e3 : g 1 hb 13 = (c 68).toInt32) :
    ∃ g' w', s_X1_breakDown hb (I t) (I h) g w = some (I (bN t h c 8), g', w') ∧ HB g' w' hb (cend (cB t h c 8) t h (bN t h c 8)) ∧ FD hb g w g' w' ∧ g' 1 hb 11 = g 1 hb 11 ∧ g' 1 hb 12 = g 1 hb 12 + I (bN t h c 8) ∧ g' 1 hb 13 = (cB t h c 8 68).toInt32 ∧ g' 1 hb 14 = g 1 hb 14 := by
  have e6 := tn6 B
  have key : ∀ (n k : Nat) (g1 : Nat → Nat → Nat → Int32) (w1 : Nat → Nat → Nat → Int64), k ≤ 8 → HB g1 w1 hb (cB t h c k) → FD hb g w g1 w1 → g1 1 hb 11 = g 1 hb 11 → g1 1 hb 12 = g 1 hb 12 + I (bN t h c k) → g1 1 hb 13 = (cB t h c k 68).toInt32 → g1 1 hb 14 = g 1 hb 14 → 9 - k < n →
      ∃ g' w', s_X1_breakDown_R16 hb (I t) (I h) n (I (bN t h c k)) (I k) g1 w1 = some (I (bN t h c 8), g', w') ∧ HB g' w' hb (cend (cB t h c 8) t h (bN t h c 8)) ∧ FD hb g w g' w' ∧ g' 1 hb 11 = g 1 hb 11 ∧ g' 1 hb 12 = g 1 hb 12 + I (bN t h c 8) ∧ g' 1 hb 13 = (cB t h c 8 68).toInt32 ∧ g' 1 hb 14 = g 1 hb 14 := by
    intro n
    induction n with
    | zero => intro k g1 w1 _ _ _ _ _ _ _ hm; omega
    | succ n ih =>
      intro k g1 w1 h1 h2 h3 h4 h5 h6 h7 hm
      have Bk := cB_bi (h := h) B ht (k := k) h1
      have htk : t < TN (cB t h c k) := by rw [same_tn (cB_same h1)]; exact ht
      show ∃ g' w', s_X1_breakDown_16 hb (I t) (I h) (s_X1_breakDown_R16 hb (I t) (I h) n) (I (bN t h c k)) (I k) g1 w1 = _ ∧ _
      unfold s_X1_breakDown_16 s_X1_breakDown_115
      rw [I_suc, I_suc]
      by_cases hk : k < 8
      · have e8 := inR_I (k := k) (n := 8) hk (by decide)
        rw [if_neg (show ¬ (8 : Int32) ≤ I k from nle (a := 8) hk (by decide)), if_pos e8, I_tn (by omega)]
        have step : ∀ {x : Nat} {g2 : Nat → Nat → Nat → Int32} {w2 : Nat → Nat → Nat → Int64}, bkN t h k (cB t h c k) = x → HB g2 w2 hb (bkS t h k (cB t h c k)) → FD hb g1 w1 g2 w2 → g2 1 hb 11 = g1 1 hb 11 → g2 1 hb 12 = g1 1 hb 12 + I x → g2 1 hb 13 = (bkS t h k (cB t h c k) 68).toInt32 → g2 1 hb 14 = g1 1 hb 14 →
            ∃ g' w', s_X1_breakDown_R16 hb (I t) (I h) n (I (bN t h c k + x)) (I (k + 1)) g2 w2 = some (I (bN t h c 8), g', w') ∧ HB g' w' hb (cend (cB t h c 8) t h (bN t h c 8)) ∧ FD hb g w g' w' ∧ g' 1 hb 11 = g 1 hb 11 ∧ g' 1 hb 12 = g 1 hb 12 + I (bN t h c 8) ∧ g' 1 hb 13 = (cB t h c 8 68).toInt32 ∧ g' 1 hb 14 = g 1 hb 14 := by
          intro x g2 w2 q1 q2 q3 q4 q5 q6 q7
          subst q1
          have := ih (k + 1) g2 w2 (by omega) q2 (fd_trans h3 q3) (q4.trans h4) ?_ q6 (q7.trans h7) (by omega)
          · exact this
          · rw [q5, h5, Int32.add_assoc, I_add]; rfl
        by_cases hW : WITH (cB t h c k) k t
        · rw [if_pos ((with6 h2 Bk hk (by omega)).mpr hW), last6 h2 Bk hW.1 hW.2.1]
          have ll := last_lt Bk hW.1 hW.2.1
          by_cases hL : h ≤ LAST (cB t h c k) k
          · rw [if_neg (nlt hL (by omega))]
            obtain ⟨b, eb, hbb⟩ := goes6 h2 Bk (t := t) (h := h) hW.1 hW.2.1 (by omega) hh
            rw [eb]
            show ∃ g' w', (if b = true then _ else _) = some (I (bN t h c 8), g', w') ∧ _
            rcases job_hr Bk hW.1 with ⟨h', _⟩ | ⟨_, _, _, hS1, hS, _, hS6⟩
            · exact absurd hW.2.1 h'
            by_cases e : b = true
            · have hG := hbb.mp e
              rw [if_pos e, shl32 t (by omega), release_e h2 Bk hW.1 hW.2.1 (S := 2 ^ t) (f := h) (Nat.pow_lt_pow_right (by decide) htk) (fun i q => by rw [bit_p] at q; rw [← of_decide_eq_true q]; exact hW.2.2) (by omega), cnt_one htk]
              have eb2 : BEG (cB t h c k) k h = h := by unfold BEG; rw [if_neg (by have := hG.1; omega)]
              have en : SF (cB t h c k) k 7 + SF (cB t h c k) k 3 - h = LAST (cB t h c k) k + 1 - h := by omega
              rw [eb2, en]
              show ∃ g' w', s_X1_breakDown_R16 hb (I t) (I h) n (I (bN t h c k)) (I (k + 1)) (gI (gI g1 1 hb 13 (g1 1 hb 13 + I (LAST (cB t h c k) k + 1 - h))) 4 (8 * hb + k) 8 ((gI g1 1 hb 13 (g1 1 hb 13 + I (LAST (cB t h c k) k + 1 - h)) 4 (8 * hb + k) 8) &&& ((I (2 ^ t)) ^^^ -1))) (w5 hb (frel (2 ^ t) (MH (cB t h c k) k h)) 6 w1) = some (I (bN t h c 8), g', w') ∧ _
              rw [gI_at, if_neg (by omega), c_ship h2 Bk hW.1 (j := 8) (by decide) (by decide), clr32 _ hS6 t (by omega)]
              refine step (x := 0) (bkN_go hG) ?_ (fd_trans (fd_1 (by decide)) (fd_trans (fd_4 hk) fd_w5)) ?_ ?_ ?_ ?_
              · rw [bkS_go ⟨hW, hL⟩ hG]
                exact eqx_hb (hb_go h2 Bk hW.1 htk hW.2.1) (eqx_add (by decide) (by decide))
              · rw [gI_at, if_neg (by omega), gI_at, if_neg (by omega)]
              · rw [gI_at, if_neg (by omega), gI_at, if_neg (by omega)]
                exact (Int32.add_zero _).symm
              · rw [gI_at, if_neg (by omega), gI_at, if_pos ⟨rfl, rfl, rfl⟩, bkS_go ⟨hW, hL⟩ hG, cadd_at, t32_add, h6, cgo_o (by omega) (by omega)]
              · rw [gI_at, if_neg (by omega), gI_at, if_neg (by omega)]
            · have hG : ¬ GOES (cB t h c k) k t h := fun q => e (hbb.mpr q)
              rw [if_neg e, takeOff_e h2 Bk hW.1 hW.2.1 (f := h) (by omega)]
              have go : ∀ j, 11 ≤ j → gI (pg (8 * hb + k) (-4) (I 0) g1) 1 hb 12 (g1 1 hb 12 + 1) 1 hb j = if j = 12 then g1 1 hb 12 + 1 else g1 1 hb j := fun j hj => by
                rw [gI_at]
                by_cases e : j = 12
                · rw [if_pos ⟨rfl, rfl, e⟩, if_pos e]
                · rw [if_neg (by omega), if_neg e]
                  unfold pg; rw [gI_at, if_neg (by omega), gI_at, if_neg (by omega)]
              refine step (x := 1) (bkN_off ⟨hW, hL⟩ hG) ?_ (fd_trans (fd_pg hk) (fd_trans (fd_1 (by decide)) (fd_trans (fd_1 (by decide)) fd_w5))) ?_ ?_ ?_ ?_
              · rw [bkS_off ⟨hW, hL⟩ hG]
                have t6 := tn6 (bi_take Bk (m := MH (cB t h c k) k h) hW.1 hW.2.1 (fun j hj => mh_in (by omega) j hj))
                have s8 := sn8 (bi_take Bk (m := MH (cB t h c k) k h) hW.1 hW.2.1 (fun j hj => mh_in (by omega) j hj))
                exact eqx_hb (hb_1 (hb_1 (hb_take h2 Bk hW.1 hW.2.1) t6 s8 (by decide)) t6 s8 (by decide)) (eqx_add (by decide) (by decide))
              · rw [gI_at, if_neg (by omega)]
                exact (go 11 (by decide)).trans (if_neg (by decide))
              · rw [gI_at, if_neg (by omega)]
                exact (go 12 (by decide)).trans (if_pos rfl)
              · rw [gI_at, if_pos ⟨rfl, rfl, rfl⟩]
                show g1 1 hb 13 + I _ = _
                rw [bkS_off ⟨hW, hL⟩ hG, cadd_at, t32_add, h6, ctake_o (by omega) (by omega) (by omega)]
              · rw [gI_at, if_neg (by omega)]
                exact (go 14 (by decide)).trans (if_neg (by decide))
          · rw [if_pos (ilt (by omega) (by omega))]
            have no : ¬ (WITH (cB t h c k) k t ∧ h ≤ LAST (cB t h c k) k) := fun q => hL q.2
            exact step (x := 0) (bkN_no no) (by rw [bkS_no no]; exact h2) fd_refl rfl (Int32.add_zero _).symm (by rw [bkS_no no]; exact h6) rfl
        · rw [if_neg (fun q => hW ((with6 h2 Bk hk (by omega)).mp q))]
          have no : ¬ (WITH (cB t h c k) k t ∧ h ≤ LAST (cB t h c k) k) := fun q => hW q.1
          exact step (x := 0) (bkN_no no) (by rw [bkS_no no]; exact h2) fd_refl rfl (Int32.add_zero _).symm (by rw [bkS_no no]; exact h6) rfl
      · have e : k = 8 := by omega
        subst e
        rw [if_pos (show (8 : Int32) ≤ I 8 by decide), if_pos (inR_I (k := t) (n := 6) (by omega) (by decide)), if_pos (inR_I (k := t) (n := 6) (by omega) (by decide)), I_tn (by omega), ahead6 (by omega), (h2.2.2.1 t htk).2.2]
        refine ⟨_, _, rfl, hb_end h2 Bk htk (by omega), fd_trans h3 (fd_trans (fd_5 (by omega)) (fd_wL (by omega))), ?_, ?_, ?_, ?_⟩
        · rw [gI_at, if_neg (by omega)]; exact h4
        · rw [gI_at, if_neg (by omega)]; exact h5
        · rw [gI_at, if_neg (by omega)]; exact h6
        · rw [gI_at, if_neg (by omega)]; exact h7
  exact key FU 0 g w (by decide) H fd_refl rfl (Int32.add_zero _).symm e3 rfl (by decide)
/-- the reference -/
theorem rv_go (R : RV w c) (B : BI c) {s t h : Nat} {n : Nat} (hs : s < 8) (ht : t < 6) {x y z : Int64} (e1 : x = w 2218 0 (70 + 10 * t + 8) &&& (MH c s h ^^^ -1)) (e2 : y = w 2218 0 68 + (I n).toInt64) (e3 : z = (I (CLR (SF c s 8) t)).toInt64) :
    RV (wL (wL (wL w 2218 0 (70 + 10 * t + 8) x) 2218 0 68 y) 2218 0 (130 + 11 * s + 8) z) (cadd (cgo c s t h) 68 (I n).toInt64) := fun k hk => by
  rw [wL_at, wL_at, wL_at]
  by_cases a1 : k = 130 + 11 * s + 8
  · subst a1
    rw [if_pos ⟨rfl, rfl, rfl⟩, e3]
    exact ((eqx_add (c := cgo c s t h) (x := (I n).toInt64) (j := 68) (by decide) (by decide) _ (by omega)).trans cgo_8).symm
  · rw [if_neg (by omega)]
    by_cases a2 : k = 68
    · subst a2
      rw [if_pos ⟨rfl, rfl, rfl⟩, cadd_at, cgo_o (by omega) (by omega), e2, R 68 (by decide)]
    · rw [if_neg (by omega), show cadd (cgo c s t h) 68 (I n).toInt64 k = cgo c s t h k from if_neg a2]
      by_cases a3 : k = 70 + 10 * t + 8
      · subst a3
        rw [if_pos ⟨rfl, rfl, rfl⟩, e1, R _ (by omega)]
        have := cgo_wk (c := c) (s := s) (t := t) (h := h) ht
        rw [show frel (2 ^ t) (MH c s h) t (WK c t) = WK c t &&& (MH c s h ^^^ -1) from if_pos (by rw [bit_p]; exact decide_eq_true rfl)] at this
        exact this.symm
      · rw [if_neg (by omega), R k hk]
        by_cases a4 : 70 ≤ k ∧ k < 130 ∧ (k - 70) % 10 = 8
        · have := cgo_wk (c := c) (s := s) (t := t) (h := h) (t' := (k - 70) / 10) (by omega)
          rw [show frel (2 ^ t) (MH c s h) ((k - 70) / 10) (WK c ((k - 70) / 10)) = WK c ((k - 70) / 10) from if_neg (fun q => by rw [bit_p] at q; have := of_decide_eq_true q; omega)] at this
          unfold WK at this
          rw [show 70 + 10 * ((k - 70) / 10) + 8 = k by omega] at this
          exact this.symm
        · exact (cgo_o a4 a1).symm
theorem rv_end (R : RV w c) {t h n : Nat} (ht : t < 6) {x y : Int64} (e1 : x = w 2218 0 (70 + 10 * t + 9) &&& HH 0 h) (e2 : y = w 2218 0 67 + (I n).toInt64) :
    RV (wL (wL (wL w 2218 0 (70 + 10 * t + 7) (I h).toInt64) 2218 0 (70 + 10 * t + 9) x) 2218 0 67 y) (cend c t h n) := fun k hk => by
  rw [wL_at, wL_at, wL_at]
  by_cases a1 : k = 67
  · subst a1
    rw [if_pos ⟨rfl, rfl, rfl⟩, cend_67, e2, R _ (by decide)]
  · rw [if_neg (by omega)]
    by_cases a2 : k = 70 + 10 * t + 9
    · subst a2
      rw [if_pos ⟨rfl, rfl, rfl⟩, cend_9, e1, R _ (by omega)]
    · rw [if_neg (by omega)]
      by_cases a3 : k = 70 + 10 * t + 7
      · subst a3
        rw [if_pos ⟨rfl, rfl, rfl⟩, cend_7]
      · rw [if_neg (by omega), R k hk, cend_o a3 a2 a1]
theorem iw7 {t : Nat} (ht : t < 6) : inR (((70 : Int32) + (10 : Int32) * I t) + 7) 218 = true ∧ (((70 : Int32) + (10 : Int32) * I t) + 7).toNatClampNeg = 70 + 10 * t + 7 := by
  rw [show (((70 : Int32) + (10 : Int32) * I t) + 7) = I (70 + 10 * t + 7) from ix_tug]
  exact ⟨inR_I (by omega) (by decide), I_tn (by omega)⟩
theorem iw9 {t : Nat} (ht : t < 6) : inR (((70 : Int32) + (10 : Int32) * I t) + 9) 218 = true ∧ (((70 : Int32) + (10 : Int32) * I t) + 9).toNatClampNeg = 70 + 10 * t + 9 := by
  rw [show (((70 : Int32) + (10 : Int32) * I t) + 9) = I (70 + 10 * t + 9) from ix_tug]
  exact ⟨inR_I (by omega) (by decide), I_tn (by omega)⟩
theorem n66 : (66 : Int32).toNatClampNeg = 66 := rfl
theorem n67 : (67 : Int32).toNatClampNeg = 67 := rfl
theorem n68 : (68 : Int32).toNatClampNeg = 68 := rfl
theorem n69 : (69 : Int32).toNatClampNeg = 69 := rfl
theorem breaks7 (R : RV w c) (B : BI c) {t h : Nat} (ht : t < TN c) (hh : h ≤ 47) :
    ∃ w', s_X7_breaks_R36 0 (I t) (I h) FU 0 0 g w = some (I (bN t h c (SN c)), g, w') ∧ RV w' (cend (cB t h c (SN c)) t h (bN t h c (SN c))) ∧ FRW w w' := by
  have e6 := tn6 B
  have e8 := sn8 B
  have key : ∀ (n k : Nat) (w1 : Nat → Nat → Nat → Int64), k ≤ SN c → RV w1 (cB t h c k) → FRW w w1 → 9 - k < n →
      ∃ w', s_X7_breaks_R36 0 (I t) (I h) n (I (bN t h c k)) (I k) g w1 = some (I (bN t h c (SN c)), g, w') ∧ RV w' (cend (cB t h c (SN c)) t h (bN t h c (SN c))) ∧ FRW w w' := by
    intro n
    induction n with
    | zero => intro k w1 _ _ _ hm; omega
    | succ n ih =>
      intro k w1 h1 h2 h3 hm
      have Bk := cB_bi (h := h) B ht (k := k) (by omega)
      have htk : t < TN (cB t h c k) := by rw [same_tn (cB_same (by omega))]; exact ht
      have hsn : SN (cB t h c k) = SN c := same_sn (cB_same (by omega))
      show ∃ w', s_X7_breaks_36 0 (I t) (I h) (s_X7_breaks_R36 0 (I t) (I h) n) (I (bN t h c k)) (I k) g w1 = _ ∧ _
      unfold s_X7_breaks_36 s_X7_breaks_187
      rw [I_suc, I_suc, (iw8 (t := t) (by omega)).2, (iw7 (t := t) (by omega)).2, (iw9 (t := t) (by omega)).2, n67, n68]
      by_cases hk : k < SN c
      · rw [(ix8 (s := k) (by omega)).2, if_neg (fun q => by have := (endS h2 Bk (k := k) (by omega)).mp q; omega)]
        obtain ⟨b, eb, hbb⟩ := isOf7 (g := g) (t := t) h2 Bk (s := k) (by omega) (by omega)
        rw [eb]
        show ∃ w', (if b = true then _ else _) = some (I (bN t h c (SN c)), g, w') ∧ _
        have skip : ¬ (WITH (cB t h c k) k t ∧ h ≤ LAST (cB t h c k) k) → ∃ w', s_X7_breaks_R36 0 (I t) (I h) n (I (bN t h c k)) (I (k + 1)) g w1 = some (I (bN t h c (SN c)), g, w') ∧ RV w' (cend (cB t h c (SN c)) t h (bN t h c (SN c))) ∧ FRW w w' := fun no => by
          have := ih (k + 1) w1 (by omega) (by show RV w1 (bkS t h k (cB t h c k)); rw [bkS_no no]; exact h2) h3 (by omega)
          rw [show bN t h c (k + 1) = bN t h c k from by show bN t h c k + bkN t h k (cB t h c k) = _; rw [bkN_no no]; rfl] at this
          exact this
        by_cases e : b = true
        · have hW := hbb.mp e
          have ll := last_lt Bk hW.1 hW.2.1
          rw [if_pos e, last7 h2 Bk hW.1 hW.2.1]
          show ∃ w', (if I (LAST (cB t h c k) k) < I h then _ else _) = some (I (bN t h c (SN c)), g, w') ∧ _
          by_cases hL : h ≤ LAST (cB t h c k) k
          · rw [if_neg (nlt hL (by omega))]
            obtain ⟨b2, eb2, hbb2⟩ := goes7 (g := g) h2 Bk (t := t) (h := h) hW.1 hW.2.1 (by omega) hh
            rw [eb2]
            show ∃ w', (if b2 = true then _ else _) = some (I (bN t h c (SN c)), g, w') ∧ _
            rcases job_hr Bk hW.1 with ⟨h', _⟩ | ⟨_, _, _, hS1, hS, _, hS6⟩
            · exact absurd hW.2.1 h'
            by_cases e2 : b2 = true
            · have hG := hbb2.mp e2
              have em := mh_eq (c := cB t h c k) (s := k) (f := h) (by omega) (by omega)
              rw [show BEG (cB t h c k) k h = h from if_neg (by have := hG.1; omega), show SF (cB t h c k) k 7 + SF (cB t h c k) k 3 = LAST (cB t h c k) k + 1 by omega] at em
              rw [if_pos e2, if_pos (iw8 (t := t) (by omega)).1]
              show ∃ w', (if inR (((70 : Int32) + (10 : Int32) * I t) + 8) 218 = true then (s_X7_last 0 (I k) g (wL w1 2218 0 (70 + 10 * t + 8) ((w1 2218 0 (70 + 10 * t + 8)) &&& ((s_X7_hours (I h) (I (LAST (cB t h c k) k) + 1) g w1) ^^^ -1)))).bind _ else none) = some (I (bN t h c (SN c)), g, w') ∧ _
              rw [if_pos (iw8 (t := t) (by omega)).1, last_cg (w := w1) (by omega) (fun j hj => by rw [wL_at, if_neg (by omega)]), last7 h2 Bk hW.1 hW.2.1]
              show ∃ w', (if inR (((130 : Int32) + (11 : Int32) * I k) + 8) 218 = true then _ else none) = some (I (bN t h c (SN c)), g, w') ∧ _
              rw [if_pos (ix8 (s := k) (by omega)).1, if_pos (ix8 (s := k) (by omega)).1, I_suc, show I (LAST (cB t h c k) k + 1) - I h = I (LAST (cB t h c k) k + 1 - h) from I_sub (by omega), hours7 (by omega) (by omega), ← em]
              have := ih (k + 1) _ (by omega) (by show RV _ (bkS t h k (cB t h c k)); rw [bkS_go ⟨hW, hL⟩ hG]; exact rv_go h2 Bk (s := k) (t := t) (h := h) (n := LAST (cB t h c k) k + 1 - h) (by omega) (by omega) rfl rfl rfl) (frw_trans h3 (frw_trans frw_L (frw_trans frw_L frw_L))) (by omega)
              rw [show bN t h c (k + 1) = bN t h c k from by show bN t h c k + bkN t h k (cB t h c k) = _; rw [bkN_go hG]; rfl] at this
              have ez : (w1 2218 0 (130 + 11 * k + 8)) &&& (((1 : Int64) <<< ((I t).toInt64 &&& 63)) ^^^ (-1 : Int64)) = (I (CLR (SF (cB t h c k) k 8) t)).toInt64 := by
                rw [h2 _ (by omega), show cB t h c k (130 + 11 * k + 8) = (I (SF (cB t h c k) k 8)).toInt64 from nf_L (lo := 0) (hi := 63) (bs_j Bk (j := 8) hW.1 (by decide) (by decide)) (by decide)]
                exact clr64 _ hS6 t (by omega)
              have e68 : ∀ x, wL w1 2218 0 (70 + 10 * t + 8) x 2218 0 68 = w1 2218 0 68 := fun x => by rw [wL_at, if_neg (by omega)]
              have e8 : ∀ x y, wL (wL w1 2218 0 (70 + 10 * t + 8) x) 2218 0 68 y 2218 0 (130 + 11 * k + 8) = w1 2218 0 (130 + 11 * k + 8) := fun x y => by rw [wL_at, if_neg (by omega), wL_at, if_neg (by omega)]
              rw [e8, e68, ez]
              exact this
            · have hG : ¬ GOES (cB t h c k) k t h := fun q => e2 (hbb2.mpr q)
              rw [if_neg e2, takes_e h2 Bk hW.1 hW.2.1 (f := h) (by omega)]
              have := ih (k + 1) _ (by omega) (by show RV _ (bkS t h k (cB t h c k)); rw [bkS_off ⟨hW, hL⟩ hG]; exact rv_add (rv_take h2 Bk hW.1 hW.2.1) rfl) (frw_trans h3 (frw_trans (frw_trans (frw_fp (g := g) (g' := g) (fp_wr (tn6 Bk))) (frw_fp (g := g) (g' := g) (fp_wj (by omega)))) frw_L)) (by omega)
              rw [show bN t h c (k + 1) = bN t h c k + 1 from by show bN t h c k + bkN t h k (cB t h c k) = _; rw [bkN_off ⟨hW, hL⟩ hG], ctake_o (k := 68) (by omega) (by omega) (by omega), ← h2 68 (by decide)] at this
              exact this
          · rw [if_pos (ilt (by omega) (by omega))]
            exact skip (fun q => hL q.2)
        · rw [if_neg e]
          exact skip (fun q => e (hbb.mpr q.1))
      · have e : k = SN c := by omega
        subst e
        rw [if_pos ((endS h2 Bk (k := SN c) (by omega)).mpr (by omega)), if_pos (iw7 (t := t) (by omega)).1, if_pos (iw9 (t := t) (by omega)).1, if_pos (iw9 (t := t) (by omega)).1]
        refine ⟨_, rfl, rv_end h2 (by omega) ?_ ?_, frw_trans h3 (frw_trans frw_L (frw_trans frw_L frw_L))⟩
        · rw [wL_at, if_neg (by omega)]
          exact congrArg _ (hours7 (a := 0) (b := h) (Nat.zero_le _) (by omega))
        · rw [wL_at, if_neg (by omega), wL_at, if_neg (by omega)]
  exact key FU 0 w (by omega) R frw_refl (by show 9 - 0 < 1000; omega)
end
