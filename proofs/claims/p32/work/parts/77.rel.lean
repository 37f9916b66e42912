/-! what holds of both sides between two calls, all of it -/
def kb (w : Nat → Nat → Nat → Int64) (i : Nat) : Nat → Int64 := fun k => w 2654 0 (218 * i + k)
def CN (g : Nat → Nat → Nat → Int32) (hb : Nat) (c : Nat → Int64) : Prop := ∀ i, i < 4 → g 1 hb (11 + i) = (c (66 + i)).toInt32
def KPS (g : Nat → Nat → Nat → Int32) (w : Nat → Nat → Nat → Int64) : Prop := ∀ i : Nat, (i : Int) < (g 7 0 2).toInt → JB g w (2 + i) (kb w i) ∧ BI (kb w i) ∧ CN g (2 + i) (kb w i)
def RLX (pl ba : Nat → Nat) (g : Nat → Nat → Nat → Int32) (w : Nat → Nat → Nat → Int64) : Prop :=
  (PC g pl ba ∧ PR g pl ba ∧ PB pl ba) ∧ JB g w 0 (w 2218 0) ∧ BI (w 2218 0) ∧ CN g 0 (w 2218 0) ∧ (∀ i, i < 4 → g 1004 0 i = I i) ∧ KPS g w
def REL (g : Nat → Nat → Nat → Int32) (w : Nat → Nat → Nat → Int64) : Prop := ST g w ∧ ∃ pl ba, RLX pl ba g w
/-- what a call of the program changes; what one of the reference changes -/
def FX (g0 : Nat → Nat → Nat → Int32) (w0 : Nat → Nat → Nat → Int64) (g : Nat → Nat → Nat → Int32) (w : Nat → Nat → Nat → Int64) : Prop :=
  (∀ F i j, ¬ ((F = 1 ∧ i < 2) ∨ (F = 4 ∧ i < 16) ∨ (F = 5 ∧ i < 12) ∨ F = 2 ∨ (F = 1004 ∧ (i = 1 ∨ i = 2)) ∨ (F = 1012 ∧ i = 1) ∨ (F = 1048 ∧ i = 1)) → g F i j = g0 F i j) ∧
  (∀ F i j, ¬ ((F = 1 ∧ i < 2) ∨ (F = 5 ∧ i < 12)) → w F i j = w0 F i j)
def FY (g0 : Nat → Nat → Nat → Int32) (w0 : Nat → Nat → Nat → Int64) (g : Nat → Nat → Nat → Int32) (w : Nat → Nat → Nat → Int64) : Prop :=
  (∀ F i j, ¬ (F = 7 ∧ i = 0 ∧ 10 ≤ j) → g F i j = g0 F i j) ∧ (∀ F i j, ¬ ((F = 2218 ∧ i = 0) ∨ F = 2022) → w F i j = w0 F i j)
section
variable {g g' g'' g1 g2 : Nat → Nat → Nat → Int32} {w w' w'' w1 w2 : Nat → Nat → Nat → Int64} {hb : Nat} {c c' : Nat → Int64} {pl ba : Nat → Nat}
theorem ok_and {α : Type} {P Q : α → Prop} {o : Option α} (h1 : Ok o P) (h2 : Ok o Q) : Ok o (fun r => P r ∧ Q r) := by
  obtain ⟨r, e, p⟩ := h1
  obtain ⟨r', e', q⟩ := h2
  rw [e] at e'
  injection e' with e'
  subst e'
  exact ⟨r, e, p, q⟩
theorem ok2_and {α β : Type} {P Q : α → β → Prop} {o : Option α} {f : α → Option β} (h1 : Ok o (fun q => Ok (f q) (fun r => P q r))) (h2 : Ok o (fun q => Ok (f q) (fun r => Q q r))) : Ok o (fun q => Ok (f q) (fun r => P q r ∧ Q q r)) :=
  ok_imp (ok_and h1 h2) (fun _ p => ok_and p.1 p.2)
theorem rel_hb (H : REL g w) {pl ba : Nat → Nat} (L : RLX pl ba g w) : HB g w 0 (w 2218 0) := ⟨H.1.2.2.2.1, L.2.1⟩
theorem rv_self : RV w (w 2218 0) := fun _ _ => rfl
theorem ag_nf {k : Nat} (h : c' k = c k) : nf c' k = nf c k := by unfold nf; rw [h]
theorem ag_sf {m : Nat} (h : ∀ k, m ≤ k → k < 218 → c' k = c k) (hm : m ≤ 130) {s j : Nat} (hs : s < 8) (hj : j < 11) : SF c' s j = SF c s j := ag_nf (h _ (by omega) (by omega))
theorem ag_tf {m : Nat} (h : ∀ k, m ≤ k → k < 218 → c' k = c k) (hm : m ≤ 70) {t j : Nat} (ht : t < 6) (hj : j < 10) : TF c' t j = TF c t j := ag_nf (h _ (by omega) (by omega))
/-- cells told that no job reads: blocks alike from 63 on -/
theorem jb_tell (H : JB g w hb c) (h6 : TN c ≤ 6) (h8 : SN c ≤ 8) (hc : ∀ k, 63 ≤ k → k < 218 → c' k = c k) (hg : ∀ F i j, F = 4 ∨ F = 5 → g' F i j = g F i j) (hw : ∀ F i j, F ≠ 2218 → w' F i j = w F i j) : JB g' w' hb c' := by
  have et : TN c' = TN c := ag_nf (hc _ (by omega) (by omega))
  have es : SN c' = SN c := ag_nf (hc _ (by omega) (by omega))
  refine ⟨?_, fun t ht => ⟨?_, ?_, ?_⟩, fun t q1 q2 => ?_, fun s hs => ⟨?_, ?_⟩, fun s q1 q2 => ?_⟩
  · rw [hw _ _ _ (by decide), hc _ (by omega) (by omega)]; exact H.1
  · rw [et] at ht
    rw [hg _ _ _ (Or.inr rfl), ag_tf hc (by decide) (by omega) (by decide)]; exact (H.2.1 t ht).1
  · rw [et] at ht
    rw [hw _ _ _ (by decide), (H.2.1 t ht).2.1]; exact (hc _ (by omega) (by omega)).symm
  · rw [et] at ht
    rw [hw _ _ _ (by decide), (H.2.1 t ht).2.2]; exact (hc _ (by omega) (by omega)).symm
  · rw [et] at q1
    rw [hw _ _ _ (by decide)]; exact H.2.2.1 t q1 q2
  · rw [es] at hs
    rw [hg _ _ _ (Or.inl rfl), (H.2.2.2.1 s hs).1]; unfold HR; rw [hc _ (by omega) (by omega)]
  · rw [es] at hs
    rw [hg _ _ _ (Or.inl rfl), (H.2.2.2.1 s hs).2, ag_sf hc (by decide) (by omega) (by decide)]
  · rw [es] at q1
    rw [hg _ _ _ (Or.inl rfl)]; exact H.2.2.2.2 s q1 q2
theorem ag_rb {k lo hi : Nat} (h : c' k = c k) (q : rb c k lo hi) : rb c' k lo hi := by unfold rb; rw [h]; exact q
theorem ag_bt (hc : ∀ k, 63 ≤ k → k < 218 → c' k = c k) {t : Nat} (ht : t < 6) (b : BT c t) : BT c' t := by
  refine ⟨ag_rb (hc _ (by omega) (by omega)) b.1, ag_rb (hc _ (by omega) (by omega)) b.2.1, ag_rb (hc _ (by omega) (by omega)) b.2.2.1, ag_rb (hc _ (by omega) (by omega)) b.2.2.2.1, ag_rb (hc _ (by omega) (by omega)) b.2.2.2.2.1, ag_rb (hc _ (by omega) (by omega)) b.2.2.2.2.2.1, ag_rb (hc _ (by omega) (by omega)) b.2.2.2.2.2.2.1, ag_rb (hc _ (by omega) (by omega)) b.2.2.2.2.2.2.2.1, ?_, ?_, ?_⟩
  · rw [ag_tf hc (by decide) ht (by decide), ag_tf hc (by decide) ht (by decide)]; exact b.2.2.2.2.2.2.2.2.1
  · show b48 (c' (70 + 10 * t + 8)); rw [hc _ (by omega) (by omega)]; exact b.2.2.2.2.2.2.2.2.2.1
  · show b48 (c' (70 + 10 * t + 9)); rw [hc _ (by omega) (by omega)]; exact b.2.2.2.2.2.2.2.2.2.2
theorem ag_bs (hc : ∀ k, 63 ≤ k → k < 218 → c' k = c k) {s : Nat} (hs : s < 8) (b : BS c s) : BS c' s := by
  refine ⟨ag_rb (hc _ (by omega) (by omega)) b.1, ag_rb (hc _ (by omega) (by omega)) b.2.1, ag_rb (hc _ (by omega) (by omega)) b.2.2.1, ag_rb (hc _ (by omega) (by omega)) b.2.2.2.1, ag_rb (hc _ (by omega) (by omega)) b.2.2.2.2.1, ag_rb (hc _ (by omega) (by omega)) b.2.2.2.2.2.1, ag_rb (hc _ (by omega) (by omega)) b.2.2.2.2.2.2.1, ?_⟩
  rw [show HR c' s = HR c s from by unfold HR; rw [hc _ (by omega) (by omega)], ag_sf hc (by decide) hs (by decide), ag_sf hc (by decide) hs (by decide), hc _ (by omega) (by omega), show TN c' = TN c from ag_nf (hc _ (by omega) (by omega))]
  refine b.2.2.2.2.2.2.2.imp id (fun q => ⟨q.1, q.2.1, ag_rb (hc _ (by omega) (by omega)) q.2.2.1, q.2.2.2⟩)
theorem ag_job (hc : ∀ k, 63 ≤ k → k < 218 → c' k = c k) {s : Nat} (hs : s < 8) : JOB c' s ↔ JOB c s := by unfold JOB HR; rw [hc _ (by omega) (by omega)]
theorem bi_tell (B : BI c) (hc : ∀ k, 63 ≤ k → k < 218 → c' k = c k) (r0 : rb c' 60 0 6) (r1 : rb c' 61 0 1) (r2 : rb c' 62 1 30) (ht : ∀ k, k < 12 → rb c' k 0 9) (hw : ∀ k, k < 48 → rb c' (12 + k) 0 9) : BI c' := by
  have h6 := tn6 B
  have h8 := sn8 B
  have et : TN c' = TN c := ag_nf (hc _ (by omega) (by omega))
  have es : SN c' = SN c := ag_nf (hc _ (by omega) (by omega))
  refine ⟨⟨ag_rb (hc _ (by omega) (by omega)) B.1.1, ag_rb (hc _ (by omega) (by omega)) B.1.2.1, r0, r1, r2, ?_⟩, ht, hw, fun t q => ag_bt hc (by omega) (B.2.2.2.1 t (by omega)), fun s q => ag_bs hc (by omega) (B.2.2.2.2.1 s (by omega)), fun s q hJ t ht hb k k1 k2 => ?_, fun s s' q q' hne j1 j2 t ht b1 b2 => ?_⟩
  · rw [hc _ (by omega) (by omega)]; exact B.1.2.2.2.2.2
  · rw [ag_sf hc (by decide) (by omega) (by decide)] at hb k1 k2
    rw [ag_sf hc (by decide) (by omega) (by decide)] at k2
    show tb (c' (70 + 10 * t + 8)) k = true
    rw [hc _ (by omega) (by omega)]
    exact B.2.2.2.2.2.1 s (by omega) ((ag_job hc (by omega)).mp hJ) t (by omega) hb k k1 k2
  · rw [ag_sf hc (by decide) (by omega) (by decide)] at b1 b2
    rw [ag_sf hc (by decide) (by omega) (by decide), ag_sf hc (by decide) (by omega) (by decide), ag_sf hc (by decide) (by omega) (by decide), ag_sf hc (by decide) (by omega) (by decide)]
    exact B.2.2.2.2.2.2 s s' (by omega) (by omega) hne ((ag_job hc (by omega)).mp j1) ((ag_job hc (by omega)).mp j2) t (by omega) b1 b2
theorem bi_ag (B : BI c) (hc : ∀ k, k < 218 → c' k = c k) : BI c' := bi_tell B (fun k _ h => hc k h) (ag_rb (hc _ (by omega)) B.1.2.2.1) (ag_rb (hc _ (by omega)) B.1.2.2.2.1) (ag_rb (hc _ (by omega)) B.1.2.2.2.2.1) (fun k hk => ag_rb (hc _ (by omega)) (B.2.1 k hk)) (fun k hk => ag_rb (hc _ (by omega)) (B.2.2.1 k hk))
theorem jb_ag (H : JB g w hb c) (h6 : TN c ≤ 6) (h8 : SN c ≤ 8) (hc : ∀ k, k < 218 → c' k = c k) : JB g w hb c' := jb_tell H h6 h8 (fun k _ h => hc k h) (fun _ _ _ _ => rfl) (fun _ _ _ _ => rfl)
/-- the job's cells, unchanged -/
theorem jb_cg (H : JB g w hb c) (h6 : TN c ≤ 6) (h8 : SN c ≤ 8) (hg : ∀ F i j, (F = 5 ∧ 6 * hb ≤ i ∧ i < 6 * hb + 6) ∨ (F = 4 ∧ 8 * hb ≤ i ∧ i < 8 * hb + 8) → g' F i j = g F i j) (hw : ∀ F i j, (F = 1 ∧ i = hb) ∨ (F = 5 ∧ 6 * hb ≤ i ∧ i < 6 * hb + 6) → w' F i j = w F i j) : JB g' w' hb c := by
  refine ⟨?_, fun t ht => ⟨?_, ?_, ?_⟩, fun t q1 q2 => ?_, fun s hs => ⟨?_, ?_⟩, fun s q1 q2 => ?_⟩
  · rw [hw _ _ _ (by omega)]; exact H.1
  · rw [hg _ _ _ (by omega)]; exact (H.2.1 t ht).1
  · rw [hw _ _ _ (by omega)]; exact (H.2.1 t ht).2.1
  · rw [hw _ _ _ (by omega)]; exact (H.2.1 t ht).2.2
  · rw [hw _ _ _ (by omega)]; exact H.2.2.1 t q1 q2
  · rw [hg _ _ _ (by omega)]; exact (H.2.2.2.1 s hs).1
  · rw [hg _ _ _ (by omega)]; exact (H.2.2.2.1 s hs).2
  · rw [hg _ _ _ (by omega)]; exact H.2.2.2.2 s q1 q2
theorem kps_cg (K : KPS g w) (h2 : g' 7 0 2 = g 7 0 2) (hg : ∀ F i j, (F = 4 ∧ 16 ≤ i) ∨ (F = 5 ∧ 12 ≤ i) ∨ (F = 1 ∧ 2 ≤ i) → g' F i j = g F i j) (hw : ∀ F i j, F = 2654 ∨ (F = 1 ∧ 2 ≤ i) ∨ (F = 5 ∧ 12 ≤ i) → w' F i j = w F i j) : KPS g' w' := fun i hi => by
  rw [h2] at hi
  obtain ⟨k1, k2, k3⟩ := K i hi
  have e : kb w' i = kb w i := funext (fun k => hw _ _ _ (Or.inl rfl))
  rw [e]
  exact ⟨jb_cg k1 (tn6 k2) (sn8 k2) (fun F i' j q => hg _ _ _ (by omega)) (fun F i' j q => hw _ _ _ (by omega)), k2, fun x hx => (hg _ _ _ (by omega)).trans (k3 x hx)⟩
theorem fx_refl : FX g w g w := ⟨fun _ _ _ _ => rfl, fun _ _ _ _ => rfl⟩
theorem fx_fd (h : FD 0 g w g' w') : FX g w g' w' := ⟨fun F i j q => h.1 F i j (by omega), fun F i j q => h.2 F i j (by omega)⟩
theorem fx_fc (h : FC 0 g w g' w') : FX g w g' w' := ⟨fun F i j q => h.1 F i j (by omega), fun F i j q => h.2 F i j (by omega)⟩
theorem fx_ft (h : FT g w g' w') : FX g w g' w' := ⟨fun F i j q => h.1 F i j (by omega), fun F i j q => h.2 F i j (by omega)⟩
theorem fx_trans (h1 : FX g w g' w') (h2 : FX g' w' g'' w'') : FX g w g'' w'' := ⟨fun F i j q => (h2.1 F i j q).trans (h1.1 F i j q), fun F i j q => (h2.2 F i j q).trans (h1.2 F i j q)⟩
theorem fy_refl : FY g w g w := ⟨fun _ _ _ _ => rfl, fun _ _ _ _ => rfl⟩
theorem fy_fq (h : FQ g w g' w') : FY g w g' w' := ⟨fun F i j q => h.1 F i j (by omega), fun F i j q => h.2 F i j (by omega)⟩
theorem fy_fp (h : FP g w g' w') : FY g w g' w' := fy_fq (fq_fp h)
theorem fy_frw (h : FRW w w') : FY g w g w' := ⟨fun _ _ _ _ => rfl, fun F i j q => h F i j (by omega)⟩
theorem fy_trans (h1 : FY g w g' w') (h2 : FY g' w' g'' w'') : FY g w g'' w'' := ⟨fun F i j q => (h2.1 F i j q).trans (h1.1 F i j q), fun F i j q => (h2.2 F i j q).trans (h1.2 F i j q)⟩
theorem rv_fx (h : FX g w g' w') {c : Nat → Int64} (R : RV w c) : RV w' c := fun k hk => (h.2 _ _ _ (by omega)).trans (R k hk)
theorem pr_fx (h : FX g w g' w') (P : PR g pl ba) : PR g' pl ba := fun b hb2 => ⟨(h.1 1006 2 b (by omega)).trans (P b hb2).1, (h.1 1006 3 b (by omega)).trans (P b hb2).2⟩
/-- a call of each side -/
theorem rl_step (L : RLX pl ba g w) (h1 : FX g w g1 w1) (h2 : FY g1 w1 g2 w2) (R : RV w2 c') (H : HB g1 w1 0 c') (B : BI c') (N : CN g1 0 c') : RLX pl ba g2 w2 := by
  have hr : ∀ k, k < 218 → w2 2218 0 k = c' k := R
  refine ⟨⟨fun b hb => ⟨?_, ?_⟩, fun b hb => ⟨?_, ?_⟩, L.1.2.2⟩, jb_ag (jb_cg H.2 (tn6 B) (sn8 B) (fun F i j q => h2.1 _ _ _ (by omega)) (fun F i j q => h2.2 _ _ _ (by omega))) (tn6 B) (sn8 B) hr, bi_ag B hr, fun i hi => ?_, fun i hi => ?_, ?_⟩
  · exact ((h2.1 _ _ _ (by omega)).trans (h1.1 _ _ _ (by omega))).trans (L.1.1 b hb).1
  · exact ((h2.1 _ _ _ (by omega)).trans (h1.1 _ _ _ (by omega))).trans (L.1.1 b hb).2
  · exact ((h2.1 _ _ _ (by omega)).trans (h1.1 _ _ _ (by omega))).trans (L.1.2.1 b hb).1
  · exact ((h2.1 _ _ _ (by omega)).trans (h1.1 _ _ _ (by omega))).trans (L.1.2.1 b hb).2
  · exact ((h2.1 _ _ _ (by omega)).trans (N i hi)).trans (congrArg _ (hr _ (by omega)).symm)
  · exact ((h2.1 _ _ _ (by omega)).trans (h1.1 _ _ _ (by omega))).trans (L.2.2.2.2.1 i hi)
  · exact kps_cg L.2.2.2.2.2 ((h2.1 _ _ _ (by omega)).trans (h1.1 _ _ _ (by omega))) (fun F i j q => (h2.1 _ _ _ (by omega)).trans (h1.1 _ _ _ (by omega))) (fun F i j q => (h2.2 _ _ _ (by omega)).trans (h1.2 _ _ _ (by omega)))
theorem rl_tell (L : RLX pl ba g w) (hg : ∀ F i j, ¬ ((F = 1012 ∧ i = 0) ∨ (F = 1048 ∧ i = 0) ∨ (F = 1 ∧ i = 0 ∧ 5 ≤ j ∧ j < 8)) → g2 F i j = g F i j) (hw : ∀ F i j, ¬ (F = 2218 ∧ i = 0 ∧ j < 63) → w2 F i j = w F i j) (B : BI (w2 2218 0)) : RLX pl ba g2 w2 := by
  refine ⟨⟨fun b hb => ⟨?_, ?_⟩, fun b hb => ⟨?_, ?_⟩, L.1.2.2⟩, jb_tell (g := g) (w := w) L.2.1 (tn6 L.2.2.1) (sn8 L.2.2.1) (fun k q _ => hw _ _ _ (by omega)) (fun F i j q => hg _ _ _ (by omega)) (fun F i j q => hw _ _ _ (by omega)), B, fun i hi => ?_, fun i hi => ?_, ?_⟩
  · exact (hg _ _ _ (by omega)).trans (L.1.1 b hb).1
  · exact (hg _ _ _ (by omega)).trans (L.1.1 b hb).2
  · exact (hg _ _ _ (by omega)).trans (L.1.2.1 b hb).1
  · exact (hg _ _ _ (by omega)).trans (L.1.2.1 b hb).2
  · exact ((hg _ _ _ (by omega)).trans (L.2.2.2.1 i hi)).trans (congrArg _ (hw _ _ _ (by omega)).symm)
  · exact (hg _ _ _ (by omega)).trans (L.2.2.2.2.1 i hi)
  · exact kps_cg L.2.2.2.2.2 (hg _ _ _ (by omega)) (fun F i j q => hg _ _ _ (by omega)) (fun F i j q => hw _ _ _ (by omega))
theorem rb_v {k lo hi : Nat} {v : Int32} (h : (lo : Int) ≤ v.toInt ∧ v.toInt ≤ hi) (e : c k = v.toInt64) : rb c k lo hi := by
  unfold rb; rw [e, Int32.toInt_toInt64]; exact h
/-- one cell of the block told -/
theorem bi_cell (B : BI (w 2218 0)) {k : Nat} {v : Int32} (hk : k < 63) (h0 : k = 60 → (0 : Int) ≤ v.toInt ∧ v.toInt ≤ 6) (h1 : k = 61 → (0 : Int) ≤ v.toInt ∧ v.toInt ≤ 1) (h2 : k = 62 → (1 : Int) ≤ v.toInt ∧ v.toInt ≤ 30) (h9 : k < 60 → (0 : Int) ≤ v.toInt ∧ v.toInt ≤ 9) : BI (wL w 2218 0 k v.toInt64 2218 0) := by
  have at1 : wL w 2218 0 k v.toInt64 2218 0 k = v.toInt64 := by rw [wL_at, if_pos ⟨rfl, rfl, rfl⟩]
  have at2 : ∀ j, j ≠ k → wL w 2218 0 k v.toInt64 2218 0 j = w 2218 0 j := fun j hj => by rw [wL_at, if_neg (by omega)]
  refine bi_tell B (fun j q _ => at2 j (by omega)) ?_ ?_ ?_ (fun j hj => ?_) (fun j hj => ?_)
  · by_cases e : k = 60
    · subst e; exact rb_v (h0 rfl) at1
    · exact ag_rb (at2 _ (by omega)) B.1.2.2.1
  · by_cases e : k = 61
    · subst e; exact rb_v (h1 rfl) at1
    · exact ag_rb (at2 _ (by omega)) B.1.2.2.2.1
  · by_cases e : k = 62
    · subst e; exact rb_v (h2 rfl) at1
    · exact ag_rb (at2 _ (by omega)) B.1.2.2.2.2.1
  · by_cases e : j = k
    · subst e; exact rb_v (h9 (by omega)) at1
    · exact ag_rb (at2 _ e) (B.2.1 j hj)
  · by_cases e : 12 + j = k
    · subst e; exact rb_v (h9 (by omega)) at1
    · exact ag_rb (at2 _ e) (B.2.2.1 j hj)
theorem rel_tell {v : Int32} {F0 i0 j0 k : Nat} (H : REL g w) (S : ST (gI g F0 i0 j0 v) (wL w 2218 0 k v.toInt64)) (hF : (F0 = 1012 ∧ i0 = 0) ∨ (F0 = 1048 ∧ i0 = 0) ∨ (F0 = 1 ∧ i0 = 0 ∧ 5 ≤ j0 ∧ j0 < 8)) (hk : k < 63) (h0 : k = 60 → (0 : Int) ≤ v.toInt ∧ v.toInt ≤ 6) (h1 : k = 61 → (0 : Int) ≤ v.toInt ∧ v.toInt ≤ 1) (h2 : k = 62 → (1 : Int) ≤ v.toInt ∧ v.toInt ≤ 30) (h9 : k < 60 → (0 : Int) ≤ v.toInt ∧ v.toInt ≤ 9) : REL (gI g F0 i0 j0 v) (wL w 2218 0 k v.toInt64) := by
  obtain ⟨_, pl, ba, L⟩ := H
  exact ⟨S, pl, ba, rl_tell L (fun F i j q => by rw [gI_at, if_neg (by omega)]) (fun F i j q => by rw [wL_at, if_neg (by omega)]) (bi_cell L.2.2.1 hk h0 h1 h2 h9)⟩
end
