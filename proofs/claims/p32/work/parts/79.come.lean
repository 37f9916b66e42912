/-! a tug, a ship comes: all that holds -/
section
variable {g g' g2 : Nat → Nat → Nat → Int32} {w w' w2 : Nat → Nat → Nat → Int64} {hb : Nat} {c c' : Nat → Int64} {pl ba : Nat → Nat} {v : Nat → Int32}
theorem nf_v {k : Nat} {x : Int32} (e : c k = x.toInt64) : nf c k = x.toInt.toNat := by unfold nf; rw [e, Int32.toInt_toInt64]
theorem bi_tug (B : BI c) {a : Nat} (ea : TN c = a) (ha : a < 6) (hc : ∀ k, k < 218 → ¬ (k = 64 ∨ (70 + 10 * a ≤ k ∧ k < 70 + 10 * a + 10)) → c' k = c k) (h64 : c' 64 = (I (a + 1)).toInt64) (hv : ∀ j, j < 7 → c' (70 + 10 * a + j) = (v j).toInt64)
    (h7 : c' (70 + 10 * a + 7) = 48) (h8 : c' (70 + 10 * a + 8) = 0) (h9 : c' (70 + 10 * a + 9) = 0)
    (v0 : (0 : Int) ≤ (v 0).toInt ∧ (v 0).toInt ≤ 1) (v1 : (1 : Int) ≤ (v 1).toInt ∧ (v 1).toInt ≤ 60) (v2 : (0 : Int) ≤ (v 2).toInt ∧ (v 2).toInt ≤ 1) (v3 : (0 : Int) ≤ (v 3).toInt ∧ (v 3).toInt ≤ (v 4).toInt) (v4 : (1 : Int) ≤ (v 4).toInt ∧ (v 4).toInt ≤ 48) (v5 : (1 : Int) ≤ (v 5).toInt ∧ (v 5).toInt ≤ 12) (v6 : (0 : Int) ≤ (v 6).toInt ∧ (v 6).toInt ≤ 5) : BI c' := by
  have e8 := sn8 B
  have et : TN c' = a + 1 := nf_eq h64 (by omega)
  have es : SN c' = SN c := ag_nf (hc _ (by omega) (by omega))
  have sf : ∀ s j, s < 8 → j < 11 → SF c' s j = SF c s j := fun s j hs hj => ag_nf (hc _ (by omega) (by omega))
  have hr : ∀ s, s < 8 → HR c' s = HR c s := fun s hs => by unfold HR; rw [hc _ (by omega) (by omega)]
  have job : ∀ s, s < 8 → (JOB c' s ↔ JOB c s) := fun s hs => by unfold JOB; rw [hr s hs]
  have p2 : (2 : Nat) ^ a ≤ 2 ^ (a + 1) := Nat.pow_le_pow_right (by decide) (by omega)
  have low : ∀ s, s < SN c → JOB c s → ∀ t, (SF c s 8).testBit t = true → t < a := fun s hs hJ t ht => by
    rcases job_hr B hs with ⟨h', _⟩ | ⟨_, _, _, _, hS, _, _⟩
    · exact absurd hJ h'
    · rw [ea] at hS; exact bit_lt hS ht
  refine ⟨⟨?_, ag_rb (hc _ (by omega) (by omega)) B.1.2.1, ag_rb (hc _ (by omega) (by omega)) B.1.2.2.1, ag_rb (hc _ (by omega) (by omega)) B.1.2.2.2.1, ag_rb (hc _ (by omega) (by omega)) B.1.2.2.2.2.1, ?_⟩, fun k hk => ag_rb (hc _ (by omega) (by omega)) (B.2.1 k hk), fun k hk => ag_rb (hc _ (by omega) (by omega)) (B.2.2.1 k hk), fun t q => ?_, fun s q => ?_, fun s q hJ t ht hb k k1 k2 => ?_, fun s s' q q' hne j1 j2 t ht b1 b2 => ?_⟩
  · refine rb_v ?_ h64
    rw [I_toInt (by omega)]; omega
  · rw [hc _ (by omega) (by omega)]; exact B.1.2.2.2.2.2
  · rw [et] at q
    by_cases e : t = a
    · subst e
      refine ⟨rb_v v0 (hv 0 (by decide)), rb_v v1 (hv 1 (by decide)), rb_v v2 (hv 2 (by decide)), rb_v ?_ (hv 3 (by decide)), rb_v v4 (hv 4 (by decide)), rb_v v5 (hv 5 (by decide)), rb_v v6 (hv 6 (by decide)), ?_, ?_, ?_, ?_⟩
      · omega
      · unfold rb; rw [h7, show (48 : Int64).toInt = 48 from rfl]; omega
      · unfold TF; rw [nf_v (hv 3 (by decide)), nf_v (hv 4 (by decide))]; omega
      · show b48 (c' (70 + 10 * t + 8)); rw [h8]; exact b48_0
      · show b48 (c' (70 + 10 * t + 9)); rw [h9]; exact b48_0
    · have b := B.2.2.2.1 t (by omega)
      have h : ∀ j, j < 10 → c' (70 + 10 * t + j) = c (70 + 10 * t + j) := fun j hj => hc _ (by omega) (by omega)
      refine ⟨ag_rb (h 0 (by decide)) b.1, ag_rb (h 1 (by decide)) b.2.1, ag_rb (h 2 (by decide)) b.2.2.1, ag_rb (h 3 (by decide)) b.2.2.2.1, ag_rb (h 4 (by decide)) b.2.2.2.2.1, ag_rb (h 5 (by decide)) b.2.2.2.2.2.1, ag_rb (h 6 (by decide)) b.2.2.2.2.2.2.1, ag_rb (h 7 (by decide)) b.2.2.2.2.2.2.2.1, ?_, ?_, ?_⟩
      · rw [show TF c' t 3 = TF c t 3 from ag_nf (h 3 (by decide)), show TF c' t 4 = TF c t 4 from ag_nf (h 4 (by decide))]; exact b.2.2.2.2.2.2.2.2.1
      · show b48 (c' (70 + 10 * t + 8)); rw [h 8 (by decide)]; exact b.2.2.2.2.2.2.2.2.2.1
      · show b48 (c' (70 + 10 * t + 9)); rw [h 9 (by decide)]; exact b.2.2.2.2.2.2.2.2.2.2
  · rw [es] at q
    have b := B.2.2.2.2.1 s q
    have h : ∀ j, j < 11 → c' (130 + 11 * s + j) = c (130 + 11 * s + j) := fun j hj => hc _ (by omega) (by omega)
    refine ⟨ag_rb (h 0 (by decide)) b.1, ag_rb (h 1 (by decide)) b.2.1, ag_rb (h 2 (by decide)) b.2.2.1, ag_rb (h 3 (by decide)) b.2.2.2.1, ag_rb (h 4 (by decide)) b.2.2.2.2.1, ag_rb (h 5 (by decide)) b.2.2.2.2.2.1, ag_rb (h 6 (by decide)) b.2.2.2.2.2.2.1, ?_⟩
    rw [hr s (by omega), sf s 3 (by omega) (by decide), sf s 8 (by omega) (by decide), h 8 (by decide), et]
    refine b.2.2.2.2.2.2.2.imp id (fun q => ⟨q.1, q.2.1, ag_rb (h 8 (by decide)) q.2.2.1, ?_⟩)
    have := q.2.2.2
    rw [ea] at this
    omega
  · rw [es] at q
    rw [sf s 8 (by omega) (by decide)] at hb
    rw [sf s 7 (by omega) (by decide)] at k1 k2
    rw [sf s 3 (by omega) (by decide)] at k2
    have hJ' := (job s (by omega)).mp hJ
    have := low s q hJ' t hb
    show tb (c' (70 + 10 * t + 8)) k = true
    rw [hc _ (by omega) (by omega)]
    exact B.2.2.2.2.2.1 s q hJ' t (by omega) hb k k1 k2
  · rw [es] at q q'
    rw [sf s 8 (by omega) (by decide)] at b1
    rw [sf s' 8 (by omega) (by decide)] at b2
    rw [sf s 7 (by omega) (by decide), sf s 3 (by omega) (by decide), sf s' 7 (by omega) (by decide), sf s' 3 (by omega) (by decide)]
    have hJ' := (job s (by omega)).mp j1
    have := low s q hJ' t b1
    exact B.2.2.2.2.2.2 s s' q q' hne hJ' ((job s' (by omega)).mp j2) t (by omega) b1 b2
theorem rl_tug (L : RLX pl ba g w) {a : Nat} (ha : a < 6) (ew : w 2218 0 64 = (I a).toInt64)
    (hg : ∀ F i j, ¬ (F = 5 ∧ i = a ∧ j < 8) → ¬ (F = 1 ∧ i = 0 ∧ j = 9) → g2 F i j = g F i j) (hg7 : g2 5 a 7 = 48)
    (hw : ∀ F i j, ¬ (F = 5 ∧ i = a ∧ (j = 8 ∨ j = 9)) → ¬ (F = 2218 ∧ i = 0 ∧ (j = 64 ∨ (70 + 10 * a ≤ j ∧ j < 70 + 10 * a + 10))) → w2 F i j = w F i j)
    (w8 : w2 5 a 8 = 0) (w9 : w2 5 a 9 = 0) (h64 : w2 2218 0 64 = (I (a + 1)).toInt64) (hv : ∀ j, j < 7 → w2 2218 0 (70 + 10 * a + j) = (v j).toInt64)
    (h7 : w2 2218 0 (70 + 10 * a + 7) = 48) (h8 : w2 2218 0 (70 + 10 * a + 8) = 0) (h9 : w2 2218 0 (70 + 10 * a + 9) = 0)
    (v0 : (0 : Int) ≤ (v 0).toInt ∧ (v 0).toInt ≤ 1) (v1 : (1 : Int) ≤ (v 1).toInt ∧ (v 1).toInt ≤ 60) (v2 : (0 : Int) ≤ (v 2).toInt ∧ (v 2).toInt ≤ 1) (v3 : (0 : Int) ≤ (v 3).toInt ∧ (v 3).toInt ≤ (v 4).toInt) (v4 : (1 : Int) ≤ (v 4).toInt ∧ (v 4).toInt ≤ 48) (v5 : (1 : Int) ≤ (v 5).toInt ∧ (v 5).toInt ≤ 12) (v6 : (0 : Int) ≤ (v 6).toInt ∧ (v 6).toInt ≤ 5) : RLX pl ba g2 w2 := by
  have ea : TN (w 2218 0) = a := nf_eq ew (by omega)
  have B := L.2.2.1
  have e8 := sn8 B
  have hc : ∀ k, k < 218 → ¬ (k = 64 ∨ (70 + 10 * a ≤ k ∧ k < 70 + 10 * a + 10)) → w2 2218 0 k = w 2218 0 k := fun k _ q => hw _ _ _ (by omega) (by omega)
  have et : TN (w2 2218 0) = a + 1 := nf_eq h64 (by omega)
  have es : SN (w2 2218 0) = SN (w 2218 0) := ag_nf (hc _ (by omega) (by omega))
  have J := L.2.1
  refine ⟨⟨fun b hb => ⟨?_, ?_⟩, fun b hb => ⟨?_, ?_⟩, L.1.2.2⟩, ⟨?_, fun t ht => ?_, fun t q1 q2 => ?_, fun s hs => ⟨?_, ?_⟩, fun s q1 q2 => ?_⟩, bi_tug B ea ha hc h64 hv h7 h8 h9 v0 v1 v2 v3 v4 v5 v6, fun i hi => ?_, fun i hi => ?_, ?_⟩
  · exact (hg _ _ _ (by omega) (by omega)).trans (L.1.1 b hb).1
  · exact (hg _ _ _ (by omega) (by omega)).trans (L.1.1 b hb).2
  · exact (hg _ _ _ (by omega) (by omega)).trans (L.1.2.1 b hb).1
  · exact (hg _ _ _ (by omega) (by omega)).trans (L.1.2.1 b hb).2
  · rw [hw 1 0 8 (by omega) (by omega), hc 63 (by omega) (by omega)]; exact J.1
  · rw [et] at ht
    by_cases e : t = a
    · subst e
      rw [show 6 * 0 + t = t by omega]
      exact ⟨hg7.trans (by rw [show TF (w2 2218 0) t 7 = 48 from nf_eq (n := 48) h7 (by decide)]; rfl), w8.trans h8.symm, w9.trans h9.symm⟩
    · have q := J.2.1 t (by omega)
      refine ⟨?_, ?_, ?_⟩
      · rw [hg _ _ _ (by omega) (by omega), show TF (w2 2218 0) t 7 = TF (w 2218 0) t 7 from ag_nf (hc _ (by omega) (by omega))]; exact q.1
      · rw [hw _ _ _ (by omega) (by omega), q.2.1]; exact (hc _ (by omega) (by omega)).symm
      · rw [hw _ _ _ (by omega) (by omega), q.2.2]; exact (hc _ (by omega) (by omega)).symm
  · rw [et] at q1
    rw [hw _ _ _ (by omega) (by omega)]; exact J.2.2.1 t (by omega) q2
  · rw [es] at hs
    rw [hg _ _ _ (by omega) (by omega), (J.2.2.2.1 s hs).1]; unfold HR; rw [hc _ (by omega) (by omega)]
  · rw [es] at hs
    rw [hg _ _ _ (by omega) (by omega), (J.2.2.2.1 s hs).2, show SF (w2 2218 0) s 8 = SF (w 2218 0) s 8 from ag_nf (hc _ (by omega) (by omega))]
  · rw [es] at q1
    rw [hg _ _ _ (by omega) (by omega)]; exact J.2.2.2.2 s q1 q2
  · exact ((hg _ _ _ (by omega) (by omega)).trans (L.2.2.2.1 i hi)).trans (congrArg _ (hc _ (by omega) (by omega)).symm)
  · exact (hg _ _ _ (by omega) (by omega)).trans (L.2.2.2.2.1 i hi)
  · exact kps_cg L.2.2.2.2.2 (hg _ _ _ (by omega) (by omega)) (fun F i j q => hg _ _ _ (by omega) (by omega)) (fun F i j q => hw _ _ _ (by omega) (by omega))
theorem bi_ship (B : BI c) {a : Nat} (ea : SN c = a) (ha : a < 8) (hc : ∀ k, k < 218 → ¬ (k = 65 ∨ (130 + 11 * a ≤ k ∧ k < 130 + 11 * a + 9)) → c' k = c k) (h65 : c' 65 = (I (a + 1)).toInt64) (hv : ∀ j, j < 7 → c' (130 + 11 * a + j) = (v j).toInt64)
    (h7 : c' (130 + 11 * a + 7) = -4) (h8 : c' (130 + 11 * a + 8) = 0)
    (v0 : (1 : Int) ≤ (v 0).toInt ∧ (v 0).toInt ≤ 50) (v1 : (0 : Int) ≤ (v 1).toInt ∧ (v 1).toInt ≤ 9) (v2 : (0 : Int) ≤ (v 2).toInt ∧ (v 2).toInt ≤ 47) (v3 : (1 : Int) ≤ (v 3).toInt ∧ (v 3).toInt ≤ 4) (v4 : (1 : Int) ≤ (v 4).toInt ∧ (v 4).toInt ≤ 20) (v5 : (0 : Int) ≤ (v 5).toInt ∧ (v 5).toInt ≤ 5) (v6 : (0 : Int) ≤ (v 6).toInt ∧ (v 6).toInt ≤ 5) : BI c' := by
  have e6 := tn6 B
  have et : TN c' = TN c := ag_nf (hc _ (by omega) (by omega))
  have es : SN c' = a + 1 := nf_eq h65 (by omega)
  have no : ¬ JOB c' a := by unfold JOB HR; rw [h7]; decide
  have old : ∀ s, s < a + 1 → JOB c' s → s < SN c := fun s hs hJ => by
    by_cases e : s = a
    · subst e; exact absurd hJ no
    · omega
  have sf : ∀ s j, s < a → j < 11 → SF c' s j = SF c s j := fun s j hs hj => ag_nf (hc _ (by omega) (by omega))
  have hr : ∀ s, s < a → HR c' s = HR c s := fun s hs => by unfold HR; rw [hc _ (by omega) (by omega)]
  have job : ∀ s, s < a → (JOB c' s ↔ JOB c s) := fun s hs => by unfold JOB; rw [hr s hs]
  refine ⟨⟨ag_rb (hc _ (by omega) (by omega)) B.1.1, ?_, ag_rb (hc _ (by omega) (by omega)) B.1.2.2.1, ag_rb (hc _ (by omega) (by omega)) B.1.2.2.2.1, ag_rb (hc _ (by omega) (by omega)) B.1.2.2.2.2.1, ?_⟩, fun k hk => ag_rb (hc _ (by omega) (by omega)) (B.2.1 k hk), fun k hk => ag_rb (hc _ (by omega) (by omega)) (B.2.2.1 k hk), fun t q => ?_, fun s q => ?_, fun s q hJ t ht hb k k1 k2 => ?_, fun s s' q q' hne j1 j2 t ht b1 b2 => ?_⟩
  · refine rb_v ?_ h65
    rw [I_toInt (by omega)]; omega
  · rw [hc _ (by omega) (by omega)]; exact B.1.2.2.2.2.2
  · rw [et] at q
    have b := B.2.2.2.1 t q
    have h : ∀ j, j < 10 → c' (70 + 10 * t + j) = c (70 + 10 * t + j) := fun j hj => hc _ (by omega) (by omega)
    refine ⟨ag_rb (h 0 (by decide)) b.1, ag_rb (h 1 (by decide)) b.2.1, ag_rb (h 2 (by decide)) b.2.2.1, ag_rb (h 3 (by decide)) b.2.2.2.1, ag_rb (h 4 (by decide)) b.2.2.2.2.1, ag_rb (h 5 (by decide)) b.2.2.2.2.2.1, ag_rb (h 6 (by decide)) b.2.2.2.2.2.2.1, ag_rb (h 7 (by decide)) b.2.2.2.2.2.2.2.1, ?_, ?_, ?_⟩
    · rw [show TF c' t 3 = TF c t 3 from ag_nf (h 3 (by decide)), show TF c' t 4 = TF c t 4 from ag_nf (h 4 (by decide))]; exact b.2.2.2.2.2.2.2.2.1
    · show b48 (c' (70 + 10 * t + 8)); rw [h 8 (by decide)]; exact b.2.2.2.2.2.2.2.2.2.1
    · show b48 (c' (70 + 10 * t + 9)); rw [h 9 (by decide)]; exact b.2.2.2.2.2.2.2.2.2.2
  · rw [es] at q
    by_cases e : s = a
    · subst e
      refine ⟨rb_v v0 (hv 0 (by decide)), rb_v v1 (hv 1 (by decide)), rb_v v2 (hv 2 (by decide)), rb_v v3 (hv 3 (by decide)), rb_v v4 (hv 4 (by decide)), rb_v v5 (hv 5 (by decide)), rb_v v6 (hv 6 (by decide)), Or.inl ⟨?_, h8⟩⟩
      unfold HR; rw [h7]; rfl
    · have b := B.2.2.2.2.1 s (by omega)
      have h : ∀ j, j < 11 → c' (130 + 11 * s + j) = c (130 + 11 * s + j) := fun j hj => hc _ (by omega) (by omega)
      refine ⟨ag_rb (h 0 (by decide)) b.1, ag_rb (h 1 (by decide)) b.2.1, ag_rb (h 2 (by decide)) b.2.2.1, ag_rb (h 3 (by decide)) b.2.2.2.1, ag_rb (h 4 (by decide)) b.2.2.2.2.1, ag_rb (h 5 (by decide)) b.2.2.2.2.2.1, ag_rb (h 6 (by decide)) b.2.2.2.2.2.2.1, ?_⟩
      rw [hr s (by omega), sf s 3 (by omega) (by decide), sf s 8 (by omega) (by decide), h 8 (by decide), et]
      exact b.2.2.2.2.2.2.2.imp id (fun q => ⟨q.1, q.2.1, ag_rb (h 8 (by decide)) q.2.2.1, q.2.2.2⟩)
  · rw [es] at q
    have q := old s q hJ
    rw [et] at ht
    rw [sf s 8 (by omega) (by decide)] at hb
    rw [sf s 7 (by omega) (by decide)] at k1 k2
    rw [sf s 3 (by omega) (by decide)] at k2
    show tb (c' (70 + 10 * t + 8)) k = true
    rw [hc _ (by omega) (by omega)]
    exact B.2.2.2.2.2.1 s q ((job s (by omega)).mp hJ) t ht hb k k1 k2
  · rw [es] at q q'
    have q := old s q j1
    have q' := old s' q' j2
    rw [et] at ht
    rw [sf s 8 (by omega) (by decide)] at b1
    rw [sf s' 8 (by omega) (by decide)] at b2
    rw [sf s 7 (by omega) (by decide), sf s 3 (by omega) (by decide), sf s' 7 (by omega) (by decide), sf s' 3 (by omega) (by decide)]
    exact B.2.2.2.2.2.2 s s' q q' hne ((job s (by omega)).mp j1) ((job s' (by omega)).mp j2) t ht b1 b2
theorem rl_ship (L : RLX pl ba g w) {a : Nat} (ha : a < 8) (ew : w 2218 0 65 = (I a).toInt64)
    (hg : ∀ F i j, ¬ (F = 4 ∧ i = a ∧ j < 9) → ¬ (F = 1 ∧ i = 0 ∧ j = 10) → g2 F i j = g F i j) (hg7 : g2 4 a 7 = -4) (hg8 : g2 4 a 8 = 0)
    (hw : ∀ F i j, ¬ (F = 2218 ∧ i = 0 ∧ (j = 65 ∨ (130 + 11 * a ≤ j ∧ j < 130 + 11 * a + 9))) → w2 F i j = w F i j)
    (h65 : w2 2218 0 65 = (I (a + 1)).toInt64) (hv : ∀ j, j < 7 → w2 2218 0 (130 + 11 * a + j) = (v j).toInt64)
    (h7 : w2 2218 0 (130 + 11 * a + 7) = -4) (h8 : w2 2218 0 (130 + 11 * a + 8) = 0)
    (v0 : (1 : Int) ≤ (v 0).toInt ∧ (v 0).toInt ≤ 50) (v1 : (0 : Int) ≤ (v 1).toInt ∧ (v 1).toInt ≤ 9) (v2 : (0 : Int) ≤ (v 2).toInt ∧ (v 2).toInt ≤ 47) (v3 : (1 : Int) ≤ (v 3).toInt ∧ (v 3).toInt ≤ 4) (v4 : (1 : Int) ≤ (v 4).toInt ∧ (v 4).toInt ≤ 20) (v5 : (0 : Int) ≤ (v 5).toInt ∧ (v 5).toInt ≤ 5) (v6 : (0 : Int) ≤ (v 6).toInt ∧ (v 6).toInt ≤ 5) : RLX pl ba g2 w2 := by
  have ea : SN (w 2218 0) = a := nf_eq ew (by omega)
  have B := L.2.2.1
  have e6 := tn6 B
  have hc : ∀ k, k < 218 → ¬ (k = 65 ∨ (130 + 11 * a ≤ k ∧ k < 130 + 11 * a + 9)) → w2 2218 0 k = w 2218 0 k := fun k _ q => hw _ _ _ (by omega)
  have et : TN (w2 2218 0) = TN (w 2218 0) := ag_nf (hc _ (by omega) (by omega))
  have es : SN (w2 2218 0) = a + 1 := nf_eq h65 (by omega)
  have J := L.2.1
  refine ⟨⟨fun b hb => ⟨?_, ?_⟩, fun b hb => ⟨?_, ?_⟩, L.1.2.2⟩, ⟨?_, fun t ht => ⟨?_, ?_, ?_⟩, fun t q1 q2 => ?_, fun s hs => ?_, fun s q1 q2 => ?_⟩, bi_ship B ea ha hc h65 hv h7 h8 v0 v1 v2 v3 v4 v5 v6, fun i hi => ?_, fun i hi => ?_, ?_⟩
  · exact (hg _ _ _ (by omega) (by omega)).trans (L.1.1 b hb).1
  · exact (hg _ _ _ (by omega) (by omega)).trans (L.1.1 b hb).2
  · exact (hg _ _ _ (by omega) (by omega)).trans (L.1.2.1 b hb).1
  · exact (hg _ _ _ (by omega) (by omega)).trans (L.1.2.1 b hb).2
  · rw [hw 1 0 8 (by omega), hc 63 (by omega) (by omega)]; exact J.1
  · rw [et] at ht
    rw [hg _ _ _ (by omega) (by omega), show TF (w2 2218 0) t 7 = TF (w 2218 0) t 7 from ag_nf (hc _ (by omega) (by omega))]; exact (J.2.1 t ht).1
  · rw [et] at ht
    rw [hw _ _ _ (by omega), (J.2.1 t ht).2.1]; exact (hc _ (by omega) (by omega)).symm
  · rw [et] at ht
    rw [hw _ _ _ (by omega), (J.2.1 t ht).2.2]; exact (hc _ (by omega) (by omega)).symm
  · rw [et] at q1
    rw [hw _ _ _ (by omega)]; exact J.2.2.1 t q1 q2
  · rw [es] at hs
    by_cases e : s = a
    · subst e
      rw [show 8 * 0 + s = s by omega, hg7, hg8]
      constructor
      · unfold HR; rw [h7]; rfl
      · rw [show SF (w2 2218 0) s 8 = 0 from nf_eq (n := 0) h8 (by decide)]; rfl
    · have q := J.2.2.2.1 s (by omega)
      constructor
      · rw [hg _ _ _ (by omega) (by omega), q.1]; unfold HR; rw [hc _ (by omega) (by omega)]
      · rw [hg _ _ _ (by omega) (by omega), q.2, show SF (w2 2218 0) s 8 = SF (w 2218 0) s 8 from ag_nf (hc _ (by omega) (by omega))]
  · rw [es] at q1
    rw [hg _ _ _ (by omega) (by omega)]; exact J.2.2.2.2 s (by omega) q2
  · exact ((hg _ _ _ (by omega) (by omega)).trans (L.2.2.2.1 i hi)).trans (congrArg _ (hc _ (by omega) (by omega)).symm)
  · exact (hg _ _ _ (by omega) (by omega)).trans (L.2.2.2.2.1 i hi)
  · exact kps_cg L.2.2.2.2.2 (hg _ _ _ (by omega) (by omega)) (fun F i j q => hg _ _ _ (by omega) (by omega)) (fun F i j q => hw _ _ _ (by omega))
end
