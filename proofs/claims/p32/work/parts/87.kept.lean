/-! keep and back, berths, the start -/
section
variable {g g' g1 g2 : Nat → Nat → Nat → Int32} {w w' w1 w2 : Nat → Nat → Nat → Int64} {hb : Nat} {c c' : Nat → Int64} {pl ba pl' ba' : Nat → Nat} {p1 p2 p3 : Int32}
theorem rl_keep (S : ST g w) (L : RLX pl ba g w) {a : Nat} (ha : a < 3) (ea : g 7 0 2 = I a) : RLX pl ba (kg a g) (kw a w) := by
  have B := L.2.2.1
  have h6 := tn6 B
  have h8 := sn8 B
  have HB1 : HB g w 0 (w 2218 0) := ⟨S.2.2.2.1, L.2.1⟩
  have e2 : td (a + 2) = a + 6 := by rw [Nat.add_comm a 2]; exact td2 a
  have row : kw a w 2218 0 = w 2218 0 := funext (fun k => by unfold kw kpw; rw [if_neg (by omega), cpw_o (by decide) (by decide)])
  have hw : ∀ F i j, ¬ (F = 2654 ∧ i = 0 ∧ 218 * a ≤ j ∧ j < 218 * a + 218) → ¬ (F = 1 ∧ i = a + 2) → ¬ (F = 5 ∧ 6 * (a + 2) ≤ i ∧ i < 6 * (a + 2) + 6) → kw a w F i j = w F i j := fun F i j q1 q2 q3 => by
    unfold kw kpw cpw
    rw [if_neg (by omega), if_neg (by omega), if_neg (by omega)]
  have hg : ∀ F i j, ¬ (F = 1012 ∧ i = a + 6) → ¬ (F = 1048 ∧ i = a + 2) → ¬ (F = 5 ∧ 6 * (a + 2) ≤ i ∧ i < 6 * (a + 2) + 6) → ¬ (F = 4 ∧ 8 * (a + 2) ≤ i ∧ i < 8 * (a + 2) + 8) → ¬ (F = 1 ∧ i = a + 2) → ¬ (F = 6 ∧ i = 0 ∧ j = 5) → ¬ (F = 7 ∧ i = 0 ∧ j = 2) → kg a g F i j = g F i j := fun F i j => kg_o
  refine ⟨⟨fun b hb => ⟨?_, ?_⟩, fun b hb => ⟨?_, ?_⟩, L.1.2.2⟩, ?_, by rw [row]; exact B, fun i hi => ?_, fun i hi => ?_, fun i hi => ?_⟩
  · exact (hg _ _ _ (by omega) (by omega) (by omega) (by omega) (by omega) (by omega) (by omega)).trans (L.1.1 b hb).1
  · exact (hg _ _ _ (by omega) (by omega) (by omega) (by omega) (by omega) (by omega) (by omega)).trans (L.1.1 b hb).2
  · exact (hg _ _ _ (by omega) (by omega) (by omega) (by omega) (by omega) (by omega) (by omega)).trans (L.1.2.1 b hb).1
  · exact (hg _ _ _ (by omega) (by omega) (by omega) (by omega) (by omega) (by omega) (by omega)).trans (L.1.2.1 b hb).2
  · rw [row]
    exact jb_cg L.2.1 h6 h8 (fun F i j q => hg _ _ _ (by omega) (by omega) (by omega) (by omega) (by omega) (by omega) (by omega)) (fun F i j q => hw _ _ _ (by omega) (by omega) (by omega))
  · rw [row]
    exact (hg _ _ _ (by omega) (by omega) (by omega) (by omega) (by omega) (by omega) (by omega)).trans (L.2.2.2.1 i hi)
  · exact (hg _ _ _ (by omega) (by omega) (by omega) (by omega) (by omega) (by omega) (by omega)).trans (L.2.2.2.2.1 i hi)
  · rw [show kg a g 7 0 2 = I (a + 1) from by unfold kg; rw [gI_at, if_pos ⟨rfl, rfl, rfl⟩], I_toInt (by omega)] at hi
    by_cases e : i = a
    · subst e
      have ag : ∀ k, k < 218 → kb (kw i w) i k = w 2218 0 k := fun k hk => by
        show kw i w 2654 0 (218 * i + k) = _
        unfold kw kpw
        rw [if_pos ⟨rfl, rfl, by omega, by omega⟩, cpw_o (by decide) (by decide), show 218 * i + k - 218 * i = k by omega]
      have H2 := hb_cp (i0 := i + 2) HB1 h6 h8
      have cg : ∀ F i' j, (F = 5 ∨ F = 4 ∨ F = 1) → kg i g F i' j = cpg 6 8 15 (i + 2) 0 g F i' j := fun F i' j q => by
        unfold kg; rw [gI_at, if_neg (by omega), gI_at, if_neg (by omega)]
      have cw : ∀ F i' j, F ≠ 2654 → kw i w F i' j = cpw 6 15 (i + 2) 0 w F i' j := fun F i' j q => by
        unfold kw kpw; rw [if_neg (by omega)]
      rw [show 2 + i = i + 2 by omega]
      refine ⟨jb_ag (jb_cg H2.2 h6 h8 (fun F i' j q => cg _ _ _ (by omega)) (fun F i' j q => cw _ _ _ (by omega))) h6 h8 ag, bi_ag B ag, fun x hx => ?_⟩
      rw [cg _ _ _ (by omega), cpg_1 (by omega) (by omega) (by omega), ag _ (by omega)]
      exact L.2.2.2.1 x hx
    · have K := L.2.2.2.2.2 i (by rw [ea, I_toInt (by omega)]; omega)
      have ag : ∀ k, k < 218 → kb (kw a w) i k = kb w i k := fun k hk => hw _ _ _ (by omega) (by omega) (by omega)
      refine ⟨jb_ag (jb_cg K.1 (tn6 K.2.1) (sn8 K.2.1) (fun F i' j q => hg _ _ _ (by omega) (by omega) (by omega) (by omega) (by omega) (by omega) (by omega)) (fun F i' j q => hw _ _ _ (by omega) (by omega) (by omega))) (tn6 K.2.1) (sn8 K.2.1) ag, bi_ag K.2.1 ag, fun x hx => ?_⟩
      rw [hg _ _ _ (by omega) (by omega) (by omega) (by omega) (by omega) (by omega) (by omega), ag _ (by omega)]
      exact K.2.2 x hx
theorem rl_back (S : ST g w) (L : RLX pl ba g w) {b : Nat} (hlt : b < 3) (ea : g 7 0 2 = I (b + 1)) : RLX pl ba (bg b g) (bw b w) := by
  have hb2 : (b : Int) < (g 7 0 2).toInt := by rw [ea, I_toInt (by omega)]; omega
  have K := L.2.2.2.2.2 b hb2
  have HK : HB g w (b + 2) (kb w b) := by rw [Nat.add_comm b 2]; exact ⟨S.2.2.2.2.2.1 b hb2, K.1⟩
  have B := K.2.1
  have h6 := tn6 B
  have h8 := sn8 B
  have e2 := td0
  have ag : ∀ k, k < 218 → bw b w 2218 0 k = kb w b k := fun k hk => by
    unfold bw bkw
    rw [if_pos ⟨rfl, rfl, hk⟩, cpw_o (by decide) (by decide)]
    rfl
  have hw : ∀ F i j, ¬ (F = 2218 ∧ i = 0) → ¬ (F = 1 ∧ i = 0) → ¬ (F = 5 ∧ i < 6) → bw b w F i j = w F i j := fun F i j q1 q2 q3 => by
    unfold bw bkw cpw
    rw [if_neg (by omega), if_neg (by omega), if_neg (by omega)]
  have hg : ∀ F i j, ¬ (F = 1012 ∧ i = 0) → ¬ (F = 1048 ∧ i = 0) → ¬ (F = 5 ∧ i < 6) → ¬ (F = 4 ∧ i < 8) → ¬ (F = 1 ∧ i = 0) → ¬ (F = 6 ∧ i = 0 ∧ j = 5) → ¬ (F = 7 ∧ i = 0 ∧ j = 2) → bg b g F i j = g F i j := fun F i j => bg_o
  have cg : ∀ F i' j, (F = 5 ∨ F = 4 ∨ F = 1) → bg b g F i' j = cpg 6 8 15 0 (b + 2) g F i' j := fun F i' j q => by
    unfold bg; rw [gI_at, if_neg (by omega), gI_at, if_neg (by omega)]
  have cw : ∀ F i' j, F ≠ 2218 → bw b w F i' j = cpw 6 15 0 (b + 2) w F i' j := fun F i' j q => by
    unfold bw bkw; rw [if_neg (by omega)]
  have H2 := hb_cp (i0 := 0) HK h6 h8
  refine ⟨⟨fun b hb => ⟨?_, ?_⟩, fun b hb => ⟨?_, ?_⟩, L.1.2.2⟩, jb_ag (jb_cg H2.2 h6 h8 (fun F i' j q => cg _ _ _ (by omega)) (fun F i' j q => cw _ _ _ (by omega))) h6 h8 ag, bi_ag B ag, fun i hi => ?_, fun i hi => ?_, fun i hi => ?_⟩
  · exact (hg _ _ _ (by omega) (by omega) (by omega) (by omega) (by omega) (by omega) (by omega)).trans (L.1.1 b hb).1
  · exact (hg _ _ _ (by omega) (by omega) (by omega) (by omega) (by omega) (by omega) (by omega)).trans (L.1.1 b hb).2
  · exact (hg _ _ _ (by omega) (by omega) (by omega) (by omega) (by omega) (by omega) (by omega)).trans (L.1.2.1 b hb).1
  · exact (hg _ _ _ (by omega) (by omega) (by omega) (by omega) (by omega) (by omega) (by omega)).trans (L.1.2.1 b hb).2
  · rw [cg _ _ _ (by omega), cpg_1 (by omega) (by omega) (by omega), ag _ (by omega), Nat.add_comm b 2]
    exact K.2.2 i hi
  · exact (hg _ _ _ (by omega) (by omega) (by omega) (by omega) (by omega) (by omega) (by omega)).trans (L.2.2.2.2.1 i hi)
  · rw [show bg b g 7 0 2 = I b from by unfold bg; rw [gI_at, if_pos ⟨rfl, rfl, rfl⟩], I_toInt (by omega)] at hi
    have Ki := L.2.2.2.2.2 i (by rw [ea, I_toInt (by omega)]; omega)
    have e : kb (bw b w) i = kb w i := funext (fun k => hw _ _ _ (by omega) (by omega) (by omega))
    rw [e]
    exact ⟨jb_cg Ki.1 (tn6 Ki.2.1) (sn8 Ki.2.1) (fun F i' j q => hg _ _ _ (by omega) (by omega) (by omega) (by omega) (by omega) (by omega) (by omega)) (fun F i' j q => hw _ _ _ (by omega) (by omega) (by omega)), Ki.2.1, fun x hx => (hg _ _ _ (by omega) (by omega) (by omega) (by omega) (by omega) (by omega) (by omega)).trans (Ki.2.2 x hx)⟩
theorem rel_keep (H : REL g w) {a : Nat} (ha : a < 3) (ea : g 7 0 2 = I a) : REL (kg a g) (kw a w) := by
  obtain ⟨S, pl, ba, L⟩ := H
  exact ⟨st_keep S ha ea, pl, ba, rl_keep S L ha ea⟩
theorem rel_back (H : REL g w) {b : Nat} (hlt : b < 3) (ea : g 7 0 2 = I (b + 1)) : REL (bg b g) (bw b w) := by
  obtain ⟨S, pl, ba, L⟩ := H
  exact ⟨st_back S hlt ea, pl, ba, rl_back S L hlt ea⟩
/-- rules of the price told -/
theorem rl_frame (L : RLX pl ba g w) (hg : ∀ F i j, ¬ (F = 3 ∨ F = 1012 ∨ (F = 7 ∧ j = 5)) → g2 F i j = g F i j) : RLX pl ba g2 w := by
  refine ⟨⟨fun b hb => ⟨?_, ?_⟩, fun b hb => ⟨?_, ?_⟩, L.1.2.2⟩, jb_cg L.2.1 (tn6 L.2.2.1) (sn8 L.2.2.1) (fun F i j q => hg _ _ _ (by omega)) (fun _ _ _ _ => rfl), L.2.2.1, fun i hi => (hg _ _ _ (by omega)).trans (L.2.2.2.1 i hi), fun i hi => (hg _ _ _ (by omega)).trans (L.2.2.2.2.1 i hi), kps_cg L.2.2.2.2.2 (hg _ _ _ (by omega)) (fun F i j q => hg _ _ _ (by omega)) (fun _ _ _ _ => rfl)⟩
  · exact (hg _ _ _ (by omega)).trans (L.1.1 b hb).1
  · exact (hg _ _ _ (by omega)).trans (L.1.1 b hb).2
  · exact (hg _ _ _ (by omega)).trans (L.1.2.1 b hb).1
  · exact (hg _ _ _ (by omega)).trans (L.1.2.1 b hb).2
theorem rel_price (H : REL g w) {a : Nat} {q1 q2 q3 q4 : Int32} (ha : a < 12) : REL (gp 7 9 5 a q1 q2 q3 q4 (a + 1) (gp 3 2 4 a q1 q2 q3 q4 (a + 1) g)) w := by
  obtain ⟨S, pl, ba, L⟩ := H
  refine ⟨st_price S ha, pl, ba, rl_frame L (fun F i j q => ?_)⟩
  rw [gp_at (by decide), if_neg (by omega), if_neg (by omega), if_neg (by omega), if_neg (by omega), if_neg (by omega), gp_at (by decide), if_neg (by omega), if_neg (by omega), if_neg (by omega), if_neg (by omega), if_neg (by omega)]
/-- a berth told -/
theorem rl_places (L : RLX pl ba g w) (hg : ∀ F i j, F ≠ 1006 → g2 F i j = g F i j) (P : PC g2 pl' ba') (P2 : PR g2 pl' ba') (Q : PB pl' ba') : RLX pl' ba' g2 w :=
  ⟨⟨P, P2, Q⟩, jb_cg L.2.1 (tn6 L.2.2.1) (sn8 L.2.2.1) (fun F i j q => hg _ _ _ (by omega)) (fun _ _ _ _ => rfl), L.2.2.1, fun i hi => (hg _ _ _ (by omega)).trans (L.2.2.2.1 i hi), fun i hi => (hg _ _ _ (by omega)).trans (L.2.2.2.2.1 i hi), kps_cg L.2.2.2.2.2 (hg _ _ _ (by omega)) (fun F i j q => hg _ _ _ (by omega)) (fun _ _ _ _ => rfl)⟩
def USED (c : Nat → Int64) (b s : Nat) : Prop := JOB c s ∧ (SF c s 5 = b ∨ SF c s 6 = b)
theorem used6 (H : HB g w hb c) (B : BI c) {b : Nat} (hb6 : b < 6) : Ok (s_X1_isBerthUsed hb (I b) g w) (fun r => r = true ↔ ∃ s, 0 ≤ s ∧ s < SN c ∧ USED c b s) := by
  have h8 := sn8 B
  have key : ∀ (n k : Nat), k ≤ 8 → 9 - k < n → Ok (s_X1_isBerthUsed_R11 hb (I b) n (I k) g w) (fun r => r = true ↔ ∃ s, k ≤ s ∧ s < SN c ∧ USED c b s) := by
    intro n
    induction n with
    | zero => intro k _ hm; omega
    | succ n ih =>
      intro k h1 hm
      show Ok (s_X1_isBerthUsed_11 hb (I b) (s_X1_isBerthUsed_R11 hb (I b) n) (I k) g w) _
      unfold s_X1_isBerthUsed_11 s_X1_isBerthUsed_49 s_X1_isBerthUsed_51
      rw [I_suc]
      by_cases hk : k < 8
      · rw [if_neg (show ¬ (8 : Int32) ≤ I k from nle (a := 8) hk (by decide)), if_pos (inR_I hk (by decide)), I_tn (by omega)]
        by_cases hJ : k < SN c ∧ JOB c k
        · have q := ft_lt B hJ.1
          rw [if_pos ((hasJob6 H B hk).mpr hJ), c_ship H B hJ.1 (j := 5) (by decide) (by decide), c_ship H B hJ.1 (j := 6) (by decide) (by decide)]
          by_cases e5 : SF c k 5 = b
          · rw [if_pos (by rw [e5])]
            exact ok_t ⟨k, Nat.le_refl _, hJ.1, hJ.2, Or.inl e5⟩
          · rw [if_neg (ne_I e5 (by omega) (by omega))]
            by_cases e6 : SF c k 6 = b
            · rw [if_neg (fun q => q (by rw [e6]))]
              exact ok_t ⟨k, Nat.le_refl _, hJ.1, hJ.2, Or.inr e6⟩
            · rw [if_pos (show I (SF c k 6) ≠ I b from ne_I e6 (by omega) (by omega))]
              exact ok_b (ex_no (k := k) (Q := USED c b) (fun q => q.2.2.elim e5 e6)) (ih (k + 1) (by omega) (by omega))
        · rw [if_neg (fun q => hJ ((hasJob6 H B hk).mp q))]
          exact ok_b (ex_no (k := k) (Q := USED c b) (fun q => hJ ⟨q.1, q.2.1⟩)) (ih (k + 1) (by omega) (by omega))
      · rw [if_pos (show (8 : Int32) ≤ I k from ile (a := 8) (by omega) (by omega))]
        exact ok_f (fun q => by obtain ⟨s, a1, a2, _⟩ := q; omega)
  exact key FU 0 (by decide) (by show 9 - 0 < 1000; omega)
theorem used7 (R : RV w c) (B : BI c) {b : Nat} (hb6 : b < 6) : ∀ (n k : Nat), k ≤ SN c → 9 - k < n →
    ((∃ s, k ≤ s ∧ s < SN c ∧ USED c b s) → s_X7_berth_R42 0 (I b) p2 p3 n (I k) g w = some (-2, g, w)) ∧
    (¬ (∃ s, k ≤ s ∧ s < SN c ∧ USED c b s) → s_X7_berth_R42 0 (I b) p2 p3 n (I k) g w = if p2 ≠ 0 then s_X7_berth_116 0 (I b) p2 p3 (g 1006 3 b) g w else s_X7_berth_116 0 (I b) p2 p3 (g 1006 2 b) g w) := by
  have h8 := sn8 B
  intro n
  induction n with
  | zero => intro k _ hm; omega
  | succ n ih =>
    intro k h1 hm
    show (_ → s_X7_berth_42 0 (I b) p2 p3 (s_X7_berth_R42 0 (I b) p2 p3 n) (I k) g w = _) ∧ (_ → s_X7_berth_42 0 (I b) p2 p3 (s_X7_berth_R42 0 (I b) p2 p3 n) (I k) g w = _)
    unfold s_X7_berth_42 s_X7_berth_88 s_X7_berth_91
    rw [I_suc]
    by_cases hk : k < SN c
    · rw [if_neg (fun q => by have := (endS R B (k := k) (by omega)).mp q; omega)]
      obtain ⟨b1, eb, hbb⟩ := r_hasJob (g := g) R B hk
      have q := ft_lt B hk
      rw [ob eb, ob (show s_X7_ofShip 0 (I k) 5 g w = _ from r_ship R B hk (j := 5) (by decide) (by decide)), ob (show s_X7_ofShip 0 (I k) 6 g w = _ from r_ship R B hk (j := 6) (by decide) (by decide))]
      have skip : ¬ USED c b k → ((∃ s, k ≤ s ∧ s < SN c ∧ USED c b s) → s_X7_berth_R42 0 (I b) p2 p3 n (I (k + 1)) g w = some (-2, g, w)) ∧ (¬ (∃ s, k ≤ s ∧ s < SN c ∧ USED c b s) → s_X7_berth_R42 0 (I b) p2 p3 n (I (k + 1)) g w = if p2 ≠ 0 then s_X7_berth_116 0 (I b) p2 p3 (g 1006 3 b) g w else s_X7_berth_116 0 (I b) p2 p3 (g 1006 2 b) g w) := fun no => by
        rw [ex_no (k := k) (Q := USED c b) (fun q => no q.2)]
        exact ih (k + 1) (by omega) (by omega)
      by_cases e : b1 = true
      · rw [if_pos e]
        by_cases e5 : SF c k 5 = b
        · rw [if_pos (by rw [e5])]
          exact ⟨fun _ => rfl, fun q => absurd ⟨k, Nat.le_refl _, hk, hbb.mp e, Or.inl e5⟩ q⟩
        · rw [if_neg (ne_I e5 (by omega) (by omega))]
          by_cases e6 : SF c k 6 = b
          · rw [if_neg (fun q => q (by rw [e6]))]
            exact ⟨fun _ => rfl, fun q => absurd ⟨k, Nat.le_refl _, hk, hbb.mp e, Or.inr e6⟩ q⟩
          · rw [if_pos (show I (SF c k 6) ≠ I b from ne_I e6 (by omega) (by omega))]
            exact skip (fun q => q.2.elim e5 e6)
      · rw [if_neg e]
        exact skip (fun q => e (hbb.mpr q.1))
    · have ek : k = SN c := by omega
      subst ek
      rw [if_pos ((endS R B (k := SN c) (by omega)).mpr (by omega)), if_pos (inR_I (k := b) (n := 6) (by omega) (by decide)), if_pos (inR_I (k := b) (n := 6) (by omega) (by decide)), I_tn (by omega)]
      exact ⟨fun q => by obtain ⟨s, a1, a2, _⟩ := q; omega, fun _ => rfl⟩
end
