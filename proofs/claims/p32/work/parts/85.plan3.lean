/-! order, layOrder, mended, layMended -/
section
variable {g g' g1 g2 : Nat → Nat → Nat → Int32} {w w' w1 w2 : Nat → Nat → Nat → Int64} {hb : Nat} {c c' : Nat → Int64} {pl ba : Nat → Nat} {p1 p2 p3 : Int32}
theorem bk_lt {n : Nat} : ∀ k, 1 ≤ k → bk pl ba n c k < k
  | 0, h => by omega
  | 1, _ => by
    show (if OW pl ba n c 0 < OW pl ba n c (bk pl ba n c 0) then 0 else bk pl ba n c 0) < 1
    split
    · decide
    · exact Nat.one_pos
  | k + 2, _ => by
    have := bk_lt (n := n) (k + 1) (by omega)
    show (if OW pl ba n c (k + 1) < OW pl ba n c (bk pl ba n c (k + 1)) then k + 1 else bk pl ba n c (k + 1)) < k + 2
    split <;> omega
theorem layN_none {f : Nat → Nat} : ∀ {k s : Nat}, (∀ i, i < k → f i ≠ s) → HR (layN pl ba f c k) s = HR c s
  | 0, _, _ => rfl
  | k + 1, s, h => by
    show HR (stepL pl ba (layN pl ba f c k) (f k)) s = _
    rw [step_hr (fun q => h k (by omega) q.symm)]
    exact layN_none (fun i hi => h i (by omega))
/-- each that is laid is there -/
theorem srv_laid (H : HB g w hb c) (B : BI c) (P : PC g pl ba) (Q : PB pl ba) {a n : Nat} {f : Nat → Nat} (hn : n ≤ 4) (ha : a < 3) (hf : ∀ i, i < n → g 1004 a i = I (f i)) (hs : ∀ i, i < n → f i < SN c)
    (hi : ∀ i j, i < n → j < n → i ≠ j → f i ≠ f j) (hJ : ∀ s, s < SN c → ¬ JOB c s) : SRV pl ba f c n = LAIDN pl ba f c n :=
  fb_sm_cong (fun i hin => by
    have hpl := layN_pln (pl := pl) (ba := ba) (f := f) (c := c) i (fun j hj => hs j (by omega))
    obtain ⟨g2, w2, _, H2, B2, F2, _⟩ := layEach6 (n := i) (f := f) Q (by omega) ha g w c H B P (fun j hj => hf j (by omega)) (fun j hj => hs j (by omega))
    have hsi : f i < SN (layN pl ba f c i) := by rw [pln_sn hpl]; exact hs i hin
    have nj : ¬ JOB (layN pl ba f c i) (f i) := by
      unfold JOB
      rw [layN_none (fun j hj => hi j i (by omega) hin (by omega))]
      exact hJ _ (hs i hin)
    show (if 0 ≤ HR (stepL pl ba (layN pl ba f c i) (f i)) (f i) then 1 else 0) = laidF pl ba (layN pl ba f c i) (f i)
    rcases has_best H2 B2 (pc_fc P F2) Q hsi with q | ⟨h, v, q⟩
    · rw [stepL_no nj (bestF_no q), laidF_no nj (bestF_no q), if_neg (show ¬ 0 ≤ HR (layN pl ba f c i) (f i) from nj)]
    · have ok := best_ok B2 q
      rw [stepL_yes nj q, laidF_yes nj q]
      exact if_pos (cput_job (by omega)))
theorem mv_order (S : ST g w) (L : RLX pl ba g w) : Ok (s_X6_order 0 p1 p2 g w) (fun q => Ok (s_X7_order 0 p1 p2 q.2.1 q.2.2) (fun r => RLX pl ba r.2.1 r.2.2)) := by
  have B := L.2.2.1
  have h8 := sn8 B
  have HB1 : HB g w 0 (w 2218 0) := ⟨S.2.2.2.1, L.2.1⟩
  unfold s_X6_order s_X6_order_60
  by_cases h1 : IM (SN (w 2218 0)) p1
  · rw [if_pos ((gm6 HB1 B).mpr h1)]
    obtain ⟨n, n1, n4, n8, rfl⟩ := h1
    obtain ⟨g1, w1, e1, _, _, f1⟩ := findOrder6 n1 n4 HB1 B L.1.1 L.1.2.2 n8 L.2.2.2.2.1
    have F := fx_ft f1
    have R1 := rv_fx F (rv_self (w := w))
    obtain ⟨g2, w2, e2, _, R2, f2⟩ := bestOrder7 (g := g1) n1 n4 R1 B (pr_fx F L.1.2.1) L.1.2.2 n8
    have H1 := hb_ft HB1 B f1
    have L2 : RLX pl ba g2 w2 := rl_stay L S F (fy_fq f2) R2 H1 (fun j _ _ => f1.1 _ _ _ (by omega))
    have L1 : RLX pl ba g1 w1 := rl_stay L S F fy_refl R1 H1 (fun j _ _ => f1.1 _ _ _ (by omega))
    rw [e1]
    have tail : Ok (s_X7_order 0 (I n) p2 g1 w1) (fun r => RLX pl ba r.2.1 r.2.2) := by
      unfold s_X7_order s_X7_order_13 s_X7_order_50
      rw [if_pos ((gm7 R1 B).mpr ⟨n, n1, n4, n8, rfl⟩), e2]
      refine ok_ite (fun _ => ?_) (fun _ => ⟨_, rfl, L1⟩)
      show Ok (if 0 ≤ p2 then if I n ≤ p2 then some (-4, g2, w2) else some ((I (ORDT n (bk pl ba n (w 2218 0) (FA n))) >>> ((3 * p2) &&& 31)) &&& 7, g2, w2) else some (g2 7 0 13, g2, w2)) _
      refine ok_ite (fun _ => ok_ite (fun _ => ⟨_, rfl, L2⟩) (fun _ => ⟨_, rfl, L2⟩)) (fun _ => ⟨_, rfl, L2⟩)
    show Ok (if p2 ≠ -1 then if s_X6_within p2 0 (I n - 1) g1 w1 = true then if inR p2 4 = true then some (g1 1004 2 p2.toNatClampNeg, g1, w1) else none else some (-4, g1, w1) else some (g1 2 0 5, g1, w1)) _
    refine ok_ite (fun _ => ok_ite (fun hc => ?_) (fun _ => ?_)) (fun _ => ?_)
    · rw [if_pos (ord_in n1 n4 hc)]
      exact ok_some tail
    · exact ok_some tail
    · exact ok_some tail
  · rw [if_neg (fun q => h1 ((gm6 HB1 B).mp q))]
    refine ok_some ?_
    show Ok (s_X7_order 0 p1 p2 g w) _
    unfold s_X7_order
    rw [if_neg (fun q => h1 ((gm7 rv_self B).mp q))]
    exact ⟨_, rfl, L⟩
theorem re_order (H : REL g w) : Ok (s_X6_order 0 p1 p2 g w) (fun q => Ok (s_X7_order 0 p1 p2 q.2.1 q.2.2) (fun r => REL r.2.1 r.2.2)) := by
  obtain ⟨S, pl, ba, L⟩ := H
  exact ok_imp (ok2_and (pr_order S) (mv_order S L)) (fun _ h => ok_imp h (fun _ q => ⟨q.1, pl, ba, q.2⟩))
theorem pln_o (h : PLN c c') {j : Nat} (h1 : 66 ≤ j) (h2 : j < 70) : c' j = c j := h j (by unfold pk; omega)
theorem mv_layOrder (S : ST g w) (L : RLX pl ba g w) : Ok (s_X6_layOrder 0 p1 g w) (fun q => Ok (s_X7_layOrder 0 p1 q.2.1 q.2.2) (fun r => RLX pl ba r.2.1 r.2.2 ∧ q.1 = r.1)) := by
  have B := L.2.2.1
  have h8 := sn8 B
  have HB1 : HB g w 0 (w 2218 0) := ⟨S.2.2.2.1, L.2.1⟩
  have N := L.2.2.2.1
  unfold s_X6_layOrder
  by_cases h1 : IM (SN (w 2218 0)) p1
  · rw [if_pos ((gm6 HB1 B).mpr h1)]
    obtain ⟨n, n1, n4, n8, rfl⟩ := h1
    have hFA := FA_le (n := n)
    obtain ⟨g1, w1, e1, _, eo, f1⟩ := findOrder6 n1 n4 HB1 B L.1.1 L.1.2.2 n8 L.2.2.2.2.1
    have hK := bk_lt (pl := pl) (ba := ba) (n := n) (c := w 2218 0) (FA n) hFA.1
    have F1 := fx_ft f1
    have H1 := hb_ft HB1 B f1
    have Hc := hb_clear H1 B
    have Bc := bi_clr B
    have hsn : SN (cclr (w 2218 0)) = SN (w 2218 0) := pln_sn pln_cclr
    have F2 : FX g w (g4n 0 8 g1) (w5 0 (fun _ _ => 0) 6 w1) := fx_trans F1 (fx_fc fc_clear)
    have P2 : PC (g4n 0 8 g1) pl ba := pc_fc (pc_ft L.1.1 f1) (fc_clear (w := w1))
    have f04 : ∀ i, i < n → g4n 0 8 g1 1004 2 i = I (pm n (bk pl ba n (w 2218 0) (FA n)) i) := fun i hi => by
      have := eo i (by omega)
      rw [show pmx n (bk pl ba n (w 2218 0) (FA n)) i = pm n (bk pl ba n (w 2218 0) (FA n)) i from if_pos hi] at this
      rw [← this]
      unfold g4n; rw [if_neg (by omega), if_neg (by omega)]
    have fs : ∀ i, i < n → pm n (bk pl ba n (w 2218 0) (FA n)) i < SN (cclr (w 2218 0)) := fun i hi => by have := pm_lt n1 n4 hK hi; omega
    have fd : ∀ i j, i < n → j < n → i ≠ j → pm n (bk pl ba n (w 2218 0) (FA n)) i ≠ pm n (bk pl ba n (w 2218 0) (FA n)) j := fun i j hi hj hne => pm_c (by omega) n1 hK hi hj hne
    have fj : ∀ s, s < SN (cclr (w 2218 0)) → ¬ JOB (cclr (w 2218 0)) s := fun s hs => cclr_nojob (by omega)
    obtain ⟨g3, w3, e3, H3, B3, f3, e11⟩ := layEach6 (a := 2) (f := pm n (bk pl ba n (w 2218 0) (FA n))) L.1.2.2 n4 (by decide) _ _ _ Hc Bc P2 f04 fs
    have es := srv_laid Hc Bc P2 L.1.2.2 n4 (show 2 < 3 by decide) f04 fs fd fj
    have F3 := fx_trans F2 (fx_fc f3)
    have R3 := rv_fx F3 (rv_self (w := w))
    have hpl := layN_pln (pl := pl) (ba := ba) (f := pm n (bk pl ba n (w 2218 0) (FA n))) (c := cclr (w 2218 0)) n fs
    have hpl2 := pln_trans (pln_cclr (c := w 2218 0)) hpl
    obtain ⟨g4, w4, e4, _, R4, f4⟩ := bestOrder7 (g := g3) n1 n4 R3 B (pr_fx F3 L.1.2.1) L.1.2.2 n8
    have P4 := pr_fq (pr_fx F3 L.1.2.1) f4
    obtain ⟨g5, w5', e5, R5, B5, f5⟩ := plans7 (g := g4) (f := pm n (bk pl ba n (w 2218 0) (FA n))) (p2 := I (ORDT n (bk pl ba n (w 2218 0) (FA n)))) L.1.2.2 n4 (rv_empties R4 B) Bc P4 (fun i hi => pm_b n (by omega) n1 _ hK i hi) fs fd fj
    rw [ob e1, ob clear_e, ob e3]
    refine ok_some ?_
    show Ok (s_X7_layOrder 0 (I n) g3 w3) (fun r => RLX pl ba r.2.1 r.2.2 ∧ I (SRV pl ba (pm n (bk pl ba n (w 2218 0) (FA n))) (cclr (w 2218 0)) n) = r.1)
    unfold s_X7_layOrder
    rw [if_pos ((gm7 R3 B).mpr ⟨n, n1, n4, n8, rfl⟩), ob e4, ob (empties_e R4 B), ob e5, n66, es]
    refine ⟨_, rfl, ?_, rfl⟩
    refine rl_step L F3 (fy_trans (fy_fq f4) (fy_trans (fy_fp (fp_empties B)) (fy_trans (fy_fp f5) (fy_frw frw_L)))) (rv_add R5 (by show w5' 2218 0 66 + _ = _; rw [R5 66 (by decide)])) (eqx_hb H3 (eqx_add (by decide) (by decide))) (eqx_bi B3 (eqx_add (by decide) (by decide))) (cn_mk ?_ ?_ ?_ ?_)
    · rw [e11, cadd_at, t32_add, pln_o hpl2 (by decide) (by decide), ← show g 1 0 11 = _ from N 0 (by decide)]
      show g4n 0 8 g1 1 0 11 + _ = _
      rw [show g4n 0 8 g1 1 0 11 = g1 1 0 11 from by unfold g4n; rw [if_neg (by omega), if_neg (by omega)], f1.1 _ _ _ (by omega)]
    · rw [show cadd (layN pl ba (pm n (bk pl ba n (w 2218 0) (FA n))) (cclr (w 2218 0)) n) 66 _ 67 = _ from (if_neg (by decide)).trans (pln_o hpl2 (by decide) (by decide)), f3.1 _ _ _ (by omega), show g4n 0 8 g1 1 0 12 = g1 1 0 12 from by unfold g4n; rw [if_neg (by omega), if_neg (by omega)], f1.1 _ _ _ (by omega)]
      exact N 1 (by decide)
    · rw [show cadd (layN pl ba (pm n (bk pl ba n (w 2218 0) (FA n))) (cclr (w 2218 0)) n) 66 _ 68 = _ from (if_neg (by decide)).trans (pln_o hpl2 (by decide) (by decide)), f3.1 _ _ _ (by omega), show g4n 0 8 g1 1 0 13 = g1 1 0 13 from by unfold g4n; rw [if_neg (by omega), if_neg (by omega)], f1.1 _ _ _ (by omega)]
      exact N 2 (by decide)
    · rw [show cadd (layN pl ba (pm n (bk pl ba n (w 2218 0) (FA n))) (cclr (w 2218 0)) n) 66 _ 69 = _ from (if_neg (by decide)).trans (pln_o hpl2 (by decide) (by decide)), f3.1 _ _ _ (by omega), show g4n 0 8 g1 1 0 14 = g1 1 0 14 from by unfold g4n; rw [if_neg (by omega), if_neg (by omega)], f1.1 _ _ _ (by omega)]
      exact N 3 (by decide)
  · rw [if_neg (fun q => h1 ((gm6 HB1 B).mp q))]
    refine ok_some ?_
    show Ok (s_X7_layOrder 0 p1 g w) _
    unfold s_X7_layOrder
    rw [if_neg (fun q => h1 ((gm7 rv_self B).mp q))]
    exact ⟨_, rfl, L, rfl⟩
theorem re_layOrder (H : REL g w) : Ok (s_X6_layOrder 0 p1 g w) (fun q => Ok (s_X7_layOrder 0 p1 q.2.1 q.2.2) (fun r => REL r.2.1 r.2.2 ∧ q.1 = r.1)) := by
  obtain ⟨S, pl, ba, L⟩ := H
  exact rel_join (pr_layOrder S) (mv_layOrder S L)
theorem mv_mended (S : ST g w) (L : RLX pl ba g w) : Ok (s_X6_mended 0 p1 p2 g w) (fun q => Ok (s_X7_mended 0 p1 p2 q.2.1 q.2.2) (fun r => RLX pl ba r.2.1 r.2.2 ∧ q.1 = r.1)) := by
  have B := L.2.2.1
  have h8 := sn8 B
  have HB1 : HB g w 0 (w 2218 0) := ⟨S.2.2.2.1, L.2.1⟩
  unfold s_X6_mended s_X6_mended_17
  rw [within_eq]
  by_cases h1 : IM (SN (w 2218 0)) p1
  · rw [if_pos ((gm6 HB1 B).mpr h1)]
    obtain ⟨n, n1, n4, n8, rfl⟩ := h1
    by_cases h2 : IX 4 p2
    · rw [if_pos (show decide ((0 : Int32) ≤ p2 ∧ p2 ≤ 3) = true from decide_eq_true ((ix_rg (n := 3) (by decide)).mpr h2))]
      have hp := pow16 n4
      have h2n : 1 ≤ 2 ^ n := Nat.one_le_two_pow
      have hmb := mb_lt (pl := pl) (ba := ba) (c := w 2218 0) (n := n) (2 ^ n) h2n
      obtain ⟨g1, w1, e1, a4, a6, a5, f1⟩ := findMended6 n1 n4 HB1 B L.1.1 L.1.2.2 n8 L.2.2.2.2.1
      have F := fx_ft f1
      have R1 := rv_fx F (rv_self (w := w))
      obtain ⟨g2, w2, e2, st, R2, f2⟩ := mends7 (g := g1) n1 n4 R1 B (pr_fx F L.1.2.1) L.1.2.2 n8
      have L2 : RLX pl ba g2 w2 := rl_stay L S F (fy_fq f2) R2 (hb_ft HB1 B f1) (fun j _ _ => f1.1 _ _ _ (by omega))
      have X7 : s_X7_mended 0 (I n) p2 g1 w1 = if p2 ≠ 0 then if p2 ≠ 1 then if p2 ≠ 2 then some (g2 7 0 17, g2, w2) else some (g2 7 0 16, g2, w2) else some (g2 7 0 15, g2, w2) else some (g2 7 0 14, g2, w2) := by
        unfold s_X7_mended s_X7_mended_66
        rw [if_pos ((gm7 R1 B).mpr ⟨n, n1, n4, n8, rfl⟩), in32 p2 0 3 (by decide) (by decide), if_pos (show decide ((0 : Int32) ≤ p2 ∧ p2 ≤ 3) = true from decide_eq_true ((ix_rg (n := 3) (by decide)).mpr h2)), ob e2]
      rw [ob e1]
      obtain ⟨k, hk, rfl⟩ := h2
      have : k = 0 ∨ k = 1 ∨ k = 2 ∨ k = 3 := by omega
      rcases this with rfl | rfl | rfl | rfl
      · show Ok (some (g1 2 0 4, g1, w1)) _
        refine ok_some ?_
        show Ok (s_X7_mended 0 (I n) (I 0) g1 w1) (fun r => RLX pl ba r.2.1 r.2.2 ∧ g1 2 0 4 = r.1)
        rw [X7, a4]
        exact ⟨_, rfl, L2, st.1.symm⟩
      · show Ok (some (s_J_Integer_bitCount (g1 2 0 6) g1 w1, g1, w1)) _
        rw [a6, bc6 (by omega)]
        refine ok_some ?_
        show Ok (s_X7_mended 0 (I n) (I 1) g1 w1) (fun r => RLX pl ba r.2.1 r.2.2 ∧ I (bc (mb pl ba n (w 2218 0) (2 ^ n))) = r.1)
        rw [X7]
        exact ⟨_, rfl, L2, st.2.1.symm⟩
      · show Ok (some (g1 2 0 5, g1, w1)) _
        refine ok_some ?_
        show Ok (s_X7_mended 0 (I n) (I 2) g1 w1) (fun r => RLX pl ba r.2.1 r.2.2 ∧ g1 2 0 5 = r.1)
        rw [X7, a5]
        exact ⟨_, rfl, L2, st.2.2.1.symm⟩
      · show Ok (some (g1 2 0 6, g1, w1)) _
        refine ok_some ?_
        show Ok (s_X7_mended 0 (I n) (I 3) g1 w1) (fun r => RLX pl ba r.2.1 r.2.2 ∧ g1 2 0 6 = r.1)
        rw [X7, a6]
        exact ⟨_, rfl, L2, st.2.2.2.symm⟩
    · rw [if_neg (show ¬ decide ((0 : Int32) ≤ p2 ∧ p2 ≤ 3) = true from fun q => h2 ((ix_rg (n := 3) (by decide)).mp (of_decide_eq_true q)))]
      refine ok_some ?_
      show Ok (s_X7_mended 0 (I n) p2 g w) _
      unfold s_X7_mended s_X7_mended_20
      rw [if_pos ((gm7 rv_self B).mpr ⟨n, n1, n4, n8, rfl⟩), in32 p2 0 3 (by decide) (by decide), if_neg (show ¬ decide ((0 : Int32) ≤ p2 ∧ p2 ≤ 3) = true from fun q => h2 ((ix_rg (n := 3) (by decide)).mp (of_decide_eq_true q)))]
      exact ⟨_, rfl, L, rfl⟩
  · rw [if_neg (fun q => h1 ((gm6 HB1 B).mp q))]
    refine ok_some ?_
    show Ok (s_X7_mended 0 p1 p2 g w) _
    unfold s_X7_mended s_X7_mended_20
    rw [if_neg (fun q => h1 ((gm7 rv_self B).mp q))]
    exact ⟨_, rfl, L, rfl⟩
theorem re_mended (H : REL g w) : Ok (s_X6_mended 0 p1 p2 g w) (fun q => Ok (s_X7_mended 0 p1 p2 q.2.1 q.2.2) (fun r => REL r.2.1 r.2.2 ∧ q.1 = r.1)) := by
  obtain ⟨S, pl, ba, L⟩ := H
  exact rel_join (pr_mended S) (mv_mended S L)
theorem mv_layMended (S : ST g w) (L : RLX pl ba g w) : Ok (s_X6_layMended 0 p1 g w) (fun q => Ok (s_X7_layMended 0 p1 q.2.1 q.2.2) (fun r => RLX pl ba r.2.1 r.2.2 ∧ q.1 = r.1)) := by
  have B := L.2.2.1
  have h8 := sn8 B
  have HB1 : HB g w 0 (w 2218 0) := ⟨S.2.2.2.1, L.2.1⟩
  have N := L.2.2.2.1
  unfold s_X6_layMended
  by_cases h1 : IM (SN (w 2218 0)) p1
  · rw [if_pos ((gm6 HB1 B).mpr h1)]
    obtain ⟨n, n1, n4, n8, rfl⟩ := h1
    have hp := pow16 n4
    have h2n : 1 ≤ 2 ^ n := Nat.one_le_two_pow
    have hmb := mb_lt (pl := pl) (ba := ba) (c := w 2218 0) (n := n) (2 ^ n) h2n
    have hC := mb_cand (pl := pl) (ba := ba) (c := w 2218 0) (n := n) (2 ^ n)
    obtain ⟨g1, w1, e1, _, a6, _, f1⟩ := findMended6 n1 n4 HB1 B L.1.1 L.1.2.2 n8 L.2.2.2.2.1
    have F1 := fx_ft f1
    obtain ⟨g2, w2, e2, H2, f2, e2c⟩ := liftAll6 (m := mb pl ba n (w 2218 0) (2 ^ n)) (by omega) (hb_ft HB1 B f1) B hC
    have hst : liftN (mb pl ba n (w 2218 0) (2 ^ n)) (w 2218 0) 8 = liftN (mb pl ba n (w 2218 0) (2 ^ n)) (w 2218 0) n := liftN_stop hmb 8 (by omega)
    rw [hst] at H2
    have B2 := liftN_bi B hC n
    have hpl := liftN_pln hC n
    have F2 := fx_trans F1 (fx_fc f2)
    have P2 : PC g2 pl ba := pc_fc (pc_ft L.1.1 f1) f2
    obtain ⟨g3, w3, e3, H3, B3, f3, e11⟩ := layEach6 (a := 0) (n := n) (f := fun i => i) L.1.2.2 n4 (by decide) g2 w2 _ H2 B2 P2 (fun i hi => (F2.1 _ _ _ (by omega)).trans (L.2.2.2.2.1 i (by omega))) (fun i hi => by rw [pln_sn hpl]; show i < SN (w 2218 0); omega)
    rw [srv_many] at e3
    have F3 := fx_trans F2 (fx_fc f3)
    have R3 := rv_fx F3 (rv_self (w := w))
    have hpl2 := mc_pln (pl := pl) (ba := ba) n8 hC
    obtain ⟨g4, w4, e4, st, R4, f4⟩ := mends7 (g := g3) n1 n4 R3 B (pr_fx F3 L.1.2.1) L.1.2.2 n8
    have P4 := pr_fq (pr_fx F3 L.1.2.1) f4
    obtain ⟨g5, w5', e5, R5, B5, f5⟩ := tries7 (g := g4) L.1.2.2 n4 R4 B P4 n8 hmb hC
    have e14 : g5 7 0 14 = I (MANY pl ba n (w 2218 0) (mb pl ba n (w 2218 0) (2 ^ n))) := (f5.1 _ _ _ (by omega)).trans st.1
    rw [ob e1, show (g1, w1).1 2 0 6 = I (mb pl ba n (w 2218 0) (2 ^ n)) from a6, ob e2, ob e3]
    refine ok_some ?_
    show Ok (s_X7_layMended 0 (I n) g3 w3) (fun r => RLX pl ba r.2.1 r.2.2 ∧ I (MANY pl ba n (w 2218 0) (mb pl ba n (w 2218 0) (2 ^ n))) = r.1)
    unfold s_X7_layMended
    rw [if_pos ((gm7 R3 B).mpr ⟨n, n1, n4, n8, rfl⟩), ob e4, show (g4, w4).1 7 0 17 = I (mb pl ba n (w 2218 0) (2 ^ n)) from st.2.2.2, ob e5, n66]
    refine ⟨_, rfl, ?_, e14.symm⟩
    have gk : ∀ j, 11 ≤ j → j < 15 → j ≠ 11 → g3 1 0 j = g 1 0 j := fun j h1 h2 h3 => (f3.1 _ _ _ (by omega)).trans ((f2.1 _ _ _ (by omega)).trans (f1.1 _ _ _ (by omega)))
    refine rl_step L F3 (fy_trans (fy_fq f4) (fy_trans (fy_fp f5) (fy_frw frw_L))) (rv_add R5 (by show w4 2218 0 66 + _ = _; rw [R4 66 (by decide), pln_o hpl2 (by decide) (by decide)])) (eqx_hb H3 (eqx_add (by decide) (by decide))) (eqx_bi B3 (eqx_add (by decide) (by decide))) (cn_mk ?_ ?_ ?_ ?_)
    · rw [e11, cadd_at, t32_add, show MC pl ba n (w 2218 0) (mb pl ba n (w 2218 0) (2 ^ n)) 66 = w 2218 0 66 from pln_o hpl2 (by decide) (by decide), ← show g 1 0 11 = _ from N 0 (by decide), e2c, f1.1 _ _ _ (by omega)]
    · rw [show cadd (MC pl ba n (w 2218 0) (mb pl ba n (w 2218 0) (2 ^ n))) 66 _ 67 = _ from (if_neg (by decide)).trans (pln_o hpl2 (by decide) (by decide)), gk 12 (by decide) (by decide) (by decide)]
      exact N 1 (by decide)
    · rw [show cadd (MC pl ba n (w 2218 0) (mb pl ba n (w 2218 0) (2 ^ n))) 66 _ 68 = _ from (if_neg (by decide)).trans (pln_o hpl2 (by decide) (by decide)), gk 13 (by decide) (by decide) (by decide)]
      exact N 2 (by decide)
    · rw [show cadd (MC pl ba n (w 2218 0) (mb pl ba n (w 2218 0) (2 ^ n))) 66 _ 69 = _ from (if_neg (by decide)).trans (pln_o hpl2 (by decide) (by decide)), gk 14 (by decide) (by decide) (by decide)]
      exact N 3 (by decide)
  · rw [if_neg (fun q => h1 ((gm6 HB1 B).mp q))]
    refine ok_some ?_
    show Ok (s_X7_layMended 0 p1 g w) _
    unfold s_X7_layMended
    rw [if_neg (fun q => h1 ((gm7 rv_self B).mp q))]
    exact ⟨_, rfl, L, rfl⟩
theorem re_layMended (H : REL g w) : Ok (s_X6_layMended 0 p1 g w) (fun q => Ok (s_X7_layMended 0 p1 q.2.1 q.2.2) (fun r => REL r.2.1 r.2.2 ∧ q.1 = r.1)) := by
  obtain ⟨S, pl, ba, L⟩ := H
  exact rel_join (pr_layMended S) (mv_layMended S L)
end
