/-! the calls that move: lay, off, best -/
section
variable {g g' g1 g2 : Nat → Nat → Nat → Int32} {w w' w1 w2 : Nat → Nat → Nat → Int64} {hb : Nat} {c c' : Nat → Int64} {pl ba : Nat → Nat} {p1 p2 p3 : Int32}
theorem rel_join {α : Type} {o : Option (α × (Nat → Nat → Nat → Int32) × (Nat → Nat → Nat → Int64))} {f : α × (Nat → Nat → Nat → Int32) × (Nat → Nat → Nat → Int64) → Option (α × (Nat → Nat → Nat → Int32) × (Nat → Nat → Nat → Int64))}
    (h1 : Ok o (fun q => Ok (f q) (fun r => ST r.2.1 r.2.2))) (h2 : Ok o (fun q => Ok (f q) (fun r => RLX pl ba r.2.1 r.2.2 ∧ q.1 = r.1))) : Ok o (fun q => Ok (f q) (fun r => REL r.2.1 r.2.2 ∧ q.1 = r.1)) :=
  ok_imp (ok2_and h1 h2) (fun _ h => ok_imp h (fun _ q => ⟨⟨q.1, pl, ba, q.2.1⟩, q.2.2⟩))
theorem cn_mk (e0 : g 1 hb 11 = (c 66).toInt32) (e1 : g 1 hb 12 = (c 67).toInt32) (e2 : g 1 hb 13 = (c 68).toInt32) (e3 : g 1 hb 14 = (c 69).toInt32) : CN g hb c := fun i hi => by
  have : i = 0 ∨ i = 1 ∨ i = 2 ∨ i = 3 := by omega
  rcases this with rfl | rfl | rfl | rfl
  · exact e0
  · exact e1
  · exact e2
  · exact e3
theorem add_one32 (x : Int64) : (x + 1).toInt32 = x.toInt32 + 1 := t32_add x 1
theorem may7_ok (R : RV w c) (B : BI c) (P : PR g pl ba) (Q : PB pl ba) {s h X : Nat} (hs : s < SN c) (hh : h < 48) (hX1 : 1 ≤ X) (hX : X < 2 ^ TN c) :
    (JOB c s ∧ s_X7_may 0 (I s) (I h) (I X) g w = some (-2)) ∨ (¬ JOB c s ∧ ∃ r, s_X7_may 0 (I s) (I h) (I X) g w = some (I r) ∧ FIRST c pl ba s h X r) := by
  have h8 := sn8 B
  unfold s_X7_may s_X7_may_23 s_X7_may_45
  rw [if_pos ((gs7 R B).mpr ⟨s, hs, rfl⟩), if_pos (gh7.mpr ⟨h, hh, rfl⟩), if_pos ((gx7 R B).mpr ⟨X, hX1, hX, rfl⟩)]
  obtain ⟨b, eb, hbb⟩ := r_hasJob (g := g) R B hs
  rw [eb]
  by_cases e : b = true
  · refine Or.inl ⟨hbb.mp e, ?_⟩
    show (if b = true then _ else _) = _
    rw [if_pos e]
  · have hJ : ¬ JOB c s := fun q => e (hbb.mpr q)
    obtain ⟨r', e2, f2⟩ := why7 (g := g) R B P Q hs hJ (s64 B hX) (h := h) (by omega)
    refine Or.inr ⟨hJ, r', ?_, f2⟩
    show (if b = true then _ else _) = _
    rw [if_neg e, e2]
    rfl
theorem may7_no (R : RV w c) (B : BI c) (h : ¬ (IX (SN c) p1 ∧ IX 48 p2 ∧ IS (2 ^ TN c) p3)) : s_X7_may 0 p1 p2 p3 g w = some (-1) := by
  unfold s_X7_may s_X7_may_23
  by_cases h1 : IX (SN c) p1
  · rw [if_pos ((gs7 R B).mpr h1)]
    by_cases h2 : IX 48 p2
    · rw [if_pos (gh7.mpr h2), if_neg (fun q => h ⟨h1, h2, (gx7 R B).mp q⟩)]
    · rw [if_neg (fun q => h2 (gh7.mp q))]
  · rw [if_neg (fun q => h1 ((gs7 R B).mp q))]
theorem mv_lay (S : ST g w) (L : RLX pl ba g w) : Ok (s_X6_lay 0 p1 p2 p3 g w) (fun q => Ok (s_X7_lay 0 p1 p2 p3 q.2.1 q.2.2) (fun r => RLX pl ba r.2.1 r.2.2 ∧ q.1 = r.1)) := by
  have B := L.2.2.1
  have h8 := sn8 B
  have h6 := tn6 B
  have HB1 : HB g w 0 (w 2218 0) := ⟨S.2.2.2.1, L.2.1⟩
  have N := L.2.2.2.1
  have no : ¬ (IX (SN (w 2218 0)) p1 ∧ IX 48 p2 ∧ IS (2 ^ TN (w 2218 0)) p3) → Ok (some ((-1 : Int32), g, w)) (fun q => Ok (s_X7_lay 0 p1 p2 p3 q.2.1 q.2.2) (fun r => RLX pl ba r.2.1 r.2.2 ∧ q.1 = r.1)) := fun h => by
    refine ok_some ?_
    show Ok (s_X7_lay 0 p1 p2 p3 g w) _
    unfold s_X7_lay s_X7_lay_26
    rw [may7_no rv_self B h]
    exact ⟨_, rfl, L, rfl⟩
  unfold s_X6_lay s_X6_lay_23 s_X6_lay_58
  by_cases h1 : IX (SN (w 2218 0)) p1
  · rw [if_pos ((gs6 HB1 B).mpr h1)]
    by_cases h2 : IX 48 p2
    · rw [if_pos (gh6.mpr h2)]
      by_cases h3 : IS (2 ^ TN (w 2218 0)) p3
      · rw [if_pos ((gx6 HB1 B).mpr h3)]
        obtain ⟨s, hs, rfl⟩ := h1
        obtain ⟨h, hh, rfl⟩ := h2
        obtain ⟨X, hX1, hX, rfl⟩ := h3
        rw [if_pos (inR_I (k := s) (n := 8) (by omega) (by decide)), I_tn (by omega)]
        by_cases hJ : JOB (w 2218 0) s
        · rw [if_pos ((hasJob6 HB1 B (by omega)).mpr ⟨hs, hJ⟩)]
          refine ok_some ?_
          show Ok (s_X7_lay 0 (I s) (I h) (I X) g w) _
          unfold s_X7_lay s_X7_lay_26
          rcases may7_ok (g := g) rv_self B L.1.2.1 L.1.2.2 hs hh hX1 hX with ⟨_, e⟩ | ⟨q, _⟩
          · rw [e]
            exact ⟨_, rfl, L, rfl⟩
          · exact absurd hJ q
        · rw [if_neg (fun q => hJ ((hasJob6 HB1 B (by omega)).mp q).2)]
          obtain ⟨r, e1, f1⟩ := why6 HB1 B L.1.1 L.1.2.2 hs hX (h := h) (by omega)
          have hr : r ≤ 12 := by rcases f1 with ⟨q, _⟩ | ⟨_, q, _⟩ <;> omega
          rw [e1]
          show Ok (if I r = 0 then (s_X1_put 0 (8 * 0 + s) (I h) (I X) g w).bind fun q2 => some ((0 : Int32), q2.1, q2.2) else some ((-2 : Int32), g, w)) _
          by_cases e0 : r = 0
          · subst e0
            have ck : ∀ k, 1 ≤ k → k < 13 → CHK (w 2218 0) pl ba k s h X := by
              rcases f1 with ⟨_, q⟩ | ⟨q, _⟩
              · exact q
              · omega
            have c1 : SF (w 2218 0) s 2 ≤ h ∧ h + SF (w 2218 0) s 3 ≤ 48 := ck 1 (by decide) (by decide)
            have c5 : ∀ t, 0 ≤ t → t < TN (w 2218 0) → (X.testBit t = true → (WK (w 2218 0) t ||| BN (w 2218 0) t) &&& OWN (w 2218 0) s h = 0) := ck 5 (by decide) (by decide)
            rw [if_pos (show I 0 = 0 from rfl), put_e HB1 B hs c1.2 (s64 B hX)]
            refine ok_some ?_
            have HP := hb_put (x := g 1 0 11 + 1) HB1 B (h := h) hs hX
            have BP := bi_put B hs hJ c1.2 hX1 hX (fun t ht q => c5 t (Nat.zero_le _) ht q)
            have F : FX g w (gI (pg (8 * 0 + s) (I h) (I X) g) 1 0 11 (g 1 0 11 + 1)) (w5 0 (fput X (OWN (w 2218 0) s h)) 6 w) := fx_fc (fc_trans (fc_w5 (n := 6) (by decide)) (fc_trans (fc_pg (by omega)) (fc_1 (Or.inl rfl))))
            have R1 := rv_fx F (rv_self (w := w))
            show Ok (s_X7_lay 0 (I s) (I h) (I X) (gI (pg (8 * 0 + s) (I h) (I X) g) 1 0 11 (g 1 0 11 + 1)) (w5 0 (fput X (OWN (w 2218 0) s h)) 6 w)) (fun r => RLX pl ba r.2.1 r.2.2 ∧ (0 : Int32) = r.1)
            unfold s_X7_lay
            rcases may7_ok (g := gI (pg (8 * 0 + s) (I h) (I X) g) 1 0 11 (g 1 0 11 + 1)) R1 B (pr_fx F L.1.2.1) L.1.2.2 hs hh hX1 hX with ⟨q, _⟩ | ⟨_, r, e, f2⟩
            · exact absurd q hJ
            · have er := first_uniq f1 f2
              subst er
              rw [e]
              show Ok ((s_X7_lays 0 (I s) (I h) (I X) (gI (pg (8 * 0 + s) (I h) (I X) g) 1 0 11 (g 1 0 11 + 1)) (w5 0 (fput X (OWN (w 2218 0) s h)) 6 w)).bind fun q2 => some ((0 : Int32), q2.1, (wL q2.2 2218 0 (66 : Int32).toNatClampNeg ((q2.2 2218 0 (66 : Int32).toNatClampNeg) + 1)))) _
              rw [lays_e R1 B hs c1.2 (s64 B hX), n66]
              have R2 := rc_put R1 B (h := h) hs hX
              have R3 := rv_add (j := 66) (x := 1) R2 rfl
              have o : ∀ j, 66 ≤ j → j < 70 → cput (w 2218 0) s h X j = w 2218 0 j := fun j q1 q2 => cput_o (by omega) (by omega) (by omega)
              refine ⟨_, rfl, rl_step L F (fy_frw (frw_trans (frw_trans (frw_fp (g := g) (g' := g) (fp_wj (by omega))) (frw_fp (g := g) (g' := g) (fp_wr h6))) frw_L)) (by rw [← R2 66 (by decide)] at R3; exact R3) (eqx_hb HP (eqx_add (by decide) (by decide))) (eqx_bi BP (eqx_add (by decide) (by decide))) (cn_mk ?_ ?_ ?_ ?_), rfl⟩
              · rw [gI_at, if_pos ⟨rfl, rfl, rfl⟩, cadd_at, add_one32, o 66 (by decide) (by decide), N 0 (by decide)]
              · rw [gI_at, if_neg (by omega), show cadd (cput (w 2218 0) s h X) 66 1 67 = w 2218 0 67 from (if_neg (by decide)).trans (o 67 (by decide) (by decide))]
                unfold pg; rw [gI_at, if_neg (by omega), gI_at, if_neg (by omega)]; exact N 1 (by decide)
              · rw [gI_at, if_neg (by omega), show cadd (cput (w 2218 0) s h X) 66 1 68 = w 2218 0 68 from (if_neg (by decide)).trans (o 68 (by decide) (by decide))]
                unfold pg; rw [gI_at, if_neg (by omega), gI_at, if_neg (by omega)]; exact N 2 (by decide)
              · rw [gI_at, if_neg (by omega), show cadd (cput (w 2218 0) s h X) 66 1 69 = w 2218 0 69 from (if_neg (by decide)).trans (o 69 (by decide) (by decide))]
                unfold pg; rw [gI_at, if_neg (by omega), gI_at, if_neg (by omega)]; exact N 3 (by decide)
          · rw [if_neg (nz_I e0 (by omega))]
            refine ok_some ?_
            show Ok (s_X7_lay 0 (I s) (I h) (I X) g w) (fun r => RLX pl ba r.2.1 r.2.2 ∧ (-2 : Int32) = r.1)
            unfold s_X7_lay s_X7_lay_26
            rcases may7_ok (g := g) rv_self B L.1.2.1 L.1.2.2 hs hh hX1 hX with ⟨q, _⟩ | ⟨_, r', e, f2⟩
            · exact absurd q hJ
            · have er := first_uniq f1 f2
              subst er
              rw [e]
              show Ok (if I r = 0 then _ else if I r ≤ 0 then some (I r, g, w) else some (-2, g, w)) _
              rw [if_neg (nz_I e0 (by omega)), if_neg (show ¬ I r ≤ 0 from nle (a := r) (k := 0) (by omega) (by omega))]
              exact ⟨_, rfl, L, rfl⟩
      · rw [if_neg (fun q => h3 ((gx6 HB1 B).mp q))]
        exact no (fun q => h3 q.2.2)
    · rw [if_neg (fun q => h2 (gh6.mp q))]
      exact no (fun q => h2 q.2.1)
  · rw [if_neg (fun q => h1 ((gs6 HB1 B).mp q))]
    exact no (fun q => h1 q.1)
theorem re_lay (H : REL g w) : Ok (s_X6_lay 0 p1 p2 p3 g w) (fun q => Ok (s_X7_lay 0 p1 p2 p3 q.2.1 q.2.2) (fun r => REL r.2.1 r.2.2 ∧ q.1 = r.1)) := by
  obtain ⟨S, pl, ba, L⟩ := H
  exact rel_join (pr_lay S) (mv_lay S L)
theorem mv_off (S : ST g w) (L : RLX pl ba g w) : Ok (s_X6_off 0 p1 g w) (fun q => Ok (s_X7_off 0 p1 q.2.1 q.2.2) (fun r => RLX pl ba r.2.1 r.2.2 ∧ q.1 = r.1)) := by
  have B := L.2.2.1
  have h8 := sn8 B
  have h6 := tn6 B
  have HB1 : HB g w 0 (w 2218 0) := ⟨S.2.2.2.1, L.2.1⟩
  have N := L.2.2.2.1
  unfold s_X6_off
  by_cases h1 : IX (SN (w 2218 0)) p1
  · rw [if_pos ((gs6 HB1 B).mpr h1)]
    obtain ⟨s, hs, rfl⟩ := h1
    rw [if_pos (inR_I (k := s) (n := 8) (by omega) (by decide)), I_tn (by omega)]
    by_cases hJ : JOB (w 2218 0) s
    · have ll := last_lt B hs hJ
      rw [if_pos ((hasJob6 HB1 B (by omega)).mpr ⟨hs, hJ⟩), c_hour HB1 B hs hJ, lift_e HB1 B hs hJ]
      refine ok_some ?_
      have F : FX g w (pg (8 * 0 + s) (-4) (I 0) g) (w5 0 (frel (SF (w 2218 0) s 8) (MH (w 2218 0) s 0)) 6 w) := fx_fc (fc_trans (fc_w5 (n := 6) (by decide)) (fc_pg (by omega)))
      have R1 := rv_fx F (rv_self (w := w))
      show Ok (s_X7_off 0 (I s) (pg (8 * 0 + s) (-4) (I 0) g) (w5 0 (frel (SF (w 2218 0) s 8) (MH (w 2218 0) s 0)) 6 w)) (fun r => RLX pl ba r.2.1 r.2.2 ∧ I (SF (w 2218 0) s 7) = r.1)
      unfold s_X7_off
      rw [if_pos ((gs7 R1 B).mpr ⟨s, hs, rfl⟩)]
      obtain ⟨b, eb, hbb⟩ := r_hasJob (g := pg (8 * 0 + s) (-4) (I 0) g) R1 B hs
      rw [eb]
      show Ok (if b = true then _ else _) _
      rw [if_pos (hbb.mpr hJ), show s_X7_ofShip 0 (I s) 7 _ _ = _ from r_hour R1 B hs hJ, show s_X7_takes 0 (I s) 0 _ _ = _ from takes_e (f := 0) R1 B hs hJ (Nat.zero_le _)]
      have o : ∀ j, 66 ≤ j → j < 70 → ctake (w 2218 0) s (MH (w 2218 0) s 0) j = w 2218 0 j := fun j q1 q2 => ctake_o (by omega) (by omega) (by omega)
      have gk : ∀ j, pg (8 * 0 + s) (-4) (I 0) g 1 0 j = g 1 0 j := fun j => by unfold pg; rw [gI_at, if_neg (by omega), gI_at, if_neg (by omega)]
      exact ⟨_, rfl, rl_step L F (fy_frw (frw_trans (frw_fp (g := g) (g' := g) (fp_wr h6)) (frw_fp (g := g) (g' := g) (fp_wj (by omega))))) (rv_take R1 B hs hJ) (hb_take HB1 B hs hJ) (bi_take B hs hJ (fun j hj => mh_in (by omega) j hj)) (fun i hi => by rw [gk, o _ (by omega) (by omega)]; exact N i hi), rfl⟩
    · rw [if_neg (fun q => hJ ((hasJob6 HB1 B (by omega)).mp q).2)]
      refine ok_some ?_
      show Ok (s_X7_off 0 (I s) g w) _
      unfold s_X7_off
      rw [if_pos ((gs7 rv_self B).mpr ⟨s, hs, rfl⟩)]
      obtain ⟨b, eb, hbb⟩ := r_hasJob (g := g) rv_self B hs
      rw [eb]
      show Ok (if b = true then _ else _) _
      rw [if_neg (fun q => hJ (hbb.mp q))]
      exact ⟨_, rfl, L, rfl⟩
  · rw [if_neg (fun q => h1 ((gs6 HB1 B).mp q))]
    refine ok_some ?_
    show Ok (s_X7_off 0 p1 g w) _
    unfold s_X7_off
    rw [if_neg (fun q => h1 ((gs7 rv_self B).mp q))]
    exact ⟨_, rfl, L, rfl⟩
theorem re_off (H : REL g w) : Ok (s_X6_off 0 p1 g w) (fun q => Ok (s_X7_off 0 p1 q.2.1 q.2.2) (fun r => REL r.2.1 r.2.2 ∧ q.1 = r.1)) := by
  obtain ⟨S, pl, ba, L⟩ := H
  exact rel_join (pr_off S) (mv_off S L)
/-- a call that leaves the plan -/
theorem rl_stay (L : RLX pl ba g w) (S : ST g w) (F : FX g w g1 w1) (K : FY g1 w1 g2 w2) (R : RV w2 (w 2218 0)) (H : HB g1 w1 0 (w 2218 0)) (e : ∀ j, 11 ≤ j → j < 15 → g1 1 0 j = g 1 0 j) : RLX pl ba g2 w2 :=
  rl_step L F K R H L.2.2.1 (fun i hi => (e _ (by omega) (by omega)).trans (L.2.2.2.1 i hi))
theorem mv_best (S : ST g w) (L : RLX pl ba g w) : Ok (s_X6_best 0 p1 p2 g w) (fun q => Ok (s_X7_best 0 p1 p2 q.2.1 q.2.2) (fun r => RLX pl ba r.2.1 r.2.2 ∧ q.1 = r.1)) := by
  have B := L.2.2.1
  have h8 := sn8 B
  have h6 := tn6 B
  have HB1 : HB g w 0 (w 2218 0) := ⟨S.2.2.2.1, L.2.1⟩
  unfold s_X6_best s_X6_best_17 s_X6_best_60 s_X6_best_72
  rw [within_eq]
  by_cases h1 : IX (SN (w 2218 0)) p1
  · rw [if_pos ((gs6 HB1 B).mpr h1)]
    obtain ⟨s, hs, rfl⟩ := h1
    by_cases h2 : decide ((0 : Int32) ≤ p2 ∧ p2 ≤ 1) = true
    · rw [if_pos h2, if_pos (inR_I (k := s) (n := 8) (by omega) (by decide)), I_tn (by omega)]
      by_cases hJ : JOB (w 2218 0) s
      · rw [if_pos ((hasJob6 HB1 B (by omega)).mpr ⟨hs, hJ⟩)]
        refine ok_some ?_
        show Ok (s_X7_best 0 (I s) p2 g w) _
        unfold s_X7_best
        rw [if_pos ((gs7 rv_self B).mpr ⟨s, hs, rfl⟩), in32 p2 0 1 (by decide) (by decide), if_pos h2]
        obtain ⟨b, eb, hbb⟩ := r_hasJob (g := g) rv_self B hs
        rw [eb]
        show Ok (if b = true then _ else _) _
        rw [if_pos (hbb.mpr hJ)]
        exact ⟨_, rfl, L, rfl⟩
      · rw [if_neg (fun q => hJ ((hasJob6 HB1 B (by omega)).mp q).2)]
        obtain ⟨r, g1, e1, f1, q1⟩ := seek6 HB1 B L.1.1 L.1.2.2 hs
        have F := fx_fc (fc_frb (w := w) f1)
        have H1 := hb_frb HB1 B f1
        have P1 : PR g1 pl ba := pr_fx F L.1.2.1
        obtain ⟨r', g2, e2, f2, q2⟩ := finds7 (rv_self (w := w)) B P1 L.1.2.2 hs hJ
        have RL2 : RLX pl ba g2 w := rl_stay L S F (fy_fp (fp_fr7 f2)) rv_self H1 (fun j q1 q2 => f1 _ _ _ (by omega))
        have X7 : s_X7_best 0 (I s) p2 g1 w = if r' = true then (if p2 ≠ 0 then some (g2 7 0 11, g2, w) else some (g2 7 0 10, g2, w)) else some (-4, g2, w) := by
          unfold s_X7_best s_X7_best_59
          rw [if_pos ((gs7 rv_self B).mpr ⟨s, hs, rfl⟩), in32 p2 0 1 (by decide) (by decide), if_pos h2]
          obtain ⟨b, eb, hbb⟩ := r_hasJob (g := g1) rv_self B hs
          rw [eb]
          show (if b = true then _ else _) = _
          rw [if_neg (fun q => hJ (hbb.mp q)), e2]
          rfl
        rw [e1]
        rcases q1 with ⟨rfl, n1⟩ | ⟨h, v, rfl, b1, e15⟩
        · show Ok (if (-4 : Int32) = -4 then some ((-4 : Int32), g1, w) else if p2 ≠ 0 then some (g1 1 0 15, g1, w) else some ((-4 : Int32), g1, w)) _
          rw [if_pos rfl]
          refine ok_some ?_
          show Ok (s_X7_best 0 (I s) p2 g1 w) (fun r => RLX pl ba r.2.1 r.2.2 ∧ (-4 : Int32) = r.1)
          rw [X7]
          rcases q2 with ⟨rfl, _⟩ | ⟨h', v', _, b2, _⟩
          · exact ⟨_, rfl, RL2, rfl⟩
          · exact (best_none b2 n1).elim
        · have ok := best_ok B b1
          show Ok (if I h = -4 then some (I h, g1, w) else if p2 ≠ 0 then some (g1 1 0 15, g1, w) else some (I h, g1, w)) _
          rw [if_neg (fun q => by have := congrArg Int32.toInt q; rw [I_toInt (by omega), show (-4 : Int32).toInt = -4 from rfl] at this; omega)]
          rcases q2 with ⟨_, n2⟩ | ⟨h', v', rfl, b2, e10, e11⟩
          · exact (best_none b1 n2).elim
          · obtain ⟨rfl, rfl⟩ := best_uniq b1 b2
            by_cases h3 : p2 ≠ 0
            · rw [if_pos h3, e15]
              refine ok_some ?_
              show Ok (s_X7_best 0 (I s) p2 g1 w) (fun r => RLX pl ba r.2.1 r.2.2 ∧ I v = r.1)
              rw [X7, if_pos rfl, if_pos h3, e11]
              exact ⟨_, rfl, RL2, rfl⟩
            · rw [if_neg h3]
              refine ok_some ?_
              show Ok (s_X7_best 0 (I s) p2 g1 w) (fun r => RLX pl ba r.2.1 r.2.2 ∧ I h = r.1)
              rw [X7, if_pos rfl, if_neg h3, e10]
              exact ⟨_, rfl, RL2, rfl⟩
    · rw [if_neg h2]
      refine ok_some ?_
      show Ok (s_X7_best 0 (I s) p2 g w) _
      unfold s_X7_best s_X7_best_18
      rw [if_pos ((gs7 rv_self B).mpr ⟨s, hs, rfl⟩), in32 p2 0 1 (by decide) (by decide), if_neg h2]
      exact ⟨_, rfl, L, rfl⟩
  · rw [if_neg (fun q => h1 ((gs6 HB1 B).mp q))]
    refine ok_some ?_
    show Ok (s_X7_best 0 p1 p2 g w) _
    unfold s_X7_best s_X7_best_18
    rw [if_neg (fun q => h1 ((gs7 rv_self B).mp q))]
    exact ⟨_, rfl, L, rfl⟩
theorem re_best (H : REL g w) : Ok (s_X6_best 0 p1 p2 g w) (fun q => Ok (s_X7_best 0 p1 p2 q.2.1 q.2.2) (fun r => REL r.2.1 r.2.2 ∧ q.1 = r.1)) := by
  obtain ⟨S, pl, ba, L⟩ := H
  exact rel_join (pr_best S) (mv_best S L)
end
