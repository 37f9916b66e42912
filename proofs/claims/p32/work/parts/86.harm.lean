/-! breaks, storm, calm, mend, bunker, berth -/
section
variable {g g' g1 g2 : Nat → Nat → Nat → Int32} {w w' w1 w2 : Nat → Nat → Nat → Int64} {hb : Nat} {c c' : Nat → Int64} {pl ba : Nat → Nat} {p1 p2 p3 : Int32}
theorem cB_o {t h j : Nat} (hj : j = 66 ∨ j = 67 ∨ j = 69) : ∀ k, cB t h c k j = c j
  | 0 => rfl
  | k + 1 => by
    have ih := cB_o (t := t) (h := h) hj k
    show bkS t h k (cB t h c k) j = _
    by_cases q : WITH (cB t h c k) k t ∧ h ≤ LAST (cB t h c k) k
    · by_cases q2 : GOES (cB t h c k) k t h
      · rw [bkS_go q q2, show cadd (cgo (cB t h c k) k t h) 68 _ j = cgo (cB t h c k) k t h j from if_neg (by omega), cgo_o (by omega) (by omega)]; exact ih
      · rw [bkS_off q q2, show cadd (ctake (cB t h c k) k (MH (cB t h c k) k h)) 68 _ j = ctake (cB t h c k) k (MH (cB t h c k) k h) j from if_neg (by omega), ctake_o (by omega) (by omega) (by omega)]; exact ih
    · rw [bkS_no q]; exact ih
theorem mv_breaks (S : ST g w) (L : RLX pl ba g w) : Ok (s_X6_breaks 0 p1 p2 g w) (fun q => Ok (s_X7_breaks 0 p1 p2 q.2.1 q.2.2) (fun r => RLX pl ba r.2.1 r.2.2 ∧ q.1 = r.1)) := by
  have B := L.2.2.1
  have h8 := sn8 B
  have h6 := tn6 B
  have HB1 : HB g w 0 (w 2218 0) := ⟨S.2.2.2.1, L.2.1⟩
  have N := L.2.2.2.1
  unfold s_X6_breaks s_X6_breaks_15 s_X6_breaks_47
  by_cases h1 : IX (TN (w 2218 0)) p1
  · rw [if_pos ((gt6 HB1 B).mpr h1)]
    by_cases h2 : IX 48 p2
    · rw [if_pos (gh6.mpr h2)]
      obtain ⟨t, ht, rfl⟩ := h1
      obtain ⟨h, hh, rfl⟩ := h2
      have r7 : TF (w 2218 0) t 7 ≤ 60 := (nf_rb (bt_j B ht (j := 7) (by decide))).2
      have X7 : ∀ {g1 : Nat → Nat → Nat → Int32} {w1 : Nat → Nat → Nat → Int64}, RV w1 (w 2218 0) → s_X7_breaks 0 (I t) (I h) g1 w1 = if I h < I (TF (w 2218 0) t 7) then s_X7_breaks_R36 0 (I t) (I h) FU 0 0 g1 w1 else some (-2, g1, w1) := fun {g1 w1} R => by
        unfold s_X7_breaks s_X7_breaks_15
        rw [if_pos ((gt7 R B).mpr ⟨t, ht, rfl⟩), if_pos (gh7.mpr ⟨h, hh, rfl⟩), ob (show s_X7_ofTug 0 (I t) 7 g1 w1 = _ from r_tug R B ht (j := 7) (by decide))]
      rw [if_pos (inR_I (k := t) (n := 6) (by omega) (by decide)), I_tn (by omega)]
      by_cases hb7 : TF (w 2218 0) t 7 ≤ h
      · rw [if_pos ((broken6 HB1 B ht (by omega)).mpr hb7)]
        refine ok_some ?_
        show Ok (s_X7_breaks 0 (I t) (I h) g w) (fun r => RLX pl ba r.2.1 r.2.2 ∧ (-2 : Int32) = r.1)
        rw [X7 rv_self, if_neg (nlt hb7 (by omega))]
        exact ⟨_, rfl, L, rfl⟩
      · rw [if_neg (fun q => hb7 ((broken6 HB1 B ht (by omega)).mp q))]
        obtain ⟨g1, w1, e1, H1, f1, a11, a12, a13, a14⟩ := breakDown6 HB1 B ht (h := h) (by omega) (N 2 (by decide))
        have F := fx_fd f1
        have R1 := rv_fx F (rv_self (w := w))
        obtain ⟨w2, e2, R2, f2⟩ := breaks7 (g := g1) R1 B ht (h := h) (by omega)
        have st := cB_stop (t := t) (h := h) (c := w 2218 0) (k := 8) h8 (Nat.le_refl _)
        rw [ob e1]
        refine ok_some ?_
        show Ok (s_X7_breaks 0 (I t) (I h) g1 w1) (fun r => RLX pl ba r.2.1 r.2.2 ∧ I (bN t h (w 2218 0) 8) = r.1)
        rw [X7 R1, if_pos (ilt (by omega) (by omega)), e2]
        rw [← st.1, ← st.2] at R2
        have hT : t < TN (cB t h (w 2218 0) 8) := by rw [same_tn (cB_same (Nat.le_refl _))]; exact ht
        have cb : ∀ {j : Nat}, (j = 66 ∨ j = 67 ∨ j = 69) → cB t h (w 2218 0) 8 j = w 2218 0 j := fun hj => cB_o hj 8
        refine ⟨_, rfl, rl_step L F (fy_frw f2) R2 H1 (bi_end (cB_bi B ht (Nat.le_refl _)) hT (by omega)) (cn_mk ?_ ?_ ?_ ?_), congrArg I st.2⟩
        · rw [a11, cend_o (by omega) (by omega) (by omega), cb (Or.inl rfl)]; exact N 0 (by decide)
        · rw [a12, cend_67, t32_add, cb (Or.inr (Or.inl rfl))]; exact congrArg (· + I (bN t h (w 2218 0) 8)) (N 1 (by decide))
        · rw [a13, cend_o (by omega) (by omega) (by omega)]
        · rw [a14, cend_o (by omega) (by omega) (by omega), cb (Or.inr (Or.inr rfl))]; exact N 3 (by decide)
    · rw [if_neg (fun q => h2 (gh6.mp q))]
      refine ok_some ?_
      show Ok (s_X7_breaks 0 p1 p2 g w) _
      unfold s_X7_breaks s_X7_breaks_15
      rw [if_pos ((gt7 rv_self B).mpr h1), if_neg (fun q => h2 (gh7.mp q))]
      exact ⟨_, rfl, L, rfl⟩
  · rw [if_neg (fun q => h1 ((gt6 HB1 B).mp q))]
    refine ok_some ?_
    show Ok (s_X7_breaks 0 p1 p2 g w) _
    unfold s_X7_breaks s_X7_breaks_15
    rw [if_neg (fun q => h1 ((gt7 rv_self B).mp q))]
    exact ⟨_, rfl, L, rfl⟩
theorem re_breaks (H : REL g w) : Ok (s_X6_breaks 0 p1 p2 g w) (fun q => Ok (s_X7_breaks 0 p1 p2 q.2.1 q.2.2) (fun r => REL r.2.1 r.2.2 ∧ q.1 = r.1)) := by
  obtain ⟨S, pl, ba, L⟩ := H
  exact rel_join (pr_breaks S) (mv_breaks S L)
theorem cT_o {a b j : Nat} (hj : j = 66 ∨ j = 67 ∨ j = 68) : ∀ k, cT a b c k j = c j
  | 0 => rfl
  | k + 1 => by
    have ih := cT_o (a := a) (b := b) hj k
    show stS a b k (cT a b c k) j = _
    by_cases q : (k < SN (cT a b c k) ∧ JOB (cT a b c k) k) ∧ SF (cT a b c k) k 7 ≤ b ∧ a ≤ LAST (cT a b c k) k
    · rw [stS_yes q, show cadd (ctake (cT a b c k) k (MH (cT a b c k) k a)) 69 _ j = ctake (cT a b c k) k (MH (cT a b c k) k a) j from if_neg (by omega), ctake_o (by omega) (by omega) (by omega)]; exact ih
    · rw [stS_no q]; exact ih
theorem le_hours {a b : Nat} (ha : a < 48) (hb : b < 48) : I a ≤ I b ↔ a ≤ b := ⟨fun q => by
  by_cases e : a ≤ b
  · exact e
  · exact absurd q (nle (by omega) (by omega)), fun q => ile q (by omega)⟩
theorem mv_storm (S : ST g w) (L : RLX pl ba g w) : Ok (s_X6_storm 0 p1 p2 g w) (fun q => Ok (s_X7_storm 0 p1 p2 q.2.1 q.2.2) (fun r => RLX pl ba r.2.1 r.2.2 ∧ q.1 = r.1)) := by
  have B := L.2.2.1
  have h8 := sn8 B
  have HB1 : HB g w 0 (w 2218 0) := ⟨S.2.2.2.1, L.2.1⟩
  have N := L.2.2.2.1
  have no : ∀ (hn : ¬ (IX 48 p1 ∧ IX 48 p2 ∧ p1 ≤ p2)), Ok (some ((-1 : Int32), g, w)) (fun q => Ok (s_X7_storm 0 p1 p2 q.2.1 q.2.2) (fun r => RLX pl ba r.2.1 r.2.2 ∧ q.1 = r.1)) := fun hn => by
    refine ok_some ?_
    show Ok (s_X7_storm 0 p1 p2 g w) _
    unfold s_X7_storm s_X7_storm_19
    by_cases h1 : IX 48 p1
    · rw [if_pos (gh7.mpr h1)]
      by_cases h2 : IX 48 p2
      · rw [if_pos (gh7.mpr h2), if_neg (fun q => hn ⟨h1, h2, q⟩)]
        exact ⟨_, rfl, L, rfl⟩
      · rw [if_neg (fun q => h2 (gh7.mp q))]
        exact ⟨_, rfl, L, rfl⟩
    · rw [if_neg (fun q => h1 (gh7.mp q))]
      exact ⟨_, rfl, L, rfl⟩
  unfold s_X6_storm s_X6_storm_19
  by_cases h1 : IX 48 p1
  · rw [if_pos (gh6.mpr h1)]
    by_cases h2 : IX 48 p2
    · rw [if_pos (gh6.mpr h2)]
      by_cases h3 : p1 ≤ p2
      · rw [if_pos h3]
        obtain ⟨a, ha, rfl⟩ := h1
        obtain ⟨b, hb, rfl⟩ := h2
        have hab := (le_hours ha hb).mp h3
        obtain ⟨g1, w1, e1, H1, f1, a11, a12, a13, a14⟩ := blow6 HB1 rfl B hab (by omega) (N 3 (by decide))
        have F := fx_fd f1
        have R1 := rv_fx F (rv_self (w := w))
        obtain ⟨w2, e2, R2, f2⟩ := storm7 (g := g1) R1 B hab (by omega)
        have st := cT_stop (a := a) (b := b) (c := w 2218 0) (k := 8) h8 (Nat.le_refl _)
        rw [ob e1]
        refine ok_some ?_
        show Ok (s_X7_storm 0 (I a) (I b) g1 w1) (fun r => RLX pl ba r.2.1 r.2.2 ∧ I (tN a b (w 2218 0) 8) = r.1)
        unfold s_X7_storm
        rw [if_pos (gh7.mpr ⟨a, ha, rfl⟩), if_pos (gh7.mpr ⟨b, hb, rfl⟩), if_pos h3, e2]
        rw [← st.1, ← st.2] at R2
        have ct : ∀ {j : Nat}, (j = 66 ∨ j = 67 ∨ j = 68) → cT a b (w 2218 0) 8 j = w 2218 0 j := fun hj => cT_o hj 8
        have B2 : BI (cadd (cS (cT a b (w 2218 0) 8) ((w 2218 0) 63 ||| HH a (b + 1))) 67 (I (tN a b (w 2218 0) 8)).toInt64) := eqx_bi (cS_bi (cT_bi B 8) (or48 B.1.2.2.2.2.2 (hh48 (by omega) (by omega)))) (eqx_add (by decide) (by decide))
        refine ⟨_, rfl, rl_step L F (fy_frw f2) R2 H1 B2 (cn_mk ?_ ?_ ?_ ?_), congrArg I st.2⟩
        · rw [a11, show cadd (cS (cT a b (w 2218 0) 8) ((w 2218 0) 63 ||| HH a (b + 1))) 67 _ 66 = _ from (if_neg (by decide)).trans (cS_o (by decide)), ct (Or.inl rfl)]; exact N 0 (by decide)
        · rw [a12, cadd_at, t32_add, cS_o (by decide), ct (Or.inr (Or.inl rfl))]; exact congrArg (· + I (tN a b (w 2218 0) 8)) (N 1 (by decide))
        · rw [a13, show cadd (cS (cT a b (w 2218 0) 8) ((w 2218 0) 63 ||| HH a (b + 1))) 67 _ 68 = _ from (if_neg (by decide)).trans (cS_o (by decide)), ct (Or.inr (Or.inr rfl))]; exact N 2 (by decide)
        · rw [a14, show cadd (cS (cT a b (w 2218 0) 8) ((w 2218 0) 63 ||| HH a (b + 1))) 67 _ 69 = _ from (if_neg (by decide)).trans (cS_o (by decide))]
      · rw [if_neg h3]; exact no (fun q => h3 q.2.2)
    · rw [if_neg (fun q => h2 (gh6.mp q))]; exact no (fun q => h2 q.2.1)
  · rw [if_neg (fun q => h1 (gh6.mp q))]; exact no (fun q => h1 q.1)
theorem re_storm (H : REL g w) : Ok (s_X6_storm 0 p1 p2 g w) (fun q => Ok (s_X7_storm 0 p1 p2 q.2.1 q.2.2) (fun r => REL r.2.1 r.2.2 ∧ q.1 = r.1)) := by
  obtain ⟨S, pl, ba, L⟩ := H
  exact rel_join (pr_storm S) (mv_storm S L)
theorem re_calm (H : REL g w) : Ok (s_X7_calm 0 (s_X6_calm 0 g w).2.1 (s_X6_calm 0 g w).2.2) (fun r => REL r.2.1 r.2.2 ∧ (s_X6_calm 0 g w).1 = r.1) := by
  obtain ⟨S, pl, ba, L⟩ := H
  have B := L.2.2.1
  have HB1 : HB g w 0 (w 2218 0) := ⟨S.2.2.2.1, L.2.1⟩
  have N := L.2.2.2.1
  have key : Ok (s_X7_calm 0 g (wL w 1 0 8 0)) (fun r => RLX pl ba r.2.1 r.2.2 ∧ (s_X6_calm 0 g w).1 = r.1) := by
    have F : FX g w g (wL w 1 0 8 0) := ⟨fun _ _ _ _ => rfl, fun F i j q => by rw [wL_at, if_neg (by omega)]⟩
    have R1 := rv_fx F (rv_self (w := w))
    unfold s_X7_calm
    rw [n63, R1 63 (by decide), ob hoursIn7]
    refine ⟨_, rfl, rl_step L F (fy_frw frw_L) (c' := cS (w 2218 0) 0) (fun j hj => ?_) (cS_hb HB1) (cS_bi B b48_0) (fun i hi => by rw [cS_o (by omega)]; exact N i hi), ?_⟩
    · show wL (wL w 1 0 8 0) 2218 0 63 0 2218 0 j = _
      rw [wL_at]
      by_cases e : j = 63
      · subst e; rw [if_pos ⟨rfl, rfl, rfl⟩, cS_63]
      · rw [if_neg (by omega), cS_o e, R1 j hj]
    · show s_J_Long_bitCount (w 1 0 8) g w = _
      rw [show w 1 0 8 = w 2218 0 63 from HB1.2.1, bitCount6 (fun k h1 _ => B.1.2.2.2.2.2 k h1)]
  exact ok_imp (ok_and (pr_calm S) key) (fun r q => ⟨⟨q.1, pl, ba, q.2.1⟩, q.2.2⟩)
theorem bn48 (B : BI c) {t : Nat} (ht : t < TN c) : BN c t &&& HH 0 48 = BN c t := tb_ext (fun k hk => by
  rw [tb_and, tb_HH (by decide) (by decide)]
  by_cases e : k < 48
  · simp [e]
  · rw [(bt B ht).2.2.2.2.2.2.2.2.2.2 k (by omega)]; rfl)
theorem mv_mend (S : ST g w) (L : RLX pl ba g w) : Ok (s_X6_mend 0 p1 g w) (fun q => Ok (s_X7_mend 0 p1 q.2.1 q.2.2) (fun r => RLX pl ba r.2.1 r.2.2 ∧ q.1 = r.1)) := by
  have B := L.2.2.1
  have h6 := tn6 B
  have HB1 : HB g w 0 (w 2218 0) := ⟨S.2.2.2.1, L.2.1⟩
  have N := L.2.2.2.1
  unfold s_X6_mend s_X6_mend_30
  by_cases h1 : IX (TN (w 2218 0)) p1
  · rw [if_pos ((gt6 HB1 B).mpr h1)]
    obtain ⟨t, ht, rfl⟩ := h1
    have r7 : TF (w 2218 0) t 7 ≤ 60 := (nf_rb (bt_j B ht (j := 7) (by decide))).2
    have F : FX g w (gI g 5 (6 * 0 + t) 7 48) w := fx_fd (fd_5 (by omega))
    have R1 := rv_fx F (rv_self (w := w))
    have eb := bn48 B ht
    have HE := hb_end (n := 0) HB1 B ht (h := 48) (Nat.le_refl _)
    have BE := bi_end (n := 0) B ht (h := 48) (Nat.le_refl _)
    have H1 : HB (gI g 5 (6 * 0 + t) 7 48) w 0 (cend (w 2218 0) t 48 0) := hb_cg HE (tn6 BE) (sn8 BE) (fun _ _ _ _ => rfl) (fun F i j _ => by
      rw [wL_at]
      by_cases e : F = 5 ∧ i = 6 * 0 + t ∧ j = 9
      · rw [if_pos e, e.1, e.2.1, e.2.2, eb]; exact (HB1.2.2.1 t ht).2.2
      · rw [if_neg e])
    have L2 : RLX pl ba (gI g 5 (6 * 0 + t) 7 48) (wL w 2218 0 (70 + 10 * t + 7) 48) := by
      refine rl_step L F (fy_frw frw_L) (fun j hj => ?_) H1 BE (cn_mk ?_ ?_ ?_ ?_)
      · rw [wL_at]
        by_cases e7 : j = 70 + 10 * t + 7
        · subst e7; rw [if_pos ⟨rfl, rfl, rfl⟩, cend_7]; rfl
        · rw [if_neg (by omega)]
          by_cases e9 : j = 70 + 10 * t + 9
          · subst e9; rw [cend_9]; exact eb.symm
          · by_cases e67 : j = 67
            · subst e67; rw [cend_67]; exact (Int64.add_zero _).symm
            · rw [cend_o e7 e9 e67]
      · rw [gI_at, if_neg (by omega), cend_o (by omega) (by omega) (by omega)]; exact N 0 (by decide)
      · rw [gI_at, if_neg (by omega), cend_67, show (w 2218 0 67 + (I 0).toInt64) = w 2218 0 67 from Int64.add_zero _]; exact N 1 (by decide)
      · rw [gI_at, if_neg (by omega), cend_o (by omega) (by omega) (by omega)]; exact N 2 (by decide)
      · rw [gI_at, if_neg (by omega), cend_o (by omega) (by omega) (by omega)]; exact N 3 (by decide)
    have X7 : s_X7_mend 0 (I t) (gI g 5 (6 * 0 + t) 7 48) w = if I (TF (w 2218 0) t 7) ≠ 48 then some (bI true, gI g 5 (6 * 0 + t) 7 48, wL w 2218 0 (70 + 10 * t + 7) 48) else some (bI false, gI g 5 (6 * 0 + t) 7 48, wL w 2218 0 (70 + 10 * t + 7) 48) := by
      unfold s_X7_mend s_X7_mend_27
      rw [if_pos ((gt7 R1 B).mpr ⟨t, ht, rfl⟩), ob (show s_X7_ofTug 0 (I t) 7 _ w = _ from r_tug R1 B ht (j := 7) (by decide)), if_pos (iw7 (t := t) (by omega)).1, if_pos (iw7 (t := t) (by omega)).1, (iw7 (t := t) (by omega)).2]
    rw [if_pos (inR_I (k := t) (n := 6) (by omega) (by decide)), I_tn (by omega)]
    unfold s_X5_makeWhole s_X5_makeWhole_14
    rw [c_tug HB1 B ht (j := 7) (by decide)]
    by_cases e : I (TF (w 2218 0) t 7) = 48
    · rw [if_pos e, if_neg (show ¬ (false = true) by decide)]
      refine ok_some ?_
      show Ok (s_X7_mend 0 (I t) (gI g 5 (6 * 0 + t) 7 48) w) (fun r => RLX pl ba r.2.1 r.2.2 ∧ bI false = r.1)
      rw [X7, if_neg (fun q => q e)]
      exact ⟨_, rfl, L2, rfl⟩
    · rw [if_neg e, if_pos (show true = true from rfl)]
      refine ok_some ?_
      show Ok (s_X7_mend 0 (I t) (gI g 5 (6 * 0 + t) 7 48) w) (fun r => RLX pl ba r.2.1 r.2.2 ∧ bI true = r.1)
      rw [X7, if_pos e]
      exact ⟨_, rfl, L2, rfl⟩
  · rw [if_neg (fun q => h1 ((gt6 HB1 B).mp q))]
    refine ok_some ?_
    show Ok (s_X7_mend 0 p1 g w) _
    unfold s_X7_mend
    rw [if_neg (fun q => h1 ((gt7 rv_self B).mp q))]
    exact ⟨_, rfl, L, rfl⟩
theorem re_mend (H : REL g w) : Ok (s_X6_mend 0 p1 g w) (fun q => Ok (s_X7_mend 0 p1 q.2.1 q.2.2) (fun r => REL r.2.1 r.2.2 ∧ q.1 = r.1)) := by
  obtain ⟨S, pl, ba, L⟩ := H
  exact rel_join (pr_mend S) (mv_mend S L)
/-- bunkers -/
def cbk (c : Nat → Int64) (t h : Nat) : Nat → Int64 := fun k => if k = 70 + 10 * t + 9 then c k ||| J (2 ^ h) else c k
theorem cbk_o {t h k : Nat} (hk : k ≠ 70 + 10 * t + 9) : cbk c t h k = c k := if_neg hk
theorem cbk_9 {t h : Nat} : cbk c t h (70 + 10 * t + 9) = c (70 + 10 * t + 9) ||| J (2 ^ h) := if_pos rfl
theorem cbk_same {t h : Nat} (ht : t < 6) : SAME c (cbk c t h) := fun k q => cbk_o (by unfold jk at q; omega)
theorem bit48 {h : Nat} (hh : h < 48) : b48 (J (2 ^ h)) := fun k hk => by rw [bit1 (by omega)]; exact decide_eq_false (by omega)
theorem bi_bk (B : BI c) {t h : Nat} (ht : t < TN c) (hh : h < 48) : BI (cbk c t h) := by
  have e6 := tn6 B
  have sf : ∀ s j, j < 11 → SF (cbk c t h) s j = SF c s j := fun s j hj => ag_nf (cbk_o (by omega))
  have hr : ∀ s, HR (cbk c t h) s = HR c s := fun s => by unfold HR; rw [cbk_o (by omega)]
  have oj : ∀ s', (JOB (cbk c t h) s' ↔ JOB c s') := fun s' => by unfold JOB; rw [hr]
  refine bi_mk B (cbk_same (by omega)) ?_ (fun i hi => ⟨?_, ?_, ?_⟩) (fun s hs => ?_) (fun s hs hJ i hi hbi k k1 k2 => ?_) (fun s1 s2 q1 q2 hne j1 j2 i hi b1 b2 => ?_)
  · rw [cbk_o (by omega)]; exact B.1.2.2.2.2.2
  · unfold rb; rw [cbk_o (by omega)]; exact (bt B hi).2.2.2.2.2.2.2.1
  · show b48 (cbk c t h (70 + 10 * i + 8)); rw [cbk_o (by omega)]; exact wk48 B hi
  · have b := (bt B hi).2.2.2.2.2.2.2.2.2.2
    by_cases e : i = t
    · subst e
      show b48 (cbk c i h (70 + 10 * i + 9))
      rw [cbk_9]; exact or48 b (bit48 hh)
    · show b48 (cbk c t h (70 + 10 * i + 9))
      rw [cbk_o (by omega)]; exact b
  · rw [sf s 8 (by decide), hr]; unfold rb; rw [cbk_o (by omega)]; exact (bs B hs).2.2.2.2.2.2.2
  · rw [sf s 8 (by decide)] at hbi
    rw [sf s 7 (by decide)] at k1 k2
    show tb (cbk c t h (70 + 10 * i + 8)) k = true
    rw [cbk_o (by omega)]
    exact B.2.2.2.2.2.1 s hs ((oj s).mp hJ) i hi hbi k k1 k2
  · rw [sf s1 8 (by decide)] at b1
    rw [sf s2 8 (by decide)] at b2
    rw [sf s1 7 (by decide), sf s2 7 (by decide)]
    exact B.2.2.2.2.2.2 s1 s2 q1 q2 hne ((oj s1).mp j1) ((oj s2).mp j2) i hi b1 b2
theorem hb_bk (H : HB g w hb c) (B : BI c) {t h : Nat} (ht : t < TN c) : HB g (wL w 5 (6 * hb + t) 9 (w 5 (6 * hb + t) 9 ||| J (2 ^ h))) hb (cbk c t h) := by
  have e6 := tn6 B
  have e8 := sn8 B
  have S := cbk_same (c := c) (t := t) (h := h) (by omega)
  refine ⟨⟨fun x hx => ?_, fun x hx => ?_, fun j hj => ?_, fun j hj => ?_, fun t' ht' j hj => ?_, fun s' hs' j hj => ?_⟩, ?_, fun t' ht' => ⟨?_, ?_, ?_⟩, fun t' q1 q2 => ?_, fun s' hs' => ⟨?_, ?_⟩, fun s' q1 q2 => ?_⟩
  · rw [cbk_o (by omega)]; exact H.1.1 x hx
  · rw [cbk_o (by omega)]; exact H.1.2.1 x hx
  · rw [cbk_o (by omega)]; exact H.1.2.2.1 j hj
  · rw [cbk_o (by omega)]; exact H.1.2.2.2.1 j hj
  · rw [cbk_o (by omega)]; exact H.1.2.2.2.2.1 t' ht' j hj
  · rw [cbk_o (by omega)]; exact H.1.2.2.2.2.2 s' hs' j hj
  · rw [cbk_o (by omega), wL_at, if_neg (by omega)]; exact H.2.1
  · rw [same_tn S] at ht'
    rw [show TF (cbk c t h) t' 7 = TF c t' 7 from ag_nf (cbk_o (by omega))]
    exact (H.2.2.1 t' ht').1
  · rw [same_tn S] at ht'
    rw [wL_at, if_neg (by omega), (H.2.2.1 t' ht').2.1]
    exact (cbk_o (k := 70 + 10 * t' + 8) (by omega)).symm
  · rw [same_tn S] at ht'
    by_cases e : t' = t
    · subst e
      rw [wL_at, if_pos ⟨rfl, rfl, rfl⟩, (H.2.2.1 t' ht').2.2]
      exact cbk_9.symm
    · rw [wL_at, if_neg (by omega), (H.2.2.1 t' ht').2.2]
      exact (cbk_o (k := 70 + 10 * t' + 9) (by omega)).symm
  · rw [same_tn S] at q1
    rw [wL_at, if_neg (by omega)]
    exact H.2.2.2.1 t' q1 q2
  · rw [same_sn S] at hs'
    rw [show HR (cbk c t h) s' = HR c s' from by unfold HR; rw [cbk_o (by omega)]]
    exact (H.2.2.2.2.1 s' hs').1
  · rw [same_sn S] at hs'
    rw [show SF (cbk c t h) s' 8 = SF c s' 8 from ag_nf (cbk_o (by omega))]
    exact (H.2.2.2.2.1 s' hs').2
  · rw [same_sn S] at q1
    exact H.2.2.2.2.2 s' q1 q2
theorem bit_0 {x : Int64} {h : Nat} (hh : h < 64) : x &&& J (2 ^ h) = 0 ↔ tb x h = false := by
  rw [and_0]
  constructor
  · intro q
    cases e : tb x h with
    | false => rfl
    | true => exact (q h hh e (by rw [bit1 hh]; exact decide_eq_true rfl)).elim
  · intro q k hk a b
    rw [bit1 hh] at b
    have := of_decide_eq_true b
    subst this
    rw [q] at a
    cases a
theorem mv_bunker (S : ST g w) (L : RLX pl ba g w) : Ok (s_X6_bunker 0 p1 p2 g w) (fun q => Ok (s_X7_bunker 0 p1 p2 q.2.1 q.2.2) (fun r => RLX pl ba r.2.1 r.2.2)) := by
  have B := L.2.2.1
  have h6 := tn6 B
  have HB1 : HB g w 0 (w 2218 0) := ⟨S.2.2.2.1, L.2.1⟩
  have N := L.2.2.2.1
  unfold s_X6_bunker s_X6_bunker_15 s_X6_bunker_64
  by_cases h1 : IX (TN (w 2218 0)) p1
  · rw [if_pos ((gt6 HB1 B).mpr h1)]
    by_cases h2 : IX 48 p2
    · rw [if_pos (gh6.mpr h2)]
      obtain ⟨t, ht, rfl⟩ := h1
      obtain ⟨h, hh, rfl⟩ := h2
      have r7 : TF (w 2218 0) t 7 ≤ 60 := (nf_rb (bt_j B ht (j := 7) (by decide))).2
      have no : (tb (WK (w 2218 0) t) h = true ∨ tb (BN (w 2218 0) t) h = true ∨ TF (w 2218 0) t 7 ≤ h ∨ tb (w 2218 0 63) h = true) → Ok (some ((-2 : Int32), g, w)) (fun q => Ok (s_X7_bunker 0 (I t) (I h) q.2.1 q.2.2) (fun r => RLX pl ba r.2.1 r.2.2)) := fun hn => by
        refine ok_some ?_
        show Ok (s_X7_bunker 0 (I t) (I h) g w) _
        unfold s_X7_bunker s_X7_bunker_66
        rw [if_pos ((gt7 rv_self B).mpr ⟨t, ht, rfl⟩), if_pos (gh7.mpr ⟨h, hh, rfl⟩), ob (r_work rv_self B ht), ob (r_bunk rv_self B ht), ob (show s_X7_ofTug 0 (I t) 7 g w = _ from r_tug rv_self B ht (j := 7) (by decide)), has7 _ (by omega), has7 _ (by omega), n63, has7 _ (by omega)]
        refine ok_ite (fun _ => ⟨_, rfl, L⟩) (fun q1 => ok_ite (fun _ => ⟨_, rfl, L⟩) (fun q2 => ok_ite (fun _ => ⟨_, rfl, L⟩) (fun q3 => ok_ite (fun _ => ⟨_, rfl, L⟩) (fun q4 => ?_))))
        rcases hn with q | q | q | q
        · exact absurd q q1
        · exact absurd q q2
        · exact absurd (ile q (by omega)) q3
        · exact absurd q q4
      have fr := free6 HB1 ht (J (2 ^ h))
      rw [bit_0 (by omega), tb_or] at fr
      have e63 : w 1 0 8 = w 2218 0 63 := HB1.2.1
      rw [if_pos (inR_I (k := t) (n := 6) (by omega) (by decide)), I_tn (by omega), shl_1 (by omega), e63]
      by_cases c1 : (tb (WK (w 2218 0) t) h || tb (BN (w 2218 0) t) h) = false
      · rw [if_pos (fr.mpr c1)]
        by_cases c2 : TF (w 2218 0) t 7 ≤ h
        · rw [if_pos ((broken6 HB1 B ht (by omega)).mpr c2)]
          exact no (Or.inr (Or.inr (Or.inl c2)))
        · rw [if_neg (fun q => c2 ((broken6 HB1 B ht (by omega)).mp q))]
          have z := (lg0 (w 2218 0 63 &&& J (2 ^ h))).trans (bit_0 (by omega))
          by_cases c3 : tb (w 2218 0 63) h = false
          · rw [if_pos (z.mpr c3)]
            obtain ⟨v, e1, _⟩ := a_X5_fuelBehind (hb := 6 * 0 + t) (p1 := 47) (g := g) (w := wL w 5 (6 * 0 + t) 9 (w 5 (6 * 0 + t) 9 ||| J (2 ^ h)))
            rw [ob e1]
            refine ok_some ?_
            have F : FX g w g (wL w 5 (6 * 0 + t) 9 (w 5 (6 * 0 + t) 9 ||| J (2 ^ h))) := fx_fd (fd_wL (by omega))
            have R1 := rv_fx F (rv_self (w := w))
            show Ok (s_X7_bunker 0 (I t) (I h) g (wL w 5 (6 * 0 + t) 9 (w 5 (6 * 0 + t) 9 ||| J (2 ^ h)))) _
            have f1 := Bool.or_eq_false_iff.mp c1
            unfold s_X7_bunker
            rw [if_pos ((gt7 R1 B).mpr ⟨t, ht, rfl⟩), if_pos (gh7.mpr ⟨h, hh, rfl⟩), ob (r_work R1 B ht), ob (r_bunk R1 B ht), ob (show s_X7_ofTug 0 (I t) 7 g _ = _ from r_tug R1 B ht (j := 7) (by decide)), has7 _ (by omega), has7 _ (by omega), n63, R1 63 (by decide), has7 _ (by omega)]
            rw [if_neg (fun q => by rw [f1.1] at q; cases q), if_neg (fun q => by rw [f1.2] at q; cases q), if_neg (nle (by omega) (by omega)), if_neg (fun q => by rw [c3] at q; cases q), if_pos (iw9 (t := t) (by omega)).1, if_pos (iw9 (t := t) (by omega)).1, (iw9 (t := t) (by omega)).2, shl_1 (by omega), ob (workOf_e (show t < 6 by omega))]
            obtain ⟨v2, e2, _⟩ := a_X7_fuelBehind (t := t) (by omega) (p2 := (wL (wL w 5 (6 * 0 + t) 9 (w 5 (6 * 0 + t) 9 ||| J (2 ^ h))) 2218 0 (70 + 10 * t + 9) ((wL w 5 (6 * 0 + t) 9 (w 5 (6 * 0 + t) 9 ||| J (2 ^ h))) 2218 0 (70 + 10 * t + 9) ||| J (2 ^ h))) 2218 0 (70 + 10 * t + 8)) (p4 := 47) (by decide) (g := g) (w := wL (wL w 5 (6 * 0 + t) 9 (w 5 (6 * 0 + t) 9 ||| J (2 ^ h))) 2218 0 (70 + 10 * t + 9) ((wL w 5 (6 * 0 + t) 9 (w 5 (6 * 0 + t) 9 ||| J (2 ^ h))) 2218 0 (70 + 10 * t + 9) ||| J (2 ^ h)))
            rw [ob e2]
            refine ⟨_, rfl, rl_step L F (fy_frw frw_L) (c' := cbk (w 2218 0) t h) (fun j hj => ?_) (hb_bk HB1 B ht) (bi_bk B ht hh) (fun i hi => by rw [cbk_o (by omega)]; exact N i hi)⟩
            show wL _ 2218 0 (70 + 10 * t + 9) _ 2218 0 j = _
            rw [wL_at]
            by_cases e : j = 70 + 10 * t + 9
            · subst e; rw [if_pos ⟨rfl, rfl, rfl⟩, cbk_9, R1 _ (by omega)]
            · rw [if_neg (by omega), cbk_o e, R1 j hj]
          · rw [if_neg (fun q => c3 (z.mp q))]
            exact no (Or.inr (Or.inr (Or.inr (by cases e : tb (w 2218 0 63) h with | false => exact absurd e c3 | true => rfl))))
      · rw [if_neg (fun q => c1 (fr.mp q))]
        refine no ?_
        cases e1 : tb (WK (w 2218 0) t) h with
        | true => exact Or.inl rfl
        | false =>
          cases e2 : tb (BN (w 2218 0) t) h with
          | true => exact Or.inr (Or.inl rfl)
          | false => exact absurd (by rw [e1, e2]; rfl) c1
    · rw [if_neg (fun q => h2 (gh6.mp q))]
      refine ok_some ?_
      show Ok (s_X7_bunker 0 p1 p2 g w) _
      unfold s_X7_bunker s_X7_bunker_15
      rw [if_pos ((gt7 rv_self B).mpr h1), if_neg (fun q => h2 (gh7.mp q))]
      exact ⟨_, rfl, L⟩
  · rw [if_neg (fun q => h1 ((gt6 HB1 B).mp q))]
    refine ok_some ?_
    show Ok (s_X7_bunker 0 p1 p2 g w) _
    unfold s_X7_bunker s_X7_bunker_15
    rw [if_neg (fun q => h1 ((gt7 rv_self B).mp q))]
    exact ⟨_, rfl, L⟩
theorem re_bunker (H : REL g w) : Ok (s_X6_bunker 0 p1 p2 g w) (fun q => Ok (s_X7_bunker 0 p1 p2 q.2.1 q.2.2) (fun r => REL r.2.1 r.2.2)) := by
  obtain ⟨S, pl, ba, L⟩ := H
  exact ok_imp (ok2_and (pr_bunker S) (mv_bunker S L)) (fun _ h => ok_imp h (fun _ q => ⟨q.1, pl, ba, q.2⟩))
end
