/-! a tug comes: both sides -/
section
variable {g : Nat → Nat → Nat → Int32} {w : Nat → Nat → Nat → Int64} {p1 p2 p3 p4 p5 p6 p7 : Int32}
theorem st_tug (h : ST g w) {a : Nat} (ha : a < 6) {g2 : Nat → Nat → Nat → Int32} {w2 : Nat → Nat → Nat → Int64} {v : Nat → Int32}
    (hg : ∀ F i j, ¬ (F = 5 ∧ i = a ∧ j < 8) → ¬ (F = 1 ∧ i = 0 ∧ j = 9) → g2 F i j = g F i j) (hgv : ∀ j, j < 7 → g2 5 a j = v j) (hg9 : g2 1 0 9 = I (a + 1))
    (hw : ∀ F i j, F ≠ 5 → ¬ (F = 2218 ∧ i = 0 ∧ (j = 64 ∨ (70 + 10 * a ≤ j ∧ j < 70 + 10 * a + 10))) → w2 F i j = w F i j)
    (hwv : ∀ j, j < 7 → w2 2218 0 (70 + 10 * a + j) = (v j).toInt64) (hwc : w2 2218 0 64 = (I (a + 1)).toInt64) (hv5 : 0 ≤ (v 5).toInt ∧ (v 5).toInt ≤ 12) (hv6 : 0 ≤ (v 6).toInt ∧ (v 6).toInt ≤ 5) : ST g2 w2 := by
  obtain ⟨h1, h2, h3, hb, h5, h6, h7, h8⟩ := h
  have t0 := td0
  have hsm : ∀ {x : Int32} {m : Int}, 0 ≤ x.toInt ∧ x.toInt ≤ m → 0 ≤ x.toInt64.toInt ∧ x.toInt64.toInt ≤ m := by
    intro x m q; rw [Int32.toInt_toInt64]; exact q
  refine ⟨?_, ?_, ?_, ?_, ?_, ?_, ?_, ?_⟩
  · intro F i j
    by_cases q1 : F = 5 ∧ i = a ∧ j < 8
    · obtain ⟨rfl, rfl, hj⟩ := q1
      by_cases e5 : j = 5
      · subst e5; rw [hgv 5 (by decide)]; exact hv5
      · rw [show gk 5 j = 0 from by unfold gk; rw [if_neg (by decide), if_neg (by decide), if_pos rfl, if_neg e5]]
        exact rgg_0 _
    · by_cases q2 : F = 1 ∧ i = 0 ∧ j = 9
      · obtain ⟨rfl, rfl, rfl⟩ := q2; exact rgg_0 _
      · rw [hg F i j q1 q2]; exact h1 F i j
  · intro F i j
    by_cases qF : F = 5
    · subst qF; rw [wk_free (by decide) (by decide)]; exact rgw_0 _
    by_cases q1 : F = 2218 ∧ i = 0 ∧ (j = 64 ∨ (70 + 10 * a ≤ j ∧ j < 70 + 10 * a + 10))
    · obtain ⟨rfl, rfl, q⟩ := q1
      show rgw (kd j) _
      rcases q with rfl | ⟨q1, q2⟩
      · rw [hwc]
        show (0 : Int) ≤ _ ∧ _ ≤ (6 : Int)
        rw [I64 (by omega)]; omega
      · obtain ⟨k, rfl⟩ : ∃ k, j = 70 + 10 * a + k := ⟨j - (70 + 10 * a), by omega⟩
        have hk : k < 10 := by omega
        rw [kd_tu ha hk]
        by_cases e5 : k = 5
        · subst e5; rw [hwv 5 (by decide)]; exact hsm hv5
        · by_cases e6 : k = 6
          · subst e6; rw [hwv 6 (by decide)]; exact hsm hv6
          · rw [if_neg e5, if_neg e6]; exact rgw_0 _
    · rw [hw F i j qF q1]; exact h2 F i j
  · intro i hi k hk
    rw [hg 7 0 2 (by omega) (by omega)] at hi
    rw [hw _ _ _ (by decide) (by omega)]
    exact h3 i hi k hk
  · refine ⟨fun x hx => ?_, fun x hx => ?_, fun j hj => ?_, fun j hj => ?_, fun t ht j hj => ?_, fun s hs j hj => ?_⟩
    · rw [hw _ _ _ (by decide) (by omega), hg _ _ _ (by omega) (by omega)]; exact hb.1 x hx
    · rw [hw _ _ _ (by decide) (by omega), hg _ _ _ (by omega) (by omega)]; exact hb.2.1 x hx
    · rw [hw _ _ _ (by decide) (by omega), hg _ _ _ (by omega) (by omega)]; exact hb.2.2.1 j hj
    · by_cases e : j = 64 - 64
      · subst e; exact hwc.trans (congrArg Int32.toInt64 hg9.symm)
      · rw [hw _ _ _ (by decide) (by omega), hg _ _ _ (by omega) (by omega)]; exact hb.2.2.2.1 j hj
    · by_cases e : t = a
      · subst e
        rw [hwv j hj, show 6 * 0 + t = t by omega, hgv j hj]
      · rw [hw _ _ _ (by decide) (by omega), hg _ _ _ (by omega) (by omega)]; exact hb.2.2.2.2.1 t ht j hj
    · rw [hw _ _ _ (by decide) (by omega), hg _ _ _ (by omega) (by omega)]; exact hb.2.2.2.2.2 s hs j hj
  · rw [hg 6 0 5 (by omega) (by omega), hg 7 0 2 (by omega) (by omega)]; exact h5
  · intro i hi
    rw [hg 7 0 2 (by omega) (by omega)] at hi
    have q := h6 i hi
    have e2 := td2 i
    refine ⟨fun x hx => ?_, fun x hx => ?_, fun j hj => ?_, fun j hj => ?_, fun t ht j hj => ?_, fun s hs j hj => ?_⟩
    · dsimp only; rw [hw _ _ _ (by decide) (by omega), hg _ _ _ (by omega) (by omega)]; exact q.1 x hx
    · dsimp only; rw [hw _ _ _ (by decide) (by omega), hg _ _ _ (by omega) (by omega)]; exact q.2.1 x hx
    · dsimp only; rw [hw _ _ _ (by decide) (by omega), hg _ _ _ (by omega) (by omega)]; exact q.2.2.1 j hj
    · dsimp only; rw [hw _ _ _ (by decide) (by omega), hg _ _ _ (by omega) (by omega)]; exact q.2.2.2.1 j hj
    · dsimp only; rw [hw _ _ _ (by decide) (by omega), hg _ _ _ (by omega) (by omega)]; exact q.2.2.2.2.1 t ht j hj
    · dsimp only; rw [hw _ _ _ (by decide) (by omega), hg _ _ _ (by omega) (by omega)]; exact q.2.2.2.2.2 s hs j hj
  · rw [hg 3 0 4 (by omega) (by omega), hg 7 0 5 (by omega) (by omega)]; exact h7
  · intro r hr j hj
    rw [hg _ _ _ (by omega) (by omega), hg _ _ _ (by omega) (by omega)]; exact h8 r hr j hj
def tugg (a : Nat) (p1 p2 p3 p4 p5 p6 p7 : Int32) (g : Nat → Nat → Nat → Int32) : Nat → Nat → Nat → Int32 := gI (gI (gI (gI (gI (gI (gI (gI (gI g 5 a 0 p1) 5 a 1 p2) 5 a 2 p3) 5 a 3 p4) 5 a 4 p5) 5 a 5 p6) 5 a 6 p7) 5 a 7 (48 : Int32)) 1 0 9 (I (a + 1))
def tugw (a : Nat) (w : Nat → Nat → Nat → Int64) : Nat → Nat → Nat → Int64 := (wL (wL w 5 a 8 (0 : Int64)) 5 a 9 (0 : Int64))
def tugv (p1 p2 p3 p4 p5 p6 p7 : Int32) (j : Nat) : Int32 := if j = 0 then p1 else if j = 1 then p2 else if j = 2 then p3 else if j = 3 then p4 else if j = 4 then p5 else if j = 5 then p6 else p7
def tugl (a : Nat) (p1 p2 p3 p4 p5 p6 p7 : Int32) (w : Nat → Nat → Nat → Int64) : Nat → Nat → Nat → Int64 := wL (wL (wL (wL (wL (wL (wL (wL (wL (wL (wL w 2218 0 (70 + 10 * a + 0) p1.toInt64) 2218 0 (70 + 10 * a + 1) p2.toInt64) 2218 0 (70 + 10 * a + 2) p3.toInt64) 2218 0 (70 + 10 * a + 3) p4.toInt64) 2218 0 (70 + 10 * a + 4) p5.toInt64) 2218 0 (70 + 10 * a + 5) p6.toInt64) 2218 0 (70 + 10 * a + 6) p7.toInt64) 2218 0 (70 + 10 * a + 7) (48 : Int64)) 2218 0 (70 + 10 * a + 8) (0 : Int64)) 2218 0 (70 + 10 * a + 9) (0 : Int64)) 2218 0 64 (I (a + 1)).toInt64
theorem tugg_o {a F i j : Nat} (h1 : ¬ (F = 5 ∧ i = a ∧ j < 8)) (h2 : ¬ (F = 1 ∧ i = 0 ∧ j = 9)) : tugg a p1 p2 p3 p4 p5 p6 p7 g F i j = g F i j := by
  unfold tugg
  simp only [gI_at]
  rw [if_neg (by omega)]; rw [if_neg (by omega)]; rw [if_neg (by omega)]; rw [if_neg (by omega)]; rw [if_neg (by omega)]; rw [if_neg (by omega)]; rw [if_neg (by omega)]; rw [if_neg (by omega)]; rw [if_neg (by omega)]
theorem tugg_v {a j : Nat} (hj : j < 7) : tugg a p1 p2 p3 p4 p5 p6 p7 g 5 a j = tugv p1 p2 p3 p4 p5 p6 p7 j := by
  have : j = 0 ∨ j = 1 ∨ j = 2 ∨ j = 3 ∨ j = 4 ∨ j = 5 ∨ j = 6 := by omega
  unfold tugg tugv
  simp only [gI_at]
  rcases this with rfl | rfl | rfl | rfl | rfl | rfl | rfl <;> simp
theorem tugl_o {a F i j : Nat} (h : ¬ (F = 2218 ∧ i = 0 ∧ (j = 64 ∨ (70 + 10 * a ≤ j ∧ j < 70 + 10 * a + 10)))) : tugl a p1 p2 p3 p4 p5 p6 p7 w F i j = w F i j := by
  unfold tugl
  simp only [wL_at]
  rw [if_neg (by omega)]; rw [if_neg (by omega)]; rw [if_neg (by omega)]; rw [if_neg (by omega)]; rw [if_neg (by omega)]; rw [if_neg (by omega)]; rw [if_neg (by omega)]; rw [if_neg (by omega)]; rw [if_neg (by omega)]; rw [if_neg (by omega)]; rw [if_neg (by omega)]
theorem tugl_v {a j : Nat} (hj : j < 7) : tugl a p1 p2 p3 p4 p5 p6 p7 w 2218 0 (70 + 10 * a + j) = (tugv p1 p2 p3 p4 p5 p6 p7 j).toInt64 := by
  unfold tugl tugv
  simp only [wL_at]
  rw [if_neg (by omega)]
  have : j = 0 ∨ j = 1 ∨ j = 2 ∨ j = 3 ∨ j = 4 ∨ j = 5 ∨ j = 6 := by omega
  rcases this with rfl | rfl | rfl | rfl | rfl | rfl | rfl <;> simp
theorem tugw_o {a F i j : Nat} (h : F ≠ 5) : tugw a w F i j = w F i j := by
  unfold tugw
  rw [wL_at, if_neg (by omega), wL_at, if_neg (by omega)]
theorem tug6_e {a : Nat} (ea : g 1 0 9 = I a) (ha : a < 6) (c0 : ((0 : Int32) ≤ p1 ∧ p1 ≤ 1)) (c1 : ((1 : Int32) ≤ p2 ∧ p2 ≤ 60)) (c2 : ((0 : Int32) ≤ p3 ∧ p3 ≤ 1)) (c3 : ((1 : Int32) ≤ p5 ∧ p5 ≤ 48)) (c4 : ((0 : Int32) ≤ p4 ∧ p4 ≤ p5)) (c5 : ((1 : Int32) ≤ p6 ∧ p6 ≤ 12)) (c6 : ((0 : Int32) ≤ p7 ∧ p7 ≤ 5)) : s_X6_tug 0 p1 p2 p3 p4 p5 p6 p7 g w = some (I a, tugg a p1 p2 p3 p4 p5 p6 p7 g, tugw a w) := by
  unfold s_X6_tug
  have hr : inR (I a) 6 = true := inR_I ha (by decide)
  have hc : (0 : Int32) ≤ I a ∧ I a ≤ 5 := ⟨(I_le (a := 0) (b := a) (by decide) (by omega)).mpr (by omega), (I_le (a := a) (b := 5) (by omega) (by decide)).mpr (by omega)⟩
  simp only [within_eq, isHour6, isBerth6, ea, decide_eq_true_eq, if_pos hc, if_pos hr, if_pos c0, if_pos c1, if_pos c2, if_pos c3, if_pos c4, if_pos c5, if_pos c6, I_suc, I_tn (show a < 2147483648 by omega), show 6 * 0 + a = a by omega]
  rfl
theorem tug6_full {a : Nat} (ea : g 1 0 9 = I 6) (c0 : ((0 : Int32) ≤ p1 ∧ p1 ≤ 1)) (c1 : ((1 : Int32) ≤ p2 ∧ p2 ≤ 60)) (c2 : ((0 : Int32) ≤ p3 ∧ p3 ≤ 1)) (c3 : ((1 : Int32) ≤ p5 ∧ p5 ≤ 48)) (c4 : ((0 : Int32) ≤ p4 ∧ p4 ≤ p5)) (c5 : ((1 : Int32) ≤ p6 ∧ p6 ≤ 12)) (c6 : ((0 : Int32) ≤ p7 ∧ p7 ≤ 5)) : s_X6_tug 0 p1 p2 p3 p4 p5 p6 p7 g w = some (-3, g, w) := by
  unfold s_X6_tug
  have hc : ¬ ((0 : Int32) ≤ I 6 ∧ I 6 ≤ 5) := by decide
  simp only [within_eq, isHour6, isBerth6, ea, decide_eq_true_eq, if_neg hc, if_pos c0, if_pos c1, if_pos c2, if_pos c3, if_pos c4, if_pos c5, if_pos c6]
theorem tug6_bad (hc : ¬ (((0 : Int32) ≤ p1 ∧ p1 ≤ 1) ∧ ((1 : Int32) ≤ p2 ∧ p2 ≤ 60) ∧ ((0 : Int32) ≤ p3 ∧ p3 ≤ 1) ∧ ((1 : Int32) ≤ p5 ∧ p5 ≤ 48) ∧ ((0 : Int32) ≤ p4 ∧ p4 ≤ p5) ∧ ((1 : Int32) ≤ p6 ∧ p6 ≤ 12) ∧ ((0 : Int32) ≤ p7 ∧ p7 ≤ 5))) : s_X6_tug 0 p1 p2 p3 p4 p5 p6 p7 g w = some (-1, g, w) := by
  unfold s_X6_tug s_X6_tug_69
  simp only [within_eq, isHour6, isBerth6, decide_eq_true_eq]
  by_cases c0 : ((0 : Int32) ≤ p1 ∧ p1 ≤ 1)
  case neg => rw [if_neg c0]
  rw [if_pos c0]
  by_cases c1 : ((1 : Int32) ≤ p2 ∧ p2 ≤ 60)
  case neg => rw [if_neg c1]
  rw [if_pos c1]
  by_cases c2 : ((0 : Int32) ≤ p3 ∧ p3 ≤ 1)
  case neg => rw [if_neg c2]
  rw [if_pos c2]
  by_cases c3 : ((1 : Int32) ≤ p5 ∧ p5 ≤ 48)
  case neg => rw [if_neg c3]
  rw [if_pos c3]
  by_cases c4 : ((0 : Int32) ≤ p4 ∧ p4 ≤ p5)
  case neg => rw [if_neg c4]
  rw [if_pos c4]
  by_cases c5 : ((1 : Int32) ≤ p6 ∧ p6 ≤ 12)
  case neg => rw [if_neg c5]
  rw [if_pos c5]
  by_cases c6 : ((0 : Int32) ≤ p7 ∧ p7 ≤ 5)
  case neg => rw [if_neg c6]
  rw [if_pos c6]
  exact absurd ⟨c0, c1, c2, c3, c4, c5, c6⟩ hc
theorem tug7_e {a : Nat} (ea : w 2218 0 64 = (I a).toInt64) (ha : a < 6) (c0 : ((0 : Int32) ≤ p1 ∧ p1 ≤ 1)) (c1 : ((1 : Int32) ≤ p2 ∧ p2 ≤ 60)) (c2 : ((0 : Int32) ≤ p3 ∧ p3 ≤ 1)) (c3 : ((1 : Int32) ≤ p5 ∧ p5 ≤ 48)) (c4 : ((0 : Int32) ≤ p4 ∧ p4 ≤ p5)) (c5 : ((1 : Int32) ≤ p6 ∧ p6 ≤ 12)) (c6 : ((0 : Int32) ≤ p7 ∧ p7 ≤ 5)) : s_X7_tug 0 p1 p2 p3 p4 p5 p6 p7 g w = some (I a, g, tugl a p1 p2 p3 p4 p5 p6 p7 w) := by
  unfold s_X7_tug
  have e0 : (64 : Int32).toNatClampNeg = 64 := rfl
  have ei : (w 2218 0 64).toInt32 = I a := by rw [ea, t6432]
  have x0 : (((70 : Int32) + ((10 : Int32) * I a)) + (0 : Int32)).toNatClampNeg = 70 + 10 * a + 0 := (congrArg Int32.toNatClampNeg (ix_tug (j := 0))).trans (I_tn (by omega))
  have r0 : inR (((70 : Int32) + ((10 : Int32) * I a)) + (0 : Int32)) 218 = true := (congrArg (fun z => inR z 218) (ix_tug (j := 0))).trans (inR_I (by omega) (by decide))
  have x1 : (((70 : Int32) + ((10 : Int32) * I a)) + (1 : Int32)).toNatClampNeg = 70 + 10 * a + 1 := (congrArg Int32.toNatClampNeg (ix_tug (j := 1))).trans (I_tn (by omega))
  have r1 : inR (((70 : Int32) + ((10 : Int32) * I a)) + (1 : Int32)) 218 = true := (congrArg (fun z => inR z 218) (ix_tug (j := 1))).trans (inR_I (by omega) (by decide))
  have x2 : (((70 : Int32) + ((10 : Int32) * I a)) + (2 : Int32)).toNatClampNeg = 70 + 10 * a + 2 := (congrArg Int32.toNatClampNeg (ix_tug (j := 2))).trans (I_tn (by omega))
  have r2 : inR (((70 : Int32) + ((10 : Int32) * I a)) + (2 : Int32)) 218 = true := (congrArg (fun z => inR z 218) (ix_tug (j := 2))).trans (inR_I (by omega) (by decide))
  have x3 : (((70 : Int32) + ((10 : Int32) * I a)) + (3 : Int32)).toNatClampNeg = 70 + 10 * a + 3 := (congrArg Int32.toNatClampNeg (ix_tug (j := 3))).trans (I_tn (by omega))
  have r3 : inR (((70 : Int32) + ((10 : Int32) * I a)) + (3 : Int32)) 218 = true := (congrArg (fun z => inR z 218) (ix_tug (j := 3))).trans (inR_I (by omega) (by decide))
  have x4 : (((70 : Int32) + ((10 : Int32) * I a)) + (4 : Int32)).toNatClampNeg = 70 + 10 * a + 4 := (congrArg Int32.toNatClampNeg (ix_tug (j := 4))).trans (I_tn (by omega))
  have r4 : inR (((70 : Int32) + ((10 : Int32) * I a)) + (4 : Int32)) 218 = true := (congrArg (fun z => inR z 218) (ix_tug (j := 4))).trans (inR_I (by omega) (by decide))
  have x5 : (((70 : Int32) + ((10 : Int32) * I a)) + (5 : Int32)).toNatClampNeg = 70 + 10 * a + 5 := (congrArg Int32.toNatClampNeg (ix_tug (j := 5))).trans (I_tn (by omega))
  have r5 : inR (((70 : Int32) + ((10 : Int32) * I a)) + (5 : Int32)) 218 = true := (congrArg (fun z => inR z 218) (ix_tug (j := 5))).trans (inR_I (by omega) (by decide))
  have x6 : (((70 : Int32) + ((10 : Int32) * I a)) + (6 : Int32)).toNatClampNeg = 70 + 10 * a + 6 := (congrArg Int32.toNatClampNeg (ix_tug (j := 6))).trans (I_tn (by omega))
  have r6 : inR (((70 : Int32) + ((10 : Int32) * I a)) + (6 : Int32)) 218 = true := (congrArg (fun z => inR z 218) (ix_tug (j := 6))).trans (inR_I (by omega) (by decide))
  have x7 : (((70 : Int32) + ((10 : Int32) * I a)) + (7 : Int32)).toNatClampNeg = 70 + 10 * a + 7 := (congrArg Int32.toNatClampNeg (ix_tug (j := 7))).trans (I_tn (by omega))
  have r7 : inR (((70 : Int32) + ((10 : Int32) * I a)) + (7 : Int32)) 218 = true := (congrArg (fun z => inR z 218) (ix_tug (j := 7))).trans (inR_I (by omega) (by decide))
  have x8 : (((70 : Int32) + ((10 : Int32) * I a)) + (8 : Int32)).toNatClampNeg = 70 + 10 * a + 8 := (congrArg Int32.toNatClampNeg (ix_tug (j := 8))).trans (I_tn (by omega))
  have r8 : inR (((70 : Int32) + ((10 : Int32) * I a)) + (8 : Int32)) 218 = true := (congrArg (fun z => inR z 218) (ix_tug (j := 8))).trans (inR_I (by omega) (by decide))
  have x9 : (((70 : Int32) + ((10 : Int32) * I a)) + (9 : Int32)).toNatClampNeg = 70 + 10 * a + 9 := (congrArg Int32.toNatClampNeg (ix_tug (j := 9))).trans (I_tn (by omega))
  have r9 : inR (((70 : Int32) + ((10 : Int32) * I a)) + (9 : Int32)) 218 = true := (congrArg (fun z => inR z 218) (ix_tug (j := 9))).trans (inR_I (by omega) (by decide))
  have hne : lg_cmp (w 2218 0 64) 6 ≠ 0 := fun q => by
    have := congrArg Int64.toInt ((lg_cmp_eq _ _).mp q)
    rw [ea, I64 (by omega), show (6 : Int64).toInt = 6 from rfl] at this
    omega
  have es : ∀ a, a < 6 → (I a).toInt64 + 1 = (I (a + 1)).toInt64 := by decide
  have em : ∀ a, a < 6 → (I (a + 1)) - 1 = I a := by decide
  have rd : ∀ (W : Nat → Nat → Nat → Int64) (k : Nat) (x : Int64), 70 ≤ k → wL W 2218 0 k x 2218 0 64 = W 2218 0 64 := fun W k x hk => by rw [wL_at, if_neg (by omega)]
  have rs : ∀ (W : Nat → Nat → Nat → Int64) (x : Int64), wL W 2218 0 64 x 2218 0 64 = x := fun W x => by rw [wL_at, if_pos ⟨rfl, rfl, rfl⟩]
  simp only [in32 p1 0 1 (l := 0) (h := 1) (by decide) (by decide), in32 p2 1 60 (l := 1) (h := 60) (by decide) (by decide), in32 p3 0 1 (l := 0) (h := 1) (by decide) (by decide), in32 p5 1 48 (l := 1) (h := 48) (by decide) (by decide), in32 p4 0 p5 (l := 0) (h := p5.toInt64) (by decide) rfl, in32 p6 1 12 (l := 1) (h := 12) (by decide) (by decide), isHour7, isBerth7, decide_eq_true_eq, if_pos c0, if_pos c1, if_pos c2, if_pos c3, if_pos c4, if_pos c5, if_pos c6, e0, ei, if_pos hne]
  simp only [if_pos r0, if_pos r1, if_pos r2, if_pos r3, if_pos r4, if_pos r5, if_pos r6, if_pos r7, if_pos r8, if_pos r9, x0, x1, x2, x3, x4, x5, x6, x7, x8, x9]
  simp only [rs]
  rw [rd _ _ _ (by omega)]; rw [rd _ _ _ (by omega)]; rw [rd _ _ _ (by omega)]; rw [rd _ _ _ (by omega)]; rw [rd _ _ _ (by omega)]; rw [rd _ _ _ (by omega)]; rw [rd _ _ _ (by omega)]; rw [rd _ _ _ (by omega)]; rw [rd _ _ _ (by omega)]; rw [rd _ _ _ (by omega)]
  rw [ea, es a ha, t6432, em a ha]
  rfl
theorem tug7_full (ea : w 2218 0 64 = (I 6).toInt64) (c0 : ((0 : Int32) ≤ p1 ∧ p1 ≤ 1)) (c1 : ((1 : Int32) ≤ p2 ∧ p2 ≤ 60)) (c2 : ((0 : Int32) ≤ p3 ∧ p3 ≤ 1)) (c3 : ((1 : Int32) ≤ p5 ∧ p5 ≤ 48)) (c4 : ((0 : Int32) ≤ p4 ∧ p4 ≤ p5)) (c5 : ((1 : Int32) ≤ p6 ∧ p6 ≤ 12)) (c6 : ((0 : Int32) ≤ p7 ∧ p7 ≤ 5)) : s_X7_tug 0 p1 p2 p3 p4 p5 p6 p7 g w = some (-3, g, w) := by
  unfold s_X7_tug
  have e0 : (64 : Int32).toNatClampNeg = 64 := rfl
  have hne : ¬ (lg_cmp (w 2218 0 64) 6 ≠ 0) := fun q => q ((lg_cmp_eq _ _).mpr (ea.trans (by decide)))
  simp only [in32 p1 0 1 (l := 0) (h := 1) (by decide) (by decide), in32 p2 1 60 (l := 1) (h := 60) (by decide) (by decide), in32 p3 0 1 (l := 0) (h := 1) (by decide) (by decide), in32 p5 1 48 (l := 1) (h := 48) (by decide) (by decide), in32 p4 0 p5 (l := 0) (h := p5.toInt64) (by decide) rfl, in32 p6 1 12 (l := 1) (h := 12) (by decide) (by decide), isHour7, isBerth7, decide_eq_true_eq, if_pos c0, if_pos c1, if_pos c2, if_pos c3, if_pos c4, if_pos c5, if_pos c6, e0, if_neg hne]
theorem tug7_bad (hc : ¬ (((0 : Int32) ≤ p1 ∧ p1 ≤ 1) ∧ ((1 : Int32) ≤ p2 ∧ p2 ≤ 60) ∧ ((0 : Int32) ≤ p3 ∧ p3 ≤ 1) ∧ ((1 : Int32) ≤ p5 ∧ p5 ≤ 48) ∧ ((0 : Int32) ≤ p4 ∧ p4 ≤ p5) ∧ ((1 : Int32) ≤ p6 ∧ p6 ≤ 12) ∧ ((0 : Int32) ≤ p7 ∧ p7 ≤ 5))) : s_X7_tug 0 p1 p2 p3 p4 p5 p6 p7 g w = some (-1, g, w) := by
  unfold s_X7_tug s_X7_tug_79
  simp only [in32 p1 0 1 (l := 0) (h := 1) (by decide) (by decide), in32 p2 1 60 (l := 1) (h := 60) (by decide) (by decide), in32 p3 0 1 (l := 0) (h := 1) (by decide) (by decide), in32 p5 1 48 (l := 1) (h := 48) (by decide) (by decide), in32 p4 0 p5 (l := 0) (h := p5.toInt64) (by decide) rfl, in32 p6 1 12 (l := 1) (h := 12) (by decide) (by decide), isHour7, isBerth7, decide_eq_true_eq]
  by_cases c0 : ((0 : Int32) ≤ p1 ∧ p1 ≤ 1)
  case neg => rw [if_neg c0]
  rw [if_pos c0]
  by_cases c1 : ((1 : Int32) ≤ p2 ∧ p2 ≤ 60)
  case neg => rw [if_neg c1]
  rw [if_pos c1]
  by_cases c2 : ((0 : Int32) ≤ p3 ∧ p3 ≤ 1)
  case neg => rw [if_neg c2]
  rw [if_pos c2]
  by_cases c3 : ((1 : Int32) ≤ p5 ∧ p5 ≤ 48)
  case neg => rw [if_neg c3]
  rw [if_pos c3]
  by_cases c4 : ((0 : Int32) ≤ p4 ∧ p4 ≤ p5)
  case neg => rw [if_neg c4]
  rw [if_pos c4]
  by_cases c5 : ((1 : Int32) ≤ p6 ∧ p6 ≤ 12)
  case neg => rw [if_neg c5]
  rw [if_pos c5]
  by_cases c6 : ((0 : Int32) ≤ p7 ∧ p7 ≤ 5)
  case neg => rw [if_neg c6]
  rw [if_pos c6]
  exact absurd ⟨c0, c1, c2, c3, c4, c5, c6⟩ hc
theorem pr_tug (h : ST g w) : Ok (s_X6_tug 0 p1 p2 p3 p4 p5 p6 p7 g w) (fun q => Ok (s_X7_tug 0 p1 p2 p3 p4 p5 p6 p7 q.2.1 q.2.2) (fun r => ST r.2.1 r.2.2 ∧ q.1 = r.1)) := by
  by_cases hc : ((0 : Int32) ≤ p1 ∧ p1 ≤ 1) ∧ ((1 : Int32) ≤ p2 ∧ p2 ≤ 60) ∧ ((0 : Int32) ≤ p3 ∧ p3 ≤ 1) ∧ ((1 : Int32) ≤ p5 ∧ p5 ≤ 48) ∧ ((0 : Int32) ≤ p4 ∧ p4 ≤ p5) ∧ ((1 : Int32) ≤ p6 ∧ p6 ≤ 12) ∧ ((0 : Int32) ≤ p7 ∧ p7 ≤ 5)
  · obtain ⟨c0, c1, c2, c3, c4, c5, c6⟩ := hc
    have ew : w 2218 0 64 = (g 1 0 9).toInt64 := h.2.2.2.1.2.2.2.1 0 (by decide)
    have q := h.2.1 2218 0 64
    rw [ew, show wk 2218 0 64 = 3 from rfl] at q
    have q1 : 0 ≤ (g 1 0 9).toInt64.toInt := q.1
    have q2 : (g 1 0 9).toInt64.toInt ≤ 6 := q.2
    rw [Int32.toInt_toInt64] at q1 q2
    obtain ⟨a, ha, ea⟩ := I_ex (v := g 1 0 9) (n := 6) q1 q2
    rw [ea] at ew
    by_cases hf : a < 6
    · rw [tug6_e ea hf c0 c1 c2 c3 c4 c5 c6]
      refine ok_some ?_
      show Ok (s_X7_tug 0 p1 p2 p3 p4 p5 p6 p7 (tugg a p1 p2 p3 p4 p5 p6 p7 g) (tugw a w)) _
      rw [tug7_e ((tugw_o (by decide)).trans ew) hf c0 c1 c2 c3 c4 c5 c6]
      refine ok_some ⟨?_, rfl⟩
      show ST (tugg a p1 p2 p3 p4 p5 p6 p7 g) (tugl a p1 p2 p3 p4 p5 p6 p7 (tugw a w))
      exact st_tug h hf (v := tugv p1 p2 p3 p4 p5 p6 p7) (fun F i j q1 q2 => tugg_o q1 q2) (fun j hj => tugg_v hj) (by unfold tugg; rw [gI_at, if_pos ⟨rfl, rfl, rfl⟩]) (fun F i j q1 q2 => (tugl_o q2).trans (tugw_o q1)) (fun j hj => tugl_v hj) (by unfold tugl; rw [wL_at, if_pos ⟨rfl, rfl, rfl⟩]) (by have := rngN c5 (a := 1) (b := 12) rfl rfl; show 0 ≤ p6.toInt ∧ p6.toInt ≤ 12; omega) (by have := rngN c6 (a := 0) (b := 5) rfl rfl; show 0 ≤ p7.toInt ∧ p7.toInt ≤ 5; omega)
    · have e : a = 6 := by omega
      subst e
      rw [tug6_full (a := 0) ea c0 c1 c2 c3 c4 c5 c6]
      refine ok_some ?_
      show Ok (s_X7_tug 0 p1 p2 p3 p4 p5 p6 p7 g w) _
      rw [tug7_full ew c0 c1 c2 c3 c4 c5 c6]
      exact ok_some ⟨h, rfl⟩
  · rw [tug6_bad hc]
    refine ok_some ?_
    show Ok (s_X7_tug 0 p1 p2 p3 p4 p5 p6 p7 g w) _
    rw [tug7_bad hc]
    exact ok_some ⟨h, rfl⟩
end
