/-! a ship comes: both sides -/
section
variable {g : Nat → Nat → Nat → Int32} {w : Nat → Nat → Nat → Int64} {p1 p2 p3 p4 p5 p6 p7 : Int32}
theorem st_ship (h : ST g w) {a : Nat} (ha : a < 8) {g2 : Nat → Nat → Nat → Int32} {w2 : Nat → Nat → Nat → Int64} {v : Nat → Int32}
    (hg : ∀ F i j, ¬ (F = 4 ∧ i = a ∧ j < 9) → ¬ (F = 1 ∧ i = 0 ∧ j = 10) → g2 F i j = g F i j) (hgv : ∀ j, j < 7 → g2 4 a j = v j) (hg9 : g2 1 0 10 = I (a + 1))
    (hw : ∀ F i j, F ≠ 5 → ¬ (F = 2218 ∧ i = 0 ∧ (j = 65 ∨ (130 + 11 * a ≤ j ∧ j < 130 + 11 * a + 9))) → w2 F i j = w F i j)
    (hwv : ∀ j, j < 7 → w2 2218 0 (130 + 11 * a + j) = (v j).toInt64) (hwc : w2 2218 0 65 = (I (a + 1)).toInt64) (hv2 : 0 ≤ (v 2).toInt ∧ (v 2).toInt ≤ 47) (hv3 : 0 ≤ (v 3).toInt ∧ (v 3).toInt ≤ 4) (hv5 : 0 ≤ (v 5).toInt ∧ (v 5).toInt ≤ 5) (hv6 : 0 ≤ (v 6).toInt ∧ (v 6).toInt ≤ 5) (hw7 : w2 2218 0 (130 + 11 * a + 7) = -4) : ST g2 w2 := by
  obtain ⟨h1, h2, h3, hb, h5, h6, h7, h8⟩ := h
  have t0 := td0
  have hsm : ∀ {x : Int32} {m : Int}, 0 ≤ x.toInt ∧ x.toInt ≤ m → 0 ≤ x.toInt64.toInt ∧ x.toInt64.toInt ≤ m := by
    intro x m q; rw [Int32.toInt_toInt64]; exact q
  refine ⟨?_, ?_, ?_, ?_, ?_, ?_, ?_, ?_⟩
  · intro F i j
    by_cases q1 : F = 4 ∧ i = a ∧ j < 9
    · obtain ⟨rfl, rfl, hj⟩ := q1
      by_cases e2 : j = 2
      · subst e2; rw [hgv 2 (by decide)]; exact hv2
      · by_cases e3 : j = 3
        · subst e3; rw [hgv 3 (by decide)]; exact hv3
        · rw [show gk 4 j = 0 from by unfold gk; rw [if_neg (by decide), if_pos rfl, if_neg e2, if_neg e3]]
          exact rgg_0 _
    · by_cases q2 : F = 1 ∧ i = 0 ∧ j = 10
      · obtain ⟨rfl, rfl, rfl⟩ := q2; exact rgg_0 _
      · rw [hg F i j q1 q2]; exact h1 F i j
  · intro F i j
    by_cases qF : F = 5
    · subst qF; rw [wk_free (by decide) (by decide)]; exact rgw_0 _
    by_cases q1 : F = 2218 ∧ i = 0 ∧ (j = 65 ∨ (130 + 11 * a ≤ j ∧ j < 130 + 11 * a + 9))
    · obtain ⟨rfl, rfl, q⟩ := q1
      show rgw (kd j) _
      rcases q with rfl | ⟨q1, q2⟩
      · rw [hwc]
        show (0 : Int) ≤ _ ∧ _ ≤ (8 : Int)
        rw [I64 (by omega)]; omega
      · obtain ⟨k, rfl⟩ : ∃ k, j = 130 + 11 * a + k := ⟨j - (130 + 11 * a), by omega⟩
        have hk : k < 11 := by omega
        rw [kd_sh hk]
        by_cases e3 : k = 3
        · subst e3; rw [hwv 3 (by decide)]; exact hsm hv3
        · by_cases e5 : k = 5
          · subst e5; rw [hwv 5 (by decide)]; exact hsm hv5
          · by_cases e6 : k = 6
            · subst e6; rw [hwv 6 (by decide)]; exact hsm hv6
            · by_cases e7 : k = 7
              · subst e7; rw [hw7]; exact m4_rg
              · rw [if_neg e3, if_neg e5, if_neg e6, if_neg e7]; exact rgw_0 _
    · rw [hw F i j qF q1]; exact h2 F i j
  · intro i hi k hk
    rw [hg 7 0 2 (by omega) (by omega)] at hi
    rw [hw _ _ _ (by decide) (by omega)]
    exact h3 i hi k hk
  · refine ⟨fun x hx => ?_, fun x hx => ?_, fun j hj => ?_, fun j hj => ?_, fun t ht j hj => ?_, fun s hs j hj => ?_⟩
    · rw [hw _ _ _ (by decide) (by omega), hg _ _ _ (by omega) (by omega)]; exact hb.1 x hx
    · rw [hw _ _ _ (by decide) (by omega), hg _ _ _ (by omega) (by omega)]; exact hb.2.1 x hx
    · rw [hw _ _ _ (by decide) (by omega), hg _ _ _ (by omega) (by omega)]; exact hb.2.2.1 j hj
    · by_cases e : j = 65 - 64
      · subst e; exact hwc.trans (congrArg Int32.toInt64 hg9.symm)
      · rw [hw _ _ _ (by decide) (by omega), hg _ _ _ (by omega) (by omega)]; exact hb.2.2.2.1 j hj
    · rw [hw _ _ _ (by decide) (by omega), hg _ _ _ (by omega) (by omega)]; exact hb.2.2.2.2.1 t ht j hj
    · by_cases e : s = a
      · subst e
        rw [hwv j hj, show 8 * 0 + s = s by omega, hgv j hj]
      · rw [hw _ _ _ (by decide) (by omega), hg _ _ _ (by omega) (by omega)]; exact hb.2.2.2.2.2 s hs j hj
  · rw [hg 6 0 5 (by omega) (by omega), hg 7 0 2 (by omega) (by omega)]; exact h5
  · intro i hi
    rw [hg 7 0 2 (by omega) (by omega)] at hi
    have q := h6 i hi
    have e2 := td2 i
    refine ⟨fun x hx => ?_, fun x hx => ?_, fun j hj => ?_, fun j hj => ?_, fun t ht j hj => ?_, fun s hs j hj => ?_⟩
    · dsimp only; rw [hw _ _ _ (by decide) (by omega), hg _ _ _ (by omega) (by omega)]; exact q.1 x hx
    · dsimp only; rw [hw _ _ _ (by decide) (by omega), hg _ _ _ (by omega) (by omega)]; exact q.2.1 x hx
    · dsimp only; rw [hw _ _ _ (by decide) (by omega), hg _ _ _ (by omega) (by omega)]; exact q.2.2.1 j hj
    · dsimp only; rw [hw _ _ _ (by decide) (by omega), hg _ _ _ (by omega) (by omega)]; exact q.2.2.2.1 j hj
    · dsimp only; rw [hw _ _ _ (by decide) (by omega), hg _ _ _ (by omega) (by omega)]; exact q.2.2.2.2.1 t ht j hj
    · dsimp only; rw [hw _ _ _ (by decide) (by omega), hg _ _ _ (by omega) (by omega)]; exact q.2.2.2.2.2 s hs j hj
  · rw [hg 3 0 4 (by omega) (by omega), hg 7 0 5 (by omega) (by omega)]; exact h7
  · intro r hr j hj
    rw [hg _ _ _ (by omega) (by omega), hg _ _ _ (by omega) (by omega)]; exact h8 r hr j hj
def shipg (a : Nat) (p1 p2 p3 p4 p5 p6 p7 : Int32) (g : Nat → Nat → Nat → Int32) : Nat → Nat → Nat → Int32 := gI (gI (gI (gI (gI (gI (gI (gI (gI (gI g 4 a 0 p1) 4 a 1 p2) 4 a 2 p3) 4 a 3 p4) 4 a 4 p5) 4 a 5 p6) 4 a 6 p7) 4 a 7 (-4 : Int32)) 4 a 8 (0 : Int32)) 1 0 10 (I (a + 1))
def shipw (a : Nat) (w : Nat → Nat → Nat → Int64) : Nat → Nat → Nat → Int64 := w
def shipv (p1 p2 p3 p4 p5 p6 p7 : Int32) (j : Nat) : Int32 := if j = 0 then p1 else if j = 1 then p2 else if j = 2 then p3 else if j = 3 then p4 else if j = 4 then p5 else if j = 5 then p6 else p7
def shipl (a : Nat) (p1 p2 p3 p4 p5 p6 p7 : Int32) (w : Nat → Nat → Nat → Int64) : Nat → Nat → Nat → Int64 := wL (wL (wL (wL (wL (wL (wL (wL (wL (wL w 2218 0 (130 + 11 * a + 0) p1.toInt64) 2218 0 (130 + 11 * a + 1) p2.toInt64) 2218 0 (130 + 11 * a + 2) p3.toInt64) 2218 0 (130 + 11 * a + 3) p4.toInt64) 2218 0 (130 + 11 * a + 4) p5.toInt64) 2218 0 (130 + 11 * a + 5) p6.toInt64) 2218 0 (130 + 11 * a + 6) p7.toInt64) 2218 0 (130 + 11 * a + 7) (-4 : Int64)) 2218 0 (130 + 11 * a + 8) (0 : Int64)) 2218 0 65 (I (a + 1)).toInt64
theorem shipg_o {a F i j : Nat} (h1 : ¬ (F = 4 ∧ i = a ∧ j < 9)) (h2 : ¬ (F = 1 ∧ i = 0 ∧ j = 10)) : shipg a p1 p2 p3 p4 p5 p6 p7 g F i j = g F i j := by
  unfold shipg
  simp only [gI_at]
  rw [if_neg (by omega)]; rw [if_neg (by omega)]; rw [if_neg (by omega)]; rw [if_neg (by omega)]; rw [if_neg (by omega)]; rw [if_neg (by omega)]; rw [if_neg (by omega)]; rw [if_neg (by omega)]; rw [if_neg (by omega)]; rw [if_neg (by omega)]
theorem shipg_v {a j : Nat} (hj : j < 7) : shipg a p1 p2 p3 p4 p5 p6 p7 g 4 a j = shipv p1 p2 p3 p4 p5 p6 p7 j := by
  have : j = 0 ∨ j = 1 ∨ j = 2 ∨ j = 3 ∨ j = 4 ∨ j = 5 ∨ j = 6 := by omega
  unfold shipg shipv
  simp only [gI_at]
  rcases this with rfl | rfl | rfl | rfl | rfl | rfl | rfl <;> simp
theorem shipl_o {a F i j : Nat} (h : ¬ (F = 2218 ∧ i = 0 ∧ (j = 65 ∨ (130 + 11 * a ≤ j ∧ j < 130 + 11 * a + 9)))) : shipl a p1 p2 p3 p4 p5 p6 p7 w F i j = w F i j := by
  unfold shipl
  simp only [wL_at]
  rw [if_neg (by omega)]; rw [if_neg (by omega)]; rw [if_neg (by omega)]; rw [if_neg (by omega)]; rw [if_neg (by omega)]; rw [if_neg (by omega)]; rw [if_neg (by omega)]; rw [if_neg (by omega)]; rw [if_neg (by omega)]; rw [if_neg (by omega)]
theorem shipl_v {a j : Nat} (hj : j < 7) : shipl a p1 p2 p3 p4 p5 p6 p7 w 2218 0 (130 + 11 * a + j) = (shipv p1 p2 p3 p4 p5 p6 p7 j).toInt64 := by
  unfold shipl shipv
  simp only [wL_at]
  rw [if_neg (by omega)]
  have : j = 0 ∨ j = 1 ∨ j = 2 ∨ j = 3 ∨ j = 4 ∨ j = 5 ∨ j = 6 := by omega
  rcases this with rfl | rfl | rfl | rfl | rfl | rfl | rfl <;> simp
theorem shipw_o {a F i j : Nat} (h : F ≠ 5) : shipw a w F i j = w F i j := by
  rfl
theorem ship6_e {a : Nat} (ea : g 1 0 10 = I a) (ha : a < 8) (c0 : ((1 : Int32) ≤ p1 ∧ p1 ≤ 50)) (c1 : ((0 : Int32) ≤ p2 ∧ p2 ≤ 9)) (c2 : ((0 : Int32) ≤ p3 ∧ p3 ≤ 47)) (c3 : ((1 : Int32) ≤ p4 ∧ p4 ≤ 4)) (c4 : ((1 : Int32) ≤ p5 ∧ p5 ≤ 20)) (c5 : ((0 : Int32) ≤ p6 ∧ p6 ≤ 5)) (c6 : ((0 : Int32) ≤ p7 ∧ p7 ≤ 5)) : s_X6_ship 0 p1 p2 p3 p4 p5 p6 p7 g w = some (I a, shipg a p1 p2 p3 p4 p5 p6 p7 g, shipw a w) := by
  unfold s_X6_ship
  have hr : inR (I a) 8 = true := inR_I ha (by decide)
  have hc : (0 : Int32) ≤ I a ∧ I a ≤ 7 := ⟨(I_le (a := 0) (b := a) (by decide) (by omega)).mpr (by omega), (I_le (a := a) (b := 7) (by omega) (by decide)).mpr (by omega)⟩
  simp only [within_eq, isHour6, isBerth6, ea, decide_eq_true_eq, if_pos hc, if_pos hr, if_pos c0, if_pos c1, if_pos c2, if_pos c3, if_pos c4, if_pos c5, if_pos c6, I_suc, I_tn (show a < 2147483648 by omega), show 8 * 0 + a = a by omega]
  rfl
theorem ship6_full {a : Nat} (ea : g 1 0 10 = I 8) (c0 : ((1 : Int32) ≤ p1 ∧ p1 ≤ 50)) (c1 : ((0 : Int32) ≤ p2 ∧ p2 ≤ 9)) (c2 : ((0 : Int32) ≤ p3 ∧ p3 ≤ 47)) (c3 : ((1 : Int32) ≤ p4 ∧ p4 ≤ 4)) (c4 : ((1 : Int32) ≤ p5 ∧ p5 ≤ 20)) (c5 : ((0 : Int32) ≤ p6 ∧ p6 ≤ 5)) (c6 : ((0 : Int32) ≤ p7 ∧ p7 ≤ 5)) : s_X6_ship 0 p1 p2 p3 p4 p5 p6 p7 g w = some (-3, g, w) := by
  unfold s_X6_ship
  have hc : ¬ ((0 : Int32) ≤ I 8 ∧ I 8 ≤ 7) := by decide
  simp only [within_eq, isHour6, isBerth6, ea, decide_eq_true_eq, if_neg hc, if_pos c0, if_pos c1, if_pos c2, if_pos c3, if_pos c4, if_pos c5, if_pos c6]
theorem ship6_bad (hc : ¬ (((1 : Int32) ≤ p1 ∧ p1 ≤ 50) ∧ ((0 : Int32) ≤ p2 ∧ p2 ≤ 9) ∧ ((0 : Int32) ≤ p3 ∧ p3 ≤ 47) ∧ ((1 : Int32) ≤ p4 ∧ p4 ≤ 4) ∧ ((1 : Int32) ≤ p5 ∧ p5 ≤ 20) ∧ ((0 : Int32) ≤ p6 ∧ p6 ≤ 5) ∧ ((0 : Int32) ≤ p7 ∧ p7 ≤ 5))) : s_X6_ship 0 p1 p2 p3 p4 p5 p6 p7 g w = some (-1, g, w) := by
  unfold s_X6_ship s_X6_ship_64
  simp only [within_eq, isHour6, isBerth6, decide_eq_true_eq]
  by_cases c0 : ((1 : Int32) ≤ p1 ∧ p1 ≤ 50)
  case neg => rw [if_neg c0]
  rw [if_pos c0]
  by_cases c1 : ((0 : Int32) ≤ p2 ∧ p2 ≤ 9)
  case neg => rw [if_neg c1]
  rw [if_pos c1]
  by_cases c2 : ((0 : Int32) ≤ p3 ∧ p3 ≤ 47)
  case neg => rw [if_neg c2]
  rw [if_pos c2]
  by_cases c3 : ((1 : Int32) ≤ p4 ∧ p4 ≤ 4)
  case neg => rw [if_neg c3]
  rw [if_pos c3]
  by_cases c4 : ((1 : Int32) ≤ p5 ∧ p5 ≤ 20)
  case neg => rw [if_neg c4]
  rw [if_pos c4]
  by_cases c5 : ((0 : Int32) ≤ p6 ∧ p6 ≤ 5)
  case neg => rw [if_neg c5]
  rw [if_pos c5]
  by_cases c6 : ((0 : Int32) ≤ p7 ∧ p7 ≤ 5)
  case neg => rw [if_neg c6]
  rw [if_pos c6]
  exact absurd ⟨c0, c1, c2, c3, c4, c5, c6⟩ hc
theorem ship7_e {a : Nat} (ea : w 2218 0 65 = (I a).toInt64) (ha : a < 8) (c0 : ((1 : Int32) ≤ p1 ∧ p1 ≤ 50)) (c1 : ((0 : Int32) ≤ p2 ∧ p2 ≤ 9)) (c2 : ((0 : Int32) ≤ p3 ∧ p3 ≤ 47)) (c3 : ((1 : Int32) ≤ p4 ∧ p4 ≤ 4)) (c4 : ((1 : Int32) ≤ p5 ∧ p5 ≤ 20)) (c5 : ((0 : Int32) ≤ p6 ∧ p6 ≤ 5)) (c6 : ((0 : Int32) ≤ p7 ∧ p7 ≤ 5)) : s_X7_ship 0 p1 p2 p3 p4 p5 p6 p7 g w = some (I a, g, shipl a p1 p2 p3 p4 p5 p6 p7 w) := by
  unfold s_X7_ship
  have e0 : (65 : Int32).toNatClampNeg = 65 := rfl
  have ei : (w 2218 0 65).toInt32 = I a := by rw [ea, t6432]
  have x0 : (((130 : Int32) + ((11 : Int32) * I a)) + (0 : Int32)).toNatClampNeg = 130 + 11 * a + 0 := (congrArg Int32.toNatClampNeg (ix_ship (j := 0))).trans (I_tn (by omega))
  have r0 : inR (((130 : Int32) + ((11 : Int32) * I a)) + (0 : Int32)) 218 = true := (congrArg (fun z => inR z 218) (ix_ship (j := 0))).trans (inR_I (by omega) (by decide))
  have x1 : (((130 : Int32) + ((11 : Int32) * I a)) + (1 : Int32)).toNatClampNeg = 130 + 11 * a + 1 := (congrArg Int32.toNatClampNeg (ix_ship (j := 1))).trans (I_tn (by omega))
  have r1 : inR (((130 : Int32) + ((11 : Int32) * I a)) + (1 : Int32)) 218 = true := (congrArg (fun z => inR z 218) (ix_ship (j := 1))).trans (inR_I (by omega) (by decide))
  have x2 : (((130 : Int32) + ((11 : Int32) * I a)) + (2 : Int32)).toNatClampNeg = 130 + 11 * a + 2 := (congrArg Int32.toNatClampNeg (ix_ship (j := 2))).trans (I_tn (by omega))
  have r2 : inR (((130 : Int32) + ((11 : Int32) * I a)) + (2 : Int32)) 218 = true := (congrArg (fun z => inR z 218) (ix_ship (j := 2))).trans (inR_I (by omega) (by decide))
  have x3 : (((130 : Int32) + ((11 : Int32) * I a)) + (3 : Int32)).toNatClampNeg = 130 + 11 * a + 3 := (congrArg Int32.toNatClampNeg (ix_ship (j := 3))).trans (I_tn (by omega))
  have r3 : inR (((130 : Int32) + ((11 : Int32) * I a)) + (3 : Int32)) 218 = true := (congrArg (fun z => inR z 218) (ix_ship (j := 3))).trans (inR_I (by omega) (by decide))
  have x4 : (((130 : Int32) + ((11 : Int32) * I a)) + (4 : Int32)).toNatClampNeg = 130 + 11 * a + 4 := (congrArg Int32.toNatClampNeg (ix_ship (j := 4))).trans (I_tn (by omega))
  have r4 : inR (((130 : Int32) + ((11 : Int32) * I a)) + (4 : Int32)) 218 = true := (congrArg (fun z => inR z 218) (ix_ship (j := 4))).trans (inR_I (by omega) (by decide))
  have x5 : (((130 : Int32) + ((11 : Int32) * I a)) + (5 : Int32)).toNatClampNeg = 130 + 11 * a + 5 := (congrArg Int32.toNatClampNeg (ix_ship (j := 5))).trans (I_tn (by omega))
  have r5 : inR (((130 : Int32) + ((11 : Int32) * I a)) + (5 : Int32)) 218 = true := (congrArg (fun z => inR z 218) (ix_ship (j := 5))).trans (inR_I (by omega) (by decide))
  have x6 : (((130 : Int32) + ((11 : Int32) * I a)) + (6 : Int32)).toNatClampNeg = 130 + 11 * a + 6 := (congrArg Int32.toNatClampNeg (ix_ship (j := 6))).trans (I_tn (by omega))
  have r6 : inR (((130 : Int32) + ((11 : Int32) * I a)) + (6 : Int32)) 218 = true := (congrArg (fun z => inR z 218) (ix_ship (j := 6))).trans (inR_I (by omega) (by decide))
  have x7 : (((130 : Int32) + ((11 : Int32) * I a)) + (7 : Int32)).toNatClampNeg = 130 + 11 * a + 7 := (congrArg Int32.toNatClampNeg (ix_ship (j := 7))).trans (I_tn (by omega))
  have r7 : inR (((130 : Int32) + ((11 : Int32) * I a)) + (7 : Int32)) 218 = true := (congrArg (fun z => inR z 218) (ix_ship (j := 7))).trans (inR_I (by omega) (by decide))
  have x8 : (((130 : Int32) + ((11 : Int32) * I a)) + (8 : Int32)).toNatClampNeg = 130 + 11 * a + 8 := (congrArg Int32.toNatClampNeg (ix_ship (j := 8))).trans (I_tn (by omega))
  have r8 : inR (((130 : Int32) + ((11 : Int32) * I a)) + (8 : Int32)) 218 = true := (congrArg (fun z => inR z 218) (ix_ship (j := 8))).trans (inR_I (by omega) (by decide))
  have hne : lg_cmp (w 2218 0 65) 8 ≠ 0 := fun q => by
    have := congrArg Int64.toInt ((lg_cmp_eq _ _).mp q)
    rw [ea, I64 (by omega), show (8 : Int64).toInt = 8 from rfl] at this
    omega
  have es : ∀ a, a < 8 → (I a).toInt64 + 1 = (I (a + 1)).toInt64 := by decide
  have em : ∀ a, a < 8 → (I (a + 1)) - 1 = I a := by decide
  have rd : ∀ (W : Nat → Nat → Nat → Int64) (k : Nat) (x : Int64), 130 ≤ k → wL W 2218 0 k x 2218 0 65 = W 2218 0 65 := fun W k x hk => by rw [wL_at, if_neg (by omega)]
  have rs : ∀ (W : Nat → Nat → Nat → Int64) (x : Int64), wL W 2218 0 65 x 2218 0 65 = x := fun W x => by rw [wL_at, if_pos ⟨rfl, rfl, rfl⟩]
  simp only [in32 p1 1 50 (l := 1) (h := 50) (by decide) (by decide), in32 p2 0 9 (l := 0) (h := 9) (by decide) (by decide), in32 p4 1 4 (l := 1) (h := 4) (by decide) (by decide), in32 p5 1 20 (l := 1) (h := 20) (by decide) (by decide), isHour7, isBerth7, decide_eq_true_eq, if_pos c0, if_pos c1, if_pos c2, if_pos c3, if_pos c4, if_pos c5, if_pos c6, e0, ei, if_pos hne]
  simp only [if_pos r0, if_pos r1, if_pos r2, if_pos r3, if_pos r4, if_pos r5, if_pos r6, if_pos r7, if_pos r8, x0, x1, x2, x3, x4, x5, x6, x7, x8]
  simp only [rs]
  rw [rd _ _ _ (by omega)]; rw [rd _ _ _ (by omega)]; rw [rd _ _ _ (by omega)]; rw [rd _ _ _ (by omega)]; rw [rd _ _ _ (by omega)]; rw [rd _ _ _ (by omega)]; rw [rd _ _ _ (by omega)]; rw [rd _ _ _ (by omega)]; rw [rd _ _ _ (by omega)]
  rw [ea, es a ha, t6432, em a ha]
  rfl
theorem ship7_full (ea : w 2218 0 65 = (I 8).toInt64) (c0 : ((1 : Int32) ≤ p1 ∧ p1 ≤ 50)) (c1 : ((0 : Int32) ≤ p2 ∧ p2 ≤ 9)) (c2 : ((0 : Int32) ≤ p3 ∧ p3 ≤ 47)) (c3 : ((1 : Int32) ≤ p4 ∧ p4 ≤ 4)) (c4 : ((1 : Int32) ≤ p5 ∧ p5 ≤ 20)) (c5 : ((0 : Int32) ≤ p6 ∧ p6 ≤ 5)) (c6 : ((0 : Int32) ≤ p7 ∧ p7 ≤ 5)) : s_X7_ship 0 p1 p2 p3 p4 p5 p6 p7 g w = some (-3, g, w) := by
  unfold s_X7_ship
  have e0 : (65 : Int32).toNatClampNeg = 65 := rfl
  have hne : ¬ (lg_cmp (w 2218 0 65) 8 ≠ 0) := fun q => q ((lg_cmp_eq _ _).mpr (ea.trans (by decide)))
  simp only [in32 p1 1 50 (l := 1) (h := 50) (by decide) (by decide), in32 p2 0 9 (l := 0) (h := 9) (by decide) (by decide), in32 p4 1 4 (l := 1) (h := 4) (by decide) (by decide), in32 p5 1 20 (l := 1) (h := 20) (by decide) (by decide), isHour7, isBerth7, decide_eq_true_eq, if_pos c0, if_pos c1, if_pos c2, if_pos c3, if_pos c4, if_pos c5, if_pos c6, e0, if_neg hne]
theorem ship7_bad (hc : ¬ (((1 : Int32) ≤ p1 ∧ p1 ≤ 50) ∧ ((0 : Int32) ≤ p2 ∧ p2 ≤ 9) ∧ ((0 : Int32) ≤ p3 ∧ p3 ≤ 47) ∧ ((1 : Int32) ≤ p4 ∧ p4 ≤ 4) ∧ ((1 : Int32) ≤ p5 ∧ p5 ≤ 20) ∧ ((0 : Int32) ≤ p6 ∧ p6 ≤ 5) ∧ ((0 : Int32) ≤ p7 ∧ p7 ≤ 5))) : s_X7_ship 0 p1 p2 p3 p4 p5 p6 p7 g w = some (-1, g, w) := by
  unfold s_X7_ship s_X7_ship_73
  simp only [in32 p1 1 50 (l := 1) (h := 50) (by decide) (by decide), in32 p2 0 9 (l := 0) (h := 9) (by decide) (by decide), in32 p4 1 4 (l := 1) (h := 4) (by decide) (by decide), in32 p5 1 20 (l := 1) (h := 20) (by decide) (by decide), isHour7, isBerth7, decide_eq_true_eq]
  by_cases c0 : ((1 : Int32) ≤ p1 ∧ p1 ≤ 50)
  case neg => rw [if_neg c0]
  rw [if_pos c0]
  by_cases c1 : ((0 : Int32) ≤ p2 ∧ p2 ≤ 9)
  case neg => rw [if_neg c1]
  rw [if_pos c1]
  by_cases c2 : ((0 : Int32) ≤ p3 ∧ p3 ≤ 47)
  case neg => rw [if_neg c2]
  rw [if_pos c2]
  by_cases c3 : ((1 : Int32) ≤ p4 ∧ p4 ≤ 4)
  case neg => rw [if_neg c3]
  rw [if_pos c3]
  by_cases c4 : ((1 : Int32) ≤ p5 ∧ p5 ≤ 20)
  case neg => rw [if_neg c4]
  rw [if_pos c4]
  by_cases c5 : ((0 : Int32) ≤ p6 ∧ p6 ≤ 5)
  case neg => rw [if_neg c5]
  rw [if_pos c5]
  by_cases c6 : ((0 : Int32) ≤ p7 ∧ p7 ≤ 5)
  case neg => rw [if_neg c6]
  rw [if_pos c6]
  exact absurd ⟨c0, c1, c2, c3, c4, c5, c6⟩ hc
theorem pr_ship (h : ST g w) : Ok (s_X6_ship 0 p1 p2 p3 p4 p5 p6 p7 g w) (fun q => Ok (s_X7_ship 0 p1 p2 p3 p4 p5 p6 p7 q.2.1 q.2.2) (fun r => ST r.2.1 r.2.2 ∧ q.1 = r.1)) := by
  by_cases hc : ((1 : Int32) ≤ p1 ∧ p1 ≤ 50) ∧ ((0 : Int32) ≤ p2 ∧ p2 ≤ 9) ∧ ((0 : Int32) ≤ p3 ∧ p3 ≤ 47) ∧ ((1 : Int32) ≤ p4 ∧ p4 ≤ 4) ∧ ((1 : Int32) ≤ p5 ∧ p5 ≤ 20) ∧ ((0 : Int32) ≤ p6 ∧ p6 ≤ 5) ∧ ((0 : Int32) ≤ p7 ∧ p7 ≤ 5)
  · obtain ⟨c0, c1, c2, c3, c4, c5, c6⟩ := hc
    have ew : w 2218 0 65 = (g 1 0 10).toInt64 := h.2.2.2.1.2.2.2.1 1 (by decide)
    have q := h.2.1 2218 0 65
    rw [ew, show wk 2218 0 65 = 4 from rfl] at q
    have q1 : 0 ≤ (g 1 0 10).toInt64.toInt := q.1
    have q2 : (g 1 0 10).toInt64.toInt ≤ 8 := q.2
    rw [Int32.toInt_toInt64] at q1 q2
    obtain ⟨a, ha, ea⟩ := I_ex (v := g 1 0 10) (n := 8) q1 q2
    rw [ea] at ew
    by_cases hf : a < 8
    · rw [ship6_e ea hf c0 c1 c2 c3 c4 c5 c6]
      refine ok_some ?_
      show Ok (s_X7_ship 0 p1 p2 p3 p4 p5 p6 p7 (shipg a p1 p2 p3 p4 p5 p6 p7 g) (shipw a w)) _
      rw [ship7_e ((shipw_o (by decide)).trans ew) hf c0 c1 c2 c3 c4 c5 c6]
      refine ok_some ⟨?_, rfl⟩
      show ST (shipg a p1 p2 p3 p4 p5 p6 p7 g) (shipl a p1 p2 p3 p4 p5 p6 p7 (shipw a w))
      exact st_ship h hf (v := shipv p1 p2 p3 p4 p5 p6 p7) (fun F i j q1 q2 => shipg_o q1 q2) (fun j hj => shipg_v hj) (by unfold shipg; rw [gI_at, if_pos ⟨rfl, rfl, rfl⟩]) (fun F i j q1 q2 => (shipl_o q2).trans (shipw_o q1)) (fun j hj => shipl_v hj) (by unfold shipl; rw [wL_at, if_pos ⟨rfl, rfl, rfl⟩]) (by have := rngN c2 (a := 0) (b := 47) rfl rfl; show 0 ≤ p3.toInt ∧ p3.toInt ≤ 47; omega) (by have := rngN c3 (a := 1) (b := 4) rfl rfl; show 0 ≤ p4.toInt ∧ p4.toInt ≤ 4; omega) (by have := rngN c5 (a := 0) (b := 5) rfl rfl; show 0 ≤ p6.toInt ∧ p6.toInt ≤ 5; omega) (by have := rngN c6 (a := 0) (b := 5) rfl rfl; show 0 ≤ p7.toInt ∧ p7.toInt ≤ 5; omega) (by unfold shipl; rw [wL_at, if_neg (by omega), wL_at, if_neg (by omega), wL_at, if_pos ⟨rfl, rfl, rfl⟩])
    · have e : a = 8 := by omega
      subst e
      rw [ship6_full (a := 0) ea c0 c1 c2 c3 c4 c5 c6]
      refine ok_some ?_
      show Ok (s_X7_ship 0 p1 p2 p3 p4 p5 p6 p7 g w) _
      rw [ship7_full ew c0 c1 c2 c3 c4 c5 c6]
      exact ok_some ⟨h, rfl⟩
  · rw [ship6_bad hc]
    refine ok_some ?_
    show Ok (s_X7_ship 0 p1 p2 p3 p4 p5 p6 p7 g w) _
    rw [ship7_bad hc]
    exact ok_some ⟨h, rfl⟩
end
