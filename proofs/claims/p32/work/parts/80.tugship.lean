/-! a tug, a ship told: both sides, all that holds -/
section
variable {g : Nat → Nat → Nat → Int32} {w : Nat → Nat → Nat → Int64} {p1 p2 p3 p4 p5 p6 p7 : Int32}
theorem re_tug (H : REL g w) : Ok (s_X6_tug 0 p1 p2 p3 p4 p5 p6 p7 g w) (fun q => Ok (s_X7_tug 0 p1 p2 p3 p4 p5 p6 p7 q.2.1 q.2.2) (fun r => REL r.2.1 r.2.2 ∧ q.1 = r.1)) := by
  have h := H.1
  by_cases hc : ((0 : Int32) ≤ p1 ∧ p1 ≤ 1) ∧ ((1 : Int32) ≤ p2 ∧ p2 ≤ 60) ∧ ((0 : Int32) ≤ p3 ∧ p3 ≤ 1) ∧ ((1 : Int32) ≤ p5 ∧ p5 ≤ 48) ∧ ((0 : Int32) ≤ p4 ∧ p4 ≤ p5) ∧ ((1 : Int32) ≤ p6 ∧ p6 ≤ 12) ∧ ((0 : Int32) ≤ p7 ∧ p7 ≤ 5)
  · obtain ⟨c0, c1, c2, c3, c4, c5, c6⟩ := hc
    have ew : w 2218 0 64 = (g 1 0 9).toInt64 := h.2.2.2.1.2.2.2.1 0 (by decide)
    have q := h.2.1 2218 0 64
    rw [ew, show wk 2218 0 64 = 3 from rfl] at q
    have q1 : 0 ≤ (g 1 0 9).toInt64.toInt := q.1
    have q2 : (g 1 0 9).toInt64.toInt ≤ 6 := q.2
    rw [Int32.toInt_toInt64] at q1 q2
    obtain ⟨a, ha, ea⟩ := I_ex (v := g 1 0 9) (n := 6) q1 q2
    rw [ea] at ew
    by_cases hf : a < 6
    · rw [tug6_e ea hf c0 c1 c2 c3 c4 c5 c6]
      refine ok_some ?_
      show Ok (s_X7_tug 0 p1 p2 p3 p4 p5 p6 p7 (tugg a p1 p2 p3 p4 p5 p6 p7 g) (tugw a w)) _
      rw [tug7_e ((tugw_o (by decide)).trans ew) hf c0 c1 c2 c3 c4 c5 c6]
      refine ok_some ⟨?_, rfl⟩
      show REL (tugg a p1 p2 p3 p4 p5 p6 p7 g) (tugl a p1 p2 p3 p4 p5 p6 p7 (tugw a w))
      have S : ST (tugg a p1 p2 p3 p4 p5 p6 p7 g) (tugl a p1 p2 p3 p4 p5 p6 p7 (tugw a w)) := st_tug h hf (v := tugv p1 p2 p3 p4 p5 p6 p7) (fun F i j q1 q2 => tugg_o q1 q2) (fun j hj => tugg_v hj) (by unfold tugg; rw [gI_at, if_pos ⟨rfl, rfl, rfl⟩]) (fun F i j q1 q2 => (tugl_o q2).trans (tugw_o q1)) (fun j hj => tugl_v hj) (by unfold tugl; rw [wL_at, if_pos ⟨rfl, rfl, rfl⟩]) (by have := rngN c5 (a := 1) (b := 12) rfl rfl; show 0 ≤ p6.toInt ∧ p6.toInt ≤ 12; omega) (by have := rngN c6 (a := 0) (b := 5) rfl rfl; show 0 ≤ p7.toInt ∧ p7.toInt ≤ 5; omega)
      obtain ⟨_, pl, ba, L⟩ := H
      refine ⟨S, pl, ba, ?_⟩
      refine rl_tug L hf ew (v := tugv p1 p2 p3 p4 p5 p6 p7) (fun F i j q1 q2 => tugg_o q1 q2) ?_ (fun F i j q1 q2 => (tugl_o q2).trans ?_) ?_ ?_ (by unfold tugl; rw [wL_at, if_pos ⟨rfl, rfl, rfl⟩]) (fun j hj => tugl_v hj) ?_ ?_ ?_ (rngN c0 (a := 0) (b := 1) rfl rfl) (rngN c1 (a := 1) (b := 60) rfl rfl) (rngN c2 (a := 0) (b := 1) rfl rfl) ?_ (rngN c3 (a := 1) (b := 48) rfl rfl) (rngN c5 (a := 1) (b := 12) rfl rfl) (rngN c6 (a := 0) (b := 5) rfl rfl)
      · unfold tugg; rw [gI_at, if_neg (by omega), gI_at, if_pos ⟨rfl, rfl, rfl⟩]
      · unfold tugw; rw [wL_at, if_neg (by omega), wL_at, if_neg (by omega)]
      · rw [tugl_o (by omega)]; unfold tugw; rw [wL_at, if_neg (by omega), wL_at, if_pos ⟨rfl, rfl, rfl⟩]
      · rw [tugl_o (by omega)]; unfold tugw; rw [wL_at, if_pos ⟨rfl, rfl, rfl⟩]
      · unfold tugl; rw [wL_at, if_neg (by omega), wL_at, if_neg (by omega), wL_at, if_neg (by omega), wL_at, if_pos ⟨rfl, rfl, rfl⟩]
      · unfold tugl; rw [wL_at, if_neg (by omega), wL_at, if_neg (by omega), wL_at, if_pos ⟨rfl, rfl, rfl⟩]
      · unfold tugl; rw [wL_at, if_neg (by omega), wL_at, if_pos ⟨rfl, rfl, rfl⟩]
      · have q1 := Int32.le_iff_toInt_le.mp c4.1
        have q2 := Int32.le_iff_toInt_le.mp c4.2
        exact ⟨q1, q2⟩
    · have e : a = 6 := by omega
      subst e
      rw [tug6_full (a := 0) ea c0 c1 c2 c3 c4 c5 c6]
      refine ok_some ?_
      show Ok (s_X7_tug 0 p1 p2 p3 p4 p5 p6 p7 g w) _
      rw [tug7_full ew c0 c1 c2 c3 c4 c5 c6]
      exact ok_some ⟨H, rfl⟩
  · rw [tug6_bad hc]
    refine ok_some ?_
    show Ok (s_X7_tug 0 p1 p2 p3 p4 p5 p6 p7 g w) _
    rw [tug7_bad hc]
    exact ok_some ⟨H, rfl⟩
theorem re_ship (H : REL g w) : Ok (s_X6_ship 0 p1 p2 p3 p4 p5 p6 p7 g w) (fun q => Ok (s_X7_ship 0 p1 p2 p3 p4 p5 p6 p7 q.2.1 q.2.2) (fun r => REL r.2.1 r.2.2 ∧ q.1 = r.1)) := by
  have h := H.1
  by_cases hc : ((1 : Int32) ≤ p1 ∧ p1 ≤ 50) ∧ ((0 : Int32) ≤ p2 ∧ p2 ≤ 9) ∧ ((0 : Int32) ≤ p3 ∧ p3 ≤ 47) ∧ ((1 : Int32) ≤ p4 ∧ p4 ≤ 4) ∧ ((1 : Int32) ≤ p5 ∧ p5 ≤ 20) ∧ ((0 : Int32) ≤ p6 ∧ p6 ≤ 5) ∧ ((0 : Int32) ≤ p7 ∧ p7 ≤ 5)
  · obtain ⟨c0, c1, c2, c3, c4, c5, c6⟩ := hc
    have ew : w 2218 0 65 = (g 1 0 10).toInt64 := h.2.2.2.1.2.2.2.1 1 (by decide)
    have q := h.2.1 2218 0 65
    rw [ew, show wk 2218 0 65 = 4 from rfl] at q
    have q1 : 0 ≤ (g 1 0 10).toInt64.toInt := q.1
    have q2 : (g 1 0 10).toInt64.toInt ≤ 8 := q.2
    rw [Int32.toInt_toInt64] at q1 q2
    obtain ⟨a, ha, ea⟩ := I_ex (v := g 1 0 10) (n := 8) q1 q2
    rw [ea] at ew
    by_cases hf : a < 8
    · rw [ship6_e ea hf c0 c1 c2 c3 c4 c5 c6]
      refine ok_some ?_
      show Ok (s_X7_ship 0 p1 p2 p3 p4 p5 p6 p7 (shipg a p1 p2 p3 p4 p5 p6 p7 g) (shipw a w)) _
      rw [ship7_e ((shipw_o (by decide)).trans ew) hf c0 c1 c2 c3 c4 c5 c6]
      refine ok_some ⟨?_, rfl⟩
      show REL (shipg a p1 p2 p3 p4 p5 p6 p7 g) (shipl a p1 p2 p3 p4 p5 p6 p7 (shipw a w))
      have S : ST (shipg a p1 p2 p3 p4 p5 p6 p7 g) (shipl a p1 p2 p3 p4 p5 p6 p7 (shipw a w)) := st_ship h hf (v := shipv p1 p2 p3 p4 p5 p6 p7) (fun F i j q1 q2 => shipg_o q1 q2) (fun j hj => shipg_v hj) (by unfold shipg; rw [gI_at, if_pos ⟨rfl, rfl, rfl⟩]) (fun F i j q1 q2 => (shipl_o q2).trans (shipw_o q1)) (fun j hj => shipl_v hj) (by unfold shipl; rw [wL_at, if_pos ⟨rfl, rfl, rfl⟩]) (by have := rngN c2 (a := 0) (b := 47) rfl rfl; show 0 ≤ p3.toInt ∧ p3.toInt ≤ 47; omega) (by have := rngN c3 (a := 1) (b := 4) rfl rfl; show 0 ≤ p4.toInt ∧ p4.toInt ≤ 4; omega) (by have := rngN c5 (a := 0) (b := 5) rfl rfl; show 0 ≤ p6.toInt ∧ p6.toInt ≤ 5; omega) (by have := rngN c6 (a := 0) (b := 5) rfl rfl; show 0 ≤ p7.toInt ∧ p7.toInt ≤ 5; omega) (by unfold shipl; rw [wL_at, if_neg (by omega), wL_at, if_neg (by omega), wL_at, if_pos ⟨rfl, rfl, rfl⟩])
      obtain ⟨_, pl, ba, L⟩ := H
      refine ⟨S, pl, ba, ?_⟩
      refine rl_ship L hf ew (v := shipv p1 p2 p3 p4 p5 p6 p7) (fun F i j q1 q2 => shipg_o q1 q2) ?_ ?_ (fun F i j q => (shipl_o q).trans rfl) (by unfold shipl; rw [wL_at, if_pos ⟨rfl, rfl, rfl⟩]) (fun j hj => shipl_v hj) ?_ ?_ (rngN c0 (a := 1) (b := 50) rfl rfl) (rngN c1 (a := 0) (b := 9) rfl rfl) (rngN c2 (a := 0) (b := 47) rfl rfl) (rngN c3 (a := 1) (b := 4) rfl rfl) (rngN c4 (a := 1) (b := 20) rfl rfl) (rngN c5 (a := 0) (b := 5) rfl rfl) (rngN c6 (a := 0) (b := 5) rfl rfl)
      · unfold shipg; rw [gI_at, if_neg (by omega), gI_at, if_neg (by omega), gI_at, if_pos ⟨rfl, rfl, rfl⟩]
      · unfold shipg; rw [gI_at, if_neg (by omega), gI_at, if_pos ⟨rfl, rfl, rfl⟩]
      · unfold shipl; rw [wL_at, if_neg (by omega), wL_at, if_neg (by omega), wL_at, if_pos ⟨rfl, rfl, rfl⟩]
      · unfold shipl; rw [wL_at, if_neg (by omega), wL_at, if_pos ⟨rfl, rfl, rfl⟩]
    · have e : a = 8 := by omega
      subst e
      rw [ship6_full (a := 0) ea c0 c1 c2 c3 c4 c5 c6]
      refine ok_some ?_
      show Ok (s_X7_ship 0 p1 p2 p3 p4 p5 p6 p7 g w) _
      rw [ship7_full ew c0 c1 c2 c3 c4 c5 c6]
      exact ok_some ⟨H, rfl⟩
  · rw [ship6_bad hc]
    refine ok_some ?_
    show Ok (s_X7_ship 0 p1 p2 p3 p4 p5 p6 p7 g w) _
    rw [ship7_bad hc]
    exact ok_some ⟨H, rfl⟩
end
