/-! a rule told -/
section
variable {g : Nat → Nat → Nat → Int32} {w : Nat → Nat → Nat → Int64} {p1 p2 : Int32}
theorem st_rule (h : ST g w) {j0 : Nat} (hj0 : j0 < 3) (hg : rgg (gk 1 (5 + j0)) p2) (hw : rgw (kd (60 + j0)) p2.toInt64) : ST (gI g 1 0 (5 + j0) p2) (wL w 2218 0 (60 + j0) p2.toInt64) := by
  obtain ⟨h1, h2, h3, hb, h5, h6, h7, h8⟩ := h
  refine ⟨invG_gI h1 hg, invW_wL h2 hw, invK_wL (invK_gI h3 (by omega)) (by decide), ?_, ?_, ?_, ?_, ?_⟩
  · refine ⟨fun x hx => ?_, fun x hx => ?_, fun j hj => ?_, fun j hj => ?_, fun t ht j hj => ?_, fun s hs j hj => ?_⟩
    · rw [wL_at, gI_at, if_neg (by omega), if_neg (by omega)]; exact hb.1 x hx
    · rw [wL_at, gI_at, if_neg (by omega), if_neg (by omega)]; exact hb.2.1 x hx
    · rw [wL_at, gI_at]
      by_cases e : j = j0
      · rw [if_pos ⟨rfl, rfl, by omega⟩, if_pos ⟨rfl, rfl, by omega⟩]
      · rw [if_neg (by omega), if_neg (by omega)]; exact hb.2.2.1 j hj
    · rw [wL_at, gI_at, if_neg (by omega), if_neg (by omega)]; exact hb.2.2.2.1 j hj
    · rw [wL_at, gI_at, if_neg (by omega), if_neg (by omega)]; exact hb.2.2.2.2.1 t ht j hj
    · rw [wL_at, gI_at, if_neg (by omega), if_neg (by omega)]; exact hb.2.2.2.2.2 s hs j hj
  · rw [gI_at, gI_at, if_neg (by omega), if_neg (by omega)]; exact h5
  · intro i hi
    rw [gI_at, if_neg (by omega)] at hi
    have q := h6 i hi
    refine ⟨fun x hx => ?_, fun x hx => ?_, fun j hj => ?_, fun j hj => ?_, fun t ht j hj => ?_, fun s hs j hj => ?_⟩
    · dsimp only; rw [wL_at, gI_at, if_neg (by omega), if_neg (by omega)]; exact q.1 x hx
    · dsimp only; rw [wL_at, gI_at, if_neg (by omega), if_neg (by omega)]; exact q.2.1 x hx
    · dsimp only; rw [wL_at, gI_at, if_neg (by omega), if_neg (by omega)]; exact q.2.2.1 j hj
    · dsimp only; rw [wL_at, gI_at, if_neg (by omega), if_neg (by omega)]; exact q.2.2.2.1 j hj
    · dsimp only; rw [wL_at, gI_at, if_neg (by omega), if_neg (by omega)]; exact q.2.2.2.2.1 t ht j hj
    · dsimp only; rw [wL_at, gI_at, if_neg (by omega), if_neg (by omega)]; exact q.2.2.2.2.2 s hs j hj
  · rw [gI_at, gI_at, if_neg (by omega), if_neg (by omega)]; exact h7
  · intro r hr j hj
    rw [gI_at, gI_at, if_neg (by omega), if_neg (by omega)]; exact h8 r hr j hj
theorem rule_7 (lo hi : Int32) {l hl : Int64} (el : lo.toInt64 = l) (eh : hi.toInt64 = hl) {j0 : Nat} (hj0 : j0 < 3) (h : ST g w) (hb : (lo ≤ p2 ∧ p2 ≤ hi) → rgg (gk 1 (5 + j0)) p2 ∧ rgw (kd (60 + j0)) p2.toInt64) :
    ((lo ≤ p2 ∧ p2 ≤ hi) → Ok (s_X7_rule_46 0 (I j0) p2 p2.toInt64 l hl (gI g 1 0 (5 + j0) p2) w) (fun r => ST r.2.1 r.2.2 ∧ g 1 0 (5 + j0) = r.1)) ∧
    (¬ (lo ≤ p2 ∧ p2 ≤ hi) → Ok (s_X7_rule_46 0 (I j0) p2 p2.toInt64 l hl g w) (fun r => ST r.2.1 r.2.2 ∧ -1 = r.1)) := by
  refine ⟨fun hc => ?_, fun hc => ?_⟩
  · unfold s_X7_rule_46
    have e60 : (60 : Int32) + I j0 = I (60 + j0) := I_add 60 j0
    rw [in32 p2 lo hi el eh, if_pos (decide_eq_true hc), e60, if_pos (inR_I (by omega) (by decide)), if_pos (inR_I (by omega) (by decide)), I_tn (by omega)]
    refine ok_some ⟨st_rule h hj0 (hb hc).1 (hb hc).2, ?_⟩
    show g 1 0 (5 + j0) = (w 2218 0 (60 + j0)).toInt32
    rw [h.2.2.2.1.2.2.1 j0 hj0, t6432]
  · unfold s_X7_rule_46 s_X7_rule_52
    rw [in32 p2 lo hi el eh, if_neg (fun q => hc (of_decide_eq_true q))]
    exact ok_some ⟨h, rfl⟩
theorem x7_rule0 (g : Nat → Nat → Nat → Int32) (w : Nat → Nat → Nat → Int64) : s_X7_rule 0 (I 0) p2 g w = s_X7_rule_46 0 (I 0) p2 p2.toInt64 0 6 g w := by
  unfold s_X7_rule s_X7_rule_24
  rw [in32 (I 0) 0 2 (by decide) (by decide), if_pos (by decide)]
  rfl
theorem x6_rule0 (g : Nat → Nat → Nat → Int32) (w : Nat → Nat → Nat → Int64) : s_X6_rule 0 (I 0) p2 g w = if (0 : Int32) ≤ p2 ∧ p2 ≤ 6 then (g 1 0 5, gI g 1 0 5 p2, w) else (-1, g, w) := by
  unfold s_X6_rule s_X6_rule_35 s_X6_rule_68 s_X6_rule_99
  simp only [within_eq]
  by_cases hc : (0 : Int32) ≤ p2 ∧ p2 ≤ 6
  · rw [if_pos hc]
    simp [hc, show I 0 = 0 from rfl]
  · rw [if_neg hc]
    simp [hc, show I 0 = 0 from rfl]
theorem x7_rule1 (g : Nat → Nat → Nat → Int32) (w : Nat → Nat → Nat → Int64) : s_X7_rule 0 (I 1) p2 g w = s_X7_rule_46 0 (I 1) p2 p2.toInt64 0 1 g w := by
  unfold s_X7_rule s_X7_rule_24
  rw [in32 (I 1) 0 2 (by decide) (by decide), if_pos (by decide)]
  rfl
theorem x6_rule1 (g : Nat → Nat → Nat → Int32) (w : Nat → Nat → Nat → Int64) : s_X6_rule 0 (I 1) p2 g w = if (0 : Int32) ≤ p2 ∧ p2 ≤ 1 then (g 1 0 6, gI g 1 0 6 p2, w) else (-1, g, w) := by
  unfold s_X6_rule s_X6_rule_35 s_X6_rule_68 s_X6_rule_99
  simp only [within_eq]
  by_cases hc : (0 : Int32) ≤ p2 ∧ p2 ≤ 1
  · rw [if_pos hc]
    simp [hc, show I 1 = 1 from rfl]
  · rw [if_neg hc]
    simp [hc, show I 1 = 1 from rfl]
theorem x7_rule2 (g : Nat → Nat → Nat → Int32) (w : Nat → Nat → Nat → Int64) : s_X7_rule 0 (I 2) p2 g w = s_X7_rule_46 0 (I 2) p2 p2.toInt64 1 30 g w := by
  unfold s_X7_rule s_X7_rule_24
  rw [in32 (I 2) 0 2 (by decide) (by decide), if_pos (by decide)]
  rfl
theorem x6_rule2 (g : Nat → Nat → Nat → Int32) (w : Nat → Nat → Nat → Int64) : s_X6_rule 0 (I 2) p2 g w = if (1 : Int32) ≤ p2 ∧ p2 ≤ 30 then (g 1 0 7, gI g 1 0 7 p2, w) else (-1, g, w) := by
  unfold s_X6_rule s_X6_rule_35 s_X6_rule_68 s_X6_rule_99
  simp only [within_eq]
  by_cases hc : (1 : Int32) ≤ p2 ∧ p2 ≤ 30
  · rw [if_pos hc]
    simp [hc, show I 2 = 2 from rfl]
  · rw [if_neg hc]
    simp [hc, show I 2 = 2 from rfl]
theorem pr_rule (h : ST g w) : Ok (s_X7_rule 0 p1 p2 (s_X6_rule 0 p1 p2 g w).2.1 (s_X6_rule 0 p1 p2 g w).2.2) (fun r => ST r.2.1 r.2.2 ∧ (s_X6_rule 0 p1 p2 g w).1 = r.1) := by
  by_cases e0 : p1 = I 0
  · subst e0
    have k := rule_7 (p2 := p2) 0 6 (l := 0) (hl := 6) (by decide) (by decide) (j0 := 0) (by decide) h (fun hc => by
      have q := rngN hc (a := 0) (b := 6) rfl rfl
      refine ⟨q, ?_⟩
      show _ ≤ p2.toInt64.toInt ∧ p2.toInt64.toInt ≤ _
      rw [Int32.toInt_toInt64]
      exact q)
    rw [x6_rule0, x7_rule0]
    by_cases hc : (0 : Int32) ≤ p2 ∧ p2 ≤ 6
    · rw [if_pos hc]; exact k.1 hc
    · rw [if_neg hc]; exact k.2 hc
  by_cases e1 : p1 = I 1
  · subst e1
    have k := rule_7 (p2 := p2) 0 1 (l := 0) (hl := 1) (by decide) (by decide) (j0 := 1) (by decide) h (fun hc => by
      have q := rngN hc (a := 0) (b := 1) rfl rfl
      refine ⟨rgg_0 _, ?_⟩
      show _ ≤ p2.toInt64.toInt ∧ p2.toInt64.toInt ≤ _
      rw [Int32.toInt_toInt64]
      exact ⟨by have := p2.le_toInt; show (-9223372036854775808 : Int) ≤ _; omega, by have := p2.toInt_lt; show _ ≤ (9223372036854775807 : Int); omega⟩)
    rw [x6_rule1, x7_rule1]
    by_cases hc : (0 : Int32) ≤ p2 ∧ p2 ≤ 1
    · rw [if_pos hc]; exact k.1 hc
    · rw [if_neg hc]; exact k.2 hc
  by_cases e2 : p1 = I 2
  · subst e2
    have k := rule_7 (p2 := p2) 1 30 (l := 1) (hl := 30) (by decide) (by decide) (j0 := 2) (by decide) h (fun hc => by
      have q := rngN hc (a := 1) (b := 30) rfl rfl
      refine ⟨rgg_0 _, ?_⟩
      show _ ≤ p2.toInt64.toInt ∧ p2.toInt64.toInt ≤ _
      rw [Int32.toInt_toInt64]
      exact q)
    rw [x6_rule2, x7_rule2]
    by_cases hc : (1 : Int32) ≤ p2 ∧ p2 ≤ 30
    · rw [if_pos hc]; exact k.1 hc
    · rw [if_neg hc]; exact k.2 hc
  have e6 : s_X6_rule 0 p1 p2 g w = (-1, g, w) := by
    unfold s_X6_rule s_X6_rule_35 s_X6_rule_68 s_X6_rule_99
    rw [if_pos (show p1 ≠ 0 from e0), if_pos (show p1 ≠ 1 from e1), if_pos (show p1 ≠ 2 from e2)]
  have e7 : s_X7_rule 0 p1 p2 g w = some (-1, g, w) := by
    unfold s_X7_rule s_X7_rule_52
    rw [in32 p1 0 2 (by decide) (by decide), if_neg ?_]
    intro hq
    have q := rngN (of_decide_eq_true hq) (a := 0) (b := 2) rfl rfl
    obtain ⟨k, hk, r⟩ := I_ex (v := p1) (n := 2) q.1 q.2
    have : k = 0 ∨ k = 1 ∨ k = 2 := by omega
    rcases this with rfl | rfl | rfl
    · exact e0 r
    · exact e1 r
    · exact e2 r
  rw [e6]
  show Ok (s_X7_rule 0 p1 p2 g w) _
  rw [e7]
  exact ok_some ⟨h, rfl⟩
end
