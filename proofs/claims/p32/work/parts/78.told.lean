/-! what is told, with all that holds -/
section
variable {g : Nat → Nat → Nat → Int32} {w : Nat → Nat → Nat → Int64} {p1 p2 p3 p4 p5 p6 p7 : Int32}
theorem re_tide (H : REL g w) : Ok (s_X6_tide 0 p1 p2 g w) (fun q => Ok (s_X7_tide 0 p1 p2 q.2.1 q.2.2) (fun r => REL r.2.1 r.2.2 ∧ q.1 = r.1)) := by
  have h := H.1
  have key : ∀ (g : Nat → Nat → Nat → Int32) (w : Nat → Nat → Nat → Int64), s_X7_tide 0 p1 p2 g w = if decide ((0 : Int32) ≤ p1 ∧ p1 ≤ 11) = true then (if decide ((0 : Int32) ≤ p2 ∧ p2 ≤ 9) = true then (if inR p1 218 = true then (if inR p1 218 = true then some (((w 2218 0 p1.toNatClampNeg).toInt32, g, (wL w 2218 0 p1.toNatClampNeg p2.toInt64))) else none) else none) else some ((-1, g, w))) else some ((-1, g, w)) := by
    intro g w
    unfold s_X7_tide s_X7_tide_24
    rw [in32 p1 0 11 (by decide) (by decide), in32 p2 0 9 (by decide) (by decide)]
  unfold s_X6_tide s_X6_tide_20
  rw [within_eq, within_eq]
  by_cases h1 : (0 : Int32) ≤ p1 ∧ p1 ≤ 11
  · rw [if_pos (decide_eq_true h1)]
    by_cases h2 : (0 : Int32) ≤ p2 ∧ p2 ≤ 9
    · rw [if_pos (decide_eq_true h2)]
      have q := rngN h1 (a := 0) (b := 11) rfl rfl
      obtain ⟨a, ha, rfl⟩ := I_ex (v := p1) (n := 11) q.1 q.2
      rw [if_pos (inR_I (by omega) (by decide)), if_pos (inR_I (by omega) (by decide))]
      refine ok_some ?_
      show Ok (s_X7_tide 0 (I a) p2 (gI g 1012 (td 0) (I a).toNatClampNeg p2) w) _
      rw [key, if_pos (decide_eq_true h1), if_pos (decide_eq_true h2), if_pos (inR_I (by omega) (by decide)), if_pos (inR_I (by omega) (by decide)), I_tn (by omega)]
      refine ok_some ⟨rel_tell H (st_tide h (by omega)) (Or.inl ⟨rfl, rfl⟩) (by omega) (fun q => by omega) (fun q => by omega) (fun q => by omega) (fun _ => rngN h2 (a := 0) (b := 9) rfl rfl), ?_⟩
      show g 1012 (td 0) a = (w 2218 0 a).toInt32
      rw [h.2.2.2.1.1 a (by omega), t6432]
    · rw [if_neg (fun q => h2 (of_decide_eq_true q))]
      refine ok_some ?_
      show Ok (s_X7_tide 0 p1 p2 g w) _
      rw [key, if_pos (decide_eq_true h1), if_neg (fun q => h2 (of_decide_eq_true q))]
      exact ok_some ⟨H, rfl⟩
  · rw [if_neg (fun q => h1 (of_decide_eq_true q))]
    refine ok_some ?_
    show Ok (s_X7_tide 0 p1 p2 g w) _
    rw [key, if_neg (fun q => h1 (of_decide_eq_true q))]
    exact ok_some ⟨H, rfl⟩
theorem re_wind (H : REL g w) : Ok (s_X6_wind 0 p1 p2 g w) (fun q => Ok (s_X7_wind 0 p1 p2 q.2.1 q.2.2) (fun r => REL r.2.1 r.2.2 ∧ q.1 = r.1)) := by
  have h := H.1
  have key : ∀ (g : Nat → Nat → Nat → Int32) (w : Nat → Nat → Nat → Int64), s_X7_wind 0 p1 p2 g w = if decide ((0 : Int32) ≤ p1 ∧ p1 ≤ 47) = true then (if decide ((0 : Int32) ≤ p2 ∧ p2 ≤ 9) = true then (if inR ((12 : Int32) + p1) 218 = true then (if inR ((12 : Int32) + p1) 218 = true then some (((w 2218 0 ((12 : Int32) + p1).toNatClampNeg).toInt32, g, (wL w 2218 0 ((12 : Int32) + p1).toNatClampNeg p2.toInt64))) else none) else none) else some ((-1, g, w))) else some ((-1, g, w)) := by
    intro g w
    unfold s_X7_wind s_X7_wind_19
    rw [isHour7, in32 p2 0 9 (by decide) (by decide)]
  unfold s_X6_wind s_X6_wind_17
  rw [isHour6, within_eq]
  by_cases h1 : (0 : Int32) ≤ p1 ∧ p1 ≤ 47
  · rw [if_pos (decide_eq_true h1)]
    by_cases h2 : (0 : Int32) ≤ p2 ∧ p2 ≤ 9
    · rw [if_pos (decide_eq_true h2)]
      have q := rngN h1 (a := 0) (b := 47) rfl rfl
      obtain ⟨a, ha, rfl⟩ := I_ex (v := p1) (n := 47) q.1 q.2
      rw [if_pos (inR_I (by omega) (by decide)), if_pos (inR_I (by omega) (by decide))]
      refine ok_some ?_
      show Ok (s_X7_wind 0 (I a) p2 (gI g 1048 0 (I a).toNatClampNeg p2) w) _
      have e12 : (12 : Int32) + I a = I (12 + a) := I_add 12 a
      rw [key, if_pos (decide_eq_true h1), if_pos (decide_eq_true h2), e12, if_pos (inR_I (by omega) (by decide)), if_pos (inR_I (by omega) (by decide)), I_tn (by omega), I_tn (by omega)]
      refine ok_some ⟨rel_tell H (st_wind h (by omega)) (Or.inr (Or.inl ⟨rfl, rfl⟩)) (by omega) (fun q => by omega) (fun q => by omega) (fun q => by omega) (fun _ => rngN h2 (a := 0) (b := 9) rfl rfl), ?_⟩
      show g 1048 0 a = (w 2218 0 (12 + a)).toInt32
      rw [h.2.2.2.1.2.1 a (by omega), t6432]
    · rw [if_neg (fun q => h2 (of_decide_eq_true q))]
      refine ok_some ?_
      show Ok (s_X7_wind 0 p1 p2 g w) _
      rw [key, if_pos (decide_eq_true h1), if_neg (fun q => h2 (of_decide_eq_true q))]
      exact ok_some ⟨H, rfl⟩
  · rw [if_neg (fun q => h1 (of_decide_eq_true q))]
    refine ok_some ?_
    show Ok (s_X7_wind 0 p1 p2 g w) _
    rw [key, if_neg (fun q => h1 (of_decide_eq_true q))]
    exact ok_some ⟨H, rfl⟩
theorem rule_7R (lo hi : Int32) {l hl : Int64} (el : lo.toInt64 = l) (eh : hi.toInt64 = hl) {j0 : Nat} (hj0 : j0 < 3) (H : REL g w) (hb : (lo ≤ p2 ∧ p2 ≤ hi) → rgg (gk 1 (5 + j0)) p2 ∧ rgw (kd (60 + j0)) p2.toInt64) (x0 : (lo ≤ p2 ∧ p2 ≤ hi) → j0 = 0 → (0 : Int) ≤ p2.toInt ∧ p2.toInt ≤ 6) (x1 : (lo ≤ p2 ∧ p2 ≤ hi) → j0 = 1 → (0 : Int) ≤ p2.toInt ∧ p2.toInt ≤ 1) (x2 : (lo ≤ p2 ∧ p2 ≤ hi) → j0 = 2 → (1 : Int) ≤ p2.toInt ∧ p2.toInt ≤ 30) :
    ((lo ≤ p2 ∧ p2 ≤ hi) → Ok (s_X7_rule_46 0 (I j0) p2 p2.toInt64 l hl (gI g 1 0 (5 + j0) p2) w) (fun r => REL r.2.1 r.2.2 ∧ g 1 0 (5 + j0) = r.1)) ∧
    (¬ (lo ≤ p2 ∧ p2 ≤ hi) → Ok (s_X7_rule_46 0 (I j0) p2 p2.toInt64 l hl g w) (fun r => REL r.2.1 r.2.2 ∧ -1 = r.1)) := by
  have h := H.1
  refine ⟨fun hc => ?_, fun hc => ?_⟩
  · unfold s_X7_rule_46
    have e60 : (60 : Int32) + I j0 = I (60 + j0) := I_add 60 j0
    rw [in32 p2 lo hi el eh, if_pos (decide_eq_true hc), e60, if_pos (inR_I (by omega) (by decide)), if_pos (inR_I (by omega) (by decide)), I_tn (by omega)]
    refine ok_some ⟨rel_tell H (st_rule h hj0 (hb hc).1 (hb hc).2) (Or.inr (Or.inr ⟨rfl, rfl, by omega, by omega⟩)) (by omega) (fun q => x0 hc (by omega)) (fun q => x1 hc (by omega)) (fun q => x2 hc (by omega)) (fun q => by omega), ?_⟩
    show g 1 0 (5 + j0) = (w 2218 0 (60 + j0)).toInt32
    rw [h.2.2.2.1.2.2.1 j0 hj0, t6432]
  · unfold s_X7_rule_46 s_X7_rule_52
    rw [in32 p2 lo hi el eh, if_neg (fun q => hc (of_decide_eq_true q))]
    exact ok_some ⟨H, rfl⟩
theorem re_rule (H : REL g w) : Ok (s_X7_rule 0 p1 p2 (s_X6_rule 0 p1 p2 g w).2.1 (s_X6_rule 0 p1 p2 g w).2.2) (fun r => REL r.2.1 r.2.2 ∧ (s_X6_rule 0 p1 p2 g w).1 = r.1) := by
  have h := H.1
  by_cases e0 : p1 = I 0
  · subst e0
    have k := rule_7R (p2 := p2) 0 6 (l := 0) (hl := 6) (by decide) (by decide) (j0 := 0) (by decide) H (fun hc => by
      have q := rngN hc (a := 0) (b := 6) rfl rfl
      refine ⟨q, ?_⟩
      show _ ≤ p2.toInt64.toInt ∧ p2.toInt64.toInt ≤ _
      rw [Int32.toInt_toInt64]
      exact q) (fun hc _ => rngN hc (a := 0) (b := 6) rfl rfl) (fun _ q => by omega) (fun _ q => by omega)
    rw [x6_rule0, x7_rule0]
    by_cases hc : (0 : Int32) ≤ p2 ∧ p2 ≤ 6
    · rw [if_pos hc]; exact k.1 hc
    · rw [if_neg hc]; exact k.2 hc
  by_cases e1 : p1 = I 1
  · subst e1
    have k := rule_7R (p2 := p2) 0 1 (l := 0) (hl := 1) (by decide) (by decide) (j0 := 1) (by decide) H (fun hc => by
      have q := rngN hc (a := 0) (b := 1) rfl rfl
      refine ⟨rgg_0 _, ?_⟩
      show _ ≤ p2.toInt64.toInt ∧ p2.toInt64.toInt ≤ _
      rw [Int32.toInt_toInt64]
      exact ⟨by have := p2.le_toInt; show (-9223372036854775808 : Int) ≤ _; omega, by have := p2.toInt_lt; show _ ≤ (9223372036854775807 : Int); omega⟩) (fun _ q => by omega) (fun hc _ => rngN hc (a := 0) (b := 1) rfl rfl) (fun _ q => by omega)
    rw [x6_rule1, x7_rule1]
    by_cases hc : (0 : Int32) ≤ p2 ∧ p2 ≤ 1
    · rw [if_pos hc]; exact k.1 hc
    · rw [if_neg hc]; exact k.2 hc
  by_cases e2 : p1 = I 2
  · subst e2
    have k := rule_7R (p2 := p2) 1 30 (l := 1) (hl := 30) (by decide) (by decide) (j0 := 2) (by decide) H (fun hc => by
      have q := rngN hc (a := 1) (b := 30) rfl rfl
      refine ⟨rgg_0 _, ?_⟩
      show _ ≤ p2.toInt64.toInt ∧ p2.toInt64.toInt ≤ _
      rw [Int32.toInt_toInt64]
      exact q) (fun _ q => by omega) (fun _ q => by omega) (fun hc _ => rngN hc (a := 1) (b := 30) rfl rfl)
    rw [x6_rule2, x7_rule2]
    by_cases hc : (1 : Int32) ≤ p2 ∧ p2 ≤ 30
    · rw [if_pos hc]; exact k.1 hc
    · rw [if_neg hc]; exact k.2 hc
  have e6 : s_X6_rule 0 p1 p2 g w = (-1, g, w) := by
    unfold s_X6_rule s_X6_rule_35 s_X6_rule_68 s_X6_rule_99
    rw [if_pos (show p1 ≠ 0 from e0), if_pos (show p1 ≠ 1 from e1), if_pos (show p1 ≠ 2 from e2)]
  have e7 : s_X7_rule 0 p1 p2 g w = some (-1, g, w) := by
    unfold s_X7_rule s_X7_rule_52
    rw [in32 p1 0 2 (by decide) (by decide), if_neg ?_]
    intro hq
    have q := rngN (of_decide_eq_true hq) (a := 0) (b := 2) rfl rfl
    obtain ⟨k, hk, r⟩ := I_ex (v := p1) (n := 2) q.1 q.2
    have : k = 0 ∨ k = 1 ∨ k = 2 := by omega
    rcases this with rfl | rfl | rfl
    · exact e0 r
    · exact e1 r
    · exact e2 r
  rw [e6]
  show Ok (s_X7_rule 0 p1 p2 g w) _
  rw [e7]
  exact ok_some ⟨H, rfl⟩
end
