/-! keep, back and the price's rules told, with all that holds -/
section
variable {g : Nat → Nat → Nat → Int32} {w : Nat → Nat → Nat → Int64} {p1 p2 p3 p4 : Int32}
theorem re_keep (H : REL g w) : Ok (s_X6_keep 0 g w) (fun q => Ok (s_X7_keep 0 q.2.1 q.2.2) (fun r => REL r.2.1 r.2.2 ∧ q.1 = r.1)) := by
  have h := H.1
  obtain ⟨a, ha, ea, e6⟩ := st_kept h
  by_cases hf : a < 3
  · have e : s_X6_keep 0 g w = some (I (a + 1), gI (cpg 6 8 15 (a + 2) 0 g) 6 0 5 (I (a + 1)), cpw 6 15 (a + 2) 0 w) := by
      unfold s_X6_keep
      have hc : (0 : Int32) ≤ I a ∧ I a ≤ 3 - 1 := ⟨(I_le (a := 0) (b := a) (by decide) (by omega)).mpr (by omega), (I_le (a := a) (b := 2) (by omega) (by decide)).mpr (by omega)⟩
      rw [within_eq, e6, if_pos (decide_eq_true hc), if_pos (inR_I hf (by decide)), I_tn (by omega), copyFrom_e (by omega)]
      show some (gI (cpg 6 8 15 (a + 2) 0 g) 6 0 5 (cpg 6 8 15 (a + 2) 0 g 6 0 5 + 1) 6 0 5, _, _) = _
      rw [cpg_o (by omega) (by omega) (by omega) (by omega) (by omega), e6, I_suc, gI_at, if_pos ⟨rfl, rfl, rfl⟩]
      show some (_, gI (cpg 6 8 15 (a + 2) 0 g) 6 0 5 (cpg 6 8 15 (a + 2) 0 g 6 0 5 + 1), _) = _
      rw [cpg_o (by omega) (by omega) (by omega) (by omega) (by omega), e6, I_suc]
    rw [e]
    refine ok_some ?_
    show Ok (s_X7_keep 0 (gI (cpg 6 8 15 (a + 2) 0 g) 6 0 5 (I (a + 1))) (cpw 6 15 (a + 2) 0 w)) _
    have e2 : gI (cpg 6 8 15 (a + 2) 0 g) 6 0 5 (I (a + 1)) 7 0 2 = I a := by
      rw [gI_at, if_neg (by omega), cpg_o (by omega) (by omega) (by omega) (by omega) (by omega)]; exact ea
    unfold s_X7_keep
    rw [if_pos (fun q => by have := I_inj (a := a) (b := 3) (by omega) (by decide) (e2.symm.trans q); omega)]
    have e3 : cpw 6 15 (a + 2) 0 w = kpw a 0 (cpw 6 15 (a + 2) 0 w) := by
      funext F i j; unfold kpw; rw [if_neg (by omega)]
    have k := keep_R13 (w := cpw 6 15 (a + 2) 0 w) e2 hf FU 0 (by decide) (by decide)
    rw [← e3] at k
    refine ⟨_, k, ?_, rfl⟩
    exact rel_keep H hf ea
  · have e3 : a = 3 := by omega
    subst e3
    have e : s_X6_keep 0 g w = some (-3, g, w) := by
      unfold s_X6_keep
      rw [within_eq, e6, if_neg (by decide)]
    rw [e]
    refine ok_some ?_
    show Ok (s_X7_keep 0 g w) _
    unfold s_X7_keep
    rw [if_neg (fun q => q ea)]
    exact ok_some ⟨H, rfl⟩
theorem re_back (H : REL g w) : Ok (s_X6_back 0 g w) (fun q => Ok (s_X7_back 0 q.2.1 q.2.2) (fun r => REL r.2.1 r.2.2 ∧ q.1 = r.1)) := by
  have h := H.1
  obtain ⟨a, ha, ea, e6⟩ := st_kept h
  by_cases hf : a = 0
  · subst hf
    have e : s_X6_back 0 g w = some (-2, g, w) := by
      unfold s_X6_back
      rw [within_eq, e6, if_neg (by decide)]
    rw [e]
    refine ok_some ?_
    show Ok (s_X7_back 0 g w) _
    unfold s_X7_back
    rw [if_neg (fun q => q ea)]
    exact ok_some ⟨H, rfl⟩
  · obtain ⟨b, rfl⟩ : ∃ b, a = b + 1 := ⟨a - 1, by omega⟩
    have hb3 : b < 3 := by omega
    have em : I (b + 1) - 1 = I b := by
      have : ∀ b, b < 3 → I (b + 1) - 1 = I b := by decide
      exact this b hb3
    have hne : b + 2 ≠ 0 := by omega
    have e : s_X6_back 0 g w = some (I b, gI (cpg 6 8 15 0 (b + 2) g) 6 0 5 (I b), cpw 6 15 0 (b + 2) w) := by
      unfold s_X6_back
      have hc : (0 : Int32) ≤ I b ∧ I b ≤ 3 - 1 := ⟨(I_le (a := 0) (b := b) (by decide) (by omega)).mpr (by omega), (I_le (a := b) (b := 2) (by omega) (by decide)).mpr (by omega)⟩
      rw [within_eq, e6, em, if_pos (decide_eq_true hc), if_pos (inR_I hb3 (by decide)), I_tn (by omega), copyFrom_e (by omega)]
      show some (gI (cpg 6 8 15 0 (b + 2) g) 6 0 5 (I b) 6 0 5, _, _) = _
      rw [gI_at, if_pos ⟨rfl, rfl, rfl⟩]
    rw [e]
    refine ok_some ?_
    show Ok (s_X7_back 0 (gI (cpg 6 8 15 0 (b + 2) g) 6 0 5 (I b)) (cpw 6 15 0 (b + 2) w)) _
    have e2 : gI (cpg 6 8 15 0 (b + 2) g) 6 0 5 (I b) 7 0 2 = I (b + 1) := by
      rw [gI_at, if_neg (by omega), cpg_o (by omega) (by omega) (by omega) (by omega) (by omega)]; exact ea
    unfold s_X7_back
    rw [if_pos (fun q => by have := I_inj (a := b + 1) (b := 0) (by omega) (by decide) (e2.symm.trans q); omega), e2, em]
    have e3 : cpw 6 15 0 (b + 2) w = bkw b 0 (cpw 6 15 0 (b + 2) w) := by
      funext F i j; unfold bkw; rw [if_neg (by omega)]
    have k := back_R22 (g := gI (gI (cpg 6 8 15 0 (b + 2) g) 6 0 5 (I b)) 7 0 2 (I b)) (w := cpw 6 15 0 (b + 2) w) (b := b) (by rw [gI_at, if_pos ⟨rfl, rfl, rfl⟩]) hb3 FU 0 (by decide) (by decide)
    rw [← e3] at k
    refine ⟨_, k, ?_, rfl⟩
    exact rel_back H hb3 ea
theorem re_told (H : REL g w) {t0 t1 t2 : Int64} (hin : ∀ (g : Nat → Nat → Nat → Int32) (w : Nat → Nat → Nat → Int64), s_X7_in t0 t1 t2 g w = true) :
    Ok (s_X6_priceRule_67 0 p1 p2 p3 p4 g w) (fun q => Ok (s_X7_priceRule_63 0 p1 p2 p3 p4 t0 t1 t2 q.2.1 q.2.2) (fun r => REL r.2.1 r.2.2 ∧ q.1 = r.1)) := by
  have h := H.1
  have e34 : g 3 0 4 = g 7 0 5 := h.2.2.2.2.2.2.1
  have q := h.1 7 0 5
  obtain ⟨a, ha, ea⟩ := I_ex (v := g 7 0 5) (n := 12) q.1 q.2
  by_cases h12 : a < 12
  · have e : s_X6_priceRule_67 0 p1 p2 p3 p4 g w = some (I (a + 1), gp 3 2 4 a p1 p2 p3 p4 (a + 1) g, w) := by
      unfold s_X6_priceRule_67
      rw [tell_e (e34.trans ea) h12]
      show (if true = true then s_X6_priceRule_94 0 p1 p2 p3 p4 (gp 3 2 4 a p1 p2 p3 p4 (a + 1) g 3 0 4) (gp 3 2 4 a p1 p2 p3 p4 (a + 1) g) w else s_X6_priceRule_94 0 p1 p2 p3 p4 (-3) (gp 3 2 4 a p1 p2 p3 p4 (a + 1) g) w) = _
      rw [if_pos rfl, gp_at (by decide), if_pos ⟨rfl, rfl, rfl⟩]
      rfl
    have e7 : gp 3 2 4 a p1 p2 p3 p4 (a + 1) g 7 0 5 = I a := by
      rw [gp_at (by decide), if_neg (by omega), if_neg (by omega), if_neg (by omega), if_neg (by omega), if_neg (by omega)]
      exact ea
    rw [e]
    refine ok_some ?_
    show Ok (s_X7_priceRule_63 0 p1 p2 p3 p4 t0 t1 t2 (gp 3 2 4 a p1 p2 p3 p4 (a + 1) g) w) _
    rw [told7 e7 h12 (hin _ _)]
    exact ok_some ⟨rel_price H h12, rfl⟩
  · have ha12 : a = 12 := by omega
    subst ha12
    have e : s_X6_priceRule_67 0 p1 p2 p3 p4 g w = some (-3, g, w) := by
      unfold s_X6_priceRule_67
      rw [tell_no (e34.trans ea) (by decide) (by decide)]
      show (if false = true then s_X6_priceRule_94 0 p1 p2 p3 p4 (g 3 0 4) g w else s_X6_priceRule_94 0 p1 p2 p3 p4 (-3) g w) = _
      rw [if_neg (by decide)]
      rfl
    rw [e]
    refine ok_some ?_
    show Ok (s_X7_priceRule_63 0 p1 p2 p3 p4 t0 t1 t2 g w) _
    rw [told7_no ea (hin _ _)]
    exact ok_some ⟨H, rfl⟩
theorem re_priceRule (H : REL g w) : Ok (s_X6_priceRule 0 p1 p2 p3 p4 g w) (fun q => Ok (s_X7_priceRule 0 p1 p2 p3 p4 q.2.1 q.2.2) (fun r => REL r.2.1 r.2.2 ∧ q.1 = r.1)) := by
  have h := H.1
  have key : ∀ (g : Nat → Nat → Nat → Int32) (w : Nat → Nat → Nat → Int64), s_X7_priceRule 0 p1 p2 p3 p4 g w = if decide ((0 : Int32) ≤ p1 ∧ p1 ≤ 6) = true then (if decide ((0 : Int32) ≤ p2 ∧ p2 ≤ 400) = true then (if decide ((0 : Int32) ≤ p3 ∧ p3 ≤ 1) = true then (if p3 ≠ 0 then s_X7_priceRule_63 0 p1 p2 p3 p4 p4.toInt64 (-100) 1000 g w else s_X7_priceRule_63 0 p1 p2 p3 p4 p4.toInt64 (-1000) 100000 g w) else some (-1, g, w)) else some (-1, g, w)) else some (-1, g, w) := by
    intro g w
    unfold s_X7_priceRule s_X7_priceRule_69 s_X7_priceRule_50
    rw [in32 p1 0 6 (by decide) (by decide), in32 p2 0 400 (by decide) (by decide), in32 p3 0 1 (by decide) (by decide)]
    by_cases h3 : p3 ≠ 0
    · simp only [if_pos h3]
    · simp only [if_neg h3]
  unfold s_X6_priceRule s_X6_priceRule_30 s_X6_priceRule_65
  rw [within_eq p1, within_eq p2, within_eq p3]
  have no : ∀ (hq : ∀ (g : Nat → Nat → Nat → Int32) (w : Nat → Nat → Nat → Int64), s_X7_priceRule 0 p1 p2 p3 p4 g w = some (-1, g, w)), Ok (some ((-1 : Int32), g, w)) (fun q => Ok (s_X7_priceRule 0 p1 p2 p3 p4 q.2.1 q.2.2) (fun r => REL r.2.1 r.2.2 ∧ q.1 = r.1)) := by
    intro hq
    refine ok_some ?_
    show Ok (s_X7_priceRule 0 p1 p2 p3 p4 g w) _
    rw [hq]
    exact ok_some ⟨H, rfl⟩
  by_cases h1 : decide ((0 : Int32) ≤ p1 ∧ p1 ≤ 6) = true
  · rw [if_pos h1]
    by_cases h2 : decide ((0 : Int32) ≤ p2 ∧ p2 ≤ 400) = true
    · rw [if_pos h2]
      by_cases h3 : decide ((0 : Int32) ≤ p3 ∧ p3 ≤ 1) = true
      · rw [if_pos h3]
        have key2 : ∀ (g : Nat → Nat → Nat → Int32) (w : Nat → Nat → Nat → Int64), s_X7_priceRule 0 p1 p2 p3 p4 g w = if p3 ≠ 0 then s_X7_priceRule_63 0 p1 p2 p3 p4 p4.toInt64 (-100) 1000 g w else s_X7_priceRule_63 0 p1 p2 p3 p4 p4.toInt64 (-1000) 100000 g w := by
          intro g w
          rw [key, if_pos h1, if_pos h2, if_pos h3]
        by_cases hk : p3 ≠ 0
        · rw [if_pos hk, within_eq p4]
          by_cases h4 : decide ((-100 : Int32) ≤ p4 ∧ p4 ≤ 1000) = true
          · rw [if_pos h4]
            have := re_told (p1 := p1) (p2 := p2) (p3 := p3) (p4 := p4) H (t0 := p4.toInt64) (t1 := -100) (t2 := 1000) (fun g w => by rw [in32 p4 (-100) 1000 (by decide) (by decide)]; exact h4)
            refine ok_imp this (fun q hq => ?_)
            rw [key2, if_pos hk]
            exact hq
          · rw [if_neg h4]
            refine no (fun g w => ?_)
            rw [key2, if_pos hk]
            exact x7_63no (by rw [in32 p4 (-100) 1000 (by decide) (by decide)]; exact h4)
        · rw [if_neg hk, within_eq p4]
          by_cases h4 : decide ((-1000 : Int32) ≤ p4 ∧ p4 ≤ 100000) = true
          · rw [if_pos h4]
            have := re_told (p1 := p1) (p2 := p2) (p3 := p3) (p4 := p4) H (t0 := p4.toInt64) (t1 := -1000) (t2 := 100000) (fun g w => by rw [in32 p4 (-1000) 100000 (by decide) (by decide)]; exact h4)
            refine ok_imp this (fun q hq => ?_)
            rw [key2, if_neg hk]
            exact hq
          · rw [if_neg h4]
            refine no (fun g w => ?_)
            rw [key2, if_neg hk]
            exact x7_63no (by rw [in32 p4 (-1000) 100000 (by decide) (by decide)]; exact h4)
      · rw [if_neg h3]
        exact no (fun g w => by rw [key, if_pos h1, if_pos h2, if_neg h3])
    · rw [if_neg h2]
      exact no (fun g w => by rw [key, if_pos h1, if_neg h2])
  · rw [if_neg h1]
    exact no (fun g w => by rw [key, if_neg h1])
end
