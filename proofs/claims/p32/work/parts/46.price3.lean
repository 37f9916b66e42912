/-! a rule of prices told: both sides -/
section
variable {g : Nat → Nat → Nat → Int32} {w : Nat → Nat → Nat → Int64} {p1 p2 p3 p4 : Int32}
theorem I_inj {a b : Nat} (ha : a < 2147483648) (hb : b < 2147483648) (h : I a = I b) : a = b := by
  have := congrArg Int32.toInt h
  rw [I_toInt ha, I_toInt hb] at this
  omega
theorem told7 {a : Nat} {t0 t1 t2 : Int64} (ea : g 7 0 5 = I a) (ha : a < 12) (hin : s_X7_in t0 t1 t2 g w = true) : s_X7_priceRule_63 0 p1 p2 p3 p4 t0 t1 t2 g w = some (I (a + 1), gp 7 9 5 a p1 p2 p3 p4 (a + 1) g, w) := by
  unfold s_X7_priceRule_63 gp
  have hn : (7 : Nat) ≠ 1012 := by decide
  have e : ∀ (G : Nat → Nat → Nat → Int32) (x : Int32), gI G 7 0 5 x 7 0 5 = x := fun G x => by rw [gI_at, if_pos ⟨rfl, rfl, rfl⟩]
  simp only [rd_1012 hn, ea, I_tn (show a < 2147483648 by omega)]
  have hr : inR (I a) 12 = true := inR_I ha (by decide)
  have h12 : I a ≠ (12 : Int32) := fun q => by
    have := I_inj (a := a) (b := 12) (by omega) (by decide) q
    omega
  rw [if_pos hin, if_pos h12]
  simp only [if_pos hr, I_suc, e]
theorem told7_no {t0 t1 t2 : Int64} (ea : g 7 0 5 = I 12) (hin : s_X7_in t0 t1 t2 g w = true) : s_X7_priceRule_63 0 p1 p2 p3 p4 t0 t1 t2 g w = some (-3, g, w) := by
  unfold s_X7_priceRule_63
  rw [if_pos hin, if_neg (fun q => q ea)]
theorem pr_told (h : ST g w) {t0 t1 t2 : Int64} (hin : ∀ (g : Nat → Nat → Nat → Int32) (w : Nat → Nat → Nat → Int64), s_X7_in t0 t1 t2 g w = true) :
    Ok (s_X6_priceRule_67 0 p1 p2 p3 p4 g w) (fun q => Ok (s_X7_priceRule_63 0 p1 p2 p3 p4 t0 t1 t2 q.2.1 q.2.2) (fun r => ST r.2.1 r.2.2 ∧ q.1 = r.1)) := by
  have e34 : g 3 0 4 = g 7 0 5 := h.2.2.2.2.2.2.1
  have q := h.1 7 0 5
  obtain ⟨a, ha, ea⟩ := I_ex (v := g 7 0 5) (n := 12) q.1 q.2
  by_cases h12 : a < 12
  · have e : s_X6_priceRule_67 0 p1 p2 p3 p4 g w = some (I (a + 1), gp 3 2 4 a p1 p2 p3 p4 (a + 1) g, w) := by
      unfold s_X6_priceRule_67
      rw [tell_e (e34.trans ea) h12]
      show (if true = true then s_X6_priceRule_94 0 p1 p2 p3 p4 (gp 3 2 4 a p1 p2 p3 p4 (a + 1) g 3 0 4) (gp 3 2 4 a p1 p2 p3 p4 (a + 1) g) w else s_X6_priceRule_94 0 p1 p2 p3 p4 (-3) (gp 3 2 4 a p1 p2 p3 p4 (a + 1) g) w) = _
      rw [if_pos rfl, gp_at (by decide), if_pos ⟨rfl, rfl, rfl⟩]
      rfl
    have e7 : gp 3 2 4 a p1 p2 p3 p4 (a + 1) g 7 0 5 = I a := by
      rw [gp_at (by decide), if_neg (by omega), if_neg (by omega), if_neg (by omega), if_neg (by omega), if_neg (by omega)]
      exact ea
    rw [e]
    refine ok_some ?_
    show Ok (s_X7_priceRule_63 0 p1 p2 p3 p4 t0 t1 t2 (gp 3 2 4 a p1 p2 p3 p4 (a + 1) g) w) _
    rw [told7 e7 h12 (hin _ _)]
    exact ok_some ⟨st_price h h12, rfl⟩
  · have ha12 : a = 12 := by omega
    subst ha12
    have e : s_X6_priceRule_67 0 p1 p2 p3 p4 g w = some (-3, g, w) := by
      unfold s_X6_priceRule_67
      rw [tell_no (e34.trans ea) (by decide) (by decide)]
      show (if false = true then s_X6_priceRule_94 0 p1 p2 p3 p4 (g 3 0 4) g w else s_X6_priceRule_94 0 p1 p2 p3 p4 (-3) g w) = _
      rw [if_neg (by decide)]
      rfl
    rw [e]
    refine ok_some ?_
    show Ok (s_X7_priceRule_63 0 p1 p2 p3 p4 t0 t1 t2 g w) _
    rw [told7_no ea (hin _ _)]
    exact ok_some ⟨h, rfl⟩
theorem x7_63no {t0 t1 t2 : Int64} (hin : ¬ s_X7_in t0 t1 t2 g w = true) : s_X7_priceRule_63 0 p1 p2 p3 p4 t0 t1 t2 g w = some (-1, g, w) := by
  unfold s_X7_priceRule_63
  rw [if_neg hin]
  rfl
theorem pr_priceRule (h : ST g w) : Ok (s_X6_priceRule 0 p1 p2 p3 p4 g w) (fun q => Ok (s_X7_priceRule 0 p1 p2 p3 p4 q.2.1 q.2.2) (fun r => ST r.2.1 r.2.2 ∧ q.1 = r.1)) := by
  have key : ∀ (g : Nat → Nat → Nat → Int32) (w : Nat → Nat → Nat → Int64), s_X7_priceRule 0 p1 p2 p3 p4 g w = if decide ((0 : Int32) ≤ p1 ∧ p1 ≤ 6) = true then (if decide ((0 : Int32) ≤ p2 ∧ p2 ≤ 400) = true then (if decide ((0 : Int32) ≤ p3 ∧ p3 ≤ 1) = true then (if p3 ≠ 0 then s_X7_priceRule_63 0 p1 p2 p3 p4 p4.toInt64 (-100) 1000 g w else s_X7_priceRule_63 0 p1 p2 p3 p4 p4.toInt64 (-1000) 100000 g w) else some (-1, g, w)) else some (-1, g, w)) else some (-1, g, w) := by
    intro g w
    unfold s_X7_priceRule s_X7_priceRule_69 s_X7_priceRule_50
    rw [in32 p1 0 6 (by decide) (by decide), in32 p2 0 400 (by decide) (by decide), in32 p3 0 1 (by decide) (by decide)]
    by_cases h3 : p3 ≠ 0
    · simp only [if_pos h3]
    · simp only [if_neg h3]
  unfold s_X6_priceRule s_X6_priceRule_30 s_X6_priceRule_65
  rw [within_eq p1, within_eq p2, within_eq p3]
  have no : ∀ (hq : ∀ (g : Nat → Nat → Nat → Int32) (w : Nat → Nat → Nat → Int64), s_X7_priceRule 0 p1 p2 p3 p4 g w = some (-1, g, w)), Ok (some ((-1 : Int32), g, w)) (fun q => Ok (s_X7_priceRule 0 p1 p2 p3 p4 q.2.1 q.2.2) (fun r => ST r.2.1 r.2.2 ∧ q.1 = r.1)) := by
    intro hq
    refine ok_some ?_
    show Ok (s_X7_priceRule 0 p1 p2 p3 p4 g w) _
    rw [hq]
    exact ok_some ⟨h, rfl⟩
  by_cases h1 : decide ((0 : Int32) ≤ p1 ∧ p1 ≤ 6) = true
  · rw [if_pos h1]
    by_cases h2 : decide ((0 : Int32) ≤ p2 ∧ p2 ≤ 400) = true
    · rw [if_pos h2]
      by_cases h3 : decide ((0 : Int32) ≤ p3 ∧ p3 ≤ 1) = true
      · rw [if_pos h3]
        have key2 : ∀ (g : Nat → Nat → Nat → Int32) (w : Nat → Nat → Nat → Int64), s_X7_priceRule 0 p1 p2 p3 p4 g w = if p3 ≠ 0 then s_X7_priceRule_63 0 p1 p2 p3 p4 p4.toInt64 (-100) 1000 g w else s_X7_priceRule_63 0 p1 p2 p3 p4 p4.toInt64 (-1000) 100000 g w := by
          intro g w
          rw [key, if_pos h1, if_pos h2, if_pos h3]
        by_cases hk : p3 ≠ 0
        · rw [if_pos hk, within_eq p4]
          by_cases h4 : decide ((-100 : Int32) ≤ p4 ∧ p4 ≤ 1000) = true
          · rw [if_pos h4]
            have := pr_told (p1 := p1) (p2 := p2) (p3 := p3) (p4 := p4) h (t0 := p4.toInt64) (t1 := -100) (t2 := 1000) (fun g w => by rw [in32 p4 (-100) 1000 (by decide) (by decide)]; exact h4)
            refine ok_imp this (fun q hq => ?_)
            rw [key2, if_pos hk]
            exact hq
          · rw [if_neg h4]
            refine no (fun g w => ?_)
            rw [key2, if_pos hk]
            exact x7_63no (by rw [in32 p4 (-100) 1000 (by decide) (by decide)]; exact h4)
        · rw [if_neg hk, within_eq p4]
          by_cases h4 : decide ((-1000 : Int32) ≤ p4 ∧ p4 ≤ 100000) = true
          · rw [if_pos h4]
            have := pr_told (p1 := p1) (p2 := p2) (p3 := p3) (p4 := p4) h (t0 := p4.toInt64) (t1 := -1000) (t2 := 100000) (fun g w => by rw [in32 p4 (-1000) 100000 (by decide) (by decide)]; exact h4)
            refine ok_imp this (fun q hq => ?_)
            rw [key2, if_neg hk]
            exact hq
          · rw [if_neg h4]
            refine no (fun g w => ?_)
            rw [key2, if_neg hk]
            exact x7_63no (by rw [in32 p4 (-1000) 100000 (by decide) (by decide)]; exact h4)
      · rw [if_neg h3]
        exact no (fun g w => by rw [key, if_pos h1, if_pos h2, if_neg h3])
    · rw [if_neg h2]
      exact no (fun g w => by rw [key, if_pos h1, if_neg h2])
  · rw [if_neg h1]
    exact no (fun g w => by rw [key, if_neg h1])
end
