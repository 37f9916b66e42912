section
variable {g : Nat → Nat → Nat → Int32} {w : Nat → Nat → Nat → Int64} {p1 p2 p3 p4 : Int32}
theorem rd_1012 {n k F j : Nat} {x : Int32} (h : F ≠ 1012) : gI g 1012 n k x F 0 j = g F 0 j := by rw [gI_at, if_neg (by omega)]
theorem tell_e {a : Nat} (ea : g 3 0 4 = I a) (ha : a < 12) : s_X3_tell 0 p1 p2 p3 p4 g w = some (true, gp 3 2 4 a p1 p2 p3 p4 (a + 1) g, w) := by
  unfold s_X3_tell gp
  have hn : (3 : Nat) ≠ 1012 := by decide
  simp only [rd_1012 hn, ea, I_tn (show a < 2147483648 by omega)]
  have hr : inR (I a) 12 = true := inR_I ha (by decide)
  have hw : s_X6_within (I a) 0 11 g w = true := by
    rw [within_eq]
    refine decide_eq_true ⟨?_, ?_⟩
    · exact (I_le (a := 0) (b := a) (by decide) (by omega)).mpr (by omega)
    · exact (I_le (a := a) (b := 11) (by omega) (by decide)).mpr (by omega)
  rw [if_pos hw]
  simp only [if_pos hr, I_suc]
theorem tell_no {a : Nat} (ea : g 3 0 4 = I a) (ha : 12 ≤ a) (ha2 : a < 1000) : s_X3_tell 0 p1 p2 p3 p4 g w = some (false, g, w) := by
  unfold s_X3_tell
  have hw : ¬ s_X6_within (g 3 0 4) 0 11 g w = true := by
    rw [within_eq, ea]
    intro q
    have := (I_le (a := a) (b := 11) (by omega) (by decide)).mp (of_decide_eq_true q).2
    omega
  rw [if_neg hw]
end
