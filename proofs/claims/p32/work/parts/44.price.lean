/-! a rule of prices told -/
section
variable {g : Nat → Nat → Nat → Int32} {w : Nat → Nat → Nat → Int64} {p1 p2 p3 p4 : Int32}
theorem rbk_same {g1 : Nat → Nat → Nat → Int32} {hb : Nat} {c : Nat → Int64} (h : RBk g hb c) (h1 : ∀ x, g1 1012 (td hb) x = g 1012 (td hb) x) (h2 : ∀ x, g1 1048 hb x = g 1048 hb x) (h3 : ∀ j, g1 1 hb j = g 1 hb j)
    (h4 : ∀ t j, g1 5 t j = g 5 t j) (h5 : ∀ s j, g1 4 s j = g 4 s j) : RBk g1 hb c := by
  refine ⟨fun x hx => ?_, fun x hx => ?_, fun j hj => ?_, fun j hj => ?_, fun t ht j hj => ?_, fun s hs j hj => ?_⟩
  · rw [h1]; exact h.1 x hx
  · rw [h2]; exact h.2.1 x hx
  · rw [h3]; exact h.2.2.1 j hj
  · rw [h3]; exact h.2.2.2.1 j hj
  · rw [h4]; exact h.2.2.2.2.1 t ht j hj
  · rw [h5]; exact h.2.2.2.2.2 s hs j hj
def gp (F n c : Nat) (a : Nat) (p1 p2 p3 p4 : Int32) (m : Nat) (g : Nat → Nat → Nat → Int32) : Nat → Nat → Nat → Int32 :=
  gI (gI (gI (gI (gI g 1012 n a p1) 1012 (n + 1) a p2) 1012 (n + 2) a p3) 1012 (n + 3) a p4) F 0 c (I m)
theorem gp_at {F n c a m : Nat} (hF : F < 1000) (F' i' j' : Nat) : gp F n c a p1 p2 p3 p4 m g F' i' j' =
    if F' = F ∧ i' = 0 ∧ j' = c then I m else if F' = 1012 ∧ i' = n ∧ j' = a then p1 else if F' = 1012 ∧ i' = n + 1 ∧ j' = a then p2 else if F' = 1012 ∧ i' = n + 2 ∧ j' = a then p3 else if F' = 1012 ∧ i' = n + 3 ∧ j' = a then p4 else g F' i' j' := by
  unfold gp
  rw [gI_at]
  by_cases h0 : F' = F ∧ i' = 0 ∧ j' = c
  · rw [if_pos h0, if_pos h0]
  · rw [if_neg h0, if_neg h0]
    rw [gI_at, gI_at, gI_at, gI_at]
    by_cases h1 : F' = 1012 ∧ i' = n ∧ j' = a
    · have h2 : ¬ (F' = 1012 ∧ i' = n + 1 ∧ j' = a) := by omega
      have h3 : ¬ (F' = 1012 ∧ i' = n + 2 ∧ j' = a) := by omega
      have h4 : ¬ (F' = 1012 ∧ i' = n + 3 ∧ j' = a) := by omega
      simp only [if_pos h1, if_neg h2, if_neg h3, if_neg h4]
    · by_cases h2 : F' = 1012 ∧ i' = n + 1 ∧ j' = a
      · have h3 : ¬ (F' = 1012 ∧ i' = n + 2 ∧ j' = a) := by omega
        have h4 : ¬ (F' = 1012 ∧ i' = n + 3 ∧ j' = a) := by omega
        simp only [if_neg h1, if_pos h2, if_neg h3, if_neg h4]
      · by_cases h3 : F' = 1012 ∧ i' = n + 2 ∧ j' = a
        · have h4 : ¬ (F' = 1012 ∧ i' = n + 3 ∧ j' = a) := by omega
          simp only [if_neg h1, if_neg h2, if_pos h3, if_neg h4]
        · by_cases h4 : F' = 1012 ∧ i' = n + 3 ∧ j' = a
          · simp only [if_neg h1, if_neg h2, if_neg h3, if_pos h4]
          · simp only [if_neg h1, if_neg h2, if_neg h3, if_neg h4]
theorem st_price (h : ST g w) {a : Nat} (ha : a < 12) : ST (gp 7 9 5 a p1 p2 p3 p4 (a + 1) (gp 3 2 4 a p1 p2 p3 p4 (a + 1) g)) w := by
  obtain ⟨h1, h2, h3, hb, h5, h6, h7, h8⟩ := h
  have other : ∀ F i j, ¬ (F = 7 ∧ i = 0 ∧ j = 5) → ¬ (F = 3 ∧ i = 0 ∧ j = 4) → ¬ (F = 1012 ∧ j = a ∧ (2 ≤ i ∧ i < 6 ∨ 9 ≤ i ∧ i < 13)) → gp 7 9 5 a p1 p2 p3 p4 (a + 1) (gp 3 2 4 a p1 p2 p3 p4 (a + 1) g) F i j = g F i j := by
    intro F i j q1 q2 q3
    rw [gp_at (by decide), if_neg (by omega), if_neg (by omega), if_neg (by omega), if_neg (by omega), if_neg (by omega), gp_at (by decide), if_neg (by omega), if_neg (by omega), if_neg (by omega), if_neg (by omega), if_neg (by omega)]
  have e75 : gp 7 9 5 a p1 p2 p3 p4 (a + 1) (gp 3 2 4 a p1 p2 p3 p4 (a + 1) g) 7 0 5 = I (a + 1) := by rw [gp_at (by decide), if_pos (by omega)]
  have e34 : gp 7 9 5 a p1 p2 p3 p4 (a + 1) (gp 3 2 4 a p1 p2 p3 p4 (a + 1) g) 3 0 4 = I (a + 1) := by
    rw [gp_at (by decide), if_neg (by omega), if_neg (by omega), if_neg (by omega), if_neg (by omega), if_neg (by omega), gp_at (by decide), if_pos (by omega)]
  refine ⟨?_, h2, ?_, ?_, ?_, ?_, ?_, ?_⟩
  · intro F i j
    by_cases q1 : F = 7 ∧ i = 0 ∧ j = 5
    · obtain ⟨rfl, rfl, rfl⟩ := q1
      rw [e75]
      show (0 : Int) ≤ _ ∧ _ ≤ (12 : Int)
      rw [I_toInt (by omega)]; omega
    · by_cases q2 : F = 3 ∧ i = 0 ∧ j = 4
      · obtain ⟨rfl, rfl, rfl⟩ := q2
        exact rgg_0 _
      · by_cases q3 : F = 1012 ∧ j = a ∧ (2 ≤ i ∧ i < 6 ∨ 9 ≤ i ∧ i < 13)
        · obtain ⟨rfl, _, _⟩ := q3
          exact rgg_0 _
        · rw [other F i j q1 q2 q3]; exact h1 F i j
  · intro i hi
    rw [other 7 0 2 (by omega) (by omega) (by omega)] at hi
    exact h3 i hi
  · exact rbk_same hb (fun x => other _ _ _ (by omega) (by omega) (by have := td0; omega)) (fun x => other _ _ _ (by omega) (by omega) (by omega)) (fun j => other _ _ _ (by omega) (by omega) (by omega)) (fun t j => other _ _ _ (by omega) (by omega) (by omega)) (fun s j => other _ _ _ (by omega) (by omega) (by omega))
  · rw [other 6 0 5 (by omega) (by omega) (by omega), other 7 0 2 (by omega) (by omega) (by omega)]; exact h5
  · intro i hi
    rw [other 7 0 2 (by omega) (by omega) (by omega)] at hi
    have hi3 : i < 3 := by
      have q := (h1 7 0 2).2
      rw [show chi (gk 7 2) = 3 from rfl] at q
      omega
    exact rbk_same (h6 i hi) (fun x => other _ _ _ (by omega) (by omega) (by have := td2 i; omega)) (fun x => other _ _ _ (by omega) (by omega) (by omega)) (fun j => other _ _ _ (by omega) (by omega) (by omega)) (fun t j => other _ _ _ (by omega) (by omega) (by omega)) (fun s j => other _ _ _ (by omega) (by omega) (by omega))
  · rw [e34, e75]
  · intro r hr j hj
    have := h8 r hr j hj
    have hj4 : j = 0 ∨ j = 1 ∨ j = 2 ∨ j = 3 := by omega
    rw [gp_at (by decide), gp_at (by decide), gp_at (by decide), gp_at (by decide)]
    by_cases e : r = a
    · subst e
      rcases hj4 with rfl | rfl | rfl | rfl <;> simp
    · rcases hj4 with rfl | rfl | rfl | rfl <;> simp [e, this]
end
