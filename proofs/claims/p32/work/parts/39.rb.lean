/-! the cells that jobs don't touch: a harbour of the program and a block of the reference -/
def RBk (g : Nat → Nat → Nat → Int32) (hb : Nat) (c : Nat → Int64) : Prop :=
  (∀ h, h < 12 → c h = (g 1012 (td hb) h).toInt64) ∧ (∀ h, h < 48 → c (12 + h) = (g 1048 hb h).toInt64) ∧
  (∀ j, j < 3 → c (60 + j) = (g 1 hb (5 + j)).toInt64) ∧ (∀ j, j < 2 → c (64 + j) = (g 1 hb (9 + j)).toInt64) ∧
  (∀ t, t < 6 → ∀ j, j < 7 → c (70 + 10 * t + j) = (g 5 (6 * hb + t) j).toInt64) ∧
  (∀ s, s < 8 → ∀ j, j < 7 → c (130 + 11 * s + j) = (g 4 (8 * hb + s) j).toInt64)
def RB (g : Nat → Nat → Nat → Int32) (w : Nat → Nat → Nat → Int64) : Prop :=
  RBk g 0 (w 2218 0) ∧ g 6 0 5 = g 7 0 2 ∧ (∀ i : Nat, (i : Int) < (g 7 0 2).toInt → RBk g (2 + i) (fun k => w 2654 0 (218 * i + k))) ∧
  g 3 0 4 = g 7 0 5 ∧ (∀ r, r < 12 → ∀ j, j < 4 → g 1012 (2 + j) r = g 1012 (9 + j) r)
section
variable {g' g : Nat → Nat → Nat → Int32} {w' w : Nat → Nat → Nat → Int64}
theorem rbk_of {hb : Nat} {c c' : Nat → Int64} (h : RBk g' hb c') (hb1 : hb ≠ 1) (hg : ∀ F i j, ¬ jc F i j → g F i j = g' F i j)
    (hc : ∀ k, (k < 63 ∨ k = 64 ∨ k = 65 ∨ (70 ≤ k ∧ k < 130 ∧ (k - 70) % 10 < 7) ∨ (130 ≤ k ∧ k < 218 ∧ (k - 130) % 11 < 7)) → c k = c' k) : RBk g hb c := by
  have ht : td hb ≠ 1 := by unfold td; split <;> omega
  refine ⟨fun x hx => ?_, fun x hx => ?_, fun j hj => ?_, fun j hj => ?_, fun t ht j hj => ?_, fun s hs j hj => ?_⟩
  · rw [hc _ (by omega), hg _ _ _ (by unfold jc; omega)]; exact h.1 x hx
  · rw [hc _ (by omega), hg _ _ _ (by unfold jc; omega)]; exact h.2.1 x hx
  · rw [hc _ (by omega), hg _ _ _ (by unfold jc; omega)]; exact h.2.2.1 j hj
  · rw [hc _ (by omega), hg _ _ _ (by unfold jc; omega)]; exact h.2.2.2.1 j hj
  · rw [hc _ (by omega), hg _ _ _ (by unfold jc; omega)]; exact h.2.2.2.2.1 t ht j hj
  · rw [hc _ (by omega), hg _ _ _ (by unfold jc; omega)]; exact h.2.2.2.2.2 s hs j hj
theorem rb_gd (hG : Gd g' w' g w) (h : RB g' w') : RB g w := by
  obtain ⟨h1, h2, h3, h4, h5⟩ := h
  have hg := hG.2.2.2.1
  have hw := hG.2.2.2.2
  have e2 : g 7 0 2 = g' 7 0 2 := hg _ _ _ (by unfold jc; omega)
  have e5 : g 6 0 5 = g' 6 0 5 := hg _ _ _ (by unfold jc; omega)
  have e75 : g 7 0 5 = g' 7 0 5 := hg _ _ _ (by unfold jc; omega)
  have e34 : g 3 0 4 = g' 3 0 4 := hg _ _ _ (by unfold jc; omega)
  refine ⟨rbk_of h1 (by decide) hg (fun k hk => hw _ _ _ (by unfold jl; omega)), by rw [e5, e2, h2], fun i hi => ?_, by rw [e34, e75, h4], fun r hr j hj => ?_⟩
  · rw [e2] at hi
    exact rbk_of (h3 i hi) (by omega) hg (fun k hk => hw _ _ _ (by unfold jl; omega))
  · rw [hg 1012 (2 + j) r (by unfold jc; omega), hg 1012 (9 + j) r (by unfold jc; omega)]
    exact h5 r hr j hj

def ST (g : Nat → Nat → Nat → Int32) (w : Nat → Nat → Nat → Int64) : Prop := InvG g ∧ InvW w ∧ InvK g w ∧ RB g w
theorem st_gd0 (h : ST g w) : Gd g w g w := gd_refl h.1 h.2.1 h.2.2.1
theorem st_gd (h : ST g' w') (hG : Gd g' w' g w) : ST g w := ⟨hG.1, hG.2.1, hG.2.2.1, rb_gd hG h.2.2.2⟩
theorem t6432 (x : Int32) : x.toInt64.toInt32 = x := Int32.toInt32_toInt64 x
end
