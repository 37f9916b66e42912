/-! all is kept; as it was kept last -/
section
variable {g : Nat → Nat → Nat → Int32} {w : Nat → Nat → Nat → Int64}
theorem cpg_o {i0 p1 F i j : Nat} (h1 : ¬ (F = 1012 ∧ i = td i0)) (h2 : ¬ (F = 1048 ∧ i = i0)) (h3 : ¬ (F = 5 ∧ 6 * i0 ≤ i ∧ i < 6 * i0 + 6)) (h4 : ¬ (F = 4 ∧ 8 * i0 ≤ i ∧ i < 8 * i0 + 8)) (h5 : ¬ (F = 1 ∧ i = i0)) : cpg 6 8 15 i0 p1 g F i j = g F i j := by
  unfold cpg
  rw [if_neg (by omega), if_neg (by omega), if_neg (by omega), if_neg (by omega), if_neg (by omega)]
theorem cpw_o {i0 p1 F i j : Nat} (h3 : F ≠ 5) (h5 : F ≠ 1) : cpw 6 15 i0 p1 w F i j = w F i j := by
  unfold cpw
  rw [if_neg (by omega), if_neg (by omega)]
theorem cpg_1012 {i0 p1 j : Nat} (hj : j < 12) : cpg 6 8 15 i0 p1 g 1012 (td i0) j = g 1012 (td p1) j := by
  unfold cpg; rw [if_pos ⟨rfl, rfl, hj⟩]
theorem cpg_1048 {i0 p1 j : Nat} (hj : j < 48) : cpg 6 8 15 i0 p1 g 1048 i0 j = g 1048 p1 j := by
  unfold cpg; rw [if_neg (by omega), if_pos ⟨rfl, rfl, hj⟩]
theorem cpg_5 {i0 p1 t j : Nat} (ht : t < 6) (hj : j < 8) : cpg 6 8 15 i0 p1 g 5 (6 * i0 + t) j = g 5 (6 * p1 + t) j := by
  unfold cpg; rw [if_neg (by omega), if_neg (by omega), if_pos (by omega), show 6 * i0 + t - 6 * i0 = t by omega]
theorem cpg_4 {i0 p1 s j : Nat} (hs : s < 8) (hj : j < 9) : cpg 6 8 15 i0 p1 g 4 (8 * i0 + s) j = g 4 (8 * p1 + s) j := by
  unfold cpg; rw [if_neg (by omega), if_neg (by omega), if_neg (by omega), if_pos (by omega), show 8 * i0 + s - 8 * i0 = s by omega]
theorem cpg_1 {i0 p1 j : Nat} (h5 : 5 ≤ j) (h15 : j < 15) (h8 : j ≠ 8) : cpg 6 8 15 i0 p1 g 1 i0 j = g 1 p1 j := by
  unfold cpg; rw [if_neg (by omega), if_neg (by omega), if_neg (by omega), if_neg (by omega), if_pos (by omega)]
theorem rbk_cp {i0 p1 : Nat} {c : Nat → Int64} (h : RBk g p1 c) : RBk (cpg 6 8 15 i0 p1 g) i0 c := by
  refine ⟨fun x hx => ?_, fun x hx => ?_, fun j hj => ?_, fun j hj => ?_, fun t ht j hj => ?_, fun s hs j hj => ?_⟩
  · rw [cpg_1012 hx]; exact h.1 x hx
  · rw [cpg_1048 hx]; exact h.2.1 x hx
  · rw [cpg_1 (by omega) (by omega) (by omega)]; exact h.2.2.1 j hj
  · rw [cpg_1 (by omega) (by omega) (by omega)]; exact h.2.2.2.1 j hj
  · rw [cpg_5 ht (by omega)]; exact h.2.2.2.2.1 t ht j hj
  · rw [cpg_4 hs (by omega)]; exact h.2.2.2.2.2 s hs j hj
theorem rbk_g {g1 : Nat → Nat → Nat → Int32} {hb : Nat} {c : Nat → Int64} (h : RBk g hb c) (h1 : ∀ x, g1 1012 (td hb) x = g 1012 (td hb) x) (h2 : ∀ x, g1 1048 hb x = g 1048 hb x) (h3 : ∀ j, g1 1 hb j = g 1 hb j)
    (h4 : ∀ t, t < 6 → ∀ j, g1 5 (6 * hb + t) j = g 5 (6 * hb + t) j) (h5 : ∀ s, s < 8 → ∀ j, g1 4 (8 * hb + s) j = g 4 (8 * hb + s) j) : RBk g1 hb c := by
  refine ⟨fun x hx => ?_, fun x hx => ?_, fun j hj => ?_, fun j hj => ?_, fun t ht j hj => ?_, fun s hs j hj => ?_⟩
  · rw [h1]; exact h.1 x hx
  · rw [h2]; exact h.2.1 x hx
  · rw [h3]; exact h.2.2.1 j hj
  · rw [h3]; exact h.2.2.2.1 j hj
  · rw [h4 t ht]; exact h.2.2.2.2.1 t ht j hj
  · rw [h5 s hs]; exact h.2.2.2.2.2 s hs j hj
theorem rbk_c {hb : Nat} {c c' : Nat → Int64} (h : RBk g hb c) (hc : ∀ k, k < 218 → c' k = c k) : RBk g hb c' := by
  refine ⟨fun x hx => ?_, fun x hx => ?_, fun j hj => ?_, fun j hj => ?_, fun t ht j hj => ?_, fun s hs j hj => ?_⟩
  · rw [hc _ (by omega)]; exact h.1 x hx
  · rw [hc _ (by omega)]; exact h.2.1 x hx
  · rw [hc _ (by omega)]; exact h.2.2.1 j hj
  · rw [hc _ (by omega)]; exact h.2.2.2.1 j hj
  · rw [hc _ (by omega)]; exact h.2.2.2.2.1 t ht j hj
  · rw [hc _ (by omega)]; exact h.2.2.2.2.2 s hs j hj
theorem invG_cp {i0 p1 : Nat} (h : InvG g) : InvG (cpg 6 8 15 i0 p1 g) := by
  intro F a j
  unfold cpg
  split
  · next q => obtain ⟨rfl, _, _⟩ := q; exact rgg_0 _
  · split
    · next q => obtain ⟨rfl, _, _⟩ := q; exact rgg_0 _
    · split
      · next q => obtain ⟨rfl, _, _⟩ := q; exact h _ _ _
      · split
        · next q => obtain ⟨rfl, _, _⟩ := q; exact h _ _ _
        · split
          · next q => obtain ⟨rfl, _, _⟩ := q; exact h _ _ _
          · exact h _ _ _
theorem invW_cp {i0 p1 : Nat} (h : InvW w) : InvW (cpw 6 15 i0 p1 w) := by
  intro F a j
  unfold cpw
  split
  · next q => obtain ⟨rfl, _, _⟩ := q; rw [wk_free (by decide) (by decide)]; exact rgw_0 _
  · split
    · next q => obtain ⟨rfl, _, _⟩ := q; rw [wk_free (by decide) (by decide)]; exact rgw_0 _
    · exact h _ _ _
def kpw (a k : Nat) (w : Nat → Nat → Nat → Int64) : Nat → Nat → Nat → Int64 := fun F i j => if F = 2654 ∧ i = 0 ∧ 218 * a ≤ j ∧ j < 218 * a + k then w 2218 0 (j - 218 * a) else w F i j
def bkw (b k : Nat) (w : Nat → Nat → Nat → Int64) : Nat → Nat → Nat → Int64 := fun F i j => if F = 2218 ∧ i = 0 ∧ j < k then w 2654 0 (218 * b + j) else w F i j
theorem kpw_s {a k : Nat} : wL (kpw a k w) 2654 0 (218 * a + k) (kpw a k w 2218 0 k) = kpw a (k + 1) w := by
  funext F i j
  rw [wL_at]
  have e : kpw a k w 2218 0 k = w 2218 0 k := by unfold kpw; rw [if_neg (by omega)]
  rw [e]
  unfold kpw
  by_cases h : F = 2654 ∧ i = 0 ∧ j = 218 * a + k
  · obtain ⟨rfl, rfl, rfl⟩ := h
    rw [if_pos ⟨rfl, rfl, rfl⟩, if_pos (by omega), show 218 * a + k - 218 * a = k by omega]
  · rw [if_neg h]
    have : (F = 2654 ∧ i = 0 ∧ 218 * a ≤ j ∧ j < 218 * a + k) ↔ (F = 2654 ∧ i = 0 ∧ 218 * a ≤ j ∧ j < 218 * a + (k + 1)) := by omega
    simp only [this]
theorem bkw_s {b k : Nat} : wL (bkw b k w) 2218 0 k (bkw b k w 2654 0 (218 * b + k)) = bkw b (k + 1) w := by
  funext F i j
  rw [wL_at]
  have e : bkw b k w 2654 0 (218 * b + k) = w 2654 0 (218 * b + k) := by unfold bkw; rw [if_neg (by omega)]
  rw [e]
  unfold bkw
  by_cases h : F = 2218 ∧ i = 0 ∧ j = k
  · obtain ⟨rfl, rfl, rfl⟩ := h
    rw [if_pos ⟨rfl, rfl, rfl⟩, if_pos (by omega)]
  · rw [if_neg h]
    have : (F = 2218 ∧ i = 0 ∧ j < k) ↔ (F = 2218 ∧ i = 0 ∧ j < k + 1) := by omega
    simp only [this]
theorem keep_R13 {a : Nat} (ea : g 7 0 2 = I a) (ha : a < 3) : ∀ (n k : Nat), k ≤ 218 → 219 - k < n → s_X7_keep_R13 0 n (I k) g (kpw a k w) = some (I (a + 1), gI g 7 0 2 (I (a + 1)), kpw a 218 w) := by
  intro n
  induction n with
  | zero => intro k h1 hm; omega
  | succ n ih =>
    intro k h1 hm
    show s_X7_keep_13 0 (s_X7_keep_R13 0 n) (I k) g (kpw a k w) = _
    unfold s_X7_keep_13
    have ix : (218 : Int32) * g 7 0 2 + I k = I (218 * a + k) := by rw [ea, i_218, I_mul, I_add]
    by_cases hk : k < 218
    · rw [if_neg (fun q => by have := (I_le (a := 218) (b := k) (by decide) (by omega)).mp q; omega), if_pos (inR_I hk (by decide)), ix, if_pos (inR_I (by omega) (by decide)), I_tn (by omega), I_tn (by omega), kpw_s, I_suc]
      exact ih (k + 1) (by omega) (by omega)
    · have e : k = 218 := by omega
      subst e
      rw [if_pos (show (218 : Int32) ≤ I 218 from by decide), ea, I_suc, gI_at, if_pos ⟨rfl, rfl, rfl⟩]
theorem back_R22 {b : Nat} (eb : g 7 0 2 = I b) (hb : b < 3) : ∀ (n k : Nat), k ≤ 218 → 219 - k < n → s_X7_back_R22 0 n (I k) g (bkw b k w) = some (I b, g, bkw b 218 w) := by
  intro n
  induction n with
  | zero => intro k h1 hm; omega
  | succ n ih =>
    intro k h1 hm
    show s_X7_back_22 0 (s_X7_back_R22 0 n) (I k) g (bkw b k w) = _
    unfold s_X7_back_22
    have ix : (218 : Int32) * g 7 0 2 + I k = I (218 * b + k) := by rw [eb, i_218, I_mul, I_add]
    by_cases hk : k < 218
    · rw [if_neg (fun q => by have := (I_le (a := 218) (b := k) (by decide) (by omega)).mp q; omega), ix, if_pos (inR_I (by omega) (by decide)), if_pos (inR_I hk (by decide)), I_tn (by omega), I_tn (by omega), bkw_s, I_suc]
      exact ih (k + 1) (by omega) (by omega)
    · have e : k = 218 := by omega
      subst e
      rw [if_pos (show (218 : Int32) ≤ I 218 from by decide), eb]
def kg (a : Nat) (g : Nat → Nat → Nat → Int32) : Nat → Nat → Nat → Int32 := gI (gI (cpg 6 8 15 (a + 2) 0 g) 6 0 5 (I (a + 1))) 7 0 2 (I (a + 1))
def kw (a : Nat) (w : Nat → Nat → Nat → Int64) : Nat → Nat → Nat → Int64 := kpw a 218 (cpw 6 15 (a + 2) 0 w)
theorem st_kept (h : ST g w) : ∃ a : Nat, a ≤ 3 ∧ g 7 0 2 = I a ∧ g 6 0 5 = I a := by
  have q := h.1 7 0 2
  obtain ⟨a, ha, ea⟩ := I_ex (v := g 7 0 2) (n := 3) q.1 q.2
  exact ⟨a, ha, ea, h.2.2.2.2.1.trans ea⟩
theorem kg_o {a F i j : Nat} (h1 : ¬ (F = 1012 ∧ i = a + 6)) (h2 : ¬ (F = 1048 ∧ i = a + 2)) (h3 : ¬ (F = 5 ∧ 6 * (a + 2) ≤ i ∧ i < 6 * (a + 2) + 6)) (h4 : ¬ (F = 4 ∧ 8 * (a + 2) ≤ i ∧ i < 8 * (a + 2) + 8)) (h5 : ¬ (F = 1 ∧ i = a + 2)) (h6 : ¬ (F = 6 ∧ i = 0 ∧ j = 5)) (h7 : ¬ (F = 7 ∧ i = 0 ∧ j = 2)) : kg a g F i j = g F i j := by
  unfold kg
  have e2 : td (a + 2) = a + 6 := by rw [Nat.add_comm a 2]; exact td2 a
  rw [gI_at, if_neg h7, gI_at, if_neg h6]
  exact cpg_o (by rw [e2]; exact h1) h2 h3 h4 h5
theorem st_keep (h : ST g w) {a : Nat} (ha : a < 3) (ea : g 7 0 2 = I a) : ST (kg a g) (kw a w) := by
  obtain ⟨h1, h2, h3, hb, h5, h6, h7, h8⟩ := h
  have t0 := td0
  have e702 : kg a g 7 0 2 = I (a + 1) := by unfold kg; rw [gI_at, if_pos ⟨rfl, rfl, rfl⟩]
  have e605 : kg a g 6 0 5 = I (a + 1) := by unfold kg; rw [gI_at, if_neg (by omega), gI_at, if_pos ⟨rfl, rfl, rfl⟩]
  have w18 : ∀ k, kw a w 2218 0 k = w 2218 0 k := fun k => by unfold kw kpw; rw [if_neg (by omega), cpw_o (by decide) (by decide)]
  have wk1 : ∀ k, k < 218 → kw a w 2654 0 (218 * a + k) = w 2218 0 k := fun k hk => by
    unfold kw kpw
    rw [if_pos (by omega), cpw_o (by decide) (by decide), show 218 * a + k - 218 * a = k by omega]
  have wk2 : ∀ i k, i < a → k < 218 → kw a w 2654 0 (218 * i + k) = w 2654 0 (218 * i + k) := fun i k hi hk => by
    unfold kw kpw
    rw [if_neg (by omega), cpw_o (by decide) (by decide)]
  have lt : ∀ i : Nat, (i : Int) < (kg a g 7 0 2).toInt → i = a ∨ i < a := fun i hi => by
    rw [e702, I_toInt (by omega)] at hi; omega
  have lt2 : ∀ i : Nat, i < a → (i : Int) < (g 7 0 2).toInt := fun i hi => by
    rw [ea, I_toInt (by omega)]; omega
  refine ⟨?_, ?_, ?_, ?_, ?_, ?_, ?_, ?_⟩
  · unfold kg
    refine invG_gI (F := 7) (i := 0) (j := 2) (invG_gI (F := 6) (i := 0) (j := 5) (invG_cp h1) (rgg_0 _)) ?_
    show (0 : Int) ≤ _ ∧ _ ≤ (3 : Int)
    rw [I_toInt (by omega)]; omega
  · intro F i j
    unfold kw kpw
    split
    · next q => obtain ⟨rfl, rfl, _⟩ := q; rw [wk_free (by decide) (by decide)]; exact rgw_0 _
    · exact invW_cp h2 F i j
  · intro i hi k hk
    rcases lt i hi with rfl | hlt
    · rw [wk1 k hk]; exact h2 2218 0 k
    · rw [wk2 i k hlt hk]; exact h3 i (lt2 i hlt) k hk
  · refine rbk_c (c := w 2218 0) ?_ (fun k _ => w18 k)
    exact rbk_g hb (fun x => kg_o (by omega) (by omega) (by omega) (by omega) (by omega) (by omega) (by omega)) (fun x => kg_o (by omega) (by omega) (by omega) (by omega) (by omega) (by omega) (by omega)) (fun x => kg_o (by omega) (by omega) (by omega) (by omega) (by omega) (by omega) (by omega)) (fun t ht j => kg_o (by omega) (by omega) (by omega) (by omega) (by omega) (by omega) (by omega)) (fun s hs j => kg_o (by omega) (by omega) (by omega) (by omega) (by omega) (by omega) (by omega))
  · rw [e605, e702]
  · intro i hi
    rcases lt i hi with rfl | hlt
    · refine rbk_c (c := w 2218 0) ?_ (fun k hk => wk1 k hk)
      rw [Nat.add_comm 2 i]
      have q := rbk_cp (i0 := i + 2) hb
      refine rbk_g q (fun x => ?_) (fun x => ?_) (fun x => ?_) (fun t ht j => ?_) (fun s hs j => ?_)
      · unfold kg; rw [gI_at, if_neg (by omega), gI_at, if_neg (by omega)]
      · unfold kg; rw [gI_at, if_neg (by omega), gI_at, if_neg (by omega)]
      · unfold kg; rw [gI_at, if_neg (by omega), gI_at, if_neg (by omega)]
      · unfold kg; rw [gI_at, if_neg (by omega), gI_at, if_neg (by omega)]
      · unfold kg; rw [gI_at, if_neg (by omega), gI_at, if_neg (by omega)]
    · have e2 := td2 i
      refine rbk_c (c := fun k => w 2654 0 (218 * i + k)) ?_ (fun k hk => wk2 i k hlt hk)
      exact rbk_g (h6 i (lt2 i hlt)) (fun x => kg_o (by omega) (by omega) (by omega) (by omega) (by omega) (by omega) (by omega)) (fun x => kg_o (by omega) (by omega) (by omega) (by omega) (by omega) (by omega) (by omega)) (fun x => kg_o (by omega) (by omega) (by omega) (by omega) (by omega) (by omega) (by omega)) (fun t ht j => kg_o (by omega) (by omega) (by omega) (by omega) (by omega) (by omega) (by omega)) (fun s hs j => kg_o (by omega) (by omega) (by omega) (by omega) (by omega) (by omega) (by omega))
  · rw [kg_o (by omega) (by omega) (by omega) (by omega) (by omega) (by omega) (by omega), kg_o (by omega) (by omega) (by omega) (by omega) (by omega) (by omega) (by omega)]
    exact h7
  · intro r hr j hj
    rw [kg_o (by omega) (by omega) (by omega) (by omega) (by omega) (by omega) (by omega), kg_o (by omega) (by omega) (by omega) (by omega) (by omega) (by omega) (by omega)]
    exact h8 r hr j hj
theorem pr_keep (h : ST g w) : Ok (s_X6_keep 0 g w) (fun q => Ok (s_X7_keep 0 q.2.1 q.2.2) (fun r => ST r.2.1 r.2.2 ∧ q.1 = r.1)) := by
  obtain ⟨a, ha, ea, e6⟩ := st_kept h
  by_cases hf : a < 3
  · have e : s_X6_keep 0 g w = some (I (a + 1), gI (cpg 6 8 15 (a + 2) 0 g) 6 0 5 (I (a + 1)), cpw 6 15 (a + 2) 0 w) := by
      unfold s_X6_keep
      have hc : (0 : Int32) ≤ I a ∧ I a ≤ 3 - 1 := ⟨(I_le (a := 0) (b := a) (by decide) (by omega)).mpr (by omega), (I_le (a := a) (b := 2) (by omega) (by decide)).mpr (by omega)⟩
      rw [within_eq, e6, if_pos (decide_eq_true hc), if_pos (inR_I hf (by decide)), I_tn (by omega), copyFrom_e (by omega)]
      show some (gI (cpg 6 8 15 (a + 2) 0 g) 6 0 5 (cpg 6 8 15 (a + 2) 0 g 6 0 5 + 1) 6 0 5, _, _) = _
      rw [cpg_o (by omega) (by omega) (by omega) (by omega) (by omega), e6, I_suc, gI_at, if_pos ⟨rfl, rfl, rfl⟩]
      show some (_, gI (cpg 6 8 15 (a + 2) 0 g) 6 0 5 (cpg 6 8 15 (a + 2) 0 g 6 0 5 + 1), _) = _
      rw [cpg_o (by omega) (by omega) (by omega) (by omega) (by omega), e6, I_suc]
    rw [e]
    refine ok_some ?_
    show Ok (s_X7_keep 0 (gI (cpg 6 8 15 (a + 2) 0 g) 6 0 5 (I (a + 1))) (cpw 6 15 (a + 2) 0 w)) _
    have e2 : gI (cpg 6 8 15 (a + 2) 0 g) 6 0 5 (I (a + 1)) 7 0 2 = I a := by
      rw [gI_at, if_neg (by omega), cpg_o (by omega) (by omega) (by omega) (by omega) (by omega)]; exact ea
    unfold s_X7_keep
    rw [if_pos (fun q => by have := I_inj (a := a) (b := 3) (by omega) (by decide) (e2.symm.trans q); omega)]
    have e3 : cpw 6 15 (a + 2) 0 w = kpw a 0 (cpw 6 15 (a + 2) 0 w) := by
      funext F i j; unfold kpw; rw [if_neg (by omega)]
    have k := keep_R13 (w := cpw 6 15 (a + 2) 0 w) e2 hf FU 0 (by decide) (by decide)
    rw [← e3] at k
    refine ⟨_, k, ?_, rfl⟩
    exact st_keep h hf ea
  · have e3 : a = 3 := by omega
    subst e3
    have e : s_X6_keep 0 g w = some (-3, g, w) := by
      unfold s_X6_keep
      rw [within_eq, e6, if_neg (by decide)]
    rw [e]
    refine ok_some ?_
    show Ok (s_X7_keep 0 g w) _
    unfold s_X7_keep
    rw [if_neg (fun q => q ea)]
    exact ok_some ⟨h, rfl⟩
def bg (b : Nat) (g : Nat → Nat → Nat → Int32) : Nat → Nat → Nat → Int32 := gI (gI (cpg 6 8 15 0 (b + 2) g) 6 0 5 (I b)) 7 0 2 (I b)
def bw (b : Nat) (w : Nat → Nat → Nat → Int64) : Nat → Nat → Nat → Int64 := bkw b 218 (cpw 6 15 0 (b + 2) w)
theorem bg_o {b F i j : Nat} (h1 : ¬ (F = 1012 ∧ i = 0)) (h2 : ¬ (F = 1048 ∧ i = 0)) (h3 : ¬ (F = 5 ∧ i < 6)) (h4 : ¬ (F = 4 ∧ i < 8)) (h5 : ¬ (F = 1 ∧ i = 0)) (h6 : ¬ (F = 6 ∧ i = 0 ∧ j = 5)) (h7 : ¬ (F = 7 ∧ i = 0 ∧ j = 2)) : bg b g F i j = g F i j := by
  unfold bg
  have e2 := td0
  rw [gI_at, if_neg h7, gI_at, if_neg h6]
  exact cpg_o (by omega) h2 (by omega) (by omega) h5
theorem st_back (h : ST g w) {b : Nat} (hlt : b < 3) (eb : g 7 0 2 = I (b + 1)) : ST (bg b g) (bw b w) := by
  obtain ⟨h1, h2, h3, hb, h5, h6, h7, h8⟩ := h
  have e702 : bg b g 7 0 2 = I b := by unfold bg; rw [gI_at, if_pos ⟨rfl, rfl, rfl⟩]
  have e605 : bg b g 6 0 5 = I b := by unfold bg; rw [gI_at, if_neg (by omega), gI_at, if_pos ⟨rfl, rfl, rfl⟩]
  have w18 : ∀ k, k < 218 → bw b w 2218 0 k = w 2654 0 (218 * b + k) := fun k hk => by unfold bw bkw; rw [if_pos ⟨rfl, rfl, hk⟩, cpw_o (by decide) (by decide)]
  have w54 : ∀ k, bw b w 2654 0 k = w 2654 0 k := fun k => by unfold bw bkw; rw [if_neg (by omega), cpw_o (by decide) (by decide)]
  have lt2 : ∀ i : Nat, (i : Int) < (bg b g 7 0 2).toInt → (i : Int) < (g 7 0 2).toInt := fun i hi => by
    rw [e702, I_toInt (by omega)] at hi; rw [eb, I_toInt (by omega)]; omega
  have ltb : (b : Int) < (g 7 0 2).toInt := by rw [eb, I_toInt (by omega)]; omega
  refine ⟨?_, ?_, ?_, ?_, ?_, ?_, ?_, ?_⟩
  · unfold bg
    refine invG_gI (F := 7) (i := 0) (j := 2) (invG_gI (F := 6) (i := 0) (j := 5) (invG_cp h1) (rgg_0 _)) ?_
    show (0 : Int) ≤ _ ∧ _ ≤ (3 : Int)
    rw [I_toInt (by omega)]; omega
  · intro F i j
    by_cases q : F = 2218 ∧ i = 0 ∧ j < 218
    · obtain ⟨rfl, rfl, hj⟩ := q
      rw [w18 j hj]
      exact h3 b ltb j hj
    · unfold bw bkw
      rw [if_neg q]
      exact invW_cp h2 F i j
  · intro i hi k hk
    rw [w54]
    exact h3 i (lt2 i hi) k hk
  · refine rbk_c (c := fun k => w 2654 0 (218 * b + k)) ?_ (fun k hk => w18 k hk)
    have q := rbk_cp (i0 := 0) (h6 b ltb)
    rw [Nat.add_comm 2 b] at q
    refine rbk_g q (fun x => ?_) (fun x => ?_) (fun x => ?_) (fun t ht j => ?_) (fun s hs j => ?_)
    · unfold bg; rw [gI_at, if_neg (by omega), gI_at, if_neg (by omega)]
    · unfold bg; rw [gI_at, if_neg (by omega), gI_at, if_neg (by omega)]
    · unfold bg; rw [gI_at, if_neg (by omega), gI_at, if_neg (by omega)]
    · unfold bg; rw [gI_at, if_neg (by omega), gI_at, if_neg (by omega)]
    · unfold bg; rw [gI_at, if_neg (by omega), gI_at, if_neg (by omega)]
  · rw [e605, e702]
  · intro i hi
    have e2 := td2 i
    refine rbk_c (c := fun k => w 2654 0 (218 * i + k)) ?_ (fun k hk => w54 _)
    exact rbk_g (h6 i (lt2 i hi)) (fun x => bg_o (by omega) (by omega) (by omega) (by omega) (by omega) (by omega) (by omega)) (fun x => bg_o (by omega) (by omega) (by omega) (by omega) (by omega) (by omega) (by omega)) (fun x => bg_o (by omega) (by omega) (by omega) (by omega) (by omega) (by omega) (by omega)) (fun t ht j => bg_o (by omega) (by omega) (by omega) (by omega) (by omega) (by omega) (by omega)) (fun s hs j => bg_o (by omega) (by omega) (by omega) (by omega) (by omega) (by omega) (by omega))
  · rw [bg_o (by omega) (by omega) (by omega) (by omega) (by omega) (by omega) (by omega), bg_o (by omega) (by omega) (by omega) (by omega) (by omega) (by omega) (by omega)]
    exact h7
  · intro r hr j hj
    rw [bg_o (by omega) (by omega) (by omega) (by omega) (by omega) (by omega) (by omega), bg_o (by omega) (by omega) (by omega) (by omega) (by omega) (by omega) (by omega)]
    exact h8 r hr j hj
theorem pr_back (h : ST g w) : Ok (s_X6_back 0 g w) (fun q => Ok (s_X7_back 0 q.2.1 q.2.2) (fun r => ST r.2.1 r.2.2 ∧ q.1 = r.1)) := by
  obtain ⟨a, ha, ea, e6⟩ := st_kept h
  by_cases hf : a = 0
  · subst hf
    have e : s_X6_back 0 g w = some (-2, g, w) := by
      unfold s_X6_back
      rw [within_eq, e6, if_neg (by decide)]
    rw [e]
    refine ok_some ?_
    show Ok (s_X7_back 0 g w) _
    unfold s_X7_back
    rw [if_neg (fun q => q ea)]
    exact ok_some ⟨h, rfl⟩
  · obtain ⟨b, rfl⟩ : ∃ b, a = b + 1 := ⟨a - 1, by omega⟩
    have hb3 : b < 3 := by omega
    have em : I (b + 1) - 1 = I b := by
      have : ∀ b, b < 3 → I (b + 1) - 1 = I b := by decide
      exact this b hb3
    have hne : b + 2 ≠ 0 := by omega
    have e : s_X6_back 0 g w = some (I b, gI (cpg 6 8 15 0 (b + 2) g) 6 0 5 (I b), cpw 6 15 0 (b + 2) w) := by
      unfold s_X6_back
      have hc : (0 : Int32) ≤ I b ∧ I b ≤ 3 - 1 := ⟨(I_le (a := 0) (b := b) (by decide) (by omega)).mpr (by omega), (I_le (a := b) (b := 2) (by omega) (by decide)).mpr (by omega)⟩
      rw [within_eq, e6, em, if_pos (decide_eq_true hc), if_pos (inR_I hb3 (by decide)), I_tn (by omega), copyFrom_e (by omega)]
      show some (gI (cpg 6 8 15 0 (b + 2) g) 6 0 5 (I b) 6 0 5, _, _) = _
      rw [gI_at, if_pos ⟨rfl, rfl, rfl⟩]
    rw [e]
    refine ok_some ?_
    show Ok (s_X7_back 0 (gI (cpg 6 8 15 0 (b + 2) g) 6 0 5 (I b)) (cpw 6 15 0 (b + 2) w)) _
    have e2 : gI (cpg 6 8 15 0 (b + 2) g) 6 0 5 (I b) 7 0 2 = I (b + 1) := by
      rw [gI_at, if_neg (by omega), cpg_o (by omega) (by omega) (by omega) (by omega) (by omega)]; exact ea
    unfold s_X7_back
    rw [if_pos (fun q => by have := I_inj (a := b + 1) (b := 0) (by omega) (by decide) (e2.symm.trans q); omega), e2, em]
    have e3 : cpw 6 15 0 (b + 2) w = bkw b 0 (cpw 6 15 0 (b + 2) w) := by
      funext F i j; unfold bkw; rw [if_neg (by omega)]
    have k := back_R22 (g := gI (gI (cpg 6 8 15 0 (b + 2) g) 6 0 5 (I b)) 7 0 2 (I b)) (w := cpw 6 15 0 (b + 2) w) (b := b) (by rw [gI_at, if_pos ⟨rfl, rfl, rfl⟩]) hb3 FU 0 (by decide) (by decide)
    rw [← e3] at k
    refine ⟨_, k, ?_, rfl⟩
    exact st_back h hb3 ea
end
