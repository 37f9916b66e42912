/-! jobs put and taken: both sides, exactly -/
def w5 (hb : Nat) (f : Nat → Int64 → Int64) (n : Nat) (w : Nat → Nat → Nat → Int64) : Nat → Nat → Nat → Int64 := fun F i j => if F = 5 ∧ 6 * hb ≤ i ∧ i < 6 * hb + n ∧ j = 8 then f (i - 6 * hb) (w F i j) else w F i j
def wr (f : Nat → Int64 → Int64) (n : Nat) (w : Nat → Nat → Nat → Int64) : Nat → Nat → Nat → Int64 := fun F i j => if F = 2218 ∧ i = 0 ∧ 70 ≤ j ∧ j < 70 + 10 * n ∧ (j - 70) % 10 = 8 then f ((j - 70) / 10) (w F i j) else w F i j
def pg (p : Nat) (a b : Int32) (g : Nat → Nat → Nat → Int32) : Nat → Nat → Nat → Int32 := gI (gI g 4 p 7 a) 4 p 8 b
def wj (s : Nat) (a b : Int64) (w : Nat → Nat → Nat → Int64) : Nat → Nat → Nat → Int64 := wL (wL w 2218 0 (130 + 11 * s + 7) a) 2218 0 (130 + 11 * s + 8) b
section
variable {g g' : Nat → Nat → Nat → Int32} {w w' : Nat → Nat → Nat → Int64} {hb : Nat} {c : Nat → Int64} {pl ba : Nat → Nat}
theorem w5_0 {f : Nat → Int64 → Int64} : w5 hb f 0 w = w := by
  funext F i j; unfold w5; rw [if_neg (by omega)]
theorem w5_at {f : Nat → Int64 → Int64} {n t : Nat} (ht : t < n) : w5 hb f n w 5 (6 * hb + t) 8 = f t (w 5 (6 * hb + t) 8) := by
  unfold w5; rw [if_pos (by omega), show 6 * hb + t - 6 * hb = t by omega]
theorem w5_out {f : Nat → Int64 → Int64} {n F i j : Nat} (h : ¬ (F = 5 ∧ 6 * hb ≤ i ∧ i < 6 * hb + n ∧ j = 8)) : w5 hb f n w F i j = w F i j := if_neg h
theorem w5_s {f : Nat → Int64 → Int64} {k : Nat} : wL (w5 hb f k w) 5 (6 * hb + k) 8 (f k (w5 hb f k w 5 (6 * hb + k) 8)) = w5 hb f (k + 1) w := by
  funext F i j
  rw [wL_at, w5_out (F := 5) (i := 6 * hb + k) (by omega)]
  by_cases h : F = 5 ∧ i = 6 * hb + k ∧ j = 8
  · obtain ⟨rfl, rfl, rfl⟩ := h
    rw [if_pos ⟨rfl, rfl, rfl⟩, w5_at (by omega)]
  · rw [if_neg h]
    unfold w5
    have : (F = 5 ∧ 6 * hb ≤ i ∧ i < 6 * hb + k ∧ j = 8) ↔ (F = 5 ∧ 6 * hb ≤ i ∧ i < 6 * hb + (k + 1) ∧ j = 8) := by omega
    simp only [this]
theorem w5_n {f : Nat → Int64 → Int64} {k : Nat} (hf : ∀ y, f k y = y) : w5 hb f k w = w5 hb f (k + 1) w := by
  funext F i j
  by_cases h : F = 5 ∧ i = 6 * hb + k ∧ j = 8
  · obtain ⟨rfl, rfl, rfl⟩ := h
    rw [w5_out (by omega), w5_at (by omega), hf]
  · unfold w5
    have : (F = 5 ∧ 6 * hb ≤ i ∧ i < 6 * hb + k ∧ j = 8) ↔ (F = 5 ∧ 6 * hb ≤ i ∧ i < 6 * hb + (k + 1) ∧ j = 8) := by omega
    simp only [this]
theorem wr_0 {f : Nat → Int64 → Int64} : wr f 0 w = w := by
  funext F i j; unfold wr; rw [if_neg (by omega)]
theorem wr_out {f : Nat → Int64 → Int64} {n F i j : Nat} (h : ¬ (F = 2218 ∧ i = 0 ∧ 70 ≤ j ∧ j < 70 + 10 * n ∧ (j - 70) % 10 = 8)) : wr f n w F i j = w F i j := if_neg h
theorem wr_at {f : Nat → Int64 → Int64} {n t : Nat} (ht : t < n) : wr f n w 2218 0 (70 + 10 * t + 8) = f t (w 2218 0 (70 + 10 * t + 8)) := by
  unfold wr; rw [if_pos (by omega), show (70 + 10 * t + 8 - 70) / 10 = t by omega]
theorem wr_s {f : Nat → Int64 → Int64} {k : Nat} : wL (wr f k w) 2218 0 (70 + 10 * k + 8) (f k (wr f k w 2218 0 (70 + 10 * k + 8))) = wr f (k + 1) w := by
  funext F i j
  rw [wL_at, wr_out (j := 70 + 10 * k + 8) (by omega)]
  by_cases h : F = 2218 ∧ i = 0 ∧ j = 70 + 10 * k + 8
  · obtain ⟨rfl, rfl, rfl⟩ := h
    rw [if_pos ⟨rfl, rfl, rfl⟩, wr_at (by omega)]
  · rw [if_neg h]
    unfold wr
    have : (F = 2218 ∧ i = 0 ∧ 70 ≤ j ∧ j < 70 + 10 * k ∧ (j - 70) % 10 = 8) ↔ (F = 2218 ∧ i = 0 ∧ 70 ≤ j ∧ j < 70 + 10 * (k + 1) ∧ (j - 70) % 10 = 8) := by omega
    simp only [this]
theorem wr_n {f : Nat → Int64 → Int64} {k : Nat} (hf : ∀ y, f k y = y) : wr f k w = wr f (k + 1) w := by
  funext F i j
  by_cases h : F = 2218 ∧ i = 0 ∧ j = 70 + 10 * k + 8
  · obtain ⟨rfl, rfl, rfl⟩ := h
    rw [wr_out (by omega), wr_at (by omega), hf]
  · unfold wr
    have : (F = 2218 ∧ i = 0 ∧ 70 ≤ j ∧ j < 70 + 10 * k ∧ (j - 70) % 10 = 8) ↔ (F = 2218 ∧ i = 0 ∧ 70 ≤ j ∧ j < 70 + 10 * (k + 1) ∧ (j - 70) % 10 = 8) := by omega
    simp only [this]
/-- a harbour of the program behind a change of jobs -/
theorem hb_job (H : HB g w hb c) (h6 : TN c ≤ 6) (h8 : SN c ≤ 8) {s n : Nat} {a : Int32} {f : Nat → Int64 → Int64} (hs : s < SN c) (hf : ∀ t, TN c ≤ t → t < 6 → f t 0 = 0) (hn : n < 2147483648) :
    HB (pg (8 * hb + s) a (I n) g) (w5 hb f 6 w) hb (csh (cwk c f) s a.toInt64 (I n).toInt64) := by
  have S := same_trans (same_cwk (c := c) (f := f)) (same_csh (s := s) (a := a.toInt64) (b := (I n).toInt64) (by omega))
  have go : ∀ F i j, ¬ (F = 4 ∧ i = 8 * hb + s ∧ (j = 7 ∨ j = 8)) → pg (8 * hb + s) a (I n) g F i j = g F i j := fun F i j q => by
    unfold pg; rw [gI_at, if_neg (by omega), gI_at, if_neg (by omega)]
  have e7 : pg (8 * hb + s) a (I n) g 4 (8 * hb + s) 7 = a := by unfold pg; rw [gI_at, if_neg (by omega), gI_at, if_pos ⟨rfl, rfl, rfl⟩]
  have e8 : pg (8 * hb + s) a (I n) g 4 (8 * hb + s) 8 = I n := by unfold pg; rw [gI_at, if_pos ⟨rfl, rfl, rfl⟩]
  have co : ∀ k, ¬ (70 ≤ k ∧ k < 130 ∧ (k - 70) % 10 = 8) → k ≠ 130 + 11 * s + 7 → k ≠ 130 + 11 * s + 8 → csh (cwk c f) s a.toInt64 (I n).toInt64 k = c k := fun k q1 q2 q3 => by rw [csh_o q2 q3, cwk_o q1]
  refine ⟨⟨fun x hx => ?_, fun x hx => ?_, fun j hj => ?_, fun j hj => ?_, fun t ht j hj => ?_, fun s' hs' j hj => ?_⟩, ?_, fun t ht => ⟨?_, ?_, ?_⟩, fun t q1 q2 => ?_, fun s' hs' => ⟨?_, ?_⟩, fun s' q1 q2 => ?_⟩
  · rw [co _ (by omega) (by omega) (by omega), go _ _ _ (by omega)]; exact H.1.1 x hx
  · rw [co _ (by omega) (by omega) (by omega), go _ _ _ (by omega)]; exact H.1.2.1 x hx
  · rw [co _ (by omega) (by omega) (by omega), go _ _ _ (by omega)]; exact H.1.2.2.1 j hj
  · rw [co _ (by omega) (by omega) (by omega), go _ _ _ (by omega)]; exact H.1.2.2.2.1 j hj
  · rw [co _ (by omega) (by omega) (by omega), go _ _ _ (by omega)]; exact H.1.2.2.2.2.1 t ht j hj
  · rw [co _ (by omega) (by omega) (by omega), go _ _ _ (by omega)]; exact H.1.2.2.2.2.2 s' hs' j hj
  · rw [co _ (by omega) (by omega) (by omega), w5_out (by omega)]; exact H.2.1
  · rw [same_tn S] at ht
    rw [go _ _ _ (by omega), show TF (csh (cwk c f) s a.toInt64 (I n).toInt64) t 7 = TF c t 7 from by unfold TF nf; rw [co _ (by omega) (by omega) (by omega)]]
    exact (H.2.2.1 t ht).1
  · rw [same_tn S] at ht
    rw [w5_at (by omega), (H.2.2.1 t ht).2.1]
    show _ = csh (cwk c f) s a.toInt64 (I n).toInt64 (70 + 10 * t + 8)
    rw [csh_o (by omega) (by omega), cwk_w (by omega)]
  · rw [same_tn S] at ht
    rw [w5_out (by omega), (H.2.2.1 t ht).2.2]
    exact (co (70 + 10 * t + 9) (by omega) (by omega) (by omega)).symm
  · rw [same_tn S] at q1
    rw [w5_at (by omega), H.2.2.2.1 t q1 q2]
    exact hf t q1 q2
  · rw [same_sn S] at hs'
    by_cases e : s' = s
    · subst e
      rw [e7]
      unfold HR
      rw [csh_7, Int32.toInt_toInt64]
    · rw [go _ _ _ (by omega), (H.2.2.2.2.1 s' hs').1]
      unfold HR
      rw [co _ (by omega) (by omega) (by omega)]
  · rw [same_sn S] at hs'
    by_cases e : s' = s
    · subst e
      rw [e8]
      unfold SF
      rw [nf_eq csh_8 hn]
    · rw [go _ _ _ (by omega), (H.2.2.2.2.1 s' hs').2]
      unfold SF nf
      rw [co _ (by omega) (by omega) (by omega)]
  · rw [same_sn S] at q1
    rw [go _ _ _ (by omega)]
    exact H.2.2.2.2.2 s' q1 q2
theorem hb_1 (H : HB g w hb c) (h6 : TN c ≤ 6) (h8 : SN c ≤ 8) {i j : Nat} {x : Int32} (hj : 11 ≤ j) : HB (gI g 1 i j x) w hb c :=
  hb_cg H h6 h8 (fun F i' j' q => by rw [gI_at, if_neg (by unfold hbc at q; omega)]) (fun _ _ _ _ => rfl)
theorem put_e (H : HB g w hb c) (B : BI c) {s h S : Nat} (hs : s < SN c) (hh : h + SF c s 3 ≤ 48) (hS : S < 64) :
    s_X1_put hb (8 * hb + s) (I h) (I S) g w = some (gI (pg (8 * hb + s) (I h) (I S) g) 1 hb 11 (g 1 hb 11 + 1), w5 hb (fput S (OWN c s h)) 6 w) := by
  have key : ∀ (n k : Nat), k ≤ 6 → 7 - k < n → s_X1_put_R10 hb (8 * hb + s) (I h) (I S) n (OWN c s h) (I k) g (w5 hb (fput S (OWN c s h)) k w) = some (gI (pg (8 * hb + s) (I h) (I S) g) 1 hb 11 (g 1 hb 11 + 1), w5 hb (fput S (OWN c s h)) 6 w) := by
    intro n
    induction n with
    | zero => intro k h1 hm; omega
    | succ n ih =>
      intro k h1 hm
      show s_X1_put_10 hb (8 * hb + s) (I h) (I S) (s_X1_put_R10 hb (8 * hb + s) (I h) (I S) n) (OWN c s h) (I k) g (w5 hb (fput S (OWN c s h)) k w) = _
      unfold s_X1_put_10 s_X1_put_46
      rw [I_suc]
      by_cases hk : k < 6
      · rw [if_neg (show ¬ (6 : Int32) ≤ I k from nle (a := 6) hk (by decide)), isIn6 hS (by omega)]
        by_cases e : S.testBit k = true
        · rw [if_pos e, if_pos (inR_I hk (by decide)), I_tn (by omega)]
          have q := w5_s (hb := hb) (w := w) (f := fput S (OWN c s h)) (k := k)
          rw [show fput S (OWN c s h) k (w5 hb (fput S (OWN c s h)) k w 5 (6 * hb + k) 8) = w5 hb (fput S (OWN c s h)) k w 5 (6 * hb + k) 8 ||| OWN c s h from if_pos e] at q
          rw [q]
          exact ih (k + 1) (by omega) (by omega)
        · rw [if_neg e, w5_n (k := k) (fun y => if_neg e)]
          exact ih (k + 1) (by omega) (by omega)
      · have e : k = 6 := by omega
        subst e
        rw [if_pos (show (6 : Int32) ≤ I 6 by decide)]
        have : (gI (gI g 4 (8 * hb + s) 7 (I h)) 4 (8 * hb + s) 8 (I S)) 1 hb 11 = g 1 hb 11 := by rw [gI_at, if_neg (by omega), gI_at, if_neg (by omega)]
        rw [this]
        rfl
  unfold s_X1_put
  rw [own6 H B hs hh]
  have := key FU 0 (by decide) (by decide)
  rw [w5_0] at this
  exact this
theorem hb_put (H : HB g w hb c) (B : BI c) {s h S : Nat} {x : Int32} (hs : s < SN c) (hS : S < 2 ^ TN c) : HB (gI (pg (8 * hb + s) (I h) (I S) g) 1 hb 11 x) (w5 hb (fput S (OWN c s h)) 6 w) hb (cput c s h S) := by
  have h8 := sn8 B
  have S1 := cput_same (c := c) (s := s) (h := h) (S := S) (by omega)
  refine hb_1 (hb_job H (tn6 B) (sn8 B) hs (fun t q1 q2 => ?_) (by have := s64 B hS; omega)) (by rw [show TN (csh _ s _ _) = TN c from same_tn S1]; exact tn6 B) (by rw [show SN (csh _ s _ _) = SN c from same_sn S1]; exact sn8 B) (by decide)
  unfold fput
  rw [if_neg (fun q => by have := bit_lt hS q; omega)]
theorem rc_wr (R : RV w c) {f : Nat → Int64 → Int64} {n : Nat} (hn : n ≤ 6) (hf : ∀ t, n ≤ t → t < 6 → f t (WK c t) = WK c t) : RV (wr f n w) (cwk c f) := by
  intro k hk
  by_cases h : 70 ≤ k ∧ k < 130 ∧ (k - 70) % 10 = 8
  · obtain ⟨t, rfl, ht⟩ : ∃ t, k = 70 + 10 * t + 8 ∧ t < 6 := ⟨(k - 70) / 10, by omega, by omega⟩
    rw [cwk_w ht]
    by_cases q : t < n
    · rw [wr_at q, R _ hk]; rfl
    · rw [wr_out (by omega), R _ hk, hf t (by omega) ht]; rfl
  · rw [wr_out (by omega), cwk_o h, R k hk]
theorem rc_wj (R : RV w c) {s : Nat} {a b : Int64} : RV (wj s a b w) (csh c s a b) := by
  intro k hk
  unfold wj csh
  rw [wL_at, wL_at]
  by_cases h7 : k = 130 + 11 * s + 7
  · subst h7; rw [if_neg (by omega), if_pos ⟨rfl, rfl, rfl⟩, if_pos rfl]
  · by_cases h8 : k = 130 + 11 * s + 8
    · subst h8; rw [if_pos ⟨rfl, rfl, rfl⟩, if_neg (by omega), if_pos rfl]
    · rw [if_neg (by omega), if_neg (by omega), if_neg h7, if_neg h8, R k hk]
theorem ix7 {s : Nat} (hs : s < 8) : inR (((130 : Int32) + (11 : Int32) * I s) + 7) 218 = true ∧ (((130 : Int32) + (11 : Int32) * I s) + 7).toNatClampNeg = 130 + 11 * s + 7 := by
  rw [show (((130 : Int32) + (11 : Int32) * I s) + 7) = I (130 + 11 * s + 7) from ix_ship]
  exact ⟨inR_I (by omega) (by decide), I_tn (by omega)⟩
theorem ix8 {s : Nat} (hs : s < 8) : inR (((130 : Int32) + (11 : Int32) * I s) + 8) 218 = true ∧ (((130 : Int32) + (11 : Int32) * I s) + 8).toNatClampNeg = 130 + 11 * s + 8 := by
  rw [show (((130 : Int32) + (11 : Int32) * I s) + 8) = I (130 + 11 * s + 8) from ix_ship]
  exact ⟨inR_I (by omega) (by decide), I_tn (by omega)⟩
theorem iw8 {t : Nat} (ht : t < 6) : inR (((70 : Int32) + (10 : Int32) * I t) + 8) 218 = true ∧ (((70 : Int32) + (10 : Int32) * I t) + 8).toNatClampNeg = 70 + 10 * t + 8 := by
  rw [show (((70 : Int32) + (10 : Int32) * I t) + 8) = I (70 + 10 * t + 8) from ix_tug]
  exact ⟨inR_I (by omega) (by decide), I_tn (by omega)⟩
theorem or_0 (x : Int64) : x ||| 0 = x := tb_ext (fun k hk => by rw [tb_or, tb_0, Bool.or_false])
theorem wj_wr {f : Nat → Int64 → Int64} {n s : Nat} {a b : Int64} (hn : n ≤ 6) : wj s a b (wr f n w) = wr f n (wj s a b w) := by
  funext F i j
  by_cases h : F = 2218 ∧ i = 0 ∧ 70 ≤ j ∧ j < 70 + 10 * n ∧ (j - 70) % 10 = 8
  · unfold wj wr
    rw [wL_at, if_neg (by omega), wL_at, if_neg (by omega), if_pos h, if_pos h, wL_at, if_neg (by omega), wL_at, if_neg (by omega)]
  · rw [wr_out h]
    unfold wj
    rw [wL_at, wL_at, wL_at, wL_at, wr_out h]
theorem lays_e (R : RV w c) (B : BI c) {s h S : Nat} (hs : s < SN c) (hh : h + SF c s 3 ≤ 48) (hS : S < 64) : s_X7_lays 0 (I s) (I h) (I S) g w = some (g, wr (fput S (OWN c s h)) (TN c) (wj s (I h).toInt64 (I S).toInt64 w)) := by
  have h6 := tn6 B
  have h8 := sn8 B
  have l := len_ge B hs
  -- behind the ship's two cells nothing that is read has changed
  have e64 : ∀ k, wr (fput S (OWN c s h)) k (wj s (I h).toInt64 (I S).toInt64 w) 2218 0 64 = c 64 := fun k => by
    rw [wr_out (by omega)]; unfold wj; rw [wL_at, if_neg (by omega), wL_at, if_neg (by omega), R 64 (by decide)]
  have e3 : ∀ k, k ≤ 6 → s_X7_ofShip 0 (I s) 3 g (wr (fput S (OWN c s h)) k (wj s (I h).toInt64 (I S).toInt64 w)) = some (I (SF c s 3)) := fun k hk6 => by
    rw [show s_X7_ofShip 0 (I s) 3 g (wr (fput S (OWN c s h)) k (wj s (I h).toInt64 (I S).toInt64 w)) = some (wr (fput S (OWN c s h)) k (wj s (I h).toInt64 (I S).toInt64 w) 2218 0 (130 + 11 * s + 3)).toInt32 from ofShip_e (by omega) (by decide)]
    have : wr (fput S (OWN c s h)) k (wj s (I h).toInt64 (I S).toInt64 w) 2218 0 (130 + 11 * s + 3) = c (130 + 11 * s + 3) := by
      rw [wr_out (by omega)]; unfold wj; rw [wL_at, if_neg (by omega), wL_at, if_neg (by omega), R _ (by omega)]
    rw [this, nf_I (bs B hs).2.2.2.1 (by decide)]; rfl
  have key : ∀ (n k : Nat), k ≤ TN c → 7 - k < n → s_X7_lays_R39 0 (I s) (I h) (I S) n (I k) g (wr (fput S (OWN c s h)) k (wj s (I h).toInt64 (I S).toInt64 w)) = some (g, wr (fput S (OWN c s h)) (TN c) (wj s (I h).toInt64 (I S).toInt64 w)) := by
    intro n
    induction n with
    | zero => intro k h1 hm; omega
    | succ n ih =>
      intro k h1 hm
      show s_X7_lays_39 0 (I s) (I h) (I S) (s_X7_lays_R39 0 (I s) (I h) (I S) n) (I k) g (wr (fput S (OWN c s h)) k (wj s (I h).toInt64 (I S).toInt64 w)) = _
      unfold s_X7_lays_39 s_X7_lays_96
      have eN := lgI (k := k) ((e64 k).trans (nf_L B.1.1 (by decide))) (by omega) (by have := tn6 B; unfold TN at this; omega)
      rw [n64, I_suc]
      by_cases hk : k < TN c
      · have q8 := iw8 (t := k) (by omega)
        rw [if_neg (fun q => by have := eN.mp q; unfold TN at hk; omega), if_pos q8.1, if_pos q8.1, q8.2]
        have q := wr_s (w := wj s (I h).toInt64 (I S).toInt64 w) (f := fput S (OWN c s h)) (k := k)
        by_cases e : S.testBit k = true
        · rw [if_neg (fun q => q ((sb hS (by omega)).mpr e)), e3 k (by omega)]
          show (if inR (((70 : Int32) + (10 : Int32) * I k) + 8) 218 = true then s_X7_lays_R39 0 (I s) (I h) (I S) n (I (k + 1)) g (wL (wr (fput S (OWN c s h)) k (wj s (I h).toInt64 (I S).toInt64 w)) 2218 0 (70 + 10 * k + 8) (wr (fput S (OWN c s h)) k (wj s (I h).toInt64 (I S).toInt64 w) 2218 0 (70 + 10 * k + 8) ||| s_X7_hours (I h) (I h + I (SF c s 3)) g (wr (fput S (OWN c s h)) k (wj s (I h).toInt64 (I S).toInt64 w)))) else none) = _
          rw [if_pos q8.1]
          rw [I_add, hours7 (by omega) (by omega)]
          rw [show fput S (OWN c s h) k (wr (fput S (OWN c s h)) k (wj s (I h).toInt64 (I S).toInt64 w) 2218 0 (70 + 10 * k + 8)) = wr (fput S (OWN c s h)) k (wj s (I h).toInt64 (I S).toInt64 w) 2218 0 (70 + 10 * k + 8) ||| OWN c s h from if_pos e] at q
          rw [show HH h (h + SF c s 3) = OWN c s h from rfl, q]
          exact ih (k + 1) (by omega) (by omega)
        · rw [if_pos (fun q => e ((sb hS (by omega)).mp q)), or_0]
          rw [show fput S (OWN c s h) k (wr (fput S (OWN c s h)) k (wj s (I h).toInt64 (I S).toInt64 w) 2218 0 (70 + 10 * k + 8)) = wr (fput S (OWN c s h)) k (wj s (I h).toInt64 (I S).toInt64 w) 2218 0 (70 + 10 * k + 8) from if_neg e] at q
          rw [q]
          exact ih (k + 1) (by omega) (by omega)
      · have ek : k = TN c := by omega
        rw [if_pos (eN.mpr (by unfold TN at ek; omega)), ek]
  unfold s_X7_lays
  have q7 := ix7 (s := s) (by omega)
  have q8 := ix8 (s := s) (by omega)
  rw [if_pos q7.1, if_pos q8.1, q7.2, q8.2]
  have := key FU 0 (by omega) (by show 7 - 0 < 1000; omega)
  rw [wr_0] at this
  exact this
theorem rc_put (R : RV w c) (B : BI c) {s h S : Nat} (hs : s < SN c) (hS : S < 2 ^ TN c) : RV (wr (fput S (OWN c s h)) (TN c) (wj s (I h).toInt64 (I S).toInt64 w)) (cput c s h S) := by
  have h6 := tn6 B
  rw [← wj_wr h6]
  refine rc_wj (rc_wr R h6 (fun t q1 q2 => ?_))
  unfold fput
  rw [if_neg (fun q => by have := bit_lt hS q; omega)]
end
