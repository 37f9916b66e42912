/-! the best hour and set: both sides -/
def FRB (hb : Nat) (g0 g : Nat → Nat → Nat → Int32) : Prop := ∀ F i j, ¬ (F = 1 ∧ i = hb ∧ j = 15) → g F i j = g0 F i j
def FR7 (g0 g : Nat → Nat → Nat → Int32) : Prop := ∀ F i j, ¬ (F = 7 ∧ i = 0 ∧ (j = 10 ∨ j = 11)) → g F i j = g0 F i j
def hbc (hb F i j : Nat) : Prop := (F = 1012 ∧ i = td hb) ∨ (F = 1048 ∧ i = hb) ∨ (F = 1 ∧ i = hb ∧ 5 ≤ j ∧ j ≤ 10) ∨ (F = 5 ∧ 6 * hb ≤ i ∧ i < 6 * hb + 6 ∧ j ≤ 7) ∨ (F = 4 ∧ 8 * hb ≤ i ∧ i < 8 * hb + 8 ∧ j ≤ 8)
def hbw (hb F i j : Nat) : Prop := (F = 1 ∧ i = hb ∧ j = 8) ∨ (F = 5 ∧ 6 * hb ≤ i ∧ i < 6 * hb + 6 ∧ (j = 8 ∨ j = 9))
section
variable {g g' : Nat → Nat → Nat → Int32} {w w' : Nat → Nat → Nat → Int64} {hb : Nat} {c : Nat → Int64} {pl ba : Nat → Nat}
theorem hb_cg (H : HB g w hb c) (h6 : TN c ≤ 6) (h8 : SN c ≤ 8) (hg : ∀ F i j, hbc hb F i j → g' F i j = g F i j) (hw : ∀ F i j, hbw hb F i j → w' F i j = w F i j) : HB g' w' hb c := by
  refine ⟨⟨fun x hx => ?_, fun x hx => ?_, fun j hj => ?_, fun j hj => ?_, fun t ht j hj => ?_, fun s hs j hj => ?_⟩, ?_, fun t ht => ⟨?_, ?_, ?_⟩, fun t h1 h2 => ?_, fun s hs => ⟨?_, ?_⟩, fun s h1 h2 => ?_⟩
  · rw [hg _ _ _ (by unfold hbc; omega)]; exact H.1.1 x hx
  · rw [hg _ _ _ (by unfold hbc; omega)]; exact H.1.2.1 x hx
  · rw [hg _ _ _ (by unfold hbc; omega)]; exact H.1.2.2.1 j hj
  · rw [hg _ _ _ (by unfold hbc; omega)]; exact H.1.2.2.2.1 j hj
  · rw [hg _ _ _ (by unfold hbc; omega)]; exact H.1.2.2.2.2.1 t ht j hj
  · rw [hg _ _ _ (by unfold hbc; omega)]; exact H.1.2.2.2.2.2 s hs j hj
  · rw [hw _ _ _ (by unfold hbw; omega)]; exact H.2.1
  · rw [hg _ _ _ (by unfold hbc; omega)]; exact (H.2.2.1 t ht).1
  · rw [hw _ _ _ (by unfold hbw; omega)]; exact (H.2.2.1 t ht).2.1
  · rw [hw _ _ _ (by unfold hbw; omega)]; exact (H.2.2.1 t ht).2.2
  · rw [hw _ _ _ (by unfold hbw; omega)]; exact H.2.2.2.1 t h1 h2
  · rw [hg _ _ _ (by unfold hbc; omega)]; exact (H.2.2.2.2.1 s hs).1
  · rw [hg _ _ _ (by unfold hbc; omega)]; exact (H.2.2.2.2.1 s hs).2
  · rw [hg _ _ _ (by unfold hbc; omega)]; exact H.2.2.2.2.2 s h1 h2
theorem hb_frb (H : HB g w hb c) (B : BI c) (h : FRB hb g g') : HB g' w hb c := hb_cg H (tn6 B) (sn8 B) (fun F i j q => h F i j (by unfold hbc at q; omega)) (fun F i j q => rfl)
theorem pc_frb (P : PC g pl ba) (h : FRB hb g g') : PC g' pl ba := fun b hb2 => ⟨(h 1006 0 b (by omega)).trans (P b hb2).1, (h 1006 1 b (by omega)).trans (P b hb2).2⟩
theorem pr_fr7 (P : PR g pl ba) (h : FR7 g g') : PR g' pl ba := fun b hb2 => ⟨(h 1006 2 b (by omega)).trans (P b hb2).1, (h 1006 3 b (by omega)).trans (P b hb2).2⟩
theorem frb_gI {g0 : Nat → Nat → Nat → Int32} {x : Int32} (h : FRB hb g0 g) : FRB hb g0 (gI g 1 hb 15 x) := fun F i j q => by
  rw [gI_at, if_neg q]; exact h F i j q
theorem valid_iff (B : BI c) {s h : Nat} (hs : s < SN c) {x1 x2 : Int64} (h1 : ∀ j, tb x1 j = true ↔ (j < 48 ∧ LOWAT c s j)) (h2 : ∀ j, tb x2 j = true ↔ ∃ o, 0 ≤ o ∧ o < SN c ∧ BAS c ba s j o) (hr : SF c s 2 ≤ h) (hh : h + SF c s 3 ≤ 48) :
    ((c 63 ||| x1) ||| x2) &&& OWN c s h = 0 ↔ VALID c pl ba s h := by
  have e1 := (shut6 hh h1).trans (not_congr (low_sh hh))
  have e2 := (shut6 hh h2).trans (not_congr (bas_sh B hs))
  have or0 : ∀ a b m : Int64, (a ||| b) &&& m = 0 ↔ (a &&& m = 0 ∧ b &&& m = 0) := fun a b m => by
    rw [and_0, and_0, and_0]
    constructor
    · intro q
      exact ⟨fun k p1 p2 p3 => q k p1 (by rw [tb_or, p2]; rfl) p3, fun k p1 p2 p3 => q k p1 (by rw [tb_or, p2, Bool.or_true]) p3⟩
    · rintro ⟨q1, q2⟩ k p1 p2 p3
      rw [tb_or, Bool.or_eq_true] at p2
      rcases p2 with p2 | p2
      · exact q1 k p1 p2 p3
      · exact q2 k p1 p2 p3
  rw [or0, or0, e1, e2]
  constructor
  · rintro ⟨⟨q1, q2⟩, q3⟩
    exact ⟨⟨hr, hh⟩, q2, q3, q1⟩
  · rintro ⟨_, q2, q3, q4⟩
    exact ⟨⟨q4, q2⟩, q3⟩
theorem seek6 (H : HB g w hb c) (B : BI c) (P : PC g pl ba) (Q : PB pl ba) {s : Nat} (hs : s < SN c) :
    ∃ r g', s_X1_seekBest hb (8 * hb + s) g w = some (r, g', w) ∧ FRB hb g g' ∧ ((r = -4 ∧ NOBEST c pl ba s) ∨ ∃ h v, r = I h ∧ BESTR c pl ba s h v ∧ g' 1 hb 15 = I v) := by
  have l := len_ge B hs
  have r2 : SF c s 2 ≤ 47 := (nf_rb (bs B hs).2.2.1).2
  obtain ⟨x1, ex1, hx1⟩ := low6 H B hs
  obtain ⟨x2, ex2, hx2⟩ := basin6 H B P hs
  have key : ∀ (n k : Nat) (g1 : Nat → Nat → Nat → Int32), SF c s 2 ≤ k → k ≤ 49 → FRB hb g g1 → (∀ h', h' < k → NONEAT c pl ba s h') → 50 - k < n →
      ∃ r g', s_X1_seekBest_R23 hb (8 * hb + s) n ((c 63 ||| x1) ||| x2) (I k) g1 w = some (r, g', w) ∧ FRB hb g g' ∧ ((r = -4 ∧ NOBEST c pl ba s) ∨ ∃ h v, r = I h ∧ BESTR c pl ba s h v ∧ g' 1 hb 15 = I v) := by
    intro n
    induction n with
    | zero => intro k g1 h1 h2 h3 h4 hm; omega
    | succ n ih =>
      intro k g1 h1 h2 h3 h4 hm
      have H1 := hb_frb H B h3
      have P1 := pc_frb P h3
      show ∃ r g', s_X1_seekBest_23 hb (8 * hb + s) (s_X1_seekBest_R23 hb (8 * hb + s) n) ((c 63 ||| x1) ||| x2) (I k) g1 w = some (r, g', w) ∧ _
      unfold s_X1_seekBest_23 s_X1_seekBest_76
      rw [c_ship H1 B hs (by decide) (by decide), I_add, I_suc]
      have next : ∀ g2, FRB hb g g2 → NONEAT c pl ba s k → k + SF c s 3 ≤ 48 → ∃ r g', s_X1_seekBest_R23 hb (8 * hb + s) n ((c 63 ||| x1) ||| x2) (I (k + 1)) g2 w = some (r, g', w) ∧ FRB hb g g' ∧ ((r = -4 ∧ NOBEST c pl ba s) ∨ ∃ h v, r = I h ∧ BESTR c pl ba s h v ∧ g' 1 hb 15 = I v) := fun g2 q1 q2 q3 =>
        ih (k + 1) g2 (by omega) (by omega) q1 (fun h' p => by
          by_cases e : h' = k
          · subst e; exact q2
          · exact h4 h' (by omega)) (by omega)
      by_cases hk : 48 < k + SF c s 3
      · rw [if_pos (show (48 : Int32) < I (k + SF c s 3) from ilt (a := 48) hk (by omega))]
        refine ⟨_, _, rfl, frb_gI h3, Or.inl ⟨rfl, fun h' => ?_⟩⟩
        by_cases e : h' < k
        · exact h4 h' e
        · intro hv
          have := hv.1.2
          omega
      · rw [if_neg (show ¬ (48 : Int32) < I (k + SF c s 3) from nlt (a := 48) (by omega) (by decide)), own6 H1 B hs (by omega)]
        have hv := valid_iff (pl := pl) B hs hx1 hx2 h1 (show k + SF c s 3 ≤ 48 by omega)
        by_cases e : ((c 63 ||| x1) ||| x2) &&& OWN c s k = 0
        · rw [if_neg (fun p => p ((lg0 _).mpr e))]
          have hV := hv.mp e
          obtain ⟨A, eA, hA⟩ := tugs6 H1 B P1 Q hs (show k + SF c s 3 ≤ 48 by omega)
          rw [eA]
          obtain ⟨v, ev, hL⟩ := least6 H1 B hs (show k + SF c s 3 ≤ 48 by omega) hA.1
          show ∃ r g', ((s_X1_leastSet hb (8 * hb + s) (I k) (I A) g1 w).bind fun q2 => if (gI g1 1 hb 15 q2) 1 hb 15 = 0 then _ else _) = some (r, g', w) ∧ _
          rw [ev]
          show ∃ r g', (if (gI g1 1 hb 15 (I v)) 1 hb 15 = 0 then s_X1_seekBest_R23 hb (8 * hb + s) n ((c 63 ||| x1) ||| x2) (I (k + 1)) (gI g1 1 hb 15 (I v)) w else some (I k, gI g1 1 hb 15 (I v), w)) = some (r, g', w) ∧ _
          rw [gI_at, if_pos (show 1 = 1 ∧ hb = hb ∧ 15 = 15 from ⟨rfl, rfl, rfl⟩)]
          have hA6 := s64 B hA.1
          have hv64 : v < 2147483648 := by
            rcases hL with ⟨p, _⟩ | ⟨_, p, _⟩ <;> omega
          by_cases e0 : v = 0
          · subst e0
            rw [if_pos (show I 0 = 0 from rfl)]
            refine next _ (frb_gI h3) (fun _ A' hA' => ?_) (by omega)
            rw [← able_uniq hA hA']
            exact hL
          · rw [if_neg (nz_I e0 hv64)]
            refine ⟨_, _, rfl, frb_gI h3, Or.inr ⟨k, v, rfl, ⟨by omega, hV, e0, ⟨A, hA, hL⟩, h4⟩, ?_⟩⟩
            rw [gI_at, if_pos ⟨rfl, rfl, rfl⟩]
        · rw [if_pos (fun p => e ((lg0 _).mp p))]
          exact next g1 h3 (fun hV => absurd (hv.mpr hV) e) (by omega)
  unfold s_X1_seekBest
  rw [ex1, ex2, H.2.1, c_ship H B hs (by decide) (by decide)]
  refine key FU (SF c s 2) g (Nat.le_refl _) (by omega) (fun _ _ _ _ => rfl) (fun h' p => ?_) (by show 50 - SF c s 2 < 1000; omega)
  intro hV
  have := hV.1.1
  omega
theorem fr7_2 {g0 : Nat → Nat → Nat → Int32} {x y : Int32} (h : FR7 g0 g) : FR7 g0 (gI (gI g 7 0 11 x) 7 0 10 y) := fun F i j q => by
  rw [gI_at, if_neg (by omega), gI_at, if_neg (by omega)]; exact h F i j q
theorem finds7 (R : RV w c) (B : BI c) (P : PR g pl ba) (Q : PB pl ba) {s : Nat} (hs : s < SN c) (hJ : ¬ JOB c s) :
    ∃ r g', s_X7_finds 0 (I s) g w = some (r, g', w) ∧ FR7 g g' ∧ ((r = false ∧ NOBEST c pl ba s) ∨ ∃ h v, r = true ∧ BESTR c pl ba s h v ∧ g' 7 0 10 = I h ∧ g' 7 0 11 = I v) := by
  have l := len_ge B hs
  have h6 := tn6 B
  -- the sets
  have sets : ∀ (rec7 : Int32 → (Nat → Nat → Nat → Int32) → (Nat → Nat → Nat → Int64) → Option (Bool × GS)) (h A : Nat), h + SF c s 3 ≤ 48 → A < 2 ^ TN c → ∀ (n k v : Nat) (g1 : Nat → Nat → Nat → Int32), 1 ≤ k → k ≤ A + 1 → FR7 g g1 → g1 7 0 11 = I v → (v ≠ 0 → g1 7 0 10 = I h) → LB (GOOD c s h A) (KEY c) k v → 65 - k < n →
      ∃ v' g', s_X7_finds_R177 0 (I s) rec7 n (I h) (I A) (I k) g1 w = rec7 (I (h + 1)) g' w ∧ FR7 g g' ∧ g' 7 0 11 = I v' ∧ (v' ≠ 0 → g' 7 0 10 = I h) ∧ LB (GOOD c s h A) (KEY c) (A + 1) v' := by
    intro rec7 h A hh hA n
    have hA6 := s64 B hA
    induction n with
    | zero => intro k v g1 h1 h2 h3 h4 h5 h7 hm; omega
    | succ n ih =>
      intro k v g1 h1 h2 h3 h4 h5 h7 hm
      have P1 := pr_fr7 P h3
      show ∃ v' g', s_X7_finds_177 0 (I s) rec7 (s_X7_finds_R177 0 (I s) rec7 n) (I h) (I A) (I k) g1 w = _ ∧ _
      unfold s_X7_finds_177 s_X7_finds_212 s_X7_finds_216 s_X7_finds_217 s_X7_finds_272 s_X7_finds_278
      rw [I_suc, I_suc]
      by_cases hk : k < A + 1
      · have hk6 : k < 64 := by omega
        have hm65 : 65 - (k + 1) < n := by omega
        have skip : ¬ (GOOD c s h A k ∧ (v = 0 ∨ KEY c k < KEY c v)) → ∃ v' g', s_X7_finds_R177 0 (I s) rec7 n (I h) (I A) (I (k + 1)) g1 w = rec7 (I (h + 1)) g' w ∧ FR7 g g' ∧ g' 7 0 11 = I v' ∧ (v' ≠ 0 → g' 7 0 10 = I h) ∧ LB (GOOD c s h A) (KEY c) (A + 1) v' := fun no => ih (k + 1) v g1 (by omega) (by omega) h3 h4 h5 (lb_no h7 no) (by omega)
        rw [if_neg (nlt (by omega) (by omega)), if_neg (show ¬ false = true by decide)]
        have es := sub32 k hk6 A hA6
        by_cases e1 : k &&& A = k
        · rw [if_neg (fun p => by rw [decide_eq_true p] at es; exact absurd (of_decide_eq_true es.symm) (fun q => q e1))]
          have last : (v = 0 ∨ KEY c k < KEY c v) → ∃ v' g', (if true = true then ((s_X7_failsTogether 0 3 (I s) (I h) (I k) g1 w).bind fun q1 => if q1 = true then s_X7_finds_R177 0 (I s) rec7 n (I h) (I A) (I (k + 1)) g1 w else ((s_X7_failsTogether 0 4 (I s) (I h) (I k) g1 w).bind fun q2 => if q2 = true then s_X7_finds_R177 0 (I s) rec7 n (I h) (I A) (I (k + 1)) g1 w else ((s_X7_failsTogether 0 10 (I s) (I h) (I k) g1 w).bind fun q3 => if q3 = true then s_X7_finds_R177 0 (I s) rec7 n (I h) (I A) (I (k + 1)) g1 w else s_X7_finds_R177 0 (I s) rec7 n (I h) (I A) (I (k + 1)) (gI (gI g1 7 0 11 (I k)) 7 0 10 (I h)) w))) else s_X7_finds_R177 0 (I s) rec7 n (I h) (I A) (I (k + 1)) g1 w) = rec7 (I (h + 1)) g' w ∧ FR7 g g' ∧ g' 7 0 11 = I v' ∧ (v' ≠ 0 → g' 7 0 10 = I h) ∧ LB (GOOD c s h A) (KEY c) (A + 1) v' := fun hK => by
            rw [if_pos rfl]
            obtain ⟨b, eb, hbb⟩ := pulls7 (g := g1) R B hs hk6 hh
            rw [eb]
            show ∃ v' g', (if b = true then _ else _) = rec7 (I (h + 1)) g' w ∧ _
            by_cases e2 : b = true
            · rw [if_pos e2]; exact skip (fun p => hbb.mp e2 p.1.2.1)
            · rw [if_neg e2]
              obtain ⟨b2, eb2, hbb2⟩ := astern7 (g := g1) (h := h) R B hs hk6
              rw [eb2]
              show ∃ v' g', (if b2 = true then _ else _) = rec7 (I (h + 1)) g' w ∧ _
              by_cases e3 : b2 = true
              · rw [if_pos e3]; exact skip (fun p => hbb2.mp e3 p.1.2.2.1)
              · rw [if_neg e3]
                obtain ⟨b3, eb3, hbb3⟩ := guard7 (g := g1) R B hs hk6 hh
                rw [eb3]
                show ∃ v' g', (if b3 = true then _ else _) = rec7 (I (h + 1)) g' w ∧ _
                by_cases e4 : b3 = true
                · rw [if_pos e4]; exact skip (fun p => p.1.2.2.2 (hbb3.mp e4))
                · rw [if_neg e4]
                  have hG : GOOD c s h A k := ⟨e1, Classical.byContradiction (fun p => e2 (hbb.mpr p)), Classical.byContradiction (fun p => e3 (hbb2.mpr p)), fun p => e4 (hbb3.mpr p)⟩
                  refine ih (k + 1) k _ (by omega) (by omega) (fr7_2 h3) ?_ (fun _ => ?_) (lb_yes h7 h1 hG hK) hm65
                  · rw [gI_at, if_neg (by omega), gI_at, if_pos ⟨rfl, rfl, rfl⟩]
                  · rw [gI_at, if_pos ⟨rfl, rfl, rfl⟩]
          rw [h4]
          by_cases e0 : v = 0
          · subst e0
            rw [if_pos (show I 0 = 0 from rfl)]
            exact last (Or.inl rfl)
          · have hv : v < k := by
              rcases h7 with ⟨p, _⟩ | ⟨_, p, _⟩
              · exact absurd p e0
              · exact p
            rw [if_neg (nz_I e0 (by omega))]
            obtain ⟨b3, eb3, hbb3⟩ := better7 (g := g1) R B hk6 (b := v) (by omega)
            rw [eb3]
            show ∃ v' g', (if b3 = true then _ else _) = rec7 (I (h + 1)) g' w ∧ _
            by_cases e5 : b3 = true
            · rw [if_pos e5]; exact last (Or.inr (hbb3.mp e5))
            · rw [if_neg e5]
              exact skip (fun p => by
                rcases p.2 with p2 | p2
                · exact e0 p2
                · exact e5 (hbb3.mpr p2))
        · rw [if_pos (of_decide_eq_true (es.trans (decide_eq_true e1)))]
          exact skip (fun p => e1 p.1.1)
      · have ek : k = A + 1 := by omega
        subst ek
        rw [if_pos (ilt (by omega) (by omega))]
        exact ⟨v, g1, rfl, h3, h4, h5, h7⟩
  -- the tugs
  have tugs : ∀ (rec7 : Int32 → (Nat → Nat → Nat → Int32) → (Nat → Nat → Nat → Int64) → Option (Bool × GS)) (h : Nat), h + SF c s 3 ≤ 48 → ∀ (g1 : Nat → Nat → Nat → Int32), FR7 g g1 → ∀ (n k A : Nat), k ≤ TN c → A < 2 ^ k → (∀ t, t < k → (A.testBit t = true ↔ GT c pl t s h)) → 7 - k < n →
      ∃ A', ABLE c pl s h A' ∧ s_X7_finds_R67 0 (I s) rec7 n (I h) (I A) (I k) g1 w = s_X7_finds_R177 0 (I s) rec7 FU (I h) (I A') 1 g1 w := by
    intro rec7 h hh g1 h3 n
    have P1 := pr_fr7 P h3
    induction n with
    | zero => intro k A h1 h2 h4 hm; omega
    | succ n ih =>
      intro k A h1 h2 h4 hm
      show ∃ A', ABLE c pl s h A' ∧ s_X7_finds_67 0 (I s) rec7 (s_X7_finds_R67 0 (I s) rec7 n) (I h) (I A) (I k) g1 w = _
      unfold s_X7_finds_67 s_X7_finds_149 s_X7_finds_150 s_X7_finds_166
      rw [I_suc]
      by_cases hk : k < TN c
      · have hA6 : A < 64 := Nat.lt_of_lt_of_le h2 (Nat.pow_le_pow_right (n := 2) (by decide) (show k ≤ 6 by omega))
        have h2k : 2 ^ k < 64 := Nat.pow_lt_pow_right (a := 2) (by decide) (show k < 6 by omega)
        have skip : ¬ GT c pl k s h → ∃ A', ABLE c pl s h A' ∧ (if false = true then s_X7_finds_R67 0 (I s) rec7 n (I h) (I A ||| (1 <<< (I k &&& 31))) (I (k + 1)) g1 w else s_X7_finds_R67 0 (I s) rec7 n (I h) (I A ||| 0) (I (k + 1)) g1 w) = s_X7_finds_R177 0 (I s) rec7 FU (I h) (I A') 1 g1 w := fun no => by
          have q := able_skip h2 h4 no
          rw [if_neg (by decide), show I A ||| 0 = I A from (or32 A hA6 0 (by decide)).trans (by rw [Nat.or_zero])]
          exact ih (k + 1) A (by omega) q.1 q.2 (by omega)
        rw [if_neg (fun q => by have := (endT R B (by omega)).mp q; omega)]
        obtain ⟨b5, eb5, hb5⟩ := fails7 (k := 5) R B P1 Q (by decide) hs hk hh
        rw [show s_X7_fails 0 5 (I k) (I s) (I h) g1 w = some b5 from eb5]
        show ∃ A', ABLE c pl s h A' ∧ (if b5 = true then _ else _) = _
        by_cases f5 : b5 = true
        · rw [if_pos f5]; exact skip (fun p => hb5.mp f5 p.1)
        · rw [if_neg f5]
          obtain ⟨b8, eb8, hb8⟩ := fails7 (k := 8) R B P1 Q (by decide) hs hk hh
          rw [show s_X7_fails 0 8 (I k) (I s) (I h) g1 w = some b8 from eb8]
          show ∃ A', ABLE c pl s h A' ∧ (if b8 = true then _ else _) = _
          by_cases f8 : b8 = true
          · rw [if_pos f8]; exact skip (fun p => hb8.mp f8 p.2.1)
          · rw [if_neg f8]
            obtain ⟨b6, eb6, hb6⟩ := fails7 (k := 6) R B P1 Q (by decide) hs hk hh
            rw [show s_X7_fails 0 6 (I k) (I s) (I h) g1 w = some b6 from eb6]
            show ∃ A', ABLE c pl s h A' ∧ (if b6 = true then _ else _) = _
            by_cases f6 : b6 = true
            · rw [if_pos f6]; exact skip (fun p => hb6.mp f6 p.2.2.2.2)
            · rw [if_neg f6]
              obtain ⟨b7, eb7, hb7⟩ := fails7 (k := 7) R B P1 Q (by decide) hs hk hh
              rw [show s_X7_fails 0 7 (I k) (I s) (I h) g1 w = some b7 from eb7]
              show ∃ A', ABLE c pl s h A' ∧ (if b7 = true then _ else _) = _
              by_cases f7 : b7 = true
              · rw [if_pos f7]; exact skip (fun p => hb7.mp f7 p.2.2.2.1)
              · rw [if_neg f7]
                obtain ⟨b11, eb11, hb11⟩ := fails7 (k := 11) R B P1 Q (by decide) hs hk hh
                rw [show s_X7_fails 0 11 (I k) (I s) (I h) g1 w = some b11 from eb11]
                show ∃ A', ABLE c pl s h A' ∧ (if b11 = true then _ else _) = _
                by_cases f11 : b11 = true
                · rw [if_pos f11]; exact skip (fun p => hb11.mp f11 p.2.2.1)
                · rw [if_neg f11, if_pos rfl, shl32 k (by omega), or32 A hA6 _ h2k]
                  have ny : ∀ {b : Bool} {X : Prop}, (b = true ↔ ¬ X) → ¬ b = true → X := fun q1 q2 => Classical.byContradiction (fun p => q2 (q1.mpr p))
                  have q := able_step h2 h4 (show GT c pl k s h from ⟨ny hb5 f5, ny hb8 f8, ny hb11 f11, ny hb7 f7, ny hb6 f6⟩)
                  exact ih (k + 1) _ (by omega) q.1 q.2 (by omega)
      · have ek : k = TN c := by omega
        subst ek
        rw [if_pos ((endT R B (by omega)).mpr (Nat.le_refl _))]
        exact ⟨A, ⟨h2, h4⟩, rfl⟩
  -- the end
  have fin : ∀ (g1 : Nat → Nat → Nat → Int32) (v : Nat), v < 64 → g1 7 0 11 = I v → s_X7_finds_284 0 (I s) g1 w = some (decide (v ≠ 0), g1, w) := by
    intro g1 v hv e
    unfold s_X7_finds_284 s_X7_finds_296
    rw [e]
    by_cases e0 : v = 0
    · subst e0; rfl
    · rw [if_neg (show ¬ I v ≤ (0 : Int32) from nle (k := 0) (by omega) (by omega))]
      simp [e0]
  -- the hours
  have key : ∀ (n k v : Nat) (g1 : Nat → Nat → Nat → Int32), k ≤ 48 → FR7 g g1 → g1 7 0 11 = I v → v < 64 → ((v = 0 ∧ ∀ h', h' < k → NONEAT c pl ba s h') ∨ ∃ h, BESTR c pl ba s h v ∧ g1 7 0 10 = I h) → 50 - k < n →
      ∃ r g', s_X7_finds_R7 0 (I s) n (I k) g1 w = some (r, g', w) ∧ FR7 g g' ∧ ((r = false ∧ NOBEST c pl ba s) ∨ ∃ h v, r = true ∧ BESTR c pl ba s h v ∧ g' 7 0 10 = I h ∧ g' 7 0 11 = I v) := by
    intro n
    induction n with
    | zero => intro k v g1 h1 h2 h3 h4 h5 hm; omega
    | succ n ih =>
      intro k v g1 h1 h2 h3 hv64 h4 hm
      have P1 := pr_fr7 P h2
      show ∃ r g', s_X7_finds_7 0 (I s) (s_X7_finds_R7 0 (I s) n) (I k) g1 w = some (r, g', w) ∧ _
      unfold s_X7_finds_7 s_X7_finds_278
      rw [fin g1 v hv64 h3, h3, I_suc]
      have out : (48 ≤ k ∨ v ≠ 0) → ∃ r g', some (decide (v ≠ 0), g1, w) = some (r, g', w) ∧ FR7 g g' ∧ ((r = false ∧ NOBEST c pl ba s) ∨ ∃ h v, r = true ∧ BESTR c pl ba s h v ∧ g' 7 0 10 = I h ∧ g' 7 0 11 = I v) := fun hq => by
        refine ⟨_, _, rfl, h2, ?_⟩
        rcases h4 with ⟨q1, q2⟩ | ⟨h, q1, q2⟩
        · subst q1
          refine Or.inl ⟨rfl, fun h' => ?_⟩
          by_cases e : h' < k
          · exact q2 h' e
          · intro hV
            have := hV.1.2
            omega
        · exact Or.inr ⟨h, v, by simp [q1.2.2.1], q1, q2, h3⟩
      by_cases hk : k < 48
      · rw [if_neg (show ¬ (48 : Int32) ≤ I k from nle (a := 48) hk (by decide))]
        by_cases e0 : v = 0
        · subst e0
          rw [if_neg (show ¬ I 0 ≠ 0 by decide)]
          have h4' : ∀ h', h' < k → NONEAT c pl ba s h' := by
            rcases h4 with ⟨_, q2⟩ | ⟨h, q1, _⟩
            · exact q2
            · exact absurd rfl q1.2.2.1
          have next : ¬ VALID c pl ba s k → ∃ r g', s_X7_finds_R7 0 (I s) n (I (k + 1)) g1 w = some (r, g', w) ∧ FR7 g g' ∧ ((r = false ∧ NOBEST c pl ba s) ∨ ∃ h v, r = true ∧ BESTR c pl ba s h v ∧ g' 7 0 10 = I h ∧ g' 7 0 11 = I v) := fun no =>
            ih (k + 1) 0 g1 (by omega) h2 h3 (by decide) (Or.inl ⟨rfl, fun h' p => by
              by_cases e : h' = k
              · subst e; exact fun q => absurd q no
              · exact h4' h' (by omega)⟩) (by omega)
          obtain ⟨b1, eb1, hb1⟩ := alone7 (k := 1) (S := 0) (h := k) R B P1 (by decide) hs hJ (by omega) (Or.inl rfl)
          rw [show s_X7_failsAlone 0 1 (I s) (I k) g1 w = some b1 from eb1]
          show ∃ r g', (if b1 = true then _ else _) = some (r, g', w) ∧ _
          by_cases f1 : b1 = true
          · rw [if_pos f1]; exact next (fun p => hb1.mp f1 p.1)
          · rw [if_neg f1]
            have ny : ∀ {b : Bool} {X : Prop}, (b = true ↔ ¬ X) → ¬ b = true → X := fun q1 q2 => Classical.byContradiction (fun p => q2 (q1.mpr p))
            have v1 := ny hb1 f1
            have hh : k + SF c s 3 ≤ 48 := v1.2
            obtain ⟨b2, eb2, hb2⟩ := alone7 (k := 2) (S := 0) (h := k) R B P1 (by decide) hs hJ (by omega) (Or.inr hh)
            rw [show s_X7_failsAlone 0 2 (I s) (I k) g1 w = some b2 from eb2]
            show ∃ r g', (if b2 = true then _ else _) = some (r, g', w) ∧ _
            by_cases f2 : b2 = true
            · rw [if_pos f2]; exact next (fun p => hb2.mp f2 p.2.1)
            · rw [if_neg f2]
              obtain ⟨b9, eb9, hb9⟩ := alone7 (k := 9) (S := 0) (h := k) R B P1 (by decide) hs hJ (by omega) (Or.inr hh)
              rw [show s_X7_failsAlone 0 9 (I s) (I k) g1 w = some b9 from eb9]
              show ∃ r g', (if b9 = true then _ else _) = some (r, g', w) ∧ _
              by_cases f9 : b9 = true
              · rw [if_pos f9]; exact next (fun p => hb9.mp f9 p.2.2.1)
              · rw [if_neg f9]
                obtain ⟨b12, eb12, hb12⟩ := alone7 (k := 12) (S := 0) (h := k) R B P1 (by decide) hs hJ (by omega) (Or.inr hh)
                rw [show s_X7_failsAlone 0 12 (I s) (I k) g1 w = some b12 from eb12]
                show ∃ r g', (if b12 = true then _ else _) = some (r, g', w) ∧ _
                by_cases f12 : b12 = true
                · rw [if_pos f12]; exact next (fun p => hb12.mp f12 p.2.2.2)
                · rw [if_neg f12]
                  have hV : VALID c pl ba s k := ⟨v1, ny hb2 f2, ny hb9 f9, ny hb12 f12⟩
                  obtain ⟨A, hA, eA⟩ := tugs (s_X7_finds_R7 0 (I s) n) k hh g1 h2 FU 0 0 (by omega) (by decide) (fun t p => by omega) (by show 7 - 0 < 1000; omega)
                  have hA6 := s64 B hA.1
                  obtain ⟨v', g2, e1, e2, e3, e4, e5⟩ := sets (s_X7_finds_R7 0 (I s) n) k A hh hA.1 FU 1 0 g1 (Nat.le_refl _) (by omega) h2 h3 (fun p => absurd rfl p) (Or.inl ⟨rfl, fun S p1 p2 => by omega⟩) (by show 65 - 1 < 1000; omega)
                  have hv' : v' < 64 := by
                    rcases e5 with ⟨p, _⟩ | ⟨_, p, _⟩ <;> omega
                  rw [show s_X7_finds_R67 0 (I s) (s_X7_finds_R7 0 (I s) n) FU (I k) 0 0 g1 w = s_X7_finds_R7 0 (I s) n (I (k + 1)) g2 w from eA.trans e1]
                  refine ih (k + 1) v' g2 (by omega) e2 e3 hv' ?_ (by omega)
                  by_cases ev : v' = 0
                  · subst ev
                    refine Or.inl ⟨rfl, fun h' p => ?_⟩
                    by_cases e : h' = k
                    · subst e
                      intro _ A' hA'
                      rw [← able_uniq hA hA']
                      exact e5
                    · exact h4' h' (by omega)
                  · exact Or.inr ⟨k, ⟨by omega, hV, ev, ⟨A, hA, e5⟩, h4'⟩, e4 ev⟩
        · rw [if_pos (show I v ≠ 0 from nz_I e0 (by omega))]
          exact out (Or.inr e0)
      · rw [if_pos (show (48 : Int32) ≤ I k from ile (a := 48) (by omega) (by omega))]
        exact out (Or.inl (by omega))
  unfold s_X7_finds
  have q := key FU 0 0 (gI g 7 0 11 0) (by decide) (fun F i j q => by rw [gI_at, if_neg (by omega)]) (by rw [gI_at, if_pos ⟨rfl, rfl, rfl⟩]; rfl) (by decide) (Or.inl ⟨rfl, fun h' p => by omega⟩) (by decide)
  exact q
end
