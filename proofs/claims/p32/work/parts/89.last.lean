/-! a berth told; what is left; the start -/
section
variable {g g' g1 g2 : Nat → Nat → Nat → Int32} {w w' w1 w2 : Nat → Nat → Nat → Int64} {hb : Nat} {c c' : Nat → Int64} {pl ba pl' ba' : Nat → Nat} {p1 p2 p3 : Int32}
theorem re_needs (H : REL g w) : Ok (s_X6_needs 0 p1 p2 g w) (fun q => Ok (s_X7_needs 0 p1 p2 g w) (fun r => q = r)) := pr_needsE H.1
theorem re_fuel (H : REL g w) : Ok (s_X6_fuel 0 p1 p2 g w) (fun _ => Ok (s_X7_fuel 0 p1 p2 g w) (fun _ => True)) := pr_fuel H.1
def updn (f : Nat → Nat) (b v : Nat) : Nat → Nat := fun x => if x = b then v else f x
theorem updn_at {f : Nat → Nat} {b v : Nat} : updn f b v b = v := if_pos rfl
theorem updn_o {f : Nat → Nat} {b v x : Nat} (h : x ≠ b) : updn f b v x = f x := if_neg h
theorem mv_berth (S : ST g w) (L : RLX pl ba g w) : Ok (s_X6_berth 0 p1 p2 p3 g w) (fun q => Ok (s_X7_berth 0 p1 p2 p3 q.2.1 q.2.2) (fun r => (∃ pl ba, RLX pl ba r.2.1 r.2.2) ∧ q.1 = r.1)) := by
  have B := L.2.2.1
  have HB1 : HB g w 0 (w 2218 0) := ⟨S.2.2.2.1, L.2.1⟩
  have P := L.1.1
  have P2 := L.1.2.1
  have Q := L.1.2.2
  have X7 : ∀ (g : Nat → Nat → Nat → Int32) (w : Nat → Nat → Nat → Int64), s_X7_berth 0 p1 p2 p3 g w = if decide ((0 : Int32) ≤ p1 ∧ p1 ≤ 5) = true then if decide ((0 : Int32) ≤ p2 ∧ p2 ≤ 1) = true then if decide ((0 : Int32) ≤ p3 ∧ p3 ≤ (if p2 ≠ 0 then 1 else 60)) = true then s_X7_berth_R42 0 p1 p2 p3 FU 0 g w else some (-1, g, w) else some (-1, g, w) else some (-1, g, w) := fun g w => by
    unfold s_X7_berth s_X7_berth_31 s_X7_berth_37
    rw [isBerth7, in32 p2 0 1 (by decide) (by decide)]
    by_cases e : p2 ≠ 0
    · rw [if_pos e, if_pos e, in32 p3 0 1 (by decide) (by decide)]
    · rw [if_neg e, if_neg e, in32 p3 0 60 (by decide) (by decide)]
  have no : (∀ (g : Nat → Nat → Nat → Int32) (w : Nat → Nat → Nat → Int64), s_X7_berth 0 p1 p2 p3 g w = some (-1, g, w)) → Ok (some ((-1 : Int32), g, w)) (fun q => Ok (s_X7_berth 0 p1 p2 p3 q.2.1 q.2.2) (fun r => (∃ pl ba, RLX pl ba r.2.1 r.2.2) ∧ q.1 = r.1)) := fun h => by
    refine ok_some ?_
    show Ok (s_X7_berth 0 p1 p2 p3 g w) _
    rw [h]
    exact ⟨_, rfl, ⟨pl, ba, L⟩, rfl⟩
  have X6 : s_X6_berth 0 p1 p2 p3 g w = if decide ((0 : Int32) ≤ p1 ∧ p1 ≤ 5) = true then if decide ((0 : Int32) ≤ p2 ∧ p2 ≤ 1) = true then if decide ((0 : Int32) ≤ p3 ∧ p3 ≤ (if p2 ≠ 0 then 1 else 60)) = true then (s_X1_isBerthUsed 0 p1 g w).bind fun q1 => if q1 = true then some (-2, g, w) else if p2 ≠ 0 then s_X6_berth_71 0 p1 p2 p3 1 g w else s_X6_berth_71 0 p1 p2 p3 0 g w else some (-1, g, w) else some (-1, g, w) else some (-1, g, w) := by
    unfold s_X6_berth s_X6_berth_28 s_X6_berth_34
    rw [isBerth6, within_eq, within_eq, within_eq]
    by_cases e : p2 ≠ 0
    · simp only [if_pos e]
    · simp only [if_neg e]
  rw [X6]
  by_cases h1 : decide ((0 : Int32) ≤ p1 ∧ p1 ≤ 5) = true
  · by_cases h2 : decide ((0 : Int32) ≤ p2 ∧ p2 ≤ 1) = true
    · by_cases h3 : decide ((0 : Int32) ≤ p3 ∧ p3 ≤ (if p2 ≠ 0 then 1 else 60)) = true
      · rw [if_pos h1, if_pos h2, if_pos h3]
        have Y7 : ∀ (g : Nat → Nat → Nat → Int32) (w : Nat → Nat → Nat → Int64), s_X7_berth 0 p1 p2 p3 g w = s_X7_berth_R42 0 p1 p2 p3 FU 0 g w := fun g w => by rw [X7, if_pos h1, if_pos h2, if_pos h3]
        obtain ⟨b, hb6, rfl⟩ := (ix_rg (n := 5) (by decide)).mp (of_decide_eq_true h1)
        have v60 : IX 61 p3 ∧ (p2 ≠ 0 → IX 2 p3) := by
          have q := of_decide_eq_true h3
          by_cases e : p2 ≠ 0
          · rw [if_pos e] at q
            have := (ix_rg (n := 1) (by decide)).mp q
            exact ⟨by obtain ⟨k, hk, e2⟩ := this; exact ⟨k, by omega, e2⟩, fun _ => this⟩
          · rw [if_neg e] at q
            exact ⟨(ix_rg (n := 60) (by decide)).mp q, fun p => absurd p e⟩
        obtain ⟨r, er, hr⟩ := used6 HB1 B hb6
        rw [ob er]
        have fin : ∀ m, 9 < m → Ok (if r = true then some ((-2 : Int32), g, w) else if p2 ≠ 0 then s_X6_berth_71 0 (I b) p2 p3 1 g w else s_X6_berth_71 0 (I b) p2 p3 0 g w) (fun q => Ok (s_X7_berth_R42 0 (I b) p2 p3 m 0 q.2.1 q.2.2) (fun r => (∃ pl ba, RLX pl ba r.2.1 r.2.2) ∧ q.1 = r.1)) := fun m hm => by
          by_cases e : r = true
          · rw [if_pos e]
            refine ok_some ?_
            have k := (used7 (p2 := p2) (p3 := p3) (g := g) (rv_self (w := w)) B hb6 m 0 (Nat.zero_le _) (by omega)).1 (hr.mp e)
            refine ok_e k ?_
            exact ⟨_, rfl, ⟨pl, ba, L⟩, rfl⟩
          · rw [if_neg e]
            unfold s_X6_berth_71
            obtain ⟨v, hv, rfl⟩ := v60.1
            have base : ∀ (x : Nat), x < 2 → ∀ F i j, ¬ (F = 1006 ∧ i = x) → gI g 1006 x b (I v) F i j = g F i j := fun x hx F i j q => by rw [gI_at, if_neg (by omega)]
            have k : ∀ x, x < 2 → s_X7_berth_R42 0 (I b) p2 (I v) m (I 0) (gI g 1006 x b (I v)) w = if p2 ≠ 0 then s_X7_berth_116 0 (I b) p2 (I v) (gI g 1006 x b (I v) 1006 3 b) (gI g 1006 x b (I v)) w else s_X7_berth_116 0 (I b) p2 (I v) (gI g 1006 x b (I v) 1006 2 b) (gI g 1006 x b (I v)) w := fun x hx =>
              (used7 (p2 := p2) (p3 := I v) (g := gI g 1006 x b (I v)) (rv_self (w := w)) B hb6 m 0 (Nat.zero_le _) (by omega)).2 (fun q => e (hr.mpr q))
            have hb1 : inR (I b) 6 = true := inR_I hb6 (by decide)
            have tn : (I b).toNatClampNeg = b := I_tn (by omega)
            by_cases e2 : p2 ≠ 0
            · have hp1 : p2 = 1 := by
                have q := of_decide_eq_true h2
                obtain ⟨k, hk, e3⟩ := (ix_rg (n := 1) (by decide)).mp q
                have : k = 1 := by
                  have : k ≠ 0 := fun z => e2 (by rw [e3, z]; rfl)
                  omega
                rw [e3, this]; rfl
              obtain ⟨v', hv', ev⟩ := v60.2 e2
              have hv2 : v ≤ 1 := by have := I_inj (a := v) (b := v') (by omega) (by omega) ev; omega
              rw [if_pos e2, if_pos hb1, if_pos hb1, tn]
              refine ok_some ?_
              refine ok_e (k 1 (by decide)) ?_
              rw [if_pos e2]
              unfold s_X7_berth_116 s_X7_berth_137 s_X7_berth_158
              simp only [if_pos e2, if_pos hb1, tn]
              rw [if_neg (fun q => q hp1)]
              have s3 : gI g 1006 1 b (I v) 1006 3 b = I (ba b) := (base 1 (by decide) _ _ _ (by omega)).trans (P2 b hb6).2
              refine ⟨_, rfl, ⟨pl, updn ba b v, rl_places L (fun F i j q => ?_) (fun x hx => ⟨?_, ?_⟩) (fun x hx => ⟨?_, ?_⟩) (fun x hx => ⟨(Q x hx).1, ?_⟩)⟩, ?_⟩
              · show gI (gI (gI g 1006 1 b (I v)) 1006 2 b (gI g 1006 1 b (I v) 1006 2 b)) 1006 3 b (I v) F i j = _
                rw [gI_at, if_neg (by omega), gI_at, if_neg (by omega), gI_at, if_neg (by omega)]
              · show gI (gI (gI g 1006 1 b (I v)) 1006 2 b (gI g 1006 1 b (I v) 1006 2 b)) 1006 3 b (I v) 1006 0 x = _
                rw [gI_at, if_neg (by omega), gI_at, if_neg (by omega), gI_at, if_neg (by omega)]; exact (P x hx).1
              · show gI (gI (gI g 1006 1 b (I v)) 1006 2 b (gI g 1006 1 b (I v) 1006 2 b)) 1006 3 b (I v) 1006 1 x = _
                rw [gI_at, if_neg (by omega), gI_at, if_neg (by omega), gI_at]
                by_cases ex : x = b
                · subst ex; rw [if_pos ⟨rfl, rfl, rfl⟩, updn_at]
                · rw [if_neg (by omega), updn_o ex]; exact (P x hx).2
              · show gI (gI (gI g 1006 1 b (I v)) 1006 2 b (gI g 1006 1 b (I v) 1006 2 b)) 1006 3 b (I v) 1006 2 x = _
                rw [gI_at, if_neg (by omega), gI_at]
                by_cases ex : x = b
                · subst ex; rw [if_pos ⟨rfl, rfl, rfl⟩, gI_at, if_neg (by omega)]; exact (P2 x hx).1
                · rw [if_neg (by omega), gI_at, if_neg (by omega)]; exact (P2 x hx).1
              · show gI (gI (gI g 1006 1 b (I v)) 1006 2 b (gI g 1006 1 b (I v) 1006 2 b)) 1006 3 b (I v) 1006 3 x = _
                rw [gI_at]
                by_cases ex : x = b
                · subst ex; rw [if_pos ⟨rfl, rfl, rfl⟩, updn_at]
                · rw [if_neg (by omega), gI_at, if_neg (by omega), gI_at, if_neg (by omega), updn_o ex]; exact (P2 x hx).2
              · by_cases ex : x = b
                · subst ex; rw [updn_at]; exact hv2
                · rw [updn_o ex]; exact (Q x hx).2
              · show g 1006 1 b = gI g 1006 1 b (I v) 1006 3 b
                rw [s3]; exact (P b hb6).2
            · have hp0 : p2 = 0 := Classical.not_not.mp e2
              have hp1 : p2 ≠ 1 := by rw [hp0]; decide
              rw [if_neg e2, if_pos hb1, if_pos hb1, tn]
              refine ok_some ?_
              refine ok_e (k 0 (by decide)) ?_
              rw [if_neg e2]
              unfold s_X7_berth_116 s_X7_berth_137 s_X7_berth_158
              simp only [if_neg e2, if_pos hp1, if_pos hb1, tn]
              have s2 : gI g 1006 0 b (I v) 1006 2 b = I (pl b) := (base 0 (by decide) _ _ _ (by omega)).trans (P2 b hb6).1
              refine ⟨_, rfl, ⟨updn pl b v, ba, rl_places L (fun F i j q => ?_) (fun x hx => ⟨?_, ?_⟩) (fun x hx => ⟨?_, ?_⟩) (fun x hx => ⟨?_, (Q x hx).2⟩)⟩, ?_⟩
              · show gI (gI (gI g 1006 0 b (I v)) 1006 2 b (I v)) 1006 3 b (gI (gI g 1006 0 b (I v)) 1006 2 b (I v) 1006 3 b) F i j = _
                rw [gI_at, if_neg (by omega), gI_at, if_neg (by omega), gI_at, if_neg (by omega)]
              · show gI (gI (gI g 1006 0 b (I v)) 1006 2 b (I v)) 1006 3 b (gI (gI g 1006 0 b (I v)) 1006 2 b (I v) 1006 3 b) 1006 0 x = _
                rw [gI_at, if_neg (by omega), gI_at, if_neg (by omega), gI_at]
                by_cases ex : x = b
                · subst ex; rw [if_pos ⟨rfl, rfl, rfl⟩, updn_at]
                · rw [if_neg (by omega), updn_o ex]; exact (P x hx).1
              · show gI (gI (gI g 1006 0 b (I v)) 1006 2 b (I v)) 1006 3 b (gI (gI g 1006 0 b (I v)) 1006 2 b (I v) 1006 3 b) 1006 1 x = _
                rw [gI_at, if_neg (by omega), gI_at, if_neg (by omega), gI_at, if_neg (by omega)]; exact (P x hx).2
              · show gI (gI (gI g 1006 0 b (I v)) 1006 2 b (I v)) 1006 3 b (gI (gI g 1006 0 b (I v)) 1006 2 b (I v) 1006 3 b) 1006 2 x = _
                rw [gI_at, if_neg (by omega), gI_at]
                by_cases ex : x = b
                · subst ex; rw [if_pos ⟨rfl, rfl, rfl⟩, updn_at]
                · rw [if_neg (by omega), gI_at, if_neg (by omega), updn_o ex]; exact (P2 x hx).1
              · show gI (gI (gI g 1006 0 b (I v)) 1006 2 b (I v)) 1006 3 b (gI (gI g 1006 0 b (I v)) 1006 2 b (I v) 1006 3 b) 1006 3 x = _
                rw [gI_at]
                by_cases ex : x = b
                · subst ex; rw [if_pos ⟨rfl, rfl, rfl⟩, gI_at, if_neg (by omega), gI_at, if_neg (by omega)]; exact (P2 x hx).2
                · rw [if_neg (by omega), gI_at, if_neg (by omega), gI_at, if_neg (by omega)]; exact (P2 x hx).2
              · by_cases ex : x = b
                · subst ex; rw [updn_at]; omega
                · rw [updn_o ex]; exact (Q x hx).1
              · show g 1006 0 b = gI g 1006 0 b (I v) 1006 2 b
                rw [s2]; exact (P b hb6).1
        refine ok_imp (fin FU (by show 9 < 1000; decide)) (fun q hq => ?_)
        rw [Y7]
        exact hq
      · rw [if_pos h1, if_pos h2, if_neg h3]
        exact no (fun g w => by rw [X7, if_pos h1, if_pos h2, if_neg h3])
    · rw [if_pos h1, if_neg h2]
      exact no (fun g w => by rw [X7, if_pos h1, if_neg h2])
  · rw [if_neg h1]
    exact no (fun g w => by rw [X7, if_neg h1])
theorem re_berth (H : REL g w) : Ok (s_X6_berth 0 p1 p2 p3 g w) (fun q => Ok (s_X7_berth 0 p1 p2 p3 q.2.1 q.2.2) (fun r => REL r.2.1 r.2.2 ∧ q.1 = r.1)) := by
  obtain ⟨S, pl, ba, L⟩ := H
  exact ok_imp (ok2_and (pr_berth S) (mv_berth S L)) (fun _ h => ok_imp h (fun _ q => ⟨⟨q.1, q.2.1⟩, q.2.2⟩))
theorem bi_0 : BI (w0 2218 0) := by
  have h64 : TN (w0 2218 0) = 0 := by decide +kernel
  have h65 : SN (w0 2218 0) = 0 := by decide +kernel
  refine ⟨⟨?_, ?_, ?_, ?_, ?_, ?_⟩, ?_, ?_, fun t q => by omega, fun s q => by omega, fun s q => by omega, fun s s' q => by omega⟩
  · unfold rb; decide +kernel
  · unfold rb; decide +kernel
  · unfold rb; decide +kernel
  · unfold rb; decide +kernel
  · unfold rb; decide +kernel
  · exact b48_0
  · unfold rb; decide +kernel
  · unfold rb; decide +kernel
theorem jb_0 : JB g0 w0 0 (w0 2218 0) := by
  have h64 : TN (w0 2218 0) = 0 := by decide +kernel
  have h65 : SN (w0 2218 0) = 0 := by decide +kernel
  refine ⟨rfl, fun t q => by omega, fun t _ _ => rfl, fun s q => by omega, fun s _ _ => rfl⟩
theorem rel_0 : REL g0 w0 := by
  refine ⟨st_0, fun b => 10 * b, fun _ => 0, ⟨?_, ?_, ?_⟩, jb_0, bi_0, ?_, ?_, fun i hi => ?_⟩
  · unfold PC; decide +kernel
  · unfold PR; decide +kernel
  · unfold PB; intro b hb; dsimp only; omega
  · unfold CN; decide +kernel
  · intro i hi; rfl
  · rw [show g0 7 0 2 = 0 from rfl, show (0 : Int32).toInt = 0 from rfl] at hi
    omega
end
