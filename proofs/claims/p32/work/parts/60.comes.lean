/-! whether a tug can be there -/
def BEFORE (c : Nat → Int64) (t h o : Nat) : Prop := WITH c o t ∧ LAST c o < h ∧ ∀ o', WITH c o' t → LAST c o' < h → SF c o' 7 ≤ SF c o 7
def BEHIND (c : Nat → Int64) (t e o : Nat) : Prop := WITH c o t ∧ e ≤ SF c o 7 ∧ ∀ o', WITH c o' t → e ≤ SF c o' 7 → SF c o 7 ≤ SF c o' 7
def TAIL (c : Nat → Int64) (pl : Nat → Nat) (t s h : Nat) : Prop := ∀ n, BEHIND c t (h + SF c s 3) n → h + SF c s 3 + WAY pl (nf c 62) (SF c s 6) (SF c n 5) ≤ SF c n 7
def COMES (c : Nat → Int64) (pl : Nat → Nat) (t s h : Nat) : Prop :=
  ((∀ o, BEFORE c t h o → LAST c o + 1 + WAY pl (nf c 62) (SF c o 6) (SF c s 5) ≤ h) ∧ ((∀ o, WITH c o t → ¬ LAST c o < h) → 0 + WAY pl (nf c 62) (TF c t 6) (SF c s 5) ≤ h)) ∧ TAIL c pl t s h
section
variable {g : Nat → Nat → Nat → Int32} {w : Nat → Nat → Nat → Int64} {hb : Nat} {c : Nat → Int64} {pl ba : Nat → Nat}
theorem with_dis (B : BI c) {o o' t : Nat} (ht : t < TN c) (h1 : WITH c o t) (h2 : WITH c o' t) (hne : o ≠ o') : SF c o 7 + SF c o 3 ≤ SF c o' 7 ∨ SF c o' 7 + SF c o' 3 ≤ SF c o 7 :=
  B.2.2.2.2.2.2 o o' h1.1 h2.1 hne h1.2.1 h2.2.1 t ht h1.2.2 h2.2.2
theorem with_last (B : BI c) {o t : Nat} (h1 : WITH c o t) : LAST c o < 48 ∧ SF c o 7 ≤ LAST c o ∧ LAST c o + 1 = SF c o 7 + SF c o 3 := last_lt B h1.1 h1.2.1
theorem before_last (B : BI c) {t h o : Nat} (ht : t < TN c) (h1 : WITH c o t) (h2 : LAST c o < h) (h3 : ∀ o', WITH c o' t → LAST c o' < h → LAST c o' ≤ LAST c o) : BEFORE c t h o := by
  refine ⟨h1, h2, fun o' q1 q2 => ?_⟩
  have l := with_last B h1
  have l' := with_last B q1
  by_cases e : o' = o
  · subst e; exact Nat.le_refl _
  · have := h3 o' q1 q2
    rcases with_dis B ht q1 h1 e with d | d <;> omega
theorem before_uniq (B : BI c) {t h o o' : Nat} (ht : t < TN c) (h1 : BEFORE c t h o) (h2 : BEFORE c t h o') : o = o' := by
  refine Classical.byContradiction (fun e => ?_)
  have a := h1.2.2 o' h2.1 h2.2.1
  have b := h2.2.2 o h1.1 h1.2.1
  have l := with_last B h1.1
  have l' := with_last B h2.1
  rcases with_dis B ht h1.1 h2.1 e with d | d <;> omega
theorem behind_uniq (B : BI c) {t h o o' : Nat} (ht : t < TN c) (h1 : BEHIND c t h o) (h2 : BEHIND c t h o') : o = o' := by
  refine Classical.byContradiction (fun e => ?_)
  have a := h1.2.2 o' h2.1 h2.2.1
  have b := h2.2.2 o h1.1 h1.2.1
  have l := with_last B h1.1
  have l' := with_last B h2.1
  rcases with_dis B ht h1.1 h2.1 e with d | d <;> omega
theorem comes_1 {t s h : Nat} (h1 : ∀ o, WITH c o t → ¬ LAST c o < h) : COMES c pl t s h ↔ (0 + WAY pl (nf c 62) (TF c t 6) (SF c s 5) ≤ h ∧ TAIL c pl t s h) := by
  unfold COMES
  constructor
  · rintro ⟨⟨_, q⟩, r⟩; exact ⟨q h1, r⟩
  · rintro ⟨q, r⟩; exact ⟨⟨fun o p => absurd p.2.1 (h1 o p.1), fun _ => q⟩, r⟩
theorem comes_2 (B : BI c) {t s h o : Nat} (ht : t < TN c) (h1 : BEFORE c t h o) : COMES c pl t s h ↔ (LAST c o + 1 + WAY pl (nf c 62) (SF c o 6) (SF c s 5) ≤ h ∧ TAIL c pl t s h) := by
  unfold COMES
  constructor
  · rintro ⟨⟨q, _⟩, r⟩; exact ⟨q o h1, r⟩
  · rintro ⟨q, r⟩
    refine ⟨⟨fun o' p => ?_, fun p => absurd h1.2.1 (p o h1.1)⟩, r⟩
    have := before_uniq B ht h1 p
    subst this
    exact q
theorem tail_1 {t s h : Nat} (h1 : ∀ o, WITH c o t → ¬ h + SF c s 3 ≤ SF c o 7) : TAIL c pl t s h := fun n p => absurd p.2.1 (h1 n p.1)
theorem tail_2 (B : BI c) {t s h n : Nat} (ht : t < TN c) (h1 : BEHIND c t (h + SF c s 3) n) : TAIL c pl t s h ↔ h + SF c s 3 + WAY pl (nf c 62) (SF c s 6) (SF c n 5) ≤ SF c n 7 := by
  constructor
  · intro q; exact q n h1
  · intro q n' p
    have := behind_uniq B ht h1 p
    subst this
    exact q
theorem before6 (H : HB g w hb c) (B : BI c) {t h : Nat} (ht : t < TN c) (hh : h ≤ 48) : Ok (s_X1_jobBefore hb (I t) (I h) g w) (fun r => (r = none ∧ ∀ o, WITH c o t → ¬ LAST c o < h) ∨ ∃ o, r = some (8 * hb + o) ∧ BEFORE c t h o) := by
  have h6 := tn6 B
  have h8 := sn8 B
  have key : ∀ (n k : Nat) (v : Option Nat), k ≤ 8 → ((v = none ∧ ∀ o, o < k → WITH c o t → ¬ LAST c o < h) ∨ ∃ o, o < k ∧ v = some (8 * hb + o) ∧ WITH c o t ∧ LAST c o < h ∧ ∀ o', o' < k → WITH c o' t → LAST c o' < h → SF c o' 7 ≤ SF c o 7) → 9 - k < n →
      Ok (s_X1_jobBefore_R16 hb (I t) (I h) n v (I k) g w) (fun r => (r = none ∧ ∀ o, WITH c o t → ¬ LAST c o < h) ∨ ∃ o, r = some (8 * hb + o) ∧ BEFORE c t h o) := by
    intro n
    induction n with
    | zero => intro k v h1 h2 hm; omega
    | succ n ih =>
      intro k v h1 h2 hm
      show Ok (s_X1_jobBefore_16 hb (I t) (I h) (s_X1_jobBefore_R16 hb (I t) (I h) n) v (I k) g w) _
      unfold s_X1_jobBefore_16 s_X1_jobBefore_64 s_X1_jobBefore_67
      rw [I_suc]
      by_cases hk : k < 8
      · rw [if_neg (show ¬ (8 : Int32) ≤ I k from nle (a := 8) hk (by decide)), if_pos (inR_I hk (by decide)), I_tn (by omega)]
        have skip : ¬ (WITH c k t ∧ LAST c k < h) → Ok (s_X1_jobBefore_R16 hb (I t) (I h) n v (I (k + 1)) g w) (fun r => (r = none ∧ ∀ o, WITH c o t → ¬ LAST c o < h) ∨ ∃ o, r = some (8 * hb + o) ∧ BEFORE c t h o) := fun no => by
          refine ih (k + 1) v (by omega) ?_ (by omega)
          rcases h2 with ⟨q1, q2⟩ | ⟨o, q1, q2, q3, q4, q5⟩
          · refine Or.inl ⟨q1, fun o p1 p2 p3 => ?_⟩
            by_cases e : o = k
            · subst e; exact no ⟨p2, p3⟩
            · exact q2 o (by omega) p2 p3
          · refine Or.inr ⟨o, by omega, q2, q3, q4, fun o' p1 p2 p3 => ?_⟩
            by_cases e : o' = k
            · subst e; exact absurd ⟨p2, p3⟩ no
            · exact q5 o' (by omega) p2 p3
        by_cases e : s_X4_hasJobWith (8 * hb + k) (I t) g w = true
        · rw [if_pos e]
          have hW := (with6 H B hk (by omega)).mp e
          have l := with_last B hW
          rw [last6 H B hW.1 hW.2.1]
          by_cases e2 : h ≤ LAST c k
          · rw [if_pos (ile e2 (by omega))]
            exact skip (fun q => by omega)
          · rw [if_neg (nle (by omega) (by omega))]
            have take : (∀ o', o' < k → WITH c o' t → LAST c o' < h → SF c o' 7 ≤ SF c k 7) → Ok (s_X1_jobBefore_R16 hb (I t) (I h) n (some (8 * hb + k)) (I (k + 1)) g w) (fun r => (r = none ∧ ∀ o, WITH c o t → ¬ LAST c o < h) ∨ ∃ o, r = some (8 * hb + o) ∧ BEFORE c t h o) := fun al => by
              refine ih (k + 1) _ (by omega) (Or.inr ⟨k, by omega, rfl, hW, by omega, fun o' p1 p2 p3 => ?_⟩) (by omega)
              by_cases e : o' = k
              · subst e; exact Nat.le_refl _
              · exact al o' (by omega) p2 p3
            rcases h2 with ⟨q1, q2⟩ | ⟨o, q1, q2, q3, q4, q5⟩
            · subst q1
              exact take (fun o' p1 p2 p3 => absurd p3 (q2 o' p1 p2))
            · subst q2
              have lo := with_last B q3
              show Ok (if g 4 (8 * hb + k) 7 ≤ g 4 (8 * hb + o) 7 then _ else _) _
              rw [c_hour H B hW.1 hW.2.1, c_hour H B q3.1 q3.2.1]
              by_cases e3 : SF c k 7 ≤ SF c o 7
              · rw [if_pos (ile e3 (by omega))]
                refine ih (k + 1) _ (by omega) (Or.inr ⟨o, by omega, rfl, q3, q4, fun o' p1 p2 p3 => ?_⟩) (by omega)
                by_cases e : o' = k
                · subst e; exact e3
                · exact q5 o' (by omega) p2 p3
              · rw [if_neg (nle (by omega) (by omega))]
                exact take (fun o' p1 p2 p3 => by have := q5 o' p1 p2 p3; omega)
        · rw [if_neg e]
          exact skip (fun q => e ((with6 H B hk (by omega)).mpr q.1))
      · rw [if_pos (show (8 : Int32) ≤ I k from ile (a := 8) (by omega) (by omega))]
        refine ok_some ?_
        rcases h2 with ⟨q1, q2⟩ | ⟨o, q1, q2, q3, q4, q5⟩
        · exact Or.inl ⟨q1, fun o p => q2 o (by have := p.1; omega) p⟩
        · exact Or.inr ⟨o, q2, q3, q4, fun o' p1 p2 => q5 o' (by have := p1.1; omega) p1 p2⟩
  exact key FU 0 none (by decide) (Or.inl ⟨rfl, fun o p => by omega⟩) (by decide)
theorem behind6 (H : HB g w hb c) (B : BI c) {t h : Nat} (ht : t < TN c) (hh : h ≤ 52) : Ok (s_X1_jobBehind hb (I t) (I h) g w) (fun r => (r = none ∧ ∀ o, WITH c o t → ¬ h ≤ SF c o 7) ∨ ∃ o, r = some (8 * hb + o) ∧ BEHIND c t h o) := by
  have h6 := tn6 B
  have h8 := sn8 B
  have key : ∀ (n k : Nat) (v : Option Nat), k ≤ 8 → ((v = none ∧ ∀ o, o < k → WITH c o t → ¬ h ≤ SF c o 7) ∨ ∃ o, o < k ∧ v = some (8 * hb + o) ∧ WITH c o t ∧ h ≤ SF c o 7 ∧ ∀ o', o' < k → WITH c o' t → h ≤ SF c o' 7 → SF c o 7 ≤ SF c o' 7) → 9 - k < n →
      Ok (s_X1_jobBehind_R16 hb (I t) (I h) n v (I k) g w) (fun r => (r = none ∧ ∀ o, WITH c o t → ¬ h ≤ SF c o 7) ∨ ∃ o, r = some (8 * hb + o) ∧ BEHIND c t h o) := by
    intro n
    induction n with
    | zero => intro k v h1 h2 hm; omega
    | succ n ih =>
      intro k v h1 h2 hm
      show Ok (s_X1_jobBehind_16 hb (I t) (I h) (s_X1_jobBehind_R16 hb (I t) (I h) n) v (I k) g w) _
      unfold s_X1_jobBehind_16 s_X1_jobBehind_64 s_X1_jobBehind_67
      rw [I_suc]
      by_cases hk : k < 8
      · rw [if_neg (show ¬ (8 : Int32) ≤ I k from nle (a := 8) hk (by decide)), if_pos (inR_I hk (by decide)), I_tn (by omega)]
        have skip : ¬ (WITH c k t ∧ h ≤ SF c k 7) → Ok (s_X1_jobBehind_R16 hb (I t) (I h) n v (I (k + 1)) g w) (fun r => (r = none ∧ ∀ o, WITH c o t → ¬ h ≤ SF c o 7) ∨ ∃ o, r = some (8 * hb + o) ∧ BEHIND c t h o) := fun no => by
          refine ih (k + 1) v (by omega) ?_ (by omega)
          rcases h2 with ⟨q1, q2⟩ | ⟨o, q1, q2, q3, q4, q5⟩
          · refine Or.inl ⟨q1, fun o p1 p2 p3 => ?_⟩
            by_cases e : o = k
            · subst e; exact no ⟨p2, p3⟩
            · exact q2 o (by omega) p2 p3
          · refine Or.inr ⟨o, by omega, q2, q3, q4, fun o' p1 p2 p3 => ?_⟩
            by_cases e : o' = k
            · subst e; exact absurd ⟨p2, p3⟩ no
            · exact q5 o' (by omega) p2 p3
        by_cases e : s_X4_hasJobWith (8 * hb + k) (I t) g w = true
        · rw [if_pos e]
          have hW := (with6 H B hk (by omega)).mp e
          have l := with_last B hW
          rw [c_hour H B hW.1 hW.2.1]
          by_cases e2 : SF c k 7 < h
          · rw [if_pos (ilt e2 (by omega))]
            exact skip (fun q => by omega)
          · rw [if_neg (nlt (by omega) (by omega))]
            have take : (∀ o', o' < k → WITH c o' t → h ≤ SF c o' 7 → SF c k 7 ≤ SF c o' 7) → Ok (s_X1_jobBehind_R16 hb (I t) (I h) n (some (8 * hb + k)) (I (k + 1)) g w) (fun r => (r = none ∧ ∀ o, WITH c o t → ¬ h ≤ SF c o 7) ∨ ∃ o, r = some (8 * hb + o) ∧ BEHIND c t h o) := fun al => by
              refine ih (k + 1) _ (by omega) (Or.inr ⟨k, by omega, rfl, hW, by omega, fun o' p1 p2 p3 => ?_⟩) (by omega)
              by_cases e : o' = k
              · subst e; exact Nat.le_refl _
              · exact al o' (by omega) p2 p3
            rcases h2 with ⟨q1, q2⟩ | ⟨o, q1, q2, q3, q4, q5⟩
            · subst q1
              exact take (fun o' p1 p2 p3 => absurd p3 (q2 o' p1 p2))
            · subst q2
              have lo := with_last B q3
              show Ok (if g 4 (8 * hb + o) 7 ≤ I (SF c k 7) then _ else _) _
              rw [c_hour H B q3.1 q3.2.1]
              by_cases e3 : SF c o 7 ≤ SF c k 7
              · rw [if_pos (ile e3 (by omega))]
                refine ih (k + 1) _ (by omega) (Or.inr ⟨o, by omega, rfl, q3, q4, fun o' p1 p2 p3 => ?_⟩) (by omega)
                by_cases e : o' = k
                · subst e; exact e3
                · exact q5 o' (by omega) p2 p3
              · rw [if_neg (nle (by omega) (by omega))]
                exact take (fun o' p1 p2 p3 => by have := q5 o' p1 p2 p3; omega)
        · rw [if_neg e]
          exact skip (fun q => e ((with6 H B hk (by omega)).mpr q.1))
      · rw [if_pos (show (8 : Int32) ≤ I k from ile (a := 8) (by omega) (by omega))]
        refine ok_some ?_
        rcases h2 with ⟨q1, q2⟩ | ⟨o, q1, q2, q3, q4, q5⟩
        · exact Or.inl ⟨q1, fun o p => q2 o (by have := p.1; omega) p⟩
        · exact Or.inr ⟨o, q2, q3, q4, fun o' p1 p2 => q5 o' (by have := p1.1; omega) p1 p2⟩
  exact key FU 0 none (by decide) (Or.inl ⟨rfl, fun o p => by omega⟩) (by decide)
theorem home_lt (B : BI c) {t : Nat} (ht : t < TN c) : TF c t 6 < 6 := Nat.lt_succ_of_le (nf_rb (bt B ht).2.2.2.2.2.2.1).2
theorem comes6 (H : HB g w hb c) (B : BI c) (P : PC g pl ba) (Q : PB pl ba) {s t h : Nat} (hs : s < SN c) (ht : t < TN c) (hh : h + SF c s 3 ≤ 48) : Ok (s_X1_canBeThere hb (I t) (8 * hb + s) (I h) g w) (fun b => b = true ↔ COMES c pl t s h) := by
  have h6 := tn6 B
  have l := len_ge B hs
  have hv : 1 ≤ nf c 62 ∧ nf c 62 ≤ 30 := nf_rb B.1.2.2.2.2.1
  have q := ft_lt B hs
  -- the second half
  have tail : ∀ (fr pla : Nat) (G : Prop), fr ≤ 48 → pla < 6 → (G ↔ (fr + WAY pl (nf c 62) pla (SF c s 5) ≤ h ∧ TAIL c pl t s h)) → Ok (s_X1_canBeThere_48 hb (I t) (8 * hb + s) (I h) (I fr) (I pla) g w) (fun b => b = true ↔ G) := by
    intro fr pla G hfr hpla hG
    unfold s_X1_canBeThere_48 s_X1_canBeThere_129 s_X1_canBeThere_134
    rw [c_ship H B hs (by decide) (by decide), c_speed H B, way6 P Q hpla q.1 hv.1 hv.2]
    refine ok_bind (ok_some (P := fun r => r = I (WAY pl (nf c 62) pla (SF c s 5))) rfl) ?_
    rintro _ rfl
    have wl := way_le Q hpla q.1 hv.1
    rw [I_add]
    by_cases e : fr + WAY pl (nf c 62) pla (SF c s 5) ≤ h
    · rw [if_pos (ile e (by omega)), c_ship H B hs (by decide) (by decide), I_add]
      refine ok_bind (behind6 H B ht (by omega)) ?_
      rintro r (⟨rfl, r1⟩ | ⟨o, rfl, r1⟩)
      · exact ok_t (hG.mpr ⟨e, tail_1 r1⟩)
      · have qo := ft_lt B r1.1.1
        have wl2 := way_le Q q.2 qo.1 hv.1
        have lo := with_last B r1.1
        show Ok ((s_X0_hoursBetween 0 (g 4 (8 * hb + s) 6) (g 4 (8 * hb + o) 5) (I (nf c 62)) g w).bind fun q3 => if g 4 (8 * hb + o) 7 < I (h + SF c s 3) + q3 then some false else some true) _
        rw [c_ship H B hs (by decide) (by decide), c_ship H B r1.1.1 (by decide) (by decide), way6 P Q q.2 qo.1 hv.1 hv.2]
        refine ok_bind (ok_some (P := fun r => r = I (WAY pl (nf c 62) (SF c s 6) (SF c o 5))) rfl) ?_
        rintro _ rfl
        rw [I_add, c_hour H B r1.1.1 r1.1.2.1]
        by_cases e2 : SF c o 7 < h + SF c s 3 + WAY pl (nf c 62) (SF c s 6) (SF c o 5)
        · rw [if_pos (ilt e2 (by omega))]
          exact ok_f (fun p => by have := (tail_2 B ht r1).mp (hG.mp p).2; omega)
        · rw [if_neg (nlt (by omega) (by omega))]
          exact ok_t (hG.mpr ⟨e, (tail_2 B ht r1).mpr (by omega)⟩)
    · rw [if_neg (nle (by omega) (by omega))]
      exact ok_f (fun p => e (hG.mp p).1)
  unfold s_X1_canBeThere
  refine ok_bind (before6 H B ht (by omega)) ?_
  rintro r (⟨rfl, r1⟩ | ⟨o, rfl, r1⟩)
  · show Ok (if inR (I t) 6 = true then s_X1_canBeThere_30 hb (I t) (8 * hb + s) (I h) (g 5 (6 * hb + (I t).toNatClampNeg) 6) none g w else none) _
    rw [if_pos (inR_I (by omega) (by decide)), I_tn (by omega), c_tug H B ht (by decide)]
    show Ok (s_X1_canBeThere_48 hb (I t) (8 * hb + s) (I h) (I 0) (I (TF c t 6)) g w) _
    exact tail 0 _ _ (by decide) (home_lt B ht) (comes_1 r1)
  · show Ok (s_X1_canBeThere_48 hb (I t) (8 * hb + s) (I h) (s_X4_lastHour (8 * hb + o) g w + 1) (g 4 (8 * hb + o) 6) g w) _
    have lo := with_last B r1.1
    rw [last6 H B r1.1.1 r1.1.2.1, I_suc, c_ship H B r1.1.1 (by decide) (by decide)]
    exact tail _ _ _ (by omega) (ft_lt B r1.1.1).2 (comes_2 B ht r1)
theorem comes7 (R : RV w c) (B : BI c) (P : PR g pl ba) (Q : PB pl ba) {s t h : Nat} (hs : s < SN c) (ht : t < TN c) (hh : h + SF c s 3 ≤ 48) : Ok (s_X7_comes 0 (I t) (I s) (I h) g w) (fun b => b = true ↔ COMES c pl t s h) := by
  have h6 := tn6 B
  have h8 := sn8 B
  have l := len_ge B hs
  have hv : 1 ≤ nf c 62 ∧ nf c 62 ≤ 30 := nf_rb B.1.2.2.2.2.1
  have q := ft_lt B hs
  have m1 : ((-1 : Int32)).toInt = -1 := rfl
  have key : ∀ (n k fr pla : Nat) (v7 : Int32), k ≤ SN c →
      ((fr = 0 ∧ pla = TF c t 6 ∧ ∀ o, o < k → WITH c o t → ¬ LAST c o < h) ∨ ∃ o, o < k ∧ fr = LAST c o + 1 ∧ pla = SF c o 6 ∧ WITH c o t ∧ LAST c o < h ∧ ∀ o', o' < k → WITH c o' t → LAST c o' < h → LAST c o' ≤ LAST c o) →
      ((v7 = -1 ∧ ∀ o, o < k → WITH c o t → ¬ h + SF c s 3 ≤ SF c o 7) ∨ ∃ o, o < k ∧ v7 = I o ∧ WITH c o t ∧ h + SF c s 3 ≤ SF c o 7 ∧ ∀ o', o' < k → WITH c o' t → h + SF c s 3 ≤ SF c o' 7 → SF c o 7 ≤ SF c o' 7) →
      9 - k < n → Ok (s_X7_comes_R28 0 (I t) (I s) (I h) n (I (h + SF c s 3)) (I pla) (I fr) v7 (I k) g w) (fun b => b = true ↔ COMES c pl t s h) := by
    intro n
    induction n with
    | zero => intro k fr pla v7 h1 h2 h3 hm; omega
    | succ n ih =>
      intro k fr pla v7 h1 h2 h3 hm
      have hpla : pla < 6 ∧ fr ≤ 48 := by
        rcases h2 with ⟨q1, q2, _⟩ | ⟨o, _, q1, q2, q3, _⟩
        · rw [q2]; exact ⟨home_lt B ht, by omega⟩
        · have lo := with_last B q3
          rw [q2]; exact ⟨(ft_lt B q3.1).2, by omega⟩
      show Ok (s_X7_comes_28 0 (I t) (I s) (I h) (s_X7_comes_R28 0 (I t) (I s) (I h) n) (I (h + SF c s 3)) (I pla) (I fr) v7 (I k) g w) _
      unfold s_X7_comes_28
      by_cases hk : k < SN c
      · rw [if_neg (fun q => by have := (endS R B (by omega)).mp q; omega)]
        have hm9 : 9 - (k + 1) < n := by omega
        -- what comes behind the first half
        have h95 : ∀ (fr' pla' : Nat), ((fr' = 0 ∧ pla' = TF c t 6 ∧ ∀ o, o < k + 1 → WITH c o t → ¬ LAST c o < h) ∨ ∃ o, o < k + 1 ∧ fr' = LAST c o + 1 ∧ pla' = SF c o 6 ∧ WITH c o t ∧ LAST c o < h ∧ ∀ o', o' < k + 1 → WITH c o' t → LAST c o' < h → LAST c o' ≤ LAST c o) →
            Ok (s_X7_comes_95 0 (I t) (I s) (I h) (s_X7_comes_R28 0 (I t) (I s) (I h) n) (I (h + SF c s 3)) (I pla') (I fr') v7 (I k) g w) (fun b => b = true ↔ COMES c pl t s h) := by
          intro fr' pla' h2'
          unfold s_X7_comes_95 s_X7_comes_142 s_X7_comes_146
          rw [I_suc]
          have skip : ¬ (WITH c k t ∧ h + SF c s 3 ≤ SF c k 7) → Ok (s_X7_comes_R28 0 (I t) (I s) (I h) n (I (h + SF c s 3)) (I pla') (I fr') v7 (I (k + 1)) g w) (fun b => b = true ↔ COMES c pl t s h) := fun no => by
            refine ih (k + 1) fr' pla' v7 (by omega) h2' ?_ (by omega)
            rcases h3 with ⟨q1, q2⟩ | ⟨o, q1, q2, q3, q4, q5⟩
            · refine Or.inl ⟨q1, fun o p1 p2 p3 => ?_⟩
              by_cases e : o = k
              · subst e; exact no ⟨p2, p3⟩
              · exact q2 o (by omega) p2 p3
            · refine Or.inr ⟨o, by omega, q2, q3, q4, fun o' p1 p2 p3 => ?_⟩
              by_cases e : o' = k
              · subst e; exact absurd ⟨p2, p3⟩ no
              · exact q5 o' (by omega) p2 p3
          obtain ⟨b, eb, hbb⟩ := isOf7 (g := g) R B hk (t := t) (by omega)
          rw [eb]
          refine ok_bind (ok_some (P := fun r => b = r) rfl) ?_
          rintro _ rfl
          cases b with
          | false =>
            rw [if_neg (by decide)]
            exact skip (fun q => by have := hbb.mpr q.1; cases this)
          | true =>
            have hW := hbb.mp rfl
            have lk := with_last B hW
            rw [if_pos rfl, show s_X7_ofShip 0 (I k) 7 g w = some (I (SF c k 7)) from r_hour R B hk hW.2.1]
            refine ok_bind (ok_some (P := fun r => r = I (SF c k 7)) rfl) ?_
            rintro _ rfl
            by_cases e2 : SF c k 7 < h + SF c s 3
            · rw [if_pos (ilt e2 (by omega))]
              exact skip (fun q => by omega)
            · rw [if_neg (nlt (by omega) (by omega))]
              have take : (∀ o', o' < k → WITH c o' t → h + SF c s 3 ≤ SF c o' 7 → SF c k 7 ≤ SF c o' 7) → Ok (s_X7_comes_R28 0 (I t) (I s) (I h) n (I (h + SF c s 3)) (I pla') (I fr') (I k) (I (k + 1)) g w) (fun b => b = true ↔ COMES c pl t s h) := fun al => by
                refine ih (k + 1) fr' pla' _ (by omega) h2' (Or.inr ⟨k, by omega, rfl, hW, by omega, fun o' p1 p2 p3 => ?_⟩) hm9
                by_cases e : o' = k
                · subst e; exact Nat.le_refl _
                · exact al o' (by omega) p2 p3
              rcases h3 with ⟨q1, q2⟩ | ⟨o, q1, q2, q3, q4, q5⟩
              · subst q1
                rw [if_pos (by decide)]
                exact take (fun o' p1 p2 p3 => absurd p3 (q2 o' p1 p2))
              · subst q2
                have lo := with_last B q3
                have e0 : ¬ I o < 0 := nlt (a := o) (k := 0) (by omega) (by omega)
                rw [if_neg e0, show s_X7_ofShip 0 (I o) 7 g w = some (I (SF c o 7)) from r_hour R B q3.1 q3.2.1]
                refine ok_bind (ok_some (P := fun r => r = I (SF c k 7)) rfl) ?_
                rintro _ rfl
                refine ok_bind (ok_some (P := fun r => r = I (SF c o 7)) rfl) ?_
                rintro _ rfl
                by_cases e3 : SF c o 7 ≤ SF c k 7
                · rw [if_pos (ile e3 (by omega))]
                  refine ih (k + 1) fr' pla' _ (by omega) h2' (Or.inr ⟨o, by omega, rfl, q3, q4, fun o' p1 p2 p3 => ?_⟩) hm9
                  by_cases e : o' = k
                  · subst e; exact e3
                  · exact q5 o' (by omega) p2 p3
                · rw [if_neg (nle (by omega) (by omega))]
                  exact take (fun o' p1 p2 p3 => by have := q5 o' p1 p2 p3; omega)
        have same : ¬ (WITH c k t ∧ LAST c k < h ∧ fr < LAST c k + 1) → Ok (s_X7_comes_95 0 (I t) (I s) (I h) (s_X7_comes_R28 0 (I t) (I s) (I h) n) (I (h + SF c s 3)) (I pla) (I fr) v7 (I k) g w) (fun b => b = true ↔ COMES c pl t s h) := fun no => by
          refine h95 fr pla ?_
          rcases h2 with ⟨q1, q2, q3⟩ | ⟨o, q1, q2, q3, q4, q5, q6⟩
          · refine Or.inl ⟨q1, q2, fun o p1 p2 p3 => ?_⟩
            by_cases e : o = k
            · subst e; exact no ⟨p2, p3, by omega⟩
            · exact q3 o (by omega) p2 p3
          · refine Or.inr ⟨o, by omega, q2, q3, q4, q5, fun o' p1 p2 p3 => ?_⟩
            by_cases e : o' = k
            · subst e
              have : ¬ fr < LAST c o' + 1 := fun p => no ⟨p2, p3, p⟩
              omega
            · exact q6 o' (by omega) p2 p3
        obtain ⟨b, eb, hbb⟩ := isOf7 (g := g) R B hk (t := t) (by omega)
        rw [eb]
        refine ok_bind (ok_some (P := fun r => b = r) rfl) ?_
        rintro _ rfl
        cases b with
        | false =>
          rw [if_neg (by decide)]
          exact same (fun q => by have := hbb.mpr q.1; cases this)
        | true =>
          have hW := hbb.mp rfl
          have lk := with_last B hW
          rw [if_pos rfl, last7 R B hk hW.2.1]
          refine ok_bind (ok_some (P := fun r => r = I (LAST c k)) rfl) ?_
          rintro _ rfl
          by_cases e2 : h ≤ LAST c k
          · rw [if_pos (ile e2 (by omega))]
            exact same (fun q => by omega)
          · rw [if_neg (nle (by omega) (by omega))]
            refine ok_bind (ok_some (P := fun r => r = I (LAST c k)) rfl) ?_
            rintro _ rfl
            rw [I_suc]
            by_cases e3 : LAST c k + 1 ≤ fr
            · rw [if_pos (ile e3 (by omega))]
              exact same (fun q => by omega)
            · rw [if_neg (nle (by omega) (by omega)), show s_X7_ofShip 0 (I k) 6 g w = some (I (SF c k 6)) from r_ship R B hk (by decide) (by decide)]
              refine ok_bind (ok_some (P := fun r => r = I (LAST c k)) rfl) ?_
              rintro _ rfl
              refine ok_bind (ok_some (P := fun r => r = I (SF c k 6)) rfl) ?_
              rintro _ rfl
              rw [I_suc]
              refine h95 (LAST c k + 1) (SF c k 6) (Or.inr ⟨k, by omega, rfl, rfl, hW, by omega, fun o' p1 p2 p3 => ?_⟩)
              by_cases e : o' = k
              · subst e; exact Nat.le_refl _
              · rcases h2 with ⟨q1, q2, q3⟩ | ⟨o, q1, q2, q3, q4, q5, q6⟩
                · exact absurd p3 (q3 o' (by omega) p2)
                · have := q6 o' (by omega) p2 p3
                  omega
      · have ek : k = SN c := by omega
        rw [if_pos ((endS R B (by omega)).mpr (by omega)), show s_X7_ofShip 0 (I s) 5 g w = some (I (SF c s 5)) from r_ship R B hs (by decide) (by decide)]
        refine ok_bind (ok_some (P := fun r => r = I (SF c s 5)) rfl) ?_
        rintro _ rfl
        rw [way7 P Q R B hpla.1 q.1]
        refine ok_bind (ok_some (P := fun r => r = I (WAY pl (nf c 62) pla (SF c s 5))) rfl) ?_
        rintro _ rfl
        have wl := way_le Q hpla.1 q.1 hv.1
        have hC : COMES c pl t s h ↔ (fr + WAY pl (nf c 62) pla (SF c s 5) ≤ h ∧ TAIL c pl t s h) := by
          rcases h2 with ⟨q1, q2, q3⟩ | ⟨o, q1, q2, q3, q4, q5, q6⟩
          · subst q1; subst q2
            exact comes_1 (fun o p => q3 o (by have := p.1; omega) p)
          · subst q2; subst q3
            exact comes_2 B ht (before_last B ht q4 q5 (fun o' p1 p2 => q6 o' (by have := p1.1; omega) p1 p2))
        unfold s_X7_comes_212 s_X7_comes_208 s_X7_comes_213
        rw [I_add]
        by_cases e : h < fr + WAY pl (nf c 62) pla (SF c s 5)
        · rw [if_pos (ilt e (by omega))]
          exact ok_f (fun p => by have := (hC.mp p).1; omega)
        · rw [if_neg (nlt (by omega) (by omega))]
          rcases h3 with ⟨q1, q2⟩ | ⟨o, q1, q2, q3, q4, q5⟩
          · subst q1
            rw [if_pos (by decide)]
            exact ok_t (hC.mpr ⟨by omega, tail_1 (fun o p => q2 o (by have := p.1; omega) p)⟩)
          · subst q2
            have lo := with_last B q3
            have qo := ft_lt B q3.1
            have wl2 := way_le Q q.2 qo.1 hv.1
            have bh : BEHIND c t (h + SF c s 3) o := ⟨q3, q4, fun o' p1 p2 => q5 o' (by have := p1.1; omega) p1 p2⟩
            have e0 : ¬ I o < 0 := nlt (a := o) (k := 0) (by omega) (by omega)
            rw [if_neg e0, show s_X7_ofShip 0 (I s) 6 g w = some (I (SF c s 6)) from r_ship R B hs (by decide) (by decide), show s_X7_ofShip 0 (I o) 5 g w = some (I (SF c o 5)) from r_ship R B q3.1 (by decide) (by decide), show s_X7_ofShip 0 (I o) 7 g w = some (I (SF c o 7)) from r_hour R B q3.1 q3.2.1]
            refine ok_bind (ok_some (P := fun r => r = I (SF c s 6)) rfl) ?_
            rintro _ rfl
            refine ok_bind (ok_some (P := fun r => r = I (SF c o 5)) rfl) ?_
            rintro _ rfl
            rw [way7 P Q R B q.2 qo.1]
            refine ok_bind (ok_some (P := fun r => r = I (WAY pl (nf c 62) (SF c s 6) (SF c o 5))) rfl) ?_
            rintro _ rfl
            refine ok_bind (ok_some (P := fun r => r = I (SF c o 7)) rfl) ?_
            rintro _ rfl
            rw [I_add]
            by_cases e2 : SF c o 7 < h + SF c s 3 + WAY pl (nf c 62) (SF c s 6) (SF c o 5)
            · rw [if_pos (ilt e2 (by omega))]
              exact ok_f (fun p => by have := (tail_2 B ht bh).mp (hC.mp p).2; omega)
            · rw [if_neg (nlt (by omega) (by omega))]
              exact ok_t (hC.mpr ⟨by omega, (tail_2 B ht bh).mpr (by omega)⟩)
  unfold s_X7_comes
  rw [show s_X7_ofShip 0 (I s) 3 g w = some (I (SF c s 3)) from r_ship R B hs (by decide) (by decide), show s_X7_ofTug 0 (I t) 6 g w = some (I (TF c t 6)) from r_tug R B ht (by decide)]
  refine ok_bind (ok_some (P := fun r => r = I (SF c s 3)) rfl) ?_
  rintro _ rfl
  refine ok_bind (ok_some (P := fun r => r = I (TF c t 6)) rfl) ?_
  rintro _ rfl
  rw [I_add]
  exact key FU 0 0 _ _ (by omega) (Or.inl ⟨rfl, rfl, fun o p => by omega⟩) (Or.inl ⟨rfl, fun o p => by omega⟩) (by show 9 - 0 < 1000; omega)
end
