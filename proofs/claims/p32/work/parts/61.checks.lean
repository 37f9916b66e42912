/-! the twelve checks -/
theorem nz_I {a : Nat} (h : ¬ a = 0) (ha : a < 2147483648) : ¬ I a = (0 : Int32) := fun p => h (I_inj ha (by decide) p)
def OWN (c : Nat → Int64) (s h : Nat) : Int64 := HH h (h + SF c s 3)
def CT (c : Nat → Int64) (pl : Nat → Nat) (k t s h : Nat) : Prop :=
  if k = 5 then (WK c t ||| BN c t) &&& OWN c s h = 0 else if k = 6 then LASTS c t (WK c t ||| OWN c s h) else if k = 7 then RESTS c t (WK c t ||| OWN c s h) else if k = 8 then h + SF c s 3 ≤ TF c t 7 else COMES c pl t s h
def CHK (c : Nat → Int64) (pl ba : Nat → Nat) (k s h S : Nat) : Prop :=
  if k = 1 then SF c s 2 ≤ h ∧ h + SF c s 3 ≤ 48 else if k = 2 then ¬ ∃ j, h ≤ j ∧ j < h + SF c s 3 ∧ LOWAT c s j else if k = 3 then ENOUGH c s h (h + SF c s 3) (PULL c S) else if k = 4 then AST c S
  else if k = 9 then ¬ ∃ o, 0 ≤ o ∧ o < SN c ∧ BARR c ba s h (h + SF c s 3) o else if k = 10 then ¬ (nf c 61 = 1 ∧ ¬ GUARD c h (h + SF c s 3) S) else if k = 12 then c 63 &&& OWN c s h = 0
  else ∀ t, 0 ≤ t → t < TN c → (S.testBit t = true → CT c pl k t s h)
section
variable {g : Nat → Nat → Nat → Int32} {w : Nat → Nat → Nat → Int64} {hb : Nat} {c : Nat → Int64} {pl ba : Nat → Nat}
theorem own48 {s h : Nat} (hh : h + SF c s 3 ≤ 48) : b48 (OWN c s h) := fun k hk => by
  unfold OWN
  rw [tb_HH (by omega) (by omega)]
  exact decide_eq_false (by omega)
theorem or48 {x y : Int64} (h1 : b48 x) (h2 : b48 y) : b48 (x ||| y) := fun k hk => by rw [tb_or, h1 k hk, h2 k hk]; rfl
theorem wk48 (B : BI c) {t : Nat} (ht : t < TN c) : b48 (WK c t) := (bt B ht).2.2.2.2.2.2.2.2.2.1
theorem own6 (H : HB g w hb c) (B : BI c) {s h : Nat} (hs : s < SN c) (hh : h + SF c s 3 ≤ 48) : s_X4_hoursFrom (8 * hb + s) (I h) g w = OWN c s h := hoursFrom6 (c_ship H B hs (by decide) (by decide)) (by omega)
theorem I_m1 {a b : Nat} (h : 1 ≤ a + b) : I a + I b - 1 = I (a + b - 1) := by
  rw [I_add, show (1 : Int32) = I 1 from rfl, I_sub h]
theorem holdsFor6 (H : HB g w hb c) (B : BI c) (P : PC g pl ba) (Q : PB pl ba) {k s t h : Nat} (hk : k = 5 ∨ k = 6 ∨ k = 7 ∨ k = 8 ∨ k = 11) (hs : s < SN c) (ht : t < TN c) (hh : h + SF c s 3 ≤ 48) :
    Ok (s_X1_holdsFor hb (I k) (I t) (8 * hb + s) (I h) g w) (fun b => b = true ↔ CT c pl k t s h) := by
  have h6 := tn6 B
  have l := len_ge B hs
  have hx := or48 (wk48 B ht) (own48 (c := c) (s := s) hh)
  unfold s_X1_holdsFor s_X1_holdsFor_110
  rw [if_pos (inR_I (by omega) (by decide)), I_tn (by omega), own6 H B hs hh, (H.2.2.1 t ht).2.1]
  rcases hk with rfl | rfl | rfl | rfl | rfl
  · rw [if_pos (show I 5 = 5 from rfl)]
    exact ok_some (free6 H ht _)
  · rw [if_neg (show ¬ I 6 = 5 by decide), if_pos (show I 6 = 6 from rfl)]
    exact ok_bind (lasts6 H B ht hx) (fun r hr => ok_some hr)
  · rw [if_neg (show ¬ I 7 = 5 by decide), if_neg (show ¬ I 7 = 6 by decide), if_pos (show I 7 = 7 from rfl), c_rest H B]
    exact ok_bind (crew6 H B ht hx) (fun r hr => ok_some hr)
  · rw [if_neg (show ¬ I 8 = 5 by decide), if_neg (show ¬ I 8 = 6 by decide), if_neg (show ¬ I 8 = 7 by decide), if_pos (show I 8 = 8 from rfl), c_ship H B hs (by decide) (by decide), I_m1 (by omega)]
    have q := broken6 (g := g) (w := w) H B ht (h := h + SF c s 3 - 1) (by omega)
    by_cases e : s_X5_isBroken (6 * hb + t) (I (h + SF c s 3 - 1)) g w = true
    · rw [if_pos e]
      have := q.mp e
      exact ok_f (fun (p : h + SF c s 3 ≤ TF c t 7) => by omega)
    · rw [if_neg e]
      have := mt q.mpr e
      exact ok_t (show h + SF c s 3 ≤ TF c t 7 by omega)
  · rw [if_neg (show ¬ I 11 = 5 by decide), if_neg (show ¬ I 11 = 6 by decide), if_neg (show ¬ I 11 = 7 by decide), if_neg (show ¬ I 11 = 8 by decide)]
    exact ok_bind (comes6 H B P Q hs ht hh) (fun r hr => ok_some hr)
theorem fails7 (R : RV w c) (B : BI c) (P : PR g pl ba) (Q : PB pl ba) {k s t h : Nat} (hk : k = 5 ∨ k = 6 ∨ k = 7 ∨ k = 8 ∨ k = 11) (hs : s < SN c) (ht : t < TN c) (hh : h + SF c s 3 ≤ 48) :
    Ok (s_X7_fails 0 (I k) (I t) (I s) (I h) g w) (fun b => b = true ↔ ¬ CT c pl k t s h) := by
  have h6 := tn6 B
  have l := len_ge B hs
  unfold s_X7_fails s_X7_fails_76 s_X7_fails_100 s_X7_fails_122 s_X7_fails_140 s_X7_fails_157
  rw [show s_X7_ofShip 0 (I s) 3 g w = some (I (SF c s 3)) from r_ship R B hs (by decide) (by decide)]
  refine ok_bind (ok_some (P := fun r => r = I (SF c s 3)) rfl) ?_
  rintro _ rfl
  rw [r_work R B ht, r_bunk R B ht, I_add, hours7 (by omega) (by omega)]
  rcases hk with rfl | rfl | rfl | rfl | rfl
  · rw [if_pos (show I 5 = 5 from rfl)]
    refine ok_bind (ok_some (P := fun r => r = WK c t) rfl) ?_
    rintro _ rfl
    refine ok_bind (ok_some (P := fun r => r = BN c t) rfl) ?_
    rintro _ rfl
    show Ok (if lg_cmp ((WK c t ||| BN c t) &&& OWN c s h) 0 = 0 then some false else some true) (fun b => b = true ↔ ¬ ((WK c t ||| BN c t) &&& OWN c s h = 0))
    by_cases e : (WK c t ||| BN c t) &&& OWN c s h = 0
    · rw [if_pos ((lg0 _).mpr e)]; exact ok_f (fun p => p e)
    · rw [if_neg (fun p => e ((lg0 _).mp p))]; exact ok_t e
  · rw [if_neg (show ¬ I 6 = 5 by decide), if_pos (show I 6 = 6 from rfl)]
    refine ok_bind (ok_some (P := fun r => r = WK c t) rfl) ?_
    rintro _ rfl
    refine ok_bind (fuel7 R B ht) ?_
    intro r hr
    show Ok (if 0 ≤ r then some false else some true) (fun b => b = true ↔ ¬ LASTS c t (WK c t ||| OWN c s h))
    by_cases e : 0 ≤ r
    · rw [if_pos e]; exact ok_f (fun p => p (hr.mp e))
    · rw [if_neg e]; exact ok_t (fun p => e (hr.mpr p))
  · rw [if_neg (show ¬ I 7 = 5 by decide), if_neg (show ¬ I 7 = 6 by decide), if_pos (show I 7 = 7 from rfl)]
    refine ok_bind (ok_some (P := fun r => r = WK c t) rfl) ?_
    rintro _ rfl
    refine ok_bind (rests7 R B ht) ?_
    intro r hr
    show Ok (if r = true then some false else some true) (fun b => b = true ↔ ¬ RESTS c t (WK c t ||| OWN c s h))
    by_cases e : r = true
    · rw [if_pos e]; exact ok_f (fun p => p (hr.mp e))
    · rw [if_neg e]; exact ok_t (fun p => e (hr.mpr p))
  · rw [if_neg (show ¬ I 8 = 5 by decide), if_neg (show ¬ I 8 = 6 by decide), if_neg (show ¬ I 8 = 7 by decide), if_pos (show I 8 = 8 from rfl), show s_X7_ofTug 0 (I t) 7 g w = some (I (TF c t 7)) from r_tug R B ht (by decide)]
    refine ok_bind (ok_some (P := fun r => r = I (TF c t 7)) rfl) ?_
    rintro _ rfl
    have r7 : TF c t 7 ≤ 60 := (nf_rb (bt_j B ht (j := 7) (by decide))).2
    by_cases e : h + SF c s 3 ≤ TF c t 7
    · rw [if_pos (ile e (by omega))]; exact ok_f (fun p => p e)
    · rw [if_neg (nle (by omega) (by omega))]; exact ok_t e
  · rw [if_neg (show ¬ I 11 = 5 by decide), if_neg (show ¬ I 11 = 6 by decide), if_neg (show ¬ I 11 = 7 by decide), if_neg (show ¬ I 11 = 8 by decide)]
    refine ok_bind (comes7 R B P Q hs ht hh) ?_
    intro r hr
    show Ok (if r = true then some false else some true) (fun b => b = true ↔ ¬ COMES c pl t s h)
    by_cases e : r = true
    · rw [if_pos e]; exact ok_f (fun p => p (hr.mp e))
    · rw [if_neg e]; exact ok_t (fun p => e (hr.mpr p))
theorem each6 (H : HB g w hb c) (B : BI c) (P : PC g pl ba) (Q : PB pl ba) {k s S h : Nat} (hk : k = 5 ∨ k = 6 ∨ k = 7 ∨ k = 8 ∨ k = 11) (hs : s < SN c) (hS : S < 2 ^ TN c) (hh : h + SF c s 3 ≤ 48) :
    Ok (s_X1_holdsForEach hb (I k) (8 * hb + s) (I h) (I S) g w) (fun b => b = true ↔ ∀ t, 0 ≤ t → t < TN c → (S.testBit t = true → CT c pl k t s h)) := by
  have h6 := tn6 B
  have hS6 := s64 B hS
  have key : ∀ (n t : Nat), t ≤ 6 → 7 - t < n → Ok (s_X1_holdsForEach_R3 hb (I k) (8 * hb + s) (I h) (I S) n (I t) g w) (fun b => b = true ↔ ∀ t', t ≤ t' → t' < TN c → (S.testBit t' = true → CT c pl k t' s h)) := by
    intro n
    induction n with
    | zero => intro t h1 hm; omega
    | succ n ih =>
      intro t h1 hm
      show Ok (s_X1_holdsForEach_3 hb (I k) (8 * hb + s) (I h) (I S) (s_X1_holdsForEach_R3 hb (I k) (8 * hb + s) (I h) (I S) n) (I t) g w) _
      unfold s_X1_holdsForEach_3 s_X1_holdsForEach_37
      rw [I_suc]
      by_cases ht : t < 6
      · rw [if_neg (show ¬ (6 : Int32) ≤ I t from nle (a := 6) ht (by decide)), isIn6 hS6 (by omega)]
        by_cases e : S.testBit t = true
        · rw [if_pos e]
          have htn := bit_lt hS e
          refine ok_bind (holdsFor6 H B P Q hk hs htn hh) ?_
          intro b hbb
          by_cases eb : b = true
          · rw [if_pos eb]
            exact ok_b (all_yes (fun _ _ => hbb.mp eb)) (ih (t + 1) (by omega) (by omega))
          · rw [if_neg eb]
            exact ok_f (fun p => eb (hbb.mpr (p t (Nat.le_refl _) htn e)))
        · rw [if_neg e]
          exact ok_b (all_yes (fun _ q => absurd q e)) (ih (t + 1) (by omega) (by omega))
      · rw [if_pos (show (6 : Int32) ≤ I t from ile (a := 6) (by omega) (by omega))]
        exact ok_t (fun t' q1 q2 => by omega)
  exact key FU 0 (by decide) (by decide)
theorem each7 (R : RV w c) (B : BI c) (P : PR g pl ba) (Q : PB pl ba) {k s S h : Nat} (hk : k = 5 ∨ k = 6 ∨ k = 7 ∨ k = 8 ∨ k = 11) (hs : s < SN c) (hS : S < 64) (hh : h + SF c s 3 ≤ 48) :
    Ok (s_X7_failsBy_R62 0 (I k) (I s) (I h) (I S) FU false 0 g w) (fun b => b = true ↔ ¬ ∀ t, 0 ≤ t → t < TN c → (S.testBit t = true → CT c pl k t s h)) := by
  have h6 := tn6 B
  have key : ∀ (n t : Nat) (v : Bool), t ≤ TN c → 7 - t < n → Ok (s_X7_failsBy_R62 0 (I k) (I s) (I h) (I S) n v (I t) g w) (fun b => b = true ↔ ¬ (v = false ∧ ∀ t', t ≤ t' → t' < TN c → (S.testBit t' = true → CT c pl k t' s h))) := by
    intro n
    induction n with
    | zero => intro t v h1 hm; omega
    | succ n ih =>
      intro t v h1 hm
      show Ok (s_X7_failsBy_62 0 (I k) (I s) (I h) (I S) (s_X7_failsBy_R62 0 (I k) (I s) (I h) (I S) n) v (I t) g w) _
      unfold s_X7_failsBy_62 s_X7_failsBy_104 s_X7_failsBy_108 s_X7_failsBy_109
      rw [I_suc]
      by_cases ht : t < TN c
      · rw [if_neg (fun q => by have := (endT R B (by omega)).mp q; omega)]
        cases v with
        | true =>
          rw [if_pos rfl]
          exact ok_b (by simp) (ih (t + 1) true (by omega) (by omega))
        | false =>
          rw [if_neg (by decide)]
          by_cases e : S.testBit t = true
          · rw [if_neg (fun q => q ((sb hS (by omega)).mpr e))]
            refine ok_bind (fails7 R B P Q hk hs ht hh) ?_
            intro b hbb
            by_cases eb : b = true
            · rw [if_pos eb]
              refine ok_b ?_ (ih (t + 1) true (by omega) (by omega))
              have no : ¬ ∀ t', t ≤ t' → t' < TN c → (S.testBit t' = true → CT c pl k t' s h) := fun p => hbb.mp eb (p t (Nat.le_refl _) ht e)
              simp [no]
            · rw [if_neg eb]
              refine ok_b ?_ (ih (t + 1) false (by omega) (by omega))
              have yes : CT c pl k t s h := Classical.byContradiction (fun p => eb (hbb.mpr p))
              rw [all_yes (fun _ _ => yes)]
          · rw [if_pos (fun q => e ((sb hS (by omega)).mp q))]
            refine ok_b ?_ (ih (t + 1) false (by omega) (by omega))
            rw [all_yes (fun _ q => absurd q e)]
      · rw [if_pos ((endT R B (by omega)).mpr (by omega))]
        have al : ∀ t', t ≤ t' → t' < TN c → (S.testBit t' = true → CT c pl k t' s h) := fun t' q1 q2 => by omega
        cases v with
        | true => exact ok_t (by simp)
        | false => exact ok_f (fun p => p ⟨rfl, al⟩)
  refine ok_b ?_ (key FU 0 false (by omega) (by show 7 - 0 < 1000; omega))
  simp
theorem shut6 {x : Int64} {s h : Nat} {Pr : Nat → Prop} (hh : h + SF c s 3 ≤ 48) (hx : ∀ j, tb x j = true ↔ Pr j) : x &&& OWN c s h = 0 ↔ ¬ ∃ j, h ≤ j ∧ j < h + SF c s 3 ∧ Pr j := by
  unfold OWN
  rw [and_0]
  constructor
  · rintro q ⟨j, q1, q2, q3⟩
    exact q j (by omega) ((hx j).mpr q3) (by rw [tb_HH (by omega) (by omega)]; exact decide_eq_true ⟨q1, q2⟩)
  · intro q j q1 q2 q3
    rw [tb_HH (by omega) (by omega)] at q3
    have := of_decide_eq_true q3
    exact q ⟨j, this.1, this.2, (hx j).mp q2⟩
theorem low_sh {s h : Nat} (hh : h + SF c s 3 ≤ 48) : (∃ j, h ≤ j ∧ j < h + SF c s 3 ∧ (j < 48 ∧ LOWAT c s j)) ↔ ∃ j, h ≤ j ∧ j < h + SF c s 3 ∧ LOWAT c s j := by
  constructor
  · rintro ⟨j, q1, q2, q3, q4⟩; exact ⟨j, q1, q2, q4⟩
  · rintro ⟨j, q1, q2, q3⟩; exact ⟨j, q1, q2, by omega, q3⟩
theorem bas_sh (B : BI c) {s h : Nat} (hs : s < SN c) : (∃ j, h ≤ j ∧ j < h + SF c s 3 ∧ ∃ o, 0 ≤ o ∧ o < SN c ∧ BAS c ba s j o) ↔ ∃ o, 0 ≤ o ∧ o < SN c ∧ BARR c ba s h (h + SF c s 3) o := by
  have l := len_ge B hs
  constructor
  · rintro ⟨j, q1, q2, o, q3, q4, q5, q6, q7, q8⟩
    exact ⟨o, q3, q4, q5, q6, by omega, by omega⟩
  · rintro ⟨o, q3, q4, q5, q6, q7, q8⟩
    have lo := len_ge B q4
    by_cases e : h ≤ SF c o 7
    · exact ⟨SF c o 7, e, q7, o, q3, q4, q5, q6, Nat.le_refl _, by omega⟩
    · exact ⟨h, Nat.le_refl _, by omega, o, q3, q4, q5, q6, by omega, q8⟩
theorem holds6 (H : HB g w hb c) (B : BI c) (P : PC g pl ba) (Q : PB pl ba) {k s S h : Nat} (h1 : 1 ≤ k) (h12 : k ≤ 12) (hs : s < SN c) (hS : S < 2 ^ TN c) (h47 : h ≤ 47) (hh : k = 1 ∨ h + SF c s 3 ≤ 48) :
    Ok (s_X1_holds hb (I k) (8 * hb + s) (I h) (I S) g w) (fun b => b = true ↔ CHK c pl ba k s h S) := by
  have l := len_ge B hs
  have hS6 := s64 B hS
  have hk : k = 1 ∨ k = 2 ∨ k = 3 ∨ k = 4 ∨ k = 9 ∨ k = 10 ∨ k = 12 ∨ (k = 5 ∨ k = 6 ∨ k = 7 ∨ k = 8 ∨ k = 11) := by omega
  unfold s_X1_holds s_X1_holds_91 s_X1_holds_120 s_X1_holds_149 s_X1_holds_168 s_X1_holds_173 s_X1_holds_194 s_X1_holds_195
  rcases hk with rfl | rfl | rfl | rfl | rfl | rfl | rfl | hk
  · rw [if_pos (show I 1 = 1 from rfl)]
    exact ok_some (inTime6 H B hs (by omega))
  · have hh' : h + SF c s 3 ≤ 48 := by omega
    rw [if_neg (show ¬ I 2 = 1 by decide), if_pos (show I 2 = 2 from rfl)]
    obtain ⟨x, ex, hx⟩ := low6 H B hs
    rw [ex]
    refine ok_bind (ok_some (P := fun r => x = r) rfl) ?_
    rintro _ rfl
    rw [own6 H B hs hh']
    have q := (shut6 hh' hx).trans (not_congr (low_sh hh'))
    by_cases e : x &&& OWN c s h = 0
    · rw [if_neg (fun p => p ((lg0 _).mpr e))]; exact ok_t (q.mp e)
    · rw [if_pos (fun p => e ((lg0 _).mp p))]; exact ok_f (fun p => e (q.mpr p))
  · have hh' : h + SF c s 3 ≤ 48 := by omega
    rw [if_neg (show ¬ I 3 = 1 by decide), if_neg (show ¬ I 3 = 2 by decide), if_pos (show I 3 = 3 from rfl), pull6 H B hS, c_ship H B hs (by decide) (by decide), I_m1 (by omega)]
    refine ok_bind (ok_some (P := fun r => r = I (PULL c S)) rfl) ?_
    rintro _ rfl
    obtain ⟨m, q1, q2, q3⟩ := most6 H B hs (a := h) (b := h + SF c s 3 - 1) (by omega) (by omega)
    rw [q2]
    refine ok_bind (ok_some (P := fun r => r = I m) rfl) ?_
    rintro _ rfl
    have hP := pull_le B S
    have q4 := q3 (PULL c S)
    rw [show h + SF c s 3 - 1 + 1 = h + SF c s 3 by omega] at q4
    by_cases e : PULL c S < m
    · rw [if_pos (ilt e (by omega))]; exact ok_f (fun p => by have := q4.mpr p; omega)
    · rw [if_neg (nlt (by omega) (by omega))]; exact ok_t (q4.mp (by omega))
  · rw [if_neg (show ¬ I 4 = 1 by decide), if_neg (show ¬ I 4 = 2 by decide), if_neg (show ¬ I 4 = 3 by decide), if_pos (show I 4 = 4 from rfl)]
    exact ok_bind (astern6 H B hS) (fun r hr => ok_some hr)
  · have hh' : h + SF c s 3 ≤ 48 := by omega
    rw [if_neg (show ¬ I 9 = 1 by decide), if_neg (show ¬ I 9 = 2 by decide), if_neg (show ¬ I 9 = 3 by decide), if_neg (show ¬ I 9 = 4 by decide), if_pos (show I 9 = 9 from rfl)]
    obtain ⟨x, ex, hx⟩ := basin6 H B P hs
    rw [ex]
    refine ok_bind (ok_some (P := fun r => x = r) rfl) ?_
    rintro _ rfl
    rw [own6 H B hs hh']
    have q := (shut6 hh' hx).trans (not_congr (bas_sh B hs))
    by_cases e : x &&& OWN c s h = 0
    · rw [if_neg (fun p => p ((lg0 _).mpr e))]; exact ok_t (q.mp e)
    · rw [if_pos (fun p => e ((lg0 _).mp p))]; exact ok_f (fun p => e (q.mpr p))
  · have hh' : h + SF c s 3 ≤ 48 := by omega
    have f1 := (nf_rb B.1.2.2.2.1).2
    rw [if_neg (show ¬ I 10 = 1 by decide), if_neg (show ¬ I 10 = 2 by decide), if_neg (show ¬ I 10 = 3 by decide), if_neg (show ¬ I 10 = 4 by decide), if_neg (show ¬ I 10 = 9 by decide), if_pos (show I 10 = 10 from rfl), c_fire H B]
    by_cases e : nf c 61 = 0
    · rw [e, if_pos (show I 0 = 0 from rfl)]
      exact ok_t (show ¬ (nf c 61 = 1 ∧ ¬ GUARD c h (h + SF c s 3) S) from fun p => by have := p.1; omega)
    · rw [if_neg (nz_I e (by omega))]
      refine ok_bind (guard6 H B hs hS6 hh') ?_
      intro b hbb
      by_cases eb : b = true
      · rw [if_pos eb]
        exact ok_t (show ¬ (nf c 61 = 1 ∧ ¬ GUARD c h (h + SF c s 3) S) from fun p => p.2 (hbb.mp eb))
      · rw [if_neg eb]
        exact ok_f (fun (p : ¬ (nf c 61 = 1 ∧ ¬ GUARD c h (h + SF c s 3) S)) => p ⟨by omega, fun q => eb (hbb.mpr q)⟩)
  · have hh' : h + SF c s 3 ≤ 48 := by omega
    rw [if_neg (show ¬ I 12 = 1 by decide), if_neg (show ¬ I 12 = 2 by decide), if_neg (show ¬ I 12 = 3 by decide), if_neg (show ¬ I 12 = 4 by decide), if_neg (show ¬ I 12 = 9 by decide), if_neg (show ¬ I 12 = 10 by decide), if_pos (show I 12 = 12 from rfl), own6 H B hs hh', H.2.1]
    by_cases e : c 63 &&& OWN c s h = 0
    · rw [if_neg (fun p => p ((lg0 _).mpr e))]; exact ok_t e
    · rw [if_pos (fun p => e ((lg0 _).mp p))]; exact ok_f e
  · have hh' : h + SF c s 3 ≤ 48 := by omega
    have hd : ∀ j, j < 14 → j ≠ k → ¬ I k = I j := fun j hj hne q => hne (I_inj (by omega) (by omega) q).symm
    rw [if_neg (show ¬ I k = (1 : Int32) from hd 1 (by decide) (by omega)), if_neg (show ¬ I k = (2 : Int32) from hd 2 (by decide) (by omega)), if_neg (show ¬ I k = (3 : Int32) from hd 3 (by decide) (by omega)), if_neg (show ¬ I k = (4 : Int32) from hd 4 (by decide) (by omega)), if_neg (show ¬ I k = (9 : Int32) from hd 9 (by decide) (by omega)), if_neg (show ¬ I k = (10 : Int32) from hd 10 (by decide) (by omega)), if_neg (show ¬ I k = (12 : Int32) from hd 12 (by decide) (by omega))]
    refine ok_bind (each6 H B P Q hk hs hS hh') (fun r hr => ok_some ?_)
    unfold CHK
    rw [if_neg (by omega), if_neg (by omega), if_neg (by omega), if_neg (by omega), if_neg (by omega), if_neg (by omega), if_neg (by omega)]
    exact hr
theorem alone7 (R : RV w c) (B : BI c) (P : PR g pl ba) {k s h S : Nat} (hk : k = 1 ∨ k = 2 ∨ k = 9 ∨ k = 12) (hs : s < SN c) (hJ : ¬ JOB c s) (h47 : h ≤ 47) (hh : k = 1 ∨ h + SF c s 3 ≤ 48) :
    Ok (s_X7_failsAlone 0 (I k) (I s) (I h) g w) (fun b => b = true ↔ ¬ CHK c pl ba k s h S) := by
  have l := len_ge B hs
  have r2 : SF c s 2 ≤ 47 := (nf_rb (bs B hs).2.2.1).2
  rcases hk with rfl | rfl | rfl | rfl
  · unfold s_X7_failsAlone s_X7_failsAlone_65 s_X7_failsAlone_70
    rw [show s_X7_ofShip 0 (I s) 3 g w = some (I (SF c s 3)) from r_ship R B hs (by decide) (by decide)]
    refine ok_bind (ok_some (P := fun r => r = I (SF c s 3)) rfl) ?_
    rintro _ rfl
    rw [if_pos (show I 1 = 1 from rfl), show s_X7_ofShip 0 (I s) 2 g w = some (I (SF c s 2)) from r_ship R B hs (by decide) (by decide)]
    refine ok_bind (ok_some (P := fun r => r = I (SF c s 2)) rfl) ?_
    rintro _ rfl
    show Ok _ (fun b => b = true ↔ ¬ (SF c s 2 ≤ h ∧ h + SF c s 3 ≤ 48))
    rw [I_add]
    by_cases e : h < SF c s 2
    · rw [if_pos (ilt e (by omega))]; exact ok_t (by omega)
    · rw [if_neg (nlt (by omega) (by omega))]
      by_cases e2 : h + SF c s 3 ≤ 48
      · rw [if_pos (show I (h + SF c s 3) ≤ (48 : Int32) from ile (k := 48) e2 (by decide))]; exact ok_f (by omega)
      · rw [if_neg (show ¬ I (h + SF c s 3) ≤ (48 : Int32) from nle (k := 48) (by omega) (by omega))]; exact ok_t (by omega)
  · refine ok_b ?_ (low7 R B hs (by omega))
    show ¬ ¬ _ ↔ _
    exact Classical.not_not
  · have hh' : h + SF c s 3 ≤ 48 := by omega
    unfold s_X7_failsAlone
    rw [show s_X7_ofShip 0 (I s) 3 g w = some (I (SF c s 3)) from r_ship R B hs (by decide) (by decide)]
    refine ok_bind (ok_some (P := fun r => r = I (SF c s 3)) rfl) ?_
    rintro _ rfl
    rw [if_neg (show ¬ I 9 = 1 by decide), if_neg (show ¬ I 9 = 2 by decide), if_pos (show I 9 = 9 from rfl)]
    refine ok_bind (barred7 R B P hs hJ hh') (fun r hr => ok_some ?_)
    show r = true ↔ ¬ ¬ _
    rw [Classical.not_not]
    exact hr
  · have hh' : h + SF c s 3 ≤ 48 := by omega
    unfold s_X7_failsAlone s_X7_failsAlone_154
    rw [show s_X7_ofShip 0 (I s) 3 g w = some (I (SF c s 3)) from r_ship R B hs (by decide) (by decide)]
    refine ok_bind (ok_some (P := fun r => r = I (SF c s 3)) rfl) ?_
    rintro _ rfl
    rw [if_neg (show ¬ I 12 = 1 by decide), if_neg (show ¬ I 12 = 2 by decide), if_neg (show ¬ I 12 = 9 by decide), n63, R 63 (by decide), I_add, hours7 (by omega) (by omega)]
    show Ok (if lg_cmp (c 63 &&& OWN c s h) 0 = 0 then some false else some true) (fun b => b = true ↔ ¬ (c 63 &&& OWN c s h = 0))
    by_cases e : c 63 &&& OWN c s h = 0
    · rw [if_pos ((lg0 _).mpr e)]; exact ok_f (fun p => p e)
    · rw [if_neg (fun p => e ((lg0 _).mp p))]; exact ok_t e
theorem failsBy7 (R : RV w c) (B : BI c) (P : PR g pl ba) (Q : PB pl ba) {k s S h : Nat} (h1 : 1 ≤ k) (h12 : k ≤ 12) (hs : s < SN c) (hJ : ¬ JOB c s) (hS : S < 64) (h47 : h ≤ 47) (hh : k = 1 ∨ h + SF c s 3 ≤ 48) :
    Ok (s_X7_failsBy 0 (I k) (I s) (I h) (I S) g w) (fun b => b = true ↔ ¬ CHK c pl ba k s h S) := by
  have hk : k = 1 ∨ k = 2 ∨ k = 3 ∨ k = 4 ∨ k = 9 ∨ k = 10 ∨ k = 12 ∨ (k = 5 ∨ k = 6 ∨ k = 7 ∨ k = 8 ∨ k = 11) := by omega
  unfold s_X7_failsBy s_X7_failsBy_22 s_X7_failsBy_46
  rcases hk with rfl | rfl | rfl | rfl | rfl | rfl | rfl | hk
  · rw [if_pos (show I 1 = 1 from rfl)]
    exact ok_bind (alone7 R B P (by decide) hs hJ h47 hh) (fun r hr => ok_some hr)
  · rw [if_neg (show ¬ I 2 = 1 by decide), if_pos (show I 2 = 2 from rfl)]
    exact ok_bind (alone7 R B P (by decide) hs hJ h47 hh) (fun r hr => ok_some hr)
  · rw [if_neg (show ¬ I 3 = 1 by decide), if_neg (show ¬ I 3 = 2 by decide), if_neg (show ¬ I 3 = 9 by decide), if_pos (show I 3 ≠ 12 by decide), if_pos (show I 3 = 3 from rfl)]
    exact ok_bind (pulls7 R B hs hS (by omega)) (fun r hr => ok_some hr)
  · rw [if_neg (show ¬ I 4 = 1 by decide), if_neg (show ¬ I 4 = 2 by decide), if_neg (show ¬ I 4 = 9 by decide), if_pos (show I 4 ≠ 12 by decide), if_neg (show ¬ I 4 = 3 by decide), if_pos (show I 4 = 4 from rfl)]
    exact ok_bind (astern7 R B hs hS) (fun r hr => ok_some hr)
  · rw [if_neg (show ¬ I 9 = 1 by decide), if_neg (show ¬ I 9 = 2 by decide), if_pos (show I 9 = 9 from rfl)]
    exact ok_bind (alone7 R B P (by decide) hs hJ h47 hh) (fun r hr => ok_some hr)
  · rw [if_neg (show ¬ I 10 = 1 by decide), if_neg (show ¬ I 10 = 2 by decide), if_neg (show ¬ I 10 = 9 by decide), if_pos (show I 10 ≠ 12 by decide), if_neg (show ¬ I 10 = 3 by decide), if_neg (show ¬ I 10 = 4 by decide), if_neg (show ¬ I 10 ≠ 10 by decide)]
    refine ok_bind (guard7 R B hs hS (by omega)) (fun r hr => ok_some ?_)
    show r = true ↔ ¬ ¬ _
    rw [Classical.not_not]
    exact hr
  · rw [if_neg (show ¬ I 12 = 1 by decide), if_neg (show ¬ I 12 = 2 by decide), if_neg (show ¬ I 12 = 9 by decide), if_neg (show ¬ I 12 ≠ 12 by decide)]
    exact ok_bind (alone7 R B P (by decide) hs hJ h47 hh) (fun r hr => ok_some hr)
  · have hd : ∀ j, j < 14 → j ≠ k → ¬ I k = I j := fun j hj hne q => hne (I_inj (by omega) (by omega) q).symm
    rw [if_neg (show ¬ I k = (1 : Int32) from hd 1 (by decide) (by omega)), if_neg (show ¬ I k = (2 : Int32) from hd 2 (by decide) (by omega)), if_neg (show ¬ I k = (9 : Int32) from hd 9 (by decide) (by omega)), if_pos (show I k ≠ (12 : Int32) from hd 12 (by decide) (by omega)), if_neg (show ¬ I k = (3 : Int32) from hd 3 (by decide) (by omega)), if_neg (show ¬ I k = (4 : Int32) from hd 4 (by decide) (by omega)), if_pos (show I k ≠ (10 : Int32) from hd 10 (by decide) (by omega))]
    refine ok_b ?_ (each7 R B P Q hk hs hS (by omega))
    unfold CHK
    rw [if_neg (by omega), if_neg (by omega), if_neg (by omega), if_neg (by omega), if_neg (by omega), if_neg (by omega), if_neg (by omega)]
/-- by which a job fails -/
def FIRST (c : Nat → Int64) (pl ba : Nat → Nat) (s h S r : Nat) : Prop :=
  (r = 0 ∧ ∀ k, 1 ≤ k → k < 13 → CHK c pl ba k s h S) ∨ (1 ≤ r ∧ r ≤ 12 ∧ ¬ CHK c pl ba r s h S ∧ ∀ k, 1 ≤ k → k < r → CHK c pl ba k s h S)
theorem first_uniq {s h S r r' : Nat} (h1 : FIRST c pl ba s h S r) (h2 : FIRST c pl ba s h S r') : r = r' := by
  rcases h1 with ⟨a1, a2⟩ | ⟨a1, a2, a3, a4⟩
  · rcases h2 with ⟨b1, b2⟩ | ⟨b1, b2, b3, b4⟩
    · omega
    · exact absurd (a2 r' b1 (by omega)) b3
  · rcases h2 with ⟨b1, b2⟩ | ⟨b1, b2, b3, b4⟩
    · exact absurd (b2 r a1 (by omega)) a3
    · rcases Nat.lt_trichotomy r r' with q | q | q
      · exact absurd (b4 r a1 q) a3
      · exact q
      · exact absurd (a4 r' b1 q) b3
theorem why6 (H : HB g w hb c) (B : BI c) (P : PC g pl ba) (Q : PB pl ba) {s S h : Nat} (hs : s < SN c) (hS : S < 2 ^ TN c) (h47 : h ≤ 47) : ∃ r, s_X1_failsBy hb (8 * hb + s) (I h) (I S) g w = some (I r) ∧ FIRST c pl ba s h S r := by
  have key : ∀ (n k : Nat), 1 ≤ k → k ≤ 13 → (∀ j, 1 ≤ j → j < k → CHK c pl ba j s h S) → 14 - k < n → ∃ r, s_X1_failsBy_R3 hb (8 * hb + s) (I h) (I S) n (I k) g w = some (I r) ∧ FIRST c pl ba s h S r := by
    intro n
    induction n with
    | zero => intro k h1 h2 h3 hm; omega
    | succ n ih =>
      intro k h1 h2 h3 hm
      show ∃ r, s_X1_failsBy_3 hb (8 * hb + s) (I h) (I S) (s_X1_failsBy_R3 hb (8 * hb + s) (I h) (I S) n) (I k) g w = some (I r) ∧ _
      unfold s_X1_failsBy_3
      rw [I_suc]
      by_cases hk : k < 13
      · rw [if_neg (show ¬ (12 : Int32) < I k from nlt (a := 12) (by omega) (by decide))]
        have hh : k = 1 ∨ h + SF c s 3 ≤ 48 := by
          by_cases e : k = 1
          · exact Or.inl e
          · exact Or.inr (h3 1 (Nat.le_refl _) (by omega)).2
        obtain ⟨b, eb, hbb⟩ := holds6 H B P Q h1 (by omega) hs hS h47 hh
        rw [eb]
        show ∃ r, (if b = true then _ else _) = some (I r) ∧ _
        by_cases e : b = true
        · rw [if_pos e]
          refine ih (k + 1) (by omega) (by omega) (fun j q1 q2 => ?_) (by omega)
          by_cases ej : j = k
          · subst ej; exact hbb.mp e
          · exact h3 j q1 (by omega)
        · rw [if_neg e]
          exact ⟨k, rfl, Or.inr ⟨h1, by omega, fun p => e (hbb.mpr p), h3⟩⟩
      · rw [if_pos (show (12 : Int32) < I k from ilt (a := 12) (by omega) (by omega))]
        exact ⟨0, rfl, Or.inl ⟨rfl, fun j q1 q2 => h3 j q1 (by omega)⟩⟩
  exact key FU 1 (Nat.le_refl _) (by decide) (fun j q1 q2 => by omega) (by decide)
theorem why7 (R : RV w c) (B : BI c) (P : PR g pl ba) (Q : PB pl ba) {s S h : Nat} (hs : s < SN c) (hJ : ¬ JOB c s) (hS : S < 64) (h47 : h ≤ 47) : ∃ r, s_X7_whyNot 0 (I s) (I h) (I S) g w = some (I r) ∧ FIRST c pl ba s h S r := by
  have fin : ∀ k, 1 ≤ k → k ≤ 13 → s_X7_whyNot_28 0 (I s) (I h) (I S) (I k) g w = some (I (if k = 13 then 0 else k)) := by
    intro k h1 h2
    unfold s_X7_whyNot_28 s_X7_whyNot_41
    by_cases e : k = 13
    · subst e; rfl
    · rw [if_pos (show I k ≠ 13 from fun q => e (I_inj (by omega) (by decide) q)), if_neg e]
  have key : ∀ (n k : Nat), 1 ≤ k → k ≤ 13 → (∀ j, 1 ≤ j → j < k → CHK c pl ba j s h S) → 14 - k < n → ∃ r, s_X7_whyNot_R3 0 (I s) (I h) (I S) n (I k) g w = some (I r) ∧ FIRST c pl ba s h S r := by
    intro n
    induction n with
    | zero => intro k h1 h2 h3 hm; omega
    | succ n ih =>
      intro k h1 h2 h3 hm
      show ∃ r, s_X7_whyNot_3 0 (I s) (I h) (I S) (s_X7_whyNot_R3 0 (I s) (I h) (I S) n) (I k) g w = some (I r) ∧ _
      unfold s_X7_whyNot_3
      rw [I_suc, fin k h1 h2]
      by_cases hk : k < 13
      · rw [if_neg (show ¬ (13 : Int32) ≤ I k from nle (a := 13) hk (by decide)), if_neg (show ¬ k = 13 by omega)]
        have hh : k = 1 ∨ h + SF c s 3 ≤ 48 := by
          by_cases e : k = 1
          · exact Or.inl e
          · exact Or.inr (h3 1 (Nat.le_refl _) (by omega)).2
        obtain ⟨b, eb, hbb⟩ := failsBy7 R B P Q h1 (by omega) hs hJ hS h47 hh
        rw [eb]
        show ∃ r, (if b = true then _ else _) = some (I r) ∧ _
        by_cases e : b = true
        · rw [if_pos e]
          exact ⟨k, rfl, Or.inr ⟨h1, by omega, hbb.mp e, h3⟩⟩
        · rw [if_neg e]
          refine ih (k + 1) (by omega) (by omega) (fun j q1 q2 => ?_) (by omega)
          by_cases ej : j = k
          · subst ej; exact Classical.byContradiction (fun p => e (hbb.mpr p))
          · exact h3 j q1 (by omega)
      · have ek : k = 13 := by omega
        subst ek
        rw [if_pos (show (13 : Int32) ≤ I 13 by decide), if_pos rfl]
        exact ⟨0, rfl, Or.inl ⟨rfl, fun j q1 q2 => h3 j q1 q2⟩⟩
  exact key FU 1 (Nat.le_refl _) (by decide) (fun j q1 q2 => by omega) (by decide)
end
