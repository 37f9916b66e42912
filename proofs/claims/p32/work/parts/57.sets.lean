/-! what a set of tugs can do: both sides in the same numbers -/
theorem ex_no {Q : Nat → Prop} {k N : Nat} (h : ¬ (k < N ∧ Q k)) : (∃ t, k ≤ t ∧ t < N ∧ Q t) ↔ (∃ t, k + 1 ≤ t ∧ t < N ∧ Q t) := by
  constructor
  · rintro ⟨t, h1, h2, h3⟩
    by_cases e : t = k
    · subst e; exact absurd ⟨h2, h3⟩ h
    · exact ⟨t, by omega, h2, h3⟩
  · rintro ⟨t, h1, h2, h3⟩
    exact ⟨t, by omega, h2, h3⟩
theorem all_yes {Q : Nat → Prop} {k N : Nat} (h : k < N → Q k) : (∀ t, k ≤ t → t < N → Q t) ↔ (∀ t, k + 1 ≤ t → t < N → Q t) := by
  constructor
  · intro q t h1 h2
    exact q t (by omega) h2
  · intro q t h1 h2
    by_cases e : t = k
    · subst e; exact h h2
    · exact q t (by omega) h2
theorem bit_lt {S n t : Nat} (h : S < 2 ^ n) (ht : S.testBit t = true) : t < n := by
  refine Nat.lt_of_not_le (fun q => ?_)
  rw [Nat.testBit_lt_two_pow (Nat.lt_of_lt_of_le h (Nat.pow_le_pow_right (by decide) q))] at ht
  cases ht
theorem s64 {c : Nat → Int64} {S : Nat} (B : BI c) (h : S < 2 ^ TN c) : S < 64 := Nat.lt_of_lt_of_le h (Nat.pow_le_pow_right (n := 2) (by decide) (tn6 B))
theorem ok_b {o : Option Bool} {P Q : Prop} (h : P ↔ Q) (h2 : Ok o (fun b => b = true ↔ Q)) : Ok o (fun b => b = true ↔ P) := ok_imp h2 (fun _ q => q.trans h.symm)
theorem ok_t {P : Prop} (h : P) : Ok (some true) (fun b => b = true ↔ P) := ok_some ⟨fun _ => h, fun _ => rfl⟩
theorem ok_f {P : Prop} (h : ¬ P) : Ok (some false) (fun b => b = true ↔ P) := ok_some ⟨fun q => absurd q Bool.false_ne_true, fun q => absurd q h⟩
theorem ne_I {a b : Nat} (h : a ≠ b) (ha : a < 2147483648) (hb : b < 2147483648) : I a ≠ I b := fun q => h (I_inj ha hb q)
theorem ok_e {α : Type} {P : α → Prop} {o o' : Option α} (e : o = o') (h : Ok o' P) : Ok o P := e ▸ h
def PW (c : Nat → Int64) (S t : Nat) : Nat := if S.testBit t = true then TF c t 1 else 0
def PULL (c : Nat → Int64) (S : Nat) : Nat := fb_sm (PW c S) (TN c)
def AST (c : Nat → Int64) (S : Nat) : Prop := ∃ t, 0 ≤ t ∧ t < TN c ∧ (S.testBit t = true ∧ TF c t 2 = 1)
def IDLE (c : Nat → Int64) (k S : Nat) : Prop := ∃ t, 0 ≤ t ∧ t < TN c ∧ (S.testBit t = false ∧ tb (WK c t) k = false ∧ k < TF c t 7)
def GUARD (c : Nat → Int64) (h e S : Nat) : Prop := ∀ k, h ≤ k → k < e → IDLE c k S
section
variable {g : Nat → Nat → Nat → Int32} {w : Nat → Nat → Nat → Int64} {hb : Nat} {c : Nat → Int64}
theorem pw_le (B : BI c) {S t : Nat} (ht : t < TN c) : PW c S t ≤ 60 := by
  unfold PW
  have := (nf_rb (bt B ht).2.1).2
  split
  · exact this
  · omega
theorem pull_le (B : BI c) (S : Nat) : PULL c S ≤ 360 := by
  have h6 := tn6 B
  have := fb_sm_bound (f := PW c S) (c := 60) (n := TN c) (fun k hk => pw_le B hk)
  unfold PULL
  omega
theorem pull6 (H : HB g w hb c) (B : BI c) {S : Nat} (hS : S < 2 ^ TN c) : s_X1_pullOf hb (I S) g w = some (I (PULL c S)) := by
  have h6 := tn6 B
  have hS6 := s64 B hS
  have key : ∀ (n k : Nat), k ≤ 6 → 7 - k < n → s_X1_pullOf_R4 hb (I S) n (I (fb_sm (PW c S) k)) (I k) g w = some (I (fb_sm (PW c S) 6)) := by
    intro n
    induction n with
    | zero => intro k h1 hm; omega
    | succ n ih =>
      intro k h1 hm
      show s_X1_pullOf_4 hb (I S) (s_X1_pullOf_R4 hb (I S) n) (I (fb_sm (PW c S) k)) (I k) g w = _
      unfold s_X1_pullOf_4 s_X1_pullOf_33
      by_cases hk : k < 6
      · rw [if_neg (show ¬ (6 : Int32) ≤ I k from nle (a := 6) hk (by decide)), isIn6 hS6 (by omega)]
        by_cases e : S.testBit k = true
        · have hkt := bit_lt hS e
          rw [if_pos e, if_pos (inR_I hk (by decide)), I_tn (by omega), c_tug H B hkt (by decide), I_add, I_suc]
          have := ih (k + 1) (by omega) (by omega)
          rw [fb_sm_succ, show PW c S k = TF c k 1 from if_pos e] at this
          exact this
        · rw [if_neg e, I_suc]
          have := ih (k + 1) (by omega) (by omega)
          rw [fb_sm_succ, show PW c S k = 0 from if_neg e, Nat.add_zero] at this
          exact this
      · have e : k = 6 := by omega
        subst e
        rw [if_pos (show (6 : Int32) ≤ I 6 from by decide)]
  have e0 : fb_sm (PW c S) 6 = PULL c S := by
    have := fb_sm_split (PW c S) (TN c) (6 - TN c)
    rw [show TN c + (6 - TN c) = 6 by omega] at this
    have z : fb_sm (fun k => PW c S (TN c + k)) (6 - TN c) = 0 := by
      have z1 : ∀ k, k < 6 - TN c → PW c S (TN c + k) = 0 := fun k _ => if_neg (fun q => by have := bit_lt hS q; omega)
      rw [fb_sm_cong (f := fun k => PW c S (TN c + k)) (g := fun _ => 0) z1, fb_sm_const, Nat.mul_zero]
    rw [this, z]; rfl
  have := key FU 0 (by decide) (by decide)
  rw [e0] at this
  exact this
theorem pull7 (R : RV w c) (B : BI c) {S : Nat} (hS : S < 64) : s_X7_pullOf 0 (I S) g w = some (I (PULL c S)) := by
  have h6 := tn6 B
  have key : ∀ (n k : Nat), k ≤ TN c → 7 - k < n → s_X7_pullOf_R4 0 (I S) n (I (fb_sm (PW c S) k)) (I k) g w = some (I (PULL c S)) := by
    intro n
    induction n with
    | zero => intro k h1 hm; omega
    | succ n ih =>
      intro k h1 hm
      show s_X7_pullOf_4 0 (I S) (s_X7_pullOf_R4 0 (I S) n) (I (fb_sm (PW c S) k)) (I k) g w = _
      unfold s_X7_pullOf_4 s_X7_pullOf_37
      by_cases hk : k < TN c
      · rw [if_neg (fun q => by have := (endT R B (by omega)).mp q; omega)]
        have h := ih (k + 1) (by omega) (by omega)
        rw [fb_sm_succ] at h
        by_cases e : S.testBit k = true
        · rw [if_neg (fun q => q ((sb hS (by omega)).mpr e)), show s_X7_ofTug 0 (I k) 1 g w = some (I (TF c k 1)) from r_tug R B hk (by decide)]
          show s_X7_pullOf_R4 0 (I S) n (I (fb_sm (PW c S) k) + I (TF c k 1)) (I k + 1) g w = _
          rw [I_add, I_suc]
          rw [show PW c S k = TF c k 1 from if_pos e] at h
          exact h
        · rw [if_pos (fun q => e ((sb hS (by omega)).mp q))]
          rw [show (0 : Int32) = I 0 from rfl, I_add, I_suc]
          rw [show PW c S k = 0 from if_neg e] at h
          exact h
      · have e : k = TN c := by omega
        subst e
        rw [if_pos ((endT R B (by omega)).mpr (Nat.le_refl _))]
        rfl
  exact key FU 0 (by omega) (by show 7 - 0 < 1000; omega)
theorem astern6 (H : HB g w hb c) (B : BI c) {S : Nat} (hS : S < 2 ^ TN c) : Ok (s_X1_canPullAstern hb (I S) g w) (fun b => b = true ↔ AST c S) := by
  have h6 := tn6 B
  have hS6 := s64 B hS
  have key : ∀ (n k : Nat), k ≤ 6 → 7 - k < n → Ok (s_X1_canPullAstern_R2 hb (I S) n (I k) g w) (fun b => b = true ↔ ∃ t, k ≤ t ∧ t < TN c ∧ (S.testBit t = true ∧ TF c t 2 = 1)) := by
    intro n
    induction n with
    | zero => intro k h1 hm; omega
    | succ n ih =>
      intro k h1 hm
      show Ok (s_X1_canPullAstern_2 hb (I S) (s_X1_canPullAstern_R2 hb (I S) n) (I k) g w) _
      unfold s_X1_canPullAstern_2 s_X1_canPullAstern_34
      by_cases hk : k < 6
      · rw [if_neg (show ¬ (6 : Int32) ≤ I k from nle (a := 6) hk (by decide)), isIn6 hS6 (by omega)]
        by_cases e : S.testBit k = true
        · have hkt := bit_lt hS e
          rw [if_pos e, if_pos (inR_I hk (by decide)), I_tn (by omega), c_tug H B hkt (by decide)]
          by_cases e2 : TF c k 2 = 1
          · rw [e2, if_neg (fun q => q rfl)]
            exact ok_t ⟨k, by omega, hkt, e, e2⟩
          · have q := (nf_rb (bt_j B hkt (j := 2) (by decide))).2
            rw [if_pos (show I (TF c k 2) ≠ 1 from ne_I e2 (show TF c k 2 < _ by unfold TF; omega) (by decide)), I_suc]
            exact ok_b (ex_no (fun q => e2 q.2.2)) (ih (k + 1) (by omega) (by omega))
        · rw [if_neg e, I_suc]
          exact ok_b (ex_no (fun q => e q.2.1)) (ih (k + 1) (by omega) (by omega))
      · rw [if_pos (show (6 : Int32) ≤ I k from ile (a := 6) (by omega) (by omega))]
        exact ok_f (by rintro ⟨t, q1, q2, _⟩; omega)
  exact key FU 0 (by decide) (by decide)
theorem astern7 (R : RV w c) (B : BI c) {s h S : Nat} (hs : s < SN c) (hS : S < 64) : Ok (s_X7_failsTogether 0 4 (I s) (I h) (I S) g w) (fun b => b = true ↔ ¬ AST c S) := by
  have h6 := tn6 B
  have key : ∀ (n k : Nat) (v : Bool), k ≤ TN c → 7 - k < n → Ok (s_X7_failsTogether_R24 0 4 (I s) (I h) (I S) n v (I k) g w) (fun b => b = true ↔ ¬ (v = true ∨ ∃ t, k ≤ t ∧ t < TN c ∧ (S.testBit t = true ∧ TF c t 2 = 1))) := by
    intro n
    induction n with
    | zero => intro k v h1 hm; omega
    | succ n ih =>
      intro k v h1 hm
      show Ok (s_X7_failsTogether_24 0 4 (I s) (I h) (I S) (s_X7_failsTogether_R24 0 4 (I s) (I h) (I S) n) v (I k) g w) _
      unfold s_X7_failsTogether_24 s_X7_failsTogether_88 s_X7_failsTogether_65 s_X7_failsTogether_69 s_X7_failsTogether_70
      by_cases hk : k < TN c
      · rw [if_neg (fun q => by have := (endT R B (by omega)).mp q; omega), I_suc]
        cases v with
        | true =>
          rw [if_pos rfl]
          refine ok_b ?_ (ih (k + 1) true (by omega) (by omega))
          simp
        | false =>
          rw [if_neg (by decide)]
          by_cases e : S.testBit k = true
          · rw [if_neg (fun q => q ((sb hS (by omega)).mpr e)), show s_X7_ofTug 0 (I k) 2 g w = some (I (TF c k 2)) from r_tug R B hk (by decide)]
            refine ok_bind (ok_some (P := fun r => r = I (TF c k 2)) rfl) ?_
            rintro _ rfl
            by_cases e2 : TF c k 2 = 1
            · rw [e2, if_neg (fun q => q rfl)]
              refine ok_b ?_ (ih (k + 1) true (by omega) (by omega))
              have : ∃ t, k ≤ t ∧ t < TN c ∧ (S.testBit t = true ∧ TF c t 2 = 1) := ⟨k, by omega, hk, e, e2⟩
              simp [this]
            · have q := (nf_rb (bt_j B hk (j := 2) (by decide))).2
              rw [if_pos (show I (TF c k 2) ≠ 1 from ne_I e2 (show TF c k 2 < _ by unfold TF; omega) (by decide))]
              refine ok_b ?_ (ih (k + 1) false (by omega) (by omega))
              rw [ex_no (fun q => e2 q.2.2)]
          · rw [if_pos (fun q => e ((sb hS (by omega)).mp q))]
            refine ok_b ?_ (ih (k + 1) false (by omega) (by omega))
            rw [ex_no (fun q => e q.2.1)]
      · rw [if_pos ((endT R B (by omega)).mpr (by omega))]
        have no : ¬ ∃ t, k ≤ t ∧ t < TN c ∧ (S.testBit t = true ∧ TF c t 2 = 1) := by rintro ⟨t, q1, q2, _⟩; omega
        cases v with
        | true => rw [if_pos rfl]; exact ok_f (by simp)
        | false => rw [if_neg (by decide)]; exact ok_t (by simp [no])
  unfold s_X7_failsTogether
  rw [show s_X7_ofShip 0 (I s) 3 g w = some (I (SF c s 3)) from r_ship R B hs (by decide) (by decide)]
  refine ok_bind (ok_some (P := fun r => r = I (SF c s 3)) rfl) ?_
  rintro _ rfl
  rw [if_neg (fun q => q rfl)]
  refine ok_b ?_ (key FU 0 false (by omega) (by show 7 - 0 < 1000; omega))
  simp [AST]
theorem idle6 (H : HB g w hb c) (B : BI c) {S k : Nat} (hS : S < 64) (hk : k < 48) : Ok (s_X1_hasIdle hb (I k) (I S) g w) (fun b => b = true ↔ IDLE c k S) := by
  have h6 := tn6 B
  have key : ∀ (n t : Nat), t ≤ 6 → 7 - t < n → Ok (s_X1_hasIdle_R2 hb (I k) (I S) n (I t) g w) (fun b => b = true ↔ ∃ t', t ≤ t' ∧ t' < TN c ∧ (S.testBit t' = false ∧ tb (WK c t') k = false ∧ k < TF c t' 7)) := by
    intro n
    induction n with
    | zero => intro t h1 hm; omega
    | succ n ih =>
      intro t h1 hm
      show Ok (s_X1_hasIdle_2 hb (I k) (I S) (s_X1_hasIdle_R2 hb (I k) (I S) n) (I t) g w) _
      unfold s_X1_hasIdle_2 s_X1_hasIdle_60 s_X1_hasIdle_66
      rw [c_tn H B, I_suc]
      by_cases ht : t < TN c
      · rw [if_neg (nle ht (by omega)), if_neg (show ¬ (6 : Int32) ≤ I t from nle (a := 6) (by omega) (by decide)), isIn6 hS (by omega)]
        cases e : S.testBit t with
        | true =>
          rw [if_pos rfl]
          exact ok_b (ex_no (fun q => by rw [e] at q; cases q.2.1)) (ih (t + 1) (by omega) (by omega))
        | false =>
          rw [if_neg (by decide), if_pos (inR_I (by omega) (by decide)), I_tn (by omega), (H.2.2.1 t ht).2.1]
          cases e2 : tb (WK c t) k with
          | true =>
            rw [if_pos ((jl_bit0 (WK c t) (by omega)).mpr e2)]
            exact ok_b (ex_no (fun q => by rw [e2] at q; cases q.2.2.1)) (ih (t + 1) (by omega) (by omega))
          | false =>
            rw [if_neg (fun q => by rw [(jl_bit0 (WK c t) (by omega)).mp q] at e2; cases e2), if_pos (inR_I (by omega) (by decide))]
            by_cases e3 : s_X5_isBroken (6 * hb + t) (I k) g w = true
            · rw [if_pos e3]
              have e4 := (broken6 H B ht (by omega)).mp e3
              exact ok_b (ex_no (fun q => by omega)) (ih (t + 1) (by omega) (by omega))
            · rw [if_neg e3]
              have e4 := mt (broken6 H B ht (by omega)).mpr e3
              exact ok_t ⟨t, by omega, ht, e, e2, by omega⟩
      · rw [if_pos (ile (by omega) (by omega))]
        exact ok_f (by rintro ⟨t, q1, q2, _⟩; omega)
  exact key FU 0 (by decide) (by decide)
theorem guard6 (H : HB g w hb c) (B : BI c) {s S h : Nat} (hs : s < SN c) (hS : S < 64) (hh : h + SF c s 3 ≤ 48) : Ok (s_X1_isGuarded hb (8 * hb + s) (I h) (I S) g w) (fun b => b = true ↔ GUARD c h (h + SF c s 3) S) := by
  have l := len_ge B hs
  have key : ∀ (n k : Nat), h ≤ k → k ≤ h + SF c s 3 → 49 - k < n → Ok (s_X1_isGuarded_R3 hb (8 * hb + s) (I h) (I S) n (I k) g w) (fun b => b = true ↔ ∀ k', k ≤ k' → k' < h + SF c s 3 → IDLE c k' S) := by
    intro n
    induction n with
    | zero => intro t h1 h2 hm; omega
    | succ n ih =>
      intro k h1 h2 hm
      show Ok (s_X1_isGuarded_3 hb (8 * hb + s) (I h) (I S) (s_X1_isGuarded_R3 hb (8 * hb + s) (I h) (I S) n) (I k) g w) _
      unfold s_X1_isGuarded_3
      rw [c_ship H B hs (by decide) (by decide), I_add, I_suc]
      by_cases hk : k < h + SF c s 3
      · rw [if_neg (nle hk (by omega))]
        refine ok_bind (idle6 H B hS (by omega)) ?_
        intro b hbb
        cases b with
        | true =>
          rw [if_pos rfl]
          exact ok_b (all_yes (fun _ => hbb.mp rfl)) (ih (k + 1) (by omega) (by omega) (by omega))
        | false =>
          rw [if_neg (by decide)]
          exact ok_f (fun q => by have := hbb.mpr (q k (Nat.le_refl _) hk); cases this)
      · rw [if_pos (ile (by omega) (by omega))]
        exact ok_t (fun k' q1 q2 => by omega)
  exact key FU h (Nat.le_refl _) (by omega) (by show 49 - h < 1000; omega)
theorem guard7 (R : RV w c) (B : BI c) {s h S : Nat} (hs : s < SN c) (hS : S < 64) (hh : h + SF c s 3 ≤ 48) : Ok (s_X7_failsTogether 0 10 (I s) (I h) (I S) g w) (fun b => b = true ↔ (nf c 61 = 1 ∧ ¬ GUARD c h (h + SF c s 3) S)) := by
  have h6 := tn6 B
  have l := len_ge B hs
  have inner : ∀ (rec100 : Int32 → Bool → Int32 → Int32 → (Nat → Nat → Nat → Int32) → (Nat → Nat → Nat → Int64) → Option Bool) (e7 : Int32) (v6 : Bool) (k : Nat), k < 48 → ∀ (n t : Nat) (v9 : Bool), t ≤ TN c → 7 - t < n →
      ∃ fl : Bool, s_X7_failsTogether_R145 0 10 (I s) (I h) (I S) rec100 n (I (h + SF c s 3)) v6 e7 (I k) v9 (I t) g w = rec100 (I (h + SF c s 3)) fl e7 (I (k + 1)) g w ∧ (fl = true ↔ (v6 = true ∨ ¬ (v9 = true ∨ ∃ t', t ≤ t' ∧ t' < TN c ∧ (S.testBit t' = false ∧ tb (WK c t') k = false ∧ k < TF c t' 7)))) := by
    intro rec100 e7 v6 k hk n
    induction n with
    | zero => intro t v9 h1 hm; omega
    | succ n ih =>
      intro t v9 h1 hm
      show ∃ fl : Bool, s_X7_failsTogether_145 0 10 (I s) (I h) (I S) rec100 (s_X7_failsTogether_R145 0 10 (I s) (I h) (I S) rec100 n) (I (h + SF c s 3)) v6 e7 (I k) v9 (I t) g w = _ ∧ _
      unfold s_X7_failsTogether_145 s_X7_failsTogether_224 s_X7_failsTogether_229 s_X7_failsTogether_231 s_X7_failsTogether_201 s_X7_failsTogether_205 s_X7_failsTogether_206
      rw [I_suc, I_suc]
      by_cases ht : t < TN c
      · rw [if_neg (fun q => by have := (endT R B (by omega)).mp q; omega)]
        cases v9 with
        | true =>
          rw [if_pos rfl]
          obtain ⟨fl, e1, e2⟩ := ih (t + 1) true (by omega) (by omega)
          exact ⟨fl, e1, by rw [e2]; simp⟩
        | false =>
          rw [if_neg (by decide)]
          cases e : S.testBit t with
          | true =>
            rw [if_pos ((sb0 hS (by omega)).mpr e)]
            obtain ⟨fl, e1, e2⟩ := ih (t + 1) false (by omega) (by omega)
            exact ⟨fl, e1, by rw [e2, ex_no (k := t) (fun q => by rw [e] at q; cases q.2.1)]⟩
          | false =>
            rw [if_neg (fun q => by rw [(sb0 hS (by omega)).mp q] at e; cases e), r_work R B ht]
            show ∃ fl : Bool, (if s_X7_has (WK c t) (I k) g w = true then _ else _) = _ ∧ _
            rw [has7 _ (by omega)]
            cases e2 : tb (WK c t) k with
            | true =>
              rw [if_pos rfl]
              obtain ⟨fl, e3, e4⟩ := ih (t + 1) false (by omega) (by omega)
              exact ⟨fl, e3, by rw [e4, ex_no (k := t) (fun q => by rw [e2] at q; cases q.2.2.1)]⟩
            | false =>
              rw [if_neg (by decide), show s_X7_ofTug 0 (I t) 7 g w = some (I (TF c t 7)) from r_tug R B ht (by decide)]
              have q7 := (nf_rb (bt_j B ht (j := 7) (by decide))).2
              show ∃ fl : Bool, (if I (TF c t 7) ≤ I k then _ else _) = _ ∧ _
              by_cases e3 : TF c t 7 ≤ k
              · rw [if_pos (ile e3 (by omega))]
                obtain ⟨fl, e4, e5⟩ := ih (t + 1) false (by omega) (by omega)
                exact ⟨fl, e4, by rw [e5, ex_no (k := t) (fun q => by omega)]⟩
              · rw [if_neg (nle (by omega) (show TF c t 7 < _ by unfold TF; omega))]
                obtain ⟨fl, e4, e5⟩ := ih (t + 1) true (by omega) (by omega)
                have yes : ∃ t', t ≤ t' ∧ t' < TN c ∧ (S.testBit t' = false ∧ tb (WK c t') k = false ∧ k < TF c t' 7) := ⟨t, Nat.le_refl _, ht, e, e2, by omega⟩
                exact ⟨fl, e4, by rw [e5]; simp [yes]⟩
      · rw [if_pos ((endT R B (by omega)).mpr (by omega))]
        have no : ¬ ∃ t', t ≤ t' ∧ t' < TN c ∧ (S.testBit t' = false ∧ tb (WK c t') k = false ∧ k < TF c t' 7) := by rintro ⟨t, q1, q2, _⟩; omega
        cases v6 with
        | true => rw [if_pos rfl]; exact ⟨true, rfl, by simp⟩
        | false =>
          rw [if_neg (by decide)]
          cases v9 with
          | true => rw [if_pos rfl]; exact ⟨false, rfl, by simp⟩
          | false => rw [if_neg (by decide)]; exact ⟨true, rfl, by simp [no]⟩
  have key : ∀ (n k : Nat) (v : Bool) (e7 : Int32), h ≤ k → k ≤ h + SF c s 3 → 49 - k < n → Ok (s_X7_failsTogether_R100 0 10 (I s) (I h) (I S) n (I (h + SF c s 3)) v e7 (I k) g w) (fun b => b = true ↔ (nf c 61 = 1 ∧ (v = true ∨ ¬ ∀ k', k ≤ k' → k' < h + SF c s 3 → IDLE c k' S))) := by
    intro n
    induction n with
    | zero => intro k v e7 h1 h2 hm; omega
    | succ n ih =>
      intro k v e7 h1 h2 hm
      show Ok (s_X7_failsTogether_100 0 10 (I s) (I h) (I S) (s_X7_failsTogether_R100 0 10 (I s) (I h) (I S) n) (I (h + SF c s 3)) v e7 (I k) g w) _
      unfold s_X7_failsTogether_100 s_X7_failsTogether_259 s_X7_failsTogether_263 s_X7_failsTogether_264
      by_cases hk : k < h + SF c s 3
      · rw [if_neg (nle hk (by omega)), if_pos (show (10 : Int32) ≠ 3 by decide)]
        obtain ⟨fl, e1, e2⟩ := inner (s_X7_failsTogether_R100 0 10 (I s) (I h) (I S) n) e7 v k (by omega) FU 0 false (by omega) (by show 7 - 0 < 1000; omega)
        rw [show (0 : Int32) = I 0 from rfl, e1]
        refine ok_b ?_ (ih (k + 1) fl e7 (by omega) (by omega) (by omega))
        have e3 : fl = true ↔ (v = true ∨ ¬ IDLE c k S) := by rw [e2]; simp [IDLE]
        by_cases hi : IDLE c k S
        · rw [all_yes (k := k) (Q := fun k' => IDLE c k' S) (fun _ => hi), e3]
          simp [hi]
        · have hn : ¬ ∀ k', k ≤ k' → k' < h + SF c s 3 → IDLE c k' S := fun q => hi (q k (Nat.le_refl _) hk)
          rw [e3]
          simp [hi, hn]
      · rw [if_pos (ile (by omega) (by omega))]
        have al : ∀ k', k ≤ k' → k' < h + SF c s 3 → IDLE c k' S := fun k' q1 q2 => by omega
        have ef := nf_L B.1.2.2.2.1 (by decide)
        have f1 := (nf_rb B.1.2.2.2.1).2
        cases v with
        | true =>
          rw [if_pos rfl, if_neg (show ¬ (10 : Int32) = 3 by decide), n61, R 61 (by decide), ef]
          by_cases e : nf c 61 = 1
          · rw [e, if_neg (fun q => q (by decide))]
            exact ok_t ⟨rfl, Or.inl rfl⟩
          · have e0 : nf c 61 = 0 := by omega
            rw [e0, if_pos (by decide)]
            exact ok_f (fun q => by cases q.1)
        | false =>
          rw [if_neg (by decide)]
          exact ok_f (fun q => by rcases q.2 with q | q; cases q; exact q al)
  unfold s_X7_failsTogether
  rw [show s_X7_ofShip 0 (I s) 3 g w = some (I (SF c s 3)) from r_ship R B hs (by decide) (by decide)]
  refine ok_bind (ok_some (P := fun r => r = I (SF c s 3)) rfl) ?_
  rintro _ rfl
  rw [if_pos (show (10 : Int32) ≠ 4 by decide), pull7 R B hS]
  refine ok_bind (ok_some (P := fun r => r = I (PULL c S)) rfl) ?_
  rintro _ rfl
  rw [I_add]
  refine ok_b ?_ (key FU h false _ (Nat.le_refl _) (by omega) (by show 49 - h < 1000; omega))
  simp [GUARD]
/-- what is needed at most -/
theorem most6 (H : HB g w hb c) (B : BI c) {s a b : Nat} (hs : s < SN c) (hb47 : b ≤ 47) (ha : a ≤ 48) : ∃ m, m ≤ 140 ∧ s_X1_mostNeeded hb (8 * hb + s) (I a) (I b) g w = some (I m) ∧ ∀ P, m ≤ P ↔ ∀ k, a ≤ k → k < b + 1 → NEED c s k ≤ P := by
  have key : ∀ (n k m : Nat), a ≤ k → k ≤ 48 → m ≤ 140 → 49 - k < n → ∃ m', m' ≤ 140 ∧ s_X1_mostNeeded_R6 hb (8 * hb + s) (I a) (I b) n (I m) (I k) g w = some (I m') ∧ ∀ P, m' ≤ P ↔ (m ≤ P ∧ ∀ k', k ≤ k' → k' < b + 1 → NEED c s k' ≤ P) := by
    intro n
    induction n with
    | zero => intro k m h1 h2 h3 hm; omega
    | succ n ih =>
      intro k m h1 h2 h3 hm
      show ∃ m', m' ≤ 140 ∧ s_X1_mostNeeded_6 hb (8 * hb + s) (I a) (I b) (s_X1_mostNeeded_R6 hb (8 * hb + s) (I a) (I b) n) (I m) (I k) g w = some (I m') ∧ _
      unfold s_X1_mostNeeded_6 s_X1_mostNeeded_39
      by_cases hk : k < b + 1
      · rw [if_neg (nlt (by omega) (by omega)), if_neg (show ¬ (48 : Int32) ≤ I k from nle (a := 48) (by omega) (by decide)), needed6 H B hs (by omega)]
        have hN := need_le B hs (k := k) (by omega)
        show ∃ m', m' ≤ 140 ∧ s_X1_mostNeeded_R6 hb (8 * hb + s) (I a) (I b) n (if I m < I (NEED c s k) then I (NEED c s k) else I m) (I k + 1) g w = some (I m') ∧ _
        rw [I_suc]
        by_cases e : m < NEED c s k
        · rw [if_pos (ilt e (by omega))]
          obtain ⟨m', q1, q2, q3⟩ := ih (k + 1) (NEED c s k) (by omega) (by omega) hN (by omega)
          refine ⟨m', q1, q2, fun P => ?_⟩
          rw [q3]
          constructor
          · rintro ⟨r1, r2⟩
            exact ⟨by omega, (all_yes (k := k) (Q := fun k' => NEED c s k' ≤ P) (fun _ => r1)).mpr r2⟩
          · rintro ⟨r1, r2⟩
            exact ⟨r2 k (Nat.le_refl _) hk, fun k' p1 p2 => r2 k' (by omega) p2⟩
        · rw [if_neg (nlt (by omega) (by omega))]
          obtain ⟨m', q1, q2, q3⟩ := ih (k + 1) m (by omega) (by omega) h3 (by omega)
          refine ⟨m', q1, q2, fun P => ?_⟩
          rw [q3]
          constructor
          · rintro ⟨r1, r2⟩
            exact ⟨r1, (all_yes (k := k) (Q := fun k' => NEED c s k' ≤ P) (fun _ => by omega)).mpr r2⟩
          · rintro ⟨r1, r2⟩
            exact ⟨r1, fun k' p1 p2 => r2 k' (by omega) p2⟩
      · rw [if_pos (ilt (by omega) (by omega))]
        exact ⟨m, h3, rfl, fun P => ⟨fun q => ⟨q, fun k' p1 p2 => by omega⟩, fun q => q.1⟩⟩
  obtain ⟨m, q1, q2, q3⟩ := key FU a 0 (Nat.le_refl _) ha (by decide) (by show 49 - a < 1000; omega)
  exact ⟨m, q1, q2, fun P => by rw [q3]; simp⟩
def ENOUGH (c : Nat → Int64) (s a b P : Nat) : Prop := ∀ k, a ≤ k → k < b → NEED c s k ≤ P
theorem pulls7 (R : RV w c) (B : BI c) {s h S : Nat} (hs : s < SN c) (hS : S < 64) (hh : h + SF c s 3 ≤ 48) : Ok (s_X7_failsTogether 0 3 (I s) (I h) (I S) g w) (fun b => b = true ↔ ¬ ENOUGH c s h (h + SF c s 3) (PULL c S)) := by
  have l := len_ge B hs
  have hP := pull_le B S
  have key : ∀ (n k : Nat) (v : Bool), h ≤ k → k ≤ h + SF c s 3 → 49 - k < n → Ok (s_X7_failsTogether_R100 0 3 (I s) (I h) (I S) n (I (h + SF c s 3)) v (I (PULL c S)) (I k) g w) (fun b => b = true ↔ (v = true ∨ ¬ ∀ k', k ≤ k' → k' < h + SF c s 3 → NEED c s k' ≤ PULL c S)) := by
    intro n
    induction n with
    | zero => intro k v h1 h2 hm; omega
    | succ n ih =>
      intro k v h1 h2 hm
      show Ok (s_X7_failsTogether_100 0 3 (I s) (I h) (I S) (s_X7_failsTogether_R100 0 3 (I s) (I h) (I S) n) (I (h + SF c s 3)) v (I (PULL c S)) (I k) g w) _
      unfold s_X7_failsTogether_100 s_X7_failsTogether_259 s_X7_failsTogether_263 s_X7_failsTogether_264 s_X7_failsTogether_129 s_X7_failsTogether_134 s_X7_failsTogether_231
      rw [I_suc]
      by_cases hk : k < h + SF c s 3
      · rw [if_neg (nle hk (by omega)), if_neg (show ¬ (3 : Int32) ≠ 3 by decide)]
        cases v with
        | true =>
          rw [if_pos rfl]
          exact ok_b (by simp) (ih (k + 1) true (by omega) (by omega) (by omega))
        | false =>
          rw [if_neg (by decide), needs7 R B hs (by omega)]
          refine ok_bind (ok_some (P := fun r => r = I (NEED c s k)) rfl) ?_
          rintro _ rfl
          have hN := need_le B hs (k := k) (by omega)
          by_cases e : NEED c s k ≤ PULL c S
          · rw [if_pos (ile e (by omega))]
            refine ok_b ?_ (ih (k + 1) false (by omega) (by omega) (by omega))
            rw [all_yes (k := k) (Q := fun k' => NEED c s k' ≤ PULL c S) (fun _ => e)]
          · rw [if_neg (nle (by omega) (by omega))]
            refine ok_b ?_ (ih (k + 1) true (by omega) (by omega) (by omega))
            have hn : ¬ ∀ k', k ≤ k' → k' < h + SF c s 3 → NEED c s k' ≤ PULL c S := fun q => e (q k (Nat.le_refl _) hk)
            simp [hn]
      · rw [if_pos (ile (by omega) (by omega))]
        have al : ∀ k', k ≤ k' → k' < h + SF c s 3 → NEED c s k' ≤ PULL c S := fun k' q1 q2 => by omega
        cases v with
        | true => rw [if_pos rfl, if_pos (show (3 : Int32) = 3 from rfl)]; exact ok_t (Or.inl rfl)
        | false => rw [if_neg (by decide)]; exact ok_f (fun q => by rcases q with q | q; cases q; exact q al)
  unfold s_X7_failsTogether
  rw [show s_X7_ofShip 0 (I s) 3 g w = some (I (SF c s 3)) from r_ship R B hs (by decide) (by decide)]
  refine ok_bind (ok_some (P := fun r => r = I (SF c s 3)) rfl) ?_
  rintro _ rfl
  rw [if_pos (show (3 : Int32) ≠ 4 by decide), pull7 R B hS]
  refine ok_bind (ok_some (P := fun r => r = I (PULL c S)) rfl) ?_
  rintro _ rfl
  rw [I_add]
  refine ok_b ?_ (key FU h false (Nat.le_refl _) (by omega) (by show 49 - h < 1000; omega))
  simp [ENOUGH]
end
