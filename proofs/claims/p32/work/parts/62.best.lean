/-! the best job of a ship -/
def GT (c : Nat → Int64) (pl : Nat → Nat) (t s h : Nat) : Prop := CT c pl 5 t s h ∧ CT c pl 8 t s h ∧ CT c pl 11 t s h ∧ CT c pl 7 t s h ∧ CT c pl 6 t s h
def ABLE (c : Nat → Int64) (pl : Nat → Nat) (s h A : Nat) : Prop := A < 2 ^ TN c ∧ ∀ t, t < TN c → (A.testBit t = true ↔ GT c pl t s h)
def GOOD (c : Nat → Int64) (s h A S : Nat) : Prop := S &&& A = S ∧ ENOUGH c s h (h + SF c s 3) (PULL c S) ∧ AST c S ∧ ¬ (nf c 61 = 1 ∧ ¬ GUARD c h (h + SF c s 3) S)
def KEY (c : Nat → Int64) (S : Nat) : Nat := 1000 * bc S + PULL c S
def LB (G : Nat → Prop) (K : Nat → Nat) (m v : Nat) : Prop := (v = 0 ∧ ∀ S, 1 ≤ S → S < m → ¬ G S) ∨ (1 ≤ v ∧ v < m ∧ G v ∧ ∀ S, 1 ≤ S → S < m → G S → K v ≤ K S ∧ (K S = K v → v ≤ S))
def VALID (c : Nat → Int64) (pl ba : Nat → Nat) (s h : Nat) : Prop := CHK c pl ba 1 s h 0 ∧ CHK c pl ba 2 s h 0 ∧ CHK c pl ba 9 s h 0 ∧ CHK c pl ba 12 s h 0
def NONEAT (c : Nat → Int64) (pl ba : Nat → Nat) (s h : Nat) : Prop := VALID c pl ba s h → ∀ A, ABLE c pl s h A → LB (GOOD c s h A) (KEY c) (A + 1) 0
def BESTR (c : Nat → Int64) (pl ba : Nat → Nat) (s h v : Nat) : Prop := h ≤ 47 ∧ VALID c pl ba s h ∧ v ≠ 0 ∧ (∃ A, ABLE c pl s h A ∧ LB (GOOD c s h A) (KEY c) (A + 1) v) ∧ ∀ h', h' < h → NONEAT c pl ba s h'
def NOBEST (c : Nat → Int64) (pl ba : Nat → Nat) (s : Nat) : Prop := ∀ h, NONEAT c pl ba s h
theorem lb_no {G : Nat → Prop} {K : Nat → Nat} {m v : Nat} (h : LB G K m v) (no : ¬ (G m ∧ (v = 0 ∨ K m < K v))) : LB G K (m + 1) v := by
  rcases h with ⟨h1, h2⟩ | ⟨h1, h2, h3, h4⟩
  · refine Or.inl ⟨h1, fun S q1 q2 q3 => ?_⟩
    by_cases e : S = m
    · subst e; exact no ⟨q3, Or.inl h1⟩
    · exact h2 S q1 (by omega) q3
  · refine Or.inr ⟨h1, by omega, h3, fun S q1 q2 q3 => ?_⟩
    by_cases e : S = m
    · subst e
      have : ¬ K S < K v := fun p => no ⟨q3, Or.inr p⟩
      exact ⟨by omega, fun _ => by omega⟩
    · exact h4 S q1 (by omega) q3
theorem lb_yes {G : Nat → Prop} {K : Nat → Nat} {m v : Nat} (h : LB G K m v) (hm : 1 ≤ m) (hG : G m) (hK : v = 0 ∨ K m < K v) : LB G K (m + 1) m := by
  refine Or.inr ⟨hm, by omega, hG, fun S q1 q2 q3 => ?_⟩
  by_cases e : S = m
  · subst e; exact ⟨Nat.le_refl _, fun _ => Nat.le_refl _⟩
  · rcases h with ⟨h1, h2⟩ | ⟨h1, h2, h3, h4⟩
    · exact absurd q3 (h2 S q1 (by omega))
    · have := (h4 S q1 (by omega) q3).1
      rcases hK with hK | hK
      · omega
      · exact ⟨by omega, fun _ => by omega⟩
theorem lb_uniq {G : Nat → Prop} {K : Nat → Nat} {m v v' : Nat} (h : LB G K m v) (h' : LB G K m v') : v = v' := by
  rcases h with ⟨h1, h2⟩ | ⟨h1, h2, h3, h4⟩
  · rcases h' with ⟨q1, q2⟩ | ⟨q1, q2, q3, q4⟩
    · omega
    · exact absurd q3 (h2 v' q1 q2)
  · rcases h' with ⟨q1, q2⟩ | ⟨q1, q2, q3, q4⟩
    · exact absurd h3 (q2 v h1 h2)
    · have a := h4 v' q1 q2 q3
      have b := q4 v h1 h2 h3
      have e : K v = K v' := by omega
      have := a.2 e.symm
      have := b.2 e
      omega
theorem able_uniq {c : Nat → Int64} {pl : Nat → Nat} {s h A A' : Nat} (h1 : ABLE c pl s h A) (h2 : ABLE c pl s h A') : A = A' := by
  refine Nat.eq_of_testBit_eq (fun t => ?_)
  by_cases ht : t < TN c
  · exact b_iff (h1.2 t ht) (h2.2 t ht)
  · have e : ∀ X, X < 2 ^ TN c → X.testBit t = false := fun X hX => Nat.testBit_lt_two_pow (Nat.lt_of_lt_of_le hX (Nat.pow_le_pow_right (by decide) (by omega)))
    rw [e A h1.1, e A' h2.1]
theorem best_uniq {c : Nat → Int64} {pl ba : Nat → Nat} {s h v h' v' : Nat} (h1 : BESTR c pl ba s h v) (h2 : BESTR c pl ba s h' v') : h = h' ∧ v = v' := by
  obtain ⟨a1, a2, a3, ⟨A, a4, a5⟩, a6⟩ := h1
  obtain ⟨b1, b2, b3, ⟨A', b4, b5⟩, b6⟩ := h2
  have e : h = h' := by
    rcases Nat.lt_trichotomy h h' with q | q | q
    · exact absurd (lb_uniq a5 (b6 h q a2 A a4)) a3
    · exact q
    · exact absurd (lb_uniq b5 (a6 h' q b2 A' b4)) b3
  subst e
  have eA := able_uniq a4 b4
  subst eA
  exact ⟨rfl, lb_uniq a5 b5⟩
theorem best_none {c : Nat → Int64} {pl ba : Nat → Nat} {s h v : Nat} (h1 : BESTR c pl ba s h v) (h2 : NOBEST c pl ba s) : False := by
  obtain ⟨a1, a2, a3, ⟨A, a4, a5⟩, a6⟩ := h1
  exact a3 (lb_uniq a5 (h2 h a2 A a4))
theorem sub_bit {S A t : Nat} (h : S &&& A = S) (ht : S.testBit t = true) : A.testBit t = true := by
  have := congrArg (fun z => z.testBit t) h
  simp only [Nat.testBit_and, ht, Bool.true_and] at this
  exact this
section
variable {g : Nat → Nat → Nat → Int32} {w : Nat → Nat → Nat → Int64} {hb : Nat} {c : Nat → Int64} {pl ba : Nat → Nat}
theorem pull_mono {S A : Nat} (h : S &&& A = S) : PULL c S ≤ PULL c A := by
  refine fb_sm_le (fun t ht => ?_)
  unfold PW
  by_cases e : S.testBit t = true
  · rw [if_pos e, if_pos (sub_bit h e)]; exact Nat.le_refl _
  · rw [if_neg e]; exact Nat.zero_le _
theorem key_lt {a b : Nat} (B : BI c) : KEY c a < KEY c b ↔ (bc a < bc b ∨ (bc a = bc b ∧ PULL c a < PULL c b)) := by
  have h1 := pull_le B a
  have h2 := pull_le B b
  unfold KEY
  omega
theorem less6 (H : HB g w hb c) (B : BI c) {a b : Nat} (ha : a < 2 ^ TN c) (hb2 : b < 2 ^ TN c) : Ok (s_X1_isLess hb (I a) (I b) g w) (fun r => r = true ↔ KEY c a < KEY c b) := by
  have h1 := pull_le B a
  have h2 := pull_le B b
  have k1 := bc_le a
  have k2 := bc_le b
  unfold s_X1_isLess s_X1_isLess_49
  rw [bc6 (s64 B ha), bc6 (s64 B hb2), pull6 H B ha, pull6 H B hb2]
  by_cases e : bc a = bc b
  · rw [e, if_pos rfl]
    refine ok_bind (ok_some (P := fun r => r = I (PULL c a)) rfl) ?_
    rintro _ rfl
    refine ok_bind (ok_some (P := fun r => r = I (PULL c b)) rfl) ?_
    rintro _ rfl
    by_cases e2 : PULL c b ≤ PULL c a
    · rw [if_pos (ile e2 (by omega))]; exact ok_f (fun p => by rw [key_lt B] at p; omega)
    · rw [if_neg (nle (by omega) (by omega))]; exact ok_t (by rw [key_lt B]; omega)
  · rw [if_neg (fun q => e (I_inj (by omega) (by omega) q))]
    by_cases e2 : bc b ≤ bc a
    · rw [if_pos (ile e2 (by omega))]; exact ok_f (fun p => by rw [key_lt B] at p; omega)
    · rw [if_neg (nle (by omega) (by omega))]; exact ok_t (by rw [key_lt B]; omega)
theorem better7 (R : RV w c) (B : BI c) {a b : Nat} (ha : a < 64) (hb2 : b < 64) : Ok (s_X7_isBetter 0 (I a) (I b) g w) (fun r => r = true ↔ KEY c a < KEY c b) := by
  have h1 := pull_le B a
  have h2 := pull_le B b
  have k1 := bc_le a
  have k2 := bc_le b
  unfold s_X7_isBetter s_X7_isBetter_46 s_X7_isBetter_27
  rw [bits7 ha, bits7 hb2, pull7 R B ha, pull7 R B hb2]
  refine ok_bind (ok_some (P := fun r => r = I (bc a)) rfl) ?_
  rintro _ rfl
  refine ok_bind (ok_some (P := fun r => r = I (bc b)) rfl) ?_
  rintro _ rfl
  by_cases e : bc a = bc b
  · rw [e, if_pos rfl]
    refine ok_bind (ok_some (P := fun r => r = I (PULL c a)) rfl) ?_
    rintro _ rfl
    refine ok_bind (ok_some (P := fun r => r = I (PULL c b)) rfl) ?_
    rintro _ rfl
    by_cases e2 : PULL c b ≤ PULL c a
    · rw [if_pos (ile e2 (by omega))]; exact ok_f (fun p => by rw [key_lt B] at p; omega)
    · rw [if_neg (nle (by omega) (by omega))]; exact ok_t (by rw [key_lt B]; omega)
  · rw [if_neg (fun q => e (I_inj (by omega) (by omega) q))]
    refine ok_bind (ok_some (P := fun r => r = I (bc a)) rfl) ?_
    rintro _ rfl
    refine ok_bind (ok_some (P := fun r => r = I (bc b)) rfl) ?_
    rintro _ rfl
    by_cases e2 : bc b ≤ bc a
    · rw [if_pos (ile e2 (by omega))]; exact ok_f (fun p => by rw [key_lt B] at p; omega)
    · rw [if_neg (nle (by omega) (by omega))]; exact ok_t (by rw [key_lt B]; omega)
theorem or_bit {A k : Nat} (hA : A < 2 ^ k) : A ||| 2 ^ k < 2 ^ (k + 1) := Nat.or_lt_two_pow (Nat.lt_of_lt_of_le hA (Nat.pow_le_pow_right (by decide) (by omega))) (Nat.pow_lt_pow_right (by decide) (by omega))
theorem able_step {A k : Nat} {G : Nat → Prop} (hA : A < 2 ^ k) (h : ∀ t, t < k → (A.testBit t = true ↔ G t)) (hG : G k) : A ||| 2 ^ k < 2 ^ (k + 1) ∧ ∀ t, t < k + 1 → ((A ||| 2 ^ k).testBit t = true ↔ G t) := by
  refine ⟨or_bit hA, fun t ht => ?_⟩
  rw [Nat.testBit_or, Nat.testBit_two_pow, Bool.or_eq_true, decide_eq_true_eq]
  by_cases e : t = k
  · subst e; simp [hG]
  · rw [h t (by omega)]
    constructor
    · rintro (q | q)
      · exact q
      · omega
    · intro q; exact Or.inl q
theorem able_skip {A k : Nat} {G : Nat → Prop} (hA : A < 2 ^ k) (h : ∀ t, t < k → (A.testBit t = true ↔ G t)) (hG : ¬ G k) : A < 2 ^ (k + 1) ∧ ∀ t, t < k + 1 → (A.testBit t = true ↔ G t) := by
  refine ⟨Nat.lt_of_lt_of_le hA (Nat.pow_le_pow_right (by decide) (by omega)), fun t ht => ?_⟩
  by_cases e : t = k
  · subst e
    rw [Nat.testBit_lt_two_pow hA]
    simp [hG]
  · exact h t (by omega)
theorem tugs6 (H : HB g w hb c) (B : BI c) (P : PC g pl ba) (Q : PB pl ba) {s h : Nat} (hs : s < SN c) (hh : h + SF c s 3 ≤ 48) : ∃ A, s_X1_tugsFor hb (8 * hb + s) (I h) g w = some (I A) ∧ ABLE c pl s h A := by
  have h6 := tn6 B
  have l := len_ge B hs
  have key : ∀ (n k A : Nat), k ≤ TN c → A < 2 ^ k → (∀ t, t < k → (A.testBit t = true ↔ GT c pl t s h)) → 7 - k < n → ∃ A', s_X1_tugsFor_R12 hb (8 * hb + s) (I h) n (I A) (OWN c s h) (I k) g w = some (I A') ∧ ABLE c pl s h A' := by
    intro n
    induction n with
    | zero => intro k A h1 h2 h3 hm; omega
    | succ n ih =>
      intro k A h1 h2 h3 hm
      show ∃ A', s_X1_tugsFor_12 hb (8 * hb + s) (I h) (s_X1_tugsFor_R12 hb (8 * hb + s) (I h) n) (I A) (OWN c s h) (I k) g w = some (I A') ∧ _
      unfold s_X1_tugsFor_12 s_X1_tugsFor_118 s_X1_tugsFor_124
      rw [c_tn H B, I_suc]
      by_cases hk : k < TN c
      · have hx := or48 (wk48 B hk) (own48 (c := c) (s := s) hh)
        have hA6 : A < 64 := Nat.lt_of_lt_of_le h2 (Nat.pow_le_pow_right (n := 2) (by decide) (show k ≤ 6 by omega))
        have h2k : 2 ^ k < 64 := Nat.pow_lt_pow_right (a := 2) (by decide) (show k < 6 by omega)
        have skip : ¬ GT c pl k s h → ∃ A', s_X1_tugsFor_R12 hb (8 * hb + s) (I h) n (I A) (OWN c s h) (I (k + 1)) g w = some (I A') ∧ ABLE c pl s h A' := fun no => by
          have q := able_skip h2 h3 no
          exact ih (k + 1) A (by omega) q.1 q.2 (by omega)
        rw [if_neg (nle hk (by omega)), if_neg (show ¬ (6 : Int32) ≤ I k from nle (a := 6) (by omega) (by decide)), if_pos (inR_I (by omega) (by decide)), I_tn (by omega), (H.2.2.1 k hk).2.1, c_ship H B hs (by decide) (by decide), I_m1 (by omega), c_rest H B]
        have e5 := free6 (g := g) (w := w) H hk (OWN c s h)
        by_cases f5 : s_X5_isFree (6 * hb + k) (OWN c s h) g w = true
        · rw [if_pos f5]
          have e8 := broken6 (g := g) (w := w) H B hk (h := h + SF c s 3 - 1) (by omega)
          by_cases f8 : s_X5_isBroken (6 * hb + k) (I (h + SF c s 3 - 1)) g w = true
          · rw [if_pos f8]
            have := e8.mp f8
            exact skip (fun q => by have q2 : h + SF c s 3 ≤ TF c k 7 := q.2.1; omega)
          · rw [if_neg f8]
            have c8 := mt e8.mpr f8
            obtain ⟨b, eb, hbb⟩ := comes6 H B P Q hs hk hh
            rw [eb]
            show ∃ A', (if b = true then _ else _) = some (I A') ∧ _
            by_cases f11 : b = true
            · rw [if_pos f11]
              obtain ⟨b2, eb2, hbb2⟩ := crew6 (g := g) (w := w) H B hk hx
              rw [eb2]
              show ∃ A', (if b2 = true then _ else _) = some (I A') ∧ _
              by_cases f7 : b2 = true
              · rw [if_pos f7]
                obtain ⟨b3, eb3, hbb3⟩ := lasts6 (g := g) (w := w) H B hk hx
                rw [eb3]
                show ∃ A', (if b3 = true then _ else _) = some (I A') ∧ _
                by_cases f6 : b3 = true
                · rw [if_pos f6, shl32 k (by omega), or32 A hA6 _ h2k]
                  have q := able_step h2 h3 (show GT c pl k s h from ⟨e5.mp f5, show h + SF c s 3 ≤ TF c k 7 by omega, hbb.mp f11, hbb2.mp f7, hbb3.mp f6⟩)
                  exact ih (k + 1) _ (by omega) q.1 q.2 (by omega)
                · rw [if_neg f6]
                  exact skip (fun q => f6 (hbb3.mpr q.2.2.2.2))
              · rw [if_neg f7]
                exact skip (fun q => f7 (hbb2.mpr q.2.2.2.1))
            · rw [if_neg f11]
              exact skip (fun q => f11 (hbb.mpr q.2.2.1))
        · rw [if_neg f5]
          exact skip (fun q => f5 (e5.mpr q.1))
      · have ek : k = TN c := by omega
        subst ek
        rw [if_pos (ile (Nat.le_refl _) (by omega))]
        exact ⟨A, rfl, h2, h3⟩
  unfold s_X1_tugsFor
  rw [own6 H B hs hh]
  exact key FU 0 0 (by omega) (by decide) (fun t ht => by omega) (by show 7 - 0 < 1000; omega)
theorem least6 (H : HB g w hb c) (B : BI c) {s h A : Nat} (hs : s < SN c) (hh : h + SF c s 3 ≤ 48) (hA : A < 2 ^ TN c) : ∃ v, s_X1_leastSet hb (8 * hb + s) (I h) (I A) g w = some (I v) ∧ LB (GOOD c s h A) (KEY c) (A + 1) v := by
  have h6 := tn6 B
  have l := len_ge B hs
  have hA6 := s64 B hA
  have f1 := (nf_rb B.1.2.2.2.1).2
  obtain ⟨m, q1, q2, q3⟩ := most6 H B hs (a := h) (b := h + SF c s 3 - 1) (by omega) (by omega)
  rw [show h + SF c s 3 - 1 + 1 = h + SF c s 3 by omega] at q3
  have hPA := pull_le B A
  have key : ∀ (n k v : Nat), 1 ≤ k → k ≤ A + 1 → LB (GOOD c s h A) (KEY c) k v → 65 - k < n → ∃ v', s_X1_leastSet_R42 hb (8 * hb + s) (I h) (I A) n (I m) (I v) (I k) g w = some (I v') ∧ LB (GOOD c s h A) (KEY c) (A + 1) v' := by
    intro n
    induction n with
    | zero => intro k v h1 h2 h3 hm; omega
    | succ n ih =>
      intro k v h1 h2 h3 hm
      show ∃ v', s_X1_leastSet_42 hb (8 * hb + s) (I h) (I A) (s_X1_leastSet_R42 hb (8 * hb + s) (I h) (I A) n) (I m) (I v) (I k) g w = some (I v') ∧ _
      unfold s_X1_leastSet_42 s_X1_leastSet_93 s_X1_leastSet_111 s_X1_leastSet_115
      rw [I_suc]
      by_cases hk : k < A + 1
      · have hkT : k < 2 ^ TN c := by omega
        have hk6 := s64 B hkT
        have hPk := pull_le B k
        have skip : ¬ (GOOD c s h A k ∧ (v = 0 ∨ KEY c k < KEY c v)) → ∃ v', s_X1_leastSet_R42 hb (8 * hb + s) (I h) (I A) n (I m) (I v) (I (k + 1)) g w = some (I v') ∧ LB (GOOD c s h A) (KEY c) (A + 1) v' := fun no => ih (k + 1) v (by omega) (by omega) (lb_no h3 no) (by omega)
        rw [if_neg (nlt (by omega) (by omega))]
        have es := sub32 k hk6 A hA6
        by_cases e1 : k &&& A = k
        · rw [if_neg (fun p => by rw [decide_eq_true p] at es; exact absurd (of_decide_eq_true es.symm) (fun q => q e1)), pull6 H B hkT]
          show ∃ v', (if I (PULL c k) < I m then _ else _) = some (I v') ∧ _
          by_cases e2 : PULL c k < m
          · rw [if_pos (ilt e2 (by omega))]
            exact skip (fun p => by have := (q3 (PULL c k)).mpr p.1.2.1; omega)
          · rw [if_neg (nlt (by omega) (by omega))]
            obtain ⟨b, eb, hbb⟩ := astern6 (g := g) (w := w) H B hkT
            rw [eb]
            show ∃ v', (if b = true then _ else _) = some (I v') ∧ _
            by_cases e3 : b = true
            · rw [if_pos e3]
              -- the last two conditions
              have last : (v = 0 ∨ KEY c k < KEY c v) → ∃ v', (if g 1 hb 6 = 0 then s_X1_leastSet_R42 hb (8 * hb + s) (I h) (I A) n (I m) (I k) (I (k + 1)) g w else (s_X1_isGuarded hb (8 * hb + s) (I h) (I k) g w).bind fun q1 => if q1 = true then s_X1_leastSet_R42 hb (8 * hb + s) (I h) (I A) n (I m) (I k) (I (k + 1)) g w else s_X1_leastSet_R42 hb (8 * hb + s) (I h) (I A) n (I m) (I v) (I (k + 1)) g w) = some (I v') ∧ LB (GOOD c s h A) (KEY c) (A + 1) v' := fun hK => by
                have take : ¬ (nf c 61 = 1 ∧ ¬ GUARD c h (h + SF c s 3) k) → ∃ v', s_X1_leastSet_R42 hb (8 * hb + s) (I h) (I A) n (I m) (I k) (I (k + 1)) g w = some (I v') ∧ LB (GOOD c s h A) (KEY c) (A + 1) v' := fun hg =>
                  ih (k + 1) k (by omega) (by omega) (lb_yes h3 h1 ⟨e1, (q3 (PULL c k)).mp (by omega), hbb.mp e3, hg⟩ hK) (by omega)
                rw [c_fire H B]
                by_cases e4 : nf c 61 = 0
                · rw [e4, if_pos (show I 0 = 0 from rfl)]
                  exact take (fun p => by have := p.1; omega)
                · rw [if_neg (nz_I e4 (by omega))]
                  obtain ⟨b2, eb2, hbb2⟩ := guard6 (g := g) (w := w) H B hs hk6 hh
                  rw [eb2]
                  show ∃ v', (if b2 = true then _ else _) = some (I v') ∧ _
                  by_cases e5 : b2 = true
                  · rw [if_pos e5]; exact take (fun p => p.2 (hbb2.mp e5))
                  · rw [if_neg e5]; exact skip (fun p => p.1.2.2.2 ⟨by omega, fun q => e5 (hbb2.mpr q)⟩)
              by_cases e0 : v = 0
              · subst e0
                rw [if_pos (show I 0 = 0 from rfl)]
                exact last (Or.inl rfl)
              · have hv : v < k := by
                  rcases h3 with ⟨p, _⟩ | ⟨_, p, _⟩
                  · exact absurd p e0
                  · exact p
                rw [if_neg (nz_I e0 (by omega))]
                obtain ⟨b3, eb3, hbb3⟩ := less6 (g := g) (w := w) H B hkT (b := v) (by omega)
                rw [eb3]
                show ∃ v', (if b3 = true then _ else _) = some (I v') ∧ _
                by_cases e5 : b3 = true
                · rw [if_pos e5]; exact last (Or.inr (hbb3.mp e5))
                · rw [if_neg e5]
                  exact skip (fun p => by
                    rcases p.2 with p2 | p2
                    · exact e0 p2
                    · exact e5 (hbb3.mpr p2))
            · rw [if_neg e3]
              exact skip (fun p => e3 (hbb.mpr p.1.2.2.1))
        · rw [if_pos (of_decide_eq_true (es.trans (decide_eq_true e1)))]
          exact skip (fun p => e1 p.1.1)
      · have ek : k = A + 1 := by omega
        subst ek
        rw [if_pos (ilt (by omega) (by omega))]
        exact ⟨v, rfl, h3⟩
  unfold s_X1_leastSet s_X1_leastSet_34
  rw [c_ship H B hs (by decide) (by decide), I_m1 (by omega), q2, pull6 H B hA]
  show ∃ v, (if I (PULL c A) < I m then some 0 else _) = some (I v) ∧ _
  by_cases e2 : PULL c A < m
  · rw [if_pos (ilt e2 (by omega))]
    refine ⟨0, rfl, Or.inl ⟨rfl, fun S p1 p2 p3 => ?_⟩⟩
    have := (q3 (PULL c S)).mpr p3.2.1
    have := pull_mono (c := c) p3.1
    omega
  · rw [if_neg (nlt (by omega) (by omega))]
    obtain ⟨b, eb, hbb⟩ := astern6 (g := g) (w := w) H B hA
    rw [eb]
    show ∃ v, (if b = true then _ else some 0) = some (I v) ∧ _
    by_cases e3 : b = true
    · rw [if_pos e3]
      exact key FU 1 0 (Nat.le_refl _) (by omega) (Or.inl ⟨rfl, fun S p1 p2 => by omega⟩) (by show 65 - 1 < 1000; omega)
    · rw [if_neg e3]
      refine ⟨0, rfl, Or.inl ⟨rfl, fun S p1 p2 p3 => e3 (hbb.mpr ?_)⟩⟩
      obtain ⟨t, r1, r2, r3, r4⟩ := p3.2.2.1
      exact ⟨t, r1, r2, sub_bit p3.1 r3, r4⟩
end
