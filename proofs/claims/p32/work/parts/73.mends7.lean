/-! the reference's mended plan -/
section
variable {g g' g'' : Nat → Nat → Nat → Int32} {w w' w'' : Nat → Nat → Nat → Int64} {hb : Nat} {c c' : Nat → Int64} {pl ba : Nat → Nat}
theorem tries7 {n m : Nat} (Q : PB pl ba) (hn4 : n ≤ 4) (R : RV w c) (B : BI c) (P : PR g pl ba) (hn : n ≤ SN c) (hm : m < 2 ^ n) (hC : CAND c m) :
    ∃ g' w', s_X7_tries 0 (I n) (I m) g w = some (I (LAIDN pl ba (fun i => i) (liftN m c n) n), g', w') ∧ RV w' (MC pl ba n c m) ∧ BI (MC pl ba n c m) ∧ FP g w g' w' := by
  obtain ⟨w1, e1, R1, F1⟩ := tries2 (g := g) rfl hm hn4 R B hC
  have hpl := liftN_pln hC n
  obtain ⟨g2, w2, e2, R2, B2, F2⟩ := tries34 (p2 := I m) Q hn4 R1 (liftN_bi B hC n) (pr_fp P F1) (by rw [pln_sn hpl]; exact hn)
  exact ⟨g2, w2, e1.trans e2, R2, B2, fp_trans F1 F2⟩
theorem mc_pln {n m : Nat} (hn : n ≤ SN c) (hC : CAND c m) : PLN c (MC pl ba n c m) := by
  have hpl := liftN_pln hC n
  exact pln_trans hpl (layN_pln n (fun i hi => by rw [pln_sn hpl]; show i < SN c; omega))
theorem cand_iff {n A k : Nat} (hn : n ≤ SN c) (hk : k < 2 ^ n) (hA : ∀ s, s < n → (A.testBit s = true ↔ JOB c s)) : k &&& A = k ↔ CAND c k := by
  constructor
  · intro h s hs
    have hsn := bit_lt hk hs
    exact ⟨by omega, (hA s hsn).mp (sub_bit h hs)⟩
  · intro h
    refine Nat.eq_of_testBit_eq (fun s => ?_)
    rw [Nat.testBit_and]
    cases hs : k.testBit s with
    | false => rfl
    | true =>
      have hsn := bit_lt hk hs
      rw [(hA s hsn).mpr (h s hs).2]; rfl
theorem mends4 {n : Nat} (h4 : n ≤ 4) (R : RV w c) (B : BI c) (hn : n ≤ SN c) : ∃ A, A < 2 ^ n ∧ (∀ s, s < n → (A.testBit s = true ↔ JOB c s)) ∧ s_X7_mends 0 (I n) g w = s_X7_mends_R44 0 (I n) FU (I A) 0 (gI g 7 0 14 (-1)) (wa 6 8 w) := by
  have h8 := sn8 B
  have key : ∀ (m k A : Nat), k ≤ n → A < 2 ^ k → (∀ s, s < k → (A.testBit s = true ↔ JOB c s)) → 5 - k < m → ∃ A', A' < 2 ^ n ∧ (∀ s, s < n → (A'.testBit s = true ↔ JOB c s)) ∧ s_X7_mends_R4 0 (I n) m (I A) (I k) g w = s_X7_mends_R44 0 (I n) FU (I A') 0 (gI g 7 0 14 (-1)) (wa 6 8 w) := by
    intro m
    induction m with
    | zero => intro k A h1 h2 h3 hm; omega
    | succ m ih =>
      intro k A h1 h2 h3 hm
      show ∃ A', A' < 2 ^ n ∧ (∀ s, s < n → (A'.testBit s = true ↔ JOB c s)) ∧ s_X7_mends_4 0 (I n) (s_X7_mends_R4 0 (I n) m) (I A) (I k) g w = _
      unfold s_X7_mends_4 s_X7_mends_25
      rw [I_suc]
      by_cases hk : k < n
      · have hA6 : A < 64 := Nat.lt_of_lt_of_le h2 (Nat.pow_le_pow_right (n := 2) (by decide) (show k ≤ 6 by omega))
        have h2k : 2 ^ k < 64 := Nat.pow_lt_pow_right (a := 2) (by decide) (show k < 6 by omega)
        rw [if_neg (nle hk (by omega))]
        obtain ⟨b, eb, hbb⟩ := r_hasJob (g := g) R B (show k < SN c by omega)
        rw [eb]
        show ∃ A', A' < 2 ^ n ∧ (∀ s, s < n → (A'.testBit s = true ↔ JOB c s)) ∧ (if b = true then s_X7_mends_R4 0 (I n) m (I A ||| (1 <<< (I k &&& 31))) (I (k + 1)) g w else s_X7_mends_R4 0 (I n) m (I A ||| 0) (I (k + 1)) g w) = _
        by_cases e : b = true
        · have q := able_step h2 h3 (hbb.mp e)
          rw [if_pos e, shl32 k (by omega), or32 A hA6 _ h2k]
          exact ih (k + 1) _ (by omega) q.1 q.2 (by omega)
        · have q := able_skip h2 h3 (fun p => e (hbb.mpr p))
          rw [if_neg e, show I A ||| 0 = I A from (or32 A hA6 0 (by decide)).trans (by rw [Nat.or_zero])]
          exact ih (k + 1) A (by omega) q.1 q.2 (by omega)
      · have e : k = n := by omega
        subst e
        rw [if_pos (ile (Nat.le_refl _) (by omega)), asides_e]
        exact ⟨A, h2, h3, rfl⟩
  exact key FU 0 0 (by omega) (by decide) (fun s hs => by omega) (by show 5 - 0 < 1000; omega)
def MST (pl ba : Nat → Nat) (n : Nat) (c : Nat → Int64) (k : Nat) (g : Nat → Nat → Nat → Int32) : Prop := g 7 0 14 = I (MANY pl ba n c (mb pl ba n c k)) ∧ g 7 0 15 = I (bc (mb pl ba n c k)) ∧ g 7 0 16 = MW pl ba n c (mb pl ba n c k) ∧ g 7 0 17 = I (mb pl ba n c k)
def MRES (pl ba : Nat → Nat) (n : Nat) (c : Nat → Int64) (g : Nat → Nat → Nat → Int32) (w : Nat → Nat → Nat → Int64) (o : Option ((Nat → Nat → Nat → Int32) × (Nat → Nat → Nat → Int64))) : Prop := ∃ g' w', o = some (g', w') ∧ MST pl ba n c (2 ^ n) g' ∧ RV w' c ∧ FQ g w g' w'
theorem mst_cg {n k : Nat} (h : MST pl ba n c k g) (e : ∀ j, 14 ≤ j → g' 7 0 j = g 7 0 j) : MST pl ba n c k g' := ⟨(e 14 (by decide)).trans h.1, (e 15 (by decide)).trans h.2.1, (e 16 (by decide)).trans h.2.2.1, (e 17 (by decide)).trans h.2.2.2⟩
section
variable {n k A : Nat} {R : Option ((Nat → Nat → Nat → Int32) × (Nat → Nat → Nat → Int64)) → Prop} {rec : Int32 → Int32 → (Nat → Nat → Nat → Int32) → (Nat → Nat → Nat → Int64) → Option ((Nat → Nat → Nat → Int32) × (Nat → Nat → Nat → Int64))}
theorem ob {α β : Type} {o : Option α} {a : α} (h : o = some a) (f : α → Option β) : o.bind f = f a := by rw [h]; rfl
theorem mends_take (hk6 : k < 64) (hmb : mb pl ba n c (k + 1) = k) (back : ∀ g3, FQ g w g3 w → MST pl ba n c (k + 1) g3 → R (s_X7_mends_205 0 (I n) rec (I A) (I k) g3 w)) :
    R (s_X7_mends_180 0 (I n) rec (I A) (I k) (I (MANY pl ba n c k)) (MW pl ba n c k) g w) := by
  unfold s_X7_mends_180
  rw [ob (bits7 hk6)]
  have F1 : FQ g w (gI (gI (gI (gI g 7 0 14 (I (MANY pl ba n c k))) 7 0 15 (I (bc k))) 7 0 16 (MW pl ba n c k)) 7 0 17 (I k)) w := fq_trans (fq_7 (by decide)) (fq_trans (fq_7 (by decide)) (fq_trans (fq_7 (by decide)) (fq_7 (by decide))))
  refine back _ F1 ⟨?_, ?_, ?_, ?_⟩
  · rw [hmb, gI_at, if_neg (by omega), gI_at, if_neg (by omega), gI_at, if_neg (by omega), gI_at, if_pos ⟨rfl, rfl, rfl⟩]
  · rw [hmb, gI_at, if_neg (by omega), gI_at, if_neg (by omega), gI_at, if_pos ⟨rfl, rfl, rfl⟩]
  · rw [hmb, gI_at, if_neg (by omega), gI_at, if_pos ⟨rfl, rfl, rfl⟩]
  · rw [hmb, gI_at, if_pos ⟨rfl, rfl, rfl⟩]
theorem mends_135 (hn4 : n ≤ 4) (hk6 : k < 64) {t0 : Bool} (st : MST pl ba n c k g)
    (ht : t0 = true ↔ (MANY pl ba n c k = MANY pl ba n c (mb pl ba n c k) ∧ bc k = bc (mb pl ba n c k)))
    (take : BETR pl ba n c k (mb pl ba n c k) → R (s_X7_mends_180 0 (I n) rec (I A) (I k) (I (MANY pl ba n c k)) (MW pl ba n c k) g w))
    (skip : ¬ BETR pl ba n c k (mb pl ba n c k) → R (s_X7_mends_205 0 (I n) rec (I A) (I k) g w)) :
    R (s_X7_mends_135 0 (I n) rec t0 (I A) (I k) (I (MANY pl ba n c k)) (MW pl ba n c k) g w) := by
  have m1 := many_le (pl := pl) (ba := ba) (c := c) n k
  have m2 := many_le (pl := pl) (ba := ba) (c := c) n (mb pl ba n c k)
  have k1 := bc_le k
  have k2 := bc_le (mb pl ba n c k)
  unfold s_X7_mends_135 s_X7_mends_166
  rw [bits7 hk6, st.1, st.2.1, st.2.2.1]
  by_cases c1 : MANY pl ba n c (mb pl ba n c k) < MANY pl ba n c k
  · rw [if_pos (ilt c1 (by omega))]
    exact take (Or.inl c1)
  · rw [if_neg (nlt (by omega) (by omega))]
    by_cases c2 : MANY pl ba n c k = MANY pl ba n c (mb pl ba n c k)
    · rw [if_neg (fun q => q (by rw [c2]))]
      show R (if I (bc k) < I (bc (mb pl ba n c k)) then _ else _)
      by_cases c3 : bc k < bc (mb pl ba n c k)
      · rw [if_pos (ilt c3 (by omega))]
        exact take (Or.inr ⟨c2, Or.inl c3⟩)
      · rw [if_neg (nlt (by omega) (by omega))]
        by_cases c4 : bc k = bc (mb pl ba n c k)
        · rw [if_pos (ht.mpr ⟨c2, c4⟩)]
          by_cases c5 : MW pl ba n c (mb pl ba n c k) ≤ MW pl ba n c k
          · rw [if_pos c5]
            refine skip (fun p => ?_)
            rcases p with p | ⟨_, p | ⟨_, p⟩⟩
            · omega
            · omega
            · rw [lt32] at p; exact p c5
          · rw [if_neg c5]
            exact take (Or.inr ⟨c2, Or.inr ⟨c4, by rw [lt32]; exact c5⟩⟩)
        · rw [if_neg (fun q => c4 (ht.mp q).2)]
          refine skip (fun p => ?_)
          rcases p with p | ⟨_, p | ⟨p, _⟩⟩ <;> omega
    · rw [if_pos (show I (MANY pl ba n c k) ≠ I (MANY pl ba n c (mb pl ba n c k)) from ne_I c2 (by omega) (by omega)), if_neg (fun q => c2 (ht.mp q).1)]
      refine skip (fun p => ?_)
      rcases p with p | ⟨p, _⟩ <;> omega
theorem mends_cmp (hn4 : n ≤ 4) (hk6 : k < 64) (hC : CAND c k) (eW : s_X7_waited 0 (I n) g w = some (MW pl ba n c k)) (st : (k = 0 ∧ g 7 0 14 = -1) ∨ (1 ≤ k ∧ MST pl ba n c k g))
    (back : ∀ g3, FQ g w g3 w → MST pl ba n c (k + 1) g3 → R (s_X7_mends_205 0 (I n) rec (I A) (I k) g3 w)) :
    R ((s_X7_waited 0 (I n) g w).bind fun q1 => if I (MANY pl ba n c k) ≠ (g 7 0 14) then s_X7_mends_134 0 (I n) rec (I A) (I k) (I (MANY pl ba n c k)) q1 g w else (s_X7_bits (I k) g w).bind fun q2 => if q2 ≠ (g 7 0 15) then s_X7_mends_134 0 (I n) rec (I A) (I k) (I (MANY pl ba n c k)) q1 g w else s_X7_mends_135 0 (I n) rec true (I A) (I k) (I (MANY pl ba n c k)) q1 g w) := by
  have m1 := many_le (pl := pl) (ba := ba) (c := c) n k
  have k1 := bc_le k
  rw [eW, bits7 hk6]
  show R (if I (MANY pl ba n c k) ≠ (g 7 0 14) then s_X7_mends_135 0 (I n) rec false (I A) (I k) (I (MANY pl ba n c k)) (MW pl ba n c k) g w else if I (bc k) ≠ (g 7 0 15) then s_X7_mends_135 0 (I n) rec false (I A) (I k) (I (MANY pl ba n c k)) (MW pl ba n c k) g w else s_X7_mends_135 0 (I n) rec true (I A) (I k) (I (MANY pl ba n c k)) (MW pl ba n c k) g w)
  rcases st with ⟨rfl, q6⟩ | ⟨q5, st⟩
  · have e1 : (-1 : Int32).toInt = -1 := rfl
    rw [q6, if_pos (show I (MANY pl ba n c 0) ≠ -1 from fun q => by have := congrArg Int32.toInt q; rw [I_toInt (by omega), e1] at this; omega)]
    unfold s_X7_mends_135
    rw [q6, if_pos (show (-1 : Int32) < I (MANY pl ba n c 0) by rw [Int32.lt_iff_toInt_lt, I_toInt (by omega), e1]; omega)]
    exact mends_take (k := 0) (by decide) mb_1 back
  · have m2 := many_le (pl := pl) (ba := ba) (c := c) n (mb pl ba n c k)
    have k2 := bc_le (mb pl ba n c k)
    have take : BETR pl ba n c k (mb pl ba n c k) → R (s_X7_mends_180 0 (I n) rec (I A) (I k) (I (MANY pl ba n c k)) (MW pl ba n c k) g w) := fun p => mends_take hk6 (mb_yes hC p) back
    have skip : ¬ BETR pl ba n c k (mb pl ba n c k) → R (s_X7_mends_205 0 (I n) rec (I A) (I k) g w) := fun no => by
      have hmb := mb_no (pl := pl) (ba := ba) (n := n) (c := c) (k := k) (fun q => no q.2)
      refine back g fq_refl ?_
      unfold MST
      rw [hmb]
      exact st
    rw [st.1, st.2.1]
    by_cases c1 : MANY pl ba n c k = MANY pl ba n c (mb pl ba n c k)
    · rw [if_neg (fun q => q (by rw [c1]))]
      by_cases c2 : bc k = bc (mb pl ba n c k)
      · rw [if_neg (fun q => q (by rw [c2]))]
        exact mends_135 hn4 hk6 st ⟨fun _ => ⟨c1, c2⟩, fun _ => rfl⟩ take skip
      · rw [if_pos (show I (bc k) ≠ I (bc (mb pl ba n c k)) from ne_I c2 (by omega) (by omega))]
        exact mends_135 hn4 hk6 st ⟨fun q => absurd q (by decide), fun q => absurd q.2 c2⟩ take skip
    · rw [if_pos (show I (MANY pl ba n c k) ≠ I (MANY pl ba n c (mb pl ba n c k)) from ne_I c1 (by omega) (by omega))]
      exact mends_135 hn4 hk6 st ⟨fun q => absurd q (by decide), fun q => absurd q.1 c1⟩ take skip
/-- the ships that have a job are counted, then compared -/
theorem mends_72 (hn4 : n ≤ 4) (hk6 : k < 64) (hC : CAND c k) (R2 : RV w (MC pl ba n c k)) (B2 : BI (MC pl ba n c k)) (hsn : n ≤ SN (MC pl ba n c k)) (st : (k = 0 ∧ g 7 0 14 = -1) ∨ (1 ≤ k ∧ MST pl ba n c k g))
    (back : ∀ g3, FQ g w g3 w → MST pl ba n c (k + 1) g3 → R (s_X7_mends_205 0 (I n) rec (I A) (I k) g3 w)) :
    ∀ (x s : Nat), s ≤ n → 5 - s < x → R (s_X7_mends_R72 0 (I n) rec x (I A) (I k) (I (fb_sm (fun s => if 0 ≤ HR (MC pl ba n c k) s then 1 else 0) s)) (I s) g w) := by
  intro x
  induction x with
  | zero => intro s _ hx; omega
  | succ x ihx =>
    intro s hs hx
    show R (s_X7_mends_72 0 (I n) rec (s_X7_mends_R72 0 (I n) rec x) (I A) (I k) (I (fb_sm (fun s => if 0 ≤ HR (MC pl ba n c k) s then 1 else 0) s)) (I s) g w)
    unfold s_X7_mends_72 s_X7_mends_94
    by_cases hsn2 : s < n
    · rw [if_neg (nle hsn2 (by omega)), I_suc]
      obtain ⟨b, eb, hbb⟩ := r_hasJob (g := g) R2 B2 (show s < SN (MC pl ba n c k) by omega)
      rw [eb]
      have := ihx (s + 1) (by omega) (by omega)
      rw [fb_sm_succ] at this
      show R (if b = true then s_X7_mends_R72 0 (I n) rec x (I A) (I k) (I (fb_sm (fun s => if 0 ≤ HR (MC pl ba n c k) s then 1 else 0) s) + bI true) (I (s + 1)) g w else s_X7_mends_R72 0 (I n) rec x (I A) (I k) (I (fb_sm (fun s => if 0 ≤ HR (MC pl ba n c k) s then 1 else 0) s) + bI false) (I (s + 1)) g w)
      by_cases e : b = true
      · rw [if_pos e, bI_v, if_pos rfl, I_add]
        rw [if_pos (show 0 ≤ HR (MC pl ba n c k) s from hbb.mp e)] at this
        exact this
      · rw [if_neg e, bI_v, if_neg (by decide), I_add]
        rw [if_neg (show ¬ 0 ≤ HR (MC pl ba n c k) s from fun p => e (hbb.mpr p))] at this
        exact this
    · have es2 : s = n := by omega
      subst es2
      rw [if_pos (ile (Nat.le_refl _) (by omega))]
      exact mends_cmp hn4 hk6 hC (waited7 R2 B2 hsn) st back
end
theorem mends44 {n A : Nat} (h1 : 1 ≤ n) (h4 : n ≤ 4) (hn : n ≤ SN c) (B : BI c) (P : PR g pl ba) (Q : PB pl ba) (hA : A < 2 ^ n) (hA2 : ∀ s, s < n → (A.testBit s = true ↔ JOB c s)) :
    ∀ (m k : Nat) (g1 : Nat → Nat → Nat → Int32) (w1 : Nat → Nat → Nat → Int64), k ≤ 2 ^ n → RV w1 c → AS w1 c → FQ g w g1 w1 → ((k = 0 ∧ g1 7 0 14 = -1) ∨ (1 ≤ k ∧ MST pl ba n c k g1)) → 17 - k < m →
      MRES pl ba n c g w (s_X7_mends_R44 0 (I n) m (I A) (I k) g1 w1) := by
  have hp := pow16 h4
  have hA6 : A < 64 := by omega
  intro m
  induction m with
  | zero => intro k g1 w1 q1 q2 q3 q4 q5 hm; omega
  | succ m ih =>
    intro k g1 w1 q1 q2 q3 q4 q5 hm
    show MRES pl ba n c g w (s_X7_mends_44 0 (I n) (s_X7_mends_R44 0 (I n) m) (I A) (I k) g1 w1)
    unfold s_X7_mends_44
    rw [shl32 n (by omega)]
    by_cases hk : k < 2 ^ n
    · have hk6 : k < 64 := by omega
      have es := sub32 k hk6 A hA6
      rw [if_neg (nle hk (by omega))]
      by_cases e1 : k &&& A = k
      · have hC := (cand_iff hn hk hA2).mp e1
        rw [if_neg (fun p => by rw [decide_eq_true p] at es; exact absurd (of_decide_eq_true es.symm) (fun q => q e1))]
        obtain ⟨g2, w2, e2, R2, B2, F2⟩ := tries7 (g := g1) Q h4 q2 B (pr_fq P q4) hn hk hC
        rw [e2]
        have hpl := mc_pln (pl := pl) (ba := ba) hn hC
        have hsn : SN (MC pl ba n c k) = SN c := pln_sn hpl
        have A2 := as_fp q3 F2
        have s7 : ∀ j, 14 ≤ j → g2 7 0 j = g1 7 0 j := fun j hj => F2.1 _ _ _ (by omega)
        have back : ∀ g3, FQ g2 w2 g3 w2 → MST pl ba n c (k + 1) g3 → MRES pl ba n c g w (s_X7_mends_205 0 (I n) (s_X7_mends_R44 0 (I n) m) (I A) (I k) g3 w2) := by
          intro g3 x1 x2
          unfold s_X7_mends_205 s_X7_mends_209
          rw [returns_e, I_suc]
          exact ih (k + 1) g3 _ (by omega) (rv_wb A2 B R2 hpl) (as_wb A2) (fq_trans q4 (fq_trans (fq_fp F2) (fq_trans x1 fq_wb))) (Or.inr ⟨by omega, x2⟩) (by omega)
        have st : (k = 0 ∧ g2 7 0 14 = -1) ∨ (1 ≤ k ∧ MST pl ba n c k g2) := q5.imp (fun q => ⟨q.1, (s7 14 (by decide)).trans q.2⟩) (fun q => ⟨q.1, mst_cg q.2 s7⟩)
        have fin : ∀ x, 5 < x → MRES pl ba n c g w (s_X7_mends_R72 0 (I n) (s_X7_mends_R44 0 (I n) m) x (I A) (I k) 0 0 g2 w2) := fun x hx => mends_72 (rec := s_X7_mends_R44 0 (I n) m) h4 hk6 hC R2 B2 (by omega) st back x 0 (by omega) (by omega)
        exact fin FU (by show 5 < 1000; decide)
      · rw [if_pos (of_decide_eq_true (es.trans (decide_eq_true e1)))]
        have hC : ¬ CAND c k := fun q => e1 ((cand_iff hn hk hA2).mpr q)
        unfold s_X7_mends_209
        rw [I_suc]
        rcases q5 with ⟨rfl, _⟩ | ⟨q5, q6⟩
        · exact absurd cand_0 hC
        · have hmb := mb_no (pl := pl) (ba := ba) (n := n) (c := c) (k := k) (fun q => hC q.1)
          exact ih (k + 1) g1 w1 (by omega) q2 q3 q4 (Or.inr ⟨by omega, by unfold MST; rw [hmb]; exact q6⟩) (by omega)
    · have ek : k = 2 ^ n := by omega
      have h2n : 1 ≤ 2 ^ n := Nat.one_le_two_pow
      rw [if_pos (ile (by omega) (by omega))]
      rcases q5 with ⟨q5, _⟩ | ⟨_, q6⟩
      · omega
      · rw [ek] at q6
        exact ⟨g1, w1, rfl, q6, q2, q4⟩
theorem mends7 {n : Nat} (h1 : 1 ≤ n) (h4 : n ≤ 4) (R : RV w c) (B : BI c) (P : PR g pl ba) (Q : PB pl ba) (hn : n ≤ SN c) : MRES pl ba n c g w (s_X7_mends 0 (I n) g w) := by
  obtain ⟨A, hA, hA2, eA⟩ := mends4 (g := g) h4 R B hn
  rw [eA]
  exact mends44 h1 h4 hn B P Q hA hA2 FU 0 (gI g 7 0 14 (-1)) (wa 6 8 w) (Nat.zero_le _) (rv_wa R) (as_wa R) (fq_trans (fq_7 (by decide)) fq_wa) (Or.inl ⟨rfl, by rw [gI_at, if_pos ⟨rfl, rfl, rfl⟩]⟩) (by show 17 - 0 < 1000; omega)
end
