/-! a storm -/
noncomputable def stS (a b s : Nat) (c : Nat → Int64) : Nat → Int64 :=
  @ite _ ((s < SN c ∧ JOB c s) ∧ SF c s 7 ≤ b ∧ a ≤ LAST c s) (Classical.propDecidable _)
    (cadd (ctake c s (MH c s a)) 69 (I (CNT c (SF c s 8) (SF c s 7 + SF c s 3 - BEG c s a))).toInt64) c
noncomputable def stN (a b s : Nat) (c : Nat → Int64) : Nat := @ite _ ((s < SN c ∧ JOB c s) ∧ SF c s 7 ≤ b ∧ a ≤ LAST c s) (Classical.propDecidable _) 1 0
noncomputable def cT (a b : Nat) (c : Nat → Int64) : Nat → (Nat → Int64)
  | 0 => c
  | s + 1 => stS a b s (cT a b c s)
noncomputable def tN (a b : Nat) (c : Nat → Int64) : Nat → Nat
  | 0 => 0
  | s + 1 => tN a b c s + stN a b s (cT a b c s)
def cS (c : Nat → Int64) (x : Int64) : Nat → Int64 := fun k => if k = 63 then x else c k
section
variable {g g' g'' : Nat → Nat → Nat → Int32} {w w' w'' : Nat → Nat → Nat → Int64} {hb : Nat} {c c' : Nat → Int64} {pl ba : Nat → Nat}
theorem cS_o {x : Int64} {k : Nat} (h : k ≠ 63) : cS c x k = c k := if_neg h
theorem cS_63 {x : Int64} : cS c x 63 = x := if_pos rfl
theorem cS_nf {x : Int64} {k : Nat} (h : k ≠ 63) : nf (cS c x) k = nf c k := by unfold nf; rw [cS_o h]
theorem cS_sf {x : Int64} (s j : Nat) : SF (cS c x) s j = SF c s j := cS_nf (by omega)
theorem cS_hr {x : Int64} (s : Nat) : HR (cS c x) s = HR c s := by unfold HR; rw [cS_o (by omega)]
theorem cS_job {x : Int64} (s : Nat) : JOB (cS c x) s = JOB c s := by unfold JOB; rw [cS_hr]
theorem cS_tn {x : Int64} : TN (cS c x) = TN c := cS_nf (by omega)
theorem cS_sn {x : Int64} : SN (cS c x) = SN c := cS_nf (by omega)
theorem cS_same {x : Int64} : SAME c (cS c x) := fun k q => cS_o (by unfold jk at q; omega)
theorem cS_bi (B : BI c) {x : Int64} (hx : b48 x) : BI (cS c x) := by
  refine bi_mk B cS_same (by rw [cS_63]; exact hx) (fun t ht => ⟨?_, ?_, ?_⟩) (fun s hs => ?_) (fun s hs hJ t ht hb k k1 k2 => ?_) (fun s1 s2 q1 q2 hne j1 j2 t ht b1 b2 => ?_)
  · unfold rb; rw [cS_o (by omega)]; exact (bt B ht).2.2.2.2.2.2.2.1
  · show b48 (cS c x (70 + 10 * t + 8)); rw [cS_o (by omega)]; exact (bt B ht).2.2.2.2.2.2.2.2.2.1
  · show b48 (cS c x (70 + 10 * t + 9)); rw [cS_o (by omega)]; exact (bt B ht).2.2.2.2.2.2.2.2.2.2
  · rw [cS_sf, cS_hr]; unfold rb; rw [cS_o (by omega)]; exact (bs B hs).2.2.2.2.2.2.2
  · rw [cS_sf] at hb k1 k2
    show tb (cS c x (70 + 10 * t + 8)) k = true
    rw [cS_o (by omega)]
    exact B.2.2.2.2.2.1 s hs (by rw [cS_job] at hJ; exact hJ) t ht hb k k1 k2
  · rw [cS_sf] at b1 b2
    rw [cS_sf, cS_sf]
    rw [cS_job] at j1 j2
    exact B.2.2.2.2.2.2 s1 s2 q1 q2 hne j1 j2 t ht b1 b2
theorem cS_hb (H : HB g w hb c) {x : Int64} : HB g (wL w 1 hb 8 x) hb (cS c x) := by
  refine ⟨⟨fun x hx => ?_, fun x hx => ?_, fun j hj => ?_, fun j hj => ?_, fun t ht j hj => ?_, fun s' hs' j hj => ?_⟩, ?_, fun t ht => ⟨?_, ?_, ?_⟩, fun t q1 q2 => ?_, fun s' hs' => ⟨?_, ?_⟩, fun s' q1 q2 => ?_⟩
  · rw [cS_o (by omega)]; exact H.1.1 x hx
  · rw [cS_o (by omega)]; exact H.1.2.1 x hx
  · rw [cS_o (by omega)]; exact H.1.2.2.1 j hj
  · rw [cS_o (by omega)]; exact H.1.2.2.2.1 j hj
  · rw [cS_o (by omega)]; exact H.1.2.2.2.2.1 t ht j hj
  · rw [cS_o (by omega)]; exact H.1.2.2.2.2.2 s' hs' j hj
  · rw [cS_63, wL_at, if_pos ⟨rfl, rfl, rfl⟩]
  · rw [cS_tn] at ht
    rw [show TF (cS c x) t 7 = TF c t 7 from cS_nf (by omega)]
    exact (H.2.2.1 t ht).1
  · rw [cS_tn] at ht
    rw [wL_at, if_neg (by omega), (H.2.2.1 t ht).2.1]
    exact (cS_o (k := 70 + 10 * t + 8) (by omega)).symm
  · rw [cS_tn] at ht
    rw [wL_at, if_neg (by omega), (H.2.2.1 t ht).2.2]
    exact (cS_o (k := 70 + 10 * t + 9) (by omega)).symm
  · rw [cS_tn] at q1
    rw [wL_at, if_neg (by omega)]
    exact H.2.2.2.1 t q1 q2
  · rw [cS_sn] at hs'; rw [cS_hr]; exact (H.2.2.2.2.1 s' hs').1
  · rw [cS_sn] at hs'; rw [cS_sf]; exact (H.2.2.2.2.1 s' hs').2
  · rw [cS_sn] at q1; exact H.2.2.2.2.2 s' q1 q2
theorem cS_mh {x : Int64} (s f : Nat) : MH (cS c x) s f = MH c s f := by unfold MH; rw [cS_sf, cS_sf]
theorem cS_beg {x : Int64} (s f : Nat) : BEG (cS c x) s f = BEG c s f := by unfold BEG; rw [cS_sf]
theorem cS_cnt {x : Int64} (S n : Nat) : CNT (cS c x) S n = CNT c S n := by unfold CNT; rw [cS_tn]
theorem cS_last {x : Int64} (s : Nat) : LAST (cS c x) s = LAST c s := by unfold LAST; rw [cS_sf, cS_sf]
theorem cS_take {x : Int64} (s : Nat) (m : Int64) : ctake (cS c x) s m = cS (ctake c s m) x := by
  funext k
  by_cases e : k = 63
  · subst e
    rw [ctake_o (by omega) (by omega) (by omega), cS_63, cS_63]
  · rw [cS_o e]
    unfold ctake csh cwk
    rw [cS_sf, cS_o e]
theorem cS_add {x y : Int64} {j : Nat} (hj : j ≠ 63) : cadd (cS c x) j y = cS (cadd c j y) x := by
  funext k
  unfold cadd cS
  by_cases e : k = 63
  · subst e
    rw [if_neg (by omega), if_pos rfl, if_pos rfl]
  · rw [if_neg e, if_neg e]
theorem stS_no {a b s : Nat} (q : ¬ ((s < SN c ∧ JOB c s) ∧ SF c s 7 ≤ b ∧ a ≤ LAST c s)) : stS a b s c = c := if_neg q
theorem stS_yes {a b s : Nat} (q : (s < SN c ∧ JOB c s) ∧ SF c s 7 ≤ b ∧ a ≤ LAST c s) : stS a b s c = cadd (ctake c s (MH c s a)) 69 (I (CNT c (SF c s 8) (SF c s 7 + SF c s 3 - BEG c s a))).toInt64 := if_pos q
theorem stN_no {a b s : Nat} (q : ¬ ((s < SN c ∧ JOB c s) ∧ SF c s 7 ≤ b ∧ a ≤ LAST c s)) : stN a b s c = 0 := if_neg q
theorem stN_yes {a b s : Nat} (q : (s < SN c ∧ JOB c s) ∧ SF c s 7 ≤ b ∧ a ≤ LAST c s) : stN a b s c = 1 := if_pos q
theorem stS_S {a b s : Nat} {x : Int64} : stS a b s (cS c x) = cS (stS a b s c) x ∧ stN a b s (cS c x) = stN a b s c := by
  have e : ((s < SN (cS c x) ∧ JOB (cS c x) s) ∧ SF (cS c x) s 7 ≤ b ∧ a ≤ LAST (cS c x) s) ↔ ((s < SN c ∧ JOB c s) ∧ SF c s 7 ≤ b ∧ a ≤ LAST c s) := by
    rw [cS_sn, cS_job, cS_sf, cS_last]
  by_cases q : (s < SN c ∧ JOB c s) ∧ SF c s 7 ≤ b ∧ a ≤ LAST c s
  · constructor
    · rw [stS_yes q, stS_yes (e.mpr q), cS_mh, cS_sf, cS_sf, cS_sf, cS_beg, cS_cnt, cS_take, cS_add (by decide)]
    · rw [stN_yes q, stN_yes (e.mpr q)]
  · constructor
    · rw [stS_no q, stS_no (fun p => q (e.mp p))]
    · rw [stN_no q, stN_no (fun p => q (e.mp p))]
theorem cT_S {a b : Nat} {x : Int64} : ∀ k, cT a b (cS c x) k = cS (cT a b c k) x ∧ tN a b (cS c x) k = tN a b c k
  | 0 => ⟨rfl, rfl⟩
  | k + 1 => by
    have ih := cT_S (a := a) (b := b) (x := x) k
    constructor
    · show stS a b k (cT a b (cS c x) k) = cS (stS a b k (cT a b c k)) x
      rw [ih.1]; exact stS_S.1
    · show tN a b (cS c x) k + stN a b k (cT a b (cS c x) k) = tN a b c k + stN a b k (cT a b c k)
      rw [ih.1, ih.2, stS_S.2]
theorem stS_same {a b s : Nat} (hs : s < 8) : SAME c (stS a b s c) := by
  by_cases q : (s < SN c ∧ JOB c s) ∧ SF c s 7 ≤ b ∧ a ≤ LAST c s
  · rw [stS_yes q]; exact same_trans (ctake_same hs) (eqx_same (eqx_add (by decide) (by decide)))
  · rw [stS_no q]; exact fun _ _ => rfl
theorem stS_bi {a b s : Nat} (B : BI c) : BI (stS a b s c) := by
  by_cases q : (s < SN c ∧ JOB c s) ∧ SF c s 7 ≤ b ∧ a ≤ LAST c s
  · rw [stS_yes q]
    exact eqx_bi (bi_take B q.1.1 q.1.2 (fun j hj => mh_in (by have := last_lt B q.1.1 q.1.2; omega) j hj)) (eqx_add (by decide) (by decide))
  · rw [stS_no q]; exact B
theorem cT_same {a b : Nat} : ∀ {k : Nat}, k ≤ 8 → SAME c (cT a b c k)
  | 0, _ => fun _ _ => rfl
  | k + 1, hk => same_trans (cT_same (k := k) (by omega)) (stS_same (by omega))
theorem cT_bi {a b : Nat} (B : BI c) : ∀ k, BI (cT a b c k)
  | 0 => B
  | k + 1 => stS_bi (cT_bi B k)
theorem cT_stop {a b : Nat} : ∀ {k : Nat}, SN c ≤ k → k ≤ 8 → cT a b c k = cT a b c (SN c) ∧ tN a b c k = tN a b c (SN c)
  | 0, h1, _ => by have : SN c = 0 := by omega
                   rw [this]; exact ⟨rfl, rfl⟩
  | k + 1, h1, h2 => by
    by_cases e : SN c = k + 1
    · rw [e]; exact ⟨rfl, rfl⟩
    · have ih := cT_stop (a := a) (b := b) (k := k) (by omega) (by omega)
      have no : ¬ ((k < SN (cT a b c k) ∧ JOB (cT a b c k) k) ∧ SF (cT a b c k) k 7 ≤ b ∧ a ≤ LAST (cT a b c k) k) := fun q => by
        have := q.1.1
        rw [same_sn (cT_same (by omega))] at this
        omega
      constructor
      · show stS a b k (cT a b c k) = _
        rw [stS_no no]; exact ih.1
      · show tN a b c k + stN a b k (cT a b c k) = _
        rw [stN_no no]; exact ih.2
theorem cT_63 {a b : Nat} : ∀ k, k ≤ 8 → cT a b c k 63 = c 63 ∧ cT a b c k 67 = c 67
  | 0, _ => ⟨rfl, rfl⟩
  | k + 1, hk => by
    have ih := cT_63 (a := a) (b := b) k (by omega)
    show stS a b k (cT a b c k) 63 = _ ∧ stS a b k (cT a b c k) 67 = _
    by_cases q : (k < SN (cT a b c k) ∧ JOB (cT a b c k) k) ∧ SF (cT a b c k) k 7 ≤ b ∧ a ≤ LAST (cT a b c k) k
    · rw [stS_yes q]
      exact ⟨((eqx_add (j := 69) (by decide) (by decide) 63 (by omega)).trans (ctake_o (by omega) (by omega) (by omega))).trans ih.1, ((if_neg (by decide) : cadd _ 69 _ 67 = _).trans (ctake_o (by omega) (by omega) (by omega))).trans ih.2⟩
    · rw [stS_no q]; exact ih
theorem hh_meet {p q a b : Nat} (h1 : p < q) (h2 : q < 64) (h3 : a < b) (h4 : b < 64) : HH p q &&& HH a b = 0 ↔ ¬ (p < b ∧ a < q) := by
  rw [and_0]
  constructor
  · rintro h ⟨q1, q2⟩
    refine h (if p ≤ a then a else p) (by split <;> omega) ?_ ?_
    · rw [tb_HH (by omega) h2]; exact decide_eq_true (by split <;> omega)
    · rw [tb_HH (by omega) h4]; exact decide_eq_true (by split <;> omega)
  · intro h k hk r1 r2
    rw [tb_HH (by omega) h2] at r1
    rw [tb_HH (by omega) h4] at r2
    have := of_decide_eq_true r1
    have := of_decide_eq_true r2
    exact h ⟨by omega, by omega⟩
theorem hh_cut {a b : Nat} (h : a ≤ b) (hb : b < 64) : HH 0 b &&& (HH 0 a ^^^ -1) = HH a b := tb_ext (fun k hk => by
  rw [tb_and, tb_not _ hk, tb_HH (by omega) hb, tb_HH (by omega) (by omega), tb_HH h hb]
  by_cases e1 : k < b <;> by_cases e2 : k < a <;> simp [e1, e2] <;> omega)
theorem hh48 {a b : Nat} (h : a ≤ b) (hb : b ≤ 48) : b48 (HH a b) := fun k hk => by
  rw [tb_HH h (by omega)]; exact decide_eq_false (by omega)
/-- the program's loop over the ships -/
theorem blow43 (H : HB g w hb c) (B : BI c) {a b : Nat} (hab : a ≤ b) (hb47 : b ≤ 47) (e4 : g 1 hb 14 = (c 69).toInt32) :
    ∃ g' w', s_X1_blow_R43 hb (I a) (I b) FU (HH a (b + 1)) 0 0 g w = some (I (tN a b c 8), g', w') ∧ HB g' w' hb (cT a b c 8) ∧ FD hb g w g' w' ∧ g' 1 hb 11 = g 1 hb 11 ∧ g' 1 hb 12 = g 1 hb 12 + I (tN a b c 8) ∧ g' 1 hb 13 = g 1 hb 13 ∧ g' 1 hb 14 = (cT a b c 8 69).toInt32 := by
  have key : ∀ (n k : Nat) (g1 : Nat → Nat → Nat → Int32) (w1 : Nat → Nat → Nat → Int64), k ≤ 8 → HB g1 w1 hb (cT a b c k) → FD hb g w g1 w1 → g1 1 hb 11 = g 1 hb 11 → g1 1 hb 12 = g 1 hb 12 + I (tN a b c k) → g1 1 hb 13 = g 1 hb 13 → g1 1 hb 14 = (cT a b c k 69).toInt32 → 9 - k < n →
      ∃ g' w', s_X1_blow_R43 hb (I a) (I b) n (HH a (b + 1)) (I (tN a b c k)) (I k) g1 w1 = some (I (tN a b c 8), g', w') ∧ HB g' w' hb (cT a b c 8) ∧ FD hb g w g' w' ∧ g' 1 hb 11 = g 1 hb 11 ∧ g' 1 hb 12 = g 1 hb 12 + I (tN a b c 8) ∧ g' 1 hb 13 = g 1 hb 13 ∧ g' 1 hb 14 = (cT a b c 8 69).toInt32 := by
    intro n
    induction n with
    | zero => intro k g1 w1 _ _ _ _ _ _ _ hm; omega
    | succ n ih =>
      intro k g1 w1 h1 h2 h3 h4 h5 h6 h7 hm
      have Bk := cT_bi (a := a) (b := b) B k
      show ∃ g' w', s_X1_blow_43 hb (I a) (I b) (s_X1_blow_R43 hb (I a) (I b) n) (HH a (b + 1)) (I (tN a b c k)) (I k) g1 w1 = _ ∧ _
      unfold s_X1_blow_43 s_X1_blow_96
      rw [I_suc, I_suc]
      by_cases hk : k < 8
      · rw [if_neg (show ¬ (8 : Int32) ≤ I k from nle (a := 8) hk (by decide)), if_pos (inR_I (k := k) (n := 8) hk (by decide)), I_tn (by omega)]
        have skip : ¬ ((k < SN (cT a b c k) ∧ JOB (cT a b c k) k) ∧ SF (cT a b c k) k 7 ≤ b ∧ a ≤ LAST (cT a b c k) k) → ∃ g' w', s_X1_blow_R43 hb (I a) (I b) n (HH a (b + 1)) (I (tN a b c k)) (I (k + 1)) g1 w1 = some (I (tN a b c 8), g', w') ∧ HB g' w' hb (cT a b c 8) ∧ FD hb g w g' w' ∧ g' 1 hb 11 = g 1 hb 11 ∧ g' 1 hb 12 = g 1 hb 12 + I (tN a b c 8) ∧ g' 1 hb 13 = g 1 hb 13 ∧ g' 1 hb 14 = (cT a b c 8 69).toInt32 := fun no => by
          have en : tN a b c (k + 1) = tN a b c k := by show tN a b c k + stN a b k (cT a b c k) = _; rw [stN_no no]; rfl
          have ec : cT a b c (k + 1) = cT a b c k := stS_no no
          have := ih (k + 1) g1 w1 (by omega) (by rw [ec]; exact h2) h3 h4 (by rw [en]; exact h5) h6 (by rw [ec]; exact h7) (by omega)
          rw [en] at this
          exact this
        by_cases hJ : k < SN (cT a b c k) ∧ JOB (cT a b c k) k
        · have ll := last_lt Bk hJ.1 hJ.2
          rw [jobHours6 h2 Bk hJ.1 hJ.2]
          have hm2 := hh_meet (p := SF (cT a b c k) k 7) (q := SF (cT a b c k) k 7 + SF (cT a b c k) k 3) (a := a) (b := b + 1) (by omega) (by omega) (by omega) (by omega)
          by_cases hM : SF (cT a b c k) k 7 < b + 1 ∧ a < SF (cT a b c k) k 7 + SF (cT a b c k) k 3
          · have yes : (k < SN (cT a b c k) ∧ JOB (cT a b c k) k) ∧ SF (cT a b c k) k 7 ≤ b ∧ a ≤ LAST (cT a b c k) k := ⟨hJ, by omega, by omega⟩
            rw [if_neg (fun q => hm2.mp ((lg0 _).mp q) hM), c_hour h2 Bk hJ.1 hJ.2]
            have ef : (if I a < I (SF (cT a b c k) k 7) then I (SF (cT a b c k) k 7) else I a) = I (if a < SF (cT a b c k) k 7 then SF (cT a b c k) k 7 else a) := by
              by_cases e : a < SF (cT a b c k) k 7
              · rw [if_pos e, if_pos (ilt e (by omega))]
              · rw [if_neg e, if_neg (nlt (by omega) (by omega))]
            have eb : BEG (cT a b c k) k (if a < SF (cT a b c k) k 7 then SF (cT a b c k) k 7 else a) = BEG (cT a b c k) k a := by
              unfold BEG
              by_cases e : a < SF (cT a b c k) k 7
              · rw [if_pos e, if_pos (Nat.le_refl _), if_pos (by omega)]
              · rw [if_neg e]
            have hf : (if a < SF (cT a b c k) k 7 then SF (cT a b c k) k 7 else a) ≤ SF (cT a b c k) k 7 + SF (cT a b c k) k 3 := by split <;> omega
            have em : MH (cT a b c k) k (if a < SF (cT a b c k) k 7 then SF (cT a b c k) k 7 else a) = MH (cT a b c k) k a := by
              rw [mh_eq (by omega) hf, mh_eq (by omega) (by omega), eb]
            rw [ef, takeOff_e h2 Bk hJ.1 hJ.2 hf, eb, em]
            have go : ∀ j, 11 ≤ j → gI (pg (8 * hb + k) (-4) (I 0) g1) 1 hb 12 (g1 1 hb 12 + 1) 1 hb j = if j = 12 then g1 1 hb 12 + 1 else g1 1 hb j := fun j hj => by
              rw [gI_at]
              by_cases e : j = 12
              · rw [if_pos ⟨rfl, rfl, e⟩, if_pos e]
              · rw [if_neg (by omega), if_neg e]
                unfold pg; rw [gI_at, if_neg (by omega), gI_at, if_neg (by omega)]
            have en : tN a b c (k + 1) = tN a b c k + 1 := by show tN a b c k + stN a b k (cT a b c k) = _; rw [stN_yes yes]
            have ec : cT a b c (k + 1) = _ := stS_yes yes
            have t6 := tn6 (bi_take Bk (m := MH (cT a b c k) k a) hJ.1 hJ.2 (fun j hj => mh_in (by omega) j hj))
            have s8 := sn8 (bi_take Bk (m := MH (cT a b c k) k a) hJ.1 hJ.2 (fun j hj => mh_in (by omega) j hj))
            have := ih (k + 1) (gI (gI (pg (8 * hb + k) (-4) (I 0) g1) 1 hb 12 (g1 1 hb 12 + 1)) 1 hb 14 (g1 1 hb 14 + I (CNT (cT a b c k) (SF (cT a b c k) k 8) (SF (cT a b c k) k 7 + SF (cT a b c k) k 3 - BEG (cT a b c k) k a)))) (w5 hb (frel (SF (cT a b c k) k 8) (MH (cT a b c k) k a)) 6 w1) (by omega)
              (by rw [ec]; exact eqx_hb (hb_1 (hb_1 (hb_take h2 Bk hJ.1 hJ.2) t6 s8 (by decide)) t6 s8 (by decide)) (eqx_add (by decide) (by decide)))
              (fd_trans h3 (fd_trans (fd_pg hk) (fd_trans (fd_1 (by decide)) (fd_trans (fd_1 (by decide)) fd_w5))))
              (by rw [gI_at, if_neg (by omega)]; exact ((go 11 (by decide)).trans (if_neg (by decide))).trans h4)
              (by rw [gI_at, if_neg (by omega), go 12 (by decide), if_pos rfl, h5, en, Int32.add_assoc]; exact congrArg _ (I_add _ 1))
              (by rw [gI_at, if_neg (by omega)]; exact ((go 13 (by decide)).trans (if_neg (by decide))).trans h6)
              (by rw [gI_at, if_pos ⟨rfl, rfl, rfl⟩, ec, cadd_at, t32_add, h7, ctake_o (by omega) (by omega) (by omega)])
              (by omega)
            rw [en] at this
            exact this
          · rw [if_pos ((lg0 _).mpr (hm2.mpr hM))]
            exact skip (fun q => hM ⟨by omega, by omega⟩)
        · have e0 : s_X4_jobHours (8 * hb + k) g1 w1 = 0 := by
            unfold s_X4_jobHours s_X4_jobHours_19
            rw [if_neg (fun q => hJ ((hasJob6 h2 Bk hk).mp q))]
          have ez : (0 : Int64) &&& HH a (b + 1) = 0 := and_0.mpr (fun j _ q _ => by rw [tb_0] at q; cases q)
          rw [e0, if_pos ((lg0 _).mpr ez)]
          exact skip (fun q => hJ q.1)
      · have e : k = 8 := by omega
        subst e
        rw [if_pos (show (8 : Int32) ≤ I 8 by decide)]
        exact ⟨g1, w1, rfl, h2, h3, h4, h5, h6, h7⟩
  exact key FU 0 g w (by decide) H fd_refl rfl (Int32.add_zero _).symm rfl e4 (by decide)
theorem blow6 (H : HB g w hb c) (hb0 : hb = 0) (B : BI c) {a b : Nat} (hab : a ≤ b) (hb47 : b ≤ 47) (e4 : g 1 hb 14 = (c 69).toInt32) :
    ∃ g' w', s_X1_blow hb (I a) (I b) g w = some (I (tN a b c 8), g', w') ∧ HB g' w' hb (cadd (cS (cT a b c 8) (c 63 ||| HH a (b + 1))) 67 (I (tN a b c 8)).toInt64) ∧ FD hb g w g' w' ∧ g' 1 hb 11 = g 1 hb 11 ∧ g' 1 hb 12 = g 1 hb 12 + I (tN a b c 8) ∧ g' 1 hb 13 = g 1 hb 13 ∧ g' 1 hb 14 = (cT a b c 8 69).toInt32 := by
  subst hb0
  have em : s_X6_hoursAhead (I b + 1) g w &&& (s_X6_hoursAhead (I a) g w ^^^ -1) = HH a (b + 1) := by
    rw [I_suc, ahead6 (by omega), ahead6 (by omega), hh_cut (by omega) (by omega)]
  unfold s_X1_blow
  rw [em, show w 1 0 8 = c 63 from H.2.1]
  have B' := cS_bi B (x := c 63 ||| HH a (b + 1)) (or48 B.1.2.2.2.2.2 (hh48 (by omega) (by omega)))
  obtain ⟨g', w', q1, q2, q3, q4, q5, q6, q7⟩ := blow43 (cS_hb H (x := c 63 ||| HH a (b + 1))) B' hab hb47 (e4.trans (congrArg _ (cS_o (by decide)).symm))
  rw [(cT_S 8).1] at q2 q7
  rw [(cT_S 8).2] at q1 q5
  exact ⟨g', w', q1, eqx_hb q2 (eqx_add (by decide) (by decide)), fd_trans ⟨fun _ _ _ _ => rfl, fun F i j q => by rw [wL_at, if_neg (by omega)]⟩ q3, q4, q5, q6, q7.trans (congrArg _ (cS_o (by decide)))⟩
/-- the reference -/
theorem storm7 (R : RV w c) (B : BI c) {a b : Nat} (hab : a ≤ b) (hb47 : b ≤ 47) :
    ∃ w', s_X7_storm_R26 0 (I a) (I b) FU 0 0 g w = some (I (tN a b c (SN c)), g, w') ∧ RV w' (cadd (cS (cT a b c (SN c)) (c 63 ||| HH a (b + 1))) 67 (I (tN a b c (SN c))).toInt64) ∧ FRW w w' := by
  have e8 := sn8 B
  have key : ∀ (n k : Nat) (w1 : Nat → Nat → Nat → Int64), k ≤ SN c → RV w1 (cT a b c k) → FRW w w1 → 9 - k < n →
      ∃ w', s_X7_storm_R26 0 (I a) (I b) n (I (tN a b c k)) (I k) g w1 = some (I (tN a b c (SN c)), g, w') ∧ RV w' (cadd (cS (cT a b c (SN c)) (c 63 ||| HH a (b + 1))) 67 (I (tN a b c (SN c))).toInt64) ∧ FRW w w' := by
    intro n
    induction n with
    | zero => intro k w1 _ _ _ hm; omega
    | succ n ih =>
      intro k w1 h1 h2 h3 hm
      have Bk := cT_bi (a := a) (b := b) B k
      have hsn : SN (cT a b c k) = SN c := same_sn (cT_same (by omega))
      show ∃ w', s_X7_storm_26 0 (I a) (I b) (s_X7_storm_R26 0 (I a) (I b) n) (I (tN a b c k)) (I k) g w1 = _ ∧ _
      unfold s_X7_storm_26 s_X7_storm_92
      rw [I_suc, I_suc, I_suc, n67, n69, n63]
      by_cases hk : k < SN c
      · rw [if_neg (fun q => by have := (endS h2 Bk (k := k) (by omega)).mp q; omega)]
        obtain ⟨b1, eb, hbb⟩ := r_hasJob (g := g) h2 Bk (s := k) (by omega)
        rw [eb]
        show ∃ w', (if b1 = true then _ else _) = some (I (tN a b c (SN c)), g, w') ∧ _
        have skip : ¬ ((k < SN (cT a b c k) ∧ JOB (cT a b c k) k) ∧ SF (cT a b c k) k 7 ≤ b ∧ a ≤ LAST (cT a b c k) k) → ∃ w', s_X7_storm_R26 0 (I a) (I b) n (I (tN a b c k)) (I (k + 1)) g w1 = some (I (tN a b c (SN c)), g, w') ∧ RV w' (cadd (cS (cT a b c (SN c)) (c 63 ||| HH a (b + 1))) 67 (I (tN a b c (SN c))).toInt64) ∧ FRW w w' := fun no => by
          have en : tN a b c (k + 1) = tN a b c k := by show tN a b c k + stN a b k (cT a b c k) = _; rw [stN_no no]; rfl
          have := ih (k + 1) w1 (by omega) (by rw [show cT a b c (k + 1) = cT a b c k from stS_no no]; exact h2) h3 (by omega)
          rw [en] at this
          exact this
        by_cases e : b1 = true
        · have hJ := hbb.mp e
          have hs : k < SN (cT a b c k) := by omega
          have ll := last_lt Bk hs hJ
          rw [if_pos e, show s_X7_ofShip 0 (I k) 7 g w1 = _ from r_hour h2 Bk hs hJ]
          show ∃ w', (if I b < I (SF (cT a b c k) k 7) then _ else _) = some (I (tN a b c (SN c)), g, w') ∧ _
          by_cases e1 : SF (cT a b c k) k 7 ≤ b
          · rw [if_neg (nlt e1 (by omega)), last7 h2 Bk hs hJ]
            show ∃ w', (if I (LAST (cT a b c k) k) < I a then _ else _) = some (I (tN a b c (SN c)), g, w') ∧ _
            by_cases e2 : a ≤ LAST (cT a b c k) k
            · have yes : (k < SN (cT a b c k) ∧ JOB (cT a b c k) k) ∧ SF (cT a b c k) k 7 ≤ b ∧ a ≤ LAST (cT a b c k) k := ⟨⟨hs, hJ⟩, e1, e2⟩
              rw [if_neg (nlt e2 (by omega)), takes_e h2 Bk hs hJ (f := a) (by omega)]
              have := ih (k + 1) _ (by omega) (by rw [show cT a b c (k + 1) = _ from stS_yes yes]; exact rv_add (rv_take h2 Bk hs hJ) rfl) (frw_trans h3 (frw_trans (frw_trans (frw_fp (g := g) (g' := g) (fp_wr (tn6 Bk))) (frw_fp (g := g) (g' := g) (fp_wj (by omega)))) frw_L)) (by omega)
              rw [show tN a b c (k + 1) = tN a b c k + 1 from by show tN a b c k + stN a b k (cT a b c k) = _; rw [stN_yes yes], ctake_o (k := 69) (by omega) (by omega) (by omega), ← h2 69 (by decide)] at this
              exact this
            · rw [if_pos (ilt (by omega) (by omega))]
              exact skip (fun q => e2 q.2.2)
          · rw [if_pos (ilt (by omega) (by omega))]
            exact skip (fun q => e1 q.2.1)
        · rw [if_neg e]
          exact skip (fun q => e (hbb.mpr q.1.2))
      · have e : k = SN c := by omega
        subst e
        rw [if_pos ((endS h2 Bk (k := SN c) (by omega)).mpr (by omega)), hours7 (by omega) (by omega)]
        refine ⟨_, rfl, rv_add (fun j hj => ?_) ?_, frw_trans h3 (frw_trans frw_L frw_L)⟩
        · rw [wL_at]
          by_cases e : j = 63
          · subst e
            rw [if_pos ⟨rfl, rfl, rfl⟩, cS_63, h2 63 (by decide), (cT_63 _ (by omega)).1]
          · rw [if_neg (by omega), cS_o e, h2 j hj]
        · rw [wL_at, if_neg (by omega), h2 67 (by decide), cS_o (by decide)]
  exact key FU 0 w (by omega) R frw_refl (by show 9 - 0 < 1000; omega)
end
