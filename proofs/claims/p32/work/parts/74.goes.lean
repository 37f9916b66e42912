/-! a tug breaks down: whether a job goes on without it -/
def CLR (S t : Nat) : Nat := S - (S &&& 2 ^ t)
theorem clr_all : ∀ S, S < 64 → ∀ t, t < 8 → ∀ i, i < 8 → (CLR S t).testBit i = (S.testBit i && decide (i ≠ t)) := by decide +kernel
theorem clr_le (S t : Nat) : CLR S t ≤ S := Nat.sub_le _ _
theorem clr64 : ∀ S, S < 64 → ∀ t, t < 8 → (I S).toInt64 &&& (((1 : Int64) <<< ((I t).toInt64 &&& 63)) ^^^ (-1 : Int64)) = (I (CLR S t)).toInt64 := by decide +kernel
def GOES (c : Nat → Int64) (s t h : Nat) : Prop := SF c s 7 < h ∧ CLR (SF c s 8) t ≠ 0 ∧ ENOUGH c s h (LAST c s + 1) (2 * PULL c (CLR (SF c s 8) t))
/-- blocks that are alike outside the counts -/
def EQX (c c' : Nat → Int64) : Prop := ∀ k, ¬ (66 ≤ k ∧ k < 70) → c' k = c k
def cadd (c : Nat → Int64) (j : Nat) (x : Int64) : Nat → Int64 := fun k => if k = j then c k + x else c k
section
variable {g g' g'' : Nat → Nat → Nat → Int32} {w w' w'' : Nat → Nat → Nat → Int64} {hb : Nat} {c c' : Nat → Int64} {pl ba : Nat → Nat}
theorem eqx_nf (h : EQX c c') {k : Nat} (hk : ¬ (66 ≤ k ∧ k < 70)) : nf c' k = nf c k := by unfold nf; rw [h k hk]
theorem eqx_sf (h : EQX c c') (s j : Nat) : SF c' s j = SF c s j := eqx_nf h (by omega)
theorem eqx_tf (h : EQX c c') (t j : Nat) : TF c' t j = TF c t j := eqx_nf h (by omega)
theorem eqx_wk (h : EQX c c') (t : Nat) : WK c' t = WK c t := h _ (by omega)
theorem eqx_bn (h : EQX c c') (t : Nat) : BN c' t = BN c t := h _ (by omega)
theorem eqx_hr (h : EQX c c') (s : Nat) : HR c' s = HR c s := by unfold HR; rw [h _ (by omega)]
theorem eqx_tn (h : EQX c c') : TN c' = TN c := eqx_nf h (by omega)
theorem eqx_sn (h : EQX c c') : SN c' = SN c := eqx_nf h (by omega)
theorem eqx_job (h : EQX c c') (s : Nat) : JOB c' s ↔ JOB c s := by unfold JOB; rw [eqx_hr h]
theorem eqx_same (h : EQX c c') : SAME c c' := fun k q => h k (by unfold jk at q; omega)
theorem eqx_bi (B : BI c) (h : EQX c c') : BI c' := by
  refine bi_mk B (eqx_same h) ?_ (fun t ht => ⟨?_, ?_, ?_⟩) (fun s hs => ?_) (fun s hs hJ t ht hb k k1 k2 => ?_) (fun s1 s2 q1 q2 hne j1 j2 t ht b1 b2 => ?_)
  · rw [h _ (by omega)]; exact B.1.2.2.2.2.2
  · unfold rb; rw [h _ (by omega)]; exact (bt B ht).2.2.2.2.2.2.2.1
  · rw [eqx_wk h]; exact (bt B ht).2.2.2.2.2.2.2.2.2.1
  · rw [eqx_bn h]; exact (bt B ht).2.2.2.2.2.2.2.2.2.2
  · rw [eqx_sf h, eqx_hr h]; unfold rb; rw [h _ (by omega)]; exact (bs B hs).2.2.2.2.2.2.2
  · rw [eqx_sf h] at hb k1 k2
    rw [eqx_wk h]
    exact B.2.2.2.2.2.1 s hs ((eqx_job h s).mp hJ) t ht hb k k1 k2
  · rw [eqx_sf h] at b1 b2
    rw [eqx_sf h, eqx_sf h]
    exact B.2.2.2.2.2.2 s1 s2 q1 q2 hne ((eqx_job h s1).mp j1) ((eqx_job h s2).mp j2) t ht b1 b2
theorem eqx_hb (H : HB g w hb c) (h : EQX c c') : HB g w hb c' := by
  refine ⟨⟨fun x hx => ?_, fun x hx => ?_, fun j hj => ?_, fun j hj => ?_, fun t ht j hj => ?_, fun s' hs' j hj => ?_⟩, ?_, fun t ht => ⟨?_, ?_, ?_⟩, fun t q1 q2 => ?_, fun s' hs' => ⟨?_, ?_⟩, fun s' q1 q2 => ?_⟩
  · rw [h _ (by omega)]; exact H.1.1 x hx
  · rw [h _ (by omega)]; exact H.1.2.1 x hx
  · rw [h _ (by omega)]; exact H.1.2.2.1 j hj
  · rw [h _ (by omega)]; exact H.1.2.2.2.1 j hj
  · rw [h _ (by omega)]; exact H.1.2.2.2.2.1 t ht j hj
  · rw [h _ (by omega)]; exact H.1.2.2.2.2.2 s' hs' j hj
  · rw [h _ (by omega)]; exact H.2.1
  · rw [eqx_tn h] at ht; rw [eqx_tf h]; exact (H.2.2.1 t ht).1
  · rw [eqx_tn h] at ht; rw [eqx_wk h]; exact (H.2.2.1 t ht).2.1
  · rw [eqx_tn h] at ht; rw [eqx_bn h]; exact (H.2.2.1 t ht).2.2
  · rw [eqx_tn h] at q1; exact H.2.2.2.1 t q1 q2
  · rw [eqx_sn h] at hs'; rw [eqx_hr h]; exact (H.2.2.2.2.1 s' hs').1
  · rw [eqx_sn h] at hs'; rw [eqx_sf h]; exact (H.2.2.2.2.1 s' hs').2
  · rw [eqx_sn h] at q1; exact H.2.2.2.2.2 s' q1 q2
theorem eqx_add {j : Nat} {x : Int64} (h1 : 66 ≤ j) (h2 : j < 70) : EQX c (cadd c j x) := fun k q => if_neg (by omega)
theorem cadd_at {j : Nat} {x : Int64} : cadd c j x j = c j + x := if_pos rfl
theorem rv_add (R : RV w c) {j : Nat} {x y : Int64} (e : y = c j + x) : RV (wL w 2218 0 j y) (cadd c j x) := fun k hk => by
  rw [wL_at]
  by_cases q : k = j
  · subst q
    rw [if_pos ⟨rfl, rfl, rfl⟩, cadd_at, e]
  · rw [if_neg (by omega), R k hk]
    exact (if_neg q).symm
theorem goes6 (H : HB g w hb c) (B : BI c) {s t h : Nat} (hs : s < SN c) (hJ : JOB c s) (ht : t < 8) (hh : h ≤ 47) : Ok (s_X1_goesOn hb (8 * hb + s) (I t) (I h) g w) (fun b => b = true ↔ GOES c s t h) := by
  rcases job_hr B hs with ⟨h', _⟩ | ⟨_, _, _, _, hS, _, hS6⟩
  · exact absurd hJ h'
  have ll := last_lt B hs hJ
  unfold s_X1_goesOn s_X1_goesOn_50 s_X1_goesOn_51
  rw [c_hour H B hs hJ, c_ship H B hs (j := 8) (by decide) (by decide), shl32 t ht, clr32 _ hS6 t ht, last6 H B hs hJ]
  show Ok (if I h ≤ I (SF c s 7) then some false else if I (CLR (SF c s 8) t) = 0 then some false else (s_X1_pullOf hb (I (CLR (SF c s 8) t)) g w).bind fun q1 => (s_X1_mostNeeded hb (8 * hb + s) (I h) (I (LAST c s)) g w).bind fun q2 => if (2 : Int32) * q1 < q2 then some false else some true) _
  by_cases e1 : SF c s 7 < h
  · rw [if_neg (nle e1 (by omega))]
    have cl := clr_le (SF c s 8) t
    by_cases e2 : CLR (SF c s 8) t = 0
    · rw [e2, if_pos (show I 0 = 0 from rfl)]
      exact ok_f (fun q => q.2.1 e2)
    · rw [if_neg (nz_I e2 (by omega)), pull6 H B (by omega)]
      obtain ⟨m, m1, m2, m3⟩ := most6 H B hs (a := h) (b := LAST c s) (by omega) (by omega)
      show Ok ((s_X1_mostNeeded hb (8 * hb + s) (I h) (I (LAST c s)) g w).bind fun q2 => if (2 : Int32) * I (PULL c (CLR (SF c s 8) t)) < q2 then some false else some true) _
      rw [m2]
      have hP := pull_le B (CLR (SF c s 8) t)
      show Ok (if I 2 * I (PULL c (CLR (SF c s 8) t)) < I m then some false else some true) _
      rw [I_mul]
      by_cases e3 : 2 * PULL c (CLR (SF c s 8) t) < m
      · rw [if_pos (ilt e3 (by omega))]
        exact ok_f (fun q => by have := (m3 _).mpr q.2.2; omega)
      · rw [if_neg (nlt (by omega) (by omega))]
        exact ok_t ⟨e1, e2, (m3 _).mp (by omega)⟩
  · rw [if_pos (ile (by omega) (by omega))]
    exact ok_f (fun q => e1 q.1)
theorem goes7 (R : RV w c) (B : BI c) {s t h : Nat} (hs : s < SN c) (hJ : JOB c s) (ht : t < 8) (hh : h ≤ 47) : Ok (s_X7_goesOn 0 (I s) (I t) (I h) g w) (fun b => b = true ↔ GOES c s t h) := by
  rcases job_hr B hs with ⟨h', _⟩ | ⟨_, _, _, _, hS, _, hS6⟩
  · exact absurd hJ h'
  have ll := last_lt B hs hJ
  have cl := clr_le (SF c s 8) t
  have hP := pull_le B (CLR (SF c s 8) t)
  have key : ∀ (n k : Nat) (v : Bool), h ≤ k → k ≤ 48 → 49 - k < n → Ok (s_X7_goesOn_R41 0 (I s) (I t) (I h) n (I (CLR (SF c s 8) t)) v (I k) g w) (fun b => b = true ↔ (v = true ∧ ∀ k', k ≤ k' → k' < LAST c s + 1 → NEED c s k' ≤ 2 * PULL c (CLR (SF c s 8) t))) := by
    intro n
    induction n with
    | zero => intro k v h1 h2 hm; omega
    | succ n ih =>
      intro k v h1 h2 hm
      show Ok (s_X7_goesOn_41 0 (I s) (I t) (I h) (s_X7_goesOn_R41 0 (I s) (I t) (I h) n) (I (CLR (SF c s 8) t)) v (I k) g w) _
      unfold s_X7_goesOn_41 s_X7_goesOn_78 s_X7_goesOn_79
      rw [last7 R B hs hJ, I_suc]
      show Ok (if I (LAST c s) < I k then some v else if v = true then _ else _) _
      by_cases e1 : LAST c s < k
      · rw [if_pos (ilt e1 (by omega))]
        exact ok_some ⟨fun q => ⟨q, fun k' p1 p2 => by omega⟩, fun q => q.1⟩
      · rw [if_neg (nlt (by omega) (by omega))]
        cases v with
        | false =>
          rw [if_neg (by decide)]
          exact ok_b ⟨fun q => absurd q.1 (by decide), fun q => absurd q.1 (by decide)⟩ (ih (k + 1) false (by omega) (by omega) (by omega))
        | true =>
          rw [if_pos rfl, pull7 R B (by omega), needs7 R B hs (k := k) (by omega)]
          have hN := need_le B hs (k := k) (by omega)
          show Ok (if I 2 * I (PULL c (CLR (SF c s 8) t)) < I (NEED c s k) then _ else _) _
          rw [I_mul]
          by_cases e3 : 2 * PULL c (CLR (SF c s 8) t) < NEED c s k
          · rw [if_pos (ilt e3 (by omega))]
            exact ok_b ⟨fun q => by have := q.2 k (Nat.le_refl _) (by omega); omega, fun q => absurd q.1 (by decide)⟩ (ih (k + 1) false (by omega) (by omega) (by omega))
          · rw [if_neg (nlt (by omega) (by omega))]
            refine ok_b ?_ (ih (k + 1) true (by omega) (by omega) (by omega))
            exact and_congr_right (fun _ => all_yes (k := k) (Q := fun k' => NEED c s k' ≤ 2 * PULL c (CLR (SF c s 8) t)) (fun _ => by omega))
  unfold s_X7_goesOn s_X7_goesOn_35 s_X7_goesOn_36
  rw [show s_X7_ofShip 0 (I s) 8 g w = _ from r_ship R B hs (j := 8) (by decide) (by decide)]
  show Ok ((s_X7_ofShip 0 (I s) 7 g w).bind fun q2 => _) _
  rw [show s_X7_ofShip 0 (I s) 7 g w = _ from r_hour R B hs hJ]
  show Ok (if I h ≤ I (SF c s 7) then s_X7_goesOn_R41 0 (I s) (I t) (I h) FU ((I (SF c s 8)) &&& (((1 : Int32) <<< (I t &&& 31)) ^^^ -1)) false (I h) g w else if ((I (SF c s 8)) &&& (((1 : Int32) <<< (I t &&& 31)) ^^^ -1)) = 0 then s_X7_goesOn_R41 0 (I s) (I t) (I h) FU ((I (SF c s 8)) &&& (((1 : Int32) <<< (I t &&& 31)) ^^^ -1)) false (I h) g w else s_X7_goesOn_R41 0 (I s) (I t) (I h) FU ((I (SF c s 8)) &&& (((1 : Int32) <<< (I t &&& 31)) ^^^ -1)) true (I h) g w) _
  rw [shl32 t ht, clr32 _ hS6 t ht]
  show Ok (if I h ≤ I (SF c s 7) then s_X7_goesOn_R41 0 (I s) (I t) (I h) FU (I (CLR (SF c s 8) t)) false (I h) g w else if I (CLR (SF c s 8) t) = 0 then s_X7_goesOn_R41 0 (I s) (I t) (I h) FU (I (CLR (SF c s 8) t)) false (I h) g w else s_X7_goesOn_R41 0 (I s) (I t) (I h) FU (I (CLR (SF c s 8) t)) true (I h) g w) _
  have k0 := key FU h false (Nat.le_refl _) (by omega) (by show 49 - h < 1000; omega)
  by_cases e1 : SF c s 7 < h
  · rw [if_neg (nle e1 (by omega))]
    by_cases e2 : CLR (SF c s 8) t = 0
    · rw [if_pos (by rw [e2]; rfl)]
      exact ok_b ⟨fun q => absurd e2 q.2.1, fun q => absurd q.1 (by decide)⟩ k0
    · rw [if_neg (nz_I e2 (by omega))]
      exact ok_b ⟨fun q => ⟨rfl, q.2.2⟩, fun q => ⟨e1, e2, q.2⟩⟩ (key FU h true (Nat.le_refl _) (by omega) (by show 49 - h < 1000; omega))
  · rw [if_pos (ile (by omega) (by omega))]
    exact ok_b ⟨fun q => absurd q.1 e1, fun q => absurd q.1 (by decide)⟩ k0
/-! the job that goes on without it -/
def cgo (c : Nat → Int64) (s t h : Nat) : Nat → Int64 := csh (cwk c (frel (2 ^ t) (MH c s h))) s (c (130 + 11 * s + 7)) (I (CLR (SF c s 8) t)).toInt64
theorem bit_p {t i : Nat} : (2 ^ t).testBit i = decide (t = i) := Nat.testBit_two_pow
theorem cgo_o {s t h k : Nat} (h1 : ¬ (70 ≤ k ∧ k < 130 ∧ (k - 70) % 10 = 8)) (h8 : k ≠ 130 + 11 * s + 8) : cgo c s t h k = c k := by
  unfold cgo
  by_cases e : k = 130 + 11 * s + 7
  · subst e; rw [csh_7]
  · rw [csh_o e h8, cwk_o h1]
theorem cgo_8 {s t h : Nat} : cgo c s t h (130 + 11 * s + 8) = (I (CLR (SF c s 8) t)).toInt64 := csh_8
theorem cgo_wk {s t h t' : Nat} (ht : t' < 6) : WK (cgo c s t h) t' = frel (2 ^ t) (MH c s h) t' (WK c t') := by
  show csh _ s _ _ (70 + 10 * t' + 8) = _
  rw [csh_o (by omega) (by omega), cwk_w ht]
theorem cgo_same {s t h : Nat} (hs : s < 8) : SAME c (cgo c s t h) := same_trans same_cwk (same_csh hs)
theorem bi_go (B : BI c) {s t h : Nat} (hs : s < SN c) (ht : t < TN c) (hJ : JOB c s) (hne : CLR (SF c s 8) t ≠ 0) (hb : (SF c s 8).testBit t = true) : BI (cgo c s t h) := by
  have e6 := tn6 B
  have e8 := sn8 B
  rcases job_hr B hs with ⟨h', _⟩ | ⟨_, hHR, hlen, hS1, hS, _, hS6⟩
  · exact absurd hJ h'
  have cl := clr_le (SF c s 8) t
  have oo : ∀ s' j, j < 11 → (j ≠ 8 ∨ s' ≠ s) → SF (cgo c s t h) s' j = SF c s' j := fun s' j hj q => by unfold SF nf; rw [cgo_o (by omega) (by omega)]
  have oh : ∀ s', HR (cgo c s t h) s' = HR c s' := fun s' => by unfold HR; rw [cgo_o (by omega) (by omega)]
  have oj : ∀ s', (JOB (cgo c s t h) s' ↔ JOB c s') := fun s' => by unfold JOB; rw [oh s']
  have o8 : SF (cgo c s t h) s 8 = CLR (SF c s 8) t := nf_eq cgo_8 (by omega)
  have sub : ∀ s' i, i < TN c → (SF (cgo c s t h) s' 8).testBit i = true → (SF c s' 8).testBit i = true ∧ (s' = s → i ≠ t) := fun s' i hi q => by
    by_cases e : s' = s
    · subst e
      rw [o8, clr_all _ hS6 t (by omega) i (by omega)] at q
      have q1 := (Bool.and_eq_true_iff.mp q)
      exact ⟨q1.1, fun _ => of_decide_eq_true q1.2⟩
    · rw [oo s' 8 (by decide) (Or.inr e)] at q
      exact ⟨q, fun p => absurd p e⟩
  refine bi_mk B (cgo_same (by omega)) ?_ (fun i hi => ⟨?_, ?_, ?_⟩) (fun s' hs' => ?_) (fun s' hs' hJ' i hi hbi k k1 k2 => ?_) (fun s1 s2 q1 q2 hne2 j1 j2 i hi b1 b2 => ?_)
  · rw [cgo_o (by omega) (by omega)]; exact B.1.2.2.2.2.2
  · unfold rb; rw [cgo_o (by omega) (by omega)]; exact (bt B hi).2.2.2.2.2.2.2.1
  · rw [cgo_wk (by omega)]
    exact frel_48 (wk48 B hi)
  · show b48 (cgo c s t h (70 + 10 * i + 9))
    rw [cgo_o (by omega) (by omega)]; exact (bt B hi).2.2.2.2.2.2.2.2.2.2
  · rw [oh s']
    by_cases e : s' = s
    · subst e
      refine Or.inr ⟨hJ, by omega, ?_, by rw [o8]; omega⟩
      unfold rb
      rw [cgo_8, Int32.toInt_toInt64, I_toInt (by omega)]
      omega
    · rw [oo s' 8 (by decide) (Or.inr e)]
      unfold rb
      rw [cgo_o (by omega) (by omega)]
      exact (bs B hs').2.2.2.2.2.2.2
  · rw [oo s' 7 (by decide) (Or.inl (by decide))] at k1 k2
    have hbs := sub s' i hi hbi
    have l' := last_lt B hs' ((oj s').mp hJ')
    rw [cgo_wk (by omega), frel_tb (by omega), B.2.2.2.2.2.1 s' hs' ((oj s').mp hJ') i hi hbs.1 k k1 k2, bit_p]
    by_cases e : t = i
    · subst e
      have e1 : s' ≠ s := fun q => hbs.2 q rfl
      cases hmk : tb (MH c s h) k with
      | false => simp
      | true =>
        have := mh_in hlen k hmk
        have := B.2.2.2.2.2.2 s' s hs' hs e1 ((oj s').mp hJ') hJ t ht hbs.1 hb
        omega
    · simp [e]
  · rw [oo s1 7 (by decide) (Or.inl (by decide)), oo s2 7 (by decide) (Or.inl (by decide))]
    exact B.2.2.2.2.2.2 s1 s2 q1 q2 hne2 ((oj s1).mp j1) ((oj s2).mp j2) i hi (sub s1 i hi b1).1 (sub s2 i hi b2).1
theorem hb_go (H : HB g w hb c) (B : BI c) {s t h : Nat} {x : Int32} (hs : s < SN c) (ht : t < TN c) (hJ : JOB c s) :
    HB (gI (gI g 1 hb 13 x) 4 (8 * hb + s) 8 (I (CLR (SF c s 8) t))) (w5 hb (frel (2 ^ t) (MH c s h)) 6 w) hb (cgo c s t h) := by
  rcases job_hr B hs with ⟨h', _⟩ | ⟨_, hHR, hlen, hS1, hS, hrb, hS6⟩
  · exact absurd hJ h'
  have cl := clr_le (SF c s 8) t
  have H2 := hb_job H (tn6 B) (sn8 B) (a := g 4 (8 * hb + s) 7) (n := CLR (SF c s 8) t) (f := frel (2 ^ t) (MH c s h)) hs (fun i q1 q2 => by
    unfold frel
    rw [if_neg (fun q => by rw [bit_p] at q; have := of_decide_eq_true q; omega)]) (by omega)
  have e7 : (g 4 (8 * hb + s) 7).toInt64 = c (130 + 11 * s + 7) := by
    rw [c_hour H B hs hJ]
    exact (nf_L hrb (by decide)).symm
  rw [e7] at H2
  have t6 : TN (cgo c s t h) ≤ 6 := by rw [same_tn (cgo_same (by have := sn8 B; omega))]; exact tn6 B
  have s8 : SN (cgo c s t h) ≤ 8 := by rw [same_sn (cgo_same (by have := sn8 B; omega))]; exact sn8 B
  refine hb_cg H2 t6 s8 (fun F i j q => ?_) (fun _ _ _ _ => rfl)
  unfold pg
  rw [gI_at, gI_at, gI_at, gI_at]
  unfold hbc at q
  by_cases e1 : F = 4 ∧ i = 8 * hb + s ∧ j = 8
  · rw [if_pos e1, if_pos e1]
  · rw [if_neg e1, if_neg e1, if_neg (by omega)]
    by_cases e2 : F = 4 ∧ i = 8 * hb + s ∧ j = 7
    · rw [if_pos e2, e2.1, e2.2.1, e2.2.2]
    · rw [if_neg e2]
theorem cnt_one {t n : Nat} (ht : t < TN c) : CNT c (2 ^ t) n = n := by
  have := fb_sm_upd (fun _ => 0) n ht
  rw [fb_sm_const, Nat.mul_zero] at this
  unfold CNT
  rw [fb_sm_cong (g := fun k => if k = t then n else 0) (fun k _ => ?_)]
  · omega
  · rw [bit_p]
    by_cases e : k = t
    · rw [if_pos e, if_pos (by rw [e]; exact decide_eq_true rfl)]
    · rw [if_neg e, if_neg (fun q => e (of_decide_eq_true q).symm)]
end
