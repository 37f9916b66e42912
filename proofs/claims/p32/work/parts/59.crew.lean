/-! crews and fuel -/
theorem all_le {Q : Nat → Prop} {k N : Nat} : (∀ f, k ≤ f → f < N → Q f) ↔ ((k < N → Q k) ∧ ∀ f, k + 1 ≤ f → f < N → Q f) := by
  constructor
  · intro h
    exact ⟨fun q => h k (Nat.le_refl _) q, fun f h1 h2 => h f (by omega) h2⟩
  · rintro ⟨h1, h2⟩ f h3 h4
    by_cases e : f = k
    · subst e; exact h1 h4
    · exact h2 f (by omega) h4
/-- a window has no more than all -/
theorem ct_win (x : Int64) {f n : Nat} (h : f + n ≤ 48) : fb_ct (fun i => tb x (f + i)) n ≤ ct x := by
  unfold ct
  have e1 := fb_ct_split (fun i => tb x i) f n
  have e2 := fb_ct_mono (fun i => tb x i) h
  omega
section
variable {g : Nat → Nat → Nat → Int32} {w : Nat → Nat → Nat → Int64} {hb : Nat} {c : Nat → Int64}
theorem win6 {x : Int64} {f n : Nat} (hf : f < 48) (hn : n ≤ 48) : s_J_Long_bitCount ((jlush x (I f)) &&& (s_X6_hoursAhead (I n) g w)) g w = I (fb_ct (fun i => tb x (f + i)) n) := by
  rw [ahead6 (by omega)]
  have e : ∀ k, tb ((jlush x (I f)) &&& HH 0 n) k = (tb x (f + k) && decide (k < n)) := fun k => by
    rw [tb_and, tb_jl x (by omega), tb_HH (by omega) (by omega)]
    simp
  rw [bitCount6 (fun k h1 h2 => by rw [e, decide_eq_false (by omega), Bool.and_false])]
  refine congrArg I ?_
  unfold ct
  have s := fb_ct_split (fun i => tb ((jlush x (I f)) &&& HH 0 n) i) n (48 - n)
  rw [show n + (48 - n) = 48 by omega] at s
  rw [s]
  have z : fb_ct (fun k => tb ((jlush x (I f)) &&& HH 0 n) (n + k)) (48 - n) = 0 := fb_ct_zero.mpr (fun k hk => by
    rw [e, decide_eq_false (by omega), Bool.and_false])
  rw [z, Nat.add_zero]
  exact fb_ct_cong (fun k hk => by rw [e, decide_eq_true hk, Bool.and_true])
theorem crew_le (B : BI c) {t : Nat} (ht : t < TN c) : 1 ≤ TF c t 5 ∧ TF c t 5 ≤ 12 := nf_rb (bt B ht).2.2.2.2.2.1
theorem crew6 (H : HB g w hb c) (B : BI c) {t : Nat} (ht : t < TN c) {x : Int64} (hx : b48 x) : Ok (s_X5_crewRests (6 * hb + t) x (I (nf c 60)) g w) (fun b => b = true ↔ RESTS c t x) := by
  have hc := crew_le B ht
  have hr := (nf_rb B.1.2.2.1).2
  have key : ∀ (n k : Nat), k ≤ 49 - (TF c t 5 + nf c 60) → 50 - k < n → Ok (s_X5_crewRests_R24 (6 * hb + t) x (I (nf c 60)) n (I (TF c t 5 + nf c 60)) (I k) g w) (fun b => b = true ↔ ∀ f, k ≤ f → f < 49 - (TF c t 5 + nf c 60) → fb_ct (fun i => tb x (f + i)) (TF c t 5 + nf c 60) ≤ TF c t 5) := by
    intro n
    induction n with
    | zero => intro k h1 hm; omega
    | succ n ih =>
      intro k h1 hm
      show Ok (s_X5_crewRests_24 (6 * hb + t) x (I (nf c 60)) (s_X5_crewRests_R24 (6 * hb + t) x (I (nf c 60)) n) (I (TF c t 5 + nf c 60)) (I k) g w) _
      unfold s_X5_crewRests_24
      rw [I_add, I_suc]
      by_cases hk : k < 49 - (TF c t 5 + nf c 60)
      · rw [if_neg (show ¬ (48 : Int32) < I (k + (TF c t 5 + nf c 60)) from nlt (a := 48) (by omega) (by decide)), win6 (by omega) (by omega), c_tug H B ht (by decide)]
        have hw := fb_ct_le (fun i => tb x (k + i)) (TF c t 5 + nf c 60)
        by_cases e : fb_ct (fun i => tb x (k + i)) (TF c t 5 + nf c 60) ≤ TF c t 5
        · rw [if_pos (ile e (by omega))]
          refine ok_b ?_ (ih (k + 1) (by omega) (by omega))
          exact all_yes (fun _ => e)
        · rw [if_neg (nle (by omega) (by omega))]
          exact ok_f (fun q => e (q k (Nat.le_refl _) hk))
      · rw [if_pos (show (48 : Int32) < I (k + (TF c t 5 + nf c 60)) from ilt (a := 48) (by omega) (by omega))]
        exact ok_t (fun f q1 q2 => by omega)
  unfold s_X5_crewRests
  have hct : ct x ≤ 48 := fb_ct_le _ 48
  rw [bitCount6 (fun k h1 h2 => hx k h1), c_tug H B ht (by decide), I_add]
  by_cases e : TF c t 5 < ct x
  · rw [if_pos (ilt e (by omega))]
    exact key FU 0 (by omega) (by show 50 - 0 < 1000; omega)
  · rw [if_neg (nlt (by omega) (by omega))]
    refine ok_t (fun f q1 q2 => ?_)
    have := ct_win x (f := f) (n := TF c t 5 + nf c 60) (by omega)
    omega
theorem rests7 (R : RV w c) (B : BI c) {t : Nat} (ht : t < TN c) {x : Int64} : Ok (s_X7_rests 0 (I t) x g w) (fun b => b = true ↔ RESTS c t x) := by
  have hc := crew_le B ht
  have hr := (nf_rb B.1.2.2.1).2
  have inner : ∀ (rec27 : Int32 → Int32 → Bool → Int32 → (Nat → Nat → Nat → Int32) → (Nat → Nat → Nat → Int64) → Option Bool) (v6 : Bool) (f : Nat), f < 49 - (TF c t 5 + nf c 60) → ∀ (n k : Nat), k ≤ TF c t 5 + nf c 60 → 50 - k < n →
      ∃ fl : Bool, s_X7_rests_R44 0 (I t) x rec27 n (I (TF c t 5)) (I (TF c t 5 + nf c 60)) v6 (I f) (I (fb_ct (fun i => tb x (f + i)) k)) (I (f + k)) g w = rec27 (I (TF c t 5)) (I (TF c t 5 + nf c 60)) fl (I (f + 1)) g w ∧ (fl = true ↔ (v6 = true ∧ fb_ct (fun i => tb x (f + i)) (TF c t 5 + nf c 60) ≤ TF c t 5)) := by
    intro rec27 v6 f hf n
    induction n with
    | zero => intro k h1 hm; omega
    | succ n ih =>
      intro k h1 hm
      show ∃ fl : Bool, s_X7_rests_44 0 (I t) x rec27 (s_X7_rests_R44 0 (I t) x rec27 n) (I (TF c t 5)) (I (TF c t 5 + nf c 60)) v6 (I f) (I (fb_ct (fun i => tb x (f + i)) k)) (I (f + k)) g w = _ ∧ _
      unfold s_X7_rests_44 s_X7_rests_95 s_X7_rests_96 s_X7_rests_70
      rw [I_add, I_suc, I_suc]
      have hcnt := fb_ct_le (fun i => tb x (f + i)) k
      by_cases hk : k < TF c t 5 + nf c 60
      · rw [if_neg (nle (by omega) (by omega)), has7 x (by omega)]
        obtain ⟨fl, e1, e2⟩ := ih (k + 1) (by omega) (by omega)
        refine ⟨fl, ?_, e2⟩
        rw [← e1, fb_ct_succ]
        cases tb x (f + k) with
        | true =>
          rw [if_pos rfl, if_pos rfl]
          show s_X7_rests_R44 0 (I t) x rec27 n (I (TF c t 5)) (I (TF c t 5 + nf c 60)) v6 (I f) (I (fb_ct (fun i => tb x (f + i)) k) + 1) (I (f + k + 1)) g w = _
          rw [I_suc]; rfl
        | false =>
          rw [if_neg (by decide), if_neg (by decide)]
          show s_X7_rests_R44 0 (I t) x rec27 n (I (TF c t 5)) (I (TF c t 5 + nf c 60)) v6 (I f) (I (fb_ct (fun i => tb x (f + i)) k) + I 0) (I (f + k + 1)) g w = _
          rw [I_add]; rfl
      · have ek : k = TF c t 5 + nf c 60 := by omega
        subst ek
        rw [if_pos (ile (Nat.le_refl _) (by omega))]
        cases v6 with
        | false =>
          rw [if_neg (by decide)]
          exact ⟨false, rfl, by simp⟩
        | true =>
          rw [if_pos rfl]
          by_cases e : TF c t 5 < fb_ct (fun i => tb x (f + i)) (TF c t 5 + nf c 60)
          · rw [if_pos (ilt e (by omega))]
            exact ⟨false, rfl, by simp; omega⟩
          · rw [if_neg (nlt (by omega) (by omega))]
            exact ⟨true, rfl, by simp; omega⟩
  have key : ∀ (n k : Nat) (v : Bool), k ≤ 49 - (TF c t 5 + nf c 60) → 50 - k < n → Ok (s_X7_rests_R27 0 (I t) x n (I (TF c t 5)) (I (TF c t 5 + nf c 60)) v (I k) g w) (fun b => b = true ↔ (v = true ∧ ∀ f, k ≤ f → f < 49 - (TF c t 5 + nf c 60) → fb_ct (fun i => tb x (f + i)) (TF c t 5 + nf c 60) ≤ TF c t 5)) := by
    intro n
    induction n with
    | zero => intro k v h1 hm; omega
    | succ n ih =>
      intro k v h1 hm
      show Ok (s_X7_rests_27 0 (I t) x (s_X7_rests_R27 0 (I t) x n) (I (TF c t 5)) (I (TF c t 5 + nf c 60)) v (I k) g w) _
      unfold s_X7_rests_27
      rw [I_add]
      by_cases hk : k < 49 - (TF c t 5 + nf c 60)
      · rw [if_neg (show ¬ (48 : Int32) < I (k + (TF c t 5 + nf c 60)) from nlt (a := 48) (by omega) (by decide))]
        obtain ⟨fl, e1, e2⟩ := inner (s_X7_rests_R27 0 (I t) x n) v k hk FU 0 (by omega) (by show 50 - 0 < 1000; omega)
        refine ok_e e1 ?_
        refine ok_b ?_ (ih (k + 1) fl (by omega) (by omega))
        rw [e2, all_le (k := k)]
        constructor
        · rintro ⟨q1, q2, q3⟩; exact ⟨⟨q1, q2 hk⟩, q3⟩
        · rintro ⟨⟨q1, q2⟩, q3⟩; exact ⟨q1, fun _ => q2, q3⟩
      · rw [if_pos (show (48 : Int32) < I (k + (TF c t 5 + nf c 60)) from ilt (a := 48) (by omega) (by omega))]
        exact ok_some ⟨fun q => ⟨q, fun f q1 q2 => by omega⟩, fun q => q.1⟩
  unfold s_X7_rests
  rw [show s_X7_ofTug 0 (I t) 5 g w = some (I (TF c t 5)) from r_tug R B ht (by decide), n60, R 60 (by decide), nf_I B.1.2.2.1 (by decide)]
  refine ok_bind (ok_some (P := fun r => r = I (TF c t 5)) rfl) ?_
  rintro _ rfl
  rw [I_add]
  refine ok_b ?_ (key FU 0 true (by omega) (by show 50 - 0 < 1000; omega))
  unfold RESTS
  simp
/-! fuel -/
theorem fuel_le (B : BI c) {t : Nat} (ht : t < TN c) : TF c t 3 ≤ TF c t 4 ∧ 1 ≤ TF c t 4 ∧ TF c t 4 ≤ 48 := by
  have a := nf_rb (bt B ht).2.2.2.2.1
  have b := (bt B ht).2.2.2.2.2.2.2.2.1
  exact ⟨b, a.1, a.2⟩
theorem fl_rg (B : BI c) {t : Nat} (ht : t < TN c) (x : Int64) : ∀ k, FL c t x k ≤ TF c t 4 ∧ (TF c t 3 : Int) - fb_ct (fun i => tb x i) k ≤ FL c t x k := by
  intro k
  have q := fuel_le B ht
  induction k with
  | zero =>
    show (TF c t 3 : Int) ≤ TF c t 4 ∧ (TF c t 3 : Int) - (0 : Nat) ≤ (TF c t 3 : Int)
    omega
  | succ k ih =>
    rw [fb_ct_succ]
    show NXT c t x k (FL c t x k) ≤ _ ∧ _ ≤ NXT c t x k (FL c t x k)
    unfold NXT
    cases tb (BN c t) k <;> cases tb x k <;> simp <;> (try split) <;> omega
theorem toInt_sub1 {v : Int32} {f : Int} (hv : v.toInt = f) (h1 : -100 ≤ f) (h2 : f ≤ 100) (b : Bool) : (v - (if b = true then (1 : Int64) else 0).toInt32).toInt = f - (if b = true then 1 else 0) := by
  cases b with
  | true =>
    show (v - 1).toInt = f - 1
    rw [sub_toInt (by rw [hv, show (1 : Int32).toInt = 1 from rfl]; omega) (by rw [hv, show (1 : Int32).toInt = 1 from rfl]; omega), hv]; rfl
  | false =>
    show (v - 0).toInt = f - 0
    rw [sub_toInt (by rw [hv, show (0 : Int32).toInt = 0 from rfl]; omega) (by rw [hv, show (0 : Int32).toInt = 0 from rfl]; omega), hv]; rfl
theorem after6 (H : HB g w hb c) (B : BI c) {t : Nat} (ht : t < TN c) {x : Int64} {v : Int32} {f : Int} {k : Nat} (hk : k < 48) (hv : v.toInt = f) (h1 : -100 ≤ f) (h2 : f ≤ 60) : (s_X5_fuelAfter (6 * hb + t) v (I k) x g w).toInt = NXT c t x k f := by
  have q := fuel_le B ht
  unfold s_X5_fuelAfter s_X5_fuelAfter_50 NXT
  have hs := toInt_sub1 hv h1 (by omega) (tb x k)
  have e12 : (12 : Int32).toInt = 12 := rfl
  rw [(H.2.2.1 t ht).2.2, jl_bit x (by omega), c_tug H B ht (by decide)]
  have b01 : (if tb x k = true then (1 : Int) else 0) = 0 ∨ (if tb x k = true then (1 : Int) else 0) = 1 := by split <;> simp
  by_cases e : tb (BN c t) k = true
  · rw [if_pos ((jl_bit0 _ (by omega)).mpr e), if_pos e]
    have ha : ((v - (if tb x k = true then (1 : Int64) else 0).toInt32) + 12).toInt = f - (if tb x k = true then 1 else 0) + 12 := by
      rw [add_toInt (by rw [hs, e12]; omega) (by rw [hs, e12]; omega), hs, e12]
    by_cases e2 : f - (if tb x k = true then 1 else 0) + 12 ≤ TF c t 4
    · rw [if_pos (show _ ≤ I (TF c t 4) by rw [Int32.le_iff_toInt_le, ha, I_toInt (by omega)]; exact e2), if_pos e2]
      exact ha
    · rw [if_neg (show ¬ _ ≤ I (TF c t 4) by rw [Int32.le_iff_toInt_le, ha, I_toInt (by omega)]; exact e2), if_neg e2]
      exact I_toInt (by omega)
  · rw [if_neg (fun q => e ((jl_bit0 _ (by omega)).mp q)), if_neg e]
    exact hs
theorem lasts6 (H : HB g w hb c) (B : BI c) {t : Nat} (ht : t < TN c) {x : Int64} (hx : b48 x) : Ok (s_X5_fuelLasts (6 * hb + t) x g w) (fun b => b = true ↔ LASTS c t x) := by
  have q := fuel_le B ht
  have key : ∀ (n k : Nat) (v : Int32), k ≤ 48 → v.toInt = FL c t x k → (∀ j, j ≤ k → 0 ≤ FL c t x j) → 49 - k < n → Ok (s_X5_fuelLasts_R21 (6 * hb + t) x n v (I k) g w) (fun b => b = true ↔ LASTS c t x) := by
    intro n
    induction n with
    | zero => intro k v h1 h2 h3 hm; omega
    | succ n ih =>
      intro k v h1 h2 h3 hm
      show Ok (s_X5_fuelLasts_21 (6 * hb + t) x (s_X5_fuelLasts_R21 (6 * hb + t) x n) v (I k) g w) _
      unfold s_X5_fuelLasts_21
      rw [I_suc]
      by_cases hk : k < 48
      · have r := fl_rg B ht x k
        have r0 := h3 k (Nat.le_refl _)
        have ha := after6 H B ht (x := x) hk h2 (by omega) (by omega)
        rw [if_neg (show ¬ (48 : Int32) ≤ I k from nle (a := 48) hk (by decide))]
        by_cases e : 0 ≤ FL c t x (k + 1)
        · rw [if_pos (by rw [Int32.le_iff_toInt_le, ha]; exact e)]
          refine ih (k + 1) _ (by omega) ha (fun j hj => ?_) (by omega)
          by_cases ej : j = k + 1
          · subst ej; exact e
          · exact h3 j (by omega)
        · rw [if_neg (by rw [Int32.le_iff_toInt_le, ha]; exact e)]
          exact ok_f (fun q => e (q (k + 1) (by omega)))
      · rw [if_pos (show (48 : Int32) ≤ I k from ile (a := 48) (by omega) (by omega))]
        exact ok_t (fun j hj => h3 j (by omega))
  unfold s_X5_fuelLasts
  have hct : ct x ≤ 48 := fb_ct_le _ 48
  rw [bitCount6 (fun k h1 h2 => hx k h1), c_tug H B ht (by decide)]
  by_cases e : TF c t 3 < ct x
  · rw [if_pos (ilt e (by omega))]
    refine key FU 0 _ (by omega) (I_toInt (by omega)) (fun j hj => ?_) (by show 49 - 0 < 1000; omega)
    have : j = 0 := by omega
    subst this
    show (0 : Int) ≤ (TF c t 3 : Nat)
    omega
  · rw [if_neg (nlt (by omega) (by omega))]
    refine ok_t (fun k hk => ?_)
    have r := (fl_rg B ht x k).2
    have m := fb_ct_mono (fun i => tb x i) hk
    unfold ct at e
    omega
theorem fuel7 (R : RV w c) (B : BI c) {t : Nat} (ht : t < TN c) {x : Int64} : Ok (s_X7_fuelBehind 0 (I t) x (I 47) g w) (fun r => 0 ≤ r ↔ LASTS c t x) := by
  have q := fuel_le B ht
  have key : ∀ (n k : Nat) (v : Int32), k ≤ 48 → v.toInt = FL c t x k → (∀ j, j < k → 0 ≤ FL c t x j) → 50 - k < n → Ok (s_X7_fuelBehind_R11 0 (I t) x (I 47) n v (I k) g w) (fun r => 0 ≤ r ↔ LASTS c t x) := by
    intro n
    induction n with
    | zero => intro k v h1 h2 h3 hm; omega
    | succ n ih =>
      intro k v h1 h2 h3 hm
      show Ok (s_X7_fuelBehind_11 0 (I t) x (I 47) (s_X7_fuelBehind_R11 0 (I t) x (I 47) n) v (I k) g w) _
      unfold s_X7_fuelBehind_11 s_X7_fuelBehind_96 s_X7_fuelBehind_39 s_X7_fuelBehind_63 s_X7_fuelBehind_88
      rw [I_suc]
      by_cases hk : k < 48
      · rw [if_neg (nlt (by omega) (by decide))]
        have r := fl_rg B ht x k
        by_cases e0 : v < 0
        · rw [if_pos e0]
          refine ok_some ⟨fun p => ?_, fun p => ?_⟩
          · rw [Int32.lt_iff_toInt_lt, show (0 : Int32).toInt = 0 from rfl] at e0
            rw [Int32.le_iff_toInt_le, show (0 : Int32).toInt = 0 from rfl] at p
            omega
          · rw [Int32.lt_iff_toInt_lt, show (0 : Int32).toInt = 0 from rfl, h2] at e0
            have := p k h1
            omega
        · rw [if_neg e0]
          rw [Int32.lt_iff_toInt_lt, show (0 : Int32).toInt = 0 from rfl, h2] at e0
          have h3' : ∀ j, j < k + 1 → 0 ≤ FL c t x j := fun j hj => by
            by_cases ej : j = k
            · subst ej; omega
            · exact h3 j (by omega)
          have hs : (v - bI (tb x k)).toInt = FL c t x k - (if tb x k = true then 1 else 0) := by
            have e := toInt_sub1 h2 (by omega) (by omega) (tb x k)
            cases hq : tb x k <;> (rw [hq] at e; exact e)
          have e12 : (12 : Int32).toInt = 12 := rfl
          have b01 : (if tb x k = true then (1 : Int) else 0) = 0 ∨ (if tb x k = true then (1 : Int) else 0) = 1 := by split <;> simp
          have et : s_X7_ofTug 0 (I t) 4 g w = some (I (TF c t 4)) := r_tug R B ht (by decide)
          have step : Ok ((s_X7_bunkersOf 0 (I t) g w).bind fun q1 => if s_X7_has q1 (I k) g w = true then (s_X7_ofTug 0 (I t) 4 g w).bind fun q2 => if (v - bI (tb x k)) + 12 ≤ q2 then s_X7_fuelBehind_R11 0 (I t) x (I 47) n ((v - bI (tb x k)) + 12) (I (k + 1)) g w else (s_X7_ofTug 0 (I t) 4 g w).bind fun q3 => s_X7_fuelBehind_R11 0 (I t) x (I 47) n q3 (I (k + 1)) g w else (s_X7_ofTug 0 (I t) 4 g w).bind fun q2 => if (v - bI (tb x k)) + 0 ≤ q2 then s_X7_fuelBehind_R11 0 (I t) x (I 47) n ((v - bI (tb x k)) + 0) (I (k + 1)) g w else (s_X7_ofTug 0 (I t) 4 g w).bind fun q3 => s_X7_fuelBehind_R11 0 (I t) x (I 47) n q3 (I (k + 1)) g w) (fun r => 0 ≤ r ↔ LASTS c t x) := by
            rw [r_bunk R B ht, et]
            refine ok_bind (ok_some (P := fun r => r = BN c t) rfl) ?_
            rintro _ rfl
            rw [has7 _ (by omega)]
            by_cases e : tb (BN c t) k = true
            · rw [if_pos e]
              refine ok_bind (ok_some (P := fun r => r = I (TF c t 4)) rfl) ?_
              rintro _ rfl
              have ha : ((v - bI (tb x k)) + 12).toInt = FL c t x k - (if tb x k = true then 1 else 0) + 12 := by
                rw [add_toInt (by rw [hs, e12]; omega) (by rw [hs, e12]; omega), hs, e12]
              by_cases e2 : FL c t x k - (if tb x k = true then 1 else 0) + 12 ≤ TF c t 4
              · rw [if_pos (show _ ≤ I (TF c t 4) by rw [Int32.le_iff_toInt_le, ha, I_toInt (by omega)]; exact e2)]
                refine ih (k + 1) _ (by omega) ?_ h3' (by omega)
                show _ = NXT c t x k (FL c t x k)
                unfold NXT
                rw [if_pos e, if_pos e2]
                exact ha
              · rw [if_neg (show ¬ _ ≤ I (TF c t 4) by rw [Int32.le_iff_toInt_le, ha, I_toInt (by omega)]; exact e2)]
                refine ok_bind (ok_some (P := fun r => r = I (TF c t 4)) rfl) ?_
                rintro _ rfl
                refine ih (k + 1) _ (by omega) ?_ h3' (by omega)
                show _ = NXT c t x k (FL c t x k)
                unfold NXT
                rw [if_pos e, if_neg e2]
                exact I_toInt (by omega)
            · rw [if_neg e]
              refine ok_bind (ok_some (P := fun r => r = I (TF c t 4)) rfl) ?_
              rintro _ rfl
              have ha : ((v - bI (tb x k)) + 0).toInt = FL c t x k - (if tb x k = true then 1 else 0) := by
                rw [add_toInt (by rw [hs, show (0 : Int32).toInt = 0 from rfl]; omega) (by rw [hs, show (0 : Int32).toInt = 0 from rfl]; omega), hs, show (0 : Int32).toInt = 0 from rfl]
                omega
              rw [if_pos (show _ ≤ I (TF c t 4) by rw [Int32.le_iff_toInt_le, ha, I_toInt (by omega)]; omega)]
              refine ih (k + 1) _ (by omega) ?_ h3' (by omega)
              show _ = NXT c t x k (FL c t x k)
              unfold NXT
              rw [if_neg e]
              exact ha
          rw [has7 x (by omega)]
          cases hbx : tb x k with
          | true => rw [hbx] at step; rw [if_pos rfl]; exact step
          | false => rw [hbx] at step; rw [if_neg (by decide)]; exact step
      · have ek : k = 48 := by omega
        subst ek
        rw [if_pos (ilt (by decide) (by decide))]
        refine ok_some ⟨fun p j hj => ?_, fun p => ?_⟩
        · rw [Int32.le_iff_toInt_le, h2, show (0 : Int32).toInt = 0 from rfl] at p
          by_cases ej : j = 48
          · subst ej; exact p
          · exact h3 j (by omega)
        · rw [Int32.le_iff_toInt_le, h2, show (0 : Int32).toInt = 0 from rfl]
          exact p 48 (Nat.le_refl _)
  unfold s_X7_fuelBehind
  rw [show s_X7_ofTug 0 (I t) 3 g w = some (I (TF c t 3)) from r_tug R B ht (by decide)]
  refine ok_bind (ok_some (P := fun r => r = I (TF c t 3)) rfl) ?_
  rintro _ rfl
  exact key FU 0 _ (by omega) (I_toInt (by omega)) (fun j hj => by omega) (by show 50 - 0 < 1000; omega)
end
