/-! the pool and the price: both sides alike -/
def SPL (c : Nat → Int64) (p n : Nat) : Nat := fb_sm (fun t => if t < TN c ∧ TF c t 0 = p then TF c t 1 * ct (WK c t) else 0) n
section
variable {g : Nat → Nat → Nat → Int32} {w : Nat → Nat → Nat → Int64} {hb : Nat} {c : Nat → Int64} {pl ba : Nat → Nat} {p1 p2 p3 : Int32}
theorem I_J {n : Nat} (h : n < 2147483648) : (I n).toInt64 = J n := Int64.toInt_inj.mp (by rw [I64 h, J_toInt h])
theorem J_mul (a b : Nat) : J a * J b = J (a * b) := (Int64.ofNat_mul a b).symm
theorem ct_le (x : Int64) : ct x ≤ 48 := fb_ct_le _ 48
theorem spl_yes {p t : Nat} (h : t < TN c ∧ TF c t 0 = p) : SPL c p (t + 1) = SPL c p t + TF c t 1 * ct (WK c t) := by unfold SPL; rw [fb_sm_succ, if_pos h]
theorem spl_no {p t : Nat} (h : ¬ (t < TN c ∧ TF c t 0 = p)) : SPL c p (t + 1) = SPL c p t := by unfold SPL; rw [fb_sm_succ, if_neg h]; rfl
theorem spl_stop {p : Nat} : ∀ {k : Nat}, TN c ≤ k → SPL c p k = SPL c p (TN c)
  | 0, h => by have : TN c = 0 := by omega
               rw [this]
  | k + 1, h => by
    by_cases e : TN c = k + 1
    · rw [e]
    · rw [spl_no (fun q => by omega)]
      exact spl_stop (by omega)
theorem spl_le (B : BI c) (p n : Nat) : SPL c p n ≤ n * 2880 := fb_sm_bound (fun k _ => by
  split
  · next h =>
    have h1 : TF c k 1 ≤ 60 := (nf_rb (bt B h.1).2.1).2
    have h2 := ct_le (WK c k)
    have := Nat.mul_le_mul h1 h2
    omega
  · omega)
theorem line01 (B : BI c) {t : Nat} (ht : t < TN c) : TF c t 0 = 0 ∨ TF c t 0 = 1 := by
  have : TF c t 0 ≤ 1 := (nf_rb (bt B ht).1).2
  omega
theorem pullHours6 (H : HB g w hb c) (B : BI c) {p : Nat} (hp : p ≤ 1) : s_X1_pullHours hb (I p) g w = some (J (SPL c p 6)) := by
  have h6 := tn6 B
  have key : ∀ (n k : Nat), k ≤ 6 → 7 - k < n → s_X1_pullHours_R16 hb (I p) n (J (SPL c p k)) (I k) g w = some (J (SPL c p 6)) := by
    intro n
    induction n with
    | zero => intro k _ hm; omega
    | succ n ih =>
      intro k h1 hm
      show s_X1_pullHours_16 hb (I p) (s_X1_pullHours_R16 hb (I p) n) (J (SPL c p k)) (I k) g w = _
      unfold s_X1_pullHours_16 s_X1_pullHours_58
      rw [I_suc]
      by_cases hk : k < 6
      · have := ih (k + 1) (by omega) (by omega)
        rw [if_neg (show ¬ (6 : Int32) ≤ I k from nle (a := 6) hk (by decide)), if_pos (inR_I hk (by decide)), I_tn (by omega)]
        by_cases ht : k < TN c
        · have hT := line01 B ht
          have hP : TF c k 1 ≤ 60 := (nf_rb (bt B ht).2.1).2
          have hc := ct_le (WK c k)
          rw [c_tug H B ht (j := 0) (by decide), c_tug H B ht (j := 1) (by decide), (H.2.2.1 k ht).2.1, bitCount6 (fun j h1 _ => wk48 B ht j h1), I_J (by omega), I_J (by omega), J_mul, J_add]
          by_cases e : TF c k 0 = p
          · rw [if_neg (fun q => q (by rw [e]))]
            rw [spl_yes ⟨ht, e⟩] at this
            exact this
          · rw [if_pos (show I (TF c k 0) ≠ I p from ne_I e (by omega) (by omega))]
            rw [spl_no (fun q => e q.2)] at this
            exact this
        · rw [spl_no (fun q => ht q.1)] at this
          rw [H.2.2.2.1 k (by omega) hk, bitCount6 (x := 0) (fun j _ _ => tb_0 j)]
          have e0 : ct 0 = 0 := fb_ct_zero.mpr (fun j _ => tb_0 j)
          rw [e0, show (I 0).toInt64 = 0 from rfl, Int64.mul_zero, Int64.add_zero]
          by_cases e : g 5 (6 * hb + k) 0 ≠ I p
          · rw [if_pos e]; exact this
          · rw [if_neg e]; exact this
      · have e : k = 6 := by omega
        subst e
        rw [if_pos (show (6 : Int32) ≤ I 6 by decide)]
  exact key FU 0 (by decide) (by show 7 - 0 < 1000; omega)
theorem re_pool (H : REL g w) : Ok (s_X6_pool 0 p1 p2 g w) (fun q => Ok (s_X7_pool 0 p1 p2 g w) (fun r => q = r)) := by
  obtain ⟨S, pl, ba, L⟩ := H
  have B := L.2.2.1
  have h6 := tn6 B
  have HB1 : HB g w 0 (w 2218 0) := ⟨S.2.2.2.1, L.2.1⟩
  have n0 := spl_le B 0 6
  have n1 := spl_le B 1 6
  have key : ∀ (n k : Nat), k ≤ TN (w 2218 0) → 7 - k < n → s_X7_pool_R32 0 p1 p2 n (J (SPL (w 2218 0) 0 k + SPL (w 2218 0) 1 k)) (J (SPL (w 2218 0) 1 k)) (I k) g w =
      if SPL (w 2218 0) 0 6 + SPL (w 2218 0) 1 6 = 0 then s_X7_pool_119 0 p1 p2 0 g w else s_X7_pool_119 0 p1 p2 ((p2.toInt64 * J (SPL (w 2218 0) 1 6)) / J (SPL (w 2218 0) 0 6 + SPL (w 2218 0) 1 6)).toInt32 g w := by
    intro n
    induction n with
    | zero => intro k _ hm; omega
    | succ n ih =>
      intro k h1 hm
      show s_X7_pool_32 0 p1 p2 (s_X7_pool_R32 0 p1 p2 n) (J (SPL (w 2218 0) 0 k + SPL (w 2218 0) 1 k)) (J (SPL (w 2218 0) 1 k)) (I k) g w = _
      unfold s_X7_pool_32 s_X7_pool_92
      rw [I_suc]
      by_cases ht : k < TN (w 2218 0)
      · have := ih (k + 1) (by omega) (by omega)
        have hT := line01 B ht
        have hP : TF (w 2218 0) k 1 ≤ 60 := (nf_rb (bt B ht).2.1).2
        have hc := ct_le (WK (w 2218 0) k)
        rw [if_neg (fun q => by have := (endT (rv_self (w := w)) B (k := k) (by omega)).mp q; omega)]
        rw [show s_X7_ofTug 0 (I k) 1 g w = _ from r_tug rv_self B ht (j := 1) (by decide), show s_X7_ofTug 0 (I k) 0 g w = _ from r_tug rv_self B ht (j := 0) (by decide), r_work rv_self B ht]
        show (s_X7_hoursIn 0 (WK (w 2218 0) k) g w).bind _ = _
        rw [hoursIn7]
        show (if I (TF (w 2218 0) k 0) ≠ 1 then s_X7_pool_R32 0 p1 p2 n (J (SPL (w 2218 0) 0 k + SPL (w 2218 0) 1 k) + ((I (TF (w 2218 0) k 1)).toInt64 * (I (ct (WK (w 2218 0) k))).toInt64)) (J (SPL (w 2218 0) 1 k) + 0) (I (k + 1)) g w else s_X7_pool_R32 0 p1 p2 n (J (SPL (w 2218 0) 0 k + SPL (w 2218 0) 1 k) + ((I (TF (w 2218 0) k 1)).toInt64 * (I (ct (WK (w 2218 0) k))).toInt64)) (J (SPL (w 2218 0) 1 k) + ((I (TF (w 2218 0) k 1)).toInt64 * (I (ct (WK (w 2218 0) k))).toInt64)) (I (k + 1)) g w) = _
        rw [I_J (n := TF (w 2218 0) k 1) (by omega), I_J (n := ct (WK (w 2218 0) k)) (by omega), J_mul, J_add, J_add, Int64.add_zero]
        rcases hT with e | e
        · rw [if_pos (show I (TF (w 2218 0) k 0) ≠ 1 by rw [e]; decide)]
          rw [spl_yes ⟨ht, e⟩, spl_no (fun q => by omega)] at this
          rw [← this]
          congr 2
          omega
        · rw [if_neg (fun q => q (by rw [e]; rfl))]
          rw [spl_no (p := 0) (fun q => by omega), spl_yes ⟨ht, e⟩] at this
          rw [← this]
          congr 2
          omega
      · have ek : k = TN (w 2218 0) := by omega
        rw [if_pos ((endT (rv_self (w := w)) B (k := k) (by omega)).mpr (by omega)), ek, ← spl_stop h6, ← spl_stop (p := 1) h6]
        have e0 : J (SPL (w 2218 0) 0 6 + SPL (w 2218 0) 1 6) = 0 ↔ SPL (w 2218 0) 0 6 + SPL (w 2218 0) 1 6 = 0 := by
          constructor
          · intro q
            have := congrArg Int64.toInt q
            rw [J_toInt (by omega), show (0 : Int64).toInt = 0 from rfl] at this
            omega
          · intro q; rw [q]; rfl
        by_cases e : SPL (w 2218 0) 0 6 + SPL (w 2218 0) 1 6 = 0
        · rw [if_pos e, if_neg (fun q => q ((lg0 _).mpr (e0.mpr e)))]
        · have ne : lg_cmp (J (SPL (w 2218 0) 0 6 + SPL (w 2218 0) 1 6)) 0 ≠ 0 := fun q => e (e0.mp ((lg0 _).mp q))
          rw [if_neg e, if_pos ne, if_pos (nzl ne)]
  unfold s_X6_pool s_X6_pool_19 s_X7_pool s_X7_pool_22
  rw [within_eq, within_eq, in32 p1 0 1 (by decide) (by decide), in32 p2 0 1000000 (by decide) (by decide)]
  by_cases h1 : decide ((0 : Int32) ≤ p1 ∧ p1 ≤ 1) = true
  · rw [if_pos h1, if_pos h1]
    by_cases h2 : decide ((0 : Int32) ≤ p2 ∧ p2 ≤ 1000000) = true
    · rw [if_pos h2, if_pos h2]
      have fin : ∀ m, 7 < m → s_X7_pool_R32 0 p1 p2 m 0 0 0 g w = if SPL (w 2218 0) 0 6 + SPL (w 2218 0) 1 6 = 0 then s_X7_pool_119 0 p1 p2 0 g w else s_X7_pool_119 0 p1 p2 ((p2.toInt64 * J (SPL (w 2218 0) 1 6)) / J (SPL (w 2218 0) 0 6 + SPL (w 2218 0) 1 6)).toInt32 g w := fun m hm => key m 0 (by omega) (by omega)
      rw [fin FU (by show 7 < 1000; decide), show s_X1_pullHours 0 1 g w = _ from pullHours6 HB1 B (p := 1) (by decide), show s_X1_pullHours 0 0 g w = _ from pullHours6 HB1 B (p := 0) (by decide)]
      show Ok (if (0 : Int32) < lg_cmp (J (SPL (w 2218 0) 0 6) + J (SPL (w 2218 0) 1 6)) 0 then (if nzL (J (SPL (w 2218 0) 0 6) + J (SPL (w 2218 0) 1 6)) = true then s_X6_pool_61 0 p1 p2 ((p2.toInt64 * J (SPL (w 2218 0) 1 6)) / (J (SPL (w 2218 0) 0 6) + J (SPL (w 2218 0) 1 6))).toInt32 g w else none) else s_X6_pool_61 0 p1 p2 0 g w) _
      rw [J_add]
      have tail : ∀ x : Int32, Ok (s_X6_pool_61 0 p1 p2 x g w) (fun q => Ok (s_X7_pool_119 0 p1 p2 x g w) (fun r => q = r)) := fun x => by
        unfold s_X6_pool_61 s_X6_pool_77 s_X7_pool_119 s_X7_pool_135
        by_cases e : p1 ≠ 1
        · rw [if_pos e]; exact ⟨_, rfl, _, rfl, rfl⟩
        · rw [if_neg e]; exact ⟨_, rfl, _, rfl, rfl⟩
      by_cases e : SPL (w 2218 0) 0 6 + SPL (w 2218 0) 1 6 = 0
      · rw [if_neg (fun q => by rw [lg_gt, J_toInt (by omega), show (0 : Int64).toInt = 0 from rfl] at q; omega)]
        rw [if_pos e]
        exact tail 0
      · have q : (0 : Int32) < lg_cmp (J (SPL (w 2218 0) 0 6 + SPL (w 2218 0) 1 6)) 0 := by rw [lg_gt, J_toInt (by omega), show (0 : Int64).toInt = 0 from rfl]; omega
        rw [if_pos q, if_pos (nzl_pos q), if_neg e]
        exact tail _
    · rw [if_neg h2, if_neg h2]
      exact ⟨_, rfl, _, rfl, rfl⟩
  · rw [if_neg h1, if_neg h1]
    exact ⟨_, rfl, _, rfl, rfl⟩
/-- a price's rule -/
theorem so_same (H : HB g w 0 c) (B : BI c) (R : RV w c) {s r : Nat} {K N : Int32} (hs : s < SN c) (hJ : JOB c s) (hr : r < 12) (ek : g 1012 9 r = K) (en : g 1012 10 r = N) :
    ∃ b, s_X3_isSo K N 0 (8 * 0 + s) g w = some b ∧ s_X7_passes 0 (I r) (I s) g w = some b := by
  have h8 := sn8 B
  rcases job_hr B hs with ⟨h', _⟩ | ⟨_, _, _, _, hS, _, hS6⟩
  · exact absurd hJ h'
  have ll := last_lt B hs hJ
  unfold s_X3_isSo s_X3_isSo_55 s_X3_isSo_83 s_X3_isSo_84 s_X3_isSo_109 s_X3_isSo_114 s_X3_isSo_131 s_X3_isSo_149 s_X3_isSo_168 s_X7_passes s_X7_passes_78 s_X7_passes_100 s_X7_passes_119 s_X7_passes_124 s_X7_passes_145 s_X7_passes_167 s_X7_passes_186
  rw [show s_X7_ofShip 0 (I s) 7 g w = _ from r_hour R B hs hJ, show s_X7_ofShip 0 (I s) 0 g w = _ from r_ship R B hs (j := 0) (by decide) (by decide), show s_X7_ofShip 0 (I s) 8 g w = _ from r_ship R B hs (j := 8) (by decide) (by decide), show s_X7_ofShip 0 (I s) 2 g w = _ from r_ship R B hs (j := 2) (by decide) (by decide), c_hour H B hs hJ, c_ship H B hs (j := 0) (by decide) (by decide), c_ship H B hs (j := 8) (by decide) (by decide), c_ship H B hs (j := 2) (by decide) (by decide)]
  have e12 : (12 : Int32) + I (SF c s 7) = I (12 + SF c s 7) := I_add 12 _
  have ew : w 2218 0 (12 + SF c s 7) = (I (nf c (12 + SF c s 7))).toInt64 := (R _ (by omega)).trans (nf_L (B.2.2.1 (SF c s 7) (by omega)) (by decide))
  have hw : nf c (12 + SF c s 7) ≤ 9 := (nf_rb (B.2.2.1 (SF c s 7) (by omega))).2
  rw [if_pos (gh6.mpr ⟨SF c s 7, by omega, rfl⟩), if_pos (inR_I (k := SF c s 7) (n := 48) (by omega) (by decide)), I_tn (by omega), c_wind H B (k := SF c s 7) (by omega), bc6 hS6, pull6 H B hS]
  rw [ob (o := some (I (SF c s 7))) (a := I (SF c s 7)) rfl]
  rw [if_pos (inR_I hr (by decide)), if_pos (inR_I hr (by decide)), I_tn (by omega), ek, en, e12, if_pos (inR_I (k := 12 + SF c s 7) (n := 218) (by omega) (by decide)), I_tn (by omega), ew]
  by_cases k0 : K = 0
  · rw [if_pos k0, if_pos k0]; exact ⟨_, rfl, rfl⟩
  rw [if_neg k0, if_neg k0]
  by_cases k1 : K = 1
  · rw [if_pos k1, if_pos k1]
    rw [ob (o := some (I (SF c s 0))) (a := I (SF c s 0)) rfl]
    by_cases e : I (SF c s 0) < N
    · rw [if_pos e]; exact ⟨_, rfl, rfl⟩
    · rw [if_neg e]; exact ⟨_, rfl, rfl⟩
  rw [if_neg k1, if_neg k1]
  by_cases k2 : K = 2
  · rw [if_pos k2, if_pos k2]
    have q : lg_cmp (I (nf c (12 + SF c s 7))).toInt64 N.toInt64 < 0 ↔ I (nf c (12 + SF c s 7)) < N := by
      rw [lg_cmp_lt, Int64.lt_iff_toInt_lt, Int32.lt_iff_toInt_lt, Int32.toInt_toInt64, Int32.toInt_toInt64]
    by_cases e : I (nf c (12 + SF c s 7)) < N
    · rw [if_pos e, if_pos (q.mpr e)]; exact ⟨_, rfl, rfl⟩
    · rw [if_neg e, if_neg (fun p => e (q.mp p))]; exact ⟨_, rfl, rfl⟩
  rw [if_neg k2, if_neg k2]
  by_cases k3 : K = 3
  · rw [if_pos k3, if_pos k3]
    by_cases e : (I (SF c s 7) - I (SF c s 7) / 24 * 24) < 6
    · rw [if_pos e]; exact ⟨_, rfl, rfl⟩
    · rw [if_neg e]
      by_cases e2 : (I (SF c s 7) - I (SF c s 7) / 24 * 24) < 20
      · rw [if_pos e2]; exact ⟨_, rfl, rfl⟩
      · rw [if_neg e2]; exact ⟨_, rfl, rfl⟩
  rw [if_neg k3, if_neg k3]
  by_cases k4 : K = 4
  · rw [if_pos k4, if_pos k4]
    rw [ob (o := some (I (SF c s 8))) (a := I (SF c s 8)) rfl, ob (bits7 hS6)]
    by_cases e : I (bc (SF c s 8)) < N
    · rw [if_pos e]; exact ⟨_, rfl, rfl⟩
    · rw [if_neg e]; exact ⟨_, rfl, rfl⟩
  rw [if_neg k4, if_neg k4]
  by_cases k5 : K = 5
  · rw [if_pos k5, if_pos k5]
    rw [ob (o := some (I (PULL c (SF c s 8)))) (a := I (PULL c (SF c s 8))) rfl, ob (o := some (I (SF c s 8))) (a := I (SF c s 8)) rfl, ob (pull7 R B hS6)]
    by_cases e : I (PULL c (SF c s 8)) < N
    · rw [if_pos e]; exact ⟨_, rfl, rfl⟩
    · rw [if_neg e]; exact ⟨_, rfl, rfl⟩
  rw [if_neg k5, if_neg k5]
  rw [ob (o := some (I (SF c s 2))) (a := I (SF c s 2)) rfl]
  by_cases e : I (SF c s 7) - I (SF c s 2) < N
  · rw [if_pos e]; exact ⟨_, rfl, rfl⟩
  · rw [if_neg e]; exact ⟨_, rfl, rfl⟩
theorem re_price (H : REL g w) : Ok (s_X6_price 0 p1 g w) (fun q => Ok (s_X7_price 0 p1 g w) (fun r => q = r)) := by
  obtain ⟨S, pl, ba, L⟩ := H
  have B := L.2.2.1
  have h8 := sn8 B
  have HB1 : HB g w 0 (w 2218 0) := ⟨S.2.2.2.1, L.2.1⟩
  have e34 : g 3 0 4 = g 7 0 5 := S.2.2.2.2.2.2.1
  have e12 : ∀ r, r < 12 → ∀ j, j < 4 → g 1012 (2 + j) r = g 1012 (9 + j) r := S.2.2.2.2.2.2.2
  have q := S.1 7 0 5
  obtain ⟨a, ha, ea⟩ := I_ex (v := g 7 0 5) (n := 12) q.1 q.2
  unfold s_X6_price s_X6_price_47 s_X7_price
  by_cases h1 : IX (SN (w 2218 0)) p1
  · rw [if_pos ((gs6 HB1 B).mpr h1), if_pos ((gs7 rv_self B).mpr h1)]
    obtain ⟨s, hs, rfl⟩ := h1
    rw [if_pos (inR_I (k := s) (n := 8) (by omega) (by decide)), I_tn (by omega)]
    obtain ⟨b, eb, hbb⟩ := r_hasJob (g := g) rv_self B hs
    rw [eb]
    show Ok _ (fun q => Ok (if b = true then _ else _) (fun r => q = r))
    by_cases e : b = true
    · have hJ := hbb.mp e
      rw [if_pos ((hasJob6 HB1 B (by omega)).mpr ⟨hs, hJ⟩), if_pos e]
      have key : ∀ (n k : Nat) (v : Int64), k ≤ a → 13 - k < n → Ok (s_X3_priceOf_R5 0 0 (8 * 0 + s) n v (I k) g w) (fun q => Ok (s_X7_price_R29 0 (I s) n v (I k) g w) (fun r => q = r)) := by
        intro n
        induction n with
        | zero => intro k v _ hm; omega
        | succ n ih =>
          intro k v h1 hm
          show Ok (s_X3_priceOf_5 0 0 (8 * 0 + s) (s_X3_priceOf_R5 0 0 (8 * 0 + s) n) v (I k) g w) (fun q => Ok (s_X7_price_29 0 (I s) (s_X7_price_R29 0 (I s) n) v (I k) g w) (fun r => q = r))
          unfold s_X3_priceOf_5 s_X3_priceOf_79 s_X3_priceOf_81 s_X3_priceOf_87 s_X7_price_29 s_X7_price_84 s_X7_price_86
          rw [e34, ea, I_suc]
          by_cases hk : k < a
          · have hr : inR (I k) 12 = true := inR_I (by omega) (by decide)
            rw [if_neg (nle hk (by omega)), if_neg (nle hk (by omega)), if_neg (show ¬ (12 : Int32) ≤ I k from nle (a := 12) (by omega) (by decide)), I_tn (by omega)]
            simp only [if_pos hr]
            obtain ⟨b2, e1, e2⟩ := so_same HB1 B (rv_self (w := w)) hs hJ (r := k) (by omega) (e12 k (by omega) 0 (by decide)).symm (e12 k (by omega) 1 (by decide)).symm
            rw [show s_X3_isSo (g 1012 2 k) (g 1012 3 k) 0 (8 * 0 + s) g w = some b2 from e1, e2]
            rw [← e12 k (by omega) 2 (by decide), ← e12 k (by omega) 3 (by decide)]
            show Ok (if b2 = true then _ else _) (fun q => Ok (if b2 = true then _ else _) (fun r => q = r))
            by_cases c1 : b2 = true
            · rw [if_pos c1, if_pos c1]
              by_cases c2 : g 1012 4 k ≠ 0
              · rw [if_pos c2, if_pos (show g 1012 (2 + 2) k ≠ 0 from c2)]
                exact ih (k + 1) _ (by omega) (by omega)
              · rw [if_neg c2, if_neg (show ¬ g 1012 (2 + 2) k ≠ 0 from c2)]
                exact ih (k + 1) _ (by omega) (by omega)
            · rw [if_neg c1, if_neg c1]
              exact ih (k + 1) _ (by omega) (by omega)
          · rw [if_pos (ile (by omega) (by omega)), if_pos (ile (by omega) (by omega))]
            exact ⟨_, rfl, _, rfl, rfl⟩
      have fin : ∀ m, 13 < m → Ok ((s_X3_priceOf_R5 0 0 (8 * 0 + s) m 0 0 g w).bind fun q1 => some q1) (fun q => Ok (s_X7_price_R29 0 (I s) m 0 0 g w) (fun r => q = r)) := fun m hm => by
        obtain ⟨q, e1, q2⟩ := key m 0 0 (by omega) (by omega)
        rw [show s_X3_priceOf_R5 0 0 (8 * 0 + s) m 0 0 g w = some q from e1]
        exact ⟨q, rfl, q2⟩
      exact fin FU (by show 13 < 1000; decide)
    · rw [if_neg (fun q => e (hbb.mpr ((hasJob6 HB1 B (by omega)).mp q).2)), if_neg e]
      exact ⟨_, rfl, _, rfl, rfl⟩
  · rw [if_neg (fun q => h1 ((gs6 HB1 B).mp q)), if_neg (fun q => h1 ((gs7 rv_self B).mp q))]
    exact ⟨_, rfl, _, rfl, rfl⟩
end
