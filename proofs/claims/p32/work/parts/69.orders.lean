/-! orders of ships -/
def W32 (c : Nat → Int64) : Nat → Int32
  | 0 => 0
  | k + 1 => W32 c k + I (SF c k 4) * ((if 0 ≤ HR c k then I (SF c k 7) else 60) - I (SF c k 2))
def FA (n : Nat) : Nat := if n = 1 then 1 else if n = 2 then 2 else if n = 3 then 6 else 24
def ORDT (n k : Nat) : Nat := ((s_X7_ordered (I n) (I k) (fun _ _ _ => 0) (fun _ _ _ => 0)).getD 0).toInt.toNat
def pm (n k i : Nat) : Nat := ORDT n k / 8 ^ i % 8
def pmx (n k i : Nat) : Nat := if i < n then pm n k i else i
def gr (r : Nat → Int32) (g : Nat → Nat → Nat → Int32) : Nat → Nat → Nat → Int32 := fun F i j => if F = 1004 ∧ i = 1 ∧ j < 4 then r j else g F i j
section
variable {g g' : Nat → Nat → Nat → Int32} {w w' : Nat → Nat → Nat → Int64} {hb : Nat} {c c' : Nat → Int64} {pl ba : Nat → Nat}
theorem waited6 (H : HB g w hb c) (B : BI c) {n : Nat} (hn : n ≤ SN c) : s_X1_waitedOf hb (I n) g w = some (W32 c n) := by
  have h8 := sn8 B
  have key : ∀ (m k : Nat), k ≤ n → 9 - k < m → s_X1_waitedOf_R4 hb (I n) m (W32 c k) (I k) g w = some (W32 c n) := by
    intro m
    induction m with
    | zero => intro k h1 hm; omega
    | succ m ih =>
      intro k h1 hm
      show s_X1_waitedOf_4 hb (I n) (s_X1_waitedOf_R4 hb (I n) m) (W32 c k) (I k) g w = _
      unfold s_X1_waitedOf_4 s_X1_waitedOf_36
      by_cases hk : k < n
      · rw [if_neg (nle hk (by omega)), if_neg (show ¬ (8 : Int32) ≤ I k from nle (a := 8) (by omega) (by decide)), if_pos (inR_I (by omega) (by decide)), I_tn (by omega), I_suc]
        have e : s_X4_waited (8 * hb + k) g w = I (SF c k 4) * ((if 0 ≤ HR c k then I (SF c k 7) else 60) - I (SF c k 2)) := by
          unfold s_X4_waited s_X4_waited_20
          rw [c_ship (j := 4) H B (show k < SN c by omega) (by decide) (by decide), c_ship (j := 2) H B (show k < SN c by omega) (by decide) (by decide)]
          by_cases hJ : JOB c k
          · rw [if_pos ((hasJob6 H B (by omega)).mpr ⟨by omega, hJ⟩), c_hour H B (by omega) hJ, if_pos (show 0 ≤ HR c k from hJ)]
          · rw [if_neg (fun q => hJ ((hasJob6 H B (by omega)).mp q).2), if_neg (show ¬ 0 ≤ HR c k from hJ)]
        rw [e]
        exact ih (k + 1) (by omega) (by omega)
      · have e : k = n := by omega
        subst e
        rw [if_pos (ile (Nat.le_refl _) (by omega))]
  exact key FU 0 (by omega) (by show 9 - 0 < 1000; omega)
theorem waited7 (R : RV w c) (B : BI c) {n : Nat} (hn : n ≤ SN c) : s_X7_waited 0 (I n) g w = some (W32 c n) := by
  have h8 := sn8 B
  have key : ∀ (m k : Nat), k ≤ n → 9 - k < m → s_X7_waited_R4 0 (I n) m (W32 c k) (I k) g w = some (W32 c n) := by
    intro m
    induction m with
    | zero => intro k h1 hm; omega
    | succ m ih =>
      intro k h1 hm
      show s_X7_waited_4 0 (I n) (s_X7_waited_R4 0 (I n) m) (W32 c k) (I k) g w = _
      unfold s_X7_waited_4 s_X7_waited_36
      by_cases hk : k < n
      · have hs : k < SN c := by omega
        rw [if_neg (nle hk (by omega)), I_suc, show s_X7_ofShip 0 (I k) 4 g w = some (I (SF c k 4)) from r_ship R B hs (by decide) (by decide), show s_X7_ofShip 0 (I k) 2 g w = some (I (SF c k 2)) from r_ship R B hs (by decide) (by decide)]
        obtain ⟨b, eb, hbb⟩ := r_hasJob (g := g) R B hs
        rw [eb]
        show (if b = true then _ else _) = _
        have := ih (k + 1) (by omega) (by omega)
        by_cases hJ : JOB c k
        · rw [if_pos (hbb.mpr hJ), show s_X7_ofShip 0 (I k) 7 g w = some (I (SF c k 7)) from r_hour R B hs hJ]
          show s_X7_waited_R4 0 (I n) m (W32 c k + I (SF c k 4) * (I (SF c k 7) - I (SF c k 2))) (I (k + 1)) g w = _
          rw [← this]
          show _ = s_X7_waited_R4 0 (I n) m (W32 c k + I (SF c k 4) * ((if 0 ≤ HR c k then I (SF c k 7) else 60) - I (SF c k 2))) (I (k + 1)) g w
          rw [if_pos (show 0 ≤ HR c k from hJ)]
        · rw [if_neg (fun q => hJ (hbb.mp q))]
          show s_X7_waited_R4 0 (I n) m (W32 c k + I (SF c k 4) * (60 - I (SF c k 2))) (I (k + 1)) g w = _
          rw [← this]
          show _ = s_X7_waited_R4 0 (I n) m (W32 c k + I (SF c k 4) * ((if 0 ≤ HR c k then I (SF c k 7) else 60) - I (SF c k 2))) (I (k + 1)) g w
          rw [if_neg (show ¬ 0 ≤ HR c k from hJ)]
      · have e : k = n := by omega
        subst e
        rw [if_pos (ile (Nat.le_refl _) (by omega))]
  exact key FU 0 (by omega) (by show 9 - 0 < 1000; omega)
/-- it is never much -/
theorem w32_rg (B : BI c) : ∀ n, n ≤ SN c → -(1000 * n : Int) ≤ (W32 c n).toInt ∧ (W32 c n).toInt ≤ 1200 * n := by
  have h8 := sn8 B
  intro n
  induction n with
  | zero =>
    intro _
    show -(1000 * ((0 : Nat) : Int)) ≤ (0 : Int32).toInt ∧ (0 : Int32).toInt ≤ 1200 * ((0 : Nat) : Int)
    decide
  | succ n ih =>
    intro hn
    have q := ih (by omega)
    have b := bs B (show n < SN c by omega)
    have w4 := nf_rb b.2.2.2.2.1
    have w4' : SF c n 4 ≤ 20 := w4.2
    have r2 : SF c n 2 ≤ 47 := (nf_rb b.2.2.1).2
    have hx : ∃ x : Nat, x ≤ 60 ∧ (if 0 ≤ HR c n then I (SF c n 7) else 60) = I x := by
      by_cases hJ : JOB c n
      · refine ⟨SF c n 7, ?_, if_pos hJ⟩
        have := last_lt B (show n < SN c by omega) hJ
        omega
      · exact ⟨60, Nat.le_refl _, if_neg hJ⟩
    obtain ⟨x, hx1, hx2⟩ := hx
    show _ ≤ (W32 c n + I (SF c n 4) * ((if 0 ≤ HR c n then I (SF c n 7) else 60) - I (SF c n 2))).toInt ∧ (W32 c n + I (SF c n 4) * ((if 0 ≤ HR c n then I (SF c n 7) else 60) - I (SF c n 2))).toInt ≤ _
    rw [hx2]
    have e1 : (I x - I (SF c n 2)).toInt = (x : Int) - SF c n 2 := by
      rw [sub_toInt (by rw [I_toInt (by omega), I_toInt (by omega)]; omega) (by rw [I_toInt (by omega), I_toInt (by omega)]; omega), I_toInt (by omega), I_toInt (by omega)]
    have m1 : (SF c n 4 : Int) * ((x : Int) - SF c n 2) ≤ 20 * 60 := by
      have a : (SF c n 4 : Int) * ((x : Int) - SF c n 2) ≤ (SF c n 4 : Int) * 60 := Int.mul_le_mul_of_nonneg_left (by omega) (by omega)
      omega
    have m2 : -(20 * 47 : Int) ≤ (SF c n 4 : Int) * ((x : Int) - SF c n 2) := by
      have a : (SF c n 4 : Int) * (-47) ≤ (SF c n 4 : Int) * ((x : Int) - SF c n 2) := Int.mul_le_mul_of_nonneg_left (by omega) (by omega)
      omega
    have e2 : (I (SF c n 4) * (I x - I (SF c n 2))).toInt = (SF c n 4 : Int) * ((x : Int) - SF c n 2) := by
      rw [Int32.toInt_mul, e1, I_toInt (by omega)]
      exact Int.bmod_eq_of_le (by omega) (by omega)
    rw [add_toInt (by rw [e2]; omega) (by rw [e2]; omega), e2]
    omega
/-! the table of orders -/
theorem ordered7 {n k : Nat} (h1 : 1 ≤ n) (h4 : n ≤ 4) (hk : k < FA n) : s_X7_ordered (I n) (I k) g w = some (I (ORDT n k)) := by
  have st69 : ∀ (p0 p1 : Int32) (rec rec' : Int32 → Int32 → Int32 → Int32 → Int32 → (Nat → Nat → Nat → Int32) → (Nat → Nat → Nat → Int64) → Option Int32) (g' : Nat → Nat → Nat → Int32) (w' : Nat → Nat → Nat → Int64), (∀ a b d e f, rec a b d e f g w = rec' a b d e f g' w') →
      ∀ (m : Nat) (a b d e f x y : Int32), s_X7_ordered_R69 p0 p1 rec m a b d e f x y g w = s_X7_ordered_R69 p0 p1 rec' m a b d e f x y g' w' := by
    intro p0 p1 rec rec' g' w' hr m
    induction m with
    | zero => intro a b d e f x y; rfl
    | succ m ih =>
      intro a b d e f x y
      show s_X7_ordered_69 p0 p1 rec (s_X7_ordered_R69 p0 p1 rec m) a b d e f x y g w = s_X7_ordered_69 p0 p1 rec' (s_X7_ordered_R69 p0 p1 rec' m) a b d e f x y g' w'
      unfold s_X7_ordered_69 s_X7_ordered_85 s_X7_ordered_103
      simp only [ih, hr]
  have st30 : ∀ (p0 p1 : Int32) (g' : Nat → Nat → Nat → Int32) (w' : Nat → Nat → Nat → Int64) (m : Nat) (a b d e f : Int32), s_X7_ordered_R30 p0 p1 m a b d e f g w = s_X7_ordered_R30 p0 p1 m a b d e f g' w' := by
    intro p0 p1 g' w' m
    induction m with
    | zero => intro a b d e f; rfl
    | succ m ih =>
      intro a b d e f
      show s_X7_ordered_30 p0 p1 (s_X7_ordered_R30 p0 p1 m) a b d e f g w = s_X7_ordered_30 p0 p1 (s_X7_ordered_R30 p0 p1 m) a b d e f g' w'
      unfold s_X7_ordered_30 s_X7_ordered_65
      simp only [st69 p0 p1 _ _ g' w' ih]
  have st4 : ∀ (p0 p1 : Int32) (g' : Nat → Nat → Nat → Int32) (w' : Nat → Nat → Nat → Int64) (m : Nat) (a b : Int32), s_X7_ordered_R4 p0 p1 m a b g w = s_X7_ordered_R4 p0 p1 m a b g' w' := by
    intro p0 p1 g' w' m
    induction m with
    | zero => intro a b; rfl
    | succ m ih =>
      intro a b
      show s_X7_ordered_4 p0 p1 (s_X7_ordered_R4 p0 p1 m) a b g w = s_X7_ordered_4 p0 p1 (s_X7_ordered_R4 p0 p1 m) a b g' w'
      unfold s_X7_ordered_4
      rw [st30 p0 p1 g' w', ih]
  have all : ∀ n, n < 5 → 1 ≤ n → ∀ k, k < FA n → s_X7_ordered (I n) (I k) (fun _ _ _ => 0) (fun _ _ _ => 0) = some (I (ORDT n k)) := by decide +kernel
  have q := all n (by omega) h1 k hk
  rw [← q]
  exact st4 _ _ _ _ _ _ _
theorem pm_a : ∀ n, n < 5 → 1 ≤ n → ∀ k, k < FA n → ∀ i, i < n → pm n k i < n := by decide +kernel
theorem pm_b : ∀ n, n < 5 → 1 ≤ n → ∀ k, k < FA n → ∀ i, i < n → ((I (ORDT n k)) >>> (((3 : Int32) * I i) &&& 31)) &&& 7 = I (pm n k i) := by decide +kernel
def pmOK (n k : Nat) : Bool := (List.range n).all (fun i => (List.range n).all (fun j => decide (i = j) || decide (¬ pm n k i = pm n k j)))
theorem pm_ok : ∀ n, n < 5 → 1 ≤ n → ∀ k, k < FA n → pmOK n k = true := by decide +kernel
theorem pm_c {n k i j : Nat} (h5 : n < 5) (h1 : 1 ≤ n) (hk : k < FA n) (hi : i < n) (hj : j < n) (hne : i ≠ j) : pm n k i ≠ pm n k j := by
  have q := List.all_eq_true.mp (List.all_eq_true.mp (pm_ok n h5 h1 k hk) i (List.mem_range.mpr hi)) j (List.mem_range.mpr hj)
  simp only [Bool.or_eq_true, decide_eq_true_eq] at q
  rcases q with q | q
  · exact absurd q hne
  · exact q
theorem pm_0 : ∀ n, n < 5 → 1 ≤ n → ∀ i, i < 4 → pmx n 0 i = i := by decide +kernel
theorem FA_le {n : Nat} : 1 ≤ FA n ∧ FA n ≤ 24 := by unfold FA; (repeat' split) <;> omega
/-! the next order -/
theorem gr_at {r : Nat → Int32} {x : Nat} (hx : x < 4) : gr r g 1004 1 x = r x := if_pos ⟨rfl, rfl, hx⟩
theorem inR4 {a : Int32} (h : inR a 4 = true) : a.toNatClampNeg < 4 := by
  have := inR_vp h
  unfold vp_in at this
  omega
theorem gr_gI {r : Nat → Int32} {a : Nat} {x : Int32} (ha : a < 4) : gI (gr r g) 1004 1 a x = gr (fun j => if j = a then x else r j) g := by
  funext F i j
  rw [gI_at]
  unfold gr
  by_cases h : F = 1004 ∧ i = 1 ∧ j = a
  · obtain ⟨rfl, rfl, rfl⟩ := h
    rw [if_pos ⟨rfl, rfl, rfl⟩, if_pos ⟨rfl, rfl, ha⟩]
    exact (if_pos rfl).symm
  · rw [if_neg h]
    by_cases h2 : F = 1004 ∧ i = 1 ∧ j < 4
    · rw [if_pos h2, if_pos h2]
      exact (if_neg (fun q => h ⟨h2.1, h2.2.1, q⟩)).symm
    · rw [if_neg h2, if_neg h2]
theorem ex_o (a b : Int32) (r : Nat → Int32) : ∃ o : Option (Nat → Int32), ∀ (g : Nat → Nat → Nat → Int32) (w : Nat → Nat → Nat → Int64), s_X2_exchange 0 a b (gr r g) w = o.map (fun q => (gr q g, w)) := by
  by_cases h1 : inR a 4 = true
  · by_cases h2 : inR b 4 = true
    · refine ⟨some (fun j => if j = b.toNatClampNeg then r a.toNatClampNeg else if j = a.toNatClampNeg then r b.toNatClampNeg else r j), fun g w => ?_⟩
      unfold s_X2_exchange
      rw [if_pos h1, if_pos h2, if_pos h1, if_pos h2, gr_at (inR4 h1), gr_at (inR4 h2), gr_gI (inR4 h1), gr_gI (inR4 h2)]
      rfl
    · refine ⟨none, fun g w => ?_⟩
      unfold s_X2_exchange
      rw [if_pos h1, if_neg h2]; rfl
  · refine ⟨none, fun g w => ?_⟩
    unfold s_X2_exchange
    rw [if_neg h1]; rfl
theorem n106_o (p : Int32) : ∀ (n : Nat) (a b : Int32) (r : Nat → Int32), ∃ o : Option (Bool × (Nat → Int32)), ∀ (g : Nat → Nat → Nat → Int32) (w : Nat → Nat → Nat → Int64), s_X2_nextOrder_R106 0 p n a b (gr r g) w = o.map (fun q => (q.1, gr q.2 g, w)) := by
  intro n
  induction n with
  | zero => intro a b r; exact ⟨none, fun g w => rfl⟩
  | succ n ih =>
    intro a b r
    by_cases h : b ≤ a
    · refine ⟨some (true, r), fun g w => ?_⟩
      show s_X2_nextOrder_106 0 p (s_X2_nextOrder_R106 0 p n) a b (gr r g) w = _
      unfold s_X2_nextOrder_106
      rw [if_pos h]; rfl
    · obtain ⟨o, ho⟩ := ex_o a b r
      cases o with
      | none =>
        refine ⟨none, fun g w => ?_⟩
        show s_X2_nextOrder_106 0 p (s_X2_nextOrder_R106 0 p n) a b (gr r g) w = _
        unfold s_X2_nextOrder_106
        rw [if_neg h, ho]; rfl
      | some r' =>
        obtain ⟨o2, ho2⟩ := ih (a + 1) (b + (-1)) r'
        refine ⟨o2, fun g w => ?_⟩
        show s_X2_nextOrder_106 0 p (s_X2_nextOrder_R106 0 p n) a b (gr r g) w = _
        unfold s_X2_nextOrder_106
        rw [if_neg h, ho]
        exact ho2 g w
theorem n91_o (p a b d : Int32) (r : Nat → Int32) : ∃ o : Option (Bool × (Nat → Int32)), ∀ (g : Nat → Nat → Nat → Int32) (w : Nat → Nat → Nat → Int64), s_X2_nextOrder_91 0 p a b d (gr r g) w = o.map (fun q => (q.1, gr q.2 g, w)) := by
  obtain ⟨o, ho⟩ := ex_o b d r
  cases o with
  | none =>
    refine ⟨none, fun g w => ?_⟩
    unfold s_X2_nextOrder_91
    rw [ho]; rfl
  | some r' =>
    obtain ⟨o2, ho2⟩ := n106_o p FU (b + 1) a r'
    refine ⟨o2, fun g w => ?_⟩
    unfold s_X2_nextOrder_91
    rw [ho]
    exact ho2 g w
theorem n61_o (p : Int32) : ∀ (n : Nat) (a b d : Int32) (r : Nat → Int32), ∃ o : Option (Bool × (Nat → Int32)), ∀ (g : Nat → Nat → Nat → Int32) (w : Nat → Nat → Nat → Int64), s_X2_nextOrder_R61 0 p n a b d (gr r g) w = o.map (fun q => (q.1, gr q.2 g, w)) := by
  intro n
  induction n with
  | zero => intro a b d r; exact ⟨none, fun g w => rfl⟩
  | succ n ih =>
    intro a b d r
    obtain ⟨o1, ho1⟩ := n91_o p a b d r
    obtain ⟨o2, ho2⟩ := ih a b (d + (-1)) r
    by_cases h : d ≤ b + 1
    · refine ⟨o1, fun g w => ?_⟩
      show s_X2_nextOrder_61 0 p (s_X2_nextOrder_R61 0 p n) a b d (gr r g) w = _
      unfold s_X2_nextOrder_61
      rw [if_pos h]; exact ho1 g w
    · by_cases h1 : inR d 4 = true
      · by_cases h2 : inR b 4 = true
        · by_cases h3 : r b.toNatClampNeg ≤ r d.toNatClampNeg
          · refine ⟨o1, fun g w => ?_⟩
            show s_X2_nextOrder_61 0 p (s_X2_nextOrder_R61 0 p n) a b d (gr r g) w = _
            unfold s_X2_nextOrder_61
            rw [if_neg h, if_pos h1, if_pos h2, gr_at (inR4 h1), gr_at (inR4 h2), if_pos h3]; exact ho1 g w
          · refine ⟨o2, fun g w => ?_⟩
            show s_X2_nextOrder_61 0 p (s_X2_nextOrder_R61 0 p n) a b d (gr r g) w = _
            unfold s_X2_nextOrder_61
            rw [if_neg h, if_pos h1, if_pos h2, gr_at (inR4 h1), gr_at (inR4 h2), if_neg h3]; exact ho2 g w
        · refine ⟨none, fun g w => ?_⟩
          show s_X2_nextOrder_61 0 p (s_X2_nextOrder_R61 0 p n) a b d (gr r g) w = _
          unfold s_X2_nextOrder_61
          rw [if_neg h, if_pos h1, if_neg h2]; rfl
      · refine ⟨none, fun g w => ?_⟩
        show s_X2_nextOrder_61 0 p (s_X2_nextOrder_R61 0 p n) a b d (gr r g) w = _
        unfold s_X2_nextOrder_61
        rw [if_neg h, if_neg h1]; rfl
theorem n52_o (p a b : Int32) (r : Nat → Int32) : ∃ o : Option (Bool × (Nat → Int32)), ∀ (g : Nat → Nat → Nat → Int32) (w : Nat → Nat → Nat → Int64), s_X2_nextOrder_52 0 p a b (gr r g) w = o.map (fun q => (q.1, gr q.2 g, w)) := by
  by_cases h : 0 ≤ b
  · obtain ⟨o, ho⟩ := n61_o p FU a b a r
    refine ⟨o, fun g w => ?_⟩
    unfold s_X2_nextOrder_52
    rw [if_pos h]; exact ho g w
  · refine ⟨some (false, r), fun g w => ?_⟩
    unfold s_X2_nextOrder_52
    rw [if_neg h]; rfl
theorem n25_o (p : Int32) : ∀ (n : Nat) (a b : Int32) (r : Nat → Int32), ∃ o : Option (Bool × (Nat → Int32)), ∀ (g : Nat → Nat → Nat → Int32) (w : Nat → Nat → Nat → Int64), s_X2_nextOrder_R25 0 p n a b (gr r g) w = o.map (fun q => (q.1, gr q.2 g, w)) := by
  intro n
  induction n with
  | zero => intro a b r; exact ⟨none, fun g w => rfl⟩
  | succ n ih =>
    intro a b r
    obtain ⟨o1, ho1⟩ := n52_o p a b r
    obtain ⟨o2, ho2⟩ := ih a (b + (-1)) r
    by_cases h : b < 0
    · refine ⟨o1, fun g w => ?_⟩
      show s_X2_nextOrder_25 0 p (s_X2_nextOrder_R25 0 p n) a b (gr r g) w = _
      unfold s_X2_nextOrder_25
      rw [if_pos h]; exact ho1 g w
    · by_cases h1 : inR b 4 = true
      · by_cases h2 : inR (b + 1) 4 = true
        · by_cases h3 : r b.toNatClampNeg ≤ r (b + 1).toNatClampNeg
          · refine ⟨o1, fun g w => ?_⟩
            show s_X2_nextOrder_25 0 p (s_X2_nextOrder_R25 0 p n) a b (gr r g) w = _
            unfold s_X2_nextOrder_25
            rw [if_neg h, if_pos h1, if_pos h2, gr_at (inR4 h1), gr_at (inR4 h2), if_pos h3]; exact ho1 g w
          · refine ⟨o2, fun g w => ?_⟩
            show s_X2_nextOrder_25 0 p (s_X2_nextOrder_R25 0 p n) a b (gr r g) w = _
            unfold s_X2_nextOrder_25
            rw [if_neg h, if_pos h1, if_pos h2, gr_at (inR4 h1), gr_at (inR4 h2), if_neg h3]; exact ho2 g w
        · refine ⟨none, fun g w => ?_⟩
          show s_X2_nextOrder_25 0 p (s_X2_nextOrder_R25 0 p n) a b (gr r g) w = _
          unfold s_X2_nextOrder_25
          rw [if_neg h, if_pos h1, if_neg h2]; rfl
      · refine ⟨none, fun g w => ?_⟩
        show s_X2_nextOrder_25 0 p (s_X2_nextOrder_R25 0 p n) a b (gr r g) w = _
        unfold s_X2_nextOrder_25
        rw [if_neg h, if_neg h1]; rfl
theorem next_o (p : Int32) (r : Nat → Int32) : ∃ o : Option (Bool × (Nat → Int32)), ∀ (g : Nat → Nat → Nat → Int32) (w : Nat → Nat → Nat → Int64), s_X2_nextOrder 0 p (gr r g) w = o.map (fun q => (q.1, gr q.2 g, w)) := by
  by_cases h : 4 ≤ p
  · obtain ⟨o, ho⟩ := n25_o p FU (4 - 1) ((4 - 1) - 1) r
    refine ⟨o, fun g w => ?_⟩
    unfold s_X2_nextOrder s_X2_nextOrder_18
    rw [if_pos h]; exact ho g w
  · obtain ⟨o, ho⟩ := n25_o p FU (p - 1) ((p - 1) - 1) r
    refine ⟨o, fun g w => ?_⟩
    unfold s_X2_nextOrder s_X2_nextOrder_18
    rw [if_neg h]; exact ho g w
def nxtOK (n k : Nat) : Bool := ((s_X2_nextOrder 0 (I n) (gr (fun j => I (pmx n k j)) (fun _ _ _ => 0)) (fun _ _ _ => 0)).map (fun q => if k + 1 < FA n then q.1 && (decide (q.2.1 1004 1 0 = I (pmx n (k + 1) 0)) && (decide (q.2.1 1004 1 1 = I (pmx n (k + 1) 1)) && (decide (q.2.1 1004 1 2 = I (pmx n (k + 1) 2)) && decide (q.2.1 1004 1 3 = I (pmx n (k + 1) 3))))) else !q.1)).getD false
theorem nxt_all : ∀ n, n < 5 → 1 ≤ n → ∀ k, k < FA n → nxtOK n k = true := by decide +kernel
theorem next6 {n k : Nat} (h1 : 1 ≤ n) (h4 : n ≤ 4) (hk : k < FA n) (hg : ∀ i, i < 4 → g 1004 1 i = I (pmx n k i)) :
    ∃ b g', s_X2_nextOrder 0 (I n) g w = some (b, g', w) ∧ (∀ F i j, ¬ (F = 1004 ∧ i = 1) → g' F i j = g F i j) ∧ ((b = true ∧ k + 1 < FA n ∧ ∀ i, i < 4 → g' 1004 1 i = I (pmx n (k + 1) i)) ∨ (b = false ∧ ¬ k + 1 < FA n)) := by
  have eg : gr (fun j => I (pmx n k j)) g = g := by
    funext F i j
    unfold gr
    by_cases h : F = 1004 ∧ i = 1 ∧ j < 4
    · rw [if_pos h]
      obtain ⟨rfl, rfl, hj⟩ := h
      exact (hg j hj).symm
    · rw [if_neg h]
  obtain ⟨o, ho⟩ := next_o (I n) (fun j => I (pmx n k j))
  have q := nxt_all n (by omega) h1 k hk
  unfold nxtOK at q
  rw [ho] at q
  have h := ho g w
  rw [eg] at h
  cases o with
  | none => cases q
  | some q0 =>
    have q' : (if k + 1 < FA n then q0.1 && (decide (gr q0.2 (fun _ _ _ => 0) 1004 1 0 = I (pmx n (k + 1) 0)) && (decide (gr q0.2 (fun _ _ _ => 0) 1004 1 1 = I (pmx n (k + 1) 1)) && (decide (gr q0.2 (fun _ _ _ => 0) 1004 1 2 = I (pmx n (k + 1) 2)) && decide (gr q0.2 (fun _ _ _ => 0) 1004 1 3 = I (pmx n (k + 1) 3))))) else !q0.1) = true := q
    refine ⟨q0.1, gr q0.2 g, h, fun F i j p => by unfold gr; rw [if_neg (fun p2 => p ⟨p2.1, p2.2.1⟩)], ?_⟩
    have r : ∀ j, j < 4 → gr q0.2 g 1004 1 j = gr q0.2 (fun _ _ _ => 0) 1004 1 j := fun j hj => by rw [gr_at hj, gr_at hj]
    by_cases e : k + 1 < FA n
    · rw [if_pos e] at q'
      simp only [Bool.and_eq_true, decide_eq_true_eq] at q'
      refine Or.inl ⟨q'.1, e, fun i hi => ?_⟩
      rw [r i hi]
      have : i = 0 ∨ i = 1 ∨ i = 2 ∨ i = 3 := by omega
      rcases this with rfl | rfl | rfl | rfl
      · exact q'.2.1
      · exact q'.2.2.1
      · exact q'.2.2.2.1
      · exact q'.2.2.2.2
    · rw [if_neg e] at q'
      refine Or.inr ⟨?_, e⟩
      cases hq : q0.1 with
      | false => rfl
      | true => rw [hq] at q'; cases q'
theorem over6 {a b : Nat} (hab : a ≠ b) : ∃ g', s_X2_takeOver a b g w = some (g', w) ∧ (∀ i, i < 4 → g' 1004 b i = g 1004 a i) ∧ ∀ F i j, ¬ (F = 1004 ∧ i = b) → g' F i j = g F i j := by
  have key : ∀ (n k : Nat) (g1 : Nat → Nat → Nat → Int32), k ≤ 4 → (∀ i, i < k → g1 1004 b i = g 1004 a i) → (∀ F i j, ¬ (F = 1004 ∧ i = b) → g1 F i j = g F i j) → 5 - k < n →
      ∃ g', s_X2_takeOver_R2 a b n (I k) g1 w = some (g', w) ∧ (∀ i, i < 4 → g' 1004 b i = g 1004 a i) ∧ ∀ F i j, ¬ (F = 1004 ∧ i = b) → g' F i j = g F i j := by
    intro n
    induction n with
    | zero => intro k g1 h1 h2 h3 hm; omega
    | succ n ih =>
      intro k g1 h1 h2 h3 hm
      show ∃ g', s_X2_takeOver_2 a b (s_X2_takeOver_R2 a b n) (I k) g1 w = some (g', w) ∧ _
      unfold s_X2_takeOver_2 s_X2_takeOver_26
      by_cases hk : k < 4
      · rw [if_neg (show ¬ (4 : Int32) ≤ I k from nle (a := 4) hk (by decide)), if_neg (show ¬ (4 : Int32) ≤ I k from nle (a := 4) hk (by decide)), if_pos (inR_I hk (by decide)), if_pos (inR_I hk (by decide)), I_tn (by omega), I_suc]
        refine ih (k + 1) _ (by omega) (fun i hi => ?_) (fun F i j p => ?_) (by omega)
        · rw [gI_at]
          by_cases e : i = k
          · subst e
            rw [if_pos ⟨rfl, rfl, rfl⟩]
            exact h3 _ _ _ (by omega)
          · rw [if_neg (by omega)]
            exact h2 i (by omega)
        · rw [gI_at, if_neg (fun q => p ⟨q.1, q.2.1⟩)]
          exact h3 F i j p
      · have e : k = 4 := by omega
        subst e
        rw [if_pos (show (4 : Int32) ≤ I 4 by decide)]
        exact ⟨g1, rfl, h2, h3⟩
  exact key FU 0 g (by decide) (fun i hi => by omega) (fun _ _ _ _ => rfl) (by decide)
end
