/-! the program: the calls that change at most what jobs change -/
section
variable {g' g : Nat → Nat → Nat → Int32} {w' w : Nat → Nat → Nat → Int64}
theorem gd_inv (h : Gd g' w' g w) : InvG g := h.1
theorem gd_ship (h : Gd g' w' g w) {p j : Nat} {x : Int32} (hp : p < 16) (hj : j = 7 ∨ j = 8) : Gd g' w' (gI g 4 p j x) w := by
  refine gd_gI h (by unfold jc; omega) ?_
  rw [show gk 4 j = 0 from by rcases hj with rfl | rfl <;> rfl]
  exact rgg_0 x
theorem gd_h1 (h : Gd g' w' g w) {i j : Nat} {x : Int32} (hi : i ≤ 1) (hj : j = 11 ∨ j = 12 ∨ j = 13 ∨ j = 14 ∨ j = 15) : Gd g' w' (gI g 1 i j x) w := by
  refine gd_gI h (by unfold jc; omega) ?_
  rw [show gk 1 j = 0 from by rcases hj with rfl | rfl | rfl | rfl | rfl <;> rfl]
  exact rgg_0 x
theorem wk_free {F i j : Nat} (h1 : F ≠ 2218) (h2 : F ≠ 2022) : wk F i j = 0 := by
  unfold wk
  rw [if_neg h1, if_neg h2]
  split <;> rfl
theorem gd_w5 (h : Gd g' w' g w) {i j : Nat} {x : Int64} (hi : i < 12) : Gd g' w' g (wL w 5 i j x) := by
  refine gd_wL h (by unfold jl; omega) ?_
  rw [wk_free (by decide) (by decide)]; exact rgw_0 x
theorem gd_w1 (h : Gd g' w' g w) {i j : Nat} {x : Int64} (hi : i ≤ 1) : Gd g' w' g (wL w 1 i j x) := by
  refine gd_wL h (by unfold jl; omega) ?_
  rw [wk_free (by decide) (by decide)]; exact rgw_0 x
theorem gd_5 (h : Gd g' w' g w) {i : Nat} {x : Int32} (hi : i < 12) : Gd g' w' (gI g 5 i 7 x) w :=
  gd_gI h (by unfold jc; omega) (rgg_0 x)
theorem gd_2 (h : Gd g' w' g w) {i j : Nat} {x : Int32} : Gd g' w' (gI g 2 i j x) w := gd_gI h (by unfold jc; omega) (rgg_0 x)
theorem gd_1004 (h : Gd g' w' g w) {i j : Nat} {x : Int32} : Gd g' w' (gI g 1004 i j x) w := gd_gI h (by unfold jc; omega) (rgg_0 x)
theorem gd_drop (h : Gd g' w' g w) {p : Nat} (hp : p < 16) : Gd g' w' (s_X4_dropJob p g w).1 (s_X4_dropJob p g w).2 := gd_ship (gd_ship h hp (by decide)) hp (by decide)
theorem w7_ex {p : Int32} (h : s_X6_within p 0 7 g w = true) : ∃ s, s < 8 ∧ p = I s := by
  have q := w_rg h
  rw [show (0 : Int32).toInt = 0 from rfl, show (7 : Int32).toInt = 7 from rfl] at q
  obtain ⟨k, hk, r⟩ := I_ex (v := p) (n := 7) q.1 q.2
  exact ⟨k, by omega, r⟩
theorem isTug6 {p : Int32} (h : s_X6_isTug 0 p g w = true) : ∃ t, t < 6 ∧ p = I t := by
  unfold s_X6_isTug at h
  by_cases hc : s_X6_within p 0 5 g w = true
  · have q := w_rg hc
    rw [show (0 : Int32).toInt = 0 from rfl, show (5 : Int32).toInt = 5 from rfl] at q
    obtain ⟨k, hk, r⟩ := I_ex (v := p) (n := 5) q.1 q.2
    exact ⟨k, by omega, r⟩
  · rw [if_neg hc] at h
    exact absurd h (by intro h9; cases h9)
theorem isShip6 {p : Int32} (h : s_X6_isShip 0 p g w = true) : ∃ t, t < 8 ∧ p = I t := by
  unfold s_X6_isShip at h
  by_cases hc : s_X6_within p 0 7 g w = true
  · exact w7_ex hc
  · rw [if_neg hc] at h
    exact absurd h (by intro h9; cases h9)
theorem isHour6x {p : Int32} (h : s_X6_isHour p g w = true) : ∃ k, k ≤ 47 ∧ p = I k := by
  have q := w_rg (p := p) (lo := 0) (hi := 47) (g := g) (w := w) h
  exact I_ex (n := 47) q.1 q.2
theorem isBerth6x {p : Int32} (h : s_X6_isBerth p g w = true) : ∃ k, k < 6 ∧ p = I k := by
  rw [isBerth6] at h
  have q := rngN (of_decide_eq_true h) (a := 0) (b := 5) rfl rfl
  obtain ⟨k, hk, r⟩ := I_ex (v := p) (n := 5) q.1 q.2
  exact ⟨k, by omega, r⟩
theorem isPl6 {p : Int32} (h : s_X6_isPlanned 0 p g w = true) : ∃ n, 1 ≤ n ∧ n ≤ 4 ∧ p = I n := by
  unfold s_X6_isPlanned at h
  by_cases hc : s_X6_within p 1 4 g w = true
  · have q := w_rg hc
    rw [show (1 : Int32).toInt = 1 from rfl, show (4 : Int32).toInt = 4 from rfl] at q
    obtain ⟨k, hk, r⟩ := I_ex (v := p) (n := 4) (by omega) q.2
    refine ⟨k, ?_, hk, r⟩
    rw [r, I_toInt (by omega)] at q
    omega
  · rw [if_neg hc] at h
    exact absurd h (by intro h9; cases h9)
theorem nzl_pos {x : Int64} (h : (0 : Int32) < lg_cmp x 0) : nzL x = true := by
  refine decide_eq_true ?_
  intro e
  subst e
  exact absurd h (by decide)
end
theorem a_X1_clearPlan_R42 {g' : Nat → Nat → Nat → Int32} {w' : Nat → Nat → Nat → Int64} {hb : Nat} (hh : hb ≤ 1) : ∀ (n : Nat) (k : Nat) (g : Nat → Nat → Nat → Int32) (w : Nat → Nat → Nat → Int64), (k ≤ 8) → (Gd g' w' g w) → 20 - k < n → Ok (s_X1_clearPlan_R42 hb n (I k) g w) (fun r => Gd g' w' r.1 r.2) := by
  intro n
  induction n with
  | zero => intro k g w h1 hG hm; omega
  | succ n ih =>
    intro k g w h1 hG hm
    show Ok (s_X1_clearPlan_42 hb (s_X1_clearPlan_R42 hb n) (I k) g w) _
    unfold s_X1_clearPlan_42
    refine ok_ite (fun hc => ?_) (fun hc => ?_)
    · exact ok_some ((by assumption))
    · have hk := I_nle (b := 8) (by decide) (by omega) hc
      have etn := I_tn (k := k) (by omega)
      refine ok_gd (by exact inR_I (by omega) (by omega)) ?_
      (repeat rw [I_suc])
      exact ih _ _ _ (by omega) (gd_drop (by assumption) (by omega)) (by omega)
theorem a_X1_clearPlan_R10 {g' : Nat → Nat → Nat → Int32} {w' : Nat → Nat → Nat → Int64} {hb : Nat} (hh : hb ≤ 1) : ∀ (n : Nat) (k : Nat) (g : Nat → Nat → Nat → Int32) (w : Nat → Nat → Nat → Int64), (k ≤ 6) → (Gd g' w' g w) → 20 - k < n → Ok (s_X1_clearPlan_R10 hb n (I k) g w) (fun r => Gd g' w' r.1 r.2) := by
  intro n
  induction n with
  | zero => intro k g w h1 hG hm; omega
  | succ n ih =>
    intro k g w h1 hG hm
    show Ok (s_X1_clearPlan_10 hb (s_X1_clearPlan_R10 hb n) (I k) g w) _
    unfold s_X1_clearPlan_10
    refine ok_ite (fun hc => ?_) (fun hc => ?_)
    · exact a_X1_clearPlan_R42 hh FU 0 _ _ (by decide) hG (by decide)
    · have hk := I_nle (b := 6) (by decide) (by omega) hc
      have etn := I_tn (k := k) (by omega)
      refine ok_gd (by exact inR_I (by omega) (by omega)) ?_
      (repeat rw [I_suc])
      exact ih _ _ _ (by omega) (gd_w5 (by assumption) (by omega)) (by omega)
theorem a_X1_clearPlan {g' : Nat → Nat → Nat → Int32} {w' : Nat → Nat → Nat → Int64} {g : Nat → Nat → Nat → Int32} {w : Nat → Nat → Nat → Int64} (hG : Gd g' w' g w) {hb : Nat} (hh : hb ≤ 1) : Ok (s_X1_clearPlan hb g w) (fun r => Gd g' w' r.1 r.2) := by
  unfold s_X1_clearPlan
  exact a_X1_clearPlan_R10 hh FU 0 _ _ (by decide) hG (by decide)
theorem a_X1_put_R10 {g' : Nat → Nat → Nat → Int32} {w' : Nat → Nat → Nat → Int64} {hb : Nat} (hh : hb ≤ 1) {p : Nat} (hp : p < 16) {p2 p3 : Int32} : ∀ (n : Nat) (v4 : Int64) (k : Nat) (g : Nat → Nat → Nat → Int32) (w : Nat → Nat → Nat → Int64), (k ≤ 6) → (Gd g' w' g w) → 20 - k < n → Ok (s_X1_put_R10 hb p p2 p3 n v4 (I k) g w) (fun r => Gd g' w' r.1 r.2) := by
  intro n
  induction n with
  | zero => intro v4 k g w h1 hG hm; omega
  | succ n ih =>
    intro v4 k g w h1 hG hm
    show Ok (s_X1_put_10 hb p p2 p3 (s_X1_put_R10 hb p p2 p3 n) v4 (I k) g w) _
    unfold s_X1_put_10
    refine ok_ite (fun hc => ?_) (fun hc => ?_)
    · exact ok_some ((gd_h1 (gd_ship (gd_ship (by assumption) (by omega) (by decide)) (by omega) (by decide)) (by omega) (by decide)))
    · have hk := I_nle (b := 6) (by decide) (by omega) hc
      have etn := I_tn (k := k) (by omega)
      refine ok_ite (fun hc => ?_) (fun hc => ?_)
      · refine ok_gd (by exact inR_I (by omega) (by omega)) ?_
        unfold s_X1_put_46
        (repeat rw [I_suc])
        exact ih _ _ _ _ (by omega) (gd_w5 (by assumption) (by omega)) (by omega)
      · unfold s_X1_put_46
        (repeat rw [I_suc])
        exact ih _ _ _ _ (by omega) (by assumption) (by omega)
theorem a_X1_put {g' : Nat → Nat → Nat → Int32} {w' : Nat → Nat → Nat → Int64} {g : Nat → Nat → Nat → Int32} {w : Nat → Nat → Nat → Int64} (hG : Gd g' w' g w) {hb : Nat} (hh : hb ≤ 1) {p : Nat} (hp : p < 16) {p2 p3 : Int32} : Ok (s_X1_put hb p p2 p3 g w) (fun r => Gd g' w' r.1 r.2) := by
  unfold s_X1_put
  exact a_X1_put_R10 hh hp FU _ 0 _ _ (by decide) hG (by decide)
theorem a_X1_release_R21 {g' : Nat → Nat → Nat → Int32} {w' : Nat → Nat → Nat → Int64} {hb : Nat} (hh : hb ≤ 1) {p1 : Nat} {p2 p3 : Int32} {v4 : Int64} : ∀ (n : Nat) (v6 : Int32) (k : Nat) (g : Nat → Nat → Nat → Int32) (w : Nat → Nat → Nat → Int64), (k ≤ 6) → (Gd g' w' g w) → 20 - k < n → Ok (s_X1_release_R21 hb p1 p2 p3 n v4 v6 (I k) g w) (fun r => Gd g' w' r.2.1 r.2.2) := by
  intro n
  induction n with
  | zero => intro v6 k g w h1 hG hm; omega
  | succ n ih =>
    intro v6 k g w h1 hG hm
    show Ok (s_X1_release_21 hb p1 p2 p3 (s_X1_release_R21 hb p1 p2 p3 n) v4 v6 (I k) g w) _
    unfold s_X1_release_21
    refine ok_ite (fun hc => ?_) (fun hc => ?_)
    · exact ok_some ((by assumption))
    · have hk := I_nle (b := 6) (by decide) (by omega) hc
      have etn := I_tn (k := k) (by omega)
      refine ok_ite (fun hc => ?_) (fun hc => ?_)
      · refine ok_gd (by exact inR_I (by omega) (by omega)) ?_
        refine ok_gd (by exact inR_I (by omega) (by omega)) ?_
        unfold s_X1_release_82
        (repeat rw [I_suc])
        exact ih _ _ _ _ (by omega) (gd_w5 (by assumption) (by omega)) (by omega)
      · unfold s_X1_release_82
        (repeat rw [I_suc])
        exact ih _ _ _ _ (by omega) (by assumption) (by omega)
theorem a_X1_release {g' : Nat → Nat → Nat → Int32} {w' : Nat → Nat → Nat → Int64} {g : Nat → Nat → Nat → Int32} {w : Nat → Nat → Nat → Int64} (hG : Gd g' w' g w) {hb : Nat} (hh : hb ≤ 1) {p1 : Nat} {p2 p3 : Int32} : Ok (s_X1_release hb p1 p2 p3 g w) (fun r => Gd g' w' r.2.1 r.2.2) := by
  unfold s_X1_release
  exact a_X1_release_R21 hh FU _ 0 _ _ (by decide) hG (by decide)
theorem a_X1_lift {g' : Nat → Nat → Nat → Int32} {w' : Nat → Nat → Nat → Int64} {g : Nat → Nat → Nat → Int32} {w : Nat → Nat → Nat → Int64} (hG : Gd g' w' g w) {hb : Nat} (hh : hb ≤ 1) {p : Nat} (hp : p < 16) : Ok (s_X1_lift hb p g w) (fun r => Gd g' w' r.1 r.2) := by
  unfold s_X1_lift
  refine ok_bind (a_X1_release (by assumption) (by omega)) ?_
  rintro q hq
  exact ok_some ((gd_drop (by assumption) (by omega)))
theorem a_X1_takeOff {g' : Nat → Nat → Nat → Int32} {w' : Nat → Nat → Nat → Int64} {g : Nat → Nat → Nat → Int32} {w : Nat → Nat → Nat → Int64} (hG : Gd g' w' g w) {hb : Nat} (hh : hb ≤ 1) {p : Nat} (hp : p < 16) {p2 : Int32} : Ok (s_X1_takeOff hb p p2 g w) (fun r => Gd g' w' r.2.1 r.2.2) := by
  unfold s_X1_takeOff
  refine ok_bind (a_X1_release (by assumption) (by omega)) ?_
  rintro q hq
  exact ok_some ((gd_h1 (gd_drop (by assumption) (by omega)) (by omega) (by decide)))
theorem a_X1_liftAll_R2 {g' : Nat → Nat → Nat → Int32} {w' : Nat → Nat → Nat → Int64} {hb : Nat} (hh : hb ≤ 1) {p1 : Int32} : ∀ (n : Nat) (k : Nat) (g : Nat → Nat → Nat → Int32) (w : Nat → Nat → Nat → Int64), (k ≤ 8) → (Gd g' w' g w) → 20 - k < n → Ok (s_X1_liftAll_R2 hb p1 n (I k) g w) (fun r => Gd g' w' r.1 r.2) := by
  intro n
  induction n with
  | zero => intro k g w h1 hG hm; omega
  | succ n ih =>
    intro k g w h1 hG hm
    show Ok (s_X1_liftAll_2 hb p1 (s_X1_liftAll_R2 hb p1 n) (I k) g w) _
    unfold s_X1_liftAll_2
    refine ok_ite (fun hc => ?_) (fun hc => ?_)
    · exact ok_some ((by assumption))
    · have hk := I_nle (b := 8) (by decide) (by omega) hc
      have etn := I_tn (k := k) (by omega)
      refine ok_ite (fun hc => ?_) (fun hc => ?_)
      · unfold s_X1_liftAll_29
        (repeat rw [I_suc])
        exact ih _ _ _ (by omega) (by assumption) (by omega)
      · refine ok_gd (by exact inR_I (by omega) (by omega)) ?_
        refine ok_bind (a_X1_lift (by assumption) (by omega) (by omega)) ?_
        rintro q hq
        unfold s_X1_liftAll_29
        (repeat rw [I_suc])
        exact ih _ _ _ (by omega) (by assumption) (by omega)
theorem a_X1_liftAll {g' : Nat → Nat → Nat → Int32} {w' : Nat → Nat → Nat → Int64} {g : Nat → Nat → Nat → Int32} {w : Nat → Nat → Nat → Int64} (hG : Gd g' w' g w) {hb : Nat} (hh : hb ≤ 1) {p1 : Int32} : Ok (s_X1_liftAll hb p1 g w) (fun r => Gd g' w' r.1 r.2) := by
  unfold s_X1_liftAll
  exact a_X1_liftAll_R2 hh FU 0 _ _ (by decide) hG (by decide)
theorem a_X1_seekBest_R23 {g' : Nat → Nat → Nat → Int32} {w' : Nat → Nat → Nat → Int64} {hb : Nat} (hh : hb ≤ 1) {p1 : Nat} {v2 : Int64} : ∀ (n : Nat) (k : Nat) (g : Nat → Nat → Nat → Int32) (w : Nat → Nat → Nat → Int64), (k ≤ 49) → (Gd g' w' g w) → 70 - k < n → Ok (s_X1_seekBest_R23 hb p1 n v2 (I k) g w) (fun r => Gd g' w' r.2.1 r.2.2) := by
  intro n
  induction n with
  | zero => intro k g w h1 hG hm; omega
  | succ n ih =>
    intro k g w h1 hG hm
    show Ok (s_X1_seekBest_23 hb p1 (s_X1_seekBest_R23 hb p1 n) v2 (I k) g w) _
    unfold s_X1_seekBest_23
    refine ok_ite (fun hc => ?_) (fun hc => ?_)
    · exact ok_some ((gd_h1 (by assumption) (by omega) (by decide)))
    · obtain ⟨a, ha, ea⟩ := len_ex hG.1 p1
      have hk : k ≤ 48 := by
        rw [ea, I_add] at hc
        have q := mt (I_lt (a := 48) (b := k + a) (by decide) (by omega)).mpr hc
        omega
      refine ok_ite (fun hc => ?_) (fun hc => ?_)
      · unfold s_X1_seekBest_76
        (repeat rw [I_suc])
        exact ih _ _ _ (by omega) (by assumption) (by omega)
      · refine ok_bind (a_X1_tugsFor (gd_inv (by assumption))) ?_
        rintro _ ⟨a, ha, rfl⟩
        refine ok_bind (a_X1_leastSet (gd_inv (by assumption)) (by omega) (by omega)) ?_
        rintro q hq
        refine ok_ite (fun hc => ?_) (fun hc => ?_)
        · unfold s_X1_seekBest_76
          (repeat rw [I_suc])
          exact ih _ _ _ (by omega) (gd_h1 (by assumption) (by omega) (by decide)) (by omega)
        · exact ok_some ((gd_h1 (by assumption) (by omega) (by decide)))
theorem a_X1_seekBest {g' : Nat → Nat → Nat → Int32} {w' : Nat → Nat → Nat → Int64} {g : Nat → Nat → Nat → Int32} {w : Nat → Nat → Nat → Int64} (hG : Gd g' w' g w) {hb : Nat} (hh : hb ≤ 1) {p1 : Nat} : Ok (s_X1_seekBest hb p1 g w) (fun r => Gd g' w' r.2.1 r.2.2) := by
  unfold s_X1_seekBest
  refine ok_bind (a_X1_lowHours) ?_
  rintro q hq
  refine ok_bind (a_X1_basinHours) ?_
  rintro q hq
  obtain ⟨a, ha, ea⟩ := ready_ex hG.1 p1
  rw [ea]
  exact a_X1_seekBest_R23 hh FU a _ _ (by omega) hG (by unfold FU; omega)
theorem a_X1_layEach_R5 {g' : Nat → Nat → Nat → Int32} {w' : Nat → Nat → Nat → Int64} {hb : Nat} (hh : hb ≤ 1) {p1 : Nat} {p2 : Int32} : ∀ (n : Nat) (v3 : Int32) (k : Nat) (g : Nat → Nat → Nat → Int32) (w : Nat → Nat → Nat → Int64), (k ≤ 4) → (Gd g' w' g w) → 20 - k < n → Ok (s_X1_layEach_R5 hb p1 p2 n v3 (I k) g w) (fun r => Gd g' w' r.2.1 r.2.2) := by
  intro n
  induction n with
  | zero => intro v3 k g w h1 hG hm; omega
  | succ n ih =>
    intro v3 k g w h1 hG hm
    show Ok (s_X1_layEach_5 hb p1 p2 (s_X1_layEach_R5 hb p1 p2 n) v3 (I k) g w) _
    unfold s_X1_layEach_5
    refine ok_ite (fun hc => ?_) (fun hc => ?_)
    · unfold s_X1_layEach_104
      exact ok_some ((by assumption))
    · refine ok_ite (fun hc => ?_) (fun hc => ?_)
      · unfold s_X1_layEach_104
        exact ok_some ((by assumption))
      · have hk := I_nle (b := 4) (by decide) (by omega) hc
        have etn := I_tn (k := k) (by omega)
        refine ok_gd (by exact inR_I (by omega) (by omega)) ?_
        refine ok_ite (fun hc => ?_) (fun hc => ?_)
        · obtain ⟨s, hs, es⟩ := w7_ex hc
          rw [es]
          have etn2 := I_tn (k := s) (by omega)
          refine ok_gd (by exact inR_I (by omega) (by omega)) ?_
          refine ok_gd (by exact inR_I (by omega) (by omega)) ?_
          refine ok_ite (fun hc => ?_) (fun hc => ?_)
          · unfold s_X1_layEach_61
            refine ok_ite (fun hc => ?_) (fun hc => ?_)
            · unfold s_X1_layEach_82
              refine ok_ite (fun hc => ?_) (fun hc => ?_)
              · unfold s_X1_layEach_96
                unfold s_X1_layEach_98
                (repeat rw [I_suc])
                exact ih _ _ _ _ (by omega) (by assumption) (by omega)
              · unfold s_X1_layEach_96
                unfold s_X1_layEach_98
                (repeat rw [I_suc])
                exact ih _ _ _ _ (by omega) (by assumption) (by omega)
            · refine ok_bind (a_X1_put (by assumption) (by omega) (by omega)) ?_
              rintro q hq
              unfold s_X1_layEach_82
              refine ok_ite (fun hc => ?_) (fun hc => ?_)
              · unfold s_X1_layEach_96
                unfold s_X1_layEach_98
                (repeat rw [I_suc])
                exact ih _ _ _ _ (by omega) (by assumption) (by omega)
              · unfold s_X1_layEach_96
                unfold s_X1_layEach_98
                (repeat rw [I_suc])
                exact ih _ _ _ _ (by omega) (by assumption) (by omega)
          · refine ok_bind (a_X1_seekBest (by assumption) (by omega)) ?_
            rintro q hq
            unfold s_X1_layEach_61
            refine ok_ite (fun hc => ?_) (fun hc => ?_)
            · unfold s_X1_layEach_82
              refine ok_ite (fun hc => ?_) (fun hc => ?_)
              · unfold s_X1_layEach_96
                unfold s_X1_layEach_98
                (repeat rw [I_suc])
                exact ih _ _ _ _ (by omega) (by assumption) (by omega)
              · unfold s_X1_layEach_96
                unfold s_X1_layEach_98
                (repeat rw [I_suc])
                exact ih _ _ _ _ (by omega) (by assumption) (by omega)
            · refine ok_bind (a_X1_put (by assumption) (by omega) (by omega)) ?_
              rintro q hq
              unfold s_X1_layEach_82
              refine ok_ite (fun hc => ?_) (fun hc => ?_)
              · unfold s_X1_layEach_96
                unfold s_X1_layEach_98
                (repeat rw [I_suc])
                exact ih _ _ _ _ (by omega) (by assumption) (by omega)
              · unfold s_X1_layEach_96
                unfold s_X1_layEach_98
                (repeat rw [I_suc])
                exact ih _ _ _ _ (by omega) (by assumption) (by omega)
        · unfold s_X1_layEach_98
          (repeat rw [I_suc])
          exact ih _ _ _ _ (by omega) (by assumption) (by omega)
theorem a_X1_layEach {g' : Nat → Nat → Nat → Int32} {w' : Nat → Nat → Nat → Int64} {g : Nat → Nat → Nat → Int32} {w : Nat → Nat → Nat → Int64} (hG : Gd g' w' g w) {hb : Nat} (hh : hb ≤ 1) {p1 : Nat} {p2 : Int32} : Ok (s_X1_layEach hb p1 p2 g w) (fun r => Gd g' w' r.2.1 r.2.2) := by
  unfold s_X1_layEach
  exact a_X1_layEach_R5 hh FU _ 0 _ _ (by decide) hG (by decide)
theorem a_X1_breakDown_R16 {g' : Nat → Nat → Nat → Int32} {w' : Nat → Nat → Nat → Int64} {t : Nat} (ht : t < 6) {h : Nat} (hh : h ≤ 47) : ∀ (n : Nat) (v3 : Int32) (k : Nat) (g : Nat → Nat → Nat → Int32) (w : Nat → Nat → Nat → Int64), (k ≤ 8) → (Gd g' w' g w) → 20 - k < n → Ok (s_X1_breakDown_R16 0 (I t) (I h) n v3 (I k) g w) (fun r => Gd g' w' r.2.1 r.2.2) := by
  intro n
  induction n with
  | zero => intro v3 k g w h1 hG hm; omega
  | succ n ih =>
    intro v3 k g w h1 hG hm
    show Ok (s_X1_breakDown_16 0 (I t) (I h) (s_X1_breakDown_R16 0 (I t) (I h) n) v3 (I k) g w) _
    unfold s_X1_breakDown_16
    refine ok_ite (fun hc => ?_) (fun hc => ?_)
    · have etn := I_tn (k := t) (by omega)
      refine ok_gd (by exact inR_I (by omega) (by omega)) ?_
      refine ok_gd (by exact inR_I (by omega) (by omega)) ?_
      exact ok_some ((gd_w5 (gd_5 (by assumption) (by omega)) (by omega)))
    · have hk := I_nle (b := 8) (by decide) (by omega) hc
      have etn := I_tn (k := k) (by omega)
      refine ok_gd (by exact inR_I (by omega) (by omega)) ?_
      refine ok_ite (fun hc => ?_) (fun hc => ?_)
      · refine ok_ite (fun hc => ?_) (fun hc => ?_)
        · unfold s_X1_breakDown_115
          (repeat rw [I_suc])
          exact ih _ _ _ _ (by omega) (by assumption) (by omega)
        · refine ok_bind (a_X1_goesOn (by omega)) ?_
          rintro q hq
          refine ok_ite (fun hc => ?_) (fun hc => ?_)
          · refine ok_bind (a_X1_release (by assumption) (by omega)) ?_
            rintro q hq
            unfold s_X1_breakDown_115
            (repeat rw [I_suc])
            exact ih _ _ _ _ (by omega) (gd_ship (gd_h1 (by assumption) (by omega) (by decide)) (by omega) (by decide)) (by omega)
          · refine ok_bind (a_X1_takeOff (by assumption) (by omega) (by omega)) ?_
            rintro q hq
            unfold s_X1_breakDown_115
            (repeat rw [I_suc])
            exact ih _ _ _ _ (by omega) (gd_h1 (by assumption) (by omega) (by decide)) (by omega)
      · unfold s_X1_breakDown_115
        (repeat rw [I_suc])
        exact ih _ _ _ _ (by omega) (by assumption) (by omega)
theorem a_X1_breakDown {g' : Nat → Nat → Nat → Int32} {w' : Nat → Nat → Nat → Int64} {g : Nat → Nat → Nat → Int32} {w : Nat → Nat → Nat → Int64} (hG : Gd g' w' g w) {t : Nat} (ht : t < 6) {h : Nat} (hh : h ≤ 47) : Ok (s_X1_breakDown 0 (I t) (I h) g w) (fun r => Gd g' w' r.2.1 r.2.2) := by
  unfold s_X1_breakDown
  exact a_X1_breakDown_R16 ht hh FU _ 0 _ _ (by decide) hG (by decide)
theorem a_X1_blow_R43 {g' : Nat → Nat → Nat → Int32} {w' : Nat → Nat → Nat → Int64} {p1 p2 : Int32} {v3 : Int64} : ∀ (n : Nat) (v5 : Int32) (k : Nat) (g : Nat → Nat → Nat → Int32) (w : Nat → Nat → Nat → Int64), (k ≤ 8) → (Gd g' w' g w) → 20 - k < n → Ok (s_X1_blow_R43 0 p1 p2 n v3 v5 (I k) g w) (fun r => Gd g' w' r.2.1 r.2.2) := by
  intro n
  induction n with
  | zero => intro v5 k g w h1 hG hm; omega
  | succ n ih =>
    intro v5 k g w h1 hG hm
    show Ok (s_X1_blow_43 0 p1 p2 (s_X1_blow_R43 0 p1 p2 n) v3 v5 (I k) g w) _
    unfold s_X1_blow_43
    refine ok_ite (fun hc => ?_) (fun hc => ?_)
    · exact ok_some ((by assumption))
    · have hk := I_nle (b := 8) (by decide) (by omega) hc
      have etn := I_tn (k := k) (by omega)
      refine ok_gd (by exact inR_I (by omega) (by omega)) ?_
      refine ok_ite (fun hc => ?_) (fun hc => ?_)
      · unfold s_X1_blow_96
        (repeat rw [I_suc])
        exact ih _ _ _ _ (by omega) (by assumption) (by omega)
      · refine ok_bind (a_X1_takeOff (by assumption) (by omega) (by omega)) ?_
        rintro q hq
        unfold s_X1_blow_96
        (repeat rw [I_suc])
        exact ih _ _ _ _ (by omega) (gd_h1 (by assumption) (by omega) (by decide)) (by omega)
theorem a_X1_blow {g' : Nat → Nat → Nat → Int32} {w' : Nat → Nat → Nat → Int64} {g : Nat → Nat → Nat → Int32} {w : Nat → Nat → Nat → Int64} (hG : Gd g' w' g w) {p1 p2 : Int32} : Ok (s_X1_blow 0 p1 p2 g w) (fun r => Gd g' w' r.2.1 r.2.2) := by
  unfold s_X1_blow
  exact a_X1_blow_R43 FU _ 0 _ _ (by decide) (gd_w1 (by assumption) (by omega)) (by decide)
theorem a_X2_takeOver_R2 {g' : Nat → Nat → Nat → Int32} {w' : Nat → Nat → Nat → Int64} {p0 p1 : Nat} : ∀ (n : Nat) (k : Nat) (g : Nat → Nat → Nat → Int32) (w : Nat → Nat → Nat → Int64), (k ≤ 4) → (Gd g' w' g w) → 20 - k < n → Ok (s_X2_takeOver_R2 p0 p1 n (I k) g w) (fun r => Gd g' w' r.1 r.2) := by
  intro n
  induction n with
  | zero => intro k g w h1 hG hm; omega
  | succ n ih =>
    intro k g w h1 hG hm
    show Ok (s_X2_takeOver_2 p0 p1 (s_X2_takeOver_R2 p0 p1 n) (I k) g w) _
    unfold s_X2_takeOver_2
    refine ok_ite (fun hc => ?_) (fun hc => ?_)
    · unfold s_X2_takeOver_26
      exact ok_some ((by assumption))
    · have hk := I_nle (b := 4) (by decide) (by omega) hc
      have etn := I_tn (k := k) (by omega)
      refine ok_ite (fun hc => ?_) (fun hc => ?_)
      · unfold s_X2_takeOver_26
        exact ok_some ((by assumption))
      · have hk := I_nle (b := 4) (by decide) (by omega) hc
        have etn := I_tn (k := k) (by omega)
        refine ok_gd (by exact inR_I (by omega) (by omega)) ?_
        refine ok_gd (by exact inR_I (by omega) (by omega)) ?_
        (repeat rw [I_suc])
        exact ih _ _ _ (by omega) (gd_1004 (by assumption)) (by omega)
theorem a_X2_takeOver {g' : Nat → Nat → Nat → Int32} {w' : Nat → Nat → Nat → Int64} {g : Nat → Nat → Nat → Int32} {w : Nat → Nat → Nat → Int64} (hG : Gd g' w' g w) {p0 p1 : Nat} : Ok (s_X2_takeOver p0 p1 g w) (fun r => Gd g' w' r.1 r.2) := by
  unfold s_X2_takeOver
  exact a_X2_takeOver_R2 FU 0 _ _ (by decide) hG (by decide)
theorem a_X2_exchange {g' : Nat → Nat → Nat → Int32} {w' : Nat → Nat → Nat → Int64} {g : Nat → Nat → Nat → Int32} {w : Nat → Nat → Nat → Int64} (hG : Gd g' w' g w) {a b : Nat} (ha : a < 4) (hb : b < 4) : Ok (s_X2_exchange 0 (I a) (I b) g w) (fun r => Gd g' w' r.1 r.2) := by
  unfold s_X2_exchange
  refine ok_gd (by exact inR_I (by omega) (by omega)) ?_
  refine ok_gd (by exact inR_I (by omega) (by omega)) ?_
  refine ok_gd (by exact inR_I (by omega) (by omega)) ?_
  refine ok_gd (by exact inR_I (by omega) (by omega)) ?_
  exact ok_some ((gd_1004 (gd_1004 (by assumption))))
theorem I_pre {k : Nat} (h : 1 ≤ k) : I k + (-1) = I (k - 1) := by
  have e : I k = I (k - 1) + 1 := by rw [I_suc]; congr 1; omega
  rw [e, Int32.add_assoc]
  show I (k - 1) + (1 + (-1)) = _
  rw [show (1 : Int32) + (-1) = 0 from by decide, Int32.add_zero]
theorem m1_toInt : (-1 : Int32).toInt = -1 := by decide
theorem a_X2_nextOrder_R106 {g' : Nat → Nat → Nat → Int32} {w' : Nat → Nat → Nat → Int64} {p1 : Int32} : ∀ (n : Nat) (a : Nat) (b : Nat) (g : Nat → Nat → Nat → Int32) (w : Nat → Nat → Nat → Int64), (b ≤ 3) → (a ≤ 4) → (Gd g' w' g w) → b < n → Ok (s_X2_nextOrder_R106 0 p1 n (I a) (I b) g w) (fun r => Gd g' w' r.2.1 r.2.2) := by
  intro n
  induction n with
  | zero => intro a b g w h1 h2 hG hm; omega
  | succ n ih =>
    intro a b g w h1 h2 hG hm
    show Ok (s_X2_nextOrder_106 0 p1 (s_X2_nextOrder_R106 0 p1 n) (I a) (I b) g w) _
    unfold s_X2_nextOrder_106
    refine ok_ite (fun hc => ?_) (fun hc => ?_)
    · exact ok_some ((by assumption))
    · have hk : a < b := by
        have q := mt (I_le (a := b) (b := a) (by omega) (by omega)).mpr hc
        omega
      rw [I_pre (k := b) (by omega)]
      refine ok_bind (a_X2_exchange (by assumption) (by omega) (by omega)) ?_
      rintro q hq
      (repeat rw [I_suc])
      exact ih _ _ _ _ (by omega) (by omega) (by assumption) (by omega)
theorem a_X2_nextOrder_91 {g' : Nat → Nat → Nat → Int32} {w' : Nat → Nat → Nat → Int64} {g : Nat → Nat → Nat → Int32} {w : Nat → Nat → Nat → Int64} (hG : Gd g' w' g w) {p1 : Int32} {t l h : Nat} (ht : t ≤ 3) (hl : l < 4) (hh : h < 4) : Ok (s_X2_nextOrder_91 0 p1 (I t) (I l) (I h) g w) (fun r => Gd g' w' r.2.1 r.2.2) := by
  unfold s_X2_nextOrder_91
  refine ok_bind (a_X2_exchange (by assumption) (by omega) (by omega)) ?_
  rintro q hq
  rw [I_suc]
  exact a_X2_nextOrder_R106 FU _ t _ _ (by omega) (by omega) (by assumption) (by unfold FU; omega)
theorem a_X2_nextOrder_R61 {g' : Nat → Nat → Nat → Int32} {w' : Nat → Nat → Nat → Int64} {g : Nat → Nat → Nat → Int32} {w : Nat → Nat → Nat → Int64} (hG : Gd g' w' g w) {p1 : Int32} {t l : Nat} (ht : t ≤ 3) (hl : l < 3) : ∀ (n h : Nat), l < h → h ≤ 3 → h < n → Ok (s_X2_nextOrder_R61 0 p1 n (I t) (I l) (I h) g w) (fun r => Gd g' w' r.2.1 r.2.2) := by
  intro n
  induction n with
  | zero => intro h h1 h2 hm; omega
  | succ n ih =>
    intro h h1 h2 hm
    show Ok (s_X2_nextOrder_61 0 p1 (s_X2_nextOrder_R61 0 p1 n) (I t) (I l) (I h) g w) _
    unfold s_X2_nextOrder_61
    refine ok_ite (fun hc => ?_) (fun hc => ?_)
    · exact a_X2_nextOrder_91 hG ht (by omega) (by omega)
    · rw [I_suc] at hc
      have q := mt (I_le (a := h) (b := l + 1) (by omega) (by omega)).mpr hc
      refine ok_gd (inR_I (by omega) (by omega)) ?_
      refine ok_gd (inR_I (by omega) (by omega)) ?_
      refine ok_ite (fun hc => ?_) (fun hc => ?_)
      · exact a_X2_nextOrder_91 hG ht (by omega) (by omega)
      · rw [I_pre (by omega)]
        exact ih _ (by omega) (by omega) (by omega)
theorem a_X2_nextOrder_52 {g' : Nat → Nat → Nat → Int32} {w' : Nat → Nat → Nat → Int64} {g : Nat → Nat → Nat → Int32} {w : Nat → Nat → Nat → Int64} (hG : Gd g' w' g w) {p1 v3 : Int32} {t : Nat} (ht : t ≤ 3) (h3 : v3.toInt < t) : Ok (s_X2_nextOrder_52 0 p1 (I t) v3 g w) (fun r => Gd g' w' r.2.1 r.2.2) := by
  unfold s_X2_nextOrder_52
  refine ok_ite (fun hc => ?_) (fun hc => ?_)
  · have q := Int32.le_iff_toInt_le.mp hc
    rw [show (0 : Int32).toInt = 0 from rfl] at q
    obtain ⟨l, hl, rfl⟩ := I_ex (v := v3) (n := 2) q (by omega)
    rw [I_toInt (by omega)] at h3
    exact a_X2_nextOrder_R61 hG ht (by omega) FU t (by omega) (by omega) (by unfold FU; omega)
  · exact ok_some hG
theorem a_X2_nextOrder_R25 {g' : Nat → Nat → Nat → Int32} {w' : Nat → Nat → Nat → Int64} {g : Nat → Nat → Nat → Int32} {w : Nat → Nat → Nat → Int64} (hG : Gd g' w' g w) {p1 : Int32} {t : Nat} (ht : t ≤ 3) : ∀ (n : Nat) (v3 : Int32), -1 ≤ v3.toInt → v3.toInt < t → v3.toInt + 1 < n → Ok (s_X2_nextOrder_R25 0 p1 n (I t) v3 g w) (fun r => Gd g' w' r.2.1 r.2.2) := by
  intro n
  induction n with
  | zero => intro v3 h1 h2 hm; omega
  | succ n ih =>
    intro v3 h1 h2 hm
    show Ok (s_X2_nextOrder_25 0 p1 (s_X2_nextOrder_R25 0 p1 n) (I t) v3 g w) _
    unfold s_X2_nextOrder_25
    refine ok_ite (fun hc => ?_) (fun hc => ?_)
    · exact a_X2_nextOrder_52 hG ht h2
    · have q := mt Int32.lt_iff_toInt_lt.mpr hc
      rw [show (0 : Int32).toInt = 0 from rfl] at q
      have e1 : (v3 + 1).toInt = v3.toInt + 1 := add_toInt (b := 1) (by rw [show (1 : Int32).toInt = 1 from rfl]; omega) (by rw [show (1 : Int32).toInt = 1 from rfl]; omega)
      have em : (v3 + (-1)).toInt = v3.toInt + -1 := (add_toInt (b := -1) (by rw [m1_toInt]; omega) (by rw [m1_toInt]; omega)).trans (by rw [m1_toInt])
      refine ok_gd (inR_t (by omega) (by omega)) ?_
      refine ok_gd (inR_t (by omega) (by omega)) ?_
      refine ok_ite (fun hc => ?_) (fun hc => ?_)
      · exact a_X2_nextOrder_52 hG ht h2
      · exact ih _ (by omega) (by omega) (by omega)
theorem a_X2_nextOrder {g' : Nat → Nat → Nat → Int32} {w' : Nat → Nat → Nat → Int64} {g : Nat → Nat → Nat → Int32} {w : Nat → Nat → Nat → Int64} (hG : Gd g' w' g w) {n : Nat} (h1 : 1 ≤ n) (h4 : n ≤ 4) : Ok (s_X2_nextOrder 0 (I n) g w) (fun r => Gd g' w' r.2.1 r.2.2) := by
  have key : ∀ p1, Ok (s_X2_nextOrder_18 0 p1 (I n) g w) (fun r => Gd g' w' r.2.1 r.2.2) := by
    intro p1
    unfold s_X2_nextOrder_18
    have e1 : I n - 1 = I (n - 1) := by
      rw [Int32.sub_eq_add_neg]
      exact I_pre h1
    rw [e1]
    have e2 : (I (n - 1) - 1).toInt = ((n - 1 : Nat) : Int) - 1 := by
      rw [sub_toInt (b := 1) (by rw [I_toInt (by omega), show (1 : Int32).toInt = 1 from rfl]; omega) (by rw [I_toInt (by omega), show (1 : Int32).toInt = 1 from rfl]; omega), I_toInt (by omega)]
      rfl
    exact a_X2_nextOrder_R25 hG (by omega) FU _ (by omega) (by omega) (by unfold FU; omega)
  unfold s_X2_nextOrder
  refine ok_ite (fun hc => ?_) (fun hc => ?_)
  · have q := (I_le (a := 4) (b := n) (by decide) (by omega)).mp hc
    have e : n = 4 := by omega
    subst e
    exact key _
  · exact key _
