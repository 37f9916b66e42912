/-! the program: plans, and the calls that change at most what jobs change -/
theorem gd_copy1 {g' g : Nat → Nat → Nat → Int32} {w' w : Nat → Nat → Nat → Int64} (h : Gd g' w' g w) : Ok (s_X1_copyFrom 1 0 g w) (fun r => Gd g' w' r.1 r.2) := by
  refine ⟨_, copyFrom_e (by decide), ?_⟩
  show Gd g' w' (cpg 6 8 15 1 0 g) (cpw 6 15 1 0 w)
  have t1 : td 1 = 1 := rfl
  refine ⟨?_, ?_, ?_, ?_, ?_⟩
  · intro F a j
    unfold cpg
    split
    · next q => obtain ⟨rfl, _, _⟩ := q; exact rgg_0 _
    · split
      · next q => obtain ⟨rfl, _, _⟩ := q; exact rgg_0 _
      · split
        · next q => obtain ⟨rfl, _, _⟩ := q; exact h.1 _ _ _
        · split
          · next q => obtain ⟨rfl, _, _⟩ := q; exact h.1 _ _ _
          · split
            · next q => obtain ⟨rfl, _, _⟩ := q; exact h.1 _ _ _
            · exact h.1 _ _ _
  · intro F a j
    unfold cpw
    split
    · next q => obtain ⟨rfl, _, _⟩ := q; rw [wk_free (by decide) (by decide)]; exact rgw_0 _
    · split
      · next q => obtain ⟨rfl, _, _⟩ := q; rw [wk_free (by decide) (by decide)]; exact rgw_0 _
      · exact h.2.1 _ _ _
  · intro i hi k hk
    have e1 : cpg 6 8 15 1 0 g 7 0 2 = g 7 0 2 := by
      unfold cpg
      rw [if_neg (by omega), if_neg (by omega), if_neg (by omega), if_neg (by omega), if_neg (by omega)]
    have e2 : ∀ x, cpw 6 15 1 0 w 2654 0 x = w 2654 0 x := by
      intro x
      unfold cpw
      rw [if_neg (by omega), if_neg (by omega)]
    rw [e1] at hi
    rw [e2]
    exact h.2.2.1 i hi k hk
  · intro F a j q
    rw [← h.2.2.2.1 F a j q]
    unfold jc at q
    unfold cpg
    rw [t1, if_neg (by omega), if_neg (by omega), if_neg (by omega), if_neg (by omega), if_neg (by omega)]
  · intro F a j q
    rw [← h.2.2.2.2 F a j q]
    unfold jl at q
    unfold cpw
    rw [if_neg (by omega), if_neg (by omega)]
theorem a_X2_findOrder_R24 {g' : Nat → Nat → Nat → Int32} {w' : Nat → Nat → Nat → Int64} {n0 : Nat} (hn1 : 1 ≤ n0) (hn : n0 ≤ 4) {p1 : Nat} : ∀ (n : Nat) (v3 : Bool) (k : Nat) (g : Nat → Nat → Nat → Int32) (w : Nat → Nat → Nat → Int64), (k ≤ 24) → (Gd g' w' g w) → 30 - k < n → Ok (s_X2_findOrder_R24 0 p1 (I n0) n v3 (I k) g w) (fun r => Gd g' w' r.1 r.2) := by
  intro n
  induction n with
  | zero => intro v3 k g w h1 hG hm; omega
  | succ n ih =>
    intro v3 k g w h1 hG hm
    show Ok (s_X2_findOrder_24 0 p1 (I n0) (s_X2_findOrder_R24 0 p1 (I n0) n) v3 (I k) g w) _
    unfold s_X2_findOrder_24
    refine ok_ite (fun hc => ?_) (fun hc => ?_)
    · refine ok_ite (fun hc => ?_) (fun hc => ?_)
      · unfold s_X2_findOrder_108
        exact ok_some ((by assumption))
      · have hk := I_nle (b := 24) (by decide) (by omega) hc
        have etn := I_tn (k := k) (by omega)
        refine ok_bind (a_X1_clearPlan (by assumption) (by decide)) ?_
        rintro q hq
        refine ok_bind (a_X1_layEach (by assumption) (by decide)) ?_
        rintro q hq
        refine ok_bind (a_X1_waitedOf) ?_
        rintro q hq
        refine ok_ite (fun hc => ?_) (fun hc => ?_)
        · unfold s_X2_findOrder_79
          refine ok_bind (a_X2_takeOver (gd_2 (by assumption))) ?_
          rintro q hq
          unfold s_X2_findOrder_96
          refine ok_bind (a_X2_nextOrder (by assumption) (by omega) (by omega)) ?_
          rintro q hq
          (repeat rw [I_suc])
          exact ih _ _ _ _ (by omega) (by assumption) (by omega)
        · refine ok_ite (fun hc => ?_) (fun hc => ?_)
          · unfold s_X2_findOrder_96
            refine ok_bind (a_X2_nextOrder (by assumption) (by omega) (by omega)) ?_
            rintro q hq
            (repeat rw [I_suc])
            exact ih _ _ _ _ (by omega) (by assumption) (by omega)
          · unfold s_X2_findOrder_79
            refine ok_bind (a_X2_takeOver (gd_2 (by assumption))) ?_
            rintro q hq
            unfold s_X2_findOrder_96
            refine ok_bind (a_X2_nextOrder (by assumption) (by omega) (by omega)) ?_
            rintro q hq
            (repeat rw [I_suc])
            exact ih _ _ _ _ (by omega) (by assumption) (by omega)
    · unfold s_X2_findOrder_108
      exact ok_some ((by assumption))
theorem a_X2_findOrder {g' : Nat → Nat → Nat → Int32} {w' : Nat → Nat → Nat → Int64} {g : Nat → Nat → Nat → Int32} {w : Nat → Nat → Nat → Int64} (hG : Gd g' w' g w) {n0 : Nat} (hn1 : 1 ≤ n0) (hn : n0 ≤ 4) : Ok (s_X2_findOrder 0 0 (I n0) g w) (fun r => Gd g' w' r.1 r.2) := by
  unfold s_X2_findOrder
  refine ok_bind (gd_copy1 (by assumption)) ?_
  rintro q hq
  refine ok_bind (a_X2_takeOver (by assumption)) ?_
  rintro q hq
  exact a_X2_findOrder_R24 hn1 hn FU _ 0 _ _ (by decide) (by assumption) (by decide)
theorem a_X2_findMended_R7 {g' : Nat → Nat → Nat → Int32} {w' : Nat → Nat → Nat → Int64} {n0 : Nat} (hn1 : 1 ≤ n0) (hn : n0 ≤ 4) : ∀ (n : Nat) (k : Nat) (g : Nat → Nat → Nat → Int32) (w : Nat → Nat → Nat → Int64), (k ≤ 16) → (Gd g' w' g w) → 30 - k < n → Ok (s_X2_findMended_R7 0 0 (I n0) n (I k) g w) (fun r => Gd g' w' r.1 r.2) := by
  intro n
  induction n with
  | zero => intro k g w h1 hG hm; omega
  | succ n ih =>
    intro k g w h1 hG hm
    show Ok (s_X2_findMended_7 0 0 (I n0) (s_X2_findMended_R7 0 0 (I n0) n) (I k) g w) _
    unfold s_X2_findMended_7
    refine ok_ite (fun hc => ?_) (fun hc => ?_)
    · exact ok_some ((by assumption))
    · have hk : k < 16 := by
        rw [(shl4 hn).1] at hc
        have q := mt (I_le (a := 2 ^ n0) (b := k) (by have := (shl4 hn).2; omega) (by omega)).mpr hc
        have := (shl4 hn).2
        omega
      refine ok_bind (a_X2_allHaveJobs) ?_
      rintro q hq
      refine ok_ite (fun hc => ?_) (fun hc => ?_)
      · refine ok_bind (gd_copy1 (by assumption)) ?_
        rintro q hq
        refine ok_bind (a_X1_liftAll (by assumption) (by decide)) ?_
        rintro q hq
        refine ok_bind (a_X1_layEach (by assumption) (by decide)) ?_
        rintro q hq
        refine ok_bind (a_X1_waitedOf) ?_
        rintro q hq
        refine ok_ite (fun hc => ?_) (fun hc => ?_)
        · unfold s_X2_findMended_91
          (repeat rw [I_suc])
          exact ih _ _ _ (by omega) (gd_2 (gd_2 (gd_2 (by assumption)))) (by omega)
        · unfold s_X2_findMended_91
          (repeat rw [I_suc])
          exact ih _ _ _ (by omega) (by assumption) (by omega)
      · unfold s_X2_findMended_91
        (repeat rw [I_suc])
        exact ih _ _ _ (by omega) (by assumption) (by omega)
theorem a_X2_findMended {g' : Nat → Nat → Nat → Int32} {w' : Nat → Nat → Nat → Int64} {g : Nat → Nat → Nat → Int32} {w : Nat → Nat → Nat → Int64} (hG : Gd g' w' g w) {n0 : Nat} (hn1 : 1 ≤ n0) (hn : n0 ≤ 4) : Ok (s_X2_findMended 0 0 (I n0) g w) (fun r => Gd g' w' r.1 r.2) := by
  unfold s_X2_findMended
  exact a_X2_findMended_R7 hn1 hn FU 0 _ _ (by decide) (gd_2 (by assumption)) (by decide)
theorem a_X6_way {g' : Nat → Nat → Nat → Int32} {w' : Nat → Nat → Nat → Int64} {g : Nat → Nat → Nat → Int32} {w : Nat → Nat → Nat → Int64} (hG : Gd g' w' g w) {p1 p2 : Int32} : Ok (s_X6_way 0 p1 p2 g w) (fun _ => True) := by
  unfold s_X6_way
  refine ok_ite (fun hc => ?_) (fun hc => ?_)
  · obtain ⟨b_p1, hb_p1, rfl⟩ := isBerth6x hc
    refine ok_ite (fun hc => ?_) (fun hc => ?_)
    · obtain ⟨b_p2, hb_p2, rfl⟩ := isBerth6x hc
      refine ok_bind (a_X0_hoursBetween) ?_
      rintro q hq
      exact ok_some trivial
    · unfold s_X6_way_14
      exact ok_some trivial
  · unfold s_X6_way_14
    exact ok_some trivial
theorem a_X6_needs {g' : Nat → Nat → Nat → Int32} {w' : Nat → Nat → Nat → Int64} {g : Nat → Nat → Nat → Int32} {w : Nat → Nat → Nat → Int64} (hG : Gd g' w' g w) {p1 p2 : Int32} : Ok (s_X6_needs 0 p1 p2 g w) (fun _ => True) := by
  unfold s_X6_needs
  refine ok_ite (fun hc => ?_) (fun hc => ?_)
  · obtain ⟨s, hs, rfl⟩ := isShip6 hc
    have etn := I_tn (k := s) (by omega)
    refine ok_ite (fun hc => ?_) (fun hc => ?_)
    · obtain ⟨h_p2, hh_p2, rfl⟩ := isHour6x hc
      refine ok_gd (by exact inR_I (by omega) (by omega)) ?_
      refine ok_bind (a_X1_neededPull) ?_
      rintro q hq
      exact ok_some trivial
    · unfold s_X6_needs_15
      exact ok_some trivial
  · unfold s_X6_needs_15
    exact ok_some trivial
theorem a_X6_fuel {g' : Nat → Nat → Nat → Int32} {w' : Nat → Nat → Nat → Int64} {g : Nat → Nat → Nat → Int32} {w : Nat → Nat → Nat → Int64} (hG : Gd g' w' g w) {p1 p2 : Int32} : Ok (s_X6_fuel 0 p1 p2 g w) (fun _ => True) := by
  unfold s_X6_fuel
  refine ok_ite (fun hc => ?_) (fun hc => ?_)
  · obtain ⟨t, ht, rfl⟩ := isTug6 hc
    have etn := I_tn (k := t) (by omega)
    refine ok_ite (fun hc => ?_) (fun hc => ?_)
    · refine ok_gd (by exact inR_I (by omega) (by omega)) ?_
      refine ok_bind (a_X5_fuelBehind) ?_
      rintro q hq
      exact ok_some trivial
    · unfold s_X6_fuel_18
      exact ok_some trivial
  · unfold s_X6_fuel_18
    exact ok_some trivial
theorem a_X6_job {g' : Nat → Nat → Nat → Int32} {w' : Nat → Nat → Nat → Int64} {g : Nat → Nat → Nat → Int32} {w : Nat → Nat → Nat → Int64} (hG : Gd g' w' g w) {p1 p2 : Int32} : Ok (s_X6_job 0 p1 p2 g w) (fun _ => True) := by
  unfold s_X6_job
  refine ok_ite (fun hc => ?_) (fun hc => ?_)
  · obtain ⟨s, hs, rfl⟩ := isShip6 hc
    have etn := I_tn (k := s) (by omega)
    refine ok_ite (fun hc => ?_) (fun hc => ?_)
    · refine ok_gd (by exact inR_I (by omega) (by omega)) ?_
      refine ok_ite (fun hc => ?_) (fun hc => ?_)
      · refine ok_ite (fun hc => ?_) (fun hc => ?_)
        · unfold s_X6_job_54
          exact ok_some trivial
        · unfold s_X6_job_54
          exact ok_some trivial
      · exact ok_some trivial
    · unfold s_X6_job_17
      exact ok_some trivial
  · unfold s_X6_job_17
    exact ok_some trivial
theorem a_X6_work {g' : Nat → Nat → Nat → Int32} {w' : Nat → Nat → Nat → Int64} {g : Nat → Nat → Nat → Int32} {w : Nat → Nat → Nat → Int64} (hG : Gd g' w' g w) {p1 p2 : Int32} : Ok (s_X6_work 0 p1 p2 g w) (fun _ => True) := by
  unfold s_X6_work
  refine ok_ite (fun hc => ?_) (fun hc => ?_)
  · obtain ⟨t, ht, rfl⟩ := isTug6 hc
    have etn := I_tn (k := t) (by omega)
    refine ok_ite (fun hc => ?_) (fun hc => ?_)
    · refine ok_ite (fun hc => ?_) (fun hc => ?_)
      · refine ok_gd (by exact inR_I (by omega) (by omega)) ?_
        unfold s_X6_work_52
        exact ok_some trivial
      · refine ok_gd (by exact inR_I (by omega) (by omega)) ?_
        unfold s_X6_work_52
        exact ok_some trivial
    · unfold s_X6_work_17
      exact ok_some trivial
  · unfold s_X6_work_17
    exact ok_some trivial
theorem a_X6_about {g' : Nat → Nat → Nat → Int32} {w' : Nat → Nat → Nat → Int64} {g : Nat → Nat → Nat → Int32} {w : Nat → Nat → Nat → Int64} (hG : Gd g' w' g w) {p1 p2 : Int32} : Ok (s_X6_about 0 p1 p2 g w) (fun _ => True) := by
  unfold s_X6_about
  refine ok_ite (fun hc => ?_) (fun hc => ?_)
  · obtain ⟨t, ht, rfl⟩ := isTug6 hc
    have etn := I_tn (k := t) (by omega)
    refine ok_gd (by exact inR_I (by omega) (by omega)) ?_
    refine ok_ite (fun hc => ?_) (fun hc => ?_)
    · exact ok_some trivial
    · refine ok_ite (fun hc => ?_) (fun hc => ?_)
      · exact ok_some trivial
      · refine ok_ite (fun hc => ?_) (fun hc => ?_)
        · exact ok_some trivial
        · refine ok_ite (fun hc => ?_) (fun hc => ?_)
          · exact ok_some trivial
          · refine ok_ite (fun hc => ?_) (fun hc => ?_)
            · exact ok_some trivial
            · refine ok_ite (fun hc => ?_) (fun hc => ?_)
              · exact ok_some trivial
              · refine ok_ite (fun hc => ?_) (fun hc => ?_)
                · refine ok_ite (fun hc => ?_) (fun hc => ?_)
                  · unfold s_X6_about_116
                    exact ok_some trivial
                  · unfold s_X6_about_116
                    exact ok_some trivial
                · refine ok_ite (fun hc => ?_) (fun hc => ?_)
                  · refine ok_bind (a_X1_lastBerth (by omega)) ?_
                    rintro q hq
                    exact ok_some trivial
                  · exact ok_some trivial
  · exact ok_some trivial
theorem a_X6_count {g' : Nat → Nat → Nat → Int32} {w' : Nat → Nat → Nat → Int64} {g : Nat → Nat → Nat → Int32} {w : Nat → Nat → Nat → Int64} (hG : Gd g' w' g w) {p1 : Int32} : Ok (s_X6_count 0 p1 g w) (fun _ => True) := by
  unfold s_X6_count
  refine ok_ite (fun hc => ?_) (fun hc => ?_)
  · exact ok_some trivial
  · refine ok_ite (fun hc => ?_) (fun hc => ?_)
    · exact ok_some trivial
    · refine ok_ite (fun hc => ?_) (fun hc => ?_)
      · refine ok_bind (a_X1_jobsLaid) ?_
        rintro q hq
        exact ok_some trivial
      · refine ok_ite (fun hc => ?_) (fun hc => ?_)
        · exact ok_some trivial
        · refine ok_ite (fun hc => ?_) (fun hc => ?_)
          · exact ok_some trivial
          · refine ok_ite (fun hc => ?_) (fun hc => ?_)
            · exact ok_some trivial
            · refine ok_ite (fun hc => ?_) (fun hc => ?_)
              · exact ok_some trivial
              · refine ok_ite (fun hc => ?_) (fun hc => ?_)
                · exact ok_some trivial
                · refine ok_ite (fun hc => ?_) (fun hc => ?_)
                  · exact ok_some trivial
                  · refine ok_ite (fun hc => ?_) (fun hc => ?_)
                    · exact ok_some trivial
                    · exact ok_some trivial
theorem a_X6_price {g' : Nat → Nat → Nat → Int32} {w' : Nat → Nat → Nat → Int64} {g : Nat → Nat → Nat → Int32} {w : Nat → Nat → Nat → Int64} (hG : Gd g' w' g w) {p1 : Int32} : Ok (s_X6_price 0 p1 g w) (fun _ => True) := by
  unfold s_X6_price
  refine ok_ite (fun hc => ?_) (fun hc => ?_)
  · obtain ⟨s, hs, rfl⟩ := isShip6 hc
    have etn := I_tn (k := s) (by omega)
    refine ok_gd (by exact inR_I (by omega) (by omega)) ?_
    refine ok_ite (fun hc => ?_) (fun hc => ?_)
    · refine ok_bind (a_X3_priceOf) ?_
      rintro q hq
      unfold s_X6_price_47
      exact ok_some trivial
    · unfold s_X6_price_47
      exact ok_some trivial
  · exact ok_some trivial
theorem a_X6_pool {g' : Nat → Nat → Nat → Int32} {w' : Nat → Nat → Nat → Int64} {g : Nat → Nat → Nat → Int32} {w : Nat → Nat → Nat → Int64} (hG : Gd g' w' g w) {p1 p2 : Int32} : Ok (s_X6_pool 0 p1 p2 g w) (fun _ => True) := by
  unfold s_X6_pool
  refine ok_ite (fun hc => ?_) (fun hc => ?_)
  · refine ok_ite (fun hc => ?_) (fun hc => ?_)
    · refine ok_bind (a_X1_pullHours) ?_
      rintro q hq
      refine ok_bind (a_X1_pullHours) ?_
      rintro q hq
      refine ok_ite (fun hc => ?_) (fun hc => ?_)
      · refine ok_gd (by exact nzl_pos (by assumption)) ?_
        unfold s_X6_pool_61
        refine ok_ite (fun hc => ?_) (fun hc => ?_)
        · unfold s_X6_pool_77
          exact ok_some trivial
        · unfold s_X6_pool_77
          exact ok_some trivial
      · unfold s_X6_pool_61
        refine ok_ite (fun hc => ?_) (fun hc => ?_)
        · unfold s_X6_pool_77
          exact ok_some trivial
        · unfold s_X6_pool_77
          exact ok_some trivial
    · unfold s_X6_pool_19
      exact ok_some trivial
  · unfold s_X6_pool_19
    exact ok_some trivial
theorem a_X6_may {g' : Nat → Nat → Nat → Int32} {w' : Nat → Nat → Nat → Int64} {g : Nat → Nat → Nat → Int32} {w : Nat → Nat → Nat → Int64} (hG : Gd g' w' g w) {p1 p2 p3 : Int32} : Ok (s_X6_may 0 p1 p2 p3 g w) (fun _ => True) := by
  unfold s_X6_may
  refine ok_ite (fun hc => ?_) (fun hc => ?_)
  · obtain ⟨s, hs, rfl⟩ := isShip6 hc
    have etn := I_tn (k := s) (by omega)
    refine ok_ite (fun hc => ?_) (fun hc => ?_)
    · obtain ⟨h_p2, hh_p2, rfl⟩ := isHour6x hc
      refine ok_ite (fun hc => ?_) (fun hc => ?_)
      · refine ok_gd (by exact inR_I (by omega) (by omega)) ?_
        refine ok_ite (fun hc => ?_) (fun hc => ?_)
        · unfold s_X6_may_60
          exact ok_some trivial
        · refine ok_bind (a_X1_failsBy (gd_inv (by assumption)) (by omega)) ?_
          rintro q hq
          unfold s_X6_may_60
          exact ok_some trivial
      · unfold s_X6_may_23
        exact ok_some trivial
    · unfold s_X6_may_23
      exact ok_some trivial
  · unfold s_X6_may_23
    exact ok_some trivial
theorem a_X6_lay {g' : Nat → Nat → Nat → Int32} {w' : Nat → Nat → Nat → Int64} {g : Nat → Nat → Nat → Int32} {w : Nat → Nat → Nat → Int64} (hG : Gd g' w' g w) {p1 p2 p3 : Int32} : Ok (s_X6_lay 0 p1 p2 p3 g w) (fun r => Gd g' w' r.2.1 r.2.2) := by
  unfold s_X6_lay
  refine ok_ite (fun hc => ?_) (fun hc => ?_)
  · obtain ⟨s, hs, rfl⟩ := isShip6 hc
    have etn := I_tn (k := s) (by omega)
    refine ok_ite (fun hc => ?_) (fun hc => ?_)
    · obtain ⟨h_p2, hh_p2, rfl⟩ := isHour6x hc
      refine ok_ite (fun hc => ?_) (fun hc => ?_)
      · refine ok_gd (by exact inR_I (by omega) (by omega)) ?_
        refine ok_ite (fun hc => ?_) (fun hc => ?_)
        · unfold s_X6_lay_58
          exact ok_some ((by assumption))
        · refine ok_bind (a_X1_failsBy (gd_inv (by assumption)) (by omega)) ?_
          rintro q hq
          refine ok_ite (fun hc => ?_) (fun hc => ?_)
          · refine ok_bind (a_X1_put (by assumption) (by decide) (by omega)) ?_
            rintro q hq
            exact ok_some ((by assumption))
          · unfold s_X6_lay_58
            exact ok_some ((by assumption))
      · unfold s_X6_lay_23
        exact ok_some ((by assumption))
    · unfold s_X6_lay_23
      exact ok_some ((by assumption))
  · unfold s_X6_lay_23
    exact ok_some ((by assumption))
theorem a_X6_bunker {g' : Nat → Nat → Nat → Int32} {w' : Nat → Nat → Nat → Int64} {g : Nat → Nat → Nat → Int32} {w : Nat → Nat → Nat → Int64} (hG : Gd g' w' g w) {p1 p2 : Int32} : Ok (s_X6_bunker 0 p1 p2 g w) (fun r => Gd g' w' r.2.1 r.2.2) := by
  unfold s_X6_bunker
  refine ok_ite (fun hc => ?_) (fun hc => ?_)
  · obtain ⟨t, ht, rfl⟩ := isTug6 hc
    have etn := I_tn (k := t) (by omega)
    refine ok_ite (fun hc => ?_) (fun hc => ?_)
    · obtain ⟨h_p2, hh_p2, rfl⟩ := isHour6x hc
      refine ok_gd (by exact inR_I (by omega) (by omega)) ?_
      refine ok_ite (fun hc => ?_) (fun hc => ?_)
      · refine ok_ite (fun hc => ?_) (fun hc => ?_)
        · unfold s_X6_bunker_64
          exact ok_some ((by assumption))
        · refine ok_ite (fun hc => ?_) (fun hc => ?_)
          · refine ok_bind (a_X5_fuelBehind) ?_
            rintro q hq
            exact ok_some ((gd_w5 (by assumption) (by omega)))
          · unfold s_X6_bunker_64
            exact ok_some ((by assumption))
      · unfold s_X6_bunker_64
        exact ok_some ((by assumption))
    · unfold s_X6_bunker_15
      exact ok_some ((by assumption))
  · unfold s_X6_bunker_15
    exact ok_some ((by assumption))
theorem a_X6_off {g' : Nat → Nat → Nat → Int32} {w' : Nat → Nat → Nat → Int64} {g : Nat → Nat → Nat → Int32} {w : Nat → Nat → Nat → Int64} (hG : Gd g' w' g w) {p1 : Int32} : Ok (s_X6_off 0 p1 g w) (fun r => Gd g' w' r.2.1 r.2.2) := by
  unfold s_X6_off
  refine ok_ite (fun hc => ?_) (fun hc => ?_)
  · obtain ⟨s, hs, rfl⟩ := isShip6 hc
    have etn := I_tn (k := s) (by omega)
    refine ok_gd (by exact inR_I (by omega) (by omega)) ?_
    refine ok_ite (fun hc => ?_) (fun hc => ?_)
    · refine ok_bind (a_X1_lift (by assumption) (by decide) (by omega)) ?_
      rintro q hq
      exact ok_some ((by assumption))
    · exact ok_some ((by assumption))
  · exact ok_some ((by assumption))
theorem a_X6_best {g' : Nat → Nat → Nat → Int32} {w' : Nat → Nat → Nat → Int64} {g : Nat → Nat → Nat → Int32} {w : Nat → Nat → Nat → Int64} (hG : Gd g' w' g w) {p1 p2 : Int32} : Ok (s_X6_best 0 p1 p2 g w) (fun r => Gd g' w' r.2.1 r.2.2) := by
  unfold s_X6_best
  refine ok_ite (fun hc => ?_) (fun hc => ?_)
  · obtain ⟨s, hs, rfl⟩ := isShip6 hc
    have etn := I_tn (k := s) (by omega)
    refine ok_ite (fun hc => ?_) (fun hc => ?_)
    · refine ok_gd (by exact inR_I (by omega) (by omega)) ?_
      refine ok_ite (fun hc => ?_) (fun hc => ?_)
      · exact ok_some ((by assumption))
      · refine ok_bind (a_X1_seekBest (by assumption) (by decide)) ?_
        rintro q hq
        refine ok_ite (fun hc => ?_) (fun hc => ?_)
        · unfold s_X6_best_60
          unfold s_X6_best_72
          exact ok_some ((by assumption))
        · refine ok_ite (fun hc => ?_) (fun hc => ?_)
          · unfold s_X6_best_72
            exact ok_some ((by assumption))
          · unfold s_X6_best_60
            unfold s_X6_best_72
            exact ok_some ((by assumption))
    · unfold s_X6_best_17
      exact ok_some ((by assumption))
  · unfold s_X6_best_17
    exact ok_some ((by assumption))
theorem a_X6_layOrder {g' : Nat → Nat → Nat → Int32} {w' : Nat → Nat → Nat → Int64} {g : Nat → Nat → Nat → Int32} {w : Nat → Nat → Nat → Int64} (hG : Gd g' w' g w) {p1 : Int32} : Ok (s_X6_layOrder 0 p1 g w) (fun r => Gd g' w' r.2.1 r.2.2) := by
  unfold s_X6_layOrder
  refine ok_ite (fun hc => ?_) (fun hc => ?_)
  · obtain ⟨n0, hn1, hn, rfl⟩ := isPl6 hc
    refine ok_bind (a_X2_findOrder (by assumption) (by omega) (by omega)) ?_
    rintro q hq
    refine ok_bind (a_X1_clearPlan (by assumption) (by decide)) ?_
    rintro q hq
    refine ok_bind (a_X1_layEach (by assumption) (by decide)) ?_
    rintro q hq
    exact ok_some ((by assumption))
  · exact ok_some ((by assumption))
theorem a_X6_mended {g' : Nat → Nat → Nat → Int32} {w' : Nat → Nat → Nat → Int64} {g : Nat → Nat → Nat → Int32} {w : Nat → Nat → Nat → Int64} (hG : Gd g' w' g w) {p1 p2 : Int32} : Ok (s_X6_mended 0 p1 p2 g w) (fun r => Gd g' w' r.2.1 r.2.2) := by
  unfold s_X6_mended
  refine ok_ite (fun hc => ?_) (fun hc => ?_)
  · obtain ⟨n0, hn1, hn, rfl⟩ := isPl6 hc
    refine ok_ite (fun hc => ?_) (fun hc => ?_)
    · refine ok_bind (a_X2_findMended (by assumption) (by omega) (by omega)) ?_
      rintro q hq
      refine ok_ite (fun hc => ?_) (fun hc => ?_)
      · exact ok_some ((by assumption))
      · refine ok_ite (fun hc => ?_) (fun hc => ?_)
        · exact ok_some ((by assumption))
        · refine ok_ite (fun hc => ?_) (fun hc => ?_)
          · exact ok_some ((by assumption))
          · exact ok_some ((by assumption))
    · unfold s_X6_mended_17
      exact ok_some ((by assumption))
  · unfold s_X6_mended_17
    exact ok_some ((by assumption))
theorem a_X6_layMended {g' : Nat → Nat → Nat → Int32} {w' : Nat → Nat → Nat → Int64} {g : Nat → Nat → Nat → Int32} {w : Nat → Nat → Nat → Int64} (hG : Gd g' w' g w) {p1 : Int32} : Ok (s_X6_layMended 0 p1 g w) (fun r => Gd g' w' r.2.1 r.2.2) := by
  unfold s_X6_layMended
  refine ok_ite (fun hc => ?_) (fun hc => ?_)
  · obtain ⟨n0, hn1, hn, rfl⟩ := isPl6 hc
    refine ok_bind (a_X2_findMended (by assumption) (by omega) (by omega)) ?_
    rintro q hq
    refine ok_bind (a_X1_liftAll (by assumption) (by decide)) ?_
    rintro q hq
    refine ok_bind (a_X1_layEach (by assumption) (by decide)) ?_
    rintro q hq
    exact ok_some ((by assumption))
  · exact ok_some ((by assumption))
theorem a_X6_breaks {g' : Nat → Nat → Nat → Int32} {w' : Nat → Nat → Nat → Int64} {g : Nat → Nat → Nat → Int32} {w : Nat → Nat → Nat → Int64} (hG : Gd g' w' g w) {p1 p2 : Int32} : Ok (s_X6_breaks 0 p1 p2 g w) (fun r => Gd g' w' r.2.1 r.2.2) := by
  unfold s_X6_breaks
  refine ok_ite (fun hc => ?_) (fun hc => ?_)
  · obtain ⟨t, ht, rfl⟩ := isTug6 hc
    have etn := I_tn (k := t) (by omega)
    refine ok_ite (fun hc => ?_) (fun hc => ?_)
    · obtain ⟨h_p2, hh_p2, rfl⟩ := isHour6x hc
      refine ok_gd (by exact inR_I (by omega) (by omega)) ?_
      refine ok_ite (fun hc => ?_) (fun hc => ?_)
      · unfold s_X6_breaks_47
        exact ok_some ((by assumption))
      · refine ok_bind (a_X1_breakDown (by assumption) (by omega) (by omega)) ?_
        rintro q hq
        unfold s_X6_breaks_47
        exact ok_some ((by assumption))
    · unfold s_X6_breaks_15
      exact ok_some ((by assumption))
  · unfold s_X6_breaks_15
    exact ok_some ((by assumption))
theorem a_X6_storm {g' : Nat → Nat → Nat → Int32} {w' : Nat → Nat → Nat → Int64} {g : Nat → Nat → Nat → Int32} {w : Nat → Nat → Nat → Int64} (hG : Gd g' w' g w) {p1 p2 : Int32} : Ok (s_X6_storm 0 p1 p2 g w) (fun r => Gd g' w' r.2.1 r.2.2) := by
  unfold s_X6_storm
  refine ok_ite (fun hc => ?_) (fun hc => ?_)
  · obtain ⟨h_p1, hh_p1, rfl⟩ := isHour6x hc
    refine ok_ite (fun hc => ?_) (fun hc => ?_)
    · obtain ⟨h_p2, hh_p2, rfl⟩ := isHour6x hc
      refine ok_ite (fun hc => ?_) (fun hc => ?_)
      · refine ok_bind (a_X1_blow (by assumption)) ?_
        rintro q hq
        exact ok_some ((by assumption))
      · unfold s_X6_storm_19
        exact ok_some ((by assumption))
    · unfold s_X6_storm_19
      exact ok_some ((by assumption))
  · unfold s_X6_storm_19
    exact ok_some ((by assumption))
theorem gd_whole {g' : Nat → Nat → Nat → Int32} {w' : Nat → Nat → Nat → Int64} {g : Nat → Nat → Nat → Int32} {w : Nat → Nat → Nat → Int64} (h : Gd g' w' g w) {i : Nat} (hi : i < 12) : Gd g' w' (s_X5_makeWhole i g w).2.1 (s_X5_makeWhole i g w).2.2 := by
  unfold s_X5_makeWhole s_X5_makeWhole_14
  split
  · exact gd_5 h hi
  · exact gd_5 h hi
theorem a_X6_calm {g' : Nat → Nat → Nat → Int32} {w' : Nat → Nat → Nat → Int64} {g : Nat → Nat → Nat → Int32} {w : Nat → Nat → Nat → Int64} (h : Gd g' w' g w) : Gd g' w' (s_X6_calm 0 g w).2.1 (s_X6_calm 0 g w).2.2 := gd_w1 h (by decide)
theorem ord_in {g : Nat → Nat → Nat → Int32} {w : Nat → Nat → Nat → Int64} {p : Int32} {n : Nat} (h1 : 1 ≤ n) (h4 : n ≤ 4) (h : s_X6_within p 0 (I n - 1) g w = true) : inR p 4 = true := by
  have q := w_rg h
  have e : I n - 1 = I (n - 1) := by
    rw [Int32.sub_eq_add_neg]
    exact I_pre h1
  rw [e, I_toInt (by omega), show (0 : Int32).toInt = 0 from rfl] at q
  exact inR_t q.1 (by omega)
theorem a_X6_mend {g' : Nat → Nat → Nat → Int32} {w' : Nat → Nat → Nat → Int64} {g : Nat → Nat → Nat → Int32} {w : Nat → Nat → Nat → Int64} (hG : Gd g' w' g w) {p1 : Int32} : Ok (s_X6_mend 0 p1 g w) (fun r => Gd g' w' r.2.1 r.2.2) := by
  unfold s_X6_mend
  refine ok_ite (fun hc => ?_) (fun hc => ?_)
  · obtain ⟨t, ht, rfl⟩ := isTug6 hc
    have etn := I_tn (k := t) (by omega)
    refine ok_gd (by exact inR_I (by omega) (by omega)) ?_
    refine ok_ite (fun hc => ?_) (fun hc => ?_)
    · unfold s_X6_mend_30
      exact ok_some ((gd_whole (by assumption) (by omega)))
    · unfold s_X6_mend_30
      exact ok_some ((gd_whole (by assumption) (by omega)))
  · exact ok_some ((by assumption))
theorem a_X6_order {g' : Nat → Nat → Nat → Int32} {w' : Nat → Nat → Nat → Int64} {g : Nat → Nat → Nat → Int32} {w : Nat → Nat → Nat → Int64} (hG : Gd g' w' g w) {p1 p2 : Int32} : Ok (s_X6_order 0 p1 p2 g w) (fun r => Gd g' w' r.2.1 r.2.2) := by
  unfold s_X6_order
  refine ok_ite (fun hc => ?_) (fun hc => ?_)
  · obtain ⟨n0, hn1, hn, rfl⟩ := isPl6 hc
    refine ok_bind (a_X2_findOrder (by assumption) (by omega) (by omega)) ?_
    rintro q hq
    refine ok_ite (fun hc => ?_) (fun hc => ?_)
    · refine ok_ite (fun hc => ?_) (fun hc => ?_)
      · refine ok_gd (by exact ord_in hn1 hn (by assumption)) ?_
        unfold s_X6_order_60
        exact ok_some ((by assumption))
      · unfold s_X6_order_60
        exact ok_some ((by assumption))
    · exact ok_some ((by assumption))
  · exact ok_some ((by assumption))
theorem a_X6_berth {g' : Nat → Nat → Nat → Int32} {w' : Nat → Nat → Nat → Int64} {g : Nat → Nat → Nat → Int32} {w : Nat → Nat → Nat → Int64} (hG : Gd g' w' g w) {p1 p2 p3 : Int32} : Ok (s_X6_berth 0 p1 p2 p3 g w) (fun r => Gd g' w' r.2.1 r.2.2) := by
  unfold s_X6_berth
  refine ok_ite (fun hc => ?_) (fun hc => ?_)
  · obtain ⟨b_p1, hb_p1, rfl⟩ := isBerth6x hc
    refine ok_ite (fun hc => ?_) (fun hc => ?_)
    · refine ok_ite (fun hc => ?_) (fun hc => ?_)
      · unfold s_X6_berth_28
        refine ok_ite (fun hc => ?_) (fun hc => ?_)
        · refine ok_bind (a_X1_isBerthUsed) ?_
          rintro q hq
          refine ok_ite (fun hc => ?_) (fun hc => ?_)
          · exact ok_some ((by assumption))
          · refine ok_ite (fun hc => ?_) (fun hc => ?_)
            · unfold s_X6_berth_71
              refine ok_gd (by exact inR_I (by omega) (by omega)) ?_
              refine ok_gd (by exact inR_I (by omega) (by omega)) ?_
              exact ok_some ((gd_1006 (by assumption)))
            · unfold s_X6_berth_71
              refine ok_gd (by exact inR_I (by omega) (by omega)) ?_
              refine ok_gd (by exact inR_I (by omega) (by omega)) ?_
              exact ok_some ((gd_1006 (by assumption)))
        · unfold s_X6_berth_34
          exact ok_some ((by assumption))
      · unfold s_X6_berth_28
        refine ok_ite (fun hc => ?_) (fun hc => ?_)
        · refine ok_bind (a_X1_isBerthUsed) ?_
          rintro q hq
          refine ok_ite (fun hc => ?_) (fun hc => ?_)
          · exact ok_some ((by assumption))
          · refine ok_ite (fun hc => ?_) (fun hc => ?_)
            · unfold s_X6_berth_71
              refine ok_gd (by exact inR_I (by omega) (by omega)) ?_
              refine ok_gd (by exact inR_I (by omega) (by omega)) ?_
              exact ok_some ((gd_1006 (by assumption)))
            · unfold s_X6_berth_71
              refine ok_gd (by exact inR_I (by omega) (by omega)) ?_
              refine ok_gd (by exact inR_I (by omega) (by omega)) ?_
              exact ok_some ((gd_1006 (by assumption)))
        · unfold s_X6_berth_34
          exact ok_some ((by assumption))
    · unfold s_X6_berth_34
      exact ok_some ((by assumption))
  · unfold s_X6_berth_34
    exact ok_some ((by assumption))
