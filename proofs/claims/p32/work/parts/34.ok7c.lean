/-! the reference: the calls that change at most what jobs change -/
section
variable {g : Nat → Nat → Nat → Int32} {w : Nat → Nat → Nat → Int64}
theorem in_rg {v : Int32} {lo hi : Int64} (h : s_X7_in v.toInt64 lo hi g w = true) : lo.toInt ≤ v.toInt ∧ v.toInt ≤ hi.toInt := by
  rw [in_eq] at h
  have q := of_decide_eq_true h
  rw [Int64.le_iff_toInt_le, Int64.le_iff_toInt_le, Int32.toInt_toInt64] at q
  exact q
theorem J_pred {x : Int64} {a : Nat} (h : x.toInt = a) (ha : a < 100) : (x - 1).toInt = a - 1 := by
  rw [Int64.toInt_sub, h, show (1 : Int64).toInt = 1 from rfl]
  exact Int.bmod_eq_of_le (by omega) (by omega)
theorem isTug7 {p : Int32} (hI : BK (w 2218 0)) (h : s_X7_isTug 0 p g w = true) : ∃ t, t < 6 ∧ p = I t := by
  unfold s_X7_isTug at h
  obtain ⟨a, ha, e, _⟩ := bk_tugn hI
  have q := in_rg h
  rw [show (64 : Int32).toNatClampNeg = 64 from rfl, J_pred e (by omega), show (0 : Int64).toInt = 0 from rfl] at q
  obtain ⟨k, hk, r⟩ := I_ex (v := p) (n := 5) q.1 (by omega)
  exact ⟨k, by omega, r⟩
theorem isShip7 {p : Int32} (hI : BK (w 2218 0)) (h : s_X7_isShip 0 p g w = true) : ∃ s, s < 8 ∧ p = I s := by
  unfold s_X7_isShip at h
  obtain ⟨a, ha, e, _⟩ := bk_shipn hI
  have q := in_rg h
  rw [show (65 : Int32).toNatClampNeg = 65 from rfl, J_pred e (by omega), show (0 : Int64).toInt = 0 from rfl] at q
  obtain ⟨k, hk, r⟩ := I_ex (v := p) (n := 7) q.1 (by omega)
  exact ⟨k, by omega, r⟩
theorem isHour7x {p : Int32} (h : s_X7_isHour p g w = true) : ∃ k, k ≤ 47 ∧ p = I k := by
  unfold s_X7_isHour at h
  have q := in_rg h
  exact I_ex (n := 47) q.1 q.2
theorem isBerth7x {p : Int32} (h : s_X7_isBerth p g w = true) : ∃ k, k < 6 ∧ p = I k := by
  unfold s_X7_isBerth at h
  have q := in_rg h
  obtain ⟨k, hk, r⟩ := I_ex (v := p) (n := 5) q.1 q.2
  exact ⟨k, by omega, r⟩
theorem isMany7 {p : Int32} (h : s_X7_isMany 0 p g w = true) : ∃ n, 1 ≤ n ∧ n ≤ 4 ∧ p = I n := by
  unfold s_X7_isMany at h
  by_cases hc : s_X7_in p.toInt64 (1 : Int64) (4 : Int64) g w = true
  · have q := in_rg hc
    rw [show (1 : Int64).toInt = 1 from rfl, show (4 : Int64).toInt = 4 from rfl] at q
    obtain ⟨k, hk, r⟩ := I_ex (v := p) (n := 4) (by omega) q.2
    refine ⟨k, ?_, hk, r⟩
    rw [r, I_toInt (by omega)] at q
    omega
  · rw [if_neg hc] at h
    exact absurd h (by intro h9; cases h9)
theorem in47 {v : Int32} {lo : Int64} (h : s_X7_in v.toInt64 lo (47 : Int64) g w = true) : v.toInt < 48 := by
  have q := in_rg h
  rw [show (47 : Int64).toInt = 47 from rfl] at q
  omega
theorem nzl {x : Int64} (h : lg_cmp x 0 ≠ 0) : nzL x = true := by
  refine decide_eq_true ?_
  intro e
  subst e
  exact h rfl
end
theorem a_X7_way {g' : Nat → Nat → Nat → Int32} {w' : Nat → Nat → Nat → Int64} {g : Nat → Nat → Nat → Int32} {w : Nat → Nat → Nat → Int64} (hG : Gd g' w' g w) {p1 p2 : Int32} : Ok (s_X7_way 0 p1 p2 g w) (fun _ => True) := by
  unfold s_X7_way
  refine ok_ite (fun hc => ?_) (fun hc => ?_)
  · obtain ⟨b_p1, hb_p1, rfl⟩ := isBerth7x hc
    refine ok_ite (fun hc => ?_) (fun hc => ?_)
    · obtain ⟨b_p2, hb_p2, rfl⟩ := isBerth7x hc
      refine ok_bind (a_X7_wayOf (gd_bk (by assumption)) (by omega) (by omega)) ?_
      rintro q hq
      unfold s_X7_way_24
      exact ok_some trivial
    · unfold s_X7_way_23
      unfold s_X7_way_24
      exact ok_some trivial
  · unfold s_X7_way_23
    unfold s_X7_way_24
    exact ok_some trivial
theorem a_X7_needs {g' : Nat → Nat → Nat → Int32} {w' : Nat → Nat → Nat → Int64} {g : Nat → Nat → Nat → Int32} {w : Nat → Nat → Nat → Int64} (hG : Gd g' w' g w) {p1 p2 : Int32} : Ok (s_X7_needs 0 p1 p2 g w) (fun _ => True) := by
  unfold s_X7_needs
  refine ok_ite (fun hc => ?_) (fun hc => ?_)
  · obtain ⟨s, hs, rfl⟩ := isShip7 (gd_bk hG) hc
    refine ok_ite (fun hc => ?_) (fun hc => ?_)
    · obtain ⟨h_p2, hh_p2, rfl⟩ := isHour7x hc
      refine ok_bind (a_X7_needsOf (gd_bk (by assumption)) (by omega) (by omega)) ?_
      rintro q hq
      unfold s_X7_needs_25
      exact ok_some trivial
    · unfold s_X7_needs_24
      unfold s_X7_needs_25
      exact ok_some trivial
  · unfold s_X7_needs_24
    unfold s_X7_needs_25
    exact ok_some trivial
theorem a_X7_fuel {g' : Nat → Nat → Nat → Int32} {w' : Nat → Nat → Nat → Int64} {g : Nat → Nat → Nat → Int32} {w : Nat → Nat → Nat → Int64} (hG : Gd g' w' g w) {p1 p2 : Int32} : Ok (s_X7_fuel 0 p1 p2 g w) (fun _ => True) := by
  unfold s_X7_fuel
  refine ok_ite (fun hc => ?_) (fun hc => ?_)
  · obtain ⟨t, ht, rfl⟩ := isTug7 (gd_bk hG) hc
    refine ok_ite (fun hc => ?_) (fun hc => ?_)
    · have h47 := in47 hc
      refine ok_bind (a_workOf (by omega)) ?_
      rintro q hq
      refine ok_bind (a_X7_fuelBehind (by omega) (by assumption)) ?_
      rintro q hq
      unfold s_X7_fuel_37
      exact ok_some trivial
    · unfold s_X7_fuel_36
      unfold s_X7_fuel_37
      exact ok_some trivial
  · unfold s_X7_fuel_36
    unfold s_X7_fuel_37
    exact ok_some trivial
theorem a_X7_job {g' : Nat → Nat → Nat → Int32} {w' : Nat → Nat → Nat → Int64} {g : Nat → Nat → Nat → Int32} {w : Nat → Nat → Nat → Int64} (hG : Gd g' w' g w) {p1 p2 : Int32} : Ok (s_X7_job 0 p1 p2 g w) (fun _ => True) := by
  unfold s_X7_job
  refine ok_ite (fun hc => ?_) (fun hc => ?_)
  · obtain ⟨s, hs, rfl⟩ := isShip7 (gd_bk hG) hc
    refine ok_ite (fun hc => ?_) (fun hc => ?_)
    · refine ok_bind (a_X7_hasJob (gd_bk (by assumption)) (by omega)) ?_
      rintro q hq
      refine ok_ite (fun hc => ?_) (fun hc => ?_)
      · refine ok_ite (fun hc => ?_) (fun hc => ?_)
        · refine ok_bind (a_sh (by omega) (by decide)) ?_
          rintro q hq
          unfold s_X7_job_54
          exact ok_some trivial
        · refine ok_bind (a_hour (gd_bk (by assumption)) (by omega)) ?_
          rintro q hq
          unfold s_X7_job_54
          exact ok_some trivial
      · unfold s_X7_job_54
        exact ok_some trivial
    · unfold s_X7_job_18
      exact ok_some trivial
  · unfold s_X7_job_18
    exact ok_some trivial
theorem a_X7_work {g' : Nat → Nat → Nat → Int32} {w' : Nat → Nat → Nat → Int64} {g : Nat → Nat → Nat → Int32} {w : Nat → Nat → Nat → Int64} (hG : Gd g' w' g w) {p1 p2 : Int32} : Ok (s_X7_work 0 p1 p2 g w) (fun _ => True) := by
  unfold s_X7_work
  refine ok_ite (fun hc => ?_) (fun hc => ?_)
  · obtain ⟨t, ht, rfl⟩ := isTug7 (gd_bk hG) hc
    refine ok_ite (fun hc => ?_) (fun hc => ?_)
    · refine ok_ite (fun hc => ?_) (fun hc => ?_)
      · refine ok_bind (a_bunkersOf (by omega)) ?_
        rintro q hq
        unfold s_X7_work_41
        exact ok_some trivial
      · refine ok_bind (a_workOf (by omega)) ?_
        rintro q hq
        unfold s_X7_work_41
        exact ok_some trivial
    · unfold s_X7_work_18
      unfold s_X7_work_41
      exact ok_some trivial
  · unfold s_X7_work_18
    unfold s_X7_work_41
    exact ok_some trivial
theorem a_X7_about {g' : Nat → Nat → Nat → Int32} {w' : Nat → Nat → Nat → Int64} {g : Nat → Nat → Nat → Int32} {w : Nat → Nat → Nat → Int64} (hG : Gd g' w' g w) {p1 p2 : Int32} : Ok (s_X7_about 0 p1 p2 g w) (fun _ => True) := by
  unfold s_X7_about
  refine ok_ite (fun hc => ?_) (fun hc => ?_)
  · obtain ⟨t, ht, rfl⟩ := isTug7 (gd_bk hG) hc
    refine ok_ite (fun hc => ?_) (fun hc => ?_)
    · refine ok_ite (fun hc => ?_) (fun hc => ?_)
      · refine ok_bind (a_tu (by omega) (by decide)) ?_
        rintro q hq
        exact ok_some trivial
      · refine ok_ite (fun hc => ?_) (fun hc => ?_)
        · refine ok_bind (a_tu (by omega) (by decide)) ?_
          rintro q hq
          exact ok_some trivial
        · refine ok_ite (fun hc => ?_) (fun hc => ?_)
          · refine ok_bind (a_tu (by omega) (by decide)) ?_
            rintro q hq
            exact ok_some trivial
          · refine ok_ite (fun hc => ?_) (fun hc => ?_)
            · refine ok_bind (a_tu (by omega) (by decide)) ?_
              rintro q hq
              exact ok_some trivial
            · refine ok_ite (fun hc => ?_) (fun hc => ?_)
              · refine ok_bind (a_tu (by omega) (by decide)) ?_
                rintro q hq
                exact ok_some trivial
              · refine ok_ite (fun hc => ?_) (fun hc => ?_)
                · refine ok_bind (a_tu (by omega) (by decide)) ?_
                  rintro q hq
                  exact ok_some trivial
                · refine ok_ite (fun hc => ?_) (fun hc => ?_)
                  · refine ok_bind (a_tu (by omega) (by decide)) ?_
                    rintro q hq
                    refine ok_ite (fun hc => ?_) (fun hc => ?_)
                    · refine ok_bind (a_tu (by omega) (by decide)) ?_
                      rintro q hq
                      unfold s_X7_about_135
                      exact ok_some trivial
                    · unfold s_X7_about_135
                      exact ok_some trivial
                  · refine ok_bind (a_X7_berthOf (gd_bk (by assumption)) (by omega)) ?_
                    rintro q hq
                    exact ok_some trivial
    · unfold s_X7_about_20
      exact ok_some trivial
  · unfold s_X7_about_20
    exact ok_some trivial
theorem a_X7_may {g' : Nat → Nat → Nat → Int32} {w' : Nat → Nat → Nat → Int64} {g : Nat → Nat → Nat → Int32} {w : Nat → Nat → Nat → Int64} (hG : Gd g' w' g w) {p1 p2 p3 : Int32} : Ok (s_X7_may 0 p1 p2 p3 g w) (fun r => r = 0 → (∃ s, s < 8 ∧ p1 = I s) ∧ ∃ h, h ≤ 47 ∧ p2 = I h) := by
  unfold s_X7_may
  refine ok_ite (fun hc => ?_) (fun hc => ?_)
  · obtain ⟨s, hs, rfl⟩ := isShip7 (gd_bk hG) hc
    refine ok_ite (fun hc => ?_) (fun hc => ?_)
    · obtain ⟨h_p2, hh_p2, rfl⟩ := isHour7x hc
      refine ok_ite (fun hc => ?_) (fun hc => ?_)
      · refine ok_bind (a_X7_hasJob (gd_bk (by assumption)) (by omega)) ?_
        rintro q hq
        refine ok_ite (fun hc => ?_) (fun hc => ?_)
        · unfold s_X7_may_45
          exact ok_some (by first | (intro h; exact absurd h (by decide)) | (intro _; exact ⟨⟨_, by omega, rfl⟩, _, by omega, rfl⟩))
        · refine ok_bind (a_X7_whyNot (gd_bk (by assumption)) (by omega) (by omega)) ?_
          rintro q hq
          unfold s_X7_may_45
          exact ok_some (by first | (intro h; exact absurd h (by decide)) | (intro _; exact ⟨⟨_, by omega, rfl⟩, _, by omega, rfl⟩))
      · unfold s_X7_may_23
        exact ok_some (by first | (intro h; exact absurd h (by decide)) | (intro _; exact ⟨⟨_, by omega, rfl⟩, _, by omega, rfl⟩))
    · unfold s_X7_may_23
      exact ok_some (by first | (intro h; exact absurd h (by decide)) | (intro _; exact ⟨⟨_, by omega, rfl⟩, _, by omega, rfl⟩))
  · unfold s_X7_may_23
    exact ok_some (by first | (intro h; exact absurd h (by decide)) | (intro _; exact ⟨⟨_, by omega, rfl⟩, _, by omega, rfl⟩))
theorem a_X7_lay {g' : Nat → Nat → Nat → Int32} {w' : Nat → Nat → Nat → Int64} {g : Nat → Nat → Nat → Int32} {w : Nat → Nat → Nat → Int64} (hG : Gd g' w' g w) {p1 p2 p3 : Int32} : Ok (s_X7_lay 0 p1 p2 p3 g w) (fun r => Gd g' w' r.2.1 r.2.2) := by
  unfold s_X7_lay
  refine ok_bind (a_X7_may hG) ?_
  rintro q hq
  refine ok_ite (fun hc => ?_) (fun hc => ?_)
  · obtain ⟨⟨s, hs, rfl⟩, h, hh, rfl⟩ := hq hc
    refine ok_bind (a_X7_lays (by assumption) (by omega) ⟨_, by omega, rfl⟩) ?_
    rintro q hq
    exact ok_some ((gd_n (by assumption) (by decide)))
  · refine ok_ite (fun hc => ?_) (fun hc => ?_)
    · unfold s_X7_lay_26
      exact ok_some ((by assumption))
    · unfold s_X7_lay_26
      exact ok_some ((by assumption))
theorem a_X7_bunker {g' : Nat → Nat → Nat → Int32} {w' : Nat → Nat → Nat → Int64} {g : Nat → Nat → Nat → Int32} {w : Nat → Nat → Nat → Int64} (hG : Gd g' w' g w) {p1 p2 : Int32} : Ok (s_X7_bunker 0 p1 p2 g w) (fun r => Gd g' w' r.2.1 r.2.2) := by
  unfold s_X7_bunker
  refine ok_ite (fun hc => ?_) (fun hc => ?_)
  · obtain ⟨t, ht, rfl⟩ := isTug7 (gd_bk hG) hc
    refine ok_ite (fun hc => ?_) (fun hc => ?_)
    · obtain ⟨h_p2, hh_p2, rfl⟩ := isHour7x hc
      refine ok_bind (a_workOf (by omega)) ?_
      rintro q hq
      refine ok_ite (fun hc => ?_) (fun hc => ?_)
      · unfold s_X7_bunker_66
        exact ok_some ((by assumption))
      · refine ok_bind (a_bunkersOf (by omega)) ?_
        rintro q hq
        refine ok_ite (fun hc => ?_) (fun hc => ?_)
        · unfold s_X7_bunker_66
          exact ok_some ((by assumption))
        · refine ok_bind (a_tu (by omega) (by decide)) ?_
          rintro q hq
          refine ok_ite (fun hc => ?_) (fun hc => ?_)
          · unfold s_X7_bunker_66
            exact ok_some ((by assumption))
          · refine ok_ite (fun hc => ?_) (fun hc => ?_)
            · unfold s_X7_bunker_66
              exact ok_some ((by assumption))
            · refine ok_gd (by (first | exact inR_I (by omega) (by omega) | (simp only [i_0, i_1, i_2, i_3, i_4, i_5, i_6, i_7, i_8, i_9, i_10, i_11, i_12, i_13, i_24, i_47, i_48, i_60, i_61, i_62, i_63, i_64, i_65, i_70, i_130, i_218, I_mul, I_add]; exact inR_I (by omega) (by omega)) | exact rem12 (by omega) (by decide) (by decide))) ?_
              refine ok_gd (by (first | exact inR_I (by omega) (by omega) | (simp only [i_0, i_1, i_2, i_3, i_4, i_5, i_6, i_7, i_8, i_9, i_10, i_11, i_12, i_13, i_24, i_47, i_48, i_60, i_61, i_62, i_63, i_64, i_65, i_70, i_130, i_218, I_mul, I_add]; exact inR_I (by omega) (by omega)) | exact rem12 (by omega) (by decide) (by decide))) ?_
              refine ok_bind (a_workOf (by omega)) ?_
              rintro q hq
              refine ok_bind (a_X7_fuelBehind (by omega) (by decide)) ?_
              rintro q hq
              exact ok_some ((gd_tugw (j := 9) (by assumption) (by omega) (by decide) (by decide)))
    · unfold s_X7_bunker_15
      exact ok_some ((by assumption))
  · unfold s_X7_bunker_15
    exact ok_some ((by assumption))
theorem a_X7_off {g' : Nat → Nat → Nat → Int32} {w' : Nat → Nat → Nat → Int64} {g : Nat → Nat → Nat → Int32} {w : Nat → Nat → Nat → Int64} (hG : Gd g' w' g w) {p1 : Int32} : Ok (s_X7_off 0 p1 g w) (fun r => Gd g' w' r.2.1 r.2.2) := by
  unfold s_X7_off
  refine ok_ite (fun hc => ?_) (fun hc => ?_)
  · obtain ⟨s, hs, rfl⟩ := isShip7 (gd_bk hG) hc
    refine ok_bind (a_X7_hasJob (gd_bk (by assumption)) (by omega)) ?_
    rintro q hq
    refine ok_ite (fun hc => ?_) (fun hc => ?_)
    · refine ok_bind (a_hour (gd_bk (by assumption)) (by omega)) ?_
      rintro q hq
      refine ok_bind (a_X7_takes (by assumption) (by omega)) ?_
      rintro q hq
      exact ok_some ((by assumption))
    · exact ok_some ((by assumption))
  · exact ok_some ((by assumption))
theorem a_X7_best {g' : Nat → Nat → Nat → Int32} {w' : Nat → Nat → Nat → Int64} {g : Nat → Nat → Nat → Int32} {w : Nat → Nat → Nat → Int64} (hG : Gd g' w' g w) {p1 p2 : Int32} : Ok (s_X7_best 0 p1 p2 g w) (fun r => Gd g' w' r.2.1 r.2.2) := by
  unfold s_X7_best
  refine ok_ite (fun hc => ?_) (fun hc => ?_)
  · obtain ⟨s, hs, rfl⟩ := isShip7 (gd_bk hG) hc
    refine ok_ite (fun hc => ?_) (fun hc => ?_)
    · refine ok_bind (a_X7_hasJob (gd_bk (by assumption)) (by omega)) ?_
      rintro q hq
      refine ok_ite (fun hc => ?_) (fun hc => ?_)
      · exact ok_some ((by assumption))
      · refine ok_bind (a_X7_finds (by assumption) (by omega)) ?_
        rintro q hq
        refine ok_ite (fun hc => ?_) (fun hc => ?_)
        · refine ok_ite (fun hc => ?_) (fun hc => ?_)
          · unfold s_X7_best_59
            exact ok_some ((by assumption))
          · unfold s_X7_best_59
            exact ok_some ((by assumption))
        · unfold s_X7_best_59
          exact ok_some ((by assumption))
    · unfold s_X7_best_18
      exact ok_some ((by assumption))
  · unfold s_X7_best_18
    exact ok_some ((by assumption))
theorem a_X7_order {g' : Nat → Nat → Nat → Int32} {w' : Nat → Nat → Nat → Int64} {g : Nat → Nat → Nat → Int32} {w : Nat → Nat → Nat → Int64} (hG : Gd g' w' g w) {p1 p2 : Int32} : Ok (s_X7_order 0 p1 p2 g w) (fun r => Gd g' w' r.2.1 r.2.2) := by
  unfold s_X7_order
  refine ok_ite (fun hc => ?_) (fun hc => ?_)
  · obtain ⟨n0, hn1, hn, rfl⟩ := isMany7 hc
    refine ok_ite (fun hc => ?_) (fun hc => ?_)
    · refine ok_bind (a_X7_bestOrder (by assumption) (by omega) (by omega)) ?_
      rintro q hq
      refine ok_ite (fun hc => ?_) (fun hc => ?_)
      · refine ok_ite (fun hc => ?_) (fun hc => ?_)
        · unfold s_X7_order_50
          exact ok_some ((by assumption))
        · unfold s_X7_order_50
          exact ok_some ((by assumption))
      · unfold s_X7_order_50
        exact ok_some ((by assumption))
    · unfold s_X7_order_13
      exact ok_some ((by assumption))
  · unfold s_X7_order_13
    exact ok_some ((by assumption))
theorem a_X7_layOrder {g' : Nat → Nat → Nat → Int32} {w' : Nat → Nat → Nat → Int64} {g : Nat → Nat → Nat → Int32} {w : Nat → Nat → Nat → Int64} (hG : Gd g' w' g w) {p1 : Int32} : Ok (s_X7_layOrder 0 p1 g w) (fun r => Gd g' w' r.2.1 r.2.2) := by
  unfold s_X7_layOrder
  refine ok_ite (fun hc => ?_) (fun hc => ?_)
  · obtain ⟨n0, hn1, hn, rfl⟩ := isMany7 hc
    refine ok_bind (a_X7_bestOrder (by assumption) (by omega) (by omega)) ?_
    rintro q hq
    refine ok_bind (a_X7_empties (by assumption)) ?_
    rintro q hq
    refine ok_bind (a_X7_plans (by assumption) (by omega) (by omega)) ?_
    rintro q hq
    exact ok_some ((gd_n (by assumption) (by decide)))
  · exact ok_some ((by assumption))
theorem a_X7_mended {g' : Nat → Nat → Nat → Int32} {w' : Nat → Nat → Nat → Int64} {g : Nat → Nat → Nat → Int32} {w : Nat → Nat → Nat → Int64} (hG : Gd g' w' g w) {p1 p2 : Int32} : Ok (s_X7_mended 0 p1 p2 g w) (fun r => Gd g' w' r.2.1 r.2.2) := by
  unfold s_X7_mended
  refine ok_ite (fun hc => ?_) (fun hc => ?_)
  · obtain ⟨n0, hn1, hn, rfl⟩ := isMany7 hc
    refine ok_ite (fun hc => ?_) (fun hc => ?_)
    · refine ok_bind (a_X7_mends (by assumption) (by omega) (by omega)) ?_
      rintro q hq
      refine ok_ite (fun hc => ?_) (fun hc => ?_)
      · refine ok_ite (fun hc => ?_) (fun hc => ?_)
        · refine ok_ite (fun hc => ?_) (fun hc => ?_)
          · unfold s_X7_mended_66
            exact ok_some ((by assumption))
          · unfold s_X7_mended_66
            exact ok_some ((by assumption))
        · unfold s_X7_mended_66
          exact ok_some ((by assumption))
      · unfold s_X7_mended_66
        exact ok_some ((by assumption))
    · unfold s_X7_mended_20
      exact ok_some ((by assumption))
  · unfold s_X7_mended_20
    exact ok_some ((by assumption))
theorem a_X7_layMended {g' : Nat → Nat → Nat → Int32} {w' : Nat → Nat → Nat → Int64} {g : Nat → Nat → Nat → Int32} {w : Nat → Nat → Nat → Int64} (hG : Gd g' w' g w) {p1 : Int32} : Ok (s_X7_layMended 0 p1 g w) (fun r => Gd g' w' r.2.1 r.2.2) := by
  unfold s_X7_layMended
  refine ok_ite (fun hc => ?_) (fun hc => ?_)
  · obtain ⟨n0, hn1, hn, rfl⟩ := isMany7 hc
    refine ok_bind (a_X7_mends (by assumption) (by omega) (by omega)) ?_
    rintro q hq
    refine ok_bind (a_X7_tries (by assumption) (by omega) (by omega)) ?_
    rintro q hq
    exact ok_some ((gd_n (by assumption) (by decide)))
  · exact ok_some ((by assumption))
theorem a_X7_mend {g' : Nat → Nat → Nat → Int32} {w' : Nat → Nat → Nat → Int64} {g : Nat → Nat → Nat → Int32} {w : Nat → Nat → Nat → Int64} (hG : Gd g' w' g w) {p1 : Int32} : Ok (s_X7_mend 0 p1 g w) (fun r => Gd g' w' r.2.1 r.2.2) := by
  unfold s_X7_mend
  refine ok_ite (fun hc => ?_) (fun hc => ?_)
  · obtain ⟨t, ht, rfl⟩ := isTug7 (gd_bk hG) hc
    refine ok_bind (a_tu (by omega) (by decide)) ?_
    rintro q hq
    refine ok_ite (fun hc => ?_) (fun hc => ?_)
    · unfold s_X7_mend_27
      refine ok_gd (by (first | exact inR_I (by omega) (by omega) | (simp only [i_0, i_1, i_2, i_3, i_4, i_5, i_6, i_7, i_8, i_9, i_10, i_11, i_12, i_13, i_24, i_47, i_48, i_60, i_61, i_62, i_63, i_64, i_65, i_70, i_130, i_218, I_mul, I_add]; exact inR_I (by omega) (by omega)) | exact rem12 (by omega) (by decide) (by decide))) ?_
      exact ok_some ((gd_tugw (j := 7) (by assumption) (by omega) (by decide) (by decide)))
    · unfold s_X7_mend_27
      refine ok_gd (by (first | exact inR_I (by omega) (by omega) | (simp only [i_0, i_1, i_2, i_3, i_4, i_5, i_6, i_7, i_8, i_9, i_10, i_11, i_12, i_13, i_24, i_47, i_48, i_60, i_61, i_62, i_63, i_64, i_65, i_70, i_130, i_218, I_mul, I_add]; exact inR_I (by omega) (by omega)) | exact rem12 (by omega) (by decide) (by decide))) ?_
      exact ok_some ((gd_tugw (j := 7) (by assumption) (by omega) (by decide) (by decide)))
  · exact ok_some ((by assumption))
theorem a_X7_calm {g' : Nat → Nat → Nat → Int32} {w' : Nat → Nat → Nat → Int64} {g : Nat → Nat → Nat → Int32} {w : Nat → Nat → Nat → Int64} (hG : Gd g' w' g w) : Ok (s_X7_calm 0 g w) (fun r => Gd g' w' r.2.1 r.2.2) := by
  unfold s_X7_calm
  refine ok_bind (a_X7_hoursIn) ?_
  rintro q hq
  exact ok_some ((gd_n (by assumption) (by decide)))
theorem a_X7_pool_R32 {g' : Nat → Nat → Nat → Int32} {w' : Nat → Nat → Nat → Int64} {g : Nat → Nat → Nat → Int32} {w : Nat → Nat → Nat → Int64} (hG : Gd g' w' g w) {p1 p2 : Int32} : ∀ (n : Nat) (v3 : Int64) (v5 : Int64) (k : Nat), (k ≤ 6) → 9 - k < n → Ok (s_X7_pool_R32 0 p1 p2 n v3 v5 (I k) g w) (fun _ => True) := by
  intro n
  induction n with
  | zero => intro v3 v5 k h1 hm; omega
  | succ n ih =>
    intro v3 v5 k h1 hm
    show Ok (s_X7_pool_32 0 p1 p2 (s_X7_pool_R32 0 p1 p2 n) v3 v5 (I k) g w) _
    unfold s_X7_pool_32
    refine ok_ite (fun hc => ?_) (fun hc => ?_)
    · refine ok_ite (fun hc => ?_) (fun hc => ?_)
      · refine ok_gd (by exact nzl hc) ?_
        unfold s_X7_pool_119
        refine ok_ite (fun hc => ?_) (fun hc => ?_)
        · unfold s_X7_pool_135
          exact ok_some trivial
        · unfold s_X7_pool_135
          exact ok_some trivial
      · unfold s_X7_pool_119
        refine ok_ite (fun hc => ?_) (fun hc => ?_)
        · unfold s_X7_pool_135
          exact ok_some trivial
        · unfold s_X7_pool_135
          exact ok_some trivial
    · have hk := tug_lt (gd_bk (by assumption)) (by omega) hc
      refine ok_bind (a_tu (by omega) (by decide)) ?_
      rintro q hq
      refine ok_bind (a_workOf (by omega)) ?_
      rintro q hq
      refine ok_bind (a_X7_hoursIn) ?_
      rintro q hq
      refine ok_bind (a_tu (by omega) (by decide)) ?_
      rintro q hq
      refine ok_ite (fun hc => ?_) (fun hc => ?_)
      · unfold s_X7_pool_92
        (repeat rw [I_suc])
        exact ih _ _ _ (by omega) (by omega)
      · unfold s_X7_pool_92
        (repeat rw [I_suc])
        exact ih _ _ _ (by omega) (by omega)
theorem a_X7_pool {g' : Nat → Nat → Nat → Int32} {w' : Nat → Nat → Nat → Int64} {g : Nat → Nat → Nat → Int32} {w : Nat → Nat → Nat → Int64} (hG : Gd g' w' g w) {p1 p2 : Int32} : Ok (s_X7_pool 0 p1 p2 g w) (fun _ => True) := by
  unfold s_X7_pool
  refine ok_ite (fun hc => ?_) (fun hc => ?_)
  · refine ok_ite (fun hc => ?_) (fun hc => ?_)
    · exact a_X7_pool_R32 hG FU _ _ 0 (by decide) (by decide)
    · unfold s_X7_pool_22
      exact ok_some trivial
  · unfold s_X7_pool_22
    exact ok_some trivial
theorem a_X7_count_R4 {g' : Nat → Nat → Nat → Int32} {w' : Nat → Nat → Nat → Int64} {g : Nat → Nat → Nat → Int32} {w : Nat → Nat → Nat → Int64} (hG : Gd g' w' g w) {p1 : Int32} : ∀ (n : Nat) (v2 : Int32) (k : Nat), (k ≤ 8) → 9 - k < n → Ok (s_X7_count_R4 0 p1 n v2 (I k) g w) (fun _ => True) := by
  intro n
  induction n with
  | zero => intro v2 k h1 hm; omega
  | succ n ih =>
    intro v2 k h1 hm
    show Ok (s_X7_count_4 0 p1 (s_X7_count_R4 0 p1 n) v2 (I k) g w) _
    unfold s_X7_count_4
    refine ok_ite (fun hc => ?_) (fun hc => ?_)
    · refine ok_ite (fun hc => ?_) (fun hc => ?_)
      · exact ok_some trivial
      · refine ok_ite (fun hc => ?_) (fun hc => ?_)
        · exact ok_some trivial
        · refine ok_ite (fun hc => ?_) (fun hc => ?_)
          · exact ok_some trivial
          · refine ok_ite (fun hc => ?_) (fun hc => ?_)
            · refine ok_bind (a_X7_hoursIn) ?_
              rintro q hq
              exact ok_some trivial
            · refine ok_ite (fun hc => ?_) (fun hc => ?_)
              · exact ok_some trivial
              · refine ok_ite (fun hc => ?_) (fun hc => ?_)
                · exact ok_some trivial
                · refine ok_ite (fun hc => ?_) (fun hc => ?_)
                  · exact ok_some trivial
                  · refine ok_ite (fun hc => ?_) (fun hc => ?_)
                    · exact ok_some trivial
                    · refine ok_ite (fun hc => ?_) (fun hc => ?_)
                      · exact ok_some trivial
                      · refine ok_ite (fun hc => ?_) (fun hc => ?_)
                        · exact ok_some trivial
                        · exact ok_some trivial
    · have hk := ship_lt (gd_bk (by assumption)) (by omega) hc
      refine ok_bind (a_X7_hasJob (gd_bk (by assumption)) (by omega)) ?_
      rintro q hq
      refine ok_ite (fun hc => ?_) (fun hc => ?_)
      · unfold s_X7_count_31
        (repeat rw [I_suc])
        exact ih _ _ (by omega) (by omega)
      · unfold s_X7_count_31
        (repeat rw [I_suc])
        exact ih _ _ (by omega) (by omega)
theorem a_X7_count {g' : Nat → Nat → Nat → Int32} {w' : Nat → Nat → Nat → Int64} {g : Nat → Nat → Nat → Int32} {w : Nat → Nat → Nat → Int64} (hG : Gd g' w' g w) {p1 : Int32} : Ok (s_X7_count 0 p1 g w) (fun _ => True) := by
  unfold s_X7_count
  exact a_X7_count_R4 hG FU _ 0 (by decide) (by decide)
theorem rule_lt {g' : Nat → Nat → Nat → Int32} {w' : Nat → Nat → Nat → Int64} {g : Nat → Nat → Nat → Int32} {w : Nat → Nat → Nat → Int64} {k : Nat} (hG : Gd g' w' g w) (hk : k < 100) (hc : ¬ g 7 0 5 ≤ I k) : k < 12 := by
  have q := hG.1 7 0 5
  have q2 := mt Int32.le_iff_toInt_le.mpr hc
  have e := I_toInt (k := k) (by omega)
  have := q.2
  rw [show chi (gk 7 5) = 12 from rfl] at this
  omega
theorem a_X7_price_R29 {g' : Nat → Nat → Nat → Int32} {w' : Nat → Nat → Nat → Int64} {g : Nat → Nat → Nat → Int32} {w : Nat → Nat → Nat → Int64} (hG : Gd g' w' g w) {s : Nat} (hs : s < 8) : ∀ (n : Nat) (v2 : Int64) (k : Nat), (k ≤ 12) → 20 - k < n → Ok (s_X7_price_R29 0 (I s) n v2 (I k) g w) (fun _ => True) := by
  intro n
  induction n with
  | zero => intro v2 k h1 hm; omega
  | succ n ih =>
    intro v2 k h1 hm
    show Ok (s_X7_price_29 0 (I s) (s_X7_price_R29 0 (I s) n) v2 (I k) g w) _
    unfold s_X7_price_29
    refine ok_ite (fun hc => ?_) (fun hc => ?_)
    · exact ok_some trivial
    · have hk := rule_lt hG (by omega) hc
      refine ok_bind (a_X7_passes (gd_bk (by assumption)) (by omega) (by omega)) ?_
      rintro q hq
      refine ok_ite (fun hc => ?_) (fun hc => ?_)
      · refine ok_gd (by (first | exact inR_I (by omega) (by omega) | (simp only [i_0, i_1, i_2, i_3, i_4, i_5, i_6, i_7, i_8, i_9, i_10, i_11, i_12, i_13, i_24, i_47, i_48, i_60, i_61, i_62, i_63, i_64, i_65, i_70, i_130, i_218, I_mul, I_add]; exact inR_I (by omega) (by omega)) | exact rem12 (by omega) (by decide) (by decide))) ?_
        refine ok_ite (fun hc => ?_) (fun hc => ?_)
        · refine ok_gd (by (first | exact inR_I (by omega) (by omega) | (simp only [i_0, i_1, i_2, i_3, i_4, i_5, i_6, i_7, i_8, i_9, i_10, i_11, i_12, i_13, i_24, i_47, i_48, i_60, i_61, i_62, i_63, i_64, i_65, i_70, i_130, i_218, I_mul, I_add]; exact inR_I (by omega) (by omega)) | exact rem12 (by omega) (by decide) (by decide))) ?_
          unfold s_X7_price_84
          unfold s_X7_price_86
          (repeat rw [I_suc])
          exact ih _ _ (by omega) (by omega)
        · refine ok_gd (by (first | exact inR_I (by omega) (by omega) | (simp only [i_0, i_1, i_2, i_3, i_4, i_5, i_6, i_7, i_8, i_9, i_10, i_11, i_12, i_13, i_24, i_47, i_48, i_60, i_61, i_62, i_63, i_64, i_65, i_70, i_130, i_218, I_mul, I_add]; exact inR_I (by omega) (by omega)) | exact rem12 (by omega) (by decide) (by decide))) ?_
          unfold s_X7_price_84
          unfold s_X7_price_86
          (repeat rw [I_suc])
          exact ih _ _ (by omega) (by omega)
      · unfold s_X7_price_86
        (repeat rw [I_suc])
        exact ih _ _ (by omega) (by omega)
theorem a_X7_price {g' : Nat → Nat → Nat → Int32} {w' : Nat → Nat → Nat → Int64} {g : Nat → Nat → Nat → Int32} {w : Nat → Nat → Nat → Int64} (hG : Gd g' w' g w) {p1 : Int32} : Ok (s_X7_price 0 p1 g w) (fun _ => True) := by
  unfold s_X7_price
  refine ok_ite (fun hc => ?_) (fun hc => ?_)
  · obtain ⟨s, hs, rfl⟩ := isShip7 (gd_bk hG) hc
    refine ok_bind (a_X7_hasJob (gd_bk (by assumption)) (by omega)) ?_
    rintro q hq
    refine ok_ite (fun hc => ?_) (fun hc => ?_)
    · exact a_X7_price_R29 hG hs FU _ 0 (by decide) (by decide)
    · exact ok_some trivial
  · exact ok_some trivial
theorem a_X7_breaks_R36 {g' : Nat → Nat → Nat → Int32} {w' : Nat → Nat → Nat → Int64} {t : Nat} (ht : t < 6) {h : Nat} (hh : h ≤ 47) : ∀ (n : Nat) (v3 : Int32) (k : Nat) (g : Nat → Nat → Nat → Int32) (w : Nat → Nat → Nat → Int64), (k ≤ 8) → (Gd g' w' g w) → 9 - k < n → Ok (s_X7_breaks_R36 0 (I t) (I h) n v3 (I k) g w) (fun r => Gd g' w' r.2.1 r.2.2) := by
  intro n
  induction n with
  | zero => intro v3 k g w h1 hG hm; omega
  | succ n ih =>
    intro v3 k g w h1 hG hm
    show Ok (s_X7_breaks_36 0 (I t) (I h) (s_X7_breaks_R36 0 (I t) (I h) n) v3 (I k) g w) _
    unfold s_X7_breaks_36
    refine ok_ite (fun hc => ?_) (fun hc => ?_)
    · refine ok_gd (by (first | exact inR_I (by omega) (by omega) | (simp only [i_0, i_1, i_2, i_3, i_4, i_5, i_6, i_7, i_8, i_9, i_10, i_11, i_12, i_13, i_24, i_47, i_48, i_60, i_61, i_62, i_63, i_64, i_65, i_70, i_130, i_218, I_mul, I_add]; exact inR_I (by omega) (by omega)) | exact rem12 (by omega) (by decide) (by decide))) ?_
      refine ok_gd (by (first | exact inR_I (by omega) (by omega) | (simp only [i_0, i_1, i_2, i_3, i_4, i_5, i_6, i_7, i_8, i_9, i_10, i_11, i_12, i_13, i_24, i_47, i_48, i_60, i_61, i_62, i_63, i_64, i_65, i_70, i_130, i_218, I_mul, I_add]; exact inR_I (by omega) (by omega)) | exact rem12 (by omega) (by decide) (by decide))) ?_
      refine ok_gd (by (first | exact inR_I (by omega) (by omega) | (simp only [i_0, i_1, i_2, i_3, i_4, i_5, i_6, i_7, i_8, i_9, i_10, i_11, i_12, i_13, i_24, i_47, i_48, i_60, i_61, i_62, i_63, i_64, i_65, i_70, i_130, i_218, I_mul, I_add]; exact inR_I (by omega) (by omega)) | exact rem12 (by omega) (by decide) (by decide))) ?_
      exact ok_some ((gd_n (gd_tugw (j := 9) (gd_tugw (j := 7) (by assumption) (by omega) (by decide) (by decide)) (by omega) (by decide) (by decide)) (by decide)))
    · have hk := ship_lt (gd_bk (by assumption)) (by omega) hc
      refine ok_bind (a_X7_isOf (gd_bk (by assumption)) (by omega)) ?_
      rintro q hq
      refine ok_ite (fun hc => ?_) (fun hc => ?_)
      · refine ok_bind (a_X7_last (gd_bk (by assumption)) (by omega)) ?_
        rintro q hq
        refine ok_ite (fun hc => ?_) (fun hc => ?_)
        · unfold s_X7_breaks_187
          (repeat rw [I_suc])
          exact ih _ _ _ _ (by omega) (by assumption) (by omega)
        · refine ok_bind (a_X7_goesOn (gd_bk (by assumption)) (by omega) (by omega)) ?_
          rintro q hq
          refine ok_ite (fun hc => ?_) (fun hc => ?_)
          · refine ok_gd (by (first | exact inR_I (by omega) (by omega) | (simp only [i_0, i_1, i_2, i_3, i_4, i_5, i_6, i_7, i_8, i_9, i_10, i_11, i_12, i_13, i_24, i_47, i_48, i_60, i_61, i_62, i_63, i_64, i_65, i_70, i_130, i_218, I_mul, I_add]; exact inR_I (by omega) (by omega)) | exact rem12 (by omega) (by decide) (by decide))) ?_
            refine ok_bind (a_X7_last (gd_bk (by assumption)) (by omega)) ?_
            rintro q hq
            refine ok_gd (by (first | exact inR_I (by omega) (by omega) | (simp only [i_0, i_1, i_2, i_3, i_4, i_5, i_6, i_7, i_8, i_9, i_10, i_11, i_12, i_13, i_24, i_47, i_48, i_60, i_61, i_62, i_63, i_64, i_65, i_70, i_130, i_218, I_mul, I_add]; exact inR_I (by omega) (by omega)) | exact rem12 (by omega) (by decide) (by decide))) ?_
            refine ok_bind (a_X7_last (gd_bk (gd_tugw (j := 8) (by assumption) (by omega) (by decide) (by decide))) (by omega)) ?_
            rintro q hq
            refine ok_gd (by (first | exact inR_I (by omega) (by omega) | (simp only [i_0, i_1, i_2, i_3, i_4, i_5, i_6, i_7, i_8, i_9, i_10, i_11, i_12, i_13, i_24, i_47, i_48, i_60, i_61, i_62, i_63, i_64, i_65, i_70, i_130, i_218, I_mul, I_add]; exact inR_I (by omega) (by omega)) | exact rem12 (by omega) (by decide) (by decide))) ?_
            refine ok_gd (by (first | exact inR_I (by omega) (by omega) | (simp only [i_0, i_1, i_2, i_3, i_4, i_5, i_6, i_7, i_8, i_9, i_10, i_11, i_12, i_13, i_24, i_47, i_48, i_60, i_61, i_62, i_63, i_64, i_65, i_70, i_130, i_218, I_mul, I_add]; exact inR_I (by omega) (by omega)) | exact rem12 (by omega) (by decide) (by decide))) ?_
            unfold s_X7_breaks_187
            (repeat rw [I_suc])
            exact ih _ _ _ _ (by omega) (gd_set (gd_n (gd_tugw (j := 8) (by assumption) (by omega) (by decide) (by decide)) (by decide)) (by omega)) (by omega)
          · refine ok_bind (a_X7_takes (by assumption) (by omega)) ?_
            rintro q hq
            unfold s_X7_breaks_187
            (repeat rw [I_suc])
            exact ih _ _ _ _ (by omega) (gd_n (by assumption) (by decide)) (by omega)
      · unfold s_X7_breaks_187
        (repeat rw [I_suc])
        exact ih _ _ _ _ (by omega) (by assumption) (by omega)
theorem a_X7_breaks {g' : Nat → Nat → Nat → Int32} {w' : Nat → Nat → Nat → Int64} {g : Nat → Nat → Nat → Int32} {w : Nat → Nat → Nat → Int64} (hG : Gd g' w' g w) {p1 p2 : Int32} : Ok (s_X7_breaks 0 p1 p2 g w) (fun r => Gd g' w' r.2.1 r.2.2) := by
  unfold s_X7_breaks
  refine ok_ite (fun hc => ?_) (fun hc => ?_)
  · obtain ⟨t, ht, rfl⟩ := isTug7 (gd_bk hG) hc
    refine ok_ite (fun hc => ?_) (fun hc => ?_)
    · obtain ⟨h_p2, hh_p2, rfl⟩ := isHour7x hc
      refine ok_bind (a_tu (by omega) (by decide)) ?_
      rintro q hq
      refine ok_ite (fun hc => ?_) (fun hc => ?_)
      · exact a_X7_breaks_R36 (by omega) (by omega) FU _ 0 _ _ (by decide) hG (by decide)
      · exact ok_some ((by assumption))
    · unfold s_X7_breaks_15
      exact ok_some ((by assumption))
  · unfold s_X7_breaks_15
    exact ok_some ((by assumption))
theorem a_X7_storm_R26 {g' : Nat → Nat → Nat → Int32} {w' : Nat → Nat → Nat → Int64} {p1 p2 : Int32} : ∀ (n : Nat) (v3 : Int32) (k : Nat) (g : Nat → Nat → Nat → Int32) (w : Nat → Nat → Nat → Int64), (k ≤ 8) → (Gd g' w' g w) → 9 - k < n → Ok (s_X7_storm_R26 0 p1 p2 n v3 (I k) g w) (fun r => Gd g' w' r.2.1 r.2.2) := by
  intro n
  induction n with
  | zero => intro v3 k g w h1 hG hm; omega
  | succ n ih =>
    intro v3 k g w h1 hG hm
    show Ok (s_X7_storm_26 0 p1 p2 (s_X7_storm_R26 0 p1 p2 n) v3 (I k) g w) _
    unfold s_X7_storm_26
    refine ok_ite (fun hc => ?_) (fun hc => ?_)
    · exact ok_some ((gd_n (gd_n (by assumption) (by decide)) (by decide)))
    · have hk := ship_lt (gd_bk (by assumption)) (by omega) hc
      refine ok_bind (a_X7_hasJob (gd_bk (by assumption)) (by omega)) ?_
      rintro q hq
      refine ok_ite (fun hc => ?_) (fun hc => ?_)
      · refine ok_bind (a_hour (gd_bk (by assumption)) (by omega)) ?_
        rintro q hq
        refine ok_ite (fun hc => ?_) (fun hc => ?_)
        · unfold s_X7_storm_92
          (repeat rw [I_suc])
          exact ih _ _ _ _ (by omega) (by assumption) (by omega)
        · refine ok_bind (a_X7_last (gd_bk (by assumption)) (by omega)) ?_
          rintro q hq
          refine ok_ite (fun hc => ?_) (fun hc => ?_)
          · unfold s_X7_storm_92
            (repeat rw [I_suc])
            exact ih _ _ _ _ (by omega) (by assumption) (by omega)
          · refine ok_bind (a_X7_takes (by assumption) (by omega)) ?_
            rintro q hq
            unfold s_X7_storm_92
            (repeat rw [I_suc])
            exact ih _ _ _ _ (by omega) (gd_n (by assumption) (by decide)) (by omega)
      · unfold s_X7_storm_92
        (repeat rw [I_suc])
        exact ih _ _ _ _ (by omega) (by assumption) (by omega)
theorem a_X7_storm {g' : Nat → Nat → Nat → Int32} {w' : Nat → Nat → Nat → Int64} {g : Nat → Nat → Nat → Int32} {w : Nat → Nat → Nat → Int64} (hG : Gd g' w' g w) {p1 p2 : Int32} : Ok (s_X7_storm 0 p1 p2 g w) (fun r => Gd g' w' r.2.1 r.2.2) := by
  unfold s_X7_storm
  refine ok_ite (fun hc => ?_) (fun hc => ?_)
  · obtain ⟨h_p1, hh_p1, rfl⟩ := isHour7x hc
    refine ok_ite (fun hc => ?_) (fun hc => ?_)
    · obtain ⟨h_p2, hh_p2, rfl⟩ := isHour7x hc
      refine ok_ite (fun hc => ?_) (fun hc => ?_)
      · exact a_X7_storm_R26 FU _ 0 _ _ (by decide) hG (by decide)
      · unfold s_X7_storm_19
        exact ok_some ((by assumption))
    · unfold s_X7_storm_19
      exact ok_some ((by assumption))
  · unfold s_X7_storm_19
    exact ok_some ((by assumption))
theorem gd_1006 {g' : Nat → Nat → Nat → Int32} {w' : Nat → Nat → Nat → Int64} {g : Nat → Nat → Nat → Int32} {w : Nat → Nat → Nat → Int64} (h : Gd g' w' g w) {i j : Nat} {x : Int32} : Gd g' w' (gI g 1006 i j x) w := gd_gI h (by unfold jc; omega) (rgg_0 x)
theorem a_X7_berth_R42 {g' : Nat → Nat → Nat → Int32} {w' : Nat → Nat → Nat → Int64} {g : Nat → Nat → Nat → Int32} {w : Nat → Nat → Nat → Int64} (hG : Gd g' w' g w) {b : Nat} (hb : b < 6) {p2 p3 : Int32} : ∀ (n : Nat) (k : Nat), (k ≤ 8) → 9 - k < n → Ok (s_X7_berth_R42 0 (I b) p2 p3 n (I k) g w) (fun r => Gd g' w' r.2.1 r.2.2) := by
  intro n
  induction n with
  | zero => intro k h1 hm; omega
  | succ n ih =>
    intro k h1 hm
    show Ok (s_X7_berth_42 0 (I b) p2 p3 (s_X7_berth_R42 0 (I b) p2 p3 n) (I k) g w) _
    unfold s_X7_berth_42
    refine ok_ite (fun hc => ?_) (fun hc => ?_)
    · refine ok_ite (fun hc => ?_) (fun hc => ?_)
      · refine ok_gd (by (first | exact inR_I (by omega) (by omega) | (simp only [i_0, i_1, i_2, i_3, i_4, i_5, i_6, i_7, i_8, i_9, i_10, i_11, i_12, i_13, i_24, i_47, i_48, i_60, i_61, i_62, i_63, i_64, i_65, i_70, i_130, i_218, I_mul, I_add]; exact inR_I (by omega) (by omega)) | exact rem12 (by omega) (by decide) (by decide))) ?_
        unfold s_X7_berth_116
        refine ok_ite (fun hc => ?_) (fun hc => ?_)
        · refine ok_gd (by (first | exact inR_I (by omega) (by omega) | (simp only [i_0, i_1, i_2, i_3, i_4, i_5, i_6, i_7, i_8, i_9, i_10, i_11, i_12, i_13, i_24, i_47, i_48, i_60, i_61, i_62, i_63, i_64, i_65, i_70, i_130, i_218, I_mul, I_add]; exact inR_I (by omega) (by omega)) | exact rem12 (by omega) (by decide) (by decide))) ?_
          unfold s_X7_berth_137
          refine ok_gd (by (first | exact inR_I (by omega) (by omega) | (simp only [i_0, i_1, i_2, i_3, i_4, i_5, i_6, i_7, i_8, i_9, i_10, i_11, i_12, i_13, i_24, i_47, i_48, i_60, i_61, i_62, i_63, i_64, i_65, i_70, i_130, i_218, I_mul, I_add]; exact inR_I (by omega) (by omega)) | exact rem12 (by omega) (by decide) (by decide))) ?_
          refine ok_ite (fun hc => ?_) (fun hc => ?_)
          · refine ok_gd (by (first | exact inR_I (by omega) (by omega) | (simp only [i_0, i_1, i_2, i_3, i_4, i_5, i_6, i_7, i_8, i_9, i_10, i_11, i_12, i_13, i_24, i_47, i_48, i_60, i_61, i_62, i_63, i_64, i_65, i_70, i_130, i_218, I_mul, I_add]; exact inR_I (by omega) (by omega)) | exact rem12 (by omega) (by decide) (by decide))) ?_
            unfold s_X7_berth_158
            refine ok_gd (by (first | exact inR_I (by omega) (by omega) | (simp only [i_0, i_1, i_2, i_3, i_4, i_5, i_6, i_7, i_8, i_9, i_10, i_11, i_12, i_13, i_24, i_47, i_48, i_60, i_61, i_62, i_63, i_64, i_65, i_70, i_130, i_218, I_mul, I_add]; exact inR_I (by omega) (by omega)) | exact rem12 (by omega) (by decide) (by decide))) ?_
            exact ok_some ((gd_1006 (gd_1006 (by assumption))))
          · unfold s_X7_berth_158
            refine ok_gd (by (first | exact inR_I (by omega) (by omega) | (simp only [i_0, i_1, i_2, i_3, i_4, i_5, i_6, i_7, i_8, i_9, i_10, i_11, i_12, i_13, i_24, i_47, i_48, i_60, i_61, i_62, i_63, i_64, i_65, i_70, i_130, i_218, I_mul, I_add]; exact inR_I (by omega) (by omega)) | exact rem12 (by omega) (by decide) (by decide))) ?_
            exact ok_some ((gd_1006 (gd_1006 (by assumption))))
        · unfold s_X7_berth_137
          refine ok_gd (by (first | exact inR_I (by omega) (by omega) | (simp only [i_0, i_1, i_2, i_3, i_4, i_5, i_6, i_7, i_8, i_9, i_10, i_11, i_12, i_13, i_24, i_47, i_48, i_60, i_61, i_62, i_63, i_64, i_65, i_70, i_130, i_218, I_mul, I_add]; exact inR_I (by omega) (by omega)) | exact rem12 (by omega) (by decide) (by decide))) ?_
          refine ok_ite (fun hc => ?_) (fun hc => ?_)
          · refine ok_gd (by (first | exact inR_I (by omega) (by omega) | (simp only [i_0, i_1, i_2, i_3, i_4, i_5, i_6, i_7, i_8, i_9, i_10, i_11, i_12, i_13, i_24, i_47, i_48, i_60, i_61, i_62, i_63, i_64, i_65, i_70, i_130, i_218, I_mul, I_add]; exact inR_I (by omega) (by omega)) | exact rem12 (by omega) (by decide) (by decide))) ?_
            unfold s_X7_berth_158
            refine ok_gd (by (first | exact inR_I (by omega) (by omega) | (simp only [i_0, i_1, i_2, i_3, i_4, i_5, i_6, i_7, i_8, i_9, i_10, i_11, i_12, i_13, i_24, i_47, i_48, i_60, i_61, i_62, i_63, i_64, i_65, i_70, i_130, i_218, I_mul, I_add]; exact inR_I (by omega) (by omega)) | exact rem12 (by omega) (by decide) (by decide))) ?_
            exact ok_some ((gd_1006 (gd_1006 (by assumption))))
          · unfold s_X7_berth_158
            refine ok_gd (by (first | exact inR_I (by omega) (by omega) | (simp only [i_0, i_1, i_2, i_3, i_4, i_5, i_6, i_7, i_8, i_9, i_10, i_11, i_12, i_13, i_24, i_47, i_48, i_60, i_61, i_62, i_63, i_64, i_65, i_70, i_130, i_218, I_mul, I_add]; exact inR_I (by omega) (by omega)) | exact rem12 (by omega) (by decide) (by decide))) ?_
            exact ok_some ((gd_1006 (gd_1006 (by assumption))))
      · refine ok_gd (by (first | exact inR_I (by omega) (by omega) | (simp only [i_0, i_1, i_2, i_3, i_4, i_5, i_6, i_7, i_8, i_9, i_10, i_11, i_12, i_13, i_24, i_47, i_48, i_60, i_61, i_62, i_63, i_64, i_65, i_70, i_130, i_218, I_mul, I_add]; exact inR_I (by omega) (by omega)) | exact rem12 (by omega) (by decide) (by decide))) ?_
        unfold s_X7_berth_116
        refine ok_ite (fun hc => ?_) (fun hc => ?_)
        · refine ok_gd (by (first | exact inR_I (by omega) (by omega) | (simp only [i_0, i_1, i_2, i_3, i_4, i_5, i_6, i_7, i_8, i_9, i_10, i_11, i_12, i_13, i_24, i_47, i_48, i_60, i_61, i_62, i_63, i_64, i_65, i_70, i_130, i_218, I_mul, I_add]; exact inR_I (by omega) (by omega)) | exact rem12 (by omega) (by decide) (by decide))) ?_
          unfold s_X7_berth_137
          refine ok_gd (by (first | exact inR_I (by omega) (by omega) | (simp only [i_0, i_1, i_2, i_3, i_4, i_5, i_6, i_7, i_8, i_9, i_10, i_11, i_12, i_13, i_24, i_47, i_48, i_60, i_61, i_62, i_63, i_64, i_65, i_70, i_130, i_218, I_mul, I_add]; exact inR_I (by omega) (by omega)) | exact rem12 (by omega) (by decide) (by decide))) ?_
          refine ok_ite (fun hc => ?_) (fun hc => ?_)
          · refine ok_gd (by (first | exact inR_I (by omega) (by omega) | (simp only [i_0, i_1, i_2, i_3, i_4, i_5, i_6, i_7, i_8, i_9, i_10, i_11, i_12, i_13, i_24, i_47, i_48, i_60, i_61, i_62, i_63, i_64, i_65, i_70, i_130, i_218, I_mul, I_add]; exact inR_I (by omega) (by omega)) | exact rem12 (by omega) (by decide) (by decide))) ?_
            unfold s_X7_berth_158
            refine ok_gd (by (first | exact inR_I (by omega) (by omega) | (simp only [i_0, i_1, i_2, i_3, i_4, i_5, i_6, i_7, i_8, i_9, i_10, i_11, i_12, i_13, i_24, i_47, i_48, i_60, i_61, i_62, i_63, i_64, i_65, i_70, i_130, i_218, I_mul, I_add]; exact inR_I (by omega) (by omega)) | exact rem12 (by omega) (by decide) (by decide))) ?_
            exact ok_some ((gd_1006 (gd_1006 (by assumption))))
          · unfold s_X7_berth_158
            refine ok_gd (by (first | exact inR_I (by omega) (by omega) | (simp only [i_0, i_1, i_2, i_3, i_4, i_5, i_6, i_7, i_8, i_9, i_10, i_11, i_12, i_13, i_24, i_47, i_48, i_60, i_61, i_62, i_63, i_64, i_65, i_70, i_130, i_218, I_mul, I_add]; exact inR_I (by omega) (by omega)) | exact rem12 (by omega) (by decide) (by decide))) ?_
            exact ok_some ((gd_1006 (gd_1006 (by assumption))))
        · unfold s_X7_berth_137
          refine ok_gd (by (first | exact inR_I (by omega) (by omega) | (simp only [i_0, i_1, i_2, i_3, i_4, i_5, i_6, i_7, i_8, i_9, i_10, i_11, i_12, i_13, i_24, i_47, i_48, i_60, i_61, i_62, i_63, i_64, i_65, i_70, i_130, i_218, I_mul, I_add]; exact inR_I (by omega) (by omega)) | exact rem12 (by omega) (by decide) (by decide))) ?_
          refine ok_ite (fun hc => ?_) (fun hc => ?_)
          · refine ok_gd (by (first | exact inR_I (by omega) (by omega) | (simp only [i_0, i_1, i_2, i_3, i_4, i_5, i_6, i_7, i_8, i_9, i_10, i_11, i_12, i_13, i_24, i_47, i_48, i_60, i_61, i_62, i_63, i_64, i_65, i_70, i_130, i_218, I_mul, I_add]; exact inR_I (by omega) (by omega)) | exact rem12 (by omega) (by decide) (by decide))) ?_
            unfold s_X7_berth_158
            refine ok_gd (by (first | exact inR_I (by omega) (by omega) | (simp only [i_0, i_1, i_2, i_3, i_4, i_5, i_6, i_7, i_8, i_9, i_10, i_11, i_12, i_13, i_24, i_47, i_48, i_60, i_61, i_62, i_63, i_64, i_65, i_70, i_130, i_218, I_mul, I_add]; exact inR_I (by omega) (by omega)) | exact rem12 (by omega) (by decide) (by decide))) ?_
            exact ok_some ((gd_1006 (gd_1006 (by assumption))))
          · unfold s_X7_berth_158
            refine ok_gd (by (first | exact inR_I (by omega) (by omega) | (simp only [i_0, i_1, i_2, i_3, i_4, i_5, i_6, i_7, i_8, i_9, i_10, i_11, i_12, i_13, i_24, i_47, i_48, i_60, i_61, i_62, i_63, i_64, i_65, i_70, i_130, i_218, I_mul, I_add]; exact inR_I (by omega) (by omega)) | exact rem12 (by omega) (by decide) (by decide))) ?_
            exact ok_some ((gd_1006 (gd_1006 (by assumption))))
    · have hk := ship_lt (gd_bk (by assumption)) (by omega) hc
      refine ok_bind (a_X7_hasJob (gd_bk (by assumption)) (by omega)) ?_
      rintro q hq
      refine ok_ite (fun hc => ?_) (fun hc => ?_)
      · refine ok_bind (a_from (gd_bk (by assumption)) (by omega)) ?_
        rintro _ ⟨a, ha, rfl⟩
        refine ok_ite (fun hc => ?_) (fun hc => ?_)
        · unfold s_X7_berth_88
          exact ok_some ((by assumption))
        · refine ok_bind (a_to (gd_bk (by assumption)) (by omega)) ?_
          rintro _ ⟨a, ha, rfl⟩
          refine ok_ite (fun hc => ?_) (fun hc => ?_)
          · unfold s_X7_berth_91
            (repeat rw [I_suc])
            exact ih _ (by omega) (by omega)
          · unfold s_X7_berth_88
            exact ok_some ((by assumption))
      · unfold s_X7_berth_91
        (repeat rw [I_suc])
        exact ih _ (by omega) (by omega)
theorem a_X7_berth {g' : Nat → Nat → Nat → Int32} {w' : Nat → Nat → Nat → Int64} {g : Nat → Nat → Nat → Int32} {w : Nat → Nat → Nat → Int64} (hG : Gd g' w' g w) {p1 p2 p3 : Int32} : Ok (s_X7_berth 0 p1 p2 p3 g w) (fun r => Gd g' w' r.2.1 r.2.2) := by
  unfold s_X7_berth
  refine ok_ite (fun hc => ?_) (fun hc => ?_)
  · obtain ⟨b_p1, hb_p1, rfl⟩ := isBerth7x hc
    refine ok_ite (fun hc => ?_) (fun hc => ?_)
    · refine ok_ite (fun hc => ?_) (fun hc => ?_)
      · unfold s_X7_berth_31
        refine ok_ite (fun hc => ?_) (fun hc => ?_)
        · exact a_X7_berth_R42 hG (by omega) FU 0 (by decide) (by decide)
        · unfold s_X7_berth_37
          exact ok_some ((by assumption))
      · unfold s_X7_berth_31
        refine ok_ite (fun hc => ?_) (fun hc => ?_)
        · exact a_X7_berth_R42 hG (by omega) FU 0 (by decide) (by decide)
        · unfold s_X7_berth_37
          exact ok_some ((by assumption))
    · unfold s_X7_berth_37
      exact ok_some ((by assumption))
  · unfold s_X7_berth_37
    exact ok_some ((by assumption))
