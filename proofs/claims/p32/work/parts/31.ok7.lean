/-! the reference: its readers never answer none -/
section
variable {g : Nat → Nat → Nat → Int32} {w : Nat → Nat → Nat → Int64}
theorem a_sh {s j : Nat} (hs : s < 8) (hj : j < 11) : Ok (s_X7_ofShip 0 (I s) (I j) g w) (fun _ => True) := ⟨_, ofShip_e hs hj, trivial⟩
theorem a_len {s : Nat} (hI : BK (w 2218 0)) (hs : s < 8) : Ok (s_X7_ofShip 0 (I s) (3 : Int32) g w) (fun r => ∃ a, a ≤ 4 ∧ r = I a) := by
  obtain ⟨a, h1, _, h2⟩ := rg_ex (hI (130 + 11 * s + 3)) kd_length rfl rfl (by decide)
  exact ⟨_, ofShip_e hs (j := 3) (by decide), a, h1, h2⟩
theorem a_from {s : Nat} (hI : BK (w 2218 0)) (hs : s < 8) : Ok (s_X7_ofShip 0 (I s) (5 : Int32) g w) (fun r => ∃ a, a ≤ 5 ∧ r = I a) := by
  obtain ⟨a, h1, _, h2⟩ := rg_ex (hI (130 + 11 * s + 5)) kd_from rfl rfl (by decide)
  exact ⟨_, ofShip_e hs (j := 5) (by decide), a, h1, h2⟩
theorem a_to {s : Nat} (hI : BK (w 2218 0)) (hs : s < 8) : Ok (s_X7_ofShip 0 (I s) (6 : Int32) g w) (fun r => ∃ a, a ≤ 5 ∧ r = I a) := by
  obtain ⟨a, h1, _, h2⟩ := rg_ex (hI (130 + 11 * s + 6)) kd_to rfl rfl (by decide)
  exact ⟨_, ofShip_e hs (j := 6) (by decide), a, h1, h2⟩
theorem hour_rg {s : Nat} (hI : BK (w 2218 0)) : -4 ≤ (w 2218 0 (130 + 11 * s + 7)).toInt32.toInt ∧ (w 2218 0 (130 + 11 * s + 7)).toInt32.toInt ≤ 47 := by
  have h := hI (130 + 11 * s + 7)
  unfold rgk at h
  rw [kd_hour, show klo 8 = -4 from rfl, show khi 8 = 47 from rfl] at h
  rw [n32 (by omega) (by omega)]
  exact h
theorem a_hour {s : Nat} (hI : BK (w 2218 0)) (hs : s < 8) : Ok (s_X7_ofShip 0 (I s) (7 : Int32) g w) (fun r => -4 ≤ r.toInt ∧ r.toInt ≤ 47) :=
  ⟨_, ofShip_e hs (j := 7) (by decide), hour_rg hI⟩
theorem a_tu {t j : Nat} (ht : t < 6) (hj : j < 10) : Ok (s_X7_ofTug 0 (I t) (I j) g w) (fun _ => True) := ⟨_, ofTug_e ht hj, trivial⟩
theorem a_crew {t : Nat} (hI : BK (w 2218 0)) (ht : t < 6) : Ok (s_X7_ofTug 0 (I t) (5 : Int32) g w) (fun r => ∃ a, a ≤ 12 ∧ r = I a) := by
  obtain ⟨a, h1, _, h2⟩ := rg_ex (hI (70 + 10 * t + 5)) (kd_crew ht) rfl rfl (by decide)
  exact ⟨_, ofTug_e ht (j := 5) (by decide), a, h1, h2⟩
theorem a_home {t : Nat} (hI : BK (w 2218 0)) (ht : t < 6) : Ok (s_X7_ofTug 0 (I t) (6 : Int32) g w) (fun r => ∃ a, a ≤ 5 ∧ r = I a) := by
  obtain ⟨a, h1, _, h2⟩ := rg_ex (hI (70 + 10 * t + 6)) (kd_home ht) rfl rfl (by decide)
  exact ⟨_, ofTug_e ht (j := 6) (by decide), a, h1, h2⟩
theorem a_workOf {t : Nat} (ht : t < 6) : Ok (s_X7_workOf 0 (I t) g w) (fun _ => True) := ⟨_, workOf_e ht, trivial⟩
theorem a_bunkersOf {t : Nat} (ht : t < 6) : Ok (s_X7_bunkersOf 0 (I t) g w) (fun _ => True) := ⟨_, bunkersOf_e ht, trivial⟩
end
theorem a_X7_wayOf {g : Nat → Nat → Nat → Int32} {w : Nat → Nat → Nat → Int64} (hI : BK (w 2218 0)) {a b : Nat} (ha : a < 6) (hb : b < 6) : Ok (s_X7_wayOf 0 (I a) (I b) g w) (fun _ => True) := by
  unfold s_X7_wayOf
  refine ok_gd (by (first | exact inR_I (by omega) (by omega) | (simp only [i_0, i_1, i_2, i_3, i_4, i_5, i_6, i_7, i_8, i_9, i_10, i_11, i_12, i_13, i_24, i_47, i_48, i_60, i_61, i_62, i_63, i_64, i_65, i_70, i_130, i_218, I_mul, I_add]; exact inR_I (by omega) (by omega)) | exact rem12 (by omega) (by decide) (by decide))) ?_
  refine ok_gd (by (first | exact inR_I (by omega) (by omega) | (simp only [i_0, i_1, i_2, i_3, i_4, i_5, i_6, i_7, i_8, i_9, i_10, i_11, i_12, i_13, i_24, i_47, i_48, i_60, i_61, i_62, i_63, i_64, i_65, i_70, i_130, i_218, I_mul, I_add]; exact inR_I (by omega) (by omega)) | exact rem12 (by omega) (by decide) (by decide))) ?_
  refine ok_ite (fun hc => ?_) (fun hc => ?_)
  · refine ok_gd (by (first | exact inR_I (by omega) (by omega) | (simp only [i_0, i_1, i_2, i_3, i_4, i_5, i_6, i_7, i_8, i_9, i_10, i_11, i_12, i_13, i_24, i_47, i_48, i_60, i_61, i_62, i_63, i_64, i_65, i_70, i_130, i_218, I_mul, I_add]; exact inR_I (by omega) (by omega)) | exact rem12 (by omega) (by decide) (by decide))) ?_
    refine ok_gd (by (first | exact inR_I (by omega) (by omega) | (simp only [i_0, i_1, i_2, i_3, i_4, i_5, i_6, i_7, i_8, i_9, i_10, i_11, i_12, i_13, i_24, i_47, i_48, i_60, i_61, i_62, i_63, i_64, i_65, i_70, i_130, i_218, I_mul, I_add]; exact inR_I (by omega) (by omega)) | exact rem12 (by omega) (by decide) (by decide))) ?_
    unfold s_X7_wayOf_44
    refine ok_gd (by exact bk_speed hI) ?_
    exact ok_some trivial
  · refine ok_gd (by (first | exact inR_I (by omega) (by omega) | (simp only [i_0, i_1, i_2, i_3, i_4, i_5, i_6, i_7, i_8, i_9, i_10, i_11, i_12, i_13, i_24, i_47, i_48, i_60, i_61, i_62, i_63, i_64, i_65, i_70, i_130, i_218, I_mul, I_add]; exact inR_I (by omega) (by omega)) | exact rem12 (by omega) (by decide) (by decide))) ?_
    refine ok_gd (by (first | exact inR_I (by omega) (by omega) | (simp only [i_0, i_1, i_2, i_3, i_4, i_5, i_6, i_7, i_8, i_9, i_10, i_11, i_12, i_13, i_24, i_47, i_48, i_60, i_61, i_62, i_63, i_64, i_65, i_70, i_130, i_218, I_mul, I_add]; exact inR_I (by omega) (by omega)) | exact rem12 (by omega) (by decide) (by decide))) ?_
    unfold s_X7_wayOf_44
    refine ok_gd (by exact bk_speed hI) ?_
    exact ok_some trivial
theorem a_X7_bits_R4 {g : Nat → Nat → Nat → Int32} {w : Nat → Nat → Nat → Int64} {p0 : Int32} : ∀ (n : Nat) (v1 : Int32) (k : Nat), (k ≤ 8) → 8 - k < n → Ok (s_X7_bits_R4 p0 n v1 (I k) g w) (fun _ => True) := by
  intro n
  induction n with
  | zero => intro v1 k h1 hm; omega
  | succ n ih =>
    intro v1 k h1 hm
    show Ok (s_X7_bits_4 p0 (s_X7_bits_R4 p0 n) v1 (I k) g w) _
    unfold s_X7_bits_4
    refine ok_ite (fun hc => ?_) (fun hc => ?_)
    · exact ok_some trivial
    · have hk := I_nle (b := 8) (by decide) (by omega) hc
      (repeat rw [I_suc])
      exact ih _ _ (by omega) (by omega)
theorem a_X7_bits {g : Nat → Nat → Nat → Int32} {w : Nat → Nat → Nat → Int64} {p0 : Int32} : Ok (s_X7_bits p0 g w) (fun _ => True) := by
  unfold s_X7_bits
  exact a_X7_bits_R4 FU _ 0 (by decide) (by decide)
theorem a_X7_hasJob {g : Nat → Nat → Nat → Int32} {w : Nat → Nat → Nat → Int64} (hI : BK (w 2218 0)) {s : Nat} (hs : s < 8) : Ok (s_X7_hasJob 0 (I s) g w) (fun _ => True) := by
  unfold s_X7_hasJob
  refine ok_bind (a_hour hI (by omega)) ?_
  rintro q hq
  refine ok_ite (fun hc => ?_) (fun hc => ?_)
  · unfold s_X7_hasJob_15
    exact ok_some trivial
  · unfold s_X7_hasJob_15
    exact ok_some trivial
theorem a_X7_needsOf {g : Nat → Nat → Nat → Int32} {w : Nat → Nat → Nat → Int64} (hI : BK (w 2218 0)) {s : Nat} (hs : s < 8) {h : Nat} (hh : h < 200) : Ok (s_X7_needsOf 0 (I s) (I h) g w) (fun _ => True) := by
  unfold s_X7_needsOf
  refine ok_bind (a_sh (by omega) (by decide)) ?_
  rintro q hq
  refine ok_bind (a_sh (by omega) (by decide)) ?_
  rintro q hq
  refine ok_gd (by (first | exact inR_I (by omega) (by omega) | (simp only [i_0, i_1, i_2, i_3, i_4, i_5, i_6, i_7, i_8, i_9, i_10, i_11, i_12, i_13, i_24, i_47, i_48, i_60, i_61, i_62, i_63, i_64, i_65, i_70, i_130, i_218, I_mul, I_add]; exact inR_I (by omega) (by omega)) | exact rem12 (by omega) (by decide) (by decide))) ?_
  exact ok_some trivial
theorem a_X7_fuelBehind_R11 {g : Nat → Nat → Nat → Int32} {w : Nat → Nat → Nat → Int64} {t : Nat} (ht : t < 6) {p2 : Int64} {p4 : Int32} (hb : p4.toInt < 48) : ∀ (n : Nat) (v5 : Int32) (k : Nat), (k ≤ 48) → 49 - k < n → Ok (s_X7_fuelBehind_R11 0 (I t) p2 p4 n v5 (I k) g w) (fun _ => True) := by
  intro n
  induction n with
  | zero => intro v5 k h1 hm; omega
  | succ n ih =>
    intro v5 k h1 hm
    show Ok (s_X7_fuelBehind_11 0 (I t) p2 p4 (s_X7_fuelBehind_R11 0 (I t) p2 p4 n) v5 (I k) g w) _
    unfold s_X7_fuelBehind_11
    refine ok_ite (fun hc => ?_) (fun hc => ?_)
    · unfold s_X7_fuelBehind_96
      exact ok_some trivial
    · have hk : k < 48 := by
        have e := I_toInt (k := k) (by omega)
        have q := mt (Int32.lt_iff_toInt_lt).mpr hc
        omega
      refine ok_ite (fun hc => ?_) (fun hc => ?_)
      · unfold s_X7_fuelBehind_96
        exact ok_some trivial
      · refine ok_ite (fun hc => ?_) (fun hc => ?_)
        · unfold s_X7_fuelBehind_39
          refine ok_bind (a_bunkersOf (by omega)) ?_
          rintro q hq
          refine ok_ite (fun hc => ?_) (fun hc => ?_)
          · unfold s_X7_fuelBehind_63
            refine ok_bind (a_tu (by omega) (by decide)) ?_
            rintro q hq
            refine ok_ite (fun hc => ?_) (fun hc => ?_)
            · unfold s_X7_fuelBehind_88
              (repeat rw [I_suc])
              exact ih _ _ (by omega) (by omega)
            · refine ok_bind (a_tu (by omega) (by decide)) ?_
              rintro q hq
              unfold s_X7_fuelBehind_88
              (repeat rw [I_suc])
              exact ih _ _ (by omega) (by omega)
          · unfold s_X7_fuelBehind_63
            refine ok_bind (a_tu (by omega) (by decide)) ?_
            rintro q hq
            refine ok_ite (fun hc => ?_) (fun hc => ?_)
            · unfold s_X7_fuelBehind_88
              (repeat rw [I_suc])
              exact ih _ _ (by omega) (by omega)
            · refine ok_bind (a_tu (by omega) (by decide)) ?_
              rintro q hq
              unfold s_X7_fuelBehind_88
              (repeat rw [I_suc])
              exact ih _ _ (by omega) (by omega)
        · unfold s_X7_fuelBehind_39
          refine ok_bind (a_bunkersOf (by omega)) ?_
          rintro q hq
          refine ok_ite (fun hc => ?_) (fun hc => ?_)
          · unfold s_X7_fuelBehind_63
            refine ok_bind (a_tu (by omega) (by decide)) ?_
            rintro q hq
            refine ok_ite (fun hc => ?_) (fun hc => ?_)
            · unfold s_X7_fuelBehind_88
              (repeat rw [I_suc])
              exact ih _ _ (by omega) (by omega)
            · refine ok_bind (a_tu (by omega) (by decide)) ?_
              rintro q hq
              unfold s_X7_fuelBehind_88
              (repeat rw [I_suc])
              exact ih _ _ (by omega) (by omega)
          · unfold s_X7_fuelBehind_63
            refine ok_bind (a_tu (by omega) (by decide)) ?_
            rintro q hq
            refine ok_ite (fun hc => ?_) (fun hc => ?_)
            · unfold s_X7_fuelBehind_88
              (repeat rw [I_suc])
              exact ih _ _ (by omega) (by omega)
            · refine ok_bind (a_tu (by omega) (by decide)) ?_
              rintro q hq
              unfold s_X7_fuelBehind_88
              (repeat rw [I_suc])
              exact ih _ _ (by omega) (by omega)
theorem a_X7_fuelBehind {g : Nat → Nat → Nat → Int32} {w : Nat → Nat → Nat → Int64} {t : Nat} (ht : t < 6) {p2 : Int64} {p4 : Int32} (hb : p4.toInt < 48) : Ok (s_X7_fuelBehind 0 (I t) p2 p4 g w) (fun _ => True) := by
  unfold s_X7_fuelBehind
  refine ok_bind (a_tu (by omega) (by decide)) ?_
  rintro q hq
  exact a_X7_fuelBehind_R11 ht hb FU _ 0 (by decide) (by decide)
theorem a_X7_pullOf_R4 {g : Nat → Nat → Nat → Int32} {w : Nat → Nat → Nat → Int64} (hI : BK (w 2218 0)) {p1 : Int32} : ∀ (n : Nat) (v2 : Int32) (k : Nat), (k ≤ 6) → 6 - k < n → Ok (s_X7_pullOf_R4 0 p1 n v2 (I k) g w) (fun _ => True) := by
  intro n
  induction n with
  | zero => intro v2 k h1 hm; omega
  | succ n ih =>
    intro v2 k h1 hm
    show Ok (s_X7_pullOf_4 0 p1 (s_X7_pullOf_R4 0 p1 n) v2 (I k) g w) _
    unfold s_X7_pullOf_4
    refine ok_ite (fun hc => ?_) (fun hc => ?_)
    · exact ok_some trivial
    · have hk := tug_lt hI (by omega) hc
      refine ok_ite (fun hc => ?_) (fun hc => ?_)
      · unfold s_X7_pullOf_37
        (repeat rw [I_suc])
        exact ih _ _ (by omega) (by omega)
      · refine ok_bind (a_tu (by omega) (by decide)) ?_
        rintro q hq
        unfold s_X7_pullOf_37
        (repeat rw [I_suc])
        exact ih _ _ (by omega) (by omega)
theorem a_X7_pullOf {g : Nat → Nat → Nat → Int32} {w : Nat → Nat → Nat → Int64} (hI : BK (w 2218 0)) {p1 : Int32} : Ok (s_X7_pullOf 0 p1 g w) (fun _ => True) := by
  unfold s_X7_pullOf
  exact a_X7_pullOf_R4 hI FU _ 0 (by decide) (by decide)
theorem a_X7_rests_R44 {g : Nat → Nat → Nat → Int32} {w : Nat → Nat → Nat → Int64} {p1 : Int32} {p2 : Int64} {rec27 : Int32 → Int32 → Bool → Int32 → (Nat → Nat → Nat → Int32) → (Nat → Nat → Nat → Int64) → Option Bool} {v4 : Int32} {wd h0 : Nat} (hw : wd ≤ 18) (hh : h0 ≤ 48) (hr : ∀ b, Ok (rec27 v4 (I wd) b (I (h0 + 1)) g w) (fun _ => True)) : ∀ (n : Nat) (v6 : Bool) (v8 : Int32) (k : Nat), (k ≤ h0 + wd) → 80 - k < n → Ok (s_X7_rests_R44 0 p1 p2 rec27 n v4 (I wd) v6 (I h0) v8 (I k) g w) (fun _ => True) := by
  intro n
  induction n with
  | zero => intro v6 v8 k h1 hm; omega
  | succ n ih =>
    intro v6 v8 k h1 hm
    show Ok (s_X7_rests_44 0 p1 p2 rec27 (s_X7_rests_R44 0 p1 p2 rec27 n) v4 (I wd) v6 (I h0) v8 (I k) g w) _
    unfold s_X7_rests_44
    refine ok_ite (fun hc => ?_) (fun hc => ?_)
    · refine ok_ite (fun hc => ?_) (fun hc => ?_)
      · refine ok_ite (fun hc => ?_) (fun hc => ?_)
        · unfold s_X7_rests_95
          unfold s_X7_rests_96
          (repeat rw [I_suc])
          exact hr _
        · unfold s_X7_rests_96
          (repeat rw [I_suc])
          exact hr _
      · unfold s_X7_rests_95
        unfold s_X7_rests_96
        (repeat rw [I_suc])
        exact hr _
    · rw [I_add] at hc
      have hk := I_nle (b := h0 + wd) (by omega) (by omega) hc
      refine ok_ite (fun hc => ?_) (fun hc => ?_)
      · unfold s_X7_rests_70
        (repeat rw [I_suc])
        exact ih _ _ _ (by omega) (by omega)
      · unfold s_X7_rests_70
        (repeat rw [I_suc])
        exact ih _ _ _ (by omega) (by omega)
theorem a_X7_rests_R27 {g : Nat → Nat → Nat → Int32} {w : Nat → Nat → Nat → Int64} {p1 : Int32} {p2 : Int64} {v4 : Int32} {wd : Nat} (hw : wd ≤ 18) : ∀ (n : Nat) (v6 : Bool) (k : Nat), (k ≤ 49) → 50 - k < n → Ok (s_X7_rests_R27 0 p1 p2 n v4 (I wd) v6 (I k) g w) (fun _ => True) := by
  intro n
  induction n with
  | zero => intro v6 k h1 hm; omega
  | succ n ih =>
    intro v6 k h1 hm
    show Ok (s_X7_rests_27 0 p1 p2 (s_X7_rests_R27 0 p1 p2 n) v4 (I wd) v6 (I k) g w) _
    unfold s_X7_rests_27
    refine ok_ite (fun hc => ?_) (fun hc => ?_)
    · exact ok_some trivial
    · have hk : k ≤ 48 := by
        rw [I_add] at hc
        have q := mt (I_lt (a := 48) (b := k + wd) (by decide) (by omega)).mpr hc
        omega
      exact a_X7_rests_R44 hw hk (fun b => ih _ _ (by omega) (by omega)) FU _ _ k (by omega) (by unfold FU; omega)
theorem a_X7_rests {g : Nat → Nat → Nat → Int32} {w : Nat → Nat → Nat → Int64} (hI : BK (w 2218 0)) {t : Nat} (ht : t < 6) {p2 : Int64} : Ok (s_X7_rests 0 (I t) p2 g w) (fun _ => True) := by
  unfold s_X7_rests
  refine ok_bind (a_crew hI (by omega)) ?_
  rintro _ ⟨a, ha, rfl⟩
  obtain ⟨rr, hrr, _, er⟩ := bk_rest hI
  rw [show (60 : Int32).toNatClampNeg = 60 from rfl, er, I_add]
  exact a_X7_rests_R27 (by omega) FU _ 0 (by decide) (by decide)
theorem a_X7_last {g : Nat → Nat → Nat → Int32} {w : Nat → Nat → Nat → Int64} (hI : BK (w 2218 0)) {s : Nat} (hs : s < 8) : Ok (s_X7_last 0 (I s) g w) (fun r => -5 ≤ r.toInt ∧ r.toInt ≤ 50) := by
  unfold s_X7_last
  refine ok_bind (a_hour hI hs) ?_
  rintro q hq
  refine ok_bind (a_len hI hs) ?_
  rintro _ ⟨a, ha, rfl⟩
  have ea := I_toInt (k := a) (by omega)
  have e1 := add_toInt (a := q) (b := I a) (by omega) (by omega)
  have e2 := sub_toInt (a := q + I a) (b := 1) (by rw [show (1 : Int32).toInt = 1 from rfl]; omega) (by rw [show (1 : Int32).toInt = 1 from rfl]; omega)
  rw [show (1 : Int32).toInt = 1 from rfl] at e2
  exact ok_some ⟨by omega, by omega⟩
theorem a_X7_isOf {g : Nat → Nat → Nat → Int32} {w : Nat → Nat → Nat → Int64} (hI : BK (w 2218 0)) {s : Nat} (hs : s < 8) {p2 : Int32} : Ok (s_X7_isOf 0 (I s) p2 g w) (fun _ => True) := by
  unfold s_X7_isOf
  refine ok_bind (a_X7_hasJob hI (by omega)) ?_
  rintro q hq
  refine ok_ite (fun hc => ?_) (fun hc => ?_)
  · refine ok_bind (a_sh (by omega) (by decide)) ?_
    rintro q hq
    refine ok_ite (fun hc => ?_) (fun hc => ?_)
    · unfold s_X7_isOf_27
      unfold s_X7_isOf_28
      exact ok_some trivial
    · unfold s_X7_isOf_28
      exact ok_some trivial
  · unfold s_X7_isOf_27
    unfold s_X7_isOf_28
    exact ok_some trivial
theorem a_X7_isBarred_R15 {g : Nat → Nat → Nat → Int32} {w : Nat → Nat → Nat → Int64} (hI : BK (w 2218 0)) {s : Nat} (hs : s < 8) {p2 v3 : Int32} : ∀ (n : Nat) (v4 : Bool) (k : Nat), (k ≤ 8) → 9 - k < n → Ok (s_X7_isBarred_R15 0 (I s) p2 n v3 v4 (I k) g w) (fun _ => True) := by
  intro n
  induction n with
  | zero => intro v4 k h1 hm; omega
  | succ n ih =>
    intro v4 k h1 hm
    show Ok (s_X7_isBarred_15 0 (I s) p2 (s_X7_isBarred_R15 0 (I s) p2 n) v3 v4 (I k) g w) _
    unfold s_X7_isBarred_15
    refine ok_ite (fun hc => ?_) (fun hc => ?_)
    · exact ok_some trivial
    · have hk := ship_lt hI (by omega) hc
      refine ok_ite (fun hc => ?_) (fun hc => ?_)
      · unfold s_X7_isBarred_148
        (repeat rw [I_suc])
        exact ih _ _ (by omega) (by omega)
      · refine ok_bind (a_X7_hasJob hI (by omega)) ?_
        rintro q hq
        refine ok_ite (fun hc => ?_) (fun hc => ?_)
        · refine ok_bind (a_hour hI (by omega)) ?_
          rintro q hq
          refine ok_ite (fun hc => ?_) (fun hc => ?_)
          · unfold s_X7_isBarred_148
            (repeat rw [I_suc])
            exact ih _ _ (by omega) (by omega)
          · refine ok_bind (a_X7_last hI (by omega)) ?_
            rintro q hq
            refine ok_ite (fun hc => ?_) (fun hc => ?_)
            · unfold s_X7_isBarred_148
              (repeat rw [I_suc])
              exact ih _ _ (by omega) (by omega)
            · refine ok_bind (a_from hI (by omega)) ?_
              rintro _ ⟨a, ha, rfl⟩
              refine ok_gd (by (first | exact inR_I (by omega) (by omega) | (simp only [i_0, i_1, i_2, i_3, i_4, i_5, i_6, i_7, i_8, i_9, i_10, i_11, i_12, i_13, i_24, i_47, i_48, i_60, i_61, i_62, i_63, i_64, i_65, i_70, i_130, i_218, I_mul, I_add]; exact inR_I (by omega) (by omega)) | exact rem12 (by omega) (by decide) (by decide))) ?_
              refine ok_bind (a_to hI (by omega)) ?_
              rintro _ ⟨a, ha, rfl⟩
              refine ok_gd (by (first | exact inR_I (by omega) (by omega) | (simp only [i_0, i_1, i_2, i_3, i_4, i_5, i_6, i_7, i_8, i_9, i_10, i_11, i_12, i_13, i_24, i_47, i_48, i_60, i_61, i_62, i_63, i_64, i_65, i_70, i_130, i_218, I_mul, I_add]; exact inR_I (by omega) (by omega)) | exact rem12 (by omega) (by decide) (by decide))) ?_
              refine ok_bind (a_from hI (by omega)) ?_
              rintro _ ⟨a, ha, rfl⟩
              refine ok_gd (by (first | exact inR_I (by omega) (by omega) | (simp only [i_0, i_1, i_2, i_3, i_4, i_5, i_6, i_7, i_8, i_9, i_10, i_11, i_12, i_13, i_24, i_47, i_48, i_60, i_61, i_62, i_63, i_64, i_65, i_70, i_130, i_218, I_mul, I_add]; exact inR_I (by omega) (by omega)) | exact rem12 (by omega) (by decide) (by decide))) ?_
              refine ok_bind (a_to hI (by omega)) ?_
              rintro _ ⟨a, ha, rfl⟩
              refine ok_gd (by (first | exact inR_I (by omega) (by omega) | (simp only [i_0, i_1, i_2, i_3, i_4, i_5, i_6, i_7, i_8, i_9, i_10, i_11, i_12, i_13, i_24, i_47, i_48, i_60, i_61, i_62, i_63, i_64, i_65, i_70, i_130, i_218, I_mul, I_add]; exact inR_I (by omega) (by omega)) | exact rem12 (by omega) (by decide) (by decide))) ?_
              refine ok_ite (fun hc => ?_) (fun hc => ?_)
              · unfold s_X7_isBarred_141
                unfold s_X7_isBarred_146
                unfold s_X7_isBarred_148
                (repeat rw [I_suc])
                exact ih _ _ (by omega) (by omega)
              · refine ok_ite (fun hc => ?_) (fun hc => ?_)
                · unfold s_X7_isBarred_146
                  unfold s_X7_isBarred_148
                  (repeat rw [I_suc])
                  exact ih _ _ (by omega) (by omega)
                · unfold s_X7_isBarred_141
                  unfold s_X7_isBarred_146
                  unfold s_X7_isBarred_148
                  (repeat rw [I_suc])
                  exact ih _ _ (by omega) (by omega)
        · unfold s_X7_isBarred_148
          (repeat rw [I_suc])
          exact ih _ _ (by omega) (by omega)
theorem a_X7_isBarred {g : Nat → Nat → Nat → Int32} {w : Nat → Nat → Nat → Int64} (hI : BK (w 2218 0)) {s : Nat} (hs : s < 8) {p2 : Int32} : Ok (s_X7_isBarred 0 (I s) p2 g w) (fun _ => True) := by
  unfold s_X7_isBarred
  refine ok_bind (a_len hI (by omega)) ?_
  rintro _ ⟨a, ha, rfl⟩
  exact a_X7_isBarred_R15 hI hs FU _ 0 (by decide) (by decide)
theorem a_X7_failsTogether_R24 {g : Nat → Nat → Nat → Int32} {w : Nat → Nat → Nat → Int64} (hI : BK (w 2218 0)) {p1 p2 p3 p4 : Int32} : ∀ (n : Nat) (v7 : Bool) (k : Nat), (k ≤ 6) → 9 - k < n → Ok (s_X7_failsTogether_R24 0 p1 p2 p3 p4 n v7 (I k) g w) (fun _ => True) := by
  intro n
  induction n with
  | zero => intro v7 k h1 hm; omega
  | succ n ih =>
    intro v7 k h1 hm
    show Ok (s_X7_failsTogether_24 0 p1 p2 p3 p4 (s_X7_failsTogether_R24 0 p1 p2 p3 p4 n) v7 (I k) g w) _
    unfold s_X7_failsTogether_24
    refine ok_ite (fun hc => ?_) (fun hc => ?_)
    · refine ok_ite (fun hc => ?_) (fun hc => ?_)
      · unfold s_X7_failsTogether_88
        exact ok_some trivial
      · unfold s_X7_failsTogether_88
        exact ok_some trivial
    · have hk := tug_lt hI (by omega) hc
      refine ok_ite (fun hc => ?_) (fun hc => ?_)
      · unfold s_X7_failsTogether_65
        unfold s_X7_failsTogether_70
        (repeat rw [I_suc])
        exact ih _ _ (by omega) (by omega)
      · refine ok_ite (fun hc => ?_) (fun hc => ?_)
        · unfold s_X7_failsTogether_69
          unfold s_X7_failsTogether_70
          (repeat rw [I_suc])
          exact ih _ _ (by omega) (by omega)
        · refine ok_bind (a_tu (by omega) (by decide)) ?_
          rintro q hq
          refine ok_ite (fun hc => ?_) (fun hc => ?_)
          · unfold s_X7_failsTogether_69
            unfold s_X7_failsTogether_70
            (repeat rw [I_suc])
            exact ih _ _ (by omega) (by omega)
          · unfold s_X7_failsTogether_65
            unfold s_X7_failsTogether_70
            (repeat rw [I_suc])
            exact ih _ _ (by omega) (by omega)
theorem a_X7_failsTogether_R145 {g : Nat → Nat → Nat → Int32} {w : Nat → Nat → Nat → Int64} (hI : BK (w 2218 0)) {p1 p2 p3 p4 : Int32} {rec100 : Int32 → Bool → Int32 → Int32 → (Nat → Nat → Nat → Int32) → (Nat → Nat → Nat → Int64) → Option Bool} {v5 v7 : Int32} {k0 : Nat} (hr : ∀ b, Ok (rec100 v5 b v7 (I (k0 + 1)) g w) (fun _ => True)) : ∀ (n : Nat) (v6 : Bool) (v9 : Bool) (k : Nat), (k ≤ 6) → 9 - k < n → Ok (s_X7_failsTogether_R145 0 p1 p2 p3 p4 rec100 n v5 v6 v7 (I k0) v9 (I k) g w) (fun _ => True) := by
  intro n
  induction n with
  | zero => intro v6 v9 k h1 hm; omega
  | succ n ih =>
    intro v6 v9 k h1 hm
    show Ok (s_X7_failsTogether_145 0 p1 p2 p3 p4 rec100 (s_X7_failsTogether_R145 0 p1 p2 p3 p4 rec100 n) v5 v6 v7 (I k0) v9 (I k) g w) _
    unfold s_X7_failsTogether_145
    refine ok_ite (fun hc => ?_) (fun hc => ?_)
    · refine ok_ite (fun hc => ?_) (fun hc => ?_)
      · unfold s_X7_failsTogether_224
        unfold s_X7_failsTogether_229
        unfold s_X7_failsTogether_231
        (repeat rw [I_suc])
        exact hr _
      · refine ok_ite (fun hc => ?_) (fun hc => ?_)
        · unfold s_X7_failsTogether_229
          unfold s_X7_failsTogether_231
          (repeat rw [I_suc])
          exact hr _
        · unfold s_X7_failsTogether_224
          unfold s_X7_failsTogether_229
          unfold s_X7_failsTogether_231
          (repeat rw [I_suc])
          exact hr _
    · have hk := tug_lt hI (by omega) hc
      refine ok_ite (fun hc => ?_) (fun hc => ?_)
      · unfold s_X7_failsTogether_201
        unfold s_X7_failsTogether_206
        (repeat rw [I_suc])
        exact ih _ _ _ (by omega) (by omega)
      · refine ok_ite (fun hc => ?_) (fun hc => ?_)
        · unfold s_X7_failsTogether_205
          unfold s_X7_failsTogether_206
          (repeat rw [I_suc])
          exact ih _ _ _ (by omega) (by omega)
        · refine ok_bind (a_workOf (by omega)) ?_
          rintro q hq
          refine ok_ite (fun hc => ?_) (fun hc => ?_)
          · unfold s_X7_failsTogether_205
            unfold s_X7_failsTogether_206
            (repeat rw [I_suc])
            exact ih _ _ _ (by omega) (by omega)
          · refine ok_bind (a_tu (by omega) (by decide)) ?_
            rintro q hq
            refine ok_ite (fun hc => ?_) (fun hc => ?_)
            · unfold s_X7_failsTogether_205
              unfold s_X7_failsTogether_206
              (repeat rw [I_suc])
              exact ih _ _ _ (by omega) (by omega)
            · unfold s_X7_failsTogether_201
              unfold s_X7_failsTogether_206
              (repeat rw [I_suc])
              exact ih _ _ _ (by omega) (by omega)
theorem a_X7_failsTogether_R100 {g : Nat → Nat → Nat → Int32} {w : Nat → Nat → Nat → Int64} (hI : BK (w 2218 0)) {p1 p3 p4 : Int32} {s : Nat} (hs : s < 8) {e : Nat} (he : e ≤ 60) {v7 : Int32} : ∀ (n : Nat) (v6 : Bool) (k : Nat), (k ≤ 60) → 61 - k < n → Ok (s_X7_failsTogether_R100 0 p1 (I s) p3 p4 n (I e) v6 v7 (I k) g w) (fun _ => True) := by
  intro n
  induction n with
  | zero => intro v6 k h1 hm; omega
  | succ n ih =>
    intro v6 k h1 hm
    show Ok (s_X7_failsTogether_100 0 p1 (I s) p3 p4 (s_X7_failsTogether_R100 0 p1 (I s) p3 p4 n) (I e) v6 v7 (I k) g w) _
    unfold s_X7_failsTogether_100
    refine ok_ite (fun hc => ?_) (fun hc => ?_)
    · refine ok_ite (fun hc => ?_) (fun hc => ?_)
      · refine ok_ite (fun hc => ?_) (fun hc => ?_)
        · unfold s_X7_failsTogether_259
          unfold s_X7_failsTogether_264
          exact ok_some trivial
        · refine ok_ite (fun hc => ?_) (fun hc => ?_)
          · unfold s_X7_failsTogether_263
            unfold s_X7_failsTogether_264
            exact ok_some trivial
          · unfold s_X7_failsTogether_259
            unfold s_X7_failsTogether_264
            exact ok_some trivial
      · unfold s_X7_failsTogether_263
        unfold s_X7_failsTogether_264
        exact ok_some trivial
    · have hk : k < e := by
        have q := mt (I_le (a := e) (b := k) (by omega) (by omega)).mpr hc
        omega
      refine ok_ite (fun hc => ?_) (fun hc => ?_)
      · exact a_X7_failsTogether_R145 hI (fun b => ih _ _ (by omega) (by omega)) FU _ _ 0 (by decide) (by decide)
      · refine ok_ite (fun hc => ?_) (fun hc => ?_)
        · unfold s_X7_failsTogether_129
          unfold s_X7_failsTogether_134
          unfold s_X7_failsTogether_231
          (repeat rw [I_suc])
          exact ih _ _ (by omega) (by omega)
        · refine ok_bind (a_X7_needsOf hI (by omega) (by omega)) ?_
          rintro q hq
          refine ok_ite (fun hc => ?_) (fun hc => ?_)
          · unfold s_X7_failsTogether_134
            unfold s_X7_failsTogether_231
            (repeat rw [I_suc])
            exact ih _ _ (by omega) (by omega)
          · unfold s_X7_failsTogether_129
            unfold s_X7_failsTogether_134
            unfold s_X7_failsTogether_231
            (repeat rw [I_suc])
            exact ih _ _ (by omega) (by omega)
theorem a_X7_failsTogether {g : Nat → Nat → Nat → Int32} {w : Nat → Nat → Nat → Int64} (hI : BK (w 2218 0)) {p1 p4 : Int32} {s : Nat} (hs : s < 8) {h : Nat} (hh : h ≤ 48) : Ok (s_X7_failsTogether 0 p1 (I s) (I h) p4 g w) (fun _ => True) := by
  unfold s_X7_failsTogether
  refine ok_bind (a_len hI (by omega)) ?_
  rintro _ ⟨a, ha, rfl⟩
  refine ok_ite (fun hc => ?_) (fun hc => ?_)
  · refine ok_bind (a_X7_pullOf hI) ?_
    rintro q hq
    rw [I_add]
    exact a_X7_failsTogether_R100 hI hs (by omega) FU _ h (by omega) (by unfold FU; omega)
  · exact a_X7_failsTogether_R24 hI FU _ 0 (by decide) (by decide)
theorem a_X7_isBetter {g : Nat → Nat → Nat → Int32} {w : Nat → Nat → Nat → Int64} (hI : BK (w 2218 0)) {p1 p2 : Int32} : Ok (s_X7_isBetter 0 p1 p2 g w) (fun _ => True) := by
  unfold s_X7_isBetter
  refine ok_bind (a_X7_bits) ?_
  rintro q hq
  refine ok_bind (a_X7_bits) ?_
  rintro q hq
  refine ok_ite (fun hc => ?_) (fun hc => ?_)
  · refine ok_bind (a_X7_pullOf hI) ?_
    rintro q hq
    refine ok_bind (a_X7_pullOf hI) ?_
    rintro q hq
    refine ok_ite (fun hc => ?_) (fun hc => ?_)
    · unfold s_X7_isBetter_46
      exact ok_some trivial
    · unfold s_X7_isBetter_46
      exact ok_some trivial
  · refine ok_bind (a_X7_bits) ?_
    rintro q hq
    refine ok_bind (a_X7_bits) ?_
    rintro q hq
    refine ok_ite (fun hc => ?_) (fun hc => ?_)
    · unfold s_X7_isBetter_27
      exact ok_some trivial
    · unfold s_X7_isBetter_27
      exact ok_some trivial
theorem a_X7_waited_R4 {g : Nat → Nat → Nat → Int32} {w : Nat → Nat → Nat → Int64} (hI : BK (w 2218 0)) {n0 : Nat} (hn : n0 ≤ 8) : ∀ (n : Nat) (v2 : Int32) (k : Nat), (k ≤ n0) → 9 - k < n → Ok (s_X7_waited_R4 0 (I n0) n v2 (I k) g w) (fun _ => True) := by
  intro n
  induction n with
  | zero => intro v2 k h1 hm; omega
  | succ n ih =>
    intro v2 k h1 hm
    show Ok (s_X7_waited_4 0 (I n0) (s_X7_waited_R4 0 (I n0) n) v2 (I k) g w) _
    unfold s_X7_waited_4
    refine ok_ite (fun hc => ?_) (fun hc => ?_)
    · exact ok_some trivial
    · have hk : k < n0 := by
        have q := mt (I_le (a := n0) (b := k) (by omega) (by omega)).mpr hc
        omega
      refine ok_bind (a_sh (by omega) (by decide)) ?_
      rintro q hq
      refine ok_bind (a_X7_hasJob hI (by omega)) ?_
      rintro q hq
      refine ok_ite (fun hc => ?_) (fun hc => ?_)
      · refine ok_bind (a_hour hI (by omega)) ?_
        rintro q hq
        unfold s_X7_waited_36
        refine ok_bind (a_sh (by omega) (by decide)) ?_
        rintro q hq
        (repeat rw [I_suc])
        exact ih _ _ (by omega) (by omega)
      · unfold s_X7_waited_36
        refine ok_bind (a_sh (by omega) (by decide)) ?_
        rintro q hq
        (repeat rw [I_suc])
        exact ih _ _ (by omega) (by omega)
theorem a_X7_waited {g : Nat → Nat → Nat → Int32} {w : Nat → Nat → Nat → Int64} (hI : BK (w 2218 0)) {n0 : Nat} (hn : n0 ≤ 8) : Ok (s_X7_waited 0 (I n0) g w) (fun _ => True) := by
  unfold s_X7_waited
  exact a_X7_waited_R4 hI hn FU _ 0 (by omega) (by unfold FU; omega)
theorem a_X7_goesOn_R41 {g : Nat → Nat → Nat → Int32} {w : Nat → Nat → Nat → Int64} (hI : BK (w 2218 0)) {s : Nat} (hs : s < 8) {p2 p3 v4 : Int32} : ∀ (n : Nat) (v5 : Bool) (k : Nat), (k ≤ 60) → 61 - k < n → Ok (s_X7_goesOn_R41 0 (I s) p2 p3 n v4 v5 (I k) g w) (fun _ => True) := by
  intro n
  induction n with
  | zero => intro v5 k h1 hm; omega
  | succ n ih =>
    intro v5 k h1 hm
    show Ok (s_X7_goesOn_41 0 (I s) p2 p3 (s_X7_goesOn_R41 0 (I s) p2 p3 n) v4 v5 (I k) g w) _
    unfold s_X7_goesOn_41
    refine ok_bind (a_X7_last hI (by omega)) ?_
    rintro q hq
    refine ok_ite (fun hc => ?_) (fun hc => ?_)
    · exact ok_some trivial
    · have hk : k ≤ 50 := by
        have e := I_toInt (k := k) (by omega)
        have q2 := mt (Int32.lt_iff_toInt_lt).mpr hc
        omega
      refine ok_ite (fun hc => ?_) (fun hc => ?_)
      · refine ok_bind (a_X7_pullOf hI) ?_
        rintro q hq
        refine ok_bind (a_X7_needsOf hI (by omega) (by omega)) ?_
        rintro q hq
        refine ok_ite (fun hc => ?_) (fun hc => ?_)
        · unfold s_X7_goesOn_78
          unfold s_X7_goesOn_79
          (repeat rw [I_suc])
          exact ih _ _ (by omega) (by omega)
        · unfold s_X7_goesOn_79
          (repeat rw [I_suc])
          exact ih _ _ (by omega) (by omega)
      · unfold s_X7_goesOn_78
        unfold s_X7_goesOn_79
        (repeat rw [I_suc])
        exact ih _ _ (by omega) (by omega)
theorem a_X7_goesOn {g : Nat → Nat → Nat → Int32} {w : Nat → Nat → Nat → Int64} (hI : BK (w 2218 0)) {s : Nat} (hs : s < 8) {p2 : Int32} {h : Nat} (hh : h ≤ 48) : Ok (s_X7_goesOn 0 (I s) p2 (I h) g w) (fun _ => True) := by
  unfold s_X7_goesOn
  refine ok_bind (a_sh (by omega) (by decide)) ?_
  rintro q hq
  refine ok_bind (a_hour hI (by omega)) ?_
  rintro q hq
  refine ok_ite (fun hc => ?_) (fun hc => ?_)
  · unfold s_X7_goesOn_35
    unfold s_X7_goesOn_36
    exact a_X7_goesOn_R41 hI hs FU _ h (by omega) (by unfold FU; omega)
  · refine ok_ite (fun hc => ?_) (fun hc => ?_)
    · unfold s_X7_goesOn_35
      unfold s_X7_goesOn_36
      exact a_X7_goesOn_R41 hI hs FU _ h (by omega) (by unfold FU; omega)
    · unfold s_X7_goesOn_36
      exact a_X7_goesOn_R41 hI hs FU _ h (by omega) (by unfold FU; omega)
theorem hr_ix {q : Int32} (h : -4 ≤ q.toInt ∧ q.toInt ≤ 47) : inR ((12 : Int32) + q) 218 = true := by
  have e12 : (12 : Int32).toInt = 12 := rfl
  have e := add_toInt (a := 12) (b := q) (by omega) (by omega)
  exact inR_t (by omega) (by omega)
theorem nx {v : Int32} (h : v.toInt < 0 ∨ ∃ j, j < 8 ∧ v = I j) (hc : ¬ v < 0) : ∃ j, j < 8 ∧ v = I j := by
  rcases h with h | h
  · exact absurd (Int32.lt_iff_toInt_lt.mpr h) hc
  · exact h
theorem a_X7_passes {g : Nat → Nat → Nat → Int32} {w : Nat → Nat → Nat → Int64} (hI : BK (w 2218 0)) {r : Nat} (hr : r < 12) {s : Nat} (hs : s < 8) : Ok (s_X7_passes 0 (I r) (I s) g w) (fun _ => True) := by
  unfold s_X7_passes
  refine ok_bind (a_hour hI (by omega)) ?_
  rintro q hq
  refine ok_gd (by (first | exact inR_I (by omega) (by omega) | (simp only [i_0, i_1, i_2, i_3, i_4, i_5, i_6, i_7, i_8, i_9, i_10, i_11, i_12, i_13, i_24, i_47, i_48, i_60, i_61, i_62, i_63, i_64, i_65, i_70, i_130, i_218, I_mul, I_add]; exact inR_I (by omega) (by omega)) | exact rem12 (by omega) (by decide) (by decide))) ?_
  refine ok_gd (by (first | exact inR_I (by omega) (by omega) | (simp only [i_0, i_1, i_2, i_3, i_4, i_5, i_6, i_7, i_8, i_9, i_10, i_11, i_12, i_13, i_24, i_47, i_48, i_60, i_61, i_62, i_63, i_64, i_65, i_70, i_130, i_218, I_mul, I_add]; exact inR_I (by omega) (by omega)) | exact rem12 (by omega) (by decide) (by decide))) ?_
  refine ok_ite (fun hc => ?_) (fun hc => ?_)
  · exact ok_some trivial
  · refine ok_ite (fun hc => ?_) (fun hc => ?_)
    · refine ok_bind (a_sh (by omega) (by decide)) ?_
      rintro q hq
      refine ok_ite (fun hc => ?_) (fun hc => ?_)
      · unfold s_X7_passes_78
        exact ok_some trivial
      · unfold s_X7_passes_78
        exact ok_some trivial
    · refine ok_ite (fun hc => ?_) (fun hc => ?_)
      · refine ok_gd (by exact hr_ix (by assumption)) ?_
        refine ok_ite (fun hc => ?_) (fun hc => ?_)
        · unfold s_X7_passes_100
          exact ok_some trivial
        · unfold s_X7_passes_100
          exact ok_some trivial
      · refine ok_ite (fun hc => ?_) (fun hc => ?_)
        · refine ok_ite (fun hc => ?_) (fun hc => ?_)
          · unfold s_X7_passes_119
            unfold s_X7_passes_124
            exact ok_some trivial
          · refine ok_ite (fun hc => ?_) (fun hc => ?_)
            · unfold s_X7_passes_124
              exact ok_some trivial
            · unfold s_X7_passes_119
              unfold s_X7_passes_124
              exact ok_some trivial
        · refine ok_ite (fun hc => ?_) (fun hc => ?_)
          · refine ok_bind (a_sh (by omega) (by decide)) ?_
            rintro q hq
            refine ok_bind (a_X7_bits) ?_
            rintro q hq
            refine ok_ite (fun hc => ?_) (fun hc => ?_)
            · unfold s_X7_passes_145
              exact ok_some trivial
            · unfold s_X7_passes_145
              exact ok_some trivial
          · refine ok_ite (fun hc => ?_) (fun hc => ?_)
            · refine ok_bind (a_sh (by omega) (by decide)) ?_
              rintro q hq
              refine ok_bind (a_X7_pullOf hI) ?_
              rintro q hq
              refine ok_ite (fun hc => ?_) (fun hc => ?_)
              · unfold s_X7_passes_167
                exact ok_some trivial
              · unfold s_X7_passes_167
                exact ok_some trivial
            · refine ok_bind (a_sh (by omega) (by decide)) ?_
              rintro q hq
              refine ok_ite (fun hc => ?_) (fun hc => ?_)
              · unfold s_X7_passes_186
                exact ok_some trivial
              · unfold s_X7_passes_186
                exact ok_some trivial
theorem a_X7_comes_R28 {g : Nat → Nat → Nat → Int32} {w : Nat → Nat → Nat → Int64} (hI : BK (w 2218 0)) {s : Nat} (hs : s < 8) {p1 p3 v4 : Int32} : ∀ (n : Nat) (v5 : Int32) (v6 : Int32) (v7 : Int32) (k : Nat), (k ≤ 8) → (∃ a, a ≤ 5 ∧ v5 = I a) → (v7.toInt < 0 ∨ ∃ j, j < 8 ∧ v7 = I j) → 9 - k < n → Ok (s_X7_comes_R28 0 p1 (I s) p3 n v4 v5 v6 v7 (I k) g w) (fun _ => True) := by
  intro n
  induction n with
  | zero => intro v5 v6 v7 k h1 h2 h3 hm; omega
  | succ n ih =>
    intro v5 v6 v7 k h1 h2 h3 hm
    show Ok (s_X7_comes_28 0 p1 (I s) p3 (s_X7_comes_R28 0 p1 (I s) p3 n) v4 v5 v6 v7 (I k) g w) _
    unfold s_X7_comes_28
    refine ok_ite (fun hc => ?_) (fun hc => ?_)
    · obtain ⟨a5, h5, rfl⟩ := h2
      refine ok_bind (a_from hI (by omega)) ?_
      rintro _ ⟨a, ha, rfl⟩
      refine ok_bind (a_X7_wayOf hI (by omega) (by omega)) ?_
      rintro q hq
      refine ok_ite (fun hc => ?_) (fun hc => ?_)
      · unfold s_X7_comes_212
        unfold s_X7_comes_213
        exact ok_some trivial
      · refine ok_ite (fun hc => ?_) (fun hc => ?_)
        · unfold s_X7_comes_208
          unfold s_X7_comes_213
          exact ok_some trivial
        · obtain ⟨j, hj, rfl⟩ := nx h3 hc
          refine ok_bind (a_to hI (by omega)) ?_
          rintro _ ⟨a, ha, rfl⟩
          refine ok_bind (a_from hI (by omega)) ?_
          rintro _ ⟨a, ha, rfl⟩
          refine ok_bind (a_X7_wayOf hI (by omega) (by omega)) ?_
          rintro q hq
          refine ok_bind (a_hour hI (by omega)) ?_
          rintro q hq
          refine ok_ite (fun hc => ?_) (fun hc => ?_)
          · unfold s_X7_comes_212
            unfold s_X7_comes_213
            exact ok_some trivial
          · unfold s_X7_comes_208
            unfold s_X7_comes_213
            exact ok_some trivial
    · have hk := ship_lt hI (by omega) hc
      refine ok_bind (a_X7_isOf hI (by omega)) ?_
      rintro q hq
      refine ok_ite (fun hc => ?_) (fun hc => ?_)
      · refine ok_bind (a_X7_last hI (by omega)) ?_
        rintro q hq
        refine ok_ite (fun hc => ?_) (fun hc => ?_)
        · unfold s_X7_comes_95
          refine ok_bind (a_X7_isOf hI (by omega)) ?_
          rintro q hq
          refine ok_ite (fun hc => ?_) (fun hc => ?_)
          · refine ok_bind (a_hour hI (by omega)) ?_
            rintro q hq
            refine ok_ite (fun hc => ?_) (fun hc => ?_)
            · unfold s_X7_comes_146
              (repeat rw [I_suc])
              exact ih _ _ _ _ (by omega) (by first | exact h2 | exact ⟨_, by omega, rfl⟩) (by first | exact h3 | exact Or.inr ⟨_, by omega, rfl⟩) (by omega)
            · refine ok_ite (fun hc => ?_) (fun hc => ?_)
              · unfold s_X7_comes_142
                unfold s_X7_comes_146
                (repeat rw [I_suc])
                exact ih _ _ _ _ (by omega) (by first | exact h2 | exact ⟨_, by omega, rfl⟩) (by first | exact h3 | exact Or.inr ⟨_, by omega, rfl⟩) (by omega)
              · obtain ⟨j, hj, rfl⟩ := nx h3 hc
                refine ok_bind (a_hour hI (by omega)) ?_
                rintro q hq
                refine ok_bind (a_hour hI (by omega)) ?_
                rintro q hq
                refine ok_ite (fun hc => ?_) (fun hc => ?_)
                · unfold s_X7_comes_146
                  (repeat rw [I_suc])
                  exact ih _ _ _ _ (by omega) (by first | exact h2 | exact ⟨_, by omega, rfl⟩) (by first | exact h3 | exact Or.inr ⟨_, by omega, rfl⟩) (by omega)
                · unfold s_X7_comes_142
                  unfold s_X7_comes_146
                  (repeat rw [I_suc])
                  exact ih _ _ _ _ (by omega) (by first | exact h2 | exact ⟨_, by omega, rfl⟩) (by first | exact h3 | exact Or.inr ⟨_, by omega, rfl⟩) (by omega)
          · unfold s_X7_comes_146
            (repeat rw [I_suc])
            exact ih _ _ _ _ (by omega) (by first | exact h2 | exact ⟨_, by omega, rfl⟩) (by first | exact h3 | exact Or.inr ⟨_, by omega, rfl⟩) (by omega)
        · refine ok_bind (a_X7_last hI (by omega)) ?_
          rintro q hq
          refine ok_ite (fun hc => ?_) (fun hc => ?_)
          · unfold s_X7_comes_95
            refine ok_bind (a_X7_isOf hI (by omega)) ?_
            rintro q hq
            refine ok_ite (fun hc => ?_) (fun hc => ?_)
            · refine ok_bind (a_hour hI (by omega)) ?_
              rintro q hq
              refine ok_ite (fun hc => ?_) (fun hc => ?_)
              · unfold s_X7_comes_146
                (repeat rw [I_suc])
                exact ih _ _ _ _ (by omega) (by first | exact h2 | exact ⟨_, by omega, rfl⟩) (by first | exact h3 | exact Or.inr ⟨_, by omega, rfl⟩) (by omega)
              · refine ok_ite (fun hc => ?_) (fun hc => ?_)
                · unfold s_X7_comes_142
                  unfold s_X7_comes_146
                  (repeat rw [I_suc])
                  exact ih _ _ _ _ (by omega) (by first | exact h2 | exact ⟨_, by omega, rfl⟩) (by first | exact h3 | exact Or.inr ⟨_, by omega, rfl⟩) (by omega)
                · obtain ⟨j, hj, rfl⟩ := nx h3 hc
                  refine ok_bind (a_hour hI (by omega)) ?_
                  rintro q hq
                  refine ok_bind (a_hour hI (by omega)) ?_
                  rintro q hq
                  refine ok_ite (fun hc => ?_) (fun hc => ?_)
                  · unfold s_X7_comes_146
                    (repeat rw [I_suc])
                    exact ih _ _ _ _ (by omega) (by first | exact h2 | exact ⟨_, by omega, rfl⟩) (by first | exact h3 | exact Or.inr ⟨_, by omega, rfl⟩) (by omega)
                  · unfold s_X7_comes_142
                    unfold s_X7_comes_146
                    (repeat rw [I_suc])
                    exact ih _ _ _ _ (by omega) (by first | exact h2 | exact ⟨_, by omega, rfl⟩) (by first | exact h3 | exact Or.inr ⟨_, by omega, rfl⟩) (by omega)
            · unfold s_X7_comes_146
              (repeat rw [I_suc])
              exact ih _ _ _ _ (by omega) (by first | exact h2 | exact ⟨_, by omega, rfl⟩) (by first | exact h3 | exact Or.inr ⟨_, by omega, rfl⟩) (by omega)
          · refine ok_bind (a_X7_last hI (by omega)) ?_
            rintro q hq
            refine ok_bind (a_to hI (by omega)) ?_
            rintro _ ⟨a, ha, rfl⟩
            unfold s_X7_comes_95
            refine ok_bind (a_X7_isOf hI (by omega)) ?_
            rintro q hq
            refine ok_ite (fun hc => ?_) (fun hc => ?_)
            · refine ok_bind (a_hour hI (by omega)) ?_
              rintro q hq
              refine ok_ite (fun hc => ?_) (fun hc => ?_)
              · unfold s_X7_comes_146
                (repeat rw [I_suc])
                exact ih _ _ _ _ (by omega) (by first | exact h2 | exact ⟨_, by omega, rfl⟩) (by first | exact h3 | exact Or.inr ⟨_, by omega, rfl⟩) (by omega)
              · refine ok_ite (fun hc => ?_) (fun hc => ?_)
                · unfold s_X7_comes_142
                  unfold s_X7_comes_146
                  (repeat rw [I_suc])
                  exact ih _ _ _ _ (by omega) (by first | exact h2 | exact ⟨_, by omega, rfl⟩) (by first | exact h3 | exact Or.inr ⟨_, by omega, rfl⟩) (by omega)
                · obtain ⟨j, hj, rfl⟩ := nx h3 hc
                  refine ok_bind (a_hour hI (by omega)) ?_
                  rintro q hq
                  refine ok_bind (a_hour hI (by omega)) ?_
                  rintro q hq
                  refine ok_ite (fun hc => ?_) (fun hc => ?_)
                  · unfold s_X7_comes_146
                    (repeat rw [I_suc])
                    exact ih _ _ _ _ (by omega) (by first | exact h2 | exact ⟨_, by omega, rfl⟩) (by first | exact h3 | exact Or.inr ⟨_, by omega, rfl⟩) (by omega)
                  · unfold s_X7_comes_142
                    unfold s_X7_comes_146
                    (repeat rw [I_suc])
                    exact ih _ _ _ _ (by omega) (by first | exact h2 | exact ⟨_, by omega, rfl⟩) (by first | exact h3 | exact Or.inr ⟨_, by omega, rfl⟩) (by omega)
            · unfold s_X7_comes_146
              (repeat rw [I_suc])
              exact ih _ _ _ _ (by omega) (by first | exact h2 | exact ⟨_, by omega, rfl⟩) (by first | exact h3 | exact Or.inr ⟨_, by omega, rfl⟩) (by omega)
      · unfold s_X7_comes_95
        refine ok_bind (a_X7_isOf hI (by omega)) ?_
        rintro q hq
        refine ok_ite (fun hc => ?_) (fun hc => ?_)
        · refine ok_bind (a_hour hI (by omega)) ?_
          rintro q hq
          refine ok_ite (fun hc => ?_) (fun hc => ?_)
          · unfold s_X7_comes_146
            (repeat rw [I_suc])
            exact ih _ _ _ _ (by omega) (by first | exact h2 | exact ⟨_, by omega, rfl⟩) (by first | exact h3 | exact Or.inr ⟨_, by omega, rfl⟩) (by omega)
          · refine ok_ite (fun hc => ?_) (fun hc => ?_)
            · unfold s_X7_comes_142
              unfold s_X7_comes_146
              (repeat rw [I_suc])
              exact ih _ _ _ _ (by omega) (by first | exact h2 | exact ⟨_, by omega, rfl⟩) (by first | exact h3 | exact Or.inr ⟨_, by omega, rfl⟩) (by omega)
            · obtain ⟨j, hj, rfl⟩ := nx h3 hc
              refine ok_bind (a_hour hI (by omega)) ?_
              rintro q hq
              refine ok_bind (a_hour hI (by omega)) ?_
              rintro q hq
              refine ok_ite (fun hc => ?_) (fun hc => ?_)
              · unfold s_X7_comes_146
                (repeat rw [I_suc])
                exact ih _ _ _ _ (by omega) (by first | exact h2 | exact ⟨_, by omega, rfl⟩) (by first | exact h3 | exact Or.inr ⟨_, by omega, rfl⟩) (by omega)
              · unfold s_X7_comes_142
                unfold s_X7_comes_146
                (repeat rw [I_suc])
                exact ih _ _ _ _ (by omega) (by first | exact h2 | exact ⟨_, by omega, rfl⟩) (by first | exact h3 | exact Or.inr ⟨_, by omega, rfl⟩) (by omega)
        · unfold s_X7_comes_146
          (repeat rw [I_suc])
          exact ih _ _ _ _ (by omega) (by first | exact h2 | exact ⟨_, by omega, rfl⟩) (by first | exact h3 | exact Or.inr ⟨_, by omega, rfl⟩) (by omega)
theorem a_X7_comes {g : Nat → Nat → Nat → Int32} {w : Nat → Nat → Nat → Int64} (hI : BK (w 2218 0)) {t : Nat} (ht : t < 6) {s : Nat} (hs : s < 8) {p3 : Int32} : Ok (s_X7_comes 0 (I t) (I s) p3 g w) (fun _ => True) := by
  unfold s_X7_comes
  refine ok_bind (a_len hI (by omega)) ?_
  rintro _ ⟨a, ha, rfl⟩
  refine ok_bind (a_home hI (by omega)) ?_
  rintro _ ⟨a, ha, rfl⟩
  exact a_X7_comes_R28 hI hs FU _ _ _ 0 (by decide) ⟨_, by omega, rfl⟩ (Or.inl (by decide)) (by decide)
theorem a_X7_failsAlone_R74 {g : Nat → Nat → Nat → Int32} {w : Nat → Nat → Nat → Int64} (hI : BK (w 2218 0)) {p1 p3 : Int32} {s : Nat} (hs : s < 8) {e : Nat} (he : e ≤ 60) : ∀ (n : Nat) (v5 : Bool) (k : Nat), (k ≤ 60) → 61 - k < n → Ok (s_X7_failsAlone_R74 0 p1 (I s) p3 n (I e) v5 (I k) g w) (fun _ => True) := by
  intro n
  induction n with
  | zero => intro v5 k h1 hm; omega
  | succ n ih =>
    intro v5 k h1 hm
    show Ok (s_X7_failsAlone_74 0 p1 (I s) p3 (s_X7_failsAlone_R74 0 p1 (I s) p3 n) (I e) v5 (I k) g w) _
    unfold s_X7_failsAlone_74
    refine ok_ite (fun hc => ?_) (fun hc => ?_)
    · exact ok_some trivial
    · have hk : k < e := by
        have q := mt (I_le (a := e) (b := k) (by omega) (by omega)).mpr hc
        omega
      refine ok_ite (fun hc => ?_) (fun hc => ?_)
      · unfold s_X7_failsAlone_107
        unfold s_X7_failsAlone_112
        (repeat rw [I_suc])
        exact ih _ _ (by omega) (by omega)
      · refine ok_gd (by (first | exact inR_I (by omega) (by omega) | (simp only [i_0, i_1, i_2, i_3, i_4, i_5, i_6, i_7, i_8, i_9, i_10, i_11, i_12, i_13, i_24, i_47, i_48, i_60, i_61, i_62, i_63, i_64, i_65, i_70, i_130, i_218, I_mul, I_add]; exact inR_I (by omega) (by omega)) | exact rem12 (by omega) (by decide) (by decide))) ?_
        refine ok_bind (a_sh (by omega) (by decide)) ?_
        rintro q hq
        refine ok_ite (fun hc => ?_) (fun hc => ?_)
        · unfold s_X7_failsAlone_112
          (repeat rw [I_suc])
          exact ih _ _ (by omega) (by omega)
        · unfold s_X7_failsAlone_107
          unfold s_X7_failsAlone_112
          (repeat rw [I_suc])
          exact ih _ _ (by omega) (by omega)
theorem a_X7_failsAlone {g : Nat → Nat → Nat → Int32} {w : Nat → Nat → Nat → Int64} (hI : BK (w 2218 0)) {p1 : Int32} {s : Nat} (hs : s < 8) {h : Nat} (hh : h ≤ 48) : Ok (s_X7_failsAlone 0 p1 (I s) (I h) g w) (fun _ => True) := by
  unfold s_X7_failsAlone
  refine ok_bind (a_len hI (by omega)) ?_
  rintro _ ⟨a, ha, rfl⟩
  refine ok_ite (fun hc => ?_) (fun hc => ?_)
  · refine ok_bind (a_sh (by omega) (by decide)) ?_
    rintro q hq
    refine ok_ite (fun hc => ?_) (fun hc => ?_)
    · unfold s_X7_failsAlone_65
      unfold s_X7_failsAlone_70
      exact ok_some trivial
    · refine ok_ite (fun hc => ?_) (fun hc => ?_)
      · unfold s_X7_failsAlone_70
        exact ok_some trivial
      · unfold s_X7_failsAlone_65
        unfold s_X7_failsAlone_70
        exact ok_some trivial
  · refine ok_ite (fun hc => ?_) (fun hc => ?_)
    · rw [I_add]
      exact a_X7_failsAlone_R74 hI hs (by omega) FU _ h (by omega) (by unfold FU; omega)
    · refine ok_ite (fun hc => ?_) (fun hc => ?_)
      · refine ok_bind (a_X7_isBarred hI (by omega)) ?_
        rintro q hq
        exact ok_some trivial
      · refine ok_ite (fun hc => ?_) (fun hc => ?_)
        · unfold s_X7_failsAlone_154
          exact ok_some trivial
        · unfold s_X7_failsAlone_154
          exact ok_some trivial
theorem a_X7_fails {g : Nat → Nat → Nat → Int32} {w : Nat → Nat → Nat → Int64} (hI : BK (w 2218 0)) {p1 p4 : Int32} {t : Nat} (ht : t < 6) {s : Nat} (hs : s < 8) : Ok (s_X7_fails 0 p1 (I t) (I s) p4 g w) (fun _ => True) := by
  unfold s_X7_fails
  refine ok_bind (a_len hI (by omega)) ?_
  rintro _ ⟨a, ha, rfl⟩
  refine ok_ite (fun hc => ?_) (fun hc => ?_)
  · refine ok_bind (a_workOf (by omega)) ?_
    rintro q hq
    refine ok_bind (a_bunkersOf (by omega)) ?_
    rintro q hq
    refine ok_ite (fun hc => ?_) (fun hc => ?_)
    · unfold s_X7_fails_76
      exact ok_some trivial
    · unfold s_X7_fails_76
      exact ok_some trivial
  · refine ok_ite (fun hc => ?_) (fun hc => ?_)
    · refine ok_bind (a_workOf (by omega)) ?_
      rintro q hq
      refine ok_bind (a_X7_fuelBehind (by omega) (by decide)) ?_
      rintro q hq
      refine ok_ite (fun hc => ?_) (fun hc => ?_)
      · unfold s_X7_fails_100
        exact ok_some trivial
      · unfold s_X7_fails_100
        exact ok_some trivial
    · refine ok_ite (fun hc => ?_) (fun hc => ?_)
      · refine ok_bind (a_workOf (by omega)) ?_
        rintro q hq
        refine ok_bind (a_X7_rests hI (by omega)) ?_
        rintro q hq
        refine ok_ite (fun hc => ?_) (fun hc => ?_)
        · unfold s_X7_fails_122
          exact ok_some trivial
        · unfold s_X7_fails_122
          exact ok_some trivial
      · refine ok_ite (fun hc => ?_) (fun hc => ?_)
        · refine ok_bind (a_tu (by omega) (by decide)) ?_
          rintro q hq
          refine ok_ite (fun hc => ?_) (fun hc => ?_)
          · unfold s_X7_fails_140
            exact ok_some trivial
          · unfold s_X7_fails_140
            exact ok_some trivial
        · refine ok_bind (a_X7_comes hI (by omega) (by omega)) ?_
          rintro q hq
          refine ok_ite (fun hc => ?_) (fun hc => ?_)
          · unfold s_X7_fails_157
            exact ok_some trivial
          · unfold s_X7_fails_157
            exact ok_some trivial
theorem a_X7_failsBy_R62 {g : Nat → Nat → Nat → Int32} {w : Nat → Nat → Nat → Int64} (hI : BK (w 2218 0)) {p1 p3 p4 : Int32} {s : Nat} (hs : s < 8) : ∀ (n : Nat) (v5 : Bool) (k : Nat), (k ≤ 6) → 9 - k < n → Ok (s_X7_failsBy_R62 0 p1 (I s) p3 p4 n v5 (I k) g w) (fun _ => True) := by
  intro n
  induction n with
  | zero => intro v5 k h1 hm; omega
  | succ n ih =>
    intro v5 k h1 hm
    show Ok (s_X7_failsBy_62 0 p1 (I s) p3 p4 (s_X7_failsBy_R62 0 p1 (I s) p3 p4 n) v5 (I k) g w) _
    unfold s_X7_failsBy_62
    refine ok_ite (fun hc => ?_) (fun hc => ?_)
    · exact ok_some trivial
    · have hk := tug_lt hI (by omega) hc
      refine ok_ite (fun hc => ?_) (fun hc => ?_)
      · unfold s_X7_failsBy_104
        unfold s_X7_failsBy_109
        (repeat rw [I_suc])
        exact ih _ _ (by omega) (by omega)
      · refine ok_ite (fun hc => ?_) (fun hc => ?_)
        · unfold s_X7_failsBy_108
          unfold s_X7_failsBy_109
          (repeat rw [I_suc])
          exact ih _ _ (by omega) (by omega)
        · refine ok_bind (a_X7_fails hI (by omega) (by omega)) ?_
          rintro q hq
          refine ok_ite (fun hc => ?_) (fun hc => ?_)
          · unfold s_X7_failsBy_104
            unfold s_X7_failsBy_109
            (repeat rw [I_suc])
            exact ih _ _ (by omega) (by omega)
          · unfold s_X7_failsBy_108
            unfold s_X7_failsBy_109
            (repeat rw [I_suc])
            exact ih _ _ (by omega) (by omega)
theorem a_X7_failsBy {g : Nat → Nat → Nat → Int32} {w : Nat → Nat → Nat → Int64} (hI : BK (w 2218 0)) {p1 p4 : Int32} {s : Nat} (hs : s < 8) {h : Nat} (hh : h ≤ 48) : Ok (s_X7_failsBy 0 p1 (I s) (I h) p4 g w) (fun _ => True) := by
  unfold s_X7_failsBy
  refine ok_ite (fun hc => ?_) (fun hc => ?_)
  · unfold s_X7_failsBy_22
    refine ok_bind (a_X7_failsAlone hI (by omega) (by omega)) ?_
    rintro q hq
    exact ok_some trivial
  · refine ok_ite (fun hc => ?_) (fun hc => ?_)
    · unfold s_X7_failsBy_22
      refine ok_bind (a_X7_failsAlone hI (by omega) (by omega)) ?_
      rintro q hq
      exact ok_some trivial
    · refine ok_ite (fun hc => ?_) (fun hc => ?_)
      · unfold s_X7_failsBy_22
        refine ok_bind (a_X7_failsAlone hI (by omega) (by omega)) ?_
        rintro q hq
        exact ok_some trivial
      · refine ok_ite (fun hc => ?_) (fun hc => ?_)
        · refine ok_ite (fun hc => ?_) (fun hc => ?_)
          · unfold s_X7_failsBy_46
            refine ok_bind (a_X7_failsTogether hI (by omega) (by omega)) ?_
            rintro q hq
            exact ok_some trivial
          · refine ok_ite (fun hc => ?_) (fun hc => ?_)
            · unfold s_X7_failsBy_46
              refine ok_bind (a_X7_failsTogether hI (by omega) (by omega)) ?_
              rintro q hq
              exact ok_some trivial
            · refine ok_ite (fun hc => ?_) (fun hc => ?_)
              · exact a_X7_failsBy_R62 hI hs FU _ 0 (by decide) (by decide)
              · unfold s_X7_failsBy_46
                refine ok_bind (a_X7_failsTogether hI (by omega) (by omega)) ?_
                rintro q hq
                exact ok_some trivial
        · unfold s_X7_failsBy_22
          refine ok_bind (a_X7_failsAlone hI (by omega) (by omega)) ?_
          rintro q hq
          exact ok_some trivial
theorem a_X7_whyNot_R3 {g : Nat → Nat → Nat → Int32} {w : Nat → Nat → Nat → Int64} (hI : BK (w 2218 0)) {p3 : Int32} {s : Nat} (hs : s < 8) {h : Nat} (hh : h ≤ 48) : ∀ (n : Nat) (k : Nat), (k ≤ 13) → 20 - k < n → Ok (s_X7_whyNot_R3 0 (I s) (I h) p3 n (I k) g w) (fun _ => True) := by
  intro n
  induction n with
  | zero => intro k h1 hm; omega
  | succ n ih =>
    intro k h1 hm
    show Ok (s_X7_whyNot_3 0 (I s) (I h) p3 (s_X7_whyNot_R3 0 (I s) (I h) p3 n) (I k) g w) _
    unfold s_X7_whyNot_3
    refine ok_ite (fun hc => ?_) (fun hc => ?_)
    · unfold s_X7_whyNot_28
      refine ok_ite (fun hc => ?_) (fun hc => ?_)
      · unfold s_X7_whyNot_41
        exact ok_some trivial
      · unfold s_X7_whyNot_41
        exact ok_some trivial
    · have hk := I_nle (b := 13) (by decide) (by omega) hc
      refine ok_bind (a_X7_failsBy hI (by omega) (by omega)) ?_
      rintro q hq
      refine ok_ite (fun hc => ?_) (fun hc => ?_)
      · unfold s_X7_whyNot_28
        refine ok_ite (fun hc => ?_) (fun hc => ?_)
        · unfold s_X7_whyNot_41
          exact ok_some trivial
        · unfold s_X7_whyNot_41
          exact ok_some trivial
      · (repeat rw [I_suc])
        exact ih _ (by omega) (by omega)
theorem a_X7_whyNot {g : Nat → Nat → Nat → Int32} {w : Nat → Nat → Nat → Int64} (hI : BK (w 2218 0)) {p3 : Int32} {s : Nat} (hs : s < 8) {h : Nat} (hh : h ≤ 48) : Ok (s_X7_whyNot 0 (I s) (I h) p3 g w) (fun _ => True) := by
  unfold s_X7_whyNot
  exact a_X7_whyNot_R3 hI hs hh FU 1 (by decide) (by decide)
theorem a_X7_hoursIn_R5 {g : Nat → Nat → Nat → Int32} {w : Nat → Nat → Nat → Int64} {p1 : Int64} : ∀ (n : Nat) (v3 : Int32) (k : Nat), (k ≤ 48) → 60 - k < n → Ok (s_X7_hoursIn_R5 0 p1 n v3 (I k) g w) (fun _ => True) := by
  intro n
  induction n with
  | zero => intro v3 k h1 hm; omega
  | succ n ih =>
    intro v3 k h1 hm
    show Ok (s_X7_hoursIn_5 0 p1 (s_X7_hoursIn_R5 0 p1 n) v3 (I k) g w) _
    unfold s_X7_hoursIn_5
    refine ok_ite (fun hc => ?_) (fun hc => ?_)
    · exact ok_some trivial
    · have hk := I_nle (b := 48) (by decide) (by omega) hc
      refine ok_ite (fun hc => ?_) (fun hc => ?_)
      · unfold s_X7_hoursIn_27
        (repeat rw [I_suc])
        exact ih _ _ (by omega) (by omega)
      · unfold s_X7_hoursIn_27
        (repeat rw [I_suc])
        exact ih _ _ (by omega) (by omega)
theorem a_X7_hoursIn {g : Nat → Nat → Nat → Int32} {w : Nat → Nat → Nat → Int64} {p1 : Int64} : Ok (s_X7_hoursIn 0 p1 g w) (fun _ => True) := by
  unfold s_X7_hoursIn
  exact a_X7_hoursIn_R5 FU _ 0 (by decide) (by decide)
theorem a_X7_berthOf_R13 {g : Nat → Nat → Nat → Int32} {w : Nat → Nat → Nat → Int64} (hI : BK (w 2218 0)) {p1 : Int32} : ∀ (n : Nat) (v2 : Int32) (v3 : Int32) (k : Nat), (k ≤ 8) → 9 - k < n → Ok (s_X7_berthOf_R13 0 p1 n v2 v3 (I k) g w) (fun _ => True) := by
  intro n
  induction n with
  | zero => intro v2 v3 k h1 hm; omega
  | succ n ih =>
    intro v2 v3 k h1 hm
    show Ok (s_X7_berthOf_13 0 p1 (s_X7_berthOf_R13 0 p1 n) v2 v3 (I k) g w) _
    unfold s_X7_berthOf_13
    refine ok_ite (fun hc => ?_) (fun hc => ?_)
    · exact ok_some trivial
    · have hk := ship_lt hI (by omega) hc
      refine ok_bind (a_X7_isOf hI (by omega)) ?_
      rintro q hq
      refine ok_ite (fun hc => ?_) (fun hc => ?_)
      · refine ok_bind (a_X7_last hI (by omega)) ?_
        rintro q hq
        refine ok_ite (fun hc => ?_) (fun hc => ?_)
        · unfold s_X7_berthOf_63
          (repeat rw [I_suc])
          exact ih _ _ _ (by omega) (by omega)
        · refine ok_bind (a_X7_last hI (by omega)) ?_
          rintro q hq
          refine ok_bind (a_to hI (by omega)) ?_
          rintro _ ⟨a, ha, rfl⟩
          unfold s_X7_berthOf_63
          (repeat rw [I_suc])
          exact ih _ _ _ (by omega) (by omega)
      · unfold s_X7_berthOf_63
        (repeat rw [I_suc])
        exact ih _ _ _ (by omega) (by omega)
theorem a_X7_berthOf {g : Nat → Nat → Nat → Int32} {w : Nat → Nat → Nat → Int64} (hI : BK (w 2218 0)) {t : Nat} (ht : t < 6) : Ok (s_X7_berthOf 0 (I t) g w) (fun _ => True) := by
  unfold s_X7_berthOf
  refine ok_bind (a_home hI (by omega)) ?_
  rintro _ ⟨a, ha, rfl⟩
  exact a_X7_berthOf_R13 hI FU _ _ 0 (by decide) (by decide)
