/-! the program: its readers never answer none -/
section
variable {g : Nat → Nat → Nat → Int32} {w : Nat → Nat → Nat → Int64}
theorem isB_in {p : Int32} (h : s_X6_isBerth p g w = true) : inR p 6 = true := by
  rw [isBerth6] at h
  have q := rngN (of_decide_eq_true h) (a := 0) (b := 5) rfl rfl
  exact inR_t q.1 (by omega)
theorem w_rg {p lo hi : Int32} (h : s_X6_within p lo hi g w = true) : lo.toInt ≤ p.toInt ∧ p.toInt ≤ hi.toInt := by
  rw [within_eq] at h
  exact rng (of_decide_eq_true h)
theorem w47_in {p : Int32} (h : s_X6_within p 0 47 g w = true) : inR p 48 = true := by
  have q := w_rg h
  rw [show (0 : Int32).toInt = 0 from rfl, show (47 : Int32).toInt = 47 from rfl] at q
  exact inR_t q.1 (by omega)
theorem isH_in {p : Int32} (h : s_X6_isHour p g w = true) : inR p 48 = true := w47_in h
theorem nz_pos {p : Int32} (h : (0 : Int32) < p) : nzI p = true := by
  refine decide_eq_true ?_
  intro e
  rw [e] at h
  exact absurd h (by decide)
theorem len_ex (hI : InvG g) (s : Nat) : ∃ a, a ≤ 4 ∧ g 4 s 3 = I a := I_ex (hI 4 s 3).1 (hI 4 s 3).2
theorem ready_ex (hI : InvG g) (s : Nat) : ∃ a, a ≤ 47 ∧ g 4 s 2 = I a := I_ex (hI 4 s 2).1 (hI 4 s 2).2
theorem crew_ex (hI : InvG g) (t : Nat) : ∃ a, a ≤ 12 ∧ g 5 t 5 = I a := I_ex (hI 5 t 5).1 (hI 5 t 5).2
theorem rest_ex (hI : InvG g) (h : Nat) : ∃ a, a ≤ 6 ∧ g 1 h 5 = I a := I_ex (hI 1 h 5).1 (hI 1 h 5).2
end
theorem a_X1_lowHours_R5 {g : Nat → Nat → Nat → Int32} {w : Nat → Nat → Nat → Int64}  {hb : Nat} {p1 : Nat} : ∀ (n : Nat) (v2 : Int64) (k : Nat), (k ≤ 48) → 60 - k < n → Ok (s_X1_lowHours_R5 hb p1 n v2 (I k) g w) (fun _ => True) := by
  intro n
  induction n with
  | zero => intro v2 k h1 hm; omega
  | succ n ih =>
    intro v2 k h1 hm
    show Ok (s_X1_lowHours_5 hb p1 (s_X1_lowHours_R5 hb p1 n) v2 (I k) g w) _
    unfold s_X1_lowHours_5
    refine ok_ite (fun hc => ?_) (fun hc => ?_)
    · exact ok_some trivial
    · have hk := I_nle (b := 48) (by decide) (by omega) hc
      have etn := I_tn (k := k) (by omega)
      refine ok_gd (by exact rem12 (by omega) (by decide) (by decide)) ?_
      refine ok_ite (fun hc => ?_) (fun hc => ?_)
      · unfold s_X1_lowHours_36
        (repeat rw [I_suc])
        exact ih _ _ (by omega) (by omega)
      · unfold s_X1_lowHours_36
        (repeat rw [I_suc])
        exact ih _ _ (by omega) (by omega)
theorem a_X1_lowHours {g : Nat → Nat → Nat → Int32} {w : Nat → Nat → Nat → Int64}  {hb : Nat} {p1 : Nat} : Ok (s_X1_lowHours hb p1 g w) (fun _ => True) := by
  unfold s_X1_lowHours
  exact a_X1_lowHours_R5 FU _ 0 (by decide) (by decide)
theorem a_X0_hoursBetween {g : Nat → Nat → Nat → Int32} {w : Nat → Nat → Nat → Int64} {p1 p2 p3 : Int32} : Ok (s_X0_hoursBetween 0 p1 p2 p3 g w) (fun _ => True) := by
  unfold s_X0_hoursBetween
  refine ok_ite (fun hc => ?_) (fun hc => ?_)
  · refine ok_ite (fun hc => ?_) (fun hc => ?_)
    · refine ok_ite (fun hc => ?_) (fun hc => ?_)
      · refine ok_gd (by exact isB_in (by assumption)) ?_
        refine ok_gd (by exact isB_in (by assumption)) ?_
        refine ok_ite (fun hc => ?_) (fun hc => ?_)
        · refine ok_gd (by exact isB_in (by assumption)) ?_
          refine ok_gd (by exact isB_in (by assumption)) ?_
          unfold s_X0_hoursBetween_64
          refine ok_gd (by exact nz_pos (by assumption)) ?_
          exact ok_some trivial
        · refine ok_gd (by exact isB_in (by assumption)) ?_
          refine ok_gd (by exact isB_in (by assumption)) ?_
          unfold s_X0_hoursBetween_64
          refine ok_gd (by exact nz_pos (by assumption)) ?_
          exact ok_some trivial
      · unfold s_X0_hoursBetween_18
        exact ok_some trivial
    · unfold s_X0_hoursBetween_18
      exact ok_some trivial
  · unfold s_X0_hoursBetween_18
    exact ok_some trivial
theorem a_X0_basinsOf {g : Nat → Nat → Nat → Int32} {w : Nat → Nat → Nat → Int64} {p1 : Nat} : Ok (s_X0_basinsOf 0 p1 g w) (fun _ => True) := by
  unfold s_X0_basinsOf
  refine ok_ite (fun hc => ?_) (fun hc => ?_)
  · refine ok_ite (fun hc => ?_) (fun hc => ?_)
    · refine ok_gd (by exact isB_in (by assumption)) ?_
      refine ok_gd (by exact isB_in (by assumption)) ?_
      exact ok_some trivial
    · unfold s_X0_basinsOf_20
      exact ok_some trivial
  · unfold s_X0_basinsOf_20
    exact ok_some trivial
theorem a_X0_shareBasin {g : Nat → Nat → Nat → Int32} {w : Nat → Nat → Nat → Int64} {p1 p2 : Nat} : Ok (s_X0_shareBasin 0 p1 p2 g w) (fun _ => True) := by
  unfold s_X0_shareBasin
  refine ok_bind (a_X0_basinsOf) ?_
  rintro q hq
  refine ok_bind (a_X0_basinsOf) ?_
  rintro q hq
  refine ok_ite (fun hc => ?_) (fun hc => ?_)
  · unfold s_X0_shareBasin_19
    exact ok_some trivial
  · unfold s_X0_shareBasin_19
    exact ok_some trivial
theorem a_X1_jobsLaid_R13 {g : Nat → Nat → Nat → Int32} {w : Nat → Nat → Nat → Int64}  {hb : Nat}  : ∀ (n : Nat) (v1 : Int32) (k : Nat), (k ≤ 8) → 99 - k < n → Ok (s_X1_jobsLaid_R13 hb n v1 (I k) g w) (fun _ => True) := by
  intro n
  induction n with
  | zero => intro v1 k h1 hm; omega
  | succ n ih =>
    intro v1 k h1 hm
    show Ok (s_X1_jobsLaid_13 hb (s_X1_jobsLaid_R13 hb n) v1 (I k) g w) _
    unfold s_X1_jobsLaid_13
    refine ok_ite (fun hc => ?_) (fun hc => ?_)
    · exact ok_some trivial
    · have hk := I_nle (b := 8) (by decide) (by omega) hc
      have etn := I_tn (k := k) (by omega)
      refine ok_gd (by exact inR_I (by omega) (by omega)) ?_
      refine ok_ite (fun hc => ?_) (fun hc => ?_)
      · unfold s_X1_jobsLaid_36
        (repeat rw [I_suc])
        exact ih _ _ (by omega) (by omega)
      · unfold s_X1_jobsLaid_36
        (repeat rw [I_suc])
        exact ih _ _ (by omega) (by omega)
theorem a_X1_jobsLaid {g : Nat → Nat → Nat → Int32} {w : Nat → Nat → Nat → Int64}  {hb : Nat}  : Ok (s_X1_jobsLaid hb g w) (fun _ => True) := by
  unfold s_X1_jobsLaid
  exact a_X1_jobsLaid_R13 FU _ 0 (by decide) (by decide)
theorem a_X1_isBerthUsed_R11 {g : Nat → Nat → Nat → Int32} {w : Nat → Nat → Nat → Int64}  {hb : Nat} {p1 : Int32} : ∀ (n : Nat) (k : Nat), (k ≤ 8) → 99 - k < n → Ok (s_X1_isBerthUsed_R11 hb p1 n (I k) g w) (fun _ => True) := by
  intro n
  induction n with
  | zero => intro k h1 hm; omega
  | succ n ih =>
    intro k h1 hm
    show Ok (s_X1_isBerthUsed_11 hb p1 (s_X1_isBerthUsed_R11 hb p1 n) (I k) g w) _
    unfold s_X1_isBerthUsed_11
    refine ok_ite (fun hc => ?_) (fun hc => ?_)
    · exact ok_some trivial
    · have hk := I_nle (b := 8) (by decide) (by omega) hc
      have etn := I_tn (k := k) (by omega)
      refine ok_gd (by exact inR_I (by omega) (by omega)) ?_
      refine ok_ite (fun hc => ?_) (fun hc => ?_)
      · refine ok_ite (fun hc => ?_) (fun hc => ?_)
        · unfold s_X1_isBerthUsed_49
          exact ok_some trivial
        · refine ok_ite (fun hc => ?_) (fun hc => ?_)
          · unfold s_X1_isBerthUsed_51
            (repeat rw [I_suc])
            exact ih _ (by omega) (by omega)
          · unfold s_X1_isBerthUsed_49
            exact ok_some trivial
      · unfold s_X1_isBerthUsed_51
        (repeat rw [I_suc])
        exact ih _ (by omega) (by omega)
theorem a_X1_isBerthUsed {g : Nat → Nat → Nat → Int32} {w : Nat → Nat → Nat → Int64}  {hb : Nat} {p1 : Int32} : Ok (s_X1_isBerthUsed hb p1 g w) (fun _ => True) := by
  unfold s_X1_isBerthUsed
  exact a_X1_isBerthUsed_R11 FU 0 (by decide) (by decide)
theorem a_X1_pullHours_R16 {g : Nat → Nat → Nat → Int32} {w : Nat → Nat → Nat → Int64}  {hb : Nat} {p1 : Int32} : ∀ (n : Nat) (v2 : Int64) (k : Nat), (k ≤ 6) → 99 - k < n → Ok (s_X1_pullHours_R16 hb p1 n v2 (I k) g w) (fun _ => True) := by
  intro n
  induction n with
  | zero => intro v2 k h1 hm; omega
  | succ n ih =>
    intro v2 k h1 hm
    show Ok (s_X1_pullHours_16 hb p1 (s_X1_pullHours_R16 hb p1 n) v2 (I k) g w) _
    unfold s_X1_pullHours_16
    refine ok_ite (fun hc => ?_) (fun hc => ?_)
    · exact ok_some trivial
    · have hk := I_nle (b := 6) (by decide) (by omega) hc
      have etn := I_tn (k := k) (by omega)
      refine ok_gd (by exact inR_I (by omega) (by omega)) ?_
      refine ok_ite (fun hc => ?_) (fun hc => ?_)
      · unfold s_X1_pullHours_58
        (repeat rw [I_suc])
        exact ih _ _ (by omega) (by omega)
      · unfold s_X1_pullHours_58
        (repeat rw [I_suc])
        exact ih _ _ (by omega) (by omega)
theorem a_X1_pullHours {g : Nat → Nat → Nat → Int32} {w : Nat → Nat → Nat → Int64}  {hb : Nat} {p1 : Int32} : Ok (s_X1_pullHours hb p1 g w) (fun _ => True) := by
  unfold s_X1_pullHours
  exact a_X1_pullHours_R16 FU _ 0 (by decide) (by decide)
theorem a_X1_neededPull {g : Nat → Nat → Nat → Int32} {w : Nat → Nat → Nat → Int64}  {hb : Nat} {p1 : Nat} {p2 : Int32} : Ok (s_X1_neededPull hb p1 p2 g w) (fun _ => True) := by
  unfold s_X1_neededPull
  refine ok_ite (fun hc => ?_) (fun hc => ?_)
  · refine ok_gd (by exact w47_in (by assumption)) ?_
    unfold s_X1_neededPull_32
    exact ok_some trivial
  · unfold s_X1_neededPull_32
    exact ok_some trivial
theorem a_X1_pullOf_R4 {g : Nat → Nat → Nat → Int32} {w : Nat → Nat → Nat → Int64}  {hb : Nat} {p1 : Int32} : ∀ (n : Nat) (v2 : Int32) (k : Nat), (k ≤ 6) → 99 - k < n → Ok (s_X1_pullOf_R4 hb p1 n v2 (I k) g w) (fun _ => True) := by
  intro n
  induction n with
  | zero => intro v2 k h1 hm; omega
  | succ n ih =>
    intro v2 k h1 hm
    show Ok (s_X1_pullOf_4 hb p1 (s_X1_pullOf_R4 hb p1 n) v2 (I k) g w) _
    unfold s_X1_pullOf_4
    refine ok_ite (fun hc => ?_) (fun hc => ?_)
    · exact ok_some trivial
    · have hk := I_nle (b := 6) (by decide) (by omega) hc
      have etn := I_tn (k := k) (by omega)
      refine ok_ite (fun hc => ?_) (fun hc => ?_)
      · refine ok_gd (by exact inR_I (by omega) (by omega)) ?_
        unfold s_X1_pullOf_33
        (repeat rw [I_suc])
        exact ih _ _ (by omega) (by omega)
      · unfold s_X1_pullOf_33
        (repeat rw [I_suc])
        exact ih _ _ (by omega) (by omega)
theorem a_X1_pullOf {g : Nat → Nat → Nat → Int32} {w : Nat → Nat → Nat → Int64}  {hb : Nat} {p1 : Int32} : Ok (s_X1_pullOf hb p1 g w) (fun _ => True) := by
  unfold s_X1_pullOf
  exact a_X1_pullOf_R4 FU _ 0 (by decide) (by decide)
theorem a_X1_canPullAstern_R2 {g : Nat → Nat → Nat → Int32} {w : Nat → Nat → Nat → Int64}  {hb : Nat} {p1 : Int32} : ∀ (n : Nat) (k : Nat), (k ≤ 6) → 99 - k < n → Ok (s_X1_canPullAstern_R2 hb p1 n (I k) g w) (fun _ => True) := by
  intro n
  induction n with
  | zero => intro k h1 hm; omega
  | succ n ih =>
    intro k h1 hm
    show Ok (s_X1_canPullAstern_2 hb p1 (s_X1_canPullAstern_R2 hb p1 n) (I k) g w) _
    unfold s_X1_canPullAstern_2
    refine ok_ite (fun hc => ?_) (fun hc => ?_)
    · exact ok_some trivial
    · have hk := I_nle (b := 6) (by decide) (by omega) hc
      have etn := I_tn (k := k) (by omega)
      refine ok_ite (fun hc => ?_) (fun hc => ?_)
      · refine ok_gd (by exact inR_I (by omega) (by omega)) ?_
        refine ok_ite (fun hc => ?_) (fun hc => ?_)
        · unfold s_X1_canPullAstern_34
          (repeat rw [I_suc])
          exact ih _ (by omega) (by omega)
        · exact ok_some trivial
      · unfold s_X1_canPullAstern_34
        (repeat rw [I_suc])
        exact ih _ (by omega) (by omega)
theorem a_X1_canPullAstern {g : Nat → Nat → Nat → Int32} {w : Nat → Nat → Nat → Int64}  {hb : Nat} {p1 : Int32} : Ok (s_X1_canPullAstern hb p1 g w) (fun _ => True) := by
  unfold s_X1_canPullAstern
  exact a_X1_canPullAstern_R2 FU 0 (by decide) (by decide)
theorem a_X1_hasIdle_R2 {g : Nat → Nat → Nat → Int32} {w : Nat → Nat → Nat → Int64}  {hb : Nat} {p1 p2 : Int32} : ∀ (n : Nat) (k : Nat), (k ≤ 6) → 99 - k < n → Ok (s_X1_hasIdle_R2 hb p1 p2 n (I k) g w) (fun _ => True) := by
  intro n
  induction n with
  | zero => intro k h1 hm; omega
  | succ n ih =>
    intro k h1 hm
    show Ok (s_X1_hasIdle_2 hb p1 p2 (s_X1_hasIdle_R2 hb p1 p2 n) (I k) g w) _
    unfold s_X1_hasIdle_2
    refine ok_ite (fun hc => ?_) (fun hc => ?_)
    · unfold s_X1_hasIdle_66
      exact ok_some trivial
    · refine ok_ite (fun hc => ?_) (fun hc => ?_)
      · unfold s_X1_hasIdle_66
        exact ok_some trivial
      · have hk := I_nle (b := 6) (by decide) (by omega) hc
        have etn := I_tn (k := k) (by omega)
        refine ok_ite (fun hc => ?_) (fun hc => ?_)
        · unfold s_X1_hasIdle_60
          (repeat rw [I_suc])
          exact ih _ (by omega) (by omega)
        · refine ok_gd (by exact inR_I (by omega) (by omega)) ?_
          refine ok_ite (fun hc => ?_) (fun hc => ?_)
          · unfold s_X1_hasIdle_60
            (repeat rw [I_suc])
            exact ih _ (by omega) (by omega)
          · refine ok_gd (by exact inR_I (by omega) (by omega)) ?_
            refine ok_ite (fun hc => ?_) (fun hc => ?_)
            · unfold s_X1_hasIdle_60
              (repeat rw [I_suc])
              exact ih _ (by omega) (by omega)
            · exact ok_some trivial
theorem a_X1_hasIdle {g : Nat → Nat → Nat → Int32} {w : Nat → Nat → Nat → Int64}  {hb : Nat} {p1 p2 : Int32} : Ok (s_X1_hasIdle hb p1 p2 g w) (fun _ => True) := by
  unfold s_X1_hasIdle
  exact a_X1_hasIdle_R2 FU 0 (by decide) (by decide)
theorem a_X1_jobBefore_R16 {g : Nat → Nat → Nat → Int32} {w : Nat → Nat → Nat → Int64}  {hb : Nat} {p1 p2 : Int32} : ∀ (n : Nat) (v3 : Option Nat) (k : Nat), (k ≤ 8) → 99 - k < n → Ok (s_X1_jobBefore_R16 hb p1 p2 n v3 (I k) g w) (fun _ => True) := by
  intro n
  induction n with
  | zero => intro v3 k h1 hm; omega
  | succ n ih =>
    intro v3 k h1 hm
    show Ok (s_X1_jobBefore_16 hb p1 p2 (s_X1_jobBefore_R16 hb p1 p2 n) v3 (I k) g w) _
    unfold s_X1_jobBefore_16
    refine ok_ite (fun hc => ?_) (fun hc => ?_)
    · exact ok_some trivial
    · have hk := I_nle (b := 8) (by decide) (by omega) hc
      have etn := I_tn (k := k) (by omega)
      refine ok_gd (by exact inR_I (by omega) (by omega)) ?_
      refine ok_ite (fun hc => ?_) (fun hc => ?_)
      · refine ok_ite (fun hc => ?_) (fun hc => ?_)
        · unfold s_X1_jobBefore_67
          (repeat rw [I_suc])
          exact ih _ _ (by omega) (by omega)
        · cases v3 with
          | none =>
            dsimp only
            unfold s_X1_jobBefore_64
            unfold s_X1_jobBefore_67
            (repeat rw [I_suc])
            exact ih _ _ (by omega) (by omega)
          | some km =>
            dsimp only
            refine ok_ite (fun hc => ?_) (fun hc => ?_)
            · unfold s_X1_jobBefore_67
              (repeat rw [I_suc])
              exact ih _ _ (by omega) (by omega)
            · unfold s_X1_jobBefore_64
              unfold s_X1_jobBefore_67
              (repeat rw [I_suc])
              exact ih _ _ (by omega) (by omega)
      · unfold s_X1_jobBefore_67
        (repeat rw [I_suc])
        exact ih _ _ (by omega) (by omega)
theorem a_X1_jobBefore {g : Nat → Nat → Nat → Int32} {w : Nat → Nat → Nat → Int64}  {hb : Nat} {p1 p2 : Int32} : Ok (s_X1_jobBefore hb p1 p2 g w) (fun _ => True) := by
  unfold s_X1_jobBefore
  exact a_X1_jobBefore_R16 FU _ 0 (by decide) (by decide)
theorem a_X1_jobBehind_R16 {g : Nat → Nat → Nat → Int32} {w : Nat → Nat → Nat → Int64}  {hb : Nat} {p1 p2 : Int32} : ∀ (n : Nat) (v3 : Option Nat) (k : Nat), (k ≤ 8) → 99 - k < n → Ok (s_X1_jobBehind_R16 hb p1 p2 n v3 (I k) g w) (fun _ => True) := by
  intro n
  induction n with
  | zero => intro v3 k h1 hm; omega
  | succ n ih =>
    intro v3 k h1 hm
    show Ok (s_X1_jobBehind_16 hb p1 p2 (s_X1_jobBehind_R16 hb p1 p2 n) v3 (I k) g w) _
    unfold s_X1_jobBehind_16
    refine ok_ite (fun hc => ?_) (fun hc => ?_)
    · exact ok_some trivial
    · have hk := I_nle (b := 8) (by decide) (by omega) hc
      have etn := I_tn (k := k) (by omega)
      refine ok_gd (by exact inR_I (by omega) (by omega)) ?_
      refine ok_ite (fun hc => ?_) (fun hc => ?_)
      · refine ok_ite (fun hc => ?_) (fun hc => ?_)
        · unfold s_X1_jobBehind_67
          (repeat rw [I_suc])
          exact ih _ _ (by omega) (by omega)
        · cases v3 with
          | none =>
            dsimp only
            unfold s_X1_jobBehind_64
            unfold s_X1_jobBehind_67
            (repeat rw [I_suc])
            exact ih _ _ (by omega) (by omega)
          | some km =>
            dsimp only
            refine ok_ite (fun hc => ?_) (fun hc => ?_)
            · unfold s_X1_jobBehind_67
              (repeat rw [I_suc])
              exact ih _ _ (by omega) (by omega)
            · unfold s_X1_jobBehind_64
              unfold s_X1_jobBehind_67
              (repeat rw [I_suc])
              exact ih _ _ (by omega) (by omega)
      · unfold s_X1_jobBehind_67
        (repeat rw [I_suc])
        exact ih _ _ (by omega) (by omega)
theorem a_X1_jobBehind {g : Nat → Nat → Nat → Int32} {w : Nat → Nat → Nat → Int64}  {hb : Nat} {p1 p2 : Int32} : Ok (s_X1_jobBehind hb p1 p2 g w) (fun _ => True) := by
  unfold s_X1_jobBehind
  exact a_X1_jobBehind_R16 FU _ 0 (by decide) (by decide)
theorem a_X2_allHaveJobs_R2 {g : Nat → Nat → Nat → Int32} {w : Nat → Nat → Nat → Int64}  {p0 : Nat} {p1 : Int32} : ∀ (n : Nat) (k : Nat), (k ≤ 8) → 99 - k < n → Ok (s_X2_allHaveJobs_R2 p0 p1 n (I k) g w) (fun _ => True) := by
  intro n
  induction n with
  | zero => intro k h1 hm; omega
  | succ n ih =>
    intro k h1 hm
    show Ok (s_X2_allHaveJobs_2 p0 p1 (s_X2_allHaveJobs_R2 p0 p1 n) (I k) g w) _
    unfold s_X2_allHaveJobs_2
    refine ok_ite (fun hc => ?_) (fun hc => ?_)
    · exact ok_some trivial
    · have hk := I_nle (b := 8) (by decide) (by omega) hc
      have etn := I_tn (k := k) (by omega)
      refine ok_ite (fun hc => ?_) (fun hc => ?_)
      · unfold s_X2_allHaveJobs_33
        (repeat rw [I_suc])
        exact ih _ (by omega) (by omega)
      · refine ok_gd (by exact inR_I (by omega) (by omega)) ?_
        refine ok_ite (fun hc => ?_) (fun hc => ?_)
        · unfold s_X2_allHaveJobs_33
          (repeat rw [I_suc])
          exact ih _ (by omega) (by omega)
        · exact ok_some trivial
theorem a_X2_allHaveJobs {g : Nat → Nat → Nat → Int32} {w : Nat → Nat → Nat → Int64}  {p0 : Nat} {p1 : Int32} : Ok (s_X2_allHaveJobs p0 p1 g w) (fun _ => True) := by
  unfold s_X2_allHaveJobs
  exact a_X2_allHaveJobs_R2 FU 0 (by decide) (by decide)
theorem a_X5_fuelBehind_R7 {g : Nat → Nat → Nat → Int32} {w : Nat → Nat → Nat → Int64}  {hb : Nat} {p1 : Int32} : ∀ (n : Nat) (v2 : Int32) (k : Nat), (k ≤ 48) → 60 - k < n → Ok (s_X5_fuelBehind_R7 hb p1 n v2 (I k) g w) (fun _ => True) := by
  intro n
  induction n with
  | zero => intro v2 k h1 hm; omega
  | succ n ih =>
    intro v2 k h1 hm
    show Ok (s_X5_fuelBehind_7 hb p1 (s_X5_fuelBehind_R7 hb p1 n) v2 (I k) g w) _
    unfold s_X5_fuelBehind_7
    refine ok_ite (fun hc => ?_) (fun hc => ?_)
    · unfold s_X5_fuelBehind_35
      exact ok_some trivial
    · refine ok_ite (fun hc => ?_) (fun hc => ?_)
      · unfold s_X5_fuelBehind_35
        exact ok_some trivial
      · have hk := I_nle (b := 48) (by decide) (by omega) hc
        have etn := I_tn (k := k) (by omega)
        (repeat rw [I_suc])
        exact ih _ _ (by omega) (by omega)
theorem a_X5_fuelBehind {g : Nat → Nat → Nat → Int32} {w : Nat → Nat → Nat → Int64}  {hb : Nat} {p1 : Int32} : Ok (s_X5_fuelBehind hb p1 g w) (fun _ => True) := by
  unfold s_X5_fuelBehind
  exact a_X5_fuelBehind_R7 FU _ 0 (by decide) (by decide)
theorem a_X5_fuelLasts_R21 {g : Nat → Nat → Nat → Int32} {w : Nat → Nat → Nat → Int64}  {hb : Nat} {p1 : Int64} : ∀ (n : Nat) (v3 : Int32) (k : Nat), (k ≤ 48) → 60 - k < n → Ok (s_X5_fuelLasts_R21 hb p1 n v3 (I k) g w) (fun _ => True) := by
  intro n
  induction n with
  | zero => intro v3 k h1 hm; omega
  | succ n ih =>
    intro v3 k h1 hm
    show Ok (s_X5_fuelLasts_21 hb p1 (s_X5_fuelLasts_R21 hb p1 n) v3 (I k) g w) _
    unfold s_X5_fuelLasts_21
    refine ok_ite (fun hc => ?_) (fun hc => ?_)
    · exact ok_some trivial
    · have hk := I_nle (b := 48) (by decide) (by omega) hc
      have etn := I_tn (k := k) (by omega)
      refine ok_ite (fun hc => ?_) (fun hc => ?_)
      · (repeat rw [I_suc])
        exact ih _ _ (by omega) (by omega)
      · exact ok_some trivial
theorem a_X5_fuelLasts {g : Nat → Nat → Nat → Int32} {w : Nat → Nat → Nat → Int64}  {hb : Nat} {p1 : Int64} : Ok (s_X5_fuelLasts hb p1 g w) (fun _ => True) := by
  unfold s_X5_fuelLasts
  refine ok_ite (fun hc => ?_) (fun hc => ?_)
  · exact a_X5_fuelLasts_R21 FU _ 0 (by decide) (by decide)
  · exact ok_some trivial
theorem a_X5_crewRests_R24 {g : Nat → Nat → Nat → Int32} {w : Nat → Nat → Nat → Int64}  {hb : Nat} {p1 : Int64} {p3 : Int32} {wd : Nat} (hw : wd ≤ 18) : ∀ (n : Nat) (k : Nat), (k ≤ 49) → 60 - k < n → Ok (s_X5_crewRests_R24 hb p1 p3 n (I wd) (I k) g w) (fun _ => True) := by
  intro n
  induction n with
  | zero => intro k h1 hm; omega
  | succ n ih =>
    intro k h1 hm
    show Ok (s_X5_crewRests_24 hb p1 p3 (s_X5_crewRests_R24 hb p1 p3 n) (I wd) (I k) g w) _
    unfold s_X5_crewRests_24
    refine ok_ite (fun hc => ?_) (fun hc => ?_)
    · exact ok_some trivial
    · have hk : k ≤ 48 := by
        rw [I_add] at hc
        have q := mt (I_lt (a := 48) (b := k + wd) (by decide) (by omega)).mpr hc
        omega
      refine ok_ite (fun hc => ?_) (fun hc => ?_)
      · (repeat rw [I_suc])
        exact ih _ (by omega) (by omega)
      · exact ok_some trivial
theorem a_X5_crewRests {g : Nat → Nat → Nat → Int32} {w : Nat → Nat → Nat → Int64} (hI : InvG g) {hb : Nat} {p1 : Int64} {h : Nat} : Ok (s_X5_crewRests hb p1 (g 1 h 5) g w) (fun _ => True) := by
  unfold s_X5_crewRests
  refine ok_ite (fun hc => ?_) (fun hc => ?_)
  · obtain ⟨a, ha, ea⟩ := crew_ex hI hb
    obtain ⟨r, hr, er⟩ := rest_ex hI h
    rw [ea, er, I_add]
    exact a_X5_crewRests_R24 (by omega) FU 0 (by decide) (by decide)
  · exact ok_some trivial
theorem a_X1_lastBerth {g : Nat → Nat → Nat → Int32} {w : Nat → Nat → Nat → Int64}  {hb : Nat} {t : Nat} (ht : t < 6) : Ok (s_X1_lastBerth hb (I t) g w) (fun _ => True) := by
  unfold s_X1_lastBerth
  refine ok_bind (a_X1_jobBefore) ?_
  rintro q hq
  cases q with
  | none =>
    dsimp only
    refine ok_gd (by exact inR_I (by omega) (by omega)) ?_
    unfold s_X1_lastBerth_28
    exact ok_some trivial
  | some km =>
    dsimp only
    unfold s_X1_lastBerth_28
    exact ok_some trivial
theorem a_X1_mostNeeded_R6 {g : Nat → Nat → Nat → Int32} {w : Nat → Nat → Nat → Int64}  {hb : Nat} {p1 : Nat} {p2 p3 : Int32} : ∀ (n : Nat) (v4 : Int32) (k : Nat), (k ≤ 48) → 60 - k < n → Ok (s_X1_mostNeeded_R6 hb p1 p2 p3 n v4 (I k) g w) (fun _ => True) := by
  intro n
  induction n with
  | zero => intro v4 k h1 hm; omega
  | succ n ih =>
    intro v4 k h1 hm
    show Ok (s_X1_mostNeeded_6 hb p1 p2 p3 (s_X1_mostNeeded_R6 hb p1 p2 p3 n) v4 (I k) g w) _
    unfold s_X1_mostNeeded_6
    refine ok_ite (fun hc => ?_) (fun hc => ?_)
    · unfold s_X1_mostNeeded_39
      exact ok_some trivial
    · refine ok_ite (fun hc => ?_) (fun hc => ?_)
      · unfold s_X1_mostNeeded_39
        exact ok_some trivial
      · have hk := I_nle (b := 48) (by decide) (by omega) hc
        have etn := I_tn (k := k) (by omega)
        refine ok_bind (a_X1_neededPull) ?_
        rintro q hq
        (repeat rw [I_suc])
        exact ih _ _ (by omega) (by omega)
theorem a_X1_mostNeeded {g : Nat → Nat → Nat → Int32} {w : Nat → Nat → Nat → Int64}  {hb : Nat} {p1 : Nat} {p3 : Int32} {h : Nat} (hh : h ≤ 48) : Ok (s_X1_mostNeeded hb p1 (I h) p3 g w) (fun _ => True) := by
  unfold s_X1_mostNeeded
  exact a_X1_mostNeeded_R6 FU _ h (by omega) (by unfold FU; omega)
theorem a_X1_isGuarded_R3 {g : Nat → Nat → Nat → Int32} {w : Nat → Nat → Nat → Int64}  {hb : Nat} {p1 : Nat} {p2 p3 : Int32} {e : Nat} (he : p2 + g 4 p1 3 = I e) (he2 : e ≤ 60) : ∀ (n : Nat) (k : Nat), (k ≤ 60) → 70 - k < n → Ok (s_X1_isGuarded_R3 hb p1 p2 p3 n (I k) g w) (fun _ => True) := by
  intro n
  induction n with
  | zero => intro k h1 hm; omega
  | succ n ih =>
    intro k h1 hm
    show Ok (s_X1_isGuarded_3 hb p1 p2 p3 (s_X1_isGuarded_R3 hb p1 p2 p3 n) (I k) g w) _
    unfold s_X1_isGuarded_3
    refine ok_ite (fun hc => ?_) (fun hc => ?_)
    · exact ok_some trivial
    · rw [he] at hc
      have hk : k < e := by
        have q := mt (I_le (a := e) (b := k) (by omega) (by omega)).mpr hc
        omega
      refine ok_bind (a_X1_hasIdle) ?_
      rintro q hq
      refine ok_ite (fun hc => ?_) (fun hc => ?_)
      · (repeat rw [I_suc])
        exact ih _ (by omega) (by omega)
      · exact ok_some trivial
theorem a_X1_isGuarded {g : Nat → Nat → Nat → Int32} {w : Nat → Nat → Nat → Int64} (hI : InvG g) {hb : Nat} {p1 : Nat} {p3 : Int32} {h : Nat} (hh : h ≤ 48) : Ok (s_X1_isGuarded hb p1 (I h) p3 g w) (fun _ => True) := by
  obtain ⟨a, ha, ea⟩ := len_ex hI p1
  unfold s_X1_isGuarded
  exact a_X1_isGuarded_R3 (by rw [ea, I_add]) (by omega) FU h (by omega) (by unfold FU; omega)
theorem a_X1_canBeThere {g : Nat → Nat → Nat → Int32} {w : Nat → Nat → Nat → Int64}  {hb : Nat} {t : Nat} (ht : t < 6) {p2 : Nat} {p3 : Int32} : Ok (s_X1_canBeThere hb (I t) p2 p3 g w) (fun _ => True) := by
  unfold s_X1_canBeThere
  refine ok_bind (a_X1_jobBefore) ?_
  rintro q hq
  cases q with
  | none =>
    dsimp only
    refine ok_gd (by exact inR_I (by omega) (by omega)) ?_
    unfold s_X1_canBeThere_30
    cases (none : Option Nat) with
    | none =>
      dsimp only
      unfold s_X1_canBeThere_48
      refine ok_bind (a_X0_hoursBetween) ?_
      rintro q hq
      refine ok_ite (fun hc => ?_) (fun hc => ?_)
      · refine ok_bind (a_X1_jobBehind) ?_
        rintro q hq
        cases q with
        | none =>
          dsimp only
          unfold s_X1_canBeThere_129
          unfold s_X1_canBeThere_134
          exact ok_some trivial
        | some km =>
          dsimp only
          refine ok_bind (a_X0_hoursBetween) ?_
          rintro q hq
          refine ok_ite (fun hc => ?_) (fun hc => ?_)
          · unfold s_X1_canBeThere_134
            exact ok_some trivial
          · unfold s_X1_canBeThere_129
            unfold s_X1_canBeThere_134
            exact ok_some trivial
      · exact ok_some trivial
    | some km =>
      dsimp only
      unfold s_X1_canBeThere_48
      refine ok_bind (a_X0_hoursBetween) ?_
      rintro q hq
      refine ok_ite (fun hc => ?_) (fun hc => ?_)
      · refine ok_bind (a_X1_jobBehind) ?_
        rintro q hq
        cases q with
        | none =>
          dsimp only
          unfold s_X1_canBeThere_129
          unfold s_X1_canBeThere_134
          exact ok_some trivial
        | some km =>
          dsimp only
          refine ok_bind (a_X0_hoursBetween) ?_
          rintro q hq
          refine ok_ite (fun hc => ?_) (fun hc => ?_)
          · unfold s_X1_canBeThere_134
            exact ok_some trivial
          · unfold s_X1_canBeThere_129
            unfold s_X1_canBeThere_134
            exact ok_some trivial
      · exact ok_some trivial
  | some km =>
    dsimp only
    unfold s_X1_canBeThere_30
    cases (none : Option Nat) with
    | none =>
      dsimp only
      unfold s_X1_canBeThere_48
      refine ok_bind (a_X0_hoursBetween) ?_
      rintro q hq
      refine ok_ite (fun hc => ?_) (fun hc => ?_)
      · refine ok_bind (a_X1_jobBehind) ?_
        rintro q hq
        cases q with
        | none =>
          dsimp only
          unfold s_X1_canBeThere_129
          unfold s_X1_canBeThere_134
          exact ok_some trivial
        | some km =>
          dsimp only
          refine ok_bind (a_X0_hoursBetween) ?_
          rintro q hq
          refine ok_ite (fun hc => ?_) (fun hc => ?_)
          · unfold s_X1_canBeThere_134
            exact ok_some trivial
          · unfold s_X1_canBeThere_129
            unfold s_X1_canBeThere_134
            exact ok_some trivial
      · exact ok_some trivial
    | some km =>
      dsimp only
      unfold s_X1_canBeThere_48
      refine ok_bind (a_X0_hoursBetween) ?_
      rintro q hq
      refine ok_ite (fun hc => ?_) (fun hc => ?_)
      · refine ok_bind (a_X1_jobBehind) ?_
        rintro q hq
        cases q with
        | none =>
          dsimp only
          unfold s_X1_canBeThere_129
          unfold s_X1_canBeThere_134
          exact ok_some trivial
        | some km =>
          dsimp only
          refine ok_bind (a_X0_hoursBetween) ?_
          rintro q hq
          refine ok_ite (fun hc => ?_) (fun hc => ?_)
          · unfold s_X1_canBeThere_134
            exact ok_some trivial
          · unfold s_X1_canBeThere_129
            unfold s_X1_canBeThere_134
            exact ok_some trivial
      · exact ok_some trivial
theorem a_X1_isLess {g : Nat → Nat → Nat → Int32} {w : Nat → Nat → Nat → Int64}  {hb : Nat} {p1 p2 : Int32} : Ok (s_X1_isLess hb p1 p2 g w) (fun _ => True) := by
  unfold s_X1_isLess
  refine ok_ite (fun hc => ?_) (fun hc => ?_)
  · refine ok_bind (a_X1_pullOf) ?_
    rintro q hq
    refine ok_bind (a_X1_pullOf) ?_
    rintro q hq
    refine ok_ite (fun hc => ?_) (fun hc => ?_)
    · unfold s_X1_isLess_49
      exact ok_some trivial
    · unfold s_X1_isLess_49
      exact ok_some trivial
  · refine ok_ite (fun hc => ?_) (fun hc => ?_)
    · unfold s_X1_isLess_49
      exact ok_some trivial
    · unfold s_X1_isLess_49
      exact ok_some trivial
theorem a_X1_waitedOf_R4 {g : Nat → Nat → Nat → Int32} {w : Nat → Nat → Nat → Int64}  {hb : Nat} {p1 : Int32} : ∀ (n : Nat) (v2 : Int32) (k : Nat), (k ≤ 8) → 20 - k < n → Ok (s_X1_waitedOf_R4 hb p1 n v2 (I k) g w) (fun _ => True) := by
  intro n
  induction n with
  | zero => intro v2 k h1 hm; omega
  | succ n ih =>
    intro v2 k h1 hm
    show Ok (s_X1_waitedOf_4 hb p1 (s_X1_waitedOf_R4 hb p1 n) v2 (I k) g w) _
    unfold s_X1_waitedOf_4
    refine ok_ite (fun hc => ?_) (fun hc => ?_)
    · unfold s_X1_waitedOf_36
      exact ok_some trivial
    · refine ok_ite (fun hc => ?_) (fun hc => ?_)
      · unfold s_X1_waitedOf_36
        exact ok_some trivial
      · have hk := I_nle (b := 8) (by decide) (by omega) hc
        have etn := I_tn (k := k) (by omega)
        refine ok_gd (by exact inR_I (by omega) (by omega)) ?_
        (repeat rw [I_suc])
        exact ih _ _ (by omega) (by omega)
theorem a_X1_waitedOf {g : Nat → Nat → Nat → Int32} {w : Nat → Nat → Nat → Int64}  {hb : Nat} {p1 : Int32} : Ok (s_X1_waitedOf hb p1 g w) (fun _ => True) := by
  unfold s_X1_waitedOf
  exact a_X1_waitedOf_R4 FU _ 0 (by decide) (by decide)
theorem a_X3_isSo {g : Nat → Nat → Nat → Int32} {w : Nat → Nat → Nat → Int64} {p0 p1 : Int32} {p2 p3 : Nat} : Ok (s_X3_isSo p0 p1 p2 p3 g w) (fun _ => True) := by
  unfold s_X3_isSo
  refine ok_ite (fun hc => ?_) (fun hc => ?_)
  · exact ok_some trivial
  · refine ok_ite (fun hc => ?_) (fun hc => ?_)
    · refine ok_ite (fun hc => ?_) (fun hc => ?_)
      · unfold s_X3_isSo_55
        exact ok_some trivial
      · unfold s_X3_isSo_55
        exact ok_some trivial
    · refine ok_ite (fun hc => ?_) (fun hc => ?_)
      · refine ok_ite (fun hc => ?_) (fun hc => ?_)
        · refine ok_gd (by exact isH_in (by assumption)) ?_
          refine ok_ite (fun hc => ?_) (fun hc => ?_)
          · unfold s_X3_isSo_83
            unfold s_X3_isSo_84
            exact ok_some trivial
          · unfold s_X3_isSo_84
            exact ok_some trivial
        · unfold s_X3_isSo_83
          unfold s_X3_isSo_84
          exact ok_some trivial
      · refine ok_ite (fun hc => ?_) (fun hc => ?_)
        · refine ok_ite (fun hc => ?_) (fun hc => ?_)
          · unfold s_X3_isSo_109
            unfold s_X3_isSo_114
            exact ok_some trivial
          · refine ok_ite (fun hc => ?_) (fun hc => ?_)
            · unfold s_X3_isSo_114
              exact ok_some trivial
            · unfold s_X3_isSo_109
              unfold s_X3_isSo_114
              exact ok_some trivial
        · refine ok_ite (fun hc => ?_) (fun hc => ?_)
          · refine ok_ite (fun hc => ?_) (fun hc => ?_)
            · unfold s_X3_isSo_131
              exact ok_some trivial
            · unfold s_X3_isSo_131
              exact ok_some trivial
          · refine ok_ite (fun hc => ?_) (fun hc => ?_)
            · refine ok_bind (a_X1_pullOf) ?_
              rintro q hq
              refine ok_ite (fun hc => ?_) (fun hc => ?_)
              · unfold s_X3_isSo_149
                exact ok_some trivial
              · unfold s_X3_isSo_149
                exact ok_some trivial
            · refine ok_ite (fun hc => ?_) (fun hc => ?_)
              · unfold s_X3_isSo_168
                exact ok_some trivial
              · unfold s_X3_isSo_168
                exact ok_some trivial
theorem a_X3_priceOf_R5 {g : Nat → Nat → Nat → Int32} {w : Nat → Nat → Nat → Int64}  {hb : Nat} {p1 p2 : Nat} : ∀ (n : Nat) (v3 : Int64) (k : Nat), (k ≤ 12) → 20 - k < n → Ok (s_X3_priceOf_R5 hb p1 p2 n v3 (I k) g w) (fun _ => True) := by
  intro n
  induction n with
  | zero => intro v3 k h1 hm; omega
  | succ n ih =>
    intro v3 k h1 hm
    show Ok (s_X3_priceOf_5 hb p1 p2 (s_X3_priceOf_R5 hb p1 p2 n) v3 (I k) g w) _
    unfold s_X3_priceOf_5
    refine ok_ite (fun hc => ?_) (fun hc => ?_)
    · unfold s_X3_priceOf_87
      exact ok_some trivial
    · refine ok_ite (fun hc => ?_) (fun hc => ?_)
      · unfold s_X3_priceOf_87
        exact ok_some trivial
      · have hk := I_nle (b := 12) (by decide) (by omega) hc
        have etn := I_tn (k := k) (by omega)
        refine ok_gd (by exact inR_I (by omega) (by omega)) ?_
        refine ok_gd (by exact inR_I (by omega) (by omega)) ?_
        refine ok_bind (a_X3_isSo) ?_
        rintro q hq
        refine ok_ite (fun hc => ?_) (fun hc => ?_)
        · refine ok_gd (by exact inR_I (by omega) (by omega)) ?_
          refine ok_ite (fun hc => ?_) (fun hc => ?_)
          · refine ok_gd (by exact inR_I (by omega) (by omega)) ?_
            unfold s_X3_priceOf_79
            unfold s_X3_priceOf_81
            (repeat rw [I_suc])
            exact ih _ _ (by omega) (by omega)
          · refine ok_gd (by exact inR_I (by omega) (by omega)) ?_
            unfold s_X3_priceOf_79
            unfold s_X3_priceOf_81
            (repeat rw [I_suc])
            exact ih _ _ (by omega) (by omega)
        · unfold s_X3_priceOf_81
          (repeat rw [I_suc])
          exact ih _ _ (by omega) (by omega)
theorem a_X3_priceOf {g : Nat → Nat → Nat → Int32} {w : Nat → Nat → Nat → Int64}  {hb : Nat} {p1 p2 : Nat} : Ok (s_X3_priceOf hb p1 p2 g w) (fun _ => True) := by
  unfold s_X3_priceOf
  exact a_X3_priceOf_R5 FU _ 0 (by decide) (by decide)
theorem a_X1_basinHours_R16 {g : Nat → Nat → Nat → Int32} {w : Nat → Nat → Nat → Int64}  {hb : Nat} {p1 : Nat} : ∀ (n : Nat) (v2 : Int64) (k : Nat), (k ≤ 8) → 99 - k < n → Ok (s_X1_basinHours_R16 hb p1 n v2 (I k) g w) (fun _ => True) := by
  intro n
  induction n with
  | zero => intro v2 k h1 hm; omega
  | succ n ih =>
    intro v2 k h1 hm
    show Ok (s_X1_basinHours_16 hb p1 (s_X1_basinHours_R16 hb p1 n) v2 (I k) g w) _
    unfold s_X1_basinHours_16
    refine ok_ite (fun hc => ?_) (fun hc => ?_)
    · exact ok_some trivial
    · have hk := I_nle (b := 8) (by decide) (by omega) hc
      have etn := I_tn (k := k) (by omega)
      refine ok_gd (by exact inR_I (by omega) (by omega)) ?_
      refine ok_ite (fun hc => ?_) (fun hc => ?_)
      · refine ok_bind (a_X0_shareBasin) ?_
        rintro q hq
        refine ok_ite (fun hc => ?_) (fun hc => ?_)
        · unfold s_X1_basinHours_59
          (repeat rw [I_suc])
          exact ih _ _ (by omega) (by omega)
        · unfold s_X1_basinHours_59
          (repeat rw [I_suc])
          exact ih _ _ (by omega) (by omega)
      · unfold s_X1_basinHours_59
        (repeat rw [I_suc])
        exact ih _ _ (by omega) (by omega)
theorem a_X1_basinHours {g : Nat → Nat → Nat → Int32} {w : Nat → Nat → Nat → Int64}  {hb : Nat} {p1 : Nat} : Ok (s_X1_basinHours hb p1 g w) (fun _ => True) := by
  unfold s_X1_basinHours
  exact a_X1_basinHours_R16 FU _ 0 (by decide) (by decide)
theorem a_X1_holdsFor {g : Nat → Nat → Nat → Int32} {w : Nat → Nat → Nat → Int64} (hI : InvG g) {hb : Nat} {t : Nat} (ht : t < 6) {p1 : Int32} {p3 : Nat} {p4 : Int32} : Ok (s_X1_holdsFor hb p1 (I t) p3 p4 g w) (fun _ => True) := by
  unfold s_X1_holdsFor
  refine ok_gd (by exact inR_I (by omega) (by omega)) ?_
  refine ok_ite (fun hc => ?_) (fun hc => ?_)
  · exact ok_some trivial
  · refine ok_ite (fun hc => ?_) (fun hc => ?_)
    · refine ok_bind (a_X5_fuelLasts) ?_
      rintro q hq
      exact ok_some trivial
    · refine ok_ite (fun hc => ?_) (fun hc => ?_)
      · refine ok_bind (a_X5_crewRests hI) ?_
        rintro q hq
        exact ok_some trivial
      · refine ok_ite (fun hc => ?_) (fun hc => ?_)
        · refine ok_ite (fun hc => ?_) (fun hc => ?_)
          · unfold s_X1_holdsFor_110
            exact ok_some trivial
          · unfold s_X1_holdsFor_110
            exact ok_some trivial
        · refine ok_bind (a_X1_canBeThere (by omega)) ?_
          rintro q hq
          exact ok_some trivial
theorem a_X1_holdsForEach_R3 {g : Nat → Nat → Nat → Int32} {w : Nat → Nat → Nat → Int64} (hI : InvG g) {hb : Nat} {p1 : Int32} {p2 : Nat} {p3 p4 : Int32} : ∀ (n : Nat) (k : Nat), (k ≤ 6) → 20 - k < n → Ok (s_X1_holdsForEach_R3 hb p1 p2 p3 p4 n (I k) g w) (fun _ => True) := by
  intro n
  induction n with
  | zero => intro k h1 hm; omega
  | succ n ih =>
    intro k h1 hm
    show Ok (s_X1_holdsForEach_3 hb p1 p2 p3 p4 (s_X1_holdsForEach_R3 hb p1 p2 p3 p4 n) (I k) g w) _
    unfold s_X1_holdsForEach_3
    refine ok_ite (fun hc => ?_) (fun hc => ?_)
    · exact ok_some trivial
    · have hk := I_nle (b := 6) (by decide) (by omega) hc
      have etn := I_tn (k := k) (by omega)
      refine ok_ite (fun hc => ?_) (fun hc => ?_)
      · refine ok_bind (a_X1_holdsFor hI (by omega)) ?_
        rintro q hq
        refine ok_ite (fun hc => ?_) (fun hc => ?_)
        · unfold s_X1_holdsForEach_37
          (repeat rw [I_suc])
          exact ih _ (by omega) (by omega)
        · exact ok_some trivial
      · unfold s_X1_holdsForEach_37
        (repeat rw [I_suc])
        exact ih _ (by omega) (by omega)
theorem a_X1_holdsForEach {g : Nat → Nat → Nat → Int32} {w : Nat → Nat → Nat → Int64} (hI : InvG g) {hb : Nat} {p1 : Int32} {p2 : Nat} {p3 p4 : Int32} : Ok (s_X1_holdsForEach hb p1 p2 p3 p4 g w) (fun _ => True) := by
  unfold s_X1_holdsForEach
  exact a_X1_holdsForEach_R3 hI FU 0 (by decide) (by decide)
theorem a_X1_holds {g : Nat → Nat → Nat → Int32} {w : Nat → Nat → Nat → Int64} (hI : InvG g) {hb : Nat} {p1 : Int32} {p2 : Nat} {h : Nat} (hh : h ≤ 48) {p4 : Int32} : Ok (s_X1_holds hb p1 p2 (I h) p4 g w) (fun _ => True) := by
  unfold s_X1_holds
  refine ok_ite (fun hc => ?_) (fun hc => ?_)
  · exact ok_some trivial
  · refine ok_ite (fun hc => ?_) (fun hc => ?_)
    · refine ok_bind (a_X1_lowHours) ?_
      rintro q hq
      refine ok_ite (fun hc => ?_) (fun hc => ?_)
      · unfold s_X1_holds_91
        exact ok_some trivial
      · unfold s_X1_holds_91
        exact ok_some trivial
    · refine ok_ite (fun hc => ?_) (fun hc => ?_)
      · refine ok_bind (a_X1_pullOf) ?_
        rintro q hq
        refine ok_bind (a_X1_mostNeeded (by omega)) ?_
        rintro q hq
        refine ok_ite (fun hc => ?_) (fun hc => ?_)
        · unfold s_X1_holds_120
          exact ok_some trivial
        · unfold s_X1_holds_120
          exact ok_some trivial
      · refine ok_ite (fun hc => ?_) (fun hc => ?_)
        · refine ok_bind (a_X1_canPullAstern) ?_
          rintro q hq
          exact ok_some trivial
        · refine ok_ite (fun hc => ?_) (fun hc => ?_)
          · refine ok_bind (a_X1_basinHours) ?_
            rintro q hq
            refine ok_ite (fun hc => ?_) (fun hc => ?_)
            · unfold s_X1_holds_149
              exact ok_some trivial
            · unfold s_X1_holds_149
              exact ok_some trivial
          · refine ok_ite (fun hc => ?_) (fun hc => ?_)
            · refine ok_ite (fun hc => ?_) (fun hc => ?_)
              · unfold s_X1_holds_168
                unfold s_X1_holds_173
                exact ok_some trivial
              · refine ok_bind (a_X1_isGuarded hI (by omega)) ?_
                rintro q hq
                refine ok_ite (fun hc => ?_) (fun hc => ?_)
                · unfold s_X1_holds_168
                  unfold s_X1_holds_173
                  exact ok_some trivial
                · unfold s_X1_holds_173
                  exact ok_some trivial
            · refine ok_ite (fun hc => ?_) (fun hc => ?_)
              · refine ok_ite (fun hc => ?_) (fun hc => ?_)
                · unfold s_X1_holds_194
                  exact ok_some trivial
                · unfold s_X1_holds_194
                  exact ok_some trivial
              · unfold s_X1_holds_195
                refine ok_bind (a_X1_holdsForEach hI) ?_
                rintro q hq
                exact ok_some trivial
theorem a_X1_failsBy_R3 {g : Nat → Nat → Nat → Int32} {w : Nat → Nat → Nat → Int64} (hI : InvG g) {hb : Nat} {p1 : Nat} {h : Nat} (hh : h ≤ 48) {p3 : Int32} : ∀ (n : Nat) (k : Nat), (k ≤ 13) → 20 - k < n → Ok (s_X1_failsBy_R3 hb p1 (I h) p3 n (I k) g w) (fun _ => True) := by
  intro n
  induction n with
  | zero => intro k h1 hm; omega
  | succ n ih =>
    intro k h1 hm
    show Ok (s_X1_failsBy_3 hb p1 (I h) p3 (s_X1_failsBy_R3 hb p1 (I h) p3 n) (I k) g w) _
    unfold s_X1_failsBy_3
    refine ok_ite (fun hc => ?_) (fun hc => ?_)
    · exact ok_some trivial
    · have hk : k ≤ 12 := by
        have q := mt (I_lt (a := 12) (b := k) (by decide) (by omega)).mpr hc
        omega
      refine ok_bind (a_X1_holds hI (by omega)) ?_
      rintro q hq
      refine ok_ite (fun hc => ?_) (fun hc => ?_)
      · (repeat rw [I_suc])
        exact ih _ (by omega) (by omega)
      · exact ok_some trivial
theorem a_X1_failsBy {g : Nat → Nat → Nat → Int32} {w : Nat → Nat → Nat → Int64} (hI : InvG g) {hb : Nat} {p1 : Nat} {h : Nat} (hh : h ≤ 48) {p3 : Int32} : Ok (s_X1_failsBy hb p1 (I h) p3 g w) (fun _ => True) := by
  unfold s_X1_failsBy
  exact a_X1_failsBy_R3 hI hh FU 1 (by decide) (by decide)
theorem a_X1_tugsFor_R12 {g : Nat → Nat → Nat → Int32} {w : Nat → Nat → Nat → Int64} (hI : InvG g) {hb : Nat} {p1 : Nat} {p2 : Int32} : ∀ (n : Nat) (v3 : Int32) (v4 : Int64) (k : Nat), (k ≤ 6) → (∃ a, a ≤ 63 ∧ v3 = I a) → 20 - k < n → Ok (s_X1_tugsFor_R12 hb p1 p2 n v3 v4 (I k) g w) (fun r => ∃ a, a ≤ 63 ∧ r = I a) := by
  intro n
  induction n with
  | zero => intro v3 v4 k h1 h2 hm; omega
  | succ n ih =>
    intro v3 v4 k h1 h2 hm
    show Ok (s_X1_tugsFor_12 hb p1 p2 (s_X1_tugsFor_R12 hb p1 p2 n) v3 v4 (I k) g w) _
    unfold s_X1_tugsFor_12
    refine ok_ite (fun hc => ?_) (fun hc => ?_)
    · unfold s_X1_tugsFor_124
      exact ok_some (by first | (exact h2))
    · refine ok_ite (fun hc => ?_) (fun hc => ?_)
      · unfold s_X1_tugsFor_124
        exact ok_some (by first | (exact h2))
      · have hk := I_nle (b := 6) (by decide) (by omega) hc
        have etn := I_tn (k := k) (by omega)
        refine ok_gd (by exact inR_I (by omega) (by omega)) ?_
        refine ok_ite (fun hc => ?_) (fun hc => ?_)
        · refine ok_ite (fun hc => ?_) (fun hc => ?_)
          · unfold s_X1_tugsFor_118
            (repeat rw [I_suc])
            exact ih _ _ _ (by omega) (by first | exact h2 | (obtain ⟨a, ha, rfl⟩ := h2; exact or63 ha (by omega))) (by omega)
          · refine ok_bind (a_X1_canBeThere (by omega)) ?_
            rintro q hq
            refine ok_ite (fun hc => ?_) (fun hc => ?_)
            · refine ok_bind (a_X5_crewRests hI) ?_
              rintro q hq
              refine ok_ite (fun hc => ?_) (fun hc => ?_)
              · refine ok_bind (a_X5_fuelLasts) ?_
                rintro q hq
                refine ok_ite (fun hc => ?_) (fun hc => ?_)
                · unfold s_X1_tugsFor_118
                  (repeat rw [I_suc])
                  exact ih _ _ _ (by omega) (by first | exact h2 | (obtain ⟨a, ha, rfl⟩ := h2; exact or63 ha (by omega))) (by omega)
                · unfold s_X1_tugsFor_118
                  (repeat rw [I_suc])
                  exact ih _ _ _ (by omega) (by first | exact h2 | (obtain ⟨a, ha, rfl⟩ := h2; exact or63 ha (by omega))) (by omega)
              · unfold s_X1_tugsFor_118
                (repeat rw [I_suc])
                exact ih _ _ _ (by omega) (by first | exact h2 | (obtain ⟨a, ha, rfl⟩ := h2; exact or63 ha (by omega))) (by omega)
            · unfold s_X1_tugsFor_118
              (repeat rw [I_suc])
              exact ih _ _ _ (by omega) (by first | exact h2 | (obtain ⟨a, ha, rfl⟩ := h2; exact or63 ha (by omega))) (by omega)
        · unfold s_X1_tugsFor_118
          (repeat rw [I_suc])
          exact ih _ _ _ (by omega) (by first | exact h2 | (obtain ⟨a, ha, rfl⟩ := h2; exact or63 ha (by omega))) (by omega)
theorem a_X1_tugsFor {g : Nat → Nat → Nat → Int32} {w : Nat → Nat → Nat → Int64} (hI : InvG g) {hb : Nat} {p1 : Nat} {p2 : Int32} : Ok (s_X1_tugsFor hb p1 p2 g w) (fun r => ∃ a, a ≤ 63 ∧ r = I a) := by
  unfold s_X1_tugsFor
  exact a_X1_tugsFor_R12 hI FU _ _ 0 (by decide) ⟨0, by decide, rfl⟩ (by decide)
theorem a_X1_leastSet_R42 {g : Nat → Nat → Nat → Int32} {w : Nat → Nat → Nat → Int64} (hI : InvG g) {hb : Nat} {p1 : Nat} {h : Nat} (hh : h ≤ 48) {a : Nat} (ha : a ≤ 63) {v4 : Int32} : ∀ (n : Nat) (v5 : Int32) (k : Nat), (k ≤ 64) → 99 - k < n → Ok (s_X1_leastSet_R42 hb p1 (I h) (I a) n v4 v5 (I k) g w) (fun _ => True) := by
  intro n
  induction n with
  | zero => intro v5 k h1 hm; omega
  | succ n ih =>
    intro v5 k h1 hm
    show Ok (s_X1_leastSet_42 hb p1 (I h) (I a) (s_X1_leastSet_R42 hb p1 (I h) (I a) n) v4 v5 (I k) g w) _
    unfold s_X1_leastSet_42
    refine ok_ite (fun hc => ?_) (fun hc => ?_)
    · exact ok_some trivial
    · have hk : k ≤ a := by
        have q := mt (I_lt (a := a) (b := k) (by omega) (by omega)).mpr hc
        omega
      refine ok_ite (fun hc => ?_) (fun hc => ?_)
      · unfold s_X1_leastSet_115
        (repeat rw [I_suc])
        exact ih _ _ (by omega) (by omega)
      · refine ok_bind (a_X1_pullOf) ?_
        rintro q hq
        refine ok_ite (fun hc => ?_) (fun hc => ?_)
        · unfold s_X1_leastSet_115
          (repeat rw [I_suc])
          exact ih _ _ (by omega) (by omega)
        · refine ok_bind (a_X1_canPullAstern) ?_
          rintro q hq
          refine ok_ite (fun hc => ?_) (fun hc => ?_)
          · refine ok_ite (fun hc => ?_) (fun hc => ?_)
            · unfold s_X1_leastSet_93
              refine ok_ite (fun hc => ?_) (fun hc => ?_)
              · unfold s_X1_leastSet_111
                unfold s_X1_leastSet_115
                (repeat rw [I_suc])
                exact ih _ _ (by omega) (by omega)
              · refine ok_bind (a_X1_isGuarded hI (by omega)) ?_
                rintro q hq
                refine ok_ite (fun hc => ?_) (fun hc => ?_)
                · unfold s_X1_leastSet_111
                  unfold s_X1_leastSet_115
                  (repeat rw [I_suc])
                  exact ih _ _ (by omega) (by omega)
                · unfold s_X1_leastSet_115
                  (repeat rw [I_suc])
                  exact ih _ _ (by omega) (by omega)
            · refine ok_bind (a_X1_isLess) ?_
              rintro q hq
              refine ok_ite (fun hc => ?_) (fun hc => ?_)
              · unfold s_X1_leastSet_93
                refine ok_ite (fun hc => ?_) (fun hc => ?_)
                · unfold s_X1_leastSet_111
                  unfold s_X1_leastSet_115
                  (repeat rw [I_suc])
                  exact ih _ _ (by omega) (by omega)
                · refine ok_bind (a_X1_isGuarded hI (by omega)) ?_
                  rintro q hq
                  refine ok_ite (fun hc => ?_) (fun hc => ?_)
                  · unfold s_X1_leastSet_111
                    unfold s_X1_leastSet_115
                    (repeat rw [I_suc])
                    exact ih _ _ (by omega) (by omega)
                  · unfold s_X1_leastSet_115
                    (repeat rw [I_suc])
                    exact ih _ _ (by omega) (by omega)
              · unfold s_X1_leastSet_115
                (repeat rw [I_suc])
                exact ih _ _ (by omega) (by omega)
          · unfold s_X1_leastSet_115
            (repeat rw [I_suc])
            exact ih _ _ (by omega) (by omega)
theorem a_X1_leastSet {g : Nat → Nat → Nat → Int32} {w : Nat → Nat → Nat → Int64} (hI : InvG g) {hb : Nat} {p1 : Nat} {h : Nat} (hh : h ≤ 48) {a : Nat} (ha : a ≤ 63) : Ok (s_X1_leastSet hb p1 (I h) (I a) g w) (fun _ => True) := by
  unfold s_X1_leastSet
  refine ok_bind (a_X1_mostNeeded (by omega)) ?_
  rintro q hq
  refine ok_bind (a_X1_pullOf) ?_
  rintro q hq
  refine ok_ite (fun hc => ?_) (fun hc => ?_)
  · unfold s_X1_leastSet_34
    exact ok_some trivial
  · refine ok_bind (a_X1_canPullAstern) ?_
    rintro q hq
    refine ok_ite (fun hc => ?_) (fun hc => ?_)
    · exact a_X1_leastSet_R42 hI hh ha FU _ 1 (by decide) (by decide)
    · unfold s_X1_leastSet_34
      exact ok_some trivial
theorem a_X1_goesOn {g : Nat → Nat → Nat → Int32} {w : Nat → Nat → Nat → Int64}  {hb : Nat} {p1 : Nat} {p2 : Int32} {h : Nat} (hh : h ≤ 48) : Ok (s_X1_goesOn hb p1 p2 (I h) g w) (fun _ => True) := by
  unfold s_X1_goesOn
  refine ok_ite (fun hc => ?_) (fun hc => ?_)
  · unfold s_X1_goesOn_50
    unfold s_X1_goesOn_51
    exact ok_some trivial
  · refine ok_ite (fun hc => ?_) (fun hc => ?_)
    · unfold s_X1_goesOn_50
      unfold s_X1_goesOn_51
      exact ok_some trivial
    · refine ok_bind (a_X1_pullOf) ?_
      rintro q hq
      refine ok_bind (a_X1_mostNeeded (by omega)) ?_
      rintro q hq
      refine ok_ite (fun hc => ?_) (fun hc => ?_)
      · unfold s_X1_goesOn_50
        unfold s_X1_goesOn_51
        exact ok_some trivial
      · unfold s_X1_goesOn_51
        exact ok_some trivial
