/-! the reference: its changing functions never answer none, and change what jobs change -/
section
variable {g' g : Nat → Nat → Nat → Int32} {w' w : Nat → Nat → Nat → Int64}
theorem ix_6 {k : Nat} : (6 : Int32) + (2 : Int32) * I k = I (6 + 2 * k) := by rw [i_6, i_2, I_mul, I_add]
theorem ix_7 {k : Nat} : (7 : Int32) + (2 : Int32) * I k = I (7 + 2 * k) := by rw [i_7, i_2, I_mul, I_add]
theorem gd_ash (h : Gd g' w' g w) {k : Nat} (hk : k < 8) : Gd g' w' g (wL w 2022 0 ((6 : Int32) + (2 : Int32) * I k).toNatClampNeg (w 2218 0 (((130 : Int32) + (11 : Int32) * I k) + (7 : Int32)).toNatClampNeg)) := by
  rw [ix_6, I_tn (by omega), i_7, ix_ship, I_tn (by omega)]
  refine gd_asd h ?_
  rw [show wk 2022 0 (6 + 2 * k) = 8 from by unfold wk; rw [if_pos rfl, if_neg (by decide), if_pos rfl, if_pos (by omega)]]
  exact gd_hrg h
theorem gd_as7 (h : Gd g' w' g w) {k : Nat} {x : Int64} (hk : k < 8) : Gd g' w' g (wL w 2022 0 ((7 : Int32) + (2 : Int32) * I k).toNatClampNeg x) := by
  rw [ix_7, I_tn (by omega)]
  refine gd_asd h ?_
  rw [show wk 2022 0 (7 + 2 * k) = 0 from by unfold wk; rw [if_pos rfl, if_neg (by decide), if_pos rfl, if_neg (by omega)]]
  exact rgw_0 _
theorem gd_as0 (h : Gd g' w' g w) {k : Nat} {x : Int64} (hk : k < 6) : Gd g' w' g (wL w 2022 0 (I k).toNatClampNeg x) := by
  rw [I_tn (by omega)]
  refine gd_asd h ?_
  rw [show wk 2022 0 k = 0 from by unfold wk; rw [if_pos rfl, if_neg (by decide), if_pos rfl, if_neg (by omega)]]
  exact rgw_0 _
theorem gd_rth (h : Gd g' w' g w) {k : Nat} (hk : k < 8) : Gd g' w' g (wL w 2218 0 (((130 : Int32) + (11 : Int32) * I k) + (7 : Int32)).toNatClampNeg (w 2022 0 ((6 : Int32) + (2 : Int32) * I k).toNatClampNeg)) := by
  refine gd_hour h hk ?_
  rw [ix_6, I_tn (by omega)]
  exact gd_arg h
theorem and7 (x : Int32) : ∃ s, s < 8 ∧ x &&& 7 = I s := by
  have e : (x &&& (7 : Int32)).toBitVec = x.toBitVec &&& 7#32 := rfl
  have h : (x.toBitVec &&& 7#32).toNat < 8 := by
    rw [BitVec.toNat_and]
    exact Nat.lt_succ_of_le Nat.and_le_right
  refine ⟨(x.toBitVec &&& 7#32).toNat, h, ?_⟩
  apply Int32.toBitVec_inj.mp
  rw [e]
  show _ = BitVec.ofNat 32 _
  exact (BitVec.ofNat_toNat 32 _ ▸ (BitVec.setWidth_eq _).symm)
theorem or63 {a t : Nat} (ha : a ≤ 63) (ht : t < 6) : ∃ b, b ≤ 63 ∧ I a ||| ((1 : Int32) <<< (I t &&& 31)) = I b := by
  have : ∀ a, a < 64 → ∀ t, t < 6 → I a ||| ((1 : Int32) <<< (I t &&& 31)) = I (a ||| (1 <<< t)) ∧ (a ||| (1 <<< t)) ≤ 63 := by decide +kernel
  exact ⟨_, (this a (by omega) t ht).2, (this a (by omega) t ht).1⟩
theorem or0 (x : Int32) : x ||| 0 = x := Int32.or_zero
end
theorem a_X7_asides_R37 {g' : Nat → Nat → Nat → Int32} {w' : Nat → Nat → Nat → Int64} : ∀ (n : Nat) (k : Nat) (g : Nat → Nat → Nat → Int32) (w : Nat → Nat → Nat → Int64), (k ≤ 8) → (Gd g' w' g w) → 9 - k < n → Ok (s_X7_asides_R37 0 n (I k) g w) (fun r => Gd g' w' r.1 r.2) := by
  intro n
  induction n with
  | zero => intro k g w h1 hG hm; omega
  | succ n ih =>
    intro k g w h1 hG hm
    show Ok (s_X7_asides_37 0 (s_X7_asides_R37 0 n) (I k) g w) _
    unfold s_X7_asides_37
    refine ok_ite (fun hc => ?_) (fun hc => ?_)
    · exact ok_some ((by assumption))
    · have hk := I_nle (b := 8) (by decide) (by omega) hc
      refine ok_gd (by (first | exact inR_I (by omega) (by omega) | (simp only [i_0, i_1, i_2, i_3, i_4, i_5, i_6, i_7, i_8, i_9, i_10, i_11, i_12, i_13, i_24, i_47, i_48, i_60, i_61, i_62, i_63, i_64, i_65, i_70, i_130, i_218, I_mul, I_add]; exact inR_I (by omega) (by omega)) | exact rem12 (by omega) (by decide) (by decide))) ?_
      refine ok_gd (by (first | exact inR_I (by omega) (by omega) | (simp only [i_0, i_1, i_2, i_3, i_4, i_5, i_6, i_7, i_8, i_9, i_10, i_11, i_12, i_13, i_24, i_47, i_48, i_60, i_61, i_62, i_63, i_64, i_65, i_70, i_130, i_218, I_mul, I_add]; exact inR_I (by omega) (by omega)) | exact rem12 (by omega) (by decide) (by decide))) ?_
      refine ok_gd (by (first | exact inR_I (by omega) (by omega) | (simp only [i_0, i_1, i_2, i_3, i_4, i_5, i_6, i_7, i_8, i_9, i_10, i_11, i_12, i_13, i_24, i_47, i_48, i_60, i_61, i_62, i_63, i_64, i_65, i_70, i_130, i_218, I_mul, I_add]; exact inR_I (by omega) (by omega)) | exact rem12 (by omega) (by decide) (by decide))) ?_
      refine ok_gd (by (first | exact inR_I (by omega) (by omega) | (simp only [i_0, i_1, i_2, i_3, i_4, i_5, i_6, i_7, i_8, i_9, i_10, i_11, i_12, i_13, i_24, i_47, i_48, i_60, i_61, i_62, i_63, i_64, i_65, i_70, i_130, i_218, I_mul, I_add]; exact inR_I (by omega) (by omega)) | exact rem12 (by omega) (by decide) (by decide))) ?_
      (repeat rw [I_suc])
      exact ih _ _ _ (by omega) (gd_as7 (gd_ash (by assumption) (by omega)) (by omega)) (by omega)
theorem a_X7_asides_R2 {g' : Nat → Nat → Nat → Int32} {w' : Nat → Nat → Nat → Int64} : ∀ (n : Nat) (k : Nat) (g : Nat → Nat → Nat → Int32) (w : Nat → Nat → Nat → Int64), (k ≤ 6) → (Gd g' w' g w) → 9 - k < n → Ok (s_X7_asides_R2 0 n (I k) g w) (fun r => Gd g' w' r.1 r.2) := by
  intro n
  induction n with
  | zero => intro k g w h1 hG hm; omega
  | succ n ih =>
    intro k g w h1 hG hm
    show Ok (s_X7_asides_2 0 (s_X7_asides_R2 0 n) (I k) g w) _
    unfold s_X7_asides_2
    refine ok_ite (fun hc => ?_) (fun hc => ?_)
    · exact a_X7_asides_R37 FU 0 _ _ (by decide) hG (by decide)
    · have hk := I_nle (b := 6) (by decide) (by omega) hc
      refine ok_gd (by (first | exact inR_I (by omega) (by omega) | (simp only [i_0, i_1, i_2, i_3, i_4, i_5, i_6, i_7, i_8, i_9, i_10, i_11, i_12, i_13, i_24, i_47, i_48, i_60, i_61, i_62, i_63, i_64, i_65, i_70, i_130, i_218, I_mul, I_add]; exact inR_I (by omega) (by omega)) | exact rem12 (by omega) (by decide) (by decide))) ?_
      refine ok_gd (by (first | exact inR_I (by omega) (by omega) | (simp only [i_0, i_1, i_2, i_3, i_4, i_5, i_6, i_7, i_8, i_9, i_10, i_11, i_12, i_13, i_24, i_47, i_48, i_60, i_61, i_62, i_63, i_64, i_65, i_70, i_130, i_218, I_mul, I_add]; exact inR_I (by omega) (by omega)) | exact rem12 (by omega) (by decide) (by decide))) ?_
      (repeat rw [I_suc])
      exact ih _ _ _ (by omega) (gd_as0 (by assumption) (by omega)) (by omega)
theorem a_X7_asides {g' : Nat → Nat → Nat → Int32} {w' : Nat → Nat → Nat → Int64} {g : Nat → Nat → Nat → Int32} {w : Nat → Nat → Nat → Int64} (hG : Gd g' w' g w) : Ok (s_X7_asides 0 g w) (fun r => Gd g' w' r.1 r.2) := by
  unfold s_X7_asides
  exact a_X7_asides_R2 FU 0 _ _ (by decide) hG (by decide)
theorem a_X7_returns_R37 {g' : Nat → Nat → Nat → Int32} {w' : Nat → Nat → Nat → Int64} : ∀ (n : Nat) (k : Nat) (g : Nat → Nat → Nat → Int32) (w : Nat → Nat → Nat → Int64), (k ≤ 8) → (Gd g' w' g w) → 9 - k < n → Ok (s_X7_returns_R37 0 n (I k) g w) (fun r => Gd g' w' r.1 r.2) := by
  intro n
  induction n with
  | zero => intro k g w h1 hG hm; omega
  | succ n ih =>
    intro k g w h1 hG hm
    show Ok (s_X7_returns_37 0 (s_X7_returns_R37 0 n) (I k) g w) _
    unfold s_X7_returns_37
    refine ok_ite (fun hc => ?_) (fun hc => ?_)
    · exact ok_some ((by assumption))
    · have hk := I_nle (b := 8) (by decide) (by omega) hc
      refine ok_gd (by (first | exact inR_I (by omega) (by omega) | (simp only [i_0, i_1, i_2, i_3, i_4, i_5, i_6, i_7, i_8, i_9, i_10, i_11, i_12, i_13, i_24, i_47, i_48, i_60, i_61, i_62, i_63, i_64, i_65, i_70, i_130, i_218, I_mul, I_add]; exact inR_I (by omega) (by omega)) | exact rem12 (by omega) (by decide) (by decide))) ?_
      refine ok_gd (by (first | exact inR_I (by omega) (by omega) | (simp only [i_0, i_1, i_2, i_3, i_4, i_5, i_6, i_7, i_8, i_9, i_10, i_11, i_12, i_13, i_24, i_47, i_48, i_60, i_61, i_62, i_63, i_64, i_65, i_70, i_130, i_218, I_mul, I_add]; exact inR_I (by omega) (by omega)) | exact rem12 (by omega) (by decide) (by decide))) ?_
      refine ok_gd (by (first | exact inR_I (by omega) (by omega) | (simp only [i_0, i_1, i_2, i_3, i_4, i_5, i_6, i_7, i_8, i_9, i_10, i_11, i_12, i_13, i_24, i_47, i_48, i_60, i_61, i_62, i_63, i_64, i_65, i_70, i_130, i_218, I_mul, I_add]; exact inR_I (by omega) (by omega)) | exact rem12 (by omega) (by decide) (by decide))) ?_
      refine ok_gd (by (first | exact inR_I (by omega) (by omega) | (simp only [i_0, i_1, i_2, i_3, i_4, i_5, i_6, i_7, i_8, i_9, i_10, i_11, i_12, i_13, i_24, i_47, i_48, i_60, i_61, i_62, i_63, i_64, i_65, i_70, i_130, i_218, I_mul, I_add]; exact inR_I (by omega) (by omega)) | exact rem12 (by omega) (by decide) (by decide))) ?_
      (repeat rw [I_suc])
      exact ih _ _ _ (by omega) (gd_set (gd_rth (by assumption) (by omega)) (by omega)) (by omega)
theorem a_X7_returns_R2 {g' : Nat → Nat → Nat → Int32} {w' : Nat → Nat → Nat → Int64} : ∀ (n : Nat) (k : Nat) (g : Nat → Nat → Nat → Int32) (w : Nat → Nat → Nat → Int64), (k ≤ 6) → (Gd g' w' g w) → 9 - k < n → Ok (s_X7_returns_R2 0 n (I k) g w) (fun r => Gd g' w' r.1 r.2) := by
  intro n
  induction n with
  | zero => intro k g w h1 hG hm; omega
  | succ n ih =>
    intro k g w h1 hG hm
    show Ok (s_X7_returns_2 0 (s_X7_returns_R2 0 n) (I k) g w) _
    unfold s_X7_returns_2
    refine ok_ite (fun hc => ?_) (fun hc => ?_)
    · exact a_X7_returns_R37 FU 0 _ _ (by decide) hG (by decide)
    · have hk := I_nle (b := 6) (by decide) (by omega) hc
      refine ok_gd (by (first | exact inR_I (by omega) (by omega) | (simp only [i_0, i_1, i_2, i_3, i_4, i_5, i_6, i_7, i_8, i_9, i_10, i_11, i_12, i_13, i_24, i_47, i_48, i_60, i_61, i_62, i_63, i_64, i_65, i_70, i_130, i_218, I_mul, I_add]; exact inR_I (by omega) (by omega)) | exact rem12 (by omega) (by decide) (by decide))) ?_
      refine ok_gd (by (first | exact inR_I (by omega) (by omega) | (simp only [i_0, i_1, i_2, i_3, i_4, i_5, i_6, i_7, i_8, i_9, i_10, i_11, i_12, i_13, i_24, i_47, i_48, i_60, i_61, i_62, i_63, i_64, i_65, i_70, i_130, i_218, I_mul, I_add]; exact inR_I (by omega) (by omega)) | exact rem12 (by omega) (by decide) (by decide))) ?_
      (repeat rw [I_suc])
      exact ih _ _ _ (by omega) (gd_tugw (j := 8) (by assumption) (by omega) (by decide) (by decide)) (by omega)
theorem a_X7_returns {g' : Nat → Nat → Nat → Int32} {w' : Nat → Nat → Nat → Int64} {g : Nat → Nat → Nat → Int32} {w : Nat → Nat → Nat → Int64} (hG : Gd g' w' g w) : Ok (s_X7_returns 0 g w) (fun r => Gd g' w' r.1 r.2) := by
  unfold s_X7_returns
  exact a_X7_returns_R2 FU 0 _ _ (by decide) hG (by decide)
theorem a_X7_empties_R32 {g' : Nat → Nat → Nat → Int32} {w' : Nat → Nat → Nat → Int64} : ∀ (n : Nat) (k : Nat) (g : Nat → Nat → Nat → Int32) (w : Nat → Nat → Nat → Int64), (k ≤ 8) → (Gd g' w' g w) → 9 - k < n → Ok (s_X7_empties_R32 0 n (I k) g w) (fun r => Gd g' w' r.1 r.2) := by
  intro n
  induction n with
  | zero => intro k g w h1 hG hm; omega
  | succ n ih =>
    intro k g w h1 hG hm
    show Ok (s_X7_empties_32 0 (s_X7_empties_R32 0 n) (I k) g w) _
    unfold s_X7_empties_32
    refine ok_ite (fun hc => ?_) (fun hc => ?_)
    · exact ok_some ((by assumption))
    · have hk := ship_lt (gd_bk (by assumption)) (by omega) hc
      refine ok_gd (by (first | exact inR_I (by omega) (by omega) | (simp only [i_0, i_1, i_2, i_3, i_4, i_5, i_6, i_7, i_8, i_9, i_10, i_11, i_12, i_13, i_24, i_47, i_48, i_60, i_61, i_62, i_63, i_64, i_65, i_70, i_130, i_218, I_mul, I_add]; exact inR_I (by omega) (by omega)) | exact rem12 (by omega) (by decide) (by decide))) ?_
      refine ok_gd (by (first | exact inR_I (by omega) (by omega) | (simp only [i_0, i_1, i_2, i_3, i_4, i_5, i_6, i_7, i_8, i_9, i_10, i_11, i_12, i_13, i_24, i_47, i_48, i_60, i_61, i_62, i_63, i_64, i_65, i_70, i_130, i_218, I_mul, I_add]; exact inR_I (by omega) (by omega)) | exact rem12 (by omega) (by decide) (by decide))) ?_
      (repeat rw [I_suc])
      exact ih _ _ _ (by omega) (gd_set (gd_hour (by assumption) (by omega) m4_rg) (by omega)) (by omega)
theorem a_X7_empties_R2 {g' : Nat → Nat → Nat → Int32} {w' : Nat → Nat → Nat → Int64} : ∀ (n : Nat) (k : Nat) (g : Nat → Nat → Nat → Int32) (w : Nat → Nat → Nat → Int64), (k ≤ 6) → (Gd g' w' g w) → 9 - k < n → Ok (s_X7_empties_R2 0 n (I k) g w) (fun r => Gd g' w' r.1 r.2) := by
  intro n
  induction n with
  | zero => intro k g w h1 hG hm; omega
  | succ n ih =>
    intro k g w h1 hG hm
    show Ok (s_X7_empties_2 0 (s_X7_empties_R2 0 n) (I k) g w) _
    unfold s_X7_empties_2
    refine ok_ite (fun hc => ?_) (fun hc => ?_)
    · exact a_X7_empties_R32 FU 0 _ _ (by decide) hG (by decide)
    · have hk := I_nle (b := 6) (by decide) (by omega) hc
      refine ok_gd (by (first | exact inR_I (by omega) (by omega) | (simp only [i_0, i_1, i_2, i_3, i_4, i_5, i_6, i_7, i_8, i_9, i_10, i_11, i_12, i_13, i_24, i_47, i_48, i_60, i_61, i_62, i_63, i_64, i_65, i_70, i_130, i_218, I_mul, I_add]; exact inR_I (by omega) (by omega)) | exact rem12 (by omega) (by decide) (by decide))) ?_
      (repeat rw [I_suc])
      exact ih _ _ _ (by omega) (gd_tugw (j := 8) (by assumption) (by omega) (by decide) (by decide)) (by omega)
theorem a_X7_empties {g' : Nat → Nat → Nat → Int32} {w' : Nat → Nat → Nat → Int64} {g : Nat → Nat → Nat → Int32} {w : Nat → Nat → Nat → Int64} (hG : Gd g' w' g w) : Ok (s_X7_empties 0 g w) (fun r => Gd g' w' r.1 r.2) := by
  unfold s_X7_empties
  exact a_X7_empties_R2 FU 0 _ _ (by decide) hG (by decide)
theorem a_X7_lays_R39 {g' : Nat → Nat → Nat → Int32} {w' : Nat → Nat → Nat → Int64} {s : Nat} (hs : s < 8) {p2 p3 : Int32} : ∀ (n : Nat) (k : Nat) (g : Nat → Nat → Nat → Int32) (w : Nat → Nat → Nat → Int64), (k ≤ 6) → (Gd g' w' g w) → 9 - k < n → Ok (s_X7_lays_R39 0 (I s) p2 p3 n (I k) g w) (fun r => Gd g' w' r.1 r.2) := by
  intro n
  induction n with
  | zero => intro k g w h1 hG hm; omega
  | succ n ih =>
    intro k g w h1 hG hm
    show Ok (s_X7_lays_39 0 (I s) p2 p3 (s_X7_lays_R39 0 (I s) p2 p3 n) (I k) g w) _
    unfold s_X7_lays_39
    refine ok_ite (fun hc => ?_) (fun hc => ?_)
    · exact ok_some ((by assumption))
    · have hk := tug_lt (gd_bk (by assumption)) (by omega) hc
      refine ok_gd (by (first | exact inR_I (by omega) (by omega) | (simp only [i_0, i_1, i_2, i_3, i_4, i_5, i_6, i_7, i_8, i_9, i_10, i_11, i_12, i_13, i_24, i_47, i_48, i_60, i_61, i_62, i_63, i_64, i_65, i_70, i_130, i_218, I_mul, I_add]; exact inR_I (by omega) (by omega)) | exact rem12 (by omega) (by decide) (by decide))) ?_
      refine ok_ite (fun hc => ?_) (fun hc => ?_)
      · unfold s_X7_lays_96
        refine ok_gd (by (first | exact inR_I (by omega) (by omega) | (simp only [i_0, i_1, i_2, i_3, i_4, i_5, i_6, i_7, i_8, i_9, i_10, i_11, i_12, i_13, i_24, i_47, i_48, i_60, i_61, i_62, i_63, i_64, i_65, i_70, i_130, i_218, I_mul, I_add]; exact inR_I (by omega) (by omega)) | exact rem12 (by omega) (by decide) (by decide))) ?_
        (repeat rw [I_suc])
        exact ih _ _ _ (by omega) (gd_tugw (j := 8) (by assumption) (by omega) (by decide) (by decide)) (by omega)
      · refine ok_bind (a_len (gd_bk (by assumption)) (by omega)) ?_
        rintro _ ⟨a, ha, rfl⟩
        unfold s_X7_lays_96
        refine ok_gd (by (first | exact inR_I (by omega) (by omega) | (simp only [i_0, i_1, i_2, i_3, i_4, i_5, i_6, i_7, i_8, i_9, i_10, i_11, i_12, i_13, i_24, i_47, i_48, i_60, i_61, i_62, i_63, i_64, i_65, i_70, i_130, i_218, I_mul, I_add]; exact inR_I (by omega) (by omega)) | exact rem12 (by omega) (by decide) (by decide))) ?_
        (repeat rw [I_suc])
        exact ih _ _ _ (by omega) (gd_tugw (j := 8) (by assumption) (by omega) (by decide) (by decide)) (by omega)
theorem a_X7_lays {g' : Nat → Nat → Nat → Int32} {w' : Nat → Nat → Nat → Int64} {g : Nat → Nat → Nat → Int32} {w : Nat → Nat → Nat → Int64} (hG : Gd g' w' g w) {s : Nat} (hs : s < 8) {p2 p3 : Int32} (hp : ∃ k, k ≤ 47 ∧ p2 = I k) : Ok (s_X7_lays 0 (I s) p2 p3 g w) (fun r => Gd g' w' r.1 r.2) := by
  obtain ⟨hh0, hh, rfl⟩ := hp
  unfold s_X7_lays
  refine ok_gd (by (first | exact inR_I (by omega) (by omega) | (simp only [i_0, i_1, i_2, i_3, i_4, i_5, i_6, i_7, i_8, i_9, i_10, i_11, i_12, i_13, i_24, i_47, i_48, i_60, i_61, i_62, i_63, i_64, i_65, i_70, i_130, i_218, I_mul, I_add]; exact inR_I (by omega) (by omega)) | exact rem12 (by omega) (by decide) (by decide))) ?_
  refine ok_gd (by (first | exact inR_I (by omega) (by omega) | (simp only [i_0, i_1, i_2, i_3, i_4, i_5, i_6, i_7, i_8, i_9, i_10, i_11, i_12, i_13, i_24, i_47, i_48, i_60, i_61, i_62, i_63, i_64, i_65, i_70, i_130, i_218, I_mul, I_add]; exact inR_I (by omega) (by omega)) | exact rem12 (by omega) (by decide) (by decide))) ?_
  exact a_X7_lays_R39 hs FU 0 _ _ (by decide) (gd_set (gd_hour hG hs (I64_rg hh)) hs) (by decide)
theorem a_X7_takes_R29 {g' : Nat → Nat → Nat → Int32} {w' : Nat → Nat → Nat → Int64} {s : Nat} (hs : s < 8) {p2 v4 : Int32} : ∀ (n : Nat) (v3 : Int32) (k : Nat) (g : Nat → Nat → Nat → Int32) (w : Nat → Nat → Nat → Int64), (k ≤ 6) → (Gd g' w' g w) → 9 - k < n → Ok (s_X7_takes_R29 0 (I s) p2 n v3 v4 (I k) g w) (fun r => Gd g' w' r.2.1 r.2.2) := by
  intro n
  induction n with
  | zero => intro v3 k g w h1 hG hm; omega
  | succ n ih =>
    intro v3 k g w h1 hG hm
    show Ok (s_X7_takes_29 0 (I s) p2 (s_X7_takes_R29 0 (I s) p2 n) v3 v4 (I k) g w) _
    unfold s_X7_takes_29
    refine ok_ite (fun hc => ?_) (fun hc => ?_)
    · refine ok_gd (by (first | exact inR_I (by omega) (by omega) | (simp only [i_0, i_1, i_2, i_3, i_4, i_5, i_6, i_7, i_8, i_9, i_10, i_11, i_12, i_13, i_24, i_47, i_48, i_60, i_61, i_62, i_63, i_64, i_65, i_70, i_130, i_218, I_mul, I_add]; exact inR_I (by omega) (by omega)) | exact rem12 (by omega) (by decide) (by decide))) ?_
      refine ok_gd (by (first | exact inR_I (by omega) (by omega) | (simp only [i_0, i_1, i_2, i_3, i_4, i_5, i_6, i_7, i_8, i_9, i_10, i_11, i_12, i_13, i_24, i_47, i_48, i_60, i_61, i_62, i_63, i_64, i_65, i_70, i_130, i_218, I_mul, I_add]; exact inR_I (by omega) (by omega)) | exact rem12 (by omega) (by decide) (by decide))) ?_
      exact ok_some ((gd_set (gd_hour (by assumption) (by omega) m4_rg) (by omega)))
    · have hk := tug_lt (gd_bk (by assumption)) (by omega) hc
      refine ok_bind (a_X7_isOf (gd_bk (by assumption)) (by omega)) ?_
      rintro q hq
      refine ok_ite (fun hc => ?_) (fun hc => ?_)
      · refine ok_gd (by (first | exact inR_I (by omega) (by omega) | (simp only [i_0, i_1, i_2, i_3, i_4, i_5, i_6, i_7, i_8, i_9, i_10, i_11, i_12, i_13, i_24, i_47, i_48, i_60, i_61, i_62, i_63, i_64, i_65, i_70, i_130, i_218, I_mul, I_add]; exact inR_I (by omega) (by omega)) | exact rem12 (by omega) (by decide) (by decide))) ?_
        refine ok_bind (a_X7_last (gd_bk (by assumption)) (by omega)) ?_
        rintro q hq
        refine ok_gd (by (first | exact inR_I (by omega) (by omega) | (simp only [i_0, i_1, i_2, i_3, i_4, i_5, i_6, i_7, i_8, i_9, i_10, i_11, i_12, i_13, i_24, i_47, i_48, i_60, i_61, i_62, i_63, i_64, i_65, i_70, i_130, i_218, I_mul, I_add]; exact inR_I (by omega) (by omega)) | exact rem12 (by omega) (by decide) (by decide))) ?_
        refine ok_bind (a_X7_last (gd_bk (gd_tugw (j := 8) (by assumption) (by omega) (by decide) (by decide))) (by omega)) ?_
        rintro q hq
        unfold s_X7_takes_101
        (repeat rw [I_suc])
        exact ih _ _ _ _ (by omega) (gd_tugw (j := 8) (by assumption) (by omega) (by decide) (by decide)) (by omega)
      · unfold s_X7_takes_101
        (repeat rw [I_suc])
        exact ih _ _ _ _ (by omega) (by assumption) (by omega)
theorem a_X7_takes {g' : Nat → Nat → Nat → Int32} {w' : Nat → Nat → Nat → Int64} {g : Nat → Nat → Nat → Int32} {w : Nat → Nat → Nat → Int64} (hG : Gd g' w' g w) {s : Nat} (hs : s < 8) {p2 : Int32} : Ok (s_X7_takes 0 (I s) p2 g w) (fun r => Gd g' w' r.2.1 r.2.2) := by
  unfold s_X7_takes
  refine ok_bind (a_hour (gd_bk (by assumption)) (by omega)) ?_
  rintro q hq
  refine ok_ite (fun hc => ?_) (fun hc => ?_)
  · refine ok_bind (a_hour (gd_bk (by assumption)) (by omega)) ?_
    rintro q hq
    unfold s_X7_takes_24
    exact a_X7_takes_R29 hs FU _ 0 _ _ (by decide) hG (by decide)
  · unfold s_X7_takes_24
    exact a_X7_takes_R29 hs FU _ 0 _ _ (by decide) hG (by decide)
theorem a_X7_finds_R177 {g' : Nat → Nat → Nat → Int32} {w' : Nat → Nat → Nat → Int64} {s : Nat} (hs : s < 8) {rec7 : Int32 → (Nat → Nat → Nat → Int32) → (Nat → Nat → Nat → Int64) → Option (Bool × GS)} {h0 : Nat} (hh : h0 ≤ 47) (hr : ∀ g w, Gd g' w' g w → Ok (rec7 (I (h0 + 1)) g w) (fun r => Gd g' w' r.2.1 r.2.2)) {a : Nat} (ha : a ≤ 63) : ∀ (n : Nat) (k : Nat) (g : Nat → Nat → Nat → Int32) (w : Nat → Nat → Nat → Int64), (k ≤ 64) → (Gd g' w' g w) → 99 - k < n → Ok (s_X7_finds_R177 0 (I s) rec7 n (I h0) (I a) (I k) g w) (fun r => Gd g' w' r.2.1 r.2.2) := by
  intro n
  induction n with
  | zero => intro k g w h1 hG hm; omega
  | succ n ih =>
    intro k g w h1 hG hm
    show Ok (s_X7_finds_177 0 (I s) rec7 (s_X7_finds_R177 0 (I s) rec7 n) (I h0) (I a) (I k) g w) _
    unfold s_X7_finds_177
    refine ok_ite (fun hc => ?_) (fun hc => ?_)
    · unfold s_X7_finds_278
      (repeat rw [I_suc])
      exact hr _ _ (by assumption)
    · have hk : k ≤ a := by
        have q := mt (I_lt (a := a) (b := k) (by omega) (by omega)).mpr hc
        omega
      refine ok_ite (fun hc => ?_) (fun hc => ?_)
      · unfold s_X7_finds_216
        unfold s_X7_finds_217
        refine ok_ite (fun hc => ?_) (fun hc => ?_)
        · refine ok_bind (a_X7_failsTogether (gd_bk (by assumption)) (by omega) (by omega)) ?_
          rintro q hq
          refine ok_ite (fun hc => ?_) (fun hc => ?_)
          · unfold s_X7_finds_272
            (repeat rw [I_suc])
            exact ih _ _ _ (by omega) (by assumption) (by omega)
          · refine ok_bind (a_X7_failsTogether (gd_bk (by assumption)) (by omega) (by omega)) ?_
            rintro q hq
            refine ok_ite (fun hc => ?_) (fun hc => ?_)
            · unfold s_X7_finds_272
              (repeat rw [I_suc])
              exact ih _ _ _ (by omega) (by assumption) (by omega)
            · refine ok_bind (a_X7_failsTogether (gd_bk (by assumption)) (by omega) (by omega)) ?_
              rintro q hq
              refine ok_ite (fun hc => ?_) (fun hc => ?_)
              · unfold s_X7_finds_272
                (repeat rw [I_suc])
                exact ih _ _ _ (by omega) (by assumption) (by omega)
              · unfold s_X7_finds_272
                (repeat rw [I_suc])
                exact ih _ _ _ (by omega) (gd_710 (gd_7 (by assumption) (by decide)) (by omega)) (by omega)
        · unfold s_X7_finds_272
          (repeat rw [I_suc])
          exact ih _ _ _ (by omega) (by assumption) (by omega)
      · refine ok_ite (fun hc => ?_) (fun hc => ?_)
        · unfold s_X7_finds_212
          unfold s_X7_finds_217
          refine ok_ite (fun hc => ?_) (fun hc => ?_)
          · refine ok_bind (a_X7_failsTogether (gd_bk (by assumption)) (by omega) (by omega)) ?_
            rintro q hq
            refine ok_ite (fun hc => ?_) (fun hc => ?_)
            · unfold s_X7_finds_272
              (repeat rw [I_suc])
              exact ih _ _ _ (by omega) (by assumption) (by omega)
            · refine ok_bind (a_X7_failsTogether (gd_bk (by assumption)) (by omega) (by omega)) ?_
              rintro q hq
              refine ok_ite (fun hc => ?_) (fun hc => ?_)
              · unfold s_X7_finds_272
                (repeat rw [I_suc])
                exact ih _ _ _ (by omega) (by assumption) (by omega)
              · refine ok_bind (a_X7_failsTogether (gd_bk (by assumption)) (by omega) (by omega)) ?_
                rintro q hq
                refine ok_ite (fun hc => ?_) (fun hc => ?_)
                · unfold s_X7_finds_272
                  (repeat rw [I_suc])
                  exact ih _ _ _ (by omega) (by assumption) (by omega)
                · unfold s_X7_finds_272
                  (repeat rw [I_suc])
                  exact ih _ _ _ (by omega) (gd_710 (gd_7 (by assumption) (by decide)) (by omega)) (by omega)
          · unfold s_X7_finds_272
            (repeat rw [I_suc])
            exact ih _ _ _ (by omega) (by assumption) (by omega)
        · refine ok_bind (a_X7_isBetter (gd_bk (by assumption))) ?_
          rintro q hq
          refine ok_ite (fun hc => ?_) (fun hc => ?_)
          · unfold s_X7_finds_212
            unfold s_X7_finds_217
            refine ok_ite (fun hc => ?_) (fun hc => ?_)
            · refine ok_bind (a_X7_failsTogether (gd_bk (by assumption)) (by omega) (by omega)) ?_
              rintro q hq
              refine ok_ite (fun hc => ?_) (fun hc => ?_)
              · unfold s_X7_finds_272
                (repeat rw [I_suc])
                exact ih _ _ _ (by omega) (by assumption) (by omega)
              · refine ok_bind (a_X7_failsTogether (gd_bk (by assumption)) (by omega) (by omega)) ?_
                rintro q hq
                refine ok_ite (fun hc => ?_) (fun hc => ?_)
                · unfold s_X7_finds_272
                  (repeat rw [I_suc])
                  exact ih _ _ _ (by omega) (by assumption) (by omega)
                · refine ok_bind (a_X7_failsTogether (gd_bk (by assumption)) (by omega) (by omega)) ?_
                  rintro q hq
                  refine ok_ite (fun hc => ?_) (fun hc => ?_)
                  · unfold s_X7_finds_272
                    (repeat rw [I_suc])
                    exact ih _ _ _ (by omega) (by assumption) (by omega)
                  · unfold s_X7_finds_272
                    (repeat rw [I_suc])
                    exact ih _ _ _ (by omega) (gd_710 (gd_7 (by assumption) (by decide)) (by omega)) (by omega)
            · unfold s_X7_finds_272
              (repeat rw [I_suc])
              exact ih _ _ _ (by omega) (by assumption) (by omega)
          · unfold s_X7_finds_216
            unfold s_X7_finds_217
            refine ok_ite (fun hc => ?_) (fun hc => ?_)
            · refine ok_bind (a_X7_failsTogether (gd_bk (by assumption)) (by omega) (by omega)) ?_
              rintro q hq
              refine ok_ite (fun hc => ?_) (fun hc => ?_)
              · unfold s_X7_finds_272
                (repeat rw [I_suc])
                exact ih _ _ _ (by omega) (by assumption) (by omega)
              · refine ok_bind (a_X7_failsTogether (gd_bk (by assumption)) (by omega) (by omega)) ?_
                rintro q hq
                refine ok_ite (fun hc => ?_) (fun hc => ?_)
                · unfold s_X7_finds_272
                  (repeat rw [I_suc])
                  exact ih _ _ _ (by omega) (by assumption) (by omega)
                · refine ok_bind (a_X7_failsTogether (gd_bk (by assumption)) (by omega) (by omega)) ?_
                  rintro q hq
                  refine ok_ite (fun hc => ?_) (fun hc => ?_)
                  · unfold s_X7_finds_272
                    (repeat rw [I_suc])
                    exact ih _ _ _ (by omega) (by assumption) (by omega)
                  · unfold s_X7_finds_272
                    (repeat rw [I_suc])
                    exact ih _ _ _ (by omega) (gd_710 (gd_7 (by assumption) (by decide)) (by omega)) (by omega)
            · unfold s_X7_finds_272
              (repeat rw [I_suc])
              exact ih _ _ _ (by omega) (by assumption) (by omega)
theorem a_X7_finds_R67 {g' : Nat → Nat → Nat → Int32} {w' : Nat → Nat → Nat → Int64} {s : Nat} (hs : s < 8) {rec7 : Int32 → (Nat → Nat → Nat → Int32) → (Nat → Nat → Nat → Int64) → Option (Bool × GS)} {h0 : Nat} (hh : h0 ≤ 47) (hr : ∀ g w, Gd g' w' g w → Ok (rec7 (I (h0 + 1)) g w) (fun r => Gd g' w' r.2.1 r.2.2)) : ∀ (n : Nat) (v3 : Int32) (k : Nat) (g : Nat → Nat → Nat → Int32) (w : Nat → Nat → Nat → Int64), (k ≤ 6) → (∃ a, a ≤ 63 ∧ v3 = I a) → (Gd g' w' g w) → 99 - k < n → Ok (s_X7_finds_R67 0 (I s) rec7 n (I h0) v3 (I k) g w) (fun r => Gd g' w' r.2.1 r.2.2) := by
  intro n
  induction n with
  | zero => intro v3 k g w h1 h2 hG hm; omega
  | succ n ih =>
    intro v3 k g w h1 h2 hG hm
    show Ok (s_X7_finds_67 0 (I s) rec7 (s_X7_finds_R67 0 (I s) rec7 n) (I h0) v3 (I k) g w) _
    unfold s_X7_finds_67
    refine ok_ite (fun hc => ?_) (fun hc => ?_)
    · obtain ⟨a, ha, rfl⟩ := h2
      exact a_X7_finds_R177 hs hh hr ha FU 1 _ _ (by decide) hG (by decide)
    · have hk := tug_lt (gd_bk (by assumption)) (by omega) hc
      refine ok_bind (a_X7_fails (gd_bk (by assumption)) (by omega) (by omega)) ?_
      rintro q hq
      refine ok_ite (fun hc => ?_) (fun hc => ?_)
      · unfold s_X7_finds_149
        unfold s_X7_finds_150
        refine ok_ite (fun hc => ?_) (fun hc => ?_)
        · unfold s_X7_finds_166
          (repeat rw [I_suc])
          exact ih _ _ _ _ (by omega) (by first | (rw [or0]; exact h2) | (obtain ⟨a, ha, rfl⟩ := h2; exact or63 ha (by omega))) (by assumption) (by omega)
        · unfold s_X7_finds_166
          (repeat rw [I_suc])
          exact ih _ _ _ _ (by omega) (by first | (rw [or0]; exact h2) | (obtain ⟨a, ha, rfl⟩ := h2; exact or63 ha (by omega))) (by assumption) (by omega)
      · refine ok_bind (a_X7_fails (gd_bk (by assumption)) (by omega) (by omega)) ?_
        rintro q hq
        refine ok_ite (fun hc => ?_) (fun hc => ?_)
        · unfold s_X7_finds_149
          unfold s_X7_finds_150
          refine ok_ite (fun hc => ?_) (fun hc => ?_)
          · unfold s_X7_finds_166
            (repeat rw [I_suc])
            exact ih _ _ _ _ (by omega) (by first | (rw [or0]; exact h2) | (obtain ⟨a, ha, rfl⟩ := h2; exact or63 ha (by omega))) (by assumption) (by omega)
          · unfold s_X7_finds_166
            (repeat rw [I_suc])
            exact ih _ _ _ _ (by omega) (by first | (rw [or0]; exact h2) | (obtain ⟨a, ha, rfl⟩ := h2; exact or63 ha (by omega))) (by assumption) (by omega)
        · refine ok_bind (a_X7_fails (gd_bk (by assumption)) (by omega) (by omega)) ?_
          rintro q hq
          refine ok_ite (fun hc => ?_) (fun hc => ?_)
          · unfold s_X7_finds_149
            unfold s_X7_finds_150
            refine ok_ite (fun hc => ?_) (fun hc => ?_)
            · unfold s_X7_finds_166
              (repeat rw [I_suc])
              exact ih _ _ _ _ (by omega) (by first | (rw [or0]; exact h2) | (obtain ⟨a, ha, rfl⟩ := h2; exact or63 ha (by omega))) (by assumption) (by omega)
            · unfold s_X7_finds_166
              (repeat rw [I_suc])
              exact ih _ _ _ _ (by omega) (by first | (rw [or0]; exact h2) | (obtain ⟨a, ha, rfl⟩ := h2; exact or63 ha (by omega))) (by assumption) (by omega)
          · refine ok_bind (a_X7_fails (gd_bk (by assumption)) (by omega) (by omega)) ?_
            rintro q hq
            refine ok_ite (fun hc => ?_) (fun hc => ?_)
            · unfold s_X7_finds_149
              unfold s_X7_finds_150
              refine ok_ite (fun hc => ?_) (fun hc => ?_)
              · unfold s_X7_finds_166
                (repeat rw [I_suc])
                exact ih _ _ _ _ (by omega) (by first | (rw [or0]; exact h2) | (obtain ⟨a, ha, rfl⟩ := h2; exact or63 ha (by omega))) (by assumption) (by omega)
              · unfold s_X7_finds_166
                (repeat rw [I_suc])
                exact ih _ _ _ _ (by omega) (by first | (rw [or0]; exact h2) | (obtain ⟨a, ha, rfl⟩ := h2; exact or63 ha (by omega))) (by assumption) (by omega)
            · refine ok_bind (a_X7_fails (gd_bk (by assumption)) (by omega) (by omega)) ?_
              rintro q hq
              refine ok_ite (fun hc => ?_) (fun hc => ?_)
              · unfold s_X7_finds_149
                unfold s_X7_finds_150
                refine ok_ite (fun hc => ?_) (fun hc => ?_)
                · unfold s_X7_finds_166
                  (repeat rw [I_suc])
                  exact ih _ _ _ _ (by omega) (by first | (rw [or0]; exact h2) | (obtain ⟨a, ha, rfl⟩ := h2; exact or63 ha (by omega))) (by assumption) (by omega)
                · unfold s_X7_finds_166
                  (repeat rw [I_suc])
                  exact ih _ _ _ _ (by omega) (by first | (rw [or0]; exact h2) | (obtain ⟨a, ha, rfl⟩ := h2; exact or63 ha (by omega))) (by assumption) (by omega)
              · unfold s_X7_finds_150
                refine ok_ite (fun hc => ?_) (fun hc => ?_)
                · unfold s_X7_finds_166
                  (repeat rw [I_suc])
                  exact ih _ _ _ _ (by omega) (by first | (rw [or0]; exact h2) | (obtain ⟨a, ha, rfl⟩ := h2; exact or63 ha (by omega))) (by assumption) (by omega)
                · unfold s_X7_finds_166
                  (repeat rw [I_suc])
                  exact ih _ _ _ _ (by omega) (by first | (rw [or0]; exact h2) | (obtain ⟨a, ha, rfl⟩ := h2; exact or63 ha (by omega))) (by assumption) (by omega)
theorem a_X7_finds_R7 {g' : Nat → Nat → Nat → Int32} {w' : Nat → Nat → Nat → Int64} {s : Nat} (hs : s < 8) : ∀ (n : Nat) (k : Nat) (g : Nat → Nat → Nat → Int32) (w : Nat → Nat → Nat → Int64), (k ≤ 48) → (Gd g' w' g w) → 99 - k < n → Ok (s_X7_finds_R7 0 (I s) n (I k) g w) (fun r => Gd g' w' r.2.1 r.2.2) := by
  intro n
  induction n with
  | zero => intro k g w h1 hG hm; omega
  | succ n ih =>
    intro k g w h1 hG hm
    show Ok (s_X7_finds_7 0 (I s) (s_X7_finds_R7 0 (I s) n) (I k) g w) _
    unfold s_X7_finds_7
    refine ok_ite (fun hc => ?_) (fun hc => ?_)
    · unfold s_X7_finds_284
      refine ok_ite (fun hc => ?_) (fun hc => ?_)
      · unfold s_X7_finds_296
        exact ok_some ((by assumption))
      · unfold s_X7_finds_296
        exact ok_some ((by assumption))
    · have hk := I_nle (b := 48) (by decide) (by omega) hc
      refine ok_ite (fun hc => ?_) (fun hc => ?_)
      · unfold s_X7_finds_284
        refine ok_ite (fun hc => ?_) (fun hc => ?_)
        · unfold s_X7_finds_296
          exact ok_some ((by assumption))
        · unfold s_X7_finds_296
          exact ok_some ((by assumption))
      · refine ok_bind (a_X7_failsAlone (gd_bk (by assumption)) (by omega) (by omega)) ?_
        rintro q hq
        refine ok_ite (fun hc => ?_) (fun hc => ?_)
        · unfold s_X7_finds_278
          (repeat rw [I_suc])
          exact ih _ _ _ (by omega) (by assumption) (by omega)
        · refine ok_bind (a_X7_failsAlone (gd_bk (by assumption)) (by omega) (by omega)) ?_
          rintro q hq
          refine ok_ite (fun hc => ?_) (fun hc => ?_)
          · unfold s_X7_finds_278
            (repeat rw [I_suc])
            exact ih _ _ _ (by omega) (by assumption) (by omega)
          · refine ok_bind (a_X7_failsAlone (gd_bk (by assumption)) (by omega) (by omega)) ?_
            rintro q hq
            refine ok_ite (fun hc => ?_) (fun hc => ?_)
            · unfold s_X7_finds_278
              (repeat rw [I_suc])
              exact ih _ _ _ (by omega) (by assumption) (by omega)
            · refine ok_bind (a_X7_failsAlone (gd_bk (by assumption)) (by omega) (by omega)) ?_
              rintro q hq
              refine ok_ite (fun hc => ?_) (fun hc => ?_)
              · unfold s_X7_finds_278
                (repeat rw [I_suc])
                exact ih _ _ _ (by omega) (by assumption) (by omega)
              · exact a_X7_finds_R67 hs (by omega) (fun g w h => ih _ _ _ (by omega) h (by omega)) FU 0 0 _ _ (by decide) ⟨0, by decide, rfl⟩ (by assumption) (by decide)
theorem a_X7_finds {g' : Nat → Nat → Nat → Int32} {w' : Nat → Nat → Nat → Int64} {g : Nat → Nat → Nat → Int32} {w : Nat → Nat → Nat → Int64} (hG : Gd g' w' g w) {s : Nat} (hs : s < 8) : Ok (s_X7_finds 0 (I s) g w) (fun r => Gd g' w' r.2.1 r.2.2) := by
  unfold s_X7_finds
  exact a_X7_finds_R7 hs FU 0 _ _ (by decide) (gd_7 (by assumption) (by decide)) (by decide)
def fct (n : Nat) : Nat := if n = 2 then 2 else if n = 3 then 6 else if n = 4 then 24 else 1
theorem ord_69 {p0 p1 : Int32} {g g2 : Nat → Nat → Nat → Int32} {w w2 : Nat → Nat → Nat → Int64} {r1 r2 : Int32 → Int32 → Int32 → Int32 → Int32 → (Nat → Nat → Nat → Int32) → (Nat → Nat → Nat → Int64) → Option Int32} (hr : ∀ a b c d e, r1 a b c d e g w = r2 a b c d e g2 w2) :
    ∀ n a b c d e f h, s_X7_ordered_R69 p0 p1 r1 n a b c d e f h g w = s_X7_ordered_R69 p0 p1 r2 n a b c d e f h g2 w2 := by
  intro n
  induction n with
  | zero => intros; rfl
  | succ n ih =>
    intro a b c d e f h
    show s_X7_ordered_69 p0 p1 r1 (s_X7_ordered_R69 p0 p1 r1 n) a b c d e f h g w = s_X7_ordered_69 p0 p1 r2 (s_X7_ordered_R69 p0 p1 r2 n) a b c d e f h g2 w2
    unfold s_X7_ordered_69 s_X7_ordered_85 s_X7_ordered_103
    simp only [ih, hr]
theorem ord_30 {p0 p1 : Int32} {g g2 : Nat → Nat → Nat → Int32} {w w2 : Nat → Nat → Nat → Int64} :
    ∀ n a b c d e, s_X7_ordered_R30 p0 p1 n a b c d e g w = s_X7_ordered_R30 p0 p1 n a b c d e g2 w2 := by
  intro n
  induction n with
  | zero => intros; rfl
  | succ n ih =>
    intro a b c d e
    show s_X7_ordered_30 p0 p1 (s_X7_ordered_R30 p0 p1 n) a b c d e g w = s_X7_ordered_30 p0 p1 (s_X7_ordered_R30 p0 p1 n) a b c d e g2 w2
    unfold s_X7_ordered_30 s_X7_ordered_65
    simp only [ord_69 (g := g) (w := w) (g2 := g2) (w2 := w2) (r1 := s_X7_ordered_R30 p0 p1 n) (r2 := s_X7_ordered_R30 p0 p1 n) ih]
theorem ord_4 {p0 p1 : Int32} {g g2 : Nat → Nat → Nat → Int32} {w w2 : Nat → Nat → Nat → Int64} :
    ∀ n a b, s_X7_ordered_R4 p0 p1 n a b g w = s_X7_ordered_R4 p0 p1 n a b g2 w2 := by
  intro n
  induction n with
  | zero => intros; rfl
  | succ n ih =>
    intro a b
    show s_X7_ordered_4 p0 p1 (s_X7_ordered_R4 p0 p1 n) a b g w = s_X7_ordered_4 p0 p1 (s_X7_ordered_R4 p0 p1 n) a b g2 w2
    unfold s_X7_ordered_4
    simp only [ih, ord_30 (g := g) (w := w) (g2 := g2) (w2 := w2)]
def gz : Nat → Nat → Nat → Int32 := fun _ _ _ => 0
def wz : Nat → Nat → Nat → Int64 := fun _ _ _ => 0
theorem ord_z : ∀ n, n < 5 → ∀ m, m < 24 → 1 ≤ n → m < fct n → (s_X7_ordered (I n) (I m) gz wz).isSome = true := by decide +kernel
theorem a_X7_ordered {g : Nat → Nat → Nat → Int32} {w : Nat → Nat → Nat → Int64} {n m : Nat} (h1 : 1 ≤ n) (h4 : n ≤ 4) (hm : m < fct n) : Ok (s_X7_ordered (I n) (I m) g w) (fun _ => True) := by
  have hm2 : m < 24 := by unfold fct at hm; (repeat' split at hm) <;> omega
  have e : s_X7_ordered (I n) (I m) g w = s_X7_ordered (I n) (I m) gz wz := ord_4 FU _ _
  rw [e]
  obtain ⟨r, hr⟩ := Option.isSome_iff_exists.mp (ord_z n (by omega) m hm2 h1 hm)
  exact ⟨r, hr, trivial⟩
theorem fct_le {n : Nat} : fct n ≤ 24 := by unfold fct; (repeat' split) <;> omega
theorem fct_suc {k : Nat} (h1 : 2 ≤ k) (h2 : k ≤ 4) : I (fct (k - 1)) * I k = I (fct (k + 1 - 1)) := by
  rw [I_mul]
  have : k = 2 ∨ k = 3 ∨ k = 4 := by omega
  rcases this with rfl | rfl | rfl <;> rfl
theorem shl4 {n : Nat} (h : n ≤ 4) : (1 : Int32) <<< (I n &&& 31) = I (2 ^ n) ∧ 2 ^ n ≤ 16 := by
  have : ∀ n, n < 5 → (1 : Int32) <<< (I n &&& 31) = I (2 ^ n) ∧ 2 ^ n ≤ 16 := by decide +kernel
  exact this n (by omega)
theorem a_X7_plans_R5 {g' : Nat → Nat → Nat → Int32} {w' : Nat → Nat → Nat → Int64} {n0 : Nat} (hn1 : 1 ≤ n0) (hn : n0 ≤ 4) {p2 : Int32} : ∀ (n : Nat) (v3 : Int32) (k : Nat) (g : Nat → Nat → Nat → Int32) (w : Nat → Nat → Nat → Int64), (k ≤ n0) → (Gd g' w' g w) → 9 - k < n → Ok (s_X7_plans_R5 0 (I n0) p2 n v3 (I k) g w) (fun r => Gd g' w' r.2.1 r.2.2) := by
  intro n
  induction n with
  | zero => intro v3 k g w h1 hG hm; omega
  | succ n ih =>
    intro v3 k g w h1 hG hm
    show Ok (s_X7_plans_5 0 (I n0) p2 (s_X7_plans_R5 0 (I n0) p2 n) v3 (I k) g w) _
    unfold s_X7_plans_5
    refine ok_ite (fun hc => ?_) (fun hc => ?_)
    · exact ok_some ((by assumption))
    · have hk : k < n0 := by
        have q := mt (I_le (a := n0) (b := k) (by omega) (by omega)).mpr hc
        omega
      obtain ⟨s, hs, es⟩ := and7 (p2 >>> (((3 : Int32) * I k) &&& 31))
      rw [es]
      refine ok_bind (a_X7_finds (by assumption) (by omega)) ?_
      rintro q hq
      refine ok_ite (fun hc => ?_) (fun hc => ?_)
      · refine ok_bind (a_X7_lays (by assumption) (by omega) (gd_bh (by assumption))) ?_
        rintro q hq
        unfold s_X7_plans_48
        (repeat rw [I_suc])
        exact ih _ _ _ _ (by omega) (by assumption) (by omega)
      · unfold s_X7_plans_48
        (repeat rw [I_suc])
        exact ih _ _ _ _ (by omega) (by assumption) (by omega)
theorem a_X7_plans {g' : Nat → Nat → Nat → Int32} {w' : Nat → Nat → Nat → Int64} {g : Nat → Nat → Nat → Int32} {w : Nat → Nat → Nat → Int64} (hG : Gd g' w' g w) {n0 : Nat} (hn1 : 1 ≤ n0) (hn : n0 ≤ 4) {p2 : Int32} : Ok (s_X7_plans 0 (I n0) p2 g w) (fun r => Gd g' w' r.2.1 r.2.2) := by
  unfold s_X7_plans
  exact a_X7_plans_R5 hn1 hn FU _ 0 _ _ (by omega) hG (by decide)
theorem a_X7_bestOrder_R34 {g' : Nat → Nat → Nat → Int32} {w' : Nat → Nat → Nat → Int64} {n0 : Nat} (hn1 : 1 ≤ n0) (hn : n0 ≤ 4) : ∀ (n : Nat) (v3 : Int32) (k : Nat) (g : Nat → Nat → Nat → Int32) (w : Nat → Nat → Nat → Int64), (k ≤ 24) → (Gd g' w' g w) → 30 - k < n → Ok (s_X7_bestOrder_R34 0 (I n0) n (I (fct n0)) v3 (I k) g w) (fun r => Gd g' w' r.2.1 r.2.2) := by
  intro n
  induction n with
  | zero => intro v3 k g w h1 hG hm; omega
  | succ n ih =>
    intro v3 k g w h1 hG hm
    show Ok (s_X7_bestOrder_34 0 (I n0) (s_X7_bestOrder_R34 0 (I n0) n) (I (fct n0)) v3 (I k) g w) _
    unfold s_X7_bestOrder_34
    refine ok_ite (fun hc => ?_) (fun hc => ?_)
    · exact ok_some ((by assumption))
    · have hk : k < fct n0 := by
        have q := mt (I_le (a := fct n0) (b := k) (by have := fct_le (n := n0); omega) (by omega)).mpr hc
        omega
      have hf := fct_le (n := n0)
      refine ok_bind (a_X7_ordered (by omega) (by omega) (by omega)) ?_
      rintro q hq
      refine ok_bind (a_X7_empties (by assumption)) ?_
      rintro q hq
      refine ok_bind (a_X7_plans (by assumption) (by omega) (by omega)) ?_
      rintro q hq
      refine ok_bind (a_X7_waited (gd_bk (by assumption)) (by omega)) ?_
      rintro q hq
      refine ok_ite (fun hc => ?_) (fun hc => ?_)
      · unfold s_X7_bestOrder_82
        refine ok_ite (fun hc => ?_) (fun hc => ?_)
        · unfold s_X7_bestOrder_102
          refine ok_bind (a_X7_returns (gd_7 (by assumption) (by decide))) ?_
          rintro q hq
          (repeat rw [I_suc])
          exact ih _ _ _ _ (by omega) (by assumption) (by omega)
        · unfold s_X7_bestOrder_102
          refine ok_bind (a_X7_returns (gd_7 (by assumption) (by decide))) ?_
          rintro q hq
          (repeat rw [I_suc])
          exact ih _ _ _ _ (by omega) (by assumption) (by omega)
      · unfold s_X7_bestOrder_82
        refine ok_ite (fun hc => ?_) (fun hc => ?_)
        · unfold s_X7_bestOrder_102
          refine ok_bind (a_X7_returns (gd_7 (by assumption) (by decide))) ?_
          rintro q hq
          (repeat rw [I_suc])
          exact ih _ _ _ _ (by omega) (by assumption) (by omega)
        · unfold s_X7_bestOrder_102
          refine ok_bind (a_X7_returns (gd_7 (by assumption) (by decide))) ?_
          rintro q hq
          (repeat rw [I_suc])
          exact ih _ _ _ _ (by omega) (by assumption) (by omega)
theorem a_X7_bestOrder_R4 {g' : Nat → Nat → Nat → Int32} {w' : Nat → Nat → Nat → Int64} {n0 : Nat} (hn1 : 1 ≤ n0) (hn : n0 ≤ 4) : ∀ (n : Nat) (k : Nat) (g : Nat → Nat → Nat → Int32) (w : Nat → Nat → Nat → Int64), (2 ≤ k) → (k ≤ n0 + 1) → (Gd g' w' g w) → 30 - k < n → Ok (s_X7_bestOrder_R4 0 (I n0) n (I (fct (k - 1))) (I k) g w) (fun r => Gd g' w' r.2.1 r.2.2) := by
  intro n
  induction n with
  | zero => intro k g w h0 h1 hG hm; omega
  | succ n ih =>
    intro k g w h0 h1 hG hm
    show Ok (s_X7_bestOrder_4 0 (I n0) (s_X7_bestOrder_R4 0 (I n0) n) (I (fct (k - 1))) (I k) g w) _
    unfold s_X7_bestOrder_4
    refine ok_ite (fun hc => ?_) (fun hc => ?_)
    · have ek : k = n0 + 1 := by
        have q := (I_lt (a := n0) (b := k) (by omega) (by omega)).mp hc
        omega
      subst ek
      refine ok_bind (a_X7_asides (by assumption)) ?_
      rintro q hq
      exact a_X7_bestOrder_R34 hn1 hn FU _ 0 _ _ (by decide) (gd_7 (by assumption) (by decide)) (by decide)
    · have hk : k ≤ n0 := by
        have q := mt (I_lt (a := n0) (b := k) (by omega) (by omega)).mpr hc
        omega
      rw [fct_suc h0 (by omega)]
      (repeat rw [I_suc])
      exact ih (k + 1) _ _ (by omega) (by omega) (by assumption) (by omega)
theorem a_X7_bestOrder {g' : Nat → Nat → Nat → Int32} {w' : Nat → Nat → Nat → Int64} {g : Nat → Nat → Nat → Int32} {w : Nat → Nat → Nat → Int64} (hG : Gd g' w' g w) {n0 : Nat} (hn1 : 1 ≤ n0) (hn : n0 ≤ 4) : Ok (s_X7_bestOrder 0 (I n0) g w) (fun r => Gd g' w' r.2.1 r.2.2) := by
  unfold s_X7_bestOrder
  exact a_X7_bestOrder_R4 hn1 hn FU 2 _ _ (by decide) (by omega) hG (by decide)
theorem a_X7_tries_R34 {g' : Nat → Nat → Nat → Int32} {w' : Nat → Nat → Nat → Int64} {n0 : Nat} (hn1 : 1 ≤ n0) (hn : n0 ≤ 4) {p2 : Int32} : ∀ (n : Nat) (v3 : Int32) (k : Nat) (g : Nat → Nat → Nat → Int32) (w : Nat → Nat → Nat → Int64), (k ≤ n0) → (Gd g' w' g w) → 9 - k < n → Ok (s_X7_tries_R34 0 (I n0) p2 n v3 (I k) g w) (fun r => Gd g' w' r.2.1 r.2.2) := by
  intro n
  induction n with
  | zero => intro v3 k g w h1 hG hm; omega
  | succ n ih =>
    intro v3 k g w h1 hG hm
    show Ok (s_X7_tries_34 0 (I n0) p2 (s_X7_tries_R34 0 (I n0) p2 n) v3 (I k) g w) _
    unfold s_X7_tries_34
    refine ok_ite (fun hc => ?_) (fun hc => ?_)
    · exact ok_some ((by assumption))
    · have hk : k < n0 := by
        have q := mt (I_le (a := n0) (b := k) (by omega) (by omega)).mpr hc
        omega
      refine ok_bind (a_X7_hasJob (gd_bk (by assumption)) (by omega)) ?_
      rintro q hq
      refine ok_ite (fun hc => ?_) (fun hc => ?_)
      · unfold s_X7_tries_75
        (repeat rw [I_suc])
        exact ih _ _ _ _ (by omega) (by assumption) (by omega)
      · refine ok_bind (a_X7_finds (by assumption) (by omega)) ?_
        rintro q hq
        refine ok_ite (fun hc => ?_) (fun hc => ?_)
        · refine ok_bind (a_X7_lays (by assumption) (by omega) (gd_bh (by assumption))) ?_
          rintro q hq
          unfold s_X7_tries_75
          (repeat rw [I_suc])
          exact ih _ _ _ _ (by omega) (by assumption) (by omega)
        · unfold s_X7_tries_75
          (repeat rw [I_suc])
          exact ih _ _ _ _ (by omega) (by assumption) (by omega)
theorem a_X7_tries_R2 {g' : Nat → Nat → Nat → Int32} {w' : Nat → Nat → Nat → Int64} {n0 : Nat} (hn1 : 1 ≤ n0) (hn : n0 ≤ 4) {p2 : Int32} : ∀ (n : Nat) (k : Nat) (g : Nat → Nat → Nat → Int32) (w : Nat → Nat → Nat → Int64), (k ≤ n0) → (Gd g' w' g w) → 9 - k < n → Ok (s_X7_tries_R2 0 (I n0) p2 n (I k) g w) (fun r => Gd g' w' r.2.1 r.2.2) := by
  intro n
  induction n with
  | zero => intro k g w h1 hG hm; omega
  | succ n ih =>
    intro k g w h1 hG hm
    show Ok (s_X7_tries_2 0 (I n0) p2 (s_X7_tries_R2 0 (I n0) p2 n) (I k) g w) _
    unfold s_X7_tries_2
    refine ok_ite (fun hc => ?_) (fun hc => ?_)
    · exact a_X7_tries_R34 hn1 hn FU _ 0 _ _ (by omega) hG (by decide)
    · have hk : k < n0 := by
        have q := mt (I_le (a := n0) (b := k) (by omega) (by omega)).mpr hc
        omega
      refine ok_ite (fun hc => ?_) (fun hc => ?_)
      · unfold s_X7_tries_23
        (repeat rw [I_suc])
        exact ih _ _ _ (by omega) (by assumption) (by omega)
      · refine ok_bind (a_X7_takes (by assumption) (by omega)) ?_
        rintro q hq
        unfold s_X7_tries_23
        (repeat rw [I_suc])
        exact ih _ _ _ (by omega) (by assumption) (by omega)
theorem a_X7_tries {g' : Nat → Nat → Nat → Int32} {w' : Nat → Nat → Nat → Int64} {g : Nat → Nat → Nat → Int32} {w : Nat → Nat → Nat → Int64} (hG : Gd g' w' g w) {n0 : Nat} (hn1 : 1 ≤ n0) (hn : n0 ≤ 4) {p2 : Int32} : Ok (s_X7_tries 0 (I n0) p2 g w) (fun r => Gd g' w' r.2.1 r.2.2) := by
  unfold s_X7_tries
  exact a_X7_tries_R2 hn1 hn FU 0 _ _ (by omega) hG (by decide)
theorem a_X7_mends_R72 {g' : Nat → Nat → Nat → Int32} {w' : Nat → Nat → Nat → Int64} {n0 : Nat} (hn1 : 1 ≤ n0) (hn : n0 ≤ 4) {rec44 : Int32 → Int32 → (Nat → Nat → Nat → Int32) → (Nat → Nat → Nat → Int64) → Option GS} {v2 v3 : Int32} (hr : ∀ g w, Gd g' w' g w → Ok (rec44 v2 (v3 + 1) g w) (fun r => Gd g' w' r.1 r.2)) : ∀ (n : Nat) (v4 : Int32) (k : Nat) (g : Nat → Nat → Nat → Int32) (w : Nat → Nat → Nat → Int64), (k ≤ n0) → (Gd g' w' g w) → 9 - k < n → Ok (s_X7_mends_R72 0 (I n0) rec44 n v2 v3 v4 (I k) g w) (fun r => Gd g' w' r.1 r.2) := by
  intro n
  induction n with
  | zero => intro v4 k g w h1 hG hm; omega
  | succ n ih =>
    intro v4 k g w h1 hG hm
    show Ok (s_X7_mends_72 0 (I n0) rec44 (s_X7_mends_R72 0 (I n0) rec44 n) v2 v3 v4 (I k) g w) _
    unfold s_X7_mends_72
    refine ok_ite (fun hc => ?_) (fun hc => ?_)
    · refine ok_bind (a_X7_waited (gd_bk (by assumption)) (by omega)) ?_
      rintro q hq
      refine ok_ite (fun hc => ?_) (fun hc => ?_)
      · unfold s_X7_mends_134
        unfold s_X7_mends_135
        refine ok_ite (fun hc => ?_) (fun hc => ?_)
        · unfold s_X7_mends_180
          refine ok_bind (a_X7_bits) ?_
          rintro q hq
          unfold s_X7_mends_205
          refine ok_bind (a_X7_returns (gd_7 (gd_7 (gd_7 (gd_7 (by assumption) (by decide)) (by decide)) (by decide)) (by decide))) ?_
          rintro q hq
          unfold s_X7_mends_209
          (repeat rw [I_suc])
          exact hr _ _ (by assumption)
        · refine ok_ite (fun hc => ?_) (fun hc => ?_)
          · unfold s_X7_mends_166
            refine ok_ite (fun hc => ?_) (fun hc => ?_)
            · refine ok_ite (fun hc => ?_) (fun hc => ?_)
              · unfold s_X7_mends_205
                refine ok_bind (a_X7_returns (by assumption)) ?_
                rintro q hq
                unfold s_X7_mends_209
                (repeat rw [I_suc])
                exact hr _ _ (by assumption)
              · unfold s_X7_mends_180
                refine ok_bind (a_X7_bits) ?_
                rintro q hq
                unfold s_X7_mends_205
                refine ok_bind (a_X7_returns (gd_7 (gd_7 (gd_7 (gd_7 (by assumption) (by decide)) (by decide)) (by decide)) (by decide))) ?_
                rintro q hq
                unfold s_X7_mends_209
                (repeat rw [I_suc])
                exact hr _ _ (by assumption)
            · unfold s_X7_mends_205
              refine ok_bind (a_X7_returns (by assumption)) ?_
              rintro q hq
              unfold s_X7_mends_209
              (repeat rw [I_suc])
              exact hr _ _ (by assumption)
          · refine ok_bind (a_X7_bits) ?_
            rintro q hq
            refine ok_ite (fun hc => ?_) (fun hc => ?_)
            · unfold s_X7_mends_180
              refine ok_bind (a_X7_bits) ?_
              rintro q hq
              unfold s_X7_mends_205
              refine ok_bind (a_X7_returns (gd_7 (gd_7 (gd_7 (gd_7 (by assumption) (by decide)) (by decide)) (by decide)) (by decide))) ?_
              rintro q hq
              unfold s_X7_mends_209
              (repeat rw [I_suc])
              exact hr _ _ (by assumption)
            · unfold s_X7_mends_166
              refine ok_ite (fun hc => ?_) (fun hc => ?_)
              · refine ok_ite (fun hc => ?_) (fun hc => ?_)
                · unfold s_X7_mends_205
                  refine ok_bind (a_X7_returns (by assumption)) ?_
                  rintro q hq
                  unfold s_X7_mends_209
                  (repeat rw [I_suc])
                  exact hr _ _ (by assumption)
                · unfold s_X7_mends_180
                  refine ok_bind (a_X7_bits) ?_
                  rintro q hq
                  unfold s_X7_mends_205
                  refine ok_bind (a_X7_returns (gd_7 (gd_7 (gd_7 (gd_7 (by assumption) (by decide)) (by decide)) (by decide)) (by decide))) ?_
                  rintro q hq
                  unfold s_X7_mends_209
                  (repeat rw [I_suc])
                  exact hr _ _ (by assumption)
              · unfold s_X7_mends_205
                refine ok_bind (a_X7_returns (by assumption)) ?_
                rintro q hq
                unfold s_X7_mends_209
                (repeat rw [I_suc])
                exact hr _ _ (by assumption)
      · refine ok_bind (a_X7_bits) ?_
        rintro q hq
        refine ok_ite (fun hc => ?_) (fun hc => ?_)
        · unfold s_X7_mends_134
          unfold s_X7_mends_135
          refine ok_ite (fun hc => ?_) (fun hc => ?_)
          · unfold s_X7_mends_180
            refine ok_bind (a_X7_bits) ?_
            rintro q hq
            unfold s_X7_mends_205
            refine ok_bind (a_X7_returns (gd_7 (gd_7 (gd_7 (gd_7 (by assumption) (by decide)) (by decide)) (by decide)) (by decide))) ?_
            rintro q hq
            unfold s_X7_mends_209
            (repeat rw [I_suc])
            exact hr _ _ (by assumption)
          · refine ok_ite (fun hc => ?_) (fun hc => ?_)
            · unfold s_X7_mends_166
              refine ok_ite (fun hc => ?_) (fun hc => ?_)
              · refine ok_ite (fun hc => ?_) (fun hc => ?_)
                · unfold s_X7_mends_205
                  refine ok_bind (a_X7_returns (by assumption)) ?_
                  rintro q hq
                  unfold s_X7_mends_209
                  (repeat rw [I_suc])
                  exact hr _ _ (by assumption)
                · unfold s_X7_mends_180
                  refine ok_bind (a_X7_bits) ?_
                  rintro q hq
                  unfold s_X7_mends_205
                  refine ok_bind (a_X7_returns (gd_7 (gd_7 (gd_7 (gd_7 (by assumption) (by decide)) (by decide)) (by decide)) (by decide))) ?_
                  rintro q hq
                  unfold s_X7_mends_209
                  (repeat rw [I_suc])
                  exact hr _ _ (by assumption)
              · unfold s_X7_mends_205
                refine ok_bind (a_X7_returns (by assumption)) ?_
                rintro q hq
                unfold s_X7_mends_209
                (repeat rw [I_suc])
                exact hr _ _ (by assumption)
            · refine ok_bind (a_X7_bits) ?_
              rintro q hq
              refine ok_ite (fun hc => ?_) (fun hc => ?_)
              · unfold s_X7_mends_180
                refine ok_bind (a_X7_bits) ?_
                rintro q hq
                unfold s_X7_mends_205
                refine ok_bind (a_X7_returns (gd_7 (gd_7 (gd_7 (gd_7 (by assumption) (by decide)) (by decide)) (by decide)) (by decide))) ?_
                rintro q hq
                unfold s_X7_mends_209
                (repeat rw [I_suc])
                exact hr _ _ (by assumption)
              · unfold s_X7_mends_166
                refine ok_ite (fun hc => ?_) (fun hc => ?_)
                · refine ok_ite (fun hc => ?_) (fun hc => ?_)
                  · unfold s_X7_mends_205
                    refine ok_bind (a_X7_returns (by assumption)) ?_
                    rintro q hq
                    unfold s_X7_mends_209
                    (repeat rw [I_suc])
                    exact hr _ _ (by assumption)
                  · unfold s_X7_mends_180
                    refine ok_bind (a_X7_bits) ?_
                    rintro q hq
                    unfold s_X7_mends_205
                    refine ok_bind (a_X7_returns (gd_7 (gd_7 (gd_7 (gd_7 (by assumption) (by decide)) (by decide)) (by decide)) (by decide))) ?_
                    rintro q hq
                    unfold s_X7_mends_209
                    (repeat rw [I_suc])
                    exact hr _ _ (by assumption)
                · unfold s_X7_mends_205
                  refine ok_bind (a_X7_returns (by assumption)) ?_
                  rintro q hq
                  unfold s_X7_mends_209
                  (repeat rw [I_suc])
                  exact hr _ _ (by assumption)
        · unfold s_X7_mends_135
          refine ok_ite (fun hc => ?_) (fun hc => ?_)
          · unfold s_X7_mends_180
            refine ok_bind (a_X7_bits) ?_
            rintro q hq
            unfold s_X7_mends_205
            refine ok_bind (a_X7_returns (gd_7 (gd_7 (gd_7 (gd_7 (by assumption) (by decide)) (by decide)) (by decide)) (by decide))) ?_
            rintro q hq
            unfold s_X7_mends_209
            (repeat rw [I_suc])
            exact hr _ _ (by assumption)
          · refine ok_ite (fun hc => ?_) (fun hc => ?_)
            · unfold s_X7_mends_166
              refine ok_ite (fun hc => ?_) (fun hc => ?_)
              · refine ok_ite (fun hc => ?_) (fun hc => ?_)
                · unfold s_X7_mends_205
                  refine ok_bind (a_X7_returns (by assumption)) ?_
                  rintro q hq
                  unfold s_X7_mends_209
                  (repeat rw [I_suc])
                  exact hr _ _ (by assumption)
                · unfold s_X7_mends_180
                  refine ok_bind (a_X7_bits) ?_
                  rintro q hq
                  unfold s_X7_mends_205
                  refine ok_bind (a_X7_returns (gd_7 (gd_7 (gd_7 (gd_7 (by assumption) (by decide)) (by decide)) (by decide)) (by decide))) ?_
                  rintro q hq
                  unfold s_X7_mends_209
                  (repeat rw [I_suc])
                  exact hr _ _ (by assumption)
              · unfold s_X7_mends_205
                refine ok_bind (a_X7_returns (by assumption)) ?_
                rintro q hq
                unfold s_X7_mends_209
                (repeat rw [I_suc])
                exact hr _ _ (by assumption)
            · refine ok_bind (a_X7_bits) ?_
              rintro q hq
              refine ok_ite (fun hc => ?_) (fun hc => ?_)
              · unfold s_X7_mends_180
                refine ok_bind (a_X7_bits) ?_
                rintro q hq
                unfold s_X7_mends_205
                refine ok_bind (a_X7_returns (gd_7 (gd_7 (gd_7 (gd_7 (by assumption) (by decide)) (by decide)) (by decide)) (by decide))) ?_
                rintro q hq
                unfold s_X7_mends_209
                (repeat rw [I_suc])
                exact hr _ _ (by assumption)
              · unfold s_X7_mends_166
                refine ok_ite (fun hc => ?_) (fun hc => ?_)
                · refine ok_ite (fun hc => ?_) (fun hc => ?_)
                  · unfold s_X7_mends_205
                    refine ok_bind (a_X7_returns (by assumption)) ?_
                    rintro q hq
                    unfold s_X7_mends_209
                    (repeat rw [I_suc])
                    exact hr _ _ (by assumption)
                  · unfold s_X7_mends_180
                    refine ok_bind (a_X7_bits) ?_
                    rintro q hq
                    unfold s_X7_mends_205
                    refine ok_bind (a_X7_returns (gd_7 (gd_7 (gd_7 (gd_7 (by assumption) (by decide)) (by decide)) (by decide)) (by decide))) ?_
                    rintro q hq
                    unfold s_X7_mends_209
                    (repeat rw [I_suc])
                    exact hr _ _ (by assumption)
                · unfold s_X7_mends_205
                  refine ok_bind (a_X7_returns (by assumption)) ?_
                  rintro q hq
                  unfold s_X7_mends_209
                  (repeat rw [I_suc])
                  exact hr _ _ (by assumption)
    · have hk : k < n0 := by
        have q := mt (I_le (a := n0) (b := k) (by omega) (by omega)).mpr hc
        omega
      refine ok_bind (a_X7_hasJob (gd_bk (by assumption)) (by omega)) ?_
      rintro q hq
      refine ok_ite (fun hc => ?_) (fun hc => ?_)
      · unfold s_X7_mends_94
        (repeat rw [I_suc])
        exact ih _ _ _ _ (by omega) (by assumption) (by omega)
      · unfold s_X7_mends_94
        (repeat rw [I_suc])
        exact ih _ _ _ _ (by omega) (by assumption) (by omega)
theorem a_X7_mends_R44 {g' : Nat → Nat → Nat → Int32} {w' : Nat → Nat → Nat → Int64} {n0 : Nat} (hn1 : 1 ≤ n0) (hn : n0 ≤ 4) {v2 : Int32} : ∀ (n : Nat) (k : Nat) (g : Nat → Nat → Nat → Int32) (w : Nat → Nat → Nat → Int64), (k ≤ 16) → (Gd g' w' g w) → 20 - k < n → Ok (s_X7_mends_R44 0 (I n0) n v2 (I k) g w) (fun r => Gd g' w' r.1 r.2) := by
  intro n
  induction n with
  | zero => intro k g w h1 hG hm; omega
  | succ n ih =>
    intro k g w h1 hG hm
    show Ok (s_X7_mends_44 0 (I n0) (s_X7_mends_R44 0 (I n0) n) v2 (I k) g w) _
    unfold s_X7_mends_44
    refine ok_ite (fun hc => ?_) (fun hc => ?_)
    · exact ok_some ((by assumption))
    · have hk : k < 16 := by
        rw [(shl4 hn).1] at hc
        have q := mt (I_le (a := 2 ^ n0) (b := k) (by have := (shl4 hn).2; omega) (by omega)).mpr hc
        have := (shl4 hn).2
        omega
      refine ok_ite (fun hc => ?_) (fun hc => ?_)
      · unfold s_X7_mends_209
        (repeat rw [I_suc])
        exact ih _ _ _ (by omega) (by assumption) (by omega)
      · refine ok_bind (a_X7_tries (by assumption) (by omega) (by omega)) ?_
        rintro q hq
        exact a_X7_mends_R72 hn1 hn (fun g w h => by rw [I_suc]; exact ih _ _ _ (by omega) h (by omega)) FU _ 0 _ _ (by omega) (by assumption) (by decide)
theorem a_X7_mends_R4 {g' : Nat → Nat → Nat → Int32} {w' : Nat → Nat → Nat → Int64} {n0 : Nat} (hn1 : 1 ≤ n0) (hn : n0 ≤ 4) : ∀ (n : Nat) (v2 : Int32) (k : Nat) (g : Nat → Nat → Nat → Int32) (w : Nat → Nat → Nat → Int64), (k ≤ n0) → (Gd g' w' g w) → 9 - k < n → Ok (s_X7_mends_R4 0 (I n0) n v2 (I k) g w) (fun r => Gd g' w' r.1 r.2) := by
  intro n
  induction n with
  | zero => intro v2 k g w h1 hG hm; omega
  | succ n ih =>
    intro v2 k g w h1 hG hm
    show Ok (s_X7_mends_4 0 (I n0) (s_X7_mends_R4 0 (I n0) n) v2 (I k) g w) _
    unfold s_X7_mends_4
    refine ok_ite (fun hc => ?_) (fun hc => ?_)
    · refine ok_bind (a_X7_asides (by assumption)) ?_
      rintro q hq
      exact a_X7_mends_R44 hn1 hn FU 0 _ _ (by decide) (gd_7 (by assumption) (by decide)) (by decide)
    · have hk : k < n0 := by
        have q := mt (I_le (a := n0) (b := k) (by omega) (by omega)).mpr hc
        omega
      refine ok_bind (a_X7_hasJob (gd_bk (by assumption)) (by omega)) ?_
      rintro q hq
      refine ok_ite (fun hc => ?_) (fun hc => ?_)
      · unfold s_X7_mends_25
        (repeat rw [I_suc])
        exact ih _ _ _ _ (by omega) (by assumption) (by omega)
      · unfold s_X7_mends_25
        (repeat rw [I_suc])
        exact ih _ _ _ _ (by omega) (by assumption) (by omega)
theorem a_X7_mends {g' : Nat → Nat → Nat → Int32} {w' : Nat → Nat → Nat → Int64} {g : Nat → Nat → Nat → Int32} {w : Nat → Nat → Nat → Int64} (hG : Gd g' w' g w) {n0 : Nat} (hn1 : 1 ≤ n0) (hn : n0 ≤ 4) : Ok (s_X7_mends 0 (I n0) g w) (fun r => Gd g' w' r.1 r.2) := by
  unfold s_X7_mends
  exact a_X7_mends_R4 hn1 hn FU _ 0 _ _ (by omega) hG (by decide)
