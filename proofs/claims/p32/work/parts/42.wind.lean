/-! wind told -/
section
variable {g : Nat → Nat → Nat → Int32} {w : Nat → Nat → Nat → Int64} {p1 p2 : Int32}
theorem st_wind (h : ST g w) {a : Nat} (ha : a < 48) : ST (gI g 1048 0 a p2) (wL w 2218 0 (12 + a) p2.toInt64) := by
  obtain ⟨h1, h2, h3, hb, h5, h6, h7, h8⟩ := h
  refine ⟨invG_gI h1 (rgg_0 _), invW_wL h2 ?_, invK_wL (invK_gI h3 (by omega)) (by decide), ?_, ?_, ?_, ?_, ?_⟩
  · rw [show wk 2218 0 (12 + a) = kd (12 + a) from rfl, kd_low (by omega)]; exact rgw_0 _
  · refine ⟨fun x hx => ?_, fun x hx => ?_, fun j hj => ?_, fun j hj => ?_, fun t ht j hj => ?_, fun s hs j hj => ?_⟩
    · rw [wL_at, gI_at, if_neg (by omega), if_neg (by omega)]; exact hb.1 x hx
    · rw [wL_at, gI_at]
      by_cases e : x = a
      · rw [if_pos ⟨rfl, rfl, by omega⟩, if_pos ⟨rfl, rfl, e⟩]
      · rw [if_neg (by omega), if_neg (by omega)]; exact hb.2.1 x hx
    · rw [wL_at, gI_at, if_neg (by omega), if_neg (by omega)]; exact hb.2.2.1 j hj
    · rw [wL_at, gI_at, if_neg (by omega), if_neg (by omega)]; exact hb.2.2.2.1 j hj
    · rw [wL_at, gI_at, if_neg (by omega), if_neg (by omega)]; exact hb.2.2.2.2.1 t ht j hj
    · rw [wL_at, gI_at, if_neg (by omega), if_neg (by omega)]; exact hb.2.2.2.2.2 s hs j hj
  · rw [gI_at, gI_at, if_neg (by omega), if_neg (by omega)]; exact h5
  · intro i hi
    rw [gI_at, if_neg (by omega)] at hi
    have q := h6 i hi
    refine ⟨fun x hx => ?_, fun x hx => ?_, fun j hj => ?_, fun j hj => ?_, fun t ht j hj => ?_, fun s hs j hj => ?_⟩
    · dsimp only; rw [wL_at, gI_at, if_neg (by omega), if_neg (by omega)]; exact q.1 x hx
    · dsimp only; rw [wL_at, gI_at, if_neg (by omega), if_neg (by omega)]; exact q.2.1 x hx
    · dsimp only; rw [wL_at, gI_at, if_neg (by omega), if_neg (by omega)]; exact q.2.2.1 j hj
    · dsimp only; rw [wL_at, gI_at, if_neg (by omega), if_neg (by omega)]; exact q.2.2.2.1 j hj
    · dsimp only; rw [wL_at, gI_at, if_neg (by omega), if_neg (by omega)]; exact q.2.2.2.2.1 t ht j hj
    · dsimp only; rw [wL_at, gI_at, if_neg (by omega), if_neg (by omega)]; exact q.2.2.2.2.2 s hs j hj
  · rw [gI_at, gI_at, if_neg (by omega), if_neg (by omega)]; exact h7
  · intro r hr j hj
    rw [gI_at, gI_at, if_neg (by omega), if_neg (by omega)]; exact h8 r hr j hj
theorem pr_wind (h : ST g w) : Ok (s_X6_wind 0 p1 p2 g w) (fun q => Ok (s_X7_wind 0 p1 p2 q.2.1 q.2.2) (fun r => ST r.2.1 r.2.2 ∧ q.1 = r.1)) := by
  have key : ∀ (g : Nat → Nat → Nat → Int32) (w : Nat → Nat → Nat → Int64), s_X7_wind 0 p1 p2 g w = if decide ((0 : Int32) ≤ p1 ∧ p1 ≤ 47) = true then (if decide ((0 : Int32) ≤ p2 ∧ p2 ≤ 9) = true then (if inR ((12 : Int32) + p1) 218 = true then (if inR ((12 : Int32) + p1) 218 = true then some (((w 2218 0 ((12 : Int32) + p1).toNatClampNeg).toInt32, g, (wL w 2218 0 ((12 : Int32) + p1).toNatClampNeg p2.toInt64))) else none) else none) else some ((-1, g, w))) else some ((-1, g, w)) := by
    intro g w
    unfold s_X7_wind s_X7_wind_19
    rw [isHour7, in32 p2 0 9 (by decide) (by decide)]
  unfold s_X6_wind s_X6_wind_17
  rw [isHour6, within_eq]
  by_cases h1 : (0 : Int32) ≤ p1 ∧ p1 ≤ 47
  · rw [if_pos (decide_eq_true h1)]
    by_cases h2 : (0 : Int32) ≤ p2 ∧ p2 ≤ 9
    · rw [if_pos (decide_eq_true h2)]
      have q := rngN h1 (a := 0) (b := 47) rfl rfl
      obtain ⟨a, ha, rfl⟩ := I_ex (v := p1) (n := 47) q.1 q.2
      rw [if_pos (inR_I (by omega) (by decide)), if_pos (inR_I (by omega) (by decide))]
      refine ok_some ?_
      show Ok (s_X7_wind 0 (I a) p2 (gI g 1048 0 (I a).toNatClampNeg p2) w) _
      have e12 : (12 : Int32) + I a = I (12 + a) := I_add 12 a
      rw [key, if_pos (decide_eq_true h1), if_pos (decide_eq_true h2), e12, if_pos (inR_I (by omega) (by decide)), if_pos (inR_I (by omega) (by decide)), I_tn (by omega), I_tn (by omega)]
      refine ok_some ⟨st_wind h (by omega), ?_⟩
      show g 1048 0 a = (w 2218 0 (12 + a)).toInt32
      rw [h.2.2.2.1.2.1 a (by omega), t6432]
    · rw [if_neg (fun q => h2 (of_decide_eq_true q))]
      refine ok_some ?_
      show Ok (s_X7_wind 0 p1 p2 g w) _
      rw [key, if_pos (decide_eq_true h1), if_neg (fun q => h2 (of_decide_eq_true q))]
      exact ok_some ⟨h, rfl⟩
  · rw [if_neg (fun q => h1 (of_decide_eq_true q))]
    refine ok_some ?_
    show Ok (s_X7_wind 0 p1 p2 g w) _
    rw [key, if_neg (fun q => h1 (of_decide_eq_true q))]
    exact ok_some ⟨h, rfl⟩
end
