def s_X7_fails_157 (i0 : Nat) (p1 : Int32) (p2 : Int32) (p3 : Int32) (p4 : Int32) (t0 : Bool) (g : Nat → Nat → Nat → Int32) (w : Nat → Nat → Nat → Int64) : Option (Bool) :=
  some (t0)
set_option maxRecDepth 20000 in
set_option maxHeartbeats 2000000 in
theorem e_X7_fails_157 {d : Nat} {Ψ : Option AV → DS → Prop} {i0 : Nat} {p1 : Int32} {p2 : Int32} {p3 : Int32} {p4 : Int32} {r : Bool} {g : Nat → Nat → Nat → Int32} {w : Nat → Nat → Nat → Int64} {t0 : Bool} {x0 : Option AV} {x1 : Option AV} {x2 : Option AV} {x3 : Option AV} {x4 : Option AV} {x5 : Option AV} {x6 : Option AV} {x7 : Option AV} (hΨ : Ψ (some (aI (bI r))) (L0, g, w, q0)) (h : s_X7_fails_157 i0 p1 p2 p3 p4 t0 g w = some r) : Ev (EvM mth (d + 4)) mth c00 sc0 (retP (some .boolean) c00 Ψ) (lkp es_145) 157 [x0, x1, x2, x3, x4, x5, x6, x7] [aI (bI t0)] (L0, g, w, q0) := by
  unfold s_X7_fails_157 at h
  obtain rfl := Option.some.inj h
  exact ev_ireturn rfl ⟨⟨_, rfl, nar_bI _⟩, rfl, rfl, hΨ⟩
def s_X7_fails_140 (i0 : Nat) (p1 : Int32) (p2 : Int32) (p3 : Int32) (p4 : Int32) (t0 : Bool) (g : Nat → Nat → Nat → Int32) (w : Nat → Nat → Nat → Int64) : Option (Bool) :=
  some (t0)
set_option maxRecDepth 20000 in
set_option maxHeartbeats 2000000 in
theorem e_X7_fails_140 {d : Nat} {Ψ : Option AV → DS → Prop} {i0 : Nat} {p1 : Int32} {p2 : Int32} {p3 : Int32} {p4 : Int32} {r : Bool} {g : Nat → Nat → Nat → Int32} {w : Nat → Nat → Nat → Int64} {t0 : Bool} {x0 : Option AV} {x1 : Option AV} {x2 : Option AV} {x3 : Option AV} {x4 : Option AV} {x5 : Option AV} {x6 : Option AV} {x7 : Option AV} (hΨ : Ψ (some (aI (bI r))) (L0, g, w, q0)) (h : s_X7_fails_140 i0 p1 p2 p3 p4 t0 g w = some r) : Ev (EvM mth (d + 4)) mth c00 sc0 (retP (some .boolean) c00 Ψ) (lkp es_145) 140 [x0, x1, x2, x3, x4, x5, x6, x7] [aI (bI t0)] (L0, g, w, q0) := by
  unfold s_X7_fails_140 at h
  obtain rfl := Option.some.inj h
  exact ev_ireturn rfl ⟨⟨_, rfl, nar_bI _⟩, rfl, rfl, hΨ⟩
def s_X7_fails_122 (i0 : Nat) (p1 : Int32) (p2 : Int32) (p3 : Int32) (p4 : Int32) (t0 : Bool) (g : Nat → Nat → Nat → Int32) (w : Nat → Nat → Nat → Int64) : Option (Bool) :=
  some (t0)
set_option maxRecDepth 20000 in
set_option maxHeartbeats 2000000 in
theorem e_X7_fails_122 {d : Nat} {Ψ : Option AV → DS → Prop} {i0 : Nat} {p1 : Int32} {p2 : Int32} {p3 : Int32} {p4 : Int32} {r : Bool} {g : Nat → Nat → Nat → Int32} {w : Nat → Nat → Nat → Int64} {t0 : Bool} {x0 : Option AV} {x1 : Option AV} {x2 : Option AV} {x3 : Option AV} {x4 : Option AV} {x5 : Option AV} {x6 : Option AV} {x7 : Option AV} (hΨ : Ψ (some (aI (bI r))) (L0, g, w, q0)) (h : s_X7_fails_122 i0 p1 p2 p3 p4 t0 g w = some r) : Ev (EvM mth (d + 4)) mth c00 sc0 (retP (some .boolean) c00 Ψ) (lkp es_145) 122 [x0, x1, x2, x3, x4, x5, x6, x7] [aI (bI t0)] (L0, g, w, q0) := by
  unfold s_X7_fails_122 at h
  obtain rfl := Option.some.inj h
  exact ev_ireturn rfl ⟨⟨_, rfl, nar_bI _⟩, rfl, rfl, hΨ⟩
def s_X7_fails_100 (i0 : Nat) (p1 : Int32) (p2 : Int32) (p3 : Int32) (p4 : Int32) (t0 : Bool) (g : Nat → Nat → Nat → Int32) (w : Nat → Nat → Nat → Int64) : Option (Bool) :=
  some (t0)
set_option maxRecDepth 20000 in
set_option maxHeartbeats 2000000 in
theorem e_X7_fails_100 {d : Nat} {Ψ : Option AV → DS → Prop} {i0 : Nat} {p1 : Int32} {p2 : Int32} {p3 : Int32} {p4 : Int32} {r : Bool} {g : Nat → Nat → Nat → Int32} {w : Nat → Nat → Nat → Int64} {t0 : Bool} {x0 : Option AV} {x1 : Option AV} {x2 : Option AV} {x3 : Option AV} {x4 : Option AV} {x5 : Option AV} {x6 : Option AV} {x7 : Option AV} (hΨ : Ψ (some (aI (bI r))) (L0, g, w, q0)) (h : s_X7_fails_100 i0 p1 p2 p3 p4 t0 g w = some r) : Ev (EvM mth (d + 4)) mth c00 sc0 (retP (some .boolean) c00 Ψ) (lkp es_145) 100 [x0, x1, x2, x3, x4, x5, x6, x7] [aI (bI t0)] (L0, g, w, q0) := by
  unfold s_X7_fails_100 at h
  obtain rfl := Option.some.inj h
  exact ev_ireturn rfl ⟨⟨_, rfl, nar_bI _⟩, rfl, rfl, hΨ⟩
def s_X7_fails_76 (i0 : Nat) (p1 : Int32) (p2 : Int32) (p3 : Int32) (p4 : Int32) (t0 : Bool) (g : Nat → Nat → Nat → Int32) (w : Nat → Nat → Nat → Int64) : Option (Bool) :=
  some (t0)
set_option maxRecDepth 20000 in
set_option maxHeartbeats 2000000 in
theorem e_X7_fails_76 {d : Nat} {Ψ : Option AV → DS → Prop} {i0 : Nat} {p1 : Int32} {p2 : Int32} {p3 : Int32} {p4 : Int32} {r : Bool} {g : Nat → Nat → Nat → Int32} {w : Nat → Nat → Nat → Int64} {t0 : Bool} {x0 : Option AV} {x1 : Option AV} {x2 : Option AV} {x3 : Option AV} {x4 : Option AV} {x5 : Option AV} {x6 : Option AV} {x7 : Option AV} (hΨ : Ψ (some (aI (bI r))) (L0, g, w, q0)) (h : s_X7_fails_76 i0 p1 p2 p3 p4 t0 g w = some r) : Ev (EvM mth (d + 4)) mth c00 sc0 (retP (some .boolean) c00 Ψ) (lkp es_145) 76 [x0, x1, x2, x3, x4, x5, x6, x7] [aI (bI t0)] (L0, g, w, q0) := by
  unfold s_X7_fails_76 at h
  obtain rfl := Option.some.inj h
  exact ev_ireturn rfl ⟨⟨_, rfl, nar_bI _⟩, rfl, rfl, hΨ⟩
def s_X7_fails (i0 : Nat) (p1 : Int32) (p2 : Int32) (p3 : Int32) (p4 : Int32) (g : Nat → Nat → Nat → Int32) (w : Nat → Nat → Nat → Int64) : Option (Bool) :=
  (s_X7_ofShip i0 p3 (3 : Int32) g w).bind fun q1 =>
  if p1 = (5 : Int32) then
    (s_X7_workOf i0 p2 g w).bind fun q2 =>
    (s_X7_bunkersOf i0 p2 g w).bind fun q3 =>
    if (lg_cmp ((q2 ||| q3) &&& (s_X7_hours p4 (p4 + q1) g w)) (0 : Int64)) = 0 then
      s_X7_fails_76 i0 p1 p2 p3 p4 false g w
    else
      s_X7_fails_76 i0 p1 p2 p3 p4 true g w
  else
  if p1 = (6 : Int32) then
    (s_X7_workOf i0 p2 g w).bind fun q4 =>
    (s_X7_fuelBehind i0 p2 (q4 ||| (s_X7_hours p4 (p4 + q1) g w)) (47 : Int32) g w).bind fun q5 =>
    if 0 ≤ q5 then
      s_X7_fails_100 i0 p1 p2 p3 p4 false g w
    else
      s_X7_fails_100 i0 p1 p2 p3 p4 true g w
  else
  if p1 = (7 : Int32) then
    (s_X7_workOf i0 p2 g w).bind fun q6 =>
    (s_X7_rests i0 p2 (q6 ||| (s_X7_hours p4 (p4 + q1) g w)) g w).bind fun q7 =>
    if q7 = true then
      s_X7_fails_122 i0 p1 p2 p3 p4 false g w
    else
      s_X7_fails_122 i0 p1 p2 p3 p4 true g w
  else
  if p1 = (8 : Int32) then
    (s_X7_ofTug i0 p2 (7 : Int32) g w).bind fun q8 =>
    if (p4 + q1) ≤ q8 then
      s_X7_fails_140 i0 p1 p2 p3 p4 false g w
    else
      s_X7_fails_140 i0 p1 p2 p3 p4 true g w
  else
    (s_X7_comes i0 p2 p3 p4 g w).bind fun q9 =>
    if q9 = true then
      s_X7_fails_157 i0 p1 p2 p3 p4 false g w
    else
      s_X7_fails_157 i0 p1 p2 p3 p4 true g w
set_option maxRecDepth 20000 in
set_option maxHeartbeats 2000000 in
theorem d_X7_fails {d : Nat} {i0 : Nat} {p1 : Int32} {p2 : Int32} {p3 : Int32} {p4 : Int32} {g : Nat → Nat → Nat → Int32} {w : Nat → Nat → Nat → Int64} {r : Bool} (h : s_X7_fails i0 p1 p2 p3 p4 g w = some r) : Does (EvM mth (d + 5)) 145 [aR 7 i0, aI p1, aI p2, aI p3, aI p4] (L0, g, w, q0) (some (aI (bI r))) (L0, g, w, q0) := by
  intro Ψ hΨ
  refine ⟨in_145, mth_145, Nat.le_of_ble_eq_true rfl, ?_⟩
  show Ev (EvM mth (d + 4)) mth c00 sc0 (retP (some .boolean) c00 Ψ) (lkp es_145) 0 [some (aR 7 i0), some (aI p1), some (aI p2), some (aI p3), some (aI p4), none, none, none] [] (L0, g, w, q0)
  unfold s_X7_fails at h
  refine ev_iload (pc' := 2) rfl rfl rfl ?_
  refine ev_aload_n (pc' := 3) rfl rfl rfl ?_
  refine ev_iload_n (pc' := 4) rfl rfl rfl ?_
  refine ev_iconst (pc' := 5) rfl rfl (v := (3 : Int32)) (by decide) ?_
  obtain ⟨q1, hq1, h⟩ := Option.bind_eq_some_iff.mp h
  refine ev_V3I (pc' := 8) rfl (by decide) rfl mth_118 ⟨Nat.le_of_ble_eq_true rfl, rfl⟩ ⟨Nat.le_refl _, Nat.le_refl _⟩ (d_X7_ofShip hq1) ?_
  refine ev_iadd (pc' := 9) rfl rfl ?_
  refine ev_istore (pc' := 11) rfl rfl (l' := [some (aR 7 i0), some (aI p1), some (aI p2), some (aI p3), some (aI p4), some (aI (p4 + q1)), none, none]) rfl ?_
  refine ev_iload (pc' := 13) rfl rfl rfl ?_
  refine ev_iload (pc' := 15) rfl rfl rfl ?_
  refine ev_S2L (pc' := 18) rfl (by decide) rfl mth_134 ⟨Nat.le_of_ble_eq_true rfl, rfl⟩ ⟨Nat.le_refl _, Nat.le_refl _⟩ d_X7_hours ?_
  refine ev_lstore (pc' := 20) rfl rfl (l' := [some (aR 7 i0), some (aI p1), some (aI p2), some (aI p3), some (aI p4), some (aI (p4 + q1)), some (aL (s_X7_hours p4 (p4 + q1) g w)), none]) rfl ?_
  refine ev_iload_n (pc' := 21) rfl rfl rfl ?_
  refine ev_tsw rfl (fun hd => ?_) (fun n u hn hv => ?_)
  · skip
    have h := (if_neg (show ¬ p1 = (5 : Int32) from fun e9 => by rw [e9] at hd; revert hd; decide)).symm.trans h
    have h := (if_neg (show ¬ p1 = (6 : Int32) from fun e9 => by rw [e9] at hd; revert hd; decide)).symm.trans h
    have h := (if_neg (show ¬ p1 = (7 : Int32) from fun e9 => by rw [e9] at hd; revert hd; decide)).symm.trans h
    have h := (if_neg (show ¬ p1 = (8 : Int32) from fun e9 => by rw [e9] at hd; revert hd; decide)).symm.trans h
    refine ev_aload_n (pc' := 142) rfl rfl rfl ?_
    refine ev_iload_n (pc' := 143) rfl rfl rfl ?_
    refine ev_iload_n (pc' := 144) rfl rfl rfl ?_
    refine ev_iload (pc' := 146) rfl rfl rfl ?_
    obtain ⟨q9, hq9, h⟩ := Option.bind_eq_some_iff.mp h
    refine ev_V4I (pc' := 149) rfl (by decide) rfl mth_144 ⟨Nat.le_of_ble_eq_true rfl, rfl⟩ ⟨Nat.le_refl _, Nat.le_refl _⟩ (d_X7_comes hq9) ?_
    refine ev_ifB_ne rfl (pc' := 152) rfl (fun hc => ?_) (fun hc => ?_)
    · have h := (if_pos hc).symm.trans h
      refine ev_iconst (pc' := 157) rfl rfl (v := (0 : Int32)) (by decide) ?_
      exact e_X7_fails_157 hΨ h
    · have h := (if_neg hc).symm.trans h
      refine ev_iconst (pc' := 153) rfl rfl (v := (1 : Int32)) (by decide) ?_
      refine ev_goto (pc' := 157) rfl ?_
      exact e_X7_fails_157 hΨ h
  · match n, hn with
    | 0, hn =>
      obtain rfl := Option.some.inj hn
      have e9 : p1 = (5 : Int32) := Int32.toInt_inj.mp (hv.trans (by decide))
      have h := (if_pos e9).symm.trans h
      refine ev_aload_n (pc' := 53) rfl rfl rfl ?_
      refine ev_iload_n (pc' := 54) rfl rfl rfl ?_
      obtain ⟨q2, hq2, h⟩ := Option.bind_eq_some_iff.mp h
      refine ev_V2L (pc' := 57) rfl (by decide) rfl mth_135 ⟨Nat.le_of_ble_eq_true rfl, rfl⟩ ⟨Nat.le_refl _, Nat.le_refl _⟩ (d_X7_workOf hq2) ?_
      refine ev_aload_n (pc' := 58) rfl rfl rfl ?_
      refine ev_iload_n (pc' := 59) rfl rfl rfl ?_
      obtain ⟨q3, hq3, h⟩ := Option.bind_eq_some_iff.mp h
      refine ev_V2L (pc' := 62) rfl (by decide) rfl mth_136 ⟨Nat.le_of_ble_eq_true rfl, rfl⟩ ⟨Nat.le_refl _, Nat.le_refl _⟩ (d_X7_bunkersOf hq3) ?_
      refine ev_lor (pc' := 63) rfl rfl ?_
      refine ev_lload (pc' := 65) rfl rfl rfl ?_
      refine ev_land (pc' := 66) rfl rfl ?_
      refine ev_lconst (pc' := 67) rfl rfl (v := (0 : Int64)) (by decide) ?_
      refine ev_lcmp (pc' := 68) rfl rfl ?_
      refine ev_if_eq rfl (pc' := 71) rfl (fun hc => ?_) (fun hc => ?_)
      · have h := (if_pos hc).symm.trans h
        refine ev_iconst (pc' := 76) rfl rfl (v := (0 : Int32)) (by decide) ?_
        exact e_X7_fails_76 hΨ h
      · have h := (if_neg hc).symm.trans h
        refine ev_iconst (pc' := 72) rfl rfl (v := (1 : Int32)) (by decide) ?_
        refine ev_goto (pc' := 76) rfl ?_
        exact e_X7_fails_76 hΨ h
    | 1, hn =>
      obtain rfl := Option.some.inj hn
      have e9 : p1 = (6 : Int32) := Int32.toInt_inj.mp (hv.trans (by decide))
      have h := (if_neg (show ¬ p1 = (5 : Int32) from by rw [e9]; decide)).symm.trans h
      have h := (if_pos e9).symm.trans h
      refine ev_aload_n (pc' := 78) rfl rfl rfl ?_
      refine ev_iload_n (pc' := 79) rfl rfl rfl ?_
      refine ev_aload_n (pc' := 80) rfl rfl rfl ?_
      refine ev_iload_n (pc' := 81) rfl rfl rfl ?_
      obtain ⟨q4, hq4, h⟩ := Option.bind_eq_some_iff.mp h
      refine ev_V2L (pc' := 84) rfl (by decide) rfl mth_135 ⟨Nat.le_of_ble_eq_true rfl, rfl⟩ ⟨Nat.le_refl _, Nat.le_refl _⟩ (d_X7_workOf hq4) ?_
      refine ev_lload (pc' := 86) rfl rfl rfl ?_
      refine ev_lor (pc' := 87) rfl rfl ?_
      refine ev_bipush (pc' := 89) rfl rfl (v := (47 : Int32)) (by decide) ?_
      obtain ⟨q5, hq5, h⟩ := Option.bind_eq_some_iff.mp h
      refine ev_V4I (pc' := 92) rfl (by decide) rfl mth_137 ⟨Nat.le_of_ble_eq_true rfl, rfl⟩ ⟨Nat.le_refl _, Nat.le_refl _⟩ (d_X7_fuelBehind hq5) ?_
      refine ev_if_ge rfl (pc' := 95) rfl (fun hc => ?_) (fun hc => ?_)
      · have h := (if_pos hc).symm.trans h
        refine ev_iconst (pc' := 100) rfl rfl (v := (0 : Int32)) (by decide) ?_
        exact e_X7_fails_100 hΨ h
      · have h := (if_neg hc).symm.trans h
        refine ev_iconst (pc' := 96) rfl rfl (v := (1 : Int32)) (by decide) ?_
        refine ev_goto (pc' := 100) rfl ?_
        exact e_X7_fails_100 hΨ h
    | 2, hn =>
      obtain rfl := Option.some.inj hn
      have e9 : p1 = (7 : Int32) := Int32.toInt_inj.mp (hv.trans (by decide))
      have h := (if_neg (show ¬ p1 = (5 : Int32) from by rw [e9]; decide)).symm.trans h
      have h := (if_neg (show ¬ p1 = (6 : Int32) from by rw [e9]; decide)).symm.trans h
      have h := (if_pos e9).symm.trans h
      refine ev_aload_n (pc' := 102) rfl rfl rfl ?_
      refine ev_iload_n (pc' := 103) rfl rfl rfl ?_
      refine ev_aload_n (pc' := 104) rfl rfl rfl ?_
      refine ev_iload_n (pc' := 105) rfl rfl rfl ?_
      obtain ⟨q6, hq6, h⟩ := Option.bind_eq_some_iff.mp h
      refine ev_V2L (pc' := 108) rfl (by decide) rfl mth_135 ⟨Nat.le_of_ble_eq_true rfl, rfl⟩ ⟨Nat.le_refl _, Nat.le_refl _⟩ (d_X7_workOf hq6) ?_
      refine ev_lload (pc' := 110) rfl rfl rfl ?_
      refine ev_lor (pc' := 111) rfl rfl ?_
      obtain ⟨q7, hq7, h⟩ := Option.bind_eq_some_iff.mp h
      refine ev_V3I (pc' := 114) rfl (by decide) rfl mth_141 ⟨Nat.le_of_ble_eq_true rfl, rfl⟩ ⟨Nat.le_refl _, Nat.le_refl _⟩ (d_X7_rests hq7) ?_
      refine ev_ifB_ne rfl (pc' := 117) rfl (fun hc => ?_) (fun hc => ?_)
      · have h := (if_pos hc).symm.trans h
        refine ev_iconst (pc' := 122) rfl rfl (v := (0 : Int32)) (by decide) ?_
        exact e_X7_fails_122 hΨ h
      · have h := (if_neg hc).symm.trans h
        refine ev_iconst (pc' := 118) rfl rfl (v := (1 : Int32)) (by decide) ?_
        refine ev_goto (pc' := 122) rfl ?_
        exact e_X7_fails_122 hΨ h
    | 3, hn =>
      obtain rfl := Option.some.inj hn
      have e9 : p1 = (8 : Int32) := Int32.toInt_inj.mp (hv.trans (by decide))
      have h := (if_neg (show ¬ p1 = (5 : Int32) from by rw [e9]; decide)).symm.trans h
      have h := (if_neg (show ¬ p1 = (6 : Int32) from by rw [e9]; decide)).symm.trans h
      have h := (if_neg (show ¬ p1 = (7 : Int32) from by rw [e9]; decide)).symm.trans h
      have h := (if_pos e9).symm.trans h
      refine ev_aload_n (pc' := 124) rfl rfl rfl ?_
      refine ev_iload_n (pc' := 125) rfl rfl rfl ?_
      refine ev_bipush (pc' := 127) rfl rfl (v := (7 : Int32)) (by decide) ?_
      obtain ⟨q8, hq8, h⟩ := Option.bind_eq_some_iff.mp h
      refine ev_V3I (pc' := 130) rfl (by decide) rfl mth_117 ⟨Nat.le_of_ble_eq_true rfl, rfl⟩ ⟨Nat.le_refl _, Nat.le_refl _⟩ (d_X7_ofTug hq8) ?_
      refine ev_iload (pc' := 132) rfl rfl rfl ?_
      refine ev_icmp_ge rfl (pc' := 135) rfl (fun hc => ?_) (fun hc => ?_)
      · have h := (if_pos hc).symm.trans h
        refine ev_iconst (pc' := 140) rfl rfl (v := (0 : Int32)) (by decide) ?_
        exact e_X7_fails_140 hΨ h
      · have h := (if_neg hc).symm.trans h
        refine ev_iconst (pc' := 136) rfl rfl (v := (1 : Int32)) (by decide) ?_
        refine ev_goto (pc' := 140) rfl ?_
        exact e_X7_fails_140 hΨ h
    | n + 4, hn => exact absurd hn (by simp)
def s_X7_off (i0 : Nat) (p1 : Int32) (g : Nat → Nat → Nat → Int32) (w : Nat → Nat → Nat → Int64) : Option (Int32 × GS) :=
  if (s_X7_isShip i0 p1 g w) = true then
    (s_X7_hasJob i0 p1 g w).bind fun q1 =>
    if q1 = true then
      (s_X7_ofShip i0 p1 (7 : Int32) g w).bind fun q2 =>
      (s_X7_takes i0 p1 (0 : Int32) g w).bind fun q3 =>
      some ((q2, q3.2.1, q3.2.2))
    else
      some (((-2 : Int32), g, w))
  else
    some (((-1 : Int32), g, w))
set_option maxRecDepth 20000 in
set_option maxHeartbeats 2000000 in
theorem d_X7_off {d : Nat} {i0 : Nat} {p1 : Int32} {g : Nat → Nat → Nat → Int32} {w : Nat → Nat → Nat → Int64} {r : Int32 × GS} (h : s_X7_off i0 p1 g w = some r) : Does (EvM mth (d + 5)) 156 [aR 7 i0, aI p1] (L0, g, w, q0) (some (aI r.1)) (L0, r.2.1, r.2.2, q0) := by
  intro Ψ hΨ
  refine ⟨in_156, mth_156, Nat.le_of_ble_eq_true rfl, ?_⟩
  show Ev (EvM mth (d + 4)) mth c00 sc0 (retP (some .int) c00 Ψ) (lkp es_156) 0 [some (aR 7 i0), some (aI p1), none] [] (L0, g, w, q0)
  unfold s_X7_off at h
  refine ev_aload_n (pc' := 1) rfl rfl rfl ?_
  refine ev_iload_n (pc' := 2) rfl rfl rfl ?_
  refine ev_V2I (pc' := 5) rfl (by decide) rfl mth_120 ⟨Nat.le_of_ble_eq_true rfl, rfl⟩ ⟨Nat.le_refl _, Nat.le_refl _⟩ d_X7_isShip ?_
  refine ev_ifB_ne rfl (pc' := 8) rfl (fun hc => ?_) (fun hc => ?_)
  · have h := (if_pos hc).symm.trans h
    refine ev_aload_n (pc' := 11) rfl rfl rfl ?_
    refine ev_iload_n (pc' := 12) rfl rfl rfl ?_
    obtain ⟨q1, hq1, h⟩ := Option.bind_eq_some_iff.mp h
    refine ev_V2I (pc' := 15) rfl (by decide) rfl mth_125 ⟨Nat.le_of_ble_eq_true rfl, rfl⟩ ⟨Nat.le_refl _, Nat.le_refl _⟩ (d_X7_hasJob hq1) ?_
    refine ev_ifB_ne rfl (pc' := 18) rfl (fun hc => ?_) (fun hc => ?_)
    · have h := (if_pos hc).symm.trans h
      refine ev_aload_n (pc' := 22) rfl rfl rfl ?_
      refine ev_iload_n (pc' := 23) rfl rfl rfl ?_
      refine ev_bipush (pc' := 25) rfl rfl (v := (7 : Int32)) (by decide) ?_
      obtain ⟨q2, hq2, h⟩ := Option.bind_eq_some_iff.mp h
      refine ev_V3I (pc' := 28) rfl (by decide) rfl mth_118 ⟨Nat.le_of_ble_eq_true rfl, rfl⟩ ⟨Nat.le_refl _, Nat.le_refl _⟩ (d_X7_ofShip hq2) ?_
      refine ev_istore_n (pc' := 29) rfl rfl (l' := [some (aR 7 i0), some (aI p1), some (aI q2)]) rfl ?_
      refine ev_aload_n (pc' := 30) rfl rfl rfl ?_
      refine ev_iload_n (pc' := 31) rfl rfl rfl ?_
      refine ev_iconst (pc' := 32) rfl rfl (v := (0 : Int32)) (by decide) ?_
      obtain ⟨q3, hq3, h⟩ := Option.bind_eq_some_iff.mp h
      refine ev_V3I (pc' := 35) rfl (by decide) rfl mth_155 ⟨Nat.le_of_ble_eq_true rfl, rfl⟩ ⟨Nat.le_refl _, Nat.le_refl _⟩ (d_X7_takes hq3) ?_
      refine ev_pop (pc' := 36) rfl rfl rfl ?_
      refine ev_iload_n (pc' := 37) rfl rfl rfl ?_
      obtain rfl := Option.some.inj h
      exact ev_ireturn rfl ⟨⟨_, rfl, rfl⟩, rfl, rfl, hΨ⟩
    · have h := (if_neg hc).symm.trans h
      refine ev_bipush (pc' := 20) rfl rfl (v := (-2 : Int32)) (by decide) ?_
      obtain rfl := Option.some.inj h
      exact ev_ireturn rfl ⟨⟨_, rfl, rfl⟩, rfl, rfl, hΨ⟩
  · have h := (if_neg hc).symm.trans h
    refine ev_iconst (pc' := 9) rfl rfl (v := (-1 : Int32)) (by decide) ?_
    obtain rfl := Option.some.inj h
    exact ev_ireturn rfl ⟨⟨_, rfl, rfl⟩, rfl, rfl, hΨ⟩
def s_X7_breaks_187 (i0 : Nat) (p1 : Int32) (p2 : Int32) (rec36 : Int32 → Int32 → (Nat → Nat → Nat → Int32) → (Nat → Nat → Nat → Int64) → Option (Int32 × GS)) (v3 : Int32) (v4 : Int32) (g : Nat → Nat → Nat → Int32) (w : Nat → Nat → Nat → Int64) : Option (Int32 × GS) :=
  rec36 v3 (v4 + 1) g w
set_option maxRecDepth 20000 in
set_option maxHeartbeats 2000000 in
theorem e_X7_breaks_187 {d : Nat} {Ψ : Option AV → DS → Prop} {i0 : Nat} {p1 : Int32} {p2 : Int32} {rec36 : Int32 → Int32 → (Nat → Nat → Nat → Int32) → (Nat → Nat → Nat → Int64) → Option (Int32 × GS)} {r : Int32 × GS} {g : Nat → Nat → Nat → Int32} {w : Nat → Nat → Nat → Int64} {v3 : Int32} {v4 : Int32} (hr36 : ∀ {v3 : Int32} {v4 : Int32} {g : Nat → Nat → Nat → Int32} {w : Nat → Nat → Nat → Int64} , rec36 v3 v4 g w = some r → Ev (EvM mth (d + 4)) mth c00 sc0 (retP (some .int) c00 Ψ) (lkp es_177) 36 [some (aR 7 i0), some (aI p1), some (aI p2), some (aI v3), some (aI v4)] [] (L0, g, w, q0)) (hΨ : Ψ (some (aI r.1)) (L0, r.2.1, r.2.2, q0)) (h : s_X7_breaks_187 i0 p1 p2 rec36 v3 v4 g w = some r) : Ev (EvM mth (d + 4)) mth c00 sc0 (retP (some .int) c00 Ψ) (lkp es_177) 187 [some (aR 7 i0), some (aI p1), some (aI p2), some (aI v3), some (aI v4)] [] (L0, g, w, q0) := by
  unfold s_X7_breaks_187 at h
  refine ev_iinc (pc' := 190) rfl rfl (l' := [some (aR 7 i0), some (aI p1), some (aI p2), some (aI v3), some (aI (v4 + 1))]) rfl (ii_1 _) rfl ?_
  refine ev_goto (pc' := 36) rfl ?_
  exact hr36 h
def s_X7_breaks_36 (i0 : Nat) (p1 : Int32) (p2 : Int32) (rec36 : Int32 → Int32 → (Nat → Nat → Nat → Int32) → (Nat → Nat → Nat → Int64) → Option (Int32 × GS)) (v3 : Int32) (v4 : Int32) (g : Nat → Nat → Nat → Int32) (w : Nat → Nat → Nat → Int64) : Option (Int32 × GS) :=
  if 0 ≤ (lg_cmp v4.toInt64 (w 2218 0 (65 : Int32).toNatClampNeg)) then
    if inR (((70 : Int32) + ((10 : Int32) * p1)) + (7 : Int32)) 218 = true then
      if inR (((70 : Int32) + ((10 : Int32) * p1)) + (9 : Int32)) 218 = true then
        if inR (((70 : Int32) + ((10 : Int32) * p1)) + (9 : Int32)) 218 = true then
          some ((v3, g, (wL (wL (wL w 2218 0 (((70 : Int32) + ((10 : Int32) * p1)) + (7 : Int32)).toNatClampNeg p2.toInt64) 2218 0 (((70 : Int32) + ((10 : Int32) * p1)) + (9 : Int32)).toNatClampNeg (((wL w 2218 0 (((70 : Int32) + ((10 : Int32) * p1)) + (7 : Int32)).toNatClampNeg p2.toInt64) 2218 0 (((70 : Int32) + ((10 : Int32) * p1)) + (9 : Int32)).toNatClampNeg) &&& (s_X7_hours (0 : Int32) p2 g (wL w 2218 0 (((70 : Int32) + ((10 : Int32) * p1)) + (7 : Int32)).toNatClampNeg p2.toInt64)))) 2218 0 (67 : Int32).toNatClampNeg (((wL (wL w 2218 0 (((70 : Int32) + ((10 : Int32) * p1)) + (7 : Int32)).toNatClampNeg p2.toInt64) 2218 0 (((70 : Int32) + ((10 : Int32) * p1)) + (9 : Int32)).toNatClampNeg (((wL w 2218 0 (((70 : Int32) + ((10 : Int32) * p1)) + (7 : Int32)).toNatClampNeg p2.toInt64) 2218 0 (((70 : Int32) + ((10 : Int32) * p1)) + (9 : Int32)).toNatClampNeg) &&& (s_X7_hours (0 : Int32) p2 g (wL w 2218 0 (((70 : Int32) + ((10 : Int32) * p1)) + (7 : Int32)).toNatClampNeg p2.toInt64)))) 2218 0 (67 : Int32).toNatClampNeg) + v3.toInt64))))
        else none
      else none
    else none
  else
    (s_X7_isOf i0 v4 p1 g w).bind fun q1 =>
    if q1 = true then
      (s_X7_last i0 v4 g w).bind fun q2 =>
      if q2 < p2 then
        s_X7_breaks_187 i0 p1 p2 rec36 v3 v4 g w
      else
        (s_X7_goesOn i0 v4 p1 p2 g w).bind fun q3 =>
        if q3 = true then
          if inR (((70 : Int32) + ((10 : Int32) * p1)) + (8 : Int32)) 218 = true then
            (s_X7_last i0 v4 g w).bind fun q5 =>
            if inR (((70 : Int32) + ((10 : Int32) * p1)) + (8 : Int32)) 218 = true then
              (s_X7_last i0 v4 g (wL w 2218 0 (((70 : Int32) + ((10 : Int32) * p1)) + (8 : Int32)).toNatClampNeg ((w 2218 0 (((70 : Int32) + ((10 : Int32) * p1)) + (8 : Int32)).toNatClampNeg) &&& ((s_X7_hours p2 (q5 + (1 : Int32)) g w) ^^^ (-1 : Int64))))).bind fun q6 =>
              if inR (((130 : Int32) + ((11 : Int32) * v4)) + (8 : Int32)) 218 = true then
                if inR (((130 : Int32) + ((11 : Int32) * v4)) + (8 : Int32)) 218 = true then
                  s_X7_breaks_187 i0 p1 p2 rec36 v3 v4 g (wL (wL (wL w 2218 0 (((70 : Int32) + ((10 : Int32) * p1)) + (8 : Int32)).toNatClampNeg ((w 2218 0 (((70 : Int32) + ((10 : Int32) * p1)) + (8 : Int32)).toNatClampNeg) &&& ((s_X7_hours p2 (q5 + (1 : Int32)) g w) ^^^ (-1 : Int64)))) 2218 0 (68 : Int32).toNatClampNeg (((wL w 2218 0 (((70 : Int32) + ((10 : Int32) * p1)) + (8 : Int32)).toNatClampNeg ((w 2218 0 (((70 : Int32) + ((10 : Int32) * p1)) + (8 : Int32)).toNatClampNeg) &&& ((s_X7_hours p2 (q5 + (1 : Int32)) g w) ^^^ (-1 : Int64)))) 2218 0 (68 : Int32).toNatClampNeg) + ((q6 + (1 : Int32)) - p2).toInt64)) 2218 0 (((130 : Int32) + ((11 : Int32) * v4)) + (8 : Int32)).toNatClampNeg (((wL (wL w 2218 0 (((70 : Int32) + ((10 : Int32) * p1)) + (8 : Int32)).toNatClampNeg ((w 2218 0 (((70 : Int32) + ((10 : Int32) * p1)) + (8 : Int32)).toNatClampNeg) &&& ((s_X7_hours p2 (q5 + (1 : Int32)) g w) ^^^ (-1 : Int64)))) 2218 0 (68 : Int32).toNatClampNeg (((wL w 2218 0 (((70 : Int32) + ((10 : Int32) * p1)) + (8 : Int32)).toNatClampNeg ((w 2218 0 (((70 : Int32) + ((10 : Int32) * p1)) + (8 : Int32)).toNatClampNeg) &&& ((s_X7_hours p2 (q5 + (1 : Int32)) g w) ^^^ (-1 : Int64)))) 2218 0 (68 : Int32).toNatClampNeg) + ((q6 + (1 : Int32)) - p2).toInt64)) 2218 0 (((130 : Int32) + ((11 : Int32) * v4)) + (8 : Int32)).toNatClampNeg) &&& (((1 : Int64) <<< (p1.toInt64 &&& 63)) ^^^ (-1 : Int64))))
                else none
              else none
            else none
          else none
        else
          (s_X7_takes i0 v4 p2 g w).bind fun q4 =>
          s_X7_breaks_187 i0 p1 p2 rec36 (v3 + 1) v4 q4.2.1 (wL q4.2.2 2218 0 (68 : Int32).toNatClampNeg ((w 2218 0 (68 : Int32).toNatClampNeg) + q4.1.toInt64))
    else
      s_X7_breaks_187 i0 p1 p2 rec36 v3 v4 g w
set_option maxRecDepth 20000 in
set_option maxHeartbeats 2000000 in
theorem e_X7_breaks_36 {d : Nat} {Ψ : Option AV → DS → Prop} {i0 : Nat} {p1 : Int32} {p2 : Int32} {rec36 : Int32 → Int32 → (Nat → Nat → Nat → Int32) → (Nat → Nat → Nat → Int64) → Option (Int32 × GS)} {r : Int32 × GS} {g : Nat → Nat → Nat → Int32} {w : Nat → Nat → Nat → Int64} {v3 : Int32} {v4 : Int32} (hr36 : ∀ {v3 : Int32} {v4 : Int32} {g : Nat → Nat → Nat → Int32} {w : Nat → Nat → Nat → Int64} , rec36 v3 v4 g w = some r → Ev (EvM mth (d + 4)) mth c00 sc0 (retP (some .int) c00 Ψ) (lkp es_177) 36 [some (aR 7 i0), some (aI p1), some (aI p2), some (aI v3), some (aI v4)] [] (L0, g, w, q0)) (hΨ : Ψ (some (aI r.1)) (L0, r.2.1, r.2.2, q0)) (h : s_X7_breaks_36 i0 p1 p2 rec36 v3 v4 g w = some r) : Ev (EvM mth (d + 4)) mth c00 sc0 (retP (some .int) c00 Ψ) (lkp es_177) 36 [some (aR 7 i0), some (aI p1), some (aI p2), some (aI v3), some (aI v4)] [] (L0, g, w, q0) := by
  unfold s_X7_breaks_36 at h
  refine ev_iload (pc' := 38) rfl rfl rfl ?_
  refine ev_i2l (pc' := 39) rfl rfl ?_
  refine ev_aload_n (pc' := 40) rfl rfl rfl ?_
  refine ev_getQ (pc' := 43) rfl rfl rfl ?_
  refine ev_bipush (pc' := 45) rfl rfl (v := (65 : Int32)) (by decide) ?_
  refine ev_lald (pc' := 46) rfl rfl rfl (inR_vp (by decide)) ?_
  refine ev_lcmp (pc' := 47) rfl rfl ?_
  refine ev_if_ge rfl (pc' := 50) rfl (fun hc => ?_) (fun hc => ?_)
  · have h := (if_pos hc).symm.trans h
    refine ev_aload_n (pc' := 194) rfl rfl rfl ?_
    refine ev_getQ (pc' := 197) rfl rfl rfl ?_
    refine ev_bipush (pc' := 199) rfl rfl (v := (70 : Int32)) (by decide) ?_
    refine ev_bipush (pc' := 201) rfl rfl (v := (10 : Int32)) (by decide) ?_
    refine ev_iload_n (pc' := 202) rfl rfl rfl ?_
    refine ev_imul (pc' := 203) rfl rfl ?_
    refine ev_iadd (pc' := 204) rfl rfl ?_
    refine ev_bipush (pc' := 206) rfl rfl (v := (7 : Int32)) (by decide) ?_
    refine ev_iadd (pc' := 207) rfl rfl ?_
    refine ev_iload_n (pc' := 208) rfl rfl rfl ?_
    refine ev_i2l (pc' := 209) rfl rfl ?_
    obtain ⟨hi, h⟩ := gdB h
    refine ev_last (pc' := 210) rfl rfl rfl (inR_vp hi) ?_
    refine ev_aload_n (pc' := 211) rfl rfl rfl ?_
    refine ev_getQ (pc' := 214) rfl rfl rfl ?_
    refine ev_bipush (pc' := 216) rfl rfl (v := (70 : Int32)) (by decide) ?_
    refine ev_bipush (pc' := 218) rfl rfl (v := (10 : Int32)) (by decide) ?_
    refine ev_iload_n (pc' := 219) rfl rfl rfl ?_
    refine ev_imul (pc' := 220) rfl rfl ?_
    refine ev_iadd (pc' := 221) rfl rfl ?_
    refine ev_bipush (pc' := 223) rfl rfl (v := (9 : Int32)) (by decide) ?_
    refine ev_iadd (pc' := 224) rfl rfl ?_
    refine ev_dup2 (pc' := 225) rfl rfl rfl rfl ?_
    obtain ⟨hi, h⟩ := gdB h
    refine ev_lald (pc' := 226) rfl rfl rfl (inR_vp hi) ?_
    refine ev_iconst (pc' := 227) rfl rfl (v := (0 : Int32)) (by decide) ?_
    refine ev_iload_n (pc' := 228) rfl rfl rfl ?_
    refine ev_S2L (pc' := 231) rfl (by decide) rfl mth_134 ⟨Nat.le_of_ble_eq_true rfl, rfl⟩ ⟨Nat.le_refl _, Nat.le_refl _⟩ d_X7_hours ?_
    refine ev_land (pc' := 232) rfl rfl ?_
    obtain ⟨hi, h⟩ := gdB h
    refine ev_last (pc' := 233) rfl rfl rfl (inR_vp hi) ?_
    refine ev_aload_n (pc' := 234) rfl rfl rfl ?_
    refine ev_getQ (pc' := 237) rfl rfl rfl ?_
    refine ev_bipush (pc' := 239) rfl rfl (v := (67 : Int32)) (by decide) ?_
    refine ev_dup2 (pc' := 240) rfl rfl rfl rfl ?_
    refine ev_lald (pc' := 241) rfl rfl rfl (inR_vp (by decide)) ?_
    refine ev_iload_n (pc' := 242) rfl rfl rfl ?_
    refine ev_i2l (pc' := 243) rfl rfl ?_
    refine ev_ladd (pc' := 244) rfl rfl ?_
    refine ev_last (pc' := 245) rfl rfl rfl (inR_vp (by decide)) ?_
    refine ev_iload_n (pc' := 246) rfl rfl rfl ?_
    obtain rfl := Option.some.inj h
    exact ev_ireturn rfl ⟨⟨_, rfl, rfl⟩, rfl, rfl, hΨ⟩
  · have h := (if_neg hc).symm.trans h
    refine ev_aload_n (pc' := 51) rfl rfl rfl ?_
    refine ev_iload (pc' := 53) rfl rfl rfl ?_
    refine ev_iload_n (pc' := 54) rfl rfl rfl ?_
    obtain ⟨q1, hq1, h⟩ := Option.bind_eq_some_iff.mp h
    refine ev_V3I (pc' := 57) rfl (by decide) rfl mth_143 ⟨Nat.le_of_ble_eq_true rfl, rfl⟩ ⟨Nat.le_refl _, Nat.le_refl _⟩ (d_X7_isOf hq1) ?_
    refine ev_ifB_eq rfl (pc' := 60) rfl (fun hc => ?_) (fun hc => ?_)
    · have h := (if_neg hc).symm.trans h
      exact e_X7_breaks_187 (hr36 := hr36) hΨ h
    · have h := (if_pos hc).symm.trans h
      refine ev_aload_n (pc' := 61) rfl rfl rfl ?_
      refine ev_iload (pc' := 63) rfl rfl rfl ?_
      obtain ⟨q2, hq2, h⟩ := Option.bind_eq_some_iff.mp h
      refine ev_V2I (pc' := 66) rfl (by decide) rfl mth_142 ⟨Nat.le_of_ble_eq_true rfl, rfl⟩ ⟨Nat.le_refl _, Nat.le_refl _⟩ (d_X7_last hq2) ?_
      refine ev_iload_n (pc' := 67) rfl rfl rfl ?_
      refine ev_icmp_lt rfl (pc' := 70) rfl (fun hc => ?_) (fun hc => ?_)
      · have h := (if_pos hc).symm.trans h
        exact e_X7_breaks_187 (hr36 := hr36) hΨ h
      · have h := (if_neg hc).symm.trans h
        refine ev_aload_n (pc' := 71) rfl rfl rfl ?_
        refine ev_iload (pc' := 73) rfl rfl rfl ?_
        refine ev_iload_n (pc' := 74) rfl rfl rfl ?_
        refine ev_iload_n (pc' := 75) rfl rfl rfl ?_
        obtain ⟨q3, hq3, h⟩ := Option.bind_eq_some_iff.mp h
        refine ev_V4I (pc' := 78) rfl (by decide) rfl mth_176 ⟨Nat.le_of_ble_eq_true rfl, rfl⟩ ⟨Nat.le_refl _, Nat.le_refl _⟩ (d_X7_goesOn hq3) ?_
        refine ev_ifB_eq rfl (pc' := 81) rfl (fun hc => ?_) (fun hc => ?_)
        · have h := (if_neg hc).symm.trans h
          refine ev_aload_n (pc' := 167) rfl rfl rfl ?_
          refine ev_getQ (pc' := 170) rfl rfl rfl ?_
          refine ev_bipush (pc' := 172) rfl rfl (v := (68 : Int32)) (by decide) ?_
          refine ev_dup2 (pc' := 173) rfl rfl rfl rfl ?_
          refine ev_lald (pc' := 174) rfl rfl rfl (inR_vp (by decide)) ?_
          refine ev_aload_n (pc' := 175) rfl rfl rfl ?_
          refine ev_iload (pc' := 177) rfl rfl rfl ?_
          refine ev_iload_n (pc' := 178) rfl rfl rfl ?_
          obtain ⟨q4, hq4, h⟩ := Option.bind_eq_some_iff.mp h
          refine ev_V3I (pc' := 181) rfl (by decide) rfl mth_155 ⟨Nat.le_of_ble_eq_true rfl, rfl⟩ ⟨Nat.le_refl _, Nat.le_refl _⟩ (d_X7_takes hq4) ?_
          refine ev_i2l (pc' := 182) rfl rfl ?_
          refine ev_ladd (pc' := 183) rfl rfl ?_
          refine ev_last (pc' := 184) rfl rfl rfl (inR_vp (by decide)) ?_
          refine ev_iinc (pc' := 187) rfl rfl (l' := [some (aR 7 i0), some (aI p1), some (aI p2), some (aI (v3 + 1)), some (aI v4)]) rfl (ii_1 _) rfl ?_
          exact e_X7_breaks_187 (hr36 := hr36) hΨ h
        · have h := (if_pos hc).symm.trans h
          refine ev_aload_n (pc' := 82) rfl rfl rfl ?_
          refine ev_getQ (pc' := 85) rfl rfl rfl ?_
          refine ev_bipush (pc' := 87) rfl rfl (v := (70 : Int32)) (by decide) ?_
          refine ev_bipush (pc' := 89) rfl rfl (v := (10 : Int32)) (by decide) ?_
          refine ev_iload_n (pc' := 90) rfl rfl rfl ?_
          refine ev_imul (pc' := 91) rfl rfl ?_
          refine ev_iadd (pc' := 92) rfl rfl ?_
          refine ev_bipush (pc' := 94) rfl rfl (v := (8 : Int32)) (by decide) ?_
          refine ev_iadd (pc' := 95) rfl rfl ?_
          refine ev_dup2 (pc' := 96) rfl rfl rfl rfl ?_
          obtain ⟨hi, h⟩ := gdB h
          refine ev_lald (pc' := 97) rfl rfl rfl (inR_vp hi) ?_
          refine ev_iload_n (pc' := 98) rfl rfl rfl ?_
          refine ev_aload_n (pc' := 99) rfl rfl rfl ?_
          refine ev_iload (pc' := 101) rfl rfl rfl ?_
          obtain ⟨q5, hq5, h⟩ := Option.bind_eq_some_iff.mp h
          refine ev_V2I (pc' := 104) rfl (by decide) rfl mth_142 ⟨Nat.le_of_ble_eq_true rfl, rfl⟩ ⟨Nat.le_refl _, Nat.le_refl _⟩ (d_X7_last hq5) ?_
          refine ev_iconst (pc' := 105) rfl rfl (v := (1 : Int32)) (by decide) ?_
          refine ev_iadd (pc' := 106) rfl rfl ?_
          refine ev_S2L (pc' := 109) rfl (by decide) rfl mth_134 ⟨Nat.le_of_ble_eq_true rfl, rfl⟩ ⟨Nat.le_refl _, Nat.le_refl _⟩ d_X7_hours ?_
          refine ev_ldc2_w (pc' := 112) rfl rfl (v := (-1 : Int64)) (by decide) ?_
          refine ev_lxor (pc' := 113) rfl rfl ?_
          refine ev_land (pc' := 114) rfl rfl ?_
          obtain ⟨hi, h⟩ := gdB h
          refine ev_last (pc' := 115) rfl rfl rfl (inR_vp hi) ?_
          refine ev_aload_n (pc' := 116) rfl rfl rfl ?_
          refine ev_getQ (pc' := 119) rfl rfl rfl ?_
          refine ev_bipush (pc' := 121) rfl rfl (v := (68 : Int32)) (by decide) ?_
          refine ev_dup2 (pc' := 122) rfl rfl rfl rfl ?_
          refine ev_lald (pc' := 123) rfl rfl rfl (inR_vp (by decide)) ?_
          refine ev_aload_n (pc' := 124) rfl rfl rfl ?_
          refine ev_iload (pc' := 126) rfl rfl rfl ?_
          obtain ⟨q6, hq6, h⟩ := Option.bind_eq_some_iff.mp h
          refine ev_V2I (pc' := 129) rfl (by decide) rfl mth_142 ⟨Nat.le_of_ble_eq_true rfl, rfl⟩ ⟨Nat.le_refl _, Nat.le_refl _⟩ (d_X7_last hq6) ?_
          refine ev_iconst (pc' := 130) rfl rfl (v := (1 : Int32)) (by decide) ?_
          refine ev_iadd (pc' := 131) rfl rfl ?_
          refine ev_iload_n (pc' := 132) rfl rfl rfl ?_
          refine ev_isub (pc' := 133) rfl rfl ?_
          refine ev_i2l (pc' := 134) rfl rfl ?_
          refine ev_ladd (pc' := 135) rfl rfl ?_
          refine ev_last (pc' := 136) rfl rfl rfl (inR_vp (by decide)) ?_
          refine ev_aload_n (pc' := 137) rfl rfl rfl ?_
          refine ev_getQ (pc' := 140) rfl rfl rfl ?_
          refine ev_sipush (pc' := 143) rfl rfl (v := (130 : Int32)) (by decide) ?_
          refine ev_bipush (pc' := 145) rfl rfl (v := (11 : Int32)) (by decide) ?_
          refine ev_iload (pc' := 147) rfl rfl rfl ?_
          refine ev_imul (pc' := 148) rfl rfl ?_
          refine ev_iadd (pc' := 149) rfl rfl ?_
          refine ev_bipush (pc' := 151) rfl rfl (v := (8 : Int32)) (by decide) ?_
          refine ev_iadd (pc' := 152) rfl rfl ?_
          refine ev_dup2 (pc' := 153) rfl rfl rfl rfl ?_
          obtain ⟨hi, h⟩ := gdB h
          refine ev_lald (pc' := 154) rfl rfl rfl (inR_vp hi) ?_
          refine ev_lconst (pc' := 155) rfl rfl (v := (1 : Int64)) (by decide) ?_
          refine ev_iload_n (pc' := 156) rfl rfl rfl ?_
          refine ev_lshl (pc' := 157) rfl rfl ?_
          refine ev_ldc2_w (pc' := 160) rfl rfl (v := (-1 : Int64)) (by decide) ?_
          refine ev_lxor (pc' := 161) rfl rfl ?_
          refine ev_land (pc' := 162) rfl rfl ?_
          obtain ⟨hi, h⟩ := gdB h
          refine ev_last (pc' := 163) rfl rfl rfl (inR_vp hi) ?_
          refine ev_goto (pc' := 187) rfl ?_
          exact e_X7_breaks_187 (hr36 := hr36) hΨ h
def s_X7_breaks_R36 (i0 : Nat) (p1 : Int32) (p2 : Int32) : Nat → Int32 → Int32 → (Nat → Nat → Nat → Int32) → (Nat → Nat → Nat → Int64) → Option (Int32 × GS)
  | 0 => fun _ _ _ _ => none
  | n + 1 => s_X7_breaks_36 i0 p1 p2 (s_X7_breaks_R36 i0 p1 p2 n)
theorem e_X7_breaks_R36 {d : Nat} {Ψ : Option AV → DS → Prop} {i0 : Nat} {p1 : Int32} {p2 : Int32} {r : Int32 × GS} (hΨ : Ψ (some (aI r.1)) (L0, r.2.1, r.2.2, q0)) : ∀ (n : Nat) {v3 : Int32} {v4 : Int32} {g : Nat → Nat → Nat → Int32} {w : Nat → Nat → Nat → Int64}, s_X7_breaks_R36 i0 p1 p2 n v3 v4 g w = some r → Ev (EvM mth (d + 4)) mth c00 sc0 (retP (some .int) c00 Ψ) (lkp es_177) 36 [some (aR 7 i0), some (aI p1), some (aI p2), some (aI v3), some (aI v4)] [] (L0, g, w, q0) := by
  intro n
  induction n with
  | zero => intros; rename_i h; exact absurd h (by intro h9; cases h9)
  | succ n ih => intros; rename_i h; exact e_X7_breaks_36 (hr36 := ih) hΨ h
def s_X7_breaks_15 (i0 : Nat) (p1 : Int32) (p2 : Int32) (g : Nat → Nat → Nat → Int32) (w : Nat → Nat → Nat → Int64) : Option (Int32 × GS) :=
  some (((-1 : Int32), g, w))
set_option maxRecDepth 20000 in
set_option maxHeartbeats 2000000 in
theorem e_X7_breaks_15 {d : Nat} {Ψ : Option AV → DS → Prop} {i0 : Nat} {p1 : Int32} {p2 : Int32} {r : Int32 × GS} {g : Nat → Nat → Nat → Int32} {w : Nat → Nat → Nat → Int64} {x0 : Option AV} {x1 : Option AV} {x2 : Option AV} {x3 : Option AV} {x4 : Option AV} (hΨ : Ψ (some (aI r.1)) (L0, r.2.1, r.2.2, q0)) (h : s_X7_breaks_15 i0 p1 p2 g w = some r) : Ev (EvM mth (d + 4)) mth c00 sc0 (retP (some .int) c00 Ψ) (lkp es_177) 15 [x0, x1, x2, x3, x4] [] (L0, g, w, q0) := by
  unfold s_X7_breaks_15 at h
  refine ev_iconst (pc' := 16) rfl rfl (v := (-1 : Int32)) (by decide) ?_
  obtain rfl := Option.some.inj h
  exact ev_ireturn rfl ⟨⟨_, rfl, rfl⟩, rfl, rfl, hΨ⟩
def s_X7_breaks (i0 : Nat) (p1 : Int32) (p2 : Int32) (g : Nat → Nat → Nat → Int32) (w : Nat → Nat → Nat → Int64) : Option (Int32 × GS) :=
  if (s_X7_isTug i0 p1 g w) = true then
    if (s_X7_isHour p2 g w) = true then
      (s_X7_ofTug i0 p1 (7 : Int32) g w).bind fun q1 =>
      if p2 < q1 then
        s_X7_breaks_R36 i0 p1 p2 FU (0 : Int32) (0 : Int32) g w
      else
        some (((-2 : Int32), g, w))
    else
      s_X7_breaks_15 i0 p1 p2 g w
  else
    s_X7_breaks_15 i0 p1 p2 g w
set_option maxRecDepth 20000 in
set_option maxHeartbeats 2000000 in
theorem d_X7_breaks {d : Nat} {i0 : Nat} {p1 : Int32} {p2 : Int32} {g : Nat → Nat → Nat → Int32} {w : Nat → Nat → Nat → Int64} {r : Int32 × GS} (h : s_X7_breaks i0 p1 p2 g w = some r) : Does (EvM mth (d + 5)) 177 [aR 7 i0, aI p1, aI p2] (L0, g, w, q0) (some (aI r.1)) (L0, r.2.1, r.2.2, q0) := by
  intro Ψ hΨ
  refine ⟨in_177, mth_177, Nat.le_of_ble_eq_true rfl, ?_⟩
  show Ev (EvM mth (d + 4)) mth c00 sc0 (retP (some .int) c00 Ψ) (lkp es_177) 0 [some (aR 7 i0), some (aI p1), some (aI p2), none, none] [] (L0, g, w, q0)
  unfold s_X7_breaks at h
  refine ev_aload_n (pc' := 1) rfl rfl rfl ?_
  refine ev_iload_n (pc' := 2) rfl rfl rfl ?_
  refine ev_V2I (pc' := 5) rfl (by decide) rfl mth_119 ⟨Nat.le_of_ble_eq_true rfl, rfl⟩ ⟨Nat.le_refl _, Nat.le_refl _⟩ d_X7_isTug ?_
  refine ev_ifB_eq rfl (pc' := 8) rfl (fun hc => ?_) (fun hc => ?_)
  · have h := (if_neg hc).symm.trans h
    exact e_X7_breaks_15 hΨ h
  · have h := (if_pos hc).symm.trans h
    refine ev_iload_n (pc' := 9) rfl rfl rfl ?_
    refine ev_S1I (pc' := 12) rfl (by decide) rfl mth_116 ⟨Nat.le_of_ble_eq_true rfl, rfl⟩ ⟨Nat.le_refl _, Nat.le_refl _⟩ d_X7_isHour ?_
    refine ev_ifB_ne rfl (pc' := 15) rfl (fun hc => ?_) (fun hc => ?_)
    · have h := (if_pos hc).symm.trans h
      refine ev_aload_n (pc' := 18) rfl rfl rfl ?_
      refine ev_iload_n (pc' := 19) rfl rfl rfl ?_
      refine ev_bipush (pc' := 21) rfl rfl (v := (7 : Int32)) (by decide) ?_
      obtain ⟨q1, hq1, h⟩ := Option.bind_eq_some_iff.mp h
      refine ev_V3I (pc' := 24) rfl (by decide) rfl mth_117 ⟨Nat.le_of_ble_eq_true rfl, rfl⟩ ⟨Nat.le_refl _, Nat.le_refl _⟩ (d_X7_ofTug hq1) ?_
      refine ev_iload_n (pc' := 25) rfl rfl rfl ?_
      refine ev_icmp_gt rfl (pc' := 28) rfl (fun hc => ?_) (fun hc => ?_)
      · have h := (if_pos hc).symm.trans h
        refine ev_iconst (pc' := 32) rfl rfl (v := (0 : Int32)) (by decide) ?_
        refine ev_istore_n (pc' := 33) rfl rfl (l' := [some (aR 7 i0), some (aI p1), some (aI p2), some (aI (0 : Int32)), none]) rfl ?_
        refine ev_iconst (pc' := 34) rfl rfl (v := (0 : Int32)) (by decide) ?_
        refine ev_istore (pc' := 36) rfl rfl (l' := [some (aR 7 i0), some (aI p1), some (aI p2), some (aI (0 : Int32)), some (aI (0 : Int32))]) rfl ?_
        exact e_X7_breaks_R36 hΨ FU h
      · have h := (if_neg hc).symm.trans h
        refine ev_bipush (pc' := 30) rfl rfl (v := (-2 : Int32)) (by decide) ?_
        obtain rfl := Option.some.inj h
        exact ev_ireturn rfl ⟨⟨_, rfl, rfl⟩, rfl, rfl, hΨ⟩
    · have h := (if_neg hc).symm.trans h
      exact e_X7_breaks_15 hΨ h
def s_X7_storm_92 (i0 : Nat) (p1 : Int32) (p2 : Int32) (rec26 : Int32 → Int32 → (Nat → Nat → Nat → Int32) → (Nat → Nat → Nat → Int64) → Option (Int32 × GS)) (v3 : Int32) (v4 : Int32) (g : Nat → Nat → Nat → Int32) (w : Nat → Nat → Nat → Int64) : Option (Int32 × GS) :=
  rec26 v3 (v4 + 1) g w
set_option maxRecDepth 20000 in
set_option maxHeartbeats 2000000 in
theorem e_X7_storm_92 {d : Nat} {Ψ : Option AV → DS → Prop} {i0 : Nat} {p1 : Int32} {p2 : Int32} {rec26 : Int32 → Int32 → (Nat → Nat → Nat → Int32) → (Nat → Nat → Nat → Int64) → Option (Int32 × GS)} {r : Int32 × GS} {g : Nat → Nat → Nat → Int32} {w : Nat → Nat → Nat → Int64} {v3 : Int32} {v4 : Int32} (hr26 : ∀ {v3 : Int32} {v4 : Int32} {g : Nat → Nat → Nat → Int32} {w : Nat → Nat → Nat → Int64} , rec26 v3 v4 g w = some r → Ev (EvM mth (d + 4)) mth c00 sc0 (retP (some .int) c00 Ψ) (lkp es_179) 26 [some (aR 7 i0), some (aI p1), some (aI p2), some (aI v3), some (aI v4)] [] (L0, g, w, q0)) (hΨ : Ψ (some (aI r.1)) (L0, r.2.1, r.2.2, q0)) (h : s_X7_storm_92 i0 p1 p2 rec26 v3 v4 g w = some r) : Ev (EvM mth (d + 4)) mth c00 sc0 (retP (some .int) c00 Ψ) (lkp es_179) 92 [some (aR 7 i0), some (aI p1), some (aI p2), some (aI v3), some (aI v4)] [] (L0, g, w, q0) := by
  unfold s_X7_storm_92 at h
  refine ev_iinc (pc' := 95) rfl rfl (l' := [some (aR 7 i0), some (aI p1), some (aI p2), some (aI v3), some (aI (v4 + 1))]) rfl (ii_1 _) rfl ?_
  refine ev_goto (pc' := 26) rfl ?_
  exact hr26 h
def s_X7_storm_26 (i0 : Nat) (p1 : Int32) (p2 : Int32) (rec26 : Int32 → Int32 → (Nat → Nat → Nat → Int32) → (Nat → Nat → Nat → Int64) → Option (Int32 × GS)) (v3 : Int32) (v4 : Int32) (g : Nat → Nat → Nat → Int32) (w : Nat → Nat → Nat → Int64) : Option (Int32 × GS) :=
  if 0 ≤ (lg_cmp v4.toInt64 (w 2218 0 (65 : Int32).toNatClampNeg)) then
    some ((v3, g, (wL (wL w 2218 0 (63 : Int32).toNatClampNeg ((w 2218 0 (63 : Int32).toNatClampNeg) ||| (s_X7_hours p1 (p2 + (1 : Int32)) g w))) 2218 0 (67 : Int32).toNatClampNeg (((wL w 2218 0 (63 : Int32).toNatClampNeg ((w 2218 0 (63 : Int32).toNatClampNeg) ||| (s_X7_hours p1 (p2 + (1 : Int32)) g w))) 2218 0 (67 : Int32).toNatClampNeg) + v3.toInt64))))
  else
    (s_X7_hasJob i0 v4 g w).bind fun q1 =>
    if q1 = true then
      (s_X7_ofShip i0 v4 (7 : Int32) g w).bind fun q2 =>
      if p2 < q2 then
        s_X7_storm_92 i0 p1 p2 rec26 v3 v4 g w
      else
        (s_X7_last i0 v4 g w).bind fun q3 =>
        if q3 < p1 then
          s_X7_storm_92 i0 p1 p2 rec26 v3 v4 g w
        else
          (s_X7_takes i0 v4 p1 g w).bind fun q4 =>
          s_X7_storm_92 i0 p1 p2 rec26 (v3 + 1) v4 q4.2.1 (wL q4.2.2 2218 0 (69 : Int32).toNatClampNeg ((w 2218 0 (69 : Int32).toNatClampNeg) + q4.1.toInt64))
    else
      s_X7_storm_92 i0 p1 p2 rec26 v3 v4 g w
set_option maxRecDepth 20000 in
set_option maxHeartbeats 2000000 in
theorem e_X7_storm_26 {d : Nat} {Ψ : Option AV → DS → Prop} {i0 : Nat} {p1 : Int32} {p2 : Int32} {rec26 : Int32 → Int32 → (Nat → Nat → Nat → Int32) → (Nat → Nat → Nat → Int64) → Option (Int32 × GS)} {r : Int32 × GS} {g : Nat → Nat → Nat → Int32} {w : Nat → Nat → Nat → Int64} {v3 : Int32} {v4 : Int32} (hr26 : ∀ {v3 : Int32} {v4 : Int32} {g : Nat → Nat → Nat → Int32} {w : Nat → Nat → Nat → Int64} , rec26 v3 v4 g w = some r → Ev (EvM mth (d + 4)) mth c00 sc0 (retP (some .int) c00 Ψ) (lkp es_179) 26 [some (aR 7 i0), some (aI p1), some (aI p2), some (aI v3), some (aI v4)] [] (L0, g, w, q0)) (hΨ : Ψ (some (aI r.1)) (L0, r.2.1, r.2.2, q0)) (h : s_X7_storm_26 i0 p1 p2 rec26 v3 v4 g w = some r) : Ev (EvM mth (d + 4)) mth c00 sc0 (retP (some .int) c00 Ψ) (lkp es_179) 26 [some (aR 7 i0), some (aI p1), some (aI p2), some (aI v3), some (aI v4)] [] (L0, g, w, q0) := by
  unfold s_X7_storm_26 at h
  refine ev_iload (pc' := 28) rfl rfl rfl ?_
  refine ev_i2l (pc' := 29) rfl rfl ?_
  refine ev_aload_n (pc' := 30) rfl rfl rfl ?_
  refine ev_getQ (pc' := 33) rfl rfl rfl ?_
  refine ev_bipush (pc' := 35) rfl rfl (v := (65 : Int32)) (by decide) ?_
  refine ev_lald (pc' := 36) rfl rfl rfl (inR_vp (by decide)) ?_
  refine ev_lcmp (pc' := 37) rfl rfl ?_
  refine ev_if_ge rfl (pc' := 40) rfl (fun hc => ?_) (fun hc => ?_)
  · have h := (if_pos hc).symm.trans h
    refine ev_aload_n (pc' := 99) rfl rfl rfl ?_
    refine ev_getQ (pc' := 102) rfl rfl rfl ?_
    refine ev_bipush (pc' := 104) rfl rfl (v := (63 : Int32)) (by decide) ?_
    refine ev_dup2 (pc' := 105) rfl rfl rfl rfl ?_
    refine ev_lald (pc' := 106) rfl rfl rfl (inR_vp (by decide)) ?_
    refine ev_iload_n (pc' := 107) rfl rfl rfl ?_
    refine ev_iload_n (pc' := 108) rfl rfl rfl ?_
    refine ev_iconst (pc' := 109) rfl rfl (v := (1 : Int32)) (by decide) ?_
    refine ev_iadd (pc' := 110) rfl rfl ?_
    refine ev_S2L (pc' := 113) rfl (by decide) rfl mth_134 ⟨Nat.le_of_ble_eq_true rfl, rfl⟩ ⟨Nat.le_refl _, Nat.le_refl _⟩ d_X7_hours ?_
    refine ev_lor (pc' := 114) rfl rfl ?_
    refine ev_last (pc' := 115) rfl rfl rfl (inR_vp (by decide)) ?_
    refine ev_aload_n (pc' := 116) rfl rfl rfl ?_
    refine ev_getQ (pc' := 119) rfl rfl rfl ?_
    refine ev_bipush (pc' := 121) rfl rfl (v := (67 : Int32)) (by decide) ?_
    refine ev_dup2 (pc' := 122) rfl rfl rfl rfl ?_
    refine ev_lald (pc' := 123) rfl rfl rfl (inR_vp (by decide)) ?_
    refine ev_iload_n (pc' := 124) rfl rfl rfl ?_
    refine ev_i2l (pc' := 125) rfl rfl ?_
    refine ev_ladd (pc' := 126) rfl rfl ?_
    refine ev_last (pc' := 127) rfl rfl rfl (inR_vp (by decide)) ?_
    refine ev_iload_n (pc' := 128) rfl rfl rfl ?_
    obtain rfl := Option.some.inj h
    exact ev_ireturn rfl ⟨⟨_, rfl, rfl⟩, rfl, rfl, hΨ⟩
  · have h := (if_neg hc).symm.trans h
    refine ev_aload_n (pc' := 41) rfl rfl rfl ?_
    refine ev_iload (pc' := 43) rfl rfl rfl ?_
    obtain ⟨q1, hq1, h⟩ := Option.bind_eq_some_iff.mp h
    refine ev_V2I (pc' := 46) rfl (by decide) rfl mth_125 ⟨Nat.le_of_ble_eq_true rfl, rfl⟩ ⟨Nat.le_refl _, Nat.le_refl _⟩ (d_X7_hasJob hq1) ?_
    refine ev_ifB_eq rfl (pc' := 49) rfl (fun hc => ?_) (fun hc => ?_)
    · have h := (if_neg hc).symm.trans h
      exact e_X7_storm_92 (hr26 := hr26) hΨ h
    · have h := (if_pos hc).symm.trans h
      refine ev_aload_n (pc' := 50) rfl rfl rfl ?_
      refine ev_iload (pc' := 52) rfl rfl rfl ?_
      refine ev_bipush (pc' := 54) rfl rfl (v := (7 : Int32)) (by decide) ?_
      obtain ⟨q2, hq2, h⟩ := Option.bind_eq_some_iff.mp h
      refine ev_V3I (pc' := 57) rfl (by decide) rfl mth_118 ⟨Nat.le_of_ble_eq_true rfl, rfl⟩ ⟨Nat.le_refl _, Nat.le_refl _⟩ (d_X7_ofShip hq2) ?_
      refine ev_iload_n (pc' := 58) rfl rfl rfl ?_
      refine ev_icmp_gt rfl (pc' := 61) rfl (fun hc => ?_) (fun hc => ?_)
      · have h := (if_pos hc).symm.trans h
        exact e_X7_storm_92 (hr26 := hr26) hΨ h
      · have h := (if_neg hc).symm.trans h
        refine ev_aload_n (pc' := 62) rfl rfl rfl ?_
        refine ev_iload (pc' := 64) rfl rfl rfl ?_
        obtain ⟨q3, hq3, h⟩ := Option.bind_eq_some_iff.mp h
        refine ev_V2I (pc' := 67) rfl (by decide) rfl mth_142 ⟨Nat.le_of_ble_eq_true rfl, rfl⟩ ⟨Nat.le_refl _, Nat.le_refl _⟩ (d_X7_last hq3) ?_
        refine ev_iload_n (pc' := 68) rfl rfl rfl ?_
        refine ev_icmp_lt rfl (pc' := 71) rfl (fun hc => ?_) (fun hc => ?_)
        · have h := (if_pos hc).symm.trans h
          exact e_X7_storm_92 (hr26 := hr26) hΨ h
        · have h := (if_neg hc).symm.trans h
          refine ev_aload_n (pc' := 72) rfl rfl rfl ?_
          refine ev_getQ (pc' := 75) rfl rfl rfl ?_
          refine ev_bipush (pc' := 77) rfl rfl (v := (69 : Int32)) (by decide) ?_
          refine ev_dup2 (pc' := 78) rfl rfl rfl rfl ?_
          refine ev_lald (pc' := 79) rfl rfl rfl (inR_vp (by decide)) ?_
          refine ev_aload_n (pc' := 80) rfl rfl rfl ?_
          refine ev_iload (pc' := 82) rfl rfl rfl ?_
          refine ev_iload_n (pc' := 83) rfl rfl rfl ?_
          obtain ⟨q4, hq4, h⟩ := Option.bind_eq_some_iff.mp h
          refine ev_V3I (pc' := 86) rfl (by decide) rfl mth_155 ⟨Nat.le_of_ble_eq_true rfl, rfl⟩ ⟨Nat.le_refl _, Nat.le_refl _⟩ (d_X7_takes hq4) ?_
          refine ev_i2l (pc' := 87) rfl rfl ?_
          refine ev_ladd (pc' := 88) rfl rfl ?_
          refine ev_last (pc' := 89) rfl rfl rfl (inR_vp (by decide)) ?_
          refine ev_iinc (pc' := 92) rfl rfl (l' := [some (aR 7 i0), some (aI p1), some (aI p2), some (aI (v3 + 1)), some (aI v4)]) rfl (ii_1 _) rfl ?_
          exact e_X7_storm_92 (hr26 := hr26) hΨ h
def s_X7_storm_R26 (i0 : Nat) (p1 : Int32) (p2 : Int32) : Nat → Int32 → Int32 → (Nat → Nat → Nat → Int32) → (Nat → Nat → Nat → Int64) → Option (Int32 × GS)
  | 0 => fun _ _ _ _ => none
  | n + 1 => s_X7_storm_26 i0 p1 p2 (s_X7_storm_R26 i0 p1 p2 n)
theorem e_X7_storm_R26 {d : Nat} {Ψ : Option AV → DS → Prop} {i0 : Nat} {p1 : Int32} {p2 : Int32} {r : Int32 × GS} (hΨ : Ψ (some (aI r.1)) (L0, r.2.1, r.2.2, q0)) : ∀ (n : Nat) {v3 : Int32} {v4 : Int32} {g : Nat → Nat → Nat → Int32} {w : Nat → Nat → Nat → Int64}, s_X7_storm_R26 i0 p1 p2 n v3 v4 g w = some r → Ev (EvM mth (d + 4)) mth c00 sc0 (retP (some .int) c00 Ψ) (lkp es_179) 26 [some (aR 7 i0), some (aI p1), some (aI p2), some (aI v3), some (aI v4)] [] (L0, g, w, q0) := by
  intro n
  induction n with
  | zero => intros; rename_i h; exact absurd h (by intro h9; cases h9)
  | succ n ih => intros; rename_i h; exact e_X7_storm_26 (hr26 := ih) hΨ h
def s_X7_storm_19 (i0 : Nat) (p1 : Int32) (p2 : Int32) (g : Nat → Nat → Nat → Int32) (w : Nat → Nat → Nat → Int64) : Option (Int32 × GS) :=
  some (((-1 : Int32), g, w))
set_option maxRecDepth 20000 in
set_option maxHeartbeats 2000000 in
theorem e_X7_storm_19 {d : Nat} {Ψ : Option AV → DS → Prop} {i0 : Nat} {p1 : Int32} {p2 : Int32} {r : Int32 × GS} {g : Nat → Nat → Nat → Int32} {w : Nat → Nat → Nat → Int64} {x0 : Option AV} {x1 : Option AV} {x2 : Option AV} {x3 : Option AV} {x4 : Option AV} (hΨ : Ψ (some (aI r.1)) (L0, r.2.1, r.2.2, q0)) (h : s_X7_storm_19 i0 p1 p2 g w = some r) : Ev (EvM mth (d + 4)) mth c00 sc0 (retP (some .int) c00 Ψ) (lkp es_179) 19 [x0, x1, x2, x3, x4] [] (L0, g, w, q0) := by
  unfold s_X7_storm_19 at h
  refine ev_iconst (pc' := 20) rfl rfl (v := (-1 : Int32)) (by decide) ?_
  obtain rfl := Option.some.inj h
  exact ev_ireturn rfl ⟨⟨_, rfl, rfl⟩, rfl, rfl, hΨ⟩
def s_X7_storm (i0 : Nat) (p1 : Int32) (p2 : Int32) (g : Nat → Nat → Nat → Int32) (w : Nat → Nat → Nat → Int64) : Option (Int32 × GS) :=
  if (s_X7_isHour p1 g w) = true then
    if (s_X7_isHour p2 g w) = true then
      if p1 ≤ p2 then
        s_X7_storm_R26 i0 p1 p2 FU (0 : Int32) (0 : Int32) g w
      else
        s_X7_storm_19 i0 p1 p2 g w
    else
      s_X7_storm_19 i0 p1 p2 g w
  else
    s_X7_storm_19 i0 p1 p2 g w
set_option maxRecDepth 20000 in
set_option maxHeartbeats 2000000 in
theorem d_X7_storm {d : Nat} {i0 : Nat} {p1 : Int32} {p2 : Int32} {g : Nat → Nat → Nat → Int32} {w : Nat → Nat → Nat → Int64} {r : Int32 × GS} (h : s_X7_storm i0 p1 p2 g w = some r) : Does (EvM mth (d + 5)) 179 [aR 7 i0, aI p1, aI p2] (L0, g, w, q0) (some (aI r.1)) (L0, r.2.1, r.2.2, q0) := by
  intro Ψ hΨ
  refine ⟨in_179, mth_179, Nat.le_of_ble_eq_true rfl, ?_⟩
  show Ev (EvM mth (d + 4)) mth c00 sc0 (retP (some .int) c00 Ψ) (lkp es_179) 0 [some (aR 7 i0), some (aI p1), some (aI p2), none, none] [] (L0, g, w, q0)
  unfold s_X7_storm at h
  refine ev_iload_n (pc' := 1) rfl rfl rfl ?_
  refine ev_S1I (pc' := 4) rfl (by decide) rfl mth_116 ⟨Nat.le_of_ble_eq_true rfl, rfl⟩ ⟨Nat.le_refl _, Nat.le_refl _⟩ d_X7_isHour ?_
  refine ev_ifB_eq rfl (pc' := 7) rfl (fun hc => ?_) (fun hc => ?_)
  · have h := (if_neg hc).symm.trans h
    exact e_X7_storm_19 hΨ h
  · have h := (if_pos hc).symm.trans h
    refine ev_iload_n (pc' := 8) rfl rfl rfl ?_
    refine ev_S1I (pc' := 11) rfl (by decide) rfl mth_116 ⟨Nat.le_of_ble_eq_true rfl, rfl⟩ ⟨Nat.le_refl _, Nat.le_refl _⟩ d_X7_isHour ?_
    refine ev_ifB_eq rfl (pc' := 14) rfl (fun hc => ?_) (fun hc => ?_)
    · have h := (if_neg hc).symm.trans h
      exact e_X7_storm_19 hΨ h
    · have h := (if_pos hc).symm.trans h
      refine ev_iload_n (pc' := 15) rfl rfl rfl ?_
      refine ev_iload_n (pc' := 16) rfl rfl rfl ?_
      refine ev_icmp_le rfl (pc' := 19) rfl (fun hc => ?_) (fun hc => ?_)
      · have h := (if_pos hc).symm.trans h
        refine ev_iconst (pc' := 22) rfl rfl (v := (0 : Int32)) (by decide) ?_
        refine ev_istore_n (pc' := 23) rfl rfl (l' := [some (aR 7 i0), some (aI p1), some (aI p2), some (aI (0 : Int32)), none]) rfl ?_
        refine ev_iconst (pc' := 24) rfl rfl (v := (0 : Int32)) (by decide) ?_
        refine ev_istore (pc' := 26) rfl rfl (l' := [some (aR 7 i0), some (aI p1), some (aI p2), some (aI (0 : Int32)), some (aI (0 : Int32))]) rfl ?_
        exact e_X7_storm_R26 hΨ FU h
      · have h := (if_neg hc).symm.trans h
        exact e_X7_storm_19 hΨ h
def s_X7_about_135 (i0 : Nat) (p1 : Int32) (p2 : Int32) (t0 : Int32) (g : Nat → Nat → Nat → Int32) (w : Nat → Nat → Nat → Int64) : Option (Int32) :=
  some (t0)
set_option maxRecDepth 20000 in
set_option maxHeartbeats 2000000 in
theorem e_X7_about_135 {d : Nat} {Ψ : Option AV → DS → Prop} {i0 : Nat} {p1 : Int32} {p2 : Int32} {r : Int32} {g : Nat → Nat → Nat → Int32} {w : Nat → Nat → Nat → Int64} {t0 : Int32} {x0 : Option AV} {x1 : Option AV} {x2 : Option AV} (hΨ : Ψ (some (aI r)) (L0, g, w, q0)) (h : s_X7_about_135 i0 p1 p2 t0 g w = some r) : Ev (EvM mth (d + 4)) mth c00 sc0 (retP (some .int) c00 Ψ) (lkp es_188) 135 [x0, x1, x2] [aI t0] (L0, g, w, q0) := by
  unfold s_X7_about_135 at h
  obtain rfl := Option.some.inj h
  exact ev_ireturn rfl ⟨⟨_, rfl, rfl⟩, rfl, rfl, hΨ⟩
def s_X7_about_20 (i0 : Nat) (p1 : Int32) (p2 : Int32) (g : Nat → Nat → Nat → Int32) (w : Nat → Nat → Nat → Int64) : Option (Int32) :=
  some ((-100 : Int32))
set_option maxRecDepth 20000 in
set_option maxHeartbeats 2000000 in
theorem e_X7_about_20 {d : Nat} {Ψ : Option AV → DS → Prop} {i0 : Nat} {p1 : Int32} {p2 : Int32} {r : Int32} {g : Nat → Nat → Nat → Int32} {w : Nat → Nat → Nat → Int64} {x0 : Option AV} {x1 : Option AV} {x2 : Option AV} (hΨ : Ψ (some (aI r)) (L0, g, w, q0)) (h : s_X7_about_20 i0 p1 p2 g w = some r) : Ev (EvM mth (d + 4)) mth c00 sc0 (retP (some .int) c00 Ψ) (lkp es_188) 20 [x0, x1, x2] [] (L0, g, w, q0) := by
  unfold s_X7_about_20 at h
  refine ev_bipush (pc' := 22) rfl rfl (v := (-100 : Int32)) (by decide) ?_
  obtain rfl := Option.some.inj h
  exact ev_ireturn rfl ⟨⟨_, rfl, rfl⟩, rfl, rfl, hΨ⟩
def s_X7_about (i0 : Nat) (p1 : Int32) (p2 : Int32) (g : Nat → Nat → Nat → Int32) (w : Nat → Nat → Nat → Int64) : Option (Int32) :=
  if (s_X7_isTug i0 p1 g w) = true then
    if (s_X7_in p2.toInt64 (0 : Int64) (7 : Int64) g w) = true then
      if p2 = (0 : Int32) then
        (s_X7_ofTug i0 p1 (0 : Int32) g w).bind fun q1 =>
        some (q1)
      else
      if p2 = (1 : Int32) then
        (s_X7_ofTug i0 p1 (1 : Int32) g w).bind fun q2 =>
        some (q2)
      else
      if p2 = (2 : Int32) then
        (s_X7_ofTug i0 p1 (2 : Int32) g w).bind fun q3 =>
        some (q3)
      else
      if p2 = (3 : Int32) then
        (s_X7_ofTug i0 p1 (4 : Int32) g w).bind fun q4 =>
        some (q4)
      else
      if p2 = (4 : Int32) then
        (s_X7_ofTug i0 p1 (5 : Int32) g w).bind fun q5 =>
        some (q5)
      else
      if p2 = (5 : Int32) then
        (s_X7_ofTug i0 p1 (6 : Int32) g w).bind fun q6 =>
        some (q6)
      else
      if p2 = (6 : Int32) then
        (s_X7_ofTug i0 p1 (7 : Int32) g w).bind fun q7 =>
        if q7 ≠ (48 : Int32) then
          (s_X7_ofTug i0 p1 (7 : Int32) g w).bind fun q8 =>
          s_X7_about_135 i0 p1 p2 q8 g w
        else
          s_X7_about_135 i0 p1 p2 (-4 : Int32) g w
      else
        (s_X7_berthOf i0 p1 g w).bind fun q9 =>
        some (q9)
    else
      s_X7_about_20 i0 p1 p2 g w
  else
    s_X7_about_20 i0 p1 p2 g w
set_option maxRecDepth 20000 in
set_option maxHeartbeats 2000000 in
theorem d_X7_about {d : Nat} {i0 : Nat} {p1 : Int32} {p2 : Int32} {g : Nat → Nat → Nat → Int32} {w : Nat → Nat → Nat → Int64} {r : Int32} (h : s_X7_about i0 p1 p2 g w = some r) : Does (EvM mth (d + 5)) 188 [aR 7 i0, aI p1, aI p2] (L0, g, w, q0) (some (aI r)) (L0, g, w, q0) := by
  intro Ψ hΨ
  refine ⟨in_188, mth_188, Nat.le_of_ble_eq_true rfl, ?_⟩
  show Ev (EvM mth (d + 4)) mth c00 sc0 (retP (some .int) c00 Ψ) (lkp es_188) 0 [some (aR 7 i0), some (aI p1), some (aI p2)] [] (L0, g, w, q0)
  unfold s_X7_about at h
  refine ev_aload_n (pc' := 1) rfl rfl rfl ?_
  refine ev_iload_n (pc' := 2) rfl rfl rfl ?_
  refine ev_V2I (pc' := 5) rfl (by decide) rfl mth_119 ⟨Nat.le_of_ble_eq_true rfl, rfl⟩ ⟨Nat.le_refl _, Nat.le_refl _⟩ d_X7_isTug ?_
  refine ev_ifB_eq rfl (pc' := 8) rfl (fun hc => ?_) (fun hc => ?_)
  · have h := (if_neg hc).symm.trans h
    exact e_X7_about_20 hΨ h
  · have h := (if_pos hc).symm.trans h
    refine ev_iload_n (pc' := 9) rfl rfl rfl ?_
    refine ev_i2l (pc' := 10) rfl rfl ?_
    refine ev_lconst (pc' := 11) rfl rfl (v := (0 : Int64)) (by decide) ?_
    refine ev_ldc2_w (pc' := 14) rfl rfl (v := (7 : Int64)) (by decide) ?_
    refine ev_S3I (pc' := 17) rfl (by decide) rfl mth_115 ⟨Nat.le_of_ble_eq_true rfl, rfl⟩ ⟨Nat.le_refl _, Nat.le_refl _⟩ d_X7_in ?_
    refine ev_ifB_ne rfl (pc' := 20) rfl (fun hc => ?_) (fun hc => ?_)
    · have h := (if_pos hc).symm.trans h
      refine ev_iload_n (pc' := 24) rfl rfl rfl ?_
      refine ev_tsw rfl (fun hd => ?_) (fun n u hn hv => ?_)
      · skip
        have h := (if_neg (show ¬ p2 = (0 : Int32) from fun e9 => by rw [e9] at hd; revert hd; decide)).symm.trans h
        have h := (if_neg (show ¬ p2 = (1 : Int32) from fun e9 => by rw [e9] at hd; revert hd; decide)).symm.trans h
        have h := (if_neg (show ¬ p2 = (2 : Int32) from fun e9 => by rw [e9] at hd; revert hd; decide)).symm.trans h
        have h := (if_neg (show ¬ p2 = (3 : Int32) from fun e9 => by rw [e9] at hd; revert hd; decide)).symm.trans h
        have h := (if_neg (show ¬ p2 = (4 : Int32) from fun e9 => by rw [e9] at hd; revert hd; decide)).symm.trans h
        have h := (if_neg (show ¬ p2 = (5 : Int32) from fun e9 => by rw [e9] at hd; revert hd; decide)).symm.trans h
        have h := (if_neg (show ¬ p2 = (6 : Int32) from fun e9 => by rw [e9] at hd; revert hd; decide)).symm.trans h
        refine ev_aload_n (pc' := 137) rfl rfl rfl ?_
        refine ev_iload_n (pc' := 138) rfl rfl rfl ?_
        obtain ⟨q9, hq9, h⟩ := Option.bind_eq_some_iff.mp h
        refine ev_V2I (pc' := 141) rfl (by decide) rfl mth_187 ⟨Nat.le_of_ble_eq_true rfl, rfl⟩ ⟨Nat.le_refl _, Nat.le_refl _⟩ (d_X7_berthOf hq9) ?_
        obtain rfl := Option.some.inj h
        exact ev_ireturn rfl ⟨⟨_, rfl, rfl⟩, rfl, rfl, hΨ⟩
      · match n, hn with
        | 0, hn =>
          obtain rfl := Option.some.inj hn
          have e9 : p2 = (0 : Int32) := Int32.toInt_inj.mp (hv.trans (by decide))
          have h := (if_pos e9).symm.trans h
          refine ev_aload_n (pc' := 69) rfl rfl rfl ?_
          refine ev_iload_n (pc' := 70) rfl rfl rfl ?_
          refine ev_iconst (pc' := 71) rfl rfl (v := (0 : Int32)) (by decide) ?_
          obtain ⟨q1, hq1, h⟩ := Option.bind_eq_some_iff.mp h
          refine ev_V3I (pc' := 74) rfl (by decide) rfl mth_117 ⟨Nat.le_of_ble_eq_true rfl, rfl⟩ ⟨Nat.le_refl _, Nat.le_refl _⟩ (d_X7_ofTug hq1) ?_
          obtain rfl := Option.some.inj h
          exact ev_ireturn rfl ⟨⟨_, rfl, rfl⟩, rfl, rfl, hΨ⟩
        | 1, hn =>
          obtain rfl := Option.some.inj hn
          have e9 : p2 = (1 : Int32) := Int32.toInt_inj.mp (hv.trans (by decide))
          have h := (if_neg (show ¬ p2 = (0 : Int32) from by rw [e9]; decide)).symm.trans h
          have h := (if_pos e9).symm.trans h
          refine ev_aload_n (pc' := 76) rfl rfl rfl ?_
          refine ev_iload_n (pc' := 77) rfl rfl rfl ?_
          refine ev_iconst (pc' := 78) rfl rfl (v := (1 : Int32)) (by decide) ?_
          obtain ⟨q2, hq2, h⟩ := Option.bind_eq_some_iff.mp h
          refine ev_V3I (pc' := 81) rfl (by decide) rfl mth_117 ⟨Nat.le_of_ble_eq_true rfl, rfl⟩ ⟨Nat.le_refl _, Nat.le_refl _⟩ (d_X7_ofTug hq2) ?_
          obtain rfl := Option.some.inj h
          exact ev_ireturn rfl ⟨⟨_, rfl, rfl⟩, rfl, rfl, hΨ⟩
        | 2, hn =>
          obtain rfl := Option.some.inj hn
          have e9 : p2 = (2 : Int32) := Int32.toInt_inj.mp (hv.trans (by decide))
          have h := (if_neg (show ¬ p2 = (0 : Int32) from by rw [e9]; decide)).symm.trans h
          have h := (if_neg (show ¬ p2 = (1 : Int32) from by rw [e9]; decide)).symm.trans h
          have h := (if_pos e9).symm.trans h
          refine ev_aload_n (pc' := 83) rfl rfl rfl ?_
          refine ev_iload_n (pc' := 84) rfl rfl rfl ?_
          refine ev_iconst (pc' := 85) rfl rfl (v := (2 : Int32)) (by decide) ?_
          obtain ⟨q3, hq3, h⟩ := Option.bind_eq_some_iff.mp h
          refine ev_V3I (pc' := 88) rfl (by decide) rfl mth_117 ⟨Nat.le_of_ble_eq_true rfl, rfl⟩ ⟨Nat.le_refl _, Nat.le_refl _⟩ (d_X7_ofTug hq3) ?_
          obtain rfl := Option.some.inj h
          exact ev_ireturn rfl ⟨⟨_, rfl, rfl⟩, rfl, rfl, hΨ⟩
        | 3, hn =>
          obtain rfl := Option.some.inj hn
          have e9 : p2 = (3 : Int32) := Int32.toInt_inj.mp (hv.trans (by decide))
          have h := (if_neg (show ¬ p2 = (0 : Int32) from by rw [e9]; decide)).symm.trans h
          have h := (if_neg (show ¬ p2 = (1 : Int32) from by rw [e9]; decide)).symm.trans h
          have h := (if_neg (show ¬ p2 = (2 : Int32) from by rw [e9]; decide)).symm.trans h
          have h := (if_pos e9).symm.trans h
          refine ev_aload_n (pc' := 90) rfl rfl rfl ?_
          refine ev_iload_n (pc' := 91) rfl rfl rfl ?_
          refine ev_iconst (pc' := 92) rfl rfl (v := (4 : Int32)) (by decide) ?_
          obtain ⟨q4, hq4, h⟩ := Option.bind_eq_some_iff.mp h
          refine ev_V3I (pc' := 95) rfl (by decide) rfl mth_117 ⟨Nat.le_of_ble_eq_true rfl, rfl⟩ ⟨Nat.le_refl _, Nat.le_refl _⟩ (d_X7_ofTug hq4) ?_
          obtain rfl := Option.some.inj h
          exact ev_ireturn rfl ⟨⟨_, rfl, rfl⟩, rfl, rfl, hΨ⟩
        | 4, hn =>
          obtain rfl := Option.some.inj hn
          have e9 : p2 = (4 : Int32) := Int32.toInt_inj.mp (hv.trans (by decide))
          have h := (if_neg (show ¬ p2 = (0 : Int32) from by rw [e9]; decide)).symm.trans h
          have h := (if_neg (show ¬ p2 = (1 : Int32) from by rw [e9]; decide)).symm.trans h
          have h := (if_neg (show ¬ p2 = (2 : Int32) from by rw [e9]; decide)).symm.trans h
          have h := (if_neg (show ¬ p2 = (3 : Int32) from by rw [e9]; decide)).symm.trans h
          have h := (if_pos e9).symm.trans h
          refine ev_aload_n (pc' := 97) rfl rfl rfl ?_
          refine ev_iload_n (pc' := 98) rfl rfl rfl ?_
          refine ev_iconst (pc' := 99) rfl rfl (v := (5 : Int32)) (by decide) ?_
          obtain ⟨q5, hq5, h⟩ := Option.bind_eq_some_iff.mp h
          refine ev_V3I (pc' := 102) rfl (by decide) rfl mth_117 ⟨Nat.le_of_ble_eq_true rfl, rfl⟩ ⟨Nat.le_refl _, Nat.le_refl _⟩ (d_X7_ofTug hq5) ?_
          obtain rfl := Option.some.inj h
          exact ev_ireturn rfl ⟨⟨_, rfl, rfl⟩, rfl, rfl, hΨ⟩
        | 5, hn =>
          obtain rfl := Option.some.inj hn
          have e9 : p2 = (5 : Int32) := Int32.toInt_inj.mp (hv.trans (by decide))
          have h := (if_neg (show ¬ p2 = (0 : Int32) from by rw [e9]; decide)).symm.trans h
          have h := (if_neg (show ¬ p2 = (1 : Int32) from by rw [e9]; decide)).symm.trans h
          have h := (if_neg (show ¬ p2 = (2 : Int32) from by rw [e9]; decide)).symm.trans h
          have h := (if_neg (show ¬ p2 = (3 : Int32) from by rw [e9]; decide)).symm.trans h
          have h := (if_neg (show ¬ p2 = (4 : Int32) from by rw [e9]; decide)).symm.trans h
          have h := (if_pos e9).symm.trans h
          refine ev_aload_n (pc' := 104) rfl rfl rfl ?_
          refine ev_iload_n (pc' := 105) rfl rfl rfl ?_
          refine ev_bipush (pc' := 107) rfl rfl (v := (6 : Int32)) (by decide) ?_
          obtain ⟨q6, hq6, h⟩ := Option.bind_eq_some_iff.mp h
          refine ev_V3I (pc' := 110) rfl (by decide) rfl mth_117 ⟨Nat.le_of_ble_eq_true rfl, rfl⟩ ⟨Nat.le_refl _, Nat.le_refl _⟩ (d_X7_ofTug hq6) ?_
          obtain rfl := Option.some.inj h
          exact ev_ireturn rfl ⟨⟨_, rfl, rfl⟩, rfl, rfl, hΨ⟩
        | 6, hn =>
          obtain rfl := Option.some.inj hn
          have e9 : p2 = (6 : Int32) := Int32.toInt_inj.mp (hv.trans (by decide))
          have h := (if_neg (show ¬ p2 = (0 : Int32) from by rw [e9]; decide)).symm.trans h
          have h := (if_neg (show ¬ p2 = (1 : Int32) from by rw [e9]; decide)).symm.trans h
          have h := (if_neg (show ¬ p2 = (2 : Int32) from by rw [e9]; decide)).symm.trans h
          have h := (if_neg (show ¬ p2 = (3 : Int32) from by rw [e9]; decide)).symm.trans h
          have h := (if_neg (show ¬ p2 = (4 : Int32) from by rw [e9]; decide)).symm.trans h
          have h := (if_neg (show ¬ p2 = (5 : Int32) from by rw [e9]; decide)).symm.trans h
          have h := (if_pos e9).symm.trans h
          refine ev_aload_n (pc' := 112) rfl rfl rfl ?_
          refine ev_iload_n (pc' := 113) rfl rfl rfl ?_
          refine ev_bipush (pc' := 115) rfl rfl (v := (7 : Int32)) (by decide) ?_
          obtain ⟨q7, hq7, h⟩ := Option.bind_eq_some_iff.mp h
          refine ev_V3I (pc' := 118) rfl (by decide) rfl mth_117 ⟨Nat.le_of_ble_eq_true rfl, rfl⟩ ⟨Nat.le_refl _, Nat.le_refl _⟩ (d_X7_ofTug hq7) ?_
          refine ev_bipush (pc' := 120) rfl rfl (v := (48 : Int32)) (by decide) ?_
          refine ev_icmp_ne rfl (pc' := 123) rfl (fun hc => ?_) (fun hc => ?_)
          · have h := (if_pos hc).symm.trans h
            refine ev_aload_n (pc' := 129) rfl rfl rfl ?_
            refine ev_iload_n (pc' := 130) rfl rfl rfl ?_
            refine ev_bipush (pc' := 132) rfl rfl (v := (7 : Int32)) (by decide) ?_
            obtain ⟨q8, hq8, h⟩ := Option.bind_eq_some_iff.mp h
            refine ev_V3I (pc' := 135) rfl (by decide) rfl mth_117 ⟨Nat.le_of_ble_eq_true rfl, rfl⟩ ⟨Nat.le_refl _, Nat.le_refl _⟩ (d_X7_ofTug hq8) ?_
            exact e_X7_about_135 hΨ h
          · have h := (if_neg hc).symm.trans h
            refine ev_bipush (pc' := 125) rfl rfl (v := (-4 : Int32)) (by decide) ?_
            refine ev_goto (pc' := 135) rfl ?_
            exact e_X7_about_135 hΨ h
        | n + 7, hn => exact absurd hn (by simp)
    · have h := (if_neg hc).symm.trans h
      exact e_X7_about_20 hΨ h
def s_X1_holds_195 (i0 : Nat) (p1 : Int32) (p2 : Nat) (p3 : Int32) (p4 : Int32) (g : Nat → Nat → Nat → Int32) (w : Nat → Nat → Nat → Int64) : Option (Bool) :=
  (s_X1_holdsForEach i0 p1 p2 p3 p4 g w).bind fun q1 =>
  some (q1)
set_option maxRecDepth 20000 in
set_option maxHeartbeats 2000000 in
theorem e_X1_holds_195 {d : Nat} {Ψ : Option AV → DS → Prop} {i0 : Nat} {p1 : Int32} {p2 : Nat} {p3 : Int32} {p4 : Int32} {r : Bool} {g : Nat → Nat → Nat → Int32} {w : Nat → Nat → Nat → Int64} (hΨ : Ψ (some (aI (bI r))) (L0, g, w, q0)) (h : s_X1_holds_195 i0 p1 p2 p3 p4 g w = some r) : Ev (EvM mth (d + 5)) mth c00 sc0 (retP (some .boolean) c00 Ψ) (lkp es_22) 195 [some (aR 1 i0), some (aI p1), some (aR 4 p2), some (aI p3), some (aI p4)] [] (L0, g, w, q0) := by
  unfold s_X1_holds_195 at h
  refine ev_aload_n (pc' := 196) rfl rfl rfl ?_
  refine ev_iload_n (pc' := 197) rfl rfl rfl ?_
  refine ev_aload_n (pc' := 198) rfl rfl rfl ?_
  refine ev_iload_n (pc' := 199) rfl rfl rfl ?_
  refine ev_iload (pc' := 201) rfl rfl rfl ?_
  obtain ⟨q1, hq1, h⟩ := Option.bind_eq_some_iff.mp h
  refine ev_V5I (pc' := 204) rfl (by decide) rfl mth_23 ⟨Nat.le_of_ble_eq_true rfl, rfl⟩ ⟨Nat.le_refl _, Nat.le_refl _⟩ (d_X1_holdsForEach hq1) ?_
  obtain rfl := Option.some.inj h
  exact ev_ireturn rfl ⟨⟨_, rfl, nar_bI _⟩, rfl, rfl, hΨ⟩
def s_X1_holds_194 (i0 : Nat) (p1 : Int32) (p2 : Nat) (p3 : Int32) (p4 : Int32) (t0 : Bool) (g : Nat → Nat → Nat → Int32) (w : Nat → Nat → Nat → Int64) : Option (Bool) :=
  some (t0)
set_option maxRecDepth 20000 in
set_option maxHeartbeats 2000000 in
theorem e_X1_holds_194 {d : Nat} {Ψ : Option AV → DS → Prop} {i0 : Nat} {p1 : Int32} {p2 : Nat} {p3 : Int32} {p4 : Int32} {r : Bool} {g : Nat → Nat → Nat → Int32} {w : Nat → Nat → Nat → Int64} {t0 : Bool} {x0 : Option AV} {x1 : Option AV} {x2 : Option AV} {x3 : Option AV} {x4 : Option AV} (hΨ : Ψ (some (aI (bI r))) (L0, g, w, q0)) (h : s_X1_holds_194 i0 p1 p2 p3 p4 t0 g w = some r) : Ev (EvM mth (d + 5)) mth c00 sc0 (retP (some .boolean) c00 Ψ) (lkp es_22) 194 [x0, x1, x2, x3, x4] [aI (bI t0)] (L0, g, w, q0) := by
  unfold s_X1_holds_194 at h
  obtain rfl := Option.some.inj h
  exact ev_ireturn rfl ⟨⟨_, rfl, nar_bI _⟩, rfl, rfl, hΨ⟩
def s_X1_holds_173 (i0 : Nat) (p1 : Int32) (p2 : Nat) (p3 : Int32) (p4 : Int32) (t0 : Bool) (g : Nat → Nat → Nat → Int32) (w : Nat → Nat → Nat → Int64) : Option (Bool) :=
  some (t0)
set_option maxRecDepth 20000 in
set_option maxHeartbeats 2000000 in
theorem e_X1_holds_173 {d : Nat} {Ψ : Option AV → DS → Prop} {i0 : Nat} {p1 : Int32} {p2 : Nat} {p3 : Int32} {p4 : Int32} {r : Bool} {g : Nat → Nat → Nat → Int32} {w : Nat → Nat → Nat → Int64} {t0 : Bool} {x0 : Option AV} {x1 : Option AV} {x2 : Option AV} {x3 : Option AV} {x4 : Option AV} (hΨ : Ψ (some (aI (bI r))) (L0, g, w, q0)) (h : s_X1_holds_173 i0 p1 p2 p3 p4 t0 g w = some r) : Ev (EvM mth (d + 5)) mth c00 sc0 (retP (some .boolean) c00 Ψ) (lkp es_22) 173 [x0, x1, x2, x3, x4] [aI (bI t0)] (L0, g, w, q0) := by
  unfold s_X1_holds_173 at h
  obtain rfl := Option.some.inj h
  exact ev_ireturn rfl ⟨⟨_, rfl, nar_bI _⟩, rfl, rfl, hΨ⟩
def s_X1_holds_168 (i0 : Nat) (p1 : Int32) (p2 : Nat) (p3 : Int32) (p4 : Int32) (g : Nat → Nat → Nat → Int32) (w : Nat → Nat → Nat → Int64) : Option (Bool) :=
  s_X1_holds_173 i0 p1 p2 p3 p4 true g w
set_option maxRecDepth 20000 in
set_option maxHeartbeats 2000000 in
theorem e_X1_holds_168 {d : Nat} {Ψ : Option AV → DS → Prop} {i0 : Nat} {p1 : Int32} {p2 : Nat} {p3 : Int32} {p4 : Int32} {r : Bool} {g : Nat → Nat → Nat → Int32} {w : Nat → Nat → Nat → Int64} {x0 : Option AV} {x1 : Option AV} {x2 : Option AV} {x3 : Option AV} {x4 : Option AV} (hΨ : Ψ (some (aI (bI r))) (L0, g, w, q0)) (h : s_X1_holds_168 i0 p1 p2 p3 p4 g w = some r) : Ev (EvM mth (d + 5)) mth c00 sc0 (retP (some .boolean) c00 Ψ) (lkp es_22) 168 [x0, x1, x2, x3, x4] [] (L0, g, w, q0) := by
  unfold s_X1_holds_168 at h
  refine ev_iconst (pc' := 169) rfl rfl (v := (1 : Int32)) (by decide) ?_
  refine ev_goto (pc' := 173) rfl ?_
  exact e_X1_holds_173 hΨ h
def s_X1_holds_149 (i0 : Nat) (p1 : Int32) (p2 : Nat) (p3 : Int32) (p4 : Int32) (t0 : Bool) (g : Nat → Nat → Nat → Int32) (w : Nat → Nat → Nat → Int64) : Option (Bool) :=
  some (t0)
set_option maxRecDepth 20000 in
set_option maxHeartbeats 2000000 in
theorem e_X1_holds_149 {d : Nat} {Ψ : Option AV → DS → Prop} {i0 : Nat} {p1 : Int32} {p2 : Nat} {p3 : Int32} {p4 : Int32} {r : Bool} {g : Nat → Nat → Nat → Int32} {w : Nat → Nat → Nat → Int64} {t0 : Bool} {x0 : Option AV} {x1 : Option AV} {x2 : Option AV} {x3 : Option AV} {x4 : Option AV} (hΨ : Ψ (some (aI (bI r))) (L0, g, w, q0)) (h : s_X1_holds_149 i0 p1 p2 p3 p4 t0 g w = some r) : Ev (EvM mth (d + 5)) mth c00 sc0 (retP (some .boolean) c00 Ψ) (lkp es_22) 149 [x0, x1, x2, x3, x4] [aI (bI t0)] (L0, g, w, q0) := by
  unfold s_X1_holds_149 at h
  obtain rfl := Option.some.inj h
  exact ev_ireturn rfl ⟨⟨_, rfl, nar_bI _⟩, rfl, rfl, hΨ⟩
def s_X1_holds_120 (i0 : Nat) (p1 : Int32) (p2 : Nat) (p3 : Int32) (p4 : Int32) (t0 : Bool) (g : Nat → Nat → Nat → Int32) (w : Nat → Nat → Nat → Int64) : Option (Bool) :=
  some (t0)
set_option maxRecDepth 20000 in
set_option maxHeartbeats 2000000 in
theorem e_X1_holds_120 {d : Nat} {Ψ : Option AV → DS → Prop} {i0 : Nat} {p1 : Int32} {p2 : Nat} {p3 : Int32} {p4 : Int32} {r : Bool} {g : Nat → Nat → Nat → Int32} {w : Nat → Nat → Nat → Int64} {t0 : Bool} {x0 : Option AV} {x1 : Option AV} {x2 : Option AV} {x3 : Option AV} {x4 : Option AV} (hΨ : Ψ (some (aI (bI r))) (L0, g, w, q0)) (h : s_X1_holds_120 i0 p1 p2 p3 p4 t0 g w = some r) : Ev (EvM mth (d + 5)) mth c00 sc0 (retP (some .boolean) c00 Ψ) (lkp es_22) 120 [x0, x1, x2, x3, x4] [aI (bI t0)] (L0, g, w, q0) := by
  unfold s_X1_holds_120 at h
  obtain rfl := Option.some.inj h
  exact ev_ireturn rfl ⟨⟨_, rfl, nar_bI _⟩, rfl, rfl, hΨ⟩
def s_X1_holds_91 (i0 : Nat) (p1 : Int32) (p2 : Nat) (p3 : Int32) (p4 : Int32) (t0 : Bool) (g : Nat → Nat → Nat → Int32) (w : Nat → Nat → Nat → Int64) : Option (Bool) :=
  some (t0)
set_option maxRecDepth 20000 in
set_option maxHeartbeats 2000000 in
theorem e_X1_holds_91 {d : Nat} {Ψ : Option AV → DS → Prop} {i0 : Nat} {p1 : Int32} {p2 : Nat} {p3 : Int32} {p4 : Int32} {r : Bool} {g : Nat → Nat → Nat → Int32} {w : Nat → Nat → Nat → Int64} {t0 : Bool} {x0 : Option AV} {x1 : Option AV} {x2 : Option AV} {x3 : Option AV} {x4 : Option AV} (hΨ : Ψ (some (aI (bI r))) (L0, g, w, q0)) (h : s_X1_holds_91 i0 p1 p2 p3 p4 t0 g w = some r) : Ev (EvM mth (d + 5)) mth c00 sc0 (retP (some .boolean) c00 Ψ) (lkp es_22) 91 [x0, x1, x2, x3, x4] [aI (bI t0)] (L0, g, w, q0) := by
  unfold s_X1_holds_91 at h
  obtain rfl := Option.some.inj h
  exact ev_ireturn rfl ⟨⟨_, rfl, nar_bI _⟩, rfl, rfl, hΨ⟩
def s_X1_holds (i0 : Nat) (p1 : Int32) (p2 : Nat) (p3 : Int32) (p4 : Int32) (g : Nat → Nat → Nat → Int32) (w : Nat → Nat → Nat → Int64) : Option (Bool) :=
  if p1 = (1 : Int32) then
    some ((s_X4_isInTime p2 p3 g w))
  else
  if p1 = (2 : Int32) then
    (s_X1_lowHours i0 p2 g w).bind fun q1 =>
    if (lg_cmp (q1 &&& (s_X4_hoursFrom p2 p3 g w)) (0 : Int64)) ≠ 0 then
      s_X1_holds_91 i0 p1 p2 p3 p4 false g w
    else
      s_X1_holds_91 i0 p1 p2 p3 p4 true g w
  else
  if p1 = (3 : Int32) then
    (s_X1_pullOf i0 p4 g w).bind fun q2 =>
    (s_X1_mostNeeded i0 p2 p3 ((p3 + (g 4 p2 3)) - (1 : Int32)) g w).bind fun q3 =>
    if q2 < q3 then
      s_X1_holds_120 i0 p1 p2 p3 p4 false g w
    else
      s_X1_holds_120 i0 p1 p2 p3 p4 true g w
  else
  if p1 = (4 : Int32) then
    (s_X1_canPullAstern i0 p4 g w).bind fun q4 =>
    some (q4)
  else
  if p1 = (9 : Int32) then
    (s_X1_basinHours i0 p2 g w).bind fun q5 =>
    if (lg_cmp (q5 &&& (s_X4_hoursFrom p2 p3 g w)) (0 : Int64)) ≠ 0 then
      s_X1_holds_149 i0 p1 p2 p3 p4 false g w
    else
      s_X1_holds_149 i0 p1 p2 p3 p4 true g w
  else
  if p1 = (10 : Int32) then
    if (g 1 i0 6) = 0 then
      s_X1_holds_168 i0 p1 p2 p3 p4 g w
    else
      (s_X1_isGuarded i0 p2 p3 p4 g w).bind fun q6 =>
      if q6 = true then
        s_X1_holds_168 i0 p1 p2 p3 p4 g w
      else
        s_X1_holds_173 i0 p1 p2 p3 p4 false g w
  else
  if p1 = (12 : Int32) then
    if (lg_cmp ((w 1 i0 8) &&& (s_X4_hoursFrom p2 p3 g w)) (0 : Int64)) ≠ 0 then
      s_X1_holds_194 i0 p1 p2 p3 p4 false g w
    else
      s_X1_holds_194 i0 p1 p2 p3 p4 true g w
  else
    s_X1_holds_195 i0 p1 p2 p3 p4 g w
set_option maxRecDepth 20000 in
set_option maxHeartbeats 2000000 in
theorem d_X1_holds {d : Nat} {i0 : Nat} {p1 : Int32} {p2 : Nat} {p3 : Int32} {p4 : Int32} {g : Nat → Nat → Nat → Int32} {w : Nat → Nat → Nat → Int64} {r : Bool} (h : s_X1_holds i0 p1 p2 p3 p4 g w = some r) : Does (EvM mth (d + 6)) 22 [aR 1 i0, aI p1, aR 4 p2, aI p3, aI p4] (L0, g, w, q0) (some (aI (bI r))) (L0, g, w, q0) := by
  intro Ψ hΨ
  refine ⟨in_22, mth_22, Nat.le_of_ble_eq_true rfl, ?_⟩
  show Ev (EvM mth (d + 5)) mth c00 sc0 (retP (some .boolean) c00 Ψ) (lkp es_22) 0 [some (aR 1 i0), some (aI p1), some (aR 4 p2), some (aI p3), some (aI p4)] [] (L0, g, w, q0)
  unfold s_X1_holds at h
  refine ev_iload_n (pc' := 1) rfl rfl rfl ?_
  refine ev_tsw rfl (fun hd => ?_) (fun n u hn hv => ?_)
  · skip
    have h := (if_neg (show ¬ p1 = (1 : Int32) from fun e9 => by rw [e9] at hd; revert hd; decide)).symm.trans h
    have h := (if_neg (show ¬ p1 = (2 : Int32) from fun e9 => by rw [e9] at hd; revert hd; decide)).symm.trans h
    have h := (if_neg (show ¬ p1 = (3 : Int32) from fun e9 => by rw [e9] at hd; revert hd; decide)).symm.trans h
    have h := (if_neg (show ¬ p1 = (4 : Int32) from fun e9 => by rw [e9] at hd; revert hd; decide)).symm.trans h
    have h := (if_neg (show ¬ p1 = (9 : Int32) from fun e9 => by rw [e9] at hd; revert hd; decide)).symm.trans h
    have h := (if_neg (show ¬ p1 = (10 : Int32) from fun e9 => by rw [e9] at hd; revert hd; decide)).symm.trans h
    have h := (if_neg (show ¬ p1 = (12 : Int32) from fun e9 => by rw [e9] at hd; revert hd; decide)).symm.trans h
    exact e_X1_holds_195 hΨ h
  · match n, hn with
    | 0, hn =>
      obtain rfl := Option.some.inj hn
      have e9 : p1 = (1 : Int32) := Int32.toInt_inj.mp (hv.trans (by decide))
      have h := (if_pos e9).symm.trans h
      refine ev_aload_n (pc' := 65) rfl rfl rfl ?_
      refine ev_iload_n (pc' := 66) rfl rfl rfl ?_
      refine ev_V2I (pc' := 69) rfl (by decide) rfl mth_59 ⟨Nat.le_of_ble_eq_true rfl, rfl⟩ ⟨Nat.le_refl _, Nat.le_refl _⟩ d_X4_isInTime ?_
      obtain rfl := Option.some.inj h
      exact ev_ireturn rfl ⟨⟨_, rfl, nar_bI _⟩, rfl, rfl, hΨ⟩
    | 1, hn =>
      obtain rfl := Option.some.inj hn
      have e9 : p1 = (2 : Int32) := Int32.toInt_inj.mp (hv.trans (by decide))
      have h := (if_neg (show ¬ p1 = (1 : Int32) from by rw [e9]; decide)).symm.trans h
      have h := (if_pos e9).symm.trans h
      refine ev_aload_n (pc' := 71) rfl rfl rfl ?_
      refine ev_aload_n (pc' := 72) rfl rfl rfl ?_
      obtain ⟨q1, hq1, h⟩ := Option.bind_eq_some_iff.mp h
      refine ev_V2L (pc' := 75) rfl (by decide) rfl mth_14 ⟨Nat.le_of_ble_eq_true rfl, rfl⟩ ⟨Nat.le_refl _, Nat.le_refl _⟩ (d_X1_lowHours hq1) ?_
      refine ev_aload_n (pc' := 76) rfl rfl rfl ?_
      refine ev_iload_n (pc' := 77) rfl rfl rfl ?_
      refine ev_V2L (pc' := 80) rfl (by decide) rfl mth_60 ⟨Nat.le_of_ble_eq_true rfl, rfl⟩ ⟨Nat.le_refl _, Nat.le_refl _⟩ d_X4_hoursFrom ?_
      refine ev_land (pc' := 81) rfl rfl ?_
      refine ev_lconst (pc' := 82) rfl rfl (v := (0 : Int64)) (by decide) ?_
      refine ev_lcmp (pc' := 83) rfl rfl ?_
      refine ev_if_ne rfl (pc' := 86) rfl (fun hc => ?_) (fun hc => ?_)
      · have h := (if_pos hc).symm.trans h
        refine ev_iconst (pc' := 91) rfl rfl (v := (0 : Int32)) (by decide) ?_
        exact e_X1_holds_91 hΨ h
      · have h := (if_neg hc).symm.trans h
        refine ev_iconst (pc' := 87) rfl rfl (v := (1 : Int32)) (by decide) ?_
        refine ev_goto (pc' := 91) rfl ?_
        exact e_X1_holds_91 hΨ h
    | 2, hn =>
      obtain rfl := Option.some.inj hn
      have e9 : p1 = (3 : Int32) := Int32.toInt_inj.mp (hv.trans (by decide))
      have h := (if_neg (show ¬ p1 = (1 : Int32) from by rw [e9]; decide)).symm.trans h
      have h := (if_neg (show ¬ p1 = (2 : Int32) from by rw [e9]; decide)).symm.trans h
      have h := (if_pos e9).symm.trans h
      refine ev_aload_n (pc' := 93) rfl rfl rfl ?_
      refine ev_iload (pc' := 95) rfl rfl rfl ?_
      obtain ⟨q2, hq2, h⟩ := Option.bind_eq_some_iff.mp h
      refine ev_V2I (pc' := 98) rfl (by decide) rfl mth_12 ⟨Nat.le_of_ble_eq_true rfl, rfl⟩ ⟨Nat.le_refl _, Nat.le_refl _⟩ (d_X1_pullOf hq2) ?_
      refine ev_aload_n (pc' := 99) rfl rfl rfl ?_
      refine ev_aload_n (pc' := 100) rfl rfl rfl ?_
      refine ev_iload_n (pc' := 101) rfl rfl rfl ?_
      refine ev_iload_n (pc' := 102) rfl rfl rfl ?_
      refine ev_aload_n (pc' := 103) rfl rfl rfl ?_
      refine ev_getI (pc' := 106) rfl rfl ?_
      refine ev_iadd (pc' := 107) rfl rfl ?_
      refine ev_iconst (pc' := 108) rfl rfl (v := (1 : Int32)) (by decide) ?_
      refine ev_isub (pc' := 109) rfl rfl ?_
      obtain ⟨q3, hq3, h⟩ := Option.bind_eq_some_iff.mp h
      refine ev_V4I (pc' := 112) rfl (by decide) rfl mth_11 ⟨Nat.le_of_ble_eq_true rfl, rfl⟩ ⟨Nat.le_refl _, Nat.le_refl _⟩ (d_X1_mostNeeded hq3) ?_
      refine ev_icmp_lt rfl (pc' := 115) rfl (fun hc => ?_) (fun hc => ?_)
      · have h := (if_pos hc).symm.trans h
        refine ev_iconst (pc' := 120) rfl rfl (v := (0 : Int32)) (by decide) ?_
        exact e_X1_holds_120 hΨ h
      · have h := (if_neg hc).symm.trans h
        refine ev_iconst (pc' := 116) rfl rfl (v := (1 : Int32)) (by decide) ?_
        refine ev_goto (pc' := 120) rfl ?_
        exact e_X1_holds_120 hΨ h
    | 3, hn =>
      obtain rfl := Option.some.inj hn
      have e9 : p1 = (4 : Int32) := Int32.toInt_inj.mp (hv.trans (by decide))
      have h := (if_neg (show ¬ p1 = (1 : Int32) from by rw [e9]; decide)).symm.trans h
      have h := (if_neg (show ¬ p1 = (2 : Int32) from by rw [e9]; decide)).symm.trans h
      have h := (if_neg (show ¬ p1 = (3 : Int32) from by rw [e9]; decide)).symm.trans h
      have h := (if_pos e9).symm.trans h
      refine ev_aload_n (pc' := 122) rfl rfl rfl ?_
      refine ev_iload (pc' := 124) rfl rfl rfl ?_
      obtain ⟨q4, hq4, h⟩ := Option.bind_eq_some_iff.mp h
      refine ev_V2I (pc' := 127) rfl (by decide) rfl mth_13 ⟨Nat.le_of_ble_eq_true rfl, rfl⟩ ⟨Nat.le_refl _, Nat.le_refl _⟩ (d_X1_canPullAstern hq4) ?_
      obtain rfl := Option.some.inj h
      exact ev_ireturn rfl ⟨⟨_, rfl, nar_bI _⟩, rfl, rfl, hΨ⟩
    | 4, hn =>
      obtain rfl := Option.some.inj hn
      have e9 : p1 = (5 : Int32) := Int32.toInt_inj.mp (hv.trans (by decide))
      have h := (if_neg (show ¬ p1 = (1 : Int32) from by rw [e9]; decide)).symm.trans h
      have h := (if_neg (show ¬ p1 = (2 : Int32) from by rw [e9]; decide)).symm.trans h
      have h := (if_neg (show ¬ p1 = (3 : Int32) from by rw [e9]; decide)).symm.trans h
      have h := (if_neg (show ¬ p1 = (4 : Int32) from by rw [e9]; decide)).symm.trans h
      have h := (if_neg (show ¬ p1 = (9 : Int32) from by rw [e9]; decide)).symm.trans h
      have h := (if_neg (show ¬ p1 = (10 : Int32) from by rw [e9]; decide)).symm.trans h
      have h := (if_neg (show ¬ p1 = (12 : Int32) from by rw [e9]; decide)).symm.trans h
      exact e_X1_holds_195 hΨ h
    | 5, hn =>
      obtain rfl := Option.some.inj hn
      have e9 : p1 = (6 : Int32) := Int32.toInt_inj.mp (hv.trans (by decide))
      have h := (if_neg (show ¬ p1 = (1 : Int32) from by rw [e9]; decide)).symm.trans h
      have h := (if_neg (show ¬ p1 = (2 : Int32) from by rw [e9]; decide)).symm.trans h
      have h := (if_neg (show ¬ p1 = (3 : Int32) from by rw [e9]; decide)).symm.trans h
      have h := (if_neg (show ¬ p1 = (4 : Int32) from by rw [e9]; decide)).symm.trans h
      have h := (if_neg (show ¬ p1 = (9 : Int32) from by rw [e9]; decide)).symm.trans h
      have h := (if_neg (show ¬ p1 = (10 : Int32) from by rw [e9]; decide)).symm.trans h
      have h := (if_neg (show ¬ p1 = (12 : Int32) from by rw [e9]; decide)).symm.trans h
      exact e_X1_holds_195 hΨ h
    | 6, hn =>
      obtain rfl := Option.some.inj hn
      have e9 : p1 = (7 : Int32) := Int32.toInt_inj.mp (hv.trans (by decide))
      have h := (if_neg (show ¬ p1 = (1 : Int32) from by rw [e9]; decide)).symm.trans h
      have h := (if_neg (show ¬ p1 = (2 : Int32) from by rw [e9]; decide)).symm.trans h
      have h := (if_neg (show ¬ p1 = (3 : Int32) from by rw [e9]; decide)).symm.trans h
      have h := (if_neg (show ¬ p1 = (4 : Int32) from by rw [e9]; decide)).symm.trans h
      have h := (if_neg (show ¬ p1 = (9 : Int32) from by rw [e9]; decide)).symm.trans h
      have h := (if_neg (show ¬ p1 = (10 : Int32) from by rw [e9]; decide)).symm.trans h
      have h := (if_neg (show ¬ p1 = (12 : Int32) from by rw [e9]; decide)).symm.trans h
      exact e_X1_holds_195 hΨ h
    | 7, hn =>
      obtain rfl := Option.some.inj hn
      have e9 : p1 = (8 : Int32) := Int32.toInt_inj.mp (hv.trans (by decide))
      have h := (if_neg (show ¬ p1 = (1 : Int32) from by rw [e9]; decide)).symm.trans h
      have h := (if_neg (show ¬ p1 = (2 : Int32) from by rw [e9]; decide)).symm.trans h
      have h := (if_neg (show ¬ p1 = (3 : Int32) from by rw [e9]; decide)).symm.trans h
      have h := (if_neg (show ¬ p1 = (4 : Int32) from by rw [e9]; decide)).symm.trans h
      have h := (if_neg (show ¬ p1 = (9 : Int32) from by rw [e9]; decide)).symm.trans h
      have h := (if_neg (show ¬ p1 = (10 : Int32) from by rw [e9]; decide)).symm.trans h
      have h := (if_neg (show ¬ p1 = (12 : Int32) from by rw [e9]; decide)).symm.trans h
      exact e_X1_holds_195 hΨ h
    | 8, hn =>
      obtain rfl := Option.some.inj hn
      have e9 : p1 = (9 : Int32) := Int32.toInt_inj.mp (hv.trans (by decide))
      have h := (if_neg (show ¬ p1 = (1 : Int32) from by rw [e9]; decide)).symm.trans h
      have h := (if_neg (show ¬ p1 = (2 : Int32) from by rw [e9]; decide)).symm.trans h
      have h := (if_neg (show ¬ p1 = (3 : Int32) from by rw [e9]; decide)).symm.trans h
      have h := (if_neg (show ¬ p1 = (4 : Int32) from by rw [e9]; decide)).symm.trans h
      have h := (if_pos e9).symm.trans h
      refine ev_aload_n (pc' := 129) rfl rfl rfl ?_
      refine ev_aload_n (pc' := 130) rfl rfl rfl ?_
      obtain ⟨q5, hq5, h⟩ := Option.bind_eq_some_iff.mp h
      refine ev_V2L (pc' := 133) rfl (by decide) rfl mth_15 ⟨Nat.le_of_ble_eq_true rfl, rfl⟩ ⟨Nat.le_refl _, Nat.le_refl _⟩ (d_X1_basinHours hq5) ?_
      refine ev_aload_n (pc' := 134) rfl rfl rfl ?_
      refine ev_iload_n (pc' := 135) rfl rfl rfl ?_
      refine ev_V2L (pc' := 138) rfl (by decide) rfl mth_60 ⟨Nat.le_of_ble_eq_true rfl, rfl⟩ ⟨Nat.le_refl _, Nat.le_refl _⟩ d_X4_hoursFrom ?_
      refine ev_land (pc' := 139) rfl rfl ?_
      refine ev_lconst (pc' := 140) rfl rfl (v := (0 : Int64)) (by decide) ?_
      refine ev_lcmp (pc' := 141) rfl rfl ?_
      refine ev_if_ne rfl (pc' := 144) rfl (fun hc => ?_) (fun hc => ?_)
      · have h := (if_pos hc).symm.trans h
        refine ev_iconst (pc' := 149) rfl rfl (v := (0 : Int32)) (by decide) ?_
        exact e_X1_holds_149 hΨ h
      · have h := (if_neg hc).symm.trans h
        refine ev_iconst (pc' := 145) rfl rfl (v := (1 : Int32)) (by decide) ?_
        refine ev_goto (pc' := 149) rfl ?_
        exact e_X1_holds_149 hΨ h
    | 9, hn =>
      obtain rfl := Option.some.inj hn
      have e9 : p1 = (10 : Int32) := Int32.toInt_inj.mp (hv.trans (by decide))
      have h := (if_neg (show ¬ p1 = (1 : Int32) from by rw [e9]; decide)).symm.trans h
      have h := (if_neg (show ¬ p1 = (2 : Int32) from by rw [e9]; decide)).symm.trans h
      have h := (if_neg (show ¬ p1 = (3 : Int32) from by rw [e9]; decide)).symm.trans h
      have h := (if_neg (show ¬ p1 = (4 : Int32) from by rw [e9]; decide)).symm.trans h
      have h := (if_neg (show ¬ p1 = (9 : Int32) from by rw [e9]; decide)).symm.trans h
      have h := (if_pos e9).symm.trans h
      refine ev_aload_n (pc' := 151) rfl rfl rfl ?_
      refine ev_getI (pc' := 154) rfl rfl ?_
      refine ev_if_eq rfl (pc' := 157) rfl (fun hc => ?_) (fun hc => ?_)
      · have h := (if_pos hc).symm.trans h
        exact e_X1_holds_168 hΨ h
      · have h := (if_neg hc).symm.trans h
        refine ev_aload_n (pc' := 158) rfl rfl rfl ?_
        refine ev_aload_n (pc' := 159) rfl rfl rfl ?_
        refine ev_iload_n (pc' := 160) rfl rfl rfl ?_
        refine ev_iload (pc' := 162) rfl rfl rfl ?_
        obtain ⟨q6, hq6, h⟩ := Option.bind_eq_some_iff.mp h
        refine ev_V4I (pc' := 165) rfl (by decide) rfl mth_16 ⟨Nat.le_of_ble_eq_true rfl, rfl⟩ ⟨Nat.le_refl _, Nat.le_refl _⟩ (d_X1_isGuarded hq6) ?_
        refine ev_ifB_eq rfl (pc' := 168) rfl (fun hc => ?_) (fun hc => ?_)
        · have h := (if_neg hc).symm.trans h
          refine ev_iconst (pc' := 173) rfl rfl (v := (0 : Int32)) (by decide) ?_
          exact e_X1_holds_173 hΨ h
        · have h := (if_pos hc).symm.trans h
          exact e_X1_holds_168 hΨ h
    | 10, hn =>
      obtain rfl := Option.some.inj hn
      have e9 : p1 = (11 : Int32) := Int32.toInt_inj.mp (hv.trans (by decide))
      have h := (if_neg (show ¬ p1 = (1 : Int32) from by rw [e9]; decide)).symm.trans h
      have h := (if_neg (show ¬ p1 = (2 : Int32) from by rw [e9]; decide)).symm.trans h
      have h := (if_neg (show ¬ p1 = (3 : Int32) from by rw [e9]; decide)).symm.trans h
      have h := (if_neg (show ¬ p1 = (4 : Int32) from by rw [e9]; decide)).symm.trans h
      have h := (if_neg (show ¬ p1 = (9 : Int32) from by rw [e9]; decide)).symm.trans h
      have h := (if_neg (show ¬ p1 = (10 : Int32) from by rw [e9]; decide)).symm.trans h
      have h := (if_neg (show ¬ p1 = (12 : Int32) from by rw [e9]; decide)).symm.trans h
      exact e_X1_holds_195 hΨ h
    | 11, hn =>
      obtain rfl := Option.some.inj hn
      have e9 : p1 = (12 : Int32) := Int32.toInt_inj.mp (hv.trans (by decide))
      have h := (if_neg (show ¬ p1 = (1 : Int32) from by rw [e9]; decide)).symm.trans h
      have h := (if_neg (show ¬ p1 = (2 : Int32) from by rw [e9]; decide)).symm.trans h
      have h := (if_neg (show ¬ p1 = (3 : Int32) from by rw [e9]; decide)).symm.trans h
      have h := (if_neg (show ¬ p1 = (4 : Int32) from by rw [e9]; decide)).symm.trans h
      have h := (if_neg (show ¬ p1 = (9 : Int32) from by rw [e9]; decide)).symm.trans h
      have h := (if_neg (show ¬ p1 = (10 : Int32) from by rw [e9]; decide)).symm.trans h
      have h := (if_pos e9).symm.trans h
      refine ev_aload_n (pc' := 175) rfl rfl rfl ?_
      refine ev_getL (pc' := 178) rfl rfl ?_
      refine ev_aload_n (pc' := 179) rfl rfl rfl ?_
      refine ev_iload_n (pc' := 180) rfl rfl rfl ?_
      refine ev_V2L (pc' := 183) rfl (by decide) rfl mth_60 ⟨Nat.le_of_ble_eq_true rfl, rfl⟩ ⟨Nat.le_refl _, Nat.le_refl _⟩ d_X4_hoursFrom ?_
      refine ev_land (pc' := 184) rfl rfl ?_
      refine ev_lconst (pc' := 185) rfl rfl (v := (0 : Int64)) (by decide) ?_
      refine ev_lcmp (pc' := 186) rfl rfl ?_
      refine ev_if_ne rfl (pc' := 189) rfl (fun hc => ?_) (fun hc => ?_)
      · have h := (if_pos hc).symm.trans h
        refine ev_iconst (pc' := 194) rfl rfl (v := (0 : Int32)) (by decide) ?_
        exact e_X1_holds_194 hΨ h
      · have h := (if_neg hc).symm.trans h
        refine ev_iconst (pc' := 190) rfl rfl (v := (1 : Int32)) (by decide) ?_
        refine ev_goto (pc' := 194) rfl ?_
        exact e_X1_holds_194 hΨ h
    | n + 12, hn => exact absurd hn (by simp)
def s_X1_liftAll_29 (i0 : Nat) (p1 : Int32) (rec2 : Int32 → (Nat → Nat → Nat → Int32) → (Nat → Nat → Nat → Int64) → Option (GS)) (v2 : Int32) (g : Nat → Nat → Nat → Int32) (w : Nat → Nat → Nat → Int64) : Option (GS) :=
  rec2 (v2 + 1) g w
set_option maxRecDepth 20000 in
set_option maxHeartbeats 2000000 in
theorem e_X1_liftAll_29 {d : Nat} {Ψ : Option AV → DS → Prop} {i0 : Nat} {p1 : Int32} {rec2 : Int32 → (Nat → Nat → Nat → Int32) → (Nat → Nat → Nat → Int64) → Option (GS)} {r : GS} {g : Nat → Nat → Nat → Int32} {w : Nat → Nat → Nat → Int64} {v2 : Int32} (hr2 : ∀ {v2 : Int32} {g : Nat → Nat → Nat → Int32} {w : Nat → Nat → Nat → Int64} , rec2 v2 g w = some r → Ev (EvM mth (d + 5)) mth c00 sc0 (retP (none) c00 Ψ) (lkp es_32) 2 [some (aR 1 i0), some (aI p1), some (aI v2)] [] (L0, g, w, q0)) (hΨ : Ψ none (L0, r.1, r.2, q0)) (h : s_X1_liftAll_29 i0 p1 rec2 v2 g w = some r) : Ev (EvM mth (d + 5)) mth c00 sc0 (retP (none) c00 Ψ) (lkp es_32) 29 [some (aR 1 i0), some (aI p1), some (aI v2)] [] (L0, g, w, q0) := by
  unfold s_X1_liftAll_29 at h
  refine ev_iinc (pc' := 32) rfl rfl (l' := [some (aR 1 i0), some (aI p1), some (aI (v2 + 1))]) rfl (ii_1 _) rfl ?_
  refine ev_goto (pc' := 2) rfl ?_
  exact hr2 h
def s_X1_liftAll_2 (i0 : Nat) (p1 : Int32) (rec2 : Int32 → (Nat → Nat → Nat → Int32) → (Nat → Nat → Nat → Int64) → Option (GS)) (v2 : Int32) (g : Nat → Nat → Nat → Int32) (w : Nat → Nat → Nat → Int64) : Option (GS) :=
  if (8 : Int32) ≤ v2 then
    some ((g, w))
  else
    if ((jush p1 v2) &&& (1 : Int32)) = 0 then
      s_X1_liftAll_29 i0 p1 rec2 v2 g w
    else
      if inR v2 8 = true then
        (s_X1_lift i0 (8 * i0 + v2.toNatClampNeg) g w).bind fun q1 =>
        s_X1_liftAll_29 i0 p1 rec2 v2 q1.1 q1.2
      else none
set_option maxRecDepth 20000 in
set_option maxHeartbeats 2000000 in
theorem e_X1_liftAll_2 {d : Nat} {Ψ : Option AV → DS → Prop} {i0 : Nat} {p1 : Int32} {rec2 : Int32 → (Nat → Nat → Nat → Int32) → (Nat → Nat → Nat → Int64) → Option (GS)} {r : GS} {g : Nat → Nat → Nat → Int32} {w : Nat → Nat → Nat → Int64} {v2 : Int32} (hr2 : ∀ {v2 : Int32} {g : Nat → Nat → Nat → Int32} {w : Nat → Nat → Nat → Int64} , rec2 v2 g w = some r → Ev (EvM mth (d + 5)) mth c00 sc0 (retP (none) c00 Ψ) (lkp es_32) 2 [some (aR 1 i0), some (aI p1), some (aI v2)] [] (L0, g, w, q0)) (hΨ : Ψ none (L0, r.1, r.2, q0)) (h : s_X1_liftAll_2 i0 p1 rec2 v2 g w = some r) : Ev (EvM mth (d + 5)) mth c00 sc0 (retP (none) c00 Ψ) (lkp es_32) 2 [some (aR 1 i0), some (aI p1), some (aI v2)] [] (L0, g, w, q0) := by
  unfold s_X1_liftAll_2 at h
  refine ev_iload_n (pc' := 3) rfl rfl rfl ?_
  refine ev_aload_n (pc' := 4) rfl rfl rfl ?_
  refine ev_getQ (pc' := 7) rfl rfl rfl ?_
  refine ev_alen (pc' := 8) rfl rfl (by decide) (v := (8 : Int32)) (by decide) ?_
  refine ev_icmp_ge rfl (pc' := 11) rfl (fun hc => ?_) (fun hc => ?_)
  · have h := (if_pos hc).symm.trans h
    obtain rfl := Option.some.inj h
    exact ev_return rfl ⟨rfl, rfl, rfl, hΨ⟩
  · have h := (if_neg hc).symm.trans h
    refine ev_iload_n (pc' := 12) rfl rfl rfl ?_
    refine ev_iload_n (pc' := 13) rfl rfl rfl ?_
    refine ev_iushr (pc' := 14) rfl rfl ?_
    refine ev_iconst (pc' := 15) rfl rfl (v := (1 : Int32)) (by decide) ?_
    refine ev_iand (pc' := 16) rfl rfl ?_
    refine ev_if_eq rfl (pc' := 19) rfl (fun hc => ?_) (fun hc => ?_)
    · have h := (if_pos hc).symm.trans h
      exact e_X1_liftAll_29 (hr2 := hr2) hΨ h
    · have h := (if_neg hc).symm.trans h
      refine ev_aload_n (pc' := 20) rfl rfl rfl ?_
      refine ev_aload_n (pc' := 21) rfl rfl rfl ?_
      refine ev_getQ (pc' := 24) rfl rfl rfl ?_
      refine ev_iload_n (pc' := 25) rfl rfl rfl ?_
      obtain ⟨hi, h⟩ := gdB h
      refine ev_aald (pc' := 26) rfl rfl (by decide) rfl (inR_vp hi) rfl ?_
      obtain ⟨q1, hq1, h⟩ := Option.bind_eq_some_iff.mp h
      refine ev_V2V (pc' := 29) rfl (by decide) rfl mth_31 ⟨Nat.le_of_ble_eq_true rfl, rfl⟩ ⟨Nat.le_refl _, Nat.le_refl _⟩ (d_X1_lift hq1) ?_
      exact e_X1_liftAll_29 (hr2 := hr2) hΨ h
def s_X1_liftAll_R2 (i0 : Nat) (p1 : Int32) : Nat → Int32 → (Nat → Nat → Nat → Int32) → (Nat → Nat → Nat → Int64) → Option (GS)
  | 0 => fun _ _ _ => none
  | n + 1 => s_X1_liftAll_2 i0 p1 (s_X1_liftAll_R2 i0 p1 n)
theorem e_X1_liftAll_R2 {d : Nat} {Ψ : Option AV → DS → Prop} {i0 : Nat} {p1 : Int32} {r : GS} (hΨ : Ψ none (L0, r.1, r.2, q0)) : ∀ (n : Nat) {v2 : Int32} {g : Nat → Nat → Nat → Int32} {w : Nat → Nat → Nat → Int64}, s_X1_liftAll_R2 i0 p1 n v2 g w = some r → Ev (EvM mth (d + 5)) mth c00 sc0 (retP (none) c00 Ψ) (lkp es_32) 2 [some (aR 1 i0), some (aI p1), some (aI v2)] [] (L0, g, w, q0) := by
  intro n
  induction n with
  | zero => intros; rename_i h; exact absurd h (by intro h9; cases h9)
  | succ n ih => intros; rename_i h; exact e_X1_liftAll_2 (hr2 := ih) hΨ h
def s_X1_liftAll (i0 : Nat) (p1 : Int32) (g : Nat → Nat → Nat → Int32) (w : Nat → Nat → Nat → Int64) : Option (GS) :=
  s_X1_liftAll_R2 i0 p1 FU (0 : Int32) g w
set_option maxRecDepth 20000 in
set_option maxHeartbeats 2000000 in
theorem d_X1_liftAll {d : Nat} {i0 : Nat} {p1 : Int32} {g : Nat → Nat → Nat → Int32} {w : Nat → Nat → Nat → Int64} {r : GS} (h : s_X1_liftAll i0 p1 g w = some r) : Does (EvM mth (d + 6)) 32 [aR 1 i0, aI p1] (L0, g, w, q0) none (L0, r.1, r.2, q0) := by
  intro Ψ hΨ
  refine ⟨in_32, mth_32, Nat.le_of_ble_eq_true rfl, ?_⟩
  show Ev (EvM mth (d + 5)) mth c00 sc0 (retP (none) c00 Ψ) (lkp es_32) 0 [some (aR 1 i0), some (aI p1), none] [] (L0, g, w, q0)
  unfold s_X1_liftAll at h
  refine ev_iconst (pc' := 1) rfl rfl (v := (0 : Int32)) (by decide) ?_
  refine ev_istore_n (pc' := 2) rfl rfl (l' := [some (aR 1 i0), some (aI p1), some (aI (0 : Int32))]) rfl ?_
  exact e_X1_liftAll_R2 hΨ FU h
def s_X1_layEach_104 (i0 : Nat) (p1 : Nat) (p2 : Int32) (v3 : Int32) (g : Nat → Nat → Nat → Int32) (w : Nat → Nat → Nat → Int64) : Option (Int32 × GS) :=
  some ((v3, g, w))
set_option maxRecDepth 20000 in
set_option maxHeartbeats 2000000 in
theorem e_X1_layEach_104 {d : Nat} {Ψ : Option AV → DS → Prop} {i0 : Nat} {p1 : Nat} {p2 : Int32} {r : Int32 × GS} {g : Nat → Nat → Nat → Int32} {w : Nat → Nat → Nat → Int64} {v3 : Int32} {x0 : Option AV} {x1 : Option AV} {x2 : Option AV} {x4 : Option AV} {x5 : Option AV} {x6 : Option AV} (hΨ : Ψ (some (aI r.1)) (L0, r.2.1, r.2.2, q0)) (h : s_X1_layEach_104 i0 p1 p2 v3 g w = some r) : Ev (EvM mth (d + 5)) mth c00 sc0 (retP (some .int) c00 Ψ) (lkp es_35) 104 [x0, x1, x2, some (aI v3), x4, x5, x6] [] (L0, g, w, q0) := by
  unfold s_X1_layEach_104 at h
  refine ev_iload_n (pc' := 105) rfl rfl rfl ?_
  obtain rfl := Option.some.inj h
  exact ev_ireturn rfl ⟨⟨_, rfl, rfl⟩, rfl, rfl, hΨ⟩
def s_X1_layEach_98 (i0 : Nat) (p1 : Nat) (p2 : Int32) (rec5 : Int32 → Int32 → (Nat → Nat → Nat → Int32) → (Nat → Nat → Nat → Int64) → Option (Int32 × GS)) (v3 : Int32) (v4 : Int32) (g : Nat → Nat → Nat → Int32) (w : Nat → Nat → Nat → Int64) : Option (Int32 × GS) :=
  rec5 v3 (v4 + 1) g w
set_option maxRecDepth 20000 in
set_option maxHeartbeats 2000000 in
theorem e_X1_layEach_98 {d : Nat} {Ψ : Option AV → DS → Prop} {i0 : Nat} {p1 : Nat} {p2 : Int32} {rec5 : Int32 → Int32 → (Nat → Nat → Nat → Int32) → (Nat → Nat → Nat → Int64) → Option (Int32 × GS)} {r : Int32 × GS} {g : Nat → Nat → Nat → Int32} {w : Nat → Nat → Nat → Int64} {v3 : Int32} {v4 : Int32} {x5 : Option AV} {x6 : Option AV} (hr5 : ∀ {v3 : Int32} {v4 : Int32} {x5 : Option AV} {x6 : Option AV} {g : Nat → Nat → Nat → Int32} {w : Nat → Nat → Nat → Int64} , rec5 v3 v4 g w = some r → Ev (EvM mth (d + 5)) mth c00 sc0 (retP (some .int) c00 Ψ) (lkp es_35) 5 [some (aR 1 i0), some (aR 1004 p1), some (aI p2), some (aI v3), some (aI v4), x5, x6] [] (L0, g, w, q0)) (hΨ : Ψ (some (aI r.1)) (L0, r.2.1, r.2.2, q0)) (h : s_X1_layEach_98 i0 p1 p2 rec5 v3 v4 g w = some r) : Ev (EvM mth (d + 5)) mth c00 sc0 (retP (some .int) c00 Ψ) (lkp es_35) 98 [some (aR 1 i0), some (aR 1004 p1), some (aI p2), some (aI v3), some (aI v4), x5, x6] [] (L0, g, w, q0) := by
  unfold s_X1_layEach_98 at h
  refine ev_iinc (pc' := 101) rfl rfl (l' := [some (aR 1 i0), some (aR 1004 p1), some (aI p2), some (aI v3), some (aI (v4 + 1)), x5, x6]) rfl (ii_1 _) rfl ?_
  refine ev_goto (pc' := 5) rfl ?_
  exact hr5 h
def s_X1_layEach_96 (i0 : Nat) (p1 : Nat) (p2 : Int32) (rec5 : Int32 → Int32 → (Nat → Nat → Nat → Int32) → (Nat → Nat → Nat → Int64) → Option (Int32 × GS)) (t0 : Int32) (t1 : Bool) (v4 : Int32) (g : Nat → Nat → Nat → Int32) (w : Nat → Nat → Nat → Int64) : Option (Int32 × GS) :=
  s_X1_layEach_98 i0 p1 p2 rec5 (t0 + (bI t1)) v4 g w
set_option maxRecDepth 20000 in
set_option maxHeartbeats 2000000 in
theorem e_X1_layEach_96 {d : Nat} {Ψ : Option AV → DS → Prop} {i0 : Nat} {p1 : Nat} {p2 : Int32} {rec5 : Int32 → Int32 → (Nat → Nat → Nat → Int32) → (Nat → Nat → Nat → Int64) → Option (Int32 × GS)} {r : Int32 × GS} {g : Nat → Nat → Nat → Int32} {w : Nat → Nat → Nat → Int64} {t0 : Int32} {t1 : Bool} {v4 : Int32} {x3 : Option AV} {x5 : Option AV} {x6 : Option AV} (hr5 : ∀ {v3 : Int32} {v4 : Int32} {x5 : Option AV} {x6 : Option AV} {g : Nat → Nat → Nat → Int32} {w : Nat → Nat → Nat → Int64} , rec5 v3 v4 g w = some r → Ev (EvM mth (d + 5)) mth c00 sc0 (retP (some .int) c00 Ψ) (lkp es_35) 5 [some (aR 1 i0), some (aR 1004 p1), some (aI p2), some (aI v3), some (aI v4), x5, x6] [] (L0, g, w, q0)) (hΨ : Ψ (some (aI r.1)) (L0, r.2.1, r.2.2, q0)) (h : s_X1_layEach_96 i0 p1 p2 rec5 t0 t1 v4 g w = some r) : Ev (EvM mth (d + 5)) mth c00 sc0 (retP (some .int) c00 Ψ) (lkp es_35) 96 [some (aR 1 i0), some (aR 1004 p1), some (aI p2), x3, some (aI v4), x5, x6] [aI (bI t1), aI t0] (L0, g, w, q0) := by
  unfold s_X1_layEach_96 at h
  refine ev_iadd (pc' := 97) rfl rfl ?_
  refine ev_istore_n (pc' := 98) rfl rfl (l' := [some (aR 1 i0), some (aR 1004 p1), some (aI p2), some (aI (t0 + (bI t1))), some (aI v4), x5, x6]) rfl ?_
  exact e_X1_layEach_98 (hr5 := hr5) hΨ h
def s_X1_layEach_82 (i0 : Nat) (p1 : Nat) (p2 : Int32) (rec5 : Int32 → Int32 → (Nat → Nat → Nat → Int32) → (Nat → Nat → Nat → Int64) → Option (Int32 × GS)) (v3 : Int32) (v4 : Int32) (v5 : Nat) (g : Nat → Nat → Nat → Int32) (w : Nat → Nat → Nat → Int64) : Option (Int32 × GS) :=
  if (s_X4_hasJob v5 g w) = true then
    s_X1_layEach_96 i0 p1 p2 rec5 v3 true v4 g w
  else
    s_X1_layEach_96 i0 p1 p2 rec5 v3 false v4 g w
set_option maxRecDepth 20000 in
set_option maxHeartbeats 2000000 in
theorem e_X1_layEach_82 {d : Nat} {Ψ : Option AV → DS → Prop} {i0 : Nat} {p1 : Nat} {p2 : Int32} {rec5 : Int32 → Int32 → (Nat → Nat → Nat → Int32) → (Nat → Nat → Nat → Int64) → Option (Int32 × GS)} {r : Int32 × GS} {g : Nat → Nat → Nat → Int32} {w : Nat → Nat → Nat → Int64} {v3 : Int32} {v4 : Int32} {v5 : Nat} {x6 : Option AV} (hr5 : ∀ {v3 : Int32} {v4 : Int32} {x5 : Option AV} {x6 : Option AV} {g : Nat → Nat → Nat → Int32} {w : Nat → Nat → Nat → Int64} , rec5 v3 v4 g w = some r → Ev (EvM mth (d + 5)) mth c00 sc0 (retP (some .int) c00 Ψ) (lkp es_35) 5 [some (aR 1 i0), some (aR 1004 p1), some (aI p2), some (aI v3), some (aI v4), x5, x6] [] (L0, g, w, q0)) (hΨ : Ψ (some (aI r.1)) (L0, r.2.1, r.2.2, q0)) (h : s_X1_layEach_82 i0 p1 p2 rec5 v3 v4 v5 g w = some r) : Ev (EvM mth (d + 5)) mth c00 sc0 (retP (some .int) c00 Ψ) (lkp es_35) 82 [some (aR 1 i0), some (aR 1004 p1), some (aI p2), some (aI v3), some (aI v4), some (aR 4 v5), x6] [] (L0, g, w, q0) := by
  unfold s_X1_layEach_82 at h
  refine ev_iload_n (pc' := 83) rfl rfl rfl ?_
  refine ev_aload (pc' := 85) rfl rfl rfl ?_
  refine ev_V1I (pc' := 88) rfl (by decide) rfl mth_55 ⟨Nat.le_of_ble_eq_true rfl, rfl⟩ ⟨Nat.le_refl _, Nat.le_refl _⟩ d_X4_hasJob ?_
  refine ev_ifB_eq rfl (pc' := 91) rfl (fun hc => ?_) (fun hc => ?_)
  · have h := (if_neg hc).symm.trans h
    refine ev_iconst (pc' := 96) rfl rfl (v := (0 : Int32)) (by decide) ?_
    exact e_X1_layEach_96 (hr5 := hr5) hΨ h
  · have h := (if_pos hc).symm.trans h
    refine ev_iconst (pc' := 92) rfl rfl (v := (1 : Int32)) (by decide) ?_
    refine ev_goto (pc' := 96) rfl ?_
    exact e_X1_layEach_96 (hr5 := hr5) hΨ h
def s_X1_layEach_61 (i0 : Nat) (p1 : Nat) (p2 : Int32) (rec5 : Int32 → Int32 → (Nat → Nat → Nat → Int32) → (Nat → Nat → Nat → Int64) → Option (Int32 × GS)) (t0 : Int32) (v3 : Int32) (v4 : Int32) (v5 : Nat) (g : Nat → Nat → Nat → Int32) (w : Nat → Nat → Nat → Int64) : Option (Int32 × GS) :=
  if t0 = (-4 : Int32) then
    s_X1_layEach_82 i0 p1 p2 rec5 v3 v4 v5 g w
  else
    (s_X1_put i0 v5 t0 (g 1 i0 15) g w).bind fun q1 =>
    s_X1_layEach_82 i0 p1 p2 rec5 v3 v4 v5 q1.1 q1.2
set_option maxRecDepth 20000 in
set_option maxHeartbeats 2000000 in
theorem e_X1_layEach_61 {d : Nat} {Ψ : Option AV → DS → Prop} {i0 : Nat} {p1 : Nat} {p2 : Int32} {rec5 : Int32 → Int32 → (Nat → Nat → Nat → Int32) → (Nat → Nat → Nat → Int64) → Option (Int32 × GS)} {r : Int32 × GS} {g : Nat → Nat → Nat → Int32} {w : Nat → Nat → Nat → Int64} {t0 : Int32} {v3 : Int32} {v4 : Int32} {v5 : Nat} {x6 : Option AV} (hr5 : ∀ {v3 : Int32} {v4 : Int32} {x5 : Option AV} {x6 : Option AV} {g : Nat → Nat → Nat → Int32} {w : Nat → Nat → Nat → Int64} , rec5 v3 v4 g w = some r → Ev (EvM mth (d + 5)) mth c00 sc0 (retP (some .int) c00 Ψ) (lkp es_35) 5 [some (aR 1 i0), some (aR 1004 p1), some (aI p2), some (aI v3), some (aI v4), x5, x6] [] (L0, g, w, q0)) (hΨ : Ψ (some (aI r.1)) (L0, r.2.1, r.2.2, q0)) (h : s_X1_layEach_61 i0 p1 p2 rec5 t0 v3 v4 v5 g w = some r) : Ev (EvM mth (d + 5)) mth c00 sc0 (retP (some .int) c00 Ψ) (lkp es_35) 61 [some (aR 1 i0), some (aR 1004 p1), some (aI p2), some (aI v3), some (aI v4), some (aR 4 v5), x6] [aI t0] (L0, g, w, q0) := by
  unfold s_X1_layEach_61 at h
  refine ev_istore (pc' := 63) rfl rfl (l' := [some (aR 1 i0), some (aR 1004 p1), some (aI p2), some (aI v3), some (aI v4), some (aR 4 v5), some (aI t0)]) rfl ?_
  refine ev_iload (pc' := 65) rfl rfl rfl ?_
  refine ev_bipush (pc' := 67) rfl rfl (v := (-4 : Int32)) (by decide) ?_
  refine ev_icmp_eq rfl (pc' := 70) rfl (fun hc => ?_) (fun hc => ?_)
  · have h := (if_pos hc).symm.trans h
    exact e_X1_layEach_82 (hr5 := hr5) hΨ h
  · have h := (if_neg hc).symm.trans h
    refine ev_aload_n (pc' := 71) rfl rfl rfl ?_
    refine ev_aload (pc' := 73) rfl rfl rfl ?_
    refine ev_iload (pc' := 75) rfl rfl rfl ?_
    refine ev_aload_n (pc' := 76) rfl rfl rfl ?_
    refine ev_getI (pc' := 79) rfl rfl ?_
    obtain ⟨q1, hq1, h⟩ := Option.bind_eq_some_iff.mp h
    refine ev_V4V (pc' := 82) rfl (by decide) rfl mth_29 ⟨Nat.le_of_ble_eq_true rfl, rfl⟩ ⟨Nat.le_refl _, Nat.le_refl _⟩ (d_X1_put hq1) ?_
    exact e_X1_layEach_82 (hr5 := hr5) hΨ h
def s_X1_layEach_5 (i0 : Nat) (p1 : Nat) (p2 : Int32) (rec5 : Int32 → Int32 → (Nat → Nat → Nat → Int32) → (Nat → Nat → Nat → Int64) → Option (Int32 × GS)) (v3 : Int32) (v4 : Int32) (g : Nat → Nat → Nat → Int32) (w : Nat → Nat → Nat → Int64) : Option (Int32 × GS) :=
  if p2 ≤ v4 then
    s_X1_layEach_104 i0 p1 p2 v3 g w
  else
    if (4 : Int32) ≤ v4 then
      s_X1_layEach_104 i0 p1 p2 v3 g w
    else
      if inR v4 4 = true then
        if (s_X6_within (g 1004 p1 v4.toNatClampNeg) (0 : Int32) (7 : Int32) g w) = true then
          if inR v4 4 = true then
            if inR (g 1004 p1 v4.toNatClampNeg) 8 = true then
              if (s_X4_hasJob (8 * i0 + (g 1004 p1 v4.toNatClampNeg).toNatClampNeg) g w) = true then
                s_X1_layEach_61 i0 p1 p2 rec5 (-4 : Int32) v3 v4 (8 * i0 + (g 1004 p1 v4.toNatClampNeg).toNatClampNeg) g w
              else
                (s_X1_seekBest i0 (8 * i0 + (g 1004 p1 v4.toNatClampNeg).toNatClampNeg) g w).bind fun q1 =>
                s_X1_layEach_61 i0 p1 p2 rec5 q1.1 v3 v4 (8 * i0 + (g 1004 p1 v4.toNatClampNeg).toNatClampNeg) q1.2.1 q1.2.2
            else none
          else none
        else
          s_X1_layEach_98 i0 p1 p2 rec5 v3 v4 g w
      else none
set_option maxRecDepth 20000 in
set_option maxHeartbeats 2000000 in
theorem e_X1_layEach_5 {d : Nat} {Ψ : Option AV → DS → Prop} {i0 : Nat} {p1 : Nat} {p2 : Int32} {rec5 : Int32 → Int32 → (Nat → Nat → Nat → Int32) → (Nat → Nat → Nat → Int64) → Option (Int32 × GS)} {r : Int32 × GS} {g : Nat → Nat → Nat → Int32} {w : Nat → Nat → Nat → Int64} {v3 : Int32} {v4 : Int32} {x5 : Option AV} {x6 : Option AV} (hr5 : ∀ {v3 : Int32} {v4 : Int32} {x5 : Option AV} {x6 : Option AV} {g : Nat → Nat → Nat → Int32} {w : Nat → Nat → Nat → Int64} , rec5 v3 v4 g w = some r → Ev (EvM mth (d + 5)) mth c00 sc0 (retP (some .int) c00 Ψ) (lkp es_35) 5 [some (aR 1 i0), some (aR 1004 p1), some (aI p2), some (aI v3), some (aI v4), x5, x6] [] (L0, g, w, q0)) (hΨ : Ψ (some (aI r.1)) (L0, r.2.1, r.2.2, q0)) (h : s_X1_layEach_5 i0 p1 p2 rec5 v3 v4 g w = some r) : Ev (EvM mth (d + 5)) mth c00 sc0 (retP (some .int) c00 Ψ) (lkp es_35) 5 [some (aR 1 i0), some (aR 1004 p1), some (aI p2), some (aI v3), some (aI v4), x5, x6] [] (L0, g, w, q0) := by
  unfold s_X1_layEach_5 at h
  refine ev_iload (pc' := 7) rfl rfl rfl ?_
  refine ev_iload_n (pc' := 8) rfl rfl rfl ?_
  refine ev_icmp_ge rfl (pc' := 11) rfl (fun hc => ?_) (fun hc => ?_)
  · have h := (if_pos hc).symm.trans h
    exact e_X1_layEach_104 hΨ h
  · have h := (if_neg hc).symm.trans h
    refine ev_iload (pc' := 13) rfl rfl rfl ?_
    refine ev_aload_n (pc' := 14) rfl rfl rfl ?_
    refine ev_alen (pc' := 15) rfl rfl (by decide) (v := (4 : Int32)) (by decide) ?_
    refine ev_icmp_ge rfl (pc' := 18) rfl (fun hc => ?_) (fun hc => ?_)
    · have h := (if_pos hc).symm.trans h
      exact e_X1_layEach_104 hΨ h
    · have h := (if_neg hc).symm.trans h
      refine ev_aload_n (pc' := 19) rfl rfl rfl ?_
      refine ev_iload (pc' := 21) rfl rfl rfl ?_
      obtain ⟨hi, h⟩ := gdB h
      refine ev_iald (pc' := 22) rfl rfl rfl (inR_vp hi) ?_
      refine ev_iconst (pc' := 23) rfl rfl (v := (0 : Int32)) (by decide) ?_
      refine ev_bipush (pc' := 25) rfl rfl (v := (7 : Int32)) (by decide) ?_
      refine ev_S3I (pc' := 28) rfl (by decide) rfl mth_105 ⟨Nat.le_of_ble_eq_true rfl, rfl⟩ ⟨Nat.le_refl _, Nat.le_refl _⟩ d_X6_within ?_
      refine ev_ifB_eq rfl (pc' := 31) rfl (fun hc => ?_) (fun hc => ?_)
      · have h := (if_neg hc).symm.trans h
        exact e_X1_layEach_98 (hr5 := hr5) hΨ h
      · have h := (if_pos hc).symm.trans h
        refine ev_aload_n (pc' := 32) rfl rfl rfl ?_
        refine ev_getQ (pc' := 35) rfl rfl rfl ?_
        refine ev_aload_n (pc' := 36) rfl rfl rfl ?_
        refine ev_iload (pc' := 38) rfl rfl rfl ?_
        obtain ⟨hi, h⟩ := gdB h
        refine ev_iald (pc' := 39) rfl rfl rfl (inR_vp hi) ?_
        obtain ⟨hi, h⟩ := gdB h
        refine ev_aald (pc' := 40) rfl rfl (by decide) rfl (inR_vp hi) rfl ?_
        refine ev_astore (pc' := 42) rfl rfl (l' := [some (aR 1 i0), some (aR 1004 p1), some (aI p2), some (aI v3), some (aI v4), some (aR 4 (8 * i0 + (g 1004 p1 v4.toNatClampNeg).toNatClampNeg)), x6]) rfl ?_
        refine ev_aload (pc' := 44) rfl rfl rfl ?_
        refine ev_V1I (pc' := 47) rfl (by decide) rfl mth_55 ⟨Nat.le_of_ble_eq_true rfl, rfl⟩ ⟨Nat.le_refl _, Nat.le_refl _⟩ d_X4_hasJob ?_
        refine ev_ifB_eq rfl (pc' := 50) rfl (fun hc => ?_) (fun hc => ?_)
        · have h := (if_neg hc).symm.trans h
          refine ev_aload_n (pc' := 56) rfl rfl rfl ?_
          refine ev_aload (pc' := 58) rfl rfl rfl ?_
          obtain ⟨q1, hq1, h⟩ := Option.bind_eq_some_iff.mp h
          refine ev_V2I (pc' := 61) rfl (by decide) rfl mth_25 ⟨Nat.le_of_ble_eq_true rfl, rfl⟩ ⟨Nat.le_refl _, Nat.le_refl _⟩ (d_X1_seekBest hq1) ?_
          exact e_X1_layEach_61 (hr5 := hr5) hΨ h
        · have h := (if_pos hc).symm.trans h
          refine ev_bipush (pc' := 52) rfl rfl (v := (-4 : Int32)) (by decide) ?_
          refine ev_goto (pc' := 61) rfl ?_
          exact e_X1_layEach_61 (hr5 := hr5) hΨ h
def s_X1_layEach_R5 (i0 : Nat) (p1 : Nat) (p2 : Int32) : Nat → Int32 → Int32 → (Nat → Nat → Nat → Int32) → (Nat → Nat → Nat → Int64) → Option (Int32 × GS)
  | 0 => fun _ _ _ _ => none
  | n + 1 => s_X1_layEach_5 i0 p1 p2 (s_X1_layEach_R5 i0 p1 p2 n)
theorem e_X1_layEach_R5 {d : Nat} {Ψ : Option AV → DS → Prop} {i0 : Nat} {p1 : Nat} {p2 : Int32} {r : Int32 × GS} (hΨ : Ψ (some (aI r.1)) (L0, r.2.1, r.2.2, q0)) : ∀ (n : Nat) {v3 : Int32} {v4 : Int32} {x5 : Option AV} {x6 : Option AV} {g : Nat → Nat → Nat → Int32} {w : Nat → Nat → Nat → Int64}, s_X1_layEach_R5 i0 p1 p2 n v3 v4 g w = some r → Ev (EvM mth (d + 5)) mth c00 sc0 (retP (some .int) c00 Ψ) (lkp es_35) 5 [some (aR 1 i0), some (aR 1004 p1), some (aI p2), some (aI v3), some (aI v4), x5, x6] [] (L0, g, w, q0) := by
  intro n
  induction n with
  | zero => intros; rename_i h; exact absurd h (by intro h9; cases h9)
  | succ n ih => intros; rename_i h; exact e_X1_layEach_5 (hr5 := ih) hΨ h
def s_X1_layEach (i0 : Nat) (p1 : Nat) (p2 : Int32) (g : Nat → Nat → Nat → Int32) (w : Nat → Nat → Nat → Int64) : Option (Int32 × GS) :=
  s_X1_layEach_R5 i0 p1 p2 FU (0 : Int32) (0 : Int32) g w
set_option maxRecDepth 20000 in
set_option maxHeartbeats 2000000 in
theorem d_X1_layEach {d : Nat} {i0 : Nat} {p1 : Nat} {p2 : Int32} {g : Nat → Nat → Nat → Int32} {w : Nat → Nat → Nat → Int64} {r : Int32 × GS} (h : s_X1_layEach i0 p1 p2 g w = some r) : Does (EvM mth (d + 6)) 35 [aR 1 i0, aR 1004 p1, aI p2] (L0, g, w, q0) (some (aI r.1)) (L0, r.2.1, r.2.2, q0) := by
  intro Ψ hΨ
  refine ⟨in_35, mth_35, Nat.le_of_ble_eq_true rfl, ?_⟩
  show Ev (EvM mth (d + 5)) mth c00 sc0 (retP (some .int) c00 Ψ) (lkp es_35) 0 [some (aR 1 i0), some (aR 1004 p1), some (aI p2), none, none, none, none] [] (L0, g, w, q0)
  unfold s_X1_layEach at h
  refine ev_iconst (pc' := 1) rfl rfl (v := (0 : Int32)) (by decide) ?_
  refine ev_istore_n (pc' := 2) rfl rfl (l' := [some (aR 1 i0), some (aR 1004 p1), some (aI p2), some (aI (0 : Int32)), none, none, none]) rfl ?_
  refine ev_iconst (pc' := 3) rfl rfl (v := (0 : Int32)) (by decide) ?_
  refine ev_istore (pc' := 5) rfl rfl (l' := [some (aR 1 i0), some (aR 1004 p1), some (aI p2), some (aI (0 : Int32)), some (aI (0 : Int32)), none, none]) rfl ?_
  exact e_X1_layEach_R5 hΨ FU h
def s_X1_breakDown_115 (i0 : Nat) (p1 : Int32) (p2 : Int32) (rec16 : Int32 → Int32 → (Nat → Nat → Nat → Int32) → (Nat → Nat → Nat → Int64) → Option (Int32 × GS)) (v3 : Int32) (v6 : Int32) (g : Nat → Nat → Nat → Int32) (w : Nat → Nat → Nat → Int64) : Option (Int32 × GS) :=
  rec16 v3 (v6 + 1) g w
set_option maxRecDepth 20000 in
set_option maxHeartbeats 2000000 in
theorem e_X1_breakDown_115 {d : Nat} {Ψ : Option AV → DS → Prop} {i0 : Nat} {p1 : Int32} {p2 : Int32} {rec16 : Int32 → Int32 → (Nat → Nat → Nat → Int32) → (Nat → Nat → Nat → Int64) → Option (Int32 × GS)} {r : Int32 × GS} {g : Nat → Nat → Nat → Int32} {w : Nat → Nat → Nat → Int64} {v3 : Int32} {v6 : Int32} {x7 : Option AV} (hr16 : ∀ {v3 : Int32} {v6 : Int32} {x7 : Option AV} {g : Nat → Nat → Nat → Int32} {w : Nat → Nat → Nat → Int64} , rec16 v3 v6 g w = some r → Ev (EvM mth (d + 5)) mth c00 sc0 (retP (some .int) c00 Ψ) (lkp es_37) 16 [some (aR 1 i0), some (aI p1), some (aI p2), some (aI v3), some (aR 4008 i0), some (aI (8 : Int32)), some (aI v6), x7] [] (L0, g, w, q0)) (hΨ : Ψ (some (aI r.1)) (L0, r.2.1, r.2.2, q0)) (h : s_X1_breakDown_115 i0 p1 p2 rec16 v3 v6 g w = some r) : Ev (EvM mth (d + 5)) mth c00 sc0 (retP (some .int) c00 Ψ) (lkp es_37) 115 [some (aR 1 i0), some (aI p1), some (aI p2), some (aI v3), some (aR 4008 i0), some (aI (8 : Int32)), some (aI v6), x7] [] (L0, g, w, q0) := by
  unfold s_X1_breakDown_115 at h
  refine ev_iinc (pc' := 118) rfl rfl (l' := [some (aR 1 i0), some (aI p1), some (aI p2), some (aI v3), some (aR 4008 i0), some (aI (8 : Int32)), some (aI (v6 + 1)), x7]) rfl (ii_1 _) rfl ?_
  refine ev_goto (pc' := 16) rfl ?_
  exact hr16 h
def s_X1_breakDown_16 (i0 : Nat) (p1 : Int32) (p2 : Int32) (rec16 : Int32 → Int32 → (Nat → Nat → Nat → Int32) → (Nat → Nat → Nat → Int64) → Option (Int32 × GS)) (v3 : Int32) (v6 : Int32) (g : Nat → Nat → Nat → Int32) (w : Nat → Nat → Nat → Int64) : Option (Int32 × GS) :=
  if (8 : Int32) ≤ v6 then
    if inR p1 6 = true then
      if inR p1 6 = true then
        some ((v3, (gI g 5 (6 * i0 + p1.toNatClampNeg) 7 p2), (wL w 5 (6 * i0 + p1.toNatClampNeg) 9 ((w 5 (6 * i0 + p1.toNatClampNeg) 9) &&& (s_X6_hoursAhead p2 (gI g 5 (6 * i0 + p1.toNatClampNeg) 7 p2) w)))))
      else none
    else none
  else
    if inR v6 8 = true then
      if (s_X4_hasJobWith (8 * i0 + v6.toNatClampNeg) p1 g w) = true then
        if (s_X4_lastHour (8 * i0 + v6.toNatClampNeg) g w) < p2 then
          s_X1_breakDown_115 i0 p1 p2 rec16 v3 v6 g w
        else
          (s_X1_goesOn i0 (8 * i0 + v6.toNatClampNeg) p1 p2 g w).bind fun q1 =>
          if q1 = true then
            (s_X1_release i0 (8 * i0 + v6.toNatClampNeg) ((1 : Int32) <<< (p1 &&& 31)) p2 g w).bind fun q3 =>
            s_X1_breakDown_115 i0 p1 p2 rec16 v3 v6 (gI (gI q3.2.1 1 i0 13 ((g 1 i0 13) + q3.1)) 4 (8 * i0 + v6.toNatClampNeg) 8 (((gI q3.2.1 1 i0 13 ((g 1 i0 13) + q3.1)) 4 (8 * i0 + v6.toNatClampNeg) 8) &&& (((1 : Int32) <<< (p1 &&& 31)) ^^^ (-1 : Int32)))) q3.2.2
          else
            (s_X1_takeOff i0 (8 * i0 + v6.toNatClampNeg) p2 g w).bind fun q2 =>
            s_X1_breakDown_115 i0 p1 p2 rec16 (v3 + 1) v6 (gI q2.2.1 1 i0 13 ((g 1 i0 13) + q2.1)) q2.2.2
      else
        s_X1_breakDown_115 i0 p1 p2 rec16 v3 v6 g w
    else none
set_option maxRecDepth 20000 in
set_option maxHeartbeats 2000000 in
theorem e_X1_breakDown_16 {d : Nat} {Ψ : Option AV → DS → Prop} {i0 : Nat} {p1 : Int32} {p2 : Int32} {rec16 : Int32 → Int32 → (Nat → Nat → Nat → Int32) → (Nat → Nat → Nat → Int64) → Option (Int32 × GS)} {r : Int32 × GS} {g : Nat → Nat → Nat → Int32} {w : Nat → Nat → Nat → Int64} {v3 : Int32} {v6 : Int32} {x7 : Option AV} (hr16 : ∀ {v3 : Int32} {v6 : Int32} {x7 : Option AV} {g : Nat → Nat → Nat → Int32} {w : Nat → Nat → Nat → Int64} , rec16 v3 v6 g w = some r → Ev (EvM mth (d + 5)) mth c00 sc0 (retP (some .int) c00 Ψ) (lkp es_37) 16 [some (aR 1 i0), some (aI p1), some (aI p2), some (aI v3), some (aR 4008 i0), some (aI (8 : Int32)), some (aI v6), x7] [] (L0, g, w, q0)) (hΨ : Ψ (some (aI r.1)) (L0, r.2.1, r.2.2, q0)) (h : s_X1_breakDown_16 i0 p1 p2 rec16 v3 v6 g w = some r) : Ev (EvM mth (d + 5)) mth c00 sc0 (retP (some .int) c00 Ψ) (lkp es_37) 16 [some (aR 1 i0), some (aI p1), some (aI p2), some (aI v3), some (aR 4008 i0), some (aI (8 : Int32)), some (aI v6), x7] [] (L0, g, w, q0) := by
  unfold s_X1_breakDown_16 at h
  refine ev_iload (pc' := 18) rfl rfl rfl ?_
  refine ev_iload (pc' := 20) rfl rfl rfl ?_
  refine ev_icmp_ge rfl (pc' := 23) rfl (fun hc => ?_) (fun hc => ?_)
  · have h := (if_pos hc).symm.trans h
    refine ev_aload_n (pc' := 122) rfl rfl rfl ?_
    refine ev_getQ (pc' := 125) rfl rfl rfl ?_
    refine ev_iload_n (pc' := 126) rfl rfl rfl ?_
    obtain ⟨hi, h⟩ := gdB h
    refine ev_aald (pc' := 127) rfl rfl (by decide) rfl (inR_vp hi) rfl ?_
    refine ev_iload_n (pc' := 128) rfl rfl rfl ?_
    refine ev_putI (pc' := 131) rfl rfl ?_
    refine ev_aload_n (pc' := 132) rfl rfl rfl ?_
    refine ev_getQ (pc' := 135) rfl rfl rfl ?_
    refine ev_iload_n (pc' := 136) rfl rfl rfl ?_
    obtain ⟨hi, h⟩ := gdB h
    refine ev_aald (pc' := 137) rfl rfl (by decide) rfl (inR_vp hi) rfl ?_
    refine ev_dup (pc' := 138) rfl rfl rfl ?_
    refine ev_getL (pc' := 141) rfl rfl ?_
    refine ev_iload_n (pc' := 142) rfl rfl rfl ?_
    refine ev_S1L (pc' := 145) rfl (by decide) rfl mth_112 ⟨Nat.le_of_ble_eq_true rfl, rfl⟩ ⟨Nat.le_refl _, Nat.le_refl _⟩ d_X6_hoursAhead ?_
    refine ev_land (pc' := 146) rfl rfl ?_
    refine ev_putL (pc' := 149) rfl rfl ?_
    refine ev_iload_n (pc' := 150) rfl rfl rfl ?_
    obtain rfl := Option.some.inj h
    exact ev_ireturn rfl ⟨⟨_, rfl, rfl⟩, rfl, rfl, hΨ⟩
  · have h := (if_neg hc).symm.trans h
    refine ev_aload (pc' := 25) rfl rfl rfl ?_
    refine ev_iload (pc' := 27) rfl rfl rfl ?_
    obtain ⟨hi, h⟩ := gdB h
    refine ev_aald (pc' := 28) rfl rfl (by decide) rfl (inR_vp hi) rfl ?_
    refine ev_astore (pc' := 30) rfl rfl (l' := [some (aR 1 i0), some (aI p1), some (aI p2), some (aI v3), some (aR 4008 i0), some (aI (8 : Int32)), some (aI v6), some (aR 4 (8 * i0 + v6.toNatClampNeg))]) rfl ?_
    refine ev_aload (pc' := 32) rfl rfl rfl ?_
    refine ev_iload_n (pc' := 33) rfl rfl rfl ?_
    refine ev_V2I (pc' := 36) rfl (by decide) rfl mth_56 ⟨Nat.le_of_ble_eq_true rfl, rfl⟩ ⟨Nat.le_refl _, Nat.le_refl _⟩ d_X4_hasJobWith ?_
    refine ev_ifB_eq rfl (pc' := 39) rfl (fun hc => ?_) (fun hc => ?_)
    · have h := (if_neg hc).symm.trans h
      exact e_X1_breakDown_115 (hr16 := hr16) hΨ h
    · have h := (if_pos hc).symm.trans h
      refine ev_aload (pc' := 41) rfl rfl rfl ?_
      refine ev_V1I (pc' := 44) rfl (by decide) rfl mth_58 ⟨Nat.le_of_ble_eq_true rfl, rfl⟩ ⟨Nat.le_refl _, Nat.le_refl _⟩ d_X4_lastHour ?_
      refine ev_iload_n (pc' := 45) rfl rfl rfl ?_
      refine ev_icmp_lt rfl (pc' := 48) rfl (fun hc => ?_) (fun hc => ?_)
      · have h := (if_pos hc).symm.trans h
        exact e_X1_breakDown_115 (hr16 := hr16) hΨ h
      · have h := (if_neg hc).symm.trans h
        refine ev_aload_n (pc' := 49) rfl rfl rfl ?_
        refine ev_aload (pc' := 51) rfl rfl rfl ?_
        refine ev_iload_n (pc' := 52) rfl rfl rfl ?_
        refine ev_iload_n (pc' := 53) rfl rfl rfl ?_
        obtain ⟨q1, hq1, h⟩ := Option.bind_eq_some_iff.mp h
        refine ev_V4I (pc' := 56) rfl (by decide) rfl mth_38 ⟨Nat.le_of_ble_eq_true rfl, rfl⟩ ⟨Nat.le_refl _, Nat.le_refl _⟩ (d_X1_goesOn hq1) ?_
        refine ev_ifB_eq rfl (pc' := 59) rfl (fun hc => ?_) (fun hc => ?_)
        · have h := (if_neg hc).symm.trans h
          refine ev_aload_n (pc' := 97) rfl rfl rfl ?_
          refine ev_dup (pc' := 98) rfl rfl rfl ?_
          refine ev_getI (pc' := 101) rfl rfl ?_
          refine ev_aload_n (pc' := 102) rfl rfl rfl ?_
          refine ev_aload (pc' := 104) rfl rfl rfl ?_
          refine ev_iload_n (pc' := 105) rfl rfl rfl ?_
          obtain ⟨q2, hq2, h⟩ := Option.bind_eq_some_iff.mp h
          refine ev_V3I (pc' := 108) rfl (by decide) rfl mth_33 ⟨Nat.le_of_ble_eq_true rfl, rfl⟩ ⟨Nat.le_refl _, Nat.le_refl _⟩ (d_X1_takeOff hq2) ?_
          refine ev_iadd (pc' := 109) rfl rfl ?_
          refine ev_putI (pc' := 112) rfl rfl ?_
          refine ev_iinc (pc' := 115) rfl rfl (l' := [some (aR 1 i0), some (aI p1), some (aI p2), some (aI (v3 + 1)), some (aR 4008 i0), some (aI (8 : Int32)), some (aI v6), some (aR 4 (8 * i0 + v6.toNatClampNeg))]) rfl (ii_1 _) rfl ?_
          exact e_X1_breakDown_115 (hr16 := hr16) hΨ h
        · have h := (if_pos hc).symm.trans h
          refine ev_aload_n (pc' := 60) rfl rfl rfl ?_
          refine ev_dup (pc' := 61) rfl rfl rfl ?_
          refine ev_getI (pc' := 64) rfl rfl ?_
          refine ev_aload_n (pc' := 65) rfl rfl rfl ?_
          refine ev_aload (pc' := 67) rfl rfl rfl ?_
          refine ev_iconst (pc' := 68) rfl rfl (v := (1 : Int32)) (by decide) ?_
          refine ev_iload_n (pc' := 69) rfl rfl rfl ?_
          refine ev_ishl (pc' := 70) rfl rfl ?_
          refine ev_iload_n (pc' := 71) rfl rfl rfl ?_
          obtain ⟨q3, hq3, h⟩ := Option.bind_eq_some_iff.mp h
          refine ev_V4I (pc' := 74) rfl (by decide) rfl mth_30 ⟨Nat.le_of_ble_eq_true rfl, rfl⟩ ⟨Nat.le_refl _, Nat.le_refl _⟩ (d_X1_release hq3) ?_
          refine ev_iadd (pc' := 75) rfl rfl ?_
          refine ev_putI (pc' := 78) rfl rfl ?_
          refine ev_aload (pc' := 80) rfl rfl rfl ?_
          refine ev_dup (pc' := 81) rfl rfl rfl ?_
          refine ev_getI (pc' := 84) rfl rfl ?_
          refine ev_iconst (pc' := 85) rfl rfl (v := (1 : Int32)) (by decide) ?_
          refine ev_iload_n (pc' := 86) rfl rfl rfl ?_
          refine ev_ishl (pc' := 87) rfl rfl ?_
          refine ev_iconst (pc' := 88) rfl rfl (v := (-1 : Int32)) (by decide) ?_
          refine ev_ixor (pc' := 89) rfl rfl ?_
          refine ev_iand (pc' := 90) rfl rfl ?_
          refine ev_putI (pc' := 93) rfl rfl ?_
          refine ev_goto (pc' := 115) rfl ?_
          exact e_X1_breakDown_115 (hr16 := hr16) hΨ h
def s_X1_breakDown_R16 (i0 : Nat) (p1 : Int32) (p2 : Int32) : Nat → Int32 → Int32 → (Nat → Nat → Nat → Int32) → (Nat → Nat → Nat → Int64) → Option (Int32 × GS)
  | 0 => fun _ _ _ _ => none
  | n + 1 => s_X1_breakDown_16 i0 p1 p2 (s_X1_breakDown_R16 i0 p1 p2 n)
theorem e_X1_breakDown_R16 {d : Nat} {Ψ : Option AV → DS → Prop} {i0 : Nat} {p1 : Int32} {p2 : Int32} {r : Int32 × GS} (hΨ : Ψ (some (aI r.1)) (L0, r.2.1, r.2.2, q0)) : ∀ (n : Nat) {v3 : Int32} {v6 : Int32} {x7 : Option AV} {g : Nat → Nat → Nat → Int32} {w : Nat → Nat → Nat → Int64}, s_X1_breakDown_R16 i0 p1 p2 n v3 v6 g w = some r → Ev (EvM mth (d + 5)) mth c00 sc0 (retP (some .int) c00 Ψ) (lkp es_37) 16 [some (aR 1 i0), some (aI p1), some (aI p2), some (aI v3), some (aR 4008 i0), some (aI (8 : Int32)), some (aI v6), x7] [] (L0, g, w, q0) := by
  intro n
  induction n with
  | zero => intros; rename_i h; exact absurd h (by intro h9; cases h9)
  | succ n ih => intros; rename_i h; exact e_X1_breakDown_16 (hr16 := ih) hΨ h
def s_X1_breakDown (i0 : Nat) (p1 : Int32) (p2 : Int32) (g : Nat → Nat → Nat → Int32) (w : Nat → Nat → Nat → Int64) : Option (Int32 × GS) :=
  s_X1_breakDown_R16 i0 p1 p2 FU (0 : Int32) (0 : Int32) g w
set_option maxRecDepth 20000 in
set_option maxHeartbeats 2000000 in
theorem d_X1_breakDown {d : Nat} {i0 : Nat} {p1 : Int32} {p2 : Int32} {g : Nat → Nat → Nat → Int32} {w : Nat → Nat → Nat → Int64} {r : Int32 × GS} (h : s_X1_breakDown i0 p1 p2 g w = some r) : Does (EvM mth (d + 6)) 37 [aR 1 i0, aI p1, aI p2] (L0, g, w, q0) (some (aI r.1)) (L0, r.2.1, r.2.2, q0) := by
  intro Ψ hΨ
  refine ⟨in_37, mth_37, Nat.le_of_ble_eq_true rfl, ?_⟩
  show Ev (EvM mth (d + 5)) mth c00 sc0 (retP (some .int) c00 Ψ) (lkp es_37) 0 [some (aR 1 i0), some (aI p1), some (aI p2), none, none, none, none, none] [] (L0, g, w, q0)
  unfold s_X1_breakDown at h
  refine ev_iconst (pc' := 1) rfl rfl (v := (0 : Int32)) (by decide) ?_
  refine ev_istore_n (pc' := 2) rfl rfl (l' := [some (aR 1 i0), some (aI p1), some (aI p2), some (aI (0 : Int32)), none, none, none, none]) rfl ?_
  refine ev_aload_n (pc' := 3) rfl rfl rfl ?_
  refine ev_getQ (pc' := 6) rfl rfl rfl ?_
  refine ev_astore (pc' := 8) rfl rfl (l' := [some (aR 1 i0), some (aI p1), some (aI p2), some (aI (0 : Int32)), some (aR 4008 i0), none, none, none]) rfl ?_
  refine ev_aload (pc' := 10) rfl rfl rfl ?_
  refine ev_alen (pc' := 11) rfl rfl (by decide) (v := (8 : Int32)) (by decide) ?_
  refine ev_istore (pc' := 13) rfl rfl (l' := [some (aR 1 i0), some (aI p1), some (aI p2), some (aI (0 : Int32)), some (aR 4008 i0), some (aI (8 : Int32)), none, none]) rfl ?_
  refine ev_iconst (pc' := 14) rfl rfl (v := (0 : Int32)) (by decide) ?_
  refine ev_istore (pc' := 16) rfl rfl (l' := [some (aR 1 i0), some (aI p1), some (aI p2), some (aI (0 : Int32)), some (aR 4008 i0), some (aI (8 : Int32)), some (aI (0 : Int32)), none]) rfl ?_
  exact e_X1_breakDown_R16 hΨ FU h
def s_X1_blow_96 (i0 : Nat) (p1 : Int32) (p2 : Int32) (rec43 : Int64 → Int32 → Int32 → (Nat → Nat → Nat → Int32) → (Nat → Nat → Nat → Int64) → Option (Int32 × GS)) (v3 : Int64) (v5 : Int32) (v8 : Int32) (g : Nat → Nat → Nat → Int32) (w : Nat → Nat → Nat → Int64) : Option (Int32 × GS) :=
  rec43 v3 v5 (v8 + 1) g w
set_option maxRecDepth 20000 in
set_option maxHeartbeats 2000000 in
theorem e_X1_blow_96 {d : Nat} {Ψ : Option AV → DS → Prop} {i0 : Nat} {p1 : Int32} {p2 : Int32} {rec43 : Int64 → Int32 → Int32 → (Nat → Nat → Nat → Int32) → (Nat → Nat → Nat → Int64) → Option (Int32 × GS)} {r : Int32 × GS} {g : Nat → Nat → Nat → Int32} {w : Nat → Nat → Nat → Int64} {v3 : Int64} {v5 : Int32} {v8 : Int32} {x2 : Option AV} {x4 : Option AV} {x9 : Option AV} (hr43 : ∀ {v3 : Int64} {v5 : Int32} {v8 : Int32} {x2 : Option AV} {x4 : Option AV} {x9 : Option AV} {g : Nat → Nat → Nat → Int32} {w : Nat → Nat → Nat → Int64} , rec43 v3 v5 v8 g w = some r → Ev (EvM mth (d + 5)) mth c00 sc0 (retP (some .int) c00 Ψ) (lkp es_39) 43 [some (aR 1 i0), some (aI p1), x2, some (aL v3), x4, some (aI v5), some (aR 4008 i0), some (aI (8 : Int32)), some (aI v8), x9] [] (L0, g, w, q0)) (hΨ : Ψ (some (aI r.1)) (L0, r.2.1, r.2.2, q0)) (h : s_X1_blow_96 i0 p1 p2 rec43 v3 v5 v8 g w = some r) : Ev (EvM mth (d + 5)) mth c00 sc0 (retP (some .int) c00 Ψ) (lkp es_39) 96 [some (aR 1 i0), some (aI p1), x2, some (aL v3), x4, some (aI v5), some (aR 4008 i0), some (aI (8 : Int32)), some (aI v8), x9] [] (L0, g, w, q0) := by
  unfold s_X1_blow_96 at h
  refine ev_iinc (pc' := 99) rfl rfl (l' := [some (aR 1 i0), some (aI p1), x2, some (aL v3), x4, some (aI v5), some (aR 4008 i0), some (aI (8 : Int32)), some (aI (v8 + 1)), x9]) rfl (ii_1 _) rfl ?_
  refine ev_goto (pc' := 43) rfl ?_
  exact hr43 h
def s_X1_blow_43 (i0 : Nat) (p1 : Int32) (p2 : Int32) (rec43 : Int64 → Int32 → Int32 → (Nat → Nat → Nat → Int32) → (Nat → Nat → Nat → Int64) → Option (Int32 × GS)) (v3 : Int64) (v5 : Int32) (v8 : Int32) (g : Nat → Nat → Nat → Int32) (w : Nat → Nat → Nat → Int64) : Option (Int32 × GS) :=
  if (8 : Int32) ≤ v8 then
    some ((v5, g, w))
  else
    if inR v8 8 = true then
      if (lg_cmp ((s_X4_jobHours (8 * i0 + v8.toNatClampNeg) g w) &&& v3) (0 : Int64)) = 0 then
        s_X1_blow_96 i0 p1 p2 rec43 v3 v5 v8 g w
      else
        (s_X1_takeOff i0 (8 * i0 + v8.toNatClampNeg) (if p1 < (g 4 (8 * i0 + v8.toNatClampNeg) 7) then (g 4 (8 * i0 + v8.toNatClampNeg) 7) else p1) g w).bind fun q1 =>
        s_X1_blow_96 i0 p1 p2 rec43 v3 (v5 + 1) v8 (gI q1.2.1 1 i0 14 ((g 1 i0 14) + q1.1)) q1.2.2
    else none
set_option maxRecDepth 20000 in
set_option maxHeartbeats 2000000 in
theorem e_X1_blow_43 {d : Nat} {Ψ : Option AV → DS → Prop} {i0 : Nat} {p1 : Int32} {p2 : Int32} {rec43 : Int64 → Int32 → Int32 → (Nat → Nat → Nat → Int32) → (Nat → Nat → Nat → Int64) → Option (Int32 × GS)} {r : Int32 × GS} {g : Nat → Nat → Nat → Int32} {w : Nat → Nat → Nat → Int64} {v3 : Int64} {v5 : Int32} {v8 : Int32} {x2 : Option AV} {x4 : Option AV} {x9 : Option AV} (hr43 : ∀ {v3 : Int64} {v5 : Int32} {v8 : Int32} {x2 : Option AV} {x4 : Option AV} {x9 : Option AV} {g : Nat → Nat → Nat → Int32} {w : Nat → Nat → Nat → Int64} , rec43 v3 v5 v8 g w = some r → Ev (EvM mth (d + 5)) mth c00 sc0 (retP (some .int) c00 Ψ) (lkp es_39) 43 [some (aR 1 i0), some (aI p1), x2, some (aL v3), x4, some (aI v5), some (aR 4008 i0), some (aI (8 : Int32)), some (aI v8), x9] [] (L0, g, w, q0)) (hΨ : Ψ (some (aI r.1)) (L0, r.2.1, r.2.2, q0)) (h : s_X1_blow_43 i0 p1 p2 rec43 v3 v5 v8 g w = some r) : Ev (EvM mth (d + 5)) mth c00 sc0 (retP (some .int) c00 Ψ) (lkp es_39) 43 [some (aR 1 i0), some (aI p1), x2, some (aL v3), x4, some (aI v5), some (aR 4008 i0), some (aI (8 : Int32)), some (aI v8), x9] [] (L0, g, w, q0) := by
  unfold s_X1_blow_43 at h
  refine ev_iload (pc' := 45) rfl rfl rfl ?_
  refine ev_iload (pc' := 47) rfl rfl rfl ?_
  refine ev_icmp_ge rfl (pc' := 50) rfl (fun hc => ?_) (fun hc => ?_)
  · have h := (if_pos hc).symm.trans h
    refine ev_iload (pc' := 104) rfl rfl rfl ?_
    obtain rfl := Option.some.inj h
    exact ev_ireturn rfl ⟨⟨_, rfl, rfl⟩, rfl, rfl, hΨ⟩
  · have h := (if_neg hc).symm.trans h
    refine ev_aload (pc' := 52) rfl rfl rfl ?_
    refine ev_iload (pc' := 54) rfl rfl rfl ?_
    obtain ⟨hi, h⟩ := gdB h
    refine ev_aald (pc' := 55) rfl rfl (by decide) rfl (inR_vp hi) rfl ?_
    refine ev_astore (pc' := 57) rfl rfl (l' := [some (aR 1 i0), some (aI p1), x2, some (aL v3), x4, some (aI v5), some (aR 4008 i0), some (aI (8 : Int32)), some (aI v8), some (aR 4 (8 * i0 + v8.toNatClampNeg))]) rfl ?_
    refine ev_aload (pc' := 59) rfl rfl rfl ?_
    refine ev_V1L (pc' := 62) rfl (by decide) rfl mth_61 ⟨Nat.le_of_ble_eq_true rfl, rfl⟩ ⟨Nat.le_refl _, Nat.le_refl _⟩ d_X4_jobHours ?_
    refine ev_lload_n (pc' := 63) rfl rfl rfl ?_
    refine ev_land (pc' := 64) rfl rfl ?_
    refine ev_lconst (pc' := 65) rfl rfl (v := (0 : Int64)) (by decide) ?_
    refine ev_lcmp (pc' := 66) rfl rfl ?_
    refine ev_if_eq rfl (pc' := 69) rfl (fun hc => ?_) (fun hc => ?_)
    · have h := (if_pos hc).symm.trans h
      exact e_X1_blow_96 (hr43 := hr43) hΨ h
    · have h := (if_neg hc).symm.trans h
      refine ev_aload_n (pc' := 70) rfl rfl rfl ?_
      refine ev_dup (pc' := 71) rfl rfl rfl ?_
      refine ev_getI (pc' := 74) rfl rfl ?_
      refine ev_aload_n (pc' := 75) rfl rfl rfl ?_
      refine ev_aload (pc' := 77) rfl rfl rfl ?_
      refine ev_iload_n (pc' := 78) rfl rfl rfl ?_
      refine ev_aload (pc' := 80) rfl rfl rfl ?_
      refine ev_getI (pc' := 83) rfl rfl ?_
      refine ev_max (pc' := 86) rfl rfl ⟨Nat.le_of_ble_eq_true rfl, Nat.le_refl _, Nat.le_refl _⟩ ?_
      obtain ⟨q1, hq1, h⟩ := Option.bind_eq_some_iff.mp h
      refine ev_V3I (pc' := 89) rfl (by decide) rfl mth_33 ⟨Nat.le_of_ble_eq_true rfl, rfl⟩ ⟨Nat.le_refl _, Nat.le_refl _⟩ (d_X1_takeOff hq1) ?_
      refine ev_iadd (pc' := 90) rfl rfl ?_
      refine ev_putI (pc' := 93) rfl rfl ?_
      refine ev_iinc (pc' := 96) rfl rfl (l' := [some (aR 1 i0), some (aI p1), x2, some (aL v3), (klO x4), some (aI (v5 + 1)), some (aR 4008 i0), some (aI (8 : Int32)), some (aI v8), some (aR 4 (8 * i0 + v8.toNatClampNeg))]) rfl (ii_1 _) rfl ?_
      exact e_X1_blow_96 (hr43 := hr43) hΨ h
def s_X1_blow_R43 (i0 : Nat) (p1 : Int32) (p2 : Int32) : Nat → Int64 → Int32 → Int32 → (Nat → Nat → Nat → Int32) → (Nat → Nat → Nat → Int64) → Option (Int32 × GS)
  | 0 => fun _ _ _ _ _ => none
  | n + 1 => s_X1_blow_43 i0 p1 p2 (s_X1_blow_R43 i0 p1 p2 n)
theorem e_X1_blow_R43 {d : Nat} {Ψ : Option AV → DS → Prop} {i0 : Nat} {p1 : Int32} {p2 : Int32} {r : Int32 × GS} (hΨ : Ψ (some (aI r.1)) (L0, r.2.1, r.2.2, q0)) : ∀ (n : Nat) {v3 : Int64} {v5 : Int32} {v8 : Int32} {x2 : Option AV} {x4 : Option AV} {x9 : Option AV} {g : Nat → Nat → Nat → Int32} {w : Nat → Nat → Nat → Int64}, s_X1_blow_R43 i0 p1 p2 n v3 v5 v8 g w = some r → Ev (EvM mth (d + 5)) mth c00 sc0 (retP (some .int) c00 Ψ) (lkp es_39) 43 [some (aR 1 i0), some (aI p1), x2, some (aL v3), x4, some (aI v5), some (aR 4008 i0), some (aI (8 : Int32)), some (aI v8), x9] [] (L0, g, w, q0) := by
  intro n
  induction n with
  | zero => intros; rename_i h; exact absurd h (by intro h9; cases h9)
  | succ n ih => intros; rename_i h; exact e_X1_blow_43 (hr43 := ih) hΨ h
def s_X1_blow (i0 : Nat) (p1 : Int32) (p2 : Int32) (g : Nat → Nat → Nat → Int32) (w : Nat → Nat → Nat → Int64) : Option (Int32 × GS) :=
  s_X1_blow_R43 i0 p1 p2 FU ((s_X6_hoursAhead (p2 + (1 : Int32)) g w) &&& ((s_X6_hoursAhead p1 g w) ^^^ (-1 : Int64))) (0 : Int32) (0 : Int32) g (wL w 1 i0 8 ((w 1 i0 8) ||| ((s_X6_hoursAhead (p2 + (1 : Int32)) g w) &&& ((s_X6_hoursAhead p1 g w) ^^^ (-1 : Int64)))))
set_option maxRecDepth 20000 in
set_option maxHeartbeats 2000000 in
theorem d_X1_blow {d : Nat} {i0 : Nat} {p1 : Int32} {p2 : Int32} {g : Nat → Nat → Nat → Int32} {w : Nat → Nat → Nat → Int64} {r : Int32 × GS} (h : s_X1_blow i0 p1 p2 g w = some r) : Does (EvM mth (d + 6)) 39 [aR 1 i0, aI p1, aI p2] (L0, g, w, q0) (some (aI r.1)) (L0, r.2.1, r.2.2, q0) := by
  intro Ψ hΨ
  refine ⟨in_39, mth_39, Nat.le_of_ble_eq_true rfl, ?_⟩
  show Ev (EvM mth (d + 5)) mth c00 sc0 (retP (some .int) c00 Ψ) (lkp es_39) 0 [some (aR 1 i0), some (aI p1), some (aI p2), none, none, none, none, none, none, none] [] (L0, g, w, q0)
  unfold s_X1_blow at h
  refine ev_iload_n (pc' := 1) rfl rfl rfl ?_
  refine ev_iconst (pc' := 2) rfl rfl (v := (1 : Int32)) (by decide) ?_
  refine ev_iadd (pc' := 3) rfl rfl ?_
  refine ev_S1L (pc' := 6) rfl (by decide) rfl mth_112 ⟨Nat.le_of_ble_eq_true rfl, rfl⟩ ⟨Nat.le_refl _, Nat.le_refl _⟩ d_X6_hoursAhead ?_
  refine ev_iload_n (pc' := 7) rfl rfl rfl ?_
  refine ev_S1L (pc' := 10) rfl (by decide) rfl mth_112 ⟨Nat.le_of_ble_eq_true rfl, rfl⟩ ⟨Nat.le_refl _, Nat.le_refl _⟩ d_X6_hoursAhead ?_
  refine ev_ldc2_w (pc' := 13) rfl rfl (v := (-1 : Int64)) (by decide) ?_
  refine ev_lxor (pc' := 14) rfl rfl ?_
  refine ev_land (pc' := 15) rfl rfl ?_
  refine ev_lstore_n (pc' := 16) rfl rfl (l' := [some (aR 1 i0), some (aI p1), some (aI p2), some (aL ((s_X6_hoursAhead (p2 + (1 : Int32)) g w) &&& ((s_X6_hoursAhead p1 g w) ^^^ (-1 : Int64)))), none, none, none, none, none, none]) rfl ?_
  refine ev_aload_n (pc' := 17) rfl rfl rfl ?_
  refine ev_dup (pc' := 18) rfl rfl rfl ?_
  refine ev_getL (pc' := 21) rfl rfl ?_
  refine ev_lload_n (pc' := 22) rfl rfl rfl ?_
  refine ev_lor (pc' := 23) rfl rfl ?_
  refine ev_putL (pc' := 26) rfl rfl ?_
  refine ev_iconst (pc' := 27) rfl rfl (v := (0 : Int32)) (by decide) ?_
  refine ev_istore (pc' := 29) rfl rfl (l' := [some (aR 1 i0), some (aI p1), some (aI p2), some (aL ((s_X6_hoursAhead (p2 + (1 : Int32)) g w) &&& ((s_X6_hoursAhead p1 g w) ^^^ (-1 : Int64)))), none, some (aI (0 : Int32)), none, none, none, none]) rfl ?_
  refine ev_aload_n (pc' := 30) rfl rfl rfl ?_
  refine ev_getQ (pc' := 33) rfl rfl rfl ?_
  refine ev_astore (pc' := 35) rfl rfl (l' := [some (aR 1 i0), some (aI p1), some (aI p2), some (aL ((s_X6_hoursAhead (p2 + (1 : Int32)) g w) &&& ((s_X6_hoursAhead p1 g w) ^^^ (-1 : Int64)))), none, some (aI (0 : Int32)), some (aR 4008 i0), none, none, none]) rfl ?_
  refine ev_aload (pc' := 37) rfl rfl rfl ?_
  refine ev_alen (pc' := 38) rfl rfl (by decide) (v := (8 : Int32)) (by decide) ?_
  refine ev_istore (pc' := 40) rfl rfl (l' := [some (aR 1 i0), some (aI p1), some (aI p2), some (aL ((s_X6_hoursAhead (p2 + (1 : Int32)) g w) &&& ((s_X6_hoursAhead p1 g w) ^^^ (-1 : Int64)))), none, some (aI (0 : Int32)), some (aR 4008 i0), some (aI (8 : Int32)), none, none]) rfl ?_
  refine ev_iconst (pc' := 41) rfl rfl (v := (0 : Int32)) (by decide) ?_
  refine ev_istore (pc' := 43) rfl rfl (l' := [some (aR 1 i0), some (aI p1), some (aI p2), some (aL ((s_X6_hoursAhead (p2 + (1 : Int32)) g w) &&& ((s_X6_hoursAhead p1 g w) ^^^ (-1 : Int64)))), none, some (aI (0 : Int32)), some (aR 4008 i0), some (aI (8 : Int32)), some (aI (0 : Int32)), none]) rfl ?_
  exact e_X1_blow_R43 hΨ FU h
