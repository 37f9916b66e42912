def s_X6_layOrder (i0 : Nat) (p1 : Int32) (g : Nat → Nat → Nat → Int32) (w : Nat → Nat → Nat → Int64) : Option (Int32 × GS) :=
  if (s_X6_isPlanned i0 p1 g w) = true then
    (s_X2_findOrder 0 0 p1 g w).bind fun q1 =>
    (s_X1_clearPlan 0 q1.1 q1.2).bind fun q2 =>
    (s_X1_layEach 0 2 p1 q2.1 q2.2).bind fun q3 =>
    some ((q3.1, q3.2.1, q3.2.2))
  else
    some (((-1 : Int32), g, w))
set_option maxRecDepth 20000 in
set_option maxHeartbeats 2000000 in
theorem d_X6_layOrder {d : Nat} {i0 : Nat} {p1 : Int32} {g : Nat → Nat → Nat → Int32} {w : Nat → Nat → Nat → Int64} {r : Int32 × GS} (h : s_X6_layOrder i0 p1 g w = some r) : Does (EvM mth (d + 8)) 90 [aR 6 i0, aI p1] (L0, g, w, q0) (some (aI r.1)) (L0, r.2.1, r.2.2, q0) := by
  intro Ψ hΨ
  refine ⟨in_90, mth_90, Nat.le_of_ble_eq_true rfl, ?_⟩
  show Ev (EvM mth (d + 7)) mth c00 sc0 (retP (some .int) c00 Ψ) (lkp es_90) 0 [some (aR 6 i0), some (aI p1)] [] (L0, g, w, q0)
  unfold s_X6_layOrder at h
  refine ev_aload_n (pc' := 1) rfl rfl rfl ?_
  refine ev_iload_n (pc' := 2) rfl rfl rfl ?_
  refine ev_V2I (pc' := 5) rfl (by decide) rfl mth_111 ⟨Nat.le_of_ble_eq_true rfl, rfl⟩ ⟨Nat.le_refl _, Nat.le_refl _⟩ d_X6_isPlanned ?_
  refine ev_ifB_ne rfl (pc' := 8) rfl (fun hc => ?_) (fun hc => ?_)
  · have h := (if_pos hc).symm.trans h
    refine ev_aload_n (pc' := 11) rfl rfl rfl ?_
    refine ev_getQ (pc' := 14) rfl rfl rfl ?_
    refine ev_aload_n (pc' := 15) rfl rfl rfl ?_
    refine ev_getQ (pc' := 18) rfl rfl rfl ?_
    refine ev_iload_n (pc' := 19) rfl rfl rfl ?_
    obtain ⟨q1, hq1, h⟩ := Option.bind_eq_some_iff.mp h
    refine ev_V3V (pc' := 22) rfl (by decide) rfl mth_41 ⟨Nat.le_of_ble_eq_true rfl, rfl⟩ ⟨Nat.le_refl _, Nat.le_refl _⟩ (d_X2_findOrder hq1) ?_
    refine ev_aload_n (pc' := 23) rfl rfl rfl ?_
    refine ev_getQ (pc' := 26) rfl rfl rfl ?_
    obtain ⟨q2, hq2, h⟩ := Option.bind_eq_some_iff.mp h
    refine ev_V1V (pc' := 29) rfl (by decide) rfl mth_34 ⟨Nat.le_of_ble_eq_true rfl, rfl⟩ ⟨Nat.le_refl _, Nat.le_refl _⟩ (d_X1_clearPlan hq2) ?_
    refine ev_aload_n (pc' := 30) rfl rfl rfl ?_
    refine ev_getQ (pc' := 33) rfl rfl rfl ?_
    refine ev_aload_n (pc' := 34) rfl rfl rfl ?_
    refine ev_getQ (pc' := 37) rfl rfl rfl ?_
    refine ev_getQ (pc' := 40) rfl rfl rfl ?_
    refine ev_iload_n (pc' := 41) rfl rfl rfl ?_
    obtain ⟨q3, hq3, h⟩ := Option.bind_eq_some_iff.mp h
    refine ev_V3I (pc' := 44) rfl (by decide) rfl mth_35 ⟨Nat.le_of_ble_eq_true rfl, rfl⟩ ⟨Nat.le_refl _, Nat.le_refl _⟩ (d_X1_layEach hq3) ?_
    obtain rfl := Option.some.inj h
    exact ev_ireturn rfl ⟨⟨_, rfl, rfl⟩, rfl, rfl, hΨ⟩
  · have h := (if_neg hc).symm.trans h
    refine ev_iconst (pc' := 9) rfl rfl (v := (-1 : Int32)) (by decide) ?_
    obtain rfl := Option.some.inj h
    exact ev_ireturn rfl ⟨⟨_, rfl, rfl⟩, rfl, rfl, hΨ⟩
def s_X6_mended_17 (i0 : Nat) (p1 : Int32) (p2 : Int32) (g : Nat → Nat → Nat → Int32) (w : Nat → Nat → Nat → Int64) : Option (Int32 × GS) :=
  some (((-1 : Int32), g, w))
set_option maxRecDepth 20000 in
set_option maxHeartbeats 2000000 in
theorem e_X6_mended_17 {d : Nat} {Ψ : Option AV → DS → Prop} {i0 : Nat} {p1 : Int32} {p2 : Int32} {r : Int32 × GS} {g : Nat → Nat → Nat → Int32} {w : Nat → Nat → Nat → Int64} {x0 : Option AV} {x1 : Option AV} {x2 : Option AV} (hΨ : Ψ (some (aI r.1)) (L0, r.2.1, r.2.2, q0)) (h : s_X6_mended_17 i0 p1 p2 g w = some r) : Ev (EvM mth (d + 7)) mth c00 sc0 (retP (some .int) c00 Ψ) (lkp es_91) 17 [x0, x1, x2] [] (L0, g, w, q0) := by
  unfold s_X6_mended_17 at h
  refine ev_iconst (pc' := 18) rfl rfl (v := (-1 : Int32)) (by decide) ?_
  obtain rfl := Option.some.inj h
  exact ev_ireturn rfl ⟨⟨_, rfl, rfl⟩, rfl, rfl, hΨ⟩
def s_X6_mended (i0 : Nat) (p1 : Int32) (p2 : Int32) (g : Nat → Nat → Nat → Int32) (w : Nat → Nat → Nat → Int64) : Option (Int32 × GS) :=
  if (s_X6_isPlanned i0 p1 g w) = true then
    if (s_X6_within p2 (0 : Int32) (3 : Int32) g w) = true then
      (s_X2_findMended 0 0 p1 g w).bind fun q1 =>
      if p2 = (0 : Int32) then
        some (((q1.1 2 0 4), q1.1, q1.2))
      else
      if p2 = (1 : Int32) then
        some (((s_J_Integer_bitCount (q1.1 2 0 6) q1.1 q1.2), q1.1, q1.2))
      else
      if p2 = (2 : Int32) then
        some (((q1.1 2 0 5), q1.1, q1.2))
      else
        some (((q1.1 2 0 6), q1.1, q1.2))
    else
      s_X6_mended_17 i0 p1 p2 g w
  else
    s_X6_mended_17 i0 p1 p2 g w
set_option maxRecDepth 20000 in
set_option maxHeartbeats 2000000 in
theorem d_X6_mended {d : Nat} {i0 : Nat} {p1 : Int32} {p2 : Int32} {g : Nat → Nat → Nat → Int32} {w : Nat → Nat → Nat → Int64} {r : Int32 × GS} (h : s_X6_mended i0 p1 p2 g w = some r) : Does (EvM mth (d + 8)) 91 [aR 6 i0, aI p1, aI p2] (L0, g, w, q0) (some (aI r.1)) (L0, r.2.1, r.2.2, q0) := by
  intro Ψ hΨ
  refine ⟨in_91, mth_91, Nat.le_of_ble_eq_true rfl, ?_⟩
  show Ev (EvM mth (d + 7)) mth c00 sc0 (retP (some .int) c00 Ψ) (lkp es_91) 0 [some (aR 6 i0), some (aI p1), some (aI p2)] [] (L0, g, w, q0)
  unfold s_X6_mended at h
  refine ev_aload_n (pc' := 1) rfl rfl rfl ?_
  refine ev_iload_n (pc' := 2) rfl rfl rfl ?_
  refine ev_V2I (pc' := 5) rfl (by decide) rfl mth_111 ⟨Nat.le_of_ble_eq_true rfl, rfl⟩ ⟨Nat.le_refl _, Nat.le_refl _⟩ d_X6_isPlanned ?_
  refine ev_ifB_eq rfl (pc' := 8) rfl (fun hc => ?_) (fun hc => ?_)
  · have h := (if_neg hc).symm.trans h
    exact e_X6_mended_17 hΨ h
  · have h := (if_pos hc).symm.trans h
    refine ev_iload_n (pc' := 9) rfl rfl rfl ?_
    refine ev_iconst (pc' := 10) rfl rfl (v := (0 : Int32)) (by decide) ?_
    refine ev_iconst (pc' := 11) rfl rfl (v := (3 : Int32)) (by decide) ?_
    refine ev_S3I (pc' := 14) rfl (by decide) rfl mth_105 ⟨Nat.le_of_ble_eq_true rfl, rfl⟩ ⟨Nat.le_refl _, Nat.le_refl _⟩ d_X6_within ?_
    refine ev_ifB_ne rfl (pc' := 17) rfl (fun hc => ?_) (fun hc => ?_)
    · have h := (if_pos hc).symm.trans h
      refine ev_aload_n (pc' := 20) rfl rfl rfl ?_
      refine ev_getQ (pc' := 23) rfl rfl rfl ?_
      refine ev_aload_n (pc' := 24) rfl rfl rfl ?_
      refine ev_getQ (pc' := 27) rfl rfl rfl ?_
      refine ev_iload_n (pc' := 28) rfl rfl rfl ?_
      obtain ⟨q1, hq1, h⟩ := Option.bind_eq_some_iff.mp h
      refine ev_V3V (pc' := 31) rfl (by decide) rfl mth_45 ⟨Nat.le_of_ble_eq_true rfl, rfl⟩ ⟨Nat.le_refl _, Nat.le_refl _⟩ (d_X2_findMended hq1) ?_
      refine ev_iload_n (pc' := 32) rfl rfl rfl ?_
      refine ev_tsw rfl (fun hd => ?_) (fun n u hn hv => ?_)
      · skip
        have h := (if_neg (show ¬ p2 = (0 : Int32) from fun e9 => by rw [e9] at hd; revert hd; decide)).symm.trans h
        have h := (if_neg (show ¬ p2 = (1 : Int32) from fun e9 => by rw [e9] at hd; revert hd; decide)).symm.trans h
        have h := (if_neg (show ¬ p2 = (2 : Int32) from fun e9 => by rw [e9] at hd; revert hd; decide)).symm.trans h
        refine ev_aload_n (pc' := 88) rfl rfl rfl ?_
        refine ev_getQ (pc' := 91) rfl rfl rfl ?_
        refine ev_getI (pc' := 94) rfl rfl ?_
        obtain rfl := Option.some.inj h
        exact ev_ireturn rfl ⟨⟨_, rfl, rfl⟩, rfl, rfl, hΨ⟩
      · match n, hn with
        | 0, hn =>
          obtain rfl := Option.some.inj hn
          have e9 : p2 = (0 : Int32) := Int32.toInt_inj.mp (hv.trans (by decide))
          have h := (if_pos e9).symm.trans h
          refine ev_aload_n (pc' := 61) rfl rfl rfl ?_
          refine ev_getQ (pc' := 64) rfl rfl rfl ?_
          refine ev_getI (pc' := 67) rfl rfl ?_
          obtain rfl := Option.some.inj h
          exact ev_ireturn rfl ⟨⟨_, rfl, rfl⟩, rfl, rfl, hΨ⟩
        | 1, hn =>
          obtain rfl := Option.some.inj hn
          have e9 : p2 = (1 : Int32) := Int32.toInt_inj.mp (hv.trans (by decide))
          have h := (if_neg (show ¬ p2 = (0 : Int32) from by rw [e9]; decide)).symm.trans h
          have h := (if_pos e9).symm.trans h
          refine ev_aload_n (pc' := 69) rfl rfl rfl ?_
          refine ev_getQ (pc' := 72) rfl rfl rfl ?_
          refine ev_getI (pc' := 75) rfl rfl ?_
          refine ev_S1I (pc' := 78) rfl (by decide) rfl mth_193 ⟨Nat.le_of_ble_eq_true rfl, rfl⟩ ⟨Nat.le_refl _, Nat.le_refl _⟩ d_J_Integer_bitCount ?_
          obtain rfl := Option.some.inj h
          exact ev_ireturn rfl ⟨⟨_, rfl, rfl⟩, rfl, rfl, hΨ⟩
        | 2, hn =>
          obtain rfl := Option.some.inj hn
          have e9 : p2 = (2 : Int32) := Int32.toInt_inj.mp (hv.trans (by decide))
          have h := (if_neg (show ¬ p2 = (0 : Int32) from by rw [e9]; decide)).symm.trans h
          have h := (if_neg (show ¬ p2 = (1 : Int32) from by rw [e9]; decide)).symm.trans h
          have h := (if_pos e9).symm.trans h
          refine ev_aload_n (pc' := 80) rfl rfl rfl ?_
          refine ev_getQ (pc' := 83) rfl rfl rfl ?_
          refine ev_getI (pc' := 86) rfl rfl ?_
          obtain rfl := Option.some.inj h
          exact ev_ireturn rfl ⟨⟨_, rfl, rfl⟩, rfl, rfl, hΨ⟩
        | n + 3, hn => exact absurd hn (by simp)
    · have h := (if_neg hc).symm.trans h
      exact e_X6_mended_17 hΨ h
def s_X6_layMended (i0 : Nat) (p1 : Int32) (g : Nat → Nat → Nat → Int32) (w : Nat → Nat → Nat → Int64) : Option (Int32 × GS) :=
  if (s_X6_isPlanned i0 p1 g w) = true then
    (s_X2_findMended 0 0 p1 g w).bind fun q1 =>
    (s_X1_liftAll 0 (q1.1 2 0 6) q1.1 q1.2).bind fun q2 =>
    (s_X1_layEach 0 0 p1 q2.1 q2.2).bind fun q3 =>
    some ((q3.1, q3.2.1, q3.2.2))
  else
    some (((-1 : Int32), g, w))
set_option maxRecDepth 20000 in
set_option maxHeartbeats 2000000 in
theorem d_X6_layMended {d : Nat} {i0 : Nat} {p1 : Int32} {g : Nat → Nat → Nat → Int32} {w : Nat → Nat → Nat → Int64} {r : Int32 × GS} (h : s_X6_layMended i0 p1 g w = some r) : Does (EvM mth (d + 8)) 92 [aR 6 i0, aI p1] (L0, g, w, q0) (some (aI r.1)) (L0, r.2.1, r.2.2, q0) := by
  intro Ψ hΨ
  refine ⟨in_92, mth_92, Nat.le_of_ble_eq_true rfl, ?_⟩
  show Ev (EvM mth (d + 7)) mth c00 sc0 (retP (some .int) c00 Ψ) (lkp es_92) 0 [some (aR 6 i0), some (aI p1)] [] (L0, g, w, q0)
  unfold s_X6_layMended at h
  refine ev_aload_n (pc' := 1) rfl rfl rfl ?_
  refine ev_iload_n (pc' := 2) rfl rfl rfl ?_
  refine ev_V2I (pc' := 5) rfl (by decide) rfl mth_111 ⟨Nat.le_of_ble_eq_true rfl, rfl⟩ ⟨Nat.le_refl _, Nat.le_refl _⟩ d_X6_isPlanned ?_
  refine ev_ifB_ne rfl (pc' := 8) rfl (fun hc => ?_) (fun hc => ?_)
  · have h := (if_pos hc).symm.trans h
    refine ev_aload_n (pc' := 11) rfl rfl rfl ?_
    refine ev_getQ (pc' := 14) rfl rfl rfl ?_
    refine ev_aload_n (pc' := 15) rfl rfl rfl ?_
    refine ev_getQ (pc' := 18) rfl rfl rfl ?_
    refine ev_iload_n (pc' := 19) rfl rfl rfl ?_
    obtain ⟨q1, hq1, h⟩ := Option.bind_eq_some_iff.mp h
    refine ev_V3V (pc' := 22) rfl (by decide) rfl mth_45 ⟨Nat.le_of_ble_eq_true rfl, rfl⟩ ⟨Nat.le_refl _, Nat.le_refl _⟩ (d_X2_findMended hq1) ?_
    refine ev_aload_n (pc' := 23) rfl rfl rfl ?_
    refine ev_getQ (pc' := 26) rfl rfl rfl ?_
    refine ev_aload_n (pc' := 27) rfl rfl rfl ?_
    refine ev_getQ (pc' := 30) rfl rfl rfl ?_
    refine ev_getI (pc' := 33) rfl rfl ?_
    obtain ⟨q2, hq2, h⟩ := Option.bind_eq_some_iff.mp h
    refine ev_V2V (pc' := 36) rfl (by decide) rfl mth_32 ⟨Nat.le_of_ble_eq_true rfl, rfl⟩ ⟨Nat.le_refl _, Nat.le_refl _⟩ (d_X1_liftAll hq2) ?_
    refine ev_aload_n (pc' := 37) rfl rfl rfl ?_
    refine ev_getQ (pc' := 40) rfl rfl rfl ?_
    refine ev_aload_n (pc' := 41) rfl rfl rfl ?_
    refine ev_getQ (pc' := 44) rfl rfl rfl ?_
    refine ev_getQ (pc' := 47) rfl rfl rfl ?_
    refine ev_iload_n (pc' := 48) rfl rfl rfl ?_
    obtain ⟨q3, hq3, h⟩ := Option.bind_eq_some_iff.mp h
    refine ev_V3I (pc' := 51) rfl (by decide) rfl mth_35 ⟨Nat.le_of_ble_eq_true rfl, rfl⟩ ⟨Nat.le_refl _, Nat.le_refl _⟩ (d_X1_layEach hq3) ?_
    obtain rfl := Option.some.inj h
    exact ev_ireturn rfl ⟨⟨_, rfl, rfl⟩, rfl, rfl, hΨ⟩
  · have h := (if_neg hc).symm.trans h
    refine ev_iconst (pc' := 9) rfl rfl (v := (-1 : Int32)) (by decide) ?_
    obtain rfl := Option.some.inj h
    exact ev_ireturn rfl ⟨⟨_, rfl, rfl⟩, rfl, rfl, hΨ⟩
def s_X7_may_45 (i0 : Nat) (p1 : Int32) (p2 : Int32) (p3 : Int32) (t0 : Int32) (g : Nat → Nat → Nat → Int32) (w : Nat → Nat → Nat → Int64) : Option (Int32) :=
  some (t0)
set_option maxRecDepth 20000 in
set_option maxHeartbeats 2000000 in
theorem e_X7_may_45 {d : Nat} {Ψ : Option AV → DS → Prop} {i0 : Nat} {p1 : Int32} {p2 : Int32} {p3 : Int32} {r : Int32} {g : Nat → Nat → Nat → Int32} {w : Nat → Nat → Nat → Int64} {t0 : Int32} {x0 : Option AV} {x1 : Option AV} {x2 : Option AV} {x3 : Option AV} (hΨ : Ψ (some (aI r)) (L0, g, w, q0)) (h : s_X7_may_45 i0 p1 p2 p3 t0 g w = some r) : Ev (EvM mth (d + 7)) mth c00 sc0 (retP (some .int) c00 Ψ) (lkp es_152) 45 [x0, x1, x2, x3] [aI t0] (L0, g, w, q0) := by
  unfold s_X7_may_45 at h
  obtain rfl := Option.some.inj h
  exact ev_ireturn rfl ⟨⟨_, rfl, rfl⟩, rfl, rfl, hΨ⟩
def s_X7_may_23 (i0 : Nat) (p1 : Int32) (p2 : Int32) (p3 : Int32) (g : Nat → Nat → Nat → Int32) (w : Nat → Nat → Nat → Int64) : Option (Int32) :=
  some ((-1 : Int32))
set_option maxRecDepth 20000 in
set_option maxHeartbeats 2000000 in
theorem e_X7_may_23 {d : Nat} {Ψ : Option AV → DS → Prop} {i0 : Nat} {p1 : Int32} {p2 : Int32} {p3 : Int32} {r : Int32} {g : Nat → Nat → Nat → Int32} {w : Nat → Nat → Nat → Int64} {x0 : Option AV} {x1 : Option AV} {x2 : Option AV} {x3 : Option AV} (hΨ : Ψ (some (aI r)) (L0, g, w, q0)) (h : s_X7_may_23 i0 p1 p2 p3 g w = some r) : Ev (EvM mth (d + 7)) mth c00 sc0 (retP (some .int) c00 Ψ) (lkp es_152) 23 [x0, x1, x2, x3] [] (L0, g, w, q0) := by
  unfold s_X7_may_23 at h
  refine ev_iconst (pc' := 24) rfl rfl (v := (-1 : Int32)) (by decide) ?_
  obtain rfl := Option.some.inj h
  exact ev_ireturn rfl ⟨⟨_, rfl, rfl⟩, rfl, rfl, hΨ⟩
def s_X7_may (i0 : Nat) (p1 : Int32) (p2 : Int32) (p3 : Int32) (g : Nat → Nat → Nat → Int32) (w : Nat → Nat → Nat → Int64) : Option (Int32) :=
  if (s_X7_isShip i0 p1 g w) = true then
    if (s_X7_isHour p2 g w) = true then
      if (s_X7_isSet i0 p3 g w) = true then
        (s_X7_hasJob i0 p1 g w).bind fun q1 =>
        if q1 = true then
          s_X7_may_45 i0 p1 p2 p3 (-2 : Int32) g w
        else
          (s_X7_whyNot i0 p1 p2 p3 g w).bind fun q2 =>
          s_X7_may_45 i0 p1 p2 p3 q2 g w
      else
        s_X7_may_23 i0 p1 p2 p3 g w
    else
      s_X7_may_23 i0 p1 p2 p3 g w
  else
    s_X7_may_23 i0 p1 p2 p3 g w
set_option maxRecDepth 20000 in
set_option maxHeartbeats 2000000 in
theorem d_X7_may {d : Nat} {i0 : Nat} {p1 : Int32} {p2 : Int32} {p3 : Int32} {g : Nat → Nat → Nat → Int32} {w : Nat → Nat → Nat → Int64} {r : Int32} (h : s_X7_may i0 p1 p2 p3 g w = some r) : Does (EvM mth (d + 8)) 152 [aR 7 i0, aI p1, aI p2, aI p3] (L0, g, w, q0) (some (aI r)) (L0, g, w, q0) := by
  intro Ψ hΨ
  refine ⟨in_152, mth_152, Nat.le_of_ble_eq_true rfl, ?_⟩
  show Ev (EvM mth (d + 7)) mth c00 sc0 (retP (some .int) c00 Ψ) (lkp es_152) 0 [some (aR 7 i0), some (aI p1), some (aI p2), some (aI p3)] [] (L0, g, w, q0)
  unfold s_X7_may at h
  refine ev_aload_n (pc' := 1) rfl rfl rfl ?_
  refine ev_iload_n (pc' := 2) rfl rfl rfl ?_
  refine ev_V2I (pc' := 5) rfl (by decide) rfl mth_120 ⟨Nat.le_of_ble_eq_true rfl, rfl⟩ ⟨Nat.le_refl _, Nat.le_refl _⟩ d_X7_isShip ?_
  refine ev_ifB_eq rfl (pc' := 8) rfl (fun hc => ?_) (fun hc => ?_)
  · have h := (if_neg hc).symm.trans h
    exact e_X7_may_23 hΨ h
  · have h := (if_pos hc).symm.trans h
    refine ev_iload_n (pc' := 9) rfl rfl rfl ?_
    refine ev_S1I (pc' := 12) rfl (by decide) rfl mth_116 ⟨Nat.le_of_ble_eq_true rfl, rfl⟩ ⟨Nat.le_refl _, Nat.le_refl _⟩ d_X7_isHour ?_
    refine ev_ifB_eq rfl (pc' := 15) rfl (fun hc => ?_) (fun hc => ?_)
    · have h := (if_neg hc).symm.trans h
      exact e_X7_may_23 hΨ h
    · have h := (if_pos hc).symm.trans h
      refine ev_aload_n (pc' := 16) rfl rfl rfl ?_
      refine ev_iload_n (pc' := 17) rfl rfl rfl ?_
      refine ev_V2I (pc' := 20) rfl (by decide) rfl mth_151 ⟨Nat.le_of_ble_eq_true rfl, rfl⟩ ⟨Nat.le_refl _, Nat.le_refl _⟩ d_X7_isSet ?_
      refine ev_ifB_ne rfl (pc' := 23) rfl (fun hc => ?_) (fun hc => ?_)
      · have h := (if_pos hc).symm.trans h
        refine ev_aload_n (pc' := 26) rfl rfl rfl ?_
        refine ev_iload_n (pc' := 27) rfl rfl rfl ?_
        obtain ⟨q1, hq1, h⟩ := Option.bind_eq_some_iff.mp h
        refine ev_V2I (pc' := 30) rfl (by decide) rfl mth_125 ⟨Nat.le_of_ble_eq_true rfl, rfl⟩ ⟨Nat.le_refl _, Nat.le_refl _⟩ (d_X7_hasJob hq1) ?_
        refine ev_ifB_eq rfl (pc' := 33) rfl (fun hc => ?_) (fun hc => ?_)
        · have h := (if_neg hc).symm.trans h
          refine ev_aload_n (pc' := 39) rfl rfl rfl ?_
          refine ev_iload_n (pc' := 40) rfl rfl rfl ?_
          refine ev_iload_n (pc' := 41) rfl rfl rfl ?_
          refine ev_iload_n (pc' := 42) rfl rfl rfl ?_
          obtain ⟨q2, hq2, h⟩ := Option.bind_eq_some_iff.mp h
          refine ev_V4I (pc' := 45) rfl (by decide) rfl mth_150 ⟨Nat.le_of_ble_eq_true rfl, rfl⟩ ⟨Nat.le_refl _, Nat.le_refl _⟩ (d_X7_whyNot hq2) ?_
          exact e_X7_may_45 hΨ h
        · have h := (if_pos hc).symm.trans h
          refine ev_bipush (pc' := 35) rfl rfl (v := (-2 : Int32)) (by decide) ?_
          refine ev_goto (pc' := 45) rfl ?_
          exact e_X7_may_45 hΨ h
      · have h := (if_neg hc).symm.trans h
        exact e_X7_may_23 hΨ h
def s_X7_bestOrder_102 (i0 : Nat) (p1 : Int32) (rec34 : Int32 → Int32 → Int32 → (Nat → Nat → Nat → Int32) → (Nat → Nat → Nat → Int64) → Option (Int32 × GS)) (t1 : Int32) (v2 : Int32) (v3 : Int32) (v4 : Int32) (g : Nat → Nat → Nat → Int32) (w : Nat → Nat → Nat → Int64) : Option (Int32 × GS) :=
  (s_X7_returns i0 (gI g 7 i0 13 t1) w).bind fun q1 =>
  rec34 v2 v3 (v4 + 1) q1.1 q1.2
set_option maxRecDepth 20000 in
set_option maxHeartbeats 2000000 in
theorem e_X7_bestOrder_102 {d : Nat} {Ψ : Option AV → DS → Prop} {i0 : Nat} {p1 : Int32} {rec34 : Int32 → Int32 → Int32 → (Nat → Nat → Nat → Int32) → (Nat → Nat → Nat → Int64) → Option (Int32 × GS)} {r : Int32 × GS} {g : Nat → Nat → Nat → Int32} {w : Nat → Nat → Nat → Int64} {t1 : Int32} {v2 : Int32} {v3 : Int32} {v4 : Int32} {x5 : Option AV} {x6 : Option AV} (hr34 : ∀ {v2 : Int32} {v3 : Int32} {v4 : Int32} {x5 : Option AV} {x6 : Option AV} {g : Nat → Nat → Nat → Int32} {w : Nat → Nat → Nat → Int64} , rec34 v2 v3 v4 g w = some r → Ev (EvM mth (d + 7)) mth c00 sc0 (retP (some .int) c00 Ψ) (lkp es_169) 34 [some (aR 7 i0), some (aI p1), some (aI v2), some (aI v3), some (aI v4), x5, x6] [] (L0, g, w, q0)) (hΨ : Ψ (some (aI r.1)) (L0, r.2.1, r.2.2, q0)) (h : s_X7_bestOrder_102 i0 p1 rec34 t1 v2 v3 v4 g w = some r) : Ev (EvM mth (d + 7)) mth c00 sc0 (retP (some .int) c00 Ψ) (lkp es_169) 102 [some (aR 7 i0), some (aI p1), some (aI v2), some (aI v3), some (aI v4), x5, x6] [aI t1, aR 7 i0] (L0, g, w, q0) := by
  unfold s_X7_bestOrder_102 at h
  refine ev_putI (pc' := 105) rfl rfl ?_
  refine ev_aload_n (pc' := 106) rfl rfl rfl ?_
  obtain ⟨q1, hq1, h⟩ := Option.bind_eq_some_iff.mp h
  refine ev_V1V (pc' := 109) rfl (by decide) rfl mth_163 ⟨Nat.le_of_ble_eq_true rfl, rfl⟩ ⟨Nat.le_refl _, Nat.le_refl _⟩ (d_X7_returns hq1) ?_
  refine ev_iinc (pc' := 112) rfl rfl (l' := [some (aR 7 i0), some (aI p1), some (aI v2), some (aI v3), some (aI (v4 + 1)), x5, x6]) rfl (ii_1 _) rfl ?_
  refine ev_goto (pc' := 34) rfl ?_
  exact hr34 h
def s_X7_bestOrder_82 (i0 : Nat) (p1 : Int32) (rec34 : Int32 → Int32 → Int32 → (Nat → Nat → Nat → Int32) → (Nat → Nat → Nat → Int64) → Option (Int32 × GS)) (t0 : Int32) (v2 : Int32) (v4 : Int32) (v6 : Int32) (g : Nat → Nat → Nat → Int32) (w : Nat → Nat → Nat → Int64) : Option (Int32 × GS) :=
  if (g 7 i0 13) ≤ v6 then
    s_X7_bestOrder_102 i0 p1 rec34 (g 7 i0 13) v2 t0 v4 g w
  else
    s_X7_bestOrder_102 i0 p1 rec34 v6 v2 t0 v4 g w
set_option maxRecDepth 20000 in
set_option maxHeartbeats 2000000 in
theorem e_X7_bestOrder_82 {d : Nat} {Ψ : Option AV → DS → Prop} {i0 : Nat} {p1 : Int32} {rec34 : Int32 → Int32 → Int32 → (Nat → Nat → Nat → Int32) → (Nat → Nat → Nat → Int64) → Option (Int32 × GS)} {r : Int32 × GS} {g : Nat → Nat → Nat → Int32} {w : Nat → Nat → Nat → Int64} {t0 : Int32} {v2 : Int32} {v4 : Int32} {v6 : Int32} {x3 : Option AV} {x5 : Option AV} (hr34 : ∀ {v2 : Int32} {v3 : Int32} {v4 : Int32} {x5 : Option AV} {x6 : Option AV} {g : Nat → Nat → Nat → Int32} {w : Nat → Nat → Nat → Int64} , rec34 v2 v3 v4 g w = some r → Ev (EvM mth (d + 7)) mth c00 sc0 (retP (some .int) c00 Ψ) (lkp es_169) 34 [some (aR 7 i0), some (aI p1), some (aI v2), some (aI v3), some (aI v4), x5, x6] [] (L0, g, w, q0)) (hΨ : Ψ (some (aI r.1)) (L0, r.2.1, r.2.2, q0)) (h : s_X7_bestOrder_82 i0 p1 rec34 t0 v2 v4 v6 g w = some r) : Ev (EvM mth (d + 7)) mth c00 sc0 (retP (some .int) c00 Ψ) (lkp es_169) 82 [some (aR 7 i0), some (aI p1), some (aI v2), x3, some (aI v4), x5, some (aI v6)] [aI t0] (L0, g, w, q0) := by
  unfold s_X7_bestOrder_82 at h
  refine ev_istore_n (pc' := 83) rfl rfl (l' := [some (aR 7 i0), some (aI p1), some (aI v2), some (aI t0), some (aI v4), x5, some (aI v6)]) rfl ?_
  refine ev_aload_n (pc' := 84) rfl rfl rfl ?_
  refine ev_iload (pc' := 86) rfl rfl rfl ?_
  refine ev_aload_n (pc' := 87) rfl rfl rfl ?_
  refine ev_getI (pc' := 90) rfl rfl ?_
  refine ev_icmp_ge rfl (pc' := 93) rfl (fun hc => ?_) (fun hc => ?_)
  · have h := (if_pos hc).symm.trans h
    refine ev_aload_n (pc' := 99) rfl rfl rfl ?_
    refine ev_getI (pc' := 102) rfl rfl ?_
    exact e_X7_bestOrder_102 (hr34 := hr34) hΨ h
  · have h := (if_neg hc).symm.trans h
    refine ev_iload (pc' := 95) rfl rfl rfl ?_
    refine ev_goto (pc' := 102) rfl ?_
    exact e_X7_bestOrder_102 (hr34 := hr34) hΨ h
def s_X7_bestOrder_34 (i0 : Nat) (p1 : Int32) (rec34 : Int32 → Int32 → Int32 → (Nat → Nat → Nat → Int32) → (Nat → Nat → Nat → Int64) → Option (Int32 × GS)) (v2 : Int32) (v3 : Int32) (v4 : Int32) (g : Nat → Nat → Nat → Int32) (w : Nat → Nat → Nat → Int64) : Option (Int32 × GS) :=
  if v2 ≤ v4 then
    some ((v3, g, w))
  else
    (s_X7_ordered p1 v4 g w).bind fun q1 =>
    (s_X7_empties i0 g w).bind fun q2 =>
    (s_X7_plans i0 p1 q1 q2.1 q2.2).bind fun q3 =>
    (s_X7_waited i0 p1 q3.2.1 q3.2.2).bind fun q4 =>
    if (q3.2.1 7 i0 13) ≤ q4 then
      s_X7_bestOrder_82 i0 p1 rec34 v3 v2 v4 q4 q3.2.1 q3.2.2
    else
      s_X7_bestOrder_82 i0 p1 rec34 q1 v2 v4 q4 q3.2.1 q3.2.2
set_option maxRecDepth 20000 in
set_option maxHeartbeats 2000000 in
theorem e_X7_bestOrder_34 {d : Nat} {Ψ : Option AV → DS → Prop} {i0 : Nat} {p1 : Int32} {rec34 : Int32 → Int32 → Int32 → (Nat → Nat → Nat → Int32) → (Nat → Nat → Nat → Int64) → Option (Int32 × GS)} {r : Int32 × GS} {g : Nat → Nat → Nat → Int32} {w : Nat → Nat → Nat → Int64} {v2 : Int32} {v3 : Int32} {v4 : Int32} {x5 : Option AV} {x6 : Option AV} (hr34 : ∀ {v2 : Int32} {v3 : Int32} {v4 : Int32} {x5 : Option AV} {x6 : Option AV} {g : Nat → Nat → Nat → Int32} {w : Nat → Nat → Nat → Int64} , rec34 v2 v3 v4 g w = some r → Ev (EvM mth (d + 7)) mth c00 sc0 (retP (some .int) c00 Ψ) (lkp es_169) 34 [some (aR 7 i0), some (aI p1), some (aI v2), some (aI v3), some (aI v4), x5, x6] [] (L0, g, w, q0)) (hΨ : Ψ (some (aI r.1)) (L0, r.2.1, r.2.2, q0)) (h : s_X7_bestOrder_34 i0 p1 rec34 v2 v3 v4 g w = some r) : Ev (EvM mth (d + 7)) mth c00 sc0 (retP (some .int) c00 Ψ) (lkp es_169) 34 [some (aR 7 i0), some (aI p1), some (aI v2), some (aI v3), some (aI v4), x5, x6] [] (L0, g, w, q0) := by
  unfold s_X7_bestOrder_34 at h
  refine ev_iload (pc' := 36) rfl rfl rfl ?_
  refine ev_iload_n (pc' := 37) rfl rfl rfl ?_
  refine ev_icmp_ge rfl (pc' := 40) rfl (fun hc => ?_) (fun hc => ?_)
  · have h := (if_pos hc).symm.trans h
    refine ev_iload_n (pc' := 116) rfl rfl rfl ?_
    obtain rfl := Option.some.inj h
    exact ev_ireturn rfl ⟨⟨_, rfl, rfl⟩, rfl, rfl, hΨ⟩
  · have h := (if_neg hc).symm.trans h
    refine ev_iload_n (pc' := 41) rfl rfl rfl ?_
    refine ev_iload (pc' := 43) rfl rfl rfl ?_
    obtain ⟨q1, hq1, h⟩ := Option.bind_eq_some_iff.mp h
    refine ev_S2I (pc' := 46) rfl (by decide) rfl mth_166 ⟨Nat.le_of_ble_eq_true rfl, rfl⟩ ⟨Nat.le_refl _, Nat.le_refl _⟩ (d_X7_ordered hq1) ?_
    refine ev_istore (pc' := 48) rfl rfl (l' := [some (aR 7 i0), some (aI p1), some (aI v2), some (aI v3), some (aI v4), some (aI q1), x6]) rfl ?_
    refine ev_aload_n (pc' := 49) rfl rfl rfl ?_
    obtain ⟨q2, hq2, h⟩ := Option.bind_eq_some_iff.mp h
    refine ev_V1V (pc' := 52) rfl (by decide) rfl mth_164 ⟨Nat.le_of_ble_eq_true rfl, rfl⟩ ⟨Nat.le_refl _, Nat.le_refl _⟩ (d_X7_empties hq2) ?_
    refine ev_aload_n (pc' := 53) rfl rfl rfl ?_
    refine ev_iload_n (pc' := 54) rfl rfl rfl ?_
    refine ev_iload (pc' := 56) rfl rfl rfl ?_
    obtain ⟨q3, hq3, h⟩ := Option.bind_eq_some_iff.mp h
    refine ev_V3I (pc' := 59) rfl (by decide) rfl mth_167 ⟨Nat.le_of_ble_eq_true rfl, rfl⟩ ⟨Nat.le_refl _, Nat.le_refl _⟩ (d_X7_plans hq3) ?_
    refine ev_pop (pc' := 60) rfl rfl rfl ?_
    refine ev_aload_n (pc' := 61) rfl rfl rfl ?_
    refine ev_iload_n (pc' := 62) rfl rfl rfl ?_
    obtain ⟨q4, hq4, h⟩ := Option.bind_eq_some_iff.mp h
    refine ev_V2I (pc' := 65) rfl (by decide) rfl mth_165 ⟨Nat.le_of_ble_eq_true rfl, rfl⟩ ⟨Nat.le_refl _, Nat.le_refl _⟩ (d_X7_waited hq4) ?_
    refine ev_istore (pc' := 67) rfl rfl (l' := [some (aR 7 i0), some (aI p1), some (aI v2), some (aI v3), some (aI v4), some (aI q1), some (aI q4)]) rfl ?_
    refine ev_iload (pc' := 69) rfl rfl rfl ?_
    refine ev_aload_n (pc' := 70) rfl rfl rfl ?_
    refine ev_getI (pc' := 73) rfl rfl ?_
    refine ev_icmp_ge rfl (pc' := 76) rfl (fun hc => ?_) (fun hc => ?_)
    · have h := (if_pos hc).symm.trans h
      refine ev_iload_n (pc' := 82) rfl rfl rfl ?_
      exact e_X7_bestOrder_82 (hr34 := hr34) hΨ h
    · have h := (if_neg hc).symm.trans h
      refine ev_iload (pc' := 78) rfl rfl rfl ?_
      refine ev_goto (pc' := 82) rfl ?_
      exact e_X7_bestOrder_82 (hr34 := hr34) hΨ h
def s_X7_bestOrder_R34 (i0 : Nat) (p1 : Int32) : Nat → Int32 → Int32 → Int32 → (Nat → Nat → Nat → Int32) → (Nat → Nat → Nat → Int64) → Option (Int32 × GS)
  | 0 => fun _ _ _ _ _ => none
  | n + 1 => s_X7_bestOrder_34 i0 p1 (s_X7_bestOrder_R34 i0 p1 n)
theorem e_X7_bestOrder_R34 {d : Nat} {Ψ : Option AV → DS → Prop} {i0 : Nat} {p1 : Int32} {r : Int32 × GS} (hΨ : Ψ (some (aI r.1)) (L0, r.2.1, r.2.2, q0)) : ∀ (n : Nat) {v2 : Int32} {v3 : Int32} {v4 : Int32} {x5 : Option AV} {x6 : Option AV} {g : Nat → Nat → Nat → Int32} {w : Nat → Nat → Nat → Int64}, s_X7_bestOrder_R34 i0 p1 n v2 v3 v4 g w = some r → Ev (EvM mth (d + 7)) mth c00 sc0 (retP (some .int) c00 Ψ) (lkp es_169) 34 [some (aR 7 i0), some (aI p1), some (aI v2), some (aI v3), some (aI v4), x5, x6] [] (L0, g, w, q0) := by
  intro n
  induction n with
  | zero => intros; rename_i h; exact absurd h (by intro h9; cases h9)
  | succ n ih => intros; rename_i h; exact e_X7_bestOrder_34 (hr34 := ih) hΨ h
def s_X7_bestOrder_4 (i0 : Nat) (p1 : Int32) (rec4 : Int32 → Int32 → (Nat → Nat → Nat → Int32) → (Nat → Nat → Nat → Int64) → Option (Int32 × GS)) (v2 : Int32) (v3 : Int32) (g : Nat → Nat → Nat → Int32) (w : Nat → Nat → Nat → Int64) : Option (Int32 × GS) :=
  if p1 < v3 then
    (s_X7_asides i0 g w).bind fun q1 =>
    s_X7_bestOrder_R34 i0 p1 FU v2 (0 : Int32) (0 : Int32) (gI q1.1 7 i0 13 (999999 : Int32)) q1.2
  else
    rec4 (v2 * v3) (v3 + 1) g w
set_option maxRecDepth 20000 in
set_option maxHeartbeats 2000000 in
theorem e_X7_bestOrder_4 {d : Nat} {Ψ : Option AV → DS → Prop} {i0 : Nat} {p1 : Int32} {rec4 : Int32 → Int32 → (Nat → Nat → Nat → Int32) → (Nat → Nat → Nat → Int64) → Option (Int32 × GS)} {r : Int32 × GS} {g : Nat → Nat → Nat → Int32} {w : Nat → Nat → Nat → Int64} {v2 : Int32} {v3 : Int32} {x4 : Option AV} {x5 : Option AV} {x6 : Option AV} (hr4 : ∀ {v2 : Int32} {v3 : Int32} {x4 : Option AV} {x5 : Option AV} {x6 : Option AV} {g : Nat → Nat → Nat → Int32} {w : Nat → Nat → Nat → Int64} , rec4 v2 v3 g w = some r → Ev (EvM mth (d + 7)) mth c00 sc0 (retP (some .int) c00 Ψ) (lkp es_169) 4 [some (aR 7 i0), some (aI p1), some (aI v2), some (aI v3), x4, x5, x6] [] (L0, g, w, q0)) (hΨ : Ψ (some (aI r.1)) (L0, r.2.1, r.2.2, q0)) (h : s_X7_bestOrder_4 i0 p1 rec4 v2 v3 g w = some r) : Ev (EvM mth (d + 7)) mth c00 sc0 (retP (some .int) c00 Ψ) (lkp es_169) 4 [some (aR 7 i0), some (aI p1), some (aI v2), some (aI v3), x4, x5, x6] [] (L0, g, w, q0) := by
  unfold s_X7_bestOrder_4 at h
  refine ev_iload_n (pc' := 5) rfl rfl rfl ?_
  refine ev_iload_n (pc' := 6) rfl rfl rfl ?_
  refine ev_icmp_gt rfl (pc' := 9) rfl (fun hc => ?_) (fun hc => ?_)
  · have h := (if_pos hc).symm.trans h
    refine ev_aload_n (pc' := 20) rfl rfl rfl ?_
    obtain ⟨q1, hq1, h⟩ := Option.bind_eq_some_iff.mp h
    refine ev_V1V (pc' := 23) rfl (by decide) rfl mth_162 ⟨Nat.le_of_ble_eq_true rfl, rfl⟩ ⟨Nat.le_refl _, Nat.le_refl _⟩ (d_X7_asides hq1) ?_
    refine ev_iconst (pc' := 24) rfl rfl (v := (0 : Int32)) (by decide) ?_
    refine ev_istore_n (pc' := 25) rfl rfl (l' := [some (aR 7 i0), some (aI p1), some (aI v2), some (aI (0 : Int32)), x4, x5, x6]) rfl ?_
    refine ev_aload_n (pc' := 26) rfl rfl rfl ?_
    refine ev_ldc (pc' := 28) rfl rfl (v := (999999 : Int32)) (by decide) ?_
    refine ev_putI (pc' := 31) rfl rfl ?_
    refine ev_iconst (pc' := 32) rfl rfl (v := (0 : Int32)) (by decide) ?_
    refine ev_istore (pc' := 34) rfl rfl (l' := [some (aR 7 i0), some (aI p1), some (aI v2), some (aI (0 : Int32)), some (aI (0 : Int32)), x5, x6]) rfl ?_
    exact e_X7_bestOrder_R34 hΨ FU h
  · have h := (if_neg hc).symm.trans h
    refine ev_iload_n (pc' := 10) rfl rfl rfl ?_
    refine ev_iload_n (pc' := 11) rfl rfl rfl ?_
    refine ev_imul (pc' := 12) rfl rfl ?_
    refine ev_istore_n (pc' := 13) rfl rfl (l' := [some (aR 7 i0), some (aI p1), some (aI (v2 * v3)), some (aI v3), x4, x5, x6]) rfl ?_
    refine ev_iinc (pc' := 16) rfl rfl (l' := [some (aR 7 i0), some (aI p1), some (aI (v2 * v3)), some (aI (v3 + 1)), x4, x5, x6]) rfl (ii_1 _) rfl ?_
    refine ev_goto (pc' := 4) rfl ?_
    exact hr4 h
def s_X7_bestOrder_R4 (i0 : Nat) (p1 : Int32) : Nat → Int32 → Int32 → (Nat → Nat → Nat → Int32) → (Nat → Nat → Nat → Int64) → Option (Int32 × GS)
  | 0 => fun _ _ _ _ => none
  | n + 1 => s_X7_bestOrder_4 i0 p1 (s_X7_bestOrder_R4 i0 p1 n)
theorem e_X7_bestOrder_R4 {d : Nat} {Ψ : Option AV → DS → Prop} {i0 : Nat} {p1 : Int32} {r : Int32 × GS} (hΨ : Ψ (some (aI r.1)) (L0, r.2.1, r.2.2, q0)) : ∀ (n : Nat) {v2 : Int32} {v3 : Int32} {x4 : Option AV} {x5 : Option AV} {x6 : Option AV} {g : Nat → Nat → Nat → Int32} {w : Nat → Nat → Nat → Int64}, s_X7_bestOrder_R4 i0 p1 n v2 v3 g w = some r → Ev (EvM mth (d + 7)) mth c00 sc0 (retP (some .int) c00 Ψ) (lkp es_169) 4 [some (aR 7 i0), some (aI p1), some (aI v2), some (aI v3), x4, x5, x6] [] (L0, g, w, q0) := by
  intro n
  induction n with
  | zero => intros; rename_i h; exact absurd h (by intro h9; cases h9)
  | succ n ih => intros; rename_i h; exact e_X7_bestOrder_4 (hr4 := ih) hΨ h
def s_X7_bestOrder (i0 : Nat) (p1 : Int32) (g : Nat → Nat → Nat → Int32) (w : Nat → Nat → Nat → Int64) : Option (Int32 × GS) :=
  s_X7_bestOrder_R4 i0 p1 FU (1 : Int32) (2 : Int32) g w
set_option maxRecDepth 20000 in
set_option maxHeartbeats 2000000 in
theorem d_X7_bestOrder {d : Nat} {i0 : Nat} {p1 : Int32} {g : Nat → Nat → Nat → Int32} {w : Nat → Nat → Nat → Int64} {r : Int32 × GS} (h : s_X7_bestOrder i0 p1 g w = some r) : Does (EvM mth (d + 8)) 169 [aR 7 i0, aI p1] (L0, g, w, q0) (some (aI r.1)) (L0, r.2.1, r.2.2, q0) := by
  intro Ψ hΨ
  refine ⟨in_169, mth_169, Nat.le_of_ble_eq_true rfl, ?_⟩
  show Ev (EvM mth (d + 7)) mth c00 sc0 (retP (some .int) c00 Ψ) (lkp es_169) 0 [some (aR 7 i0), some (aI p1), none, none, none, none, none] [] (L0, g, w, q0)
  unfold s_X7_bestOrder at h
  refine ev_iconst (pc' := 1) rfl rfl (v := (1 : Int32)) (by decide) ?_
  refine ev_istore_n (pc' := 2) rfl rfl (l' := [some (aR 7 i0), some (aI p1), some (aI (1 : Int32)), none, none, none, none]) rfl ?_
  refine ev_iconst (pc' := 3) rfl rfl (v := (2 : Int32)) (by decide) ?_
  refine ev_istore_n (pc' := 4) rfl rfl (l' := [some (aR 7 i0), some (aI p1), some (aI (1 : Int32)), some (aI (2 : Int32)), none, none, none]) rfl ?_
  exact e_X7_bestOrder_R4 hΨ FU h
def s_X7_mends_209 (i0 : Nat) (p1 : Int32) (rec44 : Int32 → Int32 → (Nat → Nat → Nat → Int32) → (Nat → Nat → Nat → Int64) → Option (GS)) (v2 : Int32) (v3 : Int32) (g : Nat → Nat → Nat → Int32) (w : Nat → Nat → Nat → Int64) : Option (GS) :=
  rec44 v2 (v3 + 1) g w
set_option maxRecDepth 20000 in
set_option maxHeartbeats 2000000 in
theorem e_X7_mends_209 {d : Nat} {Ψ : Option AV → DS → Prop} {i0 : Nat} {p1 : Int32} {rec44 : Int32 → Int32 → (Nat → Nat → Nat → Int32) → (Nat → Nat → Nat → Int64) → Option (GS)} {r : GS} {g : Nat → Nat → Nat → Int32} {w : Nat → Nat → Nat → Int64} {v2 : Int32} {v3 : Int32} {x4 : Option AV} {x5 : Option AV} {x6 : Option AV} (hr44 : ∀ {v2 : Int32} {v3 : Int32} {x4 : Option AV} {x5 : Option AV} {x6 : Option AV} {g : Nat → Nat → Nat → Int32} {w : Nat → Nat → Nat → Int64} , rec44 v2 v3 g w = some r → Ev (EvM mth (d + 7)) mth c00 sc0 (retP (none) c00 Ψ) (lkp es_173) 44 [some (aR 7 i0), some (aI p1), some (aI v2), some (aI v3), x4, x5, x6] [] (L0, g, w, q0)) (hΨ : Ψ none (L0, r.1, r.2, q0)) (h : s_X7_mends_209 i0 p1 rec44 v2 v3 g w = some r) : Ev (EvM mth (d + 7)) mth c00 sc0 (retP (none) c00 Ψ) (lkp es_173) 209 [some (aR 7 i0), some (aI p1), some (aI v2), some (aI v3), x4, x5, x6] [] (L0, g, w, q0) := by
  unfold s_X7_mends_209 at h
  refine ev_iinc (pc' := 212) rfl rfl (l' := [some (aR 7 i0), some (aI p1), some (aI v2), some (aI (v3 + 1)), x4, x5, x6]) rfl (ii_1 _) rfl ?_
  refine ev_goto (pc' := 44) rfl ?_
  exact hr44 h
def s_X7_mends_205 (i0 : Nat) (p1 : Int32) (rec44 : Int32 → Int32 → (Nat → Nat → Nat → Int32) → (Nat → Nat → Nat → Int64) → Option (GS)) (v2 : Int32) (v3 : Int32) (g : Nat → Nat → Nat → Int32) (w : Nat → Nat → Nat → Int64) : Option (GS) :=
  (s_X7_returns i0 g w).bind fun q1 =>
  s_X7_mends_209 i0 p1 rec44 v2 v3 q1.1 q1.2
set_option maxRecDepth 20000 in
set_option maxHeartbeats 2000000 in
theorem e_X7_mends_205 {d : Nat} {Ψ : Option AV → DS → Prop} {i0 : Nat} {p1 : Int32} {rec44 : Int32 → Int32 → (Nat → Nat → Nat → Int32) → (Nat → Nat → Nat → Int64) → Option (GS)} {r : GS} {g : Nat → Nat → Nat → Int32} {w : Nat → Nat → Nat → Int64} {v2 : Int32} {v3 : Int32} {x4 : Option AV} {x5 : Option AV} {x6 : Option AV} (hr44 : ∀ {v2 : Int32} {v3 : Int32} {x4 : Option AV} {x5 : Option AV} {x6 : Option AV} {g : Nat → Nat → Nat → Int32} {w : Nat → Nat → Nat → Int64} , rec44 v2 v3 g w = some r → Ev (EvM mth (d + 7)) mth c00 sc0 (retP (none) c00 Ψ) (lkp es_173) 44 [some (aR 7 i0), some (aI p1), some (aI v2), some (aI v3), x4, x5, x6] [] (L0, g, w, q0)) (hΨ : Ψ none (L0, r.1, r.2, q0)) (h : s_X7_mends_205 i0 p1 rec44 v2 v3 g w = some r) : Ev (EvM mth (d + 7)) mth c00 sc0 (retP (none) c00 Ψ) (lkp es_173) 205 [some (aR 7 i0), some (aI p1), some (aI v2), some (aI v3), x4, x5, x6] [] (L0, g, w, q0) := by
  unfold s_X7_mends_205 at h
  refine ev_aload_n (pc' := 206) rfl rfl rfl ?_
  obtain ⟨q1, hq1, h⟩ := Option.bind_eq_some_iff.mp h
  refine ev_V1V (pc' := 209) rfl (by decide) rfl mth_163 ⟨Nat.le_of_ble_eq_true rfl, rfl⟩ ⟨Nat.le_refl _, Nat.le_refl _⟩ (d_X7_returns hq1) ?_
  exact e_X7_mends_209 (hr44 := hr44) hΨ h
def s_X7_mends_180 (i0 : Nat) (p1 : Int32) (rec44 : Int32 → Int32 → (Nat → Nat → Nat → Int32) → (Nat → Nat → Nat → Int64) → Option (GS)) (v2 : Int32) (v3 : Int32) (v4 : Int32) (v5 : Int32) (g : Nat → Nat → Nat → Int32) (w : Nat → Nat → Nat → Int64) : Option (GS) :=
  (s_X7_bits v3 (gI g 7 i0 14 v4) w).bind fun q1 =>
  s_X7_mends_205 i0 p1 rec44 v2 v3 (gI (gI (gI (gI g 7 i0 14 v4) 7 i0 15 q1) 7 i0 16 v5) 7 i0 17 v3) w
set_option maxRecDepth 20000 in
set_option maxHeartbeats 2000000 in
theorem e_X7_mends_180 {d : Nat} {Ψ : Option AV → DS → Prop} {i0 : Nat} {p1 : Int32} {rec44 : Int32 → Int32 → (Nat → Nat → Nat → Int32) → (Nat → Nat → Nat → Int64) → Option (GS)} {r : GS} {g : Nat → Nat → Nat → Int32} {w : Nat → Nat → Nat → Int64} {v2 : Int32} {v3 : Int32} {v4 : Int32} {v5 : Int32} {x6 : Option AV} (hr44 : ∀ {v2 : Int32} {v3 : Int32} {x4 : Option AV} {x5 : Option AV} {x6 : Option AV} {g : Nat → Nat → Nat → Int32} {w : Nat → Nat → Nat → Int64} , rec44 v2 v3 g w = some r → Ev (EvM mth (d + 7)) mth c00 sc0 (retP (none) c00 Ψ) (lkp es_173) 44 [some (aR 7 i0), some (aI p1), some (aI v2), some (aI v3), x4, x5, x6] [] (L0, g, w, q0)) (hΨ : Ψ none (L0, r.1, r.2, q0)) (h : s_X7_mends_180 i0 p1 rec44 v2 v3 v4 v5 g w = some r) : Ev (EvM mth (d + 7)) mth c00 sc0 (retP (none) c00 Ψ) (lkp es_173) 180 [some (aR 7 i0), some (aI p1), some (aI v2), some (aI v3), some (aI v4), some (aI v5), x6] [] (L0, g, w, q0) := by
  unfold s_X7_mends_180 at h
  refine ev_aload_n (pc' := 181) rfl rfl rfl ?_
  refine ev_iload (pc' := 183) rfl rfl rfl ?_
  refine ev_putI (pc' := 186) rfl rfl ?_
  refine ev_aload_n (pc' := 187) rfl rfl rfl ?_
  refine ev_iload_n (pc' := 188) rfl rfl rfl ?_
  obtain ⟨q1, hq1, h⟩ := Option.bind_eq_some_iff.mp h
  refine ev_S1I (pc' := 191) rfl (by decide) rfl mth_157 ⟨Nat.le_of_ble_eq_true rfl, rfl⟩ ⟨Nat.le_refl _, Nat.le_refl _⟩ (d_X7_bits hq1) ?_
  refine ev_putI (pc' := 194) rfl rfl ?_
  refine ev_aload_n (pc' := 195) rfl rfl rfl ?_
  refine ev_iload (pc' := 197) rfl rfl rfl ?_
  refine ev_putI (pc' := 200) rfl rfl ?_
  refine ev_aload_n (pc' := 201) rfl rfl rfl ?_
  refine ev_iload_n (pc' := 202) rfl rfl rfl ?_
  refine ev_putI (pc' := 205) rfl rfl ?_
  exact e_X7_mends_205 (hr44 := hr44) hΨ h
def s_X7_mends_166 (i0 : Nat) (p1 : Int32) (rec44 : Int32 → Int32 → (Nat → Nat → Nat → Int32) → (Nat → Nat → Nat → Int64) → Option (GS)) (v2 : Int32) (v3 : Int32) (v4 : Int32) (v5 : Int32) (v6 : Bool) (g : Nat → Nat → Nat → Int32) (w : Nat → Nat → Nat → Int64) : Option (GS) :=
  if v6 = true then
    if (g 7 i0 16) ≤ v5 then
      s_X7_mends_205 i0 p1 rec44 v2 v3 g w
    else
      s_X7_mends_180 i0 p1 rec44 v2 v3 v4 v5 g w
  else
    s_X7_mends_205 i0 p1 rec44 v2 v3 g w
set_option maxRecDepth 20000 in
set_option maxHeartbeats 2000000 in
theorem e_X7_mends_166 {d : Nat} {Ψ : Option AV → DS → Prop} {i0 : Nat} {p1 : Int32} {rec44 : Int32 → Int32 → (Nat → Nat → Nat → Int32) → (Nat → Nat → Nat → Int64) → Option (GS)} {r : GS} {g : Nat → Nat → Nat → Int32} {w : Nat → Nat → Nat → Int64} {v2 : Int32} {v3 : Int32} {v4 : Int32} {v5 : Int32} {v6 : Bool} (hr44 : ∀ {v2 : Int32} {v3 : Int32} {x4 : Option AV} {x5 : Option AV} {x6 : Option AV} {g : Nat → Nat → Nat → Int32} {w : Nat → Nat → Nat → Int64} , rec44 v2 v3 g w = some r → Ev (EvM mth (d + 7)) mth c00 sc0 (retP (none) c00 Ψ) (lkp es_173) 44 [some (aR 7 i0), some (aI p1), some (aI v2), some (aI v3), x4, x5, x6] [] (L0, g, w, q0)) (hΨ : Ψ none (L0, r.1, r.2, q0)) (h : s_X7_mends_166 i0 p1 rec44 v2 v3 v4 v5 v6 g w = some r) : Ev (EvM mth (d + 7)) mth c00 sc0 (retP (none) c00 Ψ) (lkp es_173) 166 [some (aR 7 i0), some (aI p1), some (aI v2), some (aI v3), some (aI v4), some (aI v5), some (aI (bI v6))] [] (L0, g, w, q0) := by
  unfold s_X7_mends_166 at h
  refine ev_iload (pc' := 168) rfl rfl rfl ?_
  refine ev_ifB_eq rfl (pc' := 171) rfl (fun hc => ?_) (fun hc => ?_)
  · have h := (if_neg hc).symm.trans h
    exact e_X7_mends_205 (hr44 := hr44) hΨ h
  · have h := (if_pos hc).symm.trans h
    refine ev_iload (pc' := 173) rfl rfl rfl ?_
    refine ev_aload_n (pc' := 174) rfl rfl rfl ?_
    refine ev_getI (pc' := 177) rfl rfl ?_
    refine ev_icmp_ge rfl (pc' := 180) rfl (fun hc => ?_) (fun hc => ?_)
    · have h := (if_pos hc).symm.trans h
      exact e_X7_mends_205 (hr44 := hr44) hΨ h
    · have h := (if_neg hc).symm.trans h
      exact e_X7_mends_180 (hr44 := hr44) hΨ h
def s_X7_mends_135 (i0 : Nat) (p1 : Int32) (rec44 : Int32 → Int32 → (Nat → Nat → Nat → Int32) → (Nat → Nat → Nat → Int64) → Option (GS)) (t0 : Bool) (v2 : Int32) (v3 : Int32) (v4 : Int32) (v5 : Int32) (g : Nat → Nat → Nat → Int32) (w : Nat → Nat → Nat → Int64) : Option (GS) :=
  if (g 7 i0 14) < v4 then
    s_X7_mends_180 i0 p1 rec44 v2 v3 v4 v5 g w
  else
    if v4 ≠ (g 7 i0 14) then
      s_X7_mends_166 i0 p1 rec44 v2 v3 v4 v5 t0 g w
    else
      (s_X7_bits v3 g w).bind fun q1 =>
      if q1 < (g 7 i0 15) then
        s_X7_mends_180 i0 p1 rec44 v2 v3 v4 v5 g w
      else
        s_X7_mends_166 i0 p1 rec44 v2 v3 v4 v5 t0 g w
set_option maxRecDepth 20000 in
set_option maxHeartbeats 2000000 in
theorem e_X7_mends_135 {d : Nat} {Ψ : Option AV → DS → Prop} {i0 : Nat} {p1 : Int32} {rec44 : Int32 → Int32 → (Nat → Nat → Nat → Int32) → (Nat → Nat → Nat → Int64) → Option (GS)} {r : GS} {g : Nat → Nat → Nat → Int32} {w : Nat → Nat → Nat → Int64} {t0 : Bool} {v2 : Int32} {v3 : Int32} {v4 : Int32} {v5 : Int32} {x6 : Option AV} (hr44 : ∀ {v2 : Int32} {v3 : Int32} {x4 : Option AV} {x5 : Option AV} {x6 : Option AV} {g : Nat → Nat → Nat → Int32} {w : Nat → Nat → Nat → Int64} , rec44 v2 v3 g w = some r → Ev (EvM mth (d + 7)) mth c00 sc0 (retP (none) c00 Ψ) (lkp es_173) 44 [some (aR 7 i0), some (aI p1), some (aI v2), some (aI v3), x4, x5, x6] [] (L0, g, w, q0)) (hΨ : Ψ none (L0, r.1, r.2, q0)) (h : s_X7_mends_135 i0 p1 rec44 t0 v2 v3 v4 v5 g w = some r) : Ev (EvM mth (d + 7)) mth c00 sc0 (retP (none) c00 Ψ) (lkp es_173) 135 [some (aR 7 i0), some (aI p1), some (aI v2), some (aI v3), some (aI v4), some (aI v5), x6] [aI (bI t0)] (L0, g, w, q0) := by
  unfold s_X7_mends_135 at h
  refine ev_istore (pc' := 137) rfl rfl (l' := [some (aR 7 i0), some (aI p1), some (aI v2), some (aI v3), some (aI v4), some (aI v5), some (aI (bI t0))]) rfl ?_
  refine ev_iload (pc' := 139) rfl rfl rfl ?_
  refine ev_aload_n (pc' := 140) rfl rfl rfl ?_
  refine ev_getI (pc' := 143) rfl rfl ?_
  refine ev_icmp_gt rfl (pc' := 146) rfl (fun hc => ?_) (fun hc => ?_)
  · have h := (if_pos hc).symm.trans h
    exact e_X7_mends_180 (hr44 := hr44) hΨ h
  · have h := (if_neg hc).symm.trans h
    refine ev_iload (pc' := 148) rfl rfl rfl ?_
    refine ev_aload_n (pc' := 149) rfl rfl rfl ?_
    refine ev_getI (pc' := 152) rfl rfl ?_
    refine ev_icmp_ne rfl (pc' := 155) rfl (fun hc => ?_) (fun hc => ?_)
    · have h := (if_pos hc).symm.trans h
      exact e_X7_mends_166 (hr44 := hr44) hΨ h
    · have h := (if_neg hc).symm.trans h
      refine ev_iload_n (pc' := 156) rfl rfl rfl ?_
      obtain ⟨q1, hq1, h⟩ := Option.bind_eq_some_iff.mp h
      refine ev_S1I (pc' := 159) rfl (by decide) rfl mth_157 ⟨Nat.le_of_ble_eq_true rfl, rfl⟩ ⟨Nat.le_refl _, Nat.le_refl _⟩ (d_X7_bits hq1) ?_
      refine ev_aload_n (pc' := 160) rfl rfl rfl ?_
      refine ev_getI (pc' := 163) rfl rfl ?_
      refine ev_icmp_lt rfl (pc' := 166) rfl (fun hc => ?_) (fun hc => ?_)
      · have h := (if_pos hc).symm.trans h
        exact e_X7_mends_180 (hr44 := hr44) hΨ h
      · have h := (if_neg hc).symm.trans h
        exact e_X7_mends_166 (hr44 := hr44) hΨ h
def s_X7_mends_134 (i0 : Nat) (p1 : Int32) (rec44 : Int32 → Int32 → (Nat → Nat → Nat → Int32) → (Nat → Nat → Nat → Int64) → Option (GS)) (v2 : Int32) (v3 : Int32) (v4 : Int32) (v5 : Int32) (g : Nat → Nat → Nat → Int32) (w : Nat → Nat → Nat → Int64) : Option (GS) :=
  s_X7_mends_135 i0 p1 rec44 false v2 v3 v4 v5 g w
set_option maxRecDepth 20000 in
set_option maxHeartbeats 2000000 in
theorem e_X7_mends_134 {d : Nat} {Ψ : Option AV → DS → Prop} {i0 : Nat} {p1 : Int32} {rec44 : Int32 → Int32 → (Nat → Nat → Nat → Int32) → (Nat → Nat → Nat → Int64) → Option (GS)} {r : GS} {g : Nat → Nat → Nat → Int32} {w : Nat → Nat → Nat → Int64} {v2 : Int32} {v3 : Int32} {v4 : Int32} {v5 : Int32} {x6 : Option AV} (hr44 : ∀ {v2 : Int32} {v3 : Int32} {x4 : Option AV} {x5 : Option AV} {x6 : Option AV} {g : Nat → Nat → Nat → Int32} {w : Nat → Nat → Nat → Int64} , rec44 v2 v3 g w = some r → Ev (EvM mth (d + 7)) mth c00 sc0 (retP (none) c00 Ψ) (lkp es_173) 44 [some (aR 7 i0), some (aI p1), some (aI v2), some (aI v3), x4, x5, x6] [] (L0, g, w, q0)) (hΨ : Ψ none (L0, r.1, r.2, q0)) (h : s_X7_mends_134 i0 p1 rec44 v2 v3 v4 v5 g w = some r) : Ev (EvM mth (d + 7)) mth c00 sc0 (retP (none) c00 Ψ) (lkp es_173) 134 [some (aR 7 i0), some (aI p1), some (aI v2), some (aI v3), some (aI v4), some (aI v5), x6] [] (L0, g, w, q0) := by
  unfold s_X7_mends_134 at h
  refine ev_iconst (pc' := 135) rfl rfl (v := (0 : Int32)) (by decide) ?_
  exact e_X7_mends_135 (hr44 := hr44) hΨ h
def s_X7_mends_94 (i0 : Nat) (p1 : Int32) (rec72 : Int32 → Int32 → Int32 → Int32 → (Nat → Nat → Nat → Int32) → (Nat → Nat → Nat → Int64) → Option (GS)) (t0 : Int32) (t1 : Bool) (v2 : Int32) (v3 : Int32) (v5 : Int32) (g : Nat → Nat → Nat → Int32) (w : Nat → Nat → Nat → Int64) : Option (GS) :=
  rec72 v2 v3 (t0 + (bI t1)) (v5 + 1) g w
set_option maxRecDepth 20000 in
set_option maxHeartbeats 2000000 in
theorem e_X7_mends_94 {d : Nat} {Ψ : Option AV → DS → Prop} {i0 : Nat} {p1 : Int32} {rec72 : Int32 → Int32 → Int32 → Int32 → (Nat → Nat → Nat → Int32) → (Nat → Nat → Nat → Int64) → Option (GS)} {r : GS} {g : Nat → Nat → Nat → Int32} {w : Nat → Nat → Nat → Int64} {t0 : Int32} {t1 : Bool} {v2 : Int32} {v3 : Int32} {v5 : Int32} {x4 : Option AV} {x6 : Option AV} (hr72 : ∀ {v2 : Int32} {v3 : Int32} {v4 : Int32} {v5 : Int32} {x6 : Option AV} {g : Nat → Nat → Nat → Int32} {w : Nat → Nat → Nat → Int64} , rec72 v2 v3 v4 v5 g w = some r → Ev (EvM mth (d + 7)) mth c00 sc0 (retP (none) c00 Ψ) (lkp es_173) 72 [some (aR 7 i0), some (aI p1), some (aI v2), some (aI v3), some (aI v4), some (aI v5), x6] [] (L0, g, w, q0)) (hΨ : Ψ none (L0, r.1, r.2, q0)) (h : s_X7_mends_94 i0 p1 rec72 t0 t1 v2 v3 v5 g w = some r) : Ev (EvM mth (d + 7)) mth c00 sc0 (retP (none) c00 Ψ) (lkp es_173) 94 [some (aR 7 i0), some (aI p1), some (aI v2), some (aI v3), x4, some (aI v5), x6] [aI (bI t1), aI t0] (L0, g, w, q0) := by
  unfold s_X7_mends_94 at h
  refine ev_iadd (pc' := 95) rfl rfl ?_
  refine ev_istore (pc' := 97) rfl rfl (l' := [some (aR 7 i0), some (aI p1), some (aI v2), some (aI v3), some (aI (t0 + (bI t1))), some (aI v5), x6]) rfl ?_
  refine ev_iinc (pc' := 100) rfl rfl (l' := [some (aR 7 i0), some (aI p1), some (aI v2), some (aI v3), some (aI (t0 + (bI t1))), some (aI (v5 + 1)), x6]) rfl (ii_1 _) rfl ?_
  refine ev_goto (pc' := 72) rfl ?_
  exact hr72 h
def s_X7_mends_72 (i0 : Nat) (p1 : Int32) (rec44 : Int32 → Int32 → (Nat → Nat → Nat → Int32) → (Nat → Nat → Nat → Int64) → Option (GS)) (rec72 : Int32 → Int32 → Int32 → Int32 → (Nat → Nat → Nat → Int32) → (Nat → Nat → Nat → Int64) → Option (GS)) (v2 : Int32) (v3 : Int32) (v4 : Int32) (v5 : Int32) (g : Nat → Nat → Nat → Int32) (w : Nat → Nat → Nat → Int64) : Option (GS) :=
  if p1 ≤ v5 then
    (s_X7_waited i0 p1 g w).bind fun q1 =>
    if v4 ≠ (g 7 i0 14) then
      s_X7_mends_134 i0 p1 rec44 v2 v3 v4 q1 g w
    else
      (s_X7_bits v3 g w).bind fun q2 =>
      if q2 ≠ (g 7 i0 15) then
        s_X7_mends_134 i0 p1 rec44 v2 v3 v4 q1 g w
      else
        s_X7_mends_135 i0 p1 rec44 true v2 v3 v4 q1 g w
  else
    (s_X7_hasJob i0 v5 g w).bind fun q3 =>
    if q3 = true then
      s_X7_mends_94 i0 p1 rec72 v4 true v2 v3 v5 g w
    else
      s_X7_mends_94 i0 p1 rec72 v4 false v2 v3 v5 g w
set_option maxRecDepth 20000 in
set_option maxHeartbeats 2000000 in
theorem e_X7_mends_72 {d : Nat} {Ψ : Option AV → DS → Prop} {i0 : Nat} {p1 : Int32} {rec44 : Int32 → Int32 → (Nat → Nat → Nat → Int32) → (Nat → Nat → Nat → Int64) → Option (GS)} {rec72 : Int32 → Int32 → Int32 → Int32 → (Nat → Nat → Nat → Int32) → (Nat → Nat → Nat → Int64) → Option (GS)} {r : GS} {g : Nat → Nat → Nat → Int32} {w : Nat → Nat → Nat → Int64} {v2 : Int32} {v3 : Int32} {v4 : Int32} {v5 : Int32} {x6 : Option AV} (hr44 : ∀ {v2 : Int32} {v3 : Int32} {x4 : Option AV} {x5 : Option AV} {x6 : Option AV} {g : Nat → Nat → Nat → Int32} {w : Nat → Nat → Nat → Int64} , rec44 v2 v3 g w = some r → Ev (EvM mth (d + 7)) mth c00 sc0 (retP (none) c00 Ψ) (lkp es_173) 44 [some (aR 7 i0), some (aI p1), some (aI v2), some (aI v3), x4, x5, x6] [] (L0, g, w, q0)) (hr72 : ∀ {v2 : Int32} {v3 : Int32} {v4 : Int32} {v5 : Int32} {x6 : Option AV} {g : Nat → Nat → Nat → Int32} {w : Nat → Nat → Nat → Int64} , rec72 v2 v3 v4 v5 g w = some r → Ev (EvM mth (d + 7)) mth c00 sc0 (retP (none) c00 Ψ) (lkp es_173) 72 [some (aR 7 i0), some (aI p1), some (aI v2), some (aI v3), some (aI v4), some (aI v5), x6] [] (L0, g, w, q0)) (hΨ : Ψ none (L0, r.1, r.2, q0)) (h : s_X7_mends_72 i0 p1 rec44 rec72 v2 v3 v4 v5 g w = some r) : Ev (EvM mth (d + 7)) mth c00 sc0 (retP (none) c00 Ψ) (lkp es_173) 72 [some (aR 7 i0), some (aI p1), some (aI v2), some (aI v3), some (aI v4), some (aI v5), x6] [] (L0, g, w, q0) := by
  unfold s_X7_mends_72 at h
  refine ev_iload (pc' := 74) rfl rfl rfl ?_
  refine ev_iload_n (pc' := 75) rfl rfl rfl ?_
  refine ev_icmp_ge rfl (pc' := 78) rfl (fun hc => ?_) (fun hc => ?_)
  · have h := (if_pos hc).symm.trans h
    refine ev_aload_n (pc' := 104) rfl rfl rfl ?_
    refine ev_iload_n (pc' := 105) rfl rfl rfl ?_
    obtain ⟨q1, hq1, h⟩ := Option.bind_eq_some_iff.mp h
    refine ev_V2I (pc' := 108) rfl (by decide) rfl mth_165 ⟨Nat.le_of_ble_eq_true rfl, rfl⟩ ⟨Nat.le_refl _, Nat.le_refl _⟩ (d_X7_waited hq1) ?_
    refine ev_istore (pc' := 110) rfl rfl (l' := [some (aR 7 i0), some (aI p1), some (aI v2), some (aI v3), some (aI v4), some (aI q1), x6]) rfl ?_
    refine ev_iload (pc' := 112) rfl rfl rfl ?_
    refine ev_aload_n (pc' := 113) rfl rfl rfl ?_
    refine ev_getI (pc' := 116) rfl rfl ?_
    refine ev_icmp_ne rfl (pc' := 119) rfl (fun hc => ?_) (fun hc => ?_)
    · have h := (if_pos hc).symm.trans h
      exact e_X7_mends_134 (hr44 := hr44) hΨ h
    · have h := (if_neg hc).symm.trans h
      refine ev_iload_n (pc' := 120) rfl rfl rfl ?_
      obtain ⟨q2, hq2, h⟩ := Option.bind_eq_some_iff.mp h
      refine ev_S1I (pc' := 123) rfl (by decide) rfl mth_157 ⟨Nat.le_of_ble_eq_true rfl, rfl⟩ ⟨Nat.le_refl _, Nat.le_refl _⟩ (d_X7_bits hq2) ?_
      refine ev_aload_n (pc' := 124) rfl rfl rfl ?_
      refine ev_getI (pc' := 127) rfl rfl ?_
      refine ev_icmp_ne rfl (pc' := 130) rfl (fun hc => ?_) (fun hc => ?_)
      · have h := (if_pos hc).symm.trans h
        exact e_X7_mends_134 (hr44 := hr44) hΨ h
      · have h := (if_neg hc).symm.trans h
        refine ev_iconst (pc' := 131) rfl rfl (v := (1 : Int32)) (by decide) ?_
        refine ev_goto (pc' := 135) rfl ?_
        exact e_X7_mends_135 (hr44 := hr44) hΨ h
  · have h := (if_neg hc).symm.trans h
    refine ev_iload (pc' := 80) rfl rfl rfl ?_
    refine ev_aload_n (pc' := 81) rfl rfl rfl ?_
    refine ev_iload (pc' := 83) rfl rfl rfl ?_
    obtain ⟨q3, hq3, h⟩ := Option.bind_eq_some_iff.mp h
    refine ev_V2I (pc' := 86) rfl (by decide) rfl mth_125 ⟨Nat.le_of_ble_eq_true rfl, rfl⟩ ⟨Nat.le_refl _, Nat.le_refl _⟩ (d_X7_hasJob hq3) ?_
    refine ev_ifB_eq rfl (pc' := 89) rfl (fun hc => ?_) (fun hc => ?_)
    · have h := (if_neg hc).symm.trans h
      refine ev_iconst (pc' := 94) rfl rfl (v := (0 : Int32)) (by decide) ?_
      exact e_X7_mends_94 (hr72 := hr72) hΨ h
    · have h := (if_pos hc).symm.trans h
      refine ev_iconst (pc' := 90) rfl rfl (v := (1 : Int32)) (by decide) ?_
      refine ev_goto (pc' := 94) rfl ?_
      exact e_X7_mends_94 (hr72 := hr72) hΨ h
def s_X7_mends_R72 (i0 : Nat) (p1 : Int32) (rec44 : Int32 → Int32 → (Nat → Nat → Nat → Int32) → (Nat → Nat → Nat → Int64) → Option (GS)) : Nat → Int32 → Int32 → Int32 → Int32 → (Nat → Nat → Nat → Int32) → (Nat → Nat → Nat → Int64) → Option (GS)
  | 0 => fun _ _ _ _ _ _ => none
  | n + 1 => s_X7_mends_72 i0 p1 rec44 (s_X7_mends_R72 i0 p1 rec44 n)
theorem e_X7_mends_R72 {d : Nat} {Ψ : Option AV → DS → Prop} {i0 : Nat} {p1 : Int32} {rec44 : Int32 → Int32 → (Nat → Nat → Nat → Int32) → (Nat → Nat → Nat → Int64) → Option (GS)} {r : GS} (hr44 : ∀ {v2 : Int32} {v3 : Int32} {x4 : Option AV} {x5 : Option AV} {x6 : Option AV} {g : Nat → Nat → Nat → Int32} {w : Nat → Nat → Nat → Int64} , rec44 v2 v3 g w = some r → Ev (EvM mth (d + 7)) mth c00 sc0 (retP (none) c00 Ψ) (lkp es_173) 44 [some (aR 7 i0), some (aI p1), some (aI v2), some (aI v3), x4, x5, x6] [] (L0, g, w, q0)) (hΨ : Ψ none (L0, r.1, r.2, q0)) : ∀ (n : Nat) {v2 : Int32} {v3 : Int32} {v4 : Int32} {v5 : Int32} {x6 : Option AV} {g : Nat → Nat → Nat → Int32} {w : Nat → Nat → Nat → Int64}, s_X7_mends_R72 i0 p1 rec44 n v2 v3 v4 v5 g w = some r → Ev (EvM mth (d + 7)) mth c00 sc0 (retP (none) c00 Ψ) (lkp es_173) 72 [some (aR 7 i0), some (aI p1), some (aI v2), some (aI v3), some (aI v4), some (aI v5), x6] [] (L0, g, w, q0) := by
  intro n
  induction n with
  | zero => intros; rename_i h; exact absurd h (by intro h9; cases h9)
  | succ n ih => intros; rename_i h; exact e_X7_mends_72 (hr44 := hr44) (hr72 := ih) hΨ h
def s_X7_mends_44 (i0 : Nat) (p1 : Int32) (rec44 : Int32 → Int32 → (Nat → Nat → Nat → Int32) → (Nat → Nat → Nat → Int64) → Option (GS)) (v2 : Int32) (v3 : Int32) (g : Nat → Nat → Nat → Int32) (w : Nat → Nat → Nat → Int64) : Option (GS) :=
  if ((1 : Int32) <<< (p1 &&& 31)) ≤ v3 then
    some ((g, w))
  else
    if (v3 &&& (v2 ^^^ (-1 : Int32))) ≠ 0 then
      s_X7_mends_209 i0 p1 rec44 v2 v3 g w
    else
      (s_X7_tries i0 p1 v3 g w).bind fun q1 =>
      s_X7_mends_R72 i0 p1 rec44 FU v2 v3 (0 : Int32) (0 : Int32) q1.2.1 q1.2.2
set_option maxRecDepth 20000 in
set_option maxHeartbeats 2000000 in
theorem e_X7_mends_44 {d : Nat} {Ψ : Option AV → DS → Prop} {i0 : Nat} {p1 : Int32} {rec44 : Int32 → Int32 → (Nat → Nat → Nat → Int32) → (Nat → Nat → Nat → Int64) → Option (GS)} {r : GS} {g : Nat → Nat → Nat → Int32} {w : Nat → Nat → Nat → Int64} {v2 : Int32} {v3 : Int32} {x4 : Option AV} {x5 : Option AV} {x6 : Option AV} (hr44 : ∀ {v2 : Int32} {v3 : Int32} {x4 : Option AV} {x5 : Option AV} {x6 : Option AV} {g : Nat → Nat → Nat → Int32} {w : Nat → Nat → Nat → Int64} , rec44 v2 v3 g w = some r → Ev (EvM mth (d + 7)) mth c00 sc0 (retP (none) c00 Ψ) (lkp es_173) 44 [some (aR 7 i0), some (aI p1), some (aI v2), some (aI v3), x4, x5, x6] [] (L0, g, w, q0)) (hΨ : Ψ none (L0, r.1, r.2, q0)) (h : s_X7_mends_44 i0 p1 rec44 v2 v3 g w = some r) : Ev (EvM mth (d + 7)) mth c00 sc0 (retP (none) c00 Ψ) (lkp es_173) 44 [some (aR 7 i0), some (aI p1), some (aI v2), some (aI v3), x4, x5, x6] [] (L0, g, w, q0) := by
  unfold s_X7_mends_44 at h
  refine ev_iload_n (pc' := 45) rfl rfl rfl ?_
  refine ev_iconst (pc' := 46) rfl rfl (v := (1 : Int32)) (by decide) ?_
  refine ev_iload_n (pc' := 47) rfl rfl rfl ?_
  refine ev_ishl (pc' := 48) rfl rfl ?_
  refine ev_icmp_ge rfl (pc' := 51) rfl (fun hc => ?_) (fun hc => ?_)
  · have h := (if_pos hc).symm.trans h
    obtain rfl := Option.some.inj h
    exact ev_return rfl ⟨rfl, rfl, rfl, hΨ⟩
  · have h := (if_neg hc).symm.trans h
    refine ev_iload_n (pc' := 52) rfl rfl rfl ?_
    refine ev_iload_n (pc' := 53) rfl rfl rfl ?_
    refine ev_iconst (pc' := 54) rfl rfl (v := (-1 : Int32)) (by decide) ?_
    refine ev_ixor (pc' := 55) rfl rfl ?_
    refine ev_iand (pc' := 56) rfl rfl ?_
    refine ev_if_ne rfl (pc' := 59) rfl (fun hc => ?_) (fun hc => ?_)
    · have h := (if_pos hc).symm.trans h
      exact e_X7_mends_209 (hr44 := hr44) hΨ h
    · have h := (if_neg hc).symm.trans h
      refine ev_aload_n (pc' := 60) rfl rfl rfl ?_
      refine ev_iload_n (pc' := 61) rfl rfl rfl ?_
      refine ev_iload_n (pc' := 62) rfl rfl rfl ?_
      obtain ⟨q1, hq1, h⟩ := Option.bind_eq_some_iff.mp h
      refine ev_V3I (pc' := 65) rfl (by decide) rfl mth_172 ⟨Nat.le_of_ble_eq_true rfl, rfl⟩ ⟨Nat.le_refl _, Nat.le_refl _⟩ (d_X7_tries hq1) ?_
      refine ev_pop (pc' := 66) rfl rfl rfl ?_
      refine ev_iconst (pc' := 67) rfl rfl (v := (0 : Int32)) (by decide) ?_
      refine ev_istore (pc' := 69) rfl rfl (l' := [some (aR 7 i0), some (aI p1), some (aI v2), some (aI v3), some (aI (0 : Int32)), x5, x6]) rfl ?_
      refine ev_iconst (pc' := 70) rfl rfl (v := (0 : Int32)) (by decide) ?_
      refine ev_istore (pc' := 72) rfl rfl (l' := [some (aR 7 i0), some (aI p1), some (aI v2), some (aI v3), some (aI (0 : Int32)), some (aI (0 : Int32)), x6]) rfl ?_
      exact e_X7_mends_R72 (hr44 := hr44) hΨ FU h
def s_X7_mends_R44 (i0 : Nat) (p1 : Int32) : Nat → Int32 → Int32 → (Nat → Nat → Nat → Int32) → (Nat → Nat → Nat → Int64) → Option (GS)
  | 0 => fun _ _ _ _ => none
  | n + 1 => s_X7_mends_44 i0 p1 (s_X7_mends_R44 i0 p1 n)
theorem e_X7_mends_R44 {d : Nat} {Ψ : Option AV → DS → Prop} {i0 : Nat} {p1 : Int32} {r : GS} (hΨ : Ψ none (L0, r.1, r.2, q0)) : ∀ (n : Nat) {v2 : Int32} {v3 : Int32} {x4 : Option AV} {x5 : Option AV} {x6 : Option AV} {g : Nat → Nat → Nat → Int32} {w : Nat → Nat → Nat → Int64}, s_X7_mends_R44 i0 p1 n v2 v3 g w = some r → Ev (EvM mth (d + 7)) mth c00 sc0 (retP (none) c00 Ψ) (lkp es_173) 44 [some (aR 7 i0), some (aI p1), some (aI v2), some (aI v3), x4, x5, x6] [] (L0, g, w, q0) := by
  intro n
  induction n with
  | zero => intros; rename_i h; exact absurd h (by intro h9; cases h9)
  | succ n ih => intros; rename_i h; exact e_X7_mends_44 (hr44 := ih) hΨ h
def s_X7_mends_25 (i0 : Nat) (p1 : Int32) (rec4 : Int32 → Int32 → (Nat → Nat → Nat → Int32) → (Nat → Nat → Nat → Int64) → Option (GS)) (t0 : Int32) (t1 : Int32) (v3 : Int32) (g : Nat → Nat → Nat → Int32) (w : Nat → Nat → Nat → Int64) : Option (GS) :=
  rec4 (t0 ||| t1) (v3 + 1) g w
set_option maxRecDepth 20000 in
set_option maxHeartbeats 2000000 in
theorem e_X7_mends_25 {d : Nat} {Ψ : Option AV → DS → Prop} {i0 : Nat} {p1 : Int32} {rec4 : Int32 → Int32 → (Nat → Nat → Nat → Int32) → (Nat → Nat → Nat → Int64) → Option (GS)} {r : GS} {g : Nat → Nat → Nat → Int32} {w : Nat → Nat → Nat → Int64} {t0 : Int32} {t1 : Int32} {v3 : Int32} {x2 : Option AV} {x4 : Option AV} {x5 : Option AV} {x6 : Option AV} (hr4 : ∀ {v2 : Int32} {v3 : Int32} {x4 : Option AV} {x5 : Option AV} {x6 : Option AV} {g : Nat → Nat → Nat → Int32} {w : Nat → Nat → Nat → Int64} , rec4 v2 v3 g w = some r → Ev (EvM mth (d + 7)) mth c00 sc0 (retP (none) c00 Ψ) (lkp es_173) 4 [some (aR 7 i0), some (aI p1), some (aI v2), some (aI v3), x4, x5, x6] [] (L0, g, w, q0)) (hΨ : Ψ none (L0, r.1, r.2, q0)) (h : s_X7_mends_25 i0 p1 rec4 t0 t1 v3 g w = some r) : Ev (EvM mth (d + 7)) mth c00 sc0 (retP (none) c00 Ψ) (lkp es_173) 25 [some (aR 7 i0), some (aI p1), x2, some (aI v3), x4, x5, x6] [aI t1, aI t0] (L0, g, w, q0) := by
  unfold s_X7_mends_25 at h
  refine ev_ior (pc' := 26) rfl rfl ?_
  refine ev_istore_n (pc' := 27) rfl rfl (l' := [some (aR 7 i0), some (aI p1), some (aI (t0 ||| t1)), some (aI v3), x4, x5, x6]) rfl ?_
  refine ev_iinc (pc' := 30) rfl rfl (l' := [some (aR 7 i0), some (aI p1), some (aI (t0 ||| t1)), some (aI (v3 + 1)), x4, x5, x6]) rfl (ii_1 _) rfl ?_
  refine ev_goto (pc' := 4) rfl ?_
  exact hr4 h
def s_X7_mends_4 (i0 : Nat) (p1 : Int32) (rec4 : Int32 → Int32 → (Nat → Nat → Nat → Int32) → (Nat → Nat → Nat → Int64) → Option (GS)) (v2 : Int32) (v3 : Int32) (g : Nat → Nat → Nat → Int32) (w : Nat → Nat → Nat → Int64) : Option (GS) :=
  if p1 ≤ v3 then
    (s_X7_asides i0 g w).bind fun q1 =>
    s_X7_mends_R44 i0 p1 FU v2 (0 : Int32) (gI q1.1 7 i0 14 (-1 : Int32)) q1.2
  else
    (s_X7_hasJob i0 v3 g w).bind fun q2 =>
    if q2 = true then
      s_X7_mends_25 i0 p1 rec4 v2 ((1 : Int32) <<< (v3 &&& 31)) v3 g w
    else
      s_X7_mends_25 i0 p1 rec4 v2 (0 : Int32) v3 g w
set_option maxRecDepth 20000 in
set_option maxHeartbeats 2000000 in
theorem e_X7_mends_4 {d : Nat} {Ψ : Option AV → DS → Prop} {i0 : Nat} {p1 : Int32} {rec4 : Int32 → Int32 → (Nat → Nat → Nat → Int32) → (Nat → Nat → Nat → Int64) → Option (GS)} {r : GS} {g : Nat → Nat → Nat → Int32} {w : Nat → Nat → Nat → Int64} {v2 : Int32} {v3 : Int32} {x4 : Option AV} {x5 : Option AV} {x6 : Option AV} (hr4 : ∀ {v2 : Int32} {v3 : Int32} {x4 : Option AV} {x5 : Option AV} {x6 : Option AV} {g : Nat → Nat → Nat → Int32} {w : Nat → Nat → Nat → Int64} , rec4 v2 v3 g w = some r → Ev (EvM mth (d + 7)) mth c00 sc0 (retP (none) c00 Ψ) (lkp es_173) 4 [some (aR 7 i0), some (aI p1), some (aI v2), some (aI v3), x4, x5, x6] [] (L0, g, w, q0)) (hΨ : Ψ none (L0, r.1, r.2, q0)) (h : s_X7_mends_4 i0 p1 rec4 v2 v3 g w = some r) : Ev (EvM mth (d + 7)) mth c00 sc0 (retP (none) c00 Ψ) (lkp es_173) 4 [some (aR 7 i0), some (aI p1), some (aI v2), some (aI v3), x4, x5, x6] [] (L0, g, w, q0) := by
  unfold s_X7_mends_4 at h
  refine ev_iload_n (pc' := 5) rfl rfl rfl ?_
  refine ev_iload_n (pc' := 6) rfl rfl rfl ?_
  refine ev_icmp_ge rfl (pc' := 9) rfl (fun hc => ?_) (fun hc => ?_)
  · have h := (if_pos hc).symm.trans h
    refine ev_aload_n (pc' := 34) rfl rfl rfl ?_
    obtain ⟨q1, hq1, h⟩ := Option.bind_eq_some_iff.mp h
    refine ev_V1V (pc' := 37) rfl (by decide) rfl mth_162 ⟨Nat.le_of_ble_eq_true rfl, rfl⟩ ⟨Nat.le_refl _, Nat.le_refl _⟩ (d_X7_asides hq1) ?_
    refine ev_aload_n (pc' := 38) rfl rfl rfl ?_
    refine ev_iconst (pc' := 39) rfl rfl (v := (-1 : Int32)) (by decide) ?_
    refine ev_putI (pc' := 42) rfl rfl ?_
    refine ev_iconst (pc' := 43) rfl rfl (v := (0 : Int32)) (by decide) ?_
    refine ev_istore_n (pc' := 44) rfl rfl (l' := [some (aR 7 i0), some (aI p1), some (aI v2), some (aI (0 : Int32)), x4, x5, x6]) rfl ?_
    exact e_X7_mends_R44 hΨ FU h
  · have h := (if_neg hc).symm.trans h
    refine ev_iload_n (pc' := 10) rfl rfl rfl ?_
    refine ev_aload_n (pc' := 11) rfl rfl rfl ?_
    refine ev_iload_n (pc' := 12) rfl rfl rfl ?_
    obtain ⟨q2, hq2, h⟩ := Option.bind_eq_some_iff.mp h
    refine ev_V2I (pc' := 15) rfl (by decide) rfl mth_125 ⟨Nat.le_of_ble_eq_true rfl, rfl⟩ ⟨Nat.le_refl _, Nat.le_refl _⟩ (d_X7_hasJob hq2) ?_
    refine ev_ifB_eq rfl (pc' := 18) rfl (fun hc => ?_) (fun hc => ?_)
    · have h := (if_neg hc).symm.trans h
      refine ev_iconst (pc' := 25) rfl rfl (v := (0 : Int32)) (by decide) ?_
      exact e_X7_mends_25 (hr4 := hr4) hΨ h
    · have h := (if_pos hc).symm.trans h
      refine ev_iconst (pc' := 19) rfl rfl (v := (1 : Int32)) (by decide) ?_
      refine ev_iload_n (pc' := 20) rfl rfl rfl ?_
      refine ev_ishl (pc' := 21) rfl rfl ?_
      refine ev_goto (pc' := 25) rfl ?_
      exact e_X7_mends_25 (hr4 := hr4) hΨ h
def s_X7_mends_R4 (i0 : Nat) (p1 : Int32) : Nat → Int32 → Int32 → (Nat → Nat → Nat → Int32) → (Nat → Nat → Nat → Int64) → Option (GS)
  | 0 => fun _ _ _ _ => none
  | n + 1 => s_X7_mends_4 i0 p1 (s_X7_mends_R4 i0 p1 n)
theorem e_X7_mends_R4 {d : Nat} {Ψ : Option AV → DS → Prop} {i0 : Nat} {p1 : Int32} {r : GS} (hΨ : Ψ none (L0, r.1, r.2, q0)) : ∀ (n : Nat) {v2 : Int32} {v3 : Int32} {x4 : Option AV} {x5 : Option AV} {x6 : Option AV} {g : Nat → Nat → Nat → Int32} {w : Nat → Nat → Nat → Int64}, s_X7_mends_R4 i0 p1 n v2 v3 g w = some r → Ev (EvM mth (d + 7)) mth c00 sc0 (retP (none) c00 Ψ) (lkp es_173) 4 [some (aR 7 i0), some (aI p1), some (aI v2), some (aI v3), x4, x5, x6] [] (L0, g, w, q0) := by
  intro n
  induction n with
  | zero => intros; rename_i h; exact absurd h (by intro h9; cases h9)
  | succ n ih => intros; rename_i h; exact e_X7_mends_4 (hr4 := ih) hΨ h
def s_X7_mends (i0 : Nat) (p1 : Int32) (g : Nat → Nat → Nat → Int32) (w : Nat → Nat → Nat → Int64) : Option (GS) :=
  s_X7_mends_R4 i0 p1 FU (0 : Int32) (0 : Int32) g w
set_option maxRecDepth 20000 in
set_option maxHeartbeats 2000000 in
theorem d_X7_mends {d : Nat} {i0 : Nat} {p1 : Int32} {g : Nat → Nat → Nat → Int32} {w : Nat → Nat → Nat → Int64} {r : GS} (h : s_X7_mends i0 p1 g w = some r) : Does (EvM mth (d + 8)) 173 [aR 7 i0, aI p1] (L0, g, w, q0) none (L0, r.1, r.2, q0) := by
  intro Ψ hΨ
  refine ⟨in_173, mth_173, Nat.le_of_ble_eq_true rfl, ?_⟩
  show Ev (EvM mth (d + 7)) mth c00 sc0 (retP (none) c00 Ψ) (lkp es_173) 0 [some (aR 7 i0), some (aI p1), none, none, none, none, none] [] (L0, g, w, q0)
  unfold s_X7_mends at h
  refine ev_iconst (pc' := 1) rfl rfl (v := (0 : Int32)) (by decide) ?_
  refine ev_istore_n (pc' := 2) rfl rfl (l' := [some (aR 7 i0), some (aI p1), some (aI (0 : Int32)), none, none, none, none]) rfl ?_
  refine ev_iconst (pc' := 3) rfl rfl (v := (0 : Int32)) (by decide) ?_
  refine ev_istore_n (pc' := 4) rfl rfl (l' := [some (aR 7 i0), some (aI p1), some (aI (0 : Int32)), some (aI (0 : Int32)), none, none, none]) rfl ?_
  exact e_X7_mends_R4 hΨ FU h
def s_X7_lay_26 (i0 : Nat) (p1 : Int32) (p2 : Int32) (p3 : Int32) (t0 : Int32) (g : Nat → Nat → Nat → Int32) (w : Nat → Nat → Nat → Int64) : Option (Int32 × GS) :=
  some ((t0, g, w))
set_option maxRecDepth 20000 in
set_option maxHeartbeats 2000000 in
theorem e_X7_lay_26 {d : Nat} {Ψ : Option AV → DS → Prop} {i0 : Nat} {p1 : Int32} {p2 : Int32} {p3 : Int32} {r : Int32 × GS} {g : Nat → Nat → Nat → Int32} {w : Nat → Nat → Nat → Int64} {t0 : Int32} {x0 : Option AV} {x1 : Option AV} {x2 : Option AV} {x3 : Option AV} {x4 : Option AV} (hΨ : Ψ (some (aI r.1)) (L0, r.2.1, r.2.2, q0)) (h : s_X7_lay_26 i0 p1 p2 p3 t0 g w = some r) : Ev (EvM mth (d + 8)) mth c00 sc0 (retP (some .int) c00 Ψ) (lkp es_154) 26 [x0, x1, x2, x3, x4] [aI t0] (L0, g, w, q0) := by
  unfold s_X7_lay_26 at h
  obtain rfl := Option.some.inj h
  exact ev_ireturn rfl ⟨⟨_, rfl, rfl⟩, rfl, rfl, hΨ⟩
def s_X7_lay (i0 : Nat) (p1 : Int32) (p2 : Int32) (p3 : Int32) (g : Nat → Nat → Nat → Int32) (w : Nat → Nat → Nat → Int64) : Option (Int32 × GS) :=
  (s_X7_may i0 p1 p2 p3 g w).bind fun q1 =>
  if q1 = 0 then
    (s_X7_lays i0 p1 p2 p3 g w).bind fun q2 =>
    some (((0 : Int32), q2.1, (wL q2.2 2218 0 (66 : Int32).toNatClampNeg ((q2.2 2218 0 (66 : Int32).toNatClampNeg) + (1 : Int64)))))
  else
    if q1 ≤ 0 then
      s_X7_lay_26 i0 p1 p2 p3 q1 g w
    else
      s_X7_lay_26 i0 p1 p2 p3 (-2 : Int32) g w
set_option maxRecDepth 20000 in
set_option maxHeartbeats 2000000 in
theorem d_X7_lay {d : Nat} {i0 : Nat} {p1 : Int32} {p2 : Int32} {p3 : Int32} {g : Nat → Nat → Nat → Int32} {w : Nat → Nat → Nat → Int64} {r : Int32 × GS} (h : s_X7_lay i0 p1 p2 p3 g w = some r) : Does (EvM mth (d + 9)) 154 [aR 7 i0, aI p1, aI p2, aI p3] (L0, g, w, q0) (some (aI r.1)) (L0, r.2.1, r.2.2, q0) := by
  intro Ψ hΨ
  refine ⟨in_154, mth_154, Nat.le_of_ble_eq_true rfl, ?_⟩
  show Ev (EvM mth (d + 8)) mth c00 sc0 (retP (some .int) c00 Ψ) (lkp es_154) 0 [some (aR 7 i0), some (aI p1), some (aI p2), some (aI p3), none] [] (L0, g, w, q0)
  unfold s_X7_lay at h
  refine ev_aload_n (pc' := 1) rfl rfl rfl ?_
  refine ev_iload_n (pc' := 2) rfl rfl rfl ?_
  refine ev_iload_n (pc' := 3) rfl rfl rfl ?_
  refine ev_iload_n (pc' := 4) rfl rfl rfl ?_
  obtain ⟨q1, hq1, h⟩ := Option.bind_eq_some_iff.mp h
  refine ev_V4I (pc' := 7) rfl (by decide) rfl mth_152 ⟨Nat.le_of_ble_eq_true rfl, rfl⟩ ⟨Nat.le_refl _, Nat.le_refl _⟩ (d_X7_may hq1) ?_
  refine ev_istore (pc' := 9) rfl rfl (l' := [some (aR 7 i0), some (aI p1), some (aI p2), some (aI p3), some (aI q1)]) rfl ?_
  refine ev_iload (pc' := 11) rfl rfl rfl ?_
  refine ev_if_eq rfl (pc' := 14) rfl (fun hc => ?_) (fun hc => ?_)
  · have h := (if_pos hc).symm.trans h
    refine ev_aload_n (pc' := 28) rfl rfl rfl ?_
    refine ev_iload_n (pc' := 29) rfl rfl rfl ?_
    refine ev_iload_n (pc' := 30) rfl rfl rfl ?_
    refine ev_iload_n (pc' := 31) rfl rfl rfl ?_
    obtain ⟨q2, hq2, h⟩ := Option.bind_eq_some_iff.mp h
    refine ev_V4V (pc' := 34) rfl (by decide) rfl mth_153 ⟨Nat.le_of_ble_eq_true rfl, rfl⟩ ⟨Nat.le_refl _, Nat.le_refl _⟩ (d_X7_lays hq2) ?_
    refine ev_aload_n (pc' := 35) rfl rfl rfl ?_
    refine ev_getQ (pc' := 38) rfl rfl rfl ?_
    refine ev_bipush (pc' := 40) rfl rfl (v := (66 : Int32)) (by decide) ?_
    refine ev_dup2 (pc' := 41) rfl rfl rfl rfl ?_
    refine ev_lald (pc' := 42) rfl rfl rfl (inR_vp (by decide)) ?_
    refine ev_lconst (pc' := 43) rfl rfl (v := (1 : Int64)) (by decide) ?_
    refine ev_ladd (pc' := 44) rfl rfl ?_
    refine ev_last (pc' := 45) rfl rfl rfl (inR_vp (by decide)) ?_
    refine ev_iconst (pc' := 46) rfl rfl (v := (0 : Int32)) (by decide) ?_
    obtain rfl := Option.some.inj h
    exact ev_ireturn rfl ⟨⟨_, rfl, rfl⟩, rfl, rfl, hΨ⟩
  · have h := (if_neg hc).symm.trans h
    refine ev_iload (pc' := 16) rfl rfl rfl ?_
    refine ev_if_le rfl (pc' := 19) rfl (fun hc => ?_) (fun hc => ?_)
    · have h := (if_pos hc).symm.trans h
      refine ev_iload (pc' := 26) rfl rfl rfl ?_
      exact e_X7_lay_26 hΨ h
    · have h := (if_neg hc).symm.trans h
      refine ev_bipush (pc' := 21) rfl rfl (v := (-2 : Int32)) (by decide) ?_
      refine ev_goto (pc' := 26) rfl ?_
      exact e_X7_lay_26 hΨ h
def s_X7_order_50 (i0 : Nat) (p1 : Int32) (p2 : Int32) (t0 : Int32) (g : Nat → Nat → Nat → Int32) (w : Nat → Nat → Nat → Int64) : Option (Int32 × GS) :=
  some ((t0, g, w))
set_option maxRecDepth 20000 in
set_option maxHeartbeats 2000000 in
theorem e_X7_order_50 {d : Nat} {Ψ : Option AV → DS → Prop} {i0 : Nat} {p1 : Int32} {p2 : Int32} {r : Int32 × GS} {g : Nat → Nat → Nat → Int32} {w : Nat → Nat → Nat → Int64} {t0 : Int32} {x0 : Option AV} {x1 : Option AV} {x2 : Option AV} {x3 : Option AV} (hΨ : Ψ (some (aI r.1)) (L0, r.2.1, r.2.2, q0)) (h : s_X7_order_50 i0 p1 p2 t0 g w = some r) : Ev (EvM mth (d + 8)) mth c00 sc0 (retP (some .int) c00 Ψ) (lkp es_170) 50 [x0, x1, x2, x3] [aI t0] (L0, g, w, q0) := by
  unfold s_X7_order_50 at h
  obtain rfl := Option.some.inj h
  exact ev_ireturn rfl ⟨⟨_, rfl, rfl⟩, rfl, rfl, hΨ⟩
def s_X7_order_13 (i0 : Nat) (p1 : Int32) (p2 : Int32) (g : Nat → Nat → Nat → Int32) (w : Nat → Nat → Nat → Int64) : Option (Int32 × GS) :=
  some (((-1 : Int32), g, w))
set_option maxRecDepth 20000 in
set_option maxHeartbeats 2000000 in
theorem e_X7_order_13 {d : Nat} {Ψ : Option AV → DS → Prop} {i0 : Nat} {p1 : Int32} {p2 : Int32} {r : Int32 × GS} {g : Nat → Nat → Nat → Int32} {w : Nat → Nat → Nat → Int64} {x0 : Option AV} {x1 : Option AV} {x2 : Option AV} {x3 : Option AV} (hΨ : Ψ (some (aI r.1)) (L0, r.2.1, r.2.2, q0)) (h : s_X7_order_13 i0 p1 p2 g w = some r) : Ev (EvM mth (d + 8)) mth c00 sc0 (retP (some .int) c00 Ψ) (lkp es_170) 13 [x0, x1, x2, x3] [] (L0, g, w, q0) := by
  unfold s_X7_order_13 at h
  refine ev_iconst (pc' := 14) rfl rfl (v := (-1 : Int32)) (by decide) ?_
  obtain rfl := Option.some.inj h
  exact ev_ireturn rfl ⟨⟨_, rfl, rfl⟩, rfl, rfl, hΨ⟩
def s_X7_order (i0 : Nat) (p1 : Int32) (p2 : Int32) (g : Nat → Nat → Nat → Int32) (w : Nat → Nat → Nat → Int64) : Option (Int32 × GS) :=
  if (s_X7_isMany i0 p1 g w) = true then
    if (-1 : Int32) ≤ p2 then
      (s_X7_bestOrder i0 p1 g w).bind fun q1 =>
      if 0 ≤ p2 then
        if p1 ≤ p2 then
          s_X7_order_50 i0 p1 p2 (-4 : Int32) q1.2.1 q1.2.2
        else
          s_X7_order_50 i0 p1 p2 ((q1.1 >>> (((3 : Int32) * p2) &&& 31)) &&& (7 : Int32)) q1.2.1 q1.2.2
      else
        s_X7_order_50 i0 p1 p2 (q1.2.1 7 i0 13) q1.2.1 q1.2.2
    else
      s_X7_order_13 i0 p1 p2 g w
  else
    s_X7_order_13 i0 p1 p2 g w
set_option maxRecDepth 20000 in
set_option maxHeartbeats 2000000 in
theorem d_X7_order {d : Nat} {i0 : Nat} {p1 : Int32} {p2 : Int32} {g : Nat → Nat → Nat → Int32} {w : Nat → Nat → Nat → Int64} {r : Int32 × GS} (h : s_X7_order i0 p1 p2 g w = some r) : Does (EvM mth (d + 9)) 170 [aR 7 i0, aI p1, aI p2] (L0, g, w, q0) (some (aI r.1)) (L0, r.2.1, r.2.2, q0) := by
  intro Ψ hΨ
  refine ⟨in_170, mth_170, Nat.le_of_ble_eq_true rfl, ?_⟩
  show Ev (EvM mth (d + 8)) mth c00 sc0 (retP (some .int) c00 Ψ) (lkp es_170) 0 [some (aR 7 i0), some (aI p1), some (aI p2), none] [] (L0, g, w, q0)
  unfold s_X7_order at h
  refine ev_aload_n (pc' := 1) rfl rfl rfl ?_
  refine ev_iload_n (pc' := 2) rfl rfl rfl ?_
  refine ev_V2I (pc' := 5) rfl (by decide) rfl mth_168 ⟨Nat.le_of_ble_eq_true rfl, rfl⟩ ⟨Nat.le_refl _, Nat.le_refl _⟩ d_X7_isMany ?_
  refine ev_ifB_eq rfl (pc' := 8) rfl (fun hc => ?_) (fun hc => ?_)
  · have h := (if_neg hc).symm.trans h
    exact e_X7_order_13 hΨ h
  · have h := (if_pos hc).symm.trans h
    refine ev_iload_n (pc' := 9) rfl rfl rfl ?_
    refine ev_iconst (pc' := 10) rfl rfl (v := (-1 : Int32)) (by decide) ?_
    refine ev_icmp_ge rfl (pc' := 13) rfl (fun hc => ?_) (fun hc => ?_)
    · have h := (if_pos hc).symm.trans h
      refine ev_aload_n (pc' := 16) rfl rfl rfl ?_
      refine ev_iload_n (pc' := 17) rfl rfl rfl ?_
      obtain ⟨q1, hq1, h⟩ := Option.bind_eq_some_iff.mp h
      refine ev_V2I (pc' := 20) rfl (by decide) rfl mth_169 ⟨Nat.le_of_ble_eq_true rfl, rfl⟩ ⟨Nat.le_refl _, Nat.le_refl _⟩ (d_X7_bestOrder hq1) ?_
      refine ev_istore_n (pc' := 21) rfl rfl (l' := [some (aR 7 i0), some (aI p1), some (aI p2), some (aI q1.1)]) rfl ?_
      refine ev_iload_n (pc' := 22) rfl rfl rfl ?_
      refine ev_if_ge rfl (pc' := 25) rfl (fun hc => ?_) (fun hc => ?_)
      · have h := (if_pos hc).symm.trans h
        refine ev_iload_n (pc' := 33) rfl rfl rfl ?_
        refine ev_iload_n (pc' := 34) rfl rfl rfl ?_
        refine ev_icmp_ge rfl (pc' := 37) rfl (fun hc => ?_) (fun hc => ?_)
        · have h := (if_pos hc).symm.trans h
          refine ev_bipush (pc' := 50) rfl rfl (v := (-4 : Int32)) (by decide) ?_
          exact e_X7_order_50 hΨ h
        · have h := (if_neg hc).symm.trans h
          refine ev_iload_n (pc' := 38) rfl rfl rfl ?_
          refine ev_iconst (pc' := 39) rfl rfl (v := (3 : Int32)) (by decide) ?_
          refine ev_iload_n (pc' := 40) rfl rfl rfl ?_
          refine ev_imul (pc' := 41) rfl rfl ?_
          refine ev_ishr (pc' := 42) rfl rfl ?_
          refine ev_bipush (pc' := 44) rfl rfl (v := (7 : Int32)) (by decide) ?_
          refine ev_iand (pc' := 45) rfl rfl ?_
          refine ev_goto (pc' := 50) rfl ?_
          exact e_X7_order_50 hΨ h
      · have h := (if_neg hc).symm.trans h
        refine ev_aload_n (pc' := 26) rfl rfl rfl ?_
        refine ev_getI (pc' := 29) rfl rfl ?_
        refine ev_goto (pc' := 50) rfl ?_
        exact e_X7_order_50 hΨ h
    · have h := (if_neg hc).symm.trans h
      exact e_X7_order_13 hΨ h
def s_X7_layOrder (i0 : Nat) (p1 : Int32) (g : Nat → Nat → Nat → Int32) (w : Nat → Nat → Nat → Int64) : Option (Int32 × GS) :=
  if (s_X7_isMany i0 p1 g w) = true then
    (s_X7_bestOrder i0 p1 g w).bind fun q1 =>
    (s_X7_empties i0 q1.2.1 q1.2.2).bind fun q2 =>
    (s_X7_plans i0 p1 q1.1 q2.1 q2.2).bind fun q3 =>
    some ((q3.1, q3.2.1, (wL q3.2.2 2218 0 (66 : Int32).toNatClampNeg ((q3.2.2 2218 0 (66 : Int32).toNatClampNeg) + q3.1.toInt64))))
  else
    some (((-1 : Int32), g, w))
set_option maxRecDepth 20000 in
set_option maxHeartbeats 2000000 in
theorem d_X7_layOrder {d : Nat} {i0 : Nat} {p1 : Int32} {g : Nat → Nat → Nat → Int32} {w : Nat → Nat → Nat → Int64} {r : Int32 × GS} (h : s_X7_layOrder i0 p1 g w = some r) : Does (EvM mth (d + 9)) 171 [aR 7 i0, aI p1] (L0, g, w, q0) (some (aI r.1)) (L0, r.2.1, r.2.2, q0) := by
  intro Ψ hΨ
  refine ⟨in_171, mth_171, Nat.le_of_ble_eq_true rfl, ?_⟩
  show Ev (EvM mth (d + 8)) mth c00 sc0 (retP (some .int) c00 Ψ) (lkp es_171) 0 [some (aR 7 i0), some (aI p1), none, none] [] (L0, g, w, q0)
  unfold s_X7_layOrder at h
  refine ev_aload_n (pc' := 1) rfl rfl rfl ?_
  refine ev_iload_n (pc' := 2) rfl rfl rfl ?_
  refine ev_V2I (pc' := 5) rfl (by decide) rfl mth_168 ⟨Nat.le_of_ble_eq_true rfl, rfl⟩ ⟨Nat.le_refl _, Nat.le_refl _⟩ d_X7_isMany ?_
  refine ev_ifB_ne rfl (pc' := 8) rfl (fun hc => ?_) (fun hc => ?_)
  · have h := (if_pos hc).symm.trans h
    refine ev_aload_n (pc' := 11) rfl rfl rfl ?_
    refine ev_iload_n (pc' := 12) rfl rfl rfl ?_
    obtain ⟨q1, hq1, h⟩ := Option.bind_eq_some_iff.mp h
    refine ev_V2I (pc' := 15) rfl (by decide) rfl mth_169 ⟨Nat.le_of_ble_eq_true rfl, rfl⟩ ⟨Nat.le_refl _, Nat.le_refl _⟩ (d_X7_bestOrder hq1) ?_
    refine ev_istore_n (pc' := 16) rfl rfl (l' := [some (aR 7 i0), some (aI p1), some (aI q1.1), none]) rfl ?_
    refine ev_aload_n (pc' := 17) rfl rfl rfl ?_
    obtain ⟨q2, hq2, h⟩ := Option.bind_eq_some_iff.mp h
    refine ev_V1V (pc' := 20) rfl (by decide) rfl mth_164 ⟨Nat.le_of_ble_eq_true rfl, rfl⟩ ⟨Nat.le_refl _, Nat.le_refl _⟩ (d_X7_empties hq2) ?_
    refine ev_aload_n (pc' := 21) rfl rfl rfl ?_
    refine ev_iload_n (pc' := 22) rfl rfl rfl ?_
    refine ev_iload_n (pc' := 23) rfl rfl rfl ?_
    obtain ⟨q3, hq3, h⟩ := Option.bind_eq_some_iff.mp h
    refine ev_V3I (pc' := 26) rfl (by decide) rfl mth_167 ⟨Nat.le_of_ble_eq_true rfl, rfl⟩ ⟨Nat.le_refl _, Nat.le_refl _⟩ (d_X7_plans hq3) ?_
    refine ev_istore_n (pc' := 27) rfl rfl (l' := [some (aR 7 i0), some (aI p1), some (aI q1.1), some (aI q3.1)]) rfl ?_
    refine ev_aload_n (pc' := 28) rfl rfl rfl ?_
    refine ev_getQ (pc' := 31) rfl rfl rfl ?_
    refine ev_bipush (pc' := 33) rfl rfl (v := (66 : Int32)) (by decide) ?_
    refine ev_dup2 (pc' := 34) rfl rfl rfl rfl ?_
    refine ev_lald (pc' := 35) rfl rfl rfl (inR_vp (by decide)) ?_
    refine ev_iload_n (pc' := 36) rfl rfl rfl ?_
    refine ev_i2l (pc' := 37) rfl rfl ?_
    refine ev_ladd (pc' := 38) rfl rfl ?_
    refine ev_last (pc' := 39) rfl rfl rfl (inR_vp (by decide)) ?_
    refine ev_iload_n (pc' := 40) rfl rfl rfl ?_
    obtain rfl := Option.some.inj h
    exact ev_ireturn rfl ⟨⟨_, rfl, rfl⟩, rfl, rfl, hΨ⟩
  · have h := (if_neg hc).symm.trans h
    refine ev_iconst (pc' := 9) rfl rfl (v := (-1 : Int32)) (by decide) ?_
    obtain rfl := Option.some.inj h
    exact ev_ireturn rfl ⟨⟨_, rfl, rfl⟩, rfl, rfl, hΨ⟩
def s_X7_mended_66 (i0 : Nat) (p1 : Int32) (p2 : Int32) (t0 : Int32) (g : Nat → Nat → Nat → Int32) (w : Nat → Nat → Nat → Int64) : Option (Int32 × GS) :=
  some ((t0, g, w))
set_option maxRecDepth 20000 in
set_option maxHeartbeats 2000000 in
theorem e_X7_mended_66 {d : Nat} {Ψ : Option AV → DS → Prop} {i0 : Nat} {p1 : Int32} {p2 : Int32} {r : Int32 × GS} {g : Nat → Nat → Nat → Int32} {w : Nat → Nat → Nat → Int64} {t0 : Int32} {x0 : Option AV} {x1 : Option AV} {x2 : Option AV} (hΨ : Ψ (some (aI r.1)) (L0, r.2.1, r.2.2, q0)) (h : s_X7_mended_66 i0 p1 p2 t0 g w = some r) : Ev (EvM mth (d + 8)) mth c00 sc0 (retP (some .int) c00 Ψ) (lkp es_174) 66 [x0, x1, x2] [aI t0] (L0, g, w, q0) := by
  unfold s_X7_mended_66 at h
  obtain rfl := Option.some.inj h
  exact ev_ireturn rfl ⟨⟨_, rfl, rfl⟩, rfl, rfl, hΨ⟩
def s_X7_mended_20 (i0 : Nat) (p1 : Int32) (p2 : Int32) (g : Nat → Nat → Nat → Int32) (w : Nat → Nat → Nat → Int64) : Option (Int32 × GS) :=
  some (((-1 : Int32), g, w))
set_option maxRecDepth 20000 in
set_option maxHeartbeats 2000000 in
theorem e_X7_mended_20 {d : Nat} {Ψ : Option AV → DS → Prop} {i0 : Nat} {p1 : Int32} {p2 : Int32} {r : Int32 × GS} {g : Nat → Nat → Nat → Int32} {w : Nat → Nat → Nat → Int64} {x0 : Option AV} {x1 : Option AV} {x2 : Option AV} (hΨ : Ψ (some (aI r.1)) (L0, r.2.1, r.2.2, q0)) (h : s_X7_mended_20 i0 p1 p2 g w = some r) : Ev (EvM mth (d + 8)) mth c00 sc0 (retP (some .int) c00 Ψ) (lkp es_174) 20 [x0, x1, x2] [] (L0, g, w, q0) := by
  unfold s_X7_mended_20 at h
  refine ev_iconst (pc' := 21) rfl rfl (v := (-1 : Int32)) (by decide) ?_
  obtain rfl := Option.some.inj h
  exact ev_ireturn rfl ⟨⟨_, rfl, rfl⟩, rfl, rfl, hΨ⟩
def s_X7_mended (i0 : Nat) (p1 : Int32) (p2 : Int32) (g : Nat → Nat → Nat → Int32) (w : Nat → Nat → Nat → Int64) : Option (Int32 × GS) :=
  if (s_X7_isMany i0 p1 g w) = true then
    if (s_X7_in p2.toInt64 (0 : Int64) (3 : Int64) g w) = true then
      (s_X7_mends i0 p1 g w).bind fun q1 =>
      if p2 ≠ 0 then
        if p2 ≠ (1 : Int32) then
          if p2 ≠ (2 : Int32) then
            s_X7_mended_66 i0 p1 p2 (q1.1 7 i0 17) q1.1 q1.2
          else
            s_X7_mended_66 i0 p1 p2 (q1.1 7 i0 16) q1.1 q1.2
        else
          s_X7_mended_66 i0 p1 p2 (q1.1 7 i0 15) q1.1 q1.2
      else
        s_X7_mended_66 i0 p1 p2 (q1.1 7 i0 14) q1.1 q1.2
    else
      s_X7_mended_20 i0 p1 p2 g w
  else
    s_X7_mended_20 i0 p1 p2 g w
set_option maxRecDepth 20000 in
set_option maxHeartbeats 2000000 in
theorem d_X7_mended {d : Nat} {i0 : Nat} {p1 : Int32} {p2 : Int32} {g : Nat → Nat → Nat → Int32} {w : Nat → Nat → Nat → Int64} {r : Int32 × GS} (h : s_X7_mended i0 p1 p2 g w = some r) : Does (EvM mth (d + 9)) 174 [aR 7 i0, aI p1, aI p2] (L0, g, w, q0) (some (aI r.1)) (L0, r.2.1, r.2.2, q0) := by
  intro Ψ hΨ
  refine ⟨in_174, mth_174, Nat.le_of_ble_eq_true rfl, ?_⟩
  show Ev (EvM mth (d + 8)) mth c00 sc0 (retP (some .int) c00 Ψ) (lkp es_174) 0 [some (aR 7 i0), some (aI p1), some (aI p2)] [] (L0, g, w, q0)
  unfold s_X7_mended at h
  refine ev_aload_n (pc' := 1) rfl rfl rfl ?_
  refine ev_iload_n (pc' := 2) rfl rfl rfl ?_
  refine ev_V2I (pc' := 5) rfl (by decide) rfl mth_168 ⟨Nat.le_of_ble_eq_true rfl, rfl⟩ ⟨Nat.le_refl _, Nat.le_refl _⟩ d_X7_isMany ?_
  refine ev_ifB_eq rfl (pc' := 8) rfl (fun hc => ?_) (fun hc => ?_)
  · have h := (if_neg hc).symm.trans h
    exact e_X7_mended_20 hΨ h
  · have h := (if_pos hc).symm.trans h
    refine ev_iload_n (pc' := 9) rfl rfl rfl ?_
    refine ev_i2l (pc' := 10) rfl rfl ?_
    refine ev_lconst (pc' := 11) rfl rfl (v := (0 : Int64)) (by decide) ?_
    refine ev_ldc2_w (pc' := 14) rfl rfl (v := (3 : Int64)) (by decide) ?_
    refine ev_S3I (pc' := 17) rfl (by decide) rfl mth_115 ⟨Nat.le_of_ble_eq_true rfl, rfl⟩ ⟨Nat.le_refl _, Nat.le_refl _⟩ d_X7_in ?_
    refine ev_ifB_ne rfl (pc' := 20) rfl (fun hc => ?_) (fun hc => ?_)
    · have h := (if_pos hc).symm.trans h
      refine ev_aload_n (pc' := 23) rfl rfl rfl ?_
      refine ev_iload_n (pc' := 24) rfl rfl rfl ?_
      obtain ⟨q1, hq1, h⟩ := Option.bind_eq_some_iff.mp h
      refine ev_V2V (pc' := 27) rfl (by decide) rfl mth_173 ⟨Nat.le_of_ble_eq_true rfl, rfl⟩ ⟨Nat.le_refl _, Nat.le_refl _⟩ (d_X7_mends hq1) ?_
      refine ev_iload_n (pc' := 28) rfl rfl rfl ?_
      refine ev_if_ne rfl (pc' := 31) rfl (fun hc => ?_) (fun hc => ?_)
      · have h := (if_pos hc).symm.trans h
        refine ev_iload_n (pc' := 39) rfl rfl rfl ?_
        refine ev_iconst (pc' := 40) rfl rfl (v := (1 : Int32)) (by decide) ?_
        refine ev_icmp_ne rfl (pc' := 43) rfl (fun hc => ?_) (fun hc => ?_)
        · have h := (if_pos hc).symm.trans h
          refine ev_iload_n (pc' := 51) rfl rfl rfl ?_
          refine ev_iconst (pc' := 52) rfl rfl (v := (2 : Int32)) (by decide) ?_
          refine ev_icmp_ne rfl (pc' := 55) rfl (fun hc => ?_) (fun hc => ?_)
          · have h := (if_pos hc).symm.trans h
            refine ev_aload_n (pc' := 63) rfl rfl rfl ?_
            refine ev_getI (pc' := 66) rfl rfl ?_
            exact e_X7_mended_66 hΨ h
          · have h := (if_neg hc).symm.trans h
            refine ev_aload_n (pc' := 56) rfl rfl rfl ?_
            refine ev_getI (pc' := 59) rfl rfl ?_
            refine ev_goto (pc' := 66) rfl ?_
            exact e_X7_mended_66 hΨ h
        · have h := (if_neg hc).symm.trans h
          refine ev_aload_n (pc' := 44) rfl rfl rfl ?_
          refine ev_getI (pc' := 47) rfl rfl ?_
          refine ev_goto (pc' := 66) rfl ?_
          exact e_X7_mended_66 hΨ h
      · have h := (if_neg hc).symm.trans h
        refine ev_aload_n (pc' := 32) rfl rfl rfl ?_
        refine ev_getI (pc' := 35) rfl rfl ?_
        refine ev_goto (pc' := 66) rfl ?_
        exact e_X7_mended_66 hΨ h
    · have h := (if_neg hc).symm.trans h
      exact e_X7_mended_20 hΨ h
def s_X7_layMended (i0 : Nat) (p1 : Int32) (g : Nat → Nat → Nat → Int32) (w : Nat → Nat → Nat → Int64) : Option (Int32 × GS) :=
  if (s_X7_isMany i0 p1 g w) = true then
    (s_X7_mends i0 p1 g w).bind fun q1 =>
    (s_X7_tries i0 p1 (q1.1 7 i0 17) q1.1 q1.2).bind fun q2 =>
    some (((q2.2.1 7 i0 14), q2.2.1, (wL q2.2.2 2218 0 (66 : Int32).toNatClampNeg ((q1.2 2218 0 (66 : Int32).toNatClampNeg) + q2.1.toInt64))))
  else
    some (((-1 : Int32), g, w))
set_option maxRecDepth 20000 in
set_option maxHeartbeats 2000000 in
theorem d_X7_layMended {d : Nat} {i0 : Nat} {p1 : Int32} {g : Nat → Nat → Nat → Int32} {w : Nat → Nat → Nat → Int64} {r : Int32 × GS} (h : s_X7_layMended i0 p1 g w = some r) : Does (EvM mth (d + 9)) 175 [aR 7 i0, aI p1] (L0, g, w, q0) (some (aI r.1)) (L0, r.2.1, r.2.2, q0) := by
  intro Ψ hΨ
  refine ⟨in_175, mth_175, Nat.le_of_ble_eq_true rfl, ?_⟩
  show Ev (EvM mth (d + 8)) mth c00 sc0 (retP (some .int) c00 Ψ) (lkp es_175) 0 [some (aR 7 i0), some (aI p1)] [] (L0, g, w, q0)
  unfold s_X7_layMended at h
  refine ev_aload_n (pc' := 1) rfl rfl rfl ?_
  refine ev_iload_n (pc' := 2) rfl rfl rfl ?_
  refine ev_V2I (pc' := 5) rfl (by decide) rfl mth_168 ⟨Nat.le_of_ble_eq_true rfl, rfl⟩ ⟨Nat.le_refl _, Nat.le_refl _⟩ d_X7_isMany ?_
  refine ev_ifB_ne rfl (pc' := 8) rfl (fun hc => ?_) (fun hc => ?_)
  · have h := (if_pos hc).symm.trans h
    refine ev_aload_n (pc' := 11) rfl rfl rfl ?_
    refine ev_iload_n (pc' := 12) rfl rfl rfl ?_
    obtain ⟨q1, hq1, h⟩ := Option.bind_eq_some_iff.mp h
    refine ev_V2V (pc' := 15) rfl (by decide) rfl mth_173 ⟨Nat.le_of_ble_eq_true rfl, rfl⟩ ⟨Nat.le_refl _, Nat.le_refl _⟩ (d_X7_mends hq1) ?_
    refine ev_aload_n (pc' := 16) rfl rfl rfl ?_
    refine ev_getQ (pc' := 19) rfl rfl rfl ?_
    refine ev_bipush (pc' := 21) rfl rfl (v := (66 : Int32)) (by decide) ?_
    refine ev_dup2 (pc' := 22) rfl rfl rfl rfl ?_
    refine ev_lald (pc' := 23) rfl rfl rfl (inR_vp (by decide)) ?_
    refine ev_aload_n (pc' := 24) rfl rfl rfl ?_
    refine ev_iload_n (pc' := 25) rfl rfl rfl ?_
    refine ev_aload_n (pc' := 26) rfl rfl rfl ?_
    refine ev_getI (pc' := 29) rfl rfl ?_
    obtain ⟨q2, hq2, h⟩ := Option.bind_eq_some_iff.mp h
    refine ev_V3I (pc' := 32) rfl (by decide) rfl mth_172 ⟨Nat.le_of_ble_eq_true rfl, rfl⟩ ⟨Nat.le_refl _, Nat.le_refl _⟩ (d_X7_tries hq2) ?_
    refine ev_i2l (pc' := 33) rfl rfl ?_
    refine ev_ladd (pc' := 34) rfl rfl ?_
    refine ev_last (pc' := 35) rfl rfl rfl (inR_vp (by decide)) ?_
    refine ev_aload_n (pc' := 36) rfl rfl rfl ?_
    refine ev_getI (pc' := 39) rfl rfl ?_
    obtain rfl := Option.some.inj h
    exact ev_ireturn rfl ⟨⟨_, rfl, rfl⟩, rfl, rfl, hΨ⟩
  · have h := (if_neg hc).symm.trans h
    refine ev_iconst (pc' := 9) rfl rfl (v := (-1 : Int32)) (by decide) ?_
    obtain rfl := Option.some.inj h
    exact ev_ireturn rfl ⟨⟨_, rfl, rfl⟩, rfl, rfl, hΨ⟩
