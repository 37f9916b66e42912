def s_X6_bunker_64 (i0 : Nat) (p1 : Int32) (p2 : Int32) (g : Nat → Nat → Nat → Int32) (w : Nat → Nat → Nat → Int64) : Option (Int32 × GS) :=
  some (((-2 : Int32), g, w))
set_option maxRecDepth 20000 in
set_option maxHeartbeats 2000000 in
theorem e_X6_bunker_64 {d : Nat} {Ψ : Option AV → DS → Prop} {i0 : Nat} {p1 : Int32} {p2 : Int32} {r : Int32 × GS} {g : Nat → Nat → Nat → Int32} {w : Nat → Nat → Nat → Int64} {x0 : Option AV} {x1 : Option AV} {x2 : Option AV} {x3 : Option AV} {x4 : Option AV} {x5 : Option AV} (hΨ : Ψ (some (aI r.1)) (L0, r.2.1, r.2.2, q0)) (h : s_X6_bunker_64 i0 p1 p2 g w = some r) : Ev (EvM mth (d + 2)) mth c00 sc0 (retP (some .int) c00 Ψ) (lkp es_82) 64 [x0, x1, x2, x3, x4, x5] [] (L0, g, w, q0) := by
  unfold s_X6_bunker_64 at h
  refine ev_bipush (pc' := 66) rfl rfl (v := (-2 : Int32)) (by decide) ?_
  obtain rfl := Option.some.inj h
  exact ev_ireturn rfl ⟨⟨_, rfl, rfl⟩, rfl, rfl, hΨ⟩
def s_X6_bunker_15 (i0 : Nat) (p1 : Int32) (p2 : Int32) (g : Nat → Nat → Nat → Int32) (w : Nat → Nat → Nat → Int64) : Option (Int32 × GS) :=
  some (((-1 : Int32), g, w))
set_option maxRecDepth 20000 in
set_option maxHeartbeats 2000000 in
theorem e_X6_bunker_15 {d : Nat} {Ψ : Option AV → DS → Prop} {i0 : Nat} {p1 : Int32} {p2 : Int32} {r : Int32 × GS} {g : Nat → Nat → Nat → Int32} {w : Nat → Nat → Nat → Int64} {x0 : Option AV} {x1 : Option AV} {x2 : Option AV} {x3 : Option AV} {x4 : Option AV} {x5 : Option AV} (hΨ : Ψ (some (aI r.1)) (L0, r.2.1, r.2.2, q0)) (h : s_X6_bunker_15 i0 p1 p2 g w = some r) : Ev (EvM mth (d + 2)) mth c00 sc0 (retP (some .int) c00 Ψ) (lkp es_82) 15 [x0, x1, x2, x3, x4, x5] [] (L0, g, w, q0) := by
  unfold s_X6_bunker_15 at h
  refine ev_iconst (pc' := 16) rfl rfl (v := (-1 : Int32)) (by decide) ?_
  obtain rfl := Option.some.inj h
  exact ev_ireturn rfl ⟨⟨_, rfl, rfl⟩, rfl, rfl, hΨ⟩
def s_X6_bunker (i0 : Nat) (p1 : Int32) (p2 : Int32) (g : Nat → Nat → Nat → Int32) (w : Nat → Nat → Nat → Int64) : Option (Int32 × GS) :=
  if (s_X6_isTug i0 p1 g w) = true then
    if (s_X6_isHour p2 g w) = true then
      if inR p1 6 = true then
        if (s_X5_isFree (6 * 0 + p1.toNatClampNeg) ((1 : Int64) <<< (p2.toInt64 &&& 63)) g w) = true then
          if (s_X5_isBroken (6 * 0 + p1.toNatClampNeg) p2 g w) = true then
            s_X6_bunker_64 i0 p1 p2 g w
          else
            if (lg_cmp ((w 1 0 8) &&& ((1 : Int64) <<< (p2.toInt64 &&& 63))) (0 : Int64)) = 0 then
              (s_X5_fuelBehind (6 * 0 + p1.toNatClampNeg) (47 : Int32) g (wL w 5 (6 * 0 + p1.toNatClampNeg) 9 ((w 5 (6 * 0 + p1.toNatClampNeg) 9) ||| ((1 : Int64) <<< (p2.toInt64 &&& 63))))).bind fun q1 =>
              some ((q1, g, (wL w 5 (6 * 0 + p1.toNatClampNeg) 9 ((w 5 (6 * 0 + p1.toNatClampNeg) 9) ||| ((1 : Int64) <<< (p2.toInt64 &&& 63))))))
            else
              s_X6_bunker_64 i0 p1 p2 g w
        else
          s_X6_bunker_64 i0 p1 p2 g w
      else none
    else
      s_X6_bunker_15 i0 p1 p2 g w
  else
    s_X6_bunker_15 i0 p1 p2 g w
set_option maxRecDepth 20000 in
set_option maxHeartbeats 2000000 in
theorem d_X6_bunker {d : Nat} {i0 : Nat} {p1 : Int32} {p2 : Int32} {g : Nat → Nat → Nat → Int32} {w : Nat → Nat → Nat → Int64} {r : Int32 × GS} (h : s_X6_bunker i0 p1 p2 g w = some r) : Does (EvM mth (d + 3)) 82 [aR 6 i0, aI p1, aI p2] (L0, g, w, q0) (some (aI r.1)) (L0, r.2.1, r.2.2, q0) := by
  intro Ψ hΨ
  refine ⟨in_82, mth_82, Nat.le_of_ble_eq_true rfl, ?_⟩
  show Ev (EvM mth (d + 2)) mth c00 sc0 (retP (some .int) c00 Ψ) (lkp es_82) 0 [some (aR 6 i0), some (aI p1), some (aI p2), none, none, none] [] (L0, g, w, q0)
  unfold s_X6_bunker at h
  refine ev_aload_n (pc' := 1) rfl rfl rfl ?_
  refine ev_iload_n (pc' := 2) rfl rfl rfl ?_
  refine ev_V2I (pc' := 5) rfl (by decide) rfl mth_108 ⟨Nat.le_of_ble_eq_true rfl, rfl⟩ ⟨Nat.le_refl _, Nat.le_refl _⟩ d_X6_isTug ?_
  refine ev_ifB_eq rfl (pc' := 8) rfl (fun hc => ?_) (fun hc => ?_)
  · have h := (if_neg hc).symm.trans h
    exact e_X6_bunker_15 hΨ h
  · have h := (if_pos hc).symm.trans h
    refine ev_iload_n (pc' := 9) rfl rfl rfl ?_
    refine ev_S1I (pc' := 12) rfl (by decide) rfl mth_106 ⟨Nat.le_of_ble_eq_true rfl, rfl⟩ ⟨Nat.le_refl _, Nat.le_refl _⟩ d_X6_isHour ?_
    refine ev_ifB_ne rfl (pc' := 15) rfl (fun hc => ?_) (fun hc => ?_)
    · have h := (if_pos hc).symm.trans h
      refine ev_aload_n (pc' := 18) rfl rfl rfl ?_
      refine ev_getQ (pc' := 21) rfl rfl rfl ?_
      refine ev_getQ (pc' := 24) rfl rfl rfl ?_
      refine ev_iload_n (pc' := 25) rfl rfl rfl ?_
      obtain ⟨hi, h⟩ := gdB h
      refine ev_aald (pc' := 26) rfl rfl (by decide) rfl (inR_vp hi) rfl ?_
      refine ev_astore_n (pc' := 27) rfl rfl (l' := [some (aR 6 i0), some (aI p1), some (aI p2), some (aR 5 (6 * 0 + p1.toNatClampNeg)), none, none]) rfl ?_
      refine ev_lconst (pc' := 28) rfl rfl (v := (1 : Int64)) (by decide) ?_
      refine ev_iload_n (pc' := 29) rfl rfl rfl ?_
      refine ev_lshl (pc' := 30) rfl rfl ?_
      refine ev_lstore (pc' := 32) rfl rfl (l' := [some (aR 6 i0), some (aI p1), some (aI p2), some (aR 5 (6 * 0 + p1.toNatClampNeg)), some (aL ((1 : Int64) <<< (p2.toInt64 &&& 63))), none]) rfl ?_
      refine ev_aload_n (pc' := 33) rfl rfl rfl ?_
      refine ev_lload (pc' := 35) rfl rfl rfl ?_
      refine ev_V2I (pc' := 38) rfl (by decide) rfl mth_68 ⟨Nat.le_of_ble_eq_true rfl, rfl⟩ ⟨Nat.le_refl _, Nat.le_refl _⟩ d_X5_isFree ?_
      refine ev_ifB_eq rfl (pc' := 41) rfl (fun hc => ?_) (fun hc => ?_)
      · have h := (if_neg hc).symm.trans h
        exact e_X6_bunker_64 hΨ h
      · have h := (if_pos hc).symm.trans h
        refine ev_aload_n (pc' := 42) rfl rfl rfl ?_
        refine ev_iload_n (pc' := 43) rfl rfl rfl ?_
        refine ev_V2I (pc' := 46) rfl (by decide) rfl mth_66 ⟨Nat.le_of_ble_eq_true rfl, rfl⟩ ⟨Nat.le_refl _, Nat.le_refl _⟩ d_X5_isBroken ?_
        refine ev_ifB_ne rfl (pc' := 49) rfl (fun hc => ?_) (fun hc => ?_)
        · have h := (if_pos hc).symm.trans h
          exact e_X6_bunker_64 hΨ h
        · have h := (if_neg hc).symm.trans h
          refine ev_aload_n (pc' := 50) rfl rfl rfl ?_
          refine ev_getQ (pc' := 53) rfl rfl rfl ?_
          refine ev_getL (pc' := 56) rfl rfl ?_
          refine ev_lload (pc' := 58) rfl rfl rfl ?_
          refine ev_land (pc' := 59) rfl rfl ?_
          refine ev_lconst (pc' := 60) rfl rfl (v := (0 : Int64)) (by decide) ?_
          refine ev_lcmp (pc' := 61) rfl rfl ?_
          refine ev_if_eq rfl (pc' := 64) rfl (fun hc => ?_) (fun hc => ?_)
          · have h := (if_pos hc).symm.trans h
            refine ev_aload_n (pc' := 68) rfl rfl rfl ?_
            refine ev_dup (pc' := 69) rfl rfl rfl ?_
            refine ev_getL (pc' := 72) rfl rfl ?_
            refine ev_lload (pc' := 74) rfl rfl rfl ?_
            refine ev_lor (pc' := 75) rfl rfl ?_
            refine ev_putL (pc' := 78) rfl rfl ?_
            refine ev_aload_n (pc' := 79) rfl rfl rfl ?_
            refine ev_bipush (pc' := 81) rfl rfl (v := (47 : Int32)) (by decide) ?_
            obtain ⟨q1, hq1, h⟩ := Option.bind_eq_some_iff.mp h
            refine ev_V2I (pc' := 84) rfl (by decide) rfl mth_69 ⟨Nat.le_of_ble_eq_true rfl, rfl⟩ ⟨Nat.le_refl _, Nat.le_refl _⟩ (d_X5_fuelBehind hq1) ?_
            obtain rfl := Option.some.inj h
            exact ev_ireturn rfl ⟨⟨_, rfl, rfl⟩, rfl, rfl, hΨ⟩
          · have h := (if_neg hc).symm.trans h
            exact e_X6_bunker_64 hΨ h
    · have h := (if_neg hc).symm.trans h
      exact e_X6_bunker_15 hΨ h
def s_X6_fuel_18 (i0 : Nat) (p1 : Int32) (p2 : Int32) (g : Nat → Nat → Nat → Int32) (w : Nat → Nat → Nat → Int64) : Option (Int32) :=
  some ((-1 : Int32))
set_option maxRecDepth 20000 in
set_option maxHeartbeats 2000000 in
theorem e_X6_fuel_18 {d : Nat} {Ψ : Option AV → DS → Prop} {i0 : Nat} {p1 : Int32} {p2 : Int32} {r : Int32} {g : Nat → Nat → Nat → Int32} {w : Nat → Nat → Nat → Int64} {x0 : Option AV} {x1 : Option AV} {x2 : Option AV} (hΨ : Ψ (some (aI r)) (L0, g, w, q0)) (h : s_X6_fuel_18 i0 p1 p2 g w = some r) : Ev (EvM mth (d + 2)) mth c00 sc0 (retP (some .int) c00 Ψ) (lkp es_83) 18 [x0, x1, x2] [] (L0, g, w, q0) := by
  unfold s_X6_fuel_18 at h
  refine ev_iconst (pc' := 19) rfl rfl (v := (-1 : Int32)) (by decide) ?_
  obtain rfl := Option.some.inj h
  exact ev_ireturn rfl ⟨⟨_, rfl, rfl⟩, rfl, rfl, hΨ⟩
def s_X6_fuel (i0 : Nat) (p1 : Int32) (p2 : Int32) (g : Nat → Nat → Nat → Int32) (w : Nat → Nat → Nat → Int64) : Option (Int32) :=
  if (s_X6_isTug i0 p1 g w) = true then
    if (s_X6_within p2 (-1 : Int32) (47 : Int32) g w) = true then
      if inR p1 6 = true then
        (s_X5_fuelBehind (6 * 0 + p1.toNatClampNeg) p2 g w).bind fun q1 =>
        some (q1)
      else none
    else
      s_X6_fuel_18 i0 p1 p2 g w
  else
    s_X6_fuel_18 i0 p1 p2 g w
set_option maxRecDepth 20000 in
set_option maxHeartbeats 2000000 in
theorem d_X6_fuel {d : Nat} {i0 : Nat} {p1 : Int32} {p2 : Int32} {g : Nat → Nat → Nat → Int32} {w : Nat → Nat → Nat → Int64} {r : Int32} (h : s_X6_fuel i0 p1 p2 g w = some r) : Does (EvM mth (d + 3)) 83 [aR 6 i0, aI p1, aI p2] (L0, g, w, q0) (some (aI r)) (L0, g, w, q0) := by
  intro Ψ hΨ
  refine ⟨in_83, mth_83, Nat.le_of_ble_eq_true rfl, ?_⟩
  show Ev (EvM mth (d + 2)) mth c00 sc0 (retP (some .int) c00 Ψ) (lkp es_83) 0 [some (aR 6 i0), some (aI p1), some (aI p2)] [] (L0, g, w, q0)
  unfold s_X6_fuel at h
  refine ev_aload_n (pc' := 1) rfl rfl rfl ?_
  refine ev_iload_n (pc' := 2) rfl rfl rfl ?_
  refine ev_V2I (pc' := 5) rfl (by decide) rfl mth_108 ⟨Nat.le_of_ble_eq_true rfl, rfl⟩ ⟨Nat.le_refl _, Nat.le_refl _⟩ d_X6_isTug ?_
  refine ev_ifB_eq rfl (pc' := 8) rfl (fun hc => ?_) (fun hc => ?_)
  · have h := (if_neg hc).symm.trans h
    exact e_X6_fuel_18 hΨ h
  · have h := (if_pos hc).symm.trans h
    refine ev_iload_n (pc' := 9) rfl rfl rfl ?_
    refine ev_iconst (pc' := 10) rfl rfl (v := (-1 : Int32)) (by decide) ?_
    refine ev_bipush (pc' := 12) rfl rfl (v := (47 : Int32)) (by decide) ?_
    refine ev_S3I (pc' := 15) rfl (by decide) rfl mth_105 ⟨Nat.le_of_ble_eq_true rfl, rfl⟩ ⟨Nat.le_refl _, Nat.le_refl _⟩ d_X6_within ?_
    refine ev_ifB_ne rfl (pc' := 18) rfl (fun hc => ?_) (fun hc => ?_)
    · have h := (if_pos hc).symm.trans h
      refine ev_aload_n (pc' := 21) rfl rfl rfl ?_
      refine ev_getQ (pc' := 24) rfl rfl rfl ?_
      refine ev_getQ (pc' := 27) rfl rfl rfl ?_
      refine ev_iload_n (pc' := 28) rfl rfl rfl ?_
      obtain ⟨hi, h⟩ := gdB h
      refine ev_aald (pc' := 29) rfl rfl (by decide) rfl (inR_vp hi) rfl ?_
      refine ev_iload_n (pc' := 30) rfl rfl rfl ?_
      obtain ⟨q1, hq1, h⟩ := Option.bind_eq_some_iff.mp h
      refine ev_V2I (pc' := 33) rfl (by decide) rfl mth_69 ⟨Nat.le_of_ble_eq_true rfl, rfl⟩ ⟨Nat.le_refl _, Nat.le_refl _⟩ (d_X5_fuelBehind hq1) ?_
      obtain rfl := Option.some.inj h
      exact ev_ireturn rfl ⟨⟨_, rfl, rfl⟩, rfl, rfl, hΨ⟩
    · have h := (if_neg hc).symm.trans h
      exact e_X6_fuel_18 hΨ h
def s_X6_job_54 (i0 : Nat) (p1 : Int32) (p2 : Int32) (t0 : Int32) (g : Nat → Nat → Nat → Int32) (w : Nat → Nat → Nat → Int64) : Option (Int32) :=
  some (t0)
set_option maxRecDepth 20000 in
set_option maxHeartbeats 2000000 in
theorem e_X6_job_54 {d : Nat} {Ψ : Option AV → DS → Prop} {i0 : Nat} {p1 : Int32} {p2 : Int32} {r : Int32} {g : Nat → Nat → Nat → Int32} {w : Nat → Nat → Nat → Int64} {t0 : Int32} {x0 : Option AV} {x1 : Option AV} {x2 : Option AV} {x3 : Option AV} (hΨ : Ψ (some (aI r)) (L0, g, w, q0)) (h : s_X6_job_54 i0 p1 p2 t0 g w = some r) : Ev (EvM mth (d + 2)) mth c00 sc0 (retP (some .int) c00 Ψ) (lkp es_88) 54 [x0, x1, x2, x3] [aI t0] (L0, g, w, q0) := by
  unfold s_X6_job_54 at h
  obtain rfl := Option.some.inj h
  exact ev_ireturn rfl ⟨⟨_, rfl, rfl⟩, rfl, rfl, hΨ⟩
def s_X6_job_17 (i0 : Nat) (p1 : Int32) (p2 : Int32) (g : Nat → Nat → Nat → Int32) (w : Nat → Nat → Nat → Int64) : Option (Int32) :=
  some ((-1 : Int32))
set_option maxRecDepth 20000 in
set_option maxHeartbeats 2000000 in
theorem e_X6_job_17 {d : Nat} {Ψ : Option AV → DS → Prop} {i0 : Nat} {p1 : Int32} {p2 : Int32} {r : Int32} {g : Nat → Nat → Nat → Int32} {w : Nat → Nat → Nat → Int64} {x0 : Option AV} {x1 : Option AV} {x2 : Option AV} {x3 : Option AV} (hΨ : Ψ (some (aI r)) (L0, g, w, q0)) (h : s_X6_job_17 i0 p1 p2 g w = some r) : Ev (EvM mth (d + 2)) mth c00 sc0 (retP (some .int) c00 Ψ) (lkp es_88) 17 [x0, x1, x2, x3] [] (L0, g, w, q0) := by
  unfold s_X6_job_17 at h
  refine ev_iconst (pc' := 18) rfl rfl (v := (-1 : Int32)) (by decide) ?_
  obtain rfl := Option.some.inj h
  exact ev_ireturn rfl ⟨⟨_, rfl, rfl⟩, rfl, rfl, hΨ⟩
def s_X6_job (i0 : Nat) (p1 : Int32) (p2 : Int32) (g : Nat → Nat → Nat → Int32) (w : Nat → Nat → Nat → Int64) : Option (Int32) :=
  if (s_X6_isShip i0 p1 g w) = true then
    if (s_X6_within p2 (0 : Int32) (1 : Int32) g w) = true then
      if inR p1 8 = true then
        if (s_X4_hasJob (8 * 0 + p1.toNatClampNeg) g w) = true then
          if p2 ≠ 0 then
            s_X6_job_54 i0 p1 p2 (g 4 (8 * 0 + p1.toNatClampNeg) 8) g w
          else
            s_X6_job_54 i0 p1 p2 (g 4 (8 * 0 + p1.toNatClampNeg) 7) g w
        else
          some ((-4 : Int32))
      else none
    else
      s_X6_job_17 i0 p1 p2 g w
  else
    s_X6_job_17 i0 p1 p2 g w
set_option maxRecDepth 20000 in
set_option maxHeartbeats 2000000 in
theorem d_X6_job {d : Nat} {i0 : Nat} {p1 : Int32} {p2 : Int32} {g : Nat → Nat → Nat → Int32} {w : Nat → Nat → Nat → Int64} {r : Int32} (h : s_X6_job i0 p1 p2 g w = some r) : Does (EvM mth (d + 3)) 88 [aR 6 i0, aI p1, aI p2] (L0, g, w, q0) (some (aI r)) (L0, g, w, q0) := by
  intro Ψ hΨ
  refine ⟨in_88, mth_88, Nat.le_of_ble_eq_true rfl, ?_⟩
  show Ev (EvM mth (d + 2)) mth c00 sc0 (retP (some .int) c00 Ψ) (lkp es_88) 0 [some (aR 6 i0), some (aI p1), some (aI p2), none] [] (L0, g, w, q0)
  unfold s_X6_job at h
  refine ev_aload_n (pc' := 1) rfl rfl rfl ?_
  refine ev_iload_n (pc' := 2) rfl rfl rfl ?_
  refine ev_V2I (pc' := 5) rfl (by decide) rfl mth_109 ⟨Nat.le_of_ble_eq_true rfl, rfl⟩ ⟨Nat.le_refl _, Nat.le_refl _⟩ d_X6_isShip ?_
  refine ev_ifB_eq rfl (pc' := 8) rfl (fun hc => ?_) (fun hc => ?_)
  · have h := (if_neg hc).symm.trans h
    exact e_X6_job_17 hΨ h
  · have h := (if_pos hc).symm.trans h
    refine ev_iload_n (pc' := 9) rfl rfl rfl ?_
    refine ev_iconst (pc' := 10) rfl rfl (v := (0 : Int32)) (by decide) ?_
    refine ev_iconst (pc' := 11) rfl rfl (v := (1 : Int32)) (by decide) ?_
    refine ev_S3I (pc' := 14) rfl (by decide) rfl mth_105 ⟨Nat.le_of_ble_eq_true rfl, rfl⟩ ⟨Nat.le_refl _, Nat.le_refl _⟩ d_X6_within ?_
    refine ev_ifB_ne rfl (pc' := 17) rfl (fun hc => ?_) (fun hc => ?_)
    · have h := (if_pos hc).symm.trans h
      refine ev_aload_n (pc' := 20) rfl rfl rfl ?_
      refine ev_getQ (pc' := 23) rfl rfl rfl ?_
      refine ev_getQ (pc' := 26) rfl rfl rfl ?_
      refine ev_iload_n (pc' := 27) rfl rfl rfl ?_
      obtain ⟨hi, h⟩ := gdB h
      refine ev_aald (pc' := 28) rfl rfl (by decide) rfl (inR_vp hi) rfl ?_
      refine ev_astore_n (pc' := 29) rfl rfl (l' := [some (aR 6 i0), some (aI p1), some (aI p2), some (aR 4 (8 * 0 + p1.toNatClampNeg))]) rfl ?_
      refine ev_aload_n (pc' := 30) rfl rfl rfl ?_
      refine ev_V1I (pc' := 33) rfl (by decide) rfl mth_55 ⟨Nat.le_of_ble_eq_true rfl, rfl⟩ ⟨Nat.le_refl _, Nat.le_refl _⟩ d_X4_hasJob ?_
      refine ev_ifB_ne rfl (pc' := 36) rfl (fun hc => ?_) (fun hc => ?_)
      · have h := (if_pos hc).symm.trans h
        refine ev_iload_n (pc' := 40) rfl rfl rfl ?_
        refine ev_if_ne rfl (pc' := 43) rfl (fun hc => ?_) (fun hc => ?_)
        · have h := (if_pos hc).symm.trans h
          refine ev_aload_n (pc' := 51) rfl rfl rfl ?_
          refine ev_getI (pc' := 54) rfl rfl ?_
          exact e_X6_job_54 hΨ h
        · have h := (if_neg hc).symm.trans h
          refine ev_aload_n (pc' := 44) rfl rfl rfl ?_
          refine ev_getI (pc' := 47) rfl rfl ?_
          refine ev_goto (pc' := 54) rfl ?_
          exact e_X6_job_54 hΨ h
      · have h := (if_neg hc).symm.trans h
        refine ev_bipush (pc' := 38) rfl rfl (v := (-4 : Int32)) (by decide) ?_
        obtain rfl := Option.some.inj h
        exact ev_ireturn rfl ⟨⟨_, rfl, rfl⟩, rfl, rfl, hΨ⟩
    · have h := (if_neg hc).symm.trans h
      exact e_X6_job_17 hΨ h
def s_X6_mend_30 (i0 : Nat) (p1 : Int32) (t0 : Bool) (g : Nat → Nat → Nat → Int32) (w : Nat → Nat → Nat → Int64) : Option (Int32 × GS) :=
  some (((bI t0), g, w))
set_option maxRecDepth 20000 in
set_option maxHeartbeats 2000000 in
theorem e_X6_mend_30 {d : Nat} {Ψ : Option AV → DS → Prop} {i0 : Nat} {p1 : Int32} {r : Int32 × GS} {g : Nat → Nat → Nat → Int32} {w : Nat → Nat → Nat → Int64} {t0 : Bool} {x0 : Option AV} {x1 : Option AV} (hΨ : Ψ (some (aI r.1)) (L0, r.2.1, r.2.2, q0)) (h : s_X6_mend_30 i0 p1 t0 g w = some r) : Ev (EvM mth (d + 2)) mth c00 sc0 (retP (some .int) c00 Ψ) (lkp es_94) 30 [x0, x1] [aI (bI t0)] (L0, g, w, q0) := by
  unfold s_X6_mend_30 at h
  obtain rfl := Option.some.inj h
  exact ev_ireturn rfl ⟨⟨_, rfl, rfl⟩, rfl, rfl, hΨ⟩
def s_X6_mend (i0 : Nat) (p1 : Int32) (g : Nat → Nat → Nat → Int32) (w : Nat → Nat → Nat → Int64) : Option (Int32 × GS) :=
  if (s_X6_isTug i0 p1 g w) = true then
    if inR p1 6 = true then
      if (s_X5_makeWhole (6 * 0 + p1.toNatClampNeg) g w).1 = true then
        s_X6_mend_30 i0 p1 true (s_X5_makeWhole (6 * 0 + p1.toNatClampNeg) g w).2.1 (s_X5_makeWhole (6 * 0 + p1.toNatClampNeg) g w).2.2
      else
        s_X6_mend_30 i0 p1 false (s_X5_makeWhole (6 * 0 + p1.toNatClampNeg) g w).2.1 (s_X5_makeWhole (6 * 0 + p1.toNatClampNeg) g w).2.2
    else none
  else
    some (((-1 : Int32), g, w))
set_option maxRecDepth 20000 in
set_option maxHeartbeats 2000000 in
theorem d_X6_mend {d : Nat} {i0 : Nat} {p1 : Int32} {g : Nat → Nat → Nat → Int32} {w : Nat → Nat → Nat → Int64} {r : Int32 × GS} (h : s_X6_mend i0 p1 g w = some r) : Does (EvM mth (d + 3)) 94 [aR 6 i0, aI p1] (L0, g, w, q0) (some (aI r.1)) (L0, r.2.1, r.2.2, q0) := by
  intro Ψ hΨ
  refine ⟨in_94, mth_94, Nat.le_of_ble_eq_true rfl, ?_⟩
  show Ev (EvM mth (d + 2)) mth c00 sc0 (retP (some .int) c00 Ψ) (lkp es_94) 0 [some (aR 6 i0), some (aI p1)] [] (L0, g, w, q0)
  unfold s_X6_mend at h
  refine ev_aload_n (pc' := 1) rfl rfl rfl ?_
  refine ev_iload_n (pc' := 2) rfl rfl rfl ?_
  refine ev_V2I (pc' := 5) rfl (by decide) rfl mth_108 ⟨Nat.le_of_ble_eq_true rfl, rfl⟩ ⟨Nat.le_refl _, Nat.le_refl _⟩ d_X6_isTug ?_
  refine ev_ifB_ne rfl (pc' := 8) rfl (fun hc => ?_) (fun hc => ?_)
  · have h := (if_pos hc).symm.trans h
    refine ev_aload_n (pc' := 11) rfl rfl rfl ?_
    refine ev_getQ (pc' := 14) rfl rfl rfl ?_
    refine ev_getQ (pc' := 17) rfl rfl rfl ?_
    refine ev_iload_n (pc' := 18) rfl rfl rfl ?_
    obtain ⟨hi, h⟩ := gdB h
    refine ev_aald (pc' := 19) rfl rfl (by decide) rfl (inR_vp hi) rfl ?_
    refine ev_V1I (pc' := 22) rfl (by decide) rfl mth_67 ⟨Nat.le_of_ble_eq_true rfl, rfl⟩ ⟨Nat.le_refl _, Nat.le_refl _⟩ d_X5_makeWhole ?_
    refine ev_ifB_eq rfl (pc' := 25) rfl (fun hc => ?_) (fun hc => ?_)
    · have h := (if_neg hc).symm.trans h
      refine ev_iconst (pc' := 30) rfl rfl (v := (0 : Int32)) (by decide) ?_
      exact e_X6_mend_30 hΨ h
    · have h := (if_pos hc).symm.trans h
      refine ev_iconst (pc' := 26) rfl rfl (v := (1 : Int32)) (by decide) ?_
      refine ev_goto (pc' := 30) rfl ?_
      exact e_X6_mend_30 hΨ h
  · have h := (if_neg hc).symm.trans h
    refine ev_iconst (pc' := 9) rfl rfl (v := (-1 : Int32)) (by decide) ?_
    obtain rfl := Option.some.inj h
    exact ev_ireturn rfl ⟨⟨_, rfl, rfl⟩, rfl, rfl, hΨ⟩
def s_X6_priceRule_94 (i0 : Nat) (p1 : Int32) (p2 : Int32) (p3 : Int32) (p4 : Int32) (t0 : Int32) (g : Nat → Nat → Nat → Int32) (w : Nat → Nat → Nat → Int64) : Option (Int32 × GS) :=
  some ((t0, g, w))
set_option maxRecDepth 20000 in
set_option maxHeartbeats 2000000 in
theorem e_X6_priceRule_94 {d : Nat} {Ψ : Option AV → DS → Prop} {i0 : Nat} {p1 : Int32} {p2 : Int32} {p3 : Int32} {p4 : Int32} {r : Int32 × GS} {g : Nat → Nat → Nat → Int32} {w : Nat → Nat → Nat → Int64} {t0 : Int32} {x0 : Option AV} {x1 : Option AV} {x2 : Option AV} {x3 : Option AV} {x4 : Option AV} (hΨ : Ψ (some (aI r.1)) (L0, r.2.1, r.2.2, q0)) (h : s_X6_priceRule_94 i0 p1 p2 p3 p4 t0 g w = some r) : Ev (EvM mth (d + 2)) mth c00 sc0 (retP (some .int) c00 Ψ) (lkp es_97) 94 [x0, x1, x2, x3, x4] [aI t0] (L0, g, w, q0) := by
  unfold s_X6_priceRule_94 at h
  obtain rfl := Option.some.inj h
  exact ev_ireturn rfl ⟨⟨_, rfl, rfl⟩, rfl, rfl, hΨ⟩
def s_X6_priceRule_67 (i0 : Nat) (p1 : Int32) (p2 : Int32) (p3 : Int32) (p4 : Int32) (g : Nat → Nat → Nat → Int32) (w : Nat → Nat → Nat → Int64) : Option (Int32 × GS) :=
  (s_X3_tell 0 p1 p2 p3 p4 g w).bind fun q1 =>
  if q1.1 = true then
    s_X6_priceRule_94 i0 p1 p2 p3 p4 (q1.2.1 3 0 4) q1.2.1 q1.2.2
  else
    s_X6_priceRule_94 i0 p1 p2 p3 p4 (-3 : Int32) q1.2.1 q1.2.2
set_option maxRecDepth 20000 in
set_option maxHeartbeats 2000000 in
theorem e_X6_priceRule_67 {d : Nat} {Ψ : Option AV → DS → Prop} {i0 : Nat} {p1 : Int32} {p2 : Int32} {p3 : Int32} {p4 : Int32} {r : Int32 × GS} {g : Nat → Nat → Nat → Int32} {w : Nat → Nat → Nat → Int64} (hΨ : Ψ (some (aI r.1)) (L0, r.2.1, r.2.2, q0)) (h : s_X6_priceRule_67 i0 p1 p2 p3 p4 g w = some r) : Ev (EvM mth (d + 2)) mth c00 sc0 (retP (some .int) c00 Ψ) (lkp es_97) 67 [some (aR 6 i0), some (aI p1), some (aI p2), some (aI p3), some (aI p4)] [] (L0, g, w, q0) := by
  unfold s_X6_priceRule_67 at h
  refine ev_aload_n (pc' := 68) rfl rfl rfl ?_
  refine ev_getQ (pc' := 71) rfl rfl rfl ?_
  refine ev_iload_n (pc' := 72) rfl rfl rfl ?_
  refine ev_iload_n (pc' := 73) rfl rfl rfl ?_
  refine ev_iload_n (pc' := 74) rfl rfl rfl ?_
  refine ev_iload (pc' := 76) rfl rfl rfl ?_
  obtain ⟨q1, hq1, h⟩ := Option.bind_eq_some_iff.mp h
  refine ev_V5I (pc' := 79) rfl (by decide) rfl mth_49 ⟨Nat.le_of_ble_eq_true rfl, rfl⟩ ⟨Nat.le_refl _, Nat.le_refl _⟩ (d_X3_tell hq1) ?_
  refine ev_ifB_eq rfl (pc' := 82) rfl (fun hc => ?_) (fun hc => ?_)
  · have h := (if_neg hc).symm.trans h
    refine ev_bipush (pc' := 94) rfl rfl (v := (-3 : Int32)) (by decide) ?_
    exact e_X6_priceRule_94 hΨ h
  · have h := (if_pos hc).symm.trans h
    refine ev_aload_n (pc' := 83) rfl rfl rfl ?_
    refine ev_getQ (pc' := 86) rfl rfl rfl ?_
    refine ev_getI (pc' := 89) rfl rfl ?_
    refine ev_goto (pc' := 94) rfl ?_
    exact e_X6_priceRule_94 hΨ h
def s_X6_priceRule_65 (i0 : Nat) (p1 : Int32) (p2 : Int32) (p3 : Int32) (p4 : Int32) (g : Nat → Nat → Nat → Int32) (w : Nat → Nat → Nat → Int64) : Option (Int32 × GS) :=
  some (((-1 : Int32), g, w))
set_option maxRecDepth 20000 in
set_option maxHeartbeats 2000000 in
theorem e_X6_priceRule_65 {d : Nat} {Ψ : Option AV → DS → Prop} {i0 : Nat} {p1 : Int32} {p2 : Int32} {p3 : Int32} {p4 : Int32} {r : Int32 × GS} {g : Nat → Nat → Nat → Int32} {w : Nat → Nat → Nat → Int64} {x0 : Option AV} {x1 : Option AV} {x2 : Option AV} {x3 : Option AV} {x4 : Option AV} (hΨ : Ψ (some (aI r.1)) (L0, r.2.1, r.2.2, q0)) (h : s_X6_priceRule_65 i0 p1 p2 p3 p4 g w = some r) : Ev (EvM mth (d + 2)) mth c00 sc0 (retP (some .int) c00 Ψ) (lkp es_97) 65 [x0, x1, x2, x3, x4] [] (L0, g, w, q0) := by
  unfold s_X6_priceRule_65 at h
  refine ev_iconst (pc' := 66) rfl rfl (v := (-1 : Int32)) (by decide) ?_
  obtain rfl := Option.some.inj h
  exact ev_ireturn rfl ⟨⟨_, rfl, rfl⟩, rfl, rfl, hΨ⟩
def s_X6_priceRule_30 (i0 : Nat) (p1 : Int32) (p2 : Int32) (p3 : Int32) (p4 : Int32) (g : Nat → Nat → Nat → Int32) (w : Nat → Nat → Nat → Int64) : Option (Int32 × GS) :=
  some (((-1 : Int32), g, w))
set_option maxRecDepth 20000 in
set_option maxHeartbeats 2000000 in
theorem e_X6_priceRule_30 {d : Nat} {Ψ : Option AV → DS → Prop} {i0 : Nat} {p1 : Int32} {p2 : Int32} {p3 : Int32} {p4 : Int32} {r : Int32 × GS} {g : Nat → Nat → Nat → Int32} {w : Nat → Nat → Nat → Int64} {x0 : Option AV} {x1 : Option AV} {x2 : Option AV} {x3 : Option AV} {x4 : Option AV} (hΨ : Ψ (some (aI r.1)) (L0, r.2.1, r.2.2, q0)) (h : s_X6_priceRule_30 i0 p1 p2 p3 p4 g w = some r) : Ev (EvM mth (d + 2)) mth c00 sc0 (retP (some .int) c00 Ψ) (lkp es_97) 30 [x0, x1, x2, x3, x4] [] (L0, g, w, q0) := by
  unfold s_X6_priceRule_30 at h
  refine ev_iconst (pc' := 31) rfl rfl (v := (-1 : Int32)) (by decide) ?_
  obtain rfl := Option.some.inj h
  exact ev_ireturn rfl ⟨⟨_, rfl, rfl⟩, rfl, rfl, hΨ⟩
def s_X6_priceRule (i0 : Nat) (p1 : Int32) (p2 : Int32) (p3 : Int32) (p4 : Int32) (g : Nat → Nat → Nat → Int32) (w : Nat → Nat → Nat → Int64) : Option (Int32 × GS) :=
  if (s_X6_within p1 (0 : Int32) (6 : Int32) g w) = true then
    if (s_X6_within p2 (0 : Int32) (400 : Int32) g w) = true then
      if (s_X6_within p3 (0 : Int32) (1 : Int32) g w) = true then
        if p3 ≠ 0 then
          if (s_X6_within p4 (-100 : Int32) (1000 : Int32) g w) = true then
            s_X6_priceRule_67 i0 p1 p2 p3 p4 g w
          else
            s_X6_priceRule_65 i0 p1 p2 p3 p4 g w
        else
          if (s_X6_within p4 (-1000 : Int32) (100000 : Int32) g w) = true then
            s_X6_priceRule_67 i0 p1 p2 p3 p4 g w
          else
            s_X6_priceRule_65 i0 p1 p2 p3 p4 g w
      else
        s_X6_priceRule_30 i0 p1 p2 p3 p4 g w
    else
      s_X6_priceRule_30 i0 p1 p2 p3 p4 g w
  else
    s_X6_priceRule_30 i0 p1 p2 p3 p4 g w
set_option maxRecDepth 20000 in
set_option maxHeartbeats 2000000 in
theorem d_X6_priceRule {d : Nat} {i0 : Nat} {p1 : Int32} {p2 : Int32} {p3 : Int32} {p4 : Int32} {g : Nat → Nat → Nat → Int32} {w : Nat → Nat → Nat → Int64} {r : Int32 × GS} (h : s_X6_priceRule i0 p1 p2 p3 p4 g w = some r) : Does (EvM mth (d + 3)) 97 [aR 6 i0, aI p1, aI p2, aI p3, aI p4] (L0, g, w, q0) (some (aI r.1)) (L0, r.2.1, r.2.2, q0) := by
  intro Ψ hΨ
  refine ⟨in_97, mth_97, Nat.le_of_ble_eq_true rfl, ?_⟩
  show Ev (EvM mth (d + 2)) mth c00 sc0 (retP (some .int) c00 Ψ) (lkp es_97) 0 [some (aR 6 i0), some (aI p1), some (aI p2), some (aI p3), some (aI p4)] [] (L0, g, w, q0)
  unfold s_X6_priceRule at h
  refine ev_iload_n (pc' := 1) rfl rfl rfl ?_
  refine ev_iconst (pc' := 2) rfl rfl (v := (0 : Int32)) (by decide) ?_
  refine ev_bipush (pc' := 4) rfl rfl (v := (6 : Int32)) (by decide) ?_
  refine ev_S3I (pc' := 7) rfl (by decide) rfl mth_105 ⟨Nat.le_of_ble_eq_true rfl, rfl⟩ ⟨Nat.le_refl _, Nat.le_refl _⟩ d_X6_within ?_
  refine ev_ifB_eq rfl (pc' := 10) rfl (fun hc => ?_) (fun hc => ?_)
  · have h := (if_neg hc).symm.trans h
    exact e_X6_priceRule_30 hΨ h
  · have h := (if_pos hc).symm.trans h
    refine ev_iload_n (pc' := 11) rfl rfl rfl ?_
    refine ev_iconst (pc' := 12) rfl rfl (v := (0 : Int32)) (by decide) ?_
    refine ev_sipush (pc' := 15) rfl rfl (v := (400 : Int32)) (by decide) ?_
    refine ev_S3I (pc' := 18) rfl (by decide) rfl mth_105 ⟨Nat.le_of_ble_eq_true rfl, rfl⟩ ⟨Nat.le_refl _, Nat.le_refl _⟩ d_X6_within ?_
    refine ev_ifB_eq rfl (pc' := 21) rfl (fun hc => ?_) (fun hc => ?_)
    · have h := (if_neg hc).symm.trans h
      exact e_X6_priceRule_30 hΨ h
    · have h := (if_pos hc).symm.trans h
      refine ev_iload_n (pc' := 22) rfl rfl rfl ?_
      refine ev_iconst (pc' := 23) rfl rfl (v := (0 : Int32)) (by decide) ?_
      refine ev_iconst (pc' := 24) rfl rfl (v := (1 : Int32)) (by decide) ?_
      refine ev_S3I (pc' := 27) rfl (by decide) rfl mth_105 ⟨Nat.le_of_ble_eq_true rfl, rfl⟩ ⟨Nat.le_refl _, Nat.le_refl _⟩ d_X6_within ?_
      refine ev_ifB_ne rfl (pc' := 30) rfl (fun hc => ?_) (fun hc => ?_)
      · have h := (if_pos hc).symm.trans h
        refine ev_iload_n (pc' := 33) rfl rfl rfl ?_
        refine ev_if_ne rfl (pc' := 36) rfl (fun hc => ?_) (fun hc => ?_)
        · have h := (if_pos hc).symm.trans h
          refine ev_iload (pc' := 54) rfl rfl rfl ?_
          refine ev_bipush (pc' := 56) rfl rfl (v := (-100 : Int32)) (by decide) ?_
          refine ev_sipush (pc' := 59) rfl rfl (v := (1000 : Int32)) (by decide) ?_
          refine ev_S3I (pc' := 62) rfl (by decide) rfl mth_105 ⟨Nat.le_of_ble_eq_true rfl, rfl⟩ ⟨Nat.le_refl _, Nat.le_refl _⟩ d_X6_within ?_
          refine ev_ifB_ne rfl (pc' := 65) rfl (fun hc => ?_) (fun hc => ?_)
          · have h := (if_pos hc).symm.trans h
            exact e_X6_priceRule_67 hΨ h
          · have h := (if_neg hc).symm.trans h
            exact e_X6_priceRule_65 hΨ h
        · have h := (if_neg hc).symm.trans h
          refine ev_iload (pc' := 38) rfl rfl rfl ?_
          refine ev_sipush (pc' := 41) rfl rfl (v := (-1000 : Int32)) (by decide) ?_
          refine ev_ldc (pc' := 43) rfl rfl (v := (100000 : Int32)) (by decide) ?_
          refine ev_S3I (pc' := 46) rfl (by decide) rfl mth_105 ⟨Nat.le_of_ble_eq_true rfl, rfl⟩ ⟨Nat.le_refl _, Nat.le_refl _⟩ d_X6_within ?_
          refine ev_ifB_ne rfl (pc' := 49) rfl (fun hc => ?_) (fun hc => ?_)
          · have h := (if_pos hc).symm.trans h
            exact e_X6_priceRule_67 hΨ h
          · have h := (if_neg hc).symm.trans h
            refine ev_goto (pc' := 65) rfl ?_
            exact e_X6_priceRule_65 hΨ h
      · have h := (if_neg hc).symm.trans h
        exact e_X6_priceRule_30 hΨ h
def s_X6_pool_77 (i0 : Nat) (p1 : Int32) (p2 : Int32) (t0 : Int32) (g : Nat → Nat → Nat → Int32) (w : Nat → Nat → Nat → Int64) : Option (Int32) :=
  some (t0)
set_option maxRecDepth 20000 in
set_option maxHeartbeats 2000000 in
theorem e_X6_pool_77 {d : Nat} {Ψ : Option AV → DS → Prop} {i0 : Nat} {p1 : Int32} {p2 : Int32} {r : Int32} {g : Nat → Nat → Nat → Int32} {w : Nat → Nat → Nat → Int64} {t0 : Int32} {x0 : Option AV} {x1 : Option AV} {x2 : Option AV} {x3 : Option AV} {x4 : Option AV} {x5 : Option AV} {x6 : Option AV} {x7 : Option AV} (hΨ : Ψ (some (aI r)) (L0, g, w, q0)) (h : s_X6_pool_77 i0 p1 p2 t0 g w = some r) : Ev (EvM mth (d + 2)) mth c00 sc0 (retP (some .int) c00 Ψ) (lkp es_99) 77 [x0, x1, x2, x3, x4, x5, x6, x7] [aI t0] (L0, g, w, q0) := by
  unfold s_X6_pool_77 at h
  obtain rfl := Option.some.inj h
  exact ev_ireturn rfl ⟨⟨_, rfl, rfl⟩, rfl, rfl, hΨ⟩
def s_X6_pool_61 (i0 : Nat) (p1 : Int32) (p2 : Int32) (t0 : Int32) (g : Nat → Nat → Nat → Int32) (w : Nat → Nat → Nat → Int64) : Option (Int32) :=
  if p1 ≠ (1 : Int32) then
    s_X6_pool_77 i0 p1 p2 (p2 - t0) g w
  else
    s_X6_pool_77 i0 p1 p2 t0 g w
set_option maxRecDepth 20000 in
set_option maxHeartbeats 2000000 in
theorem e_X6_pool_61 {d : Nat} {Ψ : Option AV → DS → Prop} {i0 : Nat} {p1 : Int32} {p2 : Int32} {r : Int32} {g : Nat → Nat → Nat → Int32} {w : Nat → Nat → Nat → Int64} {t0 : Int32} {x0 : Option AV} {x3 : Option AV} {x4 : Option AV} {x5 : Option AV} {x6 : Option AV} {x7 : Option AV} (hΨ : Ψ (some (aI r)) (L0, g, w, q0)) (h : s_X6_pool_61 i0 p1 p2 t0 g w = some r) : Ev (EvM mth (d + 2)) mth c00 sc0 (retP (some .int) c00 Ψ) (lkp es_99) 61 [x0, some (aI p1), some (aI p2), x3, x4, x5, x6, x7] [aI t0] (L0, g, w, q0) := by
  unfold s_X6_pool_61 at h
  refine ev_istore (pc' := 63) rfl rfl (l' := [x0, some (aI p1), some (aI p2), x3, x4, x5, (klO x6), some (aI t0)]) rfl ?_
  refine ev_iload_n (pc' := 64) rfl rfl rfl ?_
  refine ev_iconst (pc' := 65) rfl rfl (v := (1 : Int32)) (by decide) ?_
  refine ev_icmp_ne rfl (pc' := 68) rfl (fun hc => ?_) (fun hc => ?_)
  · have h := (if_pos hc).symm.trans h
    refine ev_iload_n (pc' := 74) rfl rfl rfl ?_
    refine ev_iload (pc' := 76) rfl rfl rfl ?_
    refine ev_isub (pc' := 77) rfl rfl ?_
    exact e_X6_pool_77 hΨ h
  · have h := (if_neg hc).symm.trans h
    refine ev_iload (pc' := 70) rfl rfl rfl ?_
    refine ev_goto (pc' := 77) rfl ?_
    exact e_X6_pool_77 hΨ h
def s_X6_pool_19 (i0 : Nat) (p1 : Int32) (p2 : Int32) (g : Nat → Nat → Nat → Int32) (w : Nat → Nat → Nat → Int64) : Option (Int32) :=
  some ((-1 : Int32))
set_option maxRecDepth 20000 in
set_option maxHeartbeats 2000000 in
theorem e_X6_pool_19 {d : Nat} {Ψ : Option AV → DS → Prop} {i0 : Nat} {p1 : Int32} {p2 : Int32} {r : Int32} {g : Nat → Nat → Nat → Int32} {w : Nat → Nat → Nat → Int64} {x0 : Option AV} {x1 : Option AV} {x2 : Option AV} {x3 : Option AV} {x4 : Option AV} {x5 : Option AV} {x6 : Option AV} {x7 : Option AV} (hΨ : Ψ (some (aI r)) (L0, g, w, q0)) (h : s_X6_pool_19 i0 p1 p2 g w = some r) : Ev (EvM mth (d + 2)) mth c00 sc0 (retP (some .int) c00 Ψ) (lkp es_99) 19 [x0, x1, x2, x3, x4, x5, x6, x7] [] (L0, g, w, q0) := by
  unfold s_X6_pool_19 at h
  refine ev_iconst (pc' := 20) rfl rfl (v := (-1 : Int32)) (by decide) ?_
  obtain rfl := Option.some.inj h
  exact ev_ireturn rfl ⟨⟨_, rfl, rfl⟩, rfl, rfl, hΨ⟩
def s_X6_pool (i0 : Nat) (p1 : Int32) (p2 : Int32) (g : Nat → Nat → Nat → Int32) (w : Nat → Nat → Nat → Int64) : Option (Int32) :=
  if (s_X6_within p1 (0 : Int32) (1 : Int32) g w) = true then
    if (s_X6_within p2 (0 : Int32) (1000000 : Int32) g w) = true then
      (s_X1_pullHours 0 (1 : Int32) g w).bind fun q1 =>
      (s_X1_pullHours 0 (0 : Int32) g w).bind fun q2 =>
      if 0 < (lg_cmp (q2 + q1) (0 : Int64)) then
        if nzL (q2 + q1) = true then
          s_X6_pool_61 i0 p1 p2 ((p2.toInt64 * q1) / (q2 + q1)).toInt32 g w
        else none
      else
        s_X6_pool_61 i0 p1 p2 (0 : Int32) g w
    else
      s_X6_pool_19 i0 p1 p2 g w
  else
    s_X6_pool_19 i0 p1 p2 g w
set_option maxRecDepth 20000 in
set_option maxHeartbeats 2000000 in
theorem d_X6_pool {d : Nat} {i0 : Nat} {p1 : Int32} {p2 : Int32} {g : Nat → Nat → Nat → Int32} {w : Nat → Nat → Nat → Int64} {r : Int32} (h : s_X6_pool i0 p1 p2 g w = some r) : Does (EvM mth (d + 3)) 99 [aR 6 i0, aI p1, aI p2] (L0, g, w, q0) (some (aI r)) (L0, g, w, q0) := by
  intro Ψ hΨ
  refine ⟨in_99, mth_99, Nat.le_of_ble_eq_true rfl, ?_⟩
  show Ev (EvM mth (d + 2)) mth c00 sc0 (retP (some .int) c00 Ψ) (lkp es_99) 0 [some (aR 6 i0), some (aI p1), some (aI p2), none, none, none, none, none] [] (L0, g, w, q0)
  unfold s_X6_pool at h
  refine ev_iload_n (pc' := 1) rfl rfl rfl ?_
  refine ev_iconst (pc' := 2) rfl rfl (v := (0 : Int32)) (by decide) ?_
  refine ev_iconst (pc' := 3) rfl rfl (v := (1 : Int32)) (by decide) ?_
  refine ev_S3I (pc' := 6) rfl (by decide) rfl mth_105 ⟨Nat.le_of_ble_eq_true rfl, rfl⟩ ⟨Nat.le_refl _, Nat.le_refl _⟩ d_X6_within ?_
  refine ev_ifB_eq rfl (pc' := 9) rfl (fun hc => ?_) (fun hc => ?_)
  · have h := (if_neg hc).symm.trans h
    exact e_X6_pool_19 hΨ h
  · have h := (if_pos hc).symm.trans h
    refine ev_iload_n (pc' := 10) rfl rfl rfl ?_
    refine ev_iconst (pc' := 11) rfl rfl (v := (0 : Int32)) (by decide) ?_
    refine ev_ldc (pc' := 13) rfl rfl (v := (1000000 : Int32)) (by decide) ?_
    refine ev_S3I (pc' := 16) rfl (by decide) rfl mth_105 ⟨Nat.le_of_ble_eq_true rfl, rfl⟩ ⟨Nat.le_refl _, Nat.le_refl _⟩ d_X6_within ?_
    refine ev_ifB_ne rfl (pc' := 19) rfl (fun hc => ?_) (fun hc => ?_)
    · have h := (if_pos hc).symm.trans h
      refine ev_aload_n (pc' := 22) rfl rfl rfl ?_
      refine ev_getQ (pc' := 25) rfl rfl rfl ?_
      refine ev_iconst (pc' := 26) rfl rfl (v := (1 : Int32)) (by decide) ?_
      obtain ⟨q1, hq1, h⟩ := Option.bind_eq_some_iff.mp h
      refine ev_V2L (pc' := 29) rfl (by decide) rfl mth_8 ⟨Nat.le_of_ble_eq_true rfl, rfl⟩ ⟨Nat.le_refl _, Nat.le_refl _⟩ (d_X1_pullHours hq1) ?_
      refine ev_lstore_n (pc' := 30) rfl rfl (l' := [some (aR 6 i0), some (aI p1), some (aI p2), some (aL q1), none, none, none, none]) rfl ?_
      refine ev_aload_n (pc' := 31) rfl rfl rfl ?_
      refine ev_getQ (pc' := 34) rfl rfl rfl ?_
      refine ev_iconst (pc' := 35) rfl rfl (v := (0 : Int32)) (by decide) ?_
      obtain ⟨q2, hq2, h⟩ := Option.bind_eq_some_iff.mp h
      refine ev_V2L (pc' := 38) rfl (by decide) rfl mth_8 ⟨Nat.le_of_ble_eq_true rfl, rfl⟩ ⟨Nat.le_refl _, Nat.le_refl _⟩ (d_X1_pullHours hq2) ?_
      refine ev_lload_n (pc' := 39) rfl rfl rfl ?_
      refine ev_ladd (pc' := 40) rfl rfl ?_
      refine ev_lstore (pc' := 42) rfl rfl (l' := [some (aR 6 i0), some (aI p1), some (aI p2), some (aL q1), none, some (aL (q2 + q1)), none, none]) rfl ?_
      refine ev_lload (pc' := 44) rfl rfl rfl ?_
      refine ev_lconst (pc' := 45) rfl rfl (v := (0 : Int64)) (by decide) ?_
      refine ev_lcmp (pc' := 46) rfl rfl ?_
      refine ev_if_gt rfl (pc' := 49) rfl (fun hc => ?_) (fun hc => ?_)
      · have h := (if_pos hc).symm.trans h
        refine ev_iload_n (pc' := 54) rfl rfl rfl ?_
        refine ev_i2l (pc' := 55) rfl rfl ?_
        refine ev_lload_n (pc' := 56) rfl rfl rfl ?_
        refine ev_lmul (pc' := 57) rfl rfl ?_
        refine ev_lload (pc' := 59) rfl rfl rfl ?_
        obtain ⟨hi, h⟩ := gdB h
        refine ev_ldiv (pc' := 60) rfl rfl (nzL_ne hi) ?_
        refine ev_l2i (pc' := 61) rfl rfl ?_
        exact e_X6_pool_61 hΨ h
      · have h := (if_neg hc).symm.trans h
        refine ev_iconst (pc' := 50) rfl rfl (v := (0 : Int32)) (by decide) ?_
        refine ev_goto (pc' := 61) rfl ?_
        exact e_X6_pool_61 hΨ h
    · have h := (if_neg hc).symm.trans h
      exact e_X6_pool_19 hΨ h
def s_X6_work_52 (i0 : Nat) (p1 : Int32) (p2 : Int32) (t0 : Int64) (g : Nat → Nat → Nat → Int32) (w : Nat → Nat → Nat → Int64) : Option (Int64) :=
  some (t0)
set_option maxRecDepth 20000 in
set_option maxHeartbeats 2000000 in
theorem e_X6_work_52 {d : Nat} {Ψ : Option AV → DS → Prop} {i0 : Nat} {p1 : Int32} {p2 : Int32} {r : Int64} {g : Nat → Nat → Nat → Int32} {w : Nat → Nat → Nat → Int64} {t0 : Int64} {x0 : Option AV} {x1 : Option AV} {x2 : Option AV} (hΨ : Ψ (some (aL r)) (L0, g, w, q0)) (h : s_X6_work_52 i0 p1 p2 t0 g w = some r) : Ev (EvM mth (d + 2)) mth c00 sc0 (retP (some .long) c00 Ψ) (lkp es_100) 52 [x0, x1, x2] [aL t0] (L0, g, w, q0) := by
  unfold s_X6_work_52 at h
  obtain rfl := Option.some.inj h
  exact ev_lreturn rfl ⟨⟨_, rfl⟩, rfl, rfl, hΨ⟩
def s_X6_work_17 (i0 : Nat) (p1 : Int32) (p2 : Int32) (g : Nat → Nat → Nat → Int32) (w : Nat → Nat → Nat → Int64) : Option (Int64) :=
  some ((-1 : Int64))
set_option maxRecDepth 20000 in
set_option maxHeartbeats 2000000 in
theorem e_X6_work_17 {d : Nat} {Ψ : Option AV → DS → Prop} {i0 : Nat} {p1 : Int32} {p2 : Int32} {r : Int64} {g : Nat → Nat → Nat → Int32} {w : Nat → Nat → Nat → Int64} {x0 : Option AV} {x1 : Option AV} {x2 : Option AV} (hΨ : Ψ (some (aL r)) (L0, g, w, q0)) (h : s_X6_work_17 i0 p1 p2 g w = some r) : Ev (EvM mth (d + 2)) mth c00 sc0 (retP (some .long) c00 Ψ) (lkp es_100) 17 [x0, x1, x2] [] (L0, g, w, q0) := by
  unfold s_X6_work_17 at h
  refine ev_ldc2_w (pc' := 20) rfl rfl (v := (-1 : Int64)) (by decide) ?_
  obtain rfl := Option.some.inj h
  exact ev_lreturn rfl ⟨⟨_, rfl⟩, rfl, rfl, hΨ⟩
def s_X6_work (i0 : Nat) (p1 : Int32) (p2 : Int32) (g : Nat → Nat → Nat → Int32) (w : Nat → Nat → Nat → Int64) : Option (Int64) :=
  if (s_X6_isTug i0 p1 g w) = true then
    if (s_X6_within p2 (0 : Int32) (1 : Int32) g w) = true then
      if p2 ≠ 0 then
        if inR p1 6 = true then
          s_X6_work_52 i0 p1 p2 (w 5 (6 * 0 + p1.toNatClampNeg) 9) g w
        else none
      else
        if inR p1 6 = true then
          s_X6_work_52 i0 p1 p2 (w 5 (6 * 0 + p1.toNatClampNeg) 8) g w
        else none
    else
      s_X6_work_17 i0 p1 p2 g w
  else
    s_X6_work_17 i0 p1 p2 g w
set_option maxRecDepth 20000 in
set_option maxHeartbeats 2000000 in
theorem d_X6_work {d : Nat} {i0 : Nat} {p1 : Int32} {p2 : Int32} {g : Nat → Nat → Nat → Int32} {w : Nat → Nat → Nat → Int64} {r : Int64} (h : s_X6_work i0 p1 p2 g w = some r) : Does (EvM mth (d + 3)) 100 [aR 6 i0, aI p1, aI p2] (L0, g, w, q0) (some (aL r)) (L0, g, w, q0) := by
  intro Ψ hΨ
  refine ⟨in_100, mth_100, Nat.le_of_ble_eq_true rfl, ?_⟩
  show Ev (EvM mth (d + 2)) mth c00 sc0 (retP (some .long) c00 Ψ) (lkp es_100) 0 [some (aR 6 i0), some (aI p1), some (aI p2)] [] (L0, g, w, q0)
  unfold s_X6_work at h
  refine ev_aload_n (pc' := 1) rfl rfl rfl ?_
  refine ev_iload_n (pc' := 2) rfl rfl rfl ?_
  refine ev_V2I (pc' := 5) rfl (by decide) rfl mth_108 ⟨Nat.le_of_ble_eq_true rfl, rfl⟩ ⟨Nat.le_refl _, Nat.le_refl _⟩ d_X6_isTug ?_
  refine ev_ifB_eq rfl (pc' := 8) rfl (fun hc => ?_) (fun hc => ?_)
  · have h := (if_neg hc).symm.trans h
    exact e_X6_work_17 hΨ h
  · have h := (if_pos hc).symm.trans h
    refine ev_iload_n (pc' := 9) rfl rfl rfl ?_
    refine ev_iconst (pc' := 10) rfl rfl (v := (0 : Int32)) (by decide) ?_
    refine ev_iconst (pc' := 11) rfl rfl (v := (1 : Int32)) (by decide) ?_
    refine ev_S3I (pc' := 14) rfl (by decide) rfl mth_105 ⟨Nat.le_of_ble_eq_true rfl, rfl⟩ ⟨Nat.le_refl _, Nat.le_refl _⟩ d_X6_within ?_
    refine ev_ifB_ne rfl (pc' := 17) rfl (fun hc => ?_) (fun hc => ?_)
    · have h := (if_pos hc).symm.trans h
      refine ev_iload_n (pc' := 22) rfl rfl rfl ?_
      refine ev_if_ne rfl (pc' := 25) rfl (fun hc => ?_) (fun hc => ?_)
      · have h := (if_pos hc).symm.trans h
        refine ev_aload_n (pc' := 41) rfl rfl rfl ?_
        refine ev_getQ (pc' := 44) rfl rfl rfl ?_
        refine ev_getQ (pc' := 47) rfl rfl rfl ?_
        refine ev_iload_n (pc' := 48) rfl rfl rfl ?_
        obtain ⟨hi, h⟩ := gdB h
        refine ev_aald (pc' := 49) rfl rfl (by decide) rfl (inR_vp hi) rfl ?_
        refine ev_getL (pc' := 52) rfl rfl ?_
        exact e_X6_work_52 hΨ h
      · have h := (if_neg hc).symm.trans h
        refine ev_aload_n (pc' := 26) rfl rfl rfl ?_
        refine ev_getQ (pc' := 29) rfl rfl rfl ?_
        refine ev_getQ (pc' := 32) rfl rfl rfl ?_
        refine ev_iload_n (pc' := 33) rfl rfl rfl ?_
        obtain ⟨hi, h⟩ := gdB h
        refine ev_aald (pc' := 34) rfl rfl (by decide) rfl (inR_vp hi) rfl ?_
        refine ev_getL (pc' := 37) rfl rfl ?_
        refine ev_goto (pc' := 52) rfl ?_
        exact e_X6_work_52 hΨ h
    · have h := (if_neg hc).symm.trans h
      exact e_X6_work_17 hΨ h
def s_X6_count (i0 : Nat) (p1 : Int32) (g : Nat → Nat → Nat → Int32) (w : Nat → Nat → Nat → Int64) : Option (Int32) :=
  if p1 = (0 : Int32) then
    some ((g 1 0 9))
  else
  if p1 = (1 : Int32) then
    some ((g 1 0 10))
  else
  if p1 = (2 : Int32) then
    (s_X1_jobsLaid 0 g w).bind fun q1 =>
    some (q1)
  else
  if p1 = (3 : Int32) then
    some ((s_J_Long_bitCount (w 1 0 8) g w))
  else
  if p1 = (4 : Int32) then
    some ((g 1 0 11))
  else
  if p1 = (5 : Int32) then
    some ((g 1 0 12))
  else
  if p1 = (6 : Int32) then
    some ((g 1 0 13))
  else
  if p1 = (7 : Int32) then
    some ((g 1 0 14))
  else
  if p1 = (8 : Int32) then
    some ((g 3 0 4))
  else
  if p1 = (9 : Int32) then
    some ((g 6 i0 5))
  else
    some ((-1 : Int32))
set_option maxRecDepth 20000 in
set_option maxHeartbeats 2000000 in
theorem d_X6_count {d : Nat} {i0 : Nat} {p1 : Int32} {g : Nat → Nat → Nat → Int32} {w : Nat → Nat → Nat → Int64} {r : Int32} (h : s_X6_count i0 p1 g w = some r) : Does (EvM mth (d + 3)) 104 [aR 6 i0, aI p1] (L0, g, w, q0) (some (aI r)) (L0, g, w, q0) := by
  intro Ψ hΨ
  refine ⟨in_104, mth_104, Nat.le_of_ble_eq_true rfl, ?_⟩
  show Ev (EvM mth (d + 2)) mth c00 sc0 (retP (some .int) c00 Ψ) (lkp es_104) 0 [some (aR 6 i0), some (aI p1)] [] (L0, g, w, q0)
  unfold s_X6_count at h
  refine ev_iload_n (pc' := 1) rfl rfl rfl ?_
  refine ev_tsw rfl (fun hd => ?_) (fun n u hn hv => ?_)
  · skip
    have h := (if_neg (show ¬ p1 = (0 : Int32) from fun e9 => by rw [e9] at hd; revert hd; decide)).symm.trans h
    have h := (if_neg (show ¬ p1 = (1 : Int32) from fun e9 => by rw [e9] at hd; revert hd; decide)).symm.trans h
    have h := (if_neg (show ¬ p1 = (2 : Int32) from fun e9 => by rw [e9] at hd; revert hd; decide)).symm.trans h
    have h := (if_neg (show ¬ p1 = (3 : Int32) from fun e9 => by rw [e9] at hd; revert hd; decide)).symm.trans h
    have h := (if_neg (show ¬ p1 = (4 : Int32) from fun e9 => by rw [e9] at hd; revert hd; decide)).symm.trans h
    have h := (if_neg (show ¬ p1 = (5 : Int32) from fun e9 => by rw [e9] at hd; revert hd; decide)).symm.trans h
    have h := (if_neg (show ¬ p1 = (6 : Int32) from fun e9 => by rw [e9] at hd; revert hd; decide)).symm.trans h
    have h := (if_neg (show ¬ p1 = (7 : Int32) from fun e9 => by rw [e9] at hd; revert hd; decide)).symm.trans h
    have h := (if_neg (show ¬ p1 = (8 : Int32) from fun e9 => by rw [e9] at hd; revert hd; decide)).symm.trans h
    have h := (if_neg (show ¬ p1 = (9 : Int32) from fun e9 => by rw [e9] at hd; revert hd; decide)).symm.trans h
    refine ev_iconst (pc' := 137) rfl rfl (v := (-1 : Int32)) (by decide) ?_
    obtain rfl := Option.some.inj h
    exact ev_ireturn rfl ⟨⟨_, rfl, rfl⟩, rfl, rfl, hΨ⟩
  · match n, hn with
    | 0, hn =>
      obtain rfl := Option.some.inj hn
      have e9 : p1 = (0 : Int32) := Int32.toInt_inj.mp (hv.trans (by decide))
      have h := (if_pos e9).symm.trans h
      refine ev_aload_n (pc' := 57) rfl rfl rfl ?_
      refine ev_getQ (pc' := 60) rfl rfl rfl ?_
      refine ev_getI (pc' := 63) rfl rfl ?_
      obtain rfl := Option.some.inj h
      exact ev_ireturn rfl ⟨⟨_, rfl, rfl⟩, rfl, rfl, hΨ⟩
    | 1, hn =>
      obtain rfl := Option.some.inj hn
      have e9 : p1 = (1 : Int32) := Int32.toInt_inj.mp (hv.trans (by decide))
      have h := (if_neg (show ¬ p1 = (0 : Int32) from by rw [e9]; decide)).symm.trans h
      have h := (if_pos e9).symm.trans h
      refine ev_aload_n (pc' := 65) rfl rfl rfl ?_
      refine ev_getQ (pc' := 68) rfl rfl rfl ?_
      refine ev_getI (pc' := 71) rfl rfl ?_
      obtain rfl := Option.some.inj h
      exact ev_ireturn rfl ⟨⟨_, rfl, rfl⟩, rfl, rfl, hΨ⟩
    | 2, hn =>
      obtain rfl := Option.some.inj hn
      have e9 : p1 = (2 : Int32) := Int32.toInt_inj.mp (hv.trans (by decide))
      have h := (if_neg (show ¬ p1 = (0 : Int32) from by rw [e9]; decide)).symm.trans h
      have h := (if_neg (show ¬ p1 = (1 : Int32) from by rw [e9]; decide)).symm.trans h
      have h := (if_pos e9).symm.trans h
      refine ev_aload_n (pc' := 73) rfl rfl rfl ?_
      refine ev_getQ (pc' := 76) rfl rfl rfl ?_
      obtain ⟨q1, hq1, h⟩ := Option.bind_eq_some_iff.mp h
      refine ev_V1I (pc' := 79) rfl (by decide) rfl mth_6 ⟨Nat.le_of_ble_eq_true rfl, rfl⟩ ⟨Nat.le_refl _, Nat.le_refl _⟩ (d_X1_jobsLaid hq1) ?_
      obtain rfl := Option.some.inj h
      exact ev_ireturn rfl ⟨⟨_, rfl, rfl⟩, rfl, rfl, hΨ⟩
    | 3, hn =>
      obtain rfl := Option.some.inj hn
      have e9 : p1 = (3 : Int32) := Int32.toInt_inj.mp (hv.trans (by decide))
      have h := (if_neg (show ¬ p1 = (0 : Int32) from by rw [e9]; decide)).symm.trans h
      have h := (if_neg (show ¬ p1 = (1 : Int32) from by rw [e9]; decide)).symm.trans h
      have h := (if_neg (show ¬ p1 = (2 : Int32) from by rw [e9]; decide)).symm.trans h
      have h := (if_pos e9).symm.trans h
      refine ev_aload_n (pc' := 81) rfl rfl rfl ?_
      refine ev_getQ (pc' := 84) rfl rfl rfl ?_
      refine ev_getL (pc' := 87) rfl rfl ?_
      refine ev_S1I (pc' := 90) rfl (by decide) rfl mth_192 ⟨Nat.le_of_ble_eq_true rfl, rfl⟩ ⟨Nat.le_refl _, Nat.le_refl _⟩ d_J_Long_bitCount ?_
      obtain rfl := Option.some.inj h
      exact ev_ireturn rfl ⟨⟨_, rfl, rfl⟩, rfl, rfl, hΨ⟩
    | 4, hn =>
      obtain rfl := Option.some.inj hn
      have e9 : p1 = (4 : Int32) := Int32.toInt_inj.mp (hv.trans (by decide))
      have h := (if_neg (show ¬ p1 = (0 : Int32) from by rw [e9]; decide)).symm.trans h
      have h := (if_neg (show ¬ p1 = (1 : Int32) from by rw [e9]; decide)).symm.trans h
      have h := (if_neg (show ¬ p1 = (2 : Int32) from by rw [e9]; decide)).symm.trans h
      have h := (if_neg (show ¬ p1 = (3 : Int32) from by rw [e9]; decide)).symm.trans h
      have h := (if_pos e9).symm.trans h
      refine ev_aload_n (pc' := 92) rfl rfl rfl ?_
      refine ev_getQ (pc' := 95) rfl rfl rfl ?_
      refine ev_getI (pc' := 98) rfl rfl ?_
      obtain rfl := Option.some.inj h
      exact ev_ireturn rfl ⟨⟨_, rfl, rfl⟩, rfl, rfl, hΨ⟩
    | 5, hn =>
      obtain rfl := Option.some.inj hn
      have e9 : p1 = (5 : Int32) := Int32.toInt_inj.mp (hv.trans (by decide))
      have h := (if_neg (show ¬ p1 = (0 : Int32) from by rw [e9]; decide)).symm.trans h
      have h := (if_neg (show ¬ p1 = (1 : Int32) from by rw [e9]; decide)).symm.trans h
      have h := (if_neg (show ¬ p1 = (2 : Int32) from by rw [e9]; decide)).symm.trans h
      have h := (if_neg (show ¬ p1 = (3 : Int32) from by rw [e9]; decide)).symm.trans h
      have h := (if_neg (show ¬ p1 = (4 : Int32) from by rw [e9]; decide)).symm.trans h
      have h := (if_pos e9).symm.trans h
      refine ev_aload_n (pc' := 100) rfl rfl rfl ?_
      refine ev_getQ (pc' := 103) rfl rfl rfl ?_
      refine ev_getI (pc' := 106) rfl rfl ?_
      obtain rfl := Option.some.inj h
      exact ev_ireturn rfl ⟨⟨_, rfl, rfl⟩, rfl, rfl, hΨ⟩
    | 6, hn =>
      obtain rfl := Option.some.inj hn
      have e9 : p1 = (6 : Int32) := Int32.toInt_inj.mp (hv.trans (by decide))
      have h := (if_neg (show ¬ p1 = (0 : Int32) from by rw [e9]; decide)).symm.trans h
      have h := (if_neg (show ¬ p1 = (1 : Int32) from by rw [e9]; decide)).symm.trans h
      have h := (if_neg (show ¬ p1 = (2 : Int32) from by rw [e9]; decide)).symm.trans h
      have h := (if_neg (show ¬ p1 = (3 : Int32) from by rw [e9]; decide)).symm.trans h
      have h := (if_neg (show ¬ p1 = (4 : Int32) from by rw [e9]; decide)).symm.trans h
      have h := (if_neg (show ¬ p1 = (5 : Int32) from by rw [e9]; decide)).symm.trans h
      have h := (if_pos e9).symm.trans h
      refine ev_aload_n (pc' := 108) rfl rfl rfl ?_
      refine ev_getQ (pc' := 111) rfl rfl rfl ?_
      refine ev_getI (pc' := 114) rfl rfl ?_
      obtain rfl := Option.some.inj h
      exact ev_ireturn rfl ⟨⟨_, rfl, rfl⟩, rfl, rfl, hΨ⟩
    | 7, hn =>
      obtain rfl := Option.some.inj hn
      have e9 : p1 = (7 : Int32) := Int32.toInt_inj.mp (hv.trans (by decide))
      have h := (if_neg (show ¬ p1 = (0 : Int32) from by rw [e9]; decide)).symm.trans h
      have h := (if_neg (show ¬ p1 = (1 : Int32) from by rw [e9]; decide)).symm.trans h
      have h := (if_neg (show ¬ p1 = (2 : Int32) from by rw [e9]; decide)).symm.trans h
      have h := (if_neg (show ¬ p1 = (3 : Int32) from by rw [e9]; decide)).symm.trans h
      have h := (if_neg (show ¬ p1 = (4 : Int32) from by rw [e9]; decide)).symm.trans h
      have h := (if_neg (show ¬ p1 = (5 : Int32) from by rw [e9]; decide)).symm.trans h
      have h := (if_neg (show ¬ p1 = (6 : Int32) from by rw [e9]; decide)).symm.trans h
      have h := (if_pos e9).symm.trans h
      refine ev_aload_n (pc' := 116) rfl rfl rfl ?_
      refine ev_getQ (pc' := 119) rfl rfl rfl ?_
      refine ev_getI (pc' := 122) rfl rfl ?_
      obtain rfl := Option.some.inj h
      exact ev_ireturn rfl ⟨⟨_, rfl, rfl⟩, rfl, rfl, hΨ⟩
    | 8, hn =>
      obtain rfl := Option.some.inj hn
      have e9 : p1 = (8 : Int32) := Int32.toInt_inj.mp (hv.trans (by decide))
      have h := (if_neg (show ¬ p1 = (0 : Int32) from by rw [e9]; decide)).symm.trans h
      have h := (if_neg (show ¬ p1 = (1 : Int32) from by rw [e9]; decide)).symm.trans h
      have h := (if_neg (show ¬ p1 = (2 : Int32) from by rw [e9]; decide)).symm.trans h
      have h := (if_neg (show ¬ p1 = (3 : Int32) from by rw [e9]; decide)).symm.trans h
      have h := (if_neg (show ¬ p1 = (4 : Int32) from by rw [e9]; decide)).symm.trans h
      have h := (if_neg (show ¬ p1 = (5 : Int32) from by rw [e9]; decide)).symm.trans h
      have h := (if_neg (show ¬ p1 = (6 : Int32) from by rw [e9]; decide)).symm.trans h
      have h := (if_neg (show ¬ p1 = (7 : Int32) from by rw [e9]; decide)).symm.trans h
      have h := (if_pos e9).symm.trans h
      refine ev_aload_n (pc' := 124) rfl rfl rfl ?_
      refine ev_getQ (pc' := 127) rfl rfl rfl ?_
      refine ev_getI (pc' := 130) rfl rfl ?_
      obtain rfl := Option.some.inj h
      exact ev_ireturn rfl ⟨⟨_, rfl, rfl⟩, rfl, rfl, hΨ⟩
    | 9, hn =>
      obtain rfl := Option.some.inj hn
      have e9 : p1 = (9 : Int32) := Int32.toInt_inj.mp (hv.trans (by decide))
      have h := (if_neg (show ¬ p1 = (0 : Int32) from by rw [e9]; decide)).symm.trans h
      have h := (if_neg (show ¬ p1 = (1 : Int32) from by rw [e9]; decide)).symm.trans h
      have h := (if_neg (show ¬ p1 = (2 : Int32) from by rw [e9]; decide)).symm.trans h
      have h := (if_neg (show ¬ p1 = (3 : Int32) from by rw [e9]; decide)).symm.trans h
      have h := (if_neg (show ¬ p1 = (4 : Int32) from by rw [e9]; decide)).symm.trans h
      have h := (if_neg (show ¬ p1 = (5 : Int32) from by rw [e9]; decide)).symm.trans h
      have h := (if_neg (show ¬ p1 = (6 : Int32) from by rw [e9]; decide)).symm.trans h
      have h := (if_neg (show ¬ p1 = (7 : Int32) from by rw [e9]; decide)).symm.trans h
      have h := (if_neg (show ¬ p1 = (8 : Int32) from by rw [e9]; decide)).symm.trans h
      have h := (if_pos e9).symm.trans h
      refine ev_aload_n (pc' := 132) rfl rfl rfl ?_
      refine ev_getI (pc' := 135) rfl rfl ?_
      obtain rfl := Option.some.inj h
      exact ev_ireturn rfl ⟨⟨_, rfl, rfl⟩, rfl, rfl, hΨ⟩
    | n + 10, hn => exact absurd hn (by simp)
def s_X7_wind_19 (i0 : Nat) (p1 : Int32) (p2 : Int32) (g : Nat → Nat → Nat → Int32) (w : Nat → Nat → Nat → Int64) : Option (Int32 × GS) :=
  some (((-1 : Int32), g, w))
set_option maxRecDepth 20000 in
set_option maxHeartbeats 2000000 in
theorem e_X7_wind_19 {d : Nat} {Ψ : Option AV → DS → Prop} {i0 : Nat} {p1 : Int32} {p2 : Int32} {r : Int32 × GS} {g : Nat → Nat → Nat → Int32} {w : Nat → Nat → Nat → Int64} {x0 : Option AV} {x1 : Option AV} {x2 : Option AV} {x3 : Option AV} (hΨ : Ψ (some (aI r.1)) (L0, r.2.1, r.2.2, q0)) (h : s_X7_wind_19 i0 p1 p2 g w = some r) : Ev (EvM mth (d + 2)) mth c00 sc0 (retP (some .int) c00 Ψ) (lkp es_123) 19 [x0, x1, x2, x3] [] (L0, g, w, q0) := by
  unfold s_X7_wind_19 at h
  refine ev_iconst (pc' := 20) rfl rfl (v := (-1 : Int32)) (by decide) ?_
  obtain rfl := Option.some.inj h
  exact ev_ireturn rfl ⟨⟨_, rfl, rfl⟩, rfl, rfl, hΨ⟩
def s_X7_wind (i0 : Nat) (p1 : Int32) (p2 : Int32) (g : Nat → Nat → Nat → Int32) (w : Nat → Nat → Nat → Int64) : Option (Int32 × GS) :=
  if (s_X7_isHour p1 g w) = true then
    if (s_X7_in p2.toInt64 (0 : Int64) (9 : Int64) g w) = true then
      if inR ((12 : Int32) + p1) 218 = true then
        if inR ((12 : Int32) + p1) 218 = true then
          some (((w 2218 0 ((12 : Int32) + p1).toNatClampNeg).toInt32, g, (wL w 2218 0 ((12 : Int32) + p1).toNatClampNeg p2.toInt64)))
        else none
      else none
    else
      s_X7_wind_19 i0 p1 p2 g w
  else
    s_X7_wind_19 i0 p1 p2 g w
set_option maxRecDepth 20000 in
set_option maxHeartbeats 2000000 in
theorem d_X7_wind {d : Nat} {i0 : Nat} {p1 : Int32} {p2 : Int32} {g : Nat → Nat → Nat → Int32} {w : Nat → Nat → Nat → Int64} {r : Int32 × GS} (h : s_X7_wind i0 p1 p2 g w = some r) : Does (EvM mth (d + 3)) 123 [aR 7 i0, aI p1, aI p2] (L0, g, w, q0) (some (aI r.1)) (L0, r.2.1, r.2.2, q0) := by
  intro Ψ hΨ
  refine ⟨in_123, mth_123, Nat.le_of_ble_eq_true rfl, ?_⟩
  show Ev (EvM mth (d + 2)) mth c00 sc0 (retP (some .int) c00 Ψ) (lkp es_123) 0 [some (aR 7 i0), some (aI p1), some (aI p2), none] [] (L0, g, w, q0)
  unfold s_X7_wind at h
  refine ev_iload_n (pc' := 1) rfl rfl rfl ?_
  refine ev_S1I (pc' := 4) rfl (by decide) rfl mth_116 ⟨Nat.le_of_ble_eq_true rfl, rfl⟩ ⟨Nat.le_refl _, Nat.le_refl _⟩ d_X7_isHour ?_
  refine ev_ifB_eq rfl (pc' := 7) rfl (fun hc => ?_) (fun hc => ?_)
  · have h := (if_neg hc).symm.trans h
    exact e_X7_wind_19 hΨ h
  · have h := (if_pos hc).symm.trans h
    refine ev_iload_n (pc' := 8) rfl rfl rfl ?_
    refine ev_i2l (pc' := 9) rfl rfl ?_
    refine ev_lconst (pc' := 10) rfl rfl (v := (0 : Int64)) (by decide) ?_
    refine ev_ldc2_w (pc' := 13) rfl rfl (v := (9 : Int64)) (by decide) ?_
    refine ev_S3I (pc' := 16) rfl (by decide) rfl mth_115 ⟨Nat.le_of_ble_eq_true rfl, rfl⟩ ⟨Nat.le_refl _, Nat.le_refl _⟩ d_X7_in ?_
    refine ev_ifB_ne rfl (pc' := 19) rfl (fun hc => ?_) (fun hc => ?_)
    · have h := (if_pos hc).symm.trans h
      refine ev_aload_n (pc' := 22) rfl rfl rfl ?_
      refine ev_getQ (pc' := 25) rfl rfl rfl ?_
      refine ev_bipush (pc' := 27) rfl rfl (v := (12 : Int32)) (by decide) ?_
      refine ev_iload_n (pc' := 28) rfl rfl rfl ?_
      refine ev_iadd (pc' := 29) rfl rfl ?_
      obtain ⟨hi, h⟩ := gdB h
      refine ev_lald (pc' := 30) rfl rfl rfl (inR_vp hi) ?_
      refine ev_l2i (pc' := 31) rfl rfl ?_
      refine ev_istore_n (pc' := 32) rfl rfl (l' := [some (aR 7 i0), some (aI p1), some (aI p2), some (aI (w 2218 0 ((12 : Int32) + p1).toNatClampNeg).toInt32)]) rfl ?_
      refine ev_aload_n (pc' := 33) rfl rfl rfl ?_
      refine ev_getQ (pc' := 36) rfl rfl rfl ?_
      refine ev_bipush (pc' := 38) rfl rfl (v := (12 : Int32)) (by decide) ?_
      refine ev_iload_n (pc' := 39) rfl rfl rfl ?_
      refine ev_iadd (pc' := 40) rfl rfl ?_
      refine ev_iload_n (pc' := 41) rfl rfl rfl ?_
      refine ev_i2l (pc' := 42) rfl rfl ?_
      obtain ⟨hi, h⟩ := gdB h
      refine ev_last (pc' := 43) rfl rfl rfl (inR_vp hi) ?_
      refine ev_iload_n (pc' := 44) rfl rfl rfl ?_
      obtain rfl := Option.some.inj h
      exact ev_ireturn rfl ⟨⟨_, rfl, rfl⟩, rfl, rfl, hΨ⟩
    · have h := (if_neg hc).symm.trans h
      exact e_X7_wind_19 hΨ h
def s_X7_berth_158 (i0 : Nat) (p1 : Int32) (p2 : Int32) (p3 : Int32) (t2 : Int32) (v4 : Int32) (g : Nat → Nat → Nat → Int32) (w : Nat → Nat → Nat → Int64) : Option (Int32 × GS) :=
  if inR p1 6 = true then
    some ((v4, (gI g 1006 3 p1.toNatClampNeg t2), w))
  else none
set_option maxRecDepth 20000 in
set_option maxHeartbeats 2000000 in
theorem e_X7_berth_158 {d : Nat} {Ψ : Option AV → DS → Prop} {i0 : Nat} {p1 : Int32} {p2 : Int32} {p3 : Int32} {r : Int32 × GS} {g : Nat → Nat → Nat → Int32} {w : Nat → Nat → Nat → Int64} {t2 : Int32} {v4 : Int32} {x0 : Option AV} {x1 : Option AV} {x2 : Option AV} {x3 : Option AV} (hΨ : Ψ (some (aI r.1)) (L0, r.2.1, r.2.2, q0)) (h : s_X7_berth_158 i0 p1 p2 p3 t2 v4 g w = some r) : Ev (EvM mth (d + 2)) mth c00 sc0 (retP (some .int) c00 Ψ) (lkp es_126) 158 [x0, x1, x2, x3, some (aI v4)] [aI t2, aI p1, aR 1006 3] (L0, g, w, q0) := by
  unfold s_X7_berth_158 at h
  obtain ⟨hi, h⟩ := gdB h
  refine ev_iast (pc' := 159) rfl rfl rfl (inR_vp hi) ?_
  refine ev_iload (pc' := 161) rfl rfl rfl ?_
  obtain rfl := Option.some.inj h
  exact ev_ireturn rfl ⟨⟨_, rfl, rfl⟩, rfl, rfl, hΨ⟩
def s_X7_berth_137 (i0 : Nat) (p1 : Int32) (p2 : Int32) (p3 : Int32) (t2 : Int32) (v4 : Int32) (g : Nat → Nat → Nat → Int32) (w : Nat → Nat → Nat → Int64) : Option (Int32 × GS) :=
  if inR p1 6 = true then
    if p2 ≠ (1 : Int32) then
      if inR p1 6 = true then
        s_X7_berth_158 i0 p1 p2 p3 ((gI g 1006 2 p1.toNatClampNeg t2) 1006 3 p1.toNatClampNeg) v4 (gI g 1006 2 p1.toNatClampNeg t2) w
      else none
    else
      s_X7_berth_158 i0 p1 p2 p3 p3 v4 (gI g 1006 2 p1.toNatClampNeg t2) w
  else none
set_option maxRecDepth 20000 in
set_option maxHeartbeats 2000000 in
theorem e_X7_berth_137 {d : Nat} {Ψ : Option AV → DS → Prop} {i0 : Nat} {p1 : Int32} {p2 : Int32} {p3 : Int32} {r : Int32 × GS} {g : Nat → Nat → Nat → Int32} {w : Nat → Nat → Nat → Int64} {t2 : Int32} {v4 : Int32} (hΨ : Ψ (some (aI r.1)) (L0, r.2.1, r.2.2, q0)) (h : s_X7_berth_137 i0 p1 p2 p3 t2 v4 g w = some r) : Ev (EvM mth (d + 2)) mth c00 sc0 (retP (some .int) c00 Ψ) (lkp es_126) 137 [some (aR 7 i0), some (aI p1), some (aI p2), some (aI p3), some (aI v4)] [aI t2, aI p1, aR 1006 2] (L0, g, w, q0) := by
  unfold s_X7_berth_137 at h
  obtain ⟨hi, h⟩ := gdB h
  refine ev_iast (pc' := 138) rfl rfl rfl (inR_vp hi) ?_
  refine ev_aload_n (pc' := 139) rfl rfl rfl ?_
  refine ev_getQ (pc' := 142) rfl rfl rfl ?_
  refine ev_iload_n (pc' := 143) rfl rfl rfl ?_
  refine ev_iload_n (pc' := 144) rfl rfl rfl ?_
  refine ev_iconst (pc' := 145) rfl rfl (v := (1 : Int32)) (by decide) ?_
  refine ev_icmp_ne rfl (pc' := 148) rfl (fun hc => ?_) (fun hc => ?_)
  · have h := (if_pos hc).symm.trans h
    refine ev_aload_n (pc' := 153) rfl rfl rfl ?_
    refine ev_getQ (pc' := 156) rfl rfl rfl ?_
    refine ev_iload_n (pc' := 157) rfl rfl rfl ?_
    obtain ⟨hi, h⟩ := gdB h
    refine ev_iald (pc' := 158) rfl rfl rfl (inR_vp hi) ?_
    exact e_X7_berth_158 hΨ h
  · have h := (if_neg hc).symm.trans h
    refine ev_iload_n (pc' := 149) rfl rfl rfl ?_
    refine ev_goto (pc' := 158) rfl ?_
    exact e_X7_berth_158 hΨ h
def s_X7_berth_116 (i0 : Nat) (p1 : Int32) (p2 : Int32) (p3 : Int32) (t0 : Int32) (g : Nat → Nat → Nat → Int32) (w : Nat → Nat → Nat → Int64) : Option (Int32 × GS) :=
  if p2 ≠ 0 then
    if inR p1 6 = true then
      s_X7_berth_137 i0 p1 p2 p3 (g 1006 2 p1.toNatClampNeg) t0 g w
    else none
  else
    s_X7_berth_137 i0 p1 p2 p3 p3 t0 g w
set_option maxRecDepth 20000 in
set_option maxHeartbeats 2000000 in
theorem e_X7_berth_116 {d : Nat} {Ψ : Option AV → DS → Prop} {i0 : Nat} {p1 : Int32} {p2 : Int32} {p3 : Int32} {r : Int32 × GS} {g : Nat → Nat → Nat → Int32} {w : Nat → Nat → Nat → Int64} {t0 : Int32} {x4 : Option AV} (hΨ : Ψ (some (aI r.1)) (L0, r.2.1, r.2.2, q0)) (h : s_X7_berth_116 i0 p1 p2 p3 t0 g w = some r) : Ev (EvM mth (d + 2)) mth c00 sc0 (retP (some .int) c00 Ψ) (lkp es_126) 116 [some (aR 7 i0), some (aI p1), some (aI p2), some (aI p3), x4] [aI t0] (L0, g, w, q0) := by
  unfold s_X7_berth_116 at h
  refine ev_istore (pc' := 118) rfl rfl (l' := [some (aR 7 i0), some (aI p1), some (aI p2), some (aI p3), some (aI t0)]) rfl ?_
  refine ev_aload_n (pc' := 119) rfl rfl rfl ?_
  refine ev_getQ (pc' := 122) rfl rfl rfl ?_
  refine ev_iload_n (pc' := 123) rfl rfl rfl ?_
  refine ev_iload_n (pc' := 124) rfl rfl rfl ?_
  refine ev_if_ne rfl (pc' := 127) rfl (fun hc => ?_) (fun hc => ?_)
  · have h := (if_pos hc).symm.trans h
    refine ev_aload_n (pc' := 132) rfl rfl rfl ?_
    refine ev_getQ (pc' := 135) rfl rfl rfl ?_
    refine ev_iload_n (pc' := 136) rfl rfl rfl ?_
    obtain ⟨hi, h⟩ := gdB h
    refine ev_iald (pc' := 137) rfl rfl rfl (inR_vp hi) ?_
    exact e_X7_berth_137 hΨ h
  · have h := (if_neg hc).symm.trans h
    refine ev_iload_n (pc' := 128) rfl rfl rfl ?_
    refine ev_goto (pc' := 137) rfl ?_
    exact e_X7_berth_137 hΨ h
def s_X7_berth_91 (i0 : Nat) (p1 : Int32) (p2 : Int32) (p3 : Int32) (rec42 : Int32 → (Nat → Nat → Nat → Int32) → (Nat → Nat → Nat → Int64) → Option (Int32 × GS)) (v4 : Int32) (g : Nat → Nat → Nat → Int32) (w : Nat → Nat → Nat → Int64) : Option (Int32 × GS) :=
  rec42 (v4 + 1) g w
set_option maxRecDepth 20000 in
set_option maxHeartbeats 2000000 in
theorem e_X7_berth_91 {d : Nat} {Ψ : Option AV → DS → Prop} {i0 : Nat} {p1 : Int32} {p2 : Int32} {p3 : Int32} {rec42 : Int32 → (Nat → Nat → Nat → Int32) → (Nat → Nat → Nat → Int64) → Option (Int32 × GS)} {r : Int32 × GS} {g : Nat → Nat → Nat → Int32} {w : Nat → Nat → Nat → Int64} {v4 : Int32} (hr42 : ∀ {v4 : Int32} {g : Nat → Nat → Nat → Int32} {w : Nat → Nat → Nat → Int64} , rec42 v4 g w = some r → Ev (EvM mth (d + 2)) mth c00 sc0 (retP (some .int) c00 Ψ) (lkp es_126) 42 [some (aR 7 i0), some (aI p1), some (aI p2), some (aI p3), some (aI v4)] [] (L0, g, w, q0)) (hΨ : Ψ (some (aI r.1)) (L0, r.2.1, r.2.2, q0)) (h : s_X7_berth_91 i0 p1 p2 p3 rec42 v4 g w = some r) : Ev (EvM mth (d + 2)) mth c00 sc0 (retP (some .int) c00 Ψ) (lkp es_126) 91 [some (aR 7 i0), some (aI p1), some (aI p2), some (aI p3), some (aI v4)] [] (L0, g, w, q0) := by
  unfold s_X7_berth_91 at h
  refine ev_iinc (pc' := 94) rfl rfl (l' := [some (aR 7 i0), some (aI p1), some (aI p2), some (aI p3), some (aI (v4 + 1))]) rfl (ii_1 _) rfl ?_
  refine ev_goto (pc' := 42) rfl ?_
  exact hr42 h
def s_X7_berth_88 (i0 : Nat) (p1 : Int32) (p2 : Int32) (p3 : Int32) (g : Nat → Nat → Nat → Int32) (w : Nat → Nat → Nat → Int64) : Option (Int32 × GS) :=
  some (((-2 : Int32), g, w))
set_option maxRecDepth 20000 in
set_option maxHeartbeats 2000000 in
theorem e_X7_berth_88 {d : Nat} {Ψ : Option AV → DS → Prop} {i0 : Nat} {p1 : Int32} {p2 : Int32} {p3 : Int32} {r : Int32 × GS} {g : Nat → Nat → Nat → Int32} {w : Nat → Nat → Nat → Int64} {x0 : Option AV} {x1 : Option AV} {x2 : Option AV} {x3 : Option AV} {x4 : Option AV} (hΨ : Ψ (some (aI r.1)) (L0, r.2.1, r.2.2, q0)) (h : s_X7_berth_88 i0 p1 p2 p3 g w = some r) : Ev (EvM mth (d + 2)) mth c00 sc0 (retP (some .int) c00 Ψ) (lkp es_126) 88 [x0, x1, x2, x3, x4] [] (L0, g, w, q0) := by
  unfold s_X7_berth_88 at h
  refine ev_bipush (pc' := 90) rfl rfl (v := (-2 : Int32)) (by decide) ?_
  obtain rfl := Option.some.inj h
  exact ev_ireturn rfl ⟨⟨_, rfl, rfl⟩, rfl, rfl, hΨ⟩
def s_X7_berth_42 (i0 : Nat) (p1 : Int32) (p2 : Int32) (p3 : Int32) (rec42 : Int32 → (Nat → Nat → Nat → Int32) → (Nat → Nat → Nat → Int64) → Option (Int32 × GS)) (v4 : Int32) (g : Nat → Nat → Nat → Int32) (w : Nat → Nat → Nat → Int64) : Option (Int32 × GS) :=
  if 0 ≤ (lg_cmp v4.toInt64 (w 2218 0 (65 : Int32).toNatClampNeg)) then
    if p2 ≠ 0 then
      if inR p1 6 = true then
        s_X7_berth_116 i0 p1 p2 p3 (g 1006 3 p1.toNatClampNeg) g w
      else none
    else
      if inR p1 6 = true then
        s_X7_berth_116 i0 p1 p2 p3 (g 1006 2 p1.toNatClampNeg) g w
      else none
  else
    (s_X7_hasJob i0 v4 g w).bind fun q1 =>
    if q1 = true then
      (s_X7_ofShip i0 v4 (5 : Int32) g w).bind fun q2 =>
      if q2 = p1 then
        s_X7_berth_88 i0 p1 p2 p3 g w
      else
        (s_X7_ofShip i0 v4 (6 : Int32) g w).bind fun q3 =>
        if q3 ≠ p1 then
          s_X7_berth_91 i0 p1 p2 p3 rec42 v4 g w
        else
          s_X7_berth_88 i0 p1 p2 p3 g w
    else
      s_X7_berth_91 i0 p1 p2 p3 rec42 v4 g w
set_option maxRecDepth 20000 in
set_option maxHeartbeats 2000000 in
theorem e_X7_berth_42 {d : Nat} {Ψ : Option AV → DS → Prop} {i0 : Nat} {p1 : Int32} {p2 : Int32} {p3 : Int32} {rec42 : Int32 → (Nat → Nat → Nat → Int32) → (Nat → Nat → Nat → Int64) → Option (Int32 × GS)} {r : Int32 × GS} {g : Nat → Nat → Nat → Int32} {w : Nat → Nat → Nat → Int64} {v4 : Int32} (hr42 : ∀ {v4 : Int32} {g : Nat → Nat → Nat → Int32} {w : Nat → Nat → Nat → Int64} , rec42 v4 g w = some r → Ev (EvM mth (d + 2)) mth c00 sc0 (retP (some .int) c00 Ψ) (lkp es_126) 42 [some (aR 7 i0), some (aI p1), some (aI p2), some (aI p3), some (aI v4)] [] (L0, g, w, q0)) (hΨ : Ψ (some (aI r.1)) (L0, r.2.1, r.2.2, q0)) (h : s_X7_berth_42 i0 p1 p2 p3 rec42 v4 g w = some r) : Ev (EvM mth (d + 2)) mth c00 sc0 (retP (some .int) c00 Ψ) (lkp es_126) 42 [some (aR 7 i0), some (aI p1), some (aI p2), some (aI p3), some (aI v4)] [] (L0, g, w, q0) := by
  unfold s_X7_berth_42 at h
  refine ev_iload (pc' := 44) rfl rfl rfl ?_
  refine ev_i2l (pc' := 45) rfl rfl ?_
  refine ev_aload_n (pc' := 46) rfl rfl rfl ?_
  refine ev_getQ (pc' := 49) rfl rfl rfl ?_
  refine ev_bipush (pc' := 51) rfl rfl (v := (65 : Int32)) (by decide) ?_
  refine ev_lald (pc' := 52) rfl rfl rfl (inR_vp (by decide)) ?_
  refine ev_lcmp (pc' := 53) rfl rfl ?_
  refine ev_if_ge rfl (pc' := 56) rfl (fun hc => ?_) (fun hc => ?_)
  · have h := (if_pos hc).symm.trans h
    refine ev_iload_n (pc' := 98) rfl rfl rfl ?_
    refine ev_if_ne rfl (pc' := 101) rfl (fun hc => ?_) (fun hc => ?_)
    · have h := (if_pos hc).symm.trans h
      refine ev_aload_n (pc' := 111) rfl rfl rfl ?_
      refine ev_getQ (pc' := 114) rfl rfl rfl ?_
      refine ev_iload_n (pc' := 115) rfl rfl rfl ?_
      obtain ⟨hi, h⟩ := gdB h
      refine ev_iald (pc' := 116) rfl rfl rfl (inR_vp hi) ?_
      exact e_X7_berth_116 hΨ h
    · have h := (if_neg hc).symm.trans h
      refine ev_aload_n (pc' := 102) rfl rfl rfl ?_
      refine ev_getQ (pc' := 105) rfl rfl rfl ?_
      refine ev_iload_n (pc' := 106) rfl rfl rfl ?_
      obtain ⟨hi, h⟩ := gdB h
      refine ev_iald (pc' := 107) rfl rfl rfl (inR_vp hi) ?_
      refine ev_goto (pc' := 116) rfl ?_
      exact e_X7_berth_116 hΨ h
  · have h := (if_neg hc).symm.trans h
    refine ev_aload_n (pc' := 57) rfl rfl rfl ?_
    refine ev_iload (pc' := 59) rfl rfl rfl ?_
    obtain ⟨q1, hq1, h⟩ := Option.bind_eq_some_iff.mp h
    refine ev_V2I (pc' := 62) rfl (by decide) rfl mth_125 ⟨Nat.le_of_ble_eq_true rfl, rfl⟩ ⟨Nat.le_refl _, Nat.le_refl _⟩ (d_X7_hasJob hq1) ?_
    refine ev_ifB_eq rfl (pc' := 65) rfl (fun hc => ?_) (fun hc => ?_)
    · have h := (if_neg hc).symm.trans h
      exact e_X7_berth_91 (hr42 := hr42) hΨ h
    · have h := (if_pos hc).symm.trans h
      refine ev_aload_n (pc' := 66) rfl rfl rfl ?_
      refine ev_iload (pc' := 68) rfl rfl rfl ?_
      refine ev_iconst (pc' := 69) rfl rfl (v := (5 : Int32)) (by decide) ?_
      obtain ⟨q2, hq2, h⟩ := Option.bind_eq_some_iff.mp h
      refine ev_V3I (pc' := 72) rfl (by decide) rfl mth_118 ⟨Nat.le_of_ble_eq_true rfl, rfl⟩ ⟨Nat.le_refl _, Nat.le_refl _⟩ (d_X7_ofShip hq2) ?_
      refine ev_iload_n (pc' := 73) rfl rfl rfl ?_
      refine ev_icmp_eq rfl (pc' := 76) rfl (fun hc => ?_) (fun hc => ?_)
      · have h := (if_pos hc).symm.trans h
        exact e_X7_berth_88 hΨ h
      · have h := (if_neg hc).symm.trans h
        refine ev_aload_n (pc' := 77) rfl rfl rfl ?_
        refine ev_iload (pc' := 79) rfl rfl rfl ?_
        refine ev_bipush (pc' := 81) rfl rfl (v := (6 : Int32)) (by decide) ?_
        obtain ⟨q3, hq3, h⟩ := Option.bind_eq_some_iff.mp h
        refine ev_V3I (pc' := 84) rfl (by decide) rfl mth_118 ⟨Nat.le_of_ble_eq_true rfl, rfl⟩ ⟨Nat.le_refl _, Nat.le_refl _⟩ (d_X7_ofShip hq3) ?_
        refine ev_iload_n (pc' := 85) rfl rfl rfl ?_
        refine ev_icmp_ne rfl (pc' := 88) rfl (fun hc => ?_) (fun hc => ?_)
        · have h := (if_pos hc).symm.trans h
          exact e_X7_berth_91 (hr42 := hr42) hΨ h
        · have h := (if_neg hc).symm.trans h
          exact e_X7_berth_88 hΨ h
def s_X7_berth_R42 (i0 : Nat) (p1 : Int32) (p2 : Int32) (p3 : Int32) : Nat → Int32 → (Nat → Nat → Nat → Int32) → (Nat → Nat → Nat → Int64) → Option (Int32 × GS)
  | 0 => fun _ _ _ => none
  | n + 1 => s_X7_berth_42 i0 p1 p2 p3 (s_X7_berth_R42 i0 p1 p2 p3 n)
theorem e_X7_berth_R42 {d : Nat} {Ψ : Option AV → DS → Prop} {i0 : Nat} {p1 : Int32} {p2 : Int32} {p3 : Int32} {r : Int32 × GS} (hΨ : Ψ (some (aI r.1)) (L0, r.2.1, r.2.2, q0)) : ∀ (n : Nat) {v4 : Int32} {g : Nat → Nat → Nat → Int32} {w : Nat → Nat → Nat → Int64}, s_X7_berth_R42 i0 p1 p2 p3 n v4 g w = some r → Ev (EvM mth (d + 2)) mth c00 sc0 (retP (some .int) c00 Ψ) (lkp es_126) 42 [some (aR 7 i0), some (aI p1), some (aI p2), some (aI p3), some (aI v4)] [] (L0, g, w, q0) := by
  intro n
  induction n with
  | zero => intros; rename_i h; exact absurd h (by intro h9; cases h9)
  | succ n ih => intros; rename_i h; exact e_X7_berth_42 (hr42 := ih) hΨ h
def s_X7_berth_37 (i0 : Nat) (p1 : Int32) (p2 : Int32) (p3 : Int32) (g : Nat → Nat → Nat → Int32) (w : Nat → Nat → Nat → Int64) : Option (Int32 × GS) :=
  some (((-1 : Int32), g, w))
set_option maxRecDepth 20000 in
set_option maxHeartbeats 2000000 in
theorem e_X7_berth_37 {d : Nat} {Ψ : Option AV → DS → Prop} {i0 : Nat} {p1 : Int32} {p2 : Int32} {p3 : Int32} {r : Int32 × GS} {g : Nat → Nat → Nat → Int32} {w : Nat → Nat → Nat → Int64} {x0 : Option AV} {x1 : Option AV} {x2 : Option AV} {x3 : Option AV} {x4 : Option AV} (hΨ : Ψ (some (aI r.1)) (L0, r.2.1, r.2.2, q0)) (h : s_X7_berth_37 i0 p1 p2 p3 g w = some r) : Ev (EvM mth (d + 2)) mth c00 sc0 (retP (some .int) c00 Ψ) (lkp es_126) 37 [x0, x1, x2, x3, x4] [] (L0, g, w, q0) := by
  unfold s_X7_berth_37 at h
  refine ev_iconst (pc' := 38) rfl rfl (v := (-1 : Int32)) (by decide) ?_
  obtain rfl := Option.some.inj h
  exact ev_ireturn rfl ⟨⟨_, rfl, rfl⟩, rfl, rfl, hΨ⟩
def s_X7_berth_31 (i0 : Nat) (p1 : Int32) (p2 : Int32) (p3 : Int32) (t0 : Int64) (t2 : Int64) (g : Nat → Nat → Nat → Int32) (w : Nat → Nat → Nat → Int64) : Option (Int32 × GS) :=
  if (s_X7_in t0 (0 : Int64) t2 g w) = true then
    s_X7_berth_R42 i0 p1 p2 p3 FU (0 : Int32) g w
  else
    s_X7_berth_37 i0 p1 p2 p3 g w
set_option maxRecDepth 20000 in
set_option maxHeartbeats 2000000 in
theorem e_X7_berth_31 {d : Nat} {Ψ : Option AV → DS → Prop} {i0 : Nat} {p1 : Int32} {p2 : Int32} {p3 : Int32} {r : Int32 × GS} {g : Nat → Nat → Nat → Int32} {w : Nat → Nat → Nat → Int64} {t0 : Int64} {t2 : Int64} {x4 : Option AV} (hΨ : Ψ (some (aI r.1)) (L0, r.2.1, r.2.2, q0)) (h : s_X7_berth_31 i0 p1 p2 p3 t0 t2 g w = some r) : Ev (EvM mth (d + 2)) mth c00 sc0 (retP (some .int) c00 Ψ) (lkp es_126) 31 [some (aR 7 i0), some (aI p1), some (aI p2), some (aI p3), x4] [aL t2, aL (0 : Int64), aL t0] (L0, g, w, q0) := by
  unfold s_X7_berth_31 at h
  refine ev_S3I (pc' := 34) rfl (by decide) rfl mth_115 ⟨Nat.le_of_ble_eq_true rfl, rfl⟩ ⟨Nat.le_refl _, Nat.le_refl _⟩ d_X7_in ?_
  refine ev_ifB_ne rfl (pc' := 37) rfl (fun hc => ?_) (fun hc => ?_)
  · have h := (if_pos hc).symm.trans h
    refine ev_iconst (pc' := 40) rfl rfl (v := (0 : Int32)) (by decide) ?_
    refine ev_istore (pc' := 42) rfl rfl (l' := [some (aR 7 i0), some (aI p1), some (aI p2), some (aI p3), some (aI (0 : Int32))]) rfl ?_
    exact e_X7_berth_R42 hΨ FU h
  · have h := (if_neg hc).symm.trans h
    exact e_X7_berth_37 hΨ h
def s_X7_berth (i0 : Nat) (p1 : Int32) (p2 : Int32) (p3 : Int32) (g : Nat → Nat → Nat → Int32) (w : Nat → Nat → Nat → Int64) : Option (Int32 × GS) :=
  if (s_X7_isBerth p1 g w) = true then
    if (s_X7_in p2.toInt64 (0 : Int64) (1 : Int64) g w) = true then
      if p2 ≠ 0 then
        s_X7_berth_31 i0 p1 p2 p3 p3.toInt64 (1 : Int64) g w
      else
        s_X7_berth_31 i0 p1 p2 p3 p3.toInt64 (60 : Int64) g w
    else
      s_X7_berth_37 i0 p1 p2 p3 g w
  else
    s_X7_berth_37 i0 p1 p2 p3 g w
set_option maxRecDepth 20000 in
set_option maxHeartbeats 2000000 in
theorem d_X7_berth {d : Nat} {i0 : Nat} {p1 : Int32} {p2 : Int32} {p3 : Int32} {g : Nat → Nat → Nat → Int32} {w : Nat → Nat → Nat → Int64} {r : Int32 × GS} (h : s_X7_berth i0 p1 p2 p3 g w = some r) : Does (EvM mth (d + 3)) 126 [aR 7 i0, aI p1, aI p2, aI p3] (L0, g, w, q0) (some (aI r.1)) (L0, r.2.1, r.2.2, q0) := by
  intro Ψ hΨ
  refine ⟨in_126, mth_126, Nat.le_of_ble_eq_true rfl, ?_⟩
  show Ev (EvM mth (d + 2)) mth c00 sc0 (retP (some .int) c00 Ψ) (lkp es_126) 0 [some (aR 7 i0), some (aI p1), some (aI p2), some (aI p3), none] [] (L0, g, w, q0)
  unfold s_X7_berth at h
  refine ev_iload_n (pc' := 1) rfl rfl rfl ?_
  refine ev_S1I (pc' := 4) rfl (by decide) rfl mth_121 ⟨Nat.le_of_ble_eq_true rfl, rfl⟩ ⟨Nat.le_refl _, Nat.le_refl _⟩ d_X7_isBerth ?_
  refine ev_ifB_eq rfl (pc' := 7) rfl (fun hc => ?_) (fun hc => ?_)
  · have h := (if_neg hc).symm.trans h
    exact e_X7_berth_37 hΨ h
  · have h := (if_pos hc).symm.trans h
    refine ev_iload_n (pc' := 8) rfl rfl rfl ?_
    refine ev_i2l (pc' := 9) rfl rfl ?_
    refine ev_lconst (pc' := 10) rfl rfl (v := (0 : Int64)) (by decide) ?_
    refine ev_lconst (pc' := 11) rfl rfl (v := (1 : Int64)) (by decide) ?_
    refine ev_S3I (pc' := 14) rfl (by decide) rfl mth_115 ⟨Nat.le_of_ble_eq_true rfl, rfl⟩ ⟨Nat.le_refl _, Nat.le_refl _⟩ d_X7_in ?_
    refine ev_ifB_eq rfl (pc' := 17) rfl (fun hc => ?_) (fun hc => ?_)
    · have h := (if_neg hc).symm.trans h
      exact e_X7_berth_37 hΨ h
    · have h := (if_pos hc).symm.trans h
      refine ev_iload_n (pc' := 18) rfl rfl rfl ?_
      refine ev_i2l (pc' := 19) rfl rfl ?_
      refine ev_lconst (pc' := 20) rfl rfl (v := (0 : Int64)) (by decide) ?_
      refine ev_iload_n (pc' := 21) rfl rfl rfl ?_
      refine ev_if_ne rfl (pc' := 24) rfl (fun hc => ?_) (fun hc => ?_)
      · have h := (if_pos hc).symm.trans h
        refine ev_lconst (pc' := 31) rfl rfl (v := (1 : Int64)) (by decide) ?_
        exact e_X7_berth_31 hΨ h
      · have h := (if_neg hc).symm.trans h
        refine ev_ldc2_w (pc' := 27) rfl rfl (v := (60 : Int64)) (by decide) ?_
        refine ev_goto (pc' := 31) rfl ?_
        exact e_X7_berth_31 hΨ h
def s_X7_way_24 (i0 : Nat) (p1 : Int32) (p2 : Int32) (t0 : Int32) (g : Nat → Nat → Nat → Int32) (w : Nat → Nat → Nat → Int64) : Option (Int32) :=
  some (t0)
set_option maxRecDepth 20000 in
set_option maxHeartbeats 2000000 in
theorem e_X7_way_24 {d : Nat} {Ψ : Option AV → DS → Prop} {i0 : Nat} {p1 : Int32} {p2 : Int32} {r : Int32} {g : Nat → Nat → Nat → Int32} {w : Nat → Nat → Nat → Int64} {t0 : Int32} {x0 : Option AV} {x1 : Option AV} {x2 : Option AV} (hΨ : Ψ (some (aI r)) (L0, g, w, q0)) (h : s_X7_way_24 i0 p1 p2 t0 g w = some r) : Ev (EvM mth (d + 2)) mth c00 sc0 (retP (some .int) c00 Ψ) (lkp es_128) 24 [x0, x1, x2] [aI t0] (L0, g, w, q0) := by
  unfold s_X7_way_24 at h
  obtain rfl := Option.some.inj h
  exact ev_ireturn rfl ⟨⟨_, rfl, rfl⟩, rfl, rfl, hΨ⟩
def s_X7_way_23 (i0 : Nat) (p1 : Int32) (p2 : Int32) (g : Nat → Nat → Nat → Int32) (w : Nat → Nat → Nat → Int64) : Option (Int32) :=
  s_X7_way_24 i0 p1 p2 (-1 : Int32) g w
set_option maxRecDepth 20000 in
set_option maxHeartbeats 2000000 in
theorem e_X7_way_23 {d : Nat} {Ψ : Option AV → DS → Prop} {i0 : Nat} {p1 : Int32} {p2 : Int32} {r : Int32} {g : Nat → Nat → Nat → Int32} {w : Nat → Nat → Nat → Int64} {x0 : Option AV} {x1 : Option AV} {x2 : Option AV} (hΨ : Ψ (some (aI r)) (L0, g, w, q0)) (h : s_X7_way_23 i0 p1 p2 g w = some r) : Ev (EvM mth (d + 2)) mth c00 sc0 (retP (some .int) c00 Ψ) (lkp es_128) 23 [x0, x1, x2] [] (L0, g, w, q0) := by
  unfold s_X7_way_23 at h
  refine ev_iconst (pc' := 24) rfl rfl (v := (-1 : Int32)) (by decide) ?_
  exact e_X7_way_24 hΨ h
def s_X7_way (i0 : Nat) (p1 : Int32) (p2 : Int32) (g : Nat → Nat → Nat → Int32) (w : Nat → Nat → Nat → Int64) : Option (Int32) :=
  if (s_X7_isBerth p1 g w) = true then
    if (s_X7_isBerth p2 g w) = true then
      (s_X7_wayOf i0 p1 p2 g w).bind fun q1 =>
      s_X7_way_24 i0 p1 p2 q1 g w
    else
      s_X7_way_23 i0 p1 p2 g w
  else
    s_X7_way_23 i0 p1 p2 g w
set_option maxRecDepth 20000 in
set_option maxHeartbeats 2000000 in
theorem d_X7_way {d : Nat} {i0 : Nat} {p1 : Int32} {p2 : Int32} {g : Nat → Nat → Nat → Int32} {w : Nat → Nat → Nat → Int64} {r : Int32} (h : s_X7_way i0 p1 p2 g w = some r) : Does (EvM mth (d + 3)) 128 [aR 7 i0, aI p1, aI p2] (L0, g, w, q0) (some (aI r)) (L0, g, w, q0) := by
  intro Ψ hΨ
  refine ⟨in_128, mth_128, Nat.le_of_ble_eq_true rfl, ?_⟩
  show Ev (EvM mth (d + 2)) mth c00 sc0 (retP (some .int) c00 Ψ) (lkp es_128) 0 [some (aR 7 i0), some (aI p1), some (aI p2)] [] (L0, g, w, q0)
  unfold s_X7_way at h
  refine ev_iload_n (pc' := 1) rfl rfl rfl ?_
  refine ev_S1I (pc' := 4) rfl (by decide) rfl mth_121 ⟨Nat.le_of_ble_eq_true rfl, rfl⟩ ⟨Nat.le_refl _, Nat.le_refl _⟩ d_X7_isBerth ?_
  refine ev_ifB_eq rfl (pc' := 7) rfl (fun hc => ?_) (fun hc => ?_)
  · have h := (if_neg hc).symm.trans h
    exact e_X7_way_23 hΨ h
  · have h := (if_pos hc).symm.trans h
    refine ev_iload_n (pc' := 8) rfl rfl rfl ?_
    refine ev_S1I (pc' := 11) rfl (by decide) rfl mth_121 ⟨Nat.le_of_ble_eq_true rfl, rfl⟩ ⟨Nat.le_refl _, Nat.le_refl _⟩ d_X7_isBerth ?_
    refine ev_ifB_eq rfl (pc' := 14) rfl (fun hc => ?_) (fun hc => ?_)
    · have h := (if_neg hc).symm.trans h
      exact e_X7_way_23 hΨ h
    · have h := (if_pos hc).symm.trans h
      refine ev_aload_n (pc' := 15) rfl rfl rfl ?_
      refine ev_iload_n (pc' := 16) rfl rfl rfl ?_
      refine ev_iload_n (pc' := 17) rfl rfl rfl ?_
      obtain ⟨q1, hq1, h⟩ := Option.bind_eq_some_iff.mp h
      refine ev_V3I (pc' := 20) rfl (by decide) rfl mth_127 ⟨Nat.le_of_ble_eq_true rfl, rfl⟩ ⟨Nat.le_refl _, Nat.le_refl _⟩ (d_X7_wayOf hq1) ?_
      refine ev_goto (pc' := 24) rfl ?_
      exact e_X7_way_24 hΨ h
def s_X7_tug_79 (i0 : Nat) (p1 : Int32) (p2 : Int32) (p3 : Int32) (p4 : Int32) (p5 : Int32) (p6 : Int32) (p7 : Int32) (g : Nat → Nat → Nat → Int32) (w : Nat → Nat → Nat → Int64) : Option (Int32 × GS) :=
  some (((-1 : Int32), g, w))
set_option maxRecDepth 20000 in
set_option maxHeartbeats 2000000 in
theorem e_X7_tug_79 {d : Nat} {Ψ : Option AV → DS → Prop} {i0 : Nat} {p1 : Int32} {p2 : Int32} {p3 : Int32} {p4 : Int32} {p5 : Int32} {p6 : Int32} {p7 : Int32} {r : Int32 × GS} {g : Nat → Nat → Nat → Int32} {w : Nat → Nat → Nat → Int64} {x0 : Option AV} {x1 : Option AV} {x2 : Option AV} {x3 : Option AV} {x4 : Option AV} {x5 : Option AV} {x6 : Option AV} {x7 : Option AV} {x8 : Option AV} (hΨ : Ψ (some (aI r.1)) (L0, r.2.1, r.2.2, q0)) (h : s_X7_tug_79 i0 p1 p2 p3 p4 p5 p6 p7 g w = some r) : Ev (EvM mth (d + 2)) mth c00 sc0 (retP (some .int) c00 Ψ) (lkp es_129) 79 [x0, x1, x2, x3, x4, x5, x6, x7, x8] [] (L0, g, w, q0) := by
  unfold s_X7_tug_79 at h
  refine ev_iconst (pc' := 80) rfl rfl (v := (-1 : Int32)) (by decide) ?_
  obtain rfl := Option.some.inj h
  exact ev_ireturn rfl ⟨⟨_, rfl, rfl⟩, rfl, rfl, hΨ⟩
def s_X7_tug (i0 : Nat) (p1 : Int32) (p2 : Int32) (p3 : Int32) (p4 : Int32) (p5 : Int32) (p6 : Int32) (p7 : Int32) (g : Nat → Nat → Nat → Int32) (w : Nat → Nat → Nat → Int64) : Option (Int32 × GS) :=
  if (s_X7_in p1.toInt64 (0 : Int64) (1 : Int64) g w) = true then
    if (s_X7_in p2.toInt64 (1 : Int64) (60 : Int64) g w) = true then
      if (s_X7_in p3.toInt64 (0 : Int64) (1 : Int64) g w) = true then
        if (s_X7_in p5.toInt64 (1 : Int64) (48 : Int64) g w) = true then
          if (s_X7_in p4.toInt64 (0 : Int64) p5.toInt64 g w) = true then
            if (s_X7_in p6.toInt64 (1 : Int64) (12 : Int64) g w) = true then
              if (s_X7_isBerth p7 g w) = true then
                if (lg_cmp (w 2218 0 (64 : Int32).toNatClampNeg) (6 : Int64)) ≠ 0 then
                  if inR (((70 : Int32) + ((10 : Int32) * (w 2218 0 (64 : Int32).toNatClampNeg).toInt32)) + (0 : Int32)) 218 = true then
                    if inR (((70 : Int32) + ((10 : Int32) * (w 2218 0 (64 : Int32).toNatClampNeg).toInt32)) + (1 : Int32)) 218 = true then
                      if inR (((70 : Int32) + ((10 : Int32) * (w 2218 0 (64 : Int32).toNatClampNeg).toInt32)) + (2 : Int32)) 218 = true then
                        if inR (((70 : Int32) + ((10 : Int32) * (w 2218 0 (64 : Int32).toNatClampNeg).toInt32)) + (3 : Int32)) 218 = true then
                          if inR (((70 : Int32) + ((10 : Int32) * (w 2218 0 (64 : Int32).toNatClampNeg).toInt32)) + (4 : Int32)) 218 = true then
                            if inR (((70 : Int32) + ((10 : Int32) * (w 2218 0 (64 : Int32).toNatClampNeg).toInt32)) + (5 : Int32)) 218 = true then
                              if inR (((70 : Int32) + ((10 : Int32) * (w 2218 0 (64 : Int32).toNatClampNeg).toInt32)) + (6 : Int32)) 218 = true then
                                if inR (((70 : Int32) + ((10 : Int32) * (w 2218 0 (64 : Int32).toNatClampNeg).toInt32)) + (7 : Int32)) 218 = true then
                                  if inR (((70 : Int32) + ((10 : Int32) * (w 2218 0 (64 : Int32).toNatClampNeg).toInt32)) + (8 : Int32)) 218 = true then
                                    if inR (((70 : Int32) + ((10 : Int32) * (w 2218 0 (64 : Int32).toNatClampNeg).toInt32)) + (9 : Int32)) 218 = true then
                                      some (((((wL (wL (wL (wL (wL (wL (wL (wL (wL (wL (wL w 2218 0 (((70 : Int32) + ((10 : Int32) * (w 2218 0 (64 : Int32).toNatClampNeg).toInt32)) + (0 : Int32)).toNatClampNeg p1.toInt64) 2218 0 (((70 : Int32) + ((10 : Int32) * (w 2218 0 (64 : Int32).toNatClampNeg).toInt32)) + (1 : Int32)).toNatClampNeg p2.toInt64) 2218 0 (((70 : Int32) + ((10 : Int32) * (w 2218 0 (64 : Int32).toNatClampNeg).toInt32)) + (2 : Int32)).toNatClampNeg p3.toInt64) 2218 0 (((70 : Int32) + ((10 : Int32) * (w 2218 0 (64 : Int32).toNatClampNeg).toInt32)) + (3 : Int32)).toNatClampNeg p4.toInt64) 2218 0 (((70 : Int32) + ((10 : Int32) * (w 2218 0 (64 : Int32).toNatClampNeg).toInt32)) + (4 : Int32)).toNatClampNeg p5.toInt64) 2218 0 (((70 : Int32) + ((10 : Int32) * (w 2218 0 (64 : Int32).toNatClampNeg).toInt32)) + (5 : Int32)).toNatClampNeg p6.toInt64) 2218 0 (((70 : Int32) + ((10 : Int32) * (w 2218 0 (64 : Int32).toNatClampNeg).toInt32)) + (6 : Int32)).toNatClampNeg p7.toInt64) 2218 0 (((70 : Int32) + ((10 : Int32) * (w 2218 0 (64 : Int32).toNatClampNeg).toInt32)) + (7 : Int32)).toNatClampNeg (48 : Int64)) 2218 0 (((70 : Int32) + ((10 : Int32) * (w 2218 0 (64 : Int32).toNatClampNeg).toInt32)) + (8 : Int32)).toNatClampNeg (0 : Int64)) 2218 0 (((70 : Int32) + ((10 : Int32) * (w 2218 0 (64 : Int32).toNatClampNeg).toInt32)) + (9 : Int32)).toNatClampNeg (0 : Int64)) 2218 0 (64 : Int32).toNatClampNeg (((wL (wL (wL (wL (wL (wL (wL (wL (wL (wL w 2218 0 (((70 : Int32) + ((10 : Int32) * (w 2218 0 (64 : Int32).toNatClampNeg).toInt32)) + (0 : Int32)).toNatClampNeg p1.toInt64) 2218 0 (((70 : Int32) + ((10 : Int32) * (w 2218 0 (64 : Int32).toNatClampNeg).toInt32)) + (1 : Int32)).toNatClampNeg p2.toInt64) 2218 0 (((70 : Int32) + ((10 : Int32) * (w 2218 0 (64 : Int32).toNatClampNeg).toInt32)) + (2 : Int32)).toNatClampNeg p3.toInt64) 2218 0 (((70 : Int32) + ((10 : Int32) * (w 2218 0 (64 : Int32).toNatClampNeg).toInt32)) + (3 : Int32)).toNatClampNeg p4.toInt64) 2218 0 (((70 : Int32) + ((10 : Int32) * (w 2218 0 (64 : Int32).toNatClampNeg).toInt32)) + (4 : Int32)).toNatClampNeg p5.toInt64) 2218 0 (((70 : Int32) + ((10 : Int32) * (w 2218 0 (64 : Int32).toNatClampNeg).toInt32)) + (5 : Int32)).toNatClampNeg p6.toInt64) 2218 0 (((70 : Int32) + ((10 : Int32) * (w 2218 0 (64 : Int32).toNatClampNeg).toInt32)) + (6 : Int32)).toNatClampNeg p7.toInt64) 2218 0 (((70 : Int32) + ((10 : Int32) * (w 2218 0 (64 : Int32).toNatClampNeg).toInt32)) + (7 : Int32)).toNatClampNeg (48 : Int64)) 2218 0 (((70 : Int32) + ((10 : Int32) * (w 2218 0 (64 : Int32).toNatClampNeg).toInt32)) + (8 : Int32)).toNatClampNeg (0 : Int64)) 2218 0 (((70 : Int32) + ((10 : Int32) * (w 2218 0 (64 : Int32).toNatClampNeg).toInt32)) + (9 : Int32)).toNatClampNeg (0 : Int64)) 2218 0 (64 : Int32).toNatClampNeg) + (1 : Int64))) 2218 0 (64 : Int32).toNatClampNeg).toInt32 - (1 : Int32)), g, (wL (wL (wL (wL (wL (wL (wL (wL (wL (wL (wL w 2218 0 (((70 : Int32) + ((10 : Int32) * (w 2218 0 (64 : Int32).toNatClampNeg).toInt32)) + (0 : Int32)).toNatClampNeg p1.toInt64) 2218 0 (((70 : Int32) + ((10 : Int32) * (w 2218 0 (64 : Int32).toNatClampNeg).toInt32)) + (1 : Int32)).toNatClampNeg p2.toInt64) 2218 0 (((70 : Int32) + ((10 : Int32) * (w 2218 0 (64 : Int32).toNatClampNeg).toInt32)) + (2 : Int32)).toNatClampNeg p3.toInt64) 2218 0 (((70 : Int32) + ((10 : Int32) * (w 2218 0 (64 : Int32).toNatClampNeg).toInt32)) + (3 : Int32)).toNatClampNeg p4.toInt64) 2218 0 (((70 : Int32) + ((10 : Int32) * (w 2218 0 (64 : Int32).toNatClampNeg).toInt32)) + (4 : Int32)).toNatClampNeg p5.toInt64) 2218 0 (((70 : Int32) + ((10 : Int32) * (w 2218 0 (64 : Int32).toNatClampNeg).toInt32)) + (5 : Int32)).toNatClampNeg p6.toInt64) 2218 0 (((70 : Int32) + ((10 : Int32) * (w 2218 0 (64 : Int32).toNatClampNeg).toInt32)) + (6 : Int32)).toNatClampNeg p7.toInt64) 2218 0 (((70 : Int32) + ((10 : Int32) * (w 2218 0 (64 : Int32).toNatClampNeg).toInt32)) + (7 : Int32)).toNatClampNeg (48 : Int64)) 2218 0 (((70 : Int32) + ((10 : Int32) * (w 2218 0 (64 : Int32).toNatClampNeg).toInt32)) + (8 : Int32)).toNatClampNeg (0 : Int64)) 2218 0 (((70 : Int32) + ((10 : Int32) * (w 2218 0 (64 : Int32).toNatClampNeg).toInt32)) + (9 : Int32)).toNatClampNeg (0 : Int64)) 2218 0 (64 : Int32).toNatClampNeg (((wL (wL (wL (wL (wL (wL (wL (wL (wL (wL w 2218 0 (((70 : Int32) + ((10 : Int32) * (w 2218 0 (64 : Int32).toNatClampNeg).toInt32)) + (0 : Int32)).toNatClampNeg p1.toInt64) 2218 0 (((70 : Int32) + ((10 : Int32) * (w 2218 0 (64 : Int32).toNatClampNeg).toInt32)) + (1 : Int32)).toNatClampNeg p2.toInt64) 2218 0 (((70 : Int32) + ((10 : Int32) * (w 2218 0 (64 : Int32).toNatClampNeg).toInt32)) + (2 : Int32)).toNatClampNeg p3.toInt64) 2218 0 (((70 : Int32) + ((10 : Int32) * (w 2218 0 (64 : Int32).toNatClampNeg).toInt32)) + (3 : Int32)).toNatClampNeg p4.toInt64) 2218 0 (((70 : Int32) + ((10 : Int32) * (w 2218 0 (64 : Int32).toNatClampNeg).toInt32)) + (4 : Int32)).toNatClampNeg p5.toInt64) 2218 0 (((70 : Int32) + ((10 : Int32) * (w 2218 0 (64 : Int32).toNatClampNeg).toInt32)) + (5 : Int32)).toNatClampNeg p6.toInt64) 2218 0 (((70 : Int32) + ((10 : Int32) * (w 2218 0 (64 : Int32).toNatClampNeg).toInt32)) + (6 : Int32)).toNatClampNeg p7.toInt64) 2218 0 (((70 : Int32) + ((10 : Int32) * (w 2218 0 (64 : Int32).toNatClampNeg).toInt32)) + (7 : Int32)).toNatClampNeg (48 : Int64)) 2218 0 (((70 : Int32) + ((10 : Int32) * (w 2218 0 (64 : Int32).toNatClampNeg).toInt32)) + (8 : Int32)).toNatClampNeg (0 : Int64)) 2218 0 (((70 : Int32) + ((10 : Int32) * (w 2218 0 (64 : Int32).toNatClampNeg).toInt32)) + (9 : Int32)).toNatClampNeg (0 : Int64)) 2218 0 (64 : Int32).toNatClampNeg) + (1 : Int64)))))
                                    else none
                                  else none
                                else none
                              else none
                            else none
                          else none
                        else none
                      else none
                    else none
                  else none
                else
                  some (((-3 : Int32), g, w))
              else
                s_X7_tug_79 i0 p1 p2 p3 p4 p5 p6 p7 g w
            else
              s_X7_tug_79 i0 p1 p2 p3 p4 p5 p6 p7 g w
          else
            s_X7_tug_79 i0 p1 p2 p3 p4 p5 p6 p7 g w
        else
          s_X7_tug_79 i0 p1 p2 p3 p4 p5 p6 p7 g w
      else
        s_X7_tug_79 i0 p1 p2 p3 p4 p5 p6 p7 g w
    else
      s_X7_tug_79 i0 p1 p2 p3 p4 p5 p6 p7 g w
  else
    s_X7_tug_79 i0 p1 p2 p3 p4 p5 p6 p7 g w
set_option maxRecDepth 20000 in
set_option maxHeartbeats 2000000 in
theorem d_X7_tug {d : Nat} {i0 : Nat} {p1 : Int32} {p2 : Int32} {p3 : Int32} {p4 : Int32} {p5 : Int32} {p6 : Int32} {p7 : Int32} {g : Nat → Nat → Nat → Int32} {w : Nat → Nat → Nat → Int64} {r : Int32 × GS} (h : s_X7_tug i0 p1 p2 p3 p4 p5 p6 p7 g w = some r) : Does (EvM mth (d + 3)) 129 [aR 7 i0, aI p1, aI p2, aI p3, aI p4, aI p5, aI p6, aI p7] (L0, g, w, q0) (some (aI r.1)) (L0, r.2.1, r.2.2, q0) := by
  intro Ψ hΨ
  refine ⟨in_129, mth_129, Nat.le_of_ble_eq_true rfl, ?_⟩
  show Ev (EvM mth (d + 2)) mth c00 sc0 (retP (some .int) c00 Ψ) (lkp es_129) 0 [some (aR 7 i0), some (aI p1), some (aI p2), some (aI p3), some (aI p4), some (aI p5), some (aI p6), some (aI p7), none] [] (L0, g, w, q0)
  unfold s_X7_tug at h
  refine ev_iload_n (pc' := 1) rfl rfl rfl ?_
  refine ev_i2l (pc' := 2) rfl rfl ?_
  refine ev_lconst (pc' := 3) rfl rfl (v := (0 : Int64)) (by decide) ?_
  refine ev_lconst (pc' := 4) rfl rfl (v := (1 : Int64)) (by decide) ?_
  refine ev_S3I (pc' := 7) rfl (by decide) rfl mth_115 ⟨Nat.le_of_ble_eq_true rfl, rfl⟩ ⟨Nat.le_refl _, Nat.le_refl _⟩ d_X7_in ?_
  refine ev_ifB_eq rfl (pc' := 10) rfl (fun hc => ?_) (fun hc => ?_)
  · have h := (if_neg hc).symm.trans h
    exact e_X7_tug_79 hΨ h
  · have h := (if_pos hc).symm.trans h
    refine ev_iload_n (pc' := 11) rfl rfl rfl ?_
    refine ev_i2l (pc' := 12) rfl rfl ?_
    refine ev_lconst (pc' := 13) rfl rfl (v := (1 : Int64)) (by decide) ?_
    refine ev_ldc2_w (pc' := 16) rfl rfl (v := (60 : Int64)) (by decide) ?_
    refine ev_S3I (pc' := 19) rfl (by decide) rfl mth_115 ⟨Nat.le_of_ble_eq_true rfl, rfl⟩ ⟨Nat.le_refl _, Nat.le_refl _⟩ d_X7_in ?_
    refine ev_ifB_eq rfl (pc' := 22) rfl (fun hc => ?_) (fun hc => ?_)
    · have h := (if_neg hc).symm.trans h
      exact e_X7_tug_79 hΨ h
    · have h := (if_pos hc).symm.trans h
      refine ev_iload_n (pc' := 23) rfl rfl rfl ?_
      refine ev_i2l (pc' := 24) rfl rfl ?_
      refine ev_lconst (pc' := 25) rfl rfl (v := (0 : Int64)) (by decide) ?_
      refine ev_lconst (pc' := 26) rfl rfl (v := (1 : Int64)) (by decide) ?_
      refine ev_S3I (pc' := 29) rfl (by decide) rfl mth_115 ⟨Nat.le_of_ble_eq_true rfl, rfl⟩ ⟨Nat.le_refl _, Nat.le_refl _⟩ d_X7_in ?_
      refine ev_ifB_eq rfl (pc' := 32) rfl (fun hc => ?_) (fun hc => ?_)
      · have h := (if_neg hc).symm.trans h
        exact e_X7_tug_79 hΨ h
      · have h := (if_pos hc).symm.trans h
        refine ev_iload (pc' := 34) rfl rfl rfl ?_
        refine ev_i2l (pc' := 35) rfl rfl ?_
        refine ev_lconst (pc' := 36) rfl rfl (v := (1 : Int64)) (by decide) ?_
        refine ev_ldc2_w (pc' := 39) rfl rfl (v := (48 : Int64)) (by decide) ?_
        refine ev_S3I (pc' := 42) rfl (by decide) rfl mth_115 ⟨Nat.le_of_ble_eq_true rfl, rfl⟩ ⟨Nat.le_refl _, Nat.le_refl _⟩ d_X7_in ?_
        refine ev_ifB_eq rfl (pc' := 45) rfl (fun hc => ?_) (fun hc => ?_)
        · have h := (if_neg hc).symm.trans h
          exact e_X7_tug_79 hΨ h
        · have h := (if_pos hc).symm.trans h
          refine ev_iload (pc' := 47) rfl rfl rfl ?_
          refine ev_i2l (pc' := 48) rfl rfl ?_
          refine ev_lconst (pc' := 49) rfl rfl (v := (0 : Int64)) (by decide) ?_
          refine ev_iload (pc' := 51) rfl rfl rfl ?_
          refine ev_i2l (pc' := 52) rfl rfl ?_
          refine ev_S3I (pc' := 55) rfl (by decide) rfl mth_115 ⟨Nat.le_of_ble_eq_true rfl, rfl⟩ ⟨Nat.le_refl _, Nat.le_refl _⟩ d_X7_in ?_
          refine ev_ifB_eq rfl (pc' := 58) rfl (fun hc => ?_) (fun hc => ?_)
          · have h := (if_neg hc).symm.trans h
            exact e_X7_tug_79 hΨ h
          · have h := (if_pos hc).symm.trans h
            refine ev_iload (pc' := 60) rfl rfl rfl ?_
            refine ev_i2l (pc' := 61) rfl rfl ?_
            refine ev_lconst (pc' := 62) rfl rfl (v := (1 : Int64)) (by decide) ?_
            refine ev_ldc2_w (pc' := 65) rfl rfl (v := (12 : Int64)) (by decide) ?_
            refine ev_S3I (pc' := 68) rfl (by decide) rfl mth_115 ⟨Nat.le_of_ble_eq_true rfl, rfl⟩ ⟨Nat.le_refl _, Nat.le_refl _⟩ d_X7_in ?_
            refine ev_ifB_eq rfl (pc' := 71) rfl (fun hc => ?_) (fun hc => ?_)
            · have h := (if_neg hc).symm.trans h
              exact e_X7_tug_79 hΨ h
            · have h := (if_pos hc).symm.trans h
              refine ev_iload (pc' := 73) rfl rfl rfl ?_
              refine ev_S1I (pc' := 76) rfl (by decide) rfl mth_121 ⟨Nat.le_of_ble_eq_true rfl, rfl⟩ ⟨Nat.le_refl _, Nat.le_refl _⟩ d_X7_isBerth ?_
              refine ev_ifB_ne rfl (pc' := 79) rfl (fun hc => ?_) (fun hc => ?_)
              · have h := (if_pos hc).symm.trans h
                refine ev_aload_n (pc' := 82) rfl rfl rfl ?_
                refine ev_getQ (pc' := 85) rfl rfl rfl ?_
                refine ev_bipush (pc' := 87) rfl rfl (v := (64 : Int32)) (by decide) ?_
                refine ev_lald (pc' := 88) rfl rfl rfl (inR_vp (by decide)) ?_
                refine ev_ldc2_w (pc' := 91) rfl rfl (v := (6 : Int64)) (by decide) ?_
                refine ev_lcmp (pc' := 92) rfl rfl ?_
                refine ev_if_ne rfl (pc' := 95) rfl (fun hc => ?_) (fun hc => ?_)
                · have h := (if_pos hc).symm.trans h
                  refine ev_bipush (pc' := 100) rfl rfl (v := (70 : Int32)) (by decide) ?_
                  refine ev_bipush (pc' := 102) rfl rfl (v := (10 : Int32)) (by decide) ?_
                  refine ev_aload_n (pc' := 103) rfl rfl rfl ?_
                  refine ev_getQ (pc' := 106) rfl rfl rfl ?_
                  refine ev_bipush (pc' := 108) rfl rfl (v := (64 : Int32)) (by decide) ?_
                  refine ev_lald (pc' := 109) rfl rfl rfl (inR_vp (by decide)) ?_
                  refine ev_l2i (pc' := 110) rfl rfl ?_
                  refine ev_imul (pc' := 111) rfl rfl ?_
                  refine ev_iadd (pc' := 112) rfl rfl ?_
                  refine ev_istore (pc' := 114) rfl rfl (l' := [some (aR 7 i0), some (aI p1), some (aI p2), some (aI p3), some (aI p4), some (aI p5), some (aI p6), some (aI p7), some (aI ((70 : Int32) + ((10 : Int32) * (w 2218 0 (64 : Int32).toNatClampNeg).toInt32)))]) rfl ?_
                  refine ev_aload_n (pc' := 115) rfl rfl rfl ?_
                  refine ev_getQ (pc' := 118) rfl rfl rfl ?_
                  refine ev_iload (pc' := 120) rfl rfl rfl ?_
                  refine ev_iconst (pc' := 121) rfl rfl (v := (0 : Int32)) (by decide) ?_
                  refine ev_iadd (pc' := 122) rfl rfl ?_
                  refine ev_iload_n (pc' := 123) rfl rfl rfl ?_
                  refine ev_i2l (pc' := 124) rfl rfl ?_
                  obtain ⟨hi, h⟩ := gdB h
                  refine ev_last (pc' := 125) rfl rfl rfl (inR_vp hi) ?_
                  refine ev_aload_n (pc' := 126) rfl rfl rfl ?_
                  refine ev_getQ (pc' := 129) rfl rfl rfl ?_
                  refine ev_iload (pc' := 131) rfl rfl rfl ?_
                  refine ev_iconst (pc' := 132) rfl rfl (v := (1 : Int32)) (by decide) ?_
                  refine ev_iadd (pc' := 133) rfl rfl ?_
                  refine ev_iload_n (pc' := 134) rfl rfl rfl ?_
                  refine ev_i2l (pc' := 135) rfl rfl ?_
                  obtain ⟨hi, h⟩ := gdB h
                  refine ev_last (pc' := 136) rfl rfl rfl (inR_vp hi) ?_
                  refine ev_aload_n (pc' := 137) rfl rfl rfl ?_
                  refine ev_getQ (pc' := 140) rfl rfl rfl ?_
                  refine ev_iload (pc' := 142) rfl rfl rfl ?_
                  refine ev_iconst (pc' := 143) rfl rfl (v := (2 : Int32)) (by decide) ?_
                  refine ev_iadd (pc' := 144) rfl rfl ?_
                  refine ev_iload_n (pc' := 145) rfl rfl rfl ?_
                  refine ev_i2l (pc' := 146) rfl rfl ?_
                  obtain ⟨hi, h⟩ := gdB h
                  refine ev_last (pc' := 147) rfl rfl rfl (inR_vp hi) ?_
                  refine ev_aload_n (pc' := 148) rfl rfl rfl ?_
                  refine ev_getQ (pc' := 151) rfl rfl rfl ?_
                  refine ev_iload (pc' := 153) rfl rfl rfl ?_
                  refine ev_iconst (pc' := 154) rfl rfl (v := (3 : Int32)) (by decide) ?_
                  refine ev_iadd (pc' := 155) rfl rfl ?_
                  refine ev_iload (pc' := 157) rfl rfl rfl ?_
                  refine ev_i2l (pc' := 158) rfl rfl ?_
                  obtain ⟨hi, h⟩ := gdB h
                  refine ev_last (pc' := 159) rfl rfl rfl (inR_vp hi) ?_
                  refine ev_aload_n (pc' := 160) rfl rfl rfl ?_
                  refine ev_getQ (pc' := 163) rfl rfl rfl ?_
                  refine ev_iload (pc' := 165) rfl rfl rfl ?_
                  refine ev_iconst (pc' := 166) rfl rfl (v := (4 : Int32)) (by decide) ?_
                  refine ev_iadd (pc' := 167) rfl rfl ?_
                  refine ev_iload (pc' := 169) rfl rfl rfl ?_
                  refine ev_i2l (pc' := 170) rfl rfl ?_
                  obtain ⟨hi, h⟩ := gdB h
                  refine ev_last (pc' := 171) rfl rfl rfl (inR_vp hi) ?_
                  refine ev_aload_n (pc' := 172) rfl rfl rfl ?_
                  refine ev_getQ (pc' := 175) rfl rfl rfl ?_
                  refine ev_iload (pc' := 177) rfl rfl rfl ?_
                  refine ev_iconst (pc' := 178) rfl rfl (v := (5 : Int32)) (by decide) ?_
                  refine ev_iadd (pc' := 179) rfl rfl ?_
                  refine ev_iload (pc' := 181) rfl rfl rfl ?_
                  refine ev_i2l (pc' := 182) rfl rfl ?_
                  obtain ⟨hi, h⟩ := gdB h
                  refine ev_last (pc' := 183) rfl rfl rfl (inR_vp hi) ?_
                  refine ev_aload_n (pc' := 184) rfl rfl rfl ?_
                  refine ev_getQ (pc' := 187) rfl rfl rfl ?_
                  refine ev_iload (pc' := 189) rfl rfl rfl ?_
                  refine ev_bipush (pc' := 191) rfl rfl (v := (6 : Int32)) (by decide) ?_
                  refine ev_iadd (pc' := 192) rfl rfl ?_
                  refine ev_iload (pc' := 194) rfl rfl rfl ?_
                  refine ev_i2l (pc' := 195) rfl rfl ?_
                  obtain ⟨hi, h⟩ := gdB h
                  refine ev_last (pc' := 196) rfl rfl rfl (inR_vp hi) ?_
                  refine ev_aload_n (pc' := 197) rfl rfl rfl ?_
                  refine ev_getQ (pc' := 200) rfl rfl rfl ?_
                  refine ev_iload (pc' := 202) rfl rfl rfl ?_
                  refine ev_bipush (pc' := 204) rfl rfl (v := (7 : Int32)) (by decide) ?_
                  refine ev_iadd (pc' := 205) rfl rfl ?_
                  refine ev_ldc2_w (pc' := 208) rfl rfl (v := (48 : Int64)) (by decide) ?_
                  obtain ⟨hi, h⟩ := gdB h
                  refine ev_last (pc' := 209) rfl rfl rfl (inR_vp hi) ?_
                  refine ev_aload_n (pc' := 210) rfl rfl rfl ?_
                  refine ev_getQ (pc' := 213) rfl rfl rfl ?_
                  refine ev_iload (pc' := 215) rfl rfl rfl ?_
                  refine ev_bipush (pc' := 217) rfl rfl (v := (8 : Int32)) (by decide) ?_
                  refine ev_iadd (pc' := 218) rfl rfl ?_
                  refine ev_lconst (pc' := 219) rfl rfl (v := (0 : Int64)) (by decide) ?_
                  obtain ⟨hi, h⟩ := gdB h
                  refine ev_last (pc' := 220) rfl rfl rfl (inR_vp hi) ?_
                  refine ev_aload_n (pc' := 221) rfl rfl rfl ?_
                  refine ev_getQ (pc' := 224) rfl rfl rfl ?_
                  refine ev_iload (pc' := 226) rfl rfl rfl ?_
                  refine ev_bipush (pc' := 228) rfl rfl (v := (9 : Int32)) (by decide) ?_
                  refine ev_iadd (pc' := 229) rfl rfl ?_
                  refine ev_lconst (pc' := 230) rfl rfl (v := (0 : Int64)) (by decide) ?_
                  obtain ⟨hi, h⟩ := gdB h
                  refine ev_last (pc' := 231) rfl rfl rfl (inR_vp hi) ?_
                  refine ev_aload_n (pc' := 232) rfl rfl rfl ?_
                  refine ev_getQ (pc' := 235) rfl rfl rfl ?_
                  refine ev_bipush (pc' := 237) rfl rfl (v := (64 : Int32)) (by decide) ?_
                  refine ev_dup2 (pc' := 238) rfl rfl rfl rfl ?_
                  refine ev_lald (pc' := 239) rfl rfl rfl (inR_vp (by decide)) ?_
                  refine ev_lconst (pc' := 240) rfl rfl (v := (1 : Int64)) (by decide) ?_
                  refine ev_ladd (pc' := 241) rfl rfl ?_
                  refine ev_last (pc' := 242) rfl rfl rfl (inR_vp (by decide)) ?_
                  refine ev_aload_n (pc' := 243) rfl rfl rfl ?_
                  refine ev_getQ (pc' := 246) rfl rfl rfl ?_
                  refine ev_bipush (pc' := 248) rfl rfl (v := (64 : Int32)) (by decide) ?_
                  refine ev_lald (pc' := 249) rfl rfl rfl (inR_vp (by decide)) ?_
                  refine ev_l2i (pc' := 250) rfl rfl ?_
                  refine ev_iconst (pc' := 251) rfl rfl (v := (1 : Int32)) (by decide) ?_
                  refine ev_isub (pc' := 252) rfl rfl ?_
                  obtain rfl := Option.some.inj h
                  exact ev_ireturn rfl ⟨⟨_, rfl, rfl⟩, rfl, rfl, hΨ⟩
                · have h := (if_neg hc).symm.trans h
                  refine ev_bipush (pc' := 97) rfl rfl (v := (-3 : Int32)) (by decide) ?_
                  obtain rfl := Option.some.inj h
                  exact ev_ireturn rfl ⟨⟨_, rfl, rfl⟩, rfl, rfl, hΨ⟩
              · have h := (if_neg hc).symm.trans h
                exact e_X7_tug_79 hΨ h
