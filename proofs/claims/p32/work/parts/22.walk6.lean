def s_X7_passes_186 (i0 : Nat) (p1 : Int32) (p2 : Int32) (t0 : Bool) (g : Nat → Nat → Nat → Int32) (w : Nat → Nat → Nat → Int64) : Option (Bool) :=
  some (t0)
set_option maxRecDepth 20000 in
set_option maxHeartbeats 2000000 in
theorem e_X7_passes_186 {d : Nat} {Ψ : Option AV → DS → Prop} {i0 : Nat} {p1 : Int32} {p2 : Int32} {r : Bool} {g : Nat → Nat → Nat → Int32} {w : Nat → Nat → Nat → Int64} {t0 : Bool} {x0 : Option AV} {x1 : Option AV} {x2 : Option AV} {x3 : Option AV} {x4 : Option AV} (hΨ : Ψ (some (aI (bI r))) (L0, g, w, q0)) (h : s_X7_passes_186 i0 p1 p2 t0 g w = some r) : Ev (EvM mth (d + 2)) mth c00 sc0 (retP (some .boolean) c00 Ψ) (lkp es_183) 186 [x0, x1, x2, x3, x4] [aI (bI t0)] (L0, g, w, q0) := by
  unfold s_X7_passes_186 at h
  obtain rfl := Option.some.inj h
  exact ev_ireturn rfl ⟨⟨_, rfl, nar_bI _⟩, rfl, rfl, hΨ⟩
def s_X7_passes_167 (i0 : Nat) (p1 : Int32) (p2 : Int32) (t0 : Bool) (g : Nat → Nat → Nat → Int32) (w : Nat → Nat → Nat → Int64) : Option (Bool) :=
  some (t0)
set_option maxRecDepth 20000 in
set_option maxHeartbeats 2000000 in
theorem e_X7_passes_167 {d : Nat} {Ψ : Option AV → DS → Prop} {i0 : Nat} {p1 : Int32} {p2 : Int32} {r : Bool} {g : Nat → Nat → Nat → Int32} {w : Nat → Nat → Nat → Int64} {t0 : Bool} {x0 : Option AV} {x1 : Option AV} {x2 : Option AV} {x3 : Option AV} {x4 : Option AV} (hΨ : Ψ (some (aI (bI r))) (L0, g, w, q0)) (h : s_X7_passes_167 i0 p1 p2 t0 g w = some r) : Ev (EvM mth (d + 2)) mth c00 sc0 (retP (some .boolean) c00 Ψ) (lkp es_183) 167 [x0, x1, x2, x3, x4] [aI (bI t0)] (L0, g, w, q0) := by
  unfold s_X7_passes_167 at h
  obtain rfl := Option.some.inj h
  exact ev_ireturn rfl ⟨⟨_, rfl, nar_bI _⟩, rfl, rfl, hΨ⟩
def s_X7_passes_145 (i0 : Nat) (p1 : Int32) (p2 : Int32) (t0 : Bool) (g : Nat → Nat → Nat → Int32) (w : Nat → Nat → Nat → Int64) : Option (Bool) :=
  some (t0)
set_option maxRecDepth 20000 in
set_option maxHeartbeats 2000000 in
theorem e_X7_passes_145 {d : Nat} {Ψ : Option AV → DS → Prop} {i0 : Nat} {p1 : Int32} {p2 : Int32} {r : Bool} {g : Nat → Nat → Nat → Int32} {w : Nat → Nat → Nat → Int64} {t0 : Bool} {x0 : Option AV} {x1 : Option AV} {x2 : Option AV} {x3 : Option AV} {x4 : Option AV} (hΨ : Ψ (some (aI (bI r))) (L0, g, w, q0)) (h : s_X7_passes_145 i0 p1 p2 t0 g w = some r) : Ev (EvM mth (d + 2)) mth c00 sc0 (retP (some .boolean) c00 Ψ) (lkp es_183) 145 [x0, x1, x2, x3, x4] [aI (bI t0)] (L0, g, w, q0) := by
  unfold s_X7_passes_145 at h
  obtain rfl := Option.some.inj h
  exact ev_ireturn rfl ⟨⟨_, rfl, nar_bI _⟩, rfl, rfl, hΨ⟩
def s_X7_passes_124 (i0 : Nat) (p1 : Int32) (p2 : Int32) (t0 : Bool) (g : Nat → Nat → Nat → Int32) (w : Nat → Nat → Nat → Int64) : Option (Bool) :=
  some (t0)
set_option maxRecDepth 20000 in
set_option maxHeartbeats 2000000 in
theorem e_X7_passes_124 {d : Nat} {Ψ : Option AV → DS → Prop} {i0 : Nat} {p1 : Int32} {p2 : Int32} {r : Bool} {g : Nat → Nat → Nat → Int32} {w : Nat → Nat → Nat → Int64} {t0 : Bool} {x0 : Option AV} {x1 : Option AV} {x2 : Option AV} {x3 : Option AV} {x4 : Option AV} (hΨ : Ψ (some (aI (bI r))) (L0, g, w, q0)) (h : s_X7_passes_124 i0 p1 p2 t0 g w = some r) : Ev (EvM mth (d + 2)) mth c00 sc0 (retP (some .boolean) c00 Ψ) (lkp es_183) 124 [x0, x1, x2, x3, x4] [aI (bI t0)] (L0, g, w, q0) := by
  unfold s_X7_passes_124 at h
  obtain rfl := Option.some.inj h
  exact ev_ireturn rfl ⟨⟨_, rfl, nar_bI _⟩, rfl, rfl, hΨ⟩
def s_X7_passes_119 (i0 : Nat) (p1 : Int32) (p2 : Int32) (g : Nat → Nat → Nat → Int32) (w : Nat → Nat → Nat → Int64) : Option (Bool) :=
  s_X7_passes_124 i0 p1 p2 true g w
set_option maxRecDepth 20000 in
set_option maxHeartbeats 2000000 in
theorem e_X7_passes_119 {d : Nat} {Ψ : Option AV → DS → Prop} {i0 : Nat} {p1 : Int32} {p2 : Int32} {r : Bool} {g : Nat → Nat → Nat → Int32} {w : Nat → Nat → Nat → Int64} {x0 : Option AV} {x1 : Option AV} {x2 : Option AV} {x3 : Option AV} {x4 : Option AV} (hΨ : Ψ (some (aI (bI r))) (L0, g, w, q0)) (h : s_X7_passes_119 i0 p1 p2 g w = some r) : Ev (EvM mth (d + 2)) mth c00 sc0 (retP (some .boolean) c00 Ψ) (lkp es_183) 119 [x0, x1, x2, x3, x4] [] (L0, g, w, q0) := by
  unfold s_X7_passes_119 at h
  refine ev_iconst (pc' := 120) rfl rfl (v := (1 : Int32)) (by decide) ?_
  refine ev_goto (pc' := 124) rfl ?_
  exact e_X7_passes_124 hΨ h
def s_X7_passes_100 (i0 : Nat) (p1 : Int32) (p2 : Int32) (t0 : Bool) (g : Nat → Nat → Nat → Int32) (w : Nat → Nat → Nat → Int64) : Option (Bool) :=
  some (t0)
set_option maxRecDepth 20000 in
set_option maxHeartbeats 2000000 in
theorem e_X7_passes_100 {d : Nat} {Ψ : Option AV → DS → Prop} {i0 : Nat} {p1 : Int32} {p2 : Int32} {r : Bool} {g : Nat → Nat → Nat → Int32} {w : Nat → Nat → Nat → Int64} {t0 : Bool} {x0 : Option AV} {x1 : Option AV} {x2 : Option AV} {x3 : Option AV} {x4 : Option AV} (hΨ : Ψ (some (aI (bI r))) (L0, g, w, q0)) (h : s_X7_passes_100 i0 p1 p2 t0 g w = some r) : Ev (EvM mth (d + 2)) mth c00 sc0 (retP (some .boolean) c00 Ψ) (lkp es_183) 100 [x0, x1, x2, x3, x4] [aI (bI t0)] (L0, g, w, q0) := by
  unfold s_X7_passes_100 at h
  obtain rfl := Option.some.inj h
  exact ev_ireturn rfl ⟨⟨_, rfl, nar_bI _⟩, rfl, rfl, hΨ⟩
def s_X7_passes_78 (i0 : Nat) (p1 : Int32) (p2 : Int32) (t0 : Bool) (g : Nat → Nat → Nat → Int32) (w : Nat → Nat → Nat → Int64) : Option (Bool) :=
  some (t0)
set_option maxRecDepth 20000 in
set_option maxHeartbeats 2000000 in
theorem e_X7_passes_78 {d : Nat} {Ψ : Option AV → DS → Prop} {i0 : Nat} {p1 : Int32} {p2 : Int32} {r : Bool} {g : Nat → Nat → Nat → Int32} {w : Nat → Nat → Nat → Int64} {t0 : Bool} {x0 : Option AV} {x1 : Option AV} {x2 : Option AV} {x3 : Option AV} {x4 : Option AV} (hΨ : Ψ (some (aI (bI r))) (L0, g, w, q0)) (h : s_X7_passes_78 i0 p1 p2 t0 g w = some r) : Ev (EvM mth (d + 2)) mth c00 sc0 (retP (some .boolean) c00 Ψ) (lkp es_183) 78 [x0, x1, x2, x3, x4] [aI (bI t0)] (L0, g, w, q0) := by
  unfold s_X7_passes_78 at h
  obtain rfl := Option.some.inj h
  exact ev_ireturn rfl ⟨⟨_, rfl, nar_bI _⟩, rfl, rfl, hΨ⟩
def s_X7_passes (i0 : Nat) (p1 : Int32) (p2 : Int32) (g : Nat → Nat → Nat → Int32) (w : Nat → Nat → Nat → Int64) : Option (Bool) :=
  (s_X7_ofShip i0 p2 (7 : Int32) g w).bind fun q1 =>
  if inR p1 12 = true then
    if inR p1 12 = true then
      if (g 1012 9 p1.toNatClampNeg) = (0 : Int32) then
        some (true)
      else
      if (g 1012 9 p1.toNatClampNeg) = (1 : Int32) then
        (s_X7_ofShip i0 p2 (0 : Int32) g w).bind fun q2 =>
        if q2 < (g 1012 10 p1.toNatClampNeg) then
          s_X7_passes_78 i0 p1 p2 false g w
        else
          s_X7_passes_78 i0 p1 p2 true g w
      else
      if (g 1012 9 p1.toNatClampNeg) = (2 : Int32) then
        if inR ((12 : Int32) + q1) 218 = true then
          if (lg_cmp (w 2218 0 ((12 : Int32) + q1).toNatClampNeg) (g 1012 10 p1.toNatClampNeg).toInt64) < 0 then
            s_X7_passes_100 i0 p1 p2 false g w
          else
            s_X7_passes_100 i0 p1 p2 true g w
        else none
      else
      if (g 1012 9 p1.toNatClampNeg) = (3 : Int32) then
        if (q1 - q1 / (24 : Int32) * (24 : Int32)) < (6 : Int32) then
          s_X7_passes_119 i0 p1 p2 g w
        else
          if (q1 - q1 / (24 : Int32) * (24 : Int32)) < (20 : Int32) then
            s_X7_passes_124 i0 p1 p2 false g w
          else
            s_X7_passes_119 i0 p1 p2 g w
      else
      if (g 1012 9 p1.toNatClampNeg) = (4 : Int32) then
        (s_X7_ofShip i0 p2 (8 : Int32) g w).bind fun q3 =>
        (s_X7_bits q3 g w).bind fun q4 =>
        if q4 < (g 1012 10 p1.toNatClampNeg) then
          s_X7_passes_145 i0 p1 p2 false g w
        else
          s_X7_passes_145 i0 p1 p2 true g w
      else
      if (g 1012 9 p1.toNatClampNeg) = (5 : Int32) then
        (s_X7_ofShip i0 p2 (8 : Int32) g w).bind fun q5 =>
        (s_X7_pullOf i0 q5 g w).bind fun q6 =>
        if q6 < (g 1012 10 p1.toNatClampNeg) then
          s_X7_passes_167 i0 p1 p2 false g w
        else
          s_X7_passes_167 i0 p1 p2 true g w
      else
        (s_X7_ofShip i0 p2 (2 : Int32) g w).bind fun q7 =>
        if (q1 - q7) < (g 1012 10 p1.toNatClampNeg) then
          s_X7_passes_186 i0 p1 p2 false g w
        else
          s_X7_passes_186 i0 p1 p2 true g w
    else none
  else none
set_option maxRecDepth 20000 in
set_option maxHeartbeats 2000000 in
theorem d_X7_passes {d : Nat} {i0 : Nat} {p1 : Int32} {p2 : Int32} {g : Nat → Nat → Nat → Int32} {w : Nat → Nat → Nat → Int64} {r : Bool} (h : s_X7_passes i0 p1 p2 g w = some r) : Does (EvM mth (d + 3)) 183 [aR 7 i0, aI p1, aI p2] (L0, g, w, q0) (some (aI (bI r))) (L0, g, w, q0) := by
  intro Ψ hΨ
  refine ⟨in_183, mth_183, Nat.le_of_ble_eq_true rfl, ?_⟩
  show Ev (EvM mth (d + 2)) mth c00 sc0 (retP (some .boolean) c00 Ψ) (lkp es_183) 0 [some (aR 7 i0), some (aI p1), some (aI p2), none, none] [] (L0, g, w, q0)
  unfold s_X7_passes at h
  refine ev_aload_n (pc' := 1) rfl rfl rfl ?_
  refine ev_iload_n (pc' := 2) rfl rfl rfl ?_
  refine ev_bipush (pc' := 4) rfl rfl (v := (7 : Int32)) (by decide) ?_
  obtain ⟨q1, hq1, h⟩ := Option.bind_eq_some_iff.mp h
  refine ev_V3I (pc' := 7) rfl (by decide) rfl mth_118 ⟨Nat.le_of_ble_eq_true rfl, rfl⟩ ⟨Nat.le_refl _, Nat.le_refl _⟩ (d_X7_ofShip hq1) ?_
  refine ev_istore_n (pc' := 8) rfl rfl (l' := [some (aR 7 i0), some (aI p1), some (aI p2), some (aI q1), none]) rfl ?_
  refine ev_aload_n (pc' := 9) rfl rfl rfl ?_
  refine ev_getQ (pc' := 12) rfl rfl rfl ?_
  refine ev_iload_n (pc' := 13) rfl rfl rfl ?_
  obtain ⟨hi, h⟩ := gdB h
  refine ev_iald (pc' := 14) rfl rfl rfl (inR_vp hi) ?_
  refine ev_istore (pc' := 16) rfl rfl (l' := [some (aR 7 i0), some (aI p1), some (aI p2), some (aI q1), some (aI (g 1012 10 p1.toNatClampNeg))]) rfl ?_
  refine ev_aload_n (pc' := 17) rfl rfl rfl ?_
  refine ev_getQ (pc' := 20) rfl rfl rfl ?_
  refine ev_iload_n (pc' := 21) rfl rfl rfl ?_
  obtain ⟨hi, h⟩ := gdB h
  refine ev_iald (pc' := 22) rfl rfl rfl (inR_vp hi) ?_
  refine ev_tsw rfl (fun hd => ?_) (fun n u hn hv => ?_)
  · skip
    have h := (if_neg (show ¬ (g 1012 9 p1.toNatClampNeg) = (0 : Int32) from fun e9 => by rw [e9] at hd; revert hd; decide)).symm.trans h
    have h := (if_neg (show ¬ (g 1012 9 p1.toNatClampNeg) = (1 : Int32) from fun e9 => by rw [e9] at hd; revert hd; decide)).symm.trans h
    have h := (if_neg (show ¬ (g 1012 9 p1.toNatClampNeg) = (2 : Int32) from fun e9 => by rw [e9] at hd; revert hd; decide)).symm.trans h
    have h := (if_neg (show ¬ (g 1012 9 p1.toNatClampNeg) = (3 : Int32) from fun e9 => by rw [e9] at hd; revert hd; decide)).symm.trans h
    have h := (if_neg (show ¬ (g 1012 9 p1.toNatClampNeg) = (4 : Int32) from fun e9 => by rw [e9] at hd; revert hd; decide)).symm.trans h
    have h := (if_neg (show ¬ (g 1012 9 p1.toNatClampNeg) = (5 : Int32) from fun e9 => by rw [e9] at hd; revert hd; decide)).symm.trans h
    refine ev_iload_n (pc' := 169) rfl rfl rfl ?_
    refine ev_aload_n (pc' := 170) rfl rfl rfl ?_
    refine ev_iload_n (pc' := 171) rfl rfl rfl ?_
    refine ev_iconst (pc' := 172) rfl rfl (v := (2 : Int32)) (by decide) ?_
    obtain ⟨q7, hq7, h⟩ := Option.bind_eq_some_iff.mp h
    refine ev_V3I (pc' := 175) rfl (by decide) rfl mth_118 ⟨Nat.le_of_ble_eq_true rfl, rfl⟩ ⟨Nat.le_refl _, Nat.le_refl _⟩ (d_X7_ofShip hq7) ?_
    refine ev_isub (pc' := 176) rfl rfl ?_
    refine ev_iload (pc' := 178) rfl rfl rfl ?_
    refine ev_icmp_lt rfl (pc' := 181) rfl (fun hc => ?_) (fun hc => ?_)
    · have h := (if_pos hc).symm.trans h
      refine ev_iconst (pc' := 186) rfl rfl (v := (0 : Int32)) (by decide) ?_
      exact e_X7_passes_186 hΨ h
    · have h := (if_neg hc).symm.trans h
      refine ev_iconst (pc' := 182) rfl rfl (v := (1 : Int32)) (by decide) ?_
      refine ev_goto (pc' := 186) rfl ?_
      exact e_X7_passes_186 hΨ h
  · match n, hn with
    | 0, hn =>
      obtain rfl := Option.some.inj hn
      have e9 : (g 1012 9 p1.toNatClampNeg) = (0 : Int32) := Int32.toInt_inj.mp (hv.trans (by decide))
      have h := (if_pos e9).symm.trans h
      refine ev_iconst (pc' := 61) rfl rfl (v := (1 : Int32)) (by decide) ?_
      obtain rfl := Option.some.inj h
      exact ev_ireturn rfl ⟨⟨_, rfl, rfl⟩, rfl, rfl, hΨ⟩
    | 1, hn =>
      obtain rfl := Option.some.inj hn
      have e9 : (g 1012 9 p1.toNatClampNeg) = (1 : Int32) := Int32.toInt_inj.mp (hv.trans (by decide))
      have h := (if_neg (show ¬ (g 1012 9 p1.toNatClampNeg) = (0 : Int32) from by rw [e9]; decide)).symm.trans h
      have h := (if_pos e9).symm.trans h
      refine ev_aload_n (pc' := 63) rfl rfl rfl ?_
      refine ev_iload_n (pc' := 64) rfl rfl rfl ?_
      refine ev_iconst (pc' := 65) rfl rfl (v := (0 : Int32)) (by decide) ?_
      obtain ⟨q2, hq2, h⟩ := Option.bind_eq_some_iff.mp h
      refine ev_V3I (pc' := 68) rfl (by decide) rfl mth_118 ⟨Nat.le_of_ble_eq_true rfl, rfl⟩ ⟨Nat.le_refl _, Nat.le_refl _⟩ (d_X7_ofShip hq2) ?_
      refine ev_iload (pc' := 70) rfl rfl rfl ?_
      refine ev_icmp_lt rfl (pc' := 73) rfl (fun hc => ?_) (fun hc => ?_)
      · have h := (if_pos hc).symm.trans h
        refine ev_iconst (pc' := 78) rfl rfl (v := (0 : Int32)) (by decide) ?_
        exact e_X7_passes_78 hΨ h
      · have h := (if_neg hc).symm.trans h
        refine ev_iconst (pc' := 74) rfl rfl (v := (1 : Int32)) (by decide) ?_
        refine ev_goto (pc' := 78) rfl ?_
        exact e_X7_passes_78 hΨ h
    | 2, hn =>
      obtain rfl := Option.some.inj hn
      have e9 : (g 1012 9 p1.toNatClampNeg) = (2 : Int32) := Int32.toInt_inj.mp (hv.trans (by decide))
      have h := (if_neg (show ¬ (g 1012 9 p1.toNatClampNeg) = (0 : Int32) from by rw [e9]; decide)).symm.trans h
      have h := (if_neg (show ¬ (g 1012 9 p1.toNatClampNeg) = (1 : Int32) from by rw [e9]; decide)).symm.trans h
      have h := (if_pos e9).symm.trans h
      refine ev_aload_n (pc' := 80) rfl rfl rfl ?_
      refine ev_getQ (pc' := 83) rfl rfl rfl ?_
      refine ev_bipush (pc' := 85) rfl rfl (v := (12 : Int32)) (by decide) ?_
      refine ev_iload_n (pc' := 86) rfl rfl rfl ?_
      refine ev_iadd (pc' := 87) rfl rfl ?_
      obtain ⟨hi, h⟩ := gdB h
      refine ev_lald (pc' := 88) rfl rfl rfl (inR_vp hi) ?_
      refine ev_iload (pc' := 90) rfl rfl rfl ?_
      refine ev_i2l (pc' := 91) rfl rfl ?_
      refine ev_lcmp (pc' := 92) rfl rfl ?_
      refine ev_if_lt rfl (pc' := 95) rfl (fun hc => ?_) (fun hc => ?_)
      · have h := (if_pos hc).symm.trans h
        refine ev_iconst (pc' := 100) rfl rfl (v := (0 : Int32)) (by decide) ?_
        exact e_X7_passes_100 hΨ h
      · have h := (if_neg hc).symm.trans h
        refine ev_iconst (pc' := 96) rfl rfl (v := (1 : Int32)) (by decide) ?_
        refine ev_goto (pc' := 100) rfl ?_
        exact e_X7_passes_100 hΨ h
    | 3, hn =>
      obtain rfl := Option.some.inj hn
      have e9 : (g 1012 9 p1.toNatClampNeg) = (3 : Int32) := Int32.toInt_inj.mp (hv.trans (by decide))
      have h := (if_neg (show ¬ (g 1012 9 p1.toNatClampNeg) = (0 : Int32) from by rw [e9]; decide)).symm.trans h
      have h := (if_neg (show ¬ (g 1012 9 p1.toNatClampNeg) = (1 : Int32) from by rw [e9]; decide)).symm.trans h
      have h := (if_neg (show ¬ (g 1012 9 p1.toNatClampNeg) = (2 : Int32) from by rw [e9]; decide)).symm.trans h
      have h := (if_pos e9).symm.trans h
      refine ev_iload_n (pc' := 102) rfl rfl rfl ?_
      refine ev_bipush (pc' := 104) rfl rfl (v := (24 : Int32)) (by decide) ?_
      refine ev_irem (pc' := 105) rfl rfl (by decide) ?_
      refine ev_bipush (pc' := 107) rfl rfl (v := (6 : Int32)) (by decide) ?_
      refine ev_icmp_lt rfl (pc' := 110) rfl (fun hc => ?_) (fun hc => ?_)
      · have h := (if_pos hc).symm.trans h
        exact e_X7_passes_119 hΨ h
      · have h := (if_neg hc).symm.trans h
        refine ev_iload_n (pc' := 111) rfl rfl rfl ?_
        refine ev_bipush (pc' := 113) rfl rfl (v := (24 : Int32)) (by decide) ?_
        refine ev_irem (pc' := 114) rfl rfl (by decide) ?_
        refine ev_bipush (pc' := 116) rfl rfl (v := (20 : Int32)) (by decide) ?_
        refine ev_icmp_lt rfl (pc' := 119) rfl (fun hc => ?_) (fun hc => ?_)
        · have h := (if_pos hc).symm.trans h
          refine ev_iconst (pc' := 124) rfl rfl (v := (0 : Int32)) (by decide) ?_
          exact e_X7_passes_124 hΨ h
        · have h := (if_neg hc).symm.trans h
          exact e_X7_passes_119 hΨ h
    | 4, hn =>
      obtain rfl := Option.some.inj hn
      have e9 : (g 1012 9 p1.toNatClampNeg) = (4 : Int32) := Int32.toInt_inj.mp (hv.trans (by decide))
      have h := (if_neg (show ¬ (g 1012 9 p1.toNatClampNeg) = (0 : Int32) from by rw [e9]; decide)).symm.trans h
      have h := (if_neg (show ¬ (g 1012 9 p1.toNatClampNeg) = (1 : Int32) from by rw [e9]; decide)).symm.trans h
      have h := (if_neg (show ¬ (g 1012 9 p1.toNatClampNeg) = (2 : Int32) from by rw [e9]; decide)).symm.trans h
      have h := (if_neg (show ¬ (g 1012 9 p1.toNatClampNeg) = (3 : Int32) from by rw [e9]; decide)).symm.trans h
      have h := (if_pos e9).symm.trans h
      refine ev_aload_n (pc' := 126) rfl rfl rfl ?_
      refine ev_iload_n (pc' := 127) rfl rfl rfl ?_
      refine ev_bipush (pc' := 129) rfl rfl (v := (8 : Int32)) (by decide) ?_
      obtain ⟨q3, hq3, h⟩ := Option.bind_eq_some_iff.mp h
      refine ev_V3I (pc' := 132) rfl (by decide) rfl mth_118 ⟨Nat.le_of_ble_eq_true rfl, rfl⟩ ⟨Nat.le_refl _, Nat.le_refl _⟩ (d_X7_ofShip hq3) ?_
      obtain ⟨q4, hq4, h⟩ := Option.bind_eq_some_iff.mp h
      refine ev_S1I (pc' := 135) rfl (by decide) rfl mth_157 ⟨Nat.le_of_ble_eq_true rfl, rfl⟩ ⟨Nat.le_refl _, Nat.le_refl _⟩ (d_X7_bits hq4) ?_
      refine ev_iload (pc' := 137) rfl rfl rfl ?_
      refine ev_icmp_lt rfl (pc' := 140) rfl (fun hc => ?_) (fun hc => ?_)
      · have h := (if_pos hc).symm.trans h
        refine ev_iconst (pc' := 145) rfl rfl (v := (0 : Int32)) (by decide) ?_
        exact e_X7_passes_145 hΨ h
      · have h := (if_neg hc).symm.trans h
        refine ev_iconst (pc' := 141) rfl rfl (v := (1 : Int32)) (by decide) ?_
        refine ev_goto (pc' := 145) rfl ?_
        exact e_X7_passes_145 hΨ h
    | 5, hn =>
      obtain rfl := Option.some.inj hn
      have e9 : (g 1012 9 p1.toNatClampNeg) = (5 : Int32) := Int32.toInt_inj.mp (hv.trans (by decide))
      have h := (if_neg (show ¬ (g 1012 9 p1.toNatClampNeg) = (0 : Int32) from by rw [e9]; decide)).symm.trans h
      have h := (if_neg (show ¬ (g 1012 9 p1.toNatClampNeg) = (1 : Int32) from by rw [e9]; decide)).symm.trans h
      have h := (if_neg (show ¬ (g 1012 9 p1.toNatClampNeg) = (2 : Int32) from by rw [e9]; decide)).symm.trans h
      have h := (if_neg (show ¬ (g 1012 9 p1.toNatClampNeg) = (3 : Int32) from by rw [e9]; decide)).symm.trans h
      have h := (if_neg (show ¬ (g 1012 9 p1.toNatClampNeg) = (4 : Int32) from by rw [e9]; decide)).symm.trans h
      have h := (if_pos e9).symm.trans h
      refine ev_aload_n (pc' := 147) rfl rfl rfl ?_
      refine ev_aload_n (pc' := 148) rfl rfl rfl ?_
      refine ev_iload_n (pc' := 149) rfl rfl rfl ?_
      refine ev_bipush (pc' := 151) rfl rfl (v := (8 : Int32)) (by decide) ?_
      obtain ⟨q5, hq5, h⟩ := Option.bind_eq_some_iff.mp h
      refine ev_V3I (pc' := 154) rfl (by decide) rfl mth_118 ⟨Nat.le_of_ble_eq_true rfl, rfl⟩ ⟨Nat.le_refl _, Nat.le_refl _⟩ (d_X7_ofShip hq5) ?_
      obtain ⟨q6, hq6, h⟩ := Option.bind_eq_some_iff.mp h
      refine ev_V2I (pc' := 157) rfl (by decide) rfl mth_140 ⟨Nat.le_of_ble_eq_true rfl, rfl⟩ ⟨Nat.le_refl _, Nat.le_refl _⟩ (d_X7_pullOf hq6) ?_
      refine ev_iload (pc' := 159) rfl rfl rfl ?_
      refine ev_icmp_lt rfl (pc' := 162) rfl (fun hc => ?_) (fun hc => ?_)
      · have h := (if_pos hc).symm.trans h
        refine ev_iconst (pc' := 167) rfl rfl (v := (0 : Int32)) (by decide) ?_
        exact e_X7_passes_167 hΨ h
      · have h := (if_neg hc).symm.trans h
        refine ev_iconst (pc' := 163) rfl rfl (v := (1 : Int32)) (by decide) ?_
        refine ev_goto (pc' := 167) rfl ?_
        exact e_X7_passes_167 hΨ h
    | n + 6, hn => exact absurd hn (by simp)
def s_X7_pool_135 (i0 : Nat) (p1 : Int32) (p2 : Int32) (t0 : Int32) (g : Nat → Nat → Nat → Int32) (w : Nat → Nat → Nat → Int64) : Option (Int32) :=
  some (t0)
set_option maxRecDepth 20000 in
set_option maxHeartbeats 2000000 in
theorem e_X7_pool_135 {d : Nat} {Ψ : Option AV → DS → Prop} {i0 : Nat} {p1 : Int32} {p2 : Int32} {r : Int32} {g : Nat → Nat → Nat → Int32} {w : Nat → Nat → Nat → Int64} {t0 : Int32} {x0 : Option AV} {x1 : Option AV} {x2 : Option AV} {x3 : Option AV} {x4 : Option AV} {x5 : Option AV} {x6 : Option AV} {x7 : Option AV} {x8 : Option AV} {x9 : Option AV} (hΨ : Ψ (some (aI r)) (L0, g, w, q0)) (h : s_X7_pool_135 i0 p1 p2 t0 g w = some r) : Ev (EvM mth (d + 2)) mth c00 sc0 (retP (some .int) c00 Ψ) (lkp es_185) 135 [x0, x1, x2, x3, x4, x5, x6, x7, x8, x9] [aI t0] (L0, g, w, q0) := by
  unfold s_X7_pool_135 at h
  obtain rfl := Option.some.inj h
  exact ev_ireturn rfl ⟨⟨_, rfl, rfl⟩, rfl, rfl, hΨ⟩
def s_X7_pool_119 (i0 : Nat) (p1 : Int32) (p2 : Int32) (t0 : Int32) (g : Nat → Nat → Nat → Int32) (w : Nat → Nat → Nat → Int64) : Option (Int32) :=
  if p1 ≠ (1 : Int32) then
    s_X7_pool_135 i0 p1 p2 (p2 - t0) g w
  else
    s_X7_pool_135 i0 p1 p2 t0 g w
set_option maxRecDepth 20000 in
set_option maxHeartbeats 2000000 in
theorem e_X7_pool_119 {d : Nat} {Ψ : Option AV → DS → Prop} {i0 : Nat} {p1 : Int32} {p2 : Int32} {r : Int32} {g : Nat → Nat → Nat → Int32} {w : Nat → Nat → Nat → Int64} {t0 : Int32} {x0 : Option AV} {x3 : Option AV} {x4 : Option AV} {x5 : Option AV} {x6 : Option AV} {x7 : Option AV} {x8 : Option AV} {x9 : Option AV} (hΨ : Ψ (some (aI r)) (L0, g, w, q0)) (h : s_X7_pool_119 i0 p1 p2 t0 g w = some r) : Ev (EvM mth (d + 2)) mth c00 sc0 (retP (some .int) c00 Ψ) (lkp es_185) 119 [x0, some (aI p1), some (aI p2), x3, x4, x5, x6, x7, x8, x9] [aI t0] (L0, g, w, q0) := by
  unfold s_X7_pool_119 at h
  refine ev_istore (pc' := 121) rfl rfl (l' := [x0, some (aI p1), some (aI p2), x3, x4, x5, (klO x6), some (aI t0), x8, x9]) rfl ?_
  refine ev_iload_n (pc' := 122) rfl rfl rfl ?_
  refine ev_iconst (pc' := 123) rfl rfl (v := (1 : Int32)) (by decide) ?_
  refine ev_icmp_ne rfl (pc' := 126) rfl (fun hc => ?_) (fun hc => ?_)
  · have h := (if_pos hc).symm.trans h
    refine ev_iload_n (pc' := 132) rfl rfl rfl ?_
    refine ev_iload (pc' := 134) rfl rfl rfl ?_
    refine ev_isub (pc' := 135) rfl rfl ?_
    exact e_X7_pool_135 hΨ h
  · have h := (if_neg hc).symm.trans h
    refine ev_iload (pc' := 128) rfl rfl rfl ?_
    refine ev_goto (pc' := 135) rfl ?_
    exact e_X7_pool_135 hΨ h
def s_X7_pool_92 (i0 : Nat) (p1 : Int32) (p2 : Int32) (rec32 : Int64 → Int64 → Int32 → (Nat → Nat → Nat → Int32) → (Nat → Nat → Nat → Int64) → Option (Int32)) (t0 : Int64) (t1 : Int64) (v3 : Int64) (v7 : Int32) (g : Nat → Nat → Nat → Int32) (w : Nat → Nat → Nat → Int64) : Option (Int32) :=
  rec32 v3 (t0 + t1) (v7 + 1) g w
set_option maxRecDepth 20000 in
set_option maxHeartbeats 2000000 in
theorem e_X7_pool_92 {d : Nat} {Ψ : Option AV → DS → Prop} {i0 : Nat} {p1 : Int32} {p2 : Int32} {rec32 : Int64 → Int64 → Int32 → (Nat → Nat → Nat → Int32) → (Nat → Nat → Nat → Int64) → Option (Int32)} {r : Int32} {g : Nat → Nat → Nat → Int32} {w : Nat → Nat → Nat → Int64} {t0 : Int64} {t1 : Int64} {v3 : Int64} {v7 : Int32} {x4 : Option AV} {x5 : Option AV} {x6 : Option AV} {x8 : Option AV} {x9 : Option AV} (hr32 : ∀ {v3 : Int64} {v5 : Int64} {v7 : Int32} {x4 : Option AV} {x6 : Option AV} {x8 : Option AV} {x9 : Option AV} , rec32 v3 v5 v7 g w = some r → Ev (EvM mth (d + 2)) mth c00 sc0 (retP (some .int) c00 Ψ) (lkp es_185) 32 [some (aR 7 i0), some (aI p1), some (aI p2), some (aL v3), x4, some (aL v5), x6, some (aI v7), x8, x9] [] (L0, g, w, q0)) (hΨ : Ψ (some (aI r)) (L0, g, w, q0)) (h : s_X7_pool_92 i0 p1 p2 rec32 t0 t1 v3 v7 g w = some r) : Ev (EvM mth (d + 2)) mth c00 sc0 (retP (some .int) c00 Ψ) (lkp es_185) 92 [some (aR 7 i0), some (aI p1), some (aI p2), some (aL v3), x4, x5, x6, some (aI v7), x8, x9] [aL t1, aL t0] (L0, g, w, q0) := by
  unfold s_X7_pool_92 at h
  refine ev_ladd (pc' := 93) rfl rfl ?_
  refine ev_lstore (pc' := 95) rfl rfl (l' := [some (aR 7 i0), some (aI p1), some (aI p2), some (aL v3), (klO x4), some (aL (t0 + t1)), none, some (aI v7), x8, x9]) rfl ?_
  refine ev_iinc (pc' := 98) rfl rfl (l' := [some (aR 7 i0), some (aI p1), some (aI p2), some (aL v3), (klO x4), some (aL (t0 + t1)), none, some (aI (v7 + 1)), x8, x9]) rfl (ii_1 _) rfl ?_
  refine ev_goto (pc' := 32) rfl ?_
  exact hr32 h
def s_X7_pool_32 (i0 : Nat) (p1 : Int32) (p2 : Int32) (rec32 : Int64 → Int64 → Int32 → (Nat → Nat → Nat → Int32) → (Nat → Nat → Nat → Int64) → Option (Int32)) (v3 : Int64) (v5 : Int64) (v7 : Int32) (g : Nat → Nat → Nat → Int32) (w : Nat → Nat → Nat → Int64) : Option (Int32) :=
  if 0 ≤ (lg_cmp v7.toInt64 (w 2218 0 (64 : Int32).toNatClampNeg)) then
    if (lg_cmp v3 (0 : Int64)) ≠ 0 then
      if nzL v3 = true then
        s_X7_pool_119 i0 p1 p2 ((p2.toInt64 * v5) / v3).toInt32 g w
      else none
    else
      s_X7_pool_119 i0 p1 p2 (0 : Int32) g w
  else
    (s_X7_ofTug i0 v7 (1 : Int32) g w).bind fun q1 =>
    (s_X7_workOf i0 v7 g w).bind fun q2 =>
    (s_X7_hoursIn i0 q2 g w).bind fun q3 =>
    (s_X7_ofTug i0 v7 (0 : Int32) g w).bind fun q4 =>
    if q4 ≠ (1 : Int32) then
      s_X7_pool_92 i0 p1 p2 rec32 v5 (0 : Int64) (v3 + (q1.toInt64 * q3.toInt64)) v7 g w
    else
      s_X7_pool_92 i0 p1 p2 rec32 v5 (q1.toInt64 * q3.toInt64) (v3 + (q1.toInt64 * q3.toInt64)) v7 g w
set_option maxRecDepth 20000 in
set_option maxHeartbeats 2000000 in
theorem e_X7_pool_32 {d : Nat} {Ψ : Option AV → DS → Prop} {i0 : Nat} {p1 : Int32} {p2 : Int32} {rec32 : Int64 → Int64 → Int32 → (Nat → Nat → Nat → Int32) → (Nat → Nat → Nat → Int64) → Option (Int32)} {r : Int32} {g : Nat → Nat → Nat → Int32} {w : Nat → Nat → Nat → Int64} {v3 : Int64} {v5 : Int64} {v7 : Int32} {x4 : Option AV} {x6 : Option AV} {x8 : Option AV} {x9 : Option AV} (hr32 : ∀ {v3 : Int64} {v5 : Int64} {v7 : Int32} {x4 : Option AV} {x6 : Option AV} {x8 : Option AV} {x9 : Option AV} , rec32 v3 v5 v7 g w = some r → Ev (EvM mth (d + 2)) mth c00 sc0 (retP (some .int) c00 Ψ) (lkp es_185) 32 [some (aR 7 i0), some (aI p1), some (aI p2), some (aL v3), x4, some (aL v5), x6, some (aI v7), x8, x9] [] (L0, g, w, q0)) (hΨ : Ψ (some (aI r)) (L0, g, w, q0)) (h : s_X7_pool_32 i0 p1 p2 rec32 v3 v5 v7 g w = some r) : Ev (EvM mth (d + 2)) mth c00 sc0 (retP (some .int) c00 Ψ) (lkp es_185) 32 [some (aR 7 i0), some (aI p1), some (aI p2), some (aL v3), x4, some (aL v5), x6, some (aI v7), x8, x9] [] (L0, g, w, q0) := by
  unfold s_X7_pool_32 at h
  refine ev_iload (pc' := 34) rfl rfl rfl ?_
  refine ev_i2l (pc' := 35) rfl rfl ?_
  refine ev_aload_n (pc' := 36) rfl rfl rfl ?_
  refine ev_getQ (pc' := 39) rfl rfl rfl ?_
  refine ev_bipush (pc' := 41) rfl rfl (v := (64 : Int32)) (by decide) ?_
  refine ev_lald (pc' := 42) rfl rfl rfl (inR_vp (by decide)) ?_
  refine ev_lcmp (pc' := 43) rfl rfl ?_
  refine ev_if_ge rfl (pc' := 46) rfl (fun hc => ?_) (fun hc => ?_)
  · have h := (if_pos hc).symm.trans h
    refine ev_lload_n (pc' := 102) rfl rfl rfl ?_
    refine ev_lconst (pc' := 103) rfl rfl (v := (0 : Int64)) (by decide) ?_
    refine ev_lcmp (pc' := 104) rfl rfl ?_
    refine ev_if_ne rfl (pc' := 107) rfl (fun hc => ?_) (fun hc => ?_)
    · have h := (if_pos hc).symm.trans h
      refine ev_iload_n (pc' := 112) rfl rfl rfl ?_
      refine ev_i2l (pc' := 113) rfl rfl ?_
      refine ev_lload (pc' := 115) rfl rfl rfl ?_
      refine ev_lmul (pc' := 116) rfl rfl ?_
      refine ev_lload_n (pc' := 117) rfl rfl rfl ?_
      obtain ⟨hi, h⟩ := gdB h
      refine ev_ldiv (pc' := 118) rfl rfl (nzL_ne hi) ?_
      refine ev_l2i (pc' := 119) rfl rfl ?_
      exact e_X7_pool_119 hΨ h
    · have h := (if_neg hc).symm.trans h
      refine ev_iconst (pc' := 108) rfl rfl (v := (0 : Int32)) (by decide) ?_
      refine ev_goto (pc' := 119) rfl ?_
      exact e_X7_pool_119 hΨ h
  · have h := (if_neg hc).symm.trans h
    refine ev_aload_n (pc' := 47) rfl rfl rfl ?_
    refine ev_iload (pc' := 49) rfl rfl rfl ?_
    refine ev_iconst (pc' := 50) rfl rfl (v := (1 : Int32)) (by decide) ?_
    obtain ⟨q1, hq1, h⟩ := Option.bind_eq_some_iff.mp h
    refine ev_V3I (pc' := 53) rfl (by decide) rfl mth_117 ⟨Nat.le_of_ble_eq_true rfl, rfl⟩ ⟨Nat.le_refl _, Nat.le_refl _⟩ (d_X7_ofTug hq1) ?_
    refine ev_i2l (pc' := 54) rfl rfl ?_
    refine ev_aload_n (pc' := 55) rfl rfl rfl ?_
    refine ev_aload_n (pc' := 56) rfl rfl rfl ?_
    refine ev_iload (pc' := 58) rfl rfl rfl ?_
    obtain ⟨q2, hq2, h⟩ := Option.bind_eq_some_iff.mp h
    refine ev_V2L (pc' := 61) rfl (by decide) rfl mth_135 ⟨Nat.le_of_ble_eq_true rfl, rfl⟩ ⟨Nat.le_refl _, Nat.le_refl _⟩ (d_X7_workOf hq2) ?_
    obtain ⟨q3, hq3, h⟩ := Option.bind_eq_some_iff.mp h
    refine ev_V2I (pc' := 64) rfl (by decide) rfl mth_180 ⟨Nat.le_of_ble_eq_true rfl, rfl⟩ ⟨Nat.le_refl _, Nat.le_refl _⟩ (d_X7_hoursIn hq3) ?_
    refine ev_i2l (pc' := 65) rfl rfl ?_
    refine ev_lmul (pc' := 66) rfl rfl ?_
    refine ev_lstore (pc' := 68) rfl rfl (l' := [some (aR 7 i0), some (aI p1), some (aI p2), some (aL v3), x4, some (aL v5), x6, some (aI v7), some (aL (q1.toInt64 * q3.toInt64)), none]) rfl ?_
    refine ev_lload_n (pc' := 69) rfl rfl rfl ?_
    refine ev_lload (pc' := 71) rfl rfl rfl ?_
    refine ev_ladd (pc' := 72) rfl rfl ?_
    refine ev_lstore_n (pc' := 73) rfl rfl (l' := [some (aR 7 i0), some (aI p1), some (aI p2), some (aL (v3 + (q1.toInt64 * q3.toInt64))), none, some (aL v5), x6, some (aI v7), some (aL (q1.toInt64 * q3.toInt64)), none]) rfl ?_
    refine ev_lload (pc' := 75) rfl rfl rfl ?_
    refine ev_aload_n (pc' := 76) rfl rfl rfl ?_
    refine ev_iload (pc' := 78) rfl rfl rfl ?_
    refine ev_iconst (pc' := 79) rfl rfl (v := (0 : Int32)) (by decide) ?_
    obtain ⟨q4, hq4, h⟩ := Option.bind_eq_some_iff.mp h
    refine ev_V3I (pc' := 82) rfl (by decide) rfl mth_117 ⟨Nat.le_of_ble_eq_true rfl, rfl⟩ ⟨Nat.le_refl _, Nat.le_refl _⟩ (d_X7_ofTug hq4) ?_
    refine ev_iconst (pc' := 83) rfl rfl (v := (1 : Int32)) (by decide) ?_
    refine ev_icmp_ne rfl (pc' := 86) rfl (fun hc => ?_) (fun hc => ?_)
    · have h := (if_pos hc).symm.trans h
      refine ev_lconst (pc' := 92) rfl rfl (v := (0 : Int64)) (by decide) ?_
      exact e_X7_pool_92 (hr32 := hr32) hΨ h
    · have h := (if_neg hc).symm.trans h
      refine ev_lload (pc' := 88) rfl rfl rfl ?_
      refine ev_goto (pc' := 92) rfl ?_
      exact e_X7_pool_92 (hr32 := hr32) hΨ h
def s_X7_pool_R32 (i0 : Nat) (p1 : Int32) (p2 : Int32) : Nat → Int64 → Int64 → Int32 → (Nat → Nat → Nat → Int32) → (Nat → Nat → Nat → Int64) → Option (Int32)
  | 0 => fun _ _ _ _ _ => none
  | n + 1 => s_X7_pool_32 i0 p1 p2 (s_X7_pool_R32 i0 p1 p2 n)
theorem e_X7_pool_R32 {d : Nat} {Ψ : Option AV → DS → Prop} {i0 : Nat} {p1 : Int32} {p2 : Int32} {r : Int32} {g : Nat → Nat → Nat → Int32} {w : Nat → Nat → Nat → Int64} (hΨ : Ψ (some (aI r)) (L0, g, w, q0)) : ∀ (n : Nat) {v3 : Int64} {v5 : Int64} {v7 : Int32} {x4 : Option AV} {x6 : Option AV} {x8 : Option AV} {x9 : Option AV}, s_X7_pool_R32 i0 p1 p2 n v3 v5 v7 g w = some r → Ev (EvM mth (d + 2)) mth c00 sc0 (retP (some .int) c00 Ψ) (lkp es_185) 32 [some (aR 7 i0), some (aI p1), some (aI p2), some (aL v3), x4, some (aL v5), x6, some (aI v7), x8, x9] [] (L0, g, w, q0) := by
  intro n
  induction n with
  | zero => intros; rename_i h; exact absurd h (by intro h9; cases h9)
  | succ n ih => intros; rename_i h; exact e_X7_pool_32 (hr32 := ih) hΨ h
def s_X7_pool_22 (i0 : Nat) (p1 : Int32) (p2 : Int32) (g : Nat → Nat → Nat → Int32) (w : Nat → Nat → Nat → Int64) : Option (Int32) :=
  some ((-1 : Int32))
set_option maxRecDepth 20000 in
set_option maxHeartbeats 2000000 in
theorem e_X7_pool_22 {d : Nat} {Ψ : Option AV → DS → Prop} {i0 : Nat} {p1 : Int32} {p2 : Int32} {r : Int32} {g : Nat → Nat → Nat → Int32} {w : Nat → Nat → Nat → Int64} {x0 : Option AV} {x1 : Option AV} {x2 : Option AV} {x3 : Option AV} {x4 : Option AV} {x5 : Option AV} {x6 : Option AV} {x7 : Option AV} {x8 : Option AV} {x9 : Option AV} (hΨ : Ψ (some (aI r)) (L0, g, w, q0)) (h : s_X7_pool_22 i0 p1 p2 g w = some r) : Ev (EvM mth (d + 2)) mth c00 sc0 (retP (some .int) c00 Ψ) (lkp es_185) 22 [x0, x1, x2, x3, x4, x5, x6, x7, x8, x9] [] (L0, g, w, q0) := by
  unfold s_X7_pool_22 at h
  refine ev_iconst (pc' := 23) rfl rfl (v := (-1 : Int32)) (by decide) ?_
  obtain rfl := Option.some.inj h
  exact ev_ireturn rfl ⟨⟨_, rfl, rfl⟩, rfl, rfl, hΨ⟩
def s_X7_pool (i0 : Nat) (p1 : Int32) (p2 : Int32) (g : Nat → Nat → Nat → Int32) (w : Nat → Nat → Nat → Int64) : Option (Int32) :=
  if (s_X7_in p1.toInt64 (0 : Int64) (1 : Int64) g w) = true then
    if (s_X7_in p2.toInt64 (0 : Int64) (1000000 : Int64) g w) = true then
      s_X7_pool_R32 i0 p1 p2 FU (0 : Int64) (0 : Int64) (0 : Int32) g w
    else
      s_X7_pool_22 i0 p1 p2 g w
  else
    s_X7_pool_22 i0 p1 p2 g w
set_option maxRecDepth 20000 in
set_option maxHeartbeats 2000000 in
theorem d_X7_pool {d : Nat} {i0 : Nat} {p1 : Int32} {p2 : Int32} {g : Nat → Nat → Nat → Int32} {w : Nat → Nat → Nat → Int64} {r : Int32} (h : s_X7_pool i0 p1 p2 g w = some r) : Does (EvM mth (d + 3)) 185 [aR 7 i0, aI p1, aI p2] (L0, g, w, q0) (some (aI r)) (L0, g, w, q0) := by
  intro Ψ hΨ
  refine ⟨in_185, mth_185, Nat.le_of_ble_eq_true rfl, ?_⟩
  show Ev (EvM mth (d + 2)) mth c00 sc0 (retP (some .int) c00 Ψ) (lkp es_185) 0 [some (aR 7 i0), some (aI p1), some (aI p2), none, none, none, none, none, none, none] [] (L0, g, w, q0)
  unfold s_X7_pool at h
  refine ev_iload_n (pc' := 1) rfl rfl rfl ?_
  refine ev_i2l (pc' := 2) rfl rfl ?_
  refine ev_lconst (pc' := 3) rfl rfl (v := (0 : Int64)) (by decide) ?_
  refine ev_lconst (pc' := 4) rfl rfl (v := (1 : Int64)) (by decide) ?_
  refine ev_S3I (pc' := 7) rfl (by decide) rfl mth_115 ⟨Nat.le_of_ble_eq_true rfl, rfl⟩ ⟨Nat.le_refl _, Nat.le_refl _⟩ d_X7_in ?_
  refine ev_ifB_eq rfl (pc' := 10) rfl (fun hc => ?_) (fun hc => ?_)
  · have h := (if_neg hc).symm.trans h
    exact e_X7_pool_22 hΨ h
  · have h := (if_pos hc).symm.trans h
    refine ev_iload_n (pc' := 11) rfl rfl rfl ?_
    refine ev_i2l (pc' := 12) rfl rfl ?_
    refine ev_lconst (pc' := 13) rfl rfl (v := (0 : Int64)) (by decide) ?_
    refine ev_ldc2_w (pc' := 16) rfl rfl (v := (1000000 : Int64)) (by decide) ?_
    refine ev_S3I (pc' := 19) rfl (by decide) rfl mth_115 ⟨Nat.le_of_ble_eq_true rfl, rfl⟩ ⟨Nat.le_refl _, Nat.le_refl _⟩ d_X7_in ?_
    refine ev_ifB_ne rfl (pc' := 22) rfl (fun hc => ?_) (fun hc => ?_)
    · have h := (if_pos hc).symm.trans h
      refine ev_lconst (pc' := 25) rfl rfl (v := (0 : Int64)) (by decide) ?_
      refine ev_lstore_n (pc' := 26) rfl rfl (l' := [some (aR 7 i0), some (aI p1), some (aI p2), some (aL (0 : Int64)), none, none, none, none, none, none]) rfl ?_
      refine ev_lconst (pc' := 27) rfl rfl (v := (0 : Int64)) (by decide) ?_
      refine ev_lstore (pc' := 29) rfl rfl (l' := [some (aR 7 i0), some (aI p1), some (aI p2), some (aL (0 : Int64)), none, some (aL (0 : Int64)), none, none, none, none]) rfl ?_
      refine ev_iconst (pc' := 30) rfl rfl (v := (0 : Int32)) (by decide) ?_
      refine ev_istore (pc' := 32) rfl rfl (l' := [some (aR 7 i0), some (aI p1), some (aI p2), some (aL (0 : Int64)), none, some (aL (0 : Int64)), none, some (aI (0 : Int32)), none, none]) rfl ?_
      exact e_X7_pool_R32 hΨ FU h
    · have h := (if_neg hc).symm.trans h
      exact e_X7_pool_22 hΨ h
def s_X7_work_41 (i0 : Nat) (p1 : Int32) (p2 : Int32) (t0 : Int64) (g : Nat → Nat → Nat → Int32) (w : Nat → Nat → Nat → Int64) : Option (Int64) :=
  some (t0)
set_option maxRecDepth 20000 in
set_option maxHeartbeats 2000000 in
theorem e_X7_work_41 {d : Nat} {Ψ : Option AV → DS → Prop} {i0 : Nat} {p1 : Int32} {p2 : Int32} {r : Int64} {g : Nat → Nat → Nat → Int32} {w : Nat → Nat → Nat → Int64} {t0 : Int64} {x0 : Option AV} {x1 : Option AV} {x2 : Option AV} (hΨ : Ψ (some (aL r)) (L0, g, w, q0)) (h : s_X7_work_41 i0 p1 p2 t0 g w = some r) : Ev (EvM mth (d + 2)) mth c00 sc0 (retP (some .long) c00 Ψ) (lkp es_186) 41 [x0, x1, x2] [aL t0] (L0, g, w, q0) := by
  unfold s_X7_work_41 at h
  obtain rfl := Option.some.inj h
  exact ev_lreturn rfl ⟨⟨_, rfl⟩, rfl, rfl, hΨ⟩
def s_X7_work_18 (i0 : Nat) (p1 : Int32) (p2 : Int32) (g : Nat → Nat → Nat → Int32) (w : Nat → Nat → Nat → Int64) : Option (Int64) :=
  s_X7_work_41 i0 p1 p2 (-1 : Int64) g w
set_option maxRecDepth 20000 in
set_option maxHeartbeats 2000000 in
theorem e_X7_work_18 {d : Nat} {Ψ : Option AV → DS → Prop} {i0 : Nat} {p1 : Int32} {p2 : Int32} {r : Int64} {g : Nat → Nat → Nat → Int32} {w : Nat → Nat → Nat → Int64} {x0 : Option AV} {x1 : Option AV} {x2 : Option AV} (hΨ : Ψ (some (aL r)) (L0, g, w, q0)) (h : s_X7_work_18 i0 p1 p2 g w = some r) : Ev (EvM mth (d + 2)) mth c00 sc0 (retP (some .long) c00 Ψ) (lkp es_186) 18 [x0, x1, x2] [] (L0, g, w, q0) := by
  unfold s_X7_work_18 at h
  refine ev_ldc2_w (pc' := 21) rfl rfl (v := (-1 : Int64)) (by decide) ?_
  refine ev_goto (pc' := 41) rfl ?_
  exact e_X7_work_41 hΨ h
def s_X7_work (i0 : Nat) (p1 : Int32) (p2 : Int32) (g : Nat → Nat → Nat → Int32) (w : Nat → Nat → Nat → Int64) : Option (Int64) :=
  if (s_X7_isTug i0 p1 g w) = true then
    if (s_X7_in p2.toInt64 (0 : Int64) (1 : Int64) g w) = true then
      if p2 ≠ 0 then
        (s_X7_bunkersOf i0 p1 g w).bind fun q1 =>
        s_X7_work_41 i0 p1 p2 q1 g w
      else
        (s_X7_workOf i0 p1 g w).bind fun q2 =>
        s_X7_work_41 i0 p1 p2 q2 g w
    else
      s_X7_work_18 i0 p1 p2 g w
  else
    s_X7_work_18 i0 p1 p2 g w
set_option maxRecDepth 20000 in
set_option maxHeartbeats 2000000 in
theorem d_X7_work {d : Nat} {i0 : Nat} {p1 : Int32} {p2 : Int32} {g : Nat → Nat → Nat → Int32} {w : Nat → Nat → Nat → Int64} {r : Int64} (h : s_X7_work i0 p1 p2 g w = some r) : Does (EvM mth (d + 3)) 186 [aR 7 i0, aI p1, aI p2] (L0, g, w, q0) (some (aL r)) (L0, g, w, q0) := by
  intro Ψ hΨ
  refine ⟨in_186, mth_186, Nat.le_of_ble_eq_true rfl, ?_⟩
  show Ev (EvM mth (d + 2)) mth c00 sc0 (retP (some .long) c00 Ψ) (lkp es_186) 0 [some (aR 7 i0), some (aI p1), some (aI p2)] [] (L0, g, w, q0)
  unfold s_X7_work at h
  refine ev_aload_n (pc' := 1) rfl rfl rfl ?_
  refine ev_iload_n (pc' := 2) rfl rfl rfl ?_
  refine ev_V2I (pc' := 5) rfl (by decide) rfl mth_119 ⟨Nat.le_of_ble_eq_true rfl, rfl⟩ ⟨Nat.le_refl _, Nat.le_refl _⟩ d_X7_isTug ?_
  refine ev_ifB_eq rfl (pc' := 8) rfl (fun hc => ?_) (fun hc => ?_)
  · have h := (if_neg hc).symm.trans h
    exact e_X7_work_18 hΨ h
  · have h := (if_pos hc).symm.trans h
    refine ev_iload_n (pc' := 9) rfl rfl rfl ?_
    refine ev_i2l (pc' := 10) rfl rfl ?_
    refine ev_lconst (pc' := 11) rfl rfl (v := (0 : Int64)) (by decide) ?_
    refine ev_lconst (pc' := 12) rfl rfl (v := (1 : Int64)) (by decide) ?_
    refine ev_S3I (pc' := 15) rfl (by decide) rfl mth_115 ⟨Nat.le_of_ble_eq_true rfl, rfl⟩ ⟨Nat.le_refl _, Nat.le_refl _⟩ d_X7_in ?_
    refine ev_ifB_ne rfl (pc' := 18) rfl (fun hc => ?_) (fun hc => ?_)
    · have h := (if_pos hc).symm.trans h
      refine ev_iload_n (pc' := 25) rfl rfl rfl ?_
      refine ev_if_ne rfl (pc' := 28) rfl (fun hc => ?_) (fun hc => ?_)
      · have h := (if_pos hc).symm.trans h
        refine ev_aload_n (pc' := 37) rfl rfl rfl ?_
        refine ev_iload_n (pc' := 38) rfl rfl rfl ?_
        obtain ⟨q1, hq1, h⟩ := Option.bind_eq_some_iff.mp h
        refine ev_V2L (pc' := 41) rfl (by decide) rfl mth_136 ⟨Nat.le_of_ble_eq_true rfl, rfl⟩ ⟨Nat.le_refl _, Nat.le_refl _⟩ (d_X7_bunkersOf hq1) ?_
        exact e_X7_work_41 hΨ h
      · have h := (if_neg hc).symm.trans h
        refine ev_aload_n (pc' := 29) rfl rfl rfl ?_
        refine ev_iload_n (pc' := 30) rfl rfl rfl ?_
        obtain ⟨q2, hq2, h⟩ := Option.bind_eq_some_iff.mp h
        refine ev_V2L (pc' := 33) rfl (by decide) rfl mth_135 ⟨Nat.le_of_ble_eq_true rfl, rfl⟩ ⟨Nat.le_refl _, Nat.le_refl _⟩ (d_X7_workOf hq2) ?_
        refine ev_goto (pc' := 41) rfl ?_
        exact e_X7_work_41 hΨ h
    · have h := (if_neg hc).symm.trans h
      exact e_X7_work_18 hΨ h
def s_X7_count_31 (i0 : Nat) (p1 : Int32) (rec4 : Int32 → Int32 → (Nat → Nat → Nat → Int32) → (Nat → Nat → Nat → Int64) → Option (Int32)) (t0 : Int32) (t1 : Bool) (v3 : Int32) (g : Nat → Nat → Nat → Int32) (w : Nat → Nat → Nat → Int64) : Option (Int32) :=
  rec4 (t0 + (bI t1)) (v3 + 1) g w
set_option maxRecDepth 20000 in
set_option maxHeartbeats 2000000 in
theorem e_X7_count_31 {d : Nat} {Ψ : Option AV → DS → Prop} {i0 : Nat} {p1 : Int32} {rec4 : Int32 → Int32 → (Nat → Nat → Nat → Int32) → (Nat → Nat → Nat → Int64) → Option (Int32)} {r : Int32} {g : Nat → Nat → Nat → Int32} {w : Nat → Nat → Nat → Int64} {t0 : Int32} {t1 : Bool} {v3 : Int32} {x2 : Option AV} (hr4 : ∀ {v2 : Int32} {v3 : Int32} , rec4 v2 v3 g w = some r → Ev (EvM mth (d + 2)) mth c00 sc0 (retP (some .int) c00 Ψ) (lkp es_191) 4 [some (aR 7 i0), some (aI p1), some (aI v2), some (aI v3)] [] (L0, g, w, q0)) (hΨ : Ψ (some (aI r)) (L0, g, w, q0)) (h : s_X7_count_31 i0 p1 rec4 t0 t1 v3 g w = some r) : Ev (EvM mth (d + 2)) mth c00 sc0 (retP (some .int) c00 Ψ) (lkp es_191) 31 [some (aR 7 i0), some (aI p1), x2, some (aI v3)] [aI (bI t1), aI t0] (L0, g, w, q0) := by
  unfold s_X7_count_31 at h
  refine ev_iadd (pc' := 32) rfl rfl ?_
  refine ev_istore_n (pc' := 33) rfl rfl (l' := [some (aR 7 i0), some (aI p1), some (aI (t0 + (bI t1))), some (aI v3)]) rfl ?_
  refine ev_iinc (pc' := 36) rfl rfl (l' := [some (aR 7 i0), some (aI p1), some (aI (t0 + (bI t1))), some (aI (v3 + 1))]) rfl (ii_1 _) rfl ?_
  refine ev_goto (pc' := 4) rfl ?_
  exact hr4 h
def s_X7_count_4 (i0 : Nat) (p1 : Int32) (rec4 : Int32 → Int32 → (Nat → Nat → Nat → Int32) → (Nat → Nat → Nat → Int64) → Option (Int32)) (v2 : Int32) (v3 : Int32) (g : Nat → Nat → Nat → Int32) (w : Nat → Nat → Nat → Int64) : Option (Int32) :=
  if 0 ≤ (lg_cmp v3.toInt64 (w 2218 0 (65 : Int32).toNatClampNeg)) then
    if p1 = (0 : Int32) then
      some ((w 2218 0 (64 : Int32).toNatClampNeg).toInt32)
    else
    if p1 = (1 : Int32) then
      some ((w 2218 0 (65 : Int32).toNatClampNeg).toInt32)
    else
    if p1 = (2 : Int32) then
      some (v2)
    else
    if p1 = (3 : Int32) then
      (s_X7_hoursIn i0 (w 2218 0 (63 : Int32).toNatClampNeg) g w).bind fun q1 =>
      some (q1)
    else
    if p1 = (4 : Int32) then
      some ((w 2218 0 (66 : Int32).toNatClampNeg).toInt32)
    else
    if p1 = (5 : Int32) then
      some ((w 2218 0 (67 : Int32).toNatClampNeg).toInt32)
    else
    if p1 = (6 : Int32) then
      some ((w 2218 0 (68 : Int32).toNatClampNeg).toInt32)
    else
    if p1 = (7 : Int32) then
      some ((w 2218 0 (69 : Int32).toNatClampNeg).toInt32)
    else
    if p1 = (8 : Int32) then
      some ((g 7 i0 5))
    else
    if p1 = (9 : Int32) then
      some ((g 7 i0 2))
    else
      some ((-1 : Int32))
  else
    (s_X7_hasJob i0 v3 g w).bind fun q2 =>
    if q2 = true then
      s_X7_count_31 i0 p1 rec4 v2 true v3 g w
    else
      s_X7_count_31 i0 p1 rec4 v2 false v3 g w
set_option maxRecDepth 20000 in
set_option maxHeartbeats 2000000 in
theorem e_X7_count_4 {d : Nat} {Ψ : Option AV → DS → Prop} {i0 : Nat} {p1 : Int32} {rec4 : Int32 → Int32 → (Nat → Nat → Nat → Int32) → (Nat → Nat → Nat → Int64) → Option (Int32)} {r : Int32} {g : Nat → Nat → Nat → Int32} {w : Nat → Nat → Nat → Int64} {v2 : Int32} {v3 : Int32} (hr4 : ∀ {v2 : Int32} {v3 : Int32} , rec4 v2 v3 g w = some r → Ev (EvM mth (d + 2)) mth c00 sc0 (retP (some .int) c00 Ψ) (lkp es_191) 4 [some (aR 7 i0), some (aI p1), some (aI v2), some (aI v3)] [] (L0, g, w, q0)) (hΨ : Ψ (some (aI r)) (L0, g, w, q0)) (h : s_X7_count_4 i0 p1 rec4 v2 v3 g w = some r) : Ev (EvM mth (d + 2)) mth c00 sc0 (retP (some .int) c00 Ψ) (lkp es_191) 4 [some (aR 7 i0), some (aI p1), some (aI v2), some (aI v3)] [] (L0, g, w, q0) := by
  unfold s_X7_count_4 at h
  refine ev_iload_n (pc' := 5) rfl rfl rfl ?_
  refine ev_i2l (pc' := 6) rfl rfl ?_
  refine ev_aload_n (pc' := 7) rfl rfl rfl ?_
  refine ev_getQ (pc' := 10) rfl rfl rfl ?_
  refine ev_bipush (pc' := 12) rfl rfl (v := (65 : Int32)) (by decide) ?_
  refine ev_lald (pc' := 13) rfl rfl rfl (inR_vp (by decide)) ?_
  refine ev_lcmp (pc' := 14) rfl rfl ?_
  refine ev_if_ge rfl (pc' := 17) rfl (fun hc => ?_) (fun hc => ?_)
  · have h := (if_pos hc).symm.trans h
    refine ev_iload_n (pc' := 40) rfl rfl rfl ?_
    refine ev_tsw rfl (fun hd => ?_) (fun n u hn hv => ?_)
    · skip
      have h := (if_neg (show ¬ p1 = (0 : Int32) from fun e9 => by rw [e9] at hd; revert hd; decide)).symm.trans h
      have h := (if_neg (show ¬ p1 = (1 : Int32) from fun e9 => by rw [e9] at hd; revert hd; decide)).symm.trans h
      have h := (if_neg (show ¬ p1 = (2 : Int32) from fun e9 => by rw [e9] at hd; revert hd; decide)).symm.trans h
      have h := (if_neg (show ¬ p1 = (3 : Int32) from fun e9 => by rw [e9] at hd; revert hd; decide)).symm.trans h
      have h := (if_neg (show ¬ p1 = (4 : Int32) from fun e9 => by rw [e9] at hd; revert hd; decide)).symm.trans h
      have h := (if_neg (show ¬ p1 = (5 : Int32) from fun e9 => by rw [e9] at hd; revert hd; decide)).symm.trans h
      have h := (if_neg (show ¬ p1 = (6 : Int32) from fun e9 => by rw [e9] at hd; revert hd; decide)).symm.trans h
      have h := (if_neg (show ¬ p1 = (7 : Int32) from fun e9 => by rw [e9] at hd; revert hd; decide)).symm.trans h
      have h := (if_neg (show ¬ p1 = (8 : Int32) from fun e9 => by rw [e9] at hd; revert hd; decide)).symm.trans h
      have h := (if_neg (show ¬ p1 = (9 : Int32) from fun e9 => by rw [e9] at hd; revert hd; decide)).symm.trans h
      refine ev_iconst (pc' := 175) rfl rfl (v := (-1 : Int32)) (by decide) ?_
      obtain rfl := Option.some.inj h
      exact ev_ireturn rfl ⟨⟨_, rfl, rfl⟩, rfl, rfl, hΨ⟩
    · match n, hn with
      | 0, hn =>
        obtain rfl := Option.some.inj hn
        have e9 : p1 = (0 : Int32) := Int32.toInt_inj.mp (hv.trans (by decide))
        have h := (if_pos e9).symm.trans h
        refine ev_aload_n (pc' := 97) rfl rfl rfl ?_
        refine ev_getQ (pc' := 100) rfl rfl rfl ?_
        refine ev_bipush (pc' := 102) rfl rfl (v := (64 : Int32)) (by decide) ?_
        refine ev_lald (pc' := 103) rfl rfl rfl (inR_vp (by decide)) ?_
        refine ev_l2i (pc' := 104) rfl rfl ?_
        obtain rfl := Option.some.inj h
        exact ev_ireturn rfl ⟨⟨_, rfl, rfl⟩, rfl, rfl, hΨ⟩
      | 1, hn =>
        obtain rfl := Option.some.inj hn
        have e9 : p1 = (1 : Int32) := Int32.toInt_inj.mp (hv.trans (by decide))
        have h := (if_neg (show ¬ p1 = (0 : Int32) from by rw [e9]; decide)).symm.trans h
        have h := (if_pos e9).symm.trans h
        refine ev_aload_n (pc' := 106) rfl rfl rfl ?_
        refine ev_getQ (pc' := 109) rfl rfl rfl ?_
        refine ev_bipush (pc' := 111) rfl rfl (v := (65 : Int32)) (by decide) ?_
        refine ev_lald (pc' := 112) rfl rfl rfl (inR_vp (by decide)) ?_
        refine ev_l2i (pc' := 113) rfl rfl ?_
        obtain rfl := Option.some.inj h
        exact ev_ireturn rfl ⟨⟨_, rfl, rfl⟩, rfl, rfl, hΨ⟩
      | 2, hn =>
        obtain rfl := Option.some.inj hn
        have e9 : p1 = (2 : Int32) := Int32.toInt_inj.mp (hv.trans (by decide))
        have h := (if_neg (show ¬ p1 = (0 : Int32) from by rw [e9]; decide)).symm.trans h
        have h := (if_neg (show ¬ p1 = (1 : Int32) from by rw [e9]; decide)).symm.trans h
        have h := (if_pos e9).symm.trans h
        refine ev_iload_n (pc' := 115) rfl rfl rfl ?_
        obtain rfl := Option.some.inj h
        exact ev_ireturn rfl ⟨⟨_, rfl, rfl⟩, rfl, rfl, hΨ⟩
      | 3, hn =>
        obtain rfl := Option.some.inj hn
        have e9 : p1 = (3 : Int32) := Int32.toInt_inj.mp (hv.trans (by decide))
        have h := (if_neg (show ¬ p1 = (0 : Int32) from by rw [e9]; decide)).symm.trans h
        have h := (if_neg (show ¬ p1 = (1 : Int32) from by rw [e9]; decide)).symm.trans h
        have h := (if_neg (show ¬ p1 = (2 : Int32) from by rw [e9]; decide)).symm.trans h
        have h := (if_pos e9).symm.trans h
        refine ev_aload_n (pc' := 117) rfl rfl rfl ?_
        refine ev_aload_n (pc' := 118) rfl rfl rfl ?_
        refine ev_getQ (pc' := 121) rfl rfl rfl ?_
        refine ev_bipush (pc' := 123) rfl rfl (v := (63 : Int32)) (by decide) ?_
        refine ev_lald (pc' := 124) rfl rfl rfl (inR_vp (by decide)) ?_
        obtain ⟨q1, hq1, h⟩ := Option.bind_eq_some_iff.mp h
        refine ev_V2I (pc' := 127) rfl (by decide) rfl mth_180 ⟨Nat.le_of_ble_eq_true rfl, rfl⟩ ⟨Nat.le_refl _, Nat.le_refl _⟩ (d_X7_hoursIn hq1) ?_
        obtain rfl := Option.some.inj h
        exact ev_ireturn rfl ⟨⟨_, rfl, rfl⟩, rfl, rfl, hΨ⟩
      | 4, hn =>
        obtain rfl := Option.some.inj hn
        have e9 : p1 = (4 : Int32) := Int32.toInt_inj.mp (hv.trans (by decide))
        have h := (if_neg (show ¬ p1 = (0 : Int32) from by rw [e9]; decide)).symm.trans h
        have h := (if_neg (show ¬ p1 = (1 : Int32) from by rw [e9]; decide)).symm.trans h
        have h := (if_neg (show ¬ p1 = (2 : Int32) from by rw [e9]; decide)).symm.trans h
        have h := (if_neg (show ¬ p1 = (3 : Int32) from by rw [e9]; decide)).symm.trans h
        have h := (if_pos e9).symm.trans h
        refine ev_aload_n (pc' := 129) rfl rfl rfl ?_
        refine ev_getQ (pc' := 132) rfl rfl rfl ?_
        refine ev_bipush (pc' := 134) rfl rfl (v := (66 : Int32)) (by decide) ?_
        refine ev_lald (pc' := 135) rfl rfl rfl (inR_vp (by decide)) ?_
        refine ev_l2i (pc' := 136) rfl rfl ?_
        obtain rfl := Option.some.inj h
        exact ev_ireturn rfl ⟨⟨_, rfl, rfl⟩, rfl, rfl, hΨ⟩
      | 5, hn =>
        obtain rfl := Option.some.inj hn
        have e9 : p1 = (5 : Int32) := Int32.toInt_inj.mp (hv.trans (by decide))
        have h := (if_neg (show ¬ p1 = (0 : Int32) from by rw [e9]; decide)).symm.trans h
        have h := (if_neg (show ¬ p1 = (1 : Int32) from by rw [e9]; decide)).symm.trans h
        have h := (if_neg (show ¬ p1 = (2 : Int32) from by rw [e9]; decide)).symm.trans h
        have h := (if_neg (show ¬ p1 = (3 : Int32) from by rw [e9]; decide)).symm.trans h
        have h := (if_neg (show ¬ p1 = (4 : Int32) from by rw [e9]; decide)).symm.trans h
        have h := (if_pos e9).symm.trans h
        refine ev_aload_n (pc' := 138) rfl rfl rfl ?_
        refine ev_getQ (pc' := 141) rfl rfl rfl ?_
        refine ev_bipush (pc' := 143) rfl rfl (v := (67 : Int32)) (by decide) ?_
        refine ev_lald (pc' := 144) rfl rfl rfl (inR_vp (by decide)) ?_
        refine ev_l2i (pc' := 145) rfl rfl ?_
        obtain rfl := Option.some.inj h
        exact ev_ireturn rfl ⟨⟨_, rfl, rfl⟩, rfl, rfl, hΨ⟩
      | 6, hn =>
        obtain rfl := Option.some.inj hn
        have e9 : p1 = (6 : Int32) := Int32.toInt_inj.mp (hv.trans (by decide))
        have h := (if_neg (show ¬ p1 = (0 : Int32) from by rw [e9]; decide)).symm.trans h
        have h := (if_neg (show ¬ p1 = (1 : Int32) from by rw [e9]; decide)).symm.trans h
        have h := (if_neg (show ¬ p1 = (2 : Int32) from by rw [e9]; decide)).symm.trans h
        have h := (if_neg (show ¬ p1 = (3 : Int32) from by rw [e9]; decide)).symm.trans h
        have h := (if_neg (show ¬ p1 = (4 : Int32) from by rw [e9]; decide)).symm.trans h
        have h := (if_neg (show ¬ p1 = (5 : Int32) from by rw [e9]; decide)).symm.trans h
        have h := (if_pos e9).symm.trans h
        refine ev_aload_n (pc' := 147) rfl rfl rfl ?_
        refine ev_getQ (pc' := 150) rfl rfl rfl ?_
        refine ev_bipush (pc' := 152) rfl rfl (v := (68 : Int32)) (by decide) ?_
        refine ev_lald (pc' := 153) rfl rfl rfl (inR_vp (by decide)) ?_
        refine ev_l2i (pc' := 154) rfl rfl ?_
        obtain rfl := Option.some.inj h
        exact ev_ireturn rfl ⟨⟨_, rfl, rfl⟩, rfl, rfl, hΨ⟩
      | 7, hn =>
        obtain rfl := Option.some.inj hn
        have e9 : p1 = (7 : Int32) := Int32.toInt_inj.mp (hv.trans (by decide))
        have h := (if_neg (show ¬ p1 = (0 : Int32) from by rw [e9]; decide)).symm.trans h
        have h := (if_neg (show ¬ p1 = (1 : Int32) from by rw [e9]; decide)).symm.trans h
        have h := (if_neg (show ¬ p1 = (2 : Int32) from by rw [e9]; decide)).symm.trans h
        have h := (if_neg (show ¬ p1 = (3 : Int32) from by rw [e9]; decide)).symm.trans h
        have h := (if_neg (show ¬ p1 = (4 : Int32) from by rw [e9]; decide)).symm.trans h
        have h := (if_neg (show ¬ p1 = (5 : Int32) from by rw [e9]; decide)).symm.trans h
        have h := (if_neg (show ¬ p1 = (6 : Int32) from by rw [e9]; decide)).symm.trans h
        have h := (if_pos e9).symm.trans h
        refine ev_aload_n (pc' := 156) rfl rfl rfl ?_
        refine ev_getQ (pc' := 159) rfl rfl rfl ?_
        refine ev_bipush (pc' := 161) rfl rfl (v := (69 : Int32)) (by decide) ?_
        refine ev_lald (pc' := 162) rfl rfl rfl (inR_vp (by decide)) ?_
        refine ev_l2i (pc' := 163) rfl rfl ?_
        obtain rfl := Option.some.inj h
        exact ev_ireturn rfl ⟨⟨_, rfl, rfl⟩, rfl, rfl, hΨ⟩
      | 8, hn =>
        obtain rfl := Option.some.inj hn
        have e9 : p1 = (8 : Int32) := Int32.toInt_inj.mp (hv.trans (by decide))
        have h := (if_neg (show ¬ p1 = (0 : Int32) from by rw [e9]; decide)).symm.trans h
        have h := (if_neg (show ¬ p1 = (1 : Int32) from by rw [e9]; decide)).symm.trans h
        have h := (if_neg (show ¬ p1 = (2 : Int32) from by rw [e9]; decide)).symm.trans h
        have h := (if_neg (show ¬ p1 = (3 : Int32) from by rw [e9]; decide)).symm.trans h
        have h := (if_neg (show ¬ p1 = (4 : Int32) from by rw [e9]; decide)).symm.trans h
        have h := (if_neg (show ¬ p1 = (5 : Int32) from by rw [e9]; decide)).symm.trans h
        have h := (if_neg (show ¬ p1 = (6 : Int32) from by rw [e9]; decide)).symm.trans h
        have h := (if_neg (show ¬ p1 = (7 : Int32) from by rw [e9]; decide)).symm.trans h
        have h := (if_pos e9).symm.trans h
        refine ev_aload_n (pc' := 165) rfl rfl rfl ?_
        refine ev_getI (pc' := 168) rfl rfl ?_
        obtain rfl := Option.some.inj h
        exact ev_ireturn rfl ⟨⟨_, rfl, rfl⟩, rfl, rfl, hΨ⟩
      | 9, hn =>
        obtain rfl := Option.some.inj hn
        have e9 : p1 = (9 : Int32) := Int32.toInt_inj.mp (hv.trans (by decide))
        have h := (if_neg (show ¬ p1 = (0 : Int32) from by rw [e9]; decide)).symm.trans h
        have h := (if_neg (show ¬ p1 = (1 : Int32) from by rw [e9]; decide)).symm.trans h
        have h := (if_neg (show ¬ p1 = (2 : Int32) from by rw [e9]; decide)).symm.trans h
        have h := (if_neg (show ¬ p1 = (3 : Int32) from by rw [e9]; decide)).symm.trans h
        have h := (if_neg (show ¬ p1 = (4 : Int32) from by rw [e9]; decide)).symm.trans h
        have h := (if_neg (show ¬ p1 = (5 : Int32) from by rw [e9]; decide)).symm.trans h
        have h := (if_neg (show ¬ p1 = (6 : Int32) from by rw [e9]; decide)).symm.trans h
        have h := (if_neg (show ¬ p1 = (7 : Int32) from by rw [e9]; decide)).symm.trans h
        have h := (if_neg (show ¬ p1 = (8 : Int32) from by rw [e9]; decide)).symm.trans h
        have h := (if_pos e9).symm.trans h
        refine ev_aload_n (pc' := 170) rfl rfl rfl ?_
        refine ev_getI (pc' := 173) rfl rfl ?_
        obtain rfl := Option.some.inj h
        exact ev_ireturn rfl ⟨⟨_, rfl, rfl⟩, rfl, rfl, hΨ⟩
      | n + 10, hn => exact absurd hn (by simp)
  · have h := (if_neg hc).symm.trans h
    refine ev_iload_n (pc' := 18) rfl rfl rfl ?_
    refine ev_aload_n (pc' := 19) rfl rfl rfl ?_
    refine ev_iload_n (pc' := 20) rfl rfl rfl ?_
    obtain ⟨q2, hq2, h⟩ := Option.bind_eq_some_iff.mp h
    refine ev_V2I (pc' := 23) rfl (by decide) rfl mth_125 ⟨Nat.le_of_ble_eq_true rfl, rfl⟩ ⟨Nat.le_refl _, Nat.le_refl _⟩ (d_X7_hasJob hq2) ?_
    refine ev_ifB_eq rfl (pc' := 26) rfl (fun hc => ?_) (fun hc => ?_)
    · have h := (if_neg hc).symm.trans h
      refine ev_iconst (pc' := 31) rfl rfl (v := (0 : Int32)) (by decide) ?_
      exact e_X7_count_31 (hr4 := hr4) hΨ h
    · have h := (if_pos hc).symm.trans h
      refine ev_iconst (pc' := 27) rfl rfl (v := (1 : Int32)) (by decide) ?_
      refine ev_goto (pc' := 31) rfl ?_
      exact e_X7_count_31 (hr4 := hr4) hΨ h
def s_X7_count_R4 (i0 : Nat) (p1 : Int32) : Nat → Int32 → Int32 → (Nat → Nat → Nat → Int32) → (Nat → Nat → Nat → Int64) → Option (Int32)
  | 0 => fun _ _ _ _ => none
  | n + 1 => s_X7_count_4 i0 p1 (s_X7_count_R4 i0 p1 n)
theorem e_X7_count_R4 {d : Nat} {Ψ : Option AV → DS → Prop} {i0 : Nat} {p1 : Int32} {r : Int32} {g : Nat → Nat → Nat → Int32} {w : Nat → Nat → Nat → Int64} (hΨ : Ψ (some (aI r)) (L0, g, w, q0)) : ∀ (n : Nat) {v2 : Int32} {v3 : Int32} , s_X7_count_R4 i0 p1 n v2 v3 g w = some r → Ev (EvM mth (d + 2)) mth c00 sc0 (retP (some .int) c00 Ψ) (lkp es_191) 4 [some (aR 7 i0), some (aI p1), some (aI v2), some (aI v3)] [] (L0, g, w, q0) := by
  intro n
  induction n with
  | zero => intros; rename_i h; exact absurd h (by intro h9; cases h9)
  | succ n ih => intros; rename_i h; exact e_X7_count_4 (hr4 := ih) hΨ h
def s_X7_count (i0 : Nat) (p1 : Int32) (g : Nat → Nat → Nat → Int32) (w : Nat → Nat → Nat → Int64) : Option (Int32) :=
  s_X7_count_R4 i0 p1 FU (0 : Int32) (0 : Int32) g w
set_option maxRecDepth 20000 in
set_option maxHeartbeats 2000000 in
theorem d_X7_count {d : Nat} {i0 : Nat} {p1 : Int32} {g : Nat → Nat → Nat → Int32} {w : Nat → Nat → Nat → Int64} {r : Int32} (h : s_X7_count i0 p1 g w = some r) : Does (EvM mth (d + 3)) 191 [aR 7 i0, aI p1] (L0, g, w, q0) (some (aI r)) (L0, g, w, q0) := by
  intro Ψ hΨ
  refine ⟨in_191, mth_191, Nat.le_of_ble_eq_true rfl, ?_⟩
  show Ev (EvM mth (d + 2)) mth c00 sc0 (retP (some .int) c00 Ψ) (lkp es_191) 0 [some (aR 7 i0), some (aI p1), none, none] [] (L0, g, w, q0)
  unfold s_X7_count at h
  refine ev_iconst (pc' := 1) rfl rfl (v := (0 : Int32)) (by decide) ?_
  refine ev_istore_n (pc' := 2) rfl rfl (l' := [some (aR 7 i0), some (aI p1), some (aI (0 : Int32)), none]) rfl ?_
  refine ev_iconst (pc' := 3) rfl rfl (v := (0 : Int32)) (by decide) ?_
  refine ev_istore_n (pc' := 4) rfl rfl (l' := [some (aR 7 i0), some (aI p1), some (aI (0 : Int32)), some (aI (0 : Int32))]) rfl ?_
  exact e_X7_count_R4 hΨ FU h
def s_X1_copyFrom_61 (i0 : Nat) (p1 : Nat) (rec61 : Int32 → (Nat → Nat → Nat → Int32) → (Nat → Nat → Nat → Int64) → Option (GS)) (v2 : Int32) (g : Nat → Nat → Nat → Int32) (w : Nat → Nat → Nat → Int64) : Option (GS) :=
  if (8 : Int32) ≤ v2 then
    some (((gI (gI (gI (gI (gI (gI (gI (gI (gI g 1 i0 5 (g 1 p1 5)) 1 i0 6 ((gI g 1 i0 5 (g 1 p1 5)) 1 p1 6)) 1 i0 7 ((gI (gI g 1 i0 5 (g 1 p1 5)) 1 i0 6 ((gI g 1 i0 5 (g 1 p1 5)) 1 p1 6)) 1 p1 7)) 1 i0 9 ((gI (gI (gI g 1 i0 5 (g 1 p1 5)) 1 i0 6 ((gI g 1 i0 5 (g 1 p1 5)) 1 p1 6)) 1 i0 7 ((gI (gI g 1 i0 5 (g 1 p1 5)) 1 i0 6 ((gI g 1 i0 5 (g 1 p1 5)) 1 p1 6)) 1 p1 7)) 1 p1 9)) 1 i0 10 ((gI (gI (gI (gI g 1 i0 5 (g 1 p1 5)) 1 i0 6 ((gI g 1 i0 5 (g 1 p1 5)) 1 p1 6)) 1 i0 7 ((gI (gI g 1 i0 5 (g 1 p1 5)) 1 i0 6 ((gI g 1 i0 5 (g 1 p1 5)) 1 p1 6)) 1 p1 7)) 1 i0 9 ((gI (gI (gI g 1 i0 5 (g 1 p1 5)) 1 i0 6 ((gI g 1 i0 5 (g 1 p1 5)) 1 p1 6)) 1 i0 7 ((gI (gI g 1 i0 5 (g 1 p1 5)) 1 i0 6 ((gI g 1 i0 5 (g 1 p1 5)) 1 p1 6)) 1 p1 7)) 1 p1 9)) 1 p1 10)) 1 i0 11 ((gI (gI (gI (gI (gI g 1 i0 5 (g 1 p1 5)) 1 i0 6 ((gI g 1 i0 5 (g 1 p1 5)) 1 p1 6)) 1 i0 7 ((gI (gI g 1 i0 5 (g 1 p1 5)) 1 i0 6 ((gI g 1 i0 5 (g 1 p1 5)) 1 p1 6)) 1 p1 7)) 1 i0 9 ((gI (gI (gI g 1 i0 5 (g 1 p1 5)) 1 i0 6 ((gI g 1 i0 5 (g 1 p1 5)) 1 p1 6)) 1 i0 7 ((gI (gI g 1 i0 5 (g 1 p1 5)) 1 i0 6 ((gI g 1 i0 5 (g 1 p1 5)) 1 p1 6)) 1 p1 7)) 1 p1 9)) 1 i0 10 ((gI (gI (gI (gI g 1 i0 5 (g 1 p1 5)) 1 i0 6 ((gI g 1 i0 5 (g 1 p1 5)) 1 p1 6)) 1 i0 7 ((gI (gI g 1 i0 5 (g 1 p1 5)) 1 i0 6 ((gI g 1 i0 5 (g 1 p1 5)) 1 p1 6)) 1 p1 7)) 1 i0 9 ((gI (gI (gI g 1 i0 5 (g 1 p1 5)) 1 i0 6 ((gI g 1 i0 5 (g 1 p1 5)) 1 p1 6)) 1 i0 7 ((gI (gI g 1 i0 5 (g 1 p1 5)) 1 i0 6 ((gI g 1 i0 5 (g 1 p1 5)) 1 p1 6)) 1 p1 7)) 1 p1 9)) 1 p1 10)) 1 p1 11)) 1 i0 12 ((gI (gI (gI (gI (gI (gI g 1 i0 5 (g 1 p1 5)) 1 i0 6 ((gI g 1 i0 5 (g 1 p1 5)) 1 p1 6)) 1 i0 7 ((gI (gI g 1 i0 5 (g 1 p1 5)) 1 i0 6 ((gI g 1 i0 5 (g 1 p1 5)) 1 p1 6)) 1 p1 7)) 1 i0 9 ((gI (gI (gI g 1 i0 5 (g 1 p1 5)) 1 i0 6 ((gI g 1 i0 5 (g 1 p1 5)) 1 p1 6)) 1 i0 7 ((gI (gI g 1 i0 5 (g 1 p1 5)) 1 i0 6 ((gI g 1 i0 5 (g 1 p1 5)) 1 p1 6)) 1 p1 7)) 1 p1 9)) 1 i0 10 ((gI (gI (gI (gI g 1 i0 5 (g 1 p1 5)) 1 i0 6 ((gI g 1 i0 5 (g 1 p1 5)) 1 p1 6)) 1 i0 7 ((gI (gI g 1 i0 5 (g 1 p1 5)) 1 i0 6 ((gI g 1 i0 5 (g 1 p1 5)) 1 p1 6)) 1 p1 7)) 1 i0 9 ((gI (gI (gI g 1 i0 5 (g 1 p1 5)) 1 i0 6 ((gI g 1 i0 5 (g 1 p1 5)) 1 p1 6)) 1 i0 7 ((gI (gI g 1 i0 5 (g 1 p1 5)) 1 i0 6 ((gI g 1 i0 5 (g 1 p1 5)) 1 p1 6)) 1 p1 7)) 1 p1 9)) 1 p1 10)) 1 i0 11 ((gI (gI (gI (gI (gI g 1 i0 5 (g 1 p1 5)) 1 i0 6 ((gI g 1 i0 5 (g 1 p1 5)) 1 p1 6)) 1 i0 7 ((gI (gI g 1 i0 5 (g 1 p1 5)) 1 i0 6 ((gI g 1 i0 5 (g 1 p1 5)) 1 p1 6)) 1 p1 7)) 1 i0 9 ((gI (gI (gI g 1 i0 5 (g 1 p1 5)) 1 i0 6 ((gI g 1 i0 5 (g 1 p1 5)) 1 p1 6)) 1 i0 7 ((gI (gI g 1 i0 5 (g 1 p1 5)) 1 i0 6 ((gI g 1 i0 5 (g 1 p1 5)) 1 p1 6)) 1 p1 7)) 1 p1 9)) 1 i0 10 ((gI (gI (gI (gI g 1 i0 5 (g 1 p1 5)) 1 i0 6 ((gI g 1 i0 5 (g 1 p1 5)) 1 p1 6)) 1 i0 7 ((gI (gI g 1 i0 5 (g 1 p1 5)) 1 i0 6 ((gI g 1 i0 5 (g 1 p1 5)) 1 p1 6)) 1 p1 7)) 1 i0 9 ((gI (gI (gI g 1 i0 5 (g 1 p1 5)) 1 i0 6 ((gI g 1 i0 5 (g 1 p1 5)) 1 p1 6)) 1 i0 7 ((gI (gI g 1 i0 5 (g 1 p1 5)) 1 i0 6 ((gI g 1 i0 5 (g 1 p1 5)) 1 p1 6)) 1 p1 7)) 1 p1 9)) 1 p1 10)) 1 p1 11)) 1 p1 12)) 1 i0 13 ((gI (gI (gI (gI (gI (gI (gI g 1 i0 5 (g 1 p1 5)) 1 i0 6 ((gI g 1 i0 5 (g 1 p1 5)) 1 p1 6)) 1 i0 7 ((gI (gI g 1 i0 5 (g 1 p1 5)) 1 i0 6 ((gI g 1 i0 5 (g 1 p1 5)) 1 p1 6)) 1 p1 7)) 1 i0 9 ((gI (gI (gI g 1 i0 5 (g 1 p1 5)) 1 i0 6 ((gI g 1 i0 5 (g 1 p1 5)) 1 p1 6)) 1 i0 7 ((gI (gI g 1 i0 5 (g 1 p1 5)) 1 i0 6 ((gI g 1 i0 5 (g 1 p1 5)) 1 p1 6)) 1 p1 7)) 1 p1 9)) 1 i0 10 ((gI (gI (gI (gI g 1 i0 5 (g 1 p1 5)) 1 i0 6 ((gI g 1 i0 5 (g 1 p1 5)) 1 p1 6)) 1 i0 7 ((gI (gI g 1 i0 5 (g 1 p1 5)) 1 i0 6 ((gI g 1 i0 5 (g 1 p1 5)) 1 p1 6)) 1 p1 7)) 1 i0 9 ((gI (gI (gI g 1 i0 5 (g 1 p1 5)) 1 i0 6 ((gI g 1 i0 5 (g 1 p1 5)) 1 p1 6)) 1 i0 7 ((gI (gI g 1 i0 5 (g 1 p1 5)) 1 i0 6 ((gI g 1 i0 5 (g 1 p1 5)) 1 p1 6)) 1 p1 7)) 1 p1 9)) 1 p1 10)) 1 i0 11 ((gI (gI (gI (gI (gI g 1 i0 5 (g 1 p1 5)) 1 i0 6 ((gI g 1 i0 5 (g 1 p1 5)) 1 p1 6)) 1 i0 7 ((gI (gI g 1 i0 5 (g 1 p1 5)) 1 i0 6 ((gI g 1 i0 5 (g 1 p1 5)) 1 p1 6)) 1 p1 7)) 1 i0 9 ((gI (gI (gI g 1 i0 5 (g 1 p1 5)) 1 i0 6 ((gI g 1 i0 5 (g 1 p1 5)) 1 p1 6)) 1 i0 7 ((gI (gI g 1 i0 5 (g 1 p1 5)) 1 i0 6 ((gI g 1 i0 5 (g 1 p1 5)) 1 p1 6)) 1 p1 7)) 1 p1 9)) 1 i0 10 ((gI (gI (gI (gI g 1 i0 5 (g 1 p1 5)) 1 i0 6 ((gI g 1 i0 5 (g 1 p1 5)) 1 p1 6)) 1 i0 7 ((gI (gI g 1 i0 5 (g 1 p1 5)) 1 i0 6 ((gI g 1 i0 5 (g 1 p1 5)) 1 p1 6)) 1 p1 7)) 1 i0 9 ((gI (gI (gI g 1 i0 5 (g 1 p1 5)) 1 i0 6 ((gI g 1 i0 5 (g 1 p1 5)) 1 p1 6)) 1 i0 7 ((gI (gI g 1 i0 5 (g 1 p1 5)) 1 i0 6 ((gI g 1 i0 5 (g 1 p1 5)) 1 p1 6)) 1 p1 7)) 1 p1 9)) 1 p1 10)) 1 p1 11)) 1 i0 12 ((gI (gI (gI (gI (gI (gI g 1 i0 5 (g 1 p1 5)) 1 i0 6 ((gI g 1 i0 5 (g 1 p1 5)) 1 p1 6)) 1 i0 7 ((gI (gI g 1 i0 5 (g 1 p1 5)) 1 i0 6 ((gI g 1 i0 5 (g 1 p1 5)) 1 p1 6)) 1 p1 7)) 1 i0 9 ((gI (gI (gI g 1 i0 5 (g 1 p1 5)) 1 i0 6 ((gI g 1 i0 5 (g 1 p1 5)) 1 p1 6)) 1 i0 7 ((gI (gI g 1 i0 5 (g 1 p1 5)) 1 i0 6 ((gI g 1 i0 5 (g 1 p1 5)) 1 p1 6)) 1 p1 7)) 1 p1 9)) 1 i0 10 ((gI (gI (gI (gI g 1 i0 5 (g 1 p1 5)) 1 i0 6 ((gI g 1 i0 5 (g 1 p1 5)) 1 p1 6)) 1 i0 7 ((gI (gI g 1 i0 5 (g 1 p1 5)) 1 i0 6 ((gI g 1 i0 5 (g 1 p1 5)) 1 p1 6)) 1 p1 7)) 1 i0 9 ((gI (gI (gI g 1 i0 5 (g 1 p1 5)) 1 i0 6 ((gI g 1 i0 5 (g 1 p1 5)) 1 p1 6)) 1 i0 7 ((gI (gI g 1 i0 5 (g 1 p1 5)) 1 i0 6 ((gI g 1 i0 5 (g 1 p1 5)) 1 p1 6)) 1 p1 7)) 1 p1 9)) 1 p1 10)) 1 i0 11 ((gI (gI (gI (gI (gI g 1 i0 5 (g 1 p1 5)) 1 i0 6 ((gI g 1 i0 5 (g 1 p1 5)) 1 p1 6)) 1 i0 7 ((gI (gI g 1 i0 5 (g 1 p1 5)) 1 i0 6 ((gI g 1 i0 5 (g 1 p1 5)) 1 p1 6)) 1 p1 7)) 1 i0 9 ((gI (gI (gI g 1 i0 5 (g 1 p1 5)) 1 i0 6 ((gI g 1 i0 5 (g 1 p1 5)) 1 p1 6)) 1 i0 7 ((gI (gI g 1 i0 5 (g 1 p1 5)) 1 i0 6 ((gI g 1 i0 5 (g 1 p1 5)) 1 p1 6)) 1 p1 7)) 1 p1 9)) 1 i0 10 ((gI (gI (gI (gI g 1 i0 5 (g 1 p1 5)) 1 i0 6 ((gI g 1 i0 5 (g 1 p1 5)) 1 p1 6)) 1 i0 7 ((gI (gI g 1 i0 5 (g 1 p1 5)) 1 i0 6 ((gI g 1 i0 5 (g 1 p1 5)) 1 p1 6)) 1 p1 7)) 1 i0 9 ((gI (gI (gI g 1 i0 5 (g 1 p1 5)) 1 i0 6 ((gI g 1 i0 5 (g 1 p1 5)) 1 p1 6)) 1 i0 7 ((gI (gI g 1 i0 5 (g 1 p1 5)) 1 i0 6 ((gI g 1 i0 5 (g 1 p1 5)) 1 p1 6)) 1 p1 7)) 1 p1 9)) 1 p1 10)) 1 p1 11)) 1 p1 12)) 1 p1 13)) 1 i0 14 ((gI (gI (gI (gI (gI (gI (gI (gI g 1 i0 5 (g 1 p1 5)) 1 i0 6 ((gI g 1 i0 5 (g 1 p1 5)) 1 p1 6)) 1 i0 7 ((gI (gI g 1 i0 5 (g 1 p1 5)) 1 i0 6 ((gI g 1 i0 5 (g 1 p1 5)) 1 p1 6)) 1 p1 7)) 1 i0 9 ((gI (gI (gI g 1 i0 5 (g 1 p1 5)) 1 i0 6 ((gI g 1 i0 5 (g 1 p1 5)) 1 p1 6)) 1 i0 7 ((gI (gI g 1 i0 5 (g 1 p1 5)) 1 i0 6 ((gI g 1 i0 5 (g 1 p1 5)) 1 p1 6)) 1 p1 7)) 1 p1 9)) 1 i0 10 ((gI (gI (gI (gI g 1 i0 5 (g 1 p1 5)) 1 i0 6 ((gI g 1 i0 5 (g 1 p1 5)) 1 p1 6)) 1 i0 7 ((gI (gI g 1 i0 5 (g 1 p1 5)) 1 i0 6 ((gI g 1 i0 5 (g 1 p1 5)) 1 p1 6)) 1 p1 7)) 1 i0 9 ((gI (gI (gI g 1 i0 5 (g 1 p1 5)) 1 i0 6 ((gI g 1 i0 5 (g 1 p1 5)) 1 p1 6)) 1 i0 7 ((gI (gI g 1 i0 5 (g 1 p1 5)) 1 i0 6 ((gI g 1 i0 5 (g 1 p1 5)) 1 p1 6)) 1 p1 7)) 1 p1 9)) 1 p1 10)) 1 i0 11 ((gI (gI (gI (gI (gI g 1 i0 5 (g 1 p1 5)) 1 i0 6 ((gI g 1 i0 5 (g 1 p1 5)) 1 p1 6)) 1 i0 7 ((gI (gI g 1 i0 5 (g 1 p1 5)) 1 i0 6 ((gI g 1 i0 5 (g 1 p1 5)) 1 p1 6)) 1 p1 7)) 1 i0 9 ((gI (gI (gI g 1 i0 5 (g 1 p1 5)) 1 i0 6 ((gI g 1 i0 5 (g 1 p1 5)) 1 p1 6)) 1 i0 7 ((gI (gI g 1 i0 5 (g 1 p1 5)) 1 i0 6 ((gI g 1 i0 5 (g 1 p1 5)) 1 p1 6)) 1 p1 7)) 1 p1 9)) 1 i0 10 ((gI (gI (gI (gI g 1 i0 5 (g 1 p1 5)) 1 i0 6 ((gI g 1 i0 5 (g 1 p1 5)) 1 p1 6)) 1 i0 7 ((gI (gI g 1 i0 5 (g 1 p1 5)) 1 i0 6 ((gI g 1 i0 5 (g 1 p1 5)) 1 p1 6)) 1 p1 7)) 1 i0 9 ((gI (gI (gI g 1 i0 5 (g 1 p1 5)) 1 i0 6 ((gI g 1 i0 5 (g 1 p1 5)) 1 p1 6)) 1 i0 7 ((gI (gI g 1 i0 5 (g 1 p1 5)) 1 i0 6 ((gI g 1 i0 5 (g 1 p1 5)) 1 p1 6)) 1 p1 7)) 1 p1 9)) 1 p1 10)) 1 p1 11)) 1 i0 12 ((gI (gI (gI (gI (gI (gI g 1 i0 5 (g 1 p1 5)) 1 i0 6 ((gI g 1 i0 5 (g 1 p1 5)) 1 p1 6)) 1 i0 7 ((gI (gI g 1 i0 5 (g 1 p1 5)) 1 i0 6 ((gI g 1 i0 5 (g 1 p1 5)) 1 p1 6)) 1 p1 7)) 1 i0 9 ((gI (gI (gI g 1 i0 5 (g 1 p1 5)) 1 i0 6 ((gI g 1 i0 5 (g 1 p1 5)) 1 p1 6)) 1 i0 7 ((gI (gI g 1 i0 5 (g 1 p1 5)) 1 i0 6 ((gI g 1 i0 5 (g 1 p1 5)) 1 p1 6)) 1 p1 7)) 1 p1 9)) 1 i0 10 ((gI (gI (gI (gI g 1 i0 5 (g 1 p1 5)) 1 i0 6 ((gI g 1 i0 5 (g 1 p1 5)) 1 p1 6)) 1 i0 7 ((gI (gI g 1 i0 5 (g 1 p1 5)) 1 i0 6 ((gI g 1 i0 5 (g 1 p1 5)) 1 p1 6)) 1 p1 7)) 1 i0 9 ((gI (gI (gI g 1 i0 5 (g 1 p1 5)) 1 i0 6 ((gI g 1 i0 5 (g 1 p1 5)) 1 p1 6)) 1 i0 7 ((gI (gI g 1 i0 5 (g 1 p1 5)) 1 i0 6 ((gI g 1 i0 5 (g 1 p1 5)) 1 p1 6)) 1 p1 7)) 1 p1 9)) 1 p1 10)) 1 i0 11 ((gI (gI (gI (gI (gI g 1 i0 5 (g 1 p1 5)) 1 i0 6 ((gI g 1 i0 5 (g 1 p1 5)) 1 p1 6)) 1 i0 7 ((gI (gI g 1 i0 5 (g 1 p1 5)) 1 i0 6 ((gI g 1 i0 5 (g 1 p1 5)) 1 p1 6)) 1 p1 7)) 1 i0 9 ((gI (gI (gI g 1 i0 5 (g 1 p1 5)) 1 i0 6 ((gI g 1 i0 5 (g 1 p1 5)) 1 p1 6)) 1 i0 7 ((gI (gI g 1 i0 5 (g 1 p1 5)) 1 i0 6 ((gI g 1 i0 5 (g 1 p1 5)) 1 p1 6)) 1 p1 7)) 1 p1 9)) 1 i0 10 ((gI (gI (gI (gI g 1 i0 5 (g 1 p1 5)) 1 i0 6 ((gI g 1 i0 5 (g 1 p1 5)) 1 p1 6)) 1 i0 7 ((gI (gI g 1 i0 5 (g 1 p1 5)) 1 i0 6 ((gI g 1 i0 5 (g 1 p1 5)) 1 p1 6)) 1 p1 7)) 1 i0 9 ((gI (gI (gI g 1 i0 5 (g 1 p1 5)) 1 i0 6 ((gI g 1 i0 5 (g 1 p1 5)) 1 p1 6)) 1 i0 7 ((gI (gI g 1 i0 5 (g 1 p1 5)) 1 i0 6 ((gI g 1 i0 5 (g 1 p1 5)) 1 p1 6)) 1 p1 7)) 1 p1 9)) 1 p1 10)) 1 p1 11)) 1 p1 12)) 1 i0 13 ((gI (gI (gI (gI (gI (gI (gI g 1 i0 5 (g 1 p1 5)) 1 i0 6 ((gI g 1 i0 5 (g 1 p1 5)) 1 p1 6)) 1 i0 7 ((gI (gI g 1 i0 5 (g 1 p1 5)) 1 i0 6 ((gI g 1 i0 5 (g 1 p1 5)) 1 p1 6)) 1 p1 7)) 1 i0 9 ((gI (gI (gI g 1 i0 5 (g 1 p1 5)) 1 i0 6 ((gI g 1 i0 5 (g 1 p1 5)) 1 p1 6)) 1 i0 7 ((gI (gI g 1 i0 5 (g 1 p1 5)) 1 i0 6 ((gI g 1 i0 5 (g 1 p1 5)) 1 p1 6)) 1 p1 7)) 1 p1 9)) 1 i0 10 ((gI (gI (gI (gI g 1 i0 5 (g 1 p1 5)) 1 i0 6 ((gI g 1 i0 5 (g 1 p1 5)) 1 p1 6)) 1 i0 7 ((gI (gI g 1 i0 5 (g 1 p1 5)) 1 i0 6 ((gI g 1 i0 5 (g 1 p1 5)) 1 p1 6)) 1 p1 7)) 1 i0 9 ((gI (gI (gI g 1 i0 5 (g 1 p1 5)) 1 i0 6 ((gI g 1 i0 5 (g 1 p1 5)) 1 p1 6)) 1 i0 7 ((gI (gI g 1 i0 5 (g 1 p1 5)) 1 i0 6 ((gI g 1 i0 5 (g 1 p1 5)) 1 p1 6)) 1 p1 7)) 1 p1 9)) 1 p1 10)) 1 i0 11 ((gI (gI (gI (gI (gI g 1 i0 5 (g 1 p1 5)) 1 i0 6 ((gI g 1 i0 5 (g 1 p1 5)) 1 p1 6)) 1 i0 7 ((gI (gI g 1 i0 5 (g 1 p1 5)) 1 i0 6 ((gI g 1 i0 5 (g 1 p1 5)) 1 p1 6)) 1 p1 7)) 1 i0 9 ((gI (gI (gI g 1 i0 5 (g 1 p1 5)) 1 i0 6 ((gI g 1 i0 5 (g 1 p1 5)) 1 p1 6)) 1 i0 7 ((gI (gI g 1 i0 5 (g 1 p1 5)) 1 i0 6 ((gI g 1 i0 5 (g 1 p1 5)) 1 p1 6)) 1 p1 7)) 1 p1 9)) 1 i0 10 ((gI (gI (gI (gI g 1 i0 5 (g 1 p1 5)) 1 i0 6 ((gI g 1 i0 5 (g 1 p1 5)) 1 p1 6)) 1 i0 7 ((gI (gI g 1 i0 5 (g 1 p1 5)) 1 i0 6 ((gI g 1 i0 5 (g 1 p1 5)) 1 p1 6)) 1 p1 7)) 1 i0 9 ((gI (gI (gI g 1 i0 5 (g 1 p1 5)) 1 i0 6 ((gI g 1 i0 5 (g 1 p1 5)) 1 p1 6)) 1 i0 7 ((gI (gI g 1 i0 5 (g 1 p1 5)) 1 i0 6 ((gI g 1 i0 5 (g 1 p1 5)) 1 p1 6)) 1 p1 7)) 1 p1 9)) 1 p1 10)) 1 p1 11)) 1 i0 12 ((gI (gI (gI (gI (gI (gI g 1 i0 5 (g 1 p1 5)) 1 i0 6 ((gI g 1 i0 5 (g 1 p1 5)) 1 p1 6)) 1 i0 7 ((gI (gI g 1 i0 5 (g 1 p1 5)) 1 i0 6 ((gI g 1 i0 5 (g 1 p1 5)) 1 p1 6)) 1 p1 7)) 1 i0 9 ((gI (gI (gI g 1 i0 5 (g 1 p1 5)) 1 i0 6 ((gI g 1 i0 5 (g 1 p1 5)) 1 p1 6)) 1 i0 7 ((gI (gI g 1 i0 5 (g 1 p1 5)) 1 i0 6 ((gI g 1 i0 5 (g 1 p1 5)) 1 p1 6)) 1 p1 7)) 1 p1 9)) 1 i0 10 ((gI (gI (gI (gI g 1 i0 5 (g 1 p1 5)) 1 i0 6 ((gI g 1 i0 5 (g 1 p1 5)) 1 p1 6)) 1 i0 7 ((gI (gI g 1 i0 5 (g 1 p1 5)) 1 i0 6 ((gI g 1 i0 5 (g 1 p1 5)) 1 p1 6)) 1 p1 7)) 1 i0 9 ((gI (gI (gI g 1 i0 5 (g 1 p1 5)) 1 i0 6 ((gI g 1 i0 5 (g 1 p1 5)) 1 p1 6)) 1 i0 7 ((gI (gI g 1 i0 5 (g 1 p1 5)) 1 i0 6 ((gI g 1 i0 5 (g 1 p1 5)) 1 p1 6)) 1 p1 7)) 1 p1 9)) 1 p1 10)) 1 i0 11 ((gI (gI (gI (gI (gI g 1 i0 5 (g 1 p1 5)) 1 i0 6 ((gI g 1 i0 5 (g 1 p1 5)) 1 p1 6)) 1 i0 7 ((gI (gI g 1 i0 5 (g 1 p1 5)) 1 i0 6 ((gI g 1 i0 5 (g 1 p1 5)) 1 p1 6)) 1 p1 7)) 1 i0 9 ((gI (gI (gI g 1 i0 5 (g 1 p1 5)) 1 i0 6 ((gI g 1 i0 5 (g 1 p1 5)) 1 p1 6)) 1 i0 7 ((gI (gI g 1 i0 5 (g 1 p1 5)) 1 i0 6 ((gI g 1 i0 5 (g 1 p1 5)) 1 p1 6)) 1 p1 7)) 1 p1 9)) 1 i0 10 ((gI (gI (gI (gI g 1 i0 5 (g 1 p1 5)) 1 i0 6 ((gI g 1 i0 5 (g 1 p1 5)) 1 p1 6)) 1 i0 7 ((gI (gI g 1 i0 5 (g 1 p1 5)) 1 i0 6 ((gI g 1 i0 5 (g 1 p1 5)) 1 p1 6)) 1 p1 7)) 1 i0 9 ((gI (gI (gI g 1 i0 5 (g 1 p1 5)) 1 i0 6 ((gI g 1 i0 5 (g 1 p1 5)) 1 p1 6)) 1 i0 7 ((gI (gI g 1 i0 5 (g 1 p1 5)) 1 i0 6 ((gI g 1 i0 5 (g 1 p1 5)) 1 p1 6)) 1 p1 7)) 1 p1 9)) 1 p1 10)) 1 p1 11)) 1 p1 12)) 1 p1 13)) 1 p1 14)), (wL w 1 i0 8 (w 1 p1 8))))
  else
    if inR v2 8 = true then
      if inR v2 8 = true then
        rec61 (v2 + 1) (s_X4_copyFrom (8 * i0 + v2.toNatClampNeg) (8 * p1 + v2.toNatClampNeg) g w).1 (s_X4_copyFrom (8 * i0 + v2.toNatClampNeg) (8 * p1 + v2.toNatClampNeg) g w).2
      else none
    else none
set_option maxRecDepth 20000 in
set_option maxHeartbeats 2000000 in
theorem e_X1_copyFrom_61 {d : Nat} {Ψ : Option AV → DS → Prop} {i0 : Nat} {p1 : Nat} {rec61 : Int32 → (Nat → Nat → Nat → Int32) → (Nat → Nat → Nat → Int64) → Option (GS)} {r : GS} {g : Nat → Nat → Nat → Int32} {w : Nat → Nat → Nat → Int64} {v2 : Int32} (hr61 : ∀ {v2 : Int32} {g : Nat → Nat → Nat → Int32} {w : Nat → Nat → Nat → Int64} , rec61 v2 g w = some r → Ev (EvM mth (d + 3)) mth c00 sc0 (retP (none) c00 Ψ) (lkp es_5) 61 [some (aR 1 i0), some (aR 1 p1), some (aI v2)] [] (L0, g, w, q0)) (hΨ : Ψ none (L0, r.1, r.2, q0)) (h : s_X1_copyFrom_61 i0 p1 rec61 v2 g w = some r) : Ev (EvM mth (d + 3)) mth c00 sc0 (retP (none) c00 Ψ) (lkp es_5) 61 [some (aR 1 i0), some (aR 1 p1), some (aI v2)] [] (L0, g, w, q0) := by
  unfold s_X1_copyFrom_61 at h
  refine ev_iload_n (pc' := 62) rfl rfl rfl ?_
  refine ev_bipush (pc' := 64) rfl rfl (v := (8 : Int32)) (by decide) ?_
  refine ev_icmp_ge rfl (pc' := 67) rfl (fun hc => ?_) (fun hc => ?_)
  · have h := (if_pos hc).symm.trans h
    refine ev_aload_n (pc' := 89) rfl rfl rfl ?_
    refine ev_aload_n (pc' := 90) rfl rfl rfl ?_
    refine ev_getI (pc' := 93) rfl rfl ?_
    refine ev_putI (pc' := 96) rfl rfl ?_
    refine ev_aload_n (pc' := 97) rfl rfl rfl ?_
    refine ev_aload_n (pc' := 98) rfl rfl rfl ?_
    refine ev_getI (pc' := 101) rfl rfl ?_
    refine ev_putI (pc' := 104) rfl rfl ?_
    refine ev_aload_n (pc' := 105) rfl rfl rfl ?_
    refine ev_aload_n (pc' := 106) rfl rfl rfl ?_
    refine ev_getI (pc' := 109) rfl rfl ?_
    refine ev_putI (pc' := 112) rfl rfl ?_
    refine ev_aload_n (pc' := 113) rfl rfl rfl ?_
    refine ev_aload_n (pc' := 114) rfl rfl rfl ?_
    refine ev_getL (pc' := 117) rfl rfl ?_
    refine ev_putL (pc' := 120) rfl rfl ?_
    refine ev_aload_n (pc' := 121) rfl rfl rfl ?_
    refine ev_aload_n (pc' := 122) rfl rfl rfl ?_
    refine ev_getI (pc' := 125) rfl rfl ?_
    refine ev_putI (pc' := 128) rfl rfl ?_
    refine ev_aload_n (pc' := 129) rfl rfl rfl ?_
    refine ev_aload_n (pc' := 130) rfl rfl rfl ?_
    refine ev_getI (pc' := 133) rfl rfl ?_
    refine ev_putI (pc' := 136) rfl rfl ?_
    refine ev_aload_n (pc' := 137) rfl rfl rfl ?_
    refine ev_aload_n (pc' := 138) rfl rfl rfl ?_
    refine ev_getI (pc' := 141) rfl rfl ?_
    refine ev_putI (pc' := 144) rfl rfl ?_
    refine ev_aload_n (pc' := 145) rfl rfl rfl ?_
    refine ev_aload_n (pc' := 146) rfl rfl rfl ?_
    refine ev_getI (pc' := 149) rfl rfl ?_
    refine ev_putI (pc' := 152) rfl rfl ?_
    refine ev_aload_n (pc' := 153) rfl rfl rfl ?_
    refine ev_aload_n (pc' := 154) rfl rfl rfl ?_
    refine ev_getI (pc' := 157) rfl rfl ?_
    refine ev_putI (pc' := 160) rfl rfl ?_
    refine ev_aload_n (pc' := 161) rfl rfl rfl ?_
    refine ev_aload_n (pc' := 162) rfl rfl rfl ?_
    refine ev_getI (pc' := 165) rfl rfl ?_
    refine ev_putI (pc' := 168) rfl rfl ?_
    obtain rfl := Option.some.inj h
    exact ev_return rfl ⟨rfl, rfl, rfl, hΨ⟩
  · have h := (if_neg hc).symm.trans h
    refine ev_aload_n (pc' := 68) rfl rfl rfl ?_
    refine ev_getQ (pc' := 71) rfl rfl rfl ?_
    refine ev_iload_n (pc' := 72) rfl rfl rfl ?_
    obtain ⟨hi, h⟩ := gdB h
    refine ev_aald (pc' := 73) rfl rfl (by decide) rfl (inR_vp hi) rfl ?_
    refine ev_aload_n (pc' := 74) rfl rfl rfl ?_
    refine ev_getQ (pc' := 77) rfl rfl rfl ?_
    refine ev_iload_n (pc' := 78) rfl rfl rfl ?_
    obtain ⟨hi, h⟩ := gdB h
    refine ev_aald (pc' := 79) rfl rfl (by decide) rfl (inR_vp hi) rfl ?_
    refine ev_V2V (pc' := 82) rfl (by decide) rfl mth_54 ⟨Nat.le_of_ble_eq_true rfl, rfl⟩ ⟨Nat.le_refl _, Nat.le_refl _⟩ d_X4_copyFrom ?_
    refine ev_iinc (pc' := 85) rfl rfl (l' := [some (aR 1 i0), some (aR 1 p1), some (aI (v2 + 1))]) rfl (ii_1 _) rfl ?_
    refine ev_goto (pc' := 61) rfl ?_
    exact hr61 h
def s_X1_copyFrom_R61 (i0 : Nat) (p1 : Nat) : Nat → Int32 → (Nat → Nat → Nat → Int32) → (Nat → Nat → Nat → Int64) → Option (GS)
  | 0 => fun _ _ _ => none
  | n + 1 => s_X1_copyFrom_61 i0 p1 (s_X1_copyFrom_R61 i0 p1 n)
theorem e_X1_copyFrom_R61 {d : Nat} {Ψ : Option AV → DS → Prop} {i0 : Nat} {p1 : Nat} {r : GS} (hΨ : Ψ none (L0, r.1, r.2, q0)) : ∀ (n : Nat) {v2 : Int32} {g : Nat → Nat → Nat → Int32} {w : Nat → Nat → Nat → Int64}, s_X1_copyFrom_R61 i0 p1 n v2 g w = some r → Ev (EvM mth (d + 3)) mth c00 sc0 (retP (none) c00 Ψ) (lkp es_5) 61 [some (aR 1 i0), some (aR 1 p1), some (aI v2)] [] (L0, g, w, q0) := by
  intro n
  induction n with
  | zero => intros; rename_i h; exact absurd h (by intro h9; cases h9)
  | succ n ih => intros; rename_i h; exact e_X1_copyFrom_61 (hr61 := ih) hΨ h
def s_X1_copyFrom_32 (i0 : Nat) (p1 : Nat) (rec32 : Int32 → (Nat → Nat → Nat → Int32) → (Nat → Nat → Nat → Int64) → Option (GS)) (v2 : Int32) (g : Nat → Nat → Nat → Int32) (w : Nat → Nat → Nat → Int64) : Option (GS) :=
  if (6 : Int32) ≤ v2 then
    s_X1_copyFrom_R61 i0 p1 FU (0 : Int32) g w
  else
    if inR v2 6 = true then
      if inR v2 6 = true then
        rec32 (v2 + 1) (s_X5_copyFrom (6 * i0 + v2.toNatClampNeg) (6 * p1 + v2.toNatClampNeg) g w).1 (s_X5_copyFrom (6 * i0 + v2.toNatClampNeg) (6 * p1 + v2.toNatClampNeg) g w).2
      else none
    else none
set_option maxRecDepth 20000 in
set_option maxHeartbeats 2000000 in
theorem e_X1_copyFrom_32 {d : Nat} {Ψ : Option AV → DS → Prop} {i0 : Nat} {p1 : Nat} {rec32 : Int32 → (Nat → Nat → Nat → Int32) → (Nat → Nat → Nat → Int64) → Option (GS)} {r : GS} {g : Nat → Nat → Nat → Int32} {w : Nat → Nat → Nat → Int64} {v2 : Int32} (hr32 : ∀ {v2 : Int32} {g : Nat → Nat → Nat → Int32} {w : Nat → Nat → Nat → Int64} , rec32 v2 g w = some r → Ev (EvM mth (d + 3)) mth c00 sc0 (retP (none) c00 Ψ) (lkp es_5) 32 [some (aR 1 i0), some (aR 1 p1), some (aI v2)] [] (L0, g, w, q0)) (hΨ : Ψ none (L0, r.1, r.2, q0)) (h : s_X1_copyFrom_32 i0 p1 rec32 v2 g w = some r) : Ev (EvM mth (d + 3)) mth c00 sc0 (retP (none) c00 Ψ) (lkp es_5) 32 [some (aR 1 i0), some (aR 1 p1), some (aI v2)] [] (L0, g, w, q0) := by
  unfold s_X1_copyFrom_32 at h
  refine ev_iload_n (pc' := 33) rfl rfl rfl ?_
  refine ev_bipush (pc' := 35) rfl rfl (v := (6 : Int32)) (by decide) ?_
  refine ev_icmp_ge rfl (pc' := 38) rfl (fun hc => ?_) (fun hc => ?_)
  · have h := (if_pos hc).symm.trans h
    refine ev_iconst (pc' := 60) rfl rfl (v := (0 : Int32)) (by decide) ?_
    refine ev_istore_n (pc' := 61) rfl rfl (l' := [some (aR 1 i0), some (aR 1 p1), some (aI (0 : Int32))]) rfl ?_
    exact e_X1_copyFrom_R61 hΨ FU h
  · have h := (if_neg hc).symm.trans h
    refine ev_aload_n (pc' := 39) rfl rfl rfl ?_
    refine ev_getQ (pc' := 42) rfl rfl rfl ?_
    refine ev_iload_n (pc' := 43) rfl rfl rfl ?_
    obtain ⟨hi, h⟩ := gdB h
    refine ev_aald (pc' := 44) rfl rfl (by decide) rfl (inR_vp hi) rfl ?_
    refine ev_aload_n (pc' := 45) rfl rfl rfl ?_
    refine ev_getQ (pc' := 48) rfl rfl rfl ?_
    refine ev_iload_n (pc' := 49) rfl rfl rfl ?_
    obtain ⟨hi, h⟩ := gdB h
    refine ev_aald (pc' := 50) rfl rfl (by decide) rfl (inR_vp hi) rfl ?_
    refine ev_V2V (pc' := 53) rfl (by decide) rfl mth_65 ⟨Nat.le_of_ble_eq_true rfl, rfl⟩ ⟨Nat.le_refl _, Nat.le_refl _⟩ d_X5_copyFrom ?_
    refine ev_iinc (pc' := 56) rfl rfl (l' := [some (aR 1 i0), some (aR 1 p1), some (aI (v2 + 1))]) rfl (ii_1 _) rfl ?_
    refine ev_goto (pc' := 32) rfl ?_
    exact hr32 h
def s_X1_copyFrom_R32 (i0 : Nat) (p1 : Nat) : Nat → Int32 → (Nat → Nat → Nat → Int32) → (Nat → Nat → Nat → Int64) → Option (GS)
  | 0 => fun _ _ _ => none
  | n + 1 => s_X1_copyFrom_32 i0 p1 (s_X1_copyFrom_R32 i0 p1 n)
theorem e_X1_copyFrom_R32 {d : Nat} {Ψ : Option AV → DS → Prop} {i0 : Nat} {p1 : Nat} {r : GS} (hΨ : Ψ none (L0, r.1, r.2, q0)) : ∀ (n : Nat) {v2 : Int32} {g : Nat → Nat → Nat → Int32} {w : Nat → Nat → Nat → Int64}, s_X1_copyFrom_R32 i0 p1 n v2 g w = some r → Ev (EvM mth (d + 3)) mth c00 sc0 (retP (none) c00 Ψ) (lkp es_5) 32 [some (aR 1 i0), some (aR 1 p1), some (aI v2)] [] (L0, g, w, q0) := by
  intro n
  induction n with
  | zero => intros; rename_i h; exact absurd h (by intro h9; cases h9)
  | succ n ih => intros; rename_i h; exact e_X1_copyFrom_32 (hr32 := ih) hΨ h
def s_X1_copyFrom (i0 : Nat) (p1 : Nat) (g : Nat → Nat → Nat → Int32) (w : Nat → Nat → Nat → Int64) : Option (GS) :=
  s_X1_copyFrom_R32 i0 p1 FU (0 : Int32) (gRow (gRow g 1012 (td i0) (va_cpy (g 1012 (td p1)) (g 1012 (td i0)) (0 : Int32).toNatClampNeg (0 : Int32).toNatClampNeg (12 : Int32).toNatClampNeg)) 1048 i0 (va_cpy ((gRow g 1012 (td i0) (va_cpy (g 1012 (td p1)) (g 1012 (td i0)) (0 : Int32).toNatClampNeg (0 : Int32).toNatClampNeg (12 : Int32).toNatClampNeg)) 1048 p1) ((gRow g 1012 (td i0) (va_cpy (g 1012 (td p1)) (g 1012 (td i0)) (0 : Int32).toNatClampNeg (0 : Int32).toNatClampNeg (12 : Int32).toNatClampNeg)) 1048 i0) (0 : Int32).toNatClampNeg (0 : Int32).toNatClampNeg (48 : Int32).toNatClampNeg)) w
set_option maxRecDepth 20000 in
set_option maxHeartbeats 2000000 in
theorem d_X1_copyFrom {d : Nat} {i0 : Nat} {p1 : Nat} {g : Nat → Nat → Nat → Int32} {w : Nat → Nat → Nat → Int64} {r : GS} (h : s_X1_copyFrom i0 p1 g w = some r) : Does (EvM mth (d + 4)) 5 [aR 1 i0, aR 1 p1] (L0, g, w, q0) none (L0, r.1, r.2, q0) := by
  intro Ψ hΨ
  refine ⟨in_5, mth_5, Nat.le_of_ble_eq_true rfl, ?_⟩
  show Ev (EvM mth (d + 3)) mth c00 sc0 (retP (none) c00 Ψ) (lkp es_5) 0 [some (aR 1 i0), some (aR 1 p1), none] [] (L0, g, w, q0)
  unfold s_X1_copyFrom at h
  refine ev_aload_n (pc' := 1) rfl rfl rfl ?_
  refine ev_getQ (pc' := 4) rfl rfl rfl ?_
  refine ev_iconst (pc' := 5) rfl rfl (v := (0 : Int32)) (by decide) ?_
  refine ev_aload_n (pc' := 6) rfl rfl rfl ?_
  refine ev_getQ (pc' := 9) rfl rfl rfl ?_
  refine ev_iconst (pc' := 10) rfl rfl (v := (0 : Int32)) (by decide) ?_
  refine ev_bipush (pc' := 12) rfl rfl (v := (12 : Int32)) (by decide) ?_
  refine ev_copy (pc' := 15) rfl rfl rfl rfl (by decide) ?_
  refine ev_aload_n (pc' := 16) rfl rfl rfl ?_
  refine ev_getQ (pc' := 19) rfl rfl rfl ?_
  refine ev_iconst (pc' := 20) rfl rfl (v := (0 : Int32)) (by decide) ?_
  refine ev_aload_n (pc' := 21) rfl rfl rfl ?_
  refine ev_getQ (pc' := 24) rfl rfl rfl ?_
  refine ev_iconst (pc' := 25) rfl rfl (v := (0 : Int32)) (by decide) ?_
  refine ev_bipush (pc' := 27) rfl rfl (v := (48 : Int32)) (by decide) ?_
  refine ev_copy (pc' := 30) rfl rfl rfl rfl (by decide) ?_
  refine ev_iconst (pc' := 31) rfl rfl (v := (0 : Int32)) (by decide) ?_
  refine ev_istore_n (pc' := 32) rfl rfl (l' := [some (aR 1 i0), some (aR 1 p1), some (aI (0 : Int32))]) rfl ?_
  exact e_X1_copyFrom_R32 hΨ FU h
def s_X1_basinHours_59 (i0 : Nat) (p1 : Nat) (rec16 : Int64 → Int32 → (Nat → Nat → Nat → Int32) → (Nat → Nat → Nat → Int64) → Option (Int64)) (v2 : Int64) (v6 : Int32) (g : Nat → Nat → Nat → Int32) (w : Nat → Nat → Nat → Int64) : Option (Int64) :=
  rec16 v2 (v6 + 1) g w
set_option maxRecDepth 20000 in
set_option maxHeartbeats 2000000 in
theorem e_X1_basinHours_59 {d : Nat} {Ψ : Option AV → DS → Prop} {i0 : Nat} {p1 : Nat} {rec16 : Int64 → Int32 → (Nat → Nat → Nat → Int32) → (Nat → Nat → Nat → Int64) → Option (Int64)} {r : Int64} {g : Nat → Nat → Nat → Int32} {w : Nat → Nat → Nat → Int64} {v2 : Int64} {v6 : Int32} {x3 : Option AV} {x7 : Option AV} (hr16 : ∀ {v2 : Int64} {v6 : Int32} {x3 : Option AV} {x7 : Option AV} , rec16 v2 v6 g w = some r → Ev (EvM mth (d + 3)) mth c00 sc0 (retP (some .long) c00 Ψ) (lkp es_15) 16 [some (aR 1 i0), some (aR 4 p1), some (aL v2), x3, some (aR 4008 i0), some (aI (8 : Int32)), some (aI v6), x7] [] (L0, g, w, q0)) (hΨ : Ψ (some (aL r)) (L0, g, w, q0)) (h : s_X1_basinHours_59 i0 p1 rec16 v2 v6 g w = some r) : Ev (EvM mth (d + 3)) mth c00 sc0 (retP (some .long) c00 Ψ) (lkp es_15) 59 [some (aR 1 i0), some (aR 4 p1), some (aL v2), x3, some (aR 4008 i0), some (aI (8 : Int32)), some (aI v6), x7] [] (L0, g, w, q0) := by
  unfold s_X1_basinHours_59 at h
  refine ev_iinc (pc' := 62) rfl rfl (l' := [some (aR 1 i0), some (aR 4 p1), some (aL v2), x3, some (aR 4008 i0), some (aI (8 : Int32)), some (aI (v6 + 1)), x7]) rfl (ii_1 _) rfl ?_
  refine ev_goto (pc' := 16) rfl ?_
  exact hr16 h
def s_X1_basinHours_16 (i0 : Nat) (p1 : Nat) (rec16 : Int64 → Int32 → (Nat → Nat → Nat → Int32) → (Nat → Nat → Nat → Int64) → Option (Int64)) (v2 : Int64) (v6 : Int32) (g : Nat → Nat → Nat → Int32) (w : Nat → Nat → Nat → Int64) : Option (Int64) :=
  if (8 : Int32) ≤ v6 then
    some (v2)
  else
    if inR v6 8 = true then
      if (s_X4_hasJob (8 * i0 + v6.toNatClampNeg) g w) = true then
        (s_X0_shareBasin 0 p1 (8 * i0 + v6.toNatClampNeg) g w).bind fun q1 =>
        if q1 = true then
          s_X1_basinHours_59 i0 p1 rec16 (v2 ||| (s_X4_jobHours (8 * i0 + v6.toNatClampNeg) g w)) v6 g w
        else
          s_X1_basinHours_59 i0 p1 rec16 v2 v6 g w
      else
        s_X1_basinHours_59 i0 p1 rec16 v2 v6 g w
    else none
set_option maxRecDepth 20000 in
set_option maxHeartbeats 2000000 in
theorem e_X1_basinHours_16 {d : Nat} {Ψ : Option AV → DS → Prop} {i0 : Nat} {p1 : Nat} {rec16 : Int64 → Int32 → (Nat → Nat → Nat → Int32) → (Nat → Nat → Nat → Int64) → Option (Int64)} {r : Int64} {g : Nat → Nat → Nat → Int32} {w : Nat → Nat → Nat → Int64} {v2 : Int64} {v6 : Int32} {x3 : Option AV} {x7 : Option AV} (hr16 : ∀ {v2 : Int64} {v6 : Int32} {x3 : Option AV} {x7 : Option AV} , rec16 v2 v6 g w = some r → Ev (EvM mth (d + 3)) mth c00 sc0 (retP (some .long) c00 Ψ) (lkp es_15) 16 [some (aR 1 i0), some (aR 4 p1), some (aL v2), x3, some (aR 4008 i0), some (aI (8 : Int32)), some (aI v6), x7] [] (L0, g, w, q0)) (hΨ : Ψ (some (aL r)) (L0, g, w, q0)) (h : s_X1_basinHours_16 i0 p1 rec16 v2 v6 g w = some r) : Ev (EvM mth (d + 3)) mth c00 sc0 (retP (some .long) c00 Ψ) (lkp es_15) 16 [some (aR 1 i0), some (aR 4 p1), some (aL v2), x3, some (aR 4008 i0), some (aI (8 : Int32)), some (aI v6), x7] [] (L0, g, w, q0) := by
  unfold s_X1_basinHours_16 at h
  refine ev_iload (pc' := 18) rfl rfl rfl ?_
  refine ev_iload (pc' := 20) rfl rfl rfl ?_
  refine ev_icmp_ge rfl (pc' := 23) rfl (fun hc => ?_) (fun hc => ?_)
  · have h := (if_pos hc).symm.trans h
    refine ev_lload_n (pc' := 66) rfl rfl rfl ?_
    obtain rfl := Option.some.inj h
    exact ev_lreturn rfl ⟨⟨_, rfl⟩, rfl, rfl, hΨ⟩
  · have h := (if_neg hc).symm.trans h
    refine ev_aload (pc' := 25) rfl rfl rfl ?_
    refine ev_iload (pc' := 27) rfl rfl rfl ?_
    obtain ⟨hi, h⟩ := gdB h
    refine ev_aald (pc' := 28) rfl rfl (by decide) rfl (inR_vp hi) rfl ?_
    refine ev_astore (pc' := 30) rfl rfl (l' := [some (aR 1 i0), some (aR 4 p1), some (aL v2), x3, some (aR 4008 i0), some (aI (8 : Int32)), some (aI v6), some (aR 4 (8 * i0 + v6.toNatClampNeg))]) rfl ?_
    refine ev_aload (pc' := 32) rfl rfl rfl ?_
    refine ev_V1I (pc' := 35) rfl (by decide) rfl mth_55 ⟨Nat.le_of_ble_eq_true rfl, rfl⟩ ⟨Nat.le_refl _, Nat.le_refl _⟩ d_X4_hasJob ?_
    refine ev_ifB_eq rfl (pc' := 38) rfl (fun hc => ?_) (fun hc => ?_)
    · have h := (if_neg hc).symm.trans h
      exact e_X1_basinHours_59 (hr16 := hr16) hΨ h
    · have h := (if_pos hc).symm.trans h
      refine ev_aload_n (pc' := 39) rfl rfl rfl ?_
      refine ev_getQ (pc' := 42) rfl rfl rfl ?_
      refine ev_aload_n (pc' := 43) rfl rfl rfl ?_
      refine ev_aload (pc' := 45) rfl rfl rfl ?_
      obtain ⟨q1, hq1, h⟩ := Option.bind_eq_some_iff.mp h
      refine ev_V3I (pc' := 48) rfl (by decide) rfl mth_3 ⟨Nat.le_of_ble_eq_true rfl, rfl⟩ ⟨Nat.le_refl _, Nat.le_refl _⟩ (d_X0_shareBasin hq1) ?_
      refine ev_ifB_eq rfl (pc' := 51) rfl (fun hc => ?_) (fun hc => ?_)
      · have h := (if_neg hc).symm.trans h
        exact e_X1_basinHours_59 (hr16 := hr16) hΨ h
      · have h := (if_pos hc).symm.trans h
        refine ev_lload_n (pc' := 52) rfl rfl rfl ?_
        refine ev_aload (pc' := 54) rfl rfl rfl ?_
        refine ev_V1L (pc' := 57) rfl (by decide) rfl mth_61 ⟨Nat.le_of_ble_eq_true rfl, rfl⟩ ⟨Nat.le_refl _, Nat.le_refl _⟩ d_X4_jobHours ?_
        refine ev_lor (pc' := 58) rfl rfl ?_
        refine ev_lstore_n (pc' := 59) rfl rfl (l' := [some (aR 1 i0), some (aR 4 p1), some (aL (v2 ||| (s_X4_jobHours (8 * i0 + v6.toNatClampNeg) g w))), none, some (aR 4008 i0), some (aI (8 : Int32)), some (aI v6), some (aR 4 (8 * i0 + v6.toNatClampNeg))]) rfl ?_
        exact e_X1_basinHours_59 (hr16 := hr16) hΨ h
def s_X1_basinHours_R16 (i0 : Nat) (p1 : Nat) : Nat → Int64 → Int32 → (Nat → Nat → Nat → Int32) → (Nat → Nat → Nat → Int64) → Option (Int64)
  | 0 => fun _ _ _ _ => none
  | n + 1 => s_X1_basinHours_16 i0 p1 (s_X1_basinHours_R16 i0 p1 n)
theorem e_X1_basinHours_R16 {d : Nat} {Ψ : Option AV → DS → Prop} {i0 : Nat} {p1 : Nat} {r : Int64} {g : Nat → Nat → Nat → Int32} {w : Nat → Nat → Nat → Int64} (hΨ : Ψ (some (aL r)) (L0, g, w, q0)) : ∀ (n : Nat) {v2 : Int64} {v6 : Int32} {x3 : Option AV} {x7 : Option AV}, s_X1_basinHours_R16 i0 p1 n v2 v6 g w = some r → Ev (EvM mth (d + 3)) mth c00 sc0 (retP (some .long) c00 Ψ) (lkp es_15) 16 [some (aR 1 i0), some (aR 4 p1), some (aL v2), x3, some (aR 4008 i0), some (aI (8 : Int32)), some (aI v6), x7] [] (L0, g, w, q0) := by
  intro n
  induction n with
  | zero => intros; rename_i h; exact absurd h (by intro h9; cases h9)
  | succ n ih => intros; rename_i h; exact e_X1_basinHours_16 (hr16 := ih) hΨ h
def s_X1_basinHours (i0 : Nat) (p1 : Nat) (g : Nat → Nat → Nat → Int32) (w : Nat → Nat → Nat → Int64) : Option (Int64) :=
  s_X1_basinHours_R16 i0 p1 FU (0 : Int64) (0 : Int32) g w
set_option maxRecDepth 20000 in
set_option maxHeartbeats 2000000 in
theorem d_X1_basinHours {d : Nat} {i0 : Nat} {p1 : Nat} {g : Nat → Nat → Nat → Int32} {w : Nat → Nat → Nat → Int64} {r : Int64} (h : s_X1_basinHours i0 p1 g w = some r) : Does (EvM mth (d + 4)) 15 [aR 1 i0, aR 4 p1] (L0, g, w, q0) (some (aL r)) (L0, g, w, q0) := by
  intro Ψ hΨ
  refine ⟨in_15, mth_15, Nat.le_of_ble_eq_true rfl, ?_⟩
  show Ev (EvM mth (d + 3)) mth c00 sc0 (retP (some .long) c00 Ψ) (lkp es_15) 0 [some (aR 1 i0), some (aR 4 p1), none, none, none, none, none, none] [] (L0, g, w, q0)
  unfold s_X1_basinHours at h
  refine ev_lconst (pc' := 1) rfl rfl (v := (0 : Int64)) (by decide) ?_
  refine ev_lstore_n (pc' := 2) rfl rfl (l' := [some (aR 1 i0), some (aR 4 p1), some (aL (0 : Int64)), none, none, none, none, none]) rfl ?_
  refine ev_aload_n (pc' := 3) rfl rfl rfl ?_
  refine ev_getQ (pc' := 6) rfl rfl rfl ?_
  refine ev_astore (pc' := 8) rfl rfl (l' := [some (aR 1 i0), some (aR 4 p1), some (aL (0 : Int64)), none, some (aR 4008 i0), none, none, none]) rfl ?_
  refine ev_aload (pc' := 10) rfl rfl rfl ?_
  refine ev_alen (pc' := 11) rfl rfl (by decide) (v := (8 : Int32)) (by decide) ?_
  refine ev_istore (pc' := 13) rfl rfl (l' := [some (aR 1 i0), some (aR 4 p1), some (aL (0 : Int64)), none, some (aR 4008 i0), some (aI (8 : Int32)), none, none]) rfl ?_
  refine ev_iconst (pc' := 14) rfl rfl (v := (0 : Int32)) (by decide) ?_
  refine ev_istore (pc' := 16) rfl rfl (l' := [some (aR 1 i0), some (aR 4 p1), some (aL (0 : Int64)), none, some (aR 4008 i0), some (aI (8 : Int32)), some (aI (0 : Int32)), none]) rfl ?_
  exact e_X1_basinHours_R16 hΨ FU h
def s_X1_holdsFor_110 (i0 : Nat) (p1 : Int32) (p2 : Int32) (p3 : Nat) (p4 : Int32) (t0 : Bool) (g : Nat → Nat → Nat → Int32) (w : Nat → Nat → Nat → Int64) : Option (Bool) :=
  some (t0)
set_option maxRecDepth 20000 in
set_option maxHeartbeats 2000000 in
theorem e_X1_holdsFor_110 {d : Nat} {Ψ : Option AV → DS → Prop} {i0 : Nat} {p1 : Int32} {p2 : Int32} {p3 : Nat} {p4 : Int32} {r : Bool} {g : Nat → Nat → Nat → Int32} {w : Nat → Nat → Nat → Int64} {t0 : Bool} {x0 : Option AV} {x1 : Option AV} {x2 : Option AV} {x3 : Option AV} {x4 : Option AV} {x5 : Option AV} {x6 : Option AV} {x7 : Option AV} (hΨ : Ψ (some (aI (bI r))) (L0, g, w, q0)) (h : s_X1_holdsFor_110 i0 p1 p2 p3 p4 t0 g w = some r) : Ev (EvM mth (d + 3)) mth c00 sc0 (retP (some .boolean) c00 Ψ) (lkp es_24) 110 [x0, x1, x2, x3, x4, x5, x6, x7] [aI (bI t0)] (L0, g, w, q0) := by
  unfold s_X1_holdsFor_110 at h
  obtain rfl := Option.some.inj h
  exact ev_ireturn rfl ⟨⟨_, rfl, nar_bI _⟩, rfl, rfl, hΨ⟩
def s_X1_holdsFor (i0 : Nat) (p1 : Int32) (p2 : Int32) (p3 : Nat) (p4 : Int32) (g : Nat → Nat → Nat → Int32) (w : Nat → Nat → Nat → Int64) : Option (Bool) :=
  if inR p2 6 = true then
    if p1 = (5 : Int32) then
      some ((s_X5_isFree (6 * i0 + p2.toNatClampNeg) (s_X4_hoursFrom p3 p4 g w) g w))
    else
    if p1 = (6 : Int32) then
      (s_X5_fuelLasts (6 * i0 + p2.toNatClampNeg) ((w 5 (6 * i0 + p2.toNatClampNeg) 8) ||| (s_X4_hoursFrom p3 p4 g w)) g w).bind fun q1 =>
      some (q1)
    else
    if p1 = (7 : Int32) then
      (s_X5_crewRests (6 * i0 + p2.toNatClampNeg) ((w 5 (6 * i0 + p2.toNatClampNeg) 8) ||| (s_X4_hoursFrom p3 p4 g w)) (g 1 i0 5) g w).bind fun q2 =>
      some (q2)
    else
    if p1 = (8 : Int32) then
      if (s_X5_isBroken (6 * i0 + p2.toNatClampNeg) ((p4 + (g 4 p3 3)) - (1 : Int32)) g w) = true then
        s_X1_holdsFor_110 i0 p1 p2 p3 p4 false g w
      else
        s_X1_holdsFor_110 i0 p1 p2 p3 p4 true g w
    else
      (s_X1_canBeThere i0 p2 p3 p4 g w).bind fun q3 =>
      some (q3)
  else none
set_option maxRecDepth 20000 in
set_option maxHeartbeats 2000000 in
theorem d_X1_holdsFor {d : Nat} {i0 : Nat} {p1 : Int32} {p2 : Int32} {p3 : Nat} {p4 : Int32} {g : Nat → Nat → Nat → Int32} {w : Nat → Nat → Nat → Int64} {r : Bool} (h : s_X1_holdsFor i0 p1 p2 p3 p4 g w = some r) : Does (EvM mth (d + 4)) 24 [aR 1 i0, aI p1, aI p2, aR 4 p3, aI p4] (L0, g, w, q0) (some (aI (bI r))) (L0, g, w, q0) := by
  intro Ψ hΨ
  refine ⟨in_24, mth_24, Nat.le_of_ble_eq_true rfl, ?_⟩
  show Ev (EvM mth (d + 3)) mth c00 sc0 (retP (some .boolean) c00 Ψ) (lkp es_24) 0 [some (aR 1 i0), some (aI p1), some (aI p2), some (aR 4 p3), some (aI p4), none, none, none] [] (L0, g, w, q0)
  unfold s_X1_holdsFor at h
  refine ev_aload_n (pc' := 1) rfl rfl rfl ?_
  refine ev_getQ (pc' := 4) rfl rfl rfl ?_
  refine ev_iload_n (pc' := 5) rfl rfl rfl ?_
  obtain ⟨hi, h⟩ := gdB h
  refine ev_aald (pc' := 6) rfl rfl (by decide) rfl (inR_vp hi) rfl ?_
  refine ev_astore (pc' := 8) rfl rfl (l' := [some (aR 1 i0), some (aI p1), some (aI p2), some (aR 4 p3), some (aI p4), some (aR 5 (6 * i0 + p2.toNatClampNeg)), none, none]) rfl ?_
  refine ev_aload_n (pc' := 9) rfl rfl rfl ?_
  refine ev_iload (pc' := 11) rfl rfl rfl ?_
  refine ev_V2L (pc' := 14) rfl (by decide) rfl mth_60 ⟨Nat.le_of_ble_eq_true rfl, rfl⟩ ⟨Nat.le_refl _, Nat.le_refl _⟩ d_X4_hoursFrom ?_
  refine ev_lstore (pc' := 16) rfl rfl (l' := [some (aR 1 i0), some (aI p1), some (aI p2), some (aR 4 p3), some (aI p4), some (aR 5 (6 * i0 + p2.toNatClampNeg)), some (aL (s_X4_hoursFrom p3 p4 g w)), none]) rfl ?_
  refine ev_iload_n (pc' := 17) rfl rfl rfl ?_
  refine ev_tsw rfl (fun hd => ?_) (fun n u hn hv => ?_)
  · skip
    have h := (if_neg (show ¬ p1 = (5 : Int32) from fun e9 => by rw [e9] at hd; revert hd; decide)).symm.trans h
    have h := (if_neg (show ¬ p1 = (6 : Int32) from fun e9 => by rw [e9] at hd; revert hd; decide)).symm.trans h
    have h := (if_neg (show ¬ p1 = (7 : Int32) from fun e9 => by rw [e9] at hd; revert hd; decide)).symm.trans h
    have h := (if_neg (show ¬ p1 = (8 : Int32) from fun e9 => by rw [e9] at hd; revert hd; decide)).symm.trans h
    refine ev_aload_n (pc' := 112) rfl rfl rfl ?_
    refine ev_iload_n (pc' := 113) rfl rfl rfl ?_
    refine ev_aload_n (pc' := 114) rfl rfl rfl ?_
    refine ev_iload (pc' := 116) rfl rfl rfl ?_
    obtain ⟨q3, hq3, h⟩ := Option.bind_eq_some_iff.mp h
    refine ev_V4I (pc' := 119) rfl (by decide) rfl mth_20 ⟨Nat.le_of_ble_eq_true rfl, rfl⟩ ⟨Nat.le_refl _, Nat.le_refl _⟩ (d_X1_canBeThere hq3) ?_
    obtain rfl := Option.some.inj h
    exact ev_ireturn rfl ⟨⟨_, rfl, nar_bI _⟩, rfl, rfl, hΨ⟩
  · match n, hn with
    | 0, hn =>
      obtain rfl := Option.some.inj hn
      have e9 : p1 = (5 : Int32) := Int32.toInt_inj.mp (hv.trans (by decide))
      have h := (if_pos e9).symm.trans h
      refine ev_aload (pc' := 50) rfl rfl rfl ?_
      refine ev_lload (pc' := 52) rfl rfl rfl ?_
      refine ev_V2I (pc' := 55) rfl (by decide) rfl mth_68 ⟨Nat.le_of_ble_eq_true rfl, rfl⟩ ⟨Nat.le_refl _, Nat.le_refl _⟩ d_X5_isFree ?_
      obtain rfl := Option.some.inj h
      exact ev_ireturn rfl ⟨⟨_, rfl, nar_bI _⟩, rfl, rfl, hΨ⟩
    | 1, hn =>
      obtain rfl := Option.some.inj hn
      have e9 : p1 = (6 : Int32) := Int32.toInt_inj.mp (hv.trans (by decide))
      have h := (if_neg (show ¬ p1 = (5 : Int32) from by rw [e9]; decide)).symm.trans h
      have h := (if_pos e9).symm.trans h
      refine ev_aload (pc' := 58) rfl rfl rfl ?_
      refine ev_aload (pc' := 60) rfl rfl rfl ?_
      refine ev_getL (pc' := 63) rfl rfl ?_
      refine ev_lload (pc' := 65) rfl rfl rfl ?_
      refine ev_lor (pc' := 66) rfl rfl ?_
      obtain ⟨q1, hq1, h⟩ := Option.bind_eq_some_iff.mp h
      refine ev_V2I (pc' := 69) rfl (by decide) rfl mth_70 ⟨Nat.le_of_ble_eq_true rfl, rfl⟩ ⟨Nat.le_refl _, Nat.le_refl _⟩ (d_X5_fuelLasts hq1) ?_
      obtain rfl := Option.some.inj h
      exact ev_ireturn rfl ⟨⟨_, rfl, nar_bI _⟩, rfl, rfl, hΨ⟩
    | 2, hn =>
      obtain rfl := Option.some.inj hn
      have e9 : p1 = (7 : Int32) := Int32.toInt_inj.mp (hv.trans (by decide))
      have h := (if_neg (show ¬ p1 = (5 : Int32) from by rw [e9]; decide)).symm.trans h
      have h := (if_neg (show ¬ p1 = (6 : Int32) from by rw [e9]; decide)).symm.trans h
      have h := (if_pos e9).symm.trans h
      refine ev_aload (pc' := 72) rfl rfl rfl ?_
      refine ev_aload (pc' := 74) rfl rfl rfl ?_
      refine ev_getL (pc' := 77) rfl rfl ?_
      refine ev_lload (pc' := 79) rfl rfl rfl ?_
      refine ev_lor (pc' := 80) rfl rfl ?_
      refine ev_aload_n (pc' := 81) rfl rfl rfl ?_
      refine ev_getI (pc' := 84) rfl rfl ?_
      obtain ⟨q2, hq2, h⟩ := Option.bind_eq_some_iff.mp h
      refine ev_V3I (pc' := 87) rfl (by decide) rfl mth_72 ⟨Nat.le_of_ble_eq_true rfl, rfl⟩ ⟨Nat.le_refl _, Nat.le_refl _⟩ (d_X5_crewRests hq2) ?_
      obtain rfl := Option.some.inj h
      exact ev_ireturn rfl ⟨⟨_, rfl, nar_bI _⟩, rfl, rfl, hΨ⟩
    | 3, hn =>
      obtain rfl := Option.some.inj hn
      have e9 : p1 = (8 : Int32) := Int32.toInt_inj.mp (hv.trans (by decide))
      have h := (if_neg (show ¬ p1 = (5 : Int32) from by rw [e9]; decide)).symm.trans h
      have h := (if_neg (show ¬ p1 = (6 : Int32) from by rw [e9]; decide)).symm.trans h
      have h := (if_neg (show ¬ p1 = (7 : Int32) from by rw [e9]; decide)).symm.trans h
      have h := (if_pos e9).symm.trans h
      refine ev_aload (pc' := 90) rfl rfl rfl ?_
      refine ev_iload (pc' := 92) rfl rfl rfl ?_
      refine ev_aload_n (pc' := 93) rfl rfl rfl ?_
      refine ev_getI (pc' := 96) rfl rfl ?_
      refine ev_iadd (pc' := 97) rfl rfl ?_
      refine ev_iconst (pc' := 98) rfl rfl (v := (1 : Int32)) (by decide) ?_
      refine ev_isub (pc' := 99) rfl rfl ?_
      refine ev_V2I (pc' := 102) rfl (by decide) rfl mth_66 ⟨Nat.le_of_ble_eq_true rfl, rfl⟩ ⟨Nat.le_refl _, Nat.le_refl _⟩ d_X5_isBroken ?_
      refine ev_ifB_ne rfl (pc' := 105) rfl (fun hc => ?_) (fun hc => ?_)
      · have h := (if_pos hc).symm.trans h
        refine ev_iconst (pc' := 110) rfl rfl (v := (0 : Int32)) (by decide) ?_
        exact e_X1_holdsFor_110 hΨ h
      · have h := (if_neg hc).symm.trans h
        refine ev_iconst (pc' := 106) rfl rfl (v := (1 : Int32)) (by decide) ?_
        refine ev_goto (pc' := 110) rfl ?_
        exact e_X1_holdsFor_110 hΨ h
    | n + 4, hn => exact absurd hn (by simp)
def s_X1_tugsFor_124 (i0 : Nat) (p1 : Nat) (p2 : Int32) (v3 : Int32) (g : Nat → Nat → Nat → Int32) (w : Nat → Nat → Nat → Int64) : Option (Int32) :=
  some (v3)
set_option maxRecDepth 20000 in
set_option maxHeartbeats 2000000 in
theorem e_X1_tugsFor_124 {d : Nat} {Ψ : Option AV → DS → Prop} {i0 : Nat} {p1 : Nat} {p2 : Int32} {r : Int32} {g : Nat → Nat → Nat → Int32} {w : Nat → Nat → Nat → Int64} {v3 : Int32} {x0 : Option AV} {x1 : Option AV} {x2 : Option AV} {x4 : Option AV} {x5 : Option AV} {x6 : Option AV} {x7 : Option AV} {x8 : Option AV} {x9 : Option AV} (hΨ : Ψ (some (aI r)) (L0, g, w, q0)) (h : s_X1_tugsFor_124 i0 p1 p2 v3 g w = some r) : Ev (EvM mth (d + 3)) mth c00 sc0 (retP (some .int) c00 Ψ) (lkp es_26) 124 [x0, x1, x2, some (aI v3), x4, x5, x6, x7, x8, x9] [] (L0, g, w, q0) := by
  unfold s_X1_tugsFor_124 at h
  refine ev_iload_n (pc' := 125) rfl rfl rfl ?_
  obtain rfl := Option.some.inj h
  exact ev_ireturn rfl ⟨⟨_, rfl, rfl⟩, rfl, rfl, hΨ⟩
def s_X1_tugsFor_118 (i0 : Nat) (p1 : Nat) (p2 : Int32) (rec12 : Int32 → Int64 → Int32 → (Nat → Nat → Nat → Int32) → (Nat → Nat → Nat → Int64) → Option (Int32)) (v3 : Int32) (v4 : Int64) (v6 : Int32) (g : Nat → Nat → Nat → Int32) (w : Nat → Nat → Nat → Int64) : Option (Int32) :=
  rec12 v3 v4 (v6 + 1) g w
set_option maxRecDepth 20000 in
set_option maxHeartbeats 2000000 in
theorem e_X1_tugsFor_118 {d : Nat} {Ψ : Option AV → DS → Prop} {i0 : Nat} {p1 : Nat} {p2 : Int32} {rec12 : Int32 → Int64 → Int32 → (Nat → Nat → Nat → Int32) → (Nat → Nat → Nat → Int64) → Option (Int32)} {r : Int32} {g : Nat → Nat → Nat → Int32} {w : Nat → Nat → Nat → Int64} {v3 : Int32} {v4 : Int64} {v6 : Int32} {x5 : Option AV} {x7 : Option AV} {x8 : Option AV} {x9 : Option AV} (hr12 : ∀ {v3 : Int32} {v4 : Int64} {v6 : Int32} {x5 : Option AV} {x7 : Option AV} {x8 : Option AV} {x9 : Option AV} , rec12 v3 v4 v6 g w = some r → Ev (EvM mth (d + 3)) mth c00 sc0 (retP (some .int) c00 Ψ) (lkp es_26) 12 [some (aR 1 i0), some (aR 4 p1), some (aI p2), some (aI v3), some (aL v4), x5, some (aI v6), x7, x8, x9] [] (L0, g, w, q0)) (hΨ : Ψ (some (aI r)) (L0, g, w, q0)) (h : s_X1_tugsFor_118 i0 p1 p2 rec12 v3 v4 v6 g w = some r) : Ev (EvM mth (d + 3)) mth c00 sc0 (retP (some .int) c00 Ψ) (lkp es_26) 118 [some (aR 1 i0), some (aR 4 p1), some (aI p2), some (aI v3), some (aL v4), x5, some (aI v6), x7, x8, x9] [] (L0, g, w, q0) := by
  unfold s_X1_tugsFor_118 at h
  refine ev_iinc (pc' := 121) rfl rfl (l' := [some (aR 1 i0), some (aR 4 p1), some (aI p2), some (aI v3), some (aL v4), (klO x5), some (aI (v6 + 1)), x7, x8, x9]) rfl (ii_1 _) rfl ?_
  refine ev_goto (pc' := 12) rfl ?_
  exact hr12 h
def s_X1_tugsFor_12 (i0 : Nat) (p1 : Nat) (p2 : Int32) (rec12 : Int32 → Int64 → Int32 → (Nat → Nat → Nat → Int32) → (Nat → Nat → Nat → Int64) → Option (Int32)) (v3 : Int32) (v4 : Int64) (v6 : Int32) (g : Nat → Nat → Nat → Int32) (w : Nat → Nat → Nat → Int64) : Option (Int32) :=
  if (g 1 i0 9) ≤ v6 then
    s_X1_tugsFor_124 i0 p1 p2 v3 g w
  else
    if (6 : Int32) ≤ v6 then
      s_X1_tugsFor_124 i0 p1 p2 v3 g w
    else
      if inR v6 6 = true then
        if (s_X5_isFree (6 * i0 + v6.toNatClampNeg) v4 g w) = true then
          if (s_X5_isBroken (6 * i0 + v6.toNatClampNeg) ((p2 + (g 4 p1 3)) - (1 : Int32)) g w) = true then
            s_X1_tugsFor_118 i0 p1 p2 rec12 v3 v4 v6 g w
          else
            (s_X1_canBeThere i0 v6 p1 p2 g w).bind fun q1 =>
            if q1 = true then
              (s_X5_crewRests (6 * i0 + v6.toNatClampNeg) ((w 5 (6 * i0 + v6.toNatClampNeg) 8) ||| v4) (g 1 i0 5) g w).bind fun q2 =>
              if q2 = true then
                (s_X5_fuelLasts (6 * i0 + v6.toNatClampNeg) ((w 5 (6 * i0 + v6.toNatClampNeg) 8) ||| v4) g w).bind fun q3 =>
                if q3 = true then
                  s_X1_tugsFor_118 i0 p1 p2 rec12 (v3 ||| ((1 : Int32) <<< (v6 &&& 31))) v4 v6 g w
                else
                  s_X1_tugsFor_118 i0 p1 p2 rec12 v3 v4 v6 g w
              else
                s_X1_tugsFor_118 i0 p1 p2 rec12 v3 v4 v6 g w
            else
              s_X1_tugsFor_118 i0 p1 p2 rec12 v3 v4 v6 g w
        else
          s_X1_tugsFor_118 i0 p1 p2 rec12 v3 v4 v6 g w
      else none
set_option maxRecDepth 20000 in
set_option maxHeartbeats 2000000 in
theorem e_X1_tugsFor_12 {d : Nat} {Ψ : Option AV → DS → Prop} {i0 : Nat} {p1 : Nat} {p2 : Int32} {rec12 : Int32 → Int64 → Int32 → (Nat → Nat → Nat → Int32) → (Nat → Nat → Nat → Int64) → Option (Int32)} {r : Int32} {g : Nat → Nat → Nat → Int32} {w : Nat → Nat → Nat → Int64} {v3 : Int32} {v4 : Int64} {v6 : Int32} {x5 : Option AV} {x7 : Option AV} {x8 : Option AV} {x9 : Option AV} (hr12 : ∀ {v3 : Int32} {v4 : Int64} {v6 : Int32} {x5 : Option AV} {x7 : Option AV} {x8 : Option AV} {x9 : Option AV} , rec12 v3 v4 v6 g w = some r → Ev (EvM mth (d + 3)) mth c00 sc0 (retP (some .int) c00 Ψ) (lkp es_26) 12 [some (aR 1 i0), some (aR 4 p1), some (aI p2), some (aI v3), some (aL v4), x5, some (aI v6), x7, x8, x9] [] (L0, g, w, q0)) (hΨ : Ψ (some (aI r)) (L0, g, w, q0)) (h : s_X1_tugsFor_12 i0 p1 p2 rec12 v3 v4 v6 g w = some r) : Ev (EvM mth (d + 3)) mth c00 sc0 (retP (some .int) c00 Ψ) (lkp es_26) 12 [some (aR 1 i0), some (aR 4 p1), some (aI p2), some (aI v3), some (aL v4), x5, some (aI v6), x7, x8, x9] [] (L0, g, w, q0) := by
  unfold s_X1_tugsFor_12 at h
  refine ev_iload (pc' := 14) rfl rfl rfl ?_
  refine ev_aload_n (pc' := 15) rfl rfl rfl ?_
  refine ev_getI (pc' := 18) rfl rfl ?_
  refine ev_icmp_ge rfl (pc' := 21) rfl (fun hc => ?_) (fun hc => ?_)
  · have h := (if_pos hc).symm.trans h
    exact e_X1_tugsFor_124 hΨ h
  · have h := (if_neg hc).symm.trans h
    refine ev_iload (pc' := 23) rfl rfl rfl ?_
    refine ev_aload_n (pc' := 24) rfl rfl rfl ?_
    refine ev_getQ (pc' := 27) rfl rfl rfl ?_
    refine ev_alen (pc' := 28) rfl rfl (by decide) (v := (6 : Int32)) (by decide) ?_
    refine ev_icmp_ge rfl (pc' := 31) rfl (fun hc => ?_) (fun hc => ?_)
    · have h := (if_pos hc).symm.trans h
      exact e_X1_tugsFor_124 hΨ h
    · have h := (if_neg hc).symm.trans h
      refine ev_aload_n (pc' := 32) rfl rfl rfl ?_
      refine ev_getQ (pc' := 35) rfl rfl rfl ?_
      refine ev_iload (pc' := 37) rfl rfl rfl ?_
      obtain ⟨hi, h⟩ := gdB h
      refine ev_aald (pc' := 38) rfl rfl (by decide) rfl (inR_vp hi) rfl ?_
      refine ev_astore (pc' := 40) rfl rfl (l' := [some (aR 1 i0), some (aR 4 p1), some (aI p2), some (aI v3), some (aL v4), x5, some (aI v6), some (aR 5 (6 * i0 + v6.toNatClampNeg)), x8, x9]) rfl ?_
      refine ev_aload (pc' := 42) rfl rfl rfl ?_
      refine ev_getL (pc' := 45) rfl rfl ?_
      refine ev_lload (pc' := 47) rfl rfl rfl ?_
      refine ev_lor (pc' := 48) rfl rfl ?_
      refine ev_lstore (pc' := 50) rfl rfl (l' := [some (aR 1 i0), some (aR 4 p1), some (aI p2), some (aI v3), some (aL v4), x5, some (aI v6), some (aR 5 (6 * i0 + v6.toNatClampNeg)), some (aL ((w 5 (6 * i0 + v6.toNatClampNeg) 8) ||| v4)), none]) rfl ?_
      refine ev_aload (pc' := 52) rfl rfl rfl ?_
      refine ev_lload (pc' := 54) rfl rfl rfl ?_
      refine ev_V2I (pc' := 57) rfl (by decide) rfl mth_68 ⟨Nat.le_of_ble_eq_true rfl, rfl⟩ ⟨Nat.le_refl _, Nat.le_refl _⟩ d_X5_isFree ?_
      refine ev_ifB_eq rfl (pc' := 60) rfl (fun hc => ?_) (fun hc => ?_)
      · have h := (if_neg hc).symm.trans h
        exact e_X1_tugsFor_118 (hr12 := hr12) hΨ h
      · have h := (if_pos hc).symm.trans h
        refine ev_aload (pc' := 62) rfl rfl rfl ?_
        refine ev_iload_n (pc' := 63) rfl rfl rfl ?_
        refine ev_aload_n (pc' := 64) rfl rfl rfl ?_
        refine ev_getI (pc' := 67) rfl rfl ?_
        refine ev_iadd (pc' := 68) rfl rfl ?_
        refine ev_iconst (pc' := 69) rfl rfl (v := (1 : Int32)) (by decide) ?_
        refine ev_isub (pc' := 70) rfl rfl ?_
        refine ev_V2I (pc' := 73) rfl (by decide) rfl mth_66 ⟨Nat.le_of_ble_eq_true rfl, rfl⟩ ⟨Nat.le_refl _, Nat.le_refl _⟩ d_X5_isBroken ?_
        refine ev_ifB_ne rfl (pc' := 76) rfl (fun hc => ?_) (fun hc => ?_)
        · have h := (if_pos hc).symm.trans h
          exact e_X1_tugsFor_118 (hr12 := hr12) hΨ h
        · have h := (if_neg hc).symm.trans h
          refine ev_aload_n (pc' := 77) rfl rfl rfl ?_
          refine ev_iload (pc' := 79) rfl rfl rfl ?_
          refine ev_aload_n (pc' := 80) rfl rfl rfl ?_
          refine ev_iload_n (pc' := 81) rfl rfl rfl ?_
          obtain ⟨q1, hq1, h⟩ := Option.bind_eq_some_iff.mp h
          refine ev_V4I (pc' := 84) rfl (by decide) rfl mth_20 ⟨Nat.le_of_ble_eq_true rfl, rfl⟩ ⟨Nat.le_refl _, Nat.le_refl _⟩ (d_X1_canBeThere hq1) ?_
          refine ev_ifB_eq rfl (pc' := 87) rfl (fun hc => ?_) (fun hc => ?_)
          · have h := (if_neg hc).symm.trans h
            exact e_X1_tugsFor_118 (hr12 := hr12) hΨ h
          · have h := (if_pos hc).symm.trans h
            refine ev_aload (pc' := 89) rfl rfl rfl ?_
            refine ev_lload (pc' := 91) rfl rfl rfl ?_
            refine ev_aload_n (pc' := 92) rfl rfl rfl ?_
            refine ev_getI (pc' := 95) rfl rfl ?_
            obtain ⟨q2, hq2, h⟩ := Option.bind_eq_some_iff.mp h
            refine ev_V3I (pc' := 98) rfl (by decide) rfl mth_72 ⟨Nat.le_of_ble_eq_true rfl, rfl⟩ ⟨Nat.le_refl _, Nat.le_refl _⟩ (d_X5_crewRests hq2) ?_
            refine ev_ifB_eq rfl (pc' := 101) rfl (fun hc => ?_) (fun hc => ?_)
            · have h := (if_neg hc).symm.trans h
              exact e_X1_tugsFor_118 (hr12 := hr12) hΨ h
            · have h := (if_pos hc).symm.trans h
              refine ev_aload (pc' := 103) rfl rfl rfl ?_
              refine ev_lload (pc' := 105) rfl rfl rfl ?_
              obtain ⟨q3, hq3, h⟩ := Option.bind_eq_some_iff.mp h
              refine ev_V2I (pc' := 108) rfl (by decide) rfl mth_70 ⟨Nat.le_of_ble_eq_true rfl, rfl⟩ ⟨Nat.le_refl _, Nat.le_refl _⟩ (d_X5_fuelLasts hq3) ?_
              refine ev_ifB_eq rfl (pc' := 111) rfl (fun hc => ?_) (fun hc => ?_)
              · have h := (if_neg hc).symm.trans h
                exact e_X1_tugsFor_118 (hr12 := hr12) hΨ h
              · have h := (if_pos hc).symm.trans h
                refine ev_iload_n (pc' := 112) rfl rfl rfl ?_
                refine ev_iconst (pc' := 113) rfl rfl (v := (1 : Int32)) (by decide) ?_
                refine ev_iload (pc' := 115) rfl rfl rfl ?_
                refine ev_ishl (pc' := 116) rfl rfl ?_
                refine ev_ior (pc' := 117) rfl rfl ?_
                refine ev_istore_n (pc' := 118) rfl rfl (l' := [some (aR 1 i0), some (aR 4 p1), some (aI p2), some (aI (v3 ||| ((1 : Int32) <<< (v6 &&& 31)))), some (aL v4), x5, some (aI v6), some (aR 5 (6 * i0 + v6.toNatClampNeg)), some (aL ((w 5 (6 * i0 + v6.toNatClampNeg) 8) ||| v4)), none]) rfl ?_
                exact e_X1_tugsFor_118 (hr12 := hr12) hΨ h
def s_X1_tugsFor_R12 (i0 : Nat) (p1 : Nat) (p2 : Int32) : Nat → Int32 → Int64 → Int32 → (Nat → Nat → Nat → Int32) → (Nat → Nat → Nat → Int64) → Option (Int32)
  | 0 => fun _ _ _ _ _ => none
  | n + 1 => s_X1_tugsFor_12 i0 p1 p2 (s_X1_tugsFor_R12 i0 p1 p2 n)
theorem e_X1_tugsFor_R12 {d : Nat} {Ψ : Option AV → DS → Prop} {i0 : Nat} {p1 : Nat} {p2 : Int32} {r : Int32} {g : Nat → Nat → Nat → Int32} {w : Nat → Nat → Nat → Int64} (hΨ : Ψ (some (aI r)) (L0, g, w, q0)) : ∀ (n : Nat) {v3 : Int32} {v4 : Int64} {v6 : Int32} {x5 : Option AV} {x7 : Option AV} {x8 : Option AV} {x9 : Option AV}, s_X1_tugsFor_R12 i0 p1 p2 n v3 v4 v6 g w = some r → Ev (EvM mth (d + 3)) mth c00 sc0 (retP (some .int) c00 Ψ) (lkp es_26) 12 [some (aR 1 i0), some (aR 4 p1), some (aI p2), some (aI v3), some (aL v4), x5, some (aI v6), x7, x8, x9] [] (L0, g, w, q0) := by
  intro n
  induction n with
  | zero => intros; rename_i h; exact absurd h (by intro h9; cases h9)
  | succ n ih => intros; rename_i h; exact e_X1_tugsFor_12 (hr12 := ih) hΨ h
def s_X1_tugsFor (i0 : Nat) (p1 : Nat) (p2 : Int32) (g : Nat → Nat → Nat → Int32) (w : Nat → Nat → Nat → Int64) : Option (Int32) :=
  s_X1_tugsFor_R12 i0 p1 p2 FU (0 : Int32) (s_X4_hoursFrom p1 p2 g w) (0 : Int32) g w
set_option maxRecDepth 20000 in
set_option maxHeartbeats 2000000 in
theorem d_X1_tugsFor {d : Nat} {i0 : Nat} {p1 : Nat} {p2 : Int32} {g : Nat → Nat → Nat → Int32} {w : Nat → Nat → Nat → Int64} {r : Int32} (h : s_X1_tugsFor i0 p1 p2 g w = some r) : Does (EvM mth (d + 4)) 26 [aR 1 i0, aR 4 p1, aI p2] (L0, g, w, q0) (some (aI r)) (L0, g, w, q0) := by
  intro Ψ hΨ
  refine ⟨in_26, mth_26, Nat.le_of_ble_eq_true rfl, ?_⟩
  show Ev (EvM mth (d + 3)) mth c00 sc0 (retP (some .int) c00 Ψ) (lkp es_26) 0 [some (aR 1 i0), some (aR 4 p1), some (aI p2), none, none, none, none, none, none, none] [] (L0, g, w, q0)
  unfold s_X1_tugsFor at h
  refine ev_iconst (pc' := 1) rfl rfl (v := (0 : Int32)) (by decide) ?_
  refine ev_istore_n (pc' := 2) rfl rfl (l' := [some (aR 1 i0), some (aR 4 p1), some (aI p2), some (aI (0 : Int32)), none, none, none, none, none, none]) rfl ?_
  refine ev_aload_n (pc' := 3) rfl rfl rfl ?_
  refine ev_iload_n (pc' := 4) rfl rfl rfl ?_
  refine ev_V2L (pc' := 7) rfl (by decide) rfl mth_60 ⟨Nat.le_of_ble_eq_true rfl, rfl⟩ ⟨Nat.le_refl _, Nat.le_refl _⟩ d_X4_hoursFrom ?_
  refine ev_lstore (pc' := 9) rfl rfl (l' := [some (aR 1 i0), some (aR 4 p1), some (aI p2), some (aI (0 : Int32)), some (aL (s_X4_hoursFrom p1 p2 g w)), none, none, none, none, none]) rfl ?_
  refine ev_iconst (pc' := 10) rfl rfl (v := (0 : Int32)) (by decide) ?_
  refine ev_istore (pc' := 12) rfl rfl (l' := [some (aR 1 i0), some (aR 4 p1), some (aI p2), some (aI (0 : Int32)), some (aL (s_X4_hoursFrom p1 p2 g w)), none, some (aI (0 : Int32)), none, none, none]) rfl ?_
  exact e_X1_tugsFor_R12 hΨ FU h
def s_X1_leastSet_115 (i0 : Nat) (p1 : Nat) (p2 : Int32) (p3 : Int32) (rec42 : Int32 → Int32 → Int32 → (Nat → Nat → Nat → Int32) → (Nat → Nat → Nat → Int64) → Option (Int32)) (v4 : Int32) (v5 : Int32) (v6 : Int32) (g : Nat → Nat → Nat → Int32) (w : Nat → Nat → Nat → Int64) : Option (Int32) :=
  rec42 v4 v5 (v6 + 1) g w
set_option maxRecDepth 20000 in
set_option maxHeartbeats 2000000 in
theorem e_X1_leastSet_115 {d : Nat} {Ψ : Option AV → DS → Prop} {i0 : Nat} {p1 : Nat} {p2 : Int32} {p3 : Int32} {rec42 : Int32 → Int32 → Int32 → (Nat → Nat → Nat → Int32) → (Nat → Nat → Nat → Int64) → Option (Int32)} {r : Int32} {g : Nat → Nat → Nat → Int32} {w : Nat → Nat → Nat → Int64} {v4 : Int32} {v5 : Int32} {v6 : Int32} (hr42 : ∀ {v4 : Int32} {v5 : Int32} {v6 : Int32} , rec42 v4 v5 v6 g w = some r → Ev (EvM mth (d + 3)) mth c00 sc0 (retP (some .int) c00 Ψ) (lkp es_27) 42 [some (aR 1 i0), some (aR 4 p1), some (aI p2), some (aI p3), some (aI v4), some (aI v5), some (aI v6)] [] (L0, g, w, q0)) (hΨ : Ψ (some (aI r)) (L0, g, w, q0)) (h : s_X1_leastSet_115 i0 p1 p2 p3 rec42 v4 v5 v6 g w = some r) : Ev (EvM mth (d + 3)) mth c00 sc0 (retP (some .int) c00 Ψ) (lkp es_27) 115 [some (aR 1 i0), some (aR 4 p1), some (aI p2), some (aI p3), some (aI v4), some (aI v5), some (aI v6)] [] (L0, g, w, q0) := by
  unfold s_X1_leastSet_115 at h
  refine ev_iinc (pc' := 118) rfl rfl (l' := [some (aR 1 i0), some (aR 4 p1), some (aI p2), some (aI p3), some (aI v4), some (aI v5), some (aI (v6 + 1))]) rfl (ii_1 _) rfl ?_
  refine ev_goto (pc' := 42) rfl ?_
  exact hr42 h
def s_X1_leastSet_111 (i0 : Nat) (p1 : Nat) (p2 : Int32) (p3 : Int32) (rec42 : Int32 → Int32 → Int32 → (Nat → Nat → Nat → Int32) → (Nat → Nat → Nat → Int64) → Option (Int32)) (v4 : Int32) (v6 : Int32) (g : Nat → Nat → Nat → Int32) (w : Nat → Nat → Nat → Int64) : Option (Int32) :=
  s_X1_leastSet_115 i0 p1 p2 p3 rec42 v4 v6 v6 g w
set_option maxRecDepth 20000 in
set_option maxHeartbeats 2000000 in
theorem e_X1_leastSet_111 {d : Nat} {Ψ : Option AV → DS → Prop} {i0 : Nat} {p1 : Nat} {p2 : Int32} {p3 : Int32} {rec42 : Int32 → Int32 → Int32 → (Nat → Nat → Nat → Int32) → (Nat → Nat → Nat → Int64) → Option (Int32)} {r : Int32} {g : Nat → Nat → Nat → Int32} {w : Nat → Nat → Nat → Int64} {v4 : Int32} {v6 : Int32} {x5 : Option AV} (hr42 : ∀ {v4 : Int32} {v5 : Int32} {v6 : Int32} , rec42 v4 v5 v6 g w = some r → Ev (EvM mth (d + 3)) mth c00 sc0 (retP (some .int) c00 Ψ) (lkp es_27) 42 [some (aR 1 i0), some (aR 4 p1), some (aI p2), some (aI p3), some (aI v4), some (aI v5), some (aI v6)] [] (L0, g, w, q0)) (hΨ : Ψ (some (aI r)) (L0, g, w, q0)) (h : s_X1_leastSet_111 i0 p1 p2 p3 rec42 v4 v6 g w = some r) : Ev (EvM mth (d + 3)) mth c00 sc0 (retP (some .int) c00 Ψ) (lkp es_27) 111 [some (aR 1 i0), some (aR 4 p1), some (aI p2), some (aI p3), some (aI v4), x5, some (aI v6)] [] (L0, g, w, q0) := by
  unfold s_X1_leastSet_111 at h
  refine ev_iload (pc' := 113) rfl rfl rfl ?_
  refine ev_istore (pc' := 115) rfl rfl (l' := [some (aR 1 i0), some (aR 4 p1), some (aI p2), some (aI p3), some (aI v4), some (aI v6), some (aI v6)]) rfl ?_
  exact e_X1_leastSet_115 (hr42 := hr42) hΨ h
def s_X1_leastSet_93 (i0 : Nat) (p1 : Nat) (p2 : Int32) (p3 : Int32) (rec42 : Int32 → Int32 → Int32 → (Nat → Nat → Nat → Int32) → (Nat → Nat → Nat → Int64) → Option (Int32)) (v4 : Int32) (v5 : Int32) (v6 : Int32) (g : Nat → Nat → Nat → Int32) (w : Nat → Nat → Nat → Int64) : Option (Int32) :=
  if (g 1 i0 6) = 0 then
    s_X1_leastSet_111 i0 p1 p2 p3 rec42 v4 v6 g w
  else
    (s_X1_isGuarded i0 p1 p2 v6 g w).bind fun q1 =>
    if q1 = true then
      s_X1_leastSet_111 i0 p1 p2 p3 rec42 v4 v6 g w
    else
      s_X1_leastSet_115 i0 p1 p2 p3 rec42 v4 v5 v6 g w
set_option maxRecDepth 20000 in
set_option maxHeartbeats 2000000 in
theorem e_X1_leastSet_93 {d : Nat} {Ψ : Option AV → DS → Prop} {i0 : Nat} {p1 : Nat} {p2 : Int32} {p3 : Int32} {rec42 : Int32 → Int32 → Int32 → (Nat → Nat → Nat → Int32) → (Nat → Nat → Nat → Int64) → Option (Int32)} {r : Int32} {g : Nat → Nat → Nat → Int32} {w : Nat → Nat → Nat → Int64} {v4 : Int32} {v5 : Int32} {v6 : Int32} (hr42 : ∀ {v4 : Int32} {v5 : Int32} {v6 : Int32} , rec42 v4 v5 v6 g w = some r → Ev (EvM mth (d + 3)) mth c00 sc0 (retP (some .int) c00 Ψ) (lkp es_27) 42 [some (aR 1 i0), some (aR 4 p1), some (aI p2), some (aI p3), some (aI v4), some (aI v5), some (aI v6)] [] (L0, g, w, q0)) (hΨ : Ψ (some (aI r)) (L0, g, w, q0)) (h : s_X1_leastSet_93 i0 p1 p2 p3 rec42 v4 v5 v6 g w = some r) : Ev (EvM mth (d + 3)) mth c00 sc0 (retP (some .int) c00 Ψ) (lkp es_27) 93 [some (aR 1 i0), some (aR 4 p1), some (aI p2), some (aI p3), some (aI v4), some (aI v5), some (aI v6)] [] (L0, g, w, q0) := by
  unfold s_X1_leastSet_93 at h
  refine ev_aload_n (pc' := 94) rfl rfl rfl ?_
  refine ev_getI (pc' := 97) rfl rfl ?_
  refine ev_if_eq rfl (pc' := 100) rfl (fun hc => ?_) (fun hc => ?_)
  · have h := (if_pos hc).symm.trans h
    exact e_X1_leastSet_111 (hr42 := hr42) hΨ h
  · have h := (if_neg hc).symm.trans h
    refine ev_aload_n (pc' := 101) rfl rfl rfl ?_
    refine ev_aload_n (pc' := 102) rfl rfl rfl ?_
    refine ev_iload_n (pc' := 103) rfl rfl rfl ?_
    refine ev_iload (pc' := 105) rfl rfl rfl ?_
    obtain ⟨q1, hq1, h⟩ := Option.bind_eq_some_iff.mp h
    refine ev_V4I (pc' := 108) rfl (by decide) rfl mth_16 ⟨Nat.le_of_ble_eq_true rfl, rfl⟩ ⟨Nat.le_refl _, Nat.le_refl _⟩ (d_X1_isGuarded hq1) ?_
    refine ev_ifB_eq rfl (pc' := 111) rfl (fun hc => ?_) (fun hc => ?_)
    · have h := (if_neg hc).symm.trans h
      exact e_X1_leastSet_115 (hr42 := hr42) hΨ h
    · have h := (if_pos hc).symm.trans h
      exact e_X1_leastSet_111 (hr42 := hr42) hΨ h
def s_X1_leastSet_42 (i0 : Nat) (p1 : Nat) (p2 : Int32) (p3 : Int32) (rec42 : Int32 → Int32 → Int32 → (Nat → Nat → Nat → Int32) → (Nat → Nat → Nat → Int64) → Option (Int32)) (v4 : Int32) (v5 : Int32) (v6 : Int32) (g : Nat → Nat → Nat → Int32) (w : Nat → Nat → Nat → Int64) : Option (Int32) :=
  if p3 < v6 then
    some (v5)
  else
    if (v6 &&& (p3 ^^^ (-1 : Int32))) ≠ 0 then
      s_X1_leastSet_115 i0 p1 p2 p3 rec42 v4 v5 v6 g w
    else
      (s_X1_pullOf i0 v6 g w).bind fun q1 =>
      if q1 < v4 then
        s_X1_leastSet_115 i0 p1 p2 p3 rec42 v4 v5 v6 g w
      else
        (s_X1_canPullAstern i0 v6 g w).bind fun q2 =>
        if q2 = true then
          if v5 = 0 then
            s_X1_leastSet_93 i0 p1 p2 p3 rec42 v4 v5 v6 g w
          else
            (s_X1_isLess i0 v6 v5 g w).bind fun q3 =>
            if q3 = true then
              s_X1_leastSet_93 i0 p1 p2 p3 rec42 v4 v5 v6 g w
            else
              s_X1_leastSet_115 i0 p1 p2 p3 rec42 v4 v5 v6 g w
        else
          s_X1_leastSet_115 i0 p1 p2 p3 rec42 v4 v5 v6 g w
set_option maxRecDepth 20000 in
set_option maxHeartbeats 2000000 in
theorem e_X1_leastSet_42 {d : Nat} {Ψ : Option AV → DS → Prop} {i0 : Nat} {p1 : Nat} {p2 : Int32} {p3 : Int32} {rec42 : Int32 → Int32 → Int32 → (Nat → Nat → Nat → Int32) → (Nat → Nat → Nat → Int64) → Option (Int32)} {r : Int32} {g : Nat → Nat → Nat → Int32} {w : Nat → Nat → Nat → Int64} {v4 : Int32} {v5 : Int32} {v6 : Int32} (hr42 : ∀ {v4 : Int32} {v5 : Int32} {v6 : Int32} , rec42 v4 v5 v6 g w = some r → Ev (EvM mth (d + 3)) mth c00 sc0 (retP (some .int) c00 Ψ) (lkp es_27) 42 [some (aR 1 i0), some (aR 4 p1), some (aI p2), some (aI p3), some (aI v4), some (aI v5), some (aI v6)] [] (L0, g, w, q0)) (hΨ : Ψ (some (aI r)) (L0, g, w, q0)) (h : s_X1_leastSet_42 i0 p1 p2 p3 rec42 v4 v5 v6 g w = some r) : Ev (EvM mth (d + 3)) mth c00 sc0 (retP (some .int) c00 Ψ) (lkp es_27) 42 [some (aR 1 i0), some (aR 4 p1), some (aI p2), some (aI p3), some (aI v4), some (aI v5), some (aI v6)] [] (L0, g, w, q0) := by
  unfold s_X1_leastSet_42 at h
  refine ev_iload (pc' := 44) rfl rfl rfl ?_
  refine ev_iload_n (pc' := 45) rfl rfl rfl ?_
  refine ev_icmp_gt rfl (pc' := 48) rfl (fun hc => ?_) (fun hc => ?_)
  · have h := (if_pos hc).symm.trans h
    refine ev_iload (pc' := 123) rfl rfl rfl ?_
    obtain rfl := Option.some.inj h
    exact ev_ireturn rfl ⟨⟨_, rfl, rfl⟩, rfl, rfl, hΨ⟩
  · have h := (if_neg hc).symm.trans h
    refine ev_iload (pc' := 50) rfl rfl rfl ?_
    refine ev_iload_n (pc' := 51) rfl rfl rfl ?_
    refine ev_iconst (pc' := 52) rfl rfl (v := (-1 : Int32)) (by decide) ?_
    refine ev_ixor (pc' := 53) rfl rfl ?_
    refine ev_iand (pc' := 54) rfl rfl ?_
    refine ev_if_ne rfl (pc' := 57) rfl (fun hc => ?_) (fun hc => ?_)
    · have h := (if_pos hc).symm.trans h
      exact e_X1_leastSet_115 (hr42 := hr42) hΨ h
    · have h := (if_neg hc).symm.trans h
      refine ev_aload_n (pc' := 58) rfl rfl rfl ?_
      refine ev_iload (pc' := 60) rfl rfl rfl ?_
      obtain ⟨q1, hq1, h⟩ := Option.bind_eq_some_iff.mp h
      refine ev_V2I (pc' := 63) rfl (by decide) rfl mth_12 ⟨Nat.le_of_ble_eq_true rfl, rfl⟩ ⟨Nat.le_refl _, Nat.le_refl _⟩ (d_X1_pullOf hq1) ?_
      refine ev_iload (pc' := 65) rfl rfl rfl ?_
      refine ev_icmp_lt rfl (pc' := 68) rfl (fun hc => ?_) (fun hc => ?_)
      · have h := (if_pos hc).symm.trans h
        exact e_X1_leastSet_115 (hr42 := hr42) hΨ h
      · have h := (if_neg hc).symm.trans h
        refine ev_aload_n (pc' := 69) rfl rfl rfl ?_
        refine ev_iload (pc' := 71) rfl rfl rfl ?_
        obtain ⟨q2, hq2, h⟩ := Option.bind_eq_some_iff.mp h
        refine ev_V2I (pc' := 74) rfl (by decide) rfl mth_13 ⟨Nat.le_of_ble_eq_true rfl, rfl⟩ ⟨Nat.le_refl _, Nat.le_refl _⟩ (d_X1_canPullAstern hq2) ?_
        refine ev_ifB_eq rfl (pc' := 77) rfl (fun hc => ?_) (fun hc => ?_)
        · have h := (if_neg hc).symm.trans h
          exact e_X1_leastSet_115 (hr42 := hr42) hΨ h
        · have h := (if_pos hc).symm.trans h
          refine ev_iload (pc' := 79) rfl rfl rfl ?_
          refine ev_if_eq rfl (pc' := 82) rfl (fun hc => ?_) (fun hc => ?_)
          · have h := (if_pos hc).symm.trans h
            exact e_X1_leastSet_93 (hr42 := hr42) hΨ h
          · have h := (if_neg hc).symm.trans h
            refine ev_aload_n (pc' := 83) rfl rfl rfl ?_
            refine ev_iload (pc' := 85) rfl rfl rfl ?_
            refine ev_iload (pc' := 87) rfl rfl rfl ?_
            obtain ⟨q3, hq3, h⟩ := Option.bind_eq_some_iff.mp h
            refine ev_V3I (pc' := 90) rfl (by decide) rfl mth_28 ⟨Nat.le_of_ble_eq_true rfl, rfl⟩ ⟨Nat.le_refl _, Nat.le_refl _⟩ (d_X1_isLess hq3) ?_
            refine ev_ifB_eq rfl (pc' := 93) rfl (fun hc => ?_) (fun hc => ?_)
            · have h := (if_neg hc).symm.trans h
              exact e_X1_leastSet_115 (hr42 := hr42) hΨ h
            · have h := (if_pos hc).symm.trans h
              exact e_X1_leastSet_93 (hr42 := hr42) hΨ h
def s_X1_leastSet_R42 (i0 : Nat) (p1 : Nat) (p2 : Int32) (p3 : Int32) : Nat → Int32 → Int32 → Int32 → (Nat → Nat → Nat → Int32) → (Nat → Nat → Nat → Int64) → Option (Int32)
  | 0 => fun _ _ _ _ _ => none
  | n + 1 => s_X1_leastSet_42 i0 p1 p2 p3 (s_X1_leastSet_R42 i0 p1 p2 p3 n)
theorem e_X1_leastSet_R42 {d : Nat} {Ψ : Option AV → DS → Prop} {i0 : Nat} {p1 : Nat} {p2 : Int32} {p3 : Int32} {r : Int32} {g : Nat → Nat → Nat → Int32} {w : Nat → Nat → Nat → Int64} (hΨ : Ψ (some (aI r)) (L0, g, w, q0)) : ∀ (n : Nat) {v4 : Int32} {v5 : Int32} {v6 : Int32} , s_X1_leastSet_R42 i0 p1 p2 p3 n v4 v5 v6 g w = some r → Ev (EvM mth (d + 3)) mth c00 sc0 (retP (some .int) c00 Ψ) (lkp es_27) 42 [some (aR 1 i0), some (aR 4 p1), some (aI p2), some (aI p3), some (aI v4), some (aI v5), some (aI v6)] [] (L0, g, w, q0) := by
  intro n
  induction n with
  | zero => intros; rename_i h; exact absurd h (by intro h9; cases h9)
  | succ n ih => intros; rename_i h; exact e_X1_leastSet_42 (hr42 := ih) hΨ h
def s_X1_leastSet_34 (i0 : Nat) (p1 : Nat) (p2 : Int32) (p3 : Int32) (g : Nat → Nat → Nat → Int32) (w : Nat → Nat → Nat → Int64) : Option (Int32) :=
  some ((0 : Int32))
set_option maxRecDepth 20000 in
set_option maxHeartbeats 2000000 in
theorem e_X1_leastSet_34 {d : Nat} {Ψ : Option AV → DS → Prop} {i0 : Nat} {p1 : Nat} {p2 : Int32} {p3 : Int32} {r : Int32} {g : Nat → Nat → Nat → Int32} {w : Nat → Nat → Nat → Int64} {x0 : Option AV} {x1 : Option AV} {x2 : Option AV} {x3 : Option AV} {x4 : Option AV} {x5 : Option AV} {x6 : Option AV} (hΨ : Ψ (some (aI r)) (L0, g, w, q0)) (h : s_X1_leastSet_34 i0 p1 p2 p3 g w = some r) : Ev (EvM mth (d + 3)) mth c00 sc0 (retP (some .int) c00 Ψ) (lkp es_27) 34 [x0, x1, x2, x3, x4, x5, x6] [] (L0, g, w, q0) := by
  unfold s_X1_leastSet_34 at h
  refine ev_iconst (pc' := 35) rfl rfl (v := (0 : Int32)) (by decide) ?_
  obtain rfl := Option.some.inj h
  exact ev_ireturn rfl ⟨⟨_, rfl, rfl⟩, rfl, rfl, hΨ⟩
def s_X1_leastSet (i0 : Nat) (p1 : Nat) (p2 : Int32) (p3 : Int32) (g : Nat → Nat → Nat → Int32) (w : Nat → Nat → Nat → Int64) : Option (Int32) :=
  (s_X1_mostNeeded i0 p1 p2 ((p2 + (g 4 p1 3)) - (1 : Int32)) g w).bind fun q1 =>
  (s_X1_pullOf i0 p3 g w).bind fun q2 =>
  if q2 < q1 then
    s_X1_leastSet_34 i0 p1 p2 p3 g w
  else
    (s_X1_canPullAstern i0 p3 g w).bind fun q3 =>
    if q3 = true then
      s_X1_leastSet_R42 i0 p1 p2 p3 FU q1 (0 : Int32) (1 : Int32) g w
    else
      s_X1_leastSet_34 i0 p1 p2 p3 g w
set_option maxRecDepth 20000 in
set_option maxHeartbeats 2000000 in
theorem d_X1_leastSet {d : Nat} {i0 : Nat} {p1 : Nat} {p2 : Int32} {p3 : Int32} {g : Nat → Nat → Nat → Int32} {w : Nat → Nat → Nat → Int64} {r : Int32} (h : s_X1_leastSet i0 p1 p2 p3 g w = some r) : Does (EvM mth (d + 4)) 27 [aR 1 i0, aR 4 p1, aI p2, aI p3] (L0, g, w, q0) (some (aI r)) (L0, g, w, q0) := by
  intro Ψ hΨ
  refine ⟨in_27, mth_27, Nat.le_of_ble_eq_true rfl, ?_⟩
  show Ev (EvM mth (d + 3)) mth c00 sc0 (retP (some .int) c00 Ψ) (lkp es_27) 0 [some (aR 1 i0), some (aR 4 p1), some (aI p2), some (aI p3), none, none, none] [] (L0, g, w, q0)
  unfold s_X1_leastSet at h
  refine ev_aload_n (pc' := 1) rfl rfl rfl ?_
  refine ev_aload_n (pc' := 2) rfl rfl rfl ?_
  refine ev_iload_n (pc' := 3) rfl rfl rfl ?_
  refine ev_iload_n (pc' := 4) rfl rfl rfl ?_
  refine ev_aload_n (pc' := 5) rfl rfl rfl ?_
  refine ev_getI (pc' := 8) rfl rfl ?_
  refine ev_iadd (pc' := 9) rfl rfl ?_
  refine ev_iconst (pc' := 10) rfl rfl (v := (1 : Int32)) (by decide) ?_
  refine ev_isub (pc' := 11) rfl rfl ?_
  obtain ⟨q1, hq1, h⟩ := Option.bind_eq_some_iff.mp h
  refine ev_V4I (pc' := 14) rfl (by decide) rfl mth_11 ⟨Nat.le_of_ble_eq_true rfl, rfl⟩ ⟨Nat.le_refl _, Nat.le_refl _⟩ (d_X1_mostNeeded hq1) ?_
  refine ev_istore (pc' := 16) rfl rfl (l' := [some (aR 1 i0), some (aR 4 p1), some (aI p2), some (aI p3), some (aI q1), none, none]) rfl ?_
  refine ev_aload_n (pc' := 17) rfl rfl rfl ?_
  refine ev_iload_n (pc' := 18) rfl rfl rfl ?_
  obtain ⟨q2, hq2, h⟩ := Option.bind_eq_some_iff.mp h
  refine ev_V2I (pc' := 21) rfl (by decide) rfl mth_12 ⟨Nat.le_of_ble_eq_true rfl, rfl⟩ ⟨Nat.le_refl _, Nat.le_refl _⟩ (d_X1_pullOf hq2) ?_
  refine ev_iload (pc' := 23) rfl rfl rfl ?_
  refine ev_icmp_lt rfl (pc' := 26) rfl (fun hc => ?_) (fun hc => ?_)
  · have h := (if_pos hc).symm.trans h
    exact e_X1_leastSet_34 hΨ h
  · have h := (if_neg hc).symm.trans h
    refine ev_aload_n (pc' := 27) rfl rfl rfl ?_
    refine ev_iload_n (pc' := 28) rfl rfl rfl ?_
    obtain ⟨q3, hq3, h⟩ := Option.bind_eq_some_iff.mp h
    refine ev_V2I (pc' := 31) rfl (by decide) rfl mth_13 ⟨Nat.le_of_ble_eq_true rfl, rfl⟩ ⟨Nat.le_refl _, Nat.le_refl _⟩ (d_X1_canPullAstern hq3) ?_
    refine ev_ifB_ne rfl (pc' := 34) rfl (fun hc => ?_) (fun hc => ?_)
    · have h := (if_pos hc).symm.trans h
      refine ev_iconst (pc' := 37) rfl rfl (v := (0 : Int32)) (by decide) ?_
      refine ev_istore (pc' := 39) rfl rfl (l' := [some (aR 1 i0), some (aR 4 p1), some (aI p2), some (aI p3), some (aI q1), some (aI (0 : Int32)), none]) rfl ?_
      refine ev_iconst (pc' := 40) rfl rfl (v := (1 : Int32)) (by decide) ?_
      refine ev_istore (pc' := 42) rfl rfl (l' := [some (aR 1 i0), some (aR 4 p1), some (aI p2), some (aI p3), some (aI q1), some (aI (0 : Int32)), some (aI (1 : Int32))]) rfl ?_
      exact e_X1_leastSet_R42 hΨ FU h
    · have h := (if_neg hc).symm.trans h
      exact e_X1_leastSet_34 hΨ h
def s_X1_release_82 (i0 : Nat) (p1 : Nat) (p2 : Int32) (p3 : Int32) (rec21 : Int64 → Int32 → Int32 → (Nat → Nat → Nat → Int32) → (Nat → Nat → Nat → Int64) → Option (Int32 × GS)) (v4 : Int64) (v6 : Int32) (v7 : Int32) (g : Nat → Nat → Nat → Int32) (w : Nat → Nat → Nat → Int64) : Option (Int32 × GS) :=
  rec21 v4 v6 (v7 + 1) g w
set_option maxRecDepth 20000 in
set_option maxHeartbeats 2000000 in
theorem e_X1_release_82 {d : Nat} {Ψ : Option AV → DS → Prop} {i0 : Nat} {p1 : Nat} {p2 : Int32} {p3 : Int32} {rec21 : Int64 → Int32 → Int32 → (Nat → Nat → Nat → Int32) → (Nat → Nat → Nat → Int64) → Option (Int32 × GS)} {r : Int32 × GS} {g : Nat → Nat → Nat → Int32} {w : Nat → Nat → Nat → Int64} {v4 : Int64} {v6 : Int32} {v7 : Int32} {x1 : Option AV} {x3 : Option AV} {x5 : Option AV} (hr21 : ∀ {v4 : Int64} {v6 : Int32} {v7 : Int32} {x1 : Option AV} {x3 : Option AV} {x5 : Option AV} {g : Nat → Nat → Nat → Int32} {w : Nat → Nat → Nat → Int64} , rec21 v4 v6 v7 g w = some r → Ev (EvM mth (d + 3)) mth c00 sc0 (retP (some .int) c00 Ψ) (lkp es_30) 21 [some (aR 1 i0), x1, some (aI p2), x3, some (aL v4), x5, some (aI v6), some (aI v7)] [] (L0, g, w, q0)) (hΨ : Ψ (some (aI r.1)) (L0, r.2.1, r.2.2, q0)) (h : s_X1_release_82 i0 p1 p2 p3 rec21 v4 v6 v7 g w = some r) : Ev (EvM mth (d + 3)) mth c00 sc0 (retP (some .int) c00 Ψ) (lkp es_30) 82 [some (aR 1 i0), x1, some (aI p2), x3, some (aL v4), x5, some (aI v6), some (aI v7)] [] (L0, g, w, q0) := by
  unfold s_X1_release_82 at h
  refine ev_iinc (pc' := 85) rfl rfl (l' := [some (aR 1 i0), x1, some (aI p2), x3, some (aL v4), x5, some (aI v6), some (aI (v7 + 1))]) rfl (ii_1 _) rfl ?_
  refine ev_goto (pc' := 21) rfl ?_
  exact hr21 h
def s_X1_release_21 (i0 : Nat) (p1 : Nat) (p2 : Int32) (p3 : Int32) (rec21 : Int64 → Int32 → Int32 → (Nat → Nat → Nat → Int32) → (Nat → Nat → Nat → Int64) → Option (Int32 × GS)) (v4 : Int64) (v6 : Int32) (v7 : Int32) (g : Nat → Nat → Nat → Int32) (w : Nat → Nat → Nat → Int64) : Option (Int32 × GS) :=
  if (6 : Int32) ≤ v7 then
    some ((v6, g, w))
  else
    if (s_X6_isIn v7 p2 g w) = true then
      if inR v7 6 = true then
        if inR v7 6 = true then
          s_X1_release_82 i0 p1 p2 p3 rec21 v4 (v6 + (s_J_Long_bitCount ((w 5 (6 * i0 + v7.toNatClampNeg) 8) &&& v4) g w)) v7 g (wL w 5 (6 * i0 + v7.toNatClampNeg) 8 ((w 5 (6 * i0 + v7.toNatClampNeg) 8) &&& (v4 ^^^ (-1 : Int64))))
        else none
      else none
    else
      s_X1_release_82 i0 p1 p2 p3 rec21 v4 v6 v7 g w
set_option maxRecDepth 20000 in
set_option maxHeartbeats 2000000 in
theorem e_X1_release_21 {d : Nat} {Ψ : Option AV → DS → Prop} {i0 : Nat} {p1 : Nat} {p2 : Int32} {p3 : Int32} {rec21 : Int64 → Int32 → Int32 → (Nat → Nat → Nat → Int32) → (Nat → Nat → Nat → Int64) → Option (Int32 × GS)} {r : Int32 × GS} {g : Nat → Nat → Nat → Int32} {w : Nat → Nat → Nat → Int64} {v4 : Int64} {v6 : Int32} {v7 : Int32} {x1 : Option AV} {x3 : Option AV} {x5 : Option AV} (hr21 : ∀ {v4 : Int64} {v6 : Int32} {v7 : Int32} {x1 : Option AV} {x3 : Option AV} {x5 : Option AV} {g : Nat → Nat → Nat → Int32} {w : Nat → Nat → Nat → Int64} , rec21 v4 v6 v7 g w = some r → Ev (EvM mth (d + 3)) mth c00 sc0 (retP (some .int) c00 Ψ) (lkp es_30) 21 [some (aR 1 i0), x1, some (aI p2), x3, some (aL v4), x5, some (aI v6), some (aI v7)] [] (L0, g, w, q0)) (hΨ : Ψ (some (aI r.1)) (L0, r.2.1, r.2.2, q0)) (h : s_X1_release_21 i0 p1 p2 p3 rec21 v4 v6 v7 g w = some r) : Ev (EvM mth (d + 3)) mth c00 sc0 (retP (some .int) c00 Ψ) (lkp es_30) 21 [some (aR 1 i0), x1, some (aI p2), x3, some (aL v4), x5, some (aI v6), some (aI v7)] [] (L0, g, w, q0) := by
  unfold s_X1_release_21 at h
  refine ev_iload (pc' := 23) rfl rfl rfl ?_
  refine ev_aload_n (pc' := 24) rfl rfl rfl ?_
  refine ev_getQ (pc' := 27) rfl rfl rfl ?_
  refine ev_alen (pc' := 28) rfl rfl (by decide) (v := (6 : Int32)) (by decide) ?_
  refine ev_icmp_ge rfl (pc' := 31) rfl (fun hc => ?_) (fun hc => ?_)
  · have h := (if_pos hc).symm.trans h
    refine ev_iload (pc' := 90) rfl rfl rfl ?_
    obtain rfl := Option.some.inj h
    exact ev_ireturn rfl ⟨⟨_, rfl, rfl⟩, rfl, rfl, hΨ⟩
  · have h := (if_neg hc).symm.trans h
    refine ev_iload (pc' := 33) rfl rfl rfl ?_
    refine ev_iload_n (pc' := 34) rfl rfl rfl ?_
    refine ev_S2I (pc' := 37) rfl (by decide) rfl mth_113 ⟨Nat.le_of_ble_eq_true rfl, rfl⟩ ⟨Nat.le_refl _, Nat.le_refl _⟩ d_X6_isIn ?_
    refine ev_ifB_eq rfl (pc' := 40) rfl (fun hc => ?_) (fun hc => ?_)
    · have h := (if_neg hc).symm.trans h
      exact e_X1_release_82 (hr21 := hr21) hΨ h
    · have h := (if_pos hc).symm.trans h
      refine ev_iload (pc' := 42) rfl rfl rfl ?_
      refine ev_aload_n (pc' := 43) rfl rfl rfl ?_
      refine ev_getQ (pc' := 46) rfl rfl rfl ?_
      refine ev_iload (pc' := 48) rfl rfl rfl ?_
      obtain ⟨hi, h⟩ := gdB h
      refine ev_aald (pc' := 49) rfl rfl (by decide) rfl (inR_vp hi) rfl ?_
      refine ev_getL (pc' := 52) rfl rfl ?_
      refine ev_lload (pc' := 54) rfl rfl rfl ?_
      refine ev_land (pc' := 55) rfl rfl ?_
      refine ev_S1I (pc' := 58) rfl (by decide) rfl mth_192 ⟨Nat.le_of_ble_eq_true rfl, rfl⟩ ⟨Nat.le_refl _, Nat.le_refl _⟩ d_J_Long_bitCount ?_
      refine ev_iadd (pc' := 59) rfl rfl ?_
      refine ev_istore (pc' := 61) rfl rfl (l' := [some (aR 1 i0), x1, some (aI p2), x3, some (aL v4), (klO x5), some (aI (v6 + (s_J_Long_bitCount ((w 5 (6 * i0 + v7.toNatClampNeg) 8) &&& v4) g w))), some (aI v7)]) rfl ?_
      refine ev_aload_n (pc' := 62) rfl rfl rfl ?_
      refine ev_getQ (pc' := 65) rfl rfl rfl ?_
      refine ev_iload (pc' := 67) rfl rfl rfl ?_
      obtain ⟨hi, h⟩ := gdB h
      refine ev_aald (pc' := 68) rfl rfl (by decide) rfl (inR_vp hi) rfl ?_
      refine ev_dup (pc' := 69) rfl rfl rfl ?_
      refine ev_getL (pc' := 72) rfl rfl ?_
      refine ev_lload (pc' := 74) rfl rfl rfl ?_
      refine ev_ldc2_w (pc' := 77) rfl rfl (v := (-1 : Int64)) (by decide) ?_
      refine ev_lxor (pc' := 78) rfl rfl ?_
      refine ev_land (pc' := 79) rfl rfl ?_
      refine ev_putL (pc' := 82) rfl rfl ?_
      exact e_X1_release_82 (hr21 := hr21) hΨ h
def s_X1_release_R21 (i0 : Nat) (p1 : Nat) (p2 : Int32) (p3 : Int32) : Nat → Int64 → Int32 → Int32 → (Nat → Nat → Nat → Int32) → (Nat → Nat → Nat → Int64) → Option (Int32 × GS)
  | 0 => fun _ _ _ _ _ => none
  | n + 1 => s_X1_release_21 i0 p1 p2 p3 (s_X1_release_R21 i0 p1 p2 p3 n)
theorem e_X1_release_R21 {d : Nat} {Ψ : Option AV → DS → Prop} {i0 : Nat} {p1 : Nat} {p2 : Int32} {p3 : Int32} {r : Int32 × GS} (hΨ : Ψ (some (aI r.1)) (L0, r.2.1, r.2.2, q0)) : ∀ (n : Nat) {v4 : Int64} {v6 : Int32} {v7 : Int32} {x1 : Option AV} {x3 : Option AV} {x5 : Option AV} {g : Nat → Nat → Nat → Int32} {w : Nat → Nat → Nat → Int64}, s_X1_release_R21 i0 p1 p2 p3 n v4 v6 v7 g w = some r → Ev (EvM mth (d + 3)) mth c00 sc0 (retP (some .int) c00 Ψ) (lkp es_30) 21 [some (aR 1 i0), x1, some (aI p2), x3, some (aL v4), x5, some (aI v6), some (aI v7)] [] (L0, g, w, q0) := by
  intro n
  induction n with
  | zero => intros; rename_i h; exact absurd h (by intro h9; cases h9)
  | succ n ih => intros; rename_i h; exact e_X1_release_21 (hr21 := ih) hΨ h
def s_X1_release (i0 : Nat) (p1 : Nat) (p2 : Int32) (p3 : Int32) (g : Nat → Nat → Nat → Int32) (w : Nat → Nat → Nat → Int64) : Option (Int32 × GS) :=
  s_X1_release_R21 i0 p1 p2 p3 FU ((s_X4_jobHours p1 g w) &&& ((s_X6_hoursAhead p3 g w) ^^^ (-1 : Int64))) (0 : Int32) (0 : Int32) g w
set_option maxRecDepth 20000 in
set_option maxHeartbeats 2000000 in
theorem d_X1_release {d : Nat} {i0 : Nat} {p1 : Nat} {p2 : Int32} {p3 : Int32} {g : Nat → Nat → Nat → Int32} {w : Nat → Nat → Nat → Int64} {r : Int32 × GS} (h : s_X1_release i0 p1 p2 p3 g w = some r) : Does (EvM mth (d + 4)) 30 [aR 1 i0, aR 4 p1, aI p2, aI p3] (L0, g, w, q0) (some (aI r.1)) (L0, r.2.1, r.2.2, q0) := by
  intro Ψ hΨ
  refine ⟨in_30, mth_30, Nat.le_of_ble_eq_true rfl, ?_⟩
  show Ev (EvM mth (d + 3)) mth c00 sc0 (retP (some .int) c00 Ψ) (lkp es_30) 0 [some (aR 1 i0), some (aR 4 p1), some (aI p2), some (aI p3), none, none, none, none] [] (L0, g, w, q0)
  unfold s_X1_release at h
  refine ev_aload_n (pc' := 1) rfl rfl rfl ?_
  refine ev_V1L (pc' := 4) rfl (by decide) rfl mth_61 ⟨Nat.le_of_ble_eq_true rfl, rfl⟩ ⟨Nat.le_refl _, Nat.le_refl _⟩ d_X4_jobHours ?_
  refine ev_iload_n (pc' := 5) rfl rfl rfl ?_
  refine ev_S1L (pc' := 8) rfl (by decide) rfl mth_112 ⟨Nat.le_of_ble_eq_true rfl, rfl⟩ ⟨Nat.le_refl _, Nat.le_refl _⟩ d_X6_hoursAhead ?_
  refine ev_ldc2_w (pc' := 11) rfl rfl (v := (-1 : Int64)) (by decide) ?_
  refine ev_lxor (pc' := 12) rfl rfl ?_
  refine ev_land (pc' := 13) rfl rfl ?_
  refine ev_lstore (pc' := 15) rfl rfl (l' := [some (aR 1 i0), some (aR 4 p1), some (aI p2), some (aI p3), some (aL ((s_X4_jobHours p1 g w) &&& ((s_X6_hoursAhead p3 g w) ^^^ (-1 : Int64)))), none, none, none]) rfl ?_
  refine ev_iconst (pc' := 16) rfl rfl (v := (0 : Int32)) (by decide) ?_
  refine ev_istore (pc' := 18) rfl rfl (l' := [some (aR 1 i0), some (aR 4 p1), some (aI p2), some (aI p3), some (aL ((s_X4_jobHours p1 g w) &&& ((s_X6_hoursAhead p3 g w) ^^^ (-1 : Int64)))), none, some (aI (0 : Int32)), none]) rfl ?_
  refine ev_iconst (pc' := 19) rfl rfl (v := (0 : Int32)) (by decide) ?_
  refine ev_istore (pc' := 21) rfl rfl (l' := [some (aR 1 i0), some (aR 4 p1), some (aI p2), some (aI p3), some (aL ((s_X4_jobHours p1 g w) &&& ((s_X6_hoursAhead p3 g w) ^^^ (-1 : Int64)))), none, some (aI (0 : Int32)), some (aI (0 : Int32))]) rfl ?_
  exact e_X1_release_R21 hΨ FU h
def s_X1_goesOn_51 (i0 : Nat) (p1 : Nat) (p2 : Int32) (p3 : Int32) (t0 : Bool) (g : Nat → Nat → Nat → Int32) (w : Nat → Nat → Nat → Int64) : Option (Bool) :=
  some (t0)
set_option maxRecDepth 20000 in
set_option maxHeartbeats 2000000 in
theorem e_X1_goesOn_51 {d : Nat} {Ψ : Option AV → DS → Prop} {i0 : Nat} {p1 : Nat} {p2 : Int32} {p3 : Int32} {r : Bool} {g : Nat → Nat → Nat → Int32} {w : Nat → Nat → Nat → Int64} {t0 : Bool} {x0 : Option AV} {x1 : Option AV} {x2 : Option AV} {x3 : Option AV} {x4 : Option AV} (hΨ : Ψ (some (aI (bI r))) (L0, g, w, q0)) (h : s_X1_goesOn_51 i0 p1 p2 p3 t0 g w = some r) : Ev (EvM mth (d + 3)) mth c00 sc0 (retP (some .boolean) c00 Ψ) (lkp es_38) 51 [x0, x1, x2, x3, x4] [aI (bI t0)] (L0, g, w, q0) := by
  unfold s_X1_goesOn_51 at h
  obtain rfl := Option.some.inj h
  exact ev_ireturn rfl ⟨⟨_, rfl, nar_bI _⟩, rfl, rfl, hΨ⟩
def s_X1_goesOn_50 (i0 : Nat) (p1 : Nat) (p2 : Int32) (p3 : Int32) (g : Nat → Nat → Nat → Int32) (w : Nat → Nat → Nat → Int64) : Option (Bool) :=
  s_X1_goesOn_51 i0 p1 p2 p3 false g w
set_option maxRecDepth 20000 in
set_option maxHeartbeats 2000000 in
theorem e_X1_goesOn_50 {d : Nat} {Ψ : Option AV → DS → Prop} {i0 : Nat} {p1 : Nat} {p2 : Int32} {p3 : Int32} {r : Bool} {g : Nat → Nat → Nat → Int32} {w : Nat → Nat → Nat → Int64} {x0 : Option AV} {x1 : Option AV} {x2 : Option AV} {x3 : Option AV} {x4 : Option AV} (hΨ : Ψ (some (aI (bI r))) (L0, g, w, q0)) (h : s_X1_goesOn_50 i0 p1 p2 p3 g w = some r) : Ev (EvM mth (d + 3)) mth c00 sc0 (retP (some .boolean) c00 Ψ) (lkp es_38) 50 [x0, x1, x2, x3, x4] [] (L0, g, w, q0) := by
  unfold s_X1_goesOn_50 at h
  refine ev_iconst (pc' := 51) rfl rfl (v := (0 : Int32)) (by decide) ?_
  exact e_X1_goesOn_51 hΨ h
def s_X1_goesOn (i0 : Nat) (p1 : Nat) (p2 : Int32) (p3 : Int32) (g : Nat → Nat → Nat → Int32) (w : Nat → Nat → Nat → Int64) : Option (Bool) :=
  if p3 ≤ (g 4 p1 7) then
    s_X1_goesOn_50 i0 p1 p2 p3 g w
  else
    if ((g 4 p1 8) &&& (((1 : Int32) <<< (p2 &&& 31)) ^^^ (-1 : Int32))) = 0 then
      s_X1_goesOn_50 i0 p1 p2 p3 g w
    else
      (s_X1_pullOf i0 ((g 4 p1 8) &&& (((1 : Int32) <<< (p2 &&& 31)) ^^^ (-1 : Int32))) g w).bind fun q1 =>
      (s_X1_mostNeeded i0 p1 p3 (s_X4_lastHour p1 g w) g w).bind fun q2 =>
      if ((2 : Int32) * q1) < q2 then
        s_X1_goesOn_50 i0 p1 p2 p3 g w
      else
        s_X1_goesOn_51 i0 p1 p2 p3 true g w
set_option maxRecDepth 20000 in
set_option maxHeartbeats 2000000 in
theorem d_X1_goesOn {d : Nat} {i0 : Nat} {p1 : Nat} {p2 : Int32} {p3 : Int32} {g : Nat → Nat → Nat → Int32} {w : Nat → Nat → Nat → Int64} {r : Bool} (h : s_X1_goesOn i0 p1 p2 p3 g w = some r) : Does (EvM mth (d + 4)) 38 [aR 1 i0, aR 4 p1, aI p2, aI p3] (L0, g, w, q0) (some (aI (bI r))) (L0, g, w, q0) := by
  intro Ψ hΨ
  refine ⟨in_38, mth_38, Nat.le_of_ble_eq_true rfl, ?_⟩
  show Ev (EvM mth (d + 3)) mth c00 sc0 (retP (some .boolean) c00 Ψ) (lkp es_38) 0 [some (aR 1 i0), some (aR 4 p1), some (aI p2), some (aI p3), none] [] (L0, g, w, q0)
  unfold s_X1_goesOn at h
  refine ev_aload_n (pc' := 1) rfl rfl rfl ?_
  refine ev_getI (pc' := 4) rfl rfl ?_
  refine ev_iconst (pc' := 5) rfl rfl (v := (1 : Int32)) (by decide) ?_
  refine ev_iload_n (pc' := 6) rfl rfl rfl ?_
  refine ev_ishl (pc' := 7) rfl rfl ?_
  refine ev_iconst (pc' := 8) rfl rfl (v := (-1 : Int32)) (by decide) ?_
  refine ev_ixor (pc' := 9) rfl rfl ?_
  refine ev_iand (pc' := 10) rfl rfl ?_
  refine ev_istore (pc' := 12) rfl rfl (l' := [some (aR 1 i0), some (aR 4 p1), some (aI p2), some (aI p3), some (aI ((g 4 p1 8) &&& (((1 : Int32) <<< (p2 &&& 31)) ^^^ (-1 : Int32))))]) rfl ?_
  refine ev_aload_n (pc' := 13) rfl rfl rfl ?_
  refine ev_getI (pc' := 16) rfl rfl ?_
  refine ev_iload_n (pc' := 17) rfl rfl rfl ?_
  refine ev_icmp_ge rfl (pc' := 20) rfl (fun hc => ?_) (fun hc => ?_)
  · have h := (if_pos hc).symm.trans h
    exact e_X1_goesOn_50 hΨ h
  · have h := (if_neg hc).symm.trans h
    refine ev_iload (pc' := 22) rfl rfl rfl ?_
    refine ev_if_eq rfl (pc' := 25) rfl (fun hc => ?_) (fun hc => ?_)
    · have h := (if_pos hc).symm.trans h
      exact e_X1_goesOn_50 hΨ h
    · have h := (if_neg hc).symm.trans h
      refine ev_iconst (pc' := 26) rfl rfl (v := (2 : Int32)) (by decide) ?_
      refine ev_aload_n (pc' := 27) rfl rfl rfl ?_
      refine ev_iload (pc' := 29) rfl rfl rfl ?_
      obtain ⟨q1, hq1, h⟩ := Option.bind_eq_some_iff.mp h
      refine ev_V2I (pc' := 32) rfl (by decide) rfl mth_12 ⟨Nat.le_of_ble_eq_true rfl, rfl⟩ ⟨Nat.le_refl _, Nat.le_refl _⟩ (d_X1_pullOf hq1) ?_
      refine ev_imul (pc' := 33) rfl rfl ?_
      refine ev_aload_n (pc' := 34) rfl rfl rfl ?_
      refine ev_aload_n (pc' := 35) rfl rfl rfl ?_
      refine ev_iload_n (pc' := 36) rfl rfl rfl ?_
      refine ev_aload_n (pc' := 37) rfl rfl rfl ?_
      refine ev_V1I (pc' := 40) rfl (by decide) rfl mth_58 ⟨Nat.le_of_ble_eq_true rfl, rfl⟩ ⟨Nat.le_refl _, Nat.le_refl _⟩ d_X4_lastHour ?_
      obtain ⟨q2, hq2, h⟩ := Option.bind_eq_some_iff.mp h
      refine ev_V4I (pc' := 43) rfl (by decide) rfl mth_11 ⟨Nat.le_of_ble_eq_true rfl, rfl⟩ ⟨Nat.le_refl _, Nat.le_refl _⟩ (d_X1_mostNeeded hq2) ?_
      refine ev_icmp_lt rfl (pc' := 46) rfl (fun hc => ?_) (fun hc => ?_)
      · have h := (if_pos hc).symm.trans h
        exact e_X1_goesOn_50 hΨ h
      · have h := (if_neg hc).symm.trans h
        refine ev_iconst (pc' := 47) rfl rfl (v := (1 : Int32)) (by decide) ?_
        refine ev_goto (pc' := 51) rfl ?_
        exact e_X1_goesOn_51 hΨ h
