def s_X6_off (i0 : Nat) (p1 : Int32) (g : Nat → Nat → Nat → Int32) (w : Nat → Nat → Nat → Int64) : Option (Int32 × GS) :=
  if (s_X6_isShip i0 p1 g w) = true then
    if inR p1 8 = true then
      if (s_X4_hasJob (8 * 0 + p1.toNatClampNeg) g w) = true then
        (s_X1_lift 0 (8 * 0 + p1.toNatClampNeg) g w).bind fun q1 =>
        some (((g 4 (8 * 0 + p1.toNatClampNeg) 7), q1.1, q1.2))
      else
        some (((-2 : Int32), g, w))
    else none
  else
    some (((-1 : Int32), g, w))
set_option maxRecDepth 20000 in
set_option maxHeartbeats 2000000 in
theorem d_X6_off {d : Nat} {i0 : Nat} {p1 : Int32} {g : Nat → Nat → Nat → Int32} {w : Nat → Nat → Nat → Int64} {r : Int32 × GS} (h : s_X6_off i0 p1 g w = some r) : Does (EvM mth (d + 6)) 86 [aR 6 i0, aI p1] (L0, g, w, q0) (some (aI r.1)) (L0, r.2.1, r.2.2, q0) := by
  intro Ψ hΨ
  refine ⟨in_86, mth_86, Nat.le_of_ble_eq_true rfl, ?_⟩
  show Ev (EvM mth (d + 5)) mth c00 sc0 (retP (some .int) c00 Ψ) (lkp es_86) 0 [some (aR 6 i0), some (aI p1), none, none] [] (L0, g, w, q0)
  unfold s_X6_off at h
  refine ev_aload_n (pc' := 1) rfl rfl rfl ?_
  refine ev_iload_n (pc' := 2) rfl rfl rfl ?_
  refine ev_V2I (pc' := 5) rfl (by decide) rfl mth_109 ⟨Nat.le_of_ble_eq_true rfl, rfl⟩ ⟨Nat.le_refl _, Nat.le_refl _⟩ d_X6_isShip ?_
  refine ev_ifB_ne rfl (pc' := 8) rfl (fun hc => ?_) (fun hc => ?_)
  · have h := (if_pos hc).symm.trans h
    refine ev_aload_n (pc' := 11) rfl rfl rfl ?_
    refine ev_getQ (pc' := 14) rfl rfl rfl ?_
    refine ev_getQ (pc' := 17) rfl rfl rfl ?_
    refine ev_iload_n (pc' := 18) rfl rfl rfl ?_
    obtain ⟨hi, h⟩ := gdB h
    refine ev_aald (pc' := 19) rfl rfl (by decide) rfl (inR_vp hi) rfl ?_
    refine ev_astore_n (pc' := 20) rfl rfl (l' := [some (aR 6 i0), some (aI p1), some (aR 4 (8 * 0 + p1.toNatClampNeg)), none]) rfl ?_
    refine ev_aload_n (pc' := 21) rfl rfl rfl ?_
    refine ev_V1I (pc' := 24) rfl (by decide) rfl mth_55 ⟨Nat.le_of_ble_eq_true rfl, rfl⟩ ⟨Nat.le_refl _, Nat.le_refl _⟩ d_X4_hasJob ?_
    refine ev_ifB_ne rfl (pc' := 27) rfl (fun hc => ?_) (fun hc => ?_)
    · have h := (if_pos hc).symm.trans h
      refine ev_aload_n (pc' := 31) rfl rfl rfl ?_
      refine ev_getI (pc' := 34) rfl rfl ?_
      refine ev_istore_n (pc' := 35) rfl rfl (l' := [some (aR 6 i0), some (aI p1), some (aR 4 (8 * 0 + p1.toNatClampNeg)), some (aI (g 4 (8 * 0 + p1.toNatClampNeg) 7))]) rfl ?_
      refine ev_aload_n (pc' := 36) rfl rfl rfl ?_
      refine ev_getQ (pc' := 39) rfl rfl rfl ?_
      refine ev_aload_n (pc' := 40) rfl rfl rfl ?_
      obtain ⟨q1, hq1, h⟩ := Option.bind_eq_some_iff.mp h
      refine ev_V2V (pc' := 43) rfl (by decide) rfl mth_31 ⟨Nat.le_of_ble_eq_true rfl, rfl⟩ ⟨Nat.le_refl _, Nat.le_refl _⟩ (d_X1_lift hq1) ?_
      refine ev_iload_n (pc' := 44) rfl rfl rfl ?_
      obtain rfl := Option.some.inj h
      exact ev_ireturn rfl ⟨⟨_, rfl, rfl⟩, rfl, rfl, hΨ⟩
    · have h := (if_neg hc).symm.trans h
      refine ev_bipush (pc' := 29) rfl rfl (v := (-2 : Int32)) (by decide) ?_
      obtain rfl := Option.some.inj h
      exact ev_ireturn rfl ⟨⟨_, rfl, rfl⟩, rfl, rfl, hΨ⟩
  · have h := (if_neg hc).symm.trans h
    refine ev_iconst (pc' := 9) rfl rfl (v := (-1 : Int32)) (by decide) ?_
    obtain rfl := Option.some.inj h
    exact ev_ireturn rfl ⟨⟨_, rfl, rfl⟩, rfl, rfl, hΨ⟩
def s_X6_best_72 (i0 : Nat) (p1 : Int32) (p2 : Int32) (t0 : Int32) (g : Nat → Nat → Nat → Int32) (w : Nat → Nat → Nat → Int64) : Option (Int32 × GS) :=
  some ((t0, g, w))
set_option maxRecDepth 20000 in
set_option maxHeartbeats 2000000 in
theorem e_X6_best_72 {d : Nat} {Ψ : Option AV → DS → Prop} {i0 : Nat} {p1 : Int32} {p2 : Int32} {r : Int32 × GS} {g : Nat → Nat → Nat → Int32} {w : Nat → Nat → Nat → Int64} {t0 : Int32} {x0 : Option AV} {x1 : Option AV} {x2 : Option AV} {x3 : Option AV} {x4 : Option AV} (hΨ : Ψ (some (aI r.1)) (L0, r.2.1, r.2.2, q0)) (h : s_X6_best_72 i0 p1 p2 t0 g w = some r) : Ev (EvM mth (d + 5)) mth c00 sc0 (retP (some .int) c00 Ψ) (lkp es_87) 72 [x0, x1, x2, x3, x4] [aI t0] (L0, g, w, q0) := by
  unfold s_X6_best_72 at h
  obtain rfl := Option.some.inj h
  exact ev_ireturn rfl ⟨⟨_, rfl, rfl⟩, rfl, rfl, hΨ⟩
def s_X6_best_60 (i0 : Nat) (p1 : Int32) (p2 : Int32) (v4 : Int32) (g : Nat → Nat → Nat → Int32) (w : Nat → Nat → Nat → Int64) : Option (Int32 × GS) :=
  s_X6_best_72 i0 p1 p2 v4 g w
set_option maxRecDepth 20000 in
set_option maxHeartbeats 2000000 in
theorem e_X6_best_60 {d : Nat} {Ψ : Option AV → DS → Prop} {i0 : Nat} {p1 : Int32} {p2 : Int32} {r : Int32 × GS} {g : Nat → Nat → Nat → Int32} {w : Nat → Nat → Nat → Int64} {v4 : Int32} {x0 : Option AV} {x1 : Option AV} {x2 : Option AV} {x3 : Option AV} (hΨ : Ψ (some (aI r.1)) (L0, r.2.1, r.2.2, q0)) (h : s_X6_best_60 i0 p1 p2 v4 g w = some r) : Ev (EvM mth (d + 5)) mth c00 sc0 (retP (some .int) c00 Ψ) (lkp es_87) 60 [x0, x1, x2, x3, some (aI v4)] [] (L0, g, w, q0) := by
  unfold s_X6_best_60 at h
  refine ev_iload (pc' := 62) rfl rfl rfl ?_
  refine ev_goto (pc' := 72) rfl ?_
  exact e_X6_best_72 hΨ h
def s_X6_best_17 (i0 : Nat) (p1 : Int32) (p2 : Int32) (g : Nat → Nat → Nat → Int32) (w : Nat → Nat → Nat → Int64) : Option (Int32 × GS) :=
  some (((-1 : Int32), g, w))
set_option maxRecDepth 20000 in
set_option maxHeartbeats 2000000 in
theorem e_X6_best_17 {d : Nat} {Ψ : Option AV → DS → Prop} {i0 : Nat} {p1 : Int32} {p2 : Int32} {r : Int32 × GS} {g : Nat → Nat → Nat → Int32} {w : Nat → Nat → Nat → Int64} {x0 : Option AV} {x1 : Option AV} {x2 : Option AV} {x3 : Option AV} {x4 : Option AV} (hΨ : Ψ (some (aI r.1)) (L0, r.2.1, r.2.2, q0)) (h : s_X6_best_17 i0 p1 p2 g w = some r) : Ev (EvM mth (d + 5)) mth c00 sc0 (retP (some .int) c00 Ψ) (lkp es_87) 17 [x0, x1, x2, x3, x4] [] (L0, g, w, q0) := by
  unfold s_X6_best_17 at h
  refine ev_iconst (pc' := 18) rfl rfl (v := (-1 : Int32)) (by decide) ?_
  obtain rfl := Option.some.inj h
  exact ev_ireturn rfl ⟨⟨_, rfl, rfl⟩, rfl, rfl, hΨ⟩
def s_X6_best (i0 : Nat) (p1 : Int32) (p2 : Int32) (g : Nat → Nat → Nat → Int32) (w : Nat → Nat → Nat → Int64) : Option (Int32 × GS) :=
  if (s_X6_isShip i0 p1 g w) = true then
    if (s_X6_within p2 (0 : Int32) (1 : Int32) g w) = true then
      if inR p1 8 = true then
        if (s_X4_hasJob (8 * 0 + p1.toNatClampNeg) g w) = true then
          some (((-2 : Int32), g, w))
        else
          (s_X1_seekBest 0 (8 * 0 + p1.toNatClampNeg) g w).bind fun q1 =>
          if q1.1 = (-4 : Int32) then
            s_X6_best_60 i0 p1 p2 q1.1 q1.2.1 q1.2.2
          else
            if p2 ≠ 0 then
              s_X6_best_72 i0 p1 p2 (q1.2.1 1 0 15) q1.2.1 q1.2.2
            else
              s_X6_best_60 i0 p1 p2 q1.1 q1.2.1 q1.2.2
      else none
    else
      s_X6_best_17 i0 p1 p2 g w
  else
    s_X6_best_17 i0 p1 p2 g w
set_option maxRecDepth 20000 in
set_option maxHeartbeats 2000000 in
theorem d_X6_best {d : Nat} {i0 : Nat} {p1 : Int32} {p2 : Int32} {g : Nat → Nat → Nat → Int32} {w : Nat → Nat → Nat → Int64} {r : Int32 × GS} (h : s_X6_best i0 p1 p2 g w = some r) : Does (EvM mth (d + 6)) 87 [aR 6 i0, aI p1, aI p2] (L0, g, w, q0) (some (aI r.1)) (L0, r.2.1, r.2.2, q0) := by
  intro Ψ hΨ
  refine ⟨in_87, mth_87, Nat.le_of_ble_eq_true rfl, ?_⟩
  show Ev (EvM mth (d + 5)) mth c00 sc0 (retP (some .int) c00 Ψ) (lkp es_87) 0 [some (aR 6 i0), some (aI p1), some (aI p2), none, none] [] (L0, g, w, q0)
  unfold s_X6_best at h
  refine ev_aload_n (pc' := 1) rfl rfl rfl ?_
  refine ev_iload_n (pc' := 2) rfl rfl rfl ?_
  refine ev_V2I (pc' := 5) rfl (by decide) rfl mth_109 ⟨Nat.le_of_ble_eq_true rfl, rfl⟩ ⟨Nat.le_refl _, Nat.le_refl _⟩ d_X6_isShip ?_
  refine ev_ifB_eq rfl (pc' := 8) rfl (fun hc => ?_) (fun hc => ?_)
  · have h := (if_neg hc).symm.trans h
    exact e_X6_best_17 hΨ h
  · have h := (if_pos hc).symm.trans h
    refine ev_iload_n (pc' := 9) rfl rfl rfl ?_
    refine ev_iconst (pc' := 10) rfl rfl (v := (0 : Int32)) (by decide) ?_
    refine ev_iconst (pc' := 11) rfl rfl (v := (1 : Int32)) (by decide) ?_
    refine ev_S3I (pc' := 14) rfl (by decide) rfl mth_105 ⟨Nat.le_of_ble_eq_true rfl, rfl⟩ ⟨Nat.le_refl _, Nat.le_refl _⟩ d_X6_within ?_
    refine ev_ifB_ne rfl (pc' := 17) rfl (fun hc => ?_) (fun hc => ?_)
    · have h := (if_pos hc).symm.trans h
      refine ev_aload_n (pc' := 20) rfl rfl rfl ?_
      refine ev_getQ (pc' := 23) rfl rfl rfl ?_
      refine ev_getQ (pc' := 26) rfl rfl rfl ?_
      refine ev_iload_n (pc' := 27) rfl rfl rfl ?_
      obtain ⟨hi, h⟩ := gdB h
      refine ev_aald (pc' := 28) rfl rfl (by decide) rfl (inR_vp hi) rfl ?_
      refine ev_astore_n (pc' := 29) rfl rfl (l' := [some (aR 6 i0), some (aI p1), some (aI p2), some (aR 4 (8 * 0 + p1.toNatClampNeg)), none]) rfl ?_
      refine ev_aload_n (pc' := 30) rfl rfl rfl ?_
      refine ev_V1I (pc' := 33) rfl (by decide) rfl mth_55 ⟨Nat.le_of_ble_eq_true rfl, rfl⟩ ⟨Nat.le_refl _, Nat.le_refl _⟩ d_X4_hasJob ?_
      refine ev_ifB_eq rfl (pc' := 36) rfl (fun hc => ?_) (fun hc => ?_)
      · have h := (if_neg hc).symm.trans h
        refine ev_aload_n (pc' := 40) rfl rfl rfl ?_
        refine ev_getQ (pc' := 43) rfl rfl rfl ?_
        refine ev_aload_n (pc' := 44) rfl rfl rfl ?_
        obtain ⟨q1, hq1, h⟩ := Option.bind_eq_some_iff.mp h
        refine ev_V2I (pc' := 47) rfl (by decide) rfl mth_25 ⟨Nat.le_of_ble_eq_true rfl, rfl⟩ ⟨Nat.le_refl _, Nat.le_refl _⟩ (d_X1_seekBest hq1) ?_
        refine ev_istore (pc' := 49) rfl rfl (l' := [some (aR 6 i0), some (aI p1), some (aI p2), some (aR 4 (8 * 0 + p1.toNatClampNeg)), some (aI q1.1)]) rfl ?_
        refine ev_iload (pc' := 51) rfl rfl rfl ?_
        refine ev_bipush (pc' := 53) rfl rfl (v := (-4 : Int32)) (by decide) ?_
        refine ev_icmp_eq rfl (pc' := 56) rfl (fun hc => ?_) (fun hc => ?_)
        · have h := (if_pos hc).symm.trans h
          exact e_X6_best_60 hΨ h
        · have h := (if_neg hc).symm.trans h
          refine ev_iload_n (pc' := 57) rfl rfl rfl ?_
          refine ev_if_ne rfl (pc' := 60) rfl (fun hc => ?_) (fun hc => ?_)
          · have h := (if_pos hc).symm.trans h
            refine ev_aload_n (pc' := 66) rfl rfl rfl ?_
            refine ev_getQ (pc' := 69) rfl rfl rfl ?_
            refine ev_getI (pc' := 72) rfl rfl ?_
            exact e_X6_best_72 hΨ h
          · have h := (if_neg hc).symm.trans h
            exact e_X6_best_60 hΨ h
      · have h := (if_pos hc).symm.trans h
        refine ev_bipush (pc' := 38) rfl rfl (v := (-2 : Int32)) (by decide) ?_
        obtain rfl := Option.some.inj h
        exact ev_ireturn rfl ⟨⟨_, rfl, rfl⟩, rfl, rfl, hΨ⟩
    · have h := (if_neg hc).symm.trans h
      exact e_X6_best_17 hΨ h
def s_X7_failsBy_109 (i0 : Nat) (p1 : Int32) (p2 : Int32) (p3 : Int32) (p4 : Int32) (rec62 : Bool → Int32 → (Nat → Nat → Nat → Int32) → (Nat → Nat → Nat → Int64) → Option (Bool)) (t0 : Bool) (v6 : Int32) (g : Nat → Nat → Nat → Int32) (w : Nat → Nat → Nat → Int64) : Option (Bool) :=
  rec62 t0 (v6 + 1) g w
set_option maxRecDepth 20000 in
set_option maxHeartbeats 2000000 in
theorem e_X7_failsBy_109 {d : Nat} {Ψ : Option AV → DS → Prop} {i0 : Nat} {p1 : Int32} {p2 : Int32} {p3 : Int32} {p4 : Int32} {rec62 : Bool → Int32 → (Nat → Nat → Nat → Int32) → (Nat → Nat → Nat → Int64) → Option (Bool)} {r : Bool} {g : Nat → Nat → Nat → Int32} {w : Nat → Nat → Nat → Int64} {t0 : Bool} {v6 : Int32} {x5 : Option AV} (hr62 : ∀ {v5 : Bool} {v6 : Int32} , rec62 v5 v6 g w = some r → Ev (EvM mth (d + 5)) mth c00 sc0 (retP (some .boolean) c00 Ψ) (lkp es_149) 62 [some (aR 7 i0), some (aI p1), some (aI p2), some (aI p3), some (aI p4), some (aI (bI v5)), some (aI v6)] [] (L0, g, w, q0)) (hΨ : Ψ (some (aI (bI r))) (L0, g, w, q0)) (h : s_X7_failsBy_109 i0 p1 p2 p3 p4 rec62 t0 v6 g w = some r) : Ev (EvM mth (d + 5)) mth c00 sc0 (retP (some .boolean) c00 Ψ) (lkp es_149) 109 [some (aR 7 i0), some (aI p1), some (aI p2), some (aI p3), some (aI p4), x5, some (aI v6)] [aI (bI t0)] (L0, g, w, q0) := by
  unfold s_X7_failsBy_109 at h
  refine ev_istore (pc' := 111) rfl rfl (l' := [some (aR 7 i0), some (aI p1), some (aI p2), some (aI p3), some (aI p4), some (aI (bI t0)), some (aI v6)]) rfl ?_
  refine ev_iinc (pc' := 114) rfl rfl (l' := [some (aR 7 i0), some (aI p1), some (aI p2), some (aI p3), some (aI p4), some (aI (bI t0)), some (aI (v6 + 1))]) rfl (ii_1 _) rfl ?_
  refine ev_goto (pc' := 62) rfl ?_
  exact hr62 h
def s_X7_failsBy_108 (i0 : Nat) (p1 : Int32) (p2 : Int32) (p3 : Int32) (p4 : Int32) (rec62 : Bool → Int32 → (Nat → Nat → Nat → Int32) → (Nat → Nat → Nat → Int64) → Option (Bool)) (v6 : Int32) (g : Nat → Nat → Nat → Int32) (w : Nat → Nat → Nat → Int64) : Option (Bool) :=
  s_X7_failsBy_109 i0 p1 p2 p3 p4 rec62 false v6 g w
set_option maxRecDepth 20000 in
set_option maxHeartbeats 2000000 in
theorem e_X7_failsBy_108 {d : Nat} {Ψ : Option AV → DS → Prop} {i0 : Nat} {p1 : Int32} {p2 : Int32} {p3 : Int32} {p4 : Int32} {rec62 : Bool → Int32 → (Nat → Nat → Nat → Int32) → (Nat → Nat → Nat → Int64) → Option (Bool)} {r : Bool} {g : Nat → Nat → Nat → Int32} {w : Nat → Nat → Nat → Int64} {v6 : Int32} {x5 : Option AV} (hr62 : ∀ {v5 : Bool} {v6 : Int32} , rec62 v5 v6 g w = some r → Ev (EvM mth (d + 5)) mth c00 sc0 (retP (some .boolean) c00 Ψ) (lkp es_149) 62 [some (aR 7 i0), some (aI p1), some (aI p2), some (aI p3), some (aI p4), some (aI (bI v5)), some (aI v6)] [] (L0, g, w, q0)) (hΨ : Ψ (some (aI (bI r))) (L0, g, w, q0)) (h : s_X7_failsBy_108 i0 p1 p2 p3 p4 rec62 v6 g w = some r) : Ev (EvM mth (d + 5)) mth c00 sc0 (retP (some .boolean) c00 Ψ) (lkp es_149) 108 [some (aR 7 i0), some (aI p1), some (aI p2), some (aI p3), some (aI p4), x5, some (aI v6)] [] (L0, g, w, q0) := by
  unfold s_X7_failsBy_108 at h
  refine ev_iconst (pc' := 109) rfl rfl (v := (0 : Int32)) (by decide) ?_
  exact e_X7_failsBy_109 (hr62 := hr62) hΨ h
def s_X7_failsBy_104 (i0 : Nat) (p1 : Int32) (p2 : Int32) (p3 : Int32) (p4 : Int32) (rec62 : Bool → Int32 → (Nat → Nat → Nat → Int32) → (Nat → Nat → Nat → Int64) → Option (Bool)) (v6 : Int32) (g : Nat → Nat → Nat → Int32) (w : Nat → Nat → Nat → Int64) : Option (Bool) :=
  s_X7_failsBy_109 i0 p1 p2 p3 p4 rec62 true v6 g w
set_option maxRecDepth 20000 in
set_option maxHeartbeats 2000000 in
theorem e_X7_failsBy_104 {d : Nat} {Ψ : Option AV → DS → Prop} {i0 : Nat} {p1 : Int32} {p2 : Int32} {p3 : Int32} {p4 : Int32} {rec62 : Bool → Int32 → (Nat → Nat → Nat → Int32) → (Nat → Nat → Nat → Int64) → Option (Bool)} {r : Bool} {g : Nat → Nat → Nat → Int32} {w : Nat → Nat → Nat → Int64} {v6 : Int32} {x5 : Option AV} (hr62 : ∀ {v5 : Bool} {v6 : Int32} , rec62 v5 v6 g w = some r → Ev (EvM mth (d + 5)) mth c00 sc0 (retP (some .boolean) c00 Ψ) (lkp es_149) 62 [some (aR 7 i0), some (aI p1), some (aI p2), some (aI p3), some (aI p4), some (aI (bI v5)), some (aI v6)] [] (L0, g, w, q0)) (hΨ : Ψ (some (aI (bI r))) (L0, g, w, q0)) (h : s_X7_failsBy_104 i0 p1 p2 p3 p4 rec62 v6 g w = some r) : Ev (EvM mth (d + 5)) mth c00 sc0 (retP (some .boolean) c00 Ψ) (lkp es_149) 104 [some (aR 7 i0), some (aI p1), some (aI p2), some (aI p3), some (aI p4), x5, some (aI v6)] [] (L0, g, w, q0) := by
  unfold s_X7_failsBy_104 at h
  refine ev_iconst (pc' := 105) rfl rfl (v := (1 : Int32)) (by decide) ?_
  refine ev_goto (pc' := 109) rfl ?_
  exact e_X7_failsBy_109 (hr62 := hr62) hΨ h
def s_X7_failsBy_62 (i0 : Nat) (p1 : Int32) (p2 : Int32) (p3 : Int32) (p4 : Int32) (rec62 : Bool → Int32 → (Nat → Nat → Nat → Int32) → (Nat → Nat → Nat → Int64) → Option (Bool)) (v5 : Bool) (v6 : Int32) (g : Nat → Nat → Nat → Int32) (w : Nat → Nat → Nat → Int64) : Option (Bool) :=
  if 0 ≤ (lg_cmp v6.toInt64 (w 2218 0 (64 : Int32).toNatClampNeg)) then
    some (v5)
  else
    if v5 = true then
      s_X7_failsBy_104 i0 p1 p2 p3 p4 rec62 v6 g w
    else
      if ((p4 >>> (v6 &&& 31)) &&& (1 : Int32)) ≠ (1 : Int32) then
        s_X7_failsBy_108 i0 p1 p2 p3 p4 rec62 v6 g w
      else
        (s_X7_fails i0 p1 v6 p2 p3 g w).bind fun q1 =>
        if q1 = true then
          s_X7_failsBy_104 i0 p1 p2 p3 p4 rec62 v6 g w
        else
          s_X7_failsBy_108 i0 p1 p2 p3 p4 rec62 v6 g w
set_option maxRecDepth 20000 in
set_option maxHeartbeats 2000000 in
theorem e_X7_failsBy_62 {d : Nat} {Ψ : Option AV → DS → Prop} {i0 : Nat} {p1 : Int32} {p2 : Int32} {p3 : Int32} {p4 : Int32} {rec62 : Bool → Int32 → (Nat → Nat → Nat → Int32) → (Nat → Nat → Nat → Int64) → Option (Bool)} {r : Bool} {g : Nat → Nat → Nat → Int32} {w : Nat → Nat → Nat → Int64} {v5 : Bool} {v6 : Int32} (hr62 : ∀ {v5 : Bool} {v6 : Int32} , rec62 v5 v6 g w = some r → Ev (EvM mth (d + 5)) mth c00 sc0 (retP (some .boolean) c00 Ψ) (lkp es_149) 62 [some (aR 7 i0), some (aI p1), some (aI p2), some (aI p3), some (aI p4), some (aI (bI v5)), some (aI v6)] [] (L0, g, w, q0)) (hΨ : Ψ (some (aI (bI r))) (L0, g, w, q0)) (h : s_X7_failsBy_62 i0 p1 p2 p3 p4 rec62 v5 v6 g w = some r) : Ev (EvM mth (d + 5)) mth c00 sc0 (retP (some .boolean) c00 Ψ) (lkp es_149) 62 [some (aR 7 i0), some (aI p1), some (aI p2), some (aI p3), some (aI p4), some (aI (bI v5)), some (aI v6)] [] (L0, g, w, q0) := by
  unfold s_X7_failsBy_62 at h
  refine ev_iload (pc' := 64) rfl rfl rfl ?_
  refine ev_i2l (pc' := 65) rfl rfl ?_
  refine ev_aload_n (pc' := 66) rfl rfl rfl ?_
  refine ev_getQ (pc' := 69) rfl rfl rfl ?_
  refine ev_bipush (pc' := 71) rfl rfl (v := (64 : Int32)) (by decide) ?_
  refine ev_lald (pc' := 72) rfl rfl rfl (inR_vp (by decide)) ?_
  refine ev_lcmp (pc' := 73) rfl rfl ?_
  refine ev_if_ge rfl (pc' := 76) rfl (fun hc => ?_) (fun hc => ?_)
  · have h := (if_pos hc).symm.trans h
    refine ev_iload (pc' := 119) rfl rfl rfl ?_
    obtain rfl := Option.some.inj h
    exact ev_ireturn rfl ⟨⟨_, rfl, nar_bI _⟩, rfl, rfl, hΨ⟩
  · have h := (if_neg hc).symm.trans h
    refine ev_iload (pc' := 78) rfl rfl rfl ?_
    refine ev_ifB_ne rfl (pc' := 81) rfl (fun hc => ?_) (fun hc => ?_)
    · have h := (if_pos hc).symm.trans h
      exact e_X7_failsBy_104 (hr62 := hr62) hΨ h
    · have h := (if_neg hc).symm.trans h
      refine ev_iload (pc' := 83) rfl rfl rfl ?_
      refine ev_iload (pc' := 85) rfl rfl rfl ?_
      refine ev_ishr (pc' := 86) rfl rfl ?_
      refine ev_iconst (pc' := 87) rfl rfl (v := (1 : Int32)) (by decide) ?_
      refine ev_iand (pc' := 88) rfl rfl ?_
      refine ev_iconst (pc' := 89) rfl rfl (v := (1 : Int32)) (by decide) ?_
      refine ev_icmp_ne rfl (pc' := 92) rfl (fun hc => ?_) (fun hc => ?_)
      · have h := (if_pos hc).symm.trans h
        exact e_X7_failsBy_108 (hr62 := hr62) hΨ h
      · have h := (if_neg hc).symm.trans h
        refine ev_aload_n (pc' := 93) rfl rfl rfl ?_
        refine ev_iload_n (pc' := 94) rfl rfl rfl ?_
        refine ev_iload (pc' := 96) rfl rfl rfl ?_
        refine ev_iload_n (pc' := 97) rfl rfl rfl ?_
        refine ev_iload_n (pc' := 98) rfl rfl rfl ?_
        obtain ⟨q1, hq1, h⟩ := Option.bind_eq_some_iff.mp h
        refine ev_V5I (pc' := 101) rfl (by decide) rfl mth_145 ⟨Nat.le_of_ble_eq_true rfl, rfl⟩ ⟨Nat.le_refl _, Nat.le_refl _⟩ (d_X7_fails hq1) ?_
        refine ev_ifB_eq rfl (pc' := 104) rfl (fun hc => ?_) (fun hc => ?_)
        · have h := (if_neg hc).symm.trans h
          exact e_X7_failsBy_108 (hr62 := hr62) hΨ h
        · have h := (if_pos hc).symm.trans h
          exact e_X7_failsBy_104 (hr62 := hr62) hΨ h
def s_X7_failsBy_R62 (i0 : Nat) (p1 : Int32) (p2 : Int32) (p3 : Int32) (p4 : Int32) : Nat → Bool → Int32 → (Nat → Nat → Nat → Int32) → (Nat → Nat → Nat → Int64) → Option (Bool)
  | 0 => fun _ _ _ _ => none
  | n + 1 => s_X7_failsBy_62 i0 p1 p2 p3 p4 (s_X7_failsBy_R62 i0 p1 p2 p3 p4 n)
theorem e_X7_failsBy_R62 {d : Nat} {Ψ : Option AV → DS → Prop} {i0 : Nat} {p1 : Int32} {p2 : Int32} {p3 : Int32} {p4 : Int32} {r : Bool} {g : Nat → Nat → Nat → Int32} {w : Nat → Nat → Nat → Int64} (hΨ : Ψ (some (aI (bI r))) (L0, g, w, q0)) : ∀ (n : Nat) {v5 : Bool} {v6 : Int32} , s_X7_failsBy_R62 i0 p1 p2 p3 p4 n v5 v6 g w = some r → Ev (EvM mth (d + 5)) mth c00 sc0 (retP (some .boolean) c00 Ψ) (lkp es_149) 62 [some (aR 7 i0), some (aI p1), some (aI p2), some (aI p3), some (aI p4), some (aI (bI v5)), some (aI v6)] [] (L0, g, w, q0) := by
  intro n
  induction n with
  | zero => intros; rename_i h; exact absurd h (by intro h9; cases h9)
  | succ n ih => intros; rename_i h; exact e_X7_failsBy_62 (hr62 := ih) hΨ h
def s_X7_failsBy_46 (i0 : Nat) (p1 : Int32) (p2 : Int32) (p3 : Int32) (p4 : Int32) (g : Nat → Nat → Nat → Int32) (w : Nat → Nat → Nat → Int64) : Option (Bool) :=
  (s_X7_failsTogether i0 p1 p2 p3 p4 g w).bind fun q1 =>
  some (q1)
set_option maxRecDepth 20000 in
set_option maxHeartbeats 2000000 in
theorem e_X7_failsBy_46 {d : Nat} {Ψ : Option AV → DS → Prop} {i0 : Nat} {p1 : Int32} {p2 : Int32} {p3 : Int32} {p4 : Int32} {r : Bool} {g : Nat → Nat → Nat → Int32} {w : Nat → Nat → Nat → Int64} {x5 : Option AV} {x6 : Option AV} (hΨ : Ψ (some (aI (bI r))) (L0, g, w, q0)) (h : s_X7_failsBy_46 i0 p1 p2 p3 p4 g w = some r) : Ev (EvM mth (d + 5)) mth c00 sc0 (retP (some .boolean) c00 Ψ) (lkp es_149) 46 [some (aR 7 i0), some (aI p1), some (aI p2), some (aI p3), some (aI p4), x5, x6] [] (L0, g, w, q0) := by
  unfold s_X7_failsBy_46 at h
  refine ev_aload_n (pc' := 47) rfl rfl rfl ?_
  refine ev_iload_n (pc' := 48) rfl rfl rfl ?_
  refine ev_iload_n (pc' := 49) rfl rfl rfl ?_
  refine ev_iload_n (pc' := 50) rfl rfl rfl ?_
  refine ev_iload (pc' := 52) rfl rfl rfl ?_
  obtain ⟨q1, hq1, h⟩ := Option.bind_eq_some_iff.mp h
  refine ev_V5I (pc' := 55) rfl (by decide) rfl mth_148 ⟨Nat.le_of_ble_eq_true rfl, rfl⟩ ⟨Nat.le_refl _, Nat.le_refl _⟩ (d_X7_failsTogether hq1) ?_
  obtain rfl := Option.some.inj h
  exact ev_ireturn rfl ⟨⟨_, rfl, nar_bI _⟩, rfl, rfl, hΨ⟩
def s_X7_failsBy_22 (i0 : Nat) (p1 : Int32) (p2 : Int32) (p3 : Int32) (p4 : Int32) (g : Nat → Nat → Nat → Int32) (w : Nat → Nat → Nat → Int64) : Option (Bool) :=
  (s_X7_failsAlone i0 p1 p2 p3 g w).bind fun q1 =>
  some (q1)
set_option maxRecDepth 20000 in
set_option maxHeartbeats 2000000 in
theorem e_X7_failsBy_22 {d : Nat} {Ψ : Option AV → DS → Prop} {i0 : Nat} {p1 : Int32} {p2 : Int32} {p3 : Int32} {p4 : Int32} {r : Bool} {g : Nat → Nat → Nat → Int32} {w : Nat → Nat → Nat → Int64} {x4 : Option AV} {x5 : Option AV} {x6 : Option AV} (hΨ : Ψ (some (aI (bI r))) (L0, g, w, q0)) (h : s_X7_failsBy_22 i0 p1 p2 p3 p4 g w = some r) : Ev (EvM mth (d + 5)) mth c00 sc0 (retP (some .boolean) c00 Ψ) (lkp es_149) 22 [some (aR 7 i0), some (aI p1), some (aI p2), some (aI p3), x4, x5, x6] [] (L0, g, w, q0) := by
  unfold s_X7_failsBy_22 at h
  refine ev_aload_n (pc' := 23) rfl rfl rfl ?_
  refine ev_iload_n (pc' := 24) rfl rfl rfl ?_
  refine ev_iload_n (pc' := 25) rfl rfl rfl ?_
  refine ev_iload_n (pc' := 26) rfl rfl rfl ?_
  obtain ⟨q1, hq1, h⟩ := Option.bind_eq_some_iff.mp h
  refine ev_V4I (pc' := 29) rfl (by decide) rfl mth_147 ⟨Nat.le_of_ble_eq_true rfl, rfl⟩ ⟨Nat.le_refl _, Nat.le_refl _⟩ (d_X7_failsAlone hq1) ?_
  obtain rfl := Option.some.inj h
  exact ev_ireturn rfl ⟨⟨_, rfl, nar_bI _⟩, rfl, rfl, hΨ⟩
def s_X7_failsBy (i0 : Nat) (p1 : Int32) (p2 : Int32) (p3 : Int32) (p4 : Int32) (g : Nat → Nat → Nat → Int32) (w : Nat → Nat → Nat → Int64) : Option (Bool) :=
  if p1 = (1 : Int32) then
    s_X7_failsBy_22 i0 p1 p2 p3 p4 g w
  else
    if p1 = (2 : Int32) then
      s_X7_failsBy_22 i0 p1 p2 p3 p4 g w
    else
      if p1 = (9 : Int32) then
        s_X7_failsBy_22 i0 p1 p2 p3 p4 g w
      else
        if p1 ≠ (12 : Int32) then
          if p1 = (3 : Int32) then
            s_X7_failsBy_46 i0 p1 p2 p3 p4 g w
          else
            if p1 = (4 : Int32) then
              s_X7_failsBy_46 i0 p1 p2 p3 p4 g w
            else
              if p1 ≠ (10 : Int32) then
                s_X7_failsBy_R62 i0 p1 p2 p3 p4 FU false (0 : Int32) g w
              else
                s_X7_failsBy_46 i0 p1 p2 p3 p4 g w
        else
          s_X7_failsBy_22 i0 p1 p2 p3 p4 g w
set_option maxRecDepth 20000 in
set_option maxHeartbeats 2000000 in
theorem d_X7_failsBy {d : Nat} {i0 : Nat} {p1 : Int32} {p2 : Int32} {p3 : Int32} {p4 : Int32} {g : Nat → Nat → Nat → Int32} {w : Nat → Nat → Nat → Int64} {r : Bool} (h : s_X7_failsBy i0 p1 p2 p3 p4 g w = some r) : Does (EvM mth (d + 6)) 149 [aR 7 i0, aI p1, aI p2, aI p3, aI p4] (L0, g, w, q0) (some (aI (bI r))) (L0, g, w, q0) := by
  intro Ψ hΨ
  refine ⟨in_149, mth_149, Nat.le_of_ble_eq_true rfl, ?_⟩
  show Ev (EvM mth (d + 5)) mth c00 sc0 (retP (some .boolean) c00 Ψ) (lkp es_149) 0 [some (aR 7 i0), some (aI p1), some (aI p2), some (aI p3), some (aI p4), none, none] [] (L0, g, w, q0)
  unfold s_X7_failsBy at h
  refine ev_iload_n (pc' := 1) rfl rfl rfl ?_
  refine ev_iconst (pc' := 2) rfl rfl (v := (1 : Int32)) (by decide) ?_
  refine ev_icmp_eq rfl (pc' := 5) rfl (fun hc => ?_) (fun hc => ?_)
  · have h := (if_pos hc).symm.trans h
    exact e_X7_failsBy_22 hΨ h
  · have h := (if_neg hc).symm.trans h
    refine ev_iload_n (pc' := 6) rfl rfl rfl ?_
    refine ev_iconst (pc' := 7) rfl rfl (v := (2 : Int32)) (by decide) ?_
    refine ev_icmp_eq rfl (pc' := 10) rfl (fun hc => ?_) (fun hc => ?_)
    · have h := (if_pos hc).symm.trans h
      exact e_X7_failsBy_22 hΨ h
    · have h := (if_neg hc).symm.trans h
      refine ev_iload_n (pc' := 11) rfl rfl rfl ?_
      refine ev_bipush (pc' := 13) rfl rfl (v := (9 : Int32)) (by decide) ?_
      refine ev_icmp_eq rfl (pc' := 16) rfl (fun hc => ?_) (fun hc => ?_)
      · have h := (if_pos hc).symm.trans h
        exact e_X7_failsBy_22 hΨ h
      · have h := (if_neg hc).symm.trans h
        refine ev_iload_n (pc' := 17) rfl rfl rfl ?_
        refine ev_bipush (pc' := 19) rfl rfl (v := (12 : Int32)) (by decide) ?_
        refine ev_icmp_ne rfl (pc' := 22) rfl (fun hc => ?_) (fun hc => ?_)
        · have h := (if_pos hc).symm.trans h
          refine ev_iload_n (pc' := 31) rfl rfl rfl ?_
          refine ev_iconst (pc' := 32) rfl rfl (v := (3 : Int32)) (by decide) ?_
          refine ev_icmp_eq rfl (pc' := 35) rfl (fun hc => ?_) (fun hc => ?_)
          · have h := (if_pos hc).symm.trans h
            exact e_X7_failsBy_46 hΨ h
          · have h := (if_neg hc).symm.trans h
            refine ev_iload_n (pc' := 36) rfl rfl rfl ?_
            refine ev_iconst (pc' := 37) rfl rfl (v := (4 : Int32)) (by decide) ?_
            refine ev_icmp_eq rfl (pc' := 40) rfl (fun hc => ?_) (fun hc => ?_)
            · have h := (if_pos hc).symm.trans h
              exact e_X7_failsBy_46 hΨ h
            · have h := (if_neg hc).symm.trans h
              refine ev_iload_n (pc' := 41) rfl rfl rfl ?_
              refine ev_bipush (pc' := 43) rfl rfl (v := (10 : Int32)) (by decide) ?_
              refine ev_icmp_ne rfl (pc' := 46) rfl (fun hc => ?_) (fun hc => ?_)
              · have h := (if_pos hc).symm.trans h
                refine ev_iconst (pc' := 57) rfl rfl (v := (0 : Int32)) (by decide) ?_
                refine ev_istore (pc' := 59) rfl rfl (l' := [some (aR 7 i0), some (aI p1), some (aI p2), some (aI p3), some (aI p4), some (aI (0 : Int32)), none]) rfl ?_
                refine ev_iconst (pc' := 60) rfl rfl (v := (0 : Int32)) (by decide) ?_
                refine ev_istore (pc' := 62) rfl rfl (l' := [some (aR 7 i0), some (aI p1), some (aI p2), some (aI p3), some (aI p4), some (aI (0 : Int32)), some (aI (0 : Int32))]) rfl ?_
                exact e_X7_failsBy_R62 hΨ FU h
              · have h := (if_neg hc).symm.trans h
                exact e_X7_failsBy_46 hΨ h
        · have h := (if_neg hc).symm.trans h
          exact e_X7_failsBy_22 hΨ h
def s_X7_finds_296 (i0 : Nat) (p1 : Int32) (t0 : Bool) (g : Nat → Nat → Nat → Int32) (w : Nat → Nat → Nat → Int64) : Option (Bool × GS) :=
  some ((t0, g, w))
set_option maxRecDepth 20000 in
set_option maxHeartbeats 2000000 in
theorem e_X7_finds_296 {d : Nat} {Ψ : Option AV → DS → Prop} {i0 : Nat} {p1 : Int32} {r : Bool × GS} {g : Nat → Nat → Nat → Int32} {w : Nat → Nat → Nat → Int64} {t0 : Bool} {x0 : Option AV} {x1 : Option AV} {x2 : Option AV} {x3 : Option AV} {x4 : Option AV} {x5 : Option AV} (hΨ : Ψ (some (aI (bI r.1))) (L0, r.2.1, r.2.2, q0)) (h : s_X7_finds_296 i0 p1 t0 g w = some r) : Ev (EvM mth (d + 5)) mth c00 sc0 (retP (some .boolean) c00 Ψ) (lkp es_159) 296 [x0, x1, x2, x3, x4, x5] [aI (bI t0)] (L0, g, w, q0) := by
  unfold s_X7_finds_296 at h
  obtain rfl := Option.some.inj h
  exact ev_ireturn rfl ⟨⟨_, rfl, nar_bI _⟩, rfl, rfl, hΨ⟩
def s_X7_finds_284 (i0 : Nat) (p1 : Int32) (g : Nat → Nat → Nat → Int32) (w : Nat → Nat → Nat → Int64) : Option (Bool × GS) :=
  if (g 7 i0 11) ≤ 0 then
    s_X7_finds_296 i0 p1 false g w
  else
    s_X7_finds_296 i0 p1 true g w
set_option maxRecDepth 20000 in
set_option maxHeartbeats 2000000 in
theorem e_X7_finds_284 {d : Nat} {Ψ : Option AV → DS → Prop} {i0 : Nat} {p1 : Int32} {r : Bool × GS} {g : Nat → Nat → Nat → Int32} {w : Nat → Nat → Nat → Int64} {x1 : Option AV} {x2 : Option AV} {x3 : Option AV} {x4 : Option AV} {x5 : Option AV} (hΨ : Ψ (some (aI (bI r.1))) (L0, r.2.1, r.2.2, q0)) (h : s_X7_finds_284 i0 p1 g w = some r) : Ev (EvM mth (d + 5)) mth c00 sc0 (retP (some .boolean) c00 Ψ) (lkp es_159) 284 [some (aR 7 i0), x1, x2, x3, x4, x5] [] (L0, g, w, q0) := by
  unfold s_X7_finds_284 at h
  refine ev_aload_n (pc' := 285) rfl rfl rfl ?_
  refine ev_getI (pc' := 288) rfl rfl ?_
  refine ev_if_le rfl (pc' := 291) rfl (fun hc => ?_) (fun hc => ?_)
  · have h := (if_pos hc).symm.trans h
    refine ev_iconst (pc' := 296) rfl rfl (v := (0 : Int32)) (by decide) ?_
    exact e_X7_finds_296 hΨ h
  · have h := (if_neg hc).symm.trans h
    refine ev_iconst (pc' := 292) rfl rfl (v := (1 : Int32)) (by decide) ?_
    refine ev_goto (pc' := 296) rfl ?_
    exact e_X7_finds_296 hΨ h
def s_X7_finds_278 (i0 : Nat) (p1 : Int32) (rec7 : Int32 → (Nat → Nat → Nat → Int32) → (Nat → Nat → Nat → Int64) → Option (Bool × GS)) (v2 : Int32) (g : Nat → Nat → Nat → Int32) (w : Nat → Nat → Nat → Int64) : Option (Bool × GS) :=
  rec7 (v2 + 1) g w
set_option maxRecDepth 20000 in
set_option maxHeartbeats 2000000 in
theorem e_X7_finds_278 {d : Nat} {Ψ : Option AV → DS → Prop} {i0 : Nat} {p1 : Int32} {rec7 : Int32 → (Nat → Nat → Nat → Int32) → (Nat → Nat → Nat → Int64) → Option (Bool × GS)} {r : Bool × GS} {g : Nat → Nat → Nat → Int32} {w : Nat → Nat → Nat → Int64} {v2 : Int32} {x3 : Option AV} {x4 : Option AV} {x5 : Option AV} (hr7 : ∀ {v2 : Int32} {x3 : Option AV} {x4 : Option AV} {x5 : Option AV} {g : Nat → Nat → Nat → Int32} {w : Nat → Nat → Nat → Int64} , rec7 v2 g w = some r → Ev (EvM mth (d + 5)) mth c00 sc0 (retP (some .boolean) c00 Ψ) (lkp es_159) 7 [some (aR 7 i0), some (aI p1), some (aI v2), x3, x4, x5] [] (L0, g, w, q0)) (hΨ : Ψ (some (aI (bI r.1))) (L0, r.2.1, r.2.2, q0)) (h : s_X7_finds_278 i0 p1 rec7 v2 g w = some r) : Ev (EvM mth (d + 5)) mth c00 sc0 (retP (some .boolean) c00 Ψ) (lkp es_159) 278 [some (aR 7 i0), some (aI p1), some (aI v2), x3, x4, x5] [] (L0, g, w, q0) := by
  unfold s_X7_finds_278 at h
  refine ev_iinc (pc' := 281) rfl rfl (l' := [some (aR 7 i0), some (aI p1), some (aI (v2 + 1)), x3, x4, x5]) rfl (ii_1 _) rfl ?_
  refine ev_goto (pc' := 7) rfl ?_
  exact hr7 h
def s_X7_finds_272 (i0 : Nat) (p1 : Int32) (rec177 : Int32 → Int32 → Int32 → (Nat → Nat → Nat → Int32) → (Nat → Nat → Nat → Int64) → Option (Bool × GS)) (v2 : Int32) (v3 : Int32) (v4 : Int32) (g : Nat → Nat → Nat → Int32) (w : Nat → Nat → Nat → Int64) : Option (Bool × GS) :=
  rec177 v2 v3 (v4 + 1) g w
set_option maxRecDepth 20000 in
set_option maxHeartbeats 2000000 in
theorem e_X7_finds_272 {d : Nat} {Ψ : Option AV → DS → Prop} {i0 : Nat} {p1 : Int32} {rec177 : Int32 → Int32 → Int32 → (Nat → Nat → Nat → Int32) → (Nat → Nat → Nat → Int64) → Option (Bool × GS)} {r : Bool × GS} {g : Nat → Nat → Nat → Int32} {w : Nat → Nat → Nat → Int64} {v2 : Int32} {v3 : Int32} {v4 : Int32} {x5 : Option AV} (hr177 : ∀ {v2 : Int32} {v3 : Int32} {v4 : Int32} {x5 : Option AV} {g : Nat → Nat → Nat → Int32} {w : Nat → Nat → Nat → Int64} , rec177 v2 v3 v4 g w = some r → Ev (EvM mth (d + 5)) mth c00 sc0 (retP (some .boolean) c00 Ψ) (lkp es_159) 177 [some (aR 7 i0), some (aI p1), some (aI v2), some (aI v3), some (aI v4), x5] [] (L0, g, w, q0)) (hΨ : Ψ (some (aI (bI r.1))) (L0, r.2.1, r.2.2, q0)) (h : s_X7_finds_272 i0 p1 rec177 v2 v3 v4 g w = some r) : Ev (EvM mth (d + 5)) mth c00 sc0 (retP (some .boolean) c00 Ψ) (lkp es_159) 272 [some (aR 7 i0), some (aI p1), some (aI v2), some (aI v3), some (aI v4), x5] [] (L0, g, w, q0) := by
  unfold s_X7_finds_272 at h
  refine ev_iinc (pc' := 275) rfl rfl (l' := [some (aR 7 i0), some (aI p1), some (aI v2), some (aI v3), some (aI (v4 + 1)), x5]) rfl (ii_1 _) rfl ?_
  refine ev_goto (pc' := 177) rfl ?_
  exact hr177 h
def s_X7_finds_217 (i0 : Nat) (p1 : Int32) (rec177 : Int32 → Int32 → Int32 → (Nat → Nat → Nat → Int32) → (Nat → Nat → Nat → Int64) → Option (Bool × GS)) (t0 : Bool) (v2 : Int32) (v3 : Int32) (v4 : Int32) (g : Nat → Nat → Nat → Int32) (w : Nat → Nat → Nat → Int64) : Option (Bool × GS) :=
  if t0 = true then
    (s_X7_failsTogether i0 (3 : Int32) p1 v2 v4 g w).bind fun q1 =>
    if q1 = true then
      s_X7_finds_272 i0 p1 rec177 v2 v3 v4 g w
    else
      (s_X7_failsTogether i0 (4 : Int32) p1 v2 v4 g w).bind fun q2 =>
      if q2 = true then
        s_X7_finds_272 i0 p1 rec177 v2 v3 v4 g w
      else
        (s_X7_failsTogether i0 (10 : Int32) p1 v2 v4 g w).bind fun q3 =>
        if q3 = true then
          s_X7_finds_272 i0 p1 rec177 v2 v3 v4 g w
        else
          s_X7_finds_272 i0 p1 rec177 v2 v3 v4 (gI (gI g 7 i0 11 v4) 7 i0 10 v2) w
  else
    s_X7_finds_272 i0 p1 rec177 v2 v3 v4 g w
set_option maxRecDepth 20000 in
set_option maxHeartbeats 2000000 in
theorem e_X7_finds_217 {d : Nat} {Ψ : Option AV → DS → Prop} {i0 : Nat} {p1 : Int32} {rec177 : Int32 → Int32 → Int32 → (Nat → Nat → Nat → Int32) → (Nat → Nat → Nat → Int64) → Option (Bool × GS)} {r : Bool × GS} {g : Nat → Nat → Nat → Int32} {w : Nat → Nat → Nat → Int64} {t0 : Bool} {v2 : Int32} {v3 : Int32} {v4 : Int32} {x5 : Option AV} (hr177 : ∀ {v2 : Int32} {v3 : Int32} {v4 : Int32} {x5 : Option AV} {g : Nat → Nat → Nat → Int32} {w : Nat → Nat → Nat → Int64} , rec177 v2 v3 v4 g w = some r → Ev (EvM mth (d + 5)) mth c00 sc0 (retP (some .boolean) c00 Ψ) (lkp es_159) 177 [some (aR 7 i0), some (aI p1), some (aI v2), some (aI v3), some (aI v4), x5] [] (L0, g, w, q0)) (hΨ : Ψ (some (aI (bI r.1))) (L0, r.2.1, r.2.2, q0)) (h : s_X7_finds_217 i0 p1 rec177 t0 v2 v3 v4 g w = some r) : Ev (EvM mth (d + 5)) mth c00 sc0 (retP (some .boolean) c00 Ψ) (lkp es_159) 217 [some (aR 7 i0), some (aI p1), some (aI v2), some (aI v3), some (aI v4), x5] [aI (bI t0)] (L0, g, w, q0) := by
  unfold s_X7_finds_217 at h
  refine ev_istore (pc' := 219) rfl rfl (l' := [some (aR 7 i0), some (aI p1), some (aI v2), some (aI v3), some (aI v4), some (aI (bI t0))]) rfl ?_
  refine ev_iload (pc' := 221) rfl rfl rfl ?_
  refine ev_ifB_eq rfl (pc' := 224) rfl (fun hc => ?_) (fun hc => ?_)
  · have h := (if_neg hc).symm.trans h
    exact e_X7_finds_272 (hr177 := hr177) hΨ h
  · have h := (if_pos hc).symm.trans h
    refine ev_aload_n (pc' := 225) rfl rfl rfl ?_
    refine ev_iconst (pc' := 226) rfl rfl (v := (3 : Int32)) (by decide) ?_
    refine ev_iload_n (pc' := 227) rfl rfl rfl ?_
    refine ev_iload_n (pc' := 228) rfl rfl rfl ?_
    refine ev_iload (pc' := 230) rfl rfl rfl ?_
    obtain ⟨q1, hq1, h⟩ := Option.bind_eq_some_iff.mp h
    refine ev_V5I (pc' := 233) rfl (by decide) rfl mth_148 ⟨Nat.le_of_ble_eq_true rfl, rfl⟩ ⟨Nat.le_refl _, Nat.le_refl _⟩ (d_X7_failsTogether hq1) ?_
    refine ev_ifB_ne rfl (pc' := 236) rfl (fun hc => ?_) (fun hc => ?_)
    · have h := (if_pos hc).symm.trans h
      exact e_X7_finds_272 (hr177 := hr177) hΨ h
    · have h := (if_neg hc).symm.trans h
      refine ev_aload_n (pc' := 237) rfl rfl rfl ?_
      refine ev_iconst (pc' := 238) rfl rfl (v := (4 : Int32)) (by decide) ?_
      refine ev_iload_n (pc' := 239) rfl rfl rfl ?_
      refine ev_iload_n (pc' := 240) rfl rfl rfl ?_
      refine ev_iload (pc' := 242) rfl rfl rfl ?_
      obtain ⟨q2, hq2, h⟩ := Option.bind_eq_some_iff.mp h
      refine ev_V5I (pc' := 245) rfl (by decide) rfl mth_148 ⟨Nat.le_of_ble_eq_true rfl, rfl⟩ ⟨Nat.le_refl _, Nat.le_refl _⟩ (d_X7_failsTogether hq2) ?_
      refine ev_ifB_ne rfl (pc' := 248) rfl (fun hc => ?_) (fun hc => ?_)
      · have h := (if_pos hc).symm.trans h
        exact e_X7_finds_272 (hr177 := hr177) hΨ h
      · have h := (if_neg hc).symm.trans h
        refine ev_aload_n (pc' := 249) rfl rfl rfl ?_
        refine ev_bipush (pc' := 251) rfl rfl (v := (10 : Int32)) (by decide) ?_
        refine ev_iload_n (pc' := 252) rfl rfl rfl ?_
        refine ev_iload_n (pc' := 253) rfl rfl rfl ?_
        refine ev_iload (pc' := 255) rfl rfl rfl ?_
        obtain ⟨q3, hq3, h⟩ := Option.bind_eq_some_iff.mp h
        refine ev_V5I (pc' := 258) rfl (by decide) rfl mth_148 ⟨Nat.le_of_ble_eq_true rfl, rfl⟩ ⟨Nat.le_refl _, Nat.le_refl _⟩ (d_X7_failsTogether hq3) ?_
        refine ev_ifB_ne rfl (pc' := 261) rfl (fun hc => ?_) (fun hc => ?_)
        · have h := (if_pos hc).symm.trans h
          exact e_X7_finds_272 (hr177 := hr177) hΨ h
        · have h := (if_neg hc).symm.trans h
          refine ev_aload_n (pc' := 262) rfl rfl rfl ?_
          refine ev_iload (pc' := 264) rfl rfl rfl ?_
          refine ev_putI (pc' := 267) rfl rfl ?_
          refine ev_aload_n (pc' := 268) rfl rfl rfl ?_
          refine ev_iload_n (pc' := 269) rfl rfl rfl ?_
          refine ev_putI (pc' := 272) rfl rfl ?_
          exact e_X7_finds_272 (hr177 := hr177) hΨ h
def s_X7_finds_216 (i0 : Nat) (p1 : Int32) (rec177 : Int32 → Int32 → Int32 → (Nat → Nat → Nat → Int32) → (Nat → Nat → Nat → Int64) → Option (Bool × GS)) (v2 : Int32) (v3 : Int32) (v4 : Int32) (g : Nat → Nat → Nat → Int32) (w : Nat → Nat → Nat → Int64) : Option (Bool × GS) :=
  s_X7_finds_217 i0 p1 rec177 false v2 v3 v4 g w
set_option maxRecDepth 20000 in
set_option maxHeartbeats 2000000 in
theorem e_X7_finds_216 {d : Nat} {Ψ : Option AV → DS → Prop} {i0 : Nat} {p1 : Int32} {rec177 : Int32 → Int32 → Int32 → (Nat → Nat → Nat → Int32) → (Nat → Nat → Nat → Int64) → Option (Bool × GS)} {r : Bool × GS} {g : Nat → Nat → Nat → Int32} {w : Nat → Nat → Nat → Int64} {v2 : Int32} {v3 : Int32} {v4 : Int32} {x5 : Option AV} (hr177 : ∀ {v2 : Int32} {v3 : Int32} {v4 : Int32} {x5 : Option AV} {g : Nat → Nat → Nat → Int32} {w : Nat → Nat → Nat → Int64} , rec177 v2 v3 v4 g w = some r → Ev (EvM mth (d + 5)) mth c00 sc0 (retP (some .boolean) c00 Ψ) (lkp es_159) 177 [some (aR 7 i0), some (aI p1), some (aI v2), some (aI v3), some (aI v4), x5] [] (L0, g, w, q0)) (hΨ : Ψ (some (aI (bI r.1))) (L0, r.2.1, r.2.2, q0)) (h : s_X7_finds_216 i0 p1 rec177 v2 v3 v4 g w = some r) : Ev (EvM mth (d + 5)) mth c00 sc0 (retP (some .boolean) c00 Ψ) (lkp es_159) 216 [some (aR 7 i0), some (aI p1), some (aI v2), some (aI v3), some (aI v4), x5] [] (L0, g, w, q0) := by
  unfold s_X7_finds_216 at h
  refine ev_iconst (pc' := 217) rfl rfl (v := (0 : Int32)) (by decide) ?_
  exact e_X7_finds_217 (hr177 := hr177) hΨ h
def s_X7_finds_212 (i0 : Nat) (p1 : Int32) (rec177 : Int32 → Int32 → Int32 → (Nat → Nat → Nat → Int32) → (Nat → Nat → Nat → Int64) → Option (Bool × GS)) (v2 : Int32) (v3 : Int32) (v4 : Int32) (g : Nat → Nat → Nat → Int32) (w : Nat → Nat → Nat → Int64) : Option (Bool × GS) :=
  s_X7_finds_217 i0 p1 rec177 true v2 v3 v4 g w
set_option maxRecDepth 20000 in
set_option maxHeartbeats 2000000 in
theorem e_X7_finds_212 {d : Nat} {Ψ : Option AV → DS → Prop} {i0 : Nat} {p1 : Int32} {rec177 : Int32 → Int32 → Int32 → (Nat → Nat → Nat → Int32) → (Nat → Nat → Nat → Int64) → Option (Bool × GS)} {r : Bool × GS} {g : Nat → Nat → Nat → Int32} {w : Nat → Nat → Nat → Int64} {v2 : Int32} {v3 : Int32} {v4 : Int32} {x5 : Option AV} (hr177 : ∀ {v2 : Int32} {v3 : Int32} {v4 : Int32} {x5 : Option AV} {g : Nat → Nat → Nat → Int32} {w : Nat → Nat → Nat → Int64} , rec177 v2 v3 v4 g w = some r → Ev (EvM mth (d + 5)) mth c00 sc0 (retP (some .boolean) c00 Ψ) (lkp es_159) 177 [some (aR 7 i0), some (aI p1), some (aI v2), some (aI v3), some (aI v4), x5] [] (L0, g, w, q0)) (hΨ : Ψ (some (aI (bI r.1))) (L0, r.2.1, r.2.2, q0)) (h : s_X7_finds_212 i0 p1 rec177 v2 v3 v4 g w = some r) : Ev (EvM mth (d + 5)) mth c00 sc0 (retP (some .boolean) c00 Ψ) (lkp es_159) 212 [some (aR 7 i0), some (aI p1), some (aI v2), some (aI v3), some (aI v4), x5] [] (L0, g, w, q0) := by
  unfold s_X7_finds_212 at h
  refine ev_iconst (pc' := 213) rfl rfl (v := (1 : Int32)) (by decide) ?_
  refine ev_goto (pc' := 217) rfl ?_
  exact e_X7_finds_217 (hr177 := hr177) hΨ h
def s_X7_finds_177 (i0 : Nat) (p1 : Int32) (rec7 : Int32 → (Nat → Nat → Nat → Int32) → (Nat → Nat → Nat → Int64) → Option (Bool × GS)) (rec177 : Int32 → Int32 → Int32 → (Nat → Nat → Nat → Int32) → (Nat → Nat → Nat → Int64) → Option (Bool × GS)) (v2 : Int32) (v3 : Int32) (v4 : Int32) (g : Nat → Nat → Nat → Int32) (w : Nat → Nat → Nat → Int64) : Option (Bool × GS) :=
  if v3 < v4 then
    s_X7_finds_278 i0 p1 rec7 v2 g w
  else
    if (v4 &&& (v3 ^^^ (-1 : Int32))) ≠ 0 then
      s_X7_finds_216 i0 p1 rec177 v2 v3 v4 g w
    else
      if (g 7 i0 11) = 0 then
        s_X7_finds_212 i0 p1 rec177 v2 v3 v4 g w
      else
        (s_X7_isBetter i0 v4 (g 7 i0 11) g w).bind fun q1 =>
        if q1 = true then
          s_X7_finds_212 i0 p1 rec177 v2 v3 v4 g w
        else
          s_X7_finds_216 i0 p1 rec177 v2 v3 v4 g w
set_option maxRecDepth 20000 in
set_option maxHeartbeats 2000000 in
theorem e_X7_finds_177 {d : Nat} {Ψ : Option AV → DS → Prop} {i0 : Nat} {p1 : Int32} {rec7 : Int32 → (Nat → Nat → Nat → Int32) → (Nat → Nat → Nat → Int64) → Option (Bool × GS)} {rec177 : Int32 → Int32 → Int32 → (Nat → Nat → Nat → Int32) → (Nat → Nat → Nat → Int64) → Option (Bool × GS)} {r : Bool × GS} {g : Nat → Nat → Nat → Int32} {w : Nat → Nat → Nat → Int64} {v2 : Int32} {v3 : Int32} {v4 : Int32} {x5 : Option AV} (hr7 : ∀ {v2 : Int32} {x3 : Option AV} {x4 : Option AV} {x5 : Option AV} {g : Nat → Nat → Nat → Int32} {w : Nat → Nat → Nat → Int64} , rec7 v2 g w = some r → Ev (EvM mth (d + 5)) mth c00 sc0 (retP (some .boolean) c00 Ψ) (lkp es_159) 7 [some (aR 7 i0), some (aI p1), some (aI v2), x3, x4, x5] [] (L0, g, w, q0)) (hr177 : ∀ {v2 : Int32} {v3 : Int32} {v4 : Int32} {x5 : Option AV} {g : Nat → Nat → Nat → Int32} {w : Nat → Nat → Nat → Int64} , rec177 v2 v3 v4 g w = some r → Ev (EvM mth (d + 5)) mth c00 sc0 (retP (some .boolean) c00 Ψ) (lkp es_159) 177 [some (aR 7 i0), some (aI p1), some (aI v2), some (aI v3), some (aI v4), x5] [] (L0, g, w, q0)) (hΨ : Ψ (some (aI (bI r.1))) (L0, r.2.1, r.2.2, q0)) (h : s_X7_finds_177 i0 p1 rec7 rec177 v2 v3 v4 g w = some r) : Ev (EvM mth (d + 5)) mth c00 sc0 (retP (some .boolean) c00 Ψ) (lkp es_159) 177 [some (aR 7 i0), some (aI p1), some (aI v2), some (aI v3), some (aI v4), x5] [] (L0, g, w, q0) := by
  unfold s_X7_finds_177 at h
  refine ev_iload (pc' := 179) rfl rfl rfl ?_
  refine ev_iload_n (pc' := 180) rfl rfl rfl ?_
  refine ev_icmp_gt rfl (pc' := 183) rfl (fun hc => ?_) (fun hc => ?_)
  · have h := (if_pos hc).symm.trans h
    exact e_X7_finds_278 (hr7 := hr7) hΨ h
  · have h := (if_neg hc).symm.trans h
    refine ev_iload (pc' := 185) rfl rfl rfl ?_
    refine ev_iload_n (pc' := 186) rfl rfl rfl ?_
    refine ev_iconst (pc' := 187) rfl rfl (v := (-1 : Int32)) (by decide) ?_
    refine ev_ixor (pc' := 188) rfl rfl ?_
    refine ev_iand (pc' := 189) rfl rfl ?_
    refine ev_if_ne rfl (pc' := 192) rfl (fun hc => ?_) (fun hc => ?_)
    · have h := (if_pos hc).symm.trans h
      exact e_X7_finds_216 (hr177 := hr177) hΨ h
    · have h := (if_neg hc).symm.trans h
      refine ev_aload_n (pc' := 193) rfl rfl rfl ?_
      refine ev_getI (pc' := 196) rfl rfl ?_
      refine ev_if_eq rfl (pc' := 199) rfl (fun hc => ?_) (fun hc => ?_)
      · have h := (if_pos hc).symm.trans h
        exact e_X7_finds_212 (hr177 := hr177) hΨ h
      · have h := (if_neg hc).symm.trans h
        refine ev_aload_n (pc' := 200) rfl rfl rfl ?_
        refine ev_iload (pc' := 202) rfl rfl rfl ?_
        refine ev_aload_n (pc' := 203) rfl rfl rfl ?_
        refine ev_getI (pc' := 206) rfl rfl ?_
        obtain ⟨q1, hq1, h⟩ := Option.bind_eq_some_iff.mp h
        refine ev_V3I (pc' := 209) rfl (by decide) rfl mth_158 ⟨Nat.le_of_ble_eq_true rfl, rfl⟩ ⟨Nat.le_refl _, Nat.le_refl _⟩ (d_X7_isBetter hq1) ?_
        refine ev_ifB_eq rfl (pc' := 212) rfl (fun hc => ?_) (fun hc => ?_)
        · have h := (if_neg hc).symm.trans h
          exact e_X7_finds_216 (hr177 := hr177) hΨ h
        · have h := (if_pos hc).symm.trans h
          exact e_X7_finds_212 (hr177 := hr177) hΨ h
def s_X7_finds_R177 (i0 : Nat) (p1 : Int32) (rec7 : Int32 → (Nat → Nat → Nat → Int32) → (Nat → Nat → Nat → Int64) → Option (Bool × GS)) : Nat → Int32 → Int32 → Int32 → (Nat → Nat → Nat → Int32) → (Nat → Nat → Nat → Int64) → Option (Bool × GS)
  | 0 => fun _ _ _ _ _ => none
  | n + 1 => s_X7_finds_177 i0 p1 rec7 (s_X7_finds_R177 i0 p1 rec7 n)
theorem e_X7_finds_R177 {d : Nat} {Ψ : Option AV → DS → Prop} {i0 : Nat} {p1 : Int32} {rec7 : Int32 → (Nat → Nat → Nat → Int32) → (Nat → Nat → Nat → Int64) → Option (Bool × GS)} {r : Bool × GS} (hr7 : ∀ {v2 : Int32} {x3 : Option AV} {x4 : Option AV} {x5 : Option AV} {g : Nat → Nat → Nat → Int32} {w : Nat → Nat → Nat → Int64} , rec7 v2 g w = some r → Ev (EvM mth (d + 5)) mth c00 sc0 (retP (some .boolean) c00 Ψ) (lkp es_159) 7 [some (aR 7 i0), some (aI p1), some (aI v2), x3, x4, x5] [] (L0, g, w, q0)) (hΨ : Ψ (some (aI (bI r.1))) (L0, r.2.1, r.2.2, q0)) : ∀ (n : Nat) {v2 : Int32} {v3 : Int32} {v4 : Int32} {x5 : Option AV} {g : Nat → Nat → Nat → Int32} {w : Nat → Nat → Nat → Int64}, s_X7_finds_R177 i0 p1 rec7 n v2 v3 v4 g w = some r → Ev (EvM mth (d + 5)) mth c00 sc0 (retP (some .boolean) c00 Ψ) (lkp es_159) 177 [some (aR 7 i0), some (aI p1), some (aI v2), some (aI v3), some (aI v4), x5] [] (L0, g, w, q0) := by
  intro n
  induction n with
  | zero => intros; rename_i h; exact absurd h (by intro h9; cases h9)
  | succ n ih => intros; rename_i h; exact e_X7_finds_177 (hr7 := hr7) (hr177 := ih) hΨ h
def s_X7_finds_166 (i0 : Nat) (p1 : Int32) (rec67 : Int32 → Int32 → Int32 → (Nat → Nat → Nat → Int32) → (Nat → Nat → Nat → Int64) → Option (Bool × GS)) (t0 : Int32) (t1 : Int32) (v2 : Int32) (v4 : Int32) (g : Nat → Nat → Nat → Int32) (w : Nat → Nat → Nat → Int64) : Option (Bool × GS) :=
  rec67 v2 (t0 ||| t1) (v4 + 1) g w
set_option maxRecDepth 20000 in
set_option maxHeartbeats 2000000 in
theorem e_X7_finds_166 {d : Nat} {Ψ : Option AV → DS → Prop} {i0 : Nat} {p1 : Int32} {rec67 : Int32 → Int32 → Int32 → (Nat → Nat → Nat → Int32) → (Nat → Nat → Nat → Int64) → Option (Bool × GS)} {r : Bool × GS} {g : Nat → Nat → Nat → Int32} {w : Nat → Nat → Nat → Int64} {t0 : Int32} {t1 : Int32} {v2 : Int32} {v4 : Int32} {x3 : Option AV} {x5 : Option AV} (hr67 : ∀ {v2 : Int32} {v3 : Int32} {v4 : Int32} {x5 : Option AV} {g : Nat → Nat → Nat → Int32} {w : Nat → Nat → Nat → Int64} , rec67 v2 v3 v4 g w = some r → Ev (EvM mth (d + 5)) mth c00 sc0 (retP (some .boolean) c00 Ψ) (lkp es_159) 67 [some (aR 7 i0), some (aI p1), some (aI v2), some (aI v3), some (aI v4), x5] [] (L0, g, w, q0)) (hΨ : Ψ (some (aI (bI r.1))) (L0, r.2.1, r.2.2, q0)) (h : s_X7_finds_166 i0 p1 rec67 t0 t1 v2 v4 g w = some r) : Ev (EvM mth (d + 5)) mth c00 sc0 (retP (some .boolean) c00 Ψ) (lkp es_159) 166 [some (aR 7 i0), some (aI p1), some (aI v2), x3, some (aI v4), x5] [aI t1, aI t0] (L0, g, w, q0) := by
  unfold s_X7_finds_166 at h
  refine ev_ior (pc' := 167) rfl rfl ?_
  refine ev_istore_n (pc' := 168) rfl rfl (l' := [some (aR 7 i0), some (aI p1), some (aI v2), some (aI (t0 ||| t1)), some (aI v4), x5]) rfl ?_
  refine ev_iinc (pc' := 171) rfl rfl (l' := [some (aR 7 i0), some (aI p1), some (aI v2), some (aI (t0 ||| t1)), some (aI (v4 + 1)), x5]) rfl (ii_1 _) rfl ?_
  refine ev_goto (pc' := 67) rfl ?_
  exact hr67 h
def s_X7_finds_150 (i0 : Nat) (p1 : Int32) (rec67 : Int32 → Int32 → Int32 → (Nat → Nat → Nat → Int32) → (Nat → Nat → Nat → Int64) → Option (Bool × GS)) (t0 : Bool) (v2 : Int32) (v3 : Int32) (v4 : Int32) (g : Nat → Nat → Nat → Int32) (w : Nat → Nat → Nat → Int64) : Option (Bool × GS) :=
  if t0 = true then
    s_X7_finds_166 i0 p1 rec67 v3 ((1 : Int32) <<< (v4 &&& 31)) v2 v4 g w
  else
    s_X7_finds_166 i0 p1 rec67 v3 (0 : Int32) v2 v4 g w
set_option maxRecDepth 20000 in
set_option maxHeartbeats 2000000 in
theorem e_X7_finds_150 {d : Nat} {Ψ : Option AV → DS → Prop} {i0 : Nat} {p1 : Int32} {rec67 : Int32 → Int32 → Int32 → (Nat → Nat → Nat → Int32) → (Nat → Nat → Nat → Int64) → Option (Bool × GS)} {r : Bool × GS} {g : Nat → Nat → Nat → Int32} {w : Nat → Nat → Nat → Int64} {t0 : Bool} {v2 : Int32} {v3 : Int32} {v4 : Int32} {x5 : Option AV} (hr67 : ∀ {v2 : Int32} {v3 : Int32} {v4 : Int32} {x5 : Option AV} {g : Nat → Nat → Nat → Int32} {w : Nat → Nat → Nat → Int64} , rec67 v2 v3 v4 g w = some r → Ev (EvM mth (d + 5)) mth c00 sc0 (retP (some .boolean) c00 Ψ) (lkp es_159) 67 [some (aR 7 i0), some (aI p1), some (aI v2), some (aI v3), some (aI v4), x5] [] (L0, g, w, q0)) (hΨ : Ψ (some (aI (bI r.1))) (L0, r.2.1, r.2.2, q0)) (h : s_X7_finds_150 i0 p1 rec67 t0 v2 v3 v4 g w = some r) : Ev (EvM mth (d + 5)) mth c00 sc0 (retP (some .boolean) c00 Ψ) (lkp es_159) 150 [some (aR 7 i0), some (aI p1), some (aI v2), some (aI v3), some (aI v4), x5] [aI (bI t0)] (L0, g, w, q0) := by
  unfold s_X7_finds_150 at h
  refine ev_istore (pc' := 152) rfl rfl (l' := [some (aR 7 i0), some (aI p1), some (aI v2), some (aI v3), some (aI v4), some (aI (bI t0))]) rfl ?_
  refine ev_iload_n (pc' := 153) rfl rfl rfl ?_
  refine ev_iload (pc' := 155) rfl rfl rfl ?_
  refine ev_ifB_eq rfl (pc' := 158) rfl (fun hc => ?_) (fun hc => ?_)
  · have h := (if_neg hc).symm.trans h
    refine ev_iconst (pc' := 166) rfl rfl (v := (0 : Int32)) (by decide) ?_
    exact e_X7_finds_166 (hr67 := hr67) hΨ h
  · have h := (if_pos hc).symm.trans h
    refine ev_iconst (pc' := 159) rfl rfl (v := (1 : Int32)) (by decide) ?_
    refine ev_iload (pc' := 161) rfl rfl rfl ?_
    refine ev_ishl (pc' := 162) rfl rfl ?_
    refine ev_goto (pc' := 166) rfl ?_
    exact e_X7_finds_166 (hr67 := hr67) hΨ h
def s_X7_finds_149 (i0 : Nat) (p1 : Int32) (rec67 : Int32 → Int32 → Int32 → (Nat → Nat → Nat → Int32) → (Nat → Nat → Nat → Int64) → Option (Bool × GS)) (v2 : Int32) (v3 : Int32) (v4 : Int32) (g : Nat → Nat → Nat → Int32) (w : Nat → Nat → Nat → Int64) : Option (Bool × GS) :=
  s_X7_finds_150 i0 p1 rec67 false v2 v3 v4 g w
set_option maxRecDepth 20000 in
set_option maxHeartbeats 2000000 in
theorem e_X7_finds_149 {d : Nat} {Ψ : Option AV → DS → Prop} {i0 : Nat} {p1 : Int32} {rec67 : Int32 → Int32 → Int32 → (Nat → Nat → Nat → Int32) → (Nat → Nat → Nat → Int64) → Option (Bool × GS)} {r : Bool × GS} {g : Nat → Nat → Nat → Int32} {w : Nat → Nat → Nat → Int64} {v2 : Int32} {v3 : Int32} {v4 : Int32} {x5 : Option AV} (hr67 : ∀ {v2 : Int32} {v3 : Int32} {v4 : Int32} {x5 : Option AV} {g : Nat → Nat → Nat → Int32} {w : Nat → Nat → Nat → Int64} , rec67 v2 v3 v4 g w = some r → Ev (EvM mth (d + 5)) mth c00 sc0 (retP (some .boolean) c00 Ψ) (lkp es_159) 67 [some (aR 7 i0), some (aI p1), some (aI v2), some (aI v3), some (aI v4), x5] [] (L0, g, w, q0)) (hΨ : Ψ (some (aI (bI r.1))) (L0, r.2.1, r.2.2, q0)) (h : s_X7_finds_149 i0 p1 rec67 v2 v3 v4 g w = some r) : Ev (EvM mth (d + 5)) mth c00 sc0 (retP (some .boolean) c00 Ψ) (lkp es_159) 149 [some (aR 7 i0), some (aI p1), some (aI v2), some (aI v3), some (aI v4), x5] [] (L0, g, w, q0) := by
  unfold s_X7_finds_149 at h
  refine ev_iconst (pc' := 150) rfl rfl (v := (0 : Int32)) (by decide) ?_
  exact e_X7_finds_150 (hr67 := hr67) hΨ h
def s_X7_finds_67 (i0 : Nat) (p1 : Int32) (rec7 : Int32 → (Nat → Nat → Nat → Int32) → (Nat → Nat → Nat → Int64) → Option (Bool × GS)) (rec67 : Int32 → Int32 → Int32 → (Nat → Nat → Nat → Int32) → (Nat → Nat → Nat → Int64) → Option (Bool × GS)) (v2 : Int32) (v3 : Int32) (v4 : Int32) (g : Nat → Nat → Nat → Int32) (w : Nat → Nat → Nat → Int64) : Option (Bool × GS) :=
  if 0 ≤ (lg_cmp v4.toInt64 (w 2218 0 (64 : Int32).toNatClampNeg)) then
    s_X7_finds_R177 i0 p1 rec7 FU v2 v3 (1 : Int32) g w
  else
    (s_X7_fails i0 (5 : Int32) v4 p1 v2 g w).bind fun q1 =>
    if q1 = true then
      s_X7_finds_149 i0 p1 rec67 v2 v3 v4 g w
    else
      (s_X7_fails i0 (8 : Int32) v4 p1 v2 g w).bind fun q2 =>
      if q2 = true then
        s_X7_finds_149 i0 p1 rec67 v2 v3 v4 g w
      else
        (s_X7_fails i0 (6 : Int32) v4 p1 v2 g w).bind fun q3 =>
        if q3 = true then
          s_X7_finds_149 i0 p1 rec67 v2 v3 v4 g w
        else
          (s_X7_fails i0 (7 : Int32) v4 p1 v2 g w).bind fun q4 =>
          if q4 = true then
            s_X7_finds_149 i0 p1 rec67 v2 v3 v4 g w
          else
            (s_X7_fails i0 (11 : Int32) v4 p1 v2 g w).bind fun q5 =>
            if q5 = true then
              s_X7_finds_149 i0 p1 rec67 v2 v3 v4 g w
            else
              s_X7_finds_150 i0 p1 rec67 true v2 v3 v4 g w
set_option maxRecDepth 20000 in
set_option maxHeartbeats 2000000 in
theorem e_X7_finds_67 {d : Nat} {Ψ : Option AV → DS → Prop} {i0 : Nat} {p1 : Int32} {rec7 : Int32 → (Nat → Nat → Nat → Int32) → (Nat → Nat → Nat → Int64) → Option (Bool × GS)} {rec67 : Int32 → Int32 → Int32 → (Nat → Nat → Nat → Int32) → (Nat → Nat → Nat → Int64) → Option (Bool × GS)} {r : Bool × GS} {g : Nat → Nat → Nat → Int32} {w : Nat → Nat → Nat → Int64} {v2 : Int32} {v3 : Int32} {v4 : Int32} {x5 : Option AV} (hr7 : ∀ {v2 : Int32} {x3 : Option AV} {x4 : Option AV} {x5 : Option AV} {g : Nat → Nat → Nat → Int32} {w : Nat → Nat → Nat → Int64} , rec7 v2 g w = some r → Ev (EvM mth (d + 5)) mth c00 sc0 (retP (some .boolean) c00 Ψ) (lkp es_159) 7 [some (aR 7 i0), some (aI p1), some (aI v2), x3, x4, x5] [] (L0, g, w, q0)) (hr67 : ∀ {v2 : Int32} {v3 : Int32} {v4 : Int32} {x5 : Option AV} {g : Nat → Nat → Nat → Int32} {w : Nat → Nat → Nat → Int64} , rec67 v2 v3 v4 g w = some r → Ev (EvM mth (d + 5)) mth c00 sc0 (retP (some .boolean) c00 Ψ) (lkp es_159) 67 [some (aR 7 i0), some (aI p1), some (aI v2), some (aI v3), some (aI v4), x5] [] (L0, g, w, q0)) (hΨ : Ψ (some (aI (bI r.1))) (L0, r.2.1, r.2.2, q0)) (h : s_X7_finds_67 i0 p1 rec7 rec67 v2 v3 v4 g w = some r) : Ev (EvM mth (d + 5)) mth c00 sc0 (retP (some .boolean) c00 Ψ) (lkp es_159) 67 [some (aR 7 i0), some (aI p1), some (aI v2), some (aI v3), some (aI v4), x5] [] (L0, g, w, q0) := by
  unfold s_X7_finds_67 at h
  refine ev_iload (pc' := 69) rfl rfl rfl ?_
  refine ev_i2l (pc' := 70) rfl rfl ?_
  refine ev_aload_n (pc' := 71) rfl rfl rfl ?_
  refine ev_getQ (pc' := 74) rfl rfl rfl ?_
  refine ev_bipush (pc' := 76) rfl rfl (v := (64 : Int32)) (by decide) ?_
  refine ev_lald (pc' := 77) rfl rfl rfl (inR_vp (by decide)) ?_
  refine ev_lcmp (pc' := 78) rfl rfl ?_
  refine ev_if_ge rfl (pc' := 81) rfl (fun hc => ?_) (fun hc => ?_)
  · have h := (if_pos hc).symm.trans h
    refine ev_iconst (pc' := 175) rfl rfl (v := (1 : Int32)) (by decide) ?_
    refine ev_istore (pc' := 177) rfl rfl (l' := [some (aR 7 i0), some (aI p1), some (aI v2), some (aI v3), some (aI (1 : Int32)), x5]) rfl ?_
    exact e_X7_finds_R177 (hr7 := hr7) hΨ FU h
  · have h := (if_neg hc).symm.trans h
    refine ev_aload_n (pc' := 82) rfl rfl rfl ?_
    refine ev_iconst (pc' := 83) rfl rfl (v := (5 : Int32)) (by decide) ?_
    refine ev_iload (pc' := 85) rfl rfl rfl ?_
    refine ev_iload_n (pc' := 86) rfl rfl rfl ?_
    refine ev_iload_n (pc' := 87) rfl rfl rfl ?_
    obtain ⟨q1, hq1, h⟩ := Option.bind_eq_some_iff.mp h
    refine ev_V5I (pc' := 90) rfl (by decide) rfl mth_145 ⟨Nat.le_of_ble_eq_true rfl, rfl⟩ ⟨Nat.le_refl _, Nat.le_refl _⟩ (d_X7_fails hq1) ?_
    refine ev_ifB_ne rfl (pc' := 93) rfl (fun hc => ?_) (fun hc => ?_)
    · have h := (if_pos hc).symm.trans h
      exact e_X7_finds_149 (hr67 := hr67) hΨ h
    · have h := (if_neg hc).symm.trans h
      refine ev_aload_n (pc' := 94) rfl rfl rfl ?_
      refine ev_bipush (pc' := 96) rfl rfl (v := (8 : Int32)) (by decide) ?_
      refine ev_iload (pc' := 98) rfl rfl rfl ?_
      refine ev_iload_n (pc' := 99) rfl rfl rfl ?_
      refine ev_iload_n (pc' := 100) rfl rfl rfl ?_
      obtain ⟨q2, hq2, h⟩ := Option.bind_eq_some_iff.mp h
      refine ev_V5I (pc' := 103) rfl (by decide) rfl mth_145 ⟨Nat.le_of_ble_eq_true rfl, rfl⟩ ⟨Nat.le_refl _, Nat.le_refl _⟩ (d_X7_fails hq2) ?_
      refine ev_ifB_ne rfl (pc' := 106) rfl (fun hc => ?_) (fun hc => ?_)
      · have h := (if_pos hc).symm.trans h
        exact e_X7_finds_149 (hr67 := hr67) hΨ h
      · have h := (if_neg hc).symm.trans h
        refine ev_aload_n (pc' := 107) rfl rfl rfl ?_
        refine ev_bipush (pc' := 109) rfl rfl (v := (6 : Int32)) (by decide) ?_
        refine ev_iload (pc' := 111) rfl rfl rfl ?_
        refine ev_iload_n (pc' := 112) rfl rfl rfl ?_
        refine ev_iload_n (pc' := 113) rfl rfl rfl ?_
        obtain ⟨q3, hq3, h⟩ := Option.bind_eq_some_iff.mp h
        refine ev_V5I (pc' := 116) rfl (by decide) rfl mth_145 ⟨Nat.le_of_ble_eq_true rfl, rfl⟩ ⟨Nat.le_refl _, Nat.le_refl _⟩ (d_X7_fails hq3) ?_
        refine ev_ifB_ne rfl (pc' := 119) rfl (fun hc => ?_) (fun hc => ?_)
        · have h := (if_pos hc).symm.trans h
          exact e_X7_finds_149 (hr67 := hr67) hΨ h
        · have h := (if_neg hc).symm.trans h
          refine ev_aload_n (pc' := 120) rfl rfl rfl ?_
          refine ev_bipush (pc' := 122) rfl rfl (v := (7 : Int32)) (by decide) ?_
          refine ev_iload (pc' := 124) rfl rfl rfl ?_
          refine ev_iload_n (pc' := 125) rfl rfl rfl ?_
          refine ev_iload_n (pc' := 126) rfl rfl rfl ?_
          obtain ⟨q4, hq4, h⟩ := Option.bind_eq_some_iff.mp h
          refine ev_V5I (pc' := 129) rfl (by decide) rfl mth_145 ⟨Nat.le_of_ble_eq_true rfl, rfl⟩ ⟨Nat.le_refl _, Nat.le_refl _⟩ (d_X7_fails hq4) ?_
          refine ev_ifB_ne rfl (pc' := 132) rfl (fun hc => ?_) (fun hc => ?_)
          · have h := (if_pos hc).symm.trans h
            exact e_X7_finds_149 (hr67 := hr67) hΨ h
          · have h := (if_neg hc).symm.trans h
            refine ev_aload_n (pc' := 133) rfl rfl rfl ?_
            refine ev_bipush (pc' := 135) rfl rfl (v := (11 : Int32)) (by decide) ?_
            refine ev_iload (pc' := 137) rfl rfl rfl ?_
            refine ev_iload_n (pc' := 138) rfl rfl rfl ?_
            refine ev_iload_n (pc' := 139) rfl rfl rfl ?_
            obtain ⟨q5, hq5, h⟩ := Option.bind_eq_some_iff.mp h
            refine ev_V5I (pc' := 142) rfl (by decide) rfl mth_145 ⟨Nat.le_of_ble_eq_true rfl, rfl⟩ ⟨Nat.le_refl _, Nat.le_refl _⟩ (d_X7_fails hq5) ?_
            refine ev_ifB_ne rfl (pc' := 145) rfl (fun hc => ?_) (fun hc => ?_)
            · have h := (if_pos hc).symm.trans h
              exact e_X7_finds_149 (hr67 := hr67) hΨ h
            · have h := (if_neg hc).symm.trans h
              refine ev_iconst (pc' := 146) rfl rfl (v := (1 : Int32)) (by decide) ?_
              refine ev_goto (pc' := 150) rfl ?_
              exact e_X7_finds_150 (hr67 := hr67) hΨ h
def s_X7_finds_R67 (i0 : Nat) (p1 : Int32) (rec7 : Int32 → (Nat → Nat → Nat → Int32) → (Nat → Nat → Nat → Int64) → Option (Bool × GS)) : Nat → Int32 → Int32 → Int32 → (Nat → Nat → Nat → Int32) → (Nat → Nat → Nat → Int64) → Option (Bool × GS)
  | 0 => fun _ _ _ _ _ => none
  | n + 1 => s_X7_finds_67 i0 p1 rec7 (s_X7_finds_R67 i0 p1 rec7 n)
theorem e_X7_finds_R67 {d : Nat} {Ψ : Option AV → DS → Prop} {i0 : Nat} {p1 : Int32} {rec7 : Int32 → (Nat → Nat → Nat → Int32) → (Nat → Nat → Nat → Int64) → Option (Bool × GS)} {r : Bool × GS} (hr7 : ∀ {v2 : Int32} {x3 : Option AV} {x4 : Option AV} {x5 : Option AV} {g : Nat → Nat → Nat → Int32} {w : Nat → Nat → Nat → Int64} , rec7 v2 g w = some r → Ev (EvM mth (d + 5)) mth c00 sc0 (retP (some .boolean) c00 Ψ) (lkp es_159) 7 [some (aR 7 i0), some (aI p1), some (aI v2), x3, x4, x5] [] (L0, g, w, q0)) (hΨ : Ψ (some (aI (bI r.1))) (L0, r.2.1, r.2.2, q0)) : ∀ (n : Nat) {v2 : Int32} {v3 : Int32} {v4 : Int32} {x5 : Option AV} {g : Nat → Nat → Nat → Int32} {w : Nat → Nat → Nat → Int64}, s_X7_finds_R67 i0 p1 rec7 n v2 v3 v4 g w = some r → Ev (EvM mth (d + 5)) mth c00 sc0 (retP (some .boolean) c00 Ψ) (lkp es_159) 67 [some (aR 7 i0), some (aI p1), some (aI v2), some (aI v3), some (aI v4), x5] [] (L0, g, w, q0) := by
  intro n
  induction n with
  | zero => intros; rename_i h; exact absurd h (by intro h9; cases h9)
  | succ n ih => intros; rename_i h; exact e_X7_finds_67 (hr7 := hr7) (hr67 := ih) hΨ h
def s_X7_finds_7 (i0 : Nat) (p1 : Int32) (rec7 : Int32 → (Nat → Nat → Nat → Int32) → (Nat → Nat → Nat → Int64) → Option (Bool × GS)) (v2 : Int32) (g : Nat → Nat → Nat → Int32) (w : Nat → Nat → Nat → Int64) : Option (Bool × GS) :=
  if (48 : Int32) ≤ v2 then
    s_X7_finds_284 i0 p1 g w
  else
    if (g 7 i0 11) ≠ 0 then
      s_X7_finds_284 i0 p1 g w
    else
      (s_X7_failsAlone i0 (1 : Int32) p1 v2 g w).bind fun q1 =>
      if q1 = true then
        s_X7_finds_278 i0 p1 rec7 v2 g w
      else
        (s_X7_failsAlone i0 (2 : Int32) p1 v2 g w).bind fun q2 =>
        if q2 = true then
          s_X7_finds_278 i0 p1 rec7 v2 g w
        else
          (s_X7_failsAlone i0 (9 : Int32) p1 v2 g w).bind fun q3 =>
          if q3 = true then
            s_X7_finds_278 i0 p1 rec7 v2 g w
          else
            (s_X7_failsAlone i0 (12 : Int32) p1 v2 g w).bind fun q4 =>
            if q4 = true then
              s_X7_finds_278 i0 p1 rec7 v2 g w
            else
              s_X7_finds_R67 i0 p1 rec7 FU v2 (0 : Int32) (0 : Int32) g w
set_option maxRecDepth 20000 in
set_option maxHeartbeats 2000000 in
theorem e_X7_finds_7 {d : Nat} {Ψ : Option AV → DS → Prop} {i0 : Nat} {p1 : Int32} {rec7 : Int32 → (Nat → Nat → Nat → Int32) → (Nat → Nat → Nat → Int64) → Option (Bool × GS)} {r : Bool × GS} {g : Nat → Nat → Nat → Int32} {w : Nat → Nat → Nat → Int64} {v2 : Int32} {x3 : Option AV} {x4 : Option AV} {x5 : Option AV} (hr7 : ∀ {v2 : Int32} {x3 : Option AV} {x4 : Option AV} {x5 : Option AV} {g : Nat → Nat → Nat → Int32} {w : Nat → Nat → Nat → Int64} , rec7 v2 g w = some r → Ev (EvM mth (d + 5)) mth c00 sc0 (retP (some .boolean) c00 Ψ) (lkp es_159) 7 [some (aR 7 i0), some (aI p1), some (aI v2), x3, x4, x5] [] (L0, g, w, q0)) (hΨ : Ψ (some (aI (bI r.1))) (L0, r.2.1, r.2.2, q0)) (h : s_X7_finds_7 i0 p1 rec7 v2 g w = some r) : Ev (EvM mth (d + 5)) mth c00 sc0 (retP (some .boolean) c00 Ψ) (lkp es_159) 7 [some (aR 7 i0), some (aI p1), some (aI v2), x3, x4, x5] [] (L0, g, w, q0) := by
  unfold s_X7_finds_7 at h
  refine ev_iload_n (pc' := 8) rfl rfl rfl ?_
  refine ev_bipush (pc' := 10) rfl rfl (v := (48 : Int32)) (by decide) ?_
  refine ev_icmp_ge rfl (pc' := 13) rfl (fun hc => ?_) (fun hc => ?_)
  · have h := (if_pos hc).symm.trans h
    exact e_X7_finds_284 hΨ h
  · have h := (if_neg hc).symm.trans h
    refine ev_aload_n (pc' := 14) rfl rfl rfl ?_
    refine ev_getI (pc' := 17) rfl rfl ?_
    refine ev_if_ne rfl (pc' := 20) rfl (fun hc => ?_) (fun hc => ?_)
    · have h := (if_pos hc).symm.trans h
      exact e_X7_finds_284 hΨ h
    · have h := (if_neg hc).symm.trans h
      refine ev_aload_n (pc' := 21) rfl rfl rfl ?_
      refine ev_iconst (pc' := 22) rfl rfl (v := (1 : Int32)) (by decide) ?_
      refine ev_iload_n (pc' := 23) rfl rfl rfl ?_
      refine ev_iload_n (pc' := 24) rfl rfl rfl ?_
      obtain ⟨q1, hq1, h⟩ := Option.bind_eq_some_iff.mp h
      refine ev_V4I (pc' := 27) rfl (by decide) rfl mth_147 ⟨Nat.le_of_ble_eq_true rfl, rfl⟩ ⟨Nat.le_refl _, Nat.le_refl _⟩ (d_X7_failsAlone hq1) ?_
      refine ev_ifB_ne rfl (pc' := 30) rfl (fun hc => ?_) (fun hc => ?_)
      · have h := (if_pos hc).symm.trans h
        exact e_X7_finds_278 (hr7 := hr7) hΨ h
      · have h := (if_neg hc).symm.trans h
        refine ev_aload_n (pc' := 31) rfl rfl rfl ?_
        refine ev_iconst (pc' := 32) rfl rfl (v := (2 : Int32)) (by decide) ?_
        refine ev_iload_n (pc' := 33) rfl rfl rfl ?_
        refine ev_iload_n (pc' := 34) rfl rfl rfl ?_
        obtain ⟨q2, hq2, h⟩ := Option.bind_eq_some_iff.mp h
        refine ev_V4I (pc' := 37) rfl (by decide) rfl mth_147 ⟨Nat.le_of_ble_eq_true rfl, rfl⟩ ⟨Nat.le_refl _, Nat.le_refl _⟩ (d_X7_failsAlone hq2) ?_
        refine ev_ifB_ne rfl (pc' := 40) rfl (fun hc => ?_) (fun hc => ?_)
        · have h := (if_pos hc).symm.trans h
          exact e_X7_finds_278 (hr7 := hr7) hΨ h
        · have h := (if_neg hc).symm.trans h
          refine ev_aload_n (pc' := 41) rfl rfl rfl ?_
          refine ev_bipush (pc' := 43) rfl rfl (v := (9 : Int32)) (by decide) ?_
          refine ev_iload_n (pc' := 44) rfl rfl rfl ?_
          refine ev_iload_n (pc' := 45) rfl rfl rfl ?_
          obtain ⟨q3, hq3, h⟩ := Option.bind_eq_some_iff.mp h
          refine ev_V4I (pc' := 48) rfl (by decide) rfl mth_147 ⟨Nat.le_of_ble_eq_true rfl, rfl⟩ ⟨Nat.le_refl _, Nat.le_refl _⟩ (d_X7_failsAlone hq3) ?_
          refine ev_ifB_ne rfl (pc' := 51) rfl (fun hc => ?_) (fun hc => ?_)
          · have h := (if_pos hc).symm.trans h
            exact e_X7_finds_278 (hr7 := hr7) hΨ h
          · have h := (if_neg hc).symm.trans h
            refine ev_aload_n (pc' := 52) rfl rfl rfl ?_
            refine ev_bipush (pc' := 54) rfl rfl (v := (12 : Int32)) (by decide) ?_
            refine ev_iload_n (pc' := 55) rfl rfl rfl ?_
            refine ev_iload_n (pc' := 56) rfl rfl rfl ?_
            obtain ⟨q4, hq4, h⟩ := Option.bind_eq_some_iff.mp h
            refine ev_V4I (pc' := 59) rfl (by decide) rfl mth_147 ⟨Nat.le_of_ble_eq_true rfl, rfl⟩ ⟨Nat.le_refl _, Nat.le_refl _⟩ (d_X7_failsAlone hq4) ?_
            refine ev_ifB_ne rfl (pc' := 62) rfl (fun hc => ?_) (fun hc => ?_)
            · have h := (if_pos hc).symm.trans h
              exact e_X7_finds_278 (hr7 := hr7) hΨ h
            · have h := (if_neg hc).symm.trans h
              refine ev_iconst (pc' := 63) rfl rfl (v := (0 : Int32)) (by decide) ?_
              refine ev_istore_n (pc' := 64) rfl rfl (l' := [some (aR 7 i0), some (aI p1), some (aI v2), some (aI (0 : Int32)), x4, x5]) rfl ?_
              refine ev_iconst (pc' := 65) rfl rfl (v := (0 : Int32)) (by decide) ?_
              refine ev_istore (pc' := 67) rfl rfl (l' := [some (aR 7 i0), some (aI p1), some (aI v2), some (aI (0 : Int32)), some (aI (0 : Int32)), x5]) rfl ?_
              exact e_X7_finds_R67 (hr7 := hr7) hΨ FU h
def s_X7_finds_R7 (i0 : Nat) (p1 : Int32) : Nat → Int32 → (Nat → Nat → Nat → Int32) → (Nat → Nat → Nat → Int64) → Option (Bool × GS)
  | 0 => fun _ _ _ => none
  | n + 1 => s_X7_finds_7 i0 p1 (s_X7_finds_R7 i0 p1 n)
theorem e_X7_finds_R7 {d : Nat} {Ψ : Option AV → DS → Prop} {i0 : Nat} {p1 : Int32} {r : Bool × GS} (hΨ : Ψ (some (aI (bI r.1))) (L0, r.2.1, r.2.2, q0)) : ∀ (n : Nat) {v2 : Int32} {x3 : Option AV} {x4 : Option AV} {x5 : Option AV} {g : Nat → Nat → Nat → Int32} {w : Nat → Nat → Nat → Int64}, s_X7_finds_R7 i0 p1 n v2 g w = some r → Ev (EvM mth (d + 5)) mth c00 sc0 (retP (some .boolean) c00 Ψ) (lkp es_159) 7 [some (aR 7 i0), some (aI p1), some (aI v2), x3, x4, x5] [] (L0, g, w, q0) := by
  intro n
  induction n with
  | zero => intros; rename_i h; exact absurd h (by intro h9; cases h9)
  | succ n ih => intros; rename_i h; exact e_X7_finds_7 (hr7 := ih) hΨ h
def s_X7_finds (i0 : Nat) (p1 : Int32) (g : Nat → Nat → Nat → Int32) (w : Nat → Nat → Nat → Int64) : Option (Bool × GS) :=
  s_X7_finds_R7 i0 p1 FU (0 : Int32) (gI g 7 i0 11 (0 : Int32)) w
set_option maxRecDepth 20000 in
set_option maxHeartbeats 2000000 in
theorem d_X7_finds {d : Nat} {i0 : Nat} {p1 : Int32} {g : Nat → Nat → Nat → Int32} {w : Nat → Nat → Nat → Int64} {r : Bool × GS} (h : s_X7_finds i0 p1 g w = some r) : Does (EvM mth (d + 6)) 159 [aR 7 i0, aI p1] (L0, g, w, q0) (some (aI (bI r.1))) (L0, r.2.1, r.2.2, q0) := by
  intro Ψ hΨ
  refine ⟨in_159, mth_159, Nat.le_of_ble_eq_true rfl, ?_⟩
  show Ev (EvM mth (d + 5)) mth c00 sc0 (retP (some .boolean) c00 Ψ) (lkp es_159) 0 [some (aR 7 i0), some (aI p1), none, none, none, none] [] (L0, g, w, q0)
  unfold s_X7_finds at h
  refine ev_aload_n (pc' := 1) rfl rfl rfl ?_
  refine ev_iconst (pc' := 2) rfl rfl (v := (0 : Int32)) (by decide) ?_
  refine ev_putI (pc' := 5) rfl rfl ?_
  refine ev_iconst (pc' := 6) rfl rfl (v := (0 : Int32)) (by decide) ?_
  refine ev_istore_n (pc' := 7) rfl rfl (l' := [some (aR 7 i0), some (aI p1), some (aI (0 : Int32)), none, none, none]) rfl ?_
  exact e_X7_finds_R7 hΨ FU h
def s_X1_failsBy_3 (i0 : Nat) (p1 : Nat) (p2 : Int32) (p3 : Int32) (rec3 : Int32 → (Nat → Nat → Nat → Int32) → (Nat → Nat → Nat → Int64) → Option (Int32)) (v4 : Int32) (g : Nat → Nat → Nat → Int32) (w : Nat → Nat → Nat → Int64) : Option (Int32) :=
  if (12 : Int32) < v4 then
    some ((0 : Int32))
  else
    (s_X1_holds i0 v4 p1 p2 p3 g w).bind fun q1 =>
    if q1 = true then
      rec3 (v4 + 1) g w
    else
      some (v4)
set_option maxRecDepth 20000 in
set_option maxHeartbeats 2000000 in
theorem e_X1_failsBy_3 {d : Nat} {Ψ : Option AV → DS → Prop} {i0 : Nat} {p1 : Nat} {p2 : Int32} {p3 : Int32} {rec3 : Int32 → (Nat → Nat → Nat → Int32) → (Nat → Nat → Nat → Int64) → Option (Int32)} {r : Int32} {g : Nat → Nat → Nat → Int32} {w : Nat → Nat → Nat → Int64} {v4 : Int32} (hr3 : ∀ {v4 : Int32} , rec3 v4 g w = some r → Ev (EvM mth (d + 6)) mth c00 sc0 (retP (some .int) c00 Ψ) (lkp es_21) 3 [some (aR 1 i0), some (aR 4 p1), some (aI p2), some (aI p3), some (aI v4)] [] (L0, g, w, q0)) (hΨ : Ψ (some (aI r)) (L0, g, w, q0)) (h : s_X1_failsBy_3 i0 p1 p2 p3 rec3 v4 g w = some r) : Ev (EvM mth (d + 6)) mth c00 sc0 (retP (some .int) c00 Ψ) (lkp es_21) 3 [some (aR 1 i0), some (aR 4 p1), some (aI p2), some (aI p3), some (aI v4)] [] (L0, g, w, q0) := by
  unfold s_X1_failsBy_3 at h
  refine ev_iload (pc' := 5) rfl rfl rfl ?_
  refine ev_bipush (pc' := 7) rfl rfl (v := (12 : Int32)) (by decide) ?_
  refine ev_icmp_gt rfl (pc' := 10) rfl (fun hc => ?_) (fun hc => ?_)
  · have h := (if_pos hc).symm.trans h
    refine ev_iconst (pc' := 32) rfl rfl (v := (0 : Int32)) (by decide) ?_
    obtain rfl := Option.some.inj h
    exact ev_ireturn rfl ⟨⟨_, rfl, rfl⟩, rfl, rfl, hΨ⟩
  · have h := (if_neg hc).symm.trans h
    refine ev_aload_n (pc' := 11) rfl rfl rfl ?_
    refine ev_iload (pc' := 13) rfl rfl rfl ?_
    refine ev_aload_n (pc' := 14) rfl rfl rfl ?_
    refine ev_iload_n (pc' := 15) rfl rfl rfl ?_
    refine ev_iload_n (pc' := 16) rfl rfl rfl ?_
    obtain ⟨q1, hq1, h⟩ := Option.bind_eq_some_iff.mp h
    refine ev_V5I (pc' := 19) rfl (by decide) rfl mth_22 ⟨Nat.le_of_ble_eq_true rfl, rfl⟩ ⟨Nat.le_refl _, Nat.le_refl _⟩ (d_X1_holds hq1) ?_
    refine ev_ifB_ne rfl (pc' := 22) rfl (fun hc => ?_) (fun hc => ?_)
    · have h := (if_pos hc).symm.trans h
      refine ev_iinc (pc' := 28) rfl rfl (l' := [some (aR 1 i0), some (aR 4 p1), some (aI p2), some (aI p3), some (aI (v4 + 1))]) rfl (ii_1 _) rfl ?_
      refine ev_goto (pc' := 3) rfl ?_
      exact hr3 h
    · have h := (if_neg hc).symm.trans h
      refine ev_iload (pc' := 24) rfl rfl rfl ?_
      obtain rfl := Option.some.inj h
      exact ev_ireturn rfl ⟨⟨_, rfl, rfl⟩, rfl, rfl, hΨ⟩
def s_X1_failsBy_R3 (i0 : Nat) (p1 : Nat) (p2 : Int32) (p3 : Int32) : Nat → Int32 → (Nat → Nat → Nat → Int32) → (Nat → Nat → Nat → Int64) → Option (Int32)
  | 0 => fun _ _ _ => none
  | n + 1 => s_X1_failsBy_3 i0 p1 p2 p3 (s_X1_failsBy_R3 i0 p1 p2 p3 n)
theorem e_X1_failsBy_R3 {d : Nat} {Ψ : Option AV → DS → Prop} {i0 : Nat} {p1 : Nat} {p2 : Int32} {p3 : Int32} {r : Int32} {g : Nat → Nat → Nat → Int32} {w : Nat → Nat → Nat → Int64} (hΨ : Ψ (some (aI r)) (L0, g, w, q0)) : ∀ (n : Nat) {v4 : Int32} , s_X1_failsBy_R3 i0 p1 p2 p3 n v4 g w = some r → Ev (EvM mth (d + 6)) mth c00 sc0 (retP (some .int) c00 Ψ) (lkp es_21) 3 [some (aR 1 i0), some (aR 4 p1), some (aI p2), some (aI p3), some (aI v4)] [] (L0, g, w, q0) := by
  intro n
  induction n with
  | zero => intros; rename_i h; exact absurd h (by intro h9; cases h9)
  | succ n ih => intros; rename_i h; exact e_X1_failsBy_3 (hr3 := ih) hΨ h
def s_X1_failsBy (i0 : Nat) (p1 : Nat) (p2 : Int32) (p3 : Int32) (g : Nat → Nat → Nat → Int32) (w : Nat → Nat → Nat → Int64) : Option (Int32) :=
  s_X1_failsBy_R3 i0 p1 p2 p3 FU (1 : Int32) g w
set_option maxRecDepth 20000 in
set_option maxHeartbeats 2000000 in
theorem d_X1_failsBy {d : Nat} {i0 : Nat} {p1 : Nat} {p2 : Int32} {p3 : Int32} {g : Nat → Nat → Nat → Int32} {w : Nat → Nat → Nat → Int64} {r : Int32} (h : s_X1_failsBy i0 p1 p2 p3 g w = some r) : Does (EvM mth (d + 7)) 21 [aR 1 i0, aR 4 p1, aI p2, aI p3] (L0, g, w, q0) (some (aI r)) (L0, g, w, q0) := by
  intro Ψ hΨ
  refine ⟨in_21, mth_21, Nat.le_of_ble_eq_true rfl, ?_⟩
  show Ev (EvM mth (d + 6)) mth c00 sc0 (retP (some .int) c00 Ψ) (lkp es_21) 0 [some (aR 1 i0), some (aR 4 p1), some (aI p2), some (aI p3), none] [] (L0, g, w, q0)
  unfold s_X1_failsBy at h
  refine ev_iconst (pc' := 1) rfl rfl (v := (1 : Int32)) (by decide) ?_
  refine ev_istore (pc' := 3) rfl rfl (l' := [some (aR 1 i0), some (aR 4 p1), some (aI p2), some (aI p3), some (aI (1 : Int32))]) rfl ?_
  exact e_X1_failsBy_R3 hΨ FU h
def s_X2_findOrder_108 (i0 : Nat) (p1 : Nat) (p2 : Int32) (g : Nat → Nat → Nat → Int32) (w : Nat → Nat → Nat → Int64) : Option (GS) :=
  some ((g, w))
set_option maxRecDepth 20000 in
set_option maxHeartbeats 2000000 in
theorem e_X2_findOrder_108 {d : Nat} {Ψ : Option AV → DS → Prop} {i0 : Nat} {p1 : Nat} {p2 : Int32} {r : GS} {g : Nat → Nat → Nat → Int32} {w : Nat → Nat → Nat → Int64} {x0 : Option AV} {x1 : Option AV} {x2 : Option AV} {x3 : Option AV} {x4 : Option AV} {x5 : Option AV} (hΨ : Ψ none (L0, r.1, r.2, q0)) (h : s_X2_findOrder_108 i0 p1 p2 g w = some r) : Ev (EvM mth (d + 6)) mth c00 sc0 (retP (none) c00 Ψ) (lkp es_41) 108 [x0, x1, x2, x3, x4, x5] [] (L0, g, w, q0) := by
  unfold s_X2_findOrder_108 at h
  obtain rfl := Option.some.inj h
  exact ev_return rfl ⟨rfl, rfl, rfl, hΨ⟩
def s_X2_findOrder_96 (i0 : Nat) (p1 : Nat) (p2 : Int32) (rec24 : Bool → Int32 → (Nat → Nat → Nat → Int32) → (Nat → Nat → Nat → Int64) → Option (GS)) (v4 : Int32) (g : Nat → Nat → Nat → Int32) (w : Nat → Nat → Nat → Int64) : Option (GS) :=
  (s_X2_nextOrder i0 p2 g w).bind fun q1 =>
  rec24 q1.1 (v4 + 1) q1.2.1 q1.2.2
set_option maxRecDepth 20000 in
set_option maxHeartbeats 2000000 in
theorem e_X2_findOrder_96 {d : Nat} {Ψ : Option AV → DS → Prop} {i0 : Nat} {p1 : Nat} {p2 : Int32} {rec24 : Bool → Int32 → (Nat → Nat → Nat → Int32) → (Nat → Nat → Nat → Int64) → Option (GS)} {r : GS} {g : Nat → Nat → Nat → Int32} {w : Nat → Nat → Nat → Int64} {v4 : Int32} {x1 : Option AV} {x3 : Option AV} {x5 : Option AV} (hr24 : ∀ {v3 : Bool} {v4 : Int32} {x1 : Option AV} {x5 : Option AV} {g : Nat → Nat → Nat → Int32} {w : Nat → Nat → Nat → Int64} , rec24 v3 v4 g w = some r → Ev (EvM mth (d + 6)) mth c00 sc0 (retP (none) c00 Ψ) (lkp es_41) 24 [some (aR 2 i0), x1, some (aI p2), some (aI (bI v3)), some (aI v4), x5] [] (L0, g, w, q0)) (hΨ : Ψ none (L0, r.1, r.2, q0)) (h : s_X2_findOrder_96 i0 p1 p2 rec24 v4 g w = some r) : Ev (EvM mth (d + 6)) mth c00 sc0 (retP (none) c00 Ψ) (lkp es_41) 96 [some (aR 2 i0), x1, some (aI p2), x3, some (aI v4), x5] [] (L0, g, w, q0) := by
  unfold s_X2_findOrder_96 at h
  refine ev_aload_n (pc' := 97) rfl rfl rfl ?_
  refine ev_iload_n (pc' := 98) rfl rfl rfl ?_
  obtain ⟨q1, hq1, h⟩ := Option.bind_eq_some_iff.mp h
  refine ev_V2I (pc' := 101) rfl (by decide) rfl mth_43 ⟨Nat.le_of_ble_eq_true rfl, rfl⟩ ⟨Nat.le_refl _, Nat.le_refl _⟩ (d_X2_nextOrder hq1) ?_
  refine ev_istore_n (pc' := 102) rfl rfl (l' := [some (aR 2 i0), x1, some (aI p2), some (aI (bI q1.1)), some (aI v4), x5]) rfl ?_
  refine ev_iinc (pc' := 105) rfl rfl (l' := [some (aR 2 i0), x1, some (aI p2), some (aI (bI q1.1)), some (aI (v4 + 1)), x5]) rfl (ii_1 _) rfl ?_
  refine ev_goto (pc' := 24) rfl ?_
  exact hr24 h
def s_X2_findOrder_79 (i0 : Nat) (p1 : Nat) (p2 : Int32) (rec24 : Bool → Int32 → (Nat → Nat → Nat → Int32) → (Nat → Nat → Nat → Int64) → Option (GS)) (v4 : Int32) (v5 : Int32) (g : Nat → Nat → Nat → Int32) (w : Nat → Nat → Nat → Int64) : Option (GS) :=
  (s_X2_takeOver 1 2 (gI g 2 i0 5 v5) w).bind fun q1 =>
  s_X2_findOrder_96 i0 p1 p2 rec24 v4 q1.1 q1.2
set_option maxRecDepth 20000 in
set_option maxHeartbeats 2000000 in
theorem e_X2_findOrder_79 {d : Nat} {Ψ : Option AV → DS → Prop} {i0 : Nat} {p1 : Nat} {p2 : Int32} {rec24 : Bool → Int32 → (Nat → Nat → Nat → Int32) → (Nat → Nat → Nat → Int64) → Option (GS)} {r : GS} {g : Nat → Nat → Nat → Int32} {w : Nat → Nat → Nat → Int64} {v4 : Int32} {v5 : Int32} {x1 : Option AV} {x3 : Option AV} (hr24 : ∀ {v3 : Bool} {v4 : Int32} {x1 : Option AV} {x5 : Option AV} {g : Nat → Nat → Nat → Int32} {w : Nat → Nat → Nat → Int64} , rec24 v3 v4 g w = some r → Ev (EvM mth (d + 6)) mth c00 sc0 (retP (none) c00 Ψ) (lkp es_41) 24 [some (aR 2 i0), x1, some (aI p2), some (aI (bI v3)), some (aI v4), x5] [] (L0, g, w, q0)) (hΨ : Ψ none (L0, r.1, r.2, q0)) (h : s_X2_findOrder_79 i0 p1 p2 rec24 v4 v5 g w = some r) : Ev (EvM mth (d + 6)) mth c00 sc0 (retP (none) c00 Ψ) (lkp es_41) 79 [some (aR 2 i0), x1, some (aI p2), x3, some (aI v4), some (aI v5)] [] (L0, g, w, q0) := by
  unfold s_X2_findOrder_79 at h
  refine ev_aload_n (pc' := 80) rfl rfl rfl ?_
  refine ev_iload (pc' := 82) rfl rfl rfl ?_
  refine ev_putI (pc' := 85) rfl rfl ?_
  refine ev_aload_n (pc' := 86) rfl rfl rfl ?_
  refine ev_getQ (pc' := 89) rfl rfl rfl ?_
  refine ev_aload_n (pc' := 90) rfl rfl rfl ?_
  refine ev_getQ (pc' := 93) rfl rfl rfl ?_
  obtain ⟨q1, hq1, h⟩ := Option.bind_eq_some_iff.mp h
  refine ev_S2V (pc' := 96) rfl (by decide) rfl mth_42 ⟨Nat.le_of_ble_eq_true rfl, rfl⟩ ⟨Nat.le_refl _, Nat.le_refl _⟩ (d_X2_takeOver hq1) ?_
  exact e_X2_findOrder_96 (hr24 := hr24) hΨ h
def s_X2_findOrder_24 (i0 : Nat) (p1 : Nat) (p2 : Int32) (rec24 : Bool → Int32 → (Nat → Nat → Nat → Int32) → (Nat → Nat → Nat → Int64) → Option (GS)) (v3 : Bool) (v4 : Int32) (g : Nat → Nat → Nat → Int32) (w : Nat → Nat → Nat → Int64) : Option (GS) :=
  if v3 = true then
    if (24 : Int32) ≤ v4 then
      s_X2_findOrder_108 i0 p1 p2 g w
    else
      (s_X1_clearPlan 1 g w).bind fun q1 =>
      (s_X1_layEach 1 1 p2 q1.1 q1.2).bind fun q2 =>
      (s_X1_waitedOf 1 p2 q2.2.1 q2.2.2).bind fun q3 =>
      if v4 = 0 then
        s_X2_findOrder_79 i0 p1 p2 rec24 v4 q3 q2.2.1 q2.2.2
      else
        if (q2.2.1 2 i0 5) ≤ q3 then
          s_X2_findOrder_96 i0 p1 p2 rec24 v4 q2.2.1 q2.2.2
        else
          s_X2_findOrder_79 i0 p1 p2 rec24 v4 q3 q2.2.1 q2.2.2
  else
    s_X2_findOrder_108 i0 p1 p2 g w
set_option maxRecDepth 20000 in
set_option maxHeartbeats 2000000 in
theorem e_X2_findOrder_24 {d : Nat} {Ψ : Option AV → DS → Prop} {i0 : Nat} {p1 : Nat} {p2 : Int32} {rec24 : Bool → Int32 → (Nat → Nat → Nat → Int32) → (Nat → Nat → Nat → Int64) → Option (GS)} {r : GS} {g : Nat → Nat → Nat → Int32} {w : Nat → Nat → Nat → Int64} {v3 : Bool} {v4 : Int32} {x1 : Option AV} {x5 : Option AV} (hr24 : ∀ {v3 : Bool} {v4 : Int32} {x1 : Option AV} {x5 : Option AV} {g : Nat → Nat → Nat → Int32} {w : Nat → Nat → Nat → Int64} , rec24 v3 v4 g w = some r → Ev (EvM mth (d + 6)) mth c00 sc0 (retP (none) c00 Ψ) (lkp es_41) 24 [some (aR 2 i0), x1, some (aI p2), some (aI (bI v3)), some (aI v4), x5] [] (L0, g, w, q0)) (hΨ : Ψ none (L0, r.1, r.2, q0)) (h : s_X2_findOrder_24 i0 p1 p2 rec24 v3 v4 g w = some r) : Ev (EvM mth (d + 6)) mth c00 sc0 (retP (none) c00 Ψ) (lkp es_41) 24 [some (aR 2 i0), x1, some (aI p2), some (aI (bI v3)), some (aI v4), x5] [] (L0, g, w, q0) := by
  unfold s_X2_findOrder_24 at h
  refine ev_iload_n (pc' := 25) rfl rfl rfl ?_
  refine ev_ifB_eq rfl (pc' := 28) rfl (fun hc => ?_) (fun hc => ?_)
  · have h := (if_neg hc).symm.trans h
    exact e_X2_findOrder_108 hΨ h
  · have h := (if_pos hc).symm.trans h
    refine ev_iload (pc' := 30) rfl rfl rfl ?_
    refine ev_bipush (pc' := 32) rfl rfl (v := (24 : Int32)) (by decide) ?_
    refine ev_icmp_ge rfl (pc' := 35) rfl (fun hc => ?_) (fun hc => ?_)
    · have h := (if_pos hc).symm.trans h
      exact e_X2_findOrder_108 hΨ h
    · have h := (if_neg hc).symm.trans h
      refine ev_aload_n (pc' := 36) rfl rfl rfl ?_
      refine ev_getQ (pc' := 39) rfl rfl rfl ?_
      obtain ⟨q1, hq1, h⟩ := Option.bind_eq_some_iff.mp h
      refine ev_V1V (pc' := 42) rfl (by decide) rfl mth_34 ⟨Nat.le_of_ble_eq_true rfl, rfl⟩ ⟨Nat.le_refl _, Nat.le_refl _⟩ (d_X1_clearPlan hq1) ?_
      refine ev_aload_n (pc' := 43) rfl rfl rfl ?_
      refine ev_getQ (pc' := 46) rfl rfl rfl ?_
      refine ev_aload_n (pc' := 47) rfl rfl rfl ?_
      refine ev_getQ (pc' := 50) rfl rfl rfl ?_
      refine ev_iload_n (pc' := 51) rfl rfl rfl ?_
      obtain ⟨q2, hq2, h⟩ := Option.bind_eq_some_iff.mp h
      refine ev_V3I (pc' := 54) rfl (by decide) rfl mth_35 ⟨Nat.le_of_ble_eq_true rfl, rfl⟩ ⟨Nat.le_refl _, Nat.le_refl _⟩ (d_X1_layEach hq2) ?_
      refine ev_pop (pc' := 55) rfl rfl rfl ?_
      refine ev_aload_n (pc' := 56) rfl rfl rfl ?_
      refine ev_getQ (pc' := 59) rfl rfl rfl ?_
      refine ev_iload_n (pc' := 60) rfl rfl rfl ?_
      obtain ⟨q3, hq3, h⟩ := Option.bind_eq_some_iff.mp h
      refine ev_V2I (pc' := 63) rfl (by decide) rfl mth_36 ⟨Nat.le_of_ble_eq_true rfl, rfl⟩ ⟨Nat.le_refl _, Nat.le_refl _⟩ (d_X1_waitedOf hq3) ?_
      refine ev_istore (pc' := 65) rfl rfl (l' := [some (aR 2 i0), x1, some (aI p2), some (aI (bI v3)), some (aI v4), some (aI q3)]) rfl ?_
      refine ev_iload (pc' := 67) rfl rfl rfl ?_
      refine ev_if_eq rfl (pc' := 70) rfl (fun hc => ?_) (fun hc => ?_)
      · have h := (if_pos hc).symm.trans h
        exact e_X2_findOrder_79 (hr24 := hr24) hΨ h
      · have h := (if_neg hc).symm.trans h
        refine ev_iload (pc' := 72) rfl rfl rfl ?_
        refine ev_aload_n (pc' := 73) rfl rfl rfl ?_
        refine ev_getI (pc' := 76) rfl rfl ?_
        refine ev_icmp_ge rfl (pc' := 79) rfl (fun hc => ?_) (fun hc => ?_)
        · have h := (if_pos hc).symm.trans h
          exact e_X2_findOrder_96 (hr24 := hr24) hΨ h
        · have h := (if_neg hc).symm.trans h
          exact e_X2_findOrder_79 (hr24 := hr24) hΨ h
def s_X2_findOrder_R24 (i0 : Nat) (p1 : Nat) (p2 : Int32) : Nat → Bool → Int32 → (Nat → Nat → Nat → Int32) → (Nat → Nat → Nat → Int64) → Option (GS)
  | 0 => fun _ _ _ _ => none
  | n + 1 => s_X2_findOrder_24 i0 p1 p2 (s_X2_findOrder_R24 i0 p1 p2 n)
theorem e_X2_findOrder_R24 {d : Nat} {Ψ : Option AV → DS → Prop} {i0 : Nat} {p1 : Nat} {p2 : Int32} {r : GS} (hΨ : Ψ none (L0, r.1, r.2, q0)) : ∀ (n : Nat) {v3 : Bool} {v4 : Int32} {x1 : Option AV} {x5 : Option AV} {g : Nat → Nat → Nat → Int32} {w : Nat → Nat → Nat → Int64}, s_X2_findOrder_R24 i0 p1 p2 n v3 v4 g w = some r → Ev (EvM mth (d + 6)) mth c00 sc0 (retP (none) c00 Ψ) (lkp es_41) 24 [some (aR 2 i0), x1, some (aI p2), some (aI (bI v3)), some (aI v4), x5] [] (L0, g, w, q0) := by
  intro n
  induction n with
  | zero => intros; rename_i h; exact absurd h (by intro h9; cases h9)
  | succ n ih => intros; rename_i h; exact e_X2_findOrder_24 (hr24 := ih) hΨ h
def s_X2_findOrder (i0 : Nat) (p1 : Nat) (p2 : Int32) (g : Nat → Nat → Nat → Int32) (w : Nat → Nat → Nat → Int64) : Option (GS) :=
  (s_X1_copyFrom 1 p1 g w).bind fun q1 =>
  (s_X2_takeOver 0 1 q1.1 q1.2).bind fun q2 =>
  s_X2_findOrder_R24 i0 p1 p2 FU true (0 : Int32) q2.1 q2.2
set_option maxRecDepth 20000 in
set_option maxHeartbeats 2000000 in
theorem d_X2_findOrder {d : Nat} {i0 : Nat} {p1 : Nat} {p2 : Int32} {g : Nat → Nat → Nat → Int32} {w : Nat → Nat → Nat → Int64} {r : GS} (h : s_X2_findOrder i0 p1 p2 g w = some r) : Does (EvM mth (d + 7)) 41 [aR 2 i0, aR 1 p1, aI p2] (L0, g, w, q0) none (L0, r.1, r.2, q0) := by
  intro Ψ hΨ
  refine ⟨in_41, mth_41, Nat.le_of_ble_eq_true rfl, ?_⟩
  show Ev (EvM mth (d + 6)) mth c00 sc0 (retP (none) c00 Ψ) (lkp es_41) 0 [some (aR 2 i0), some (aR 1 p1), some (aI p2), none, none, none] [] (L0, g, w, q0)
  unfold s_X2_findOrder at h
  refine ev_aload_n (pc' := 1) rfl rfl rfl ?_
  refine ev_getQ (pc' := 4) rfl rfl rfl ?_
  refine ev_aload_n (pc' := 5) rfl rfl rfl ?_
  obtain ⟨q1, hq1, h⟩ := Option.bind_eq_some_iff.mp h
  refine ev_V2V (pc' := 8) rfl (by decide) rfl mth_5 ⟨Nat.le_of_ble_eq_true rfl, rfl⟩ ⟨Nat.le_refl _, Nat.le_refl _⟩ (d_X1_copyFrom hq1) ?_
  refine ev_aload_n (pc' := 9) rfl rfl rfl ?_
  refine ev_getQ (pc' := 12) rfl rfl rfl ?_
  refine ev_aload_n (pc' := 13) rfl rfl rfl ?_
  refine ev_getQ (pc' := 16) rfl rfl rfl ?_
  obtain ⟨q2, hq2, h⟩ := Option.bind_eq_some_iff.mp h
  refine ev_S2V (pc' := 19) rfl (by decide) rfl mth_42 ⟨Nat.le_of_ble_eq_true rfl, rfl⟩ ⟨Nat.le_refl _, Nat.le_refl _⟩ (d_X2_takeOver hq2) ?_
  refine ev_iconst (pc' := 20) rfl rfl (v := (1 : Int32)) (by decide) ?_
  refine ev_istore_n (pc' := 21) rfl rfl (l' := [some (aR 2 i0), some (aR 1 p1), some (aI p2), some (aI (1 : Int32)), none, none]) rfl ?_
  refine ev_iconst (pc' := 22) rfl rfl (v := (0 : Int32)) (by decide) ?_
  refine ev_istore (pc' := 24) rfl rfl (l' := [some (aR 2 i0), some (aR 1 p1), some (aI p2), some (aI (1 : Int32)), some (aI (0 : Int32)), none]) rfl ?_
  exact e_X2_findOrder_R24 hΨ FU h
def s_X2_findMended_91 (i0 : Nat) (p1 : Nat) (p2 : Int32) (rec7 : Int32 → (Nat → Nat → Nat → Int32) → (Nat → Nat → Nat → Int64) → Option (GS)) (v3 : Int32) (g : Nat → Nat → Nat → Int32) (w : Nat → Nat → Nat → Int64) : Option (GS) :=
  rec7 (v3 + 1) g w
set_option maxRecDepth 20000 in
set_option maxHeartbeats 2000000 in
theorem e_X2_findMended_91 {d : Nat} {Ψ : Option AV → DS → Prop} {i0 : Nat} {p1 : Nat} {p2 : Int32} {rec7 : Int32 → (Nat → Nat → Nat → Int32) → (Nat → Nat → Nat → Int64) → Option (GS)} {r : GS} {g : Nat → Nat → Nat → Int32} {w : Nat → Nat → Nat → Int64} {v3 : Int32} {x4 : Option AV} {x5 : Option AV} (hr7 : ∀ {v3 : Int32} {x4 : Option AV} {x5 : Option AV} {g : Nat → Nat → Nat → Int32} {w : Nat → Nat → Nat → Int64} , rec7 v3 g w = some r → Ev (EvM mth (d + 6)) mth c00 sc0 (retP (none) c00 Ψ) (lkp es_45) 7 [some (aR 2 i0), some (aR 1 p1), some (aI p2), some (aI v3), x4, x5] [] (L0, g, w, q0)) (hΨ : Ψ none (L0, r.1, r.2, q0)) (h : s_X2_findMended_91 i0 p1 p2 rec7 v3 g w = some r) : Ev (EvM mth (d + 6)) mth c00 sc0 (retP (none) c00 Ψ) (lkp es_45) 91 [some (aR 2 i0), some (aR 1 p1), some (aI p2), some (aI v3), x4, x5] [] (L0, g, w, q0) := by
  unfold s_X2_findMended_91 at h
  refine ev_iinc (pc' := 94) rfl rfl (l' := [some (aR 2 i0), some (aR 1 p1), some (aI p2), some (aI (v3 + 1)), x4, x5]) rfl (ii_1 _) rfl ?_
  refine ev_goto (pc' := 7) rfl ?_
  exact hr7 h
def s_X2_findMended_7 (i0 : Nat) (p1 : Nat) (p2 : Int32) (rec7 : Int32 → (Nat → Nat → Nat → Int32) → (Nat → Nat → Nat → Int64) → Option (GS)) (v3 : Int32) (g : Nat → Nat → Nat → Int32) (w : Nat → Nat → Nat → Int64) : Option (GS) :=
  if ((1 : Int32) <<< (p2 &&& 31)) ≤ v3 then
    some ((g, w))
  else
    (s_X2_allHaveJobs p1 v3 g w).bind fun q1 =>
    if q1 = true then
      (s_X1_copyFrom 1 p1 g w).bind fun q2 =>
      (s_X1_liftAll 1 v3 q2.1 q2.2).bind fun q3 =>
      (s_X1_layEach 1 0 p2 q3.1 q3.2).bind fun q4 =>
      (s_X1_waitedOf 1 p2 q4.2.1 q4.2.2).bind fun q5 =>
      if (s_X2_isBetter i0 q4.1 v3 q5 q4.2.1 q4.2.2) = true then
        s_X2_findMended_91 i0 p1 p2 rec7 v3 (gI (gI (gI q4.2.1 2 i0 4 q4.1) 2 i0 6 v3) 2 i0 5 q5) q4.2.2
      else
        s_X2_findMended_91 i0 p1 p2 rec7 v3 q4.2.1 q4.2.2
    else
      s_X2_findMended_91 i0 p1 p2 rec7 v3 g w
set_option maxRecDepth 20000 in
set_option maxHeartbeats 2000000 in
theorem e_X2_findMended_7 {d : Nat} {Ψ : Option AV → DS → Prop} {i0 : Nat} {p1 : Nat} {p2 : Int32} {rec7 : Int32 → (Nat → Nat → Nat → Int32) → (Nat → Nat → Nat → Int64) → Option (GS)} {r : GS} {g : Nat → Nat → Nat → Int32} {w : Nat → Nat → Nat → Int64} {v3 : Int32} {x4 : Option AV} {x5 : Option AV} (hr7 : ∀ {v3 : Int32} {x4 : Option AV} {x5 : Option AV} {g : Nat → Nat → Nat → Int32} {w : Nat → Nat → Nat → Int64} , rec7 v3 g w = some r → Ev (EvM mth (d + 6)) mth c00 sc0 (retP (none) c00 Ψ) (lkp es_45) 7 [some (aR 2 i0), some (aR 1 p1), some (aI p2), some (aI v3), x4, x5] [] (L0, g, w, q0)) (hΨ : Ψ none (L0, r.1, r.2, q0)) (h : s_X2_findMended_7 i0 p1 p2 rec7 v3 g w = some r) : Ev (EvM mth (d + 6)) mth c00 sc0 (retP (none) c00 Ψ) (lkp es_45) 7 [some (aR 2 i0), some (aR 1 p1), some (aI p2), some (aI v3), x4, x5] [] (L0, g, w, q0) := by
  unfold s_X2_findMended_7 at h
  refine ev_iload_n (pc' := 8) rfl rfl rfl ?_
  refine ev_iconst (pc' := 9) rfl rfl (v := (1 : Int32)) (by decide) ?_
  refine ev_iload_n (pc' := 10) rfl rfl rfl ?_
  refine ev_ishl (pc' := 11) rfl rfl ?_
  refine ev_icmp_ge rfl (pc' := 14) rfl (fun hc => ?_) (fun hc => ?_)
  · have h := (if_pos hc).symm.trans h
    obtain rfl := Option.some.inj h
    exact ev_return rfl ⟨rfl, rfl, rfl, hΨ⟩
  · have h := (if_neg hc).symm.trans h
    refine ev_aload_n (pc' := 15) rfl rfl rfl ?_
    refine ev_iload_n (pc' := 16) rfl rfl rfl ?_
    obtain ⟨q1, hq1, h⟩ := Option.bind_eq_some_iff.mp h
    refine ev_S2I (pc' := 19) rfl (by decide) rfl mth_46 ⟨Nat.le_of_ble_eq_true rfl, rfl⟩ ⟨Nat.le_refl _, Nat.le_refl _⟩ (d_X2_allHaveJobs hq1) ?_
    refine ev_ifB_eq rfl (pc' := 22) rfl (fun hc => ?_) (fun hc => ?_)
    · have h := (if_neg hc).symm.trans h
      exact e_X2_findMended_91 (hr7 := hr7) hΨ h
    · have h := (if_pos hc).symm.trans h
      refine ev_aload_n (pc' := 23) rfl rfl rfl ?_
      refine ev_getQ (pc' := 26) rfl rfl rfl ?_
      refine ev_aload_n (pc' := 27) rfl rfl rfl ?_
      obtain ⟨q2, hq2, h⟩ := Option.bind_eq_some_iff.mp h
      refine ev_V2V (pc' := 30) rfl (by decide) rfl mth_5 ⟨Nat.le_of_ble_eq_true rfl, rfl⟩ ⟨Nat.le_refl _, Nat.le_refl _⟩ (d_X1_copyFrom hq2) ?_
      refine ev_aload_n (pc' := 31) rfl rfl rfl ?_
      refine ev_getQ (pc' := 34) rfl rfl rfl ?_
      refine ev_iload_n (pc' := 35) rfl rfl rfl ?_
      obtain ⟨q3, hq3, h⟩ := Option.bind_eq_some_iff.mp h
      refine ev_V2V (pc' := 38) rfl (by decide) rfl mth_32 ⟨Nat.le_of_ble_eq_true rfl, rfl⟩ ⟨Nat.le_refl _, Nat.le_refl _⟩ (d_X1_liftAll hq3) ?_
      refine ev_aload_n (pc' := 39) rfl rfl rfl ?_
      refine ev_getQ (pc' := 42) rfl rfl rfl ?_
      refine ev_aload_n (pc' := 43) rfl rfl rfl ?_
      refine ev_getQ (pc' := 46) rfl rfl rfl ?_
      refine ev_iload_n (pc' := 47) rfl rfl rfl ?_
      obtain ⟨q4, hq4, h⟩ := Option.bind_eq_some_iff.mp h
      refine ev_V3I (pc' := 50) rfl (by decide) rfl mth_35 ⟨Nat.le_of_ble_eq_true rfl, rfl⟩ ⟨Nat.le_refl _, Nat.le_refl _⟩ (d_X1_layEach hq4) ?_
      refine ev_istore (pc' := 52) rfl rfl (l' := [some (aR 2 i0), some (aR 1 p1), some (aI p2), some (aI v3), some (aI q4.1), x5]) rfl ?_
      refine ev_aload_n (pc' := 53) rfl rfl rfl ?_
      refine ev_getQ (pc' := 56) rfl rfl rfl ?_
      refine ev_iload_n (pc' := 57) rfl rfl rfl ?_
      obtain ⟨q5, hq5, h⟩ := Option.bind_eq_some_iff.mp h
      refine ev_V2I (pc' := 60) rfl (by decide) rfl mth_36 ⟨Nat.le_of_ble_eq_true rfl, rfl⟩ ⟨Nat.le_refl _, Nat.le_refl _⟩ (d_X1_waitedOf hq5) ?_
      refine ev_istore (pc' := 62) rfl rfl (l' := [some (aR 2 i0), some (aR 1 p1), some (aI p2), some (aI v3), some (aI q4.1), some (aI q5)]) rfl ?_
      refine ev_aload_n (pc' := 63) rfl rfl rfl ?_
      refine ev_iload (pc' := 65) rfl rfl rfl ?_
      refine ev_iload_n (pc' := 66) rfl rfl rfl ?_
      refine ev_iload (pc' := 68) rfl rfl rfl ?_
      refine ev_V4I (pc' := 71) rfl (by decide) rfl mth_47 ⟨Nat.le_of_ble_eq_true rfl, rfl⟩ ⟨Nat.le_refl _, Nat.le_refl _⟩ d_X2_isBetter ?_
      refine ev_ifB_eq rfl (pc' := 74) rfl (fun hc => ?_) (fun hc => ?_)
      · have h := (if_neg hc).symm.trans h
        exact e_X2_findMended_91 (hr7 := hr7) hΨ h
      · have h := (if_pos hc).symm.trans h
        refine ev_aload_n (pc' := 75) rfl rfl rfl ?_
        refine ev_iload (pc' := 77) rfl rfl rfl ?_
        refine ev_putI (pc' := 80) rfl rfl ?_
        refine ev_aload_n (pc' := 81) rfl rfl rfl ?_
        refine ev_iload_n (pc' := 82) rfl rfl rfl ?_
        refine ev_putI (pc' := 85) rfl rfl ?_
        refine ev_aload_n (pc' := 86) rfl rfl rfl ?_
        refine ev_iload (pc' := 88) rfl rfl rfl ?_
        refine ev_putI (pc' := 91) rfl rfl ?_
        exact e_X2_findMended_91 (hr7 := hr7) hΨ h
def s_X2_findMended_R7 (i0 : Nat) (p1 : Nat) (p2 : Int32) : Nat → Int32 → (Nat → Nat → Nat → Int32) → (Nat → Nat → Nat → Int64) → Option (GS)
  | 0 => fun _ _ _ => none
  | n + 1 => s_X2_findMended_7 i0 p1 p2 (s_X2_findMended_R7 i0 p1 p2 n)
theorem e_X2_findMended_R7 {d : Nat} {Ψ : Option AV → DS → Prop} {i0 : Nat} {p1 : Nat} {p2 : Int32} {r : GS} (hΨ : Ψ none (L0, r.1, r.2, q0)) : ∀ (n : Nat) {v3 : Int32} {x4 : Option AV} {x5 : Option AV} {g : Nat → Nat → Nat → Int32} {w : Nat → Nat → Nat → Int64}, s_X2_findMended_R7 i0 p1 p2 n v3 g w = some r → Ev (EvM mth (d + 6)) mth c00 sc0 (retP (none) c00 Ψ) (lkp es_45) 7 [some (aR 2 i0), some (aR 1 p1), some (aI p2), some (aI v3), x4, x5] [] (L0, g, w, q0) := by
  intro n
  induction n with
  | zero => intros; rename_i h; exact absurd h (by intro h9; cases h9)
  | succ n ih => intros; rename_i h; exact e_X2_findMended_7 (hr7 := ih) hΨ h
def s_X2_findMended (i0 : Nat) (p1 : Nat) (p2 : Int32) (g : Nat → Nat → Nat → Int32) (w : Nat → Nat → Nat → Int64) : Option (GS) :=
  s_X2_findMended_R7 i0 p1 p2 FU (0 : Int32) (gI g 2 i0 4 (-1 : Int32)) w
set_option maxRecDepth 20000 in
set_option maxHeartbeats 2000000 in
theorem d_X2_findMended {d : Nat} {i0 : Nat} {p1 : Nat} {p2 : Int32} {g : Nat → Nat → Nat → Int32} {w : Nat → Nat → Nat → Int64} {r : GS} (h : s_X2_findMended i0 p1 p2 g w = some r) : Does (EvM mth (d + 7)) 45 [aR 2 i0, aR 1 p1, aI p2] (L0, g, w, q0) none (L0, r.1, r.2, q0) := by
  intro Ψ hΨ
  refine ⟨in_45, mth_45, Nat.le_of_ble_eq_true rfl, ?_⟩
  show Ev (EvM mth (d + 6)) mth c00 sc0 (retP (none) c00 Ψ) (lkp es_45) 0 [some (aR 2 i0), some (aR 1 p1), some (aI p2), none, none, none] [] (L0, g, w, q0)
  unfold s_X2_findMended at h
  refine ev_aload_n (pc' := 1) rfl rfl rfl ?_
  refine ev_iconst (pc' := 2) rfl rfl (v := (-1 : Int32)) (by decide) ?_
  refine ev_putI (pc' := 5) rfl rfl ?_
  refine ev_iconst (pc' := 6) rfl rfl (v := (0 : Int32)) (by decide) ?_
  refine ev_istore_n (pc' := 7) rfl rfl (l' := [some (aR 2 i0), some (aR 1 p1), some (aI p2), some (aI (0 : Int32)), none, none]) rfl ?_
  exact e_X2_findMended_R7 hΨ FU h
def s_X6_breaks_47 (i0 : Nat) (p1 : Int32) (p2 : Int32) (t0 : Int32) (g : Nat → Nat → Nat → Int32) (w : Nat → Nat → Nat → Int64) : Option (Int32 × GS) :=
  some ((t0, g, w))
set_option maxRecDepth 20000 in
set_option maxHeartbeats 2000000 in
theorem e_X6_breaks_47 {d : Nat} {Ψ : Option AV → DS → Prop} {i0 : Nat} {p1 : Int32} {p2 : Int32} {r : Int32 × GS} {g : Nat → Nat → Nat → Int32} {w : Nat → Nat → Nat → Int64} {t0 : Int32} {x0 : Option AV} {x1 : Option AV} {x2 : Option AV} (hΨ : Ψ (some (aI r.1)) (L0, r.2.1, r.2.2, q0)) (h : s_X6_breaks_47 i0 p1 p2 t0 g w = some r) : Ev (EvM mth (d + 6)) mth c00 sc0 (retP (some .int) c00 Ψ) (lkp es_93) 47 [x0, x1, x2] [aI t0] (L0, g, w, q0) := by
  unfold s_X6_breaks_47 at h
  obtain rfl := Option.some.inj h
  exact ev_ireturn rfl ⟨⟨_, rfl, rfl⟩, rfl, rfl, hΨ⟩
def s_X6_breaks_15 (i0 : Nat) (p1 : Int32) (p2 : Int32) (g : Nat → Nat → Nat → Int32) (w : Nat → Nat → Nat → Int64) : Option (Int32 × GS) :=
  some (((-1 : Int32), g, w))
set_option maxRecDepth 20000 in
set_option maxHeartbeats 2000000 in
theorem e_X6_breaks_15 {d : Nat} {Ψ : Option AV → DS → Prop} {i0 : Nat} {p1 : Int32} {p2 : Int32} {r : Int32 × GS} {g : Nat → Nat → Nat → Int32} {w : Nat → Nat → Nat → Int64} {x0 : Option AV} {x1 : Option AV} {x2 : Option AV} (hΨ : Ψ (some (aI r.1)) (L0, r.2.1, r.2.2, q0)) (h : s_X6_breaks_15 i0 p1 p2 g w = some r) : Ev (EvM mth (d + 6)) mth c00 sc0 (retP (some .int) c00 Ψ) (lkp es_93) 15 [x0, x1, x2] [] (L0, g, w, q0) := by
  unfold s_X6_breaks_15 at h
  refine ev_iconst (pc' := 16) rfl rfl (v := (-1 : Int32)) (by decide) ?_
  obtain rfl := Option.some.inj h
  exact ev_ireturn rfl ⟨⟨_, rfl, rfl⟩, rfl, rfl, hΨ⟩
def s_X6_breaks (i0 : Nat) (p1 : Int32) (p2 : Int32) (g : Nat → Nat → Nat → Int32) (w : Nat → Nat → Nat → Int64) : Option (Int32 × GS) :=
  if (s_X6_isTug i0 p1 g w) = true then
    if (s_X6_isHour p2 g w) = true then
      if inR p1 6 = true then
        if (s_X5_isBroken (6 * 0 + p1.toNatClampNeg) p2 g w) = true then
          s_X6_breaks_47 i0 p1 p2 (-2 : Int32) g w
        else
          (s_X1_breakDown 0 p1 p2 g w).bind fun q1 =>
          s_X6_breaks_47 i0 p1 p2 q1.1 q1.2.1 q1.2.2
      else none
    else
      s_X6_breaks_15 i0 p1 p2 g w
  else
    s_X6_breaks_15 i0 p1 p2 g w
set_option maxRecDepth 20000 in
set_option maxHeartbeats 2000000 in
theorem d_X6_breaks {d : Nat} {i0 : Nat} {p1 : Int32} {p2 : Int32} {g : Nat → Nat → Nat → Int32} {w : Nat → Nat → Nat → Int64} {r : Int32 × GS} (h : s_X6_breaks i0 p1 p2 g w = some r) : Does (EvM mth (d + 7)) 93 [aR 6 i0, aI p1, aI p2] (L0, g, w, q0) (some (aI r.1)) (L0, r.2.1, r.2.2, q0) := by
  intro Ψ hΨ
  refine ⟨in_93, mth_93, Nat.le_of_ble_eq_true rfl, ?_⟩
  show Ev (EvM mth (d + 6)) mth c00 sc0 (retP (some .int) c00 Ψ) (lkp es_93) 0 [some (aR 6 i0), some (aI p1), some (aI p2)] [] (L0, g, w, q0)
  unfold s_X6_breaks at h
  refine ev_aload_n (pc' := 1) rfl rfl rfl ?_
  refine ev_iload_n (pc' := 2) rfl rfl rfl ?_
  refine ev_V2I (pc' := 5) rfl (by decide) rfl mth_108 ⟨Nat.le_of_ble_eq_true rfl, rfl⟩ ⟨Nat.le_refl _, Nat.le_refl _⟩ d_X6_isTug ?_
  refine ev_ifB_eq rfl (pc' := 8) rfl (fun hc => ?_) (fun hc => ?_)
  · have h := (if_neg hc).symm.trans h
    exact e_X6_breaks_15 hΨ h
  · have h := (if_pos hc).symm.trans h
    refine ev_iload_n (pc' := 9) rfl rfl rfl ?_
    refine ev_S1I (pc' := 12) rfl (by decide) rfl mth_106 ⟨Nat.le_of_ble_eq_true rfl, rfl⟩ ⟨Nat.le_refl _, Nat.le_refl _⟩ d_X6_isHour ?_
    refine ev_ifB_ne rfl (pc' := 15) rfl (fun hc => ?_) (fun hc => ?_)
    · have h := (if_pos hc).symm.trans h
      refine ev_aload_n (pc' := 18) rfl rfl rfl ?_
      refine ev_getQ (pc' := 21) rfl rfl rfl ?_
      refine ev_getQ (pc' := 24) rfl rfl rfl ?_
      refine ev_iload_n (pc' := 25) rfl rfl rfl ?_
      obtain ⟨hi, h⟩ := gdB h
      refine ev_aald (pc' := 26) rfl rfl (by decide) rfl (inR_vp hi) rfl ?_
      refine ev_iload_n (pc' := 27) rfl rfl rfl ?_
      refine ev_V2I (pc' := 30) rfl (by decide) rfl mth_66 ⟨Nat.le_of_ble_eq_true rfl, rfl⟩ ⟨Nat.le_refl _, Nat.le_refl _⟩ d_X5_isBroken ?_
      refine ev_ifB_eq rfl (pc' := 33) rfl (fun hc => ?_) (fun hc => ?_)
      · have h := (if_neg hc).symm.trans h
        refine ev_aload_n (pc' := 39) rfl rfl rfl ?_
        refine ev_getQ (pc' := 42) rfl rfl rfl ?_
        refine ev_iload_n (pc' := 43) rfl rfl rfl ?_
        refine ev_iload_n (pc' := 44) rfl rfl rfl ?_
        obtain ⟨q1, hq1, h⟩ := Option.bind_eq_some_iff.mp h
        refine ev_V3I (pc' := 47) rfl (by decide) rfl mth_37 ⟨Nat.le_of_ble_eq_true rfl, rfl⟩ ⟨Nat.le_refl _, Nat.le_refl _⟩ (d_X1_breakDown hq1) ?_
        exact e_X6_breaks_47 hΨ h
      · have h := (if_pos hc).symm.trans h
        refine ev_bipush (pc' := 35) rfl rfl (v := (-2 : Int32)) (by decide) ?_
        refine ev_goto (pc' := 47) rfl ?_
        exact e_X6_breaks_47 hΨ h
    · have h := (if_neg hc).symm.trans h
      exact e_X6_breaks_15 hΨ h
def s_X6_storm_19 (i0 : Nat) (p1 : Int32) (p2 : Int32) (g : Nat → Nat → Nat → Int32) (w : Nat → Nat → Nat → Int64) : Option (Int32 × GS) :=
  some (((-1 : Int32), g, w))
set_option maxRecDepth 20000 in
set_option maxHeartbeats 2000000 in
theorem e_X6_storm_19 {d : Nat} {Ψ : Option AV → DS → Prop} {i0 : Nat} {p1 : Int32} {p2 : Int32} {r : Int32 × GS} {g : Nat → Nat → Nat → Int32} {w : Nat → Nat → Nat → Int64} {x0 : Option AV} {x1 : Option AV} {x2 : Option AV} (hΨ : Ψ (some (aI r.1)) (L0, r.2.1, r.2.2, q0)) (h : s_X6_storm_19 i0 p1 p2 g w = some r) : Ev (EvM mth (d + 6)) mth c00 sc0 (retP (some .int) c00 Ψ) (lkp es_95) 19 [x0, x1, x2] [] (L0, g, w, q0) := by
  unfold s_X6_storm_19 at h
  refine ev_iconst (pc' := 20) rfl rfl (v := (-1 : Int32)) (by decide) ?_
  obtain rfl := Option.some.inj h
  exact ev_ireturn rfl ⟨⟨_, rfl, rfl⟩, rfl, rfl, hΨ⟩
def s_X6_storm (i0 : Nat) (p1 : Int32) (p2 : Int32) (g : Nat → Nat → Nat → Int32) (w : Nat → Nat → Nat → Int64) : Option (Int32 × GS) :=
  if (s_X6_isHour p1 g w) = true then
    if (s_X6_isHour p2 g w) = true then
      if p1 ≤ p2 then
        (s_X1_blow 0 p1 p2 g w).bind fun q1 =>
        some ((q1.1, q1.2.1, q1.2.2))
      else
        s_X6_storm_19 i0 p1 p2 g w
    else
      s_X6_storm_19 i0 p1 p2 g w
  else
    s_X6_storm_19 i0 p1 p2 g w
set_option maxRecDepth 20000 in
set_option maxHeartbeats 2000000 in
theorem d_X6_storm {d : Nat} {i0 : Nat} {p1 : Int32} {p2 : Int32} {g : Nat → Nat → Nat → Int32} {w : Nat → Nat → Nat → Int64} {r : Int32 × GS} (h : s_X6_storm i0 p1 p2 g w = some r) : Does (EvM mth (d + 7)) 95 [aR 6 i0, aI p1, aI p2] (L0, g, w, q0) (some (aI r.1)) (L0, r.2.1, r.2.2, q0) := by
  intro Ψ hΨ
  refine ⟨in_95, mth_95, Nat.le_of_ble_eq_true rfl, ?_⟩
  show Ev (EvM mth (d + 6)) mth c00 sc0 (retP (some .int) c00 Ψ) (lkp es_95) 0 [some (aR 6 i0), some (aI p1), some (aI p2)] [] (L0, g, w, q0)
  unfold s_X6_storm at h
  refine ev_iload_n (pc' := 1) rfl rfl rfl ?_
  refine ev_S1I (pc' := 4) rfl (by decide) rfl mth_106 ⟨Nat.le_of_ble_eq_true rfl, rfl⟩ ⟨Nat.le_refl _, Nat.le_refl _⟩ d_X6_isHour ?_
  refine ev_ifB_eq rfl (pc' := 7) rfl (fun hc => ?_) (fun hc => ?_)
  · have h := (if_neg hc).symm.trans h
    exact e_X6_storm_19 hΨ h
  · have h := (if_pos hc).symm.trans h
    refine ev_iload_n (pc' := 8) rfl rfl rfl ?_
    refine ev_S1I (pc' := 11) rfl (by decide) rfl mth_106 ⟨Nat.le_of_ble_eq_true rfl, rfl⟩ ⟨Nat.le_refl _, Nat.le_refl _⟩ d_X6_isHour ?_
    refine ev_ifB_eq rfl (pc' := 14) rfl (fun hc => ?_) (fun hc => ?_)
    · have h := (if_neg hc).symm.trans h
      exact e_X6_storm_19 hΨ h
    · have h := (if_pos hc).symm.trans h
      refine ev_iload_n (pc' := 15) rfl rfl rfl ?_
      refine ev_iload_n (pc' := 16) rfl rfl rfl ?_
      refine ev_icmp_le rfl (pc' := 19) rfl (fun hc => ?_) (fun hc => ?_)
      · have h := (if_pos hc).symm.trans h
        refine ev_aload_n (pc' := 22) rfl rfl rfl ?_
        refine ev_getQ (pc' := 25) rfl rfl rfl ?_
        refine ev_iload_n (pc' := 26) rfl rfl rfl ?_
        refine ev_iload_n (pc' := 27) rfl rfl rfl ?_
        obtain ⟨q1, hq1, h⟩ := Option.bind_eq_some_iff.mp h
        refine ev_V3I (pc' := 30) rfl (by decide) rfl mth_39 ⟨Nat.le_of_ble_eq_true rfl, rfl⟩ ⟨Nat.le_refl _, Nat.le_refl _⟩ (d_X1_blow hq1) ?_
        obtain rfl := Option.some.inj h
        exact ev_ireturn rfl ⟨⟨_, rfl, rfl⟩, rfl, rfl, hΨ⟩
      · have h := (if_neg hc).symm.trans h
        exact e_X6_storm_19 hΨ h
def s_X7_whyNot_41 (i0 : Nat) (p1 : Int32) (p2 : Int32) (p3 : Int32) (t0 : Int32) (g : Nat → Nat → Nat → Int32) (w : Nat → Nat → Nat → Int64) : Option (Int32) :=
  some (t0)
set_option maxRecDepth 20000 in
set_option maxHeartbeats 2000000 in
theorem e_X7_whyNot_41 {d : Nat} {Ψ : Option AV → DS → Prop} {i0 : Nat} {p1 : Int32} {p2 : Int32} {p3 : Int32} {r : Int32} {g : Nat → Nat → Nat → Int32} {w : Nat → Nat → Nat → Int64} {t0 : Int32} {x0 : Option AV} {x1 : Option AV} {x2 : Option AV} {x3 : Option AV} {x4 : Option AV} (hΨ : Ψ (some (aI r)) (L0, g, w, q0)) (h : s_X7_whyNot_41 i0 p1 p2 p3 t0 g w = some r) : Ev (EvM mth (d + 6)) mth c00 sc0 (retP (some .int) c00 Ψ) (lkp es_150) 41 [x0, x1, x2, x3, x4] [aI t0] (L0, g, w, q0) := by
  unfold s_X7_whyNot_41 at h
  obtain rfl := Option.some.inj h
  exact ev_ireturn rfl ⟨⟨_, rfl, rfl⟩, rfl, rfl, hΨ⟩
def s_X7_whyNot_28 (i0 : Nat) (p1 : Int32) (p2 : Int32) (p3 : Int32) (v4 : Int32) (g : Nat → Nat → Nat → Int32) (w : Nat → Nat → Nat → Int64) : Option (Int32) :=
  if v4 ≠ (13 : Int32) then
    s_X7_whyNot_41 i0 p1 p2 p3 v4 g w
  else
    s_X7_whyNot_41 i0 p1 p2 p3 (0 : Int32) g w
set_option maxRecDepth 20000 in
set_option maxHeartbeats 2000000 in
theorem e_X7_whyNot_28 {d : Nat} {Ψ : Option AV → DS → Prop} {i0 : Nat} {p1 : Int32} {p2 : Int32} {p3 : Int32} {r : Int32} {g : Nat → Nat → Nat → Int32} {w : Nat → Nat → Nat → Int64} {v4 : Int32} {x0 : Option AV} {x1 : Option AV} {x2 : Option AV} {x3 : Option AV} (hΨ : Ψ (some (aI r)) (L0, g, w, q0)) (h : s_X7_whyNot_28 i0 p1 p2 p3 v4 g w = some r) : Ev (EvM mth (d + 6)) mth c00 sc0 (retP (some .int) c00 Ψ) (lkp es_150) 28 [x0, x1, x2, x3, some (aI v4)] [] (L0, g, w, q0) := by
  unfold s_X7_whyNot_28 at h
  refine ev_iload (pc' := 30) rfl rfl rfl ?_
  refine ev_bipush (pc' := 32) rfl rfl (v := (13 : Int32)) (by decide) ?_
  refine ev_icmp_ne rfl (pc' := 35) rfl (fun hc => ?_) (fun hc => ?_)
  · have h := (if_pos hc).symm.trans h
    refine ev_iload (pc' := 41) rfl rfl rfl ?_
    exact e_X7_whyNot_41 hΨ h
  · have h := (if_neg hc).symm.trans h
    refine ev_iconst (pc' := 36) rfl rfl (v := (0 : Int32)) (by decide) ?_
    refine ev_goto (pc' := 41) rfl ?_
    exact e_X7_whyNot_41 hΨ h
def s_X7_whyNot_3 (i0 : Nat) (p1 : Int32) (p2 : Int32) (p3 : Int32) (rec3 : Int32 → (Nat → Nat → Nat → Int32) → (Nat → Nat → Nat → Int64) → Option (Int32)) (v4 : Int32) (g : Nat → Nat → Nat → Int32) (w : Nat → Nat → Nat → Int64) : Option (Int32) :=
  if (13 : Int32) ≤ v4 then
    s_X7_whyNot_28 i0 p1 p2 p3 v4 g w
  else
    (s_X7_failsBy i0 v4 p1 p2 p3 g w).bind fun q1 =>
    if q1 = true then
      s_X7_whyNot_28 i0 p1 p2 p3 v4 g w
    else
      rec3 (v4 + 1) g w
set_option maxRecDepth 20000 in
set_option maxHeartbeats 2000000 in
theorem e_X7_whyNot_3 {d : Nat} {Ψ : Option AV → DS → Prop} {i0 : Nat} {p1 : Int32} {p2 : Int32} {p3 : Int32} {rec3 : Int32 → (Nat → Nat → Nat → Int32) → (Nat → Nat → Nat → Int64) → Option (Int32)} {r : Int32} {g : Nat → Nat → Nat → Int32} {w : Nat → Nat → Nat → Int64} {v4 : Int32} (hr3 : ∀ {v4 : Int32} , rec3 v4 g w = some r → Ev (EvM mth (d + 6)) mth c00 sc0 (retP (some .int) c00 Ψ) (lkp es_150) 3 [some (aR 7 i0), some (aI p1), some (aI p2), some (aI p3), some (aI v4)] [] (L0, g, w, q0)) (hΨ : Ψ (some (aI r)) (L0, g, w, q0)) (h : s_X7_whyNot_3 i0 p1 p2 p3 rec3 v4 g w = some r) : Ev (EvM mth (d + 6)) mth c00 sc0 (retP (some .int) c00 Ψ) (lkp es_150) 3 [some (aR 7 i0), some (aI p1), some (aI p2), some (aI p3), some (aI v4)] [] (L0, g, w, q0) := by
  unfold s_X7_whyNot_3 at h
  refine ev_iload (pc' := 5) rfl rfl rfl ?_
  refine ev_bipush (pc' := 7) rfl rfl (v := (13 : Int32)) (by decide) ?_
  refine ev_icmp_ge rfl (pc' := 10) rfl (fun hc => ?_) (fun hc => ?_)
  · have h := (if_pos hc).symm.trans h
    exact e_X7_whyNot_28 hΨ h
  · have h := (if_neg hc).symm.trans h
    refine ev_aload_n (pc' := 11) rfl rfl rfl ?_
    refine ev_iload (pc' := 13) rfl rfl rfl ?_
    refine ev_iload_n (pc' := 14) rfl rfl rfl ?_
    refine ev_iload_n (pc' := 15) rfl rfl rfl ?_
    refine ev_iload_n (pc' := 16) rfl rfl rfl ?_
    obtain ⟨q1, hq1, h⟩ := Option.bind_eq_some_iff.mp h
    refine ev_V5I (pc' := 19) rfl (by decide) rfl mth_149 ⟨Nat.le_of_ble_eq_true rfl, rfl⟩ ⟨Nat.le_refl _, Nat.le_refl _⟩ (d_X7_failsBy hq1) ?_
    refine ev_ifB_ne rfl (pc' := 22) rfl (fun hc => ?_) (fun hc => ?_)
    · have h := (if_pos hc).symm.trans h
      exact e_X7_whyNot_28 hΨ h
    · have h := (if_neg hc).symm.trans h
      refine ev_iinc (pc' := 25) rfl rfl (l' := [some (aR 7 i0), some (aI p1), some (aI p2), some (aI p3), some (aI (v4 + 1))]) rfl (ii_1 _) rfl ?_
      refine ev_goto (pc' := 3) rfl ?_
      exact hr3 h
def s_X7_whyNot_R3 (i0 : Nat) (p1 : Int32) (p2 : Int32) (p3 : Int32) : Nat → Int32 → (Nat → Nat → Nat → Int32) → (Nat → Nat → Nat → Int64) → Option (Int32)
  | 0 => fun _ _ _ => none
  | n + 1 => s_X7_whyNot_3 i0 p1 p2 p3 (s_X7_whyNot_R3 i0 p1 p2 p3 n)
theorem e_X7_whyNot_R3 {d : Nat} {Ψ : Option AV → DS → Prop} {i0 : Nat} {p1 : Int32} {p2 : Int32} {p3 : Int32} {r : Int32} {g : Nat → Nat → Nat → Int32} {w : Nat → Nat → Nat → Int64} (hΨ : Ψ (some (aI r)) (L0, g, w, q0)) : ∀ (n : Nat) {v4 : Int32} , s_X7_whyNot_R3 i0 p1 p2 p3 n v4 g w = some r → Ev (EvM mth (d + 6)) mth c00 sc0 (retP (some .int) c00 Ψ) (lkp es_150) 3 [some (aR 7 i0), some (aI p1), some (aI p2), some (aI p3), some (aI v4)] [] (L0, g, w, q0) := by
  intro n
  induction n with
  | zero => intros; rename_i h; exact absurd h (by intro h9; cases h9)
  | succ n ih => intros; rename_i h; exact e_X7_whyNot_3 (hr3 := ih) hΨ h
def s_X7_whyNot (i0 : Nat) (p1 : Int32) (p2 : Int32) (p3 : Int32) (g : Nat → Nat → Nat → Int32) (w : Nat → Nat → Nat → Int64) : Option (Int32) :=
  s_X7_whyNot_R3 i0 p1 p2 p3 FU (1 : Int32) g w
set_option maxRecDepth 20000 in
set_option maxHeartbeats 2000000 in
theorem d_X7_whyNot {d : Nat} {i0 : Nat} {p1 : Int32} {p2 : Int32} {p3 : Int32} {g : Nat → Nat → Nat → Int32} {w : Nat → Nat → Nat → Int64} {r : Int32} (h : s_X7_whyNot i0 p1 p2 p3 g w = some r) : Does (EvM mth (d + 7)) 150 [aR 7 i0, aI p1, aI p2, aI p3] (L0, g, w, q0) (some (aI r)) (L0, g, w, q0) := by
  intro Ψ hΨ
  refine ⟨in_150, mth_150, Nat.le_of_ble_eq_true rfl, ?_⟩
  show Ev (EvM mth (d + 6)) mth c00 sc0 (retP (some .int) c00 Ψ) (lkp es_150) 0 [some (aR 7 i0), some (aI p1), some (aI p2), some (aI p3), none] [] (L0, g, w, q0)
  unfold s_X7_whyNot at h
  refine ev_iconst (pc' := 1) rfl rfl (v := (1 : Int32)) (by decide) ?_
  refine ev_istore (pc' := 3) rfl rfl (l' := [some (aR 7 i0), some (aI p1), some (aI p2), some (aI p3), some (aI (1 : Int32))]) rfl ?_
  exact e_X7_whyNot_R3 hΨ FU h
def s_X7_best_59 (i0 : Nat) (p1 : Int32) (p2 : Int32) (t0 : Int32) (g : Nat → Nat → Nat → Int32) (w : Nat → Nat → Nat → Int64) : Option (Int32 × GS) :=
  some ((t0, g, w))
set_option maxRecDepth 20000 in
set_option maxHeartbeats 2000000 in
theorem e_X7_best_59 {d : Nat} {Ψ : Option AV → DS → Prop} {i0 : Nat} {p1 : Int32} {p2 : Int32} {r : Int32 × GS} {g : Nat → Nat → Nat → Int32} {w : Nat → Nat → Nat → Int64} {t0 : Int32} {x0 : Option AV} {x1 : Option AV} {x2 : Option AV} (hΨ : Ψ (some (aI r.1)) (L0, r.2.1, r.2.2, q0)) (h : s_X7_best_59 i0 p1 p2 t0 g w = some r) : Ev (EvM mth (d + 6)) mth c00 sc0 (retP (some .int) c00 Ψ) (lkp es_160) 59 [x0, x1, x2] [aI t0] (L0, g, w, q0) := by
  unfold s_X7_best_59 at h
  obtain rfl := Option.some.inj h
  exact ev_ireturn rfl ⟨⟨_, rfl, rfl⟩, rfl, rfl, hΨ⟩
def s_X7_best_18 (i0 : Nat) (p1 : Int32) (p2 : Int32) (g : Nat → Nat → Nat → Int32) (w : Nat → Nat → Nat → Int64) : Option (Int32 × GS) :=
  some (((-1 : Int32), g, w))
set_option maxRecDepth 20000 in
set_option maxHeartbeats 2000000 in
theorem e_X7_best_18 {d : Nat} {Ψ : Option AV → DS → Prop} {i0 : Nat} {p1 : Int32} {p2 : Int32} {r : Int32 × GS} {g : Nat → Nat → Nat → Int32} {w : Nat → Nat → Nat → Int64} {x0 : Option AV} {x1 : Option AV} {x2 : Option AV} (hΨ : Ψ (some (aI r.1)) (L0, r.2.1, r.2.2, q0)) (h : s_X7_best_18 i0 p1 p2 g w = some r) : Ev (EvM mth (d + 6)) mth c00 sc0 (retP (some .int) c00 Ψ) (lkp es_160) 18 [x0, x1, x2] [] (L0, g, w, q0) := by
  unfold s_X7_best_18 at h
  refine ev_iconst (pc' := 19) rfl rfl (v := (-1 : Int32)) (by decide) ?_
  obtain rfl := Option.some.inj h
  exact ev_ireturn rfl ⟨⟨_, rfl, rfl⟩, rfl, rfl, hΨ⟩
def s_X7_best (i0 : Nat) (p1 : Int32) (p2 : Int32) (g : Nat → Nat → Nat → Int32) (w : Nat → Nat → Nat → Int64) : Option (Int32 × GS) :=
  if (s_X7_isShip i0 p1 g w) = true then
    if (s_X7_in p2.toInt64 (0 : Int64) (1 : Int64) g w) = true then
      (s_X7_hasJob i0 p1 g w).bind fun q1 =>
      if q1 = true then
        some (((-2 : Int32), g, w))
      else
        (s_X7_finds i0 p1 g w).bind fun q2 =>
        if q2.1 = true then
          if p2 ≠ 0 then
            s_X7_best_59 i0 p1 p2 (q2.2.1 7 i0 11) q2.2.1 q2.2.2
          else
            s_X7_best_59 i0 p1 p2 (q2.2.1 7 i0 10) q2.2.1 q2.2.2
        else
          s_X7_best_59 i0 p1 p2 (-4 : Int32) q2.2.1 q2.2.2
    else
      s_X7_best_18 i0 p1 p2 g w
  else
    s_X7_best_18 i0 p1 p2 g w
set_option maxRecDepth 20000 in
set_option maxHeartbeats 2000000 in
theorem d_X7_best {d : Nat} {i0 : Nat} {p1 : Int32} {p2 : Int32} {g : Nat → Nat → Nat → Int32} {w : Nat → Nat → Nat → Int64} {r : Int32 × GS} (h : s_X7_best i0 p1 p2 g w = some r) : Does (EvM mth (d + 7)) 160 [aR 7 i0, aI p1, aI p2] (L0, g, w, q0) (some (aI r.1)) (L0, r.2.1, r.2.2, q0) := by
  intro Ψ hΨ
  refine ⟨in_160, mth_160, Nat.le_of_ble_eq_true rfl, ?_⟩
  show Ev (EvM mth (d + 6)) mth c00 sc0 (retP (some .int) c00 Ψ) (lkp es_160) 0 [some (aR 7 i0), some (aI p1), some (aI p2)] [] (L0, g, w, q0)
  unfold s_X7_best at h
  refine ev_aload_n (pc' := 1) rfl rfl rfl ?_
  refine ev_iload_n (pc' := 2) rfl rfl rfl ?_
  refine ev_V2I (pc' := 5) rfl (by decide) rfl mth_120 ⟨Nat.le_of_ble_eq_true rfl, rfl⟩ ⟨Nat.le_refl _, Nat.le_refl _⟩ d_X7_isShip ?_
  refine ev_ifB_eq rfl (pc' := 8) rfl (fun hc => ?_) (fun hc => ?_)
  · have h := (if_neg hc).symm.trans h
    exact e_X7_best_18 hΨ h
  · have h := (if_pos hc).symm.trans h
    refine ev_iload_n (pc' := 9) rfl rfl rfl ?_
    refine ev_i2l (pc' := 10) rfl rfl ?_
    refine ev_lconst (pc' := 11) rfl rfl (v := (0 : Int64)) (by decide) ?_
    refine ev_lconst (pc' := 12) rfl rfl (v := (1 : Int64)) (by decide) ?_
    refine ev_S3I (pc' := 15) rfl (by decide) rfl mth_115 ⟨Nat.le_of_ble_eq_true rfl, rfl⟩ ⟨Nat.le_refl _, Nat.le_refl _⟩ d_X7_in ?_
    refine ev_ifB_ne rfl (pc' := 18) rfl (fun hc => ?_) (fun hc => ?_)
    · have h := (if_pos hc).symm.trans h
      refine ev_aload_n (pc' := 21) rfl rfl rfl ?_
      refine ev_iload_n (pc' := 22) rfl rfl rfl ?_
      obtain ⟨q1, hq1, h⟩ := Option.bind_eq_some_iff.mp h
      refine ev_V2I (pc' := 25) rfl (by decide) rfl mth_125 ⟨Nat.le_of_ble_eq_true rfl, rfl⟩ ⟨Nat.le_refl _, Nat.le_refl _⟩ (d_X7_hasJob hq1) ?_
      refine ev_ifB_eq rfl (pc' := 28) rfl (fun hc => ?_) (fun hc => ?_)
      · have h := (if_neg hc).symm.trans h
        refine ev_aload_n (pc' := 32) rfl rfl rfl ?_
        refine ev_iload_n (pc' := 33) rfl rfl rfl ?_
        obtain ⟨q2, hq2, h⟩ := Option.bind_eq_some_iff.mp h
        refine ev_V2I (pc' := 36) rfl (by decide) rfl mth_159 ⟨Nat.le_of_ble_eq_true rfl, rfl⟩ ⟨Nat.le_refl _, Nat.le_refl _⟩ (d_X7_finds hq2) ?_
        refine ev_ifB_ne rfl (pc' := 39) rfl (fun hc => ?_) (fun hc => ?_)
        · have h := (if_pos hc).symm.trans h
          refine ev_iload_n (pc' := 45) rfl rfl rfl ?_
          refine ev_if_ne rfl (pc' := 48) rfl (fun hc => ?_) (fun hc => ?_)
          · have h := (if_pos hc).symm.trans h
            refine ev_aload_n (pc' := 56) rfl rfl rfl ?_
            refine ev_getI (pc' := 59) rfl rfl ?_
            exact e_X7_best_59 hΨ h
          · have h := (if_neg hc).symm.trans h
            refine ev_aload_n (pc' := 49) rfl rfl rfl ?_
            refine ev_getI (pc' := 52) rfl rfl ?_
            refine ev_goto (pc' := 59) rfl ?_
            exact e_X7_best_59 hΨ h
        · have h := (if_neg hc).symm.trans h
          refine ev_bipush (pc' := 41) rfl rfl (v := (-4 : Int32)) (by decide) ?_
          refine ev_goto (pc' := 59) rfl ?_
          exact e_X7_best_59 hΨ h
      · have h := (if_pos hc).symm.trans h
        refine ev_bipush (pc' := 30) rfl rfl (v := (-2 : Int32)) (by decide) ?_
        obtain rfl := Option.some.inj h
        exact ev_ireturn rfl ⟨⟨_, rfl, rfl⟩, rfl, rfl, hΨ⟩
    · have h := (if_neg hc).symm.trans h
      exact e_X7_best_18 hΨ h
def s_X7_plans_48 (i0 : Nat) (p1 : Int32) (p2 : Int32) (rec5 : Int32 → Int32 → (Nat → Nat → Nat → Int32) → (Nat → Nat → Nat → Int64) → Option (Int32 × GS)) (v3 : Int32) (v4 : Int32) (g : Nat → Nat → Nat → Int32) (w : Nat → Nat → Nat → Int64) : Option (Int32 × GS) :=
  rec5 v3 (v4 + 1) g w
set_option maxRecDepth 20000 in
set_option maxHeartbeats 2000000 in
theorem e_X7_plans_48 {d : Nat} {Ψ : Option AV → DS → Prop} {i0 : Nat} {p1 : Int32} {p2 : Int32} {rec5 : Int32 → Int32 → (Nat → Nat → Nat → Int32) → (Nat → Nat → Nat → Int64) → Option (Int32 × GS)} {r : Int32 × GS} {g : Nat → Nat → Nat → Int32} {w : Nat → Nat → Nat → Int64} {v3 : Int32} {v4 : Int32} {x5 : Option AV} (hr5 : ∀ {v3 : Int32} {v4 : Int32} {x5 : Option AV} {g : Nat → Nat → Nat → Int32} {w : Nat → Nat → Nat → Int64} , rec5 v3 v4 g w = some r → Ev (EvM mth (d + 6)) mth c00 sc0 (retP (some .int) c00 Ψ) (lkp es_167) 5 [some (aR 7 i0), some (aI p1), some (aI p2), some (aI v3), some (aI v4), x5] [] (L0, g, w, q0)) (hΨ : Ψ (some (aI r.1)) (L0, r.2.1, r.2.2, q0)) (h : s_X7_plans_48 i0 p1 p2 rec5 v3 v4 g w = some r) : Ev (EvM mth (d + 6)) mth c00 sc0 (retP (some .int) c00 Ψ) (lkp es_167) 48 [some (aR 7 i0), some (aI p1), some (aI p2), some (aI v3), some (aI v4), x5] [] (L0, g, w, q0) := by
  unfold s_X7_plans_48 at h
  refine ev_iinc (pc' := 51) rfl rfl (l' := [some (aR 7 i0), some (aI p1), some (aI p2), some (aI v3), some (aI (v4 + 1)), x5]) rfl (ii_1 _) rfl ?_
  refine ev_goto (pc' := 5) rfl ?_
  exact hr5 h
def s_X7_plans_5 (i0 : Nat) (p1 : Int32) (p2 : Int32) (rec5 : Int32 → Int32 → (Nat → Nat → Nat → Int32) → (Nat → Nat → Nat → Int64) → Option (Int32 × GS)) (v3 : Int32) (v4 : Int32) (g : Nat → Nat → Nat → Int32) (w : Nat → Nat → Nat → Int64) : Option (Int32 × GS) :=
  if p1 ≤ v4 then
    some ((v3, g, w))
  else
    (s_X7_finds i0 ((p2 >>> (((3 : Int32) * v4) &&& 31)) &&& (7 : Int32)) g w).bind fun q1 =>
    if q1.1 = true then
      (s_X7_lays i0 ((p2 >>> (((3 : Int32) * v4) &&& 31)) &&& (7 : Int32)) (q1.2.1 7 i0 10) (q1.2.1 7 i0 11) q1.2.1 q1.2.2).bind fun q2 =>
      s_X7_plans_48 i0 p1 p2 rec5 (v3 + 1) v4 q2.1 q2.2
    else
      s_X7_plans_48 i0 p1 p2 rec5 v3 v4 q1.2.1 q1.2.2
set_option maxRecDepth 20000 in
set_option maxHeartbeats 2000000 in
theorem e_X7_plans_5 {d : Nat} {Ψ : Option AV → DS → Prop} {i0 : Nat} {p1 : Int32} {p2 : Int32} {rec5 : Int32 → Int32 → (Nat → Nat → Nat → Int32) → (Nat → Nat → Nat → Int64) → Option (Int32 × GS)} {r : Int32 × GS} {g : Nat → Nat → Nat → Int32} {w : Nat → Nat → Nat → Int64} {v3 : Int32} {v4 : Int32} {x5 : Option AV} (hr5 : ∀ {v3 : Int32} {v4 : Int32} {x5 : Option AV} {g : Nat → Nat → Nat → Int32} {w : Nat → Nat → Nat → Int64} , rec5 v3 v4 g w = some r → Ev (EvM mth (d + 6)) mth c00 sc0 (retP (some .int) c00 Ψ) (lkp es_167) 5 [some (aR 7 i0), some (aI p1), some (aI p2), some (aI v3), some (aI v4), x5] [] (L0, g, w, q0)) (hΨ : Ψ (some (aI r.1)) (L0, r.2.1, r.2.2, q0)) (h : s_X7_plans_5 i0 p1 p2 rec5 v3 v4 g w = some r) : Ev (EvM mth (d + 6)) mth c00 sc0 (retP (some .int) c00 Ψ) (lkp es_167) 5 [some (aR 7 i0), some (aI p1), some (aI p2), some (aI v3), some (aI v4), x5] [] (L0, g, w, q0) := by
  unfold s_X7_plans_5 at h
  refine ev_iload (pc' := 7) rfl rfl rfl ?_
  refine ev_iload_n (pc' := 8) rfl rfl rfl ?_
  refine ev_icmp_ge rfl (pc' := 11) rfl (fun hc => ?_) (fun hc => ?_)
  · have h := (if_pos hc).symm.trans h
    refine ev_iload_n (pc' := 55) rfl rfl rfl ?_
    obtain rfl := Option.some.inj h
    exact ev_ireturn rfl ⟨⟨_, rfl, rfl⟩, rfl, rfl, hΨ⟩
  · have h := (if_neg hc).symm.trans h
    refine ev_iload_n (pc' := 12) rfl rfl rfl ?_
    refine ev_iconst (pc' := 13) rfl rfl (v := (3 : Int32)) (by decide) ?_
    refine ev_iload (pc' := 15) rfl rfl rfl ?_
    refine ev_imul (pc' := 16) rfl rfl ?_
    refine ev_ishr (pc' := 17) rfl rfl ?_
    refine ev_bipush (pc' := 19) rfl rfl (v := (7 : Int32)) (by decide) ?_
    refine ev_iand (pc' := 20) rfl rfl ?_
    refine ev_istore (pc' := 22) rfl rfl (l' := [some (aR 7 i0), some (aI p1), some (aI p2), some (aI v3), some (aI v4), some (aI ((p2 >>> (((3 : Int32) * v4) &&& 31)) &&& (7 : Int32)))]) rfl ?_
    refine ev_aload_n (pc' := 23) rfl rfl rfl ?_
    refine ev_iload (pc' := 25) rfl rfl rfl ?_
    obtain ⟨q1, hq1, h⟩ := Option.bind_eq_some_iff.mp h
    refine ev_V2I (pc' := 28) rfl (by decide) rfl mth_159 ⟨Nat.le_of_ble_eq_true rfl, rfl⟩ ⟨Nat.le_refl _, Nat.le_refl _⟩ (d_X7_finds hq1) ?_
    refine ev_ifB_eq rfl (pc' := 31) rfl (fun hc => ?_) (fun hc => ?_)
    · have h := (if_neg hc).symm.trans h
      exact e_X7_plans_48 (hr5 := hr5) hΨ h
    · have h := (if_pos hc).symm.trans h
      refine ev_aload_n (pc' := 32) rfl rfl rfl ?_
      refine ev_iload (pc' := 34) rfl rfl rfl ?_
      refine ev_aload_n (pc' := 35) rfl rfl rfl ?_
      refine ev_getI (pc' := 38) rfl rfl ?_
      refine ev_aload_n (pc' := 39) rfl rfl rfl ?_
      refine ev_getI (pc' := 42) rfl rfl ?_
      obtain ⟨q2, hq2, h⟩ := Option.bind_eq_some_iff.mp h
      refine ev_V4V (pc' := 45) rfl (by decide) rfl mth_153 ⟨Nat.le_of_ble_eq_true rfl, rfl⟩ ⟨Nat.le_refl _, Nat.le_refl _⟩ (d_X7_lays hq2) ?_
      refine ev_iinc (pc' := 48) rfl rfl (l' := [some (aR 7 i0), some (aI p1), some (aI p2), some (aI (v3 + 1)), some (aI v4), some (aI ((p2 >>> (((3 : Int32) * v4) &&& 31)) &&& (7 : Int32)))]) rfl (ii_1 _) rfl ?_
      exact e_X7_plans_48 (hr5 := hr5) hΨ h
def s_X7_plans_R5 (i0 : Nat) (p1 : Int32) (p2 : Int32) : Nat → Int32 → Int32 → (Nat → Nat → Nat → Int32) → (Nat → Nat → Nat → Int64) → Option (Int32 × GS)
  | 0 => fun _ _ _ _ => none
  | n + 1 => s_X7_plans_5 i0 p1 p2 (s_X7_plans_R5 i0 p1 p2 n)
theorem e_X7_plans_R5 {d : Nat} {Ψ : Option AV → DS → Prop} {i0 : Nat} {p1 : Int32} {p2 : Int32} {r : Int32 × GS} (hΨ : Ψ (some (aI r.1)) (L0, r.2.1, r.2.2, q0)) : ∀ (n : Nat) {v3 : Int32} {v4 : Int32} {x5 : Option AV} {g : Nat → Nat → Nat → Int32} {w : Nat → Nat → Nat → Int64}, s_X7_plans_R5 i0 p1 p2 n v3 v4 g w = some r → Ev (EvM mth (d + 6)) mth c00 sc0 (retP (some .int) c00 Ψ) (lkp es_167) 5 [some (aR 7 i0), some (aI p1), some (aI p2), some (aI v3), some (aI v4), x5] [] (L0, g, w, q0) := by
  intro n
  induction n with
  | zero => intros; rename_i h; exact absurd h (by intro h9; cases h9)
  | succ n ih => intros; rename_i h; exact e_X7_plans_5 (hr5 := ih) hΨ h
def s_X7_plans (i0 : Nat) (p1 : Int32) (p2 : Int32) (g : Nat → Nat → Nat → Int32) (w : Nat → Nat → Nat → Int64) : Option (Int32 × GS) :=
  s_X7_plans_R5 i0 p1 p2 FU (0 : Int32) (0 : Int32) g w
set_option maxRecDepth 20000 in
set_option maxHeartbeats 2000000 in
theorem d_X7_plans {d : Nat} {i0 : Nat} {p1 : Int32} {p2 : Int32} {g : Nat → Nat → Nat → Int32} {w : Nat → Nat → Nat → Int64} {r : Int32 × GS} (h : s_X7_plans i0 p1 p2 g w = some r) : Does (EvM mth (d + 7)) 167 [aR 7 i0, aI p1, aI p2] (L0, g, w, q0) (some (aI r.1)) (L0, r.2.1, r.2.2, q0) := by
  intro Ψ hΨ
  refine ⟨in_167, mth_167, Nat.le_of_ble_eq_true rfl, ?_⟩
  show Ev (EvM mth (d + 6)) mth c00 sc0 (retP (some .int) c00 Ψ) (lkp es_167) 0 [some (aR 7 i0), some (aI p1), some (aI p2), none, none, none] [] (L0, g, w, q0)
  unfold s_X7_plans at h
  refine ev_iconst (pc' := 1) rfl rfl (v := (0 : Int32)) (by decide) ?_
  refine ev_istore_n (pc' := 2) rfl rfl (l' := [some (aR 7 i0), some (aI p1), some (aI p2), some (aI (0 : Int32)), none, none]) rfl ?_
  refine ev_iconst (pc' := 3) rfl rfl (v := (0 : Int32)) (by decide) ?_
  refine ev_istore (pc' := 5) rfl rfl (l' := [some (aR 7 i0), some (aI p1), some (aI p2), some (aI (0 : Int32)), some (aI (0 : Int32)), none]) rfl ?_
  exact e_X7_plans_R5 hΨ FU h
def s_X7_tries_75 (i0 : Nat) (p1 : Int32) (p2 : Int32) (rec34 : Int32 → Int32 → (Nat → Nat → Nat → Int32) → (Nat → Nat → Nat → Int64) → Option (Int32 × GS)) (v3 : Int32) (v4 : Int32) (g : Nat → Nat → Nat → Int32) (w : Nat → Nat → Nat → Int64) : Option (Int32 × GS) :=
  rec34 v3 (v4 + 1) g w
set_option maxRecDepth 20000 in
set_option maxHeartbeats 2000000 in
theorem e_X7_tries_75 {d : Nat} {Ψ : Option AV → DS → Prop} {i0 : Nat} {p1 : Int32} {p2 : Int32} {rec34 : Int32 → Int32 → (Nat → Nat → Nat → Int32) → (Nat → Nat → Nat → Int64) → Option (Int32 × GS)} {r : Int32 × GS} {g : Nat → Nat → Nat → Int32} {w : Nat → Nat → Nat → Int64} {v3 : Int32} {v4 : Int32} {x2 : Option AV} (hr34 : ∀ {v3 : Int32} {v4 : Int32} {x2 : Option AV} {g : Nat → Nat → Nat → Int32} {w : Nat → Nat → Nat → Int64} , rec34 v3 v4 g w = some r → Ev (EvM mth (d + 6)) mth c00 sc0 (retP (some .int) c00 Ψ) (lkp es_172) 34 [some (aR 7 i0), some (aI p1), x2, some (aI v3), some (aI v4)] [] (L0, g, w, q0)) (hΨ : Ψ (some (aI r.1)) (L0, r.2.1, r.2.2, q0)) (h : s_X7_tries_75 i0 p1 p2 rec34 v3 v4 g w = some r) : Ev (EvM mth (d + 6)) mth c00 sc0 (retP (some .int) c00 Ψ) (lkp es_172) 75 [some (aR 7 i0), some (aI p1), x2, some (aI v3), some (aI v4)] [] (L0, g, w, q0) := by
  unfold s_X7_tries_75 at h
  refine ev_iinc (pc' := 78) rfl rfl (l' := [some (aR 7 i0), some (aI p1), x2, some (aI v3), some (aI (v4 + 1))]) rfl (ii_1 _) rfl ?_
  refine ev_goto (pc' := 34) rfl ?_
  exact hr34 h
def s_X7_tries_34 (i0 : Nat) (p1 : Int32) (p2 : Int32) (rec34 : Int32 → Int32 → (Nat → Nat → Nat → Int32) → (Nat → Nat → Nat → Int64) → Option (Int32 × GS)) (v3 : Int32) (v4 : Int32) (g : Nat → Nat → Nat → Int32) (w : Nat → Nat → Nat → Int64) : Option (Int32 × GS) :=
  if p1 ≤ v4 then
    some ((v3, g, w))
  else
    (s_X7_hasJob i0 v4 g w).bind fun q1 =>
    if q1 = true then
      s_X7_tries_75 i0 p1 p2 rec34 v3 v4 g w
    else
      (s_X7_finds i0 v4 g w).bind fun q2 =>
      if q2.1 = true then
        (s_X7_lays i0 v4 (q2.2.1 7 i0 10) (q2.2.1 7 i0 11) q2.2.1 q2.2.2).bind fun q3 =>
        s_X7_tries_75 i0 p1 p2 rec34 (v3 + 1) v4 q3.1 q3.2
      else
        s_X7_tries_75 i0 p1 p2 rec34 v3 v4 q2.2.1 q2.2.2
set_option maxRecDepth 20000 in
set_option maxHeartbeats 2000000 in
theorem e_X7_tries_34 {d : Nat} {Ψ : Option AV → DS → Prop} {i0 : Nat} {p1 : Int32} {p2 : Int32} {rec34 : Int32 → Int32 → (Nat → Nat → Nat → Int32) → (Nat → Nat → Nat → Int64) → Option (Int32 × GS)} {r : Int32 × GS} {g : Nat → Nat → Nat → Int32} {w : Nat → Nat → Nat → Int64} {v3 : Int32} {v4 : Int32} {x2 : Option AV} (hr34 : ∀ {v3 : Int32} {v4 : Int32} {x2 : Option AV} {g : Nat → Nat → Nat → Int32} {w : Nat → Nat → Nat → Int64} , rec34 v3 v4 g w = some r → Ev (EvM mth (d + 6)) mth c00 sc0 (retP (some .int) c00 Ψ) (lkp es_172) 34 [some (aR 7 i0), some (aI p1), x2, some (aI v3), some (aI v4)] [] (L0, g, w, q0)) (hΨ : Ψ (some (aI r.1)) (L0, r.2.1, r.2.2, q0)) (h : s_X7_tries_34 i0 p1 p2 rec34 v3 v4 g w = some r) : Ev (EvM mth (d + 6)) mth c00 sc0 (retP (some .int) c00 Ψ) (lkp es_172) 34 [some (aR 7 i0), some (aI p1), x2, some (aI v3), some (aI v4)] [] (L0, g, w, q0) := by
  unfold s_X7_tries_34 at h
  refine ev_iload (pc' := 36) rfl rfl rfl ?_
  refine ev_iload_n (pc' := 37) rfl rfl rfl ?_
  refine ev_icmp_ge rfl (pc' := 40) rfl (fun hc => ?_) (fun hc => ?_)
  · have h := (if_pos hc).symm.trans h
    refine ev_iload_n (pc' := 82) rfl rfl rfl ?_
    obtain rfl := Option.some.inj h
    exact ev_ireturn rfl ⟨⟨_, rfl, rfl⟩, rfl, rfl, hΨ⟩
  · have h := (if_neg hc).symm.trans h
    refine ev_aload_n (pc' := 41) rfl rfl rfl ?_
    refine ev_iload (pc' := 43) rfl rfl rfl ?_
    obtain ⟨q1, hq1, h⟩ := Option.bind_eq_some_iff.mp h
    refine ev_V2I (pc' := 46) rfl (by decide) rfl mth_125 ⟨Nat.le_of_ble_eq_true rfl, rfl⟩ ⟨Nat.le_refl _, Nat.le_refl _⟩ (d_X7_hasJob hq1) ?_
    refine ev_ifB_ne rfl (pc' := 49) rfl (fun hc => ?_) (fun hc => ?_)
    · have h := (if_pos hc).symm.trans h
      exact e_X7_tries_75 (hr34 := hr34) hΨ h
    · have h := (if_neg hc).symm.trans h
      refine ev_aload_n (pc' := 50) rfl rfl rfl ?_
      refine ev_iload (pc' := 52) rfl rfl rfl ?_
      obtain ⟨q2, hq2, h⟩ := Option.bind_eq_some_iff.mp h
      refine ev_V2I (pc' := 55) rfl (by decide) rfl mth_159 ⟨Nat.le_of_ble_eq_true rfl, rfl⟩ ⟨Nat.le_refl _, Nat.le_refl _⟩ (d_X7_finds hq2) ?_
      refine ev_ifB_eq rfl (pc' := 58) rfl (fun hc => ?_) (fun hc => ?_)
      · have h := (if_neg hc).symm.trans h
        exact e_X7_tries_75 (hr34 := hr34) hΨ h
      · have h := (if_pos hc).symm.trans h
        refine ev_aload_n (pc' := 59) rfl rfl rfl ?_
        refine ev_iload (pc' := 61) rfl rfl rfl ?_
        refine ev_aload_n (pc' := 62) rfl rfl rfl ?_
        refine ev_getI (pc' := 65) rfl rfl ?_
        refine ev_aload_n (pc' := 66) rfl rfl rfl ?_
        refine ev_getI (pc' := 69) rfl rfl ?_
        obtain ⟨q3, hq3, h⟩ := Option.bind_eq_some_iff.mp h
        refine ev_V4V (pc' := 72) rfl (by decide) rfl mth_153 ⟨Nat.le_of_ble_eq_true rfl, rfl⟩ ⟨Nat.le_refl _, Nat.le_refl _⟩ (d_X7_lays hq3) ?_
        refine ev_iinc (pc' := 75) rfl rfl (l' := [some (aR 7 i0), some (aI p1), (klO x2), some (aI (v3 + 1)), some (aI v4)]) rfl (ii_1 _) rfl ?_
        exact e_X7_tries_75 (hr34 := hr34) hΨ h
def s_X7_tries_R34 (i0 : Nat) (p1 : Int32) (p2 : Int32) : Nat → Int32 → Int32 → (Nat → Nat → Nat → Int32) → (Nat → Nat → Nat → Int64) → Option (Int32 × GS)
  | 0 => fun _ _ _ _ => none
  | n + 1 => s_X7_tries_34 i0 p1 p2 (s_X7_tries_R34 i0 p1 p2 n)
theorem e_X7_tries_R34 {d : Nat} {Ψ : Option AV → DS → Prop} {i0 : Nat} {p1 : Int32} {p2 : Int32} {r : Int32 × GS} (hΨ : Ψ (some (aI r.1)) (L0, r.2.1, r.2.2, q0)) : ∀ (n : Nat) {v3 : Int32} {v4 : Int32} {x2 : Option AV} {g : Nat → Nat → Nat → Int32} {w : Nat → Nat → Nat → Int64}, s_X7_tries_R34 i0 p1 p2 n v3 v4 g w = some r → Ev (EvM mth (d + 6)) mth c00 sc0 (retP (some .int) c00 Ψ) (lkp es_172) 34 [some (aR 7 i0), some (aI p1), x2, some (aI v3), some (aI v4)] [] (L0, g, w, q0) := by
  intro n
  induction n with
  | zero => intros; rename_i h; exact absurd h (by intro h9; cases h9)
  | succ n ih => intros; rename_i h; exact e_X7_tries_34 (hr34 := ih) hΨ h
def s_X7_tries_23 (i0 : Nat) (p1 : Int32) (p2 : Int32) (rec2 : Int32 → (Nat → Nat → Nat → Int32) → (Nat → Nat → Nat → Int64) → Option (Int32 × GS)) (v3 : Int32) (g : Nat → Nat → Nat → Int32) (w : Nat → Nat → Nat → Int64) : Option (Int32 × GS) :=
  rec2 (v3 + 1) g w
set_option maxRecDepth 20000 in
set_option maxHeartbeats 2000000 in
theorem e_X7_tries_23 {d : Nat} {Ψ : Option AV → DS → Prop} {i0 : Nat} {p1 : Int32} {p2 : Int32} {rec2 : Int32 → (Nat → Nat → Nat → Int32) → (Nat → Nat → Nat → Int64) → Option (Int32 × GS)} {r : Int32 × GS} {g : Nat → Nat → Nat → Int32} {w : Nat → Nat → Nat → Int64} {v3 : Int32} {x4 : Option AV} (hr2 : ∀ {v3 : Int32} {x4 : Option AV} {g : Nat → Nat → Nat → Int32} {w : Nat → Nat → Nat → Int64} , rec2 v3 g w = some r → Ev (EvM mth (d + 6)) mth c00 sc0 (retP (some .int) c00 Ψ) (lkp es_172) 2 [some (aR 7 i0), some (aI p1), some (aI p2), some (aI v3), x4] [] (L0, g, w, q0)) (hΨ : Ψ (some (aI r.1)) (L0, r.2.1, r.2.2, q0)) (h : s_X7_tries_23 i0 p1 p2 rec2 v3 g w = some r) : Ev (EvM mth (d + 6)) mth c00 sc0 (retP (some .int) c00 Ψ) (lkp es_172) 23 [some (aR 7 i0), some (aI p1), some (aI p2), some (aI v3), x4] [] (L0, g, w, q0) := by
  unfold s_X7_tries_23 at h
  refine ev_iinc (pc' := 26) rfl rfl (l' := [some (aR 7 i0), some (aI p1), some (aI p2), some (aI (v3 + 1)), x4]) rfl (ii_1 _) rfl ?_
  refine ev_goto (pc' := 2) rfl ?_
  exact hr2 h
def s_X7_tries_2 (i0 : Nat) (p1 : Int32) (p2 : Int32) (rec2 : Int32 → (Nat → Nat → Nat → Int32) → (Nat → Nat → Nat → Int64) → Option (Int32 × GS)) (v3 : Int32) (g : Nat → Nat → Nat → Int32) (w : Nat → Nat → Nat → Int64) : Option (Int32 × GS) :=
  if p1 ≤ v3 then
    s_X7_tries_R34 i0 p1 p2 FU (0 : Int32) (0 : Int32) g w
  else
    if ((p2 >>> (v3 &&& 31)) &&& (1 : Int32)) ≠ (1 : Int32) then
      s_X7_tries_23 i0 p1 p2 rec2 v3 g w
    else
      (s_X7_takes i0 v3 (0 : Int32) g w).bind fun q1 =>
      s_X7_tries_23 i0 p1 p2 rec2 v3 q1.2.1 q1.2.2
set_option maxRecDepth 20000 in
set_option maxHeartbeats 2000000 in
theorem e_X7_tries_2 {d : Nat} {Ψ : Option AV → DS → Prop} {i0 : Nat} {p1 : Int32} {p2 : Int32} {rec2 : Int32 → (Nat → Nat → Nat → Int32) → (Nat → Nat → Nat → Int64) → Option (Int32 × GS)} {r : Int32 × GS} {g : Nat → Nat → Nat → Int32} {w : Nat → Nat → Nat → Int64} {v3 : Int32} {x4 : Option AV} (hr2 : ∀ {v3 : Int32} {x4 : Option AV} {g : Nat → Nat → Nat → Int32} {w : Nat → Nat → Nat → Int64} , rec2 v3 g w = some r → Ev (EvM mth (d + 6)) mth c00 sc0 (retP (some .int) c00 Ψ) (lkp es_172) 2 [some (aR 7 i0), some (aI p1), some (aI p2), some (aI v3), x4] [] (L0, g, w, q0)) (hΨ : Ψ (some (aI r.1)) (L0, r.2.1, r.2.2, q0)) (h : s_X7_tries_2 i0 p1 p2 rec2 v3 g w = some r) : Ev (EvM mth (d + 6)) mth c00 sc0 (retP (some .int) c00 Ψ) (lkp es_172) 2 [some (aR 7 i0), some (aI p1), some (aI p2), some (aI v3), x4] [] (L0, g, w, q0) := by
  unfold s_X7_tries_2 at h
  refine ev_iload_n (pc' := 3) rfl rfl rfl ?_
  refine ev_iload_n (pc' := 4) rfl rfl rfl ?_
  refine ev_icmp_ge rfl (pc' := 7) rfl (fun hc => ?_) (fun hc => ?_)
  · have h := (if_pos hc).symm.trans h
    refine ev_iconst (pc' := 30) rfl rfl (v := (0 : Int32)) (by decide) ?_
    refine ev_istore_n (pc' := 31) rfl rfl (l' := [some (aR 7 i0), some (aI p1), some (aI p2), some (aI (0 : Int32)), x4]) rfl ?_
    refine ev_iconst (pc' := 32) rfl rfl (v := (0 : Int32)) (by decide) ?_
    refine ev_istore (pc' := 34) rfl rfl (l' := [some (aR 7 i0), some (aI p1), some (aI p2), some (aI (0 : Int32)), some (aI (0 : Int32))]) rfl ?_
    exact e_X7_tries_R34 hΨ FU h
  · have h := (if_neg hc).symm.trans h
    refine ev_iload_n (pc' := 8) rfl rfl rfl ?_
    refine ev_iload_n (pc' := 9) rfl rfl rfl ?_
    refine ev_ishr (pc' := 10) rfl rfl ?_
    refine ev_iconst (pc' := 11) rfl rfl (v := (1 : Int32)) (by decide) ?_
    refine ev_iand (pc' := 12) rfl rfl ?_
    refine ev_iconst (pc' := 13) rfl rfl (v := (1 : Int32)) (by decide) ?_
    refine ev_icmp_ne rfl (pc' := 16) rfl (fun hc => ?_) (fun hc => ?_)
    · have h := (if_pos hc).symm.trans h
      exact e_X7_tries_23 (hr2 := hr2) hΨ h
    · have h := (if_neg hc).symm.trans h
      refine ev_aload_n (pc' := 17) rfl rfl rfl ?_
      refine ev_iload_n (pc' := 18) rfl rfl rfl ?_
      refine ev_iconst (pc' := 19) rfl rfl (v := (0 : Int32)) (by decide) ?_
      obtain ⟨q1, hq1, h⟩ := Option.bind_eq_some_iff.mp h
      refine ev_V3I (pc' := 22) rfl (by decide) rfl mth_155 ⟨Nat.le_of_ble_eq_true rfl, rfl⟩ ⟨Nat.le_refl _, Nat.le_refl _⟩ (d_X7_takes hq1) ?_
      refine ev_pop (pc' := 23) rfl rfl rfl ?_
      exact e_X7_tries_23 (hr2 := hr2) hΨ h
def s_X7_tries_R2 (i0 : Nat) (p1 : Int32) (p2 : Int32) : Nat → Int32 → (Nat → Nat → Nat → Int32) → (Nat → Nat → Nat → Int64) → Option (Int32 × GS)
  | 0 => fun _ _ _ => none
  | n + 1 => s_X7_tries_2 i0 p1 p2 (s_X7_tries_R2 i0 p1 p2 n)
theorem e_X7_tries_R2 {d : Nat} {Ψ : Option AV → DS → Prop} {i0 : Nat} {p1 : Int32} {p2 : Int32} {r : Int32 × GS} (hΨ : Ψ (some (aI r.1)) (L0, r.2.1, r.2.2, q0)) : ∀ (n : Nat) {v3 : Int32} {x4 : Option AV} {g : Nat → Nat → Nat → Int32} {w : Nat → Nat → Nat → Int64}, s_X7_tries_R2 i0 p1 p2 n v3 g w = some r → Ev (EvM mth (d + 6)) mth c00 sc0 (retP (some .int) c00 Ψ) (lkp es_172) 2 [some (aR 7 i0), some (aI p1), some (aI p2), some (aI v3), x4] [] (L0, g, w, q0) := by
  intro n
  induction n with
  | zero => intros; rename_i h; exact absurd h (by intro h9; cases h9)
  | succ n ih => intros; rename_i h; exact e_X7_tries_2 (hr2 := ih) hΨ h
def s_X7_tries (i0 : Nat) (p1 : Int32) (p2 : Int32) (g : Nat → Nat → Nat → Int32) (w : Nat → Nat → Nat → Int64) : Option (Int32 × GS) :=
  s_X7_tries_R2 i0 p1 p2 FU (0 : Int32) g w
set_option maxRecDepth 20000 in
set_option maxHeartbeats 2000000 in
theorem d_X7_tries {d : Nat} {i0 : Nat} {p1 : Int32} {p2 : Int32} {g : Nat → Nat → Nat → Int32} {w : Nat → Nat → Nat → Int64} {r : Int32 × GS} (h : s_X7_tries i0 p1 p2 g w = some r) : Does (EvM mth (d + 7)) 172 [aR 7 i0, aI p1, aI p2] (L0, g, w, q0) (some (aI r.1)) (L0, r.2.1, r.2.2, q0) := by
  intro Ψ hΨ
  refine ⟨in_172, mth_172, Nat.le_of_ble_eq_true rfl, ?_⟩
  show Ev (EvM mth (d + 6)) mth c00 sc0 (retP (some .int) c00 Ψ) (lkp es_172) 0 [some (aR 7 i0), some (aI p1), some (aI p2), none, none] [] (L0, g, w, q0)
  unfold s_X7_tries at h
  refine ev_iconst (pc' := 1) rfl rfl (v := (0 : Int32)) (by decide) ?_
  refine ev_istore_n (pc' := 2) rfl rfl (l' := [some (aR 7 i0), some (aI p1), some (aI p2), some (aI (0 : Int32)), none]) rfl ?_
  exact e_X7_tries_R2 hΨ FU h
def s_X6_may_60 (i0 : Nat) (p1 : Int32) (p2 : Int32) (p3 : Int32) (t0 : Int32) (g : Nat → Nat → Nat → Int32) (w : Nat → Nat → Nat → Int64) : Option (Int32) :=
  some (t0)
set_option maxRecDepth 20000 in
set_option maxHeartbeats 2000000 in
theorem e_X6_may_60 {d : Nat} {Ψ : Option AV → DS → Prop} {i0 : Nat} {p1 : Int32} {p2 : Int32} {p3 : Int32} {r : Int32} {g : Nat → Nat → Nat → Int32} {w : Nat → Nat → Nat → Int64} {t0 : Int32} {x0 : Option AV} {x1 : Option AV} {x2 : Option AV} {x3 : Option AV} {x4 : Option AV} (hΨ : Ψ (some (aI r)) (L0, g, w, q0)) (h : s_X6_may_60 i0 p1 p2 p3 t0 g w = some r) : Ev (EvM mth (d + 7)) mth c00 sc0 (retP (some .int) c00 Ψ) (lkp es_84) 60 [x0, x1, x2, x3, x4] [aI t0] (L0, g, w, q0) := by
  unfold s_X6_may_60 at h
  obtain rfl := Option.some.inj h
  exact ev_ireturn rfl ⟨⟨_, rfl, rfl⟩, rfl, rfl, hΨ⟩
def s_X6_may_23 (i0 : Nat) (p1 : Int32) (p2 : Int32) (p3 : Int32) (g : Nat → Nat → Nat → Int32) (w : Nat → Nat → Nat → Int64) : Option (Int32) :=
  some ((-1 : Int32))
set_option maxRecDepth 20000 in
set_option maxHeartbeats 2000000 in
theorem e_X6_may_23 {d : Nat} {Ψ : Option AV → DS → Prop} {i0 : Nat} {p1 : Int32} {p2 : Int32} {p3 : Int32} {r : Int32} {g : Nat → Nat → Nat → Int32} {w : Nat → Nat → Nat → Int64} {x0 : Option AV} {x1 : Option AV} {x2 : Option AV} {x3 : Option AV} {x4 : Option AV} (hΨ : Ψ (some (aI r)) (L0, g, w, q0)) (h : s_X6_may_23 i0 p1 p2 p3 g w = some r) : Ev (EvM mth (d + 7)) mth c00 sc0 (retP (some .int) c00 Ψ) (lkp es_84) 23 [x0, x1, x2, x3, x4] [] (L0, g, w, q0) := by
  unfold s_X6_may_23 at h
  refine ev_iconst (pc' := 24) rfl rfl (v := (-1 : Int32)) (by decide) ?_
  obtain rfl := Option.some.inj h
  exact ev_ireturn rfl ⟨⟨_, rfl, rfl⟩, rfl, rfl, hΨ⟩
def s_X6_may (i0 : Nat) (p1 : Int32) (p2 : Int32) (p3 : Int32) (g : Nat → Nat → Nat → Int32) (w : Nat → Nat → Nat → Int64) : Option (Int32) :=
  if (s_X6_isShip i0 p1 g w) = true then
    if (s_X6_isHour p2 g w) = true then
      if (s_X6_isSet i0 p3 g w) = true then
        if inR p1 8 = true then
          if (s_X4_hasJob (8 * 0 + p1.toNatClampNeg) g w) = true then
            s_X6_may_60 i0 p1 p2 p3 (-2 : Int32) g w
          else
            (s_X1_failsBy 0 (8 * 0 + p1.toNatClampNeg) p2 p3 g w).bind fun q1 =>
            s_X6_may_60 i0 p1 p2 p3 q1 g w
        else none
      else
        s_X6_may_23 i0 p1 p2 p3 g w
    else
      s_X6_may_23 i0 p1 p2 p3 g w
  else
    s_X6_may_23 i0 p1 p2 p3 g w
set_option maxRecDepth 20000 in
set_option maxHeartbeats 2000000 in
theorem d_X6_may {d : Nat} {i0 : Nat} {p1 : Int32} {p2 : Int32} {p3 : Int32} {g : Nat → Nat → Nat → Int32} {w : Nat → Nat → Nat → Int64} {r : Int32} (h : s_X6_may i0 p1 p2 p3 g w = some r) : Does (EvM mth (d + 8)) 84 [aR 6 i0, aI p1, aI p2, aI p3] (L0, g, w, q0) (some (aI r)) (L0, g, w, q0) := by
  intro Ψ hΨ
  refine ⟨in_84, mth_84, Nat.le_of_ble_eq_true rfl, ?_⟩
  show Ev (EvM mth (d + 7)) mth c00 sc0 (retP (some .int) c00 Ψ) (lkp es_84) 0 [some (aR 6 i0), some (aI p1), some (aI p2), some (aI p3), none] [] (L0, g, w, q0)
  unfold s_X6_may at h
  refine ev_aload_n (pc' := 1) rfl rfl rfl ?_
  refine ev_iload_n (pc' := 2) rfl rfl rfl ?_
  refine ev_V2I (pc' := 5) rfl (by decide) rfl mth_109 ⟨Nat.le_of_ble_eq_true rfl, rfl⟩ ⟨Nat.le_refl _, Nat.le_refl _⟩ d_X6_isShip ?_
  refine ev_ifB_eq rfl (pc' := 8) rfl (fun hc => ?_) (fun hc => ?_)
  · have h := (if_neg hc).symm.trans h
    exact e_X6_may_23 hΨ h
  · have h := (if_pos hc).symm.trans h
    refine ev_iload_n (pc' := 9) rfl rfl rfl ?_
    refine ev_S1I (pc' := 12) rfl (by decide) rfl mth_106 ⟨Nat.le_of_ble_eq_true rfl, rfl⟩ ⟨Nat.le_refl _, Nat.le_refl _⟩ d_X6_isHour ?_
    refine ev_ifB_eq rfl (pc' := 15) rfl (fun hc => ?_) (fun hc => ?_)
    · have h := (if_neg hc).symm.trans h
      exact e_X6_may_23 hΨ h
    · have h := (if_pos hc).symm.trans h
      refine ev_aload_n (pc' := 16) rfl rfl rfl ?_
      refine ev_iload_n (pc' := 17) rfl rfl rfl ?_
      refine ev_V2I (pc' := 20) rfl (by decide) rfl mth_110 ⟨Nat.le_of_ble_eq_true rfl, rfl⟩ ⟨Nat.le_refl _, Nat.le_refl _⟩ d_X6_isSet ?_
      refine ev_ifB_ne rfl (pc' := 23) rfl (fun hc => ?_) (fun hc => ?_)
      · have h := (if_pos hc).symm.trans h
        refine ev_aload_n (pc' := 26) rfl rfl rfl ?_
        refine ev_getQ (pc' := 29) rfl rfl rfl ?_
        refine ev_getQ (pc' := 32) rfl rfl rfl ?_
        refine ev_iload_n (pc' := 33) rfl rfl rfl ?_
        obtain ⟨hi, h⟩ := gdB h
        refine ev_aald (pc' := 34) rfl rfl (by decide) rfl (inR_vp hi) rfl ?_
        refine ev_astore (pc' := 36) rfl rfl (l' := [some (aR 6 i0), some (aI p1), some (aI p2), some (aI p3), some (aR 4 (8 * 0 + p1.toNatClampNeg))]) rfl ?_
        refine ev_aload (pc' := 38) rfl rfl rfl ?_
        refine ev_V1I (pc' := 41) rfl (by decide) rfl mth_55 ⟨Nat.le_of_ble_eq_true rfl, rfl⟩ ⟨Nat.le_refl _, Nat.le_refl _⟩ d_X4_hasJob ?_
        refine ev_ifB_eq rfl (pc' := 44) rfl (fun hc => ?_) (fun hc => ?_)
        · have h := (if_neg hc).symm.trans h
          refine ev_aload_n (pc' := 50) rfl rfl rfl ?_
          refine ev_getQ (pc' := 53) rfl rfl rfl ?_
          refine ev_aload (pc' := 55) rfl rfl rfl ?_
          refine ev_iload_n (pc' := 56) rfl rfl rfl ?_
          refine ev_iload_n (pc' := 57) rfl rfl rfl ?_
          obtain ⟨q1, hq1, h⟩ := Option.bind_eq_some_iff.mp h
          refine ev_V4I (pc' := 60) rfl (by decide) rfl mth_21 ⟨Nat.le_of_ble_eq_true rfl, rfl⟩ ⟨Nat.le_refl _, Nat.le_refl _⟩ (d_X1_failsBy hq1) ?_
          exact e_X6_may_60 hΨ h
        · have h := (if_pos hc).symm.trans h
          refine ev_bipush (pc' := 46) rfl rfl (v := (-2 : Int32)) (by decide) ?_
          refine ev_goto (pc' := 60) rfl ?_
          exact e_X6_may_60 hΨ h
      · have h := (if_neg hc).symm.trans h
        exact e_X6_may_23 hΨ h
def s_X6_lay_58 (i0 : Nat) (p1 : Int32) (p2 : Int32) (p3 : Int32) (g : Nat → Nat → Nat → Int32) (w : Nat → Nat → Nat → Int64) : Option (Int32 × GS) :=
  some (((-2 : Int32), g, w))
set_option maxRecDepth 20000 in
set_option maxHeartbeats 2000000 in
theorem e_X6_lay_58 {d : Nat} {Ψ : Option AV → DS → Prop} {i0 : Nat} {p1 : Int32} {p2 : Int32} {p3 : Int32} {r : Int32 × GS} {g : Nat → Nat → Nat → Int32} {w : Nat → Nat → Nat → Int64} {x0 : Option AV} {x1 : Option AV} {x2 : Option AV} {x3 : Option AV} {x4 : Option AV} (hΨ : Ψ (some (aI r.1)) (L0, r.2.1, r.2.2, q0)) (h : s_X6_lay_58 i0 p1 p2 p3 g w = some r) : Ev (EvM mth (d + 7)) mth c00 sc0 (retP (some .int) c00 Ψ) (lkp es_85) 58 [x0, x1, x2, x3, x4] [] (L0, g, w, q0) := by
  unfold s_X6_lay_58 at h
  refine ev_bipush (pc' := 60) rfl rfl (v := (-2 : Int32)) (by decide) ?_
  obtain rfl := Option.some.inj h
  exact ev_ireturn rfl ⟨⟨_, rfl, rfl⟩, rfl, rfl, hΨ⟩
def s_X6_lay_23 (i0 : Nat) (p1 : Int32) (p2 : Int32) (p3 : Int32) (g : Nat → Nat → Nat → Int32) (w : Nat → Nat → Nat → Int64) : Option (Int32 × GS) :=
  some (((-1 : Int32), g, w))
set_option maxRecDepth 20000 in
set_option maxHeartbeats 2000000 in
theorem e_X6_lay_23 {d : Nat} {Ψ : Option AV → DS → Prop} {i0 : Nat} {p1 : Int32} {p2 : Int32} {p3 : Int32} {r : Int32 × GS} {g : Nat → Nat → Nat → Int32} {w : Nat → Nat → Nat → Int64} {x0 : Option AV} {x1 : Option AV} {x2 : Option AV} {x3 : Option AV} {x4 : Option AV} (hΨ : Ψ (some (aI r.1)) (L0, r.2.1, r.2.2, q0)) (h : s_X6_lay_23 i0 p1 p2 p3 g w = some r) : Ev (EvM mth (d + 7)) mth c00 sc0 (retP (some .int) c00 Ψ) (lkp es_85) 23 [x0, x1, x2, x3, x4] [] (L0, g, w, q0) := by
  unfold s_X6_lay_23 at h
  refine ev_iconst (pc' := 24) rfl rfl (v := (-1 : Int32)) (by decide) ?_
  obtain rfl := Option.some.inj h
  exact ev_ireturn rfl ⟨⟨_, rfl, rfl⟩, rfl, rfl, hΨ⟩
def s_X6_lay (i0 : Nat) (p1 : Int32) (p2 : Int32) (p3 : Int32) (g : Nat → Nat → Nat → Int32) (w : Nat → Nat → Nat → Int64) : Option (Int32 × GS) :=
  if (s_X6_isShip i0 p1 g w) = true then
    if (s_X6_isHour p2 g w) = true then
      if (s_X6_isSet i0 p3 g w) = true then
        if inR p1 8 = true then
          if (s_X4_hasJob (8 * 0 + p1.toNatClampNeg) g w) = true then
            s_X6_lay_58 i0 p1 p2 p3 g w
          else
            (s_X1_failsBy 0 (8 * 0 + p1.toNatClampNeg) p2 p3 g w).bind fun q1 =>
            if q1 = 0 then
              (s_X1_put 0 (8 * 0 + p1.toNatClampNeg) p2 p3 g w).bind fun q2 =>
              some (((0 : Int32), q2.1, q2.2))
            else
              s_X6_lay_58 i0 p1 p2 p3 g w
        else none
      else
        s_X6_lay_23 i0 p1 p2 p3 g w
    else
      s_X6_lay_23 i0 p1 p2 p3 g w
  else
    s_X6_lay_23 i0 p1 p2 p3 g w
set_option maxRecDepth 20000 in
set_option maxHeartbeats 2000000 in
theorem d_X6_lay {d : Nat} {i0 : Nat} {p1 : Int32} {p2 : Int32} {p3 : Int32} {g : Nat → Nat → Nat → Int32} {w : Nat → Nat → Nat → Int64} {r : Int32 × GS} (h : s_X6_lay i0 p1 p2 p3 g w = some r) : Does (EvM mth (d + 8)) 85 [aR 6 i0, aI p1, aI p2, aI p3] (L0, g, w, q0) (some (aI r.1)) (L0, r.2.1, r.2.2, q0) := by
  intro Ψ hΨ
  refine ⟨in_85, mth_85, Nat.le_of_ble_eq_true rfl, ?_⟩
  show Ev (EvM mth (d + 7)) mth c00 sc0 (retP (some .int) c00 Ψ) (lkp es_85) 0 [some (aR 6 i0), some (aI p1), some (aI p2), some (aI p3), none] [] (L0, g, w, q0)
  unfold s_X6_lay at h
  refine ev_aload_n (pc' := 1) rfl rfl rfl ?_
  refine ev_iload_n (pc' := 2) rfl rfl rfl ?_
  refine ev_V2I (pc' := 5) rfl (by decide) rfl mth_109 ⟨Nat.le_of_ble_eq_true rfl, rfl⟩ ⟨Nat.le_refl _, Nat.le_refl _⟩ d_X6_isShip ?_
  refine ev_ifB_eq rfl (pc' := 8) rfl (fun hc => ?_) (fun hc => ?_)
  · have h := (if_neg hc).symm.trans h
    exact e_X6_lay_23 hΨ h
  · have h := (if_pos hc).symm.trans h
    refine ev_iload_n (pc' := 9) rfl rfl rfl ?_
    refine ev_S1I (pc' := 12) rfl (by decide) rfl mth_106 ⟨Nat.le_of_ble_eq_true rfl, rfl⟩ ⟨Nat.le_refl _, Nat.le_refl _⟩ d_X6_isHour ?_
    refine ev_ifB_eq rfl (pc' := 15) rfl (fun hc => ?_) (fun hc => ?_)
    · have h := (if_neg hc).symm.trans h
      exact e_X6_lay_23 hΨ h
    · have h := (if_pos hc).symm.trans h
      refine ev_aload_n (pc' := 16) rfl rfl rfl ?_
      refine ev_iload_n (pc' := 17) rfl rfl rfl ?_
      refine ev_V2I (pc' := 20) rfl (by decide) rfl mth_110 ⟨Nat.le_of_ble_eq_true rfl, rfl⟩ ⟨Nat.le_refl _, Nat.le_refl _⟩ d_X6_isSet ?_
      refine ev_ifB_ne rfl (pc' := 23) rfl (fun hc => ?_) (fun hc => ?_)
      · have h := (if_pos hc).symm.trans h
        refine ev_aload_n (pc' := 26) rfl rfl rfl ?_
        refine ev_getQ (pc' := 29) rfl rfl rfl ?_
        refine ev_getQ (pc' := 32) rfl rfl rfl ?_
        refine ev_iload_n (pc' := 33) rfl rfl rfl ?_
        obtain ⟨hi, h⟩ := gdB h
        refine ev_aald (pc' := 34) rfl rfl (by decide) rfl (inR_vp hi) rfl ?_
        refine ev_astore (pc' := 36) rfl rfl (l' := [some (aR 6 i0), some (aI p1), some (aI p2), some (aI p3), some (aR 4 (8 * 0 + p1.toNatClampNeg))]) rfl ?_
        refine ev_aload (pc' := 38) rfl rfl rfl ?_
        refine ev_V1I (pc' := 41) rfl (by decide) rfl mth_55 ⟨Nat.le_of_ble_eq_true rfl, rfl⟩ ⟨Nat.le_refl _, Nat.le_refl _⟩ d_X4_hasJob ?_
        refine ev_ifB_ne rfl (pc' := 44) rfl (fun hc => ?_) (fun hc => ?_)
        · have h := (if_pos hc).symm.trans h
          exact e_X6_lay_58 hΨ h
        · have h := (if_neg hc).symm.trans h
          refine ev_aload_n (pc' := 45) rfl rfl rfl ?_
          refine ev_getQ (pc' := 48) rfl rfl rfl ?_
          refine ev_aload (pc' := 50) rfl rfl rfl ?_
          refine ev_iload_n (pc' := 51) rfl rfl rfl ?_
          refine ev_iload_n (pc' := 52) rfl rfl rfl ?_
          obtain ⟨q1, hq1, h⟩ := Option.bind_eq_some_iff.mp h
          refine ev_V4I (pc' := 55) rfl (by decide) rfl mth_21 ⟨Nat.le_of_ble_eq_true rfl, rfl⟩ ⟨Nat.le_refl _, Nat.le_refl _⟩ (d_X1_failsBy hq1) ?_
          refine ev_if_eq rfl (pc' := 58) rfl (fun hc => ?_) (fun hc => ?_)
          · have h := (if_pos hc).symm.trans h
            refine ev_aload_n (pc' := 62) rfl rfl rfl ?_
            refine ev_getQ (pc' := 65) rfl rfl rfl ?_
            refine ev_aload (pc' := 67) rfl rfl rfl ?_
            refine ev_iload_n (pc' := 68) rfl rfl rfl ?_
            refine ev_iload_n (pc' := 69) rfl rfl rfl ?_
            obtain ⟨q2, hq2, h⟩ := Option.bind_eq_some_iff.mp h
            refine ev_V4V (pc' := 72) rfl (by decide) rfl mth_29 ⟨Nat.le_of_ble_eq_true rfl, rfl⟩ ⟨Nat.le_refl _, Nat.le_refl _⟩ (d_X1_put hq2) ?_
            refine ev_iconst (pc' := 73) rfl rfl (v := (0 : Int32)) (by decide) ?_
            obtain rfl := Option.some.inj h
            exact ev_ireturn rfl ⟨⟨_, rfl, rfl⟩, rfl, rfl, hΨ⟩
          · have h := (if_neg hc).symm.trans h
            exact e_X6_lay_58 hΨ h
      · have h := (if_neg hc).symm.trans h
        exact e_X6_lay_23 hΨ h
def s_X6_order_60 (i0 : Nat) (p1 : Int32) (p2 : Int32) (t0 : Int32) (g : Nat → Nat → Nat → Int32) (w : Nat → Nat → Nat → Int64) : Option (Int32 × GS) :=
  some ((t0, g, w))
set_option maxRecDepth 20000 in
set_option maxHeartbeats 2000000 in
theorem e_X6_order_60 {d : Nat} {Ψ : Option AV → DS → Prop} {i0 : Nat} {p1 : Int32} {p2 : Int32} {r : Int32 × GS} {g : Nat → Nat → Nat → Int32} {w : Nat → Nat → Nat → Int64} {t0 : Int32} {x0 : Option AV} {x1 : Option AV} {x2 : Option AV} (hΨ : Ψ (some (aI r.1)) (L0, r.2.1, r.2.2, q0)) (h : s_X6_order_60 i0 p1 p2 t0 g w = some r) : Ev (EvM mth (d + 7)) mth c00 sc0 (retP (some .int) c00 Ψ) (lkp es_89) 60 [x0, x1, x2] [aI t0] (L0, g, w, q0) := by
  unfold s_X6_order_60 at h
  obtain rfl := Option.some.inj h
  exact ev_ireturn rfl ⟨⟨_, rfl, rfl⟩, rfl, rfl, hΨ⟩
def s_X6_order (i0 : Nat) (p1 : Int32) (p2 : Int32) (g : Nat → Nat → Nat → Int32) (w : Nat → Nat → Nat → Int64) : Option (Int32 × GS) :=
  if (s_X6_isPlanned i0 p1 g w) = true then
    (s_X2_findOrder 0 0 p1 g w).bind fun q1 =>
    if p2 ≠ (-1 : Int32) then
      if (s_X6_within p2 (0 : Int32) (p1 - (1 : Int32)) q1.1 q1.2) = true then
        if inR p2 4 = true then
          s_X6_order_60 i0 p1 p2 (q1.1 1004 2 p2.toNatClampNeg) q1.1 q1.2
        else none
      else
        s_X6_order_60 i0 p1 p2 (-4 : Int32) q1.1 q1.2
    else
      some (((q1.1 2 0 5), q1.1, q1.2))
  else
    some (((-1 : Int32), g, w))
set_option maxRecDepth 20000 in
set_option maxHeartbeats 2000000 in
theorem d_X6_order {d : Nat} {i0 : Nat} {p1 : Int32} {p2 : Int32} {g : Nat → Nat → Nat → Int32} {w : Nat → Nat → Nat → Int64} {r : Int32 × GS} (h : s_X6_order i0 p1 p2 g w = some r) : Does (EvM mth (d + 8)) 89 [aR 6 i0, aI p1, aI p2] (L0, g, w, q0) (some (aI r.1)) (L0, r.2.1, r.2.2, q0) := by
  intro Ψ hΨ
  refine ⟨in_89, mth_89, Nat.le_of_ble_eq_true rfl, ?_⟩
  show Ev (EvM mth (d + 7)) mth c00 sc0 (retP (some .int) c00 Ψ) (lkp es_89) 0 [some (aR 6 i0), some (aI p1), some (aI p2)] [] (L0, g, w, q0)
  unfold s_X6_order at h
  refine ev_aload_n (pc' := 1) rfl rfl rfl ?_
  refine ev_iload_n (pc' := 2) rfl rfl rfl ?_
  refine ev_V2I (pc' := 5) rfl (by decide) rfl mth_111 ⟨Nat.le_of_ble_eq_true rfl, rfl⟩ ⟨Nat.le_refl _, Nat.le_refl _⟩ d_X6_isPlanned ?_
  refine ev_ifB_ne rfl (pc' := 8) rfl (fun hc => ?_) (fun hc => ?_)
  · have h := (if_pos hc).symm.trans h
    refine ev_aload_n (pc' := 11) rfl rfl rfl ?_
    refine ev_getQ (pc' := 14) rfl rfl rfl ?_
    refine ev_aload_n (pc' := 15) rfl rfl rfl ?_
    refine ev_getQ (pc' := 18) rfl rfl rfl ?_
    refine ev_iload_n (pc' := 19) rfl rfl rfl ?_
    obtain ⟨q1, hq1, h⟩ := Option.bind_eq_some_iff.mp h
    refine ev_V3V (pc' := 22) rfl (by decide) rfl mth_41 ⟨Nat.le_of_ble_eq_true rfl, rfl⟩ ⟨Nat.le_refl _, Nat.le_refl _⟩ (d_X2_findOrder hq1) ?_
    refine ev_iload_n (pc' := 23) rfl rfl rfl ?_
    refine ev_iconst (pc' := 24) rfl rfl (v := (-1 : Int32)) (by decide) ?_
    refine ev_icmp_ne rfl (pc' := 27) rfl (fun hc => ?_) (fun hc => ?_)
    · have h := (if_pos hc).symm.trans h
      refine ev_iload_n (pc' := 36) rfl rfl rfl ?_
      refine ev_iconst (pc' := 37) rfl rfl (v := (0 : Int32)) (by decide) ?_
      refine ev_iload_n (pc' := 38) rfl rfl rfl ?_
      refine ev_iconst (pc' := 39) rfl rfl (v := (1 : Int32)) (by decide) ?_
      refine ev_isub (pc' := 40) rfl rfl ?_
      refine ev_S3I (pc' := 43) rfl (by decide) rfl mth_105 ⟨Nat.le_of_ble_eq_true rfl, rfl⟩ ⟨Nat.le_refl _, Nat.le_refl _⟩ d_X6_within ?_
      refine ev_ifB_eq rfl (pc' := 46) rfl (fun hc => ?_) (fun hc => ?_)
      · have h := (if_neg hc).symm.trans h
        refine ev_bipush (pc' := 60) rfl rfl (v := (-4 : Int32)) (by decide) ?_
        exact e_X6_order_60 hΨ h
      · have h := (if_pos hc).symm.trans h
        refine ev_aload_n (pc' := 47) rfl rfl rfl ?_
        refine ev_getQ (pc' := 50) rfl rfl rfl ?_
        refine ev_getQ (pc' := 53) rfl rfl rfl ?_
        refine ev_iload_n (pc' := 54) rfl rfl rfl ?_
        obtain ⟨hi, h⟩ := gdB h
        refine ev_iald (pc' := 55) rfl rfl rfl (inR_vp hi) ?_
        refine ev_goto (pc' := 60) rfl ?_
        exact e_X6_order_60 hΨ h
    · have h := (if_neg hc).symm.trans h
      refine ev_aload_n (pc' := 28) rfl rfl rfl ?_
      refine ev_getQ (pc' := 31) rfl rfl rfl ?_
      refine ev_getI (pc' := 34) rfl rfl ?_
      obtain rfl := Option.some.inj h
      exact ev_ireturn rfl ⟨⟨_, rfl, rfl⟩, rfl, rfl, hΨ⟩
  · have h := (if_neg hc).symm.trans h
    refine ev_iconst (pc' := 9) rfl rfl (v := (-1 : Int32)) (by decide) ?_
    obtain rfl := Option.some.inj h
    exact ev_ireturn rfl ⟨⟨_, rfl, rfl⟩, rfl, rfl, hΨ⟩
