def s_X7_lays_96 (i0 : Nat) (p1 : Int32) (p2 : Int32) (p3 : Int32) (rec39 : Int32 → (Nat → Nat → Nat → Int32) → (Nat → Nat → Nat → Int64) → Option (GS)) (t1 : Int32) (t2 : Int64) (t3 : Int64) (v4 : Int32) (g : Nat → Nat → Nat → Int32) (w : Nat → Nat → Nat → Int64) : Option (GS) :=
  if inR t1 218 = true then
    rec39 (v4 + 1) g (wL w 2218 0 t1.toNatClampNeg (t2 ||| t3))
  else none
set_option maxRecDepth 20000 in
set_option maxHeartbeats 2000000 in
theorem e_X7_lays_96 {d : Nat} {Ψ : Option AV → DS → Prop} {i0 : Nat} {p1 : Int32} {p2 : Int32} {p3 : Int32} {rec39 : Int32 → (Nat → Nat → Nat → Int32) → (Nat → Nat → Nat → Int64) → Option (GS)} {r : GS} {g : Nat → Nat → Nat → Int32} {w : Nat → Nat → Nat → Int64} {t1 : Int32} {t2 : Int64} {t3 : Int64} {v4 : Int32} (hr39 : ∀ {v4 : Int32} {g : Nat → Nat → Nat → Int32} {w : Nat → Nat → Nat → Int64} , rec39 v4 g w = some r → Ev (EvM mth (d + 1)) mth c00 sc0 (retP (none) c00 Ψ) (lkp es_153) 39 [some (aR 7 i0), some (aI p1), some (aI p2), some (aI p3), some (aI v4)] [] (L0, g, w, q0)) (hΨ : Ψ none (L0, r.1, r.2, q0)) (h : s_X7_lays_96 i0 p1 p2 p3 rec39 t1 t2 t3 v4 g w = some r) : Ev (EvM mth (d + 1)) mth c00 sc0 (retP (none) c00 Ψ) (lkp es_153) 96 [some (aR 7 i0), some (aI p1), some (aI p2), some (aI p3), some (aI v4)] [aL t3, aL t2, aI t1, aR 2218 0] (L0, g, w, q0) := by
  unfold s_X7_lays_96 at h
  refine ev_lor (pc' := 97) rfl rfl ?_
  obtain ⟨hi, h⟩ := gdB h
  refine ev_last (pc' := 98) rfl rfl rfl (inR_vp hi) ?_
  refine ev_iinc (pc' := 101) rfl rfl (l' := [some (aR 7 i0), some (aI p1), some (aI p2), some (aI p3), some (aI (v4 + 1))]) rfl (ii_1 _) rfl ?_
  refine ev_goto (pc' := 39) rfl ?_
  exact hr39 h
def s_X7_lays_39 (i0 : Nat) (p1 : Int32) (p2 : Int32) (p3 : Int32) (rec39 : Int32 → (Nat → Nat → Nat → Int32) → (Nat → Nat → Nat → Int64) → Option (GS)) (v4 : Int32) (g : Nat → Nat → Nat → Int32) (w : Nat → Nat → Nat → Int64) : Option (GS) :=
  if 0 ≤ (lg_cmp v4.toInt64 (w 2218 0 (64 : Int32).toNatClampNeg)) then
    some ((g, w))
  else
    if inR (((70 : Int32) + ((10 : Int32) * v4)) + (8 : Int32)) 218 = true then
      if ((p3 >>> (v4 &&& 31)) &&& (1 : Int32)) ≠ (1 : Int32) then
        s_X7_lays_96 i0 p1 p2 p3 rec39 (((70 : Int32) + ((10 : Int32) * v4)) + (8 : Int32)) (w 2218 0 (((70 : Int32) + ((10 : Int32) * v4)) + (8 : Int32)).toNatClampNeg) (0 : Int64) v4 g w
      else
        (s_X7_ofShip i0 p1 (3 : Int32) g w).bind fun q1 =>
        s_X7_lays_96 i0 p1 p2 p3 rec39 (((70 : Int32) + ((10 : Int32) * v4)) + (8 : Int32)) (w 2218 0 (((70 : Int32) + ((10 : Int32) * v4)) + (8 : Int32)).toNatClampNeg) (s_X7_hours p2 (p2 + q1) g w) v4 g w
    else none
set_option maxRecDepth 20000 in
set_option maxHeartbeats 2000000 in
theorem e_X7_lays_39 {d : Nat} {Ψ : Option AV → DS → Prop} {i0 : Nat} {p1 : Int32} {p2 : Int32} {p3 : Int32} {rec39 : Int32 → (Nat → Nat → Nat → Int32) → (Nat → Nat → Nat → Int64) → Option (GS)} {r : GS} {g : Nat → Nat → Nat → Int32} {w : Nat → Nat → Nat → Int64} {v4 : Int32} (hr39 : ∀ {v4 : Int32} {g : Nat → Nat → Nat → Int32} {w : Nat → Nat → Nat → Int64} , rec39 v4 g w = some r → Ev (EvM mth (d + 1)) mth c00 sc0 (retP (none) c00 Ψ) (lkp es_153) 39 [some (aR 7 i0), some (aI p1), some (aI p2), some (aI p3), some (aI v4)] [] (L0, g, w, q0)) (hΨ : Ψ none (L0, r.1, r.2, q0)) (h : s_X7_lays_39 i0 p1 p2 p3 rec39 v4 g w = some r) : Ev (EvM mth (d + 1)) mth c00 sc0 (retP (none) c00 Ψ) (lkp es_153) 39 [some (aR 7 i0), some (aI p1), some (aI p2), some (aI p3), some (aI v4)] [] (L0, g, w, q0) := by
  unfold s_X7_lays_39 at h
  refine ev_iload (pc' := 41) rfl rfl rfl ?_
  refine ev_i2l (pc' := 42) rfl rfl ?_
  refine ev_aload_n (pc' := 43) rfl rfl rfl ?_
  refine ev_getQ (pc' := 46) rfl rfl rfl ?_
  refine ev_bipush (pc' := 48) rfl rfl (v := (64 : Int32)) (by decide) ?_
  refine ev_lald (pc' := 49) rfl rfl rfl (inR_vp (by decide)) ?_
  refine ev_lcmp (pc' := 50) rfl rfl ?_
  refine ev_if_ge rfl (pc' := 53) rfl (fun hc => ?_) (fun hc => ?_)
  · have h := (if_pos hc).symm.trans h
    obtain rfl := Option.some.inj h
    exact ev_return rfl ⟨rfl, rfl, rfl, hΨ⟩
  · have h := (if_neg hc).symm.trans h
    refine ev_aload_n (pc' := 54) rfl rfl rfl ?_
    refine ev_getQ (pc' := 57) rfl rfl rfl ?_
    refine ev_bipush (pc' := 59) rfl rfl (v := (70 : Int32)) (by decide) ?_
    refine ev_bipush (pc' := 61) rfl rfl (v := (10 : Int32)) (by decide) ?_
    refine ev_iload (pc' := 63) rfl rfl rfl ?_
    refine ev_imul (pc' := 64) rfl rfl ?_
    refine ev_iadd (pc' := 65) rfl rfl ?_
    refine ev_bipush (pc' := 67) rfl rfl (v := (8 : Int32)) (by decide) ?_
    refine ev_iadd (pc' := 68) rfl rfl ?_
    refine ev_dup2 (pc' := 69) rfl rfl rfl rfl ?_
    obtain ⟨hi, h⟩ := gdB h
    refine ev_lald (pc' := 70) rfl rfl rfl (inR_vp hi) ?_
    refine ev_iload_n (pc' := 71) rfl rfl rfl ?_
    refine ev_iload (pc' := 73) rfl rfl rfl ?_
    refine ev_ishr (pc' := 74) rfl rfl ?_
    refine ev_iconst (pc' := 75) rfl rfl (v := (1 : Int32)) (by decide) ?_
    refine ev_iand (pc' := 76) rfl rfl ?_
    refine ev_iconst (pc' := 77) rfl rfl (v := (1 : Int32)) (by decide) ?_
    refine ev_icmp_ne rfl (pc' := 80) rfl (fun hc => ?_) (fun hc => ?_)
    · have h := (if_pos hc).symm.trans h
      refine ev_lconst (pc' := 96) rfl rfl (v := (0 : Int64)) (by decide) ?_
      exact e_X7_lays_96 (hr39 := hr39) hΨ h
    · have h := (if_neg hc).symm.trans h
      refine ev_iload_n (pc' := 81) rfl rfl rfl ?_
      refine ev_iload_n (pc' := 82) rfl rfl rfl ?_
      refine ev_aload_n (pc' := 83) rfl rfl rfl ?_
      refine ev_iload_n (pc' := 84) rfl rfl rfl ?_
      refine ev_iconst (pc' := 85) rfl rfl (v := (3 : Int32)) (by decide) ?_
      obtain ⟨q1, hq1, h⟩ := Option.bind_eq_some_iff.mp h
      refine ev_V3I (pc' := 88) rfl (by decide) rfl mth_118 ⟨Nat.le_of_ble_eq_true rfl, rfl⟩ ⟨Nat.le_refl _, Nat.le_refl _⟩ (d_X7_ofShip hq1) ?_
      refine ev_iadd (pc' := 89) rfl rfl ?_
      refine ev_S2L (pc' := 92) rfl (by decide) rfl mth_134 ⟨Nat.le_of_ble_eq_true rfl, rfl⟩ ⟨Nat.le_refl _, Nat.le_refl _⟩ d_X7_hours ?_
      refine ev_goto (pc' := 96) rfl ?_
      exact e_X7_lays_96 (hr39 := hr39) hΨ h
def s_X7_lays_R39 (i0 : Nat) (p1 : Int32) (p2 : Int32) (p3 : Int32) : Nat → Int32 → (Nat → Nat → Nat → Int32) → (Nat → Nat → Nat → Int64) → Option (GS)
  | 0 => fun _ _ _ => none
  | n + 1 => s_X7_lays_39 i0 p1 p2 p3 (s_X7_lays_R39 i0 p1 p2 p3 n)
theorem e_X7_lays_R39 {d : Nat} {Ψ : Option AV → DS → Prop} {i0 : Nat} {p1 : Int32} {p2 : Int32} {p3 : Int32} {r : GS} (hΨ : Ψ none (L0, r.1, r.2, q0)) : ∀ (n : Nat) {v4 : Int32} {g : Nat → Nat → Nat → Int32} {w : Nat → Nat → Nat → Int64}, s_X7_lays_R39 i0 p1 p2 p3 n v4 g w = some r → Ev (EvM mth (d + 1)) mth c00 sc0 (retP (none) c00 Ψ) (lkp es_153) 39 [some (aR 7 i0), some (aI p1), some (aI p2), some (aI p3), some (aI v4)] [] (L0, g, w, q0) := by
  intro n
  induction n with
  | zero => intros; rename_i h; exact absurd h (by intro h9; cases h9)
  | succ n ih => intros; rename_i h; exact e_X7_lays_39 (hr39 := ih) hΨ h
def s_X7_lays (i0 : Nat) (p1 : Int32) (p2 : Int32) (p3 : Int32) (g : Nat → Nat → Nat → Int32) (w : Nat → Nat → Nat → Int64) : Option (GS) :=
  if inR (((130 : Int32) + ((11 : Int32) * p1)) + (7 : Int32)) 218 = true then
    if inR (((130 : Int32) + ((11 : Int32) * p1)) + (8 : Int32)) 218 = true then
      s_X7_lays_R39 i0 p1 p2 p3 FU (0 : Int32) g (wL (wL w 2218 0 (((130 : Int32) + ((11 : Int32) * p1)) + (7 : Int32)).toNatClampNeg p2.toInt64) 2218 0 (((130 : Int32) + ((11 : Int32) * p1)) + (8 : Int32)).toNatClampNeg p3.toInt64)
    else none
  else none
set_option maxRecDepth 20000 in
set_option maxHeartbeats 2000000 in
theorem d_X7_lays {d : Nat} {i0 : Nat} {p1 : Int32} {p2 : Int32} {p3 : Int32} {g : Nat → Nat → Nat → Int32} {w : Nat → Nat → Nat → Int64} {r : GS} (h : s_X7_lays i0 p1 p2 p3 g w = some r) : Does (EvM mth (d + 2)) 153 [aR 7 i0, aI p1, aI p2, aI p3] (L0, g, w, q0) none (L0, r.1, r.2, q0) := by
  intro Ψ hΨ
  refine ⟨in_153, mth_153, Nat.le_of_ble_eq_true rfl, ?_⟩
  show Ev (EvM mth (d + 1)) mth c00 sc0 (retP (none) c00 Ψ) (lkp es_153) 0 [some (aR 7 i0), some (aI p1), some (aI p2), some (aI p3), none] [] (L0, g, w, q0)
  unfold s_X7_lays at h
  refine ev_aload_n (pc' := 1) rfl rfl rfl ?_
  refine ev_getQ (pc' := 4) rfl rfl rfl ?_
  refine ev_sipush (pc' := 7) rfl rfl (v := (130 : Int32)) (by decide) ?_
  refine ev_bipush (pc' := 9) rfl rfl (v := (11 : Int32)) (by decide) ?_
  refine ev_iload_n (pc' := 10) rfl rfl rfl ?_
  refine ev_imul (pc' := 11) rfl rfl ?_
  refine ev_iadd (pc' := 12) rfl rfl ?_
  refine ev_bipush (pc' := 14) rfl rfl (v := (7 : Int32)) (by decide) ?_
  refine ev_iadd (pc' := 15) rfl rfl ?_
  refine ev_iload_n (pc' := 16) rfl rfl rfl ?_
  refine ev_i2l (pc' := 17) rfl rfl ?_
  obtain ⟨hi, h⟩ := gdB h
  refine ev_last (pc' := 18) rfl rfl rfl (inR_vp hi) ?_
  refine ev_aload_n (pc' := 19) rfl rfl rfl ?_
  refine ev_getQ (pc' := 22) rfl rfl rfl ?_
  refine ev_sipush (pc' := 25) rfl rfl (v := (130 : Int32)) (by decide) ?_
  refine ev_bipush (pc' := 27) rfl rfl (v := (11 : Int32)) (by decide) ?_
  refine ev_iload_n (pc' := 28) rfl rfl rfl ?_
  refine ev_imul (pc' := 29) rfl rfl ?_
  refine ev_iadd (pc' := 30) rfl rfl ?_
  refine ev_bipush (pc' := 32) rfl rfl (v := (8 : Int32)) (by decide) ?_
  refine ev_iadd (pc' := 33) rfl rfl ?_
  refine ev_iload_n (pc' := 34) rfl rfl rfl ?_
  refine ev_i2l (pc' := 35) rfl rfl ?_
  obtain ⟨hi, h⟩ := gdB h
  refine ev_last (pc' := 36) rfl rfl rfl (inR_vp hi) ?_
  refine ev_iconst (pc' := 37) rfl rfl (v := (0 : Int32)) (by decide) ?_
  refine ev_istore (pc' := 39) rfl rfl (l' := [some (aR 7 i0), some (aI p1), some (aI p2), some (aI p3), some (aI (0 : Int32))]) rfl ?_
  exact e_X7_lays_R39 hΨ FU h
def s_X7_isMany_30 (i0 : Nat) (p1 : Int32) (t0 : Bool) (g : Nat → Nat → Nat → Int32) (w : Nat → Nat → Nat → Int64) : Bool :=
  t0
set_option maxRecDepth 20000 in
set_option maxHeartbeats 2000000 in
theorem e_X7_isMany_30 {d : Nat} {Ψ : Option AV → DS → Prop} {i0 : Nat} {p1 : Int32} {r : Bool} {g : Nat → Nat → Nat → Int32} {w : Nat → Nat → Nat → Int64} {t0 : Bool} {x0 : Option AV} {x1 : Option AV} (hΨ : Ψ (some (aI (bI r))) (L0, g, w, q0)) (h : s_X7_isMany_30 i0 p1 t0 g w = r) : Ev (EvM mth (d + 1)) mth c00 sc0 (retP (some .boolean) c00 Ψ) (lkp es_168) 30 [x0, x1] [aI (bI t0)] (L0, g, w, q0) := by
  unfold s_X7_isMany_30 at h
  subst h
  exact ev_ireturn rfl ⟨⟨_, rfl, nar_bI _⟩, rfl, rfl, hΨ⟩
def s_X7_isMany_29 (i0 : Nat) (p1 : Int32) (g : Nat → Nat → Nat → Int32) (w : Nat → Nat → Nat → Int64) : Bool :=
  s_X7_isMany_30 i0 p1 false g w
set_option maxRecDepth 20000 in
set_option maxHeartbeats 2000000 in
theorem e_X7_isMany_29 {d : Nat} {Ψ : Option AV → DS → Prop} {i0 : Nat} {p1 : Int32} {r : Bool} {g : Nat → Nat → Nat → Int32} {w : Nat → Nat → Nat → Int64} {x0 : Option AV} {x1 : Option AV} (hΨ : Ψ (some (aI (bI r))) (L0, g, w, q0)) (h : s_X7_isMany_29 i0 p1 g w = r) : Ev (EvM mth (d + 1)) mth c00 sc0 (retP (some .boolean) c00 Ψ) (lkp es_168) 29 [x0, x1] [] (L0, g, w, q0) := by
  unfold s_X7_isMany_29 at h
  refine ev_iconst (pc' := 30) rfl rfl (v := (0 : Int32)) (by decide) ?_
  exact e_X7_isMany_30 hΨ h
def s_X7_isMany (i0 : Nat) (p1 : Int32) (g : Nat → Nat → Nat → Int32) (w : Nat → Nat → Nat → Int64) : Bool :=
  if (s_X7_in p1.toInt64 (1 : Int64) (4 : Int64) g w) = true then
    if 0 < (lg_cmp p1.toInt64 (w 2218 0 (65 : Int32).toNatClampNeg)) then
      s_X7_isMany_29 i0 p1 g w
    else
      s_X7_isMany_30 i0 p1 true g w
  else
    s_X7_isMany_29 i0 p1 g w
set_option maxRecDepth 20000 in
set_option maxHeartbeats 2000000 in
theorem d_X7_isMany {d : Nat} {i0 : Nat} {p1 : Int32} {g : Nat → Nat → Nat → Int32} {w : Nat → Nat → Nat → Int64} : Does (EvM mth (d + 2)) 168 [aR 7 i0, aI p1] (L0, g, w, q0) (some (aI (bI (s_X7_isMany i0 p1 g w)))) (L0, g, w, q0) := by
  intro Ψ hΨ
  obtain ⟨r, h⟩ : ∃ r, s_X7_isMany i0 p1 g w = r := ⟨_, rfl⟩
  rw [h] at hΨ
  refine ⟨in_168, mth_168, Nat.le_of_ble_eq_true rfl, ?_⟩
  show Ev (EvM mth (d + 1)) mth c00 sc0 (retP (some .boolean) c00 Ψ) (lkp es_168) 0 [some (aR 7 i0), some (aI p1)] [] (L0, g, w, q0)
  unfold s_X7_isMany at h
  refine ev_iload_n (pc' := 1) rfl rfl rfl ?_
  refine ev_i2l (pc' := 2) rfl rfl ?_
  refine ev_lconst (pc' := 3) rfl rfl (v := (1 : Int64)) (by decide) ?_
  refine ev_ldc2_w (pc' := 6) rfl rfl (v := (4 : Int64)) (by decide) ?_
  refine ev_S3I (pc' := 9) rfl (by decide) rfl mth_115 ⟨Nat.le_of_ble_eq_true rfl, rfl⟩ ⟨Nat.le_refl _, Nat.le_refl _⟩ d_X7_in ?_
  refine ev_ifB_eq rfl (pc' := 12) rfl (fun hc => ?_) (fun hc => ?_)
  · have h := (if_neg hc).symm.trans h
    exact e_X7_isMany_29 hΨ h
  · have h := (if_pos hc).symm.trans h
    refine ev_iload_n (pc' := 13) rfl rfl rfl ?_
    refine ev_i2l (pc' := 14) rfl rfl ?_
    refine ev_aload_n (pc' := 15) rfl rfl rfl ?_
    refine ev_getQ (pc' := 18) rfl rfl rfl ?_
    refine ev_bipush (pc' := 20) rfl rfl (v := (65 : Int32)) (by decide) ?_
    refine ev_lald (pc' := 21) rfl rfl rfl (inR_vp (by decide)) ?_
    refine ev_lcmp (pc' := 22) rfl rfl ?_
    refine ev_if_gt rfl (pc' := 25) rfl (fun hc => ?_) (fun hc => ?_)
    · have h := (if_pos hc).symm.trans h
      exact e_X7_isMany_29 hΨ h
    · have h := (if_neg hc).symm.trans h
      refine ev_iconst (pc' := 26) rfl rfl (v := (1 : Int32)) (by decide) ?_
      refine ev_goto (pc' := 30) rfl ?_
      exact e_X7_isMany_30 hΨ h
def s_X7_hoursIn_27 (i0 : Nat) (p1 : Int64) (rec5 : Int32 → Int32 → (Nat → Nat → Nat → Int32) → (Nat → Nat → Nat → Int64) → Option (Int32)) (t0 : Int32) (t1 : Bool) (v4 : Int32) (g : Nat → Nat → Nat → Int32) (w : Nat → Nat → Nat → Int64) : Option (Int32) :=
  rec5 (t0 + (bI t1)) (v4 + 1) g w
set_option maxRecDepth 20000 in
set_option maxHeartbeats 2000000 in
theorem e_X7_hoursIn_27 {d : Nat} {Ψ : Option AV → DS → Prop} {i0 : Nat} {p1 : Int64} {rec5 : Int32 → Int32 → (Nat → Nat → Nat → Int32) → (Nat → Nat → Nat → Int64) → Option (Int32)} {r : Int32} {g : Nat → Nat → Nat → Int32} {w : Nat → Nat → Nat → Int64} {t0 : Int32} {t1 : Bool} {v4 : Int32} {x0 : Option AV} {x2 : Option AV} {x3 : Option AV} (hr5 : ∀ {v3 : Int32} {v4 : Int32} {x0 : Option AV} {x2 : Option AV} , rec5 v3 v4 g w = some r → Ev (EvM mth (d + 1)) mth c00 sc0 (retP (some .int) c00 Ψ) (lkp es_180) 5 [x0, some (aL p1), x2, some (aI v3), some (aI v4)] [] (L0, g, w, q0)) (hΨ : Ψ (some (aI r)) (L0, g, w, q0)) (h : s_X7_hoursIn_27 i0 p1 rec5 t0 t1 v4 g w = some r) : Ev (EvM mth (d + 1)) mth c00 sc0 (retP (some .int) c00 Ψ) (lkp es_180) 27 [x0, some (aL p1), x2, x3, some (aI v4)] [aI (bI t1), aI t0] (L0, g, w, q0) := by
  unfold s_X7_hoursIn_27 at h
  refine ev_iadd (pc' := 28) rfl rfl ?_
  refine ev_istore_n (pc' := 29) rfl rfl (l' := [x0, some (aL p1), (klO x2), some (aI (t0 + (bI t1))), some (aI v4)]) rfl ?_
  refine ev_iinc (pc' := 32) rfl rfl (l' := [x0, some (aL p1), (klO x2), some (aI (t0 + (bI t1))), some (aI (v4 + 1))]) rfl (ii_1 _) rfl ?_
  refine ev_goto (pc' := 5) rfl ?_
  exact hr5 h
def s_X7_hoursIn_5 (i0 : Nat) (p1 : Int64) (rec5 : Int32 → Int32 → (Nat → Nat → Nat → Int32) → (Nat → Nat → Nat → Int64) → Option (Int32)) (v3 : Int32) (v4 : Int32) (g : Nat → Nat → Nat → Int32) (w : Nat → Nat → Nat → Int64) : Option (Int32) :=
  if (48 : Int32) ≤ v4 then
    some (v3)
  else
    if (s_X7_has p1 v4 g w) = true then
      s_X7_hoursIn_27 i0 p1 rec5 v3 true v4 g w
    else
      s_X7_hoursIn_27 i0 p1 rec5 v3 false v4 g w
set_option maxRecDepth 20000 in
set_option maxHeartbeats 2000000 in
theorem e_X7_hoursIn_5 {d : Nat} {Ψ : Option AV → DS → Prop} {i0 : Nat} {p1 : Int64} {rec5 : Int32 → Int32 → (Nat → Nat → Nat → Int32) → (Nat → Nat → Nat → Int64) → Option (Int32)} {r : Int32} {g : Nat → Nat → Nat → Int32} {w : Nat → Nat → Nat → Int64} {v3 : Int32} {v4 : Int32} {x0 : Option AV} {x2 : Option AV} (hr5 : ∀ {v3 : Int32} {v4 : Int32} {x0 : Option AV} {x2 : Option AV} , rec5 v3 v4 g w = some r → Ev (EvM mth (d + 1)) mth c00 sc0 (retP (some .int) c00 Ψ) (lkp es_180) 5 [x0, some (aL p1), x2, some (aI v3), some (aI v4)] [] (L0, g, w, q0)) (hΨ : Ψ (some (aI r)) (L0, g, w, q0)) (h : s_X7_hoursIn_5 i0 p1 rec5 v3 v4 g w = some r) : Ev (EvM mth (d + 1)) mth c00 sc0 (retP (some .int) c00 Ψ) (lkp es_180) 5 [x0, some (aL p1), x2, some (aI v3), some (aI v4)] [] (L0, g, w, q0) := by
  unfold s_X7_hoursIn_5 at h
  refine ev_iload (pc' := 7) rfl rfl rfl ?_
  refine ev_bipush (pc' := 9) rfl rfl (v := (48 : Int32)) (by decide) ?_
  refine ev_icmp_ge rfl (pc' := 12) rfl (fun hc => ?_) (fun hc => ?_)
  · have h := (if_pos hc).symm.trans h
    refine ev_iload_n (pc' := 36) rfl rfl rfl ?_
    obtain rfl := Option.some.inj h
    exact ev_ireturn rfl ⟨⟨_, rfl, rfl⟩, rfl, rfl, hΨ⟩
  · have h := (if_neg hc).symm.trans h
    refine ev_iload_n (pc' := 13) rfl rfl rfl ?_
    refine ev_lload_n (pc' := 14) rfl rfl rfl ?_
    refine ev_iload (pc' := 16) rfl rfl rfl ?_
    refine ev_S2I (pc' := 19) rfl (by decide) rfl mth_133 ⟨Nat.le_of_ble_eq_true rfl, rfl⟩ ⟨Nat.le_refl _, Nat.le_refl _⟩ d_X7_has ?_
    refine ev_ifB_eq rfl (pc' := 22) rfl (fun hc => ?_) (fun hc => ?_)
    · have h := (if_neg hc).symm.trans h
      refine ev_iconst (pc' := 27) rfl rfl (v := (0 : Int32)) (by decide) ?_
      exact e_X7_hoursIn_27 (hr5 := hr5) hΨ h
    · have h := (if_pos hc).symm.trans h
      refine ev_iconst (pc' := 23) rfl rfl (v := (1 : Int32)) (by decide) ?_
      refine ev_goto (pc' := 27) rfl ?_
      exact e_X7_hoursIn_27 (hr5 := hr5) hΨ h
def s_X7_hoursIn_R5 (i0 : Nat) (p1 : Int64) : Nat → Int32 → Int32 → (Nat → Nat → Nat → Int32) → (Nat → Nat → Nat → Int64) → Option (Int32)
  | 0 => fun _ _ _ _ => none
  | n + 1 => s_X7_hoursIn_5 i0 p1 (s_X7_hoursIn_R5 i0 p1 n)
theorem e_X7_hoursIn_R5 {d : Nat} {Ψ : Option AV → DS → Prop} {i0 : Nat} {p1 : Int64} {r : Int32} {g : Nat → Nat → Nat → Int32} {w : Nat → Nat → Nat → Int64} (hΨ : Ψ (some (aI r)) (L0, g, w, q0)) : ∀ (n : Nat) {v3 : Int32} {v4 : Int32} {x0 : Option AV} {x2 : Option AV}, s_X7_hoursIn_R5 i0 p1 n v3 v4 g w = some r → Ev (EvM mth (d + 1)) mth c00 sc0 (retP (some .int) c00 Ψ) (lkp es_180) 5 [x0, some (aL p1), x2, some (aI v3), some (aI v4)] [] (L0, g, w, q0) := by
  intro n
  induction n with
  | zero => intros; rename_i h; exact absurd h (by intro h9; cases h9)
  | succ n ih => intros; rename_i h; exact e_X7_hoursIn_5 (hr5 := ih) hΨ h
def s_X7_hoursIn (i0 : Nat) (p1 : Int64) (g : Nat → Nat → Nat → Int32) (w : Nat → Nat → Nat → Int64) : Option (Int32) :=
  s_X7_hoursIn_R5 i0 p1 FU (0 : Int32) (0 : Int32) g w
set_option maxRecDepth 20000 in
set_option maxHeartbeats 2000000 in
theorem d_X7_hoursIn {d : Nat} {i0 : Nat} {p1 : Int64} {g : Nat → Nat → Nat → Int32} {w : Nat → Nat → Nat → Int64} {r : Int32} (h : s_X7_hoursIn i0 p1 g w = some r) : Does (EvM mth (d + 2)) 180 [aR 7 i0, aL p1] (L0, g, w, q0) (some (aI r)) (L0, g, w, q0) := by
  intro Ψ hΨ
  refine ⟨in_180, mth_180, Nat.le_of_ble_eq_true rfl, ?_⟩
  show Ev (EvM mth (d + 1)) mth c00 sc0 (retP (some .int) c00 Ψ) (lkp es_180) 0 [some (aR 7 i0), some (aL p1), none, none, none] [] (L0, g, w, q0)
  unfold s_X7_hoursIn at h
  refine ev_iconst (pc' := 1) rfl rfl (v := (0 : Int32)) (by decide) ?_
  refine ev_istore_n (pc' := 2) rfl rfl (l' := [some (aR 7 i0), some (aL p1), none, some (aI (0 : Int32)), none]) rfl ?_
  refine ev_iconst (pc' := 3) rfl rfl (v := (0 : Int32)) (by decide) ?_
  refine ev_istore (pc' := 5) rfl rfl (l' := [some (aR 7 i0), some (aL p1), none, some (aI (0 : Int32)), some (aI (0 : Int32))]) rfl ?_
  exact e_X7_hoursIn_R5 hΨ FU h
def s_X7_priceRule_69 (i0 : Nat) (p1 : Int32) (p2 : Int32) (p3 : Int32) (p4 : Int32) (g : Nat → Nat → Nat → Int32) (w : Nat → Nat → Nat → Int64) : Option (Int32 × GS) :=
  some (((-1 : Int32), g, w))
set_option maxRecDepth 20000 in
set_option maxHeartbeats 2000000 in
theorem e_X7_priceRule_69 {d : Nat} {Ψ : Option AV → DS → Prop} {i0 : Nat} {p1 : Int32} {p2 : Int32} {p3 : Int32} {p4 : Int32} {r : Int32 × GS} {g : Nat → Nat → Nat → Int32} {w : Nat → Nat → Nat → Int64} {x0 : Option AV} {x1 : Option AV} {x2 : Option AV} {x3 : Option AV} {x4 : Option AV} (hΨ : Ψ (some (aI r.1)) (L0, r.2.1, r.2.2, q0)) (h : s_X7_priceRule_69 i0 p1 p2 p3 p4 g w = some r) : Ev (EvM mth (d + 1)) mth c00 sc0 (retP (some .int) c00 Ψ) (lkp es_182) 69 [x0, x1, x2, x3, x4] [] (L0, g, w, q0) := by
  unfold s_X7_priceRule_69 at h
  refine ev_iconst (pc' := 70) rfl rfl (v := (-1 : Int32)) (by decide) ?_
  obtain rfl := Option.some.inj h
  exact ev_ireturn rfl ⟨⟨_, rfl, rfl⟩, rfl, rfl, hΨ⟩
def s_X7_priceRule_63 (i0 : Nat) (p1 : Int32) (p2 : Int32) (p3 : Int32) (p4 : Int32) (t0 : Int64) (t1 : Int64) (t2 : Int64) (g : Nat → Nat → Nat → Int32) (w : Nat → Nat → Nat → Int64) : Option (Int32 × GS) :=
  if (s_X7_in t0 t1 t2 g w) = true then
    if (g 7 i0 5) ≠ (12 : Int32) then
      if inR (g 7 i0 5) 12 = true then
        if inR ((gI g 1012 9 (g 7 i0 5).toNatClampNeg p1) 7 i0 5) 12 = true then
          if inR ((gI (gI g 1012 9 (g 7 i0 5).toNatClampNeg p1) 1012 10 ((gI g 1012 9 (g 7 i0 5).toNatClampNeg p1) 7 i0 5).toNatClampNeg p2) 7 i0 5) 12 = true then
            if inR ((gI (gI (gI g 1012 9 (g 7 i0 5).toNatClampNeg p1) 1012 10 ((gI g 1012 9 (g 7 i0 5).toNatClampNeg p1) 7 i0 5).toNatClampNeg p2) 1012 11 ((gI (gI g 1012 9 (g 7 i0 5).toNatClampNeg p1) 1012 10 ((gI g 1012 9 (g 7 i0 5).toNatClampNeg p1) 7 i0 5).toNatClampNeg p2) 7 i0 5).toNatClampNeg p3) 7 i0 5) 12 = true then
              some ((((gI (gI (gI (gI (gI g 1012 9 (g 7 i0 5).toNatClampNeg p1) 1012 10 ((gI g 1012 9 (g 7 i0 5).toNatClampNeg p1) 7 i0 5).toNatClampNeg p2) 1012 11 ((gI (gI g 1012 9 (g 7 i0 5).toNatClampNeg p1) 1012 10 ((gI g 1012 9 (g 7 i0 5).toNatClampNeg p1) 7 i0 5).toNatClampNeg p2) 7 i0 5).toNatClampNeg p3) 1012 12 ((gI (gI (gI g 1012 9 (g 7 i0 5).toNatClampNeg p1) 1012 10 ((gI g 1012 9 (g 7 i0 5).toNatClampNeg p1) 7 i0 5).toNatClampNeg p2) 1012 11 ((gI (gI g 1012 9 (g 7 i0 5).toNatClampNeg p1) 1012 10 ((gI g 1012 9 (g 7 i0 5).toNatClampNeg p1) 7 i0 5).toNatClampNeg p2) 7 i0 5).toNatClampNeg p3) 7 i0 5).toNatClampNeg p4) 7 i0 5 (((gI (gI (gI (gI g 1012 9 (g 7 i0 5).toNatClampNeg p1) 1012 10 ((gI g 1012 9 (g 7 i0 5).toNatClampNeg p1) 7 i0 5).toNatClampNeg p2) 1012 11 ((gI (gI g 1012 9 (g 7 i0 5).toNatClampNeg p1) 1012 10 ((gI g 1012 9 (g 7 i0 5).toNatClampNeg p1) 7 i0 5).toNatClampNeg p2) 7 i0 5).toNatClampNeg p3) 1012 12 ((gI (gI (gI g 1012 9 (g 7 i0 5).toNatClampNeg p1) 1012 10 ((gI g 1012 9 (g 7 i0 5).toNatClampNeg p1) 7 i0 5).toNatClampNeg p2) 1012 11 ((gI (gI g 1012 9 (g 7 i0 5).toNatClampNeg p1) 1012 10 ((gI g 1012 9 (g 7 i0 5).toNatClampNeg p1) 7 i0 5).toNatClampNeg p2) 7 i0 5).toNatClampNeg p3) 7 i0 5).toNatClampNeg p4) 7 i0 5) + (1 : Int32))) 7 i0 5), (gI (gI (gI (gI (gI g 1012 9 (g 7 i0 5).toNatClampNeg p1) 1012 10 ((gI g 1012 9 (g 7 i0 5).toNatClampNeg p1) 7 i0 5).toNatClampNeg p2) 1012 11 ((gI (gI g 1012 9 (g 7 i0 5).toNatClampNeg p1) 1012 10 ((gI g 1012 9 (g 7 i0 5).toNatClampNeg p1) 7 i0 5).toNatClampNeg p2) 7 i0 5).toNatClampNeg p3) 1012 12 ((gI (gI (gI g 1012 9 (g 7 i0 5).toNatClampNeg p1) 1012 10 ((gI g 1012 9 (g 7 i0 5).toNatClampNeg p1) 7 i0 5).toNatClampNeg p2) 1012 11 ((gI (gI g 1012 9 (g 7 i0 5).toNatClampNeg p1) 1012 10 ((gI g 1012 9 (g 7 i0 5).toNatClampNeg p1) 7 i0 5).toNatClampNeg p2) 7 i0 5).toNatClampNeg p3) 7 i0 5).toNatClampNeg p4) 7 i0 5 (((gI (gI (gI (gI g 1012 9 (g 7 i0 5).toNatClampNeg p1) 1012 10 ((gI g 1012 9 (g 7 i0 5).toNatClampNeg p1) 7 i0 5).toNatClampNeg p2) 1012 11 ((gI (gI g 1012 9 (g 7 i0 5).toNatClampNeg p1) 1012 10 ((gI g 1012 9 (g 7 i0 5).toNatClampNeg p1) 7 i0 5).toNatClampNeg p2) 7 i0 5).toNatClampNeg p3) 1012 12 ((gI (gI (gI g 1012 9 (g 7 i0 5).toNatClampNeg p1) 1012 10 ((gI g 1012 9 (g 7 i0 5).toNatClampNeg p1) 7 i0 5).toNatClampNeg p2) 1012 11 ((gI (gI g 1012 9 (g 7 i0 5).toNatClampNeg p1) 1012 10 ((gI g 1012 9 (g 7 i0 5).toNatClampNeg p1) 7 i0 5).toNatClampNeg p2) 7 i0 5).toNatClampNeg p3) 7 i0 5).toNatClampNeg p4) 7 i0 5) + (1 : Int32))), w))
            else none
          else none
        else none
      else none
    else
      some (((-3 : Int32), g, w))
  else
    s_X7_priceRule_69 i0 p1 p2 p3 p4 g w
set_option maxRecDepth 20000 in
set_option maxHeartbeats 2000000 in
theorem e_X7_priceRule_63 {d : Nat} {Ψ : Option AV → DS → Prop} {i0 : Nat} {p1 : Int32} {p2 : Int32} {p3 : Int32} {p4 : Int32} {r : Int32 × GS} {g : Nat → Nat → Nat → Int32} {w : Nat → Nat → Nat → Int64} {t0 : Int64} {t1 : Int64} {t2 : Int64} (hΨ : Ψ (some (aI r.1)) (L0, r.2.1, r.2.2, q0)) (h : s_X7_priceRule_63 i0 p1 p2 p3 p4 t0 t1 t2 g w = some r) : Ev (EvM mth (d + 1)) mth c00 sc0 (retP (some .int) c00 Ψ) (lkp es_182) 63 [some (aR 7 i0), some (aI p1), some (aI p2), some (aI p3), some (aI p4)] [aL t2, aL t1, aL t0] (L0, g, w, q0) := by
  unfold s_X7_priceRule_63 at h
  refine ev_S3I (pc' := 66) rfl (by decide) rfl mth_115 ⟨Nat.le_of_ble_eq_true rfl, rfl⟩ ⟨Nat.le_refl _, Nat.le_refl _⟩ d_X7_in ?_
  refine ev_ifB_ne rfl (pc' := 69) rfl (fun hc => ?_) (fun hc => ?_)
  · have h := (if_pos hc).symm.trans h
    refine ev_aload_n (pc' := 72) rfl rfl rfl ?_
    refine ev_getI (pc' := 75) rfl rfl ?_
    refine ev_bipush (pc' := 77) rfl rfl (v := (12 : Int32)) (by decide) ?_
    refine ev_icmp_ne rfl (pc' := 80) rfl (fun hc => ?_) (fun hc => ?_)
    · have h := (if_pos hc).symm.trans h
      refine ev_aload_n (pc' := 84) rfl rfl rfl ?_
      refine ev_getQ (pc' := 87) rfl rfl rfl ?_
      refine ev_aload_n (pc' := 88) rfl rfl rfl ?_
      refine ev_getI (pc' := 91) rfl rfl ?_
      refine ev_iload_n (pc' := 92) rfl rfl rfl ?_
      obtain ⟨hi, h⟩ := gdB h
      refine ev_iast (pc' := 93) rfl rfl rfl (inR_vp hi) ?_
      refine ev_aload_n (pc' := 94) rfl rfl rfl ?_
      refine ev_getQ (pc' := 97) rfl rfl rfl ?_
      refine ev_aload_n (pc' := 98) rfl rfl rfl ?_
      refine ev_getI (pc' := 101) rfl rfl ?_
      refine ev_iload_n (pc' := 102) rfl rfl rfl ?_
      obtain ⟨hi, h⟩ := gdB h
      refine ev_iast (pc' := 103) rfl rfl rfl (inR_vp hi) ?_
      refine ev_aload_n (pc' := 104) rfl rfl rfl ?_
      refine ev_getQ (pc' := 107) rfl rfl rfl ?_
      refine ev_aload_n (pc' := 108) rfl rfl rfl ?_
      refine ev_getI (pc' := 111) rfl rfl ?_
      refine ev_iload_n (pc' := 112) rfl rfl rfl ?_
      obtain ⟨hi, h⟩ := gdB h
      refine ev_iast (pc' := 113) rfl rfl rfl (inR_vp hi) ?_
      refine ev_aload_n (pc' := 114) rfl rfl rfl ?_
      refine ev_getQ (pc' := 117) rfl rfl rfl ?_
      refine ev_aload_n (pc' := 118) rfl rfl rfl ?_
      refine ev_getI (pc' := 121) rfl rfl ?_
      refine ev_iload (pc' := 123) rfl rfl rfl ?_
      obtain ⟨hi, h⟩ := gdB h
      refine ev_iast (pc' := 124) rfl rfl rfl (inR_vp hi) ?_
      refine ev_aload_n (pc' := 125) rfl rfl rfl ?_
      refine ev_dup (pc' := 126) rfl rfl rfl ?_
      refine ev_getI (pc' := 129) rfl rfl ?_
      refine ev_iconst (pc' := 130) rfl rfl (v := (1 : Int32)) (by decide) ?_
      refine ev_iadd (pc' := 131) rfl rfl ?_
      refine ev_putI (pc' := 134) rfl rfl ?_
      refine ev_aload_n (pc' := 135) rfl rfl rfl ?_
      refine ev_getI (pc' := 138) rfl rfl ?_
      obtain rfl := Option.some.inj h
      exact ev_ireturn rfl ⟨⟨_, rfl, rfl⟩, rfl, rfl, hΨ⟩
    · have h := (if_neg hc).symm.trans h
      refine ev_bipush (pc' := 82) rfl rfl (v := (-3 : Int32)) (by decide) ?_
      obtain rfl := Option.some.inj h
      exact ev_ireturn rfl ⟨⟨_, rfl, rfl⟩, rfl, rfl, hΨ⟩
  · have h := (if_neg hc).symm.trans h
    exact e_X7_priceRule_69 hΨ h
def s_X7_priceRule_50 (i0 : Nat) (p1 : Int32) (p2 : Int32) (p3 : Int32) (p4 : Int32) (t0 : Int64) (t1 : Int64) (g : Nat → Nat → Nat → Int32) (w : Nat → Nat → Nat → Int64) : Option (Int32 × GS) :=
  if p3 ≠ 0 then
    s_X7_priceRule_63 i0 p1 p2 p3 p4 t0 t1 (1000 : Int64) g w
  else
    s_X7_priceRule_63 i0 p1 p2 p3 p4 t0 t1 (100000 : Int64) g w
set_option maxRecDepth 20000 in
set_option maxHeartbeats 2000000 in
theorem e_X7_priceRule_50 {d : Nat} {Ψ : Option AV → DS → Prop} {i0 : Nat} {p1 : Int32} {p2 : Int32} {p3 : Int32} {p4 : Int32} {r : Int32 × GS} {g : Nat → Nat → Nat → Int32} {w : Nat → Nat → Nat → Int64} {t0 : Int64} {t1 : Int64} (hΨ : Ψ (some (aI r.1)) (L0, r.2.1, r.2.2, q0)) (h : s_X7_priceRule_50 i0 p1 p2 p3 p4 t0 t1 g w = some r) : Ev (EvM mth (d + 1)) mth c00 sc0 (retP (some .int) c00 Ψ) (lkp es_182) 50 [some (aR 7 i0), some (aI p1), some (aI p2), some (aI p3), some (aI p4)] [aL t1, aL t0] (L0, g, w, q0) := by
  unfold s_X7_priceRule_50 at h
  refine ev_iload_n (pc' := 51) rfl rfl rfl ?_
  refine ev_if_ne rfl (pc' := 54) rfl (fun hc => ?_) (fun hc => ?_)
  · have h := (if_pos hc).symm.trans h
    refine ev_ldc2_w (pc' := 63) rfl rfl (v := (1000 : Int64)) (by decide) ?_
    exact e_X7_priceRule_63 hΨ h
  · have h := (if_neg hc).symm.trans h
    refine ev_ldc2_w (pc' := 57) rfl rfl (v := (100000 : Int64)) (by decide) ?_
    refine ev_goto (pc' := 63) rfl ?_
    exact e_X7_priceRule_63 hΨ h
def s_X7_priceRule (i0 : Nat) (p1 : Int32) (p2 : Int32) (p3 : Int32) (p4 : Int32) (g : Nat → Nat → Nat → Int32) (w : Nat → Nat → Nat → Int64) : Option (Int32 × GS) :=
  if (s_X7_in p1.toInt64 (0 : Int64) (6 : Int64) g w) = true then
    if (s_X7_in p2.toInt64 (0 : Int64) (400 : Int64) g w) = true then
      if (s_X7_in p3.toInt64 (0 : Int64) (1 : Int64) g w) = true then
        if p3 ≠ 0 then
          s_X7_priceRule_50 i0 p1 p2 p3 p4 p4.toInt64 (-100 : Int64) g w
        else
          s_X7_priceRule_50 i0 p1 p2 p3 p4 p4.toInt64 (-1000 : Int64) g w
      else
        s_X7_priceRule_69 i0 p1 p2 p3 p4 g w
    else
      s_X7_priceRule_69 i0 p1 p2 p3 p4 g w
  else
    s_X7_priceRule_69 i0 p1 p2 p3 p4 g w
set_option maxRecDepth 20000 in
set_option maxHeartbeats 2000000 in
theorem d_X7_priceRule {d : Nat} {i0 : Nat} {p1 : Int32} {p2 : Int32} {p3 : Int32} {p4 : Int32} {g : Nat → Nat → Nat → Int32} {w : Nat → Nat → Nat → Int64} {r : Int32 × GS} (h : s_X7_priceRule i0 p1 p2 p3 p4 g w = some r) : Does (EvM mth (d + 2)) 182 [aR 7 i0, aI p1, aI p2, aI p3, aI p4] (L0, g, w, q0) (some (aI r.1)) (L0, r.2.1, r.2.2, q0) := by
  intro Ψ hΨ
  refine ⟨in_182, mth_182, Nat.le_of_ble_eq_true rfl, ?_⟩
  show Ev (EvM mth (d + 1)) mth c00 sc0 (retP (some .int) c00 Ψ) (lkp es_182) 0 [some (aR 7 i0), some (aI p1), some (aI p2), some (aI p3), some (aI p4)] [] (L0, g, w, q0)
  unfold s_X7_priceRule at h
  refine ev_iload_n (pc' := 1) rfl rfl rfl ?_
  refine ev_i2l (pc' := 2) rfl rfl ?_
  refine ev_lconst (pc' := 3) rfl rfl (v := (0 : Int64)) (by decide) ?_
  refine ev_ldc2_w (pc' := 6) rfl rfl (v := (6 : Int64)) (by decide) ?_
  refine ev_S3I (pc' := 9) rfl (by decide) rfl mth_115 ⟨Nat.le_of_ble_eq_true rfl, rfl⟩ ⟨Nat.le_refl _, Nat.le_refl _⟩ d_X7_in ?_
  refine ev_ifB_eq rfl (pc' := 12) rfl (fun hc => ?_) (fun hc => ?_)
  · have h := (if_neg hc).symm.trans h
    exact e_X7_priceRule_69 hΨ h
  · have h := (if_pos hc).symm.trans h
    refine ev_iload_n (pc' := 13) rfl rfl rfl ?_
    refine ev_i2l (pc' := 14) rfl rfl ?_
    refine ev_lconst (pc' := 15) rfl rfl (v := (0 : Int64)) (by decide) ?_
    refine ev_ldc2_w (pc' := 18) rfl rfl (v := (400 : Int64)) (by decide) ?_
    refine ev_S3I (pc' := 21) rfl (by decide) rfl mth_115 ⟨Nat.le_of_ble_eq_true rfl, rfl⟩ ⟨Nat.le_refl _, Nat.le_refl _⟩ d_X7_in ?_
    refine ev_ifB_eq rfl (pc' := 24) rfl (fun hc => ?_) (fun hc => ?_)
    · have h := (if_neg hc).symm.trans h
      exact e_X7_priceRule_69 hΨ h
    · have h := (if_pos hc).symm.trans h
      refine ev_iload_n (pc' := 25) rfl rfl rfl ?_
      refine ev_i2l (pc' := 26) rfl rfl ?_
      refine ev_lconst (pc' := 27) rfl rfl (v := (0 : Int64)) (by decide) ?_
      refine ev_lconst (pc' := 28) rfl rfl (v := (1 : Int64)) (by decide) ?_
      refine ev_S3I (pc' := 31) rfl (by decide) rfl mth_115 ⟨Nat.le_of_ble_eq_true rfl, rfl⟩ ⟨Nat.le_refl _, Nat.le_refl _⟩ d_X7_in ?_
      refine ev_ifB_eq rfl (pc' := 34) rfl (fun hc => ?_) (fun hc => ?_)
      · have h := (if_neg hc).symm.trans h
        exact e_X7_priceRule_69 hΨ h
      · have h := (if_pos hc).symm.trans h
        refine ev_iload (pc' := 36) rfl rfl rfl ?_
        refine ev_i2l (pc' := 37) rfl rfl ?_
        refine ev_iload_n (pc' := 38) rfl rfl rfl ?_
        refine ev_if_ne rfl (pc' := 41) rfl (fun hc => ?_) (fun hc => ?_)
        · have h := (if_pos hc).symm.trans h
          refine ev_ldc2_w (pc' := 50) rfl rfl (v := (-100 : Int64)) (by decide) ?_
          exact e_X7_priceRule_50 hΨ h
        · have h := (if_neg hc).symm.trans h
          refine ev_ldc2_w (pc' := 44) rfl rfl (v := (-1000 : Int64)) (by decide) ?_
          refine ev_goto (pc' := 50) rfl ?_
          exact e_X7_priceRule_50 hΨ h
def s_X0_shareBasin_19 (i0 : Nat) (p1 : Nat) (p2 : Nat) (t0 : Bool) (g : Nat → Nat → Nat → Int32) (w : Nat → Nat → Nat → Int64) : Option (Bool) :=
  some (t0)
set_option maxRecDepth 20000 in
set_option maxHeartbeats 2000000 in
theorem e_X0_shareBasin_19 {d : Nat} {Ψ : Option AV → DS → Prop} {i0 : Nat} {p1 : Nat} {p2 : Nat} {r : Bool} {g : Nat → Nat → Nat → Int32} {w : Nat → Nat → Nat → Int64} {t0 : Bool} {x0 : Option AV} {x1 : Option AV} {x2 : Option AV} (hΨ : Ψ (some (aI (bI r))) (L0, g, w, q0)) (h : s_X0_shareBasin_19 i0 p1 p2 t0 g w = some r) : Ev (EvM mth (d + 2)) mth c00 sc0 (retP (some .boolean) c00 Ψ) (lkp es_3) 19 [x0, x1, x2] [aI (bI t0)] (L0, g, w, q0) := by
  unfold s_X0_shareBasin_19 at h
  obtain rfl := Option.some.inj h
  exact ev_ireturn rfl ⟨⟨_, rfl, nar_bI _⟩, rfl, rfl, hΨ⟩
def s_X0_shareBasin (i0 : Nat) (p1 : Nat) (p2 : Nat) (g : Nat → Nat → Nat → Int32) (w : Nat → Nat → Nat → Int64) : Option (Bool) :=
  (s_X0_basinsOf i0 p1 g w).bind fun q1 =>
  (s_X0_basinsOf i0 p2 g w).bind fun q2 =>
  if (q1 &&& q2) = 0 then
    s_X0_shareBasin_19 i0 p1 p2 false g w
  else
    s_X0_shareBasin_19 i0 p1 p2 true g w
set_option maxRecDepth 20000 in
set_option maxHeartbeats 2000000 in
theorem d_X0_shareBasin {d : Nat} {i0 : Nat} {p1 : Nat} {p2 : Nat} {g : Nat → Nat → Nat → Int32} {w : Nat → Nat → Nat → Int64} {r : Bool} (h : s_X0_shareBasin i0 p1 p2 g w = some r) : Does (EvM mth (d + 3)) 3 [aR 0 i0, aR 4 p1, aR 4 p2] (L0, g, w, q0) (some (aI (bI r))) (L0, g, w, q0) := by
  intro Ψ hΨ
  refine ⟨in_3, mth_3, Nat.le_of_ble_eq_true rfl, ?_⟩
  show Ev (EvM mth (d + 2)) mth c00 sc0 (retP (some .boolean) c00 Ψ) (lkp es_3) 0 [some (aR 0 i0), some (aR 4 p1), some (aR 4 p2)] [] (L0, g, w, q0)
  unfold s_X0_shareBasin at h
  refine ev_aload_n (pc' := 1) rfl rfl rfl ?_
  refine ev_aload_n (pc' := 2) rfl rfl rfl ?_
  obtain ⟨q1, hq1, h⟩ := Option.bind_eq_some_iff.mp h
  refine ev_V2I (pc' := 5) rfl (by decide) rfl mth_2 ⟨Nat.le_of_ble_eq_true rfl, rfl⟩ ⟨Nat.le_refl _, Nat.le_refl _⟩ (d_X0_basinsOf hq1) ?_
  refine ev_aload_n (pc' := 6) rfl rfl rfl ?_
  refine ev_aload_n (pc' := 7) rfl rfl rfl ?_
  obtain ⟨q2, hq2, h⟩ := Option.bind_eq_some_iff.mp h
  refine ev_V2I (pc' := 10) rfl (by decide) rfl mth_2 ⟨Nat.le_of_ble_eq_true rfl, rfl⟩ ⟨Nat.le_refl _, Nat.le_refl _⟩ (d_X0_basinsOf hq2) ?_
  refine ev_iand (pc' := 11) rfl rfl ?_
  refine ev_if_eq rfl (pc' := 14) rfl (fun hc => ?_) (fun hc => ?_)
  · have h := (if_pos hc).symm.trans h
    refine ev_iconst (pc' := 19) rfl rfl (v := (0 : Int32)) (by decide) ?_
    exact e_X0_shareBasin_19 hΨ h
  · have h := (if_neg hc).symm.trans h
    refine ev_iconst (pc' := 15) rfl rfl (v := (1 : Int32)) (by decide) ?_
    refine ev_goto (pc' := 19) rfl ?_
    exact e_X0_shareBasin_19 hΨ h
def s_X1_lastBerth_28 (i0 : Nat) (p1 : Int32) (t0 : Int32) (g : Nat → Nat → Nat → Int32) (w : Nat → Nat → Nat → Int64) : Option (Int32) :=
  some (t0)
set_option maxRecDepth 20000 in
set_option maxHeartbeats 2000000 in
theorem e_X1_lastBerth_28 {d : Nat} {Ψ : Option AV → DS → Prop} {i0 : Nat} {p1 : Int32} {r : Int32} {g : Nat → Nat → Nat → Int32} {w : Nat → Nat → Nat → Int64} {t0 : Int32} {x0 : Option AV} {x1 : Option AV} {x2 : Option AV} (hΨ : Ψ (some (aI r)) (L0, g, w, q0)) (h : s_X1_lastBerth_28 i0 p1 t0 g w = some r) : Ev (EvM mth (d + 2)) mth c00 sc0 (retP (some .int) c00 Ψ) (lkp es_9) 28 [x0, x1, x2] [aI t0] (L0, g, w, q0) := by
  unfold s_X1_lastBerth_28 at h
  obtain rfl := Option.some.inj h
  exact ev_ireturn rfl ⟨⟨_, rfl, rfl⟩, rfl, rfl, hΨ⟩
def s_X1_lastBerth (i0 : Nat) (p1 : Int32) (g : Nat → Nat → Nat → Int32) (w : Nat → Nat → Nat → Int64) : Option (Int32) :=
  (s_X1_jobBefore i0 p1 (48 : Int32) g w).bind fun q1 =>
  match q1 with
  | none =>
    if inR p1 6 = true then
      s_X1_lastBerth_28 i0 p1 (g 5 (6 * i0 + p1.toNatClampNeg) 6) g w
    else none
  | some kq1 =>
    s_X1_lastBerth_28 i0 p1 (g 4 kq1 6) g w
set_option maxRecDepth 20000 in
set_option maxHeartbeats 2000000 in
theorem d_X1_lastBerth {d : Nat} {i0 : Nat} {p1 : Int32} {g : Nat → Nat → Nat → Int32} {w : Nat → Nat → Nat → Int64} {r : Int32} (h : s_X1_lastBerth i0 p1 g w = some r) : Does (EvM mth (d + 3)) 9 [aR 1 i0, aI p1] (L0, g, w, q0) (some (aI r)) (L0, g, w, q0) := by
  intro Ψ hΨ
  refine ⟨in_9, mth_9, Nat.le_of_ble_eq_true rfl, ?_⟩
  show Ev (EvM mth (d + 2)) mth c00 sc0 (retP (some .int) c00 Ψ) (lkp es_9) 0 [some (aR 1 i0), some (aI p1), none] [] (L0, g, w, q0)
  unfold s_X1_lastBerth at h
  refine ev_aload_n (pc' := 1) rfl rfl rfl ?_
  refine ev_iload_n (pc' := 2) rfl rfl rfl ?_
  refine ev_bipush (pc' := 4) rfl rfl (v := (48 : Int32)) (by decide) ?_
  obtain ⟨q1, hq1, h⟩ := Option.bind_eq_some_iff.mp h
  refine ev_V3R (pc' := 7) rfl (by decide) rfl mth_18 ⟨Nat.le_of_ble_eq_true rfl, rfl⟩ ⟨Nat.le_refl _, Nat.le_refl _⟩ (d_X1_jobBefore hq1) ?_
  refine ev_astore_n (pc' := 8) rfl rfl (l' := [some (aR 1 i0), some (aI p1), some (.inr (Option.map (fun p => (4, p)) q1))]) rfl ?_
  refine ev_aload_n (pc' := 9) rfl rfl rfl ?_
  cases q1 with
  | none =>
    try dsimp only at h
    refine ev_ifnonnull_n rfl (pc' := 12) rfl ?_
    refine ev_aload_n (pc' := 13) rfl rfl rfl ?_
    refine ev_getQ (pc' := 16) rfl rfl rfl ?_
    refine ev_iload_n (pc' := 17) rfl rfl rfl ?_
    obtain ⟨hi, h⟩ := gdB h
    refine ev_aald (pc' := 18) rfl rfl (by decide) rfl (inR_vp hi) rfl ?_
    refine ev_getI (pc' := 21) rfl rfl ?_
    refine ev_goto (pc' := 28) rfl ?_
    exact e_X1_lastBerth_28 hΨ h
  | some kq1 =>
    try dsimp only at h
    refine ev_ifnonnull_s rfl ?_
    refine ev_aload_n (pc' := 25) rfl rfl rfl ?_
    refine ev_getI (pc' := 28) rfl rfl ?_
    exact e_X1_lastBerth_28 hΨ h
def s_X1_mostNeeded_39 (i0 : Nat) (p1 : Nat) (p2 : Int32) (p3 : Int32) (v4 : Int32) (g : Nat → Nat → Nat → Int32) (w : Nat → Nat → Nat → Int64) : Option (Int32) :=
  some (v4)
set_option maxRecDepth 20000 in
set_option maxHeartbeats 2000000 in
theorem e_X1_mostNeeded_39 {d : Nat} {Ψ : Option AV → DS → Prop} {i0 : Nat} {p1 : Nat} {p2 : Int32} {p3 : Int32} {r : Int32} {g : Nat → Nat → Nat → Int32} {w : Nat → Nat → Nat → Int64} {v4 : Int32} {x0 : Option AV} {x1 : Option AV} {x2 : Option AV} {x3 : Option AV} {x5 : Option AV} (hΨ : Ψ (some (aI r)) (L0, g, w, q0)) (h : s_X1_mostNeeded_39 i0 p1 p2 p3 v4 g w = some r) : Ev (EvM mth (d + 2)) mth c00 sc0 (retP (some .int) c00 Ψ) (lkp es_11) 39 [x0, x1, x2, x3, some (aI v4), x5] [] (L0, g, w, q0) := by
  unfold s_X1_mostNeeded_39 at h
  refine ev_iload (pc' := 41) rfl rfl rfl ?_
  obtain rfl := Option.some.inj h
  exact ev_ireturn rfl ⟨⟨_, rfl, rfl⟩, rfl, rfl, hΨ⟩
def s_X1_mostNeeded_6 (i0 : Nat) (p1 : Nat) (p2 : Int32) (p3 : Int32) (rec6 : Int32 → Int32 → (Nat → Nat → Nat → Int32) → (Nat → Nat → Nat → Int64) → Option (Int32)) (v4 : Int32) (v5 : Int32) (g : Nat → Nat → Nat → Int32) (w : Nat → Nat → Nat → Int64) : Option (Int32) :=
  if p3 < v5 then
    s_X1_mostNeeded_39 i0 p1 p2 p3 v4 g w
  else
    if (48 : Int32) ≤ v5 then
      s_X1_mostNeeded_39 i0 p1 p2 p3 v4 g w
    else
      (s_X1_neededPull i0 p1 v5 g w).bind fun q1 =>
      rec6 (if v4 < q1 then q1 else v4) (v5 + 1) g w
set_option maxRecDepth 20000 in
set_option maxHeartbeats 2000000 in
theorem e_X1_mostNeeded_6 {d : Nat} {Ψ : Option AV → DS → Prop} {i0 : Nat} {p1 : Nat} {p2 : Int32} {p3 : Int32} {rec6 : Int32 → Int32 → (Nat → Nat → Nat → Int32) → (Nat → Nat → Nat → Int64) → Option (Int32)} {r : Int32} {g : Nat → Nat → Nat → Int32} {w : Nat → Nat → Nat → Int64} {v4 : Int32} {v5 : Int32} {x2 : Option AV} (hr6 : ∀ {v4 : Int32} {v5 : Int32} {x2 : Option AV} , rec6 v4 v5 g w = some r → Ev (EvM mth (d + 2)) mth c00 sc0 (retP (some .int) c00 Ψ) (lkp es_11) 6 [some (aR 1 i0), some (aR 4 p1), x2, some (aI p3), some (aI v4), some (aI v5)] [] (L0, g, w, q0)) (hΨ : Ψ (some (aI r)) (L0, g, w, q0)) (h : s_X1_mostNeeded_6 i0 p1 p2 p3 rec6 v4 v5 g w = some r) : Ev (EvM mth (d + 2)) mth c00 sc0 (retP (some .int) c00 Ψ) (lkp es_11) 6 [some (aR 1 i0), some (aR 4 p1), x2, some (aI p3), some (aI v4), some (aI v5)] [] (L0, g, w, q0) := by
  unfold s_X1_mostNeeded_6 at h
  refine ev_iload (pc' := 8) rfl rfl rfl ?_
  refine ev_iload_n (pc' := 9) rfl rfl rfl ?_
  refine ev_icmp_gt rfl (pc' := 12) rfl (fun hc => ?_) (fun hc => ?_)
  · have h := (if_pos hc).symm.trans h
    exact e_X1_mostNeeded_39 hΨ h
  · have h := (if_neg hc).symm.trans h
    refine ev_iload (pc' := 14) rfl rfl rfl ?_
    refine ev_bipush (pc' := 16) rfl rfl (v := (48 : Int32)) (by decide) ?_
    refine ev_icmp_ge rfl (pc' := 19) rfl (fun hc => ?_) (fun hc => ?_)
    · have h := (if_pos hc).symm.trans h
      exact e_X1_mostNeeded_39 hΨ h
    · have h := (if_neg hc).symm.trans h
      refine ev_iload (pc' := 21) rfl rfl rfl ?_
      refine ev_aload_n (pc' := 22) rfl rfl rfl ?_
      refine ev_aload_n (pc' := 23) rfl rfl rfl ?_
      refine ev_iload (pc' := 25) rfl rfl rfl ?_
      obtain ⟨q1, hq1, h⟩ := Option.bind_eq_some_iff.mp h
      refine ev_V3I (pc' := 28) rfl (by decide) rfl mth_10 ⟨Nat.le_of_ble_eq_true rfl, rfl⟩ ⟨Nat.le_refl _, Nat.le_refl _⟩ (d_X1_neededPull hq1) ?_
      refine ev_max (pc' := 31) rfl rfl ⟨Nat.le_of_ble_eq_true rfl, Nat.le_refl _, Nat.le_refl _⟩ ?_
      refine ev_istore (pc' := 33) rfl rfl (l' := [some (aR 1 i0), some (aR 4 p1), x2, some (aI p3), some (aI (if v4 < q1 then q1 else v4)), some (aI v5)]) rfl ?_
      refine ev_iinc (pc' := 36) rfl rfl (l' := [some (aR 1 i0), some (aR 4 p1), x2, some (aI p3), some (aI (if v4 < q1 then q1 else v4)), some (aI (v5 + 1))]) rfl (ii_1 _) rfl ?_
      refine ev_goto (pc' := 6) rfl ?_
      exact hr6 h
def s_X1_mostNeeded_R6 (i0 : Nat) (p1 : Nat) (p2 : Int32) (p3 : Int32) : Nat → Int32 → Int32 → (Nat → Nat → Nat → Int32) → (Nat → Nat → Nat → Int64) → Option (Int32)
  | 0 => fun _ _ _ _ => none
  | n + 1 => s_X1_mostNeeded_6 i0 p1 p2 p3 (s_X1_mostNeeded_R6 i0 p1 p2 p3 n)
theorem e_X1_mostNeeded_R6 {d : Nat} {Ψ : Option AV → DS → Prop} {i0 : Nat} {p1 : Nat} {p2 : Int32} {p3 : Int32} {r : Int32} {g : Nat → Nat → Nat → Int32} {w : Nat → Nat → Nat → Int64} (hΨ : Ψ (some (aI r)) (L0, g, w, q0)) : ∀ (n : Nat) {v4 : Int32} {v5 : Int32} {x2 : Option AV}, s_X1_mostNeeded_R6 i0 p1 p2 p3 n v4 v5 g w = some r → Ev (EvM mth (d + 2)) mth c00 sc0 (retP (some .int) c00 Ψ) (lkp es_11) 6 [some (aR 1 i0), some (aR 4 p1), x2, some (aI p3), some (aI v4), some (aI v5)] [] (L0, g, w, q0) := by
  intro n
  induction n with
  | zero => intros; rename_i h; exact absurd h (by intro h9; cases h9)
  | succ n ih => intros; rename_i h; exact e_X1_mostNeeded_6 (hr6 := ih) hΨ h
def s_X1_mostNeeded (i0 : Nat) (p1 : Nat) (p2 : Int32) (p3 : Int32) (g : Nat → Nat → Nat → Int32) (w : Nat → Nat → Nat → Int64) : Option (Int32) :=
  s_X1_mostNeeded_R6 i0 p1 p2 p3 FU (0 : Int32) p2 g w
set_option maxRecDepth 20000 in
set_option maxHeartbeats 2000000 in
theorem d_X1_mostNeeded {d : Nat} {i0 : Nat} {p1 : Nat} {p2 : Int32} {p3 : Int32} {g : Nat → Nat → Nat → Int32} {w : Nat → Nat → Nat → Int64} {r : Int32} (h : s_X1_mostNeeded i0 p1 p2 p3 g w = some r) : Does (EvM mth (d + 3)) 11 [aR 1 i0, aR 4 p1, aI p2, aI p3] (L0, g, w, q0) (some (aI r)) (L0, g, w, q0) := by
  intro Ψ hΨ
  refine ⟨in_11, mth_11, Nat.le_of_ble_eq_true rfl, ?_⟩
  show Ev (EvM mth (d + 2)) mth c00 sc0 (retP (some .int) c00 Ψ) (lkp es_11) 0 [some (aR 1 i0), some (aR 4 p1), some (aI p2), some (aI p3), none, none] [] (L0, g, w, q0)
  unfold s_X1_mostNeeded at h
  refine ev_iconst (pc' := 1) rfl rfl (v := (0 : Int32)) (by decide) ?_
  refine ev_istore (pc' := 3) rfl rfl (l' := [some (aR 1 i0), some (aR 4 p1), some (aI p2), some (aI p3), some (aI (0 : Int32)), none]) rfl ?_
  refine ev_iload_n (pc' := 4) rfl rfl rfl ?_
  refine ev_istore (pc' := 6) rfl rfl (l' := [some (aR 1 i0), some (aR 4 p1), some (aI p2), some (aI p3), some (aI (0 : Int32)), some (aI p2)]) rfl ?_
  exact e_X1_mostNeeded_R6 hΨ FU h
def s_X1_isGuarded_3 (i0 : Nat) (p1 : Nat) (p2 : Int32) (p3 : Int32) (rec3 : Int32 → (Nat → Nat → Nat → Int32) → (Nat → Nat → Nat → Int64) → Option (Bool)) (v4 : Int32) (g : Nat → Nat → Nat → Int32) (w : Nat → Nat → Nat → Int64) : Option (Bool) :=
  if (p2 + (g 4 p1 3)) ≤ v4 then
    some (true)
  else
    (s_X1_hasIdle i0 v4 p3 g w).bind fun q1 =>
    if q1 = true then
      rec3 (v4 + 1) g w
    else
      some (false)
set_option maxRecDepth 20000 in
set_option maxHeartbeats 2000000 in
theorem e_X1_isGuarded_3 {d : Nat} {Ψ : Option AV → DS → Prop} {i0 : Nat} {p1 : Nat} {p2 : Int32} {p3 : Int32} {rec3 : Int32 → (Nat → Nat → Nat → Int32) → (Nat → Nat → Nat → Int64) → Option (Bool)} {r : Bool} {g : Nat → Nat → Nat → Int32} {w : Nat → Nat → Nat → Int64} {v4 : Int32} (hr3 : ∀ {v4 : Int32} , rec3 v4 g w = some r → Ev (EvM mth (d + 2)) mth c00 sc0 (retP (some .boolean) c00 Ψ) (lkp es_16) 3 [some (aR 1 i0), some (aR 4 p1), some (aI p2), some (aI p3), some (aI v4)] [] (L0, g, w, q0)) (hΨ : Ψ (some (aI (bI r))) (L0, g, w, q0)) (h : s_X1_isGuarded_3 i0 p1 p2 p3 rec3 v4 g w = some r) : Ev (EvM mth (d + 2)) mth c00 sc0 (retP (some .boolean) c00 Ψ) (lkp es_16) 3 [some (aR 1 i0), some (aR 4 p1), some (aI p2), some (aI p3), some (aI v4)] [] (L0, g, w, q0) := by
  unfold s_X1_isGuarded_3 at h
  refine ev_iload (pc' := 5) rfl rfl rfl ?_
  refine ev_iload_n (pc' := 6) rfl rfl rfl ?_
  refine ev_aload_n (pc' := 7) rfl rfl rfl ?_
  refine ev_getI (pc' := 10) rfl rfl ?_
  refine ev_iadd (pc' := 11) rfl rfl ?_
  refine ev_icmp_ge rfl (pc' := 14) rfl (fun hc => ?_) (fun hc => ?_)
  · have h := (if_pos hc).symm.trans h
    refine ev_iconst (pc' := 33) rfl rfl (v := (1 : Int32)) (by decide) ?_
    obtain rfl := Option.some.inj h
    exact ev_ireturn rfl ⟨⟨_, rfl, rfl⟩, rfl, rfl, hΨ⟩
  · have h := (if_neg hc).symm.trans h
    refine ev_aload_n (pc' := 15) rfl rfl rfl ?_
    refine ev_iload (pc' := 17) rfl rfl rfl ?_
    refine ev_iload_n (pc' := 18) rfl rfl rfl ?_
    obtain ⟨q1, hq1, h⟩ := Option.bind_eq_some_iff.mp h
    refine ev_V3I (pc' := 21) rfl (by decide) rfl mth_17 ⟨Nat.le_of_ble_eq_true rfl, rfl⟩ ⟨Nat.le_refl _, Nat.le_refl _⟩ (d_X1_hasIdle hq1) ?_
    refine ev_ifB_ne rfl (pc' := 24) rfl (fun hc => ?_) (fun hc => ?_)
    · have h := (if_pos hc).symm.trans h
      refine ev_iinc (pc' := 29) rfl rfl (l' := [some (aR 1 i0), some (aR 4 p1), some (aI p2), some (aI p3), some (aI (v4 + 1))]) rfl (ii_1 _) rfl ?_
      refine ev_goto (pc' := 3) rfl ?_
      exact hr3 h
    · have h := (if_neg hc).symm.trans h
      refine ev_iconst (pc' := 25) rfl rfl (v := (0 : Int32)) (by decide) ?_
      obtain rfl := Option.some.inj h
      exact ev_ireturn rfl ⟨⟨_, rfl, rfl⟩, rfl, rfl, hΨ⟩
def s_X1_isGuarded_R3 (i0 : Nat) (p1 : Nat) (p2 : Int32) (p3 : Int32) : Nat → Int32 → (Nat → Nat → Nat → Int32) → (Nat → Nat → Nat → Int64) → Option (Bool)
  | 0 => fun _ _ _ => none
  | n + 1 => s_X1_isGuarded_3 i0 p1 p2 p3 (s_X1_isGuarded_R3 i0 p1 p2 p3 n)
theorem e_X1_isGuarded_R3 {d : Nat} {Ψ : Option AV → DS → Prop} {i0 : Nat} {p1 : Nat} {p2 : Int32} {p3 : Int32} {r : Bool} {g : Nat → Nat → Nat → Int32} {w : Nat → Nat → Nat → Int64} (hΨ : Ψ (some (aI (bI r))) (L0, g, w, q0)) : ∀ (n : Nat) {v4 : Int32} , s_X1_isGuarded_R3 i0 p1 p2 p3 n v4 g w = some r → Ev (EvM mth (d + 2)) mth c00 sc0 (retP (some .boolean) c00 Ψ) (lkp es_16) 3 [some (aR 1 i0), some (aR 4 p1), some (aI p2), some (aI p3), some (aI v4)] [] (L0, g, w, q0) := by
  intro n
  induction n with
  | zero => intros; rename_i h; exact absurd h (by intro h9; cases h9)
  | succ n ih => intros; rename_i h; exact e_X1_isGuarded_3 (hr3 := ih) hΨ h
def s_X1_isGuarded (i0 : Nat) (p1 : Nat) (p2 : Int32) (p3 : Int32) (g : Nat → Nat → Nat → Int32) (w : Nat → Nat → Nat → Int64) : Option (Bool) :=
  s_X1_isGuarded_R3 i0 p1 p2 p3 FU p2 g w
set_option maxRecDepth 20000 in
set_option maxHeartbeats 2000000 in
theorem d_X1_isGuarded {d : Nat} {i0 : Nat} {p1 : Nat} {p2 : Int32} {p3 : Int32} {g : Nat → Nat → Nat → Int32} {w : Nat → Nat → Nat → Int64} {r : Bool} (h : s_X1_isGuarded i0 p1 p2 p3 g w = some r) : Does (EvM mth (d + 3)) 16 [aR 1 i0, aR 4 p1, aI p2, aI p3] (L0, g, w, q0) (some (aI (bI r))) (L0, g, w, q0) := by
  intro Ψ hΨ
  refine ⟨in_16, mth_16, Nat.le_of_ble_eq_true rfl, ?_⟩
  show Ev (EvM mth (d + 2)) mth c00 sc0 (retP (some .boolean) c00 Ψ) (lkp es_16) 0 [some (aR 1 i0), some (aR 4 p1), some (aI p2), some (aI p3), none] [] (L0, g, w, q0)
  unfold s_X1_isGuarded at h
  refine ev_iload_n (pc' := 1) rfl rfl rfl ?_
  refine ev_istore (pc' := 3) rfl rfl (l' := [some (aR 1 i0), some (aR 4 p1), some (aI p2), some (aI p3), some (aI p2)]) rfl ?_
  exact e_X1_isGuarded_R3 hΨ FU h
def s_X1_canBeThere_134 (i0 : Nat) (p1 : Int32) (p2 : Nat) (p3 : Int32) (t0 : Bool) (g : Nat → Nat → Nat → Int32) (w : Nat → Nat → Nat → Int64) : Option (Bool) :=
  some (t0)
set_option maxRecDepth 20000 in
set_option maxHeartbeats 2000000 in
theorem e_X1_canBeThere_134 {d : Nat} {Ψ : Option AV → DS → Prop} {i0 : Nat} {p1 : Int32} {p2 : Nat} {p3 : Int32} {r : Bool} {g : Nat → Nat → Nat → Int32} {w : Nat → Nat → Nat → Int64} {t0 : Bool} {x0 : Option AV} {x1 : Option AV} {x2 : Option AV} {x3 : Option AV} {x4 : Option AV} {x5 : Option AV} {x6 : Option AV} {x7 : Option AV} {x8 : Option AV} (hΨ : Ψ (some (aI (bI r))) (L0, g, w, q0)) (h : s_X1_canBeThere_134 i0 p1 p2 p3 t0 g w = some r) : Ev (EvM mth (d + 2)) mth c00 sc0 (retP (some .boolean) c00 Ψ) (lkp es_20) 134 [x0, x1, x2, x3, x4, x5, x6, x7, x8] [aI (bI t0)] (L0, g, w, q0) := by
  unfold s_X1_canBeThere_134 at h
  obtain rfl := Option.some.inj h
  exact ev_ireturn rfl ⟨⟨_, rfl, nar_bI _⟩, rfl, rfl, hΨ⟩
def s_X1_canBeThere_129 (i0 : Nat) (p1 : Int32) (p2 : Nat) (p3 : Int32) (g : Nat → Nat → Nat → Int32) (w : Nat → Nat → Nat → Int64) : Option (Bool) :=
  s_X1_canBeThere_134 i0 p1 p2 p3 true g w
set_option maxRecDepth 20000 in
set_option maxHeartbeats 2000000 in
theorem e_X1_canBeThere_129 {d : Nat} {Ψ : Option AV → DS → Prop} {i0 : Nat} {p1 : Int32} {p2 : Nat} {p3 : Int32} {r : Bool} {g : Nat → Nat → Nat → Int32} {w : Nat → Nat → Nat → Int64} {x0 : Option AV} {x1 : Option AV} {x2 : Option AV} {x3 : Option AV} {x4 : Option AV} {x5 : Option AV} {x6 : Option AV} {x7 : Option AV} {x8 : Option AV} (hΨ : Ψ (some (aI (bI r))) (L0, g, w, q0)) (h : s_X1_canBeThere_129 i0 p1 p2 p3 g w = some r) : Ev (EvM mth (d + 2)) mth c00 sc0 (retP (some .boolean) c00 Ψ) (lkp es_20) 129 [x0, x1, x2, x3, x4, x5, x6, x7, x8] [] (L0, g, w, q0) := by
  unfold s_X1_canBeThere_129 at h
  refine ev_iconst (pc' := 130) rfl rfl (v := (1 : Int32)) (by decide) ?_
  refine ev_goto (pc' := 134) rfl ?_
  exact e_X1_canBeThere_134 hΨ h
def s_X1_canBeThere_48 (i0 : Nat) (p1 : Int32) (p2 : Nat) (p3 : Int32) (t0 : Int32) (v5 : Int32) (g : Nat → Nat → Nat → Int32) (w : Nat → Nat → Nat → Int64) : Option (Bool) :=
  (s_X0_hoursBetween 0 v5 (g 4 p2 5) (g 1 i0 7) g w).bind fun q1 =>
  if (t0 + q1) ≤ p3 then
    (s_X1_jobBehind i0 p1 (p3 + (g 4 p2 3)) g w).bind fun q2 =>
    match q2 with
    | none =>
      s_X1_canBeThere_129 i0 p1 p2 p3 g w
    | some kq2 =>
      (s_X0_hoursBetween 0 (g 4 p2 6) (g 4 kq2 5) (g 1 i0 7) g w).bind fun q3 =>
      if (g 4 kq2 7) < ((p3 + (g 4 p2 3)) + q3) then
        s_X1_canBeThere_134 i0 p1 p2 p3 false g w
      else
        s_X1_canBeThere_129 i0 p1 p2 p3 g w
  else
    some (false)
set_option maxRecDepth 20000 in
set_option maxHeartbeats 2000000 in
theorem e_X1_canBeThere_48 {d : Nat} {Ψ : Option AV → DS → Prop} {i0 : Nat} {p1 : Int32} {p2 : Nat} {p3 : Int32} {r : Bool} {g : Nat → Nat → Nat → Int32} {w : Nat → Nat → Nat → Int64} {t0 : Int32} {v5 : Int32} {x4 : Option AV} {x6 : Option AV} {x7 : Option AV} {x8 : Option AV} (hΨ : Ψ (some (aI (bI r))) (L0, g, w, q0)) (h : s_X1_canBeThere_48 i0 p1 p2 p3 t0 v5 g w = some r) : Ev (EvM mth (d + 2)) mth c00 sc0 (retP (some .boolean) c00 Ψ) (lkp es_20) 48 [some (aR 1 i0), some (aI p1), some (aR 4 p2), some (aI p3), x4, some (aI v5), x6, x7, x8] [aI t0] (L0, g, w, q0) := by
  unfold s_X1_canBeThere_48 at h
  refine ev_istore (pc' := 50) rfl rfl (l' := [some (aR 1 i0), some (aI p1), some (aR 4 p2), some (aI p3), x4, some (aI v5), some (aI t0), x7, x8]) rfl ?_
  refine ev_iload (pc' := 52) rfl rfl rfl ?_
  refine ev_aload_n (pc' := 53) rfl rfl rfl ?_
  refine ev_getQ (pc' := 56) rfl rfl rfl ?_
  refine ev_iload (pc' := 58) rfl rfl rfl ?_
  refine ev_aload_n (pc' := 59) rfl rfl rfl ?_
  refine ev_getI (pc' := 62) rfl rfl ?_
  refine ev_aload_n (pc' := 63) rfl rfl rfl ?_
  refine ev_getI (pc' := 66) rfl rfl ?_
  obtain ⟨q1, hq1, h⟩ := Option.bind_eq_some_iff.mp h
  refine ev_V4I (pc' := 69) rfl (by decide) rfl mth_1 ⟨Nat.le_of_ble_eq_true rfl, rfl⟩ ⟨Nat.le_refl _, Nat.le_refl _⟩ (d_X0_hoursBetween hq1) ?_
  refine ev_iadd (pc' := 70) rfl rfl ?_
  refine ev_iload_n (pc' := 71) rfl rfl rfl ?_
  refine ev_icmp_le rfl (pc' := 74) rfl (fun hc => ?_) (fun hc => ?_)
  · have h := (if_pos hc).symm.trans h
    refine ev_iload_n (pc' := 77) rfl rfl rfl ?_
    refine ev_aload_n (pc' := 78) rfl rfl rfl ?_
    refine ev_getI (pc' := 81) rfl rfl ?_
    refine ev_iadd (pc' := 82) rfl rfl ?_
    refine ev_istore (pc' := 84) rfl rfl (l' := [some (aR 1 i0), some (aI p1), some (aR 4 p2), some (aI p3), x4, some (aI v5), some (aI t0), some (aI (p3 + (g 4 p2 3))), x8]) rfl ?_
    refine ev_aload_n (pc' := 85) rfl rfl rfl ?_
    refine ev_iload_n (pc' := 86) rfl rfl rfl ?_
    refine ev_iload (pc' := 88) rfl rfl rfl ?_
    obtain ⟨q2, hq2, h⟩ := Option.bind_eq_some_iff.mp h
    refine ev_V3R (pc' := 91) rfl (by decide) rfl mth_19 ⟨Nat.le_of_ble_eq_true rfl, rfl⟩ ⟨Nat.le_refl _, Nat.le_refl _⟩ (d_X1_jobBehind hq2) ?_
    refine ev_astore (pc' := 93) rfl rfl (l' := [some (aR 1 i0), some (aI p1), some (aR 4 p2), some (aI p3), x4, some (aI v5), some (aI t0), some (aI (p3 + (g 4 p2 3))), some (.inr (Option.map (fun p => (4, p)) q2))]) rfl ?_
    refine ev_aload (pc' := 95) rfl rfl rfl ?_
    cases q2 with
    | none =>
      try dsimp only at h
      refine ev_ifnull_n rfl ?_
      exact e_X1_canBeThere_129 hΨ h
    | some kq2 =>
      try dsimp only at h
      refine ev_ifnull_s rfl (pc' := 98) rfl ?_
      refine ev_iload (pc' := 100) rfl rfl rfl ?_
      refine ev_aload_n (pc' := 101) rfl rfl rfl ?_
      refine ev_getQ (pc' := 104) rfl rfl rfl ?_
      refine ev_aload_n (pc' := 105) rfl rfl rfl ?_
      refine ev_getI (pc' := 108) rfl rfl ?_
      refine ev_aload (pc' := 110) rfl rfl rfl ?_
      refine ev_getI (pc' := 113) rfl rfl ?_
      refine ev_aload_n (pc' := 114) rfl rfl rfl ?_
      refine ev_getI (pc' := 117) rfl rfl ?_
      obtain ⟨q3, hq3, h⟩ := Option.bind_eq_some_iff.mp h
      refine ev_V4I (pc' := 120) rfl (by decide) rfl mth_1 ⟨Nat.le_of_ble_eq_true rfl, rfl⟩ ⟨Nat.le_refl _, Nat.le_refl _⟩ (d_X0_hoursBetween hq3) ?_
      refine ev_iadd (pc' := 121) rfl rfl ?_
      refine ev_aload (pc' := 123) rfl rfl rfl ?_
      refine ev_getI (pc' := 126) rfl rfl ?_
      refine ev_icmp_gt rfl (pc' := 129) rfl (fun hc => ?_) (fun hc => ?_)
      · have h := (if_pos hc).symm.trans h
        refine ev_iconst (pc' := 134) rfl rfl (v := (0 : Int32)) (by decide) ?_
        exact e_X1_canBeThere_134 hΨ h
      · have h := (if_neg hc).symm.trans h
        exact e_X1_canBeThere_129 hΨ h
  · have h := (if_neg hc).symm.trans h
    refine ev_iconst (pc' := 75) rfl rfl (v := (0 : Int32)) (by decide) ?_
    obtain rfl := Option.some.inj h
    exact ev_ireturn rfl ⟨⟨_, rfl, rfl⟩, rfl, rfl, hΨ⟩
def s_X1_canBeThere_30 (i0 : Nat) (p1 : Int32) (p2 : Nat) (p3 : Int32) (t0 : Int32) (v4 : Option Nat) (g : Nat → Nat → Nat → Int32) (w : Nat → Nat → Nat → Int64) : Option (Bool) :=
  match v4 with
  | none =>
    s_X1_canBeThere_48 i0 p1 p2 p3 (0 : Int32) t0 g w
  | some kv4 =>
    s_X1_canBeThere_48 i0 p1 p2 p3 ((s_X4_lastHour kv4 g w) + (1 : Int32)) t0 g w
set_option maxRecDepth 20000 in
set_option maxHeartbeats 2000000 in
theorem e_X1_canBeThere_30 {d : Nat} {Ψ : Option AV → DS → Prop} {i0 : Nat} {p1 : Int32} {p2 : Nat} {p3 : Int32} {r : Bool} {g : Nat → Nat → Nat → Int32} {w : Nat → Nat → Nat → Int64} {t0 : Int32} {v4 : Option Nat} {x5 : Option AV} {x6 : Option AV} {x7 : Option AV} {x8 : Option AV} (hΨ : Ψ (some (aI (bI r))) (L0, g, w, q0)) (h : s_X1_canBeThere_30 i0 p1 p2 p3 t0 v4 g w = some r) : Ev (EvM mth (d + 2)) mth c00 sc0 (retP (some .boolean) c00 Ψ) (lkp es_20) 30 [some (aR 1 i0), some (aI p1), some (aR 4 p2), some (aI p3), some (.inr (Option.map (fun p => (4, p)) v4)), x5, x6, x7, x8] [aI t0] (L0, g, w, q0) := by
  unfold s_X1_canBeThere_30 at h
  refine ev_istore (pc' := 32) rfl rfl (l' := [some (aR 1 i0), some (aI p1), some (aR 4 p2), some (aI p3), some (.inr (Option.map (fun p => (4, p)) v4)), some (aI t0), x6, x7, x8]) rfl ?_
  refine ev_aload (pc' := 34) rfl rfl rfl ?_
  cases v4 with
  | none =>
    try dsimp only at h
    refine ev_ifnonnull_n rfl (pc' := 37) rfl ?_
    refine ev_iconst (pc' := 38) rfl rfl (v := (0 : Int32)) (by decide) ?_
    refine ev_goto (pc' := 48) rfl ?_
    exact e_X1_canBeThere_48 hΨ h
  | some kv4 =>
    try dsimp only at h
    refine ev_ifnonnull_s rfl ?_
    refine ev_aload (pc' := 43) rfl rfl rfl ?_
    refine ev_V1I (pc' := 46) rfl (by decide) rfl mth_58 ⟨Nat.le_of_ble_eq_true rfl, rfl⟩ ⟨Nat.le_refl _, Nat.le_refl _⟩ d_X4_lastHour ?_
    refine ev_iconst (pc' := 47) rfl rfl (v := (1 : Int32)) (by decide) ?_
    refine ev_iadd (pc' := 48) rfl rfl ?_
    exact e_X1_canBeThere_48 hΨ h
def s_X1_canBeThere (i0 : Nat) (p1 : Int32) (p2 : Nat) (p3 : Int32) (g : Nat → Nat → Nat → Int32) (w : Nat → Nat → Nat → Int64) : Option (Bool) :=
  (s_X1_jobBefore i0 p1 p3 g w).bind fun q1 =>
  match q1 with
  | none =>
    if inR p1 6 = true then
      s_X1_canBeThere_30 i0 p1 p2 p3 (g 5 (6 * i0 + p1.toNatClampNeg) 6) none g w
    else none
  | some kq1 =>
    s_X1_canBeThere_30 i0 p1 p2 p3 (g 4 kq1 6) (some kq1) g w
set_option maxRecDepth 20000 in
set_option maxHeartbeats 2000000 in
theorem d_X1_canBeThere {d : Nat} {i0 : Nat} {p1 : Int32} {p2 : Nat} {p3 : Int32} {g : Nat → Nat → Nat → Int32} {w : Nat → Nat → Nat → Int64} {r : Bool} (h : s_X1_canBeThere i0 p1 p2 p3 g w = some r) : Does (EvM mth (d + 3)) 20 [aR 1 i0, aI p1, aR 4 p2, aI p3] (L0, g, w, q0) (some (aI (bI r))) (L0, g, w, q0) := by
  intro Ψ hΨ
  refine ⟨in_20, mth_20, Nat.le_of_ble_eq_true rfl, ?_⟩
  show Ev (EvM mth (d + 2)) mth c00 sc0 (retP (some .boolean) c00 Ψ) (lkp es_20) 0 [some (aR 1 i0), some (aI p1), some (aR 4 p2), some (aI p3), none, none, none, none, none] [] (L0, g, w, q0)
  unfold s_X1_canBeThere at h
  refine ev_aload_n (pc' := 1) rfl rfl rfl ?_
  refine ev_iload_n (pc' := 2) rfl rfl rfl ?_
  refine ev_iload_n (pc' := 3) rfl rfl rfl ?_
  obtain ⟨q1, hq1, h⟩ := Option.bind_eq_some_iff.mp h
  refine ev_V3R (pc' := 6) rfl (by decide) rfl mth_18 ⟨Nat.le_of_ble_eq_true rfl, rfl⟩ ⟨Nat.le_refl _, Nat.le_refl _⟩ (d_X1_jobBefore hq1) ?_
  refine ev_astore (pc' := 8) rfl rfl (l' := [some (aR 1 i0), some (aI p1), some (aR 4 p2), some (aI p3), some (.inr (Option.map (fun p => (4, p)) q1)), none, none, none, none]) rfl ?_
  refine ev_aload (pc' := 10) rfl rfl rfl ?_
  cases q1 with
  | none =>
    try dsimp only at h
    refine ev_ifnonnull_n rfl (pc' := 13) rfl ?_
    refine ev_aload_n (pc' := 14) rfl rfl rfl ?_
    refine ev_getQ (pc' := 17) rfl rfl rfl ?_
    refine ev_iload_n (pc' := 18) rfl rfl rfl ?_
    obtain ⟨hi, h⟩ := gdB h
    refine ev_aald (pc' := 19) rfl rfl (by decide) rfl (inR_vp hi) rfl ?_
    refine ev_getI (pc' := 22) rfl rfl ?_
    refine ev_goto (pc' := 30) rfl ?_
    exact e_X1_canBeThere_30 hΨ h
  | some kq1 =>
    try dsimp only at h
    refine ev_ifnonnull_s rfl ?_
    refine ev_aload (pc' := 27) rfl rfl rfl ?_
    refine ev_getI (pc' := 30) rfl rfl ?_
    exact e_X1_canBeThere_30 hΨ h
def s_X1_isLess_49 (i0 : Nat) (p1 : Int32) (p2 : Int32) (t0 : Bool) (g : Nat → Nat → Nat → Int32) (w : Nat → Nat → Nat → Int64) : Option (Bool) :=
  some (t0)
set_option maxRecDepth 20000 in
set_option maxHeartbeats 2000000 in
theorem e_X1_isLess_49 {d : Nat} {Ψ : Option AV → DS → Prop} {i0 : Nat} {p1 : Int32} {p2 : Int32} {r : Bool} {g : Nat → Nat → Nat → Int32} {w : Nat → Nat → Nat → Int64} {t0 : Bool} {x0 : Option AV} {x1 : Option AV} {x2 : Option AV} {x3 : Option AV} {x4 : Option AV} (hΨ : Ψ (some (aI (bI r))) (L0, g, w, q0)) (h : s_X1_isLess_49 i0 p1 p2 t0 g w = some r) : Ev (EvM mth (d + 2)) mth c00 sc0 (retP (some .boolean) c00 Ψ) (lkp es_28) 49 [x0, x1, x2, x3, x4] [aI (bI t0)] (L0, g, w, q0) := by
  unfold s_X1_isLess_49 at h
  obtain rfl := Option.some.inj h
  exact ev_ireturn rfl ⟨⟨_, rfl, nar_bI _⟩, rfl, rfl, hΨ⟩
def s_X1_isLess (i0 : Nat) (p1 : Int32) (p2 : Int32) (g : Nat → Nat → Nat → Int32) (w : Nat → Nat → Nat → Int64) : Option (Bool) :=
  if (s_J_Integer_bitCount p1 g w) = (s_J_Integer_bitCount p2 g w) then
    (s_X1_pullOf i0 p1 g w).bind fun q1 =>
    (s_X1_pullOf i0 p2 g w).bind fun q2 =>
    if q2 ≤ q1 then
      s_X1_isLess_49 i0 p1 p2 false g w
    else
      s_X1_isLess_49 i0 p1 p2 true g w
  else
    if (s_J_Integer_bitCount p2 g w) ≤ (s_J_Integer_bitCount p1 g w) then
      s_X1_isLess_49 i0 p1 p2 false g w
    else
      s_X1_isLess_49 i0 p1 p2 true g w
set_option maxRecDepth 20000 in
set_option maxHeartbeats 2000000 in
theorem d_X1_isLess {d : Nat} {i0 : Nat} {p1 : Int32} {p2 : Int32} {g : Nat → Nat → Nat → Int32} {w : Nat → Nat → Nat → Int64} {r : Bool} (h : s_X1_isLess i0 p1 p2 g w = some r) : Does (EvM mth (d + 3)) 28 [aR 1 i0, aI p1, aI p2] (L0, g, w, q0) (some (aI (bI r))) (L0, g, w, q0) := by
  intro Ψ hΨ
  refine ⟨in_28, mth_28, Nat.le_of_ble_eq_true rfl, ?_⟩
  show Ev (EvM mth (d + 2)) mth c00 sc0 (retP (some .boolean) c00 Ψ) (lkp es_28) 0 [some (aR 1 i0), some (aI p1), some (aI p2), none, none] [] (L0, g, w, q0)
  unfold s_X1_isLess at h
  refine ev_iload_n (pc' := 1) rfl rfl rfl ?_
  refine ev_S1I (pc' := 4) rfl (by decide) rfl mth_193 ⟨Nat.le_of_ble_eq_true rfl, rfl⟩ ⟨Nat.le_refl _, Nat.le_refl _⟩ d_J_Integer_bitCount ?_
  refine ev_istore_n (pc' := 5) rfl rfl (l' := [some (aR 1 i0), some (aI p1), some (aI p2), some (aI (s_J_Integer_bitCount p1 g w)), none]) rfl ?_
  refine ev_iload_n (pc' := 6) rfl rfl rfl ?_
  refine ev_S1I (pc' := 9) rfl (by decide) rfl mth_193 ⟨Nat.le_of_ble_eq_true rfl, rfl⟩ ⟨Nat.le_refl _, Nat.le_refl _⟩ d_J_Integer_bitCount ?_
  refine ev_istore (pc' := 11) rfl rfl (l' := [some (aR 1 i0), some (aI p1), some (aI p2), some (aI (s_J_Integer_bitCount p1 g w)), some (aI (s_J_Integer_bitCount p2 g w))]) rfl ?_
  refine ev_iload_n (pc' := 12) rfl rfl rfl ?_
  refine ev_iload (pc' := 14) rfl rfl rfl ?_
  refine ev_icmp_eq rfl (pc' := 17) rfl (fun hc => ?_) (fun hc => ?_)
  · have h := (if_pos hc).symm.trans h
    refine ev_aload_n (pc' := 32) rfl rfl rfl ?_
    refine ev_iload_n (pc' := 33) rfl rfl rfl ?_
    obtain ⟨q1, hq1, h⟩ := Option.bind_eq_some_iff.mp h
    refine ev_V2I (pc' := 36) rfl (by decide) rfl mth_12 ⟨Nat.le_of_ble_eq_true rfl, rfl⟩ ⟨Nat.le_refl _, Nat.le_refl _⟩ (d_X1_pullOf hq1) ?_
    refine ev_aload_n (pc' := 37) rfl rfl rfl ?_
    refine ev_iload_n (pc' := 38) rfl rfl rfl ?_
    obtain ⟨q2, hq2, h⟩ := Option.bind_eq_some_iff.mp h
    refine ev_V2I (pc' := 41) rfl (by decide) rfl mth_12 ⟨Nat.le_of_ble_eq_true rfl, rfl⟩ ⟨Nat.le_refl _, Nat.le_refl _⟩ (d_X1_pullOf hq2) ?_
    refine ev_icmp_ge rfl (pc' := 44) rfl (fun hc => ?_) (fun hc => ?_)
    · have h := (if_pos hc).symm.trans h
      refine ev_iconst (pc' := 49) rfl rfl (v := (0 : Int32)) (by decide) ?_
      exact e_X1_isLess_49 hΨ h
    · have h := (if_neg hc).symm.trans h
      refine ev_iconst (pc' := 45) rfl rfl (v := (1 : Int32)) (by decide) ?_
      refine ev_goto (pc' := 49) rfl ?_
      exact e_X1_isLess_49 hΨ h
  · have h := (if_neg hc).symm.trans h
    refine ev_iload_n (pc' := 18) rfl rfl rfl ?_
    refine ev_iload (pc' := 20) rfl rfl rfl ?_
    refine ev_icmp_ge rfl (pc' := 23) rfl (fun hc => ?_) (fun hc => ?_)
    · have h := (if_pos hc).symm.trans h
      refine ev_iconst (pc' := 28) rfl rfl (v := (0 : Int32)) (by decide) ?_
      refine ev_goto (pc' := 49) rfl ?_
      exact e_X1_isLess_49 hΨ h
    · have h := (if_neg hc).symm.trans h
      refine ev_iconst (pc' := 24) rfl rfl (v := (1 : Int32)) (by decide) ?_
      refine ev_goto (pc' := 49) rfl ?_
      exact e_X1_isLess_49 hΨ h
def s_X1_put_46 (i0 : Nat) (p1 : Nat) (p2 : Int32) (p3 : Int32) (rec10 : Int64 → Int32 → (Nat → Nat → Nat → Int32) → (Nat → Nat → Nat → Int64) → Option (GS)) (v4 : Int64) (v6 : Int32) (g : Nat → Nat → Nat → Int32) (w : Nat → Nat → Nat → Int64) : Option (GS) :=
  rec10 v4 (v6 + 1) g w
set_option maxRecDepth 20000 in
set_option maxHeartbeats 2000000 in
theorem e_X1_put_46 {d : Nat} {Ψ : Option AV → DS → Prop} {i0 : Nat} {p1 : Nat} {p2 : Int32} {p3 : Int32} {rec10 : Int64 → Int32 → (Nat → Nat → Nat → Int32) → (Nat → Nat → Nat → Int64) → Option (GS)} {r : GS} {g : Nat → Nat → Nat → Int32} {w : Nat → Nat → Nat → Int64} {v4 : Int64} {v6 : Int32} {x5 : Option AV} (hr10 : ∀ {v4 : Int64} {v6 : Int32} {x5 : Option AV} {g : Nat → Nat → Nat → Int32} {w : Nat → Nat → Nat → Int64} , rec10 v4 v6 g w = some r → Ev (EvM mth (d + 2)) mth c00 sc0 (retP (none) c00 Ψ) (lkp es_29) 10 [some (aR 1 i0), some (aR 4 p1), some (aI p2), some (aI p3), some (aL v4), x5, some (aI v6)] [] (L0, g, w, q0)) (hΨ : Ψ none (L0, r.1, r.2, q0)) (h : s_X1_put_46 i0 p1 p2 p3 rec10 v4 v6 g w = some r) : Ev (EvM mth (d + 2)) mth c00 sc0 (retP (none) c00 Ψ) (lkp es_29) 46 [some (aR 1 i0), some (aR 4 p1), some (aI p2), some (aI p3), some (aL v4), x5, some (aI v6)] [] (L0, g, w, q0) := by
  unfold s_X1_put_46 at h
  refine ev_iinc (pc' := 49) rfl rfl (l' := [some (aR 1 i0), some (aR 4 p1), some (aI p2), some (aI p3), some (aL v4), (klO x5), some (aI (v6 + 1))]) rfl (ii_1 _) rfl ?_
  refine ev_goto (pc' := 10) rfl ?_
  exact hr10 h
def s_X1_put_10 (i0 : Nat) (p1 : Nat) (p2 : Int32) (p3 : Int32) (rec10 : Int64 → Int32 → (Nat → Nat → Nat → Int32) → (Nat → Nat → Nat → Int64) → Option (GS)) (v4 : Int64) (v6 : Int32) (g : Nat → Nat → Nat → Int32) (w : Nat → Nat → Nat → Int64) : Option (GS) :=
  if (6 : Int32) ≤ v6 then
    some (((gI (gI (gI g 4 p1 7 p2) 4 p1 8 p3) 1 i0 11 (((gI (gI g 4 p1 7 p2) 4 p1 8 p3) 1 i0 11) + (1 : Int32))), w))
  else
    if (s_X6_isIn v6 p3 g w) = true then
      if inR v6 6 = true then
        s_X1_put_46 i0 p1 p2 p3 rec10 v4 v6 g (wL w 5 (6 * i0 + v6.toNatClampNeg) 8 ((w 5 (6 * i0 + v6.toNatClampNeg) 8) ||| v4))
      else none
    else
      s_X1_put_46 i0 p1 p2 p3 rec10 v4 v6 g w
set_option maxRecDepth 20000 in
set_option maxHeartbeats 2000000 in
theorem e_X1_put_10 {d : Nat} {Ψ : Option AV → DS → Prop} {i0 : Nat} {p1 : Nat} {p2 : Int32} {p3 : Int32} {rec10 : Int64 → Int32 → (Nat → Nat → Nat → Int32) → (Nat → Nat → Nat → Int64) → Option (GS)} {r : GS} {g : Nat → Nat → Nat → Int32} {w : Nat → Nat → Nat → Int64} {v4 : Int64} {v6 : Int32} {x5 : Option AV} (hr10 : ∀ {v4 : Int64} {v6 : Int32} {x5 : Option AV} {g : Nat → Nat → Nat → Int32} {w : Nat → Nat → Nat → Int64} , rec10 v4 v6 g w = some r → Ev (EvM mth (d + 2)) mth c00 sc0 (retP (none) c00 Ψ) (lkp es_29) 10 [some (aR 1 i0), some (aR 4 p1), some (aI p2), some (aI p3), some (aL v4), x5, some (aI v6)] [] (L0, g, w, q0)) (hΨ : Ψ none (L0, r.1, r.2, q0)) (h : s_X1_put_10 i0 p1 p2 p3 rec10 v4 v6 g w = some r) : Ev (EvM mth (d + 2)) mth c00 sc0 (retP (none) c00 Ψ) (lkp es_29) 10 [some (aR 1 i0), some (aR 4 p1), some (aI p2), some (aI p3), some (aL v4), x5, some (aI v6)] [] (L0, g, w, q0) := by
  unfold s_X1_put_10 at h
  refine ev_iload (pc' := 12) rfl rfl rfl ?_
  refine ev_aload_n (pc' := 13) rfl rfl rfl ?_
  refine ev_getQ (pc' := 16) rfl rfl rfl ?_
  refine ev_alen (pc' := 17) rfl rfl (by decide) (v := (6 : Int32)) (by decide) ?_
  refine ev_icmp_ge rfl (pc' := 20) rfl (fun hc => ?_) (fun hc => ?_)
  · have h := (if_pos hc).symm.trans h
    refine ev_aload_n (pc' := 53) rfl rfl rfl ?_
    refine ev_iload_n (pc' := 54) rfl rfl rfl ?_
    refine ev_putI (pc' := 57) rfl rfl ?_
    refine ev_aload_n (pc' := 58) rfl rfl rfl ?_
    refine ev_iload_n (pc' := 59) rfl rfl rfl ?_
    refine ev_putI (pc' := 62) rfl rfl ?_
    refine ev_aload_n (pc' := 63) rfl rfl rfl ?_
    refine ev_dup (pc' := 64) rfl rfl rfl ?_
    refine ev_getI (pc' := 67) rfl rfl ?_
    refine ev_iconst (pc' := 68) rfl rfl (v := (1 : Int32)) (by decide) ?_
    refine ev_iadd (pc' := 69) rfl rfl ?_
    refine ev_putI (pc' := 72) rfl rfl ?_
    obtain rfl := Option.some.inj h
    exact ev_return rfl ⟨rfl, rfl, rfl, hΨ⟩
  · have h := (if_neg hc).symm.trans h
    refine ev_iload (pc' := 22) rfl rfl rfl ?_
    refine ev_iload_n (pc' := 23) rfl rfl rfl ?_
    refine ev_S2I (pc' := 26) rfl (by decide) rfl mth_113 ⟨Nat.le_of_ble_eq_true rfl, rfl⟩ ⟨Nat.le_refl _, Nat.le_refl _⟩ d_X6_isIn ?_
    refine ev_ifB_eq rfl (pc' := 29) rfl (fun hc => ?_) (fun hc => ?_)
    · have h := (if_neg hc).symm.trans h
      exact e_X1_put_46 (hr10 := hr10) hΨ h
    · have h := (if_pos hc).symm.trans h
      refine ev_aload_n (pc' := 30) rfl rfl rfl ?_
      refine ev_getQ (pc' := 33) rfl rfl rfl ?_
      refine ev_iload (pc' := 35) rfl rfl rfl ?_
      obtain ⟨hi, h⟩ := gdB h
      refine ev_aald (pc' := 36) rfl rfl (by decide) rfl (inR_vp hi) rfl ?_
      refine ev_dup (pc' := 37) rfl rfl rfl ?_
      refine ev_getL (pc' := 40) rfl rfl ?_
      refine ev_lload (pc' := 42) rfl rfl rfl ?_
      refine ev_lor (pc' := 43) rfl rfl ?_
      refine ev_putL (pc' := 46) rfl rfl ?_
      exact e_X1_put_46 (hr10 := hr10) hΨ h
def s_X1_put_R10 (i0 : Nat) (p1 : Nat) (p2 : Int32) (p3 : Int32) : Nat → Int64 → Int32 → (Nat → Nat → Nat → Int32) → (Nat → Nat → Nat → Int64) → Option (GS)
  | 0 => fun _ _ _ _ => none
  | n + 1 => s_X1_put_10 i0 p1 p2 p3 (s_X1_put_R10 i0 p1 p2 p3 n)
theorem e_X1_put_R10 {d : Nat} {Ψ : Option AV → DS → Prop} {i0 : Nat} {p1 : Nat} {p2 : Int32} {p3 : Int32} {r : GS} (hΨ : Ψ none (L0, r.1, r.2, q0)) : ∀ (n : Nat) {v4 : Int64} {v6 : Int32} {x5 : Option AV} {g : Nat → Nat → Nat → Int32} {w : Nat → Nat → Nat → Int64}, s_X1_put_R10 i0 p1 p2 p3 n v4 v6 g w = some r → Ev (EvM mth (d + 2)) mth c00 sc0 (retP (none) c00 Ψ) (lkp es_29) 10 [some (aR 1 i0), some (aR 4 p1), some (aI p2), some (aI p3), some (aL v4), x5, some (aI v6)] [] (L0, g, w, q0) := by
  intro n
  induction n with
  | zero => intros; rename_i h; exact absurd h (by intro h9; cases h9)
  | succ n ih => intros; rename_i h; exact e_X1_put_10 (hr10 := ih) hΨ h
def s_X1_put (i0 : Nat) (p1 : Nat) (p2 : Int32) (p3 : Int32) (g : Nat → Nat → Nat → Int32) (w : Nat → Nat → Nat → Int64) : Option (GS) :=
  s_X1_put_R10 i0 p1 p2 p3 FU (s_X4_hoursFrom p1 p2 g w) (0 : Int32) g w
set_option maxRecDepth 20000 in
set_option maxHeartbeats 2000000 in
theorem d_X1_put {d : Nat} {i0 : Nat} {p1 : Nat} {p2 : Int32} {p3 : Int32} {g : Nat → Nat → Nat → Int32} {w : Nat → Nat → Nat → Int64} {r : GS} (h : s_X1_put i0 p1 p2 p3 g w = some r) : Does (EvM mth (d + 3)) 29 [aR 1 i0, aR 4 p1, aI p2, aI p3] (L0, g, w, q0) none (L0, r.1, r.2, q0) := by
  intro Ψ hΨ
  refine ⟨in_29, mth_29, Nat.le_of_ble_eq_true rfl, ?_⟩
  show Ev (EvM mth (d + 2)) mth c00 sc0 (retP (none) c00 Ψ) (lkp es_29) 0 [some (aR 1 i0), some (aR 4 p1), some (aI p2), some (aI p3), none, none, none] [] (L0, g, w, q0)
  unfold s_X1_put at h
  refine ev_aload_n (pc' := 1) rfl rfl rfl ?_
  refine ev_iload_n (pc' := 2) rfl rfl rfl ?_
  refine ev_V2L (pc' := 5) rfl (by decide) rfl mth_60 ⟨Nat.le_of_ble_eq_true rfl, rfl⟩ ⟨Nat.le_refl _, Nat.le_refl _⟩ d_X4_hoursFrom ?_
  refine ev_lstore (pc' := 7) rfl rfl (l' := [some (aR 1 i0), some (aR 4 p1), some (aI p2), some (aI p3), some (aL (s_X4_hoursFrom p1 p2 g w)), none, none]) rfl ?_
  refine ev_iconst (pc' := 8) rfl rfl (v := (0 : Int32)) (by decide) ?_
  refine ev_istore (pc' := 10) rfl rfl (l' := [some (aR 1 i0), some (aR 4 p1), some (aI p2), some (aI p3), some (aL (s_X4_hoursFrom p1 p2 g w)), none, some (aI (0 : Int32))]) rfl ?_
  exact e_X1_put_R10 hΨ FU h
def s_X1_waitedOf_36 (i0 : Nat) (p1 : Int32) (v2 : Int32) (g : Nat → Nat → Nat → Int32) (w : Nat → Nat → Nat → Int64) : Option (Int32) :=
  some (v2)
set_option maxRecDepth 20000 in
set_option maxHeartbeats 2000000 in
theorem e_X1_waitedOf_36 {d : Nat} {Ψ : Option AV → DS → Prop} {i0 : Nat} {p1 : Int32} {r : Int32} {g : Nat → Nat → Nat → Int32} {w : Nat → Nat → Nat → Int64} {v2 : Int32} {x0 : Option AV} {x1 : Option AV} {x3 : Option AV} (hΨ : Ψ (some (aI r)) (L0, g, w, q0)) (h : s_X1_waitedOf_36 i0 p1 v2 g w = some r) : Ev (EvM mth (d + 2)) mth c00 sc0 (retP (some .int) c00 Ψ) (lkp es_36) 36 [x0, x1, some (aI v2), x3] [] (L0, g, w, q0) := by
  unfold s_X1_waitedOf_36 at h
  refine ev_iload_n (pc' := 37) rfl rfl rfl ?_
  obtain rfl := Option.some.inj h
  exact ev_ireturn rfl ⟨⟨_, rfl, rfl⟩, rfl, rfl, hΨ⟩
def s_X1_waitedOf_4 (i0 : Nat) (p1 : Int32) (rec4 : Int32 → Int32 → (Nat → Nat → Nat → Int32) → (Nat → Nat → Nat → Int64) → Option (Int32)) (v2 : Int32) (v3 : Int32) (g : Nat → Nat → Nat → Int32) (w : Nat → Nat → Nat → Int64) : Option (Int32) :=
  if p1 ≤ v3 then
    s_X1_waitedOf_36 i0 p1 v2 g w
  else
    if (8 : Int32) ≤ v3 then
      s_X1_waitedOf_36 i0 p1 v2 g w
    else
      if inR v3 8 = true then
        rec4 (v2 + (s_X4_waited (8 * i0 + v3.toNatClampNeg) g w)) (v3 + 1) g w
      else none
set_option maxRecDepth 20000 in
set_option maxHeartbeats 2000000 in
theorem e_X1_waitedOf_4 {d : Nat} {Ψ : Option AV → DS → Prop} {i0 : Nat} {p1 : Int32} {rec4 : Int32 → Int32 → (Nat → Nat → Nat → Int32) → (Nat → Nat → Nat → Int64) → Option (Int32)} {r : Int32} {g : Nat → Nat → Nat → Int32} {w : Nat → Nat → Nat → Int64} {v2 : Int32} {v3 : Int32} (hr4 : ∀ {v2 : Int32} {v3 : Int32} , rec4 v2 v3 g w = some r → Ev (EvM mth (d + 2)) mth c00 sc0 (retP (some .int) c00 Ψ) (lkp es_36) 4 [some (aR 1 i0), some (aI p1), some (aI v2), some (aI v3)] [] (L0, g, w, q0)) (hΨ : Ψ (some (aI r)) (L0, g, w, q0)) (h : s_X1_waitedOf_4 i0 p1 rec4 v2 v3 g w = some r) : Ev (EvM mth (d + 2)) mth c00 sc0 (retP (some .int) c00 Ψ) (lkp es_36) 4 [some (aR 1 i0), some (aI p1), some (aI v2), some (aI v3)] [] (L0, g, w, q0) := by
  unfold s_X1_waitedOf_4 at h
  refine ev_iload_n (pc' := 5) rfl rfl rfl ?_
  refine ev_iload_n (pc' := 6) rfl rfl rfl ?_
  refine ev_icmp_ge rfl (pc' := 9) rfl (fun hc => ?_) (fun hc => ?_)
  · have h := (if_pos hc).symm.trans h
    exact e_X1_waitedOf_36 hΨ h
  · have h := (if_neg hc).symm.trans h
    refine ev_iload_n (pc' := 10) rfl rfl rfl ?_
    refine ev_aload_n (pc' := 11) rfl rfl rfl ?_
    refine ev_getQ (pc' := 14) rfl rfl rfl ?_
    refine ev_alen (pc' := 15) rfl rfl (by decide) (v := (8 : Int32)) (by decide) ?_
    refine ev_icmp_ge rfl (pc' := 18) rfl (fun hc => ?_) (fun hc => ?_)
    · have h := (if_pos hc).symm.trans h
      exact e_X1_waitedOf_36 hΨ h
    · have h := (if_neg hc).symm.trans h
      refine ev_iload_n (pc' := 19) rfl rfl rfl ?_
      refine ev_aload_n (pc' := 20) rfl rfl rfl ?_
      refine ev_getQ (pc' := 23) rfl rfl rfl ?_
      refine ev_iload_n (pc' := 24) rfl rfl rfl ?_
      obtain ⟨hi, h⟩ := gdB h
      refine ev_aald (pc' := 25) rfl rfl (by decide) rfl (inR_vp hi) rfl ?_
      refine ev_V1I (pc' := 28) rfl (by decide) rfl mth_62 ⟨Nat.le_of_ble_eq_true rfl, rfl⟩ ⟨Nat.le_refl _, Nat.le_refl _⟩ d_X4_waited ?_
      refine ev_iadd (pc' := 29) rfl rfl ?_
      refine ev_istore_n (pc' := 30) rfl rfl (l' := [some (aR 1 i0), some (aI p1), some (aI (v2 + (s_X4_waited (8 * i0 + v3.toNatClampNeg) g w))), some (aI v3)]) rfl ?_
      refine ev_iinc (pc' := 33) rfl rfl (l' := [some (aR 1 i0), some (aI p1), some (aI (v2 + (s_X4_waited (8 * i0 + v3.toNatClampNeg) g w))), some (aI (v3 + 1))]) rfl (ii_1 _) rfl ?_
      refine ev_goto (pc' := 4) rfl ?_
      exact hr4 h
def s_X1_waitedOf_R4 (i0 : Nat) (p1 : Int32) : Nat → Int32 → Int32 → (Nat → Nat → Nat → Int32) → (Nat → Nat → Nat → Int64) → Option (Int32)
  | 0 => fun _ _ _ _ => none
  | n + 1 => s_X1_waitedOf_4 i0 p1 (s_X1_waitedOf_R4 i0 p1 n)
theorem e_X1_waitedOf_R4 {d : Nat} {Ψ : Option AV → DS → Prop} {i0 : Nat} {p1 : Int32} {r : Int32} {g : Nat → Nat → Nat → Int32} {w : Nat → Nat → Nat → Int64} (hΨ : Ψ (some (aI r)) (L0, g, w, q0)) : ∀ (n : Nat) {v2 : Int32} {v3 : Int32} , s_X1_waitedOf_R4 i0 p1 n v2 v3 g w = some r → Ev (EvM mth (d + 2)) mth c00 sc0 (retP (some .int) c00 Ψ) (lkp es_36) 4 [some (aR 1 i0), some (aI p1), some (aI v2), some (aI v3)] [] (L0, g, w, q0) := by
  intro n
  induction n with
  | zero => intros; rename_i h; exact absurd h (by intro h9; cases h9)
  | succ n ih => intros; rename_i h; exact e_X1_waitedOf_4 (hr4 := ih) hΨ h
def s_X1_waitedOf (i0 : Nat) (p1 : Int32) (g : Nat → Nat → Nat → Int32) (w : Nat → Nat → Nat → Int64) : Option (Int32) :=
  s_X1_waitedOf_R4 i0 p1 FU (0 : Int32) (0 : Int32) g w
set_option maxRecDepth 20000 in
set_option maxHeartbeats 2000000 in
theorem d_X1_waitedOf {d : Nat} {i0 : Nat} {p1 : Int32} {g : Nat → Nat → Nat → Int32} {w : Nat → Nat → Nat → Int64} {r : Int32} (h : s_X1_waitedOf i0 p1 g w = some r) : Does (EvM mth (d + 3)) 36 [aR 1 i0, aI p1] (L0, g, w, q0) (some (aI r)) (L0, g, w, q0) := by
  intro Ψ hΨ
  refine ⟨in_36, mth_36, Nat.le_of_ble_eq_true rfl, ?_⟩
  show Ev (EvM mth (d + 2)) mth c00 sc0 (retP (some .int) c00 Ψ) (lkp es_36) 0 [some (aR 1 i0), some (aI p1), none, none] [] (L0, g, w, q0)
  unfold s_X1_waitedOf at h
  refine ev_iconst (pc' := 1) rfl rfl (v := (0 : Int32)) (by decide) ?_
  refine ev_istore_n (pc' := 2) rfl rfl (l' := [some (aR 1 i0), some (aI p1), some (aI (0 : Int32)), none]) rfl ?_
  refine ev_iconst (pc' := 3) rfl rfl (v := (0 : Int32)) (by decide) ?_
  refine ev_istore_n (pc' := 4) rfl rfl (l' := [some (aR 1 i0), some (aI p1), some (aI (0 : Int32)), some (aI (0 : Int32))]) rfl ?_
  exact e_X1_waitedOf_R4 hΨ FU h
def s_X3_isSo_168 (p0 : Int32) (p1 : Int32) (p2 : Nat) (p3 : Nat) (t0 : Bool) (g : Nat → Nat → Nat → Int32) (w : Nat → Nat → Nat → Int64) : Option (Bool) :=
  some (t0)
set_option maxRecDepth 20000 in
set_option maxHeartbeats 2000000 in
theorem e_X3_isSo_168 {d : Nat} {Ψ : Option AV → DS → Prop} {p0 : Int32} {p1 : Int32} {p2 : Nat} {p3 : Nat} {r : Bool} {g : Nat → Nat → Nat → Int32} {w : Nat → Nat → Nat → Int64} {t0 : Bool} {x0 : Option AV} {x1 : Option AV} {x2 : Option AV} {x3 : Option AV} (hΨ : Ψ (some (aI (bI r))) (L0, g, w, q0)) (h : s_X3_isSo_168 p0 p1 p2 p3 t0 g w = some r) : Ev (EvM mth (d + 2)) mth c00 sc0 (retP (some .boolean) c00 Ψ) (lkp es_51) 168 [x0, x1, x2, x3] [aI (bI t0)] (L0, g, w, q0) := by
  unfold s_X3_isSo_168 at h
  obtain rfl := Option.some.inj h
  exact ev_ireturn rfl ⟨⟨_, rfl, nar_bI _⟩, rfl, rfl, hΨ⟩
def s_X3_isSo_149 (p0 : Int32) (p1 : Int32) (p2 : Nat) (p3 : Nat) (t0 : Bool) (g : Nat → Nat → Nat → Int32) (w : Nat → Nat → Nat → Int64) : Option (Bool) :=
  some (t0)
set_option maxRecDepth 20000 in
set_option maxHeartbeats 2000000 in
theorem e_X3_isSo_149 {d : Nat} {Ψ : Option AV → DS → Prop} {p0 : Int32} {p1 : Int32} {p2 : Nat} {p3 : Nat} {r : Bool} {g : Nat → Nat → Nat → Int32} {w : Nat → Nat → Nat → Int64} {t0 : Bool} {x0 : Option AV} {x1 : Option AV} {x2 : Option AV} {x3 : Option AV} (hΨ : Ψ (some (aI (bI r))) (L0, g, w, q0)) (h : s_X3_isSo_149 p0 p1 p2 p3 t0 g w = some r) : Ev (EvM mth (d + 2)) mth c00 sc0 (retP (some .boolean) c00 Ψ) (lkp es_51) 149 [x0, x1, x2, x3] [aI (bI t0)] (L0, g, w, q0) := by
  unfold s_X3_isSo_149 at h
  obtain rfl := Option.some.inj h
  exact ev_ireturn rfl ⟨⟨_, rfl, nar_bI _⟩, rfl, rfl, hΨ⟩
def s_X3_isSo_131 (p0 : Int32) (p1 : Int32) (p2 : Nat) (p3 : Nat) (t0 : Bool) (g : Nat → Nat → Nat → Int32) (w : Nat → Nat → Nat → Int64) : Option (Bool) :=
  some (t0)
set_option maxRecDepth 20000 in
set_option maxHeartbeats 2000000 in
theorem e_X3_isSo_131 {d : Nat} {Ψ : Option AV → DS → Prop} {p0 : Int32} {p1 : Int32} {p2 : Nat} {p3 : Nat} {r : Bool} {g : Nat → Nat → Nat → Int32} {w : Nat → Nat → Nat → Int64} {t0 : Bool} {x0 : Option AV} {x1 : Option AV} {x2 : Option AV} {x3 : Option AV} (hΨ : Ψ (some (aI (bI r))) (L0, g, w, q0)) (h : s_X3_isSo_131 p0 p1 p2 p3 t0 g w = some r) : Ev (EvM mth (d + 2)) mth c00 sc0 (retP (some .boolean) c00 Ψ) (lkp es_51) 131 [x0, x1, x2, x3] [aI (bI t0)] (L0, g, w, q0) := by
  unfold s_X3_isSo_131 at h
  obtain rfl := Option.some.inj h
  exact ev_ireturn rfl ⟨⟨_, rfl, nar_bI _⟩, rfl, rfl, hΨ⟩
def s_X3_isSo_114 (p0 : Int32) (p1 : Int32) (p2 : Nat) (p3 : Nat) (t0 : Bool) (g : Nat → Nat → Nat → Int32) (w : Nat → Nat → Nat → Int64) : Option (Bool) :=
  some (t0)
set_option maxRecDepth 20000 in
set_option maxHeartbeats 2000000 in
theorem e_X3_isSo_114 {d : Nat} {Ψ : Option AV → DS → Prop} {p0 : Int32} {p1 : Int32} {p2 : Nat} {p3 : Nat} {r : Bool} {g : Nat → Nat → Nat → Int32} {w : Nat → Nat → Nat → Int64} {t0 : Bool} {x0 : Option AV} {x1 : Option AV} {x2 : Option AV} {x3 : Option AV} (hΨ : Ψ (some (aI (bI r))) (L0, g, w, q0)) (h : s_X3_isSo_114 p0 p1 p2 p3 t0 g w = some r) : Ev (EvM mth (d + 2)) mth c00 sc0 (retP (some .boolean) c00 Ψ) (lkp es_51) 114 [x0, x1, x2, x3] [aI (bI t0)] (L0, g, w, q0) := by
  unfold s_X3_isSo_114 at h
  obtain rfl := Option.some.inj h
  exact ev_ireturn rfl ⟨⟨_, rfl, nar_bI _⟩, rfl, rfl, hΨ⟩
def s_X3_isSo_109 (p0 : Int32) (p1 : Int32) (p2 : Nat) (p3 : Nat) (g : Nat → Nat → Nat → Int32) (w : Nat → Nat → Nat → Int64) : Option (Bool) :=
  s_X3_isSo_114 p0 p1 p2 p3 true g w
set_option maxRecDepth 20000 in
set_option maxHeartbeats 2000000 in
theorem e_X3_isSo_109 {d : Nat} {Ψ : Option AV → DS → Prop} {p0 : Int32} {p1 : Int32} {p2 : Nat} {p3 : Nat} {r : Bool} {g : Nat → Nat → Nat → Int32} {w : Nat → Nat → Nat → Int64} {x0 : Option AV} {x1 : Option AV} {x2 : Option AV} {x3 : Option AV} (hΨ : Ψ (some (aI (bI r))) (L0, g, w, q0)) (h : s_X3_isSo_109 p0 p1 p2 p3 g w = some r) : Ev (EvM mth (d + 2)) mth c00 sc0 (retP (some .boolean) c00 Ψ) (lkp es_51) 109 [x0, x1, x2, x3] [] (L0, g, w, q0) := by
  unfold s_X3_isSo_109 at h
  refine ev_iconst (pc' := 110) rfl rfl (v := (1 : Int32)) (by decide) ?_
  refine ev_goto (pc' := 114) rfl ?_
  exact e_X3_isSo_114 hΨ h
def s_X3_isSo_84 (p0 : Int32) (p1 : Int32) (p2 : Nat) (p3 : Nat) (t0 : Bool) (g : Nat → Nat → Nat → Int32) (w : Nat → Nat → Nat → Int64) : Option (Bool) :=
  some (t0)
set_option maxRecDepth 20000 in
set_option maxHeartbeats 2000000 in
theorem e_X3_isSo_84 {d : Nat} {Ψ : Option AV → DS → Prop} {p0 : Int32} {p1 : Int32} {p2 : Nat} {p3 : Nat} {r : Bool} {g : Nat → Nat → Nat → Int32} {w : Nat → Nat → Nat → Int64} {t0 : Bool} {x0 : Option AV} {x1 : Option AV} {x2 : Option AV} {x3 : Option AV} (hΨ : Ψ (some (aI (bI r))) (L0, g, w, q0)) (h : s_X3_isSo_84 p0 p1 p2 p3 t0 g w = some r) : Ev (EvM mth (d + 2)) mth c00 sc0 (retP (some .boolean) c00 Ψ) (lkp es_51) 84 [x0, x1, x2, x3] [aI (bI t0)] (L0, g, w, q0) := by
  unfold s_X3_isSo_84 at h
  obtain rfl := Option.some.inj h
  exact ev_ireturn rfl ⟨⟨_, rfl, nar_bI _⟩, rfl, rfl, hΨ⟩
def s_X3_isSo_83 (p0 : Int32) (p1 : Int32) (p2 : Nat) (p3 : Nat) (g : Nat → Nat → Nat → Int32) (w : Nat → Nat → Nat → Int64) : Option (Bool) :=
  s_X3_isSo_84 p0 p1 p2 p3 false g w
set_option maxRecDepth 20000 in
set_option maxHeartbeats 2000000 in
theorem e_X3_isSo_83 {d : Nat} {Ψ : Option AV → DS → Prop} {p0 : Int32} {p1 : Int32} {p2 : Nat} {p3 : Nat} {r : Bool} {g : Nat → Nat → Nat → Int32} {w : Nat → Nat → Nat → Int64} {x0 : Option AV} {x1 : Option AV} {x2 : Option AV} {x3 : Option AV} (hΨ : Ψ (some (aI (bI r))) (L0, g, w, q0)) (h : s_X3_isSo_83 p0 p1 p2 p3 g w = some r) : Ev (EvM mth (d + 2)) mth c00 sc0 (retP (some .boolean) c00 Ψ) (lkp es_51) 83 [x0, x1, x2, x3] [] (L0, g, w, q0) := by
  unfold s_X3_isSo_83 at h
  refine ev_iconst (pc' := 84) rfl rfl (v := (0 : Int32)) (by decide) ?_
  exact e_X3_isSo_84 hΨ h
def s_X3_isSo_55 (p0 : Int32) (p1 : Int32) (p2 : Nat) (p3 : Nat) (t0 : Bool) (g : Nat → Nat → Nat → Int32) (w : Nat → Nat → Nat → Int64) : Option (Bool) :=
  some (t0)
set_option maxRecDepth 20000 in
set_option maxHeartbeats 2000000 in
theorem e_X3_isSo_55 {d : Nat} {Ψ : Option AV → DS → Prop} {p0 : Int32} {p1 : Int32} {p2 : Nat} {p3 : Nat} {r : Bool} {g : Nat → Nat → Nat → Int32} {w : Nat → Nat → Nat → Int64} {t0 : Bool} {x0 : Option AV} {x1 : Option AV} {x2 : Option AV} {x3 : Option AV} (hΨ : Ψ (some (aI (bI r))) (L0, g, w, q0)) (h : s_X3_isSo_55 p0 p1 p2 p3 t0 g w = some r) : Ev (EvM mth (d + 2)) mth c00 sc0 (retP (some .boolean) c00 Ψ) (lkp es_51) 55 [x0, x1, x2, x3] [aI (bI t0)] (L0, g, w, q0) := by
  unfold s_X3_isSo_55 at h
  obtain rfl := Option.some.inj h
  exact ev_ireturn rfl ⟨⟨_, rfl, nar_bI _⟩, rfl, rfl, hΨ⟩
def s_X3_isSo (p0 : Int32) (p1 : Int32) (p2 : Nat) (p3 : Nat) (g : Nat → Nat → Nat → Int32) (w : Nat → Nat → Nat → Int64) : Option (Bool) :=
  if p0 = (0 : Int32) then
    some (true)
  else
  if p0 = (1 : Int32) then
    if (g 4 p3 0) < p1 then
      s_X3_isSo_55 p0 p1 p2 p3 false g w
    else
      s_X3_isSo_55 p0 p1 p2 p3 true g w
  else
  if p0 = (2 : Int32) then
    if (s_X6_isHour (g 4 p3 7) g w) = true then
      if inR (g 4 p3 7) 48 = true then
        if (g 1048 p2 (g 4 p3 7).toNatClampNeg) < p1 then
          s_X3_isSo_83 p0 p1 p2 p3 g w
        else
          s_X3_isSo_84 p0 p1 p2 p3 true g w
      else none
    else
      s_X3_isSo_83 p0 p1 p2 p3 g w
  else
  if p0 = (3 : Int32) then
    if ((g 4 p3 7) - (g 4 p3 7) / (24 : Int32) * (24 : Int32)) < (6 : Int32) then
      s_X3_isSo_109 p0 p1 p2 p3 g w
    else
      if ((g 4 p3 7) - (g 4 p3 7) / (24 : Int32) * (24 : Int32)) < (20 : Int32) then
        s_X3_isSo_114 p0 p1 p2 p3 false g w
      else
        s_X3_isSo_109 p0 p1 p2 p3 g w
  else
  if p0 = (4 : Int32) then
    if (s_J_Integer_bitCount (g 4 p3 8) g w) < p1 then
      s_X3_isSo_131 p0 p1 p2 p3 false g w
    else
      s_X3_isSo_131 p0 p1 p2 p3 true g w
  else
  if p0 = (5 : Int32) then
    (s_X1_pullOf p2 (g 4 p3 8) g w).bind fun q1 =>
    if q1 < p1 then
      s_X3_isSo_149 p0 p1 p2 p3 false g w
    else
      s_X3_isSo_149 p0 p1 p2 p3 true g w
  else
    if ((g 4 p3 7) - (g 4 p3 2)) < p1 then
      s_X3_isSo_168 p0 p1 p2 p3 false g w
    else
      s_X3_isSo_168 p0 p1 p2 p3 true g w
set_option maxRecDepth 20000 in
set_option maxHeartbeats 2000000 in
theorem d_X3_isSo {d : Nat} {p0 : Int32} {p1 : Int32} {p2 : Nat} {p3 : Nat} {g : Nat → Nat → Nat → Int32} {w : Nat → Nat → Nat → Int64} {r : Bool} (h : s_X3_isSo p0 p1 p2 p3 g w = some r) : Does (EvM mth (d + 3)) 51 [aI p0, aI p1, aR 1 p2, aR 4 p3] (L0, g, w, q0) (some (aI (bI r))) (L0, g, w, q0) := by
  intro Ψ hΨ
  refine ⟨in_51, mth_51, Nat.le_of_ble_eq_true rfl, ?_⟩
  show Ev (EvM mth (d + 2)) mth c00 sc0 (retP (some .boolean) c00 Ψ) (lkp es_51) 0 [some (aI p0), some (aI p1), some (aR 1 p2), some (aR 4 p3)] [] (L0, g, w, q0)
  unfold s_X3_isSo at h
  refine ev_iload_n (pc' := 1) rfl rfl rfl ?_
  refine ev_tsw rfl (fun hd => ?_) (fun n u hn hv => ?_)
  · skip
    have h := (if_neg (show ¬ p0 = (0 : Int32) from fun e9 => by rw [e9] at hd; revert hd; decide)).symm.trans h
    have h := (if_neg (show ¬ p0 = (1 : Int32) from fun e9 => by rw [e9] at hd; revert hd; decide)).symm.trans h
    have h := (if_neg (show ¬ p0 = (2 : Int32) from fun e9 => by rw [e9] at hd; revert hd; decide)).symm.trans h
    have h := (if_neg (show ¬ p0 = (3 : Int32) from fun e9 => by rw [e9] at hd; revert hd; decide)).symm.trans h
    have h := (if_neg (show ¬ p0 = (4 : Int32) from fun e9 => by rw [e9] at hd; revert hd; decide)).symm.trans h
    have h := (if_neg (show ¬ p0 = (5 : Int32) from fun e9 => by rw [e9] at hd; revert hd; decide)).symm.trans h
    refine ev_aload_n (pc' := 151) rfl rfl rfl ?_
    refine ev_getI (pc' := 154) rfl rfl ?_
    refine ev_aload_n (pc' := 155) rfl rfl rfl ?_
    refine ev_getI (pc' := 158) rfl rfl ?_
    refine ev_isub (pc' := 159) rfl rfl ?_
    refine ev_iload_n (pc' := 160) rfl rfl rfl ?_
    refine ev_icmp_lt rfl (pc' := 163) rfl (fun hc => ?_) (fun hc => ?_)
    · have h := (if_pos hc).symm.trans h
      refine ev_iconst (pc' := 168) rfl rfl (v := (0 : Int32)) (by decide) ?_
      exact e_X3_isSo_168 hΨ h
    · have h := (if_neg hc).symm.trans h
      refine ev_iconst (pc' := 164) rfl rfl (v := (1 : Int32)) (by decide) ?_
      refine ev_goto (pc' := 168) rfl ?_
      exact e_X3_isSo_168 hΨ h
  · match n, hn with
    | 0, hn =>
      obtain rfl := Option.some.inj hn
      have e9 : p0 = (0 : Int32) := Int32.toInt_inj.mp (hv.trans (by decide))
      have h := (if_pos e9).symm.trans h
      refine ev_iconst (pc' := 41) rfl rfl (v := (1 : Int32)) (by decide) ?_
      obtain rfl := Option.some.inj h
      exact ev_ireturn rfl ⟨⟨_, rfl, rfl⟩, rfl, rfl, hΨ⟩
    | 1, hn =>
      obtain rfl := Option.some.inj hn
      have e9 : p0 = (1 : Int32) := Int32.toInt_inj.mp (hv.trans (by decide))
      have h := (if_neg (show ¬ p0 = (0 : Int32) from by rw [e9]; decide)).symm.trans h
      have h := (if_pos e9).symm.trans h
      refine ev_aload_n (pc' := 43) rfl rfl rfl ?_
      refine ev_getI (pc' := 46) rfl rfl ?_
      refine ev_iload_n (pc' := 47) rfl rfl rfl ?_
      refine ev_icmp_lt rfl (pc' := 50) rfl (fun hc => ?_) (fun hc => ?_)
      · have h := (if_pos hc).symm.trans h
        refine ev_iconst (pc' := 55) rfl rfl (v := (0 : Int32)) (by decide) ?_
        exact e_X3_isSo_55 hΨ h
      · have h := (if_neg hc).symm.trans h
        refine ev_iconst (pc' := 51) rfl rfl (v := (1 : Int32)) (by decide) ?_
        refine ev_goto (pc' := 55) rfl ?_
        exact e_X3_isSo_55 hΨ h
    | 2, hn =>
      obtain rfl := Option.some.inj hn
      have e9 : p0 = (2 : Int32) := Int32.toInt_inj.mp (hv.trans (by decide))
      have h := (if_neg (show ¬ p0 = (0 : Int32) from by rw [e9]; decide)).symm.trans h
      have h := (if_neg (show ¬ p0 = (1 : Int32) from by rw [e9]; decide)).symm.trans h
      have h := (if_pos e9).symm.trans h
      refine ev_aload_n (pc' := 57) rfl rfl rfl ?_
      refine ev_getI (pc' := 60) rfl rfl ?_
      refine ev_S1I (pc' := 63) rfl (by decide) rfl mth_106 ⟨Nat.le_of_ble_eq_true rfl, rfl⟩ ⟨Nat.le_refl _, Nat.le_refl _⟩ d_X6_isHour ?_
      refine ev_ifB_eq rfl (pc' := 66) rfl (fun hc => ?_) (fun hc => ?_)
      · have h := (if_neg hc).symm.trans h
        exact e_X3_isSo_83 hΨ h
      · have h := (if_pos hc).symm.trans h
        refine ev_aload_n (pc' := 67) rfl rfl rfl ?_
        refine ev_getQ (pc' := 70) rfl rfl rfl ?_
        refine ev_aload_n (pc' := 71) rfl rfl rfl ?_
        refine ev_getI (pc' := 74) rfl rfl ?_
        obtain ⟨hi, h⟩ := gdB h
        refine ev_iald (pc' := 75) rfl rfl rfl (inR_vp hi) ?_
        refine ev_iload_n (pc' := 76) rfl rfl rfl ?_
        refine ev_icmp_lt rfl (pc' := 79) rfl (fun hc => ?_) (fun hc => ?_)
        · have h := (if_pos hc).symm.trans h
          exact e_X3_isSo_83 hΨ h
        · have h := (if_neg hc).symm.trans h
          refine ev_iconst (pc' := 80) rfl rfl (v := (1 : Int32)) (by decide) ?_
          refine ev_goto (pc' := 84) rfl ?_
          exact e_X3_isSo_84 hΨ h
    | 3, hn =>
      obtain rfl := Option.some.inj hn
      have e9 : p0 = (3 : Int32) := Int32.toInt_inj.mp (hv.trans (by decide))
      have h := (if_neg (show ¬ p0 = (0 : Int32) from by rw [e9]; decide)).symm.trans h
      have h := (if_neg (show ¬ p0 = (1 : Int32) from by rw [e9]; decide)).symm.trans h
      have h := (if_neg (show ¬ p0 = (2 : Int32) from by rw [e9]; decide)).symm.trans h
      have h := (if_pos e9).symm.trans h
      refine ev_aload_n (pc' := 86) rfl rfl rfl ?_
      refine ev_getI (pc' := 89) rfl rfl ?_
      refine ev_bipush (pc' := 91) rfl rfl (v := (24 : Int32)) (by decide) ?_
      refine ev_irem (pc' := 92) rfl rfl (by decide) ?_
      refine ev_bipush (pc' := 94) rfl rfl (v := (6 : Int32)) (by decide) ?_
      refine ev_icmp_lt rfl (pc' := 97) rfl (fun hc => ?_) (fun hc => ?_)
      · have h := (if_pos hc).symm.trans h
        exact e_X3_isSo_109 hΨ h
      · have h := (if_neg hc).symm.trans h
        refine ev_aload_n (pc' := 98) rfl rfl rfl ?_
        refine ev_getI (pc' := 101) rfl rfl ?_
        refine ev_bipush (pc' := 103) rfl rfl (v := (24 : Int32)) (by decide) ?_
        refine ev_irem (pc' := 104) rfl rfl (by decide) ?_
        refine ev_bipush (pc' := 106) rfl rfl (v := (20 : Int32)) (by decide) ?_
        refine ev_icmp_lt rfl (pc' := 109) rfl (fun hc => ?_) (fun hc => ?_)
        · have h := (if_pos hc).symm.trans h
          refine ev_iconst (pc' := 114) rfl rfl (v := (0 : Int32)) (by decide) ?_
          exact e_X3_isSo_114 hΨ h
        · have h := (if_neg hc).symm.trans h
          exact e_X3_isSo_109 hΨ h
    | 4, hn =>
      obtain rfl := Option.some.inj hn
      have e9 : p0 = (4 : Int32) := Int32.toInt_inj.mp (hv.trans (by decide))
      have h := (if_neg (show ¬ p0 = (0 : Int32) from by rw [e9]; decide)).symm.trans h
      have h := (if_neg (show ¬ p0 = (1 : Int32) from by rw [e9]; decide)).symm.trans h
      have h := (if_neg (show ¬ p0 = (2 : Int32) from by rw [e9]; decide)).symm.trans h
      have h := (if_neg (show ¬ p0 = (3 : Int32) from by rw [e9]; decide)).symm.trans h
      have h := (if_pos e9).symm.trans h
      refine ev_aload_n (pc' := 116) rfl rfl rfl ?_
      refine ev_getI (pc' := 119) rfl rfl ?_
      refine ev_S1I (pc' := 122) rfl (by decide) rfl mth_193 ⟨Nat.le_of_ble_eq_true rfl, rfl⟩ ⟨Nat.le_refl _, Nat.le_refl _⟩ d_J_Integer_bitCount ?_
      refine ev_iload_n (pc' := 123) rfl rfl rfl ?_
      refine ev_icmp_lt rfl (pc' := 126) rfl (fun hc => ?_) (fun hc => ?_)
      · have h := (if_pos hc).symm.trans h
        refine ev_iconst (pc' := 131) rfl rfl (v := (0 : Int32)) (by decide) ?_
        exact e_X3_isSo_131 hΨ h
      · have h := (if_neg hc).symm.trans h
        refine ev_iconst (pc' := 127) rfl rfl (v := (1 : Int32)) (by decide) ?_
        refine ev_goto (pc' := 131) rfl ?_
        exact e_X3_isSo_131 hΨ h
    | 5, hn =>
      obtain rfl := Option.some.inj hn
      have e9 : p0 = (5 : Int32) := Int32.toInt_inj.mp (hv.trans (by decide))
      have h := (if_neg (show ¬ p0 = (0 : Int32) from by rw [e9]; decide)).symm.trans h
      have h := (if_neg (show ¬ p0 = (1 : Int32) from by rw [e9]; decide)).symm.trans h
      have h := (if_neg (show ¬ p0 = (2 : Int32) from by rw [e9]; decide)).symm.trans h
      have h := (if_neg (show ¬ p0 = (3 : Int32) from by rw [e9]; decide)).symm.trans h
      have h := (if_neg (show ¬ p0 = (4 : Int32) from by rw [e9]; decide)).symm.trans h
      have h := (if_pos e9).symm.trans h
      refine ev_aload_n (pc' := 133) rfl rfl rfl ?_
      refine ev_aload_n (pc' := 134) rfl rfl rfl ?_
      refine ev_getI (pc' := 137) rfl rfl ?_
      obtain ⟨q1, hq1, h⟩ := Option.bind_eq_some_iff.mp h
      refine ev_V2I (pc' := 140) rfl (by decide) rfl mth_12 ⟨Nat.le_of_ble_eq_true rfl, rfl⟩ ⟨Nat.le_refl _, Nat.le_refl _⟩ (d_X1_pullOf hq1) ?_
      refine ev_iload_n (pc' := 141) rfl rfl rfl ?_
      refine ev_icmp_lt rfl (pc' := 144) rfl (fun hc => ?_) (fun hc => ?_)
      · have h := (if_pos hc).symm.trans h
        refine ev_iconst (pc' := 149) rfl rfl (v := (0 : Int32)) (by decide) ?_
        exact e_X3_isSo_149 hΨ h
      · have h := (if_neg hc).symm.trans h
        refine ev_iconst (pc' := 145) rfl rfl (v := (1 : Int32)) (by decide) ?_
        refine ev_goto (pc' := 149) rfl ?_
        exact e_X3_isSo_149 hΨ h
    | n + 6, hn => exact absurd hn (by simp)
def s_X4_copyFrom (i0 : Nat) (p1 : Nat) (g : Nat → Nat → Nat → Int32) (w : Nat → Nat → Nat → Int64) : GS :=
  ((gI (gI (s_X4_come i0 (g 4 p1 0) (g 4 p1 1) (g 4 p1 2) (g 4 p1 3) (g 4 p1 4) (g 4 p1 5) (g 4 p1 6) g w).1 4 i0 7 ((s_X4_come i0 (g 4 p1 0) (g 4 p1 1) (g 4 p1 2) (g 4 p1 3) (g 4 p1 4) (g 4 p1 5) (g 4 p1 6) g w).1 4 p1 7)) 4 i0 8 ((gI (s_X4_come i0 (g 4 p1 0) (g 4 p1 1) (g 4 p1 2) (g 4 p1 3) (g 4 p1 4) (g 4 p1 5) (g 4 p1 6) g w).1 4 i0 7 ((s_X4_come i0 (g 4 p1 0) (g 4 p1 1) (g 4 p1 2) (g 4 p1 3) (g 4 p1 4) (g 4 p1 5) (g 4 p1 6) g w).1 4 p1 7)) 4 p1 8)), (s_X4_come i0 (g 4 p1 0) (g 4 p1 1) (g 4 p1 2) (g 4 p1 3) (g 4 p1 4) (g 4 p1 5) (g 4 p1 6) g w).2)
set_option maxRecDepth 20000 in
set_option maxHeartbeats 2000000 in
theorem d_X4_copyFrom {d : Nat} {i0 : Nat} {p1 : Nat} {g : Nat → Nat → Nat → Int32} {w : Nat → Nat → Nat → Int64} : Does (EvM mth (d + 3)) 54 [aR 4 i0, aR 4 p1] (L0, g, w, q0) none (L0, (s_X4_copyFrom i0 p1 g w).1, (s_X4_copyFrom i0 p1 g w).2, q0) := by
  intro Ψ hΨ
  obtain ⟨r, h⟩ : ∃ r, s_X4_copyFrom i0 p1 g w = r := ⟨_, rfl⟩
  rw [h] at hΨ
  refine ⟨in_54, mth_54, Nat.le_of_ble_eq_true rfl, ?_⟩
  show Ev (EvM mth (d + 2)) mth c00 sc0 (retP (none) c00 Ψ) (lkp es_54) 0 [some (aR 4 i0), some (aR 4 p1)] [] (L0, g, w, q0)
  unfold s_X4_copyFrom at h
  refine ev_aload_n (pc' := 1) rfl rfl rfl ?_
  refine ev_aload_n (pc' := 2) rfl rfl rfl ?_
  refine ev_getI (pc' := 5) rfl rfl ?_
  refine ev_aload_n (pc' := 6) rfl rfl rfl ?_
  refine ev_getI (pc' := 9) rfl rfl ?_
  refine ev_aload_n (pc' := 10) rfl rfl rfl ?_
  refine ev_getI (pc' := 13) rfl rfl ?_
  refine ev_aload_n (pc' := 14) rfl rfl rfl ?_
  refine ev_getI (pc' := 17) rfl rfl ?_
  refine ev_aload_n (pc' := 18) rfl rfl rfl ?_
  refine ev_getI (pc' := 21) rfl rfl ?_
  refine ev_aload_n (pc' := 22) rfl rfl rfl ?_
  refine ev_getI (pc' := 25) rfl rfl ?_
  refine ev_aload_n (pc' := 26) rfl rfl rfl ?_
  refine ev_getI (pc' := 29) rfl rfl ?_
  refine ev_V8V (pc' := 32) rfl (by decide) rfl mth_53 ⟨Nat.le_of_ble_eq_true rfl, rfl⟩ ⟨Nat.le_refl _, Nat.le_refl _⟩ d_X4_come ?_
  refine ev_aload_n (pc' := 33) rfl rfl rfl ?_
  refine ev_aload_n (pc' := 34) rfl rfl rfl ?_
  refine ev_getI (pc' := 37) rfl rfl ?_
  refine ev_putI (pc' := 40) rfl rfl ?_
  refine ev_aload_n (pc' := 41) rfl rfl rfl ?_
  refine ev_aload_n (pc' := 42) rfl rfl rfl ?_
  refine ev_getI (pc' := 45) rfl rfl ?_
  refine ev_putI (pc' := 48) rfl rfl ?_
  subst h
  exact ev_return rfl ⟨rfl, rfl, rfl, hΨ⟩
def s_X4_jobHours_19 (i0 : Nat) (t0 : Int64) (g : Nat → Nat → Nat → Int32) (w : Nat → Nat → Nat → Int64) : Int64 :=
  t0
set_option maxRecDepth 20000 in
set_option maxHeartbeats 2000000 in
theorem e_X4_jobHours_19 {d : Nat} {Ψ : Option AV → DS → Prop} {i0 : Nat} {r : Int64} {g : Nat → Nat → Nat → Int32} {w : Nat → Nat → Nat → Int64} {t0 : Int64} {x0 : Option AV} (hΨ : Ψ (some (aL r)) (L0, g, w, q0)) (h : s_X4_jobHours_19 i0 t0 g w = r) : Ev (EvM mth (d + 2)) mth c00 sc0 (retP (some .long) c00 Ψ) (lkp es_61) 19 [x0] [aL t0] (L0, g, w, q0) := by
  unfold s_X4_jobHours_19 at h
  subst h
  exact ev_lreturn rfl ⟨⟨_, rfl⟩, rfl, rfl, hΨ⟩
def s_X4_jobHours (i0 : Nat) (g : Nat → Nat → Nat → Int32) (w : Nat → Nat → Nat → Int64) : Int64 :=
  if (s_X4_hasJob i0 g w) = true then
    s_X4_jobHours_19 i0 (s_X4_hoursFrom i0 (g 4 i0 7) g w) g w
  else
    s_X4_jobHours_19 i0 (0 : Int64) g w
set_option maxRecDepth 20000 in
set_option maxHeartbeats 2000000 in
theorem d_X4_jobHours {d : Nat} {i0 : Nat} {g : Nat → Nat → Nat → Int32} {w : Nat → Nat → Nat → Int64} : Does (EvM mth (d + 3)) 61 [aR 4 i0] (L0, g, w, q0) (some (aL (s_X4_jobHours i0 g w))) (L0, g, w, q0) := by
  intro Ψ hΨ
  obtain ⟨r, h⟩ : ∃ r, s_X4_jobHours i0 g w = r := ⟨_, rfl⟩
  rw [h] at hΨ
  refine ⟨in_61, mth_61, Nat.le_of_ble_eq_true rfl, ?_⟩
  show Ev (EvM mth (d + 2)) mth c00 sc0 (retP (some .long) c00 Ψ) (lkp es_61) 0 [some (aR 4 i0)] [] (L0, g, w, q0)
  unfold s_X4_jobHours at h
  refine ev_aload_n (pc' := 1) rfl rfl rfl ?_
  refine ev_V1I (pc' := 4) rfl (by decide) rfl mth_55 ⟨Nat.le_of_ble_eq_true rfl, rfl⟩ ⟨Nat.le_refl _, Nat.le_refl _⟩ d_X4_hasJob ?_
  refine ev_ifB_eq rfl (pc' := 7) rfl (fun hc => ?_) (fun hc => ?_)
  · have h := (if_neg hc).symm.trans h
    refine ev_lconst (pc' := 19) rfl rfl (v := (0 : Int64)) (by decide) ?_
    exact e_X4_jobHours_19 hΨ h
  · have h := (if_pos hc).symm.trans h
    refine ev_aload_n (pc' := 8) rfl rfl rfl ?_
    refine ev_aload_n (pc' := 9) rfl rfl rfl ?_
    refine ev_getI (pc' := 12) rfl rfl ?_
    refine ev_V2L (pc' := 15) rfl (by decide) rfl mth_60 ⟨Nat.le_of_ble_eq_true rfl, rfl⟩ ⟨Nat.le_refl _, Nat.le_refl _⟩ d_X4_hoursFrom ?_
    refine ev_goto (pc' := 19) rfl ?_
    exact e_X4_jobHours_19 hΨ h
def s_X6_wind_17 (i0 : Nat) (p1 : Int32) (p2 : Int32) (g : Nat → Nat → Nat → Int32) (w : Nat → Nat → Nat → Int64) : Option (Int32 × GS) :=
  some (((-1 : Int32), g, w))
set_option maxRecDepth 20000 in
set_option maxHeartbeats 2000000 in
theorem e_X6_wind_17 {d : Nat} {Ψ : Option AV → DS → Prop} {i0 : Nat} {p1 : Int32} {p2 : Int32} {r : Int32 × GS} {g : Nat → Nat → Nat → Int32} {w : Nat → Nat → Nat → Int64} {x0 : Option AV} {x1 : Option AV} {x2 : Option AV} {x3 : Option AV} (hΨ : Ψ (some (aI r.1)) (L0, r.2.1, r.2.2, q0)) (h : s_X6_wind_17 i0 p1 p2 g w = some r) : Ev (EvM mth (d + 2)) mth c00 sc0 (retP (some .int) c00 Ψ) (lkp es_75) 17 [x0, x1, x2, x3] [] (L0, g, w, q0) := by
  unfold s_X6_wind_17 at h
  refine ev_iconst (pc' := 18) rfl rfl (v := (-1 : Int32)) (by decide) ?_
  obtain rfl := Option.some.inj h
  exact ev_ireturn rfl ⟨⟨_, rfl, rfl⟩, rfl, rfl, hΨ⟩
def s_X6_wind (i0 : Nat) (p1 : Int32) (p2 : Int32) (g : Nat → Nat → Nat → Int32) (w : Nat → Nat → Nat → Int64) : Option (Int32 × GS) :=
  if (s_X6_isHour p1 g w) = true then
    if (s_X6_within p2 (0 : Int32) (9 : Int32) g w) = true then
      if inR p1 48 = true then
        if inR p1 48 = true then
          some (((g 1048 0 p1.toNatClampNeg), (gI g 1048 0 p1.toNatClampNeg p2), w))
        else none
      else none
    else
      s_X6_wind_17 i0 p1 p2 g w
  else
    s_X6_wind_17 i0 p1 p2 g w
set_option maxRecDepth 20000 in
set_option maxHeartbeats 2000000 in
theorem d_X6_wind {d : Nat} {i0 : Nat} {p1 : Int32} {p2 : Int32} {g : Nat → Nat → Nat → Int32} {w : Nat → Nat → Nat → Int64} {r : Int32 × GS} (h : s_X6_wind i0 p1 p2 g w = some r) : Does (EvM mth (d + 3)) 75 [aR 6 i0, aI p1, aI p2] (L0, g, w, q0) (some (aI r.1)) (L0, r.2.1, r.2.2, q0) := by
  intro Ψ hΨ
  refine ⟨in_75, mth_75, Nat.le_of_ble_eq_true rfl, ?_⟩
  show Ev (EvM mth (d + 2)) mth c00 sc0 (retP (some .int) c00 Ψ) (lkp es_75) 0 [some (aR 6 i0), some (aI p1), some (aI p2), none] [] (L0, g, w, q0)
  unfold s_X6_wind at h
  refine ev_iload_n (pc' := 1) rfl rfl rfl ?_
  refine ev_S1I (pc' := 4) rfl (by decide) rfl mth_106 ⟨Nat.le_of_ble_eq_true rfl, rfl⟩ ⟨Nat.le_refl _, Nat.le_refl _⟩ d_X6_isHour ?_
  refine ev_ifB_eq rfl (pc' := 7) rfl (fun hc => ?_) (fun hc => ?_)
  · have h := (if_neg hc).symm.trans h
    exact e_X6_wind_17 hΨ h
  · have h := (if_pos hc).symm.trans h
    refine ev_iload_n (pc' := 8) rfl rfl rfl ?_
    refine ev_iconst (pc' := 9) rfl rfl (v := (0 : Int32)) (by decide) ?_
    refine ev_bipush (pc' := 11) rfl rfl (v := (9 : Int32)) (by decide) ?_
    refine ev_S3I (pc' := 14) rfl (by decide) rfl mth_105 ⟨Nat.le_of_ble_eq_true rfl, rfl⟩ ⟨Nat.le_refl _, Nat.le_refl _⟩ d_X6_within ?_
    refine ev_ifB_ne rfl (pc' := 17) rfl (fun hc => ?_) (fun hc => ?_)
    · have h := (if_pos hc).symm.trans h
      refine ev_aload_n (pc' := 20) rfl rfl rfl ?_
      refine ev_getQ (pc' := 23) rfl rfl rfl ?_
      refine ev_getQ (pc' := 26) rfl rfl rfl ?_
      refine ev_iload_n (pc' := 27) rfl rfl rfl ?_
      obtain ⟨hi, h⟩ := gdB h
      refine ev_iald (pc' := 28) rfl rfl rfl (inR_vp hi) ?_
      refine ev_istore_n (pc' := 29) rfl rfl (l' := [some (aR 6 i0), some (aI p1), some (aI p2), some (aI (g 1048 0 p1.toNatClampNeg))]) rfl ?_
      refine ev_aload_n (pc' := 30) rfl rfl rfl ?_
      refine ev_getQ (pc' := 33) rfl rfl rfl ?_
      refine ev_getQ (pc' := 36) rfl rfl rfl ?_
      refine ev_iload_n (pc' := 37) rfl rfl rfl ?_
      refine ev_iload_n (pc' := 38) rfl rfl rfl ?_
      obtain ⟨hi, h⟩ := gdB h
      refine ev_iast (pc' := 39) rfl rfl rfl (inR_vp hi) ?_
      refine ev_iload_n (pc' := 40) rfl rfl rfl ?_
      obtain rfl := Option.some.inj h
      exact ev_ireturn rfl ⟨⟨_, rfl, rfl⟩, rfl, rfl, hΨ⟩
    · have h := (if_neg hc).symm.trans h
      exact e_X6_wind_17 hΨ h
def s_X6_berth_71 (i0 : Nat) (p1 : Int32) (p2 : Int32) (p3 : Int32) (t0 : Nat) (g : Nat → Nat → Nat → Int32) (w : Nat → Nat → Nat → Int64) : Option (Int32 × GS) :=
  if inR p1 6 = true then
    if inR p1 6 = true then
      some (((g 1006 t0 p1.toNatClampNeg), (gI g 1006 t0 p1.toNatClampNeg p3), w))
    else none
  else none
set_option maxRecDepth 20000 in
set_option maxHeartbeats 2000000 in
theorem e_X6_berth_71 {d : Nat} {Ψ : Option AV → DS → Prop} {i0 : Nat} {p1 : Int32} {p2 : Int32} {p3 : Int32} {r : Int32 × GS} {g : Nat → Nat → Nat → Int32} {w : Nat → Nat → Nat → Int64} {t0 : Nat} {x0 : Option AV} {x2 : Option AV} {x4 : Option AV} {x5 : Option AV} (hΨ : Ψ (some (aI r.1)) (L0, r.2.1, r.2.2, q0)) (h : s_X6_berth_71 i0 p1 p2 p3 t0 g w = some r) : Ev (EvM mth (d + 2)) mth c00 sc0 (retP (some .int) c00 Ψ) (lkp es_77) 71 [x0, some (aI p1), x2, some (aI p3), x4, x5] [aR 1006 t0] (L0, g, w, q0) := by
  unfold s_X6_berth_71 at h
  refine ev_astore (pc' := 73) rfl rfl (l' := [x0, some (aI p1), x2, some (aI p3), some (aR 1006 t0), x5]) rfl ?_
  refine ev_aload (pc' := 75) rfl rfl rfl ?_
  refine ev_iload_n (pc' := 76) rfl rfl rfl ?_
  obtain ⟨hi, h⟩ := gdB h
  refine ev_iald (pc' := 77) rfl rfl rfl (inR_vp hi) ?_
  refine ev_istore (pc' := 79) rfl rfl (l' := [x0, some (aI p1), x2, some (aI p3), some (aR 1006 t0), some (aI (g 1006 t0 p1.toNatClampNeg))]) rfl ?_
  refine ev_aload (pc' := 81) rfl rfl rfl ?_
  refine ev_iload_n (pc' := 82) rfl rfl rfl ?_
  refine ev_iload_n (pc' := 83) rfl rfl rfl ?_
  obtain ⟨hi, h⟩ := gdB h
  refine ev_iast (pc' := 84) rfl rfl rfl (inR_vp hi) ?_
  refine ev_iload (pc' := 86) rfl rfl rfl ?_
  obtain rfl := Option.some.inj h
  exact ev_ireturn rfl ⟨⟨_, rfl, rfl⟩, rfl, rfl, hΨ⟩
def s_X6_berth_34 (i0 : Nat) (p1 : Int32) (p2 : Int32) (p3 : Int32) (g : Nat → Nat → Nat → Int32) (w : Nat → Nat → Nat → Int64) : Option (Int32 × GS) :=
  some (((-1 : Int32), g, w))
set_option maxRecDepth 20000 in
set_option maxHeartbeats 2000000 in
theorem e_X6_berth_34 {d : Nat} {Ψ : Option AV → DS → Prop} {i0 : Nat} {p1 : Int32} {p2 : Int32} {p3 : Int32} {r : Int32 × GS} {g : Nat → Nat → Nat → Int32} {w : Nat → Nat → Nat → Int64} {x0 : Option AV} {x1 : Option AV} {x2 : Option AV} {x3 : Option AV} {x4 : Option AV} {x5 : Option AV} (hΨ : Ψ (some (aI r.1)) (L0, r.2.1, r.2.2, q0)) (h : s_X6_berth_34 i0 p1 p2 p3 g w = some r) : Ev (EvM mth (d + 2)) mth c00 sc0 (retP (some .int) c00 Ψ) (lkp es_77) 34 [x0, x1, x2, x3, x4, x5] [] (L0, g, w, q0) := by
  unfold s_X6_berth_34 at h
  refine ev_iconst (pc' := 35) rfl rfl (v := (-1 : Int32)) (by decide) ?_
  obtain rfl := Option.some.inj h
  exact ev_ireturn rfl ⟨⟨_, rfl, rfl⟩, rfl, rfl, hΨ⟩
def s_X6_berth_28 (i0 : Nat) (p1 : Int32) (p2 : Int32) (p3 : Int32) (t2 : Int32) (g : Nat → Nat → Nat → Int32) (w : Nat → Nat → Nat → Int64) : Option (Int32 × GS) :=
  if (s_X6_within p3 (0 : Int32) t2 g w) = true then
    (s_X1_isBerthUsed 0 p1 g w).bind fun q1 =>
    if q1 = true then
      some (((-2 : Int32), g, w))
    else
      if p2 ≠ 0 then
        s_X6_berth_71 i0 p1 p2 p3 1 g w
      else
        s_X6_berth_71 i0 p1 p2 p3 0 g w
  else
    s_X6_berth_34 i0 p1 p2 p3 g w
set_option maxRecDepth 20000 in
set_option maxHeartbeats 2000000 in
theorem e_X6_berth_28 {d : Nat} {Ψ : Option AV → DS → Prop} {i0 : Nat} {p1 : Int32} {p2 : Int32} {p3 : Int32} {r : Int32 × GS} {g : Nat → Nat → Nat → Int32} {w : Nat → Nat → Nat → Int64} {t2 : Int32} {x4 : Option AV} {x5 : Option AV} (hΨ : Ψ (some (aI r.1)) (L0, r.2.1, r.2.2, q0)) (h : s_X6_berth_28 i0 p1 p2 p3 t2 g w = some r) : Ev (EvM mth (d + 2)) mth c00 sc0 (retP (some .int) c00 Ψ) (lkp es_77) 28 [some (aR 6 i0), some (aI p1), some (aI p2), some (aI p3), x4, x5] [aI t2, aI (0 : Int32), aI p3] (L0, g, w, q0) := by
  unfold s_X6_berth_28 at h
  refine ev_S3I (pc' := 31) rfl (by decide) rfl mth_105 ⟨Nat.le_of_ble_eq_true rfl, rfl⟩ ⟨Nat.le_refl _, Nat.le_refl _⟩ d_X6_within ?_
  refine ev_ifB_ne rfl (pc' := 34) rfl (fun hc => ?_) (fun hc => ?_)
  · have h := (if_pos hc).symm.trans h
    refine ev_aload_n (pc' := 37) rfl rfl rfl ?_
    refine ev_getQ (pc' := 40) rfl rfl rfl ?_
    refine ev_iload_n (pc' := 41) rfl rfl rfl ?_
    obtain ⟨q1, hq1, h⟩ := Option.bind_eq_some_iff.mp h
    refine ev_V2I (pc' := 44) rfl (by decide) rfl mth_7 ⟨Nat.le_of_ble_eq_true rfl, rfl⟩ ⟨Nat.le_refl _, Nat.le_refl _⟩ (d_X1_isBerthUsed hq1) ?_
    refine ev_ifB_eq rfl (pc' := 47) rfl (fun hc => ?_) (fun hc => ?_)
    · have h := (if_neg hc).symm.trans h
      refine ev_iload_n (pc' := 51) rfl rfl rfl ?_
      refine ev_if_ne rfl (pc' := 54) rfl (fun hc => ?_) (fun hc => ?_)
      · have h := (if_pos hc).symm.trans h
        refine ev_aload_n (pc' := 65) rfl rfl rfl ?_
        refine ev_getQ (pc' := 68) rfl rfl rfl ?_
        refine ev_getQ (pc' := 71) rfl rfl rfl ?_
        exact e_X6_berth_71 hΨ h
      · have h := (if_neg hc).symm.trans h
        refine ev_aload_n (pc' := 55) rfl rfl rfl ?_
        refine ev_getQ (pc' := 58) rfl rfl rfl ?_
        refine ev_getQ (pc' := 61) rfl rfl rfl ?_
        refine ev_goto (pc' := 71) rfl ?_
        exact e_X6_berth_71 hΨ h
    · have h := (if_pos hc).symm.trans h
      refine ev_bipush (pc' := 49) rfl rfl (v := (-2 : Int32)) (by decide) ?_
      obtain rfl := Option.some.inj h
      exact ev_ireturn rfl ⟨⟨_, rfl, rfl⟩, rfl, rfl, hΨ⟩
  · have h := (if_neg hc).symm.trans h
    exact e_X6_berth_34 hΨ h
def s_X6_berth (i0 : Nat) (p1 : Int32) (p2 : Int32) (p3 : Int32) (g : Nat → Nat → Nat → Int32) (w : Nat → Nat → Nat → Int64) : Option (Int32 × GS) :=
  if (s_X6_isBerth p1 g w) = true then
    if (s_X6_within p2 (0 : Int32) (1 : Int32) g w) = true then
      if p2 ≠ 0 then
        s_X6_berth_28 i0 p1 p2 p3 (1 : Int32) g w
      else
        s_X6_berth_28 i0 p1 p2 p3 (60 : Int32) g w
    else
      s_X6_berth_34 i0 p1 p2 p3 g w
  else
    s_X6_berth_34 i0 p1 p2 p3 g w
set_option maxRecDepth 20000 in
set_option maxHeartbeats 2000000 in
theorem d_X6_berth {d : Nat} {i0 : Nat} {p1 : Int32} {p2 : Int32} {p3 : Int32} {g : Nat → Nat → Nat → Int32} {w : Nat → Nat → Nat → Int64} {r : Int32 × GS} (h : s_X6_berth i0 p1 p2 p3 g w = some r) : Does (EvM mth (d + 3)) 77 [aR 6 i0, aI p1, aI p2, aI p3] (L0, g, w, q0) (some (aI r.1)) (L0, r.2.1, r.2.2, q0) := by
  intro Ψ hΨ
  refine ⟨in_77, mth_77, Nat.le_of_ble_eq_true rfl, ?_⟩
  show Ev (EvM mth (d + 2)) mth c00 sc0 (retP (some .int) c00 Ψ) (lkp es_77) 0 [some (aR 6 i0), some (aI p1), some (aI p2), some (aI p3), none, none] [] (L0, g, w, q0)
  unfold s_X6_berth at h
  refine ev_iload_n (pc' := 1) rfl rfl rfl ?_
  refine ev_S1I (pc' := 4) rfl (by decide) rfl mth_107 ⟨Nat.le_of_ble_eq_true rfl, rfl⟩ ⟨Nat.le_refl _, Nat.le_refl _⟩ d_X6_isBerth ?_
  refine ev_ifB_eq rfl (pc' := 7) rfl (fun hc => ?_) (fun hc => ?_)
  · have h := (if_neg hc).symm.trans h
    exact e_X6_berth_34 hΨ h
  · have h := (if_pos hc).symm.trans h
    refine ev_iload_n (pc' := 8) rfl rfl rfl ?_
    refine ev_iconst (pc' := 9) rfl rfl (v := (0 : Int32)) (by decide) ?_
    refine ev_iconst (pc' := 10) rfl rfl (v := (1 : Int32)) (by decide) ?_
    refine ev_S3I (pc' := 13) rfl (by decide) rfl mth_105 ⟨Nat.le_of_ble_eq_true rfl, rfl⟩ ⟨Nat.le_refl _, Nat.le_refl _⟩ d_X6_within ?_
    refine ev_ifB_eq rfl (pc' := 16) rfl (fun hc => ?_) (fun hc => ?_)
    · have h := (if_neg hc).symm.trans h
      exact e_X6_berth_34 hΨ h
    · have h := (if_pos hc).symm.trans h
      refine ev_iload_n (pc' := 17) rfl rfl rfl ?_
      refine ev_iconst (pc' := 18) rfl rfl (v := (0 : Int32)) (by decide) ?_
      refine ev_iload_n (pc' := 19) rfl rfl rfl ?_
      refine ev_if_ne rfl (pc' := 22) rfl (fun hc => ?_) (fun hc => ?_)
      · have h := (if_pos hc).symm.trans h
        refine ev_iconst (pc' := 28) rfl rfl (v := (1 : Int32)) (by decide) ?_
        exact e_X6_berth_28 hΨ h
      · have h := (if_neg hc).symm.trans h
        refine ev_bipush (pc' := 24) rfl rfl (v := (60 : Int32)) (by decide) ?_
        refine ev_goto (pc' := 28) rfl ?_
        exact e_X6_berth_28 hΨ h
def s_X6_way_14 (i0 : Nat) (p1 : Int32) (p2 : Int32) (g : Nat → Nat → Nat → Int32) (w : Nat → Nat → Nat → Int64) : Option (Int32) :=
  some ((-1 : Int32))
set_option maxRecDepth 20000 in
set_option maxHeartbeats 2000000 in
theorem e_X6_way_14 {d : Nat} {Ψ : Option AV → DS → Prop} {i0 : Nat} {p1 : Int32} {p2 : Int32} {r : Int32} {g : Nat → Nat → Nat → Int32} {w : Nat → Nat → Nat → Int64} {x0 : Option AV} {x1 : Option AV} {x2 : Option AV} (hΨ : Ψ (some (aI r)) (L0, g, w, q0)) (h : s_X6_way_14 i0 p1 p2 g w = some r) : Ev (EvM mth (d + 2)) mth c00 sc0 (retP (some .int) c00 Ψ) (lkp es_78) 14 [x0, x1, x2] [] (L0, g, w, q0) := by
  unfold s_X6_way_14 at h
  refine ev_iconst (pc' := 15) rfl rfl (v := (-1 : Int32)) (by decide) ?_
  obtain rfl := Option.some.inj h
  exact ev_ireturn rfl ⟨⟨_, rfl, rfl⟩, rfl, rfl, hΨ⟩
def s_X6_way (i0 : Nat) (p1 : Int32) (p2 : Int32) (g : Nat → Nat → Nat → Int32) (w : Nat → Nat → Nat → Int64) : Option (Int32) :=
  if (s_X6_isBerth p1 g w) = true then
    if (s_X6_isBerth p2 g w) = true then
      (s_X0_hoursBetween 0 p1 p2 (g 1 0 7) g w).bind fun q1 =>
      some (q1)
    else
      s_X6_way_14 i0 p1 p2 g w
  else
    s_X6_way_14 i0 p1 p2 g w
set_option maxRecDepth 20000 in
set_option maxHeartbeats 2000000 in
theorem d_X6_way {d : Nat} {i0 : Nat} {p1 : Int32} {p2 : Int32} {g : Nat → Nat → Nat → Int32} {w : Nat → Nat → Nat → Int64} {r : Int32} (h : s_X6_way i0 p1 p2 g w = some r) : Does (EvM mth (d + 3)) 78 [aR 6 i0, aI p1, aI p2] (L0, g, w, q0) (some (aI r)) (L0, g, w, q0) := by
  intro Ψ hΨ
  refine ⟨in_78, mth_78, Nat.le_of_ble_eq_true rfl, ?_⟩
  show Ev (EvM mth (d + 2)) mth c00 sc0 (retP (some .int) c00 Ψ) (lkp es_78) 0 [some (aR 6 i0), some (aI p1), some (aI p2)] [] (L0, g, w, q0)
  unfold s_X6_way at h
  refine ev_iload_n (pc' := 1) rfl rfl rfl ?_
  refine ev_S1I (pc' := 4) rfl (by decide) rfl mth_107 ⟨Nat.le_of_ble_eq_true rfl, rfl⟩ ⟨Nat.le_refl _, Nat.le_refl _⟩ d_X6_isBerth ?_
  refine ev_ifB_eq rfl (pc' := 7) rfl (fun hc => ?_) (fun hc => ?_)
  · have h := (if_neg hc).symm.trans h
    exact e_X6_way_14 hΨ h
  · have h := (if_pos hc).symm.trans h
    refine ev_iload_n (pc' := 8) rfl rfl rfl ?_
    refine ev_S1I (pc' := 11) rfl (by decide) rfl mth_107 ⟨Nat.le_of_ble_eq_true rfl, rfl⟩ ⟨Nat.le_refl _, Nat.le_refl _⟩ d_X6_isBerth ?_
    refine ev_ifB_ne rfl (pc' := 14) rfl (fun hc => ?_) (fun hc => ?_)
    · have h := (if_pos hc).symm.trans h
      refine ev_aload_n (pc' := 17) rfl rfl rfl ?_
      refine ev_getQ (pc' := 20) rfl rfl rfl ?_
      refine ev_iload_n (pc' := 21) rfl rfl rfl ?_
      refine ev_iload_n (pc' := 22) rfl rfl rfl ?_
      refine ev_aload_n (pc' := 23) rfl rfl rfl ?_
      refine ev_getQ (pc' := 26) rfl rfl rfl ?_
      refine ev_getI (pc' := 29) rfl rfl ?_
      obtain ⟨q1, hq1, h⟩ := Option.bind_eq_some_iff.mp h
      refine ev_V4I (pc' := 32) rfl (by decide) rfl mth_1 ⟨Nat.le_of_ble_eq_true rfl, rfl⟩ ⟨Nat.le_refl _, Nat.le_refl _⟩ (d_X0_hoursBetween hq1) ?_
      obtain rfl := Option.some.inj h
      exact ev_ireturn rfl ⟨⟨_, rfl, rfl⟩, rfl, rfl, hΨ⟩
    · have h := (if_neg hc).symm.trans h
      exact e_X6_way_14 hΨ h
def s_X6_ship_64 (i0 : Nat) (p1 : Int32) (p2 : Int32) (p3 : Int32) (p4 : Int32) (p5 : Int32) (p6 : Int32) (p7 : Int32) (g : Nat → Nat → Nat → Int32) (w : Nat → Nat → Nat → Int64) : Option (Int32 × GS) :=
  some (((-1 : Int32), g, w))
set_option maxRecDepth 20000 in
set_option maxHeartbeats 2000000 in
theorem e_X6_ship_64 {d : Nat} {Ψ : Option AV → DS → Prop} {i0 : Nat} {p1 : Int32} {p2 : Int32} {p3 : Int32} {p4 : Int32} {p5 : Int32} {p6 : Int32} {p7 : Int32} {r : Int32 × GS} {g : Nat → Nat → Nat → Int32} {w : Nat → Nat → Nat → Int64} {x0 : Option AV} {x1 : Option AV} {x2 : Option AV} {x3 : Option AV} {x4 : Option AV} {x5 : Option AV} {x6 : Option AV} {x7 : Option AV} {x8 : Option AV} (hΨ : Ψ (some (aI r.1)) (L0, r.2.1, r.2.2, q0)) (h : s_X6_ship_64 i0 p1 p2 p3 p4 p5 p6 p7 g w = some r) : Ev (EvM mth (d + 2)) mth c00 sc0 (retP (some .int) c00 Ψ) (lkp es_80) 64 [x0, x1, x2, x3, x4, x5, x6, x7, x8] [] (L0, g, w, q0) := by
  unfold s_X6_ship_64 at h
  refine ev_iconst (pc' := 65) rfl rfl (v := (-1 : Int32)) (by decide) ?_
  obtain rfl := Option.some.inj h
  exact ev_ireturn rfl ⟨⟨_, rfl, rfl⟩, rfl, rfl, hΨ⟩
def s_X6_ship (i0 : Nat) (p1 : Int32) (p2 : Int32) (p3 : Int32) (p4 : Int32) (p5 : Int32) (p6 : Int32) (p7 : Int32) (g : Nat → Nat → Nat → Int32) (w : Nat → Nat → Nat → Int64) : Option (Int32 × GS) :=
  if (s_X6_within p1 (1 : Int32) (50 : Int32) g w) = true then
    if (s_X6_within p2 (0 : Int32) (9 : Int32) g w) = true then
      if (s_X6_isHour p3 g w) = true then
        if (s_X6_within p4 (1 : Int32) (4 : Int32) g w) = true then
          if (s_X6_within p5 (1 : Int32) (20 : Int32) g w) = true then
            if (s_X6_isBerth p6 g w) = true then
              if (s_X6_isBerth p7 g w) = true then
                if (s_X6_within (g 1 0 10) (0 : Int32) (7 : Int32) g w) = true then
                  if inR (g 1 0 10) 8 = true then
                    some (((g 1 0 10), (gI (s_X4_come (8 * 0 + (g 1 0 10).toNatClampNeg) p1 p2 p3 p4 p5 p6 p7 g w).1 1 0 10 ((g 1 0 10) + (1 : Int32))), (s_X4_come (8 * 0 + (g 1 0 10).toNatClampNeg) p1 p2 p3 p4 p5 p6 p7 g w).2))
                  else none
                else
                  some (((-3 : Int32), g, w))
              else
                s_X6_ship_64 i0 p1 p2 p3 p4 p5 p6 p7 g w
            else
              s_X6_ship_64 i0 p1 p2 p3 p4 p5 p6 p7 g w
          else
            s_X6_ship_64 i0 p1 p2 p3 p4 p5 p6 p7 g w
        else
          s_X6_ship_64 i0 p1 p2 p3 p4 p5 p6 p7 g w
      else
        s_X6_ship_64 i0 p1 p2 p3 p4 p5 p6 p7 g w
    else
      s_X6_ship_64 i0 p1 p2 p3 p4 p5 p6 p7 g w
  else
    s_X6_ship_64 i0 p1 p2 p3 p4 p5 p6 p7 g w
set_option maxRecDepth 20000 in
set_option maxHeartbeats 2000000 in
theorem d_X6_ship {d : Nat} {i0 : Nat} {p1 : Int32} {p2 : Int32} {p3 : Int32} {p4 : Int32} {p5 : Int32} {p6 : Int32} {p7 : Int32} {g : Nat → Nat → Nat → Int32} {w : Nat → Nat → Nat → Int64} {r : Int32 × GS} (h : s_X6_ship i0 p1 p2 p3 p4 p5 p6 p7 g w = some r) : Does (EvM mth (d + 3)) 80 [aR 6 i0, aI p1, aI p2, aI p3, aI p4, aI p5, aI p6, aI p7] (L0, g, w, q0) (some (aI r.1)) (L0, r.2.1, r.2.2, q0) := by
  intro Ψ hΨ
  refine ⟨in_80, mth_80, Nat.le_of_ble_eq_true rfl, ?_⟩
  show Ev (EvM mth (d + 2)) mth c00 sc0 (retP (some .int) c00 Ψ) (lkp es_80) 0 [some (aR 6 i0), some (aI p1), some (aI p2), some (aI p3), some (aI p4), some (aI p5), some (aI p6), some (aI p7), none] [] (L0, g, w, q0)
  unfold s_X6_ship at h
  refine ev_iload_n (pc' := 1) rfl rfl rfl ?_
  refine ev_iconst (pc' := 2) rfl rfl (v := (1 : Int32)) (by decide) ?_
  refine ev_bipush (pc' := 4) rfl rfl (v := (50 : Int32)) (by decide) ?_
  refine ev_S3I (pc' := 7) rfl (by decide) rfl mth_105 ⟨Nat.le_of_ble_eq_true rfl, rfl⟩ ⟨Nat.le_refl _, Nat.le_refl _⟩ d_X6_within ?_
  refine ev_ifB_eq rfl (pc' := 10) rfl (fun hc => ?_) (fun hc => ?_)
  · have h := (if_neg hc).symm.trans h
    exact e_X6_ship_64 hΨ h
  · have h := (if_pos hc).symm.trans h
    refine ev_iload_n (pc' := 11) rfl rfl rfl ?_
    refine ev_iconst (pc' := 12) rfl rfl (v := (0 : Int32)) (by decide) ?_
    refine ev_bipush (pc' := 14) rfl rfl (v := (9 : Int32)) (by decide) ?_
    refine ev_S3I (pc' := 17) rfl (by decide) rfl mth_105 ⟨Nat.le_of_ble_eq_true rfl, rfl⟩ ⟨Nat.le_refl _, Nat.le_refl _⟩ d_X6_within ?_
    refine ev_ifB_eq rfl (pc' := 20) rfl (fun hc => ?_) (fun hc => ?_)
    · have h := (if_neg hc).symm.trans h
      exact e_X6_ship_64 hΨ h
    · have h := (if_pos hc).symm.trans h
      refine ev_iload_n (pc' := 21) rfl rfl rfl ?_
      refine ev_S1I (pc' := 24) rfl (by decide) rfl mth_106 ⟨Nat.le_of_ble_eq_true rfl, rfl⟩ ⟨Nat.le_refl _, Nat.le_refl _⟩ d_X6_isHour ?_
      refine ev_ifB_eq rfl (pc' := 27) rfl (fun hc => ?_) (fun hc => ?_)
      · have h := (if_neg hc).symm.trans h
        exact e_X6_ship_64 hΨ h
      · have h := (if_pos hc).symm.trans h
        refine ev_iload (pc' := 29) rfl rfl rfl ?_
        refine ev_iconst (pc' := 30) rfl rfl (v := (1 : Int32)) (by decide) ?_
        refine ev_iconst (pc' := 31) rfl rfl (v := (4 : Int32)) (by decide) ?_
        refine ev_S3I (pc' := 34) rfl (by decide) rfl mth_105 ⟨Nat.le_of_ble_eq_true rfl, rfl⟩ ⟨Nat.le_refl _, Nat.le_refl _⟩ d_X6_within ?_
        refine ev_ifB_eq rfl (pc' := 37) rfl (fun hc => ?_) (fun hc => ?_)
        · have h := (if_neg hc).symm.trans h
          exact e_X6_ship_64 hΨ h
        · have h := (if_pos hc).symm.trans h
          refine ev_iload (pc' := 39) rfl rfl rfl ?_
          refine ev_iconst (pc' := 40) rfl rfl (v := (1 : Int32)) (by decide) ?_
          refine ev_bipush (pc' := 42) rfl rfl (v := (20 : Int32)) (by decide) ?_
          refine ev_S3I (pc' := 45) rfl (by decide) rfl mth_105 ⟨Nat.le_of_ble_eq_true rfl, rfl⟩ ⟨Nat.le_refl _, Nat.le_refl _⟩ d_X6_within ?_
          refine ev_ifB_eq rfl (pc' := 48) rfl (fun hc => ?_) (fun hc => ?_)
          · have h := (if_neg hc).symm.trans h
            exact e_X6_ship_64 hΨ h
          · have h := (if_pos hc).symm.trans h
            refine ev_iload (pc' := 50) rfl rfl rfl ?_
            refine ev_S1I (pc' := 53) rfl (by decide) rfl mth_107 ⟨Nat.le_of_ble_eq_true rfl, rfl⟩ ⟨Nat.le_refl _, Nat.le_refl _⟩ d_X6_isBerth ?_
            refine ev_ifB_eq rfl (pc' := 56) rfl (fun hc => ?_) (fun hc => ?_)
            · have h := (if_neg hc).symm.trans h
              exact e_X6_ship_64 hΨ h
            · have h := (if_pos hc).symm.trans h
              refine ev_iload (pc' := 58) rfl rfl rfl ?_
              refine ev_S1I (pc' := 61) rfl (by decide) rfl mth_107 ⟨Nat.le_of_ble_eq_true rfl, rfl⟩ ⟨Nat.le_refl _, Nat.le_refl _⟩ d_X6_isBerth ?_
              refine ev_ifB_ne rfl (pc' := 64) rfl (fun hc => ?_) (fun hc => ?_)
              · have h := (if_pos hc).symm.trans h
                refine ev_aload_n (pc' := 67) rfl rfl rfl ?_
                refine ev_getQ (pc' := 70) rfl rfl rfl ?_
                refine ev_getI (pc' := 73) rfl rfl ?_
                refine ev_istore (pc' := 75) rfl rfl (l' := [some (aR 6 i0), some (aI p1), some (aI p2), some (aI p3), some (aI p4), some (aI p5), some (aI p6), some (aI p7), some (aI (g 1 0 10))]) rfl ?_
                refine ev_iload (pc' := 77) rfl rfl rfl ?_
                refine ev_iconst (pc' := 78) rfl rfl (v := (0 : Int32)) (by decide) ?_
                refine ev_bipush (pc' := 80) rfl rfl (v := (7 : Int32)) (by decide) ?_
                refine ev_S3I (pc' := 83) rfl (by decide) rfl mth_105 ⟨Nat.le_of_ble_eq_true rfl, rfl⟩ ⟨Nat.le_refl _, Nat.le_refl _⟩ d_X6_within ?_
                refine ev_ifB_ne rfl (pc' := 86) rfl (fun hc => ?_) (fun hc => ?_)
                · have h := (if_pos hc).symm.trans h
                  refine ev_aload_n (pc' := 90) rfl rfl rfl ?_
                  refine ev_getQ (pc' := 93) rfl rfl rfl ?_
                  refine ev_getQ (pc' := 96) rfl rfl rfl ?_
                  refine ev_iload (pc' := 98) rfl rfl rfl ?_
                  obtain ⟨hi, h⟩ := gdB h
                  refine ev_aald (pc' := 99) rfl rfl (by decide) rfl (inR_vp hi) rfl ?_
                  refine ev_iload_n (pc' := 100) rfl rfl rfl ?_
                  refine ev_iload_n (pc' := 101) rfl rfl rfl ?_
                  refine ev_iload_n (pc' := 102) rfl rfl rfl ?_
                  refine ev_iload (pc' := 104) rfl rfl rfl ?_
                  refine ev_iload (pc' := 106) rfl rfl rfl ?_
                  refine ev_iload (pc' := 108) rfl rfl rfl ?_
                  refine ev_iload (pc' := 110) rfl rfl rfl ?_
                  refine ev_V8V (pc' := 113) rfl (by decide) rfl mth_53 ⟨Nat.le_of_ble_eq_true rfl, rfl⟩ ⟨Nat.le_refl _, Nat.le_refl _⟩ d_X4_come ?_
                  refine ev_aload_n (pc' := 114) rfl rfl rfl ?_
                  refine ev_getQ (pc' := 117) rfl rfl rfl ?_
                  refine ev_iload (pc' := 119) rfl rfl rfl ?_
                  refine ev_iconst (pc' := 120) rfl rfl (v := (1 : Int32)) (by decide) ?_
                  refine ev_iadd (pc' := 121) rfl rfl ?_
                  refine ev_putI (pc' := 124) rfl rfl ?_
                  refine ev_iload (pc' := 126) rfl rfl rfl ?_
                  obtain rfl := Option.some.inj h
                  exact ev_ireturn rfl ⟨⟨_, rfl, rfl⟩, rfl, rfl, hΨ⟩
                · have h := (if_neg hc).symm.trans h
                  refine ev_bipush (pc' := 88) rfl rfl (v := (-3 : Int32)) (by decide) ?_
                  obtain rfl := Option.some.inj h
                  exact ev_ireturn rfl ⟨⟨_, rfl, rfl⟩, rfl, rfl, hΨ⟩
              · have h := (if_neg hc).symm.trans h
                exact e_X6_ship_64 hΨ h
def s_X6_needs_15 (i0 : Nat) (p1 : Int32) (p2 : Int32) (g : Nat → Nat → Nat → Int32) (w : Nat → Nat → Nat → Int64) : Option (Int32) :=
  some ((-1 : Int32))
set_option maxRecDepth 20000 in
set_option maxHeartbeats 2000000 in
theorem e_X6_needs_15 {d : Nat} {Ψ : Option AV → DS → Prop} {i0 : Nat} {p1 : Int32} {p2 : Int32} {r : Int32} {g : Nat → Nat → Nat → Int32} {w : Nat → Nat → Nat → Int64} {x0 : Option AV} {x1 : Option AV} {x2 : Option AV} (hΨ : Ψ (some (aI r)) (L0, g, w, q0)) (h : s_X6_needs_15 i0 p1 p2 g w = some r) : Ev (EvM mth (d + 2)) mth c00 sc0 (retP (some .int) c00 Ψ) (lkp es_81) 15 [x0, x1, x2] [] (L0, g, w, q0) := by
  unfold s_X6_needs_15 at h
  refine ev_iconst (pc' := 16) rfl rfl (v := (-1 : Int32)) (by decide) ?_
  obtain rfl := Option.some.inj h
  exact ev_ireturn rfl ⟨⟨_, rfl, rfl⟩, rfl, rfl, hΨ⟩
def s_X6_needs (i0 : Nat) (p1 : Int32) (p2 : Int32) (g : Nat → Nat → Nat → Int32) (w : Nat → Nat → Nat → Int64) : Option (Int32) :=
  if (s_X6_isShip i0 p1 g w) = true then
    if (s_X6_isHour p2 g w) = true then
      if inR p1 8 = true then
        (s_X1_neededPull 0 (8 * 0 + p1.toNatClampNeg) p2 g w).bind fun q1 =>
        some (q1)
      else none
    else
      s_X6_needs_15 i0 p1 p2 g w
  else
    s_X6_needs_15 i0 p1 p2 g w
set_option maxRecDepth 20000 in
set_option maxHeartbeats 2000000 in
theorem d_X6_needs {d : Nat} {i0 : Nat} {p1 : Int32} {p2 : Int32} {g : Nat → Nat → Nat → Int32} {w : Nat → Nat → Nat → Int64} {r : Int32} (h : s_X6_needs i0 p1 p2 g w = some r) : Does (EvM mth (d + 3)) 81 [aR 6 i0, aI p1, aI p2] (L0, g, w, q0) (some (aI r)) (L0, g, w, q0) := by
  intro Ψ hΨ
  refine ⟨in_81, mth_81, Nat.le_of_ble_eq_true rfl, ?_⟩
  show Ev (EvM mth (d + 2)) mth c00 sc0 (retP (some .int) c00 Ψ) (lkp es_81) 0 [some (aR 6 i0), some (aI p1), some (aI p2)] [] (L0, g, w, q0)
  unfold s_X6_needs at h
  refine ev_aload_n (pc' := 1) rfl rfl rfl ?_
  refine ev_iload_n (pc' := 2) rfl rfl rfl ?_
  refine ev_V2I (pc' := 5) rfl (by decide) rfl mth_109 ⟨Nat.le_of_ble_eq_true rfl, rfl⟩ ⟨Nat.le_refl _, Nat.le_refl _⟩ d_X6_isShip ?_
  refine ev_ifB_eq rfl (pc' := 8) rfl (fun hc => ?_) (fun hc => ?_)
  · have h := (if_neg hc).symm.trans h
    exact e_X6_needs_15 hΨ h
  · have h := (if_pos hc).symm.trans h
    refine ev_iload_n (pc' := 9) rfl rfl rfl ?_
    refine ev_S1I (pc' := 12) rfl (by decide) rfl mth_106 ⟨Nat.le_of_ble_eq_true rfl, rfl⟩ ⟨Nat.le_refl _, Nat.le_refl _⟩ d_X6_isHour ?_
    refine ev_ifB_ne rfl (pc' := 15) rfl (fun hc => ?_) (fun hc => ?_)
    · have h := (if_pos hc).symm.trans h
      refine ev_aload_n (pc' := 18) rfl rfl rfl ?_
      refine ev_getQ (pc' := 21) rfl rfl rfl ?_
      refine ev_aload_n (pc' := 22) rfl rfl rfl ?_
      refine ev_getQ (pc' := 25) rfl rfl rfl ?_
      refine ev_getQ (pc' := 28) rfl rfl rfl ?_
      refine ev_iload_n (pc' := 29) rfl rfl rfl ?_
      obtain ⟨hi, h⟩ := gdB h
      refine ev_aald (pc' := 30) rfl rfl (by decide) rfl (inR_vp hi) rfl ?_
      refine ev_iload_n (pc' := 31) rfl rfl rfl ?_
      obtain ⟨q1, hq1, h⟩ := Option.bind_eq_some_iff.mp h
      refine ev_V3I (pc' := 34) rfl (by decide) rfl mth_10 ⟨Nat.le_of_ble_eq_true rfl, rfl⟩ ⟨Nat.le_refl _, Nat.le_refl _⟩ (d_X1_neededPull hq1) ?_
      obtain rfl := Option.some.inj h
      exact ev_ireturn rfl ⟨⟨_, rfl, rfl⟩, rfl, rfl, hΨ⟩
    · have h := (if_neg hc).symm.trans h
      exact e_X6_needs_15 hΨ h
