def s_X4_come (i0 : Nat) (p1 : Int32) (p2 : Int32) (p3 : Int32) (p4 : Int32) (p5 : Int32) (p6 : Int32) (p7 : Int32) (g : Nat → Nat → Nat → Int32) (w : Nat → Nat → Nat → Int64) : GS :=
  ((s_X4_dropJob i0 (gI (gI (gI (gI (gI (gI (gI g 4 i0 0 p1) 4 i0 1 p2) 4 i0 2 p3) 4 i0 3 p4) 4 i0 4 p5) 4 i0 5 p6) 4 i0 6 p7) w).1, (s_X4_dropJob i0 (gI (gI (gI (gI (gI (gI (gI g 4 i0 0 p1) 4 i0 1 p2) 4 i0 2 p3) 4 i0 3 p4) 4 i0 4 p5) 4 i0 5 p6) 4 i0 6 p7) w).2)
set_option maxRecDepth 20000 in
set_option maxHeartbeats 2000000 in
theorem d_X4_come {d : Nat} {i0 : Nat} {p1 : Int32} {p2 : Int32} {p3 : Int32} {p4 : Int32} {p5 : Int32} {p6 : Int32} {p7 : Int32} {g : Nat → Nat → Nat → Int32} {w : Nat → Nat → Nat → Int64} : Does (EvM mth (d + 2)) 53 [aR 4 i0, aI p1, aI p2, aI p3, aI p4, aI p5, aI p6, aI p7] (L0, g, w, q0) none (L0, (s_X4_come i0 p1 p2 p3 p4 p5 p6 p7 g w).1, (s_X4_come i0 p1 p2 p3 p4 p5 p6 p7 g w).2, q0) := by
  intro Ψ hΨ
  obtain ⟨r, h⟩ : ∃ r, s_X4_come i0 p1 p2 p3 p4 p5 p6 p7 g w = r := ⟨_, rfl⟩
  rw [h] at hΨ
  refine ⟨in_53, mth_53, Nat.le_of_ble_eq_true rfl, ?_⟩
  show Ev (EvM mth (d + 1)) mth c00 sc0 (retP (none) c00 Ψ) (lkp es_53) 0 [some (aR 4 i0), some (aI p1), some (aI p2), some (aI p3), some (aI p4), some (aI p5), some (aI p6), some (aI p7)] [] (L0, g, w, q0)
  unfold s_X4_come at h
  refine ev_aload_n (pc' := 1) rfl rfl rfl ?_
  refine ev_iload_n (pc' := 2) rfl rfl rfl ?_
  refine ev_putI (pc' := 5) rfl rfl ?_
  refine ev_aload_n (pc' := 6) rfl rfl rfl ?_
  refine ev_iload_n (pc' := 7) rfl rfl rfl ?_
  refine ev_putI (pc' := 10) rfl rfl ?_
  refine ev_aload_n (pc' := 11) rfl rfl rfl ?_
  refine ev_iload_n (pc' := 12) rfl rfl rfl ?_
  refine ev_putI (pc' := 15) rfl rfl ?_
  refine ev_aload_n (pc' := 16) rfl rfl rfl ?_
  refine ev_iload (pc' := 18) rfl rfl rfl ?_
  refine ev_putI (pc' := 21) rfl rfl ?_
  refine ev_aload_n (pc' := 22) rfl rfl rfl ?_
  refine ev_iload (pc' := 24) rfl rfl rfl ?_
  refine ev_putI (pc' := 27) rfl rfl ?_
  refine ev_aload_n (pc' := 28) rfl rfl rfl ?_
  refine ev_iload (pc' := 30) rfl rfl rfl ?_
  refine ev_putI (pc' := 33) rfl rfl ?_
  refine ev_aload_n (pc' := 34) rfl rfl rfl ?_
  refine ev_iload (pc' := 36) rfl rfl rfl ?_
  refine ev_putI (pc' := 39) rfl rfl ?_
  refine ev_aload_n (pc' := 40) rfl rfl rfl ?_
  refine ev_V1V (pc' := 43) rfl (by decide) rfl mth_57 ⟨Nat.le_of_ble_eq_true rfl, rfl⟩ ⟨Nat.le_refl _, Nat.le_refl _⟩ d_X4_dropJob ?_
  subst h
  exact ev_return rfl ⟨rfl, rfl, rfl, hΨ⟩
def s_X4_hoursFrom (i0 : Nat) (p1 : Int32) (g : Nat → Nat → Nat → Int32) (w : Nat → Nat → Nat → Int64) : Int64 :=
  ((s_X6_hoursAhead (g 4 i0 3) g w) <<< (p1.toInt64 &&& 63))
set_option maxRecDepth 20000 in
set_option maxHeartbeats 2000000 in
theorem d_X4_hoursFrom {d : Nat} {i0 : Nat} {p1 : Int32} {g : Nat → Nat → Nat → Int32} {w : Nat → Nat → Nat → Int64} : Does (EvM mth (d + 2)) 60 [aR 4 i0, aI p1] (L0, g, w, q0) (some (aL (s_X4_hoursFrom i0 p1 g w))) (L0, g, w, q0) := by
  intro Ψ hΨ
  obtain ⟨r, h⟩ : ∃ r, s_X4_hoursFrom i0 p1 g w = r := ⟨_, rfl⟩
  rw [h] at hΨ
  refine ⟨in_60, mth_60, Nat.le_of_ble_eq_true rfl, ?_⟩
  show Ev (EvM mth (d + 1)) mth c00 sc0 (retP (some .long) c00 Ψ) (lkp es_60) 0 [some (aR 4 i0), some (aI p1)] [] (L0, g, w, q0)
  unfold s_X4_hoursFrom at h
  refine ev_aload_n (pc' := 1) rfl rfl rfl ?_
  refine ev_getI (pc' := 4) rfl rfl ?_
  refine ev_S1L (pc' := 7) rfl (by decide) rfl mth_112 ⟨Nat.le_of_ble_eq_true rfl, rfl⟩ ⟨Nat.le_refl _, Nat.le_refl _⟩ d_X6_hoursAhead ?_
  refine ev_iload_n (pc' := 8) rfl rfl rfl ?_
  refine ev_lshl (pc' := 9) rfl rfl ?_
  subst h
  exact ev_lreturn rfl ⟨⟨_, rfl⟩, rfl, rfl, hΨ⟩
def s_X4_waited_20 (i0 : Nat) (t0 : Int32) (t1 : Int32) (g : Nat → Nat → Nat → Int32) (w : Nat → Nat → Nat → Int64) : Int32 :=
  (t0 * (t1 - (g 4 i0 2)))
set_option maxRecDepth 20000 in
set_option maxHeartbeats 2000000 in
theorem e_X4_waited_20 {d : Nat} {Ψ : Option AV → DS → Prop} {i0 : Nat} {r : Int32} {g : Nat → Nat → Nat → Int32} {w : Nat → Nat → Nat → Int64} {t0 : Int32} {t1 : Int32} (hΨ : Ψ (some (aI r)) (L0, g, w, q0)) (h : s_X4_waited_20 i0 t0 t1 g w = r) : Ev (EvM mth (d + 1)) mth c00 sc0 (retP (some .int) c00 Ψ) (lkp es_62) 20 [some (aR 4 i0)] [aI t1, aI t0] (L0, g, w, q0) := by
  unfold s_X4_waited_20 at h
  refine ev_aload_n (pc' := 21) rfl rfl rfl ?_
  refine ev_getI (pc' := 24) rfl rfl ?_
  refine ev_isub (pc' := 25) rfl rfl ?_
  refine ev_imul (pc' := 26) rfl rfl ?_
  subst h
  exact ev_ireturn rfl ⟨⟨_, rfl, rfl⟩, rfl, rfl, hΨ⟩
def s_X4_waited (i0 : Nat) (g : Nat → Nat → Nat → Int32) (w : Nat → Nat → Nat → Int64) : Int32 :=
  if (s_X4_hasJob i0 g w) = true then
    s_X4_waited_20 i0 (g 4 i0 4) (g 4 i0 7) g w
  else
    s_X4_waited_20 i0 (g 4 i0 4) (60 : Int32) g w
set_option maxRecDepth 20000 in
set_option maxHeartbeats 2000000 in
theorem d_X4_waited {d : Nat} {i0 : Nat} {g : Nat → Nat → Nat → Int32} {w : Nat → Nat → Nat → Int64} : Does (EvM mth (d + 2)) 62 [aR 4 i0] (L0, g, w, q0) (some (aI (s_X4_waited i0 g w))) (L0, g, w, q0) := by
  intro Ψ hΨ
  obtain ⟨r, h⟩ : ∃ r, s_X4_waited i0 g w = r := ⟨_, rfl⟩
  rw [h] at hΨ
  refine ⟨in_62, mth_62, Nat.le_of_ble_eq_true rfl, ?_⟩
  show Ev (EvM mth (d + 1)) mth c00 sc0 (retP (some .int) c00 Ψ) (lkp es_62) 0 [some (aR 4 i0)] [] (L0, g, w, q0)
  unfold s_X4_waited at h
  refine ev_aload_n (pc' := 1) rfl rfl rfl ?_
  refine ev_getI (pc' := 4) rfl rfl ?_
  refine ev_aload_n (pc' := 5) rfl rfl rfl ?_
  refine ev_V1I (pc' := 8) rfl (by decide) rfl mth_55 ⟨Nat.le_of_ble_eq_true rfl, rfl⟩ ⟨Nat.le_refl _, Nat.le_refl _⟩ d_X4_hasJob ?_
  refine ev_ifB_eq rfl (pc' := 11) rfl (fun hc => ?_) (fun hc => ?_)
  · have h := (if_neg hc).symm.trans h
    refine ev_bipush (pc' := 20) rfl rfl (v := (60 : Int32)) (by decide) ?_
    exact e_X4_waited_20 hΨ h
  · have h := (if_pos hc).symm.trans h
    refine ev_aload_n (pc' := 12) rfl rfl rfl ?_
    refine ev_getI (pc' := 15) rfl rfl ?_
    refine ev_goto (pc' := 20) rfl ?_
    exact e_X4_waited_20 hΨ h
def s_X5_copyFrom (i0 : Nat) (p1 : Nat) (g : Nat → Nat → Nat → Int32) (w : Nat → Nat → Nat → Int64) : GS :=
  ((gI (s_X5_come i0 (g 5 p1 0) (g 5 p1 1) (g 5 p1 2) (g 5 p1 3) (g 5 p1 4) (g 5 p1 5) (g 5 p1 6) g w).1 5 i0 7 ((s_X5_come i0 (g 5 p1 0) (g 5 p1 1) (g 5 p1 2) (g 5 p1 3) (g 5 p1 4) (g 5 p1 5) (g 5 p1 6) g w).1 5 p1 7)), (wL (wL (s_X5_come i0 (g 5 p1 0) (g 5 p1 1) (g 5 p1 2) (g 5 p1 3) (g 5 p1 4) (g 5 p1 5) (g 5 p1 6) g w).2 5 i0 8 ((s_X5_come i0 (g 5 p1 0) (g 5 p1 1) (g 5 p1 2) (g 5 p1 3) (g 5 p1 4) (g 5 p1 5) (g 5 p1 6) g w).2 5 p1 8)) 5 i0 9 ((wL (s_X5_come i0 (g 5 p1 0) (g 5 p1 1) (g 5 p1 2) (g 5 p1 3) (g 5 p1 4) (g 5 p1 5) (g 5 p1 6) g w).2 5 i0 8 ((s_X5_come i0 (g 5 p1 0) (g 5 p1 1) (g 5 p1 2) (g 5 p1 3) (g 5 p1 4) (g 5 p1 5) (g 5 p1 6) g w).2 5 p1 8)) 5 p1 9)))
set_option maxRecDepth 20000 in
set_option maxHeartbeats 2000000 in
theorem d_X5_copyFrom {d : Nat} {i0 : Nat} {p1 : Nat} {g : Nat → Nat → Nat → Int32} {w : Nat → Nat → Nat → Int64} : Does (EvM mth (d + 2)) 65 [aR 5 i0, aR 5 p1] (L0, g, w, q0) none (L0, (s_X5_copyFrom i0 p1 g w).1, (s_X5_copyFrom i0 p1 g w).2, q0) := by
  intro Ψ hΨ
  obtain ⟨r, h⟩ : ∃ r, s_X5_copyFrom i0 p1 g w = r := ⟨_, rfl⟩
  rw [h] at hΨ
  refine ⟨in_65, mth_65, Nat.le_of_ble_eq_true rfl, ?_⟩
  show Ev (EvM mth (d + 1)) mth c00 sc0 (retP (none) c00 Ψ) (lkp es_65) 0 [some (aR 5 i0), some (aR 5 p1)] [] (L0, g, w, q0)
  unfold s_X5_copyFrom at h
  refine ev_aload_n (pc' := 1) rfl rfl rfl ?_
  refine ev_aload_n (pc' := 2) rfl rfl rfl ?_
  refine ev_getI (pc' := 5) rfl rfl ?_
  refine ev_aload_n (pc' := 6) rfl rfl rfl ?_
  refine ev_getI (pc' := 9) rfl rfl ?_
  refine ev_aload_n (pc' := 10) rfl rfl rfl ?_
  refine ev_getI (pc' := 13) rfl rfl ?_
  refine ev_aload_n (pc' := 14) rfl rfl rfl ?_
  refine ev_getI (pc' := 17) rfl rfl ?_
  refine ev_aload_n (pc' := 18) rfl rfl rfl ?_
  refine ev_getI (pc' := 21) rfl rfl ?_
  refine ev_aload_n (pc' := 22) rfl rfl rfl ?_
  refine ev_getI (pc' := 25) rfl rfl ?_
  refine ev_aload_n (pc' := 26) rfl rfl rfl ?_
  refine ev_getI (pc' := 29) rfl rfl ?_
  refine ev_V8V (pc' := 32) rfl (by decide) rfl mth_64 ⟨Nat.le_of_ble_eq_true rfl, rfl⟩ ⟨Nat.le_refl _, Nat.le_refl _⟩ d_X5_come ?_
  refine ev_aload_n (pc' := 33) rfl rfl rfl ?_
  refine ev_aload_n (pc' := 34) rfl rfl rfl ?_
  refine ev_getI (pc' := 37) rfl rfl ?_
  refine ev_putI (pc' := 40) rfl rfl ?_
  refine ev_aload_n (pc' := 41) rfl rfl rfl ?_
  refine ev_aload_n (pc' := 42) rfl rfl rfl ?_
  refine ev_getL (pc' := 45) rfl rfl ?_
  refine ev_putL (pc' := 48) rfl rfl ?_
  refine ev_aload_n (pc' := 49) rfl rfl rfl ?_
  refine ev_aload_n (pc' := 50) rfl rfl rfl ?_
  refine ev_getL (pc' := 53) rfl rfl ?_
  refine ev_putL (pc' := 56) rfl rfl ?_
  subst h
  exact ev_return rfl ⟨rfl, rfl, rfl, hΨ⟩
def s_X5_fuelBehind_35 (i0 : Nat) (p1 : Int32) (v2 : Int32) (g : Nat → Nat → Nat → Int32) (w : Nat → Nat → Nat → Int64) : Option (Int32) :=
  some (v2)
set_option maxRecDepth 20000 in
set_option maxHeartbeats 2000000 in
theorem e_X5_fuelBehind_35 {d : Nat} {Ψ : Option AV → DS → Prop} {i0 : Nat} {p1 : Int32} {r : Int32} {g : Nat → Nat → Nat → Int32} {w : Nat → Nat → Nat → Int64} {v2 : Int32} {x0 : Option AV} {x1 : Option AV} {x3 : Option AV} (hΨ : Ψ (some (aI r)) (L0, g, w, q0)) (h : s_X5_fuelBehind_35 i0 p1 v2 g w = some r) : Ev (EvM mth (d + 1)) mth c00 sc0 (retP (some .int) c00 Ψ) (lkp es_69) 35 [x0, x1, some (aI v2), x3] [] (L0, g, w, q0) := by
  unfold s_X5_fuelBehind_35 at h
  refine ev_iload_n (pc' := 36) rfl rfl rfl ?_
  obtain rfl := Option.some.inj h
  exact ev_ireturn rfl ⟨⟨_, rfl, rfl⟩, rfl, rfl, hΨ⟩
def s_X5_fuelBehind_7 (i0 : Nat) (p1 : Int32) (rec7 : Int32 → Int32 → (Nat → Nat → Nat → Int32) → (Nat → Nat → Nat → Int64) → Option (Int32)) (v2 : Int32) (v3 : Int32) (g : Nat → Nat → Nat → Int32) (w : Nat → Nat → Nat → Int64) : Option (Int32) :=
  if p1 < v3 then
    s_X5_fuelBehind_35 i0 p1 v2 g w
  else
    if (48 : Int32) ≤ v3 then
      s_X5_fuelBehind_35 i0 p1 v2 g w
    else
      rec7 (s_X5_fuelAfter i0 v2 v3 (w 5 i0 8) g w) (v3 + 1) g w
set_option maxRecDepth 20000 in
set_option maxHeartbeats 2000000 in
theorem e_X5_fuelBehind_7 {d : Nat} {Ψ : Option AV → DS → Prop} {i0 : Nat} {p1 : Int32} {rec7 : Int32 → Int32 → (Nat → Nat → Nat → Int32) → (Nat → Nat → Nat → Int64) → Option (Int32)} {r : Int32} {g : Nat → Nat → Nat → Int32} {w : Nat → Nat → Nat → Int64} {v2 : Int32} {v3 : Int32} (hr7 : ∀ {v2 : Int32} {v3 : Int32} , rec7 v2 v3 g w = some r → Ev (EvM mth (d + 1)) mth c00 sc0 (retP (some .int) c00 Ψ) (lkp es_69) 7 [some (aR 5 i0), some (aI p1), some (aI v2), some (aI v3)] [] (L0, g, w, q0)) (hΨ : Ψ (some (aI r)) (L0, g, w, q0)) (h : s_X5_fuelBehind_7 i0 p1 rec7 v2 v3 g w = some r) : Ev (EvM mth (d + 1)) mth c00 sc0 (retP (some .int) c00 Ψ) (lkp es_69) 7 [some (aR 5 i0), some (aI p1), some (aI v2), some (aI v3)] [] (L0, g, w, q0) := by
  unfold s_X5_fuelBehind_7 at h
  refine ev_iload_n (pc' := 8) rfl rfl rfl ?_
  refine ev_iload_n (pc' := 9) rfl rfl rfl ?_
  refine ev_icmp_gt rfl (pc' := 12) rfl (fun hc => ?_) (fun hc => ?_)
  · have h := (if_pos hc).symm.trans h
    exact e_X5_fuelBehind_35 hΨ h
  · have h := (if_neg hc).symm.trans h
    refine ev_iload_n (pc' := 13) rfl rfl rfl ?_
    refine ev_bipush (pc' := 15) rfl rfl (v := (48 : Int32)) (by decide) ?_
    refine ev_icmp_ge rfl (pc' := 18) rfl (fun hc => ?_) (fun hc => ?_)
    · have h := (if_pos hc).symm.trans h
      exact e_X5_fuelBehind_35 hΨ h
    · have h := (if_neg hc).symm.trans h
      refine ev_aload_n (pc' := 19) rfl rfl rfl ?_
      refine ev_iload_n (pc' := 20) rfl rfl rfl ?_
      refine ev_iload_n (pc' := 21) rfl rfl rfl ?_
      refine ev_aload_n (pc' := 22) rfl rfl rfl ?_
      refine ev_getL (pc' := 25) rfl rfl ?_
      refine ev_V4I (pc' := 28) rfl (by decide) rfl mth_71 ⟨Nat.le_of_ble_eq_true rfl, rfl⟩ ⟨Nat.le_refl _, Nat.le_refl _⟩ d_X5_fuelAfter ?_
      refine ev_istore_n (pc' := 29) rfl rfl (l' := [some (aR 5 i0), some (aI p1), some (aI (s_X5_fuelAfter i0 v2 v3 (w 5 i0 8) g w)), some (aI v3)]) rfl ?_
      refine ev_iinc (pc' := 32) rfl rfl (l' := [some (aR 5 i0), some (aI p1), some (aI (s_X5_fuelAfter i0 v2 v3 (w 5 i0 8) g w)), some (aI (v3 + 1))]) rfl (ii_1 _) rfl ?_
      refine ev_goto (pc' := 7) rfl ?_
      exact hr7 h
def s_X5_fuelBehind_R7 (i0 : Nat) (p1 : Int32) : Nat → Int32 → Int32 → (Nat → Nat → Nat → Int32) → (Nat → Nat → Nat → Int64) → Option (Int32)
  | 0 => fun _ _ _ _ => none
  | n + 1 => s_X5_fuelBehind_7 i0 p1 (s_X5_fuelBehind_R7 i0 p1 n)
theorem e_X5_fuelBehind_R7 {d : Nat} {Ψ : Option AV → DS → Prop} {i0 : Nat} {p1 : Int32} {r : Int32} {g : Nat → Nat → Nat → Int32} {w : Nat → Nat → Nat → Int64} (hΨ : Ψ (some (aI r)) (L0, g, w, q0)) : ∀ (n : Nat) {v2 : Int32} {v3 : Int32} , s_X5_fuelBehind_R7 i0 p1 n v2 v3 g w = some r → Ev (EvM mth (d + 1)) mth c00 sc0 (retP (some .int) c00 Ψ) (lkp es_69) 7 [some (aR 5 i0), some (aI p1), some (aI v2), some (aI v3)] [] (L0, g, w, q0) := by
  intro n
  induction n with
  | zero => intros; rename_i h; exact absurd h (by intro h9; cases h9)
  | succ n ih => intros; rename_i h; exact e_X5_fuelBehind_7 (hr7 := ih) hΨ h
def s_X5_fuelBehind (i0 : Nat) (p1 : Int32) (g : Nat → Nat → Nat → Int32) (w : Nat → Nat → Nat → Int64) : Option (Int32) :=
  s_X5_fuelBehind_R7 i0 p1 FU (g 5 i0 3) (0 : Int32) g w
set_option maxRecDepth 20000 in
set_option maxHeartbeats 2000000 in
theorem d_X5_fuelBehind {d : Nat} {i0 : Nat} {p1 : Int32} {g : Nat → Nat → Nat → Int32} {w : Nat → Nat → Nat → Int64} {r : Int32} (h : s_X5_fuelBehind i0 p1 g w = some r) : Does (EvM mth (d + 2)) 69 [aR 5 i0, aI p1] (L0, g, w, q0) (some (aI r)) (L0, g, w, q0) := by
  intro Ψ hΨ
  refine ⟨in_69, mth_69, Nat.le_of_ble_eq_true rfl, ?_⟩
  show Ev (EvM mth (d + 1)) mth c00 sc0 (retP (some .int) c00 Ψ) (lkp es_69) 0 [some (aR 5 i0), some (aI p1), none, none] [] (L0, g, w, q0)
  unfold s_X5_fuelBehind at h
  refine ev_aload_n (pc' := 1) rfl rfl rfl ?_
  refine ev_getI (pc' := 4) rfl rfl ?_
  refine ev_istore_n (pc' := 5) rfl rfl (l' := [some (aR 5 i0), some (aI p1), some (aI (g 5 i0 3)), none]) rfl ?_
  refine ev_iconst (pc' := 6) rfl rfl (v := (0 : Int32)) (by decide) ?_
  refine ev_istore_n (pc' := 7) rfl rfl (l' := [some (aR 5 i0), some (aI p1), some (aI (g 5 i0 3)), some (aI (0 : Int32))]) rfl ?_
  exact e_X5_fuelBehind_R7 hΨ FU h
def s_X5_fuelLasts_21 (i0 : Nat) (p1 : Int64) (rec21 : Int32 → Int32 → (Nat → Nat → Nat → Int32) → (Nat → Nat → Nat → Int64) → Option (Bool)) (v3 : Int32) (v4 : Int32) (g : Nat → Nat → Nat → Int32) (w : Nat → Nat → Nat → Int64) : Option (Bool) :=
  if (48 : Int32) ≤ v4 then
    some (true)
  else
    if 0 ≤ (s_X5_fuelAfter i0 v3 v4 p1 g w) then
      rec21 (s_X5_fuelAfter i0 v3 v4 p1 g w) (v4 + 1) g w
    else
      some (false)
set_option maxRecDepth 20000 in
set_option maxHeartbeats 2000000 in
theorem e_X5_fuelLasts_21 {d : Nat} {Ψ : Option AV → DS → Prop} {i0 : Nat} {p1 : Int64} {rec21 : Int32 → Int32 → (Nat → Nat → Nat → Int32) → (Nat → Nat → Nat → Int64) → Option (Bool)} {r : Bool} {g : Nat → Nat → Nat → Int32} {w : Nat → Nat → Nat → Int64} {v3 : Int32} {v4 : Int32} {x2 : Option AV} (hr21 : ∀ {v3 : Int32} {v4 : Int32} {x2 : Option AV} , rec21 v3 v4 g w = some r → Ev (EvM mth (d + 1)) mth c00 sc0 (retP (some .boolean) c00 Ψ) (lkp es_70) 21 [some (aR 5 i0), some (aL p1), x2, some (aI v3), some (aI v4)] [] (L0, g, w, q0)) (hΨ : Ψ (some (aI (bI r))) (L0, g, w, q0)) (h : s_X5_fuelLasts_21 i0 p1 rec21 v3 v4 g w = some r) : Ev (EvM mth (d + 1)) mth c00 sc0 (retP (some .boolean) c00 Ψ) (lkp es_70) 21 [some (aR 5 i0), some (aL p1), x2, some (aI v3), some (aI v4)] [] (L0, g, w, q0) := by
  unfold s_X5_fuelLasts_21 at h
  refine ev_iload (pc' := 23) rfl rfl rfl ?_
  refine ev_bipush (pc' := 25) rfl rfl (v := (48 : Int32)) (by decide) ?_
  refine ev_icmp_ge rfl (pc' := 28) rfl (fun hc => ?_) (fun hc => ?_)
  · have h := (if_pos hc).symm.trans h
    refine ev_iconst (pc' := 50) rfl rfl (v := (1 : Int32)) (by decide) ?_
    obtain rfl := Option.some.inj h
    exact ev_ireturn rfl ⟨⟨_, rfl, rfl⟩, rfl, rfl, hΨ⟩
  · have h := (if_neg hc).symm.trans h
    refine ev_aload_n (pc' := 29) rfl rfl rfl ?_
    refine ev_iload_n (pc' := 30) rfl rfl rfl ?_
    refine ev_iload (pc' := 32) rfl rfl rfl ?_
    refine ev_lload_n (pc' := 33) rfl rfl rfl ?_
    refine ev_V4I (pc' := 36) rfl (by decide) rfl mth_71 ⟨Nat.le_of_ble_eq_true rfl, rfl⟩ ⟨Nat.le_refl _, Nat.le_refl _⟩ d_X5_fuelAfter ?_
    refine ev_istore_n (pc' := 37) rfl rfl (l' := [some (aR 5 i0), some (aL p1), (klO x2), some (aI (s_X5_fuelAfter i0 v3 v4 p1 g w)), some (aI v4)]) rfl ?_
    refine ev_iload_n (pc' := 38) rfl rfl rfl ?_
    refine ev_if_ge rfl (pc' := 41) rfl (fun hc => ?_) (fun hc => ?_)
    · have h := (if_pos hc).symm.trans h
      refine ev_iinc (pc' := 46) rfl rfl (l' := [some (aR 5 i0), some (aL p1), (klO x2), some (aI (s_X5_fuelAfter i0 v3 v4 p1 g w)), some (aI (v4 + 1))]) rfl (ii_1 _) rfl ?_
      refine ev_goto (pc' := 21) rfl ?_
      exact hr21 h
    · have h := (if_neg hc).symm.trans h
      refine ev_iconst (pc' := 42) rfl rfl (v := (0 : Int32)) (by decide) ?_
      obtain rfl := Option.some.inj h
      exact ev_ireturn rfl ⟨⟨_, rfl, rfl⟩, rfl, rfl, hΨ⟩
def s_X5_fuelLasts_R21 (i0 : Nat) (p1 : Int64) : Nat → Int32 → Int32 → (Nat → Nat → Nat → Int32) → (Nat → Nat → Nat → Int64) → Option (Bool)
  | 0 => fun _ _ _ _ => none
  | n + 1 => s_X5_fuelLasts_21 i0 p1 (s_X5_fuelLasts_R21 i0 p1 n)
theorem e_X5_fuelLasts_R21 {d : Nat} {Ψ : Option AV → DS → Prop} {i0 : Nat} {p1 : Int64} {r : Bool} {g : Nat → Nat → Nat → Int32} {w : Nat → Nat → Nat → Int64} (hΨ : Ψ (some (aI (bI r))) (L0, g, w, q0)) : ∀ (n : Nat) {v3 : Int32} {v4 : Int32} {x2 : Option AV}, s_X5_fuelLasts_R21 i0 p1 n v3 v4 g w = some r → Ev (EvM mth (d + 1)) mth c00 sc0 (retP (some .boolean) c00 Ψ) (lkp es_70) 21 [some (aR 5 i0), some (aL p1), x2, some (aI v3), some (aI v4)] [] (L0, g, w, q0) := by
  intro n
  induction n with
  | zero => intros; rename_i h; exact absurd h (by intro h9; cases h9)
  | succ n ih => intros; rename_i h; exact e_X5_fuelLasts_21 (hr21 := ih) hΨ h
def s_X5_fuelLasts (i0 : Nat) (p1 : Int64) (g : Nat → Nat → Nat → Int32) (w : Nat → Nat → Nat → Int64) : Option (Bool) :=
  if (g 5 i0 3) < (s_J_Long_bitCount p1 g w) then
    s_X5_fuelLasts_R21 i0 p1 FU (g 5 i0 3) (0 : Int32) g w
  else
    some (true)
set_option maxRecDepth 20000 in
set_option maxHeartbeats 2000000 in
theorem d_X5_fuelLasts {d : Nat} {i0 : Nat} {p1 : Int64} {g : Nat → Nat → Nat → Int32} {w : Nat → Nat → Nat → Int64} {r : Bool} (h : s_X5_fuelLasts i0 p1 g w = some r) : Does (EvM mth (d + 2)) 70 [aR 5 i0, aL p1] (L0, g, w, q0) (some (aI (bI r))) (L0, g, w, q0) := by
  intro Ψ hΨ
  refine ⟨in_70, mth_70, Nat.le_of_ble_eq_true rfl, ?_⟩
  show Ev (EvM mth (d + 1)) mth c00 sc0 (retP (some .boolean) c00 Ψ) (lkp es_70) 0 [some (aR 5 i0), some (aL p1), none, none, none] [] (L0, g, w, q0)
  unfold s_X5_fuelLasts at h
  refine ev_lload_n (pc' := 1) rfl rfl rfl ?_
  refine ev_S1I (pc' := 4) rfl (by decide) rfl mth_192 ⟨Nat.le_of_ble_eq_true rfl, rfl⟩ ⟨Nat.le_refl _, Nat.le_refl _⟩ d_J_Long_bitCount ?_
  refine ev_aload_n (pc' := 5) rfl rfl rfl ?_
  refine ev_getI (pc' := 8) rfl rfl ?_
  refine ev_icmp_gt rfl (pc' := 11) rfl (fun hc => ?_) (fun hc => ?_)
  · have h := (if_pos hc).symm.trans h
    refine ev_aload_n (pc' := 14) rfl rfl rfl ?_
    refine ev_getI (pc' := 17) rfl rfl ?_
    refine ev_istore_n (pc' := 18) rfl rfl (l' := [some (aR 5 i0), some (aL p1), none, some (aI (g 5 i0 3)), none]) rfl ?_
    refine ev_iconst (pc' := 19) rfl rfl (v := (0 : Int32)) (by decide) ?_
    refine ev_istore (pc' := 21) rfl rfl (l' := [some (aR 5 i0), some (aL p1), none, some (aI (g 5 i0 3)), some (aI (0 : Int32))]) rfl ?_
    exact e_X5_fuelLasts_R21 hΨ FU h
  · have h := (if_neg hc).symm.trans h
    refine ev_iconst (pc' := 12) rfl rfl (v := (1 : Int32)) (by decide) ?_
    obtain rfl := Option.some.inj h
    exact ev_ireturn rfl ⟨⟨_, rfl, rfl⟩, rfl, rfl, hΨ⟩
def s_X5_crewRests_24 (i0 : Nat) (p1 : Int64) (p3 : Int32) (rec24 : Int32 → Int32 → (Nat → Nat → Nat → Int32) → (Nat → Nat → Nat → Int64) → Option (Bool)) (v4 : Int32) (v5 : Int32) (g : Nat → Nat → Nat → Int32) (w : Nat → Nat → Nat → Int64) : Option (Bool) :=
  if (48 : Int32) < (v5 + v4) then
    some (true)
  else
    if (s_J_Long_bitCount ((jlush p1 v5) &&& (s_X6_hoursAhead v4 g w)) g w) ≤ (g 5 i0 5) then
      rec24 v4 (v5 + 1) g w
    else
      some (false)
set_option maxRecDepth 20000 in
set_option maxHeartbeats 2000000 in
theorem e_X5_crewRests_24 {d : Nat} {Ψ : Option AV → DS → Prop} {i0 : Nat} {p1 : Int64} {p3 : Int32} {rec24 : Int32 → Int32 → (Nat → Nat → Nat → Int32) → (Nat → Nat → Nat → Int64) → Option (Bool)} {r : Bool} {g : Nat → Nat → Nat → Int32} {w : Nat → Nat → Nat → Int64} {v4 : Int32} {v5 : Int32} {x2 : Option AV} {x3 : Option AV} (hr24 : ∀ {v4 : Int32} {v5 : Int32} {x2 : Option AV} {x3 : Option AV} , rec24 v4 v5 g w = some r → Ev (EvM mth (d + 1)) mth c00 sc0 (retP (some .boolean) c00 Ψ) (lkp es_72) 24 [some (aR 5 i0), some (aL p1), x2, x3, some (aI v4), some (aI v5)] [] (L0, g, w, q0)) (hΨ : Ψ (some (aI (bI r))) (L0, g, w, q0)) (h : s_X5_crewRests_24 i0 p1 p3 rec24 v4 v5 g w = some r) : Ev (EvM mth (d + 1)) mth c00 sc0 (retP (some .boolean) c00 Ψ) (lkp es_72) 24 [some (aR 5 i0), some (aL p1), x2, x3, some (aI v4), some (aI v5)] [] (L0, g, w, q0) := by
  unfold s_X5_crewRests_24 at h
  refine ev_iload (pc' := 26) rfl rfl rfl ?_
  refine ev_iload (pc' := 28) rfl rfl rfl ?_
  refine ev_iadd (pc' := 29) rfl rfl ?_
  refine ev_bipush (pc' := 31) rfl rfl (v := (48 : Int32)) (by decide) ?_
  refine ev_icmp_gt rfl (pc' := 34) rfl (fun hc => ?_) (fun hc => ?_)
  · have h := (if_pos hc).symm.trans h
    refine ev_iconst (pc' := 63) rfl rfl (v := (1 : Int32)) (by decide) ?_
    obtain rfl := Option.some.inj h
    exact ev_ireturn rfl ⟨⟨_, rfl, rfl⟩, rfl, rfl, hΨ⟩
  · have h := (if_neg hc).symm.trans h
    refine ev_lload_n (pc' := 35) rfl rfl rfl ?_
    refine ev_iload (pc' := 37) rfl rfl rfl ?_
    refine ev_lushr (pc' := 38) rfl rfl ?_
    refine ev_iload (pc' := 40) rfl rfl rfl ?_
    refine ev_S1L (pc' := 43) rfl (by decide) rfl mth_112 ⟨Nat.le_of_ble_eq_true rfl, rfl⟩ ⟨Nat.le_refl _, Nat.le_refl _⟩ d_X6_hoursAhead ?_
    refine ev_land (pc' := 44) rfl rfl ?_
    refine ev_S1I (pc' := 47) rfl (by decide) rfl mth_192 ⟨Nat.le_of_ble_eq_true rfl, rfl⟩ ⟨Nat.le_refl _, Nat.le_refl _⟩ d_J_Long_bitCount ?_
    refine ev_aload_n (pc' := 48) rfl rfl rfl ?_
    refine ev_getI (pc' := 51) rfl rfl ?_
    refine ev_icmp_le rfl (pc' := 54) rfl (fun hc => ?_) (fun hc => ?_)
    · have h := (if_pos hc).symm.trans h
      refine ev_iinc (pc' := 59) rfl rfl (l' := [some (aR 5 i0), some (aL p1), x2, x3, some (aI v4), some (aI (v5 + 1))]) rfl (ii_1 _) rfl ?_
      refine ev_goto (pc' := 24) rfl ?_
      exact hr24 h
    · have h := (if_neg hc).symm.trans h
      refine ev_iconst (pc' := 55) rfl rfl (v := (0 : Int32)) (by decide) ?_
      obtain rfl := Option.some.inj h
      exact ev_ireturn rfl ⟨⟨_, rfl, rfl⟩, rfl, rfl, hΨ⟩
def s_X5_crewRests_R24 (i0 : Nat) (p1 : Int64) (p3 : Int32) : Nat → Int32 → Int32 → (Nat → Nat → Nat → Int32) → (Nat → Nat → Nat → Int64) → Option (Bool)
  | 0 => fun _ _ _ _ => none
  | n + 1 => s_X5_crewRests_24 i0 p1 p3 (s_X5_crewRests_R24 i0 p1 p3 n)
theorem e_X5_crewRests_R24 {d : Nat} {Ψ : Option AV → DS → Prop} {i0 : Nat} {p1 : Int64} {p3 : Int32} {r : Bool} {g : Nat → Nat → Nat → Int32} {w : Nat → Nat → Nat → Int64} (hΨ : Ψ (some (aI (bI r))) (L0, g, w, q0)) : ∀ (n : Nat) {v4 : Int32} {v5 : Int32} {x2 : Option AV} {x3 : Option AV}, s_X5_crewRests_R24 i0 p1 p3 n v4 v5 g w = some r → Ev (EvM mth (d + 1)) mth c00 sc0 (retP (some .boolean) c00 Ψ) (lkp es_72) 24 [some (aR 5 i0), some (aL p1), x2, x3, some (aI v4), some (aI v5)] [] (L0, g, w, q0) := by
  intro n
  induction n with
  | zero => intros; rename_i h; exact absurd h (by intro h9; cases h9)
  | succ n ih => intros; rename_i h; exact e_X5_crewRests_24 (hr24 := ih) hΨ h
def s_X5_crewRests (i0 : Nat) (p1 : Int64) (p3 : Int32) (g : Nat → Nat → Nat → Int32) (w : Nat → Nat → Nat → Int64) : Option (Bool) :=
  if (g 5 i0 5) < (s_J_Long_bitCount p1 g w) then
    s_X5_crewRests_R24 i0 p1 p3 FU ((g 5 i0 5) + p3) (0 : Int32) g w
  else
    some (true)
set_option maxRecDepth 20000 in
set_option maxHeartbeats 2000000 in
theorem d_X5_crewRests {d : Nat} {i0 : Nat} {p1 : Int64} {p3 : Int32} {g : Nat → Nat → Nat → Int32} {w : Nat → Nat → Nat → Int64} {r : Bool} (h : s_X5_crewRests i0 p1 p3 g w = some r) : Does (EvM mth (d + 2)) 72 [aR 5 i0, aL p1, aI p3] (L0, g, w, q0) (some (aI (bI r))) (L0, g, w, q0) := by
  intro Ψ hΨ
  refine ⟨in_72, mth_72, Nat.le_of_ble_eq_true rfl, ?_⟩
  show Ev (EvM mth (d + 1)) mth c00 sc0 (retP (some .boolean) c00 Ψ) (lkp es_72) 0 [some (aR 5 i0), some (aL p1), none, some (aI p3), none, none] [] (L0, g, w, q0)
  unfold s_X5_crewRests at h
  refine ev_lload_n (pc' := 1) rfl rfl rfl ?_
  refine ev_S1I (pc' := 4) rfl (by decide) rfl mth_192 ⟨Nat.le_of_ble_eq_true rfl, rfl⟩ ⟨Nat.le_refl _, Nat.le_refl _⟩ d_J_Long_bitCount ?_
  refine ev_aload_n (pc' := 5) rfl rfl rfl ?_
  refine ev_getI (pc' := 8) rfl rfl ?_
  refine ev_icmp_gt rfl (pc' := 11) rfl (fun hc => ?_) (fun hc => ?_)
  · have h := (if_pos hc).symm.trans h
    refine ev_aload_n (pc' := 14) rfl rfl rfl ?_
    refine ev_getI (pc' := 17) rfl rfl ?_
    refine ev_iload_n (pc' := 18) rfl rfl rfl ?_
    refine ev_iadd (pc' := 19) rfl rfl ?_
    refine ev_istore (pc' := 21) rfl rfl (l' := [some (aR 5 i0), some (aL p1), none, some (aI p3), some (aI ((g 5 i0 5) + p3)), none]) rfl ?_
    refine ev_iconst (pc' := 22) rfl rfl (v := (0 : Int32)) (by decide) ?_
    refine ev_istore (pc' := 24) rfl rfl (l' := [some (aR 5 i0), some (aL p1), none, some (aI p3), some (aI ((g 5 i0 5) + p3)), some (aI (0 : Int32))]) rfl ?_
    exact e_X5_crewRests_R24 hΨ FU h
  · have h := (if_neg hc).symm.trans h
    refine ev_iconst (pc' := 12) rfl rfl (v := (1 : Int32)) (by decide) ?_
    obtain rfl := Option.some.inj h
    exact ev_ireturn rfl ⟨⟨_, rfl, rfl⟩, rfl, rfl, hΨ⟩
def s_X6_tide_20 (i0 : Nat) (p1 : Int32) (p2 : Int32) (g : Nat → Nat → Nat → Int32) (w : Nat → Nat → Nat → Int64) : Option (Int32 × GS) :=
  some (((-1 : Int32), g, w))
set_option maxRecDepth 20000 in
set_option maxHeartbeats 2000000 in
theorem e_X6_tide_20 {d : Nat} {Ψ : Option AV → DS → Prop} {i0 : Nat} {p1 : Int32} {p2 : Int32} {r : Int32 × GS} {g : Nat → Nat → Nat → Int32} {w : Nat → Nat → Nat → Int64} {x0 : Option AV} {x1 : Option AV} {x2 : Option AV} {x3 : Option AV} (hΨ : Ψ (some (aI r.1)) (L0, r.2.1, r.2.2, q0)) (h : s_X6_tide_20 i0 p1 p2 g w = some r) : Ev (EvM mth (d + 1)) mth c00 sc0 (retP (some .int) c00 Ψ) (lkp es_74) 20 [x0, x1, x2, x3] [] (L0, g, w, q0) := by
  unfold s_X6_tide_20 at h
  refine ev_iconst (pc' := 21) rfl rfl (v := (-1 : Int32)) (by decide) ?_
  obtain rfl := Option.some.inj h
  exact ev_ireturn rfl ⟨⟨_, rfl, rfl⟩, rfl, rfl, hΨ⟩
def s_X6_tide (i0 : Nat) (p1 : Int32) (p2 : Int32) (g : Nat → Nat → Nat → Int32) (w : Nat → Nat → Nat → Int64) : Option (Int32 × GS) :=
  if (s_X6_within p1 (0 : Int32) (11 : Int32) g w) = true then
    if (s_X6_within p2 (0 : Int32) (9 : Int32) g w) = true then
      if inR p1 12 = true then
        if inR p1 12 = true then
          some (((g 1012 (td 0) p1.toNatClampNeg), (gI g 1012 (td 0) p1.toNatClampNeg p2), w))
        else none
      else none
    else
      s_X6_tide_20 i0 p1 p2 g w
  else
    s_X6_tide_20 i0 p1 p2 g w
set_option maxRecDepth 20000 in
set_option maxHeartbeats 2000000 in
theorem d_X6_tide {d : Nat} {i0 : Nat} {p1 : Int32} {p2 : Int32} {g : Nat → Nat → Nat → Int32} {w : Nat → Nat → Nat → Int64} {r : Int32 × GS} (h : s_X6_tide i0 p1 p2 g w = some r) : Does (EvM mth (d + 2)) 74 [aR 6 i0, aI p1, aI p2] (L0, g, w, q0) (some (aI r.1)) (L0, r.2.1, r.2.2, q0) := by
  intro Ψ hΨ
  refine ⟨in_74, mth_74, Nat.le_of_ble_eq_true rfl, ?_⟩
  show Ev (EvM mth (d + 1)) mth c00 sc0 (retP (some .int) c00 Ψ) (lkp es_74) 0 [some (aR 6 i0), some (aI p1), some (aI p2), none] [] (L0, g, w, q0)
  unfold s_X6_tide at h
  refine ev_iload_n (pc' := 1) rfl rfl rfl ?_
  refine ev_iconst (pc' := 2) rfl rfl (v := (0 : Int32)) (by decide) ?_
  refine ev_bipush (pc' := 4) rfl rfl (v := (11 : Int32)) (by decide) ?_
  refine ev_S3I (pc' := 7) rfl (by decide) rfl mth_105 ⟨Nat.le_of_ble_eq_true rfl, rfl⟩ ⟨Nat.le_refl _, Nat.le_refl _⟩ d_X6_within ?_
  refine ev_ifB_eq rfl (pc' := 10) rfl (fun hc => ?_) (fun hc => ?_)
  · have h := (if_neg hc).symm.trans h
    exact e_X6_tide_20 hΨ h
  · have h := (if_pos hc).symm.trans h
    refine ev_iload_n (pc' := 11) rfl rfl rfl ?_
    refine ev_iconst (pc' := 12) rfl rfl (v := (0 : Int32)) (by decide) ?_
    refine ev_bipush (pc' := 14) rfl rfl (v := (9 : Int32)) (by decide) ?_
    refine ev_S3I (pc' := 17) rfl (by decide) rfl mth_105 ⟨Nat.le_of_ble_eq_true rfl, rfl⟩ ⟨Nat.le_refl _, Nat.le_refl _⟩ d_X6_within ?_
    refine ev_ifB_ne rfl (pc' := 20) rfl (fun hc => ?_) (fun hc => ?_)
    · have h := (if_pos hc).symm.trans h
      refine ev_aload_n (pc' := 23) rfl rfl rfl ?_
      refine ev_getQ (pc' := 26) rfl rfl rfl ?_
      refine ev_getQ (pc' := 29) rfl rfl rfl ?_
      refine ev_iload_n (pc' := 30) rfl rfl rfl ?_
      obtain ⟨hi, h⟩ := gdB h
      refine ev_iald (pc' := 31) rfl rfl rfl (inR_vp hi) ?_
      refine ev_istore_n (pc' := 32) rfl rfl (l' := [some (aR 6 i0), some (aI p1), some (aI p2), some (aI (g 1012 (td 0) p1.toNatClampNeg))]) rfl ?_
      refine ev_aload_n (pc' := 33) rfl rfl rfl ?_
      refine ev_getQ (pc' := 36) rfl rfl rfl ?_
      refine ev_getQ (pc' := 39) rfl rfl rfl ?_
      refine ev_iload_n (pc' := 40) rfl rfl rfl ?_
      refine ev_iload_n (pc' := 41) rfl rfl rfl ?_
      obtain ⟨hi, h⟩ := gdB h
      refine ev_iast (pc' := 42) rfl rfl rfl (inR_vp hi) ?_
      refine ev_iload_n (pc' := 43) rfl rfl rfl ?_
      obtain rfl := Option.some.inj h
      exact ev_ireturn rfl ⟨⟨_, rfl, rfl⟩, rfl, rfl, hΨ⟩
    · have h := (if_neg hc).symm.trans h
      exact e_X6_tide_20 hΨ h
def s_X6_rule_99 (i0 : Nat) (p1 : Int32) (p2 : Int32) (v3 : Int32) (g : Nat → Nat → Nat → Int32) (w : Nat → Nat → Nat → Int64) : Int32 × GS :=
  (v3, g, w)
set_option maxRecDepth 20000 in
set_option maxHeartbeats 2000000 in
theorem e_X6_rule_99 {d : Nat} {Ψ : Option AV → DS → Prop} {i0 : Nat} {p1 : Int32} {p2 : Int32} {r : Int32 × GS} {g : Nat → Nat → Nat → Int32} {w : Nat → Nat → Nat → Int64} {v3 : Int32} {x0 : Option AV} {x1 : Option AV} {x2 : Option AV} (hΨ : Ψ (some (aI r.1)) (L0, r.2.1, r.2.2, q0)) (h : s_X6_rule_99 i0 p1 p2 v3 g w = r) : Ev (EvM mth (d + 1)) mth c00 sc0 (retP (some .int) c00 Ψ) (lkp es_76) 99 [x0, x1, x2, some (aI v3)] [] (L0, g, w, q0) := by
  unfold s_X6_rule_99 at h
  refine ev_iload_n (pc' := 100) rfl rfl rfl ?_
  subst h
  exact ev_ireturn rfl ⟨⟨_, rfl, rfl⟩, rfl, rfl, hΨ⟩
def s_X6_rule_68 (i0 : Nat) (p1 : Int32) (p2 : Int32) (g : Nat → Nat → Nat → Int32) (w : Nat → Nat → Nat → Int64) : Int32 × GS :=
  if p1 ≠ (2 : Int32) then
    s_X6_rule_99 i0 p1 p2 (-1 : Int32) g w
  else
    if (s_X6_within p2 (1 : Int32) (30 : Int32) g w) = true then
      s_X6_rule_99 i0 p1 p2 (g 1 0 7) (gI g 1 0 7 p2) w
    else
      s_X6_rule_99 i0 p1 p2 (-1 : Int32) g w
set_option maxRecDepth 20000 in
set_option maxHeartbeats 2000000 in
theorem e_X6_rule_68 {d : Nat} {Ψ : Option AV → DS → Prop} {i0 : Nat} {p1 : Int32} {p2 : Int32} {r : Int32 × GS} {g : Nat → Nat → Nat → Int32} {w : Nat → Nat → Nat → Int64} (hΨ : Ψ (some (aI r.1)) (L0, r.2.1, r.2.2, q0)) (h : s_X6_rule_68 i0 p1 p2 g w = r) : Ev (EvM mth (d + 1)) mth c00 sc0 (retP (some .int) c00 Ψ) (lkp es_76) 68 [some (aR 6 i0), some (aI p1), some (aI p2), some (aI (-1 : Int32))] [] (L0, g, w, q0) := by
  unfold s_X6_rule_68 at h
  refine ev_iload_n (pc' := 69) rfl rfl rfl ?_
  refine ev_iconst (pc' := 70) rfl rfl (v := (2 : Int32)) (by decide) ?_
  refine ev_icmp_ne rfl (pc' := 73) rfl (fun hc => ?_) (fun hc => ?_)
  · have h := (if_pos hc).symm.trans h
    exact e_X6_rule_99 hΨ h
  · have h := (if_neg hc).symm.trans h
    refine ev_iload_n (pc' := 74) rfl rfl rfl ?_
    refine ev_iconst (pc' := 75) rfl rfl (v := (1 : Int32)) (by decide) ?_
    refine ev_bipush (pc' := 77) rfl rfl (v := (30 : Int32)) (by decide) ?_
    refine ev_S3I (pc' := 80) rfl (by decide) rfl mth_105 ⟨Nat.le_of_ble_eq_true rfl, rfl⟩ ⟨Nat.le_refl _, Nat.le_refl _⟩ d_X6_within ?_
    refine ev_ifB_eq rfl (pc' := 83) rfl (fun hc => ?_) (fun hc => ?_)
    · have h := (if_neg hc).symm.trans h
      exact e_X6_rule_99 hΨ h
    · have h := (if_pos hc).symm.trans h
      refine ev_aload_n (pc' := 84) rfl rfl rfl ?_
      refine ev_getQ (pc' := 87) rfl rfl rfl ?_
      refine ev_getI (pc' := 90) rfl rfl ?_
      refine ev_istore_n (pc' := 91) rfl rfl (l' := [some (aR 6 i0), some (aI p1), some (aI p2), some (aI (g 1 0 7))]) rfl ?_
      refine ev_aload_n (pc' := 92) rfl rfl rfl ?_
      refine ev_getQ (pc' := 95) rfl rfl rfl ?_
      refine ev_iload_n (pc' := 96) rfl rfl rfl ?_
      refine ev_putI (pc' := 99) rfl rfl ?_
      exact e_X6_rule_99 hΨ h
def s_X6_rule_35 (i0 : Nat) (p1 : Int32) (p2 : Int32) (g : Nat → Nat → Nat → Int32) (w : Nat → Nat → Nat → Int64) : Int32 × GS :=
  if p1 ≠ (1 : Int32) then
    s_X6_rule_68 i0 p1 p2 g w
  else
    if (s_X6_within p2 (0 : Int32) (1 : Int32) g w) = true then
      s_X6_rule_99 i0 p1 p2 (g 1 0 6) (gI g 1 0 6 p2) w
    else
      s_X6_rule_68 i0 p1 p2 g w
set_option maxRecDepth 20000 in
set_option maxHeartbeats 2000000 in
theorem e_X6_rule_35 {d : Nat} {Ψ : Option AV → DS → Prop} {i0 : Nat} {p1 : Int32} {p2 : Int32} {r : Int32 × GS} {g : Nat → Nat → Nat → Int32} {w : Nat → Nat → Nat → Int64} (hΨ : Ψ (some (aI r.1)) (L0, r.2.1, r.2.2, q0)) (h : s_X6_rule_35 i0 p1 p2 g w = r) : Ev (EvM mth (d + 1)) mth c00 sc0 (retP (some .int) c00 Ψ) (lkp es_76) 35 [some (aR 6 i0), some (aI p1), some (aI p2), some (aI (-1 : Int32))] [] (L0, g, w, q0) := by
  unfold s_X6_rule_35 at h
  refine ev_iload_n (pc' := 36) rfl rfl rfl ?_
  refine ev_iconst (pc' := 37) rfl rfl (v := (1 : Int32)) (by decide) ?_
  refine ev_icmp_ne rfl (pc' := 40) rfl (fun hc => ?_) (fun hc => ?_)
  · have h := (if_pos hc).symm.trans h
    exact e_X6_rule_68 hΨ h
  · have h := (if_neg hc).symm.trans h
    refine ev_iload_n (pc' := 41) rfl rfl rfl ?_
    refine ev_iconst (pc' := 42) rfl rfl (v := (0 : Int32)) (by decide) ?_
    refine ev_iconst (pc' := 43) rfl rfl (v := (1 : Int32)) (by decide) ?_
    refine ev_S3I (pc' := 46) rfl (by decide) rfl mth_105 ⟨Nat.le_of_ble_eq_true rfl, rfl⟩ ⟨Nat.le_refl _, Nat.le_refl _⟩ d_X6_within ?_
    refine ev_ifB_eq rfl (pc' := 49) rfl (fun hc => ?_) (fun hc => ?_)
    · have h := (if_neg hc).symm.trans h
      exact e_X6_rule_68 hΨ h
    · have h := (if_pos hc).symm.trans h
      refine ev_aload_n (pc' := 50) rfl rfl rfl ?_
      refine ev_getQ (pc' := 53) rfl rfl rfl ?_
      refine ev_getI (pc' := 56) rfl rfl ?_
      refine ev_istore_n (pc' := 57) rfl rfl (l' := [some (aR 6 i0), some (aI p1), some (aI p2), some (aI (g 1 0 6))]) rfl ?_
      refine ev_aload_n (pc' := 58) rfl rfl rfl ?_
      refine ev_getQ (pc' := 61) rfl rfl rfl ?_
      refine ev_iload_n (pc' := 62) rfl rfl rfl ?_
      refine ev_putI (pc' := 65) rfl rfl ?_
      refine ev_goto (pc' := 99) rfl ?_
      exact e_X6_rule_99 hΨ h
def s_X6_rule (i0 : Nat) (p1 : Int32) (p2 : Int32) (g : Nat → Nat → Nat → Int32) (w : Nat → Nat → Nat → Int64) : Int32 × GS :=
  if p1 ≠ 0 then
    s_X6_rule_35 i0 p1 p2 g w
  else
    if (s_X6_within p2 (0 : Int32) (6 : Int32) g w) = true then
      s_X6_rule_99 i0 p1 p2 (g 1 0 5) (gI g 1 0 5 p2) w
    else
      s_X6_rule_35 i0 p1 p2 g w
set_option maxRecDepth 20000 in
set_option maxHeartbeats 2000000 in
theorem d_X6_rule {d : Nat} {i0 : Nat} {p1 : Int32} {p2 : Int32} {g : Nat → Nat → Nat → Int32} {w : Nat → Nat → Nat → Int64} : Does (EvM mth (d + 2)) 76 [aR 6 i0, aI p1, aI p2] (L0, g, w, q0) (some (aI (s_X6_rule i0 p1 p2 g w).1)) (L0, (s_X6_rule i0 p1 p2 g w).2.1, (s_X6_rule i0 p1 p2 g w).2.2, q0) := by
  intro Ψ hΨ
  obtain ⟨r, h⟩ : ∃ r, s_X6_rule i0 p1 p2 g w = r := ⟨_, rfl⟩
  rw [h] at hΨ
  refine ⟨in_76, mth_76, Nat.le_of_ble_eq_true rfl, ?_⟩
  show Ev (EvM mth (d + 1)) mth c00 sc0 (retP (some .int) c00 Ψ) (lkp es_76) 0 [some (aR 6 i0), some (aI p1), some (aI p2), none] [] (L0, g, w, q0)
  unfold s_X6_rule at h
  refine ev_iconst (pc' := 1) rfl rfl (v := (-1 : Int32)) (by decide) ?_
  refine ev_istore_n (pc' := 2) rfl rfl (l' := [some (aR 6 i0), some (aI p1), some (aI p2), some (aI (-1 : Int32))]) rfl ?_
  refine ev_iload_n (pc' := 3) rfl rfl rfl ?_
  refine ev_if_ne rfl (pc' := 6) rfl (fun hc => ?_) (fun hc => ?_)
  · have h := (if_pos hc).symm.trans h
    exact e_X6_rule_35 hΨ h
  · have h := (if_neg hc).symm.trans h
    refine ev_iload_n (pc' := 7) rfl rfl rfl ?_
    refine ev_iconst (pc' := 8) rfl rfl (v := (0 : Int32)) (by decide) ?_
    refine ev_bipush (pc' := 10) rfl rfl (v := (6 : Int32)) (by decide) ?_
    refine ev_S3I (pc' := 13) rfl (by decide) rfl mth_105 ⟨Nat.le_of_ble_eq_true rfl, rfl⟩ ⟨Nat.le_refl _, Nat.le_refl _⟩ d_X6_within ?_
    refine ev_ifB_eq rfl (pc' := 16) rfl (fun hc => ?_) (fun hc => ?_)
    · have h := (if_neg hc).symm.trans h
      exact e_X6_rule_35 hΨ h
    · have h := (if_pos hc).symm.trans h
      refine ev_aload_n (pc' := 17) rfl rfl rfl ?_
      refine ev_getQ (pc' := 20) rfl rfl rfl ?_
      refine ev_getI (pc' := 23) rfl rfl ?_
      refine ev_istore_n (pc' := 24) rfl rfl (l' := [some (aR 6 i0), some (aI p1), some (aI p2), some (aI (g 1 0 5))]) rfl ?_
      refine ev_aload_n (pc' := 25) rfl rfl rfl ?_
      refine ev_getQ (pc' := 28) rfl rfl rfl ?_
      refine ev_iload_n (pc' := 29) rfl rfl rfl ?_
      refine ev_putI (pc' := 32) rfl rfl ?_
      refine ev_goto (pc' := 99) rfl ?_
      exact e_X6_rule_99 hΨ h
def s_X6_tug_69 (i0 : Nat) (p1 : Int32) (p2 : Int32) (p3 : Int32) (p4 : Int32) (p5 : Int32) (p6 : Int32) (p7 : Int32) (g : Nat → Nat → Nat → Int32) (w : Nat → Nat → Nat → Int64) : Option (Int32 × GS) :=
  some (((-1 : Int32), g, w))
set_option maxRecDepth 20000 in
set_option maxHeartbeats 2000000 in
theorem e_X6_tug_69 {d : Nat} {Ψ : Option AV → DS → Prop} {i0 : Nat} {p1 : Int32} {p2 : Int32} {p3 : Int32} {p4 : Int32} {p5 : Int32} {p6 : Int32} {p7 : Int32} {r : Int32 × GS} {g : Nat → Nat → Nat → Int32} {w : Nat → Nat → Nat → Int64} {x0 : Option AV} {x1 : Option AV} {x2 : Option AV} {x3 : Option AV} {x4 : Option AV} {x5 : Option AV} {x6 : Option AV} {x7 : Option AV} {x8 : Option AV} (hΨ : Ψ (some (aI r.1)) (L0, r.2.1, r.2.2, q0)) (h : s_X6_tug_69 i0 p1 p2 p3 p4 p5 p6 p7 g w = some r) : Ev (EvM mth (d + 1)) mth c00 sc0 (retP (some .int) c00 Ψ) (lkp es_79) 69 [x0, x1, x2, x3, x4, x5, x6, x7, x8] [] (L0, g, w, q0) := by
  unfold s_X6_tug_69 at h
  refine ev_iconst (pc' := 70) rfl rfl (v := (-1 : Int32)) (by decide) ?_
  obtain rfl := Option.some.inj h
  exact ev_ireturn rfl ⟨⟨_, rfl, rfl⟩, rfl, rfl, hΨ⟩
def s_X6_tug (i0 : Nat) (p1 : Int32) (p2 : Int32) (p3 : Int32) (p4 : Int32) (p5 : Int32) (p6 : Int32) (p7 : Int32) (g : Nat → Nat → Nat → Int32) (w : Nat → Nat → Nat → Int64) : Option (Int32 × GS) :=
  if (s_X6_within p1 (0 : Int32) (1 : Int32) g w) = true then
    if (s_X6_within p2 (1 : Int32) (60 : Int32) g w) = true then
      if (s_X6_within p3 (0 : Int32) (1 : Int32) g w) = true then
        if (s_X6_within p5 (1 : Int32) (48 : Int32) g w) = true then
          if (s_X6_within p4 (0 : Int32) p5 g w) = true then
            if (s_X6_within p6 (1 : Int32) (12 : Int32) g w) = true then
              if (s_X6_isBerth p7 g w) = true then
                if (s_X6_within (g 1 0 9) (0 : Int32) (5 : Int32) g w) = true then
                  if inR (g 1 0 9) 6 = true then
                    some (((g 1 0 9), (gI (s_X5_come (6 * 0 + (g 1 0 9).toNatClampNeg) p1 p2 p3 p4 p5 p6 p7 g w).1 1 0 9 ((g 1 0 9) + (1 : Int32))), (s_X5_come (6 * 0 + (g 1 0 9).toNatClampNeg) p1 p2 p3 p4 p5 p6 p7 g w).2))
                  else none
                else
                  some (((-3 : Int32), g, w))
              else
                s_X6_tug_69 i0 p1 p2 p3 p4 p5 p6 p7 g w
            else
              s_X6_tug_69 i0 p1 p2 p3 p4 p5 p6 p7 g w
          else
            s_X6_tug_69 i0 p1 p2 p3 p4 p5 p6 p7 g w
        else
          s_X6_tug_69 i0 p1 p2 p3 p4 p5 p6 p7 g w
      else
        s_X6_tug_69 i0 p1 p2 p3 p4 p5 p6 p7 g w
    else
      s_X6_tug_69 i0 p1 p2 p3 p4 p5 p6 p7 g w
  else
    s_X6_tug_69 i0 p1 p2 p3 p4 p5 p6 p7 g w
set_option maxRecDepth 20000 in
set_option maxHeartbeats 2000000 in
theorem d_X6_tug {d : Nat} {i0 : Nat} {p1 : Int32} {p2 : Int32} {p3 : Int32} {p4 : Int32} {p5 : Int32} {p6 : Int32} {p7 : Int32} {g : Nat → Nat → Nat → Int32} {w : Nat → Nat → Nat → Int64} {r : Int32 × GS} (h : s_X6_tug i0 p1 p2 p3 p4 p5 p6 p7 g w = some r) : Does (EvM mth (d + 2)) 79 [aR 6 i0, aI p1, aI p2, aI p3, aI p4, aI p5, aI p6, aI p7] (L0, g, w, q0) (some (aI r.1)) (L0, r.2.1, r.2.2, q0) := by
  intro Ψ hΨ
  refine ⟨in_79, mth_79, Nat.le_of_ble_eq_true rfl, ?_⟩
  show Ev (EvM mth (d + 1)) mth c00 sc0 (retP (some .int) c00 Ψ) (lkp es_79) 0 [some (aR 6 i0), some (aI p1), some (aI p2), some (aI p3), some (aI p4), some (aI p5), some (aI p6), some (aI p7), none] [] (L0, g, w, q0)
  unfold s_X6_tug at h
  refine ev_iload_n (pc' := 1) rfl rfl rfl ?_
  refine ev_iconst (pc' := 2) rfl rfl (v := (0 : Int32)) (by decide) ?_
  refine ev_iconst (pc' := 3) rfl rfl (v := (1 : Int32)) (by decide) ?_
  refine ev_S3I (pc' := 6) rfl (by decide) rfl mth_105 ⟨Nat.le_of_ble_eq_true rfl, rfl⟩ ⟨Nat.le_refl _, Nat.le_refl _⟩ d_X6_within ?_
  refine ev_ifB_eq rfl (pc' := 9) rfl (fun hc => ?_) (fun hc => ?_)
  · have h := (if_neg hc).symm.trans h
    exact e_X6_tug_69 hΨ h
  · have h := (if_pos hc).symm.trans h
    refine ev_iload_n (pc' := 10) rfl rfl rfl ?_
    refine ev_iconst (pc' := 11) rfl rfl (v := (1 : Int32)) (by decide) ?_
    refine ev_bipush (pc' := 13) rfl rfl (v := (60 : Int32)) (by decide) ?_
    refine ev_S3I (pc' := 16) rfl (by decide) rfl mth_105 ⟨Nat.le_of_ble_eq_true rfl, rfl⟩ ⟨Nat.le_refl _, Nat.le_refl _⟩ d_X6_within ?_
    refine ev_ifB_eq rfl (pc' := 19) rfl (fun hc => ?_) (fun hc => ?_)
    · have h := (if_neg hc).symm.trans h
      exact e_X6_tug_69 hΨ h
    · have h := (if_pos hc).symm.trans h
      refine ev_iload_n (pc' := 20) rfl rfl rfl ?_
      refine ev_iconst (pc' := 21) rfl rfl (v := (0 : Int32)) (by decide) ?_
      refine ev_iconst (pc' := 22) rfl rfl (v := (1 : Int32)) (by decide) ?_
      refine ev_S3I (pc' := 25) rfl (by decide) rfl mth_105 ⟨Nat.le_of_ble_eq_true rfl, rfl⟩ ⟨Nat.le_refl _, Nat.le_refl _⟩ d_X6_within ?_
      refine ev_ifB_eq rfl (pc' := 28) rfl (fun hc => ?_) (fun hc => ?_)
      · have h := (if_neg hc).symm.trans h
        exact e_X6_tug_69 hΨ h
      · have h := (if_pos hc).symm.trans h
        refine ev_iload (pc' := 30) rfl rfl rfl ?_
        refine ev_iconst (pc' := 31) rfl rfl (v := (1 : Int32)) (by decide) ?_
        refine ev_bipush (pc' := 33) rfl rfl (v := (48 : Int32)) (by decide) ?_
        refine ev_S3I (pc' := 36) rfl (by decide) rfl mth_105 ⟨Nat.le_of_ble_eq_true rfl, rfl⟩ ⟨Nat.le_refl _, Nat.le_refl _⟩ d_X6_within ?_
        refine ev_ifB_eq rfl (pc' := 39) rfl (fun hc => ?_) (fun hc => ?_)
        · have h := (if_neg hc).symm.trans h
          exact e_X6_tug_69 hΨ h
        · have h := (if_pos hc).symm.trans h
          refine ev_iload (pc' := 41) rfl rfl rfl ?_
          refine ev_iconst (pc' := 42) rfl rfl (v := (0 : Int32)) (by decide) ?_
          refine ev_iload (pc' := 44) rfl rfl rfl ?_
          refine ev_S3I (pc' := 47) rfl (by decide) rfl mth_105 ⟨Nat.le_of_ble_eq_true rfl, rfl⟩ ⟨Nat.le_refl _, Nat.le_refl _⟩ d_X6_within ?_
          refine ev_ifB_eq rfl (pc' := 50) rfl (fun hc => ?_) (fun hc => ?_)
          · have h := (if_neg hc).symm.trans h
            exact e_X6_tug_69 hΨ h
          · have h := (if_pos hc).symm.trans h
            refine ev_iload (pc' := 52) rfl rfl rfl ?_
            refine ev_iconst (pc' := 53) rfl rfl (v := (1 : Int32)) (by decide) ?_
            refine ev_bipush (pc' := 55) rfl rfl (v := (12 : Int32)) (by decide) ?_
            refine ev_S3I (pc' := 58) rfl (by decide) rfl mth_105 ⟨Nat.le_of_ble_eq_true rfl, rfl⟩ ⟨Nat.le_refl _, Nat.le_refl _⟩ d_X6_within ?_
            refine ev_ifB_eq rfl (pc' := 61) rfl (fun hc => ?_) (fun hc => ?_)
            · have h := (if_neg hc).symm.trans h
              exact e_X6_tug_69 hΨ h
            · have h := (if_pos hc).symm.trans h
              refine ev_iload (pc' := 63) rfl rfl rfl ?_
              refine ev_S1I (pc' := 66) rfl (by decide) rfl mth_107 ⟨Nat.le_of_ble_eq_true rfl, rfl⟩ ⟨Nat.le_refl _, Nat.le_refl _⟩ d_X6_isBerth ?_
              refine ev_ifB_ne rfl (pc' := 69) rfl (fun hc => ?_) (fun hc => ?_)
              · have h := (if_pos hc).symm.trans h
                refine ev_aload_n (pc' := 72) rfl rfl rfl ?_
                refine ev_getQ (pc' := 75) rfl rfl rfl ?_
                refine ev_getI (pc' := 78) rfl rfl ?_
                refine ev_istore (pc' := 80) rfl rfl (l' := [some (aR 6 i0), some (aI p1), some (aI p2), some (aI p3), some (aI p4), some (aI p5), some (aI p6), some (aI p7), some (aI (g 1 0 9))]) rfl ?_
                refine ev_iload (pc' := 82) rfl rfl rfl ?_
                refine ev_iconst (pc' := 83) rfl rfl (v := (0 : Int32)) (by decide) ?_
                refine ev_iconst (pc' := 84) rfl rfl (v := (5 : Int32)) (by decide) ?_
                refine ev_S3I (pc' := 87) rfl (by decide) rfl mth_105 ⟨Nat.le_of_ble_eq_true rfl, rfl⟩ ⟨Nat.le_refl _, Nat.le_refl _⟩ d_X6_within ?_
                refine ev_ifB_ne rfl (pc' := 90) rfl (fun hc => ?_) (fun hc => ?_)
                · have h := (if_pos hc).symm.trans h
                  refine ev_aload_n (pc' := 94) rfl rfl rfl ?_
                  refine ev_getQ (pc' := 97) rfl rfl rfl ?_
                  refine ev_getQ (pc' := 100) rfl rfl rfl ?_
                  refine ev_iload (pc' := 102) rfl rfl rfl ?_
                  obtain ⟨hi, h⟩ := gdB h
                  refine ev_aald (pc' := 103) rfl rfl (by decide) rfl (inR_vp hi) rfl ?_
                  refine ev_iload_n (pc' := 104) rfl rfl rfl ?_
                  refine ev_iload_n (pc' := 105) rfl rfl rfl ?_
                  refine ev_iload_n (pc' := 106) rfl rfl rfl ?_
                  refine ev_iload (pc' := 108) rfl rfl rfl ?_
                  refine ev_iload (pc' := 110) rfl rfl rfl ?_
                  refine ev_iload (pc' := 112) rfl rfl rfl ?_
                  refine ev_iload (pc' := 114) rfl rfl rfl ?_
                  refine ev_V8V (pc' := 117) rfl (by decide) rfl mth_64 ⟨Nat.le_of_ble_eq_true rfl, rfl⟩ ⟨Nat.le_refl _, Nat.le_refl _⟩ d_X5_come ?_
                  refine ev_aload_n (pc' := 118) rfl rfl rfl ?_
                  refine ev_getQ (pc' := 121) rfl rfl rfl ?_
                  refine ev_iload (pc' := 123) rfl rfl rfl ?_
                  refine ev_iconst (pc' := 124) rfl rfl (v := (1 : Int32)) (by decide) ?_
                  refine ev_iadd (pc' := 125) rfl rfl ?_
                  refine ev_putI (pc' := 128) rfl rfl ?_
                  refine ev_iload (pc' := 130) rfl rfl rfl ?_
                  obtain rfl := Option.some.inj h
                  exact ev_ireturn rfl ⟨⟨_, rfl, rfl⟩, rfl, rfl, hΨ⟩
                · have h := (if_neg hc).symm.trans h
                  refine ev_bipush (pc' := 92) rfl rfl (v := (-3 : Int32)) (by decide) ?_
                  obtain rfl := Option.some.inj h
                  exact ev_ireturn rfl ⟨⟨_, rfl, rfl⟩, rfl, rfl, hΨ⟩
              · have h := (if_neg hc).symm.trans h
                exact e_X6_tug_69 hΨ h
def s_X6_calm (i0 : Nat) (g : Nat → Nat → Nat → Int32) (w : Nat → Nat → Nat → Int64) : Int32 × GS :=
  ((s_J_Long_bitCount (w 1 0 8) g w), g, (wL w 1 0 8 (0 : Int64)))
set_option maxRecDepth 20000 in
set_option maxHeartbeats 2000000 in
theorem d_X6_calm {d : Nat} {i0 : Nat} {g : Nat → Nat → Nat → Int32} {w : Nat → Nat → Nat → Int64} : Does (EvM mth (d + 2)) 96 [aR 6 i0] (L0, g, w, q0) (some (aI (s_X6_calm i0 g w).1)) (L0, (s_X6_calm i0 g w).2.1, (s_X6_calm i0 g w).2.2, q0) := by
  intro Ψ hΨ
  obtain ⟨r, h⟩ : ∃ r, s_X6_calm i0 g w = r := ⟨_, rfl⟩
  rw [h] at hΨ
  refine ⟨in_96, mth_96, Nat.le_of_ble_eq_true rfl, ?_⟩
  show Ev (EvM mth (d + 1)) mth c00 sc0 (retP (some .int) c00 Ψ) (lkp es_96) 0 [some (aR 6 i0), none] [] (L0, g, w, q0)
  unfold s_X6_calm at h
  refine ev_aload_n (pc' := 1) rfl rfl rfl ?_
  refine ev_getQ (pc' := 4) rfl rfl rfl ?_
  refine ev_getL (pc' := 7) rfl rfl ?_
  refine ev_S1I (pc' := 10) rfl (by decide) rfl mth_192 ⟨Nat.le_of_ble_eq_true rfl, rfl⟩ ⟨Nat.le_refl _, Nat.le_refl _⟩ d_J_Long_bitCount ?_
  refine ev_istore_n (pc' := 11) rfl rfl (l' := [some (aR 6 i0), some (aI (s_J_Long_bitCount (w 1 0 8) g w))]) rfl ?_
  refine ev_aload_n (pc' := 12) rfl rfl rfl ?_
  refine ev_getQ (pc' := 15) rfl rfl rfl ?_
  refine ev_lconst (pc' := 16) rfl rfl (v := (0 : Int64)) (by decide) ?_
  refine ev_putL (pc' := 19) rfl rfl ?_
  refine ev_iload_n (pc' := 20) rfl rfl rfl ?_
  subst h
  exact ev_ireturn rfl ⟨⟨_, rfl, rfl⟩, rfl, rfl, hΨ⟩
def s_X6_isHour (p0 : Int32) (g : Nat → Nat → Nat → Int32) (w : Nat → Nat → Nat → Int64) : Bool :=
  (s_X6_within p0 (0 : Int32) (47 : Int32) g w)
set_option maxRecDepth 20000 in
set_option maxHeartbeats 2000000 in
theorem d_X6_isHour {d : Nat} {p0 : Int32} {g : Nat → Nat → Nat → Int32} {w : Nat → Nat → Nat → Int64} : Does (EvM mth (d + 2)) 106 [aI p0] (L0, g, w, q0) (some (aI (bI (s_X6_isHour p0 g w)))) (L0, g, w, q0) := by
  intro Ψ hΨ
  obtain ⟨r, h⟩ : ∃ r, s_X6_isHour p0 g w = r := ⟨_, rfl⟩
  rw [h] at hΨ
  refine ⟨in_106, mth_106, Nat.le_of_ble_eq_true rfl, ?_⟩
  show Ev (EvM mth (d + 1)) mth c00 sc0 (retP (some .boolean) c00 Ψ) (lkp es_106) 0 [some (aI p0)] [] (L0, g, w, q0)
  unfold s_X6_isHour at h
  refine ev_iload_n (pc' := 1) rfl rfl rfl ?_
  refine ev_iconst (pc' := 2) rfl rfl (v := (0 : Int32)) (by decide) ?_
  refine ev_bipush (pc' := 4) rfl rfl (v := (47 : Int32)) (by decide) ?_
  refine ev_S3I (pc' := 7) rfl (by decide) rfl mth_105 ⟨Nat.le_of_ble_eq_true rfl, rfl⟩ ⟨Nat.le_refl _, Nat.le_refl _⟩ d_X6_within ?_
  subst h
  exact ev_ireturn rfl ⟨⟨_, rfl, nar_bI _⟩, rfl, rfl, hΨ⟩
def s_X6_isTug_25 (i0 : Nat) (p1 : Int32) (t0 : Bool) (g : Nat → Nat → Nat → Int32) (w : Nat → Nat → Nat → Int64) : Bool :=
  t0
set_option maxRecDepth 20000 in
set_option maxHeartbeats 2000000 in
theorem e_X6_isTug_25 {d : Nat} {Ψ : Option AV → DS → Prop} {i0 : Nat} {p1 : Int32} {r : Bool} {g : Nat → Nat → Nat → Int32} {w : Nat → Nat → Nat → Int64} {t0 : Bool} {x0 : Option AV} {x1 : Option AV} (hΨ : Ψ (some (aI (bI r))) (L0, g, w, q0)) (h : s_X6_isTug_25 i0 p1 t0 g w = r) : Ev (EvM mth (d + 1)) mth c00 sc0 (retP (some .boolean) c00 Ψ) (lkp es_108) 25 [x0, x1] [aI (bI t0)] (L0, g, w, q0) := by
  unfold s_X6_isTug_25 at h
  subst h
  exact ev_ireturn rfl ⟨⟨_, rfl, nar_bI _⟩, rfl, rfl, hΨ⟩
def s_X6_isTug_24 (i0 : Nat) (p1 : Int32) (g : Nat → Nat → Nat → Int32) (w : Nat → Nat → Nat → Int64) : Bool :=
  s_X6_isTug_25 i0 p1 false g w
set_option maxRecDepth 20000 in
set_option maxHeartbeats 2000000 in
theorem e_X6_isTug_24 {d : Nat} {Ψ : Option AV → DS → Prop} {i0 : Nat} {p1 : Int32} {r : Bool} {g : Nat → Nat → Nat → Int32} {w : Nat → Nat → Nat → Int64} {x0 : Option AV} {x1 : Option AV} (hΨ : Ψ (some (aI (bI r))) (L0, g, w, q0)) (h : s_X6_isTug_24 i0 p1 g w = r) : Ev (EvM mth (d + 1)) mth c00 sc0 (retP (some .boolean) c00 Ψ) (lkp es_108) 24 [x0, x1] [] (L0, g, w, q0) := by
  unfold s_X6_isTug_24 at h
  refine ev_iconst (pc' := 25) rfl rfl (v := (0 : Int32)) (by decide) ?_
  exact e_X6_isTug_25 hΨ h
def s_X6_isTug (i0 : Nat) (p1 : Int32) (g : Nat → Nat → Nat → Int32) (w : Nat → Nat → Nat → Int64) : Bool :=
  if (s_X6_within p1 (0 : Int32) (5 : Int32) g w) = true then
    if (g 1 0 9) ≤ p1 then
      s_X6_isTug_24 i0 p1 g w
    else
      s_X6_isTug_25 i0 p1 true g w
  else
    s_X6_isTug_24 i0 p1 g w
set_option maxRecDepth 20000 in
set_option maxHeartbeats 2000000 in
theorem d_X6_isTug {d : Nat} {i0 : Nat} {p1 : Int32} {g : Nat → Nat → Nat → Int32} {w : Nat → Nat → Nat → Int64} : Does (EvM mth (d + 2)) 108 [aR 6 i0, aI p1] (L0, g, w, q0) (some (aI (bI (s_X6_isTug i0 p1 g w)))) (L0, g, w, q0) := by
  intro Ψ hΨ
  obtain ⟨r, h⟩ : ∃ r, s_X6_isTug i0 p1 g w = r := ⟨_, rfl⟩
  rw [h] at hΨ
  refine ⟨in_108, mth_108, Nat.le_of_ble_eq_true rfl, ?_⟩
  show Ev (EvM mth (d + 1)) mth c00 sc0 (retP (some .boolean) c00 Ψ) (lkp es_108) 0 [some (aR 6 i0), some (aI p1)] [] (L0, g, w, q0)
  unfold s_X6_isTug at h
  refine ev_iload_n (pc' := 1) rfl rfl rfl ?_
  refine ev_iconst (pc' := 2) rfl rfl (v := (0 : Int32)) (by decide) ?_
  refine ev_iconst (pc' := 3) rfl rfl (v := (5 : Int32)) (by decide) ?_
  refine ev_S3I (pc' := 6) rfl (by decide) rfl mth_105 ⟨Nat.le_of_ble_eq_true rfl, rfl⟩ ⟨Nat.le_refl _, Nat.le_refl _⟩ d_X6_within ?_
  refine ev_ifB_eq rfl (pc' := 9) rfl (fun hc => ?_) (fun hc => ?_)
  · have h := (if_neg hc).symm.trans h
    exact e_X6_isTug_24 hΨ h
  · have h := (if_pos hc).symm.trans h
    refine ev_iload_n (pc' := 10) rfl rfl rfl ?_
    refine ev_aload_n (pc' := 11) rfl rfl rfl ?_
    refine ev_getQ (pc' := 14) rfl rfl rfl ?_
    refine ev_getI (pc' := 17) rfl rfl ?_
    refine ev_icmp_ge rfl (pc' := 20) rfl (fun hc => ?_) (fun hc => ?_)
    · have h := (if_pos hc).symm.trans h
      exact e_X6_isTug_24 hΨ h
    · have h := (if_neg hc).symm.trans h
      refine ev_iconst (pc' := 21) rfl rfl (v := (1 : Int32)) (by decide) ?_
      refine ev_goto (pc' := 25) rfl ?_
      exact e_X6_isTug_25 hΨ h
def s_X6_isShip_26 (i0 : Nat) (p1 : Int32) (t0 : Bool) (g : Nat → Nat → Nat → Int32) (w : Nat → Nat → Nat → Int64) : Bool :=
  t0
set_option maxRecDepth 20000 in
set_option maxHeartbeats 2000000 in
theorem e_X6_isShip_26 {d : Nat} {Ψ : Option AV → DS → Prop} {i0 : Nat} {p1 : Int32} {r : Bool} {g : Nat → Nat → Nat → Int32} {w : Nat → Nat → Nat → Int64} {t0 : Bool} {x0 : Option AV} {x1 : Option AV} (hΨ : Ψ (some (aI (bI r))) (L0, g, w, q0)) (h : s_X6_isShip_26 i0 p1 t0 g w = r) : Ev (EvM mth (d + 1)) mth c00 sc0 (retP (some .boolean) c00 Ψ) (lkp es_109) 26 [x0, x1] [aI (bI t0)] (L0, g, w, q0) := by
  unfold s_X6_isShip_26 at h
  subst h
  exact ev_ireturn rfl ⟨⟨_, rfl, nar_bI _⟩, rfl, rfl, hΨ⟩
def s_X6_isShip_25 (i0 : Nat) (p1 : Int32) (g : Nat → Nat → Nat → Int32) (w : Nat → Nat → Nat → Int64) : Bool :=
  s_X6_isShip_26 i0 p1 false g w
set_option maxRecDepth 20000 in
set_option maxHeartbeats 2000000 in
theorem e_X6_isShip_25 {d : Nat} {Ψ : Option AV → DS → Prop} {i0 : Nat} {p1 : Int32} {r : Bool} {g : Nat → Nat → Nat → Int32} {w : Nat → Nat → Nat → Int64} {x0 : Option AV} {x1 : Option AV} (hΨ : Ψ (some (aI (bI r))) (L0, g, w, q0)) (h : s_X6_isShip_25 i0 p1 g w = r) : Ev (EvM mth (d + 1)) mth c00 sc0 (retP (some .boolean) c00 Ψ) (lkp es_109) 25 [x0, x1] [] (L0, g, w, q0) := by
  unfold s_X6_isShip_25 at h
  refine ev_iconst (pc' := 26) rfl rfl (v := (0 : Int32)) (by decide) ?_
  exact e_X6_isShip_26 hΨ h
def s_X6_isShip (i0 : Nat) (p1 : Int32) (g : Nat → Nat → Nat → Int32) (w : Nat → Nat → Nat → Int64) : Bool :=
  if (s_X6_within p1 (0 : Int32) (7 : Int32) g w) = true then
    if (g 1 0 10) ≤ p1 then
      s_X6_isShip_25 i0 p1 g w
    else
      s_X6_isShip_26 i0 p1 true g w
  else
    s_X6_isShip_25 i0 p1 g w
set_option maxRecDepth 20000 in
set_option maxHeartbeats 2000000 in
theorem d_X6_isShip {d : Nat} {i0 : Nat} {p1 : Int32} {g : Nat → Nat → Nat → Int32} {w : Nat → Nat → Nat → Int64} : Does (EvM mth (d + 2)) 109 [aR 6 i0, aI p1] (L0, g, w, q0) (some (aI (bI (s_X6_isShip i0 p1 g w)))) (L0, g, w, q0) := by
  intro Ψ hΨ
  obtain ⟨r, h⟩ : ∃ r, s_X6_isShip i0 p1 g w = r := ⟨_, rfl⟩
  rw [h] at hΨ
  refine ⟨in_109, mth_109, Nat.le_of_ble_eq_true rfl, ?_⟩
  show Ev (EvM mth (d + 1)) mth c00 sc0 (retP (some .boolean) c00 Ψ) (lkp es_109) 0 [some (aR 6 i0), some (aI p1)] [] (L0, g, w, q0)
  unfold s_X6_isShip at h
  refine ev_iload_n (pc' := 1) rfl rfl rfl ?_
  refine ev_iconst (pc' := 2) rfl rfl (v := (0 : Int32)) (by decide) ?_
  refine ev_bipush (pc' := 4) rfl rfl (v := (7 : Int32)) (by decide) ?_
  refine ev_S3I (pc' := 7) rfl (by decide) rfl mth_105 ⟨Nat.le_of_ble_eq_true rfl, rfl⟩ ⟨Nat.le_refl _, Nat.le_refl _⟩ d_X6_within ?_
  refine ev_ifB_eq rfl (pc' := 10) rfl (fun hc => ?_) (fun hc => ?_)
  · have h := (if_neg hc).symm.trans h
    exact e_X6_isShip_25 hΨ h
  · have h := (if_pos hc).symm.trans h
    refine ev_iload_n (pc' := 11) rfl rfl rfl ?_
    refine ev_aload_n (pc' := 12) rfl rfl rfl ?_
    refine ev_getQ (pc' := 15) rfl rfl rfl ?_
    refine ev_getI (pc' := 18) rfl rfl ?_
    refine ev_icmp_ge rfl (pc' := 21) rfl (fun hc => ?_) (fun hc => ?_)
    · have h := (if_pos hc).symm.trans h
      exact e_X6_isShip_25 hΨ h
    · have h := (if_neg hc).symm.trans h
      refine ev_iconst (pc' := 22) rfl rfl (v := (1 : Int32)) (by decide) ?_
      refine ev_goto (pc' := 26) rfl ?_
      exact e_X6_isShip_26 hΨ h
def s_X6_isSet (i0 : Nat) (p1 : Int32) (g : Nat → Nat → Nat → Int32) (w : Nat → Nat → Nat → Int64) : Bool :=
  (s_X6_within p1 (1 : Int32) (((1 : Int32) <<< ((g 1 0 9) &&& 31)) - (1 : Int32)) g w)
set_option maxRecDepth 20000 in
set_option maxHeartbeats 2000000 in
theorem d_X6_isSet {d : Nat} {i0 : Nat} {p1 : Int32} {g : Nat → Nat → Nat → Int32} {w : Nat → Nat → Nat → Int64} : Does (EvM mth (d + 2)) 110 [aR 6 i0, aI p1] (L0, g, w, q0) (some (aI (bI (s_X6_isSet i0 p1 g w)))) (L0, g, w, q0) := by
  intro Ψ hΨ
  obtain ⟨r, h⟩ : ∃ r, s_X6_isSet i0 p1 g w = r := ⟨_, rfl⟩
  rw [h] at hΨ
  refine ⟨in_110, mth_110, Nat.le_of_ble_eq_true rfl, ?_⟩
  show Ev (EvM mth (d + 1)) mth c00 sc0 (retP (some .boolean) c00 Ψ) (lkp es_110) 0 [some (aR 6 i0), some (aI p1)] [] (L0, g, w, q0)
  unfold s_X6_isSet at h
  refine ev_iload_n (pc' := 1) rfl rfl rfl ?_
  refine ev_iconst (pc' := 2) rfl rfl (v := (1 : Int32)) (by decide) ?_
  refine ev_iconst (pc' := 3) rfl rfl (v := (1 : Int32)) (by decide) ?_
  refine ev_aload_n (pc' := 4) rfl rfl rfl ?_
  refine ev_getQ (pc' := 7) rfl rfl rfl ?_
  refine ev_getI (pc' := 10) rfl rfl ?_
  refine ev_ishl (pc' := 11) rfl rfl ?_
  refine ev_iconst (pc' := 12) rfl rfl (v := (1 : Int32)) (by decide) ?_
  refine ev_isub (pc' := 13) rfl rfl ?_
  refine ev_S3I (pc' := 16) rfl (by decide) rfl mth_105 ⟨Nat.le_of_ble_eq_true rfl, rfl⟩ ⟨Nat.le_refl _, Nat.le_refl _⟩ d_X6_within ?_
  subst h
  exact ev_ireturn rfl ⟨⟨_, rfl, nar_bI _⟩, rfl, rfl, hΨ⟩
def s_X6_isPlanned_25 (i0 : Nat) (p1 : Int32) (t0 : Bool) (g : Nat → Nat → Nat → Int32) (w : Nat → Nat → Nat → Int64) : Bool :=
  t0
set_option maxRecDepth 20000 in
set_option maxHeartbeats 2000000 in
theorem e_X6_isPlanned_25 {d : Nat} {Ψ : Option AV → DS → Prop} {i0 : Nat} {p1 : Int32} {r : Bool} {g : Nat → Nat → Nat → Int32} {w : Nat → Nat → Nat → Int64} {t0 : Bool} {x0 : Option AV} {x1 : Option AV} (hΨ : Ψ (some (aI (bI r))) (L0, g, w, q0)) (h : s_X6_isPlanned_25 i0 p1 t0 g w = r) : Ev (EvM mth (d + 1)) mth c00 sc0 (retP (some .boolean) c00 Ψ) (lkp es_111) 25 [x0, x1] [aI (bI t0)] (L0, g, w, q0) := by
  unfold s_X6_isPlanned_25 at h
  subst h
  exact ev_ireturn rfl ⟨⟨_, rfl, nar_bI _⟩, rfl, rfl, hΨ⟩
def s_X6_isPlanned_24 (i0 : Nat) (p1 : Int32) (g : Nat → Nat → Nat → Int32) (w : Nat → Nat → Nat → Int64) : Bool :=
  s_X6_isPlanned_25 i0 p1 false g w
set_option maxRecDepth 20000 in
set_option maxHeartbeats 2000000 in
theorem e_X6_isPlanned_24 {d : Nat} {Ψ : Option AV → DS → Prop} {i0 : Nat} {p1 : Int32} {r : Bool} {g : Nat → Nat → Nat → Int32} {w : Nat → Nat → Nat → Int64} {x0 : Option AV} {x1 : Option AV} (hΨ : Ψ (some (aI (bI r))) (L0, g, w, q0)) (h : s_X6_isPlanned_24 i0 p1 g w = r) : Ev (EvM mth (d + 1)) mth c00 sc0 (retP (some .boolean) c00 Ψ) (lkp es_111) 24 [x0, x1] [] (L0, g, w, q0) := by
  unfold s_X6_isPlanned_24 at h
  refine ev_iconst (pc' := 25) rfl rfl (v := (0 : Int32)) (by decide) ?_
  exact e_X6_isPlanned_25 hΨ h
def s_X6_isPlanned (i0 : Nat) (p1 : Int32) (g : Nat → Nat → Nat → Int32) (w : Nat → Nat → Nat → Int64) : Bool :=
  if (s_X6_within p1 (1 : Int32) (4 : Int32) g w) = true then
    if (g 1 0 10) < p1 then
      s_X6_isPlanned_24 i0 p1 g w
    else
      s_X6_isPlanned_25 i0 p1 true g w
  else
    s_X6_isPlanned_24 i0 p1 g w
set_option maxRecDepth 20000 in
set_option maxHeartbeats 2000000 in
theorem d_X6_isPlanned {d : Nat} {i0 : Nat} {p1 : Int32} {g : Nat → Nat → Nat → Int32} {w : Nat → Nat → Nat → Int64} : Does (EvM mth (d + 2)) 111 [aR 6 i0, aI p1] (L0, g, w, q0) (some (aI (bI (s_X6_isPlanned i0 p1 g w)))) (L0, g, w, q0) := by
  intro Ψ hΨ
  obtain ⟨r, h⟩ : ∃ r, s_X6_isPlanned i0 p1 g w = r := ⟨_, rfl⟩
  rw [h] at hΨ
  refine ⟨in_111, mth_111, Nat.le_of_ble_eq_true rfl, ?_⟩
  show Ev (EvM mth (d + 1)) mth c00 sc0 (retP (some .boolean) c00 Ψ) (lkp es_111) 0 [some (aR 6 i0), some (aI p1)] [] (L0, g, w, q0)
  unfold s_X6_isPlanned at h
  refine ev_iload_n (pc' := 1) rfl rfl rfl ?_
  refine ev_iconst (pc' := 2) rfl rfl (v := (1 : Int32)) (by decide) ?_
  refine ev_iconst (pc' := 3) rfl rfl (v := (4 : Int32)) (by decide) ?_
  refine ev_S3I (pc' := 6) rfl (by decide) rfl mth_105 ⟨Nat.le_of_ble_eq_true rfl, rfl⟩ ⟨Nat.le_refl _, Nat.le_refl _⟩ d_X6_within ?_
  refine ev_ifB_eq rfl (pc' := 9) rfl (fun hc => ?_) (fun hc => ?_)
  · have h := (if_neg hc).symm.trans h
    exact e_X6_isPlanned_24 hΨ h
  · have h := (if_pos hc).symm.trans h
    refine ev_iload_n (pc' := 10) rfl rfl rfl ?_
    refine ev_aload_n (pc' := 11) rfl rfl rfl ?_
    refine ev_getQ (pc' := 14) rfl rfl rfl ?_
    refine ev_getI (pc' := 17) rfl rfl ?_
    refine ev_icmp_gt rfl (pc' := 20) rfl (fun hc => ?_) (fun hc => ?_)
    · have h := (if_pos hc).symm.trans h
      exact e_X6_isPlanned_24 hΨ h
    · have h := (if_neg hc).symm.trans h
      refine ev_iconst (pc' := 21) rfl rfl (v := (1 : Int32)) (by decide) ?_
      refine ev_goto (pc' := 25) rfl ?_
      exact e_X6_isPlanned_25 hΨ h
def s_X7_isHour (p0 : Int32) (g : Nat → Nat → Nat → Int32) (w : Nat → Nat → Nat → Int64) : Bool :=
  (s_X7_in p0.toInt64 (0 : Int64) (47 : Int64) g w)
set_option maxRecDepth 20000 in
set_option maxHeartbeats 2000000 in
theorem d_X7_isHour {d : Nat} {p0 : Int32} {g : Nat → Nat → Nat → Int32} {w : Nat → Nat → Nat → Int64} : Does (EvM mth (d + 2)) 116 [aI p0] (L0, g, w, q0) (some (aI (bI (s_X7_isHour p0 g w)))) (L0, g, w, q0) := by
  intro Ψ hΨ
  obtain ⟨r, h⟩ : ∃ r, s_X7_isHour p0 g w = r := ⟨_, rfl⟩
  rw [h] at hΨ
  refine ⟨in_116, mth_116, Nat.le_of_ble_eq_true rfl, ?_⟩
  show Ev (EvM mth (d + 1)) mth c00 sc0 (retP (some .boolean) c00 Ψ) (lkp es_116) 0 [some (aI p0)] [] (L0, g, w, q0)
  unfold s_X7_isHour at h
  refine ev_iload_n (pc' := 1) rfl rfl rfl ?_
  refine ev_i2l (pc' := 2) rfl rfl ?_
  refine ev_lconst (pc' := 3) rfl rfl (v := (0 : Int64)) (by decide) ?_
  refine ev_ldc2_w (pc' := 6) rfl rfl (v := (47 : Int64)) (by decide) ?_
  refine ev_S3I (pc' := 9) rfl (by decide) rfl mth_115 ⟨Nat.le_of_ble_eq_true rfl, rfl⟩ ⟨Nat.le_refl _, Nat.le_refl _⟩ d_X7_in ?_
  subst h
  exact ev_ireturn rfl ⟨⟨_, rfl, nar_bI _⟩, rfl, rfl, hΨ⟩
def s_X7_isTug (i0 : Nat) (p1 : Int32) (g : Nat → Nat → Nat → Int32) (w : Nat → Nat → Nat → Int64) : Bool :=
  (s_X7_in p1.toInt64 (0 : Int64) ((w 2218 0 (64 : Int32).toNatClampNeg) - (1 : Int64)) g w)
set_option maxRecDepth 20000 in
set_option maxHeartbeats 2000000 in
theorem d_X7_isTug {d : Nat} {i0 : Nat} {p1 : Int32} {g : Nat → Nat → Nat → Int32} {w : Nat → Nat → Nat → Int64} : Does (EvM mth (d + 2)) 119 [aR 7 i0, aI p1] (L0, g, w, q0) (some (aI (bI (s_X7_isTug i0 p1 g w)))) (L0, g, w, q0) := by
  intro Ψ hΨ
  obtain ⟨r, h⟩ : ∃ r, s_X7_isTug i0 p1 g w = r := ⟨_, rfl⟩
  rw [h] at hΨ
  refine ⟨in_119, mth_119, Nat.le_of_ble_eq_true rfl, ?_⟩
  show Ev (EvM mth (d + 1)) mth c00 sc0 (retP (some .boolean) c00 Ψ) (lkp es_119) 0 [some (aR 7 i0), some (aI p1)] [] (L0, g, w, q0)
  unfold s_X7_isTug at h
  refine ev_iload_n (pc' := 1) rfl rfl rfl ?_
  refine ev_i2l (pc' := 2) rfl rfl ?_
  refine ev_lconst (pc' := 3) rfl rfl (v := (0 : Int64)) (by decide) ?_
  refine ev_aload_n (pc' := 4) rfl rfl rfl ?_
  refine ev_getQ (pc' := 7) rfl rfl rfl ?_
  refine ev_bipush (pc' := 9) rfl rfl (v := (64 : Int32)) (by decide) ?_
  refine ev_lald (pc' := 10) rfl rfl rfl (inR_vp (by decide)) ?_
  refine ev_lconst (pc' := 11) rfl rfl (v := (1 : Int64)) (by decide) ?_
  refine ev_lsub (pc' := 12) rfl rfl ?_
  refine ev_S3I (pc' := 15) rfl (by decide) rfl mth_115 ⟨Nat.le_of_ble_eq_true rfl, rfl⟩ ⟨Nat.le_refl _, Nat.le_refl _⟩ d_X7_in ?_
  subst h
  exact ev_ireturn rfl ⟨⟨_, rfl, nar_bI _⟩, rfl, rfl, hΨ⟩
def s_X7_isShip (i0 : Nat) (p1 : Int32) (g : Nat → Nat → Nat → Int32) (w : Nat → Nat → Nat → Int64) : Bool :=
  (s_X7_in p1.toInt64 (0 : Int64) ((w 2218 0 (65 : Int32).toNatClampNeg) - (1 : Int64)) g w)
set_option maxRecDepth 20000 in
set_option maxHeartbeats 2000000 in
theorem d_X7_isShip {d : Nat} {i0 : Nat} {p1 : Int32} {g : Nat → Nat → Nat → Int32} {w : Nat → Nat → Nat → Int64} : Does (EvM mth (d + 2)) 120 [aR 7 i0, aI p1] (L0, g, w, q0) (some (aI (bI (s_X7_isShip i0 p1 g w)))) (L0, g, w, q0) := by
  intro Ψ hΨ
  obtain ⟨r, h⟩ : ∃ r, s_X7_isShip i0 p1 g w = r := ⟨_, rfl⟩
  rw [h] at hΨ
  refine ⟨in_120, mth_120, Nat.le_of_ble_eq_true rfl, ?_⟩
  show Ev (EvM mth (d + 1)) mth c00 sc0 (retP (some .boolean) c00 Ψ) (lkp es_120) 0 [some (aR 7 i0), some (aI p1)] [] (L0, g, w, q0)
  unfold s_X7_isShip at h
  refine ev_iload_n (pc' := 1) rfl rfl rfl ?_
  refine ev_i2l (pc' := 2) rfl rfl ?_
  refine ev_lconst (pc' := 3) rfl rfl (v := (0 : Int64)) (by decide) ?_
  refine ev_aload_n (pc' := 4) rfl rfl rfl ?_
  refine ev_getQ (pc' := 7) rfl rfl rfl ?_
  refine ev_bipush (pc' := 9) rfl rfl (v := (65 : Int32)) (by decide) ?_
  refine ev_lald (pc' := 10) rfl rfl rfl (inR_vp (by decide)) ?_
  refine ev_lconst (pc' := 11) rfl rfl (v := (1 : Int64)) (by decide) ?_
  refine ev_lsub (pc' := 12) rfl rfl ?_
  refine ev_S3I (pc' := 15) rfl (by decide) rfl mth_115 ⟨Nat.le_of_ble_eq_true rfl, rfl⟩ ⟨Nat.le_refl _, Nat.le_refl _⟩ d_X7_in ?_
  subst h
  exact ev_ireturn rfl ⟨⟨_, rfl, nar_bI _⟩, rfl, rfl, hΨ⟩
def s_X7_isBerth (p0 : Int32) (g : Nat → Nat → Nat → Int32) (w : Nat → Nat → Nat → Int64) : Bool :=
  (s_X7_in p0.toInt64 (0 : Int64) (5 : Int64) g w)
set_option maxRecDepth 20000 in
set_option maxHeartbeats 2000000 in
theorem d_X7_isBerth {d : Nat} {p0 : Int32} {g : Nat → Nat → Nat → Int32} {w : Nat → Nat → Nat → Int64} : Does (EvM mth (d + 2)) 121 [aI p0] (L0, g, w, q0) (some (aI (bI (s_X7_isBerth p0 g w)))) (L0, g, w, q0) := by
  intro Ψ hΨ
  obtain ⟨r, h⟩ : ∃ r, s_X7_isBerth p0 g w = r := ⟨_, rfl⟩
  rw [h] at hΨ
  refine ⟨in_121, mth_121, Nat.le_of_ble_eq_true rfl, ?_⟩
  show Ev (EvM mth (d + 1)) mth c00 sc0 (retP (some .boolean) c00 Ψ) (lkp es_121) 0 [some (aI p0)] [] (L0, g, w, q0)
  unfold s_X7_isBerth at h
  refine ev_iload_n (pc' := 1) rfl rfl rfl ?_
  refine ev_i2l (pc' := 2) rfl rfl ?_
  refine ev_lconst (pc' := 3) rfl rfl (v := (0 : Int64)) (by decide) ?_
  refine ev_ldc2_w (pc' := 6) rfl rfl (v := (5 : Int64)) (by decide) ?_
  refine ev_S3I (pc' := 9) rfl (by decide) rfl mth_115 ⟨Nat.le_of_ble_eq_true rfl, rfl⟩ ⟨Nat.le_refl _, Nat.le_refl _⟩ d_X7_in ?_
  subst h
  exact ev_ireturn rfl ⟨⟨_, rfl, nar_bI _⟩, rfl, rfl, hΨ⟩
def s_X7_tide_24 (i0 : Nat) (p1 : Int32) (p2 : Int32) (g : Nat → Nat → Nat → Int32) (w : Nat → Nat → Nat → Int64) : Option (Int32 × GS) :=
  some (((-1 : Int32), g, w))
set_option maxRecDepth 20000 in
set_option maxHeartbeats 2000000 in
theorem e_X7_tide_24 {d : Nat} {Ψ : Option AV → DS → Prop} {i0 : Nat} {p1 : Int32} {p2 : Int32} {r : Int32 × GS} {g : Nat → Nat → Nat → Int32} {w : Nat → Nat → Nat → Int64} {x0 : Option AV} {x1 : Option AV} {x2 : Option AV} {x3 : Option AV} (hΨ : Ψ (some (aI r.1)) (L0, r.2.1, r.2.2, q0)) (h : s_X7_tide_24 i0 p1 p2 g w = some r) : Ev (EvM mth (d + 1)) mth c00 sc0 (retP (some .int) c00 Ψ) (lkp es_122) 24 [x0, x1, x2, x3] [] (L0, g, w, q0) := by
  unfold s_X7_tide_24 at h
  refine ev_iconst (pc' := 25) rfl rfl (v := (-1 : Int32)) (by decide) ?_
  obtain rfl := Option.some.inj h
  exact ev_ireturn rfl ⟨⟨_, rfl, rfl⟩, rfl, rfl, hΨ⟩
def s_X7_tide (i0 : Nat) (p1 : Int32) (p2 : Int32) (g : Nat → Nat → Nat → Int32) (w : Nat → Nat → Nat → Int64) : Option (Int32 × GS) :=
  if (s_X7_in p1.toInt64 (0 : Int64) (11 : Int64) g w) = true then
    if (s_X7_in p2.toInt64 (0 : Int64) (9 : Int64) g w) = true then
      if inR p1 218 = true then
        if inR p1 218 = true then
          some (((w 2218 0 p1.toNatClampNeg).toInt32, g, (wL w 2218 0 p1.toNatClampNeg p2.toInt64)))
        else none
      else none
    else
      s_X7_tide_24 i0 p1 p2 g w
  else
    s_X7_tide_24 i0 p1 p2 g w
set_option maxRecDepth 20000 in
set_option maxHeartbeats 2000000 in
theorem d_X7_tide {d : Nat} {i0 : Nat} {p1 : Int32} {p2 : Int32} {g : Nat → Nat → Nat → Int32} {w : Nat → Nat → Nat → Int64} {r : Int32 × GS} (h : s_X7_tide i0 p1 p2 g w = some r) : Does (EvM mth (d + 2)) 122 [aR 7 i0, aI p1, aI p2] (L0, g, w, q0) (some (aI r.1)) (L0, r.2.1, r.2.2, q0) := by
  intro Ψ hΨ
  refine ⟨in_122, mth_122, Nat.le_of_ble_eq_true rfl, ?_⟩
  show Ev (EvM mth (d + 1)) mth c00 sc0 (retP (some .int) c00 Ψ) (lkp es_122) 0 [some (aR 7 i0), some (aI p1), some (aI p2), none] [] (L0, g, w, q0)
  unfold s_X7_tide at h
  refine ev_iload_n (pc' := 1) rfl rfl rfl ?_
  refine ev_i2l (pc' := 2) rfl rfl ?_
  refine ev_lconst (pc' := 3) rfl rfl (v := (0 : Int64)) (by decide) ?_
  refine ev_ldc2_w (pc' := 6) rfl rfl (v := (11 : Int64)) (by decide) ?_
  refine ev_S3I (pc' := 9) rfl (by decide) rfl mth_115 ⟨Nat.le_of_ble_eq_true rfl, rfl⟩ ⟨Nat.le_refl _, Nat.le_refl _⟩ d_X7_in ?_
  refine ev_ifB_eq rfl (pc' := 12) rfl (fun hc => ?_) (fun hc => ?_)
  · have h := (if_neg hc).symm.trans h
    exact e_X7_tide_24 hΨ h
  · have h := (if_pos hc).symm.trans h
    refine ev_iload_n (pc' := 13) rfl rfl rfl ?_
    refine ev_i2l (pc' := 14) rfl rfl ?_
    refine ev_lconst (pc' := 15) rfl rfl (v := (0 : Int64)) (by decide) ?_
    refine ev_ldc2_w (pc' := 18) rfl rfl (v := (9 : Int64)) (by decide) ?_
    refine ev_S3I (pc' := 21) rfl (by decide) rfl mth_115 ⟨Nat.le_of_ble_eq_true rfl, rfl⟩ ⟨Nat.le_refl _, Nat.le_refl _⟩ d_X7_in ?_
    refine ev_ifB_ne rfl (pc' := 24) rfl (fun hc => ?_) (fun hc => ?_)
    · have h := (if_pos hc).symm.trans h
      refine ev_aload_n (pc' := 27) rfl rfl rfl ?_
      refine ev_getQ (pc' := 30) rfl rfl rfl ?_
      refine ev_iload_n (pc' := 31) rfl rfl rfl ?_
      obtain ⟨hi, h⟩ := gdB h
      refine ev_lald (pc' := 32) rfl rfl rfl (inR_vp hi) ?_
      refine ev_l2i (pc' := 33) rfl rfl ?_
      refine ev_istore_n (pc' := 34) rfl rfl (l' := [some (aR 7 i0), some (aI p1), some (aI p2), some (aI (w 2218 0 p1.toNatClampNeg).toInt32)]) rfl ?_
      refine ev_aload_n (pc' := 35) rfl rfl rfl ?_
      refine ev_getQ (pc' := 38) rfl rfl rfl ?_
      refine ev_iload_n (pc' := 39) rfl rfl rfl ?_
      refine ev_iload_n (pc' := 40) rfl rfl rfl ?_
      refine ev_i2l (pc' := 41) rfl rfl ?_
      obtain ⟨hi, h⟩ := gdB h
      refine ev_last (pc' := 42) rfl rfl rfl (inR_vp hi) ?_
      refine ev_iload_n (pc' := 43) rfl rfl rfl ?_
      obtain rfl := Option.some.inj h
      exact ev_ireturn rfl ⟨⟨_, rfl, rfl⟩, rfl, rfl, hΨ⟩
    · have h := (if_neg hc).symm.trans h
      exact e_X7_tide_24 hΨ h
def s_X7_rule_52 (i0 : Nat) (p1 : Int32) (p2 : Int32) (g : Nat → Nat → Nat → Int32) (w : Nat → Nat → Nat → Int64) : Option (Int32 × GS) :=
  some (((-1 : Int32), g, w))
set_option maxRecDepth 20000 in
set_option maxHeartbeats 2000000 in
theorem e_X7_rule_52 {d : Nat} {Ψ : Option AV → DS → Prop} {i0 : Nat} {p1 : Int32} {p2 : Int32} {r : Int32 × GS} {g : Nat → Nat → Nat → Int32} {w : Nat → Nat → Nat → Int64} {x0 : Option AV} {x1 : Option AV} {x2 : Option AV} {x3 : Option AV} (hΨ : Ψ (some (aI r.1)) (L0, r.2.1, r.2.2, q0)) (h : s_X7_rule_52 i0 p1 p2 g w = some r) : Ev (EvM mth (d + 1)) mth c00 sc0 (retP (some .int) c00 Ψ) (lkp es_124) 52 [x0, x1, x2, x3] [] (L0, g, w, q0) := by
  unfold s_X7_rule_52 at h
  refine ev_iconst (pc' := 53) rfl rfl (v := (-1 : Int32)) (by decide) ?_
  obtain rfl := Option.some.inj h
  exact ev_ireturn rfl ⟨⟨_, rfl, rfl⟩, rfl, rfl, hΨ⟩
def s_X7_rule_46 (i0 : Nat) (p1 : Int32) (p2 : Int32) (t0 : Int64) (t1 : Int64) (t2 : Int64) (g : Nat → Nat → Nat → Int32) (w : Nat → Nat → Nat → Int64) : Option (Int32 × GS) :=
  if (s_X7_in t0 t1 t2 g w) = true then
    if inR ((60 : Int32) + p1) 218 = true then
      if inR ((60 : Int32) + p1) 218 = true then
        some (((w 2218 0 ((60 : Int32) + p1).toNatClampNeg).toInt32, g, (wL w 2218 0 ((60 : Int32) + p1).toNatClampNeg p2.toInt64)))
      else none
    else none
  else
    s_X7_rule_52 i0 p1 p2 g w
set_option maxRecDepth 20000 in
set_option maxHeartbeats 2000000 in
theorem e_X7_rule_46 {d : Nat} {Ψ : Option AV → DS → Prop} {i0 : Nat} {p1 : Int32} {p2 : Int32} {r : Int32 × GS} {g : Nat → Nat → Nat → Int32} {w : Nat → Nat → Nat → Int64} {t0 : Int64} {t1 : Int64} {t2 : Int64} {x3 : Option AV} (hΨ : Ψ (some (aI r.1)) (L0, r.2.1, r.2.2, q0)) (h : s_X7_rule_46 i0 p1 p2 t0 t1 t2 g w = some r) : Ev (EvM mth (d + 1)) mth c00 sc0 (retP (some .int) c00 Ψ) (lkp es_124) 46 [some (aR 7 i0), some (aI p1), some (aI p2), x3] [aL t2, aL t1, aL t0] (L0, g, w, q0) := by
  unfold s_X7_rule_46 at h
  refine ev_S3I (pc' := 49) rfl (by decide) rfl mth_115 ⟨Nat.le_of_ble_eq_true rfl, rfl⟩ ⟨Nat.le_refl _, Nat.le_refl _⟩ d_X7_in ?_
  refine ev_ifB_ne rfl (pc' := 52) rfl (fun hc => ?_) (fun hc => ?_)
  · have h := (if_pos hc).symm.trans h
    refine ev_aload_n (pc' := 55) rfl rfl rfl ?_
    refine ev_getQ (pc' := 58) rfl rfl rfl ?_
    refine ev_bipush (pc' := 60) rfl rfl (v := (60 : Int32)) (by decide) ?_
    refine ev_iload_n (pc' := 61) rfl rfl rfl ?_
    refine ev_iadd (pc' := 62) rfl rfl ?_
    obtain ⟨hi, h⟩ := gdB h
    refine ev_lald (pc' := 63) rfl rfl rfl (inR_vp hi) ?_
    refine ev_l2i (pc' := 64) rfl rfl ?_
    refine ev_istore_n (pc' := 65) rfl rfl (l' := [some (aR 7 i0), some (aI p1), some (aI p2), some (aI (w 2218 0 ((60 : Int32) + p1).toNatClampNeg).toInt32)]) rfl ?_
    refine ev_aload_n (pc' := 66) rfl rfl rfl ?_
    refine ev_getQ (pc' := 69) rfl rfl rfl ?_
    refine ev_bipush (pc' := 71) rfl rfl (v := (60 : Int32)) (by decide) ?_
    refine ev_iload_n (pc' := 72) rfl rfl rfl ?_
    refine ev_iadd (pc' := 73) rfl rfl ?_
    refine ev_iload_n (pc' := 74) rfl rfl rfl ?_
    refine ev_i2l (pc' := 75) rfl rfl ?_
    obtain ⟨hi, h⟩ := gdB h
    refine ev_last (pc' := 76) rfl rfl rfl (inR_vp hi) ?_
    refine ev_iload_n (pc' := 77) rfl rfl rfl ?_
    obtain rfl := Option.some.inj h
    exact ev_ireturn rfl ⟨⟨_, rfl, rfl⟩, rfl, rfl, hΨ⟩
  · have h := (if_neg hc).symm.trans h
    exact e_X7_rule_52 hΨ h
def s_X7_rule_24 (i0 : Nat) (p1 : Int32) (p2 : Int32) (t0 : Int64) (t1 : Int64) (g : Nat → Nat → Nat → Int32) (w : Nat → Nat → Nat → Int64) : Option (Int32 × GS) :=
  if p1 ≠ 0 then
    if p1 ≠ (1 : Int32) then
      s_X7_rule_46 i0 p1 p2 t0 t1 (30 : Int64) g w
    else
      s_X7_rule_46 i0 p1 p2 t0 t1 (1 : Int64) g w
  else
    s_X7_rule_46 i0 p1 p2 t0 t1 (6 : Int64) g w
set_option maxRecDepth 20000 in
set_option maxHeartbeats 2000000 in
theorem e_X7_rule_24 {d : Nat} {Ψ : Option AV → DS → Prop} {i0 : Nat} {p1 : Int32} {p2 : Int32} {r : Int32 × GS} {g : Nat → Nat → Nat → Int32} {w : Nat → Nat → Nat → Int64} {t0 : Int64} {t1 : Int64} {x3 : Option AV} (hΨ : Ψ (some (aI r.1)) (L0, r.2.1, r.2.2, q0)) (h : s_X7_rule_24 i0 p1 p2 t0 t1 g w = some r) : Ev (EvM mth (d + 1)) mth c00 sc0 (retP (some .int) c00 Ψ) (lkp es_124) 24 [some (aR 7 i0), some (aI p1), some (aI p2), x3] [aL t1, aL t0] (L0, g, w, q0) := by
  unfold s_X7_rule_24 at h
  refine ev_iload_n (pc' := 25) rfl rfl rfl ?_
  refine ev_if_ne rfl (pc' := 28) rfl (fun hc => ?_) (fun hc => ?_)
  · have h := (if_pos hc).symm.trans h
    refine ev_iload_n (pc' := 35) rfl rfl rfl ?_
    refine ev_iconst (pc' := 36) rfl rfl (v := (1 : Int32)) (by decide) ?_
    refine ev_icmp_ne rfl (pc' := 39) rfl (fun hc => ?_) (fun hc => ?_)
    · have h := (if_pos hc).symm.trans h
      refine ev_ldc2_w (pc' := 46) rfl rfl (v := (30 : Int64)) (by decide) ?_
      exact e_X7_rule_46 hΨ h
    · have h := (if_neg hc).symm.trans h
      refine ev_lconst (pc' := 40) rfl rfl (v := (1 : Int64)) (by decide) ?_
      refine ev_goto (pc' := 46) rfl ?_
      exact e_X7_rule_46 hΨ h
  · have h := (if_neg hc).symm.trans h
    refine ev_ldc2_w (pc' := 31) rfl rfl (v := (6 : Int64)) (by decide) ?_
    refine ev_goto (pc' := 46) rfl ?_
    exact e_X7_rule_46 hΨ h
def s_X7_rule (i0 : Nat) (p1 : Int32) (p2 : Int32) (g : Nat → Nat → Nat → Int32) (w : Nat → Nat → Nat → Int64) : Option (Int32 × GS) :=
  if (s_X7_in p1.toInt64 (0 : Int64) (2 : Int64) g w) = true then
    if p1 ≠ (2 : Int32) then
      s_X7_rule_24 i0 p1 p2 p2.toInt64 (0 : Int64) g w
    else
      s_X7_rule_24 i0 p1 p2 p2.toInt64 (1 : Int64) g w
  else
    s_X7_rule_52 i0 p1 p2 g w
set_option maxRecDepth 20000 in
set_option maxHeartbeats 2000000 in
theorem d_X7_rule {d : Nat} {i0 : Nat} {p1 : Int32} {p2 : Int32} {g : Nat → Nat → Nat → Int32} {w : Nat → Nat → Nat → Int64} {r : Int32 × GS} (h : s_X7_rule i0 p1 p2 g w = some r) : Does (EvM mth (d + 2)) 124 [aR 7 i0, aI p1, aI p2] (L0, g, w, q0) (some (aI r.1)) (L0, r.2.1, r.2.2, q0) := by
  intro Ψ hΨ
  refine ⟨in_124, mth_124, Nat.le_of_ble_eq_true rfl, ?_⟩
  show Ev (EvM mth (d + 1)) mth c00 sc0 (retP (some .int) c00 Ψ) (lkp es_124) 0 [some (aR 7 i0), some (aI p1), some (aI p2), none] [] (L0, g, w, q0)
  unfold s_X7_rule at h
  refine ev_iload_n (pc' := 1) rfl rfl rfl ?_
  refine ev_i2l (pc' := 2) rfl rfl ?_
  refine ev_lconst (pc' := 3) rfl rfl (v := (0 : Int64)) (by decide) ?_
  refine ev_ldc2_w (pc' := 6) rfl rfl (v := (2 : Int64)) (by decide) ?_
  refine ev_S3I (pc' := 9) rfl (by decide) rfl mth_115 ⟨Nat.le_of_ble_eq_true rfl, rfl⟩ ⟨Nat.le_refl _, Nat.le_refl _⟩ d_X7_in ?_
  refine ev_ifB_eq rfl (pc' := 12) rfl (fun hc => ?_) (fun hc => ?_)
  · have h := (if_neg hc).symm.trans h
    exact e_X7_rule_52 hΨ h
  · have h := (if_pos hc).symm.trans h
    refine ev_iload_n (pc' := 13) rfl rfl rfl ?_
    refine ev_i2l (pc' := 14) rfl rfl ?_
    refine ev_iload_n (pc' := 15) rfl rfl rfl ?_
    refine ev_iconst (pc' := 16) rfl rfl (v := (2 : Int32)) (by decide) ?_
    refine ev_icmp_ne rfl (pc' := 19) rfl (fun hc => ?_) (fun hc => ?_)
    · have h := (if_pos hc).symm.trans h
      refine ev_lconst (pc' := 24) rfl rfl (v := (0 : Int64)) (by decide) ?_
      exact e_X7_rule_24 hΨ h
    · have h := (if_neg hc).symm.trans h
      refine ev_lconst (pc' := 20) rfl rfl (v := (1 : Int64)) (by decide) ?_
      refine ev_goto (pc' := 24) rfl ?_
      exact e_X7_rule_24 hΨ h
def s_X7_hasJob_15 (i0 : Nat) (p1 : Int32) (t0 : Bool) (g : Nat → Nat → Nat → Int32) (w : Nat → Nat → Nat → Int64) : Option (Bool) :=
  some (t0)
set_option maxRecDepth 20000 in
set_option maxHeartbeats 2000000 in
theorem e_X7_hasJob_15 {d : Nat} {Ψ : Option AV → DS → Prop} {i0 : Nat} {p1 : Int32} {r : Bool} {g : Nat → Nat → Nat → Int32} {w : Nat → Nat → Nat → Int64} {t0 : Bool} {x0 : Option AV} {x1 : Option AV} (hΨ : Ψ (some (aI (bI r))) (L0, g, w, q0)) (h : s_X7_hasJob_15 i0 p1 t0 g w = some r) : Ev (EvM mth (d + 1)) mth c00 sc0 (retP (some .boolean) c00 Ψ) (lkp es_125) 15 [x0, x1] [aI (bI t0)] (L0, g, w, q0) := by
  unfold s_X7_hasJob_15 at h
  obtain rfl := Option.some.inj h
  exact ev_ireturn rfl ⟨⟨_, rfl, nar_bI _⟩, rfl, rfl, hΨ⟩
def s_X7_hasJob (i0 : Nat) (p1 : Int32) (g : Nat → Nat → Nat → Int32) (w : Nat → Nat → Nat → Int64) : Option (Bool) :=
  (s_X7_ofShip i0 p1 (7 : Int32) g w).bind fun q1 =>
  if q1 < 0 then
    s_X7_hasJob_15 i0 p1 false g w
  else
    s_X7_hasJob_15 i0 p1 true g w
set_option maxRecDepth 20000 in
set_option maxHeartbeats 2000000 in
theorem d_X7_hasJob {d : Nat} {i0 : Nat} {p1 : Int32} {g : Nat → Nat → Nat → Int32} {w : Nat → Nat → Nat → Int64} {r : Bool} (h : s_X7_hasJob i0 p1 g w = some r) : Does (EvM mth (d + 2)) 125 [aR 7 i0, aI p1] (L0, g, w, q0) (some (aI (bI r))) (L0, g, w, q0) := by
  intro Ψ hΨ
  refine ⟨in_125, mth_125, Nat.le_of_ble_eq_true rfl, ?_⟩
  show Ev (EvM mth (d + 1)) mth c00 sc0 (retP (some .boolean) c00 Ψ) (lkp es_125) 0 [some (aR 7 i0), some (aI p1)] [] (L0, g, w, q0)
  unfold s_X7_hasJob at h
  refine ev_aload_n (pc' := 1) rfl rfl rfl ?_
  refine ev_iload_n (pc' := 2) rfl rfl rfl ?_
  refine ev_bipush (pc' := 4) rfl rfl (v := (7 : Int32)) (by decide) ?_
  obtain ⟨q1, hq1, h⟩ := Option.bind_eq_some_iff.mp h
  refine ev_V3I (pc' := 7) rfl (by decide) rfl mth_118 ⟨Nat.le_of_ble_eq_true rfl, rfl⟩ ⟨Nat.le_refl _, Nat.le_refl _⟩ (d_X7_ofShip hq1) ?_
  refine ev_if_lt rfl (pc' := 10) rfl (fun hc => ?_) (fun hc => ?_)
  · have h := (if_pos hc).symm.trans h
    refine ev_iconst (pc' := 15) rfl rfl (v := (0 : Int32)) (by decide) ?_
    exact e_X7_hasJob_15 hΨ h
  · have h := (if_neg hc).symm.trans h
    refine ev_iconst (pc' := 11) rfl rfl (v := (1 : Int32)) (by decide) ?_
    refine ev_goto (pc' := 15) rfl ?_
    exact e_X7_hasJob_15 hΨ h
def s_X7_needsOf (i0 : Nat) (p1 : Int32) (p2 : Int32) (g : Nat → Nat → Nat → Int32) (w : Nat → Nat → Nat → Int64) : Option (Int32) :=
  (s_X7_ofShip i0 p1 (0 : Int32) g w).bind fun q1 =>
  (s_X7_ofShip i0 p1 (0 : Int32) g w).bind fun q2 =>
  if inR ((12 : Int32) + p2) 218 = true then
    some ((q1 + ((q2 * (w 2218 0 ((12 : Int32) + p2).toNatClampNeg).toInt32) / (5 : Int32))))
  else none
set_option maxRecDepth 20000 in
set_option maxHeartbeats 2000000 in
theorem d_X7_needsOf {d : Nat} {i0 : Nat} {p1 : Int32} {p2 : Int32} {g : Nat → Nat → Nat → Int32} {w : Nat → Nat → Nat → Int64} {r : Int32} (h : s_X7_needsOf i0 p1 p2 g w = some r) : Does (EvM mth (d + 2)) 131 [aR 7 i0, aI p1, aI p2] (L0, g, w, q0) (some (aI r)) (L0, g, w, q0) := by
  intro Ψ hΨ
  refine ⟨in_131, mth_131, Nat.le_of_ble_eq_true rfl, ?_⟩
  show Ev (EvM mth (d + 1)) mth c00 sc0 (retP (some .int) c00 Ψ) (lkp es_131) 0 [some (aR 7 i0), some (aI p1), some (aI p2)] [] (L0, g, w, q0)
  unfold s_X7_needsOf at h
  refine ev_aload_n (pc' := 1) rfl rfl rfl ?_
  refine ev_iload_n (pc' := 2) rfl rfl rfl ?_
  refine ev_iconst (pc' := 3) rfl rfl (v := (0 : Int32)) (by decide) ?_
  obtain ⟨q1, hq1, h⟩ := Option.bind_eq_some_iff.mp h
  refine ev_V3I (pc' := 6) rfl (by decide) rfl mth_118 ⟨Nat.le_of_ble_eq_true rfl, rfl⟩ ⟨Nat.le_refl _, Nat.le_refl _⟩ (d_X7_ofShip hq1) ?_
  refine ev_aload_n (pc' := 7) rfl rfl rfl ?_
  refine ev_iload_n (pc' := 8) rfl rfl rfl ?_
  refine ev_iconst (pc' := 9) rfl rfl (v := (0 : Int32)) (by decide) ?_
  obtain ⟨q2, hq2, h⟩ := Option.bind_eq_some_iff.mp h
  refine ev_V3I (pc' := 12) rfl (by decide) rfl mth_118 ⟨Nat.le_of_ble_eq_true rfl, rfl⟩ ⟨Nat.le_refl _, Nat.le_refl _⟩ (d_X7_ofShip hq2) ?_
  refine ev_aload_n (pc' := 13) rfl rfl rfl ?_
  refine ev_getQ (pc' := 16) rfl rfl rfl ?_
  refine ev_bipush (pc' := 18) rfl rfl (v := (12 : Int32)) (by decide) ?_
  refine ev_iload_n (pc' := 19) rfl rfl rfl ?_
  refine ev_iadd (pc' := 20) rfl rfl ?_
  obtain ⟨hi, h⟩ := gdB h
  refine ev_lald (pc' := 21) rfl rfl rfl (inR_vp hi) ?_
  refine ev_l2i (pc' := 22) rfl rfl ?_
  refine ev_imul (pc' := 23) rfl rfl ?_
  refine ev_iconst (pc' := 24) rfl rfl (v := (5 : Int32)) (by decide) ?_
  refine ev_idiv (pc' := 25) rfl rfl (by decide) ?_
  refine ev_iadd (pc' := 26) rfl rfl ?_
  obtain rfl := Option.some.inj h
  exact ev_ireturn rfl ⟨⟨_, rfl, rfl⟩, rfl, rfl, hΨ⟩
def s_X7_fuelBehind_96 (i0 : Nat) (p1 : Int32) (p2 : Int64) (p4 : Int32) (v5 : Int32) (g : Nat → Nat → Nat → Int32) (w : Nat → Nat → Nat → Int64) : Option (Int32) :=
  some (v5)
set_option maxRecDepth 20000 in
set_option maxHeartbeats 2000000 in
theorem e_X7_fuelBehind_96 {d : Nat} {Ψ : Option AV → DS → Prop} {i0 : Nat} {p1 : Int32} {p2 : Int64} {p4 : Int32} {r : Int32} {g : Nat → Nat → Nat → Int32} {w : Nat → Nat → Nat → Int64} {v5 : Int32} {x0 : Option AV} {x1 : Option AV} {x2 : Option AV} {x3 : Option AV} {x4 : Option AV} {x6 : Option AV} (hΨ : Ψ (some (aI r)) (L0, g, w, q0)) (h : s_X7_fuelBehind_96 i0 p1 p2 p4 v5 g w = some r) : Ev (EvM mth (d + 1)) mth c00 sc0 (retP (some .int) c00 Ψ) (lkp es_137) 96 [x0, x1, x2, x3, x4, some (aI v5), x6] [] (L0, g, w, q0) := by
  unfold s_X7_fuelBehind_96 at h
  refine ev_iload (pc' := 98) rfl rfl rfl ?_
  obtain rfl := Option.some.inj h
  exact ev_ireturn rfl ⟨⟨_, rfl, rfl⟩, rfl, rfl, hΨ⟩
def s_X7_fuelBehind_88 (i0 : Nat) (p1 : Int32) (p2 : Int64) (p4 : Int32) (rec11 : Int32 → Int32 → (Nat → Nat → Nat → Int32) → (Nat → Nat → Nat → Int64) → Option (Int32)) (t0 : Int32) (v6 : Int32) (g : Nat → Nat → Nat → Int32) (w : Nat → Nat → Nat → Int64) : Option (Int32) :=
  rec11 t0 (v6 + 1) g w
set_option maxRecDepth 20000 in
set_option maxHeartbeats 2000000 in
theorem e_X7_fuelBehind_88 {d : Nat} {Ψ : Option AV → DS → Prop} {i0 : Nat} {p1 : Int32} {p2 : Int64} {p4 : Int32} {rec11 : Int32 → Int32 → (Nat → Nat → Nat → Int32) → (Nat → Nat → Nat → Int64) → Option (Int32)} {r : Int32} {g : Nat → Nat → Nat → Int32} {w : Nat → Nat → Nat → Int64} {t0 : Int32} {v6 : Int32} {x3 : Option AV} {x5 : Option AV} (hr11 : ∀ {v5 : Int32} {v6 : Int32} {x3 : Option AV} , rec11 v5 v6 g w = some r → Ev (EvM mth (d + 1)) mth c00 sc0 (retP (some .int) c00 Ψ) (lkp es_137) 11 [some (aR 7 i0), some (aI p1), some (aL p2), x3, some (aI p4), some (aI v5), some (aI v6)] [] (L0, g, w, q0)) (hΨ : Ψ (some (aI r)) (L0, g, w, q0)) (h : s_X7_fuelBehind_88 i0 p1 p2 p4 rec11 t0 v6 g w = some r) : Ev (EvM mth (d + 1)) mth c00 sc0 (retP (some .int) c00 Ψ) (lkp es_137) 88 [some (aR 7 i0), some (aI p1), some (aL p2), x3, some (aI p4), x5, some (aI v6)] [aI t0] (L0, g, w, q0) := by
  unfold s_X7_fuelBehind_88 at h
  refine ev_istore (pc' := 90) rfl rfl (l' := [some (aR 7 i0), some (aI p1), some (aL p2), x3, some (aI p4), some (aI t0), some (aI v6)]) rfl ?_
  refine ev_iinc (pc' := 93) rfl rfl (l' := [some (aR 7 i0), some (aI p1), some (aL p2), x3, some (aI p4), some (aI t0), some (aI (v6 + 1))]) rfl (ii_1 _) rfl ?_
  refine ev_goto (pc' := 11) rfl ?_
  exact hr11 h
def s_X7_fuelBehind_63 (i0 : Nat) (p1 : Int32) (p2 : Int64) (p4 : Int32) (rec11 : Int32 → Int32 → (Nat → Nat → Nat → Int32) → (Nat → Nat → Nat → Int64) → Option (Int32)) (t0 : Int32) (t1 : Int32) (v6 : Int32) (g : Nat → Nat → Nat → Int32) (w : Nat → Nat → Nat → Int64) : Option (Int32) :=
  (s_X7_ofTug i0 p1 (4 : Int32) g w).bind fun q1 =>
  if (t0 + t1) ≤ q1 then
    s_X7_fuelBehind_88 i0 p1 p2 p4 rec11 (t0 + t1) v6 g w
  else
    (s_X7_ofTug i0 p1 (4 : Int32) g w).bind fun q2 =>
    s_X7_fuelBehind_88 i0 p1 p2 p4 rec11 q2 v6 g w
set_option maxRecDepth 20000 in
set_option maxHeartbeats 2000000 in
theorem e_X7_fuelBehind_63 {d : Nat} {Ψ : Option AV → DS → Prop} {i0 : Nat} {p1 : Int32} {p2 : Int64} {p4 : Int32} {rec11 : Int32 → Int32 → (Nat → Nat → Nat → Int32) → (Nat → Nat → Nat → Int64) → Option (Int32)} {r : Int32} {g : Nat → Nat → Nat → Int32} {w : Nat → Nat → Nat → Int64} {t0 : Int32} {t1 : Int32} {v6 : Int32} {x3 : Option AV} {x5 : Option AV} (hr11 : ∀ {v5 : Int32} {v6 : Int32} {x3 : Option AV} , rec11 v5 v6 g w = some r → Ev (EvM mth (d + 1)) mth c00 sc0 (retP (some .int) c00 Ψ) (lkp es_137) 11 [some (aR 7 i0), some (aI p1), some (aL p2), x3, some (aI p4), some (aI v5), some (aI v6)] [] (L0, g, w, q0)) (hΨ : Ψ (some (aI r)) (L0, g, w, q0)) (h : s_X7_fuelBehind_63 i0 p1 p2 p4 rec11 t0 t1 v6 g w = some r) : Ev (EvM mth (d + 1)) mth c00 sc0 (retP (some .int) c00 Ψ) (lkp es_137) 63 [some (aR 7 i0), some (aI p1), some (aL p2), x3, some (aI p4), x5, some (aI v6)] [aI t1, aI t0] (L0, g, w, q0) := by
  unfold s_X7_fuelBehind_63 at h
  refine ev_iadd (pc' := 64) rfl rfl ?_
  refine ev_istore (pc' := 66) rfl rfl (l' := [some (aR 7 i0), some (aI p1), some (aL p2), x3, some (aI p4), some (aI (t0 + t1)), some (aI v6)]) rfl ?_
  refine ev_iload (pc' := 68) rfl rfl rfl ?_
  refine ev_aload_n (pc' := 69) rfl rfl rfl ?_
  refine ev_iload_n (pc' := 70) rfl rfl rfl ?_
  refine ev_iconst (pc' := 71) rfl rfl (v := (4 : Int32)) (by decide) ?_
  obtain ⟨q1, hq1, h⟩ := Option.bind_eq_some_iff.mp h
  refine ev_V3I (pc' := 74) rfl (by decide) rfl mth_117 ⟨Nat.le_of_ble_eq_true rfl, rfl⟩ ⟨Nat.le_refl _, Nat.le_refl _⟩ (d_X7_ofTug hq1) ?_
  refine ev_icmp_le rfl (pc' := 77) rfl (fun hc => ?_) (fun hc => ?_)
  · have h := (if_pos hc).symm.trans h
    refine ev_iload (pc' := 88) rfl rfl rfl ?_
    exact e_X7_fuelBehind_88 (hr11 := hr11) hΨ h
  · have h := (if_neg hc).symm.trans h
    refine ev_aload_n (pc' := 78) rfl rfl rfl ?_
    refine ev_iload_n (pc' := 79) rfl rfl rfl ?_
    refine ev_iconst (pc' := 80) rfl rfl (v := (4 : Int32)) (by decide) ?_
    obtain ⟨q2, hq2, h⟩ := Option.bind_eq_some_iff.mp h
    refine ev_V3I (pc' := 83) rfl (by decide) rfl mth_117 ⟨Nat.le_of_ble_eq_true rfl, rfl⟩ ⟨Nat.le_refl _, Nat.le_refl _⟩ (d_X7_ofTug hq2) ?_
    refine ev_goto (pc' := 88) rfl ?_
    exact e_X7_fuelBehind_88 (hr11 := hr11) hΨ h
def s_X7_fuelBehind_39 (i0 : Nat) (p1 : Int32) (p2 : Int64) (p4 : Int32) (rec11 : Int32 → Int32 → (Nat → Nat → Nat → Int32) → (Nat → Nat → Nat → Int64) → Option (Int32)) (t0 : Int32) (t1 : Bool) (v6 : Int32) (g : Nat → Nat → Nat → Int32) (w : Nat → Nat → Nat → Int64) : Option (Int32) :=
  (s_X7_bunkersOf i0 p1 g w).bind fun q1 =>
  if (s_X7_has q1 v6 g w) = true then
    s_X7_fuelBehind_63 i0 p1 p2 p4 rec11 (t0 - (bI t1)) (12 : Int32) v6 g w
  else
    s_X7_fuelBehind_63 i0 p1 p2 p4 rec11 (t0 - (bI t1)) (0 : Int32) v6 g w
set_option maxRecDepth 20000 in
set_option maxHeartbeats 2000000 in
theorem e_X7_fuelBehind_39 {d : Nat} {Ψ : Option AV → DS → Prop} {i0 : Nat} {p1 : Int32} {p2 : Int64} {p4 : Int32} {rec11 : Int32 → Int32 → (Nat → Nat → Nat → Int32) → (Nat → Nat → Nat → Int64) → Option (Int32)} {r : Int32} {g : Nat → Nat → Nat → Int32} {w : Nat → Nat → Nat → Int64} {t0 : Int32} {t1 : Bool} {v6 : Int32} {x3 : Option AV} {x5 : Option AV} (hr11 : ∀ {v5 : Int32} {v6 : Int32} {x3 : Option AV} , rec11 v5 v6 g w = some r → Ev (EvM mth (d + 1)) mth c00 sc0 (retP (some .int) c00 Ψ) (lkp es_137) 11 [some (aR 7 i0), some (aI p1), some (aL p2), x3, some (aI p4), some (aI v5), some (aI v6)] [] (L0, g, w, q0)) (hΨ : Ψ (some (aI r)) (L0, g, w, q0)) (h : s_X7_fuelBehind_39 i0 p1 p2 p4 rec11 t0 t1 v6 g w = some r) : Ev (EvM mth (d + 1)) mth c00 sc0 (retP (some .int) c00 Ψ) (lkp es_137) 39 [some (aR 7 i0), some (aI p1), some (aL p2), x3, some (aI p4), x5, some (aI v6)] [aI (bI t1), aI t0] (L0, g, w, q0) := by
  unfold s_X7_fuelBehind_39 at h
  refine ev_isub (pc' := 40) rfl rfl ?_
  refine ev_istore (pc' := 42) rfl rfl (l' := [some (aR 7 i0), some (aI p1), some (aL p2), x3, some (aI p4), some (aI (t0 - (bI t1))), some (aI v6)]) rfl ?_
  refine ev_iload (pc' := 44) rfl rfl rfl ?_
  refine ev_aload_n (pc' := 45) rfl rfl rfl ?_
  refine ev_iload_n (pc' := 46) rfl rfl rfl ?_
  obtain ⟨q1, hq1, h⟩ := Option.bind_eq_some_iff.mp h
  refine ev_V2L (pc' := 49) rfl (by decide) rfl mth_136 ⟨Nat.le_of_ble_eq_true rfl, rfl⟩ ⟨Nat.le_refl _, Nat.le_refl _⟩ (d_X7_bunkersOf hq1) ?_
  refine ev_iload (pc' := 51) rfl rfl rfl ?_
  refine ev_S2I (pc' := 54) rfl (by decide) rfl mth_133 ⟨Nat.le_of_ble_eq_true rfl, rfl⟩ ⟨Nat.le_refl _, Nat.le_refl _⟩ d_X7_has ?_
  refine ev_ifB_eq rfl (pc' := 57) rfl (fun hc => ?_) (fun hc => ?_)
  · have h := (if_neg hc).symm.trans h
    refine ev_iconst (pc' := 63) rfl rfl (v := (0 : Int32)) (by decide) ?_
    exact e_X7_fuelBehind_63 (hr11 := hr11) hΨ h
  · have h := (if_pos hc).symm.trans h
    refine ev_bipush (pc' := 59) rfl rfl (v := (12 : Int32)) (by decide) ?_
    refine ev_goto (pc' := 63) rfl ?_
    exact e_X7_fuelBehind_63 (hr11 := hr11) hΨ h
def s_X7_fuelBehind_11 (i0 : Nat) (p1 : Int32) (p2 : Int64) (p4 : Int32) (rec11 : Int32 → Int32 → (Nat → Nat → Nat → Int32) → (Nat → Nat → Nat → Int64) → Option (Int32)) (v5 : Int32) (v6 : Int32) (g : Nat → Nat → Nat → Int32) (w : Nat → Nat → Nat → Int64) : Option (Int32) :=
  if p4 < v6 then
    s_X7_fuelBehind_96 i0 p1 p2 p4 v5 g w
  else
    if v5 < 0 then
      s_X7_fuelBehind_96 i0 p1 p2 p4 v5 g w
    else
      if (s_X7_has p2 v6 g w) = true then
        s_X7_fuelBehind_39 i0 p1 p2 p4 rec11 v5 true v6 g w
      else
        s_X7_fuelBehind_39 i0 p1 p2 p4 rec11 v5 false v6 g w
set_option maxRecDepth 20000 in
set_option maxHeartbeats 2000000 in
theorem e_X7_fuelBehind_11 {d : Nat} {Ψ : Option AV → DS → Prop} {i0 : Nat} {p1 : Int32} {p2 : Int64} {p4 : Int32} {rec11 : Int32 → Int32 → (Nat → Nat → Nat → Int32) → (Nat → Nat → Nat → Int64) → Option (Int32)} {r : Int32} {g : Nat → Nat → Nat → Int32} {w : Nat → Nat → Nat → Int64} {v5 : Int32} {v6 : Int32} {x3 : Option AV} (hr11 : ∀ {v5 : Int32} {v6 : Int32} {x3 : Option AV} , rec11 v5 v6 g w = some r → Ev (EvM mth (d + 1)) mth c00 sc0 (retP (some .int) c00 Ψ) (lkp es_137) 11 [some (aR 7 i0), some (aI p1), some (aL p2), x3, some (aI p4), some (aI v5), some (aI v6)] [] (L0, g, w, q0)) (hΨ : Ψ (some (aI r)) (L0, g, w, q0)) (h : s_X7_fuelBehind_11 i0 p1 p2 p4 rec11 v5 v6 g w = some r) : Ev (EvM mth (d + 1)) mth c00 sc0 (retP (some .int) c00 Ψ) (lkp es_137) 11 [some (aR 7 i0), some (aI p1), some (aL p2), x3, some (aI p4), some (aI v5), some (aI v6)] [] (L0, g, w, q0) := by
  unfold s_X7_fuelBehind_11 at h
  refine ev_iload (pc' := 13) rfl rfl rfl ?_
  refine ev_iload (pc' := 15) rfl rfl rfl ?_
  refine ev_icmp_gt rfl (pc' := 18) rfl (fun hc => ?_) (fun hc => ?_)
  · have h := (if_pos hc).symm.trans h
    exact e_X7_fuelBehind_96 hΨ h
  · have h := (if_neg hc).symm.trans h
    refine ev_iload (pc' := 20) rfl rfl rfl ?_
    refine ev_if_lt rfl (pc' := 23) rfl (fun hc => ?_) (fun hc => ?_)
    · have h := (if_pos hc).symm.trans h
      exact e_X7_fuelBehind_96 hΨ h
    · have h := (if_neg hc).symm.trans h
      refine ev_iload (pc' := 25) rfl rfl rfl ?_
      refine ev_lload_n (pc' := 26) rfl rfl rfl ?_
      refine ev_iload (pc' := 28) rfl rfl rfl ?_
      refine ev_S2I (pc' := 31) rfl (by decide) rfl mth_133 ⟨Nat.le_of_ble_eq_true rfl, rfl⟩ ⟨Nat.le_refl _, Nat.le_refl _⟩ d_X7_has ?_
      refine ev_ifB_eq rfl (pc' := 34) rfl (fun hc => ?_) (fun hc => ?_)
      · have h := (if_neg hc).symm.trans h
        refine ev_iconst (pc' := 39) rfl rfl (v := (0 : Int32)) (by decide) ?_
        exact e_X7_fuelBehind_39 (hr11 := hr11) hΨ h
      · have h := (if_pos hc).symm.trans h
        refine ev_iconst (pc' := 35) rfl rfl (v := (1 : Int32)) (by decide) ?_
        refine ev_goto (pc' := 39) rfl ?_
        exact e_X7_fuelBehind_39 (hr11 := hr11) hΨ h
def s_X7_fuelBehind_R11 (i0 : Nat) (p1 : Int32) (p2 : Int64) (p4 : Int32) : Nat → Int32 → Int32 → (Nat → Nat → Nat → Int32) → (Nat → Nat → Nat → Int64) → Option (Int32)
  | 0 => fun _ _ _ _ => none
  | n + 1 => s_X7_fuelBehind_11 i0 p1 p2 p4 (s_X7_fuelBehind_R11 i0 p1 p2 p4 n)
theorem e_X7_fuelBehind_R11 {d : Nat} {Ψ : Option AV → DS → Prop} {i0 : Nat} {p1 : Int32} {p2 : Int64} {p4 : Int32} {r : Int32} {g : Nat → Nat → Nat → Int32} {w : Nat → Nat → Nat → Int64} (hΨ : Ψ (some (aI r)) (L0, g, w, q0)) : ∀ (n : Nat) {v5 : Int32} {v6 : Int32} {x3 : Option AV}, s_X7_fuelBehind_R11 i0 p1 p2 p4 n v5 v6 g w = some r → Ev (EvM mth (d + 1)) mth c00 sc0 (retP (some .int) c00 Ψ) (lkp es_137) 11 [some (aR 7 i0), some (aI p1), some (aL p2), x3, some (aI p4), some (aI v5), some (aI v6)] [] (L0, g, w, q0) := by
  intro n
  induction n with
  | zero => intros; rename_i h; exact absurd h (by intro h9; cases h9)
  | succ n ih => intros; rename_i h; exact e_X7_fuelBehind_11 (hr11 := ih) hΨ h
def s_X7_fuelBehind (i0 : Nat) (p1 : Int32) (p2 : Int64) (p4 : Int32) (g : Nat → Nat → Nat → Int32) (w : Nat → Nat → Nat → Int64) : Option (Int32) :=
  (s_X7_ofTug i0 p1 (3 : Int32) g w).bind fun q1 =>
  s_X7_fuelBehind_R11 i0 p1 p2 p4 FU q1 (0 : Int32) g w
set_option maxRecDepth 20000 in
set_option maxHeartbeats 2000000 in
theorem d_X7_fuelBehind {d : Nat} {i0 : Nat} {p1 : Int32} {p2 : Int64} {p4 : Int32} {g : Nat → Nat → Nat → Int32} {w : Nat → Nat → Nat → Int64} {r : Int32} (h : s_X7_fuelBehind i0 p1 p2 p4 g w = some r) : Does (EvM mth (d + 2)) 137 [aR 7 i0, aI p1, aL p2, aI p4] (L0, g, w, q0) (some (aI r)) (L0, g, w, q0) := by
  intro Ψ hΨ
  refine ⟨in_137, mth_137, Nat.le_of_ble_eq_true rfl, ?_⟩
  show Ev (EvM mth (d + 1)) mth c00 sc0 (retP (some .int) c00 Ψ) (lkp es_137) 0 [some (aR 7 i0), some (aI p1), some (aL p2), none, some (aI p4), none, none] [] (L0, g, w, q0)
  unfold s_X7_fuelBehind at h
  refine ev_aload_n (pc' := 1) rfl rfl rfl ?_
  refine ev_iload_n (pc' := 2) rfl rfl rfl ?_
  refine ev_iconst (pc' := 3) rfl rfl (v := (3 : Int32)) (by decide) ?_
  obtain ⟨q1, hq1, h⟩ := Option.bind_eq_some_iff.mp h
  refine ev_V3I (pc' := 6) rfl (by decide) rfl mth_117 ⟨Nat.le_of_ble_eq_true rfl, rfl⟩ ⟨Nat.le_refl _, Nat.le_refl _⟩ (d_X7_ofTug hq1) ?_
  refine ev_istore (pc' := 8) rfl rfl (l' := [some (aR 7 i0), some (aI p1), some (aL p2), none, some (aI p4), some (aI q1), none]) rfl ?_
  refine ev_iconst (pc' := 9) rfl rfl (v := (0 : Int32)) (by decide) ?_
  refine ev_istore (pc' := 11) rfl rfl (l' := [some (aR 7 i0), some (aI p1), some (aL p2), none, some (aI p4), some (aI q1), some (aI (0 : Int32))]) rfl ?_
  exact e_X7_fuelBehind_R11 hΨ FU h
def s_X7_pullOf_37 (i0 : Nat) (p1 : Int32) (rec4 : Int32 → Int32 → (Nat → Nat → Nat → Int32) → (Nat → Nat → Nat → Int64) → Option (Int32)) (t0 : Int32) (t1 : Int32) (v3 : Int32) (g : Nat → Nat → Nat → Int32) (w : Nat → Nat → Nat → Int64) : Option (Int32) :=
  rec4 (t0 + t1) (v3 + 1) g w
set_option maxRecDepth 20000 in
set_option maxHeartbeats 2000000 in
theorem e_X7_pullOf_37 {d : Nat} {Ψ : Option AV → DS → Prop} {i0 : Nat} {p1 : Int32} {rec4 : Int32 → Int32 → (Nat → Nat → Nat → Int32) → (Nat → Nat → Nat → Int64) → Option (Int32)} {r : Int32} {g : Nat → Nat → Nat → Int32} {w : Nat → Nat → Nat → Int64} {t0 : Int32} {t1 : Int32} {v3 : Int32} {x2 : Option AV} (hr4 : ∀ {v2 : Int32} {v3 : Int32} , rec4 v2 v3 g w = some r → Ev (EvM mth (d + 1)) mth c00 sc0 (retP (some .int) c00 Ψ) (lkp es_140) 4 [some (aR 7 i0), some (aI p1), some (aI v2), some (aI v3)] [] (L0, g, w, q0)) (hΨ : Ψ (some (aI r)) (L0, g, w, q0)) (h : s_X7_pullOf_37 i0 p1 rec4 t0 t1 v3 g w = some r) : Ev (EvM mth (d + 1)) mth c00 sc0 (retP (some .int) c00 Ψ) (lkp es_140) 37 [some (aR 7 i0), some (aI p1), x2, some (aI v3)] [aI t1, aI t0] (L0, g, w, q0) := by
  unfold s_X7_pullOf_37 at h
  refine ev_iadd (pc' := 38) rfl rfl ?_
  refine ev_istore_n (pc' := 39) rfl rfl (l' := [some (aR 7 i0), some (aI p1), some (aI (t0 + t1)), some (aI v3)]) rfl ?_
  refine ev_iinc (pc' := 42) rfl rfl (l' := [some (aR 7 i0), some (aI p1), some (aI (t0 + t1)), some (aI (v3 + 1))]) rfl (ii_1 _) rfl ?_
  refine ev_goto (pc' := 4) rfl ?_
  exact hr4 h
def s_X7_pullOf_4 (i0 : Nat) (p1 : Int32) (rec4 : Int32 → Int32 → (Nat → Nat → Nat → Int32) → (Nat → Nat → Nat → Int64) → Option (Int32)) (v2 : Int32) (v3 : Int32) (g : Nat → Nat → Nat → Int32) (w : Nat → Nat → Nat → Int64) : Option (Int32) :=
  if 0 ≤ (lg_cmp v3.toInt64 (w 2218 0 (64 : Int32).toNatClampNeg)) then
    some (v2)
  else
    if ((p1 >>> (v3 &&& 31)) &&& (1 : Int32)) ≠ (1 : Int32) then
      s_X7_pullOf_37 i0 p1 rec4 v2 (0 : Int32) v3 g w
    else
      (s_X7_ofTug i0 v3 (1 : Int32) g w).bind fun q1 =>
      s_X7_pullOf_37 i0 p1 rec4 v2 q1 v3 g w
set_option maxRecDepth 20000 in
set_option maxHeartbeats 2000000 in
theorem e_X7_pullOf_4 {d : Nat} {Ψ : Option AV → DS → Prop} {i0 : Nat} {p1 : Int32} {rec4 : Int32 → Int32 → (Nat → Nat → Nat → Int32) → (Nat → Nat → Nat → Int64) → Option (Int32)} {r : Int32} {g : Nat → Nat → Nat → Int32} {w : Nat → Nat → Nat → Int64} {v2 : Int32} {v3 : Int32} (hr4 : ∀ {v2 : Int32} {v3 : Int32} , rec4 v2 v3 g w = some r → Ev (EvM mth (d + 1)) mth c00 sc0 (retP (some .int) c00 Ψ) (lkp es_140) 4 [some (aR 7 i0), some (aI p1), some (aI v2), some (aI v3)] [] (L0, g, w, q0)) (hΨ : Ψ (some (aI r)) (L0, g, w, q0)) (h : s_X7_pullOf_4 i0 p1 rec4 v2 v3 g w = some r) : Ev (EvM mth (d + 1)) mth c00 sc0 (retP (some .int) c00 Ψ) (lkp es_140) 4 [some (aR 7 i0), some (aI p1), some (aI v2), some (aI v3)] [] (L0, g, w, q0) := by
  unfold s_X7_pullOf_4 at h
  refine ev_iload_n (pc' := 5) rfl rfl rfl ?_
  refine ev_i2l (pc' := 6) rfl rfl ?_
  refine ev_aload_n (pc' := 7) rfl rfl rfl ?_
  refine ev_getQ (pc' := 10) rfl rfl rfl ?_
  refine ev_bipush (pc' := 12) rfl rfl (v := (64 : Int32)) (by decide) ?_
  refine ev_lald (pc' := 13) rfl rfl rfl (inR_vp (by decide)) ?_
  refine ev_lcmp (pc' := 14) rfl rfl ?_
  refine ev_if_ge rfl (pc' := 17) rfl (fun hc => ?_) (fun hc => ?_)
  · have h := (if_pos hc).symm.trans h
    refine ev_iload_n (pc' := 46) rfl rfl rfl ?_
    obtain rfl := Option.some.inj h
    exact ev_ireturn rfl ⟨⟨_, rfl, rfl⟩, rfl, rfl, hΨ⟩
  · have h := (if_neg hc).symm.trans h
    refine ev_iload_n (pc' := 18) rfl rfl rfl ?_
    refine ev_iload_n (pc' := 19) rfl rfl rfl ?_
    refine ev_iload_n (pc' := 20) rfl rfl rfl ?_
    refine ev_ishr (pc' := 21) rfl rfl ?_
    refine ev_iconst (pc' := 22) rfl rfl (v := (1 : Int32)) (by decide) ?_
    refine ev_iand (pc' := 23) rfl rfl ?_
    refine ev_iconst (pc' := 24) rfl rfl (v := (1 : Int32)) (by decide) ?_
    refine ev_icmp_ne rfl (pc' := 27) rfl (fun hc => ?_) (fun hc => ?_)
    · have h := (if_pos hc).symm.trans h
      refine ev_iconst (pc' := 37) rfl rfl (v := (0 : Int32)) (by decide) ?_
      exact e_X7_pullOf_37 (hr4 := hr4) hΨ h
    · have h := (if_neg hc).symm.trans h
      refine ev_aload_n (pc' := 28) rfl rfl rfl ?_
      refine ev_iload_n (pc' := 29) rfl rfl rfl ?_
      refine ev_iconst (pc' := 30) rfl rfl (v := (1 : Int32)) (by decide) ?_
      obtain ⟨q1, hq1, h⟩ := Option.bind_eq_some_iff.mp h
      refine ev_V3I (pc' := 33) rfl (by decide) rfl mth_117 ⟨Nat.le_of_ble_eq_true rfl, rfl⟩ ⟨Nat.le_refl _, Nat.le_refl _⟩ (d_X7_ofTug hq1) ?_
      refine ev_goto (pc' := 37) rfl ?_
      exact e_X7_pullOf_37 (hr4 := hr4) hΨ h
def s_X7_pullOf_R4 (i0 : Nat) (p1 : Int32) : Nat → Int32 → Int32 → (Nat → Nat → Nat → Int32) → (Nat → Nat → Nat → Int64) → Option (Int32)
  | 0 => fun _ _ _ _ => none
  | n + 1 => s_X7_pullOf_4 i0 p1 (s_X7_pullOf_R4 i0 p1 n)
theorem e_X7_pullOf_R4 {d : Nat} {Ψ : Option AV → DS → Prop} {i0 : Nat} {p1 : Int32} {r : Int32} {g : Nat → Nat → Nat → Int32} {w : Nat → Nat → Nat → Int64} (hΨ : Ψ (some (aI r)) (L0, g, w, q0)) : ∀ (n : Nat) {v2 : Int32} {v3 : Int32} , s_X7_pullOf_R4 i0 p1 n v2 v3 g w = some r → Ev (EvM mth (d + 1)) mth c00 sc0 (retP (some .int) c00 Ψ) (lkp es_140) 4 [some (aR 7 i0), some (aI p1), some (aI v2), some (aI v3)] [] (L0, g, w, q0) := by
  intro n
  induction n with
  | zero => intros; rename_i h; exact absurd h (by intro h9; cases h9)
  | succ n ih => intros; rename_i h; exact e_X7_pullOf_4 (hr4 := ih) hΨ h
def s_X7_pullOf (i0 : Nat) (p1 : Int32) (g : Nat → Nat → Nat → Int32) (w : Nat → Nat → Nat → Int64) : Option (Int32) :=
  s_X7_pullOf_R4 i0 p1 FU (0 : Int32) (0 : Int32) g w
set_option maxRecDepth 20000 in
set_option maxHeartbeats 2000000 in
theorem d_X7_pullOf {d : Nat} {i0 : Nat} {p1 : Int32} {g : Nat → Nat → Nat → Int32} {w : Nat → Nat → Nat → Int64} {r : Int32} (h : s_X7_pullOf i0 p1 g w = some r) : Does (EvM mth (d + 2)) 140 [aR 7 i0, aI p1] (L0, g, w, q0) (some (aI r)) (L0, g, w, q0) := by
  intro Ψ hΨ
  refine ⟨in_140, mth_140, Nat.le_of_ble_eq_true rfl, ?_⟩
  show Ev (EvM mth (d + 1)) mth c00 sc0 (retP (some .int) c00 Ψ) (lkp es_140) 0 [some (aR 7 i0), some (aI p1), none, none] [] (L0, g, w, q0)
  unfold s_X7_pullOf at h
  refine ev_iconst (pc' := 1) rfl rfl (v := (0 : Int32)) (by decide) ?_
  refine ev_istore_n (pc' := 2) rfl rfl (l' := [some (aR 7 i0), some (aI p1), some (aI (0 : Int32)), none]) rfl ?_
  refine ev_iconst (pc' := 3) rfl rfl (v := (0 : Int32)) (by decide) ?_
  refine ev_istore_n (pc' := 4) rfl rfl (l' := [some (aR 7 i0), some (aI p1), some (aI (0 : Int32)), some (aI (0 : Int32))]) rfl ?_
  exact e_X7_pullOf_R4 hΨ FU h
def s_X7_rests_96 (i0 : Nat) (p1 : Int32) (p2 : Int64) (rec27 : Int32 → Int32 → Bool → Int32 → (Nat → Nat → Nat → Int32) → (Nat → Nat → Nat → Int64) → Option (Bool)) (t0 : Bool) (v4 : Int32) (v5 : Int32) (v7 : Int32) (g : Nat → Nat → Nat → Int32) (w : Nat → Nat → Nat → Int64) : Option (Bool) :=
  rec27 v4 v5 t0 (v7 + 1) g w
set_option maxRecDepth 20000 in
set_option maxHeartbeats 2000000 in
theorem e_X7_rests_96 {d : Nat} {Ψ : Option AV → DS → Prop} {i0 : Nat} {p1 : Int32} {p2 : Int64} {rec27 : Int32 → Int32 → Bool → Int32 → (Nat → Nat → Nat → Int32) → (Nat → Nat → Nat → Int64) → Option (Bool)} {r : Bool} {g : Nat → Nat → Nat → Int32} {w : Nat → Nat → Nat → Int64} {t0 : Bool} {v4 : Int32} {v5 : Int32} {v7 : Int32} {x0 : Option AV} {x1 : Option AV} {x3 : Option AV} {x6 : Option AV} {x8 : Option AV} {x9 : Option AV} (hr27 : ∀ {v4 : Int32} {v5 : Int32} {v6 : Bool} {v7 : Int32} {x0 : Option AV} {x1 : Option AV} {x3 : Option AV} {x8 : Option AV} {x9 : Option AV} , rec27 v4 v5 v6 v7 g w = some r → Ev (EvM mth (d + 1)) mth c00 sc0 (retP (some .boolean) c00 Ψ) (lkp es_141) 27 [x0, x1, some (aL p2), x3, some (aI v4), some (aI v5), some (aI (bI v6)), some (aI v7), x8, x9] [] (L0, g, w, q0)) (hΨ : Ψ (some (aI (bI r))) (L0, g, w, q0)) (h : s_X7_rests_96 i0 p1 p2 rec27 t0 v4 v5 v7 g w = some r) : Ev (EvM mth (d + 1)) mth c00 sc0 (retP (some .boolean) c00 Ψ) (lkp es_141) 96 [x0, x1, some (aL p2), x3, some (aI v4), some (aI v5), x6, some (aI v7), x8, x9] [aI (bI t0)] (L0, g, w, q0) := by
  unfold s_X7_rests_96 at h
  refine ev_istore (pc' := 98) rfl rfl (l' := [x0, x1, some (aL p2), x3, some (aI v4), some (aI v5), some (aI (bI t0)), some (aI v7), x8, x9]) rfl ?_
  refine ev_iinc (pc' := 101) rfl rfl (l' := [x0, x1, some (aL p2), x3, some (aI v4), some (aI v5), some (aI (bI t0)), some (aI (v7 + 1)), x8, x9]) rfl (ii_1 _) rfl ?_
  refine ev_goto (pc' := 27) rfl ?_
  exact hr27 h
def s_X7_rests_95 (i0 : Nat) (p1 : Int32) (p2 : Int64) (rec27 : Int32 → Int32 → Bool → Int32 → (Nat → Nat → Nat → Int32) → (Nat → Nat → Nat → Int64) → Option (Bool)) (v4 : Int32) (v5 : Int32) (v7 : Int32) (g : Nat → Nat → Nat → Int32) (w : Nat → Nat → Nat → Int64) : Option (Bool) :=
  s_X7_rests_96 i0 p1 p2 rec27 false v4 v5 v7 g w
set_option maxRecDepth 20000 in
set_option maxHeartbeats 2000000 in
theorem e_X7_rests_95 {d : Nat} {Ψ : Option AV → DS → Prop} {i0 : Nat} {p1 : Int32} {p2 : Int64} {rec27 : Int32 → Int32 → Bool → Int32 → (Nat → Nat → Nat → Int32) → (Nat → Nat → Nat → Int64) → Option (Bool)} {r : Bool} {g : Nat → Nat → Nat → Int32} {w : Nat → Nat → Nat → Int64} {v4 : Int32} {v5 : Int32} {v7 : Int32} {x0 : Option AV} {x1 : Option AV} {x3 : Option AV} {x6 : Option AV} {x8 : Option AV} {x9 : Option AV} (hr27 : ∀ {v4 : Int32} {v5 : Int32} {v6 : Bool} {v7 : Int32} {x0 : Option AV} {x1 : Option AV} {x3 : Option AV} {x8 : Option AV} {x9 : Option AV} , rec27 v4 v5 v6 v7 g w = some r → Ev (EvM mth (d + 1)) mth c00 sc0 (retP (some .boolean) c00 Ψ) (lkp es_141) 27 [x0, x1, some (aL p2), x3, some (aI v4), some (aI v5), some (aI (bI v6)), some (aI v7), x8, x9] [] (L0, g, w, q0)) (hΨ : Ψ (some (aI (bI r))) (L0, g, w, q0)) (h : s_X7_rests_95 i0 p1 p2 rec27 v4 v5 v7 g w = some r) : Ev (EvM mth (d + 1)) mth c00 sc0 (retP (some .boolean) c00 Ψ) (lkp es_141) 95 [x0, x1, some (aL p2), x3, some (aI v4), some (aI v5), x6, some (aI v7), x8, x9] [] (L0, g, w, q0) := by
  unfold s_X7_rests_95 at h
  refine ev_iconst (pc' := 96) rfl rfl (v := (0 : Int32)) (by decide) ?_
  exact e_X7_rests_96 (hr27 := hr27) hΨ h
def s_X7_rests_70 (i0 : Nat) (p1 : Int32) (p2 : Int64) (rec44 : Int32 → Int32 → Bool → Int32 → Int32 → Int32 → (Nat → Nat → Nat → Int32) → (Nat → Nat → Nat → Int64) → Option (Bool)) (t0 : Int32) (t1 : Bool) (v4 : Int32) (v5 : Int32) (v6 : Bool) (v7 : Int32) (v9 : Int32) (g : Nat → Nat → Nat → Int32) (w : Nat → Nat → Nat → Int64) : Option (Bool) :=
  rec44 v4 v5 v6 v7 (t0 + (bI t1)) (v9 + 1) g w
set_option maxRecDepth 20000 in
set_option maxHeartbeats 2000000 in
theorem e_X7_rests_70 {d : Nat} {Ψ : Option AV → DS → Prop} {i0 : Nat} {p1 : Int32} {p2 : Int64} {rec44 : Int32 → Int32 → Bool → Int32 → Int32 → Int32 → (Nat → Nat → Nat → Int32) → (Nat → Nat → Nat → Int64) → Option (Bool)} {r : Bool} {g : Nat → Nat → Nat → Int32} {w : Nat → Nat → Nat → Int64} {t0 : Int32} {t1 : Bool} {v4 : Int32} {v5 : Int32} {v6 : Bool} {v7 : Int32} {v9 : Int32} {x0 : Option AV} {x1 : Option AV} {x3 : Option AV} {x8 : Option AV} (hr44 : ∀ {v4 : Int32} {v5 : Int32} {v6 : Bool} {v7 : Int32} {v8 : Int32} {v9 : Int32} {x0 : Option AV} {x1 : Option AV} {x3 : Option AV} , rec44 v4 v5 v6 v7 v8 v9 g w = some r → Ev (EvM mth (d + 1)) mth c00 sc0 (retP (some .boolean) c00 Ψ) (lkp es_141) 44 [x0, x1, some (aL p2), x3, some (aI v4), some (aI v5), some (aI (bI v6)), some (aI v7), some (aI v8), some (aI v9)] [] (L0, g, w, q0)) (hΨ : Ψ (some (aI (bI r))) (L0, g, w, q0)) (h : s_X7_rests_70 i0 p1 p2 rec44 t0 t1 v4 v5 v6 v7 v9 g w = some r) : Ev (EvM mth (d + 1)) mth c00 sc0 (retP (some .boolean) c00 Ψ) (lkp es_141) 70 [x0, x1, some (aL p2), x3, some (aI v4), some (aI v5), some (aI (bI v6)), some (aI v7), x8, some (aI v9)] [aI (bI t1), aI t0] (L0, g, w, q0) := by
  unfold s_X7_rests_70 at h
  refine ev_iadd (pc' := 71) rfl rfl ?_
  refine ev_istore (pc' := 73) rfl rfl (l' := [x0, x1, some (aL p2), x3, some (aI v4), some (aI v5), some (aI (bI v6)), some (aI v7), some (aI (t0 + (bI t1))), some (aI v9)]) rfl ?_
  refine ev_iinc (pc' := 76) rfl rfl (l' := [x0, x1, some (aL p2), x3, some (aI v4), some (aI v5), some (aI (bI v6)), some (aI v7), some (aI (t0 + (bI t1))), some (aI (v9 + 1))]) rfl (ii_1 _) rfl ?_
  refine ev_goto (pc' := 44) rfl ?_
  exact hr44 h
def s_X7_rests_44 (i0 : Nat) (p1 : Int32) (p2 : Int64) (rec27 : Int32 → Int32 → Bool → Int32 → (Nat → Nat → Nat → Int32) → (Nat → Nat → Nat → Int64) → Option (Bool)) (rec44 : Int32 → Int32 → Bool → Int32 → Int32 → Int32 → (Nat → Nat → Nat → Int32) → (Nat → Nat → Nat → Int64) → Option (Bool)) (v4 : Int32) (v5 : Int32) (v6 : Bool) (v7 : Int32) (v8 : Int32) (v9 : Int32) (g : Nat → Nat → Nat → Int32) (w : Nat → Nat → Nat → Int64) : Option (Bool) :=
  if (v7 + v5) ≤ v9 then
    if v6 = true then
      if v4 < v8 then
        s_X7_rests_95 i0 p1 p2 rec27 v4 v5 v7 g w
      else
        s_X7_rests_96 i0 p1 p2 rec27 true v4 v5 v7 g w
    else
      s_X7_rests_95 i0 p1 p2 rec27 v4 v5 v7 g w
  else
    if (s_X7_has p2 v9 g w) = true then
      s_X7_rests_70 i0 p1 p2 rec44 v8 true v4 v5 v6 v7 v9 g w
    else
      s_X7_rests_70 i0 p1 p2 rec44 v8 false v4 v5 v6 v7 v9 g w
set_option maxRecDepth 20000 in
set_option maxHeartbeats 2000000 in
theorem e_X7_rests_44 {d : Nat} {Ψ : Option AV → DS → Prop} {i0 : Nat} {p1 : Int32} {p2 : Int64} {rec27 : Int32 → Int32 → Bool → Int32 → (Nat → Nat → Nat → Int32) → (Nat → Nat → Nat → Int64) → Option (Bool)} {rec44 : Int32 → Int32 → Bool → Int32 → Int32 → Int32 → (Nat → Nat → Nat → Int32) → (Nat → Nat → Nat → Int64) → Option (Bool)} {r : Bool} {g : Nat → Nat → Nat → Int32} {w : Nat → Nat → Nat → Int64} {v4 : Int32} {v5 : Int32} {v6 : Bool} {v7 : Int32} {v8 : Int32} {v9 : Int32} {x0 : Option AV} {x1 : Option AV} {x3 : Option AV} (hr27 : ∀ {v4 : Int32} {v5 : Int32} {v6 : Bool} {v7 : Int32} {x0 : Option AV} {x1 : Option AV} {x3 : Option AV} {x8 : Option AV} {x9 : Option AV} , rec27 v4 v5 v6 v7 g w = some r → Ev (EvM mth (d + 1)) mth c00 sc0 (retP (some .boolean) c00 Ψ) (lkp es_141) 27 [x0, x1, some (aL p2), x3, some (aI v4), some (aI v5), some (aI (bI v6)), some (aI v7), x8, x9] [] (L0, g, w, q0)) (hr44 : ∀ {v4 : Int32} {v5 : Int32} {v6 : Bool} {v7 : Int32} {v8 : Int32} {v9 : Int32} {x0 : Option AV} {x1 : Option AV} {x3 : Option AV} , rec44 v4 v5 v6 v7 v8 v9 g w = some r → Ev (EvM mth (d + 1)) mth c00 sc0 (retP (some .boolean) c00 Ψ) (lkp es_141) 44 [x0, x1, some (aL p2), x3, some (aI v4), some (aI v5), some (aI (bI v6)), some (aI v7), some (aI v8), some (aI v9)] [] (L0, g, w, q0)) (hΨ : Ψ (some (aI (bI r))) (L0, g, w, q0)) (h : s_X7_rests_44 i0 p1 p2 rec27 rec44 v4 v5 v6 v7 v8 v9 g w = some r) : Ev (EvM mth (d + 1)) mth c00 sc0 (retP (some .boolean) c00 Ψ) (lkp es_141) 44 [x0, x1, some (aL p2), x3, some (aI v4), some (aI v5), some (aI (bI v6)), some (aI v7), some (aI v8), some (aI v9)] [] (L0, g, w, q0) := by
  unfold s_X7_rests_44 at h
  refine ev_iload (pc' := 46) rfl rfl rfl ?_
  refine ev_iload (pc' := 48) rfl rfl rfl ?_
  refine ev_iload (pc' := 50) rfl rfl rfl ?_
  refine ev_iadd (pc' := 51) rfl rfl ?_
  refine ev_icmp_ge rfl (pc' := 54) rfl (fun hc => ?_) (fun hc => ?_)
  · have h := (if_pos hc).symm.trans h
    refine ev_iload (pc' := 81) rfl rfl rfl ?_
    refine ev_ifB_eq rfl (pc' := 84) rfl (fun hc => ?_) (fun hc => ?_)
    · have h := (if_neg hc).symm.trans h
      exact e_X7_rests_95 (hr27 := hr27) hΨ h
    · have h := (if_pos hc).symm.trans h
      refine ev_iload (pc' := 86) rfl rfl rfl ?_
      refine ev_iload (pc' := 88) rfl rfl rfl ?_
      refine ev_icmp_gt rfl (pc' := 91) rfl (fun hc => ?_) (fun hc => ?_)
      · have h := (if_pos hc).symm.trans h
        exact e_X7_rests_95 (hr27 := hr27) hΨ h
      · have h := (if_neg hc).symm.trans h
        refine ev_iconst (pc' := 92) rfl rfl (v := (1 : Int32)) (by decide) ?_
        refine ev_goto (pc' := 96) rfl ?_
        exact e_X7_rests_96 (hr27 := hr27) hΨ h
  · have h := (if_neg hc).symm.trans h
    refine ev_iload (pc' := 56) rfl rfl rfl ?_
    refine ev_lload_n (pc' := 57) rfl rfl rfl ?_
    refine ev_iload (pc' := 59) rfl rfl rfl ?_
    refine ev_S2I (pc' := 62) rfl (by decide) rfl mth_133 ⟨Nat.le_of_ble_eq_true rfl, rfl⟩ ⟨Nat.le_refl _, Nat.le_refl _⟩ d_X7_has ?_
    refine ev_ifB_eq rfl (pc' := 65) rfl (fun hc => ?_) (fun hc => ?_)
    · have h := (if_neg hc).symm.trans h
      refine ev_iconst (pc' := 70) rfl rfl (v := (0 : Int32)) (by decide) ?_
      exact e_X7_rests_70 (hr44 := hr44) hΨ h
    · have h := (if_pos hc).symm.trans h
      refine ev_iconst (pc' := 66) rfl rfl (v := (1 : Int32)) (by decide) ?_
      refine ev_goto (pc' := 70) rfl ?_
      exact e_X7_rests_70 (hr44 := hr44) hΨ h
def s_X7_rests_R44 (i0 : Nat) (p1 : Int32) (p2 : Int64) (rec27 : Int32 → Int32 → Bool → Int32 → (Nat → Nat → Nat → Int32) → (Nat → Nat → Nat → Int64) → Option (Bool)) : Nat → Int32 → Int32 → Bool → Int32 → Int32 → Int32 → (Nat → Nat → Nat → Int32) → (Nat → Nat → Nat → Int64) → Option (Bool)
  | 0 => fun _ _ _ _ _ _ _ _ => none
  | n + 1 => s_X7_rests_44 i0 p1 p2 rec27 (s_X7_rests_R44 i0 p1 p2 rec27 n)
theorem e_X7_rests_R44 {d : Nat} {Ψ : Option AV → DS → Prop} {i0 : Nat} {p1 : Int32} {p2 : Int64} {rec27 : Int32 → Int32 → Bool → Int32 → (Nat → Nat → Nat → Int32) → (Nat → Nat → Nat → Int64) → Option (Bool)} {r : Bool} {g : Nat → Nat → Nat → Int32} {w : Nat → Nat → Nat → Int64} (hr27 : ∀ {v4 : Int32} {v5 : Int32} {v6 : Bool} {v7 : Int32} {x0 : Option AV} {x1 : Option AV} {x3 : Option AV} {x8 : Option AV} {x9 : Option AV} , rec27 v4 v5 v6 v7 g w = some r → Ev (EvM mth (d + 1)) mth c00 sc0 (retP (some .boolean) c00 Ψ) (lkp es_141) 27 [x0, x1, some (aL p2), x3, some (aI v4), some (aI v5), some (aI (bI v6)), some (aI v7), x8, x9] [] (L0, g, w, q0)) (hΨ : Ψ (some (aI (bI r))) (L0, g, w, q0)) : ∀ (n : Nat) {v4 : Int32} {v5 : Int32} {v6 : Bool} {v7 : Int32} {v8 : Int32} {v9 : Int32} {x0 : Option AV} {x1 : Option AV} {x3 : Option AV}, s_X7_rests_R44 i0 p1 p2 rec27 n v4 v5 v6 v7 v8 v9 g w = some r → Ev (EvM mth (d + 1)) mth c00 sc0 (retP (some .boolean) c00 Ψ) (lkp es_141) 44 [x0, x1, some (aL p2), x3, some (aI v4), some (aI v5), some (aI (bI v6)), some (aI v7), some (aI v8), some (aI v9)] [] (L0, g, w, q0) := by
  intro n
  induction n with
  | zero => intros; rename_i h; exact absurd h (by intro h9; cases h9)
  | succ n ih => intros; rename_i h; exact e_X7_rests_44 (hr27 := hr27) (hr44 := ih) hΨ h
def s_X7_rests_27 (i0 : Nat) (p1 : Int32) (p2 : Int64) (rec27 : Int32 → Int32 → Bool → Int32 → (Nat → Nat → Nat → Int32) → (Nat → Nat → Nat → Int64) → Option (Bool)) (v4 : Int32) (v5 : Int32) (v6 : Bool) (v7 : Int32) (g : Nat → Nat → Nat → Int32) (w : Nat → Nat → Nat → Int64) : Option (Bool) :=
  if (48 : Int32) < (v7 + v5) then
    some (v6)
  else
    s_X7_rests_R44 i0 p1 p2 rec27 FU v4 v5 v6 v7 (0 : Int32) v7 g w
set_option maxRecDepth 20000 in
set_option maxHeartbeats 2000000 in
theorem e_X7_rests_27 {d : Nat} {Ψ : Option AV → DS → Prop} {i0 : Nat} {p1 : Int32} {p2 : Int64} {rec27 : Int32 → Int32 → Bool → Int32 → (Nat → Nat → Nat → Int32) → (Nat → Nat → Nat → Int64) → Option (Bool)} {r : Bool} {g : Nat → Nat → Nat → Int32} {w : Nat → Nat → Nat → Int64} {v4 : Int32} {v5 : Int32} {v6 : Bool} {v7 : Int32} {x0 : Option AV} {x1 : Option AV} {x3 : Option AV} {x8 : Option AV} {x9 : Option AV} (hr27 : ∀ {v4 : Int32} {v5 : Int32} {v6 : Bool} {v7 : Int32} {x0 : Option AV} {x1 : Option AV} {x3 : Option AV} {x8 : Option AV} {x9 : Option AV} , rec27 v4 v5 v6 v7 g w = some r → Ev (EvM mth (d + 1)) mth c00 sc0 (retP (some .boolean) c00 Ψ) (lkp es_141) 27 [x0, x1, some (aL p2), x3, some (aI v4), some (aI v5), some (aI (bI v6)), some (aI v7), x8, x9] [] (L0, g, w, q0)) (hΨ : Ψ (some (aI (bI r))) (L0, g, w, q0)) (h : s_X7_rests_27 i0 p1 p2 rec27 v4 v5 v6 v7 g w = some r) : Ev (EvM mth (d + 1)) mth c00 sc0 (retP (some .boolean) c00 Ψ) (lkp es_141) 27 [x0, x1, some (aL p2), x3, some (aI v4), some (aI v5), some (aI (bI v6)), some (aI v7), x8, x9] [] (L0, g, w, q0) := by
  unfold s_X7_rests_27 at h
  refine ev_iload (pc' := 29) rfl rfl rfl ?_
  refine ev_iload (pc' := 31) rfl rfl rfl ?_
  refine ev_iadd (pc' := 32) rfl rfl ?_
  refine ev_bipush (pc' := 34) rfl rfl (v := (48 : Int32)) (by decide) ?_
  refine ev_icmp_gt rfl (pc' := 37) rfl (fun hc => ?_) (fun hc => ?_)
  · have h := (if_pos hc).symm.trans h
    refine ev_iload (pc' := 106) rfl rfl rfl ?_
    obtain rfl := Option.some.inj h
    exact ev_ireturn rfl ⟨⟨_, rfl, nar_bI _⟩, rfl, rfl, hΨ⟩
  · have h := (if_neg hc).symm.trans h
    refine ev_iconst (pc' := 38) rfl rfl (v := (0 : Int32)) (by decide) ?_
    refine ev_istore (pc' := 40) rfl rfl (l' := [x0, x1, some (aL p2), x3, some (aI v4), some (aI v5), some (aI (bI v6)), some (aI v7), some (aI (0 : Int32)), x9]) rfl ?_
    refine ev_iload (pc' := 42) rfl rfl rfl ?_
    refine ev_istore (pc' := 44) rfl rfl (l' := [x0, x1, some (aL p2), x3, some (aI v4), some (aI v5), some (aI (bI v6)), some (aI v7), some (aI (0 : Int32)), some (aI v7)]) rfl ?_
    exact e_X7_rests_R44 (hr27 := hr27) hΨ FU h
def s_X7_rests_R27 (i0 : Nat) (p1 : Int32) (p2 : Int64) : Nat → Int32 → Int32 → Bool → Int32 → (Nat → Nat → Nat → Int32) → (Nat → Nat → Nat → Int64) → Option (Bool)
  | 0 => fun _ _ _ _ _ _ => none
  | n + 1 => s_X7_rests_27 i0 p1 p2 (s_X7_rests_R27 i0 p1 p2 n)
theorem e_X7_rests_R27 {d : Nat} {Ψ : Option AV → DS → Prop} {i0 : Nat} {p1 : Int32} {p2 : Int64} {r : Bool} {g : Nat → Nat → Nat → Int32} {w : Nat → Nat → Nat → Int64} (hΨ : Ψ (some (aI (bI r))) (L0, g, w, q0)) : ∀ (n : Nat) {v4 : Int32} {v5 : Int32} {v6 : Bool} {v7 : Int32} {x0 : Option AV} {x1 : Option AV} {x3 : Option AV} {x8 : Option AV} {x9 : Option AV}, s_X7_rests_R27 i0 p1 p2 n v4 v5 v6 v7 g w = some r → Ev (EvM mth (d + 1)) mth c00 sc0 (retP (some .boolean) c00 Ψ) (lkp es_141) 27 [x0, x1, some (aL p2), x3, some (aI v4), some (aI v5), some (aI (bI v6)), some (aI v7), x8, x9] [] (L0, g, w, q0) := by
  intro n
  induction n with
  | zero => intros; rename_i h; exact absurd h (by intro h9; cases h9)
  | succ n ih => intros; rename_i h; exact e_X7_rests_27 (hr27 := ih) hΨ h
def s_X7_rests (i0 : Nat) (p1 : Int32) (p2 : Int64) (g : Nat → Nat → Nat → Int32) (w : Nat → Nat → Nat → Int64) : Option (Bool) :=
  (s_X7_ofTug i0 p1 (5 : Int32) g w).bind fun q1 =>
  s_X7_rests_R27 i0 p1 p2 FU q1 (q1 + (w 2218 0 (60 : Int32).toNatClampNeg).toInt32) true (0 : Int32) g w
set_option maxRecDepth 20000 in
set_option maxHeartbeats 2000000 in
theorem d_X7_rests {d : Nat} {i0 : Nat} {p1 : Int32} {p2 : Int64} {g : Nat → Nat → Nat → Int32} {w : Nat → Nat → Nat → Int64} {r : Bool} (h : s_X7_rests i0 p1 p2 g w = some r) : Does (EvM mth (d + 2)) 141 [aR 7 i0, aI p1, aL p2] (L0, g, w, q0) (some (aI (bI r))) (L0, g, w, q0) := by
  intro Ψ hΨ
  refine ⟨in_141, mth_141, Nat.le_of_ble_eq_true rfl, ?_⟩
  show Ev (EvM mth (d + 1)) mth c00 sc0 (retP (some .boolean) c00 Ψ) (lkp es_141) 0 [some (aR 7 i0), some (aI p1), some (aL p2), none, none, none, none, none, none, none] [] (L0, g, w, q0)
  unfold s_X7_rests at h
  refine ev_aload_n (pc' := 1) rfl rfl rfl ?_
  refine ev_iload_n (pc' := 2) rfl rfl rfl ?_
  refine ev_iconst (pc' := 3) rfl rfl (v := (5 : Int32)) (by decide) ?_
  obtain ⟨q1, hq1, h⟩ := Option.bind_eq_some_iff.mp h
  refine ev_V3I (pc' := 6) rfl (by decide) rfl mth_117 ⟨Nat.le_of_ble_eq_true rfl, rfl⟩ ⟨Nat.le_refl _, Nat.le_refl _⟩ (d_X7_ofTug hq1) ?_
  refine ev_istore (pc' := 8) rfl rfl (l' := [some (aR 7 i0), some (aI p1), some (aL p2), none, some (aI q1), none, none, none, none, none]) rfl ?_
  refine ev_iload (pc' := 10) rfl rfl rfl ?_
  refine ev_aload_n (pc' := 11) rfl rfl rfl ?_
  refine ev_getQ (pc' := 14) rfl rfl rfl ?_
  refine ev_bipush (pc' := 16) rfl rfl (v := (60 : Int32)) (by decide) ?_
  refine ev_lald (pc' := 17) rfl rfl rfl (inR_vp (by decide)) ?_
  refine ev_l2i (pc' := 18) rfl rfl ?_
  refine ev_iadd (pc' := 19) rfl rfl ?_
  refine ev_istore (pc' := 21) rfl rfl (l' := [some (aR 7 i0), some (aI p1), some (aL p2), none, some (aI q1), some (aI (q1 + (w 2218 0 (60 : Int32).toNatClampNeg).toInt32)), none, none, none, none]) rfl ?_
  refine ev_iconst (pc' := 22) rfl rfl (v := (1 : Int32)) (by decide) ?_
  refine ev_istore (pc' := 24) rfl rfl (l' := [some (aR 7 i0), some (aI p1), some (aL p2), none, some (aI q1), some (aI (q1 + (w 2218 0 (60 : Int32).toNatClampNeg).toInt32)), some (aI (1 : Int32)), none, none, none]) rfl ?_
  refine ev_iconst (pc' := 25) rfl rfl (v := (0 : Int32)) (by decide) ?_
  refine ev_istore (pc' := 27) rfl rfl (l' := [some (aR 7 i0), some (aI p1), some (aL p2), none, some (aI q1), some (aI (q1 + (w 2218 0 (60 : Int32).toNatClampNeg).toInt32)), some (aI (1 : Int32)), some (aI (0 : Int32)), none, none]) rfl ?_
  exact e_X7_rests_R27 hΨ FU h
def s_X7_last (i0 : Nat) (p1 : Int32) (g : Nat → Nat → Nat → Int32) (w : Nat → Nat → Nat → Int64) : Option (Int32) :=
  (s_X7_ofShip i0 p1 (7 : Int32) g w).bind fun q1 =>
  (s_X7_ofShip i0 p1 (3 : Int32) g w).bind fun q2 =>
  some (((q1 + q2) - (1 : Int32)))
set_option maxRecDepth 20000 in
set_option maxHeartbeats 2000000 in
theorem d_X7_last {d : Nat} {i0 : Nat} {p1 : Int32} {g : Nat → Nat → Nat → Int32} {w : Nat → Nat → Nat → Int64} {r : Int32} (h : s_X7_last i0 p1 g w = some r) : Does (EvM mth (d + 2)) 142 [aR 7 i0, aI p1] (L0, g, w, q0) (some (aI r)) (L0, g, w, q0) := by
  intro Ψ hΨ
  refine ⟨in_142, mth_142, Nat.le_of_ble_eq_true rfl, ?_⟩
  show Ev (EvM mth (d + 1)) mth c00 sc0 (retP (some .int) c00 Ψ) (lkp es_142) 0 [some (aR 7 i0), some (aI p1)] [] (L0, g, w, q0)
  unfold s_X7_last at h
  refine ev_aload_n (pc' := 1) rfl rfl rfl ?_
  refine ev_iload_n (pc' := 2) rfl rfl rfl ?_
  refine ev_bipush (pc' := 4) rfl rfl (v := (7 : Int32)) (by decide) ?_
  obtain ⟨q1, hq1, h⟩ := Option.bind_eq_some_iff.mp h
  refine ev_V3I (pc' := 7) rfl (by decide) rfl mth_118 ⟨Nat.le_of_ble_eq_true rfl, rfl⟩ ⟨Nat.le_refl _, Nat.le_refl _⟩ (d_X7_ofShip hq1) ?_
  refine ev_aload_n (pc' := 8) rfl rfl rfl ?_
  refine ev_iload_n (pc' := 9) rfl rfl rfl ?_
  refine ev_iconst (pc' := 10) rfl rfl (v := (3 : Int32)) (by decide) ?_
  obtain ⟨q2, hq2, h⟩ := Option.bind_eq_some_iff.mp h
  refine ev_V3I (pc' := 13) rfl (by decide) rfl mth_118 ⟨Nat.le_of_ble_eq_true rfl, rfl⟩ ⟨Nat.le_refl _, Nat.le_refl _⟩ (d_X7_ofShip hq2) ?_
  refine ev_iadd (pc' := 14) rfl rfl ?_
  refine ev_iconst (pc' := 15) rfl rfl (v := (1 : Int32)) (by decide) ?_
  refine ev_isub (pc' := 16) rfl rfl ?_
  obtain rfl := Option.some.inj h
  exact ev_ireturn rfl ⟨⟨_, rfl, rfl⟩, rfl, rfl, hΨ⟩
def s_X7_isSet (i0 : Nat) (p1 : Int32) (g : Nat → Nat → Nat → Int32) (w : Nat → Nat → Nat → Int64) : Bool :=
  (s_X7_in p1.toInt64 (1 : Int64) (((1 : Int64) <<< ((w 2218 0 (64 : Int32).toNatClampNeg).toInt32.toInt64 &&& 63)) - (1 : Int64)) g w)
set_option maxRecDepth 20000 in
set_option maxHeartbeats 2000000 in
theorem d_X7_isSet {d : Nat} {i0 : Nat} {p1 : Int32} {g : Nat → Nat → Nat → Int32} {w : Nat → Nat → Nat → Int64} : Does (EvM mth (d + 2)) 151 [aR 7 i0, aI p1] (L0, g, w, q0) (some (aI (bI (s_X7_isSet i0 p1 g w)))) (L0, g, w, q0) := by
  intro Ψ hΨ
  obtain ⟨r, h⟩ : ∃ r, s_X7_isSet i0 p1 g w = r := ⟨_, rfl⟩
  rw [h] at hΨ
  refine ⟨in_151, mth_151, Nat.le_of_ble_eq_true rfl, ?_⟩
  show Ev (EvM mth (d + 1)) mth c00 sc0 (retP (some .boolean) c00 Ψ) (lkp es_151) 0 [some (aR 7 i0), some (aI p1)] [] (L0, g, w, q0)
  unfold s_X7_isSet at h
  refine ev_iload_n (pc' := 1) rfl rfl rfl ?_
  refine ev_i2l (pc' := 2) rfl rfl ?_
  refine ev_lconst (pc' := 3) rfl rfl (v := (1 : Int64)) (by decide) ?_
  refine ev_lconst (pc' := 4) rfl rfl (v := (1 : Int64)) (by decide) ?_
  refine ev_aload_n (pc' := 5) rfl rfl rfl ?_
  refine ev_getQ (pc' := 8) rfl rfl rfl ?_
  refine ev_bipush (pc' := 10) rfl rfl (v := (64 : Int32)) (by decide) ?_
  refine ev_lald (pc' := 11) rfl rfl rfl (inR_vp (by decide)) ?_
  refine ev_l2i (pc' := 12) rfl rfl ?_
  refine ev_lshl (pc' := 13) rfl rfl ?_
  refine ev_lconst (pc' := 14) rfl rfl (v := (1 : Int64)) (by decide) ?_
  refine ev_lsub (pc' := 15) rfl rfl ?_
  refine ev_S3I (pc' := 18) rfl (by decide) rfl mth_115 ⟨Nat.le_of_ble_eq_true rfl, rfl⟩ ⟨Nat.le_refl _, Nat.le_refl _⟩ d_X7_in ?_
  subst h
  exact ev_ireturn rfl ⟨⟨_, rfl, nar_bI _⟩, rfl, rfl, hΨ⟩
