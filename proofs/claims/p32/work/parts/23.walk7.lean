def s_X3_priceOf_87 (i0 : Nat) (p1 : Nat) (p2 : Nat) (v3 : Int64) (g : Nat → Nat → Nat → Int32) (w : Nat → Nat → Nat → Int64) : Option (Int64) :=
  some (v3)
set_option maxRecDepth 20000 in
set_option maxHeartbeats 2000000 in
theorem e_X3_priceOf_87 {d : Nat} {Ψ : Option AV → DS → Prop} {i0 : Nat} {p1 : Nat} {p2 : Nat} {r : Int64} {g : Nat → Nat → Nat → Int32} {w : Nat → Nat → Nat → Int64} {v3 : Int64} {x0 : Option AV} {x1 : Option AV} {x2 : Option AV} {x4 : Option AV} {x5 : Option AV} (hΨ : Ψ (some (aL r)) (L0, g, w, q0)) (h : s_X3_priceOf_87 i0 p1 p2 v3 g w = some r) : Ev (EvM mth (d + 3)) mth c00 sc0 (retP (some .long) c00 Ψ) (lkp es_50) 87 [x0, x1, x2, some (aL v3), x4, x5] [] (L0, g, w, q0) := by
  unfold s_X3_priceOf_87 at h
  refine ev_lload_n (pc' := 88) rfl rfl rfl ?_
  obtain rfl := Option.some.inj h
  exact ev_lreturn rfl ⟨⟨_, rfl⟩, rfl, rfl, hΨ⟩
def s_X3_priceOf_81 (i0 : Nat) (p1 : Nat) (p2 : Nat) (rec5 : Int64 → Int32 → (Nat → Nat → Nat → Int32) → (Nat → Nat → Nat → Int64) → Option (Int64)) (v3 : Int64) (v5 : Int32) (g : Nat → Nat → Nat → Int32) (w : Nat → Nat → Nat → Int64) : Option (Int64) :=
  rec5 v3 (v5 + 1) g w
set_option maxRecDepth 20000 in
set_option maxHeartbeats 2000000 in
theorem e_X3_priceOf_81 {d : Nat} {Ψ : Option AV → DS → Prop} {i0 : Nat} {p1 : Nat} {p2 : Nat} {rec5 : Int64 → Int32 → (Nat → Nat → Nat → Int32) → (Nat → Nat → Nat → Int64) → Option (Int64)} {r : Int64} {g : Nat → Nat → Nat → Int32} {w : Nat → Nat → Nat → Int64} {v3 : Int64} {v5 : Int32} {x4 : Option AV} (hr5 : ∀ {v3 : Int64} {v5 : Int32} {x4 : Option AV} , rec5 v3 v5 g w = some r → Ev (EvM mth (d + 3)) mth c00 sc0 (retP (some .long) c00 Ψ) (lkp es_50) 5 [some (aR 3 i0), some (aR 1 p1), some (aR 4 p2), some (aL v3), x4, some (aI v5)] [] (L0, g, w, q0)) (hΨ : Ψ (some (aL r)) (L0, g, w, q0)) (h : s_X3_priceOf_81 i0 p1 p2 rec5 v3 v5 g w = some r) : Ev (EvM mth (d + 3)) mth c00 sc0 (retP (some .long) c00 Ψ) (lkp es_50) 81 [some (aR 3 i0), some (aR 1 p1), some (aR 4 p2), some (aL v3), x4, some (aI v5)] [] (L0, g, w, q0) := by
  unfold s_X3_priceOf_81 at h
  refine ev_iinc (pc' := 84) rfl rfl (l' := [some (aR 3 i0), some (aR 1 p1), some (aR 4 p2), some (aL v3), (klO x4), some (aI (v5 + 1))]) rfl (ii_1 _) rfl ?_
  refine ev_goto (pc' := 5) rfl ?_
  exact hr5 h
def s_X3_priceOf_79 (i0 : Nat) (p1 : Nat) (p2 : Nat) (rec5 : Int64 → Int32 → (Nat → Nat → Nat → Int32) → (Nat → Nat → Nat → Int64) → Option (Int64)) (t0 : Int64) (t1 : Int64) (v5 : Int32) (g : Nat → Nat → Nat → Int32) (w : Nat → Nat → Nat → Int64) : Option (Int64) :=
  s_X3_priceOf_81 i0 p1 p2 rec5 (t0 + t1) v5 g w
set_option maxRecDepth 20000 in
set_option maxHeartbeats 2000000 in
theorem e_X3_priceOf_79 {d : Nat} {Ψ : Option AV → DS → Prop} {i0 : Nat} {p1 : Nat} {p2 : Nat} {rec5 : Int64 → Int32 → (Nat → Nat → Nat → Int32) → (Nat → Nat → Nat → Int64) → Option (Int64)} {r : Int64} {g : Nat → Nat → Nat → Int32} {w : Nat → Nat → Nat → Int64} {t0 : Int64} {t1 : Int64} {v5 : Int32} {x3 : Option AV} {x4 : Option AV} (hr5 : ∀ {v3 : Int64} {v5 : Int32} {x4 : Option AV} , rec5 v3 v5 g w = some r → Ev (EvM mth (d + 3)) mth c00 sc0 (retP (some .long) c00 Ψ) (lkp es_50) 5 [some (aR 3 i0), some (aR 1 p1), some (aR 4 p2), some (aL v3), x4, some (aI v5)] [] (L0, g, w, q0)) (hΨ : Ψ (some (aL r)) (L0, g, w, q0)) (h : s_X3_priceOf_79 i0 p1 p2 rec5 t0 t1 v5 g w = some r) : Ev (EvM mth (d + 3)) mth c00 sc0 (retP (some .long) c00 Ψ) (lkp es_50) 79 [some (aR 3 i0), some (aR 1 p1), some (aR 4 p2), x3, x4, some (aI v5)] [aL t1, aL t0] (L0, g, w, q0) := by
  unfold s_X3_priceOf_79 at h
  refine ev_ladd (pc' := 80) rfl rfl ?_
  refine ev_lstore_n (pc' := 81) rfl rfl (l' := [some (aR 3 i0), some (aR 1 p1), some (aR 4 p2), some (aL (t0 + t1)), none, some (aI v5)]) rfl ?_
  exact e_X3_priceOf_81 (hr5 := hr5) hΨ h
def s_X3_priceOf_5 (i0 : Nat) (p1 : Nat) (p2 : Nat) (rec5 : Int64 → Int32 → (Nat → Nat → Nat → Int32) → (Nat → Nat → Nat → Int64) → Option (Int64)) (v3 : Int64) (v5 : Int32) (g : Nat → Nat → Nat → Int32) (w : Nat → Nat → Nat → Int64) : Option (Int64) :=
  if (g 3 i0 4) ≤ v5 then
    s_X3_priceOf_87 i0 p1 p2 v3 g w
  else
    if (12 : Int32) ≤ v5 then
      s_X3_priceOf_87 i0 p1 p2 v3 g w
    else
      if inR v5 12 = true then
        if inR v5 12 = true then
          (s_X3_isSo (g 1012 2 v5.toNatClampNeg) (g 1012 3 v5.toNatClampNeg) p1 p2 g w).bind fun q1 =>
          if q1 = true then
            if inR v5 12 = true then
              if (g 1012 4 v5.toNatClampNeg) ≠ 0 then
                if inR v5 12 = true then
                  s_X3_priceOf_79 i0 p1 p2 rec5 v3 ((v3 * (g 1012 5 v5.toNatClampNeg).toInt64) / (100 : Int64)) v5 g w
                else none
              else
                if inR v5 12 = true then
                  s_X3_priceOf_79 i0 p1 p2 rec5 v3 (g 1012 5 v5.toNatClampNeg).toInt64 v5 g w
                else none
            else none
          else
            s_X3_priceOf_81 i0 p1 p2 rec5 v3 v5 g w
        else none
      else none
set_option maxRecDepth 20000 in
set_option maxHeartbeats 2000000 in
theorem e_X3_priceOf_5 {d : Nat} {Ψ : Option AV → DS → Prop} {i0 : Nat} {p1 : Nat} {p2 : Nat} {rec5 : Int64 → Int32 → (Nat → Nat → Nat → Int32) → (Nat → Nat → Nat → Int64) → Option (Int64)} {r : Int64} {g : Nat → Nat → Nat → Int32} {w : Nat → Nat → Nat → Int64} {v3 : Int64} {v5 : Int32} {x4 : Option AV} (hr5 : ∀ {v3 : Int64} {v5 : Int32} {x4 : Option AV} , rec5 v3 v5 g w = some r → Ev (EvM mth (d + 3)) mth c00 sc0 (retP (some .long) c00 Ψ) (lkp es_50) 5 [some (aR 3 i0), some (aR 1 p1), some (aR 4 p2), some (aL v3), x4, some (aI v5)] [] (L0, g, w, q0)) (hΨ : Ψ (some (aL r)) (L0, g, w, q0)) (h : s_X3_priceOf_5 i0 p1 p2 rec5 v3 v5 g w = some r) : Ev (EvM mth (d + 3)) mth c00 sc0 (retP (some .long) c00 Ψ) (lkp es_50) 5 [some (aR 3 i0), some (aR 1 p1), some (aR 4 p2), some (aL v3), x4, some (aI v5)] [] (L0, g, w, q0) := by
  unfold s_X3_priceOf_5 at h
  refine ev_iload (pc' := 7) rfl rfl rfl ?_
  refine ev_aload_n (pc' := 8) rfl rfl rfl ?_
  refine ev_getI (pc' := 11) rfl rfl ?_
  refine ev_icmp_ge rfl (pc' := 14) rfl (fun hc => ?_) (fun hc => ?_)
  · have h := (if_pos hc).symm.trans h
    exact e_X3_priceOf_87 hΨ h
  · have h := (if_neg hc).symm.trans h
    refine ev_iload (pc' := 16) rfl rfl rfl ?_
    refine ev_bipush (pc' := 18) rfl rfl (v := (12 : Int32)) (by decide) ?_
    refine ev_icmp_ge rfl (pc' := 21) rfl (fun hc => ?_) (fun hc => ?_)
    · have h := (if_pos hc).symm.trans h
      exact e_X3_priceOf_87 hΨ h
    · have h := (if_neg hc).symm.trans h
      refine ev_aload_n (pc' := 22) rfl rfl rfl ?_
      refine ev_getQ (pc' := 25) rfl rfl rfl ?_
      refine ev_iload (pc' := 27) rfl rfl rfl ?_
      obtain ⟨hi, h⟩ := gdB h
      refine ev_iald (pc' := 28) rfl rfl rfl (inR_vp hi) ?_
      refine ev_aload_n (pc' := 29) rfl rfl rfl ?_
      refine ev_getQ (pc' := 32) rfl rfl rfl ?_
      refine ev_iload (pc' := 34) rfl rfl rfl ?_
      obtain ⟨hi, h⟩ := gdB h
      refine ev_iald (pc' := 35) rfl rfl rfl (inR_vp hi) ?_
      refine ev_aload_n (pc' := 36) rfl rfl rfl ?_
      refine ev_aload_n (pc' := 37) rfl rfl rfl ?_
      obtain ⟨q1, hq1, h⟩ := Option.bind_eq_some_iff.mp h
      refine ev_S4I (pc' := 40) rfl (by decide) rfl mth_51 ⟨Nat.le_of_ble_eq_true rfl, rfl⟩ ⟨Nat.le_refl _, Nat.le_refl _⟩ (d_X3_isSo hq1) ?_
      refine ev_ifB_eq rfl (pc' := 43) rfl (fun hc => ?_) (fun hc => ?_)
      · have h := (if_neg hc).symm.trans h
        exact e_X3_priceOf_81 (hr5 := hr5) hΨ h
      · have h := (if_pos hc).symm.trans h
        refine ev_lload_n (pc' := 44) rfl rfl rfl ?_
        refine ev_aload_n (pc' := 45) rfl rfl rfl ?_
        refine ev_getQ (pc' := 48) rfl rfl rfl ?_
        refine ev_iload (pc' := 50) rfl rfl rfl ?_
        obtain ⟨hi, h⟩ := gdB h
        refine ev_iald (pc' := 51) rfl rfl rfl (inR_vp hi) ?_
        refine ev_if_ne rfl (pc' := 54) rfl (fun hc => ?_) (fun hc => ?_)
        · have h := (if_pos hc).symm.trans h
          refine ev_lload_n (pc' := 66) rfl rfl rfl ?_
          refine ev_aload_n (pc' := 67) rfl rfl rfl ?_
          refine ev_getQ (pc' := 70) rfl rfl rfl ?_
          refine ev_iload (pc' := 72) rfl rfl rfl ?_
          obtain ⟨hi, h⟩ := gdB h
          refine ev_iald (pc' := 73) rfl rfl rfl (inR_vp hi) ?_
          refine ev_i2l (pc' := 74) rfl rfl ?_
          refine ev_lmul (pc' := 75) rfl rfl ?_
          refine ev_ldc2_w (pc' := 78) rfl rfl (v := (100 : Int64)) (by decide) ?_
          refine ev_ldiv (pc' := 79) rfl rfl (by decide) ?_
          exact e_X3_priceOf_79 (hr5 := hr5) hΨ h
        · have h := (if_neg hc).symm.trans h
          refine ev_aload_n (pc' := 55) rfl rfl rfl ?_
          refine ev_getQ (pc' := 58) rfl rfl rfl ?_
          refine ev_iload (pc' := 60) rfl rfl rfl ?_
          obtain ⟨hi, h⟩ := gdB h
          refine ev_iald (pc' := 61) rfl rfl rfl (inR_vp hi) ?_
          refine ev_i2l (pc' := 62) rfl rfl ?_
          refine ev_goto (pc' := 79) rfl ?_
          exact e_X3_priceOf_79 (hr5 := hr5) hΨ h
def s_X3_priceOf_R5 (i0 : Nat) (p1 : Nat) (p2 : Nat) : Nat → Int64 → Int32 → (Nat → Nat → Nat → Int32) → (Nat → Nat → Nat → Int64) → Option (Int64)
  | 0 => fun _ _ _ _ => none
  | n + 1 => s_X3_priceOf_5 i0 p1 p2 (s_X3_priceOf_R5 i0 p1 p2 n)
theorem e_X3_priceOf_R5 {d : Nat} {Ψ : Option AV → DS → Prop} {i0 : Nat} {p1 : Nat} {p2 : Nat} {r : Int64} {g : Nat → Nat → Nat → Int32} {w : Nat → Nat → Nat → Int64} (hΨ : Ψ (some (aL r)) (L0, g, w, q0)) : ∀ (n : Nat) {v3 : Int64} {v5 : Int32} {x4 : Option AV}, s_X3_priceOf_R5 i0 p1 p2 n v3 v5 g w = some r → Ev (EvM mth (d + 3)) mth c00 sc0 (retP (some .long) c00 Ψ) (lkp es_50) 5 [some (aR 3 i0), some (aR 1 p1), some (aR 4 p2), some (aL v3), x4, some (aI v5)] [] (L0, g, w, q0) := by
  intro n
  induction n with
  | zero => intros; rename_i h; exact absurd h (by intro h9; cases h9)
  | succ n ih => intros; rename_i h; exact e_X3_priceOf_5 (hr5 := ih) hΨ h
def s_X3_priceOf (i0 : Nat) (p1 : Nat) (p2 : Nat) (g : Nat → Nat → Nat → Int32) (w : Nat → Nat → Nat → Int64) : Option (Int64) :=
  s_X3_priceOf_R5 i0 p1 p2 FU (0 : Int64) (0 : Int32) g w
set_option maxRecDepth 20000 in
set_option maxHeartbeats 2000000 in
theorem d_X3_priceOf {d : Nat} {i0 : Nat} {p1 : Nat} {p2 : Nat} {g : Nat → Nat → Nat → Int32} {w : Nat → Nat → Nat → Int64} {r : Int64} (h : s_X3_priceOf i0 p1 p2 g w = some r) : Does (EvM mth (d + 4)) 50 [aR 3 i0, aR 1 p1, aR 4 p2] (L0, g, w, q0) (some (aL r)) (L0, g, w, q0) := by
  intro Ψ hΨ
  refine ⟨in_50, mth_50, Nat.le_of_ble_eq_true rfl, ?_⟩
  show Ev (EvM mth (d + 3)) mth c00 sc0 (retP (some .long) c00 Ψ) (lkp es_50) 0 [some (aR 3 i0), some (aR 1 p1), some (aR 4 p2), none, none, none] [] (L0, g, w, q0)
  unfold s_X3_priceOf at h
  refine ev_lconst (pc' := 1) rfl rfl (v := (0 : Int64)) (by decide) ?_
  refine ev_lstore_n (pc' := 2) rfl rfl (l' := [some (aR 3 i0), some (aR 1 p1), some (aR 4 p2), some (aL (0 : Int64)), none, none]) rfl ?_
  refine ev_iconst (pc' := 3) rfl rfl (v := (0 : Int32)) (by decide) ?_
  refine ev_istore (pc' := 5) rfl rfl (l' := [some (aR 3 i0), some (aR 1 p1), some (aR 4 p2), some (aL (0 : Int64)), none, some (aI (0 : Int32))]) rfl ?_
  exact e_X3_priceOf_R5 hΨ FU h
def s_X6_about_116 (i0 : Nat) (p1 : Int32) (p2 : Int32) (t0 : Int32) (g : Nat → Nat → Nat → Int32) (w : Nat → Nat → Nat → Int64) : Option (Int32) :=
  some (t0)
set_option maxRecDepth 20000 in
set_option maxHeartbeats 2000000 in
theorem e_X6_about_116 {d : Nat} {Ψ : Option AV → DS → Prop} {i0 : Nat} {p1 : Int32} {p2 : Int32} {r : Int32} {g : Nat → Nat → Nat → Int32} {w : Nat → Nat → Nat → Int64} {t0 : Int32} {x0 : Option AV} {x1 : Option AV} {x2 : Option AV} {x3 : Option AV} (hΨ : Ψ (some (aI r)) (L0, g, w, q0)) (h : s_X6_about_116 i0 p1 p2 t0 g w = some r) : Ev (EvM mth (d + 3)) mth c00 sc0 (retP (some .int) c00 Ψ) (lkp es_101) 116 [x0, x1, x2, x3] [aI t0] (L0, g, w, q0) := by
  unfold s_X6_about_116 at h
  obtain rfl := Option.some.inj h
  exact ev_ireturn rfl ⟨⟨_, rfl, rfl⟩, rfl, rfl, hΨ⟩
def s_X6_about (i0 : Nat) (p1 : Int32) (p2 : Int32) (g : Nat → Nat → Nat → Int32) (w : Nat → Nat → Nat → Int64) : Option (Int32) :=
  if (s_X6_isTug i0 p1 g w) = true then
    if inR p1 6 = true then
      if p2 = (0 : Int32) then
        some ((g 5 (6 * 0 + p1.toNatClampNeg) 0))
      else
      if p2 = (1 : Int32) then
        some ((g 5 (6 * 0 + p1.toNatClampNeg) 1))
      else
      if p2 = (2 : Int32) then
        some ((g 5 (6 * 0 + p1.toNatClampNeg) 2))
      else
      if p2 = (3 : Int32) then
        some ((g 5 (6 * 0 + p1.toNatClampNeg) 4))
      else
      if p2 = (4 : Int32) then
        some ((g 5 (6 * 0 + p1.toNatClampNeg) 5))
      else
      if p2 = (5 : Int32) then
        some ((g 5 (6 * 0 + p1.toNatClampNeg) 6))
      else
      if p2 = (6 : Int32) then
        if (g 5 (6 * 0 + p1.toNatClampNeg) 7) ≠ (48 : Int32) then
          s_X6_about_116 i0 p1 p2 (g 5 (6 * 0 + p1.toNatClampNeg) 7) g w
        else
          s_X6_about_116 i0 p1 p2 (-4 : Int32) g w
      else
      if p2 = (7 : Int32) then
        (s_X1_lastBerth 0 p1 g w).bind fun q1 =>
        some (q1)
      else
        some ((-100 : Int32))
    else none
  else
    some ((-100 : Int32))
set_option maxRecDepth 20000 in
set_option maxHeartbeats 2000000 in
theorem d_X6_about {d : Nat} {i0 : Nat} {p1 : Int32} {p2 : Int32} {g : Nat → Nat → Nat → Int32} {w : Nat → Nat → Nat → Int64} {r : Int32} (h : s_X6_about i0 p1 p2 g w = some r) : Does (EvM mth (d + 4)) 101 [aR 6 i0, aI p1, aI p2] (L0, g, w, q0) (some (aI r)) (L0, g, w, q0) := by
  intro Ψ hΨ
  refine ⟨in_101, mth_101, Nat.le_of_ble_eq_true rfl, ?_⟩
  show Ev (EvM mth (d + 3)) mth c00 sc0 (retP (some .int) c00 Ψ) (lkp es_101) 0 [some (aR 6 i0), some (aI p1), some (aI p2), none] [] (L0, g, w, q0)
  unfold s_X6_about at h
  refine ev_aload_n (pc' := 1) rfl rfl rfl ?_
  refine ev_iload_n (pc' := 2) rfl rfl rfl ?_
  refine ev_V2I (pc' := 5) rfl (by decide) rfl mth_108 ⟨Nat.le_of_ble_eq_true rfl, rfl⟩ ⟨Nat.le_refl _, Nat.le_refl _⟩ d_X6_isTug ?_
  refine ev_ifB_ne rfl (pc' := 8) rfl (fun hc => ?_) (fun hc => ?_)
  · have h := (if_pos hc).symm.trans h
    refine ev_aload_n (pc' := 12) rfl rfl rfl ?_
    refine ev_getQ (pc' := 15) rfl rfl rfl ?_
    refine ev_getQ (pc' := 18) rfl rfl rfl ?_
    refine ev_iload_n (pc' := 19) rfl rfl rfl ?_
    obtain ⟨hi, h⟩ := gdB h
    refine ev_aald (pc' := 20) rfl rfl (by decide) rfl (inR_vp hi) rfl ?_
    refine ev_astore_n (pc' := 21) rfl rfl (l' := [some (aR 6 i0), some (aI p1), some (aI p2), some (aR 5 (6 * 0 + p1.toNatClampNeg))]) rfl ?_
    refine ev_iload_n (pc' := 22) rfl rfl rfl ?_
    refine ev_tsw rfl (fun hd => ?_) (fun n u hn hv => ?_)
    · skip
      have h := (if_neg (show ¬ p2 = (0 : Int32) from fun e9 => by rw [e9] at hd; revert hd; decide)).symm.trans h
      have h := (if_neg (show ¬ p2 = (1 : Int32) from fun e9 => by rw [e9] at hd; revert hd; decide)).symm.trans h
      have h := (if_neg (show ¬ p2 = (2 : Int32) from fun e9 => by rw [e9] at hd; revert hd; decide)).symm.trans h
      have h := (if_neg (show ¬ p2 = (3 : Int32) from fun e9 => by rw [e9] at hd; revert hd; decide)).symm.trans h
      have h := (if_neg (show ¬ p2 = (4 : Int32) from fun e9 => by rw [e9] at hd; revert hd; decide)).symm.trans h
      have h := (if_neg (show ¬ p2 = (5 : Int32) from fun e9 => by rw [e9] at hd; revert hd; decide)).symm.trans h
      have h := (if_neg (show ¬ p2 = (6 : Int32) from fun e9 => by rw [e9] at hd; revert hd; decide)).symm.trans h
      have h := (if_neg (show ¬ p2 = (7 : Int32) from fun e9 => by rw [e9] at hd; revert hd; decide)).symm.trans h
      refine ev_bipush (pc' := 128) rfl rfl (v := (-100 : Int32)) (by decide) ?_
      obtain rfl := Option.some.inj h
      exact ev_ireturn rfl ⟨⟨_, rfl, rfl⟩, rfl, rfl, hΨ⟩
    · match n, hn with
      | 0, hn =>
        obtain rfl := Option.some.inj hn
        have e9 : p2 = (0 : Int32) := Int32.toInt_inj.mp (hv.trans (by decide))
        have h := (if_pos e9).symm.trans h
        refine ev_aload_n (pc' := 69) rfl rfl rfl ?_
        refine ev_getI (pc' := 72) rfl rfl ?_
        obtain rfl := Option.some.inj h
        exact ev_ireturn rfl ⟨⟨_, rfl, rfl⟩, rfl, rfl, hΨ⟩
      | 1, hn =>
        obtain rfl := Option.some.inj hn
        have e9 : p2 = (1 : Int32) := Int32.toInt_inj.mp (hv.trans (by decide))
        have h := (if_neg (show ¬ p2 = (0 : Int32) from by rw [e9]; decide)).symm.trans h
        have h := (if_pos e9).symm.trans h
        refine ev_aload_n (pc' := 74) rfl rfl rfl ?_
        refine ev_getI (pc' := 77) rfl rfl ?_
        obtain rfl := Option.some.inj h
        exact ev_ireturn rfl ⟨⟨_, rfl, rfl⟩, rfl, rfl, hΨ⟩
      | 2, hn =>
        obtain rfl := Option.some.inj hn
        have e9 : p2 = (2 : Int32) := Int32.toInt_inj.mp (hv.trans (by decide))
        have h := (if_neg (show ¬ p2 = (0 : Int32) from by rw [e9]; decide)).symm.trans h
        have h := (if_neg (show ¬ p2 = (1 : Int32) from by rw [e9]; decide)).symm.trans h
        have h := (if_pos e9).symm.trans h
        refine ev_aload_n (pc' := 79) rfl rfl rfl ?_
        refine ev_getI (pc' := 82) rfl rfl ?_
        obtain rfl := Option.some.inj h
        exact ev_ireturn rfl ⟨⟨_, rfl, rfl⟩, rfl, rfl, hΨ⟩
      | 3, hn =>
        obtain rfl := Option.some.inj hn
        have e9 : p2 = (3 : Int32) := Int32.toInt_inj.mp (hv.trans (by decide))
        have h := (if_neg (show ¬ p2 = (0 : Int32) from by rw [e9]; decide)).symm.trans h
        have h := (if_neg (show ¬ p2 = (1 : Int32) from by rw [e9]; decide)).symm.trans h
        have h := (if_neg (show ¬ p2 = (2 : Int32) from by rw [e9]; decide)).symm.trans h
        have h := (if_pos e9).symm.trans h
        refine ev_aload_n (pc' := 84) rfl rfl rfl ?_
        refine ev_getI (pc' := 87) rfl rfl ?_
        obtain rfl := Option.some.inj h
        exact ev_ireturn rfl ⟨⟨_, rfl, rfl⟩, rfl, rfl, hΨ⟩
      | 4, hn =>
        obtain rfl := Option.some.inj hn
        have e9 : p2 = (4 : Int32) := Int32.toInt_inj.mp (hv.trans (by decide))
        have h := (if_neg (show ¬ p2 = (0 : Int32) from by rw [e9]; decide)).symm.trans h
        have h := (if_neg (show ¬ p2 = (1 : Int32) from by rw [e9]; decide)).symm.trans h
        have h := (if_neg (show ¬ p2 = (2 : Int32) from by rw [e9]; decide)).symm.trans h
        have h := (if_neg (show ¬ p2 = (3 : Int32) from by rw [e9]; decide)).symm.trans h
        have h := (if_pos e9).symm.trans h
        refine ev_aload_n (pc' := 89) rfl rfl rfl ?_
        refine ev_getI (pc' := 92) rfl rfl ?_
        obtain rfl := Option.some.inj h
        exact ev_ireturn rfl ⟨⟨_, rfl, rfl⟩, rfl, rfl, hΨ⟩
      | 5, hn =>
        obtain rfl := Option.some.inj hn
        have e9 : p2 = (5 : Int32) := Int32.toInt_inj.mp (hv.trans (by decide))
        have h := (if_neg (show ¬ p2 = (0 : Int32) from by rw [e9]; decide)).symm.trans h
        have h := (if_neg (show ¬ p2 = (1 : Int32) from by rw [e9]; decide)).symm.trans h
        have h := (if_neg (show ¬ p2 = (2 : Int32) from by rw [e9]; decide)).symm.trans h
        have h := (if_neg (show ¬ p2 = (3 : Int32) from by rw [e9]; decide)).symm.trans h
        have h := (if_neg (show ¬ p2 = (4 : Int32) from by rw [e9]; decide)).symm.trans h
        have h := (if_pos e9).symm.trans h
        refine ev_aload_n (pc' := 94) rfl rfl rfl ?_
        refine ev_getI (pc' := 97) rfl rfl ?_
        obtain rfl := Option.some.inj h
        exact ev_ireturn rfl ⟨⟨_, rfl, rfl⟩, rfl, rfl, hΨ⟩
      | 6, hn =>
        obtain rfl := Option.some.inj hn
        have e9 : p2 = (6 : Int32) := Int32.toInt_inj.mp (hv.trans (by decide))
        have h := (if_neg (show ¬ p2 = (0 : Int32) from by rw [e9]; decide)).symm.trans h
        have h := (if_neg (show ¬ p2 = (1 : Int32) from by rw [e9]; decide)).symm.trans h
        have h := (if_neg (show ¬ p2 = (2 : Int32) from by rw [e9]; decide)).symm.trans h
        have h := (if_neg (show ¬ p2 = (3 : Int32) from by rw [e9]; decide)).symm.trans h
        have h := (if_neg (show ¬ p2 = (4 : Int32) from by rw [e9]; decide)).symm.trans h
        have h := (if_neg (show ¬ p2 = (5 : Int32) from by rw [e9]; decide)).symm.trans h
        have h := (if_pos e9).symm.trans h
        refine ev_aload_n (pc' := 99) rfl rfl rfl ?_
        refine ev_getI (pc' := 102) rfl rfl ?_
        refine ev_bipush (pc' := 104) rfl rfl (v := (48 : Int32)) (by decide) ?_
        refine ev_icmp_ne rfl (pc' := 107) rfl (fun hc => ?_) (fun hc => ?_)
        · have h := (if_pos hc).symm.trans h
          refine ev_aload_n (pc' := 113) rfl rfl rfl ?_
          refine ev_getI (pc' := 116) rfl rfl ?_
          exact e_X6_about_116 hΨ h
        · have h := (if_neg hc).symm.trans h
          refine ev_bipush (pc' := 109) rfl rfl (v := (-4 : Int32)) (by decide) ?_
          refine ev_goto (pc' := 116) rfl ?_
          exact e_X6_about_116 hΨ h
      | 7, hn =>
        obtain rfl := Option.some.inj hn
        have e9 : p2 = (7 : Int32) := Int32.toInt_inj.mp (hv.trans (by decide))
        have h := (if_neg (show ¬ p2 = (0 : Int32) from by rw [e9]; decide)).symm.trans h
        have h := (if_neg (show ¬ p2 = (1 : Int32) from by rw [e9]; decide)).symm.trans h
        have h := (if_neg (show ¬ p2 = (2 : Int32) from by rw [e9]; decide)).symm.trans h
        have h := (if_neg (show ¬ p2 = (3 : Int32) from by rw [e9]; decide)).symm.trans h
        have h := (if_neg (show ¬ p2 = (4 : Int32) from by rw [e9]; decide)).symm.trans h
        have h := (if_neg (show ¬ p2 = (5 : Int32) from by rw [e9]; decide)).symm.trans h
        have h := (if_neg (show ¬ p2 = (6 : Int32) from by rw [e9]; decide)).symm.trans h
        have h := (if_pos e9).symm.trans h
        refine ev_aload_n (pc' := 118) rfl rfl rfl ?_
        refine ev_getQ (pc' := 121) rfl rfl rfl ?_
        refine ev_iload_n (pc' := 122) rfl rfl rfl ?_
        obtain ⟨q1, hq1, h⟩ := Option.bind_eq_some_iff.mp h
        refine ev_V2I (pc' := 125) rfl (by decide) rfl mth_9 ⟨Nat.le_of_ble_eq_true rfl, rfl⟩ ⟨Nat.le_refl _, Nat.le_refl _⟩ (d_X1_lastBerth hq1) ?_
        obtain rfl := Option.some.inj h
        exact ev_ireturn rfl ⟨⟨_, rfl, rfl⟩, rfl, rfl, hΨ⟩
      | n + 8, hn => exact absurd hn (by simp)
  · have h := (if_neg hc).symm.trans h
    refine ev_bipush (pc' := 10) rfl rfl (v := (-100 : Int32)) (by decide) ?_
    obtain rfl := Option.some.inj h
    exact ev_ireturn rfl ⟨⟨_, rfl, rfl⟩, rfl, rfl, hΨ⟩
def s_X7_comes_213 (i0 : Nat) (p1 : Int32) (p2 : Int32) (p3 : Int32) (t0 : Bool) (g : Nat → Nat → Nat → Int32) (w : Nat → Nat → Nat → Int64) : Option (Bool) :=
  some (t0)
set_option maxRecDepth 20000 in
set_option maxHeartbeats 2000000 in
theorem e_X7_comes_213 {d : Nat} {Ψ : Option AV → DS → Prop} {i0 : Nat} {p1 : Int32} {p2 : Int32} {p3 : Int32} {r : Bool} {g : Nat → Nat → Nat → Int32} {w : Nat → Nat → Nat → Int64} {t0 : Bool} {x0 : Option AV} {x1 : Option AV} {x2 : Option AV} {x3 : Option AV} {x4 : Option AV} {x5 : Option AV} {x6 : Option AV} {x7 : Option AV} {x8 : Option AV} (hΨ : Ψ (some (aI (bI r))) (L0, g, w, q0)) (h : s_X7_comes_213 i0 p1 p2 p3 t0 g w = some r) : Ev (EvM mth (d + 3)) mth c00 sc0 (retP (some .boolean) c00 Ψ) (lkp es_144) 213 [x0, x1, x2, x3, x4, x5, x6, x7, x8] [aI (bI t0)] (L0, g, w, q0) := by
  unfold s_X7_comes_213 at h
  obtain rfl := Option.some.inj h
  exact ev_ireturn rfl ⟨⟨_, rfl, nar_bI _⟩, rfl, rfl, hΨ⟩
def s_X7_comes_212 (i0 : Nat) (p1 : Int32) (p2 : Int32) (p3 : Int32) (g : Nat → Nat → Nat → Int32) (w : Nat → Nat → Nat → Int64) : Option (Bool) :=
  s_X7_comes_213 i0 p1 p2 p3 false g w
set_option maxRecDepth 20000 in
set_option maxHeartbeats 2000000 in
theorem e_X7_comes_212 {d : Nat} {Ψ : Option AV → DS → Prop} {i0 : Nat} {p1 : Int32} {p2 : Int32} {p3 : Int32} {r : Bool} {g : Nat → Nat → Nat → Int32} {w : Nat → Nat → Nat → Int64} {x0 : Option AV} {x1 : Option AV} {x2 : Option AV} {x3 : Option AV} {x4 : Option AV} {x5 : Option AV} {x6 : Option AV} {x7 : Option AV} {x8 : Option AV} (hΨ : Ψ (some (aI (bI r))) (L0, g, w, q0)) (h : s_X7_comes_212 i0 p1 p2 p3 g w = some r) : Ev (EvM mth (d + 3)) mth c00 sc0 (retP (some .boolean) c00 Ψ) (lkp es_144) 212 [x0, x1, x2, x3, x4, x5, x6, x7, x8] [] (L0, g, w, q0) := by
  unfold s_X7_comes_212 at h
  refine ev_iconst (pc' := 213) rfl rfl (v := (0 : Int32)) (by decide) ?_
  exact e_X7_comes_213 hΨ h
def s_X7_comes_208 (i0 : Nat) (p1 : Int32) (p2 : Int32) (p3 : Int32) (g : Nat → Nat → Nat → Int32) (w : Nat → Nat → Nat → Int64) : Option (Bool) :=
  s_X7_comes_213 i0 p1 p2 p3 true g w
set_option maxRecDepth 20000 in
set_option maxHeartbeats 2000000 in
theorem e_X7_comes_208 {d : Nat} {Ψ : Option AV → DS → Prop} {i0 : Nat} {p1 : Int32} {p2 : Int32} {p3 : Int32} {r : Bool} {g : Nat → Nat → Nat → Int32} {w : Nat → Nat → Nat → Int64} {x0 : Option AV} {x1 : Option AV} {x2 : Option AV} {x3 : Option AV} {x4 : Option AV} {x5 : Option AV} {x6 : Option AV} {x7 : Option AV} {x8 : Option AV} (hΨ : Ψ (some (aI (bI r))) (L0, g, w, q0)) (h : s_X7_comes_208 i0 p1 p2 p3 g w = some r) : Ev (EvM mth (d + 3)) mth c00 sc0 (retP (some .boolean) c00 Ψ) (lkp es_144) 208 [x0, x1, x2, x3, x4, x5, x6, x7, x8] [] (L0, g, w, q0) := by
  unfold s_X7_comes_208 at h
  refine ev_iconst (pc' := 209) rfl rfl (v := (1 : Int32)) (by decide) ?_
  refine ev_goto (pc' := 213) rfl ?_
  exact e_X7_comes_213 hΨ h
def s_X7_comes_146 (i0 : Nat) (p1 : Int32) (p2 : Int32) (p3 : Int32) (rec28 : Int32 → Int32 → Int32 → Int32 → Int32 → (Nat → Nat → Nat → Int32) → (Nat → Nat → Nat → Int64) → Option (Bool)) (v4 : Int32) (v5 : Int32) (v6 : Int32) (v7 : Int32) (v8 : Int32) (g : Nat → Nat → Nat → Int32) (w : Nat → Nat → Nat → Int64) : Option (Bool) :=
  rec28 v4 v5 v6 v7 (v8 + 1) g w
set_option maxRecDepth 20000 in
set_option maxHeartbeats 2000000 in
theorem e_X7_comes_146 {d : Nat} {Ψ : Option AV → DS → Prop} {i0 : Nat} {p1 : Int32} {p2 : Int32} {p3 : Int32} {rec28 : Int32 → Int32 → Int32 → Int32 → Int32 → (Nat → Nat → Nat → Int32) → (Nat → Nat → Nat → Int64) → Option (Bool)} {r : Bool} {g : Nat → Nat → Nat → Int32} {w : Nat → Nat → Nat → Int64} {v4 : Int32} {v5 : Int32} {v6 : Int32} {v7 : Int32} {v8 : Int32} (hr28 : ∀ {v4 : Int32} {v5 : Int32} {v6 : Int32} {v7 : Int32} {v8 : Int32} , rec28 v4 v5 v6 v7 v8 g w = some r → Ev (EvM mth (d + 3)) mth c00 sc0 (retP (some .boolean) c00 Ψ) (lkp es_144) 28 [some (aR 7 i0), some (aI p1), some (aI p2), some (aI p3), some (aI v4), some (aI v5), some (aI v6), some (aI v7), some (aI v8)] [] (L0, g, w, q0)) (hΨ : Ψ (some (aI (bI r))) (L0, g, w, q0)) (h : s_X7_comes_146 i0 p1 p2 p3 rec28 v4 v5 v6 v7 v8 g w = some r) : Ev (EvM mth (d + 3)) mth c00 sc0 (retP (some .boolean) c00 Ψ) (lkp es_144) 146 [some (aR 7 i0), some (aI p1), some (aI p2), some (aI p3), some (aI v4), some (aI v5), some (aI v6), some (aI v7), some (aI v8)] [] (L0, g, w, q0) := by
  unfold s_X7_comes_146 at h
  refine ev_iinc (pc' := 149) rfl rfl (l' := [some (aR 7 i0), some (aI p1), some (aI p2), some (aI p3), some (aI v4), some (aI v5), some (aI v6), some (aI v7), some (aI (v8 + 1))]) rfl (ii_1 _) rfl ?_
  refine ev_goto (pc' := 28) rfl ?_
  exact hr28 h
def s_X7_comes_142 (i0 : Nat) (p1 : Int32) (p2 : Int32) (p3 : Int32) (rec28 : Int32 → Int32 → Int32 → Int32 → Int32 → (Nat → Nat → Nat → Int32) → (Nat → Nat → Nat → Int64) → Option (Bool)) (v4 : Int32) (v5 : Int32) (v6 : Int32) (v8 : Int32) (g : Nat → Nat → Nat → Int32) (w : Nat → Nat → Nat → Int64) : Option (Bool) :=
  s_X7_comes_146 i0 p1 p2 p3 rec28 v4 v5 v6 v8 v8 g w
set_option maxRecDepth 20000 in
set_option maxHeartbeats 2000000 in
theorem e_X7_comes_142 {d : Nat} {Ψ : Option AV → DS → Prop} {i0 : Nat} {p1 : Int32} {p2 : Int32} {p3 : Int32} {rec28 : Int32 → Int32 → Int32 → Int32 → Int32 → (Nat → Nat → Nat → Int32) → (Nat → Nat → Nat → Int64) → Option (Bool)} {r : Bool} {g : Nat → Nat → Nat → Int32} {w : Nat → Nat → Nat → Int64} {v4 : Int32} {v5 : Int32} {v6 : Int32} {v8 : Int32} {x7 : Option AV} (hr28 : ∀ {v4 : Int32} {v5 : Int32} {v6 : Int32} {v7 : Int32} {v8 : Int32} , rec28 v4 v5 v6 v7 v8 g w = some r → Ev (EvM mth (d + 3)) mth c00 sc0 (retP (some .boolean) c00 Ψ) (lkp es_144) 28 [some (aR 7 i0), some (aI p1), some (aI p2), some (aI p3), some (aI v4), some (aI v5), some (aI v6), some (aI v7), some (aI v8)] [] (L0, g, w, q0)) (hΨ : Ψ (some (aI (bI r))) (L0, g, w, q0)) (h : s_X7_comes_142 i0 p1 p2 p3 rec28 v4 v5 v6 v8 g w = some r) : Ev (EvM mth (d + 3)) mth c00 sc0 (retP (some .boolean) c00 Ψ) (lkp es_144) 142 [some (aR 7 i0), some (aI p1), some (aI p2), some (aI p3), some (aI v4), some (aI v5), some (aI v6), x7, some (aI v8)] [] (L0, g, w, q0) := by
  unfold s_X7_comes_142 at h
  refine ev_iload (pc' := 144) rfl rfl rfl ?_
  refine ev_istore (pc' := 146) rfl rfl (l' := [some (aR 7 i0), some (aI p1), some (aI p2), some (aI p3), some (aI v4), some (aI v5), some (aI v6), some (aI v8), some (aI v8)]) rfl ?_
  exact e_X7_comes_146 (hr28 := hr28) hΨ h
def s_X7_comes_95 (i0 : Nat) (p1 : Int32) (p2 : Int32) (p3 : Int32) (rec28 : Int32 → Int32 → Int32 → Int32 → Int32 → (Nat → Nat → Nat → Int32) → (Nat → Nat → Nat → Int64) → Option (Bool)) (v4 : Int32) (v5 : Int32) (v6 : Int32) (v7 : Int32) (v8 : Int32) (g : Nat → Nat → Nat → Int32) (w : Nat → Nat → Nat → Int64) : Option (Bool) :=
  (s_X7_isOf i0 v8 p1 g w).bind fun q1 =>
  if q1 = true then
    (s_X7_ofShip i0 v8 (7 : Int32) g w).bind fun q2 =>
    if q2 < v4 then
      s_X7_comes_146 i0 p1 p2 p3 rec28 v4 v5 v6 v7 v8 g w
    else
      if v7 < 0 then
        s_X7_comes_142 i0 p1 p2 p3 rec28 v4 v5 v6 v8 g w
      else
        (s_X7_ofShip i0 v8 (7 : Int32) g w).bind fun q3 =>
        (s_X7_ofShip i0 v7 (7 : Int32) g w).bind fun q4 =>
        if q4 ≤ q3 then
          s_X7_comes_146 i0 p1 p2 p3 rec28 v4 v5 v6 v7 v8 g w
        else
          s_X7_comes_142 i0 p1 p2 p3 rec28 v4 v5 v6 v8 g w
  else
    s_X7_comes_146 i0 p1 p2 p3 rec28 v4 v5 v6 v7 v8 g w
set_option maxRecDepth 20000 in
set_option maxHeartbeats 2000000 in
theorem e_X7_comes_95 {d : Nat} {Ψ : Option AV → DS → Prop} {i0 : Nat} {p1 : Int32} {p2 : Int32} {p3 : Int32} {rec28 : Int32 → Int32 → Int32 → Int32 → Int32 → (Nat → Nat → Nat → Int32) → (Nat → Nat → Nat → Int64) → Option (Bool)} {r : Bool} {g : Nat → Nat → Nat → Int32} {w : Nat → Nat → Nat → Int64} {v4 : Int32} {v5 : Int32} {v6 : Int32} {v7 : Int32} {v8 : Int32} (hr28 : ∀ {v4 : Int32} {v5 : Int32} {v6 : Int32} {v7 : Int32} {v8 : Int32} , rec28 v4 v5 v6 v7 v8 g w = some r → Ev (EvM mth (d + 3)) mth c00 sc0 (retP (some .boolean) c00 Ψ) (lkp es_144) 28 [some (aR 7 i0), some (aI p1), some (aI p2), some (aI p3), some (aI v4), some (aI v5), some (aI v6), some (aI v7), some (aI v8)] [] (L0, g, w, q0)) (hΨ : Ψ (some (aI (bI r))) (L0, g, w, q0)) (h : s_X7_comes_95 i0 p1 p2 p3 rec28 v4 v5 v6 v7 v8 g w = some r) : Ev (EvM mth (d + 3)) mth c00 sc0 (retP (some .boolean) c00 Ψ) (lkp es_144) 95 [some (aR 7 i0), some (aI p1), some (aI p2), some (aI p3), some (aI v4), some (aI v5), some (aI v6), some (aI v7), some (aI v8)] [] (L0, g, w, q0) := by
  unfold s_X7_comes_95 at h
  refine ev_aload_n (pc' := 96) rfl rfl rfl ?_
  refine ev_iload (pc' := 98) rfl rfl rfl ?_
  refine ev_iload_n (pc' := 99) rfl rfl rfl ?_
  obtain ⟨q1, hq1, h⟩ := Option.bind_eq_some_iff.mp h
  refine ev_V3I (pc' := 102) rfl (by decide) rfl mth_143 ⟨Nat.le_of_ble_eq_true rfl, rfl⟩ ⟨Nat.le_refl _, Nat.le_refl _⟩ (d_X7_isOf hq1) ?_
  refine ev_ifB_eq rfl (pc' := 105) rfl (fun hc => ?_) (fun hc => ?_)
  · have h := (if_neg hc).symm.trans h
    exact e_X7_comes_146 (hr28 := hr28) hΨ h
  · have h := (if_pos hc).symm.trans h
    refine ev_aload_n (pc' := 106) rfl rfl rfl ?_
    refine ev_iload (pc' := 108) rfl rfl rfl ?_
    refine ev_bipush (pc' := 110) rfl rfl (v := (7 : Int32)) (by decide) ?_
    obtain ⟨q2, hq2, h⟩ := Option.bind_eq_some_iff.mp h
    refine ev_V3I (pc' := 113) rfl (by decide) rfl mth_118 ⟨Nat.le_of_ble_eq_true rfl, rfl⟩ ⟨Nat.le_refl _, Nat.le_refl _⟩ (d_X7_ofShip hq2) ?_
    refine ev_iload (pc' := 115) rfl rfl rfl ?_
    refine ev_icmp_lt rfl (pc' := 118) rfl (fun hc => ?_) (fun hc => ?_)
    · have h := (if_pos hc).symm.trans h
      exact e_X7_comes_146 (hr28 := hr28) hΨ h
    · have h := (if_neg hc).symm.trans h
      refine ev_iload (pc' := 120) rfl rfl rfl ?_
      refine ev_if_lt rfl (pc' := 123) rfl (fun hc => ?_) (fun hc => ?_)
      · have h := (if_pos hc).symm.trans h
        exact e_X7_comes_142 (hr28 := hr28) hΨ h
      · have h := (if_neg hc).symm.trans h
        refine ev_aload_n (pc' := 124) rfl rfl rfl ?_
        refine ev_iload (pc' := 126) rfl rfl rfl ?_
        refine ev_bipush (pc' := 128) rfl rfl (v := (7 : Int32)) (by decide) ?_
        obtain ⟨q3, hq3, h⟩ := Option.bind_eq_some_iff.mp h
        refine ev_V3I (pc' := 131) rfl (by decide) rfl mth_118 ⟨Nat.le_of_ble_eq_true rfl, rfl⟩ ⟨Nat.le_refl _, Nat.le_refl _⟩ (d_X7_ofShip hq3) ?_
        refine ev_aload_n (pc' := 132) rfl rfl rfl ?_
        refine ev_iload (pc' := 134) rfl rfl rfl ?_
        refine ev_bipush (pc' := 136) rfl rfl (v := (7 : Int32)) (by decide) ?_
        obtain ⟨q4, hq4, h⟩ := Option.bind_eq_some_iff.mp h
        refine ev_V3I (pc' := 139) rfl (by decide) rfl mth_118 ⟨Nat.le_of_ble_eq_true rfl, rfl⟩ ⟨Nat.le_refl _, Nat.le_refl _⟩ (d_X7_ofShip hq4) ?_
        refine ev_icmp_ge rfl (pc' := 142) rfl (fun hc => ?_) (fun hc => ?_)
        · have h := (if_pos hc).symm.trans h
          exact e_X7_comes_146 (hr28 := hr28) hΨ h
        · have h := (if_neg hc).symm.trans h
          exact e_X7_comes_142 (hr28 := hr28) hΨ h
def s_X7_comes_28 (i0 : Nat) (p1 : Int32) (p2 : Int32) (p3 : Int32) (rec28 : Int32 → Int32 → Int32 → Int32 → Int32 → (Nat → Nat → Nat → Int32) → (Nat → Nat → Nat → Int64) → Option (Bool)) (v4 : Int32) (v5 : Int32) (v6 : Int32) (v7 : Int32) (v8 : Int32) (g : Nat → Nat → Nat → Int32) (w : Nat → Nat → Nat → Int64) : Option (Bool) :=
  if 0 ≤ (lg_cmp v8.toInt64 (w 2218 0 (65 : Int32).toNatClampNeg)) then
    (s_X7_ofShip i0 p2 (5 : Int32) g w).bind fun q1 =>
    (s_X7_wayOf i0 v5 q1 g w).bind fun q2 =>
    if p3 < (v6 + q2) then
      s_X7_comes_212 i0 p1 p2 p3 g w
    else
      if v7 < 0 then
        s_X7_comes_208 i0 p1 p2 p3 g w
      else
        (s_X7_ofShip i0 p2 (6 : Int32) g w).bind fun q3 =>
        (s_X7_ofShip i0 v7 (5 : Int32) g w).bind fun q4 =>
        (s_X7_wayOf i0 q3 q4 g w).bind fun q5 =>
        (s_X7_ofShip i0 v7 (7 : Int32) g w).bind fun q6 =>
        if q6 < (v4 + q5) then
          s_X7_comes_212 i0 p1 p2 p3 g w
        else
          s_X7_comes_208 i0 p1 p2 p3 g w
  else
    (s_X7_isOf i0 v8 p1 g w).bind fun q7 =>
    if q7 = true then
      (s_X7_last i0 v8 g w).bind fun q8 =>
      if p3 ≤ q8 then
        s_X7_comes_95 i0 p1 p2 p3 rec28 v4 v5 v6 v7 v8 g w
      else
        (s_X7_last i0 v8 g w).bind fun q9 =>
        if (q9 + (1 : Int32)) ≤ v6 then
          s_X7_comes_95 i0 p1 p2 p3 rec28 v4 v5 v6 v7 v8 g w
        else
          (s_X7_last i0 v8 g w).bind fun q10 =>
          (s_X7_ofShip i0 v8 (6 : Int32) g w).bind fun q11 =>
          s_X7_comes_95 i0 p1 p2 p3 rec28 v4 q11 (q10 + (1 : Int32)) v7 v8 g w
    else
      s_X7_comes_95 i0 p1 p2 p3 rec28 v4 v5 v6 v7 v8 g w
set_option maxRecDepth 20000 in
set_option maxHeartbeats 2000000 in
theorem e_X7_comes_28 {d : Nat} {Ψ : Option AV → DS → Prop} {i0 : Nat} {p1 : Int32} {p2 : Int32} {p3 : Int32} {rec28 : Int32 → Int32 → Int32 → Int32 → Int32 → (Nat → Nat → Nat → Int32) → (Nat → Nat → Nat → Int64) → Option (Bool)} {r : Bool} {g : Nat → Nat → Nat → Int32} {w : Nat → Nat → Nat → Int64} {v4 : Int32} {v5 : Int32} {v6 : Int32} {v7 : Int32} {v8 : Int32} (hr28 : ∀ {v4 : Int32} {v5 : Int32} {v6 : Int32} {v7 : Int32} {v8 : Int32} , rec28 v4 v5 v6 v7 v8 g w = some r → Ev (EvM mth (d + 3)) mth c00 sc0 (retP (some .boolean) c00 Ψ) (lkp es_144) 28 [some (aR 7 i0), some (aI p1), some (aI p2), some (aI p3), some (aI v4), some (aI v5), some (aI v6), some (aI v7), some (aI v8)] [] (L0, g, w, q0)) (hΨ : Ψ (some (aI (bI r))) (L0, g, w, q0)) (h : s_X7_comes_28 i0 p1 p2 p3 rec28 v4 v5 v6 v7 v8 g w = some r) : Ev (EvM mth (d + 3)) mth c00 sc0 (retP (some .boolean) c00 Ψ) (lkp es_144) 28 [some (aR 7 i0), some (aI p1), some (aI p2), some (aI p3), some (aI v4), some (aI v5), some (aI v6), some (aI v7), some (aI v8)] [] (L0, g, w, q0) := by
  unfold s_X7_comes_28 at h
  refine ev_iload (pc' := 30) rfl rfl rfl ?_
  refine ev_i2l (pc' := 31) rfl rfl ?_
  refine ev_aload_n (pc' := 32) rfl rfl rfl ?_
  refine ev_getQ (pc' := 35) rfl rfl rfl ?_
  refine ev_bipush (pc' := 37) rfl rfl (v := (65 : Int32)) (by decide) ?_
  refine ev_lald (pc' := 38) rfl rfl rfl (inR_vp (by decide)) ?_
  refine ev_lcmp (pc' := 39) rfl rfl ?_
  refine ev_if_ge rfl (pc' := 42) rfl (fun hc => ?_) (fun hc => ?_)
  · have h := (if_pos hc).symm.trans h
    refine ev_iload (pc' := 154) rfl rfl rfl ?_
    refine ev_aload_n (pc' := 155) rfl rfl rfl ?_
    refine ev_iload (pc' := 157) rfl rfl rfl ?_
    refine ev_aload_n (pc' := 158) rfl rfl rfl ?_
    refine ev_iload_n (pc' := 159) rfl rfl rfl ?_
    refine ev_iconst (pc' := 160) rfl rfl (v := (5 : Int32)) (by decide) ?_
    obtain ⟨q1, hq1, h⟩ := Option.bind_eq_some_iff.mp h
    refine ev_V3I (pc' := 163) rfl (by decide) rfl mth_118 ⟨Nat.le_of_ble_eq_true rfl, rfl⟩ ⟨Nat.le_refl _, Nat.le_refl _⟩ (d_X7_ofShip hq1) ?_
    obtain ⟨q2, hq2, h⟩ := Option.bind_eq_some_iff.mp h
    refine ev_V3I (pc' := 166) rfl (by decide) rfl mth_127 ⟨Nat.le_of_ble_eq_true rfl, rfl⟩ ⟨Nat.le_refl _, Nat.le_refl _⟩ (d_X7_wayOf hq2) ?_
    refine ev_iadd (pc' := 167) rfl rfl ?_
    refine ev_iload_n (pc' := 168) rfl rfl rfl ?_
    refine ev_icmp_gt rfl (pc' := 171) rfl (fun hc => ?_) (fun hc => ?_)
    · have h := (if_pos hc).symm.trans h
      exact e_X7_comes_212 hΨ h
    · have h := (if_neg hc).symm.trans h
      refine ev_iload (pc' := 173) rfl rfl rfl ?_
      refine ev_if_lt rfl (pc' := 176) rfl (fun hc => ?_) (fun hc => ?_)
      · have h := (if_pos hc).symm.trans h
        exact e_X7_comes_208 hΨ h
      · have h := (if_neg hc).symm.trans h
        refine ev_iload (pc' := 178) rfl rfl rfl ?_
        refine ev_aload_n (pc' := 179) rfl rfl rfl ?_
        refine ev_aload_n (pc' := 180) rfl rfl rfl ?_
        refine ev_iload_n (pc' := 181) rfl rfl rfl ?_
        refine ev_bipush (pc' := 183) rfl rfl (v := (6 : Int32)) (by decide) ?_
        obtain ⟨q3, hq3, h⟩ := Option.bind_eq_some_iff.mp h
        refine ev_V3I (pc' := 186) rfl (by decide) rfl mth_118 ⟨Nat.le_of_ble_eq_true rfl, rfl⟩ ⟨Nat.le_refl _, Nat.le_refl _⟩ (d_X7_ofShip hq3) ?_
        refine ev_aload_n (pc' := 187) rfl rfl rfl ?_
        refine ev_iload (pc' := 189) rfl rfl rfl ?_
        refine ev_iconst (pc' := 190) rfl rfl (v := (5 : Int32)) (by decide) ?_
        obtain ⟨q4, hq4, h⟩ := Option.bind_eq_some_iff.mp h
        refine ev_V3I (pc' := 193) rfl (by decide) rfl mth_118 ⟨Nat.le_of_ble_eq_true rfl, rfl⟩ ⟨Nat.le_refl _, Nat.le_refl _⟩ (d_X7_ofShip hq4) ?_
        obtain ⟨q5, hq5, h⟩ := Option.bind_eq_some_iff.mp h
        refine ev_V3I (pc' := 196) rfl (by decide) rfl mth_127 ⟨Nat.le_of_ble_eq_true rfl, rfl⟩ ⟨Nat.le_refl _, Nat.le_refl _⟩ (d_X7_wayOf hq5) ?_
        refine ev_iadd (pc' := 197) rfl rfl ?_
        refine ev_aload_n (pc' := 198) rfl rfl rfl ?_
        refine ev_iload (pc' := 200) rfl rfl rfl ?_
        refine ev_bipush (pc' := 202) rfl rfl (v := (7 : Int32)) (by decide) ?_
        obtain ⟨q6, hq6, h⟩ := Option.bind_eq_some_iff.mp h
        refine ev_V3I (pc' := 205) rfl (by decide) rfl mth_118 ⟨Nat.le_of_ble_eq_true rfl, rfl⟩ ⟨Nat.le_refl _, Nat.le_refl _⟩ (d_X7_ofShip hq6) ?_
        refine ev_icmp_gt rfl (pc' := 208) rfl (fun hc => ?_) (fun hc => ?_)
        · have h := (if_pos hc).symm.trans h
          exact e_X7_comes_212 hΨ h
        · have h := (if_neg hc).symm.trans h
          exact e_X7_comes_208 hΨ h
  · have h := (if_neg hc).symm.trans h
    refine ev_aload_n (pc' := 43) rfl rfl rfl ?_
    refine ev_iload (pc' := 45) rfl rfl rfl ?_
    refine ev_iload_n (pc' := 46) rfl rfl rfl ?_
    obtain ⟨q7, hq7, h⟩ := Option.bind_eq_some_iff.mp h
    refine ev_V3I (pc' := 49) rfl (by decide) rfl mth_143 ⟨Nat.le_of_ble_eq_true rfl, rfl⟩ ⟨Nat.le_refl _, Nat.le_refl _⟩ (d_X7_isOf hq7) ?_
    refine ev_ifB_eq rfl (pc' := 52) rfl (fun hc => ?_) (fun hc => ?_)
    · have h := (if_neg hc).symm.trans h
      exact e_X7_comes_95 (hr28 := hr28) hΨ h
    · have h := (if_pos hc).symm.trans h
      refine ev_aload_n (pc' := 53) rfl rfl rfl ?_
      refine ev_iload (pc' := 55) rfl rfl rfl ?_
      obtain ⟨q8, hq8, h⟩ := Option.bind_eq_some_iff.mp h
      refine ev_V2I (pc' := 58) rfl (by decide) rfl mth_142 ⟨Nat.le_of_ble_eq_true rfl, rfl⟩ ⟨Nat.le_refl _, Nat.le_refl _⟩ (d_X7_last hq8) ?_
      refine ev_iload_n (pc' := 59) rfl rfl rfl ?_
      refine ev_icmp_ge rfl (pc' := 62) rfl (fun hc => ?_) (fun hc => ?_)
      · have h := (if_pos hc).symm.trans h
        exact e_X7_comes_95 (hr28 := hr28) hΨ h
      · have h := (if_neg hc).symm.trans h
        refine ev_aload_n (pc' := 63) rfl rfl rfl ?_
        refine ev_iload (pc' := 65) rfl rfl rfl ?_
        obtain ⟨q9, hq9, h⟩ := Option.bind_eq_some_iff.mp h
        refine ev_V2I (pc' := 68) rfl (by decide) rfl mth_142 ⟨Nat.le_of_ble_eq_true rfl, rfl⟩ ⟨Nat.le_refl _, Nat.le_refl _⟩ (d_X7_last hq9) ?_
        refine ev_iconst (pc' := 69) rfl rfl (v := (1 : Int32)) (by decide) ?_
        refine ev_iadd (pc' := 70) rfl rfl ?_
        refine ev_iload (pc' := 72) rfl rfl rfl ?_
        refine ev_icmp_le rfl (pc' := 75) rfl (fun hc => ?_) (fun hc => ?_)
        · have h := (if_pos hc).symm.trans h
          exact e_X7_comes_95 (hr28 := hr28) hΨ h
        · have h := (if_neg hc).symm.trans h
          refine ev_aload_n (pc' := 76) rfl rfl rfl ?_
          refine ev_iload (pc' := 78) rfl rfl rfl ?_
          obtain ⟨q10, hq10, h⟩ := Option.bind_eq_some_iff.mp h
          refine ev_V2I (pc' := 81) rfl (by decide) rfl mth_142 ⟨Nat.le_of_ble_eq_true rfl, rfl⟩ ⟨Nat.le_refl _, Nat.le_refl _⟩ (d_X7_last hq10) ?_
          refine ev_iconst (pc' := 82) rfl rfl (v := (1 : Int32)) (by decide) ?_
          refine ev_iadd (pc' := 83) rfl rfl ?_
          refine ev_istore (pc' := 85) rfl rfl (l' := [some (aR 7 i0), some (aI p1), some (aI p2), some (aI p3), some (aI v4), some (aI v5), some (aI (q10 + (1 : Int32))), some (aI v7), some (aI v8)]) rfl ?_
          refine ev_aload_n (pc' := 86) rfl rfl rfl ?_
          refine ev_iload (pc' := 88) rfl rfl rfl ?_
          refine ev_bipush (pc' := 90) rfl rfl (v := (6 : Int32)) (by decide) ?_
          obtain ⟨q11, hq11, h⟩ := Option.bind_eq_some_iff.mp h
          refine ev_V3I (pc' := 93) rfl (by decide) rfl mth_118 ⟨Nat.le_of_ble_eq_true rfl, rfl⟩ ⟨Nat.le_refl _, Nat.le_refl _⟩ (d_X7_ofShip hq11) ?_
          refine ev_istore (pc' := 95) rfl rfl (l' := [some (aR 7 i0), some (aI p1), some (aI p2), some (aI p3), some (aI v4), some (aI q11), some (aI (q10 + (1 : Int32))), some (aI v7), some (aI v8)]) rfl ?_
          exact e_X7_comes_95 (hr28 := hr28) hΨ h
def s_X7_comes_R28 (i0 : Nat) (p1 : Int32) (p2 : Int32) (p3 : Int32) : Nat → Int32 → Int32 → Int32 → Int32 → Int32 → (Nat → Nat → Nat → Int32) → (Nat → Nat → Nat → Int64) → Option (Bool)
  | 0 => fun _ _ _ _ _ _ _ => none
  | n + 1 => s_X7_comes_28 i0 p1 p2 p3 (s_X7_comes_R28 i0 p1 p2 p3 n)
theorem e_X7_comes_R28 {d : Nat} {Ψ : Option AV → DS → Prop} {i0 : Nat} {p1 : Int32} {p2 : Int32} {p3 : Int32} {r : Bool} {g : Nat → Nat → Nat → Int32} {w : Nat → Nat → Nat → Int64} (hΨ : Ψ (some (aI (bI r))) (L0, g, w, q0)) : ∀ (n : Nat) {v4 : Int32} {v5 : Int32} {v6 : Int32} {v7 : Int32} {v8 : Int32} , s_X7_comes_R28 i0 p1 p2 p3 n v4 v5 v6 v7 v8 g w = some r → Ev (EvM mth (d + 3)) mth c00 sc0 (retP (some .boolean) c00 Ψ) (lkp es_144) 28 [some (aR 7 i0), some (aI p1), some (aI p2), some (aI p3), some (aI v4), some (aI v5), some (aI v6), some (aI v7), some (aI v8)] [] (L0, g, w, q0) := by
  intro n
  induction n with
  | zero => intros; rename_i h; exact absurd h (by intro h9; cases h9)
  | succ n ih => intros; rename_i h; exact e_X7_comes_28 (hr28 := ih) hΨ h
def s_X7_comes (i0 : Nat) (p1 : Int32) (p2 : Int32) (p3 : Int32) (g : Nat → Nat → Nat → Int32) (w : Nat → Nat → Nat → Int64) : Option (Bool) :=
  (s_X7_ofShip i0 p2 (3 : Int32) g w).bind fun q1 =>
  (s_X7_ofTug i0 p1 (6 : Int32) g w).bind fun q2 =>
  s_X7_comes_R28 i0 p1 p2 p3 FU (p3 + q1) q2 (0 : Int32) (-1 : Int32) (0 : Int32) g w
set_option maxRecDepth 20000 in
set_option maxHeartbeats 2000000 in
theorem d_X7_comes {d : Nat} {i0 : Nat} {p1 : Int32} {p2 : Int32} {p3 : Int32} {g : Nat → Nat → Nat → Int32} {w : Nat → Nat → Nat → Int64} {r : Bool} (h : s_X7_comes i0 p1 p2 p3 g w = some r) : Does (EvM mth (d + 4)) 144 [aR 7 i0, aI p1, aI p2, aI p3] (L0, g, w, q0) (some (aI (bI r))) (L0, g, w, q0) := by
  intro Ψ hΨ
  refine ⟨in_144, mth_144, Nat.le_of_ble_eq_true rfl, ?_⟩
  show Ev (EvM mth (d + 3)) mth c00 sc0 (retP (some .boolean) c00 Ψ) (lkp es_144) 0 [some (aR 7 i0), some (aI p1), some (aI p2), some (aI p3), none, none, none, none, none] [] (L0, g, w, q0)
  unfold s_X7_comes at h
  refine ev_iload_n (pc' := 1) rfl rfl rfl ?_
  refine ev_aload_n (pc' := 2) rfl rfl rfl ?_
  refine ev_iload_n (pc' := 3) rfl rfl rfl ?_
  refine ev_iconst (pc' := 4) rfl rfl (v := (3 : Int32)) (by decide) ?_
  obtain ⟨q1, hq1, h⟩ := Option.bind_eq_some_iff.mp h
  refine ev_V3I (pc' := 7) rfl (by decide) rfl mth_118 ⟨Nat.le_of_ble_eq_true rfl, rfl⟩ ⟨Nat.le_refl _, Nat.le_refl _⟩ (d_X7_ofShip hq1) ?_
  refine ev_iadd (pc' := 8) rfl rfl ?_
  refine ev_istore (pc' := 10) rfl rfl (l' := [some (aR 7 i0), some (aI p1), some (aI p2), some (aI p3), some (aI (p3 + q1)), none, none, none, none]) rfl ?_
  refine ev_aload_n (pc' := 11) rfl rfl rfl ?_
  refine ev_iload_n (pc' := 12) rfl rfl rfl ?_
  refine ev_bipush (pc' := 14) rfl rfl (v := (6 : Int32)) (by decide) ?_
  obtain ⟨q2, hq2, h⟩ := Option.bind_eq_some_iff.mp h
  refine ev_V3I (pc' := 17) rfl (by decide) rfl mth_117 ⟨Nat.le_of_ble_eq_true rfl, rfl⟩ ⟨Nat.le_refl _, Nat.le_refl _⟩ (d_X7_ofTug hq2) ?_
  refine ev_istore (pc' := 19) rfl rfl (l' := [some (aR 7 i0), some (aI p1), some (aI p2), some (aI p3), some (aI (p3 + q1)), some (aI q2), none, none, none]) rfl ?_
  refine ev_iconst (pc' := 20) rfl rfl (v := (0 : Int32)) (by decide) ?_
  refine ev_istore (pc' := 22) rfl rfl (l' := [some (aR 7 i0), some (aI p1), some (aI p2), some (aI p3), some (aI (p3 + q1)), some (aI q2), some (aI (0 : Int32)), none, none]) rfl ?_
  refine ev_iconst (pc' := 23) rfl rfl (v := (-1 : Int32)) (by decide) ?_
  refine ev_istore (pc' := 25) rfl rfl (l' := [some (aR 7 i0), some (aI p1), some (aI p2), some (aI p3), some (aI (p3 + q1)), some (aI q2), some (aI (0 : Int32)), some (aI (-1 : Int32)), none]) rfl ?_
  refine ev_iconst (pc' := 26) rfl rfl (v := (0 : Int32)) (by decide) ?_
  refine ev_istore (pc' := 28) rfl rfl (l' := [some (aR 7 i0), some (aI p1), some (aI p2), some (aI p3), some (aI (p3 + q1)), some (aI q2), some (aI (0 : Int32)), some (aI (-1 : Int32)), some (aI (0 : Int32))]) rfl ?_
  exact e_X7_comes_R28 hΨ FU h
def s_X7_failsAlone_154 (i0 : Nat) (p1 : Int32) (p2 : Int32) (p3 : Int32) (t0 : Bool) (g : Nat → Nat → Nat → Int32) (w : Nat → Nat → Nat → Int64) : Option (Bool) :=
  some (t0)
set_option maxRecDepth 20000 in
set_option maxHeartbeats 2000000 in
theorem e_X7_failsAlone_154 {d : Nat} {Ψ : Option AV → DS → Prop} {i0 : Nat} {p1 : Int32} {p2 : Int32} {p3 : Int32} {r : Bool} {g : Nat → Nat → Nat → Int32} {w : Nat → Nat → Nat → Int64} {t0 : Bool} {x0 : Option AV} {x1 : Option AV} {x2 : Option AV} {x3 : Option AV} {x4 : Option AV} {x5 : Option AV} {x6 : Option AV} (hΨ : Ψ (some (aI (bI r))) (L0, g, w, q0)) (h : s_X7_failsAlone_154 i0 p1 p2 p3 t0 g w = some r) : Ev (EvM mth (d + 3)) mth c00 sc0 (retP (some .boolean) c00 Ψ) (lkp es_147) 154 [x0, x1, x2, x3, x4, x5, x6] [aI (bI t0)] (L0, g, w, q0) := by
  unfold s_X7_failsAlone_154 at h
  obtain rfl := Option.some.inj h
  exact ev_ireturn rfl ⟨⟨_, rfl, nar_bI _⟩, rfl, rfl, hΨ⟩
def s_X7_failsAlone_112 (i0 : Nat) (p1 : Int32) (p2 : Int32) (p3 : Int32) (rec74 : Int32 → Bool → Int32 → (Nat → Nat → Nat → Int32) → (Nat → Nat → Nat → Int64) → Option (Bool)) (t0 : Bool) (v4 : Int32) (v6 : Int32) (g : Nat → Nat → Nat → Int32) (w : Nat → Nat → Nat → Int64) : Option (Bool) :=
  rec74 v4 t0 (v6 + 1) g w
set_option maxRecDepth 20000 in
set_option maxHeartbeats 2000000 in
theorem e_X7_failsAlone_112 {d : Nat} {Ψ : Option AV → DS → Prop} {i0 : Nat} {p1 : Int32} {p2 : Int32} {p3 : Int32} {rec74 : Int32 → Bool → Int32 → (Nat → Nat → Nat → Int32) → (Nat → Nat → Nat → Int64) → Option (Bool)} {r : Bool} {g : Nat → Nat → Nat → Int32} {w : Nat → Nat → Nat → Int64} {t0 : Bool} {v4 : Int32} {v6 : Int32} {x1 : Option AV} {x3 : Option AV} {x5 : Option AV} (hr74 : ∀ {v4 : Int32} {v5 : Bool} {v6 : Int32} {x1 : Option AV} {x3 : Option AV} , rec74 v4 v5 v6 g w = some r → Ev (EvM mth (d + 3)) mth c00 sc0 (retP (some .boolean) c00 Ψ) (lkp es_147) 74 [some (aR 7 i0), x1, some (aI p2), x3, some (aI v4), some (aI (bI v5)), some (aI v6)] [] (L0, g, w, q0)) (hΨ : Ψ (some (aI (bI r))) (L0, g, w, q0)) (h : s_X7_failsAlone_112 i0 p1 p2 p3 rec74 t0 v4 v6 g w = some r) : Ev (EvM mth (d + 3)) mth c00 sc0 (retP (some .boolean) c00 Ψ) (lkp es_147) 112 [some (aR 7 i0), x1, some (aI p2), x3, some (aI v4), x5, some (aI v6)] [aI (bI t0)] (L0, g, w, q0) := by
  unfold s_X7_failsAlone_112 at h
  refine ev_istore (pc' := 114) rfl rfl (l' := [some (aR 7 i0), x1, some (aI p2), x3, some (aI v4), some (aI (bI t0)), some (aI v6)]) rfl ?_
  refine ev_iinc (pc' := 117) rfl rfl (l' := [some (aR 7 i0), x1, some (aI p2), x3, some (aI v4), some (aI (bI t0)), some (aI (v6 + 1))]) rfl (ii_1 _) rfl ?_
  refine ev_goto (pc' := 74) rfl ?_
  exact hr74 h
def s_X7_failsAlone_107 (i0 : Nat) (p1 : Int32) (p2 : Int32) (p3 : Int32) (rec74 : Int32 → Bool → Int32 → (Nat → Nat → Nat → Int32) → (Nat → Nat → Nat → Int64) → Option (Bool)) (v4 : Int32) (v6 : Int32) (g : Nat → Nat → Nat → Int32) (w : Nat → Nat → Nat → Int64) : Option (Bool) :=
  s_X7_failsAlone_112 i0 p1 p2 p3 rec74 true v4 v6 g w
set_option maxRecDepth 20000 in
set_option maxHeartbeats 2000000 in
theorem e_X7_failsAlone_107 {d : Nat} {Ψ : Option AV → DS → Prop} {i0 : Nat} {p1 : Int32} {p2 : Int32} {p3 : Int32} {rec74 : Int32 → Bool → Int32 → (Nat → Nat → Nat → Int32) → (Nat → Nat → Nat → Int64) → Option (Bool)} {r : Bool} {g : Nat → Nat → Nat → Int32} {w : Nat → Nat → Nat → Int64} {v4 : Int32} {v6 : Int32} {x1 : Option AV} {x3 : Option AV} {x5 : Option AV} (hr74 : ∀ {v4 : Int32} {v5 : Bool} {v6 : Int32} {x1 : Option AV} {x3 : Option AV} , rec74 v4 v5 v6 g w = some r → Ev (EvM mth (d + 3)) mth c00 sc0 (retP (some .boolean) c00 Ψ) (lkp es_147) 74 [some (aR 7 i0), x1, some (aI p2), x3, some (aI v4), some (aI (bI v5)), some (aI v6)] [] (L0, g, w, q0)) (hΨ : Ψ (some (aI (bI r))) (L0, g, w, q0)) (h : s_X7_failsAlone_107 i0 p1 p2 p3 rec74 v4 v6 g w = some r) : Ev (EvM mth (d + 3)) mth c00 sc0 (retP (some .boolean) c00 Ψ) (lkp es_147) 107 [some (aR 7 i0), x1, some (aI p2), x3, some (aI v4), x5, some (aI v6)] [] (L0, g, w, q0) := by
  unfold s_X7_failsAlone_107 at h
  refine ev_iconst (pc' := 108) rfl rfl (v := (1 : Int32)) (by decide) ?_
  refine ev_goto (pc' := 112) rfl ?_
  exact e_X7_failsAlone_112 (hr74 := hr74) hΨ h
def s_X7_failsAlone_74 (i0 : Nat) (p1 : Int32) (p2 : Int32) (p3 : Int32) (rec74 : Int32 → Bool → Int32 → (Nat → Nat → Nat → Int32) → (Nat → Nat → Nat → Int64) → Option (Bool)) (v4 : Int32) (v5 : Bool) (v6 : Int32) (g : Nat → Nat → Nat → Int32) (w : Nat → Nat → Nat → Int64) : Option (Bool) :=
  if v4 ≤ v6 then
    some (v5)
  else
    if v5 = true then
      s_X7_failsAlone_107 i0 p1 p2 p3 rec74 v4 v6 g w
    else
      if inR (v6 - v6 / (12 : Int32) * (12 : Int32)) 218 = true then
        (s_X7_ofShip i0 p2 (1 : Int32) g w).bind fun q1 =>
        if 0 ≤ (lg_cmp (w 2218 0 (v6 - v6 / (12 : Int32) * (12 : Int32)).toNatClampNeg) q1.toInt64) then
          s_X7_failsAlone_112 i0 p1 p2 p3 rec74 false v4 v6 g w
        else
          s_X7_failsAlone_107 i0 p1 p2 p3 rec74 v4 v6 g w
      else none
set_option maxRecDepth 20000 in
set_option maxHeartbeats 2000000 in
theorem e_X7_failsAlone_74 {d : Nat} {Ψ : Option AV → DS → Prop} {i0 : Nat} {p1 : Int32} {p2 : Int32} {p3 : Int32} {rec74 : Int32 → Bool → Int32 → (Nat → Nat → Nat → Int32) → (Nat → Nat → Nat → Int64) → Option (Bool)} {r : Bool} {g : Nat → Nat → Nat → Int32} {w : Nat → Nat → Nat → Int64} {v4 : Int32} {v5 : Bool} {v6 : Int32} {x1 : Option AV} {x3 : Option AV} (hr74 : ∀ {v4 : Int32} {v5 : Bool} {v6 : Int32} {x1 : Option AV} {x3 : Option AV} , rec74 v4 v5 v6 g w = some r → Ev (EvM mth (d + 3)) mth c00 sc0 (retP (some .boolean) c00 Ψ) (lkp es_147) 74 [some (aR 7 i0), x1, some (aI p2), x3, some (aI v4), some (aI (bI v5)), some (aI v6)] [] (L0, g, w, q0)) (hΨ : Ψ (some (aI (bI r))) (L0, g, w, q0)) (h : s_X7_failsAlone_74 i0 p1 p2 p3 rec74 v4 v5 v6 g w = some r) : Ev (EvM mth (d + 3)) mth c00 sc0 (retP (some .boolean) c00 Ψ) (lkp es_147) 74 [some (aR 7 i0), x1, some (aI p2), x3, some (aI v4), some (aI (bI v5)), some (aI v6)] [] (L0, g, w, q0) := by
  unfold s_X7_failsAlone_74 at h
  refine ev_iload (pc' := 76) rfl rfl rfl ?_
  refine ev_iload (pc' := 78) rfl rfl rfl ?_
  refine ev_icmp_ge rfl (pc' := 81) rfl (fun hc => ?_) (fun hc => ?_)
  · have h := (if_pos hc).symm.trans h
    refine ev_iload (pc' := 122) rfl rfl rfl ?_
    obtain rfl := Option.some.inj h
    exact ev_ireturn rfl ⟨⟨_, rfl, nar_bI _⟩, rfl, rfl, hΨ⟩
  · have h := (if_neg hc).symm.trans h
    refine ev_iload (pc' := 83) rfl rfl rfl ?_
    refine ev_ifB_ne rfl (pc' := 86) rfl (fun hc => ?_) (fun hc => ?_)
    · have h := (if_pos hc).symm.trans h
      exact e_X7_failsAlone_107 (hr74 := hr74) hΨ h
    · have h := (if_neg hc).symm.trans h
      refine ev_aload_n (pc' := 87) rfl rfl rfl ?_
      refine ev_getQ (pc' := 90) rfl rfl rfl ?_
      refine ev_iload (pc' := 92) rfl rfl rfl ?_
      refine ev_bipush (pc' := 94) rfl rfl (v := (12 : Int32)) (by decide) ?_
      refine ev_irem (pc' := 95) rfl rfl (by decide) ?_
      obtain ⟨hi, h⟩ := gdB h
      refine ev_lald (pc' := 96) rfl rfl rfl (inR_vp hi) ?_
      refine ev_aload_n (pc' := 97) rfl rfl rfl ?_
      refine ev_iload_n (pc' := 98) rfl rfl rfl ?_
      refine ev_iconst (pc' := 99) rfl rfl (v := (1 : Int32)) (by decide) ?_
      obtain ⟨q1, hq1, h⟩ := Option.bind_eq_some_iff.mp h
      refine ev_V3I (pc' := 102) rfl (by decide) rfl mth_118 ⟨Nat.le_of_ble_eq_true rfl, rfl⟩ ⟨Nat.le_refl _, Nat.le_refl _⟩ (d_X7_ofShip hq1) ?_
      refine ev_i2l (pc' := 103) rfl rfl ?_
      refine ev_lcmp (pc' := 104) rfl rfl ?_
      refine ev_if_ge rfl (pc' := 107) rfl (fun hc => ?_) (fun hc => ?_)
      · have h := (if_pos hc).symm.trans h
        refine ev_iconst (pc' := 112) rfl rfl (v := (0 : Int32)) (by decide) ?_
        exact e_X7_failsAlone_112 (hr74 := hr74) hΨ h
      · have h := (if_neg hc).symm.trans h
        exact e_X7_failsAlone_107 (hr74 := hr74) hΨ h
def s_X7_failsAlone_R74 (i0 : Nat) (p1 : Int32) (p2 : Int32) (p3 : Int32) : Nat → Int32 → Bool → Int32 → (Nat → Nat → Nat → Int32) → (Nat → Nat → Nat → Int64) → Option (Bool)
  | 0 => fun _ _ _ _ _ => none
  | n + 1 => s_X7_failsAlone_74 i0 p1 p2 p3 (s_X7_failsAlone_R74 i0 p1 p2 p3 n)
theorem e_X7_failsAlone_R74 {d : Nat} {Ψ : Option AV → DS → Prop} {i0 : Nat} {p1 : Int32} {p2 : Int32} {p3 : Int32} {r : Bool} {g : Nat → Nat → Nat → Int32} {w : Nat → Nat → Nat → Int64} (hΨ : Ψ (some (aI (bI r))) (L0, g, w, q0)) : ∀ (n : Nat) {v4 : Int32} {v5 : Bool} {v6 : Int32} {x1 : Option AV} {x3 : Option AV}, s_X7_failsAlone_R74 i0 p1 p2 p3 n v4 v5 v6 g w = some r → Ev (EvM mth (d + 3)) mth c00 sc0 (retP (some .boolean) c00 Ψ) (lkp es_147) 74 [some (aR 7 i0), x1, some (aI p2), x3, some (aI v4), some (aI (bI v5)), some (aI v6)] [] (L0, g, w, q0) := by
  intro n
  induction n with
  | zero => intros; rename_i h; exact absurd h (by intro h9; cases h9)
  | succ n ih => intros; rename_i h; exact e_X7_failsAlone_74 (hr74 := ih) hΨ h
def s_X7_failsAlone_70 (i0 : Nat) (p1 : Int32) (p2 : Int32) (p3 : Int32) (t0 : Bool) (g : Nat → Nat → Nat → Int32) (w : Nat → Nat → Nat → Int64) : Option (Bool) :=
  some (t0)
set_option maxRecDepth 20000 in
set_option maxHeartbeats 2000000 in
theorem e_X7_failsAlone_70 {d : Nat} {Ψ : Option AV → DS → Prop} {i0 : Nat} {p1 : Int32} {p2 : Int32} {p3 : Int32} {r : Bool} {g : Nat → Nat → Nat → Int32} {w : Nat → Nat → Nat → Int64} {t0 : Bool} {x0 : Option AV} {x1 : Option AV} {x2 : Option AV} {x3 : Option AV} {x4 : Option AV} {x5 : Option AV} {x6 : Option AV} (hΨ : Ψ (some (aI (bI r))) (L0, g, w, q0)) (h : s_X7_failsAlone_70 i0 p1 p2 p3 t0 g w = some r) : Ev (EvM mth (d + 3)) mth c00 sc0 (retP (some .boolean) c00 Ψ) (lkp es_147) 70 [x0, x1, x2, x3, x4, x5, x6] [aI (bI t0)] (L0, g, w, q0) := by
  unfold s_X7_failsAlone_70 at h
  obtain rfl := Option.some.inj h
  exact ev_ireturn rfl ⟨⟨_, rfl, nar_bI _⟩, rfl, rfl, hΨ⟩
def s_X7_failsAlone_65 (i0 : Nat) (p1 : Int32) (p2 : Int32) (p3 : Int32) (g : Nat → Nat → Nat → Int32) (w : Nat → Nat → Nat → Int64) : Option (Bool) :=
  s_X7_failsAlone_70 i0 p1 p2 p3 true g w
set_option maxRecDepth 20000 in
set_option maxHeartbeats 2000000 in
theorem e_X7_failsAlone_65 {d : Nat} {Ψ : Option AV → DS → Prop} {i0 : Nat} {p1 : Int32} {p2 : Int32} {p3 : Int32} {r : Bool} {g : Nat → Nat → Nat → Int32} {w : Nat → Nat → Nat → Int64} {x0 : Option AV} {x1 : Option AV} {x2 : Option AV} {x3 : Option AV} {x4 : Option AV} {x5 : Option AV} {x6 : Option AV} (hΨ : Ψ (some (aI (bI r))) (L0, g, w, q0)) (h : s_X7_failsAlone_65 i0 p1 p2 p3 g w = some r) : Ev (EvM mth (d + 3)) mth c00 sc0 (retP (some .boolean) c00 Ψ) (lkp es_147) 65 [x0, x1, x2, x3, x4, x5, x6] [] (L0, g, w, q0) := by
  unfold s_X7_failsAlone_65 at h
  refine ev_iconst (pc' := 66) rfl rfl (v := (1 : Int32)) (by decide) ?_
  refine ev_goto (pc' := 70) rfl ?_
  exact e_X7_failsAlone_70 hΨ h
def s_X7_failsAlone (i0 : Nat) (p1 : Int32) (p2 : Int32) (p3 : Int32) (g : Nat → Nat → Nat → Int32) (w : Nat → Nat → Nat → Int64) : Option (Bool) :=
  (s_X7_ofShip i0 p2 (3 : Int32) g w).bind fun q1 =>
  if p1 = (1 : Int32) then
    (s_X7_ofShip i0 p2 (2 : Int32) g w).bind fun q2 =>
    if p3 < q2 then
      s_X7_failsAlone_65 i0 p1 p2 p3 g w
    else
      if (p3 + q1) ≤ (48 : Int32) then
        s_X7_failsAlone_70 i0 p1 p2 p3 false g w
      else
        s_X7_failsAlone_65 i0 p1 p2 p3 g w
  else
  if p1 = (2 : Int32) then
    s_X7_failsAlone_R74 i0 p1 p2 p3 FU (p3 + q1) false p3 g w
  else
  if p1 = (9 : Int32) then
    (s_X7_isBarred i0 p2 p3 g w).bind fun q3 =>
    some (q3)
  else
    if (lg_cmp ((w 2218 0 (63 : Int32).toNatClampNeg) &&& (s_X7_hours p3 (p3 + q1) g w)) (0 : Int64)) = 0 then
      s_X7_failsAlone_154 i0 p1 p2 p3 false g w
    else
      s_X7_failsAlone_154 i0 p1 p2 p3 true g w
set_option maxRecDepth 20000 in
set_option maxHeartbeats 2000000 in
theorem d_X7_failsAlone {d : Nat} {i0 : Nat} {p1 : Int32} {p2 : Int32} {p3 : Int32} {g : Nat → Nat → Nat → Int32} {w : Nat → Nat → Nat → Int64} {r : Bool} (h : s_X7_failsAlone i0 p1 p2 p3 g w = some r) : Does (EvM mth (d + 4)) 147 [aR 7 i0, aI p1, aI p2, aI p3] (L0, g, w, q0) (some (aI (bI r))) (L0, g, w, q0) := by
  intro Ψ hΨ
  refine ⟨in_147, mth_147, Nat.le_of_ble_eq_true rfl, ?_⟩
  show Ev (EvM mth (d + 3)) mth c00 sc0 (retP (some .boolean) c00 Ψ) (lkp es_147) 0 [some (aR 7 i0), some (aI p1), some (aI p2), some (aI p3), none, none, none] [] (L0, g, w, q0)
  unfold s_X7_failsAlone at h
  refine ev_iload_n (pc' := 1) rfl rfl rfl ?_
  refine ev_aload_n (pc' := 2) rfl rfl rfl ?_
  refine ev_iload_n (pc' := 3) rfl rfl rfl ?_
  refine ev_iconst (pc' := 4) rfl rfl (v := (3 : Int32)) (by decide) ?_
  obtain ⟨q1, hq1, h⟩ := Option.bind_eq_some_iff.mp h
  refine ev_V3I (pc' := 7) rfl (by decide) rfl mth_118 ⟨Nat.le_of_ble_eq_true rfl, rfl⟩ ⟨Nat.le_refl _, Nat.le_refl _⟩ (d_X7_ofShip hq1) ?_
  refine ev_iadd (pc' := 8) rfl rfl ?_
  refine ev_istore (pc' := 10) rfl rfl (l' := [some (aR 7 i0), some (aI p1), some (aI p2), some (aI p3), some (aI (p3 + q1)), none, none]) rfl ?_
  refine ev_iconst (pc' := 11) rfl rfl (v := (0 : Int32)) (by decide) ?_
  refine ev_istore (pc' := 13) rfl rfl (l' := [some (aR 7 i0), some (aI p1), some (aI p2), some (aI p3), some (aI (p3 + q1)), some (aI (0 : Int32)), none]) rfl ?_
  refine ev_iload_n (pc' := 14) rfl rfl rfl ?_
  refine ev_lsw rfl (fun hd => ?_) (fun n u q9 hn hq9 hv => ?_)
  · skip
    have h := (if_neg (show ¬ p1 = (1 : Int32) from fun e9 => absurd (by rw [e9]; decide) (hd (1, 34) (by decide)))).symm.trans h
    have h := (if_neg (show ¬ p1 = (2 : Int32) from fun e9 => absurd (by rw [e9]; decide) (hd (2, 57) (by decide)))).symm.trans h
    have h := (if_neg (show ¬ p1 = (9 : Int32) from fun e9 => absurd (by rw [e9]; decide) (hd (9, 109) (by decide)))).symm.trans h
    refine ev_aload_n (pc' := 131) rfl rfl rfl ?_
    refine ev_getQ (pc' := 134) rfl rfl rfl ?_
    refine ev_bipush (pc' := 136) rfl rfl (v := (63 : Int32)) (by decide) ?_
    refine ev_lald (pc' := 137) rfl rfl rfl (inR_vp (by decide)) ?_
    refine ev_iload_n (pc' := 138) rfl rfl rfl ?_
    refine ev_iload (pc' := 140) rfl rfl rfl ?_
    refine ev_S2L (pc' := 143) rfl (by decide) rfl mth_134 ⟨Nat.le_of_ble_eq_true rfl, rfl⟩ ⟨Nat.le_refl _, Nat.le_refl _⟩ d_X7_hours ?_
    refine ev_land (pc' := 144) rfl rfl ?_
    refine ev_lconst (pc' := 145) rfl rfl (v := (0 : Int64)) (by decide) ?_
    refine ev_lcmp (pc' := 146) rfl rfl ?_
    refine ev_if_eq rfl (pc' := 149) rfl (fun hc => ?_) (fun hc => ?_)
    · have h := (if_pos hc).symm.trans h
      refine ev_iconst (pc' := 154) rfl rfl (v := (0 : Int32)) (by decide) ?_
      exact e_X7_failsAlone_154 hΨ h
    · have h := (if_neg hc).symm.trans h
      refine ev_iconst (pc' := 150) rfl rfl (v := (1 : Int32)) (by decide) ?_
      refine ev_goto (pc' := 154) rfl ?_
      exact e_X7_failsAlone_154 hΨ h
  · match n, hn, hq9 with
    | 0, hn, hq9 =>
      obtain rfl := Option.some.inj hn
      obtain rfl := Option.some.inj hq9
      have e9 : p1 = (1 : Int32) := Int32.toInt_inj.mp (hv.trans (by decide))
      have h := (if_pos e9).symm.trans h
      refine ev_iload_n (pc' := 49) rfl rfl rfl ?_
      refine ev_aload_n (pc' := 50) rfl rfl rfl ?_
      refine ev_iload_n (pc' := 51) rfl rfl rfl ?_
      refine ev_iconst (pc' := 52) rfl rfl (v := (2 : Int32)) (by decide) ?_
      obtain ⟨q2, hq2, h⟩ := Option.bind_eq_some_iff.mp h
      refine ev_V3I (pc' := 55) rfl (by decide) rfl mth_118 ⟨Nat.le_of_ble_eq_true rfl, rfl⟩ ⟨Nat.le_refl _, Nat.le_refl _⟩ (d_X7_ofShip hq2) ?_
      refine ev_icmp_lt rfl (pc' := 58) rfl (fun hc => ?_) (fun hc => ?_)
      · have h := (if_pos hc).symm.trans h
        exact e_X7_failsAlone_65 hΨ h
      · have h := (if_neg hc).symm.trans h
        refine ev_iload (pc' := 60) rfl rfl rfl ?_
        refine ev_bipush (pc' := 62) rfl rfl (v := (48 : Int32)) (by decide) ?_
        refine ev_icmp_le rfl (pc' := 65) rfl (fun hc => ?_) (fun hc => ?_)
        · have h := (if_pos hc).symm.trans h
          refine ev_iconst (pc' := 70) rfl rfl (v := (0 : Int32)) (by decide) ?_
          exact e_X7_failsAlone_70 hΨ h
        · have h := (if_neg hc).symm.trans h
          exact e_X7_failsAlone_65 hΨ h
    | 1, hn, hq9 =>
      obtain rfl := Option.some.inj hn
      obtain rfl := Option.some.inj hq9
      have e9 : p1 = (2 : Int32) := Int32.toInt_inj.mp (hv.trans (by decide))
      have h := (if_neg (show ¬ p1 = (1 : Int32) from by rw [e9]; decide)).symm.trans h
      have h := (if_pos e9).symm.trans h
      refine ev_iload_n (pc' := 72) rfl rfl rfl ?_
      refine ev_istore (pc' := 74) rfl rfl (l' := [some (aR 7 i0), some (aI p1), some (aI p2), some (aI p3), some (aI (p3 + q1)), some (aI (0 : Int32)), some (aI p3)]) rfl ?_
      exact e_X7_failsAlone_R74 hΨ FU h
    | 2, hn, hq9 =>
      obtain rfl := Option.some.inj hn
      obtain rfl := Option.some.inj hq9
      have e9 : p1 = (9 : Int32) := Int32.toInt_inj.mp (hv.trans (by decide))
      have h := (if_neg (show ¬ p1 = (1 : Int32) from by rw [e9]; decide)).symm.trans h
      have h := (if_neg (show ¬ p1 = (2 : Int32) from by rw [e9]; decide)).symm.trans h
      have h := (if_pos e9).symm.trans h
      refine ev_aload_n (pc' := 124) rfl rfl rfl ?_
      refine ev_iload_n (pc' := 125) rfl rfl rfl ?_
      refine ev_iload_n (pc' := 126) rfl rfl rfl ?_
      obtain ⟨q3, hq3, h⟩ := Option.bind_eq_some_iff.mp h
      refine ev_V3I (pc' := 129) rfl (by decide) rfl mth_146 ⟨Nat.le_of_ble_eq_true rfl, rfl⟩ ⟨Nat.le_refl _, Nat.le_refl _⟩ (d_X7_isBarred hq3) ?_
      obtain rfl := Option.some.inj h
      exact ev_ireturn rfl ⟨⟨_, rfl, nar_bI _⟩, rfl, rfl, hΨ⟩
    | n + 3, hn, hq9 => exact absurd hn (by simp)
def s_X7_takes_101 (i0 : Nat) (p1 : Int32) (p2 : Int32) (rec29 : Int32 → Int32 → Int32 → (Nat → Nat → Nat → Int32) → (Nat → Nat → Nat → Int64) → Option (Int32 × GS)) (v3 : Int32) (v4 : Int32) (v5 : Int32) (g : Nat → Nat → Nat → Int32) (w : Nat → Nat → Nat → Int64) : Option (Int32 × GS) :=
  rec29 v3 v4 (v5 + 1) g w
set_option maxRecDepth 20000 in
set_option maxHeartbeats 2000000 in
theorem e_X7_takes_101 {d : Nat} {Ψ : Option AV → DS → Prop} {i0 : Nat} {p1 : Int32} {p2 : Int32} {rec29 : Int32 → Int32 → Int32 → (Nat → Nat → Nat → Int32) → (Nat → Nat → Nat → Int64) → Option (Int32 × GS)} {r : Int32 × GS} {g : Nat → Nat → Nat → Int32} {w : Nat → Nat → Nat → Int64} {v3 : Int32} {v4 : Int32} {v5 : Int32} {x2 : Option AV} (hr29 : ∀ {v3 : Int32} {v4 : Int32} {v5 : Int32} {x2 : Option AV} {g : Nat → Nat → Nat → Int32} {w : Nat → Nat → Nat → Int64} , rec29 v3 v4 v5 g w = some r → Ev (EvM mth (d + 3)) mth c00 sc0 (retP (some .int) c00 Ψ) (lkp es_155) 29 [some (aR 7 i0), some (aI p1), x2, some (aI v3), some (aI v4), some (aI v5)] [] (L0, g, w, q0)) (hΨ : Ψ (some (aI r.1)) (L0, r.2.1, r.2.2, q0)) (h : s_X7_takes_101 i0 p1 p2 rec29 v3 v4 v5 g w = some r) : Ev (EvM mth (d + 3)) mth c00 sc0 (retP (some .int) c00 Ψ) (lkp es_155) 101 [some (aR 7 i0), some (aI p1), x2, some (aI v3), some (aI v4), some (aI v5)] [] (L0, g, w, q0) := by
  unfold s_X7_takes_101 at h
  refine ev_iinc (pc' := 104) rfl rfl (l' := [some (aR 7 i0), some (aI p1), x2, some (aI v3), some (aI v4), some (aI (v5 + 1))]) rfl (ii_1 _) rfl ?_
  refine ev_goto (pc' := 29) rfl ?_
  exact hr29 h
def s_X7_takes_29 (i0 : Nat) (p1 : Int32) (p2 : Int32) (rec29 : Int32 → Int32 → Int32 → (Nat → Nat → Nat → Int32) → (Nat → Nat → Nat → Int64) → Option (Int32 × GS)) (v3 : Int32) (v4 : Int32) (v5 : Int32) (g : Nat → Nat → Nat → Int32) (w : Nat → Nat → Nat → Int64) : Option (Int32 × GS) :=
  if 0 ≤ (lg_cmp v5.toInt64 (w 2218 0 (64 : Int32).toNatClampNeg)) then
    if inR (((130 : Int32) + ((11 : Int32) * p1)) + (7 : Int32)) 218 = true then
      if inR (((130 : Int32) + ((11 : Int32) * p1)) + (8 : Int32)) 218 = true then
        some ((v3, g, (wL (wL w 2218 0 (((130 : Int32) + ((11 : Int32) * p1)) + (7 : Int32)).toNatClampNeg (-4 : Int64)) 2218 0 (((130 : Int32) + ((11 : Int32) * p1)) + (8 : Int32)).toNatClampNeg (0 : Int64))))
      else none
    else none
  else
    (s_X7_isOf i0 p1 v5 g w).bind fun q1 =>
    if q1 = true then
      if inR (((70 : Int32) + ((10 : Int32) * v5)) + (8 : Int32)) 218 = true then
        (s_X7_last i0 p1 g w).bind fun q2 =>
        if inR (((70 : Int32) + ((10 : Int32) * v5)) + (8 : Int32)) 218 = true then
          (s_X7_last i0 p1 g (wL w 2218 0 (((70 : Int32) + ((10 : Int32) * v5)) + (8 : Int32)).toNatClampNeg ((w 2218 0 (((70 : Int32) + ((10 : Int32) * v5)) + (8 : Int32)).toNatClampNeg) &&& ((s_X7_hours v4 (q2 + (1 : Int32)) g w) ^^^ (-1 : Int64))))).bind fun q3 =>
          s_X7_takes_101 i0 p1 p2 rec29 (v3 + ((q3 + (1 : Int32)) - v4)) v4 v5 g (wL w 2218 0 (((70 : Int32) + ((10 : Int32) * v5)) + (8 : Int32)).toNatClampNeg ((w 2218 0 (((70 : Int32) + ((10 : Int32) * v5)) + (8 : Int32)).toNatClampNeg) &&& ((s_X7_hours v4 (q2 + (1 : Int32)) g w) ^^^ (-1 : Int64))))
        else none
      else none
    else
      s_X7_takes_101 i0 p1 p2 rec29 v3 v4 v5 g w
set_option maxRecDepth 20000 in
set_option maxHeartbeats 2000000 in
theorem e_X7_takes_29 {d : Nat} {Ψ : Option AV → DS → Prop} {i0 : Nat} {p1 : Int32} {p2 : Int32} {rec29 : Int32 → Int32 → Int32 → (Nat → Nat → Nat → Int32) → (Nat → Nat → Nat → Int64) → Option (Int32 × GS)} {r : Int32 × GS} {g : Nat → Nat → Nat → Int32} {w : Nat → Nat → Nat → Int64} {v3 : Int32} {v4 : Int32} {v5 : Int32} {x2 : Option AV} (hr29 : ∀ {v3 : Int32} {v4 : Int32} {v5 : Int32} {x2 : Option AV} {g : Nat → Nat → Nat → Int32} {w : Nat → Nat → Nat → Int64} , rec29 v3 v4 v5 g w = some r → Ev (EvM mth (d + 3)) mth c00 sc0 (retP (some .int) c00 Ψ) (lkp es_155) 29 [some (aR 7 i0), some (aI p1), x2, some (aI v3), some (aI v4), some (aI v5)] [] (L0, g, w, q0)) (hΨ : Ψ (some (aI r.1)) (L0, r.2.1, r.2.2, q0)) (h : s_X7_takes_29 i0 p1 p2 rec29 v3 v4 v5 g w = some r) : Ev (EvM mth (d + 3)) mth c00 sc0 (retP (some .int) c00 Ψ) (lkp es_155) 29 [some (aR 7 i0), some (aI p1), x2, some (aI v3), some (aI v4), some (aI v5)] [] (L0, g, w, q0) := by
  unfold s_X7_takes_29 at h
  refine ev_iload (pc' := 31) rfl rfl rfl ?_
  refine ev_i2l (pc' := 32) rfl rfl ?_
  refine ev_aload_n (pc' := 33) rfl rfl rfl ?_
  refine ev_getQ (pc' := 36) rfl rfl rfl ?_
  refine ev_bipush (pc' := 38) rfl rfl (v := (64 : Int32)) (by decide) ?_
  refine ev_lald (pc' := 39) rfl rfl rfl (inR_vp (by decide)) ?_
  refine ev_lcmp (pc' := 40) rfl rfl ?_
  refine ev_if_ge rfl (pc' := 43) rfl (fun hc => ?_) (fun hc => ?_)
  · have h := (if_pos hc).symm.trans h
    refine ev_aload_n (pc' := 108) rfl rfl rfl ?_
    refine ev_getQ (pc' := 111) rfl rfl rfl ?_
    refine ev_sipush (pc' := 114) rfl rfl (v := (130 : Int32)) (by decide) ?_
    refine ev_bipush (pc' := 116) rfl rfl (v := (11 : Int32)) (by decide) ?_
    refine ev_iload_n (pc' := 117) rfl rfl rfl ?_
    refine ev_imul (pc' := 118) rfl rfl ?_
    refine ev_iadd (pc' := 119) rfl rfl ?_
    refine ev_bipush (pc' := 121) rfl rfl (v := (7 : Int32)) (by decide) ?_
    refine ev_iadd (pc' := 122) rfl rfl ?_
    refine ev_ldc2_w (pc' := 125) rfl rfl (v := (-4 : Int64)) (by decide) ?_
    obtain ⟨hi, h⟩ := gdB h
    refine ev_last (pc' := 126) rfl rfl rfl (inR_vp hi) ?_
    refine ev_aload_n (pc' := 127) rfl rfl rfl ?_
    refine ev_getQ (pc' := 130) rfl rfl rfl ?_
    refine ev_sipush (pc' := 133) rfl rfl (v := (130 : Int32)) (by decide) ?_
    refine ev_bipush (pc' := 135) rfl rfl (v := (11 : Int32)) (by decide) ?_
    refine ev_iload_n (pc' := 136) rfl rfl rfl ?_
    refine ev_imul (pc' := 137) rfl rfl ?_
    refine ev_iadd (pc' := 138) rfl rfl ?_
    refine ev_bipush (pc' := 140) rfl rfl (v := (8 : Int32)) (by decide) ?_
    refine ev_iadd (pc' := 141) rfl rfl ?_
    refine ev_lconst (pc' := 142) rfl rfl (v := (0 : Int64)) (by decide) ?_
    obtain ⟨hi, h⟩ := gdB h
    refine ev_last (pc' := 143) rfl rfl rfl (inR_vp hi) ?_
    refine ev_iload_n (pc' := 144) rfl rfl rfl ?_
    obtain rfl := Option.some.inj h
    exact ev_ireturn rfl ⟨⟨_, rfl, rfl⟩, rfl, rfl, hΨ⟩
  · have h := (if_neg hc).symm.trans h
    refine ev_aload_n (pc' := 44) rfl rfl rfl ?_
    refine ev_iload_n (pc' := 45) rfl rfl rfl ?_
    refine ev_iload (pc' := 47) rfl rfl rfl ?_
    obtain ⟨q1, hq1, h⟩ := Option.bind_eq_some_iff.mp h
    refine ev_V3I (pc' := 50) rfl (by decide) rfl mth_143 ⟨Nat.le_of_ble_eq_true rfl, rfl⟩ ⟨Nat.le_refl _, Nat.le_refl _⟩ (d_X7_isOf hq1) ?_
    refine ev_ifB_eq rfl (pc' := 53) rfl (fun hc => ?_) (fun hc => ?_)
    · have h := (if_neg hc).symm.trans h
      exact e_X7_takes_101 (hr29 := hr29) hΨ h
    · have h := (if_pos hc).symm.trans h
      refine ev_aload_n (pc' := 54) rfl rfl rfl ?_
      refine ev_getQ (pc' := 57) rfl rfl rfl ?_
      refine ev_bipush (pc' := 59) rfl rfl (v := (70 : Int32)) (by decide) ?_
      refine ev_bipush (pc' := 61) rfl rfl (v := (10 : Int32)) (by decide) ?_
      refine ev_iload (pc' := 63) rfl rfl rfl ?_
      refine ev_imul (pc' := 64) rfl rfl ?_
      refine ev_iadd (pc' := 65) rfl rfl ?_
      refine ev_bipush (pc' := 67) rfl rfl (v := (8 : Int32)) (by decide) ?_
      refine ev_iadd (pc' := 68) rfl rfl ?_
      refine ev_dup2 (pc' := 69) rfl rfl rfl rfl ?_
      obtain ⟨hi, h⟩ := gdB h
      refine ev_lald (pc' := 70) rfl rfl rfl (inR_vp hi) ?_
      refine ev_iload (pc' := 72) rfl rfl rfl ?_
      refine ev_aload_n (pc' := 73) rfl rfl rfl ?_
      refine ev_iload_n (pc' := 74) rfl rfl rfl ?_
      obtain ⟨q2, hq2, h⟩ := Option.bind_eq_some_iff.mp h
      refine ev_V2I (pc' := 77) rfl (by decide) rfl mth_142 ⟨Nat.le_of_ble_eq_true rfl, rfl⟩ ⟨Nat.le_refl _, Nat.le_refl _⟩ (d_X7_last hq2) ?_
      refine ev_iconst (pc' := 78) rfl rfl (v := (1 : Int32)) (by decide) ?_
      refine ev_iadd (pc' := 79) rfl rfl ?_
      refine ev_S2L (pc' := 82) rfl (by decide) rfl mth_134 ⟨Nat.le_of_ble_eq_true rfl, rfl⟩ ⟨Nat.le_refl _, Nat.le_refl _⟩ d_X7_hours ?_
      refine ev_ldc2_w (pc' := 85) rfl rfl (v := (-1 : Int64)) (by decide) ?_
      refine ev_lxor (pc' := 86) rfl rfl ?_
      refine ev_land (pc' := 87) rfl rfl ?_
      obtain ⟨hi, h⟩ := gdB h
      refine ev_last (pc' := 88) rfl rfl rfl (inR_vp hi) ?_
      refine ev_iload_n (pc' := 89) rfl rfl rfl ?_
      refine ev_aload_n (pc' := 90) rfl rfl rfl ?_
      refine ev_iload_n (pc' := 91) rfl rfl rfl ?_
      obtain ⟨q3, hq3, h⟩ := Option.bind_eq_some_iff.mp h
      refine ev_V2I (pc' := 94) rfl (by decide) rfl mth_142 ⟨Nat.le_of_ble_eq_true rfl, rfl⟩ ⟨Nat.le_refl _, Nat.le_refl _⟩ (d_X7_last hq3) ?_
      refine ev_iconst (pc' := 95) rfl rfl (v := (1 : Int32)) (by decide) ?_
      refine ev_iadd (pc' := 96) rfl rfl ?_
      refine ev_iload (pc' := 98) rfl rfl rfl ?_
      refine ev_isub (pc' := 99) rfl rfl ?_
      refine ev_iadd (pc' := 100) rfl rfl ?_
      refine ev_istore_n (pc' := 101) rfl rfl (l' := [some (aR 7 i0), some (aI p1), (klO x2), some (aI (v3 + ((q3 + (1 : Int32)) - v4))), some (aI v4), some (aI v5)]) rfl ?_
      exact e_X7_takes_101 (hr29 := hr29) hΨ h
def s_X7_takes_R29 (i0 : Nat) (p1 : Int32) (p2 : Int32) : Nat → Int32 → Int32 → Int32 → (Nat → Nat → Nat → Int32) → (Nat → Nat → Nat → Int64) → Option (Int32 × GS)
  | 0 => fun _ _ _ _ _ => none
  | n + 1 => s_X7_takes_29 i0 p1 p2 (s_X7_takes_R29 i0 p1 p2 n)
theorem e_X7_takes_R29 {d : Nat} {Ψ : Option AV → DS → Prop} {i0 : Nat} {p1 : Int32} {p2 : Int32} {r : Int32 × GS} (hΨ : Ψ (some (aI r.1)) (L0, r.2.1, r.2.2, q0)) : ∀ (n : Nat) {v3 : Int32} {v4 : Int32} {v5 : Int32} {x2 : Option AV} {g : Nat → Nat → Nat → Int32} {w : Nat → Nat → Nat → Int64}, s_X7_takes_R29 i0 p1 p2 n v3 v4 v5 g w = some r → Ev (EvM mth (d + 3)) mth c00 sc0 (retP (some .int) c00 Ψ) (lkp es_155) 29 [some (aR 7 i0), some (aI p1), x2, some (aI v3), some (aI v4), some (aI v5)] [] (L0, g, w, q0) := by
  intro n
  induction n with
  | zero => intros; rename_i h; exact absurd h (by intro h9; cases h9)
  | succ n ih => intros; rename_i h; exact e_X7_takes_29 (hr29 := ih) hΨ h
def s_X7_takes_24 (i0 : Nat) (p1 : Int32) (p2 : Int32) (t0 : Int32) (g : Nat → Nat → Nat → Int32) (w : Nat → Nat → Nat → Int64) : Option (Int32 × GS) :=
  s_X7_takes_R29 i0 p1 p2 FU (0 : Int32) t0 (0 : Int32) g w
set_option maxRecDepth 20000 in
set_option maxHeartbeats 2000000 in
theorem e_X7_takes_24 {d : Nat} {Ψ : Option AV → DS → Prop} {i0 : Nat} {p1 : Int32} {p2 : Int32} {r : Int32 × GS} {g : Nat → Nat → Nat → Int32} {w : Nat → Nat → Nat → Int64} {t0 : Int32} {x2 : Option AV} {x4 : Option AV} {x5 : Option AV} (hΨ : Ψ (some (aI r.1)) (L0, r.2.1, r.2.2, q0)) (h : s_X7_takes_24 i0 p1 p2 t0 g w = some r) : Ev (EvM mth (d + 3)) mth c00 sc0 (retP (some .int) c00 Ψ) (lkp es_155) 24 [some (aR 7 i0), some (aI p1), x2, some (aI (0 : Int32)), x4, x5] [aI t0] (L0, g, w, q0) := by
  unfold s_X7_takes_24 at h
  refine ev_istore (pc' := 26) rfl rfl (l' := [some (aR 7 i0), some (aI p1), x2, some (aI (0 : Int32)), some (aI t0), x5]) rfl ?_
  refine ev_iconst (pc' := 27) rfl rfl (v := (0 : Int32)) (by decide) ?_
  refine ev_istore (pc' := 29) rfl rfl (l' := [some (aR 7 i0), some (aI p1), x2, some (aI (0 : Int32)), some (aI t0), some (aI (0 : Int32))]) rfl ?_
  exact e_X7_takes_R29 hΨ FU h
def s_X7_takes (i0 : Nat) (p1 : Int32) (p2 : Int32) (g : Nat → Nat → Nat → Int32) (w : Nat → Nat → Nat → Int64) : Option (Int32 × GS) :=
  (s_X7_ofShip i0 p1 (7 : Int32) g w).bind fun q1 =>
  if p2 ≤ q1 then
    (s_X7_ofShip i0 p1 (7 : Int32) g w).bind fun q2 =>
    s_X7_takes_24 i0 p1 p2 q2 g w
  else
    s_X7_takes_24 i0 p1 p2 p2 g w
set_option maxRecDepth 20000 in
set_option maxHeartbeats 2000000 in
theorem d_X7_takes {d : Nat} {i0 : Nat} {p1 : Int32} {p2 : Int32} {g : Nat → Nat → Nat → Int32} {w : Nat → Nat → Nat → Int64} {r : Int32 × GS} (h : s_X7_takes i0 p1 p2 g w = some r) : Does (EvM mth (d + 4)) 155 [aR 7 i0, aI p1, aI p2] (L0, g, w, q0) (some (aI r.1)) (L0, r.2.1, r.2.2, q0) := by
  intro Ψ hΨ
  refine ⟨in_155, mth_155, Nat.le_of_ble_eq_true rfl, ?_⟩
  show Ev (EvM mth (d + 3)) mth c00 sc0 (retP (some .int) c00 Ψ) (lkp es_155) 0 [some (aR 7 i0), some (aI p1), some (aI p2), none, none, none] [] (L0, g, w, q0)
  unfold s_X7_takes at h
  refine ev_iconst (pc' := 1) rfl rfl (v := (0 : Int32)) (by decide) ?_
  refine ev_istore_n (pc' := 2) rfl rfl (l' := [some (aR 7 i0), some (aI p1), some (aI p2), some (aI (0 : Int32)), none, none]) rfl ?_
  refine ev_aload_n (pc' := 3) rfl rfl rfl ?_
  refine ev_iload_n (pc' := 4) rfl rfl rfl ?_
  refine ev_bipush (pc' := 6) rfl rfl (v := (7 : Int32)) (by decide) ?_
  obtain ⟨q1, hq1, h⟩ := Option.bind_eq_some_iff.mp h
  refine ev_V3I (pc' := 9) rfl (by decide) rfl mth_118 ⟨Nat.le_of_ble_eq_true rfl, rfl⟩ ⟨Nat.le_refl _, Nat.le_refl _⟩ (d_X7_ofShip hq1) ?_
  refine ev_iload_n (pc' := 10) rfl rfl rfl ?_
  refine ev_icmp_ge rfl (pc' := 13) rfl (fun hc => ?_) (fun hc => ?_)
  · have h := (if_pos hc).symm.trans h
    refine ev_aload_n (pc' := 18) rfl rfl rfl ?_
    refine ev_iload_n (pc' := 19) rfl rfl rfl ?_
    refine ev_bipush (pc' := 21) rfl rfl (v := (7 : Int32)) (by decide) ?_
    obtain ⟨q2, hq2, h⟩ := Option.bind_eq_some_iff.mp h
    refine ev_V3I (pc' := 24) rfl (by decide) rfl mth_118 ⟨Nat.le_of_ble_eq_true rfl, rfl⟩ ⟨Nat.le_refl _, Nat.le_refl _⟩ (d_X7_ofShip hq2) ?_
    exact e_X7_takes_24 hΨ h
  · have h := (if_neg hc).symm.trans h
    refine ev_iload_n (pc' := 14) rfl rfl rfl ?_
    refine ev_goto (pc' := 24) rfl ?_
    exact e_X7_takes_24 hΨ h
def s_X7_price_86 (i0 : Nat) (p1 : Int32) (rec29 : Int64 → Int32 → (Nat → Nat → Nat → Int32) → (Nat → Nat → Nat → Int64) → Option (Int64)) (v2 : Int64) (v4 : Int32) (g : Nat → Nat → Nat → Int32) (w : Nat → Nat → Nat → Int64) : Option (Int64) :=
  rec29 v2 (v4 + 1) g w
set_option maxRecDepth 20000 in
set_option maxHeartbeats 2000000 in
theorem e_X7_price_86 {d : Nat} {Ψ : Option AV → DS → Prop} {i0 : Nat} {p1 : Int32} {rec29 : Int64 → Int32 → (Nat → Nat → Nat → Int32) → (Nat → Nat → Nat → Int64) → Option (Int64)} {r : Int64} {g : Nat → Nat → Nat → Int32} {w : Nat → Nat → Nat → Int64} {v2 : Int64} {v4 : Int32} {x3 : Option AV} (hr29 : ∀ {v2 : Int64} {v4 : Int32} {x3 : Option AV} , rec29 v2 v4 g w = some r → Ev (EvM mth (d + 3)) mth c00 sc0 (retP (some .long) c00 Ψ) (lkp es_184) 29 [some (aR 7 i0), some (aI p1), some (aL v2), x3, some (aI v4)] [] (L0, g, w, q0)) (hΨ : Ψ (some (aL r)) (L0, g, w, q0)) (h : s_X7_price_86 i0 p1 rec29 v2 v4 g w = some r) : Ev (EvM mth (d + 3)) mth c00 sc0 (retP (some .long) c00 Ψ) (lkp es_184) 86 [some (aR 7 i0), some (aI p1), some (aL v2), x3, some (aI v4)] [] (L0, g, w, q0) := by
  unfold s_X7_price_86 at h
  refine ev_iinc (pc' := 89) rfl rfl (l' := [some (aR 7 i0), some (aI p1), some (aL v2), (klO x3), some (aI (v4 + 1))]) rfl (ii_1 _) rfl ?_
  refine ev_goto (pc' := 29) rfl ?_
  exact hr29 h
def s_X7_price_84 (i0 : Nat) (p1 : Int32) (rec29 : Int64 → Int32 → (Nat → Nat → Nat → Int32) → (Nat → Nat → Nat → Int64) → Option (Int64)) (t0 : Int64) (t1 : Int64) (v4 : Int32) (g : Nat → Nat → Nat → Int32) (w : Nat → Nat → Nat → Int64) : Option (Int64) :=
  s_X7_price_86 i0 p1 rec29 (t0 + t1) v4 g w
set_option maxRecDepth 20000 in
set_option maxHeartbeats 2000000 in
theorem e_X7_price_84 {d : Nat} {Ψ : Option AV → DS → Prop} {i0 : Nat} {p1 : Int32} {rec29 : Int64 → Int32 → (Nat → Nat → Nat → Int32) → (Nat → Nat → Nat → Int64) → Option (Int64)} {r : Int64} {g : Nat → Nat → Nat → Int32} {w : Nat → Nat → Nat → Int64} {t0 : Int64} {t1 : Int64} {v4 : Int32} {x2 : Option AV} {x3 : Option AV} (hr29 : ∀ {v2 : Int64} {v4 : Int32} {x3 : Option AV} , rec29 v2 v4 g w = some r → Ev (EvM mth (d + 3)) mth c00 sc0 (retP (some .long) c00 Ψ) (lkp es_184) 29 [some (aR 7 i0), some (aI p1), some (aL v2), x3, some (aI v4)] [] (L0, g, w, q0)) (hΨ : Ψ (some (aL r)) (L0, g, w, q0)) (h : s_X7_price_84 i0 p1 rec29 t0 t1 v4 g w = some r) : Ev (EvM mth (d + 3)) mth c00 sc0 (retP (some .long) c00 Ψ) (lkp es_184) 84 [some (aR 7 i0), some (aI p1), x2, x3, some (aI v4)] [aL t1, aL t0] (L0, g, w, q0) := by
  unfold s_X7_price_84 at h
  refine ev_ladd (pc' := 85) rfl rfl ?_
  refine ev_lstore_n (pc' := 86) rfl rfl (l' := [some (aR 7 i0), some (aI p1), some (aL (t0 + t1)), none, some (aI v4)]) rfl ?_
  exact e_X7_price_86 (hr29 := hr29) hΨ h
def s_X7_price_29 (i0 : Nat) (p1 : Int32) (rec29 : Int64 → Int32 → (Nat → Nat → Nat → Int32) → (Nat → Nat → Nat → Int64) → Option (Int64)) (v2 : Int64) (v4 : Int32) (g : Nat → Nat → Nat → Int32) (w : Nat → Nat → Nat → Int64) : Option (Int64) :=
  if (g 7 i0 5) ≤ v4 then
    some (v2)
  else
    (s_X7_passes i0 v4 p1 g w).bind fun q1 =>
    if q1 = true then
      if inR v4 12 = true then
        if (g 1012 11 v4.toNatClampNeg) ≠ 0 then
          if inR v4 12 = true then
            s_X7_price_84 i0 p1 rec29 v2 ((v2 * (g 1012 12 v4.toNatClampNeg).toInt64) / (100 : Int64)) v4 g w
          else none
        else
          if inR v4 12 = true then
            s_X7_price_84 i0 p1 rec29 v2 (g 1012 12 v4.toNatClampNeg).toInt64 v4 g w
          else none
      else none
    else
      s_X7_price_86 i0 p1 rec29 v2 v4 g w
set_option maxRecDepth 20000 in
set_option maxHeartbeats 2000000 in
theorem e_X7_price_29 {d : Nat} {Ψ : Option AV → DS → Prop} {i0 : Nat} {p1 : Int32} {rec29 : Int64 → Int32 → (Nat → Nat → Nat → Int32) → (Nat → Nat → Nat → Int64) → Option (Int64)} {r : Int64} {g : Nat → Nat → Nat → Int32} {w : Nat → Nat → Nat → Int64} {v2 : Int64} {v4 : Int32} {x3 : Option AV} (hr29 : ∀ {v2 : Int64} {v4 : Int32} {x3 : Option AV} , rec29 v2 v4 g w = some r → Ev (EvM mth (d + 3)) mth c00 sc0 (retP (some .long) c00 Ψ) (lkp es_184) 29 [some (aR 7 i0), some (aI p1), some (aL v2), x3, some (aI v4)] [] (L0, g, w, q0)) (hΨ : Ψ (some (aL r)) (L0, g, w, q0)) (h : s_X7_price_29 i0 p1 rec29 v2 v4 g w = some r) : Ev (EvM mth (d + 3)) mth c00 sc0 (retP (some .long) c00 Ψ) (lkp es_184) 29 [some (aR 7 i0), some (aI p1), some (aL v2), x3, some (aI v4)] [] (L0, g, w, q0) := by
  unfold s_X7_price_29 at h
  refine ev_iload (pc' := 31) rfl rfl rfl ?_
  refine ev_aload_n (pc' := 32) rfl rfl rfl ?_
  refine ev_getI (pc' := 35) rfl rfl ?_
  refine ev_icmp_ge rfl (pc' := 38) rfl (fun hc => ?_) (fun hc => ?_)
  · have h := (if_pos hc).symm.trans h
    refine ev_lload_n (pc' := 93) rfl rfl rfl ?_
    obtain rfl := Option.some.inj h
    exact ev_lreturn rfl ⟨⟨_, rfl⟩, rfl, rfl, hΨ⟩
  · have h := (if_neg hc).symm.trans h
    refine ev_aload_n (pc' := 39) rfl rfl rfl ?_
    refine ev_iload (pc' := 41) rfl rfl rfl ?_
    refine ev_iload_n (pc' := 42) rfl rfl rfl ?_
    obtain ⟨q1, hq1, h⟩ := Option.bind_eq_some_iff.mp h
    refine ev_V3I (pc' := 45) rfl (by decide) rfl mth_183 ⟨Nat.le_of_ble_eq_true rfl, rfl⟩ ⟨Nat.le_refl _, Nat.le_refl _⟩ (d_X7_passes hq1) ?_
    refine ev_ifB_eq rfl (pc' := 48) rfl (fun hc => ?_) (fun hc => ?_)
    · have h := (if_neg hc).symm.trans h
      exact e_X7_price_86 (hr29 := hr29) hΨ h
    · have h := (if_pos hc).symm.trans h
      refine ev_lload_n (pc' := 49) rfl rfl rfl ?_
      refine ev_aload_n (pc' := 50) rfl rfl rfl ?_
      refine ev_getQ (pc' := 53) rfl rfl rfl ?_
      refine ev_iload (pc' := 55) rfl rfl rfl ?_
      obtain ⟨hi, h⟩ := gdB h
      refine ev_iald (pc' := 56) rfl rfl rfl (inR_vp hi) ?_
      refine ev_if_ne rfl (pc' := 59) rfl (fun hc => ?_) (fun hc => ?_)
      · have h := (if_pos hc).symm.trans h
        refine ev_lload_n (pc' := 71) rfl rfl rfl ?_
        refine ev_aload_n (pc' := 72) rfl rfl rfl ?_
        refine ev_getQ (pc' := 75) rfl rfl rfl ?_
        refine ev_iload (pc' := 77) rfl rfl rfl ?_
        obtain ⟨hi, h⟩ := gdB h
        refine ev_iald (pc' := 78) rfl rfl rfl (inR_vp hi) ?_
        refine ev_i2l (pc' := 79) rfl rfl ?_
        refine ev_lmul (pc' := 80) rfl rfl ?_
        refine ev_ldc2_w (pc' := 83) rfl rfl (v := (100 : Int64)) (by decide) ?_
        refine ev_ldiv (pc' := 84) rfl rfl (by decide) ?_
        exact e_X7_price_84 (hr29 := hr29) hΨ h
      · have h := (if_neg hc).symm.trans h
        refine ev_aload_n (pc' := 60) rfl rfl rfl ?_
        refine ev_getQ (pc' := 63) rfl rfl rfl ?_
        refine ev_iload (pc' := 65) rfl rfl rfl ?_
        obtain ⟨hi, h⟩ := gdB h
        refine ev_iald (pc' := 66) rfl rfl rfl (inR_vp hi) ?_
        refine ev_i2l (pc' := 67) rfl rfl ?_
        refine ev_goto (pc' := 84) rfl ?_
        exact e_X7_price_84 (hr29 := hr29) hΨ h
def s_X7_price_R29 (i0 : Nat) (p1 : Int32) : Nat → Int64 → Int32 → (Nat → Nat → Nat → Int32) → (Nat → Nat → Nat → Int64) → Option (Int64)
  | 0 => fun _ _ _ _ => none
  | n + 1 => s_X7_price_29 i0 p1 (s_X7_price_R29 i0 p1 n)
theorem e_X7_price_R29 {d : Nat} {Ψ : Option AV → DS → Prop} {i0 : Nat} {p1 : Int32} {r : Int64} {g : Nat → Nat → Nat → Int32} {w : Nat → Nat → Nat → Int64} (hΨ : Ψ (some (aL r)) (L0, g, w, q0)) : ∀ (n : Nat) {v2 : Int64} {v4 : Int32} {x3 : Option AV}, s_X7_price_R29 i0 p1 n v2 v4 g w = some r → Ev (EvM mth (d + 3)) mth c00 sc0 (retP (some .long) c00 Ψ) (lkp es_184) 29 [some (aR 7 i0), some (aI p1), some (aL v2), x3, some (aI v4)] [] (L0, g, w, q0) := by
  intro n
  induction n with
  | zero => intros; rename_i h; exact absurd h (by intro h9; cases h9)
  | succ n ih => intros; rename_i h; exact e_X7_price_29 (hr29 := ih) hΨ h
def s_X7_price (i0 : Nat) (p1 : Int32) (g : Nat → Nat → Nat → Int32) (w : Nat → Nat → Nat → Int64) : Option (Int64) :=
  if (s_X7_isShip i0 p1 g w) = true then
    (s_X7_hasJob i0 p1 g w).bind fun q1 =>
    if q1 = true then
      s_X7_price_R29 i0 p1 FU (0 : Int64) (0 : Int32) g w
    else
      some ((-1000000002 : Int64))
  else
    some ((-1000000001 : Int64))
set_option maxRecDepth 20000 in
set_option maxHeartbeats 2000000 in
theorem d_X7_price {d : Nat} {i0 : Nat} {p1 : Int32} {g : Nat → Nat → Nat → Int32} {w : Nat → Nat → Nat → Int64} {r : Int64} (h : s_X7_price i0 p1 g w = some r) : Does (EvM mth (d + 4)) 184 [aR 7 i0, aI p1] (L0, g, w, q0) (some (aL r)) (L0, g, w, q0) := by
  intro Ψ hΨ
  refine ⟨in_184, mth_184, Nat.le_of_ble_eq_true rfl, ?_⟩
  show Ev (EvM mth (d + 3)) mth c00 sc0 (retP (some .long) c00 Ψ) (lkp es_184) 0 [some (aR 7 i0), some (aI p1), none, none, none] [] (L0, g, w, q0)
  unfold s_X7_price at h
  refine ev_aload_n (pc' := 1) rfl rfl rfl ?_
  refine ev_iload_n (pc' := 2) rfl rfl rfl ?_
  refine ev_V2I (pc' := 5) rfl (by decide) rfl mth_120 ⟨Nat.le_of_ble_eq_true rfl, rfl⟩ ⟨Nat.le_refl _, Nat.le_refl _⟩ d_X7_isShip ?_
  refine ev_ifB_ne rfl (pc' := 8) rfl (fun hc => ?_) (fun hc => ?_)
  · have h := (if_pos hc).symm.trans h
    refine ev_aload_n (pc' := 13) rfl rfl rfl ?_
    refine ev_iload_n (pc' := 14) rfl rfl rfl ?_
    obtain ⟨q1, hq1, h⟩ := Option.bind_eq_some_iff.mp h
    refine ev_V2I (pc' := 17) rfl (by decide) rfl mth_125 ⟨Nat.le_of_ble_eq_true rfl, rfl⟩ ⟨Nat.le_refl _, Nat.le_refl _⟩ (d_X7_hasJob hq1) ?_
    refine ev_ifB_ne rfl (pc' := 20) rfl (fun hc => ?_) (fun hc => ?_)
    · have h := (if_pos hc).symm.trans h
      refine ev_lconst (pc' := 25) rfl rfl (v := (0 : Int64)) (by decide) ?_
      refine ev_lstore_n (pc' := 26) rfl rfl (l' := [some (aR 7 i0), some (aI p1), some (aL (0 : Int64)), none, none]) rfl ?_
      refine ev_iconst (pc' := 27) rfl rfl (v := (0 : Int32)) (by decide) ?_
      refine ev_istore (pc' := 29) rfl rfl (l' := [some (aR 7 i0), some (aI p1), some (aL (0 : Int64)), none, some (aI (0 : Int32))]) rfl ?_
      exact e_X7_price_R29 hΨ FU h
    · have h := (if_neg hc).symm.trans h
      refine ev_ldc2_w (pc' := 23) rfl rfl (v := (-1000000002 : Int64)) (by decide) ?_
      obtain rfl := Option.some.inj h
      exact ev_lreturn rfl ⟨⟨_, rfl⟩, rfl, rfl, hΨ⟩
  · have h := (if_neg hc).symm.trans h
    refine ev_ldc2_w (pc' := 11) rfl rfl (v := (-1000000001 : Int64)) (by decide) ?_
    obtain rfl := Option.some.inj h
    exact ev_lreturn rfl ⟨⟨_, rfl⟩, rfl, rfl, hΨ⟩
def s_X7_berthOf_63 (i0 : Nat) (p1 : Int32) (rec13 : Int32 → Int32 → Int32 → (Nat → Nat → Nat → Int32) → (Nat → Nat → Nat → Int64) → Option (Int32)) (v2 : Int32) (v3 : Int32) (v4 : Int32) (g : Nat → Nat → Nat → Int32) (w : Nat → Nat → Nat → Int64) : Option (Int32) :=
  rec13 v2 v3 (v4 + 1) g w
set_option maxRecDepth 20000 in
set_option maxHeartbeats 2000000 in
theorem e_X7_berthOf_63 {d : Nat} {Ψ : Option AV → DS → Prop} {i0 : Nat} {p1 : Int32} {rec13 : Int32 → Int32 → Int32 → (Nat → Nat → Nat → Int32) → (Nat → Nat → Nat → Int64) → Option (Int32)} {r : Int32} {g : Nat → Nat → Nat → Int32} {w : Nat → Nat → Nat → Int64} {v2 : Int32} {v3 : Int32} {v4 : Int32} (hr13 : ∀ {v2 : Int32} {v3 : Int32} {v4 : Int32} , rec13 v2 v3 v4 g w = some r → Ev (EvM mth (d + 3)) mth c00 sc0 (retP (some .int) c00 Ψ) (lkp es_187) 13 [some (aR 7 i0), some (aI p1), some (aI v2), some (aI v3), some (aI v4)] [] (L0, g, w, q0)) (hΨ : Ψ (some (aI r)) (L0, g, w, q0)) (h : s_X7_berthOf_63 i0 p1 rec13 v2 v3 v4 g w = some r) : Ev (EvM mth (d + 3)) mth c00 sc0 (retP (some .int) c00 Ψ) (lkp es_187) 63 [some (aR 7 i0), some (aI p1), some (aI v2), some (aI v3), some (aI v4)] [] (L0, g, w, q0) := by
  unfold s_X7_berthOf_63 at h
  refine ev_iinc (pc' := 66) rfl rfl (l' := [some (aR 7 i0), some (aI p1), some (aI v2), some (aI v3), some (aI (v4 + 1))]) rfl (ii_1 _) rfl ?_
  refine ev_goto (pc' := 13) rfl ?_
  exact hr13 h
def s_X7_berthOf_13 (i0 : Nat) (p1 : Int32) (rec13 : Int32 → Int32 → Int32 → (Nat → Nat → Nat → Int32) → (Nat → Nat → Nat → Int64) → Option (Int32)) (v2 : Int32) (v3 : Int32) (v4 : Int32) (g : Nat → Nat → Nat → Int32) (w : Nat → Nat → Nat → Int64) : Option (Int32) :=
  if 0 ≤ (lg_cmp v4.toInt64 (w 2218 0 (65 : Int32).toNatClampNeg)) then
    some (v2)
  else
    (s_X7_isOf i0 v4 p1 g w).bind fun q1 =>
    if q1 = true then
      (s_X7_last i0 v4 g w).bind fun q2 =>
      if q2 ≤ v3 then
        s_X7_berthOf_63 i0 p1 rec13 v2 v3 v4 g w
      else
        (s_X7_last i0 v4 g w).bind fun q3 =>
        (s_X7_ofShip i0 v4 (6 : Int32) g w).bind fun q4 =>
        s_X7_berthOf_63 i0 p1 rec13 q4 q3 v4 g w
    else
      s_X7_berthOf_63 i0 p1 rec13 v2 v3 v4 g w
set_option maxRecDepth 20000 in
set_option maxHeartbeats 2000000 in
theorem e_X7_berthOf_13 {d : Nat} {Ψ : Option AV → DS → Prop} {i0 : Nat} {p1 : Int32} {rec13 : Int32 → Int32 → Int32 → (Nat → Nat → Nat → Int32) → (Nat → Nat → Nat → Int64) → Option (Int32)} {r : Int32} {g : Nat → Nat → Nat → Int32} {w : Nat → Nat → Nat → Int64} {v2 : Int32} {v3 : Int32} {v4 : Int32} (hr13 : ∀ {v2 : Int32} {v3 : Int32} {v4 : Int32} , rec13 v2 v3 v4 g w = some r → Ev (EvM mth (d + 3)) mth c00 sc0 (retP (some .int) c00 Ψ) (lkp es_187) 13 [some (aR 7 i0), some (aI p1), some (aI v2), some (aI v3), some (aI v4)] [] (L0, g, w, q0)) (hΨ : Ψ (some (aI r)) (L0, g, w, q0)) (h : s_X7_berthOf_13 i0 p1 rec13 v2 v3 v4 g w = some r) : Ev (EvM mth (d + 3)) mth c00 sc0 (retP (some .int) c00 Ψ) (lkp es_187) 13 [some (aR 7 i0), some (aI p1), some (aI v2), some (aI v3), some (aI v4)] [] (L0, g, w, q0) := by
  unfold s_X7_berthOf_13 at h
  refine ev_iload (pc' := 15) rfl rfl rfl ?_
  refine ev_i2l (pc' := 16) rfl rfl ?_
  refine ev_aload_n (pc' := 17) rfl rfl rfl ?_
  refine ev_getQ (pc' := 20) rfl rfl rfl ?_
  refine ev_bipush (pc' := 22) rfl rfl (v := (65 : Int32)) (by decide) ?_
  refine ev_lald (pc' := 23) rfl rfl rfl (inR_vp (by decide)) ?_
  refine ev_lcmp (pc' := 24) rfl rfl ?_
  refine ev_if_ge rfl (pc' := 27) rfl (fun hc => ?_) (fun hc => ?_)
  · have h := (if_pos hc).symm.trans h
    refine ev_iload_n (pc' := 70) rfl rfl rfl ?_
    obtain rfl := Option.some.inj h
    exact ev_ireturn rfl ⟨⟨_, rfl, rfl⟩, rfl, rfl, hΨ⟩
  · have h := (if_neg hc).symm.trans h
    refine ev_aload_n (pc' := 28) rfl rfl rfl ?_
    refine ev_iload (pc' := 30) rfl rfl rfl ?_
    refine ev_iload_n (pc' := 31) rfl rfl rfl ?_
    obtain ⟨q1, hq1, h⟩ := Option.bind_eq_some_iff.mp h
    refine ev_V3I (pc' := 34) rfl (by decide) rfl mth_143 ⟨Nat.le_of_ble_eq_true rfl, rfl⟩ ⟨Nat.le_refl _, Nat.le_refl _⟩ (d_X7_isOf hq1) ?_
    refine ev_ifB_eq rfl (pc' := 37) rfl (fun hc => ?_) (fun hc => ?_)
    · have h := (if_neg hc).symm.trans h
      exact e_X7_berthOf_63 (hr13 := hr13) hΨ h
    · have h := (if_pos hc).symm.trans h
      refine ev_aload_n (pc' := 38) rfl rfl rfl ?_
      refine ev_iload (pc' := 40) rfl rfl rfl ?_
      obtain ⟨q2, hq2, h⟩ := Option.bind_eq_some_iff.mp h
      refine ev_V2I (pc' := 43) rfl (by decide) rfl mth_142 ⟨Nat.le_of_ble_eq_true rfl, rfl⟩ ⟨Nat.le_refl _, Nat.le_refl _⟩ (d_X7_last hq2) ?_
      refine ev_iload_n (pc' := 44) rfl rfl rfl ?_
      refine ev_icmp_le rfl (pc' := 47) rfl (fun hc => ?_) (fun hc => ?_)
      · have h := (if_pos hc).symm.trans h
        exact e_X7_berthOf_63 (hr13 := hr13) hΨ h
      · have h := (if_neg hc).symm.trans h
        refine ev_aload_n (pc' := 48) rfl rfl rfl ?_
        refine ev_iload (pc' := 50) rfl rfl rfl ?_
        obtain ⟨q3, hq3, h⟩ := Option.bind_eq_some_iff.mp h
        refine ev_V2I (pc' := 53) rfl (by decide) rfl mth_142 ⟨Nat.le_of_ble_eq_true rfl, rfl⟩ ⟨Nat.le_refl _, Nat.le_refl _⟩ (d_X7_last hq3) ?_
        refine ev_istore_n (pc' := 54) rfl rfl (l' := [some (aR 7 i0), some (aI p1), some (aI v2), some (aI q3), some (aI v4)]) rfl ?_
        refine ev_aload_n (pc' := 55) rfl rfl rfl ?_
        refine ev_iload (pc' := 57) rfl rfl rfl ?_
        refine ev_bipush (pc' := 59) rfl rfl (v := (6 : Int32)) (by decide) ?_
        obtain ⟨q4, hq4, h⟩ := Option.bind_eq_some_iff.mp h
        refine ev_V3I (pc' := 62) rfl (by decide) rfl mth_118 ⟨Nat.le_of_ble_eq_true rfl, rfl⟩ ⟨Nat.le_refl _, Nat.le_refl _⟩ (d_X7_ofShip hq4) ?_
        refine ev_istore_n (pc' := 63) rfl rfl (l' := [some (aR 7 i0), some (aI p1), some (aI q4), some (aI q3), some (aI v4)]) rfl ?_
        exact e_X7_berthOf_63 (hr13 := hr13) hΨ h
def s_X7_berthOf_R13 (i0 : Nat) (p1 : Int32) : Nat → Int32 → Int32 → Int32 → (Nat → Nat → Nat → Int32) → (Nat → Nat → Nat → Int64) → Option (Int32)
  | 0 => fun _ _ _ _ _ => none
  | n + 1 => s_X7_berthOf_13 i0 p1 (s_X7_berthOf_R13 i0 p1 n)
theorem e_X7_berthOf_R13 {d : Nat} {Ψ : Option AV → DS → Prop} {i0 : Nat} {p1 : Int32} {r : Int32} {g : Nat → Nat → Nat → Int32} {w : Nat → Nat → Nat → Int64} (hΨ : Ψ (some (aI r)) (L0, g, w, q0)) : ∀ (n : Nat) {v2 : Int32} {v3 : Int32} {v4 : Int32} , s_X7_berthOf_R13 i0 p1 n v2 v3 v4 g w = some r → Ev (EvM mth (d + 3)) mth c00 sc0 (retP (some .int) c00 Ψ) (lkp es_187) 13 [some (aR 7 i0), some (aI p1), some (aI v2), some (aI v3), some (aI v4)] [] (L0, g, w, q0) := by
  intro n
  induction n with
  | zero => intros; rename_i h; exact absurd h (by intro h9; cases h9)
  | succ n ih => intros; rename_i h; exact e_X7_berthOf_13 (hr13 := ih) hΨ h
def s_X7_berthOf (i0 : Nat) (p1 : Int32) (g : Nat → Nat → Nat → Int32) (w : Nat → Nat → Nat → Int64) : Option (Int32) :=
  (s_X7_ofTug i0 p1 (6 : Int32) g w).bind fun q1 =>
  s_X7_berthOf_R13 i0 p1 FU q1 (-1 : Int32) (0 : Int32) g w
set_option maxRecDepth 20000 in
set_option maxHeartbeats 2000000 in
theorem d_X7_berthOf {d : Nat} {i0 : Nat} {p1 : Int32} {g : Nat → Nat → Nat → Int32} {w : Nat → Nat → Nat → Int64} {r : Int32} (h : s_X7_berthOf i0 p1 g w = some r) : Does (EvM mth (d + 4)) 187 [aR 7 i0, aI p1] (L0, g, w, q0) (some (aI r)) (L0, g, w, q0) := by
  intro Ψ hΨ
  refine ⟨in_187, mth_187, Nat.le_of_ble_eq_true rfl, ?_⟩
  show Ev (EvM mth (d + 3)) mth c00 sc0 (retP (some .int) c00 Ψ) (lkp es_187) 0 [some (aR 7 i0), some (aI p1), none, none, none] [] (L0, g, w, q0)
  unfold s_X7_berthOf at h
  refine ev_aload_n (pc' := 1) rfl rfl rfl ?_
  refine ev_iload_n (pc' := 2) rfl rfl rfl ?_
  refine ev_bipush (pc' := 4) rfl rfl (v := (6 : Int32)) (by decide) ?_
  obtain ⟨q1, hq1, h⟩ := Option.bind_eq_some_iff.mp h
  refine ev_V3I (pc' := 7) rfl (by decide) rfl mth_117 ⟨Nat.le_of_ble_eq_true rfl, rfl⟩ ⟨Nat.le_refl _, Nat.le_refl _⟩ (d_X7_ofTug hq1) ?_
  refine ev_istore_n (pc' := 8) rfl rfl (l' := [some (aR 7 i0), some (aI p1), some (aI q1), none, none]) rfl ?_
  refine ev_iconst (pc' := 9) rfl rfl (v := (-1 : Int32)) (by decide) ?_
  refine ev_istore_n (pc' := 10) rfl rfl (l' := [some (aR 7 i0), some (aI p1), some (aI q1), some (aI (-1 : Int32)), none]) rfl ?_
  refine ev_iconst (pc' := 11) rfl rfl (v := (0 : Int32)) (by decide) ?_
  refine ev_istore (pc' := 13) rfl rfl (l' := [some (aR 7 i0), some (aI p1), some (aI q1), some (aI (-1 : Int32)), some (aI (0 : Int32))]) rfl ?_
  exact e_X7_berthOf_R13 hΨ FU h
def s_X1_holdsForEach_37 (i0 : Nat) (p1 : Int32) (p2 : Nat) (p3 : Int32) (p4 : Int32) (rec3 : Int32 → (Nat → Nat → Nat → Int32) → (Nat → Nat → Nat → Int64) → Option (Bool)) (v5 : Int32) (g : Nat → Nat → Nat → Int32) (w : Nat → Nat → Nat → Int64) : Option (Bool) :=
  rec3 (v5 + 1) g w
set_option maxRecDepth 20000 in
set_option maxHeartbeats 2000000 in
theorem e_X1_holdsForEach_37 {d : Nat} {Ψ : Option AV → DS → Prop} {i0 : Nat} {p1 : Int32} {p2 : Nat} {p3 : Int32} {p4 : Int32} {rec3 : Int32 → (Nat → Nat → Nat → Int32) → (Nat → Nat → Nat → Int64) → Option (Bool)} {r : Bool} {g : Nat → Nat → Nat → Int32} {w : Nat → Nat → Nat → Int64} {v5 : Int32} (hr3 : ∀ {v5 : Int32} , rec3 v5 g w = some r → Ev (EvM mth (d + 4)) mth c00 sc0 (retP (some .boolean) c00 Ψ) (lkp es_23) 3 [some (aR 1 i0), some (aI p1), some (aR 4 p2), some (aI p3), some (aI p4), some (aI v5)] [] (L0, g, w, q0)) (hΨ : Ψ (some (aI (bI r))) (L0, g, w, q0)) (h : s_X1_holdsForEach_37 i0 p1 p2 p3 p4 rec3 v5 g w = some r) : Ev (EvM mth (d + 4)) mth c00 sc0 (retP (some .boolean) c00 Ψ) (lkp es_23) 37 [some (aR 1 i0), some (aI p1), some (aR 4 p2), some (aI p3), some (aI p4), some (aI v5)] [] (L0, g, w, q0) := by
  unfold s_X1_holdsForEach_37 at h
  refine ev_iinc (pc' := 40) rfl rfl (l' := [some (aR 1 i0), some (aI p1), some (aR 4 p2), some (aI p3), some (aI p4), some (aI (v5 + 1))]) rfl (ii_1 _) rfl ?_
  refine ev_goto (pc' := 3) rfl ?_
  exact hr3 h
def s_X1_holdsForEach_3 (i0 : Nat) (p1 : Int32) (p2 : Nat) (p3 : Int32) (p4 : Int32) (rec3 : Int32 → (Nat → Nat → Nat → Int32) → (Nat → Nat → Nat → Int64) → Option (Bool)) (v5 : Int32) (g : Nat → Nat → Nat → Int32) (w : Nat → Nat → Nat → Int64) : Option (Bool) :=
  if (6 : Int32) ≤ v5 then
    some (true)
  else
    if (s_X6_isIn v5 p4 g w) = true then
      (s_X1_holdsFor i0 p1 v5 p2 p3 g w).bind fun q1 =>
      if q1 = true then
        s_X1_holdsForEach_37 i0 p1 p2 p3 p4 rec3 v5 g w
      else
        some (false)
    else
      s_X1_holdsForEach_37 i0 p1 p2 p3 p4 rec3 v5 g w
set_option maxRecDepth 20000 in
set_option maxHeartbeats 2000000 in
theorem e_X1_holdsForEach_3 {d : Nat} {Ψ : Option AV → DS → Prop} {i0 : Nat} {p1 : Int32} {p2 : Nat} {p3 : Int32} {p4 : Int32} {rec3 : Int32 → (Nat → Nat → Nat → Int32) → (Nat → Nat → Nat → Int64) → Option (Bool)} {r : Bool} {g : Nat → Nat → Nat → Int32} {w : Nat → Nat → Nat → Int64} {v5 : Int32} (hr3 : ∀ {v5 : Int32} , rec3 v5 g w = some r → Ev (EvM mth (d + 4)) mth c00 sc0 (retP (some .boolean) c00 Ψ) (lkp es_23) 3 [some (aR 1 i0), some (aI p1), some (aR 4 p2), some (aI p3), some (aI p4), some (aI v5)] [] (L0, g, w, q0)) (hΨ : Ψ (some (aI (bI r))) (L0, g, w, q0)) (h : s_X1_holdsForEach_3 i0 p1 p2 p3 p4 rec3 v5 g w = some r) : Ev (EvM mth (d + 4)) mth c00 sc0 (retP (some .boolean) c00 Ψ) (lkp es_23) 3 [some (aR 1 i0), some (aI p1), some (aR 4 p2), some (aI p3), some (aI p4), some (aI v5)] [] (L0, g, w, q0) := by
  unfold s_X1_holdsForEach_3 at h
  refine ev_iload (pc' := 5) rfl rfl rfl ?_
  refine ev_aload_n (pc' := 6) rfl rfl rfl ?_
  refine ev_getQ (pc' := 9) rfl rfl rfl ?_
  refine ev_alen (pc' := 10) rfl rfl (by decide) (v := (6 : Int32)) (by decide) ?_
  refine ev_icmp_ge rfl (pc' := 13) rfl (fun hc => ?_) (fun hc => ?_)
  · have h := (if_pos hc).symm.trans h
    refine ev_iconst (pc' := 44) rfl rfl (v := (1 : Int32)) (by decide) ?_
    obtain rfl := Option.some.inj h
    exact ev_ireturn rfl ⟨⟨_, rfl, rfl⟩, rfl, rfl, hΨ⟩
  · have h := (if_neg hc).symm.trans h
    refine ev_iload (pc' := 15) rfl rfl rfl ?_
    refine ev_iload (pc' := 17) rfl rfl rfl ?_
    refine ev_S2I (pc' := 20) rfl (by decide) rfl mth_113 ⟨Nat.le_of_ble_eq_true rfl, rfl⟩ ⟨Nat.le_refl _, Nat.le_refl _⟩ d_X6_isIn ?_
    refine ev_ifB_eq rfl (pc' := 23) rfl (fun hc => ?_) (fun hc => ?_)
    · have h := (if_neg hc).symm.trans h
      exact e_X1_holdsForEach_37 (hr3 := hr3) hΨ h
    · have h := (if_pos hc).symm.trans h
      refine ev_aload_n (pc' := 24) rfl rfl rfl ?_
      refine ev_iload_n (pc' := 25) rfl rfl rfl ?_
      refine ev_iload (pc' := 27) rfl rfl rfl ?_
      refine ev_aload_n (pc' := 28) rfl rfl rfl ?_
      refine ev_iload_n (pc' := 29) rfl rfl rfl ?_
      obtain ⟨q1, hq1, h⟩ := Option.bind_eq_some_iff.mp h
      refine ev_V5I (pc' := 32) rfl (by decide) rfl mth_24 ⟨Nat.le_of_ble_eq_true rfl, rfl⟩ ⟨Nat.le_refl _, Nat.le_refl _⟩ (d_X1_holdsFor hq1) ?_
      refine ev_ifB_ne rfl (pc' := 35) rfl (fun hc => ?_) (fun hc => ?_)
      · have h := (if_pos hc).symm.trans h
        exact e_X1_holdsForEach_37 (hr3 := hr3) hΨ h
      · have h := (if_neg hc).symm.trans h
        refine ev_iconst (pc' := 36) rfl rfl (v := (0 : Int32)) (by decide) ?_
        obtain rfl := Option.some.inj h
        exact ev_ireturn rfl ⟨⟨_, rfl, rfl⟩, rfl, rfl, hΨ⟩
def s_X1_holdsForEach_R3 (i0 : Nat) (p1 : Int32) (p2 : Nat) (p3 : Int32) (p4 : Int32) : Nat → Int32 → (Nat → Nat → Nat → Int32) → (Nat → Nat → Nat → Int64) → Option (Bool)
  | 0 => fun _ _ _ => none
  | n + 1 => s_X1_holdsForEach_3 i0 p1 p2 p3 p4 (s_X1_holdsForEach_R3 i0 p1 p2 p3 p4 n)
theorem e_X1_holdsForEach_R3 {d : Nat} {Ψ : Option AV → DS → Prop} {i0 : Nat} {p1 : Int32} {p2 : Nat} {p3 : Int32} {p4 : Int32} {r : Bool} {g : Nat → Nat → Nat → Int32} {w : Nat → Nat → Nat → Int64} (hΨ : Ψ (some (aI (bI r))) (L0, g, w, q0)) : ∀ (n : Nat) {v5 : Int32} , s_X1_holdsForEach_R3 i0 p1 p2 p3 p4 n v5 g w = some r → Ev (EvM mth (d + 4)) mth c00 sc0 (retP (some .boolean) c00 Ψ) (lkp es_23) 3 [some (aR 1 i0), some (aI p1), some (aR 4 p2), some (aI p3), some (aI p4), some (aI v5)] [] (L0, g, w, q0) := by
  intro n
  induction n with
  | zero => intros; rename_i h; exact absurd h (by intro h9; cases h9)
  | succ n ih => intros; rename_i h; exact e_X1_holdsForEach_3 (hr3 := ih) hΨ h
def s_X1_holdsForEach (i0 : Nat) (p1 : Int32) (p2 : Nat) (p3 : Int32) (p4 : Int32) (g : Nat → Nat → Nat → Int32) (w : Nat → Nat → Nat → Int64) : Option (Bool) :=
  s_X1_holdsForEach_R3 i0 p1 p2 p3 p4 FU (0 : Int32) g w
set_option maxRecDepth 20000 in
set_option maxHeartbeats 2000000 in
theorem d_X1_holdsForEach {d : Nat} {i0 : Nat} {p1 : Int32} {p2 : Nat} {p3 : Int32} {p4 : Int32} {g : Nat → Nat → Nat → Int32} {w : Nat → Nat → Nat → Int64} {r : Bool} (h : s_X1_holdsForEach i0 p1 p2 p3 p4 g w = some r) : Does (EvM mth (d + 5)) 23 [aR 1 i0, aI p1, aR 4 p2, aI p3, aI p4] (L0, g, w, q0) (some (aI (bI r))) (L0, g, w, q0) := by
  intro Ψ hΨ
  refine ⟨in_23, mth_23, Nat.le_of_ble_eq_true rfl, ?_⟩
  show Ev (EvM mth (d + 4)) mth c00 sc0 (retP (some .boolean) c00 Ψ) (lkp es_23) 0 [some (aR 1 i0), some (aI p1), some (aR 4 p2), some (aI p3), some (aI p4), none] [] (L0, g, w, q0)
  unfold s_X1_holdsForEach at h
  refine ev_iconst (pc' := 1) rfl rfl (v := (0 : Int32)) (by decide) ?_
  refine ev_istore (pc' := 3) rfl rfl (l' := [some (aR 1 i0), some (aI p1), some (aR 4 p2), some (aI p3), some (aI p4), some (aI (0 : Int32))]) rfl ?_
  exact e_X1_holdsForEach_R3 hΨ FU h
def s_X1_seekBest_76 (i0 : Nat) (p1 : Nat) (rec23 : Int64 → Int32 → (Nat → Nat → Nat → Int32) → (Nat → Nat → Nat → Int64) → Option (Int32 × GS)) (v2 : Int64) (v4 : Int32) (g : Nat → Nat → Nat → Int32) (w : Nat → Nat → Nat → Int64) : Option (Int32 × GS) :=
  rec23 v2 (v4 + 1) g w
set_option maxRecDepth 20000 in
set_option maxHeartbeats 2000000 in
theorem e_X1_seekBest_76 {d : Nat} {Ψ : Option AV → DS → Prop} {i0 : Nat} {p1 : Nat} {rec23 : Int64 → Int32 → (Nat → Nat → Nat → Int32) → (Nat → Nat → Nat → Int64) → Option (Int32 × GS)} {r : Int32 × GS} {g : Nat → Nat → Nat → Int32} {w : Nat → Nat → Nat → Int64} {v2 : Int64} {v4 : Int32} {x3 : Option AV} (hr23 : ∀ {v2 : Int64} {v4 : Int32} {x3 : Option AV} {g : Nat → Nat → Nat → Int32} {w : Nat → Nat → Nat → Int64} , rec23 v2 v4 g w = some r → Ev (EvM mth (d + 4)) mth c00 sc0 (retP (some .int) c00 Ψ) (lkp es_25) 23 [some (aR 1 i0), some (aR 4 p1), some (aL v2), x3, some (aI v4)] [] (L0, g, w, q0)) (hΨ : Ψ (some (aI r.1)) (L0, r.2.1, r.2.2, q0)) (h : s_X1_seekBest_76 i0 p1 rec23 v2 v4 g w = some r) : Ev (EvM mth (d + 4)) mth c00 sc0 (retP (some .int) c00 Ψ) (lkp es_25) 76 [some (aR 1 i0), some (aR 4 p1), some (aL v2), x3, some (aI v4)] [] (L0, g, w, q0) := by
  unfold s_X1_seekBest_76 at h
  refine ev_iinc (pc' := 79) rfl rfl (l' := [some (aR 1 i0), some (aR 4 p1), some (aL v2), (klO x3), some (aI (v4 + 1))]) rfl (ii_1 _) rfl ?_
  refine ev_goto (pc' := 23) rfl ?_
  exact hr23 h
def s_X1_seekBest_23 (i0 : Nat) (p1 : Nat) (rec23 : Int64 → Int32 → (Nat → Nat → Nat → Int32) → (Nat → Nat → Nat → Int64) → Option (Int32 × GS)) (v2 : Int64) (v4 : Int32) (g : Nat → Nat → Nat → Int32) (w : Nat → Nat → Nat → Int64) : Option (Int32 × GS) :=
  if (48 : Int32) < (v4 + (g 4 p1 3)) then
    some (((-4 : Int32), (gI g 1 i0 15 (0 : Int32)), w))
  else
    if (lg_cmp (v2 &&& (s_X4_hoursFrom p1 v4 g w)) (0 : Int64)) ≠ 0 then
      s_X1_seekBest_76 i0 p1 rec23 v2 v4 g w
    else
      (s_X1_tugsFor i0 p1 v4 g w).bind fun q1 =>
      (s_X1_leastSet i0 p1 v4 q1 g w).bind fun q2 =>
      if ((gI g 1 i0 15 q2) 1 i0 15) = 0 then
        s_X1_seekBest_76 i0 p1 rec23 v2 v4 (gI g 1 i0 15 q2) w
      else
        some ((v4, (gI g 1 i0 15 q2), w))
set_option maxRecDepth 20000 in
set_option maxHeartbeats 2000000 in
theorem e_X1_seekBest_23 {d : Nat} {Ψ : Option AV → DS → Prop} {i0 : Nat} {p1 : Nat} {rec23 : Int64 → Int32 → (Nat → Nat → Nat → Int32) → (Nat → Nat → Nat → Int64) → Option (Int32 × GS)} {r : Int32 × GS} {g : Nat → Nat → Nat → Int32} {w : Nat → Nat → Nat → Int64} {v2 : Int64} {v4 : Int32} {x3 : Option AV} (hr23 : ∀ {v2 : Int64} {v4 : Int32} {x3 : Option AV} {g : Nat → Nat → Nat → Int32} {w : Nat → Nat → Nat → Int64} , rec23 v2 v4 g w = some r → Ev (EvM mth (d + 4)) mth c00 sc0 (retP (some .int) c00 Ψ) (lkp es_25) 23 [some (aR 1 i0), some (aR 4 p1), some (aL v2), x3, some (aI v4)] [] (L0, g, w, q0)) (hΨ : Ψ (some (aI r.1)) (L0, r.2.1, r.2.2, q0)) (h : s_X1_seekBest_23 i0 p1 rec23 v2 v4 g w = some r) : Ev (EvM mth (d + 4)) mth c00 sc0 (retP (some .int) c00 Ψ) (lkp es_25) 23 [some (aR 1 i0), some (aR 4 p1), some (aL v2), x3, some (aI v4)] [] (L0, g, w, q0) := by
  unfold s_X1_seekBest_23 at h
  refine ev_iload (pc' := 25) rfl rfl rfl ?_
  refine ev_aload_n (pc' := 26) rfl rfl rfl ?_
  refine ev_getI (pc' := 29) rfl rfl ?_
  refine ev_iadd (pc' := 30) rfl rfl ?_
  refine ev_bipush (pc' := 32) rfl rfl (v := (48 : Int32)) (by decide) ?_
  refine ev_icmp_gt rfl (pc' := 35) rfl (fun hc => ?_) (fun hc => ?_)
  · have h := (if_pos hc).symm.trans h
    refine ev_aload_n (pc' := 83) rfl rfl rfl ?_
    refine ev_iconst (pc' := 84) rfl rfl (v := (0 : Int32)) (by decide) ?_
    refine ev_putI (pc' := 87) rfl rfl ?_
    refine ev_bipush (pc' := 89) rfl rfl (v := (-4 : Int32)) (by decide) ?_
    obtain rfl := Option.some.inj h
    exact ev_ireturn rfl ⟨⟨_, rfl, rfl⟩, rfl, rfl, hΨ⟩
  · have h := (if_neg hc).symm.trans h
    refine ev_lload_n (pc' := 36) rfl rfl rfl ?_
    refine ev_aload_n (pc' := 37) rfl rfl rfl ?_
    refine ev_iload (pc' := 39) rfl rfl rfl ?_
    refine ev_V2L (pc' := 42) rfl (by decide) rfl mth_60 ⟨Nat.le_of_ble_eq_true rfl, rfl⟩ ⟨Nat.le_refl _, Nat.le_refl _⟩ d_X4_hoursFrom ?_
    refine ev_land (pc' := 43) rfl rfl ?_
    refine ev_lconst (pc' := 44) rfl rfl (v := (0 : Int64)) (by decide) ?_
    refine ev_lcmp (pc' := 45) rfl rfl ?_
    refine ev_if_ne rfl (pc' := 48) rfl (fun hc => ?_) (fun hc => ?_)
    · have h := (if_pos hc).symm.trans h
      exact e_X1_seekBest_76 (hr23 := hr23) hΨ h
    · have h := (if_neg hc).symm.trans h
      refine ev_aload_n (pc' := 49) rfl rfl rfl ?_
      refine ev_aload_n (pc' := 50) rfl rfl rfl ?_
      refine ev_aload_n (pc' := 51) rfl rfl rfl ?_
      refine ev_iload (pc' := 53) rfl rfl rfl ?_
      refine ev_aload_n (pc' := 54) rfl rfl rfl ?_
      refine ev_aload_n (pc' := 55) rfl rfl rfl ?_
      refine ev_iload (pc' := 57) rfl rfl rfl ?_
      obtain ⟨q1, hq1, h⟩ := Option.bind_eq_some_iff.mp h
      refine ev_V3I (pc' := 60) rfl (by decide) rfl mth_26 ⟨Nat.le_of_ble_eq_true rfl, rfl⟩ ⟨Nat.le_refl _, Nat.le_refl _⟩ (d_X1_tugsFor hq1) ?_
      obtain ⟨q2, hq2, h⟩ := Option.bind_eq_some_iff.mp h
      refine ev_V4I (pc' := 63) rfl (by decide) rfl mth_27 ⟨Nat.le_of_ble_eq_true rfl, rfl⟩ ⟨Nat.le_refl _, Nat.le_refl _⟩ (d_X1_leastSet hq2) ?_
      refine ev_putI (pc' := 66) rfl rfl ?_
      refine ev_aload_n (pc' := 67) rfl rfl rfl ?_
      refine ev_getI (pc' := 70) rfl rfl ?_
      refine ev_if_eq rfl (pc' := 73) rfl (fun hc => ?_) (fun hc => ?_)
      · have h := (if_pos hc).symm.trans h
        exact e_X1_seekBest_76 (hr23 := hr23) hΨ h
      · have h := (if_neg hc).symm.trans h
        refine ev_iload (pc' := 75) rfl rfl rfl ?_
        obtain rfl := Option.some.inj h
        exact ev_ireturn rfl ⟨⟨_, rfl, rfl⟩, rfl, rfl, hΨ⟩
def s_X1_seekBest_R23 (i0 : Nat) (p1 : Nat) : Nat → Int64 → Int32 → (Nat → Nat → Nat → Int32) → (Nat → Nat → Nat → Int64) → Option (Int32 × GS)
  | 0 => fun _ _ _ _ => none
  | n + 1 => s_X1_seekBest_23 i0 p1 (s_X1_seekBest_R23 i0 p1 n)
theorem e_X1_seekBest_R23 {d : Nat} {Ψ : Option AV → DS → Prop} {i0 : Nat} {p1 : Nat} {r : Int32 × GS} (hΨ : Ψ (some (aI r.1)) (L0, r.2.1, r.2.2, q0)) : ∀ (n : Nat) {v2 : Int64} {v4 : Int32} {x3 : Option AV} {g : Nat → Nat → Nat → Int32} {w : Nat → Nat → Nat → Int64}, s_X1_seekBest_R23 i0 p1 n v2 v4 g w = some r → Ev (EvM mth (d + 4)) mth c00 sc0 (retP (some .int) c00 Ψ) (lkp es_25) 23 [some (aR 1 i0), some (aR 4 p1), some (aL v2), x3, some (aI v4)] [] (L0, g, w, q0) := by
  intro n
  induction n with
  | zero => intros; rename_i h; exact absurd h (by intro h9; cases h9)
  | succ n ih => intros; rename_i h; exact e_X1_seekBest_23 (hr23 := ih) hΨ h
def s_X1_seekBest (i0 : Nat) (p1 : Nat) (g : Nat → Nat → Nat → Int32) (w : Nat → Nat → Nat → Int64) : Option (Int32 × GS) :=
  (s_X1_lowHours i0 p1 g w).bind fun q1 =>
  (s_X1_basinHours i0 p1 g w).bind fun q2 =>
  s_X1_seekBest_R23 i0 p1 FU (((w 1 i0 8) ||| q1) ||| q2) (g 4 p1 2) g w
set_option maxRecDepth 20000 in
set_option maxHeartbeats 2000000 in
theorem d_X1_seekBest {d : Nat} {i0 : Nat} {p1 : Nat} {g : Nat → Nat → Nat → Int32} {w : Nat → Nat → Nat → Int64} {r : Int32 × GS} (h : s_X1_seekBest i0 p1 g w = some r) : Does (EvM mth (d + 5)) 25 [aR 1 i0, aR 4 p1] (L0, g, w, q0) (some (aI r.1)) (L0, r.2.1, r.2.2, q0) := by
  intro Ψ hΨ
  refine ⟨in_25, mth_25, Nat.le_of_ble_eq_true rfl, ?_⟩
  show Ev (EvM mth (d + 4)) mth c00 sc0 (retP (some .int) c00 Ψ) (lkp es_25) 0 [some (aR 1 i0), some (aR 4 p1), none, none, none] [] (L0, g, w, q0)
  unfold s_X1_seekBest at h
  refine ev_aload_n (pc' := 1) rfl rfl rfl ?_
  refine ev_getL (pc' := 4) rfl rfl ?_
  refine ev_aload_n (pc' := 5) rfl rfl rfl ?_
  refine ev_aload_n (pc' := 6) rfl rfl rfl ?_
  obtain ⟨q1, hq1, h⟩ := Option.bind_eq_some_iff.mp h
  refine ev_V2L (pc' := 9) rfl (by decide) rfl mth_14 ⟨Nat.le_of_ble_eq_true rfl, rfl⟩ ⟨Nat.le_refl _, Nat.le_refl _⟩ (d_X1_lowHours hq1) ?_
  refine ev_lor (pc' := 10) rfl rfl ?_
  refine ev_aload_n (pc' := 11) rfl rfl rfl ?_
  refine ev_aload_n (pc' := 12) rfl rfl rfl ?_
  obtain ⟨q2, hq2, h⟩ := Option.bind_eq_some_iff.mp h
  refine ev_V2L (pc' := 15) rfl (by decide) rfl mth_15 ⟨Nat.le_of_ble_eq_true rfl, rfl⟩ ⟨Nat.le_refl _, Nat.le_refl _⟩ (d_X1_basinHours hq2) ?_
  refine ev_lor (pc' := 16) rfl rfl ?_
  refine ev_lstore_n (pc' := 17) rfl rfl (l' := [some (aR 1 i0), some (aR 4 p1), some (aL (((w 1 i0 8) ||| q1) ||| q2)), none, none]) rfl ?_
  refine ev_aload_n (pc' := 18) rfl rfl rfl ?_
  refine ev_getI (pc' := 21) rfl rfl ?_
  refine ev_istore (pc' := 23) rfl rfl (l' := [some (aR 1 i0), some (aR 4 p1), some (aL (((w 1 i0 8) ||| q1) ||| q2)), none, some (aI (g 4 p1 2))]) rfl ?_
  exact e_X1_seekBest_R23 hΨ FU h
def s_X1_lift (i0 : Nat) (p1 : Nat) (g : Nat → Nat → Nat → Int32) (w : Nat → Nat → Nat → Int64) : Option (GS) :=
  (s_X1_release i0 p1 (g 4 p1 8) (0 : Int32) g w).bind fun q1 =>
  some (((s_X4_dropJob p1 q1.2.1 q1.2.2).1, (s_X4_dropJob p1 q1.2.1 q1.2.2).2))
set_option maxRecDepth 20000 in
set_option maxHeartbeats 2000000 in
theorem d_X1_lift {d : Nat} {i0 : Nat} {p1 : Nat} {g : Nat → Nat → Nat → Int32} {w : Nat → Nat → Nat → Int64} {r : GS} (h : s_X1_lift i0 p1 g w = some r) : Does (EvM mth (d + 5)) 31 [aR 1 i0, aR 4 p1] (L0, g, w, q0) none (L0, r.1, r.2, q0) := by
  intro Ψ hΨ
  refine ⟨in_31, mth_31, Nat.le_of_ble_eq_true rfl, ?_⟩
  show Ev (EvM mth (d + 4)) mth c00 sc0 (retP (none) c00 Ψ) (lkp es_31) 0 [some (aR 1 i0), some (aR 4 p1)] [] (L0, g, w, q0)
  unfold s_X1_lift at h
  refine ev_aload_n (pc' := 1) rfl rfl rfl ?_
  refine ev_aload_n (pc' := 2) rfl rfl rfl ?_
  refine ev_aload_n (pc' := 3) rfl rfl rfl ?_
  refine ev_getI (pc' := 6) rfl rfl ?_
  refine ev_iconst (pc' := 7) rfl rfl (v := (0 : Int32)) (by decide) ?_
  obtain ⟨q1, hq1, h⟩ := Option.bind_eq_some_iff.mp h
  refine ev_V4I (pc' := 10) rfl (by decide) rfl mth_30 ⟨Nat.le_of_ble_eq_true rfl, rfl⟩ ⟨Nat.le_refl _, Nat.le_refl _⟩ (d_X1_release hq1) ?_
  refine ev_pop (pc' := 11) rfl rfl rfl ?_
  refine ev_aload_n (pc' := 12) rfl rfl rfl ?_
  refine ev_V1V (pc' := 15) rfl (by decide) rfl mth_57 ⟨Nat.le_of_ble_eq_true rfl, rfl⟩ ⟨Nat.le_refl _, Nat.le_refl _⟩ d_X4_dropJob ?_
  obtain rfl := Option.some.inj h
  exact ev_return rfl ⟨rfl, rfl, rfl, hΨ⟩
def s_X1_takeOff (i0 : Nat) (p1 : Nat) (p2 : Int32) (g : Nat → Nat → Nat → Int32) (w : Nat → Nat → Nat → Int64) : Option (Int32 × GS) :=
  (s_X1_release i0 p1 (g 4 p1 8) p2 g w).bind fun q1 =>
  some ((q1.1, (gI (s_X4_dropJob p1 q1.2.1 q1.2.2).1 1 i0 12 (((s_X4_dropJob p1 q1.2.1 q1.2.2).1 1 i0 12) + (1 : Int32))), (s_X4_dropJob p1 q1.2.1 q1.2.2).2))
set_option maxRecDepth 20000 in
set_option maxHeartbeats 2000000 in
theorem d_X1_takeOff {d : Nat} {i0 : Nat} {p1 : Nat} {p2 : Int32} {g : Nat → Nat → Nat → Int32} {w : Nat → Nat → Nat → Int64} {r : Int32 × GS} (h : s_X1_takeOff i0 p1 p2 g w = some r) : Does (EvM mth (d + 5)) 33 [aR 1 i0, aR 4 p1, aI p2] (L0, g, w, q0) (some (aI r.1)) (L0, r.2.1, r.2.2, q0) := by
  intro Ψ hΨ
  refine ⟨in_33, mth_33, Nat.le_of_ble_eq_true rfl, ?_⟩
  show Ev (EvM mth (d + 4)) mth c00 sc0 (retP (some .int) c00 Ψ) (lkp es_33) 0 [some (aR 1 i0), some (aR 4 p1), some (aI p2), none] [] (L0, g, w, q0)
  unfold s_X1_takeOff at h
  refine ev_aload_n (pc' := 1) rfl rfl rfl ?_
  refine ev_aload_n (pc' := 2) rfl rfl rfl ?_
  refine ev_aload_n (pc' := 3) rfl rfl rfl ?_
  refine ev_getI (pc' := 6) rfl rfl ?_
  refine ev_iload_n (pc' := 7) rfl rfl rfl ?_
  obtain ⟨q1, hq1, h⟩ := Option.bind_eq_some_iff.mp h
  refine ev_V4I (pc' := 10) rfl (by decide) rfl mth_30 ⟨Nat.le_of_ble_eq_true rfl, rfl⟩ ⟨Nat.le_refl _, Nat.le_refl _⟩ (d_X1_release hq1) ?_
  refine ev_istore_n (pc' := 11) rfl rfl (l' := [some (aR 1 i0), some (aR 4 p1), some (aI p2), some (aI q1.1)]) rfl ?_
  refine ev_aload_n (pc' := 12) rfl rfl rfl ?_
  refine ev_V1V (pc' := 15) rfl (by decide) rfl mth_57 ⟨Nat.le_of_ble_eq_true rfl, rfl⟩ ⟨Nat.le_refl _, Nat.le_refl _⟩ d_X4_dropJob ?_
  refine ev_aload_n (pc' := 16) rfl rfl rfl ?_
  refine ev_dup (pc' := 17) rfl rfl rfl ?_
  refine ev_getI (pc' := 20) rfl rfl ?_
  refine ev_iconst (pc' := 21) rfl rfl (v := (1 : Int32)) (by decide) ?_
  refine ev_iadd (pc' := 22) rfl rfl ?_
  refine ev_putI (pc' := 25) rfl rfl ?_
  refine ev_iload_n (pc' := 26) rfl rfl rfl ?_
  obtain rfl := Option.some.inj h
  exact ev_ireturn rfl ⟨⟨_, rfl, rfl⟩, rfl, rfl, hΨ⟩
def s_X6_price_47 (i0 : Nat) (p1 : Int32) (t0 : Int64) (g : Nat → Nat → Nat → Int32) (w : Nat → Nat → Nat → Int64) : Option (Int64) :=
  some (t0)
set_option maxRecDepth 20000 in
set_option maxHeartbeats 2000000 in
theorem e_X6_price_47 {d : Nat} {Ψ : Option AV → DS → Prop} {i0 : Nat} {p1 : Int32} {r : Int64} {g : Nat → Nat → Nat → Int32} {w : Nat → Nat → Nat → Int64} {t0 : Int64} {x0 : Option AV} {x1 : Option AV} {x2 : Option AV} (hΨ : Ψ (some (aL r)) (L0, g, w, q0)) (h : s_X6_price_47 i0 p1 t0 g w = some r) : Ev (EvM mth (d + 4)) mth c00 sc0 (retP (some .long) c00 Ψ) (lkp es_98) 47 [x0, x1, x2] [aL t0] (L0, g, w, q0) := by
  unfold s_X6_price_47 at h
  obtain rfl := Option.some.inj h
  exact ev_lreturn rfl ⟨⟨_, rfl⟩, rfl, rfl, hΨ⟩
def s_X6_price (i0 : Nat) (p1 : Int32) (g : Nat → Nat → Nat → Int32) (w : Nat → Nat → Nat → Int64) : Option (Int64) :=
  if (s_X6_isShip i0 p1 g w) = true then
    if inR p1 8 = true then
      if (s_X4_hasJob (8 * 0 + p1.toNatClampNeg) g w) = true then
        (s_X3_priceOf 0 0 (8 * 0 + p1.toNatClampNeg) g w).bind fun q1 =>
        s_X6_price_47 i0 p1 q1 g w
      else
        s_X6_price_47 i0 p1 (-1000000002 : Int64) g w
    else none
  else
    some ((-1000000001 : Int64))
set_option maxRecDepth 20000 in
set_option maxHeartbeats 2000000 in
theorem d_X6_price {d : Nat} {i0 : Nat} {p1 : Int32} {g : Nat → Nat → Nat → Int32} {w : Nat → Nat → Nat → Int64} {r : Int64} (h : s_X6_price i0 p1 g w = some r) : Does (EvM mth (d + 5)) 98 [aR 6 i0, aI p1] (L0, g, w, q0) (some (aL r)) (L0, g, w, q0) := by
  intro Ψ hΨ
  refine ⟨in_98, mth_98, Nat.le_of_ble_eq_true rfl, ?_⟩
  show Ev (EvM mth (d + 4)) mth c00 sc0 (retP (some .long) c00 Ψ) (lkp es_98) 0 [some (aR 6 i0), some (aI p1), none] [] (L0, g, w, q0)
  unfold s_X6_price at h
  refine ev_aload_n (pc' := 1) rfl rfl rfl ?_
  refine ev_iload_n (pc' := 2) rfl rfl rfl ?_
  refine ev_V2I (pc' := 5) rfl (by decide) rfl mth_109 ⟨Nat.le_of_ble_eq_true rfl, rfl⟩ ⟨Nat.le_refl _, Nat.le_refl _⟩ d_X6_isShip ?_
  refine ev_ifB_ne rfl (pc' := 8) rfl (fun hc => ?_) (fun hc => ?_)
  · have h := (if_pos hc).symm.trans h
    refine ev_aload_n (pc' := 13) rfl rfl rfl ?_
    refine ev_getQ (pc' := 16) rfl rfl rfl ?_
    refine ev_getQ (pc' := 19) rfl rfl rfl ?_
    refine ev_iload_n (pc' := 20) rfl rfl rfl ?_
    obtain ⟨hi, h⟩ := gdB h
    refine ev_aald (pc' := 21) rfl rfl (by decide) rfl (inR_vp hi) rfl ?_
    refine ev_astore_n (pc' := 22) rfl rfl (l' := [some (aR 6 i0), some (aI p1), some (aR 4 (8 * 0 + p1.toNatClampNeg))]) rfl ?_
    refine ev_aload_n (pc' := 23) rfl rfl rfl ?_
    refine ev_V1I (pc' := 26) rfl (by decide) rfl mth_55 ⟨Nat.le_of_ble_eq_true rfl, rfl⟩ ⟨Nat.le_refl _, Nat.le_refl _⟩ d_X4_hasJob ?_
    refine ev_ifB_eq rfl (pc' := 29) rfl (fun hc => ?_) (fun hc => ?_)
    · have h := (if_neg hc).symm.trans h
      refine ev_ldc2_w (pc' := 47) rfl rfl (v := (-1000000002 : Int64)) (by decide) ?_
      exact e_X6_price_47 hΨ h
    · have h := (if_pos hc).symm.trans h
      refine ev_aload_n (pc' := 30) rfl rfl rfl ?_
      refine ev_getQ (pc' := 33) rfl rfl rfl ?_
      refine ev_aload_n (pc' := 34) rfl rfl rfl ?_
      refine ev_getQ (pc' := 37) rfl rfl rfl ?_
      refine ev_aload_n (pc' := 38) rfl rfl rfl ?_
      obtain ⟨q1, hq1, h⟩ := Option.bind_eq_some_iff.mp h
      refine ev_V3L (pc' := 41) rfl (by decide) rfl mth_50 ⟨Nat.le_of_ble_eq_true rfl, rfl⟩ ⟨Nat.le_refl _, Nat.le_refl _⟩ (d_X3_priceOf hq1) ?_
      refine ev_goto (pc' := 47) rfl ?_
      exact e_X6_price_47 hΨ h
  · have h := (if_neg hc).symm.trans h
    refine ev_ldc2_w (pc' := 11) rfl rfl (v := (-1000000001 : Int64)) (by decide) ?_
    obtain rfl := Option.some.inj h
    exact ev_lreturn rfl ⟨⟨_, rfl⟩, rfl, rfl, hΨ⟩
def s_X6_keep (i0 : Nat) (g : Nat → Nat → Nat → Int32) (w : Nat → Nat → Nat → Int64) : Option (Int32 × GS) :=
  if (s_X6_within (g 6 i0 5) (0 : Int32) ((3 : Int32) - (1 : Int32)) g w) = true then
    if inR (g 6 i0 5) 3 = true then
      (s_X1_copyFrom ((g 6 i0 5).toNatClampNeg + 2) 0 g w).bind fun q1 =>
      some ((((gI q1.1 6 i0 5 ((q1.1 6 i0 5) + (1 : Int32))) 6 i0 5), (gI q1.1 6 i0 5 ((q1.1 6 i0 5) + (1 : Int32))), q1.2))
    else none
  else
    some (((-3 : Int32), g, w))
set_option maxRecDepth 20000 in
set_option maxHeartbeats 2000000 in
theorem d_X6_keep {d : Nat} {i0 : Nat} {g : Nat → Nat → Nat → Int32} {w : Nat → Nat → Nat → Int64} {r : Int32 × GS} (h : s_X6_keep i0 g w = some r) : Does (EvM mth (d + 5)) 102 [aR 6 i0] (L0, g, w, q0) (some (aI r.1)) (L0, r.2.1, r.2.2, q0) := by
  intro Ψ hΨ
  refine ⟨in_102, mth_102, Nat.le_of_ble_eq_true rfl, ?_⟩
  show Ev (EvM mth (d + 4)) mth c00 sc0 (retP (some .int) c00 Ψ) (lkp es_102) 0 [some (aR 6 i0)] [] (L0, g, w, q0)
  unfold s_X6_keep at h
  refine ev_aload_n (pc' := 1) rfl rfl rfl ?_
  refine ev_getI (pc' := 4) rfl rfl ?_
  refine ev_iconst (pc' := 5) rfl rfl (v := (0 : Int32)) (by decide) ?_
  refine ev_aload_n (pc' := 6) rfl rfl rfl ?_
  refine ev_getQ (pc' := 9) rfl rfl rfl ?_
  refine ev_alen (pc' := 10) rfl rfl (by decide) (v := (3 : Int32)) (by decide) ?_
  refine ev_iconst (pc' := 11) rfl rfl (v := (1 : Int32)) (by decide) ?_
  refine ev_isub (pc' := 12) rfl rfl ?_
  refine ev_S3I (pc' := 15) rfl (by decide) rfl mth_105 ⟨Nat.le_of_ble_eq_true rfl, rfl⟩ ⟨Nat.le_refl _, Nat.le_refl _⟩ d_X6_within ?_
  refine ev_ifB_ne rfl (pc' := 18) rfl (fun hc => ?_) (fun hc => ?_)
  · have h := (if_pos hc).symm.trans h
    refine ev_aload_n (pc' := 22) rfl rfl rfl ?_
    refine ev_getQ (pc' := 25) rfl rfl rfl ?_
    refine ev_aload_n (pc' := 26) rfl rfl rfl ?_
    refine ev_getI (pc' := 29) rfl rfl ?_
    obtain ⟨hi, h⟩ := gdB h
    refine ev_aald (pc' := 30) rfl rfl (by decide) rfl (inR_vp hi) rfl ?_
    refine ev_aload_n (pc' := 31) rfl rfl rfl ?_
    refine ev_getQ (pc' := 34) rfl rfl rfl ?_
    obtain ⟨q1, hq1, h⟩ := Option.bind_eq_some_iff.mp h
    refine ev_V2V (pc' := 37) rfl (by decide) rfl mth_5 ⟨Nat.le_of_ble_eq_true rfl, rfl⟩ ⟨Nat.le_refl _, Nat.le_refl _⟩ (d_X1_copyFrom hq1) ?_
    refine ev_aload_n (pc' := 38) rfl rfl rfl ?_
    refine ev_dup (pc' := 39) rfl rfl rfl ?_
    refine ev_getI (pc' := 42) rfl rfl ?_
    refine ev_iconst (pc' := 43) rfl rfl (v := (1 : Int32)) (by decide) ?_
    refine ev_iadd (pc' := 44) rfl rfl ?_
    refine ev_putI (pc' := 47) rfl rfl ?_
    refine ev_aload_n (pc' := 48) rfl rfl rfl ?_
    refine ev_getI (pc' := 51) rfl rfl ?_
    obtain rfl := Option.some.inj h
    exact ev_ireturn rfl ⟨⟨_, rfl, rfl⟩, rfl, rfl, hΨ⟩
  · have h := (if_neg hc).symm.trans h
    refine ev_bipush (pc' := 20) rfl rfl (v := (-3 : Int32)) (by decide) ?_
    obtain rfl := Option.some.inj h
    exact ev_ireturn rfl ⟨⟨_, rfl, rfl⟩, rfl, rfl, hΨ⟩
def s_X6_back (i0 : Nat) (g : Nat → Nat → Nat → Int32) (w : Nat → Nat → Nat → Int64) : Option (Int32 × GS) :=
  if (s_X6_within ((g 6 i0 5) - (1 : Int32)) (0 : Int32) ((3 : Int32) - (1 : Int32)) g w) = true then
    if inR ((g 6 i0 5) - (1 : Int32)) 3 = true then
      (s_X1_copyFrom 0 (((g 6 i0 5) - (1 : Int32)).toNatClampNeg + 2) g w).bind fun q1 =>
      some ((((gI q1.1 6 i0 5 ((g 6 i0 5) - (1 : Int32))) 6 i0 5), (gI q1.1 6 i0 5 ((g 6 i0 5) - (1 : Int32))), q1.2))
    else none
  else
    some (((-2 : Int32), g, w))
set_option maxRecDepth 20000 in
set_option maxHeartbeats 2000000 in
theorem d_X6_back {d : Nat} {i0 : Nat} {g : Nat → Nat → Nat → Int32} {w : Nat → Nat → Nat → Int64} {r : Int32 × GS} (h : s_X6_back i0 g w = some r) : Does (EvM mth (d + 5)) 103 [aR 6 i0] (L0, g, w, q0) (some (aI r.1)) (L0, r.2.1, r.2.2, q0) := by
  intro Ψ hΨ
  refine ⟨in_103, mth_103, Nat.le_of_ble_eq_true rfl, ?_⟩
  show Ev (EvM mth (d + 4)) mth c00 sc0 (retP (some .int) c00 Ψ) (lkp es_103) 0 [some (aR 6 i0), none] [] (L0, g, w, q0)
  unfold s_X6_back at h
  refine ev_aload_n (pc' := 1) rfl rfl rfl ?_
  refine ev_getI (pc' := 4) rfl rfl ?_
  refine ev_iconst (pc' := 5) rfl rfl (v := (1 : Int32)) (by decide) ?_
  refine ev_isub (pc' := 6) rfl rfl ?_
  refine ev_istore_n (pc' := 7) rfl rfl (l' := [some (aR 6 i0), some (aI ((g 6 i0 5) - (1 : Int32)))]) rfl ?_
  refine ev_iload_n (pc' := 8) rfl rfl rfl ?_
  refine ev_iconst (pc' := 9) rfl rfl (v := (0 : Int32)) (by decide) ?_
  refine ev_aload_n (pc' := 10) rfl rfl rfl ?_
  refine ev_getQ (pc' := 13) rfl rfl rfl ?_
  refine ev_alen (pc' := 14) rfl rfl (by decide) (v := (3 : Int32)) (by decide) ?_
  refine ev_iconst (pc' := 15) rfl rfl (v := (1 : Int32)) (by decide) ?_
  refine ev_isub (pc' := 16) rfl rfl ?_
  refine ev_S3I (pc' := 19) rfl (by decide) rfl mth_105 ⟨Nat.le_of_ble_eq_true rfl, rfl⟩ ⟨Nat.le_refl _, Nat.le_refl _⟩ d_X6_within ?_
  refine ev_ifB_ne rfl (pc' := 22) rfl (fun hc => ?_) (fun hc => ?_)
  · have h := (if_pos hc).symm.trans h
    refine ev_aload_n (pc' := 26) rfl rfl rfl ?_
    refine ev_getQ (pc' := 29) rfl rfl rfl ?_
    refine ev_aload_n (pc' := 30) rfl rfl rfl ?_
    refine ev_getQ (pc' := 33) rfl rfl rfl ?_
    refine ev_iload_n (pc' := 34) rfl rfl rfl ?_
    obtain ⟨hi, h⟩ := gdB h
    refine ev_aald (pc' := 35) rfl rfl (by decide) rfl (inR_vp hi) rfl ?_
    obtain ⟨q1, hq1, h⟩ := Option.bind_eq_some_iff.mp h
    refine ev_V2V (pc' := 38) rfl (by decide) rfl mth_5 ⟨Nat.le_of_ble_eq_true rfl, rfl⟩ ⟨Nat.le_refl _, Nat.le_refl _⟩ (d_X1_copyFrom hq1) ?_
    refine ev_aload_n (pc' := 39) rfl rfl rfl ?_
    refine ev_iload_n (pc' := 40) rfl rfl rfl ?_
    refine ev_putI (pc' := 43) rfl rfl ?_
    refine ev_aload_n (pc' := 44) rfl rfl rfl ?_
    refine ev_getI (pc' := 47) rfl rfl ?_
    obtain rfl := Option.some.inj h
    exact ev_ireturn rfl ⟨⟨_, rfl, rfl⟩, rfl, rfl, hΨ⟩
  · have h := (if_neg hc).symm.trans h
    refine ev_bipush (pc' := 24) rfl rfl (v := (-2 : Int32)) (by decide) ?_
    obtain rfl := Option.some.inj h
    exact ev_ireturn rfl ⟨⟨_, rfl, rfl⟩, rfl, rfl, hΨ⟩
