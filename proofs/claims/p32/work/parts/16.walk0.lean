def s_X1_lowHours_36 (i0 : Nat) (p1 : Nat) (rec5 : Int64 → Int32 → (Nat → Nat → Nat → Int32) → (Nat → Nat → Nat → Int64) → Option (Int64)) (v2 : Int64) (v4 : Int32) (g : Nat → Nat → Nat → Int32) (w : Nat → Nat → Nat → Int64) : Option (Int64) :=
  rec5 v2 (v4 + 1) g w
set_option maxRecDepth 20000 in
set_option maxHeartbeats 2000000 in
theorem e_X1_lowHours_36 {d : Nat} {Ψ : Option AV → DS → Prop} {i0 : Nat} {p1 : Nat} {rec5 : Int64 → Int32 → (Nat → Nat → Nat → Int32) → (Nat → Nat → Nat → Int64) → Option (Int64)} {r : Int64} {g : Nat → Nat → Nat → Int32} {w : Nat → Nat → Nat → Int64} {v2 : Int64} {v4 : Int32} {x3 : Option AV} (hr5 : ∀ {v2 : Int64} {v4 : Int32} {x3 : Option AV} , rec5 v2 v4 g w = some r → Ev (EvM mth d) mth c00 sc0 (retP (some .long) c00 Ψ) (lkp es_14) 5 [some (aR 1 i0), some (aR 4 p1), some (aL v2), x3, some (aI v4)] [] (L0, g, w, q0)) (hΨ : Ψ (some (aL r)) (L0, g, w, q0)) (h : s_X1_lowHours_36 i0 p1 rec5 v2 v4 g w = some r) : Ev (EvM mth d) mth c00 sc0 (retP (some .long) c00 Ψ) (lkp es_14) 36 [some (aR 1 i0), some (aR 4 p1), some (aL v2), x3, some (aI v4)] [] (L0, g, w, q0) := by
  unfold s_X1_lowHours_36 at h
  refine ev_iinc (pc' := 39) rfl rfl (l' := [some (aR 1 i0), some (aR 4 p1), some (aL v2), (klO x3), some (aI (v4 + 1))]) rfl (ii_1 _) rfl ?_
  refine ev_goto (pc' := 5) rfl ?_
  exact hr5 h
def s_X1_lowHours_5 (i0 : Nat) (p1 : Nat) (rec5 : Int64 → Int32 → (Nat → Nat → Nat → Int32) → (Nat → Nat → Nat → Int64) → Option (Int64)) (v2 : Int64) (v4 : Int32) (g : Nat → Nat → Nat → Int32) (w : Nat → Nat → Nat → Int64) : Option (Int64) :=
  if (48 : Int32) ≤ v4 then
    some (v2)
  else
    if inR (v4 - v4 / (12 : Int32) * (12 : Int32)) 12 = true then
      if (g 4 p1 1) ≤ (g 1012 (td i0) (v4 - v4 / (12 : Int32) * (12 : Int32)).toNatClampNeg) then
        s_X1_lowHours_36 i0 p1 rec5 v2 v4 g w
      else
        s_X1_lowHours_36 i0 p1 rec5 (v2 ||| ((1 : Int64) <<< (v4.toInt64 &&& 63))) v4 g w
    else none
set_option maxRecDepth 20000 in
set_option maxHeartbeats 2000000 in
theorem e_X1_lowHours_5 {d : Nat} {Ψ : Option AV → DS → Prop} {i0 : Nat} {p1 : Nat} {rec5 : Int64 → Int32 → (Nat → Nat → Nat → Int32) → (Nat → Nat → Nat → Int64) → Option (Int64)} {r : Int64} {g : Nat → Nat → Nat → Int32} {w : Nat → Nat → Nat → Int64} {v2 : Int64} {v4 : Int32} {x3 : Option AV} (hr5 : ∀ {v2 : Int64} {v4 : Int32} {x3 : Option AV} , rec5 v2 v4 g w = some r → Ev (EvM mth d) mth c00 sc0 (retP (some .long) c00 Ψ) (lkp es_14) 5 [some (aR 1 i0), some (aR 4 p1), some (aL v2), x3, some (aI v4)] [] (L0, g, w, q0)) (hΨ : Ψ (some (aL r)) (L0, g, w, q0)) (h : s_X1_lowHours_5 i0 p1 rec5 v2 v4 g w = some r) : Ev (EvM mth d) mth c00 sc0 (retP (some .long) c00 Ψ) (lkp es_14) 5 [some (aR 1 i0), some (aR 4 p1), some (aL v2), x3, some (aI v4)] [] (L0, g, w, q0) := by
  unfold s_X1_lowHours_5 at h
  refine ev_iload (pc' := 7) rfl rfl rfl ?_
  refine ev_bipush (pc' := 9) rfl rfl (v := (48 : Int32)) (by decide) ?_
  refine ev_icmp_ge rfl (pc' := 12) rfl (fun hc => ?_) (fun hc => ?_)
  · have h := (if_pos hc).symm.trans h
    refine ev_lload_n (pc' := 43) rfl rfl rfl ?_
    obtain rfl := Option.some.inj h
    exact ev_lreturn rfl ⟨⟨_, rfl⟩, rfl, rfl, hΨ⟩
  · have h := (if_neg hc).symm.trans h
    refine ev_aload_n (pc' := 13) rfl rfl rfl ?_
    refine ev_getQ (pc' := 16) rfl rfl rfl ?_
    refine ev_iload (pc' := 18) rfl rfl rfl ?_
    refine ev_bipush (pc' := 20) rfl rfl (v := (12 : Int32)) (by decide) ?_
    refine ev_irem (pc' := 21) rfl rfl (by decide) ?_
    obtain ⟨hi, h⟩ := gdB h
    refine ev_iald (pc' := 22) rfl rfl rfl (inR_vp hi) ?_
    refine ev_aload_n (pc' := 23) rfl rfl rfl ?_
    refine ev_getI (pc' := 26) rfl rfl ?_
    refine ev_icmp_ge rfl (pc' := 29) rfl (fun hc => ?_) (fun hc => ?_)
    · have h := (if_pos hc).symm.trans h
      exact e_X1_lowHours_36 (hr5 := hr5) hΨ h
    · have h := (if_neg hc).symm.trans h
      refine ev_lload_n (pc' := 30) rfl rfl rfl ?_
      refine ev_lconst (pc' := 31) rfl rfl (v := (1 : Int64)) (by decide) ?_
      refine ev_iload (pc' := 33) rfl rfl rfl ?_
      refine ev_lshl (pc' := 34) rfl rfl ?_
      refine ev_lor (pc' := 35) rfl rfl ?_
      refine ev_lstore_n (pc' := 36) rfl rfl (l' := [some (aR 1 i0), some (aR 4 p1), some (aL (v2 ||| ((1 : Int64) <<< (v4.toInt64 &&& 63)))), none, some (aI v4)]) rfl ?_
      exact e_X1_lowHours_36 (hr5 := hr5) hΨ h
def s_X1_lowHours_R5 (i0 : Nat) (p1 : Nat) : Nat → Int64 → Int32 → (Nat → Nat → Nat → Int32) → (Nat → Nat → Nat → Int64) → Option (Int64)
  | 0 => fun _ _ _ _ => none
  | n + 1 => s_X1_lowHours_5 i0 p1 (s_X1_lowHours_R5 i0 p1 n)
theorem e_X1_lowHours_R5 {d : Nat} {Ψ : Option AV → DS → Prop} {i0 : Nat} {p1 : Nat} {r : Int64} {g : Nat → Nat → Nat → Int32} {w : Nat → Nat → Nat → Int64} (hΨ : Ψ (some (aL r)) (L0, g, w, q0)) : ∀ (n : Nat) {v2 : Int64} {v4 : Int32} {x3 : Option AV}, s_X1_lowHours_R5 i0 p1 n v2 v4 g w = some r → Ev (EvM mth d) mth c00 sc0 (retP (some .long) c00 Ψ) (lkp es_14) 5 [some (aR 1 i0), some (aR 4 p1), some (aL v2), x3, some (aI v4)] [] (L0, g, w, q0) := by
  intro n
  induction n with
  | zero => intros; rename_i h; exact absurd h (by intro h9; cases h9)
  | succ n ih => intros; rename_i h; exact e_X1_lowHours_5 (hr5 := ih) hΨ h
def s_X1_lowHours (i0 : Nat) (p1 : Nat) (g : Nat → Nat → Nat → Int32) (w : Nat → Nat → Nat → Int64) : Option (Int64) :=
  s_X1_lowHours_R5 i0 p1 FU (0 : Int64) (0 : Int32) g w
set_option maxRecDepth 20000 in
set_option maxHeartbeats 2000000 in
theorem d_X1_lowHours {d : Nat} {i0 : Nat} {p1 : Nat} {g : Nat → Nat → Nat → Int32} {w : Nat → Nat → Nat → Int64} {r : Int64} (h : s_X1_lowHours i0 p1 g w = some r) : Does (EvM mth (d + 1)) 14 [aR 1 i0, aR 4 p1] (L0, g, w, q0) (some (aL r)) (L0, g, w, q0) := by
  intro Ψ hΨ
  refine ⟨in_14, mth_14, Nat.le_of_ble_eq_true rfl, ?_⟩
  show Ev (EvM mth d) mth c00 sc0 (retP (some .long) c00 Ψ) (lkp es_14) 0 [some (aR 1 i0), some (aR 4 p1), none, none, none] [] (L0, g, w, q0)
  unfold s_X1_lowHours at h
  refine ev_lconst (pc' := 1) rfl rfl (v := (0 : Int64)) (by decide) ?_
  refine ev_lstore_n (pc' := 2) rfl rfl (l' := [some (aR 1 i0), some (aR 4 p1), some (aL (0 : Int64)), none, none]) rfl ?_
  refine ev_iconst (pc' := 3) rfl rfl (v := (0 : Int32)) (by decide) ?_
  refine ev_istore (pc' := 5) rfl rfl (l' := [some (aR 1 i0), some (aR 4 p1), some (aL (0 : Int64)), none, some (aI (0 : Int32))]) rfl ?_
  exact e_X1_lowHours_R5 hΨ FU h
def s_X2_takeOver_26 (p0 : Nat) (p1 : Nat) (g : Nat → Nat → Nat → Int32) (w : Nat → Nat → Nat → Int64) : Option (GS) :=
  some ((g, w))
set_option maxRecDepth 20000 in
set_option maxHeartbeats 2000000 in
theorem e_X2_takeOver_26 {d : Nat} {Ψ : Option AV → DS → Prop} {p0 : Nat} {p1 : Nat} {r : GS} {g : Nat → Nat → Nat → Int32} {w : Nat → Nat → Nat → Int64} {x0 : Option AV} {x1 : Option AV} {x2 : Option AV} (hΨ : Ψ none (L0, r.1, r.2, q0)) (h : s_X2_takeOver_26 p0 p1 g w = some r) : Ev (EvM mth d) mth c00 sc0 (retP (none) c00 Ψ) (lkp es_42) 26 [x0, x1, x2] [] (L0, g, w, q0) := by
  unfold s_X2_takeOver_26 at h
  obtain rfl := Option.some.inj h
  exact ev_return rfl ⟨rfl, rfl, rfl, hΨ⟩
def s_X2_takeOver_2 (p0 : Nat) (p1 : Nat) (rec2 : Int32 → (Nat → Nat → Nat → Int32) → (Nat → Nat → Nat → Int64) → Option (GS)) (v2 : Int32) (g : Nat → Nat → Nat → Int32) (w : Nat → Nat → Nat → Int64) : Option (GS) :=
  if (4 : Int32) ≤ v2 then
    s_X2_takeOver_26 p0 p1 g w
  else
    if (4 : Int32) ≤ v2 then
      s_X2_takeOver_26 p0 p1 g w
    else
      if inR v2 4 = true then
        if inR v2 4 = true then
          rec2 (v2 + 1) (gI g 1004 p1 v2.toNatClampNeg (g 1004 p0 v2.toNatClampNeg)) w
        else none
      else none
set_option maxRecDepth 20000 in
set_option maxHeartbeats 2000000 in
theorem e_X2_takeOver_2 {d : Nat} {Ψ : Option AV → DS → Prop} {p0 : Nat} {p1 : Nat} {rec2 : Int32 → (Nat → Nat → Nat → Int32) → (Nat → Nat → Nat → Int64) → Option (GS)} {r : GS} {g : Nat → Nat → Nat → Int32} {w : Nat → Nat → Nat → Int64} {v2 : Int32} (hr2 : ∀ {v2 : Int32} {g : Nat → Nat → Nat → Int32} {w : Nat → Nat → Nat → Int64} , rec2 v2 g w = some r → Ev (EvM mth d) mth c00 sc0 (retP (none) c00 Ψ) (lkp es_42) 2 [some (aR 1004 p0), some (aR 1004 p1), some (aI v2)] [] (L0, g, w, q0)) (hΨ : Ψ none (L0, r.1, r.2, q0)) (h : s_X2_takeOver_2 p0 p1 rec2 v2 g w = some r) : Ev (EvM mth d) mth c00 sc0 (retP (none) c00 Ψ) (lkp es_42) 2 [some (aR 1004 p0), some (aR 1004 p1), some (aI v2)] [] (L0, g, w, q0) := by
  unfold s_X2_takeOver_2 at h
  refine ev_iload_n (pc' := 3) rfl rfl rfl ?_
  refine ev_aload_n (pc' := 4) rfl rfl rfl ?_
  refine ev_alen (pc' := 5) rfl rfl (by decide) (v := (4 : Int32)) (by decide) ?_
  refine ev_icmp_ge rfl (pc' := 8) rfl (fun hc => ?_) (fun hc => ?_)
  · have h := (if_pos hc).symm.trans h
    exact e_X2_takeOver_26 hΨ h
  · have h := (if_neg hc).symm.trans h
    refine ev_iload_n (pc' := 9) rfl rfl rfl ?_
    refine ev_aload_n (pc' := 10) rfl rfl rfl ?_
    refine ev_alen (pc' := 11) rfl rfl (by decide) (v := (4 : Int32)) (by decide) ?_
    refine ev_icmp_ge rfl (pc' := 14) rfl (fun hc => ?_) (fun hc => ?_)
    · have h := (if_pos hc).symm.trans h
      exact e_X2_takeOver_26 hΨ h
    · have h := (if_neg hc).symm.trans h
      refine ev_aload_n (pc' := 15) rfl rfl rfl ?_
      refine ev_iload_n (pc' := 16) rfl rfl rfl ?_
      refine ev_aload_n (pc' := 17) rfl rfl rfl ?_
      refine ev_iload_n (pc' := 18) rfl rfl rfl ?_
      obtain ⟨hi, h⟩ := gdB h
      refine ev_iald (pc' := 19) rfl rfl rfl (inR_vp hi) ?_
      obtain ⟨hi, h⟩ := gdB h
      refine ev_iast (pc' := 20) rfl rfl rfl (inR_vp hi) ?_
      refine ev_iinc (pc' := 23) rfl rfl (l' := [some (aR 1004 p0), some (aR 1004 p1), some (aI (v2 + 1))]) rfl (ii_1 _) rfl ?_
      refine ev_goto (pc' := 2) rfl ?_
      exact hr2 h
def s_X2_takeOver_R2 (p0 : Nat) (p1 : Nat) : Nat → Int32 → (Nat → Nat → Nat → Int32) → (Nat → Nat → Nat → Int64) → Option (GS)
  | 0 => fun _ _ _ => none
  | n + 1 => s_X2_takeOver_2 p0 p1 (s_X2_takeOver_R2 p0 p1 n)
theorem e_X2_takeOver_R2 {d : Nat} {Ψ : Option AV → DS → Prop} {p0 : Nat} {p1 : Nat} {r : GS} (hΨ : Ψ none (L0, r.1, r.2, q0)) : ∀ (n : Nat) {v2 : Int32} {g : Nat → Nat → Nat → Int32} {w : Nat → Nat → Nat → Int64}, s_X2_takeOver_R2 p0 p1 n v2 g w = some r → Ev (EvM mth d) mth c00 sc0 (retP (none) c00 Ψ) (lkp es_42) 2 [some (aR 1004 p0), some (aR 1004 p1), some (aI v2)] [] (L0, g, w, q0) := by
  intro n
  induction n with
  | zero => intros; rename_i h; exact absurd h (by intro h9; cases h9)
  | succ n ih => intros; rename_i h; exact e_X2_takeOver_2 (hr2 := ih) hΨ h
def s_X2_takeOver (p0 : Nat) (p1 : Nat) (g : Nat → Nat → Nat → Int32) (w : Nat → Nat → Nat → Int64) : Option (GS) :=
  s_X2_takeOver_R2 p0 p1 FU (0 : Int32) g w
set_option maxRecDepth 20000 in
set_option maxHeartbeats 2000000 in
theorem d_X2_takeOver {d : Nat} {p0 : Nat} {p1 : Nat} {g : Nat → Nat → Nat → Int32} {w : Nat → Nat → Nat → Int64} {r : GS} (h : s_X2_takeOver p0 p1 g w = some r) : Does (EvM mth (d + 1)) 42 [aR 1004 p0, aR 1004 p1] (L0, g, w, q0) none (L0, r.1, r.2, q0) := by
  intro Ψ hΨ
  refine ⟨in_42, mth_42, Nat.le_of_ble_eq_true rfl, ?_⟩
  show Ev (EvM mth d) mth c00 sc0 (retP (none) c00 Ψ) (lkp es_42) 0 [some (aR 1004 p0), some (aR 1004 p1), none] [] (L0, g, w, q0)
  unfold s_X2_takeOver at h
  refine ev_iconst (pc' := 1) rfl rfl (v := (0 : Int32)) (by decide) ?_
  refine ev_istore_n (pc' := 2) rfl rfl (l' := [some (aR 1004 p0), some (aR 1004 p1), some (aI (0 : Int32))]) rfl ?_
  exact e_X2_takeOver_R2 hΨ FU h
def s_X2_exchange (i0 : Nat) (p1 : Int32) (p2 : Int32) (g : Nat → Nat → Nat → Int32) (w : Nat → Nat → Nat → Int64) : Option (GS) :=
  if inR p1 4 = true then
    if inR p2 4 = true then
      if inR p1 4 = true then
        if inR p2 4 = true then
          some (((gI (gI g 1004 1 p1.toNatClampNeg (g 1004 1 p2.toNatClampNeg)) 1004 1 p2.toNatClampNeg (g 1004 1 p1.toNatClampNeg)), w))
        else none
      else none
    else none
  else none
set_option maxRecDepth 20000 in
set_option maxHeartbeats 2000000 in
theorem d_X2_exchange {d : Nat} {i0 : Nat} {p1 : Int32} {p2 : Int32} {g : Nat → Nat → Nat → Int32} {w : Nat → Nat → Nat → Int64} {r : GS} (h : s_X2_exchange i0 p1 p2 g w = some r) : Does (EvM mth (d + 1)) 44 [aR 2 i0, aI p1, aI p2] (L0, g, w, q0) none (L0, r.1, r.2, q0) := by
  intro Ψ hΨ
  refine ⟨in_44, mth_44, Nat.le_of_ble_eq_true rfl, ?_⟩
  show Ev (EvM mth d) mth c00 sc0 (retP (none) c00 Ψ) (lkp es_44) 0 [some (aR 2 i0), some (aI p1), some (aI p2), none] [] (L0, g, w, q0)
  unfold s_X2_exchange at h
  refine ev_aload_n (pc' := 1) rfl rfl rfl ?_
  refine ev_getQ (pc' := 4) rfl rfl rfl ?_
  refine ev_iload_n (pc' := 5) rfl rfl rfl ?_
  obtain ⟨hi, h⟩ := gdB h
  refine ev_iald (pc' := 6) rfl rfl rfl (inR_vp hi) ?_
  refine ev_istore_n (pc' := 7) rfl rfl (l' := [some (aR 2 i0), some (aI p1), some (aI p2), some (aI (g 1004 1 p1.toNatClampNeg))]) rfl ?_
  refine ev_aload_n (pc' := 8) rfl rfl rfl ?_
  refine ev_getQ (pc' := 11) rfl rfl rfl ?_
  refine ev_iload_n (pc' := 12) rfl rfl rfl ?_
  refine ev_aload_n (pc' := 13) rfl rfl rfl ?_
  refine ev_getQ (pc' := 16) rfl rfl rfl ?_
  refine ev_iload_n (pc' := 17) rfl rfl rfl ?_
  obtain ⟨hi, h⟩ := gdB h
  refine ev_iald (pc' := 18) rfl rfl rfl (inR_vp hi) ?_
  obtain ⟨hi, h⟩ := gdB h
  refine ev_iast (pc' := 19) rfl rfl rfl (inR_vp hi) ?_
  refine ev_aload_n (pc' := 20) rfl rfl rfl ?_
  refine ev_getQ (pc' := 23) rfl rfl rfl ?_
  refine ev_iload_n (pc' := 24) rfl rfl rfl ?_
  refine ev_iload_n (pc' := 25) rfl rfl rfl ?_
  obtain ⟨hi, h⟩ := gdB h
  refine ev_iast (pc' := 26) rfl rfl rfl (inR_vp hi) ?_
  obtain rfl := Option.some.inj h
  exact ev_return rfl ⟨rfl, rfl, rfl, hΨ⟩
def s_X4_hasJob_14 (i0 : Nat) (t0 : Bool) (g : Nat → Nat → Nat → Int32) (w : Nat → Nat → Nat → Int64) : Bool :=
  t0
set_option maxRecDepth 20000 in
set_option maxHeartbeats 2000000 in
theorem e_X4_hasJob_14 {d : Nat} {Ψ : Option AV → DS → Prop} {i0 : Nat} {r : Bool} {g : Nat → Nat → Nat → Int32} {w : Nat → Nat → Nat → Int64} {t0 : Bool} {x0 : Option AV} (hΨ : Ψ (some (aI (bI r))) (L0, g, w, q0)) (h : s_X4_hasJob_14 i0 t0 g w = r) : Ev (EvM mth d) mth c00 sc0 (retP (some .boolean) c00 Ψ) (lkp es_55) 14 [x0] [aI (bI t0)] (L0, g, w, q0) := by
  unfold s_X4_hasJob_14 at h
  subst h
  exact ev_ireturn rfl ⟨⟨_, rfl, nar_bI _⟩, rfl, rfl, hΨ⟩
def s_X4_hasJob (i0 : Nat) (g : Nat → Nat → Nat → Int32) (w : Nat → Nat → Nat → Int64) : Bool :=
  if (g 4 i0 7) = (-4 : Int32) then
    s_X4_hasJob_14 i0 false g w
  else
    s_X4_hasJob_14 i0 true g w
set_option maxRecDepth 20000 in
set_option maxHeartbeats 2000000 in
theorem d_X4_hasJob {d : Nat} {i0 : Nat} {g : Nat → Nat → Nat → Int32} {w : Nat → Nat → Nat → Int64} : Does (EvM mth (d + 1)) 55 [aR 4 i0] (L0, g, w, q0) (some (aI (bI (s_X4_hasJob i0 g w)))) (L0, g, w, q0) := by
  intro Ψ hΨ
  obtain ⟨r, h⟩ : ∃ r, s_X4_hasJob i0 g w = r := ⟨_, rfl⟩
  rw [h] at hΨ
  refine ⟨in_55, mth_55, Nat.le_of_ble_eq_true rfl, ?_⟩
  show Ev (EvM mth d) mth c00 sc0 (retP (some .boolean) c00 Ψ) (lkp es_55) 0 [some (aR 4 i0)] [] (L0, g, w, q0)
  unfold s_X4_hasJob at h
  refine ev_aload_n (pc' := 1) rfl rfl rfl ?_
  refine ev_getI (pc' := 4) rfl rfl ?_
  refine ev_bipush (pc' := 6) rfl rfl (v := (-4 : Int32)) (by decide) ?_
  refine ev_icmp_eq rfl (pc' := 9) rfl (fun hc => ?_) (fun hc => ?_)
  · have h := (if_pos hc).symm.trans h
    refine ev_iconst (pc' := 14) rfl rfl (v := (0 : Int32)) (by decide) ?_
    exact e_X4_hasJob_14 hΨ h
  · have h := (if_neg hc).symm.trans h
    refine ev_iconst (pc' := 10) rfl rfl (v := (1 : Int32)) (by decide) ?_
    refine ev_goto (pc' := 14) rfl ?_
    exact e_X4_hasJob_14 hΨ h
def s_X4_hasJobWith_25 (i0 : Nat) (p1 : Int32) (t0 : Bool) (g : Nat → Nat → Nat → Int32) (w : Nat → Nat → Nat → Int64) : Bool :=
  t0
set_option maxRecDepth 20000 in
set_option maxHeartbeats 2000000 in
theorem e_X4_hasJobWith_25 {d : Nat} {Ψ : Option AV → DS → Prop} {i0 : Nat} {p1 : Int32} {r : Bool} {g : Nat → Nat → Nat → Int32} {w : Nat → Nat → Nat → Int64} {t0 : Bool} {x0 : Option AV} {x1 : Option AV} (hΨ : Ψ (some (aI (bI r))) (L0, g, w, q0)) (h : s_X4_hasJobWith_25 i0 p1 t0 g w = r) : Ev (EvM mth d) mth c00 sc0 (retP (some .boolean) c00 Ψ) (lkp es_56) 25 [x0, x1] [aI (bI t0)] (L0, g, w, q0) := by
  unfold s_X4_hasJobWith_25 at h
  subst h
  exact ev_ireturn rfl ⟨⟨_, rfl, nar_bI _⟩, rfl, rfl, hΨ⟩
def s_X4_hasJobWith_24 (i0 : Nat) (p1 : Int32) (g : Nat → Nat → Nat → Int32) (w : Nat → Nat → Nat → Int64) : Bool :=
  s_X4_hasJobWith_25 i0 p1 false g w
set_option maxRecDepth 20000 in
set_option maxHeartbeats 2000000 in
theorem e_X4_hasJobWith_24 {d : Nat} {Ψ : Option AV → DS → Prop} {i0 : Nat} {p1 : Int32} {r : Bool} {g : Nat → Nat → Nat → Int32} {w : Nat → Nat → Nat → Int64} {x0 : Option AV} {x1 : Option AV} (hΨ : Ψ (some (aI (bI r))) (L0, g, w, q0)) (h : s_X4_hasJobWith_24 i0 p1 g w = r) : Ev (EvM mth d) mth c00 sc0 (retP (some .boolean) c00 Ψ) (lkp es_56) 24 [x0, x1] [] (L0, g, w, q0) := by
  unfold s_X4_hasJobWith_24 at h
  refine ev_iconst (pc' := 25) rfl rfl (v := (0 : Int32)) (by decide) ?_
  exact e_X4_hasJobWith_25 hΨ h
def s_X4_hasJobWith (i0 : Nat) (p1 : Int32) (g : Nat → Nat → Nat → Int32) (w : Nat → Nat → Nat → Int64) : Bool :=
  if (g 4 i0 7) = (-4 : Int32) then
    s_X4_hasJobWith_24 i0 p1 g w
  else
    if ((jush (g 4 i0 8) p1) &&& (1 : Int32)) = 0 then
      s_X4_hasJobWith_24 i0 p1 g w
    else
      s_X4_hasJobWith_25 i0 p1 true g w
set_option maxRecDepth 20000 in
set_option maxHeartbeats 2000000 in
theorem d_X4_hasJobWith {d : Nat} {i0 : Nat} {p1 : Int32} {g : Nat → Nat → Nat → Int32} {w : Nat → Nat → Nat → Int64} : Does (EvM mth (d + 1)) 56 [aR 4 i0, aI p1] (L0, g, w, q0) (some (aI (bI (s_X4_hasJobWith i0 p1 g w)))) (L0, g, w, q0) := by
  intro Ψ hΨ
  obtain ⟨r, h⟩ : ∃ r, s_X4_hasJobWith i0 p1 g w = r := ⟨_, rfl⟩
  rw [h] at hΨ
  refine ⟨in_56, mth_56, Nat.le_of_ble_eq_true rfl, ?_⟩
  show Ev (EvM mth d) mth c00 sc0 (retP (some .boolean) c00 Ψ) (lkp es_56) 0 [some (aR 4 i0), some (aI p1)] [] (L0, g, w, q0)
  unfold s_X4_hasJobWith at h
  refine ev_aload_n (pc' := 1) rfl rfl rfl ?_
  refine ev_getI (pc' := 4) rfl rfl ?_
  refine ev_bipush (pc' := 6) rfl rfl (v := (-4 : Int32)) (by decide) ?_
  refine ev_icmp_eq rfl (pc' := 9) rfl (fun hc => ?_) (fun hc => ?_)
  · have h := (if_pos hc).symm.trans h
    exact e_X4_hasJobWith_24 hΨ h
  · have h := (if_neg hc).symm.trans h
    refine ev_aload_n (pc' := 10) rfl rfl rfl ?_
    refine ev_getI (pc' := 13) rfl rfl ?_
    refine ev_iload_n (pc' := 14) rfl rfl rfl ?_
    refine ev_iushr (pc' := 15) rfl rfl ?_
    refine ev_iconst (pc' := 16) rfl rfl (v := (1 : Int32)) (by decide) ?_
    refine ev_iand (pc' := 17) rfl rfl ?_
    refine ev_if_eq rfl (pc' := 20) rfl (fun hc => ?_) (fun hc => ?_)
    · have h := (if_pos hc).symm.trans h
      exact e_X4_hasJobWith_24 hΨ h
    · have h := (if_neg hc).symm.trans h
      refine ev_iconst (pc' := 21) rfl rfl (v := (1 : Int32)) (by decide) ?_
      refine ev_goto (pc' := 25) rfl ?_
      exact e_X4_hasJobWith_25 hΨ h
def s_X4_dropJob (i0 : Nat) (g : Nat → Nat → Nat → Int32) (w : Nat → Nat → Nat → Int64) : GS :=
  ((gI (gI g 4 i0 7 (-4 : Int32)) 4 i0 8 (0 : Int32)), w)
set_option maxRecDepth 20000 in
set_option maxHeartbeats 2000000 in
theorem d_X4_dropJob {d : Nat} {i0 : Nat} {g : Nat → Nat → Nat → Int32} {w : Nat → Nat → Nat → Int64} : Does (EvM mth (d + 1)) 57 [aR 4 i0] (L0, g, w, q0) none (L0, (s_X4_dropJob i0 g w).1, (s_X4_dropJob i0 g w).2, q0) := by
  intro Ψ hΨ
  obtain ⟨r, h⟩ : ∃ r, s_X4_dropJob i0 g w = r := ⟨_, rfl⟩
  rw [h] at hΨ
  refine ⟨in_57, mth_57, Nat.le_of_ble_eq_true rfl, ?_⟩
  show Ev (EvM mth d) mth c00 sc0 (retP (none) c00 Ψ) (lkp es_57) 0 [some (aR 4 i0)] [] (L0, g, w, q0)
  unfold s_X4_dropJob at h
  refine ev_aload_n (pc' := 1) rfl rfl rfl ?_
  refine ev_bipush (pc' := 3) rfl rfl (v := (-4 : Int32)) (by decide) ?_
  refine ev_putI (pc' := 6) rfl rfl ?_
  refine ev_aload_n (pc' := 7) rfl rfl rfl ?_
  refine ev_iconst (pc' := 8) rfl rfl (v := (0 : Int32)) (by decide) ?_
  refine ev_putI (pc' := 11) rfl rfl ?_
  subst h
  exact ev_return rfl ⟨rfl, rfl, rfl, hΨ⟩
def s_X4_lastHour (i0 : Nat) (g : Nat → Nat → Nat → Int32) (w : Nat → Nat → Nat → Int64) : Int32 :=
  (((g 4 i0 7) + (g 4 i0 3)) - (1 : Int32))
set_option maxRecDepth 20000 in
set_option maxHeartbeats 2000000 in
theorem d_X4_lastHour {d : Nat} {i0 : Nat} {g : Nat → Nat → Nat → Int32} {w : Nat → Nat → Nat → Int64} : Does (EvM mth (d + 1)) 58 [aR 4 i0] (L0, g, w, q0) (some (aI (s_X4_lastHour i0 g w))) (L0, g, w, q0) := by
  intro Ψ hΨ
  obtain ⟨r, h⟩ : ∃ r, s_X4_lastHour i0 g w = r := ⟨_, rfl⟩
  rw [h] at hΨ
  refine ⟨in_58, mth_58, Nat.le_of_ble_eq_true rfl, ?_⟩
  show Ev (EvM mth d) mth c00 sc0 (retP (some .int) c00 Ψ) (lkp es_58) 0 [some (aR 4 i0)] [] (L0, g, w, q0)
  unfold s_X4_lastHour at h
  refine ev_aload_n (pc' := 1) rfl rfl rfl ?_
  refine ev_getI (pc' := 4) rfl rfl ?_
  refine ev_aload_n (pc' := 5) rfl rfl rfl ?_
  refine ev_getI (pc' := 8) rfl rfl ?_
  refine ev_iadd (pc' := 9) rfl rfl ?_
  refine ev_iconst (pc' := 10) rfl rfl (v := (1 : Int32)) (by decide) ?_
  refine ev_isub (pc' := 11) rfl rfl ?_
  subst h
  exact ev_ireturn rfl ⟨⟨_, rfl, rfl⟩, rfl, rfl, hΨ⟩
def s_X4_isInTime_24 (i0 : Nat) (p1 : Int32) (t0 : Bool) (g : Nat → Nat → Nat → Int32) (w : Nat → Nat → Nat → Int64) : Bool :=
  t0
set_option maxRecDepth 20000 in
set_option maxHeartbeats 2000000 in
theorem e_X4_isInTime_24 {d : Nat} {Ψ : Option AV → DS → Prop} {i0 : Nat} {p1 : Int32} {r : Bool} {g : Nat → Nat → Nat → Int32} {w : Nat → Nat → Nat → Int64} {t0 : Bool} {x0 : Option AV} {x1 : Option AV} (hΨ : Ψ (some (aI (bI r))) (L0, g, w, q0)) (h : s_X4_isInTime_24 i0 p1 t0 g w = r) : Ev (EvM mth d) mth c00 sc0 (retP (some .boolean) c00 Ψ) (lkp es_59) 24 [x0, x1] [aI (bI t0)] (L0, g, w, q0) := by
  unfold s_X4_isInTime_24 at h
  subst h
  exact ev_ireturn rfl ⟨⟨_, rfl, nar_bI _⟩, rfl, rfl, hΨ⟩
def s_X4_isInTime_23 (i0 : Nat) (p1 : Int32) (g : Nat → Nat → Nat → Int32) (w : Nat → Nat → Nat → Int64) : Bool :=
  s_X4_isInTime_24 i0 p1 false g w
set_option maxRecDepth 20000 in
set_option maxHeartbeats 2000000 in
theorem e_X4_isInTime_23 {d : Nat} {Ψ : Option AV → DS → Prop} {i0 : Nat} {p1 : Int32} {r : Bool} {g : Nat → Nat → Nat → Int32} {w : Nat → Nat → Nat → Int64} {x0 : Option AV} {x1 : Option AV} (hΨ : Ψ (some (aI (bI r))) (L0, g, w, q0)) (h : s_X4_isInTime_23 i0 p1 g w = r) : Ev (EvM mth d) mth c00 sc0 (retP (some .boolean) c00 Ψ) (lkp es_59) 23 [x0, x1] [] (L0, g, w, q0) := by
  unfold s_X4_isInTime_23 at h
  refine ev_iconst (pc' := 24) rfl rfl (v := (0 : Int32)) (by decide) ?_
  exact e_X4_isInTime_24 hΨ h
def s_X4_isInTime (i0 : Nat) (p1 : Int32) (g : Nat → Nat → Nat → Int32) (w : Nat → Nat → Nat → Int64) : Bool :=
  if p1 < (g 4 i0 2) then
    s_X4_isInTime_23 i0 p1 g w
  else
    if (48 : Int32) < (p1 + (g 4 i0 3)) then
      s_X4_isInTime_23 i0 p1 g w
    else
      s_X4_isInTime_24 i0 p1 true g w
set_option maxRecDepth 20000 in
set_option maxHeartbeats 2000000 in
theorem d_X4_isInTime {d : Nat} {i0 : Nat} {p1 : Int32} {g : Nat → Nat → Nat → Int32} {w : Nat → Nat → Nat → Int64} : Does (EvM mth (d + 1)) 59 [aR 4 i0, aI p1] (L0, g, w, q0) (some (aI (bI (s_X4_isInTime i0 p1 g w)))) (L0, g, w, q0) := by
  intro Ψ hΨ
  obtain ⟨r, h⟩ : ∃ r, s_X4_isInTime i0 p1 g w = r := ⟨_, rfl⟩
  rw [h] at hΨ
  refine ⟨in_59, mth_59, Nat.le_of_ble_eq_true rfl, ?_⟩
  show Ev (EvM mth d) mth c00 sc0 (retP (some .boolean) c00 Ψ) (lkp es_59) 0 [some (aR 4 i0), some (aI p1)] [] (L0, g, w, q0)
  unfold s_X4_isInTime at h
  refine ev_iload_n (pc' := 1) rfl rfl rfl ?_
  refine ev_aload_n (pc' := 2) rfl rfl rfl ?_
  refine ev_getI (pc' := 5) rfl rfl ?_
  refine ev_icmp_lt rfl (pc' := 8) rfl (fun hc => ?_) (fun hc => ?_)
  · have h := (if_pos hc).symm.trans h
    exact e_X4_isInTime_23 hΨ h
  · have h := (if_neg hc).symm.trans h
    refine ev_iload_n (pc' := 9) rfl rfl rfl ?_
    refine ev_aload_n (pc' := 10) rfl rfl rfl ?_
    refine ev_getI (pc' := 13) rfl rfl ?_
    refine ev_iadd (pc' := 14) rfl rfl ?_
    refine ev_bipush (pc' := 16) rfl rfl (v := (48 : Int32)) (by decide) ?_
    refine ev_icmp_gt rfl (pc' := 19) rfl (fun hc => ?_) (fun hc => ?_)
    · have h := (if_pos hc).symm.trans h
      exact e_X4_isInTime_23 hΨ h
    · have h := (if_neg hc).symm.trans h
      refine ev_iconst (pc' := 20) rfl rfl (v := (1 : Int32)) (by decide) ?_
      refine ev_goto (pc' := 24) rfl ?_
      exact e_X4_isInTime_24 hΨ h
def s_X5_come (i0 : Nat) (p1 : Int32) (p2 : Int32) (p3 : Int32) (p4 : Int32) (p5 : Int32) (p6 : Int32) (p7 : Int32) (g : Nat → Nat → Nat → Int32) (w : Nat → Nat → Nat → Int64) : GS :=
  ((gI (gI (gI (gI (gI (gI (gI (gI g 5 i0 0 p1) 5 i0 1 p2) 5 i0 2 p3) 5 i0 3 p4) 5 i0 4 p5) 5 i0 5 p6) 5 i0 6 p7) 5 i0 7 (48 : Int32)), (wL (wL w 5 i0 8 (0 : Int64)) 5 i0 9 (0 : Int64)))
set_option maxRecDepth 20000 in
set_option maxHeartbeats 2000000 in
theorem d_X5_come {d : Nat} {i0 : Nat} {p1 : Int32} {p2 : Int32} {p3 : Int32} {p4 : Int32} {p5 : Int32} {p6 : Int32} {p7 : Int32} {g : Nat → Nat → Nat → Int32} {w : Nat → Nat → Nat → Int64} : Does (EvM mth (d + 1)) 64 [aR 5 i0, aI p1, aI p2, aI p3, aI p4, aI p5, aI p6, aI p7] (L0, g, w, q0) none (L0, (s_X5_come i0 p1 p2 p3 p4 p5 p6 p7 g w).1, (s_X5_come i0 p1 p2 p3 p4 p5 p6 p7 g w).2, q0) := by
  intro Ψ hΨ
  obtain ⟨r, h⟩ : ∃ r, s_X5_come i0 p1 p2 p3 p4 p5 p6 p7 g w = r := ⟨_, rfl⟩
  rw [h] at hΨ
  refine ⟨in_64, mth_64, Nat.le_of_ble_eq_true rfl, ?_⟩
  show Ev (EvM mth d) mth c00 sc0 (retP (none) c00 Ψ) (lkp es_64) 0 [some (aR 5 i0), some (aI p1), some (aI p2), some (aI p3), some (aI p4), some (aI p5), some (aI p6), some (aI p7)] [] (L0, g, w, q0)
  unfold s_X5_come at h
  refine ev_aload_n (pc' := 1) rfl rfl rfl ?_
  refine ev_iload_n (pc' := 2) rfl rfl rfl ?_
  refine ev_putI (pc' := 5) rfl rfl ?_
  refine ev_aload_n (pc' := 6) rfl rfl rfl ?_
  refine ev_iload_n (pc' := 7) rfl rfl rfl ?_
  refine ev_putI (pc' := 10) rfl rfl ?_
  refine ev_aload_n (pc' := 11) rfl rfl rfl ?_
  refine ev_iload_n (pc' := 12) rfl rfl rfl ?_
  refine ev_putI (pc' := 15) rfl rfl ?_
  refine ev_aload_n (pc' := 16) rfl rfl rfl ?_
  refine ev_iload (pc' := 18) rfl rfl rfl ?_
  refine ev_putI (pc' := 21) rfl rfl ?_
  refine ev_aload_n (pc' := 22) rfl rfl rfl ?_
  refine ev_iload (pc' := 24) rfl rfl rfl ?_
  refine ev_putI (pc' := 27) rfl rfl ?_
  refine ev_aload_n (pc' := 28) rfl rfl rfl ?_
  refine ev_iload (pc' := 30) rfl rfl rfl ?_
  refine ev_putI (pc' := 33) rfl rfl ?_
  refine ev_aload_n (pc' := 34) rfl rfl rfl ?_
  refine ev_iload (pc' := 36) rfl rfl rfl ?_
  refine ev_putI (pc' := 39) rfl rfl ?_
  refine ev_aload_n (pc' := 40) rfl rfl rfl ?_
  refine ev_bipush (pc' := 42) rfl rfl (v := (48 : Int32)) (by decide) ?_
  refine ev_putI (pc' := 45) rfl rfl ?_
  refine ev_aload_n (pc' := 46) rfl rfl rfl ?_
  refine ev_lconst (pc' := 47) rfl rfl (v := (0 : Int64)) (by decide) ?_
  refine ev_putL (pc' := 50) rfl rfl ?_
  refine ev_aload_n (pc' := 51) rfl rfl rfl ?_
  refine ev_lconst (pc' := 52) rfl rfl (v := (0 : Int64)) (by decide) ?_
  refine ev_putL (pc' := 55) rfl rfl ?_
  subst h
  exact ev_return rfl ⟨rfl, rfl, rfl, hΨ⟩
def s_X5_isBroken_13 (i0 : Nat) (p1 : Int32) (t0 : Bool) (g : Nat → Nat → Nat → Int32) (w : Nat → Nat → Nat → Int64) : Bool :=
  t0
set_option maxRecDepth 20000 in
set_option maxHeartbeats 2000000 in
theorem e_X5_isBroken_13 {d : Nat} {Ψ : Option AV → DS → Prop} {i0 : Nat} {p1 : Int32} {r : Bool} {g : Nat → Nat → Nat → Int32} {w : Nat → Nat → Nat → Int64} {t0 : Bool} {x0 : Option AV} {x1 : Option AV} (hΨ : Ψ (some (aI (bI r))) (L0, g, w, q0)) (h : s_X5_isBroken_13 i0 p1 t0 g w = r) : Ev (EvM mth d) mth c00 sc0 (retP (some .boolean) c00 Ψ) (lkp es_66) 13 [x0, x1] [aI (bI t0)] (L0, g, w, q0) := by
  unfold s_X5_isBroken_13 at h
  subst h
  exact ev_ireturn rfl ⟨⟨_, rfl, nar_bI _⟩, rfl, rfl, hΨ⟩
def s_X5_isBroken (i0 : Nat) (p1 : Int32) (g : Nat → Nat → Nat → Int32) (w : Nat → Nat → Nat → Int64) : Bool :=
  if p1 < (g 5 i0 7) then
    s_X5_isBroken_13 i0 p1 false g w
  else
    s_X5_isBroken_13 i0 p1 true g w
set_option maxRecDepth 20000 in
set_option maxHeartbeats 2000000 in
theorem d_X5_isBroken {d : Nat} {i0 : Nat} {p1 : Int32} {g : Nat → Nat → Nat → Int32} {w : Nat → Nat → Nat → Int64} : Does (EvM mth (d + 1)) 66 [aR 5 i0, aI p1] (L0, g, w, q0) (some (aI (bI (s_X5_isBroken i0 p1 g w)))) (L0, g, w, q0) := by
  intro Ψ hΨ
  obtain ⟨r, h⟩ : ∃ r, s_X5_isBroken i0 p1 g w = r := ⟨_, rfl⟩
  rw [h] at hΨ
  refine ⟨in_66, mth_66, Nat.le_of_ble_eq_true rfl, ?_⟩
  show Ev (EvM mth d) mth c00 sc0 (retP (some .boolean) c00 Ψ) (lkp es_66) 0 [some (aR 5 i0), some (aI p1)] [] (L0, g, w, q0)
  unfold s_X5_isBroken at h
  refine ev_aload_n (pc' := 1) rfl rfl rfl ?_
  refine ev_getI (pc' := 4) rfl rfl ?_
  refine ev_iload_n (pc' := 5) rfl rfl rfl ?_
  refine ev_icmp_gt rfl (pc' := 8) rfl (fun hc => ?_) (fun hc => ?_)
  · have h := (if_pos hc).symm.trans h
    refine ev_iconst (pc' := 13) rfl rfl (v := (0 : Int32)) (by decide) ?_
    exact e_X5_isBroken_13 hΨ h
  · have h := (if_neg hc).symm.trans h
    refine ev_iconst (pc' := 9) rfl rfl (v := (1 : Int32)) (by decide) ?_
    refine ev_goto (pc' := 13) rfl ?_
    exact e_X5_isBroken_13 hΨ h
def s_X5_makeWhole_14 (i0 : Nat) (t0 : Bool) (g : Nat → Nat → Nat → Int32) (w : Nat → Nat → Nat → Int64) : Bool × GS :=
  (t0, (gI g 5 i0 7 (48 : Int32)), w)
set_option maxRecDepth 20000 in
set_option maxHeartbeats 2000000 in
theorem e_X5_makeWhole_14 {d : Nat} {Ψ : Option AV → DS → Prop} {i0 : Nat} {r : Bool × GS} {g : Nat → Nat → Nat → Int32} {w : Nat → Nat → Nat → Int64} {t0 : Bool} {x1 : Option AV} (hΨ : Ψ (some (aI (bI r.1))) (L0, r.2.1, r.2.2, q0)) (h : s_X5_makeWhole_14 i0 t0 g w = r) : Ev (EvM mth d) mth c00 sc0 (retP (some .boolean) c00 Ψ) (lkp es_67) 14 [some (aR 5 i0), x1] [aI (bI t0)] (L0, g, w, q0) := by
  unfold s_X5_makeWhole_14 at h
  refine ev_istore_n (pc' := 15) rfl rfl (l' := [some (aR 5 i0), some (aI (bI t0))]) rfl ?_
  refine ev_aload_n (pc' := 16) rfl rfl rfl ?_
  refine ev_bipush (pc' := 18) rfl rfl (v := (48 : Int32)) (by decide) ?_
  refine ev_putI (pc' := 21) rfl rfl ?_
  refine ev_iload_n (pc' := 22) rfl rfl rfl ?_
  subst h
  exact ev_ireturn rfl ⟨⟨_, rfl, nar_bI _⟩, rfl, rfl, hΨ⟩
def s_X5_makeWhole (i0 : Nat) (g : Nat → Nat → Nat → Int32) (w : Nat → Nat → Nat → Int64) : Bool × GS :=
  if (g 5 i0 7) = (48 : Int32) then
    s_X5_makeWhole_14 i0 false g w
  else
    s_X5_makeWhole_14 i0 true g w
set_option maxRecDepth 20000 in
set_option maxHeartbeats 2000000 in
theorem d_X5_makeWhole {d : Nat} {i0 : Nat} {g : Nat → Nat → Nat → Int32} {w : Nat → Nat → Nat → Int64} : Does (EvM mth (d + 1)) 67 [aR 5 i0] (L0, g, w, q0) (some (aI (bI (s_X5_makeWhole i0 g w).1))) (L0, (s_X5_makeWhole i0 g w).2.1, (s_X5_makeWhole i0 g w).2.2, q0) := by
  intro Ψ hΨ
  obtain ⟨r, h⟩ : ∃ r, s_X5_makeWhole i0 g w = r := ⟨_, rfl⟩
  rw [h] at hΨ
  refine ⟨in_67, mth_67, Nat.le_of_ble_eq_true rfl, ?_⟩
  show Ev (EvM mth d) mth c00 sc0 (retP (some .boolean) c00 Ψ) (lkp es_67) 0 [some (aR 5 i0), none] [] (L0, g, w, q0)
  unfold s_X5_makeWhole at h
  refine ev_aload_n (pc' := 1) rfl rfl rfl ?_
  refine ev_getI (pc' := 4) rfl rfl ?_
  refine ev_bipush (pc' := 6) rfl rfl (v := (48 : Int32)) (by decide) ?_
  refine ev_icmp_eq rfl (pc' := 9) rfl (fun hc => ?_) (fun hc => ?_)
  · have h := (if_pos hc).symm.trans h
    refine ev_iconst (pc' := 14) rfl rfl (v := (0 : Int32)) (by decide) ?_
    exact e_X5_makeWhole_14 hΨ h
  · have h := (if_neg hc).symm.trans h
    refine ev_iconst (pc' := 10) rfl rfl (v := (1 : Int32)) (by decide) ?_
    refine ev_goto (pc' := 14) rfl ?_
    exact e_X5_makeWhole_14 hΨ h
def s_X5_isFree_21 (i0 : Nat) (p1 : Int64) (t0 : Bool) (g : Nat → Nat → Nat → Int32) (w : Nat → Nat → Nat → Int64) : Bool :=
  t0
set_option maxRecDepth 20000 in
set_option maxHeartbeats 2000000 in
theorem e_X5_isFree_21 {d : Nat} {Ψ : Option AV → DS → Prop} {i0 : Nat} {p1 : Int64} {r : Bool} {g : Nat → Nat → Nat → Int32} {w : Nat → Nat → Nat → Int64} {t0 : Bool} {x0 : Option AV} {x1 : Option AV} {x2 : Option AV} (hΨ : Ψ (some (aI (bI r))) (L0, g, w, q0)) (h : s_X5_isFree_21 i0 p1 t0 g w = r) : Ev (EvM mth d) mth c00 sc0 (retP (some .boolean) c00 Ψ) (lkp es_68) 21 [x0, x1, x2] [aI (bI t0)] (L0, g, w, q0) := by
  unfold s_X5_isFree_21 at h
  subst h
  exact ev_ireturn rfl ⟨⟨_, rfl, nar_bI _⟩, rfl, rfl, hΨ⟩
def s_X5_isFree (i0 : Nat) (p1 : Int64) (g : Nat → Nat → Nat → Int32) (w : Nat → Nat → Nat → Int64) : Bool :=
  if (lg_cmp (((w 5 i0 8) ||| (w 5 i0 9)) &&& p1) (0 : Int64)) ≠ 0 then
    s_X5_isFree_21 i0 p1 false g w
  else
    s_X5_isFree_21 i0 p1 true g w
set_option maxRecDepth 20000 in
set_option maxHeartbeats 2000000 in
theorem d_X5_isFree {d : Nat} {i0 : Nat} {p1 : Int64} {g : Nat → Nat → Nat → Int32} {w : Nat → Nat → Nat → Int64} : Does (EvM mth (d + 1)) 68 [aR 5 i0, aL p1] (L0, g, w, q0) (some (aI (bI (s_X5_isFree i0 p1 g w)))) (L0, g, w, q0) := by
  intro Ψ hΨ
  obtain ⟨r, h⟩ : ∃ r, s_X5_isFree i0 p1 g w = r := ⟨_, rfl⟩
  rw [h] at hΨ
  refine ⟨in_68, mth_68, Nat.le_of_ble_eq_true rfl, ?_⟩
  show Ev (EvM mth d) mth c00 sc0 (retP (some .boolean) c00 Ψ) (lkp es_68) 0 [some (aR 5 i0), some (aL p1), none] [] (L0, g, w, q0)
  unfold s_X5_isFree at h
  refine ev_aload_n (pc' := 1) rfl rfl rfl ?_
  refine ev_getL (pc' := 4) rfl rfl ?_
  refine ev_aload_n (pc' := 5) rfl rfl rfl ?_
  refine ev_getL (pc' := 8) rfl rfl ?_
  refine ev_lor (pc' := 9) rfl rfl ?_
  refine ev_lload_n (pc' := 10) rfl rfl rfl ?_
  refine ev_land (pc' := 11) rfl rfl ?_
  refine ev_lconst (pc' := 12) rfl rfl (v := (0 : Int64)) (by decide) ?_
  refine ev_lcmp (pc' := 13) rfl rfl ?_
  refine ev_if_ne rfl (pc' := 16) rfl (fun hc => ?_) (fun hc => ?_)
  · have h := (if_pos hc).symm.trans h
    refine ev_iconst (pc' := 21) rfl rfl (v := (0 : Int32)) (by decide) ?_
    exact e_X5_isFree_21 hΨ h
  · have h := (if_neg hc).symm.trans h
    refine ev_iconst (pc' := 17) rfl rfl (v := (1 : Int32)) (by decide) ?_
    refine ev_goto (pc' := 21) rfl ?_
    exact e_X5_isFree_21 hΨ h
def s_X5_fuelAfter_50 (i0 : Nat) (p1 : Int32) (p2 : Int32) (p3 : Int64) (t0 : Int32) (g : Nat → Nat → Nat → Int32) (w : Nat → Nat → Nat → Int64) : Int32 :=
  t0
set_option maxRecDepth 20000 in
set_option maxHeartbeats 2000000 in
theorem e_X5_fuelAfter_50 {d : Nat} {Ψ : Option AV → DS → Prop} {i0 : Nat} {p1 : Int32} {p2 : Int32} {p3 : Int64} {r : Int32} {g : Nat → Nat → Nat → Int32} {w : Nat → Nat → Nat → Int64} {t0 : Int32} {x0 : Option AV} {x1 : Option AV} {x2 : Option AV} {x3 : Option AV} {x4 : Option AV} {x5 : Option AV} (hΨ : Ψ (some (aI r)) (L0, g, w, q0)) (h : s_X5_fuelAfter_50 i0 p1 p2 p3 t0 g w = r) : Ev (EvM mth d) mth c00 sc0 (retP (some .int) c00 Ψ) (lkp es_71) 50 [x0, x1, x2, x3, x4, x5] [aI t0] (L0, g, w, q0) := by
  unfold s_X5_fuelAfter_50 at h
  subst h
  exact ev_ireturn rfl ⟨⟨_, rfl, rfl⟩, rfl, rfl, hΨ⟩
def s_X5_fuelAfter (i0 : Nat) (p1 : Int32) (p2 : Int32) (p3 : Int64) (g : Nat → Nat → Nat → Int32) (w : Nat → Nat → Nat → Int64) : Int32 :=
  if (lg_cmp ((jlush (w 5 i0 9) p2) &&& (1 : Int64)) (0 : Int64)) ≠ 0 then
    if ((p1 - ((jlush p3 p2) &&& (1 : Int64)).toInt32) + (12 : Int32)) ≤ (g 5 i0 4) then
      s_X5_fuelAfter_50 i0 p1 p2 p3 ((p1 - ((jlush p3 p2) &&& (1 : Int64)).toInt32) + (12 : Int32)) g w
    else
      s_X5_fuelAfter_50 i0 p1 p2 p3 (g 5 i0 4) g w
  else
    (p1 - ((jlush p3 p2) &&& (1 : Int64)).toInt32)
set_option maxRecDepth 20000 in
set_option maxHeartbeats 2000000 in
theorem d_X5_fuelAfter {d : Nat} {i0 : Nat} {p1 : Int32} {p2 : Int32} {p3 : Int64} {g : Nat → Nat → Nat → Int32} {w : Nat → Nat → Nat → Int64} : Does (EvM mth (d + 1)) 71 [aR 5 i0, aI p1, aI p2, aL p3] (L0, g, w, q0) (some (aI (s_X5_fuelAfter i0 p1 p2 p3 g w))) (L0, g, w, q0) := by
  intro Ψ hΨ
  obtain ⟨r, h⟩ : ∃ r, s_X5_fuelAfter i0 p1 p2 p3 g w = r := ⟨_, rfl⟩
  rw [h] at hΨ
  refine ⟨in_71, mth_71, Nat.le_of_ble_eq_true rfl, ?_⟩
  show Ev (EvM mth d) mth c00 sc0 (retP (some .int) c00 Ψ) (lkp es_71) 0 [some (aR 5 i0), some (aI p1), some (aI p2), some (aL p3), none, none] [] (L0, g, w, q0)
  unfold s_X5_fuelAfter at h
  refine ev_iload_n (pc' := 1) rfl rfl rfl ?_
  refine ev_lload_n (pc' := 2) rfl rfl rfl ?_
  refine ev_iload_n (pc' := 3) rfl rfl rfl ?_
  refine ev_lushr (pc' := 4) rfl rfl ?_
  refine ev_lconst (pc' := 5) rfl rfl (v := (1 : Int64)) (by decide) ?_
  refine ev_land (pc' := 6) rfl rfl ?_
  refine ev_l2i (pc' := 7) rfl rfl ?_
  refine ev_isub (pc' := 8) rfl rfl ?_
  refine ev_istore (pc' := 10) rfl rfl (l' := [some (aR 5 i0), some (aI p1), some (aI p2), some (aL p3), none, some (aI (p1 - ((jlush p3 p2) &&& (1 : Int64)).toInt32))]) rfl ?_
  refine ev_aload_n (pc' := 11) rfl rfl rfl ?_
  refine ev_getL (pc' := 14) rfl rfl ?_
  refine ev_iload_n (pc' := 15) rfl rfl rfl ?_
  refine ev_lushr (pc' := 16) rfl rfl ?_
  refine ev_lconst (pc' := 17) rfl rfl (v := (1 : Int64)) (by decide) ?_
  refine ev_land (pc' := 18) rfl rfl ?_
  refine ev_lconst (pc' := 19) rfl rfl (v := (0 : Int64)) (by decide) ?_
  refine ev_lcmp (pc' := 20) rfl rfl ?_
  refine ev_if_ne rfl (pc' := 23) rfl (fun hc => ?_) (fun hc => ?_)
  · have h := (if_pos hc).symm.trans h
    refine ev_iload (pc' := 28) rfl rfl rfl ?_
    refine ev_bipush (pc' := 30) rfl rfl (v := (12 : Int32)) (by decide) ?_
    refine ev_iadd (pc' := 31) rfl rfl ?_
    refine ev_aload_n (pc' := 32) rfl rfl rfl ?_
    refine ev_getI (pc' := 35) rfl rfl ?_
    refine ev_icmp_le rfl (pc' := 38) rfl (fun hc => ?_) (fun hc => ?_)
    · have h := (if_pos hc).symm.trans h
      refine ev_iload (pc' := 47) rfl rfl rfl ?_
      refine ev_bipush (pc' := 49) rfl rfl (v := (12 : Int32)) (by decide) ?_
      refine ev_iadd (pc' := 50) rfl rfl ?_
      exact e_X5_fuelAfter_50 hΨ h
    · have h := (if_neg hc).symm.trans h
      refine ev_aload_n (pc' := 39) rfl rfl rfl ?_
      refine ev_getI (pc' := 42) rfl rfl ?_
      refine ev_goto (pc' := 50) rfl ?_
      exact e_X5_fuelAfter_50 hΨ h
  · have h := (if_neg hc).symm.trans h
    refine ev_iload (pc' := 25) rfl rfl rfl ?_
    subst h
    exact ev_ireturn rfl ⟨⟨_, rfl, rfl⟩, rfl, rfl, hΨ⟩
def s_X6_within_15 (p0 : Int32) (p1 : Int32) (p2 : Int32) (t0 : Bool) (g : Nat → Nat → Nat → Int32) (w : Nat → Nat → Nat → Int64) : Bool :=
  t0
set_option maxRecDepth 20000 in
set_option maxHeartbeats 2000000 in
theorem e_X6_within_15 {d : Nat} {Ψ : Option AV → DS → Prop} {p0 : Int32} {p1 : Int32} {p2 : Int32} {r : Bool} {g : Nat → Nat → Nat → Int32} {w : Nat → Nat → Nat → Int64} {t0 : Bool} {x0 : Option AV} {x1 : Option AV} {x2 : Option AV} (hΨ : Ψ (some (aI (bI r))) (L0, g, w, q0)) (h : s_X6_within_15 p0 p1 p2 t0 g w = r) : Ev (EvM mth d) mth c00 sc0 (retP (some .boolean) c00 Ψ) (lkp es_105) 15 [x0, x1, x2] [aI (bI t0)] (L0, g, w, q0) := by
  unfold s_X6_within_15 at h
  subst h
  exact ev_ireturn rfl ⟨⟨_, rfl, nar_bI _⟩, rfl, rfl, hΨ⟩
def s_X6_within_14 (p0 : Int32) (p1 : Int32) (p2 : Int32) (g : Nat → Nat → Nat → Int32) (w : Nat → Nat → Nat → Int64) : Bool :=
  s_X6_within_15 p0 p1 p2 false g w
set_option maxRecDepth 20000 in
set_option maxHeartbeats 2000000 in
theorem e_X6_within_14 {d : Nat} {Ψ : Option AV → DS → Prop} {p0 : Int32} {p1 : Int32} {p2 : Int32} {r : Bool} {g : Nat → Nat → Nat → Int32} {w : Nat → Nat → Nat → Int64} {x0 : Option AV} {x1 : Option AV} {x2 : Option AV} (hΨ : Ψ (some (aI (bI r))) (L0, g, w, q0)) (h : s_X6_within_14 p0 p1 p2 g w = r) : Ev (EvM mth d) mth c00 sc0 (retP (some .boolean) c00 Ψ) (lkp es_105) 14 [x0, x1, x2] [] (L0, g, w, q0) := by
  unfold s_X6_within_14 at h
  refine ev_iconst (pc' := 15) rfl rfl (v := (0 : Int32)) (by decide) ?_
  exact e_X6_within_15 hΨ h
def s_X6_within (p0 : Int32) (p1 : Int32) (p2 : Int32) (g : Nat → Nat → Nat → Int32) (w : Nat → Nat → Nat → Int64) : Bool :=
  if p0 < p1 then
    s_X6_within_14 p0 p1 p2 g w
  else
    if p2 < p0 then
      s_X6_within_14 p0 p1 p2 g w
    else
      s_X6_within_15 p0 p1 p2 true g w
set_option maxRecDepth 20000 in
set_option maxHeartbeats 2000000 in
theorem d_X6_within {d : Nat} {p0 : Int32} {p1 : Int32} {p2 : Int32} {g : Nat → Nat → Nat → Int32} {w : Nat → Nat → Nat → Int64} : Does (EvM mth (d + 1)) 105 [aI p0, aI p1, aI p2] (L0, g, w, q0) (some (aI (bI (s_X6_within p0 p1 p2 g w)))) (L0, g, w, q0) := by
  intro Ψ hΨ
  obtain ⟨r, h⟩ : ∃ r, s_X6_within p0 p1 p2 g w = r := ⟨_, rfl⟩
  rw [h] at hΨ
  refine ⟨in_105, mth_105, Nat.le_of_ble_eq_true rfl, ?_⟩
  show Ev (EvM mth d) mth c00 sc0 (retP (some .boolean) c00 Ψ) (lkp es_105) 0 [some (aI p0), some (aI p1), some (aI p2)] [] (L0, g, w, q0)
  unfold s_X6_within at h
  refine ev_iload_n (pc' := 1) rfl rfl rfl ?_
  refine ev_iload_n (pc' := 2) rfl rfl rfl ?_
  refine ev_icmp_lt rfl (pc' := 5) rfl (fun hc => ?_) (fun hc => ?_)
  · have h := (if_pos hc).symm.trans h
    exact e_X6_within_14 hΨ h
  · have h := (if_neg hc).symm.trans h
    refine ev_iload_n (pc' := 6) rfl rfl rfl ?_
    refine ev_iload_n (pc' := 7) rfl rfl rfl ?_
    refine ev_icmp_gt rfl (pc' := 10) rfl (fun hc => ?_) (fun hc => ?_)
    · have h := (if_pos hc).symm.trans h
      exact e_X6_within_14 hΨ h
    · have h := (if_neg hc).symm.trans h
      refine ev_iconst (pc' := 11) rfl rfl (v := (1 : Int32)) (by decide) ?_
      refine ev_goto (pc' := 15) rfl ?_
      exact e_X6_within_15 hΨ h
def s_X6_isBerth_15 (p0 : Int32) (t0 : Bool) (g : Nat → Nat → Nat → Int32) (w : Nat → Nat → Nat → Int64) : Bool :=
  t0
set_option maxRecDepth 20000 in
set_option maxHeartbeats 2000000 in
theorem e_X6_isBerth_15 {d : Nat} {Ψ : Option AV → DS → Prop} {p0 : Int32} {r : Bool} {g : Nat → Nat → Nat → Int32} {w : Nat → Nat → Nat → Int64} {t0 : Bool} {x0 : Option AV} (hΨ : Ψ (some (aI (bI r))) (L0, g, w, q0)) (h : s_X6_isBerth_15 p0 t0 g w = r) : Ev (EvM mth d) mth c00 sc0 (retP (some .boolean) c00 Ψ) (lkp es_107) 15 [x0] [aI (bI t0)] (L0, g, w, q0) := by
  unfold s_X6_isBerth_15 at h
  subst h
  exact ev_ireturn rfl ⟨⟨_, rfl, nar_bI _⟩, rfl, rfl, hΨ⟩
def s_X6_isBerth_14 (p0 : Int32) (g : Nat → Nat → Nat → Int32) (w : Nat → Nat → Nat → Int64) : Bool :=
  s_X6_isBerth_15 p0 false g w
set_option maxRecDepth 20000 in
set_option maxHeartbeats 2000000 in
theorem e_X6_isBerth_14 {d : Nat} {Ψ : Option AV → DS → Prop} {p0 : Int32} {r : Bool} {g : Nat → Nat → Nat → Int32} {w : Nat → Nat → Nat → Int64} {x0 : Option AV} (hΨ : Ψ (some (aI (bI r))) (L0, g, w, q0)) (h : s_X6_isBerth_14 p0 g w = r) : Ev (EvM mth d) mth c00 sc0 (retP (some .boolean) c00 Ψ) (lkp es_107) 14 [x0] [] (L0, g, w, q0) := by
  unfold s_X6_isBerth_14 at h
  refine ev_iconst (pc' := 15) rfl rfl (v := (0 : Int32)) (by decide) ?_
  exact e_X6_isBerth_15 hΨ h
def s_X6_isBerth (p0 : Int32) (g : Nat → Nat → Nat → Int32) (w : Nat → Nat → Nat → Int64) : Bool :=
  if p0 < 0 then
    s_X6_isBerth_14 p0 g w
  else
    if (6 : Int32) ≤ p0 then
      s_X6_isBerth_14 p0 g w
    else
      s_X6_isBerth_15 p0 true g w
set_option maxRecDepth 20000 in
set_option maxHeartbeats 2000000 in
theorem d_X6_isBerth {d : Nat} {p0 : Int32} {g : Nat → Nat → Nat → Int32} {w : Nat → Nat → Nat → Int64} : Does (EvM mth (d + 1)) 107 [aI p0] (L0, g, w, q0) (some (aI (bI (s_X6_isBerth p0 g w)))) (L0, g, w, q0) := by
  intro Ψ hΨ
  obtain ⟨r, h⟩ : ∃ r, s_X6_isBerth p0 g w = r := ⟨_, rfl⟩
  rw [h] at hΨ
  refine ⟨in_107, mth_107, Nat.le_of_ble_eq_true rfl, ?_⟩
  show Ev (EvM mth d) mth c00 sc0 (retP (some .boolean) c00 Ψ) (lkp es_107) 0 [some (aI p0)] [] (L0, g, w, q0)
  unfold s_X6_isBerth at h
  refine ev_iload_n (pc' := 1) rfl rfl rfl ?_
  refine ev_if_lt rfl (pc' := 4) rfl (fun hc => ?_) (fun hc => ?_)
  · have h := (if_pos hc).symm.trans h
    exact e_X6_isBerth_14 hΨ h
  · have h := (if_neg hc).symm.trans h
    refine ev_iload_n (pc' := 5) rfl rfl rfl ?_
    refine ev_bipush (pc' := 7) rfl rfl (v := (6 : Int32)) (by decide) ?_
    refine ev_icmp_ge rfl (pc' := 10) rfl (fun hc => ?_) (fun hc => ?_)
    · have h := (if_pos hc).symm.trans h
      exact e_X6_isBerth_14 hΨ h
    · have h := (if_neg hc).symm.trans h
      refine ev_iconst (pc' := 11) rfl rfl (v := (1 : Int32)) (by decide) ?_
      refine ev_goto (pc' := 15) rfl ?_
      exact e_X6_isBerth_15 hΨ h
def s_X6_hoursAhead (p0 : Int32) (g : Nat → Nat → Nat → Int32) (w : Nat → Nat → Nat → Int64) : Int64 :=
  (((1 : Int64) <<< (p0.toInt64 &&& 63)) - (1 : Int64))
set_option maxRecDepth 20000 in
set_option maxHeartbeats 2000000 in
theorem d_X6_hoursAhead {d : Nat} {p0 : Int32} {g : Nat → Nat → Nat → Int32} {w : Nat → Nat → Nat → Int64} : Does (EvM mth (d + 1)) 112 [aI p0] (L0, g, w, q0) (some (aL (s_X6_hoursAhead p0 g w))) (L0, g, w, q0) := by
  intro Ψ hΨ
  obtain ⟨r, h⟩ : ∃ r, s_X6_hoursAhead p0 g w = r := ⟨_, rfl⟩
  rw [h] at hΨ
  refine ⟨in_112, mth_112, Nat.le_of_ble_eq_true rfl, ?_⟩
  show Ev (EvM mth d) mth c00 sc0 (retP (some .long) c00 Ψ) (lkp es_112) 0 [some (aI p0)] [] (L0, g, w, q0)
  unfold s_X6_hoursAhead at h
  refine ev_lconst (pc' := 1) rfl rfl (v := (1 : Int64)) (by decide) ?_
  refine ev_iload_n (pc' := 2) rfl rfl rfl ?_
  refine ev_lshl (pc' := 3) rfl rfl ?_
  refine ev_lconst (pc' := 4) rfl rfl (v := (1 : Int64)) (by decide) ?_
  refine ev_lsub (pc' := 5) rfl rfl ?_
  subst h
  exact ev_lreturn rfl ⟨⟨_, rfl⟩, rfl, rfl, hΨ⟩
def s_X6_isIn_13 (p0 : Int32) (p1 : Int32) (t0 : Bool) (g : Nat → Nat → Nat → Int32) (w : Nat → Nat → Nat → Int64) : Bool :=
  t0
set_option maxRecDepth 20000 in
set_option maxHeartbeats 2000000 in
theorem e_X6_isIn_13 {d : Nat} {Ψ : Option AV → DS → Prop} {p0 : Int32} {p1 : Int32} {r : Bool} {g : Nat → Nat → Nat → Int32} {w : Nat → Nat → Nat → Int64} {t0 : Bool} {x0 : Option AV} {x1 : Option AV} (hΨ : Ψ (some (aI (bI r))) (L0, g, w, q0)) (h : s_X6_isIn_13 p0 p1 t0 g w = r) : Ev (EvM mth d) mth c00 sc0 (retP (some .boolean) c00 Ψ) (lkp es_113) 13 [x0, x1] [aI (bI t0)] (L0, g, w, q0) := by
  unfold s_X6_isIn_13 at h
  subst h
  exact ev_ireturn rfl ⟨⟨_, rfl, nar_bI _⟩, rfl, rfl, hΨ⟩
def s_X6_isIn (p0 : Int32) (p1 : Int32) (g : Nat → Nat → Nat → Int32) (w : Nat → Nat → Nat → Int64) : Bool :=
  if ((jush p1 p0) &&& (1 : Int32)) = 0 then
    s_X6_isIn_13 p0 p1 false g w
  else
    s_X6_isIn_13 p0 p1 true g w
set_option maxRecDepth 20000 in
set_option maxHeartbeats 2000000 in
theorem d_X6_isIn {d : Nat} {p0 : Int32} {p1 : Int32} {g : Nat → Nat → Nat → Int32} {w : Nat → Nat → Nat → Int64} : Does (EvM mth (d + 1)) 113 [aI p0, aI p1] (L0, g, w, q0) (some (aI (bI (s_X6_isIn p0 p1 g w)))) (L0, g, w, q0) := by
  intro Ψ hΨ
  obtain ⟨r, h⟩ : ∃ r, s_X6_isIn p0 p1 g w = r := ⟨_, rfl⟩
  rw [h] at hΨ
  refine ⟨in_113, mth_113, Nat.le_of_ble_eq_true rfl, ?_⟩
  show Ev (EvM mth d) mth c00 sc0 (retP (some .boolean) c00 Ψ) (lkp es_113) 0 [some (aI p0), some (aI p1)] [] (L0, g, w, q0)
  unfold s_X6_isIn at h
  refine ev_iload_n (pc' := 1) rfl rfl rfl ?_
  refine ev_iload_n (pc' := 2) rfl rfl rfl ?_
  refine ev_iushr (pc' := 3) rfl rfl ?_
  refine ev_iconst (pc' := 4) rfl rfl (v := (1 : Int32)) (by decide) ?_
  refine ev_iand (pc' := 5) rfl rfl ?_
  refine ev_if_eq rfl (pc' := 8) rfl (fun hc => ?_) (fun hc => ?_)
  · have h := (if_pos hc).symm.trans h
    refine ev_iconst (pc' := 13) rfl rfl (v := (0 : Int32)) (by decide) ?_
    exact e_X6_isIn_13 hΨ h
  · have h := (if_neg hc).symm.trans h
    refine ev_iconst (pc' := 9) rfl rfl (v := (1 : Int32)) (by decide) ?_
    refine ev_goto (pc' := 13) rfl ?_
    exact e_X6_isIn_13 hΨ h
def s_X7_in_18 (p0 : Int64) (p2 : Int64) (p4 : Int64) (t0 : Bool) (g : Nat → Nat → Nat → Int32) (w : Nat → Nat → Nat → Int64) : Bool :=
  t0
set_option maxRecDepth 20000 in
set_option maxHeartbeats 2000000 in
theorem e_X7_in_18 {d : Nat} {Ψ : Option AV → DS → Prop} {p0 : Int64} {p2 : Int64} {p4 : Int64} {r : Bool} {g : Nat → Nat → Nat → Int32} {w : Nat → Nat → Nat → Int64} {t0 : Bool} {x0 : Option AV} {x1 : Option AV} {x2 : Option AV} {x3 : Option AV} {x4 : Option AV} {x5 : Option AV} (hΨ : Ψ (some (aI (bI r))) (L0, g, w, q0)) (h : s_X7_in_18 p0 p2 p4 t0 g w = r) : Ev (EvM mth d) mth c00 sc0 (retP (some .boolean) c00 Ψ) (lkp es_115) 18 [x0, x1, x2, x3, x4, x5] [aI (bI t0)] (L0, g, w, q0) := by
  unfold s_X7_in_18 at h
  subst h
  exact ev_ireturn rfl ⟨⟨_, rfl, nar_bI _⟩, rfl, rfl, hΨ⟩
def s_X7_in_17 (p0 : Int64) (p2 : Int64) (p4 : Int64) (g : Nat → Nat → Nat → Int32) (w : Nat → Nat → Nat → Int64) : Bool :=
  s_X7_in_18 p0 p2 p4 false g w
set_option maxRecDepth 20000 in
set_option maxHeartbeats 2000000 in
theorem e_X7_in_17 {d : Nat} {Ψ : Option AV → DS → Prop} {p0 : Int64} {p2 : Int64} {p4 : Int64} {r : Bool} {g : Nat → Nat → Nat → Int32} {w : Nat → Nat → Nat → Int64} {x0 : Option AV} {x1 : Option AV} {x2 : Option AV} {x3 : Option AV} {x4 : Option AV} {x5 : Option AV} (hΨ : Ψ (some (aI (bI r))) (L0, g, w, q0)) (h : s_X7_in_17 p0 p2 p4 g w = r) : Ev (EvM mth d) mth c00 sc0 (retP (some .boolean) c00 Ψ) (lkp es_115) 17 [x0, x1, x2, x3, x4, x5] [] (L0, g, w, q0) := by
  unfold s_X7_in_17 at h
  refine ev_iconst (pc' := 18) rfl rfl (v := (0 : Int32)) (by decide) ?_
  exact e_X7_in_18 hΨ h
def s_X7_in (p0 : Int64) (p2 : Int64) (p4 : Int64) (g : Nat → Nat → Nat → Int32) (w : Nat → Nat → Nat → Int64) : Bool :=
  if (lg_cmp p0 p2) < 0 then
    s_X7_in_17 p0 p2 p4 g w
  else
    if 0 < (lg_cmp p0 p4) then
      s_X7_in_17 p0 p2 p4 g w
    else
      s_X7_in_18 p0 p2 p4 true g w
set_option maxRecDepth 20000 in
set_option maxHeartbeats 2000000 in
theorem d_X7_in {d : Nat} {p0 : Int64} {p2 : Int64} {p4 : Int64} {g : Nat → Nat → Nat → Int32} {w : Nat → Nat → Nat → Int64} : Does (EvM mth (d + 1)) 115 [aL p0, aL p2, aL p4] (L0, g, w, q0) (some (aI (bI (s_X7_in p0 p2 p4 g w)))) (L0, g, w, q0) := by
  intro Ψ hΨ
  obtain ⟨r, h⟩ : ∃ r, s_X7_in p0 p2 p4 g w = r := ⟨_, rfl⟩
  rw [h] at hΨ
  refine ⟨in_115, mth_115, Nat.le_of_ble_eq_true rfl, ?_⟩
  show Ev (EvM mth d) mth c00 sc0 (retP (some .boolean) c00 Ψ) (lkp es_115) 0 [some (aL p0), none, some (aL p2), none, some (aL p4), none] [] (L0, g, w, q0)
  unfold s_X7_in at h
  refine ev_lload_n (pc' := 1) rfl rfl rfl ?_
  refine ev_lload_n (pc' := 2) rfl rfl rfl ?_
  refine ev_lcmp (pc' := 3) rfl rfl ?_
  refine ev_if_lt rfl (pc' := 6) rfl (fun hc => ?_) (fun hc => ?_)
  · have h := (if_pos hc).symm.trans h
    exact e_X7_in_17 hΨ h
  · have h := (if_neg hc).symm.trans h
    refine ev_lload_n (pc' := 7) rfl rfl rfl ?_
    refine ev_lload (pc' := 9) rfl rfl rfl ?_
    refine ev_lcmp (pc' := 10) rfl rfl ?_
    refine ev_if_gt rfl (pc' := 13) rfl (fun hc => ?_) (fun hc => ?_)
    · have h := (if_pos hc).symm.trans h
      exact e_X7_in_17 hΨ h
    · have h := (if_neg hc).symm.trans h
      refine ev_iconst (pc' := 14) rfl rfl (v := (1 : Int32)) (by decide) ?_
      refine ev_goto (pc' := 18) rfl ?_
      exact e_X7_in_18 hΨ h
def s_X7_ofTug (i0 : Nat) (p1 : Int32) (p2 : Int32) (g : Nat → Nat → Nat → Int32) (w : Nat → Nat → Nat → Int64) : Option (Int32) :=
  if inR (((70 : Int32) + ((10 : Int32) * p1)) + p2) 218 = true then
    some ((w 2218 0 (((70 : Int32) + ((10 : Int32) * p1)) + p2).toNatClampNeg).toInt32)
  else none
set_option maxRecDepth 20000 in
set_option maxHeartbeats 2000000 in
theorem d_X7_ofTug {d : Nat} {i0 : Nat} {p1 : Int32} {p2 : Int32} {g : Nat → Nat → Nat → Int32} {w : Nat → Nat → Nat → Int64} {r : Int32} (h : s_X7_ofTug i0 p1 p2 g w = some r) : Does (EvM mth (d + 1)) 117 [aR 7 i0, aI p1, aI p2] (L0, g, w, q0) (some (aI r)) (L0, g, w, q0) := by
  intro Ψ hΨ
  refine ⟨in_117, mth_117, Nat.le_of_ble_eq_true rfl, ?_⟩
  show Ev (EvM mth d) mth c00 sc0 (retP (some .int) c00 Ψ) (lkp es_117) 0 [some (aR 7 i0), some (aI p1), some (aI p2)] [] (L0, g, w, q0)
  unfold s_X7_ofTug at h
  refine ev_aload_n (pc' := 1) rfl rfl rfl ?_
  refine ev_getQ (pc' := 4) rfl rfl rfl ?_
  refine ev_bipush (pc' := 6) rfl rfl (v := (70 : Int32)) (by decide) ?_
  refine ev_bipush (pc' := 8) rfl rfl (v := (10 : Int32)) (by decide) ?_
  refine ev_iload_n (pc' := 9) rfl rfl rfl ?_
  refine ev_imul (pc' := 10) rfl rfl ?_
  refine ev_iadd (pc' := 11) rfl rfl ?_
  refine ev_iload_n (pc' := 12) rfl rfl rfl ?_
  refine ev_iadd (pc' := 13) rfl rfl ?_
  obtain ⟨hi, h⟩ := gdB h
  refine ev_lald (pc' := 14) rfl rfl rfl (inR_vp hi) ?_
  refine ev_l2i (pc' := 15) rfl rfl ?_
  obtain rfl := Option.some.inj h
  exact ev_ireturn rfl ⟨⟨_, rfl, rfl⟩, rfl, rfl, hΨ⟩
def s_X7_ofShip (i0 : Nat) (p1 : Int32) (p2 : Int32) (g : Nat → Nat → Nat → Int32) (w : Nat → Nat → Nat → Int64) : Option (Int32) :=
  if inR (((130 : Int32) + ((11 : Int32) * p1)) + p2) 218 = true then
    some ((w 2218 0 (((130 : Int32) + ((11 : Int32) * p1)) + p2).toNatClampNeg).toInt32)
  else none
set_option maxRecDepth 20000 in
set_option maxHeartbeats 2000000 in
theorem d_X7_ofShip {d : Nat} {i0 : Nat} {p1 : Int32} {p2 : Int32} {g : Nat → Nat → Nat → Int32} {w : Nat → Nat → Nat → Int64} {r : Int32} (h : s_X7_ofShip i0 p1 p2 g w = some r) : Does (EvM mth (d + 1)) 118 [aR 7 i0, aI p1, aI p2] (L0, g, w, q0) (some (aI r)) (L0, g, w, q0) := by
  intro Ψ hΨ
  refine ⟨in_118, mth_118, Nat.le_of_ble_eq_true rfl, ?_⟩
  show Ev (EvM mth d) mth c00 sc0 (retP (some .int) c00 Ψ) (lkp es_118) 0 [some (aR 7 i0), some (aI p1), some (aI p2)] [] (L0, g, w, q0)
  unfold s_X7_ofShip at h
  refine ev_aload_n (pc' := 1) rfl rfl rfl ?_
  refine ev_getQ (pc' := 4) rfl rfl rfl ?_
  refine ev_sipush (pc' := 7) rfl rfl (v := (130 : Int32)) (by decide) ?_
  refine ev_bipush (pc' := 9) rfl rfl (v := (11 : Int32)) (by decide) ?_
  refine ev_iload_n (pc' := 10) rfl rfl rfl ?_
  refine ev_imul (pc' := 11) rfl rfl ?_
  refine ev_iadd (pc' := 12) rfl rfl ?_
  refine ev_iload_n (pc' := 13) rfl rfl rfl ?_
  refine ev_iadd (pc' := 14) rfl rfl ?_
  obtain ⟨hi, h⟩ := gdB h
  refine ev_lald (pc' := 15) rfl rfl rfl (inR_vp hi) ?_
  refine ev_l2i (pc' := 16) rfl rfl ?_
  obtain rfl := Option.some.inj h
  exact ev_ireturn rfl ⟨⟨_, rfl, rfl⟩, rfl, rfl, hΨ⟩
def s_X7_wayOf_44 (i0 : Nat) (p1 : Int32) (p2 : Int32) (t0 : Int32) (g : Nat → Nat → Nat → Int32) (w : Nat → Nat → Nat → Int64) : Option (Int32) :=
  if nzI (w 2218 0 (62 : Int32).toNatClampNeg).toInt32 = true then
    some ((((t0 + (w 2218 0 (62 : Int32).toNatClampNeg).toInt32) - (1 : Int32)) / (w 2218 0 (62 : Int32).toNatClampNeg).toInt32))
  else none
set_option maxRecDepth 20000 in
set_option maxHeartbeats 2000000 in
theorem e_X7_wayOf_44 {d : Nat} {Ψ : Option AV → DS → Prop} {i0 : Nat} {p1 : Int32} {p2 : Int32} {r : Int32} {g : Nat → Nat → Nat → Int32} {w : Nat → Nat → Nat → Int64} {t0 : Int32} {x1 : Option AV} {x2 : Option AV} {x3 : Option AV} {x4 : Option AV} (hΨ : Ψ (some (aI r)) (L0, g, w, q0)) (h : s_X7_wayOf_44 i0 p1 p2 t0 g w = some r) : Ev (EvM mth d) mth c00 sc0 (retP (some .int) c00 Ψ) (lkp es_127) 44 [some (aR 7 i0), x1, x2, x3, x4] [aI t0] (L0, g, w, q0) := by
  unfold s_X7_wayOf_44 at h
  refine ev_istore_n (pc' := 45) rfl rfl (l' := [some (aR 7 i0), x1, (klO x2), some (aI t0), x4]) rfl ?_
  refine ev_aload_n (pc' := 46) rfl rfl rfl ?_
  refine ev_getQ (pc' := 49) rfl rfl rfl ?_
  refine ev_bipush (pc' := 51) rfl rfl (v := (62 : Int32)) (by decide) ?_
  refine ev_lald (pc' := 52) rfl rfl rfl (inR_vp (by decide)) ?_
  refine ev_l2i (pc' := 53) rfl rfl ?_
  refine ev_istore (pc' := 55) rfl rfl (l' := [some (aR 7 i0), x1, (klO x2), some (aI t0), some (aI (w 2218 0 (62 : Int32).toNatClampNeg).toInt32)]) rfl ?_
  refine ev_iload_n (pc' := 56) rfl rfl rfl ?_
  refine ev_iload (pc' := 58) rfl rfl rfl ?_
  refine ev_iadd (pc' := 59) rfl rfl ?_
  refine ev_iconst (pc' := 60) rfl rfl (v := (1 : Int32)) (by decide) ?_
  refine ev_isub (pc' := 61) rfl rfl ?_
  refine ev_iload (pc' := 63) rfl rfl rfl ?_
  obtain ⟨hi, h⟩ := gdB h
  refine ev_idiv (pc' := 64) rfl rfl (nzI_ne hi) ?_
  obtain rfl := Option.some.inj h
  exact ev_ireturn rfl ⟨⟨_, rfl, rfl⟩, rfl, rfl, hΨ⟩
def s_X7_wayOf (i0 : Nat) (p1 : Int32) (p2 : Int32) (g : Nat → Nat → Nat → Int32) (w : Nat → Nat → Nat → Int64) : Option (Int32) :=
  if inR p1 6 = true then
    if inR p2 6 = true then
      if (g 1006 2 p2.toNatClampNeg) ≤ (g 1006 2 p1.toNatClampNeg) then
        if inR p1 6 = true then
          if inR p2 6 = true then
            s_X7_wayOf_44 i0 p1 p2 ((g 1006 2 p1.toNatClampNeg) - (g 1006 2 p2.toNatClampNeg)) g w
          else none
        else none
      else
        if inR p2 6 = true then
          if inR p1 6 = true then
            s_X7_wayOf_44 i0 p1 p2 ((g 1006 2 p2.toNatClampNeg) - (g 1006 2 p1.toNatClampNeg)) g w
          else none
        else none
    else none
  else none
set_option maxRecDepth 20000 in
set_option maxHeartbeats 2000000 in
theorem d_X7_wayOf {d : Nat} {i0 : Nat} {p1 : Int32} {p2 : Int32} {g : Nat → Nat → Nat → Int32} {w : Nat → Nat → Nat → Int64} {r : Int32} (h : s_X7_wayOf i0 p1 p2 g w = some r) : Does (EvM mth (d + 1)) 127 [aR 7 i0, aI p1, aI p2] (L0, g, w, q0) (some (aI r)) (L0, g, w, q0) := by
  intro Ψ hΨ
  refine ⟨in_127, mth_127, Nat.le_of_ble_eq_true rfl, ?_⟩
  show Ev (EvM mth d) mth c00 sc0 (retP (some .int) c00 Ψ) (lkp es_127) 0 [some (aR 7 i0), some (aI p1), some (aI p2), none, none] [] (L0, g, w, q0)
  unfold s_X7_wayOf at h
  refine ev_aload_n (pc' := 1) rfl rfl rfl ?_
  refine ev_getQ (pc' := 4) rfl rfl rfl ?_
  refine ev_iload_n (pc' := 5) rfl rfl rfl ?_
  obtain ⟨hi, h⟩ := gdB h
  refine ev_iald (pc' := 6) rfl rfl rfl (inR_vp hi) ?_
  refine ev_aload_n (pc' := 7) rfl rfl rfl ?_
  refine ev_getQ (pc' := 10) rfl rfl rfl ?_
  refine ev_iload_n (pc' := 11) rfl rfl rfl ?_
  obtain ⟨hi, h⟩ := gdB h
  refine ev_iald (pc' := 12) rfl rfl rfl (inR_vp hi) ?_
  refine ev_icmp_ge rfl (pc' := 15) rfl (fun hc => ?_) (fun hc => ?_)
  · have h := (if_pos hc).symm.trans h
    refine ev_aload_n (pc' := 32) rfl rfl rfl ?_
    refine ev_getQ (pc' := 35) rfl rfl rfl ?_
    refine ev_iload_n (pc' := 36) rfl rfl rfl ?_
    obtain ⟨hi, h⟩ := gdB h
    refine ev_iald (pc' := 37) rfl rfl rfl (inR_vp hi) ?_
    refine ev_aload_n (pc' := 38) rfl rfl rfl ?_
    refine ev_getQ (pc' := 41) rfl rfl rfl ?_
    refine ev_iload_n (pc' := 42) rfl rfl rfl ?_
    obtain ⟨hi, h⟩ := gdB h
    refine ev_iald (pc' := 43) rfl rfl rfl (inR_vp hi) ?_
    refine ev_isub (pc' := 44) rfl rfl ?_
    exact e_X7_wayOf_44 hΨ h
  · have h := (if_neg hc).symm.trans h
    refine ev_aload_n (pc' := 16) rfl rfl rfl ?_
    refine ev_getQ (pc' := 19) rfl rfl rfl ?_
    refine ev_iload_n (pc' := 20) rfl rfl rfl ?_
    obtain ⟨hi, h⟩ := gdB h
    refine ev_iald (pc' := 21) rfl rfl rfl (inR_vp hi) ?_
    refine ev_aload_n (pc' := 22) rfl rfl rfl ?_
    refine ev_getQ (pc' := 25) rfl rfl rfl ?_
    refine ev_iload_n (pc' := 26) rfl rfl rfl ?_
    obtain ⟨hi, h⟩ := gdB h
    refine ev_iald (pc' := 27) rfl rfl rfl (inR_vp hi) ?_
    refine ev_isub (pc' := 28) rfl rfl ?_
    refine ev_goto (pc' := 44) rfl ?_
    exact e_X7_wayOf_44 hΨ h
def s_X7_has_15 (p0 : Int64) (p2 : Int32) (t0 : Bool) (g : Nat → Nat → Nat → Int32) (w : Nat → Nat → Nat → Int64) : Bool :=
  t0
set_option maxRecDepth 20000 in
set_option maxHeartbeats 2000000 in
theorem e_X7_has_15 {d : Nat} {Ψ : Option AV → DS → Prop} {p0 : Int64} {p2 : Int32} {r : Bool} {g : Nat → Nat → Nat → Int32} {w : Nat → Nat → Nat → Int64} {t0 : Bool} {x0 : Option AV} {x1 : Option AV} {x2 : Option AV} (hΨ : Ψ (some (aI (bI r))) (L0, g, w, q0)) (h : s_X7_has_15 p0 p2 t0 g w = r) : Ev (EvM mth d) mth c00 sc0 (retP (some .boolean) c00 Ψ) (lkp es_133) 15 [x0, x1, x2] [aI (bI t0)] (L0, g, w, q0) := by
  unfold s_X7_has_15 at h
  subst h
  exact ev_ireturn rfl ⟨⟨_, rfl, nar_bI _⟩, rfl, rfl, hΨ⟩
def s_X7_has (p0 : Int64) (p2 : Int32) (g : Nat → Nat → Nat → Int32) (w : Nat → Nat → Nat → Int64) : Bool :=
  if (lg_cmp ((p0 >>> (p2.toInt64 &&& 63)) &&& (1 : Int64)) (1 : Int64)) ≠ 0 then
    s_X7_has_15 p0 p2 false g w
  else
    s_X7_has_15 p0 p2 true g w
set_option maxRecDepth 20000 in
set_option maxHeartbeats 2000000 in
theorem d_X7_has {d : Nat} {p0 : Int64} {p2 : Int32} {g : Nat → Nat → Nat → Int32} {w : Nat → Nat → Nat → Int64} : Does (EvM mth (d + 1)) 133 [aL p0, aI p2] (L0, g, w, q0) (some (aI (bI (s_X7_has p0 p2 g w)))) (L0, g, w, q0) := by
  intro Ψ hΨ
  obtain ⟨r, h⟩ : ∃ r, s_X7_has p0 p2 g w = r := ⟨_, rfl⟩
  rw [h] at hΨ
  refine ⟨in_133, mth_133, Nat.le_of_ble_eq_true rfl, ?_⟩
  show Ev (EvM mth d) mth c00 sc0 (retP (some .boolean) c00 Ψ) (lkp es_133) 0 [some (aL p0), none, some (aI p2)] [] (L0, g, w, q0)
  unfold s_X7_has at h
  refine ev_lload_n (pc' := 1) rfl rfl rfl ?_
  refine ev_iload_n (pc' := 2) rfl rfl rfl ?_
  refine ev_lshr (pc' := 3) rfl rfl ?_
  refine ev_lconst (pc' := 4) rfl rfl (v := (1 : Int64)) (by decide) ?_
  refine ev_land (pc' := 5) rfl rfl ?_
  refine ev_lconst (pc' := 6) rfl rfl (v := (1 : Int64)) (by decide) ?_
  refine ev_lcmp (pc' := 7) rfl rfl ?_
  refine ev_if_ne rfl (pc' := 10) rfl (fun hc => ?_) (fun hc => ?_)
  · have h := (if_pos hc).symm.trans h
    refine ev_iconst (pc' := 15) rfl rfl (v := (0 : Int32)) (by decide) ?_
    exact e_X7_has_15 hΨ h
  · have h := (if_neg hc).symm.trans h
    refine ev_iconst (pc' := 11) rfl rfl (v := (1 : Int32)) (by decide) ?_
    refine ev_goto (pc' := 15) rfl ?_
    exact e_X7_has_15 hΨ h
def s_X7_hours (p0 : Int32) (p1 : Int32) (g : Nat → Nat → Nat → Int32) (w : Nat → Nat → Nat → Int64) : Int64 :=
  (((1 : Int64) <<< (p1.toInt64 &&& 63)) - ((1 : Int64) <<< (p0.toInt64 &&& 63)))
set_option maxRecDepth 20000 in
set_option maxHeartbeats 2000000 in
theorem d_X7_hours {d : Nat} {p0 : Int32} {p1 : Int32} {g : Nat → Nat → Nat → Int32} {w : Nat → Nat → Nat → Int64} : Does (EvM mth (d + 1)) 134 [aI p0, aI p1] (L0, g, w, q0) (some (aL (s_X7_hours p0 p1 g w))) (L0, g, w, q0) := by
  intro Ψ hΨ
  obtain ⟨r, h⟩ : ∃ r, s_X7_hours p0 p1 g w = r := ⟨_, rfl⟩
  rw [h] at hΨ
  refine ⟨in_134, mth_134, Nat.le_of_ble_eq_true rfl, ?_⟩
  show Ev (EvM mth d) mth c00 sc0 (retP (some .long) c00 Ψ) (lkp es_134) 0 [some (aI p0), some (aI p1)] [] (L0, g, w, q0)
  unfold s_X7_hours at h
  refine ev_lconst (pc' := 1) rfl rfl (v := (1 : Int64)) (by decide) ?_
  refine ev_iload_n (pc' := 2) rfl rfl rfl ?_
  refine ev_lshl (pc' := 3) rfl rfl ?_
  refine ev_lconst (pc' := 4) rfl rfl (v := (1 : Int64)) (by decide) ?_
  refine ev_iload_n (pc' := 5) rfl rfl rfl ?_
  refine ev_lshl (pc' := 6) rfl rfl ?_
  refine ev_lsub (pc' := 7) rfl rfl ?_
  subst h
  exact ev_lreturn rfl ⟨⟨_, rfl⟩, rfl, rfl, hΨ⟩
def s_X7_workOf (i0 : Nat) (p1 : Int32) (g : Nat → Nat → Nat → Int32) (w : Nat → Nat → Nat → Int64) : Option (Int64) :=
  if inR (((70 : Int32) + ((10 : Int32) * p1)) + (8 : Int32)) 218 = true then
    some ((w 2218 0 (((70 : Int32) + ((10 : Int32) * p1)) + (8 : Int32)).toNatClampNeg))
  else none
set_option maxRecDepth 20000 in
set_option maxHeartbeats 2000000 in
theorem d_X7_workOf {d : Nat} {i0 : Nat} {p1 : Int32} {g : Nat → Nat → Nat → Int32} {w : Nat → Nat → Nat → Int64} {r : Int64} (h : s_X7_workOf i0 p1 g w = some r) : Does (EvM mth (d + 1)) 135 [aR 7 i0, aI p1] (L0, g, w, q0) (some (aL r)) (L0, g, w, q0) := by
  intro Ψ hΨ
  refine ⟨in_135, mth_135, Nat.le_of_ble_eq_true rfl, ?_⟩
  show Ev (EvM mth d) mth c00 sc0 (retP (some .long) c00 Ψ) (lkp es_135) 0 [some (aR 7 i0), some (aI p1)] [] (L0, g, w, q0)
  unfold s_X7_workOf at h
  refine ev_aload_n (pc' := 1) rfl rfl rfl ?_
  refine ev_getQ (pc' := 4) rfl rfl rfl ?_
  refine ev_bipush (pc' := 6) rfl rfl (v := (70 : Int32)) (by decide) ?_
  refine ev_bipush (pc' := 8) rfl rfl (v := (10 : Int32)) (by decide) ?_
  refine ev_iload_n (pc' := 9) rfl rfl rfl ?_
  refine ev_imul (pc' := 10) rfl rfl ?_
  refine ev_iadd (pc' := 11) rfl rfl ?_
  refine ev_bipush (pc' := 13) rfl rfl (v := (8 : Int32)) (by decide) ?_
  refine ev_iadd (pc' := 14) rfl rfl ?_
  obtain ⟨hi, h⟩ := gdB h
  refine ev_lald (pc' := 15) rfl rfl rfl (inR_vp hi) ?_
  obtain rfl := Option.some.inj h
  exact ev_lreturn rfl ⟨⟨_, rfl⟩, rfl, rfl, hΨ⟩
def s_X7_bunkersOf (i0 : Nat) (p1 : Int32) (g : Nat → Nat → Nat → Int32) (w : Nat → Nat → Nat → Int64) : Option (Int64) :=
  if inR (((70 : Int32) + ((10 : Int32) * p1)) + (9 : Int32)) 218 = true then
    some ((w 2218 0 (((70 : Int32) + ((10 : Int32) * p1)) + (9 : Int32)).toNatClampNeg))
  else none
set_option maxRecDepth 20000 in
set_option maxHeartbeats 2000000 in
theorem d_X7_bunkersOf {d : Nat} {i0 : Nat} {p1 : Int32} {g : Nat → Nat → Nat → Int32} {w : Nat → Nat → Nat → Int64} {r : Int64} (h : s_X7_bunkersOf i0 p1 g w = some r) : Does (EvM mth (d + 1)) 136 [aR 7 i0, aI p1] (L0, g, w, q0) (some (aL r)) (L0, g, w, q0) := by
  intro Ψ hΨ
  refine ⟨in_136, mth_136, Nat.le_of_ble_eq_true rfl, ?_⟩
  show Ev (EvM mth d) mth c00 sc0 (retP (some .long) c00 Ψ) (lkp es_136) 0 [some (aR 7 i0), some (aI p1)] [] (L0, g, w, q0)
  unfold s_X7_bunkersOf at h
  refine ev_aload_n (pc' := 1) rfl rfl rfl ?_
  refine ev_getQ (pc' := 4) rfl rfl rfl ?_
  refine ev_bipush (pc' := 6) rfl rfl (v := (70 : Int32)) (by decide) ?_
  refine ev_bipush (pc' := 8) rfl rfl (v := (10 : Int32)) (by decide) ?_
  refine ev_iload_n (pc' := 9) rfl rfl rfl ?_
  refine ev_imul (pc' := 10) rfl rfl ?_
  refine ev_iadd (pc' := 11) rfl rfl ?_
  refine ev_bipush (pc' := 13) rfl rfl (v := (9 : Int32)) (by decide) ?_
  refine ev_iadd (pc' := 14) rfl rfl ?_
  obtain ⟨hi, h⟩ := gdB h
  refine ev_lald (pc' := 15) rfl rfl rfl (inR_vp hi) ?_
  obtain rfl := Option.some.inj h
  exact ev_lreturn rfl ⟨⟨_, rfl⟩, rfl, rfl, hΨ⟩
def s_X7_bits_4 (p0 : Int32) (rec4 : Int32 → Int32 → (Nat → Nat → Nat → Int32) → (Nat → Nat → Nat → Int64) → Option (Int32)) (v1 : Int32) (v2 : Int32) (g : Nat → Nat → Nat → Int32) (w : Nat → Nat → Nat → Int64) : Option (Int32) :=
  if (8 : Int32) ≤ v2 then
    some (v1)
  else
    rec4 (v1 + ((p0 >>> (v2 &&& 31)) &&& (1 : Int32))) (v2 + 1) g w
set_option maxRecDepth 20000 in
set_option maxHeartbeats 2000000 in
theorem e_X7_bits_4 {d : Nat} {Ψ : Option AV → DS → Prop} {p0 : Int32} {rec4 : Int32 → Int32 → (Nat → Nat → Nat → Int32) → (Nat → Nat → Nat → Int64) → Option (Int32)} {r : Int32} {g : Nat → Nat → Nat → Int32} {w : Nat → Nat → Nat → Int64} {v1 : Int32} {v2 : Int32} (hr4 : ∀ {v1 : Int32} {v2 : Int32} , rec4 v1 v2 g w = some r → Ev (EvM mth d) mth c00 sc0 (retP (some .int) c00 Ψ) (lkp es_157) 4 [some (aI p0), some (aI v1), some (aI v2)] [] (L0, g, w, q0)) (hΨ : Ψ (some (aI r)) (L0, g, w, q0)) (h : s_X7_bits_4 p0 rec4 v1 v2 g w = some r) : Ev (EvM mth d) mth c00 sc0 (retP (some .int) c00 Ψ) (lkp es_157) 4 [some (aI p0), some (aI v1), some (aI v2)] [] (L0, g, w, q0) := by
  unfold s_X7_bits_4 at h
  refine ev_iload_n (pc' := 5) rfl rfl rfl ?_
  refine ev_bipush (pc' := 7) rfl rfl (v := (8 : Int32)) (by decide) ?_
  refine ev_icmp_ge rfl (pc' := 10) rfl (fun hc => ?_) (fun hc => ?_)
  · have h := (if_pos hc).symm.trans h
    refine ev_iload_n (pc' := 25) rfl rfl rfl ?_
    obtain rfl := Option.some.inj h
    exact ev_ireturn rfl ⟨⟨_, rfl, rfl⟩, rfl, rfl, hΨ⟩
  · have h := (if_neg hc).symm.trans h
    refine ev_iload_n (pc' := 11) rfl rfl rfl ?_
    refine ev_iload_n (pc' := 12) rfl rfl rfl ?_
    refine ev_iload_n (pc' := 13) rfl rfl rfl ?_
    refine ev_ishr (pc' := 14) rfl rfl ?_
    refine ev_iconst (pc' := 15) rfl rfl (v := (1 : Int32)) (by decide) ?_
    refine ev_iand (pc' := 16) rfl rfl ?_
    refine ev_iadd (pc' := 17) rfl rfl ?_
    refine ev_istore_n (pc' := 18) rfl rfl (l' := [some (aI p0), some (aI (v1 + ((p0 >>> (v2 &&& 31)) &&& (1 : Int32)))), some (aI v2)]) rfl ?_
    refine ev_iinc (pc' := 21) rfl rfl (l' := [some (aI p0), some (aI (v1 + ((p0 >>> (v2 &&& 31)) &&& (1 : Int32)))), some (aI (v2 + 1))]) rfl (ii_1 _) rfl ?_
    refine ev_goto (pc' := 4) rfl ?_
    exact hr4 h
def s_X7_bits_R4 (p0 : Int32) : Nat → Int32 → Int32 → (Nat → Nat → Nat → Int32) → (Nat → Nat → Nat → Int64) → Option (Int32)
  | 0 => fun _ _ _ _ => none
  | n + 1 => s_X7_bits_4 p0 (s_X7_bits_R4 p0 n)
theorem e_X7_bits_R4 {d : Nat} {Ψ : Option AV → DS → Prop} {p0 : Int32} {r : Int32} {g : Nat → Nat → Nat → Int32} {w : Nat → Nat → Nat → Int64} (hΨ : Ψ (some (aI r)) (L0, g, w, q0)) : ∀ (n : Nat) {v1 : Int32} {v2 : Int32} , s_X7_bits_R4 p0 n v1 v2 g w = some r → Ev (EvM mth d) mth c00 sc0 (retP (some .int) c00 Ψ) (lkp es_157) 4 [some (aI p0), some (aI v1), some (aI v2)] [] (L0, g, w, q0) := by
  intro n
  induction n with
  | zero => intros; rename_i h; exact absurd h (by intro h9; cases h9)
  | succ n ih => intros; rename_i h; exact e_X7_bits_4 (hr4 := ih) hΨ h
def s_X7_bits (p0 : Int32) (g : Nat → Nat → Nat → Int32) (w : Nat → Nat → Nat → Int64) : Option (Int32) :=
  s_X7_bits_R4 p0 FU (0 : Int32) (0 : Int32) g w
set_option maxRecDepth 20000 in
set_option maxHeartbeats 2000000 in
theorem d_X7_bits {d : Nat} {p0 : Int32} {g : Nat → Nat → Nat → Int32} {w : Nat → Nat → Nat → Int64} {r : Int32} (h : s_X7_bits p0 g w = some r) : Does (EvM mth (d + 1)) 157 [aI p0] (L0, g, w, q0) (some (aI r)) (L0, g, w, q0) := by
  intro Ψ hΨ
  refine ⟨in_157, mth_157, Nat.le_of_ble_eq_true rfl, ?_⟩
  show Ev (EvM mth d) mth c00 sc0 (retP (some .int) c00 Ψ) (lkp es_157) 0 [some (aI p0), none, none] [] (L0, g, w, q0)
  unfold s_X7_bits at h
  refine ev_iconst (pc' := 1) rfl rfl (v := (0 : Int32)) (by decide) ?_
  refine ev_istore_n (pc' := 2) rfl rfl (l' := [some (aI p0), some (aI (0 : Int32)), none]) rfl ?_
  refine ev_iconst (pc' := 3) rfl rfl (v := (0 : Int32)) (by decide) ?_
  refine ev_istore_n (pc' := 4) rfl rfl (l' := [some (aI p0), some (aI (0 : Int32)), some (aI (0 : Int32))]) rfl ?_
  exact e_X7_bits_R4 hΨ FU h
def s_X7_asides_37 (i0 : Nat) (rec37 : Int32 → (Nat → Nat → Nat → Int32) → (Nat → Nat → Nat → Int64) → Option (GS)) (v1 : Int32) (g : Nat → Nat → Nat → Int32) (w : Nat → Nat → Nat → Int64) : Option (GS) :=
  if (8 : Int32) ≤ v1 then
    some ((g, w))
  else
    if inR (((130 : Int32) + ((11 : Int32) * v1)) + (7 : Int32)) 218 = true then
      if inR ((6 : Int32) + ((2 : Int32) * v1)) 22 = true then
        if inR (((130 : Int32) + ((11 : Int32) * v1)) + (8 : Int32)) 218 = true then
          if inR ((7 : Int32) + ((2 : Int32) * v1)) 22 = true then
            rec37 (v1 + 1) g (wL (wL w 2022 0 ((6 : Int32) + ((2 : Int32) * v1)).toNatClampNeg (w 2218 0 (((130 : Int32) + ((11 : Int32) * v1)) + (7 : Int32)).toNatClampNeg)) 2022 0 ((7 : Int32) + ((2 : Int32) * v1)).toNatClampNeg ((wL w 2022 0 ((6 : Int32) + ((2 : Int32) * v1)).toNatClampNeg (w 2218 0 (((130 : Int32) + ((11 : Int32) * v1)) + (7 : Int32)).toNatClampNeg)) 2218 0 (((130 : Int32) + ((11 : Int32) * v1)) + (8 : Int32)).toNatClampNeg))
          else none
        else none
      else none
    else none
set_option maxRecDepth 20000 in
set_option maxHeartbeats 2000000 in
theorem e_X7_asides_37 {d : Nat} {Ψ : Option AV → DS → Prop} {i0 : Nat} {rec37 : Int32 → (Nat → Nat → Nat → Int32) → (Nat → Nat → Nat → Int64) → Option (GS)} {r : GS} {g : Nat → Nat → Nat → Int32} {w : Nat → Nat → Nat → Int64} {v1 : Int32} (hr37 : ∀ {v1 : Int32} {g : Nat → Nat → Nat → Int32} {w : Nat → Nat → Nat → Int64} , rec37 v1 g w = some r → Ev (EvM mth d) mth c00 sc0 (retP (none) c00 Ψ) (lkp es_162) 37 [some (aR 7 i0), some (aI v1)] [] (L0, g, w, q0)) (hΨ : Ψ none (L0, r.1, r.2, q0)) (h : s_X7_asides_37 i0 rec37 v1 g w = some r) : Ev (EvM mth d) mth c00 sc0 (retP (none) c00 Ψ) (lkp es_162) 37 [some (aR 7 i0), some (aI v1)] [] (L0, g, w, q0) := by
  unfold s_X7_asides_37 at h
  refine ev_iload_n (pc' := 38) rfl rfl rfl ?_
  refine ev_bipush (pc' := 40) rfl rfl (v := (8 : Int32)) (by decide) ?_
  refine ev_icmp_ge rfl (pc' := 43) rfl (fun hc => ?_) (fun hc => ?_)
  · have h := (if_pos hc).symm.trans h
    obtain rfl := Option.some.inj h
    exact ev_return rfl ⟨rfl, rfl, rfl, hΨ⟩
  · have h := (if_neg hc).symm.trans h
    refine ev_aload_n (pc' := 44) rfl rfl rfl ?_
    refine ev_getQ (pc' := 47) rfl rfl rfl ?_
    refine ev_bipush (pc' := 49) rfl rfl (v := (6 : Int32)) (by decide) ?_
    refine ev_iconst (pc' := 50) rfl rfl (v := (2 : Int32)) (by decide) ?_
    refine ev_iload_n (pc' := 51) rfl rfl rfl ?_
    refine ev_imul (pc' := 52) rfl rfl ?_
    refine ev_iadd (pc' := 53) rfl rfl ?_
    refine ev_aload_n (pc' := 54) rfl rfl rfl ?_
    refine ev_getQ (pc' := 57) rfl rfl rfl ?_
    refine ev_sipush (pc' := 60) rfl rfl (v := (130 : Int32)) (by decide) ?_
    refine ev_bipush (pc' := 62) rfl rfl (v := (11 : Int32)) (by decide) ?_
    refine ev_iload_n (pc' := 63) rfl rfl rfl ?_
    refine ev_imul (pc' := 64) rfl rfl ?_
    refine ev_iadd (pc' := 65) rfl rfl ?_
    refine ev_bipush (pc' := 67) rfl rfl (v := (7 : Int32)) (by decide) ?_
    refine ev_iadd (pc' := 68) rfl rfl ?_
    obtain ⟨hi, h⟩ := gdB h
    refine ev_lald (pc' := 69) rfl rfl rfl (inR_vp hi) ?_
    obtain ⟨hi, h⟩ := gdB h
    refine ev_last (pc' := 70) rfl rfl rfl (inR_vp hi) ?_
    refine ev_aload_n (pc' := 71) rfl rfl rfl ?_
    refine ev_getQ (pc' := 74) rfl rfl rfl ?_
    refine ev_bipush (pc' := 76) rfl rfl (v := (7 : Int32)) (by decide) ?_
    refine ev_iconst (pc' := 77) rfl rfl (v := (2 : Int32)) (by decide) ?_
    refine ev_iload_n (pc' := 78) rfl rfl rfl ?_
    refine ev_imul (pc' := 79) rfl rfl ?_
    refine ev_iadd (pc' := 80) rfl rfl ?_
    refine ev_aload_n (pc' := 81) rfl rfl rfl ?_
    refine ev_getQ (pc' := 84) rfl rfl rfl ?_
    refine ev_sipush (pc' := 87) rfl rfl (v := (130 : Int32)) (by decide) ?_
    refine ev_bipush (pc' := 89) rfl rfl (v := (11 : Int32)) (by decide) ?_
    refine ev_iload_n (pc' := 90) rfl rfl rfl ?_
    refine ev_imul (pc' := 91) rfl rfl ?_
    refine ev_iadd (pc' := 92) rfl rfl ?_
    refine ev_bipush (pc' := 94) rfl rfl (v := (8 : Int32)) (by decide) ?_
    refine ev_iadd (pc' := 95) rfl rfl ?_
    obtain ⟨hi, h⟩ := gdB h
    refine ev_lald (pc' := 96) rfl rfl rfl (inR_vp hi) ?_
    obtain ⟨hi, h⟩ := gdB h
    refine ev_last (pc' := 97) rfl rfl rfl (inR_vp hi) ?_
    refine ev_iinc (pc' := 100) rfl rfl (l' := [some (aR 7 i0), some (aI (v1 + 1))]) rfl (ii_1 _) rfl ?_
    refine ev_goto (pc' := 37) rfl ?_
    exact hr37 h
def s_X7_asides_R37 (i0 : Nat) : Nat → Int32 → (Nat → Nat → Nat → Int32) → (Nat → Nat → Nat → Int64) → Option (GS)
  | 0 => fun _ _ _ => none
  | n + 1 => s_X7_asides_37 i0 (s_X7_asides_R37 i0 n)
theorem e_X7_asides_R37 {d : Nat} {Ψ : Option AV → DS → Prop} {i0 : Nat} {r : GS} (hΨ : Ψ none (L0, r.1, r.2, q0)) : ∀ (n : Nat) {v1 : Int32} {g : Nat → Nat → Nat → Int32} {w : Nat → Nat → Nat → Int64}, s_X7_asides_R37 i0 n v1 g w = some r → Ev (EvM mth d) mth c00 sc0 (retP (none) c00 Ψ) (lkp es_162) 37 [some (aR 7 i0), some (aI v1)] [] (L0, g, w, q0) := by
  intro n
  induction n with
  | zero => intros; rename_i h; exact absurd h (by intro h9; cases h9)
  | succ n ih => intros; rename_i h; exact e_X7_asides_37 (hr37 := ih) hΨ h
def s_X7_asides_2 (i0 : Nat) (rec2 : Int32 → (Nat → Nat → Nat → Int32) → (Nat → Nat → Nat → Int64) → Option (GS)) (v1 : Int32) (g : Nat → Nat → Nat → Int32) (w : Nat → Nat → Nat → Int64) : Option (GS) :=
  if (6 : Int32) ≤ v1 then
    s_X7_asides_R37 i0 FU (0 : Int32) g w
  else
    if inR (((70 : Int32) + ((10 : Int32) * v1)) + (8 : Int32)) 218 = true then
      if inR v1 22 = true then
        rec2 (v1 + 1) g (wL w 2022 0 v1.toNatClampNeg (w 2218 0 (((70 : Int32) + ((10 : Int32) * v1)) + (8 : Int32)).toNatClampNeg))
      else none
    else none
set_option maxRecDepth 20000 in
set_option maxHeartbeats 2000000 in
theorem e_X7_asides_2 {d : Nat} {Ψ : Option AV → DS → Prop} {i0 : Nat} {rec2 : Int32 → (Nat → Nat → Nat → Int32) → (Nat → Nat → Nat → Int64) → Option (GS)} {r : GS} {g : Nat → Nat → Nat → Int32} {w : Nat → Nat → Nat → Int64} {v1 : Int32} (hr2 : ∀ {v1 : Int32} {g : Nat → Nat → Nat → Int32} {w : Nat → Nat → Nat → Int64} , rec2 v1 g w = some r → Ev (EvM mth d) mth c00 sc0 (retP (none) c00 Ψ) (lkp es_162) 2 [some (aR 7 i0), some (aI v1)] [] (L0, g, w, q0)) (hΨ : Ψ none (L0, r.1, r.2, q0)) (h : s_X7_asides_2 i0 rec2 v1 g w = some r) : Ev (EvM mth d) mth c00 sc0 (retP (none) c00 Ψ) (lkp es_162) 2 [some (aR 7 i0), some (aI v1)] [] (L0, g, w, q0) := by
  unfold s_X7_asides_2 at h
  refine ev_iload_n (pc' := 3) rfl rfl rfl ?_
  refine ev_bipush (pc' := 5) rfl rfl (v := (6 : Int32)) (by decide) ?_
  refine ev_icmp_ge rfl (pc' := 8) rfl (fun hc => ?_) (fun hc => ?_)
  · have h := (if_pos hc).symm.trans h
    refine ev_iconst (pc' := 36) rfl rfl (v := (0 : Int32)) (by decide) ?_
    refine ev_istore_n (pc' := 37) rfl rfl (l' := [some (aR 7 i0), some (aI (0 : Int32))]) rfl ?_
    exact e_X7_asides_R37 hΨ FU h
  · have h := (if_neg hc).symm.trans h
    refine ev_aload_n (pc' := 9) rfl rfl rfl ?_
    refine ev_getQ (pc' := 12) rfl rfl rfl ?_
    refine ev_iload_n (pc' := 13) rfl rfl rfl ?_
    refine ev_aload_n (pc' := 14) rfl rfl rfl ?_
    refine ev_getQ (pc' := 17) rfl rfl rfl ?_
    refine ev_bipush (pc' := 19) rfl rfl (v := (70 : Int32)) (by decide) ?_
    refine ev_bipush (pc' := 21) rfl rfl (v := (10 : Int32)) (by decide) ?_
    refine ev_iload_n (pc' := 22) rfl rfl rfl ?_
    refine ev_imul (pc' := 23) rfl rfl ?_
    refine ev_iadd (pc' := 24) rfl rfl ?_
    refine ev_bipush (pc' := 26) rfl rfl (v := (8 : Int32)) (by decide) ?_
    refine ev_iadd (pc' := 27) rfl rfl ?_
    obtain ⟨hi, h⟩ := gdB h
    refine ev_lald (pc' := 28) rfl rfl rfl (inR_vp hi) ?_
    obtain ⟨hi, h⟩ := gdB h
    refine ev_last (pc' := 29) rfl rfl rfl (inR_vp hi) ?_
    refine ev_iinc (pc' := 32) rfl rfl (l' := [some (aR 7 i0), some (aI (v1 + 1))]) rfl (ii_1 _) rfl ?_
    refine ev_goto (pc' := 2) rfl ?_
    exact hr2 h
def s_X7_asides_R2 (i0 : Nat) : Nat → Int32 → (Nat → Nat → Nat → Int32) → (Nat → Nat → Nat → Int64) → Option (GS)
  | 0 => fun _ _ _ => none
  | n + 1 => s_X7_asides_2 i0 (s_X7_asides_R2 i0 n)
theorem e_X7_asides_R2 {d : Nat} {Ψ : Option AV → DS → Prop} {i0 : Nat} {r : GS} (hΨ : Ψ none (L0, r.1, r.2, q0)) : ∀ (n : Nat) {v1 : Int32} {g : Nat → Nat → Nat → Int32} {w : Nat → Nat → Nat → Int64}, s_X7_asides_R2 i0 n v1 g w = some r → Ev (EvM mth d) mth c00 sc0 (retP (none) c00 Ψ) (lkp es_162) 2 [some (aR 7 i0), some (aI v1)] [] (L0, g, w, q0) := by
  intro n
  induction n with
  | zero => intros; rename_i h; exact absurd h (by intro h9; cases h9)
  | succ n ih => intros; rename_i h; exact e_X7_asides_2 (hr2 := ih) hΨ h
def s_X7_asides (i0 : Nat) (g : Nat → Nat → Nat → Int32) (w : Nat → Nat → Nat → Int64) : Option (GS) :=
  s_X7_asides_R2 i0 FU (0 : Int32) g w
set_option maxRecDepth 20000 in
set_option maxHeartbeats 2000000 in
theorem d_X7_asides {d : Nat} {i0 : Nat} {g : Nat → Nat → Nat → Int32} {w : Nat → Nat → Nat → Int64} {r : GS} (h : s_X7_asides i0 g w = some r) : Does (EvM mth (d + 1)) 162 [aR 7 i0] (L0, g, w, q0) none (L0, r.1, r.2, q0) := by
  intro Ψ hΨ
  refine ⟨in_162, mth_162, Nat.le_of_ble_eq_true rfl, ?_⟩
  show Ev (EvM mth d) mth c00 sc0 (retP (none) c00 Ψ) (lkp es_162) 0 [some (aR 7 i0), none] [] (L0, g, w, q0)
  unfold s_X7_asides at h
  refine ev_iconst (pc' := 1) rfl rfl (v := (0 : Int32)) (by decide) ?_
  refine ev_istore_n (pc' := 2) rfl rfl (l' := [some (aR 7 i0), some (aI (0 : Int32))]) rfl ?_
  exact e_X7_asides_R2 hΨ FU h
def s_X7_returns_37 (i0 : Nat) (rec37 : Int32 → (Nat → Nat → Nat → Int32) → (Nat → Nat → Nat → Int64) → Option (GS)) (v1 : Int32) (g : Nat → Nat → Nat → Int32) (w : Nat → Nat → Nat → Int64) : Option (GS) :=
  if (8 : Int32) ≤ v1 then
    some ((g, w))
  else
    if inR ((6 : Int32) + ((2 : Int32) * v1)) 22 = true then
      if inR (((130 : Int32) + ((11 : Int32) * v1)) + (7 : Int32)) 218 = true then
        if inR ((7 : Int32) + ((2 : Int32) * v1)) 22 = true then
          if inR (((130 : Int32) + ((11 : Int32) * v1)) + (8 : Int32)) 218 = true then
            rec37 (v1 + 1) g (wL (wL w 2218 0 (((130 : Int32) + ((11 : Int32) * v1)) + (7 : Int32)).toNatClampNeg (w 2022 0 ((6 : Int32) + ((2 : Int32) * v1)).toNatClampNeg)) 2218 0 (((130 : Int32) + ((11 : Int32) * v1)) + (8 : Int32)).toNatClampNeg ((wL w 2218 0 (((130 : Int32) + ((11 : Int32) * v1)) + (7 : Int32)).toNatClampNeg (w 2022 0 ((6 : Int32) + ((2 : Int32) * v1)).toNatClampNeg)) 2022 0 ((7 : Int32) + ((2 : Int32) * v1)).toNatClampNeg))
          else none
        else none
      else none
    else none
set_option maxRecDepth 20000 in
set_option maxHeartbeats 2000000 in
theorem e_X7_returns_37 {d : Nat} {Ψ : Option AV → DS → Prop} {i0 : Nat} {rec37 : Int32 → (Nat → Nat → Nat → Int32) → (Nat → Nat → Nat → Int64) → Option (GS)} {r : GS} {g : Nat → Nat → Nat → Int32} {w : Nat → Nat → Nat → Int64} {v1 : Int32} (hr37 : ∀ {v1 : Int32} {g : Nat → Nat → Nat → Int32} {w : Nat → Nat → Nat → Int64} , rec37 v1 g w = some r → Ev (EvM mth d) mth c00 sc0 (retP (none) c00 Ψ) (lkp es_163) 37 [some (aR 7 i0), some (aI v1)] [] (L0, g, w, q0)) (hΨ : Ψ none (L0, r.1, r.2, q0)) (h : s_X7_returns_37 i0 rec37 v1 g w = some r) : Ev (EvM mth d) mth c00 sc0 (retP (none) c00 Ψ) (lkp es_163) 37 [some (aR 7 i0), some (aI v1)] [] (L0, g, w, q0) := by
  unfold s_X7_returns_37 at h
  refine ev_iload_n (pc' := 38) rfl rfl rfl ?_
  refine ev_bipush (pc' := 40) rfl rfl (v := (8 : Int32)) (by decide) ?_
  refine ev_icmp_ge rfl (pc' := 43) rfl (fun hc => ?_) (fun hc => ?_)
  · have h := (if_pos hc).symm.trans h
    obtain rfl := Option.some.inj h
    exact ev_return rfl ⟨rfl, rfl, rfl, hΨ⟩
  · have h := (if_neg hc).symm.trans h
    refine ev_aload_n (pc' := 44) rfl rfl rfl ?_
    refine ev_getQ (pc' := 47) rfl rfl rfl ?_
    refine ev_sipush (pc' := 50) rfl rfl (v := (130 : Int32)) (by decide) ?_
    refine ev_bipush (pc' := 52) rfl rfl (v := (11 : Int32)) (by decide) ?_
    refine ev_iload_n (pc' := 53) rfl rfl rfl ?_
    refine ev_imul (pc' := 54) rfl rfl ?_
    refine ev_iadd (pc' := 55) rfl rfl ?_
    refine ev_bipush (pc' := 57) rfl rfl (v := (7 : Int32)) (by decide) ?_
    refine ev_iadd (pc' := 58) rfl rfl ?_
    refine ev_aload_n (pc' := 59) rfl rfl rfl ?_
    refine ev_getQ (pc' := 62) rfl rfl rfl ?_
    refine ev_bipush (pc' := 64) rfl rfl (v := (6 : Int32)) (by decide) ?_
    refine ev_iconst (pc' := 65) rfl rfl (v := (2 : Int32)) (by decide) ?_
    refine ev_iload_n (pc' := 66) rfl rfl rfl ?_
    refine ev_imul (pc' := 67) rfl rfl ?_
    refine ev_iadd (pc' := 68) rfl rfl ?_
    obtain ⟨hi, h⟩ := gdB h
    refine ev_lald (pc' := 69) rfl rfl rfl (inR_vp hi) ?_
    obtain ⟨hi, h⟩ := gdB h
    refine ev_last (pc' := 70) rfl rfl rfl (inR_vp hi) ?_
    refine ev_aload_n (pc' := 71) rfl rfl rfl ?_
    refine ev_getQ (pc' := 74) rfl rfl rfl ?_
    refine ev_sipush (pc' := 77) rfl rfl (v := (130 : Int32)) (by decide) ?_
    refine ev_bipush (pc' := 79) rfl rfl (v := (11 : Int32)) (by decide) ?_
    refine ev_iload_n (pc' := 80) rfl rfl rfl ?_
    refine ev_imul (pc' := 81) rfl rfl ?_
    refine ev_iadd (pc' := 82) rfl rfl ?_
    refine ev_bipush (pc' := 84) rfl rfl (v := (8 : Int32)) (by decide) ?_
    refine ev_iadd (pc' := 85) rfl rfl ?_
    refine ev_aload_n (pc' := 86) rfl rfl rfl ?_
    refine ev_getQ (pc' := 89) rfl rfl rfl ?_
    refine ev_bipush (pc' := 91) rfl rfl (v := (7 : Int32)) (by decide) ?_
    refine ev_iconst (pc' := 92) rfl rfl (v := (2 : Int32)) (by decide) ?_
    refine ev_iload_n (pc' := 93) rfl rfl rfl ?_
    refine ev_imul (pc' := 94) rfl rfl ?_
    refine ev_iadd (pc' := 95) rfl rfl ?_
    obtain ⟨hi, h⟩ := gdB h
    refine ev_lald (pc' := 96) rfl rfl rfl (inR_vp hi) ?_
    obtain ⟨hi, h⟩ := gdB h
    refine ev_last (pc' := 97) rfl rfl rfl (inR_vp hi) ?_
    refine ev_iinc (pc' := 100) rfl rfl (l' := [some (aR 7 i0), some (aI (v1 + 1))]) rfl (ii_1 _) rfl ?_
    refine ev_goto (pc' := 37) rfl ?_
    exact hr37 h
def s_X7_returns_R37 (i0 : Nat) : Nat → Int32 → (Nat → Nat → Nat → Int32) → (Nat → Nat → Nat → Int64) → Option (GS)
  | 0 => fun _ _ _ => none
  | n + 1 => s_X7_returns_37 i0 (s_X7_returns_R37 i0 n)
theorem e_X7_returns_R37 {d : Nat} {Ψ : Option AV → DS → Prop} {i0 : Nat} {r : GS} (hΨ : Ψ none (L0, r.1, r.2, q0)) : ∀ (n : Nat) {v1 : Int32} {g : Nat → Nat → Nat → Int32} {w : Nat → Nat → Nat → Int64}, s_X7_returns_R37 i0 n v1 g w = some r → Ev (EvM mth d) mth c00 sc0 (retP (none) c00 Ψ) (lkp es_163) 37 [some (aR 7 i0), some (aI v1)] [] (L0, g, w, q0) := by
  intro n
  induction n with
  | zero => intros; rename_i h; exact absurd h (by intro h9; cases h9)
  | succ n ih => intros; rename_i h; exact e_X7_returns_37 (hr37 := ih) hΨ h
def s_X7_returns_2 (i0 : Nat) (rec2 : Int32 → (Nat → Nat → Nat → Int32) → (Nat → Nat → Nat → Int64) → Option (GS)) (v1 : Int32) (g : Nat → Nat → Nat → Int32) (w : Nat → Nat → Nat → Int64) : Option (GS) :=
  if (6 : Int32) ≤ v1 then
    s_X7_returns_R37 i0 FU (0 : Int32) g w
  else
    if inR v1 22 = true then
      if inR (((70 : Int32) + ((10 : Int32) * v1)) + (8 : Int32)) 218 = true then
        rec2 (v1 + 1) g (wL w 2218 0 (((70 : Int32) + ((10 : Int32) * v1)) + (8 : Int32)).toNatClampNeg (w 2022 0 v1.toNatClampNeg))
      else none
    else none
set_option maxRecDepth 20000 in
set_option maxHeartbeats 2000000 in
theorem e_X7_returns_2 {d : Nat} {Ψ : Option AV → DS → Prop} {i0 : Nat} {rec2 : Int32 → (Nat → Nat → Nat → Int32) → (Nat → Nat → Nat → Int64) → Option (GS)} {r : GS} {g : Nat → Nat → Nat → Int32} {w : Nat → Nat → Nat → Int64} {v1 : Int32} (hr2 : ∀ {v1 : Int32} {g : Nat → Nat → Nat → Int32} {w : Nat → Nat → Nat → Int64} , rec2 v1 g w = some r → Ev (EvM mth d) mth c00 sc0 (retP (none) c00 Ψ) (lkp es_163) 2 [some (aR 7 i0), some (aI v1)] [] (L0, g, w, q0)) (hΨ : Ψ none (L0, r.1, r.2, q0)) (h : s_X7_returns_2 i0 rec2 v1 g w = some r) : Ev (EvM mth d) mth c00 sc0 (retP (none) c00 Ψ) (lkp es_163) 2 [some (aR 7 i0), some (aI v1)] [] (L0, g, w, q0) := by
  unfold s_X7_returns_2 at h
  refine ev_iload_n (pc' := 3) rfl rfl rfl ?_
  refine ev_bipush (pc' := 5) rfl rfl (v := (6 : Int32)) (by decide) ?_
  refine ev_icmp_ge rfl (pc' := 8) rfl (fun hc => ?_) (fun hc => ?_)
  · have h := (if_pos hc).symm.trans h
    refine ev_iconst (pc' := 36) rfl rfl (v := (0 : Int32)) (by decide) ?_
    refine ev_istore_n (pc' := 37) rfl rfl (l' := [some (aR 7 i0), some (aI (0 : Int32))]) rfl ?_
    exact e_X7_returns_R37 hΨ FU h
  · have h := (if_neg hc).symm.trans h
    refine ev_aload_n (pc' := 9) rfl rfl rfl ?_
    refine ev_getQ (pc' := 12) rfl rfl rfl ?_
    refine ev_bipush (pc' := 14) rfl rfl (v := (70 : Int32)) (by decide) ?_
    refine ev_bipush (pc' := 16) rfl rfl (v := (10 : Int32)) (by decide) ?_
    refine ev_iload_n (pc' := 17) rfl rfl rfl ?_
    refine ev_imul (pc' := 18) rfl rfl ?_
    refine ev_iadd (pc' := 19) rfl rfl ?_
    refine ev_bipush (pc' := 21) rfl rfl (v := (8 : Int32)) (by decide) ?_
    refine ev_iadd (pc' := 22) rfl rfl ?_
    refine ev_aload_n (pc' := 23) rfl rfl rfl ?_
    refine ev_getQ (pc' := 26) rfl rfl rfl ?_
    refine ev_iload_n (pc' := 27) rfl rfl rfl ?_
    obtain ⟨hi, h⟩ := gdB h
    refine ev_lald (pc' := 28) rfl rfl rfl (inR_vp hi) ?_
    obtain ⟨hi, h⟩ := gdB h
    refine ev_last (pc' := 29) rfl rfl rfl (inR_vp hi) ?_
    refine ev_iinc (pc' := 32) rfl rfl (l' := [some (aR 7 i0), some (aI (v1 + 1))]) rfl (ii_1 _) rfl ?_
    refine ev_goto (pc' := 2) rfl ?_
    exact hr2 h
def s_X7_returns_R2 (i0 : Nat) : Nat → Int32 → (Nat → Nat → Nat → Int32) → (Nat → Nat → Nat → Int64) → Option (GS)
  | 0 => fun _ _ _ => none
  | n + 1 => s_X7_returns_2 i0 (s_X7_returns_R2 i0 n)
theorem e_X7_returns_R2 {d : Nat} {Ψ : Option AV → DS → Prop} {i0 : Nat} {r : GS} (hΨ : Ψ none (L0, r.1, r.2, q0)) : ∀ (n : Nat) {v1 : Int32} {g : Nat → Nat → Nat → Int32} {w : Nat → Nat → Nat → Int64}, s_X7_returns_R2 i0 n v1 g w = some r → Ev (EvM mth d) mth c00 sc0 (retP (none) c00 Ψ) (lkp es_163) 2 [some (aR 7 i0), some (aI v1)] [] (L0, g, w, q0) := by
  intro n
  induction n with
  | zero => intros; rename_i h; exact absurd h (by intro h9; cases h9)
  | succ n ih => intros; rename_i h; exact e_X7_returns_2 (hr2 := ih) hΨ h
def s_X7_returns (i0 : Nat) (g : Nat → Nat → Nat → Int32) (w : Nat → Nat → Nat → Int64) : Option (GS) :=
  s_X7_returns_R2 i0 FU (0 : Int32) g w
set_option maxRecDepth 20000 in
set_option maxHeartbeats 2000000 in
theorem d_X7_returns {d : Nat} {i0 : Nat} {g : Nat → Nat → Nat → Int32} {w : Nat → Nat → Nat → Int64} {r : GS} (h : s_X7_returns i0 g w = some r) : Does (EvM mth (d + 1)) 163 [aR 7 i0] (L0, g, w, q0) none (L0, r.1, r.2, q0) := by
  intro Ψ hΨ
  refine ⟨in_163, mth_163, Nat.le_of_ble_eq_true rfl, ?_⟩
  show Ev (EvM mth d) mth c00 sc0 (retP (none) c00 Ψ) (lkp es_163) 0 [some (aR 7 i0), none] [] (L0, g, w, q0)
  unfold s_X7_returns at h
  refine ev_iconst (pc' := 1) rfl rfl (v := (0 : Int32)) (by decide) ?_
  refine ev_istore_n (pc' := 2) rfl rfl (l' := [some (aR 7 i0), some (aI (0 : Int32))]) rfl ?_
  exact e_X7_returns_R2 hΨ FU h
def s_X7_empties_32 (i0 : Nat) (rec32 : Int32 → (Nat → Nat → Nat → Int32) → (Nat → Nat → Nat → Int64) → Option (GS)) (v1 : Int32) (g : Nat → Nat → Nat → Int32) (w : Nat → Nat → Nat → Int64) : Option (GS) :=
  if 0 ≤ (lg_cmp v1.toInt64 (w 2218 0 (65 : Int32).toNatClampNeg)) then
    some ((g, w))
  else
    if inR (((130 : Int32) + ((11 : Int32) * v1)) + (7 : Int32)) 218 = true then
      if inR (((130 : Int32) + ((11 : Int32) * v1)) + (8 : Int32)) 218 = true then
        rec32 (v1 + 1) g (wL (wL w 2218 0 (((130 : Int32) + ((11 : Int32) * v1)) + (7 : Int32)).toNatClampNeg (-4 : Int64)) 2218 0 (((130 : Int32) + ((11 : Int32) * v1)) + (8 : Int32)).toNatClampNeg (0 : Int64))
      else none
    else none
set_option maxRecDepth 20000 in
set_option maxHeartbeats 2000000 in
theorem e_X7_empties_32 {d : Nat} {Ψ : Option AV → DS → Prop} {i0 : Nat} {rec32 : Int32 → (Nat → Nat → Nat → Int32) → (Nat → Nat → Nat → Int64) → Option (GS)} {r : GS} {g : Nat → Nat → Nat → Int32} {w : Nat → Nat → Nat → Int64} {v1 : Int32} (hr32 : ∀ {v1 : Int32} {g : Nat → Nat → Nat → Int32} {w : Nat → Nat → Nat → Int64} , rec32 v1 g w = some r → Ev (EvM mth d) mth c00 sc0 (retP (none) c00 Ψ) (lkp es_164) 32 [some (aR 7 i0), some (aI v1)] [] (L0, g, w, q0)) (hΨ : Ψ none (L0, r.1, r.2, q0)) (h : s_X7_empties_32 i0 rec32 v1 g w = some r) : Ev (EvM mth d) mth c00 sc0 (retP (none) c00 Ψ) (lkp es_164) 32 [some (aR 7 i0), some (aI v1)] [] (L0, g, w, q0) := by
  unfold s_X7_empties_32 at h
  refine ev_iload_n (pc' := 33) rfl rfl rfl ?_
  refine ev_i2l (pc' := 34) rfl rfl ?_
  refine ev_aload_n (pc' := 35) rfl rfl rfl ?_
  refine ev_getQ (pc' := 38) rfl rfl rfl ?_
  refine ev_bipush (pc' := 40) rfl rfl (v := (65 : Int32)) (by decide) ?_
  refine ev_lald (pc' := 41) rfl rfl rfl (inR_vp (by decide)) ?_
  refine ev_lcmp (pc' := 42) rfl rfl ?_
  refine ev_if_ge rfl (pc' := 45) rfl (fun hc => ?_) (fun hc => ?_)
  · have h := (if_pos hc).symm.trans h
    obtain rfl := Option.some.inj h
    exact ev_return rfl ⟨rfl, rfl, rfl, hΨ⟩
  · have h := (if_neg hc).symm.trans h
    refine ev_aload_n (pc' := 46) rfl rfl rfl ?_
    refine ev_getQ (pc' := 49) rfl rfl rfl ?_
    refine ev_sipush (pc' := 52) rfl rfl (v := (130 : Int32)) (by decide) ?_
    refine ev_bipush (pc' := 54) rfl rfl (v := (11 : Int32)) (by decide) ?_
    refine ev_iload_n (pc' := 55) rfl rfl rfl ?_
    refine ev_imul (pc' := 56) rfl rfl ?_
    refine ev_iadd (pc' := 57) rfl rfl ?_
    refine ev_bipush (pc' := 59) rfl rfl (v := (7 : Int32)) (by decide) ?_
    refine ev_iadd (pc' := 60) rfl rfl ?_
    refine ev_ldc2_w (pc' := 63) rfl rfl (v := (-4 : Int64)) (by decide) ?_
    obtain ⟨hi, h⟩ := gdB h
    refine ev_last (pc' := 64) rfl rfl rfl (inR_vp hi) ?_
    refine ev_aload_n (pc' := 65) rfl rfl rfl ?_
    refine ev_getQ (pc' := 68) rfl rfl rfl ?_
    refine ev_sipush (pc' := 71) rfl rfl (v := (130 : Int32)) (by decide) ?_
    refine ev_bipush (pc' := 73) rfl rfl (v := (11 : Int32)) (by decide) ?_
    refine ev_iload_n (pc' := 74) rfl rfl rfl ?_
    refine ev_imul (pc' := 75) rfl rfl ?_
    refine ev_iadd (pc' := 76) rfl rfl ?_
    refine ev_bipush (pc' := 78) rfl rfl (v := (8 : Int32)) (by decide) ?_
    refine ev_iadd (pc' := 79) rfl rfl ?_
    refine ev_lconst (pc' := 80) rfl rfl (v := (0 : Int64)) (by decide) ?_
    obtain ⟨hi, h⟩ := gdB h
    refine ev_last (pc' := 81) rfl rfl rfl (inR_vp hi) ?_
    refine ev_iinc (pc' := 84) rfl rfl (l' := [some (aR 7 i0), some (aI (v1 + 1))]) rfl (ii_1 _) rfl ?_
    refine ev_goto (pc' := 32) rfl ?_
    exact hr32 h
def s_X7_empties_R32 (i0 : Nat) : Nat → Int32 → (Nat → Nat → Nat → Int32) → (Nat → Nat → Nat → Int64) → Option (GS)
  | 0 => fun _ _ _ => none
  | n + 1 => s_X7_empties_32 i0 (s_X7_empties_R32 i0 n)
theorem e_X7_empties_R32 {d : Nat} {Ψ : Option AV → DS → Prop} {i0 : Nat} {r : GS} (hΨ : Ψ none (L0, r.1, r.2, q0)) : ∀ (n : Nat) {v1 : Int32} {g : Nat → Nat → Nat → Int32} {w : Nat → Nat → Nat → Int64}, s_X7_empties_R32 i0 n v1 g w = some r → Ev (EvM mth d) mth c00 sc0 (retP (none) c00 Ψ) (lkp es_164) 32 [some (aR 7 i0), some (aI v1)] [] (L0, g, w, q0) := by
  intro n
  induction n with
  | zero => intros; rename_i h; exact absurd h (by intro h9; cases h9)
  | succ n ih => intros; rename_i h; exact e_X7_empties_32 (hr32 := ih) hΨ h
def s_X7_empties_2 (i0 : Nat) (rec2 : Int32 → (Nat → Nat → Nat → Int32) → (Nat → Nat → Nat → Int64) → Option (GS)) (v1 : Int32) (g : Nat → Nat → Nat → Int32) (w : Nat → Nat → Nat → Int64) : Option (GS) :=
  if (6 : Int32) ≤ v1 then
    s_X7_empties_R32 i0 FU (0 : Int32) g w
  else
    if inR (((70 : Int32) + ((10 : Int32) * v1)) + (8 : Int32)) 218 = true then
      rec2 (v1 + 1) g (wL w 2218 0 (((70 : Int32) + ((10 : Int32) * v1)) + (8 : Int32)).toNatClampNeg (0 : Int64))
    else none
set_option maxRecDepth 20000 in
set_option maxHeartbeats 2000000 in
theorem e_X7_empties_2 {d : Nat} {Ψ : Option AV → DS → Prop} {i0 : Nat} {rec2 : Int32 → (Nat → Nat → Nat → Int32) → (Nat → Nat → Nat → Int64) → Option (GS)} {r : GS} {g : Nat → Nat → Nat → Int32} {w : Nat → Nat → Nat → Int64} {v1 : Int32} (hr2 : ∀ {v1 : Int32} {g : Nat → Nat → Nat → Int32} {w : Nat → Nat → Nat → Int64} , rec2 v1 g w = some r → Ev (EvM mth d) mth c00 sc0 (retP (none) c00 Ψ) (lkp es_164) 2 [some (aR 7 i0), some (aI v1)] [] (L0, g, w, q0)) (hΨ : Ψ none (L0, r.1, r.2, q0)) (h : s_X7_empties_2 i0 rec2 v1 g w = some r) : Ev (EvM mth d) mth c00 sc0 (retP (none) c00 Ψ) (lkp es_164) 2 [some (aR 7 i0), some (aI v1)] [] (L0, g, w, q0) := by
  unfold s_X7_empties_2 at h
  refine ev_iload_n (pc' := 3) rfl rfl rfl ?_
  refine ev_bipush (pc' := 5) rfl rfl (v := (6 : Int32)) (by decide) ?_
  refine ev_icmp_ge rfl (pc' := 8) rfl (fun hc => ?_) (fun hc => ?_)
  · have h := (if_pos hc).symm.trans h
    refine ev_iconst (pc' := 31) rfl rfl (v := (0 : Int32)) (by decide) ?_
    refine ev_istore_n (pc' := 32) rfl rfl (l' := [some (aR 7 i0), some (aI (0 : Int32))]) rfl ?_
    exact e_X7_empties_R32 hΨ FU h
  · have h := (if_neg hc).symm.trans h
    refine ev_aload_n (pc' := 9) rfl rfl rfl ?_
    refine ev_getQ (pc' := 12) rfl rfl rfl ?_
    refine ev_bipush (pc' := 14) rfl rfl (v := (70 : Int32)) (by decide) ?_
    refine ev_bipush (pc' := 16) rfl rfl (v := (10 : Int32)) (by decide) ?_
    refine ev_iload_n (pc' := 17) rfl rfl rfl ?_
    refine ev_imul (pc' := 18) rfl rfl ?_
    refine ev_iadd (pc' := 19) rfl rfl ?_
    refine ev_bipush (pc' := 21) rfl rfl (v := (8 : Int32)) (by decide) ?_
    refine ev_iadd (pc' := 22) rfl rfl ?_
    refine ev_lconst (pc' := 23) rfl rfl (v := (0 : Int64)) (by decide) ?_
    obtain ⟨hi, h⟩ := gdB h
    refine ev_last (pc' := 24) rfl rfl rfl (inR_vp hi) ?_
    refine ev_iinc (pc' := 27) rfl rfl (l' := [some (aR 7 i0), some (aI (v1 + 1))]) rfl (ii_1 _) rfl ?_
    refine ev_goto (pc' := 2) rfl ?_
    exact hr2 h
def s_X7_empties_R2 (i0 : Nat) : Nat → Int32 → (Nat → Nat → Nat → Int32) → (Nat → Nat → Nat → Int64) → Option (GS)
  | 0 => fun _ _ _ => none
  | n + 1 => s_X7_empties_2 i0 (s_X7_empties_R2 i0 n)
theorem e_X7_empties_R2 {d : Nat} {Ψ : Option AV → DS → Prop} {i0 : Nat} {r : GS} (hΨ : Ψ none (L0, r.1, r.2, q0)) : ∀ (n : Nat) {v1 : Int32} {g : Nat → Nat → Nat → Int32} {w : Nat → Nat → Nat → Int64}, s_X7_empties_R2 i0 n v1 g w = some r → Ev (EvM mth d) mth c00 sc0 (retP (none) c00 Ψ) (lkp es_164) 2 [some (aR 7 i0), some (aI v1)] [] (L0, g, w, q0) := by
  intro n
  induction n with
  | zero => intros; rename_i h; exact absurd h (by intro h9; cases h9)
  | succ n ih => intros; rename_i h; exact e_X7_empties_2 (hr2 := ih) hΨ h
def s_X7_empties (i0 : Nat) (g : Nat → Nat → Nat → Int32) (w : Nat → Nat → Nat → Int64) : Option (GS) :=
  s_X7_empties_R2 i0 FU (0 : Int32) g w
set_option maxRecDepth 20000 in
set_option maxHeartbeats 2000000 in
theorem d_X7_empties {d : Nat} {i0 : Nat} {g : Nat → Nat → Nat → Int32} {w : Nat → Nat → Nat → Int64} {r : GS} (h : s_X7_empties i0 g w = some r) : Does (EvM mth (d + 1)) 164 [aR 7 i0] (L0, g, w, q0) none (L0, r.1, r.2, q0) := by
  intro Ψ hΨ
  refine ⟨in_164, mth_164, Nat.le_of_ble_eq_true rfl, ?_⟩
  show Ev (EvM mth d) mth c00 sc0 (retP (none) c00 Ψ) (lkp es_164) 0 [some (aR 7 i0), none] [] (L0, g, w, q0)
  unfold s_X7_empties at h
  refine ev_iconst (pc' := 1) rfl rfl (v := (0 : Int32)) (by decide) ?_
  refine ev_istore_n (pc' := 2) rfl rfl (l' := [some (aR 7 i0), some (aI (0 : Int32))]) rfl ?_
  exact e_X7_empties_R2 hΨ FU h
def s_X7_ordered_103 (p0 : Int32) (p1 : Int32) (rec69 : Int32 → Int32 → Int32 → Int32 → Int32 → Int32 → Int32 → (Nat → Nat → Nat → Int32) → (Nat → Nat → Nat → Int64) → Option (Int32)) (t0 : Int32) (t1 : Bool) (v2 : Int32) (v3 : Int32) (v4 : Int32) (v5 : Int32) (v6 : Int32) (v8 : Int32) (g : Nat → Nat → Nat → Int32) (w : Nat → Nat → Nat → Int64) : Option (Int32) :=
  rec69 v2 v3 v4 v5 v6 (t0 - (bI t1)) (v8 + 1) g w
set_option maxRecDepth 20000 in
set_option maxHeartbeats 2000000 in
theorem e_X7_ordered_103 {d : Nat} {Ψ : Option AV → DS → Prop} {p0 : Int32} {p1 : Int32} {rec69 : Int32 → Int32 → Int32 → Int32 → Int32 → Int32 → Int32 → (Nat → Nat → Nat → Int32) → (Nat → Nat → Nat → Int64) → Option (Int32)} {r : Int32} {g : Nat → Nat → Nat → Int32} {w : Nat → Nat → Nat → Int64} {t0 : Int32} {t1 : Bool} {v2 : Int32} {v3 : Int32} {v4 : Int32} {v5 : Int32} {v6 : Int32} {v8 : Int32} {x1 : Option AV} {x7 : Option AV} (hr69 : ∀ {v2 : Int32} {v3 : Int32} {v4 : Int32} {v5 : Int32} {v6 : Int32} {v7 : Int32} {v8 : Int32} {x1 : Option AV} , rec69 v2 v3 v4 v5 v6 v7 v8 g w = some r → Ev (EvM mth d) mth c00 sc0 (retP (some .int) c00 Ψ) (lkp es_166) 69 [some (aI p0), x1, some (aI v2), some (aI v3), some (aI v4), some (aI v5), some (aI v6), some (aI v7), some (aI v8)] [] (L0, g, w, q0)) (hΨ : Ψ (some (aI r)) (L0, g, w, q0)) (h : s_X7_ordered_103 p0 p1 rec69 t0 t1 v2 v3 v4 v5 v6 v8 g w = some r) : Ev (EvM mth d) mth c00 sc0 (retP (some .int) c00 Ψ) (lkp es_166) 103 [some (aI p0), x1, some (aI v2), some (aI v3), some (aI v4), some (aI v5), some (aI v6), x7, some (aI v8)] [aI (bI t1), aI t0] (L0, g, w, q0) := by
  unfold s_X7_ordered_103 at h
  refine ev_isub (pc' := 104) rfl rfl ?_
  refine ev_istore (pc' := 106) rfl rfl (l' := [some (aI p0), x1, some (aI v2), some (aI v3), some (aI v4), some (aI v5), some (aI v6), some (aI (t0 - (bI t1))), some (aI v8)]) rfl ?_
  refine ev_iinc (pc' := 109) rfl rfl (l' := [some (aI p0), x1, some (aI v2), some (aI v3), some (aI v4), some (aI v5), some (aI v6), some (aI (t0 - (bI t1))), some (aI (v8 + 1))]) rfl (ii_1 _) rfl ?_
  refine ev_goto (pc' := 69) rfl ?_
  exact hr69 h
def s_X7_ordered_85 (p0 : Int32) (p1 : Int32) (rec69 : Int32 → Int32 → Int32 → Int32 → Int32 → Int32 → Int32 → (Nat → Nat → Nat → Int32) → (Nat → Nat → Nat → Int64) → Option (Int32)) (v2 : Int32) (v3 : Int32) (v4 : Int32) (v5 : Int32) (v6 : Int32) (v7 : Int32) (v8 : Int32) (g : Nat → Nat → Nat → Int32) (w : Nat → Nat → Nat → Int64) : Option (Int32) :=
  if ((v4 >>> (v8 &&& 31)) &&& (1 : Int32)) ≠ (1 : Int32) then
    s_X7_ordered_103 p0 p1 rec69 v7 true v2 v3 v4 v5 v6 v8 g w
  else
    s_X7_ordered_103 p0 p1 rec69 v7 false v2 v3 v4 v5 v6 v8 g w
set_option maxRecDepth 20000 in
set_option maxHeartbeats 2000000 in
theorem e_X7_ordered_85 {d : Nat} {Ψ : Option AV → DS → Prop} {p0 : Int32} {p1 : Int32} {rec69 : Int32 → Int32 → Int32 → Int32 → Int32 → Int32 → Int32 → (Nat → Nat → Nat → Int32) → (Nat → Nat → Nat → Int64) → Option (Int32)} {r : Int32} {g : Nat → Nat → Nat → Int32} {w : Nat → Nat → Nat → Int64} {v2 : Int32} {v3 : Int32} {v4 : Int32} {v5 : Int32} {v6 : Int32} {v7 : Int32} {v8 : Int32} {x1 : Option AV} (hr69 : ∀ {v2 : Int32} {v3 : Int32} {v4 : Int32} {v5 : Int32} {v6 : Int32} {v7 : Int32} {v8 : Int32} {x1 : Option AV} , rec69 v2 v3 v4 v5 v6 v7 v8 g w = some r → Ev (EvM mth d) mth c00 sc0 (retP (some .int) c00 Ψ) (lkp es_166) 69 [some (aI p0), x1, some (aI v2), some (aI v3), some (aI v4), some (aI v5), some (aI v6), some (aI v7), some (aI v8)] [] (L0, g, w, q0)) (hΨ : Ψ (some (aI r)) (L0, g, w, q0)) (h : s_X7_ordered_85 p0 p1 rec69 v2 v3 v4 v5 v6 v7 v8 g w = some r) : Ev (EvM mth d) mth c00 sc0 (retP (some .int) c00 Ψ) (lkp es_166) 85 [some (aI p0), x1, some (aI v2), some (aI v3), some (aI v4), some (aI v5), some (aI v6), some (aI v7), some (aI v8)] [] (L0, g, w, q0) := by
  unfold s_X7_ordered_85 at h
  refine ev_iload (pc' := 87) rfl rfl rfl ?_
  refine ev_iload (pc' := 89) rfl rfl rfl ?_
  refine ev_iload (pc' := 91) rfl rfl rfl ?_
  refine ev_ishr (pc' := 92) rfl rfl ?_
  refine ev_iconst (pc' := 93) rfl rfl (v := (1 : Int32)) (by decide) ?_
  refine ev_iand (pc' := 94) rfl rfl ?_
  refine ev_iconst (pc' := 95) rfl rfl (v := (1 : Int32)) (by decide) ?_
  refine ev_icmp_ne rfl (pc' := 98) rfl (fun hc => ?_) (fun hc => ?_)
  · have h := (if_pos hc).symm.trans h
    refine ev_iconst (pc' := 103) rfl rfl (v := (1 : Int32)) (by decide) ?_
    exact e_X7_ordered_103 (hr69 := hr69) hΨ h
  · have h := (if_neg hc).symm.trans h
    refine ev_iconst (pc' := 99) rfl rfl (v := (0 : Int32)) (by decide) ?_
    refine ev_goto (pc' := 103) rfl ?_
    exact e_X7_ordered_103 (hr69 := hr69) hΨ h
def s_X7_ordered_69 (p0 : Int32) (p1 : Int32) (rec30 : Int32 → Int32 → Int32 → Int32 → Int32 → (Nat → Nat → Nat → Int32) → (Nat → Nat → Nat → Int64) → Option (Int32)) (rec69 : Int32 → Int32 → Int32 → Int32 → Int32 → Int32 → Int32 → (Nat → Nat → Nat → Int32) → (Nat → Nat → Nat → Int64) → Option (Int32)) (v2 : Int32) (v3 : Int32) (v4 : Int32) (v5 : Int32) (v6 : Int32) (v7 : Int32) (v8 : Int32) (g : Nat → Nat → Nat → Int32) (w : Nat → Nat → Nat → Int64) : Option (Int32) :=
  if ((v4 >>> (v8 &&& 31)) &&& (1 : Int32)) = (1 : Int32) then
    s_X7_ordered_85 p0 p1 rec69 v2 v3 v4 v5 v6 v7 v8 g w
  else
    if v7 ≤ 0 then
      rec30 v2 v3 (v4 ||| ((1 : Int32) <<< (v8 &&& 31))) (v5 ||| (v8 <<< (((3 : Int32) * v6) &&& 31))) (v6 + 1) g w
    else
      s_X7_ordered_85 p0 p1 rec69 v2 v3 v4 v5 v6 v7 v8 g w
set_option maxRecDepth 20000 in
set_option maxHeartbeats 2000000 in
theorem e_X7_ordered_69 {d : Nat} {Ψ : Option AV → DS → Prop} {p0 : Int32} {p1 : Int32} {rec30 : Int32 → Int32 → Int32 → Int32 → Int32 → (Nat → Nat → Nat → Int32) → (Nat → Nat → Nat → Int64) → Option (Int32)} {rec69 : Int32 → Int32 → Int32 → Int32 → Int32 → Int32 → Int32 → (Nat → Nat → Nat → Int32) → (Nat → Nat → Nat → Int64) → Option (Int32)} {r : Int32} {g : Nat → Nat → Nat → Int32} {w : Nat → Nat → Nat → Int64} {v2 : Int32} {v3 : Int32} {v4 : Int32} {v5 : Int32} {v6 : Int32} {v7 : Int32} {v8 : Int32} {x1 : Option AV} (hr30 : ∀ {v2 : Int32} {v3 : Int32} {v4 : Int32} {v5 : Int32} {v6 : Int32} {x1 : Option AV} {x7 : Option AV} {x8 : Option AV} , rec30 v2 v3 v4 v5 v6 g w = some r → Ev (EvM mth d) mth c00 sc0 (retP (some .int) c00 Ψ) (lkp es_166) 30 [some (aI p0), x1, some (aI v2), some (aI v3), some (aI v4), some (aI v5), some (aI v6), x7, x8] [] (L0, g, w, q0)) (hr69 : ∀ {v2 : Int32} {v3 : Int32} {v4 : Int32} {v5 : Int32} {v6 : Int32} {v7 : Int32} {v8 : Int32} {x1 : Option AV} , rec69 v2 v3 v4 v5 v6 v7 v8 g w = some r → Ev (EvM mth d) mth c00 sc0 (retP (some .int) c00 Ψ) (lkp es_166) 69 [some (aI p0), x1, some (aI v2), some (aI v3), some (aI v4), some (aI v5), some (aI v6), some (aI v7), some (aI v8)] [] (L0, g, w, q0)) (hΨ : Ψ (some (aI r)) (L0, g, w, q0)) (h : s_X7_ordered_69 p0 p1 rec30 rec69 v2 v3 v4 v5 v6 v7 v8 g w = some r) : Ev (EvM mth d) mth c00 sc0 (retP (some .int) c00 Ψ) (lkp es_166) 69 [some (aI p0), x1, some (aI v2), some (aI v3), some (aI v4), some (aI v5), some (aI v6), some (aI v7), some (aI v8)] [] (L0, g, w, q0) := by
  unfold s_X7_ordered_69 at h
  refine ev_iload (pc' := 71) rfl rfl rfl ?_
  refine ev_iload (pc' := 73) rfl rfl rfl ?_
  refine ev_ishr (pc' := 74) rfl rfl ?_
  refine ev_iconst (pc' := 75) rfl rfl (v := (1 : Int32)) (by decide) ?_
  refine ev_iand (pc' := 76) rfl rfl ?_
  refine ev_iconst (pc' := 77) rfl rfl (v := (1 : Int32)) (by decide) ?_
  refine ev_icmp_eq rfl (pc' := 80) rfl (fun hc => ?_) (fun hc => ?_)
  · have h := (if_pos hc).symm.trans h
    exact e_X7_ordered_85 (hr69 := hr69) hΨ h
  · have h := (if_neg hc).symm.trans h
    refine ev_iload (pc' := 82) rfl rfl rfl ?_
    refine ev_if_le rfl (pc' := 85) rfl (fun hc => ?_) (fun hc => ?_)
    · have h := (if_pos hc).symm.trans h
      refine ev_iload (pc' := 114) rfl rfl rfl ?_
      refine ev_iconst (pc' := 115) rfl rfl (v := (1 : Int32)) (by decide) ?_
      refine ev_iload (pc' := 117) rfl rfl rfl ?_
      refine ev_ishl (pc' := 118) rfl rfl ?_
      refine ev_ior (pc' := 119) rfl rfl ?_
      refine ev_istore (pc' := 121) rfl rfl (l' := [some (aI p0), x1, some (aI v2), some (aI v3), some (aI (v4 ||| ((1 : Int32) <<< (v8 &&& 31)))), some (aI v5), some (aI v6), some (aI v7), some (aI v8)]) rfl ?_
      refine ev_iload (pc' := 123) rfl rfl rfl ?_
      refine ev_iload (pc' := 125) rfl rfl rfl ?_
      refine ev_iconst (pc' := 126) rfl rfl (v := (3 : Int32)) (by decide) ?_
      refine ev_iload (pc' := 128) rfl rfl rfl ?_
      refine ev_imul (pc' := 129) rfl rfl ?_
      refine ev_ishl (pc' := 130) rfl rfl ?_
      refine ev_ior (pc' := 131) rfl rfl ?_
      refine ev_istore (pc' := 133) rfl rfl (l' := [some (aI p0), x1, some (aI v2), some (aI v3), some (aI (v4 ||| ((1 : Int32) <<< (v8 &&& 31)))), some (aI (v5 ||| (v8 <<< (((3 : Int32) * v6) &&& 31)))), some (aI v6), some (aI v7), some (aI v8)]) rfl ?_
      refine ev_iinc (pc' := 136) rfl rfl (l' := [some (aI p0), x1, some (aI v2), some (aI v3), some (aI (v4 ||| ((1 : Int32) <<< (v8 &&& 31)))), some (aI (v5 ||| (v8 <<< (((3 : Int32) * v6) &&& 31)))), some (aI (v6 + 1)), some (aI v7), some (aI v8)]) rfl (ii_1 _) rfl ?_
      refine ev_goto (pc' := 30) rfl ?_
      exact hr30 h
    · have h := (if_neg hc).symm.trans h
      exact e_X7_ordered_85 (hr69 := hr69) hΨ h
def s_X7_ordered_R69 (p0 : Int32) (p1 : Int32) (rec30 : Int32 → Int32 → Int32 → Int32 → Int32 → (Nat → Nat → Nat → Int32) → (Nat → Nat → Nat → Int64) → Option (Int32)) : Nat → Int32 → Int32 → Int32 → Int32 → Int32 → Int32 → Int32 → (Nat → Nat → Nat → Int32) → (Nat → Nat → Nat → Int64) → Option (Int32)
  | 0 => fun _ _ _ _ _ _ _ _ _ => none
  | n + 1 => s_X7_ordered_69 p0 p1 rec30 (s_X7_ordered_R69 p0 p1 rec30 n)
theorem e_X7_ordered_R69 {d : Nat} {Ψ : Option AV → DS → Prop} {p0 : Int32} {p1 : Int32} {rec30 : Int32 → Int32 → Int32 → Int32 → Int32 → (Nat → Nat → Nat → Int32) → (Nat → Nat → Nat → Int64) → Option (Int32)} {r : Int32} {g : Nat → Nat → Nat → Int32} {w : Nat → Nat → Nat → Int64} (hr30 : ∀ {v2 : Int32} {v3 : Int32} {v4 : Int32} {v5 : Int32} {v6 : Int32} {x1 : Option AV} {x7 : Option AV} {x8 : Option AV} , rec30 v2 v3 v4 v5 v6 g w = some r → Ev (EvM mth d) mth c00 sc0 (retP (some .int) c00 Ψ) (lkp es_166) 30 [some (aI p0), x1, some (aI v2), some (aI v3), some (aI v4), some (aI v5), some (aI v6), x7, x8] [] (L0, g, w, q0)) (hΨ : Ψ (some (aI r)) (L0, g, w, q0)) : ∀ (n : Nat) {v2 : Int32} {v3 : Int32} {v4 : Int32} {v5 : Int32} {v6 : Int32} {v7 : Int32} {v8 : Int32} {x1 : Option AV}, s_X7_ordered_R69 p0 p1 rec30 n v2 v3 v4 v5 v6 v7 v8 g w = some r → Ev (EvM mth d) mth c00 sc0 (retP (some .int) c00 Ψ) (lkp es_166) 69 [some (aI p0), x1, some (aI v2), some (aI v3), some (aI v4), some (aI v5), some (aI v6), some (aI v7), some (aI v8)] [] (L0, g, w, q0) := by
  intro n
  induction n with
  | zero => intros; rename_i h; exact absurd h (by intro h9; cases h9)
  | succ n ih => intros; rename_i h; exact e_X7_ordered_69 (hr30 := hr30) (hr69 := ih) hΨ h
def s_X7_ordered_65 (p0 : Int32) (p1 : Int32) (rec30 : Int32 → Int32 → Int32 → Int32 → Int32 → (Nat → Nat → Nat → Int32) → (Nat → Nat → Nat → Int64) → Option (Int32)) (t0 : Int32) (v3 : Int32) (v4 : Int32) (v5 : Int32) (v6 : Int32) (v7 : Int32) (g : Nat → Nat → Nat → Int32) (w : Nat → Nat → Nat → Int64) : Option (Int32) :=
  s_X7_ordered_R69 p0 p1 rec30 FU t0 v3 v4 v5 v6 v7 (0 : Int32) g w
set_option maxRecDepth 20000 in
set_option maxHeartbeats 2000000 in
theorem e_X7_ordered_65 {d : Nat} {Ψ : Option AV → DS → Prop} {p0 : Int32} {p1 : Int32} {rec30 : Int32 → Int32 → Int32 → Int32 → Int32 → (Nat → Nat → Nat → Int32) → (Nat → Nat → Nat → Int64) → Option (Int32)} {r : Int32} {g : Nat → Nat → Nat → Int32} {w : Nat → Nat → Nat → Int64} {t0 : Int32} {v3 : Int32} {v4 : Int32} {v5 : Int32} {v6 : Int32} {v7 : Int32} {x1 : Option AV} {x2 : Option AV} {x8 : Option AV} (hr30 : ∀ {v2 : Int32} {v3 : Int32} {v4 : Int32} {v5 : Int32} {v6 : Int32} {x1 : Option AV} {x7 : Option AV} {x8 : Option AV} , rec30 v2 v3 v4 v5 v6 g w = some r → Ev (EvM mth d) mth c00 sc0 (retP (some .int) c00 Ψ) (lkp es_166) 30 [some (aI p0), x1, some (aI v2), some (aI v3), some (aI v4), some (aI v5), some (aI v6), x7, x8] [] (L0, g, w, q0)) (hΨ : Ψ (some (aI r)) (L0, g, w, q0)) (h : s_X7_ordered_65 p0 p1 rec30 t0 v3 v4 v5 v6 v7 g w = some r) : Ev (EvM mth d) mth c00 sc0 (retP (some .int) c00 Ψ) (lkp es_166) 65 [some (aI p0), x1, x2, some (aI v3), some (aI v4), some (aI v5), some (aI v6), some (aI v7), x8] [aI t0] (L0, g, w, q0) := by
  unfold s_X7_ordered_65 at h
  refine ev_istore_n (pc' := 66) rfl rfl (l' := [some (aI p0), (klO x1), some (aI t0), some (aI v3), some (aI v4), some (aI v5), some (aI v6), some (aI v7), x8]) rfl ?_
  refine ev_iconst (pc' := 67) rfl rfl (v := (0 : Int32)) (by decide) ?_
  refine ev_istore (pc' := 69) rfl rfl (l' := [some (aI p0), (klO x1), some (aI t0), some (aI v3), some (aI v4), some (aI v5), some (aI v6), some (aI v7), some (aI (0 : Int32))]) rfl ?_
  exact e_X7_ordered_R69 (hr30 := hr30) hΨ FU h
def s_X7_ordered_30 (p0 : Int32) (p1 : Int32) (rec30 : Int32 → Int32 → Int32 → Int32 → Int32 → (Nat → Nat → Nat → Int32) → (Nat → Nat → Nat → Int64) → Option (Int32)) (v2 : Int32) (v3 : Int32) (v4 : Int32) (v5 : Int32) (v6 : Int32) (g : Nat → Nat → Nat → Int32) (w : Nat → Nat → Nat → Int64) : Option (Int32) :=
  if p0 ≤ v6 then
    some (v5)
  else
    if nzI v2 = true then
      if nzI v2 = true then
        if (p0 - (1 : Int32)) ≤ v6 then
          s_X7_ordered_65 p0 p1 rec30 (1 : Int32) (v3 - v3 / v2 * v2) v4 v5 v6 (v3 / v2) g w
        else
          if nzI ((p0 - (1 : Int32)) - v6) = true then
            s_X7_ordered_65 p0 p1 rec30 (v2 / ((p0 - (1 : Int32)) - v6)) (v3 - v3 / v2 * v2) v4 v5 v6 (v3 / v2) g w
          else none
      else none
    else none
set_option maxRecDepth 20000 in
set_option maxHeartbeats 2000000 in
theorem e_X7_ordered_30 {d : Nat} {Ψ : Option AV → DS → Prop} {p0 : Int32} {p1 : Int32} {rec30 : Int32 → Int32 → Int32 → Int32 → Int32 → (Nat → Nat → Nat → Int32) → (Nat → Nat → Nat → Int64) → Option (Int32)} {r : Int32} {g : Nat → Nat → Nat → Int32} {w : Nat → Nat → Nat → Int64} {v2 : Int32} {v3 : Int32} {v4 : Int32} {v5 : Int32} {v6 : Int32} {x1 : Option AV} {x7 : Option AV} {x8 : Option AV} (hr30 : ∀ {v2 : Int32} {v3 : Int32} {v4 : Int32} {v5 : Int32} {v6 : Int32} {x1 : Option AV} {x7 : Option AV} {x8 : Option AV} , rec30 v2 v3 v4 v5 v6 g w = some r → Ev (EvM mth d) mth c00 sc0 (retP (some .int) c00 Ψ) (lkp es_166) 30 [some (aI p0), x1, some (aI v2), some (aI v3), some (aI v4), some (aI v5), some (aI v6), x7, x8] [] (L0, g, w, q0)) (hΨ : Ψ (some (aI r)) (L0, g, w, q0)) (h : s_X7_ordered_30 p0 p1 rec30 v2 v3 v4 v5 v6 g w = some r) : Ev (EvM mth d) mth c00 sc0 (retP (some .int) c00 Ψ) (lkp es_166) 30 [some (aI p0), x1, some (aI v2), some (aI v3), some (aI v4), some (aI v5), some (aI v6), x7, x8] [] (L0, g, w, q0) := by
  unfold s_X7_ordered_30 at h
  refine ev_iload (pc' := 32) rfl rfl rfl ?_
  refine ev_iload_n (pc' := 33) rfl rfl rfl ?_
  refine ev_icmp_ge rfl (pc' := 36) rfl (fun hc => ?_) (fun hc => ?_)
  · have h := (if_pos hc).symm.trans h
    refine ev_iload (pc' := 141) rfl rfl rfl ?_
    obtain rfl := Option.some.inj h
    exact ev_ireturn rfl ⟨⟨_, rfl, rfl⟩, rfl, rfl, hΨ⟩
  · have h := (if_neg hc).symm.trans h
    refine ev_iload_n (pc' := 37) rfl rfl rfl ?_
    refine ev_iload_n (pc' := 38) rfl rfl rfl ?_
    obtain ⟨hi, h⟩ := gdB h
    refine ev_idiv (pc' := 39) rfl rfl (nzI_ne hi) ?_
    refine ev_istore (pc' := 41) rfl rfl (l' := [some (aI p0), x1, some (aI v2), some (aI v3), some (aI v4), some (aI v5), some (aI v6), some (aI (v3 / v2)), x8]) rfl ?_
    refine ev_iload_n (pc' := 42) rfl rfl rfl ?_
    refine ev_iload_n (pc' := 43) rfl rfl rfl ?_
    obtain ⟨hi, h⟩ := gdB h
    refine ev_irem (pc' := 44) rfl rfl (nzI_ne hi) ?_
    refine ev_istore_n (pc' := 45) rfl rfl (l' := [some (aI p0), x1, some (aI v2), some (aI (v3 - v3 / v2 * v2)), some (aI v4), some (aI v5), some (aI v6), some (aI (v3 / v2)), x8]) rfl ?_
    refine ev_iload (pc' := 47) rfl rfl rfl ?_
    refine ev_iload_n (pc' := 48) rfl rfl rfl ?_
    refine ev_iconst (pc' := 49) rfl rfl (v := (1 : Int32)) (by decide) ?_
    refine ev_isub (pc' := 50) rfl rfl ?_
    refine ev_icmp_ge rfl (pc' := 53) rfl (fun hc => ?_) (fun hc => ?_)
    · have h := (if_pos hc).symm.trans h
      refine ev_iconst (pc' := 65) rfl rfl (v := (1 : Int32)) (by decide) ?_
      exact e_X7_ordered_65 (hr30 := hr30) hΨ h
    · have h := (if_neg hc).symm.trans h
      refine ev_iload_n (pc' := 54) rfl rfl rfl ?_
      refine ev_iload_n (pc' := 55) rfl rfl rfl ?_
      refine ev_iconst (pc' := 56) rfl rfl (v := (1 : Int32)) (by decide) ?_
      refine ev_isub (pc' := 57) rfl rfl ?_
      refine ev_iload (pc' := 59) rfl rfl rfl ?_
      refine ev_isub (pc' := 60) rfl rfl ?_
      obtain ⟨hi, h⟩ := gdB h
      refine ev_idiv (pc' := 61) rfl rfl (nzI_ne hi) ?_
      refine ev_goto (pc' := 65) rfl ?_
      exact e_X7_ordered_65 (hr30 := hr30) hΨ h
def s_X7_ordered_R30 (p0 : Int32) (p1 : Int32) : Nat → Int32 → Int32 → Int32 → Int32 → Int32 → (Nat → Nat → Nat → Int32) → (Nat → Nat → Nat → Int64) → Option (Int32)
  | 0 => fun _ _ _ _ _ _ _ => none
  | n + 1 => s_X7_ordered_30 p0 p1 (s_X7_ordered_R30 p0 p1 n)
theorem e_X7_ordered_R30 {d : Nat} {Ψ : Option AV → DS → Prop} {p0 : Int32} {p1 : Int32} {r : Int32} {g : Nat → Nat → Nat → Int32} {w : Nat → Nat → Nat → Int64} (hΨ : Ψ (some (aI r)) (L0, g, w, q0)) : ∀ (n : Nat) {v2 : Int32} {v3 : Int32} {v4 : Int32} {v5 : Int32} {v6 : Int32} {x1 : Option AV} {x7 : Option AV} {x8 : Option AV}, s_X7_ordered_R30 p0 p1 n v2 v3 v4 v5 v6 g w = some r → Ev (EvM mth d) mth c00 sc0 (retP (some .int) c00 Ψ) (lkp es_166) 30 [some (aI p0), x1, some (aI v2), some (aI v3), some (aI v4), some (aI v5), some (aI v6), x7, x8] [] (L0, g, w, q0) := by
  intro n
  induction n with
  | zero => intros; rename_i h; exact absurd h (by intro h9; cases h9)
  | succ n ih => intros; rename_i h; exact e_X7_ordered_30 (hr30 := ih) hΨ h
def s_X7_ordered_4 (p0 : Int32) (p1 : Int32) (rec4 : Int32 → Int32 → (Nat → Nat → Nat → Int32) → (Nat → Nat → Nat → Int64) → Option (Int32)) (v2 : Int32) (v3 : Int32) (g : Nat → Nat → Nat → Int32) (w : Nat → Nat → Nat → Int64) : Option (Int32) :=
  if p0 ≤ v3 then
    s_X7_ordered_R30 p0 p1 FU v2 p1 (0 : Int32) (0 : Int32) (0 : Int32) g w
  else
    rec4 (v2 * v3) (v3 + 1) g w
set_option maxRecDepth 20000 in
set_option maxHeartbeats 2000000 in
theorem e_X7_ordered_4 {d : Nat} {Ψ : Option AV → DS → Prop} {p0 : Int32} {p1 : Int32} {rec4 : Int32 → Int32 → (Nat → Nat → Nat → Int32) → (Nat → Nat → Nat → Int64) → Option (Int32)} {r : Int32} {g : Nat → Nat → Nat → Int32} {w : Nat → Nat → Nat → Int64} {v2 : Int32} {v3 : Int32} {x4 : Option AV} {x5 : Option AV} {x6 : Option AV} {x7 : Option AV} {x8 : Option AV} (hr4 : ∀ {v2 : Int32} {v3 : Int32} {x4 : Option AV} {x5 : Option AV} {x6 : Option AV} {x7 : Option AV} {x8 : Option AV} , rec4 v2 v3 g w = some r → Ev (EvM mth d) mth c00 sc0 (retP (some .int) c00 Ψ) (lkp es_166) 4 [some (aI p0), some (aI p1), some (aI v2), some (aI v3), x4, x5, x6, x7, x8] [] (L0, g, w, q0)) (hΨ : Ψ (some (aI r)) (L0, g, w, q0)) (h : s_X7_ordered_4 p0 p1 rec4 v2 v3 g w = some r) : Ev (EvM mth d) mth c00 sc0 (retP (some .int) c00 Ψ) (lkp es_166) 4 [some (aI p0), some (aI p1), some (aI v2), some (aI v3), x4, x5, x6, x7, x8] [] (L0, g, w, q0) := by
  unfold s_X7_ordered_4 at h
  refine ev_iload_n (pc' := 5) rfl rfl rfl ?_
  refine ev_iload_n (pc' := 6) rfl rfl rfl ?_
  refine ev_icmp_ge rfl (pc' := 9) rfl (fun hc => ?_) (fun hc => ?_)
  · have h := (if_pos hc).symm.trans h
    refine ev_iload_n (pc' := 20) rfl rfl rfl ?_
    refine ev_istore_n (pc' := 21) rfl rfl (l' := [some (aI p0), some (aI p1), some (aI v2), some (aI p1), x4, x5, x6, x7, x8]) rfl ?_
    refine ev_iconst (pc' := 22) rfl rfl (v := (0 : Int32)) (by decide) ?_
    refine ev_istore (pc' := 24) rfl rfl (l' := [some (aI p0), some (aI p1), some (aI v2), some (aI p1), some (aI (0 : Int32)), x5, x6, x7, x8]) rfl ?_
    refine ev_iconst (pc' := 25) rfl rfl (v := (0 : Int32)) (by decide) ?_
    refine ev_istore (pc' := 27) rfl rfl (l' := [some (aI p0), some (aI p1), some (aI v2), some (aI p1), some (aI (0 : Int32)), some (aI (0 : Int32)), x6, x7, x8]) rfl ?_
    refine ev_iconst (pc' := 28) rfl rfl (v := (0 : Int32)) (by decide) ?_
    refine ev_istore (pc' := 30) rfl rfl (l' := [some (aI p0), some (aI p1), some (aI v2), some (aI p1), some (aI (0 : Int32)), some (aI (0 : Int32)), some (aI (0 : Int32)), x7, x8]) rfl ?_
    exact e_X7_ordered_R30 hΨ FU h
  · have h := (if_neg hc).symm.trans h
    refine ev_iload_n (pc' := 10) rfl rfl rfl ?_
    refine ev_iload_n (pc' := 11) rfl rfl rfl ?_
    refine ev_imul (pc' := 12) rfl rfl ?_
    refine ev_istore_n (pc' := 13) rfl rfl (l' := [some (aI p0), some (aI p1), some (aI (v2 * v3)), some (aI v3), x4, x5, x6, x7, x8]) rfl ?_
    refine ev_iinc (pc' := 16) rfl rfl (l' := [some (aI p0), some (aI p1), some (aI (v2 * v3)), some (aI (v3 + 1)), x4, x5, x6, x7, x8]) rfl (ii_1 _) rfl ?_
    refine ev_goto (pc' := 4) rfl ?_
    exact hr4 h
def s_X7_ordered_R4 (p0 : Int32) (p1 : Int32) : Nat → Int32 → Int32 → (Nat → Nat → Nat → Int32) → (Nat → Nat → Nat → Int64) → Option (Int32)
  | 0 => fun _ _ _ _ => none
  | n + 1 => s_X7_ordered_4 p0 p1 (s_X7_ordered_R4 p0 p1 n)
theorem e_X7_ordered_R4 {d : Nat} {Ψ : Option AV → DS → Prop} {p0 : Int32} {p1 : Int32} {r : Int32} {g : Nat → Nat → Nat → Int32} {w : Nat → Nat → Nat → Int64} (hΨ : Ψ (some (aI r)) (L0, g, w, q0)) : ∀ (n : Nat) {v2 : Int32} {v3 : Int32} {x4 : Option AV} {x5 : Option AV} {x6 : Option AV} {x7 : Option AV} {x8 : Option AV}, s_X7_ordered_R4 p0 p1 n v2 v3 g w = some r → Ev (EvM mth d) mth c00 sc0 (retP (some .int) c00 Ψ) (lkp es_166) 4 [some (aI p0), some (aI p1), some (aI v2), some (aI v3), x4, x5, x6, x7, x8] [] (L0, g, w, q0) := by
  intro n
  induction n with
  | zero => intros; rename_i h; exact absurd h (by intro h9; cases h9)
  | succ n ih => intros; rename_i h; exact e_X7_ordered_4 (hr4 := ih) hΨ h
def s_X7_ordered (p0 : Int32) (p1 : Int32) (g : Nat → Nat → Nat → Int32) (w : Nat → Nat → Nat → Int64) : Option (Int32) :=
  s_X7_ordered_R4 p0 p1 FU (1 : Int32) (2 : Int32) g w
set_option maxRecDepth 20000 in
set_option maxHeartbeats 2000000 in
theorem d_X7_ordered {d : Nat} {p0 : Int32} {p1 : Int32} {g : Nat → Nat → Nat → Int32} {w : Nat → Nat → Nat → Int64} {r : Int32} (h : s_X7_ordered p0 p1 g w = some r) : Does (EvM mth (d + 1)) 166 [aI p0, aI p1] (L0, g, w, q0) (some (aI r)) (L0, g, w, q0) := by
  intro Ψ hΨ
  refine ⟨in_166, mth_166, Nat.le_of_ble_eq_true rfl, ?_⟩
  show Ev (EvM mth d) mth c00 sc0 (retP (some .int) c00 Ψ) (lkp es_166) 0 [some (aI p0), some (aI p1), none, none, none, none, none, none, none] [] (L0, g, w, q0)
  unfold s_X7_ordered at h
  refine ev_iconst (pc' := 1) rfl rfl (v := (1 : Int32)) (by decide) ?_
  refine ev_istore_n (pc' := 2) rfl rfl (l' := [some (aI p0), some (aI p1), some (aI (1 : Int32)), none, none, none, none, none, none]) rfl ?_
  refine ev_iconst (pc' := 3) rfl rfl (v := (2 : Int32)) (by decide) ?_
  refine ev_istore_n (pc' := 4) rfl rfl (l' := [some (aI p0), some (aI p1), some (aI (1 : Int32)), some (aI (2 : Int32)), none, none, none, none, none]) rfl ?_
  exact e_X7_ordered_R4 hΨ FU h
def s_X7_keep_13 (i0 : Nat) (rec13 : Int32 → (Nat → Nat → Nat → Int32) → (Nat → Nat → Nat → Int64) → Option (Int32 × GS)) (v1 : Int32) (g : Nat → Nat → Nat → Int32) (w : Nat → Nat → Nat → Int64) : Option (Int32 × GS) :=
  if (218 : Int32) ≤ v1 then
    some ((((gI g 7 i0 2 ((g 7 i0 2) + (1 : Int32))) 7 i0 2), (gI g 7 i0 2 ((g 7 i0 2) + (1 : Int32))), w))
  else
    if inR v1 218 = true then
      if inR (((218 : Int32) * (g 7 i0 2)) + v1) 654 = true then
        rec13 (v1 + 1) g (wL w 2654 0 (((218 : Int32) * (g 7 i0 2)) + v1).toNatClampNeg (w 2218 0 v1.toNatClampNeg))
      else none
    else none
set_option maxRecDepth 20000 in
set_option maxHeartbeats 2000000 in
theorem e_X7_keep_13 {d : Nat} {Ψ : Option AV → DS → Prop} {i0 : Nat} {rec13 : Int32 → (Nat → Nat → Nat → Int32) → (Nat → Nat → Nat → Int64) → Option (Int32 × GS)} {r : Int32 × GS} {g : Nat → Nat → Nat → Int32} {w : Nat → Nat → Nat → Int64} {v1 : Int32} (hr13 : ∀ {v1 : Int32} {g : Nat → Nat → Nat → Int32} {w : Nat → Nat → Nat → Int64} , rec13 v1 g w = some r → Ev (EvM mth d) mth c00 sc0 (retP (some .int) c00 Ψ) (lkp es_189) 13 [some (aR 7 i0), some (aI v1)] [] (L0, g, w, q0)) (hΨ : Ψ (some (aI r.1)) (L0, r.2.1, r.2.2, q0)) (h : s_X7_keep_13 i0 rec13 v1 g w = some r) : Ev (EvM mth d) mth c00 sc0 (retP (some .int) c00 Ψ) (lkp es_189) 13 [some (aR 7 i0), some (aI v1)] [] (L0, g, w, q0) := by
  unfold s_X7_keep_13 at h
  refine ev_iload_n (pc' := 14) rfl rfl rfl ?_
  refine ev_sipush (pc' := 17) rfl rfl (v := (218 : Int32)) (by decide) ?_
  refine ev_icmp_ge rfl (pc' := 20) rfl (fun hc => ?_) (fun hc => ?_)
  · have h := (if_pos hc).symm.trans h
    refine ev_aload_n (pc' := 48) rfl rfl rfl ?_
    refine ev_dup (pc' := 49) rfl rfl rfl ?_
    refine ev_getI (pc' := 52) rfl rfl ?_
    refine ev_iconst (pc' := 53) rfl rfl (v := (1 : Int32)) (by decide) ?_
    refine ev_iadd (pc' := 54) rfl rfl ?_
    refine ev_putI (pc' := 57) rfl rfl ?_
    refine ev_aload_n (pc' := 58) rfl rfl rfl ?_
    refine ev_getI (pc' := 61) rfl rfl ?_
    obtain rfl := Option.some.inj h
    exact ev_ireturn rfl ⟨⟨_, rfl, rfl⟩, rfl, rfl, hΨ⟩
  · have h := (if_neg hc).symm.trans h
    refine ev_aload_n (pc' := 21) rfl rfl rfl ?_
    refine ev_getQ (pc' := 24) rfl rfl rfl ?_
    refine ev_sipush (pc' := 27) rfl rfl (v := (218 : Int32)) (by decide) ?_
    refine ev_aload_n (pc' := 28) rfl rfl rfl ?_
    refine ev_getI (pc' := 31) rfl rfl ?_
    refine ev_imul (pc' := 32) rfl rfl ?_
    refine ev_iload_n (pc' := 33) rfl rfl rfl ?_
    refine ev_iadd (pc' := 34) rfl rfl ?_
    refine ev_aload_n (pc' := 35) rfl rfl rfl ?_
    refine ev_getQ (pc' := 38) rfl rfl rfl ?_
    refine ev_iload_n (pc' := 39) rfl rfl rfl ?_
    obtain ⟨hi, h⟩ := gdB h
    refine ev_lald (pc' := 40) rfl rfl rfl (inR_vp hi) ?_
    obtain ⟨hi, h⟩ := gdB h
    refine ev_last (pc' := 41) rfl rfl rfl (inR_vp hi) ?_
    refine ev_iinc (pc' := 44) rfl rfl (l' := [some (aR 7 i0), some (aI (v1 + 1))]) rfl (ii_1 _) rfl ?_
    refine ev_goto (pc' := 13) rfl ?_
    exact hr13 h
def s_X7_keep_R13 (i0 : Nat) : Nat → Int32 → (Nat → Nat → Nat → Int32) → (Nat → Nat → Nat → Int64) → Option (Int32 × GS)
  | 0 => fun _ _ _ => none
  | n + 1 => s_X7_keep_13 i0 (s_X7_keep_R13 i0 n)
theorem e_X7_keep_R13 {d : Nat} {Ψ : Option AV → DS → Prop} {i0 : Nat} {r : Int32 × GS} (hΨ : Ψ (some (aI r.1)) (L0, r.2.1, r.2.2, q0)) : ∀ (n : Nat) {v1 : Int32} {g : Nat → Nat → Nat → Int32} {w : Nat → Nat → Nat → Int64}, s_X7_keep_R13 i0 n v1 g w = some r → Ev (EvM mth d) mth c00 sc0 (retP (some .int) c00 Ψ) (lkp es_189) 13 [some (aR 7 i0), some (aI v1)] [] (L0, g, w, q0) := by
  intro n
  induction n with
  | zero => intros; rename_i h; exact absurd h (by intro h9; cases h9)
  | succ n ih => intros; rename_i h; exact e_X7_keep_13 (hr13 := ih) hΨ h
def s_X7_keep (i0 : Nat) (g : Nat → Nat → Nat → Int32) (w : Nat → Nat → Nat → Int64) : Option (Int32 × GS) :=
  if (g 7 i0 2) ≠ (3 : Int32) then
    s_X7_keep_R13 i0 FU (0 : Int32) g w
  else
    some (((-3 : Int32), g, w))
set_option maxRecDepth 20000 in
set_option maxHeartbeats 2000000 in
theorem d_X7_keep {d : Nat} {i0 : Nat} {g : Nat → Nat → Nat → Int32} {w : Nat → Nat → Nat → Int64} {r : Int32 × GS} (h : s_X7_keep i0 g w = some r) : Does (EvM mth (d + 1)) 189 [aR 7 i0] (L0, g, w, q0) (some (aI r.1)) (L0, r.2.1, r.2.2, q0) := by
  intro Ψ hΨ
  refine ⟨in_189, mth_189, Nat.le_of_ble_eq_true rfl, ?_⟩
  show Ev (EvM mth d) mth c00 sc0 (retP (some .int) c00 Ψ) (lkp es_189) 0 [some (aR 7 i0), none] [] (L0, g, w, q0)
  unfold s_X7_keep at h
  refine ev_aload_n (pc' := 1) rfl rfl rfl ?_
  refine ev_getI (pc' := 4) rfl rfl ?_
  refine ev_iconst (pc' := 5) rfl rfl (v := (3 : Int32)) (by decide) ?_
  refine ev_icmp_ne rfl (pc' := 8) rfl (fun hc => ?_) (fun hc => ?_)
  · have h := (if_pos hc).symm.trans h
    refine ev_iconst (pc' := 12) rfl rfl (v := (0 : Int32)) (by decide) ?_
    refine ev_istore_n (pc' := 13) rfl rfl (l' := [some (aR 7 i0), some (aI (0 : Int32))]) rfl ?_
    exact e_X7_keep_R13 hΨ FU h
  · have h := (if_neg hc).symm.trans h
    refine ev_bipush (pc' := 10) rfl rfl (v := (-3 : Int32)) (by decide) ?_
    obtain rfl := Option.some.inj h
    exact ev_ireturn rfl ⟨⟨_, rfl, rfl⟩, rfl, rfl, hΨ⟩
