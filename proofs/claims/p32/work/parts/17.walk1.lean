def s_X7_back_22 (i0 : Nat) (rec22 : Int32 → (Nat → Nat → Nat → Int32) → (Nat → Nat → Nat → Int64) → Option (Int32 × GS)) (v1 : Int32) (g : Nat → Nat → Nat → Int32) (w : Nat → Nat → Nat → Int64) : Option (Int32 × GS) :=
  if (218 : Int32) ≤ v1 then
    some (((g 7 i0 2), g, w))
  else
    if inR (((218 : Int32) * (g 7 i0 2)) + v1) 654 = true then
      if inR v1 218 = true then
        rec22 (v1 + 1) g (wL w 2218 0 v1.toNatClampNeg (w 2654 0 (((218 : Int32) * (g 7 i0 2)) + v1).toNatClampNeg))
      else none
    else none
set_option maxRecDepth 20000 in
set_option maxHeartbeats 2000000 in
theorem e_X7_back_22 {d : Nat} {Ψ : Option AV → DS → Prop} {i0 : Nat} {rec22 : Int32 → (Nat → Nat → Nat → Int32) → (Nat → Nat → Nat → Int64) → Option (Int32 × GS)} {r : Int32 × GS} {g : Nat → Nat → Nat → Int32} {w : Nat → Nat → Nat → Int64} {v1 : Int32} (hr22 : ∀ {v1 : Int32} {g : Nat → Nat → Nat → Int32} {w : Nat → Nat → Nat → Int64} , rec22 v1 g w = some r → Ev (EvM mth d) mth c00 sc0 (retP (some .int) c00 Ψ) (lkp es_190) 22 [some (aR 7 i0), some (aI v1)] [] (L0, g, w, q0)) (hΨ : Ψ (some (aI r.1)) (L0, r.2.1, r.2.2, q0)) (h : s_X7_back_22 i0 rec22 v1 g w = some r) : Ev (EvM mth d) mth c00 sc0 (retP (some .int) c00 Ψ) (lkp es_190) 22 [some (aR 7 i0), some (aI v1)] [] (L0, g, w, q0) := by
  unfold s_X7_back_22 at h
  refine ev_iload_n (pc' := 23) rfl rfl rfl ?_
  refine ev_sipush (pc' := 26) rfl rfl (v := (218 : Int32)) (by decide) ?_
  refine ev_icmp_ge rfl (pc' := 29) rfl (fun hc => ?_) (fun hc => ?_)
  · have h := (if_pos hc).symm.trans h
    refine ev_aload_n (pc' := 57) rfl rfl rfl ?_
    refine ev_getI (pc' := 60) rfl rfl ?_
    obtain rfl := Option.some.inj h
    exact ev_ireturn rfl ⟨⟨_, rfl, rfl⟩, rfl, rfl, hΨ⟩
  · have h := (if_neg hc).symm.trans h
    refine ev_aload_n (pc' := 30) rfl rfl rfl ?_
    refine ev_getQ (pc' := 33) rfl rfl rfl ?_
    refine ev_iload_n (pc' := 34) rfl rfl rfl ?_
    refine ev_aload_n (pc' := 35) rfl rfl rfl ?_
    refine ev_getQ (pc' := 38) rfl rfl rfl ?_
    refine ev_sipush (pc' := 41) rfl rfl (v := (218 : Int32)) (by decide) ?_
    refine ev_aload_n (pc' := 42) rfl rfl rfl ?_
    refine ev_getI (pc' := 45) rfl rfl ?_
    refine ev_imul (pc' := 46) rfl rfl ?_
    refine ev_iload_n (pc' := 47) rfl rfl rfl ?_
    refine ev_iadd (pc' := 48) rfl rfl ?_
    obtain ⟨hi, h⟩ := gdB h
    refine ev_lald (pc' := 49) rfl rfl rfl (inR_vp hi) ?_
    obtain ⟨hi, h⟩ := gdB h
    refine ev_last (pc' := 50) rfl rfl rfl (inR_vp hi) ?_
    refine ev_iinc (pc' := 53) rfl rfl (l' := [some (aR 7 i0), some (aI (v1 + 1))]) rfl (ii_1 _) rfl ?_
    refine ev_goto (pc' := 22) rfl ?_
    exact hr22 h
def s_X7_back_R22 (i0 : Nat) : Nat → Int32 → (Nat → Nat → Nat → Int32) → (Nat → Nat → Nat → Int64) → Option (Int32 × GS)
  | 0 => fun _ _ _ => none
  | n + 1 => s_X7_back_22 i0 (s_X7_back_R22 i0 n)
theorem e_X7_back_R22 {d : Nat} {Ψ : Option AV → DS → Prop} {i0 : Nat} {r : Int32 × GS} (hΨ : Ψ (some (aI r.1)) (L0, r.2.1, r.2.2, q0)) : ∀ (n : Nat) {v1 : Int32} {g : Nat → Nat → Nat → Int32} {w : Nat → Nat → Nat → Int64}, s_X7_back_R22 i0 n v1 g w = some r → Ev (EvM mth d) mth c00 sc0 (retP (some .int) c00 Ψ) (lkp es_190) 22 [some (aR 7 i0), some (aI v1)] [] (L0, g, w, q0) := by
  intro n
  induction n with
  | zero => intros; rename_i h; exact absurd h (by intro h9; cases h9)
  | succ n ih => intros; rename_i h; exact e_X7_back_22 (hr22 := ih) hΨ h
def s_X7_back (i0 : Nat) (g : Nat → Nat → Nat → Int32) (w : Nat → Nat → Nat → Int64) : Option (Int32 × GS) :=
  if (g 7 i0 2) ≠ 0 then
    s_X7_back_R22 i0 FU (0 : Int32) (gI g 7 i0 2 ((g 7 i0 2) - (1 : Int32))) w
  else
    some (((-2 : Int32), g, w))
set_option maxRecDepth 20000 in
set_option maxHeartbeats 2000000 in
theorem d_X7_back {d : Nat} {i0 : Nat} {g : Nat → Nat → Nat → Int32} {w : Nat → Nat → Nat → Int64} {r : Int32 × GS} (h : s_X7_back i0 g w = some r) : Does (EvM mth (d + 1)) 190 [aR 7 i0] (L0, g, w, q0) (some (aI r.1)) (L0, r.2.1, r.2.2, q0) := by
  intro Ψ hΨ
  refine ⟨in_190, mth_190, Nat.le_of_ble_eq_true rfl, ?_⟩
  show Ev (EvM mth d) mth c00 sc0 (retP (some .int) c00 Ψ) (lkp es_190) 0 [some (aR 7 i0), none] [] (L0, g, w, q0)
  unfold s_X7_back at h
  refine ev_aload_n (pc' := 1) rfl rfl rfl ?_
  refine ev_getI (pc' := 4) rfl rfl ?_
  refine ev_if_ne rfl (pc' := 7) rfl (fun hc => ?_) (fun hc => ?_)
  · have h := (if_pos hc).symm.trans h
    refine ev_aload_n (pc' := 11) rfl rfl rfl ?_
    refine ev_dup (pc' := 12) rfl rfl rfl ?_
    refine ev_getI (pc' := 15) rfl rfl ?_
    refine ev_iconst (pc' := 16) rfl rfl (v := (1 : Int32)) (by decide) ?_
    refine ev_isub (pc' := 17) rfl rfl ?_
    refine ev_putI (pc' := 20) rfl rfl ?_
    refine ev_iconst (pc' := 21) rfl rfl (v := (0 : Int32)) (by decide) ?_
    refine ev_istore_n (pc' := 22) rfl rfl (l' := [some (aR 7 i0), some (aI (0 : Int32))]) rfl ?_
    exact e_X7_back_R22 hΨ FU h
  · have h := (if_neg hc).symm.trans h
    refine ev_bipush (pc' := 9) rfl rfl (v := (-2 : Int32)) (by decide) ?_
    obtain rfl := Option.some.inj h
    exact ev_ireturn rfl ⟨⟨_, rfl, rfl⟩, rfl, rfl, hΨ⟩
def s_J_Long_bitCount (p0 : Int64) (g : Nat → Nat → Nat → Int32) (w : Nat → Nat → Nat → Int64) : Int32 :=
  (((((((((p0 - ((jlush p0 (1 : Int32)) &&& (6148914691236517205 : Int64))) &&& (3689348814741910323 : Int64)) + ((jlush (p0 - ((jlush p0 (1 : Int32)) &&& (6148914691236517205 : Int64))) (2 : Int32)) &&& (3689348814741910323 : Int64))) + (jlush (((p0 - ((jlush p0 (1 : Int32)) &&& (6148914691236517205 : Int64))) &&& (3689348814741910323 : Int64)) + ((jlush (p0 - ((jlush p0 (1 : Int32)) &&& (6148914691236517205 : Int64))) (2 : Int32)) &&& (3689348814741910323 : Int64))) (4 : Int32))) &&& (1085102592571150095 : Int64)) + (jlush (((((p0 - ((jlush p0 (1 : Int32)) &&& (6148914691236517205 : Int64))) &&& (3689348814741910323 : Int64)) + ((jlush (p0 - ((jlush p0 (1 : Int32)) &&& (6148914691236517205 : Int64))) (2 : Int32)) &&& (3689348814741910323 : Int64))) + (jlush (((p0 - ((jlush p0 (1 : Int32)) &&& (6148914691236517205 : Int64))) &&& (3689348814741910323 : Int64)) + ((jlush (p0 - ((jlush p0 (1 : Int32)) &&& (6148914691236517205 : Int64))) (2 : Int32)) &&& (3689348814741910323 : Int64))) (4 : Int32))) &&& (1085102592571150095 : Int64)) (8 : Int32))) + (jlush ((((((p0 - ((jlush p0 (1 : Int32)) &&& (6148914691236517205 : Int64))) &&& (3689348814741910323 : Int64)) + ((jlush (p0 - ((jlush p0 (1 : Int32)) &&& (6148914691236517205 : Int64))) (2 : Int32)) &&& (3689348814741910323 : Int64))) + (jlush (((p0 - ((jlush p0 (1 : Int32)) &&& (6148914691236517205 : Int64))) &&& (3689348814741910323 : Int64)) + ((jlush (p0 - ((jlush p0 (1 : Int32)) &&& (6148914691236517205 : Int64))) (2 : Int32)) &&& (3689348814741910323 : Int64))) (4 : Int32))) &&& (1085102592571150095 : Int64)) + (jlush (((((p0 - ((jlush p0 (1 : Int32)) &&& (6148914691236517205 : Int64))) &&& (3689348814741910323 : Int64)) + ((jlush (p0 - ((jlush p0 (1 : Int32)) &&& (6148914691236517205 : Int64))) (2 : Int32)) &&& (3689348814741910323 : Int64))) + (jlush (((p0 - ((jlush p0 (1 : Int32)) &&& (6148914691236517205 : Int64))) &&& (3689348814741910323 : Int64)) + ((jlush (p0 - ((jlush p0 (1 : Int32)) &&& (6148914691236517205 : Int64))) (2 : Int32)) &&& (3689348814741910323 : Int64))) (4 : Int32))) &&& (1085102592571150095 : Int64)) (8 : Int32))) (16 : Int32))) + (jlush (((((((p0 - ((jlush p0 (1 : Int32)) &&& (6148914691236517205 : Int64))) &&& (3689348814741910323 : Int64)) + ((jlush (p0 - ((jlush p0 (1 : Int32)) &&& (6148914691236517205 : Int64))) (2 : Int32)) &&& (3689348814741910323 : Int64))) + (jlush (((p0 - ((jlush p0 (1 : Int32)) &&& (6148914691236517205 : Int64))) &&& (3689348814741910323 : Int64)) + ((jlush (p0 - ((jlush p0 (1 : Int32)) &&& (6148914691236517205 : Int64))) (2 : Int32)) &&& (3689348814741910323 : Int64))) (4 : Int32))) &&& (1085102592571150095 : Int64)) + (jlush (((((p0 - ((jlush p0 (1 : Int32)) &&& (6148914691236517205 : Int64))) &&& (3689348814741910323 : Int64)) + ((jlush (p0 - ((jlush p0 (1 : Int32)) &&& (6148914691236517205 : Int64))) (2 : Int32)) &&& (3689348814741910323 : Int64))) + (jlush (((p0 - ((jlush p0 (1 : Int32)) &&& (6148914691236517205 : Int64))) &&& (3689348814741910323 : Int64)) + ((jlush (p0 - ((jlush p0 (1 : Int32)) &&& (6148914691236517205 : Int64))) (2 : Int32)) &&& (3689348814741910323 : Int64))) (4 : Int32))) &&& (1085102592571150095 : Int64)) (8 : Int32))) + (jlush ((((((p0 - ((jlush p0 (1 : Int32)) &&& (6148914691236517205 : Int64))) &&& (3689348814741910323 : Int64)) + ((jlush (p0 - ((jlush p0 (1 : Int32)) &&& (6148914691236517205 : Int64))) (2 : Int32)) &&& (3689348814741910323 : Int64))) + (jlush (((p0 - ((jlush p0 (1 : Int32)) &&& (6148914691236517205 : Int64))) &&& (3689348814741910323 : Int64)) + ((jlush (p0 - ((jlush p0 (1 : Int32)) &&& (6148914691236517205 : Int64))) (2 : Int32)) &&& (3689348814741910323 : Int64))) (4 : Int32))) &&& (1085102592571150095 : Int64)) + (jlush (((((p0 - ((jlush p0 (1 : Int32)) &&& (6148914691236517205 : Int64))) &&& (3689348814741910323 : Int64)) + ((jlush (p0 - ((jlush p0 (1 : Int32)) &&& (6148914691236517205 : Int64))) (2 : Int32)) &&& (3689348814741910323 : Int64))) + (jlush (((p0 - ((jlush p0 (1 : Int32)) &&& (6148914691236517205 : Int64))) &&& (3689348814741910323 : Int64)) + ((jlush (p0 - ((jlush p0 (1 : Int32)) &&& (6148914691236517205 : Int64))) (2 : Int32)) &&& (3689348814741910323 : Int64))) (4 : Int32))) &&& (1085102592571150095 : Int64)) (8 : Int32))) (16 : Int32))) (32 : Int32))).toInt32 &&& (127 : Int32))
set_option maxRecDepth 20000 in
set_option maxHeartbeats 2000000 in
theorem d_J_Long_bitCount {d : Nat} {p0 : Int64} {g : Nat → Nat → Nat → Int32} {w : Nat → Nat → Nat → Int64} : Does (EvM mth (d + 1)) 192 [aL p0] (L0, g, w, q0) (some (aI (s_J_Long_bitCount p0 g w))) (L0, g, w, q0) := by
  intro Ψ hΨ
  obtain ⟨r, h⟩ : ∃ r, s_J_Long_bitCount p0 g w = r := ⟨_, rfl⟩
  rw [h] at hΨ
  refine ⟨in_192, mth_192, Nat.le_of_ble_eq_true rfl, ?_⟩
  show Ev (EvM mth d) mth c00 sc0 (retP (some .int) c00 Ψ) (lkp es_192) 0 [some (aL p0), none] [] (L0, g, w, q0)
  unfold s_J_Long_bitCount at h
  refine ev_lload_n (pc' := 1) rfl rfl rfl ?_
  refine ev_lload_n (pc' := 2) rfl rfl rfl ?_
  refine ev_iconst (pc' := 3) rfl rfl (v := (1 : Int32)) (by decide) ?_
  refine ev_lushr (pc' := 4) rfl rfl ?_
  refine ev_ldc2_w (pc' := 7) rfl rfl (v := (6148914691236517205 : Int64)) (by decide) ?_
  refine ev_land (pc' := 8) rfl rfl ?_
  refine ev_lsub (pc' := 9) rfl rfl ?_
  refine ev_lstore_n (pc' := 10) rfl rfl (l' := [some (aL (p0 - ((jlush p0 (1 : Int32)) &&& (6148914691236517205 : Int64)))), none]) rfl ?_
  refine ev_lload_n (pc' := 11) rfl rfl rfl ?_
  refine ev_ldc2_w (pc' := 14) rfl rfl (v := (3689348814741910323 : Int64)) (by decide) ?_
  refine ev_land (pc' := 15) rfl rfl ?_
  refine ev_lload_n (pc' := 16) rfl rfl rfl ?_
  refine ev_iconst (pc' := 17) rfl rfl (v := (2 : Int32)) (by decide) ?_
  refine ev_lushr (pc' := 18) rfl rfl ?_
  refine ev_ldc2_w (pc' := 21) rfl rfl (v := (3689348814741910323 : Int64)) (by decide) ?_
  refine ev_land (pc' := 22) rfl rfl ?_
  refine ev_ladd (pc' := 23) rfl rfl ?_
  refine ev_lstore_n (pc' := 24) rfl rfl (l' := [some (aL (((p0 - ((jlush p0 (1 : Int32)) &&& (6148914691236517205 : Int64))) &&& (3689348814741910323 : Int64)) + ((jlush (p0 - ((jlush p0 (1 : Int32)) &&& (6148914691236517205 : Int64))) (2 : Int32)) &&& (3689348814741910323 : Int64)))), none]) rfl ?_
  refine ev_lload_n (pc' := 25) rfl rfl rfl ?_
  refine ev_lload_n (pc' := 26) rfl rfl rfl ?_
  refine ev_iconst (pc' := 27) rfl rfl (v := (4 : Int32)) (by decide) ?_
  refine ev_lushr (pc' := 28) rfl rfl ?_
  refine ev_ladd (pc' := 29) rfl rfl ?_
  refine ev_ldc2_w (pc' := 32) rfl rfl (v := (1085102592571150095 : Int64)) (by decide) ?_
  refine ev_land (pc' := 33) rfl rfl ?_
  refine ev_lstore_n (pc' := 34) rfl rfl (l' := [some (aL (((((p0 - ((jlush p0 (1 : Int32)) &&& (6148914691236517205 : Int64))) &&& (3689348814741910323 : Int64)) + ((jlush (p0 - ((jlush p0 (1 : Int32)) &&& (6148914691236517205 : Int64))) (2 : Int32)) &&& (3689348814741910323 : Int64))) + (jlush (((p0 - ((jlush p0 (1 : Int32)) &&& (6148914691236517205 : Int64))) &&& (3689348814741910323 : Int64)) + ((jlush (p0 - ((jlush p0 (1 : Int32)) &&& (6148914691236517205 : Int64))) (2 : Int32)) &&& (3689348814741910323 : Int64))) (4 : Int32))) &&& (1085102592571150095 : Int64))), none]) rfl ?_
  refine ev_lload_n (pc' := 35) rfl rfl rfl ?_
  refine ev_lload_n (pc' := 36) rfl rfl rfl ?_
  refine ev_bipush (pc' := 38) rfl rfl (v := (8 : Int32)) (by decide) ?_
  refine ev_lushr (pc' := 39) rfl rfl ?_
  refine ev_ladd (pc' := 40) rfl rfl ?_
  refine ev_lstore_n (pc' := 41) rfl rfl (l' := [some (aL ((((((p0 - ((jlush p0 (1 : Int32)) &&& (6148914691236517205 : Int64))) &&& (3689348814741910323 : Int64)) + ((jlush (p0 - ((jlush p0 (1 : Int32)) &&& (6148914691236517205 : Int64))) (2 : Int32)) &&& (3689348814741910323 : Int64))) + (jlush (((p0 - ((jlush p0 (1 : Int32)) &&& (6148914691236517205 : Int64))) &&& (3689348814741910323 : Int64)) + ((jlush (p0 - ((jlush p0 (1 : Int32)) &&& (6148914691236517205 : Int64))) (2 : Int32)) &&& (3689348814741910323 : Int64))) (4 : Int32))) &&& (1085102592571150095 : Int64)) + (jlush (((((p0 - ((jlush p0 (1 : Int32)) &&& (6148914691236517205 : Int64))) &&& (3689348814741910323 : Int64)) + ((jlush (p0 - ((jlush p0 (1 : Int32)) &&& (6148914691236517205 : Int64))) (2 : Int32)) &&& (3689348814741910323 : Int64))) + (jlush (((p0 - ((jlush p0 (1 : Int32)) &&& (6148914691236517205 : Int64))) &&& (3689348814741910323 : Int64)) + ((jlush (p0 - ((jlush p0 (1 : Int32)) &&& (6148914691236517205 : Int64))) (2 : Int32)) &&& (3689348814741910323 : Int64))) (4 : Int32))) &&& (1085102592571150095 : Int64)) (8 : Int32)))), none]) rfl ?_
  refine ev_lload_n (pc' := 42) rfl rfl rfl ?_
  refine ev_lload_n (pc' := 43) rfl rfl rfl ?_
  refine ev_bipush (pc' := 45) rfl rfl (v := (16 : Int32)) (by decide) ?_
  refine ev_lushr (pc' := 46) rfl rfl ?_
  refine ev_ladd (pc' := 47) rfl rfl ?_
  refine ev_lstore_n (pc' := 48) rfl rfl (l' := [some (aL (((((((p0 - ((jlush p0 (1 : Int32)) &&& (6148914691236517205 : Int64))) &&& (3689348814741910323 : Int64)) + ((jlush (p0 - ((jlush p0 (1 : Int32)) &&& (6148914691236517205 : Int64))) (2 : Int32)) &&& (3689348814741910323 : Int64))) + (jlush (((p0 - ((jlush p0 (1 : Int32)) &&& (6148914691236517205 : Int64))) &&& (3689348814741910323 : Int64)) + ((jlush (p0 - ((jlush p0 (1 : Int32)) &&& (6148914691236517205 : Int64))) (2 : Int32)) &&& (3689348814741910323 : Int64))) (4 : Int32))) &&& (1085102592571150095 : Int64)) + (jlush (((((p0 - ((jlush p0 (1 : Int32)) &&& (6148914691236517205 : Int64))) &&& (3689348814741910323 : Int64)) + ((jlush (p0 - ((jlush p0 (1 : Int32)) &&& (6148914691236517205 : Int64))) (2 : Int32)) &&& (3689348814741910323 : Int64))) + (jlush (((p0 - ((jlush p0 (1 : Int32)) &&& (6148914691236517205 : Int64))) &&& (3689348814741910323 : Int64)) + ((jlush (p0 - ((jlush p0 (1 : Int32)) &&& (6148914691236517205 : Int64))) (2 : Int32)) &&& (3689348814741910323 : Int64))) (4 : Int32))) &&& (1085102592571150095 : Int64)) (8 : Int32))) + (jlush ((((((p0 - ((jlush p0 (1 : Int32)) &&& (6148914691236517205 : Int64))) &&& (3689348814741910323 : Int64)) + ((jlush (p0 - ((jlush p0 (1 : Int32)) &&& (6148914691236517205 : Int64))) (2 : Int32)) &&& (3689348814741910323 : Int64))) + (jlush (((p0 - ((jlush p0 (1 : Int32)) &&& (6148914691236517205 : Int64))) &&& (3689348814741910323 : Int64)) + ((jlush (p0 - ((jlush p0 (1 : Int32)) &&& (6148914691236517205 : Int64))) (2 : Int32)) &&& (3689348814741910323 : Int64))) (4 : Int32))) &&& (1085102592571150095 : Int64)) + (jlush (((((p0 - ((jlush p0 (1 : Int32)) &&& (6148914691236517205 : Int64))) &&& (3689348814741910323 : Int64)) + ((jlush (p0 - ((jlush p0 (1 : Int32)) &&& (6148914691236517205 : Int64))) (2 : Int32)) &&& (3689348814741910323 : Int64))) + (jlush (((p0 - ((jlush p0 (1 : Int32)) &&& (6148914691236517205 : Int64))) &&& (3689348814741910323 : Int64)) + ((jlush (p0 - ((jlush p0 (1 : Int32)) &&& (6148914691236517205 : Int64))) (2 : Int32)) &&& (3689348814741910323 : Int64))) (4 : Int32))) &&& (1085102592571150095 : Int64)) (8 : Int32))) (16 : Int32)))), none]) rfl ?_
  refine ev_lload_n (pc' := 49) rfl rfl rfl ?_
  refine ev_lload_n (pc' := 50) rfl rfl rfl ?_
  refine ev_bipush (pc' := 52) rfl rfl (v := (32 : Int32)) (by decide) ?_
  refine ev_lushr (pc' := 53) rfl rfl ?_
  refine ev_ladd (pc' := 54) rfl rfl ?_
  refine ev_lstore_n (pc' := 55) rfl rfl (l' := [some (aL ((((((((p0 - ((jlush p0 (1 : Int32)) &&& (6148914691236517205 : Int64))) &&& (3689348814741910323 : Int64)) + ((jlush (p0 - ((jlush p0 (1 : Int32)) &&& (6148914691236517205 : Int64))) (2 : Int32)) &&& (3689348814741910323 : Int64))) + (jlush (((p0 - ((jlush p0 (1 : Int32)) &&& (6148914691236517205 : Int64))) &&& (3689348814741910323 : Int64)) + ((jlush (p0 - ((jlush p0 (1 : Int32)) &&& (6148914691236517205 : Int64))) (2 : Int32)) &&& (3689348814741910323 : Int64))) (4 : Int32))) &&& (1085102592571150095 : Int64)) + (jlush (((((p0 - ((jlush p0 (1 : Int32)) &&& (6148914691236517205 : Int64))) &&& (3689348814741910323 : Int64)) + ((jlush (p0 - ((jlush p0 (1 : Int32)) &&& (6148914691236517205 : Int64))) (2 : Int32)) &&& (3689348814741910323 : Int64))) + (jlush (((p0 - ((jlush p0 (1 : Int32)) &&& (6148914691236517205 : Int64))) &&& (3689348814741910323 : Int64)) + ((jlush (p0 - ((jlush p0 (1 : Int32)) &&& (6148914691236517205 : Int64))) (2 : Int32)) &&& (3689348814741910323 : Int64))) (4 : Int32))) &&& (1085102592571150095 : Int64)) (8 : Int32))) + (jlush ((((((p0 - ((jlush p0 (1 : Int32)) &&& (6148914691236517205 : Int64))) &&& (3689348814741910323 : Int64)) + ((jlush (p0 - ((jlush p0 (1 : Int32)) &&& (6148914691236517205 : Int64))) (2 : Int32)) &&& (3689348814741910323 : Int64))) + (jlush (((p0 - ((jlush p0 (1 : Int32)) &&& (6148914691236517205 : Int64))) &&& (3689348814741910323 : Int64)) + ((jlush (p0 - ((jlush p0 (1 : Int32)) &&& (6148914691236517205 : Int64))) (2 : Int32)) &&& (3689348814741910323 : Int64))) (4 : Int32))) &&& (1085102592571150095 : Int64)) + (jlush (((((p0 - ((jlush p0 (1 : Int32)) &&& (6148914691236517205 : Int64))) &&& (3689348814741910323 : Int64)) + ((jlush (p0 - ((jlush p0 (1 : Int32)) &&& (6148914691236517205 : Int64))) (2 : Int32)) &&& (3689348814741910323 : Int64))) + (jlush (((p0 - ((jlush p0 (1 : Int32)) &&& (6148914691236517205 : Int64))) &&& (3689348814741910323 : Int64)) + ((jlush (p0 - ((jlush p0 (1 : Int32)) &&& (6148914691236517205 : Int64))) (2 : Int32)) &&& (3689348814741910323 : Int64))) (4 : Int32))) &&& (1085102592571150095 : Int64)) (8 : Int32))) (16 : Int32))) + (jlush (((((((p0 - ((jlush p0 (1 : Int32)) &&& (6148914691236517205 : Int64))) &&& (3689348814741910323 : Int64)) + ((jlush (p0 - ((jlush p0 (1 : Int32)) &&& (6148914691236517205 : Int64))) (2 : Int32)) &&& (3689348814741910323 : Int64))) + (jlush (((p0 - ((jlush p0 (1 : Int32)) &&& (6148914691236517205 : Int64))) &&& (3689348814741910323 : Int64)) + ((jlush (p0 - ((jlush p0 (1 : Int32)) &&& (6148914691236517205 : Int64))) (2 : Int32)) &&& (3689348814741910323 : Int64))) (4 : Int32))) &&& (1085102592571150095 : Int64)) + (jlush (((((p0 - ((jlush p0 (1 : Int32)) &&& (6148914691236517205 : Int64))) &&& (3689348814741910323 : Int64)) + ((jlush (p0 - ((jlush p0 (1 : Int32)) &&& (6148914691236517205 : Int64))) (2 : Int32)) &&& (3689348814741910323 : Int64))) + (jlush (((p0 - ((jlush p0 (1 : Int32)) &&& (6148914691236517205 : Int64))) &&& (3689348814741910323 : Int64)) + ((jlush (p0 - ((jlush p0 (1 : Int32)) &&& (6148914691236517205 : Int64))) (2 : Int32)) &&& (3689348814741910323 : Int64))) (4 : Int32))) &&& (1085102592571150095 : Int64)) (8 : Int32))) + (jlush ((((((p0 - ((jlush p0 (1 : Int32)) &&& (6148914691236517205 : Int64))) &&& (3689348814741910323 : Int64)) + ((jlush (p0 - ((jlush p0 (1 : Int32)) &&& (6148914691236517205 : Int64))) (2 : Int32)) &&& (3689348814741910323 : Int64))) + (jlush (((p0 - ((jlush p0 (1 : Int32)) &&& (6148914691236517205 : Int64))) &&& (3689348814741910323 : Int64)) + ((jlush (p0 - ((jlush p0 (1 : Int32)) &&& (6148914691236517205 : Int64))) (2 : Int32)) &&& (3689348814741910323 : Int64))) (4 : Int32))) &&& (1085102592571150095 : Int64)) + (jlush (((((p0 - ((jlush p0 (1 : Int32)) &&& (6148914691236517205 : Int64))) &&& (3689348814741910323 : Int64)) + ((jlush (p0 - ((jlush p0 (1 : Int32)) &&& (6148914691236517205 : Int64))) (2 : Int32)) &&& (3689348814741910323 : Int64))) + (jlush (((p0 - ((jlush p0 (1 : Int32)) &&& (6148914691236517205 : Int64))) &&& (3689348814741910323 : Int64)) + ((jlush (p0 - ((jlush p0 (1 : Int32)) &&& (6148914691236517205 : Int64))) (2 : Int32)) &&& (3689348814741910323 : Int64))) (4 : Int32))) &&& (1085102592571150095 : Int64)) (8 : Int32))) (16 : Int32))) (32 : Int32)))), none]) rfl ?_
  refine ev_lload_n (pc' := 56) rfl rfl rfl ?_
  refine ev_l2i (pc' := 57) rfl rfl ?_
  refine ev_bipush (pc' := 59) rfl rfl (v := (127 : Int32)) (by decide) ?_
  refine ev_iand (pc' := 60) rfl rfl ?_
  subst h
  exact ev_ireturn rfl ⟨⟨_, rfl, rfl⟩, rfl, rfl, hΨ⟩
def s_J_Integer_bitCount (p0 : Int32) (g : Nat → Nat → Nat → Int32) (w : Nat → Nat → Nat → Int64) : Int32 :=
  ((((((((p0 - ((jush p0 (1 : Int32)) &&& (1431655765 : Int32))) &&& (858993459 : Int32)) + ((jush (p0 - ((jush p0 (1 : Int32)) &&& (1431655765 : Int32))) (2 : Int32)) &&& (858993459 : Int32))) + (jush (((p0 - ((jush p0 (1 : Int32)) &&& (1431655765 : Int32))) &&& (858993459 : Int32)) + ((jush (p0 - ((jush p0 (1 : Int32)) &&& (1431655765 : Int32))) (2 : Int32)) &&& (858993459 : Int32))) (4 : Int32))) &&& (252645135 : Int32)) + (jush (((((p0 - ((jush p0 (1 : Int32)) &&& (1431655765 : Int32))) &&& (858993459 : Int32)) + ((jush (p0 - ((jush p0 (1 : Int32)) &&& (1431655765 : Int32))) (2 : Int32)) &&& (858993459 : Int32))) + (jush (((p0 - ((jush p0 (1 : Int32)) &&& (1431655765 : Int32))) &&& (858993459 : Int32)) + ((jush (p0 - ((jush p0 (1 : Int32)) &&& (1431655765 : Int32))) (2 : Int32)) &&& (858993459 : Int32))) (4 : Int32))) &&& (252645135 : Int32)) (8 : Int32))) + (jush ((((((p0 - ((jush p0 (1 : Int32)) &&& (1431655765 : Int32))) &&& (858993459 : Int32)) + ((jush (p0 - ((jush p0 (1 : Int32)) &&& (1431655765 : Int32))) (2 : Int32)) &&& (858993459 : Int32))) + (jush (((p0 - ((jush p0 (1 : Int32)) &&& (1431655765 : Int32))) &&& (858993459 : Int32)) + ((jush (p0 - ((jush p0 (1 : Int32)) &&& (1431655765 : Int32))) (2 : Int32)) &&& (858993459 : Int32))) (4 : Int32))) &&& (252645135 : Int32)) + (jush (((((p0 - ((jush p0 (1 : Int32)) &&& (1431655765 : Int32))) &&& (858993459 : Int32)) + ((jush (p0 - ((jush p0 (1 : Int32)) &&& (1431655765 : Int32))) (2 : Int32)) &&& (858993459 : Int32))) + (jush (((p0 - ((jush p0 (1 : Int32)) &&& (1431655765 : Int32))) &&& (858993459 : Int32)) + ((jush (p0 - ((jush p0 (1 : Int32)) &&& (1431655765 : Int32))) (2 : Int32)) &&& (858993459 : Int32))) (4 : Int32))) &&& (252645135 : Int32)) (8 : Int32))) (16 : Int32))) &&& (63 : Int32))
set_option maxRecDepth 20000 in
set_option maxHeartbeats 2000000 in
theorem d_J_Integer_bitCount {d : Nat} {p0 : Int32} {g : Nat → Nat → Nat → Int32} {w : Nat → Nat → Nat → Int64} : Does (EvM mth (d + 1)) 193 [aI p0] (L0, g, w, q0) (some (aI (s_J_Integer_bitCount p0 g w))) (L0, g, w, q0) := by
  intro Ψ hΨ
  obtain ⟨r, h⟩ : ∃ r, s_J_Integer_bitCount p0 g w = r := ⟨_, rfl⟩
  rw [h] at hΨ
  refine ⟨in_193, mth_193, Nat.le_of_ble_eq_true rfl, ?_⟩
  show Ev (EvM mth d) mth c00 sc0 (retP (some .int) c00 Ψ) (lkp es_193) 0 [some (aI p0)] [] (L0, g, w, q0)
  unfold s_J_Integer_bitCount at h
  refine ev_iload_n (pc' := 1) rfl rfl rfl ?_
  refine ev_iload_n (pc' := 2) rfl rfl rfl ?_
  refine ev_iconst (pc' := 3) rfl rfl (v := (1 : Int32)) (by decide) ?_
  refine ev_iushr (pc' := 4) rfl rfl ?_
  refine ev_ldc_w (pc' := 7) rfl rfl (v := (1431655765 : Int32)) (by decide) ?_
  refine ev_iand (pc' := 8) rfl rfl ?_
  refine ev_isub (pc' := 9) rfl rfl ?_
  refine ev_istore_n (pc' := 10) rfl rfl (l' := [some (aI (p0 - ((jush p0 (1 : Int32)) &&& (1431655765 : Int32))))]) rfl ?_
  refine ev_iload_n (pc' := 11) rfl rfl rfl ?_
  refine ev_ldc_w (pc' := 14) rfl rfl (v := (858993459 : Int32)) (by decide) ?_
  refine ev_iand (pc' := 15) rfl rfl ?_
  refine ev_iload_n (pc' := 16) rfl rfl rfl ?_
  refine ev_iconst (pc' := 17) rfl rfl (v := (2 : Int32)) (by decide) ?_
  refine ev_iushr (pc' := 18) rfl rfl ?_
  refine ev_ldc_w (pc' := 21) rfl rfl (v := (858993459 : Int32)) (by decide) ?_
  refine ev_iand (pc' := 22) rfl rfl ?_
  refine ev_iadd (pc' := 23) rfl rfl ?_
  refine ev_istore_n (pc' := 24) rfl rfl (l' := [some (aI (((p0 - ((jush p0 (1 : Int32)) &&& (1431655765 : Int32))) &&& (858993459 : Int32)) + ((jush (p0 - ((jush p0 (1 : Int32)) &&& (1431655765 : Int32))) (2 : Int32)) &&& (858993459 : Int32))))]) rfl ?_
  refine ev_iload_n (pc' := 25) rfl rfl rfl ?_
  refine ev_iload_n (pc' := 26) rfl rfl rfl ?_
  refine ev_iconst (pc' := 27) rfl rfl (v := (4 : Int32)) (by decide) ?_
  refine ev_iushr (pc' := 28) rfl rfl ?_
  refine ev_iadd (pc' := 29) rfl rfl ?_
  refine ev_ldc_w (pc' := 32) rfl rfl (v := (252645135 : Int32)) (by decide) ?_
  refine ev_iand (pc' := 33) rfl rfl ?_
  refine ev_istore_n (pc' := 34) rfl rfl (l' := [some (aI (((((p0 - ((jush p0 (1 : Int32)) &&& (1431655765 : Int32))) &&& (858993459 : Int32)) + ((jush (p0 - ((jush p0 (1 : Int32)) &&& (1431655765 : Int32))) (2 : Int32)) &&& (858993459 : Int32))) + (jush (((p0 - ((jush p0 (1 : Int32)) &&& (1431655765 : Int32))) &&& (858993459 : Int32)) + ((jush (p0 - ((jush p0 (1 : Int32)) &&& (1431655765 : Int32))) (2 : Int32)) &&& (858993459 : Int32))) (4 : Int32))) &&& (252645135 : Int32)))]) rfl ?_
  refine ev_iload_n (pc' := 35) rfl rfl rfl ?_
  refine ev_iload_n (pc' := 36) rfl rfl rfl ?_
  refine ev_bipush (pc' := 38) rfl rfl (v := (8 : Int32)) (by decide) ?_
  refine ev_iushr (pc' := 39) rfl rfl ?_
  refine ev_iadd (pc' := 40) rfl rfl ?_
  refine ev_istore_n (pc' := 41) rfl rfl (l' := [some (aI ((((((p0 - ((jush p0 (1 : Int32)) &&& (1431655765 : Int32))) &&& (858993459 : Int32)) + ((jush (p0 - ((jush p0 (1 : Int32)) &&& (1431655765 : Int32))) (2 : Int32)) &&& (858993459 : Int32))) + (jush (((p0 - ((jush p0 (1 : Int32)) &&& (1431655765 : Int32))) &&& (858993459 : Int32)) + ((jush (p0 - ((jush p0 (1 : Int32)) &&& (1431655765 : Int32))) (2 : Int32)) &&& (858993459 : Int32))) (4 : Int32))) &&& (252645135 : Int32)) + (jush (((((p0 - ((jush p0 (1 : Int32)) &&& (1431655765 : Int32))) &&& (858993459 : Int32)) + ((jush (p0 - ((jush p0 (1 : Int32)) &&& (1431655765 : Int32))) (2 : Int32)) &&& (858993459 : Int32))) + (jush (((p0 - ((jush p0 (1 : Int32)) &&& (1431655765 : Int32))) &&& (858993459 : Int32)) + ((jush (p0 - ((jush p0 (1 : Int32)) &&& (1431655765 : Int32))) (2 : Int32)) &&& (858993459 : Int32))) (4 : Int32))) &&& (252645135 : Int32)) (8 : Int32))))]) rfl ?_
  refine ev_iload_n (pc' := 42) rfl rfl rfl ?_
  refine ev_iload_n (pc' := 43) rfl rfl rfl ?_
  refine ev_bipush (pc' := 45) rfl rfl (v := (16 : Int32)) (by decide) ?_
  refine ev_iushr (pc' := 46) rfl rfl ?_
  refine ev_iadd (pc' := 47) rfl rfl ?_
  refine ev_istore_n (pc' := 48) rfl rfl (l' := [some (aI (((((((p0 - ((jush p0 (1 : Int32)) &&& (1431655765 : Int32))) &&& (858993459 : Int32)) + ((jush (p0 - ((jush p0 (1 : Int32)) &&& (1431655765 : Int32))) (2 : Int32)) &&& (858993459 : Int32))) + (jush (((p0 - ((jush p0 (1 : Int32)) &&& (1431655765 : Int32))) &&& (858993459 : Int32)) + ((jush (p0 - ((jush p0 (1 : Int32)) &&& (1431655765 : Int32))) (2 : Int32)) &&& (858993459 : Int32))) (4 : Int32))) &&& (252645135 : Int32)) + (jush (((((p0 - ((jush p0 (1 : Int32)) &&& (1431655765 : Int32))) &&& (858993459 : Int32)) + ((jush (p0 - ((jush p0 (1 : Int32)) &&& (1431655765 : Int32))) (2 : Int32)) &&& (858993459 : Int32))) + (jush (((p0 - ((jush p0 (1 : Int32)) &&& (1431655765 : Int32))) &&& (858993459 : Int32)) + ((jush (p0 - ((jush p0 (1 : Int32)) &&& (1431655765 : Int32))) (2 : Int32)) &&& (858993459 : Int32))) (4 : Int32))) &&& (252645135 : Int32)) (8 : Int32))) + (jush ((((((p0 - ((jush p0 (1 : Int32)) &&& (1431655765 : Int32))) &&& (858993459 : Int32)) + ((jush (p0 - ((jush p0 (1 : Int32)) &&& (1431655765 : Int32))) (2 : Int32)) &&& (858993459 : Int32))) + (jush (((p0 - ((jush p0 (1 : Int32)) &&& (1431655765 : Int32))) &&& (858993459 : Int32)) + ((jush (p0 - ((jush p0 (1 : Int32)) &&& (1431655765 : Int32))) (2 : Int32)) &&& (858993459 : Int32))) (4 : Int32))) &&& (252645135 : Int32)) + (jush (((((p0 - ((jush p0 (1 : Int32)) &&& (1431655765 : Int32))) &&& (858993459 : Int32)) + ((jush (p0 - ((jush p0 (1 : Int32)) &&& (1431655765 : Int32))) (2 : Int32)) &&& (858993459 : Int32))) + (jush (((p0 - ((jush p0 (1 : Int32)) &&& (1431655765 : Int32))) &&& (858993459 : Int32)) + ((jush (p0 - ((jush p0 (1 : Int32)) &&& (1431655765 : Int32))) (2 : Int32)) &&& (858993459 : Int32))) (4 : Int32))) &&& (252645135 : Int32)) (8 : Int32))) (16 : Int32))))]) rfl ?_
  refine ev_iload_n (pc' := 49) rfl rfl rfl ?_
  refine ev_bipush (pc' := 51) rfl rfl (v := (63 : Int32)) (by decide) ?_
  refine ev_iand (pc' := 52) rfl rfl ?_
  subst h
  exact ev_ireturn rfl ⟨⟨_, rfl, rfl⟩, rfl, rfl, hΨ⟩
def s_X0_hoursBetween_64 (i0 : Nat) (p1 : Int32) (p2 : Int32) (p3 : Int32) (t0 : Int32) (g : Nat → Nat → Nat → Int32) (w : Nat → Nat → Nat → Int64) : Option (Int32) :=
  if nzI p3 = true then
    some ((((t0 + p3) - (1 : Int32)) / p3))
  else none
set_option maxRecDepth 20000 in
set_option maxHeartbeats 2000000 in
theorem e_X0_hoursBetween_64 {d : Nat} {Ψ : Option AV → DS → Prop} {i0 : Nat} {p1 : Int32} {p2 : Int32} {p3 : Int32} {r : Int32} {g : Nat → Nat → Nat → Int32} {w : Nat → Nat → Nat → Int64} {t0 : Int32} {x0 : Option AV} {x1 : Option AV} {x2 : Option AV} {x4 : Option AV} (hΨ : Ψ (some (aI r)) (L0, g, w, q0)) (h : s_X0_hoursBetween_64 i0 p1 p2 p3 t0 g w = some r) : Ev (EvM mth (d + 1)) mth c00 sc0 (retP (some .int) c00 Ψ) (lkp es_1) 64 [x0, x1, x2, some (aI p3), x4] [aI t0] (L0, g, w, q0) := by
  unfold s_X0_hoursBetween_64 at h
  refine ev_istore (pc' := 66) rfl rfl (l' := [x0, x1, x2, some (aI p3), some (aI t0)]) rfl ?_
  refine ev_iload (pc' := 68) rfl rfl rfl ?_
  refine ev_iload_n (pc' := 69) rfl rfl rfl ?_
  refine ev_iadd (pc' := 70) rfl rfl ?_
  refine ev_iconst (pc' := 71) rfl rfl (v := (1 : Int32)) (by decide) ?_
  refine ev_isub (pc' := 72) rfl rfl ?_
  refine ev_iload_n (pc' := 73) rfl rfl rfl ?_
  obtain ⟨hi, h⟩ := gdB h
  refine ev_idiv (pc' := 74) rfl rfl (nzI_ne hi) ?_
  obtain rfl := Option.some.inj h
  exact ev_ireturn rfl ⟨⟨_, rfl, rfl⟩, rfl, rfl, hΨ⟩
def s_X0_hoursBetween_18 (i0 : Nat) (p1 : Int32) (p2 : Int32) (p3 : Int32) (g : Nat → Nat → Nat → Int32) (w : Nat → Nat → Nat → Int64) : Option (Int32) :=
  some ((0 : Int32))
set_option maxRecDepth 20000 in
set_option maxHeartbeats 2000000 in
theorem e_X0_hoursBetween_18 {d : Nat} {Ψ : Option AV → DS → Prop} {i0 : Nat} {p1 : Int32} {p2 : Int32} {p3 : Int32} {r : Int32} {g : Nat → Nat → Nat → Int32} {w : Nat → Nat → Nat → Int64} {x0 : Option AV} {x1 : Option AV} {x2 : Option AV} {x3 : Option AV} {x4 : Option AV} (hΨ : Ψ (some (aI r)) (L0, g, w, q0)) (h : s_X0_hoursBetween_18 i0 p1 p2 p3 g w = some r) : Ev (EvM mth (d + 1)) mth c00 sc0 (retP (some .int) c00 Ψ) (lkp es_1) 18 [x0, x1, x2, x3, x4] [] (L0, g, w, q0) := by
  unfold s_X0_hoursBetween_18 at h
  refine ev_iconst (pc' := 19) rfl rfl (v := (0 : Int32)) (by decide) ?_
  obtain rfl := Option.some.inj h
  exact ev_ireturn rfl ⟨⟨_, rfl, rfl⟩, rfl, rfl, hΨ⟩
def s_X0_hoursBetween (i0 : Nat) (p1 : Int32) (p2 : Int32) (p3 : Int32) (g : Nat → Nat → Nat → Int32) (w : Nat → Nat → Nat → Int64) : Option (Int32) :=
  if (s_X6_isBerth p1 g w) = true then
    if (s_X6_isBerth p2 g w) = true then
      if 0 < p3 then
        if inR p1 6 = true then
          if inR p2 6 = true then
            if (g 1006 0 p1.toNatClampNeg) ≤ (g 1006 0 p2.toNatClampNeg) then
              if inR p2 6 = true then
                if inR p1 6 = true then
                  s_X0_hoursBetween_64 i0 p1 p2 p3 ((g 1006 0 p2.toNatClampNeg) - (g 1006 0 p1.toNatClampNeg)) g w
                else none
              else none
            else
              if inR p1 6 = true then
                if inR p2 6 = true then
                  s_X0_hoursBetween_64 i0 p1 p2 p3 ((g 1006 0 p1.toNatClampNeg) - (g 1006 0 p2.toNatClampNeg)) g w
                else none
              else none
          else none
        else none
      else
        s_X0_hoursBetween_18 i0 p1 p2 p3 g w
    else
      s_X0_hoursBetween_18 i0 p1 p2 p3 g w
  else
    s_X0_hoursBetween_18 i0 p1 p2 p3 g w
set_option maxRecDepth 20000 in
set_option maxHeartbeats 2000000 in
theorem d_X0_hoursBetween {d : Nat} {i0 : Nat} {p1 : Int32} {p2 : Int32} {p3 : Int32} {g : Nat → Nat → Nat → Int32} {w : Nat → Nat → Nat → Int64} {r : Int32} (h : s_X0_hoursBetween i0 p1 p2 p3 g w = some r) : Does (EvM mth (d + 2)) 1 [aR 0 i0, aI p1, aI p2, aI p3] (L0, g, w, q0) (some (aI r)) (L0, g, w, q0) := by
  intro Ψ hΨ
  refine ⟨in_1, mth_1, Nat.le_of_ble_eq_true rfl, ?_⟩
  show Ev (EvM mth (d + 1)) mth c00 sc0 (retP (some .int) c00 Ψ) (lkp es_1) 0 [some (aR 0 i0), some (aI p1), some (aI p2), some (aI p3), none] [] (L0, g, w, q0)
  unfold s_X0_hoursBetween at h
  refine ev_iload_n (pc' := 1) rfl rfl rfl ?_
  refine ev_S1I (pc' := 4) rfl (by decide) rfl mth_107 ⟨Nat.le_of_ble_eq_true rfl, rfl⟩ ⟨Nat.le_refl _, Nat.le_refl _⟩ d_X6_isBerth ?_
  refine ev_ifB_eq rfl (pc' := 7) rfl (fun hc => ?_) (fun hc => ?_)
  · have h := (if_neg hc).symm.trans h
    exact e_X0_hoursBetween_18 hΨ h
  · have h := (if_pos hc).symm.trans h
    refine ev_iload_n (pc' := 8) rfl rfl rfl ?_
    refine ev_S1I (pc' := 11) rfl (by decide) rfl mth_107 ⟨Nat.le_of_ble_eq_true rfl, rfl⟩ ⟨Nat.le_refl _, Nat.le_refl _⟩ d_X6_isBerth ?_
    refine ev_ifB_eq rfl (pc' := 14) rfl (fun hc => ?_) (fun hc => ?_)
    · have h := (if_neg hc).symm.trans h
      exact e_X0_hoursBetween_18 hΨ h
    · have h := (if_pos hc).symm.trans h
      refine ev_iload_n (pc' := 15) rfl rfl rfl ?_
      refine ev_if_gt rfl (pc' := 18) rfl (fun hc => ?_) (fun hc => ?_)
      · have h := (if_pos hc).symm.trans h
        refine ev_aload_n (pc' := 21) rfl rfl rfl ?_
        refine ev_getQ (pc' := 24) rfl rfl rfl ?_
        refine ev_iload_n (pc' := 25) rfl rfl rfl ?_
        obtain ⟨hi, h⟩ := gdB h
        refine ev_iald (pc' := 26) rfl rfl rfl (inR_vp hi) ?_
        refine ev_aload_n (pc' := 27) rfl rfl rfl ?_
        refine ev_getQ (pc' := 30) rfl rfl rfl ?_
        refine ev_iload_n (pc' := 31) rfl rfl rfl ?_
        obtain ⟨hi, h⟩ := gdB h
        refine ev_iald (pc' := 32) rfl rfl rfl (inR_vp hi) ?_
        refine ev_icmp_le rfl (pc' := 35) rfl (fun hc => ?_) (fun hc => ?_)
        · have h := (if_pos hc).symm.trans h
          refine ev_aload_n (pc' := 52) rfl rfl rfl ?_
          refine ev_getQ (pc' := 55) rfl rfl rfl ?_
          refine ev_iload_n (pc' := 56) rfl rfl rfl ?_
          obtain ⟨hi, h⟩ := gdB h
          refine ev_iald (pc' := 57) rfl rfl rfl (inR_vp hi) ?_
          refine ev_aload_n (pc' := 58) rfl rfl rfl ?_
          refine ev_getQ (pc' := 61) rfl rfl rfl ?_
          refine ev_iload_n (pc' := 62) rfl rfl rfl ?_
          obtain ⟨hi, h⟩ := gdB h
          refine ev_iald (pc' := 63) rfl rfl rfl (inR_vp hi) ?_
          refine ev_isub (pc' := 64) rfl rfl ?_
          exact e_X0_hoursBetween_64 hΨ h
        · have h := (if_neg hc).symm.trans h
          refine ev_aload_n (pc' := 36) rfl rfl rfl ?_
          refine ev_getQ (pc' := 39) rfl rfl rfl ?_
          refine ev_iload_n (pc' := 40) rfl rfl rfl ?_
          obtain ⟨hi, h⟩ := gdB h
          refine ev_iald (pc' := 41) rfl rfl rfl (inR_vp hi) ?_
          refine ev_aload_n (pc' := 42) rfl rfl rfl ?_
          refine ev_getQ (pc' := 45) rfl rfl rfl ?_
          refine ev_iload_n (pc' := 46) rfl rfl rfl ?_
          obtain ⟨hi, h⟩ := gdB h
          refine ev_iald (pc' := 47) rfl rfl rfl (inR_vp hi) ?_
          refine ev_isub (pc' := 48) rfl rfl ?_
          refine ev_goto (pc' := 64) rfl ?_
          exact e_X0_hoursBetween_64 hΨ h
      · have h := (if_neg hc).symm.trans h
        exact e_X0_hoursBetween_18 hΨ h
def s_X0_basinsOf_20 (i0 : Nat) (p1 : Nat) (g : Nat → Nat → Nat → Int32) (w : Nat → Nat → Nat → Int64) : Option (Int32) :=
  some ((0 : Int32))
set_option maxRecDepth 20000 in
set_option maxHeartbeats 2000000 in
theorem e_X0_basinsOf_20 {d : Nat} {Ψ : Option AV → DS → Prop} {i0 : Nat} {p1 : Nat} {r : Int32} {g : Nat → Nat → Nat → Int32} {w : Nat → Nat → Nat → Int64} {x0 : Option AV} {x1 : Option AV} (hΨ : Ψ (some (aI r)) (L0, g, w, q0)) (h : s_X0_basinsOf_20 i0 p1 g w = some r) : Ev (EvM mth (d + 1)) mth c00 sc0 (retP (some .int) c00 Ψ) (lkp es_2) 20 [x0, x1] [] (L0, g, w, q0) := by
  unfold s_X0_basinsOf_20 at h
  refine ev_iconst (pc' := 21) rfl rfl (v := (0 : Int32)) (by decide) ?_
  obtain rfl := Option.some.inj h
  exact ev_ireturn rfl ⟨⟨_, rfl, rfl⟩, rfl, rfl, hΨ⟩
def s_X0_basinsOf (i0 : Nat) (p1 : Nat) (g : Nat → Nat → Nat → Int32) (w : Nat → Nat → Nat → Int64) : Option (Int32) :=
  if (s_X6_isBerth (g 4 p1 5) g w) = true then
    if (s_X6_isBerth (g 4 p1 6) g w) = true then
      if inR (g 4 p1 5) 6 = true then
        if inR (g 4 p1 6) 6 = true then
          some ((((1 : Int32) <<< ((g 1006 1 (g 4 p1 5).toNatClampNeg) &&& 31)) ||| ((1 : Int32) <<< ((g 1006 1 (g 4 p1 6).toNatClampNeg) &&& 31))))
        else none
      else none
    else
      s_X0_basinsOf_20 i0 p1 g w
  else
    s_X0_basinsOf_20 i0 p1 g w
set_option maxRecDepth 20000 in
set_option maxHeartbeats 2000000 in
theorem d_X0_basinsOf {d : Nat} {i0 : Nat} {p1 : Nat} {g : Nat → Nat → Nat → Int32} {w : Nat → Nat → Nat → Int64} {r : Int32} (h : s_X0_basinsOf i0 p1 g w = some r) : Does (EvM mth (d + 2)) 2 [aR 0 i0, aR 4 p1] (L0, g, w, q0) (some (aI r)) (L0, g, w, q0) := by
  intro Ψ hΨ
  refine ⟨in_2, mth_2, Nat.le_of_ble_eq_true rfl, ?_⟩
  show Ev (EvM mth (d + 1)) mth c00 sc0 (retP (some .int) c00 Ψ) (lkp es_2) 0 [some (aR 0 i0), some (aR 4 p1)] [] (L0, g, w, q0)
  unfold s_X0_basinsOf at h
  refine ev_aload_n (pc' := 1) rfl rfl rfl ?_
  refine ev_getI (pc' := 4) rfl rfl ?_
  refine ev_S1I (pc' := 7) rfl (by decide) rfl mth_107 ⟨Nat.le_of_ble_eq_true rfl, rfl⟩ ⟨Nat.le_refl _, Nat.le_refl _⟩ d_X6_isBerth ?_
  refine ev_ifB_eq rfl (pc' := 10) rfl (fun hc => ?_) (fun hc => ?_)
  · have h := (if_neg hc).symm.trans h
    exact e_X0_basinsOf_20 hΨ h
  · have h := (if_pos hc).symm.trans h
    refine ev_aload_n (pc' := 11) rfl rfl rfl ?_
    refine ev_getI (pc' := 14) rfl rfl ?_
    refine ev_S1I (pc' := 17) rfl (by decide) rfl mth_107 ⟨Nat.le_of_ble_eq_true rfl, rfl⟩ ⟨Nat.le_refl _, Nat.le_refl _⟩ d_X6_isBerth ?_
    refine ev_ifB_ne rfl (pc' := 20) rfl (fun hc => ?_) (fun hc => ?_)
    · have h := (if_pos hc).symm.trans h
      refine ev_iconst (pc' := 23) rfl rfl (v := (1 : Int32)) (by decide) ?_
      refine ev_aload_n (pc' := 24) rfl rfl rfl ?_
      refine ev_getQ (pc' := 27) rfl rfl rfl ?_
      refine ev_aload_n (pc' := 28) rfl rfl rfl ?_
      refine ev_getI (pc' := 31) rfl rfl ?_
      obtain ⟨hi, h⟩ := gdB h
      refine ev_iald (pc' := 32) rfl rfl rfl (inR_vp hi) ?_
      refine ev_ishl (pc' := 33) rfl rfl ?_
      refine ev_iconst (pc' := 34) rfl rfl (v := (1 : Int32)) (by decide) ?_
      refine ev_aload_n (pc' := 35) rfl rfl rfl ?_
      refine ev_getQ (pc' := 38) rfl rfl rfl ?_
      refine ev_aload_n (pc' := 39) rfl rfl rfl ?_
      refine ev_getI (pc' := 42) rfl rfl ?_
      obtain ⟨hi, h⟩ := gdB h
      refine ev_iald (pc' := 43) rfl rfl rfl (inR_vp hi) ?_
      refine ev_ishl (pc' := 44) rfl rfl ?_
      refine ev_ior (pc' := 45) rfl rfl ?_
      obtain rfl := Option.some.inj h
      exact ev_ireturn rfl ⟨⟨_, rfl, rfl⟩, rfl, rfl, hΨ⟩
    · have h := (if_neg hc).symm.trans h
      exact e_X0_basinsOf_20 hΨ h
def s_X1_jobsLaid_36 (i0 : Nat) (rec13 : Int32 → Int32 → (Nat → Nat → Nat → Int32) → (Nat → Nat → Nat → Int64) → Option (Int32)) (v1 : Int32) (v4 : Int32) (g : Nat → Nat → Nat → Int32) (w : Nat → Nat → Nat → Int64) : Option (Int32) :=
  rec13 v1 (v4 + 1) g w
set_option maxRecDepth 20000 in
set_option maxHeartbeats 2000000 in
theorem e_X1_jobsLaid_36 {d : Nat} {Ψ : Option AV → DS → Prop} {i0 : Nat} {rec13 : Int32 → Int32 → (Nat → Nat → Nat → Int32) → (Nat → Nat → Nat → Int64) → Option (Int32)} {r : Int32} {g : Nat → Nat → Nat → Int32} {w : Nat → Nat → Nat → Int64} {v1 : Int32} {v4 : Int32} {x0 : Option AV} {x5 : Option AV} (hr13 : ∀ {v1 : Int32} {v4 : Int32} {x0 : Option AV} {x5 : Option AV} , rec13 v1 v4 g w = some r → Ev (EvM mth (d + 1)) mth c00 sc0 (retP (some .int) c00 Ψ) (lkp es_6) 13 [x0, some (aI v1), some (aR 4008 i0), some (aI (8 : Int32)), some (aI v4), x5] [] (L0, g, w, q0)) (hΨ : Ψ (some (aI r)) (L0, g, w, q0)) (h : s_X1_jobsLaid_36 i0 rec13 v1 v4 g w = some r) : Ev (EvM mth (d + 1)) mth c00 sc0 (retP (some .int) c00 Ψ) (lkp es_6) 36 [x0, some (aI v1), some (aR 4008 i0), some (aI (8 : Int32)), some (aI v4), x5] [] (L0, g, w, q0) := by
  unfold s_X1_jobsLaid_36 at h
  refine ev_iinc (pc' := 39) rfl rfl (l' := [x0, some (aI v1), some (aR 4008 i0), some (aI (8 : Int32)), some (aI (v4 + 1)), x5]) rfl (ii_1 _) rfl ?_
  refine ev_goto (pc' := 13) rfl ?_
  exact hr13 h
def s_X1_jobsLaid_13 (i0 : Nat) (rec13 : Int32 → Int32 → (Nat → Nat → Nat → Int32) → (Nat → Nat → Nat → Int64) → Option (Int32)) (v1 : Int32) (v4 : Int32) (g : Nat → Nat → Nat → Int32) (w : Nat → Nat → Nat → Int64) : Option (Int32) :=
  if (8 : Int32) ≤ v4 then
    some (v1)
  else
    if inR v4 8 = true then
      if (s_X4_hasJob (8 * i0 + v4.toNatClampNeg) g w) = true then
        s_X1_jobsLaid_36 i0 rec13 (v1 + 1) v4 g w
      else
        s_X1_jobsLaid_36 i0 rec13 v1 v4 g w
    else none
set_option maxRecDepth 20000 in
set_option maxHeartbeats 2000000 in
theorem e_X1_jobsLaid_13 {d : Nat} {Ψ : Option AV → DS → Prop} {i0 : Nat} {rec13 : Int32 → Int32 → (Nat → Nat → Nat → Int32) → (Nat → Nat → Nat → Int64) → Option (Int32)} {r : Int32} {g : Nat → Nat → Nat → Int32} {w : Nat → Nat → Nat → Int64} {v1 : Int32} {v4 : Int32} {x0 : Option AV} {x5 : Option AV} (hr13 : ∀ {v1 : Int32} {v4 : Int32} {x0 : Option AV} {x5 : Option AV} , rec13 v1 v4 g w = some r → Ev (EvM mth (d + 1)) mth c00 sc0 (retP (some .int) c00 Ψ) (lkp es_6) 13 [x0, some (aI v1), some (aR 4008 i0), some (aI (8 : Int32)), some (aI v4), x5] [] (L0, g, w, q0)) (hΨ : Ψ (some (aI r)) (L0, g, w, q0)) (h : s_X1_jobsLaid_13 i0 rec13 v1 v4 g w = some r) : Ev (EvM mth (d + 1)) mth c00 sc0 (retP (some .int) c00 Ψ) (lkp es_6) 13 [x0, some (aI v1), some (aR 4008 i0), some (aI (8 : Int32)), some (aI v4), x5] [] (L0, g, w, q0) := by
  unfold s_X1_jobsLaid_13 at h
  refine ev_iload (pc' := 15) rfl rfl rfl ?_
  refine ev_iload_n (pc' := 16) rfl rfl rfl ?_
  refine ev_icmp_ge rfl (pc' := 19) rfl (fun hc => ?_) (fun hc => ?_)
  · have h := (if_pos hc).symm.trans h
    refine ev_iload_n (pc' := 43) rfl rfl rfl ?_
    obtain rfl := Option.some.inj h
    exact ev_ireturn rfl ⟨⟨_, rfl, rfl⟩, rfl, rfl, hΨ⟩
  · have h := (if_neg hc).symm.trans h
    refine ev_aload_n (pc' := 20) rfl rfl rfl ?_
    refine ev_iload (pc' := 22) rfl rfl rfl ?_
    obtain ⟨hi, h⟩ := gdB h
    refine ev_aald (pc' := 23) rfl rfl (by decide) rfl (inR_vp hi) rfl ?_
    refine ev_astore (pc' := 25) rfl rfl (l' := [x0, some (aI v1), some (aR 4008 i0), some (aI (8 : Int32)), some (aI v4), some (aR 4 (8 * i0 + v4.toNatClampNeg))]) rfl ?_
    refine ev_aload (pc' := 27) rfl rfl rfl ?_
    refine ev_V1I (pc' := 30) rfl (by decide) rfl mth_55 ⟨Nat.le_of_ble_eq_true rfl, rfl⟩ ⟨Nat.le_refl _, Nat.le_refl _⟩ d_X4_hasJob ?_
    refine ev_ifB_eq rfl (pc' := 33) rfl (fun hc => ?_) (fun hc => ?_)
    · have h := (if_neg hc).symm.trans h
      exact e_X1_jobsLaid_36 (hr13 := hr13) hΨ h
    · have h := (if_pos hc).symm.trans h
      refine ev_iinc (pc' := 36) rfl rfl (l' := [(klO x0), some (aI (v1 + 1)), some (aR 4008 i0), some (aI (8 : Int32)), some (aI v4), some (aR 4 (8 * i0 + v4.toNatClampNeg))]) rfl (ii_1 _) rfl ?_
      exact e_X1_jobsLaid_36 (hr13 := hr13) hΨ h
def s_X1_jobsLaid_R13 (i0 : Nat) : Nat → Int32 → Int32 → (Nat → Nat → Nat → Int32) → (Nat → Nat → Nat → Int64) → Option (Int32)
  | 0 => fun _ _ _ _ => none
  | n + 1 => s_X1_jobsLaid_13 i0 (s_X1_jobsLaid_R13 i0 n)
theorem e_X1_jobsLaid_R13 {d : Nat} {Ψ : Option AV → DS → Prop} {i0 : Nat} {r : Int32} {g : Nat → Nat → Nat → Int32} {w : Nat → Nat → Nat → Int64} (hΨ : Ψ (some (aI r)) (L0, g, w, q0)) : ∀ (n : Nat) {v1 : Int32} {v4 : Int32} {x0 : Option AV} {x5 : Option AV}, s_X1_jobsLaid_R13 i0 n v1 v4 g w = some r → Ev (EvM mth (d + 1)) mth c00 sc0 (retP (some .int) c00 Ψ) (lkp es_6) 13 [x0, some (aI v1), some (aR 4008 i0), some (aI (8 : Int32)), some (aI v4), x5] [] (L0, g, w, q0) := by
  intro n
  induction n with
  | zero => intros; rename_i h; exact absurd h (by intro h9; cases h9)
  | succ n ih => intros; rename_i h; exact e_X1_jobsLaid_13 (hr13 := ih) hΨ h
def s_X1_jobsLaid (i0 : Nat) (g : Nat → Nat → Nat → Int32) (w : Nat → Nat → Nat → Int64) : Option (Int32) :=
  s_X1_jobsLaid_R13 i0 FU (0 : Int32) (0 : Int32) g w
set_option maxRecDepth 20000 in
set_option maxHeartbeats 2000000 in
theorem d_X1_jobsLaid {d : Nat} {i0 : Nat} {g : Nat → Nat → Nat → Int32} {w : Nat → Nat → Nat → Int64} {r : Int32} (h : s_X1_jobsLaid i0 g w = some r) : Does (EvM mth (d + 2)) 6 [aR 1 i0] (L0, g, w, q0) (some (aI r)) (L0, g, w, q0) := by
  intro Ψ hΨ
  refine ⟨in_6, mth_6, Nat.le_of_ble_eq_true rfl, ?_⟩
  show Ev (EvM mth (d + 1)) mth c00 sc0 (retP (some .int) c00 Ψ) (lkp es_6) 0 [some (aR 1 i0), none, none, none, none, none] [] (L0, g, w, q0)
  unfold s_X1_jobsLaid at h
  refine ev_iconst (pc' := 1) rfl rfl (v := (0 : Int32)) (by decide) ?_
  refine ev_istore_n (pc' := 2) rfl rfl (l' := [some (aR 1 i0), some (aI (0 : Int32)), none, none, none, none]) rfl ?_
  refine ev_aload_n (pc' := 3) rfl rfl rfl ?_
  refine ev_getQ (pc' := 6) rfl rfl rfl ?_
  refine ev_astore_n (pc' := 7) rfl rfl (l' := [some (aR 1 i0), some (aI (0 : Int32)), some (aR 4008 i0), none, none, none]) rfl ?_
  refine ev_aload_n (pc' := 8) rfl rfl rfl ?_
  refine ev_alen (pc' := 9) rfl rfl (by decide) (v := (8 : Int32)) (by decide) ?_
  refine ev_istore_n (pc' := 10) rfl rfl (l' := [some (aR 1 i0), some (aI (0 : Int32)), some (aR 4008 i0), some (aI (8 : Int32)), none, none]) rfl ?_
  refine ev_iconst (pc' := 11) rfl rfl (v := (0 : Int32)) (by decide) ?_
  refine ev_istore (pc' := 13) rfl rfl (l' := [some (aR 1 i0), some (aI (0 : Int32)), some (aR 4008 i0), some (aI (8 : Int32)), some (aI (0 : Int32)), none]) rfl ?_
  exact e_X1_jobsLaid_R13 hΨ FU h
def s_X1_isBerthUsed_51 (i0 : Nat) (p1 : Int32) (rec11 : Int32 → (Nat → Nat → Nat → Int32) → (Nat → Nat → Nat → Int64) → Option (Bool)) (v4 : Int32) (g : Nat → Nat → Nat → Int32) (w : Nat → Nat → Nat → Int64) : Option (Bool) :=
  rec11 (v4 + 1) g w
set_option maxRecDepth 20000 in
set_option maxHeartbeats 2000000 in
theorem e_X1_isBerthUsed_51 {d : Nat} {Ψ : Option AV → DS → Prop} {i0 : Nat} {p1 : Int32} {rec11 : Int32 → (Nat → Nat → Nat → Int32) → (Nat → Nat → Nat → Int64) → Option (Bool)} {r : Bool} {g : Nat → Nat → Nat → Int32} {w : Nat → Nat → Nat → Int64} {v4 : Int32} {x0 : Option AV} {x5 : Option AV} (hr11 : ∀ {v4 : Int32} {x0 : Option AV} {x5 : Option AV} , rec11 v4 g w = some r → Ev (EvM mth (d + 1)) mth c00 sc0 (retP (some .boolean) c00 Ψ) (lkp es_7) 11 [x0, some (aI p1), some (aR 4008 i0), some (aI (8 : Int32)), some (aI v4), x5] [] (L0, g, w, q0)) (hΨ : Ψ (some (aI (bI r))) (L0, g, w, q0)) (h : s_X1_isBerthUsed_51 i0 p1 rec11 v4 g w = some r) : Ev (EvM mth (d + 1)) mth c00 sc0 (retP (some .boolean) c00 Ψ) (lkp es_7) 51 [x0, some (aI p1), some (aR 4008 i0), some (aI (8 : Int32)), some (aI v4), x5] [] (L0, g, w, q0) := by
  unfold s_X1_isBerthUsed_51 at h
  refine ev_iinc (pc' := 54) rfl rfl (l' := [x0, some (aI p1), some (aR 4008 i0), some (aI (8 : Int32)), some (aI (v4 + 1)), x5]) rfl (ii_1 _) rfl ?_
  refine ev_goto (pc' := 11) rfl ?_
  exact hr11 h
def s_X1_isBerthUsed_49 (i0 : Nat) (p1 : Int32) (g : Nat → Nat → Nat → Int32) (w : Nat → Nat → Nat → Int64) : Option (Bool) :=
  some (true)
set_option maxRecDepth 20000 in
set_option maxHeartbeats 2000000 in
theorem e_X1_isBerthUsed_49 {d : Nat} {Ψ : Option AV → DS → Prop} {i0 : Nat} {p1 : Int32} {r : Bool} {g : Nat → Nat → Nat → Int32} {w : Nat → Nat → Nat → Int64} {x0 : Option AV} {x1 : Option AV} {x2 : Option AV} {x3 : Option AV} {x4 : Option AV} {x5 : Option AV} (hΨ : Ψ (some (aI (bI r))) (L0, g, w, q0)) (h : s_X1_isBerthUsed_49 i0 p1 g w = some r) : Ev (EvM mth (d + 1)) mth c00 sc0 (retP (some .boolean) c00 Ψ) (lkp es_7) 49 [x0, x1, x2, x3, x4, x5] [] (L0, g, w, q0) := by
  unfold s_X1_isBerthUsed_49 at h
  refine ev_iconst (pc' := 50) rfl rfl (v := (1 : Int32)) (by decide) ?_
  obtain rfl := Option.some.inj h
  exact ev_ireturn rfl ⟨⟨_, rfl, rfl⟩, rfl, rfl, hΨ⟩
def s_X1_isBerthUsed_11 (i0 : Nat) (p1 : Int32) (rec11 : Int32 → (Nat → Nat → Nat → Int32) → (Nat → Nat → Nat → Int64) → Option (Bool)) (v4 : Int32) (g : Nat → Nat → Nat → Int32) (w : Nat → Nat → Nat → Int64) : Option (Bool) :=
  if (8 : Int32) ≤ v4 then
    some (false)
  else
    if inR v4 8 = true then
      if (s_X4_hasJob (8 * i0 + v4.toNatClampNeg) g w) = true then
        if (g 4 (8 * i0 + v4.toNatClampNeg) 5) = p1 then
          s_X1_isBerthUsed_49 i0 p1 g w
        else
          if (g 4 (8 * i0 + v4.toNatClampNeg) 6) ≠ p1 then
            s_X1_isBerthUsed_51 i0 p1 rec11 v4 g w
          else
            s_X1_isBerthUsed_49 i0 p1 g w
      else
        s_X1_isBerthUsed_51 i0 p1 rec11 v4 g w
    else none
set_option maxRecDepth 20000 in
set_option maxHeartbeats 2000000 in
theorem e_X1_isBerthUsed_11 {d : Nat} {Ψ : Option AV → DS → Prop} {i0 : Nat} {p1 : Int32} {rec11 : Int32 → (Nat → Nat → Nat → Int32) → (Nat → Nat → Nat → Int64) → Option (Bool)} {r : Bool} {g : Nat → Nat → Nat → Int32} {w : Nat → Nat → Nat → Int64} {v4 : Int32} {x0 : Option AV} {x5 : Option AV} (hr11 : ∀ {v4 : Int32} {x0 : Option AV} {x5 : Option AV} , rec11 v4 g w = some r → Ev (EvM mth (d + 1)) mth c00 sc0 (retP (some .boolean) c00 Ψ) (lkp es_7) 11 [x0, some (aI p1), some (aR 4008 i0), some (aI (8 : Int32)), some (aI v4), x5] [] (L0, g, w, q0)) (hΨ : Ψ (some (aI (bI r))) (L0, g, w, q0)) (h : s_X1_isBerthUsed_11 i0 p1 rec11 v4 g w = some r) : Ev (EvM mth (d + 1)) mth c00 sc0 (retP (some .boolean) c00 Ψ) (lkp es_7) 11 [x0, some (aI p1), some (aR 4008 i0), some (aI (8 : Int32)), some (aI v4), x5] [] (L0, g, w, q0) := by
  unfold s_X1_isBerthUsed_11 at h
  refine ev_iload (pc' := 13) rfl rfl rfl ?_
  refine ev_iload_n (pc' := 14) rfl rfl rfl ?_
  refine ev_icmp_ge rfl (pc' := 17) rfl (fun hc => ?_) (fun hc => ?_)
  · have h := (if_pos hc).symm.trans h
    refine ev_iconst (pc' := 58) rfl rfl (v := (0 : Int32)) (by decide) ?_
    obtain rfl := Option.some.inj h
    exact ev_ireturn rfl ⟨⟨_, rfl, rfl⟩, rfl, rfl, hΨ⟩
  · have h := (if_neg hc).symm.trans h
    refine ev_aload_n (pc' := 18) rfl rfl rfl ?_
    refine ev_iload (pc' := 20) rfl rfl rfl ?_
    obtain ⟨hi, h⟩ := gdB h
    refine ev_aald (pc' := 21) rfl rfl (by decide) rfl (inR_vp hi) rfl ?_
    refine ev_astore (pc' := 23) rfl rfl (l' := [x0, some (aI p1), some (aR 4008 i0), some (aI (8 : Int32)), some (aI v4), some (aR 4 (8 * i0 + v4.toNatClampNeg))]) rfl ?_
    refine ev_aload (pc' := 25) rfl rfl rfl ?_
    refine ev_V1I (pc' := 28) rfl (by decide) rfl mth_55 ⟨Nat.le_of_ble_eq_true rfl, rfl⟩ ⟨Nat.le_refl _, Nat.le_refl _⟩ d_X4_hasJob ?_
    refine ev_ifB_eq rfl (pc' := 31) rfl (fun hc => ?_) (fun hc => ?_)
    · have h := (if_neg hc).symm.trans h
      exact e_X1_isBerthUsed_51 (hr11 := hr11) hΨ h
    · have h := (if_pos hc).symm.trans h
      refine ev_aload (pc' := 33) rfl rfl rfl ?_
      refine ev_getI (pc' := 36) rfl rfl ?_
      refine ev_iload_n (pc' := 37) rfl rfl rfl ?_
      refine ev_icmp_eq rfl (pc' := 40) rfl (fun hc => ?_) (fun hc => ?_)
      · have h := (if_pos hc).symm.trans h
        exact e_X1_isBerthUsed_49 hΨ h
      · have h := (if_neg hc).symm.trans h
        refine ev_aload (pc' := 42) rfl rfl rfl ?_
        refine ev_getI (pc' := 45) rfl rfl ?_
        refine ev_iload_n (pc' := 46) rfl rfl rfl ?_
        refine ev_icmp_ne rfl (pc' := 49) rfl (fun hc => ?_) (fun hc => ?_)
        · have h := (if_pos hc).symm.trans h
          exact e_X1_isBerthUsed_51 (hr11 := hr11) hΨ h
        · have h := (if_neg hc).symm.trans h
          exact e_X1_isBerthUsed_49 hΨ h
def s_X1_isBerthUsed_R11 (i0 : Nat) (p1 : Int32) : Nat → Int32 → (Nat → Nat → Nat → Int32) → (Nat → Nat → Nat → Int64) → Option (Bool)
  | 0 => fun _ _ _ => none
  | n + 1 => s_X1_isBerthUsed_11 i0 p1 (s_X1_isBerthUsed_R11 i0 p1 n)
theorem e_X1_isBerthUsed_R11 {d : Nat} {Ψ : Option AV → DS → Prop} {i0 : Nat} {p1 : Int32} {r : Bool} {g : Nat → Nat → Nat → Int32} {w : Nat → Nat → Nat → Int64} (hΨ : Ψ (some (aI (bI r))) (L0, g, w, q0)) : ∀ (n : Nat) {v4 : Int32} {x0 : Option AV} {x5 : Option AV}, s_X1_isBerthUsed_R11 i0 p1 n v4 g w = some r → Ev (EvM mth (d + 1)) mth c00 sc0 (retP (some .boolean) c00 Ψ) (lkp es_7) 11 [x0, some (aI p1), some (aR 4008 i0), some (aI (8 : Int32)), some (aI v4), x5] [] (L0, g, w, q0) := by
  intro n
  induction n with
  | zero => intros; rename_i h; exact absurd h (by intro h9; cases h9)
  | succ n ih => intros; rename_i h; exact e_X1_isBerthUsed_11 (hr11 := ih) hΨ h
def s_X1_isBerthUsed (i0 : Nat) (p1 : Int32) (g : Nat → Nat → Nat → Int32) (w : Nat → Nat → Nat → Int64) : Option (Bool) :=
  s_X1_isBerthUsed_R11 i0 p1 FU (0 : Int32) g w
set_option maxRecDepth 20000 in
set_option maxHeartbeats 2000000 in
theorem d_X1_isBerthUsed {d : Nat} {i0 : Nat} {p1 : Int32} {g : Nat → Nat → Nat → Int32} {w : Nat → Nat → Nat → Int64} {r : Bool} (h : s_X1_isBerthUsed i0 p1 g w = some r) : Does (EvM mth (d + 2)) 7 [aR 1 i0, aI p1] (L0, g, w, q0) (some (aI (bI r))) (L0, g, w, q0) := by
  intro Ψ hΨ
  refine ⟨in_7, mth_7, Nat.le_of_ble_eq_true rfl, ?_⟩
  show Ev (EvM mth (d + 1)) mth c00 sc0 (retP (some .boolean) c00 Ψ) (lkp es_7) 0 [some (aR 1 i0), some (aI p1), none, none, none, none] [] (L0, g, w, q0)
  unfold s_X1_isBerthUsed at h
  refine ev_aload_n (pc' := 1) rfl rfl rfl ?_
  refine ev_getQ (pc' := 4) rfl rfl rfl ?_
  refine ev_astore_n (pc' := 5) rfl rfl (l' := [some (aR 1 i0), some (aI p1), some (aR 4008 i0), none, none, none]) rfl ?_
  refine ev_aload_n (pc' := 6) rfl rfl rfl ?_
  refine ev_alen (pc' := 7) rfl rfl (by decide) (v := (8 : Int32)) (by decide) ?_
  refine ev_istore_n (pc' := 8) rfl rfl (l' := [some (aR 1 i0), some (aI p1), some (aR 4008 i0), some (aI (8 : Int32)), none, none]) rfl ?_
  refine ev_iconst (pc' := 9) rfl rfl (v := (0 : Int32)) (by decide) ?_
  refine ev_istore (pc' := 11) rfl rfl (l' := [some (aR 1 i0), some (aI p1), some (aR 4008 i0), some (aI (8 : Int32)), some (aI (0 : Int32)), none]) rfl ?_
  exact e_X1_isBerthUsed_R11 hΨ FU h
def s_X1_pullHours_58 (i0 : Nat) (p1 : Int32) (rec16 : Int64 → Int32 → (Nat → Nat → Nat → Int32) → (Nat → Nat → Nat → Int64) → Option (Int64)) (v2 : Int64) (v6 : Int32) (g : Nat → Nat → Nat → Int32) (w : Nat → Nat → Nat → Int64) : Option (Int64) :=
  rec16 v2 (v6 + 1) g w
set_option maxRecDepth 20000 in
set_option maxHeartbeats 2000000 in
theorem e_X1_pullHours_58 {d : Nat} {Ψ : Option AV → DS → Prop} {i0 : Nat} {p1 : Int32} {rec16 : Int64 → Int32 → (Nat → Nat → Nat → Int32) → (Nat → Nat → Nat → Int64) → Option (Int64)} {r : Int64} {g : Nat → Nat → Nat → Int32} {w : Nat → Nat → Nat → Int64} {v2 : Int64} {v6 : Int32} {x0 : Option AV} {x3 : Option AV} {x7 : Option AV} (hr16 : ∀ {v2 : Int64} {v6 : Int32} {x0 : Option AV} {x3 : Option AV} {x7 : Option AV} , rec16 v2 v6 g w = some r → Ev (EvM mth (d + 1)) mth c00 sc0 (retP (some .long) c00 Ψ) (lkp es_8) 16 [x0, some (aI p1), some (aL v2), x3, some (aR 5006 i0), some (aI (6 : Int32)), some (aI v6), x7] [] (L0, g, w, q0)) (hΨ : Ψ (some (aL r)) (L0, g, w, q0)) (h : s_X1_pullHours_58 i0 p1 rec16 v2 v6 g w = some r) : Ev (EvM mth (d + 1)) mth c00 sc0 (retP (some .long) c00 Ψ) (lkp es_8) 58 [x0, some (aI p1), some (aL v2), x3, some (aR 5006 i0), some (aI (6 : Int32)), some (aI v6), x7] [] (L0, g, w, q0) := by
  unfold s_X1_pullHours_58 at h
  refine ev_iinc (pc' := 61) rfl rfl (l' := [x0, some (aI p1), some (aL v2), x3, some (aR 5006 i0), some (aI (6 : Int32)), some (aI (v6 + 1)), x7]) rfl (ii_1 _) rfl ?_
  refine ev_goto (pc' := 16) rfl ?_
  exact hr16 h
def s_X1_pullHours_16 (i0 : Nat) (p1 : Int32) (rec16 : Int64 → Int32 → (Nat → Nat → Nat → Int32) → (Nat → Nat → Nat → Int64) → Option (Int64)) (v2 : Int64) (v6 : Int32) (g : Nat → Nat → Nat → Int32) (w : Nat → Nat → Nat → Int64) : Option (Int64) :=
  if (6 : Int32) ≤ v6 then
    some (v2)
  else
    if inR v6 6 = true then
      if (g 5 (6 * i0 + v6.toNatClampNeg) 0) ≠ p1 then
        s_X1_pullHours_58 i0 p1 rec16 v2 v6 g w
      else
        s_X1_pullHours_58 i0 p1 rec16 (v2 + ((g 5 (6 * i0 + v6.toNatClampNeg) 1).toInt64 * (s_J_Long_bitCount (w 5 (6 * i0 + v6.toNatClampNeg) 8) g w).toInt64)) v6 g w
    else none
set_option maxRecDepth 20000 in
set_option maxHeartbeats 2000000 in
theorem e_X1_pullHours_16 {d : Nat} {Ψ : Option AV → DS → Prop} {i0 : Nat} {p1 : Int32} {rec16 : Int64 → Int32 → (Nat → Nat → Nat → Int32) → (Nat → Nat → Nat → Int64) → Option (Int64)} {r : Int64} {g : Nat → Nat → Nat → Int32} {w : Nat → Nat → Nat → Int64} {v2 : Int64} {v6 : Int32} {x0 : Option AV} {x3 : Option AV} {x7 : Option AV} (hr16 : ∀ {v2 : Int64} {v6 : Int32} {x0 : Option AV} {x3 : Option AV} {x7 : Option AV} , rec16 v2 v6 g w = some r → Ev (EvM mth (d + 1)) mth c00 sc0 (retP (some .long) c00 Ψ) (lkp es_8) 16 [x0, some (aI p1), some (aL v2), x3, some (aR 5006 i0), some (aI (6 : Int32)), some (aI v6), x7] [] (L0, g, w, q0)) (hΨ : Ψ (some (aL r)) (L0, g, w, q0)) (h : s_X1_pullHours_16 i0 p1 rec16 v2 v6 g w = some r) : Ev (EvM mth (d + 1)) mth c00 sc0 (retP (some .long) c00 Ψ) (lkp es_8) 16 [x0, some (aI p1), some (aL v2), x3, some (aR 5006 i0), some (aI (6 : Int32)), some (aI v6), x7] [] (L0, g, w, q0) := by
  unfold s_X1_pullHours_16 at h
  refine ev_iload (pc' := 18) rfl rfl rfl ?_
  refine ev_iload (pc' := 20) rfl rfl rfl ?_
  refine ev_icmp_ge rfl (pc' := 23) rfl (fun hc => ?_) (fun hc => ?_)
  · have h := (if_pos hc).symm.trans h
    refine ev_lload_n (pc' := 65) rfl rfl rfl ?_
    obtain rfl := Option.some.inj h
    exact ev_lreturn rfl ⟨⟨_, rfl⟩, rfl, rfl, hΨ⟩
  · have h := (if_neg hc).symm.trans h
    refine ev_aload (pc' := 25) rfl rfl rfl ?_
    refine ev_iload (pc' := 27) rfl rfl rfl ?_
    obtain ⟨hi, h⟩ := gdB h
    refine ev_aald (pc' := 28) rfl rfl (by decide) rfl (inR_vp hi) rfl ?_
    refine ev_astore (pc' := 30) rfl rfl (l' := [x0, some (aI p1), some (aL v2), x3, some (aR 5006 i0), some (aI (6 : Int32)), some (aI v6), some (aR 5 (6 * i0 + v6.toNatClampNeg))]) rfl ?_
    refine ev_aload (pc' := 32) rfl rfl rfl ?_
    refine ev_getI (pc' := 35) rfl rfl ?_
    refine ev_iload_n (pc' := 36) rfl rfl rfl ?_
    refine ev_icmp_ne rfl (pc' := 39) rfl (fun hc => ?_) (fun hc => ?_)
    · have h := (if_pos hc).symm.trans h
      exact e_X1_pullHours_58 (hr16 := hr16) hΨ h
    · have h := (if_neg hc).symm.trans h
      refine ev_lload_n (pc' := 40) rfl rfl rfl ?_
      refine ev_aload (pc' := 42) rfl rfl rfl ?_
      refine ev_getI (pc' := 45) rfl rfl ?_
      refine ev_i2l (pc' := 46) rfl rfl ?_
      refine ev_aload (pc' := 48) rfl rfl rfl ?_
      refine ev_getL (pc' := 51) rfl rfl ?_
      refine ev_S1I (pc' := 54) rfl (by decide) rfl mth_192 ⟨Nat.le_of_ble_eq_true rfl, rfl⟩ ⟨Nat.le_refl _, Nat.le_refl _⟩ d_J_Long_bitCount ?_
      refine ev_i2l (pc' := 55) rfl rfl ?_
      refine ev_lmul (pc' := 56) rfl rfl ?_
      refine ev_ladd (pc' := 57) rfl rfl ?_
      refine ev_lstore_n (pc' := 58) rfl rfl (l' := [x0, some (aI p1), some (aL (v2 + ((g 5 (6 * i0 + v6.toNatClampNeg) 1).toInt64 * (s_J_Long_bitCount (w 5 (6 * i0 + v6.toNatClampNeg) 8) g w).toInt64))), none, some (aR 5006 i0), some (aI (6 : Int32)), some (aI v6), some (aR 5 (6 * i0 + v6.toNatClampNeg))]) rfl ?_
      exact e_X1_pullHours_58 (hr16 := hr16) hΨ h
def s_X1_pullHours_R16 (i0 : Nat) (p1 : Int32) : Nat → Int64 → Int32 → (Nat → Nat → Nat → Int32) → (Nat → Nat → Nat → Int64) → Option (Int64)
  | 0 => fun _ _ _ _ => none
  | n + 1 => s_X1_pullHours_16 i0 p1 (s_X1_pullHours_R16 i0 p1 n)
theorem e_X1_pullHours_R16 {d : Nat} {Ψ : Option AV → DS → Prop} {i0 : Nat} {p1 : Int32} {r : Int64} {g : Nat → Nat → Nat → Int32} {w : Nat → Nat → Nat → Int64} (hΨ : Ψ (some (aL r)) (L0, g, w, q0)) : ∀ (n : Nat) {v2 : Int64} {v6 : Int32} {x0 : Option AV} {x3 : Option AV} {x7 : Option AV}, s_X1_pullHours_R16 i0 p1 n v2 v6 g w = some r → Ev (EvM mth (d + 1)) mth c00 sc0 (retP (some .long) c00 Ψ) (lkp es_8) 16 [x0, some (aI p1), some (aL v2), x3, some (aR 5006 i0), some (aI (6 : Int32)), some (aI v6), x7] [] (L0, g, w, q0) := by
  intro n
  induction n with
  | zero => intros; rename_i h; exact absurd h (by intro h9; cases h9)
  | succ n ih => intros; rename_i h; exact e_X1_pullHours_16 (hr16 := ih) hΨ h
def s_X1_pullHours (i0 : Nat) (p1 : Int32) (g : Nat → Nat → Nat → Int32) (w : Nat → Nat → Nat → Int64) : Option (Int64) :=
  s_X1_pullHours_R16 i0 p1 FU (0 : Int64) (0 : Int32) g w
set_option maxRecDepth 20000 in
set_option maxHeartbeats 2000000 in
theorem d_X1_pullHours {d : Nat} {i0 : Nat} {p1 : Int32} {g : Nat → Nat → Nat → Int32} {w : Nat → Nat → Nat → Int64} {r : Int64} (h : s_X1_pullHours i0 p1 g w = some r) : Does (EvM mth (d + 2)) 8 [aR 1 i0, aI p1] (L0, g, w, q0) (some (aL r)) (L0, g, w, q0) := by
  intro Ψ hΨ
  refine ⟨in_8, mth_8, Nat.le_of_ble_eq_true rfl, ?_⟩
  show Ev (EvM mth (d + 1)) mth c00 sc0 (retP (some .long) c00 Ψ) (lkp es_8) 0 [some (aR 1 i0), some (aI p1), none, none, none, none, none, none] [] (L0, g, w, q0)
  unfold s_X1_pullHours at h
  refine ev_lconst (pc' := 1) rfl rfl (v := (0 : Int64)) (by decide) ?_
  refine ev_lstore_n (pc' := 2) rfl rfl (l' := [some (aR 1 i0), some (aI p1), some (aL (0 : Int64)), none, none, none, none, none]) rfl ?_
  refine ev_aload_n (pc' := 3) rfl rfl rfl ?_
  refine ev_getQ (pc' := 6) rfl rfl rfl ?_
  refine ev_astore (pc' := 8) rfl rfl (l' := [some (aR 1 i0), some (aI p1), some (aL (0 : Int64)), none, some (aR 5006 i0), none, none, none]) rfl ?_
  refine ev_aload (pc' := 10) rfl rfl rfl ?_
  refine ev_alen (pc' := 11) rfl rfl (by decide) (v := (6 : Int32)) (by decide) ?_
  refine ev_istore (pc' := 13) rfl rfl (l' := [some (aR 1 i0), some (aI p1), some (aL (0 : Int64)), none, some (aR 5006 i0), some (aI (6 : Int32)), none, none]) rfl ?_
  refine ev_iconst (pc' := 14) rfl rfl (v := (0 : Int32)) (by decide) ?_
  refine ev_istore (pc' := 16) rfl rfl (l' := [some (aR 1 i0), some (aI p1), some (aL (0 : Int64)), none, some (aR 5006 i0), some (aI (6 : Int32)), some (aI (0 : Int32)), none]) rfl ?_
  exact e_X1_pullHours_R16 hΨ FU h
def s_X1_neededPull_32 (i0 : Nat) (p1 : Nat) (p2 : Int32) (t0 : Int32) (g : Nat → Nat → Nat → Int32) (w : Nat → Nat → Nat → Int64) : Option (Int32) :=
  some (t0)
set_option maxRecDepth 20000 in
set_option maxHeartbeats 2000000 in
theorem e_X1_neededPull_32 {d : Nat} {Ψ : Option AV → DS → Prop} {i0 : Nat} {p1 : Nat} {p2 : Int32} {r : Int32} {g : Nat → Nat → Nat → Int32} {w : Nat → Nat → Nat → Int64} {t0 : Int32} {x0 : Option AV} {x1 : Option AV} {x2 : Option AV} (hΨ : Ψ (some (aI r)) (L0, g, w, q0)) (h : s_X1_neededPull_32 i0 p1 p2 t0 g w = some r) : Ev (EvM mth (d + 1)) mth c00 sc0 (retP (some .int) c00 Ψ) (lkp es_10) 32 [x0, x1, x2] [aI t0] (L0, g, w, q0) := by
  unfold s_X1_neededPull_32 at h
  obtain rfl := Option.some.inj h
  exact ev_ireturn rfl ⟨⟨_, rfl, rfl⟩, rfl, rfl, hΨ⟩
def s_X1_neededPull (i0 : Nat) (p1 : Nat) (p2 : Int32) (g : Nat → Nat → Nat → Int32) (w : Nat → Nat → Nat → Int64) : Option (Int32) :=
  if (s_X6_within p2 (0 : Int32) (47 : Int32) g w) = true then
    if inR p2 48 = true then
      s_X1_neededPull_32 i0 p1 p2 ((g 4 p1 0) + (((g 4 p1 0) * (g 1048 i0 p2.toNatClampNeg)) / (5 : Int32))) g w
    else none
  else
    s_X1_neededPull_32 i0 p1 p2 (0 : Int32) g w
set_option maxRecDepth 20000 in
set_option maxHeartbeats 2000000 in
theorem d_X1_neededPull {d : Nat} {i0 : Nat} {p1 : Nat} {p2 : Int32} {g : Nat → Nat → Nat → Int32} {w : Nat → Nat → Nat → Int64} {r : Int32} (h : s_X1_neededPull i0 p1 p2 g w = some r) : Does (EvM mth (d + 2)) 10 [aR 1 i0, aR 4 p1, aI p2] (L0, g, w, q0) (some (aI r)) (L0, g, w, q0) := by
  intro Ψ hΨ
  refine ⟨in_10, mth_10, Nat.le_of_ble_eq_true rfl, ?_⟩
  show Ev (EvM mth (d + 1)) mth c00 sc0 (retP (some .int) c00 Ψ) (lkp es_10) 0 [some (aR 1 i0), some (aR 4 p1), some (aI p2)] [] (L0, g, w, q0)
  unfold s_X1_neededPull at h
  refine ev_iload_n (pc' := 1) rfl rfl rfl ?_
  refine ev_iconst (pc' := 2) rfl rfl (v := (0 : Int32)) (by decide) ?_
  refine ev_bipush (pc' := 4) rfl rfl (v := (47 : Int32)) (by decide) ?_
  refine ev_S3I (pc' := 7) rfl (by decide) rfl mth_105 ⟨Nat.le_of_ble_eq_true rfl, rfl⟩ ⟨Nat.le_refl _, Nat.le_refl _⟩ d_X6_within ?_
  refine ev_ifB_eq rfl (pc' := 10) rfl (fun hc => ?_) (fun hc => ?_)
  · have h := (if_neg hc).symm.trans h
    refine ev_iconst (pc' := 32) rfl rfl (v := (0 : Int32)) (by decide) ?_
    exact e_X1_neededPull_32 hΨ h
  · have h := (if_pos hc).symm.trans h
    refine ev_aload_n (pc' := 11) rfl rfl rfl ?_
    refine ev_getI (pc' := 14) rfl rfl ?_
    refine ev_aload_n (pc' := 15) rfl rfl rfl ?_
    refine ev_getI (pc' := 18) rfl rfl ?_
    refine ev_aload_n (pc' := 19) rfl rfl rfl ?_
    refine ev_getQ (pc' := 22) rfl rfl rfl ?_
    refine ev_iload_n (pc' := 23) rfl rfl rfl ?_
    obtain ⟨hi, h⟩ := gdB h
    refine ev_iald (pc' := 24) rfl rfl rfl (inR_vp hi) ?_
    refine ev_imul (pc' := 25) rfl rfl ?_
    refine ev_iconst (pc' := 26) rfl rfl (v := (5 : Int32)) (by decide) ?_
    refine ev_idiv (pc' := 27) rfl rfl (by decide) ?_
    refine ev_iadd (pc' := 28) rfl rfl ?_
    refine ev_goto (pc' := 32) rfl ?_
    exact e_X1_neededPull_32 hΨ h
def s_X1_pullOf_33 (i0 : Nat) (p1 : Int32) (rec4 : Int32 → Int32 → (Nat → Nat → Nat → Int32) → (Nat → Nat → Nat → Int64) → Option (Int32)) (v2 : Int32) (v3 : Int32) (g : Nat → Nat → Nat → Int32) (w : Nat → Nat → Nat → Int64) : Option (Int32) :=
  rec4 v2 (v3 + 1) g w
set_option maxRecDepth 20000 in
set_option maxHeartbeats 2000000 in
theorem e_X1_pullOf_33 {d : Nat} {Ψ : Option AV → DS → Prop} {i0 : Nat} {p1 : Int32} {rec4 : Int32 → Int32 → (Nat → Nat → Nat → Int32) → (Nat → Nat → Nat → Int64) → Option (Int32)} {r : Int32} {g : Nat → Nat → Nat → Int32} {w : Nat → Nat → Nat → Int64} {v2 : Int32} {v3 : Int32} (hr4 : ∀ {v2 : Int32} {v3 : Int32} , rec4 v2 v3 g w = some r → Ev (EvM mth (d + 1)) mth c00 sc0 (retP (some .int) c00 Ψ) (lkp es_12) 4 [some (aR 1 i0), some (aI p1), some (aI v2), some (aI v3)] [] (L0, g, w, q0)) (hΨ : Ψ (some (aI r)) (L0, g, w, q0)) (h : s_X1_pullOf_33 i0 p1 rec4 v2 v3 g w = some r) : Ev (EvM mth (d + 1)) mth c00 sc0 (retP (some .int) c00 Ψ) (lkp es_12) 33 [some (aR 1 i0), some (aI p1), some (aI v2), some (aI v3)] [] (L0, g, w, q0) := by
  unfold s_X1_pullOf_33 at h
  refine ev_iinc (pc' := 36) rfl rfl (l' := [some (aR 1 i0), some (aI p1), some (aI v2), some (aI (v3 + 1))]) rfl (ii_1 _) rfl ?_
  refine ev_goto (pc' := 4) rfl ?_
  exact hr4 h
def s_X1_pullOf_4 (i0 : Nat) (p1 : Int32) (rec4 : Int32 → Int32 → (Nat → Nat → Nat → Int32) → (Nat → Nat → Nat → Int64) → Option (Int32)) (v2 : Int32) (v3 : Int32) (g : Nat → Nat → Nat → Int32) (w : Nat → Nat → Nat → Int64) : Option (Int32) :=
  if (6 : Int32) ≤ v3 then
    some (v2)
  else
    if (s_X6_isIn v3 p1 g w) = true then
      if inR v3 6 = true then
        s_X1_pullOf_33 i0 p1 rec4 (v2 + (g 5 (6 * i0 + v3.toNatClampNeg) 1)) v3 g w
      else none
    else
      s_X1_pullOf_33 i0 p1 rec4 v2 v3 g w
set_option maxRecDepth 20000 in
set_option maxHeartbeats 2000000 in
theorem e_X1_pullOf_4 {d : Nat} {Ψ : Option AV → DS → Prop} {i0 : Nat} {p1 : Int32} {rec4 : Int32 → Int32 → (Nat → Nat → Nat → Int32) → (Nat → Nat → Nat → Int64) → Option (Int32)} {r : Int32} {g : Nat → Nat → Nat → Int32} {w : Nat → Nat → Nat → Int64} {v2 : Int32} {v3 : Int32} (hr4 : ∀ {v2 : Int32} {v3 : Int32} , rec4 v2 v3 g w = some r → Ev (EvM mth (d + 1)) mth c00 sc0 (retP (some .int) c00 Ψ) (lkp es_12) 4 [some (aR 1 i0), some (aI p1), some (aI v2), some (aI v3)] [] (L0, g, w, q0)) (hΨ : Ψ (some (aI r)) (L0, g, w, q0)) (h : s_X1_pullOf_4 i0 p1 rec4 v2 v3 g w = some r) : Ev (EvM mth (d + 1)) mth c00 sc0 (retP (some .int) c00 Ψ) (lkp es_12) 4 [some (aR 1 i0), some (aI p1), some (aI v2), some (aI v3)] [] (L0, g, w, q0) := by
  unfold s_X1_pullOf_4 at h
  refine ev_iload_n (pc' := 5) rfl rfl rfl ?_
  refine ev_aload_n (pc' := 6) rfl rfl rfl ?_
  refine ev_getQ (pc' := 9) rfl rfl rfl ?_
  refine ev_alen (pc' := 10) rfl rfl (by decide) (v := (6 : Int32)) (by decide) ?_
  refine ev_icmp_ge rfl (pc' := 13) rfl (fun hc => ?_) (fun hc => ?_)
  · have h := (if_pos hc).symm.trans h
    refine ev_iload_n (pc' := 40) rfl rfl rfl ?_
    obtain rfl := Option.some.inj h
    exact ev_ireturn rfl ⟨⟨_, rfl, rfl⟩, rfl, rfl, hΨ⟩
  · have h := (if_neg hc).symm.trans h
    refine ev_iload_n (pc' := 14) rfl rfl rfl ?_
    refine ev_iload_n (pc' := 15) rfl rfl rfl ?_
    refine ev_S2I (pc' := 18) rfl (by decide) rfl mth_113 ⟨Nat.le_of_ble_eq_true rfl, rfl⟩ ⟨Nat.le_refl _, Nat.le_refl _⟩ d_X6_isIn ?_
    refine ev_ifB_eq rfl (pc' := 21) rfl (fun hc => ?_) (fun hc => ?_)
    · have h := (if_neg hc).symm.trans h
      exact e_X1_pullOf_33 (hr4 := hr4) hΨ h
    · have h := (if_pos hc).symm.trans h
      refine ev_iload_n (pc' := 22) rfl rfl rfl ?_
      refine ev_aload_n (pc' := 23) rfl rfl rfl ?_
      refine ev_getQ (pc' := 26) rfl rfl rfl ?_
      refine ev_iload_n (pc' := 27) rfl rfl rfl ?_
      obtain ⟨hi, h⟩ := gdB h
      refine ev_aald (pc' := 28) rfl rfl (by decide) rfl (inR_vp hi) rfl ?_
      refine ev_getI (pc' := 31) rfl rfl ?_
      refine ev_iadd (pc' := 32) rfl rfl ?_
      refine ev_istore_n (pc' := 33) rfl rfl (l' := [some (aR 1 i0), some (aI p1), some (aI (v2 + (g 5 (6 * i0 + v3.toNatClampNeg) 1))), some (aI v3)]) rfl ?_
      exact e_X1_pullOf_33 (hr4 := hr4) hΨ h
def s_X1_pullOf_R4 (i0 : Nat) (p1 : Int32) : Nat → Int32 → Int32 → (Nat → Nat → Nat → Int32) → (Nat → Nat → Nat → Int64) → Option (Int32)
  | 0 => fun _ _ _ _ => none
  | n + 1 => s_X1_pullOf_4 i0 p1 (s_X1_pullOf_R4 i0 p1 n)
theorem e_X1_pullOf_R4 {d : Nat} {Ψ : Option AV → DS → Prop} {i0 : Nat} {p1 : Int32} {r : Int32} {g : Nat → Nat → Nat → Int32} {w : Nat → Nat → Nat → Int64} (hΨ : Ψ (some (aI r)) (L0, g, w, q0)) : ∀ (n : Nat) {v2 : Int32} {v3 : Int32} , s_X1_pullOf_R4 i0 p1 n v2 v3 g w = some r → Ev (EvM mth (d + 1)) mth c00 sc0 (retP (some .int) c00 Ψ) (lkp es_12) 4 [some (aR 1 i0), some (aI p1), some (aI v2), some (aI v3)] [] (L0, g, w, q0) := by
  intro n
  induction n with
  | zero => intros; rename_i h; exact absurd h (by intro h9; cases h9)
  | succ n ih => intros; rename_i h; exact e_X1_pullOf_4 (hr4 := ih) hΨ h
def s_X1_pullOf (i0 : Nat) (p1 : Int32) (g : Nat → Nat → Nat → Int32) (w : Nat → Nat → Nat → Int64) : Option (Int32) :=
  s_X1_pullOf_R4 i0 p1 FU (0 : Int32) (0 : Int32) g w
set_option maxRecDepth 20000 in
set_option maxHeartbeats 2000000 in
theorem d_X1_pullOf {d : Nat} {i0 : Nat} {p1 : Int32} {g : Nat → Nat → Nat → Int32} {w : Nat → Nat → Nat → Int64} {r : Int32} (h : s_X1_pullOf i0 p1 g w = some r) : Does (EvM mth (d + 2)) 12 [aR 1 i0, aI p1] (L0, g, w, q0) (some (aI r)) (L0, g, w, q0) := by
  intro Ψ hΨ
  refine ⟨in_12, mth_12, Nat.le_of_ble_eq_true rfl, ?_⟩
  show Ev (EvM mth (d + 1)) mth c00 sc0 (retP (some .int) c00 Ψ) (lkp es_12) 0 [some (aR 1 i0), some (aI p1), none, none] [] (L0, g, w, q0)
  unfold s_X1_pullOf at h
  refine ev_iconst (pc' := 1) rfl rfl (v := (0 : Int32)) (by decide) ?_
  refine ev_istore_n (pc' := 2) rfl rfl (l' := [some (aR 1 i0), some (aI p1), some (aI (0 : Int32)), none]) rfl ?_
  refine ev_iconst (pc' := 3) rfl rfl (v := (0 : Int32)) (by decide) ?_
  refine ev_istore_n (pc' := 4) rfl rfl (l' := [some (aR 1 i0), some (aI p1), some (aI (0 : Int32)), some (aI (0 : Int32))]) rfl ?_
  exact e_X1_pullOf_R4 hΨ FU h
def s_X1_canPullAstern_34 (i0 : Nat) (p1 : Int32) (rec2 : Int32 → (Nat → Nat → Nat → Int32) → (Nat → Nat → Nat → Int64) → Option (Bool)) (v2 : Int32) (g : Nat → Nat → Nat → Int32) (w : Nat → Nat → Nat → Int64) : Option (Bool) :=
  rec2 (v2 + 1) g w
set_option maxRecDepth 20000 in
set_option maxHeartbeats 2000000 in
theorem e_X1_canPullAstern_34 {d : Nat} {Ψ : Option AV → DS → Prop} {i0 : Nat} {p1 : Int32} {rec2 : Int32 → (Nat → Nat → Nat → Int32) → (Nat → Nat → Nat → Int64) → Option (Bool)} {r : Bool} {g : Nat → Nat → Nat → Int32} {w : Nat → Nat → Nat → Int64} {v2 : Int32} (hr2 : ∀ {v2 : Int32} , rec2 v2 g w = some r → Ev (EvM mth (d + 1)) mth c00 sc0 (retP (some .boolean) c00 Ψ) (lkp es_13) 2 [some (aR 1 i0), some (aI p1), some (aI v2)] [] (L0, g, w, q0)) (hΨ : Ψ (some (aI (bI r))) (L0, g, w, q0)) (h : s_X1_canPullAstern_34 i0 p1 rec2 v2 g w = some r) : Ev (EvM mth (d + 1)) mth c00 sc0 (retP (some .boolean) c00 Ψ) (lkp es_13) 34 [some (aR 1 i0), some (aI p1), some (aI v2)] [] (L0, g, w, q0) := by
  unfold s_X1_canPullAstern_34 at h
  refine ev_iinc (pc' := 37) rfl rfl (l' := [some (aR 1 i0), some (aI p1), some (aI (v2 + 1))]) rfl (ii_1 _) rfl ?_
  refine ev_goto (pc' := 2) rfl ?_
  exact hr2 h
def s_X1_canPullAstern_2 (i0 : Nat) (p1 : Int32) (rec2 : Int32 → (Nat → Nat → Nat → Int32) → (Nat → Nat → Nat → Int64) → Option (Bool)) (v2 : Int32) (g : Nat → Nat → Nat → Int32) (w : Nat → Nat → Nat → Int64) : Option (Bool) :=
  if (6 : Int32) ≤ v2 then
    some (false)
  else
    if (s_X6_isIn v2 p1 g w) = true then
      if inR v2 6 = true then
        if (g 5 (6 * i0 + v2.toNatClampNeg) 2) ≠ (1 : Int32) then
          s_X1_canPullAstern_34 i0 p1 rec2 v2 g w
        else
          some (true)
      else none
    else
      s_X1_canPullAstern_34 i0 p1 rec2 v2 g w
set_option maxRecDepth 20000 in
set_option maxHeartbeats 2000000 in
theorem e_X1_canPullAstern_2 {d : Nat} {Ψ : Option AV → DS → Prop} {i0 : Nat} {p1 : Int32} {rec2 : Int32 → (Nat → Nat → Nat → Int32) → (Nat → Nat → Nat → Int64) → Option (Bool)} {r : Bool} {g : Nat → Nat → Nat → Int32} {w : Nat → Nat → Nat → Int64} {v2 : Int32} (hr2 : ∀ {v2 : Int32} , rec2 v2 g w = some r → Ev (EvM mth (d + 1)) mth c00 sc0 (retP (some .boolean) c00 Ψ) (lkp es_13) 2 [some (aR 1 i0), some (aI p1), some (aI v2)] [] (L0, g, w, q0)) (hΨ : Ψ (some (aI (bI r))) (L0, g, w, q0)) (h : s_X1_canPullAstern_2 i0 p1 rec2 v2 g w = some r) : Ev (EvM mth (d + 1)) mth c00 sc0 (retP (some .boolean) c00 Ψ) (lkp es_13) 2 [some (aR 1 i0), some (aI p1), some (aI v2)] [] (L0, g, w, q0) := by
  unfold s_X1_canPullAstern_2 at h
  refine ev_iload_n (pc' := 3) rfl rfl rfl ?_
  refine ev_aload_n (pc' := 4) rfl rfl rfl ?_
  refine ev_getQ (pc' := 7) rfl rfl rfl ?_
  refine ev_alen (pc' := 8) rfl rfl (by decide) (v := (6 : Int32)) (by decide) ?_
  refine ev_icmp_ge rfl (pc' := 11) rfl (fun hc => ?_) (fun hc => ?_)
  · have h := (if_pos hc).symm.trans h
    refine ev_iconst (pc' := 41) rfl rfl (v := (0 : Int32)) (by decide) ?_
    obtain rfl := Option.some.inj h
    exact ev_ireturn rfl ⟨⟨_, rfl, rfl⟩, rfl, rfl, hΨ⟩
  · have h := (if_neg hc).symm.trans h
    refine ev_iload_n (pc' := 12) rfl rfl rfl ?_
    refine ev_iload_n (pc' := 13) rfl rfl rfl ?_
    refine ev_S2I (pc' := 16) rfl (by decide) rfl mth_113 ⟨Nat.le_of_ble_eq_true rfl, rfl⟩ ⟨Nat.le_refl _, Nat.le_refl _⟩ d_X6_isIn ?_
    refine ev_ifB_eq rfl (pc' := 19) rfl (fun hc => ?_) (fun hc => ?_)
    · have h := (if_neg hc).symm.trans h
      exact e_X1_canPullAstern_34 (hr2 := hr2) hΨ h
    · have h := (if_pos hc).symm.trans h
      refine ev_aload_n (pc' := 20) rfl rfl rfl ?_
      refine ev_getQ (pc' := 23) rfl rfl rfl ?_
      refine ev_iload_n (pc' := 24) rfl rfl rfl ?_
      obtain ⟨hi, h⟩ := gdB h
      refine ev_aald (pc' := 25) rfl rfl (by decide) rfl (inR_vp hi) rfl ?_
      refine ev_getI (pc' := 28) rfl rfl ?_
      refine ev_iconst (pc' := 29) rfl rfl (v := (1 : Int32)) (by decide) ?_
      refine ev_icmp_ne rfl (pc' := 32) rfl (fun hc => ?_) (fun hc => ?_)
      · have h := (if_pos hc).symm.trans h
        exact e_X1_canPullAstern_34 (hr2 := hr2) hΨ h
      · have h := (if_neg hc).symm.trans h
        refine ev_iconst (pc' := 33) rfl rfl (v := (1 : Int32)) (by decide) ?_
        obtain rfl := Option.some.inj h
        exact ev_ireturn rfl ⟨⟨_, rfl, rfl⟩, rfl, rfl, hΨ⟩
def s_X1_canPullAstern_R2 (i0 : Nat) (p1 : Int32) : Nat → Int32 → (Nat → Nat → Nat → Int32) → (Nat → Nat → Nat → Int64) → Option (Bool)
  | 0 => fun _ _ _ => none
  | n + 1 => s_X1_canPullAstern_2 i0 p1 (s_X1_canPullAstern_R2 i0 p1 n)
theorem e_X1_canPullAstern_R2 {d : Nat} {Ψ : Option AV → DS → Prop} {i0 : Nat} {p1 : Int32} {r : Bool} {g : Nat → Nat → Nat → Int32} {w : Nat → Nat → Nat → Int64} (hΨ : Ψ (some (aI (bI r))) (L0, g, w, q0)) : ∀ (n : Nat) {v2 : Int32} , s_X1_canPullAstern_R2 i0 p1 n v2 g w = some r → Ev (EvM mth (d + 1)) mth c00 sc0 (retP (some .boolean) c00 Ψ) (lkp es_13) 2 [some (aR 1 i0), some (aI p1), some (aI v2)] [] (L0, g, w, q0) := by
  intro n
  induction n with
  | zero => intros; rename_i h; exact absurd h (by intro h9; cases h9)
  | succ n ih => intros; rename_i h; exact e_X1_canPullAstern_2 (hr2 := ih) hΨ h
def s_X1_canPullAstern (i0 : Nat) (p1 : Int32) (g : Nat → Nat → Nat → Int32) (w : Nat → Nat → Nat → Int64) : Option (Bool) :=
  s_X1_canPullAstern_R2 i0 p1 FU (0 : Int32) g w
set_option maxRecDepth 20000 in
set_option maxHeartbeats 2000000 in
theorem d_X1_canPullAstern {d : Nat} {i0 : Nat} {p1 : Int32} {g : Nat → Nat → Nat → Int32} {w : Nat → Nat → Nat → Int64} {r : Bool} (h : s_X1_canPullAstern i0 p1 g w = some r) : Does (EvM mth (d + 2)) 13 [aR 1 i0, aI p1] (L0, g, w, q0) (some (aI (bI r))) (L0, g, w, q0) := by
  intro Ψ hΨ
  refine ⟨in_13, mth_13, Nat.le_of_ble_eq_true rfl, ?_⟩
  show Ev (EvM mth (d + 1)) mth c00 sc0 (retP (some .boolean) c00 Ψ) (lkp es_13) 0 [some (aR 1 i0), some (aI p1), none] [] (L0, g, w, q0)
  unfold s_X1_canPullAstern at h
  refine ev_iconst (pc' := 1) rfl rfl (v := (0 : Int32)) (by decide) ?_
  refine ev_istore_n (pc' := 2) rfl rfl (l' := [some (aR 1 i0), some (aI p1), some (aI (0 : Int32))]) rfl ?_
  exact e_X1_canPullAstern_R2 hΨ FU h
def s_X1_hasIdle_66 (i0 : Nat) (p1 : Int32) (p2 : Int32) (g : Nat → Nat → Nat → Int32) (w : Nat → Nat → Nat → Int64) : Option (Bool) :=
  some (false)
set_option maxRecDepth 20000 in
set_option maxHeartbeats 2000000 in
theorem e_X1_hasIdle_66 {d : Nat} {Ψ : Option AV → DS → Prop} {i0 : Nat} {p1 : Int32} {p2 : Int32} {r : Bool} {g : Nat → Nat → Nat → Int32} {w : Nat → Nat → Nat → Int64} {x0 : Option AV} {x1 : Option AV} {x2 : Option AV} {x3 : Option AV} (hΨ : Ψ (some (aI (bI r))) (L0, g, w, q0)) (h : s_X1_hasIdle_66 i0 p1 p2 g w = some r) : Ev (EvM mth (d + 1)) mth c00 sc0 (retP (some .boolean) c00 Ψ) (lkp es_17) 66 [x0, x1, x2, x3] [] (L0, g, w, q0) := by
  unfold s_X1_hasIdle_66 at h
  refine ev_iconst (pc' := 67) rfl rfl (v := (0 : Int32)) (by decide) ?_
  obtain rfl := Option.some.inj h
  exact ev_ireturn rfl ⟨⟨_, rfl, rfl⟩, rfl, rfl, hΨ⟩
def s_X1_hasIdle_60 (i0 : Nat) (p1 : Int32) (p2 : Int32) (rec2 : Int32 → (Nat → Nat → Nat → Int32) → (Nat → Nat → Nat → Int64) → Option (Bool)) (v3 : Int32) (g : Nat → Nat → Nat → Int32) (w : Nat → Nat → Nat → Int64) : Option (Bool) :=
  rec2 (v3 + 1) g w
set_option maxRecDepth 20000 in
set_option maxHeartbeats 2000000 in
theorem e_X1_hasIdle_60 {d : Nat} {Ψ : Option AV → DS → Prop} {i0 : Nat} {p1 : Int32} {p2 : Int32} {rec2 : Int32 → (Nat → Nat → Nat → Int32) → (Nat → Nat → Nat → Int64) → Option (Bool)} {r : Bool} {g : Nat → Nat → Nat → Int32} {w : Nat → Nat → Nat → Int64} {v3 : Int32} (hr2 : ∀ {v3 : Int32} , rec2 v3 g w = some r → Ev (EvM mth (d + 1)) mth c00 sc0 (retP (some .boolean) c00 Ψ) (lkp es_17) 2 [some (aR 1 i0), some (aI p1), some (aI p2), some (aI v3)] [] (L0, g, w, q0)) (hΨ : Ψ (some (aI (bI r))) (L0, g, w, q0)) (h : s_X1_hasIdle_60 i0 p1 p2 rec2 v3 g w = some r) : Ev (EvM mth (d + 1)) mth c00 sc0 (retP (some .boolean) c00 Ψ) (lkp es_17) 60 [some (aR 1 i0), some (aI p1), some (aI p2), some (aI v3)] [] (L0, g, w, q0) := by
  unfold s_X1_hasIdle_60 at h
  refine ev_iinc (pc' := 63) rfl rfl (l' := [some (aR 1 i0), some (aI p1), some (aI p2), some (aI (v3 + 1))]) rfl (ii_1 _) rfl ?_
  refine ev_goto (pc' := 2) rfl ?_
  exact hr2 h
def s_X1_hasIdle_2 (i0 : Nat) (p1 : Int32) (p2 : Int32) (rec2 : Int32 → (Nat → Nat → Nat → Int32) → (Nat → Nat → Nat → Int64) → Option (Bool)) (v3 : Int32) (g : Nat → Nat → Nat → Int32) (w : Nat → Nat → Nat → Int64) : Option (Bool) :=
  if (g 1 i0 9) ≤ v3 then
    s_X1_hasIdle_66 i0 p1 p2 g w
  else
    if (6 : Int32) ≤ v3 then
      s_X1_hasIdle_66 i0 p1 p2 g w
    else
      if (s_X6_isIn v3 p2 g w) = true then
        s_X1_hasIdle_60 i0 p1 p2 rec2 v3 g w
      else
        if inR v3 6 = true then
          if (lg_cmp ((jlush (w 5 (6 * i0 + v3.toNatClampNeg) 8) p1) &&& (1 : Int64)) (0 : Int64)) ≠ 0 then
            s_X1_hasIdle_60 i0 p1 p2 rec2 v3 g w
          else
            if inR v3 6 = true then
              if (s_X5_isBroken (6 * i0 + v3.toNatClampNeg) p1 g w) = true then
                s_X1_hasIdle_60 i0 p1 p2 rec2 v3 g w
              else
                some (true)
            else none
        else none
set_option maxRecDepth 20000 in
set_option maxHeartbeats 2000000 in
theorem e_X1_hasIdle_2 {d : Nat} {Ψ : Option AV → DS → Prop} {i0 : Nat} {p1 : Int32} {p2 : Int32} {rec2 : Int32 → (Nat → Nat → Nat → Int32) → (Nat → Nat → Nat → Int64) → Option (Bool)} {r : Bool} {g : Nat → Nat → Nat → Int32} {w : Nat → Nat → Nat → Int64} {v3 : Int32} (hr2 : ∀ {v3 : Int32} , rec2 v3 g w = some r → Ev (EvM mth (d + 1)) mth c00 sc0 (retP (some .boolean) c00 Ψ) (lkp es_17) 2 [some (aR 1 i0), some (aI p1), some (aI p2), some (aI v3)] [] (L0, g, w, q0)) (hΨ : Ψ (some (aI (bI r))) (L0, g, w, q0)) (h : s_X1_hasIdle_2 i0 p1 p2 rec2 v3 g w = some r) : Ev (EvM mth (d + 1)) mth c00 sc0 (retP (some .boolean) c00 Ψ) (lkp es_17) 2 [some (aR 1 i0), some (aI p1), some (aI p2), some (aI v3)] [] (L0, g, w, q0) := by
  unfold s_X1_hasIdle_2 at h
  refine ev_iload_n (pc' := 3) rfl rfl rfl ?_
  refine ev_aload_n (pc' := 4) rfl rfl rfl ?_
  refine ev_getI (pc' := 7) rfl rfl ?_
  refine ev_icmp_ge rfl (pc' := 10) rfl (fun hc => ?_) (fun hc => ?_)
  · have h := (if_pos hc).symm.trans h
    exact e_X1_hasIdle_66 hΨ h
  · have h := (if_neg hc).symm.trans h
    refine ev_iload_n (pc' := 11) rfl rfl rfl ?_
    refine ev_aload_n (pc' := 12) rfl rfl rfl ?_
    refine ev_getQ (pc' := 15) rfl rfl rfl ?_
    refine ev_alen (pc' := 16) rfl rfl (by decide) (v := (6 : Int32)) (by decide) ?_
    refine ev_icmp_ge rfl (pc' := 19) rfl (fun hc => ?_) (fun hc => ?_)
    · have h := (if_pos hc).symm.trans h
      exact e_X1_hasIdle_66 hΨ h
    · have h := (if_neg hc).symm.trans h
      refine ev_iload_n (pc' := 20) rfl rfl rfl ?_
      refine ev_iload_n (pc' := 21) rfl rfl rfl ?_
      refine ev_S2I (pc' := 24) rfl (by decide) rfl mth_113 ⟨Nat.le_of_ble_eq_true rfl, rfl⟩ ⟨Nat.le_refl _, Nat.le_refl _⟩ d_X6_isIn ?_
      refine ev_ifB_ne rfl (pc' := 27) rfl (fun hc => ?_) (fun hc => ?_)
      · have h := (if_pos hc).symm.trans h
        exact e_X1_hasIdle_60 (hr2 := hr2) hΨ h
      · have h := (if_neg hc).symm.trans h
        refine ev_aload_n (pc' := 28) rfl rfl rfl ?_
        refine ev_getQ (pc' := 31) rfl rfl rfl ?_
        refine ev_iload_n (pc' := 32) rfl rfl rfl ?_
        obtain ⟨hi, h⟩ := gdB h
        refine ev_aald (pc' := 33) rfl rfl (by decide) rfl (inR_vp hi) rfl ?_
        refine ev_getL (pc' := 36) rfl rfl ?_
        refine ev_iload_n (pc' := 37) rfl rfl rfl ?_
        refine ev_lushr (pc' := 38) rfl rfl ?_
        refine ev_lconst (pc' := 39) rfl rfl (v := (1 : Int64)) (by decide) ?_
        refine ev_land (pc' := 40) rfl rfl ?_
        refine ev_lconst (pc' := 41) rfl rfl (v := (0 : Int64)) (by decide) ?_
        refine ev_lcmp (pc' := 42) rfl rfl ?_
        refine ev_if_ne rfl (pc' := 45) rfl (fun hc => ?_) (fun hc => ?_)
        · have h := (if_pos hc).symm.trans h
          exact e_X1_hasIdle_60 (hr2 := hr2) hΨ h
        · have h := (if_neg hc).symm.trans h
          refine ev_aload_n (pc' := 46) rfl rfl rfl ?_
          refine ev_getQ (pc' := 49) rfl rfl rfl ?_
          refine ev_iload_n (pc' := 50) rfl rfl rfl ?_
          obtain ⟨hi, h⟩ := gdB h
          refine ev_aald (pc' := 51) rfl rfl (by decide) rfl (inR_vp hi) rfl ?_
          refine ev_iload_n (pc' := 52) rfl rfl rfl ?_
          refine ev_V2I (pc' := 55) rfl (by decide) rfl mth_66 ⟨Nat.le_of_ble_eq_true rfl, rfl⟩ ⟨Nat.le_refl _, Nat.le_refl _⟩ d_X5_isBroken ?_
          refine ev_ifB_ne rfl (pc' := 58) rfl (fun hc => ?_) (fun hc => ?_)
          · have h := (if_pos hc).symm.trans h
            exact e_X1_hasIdle_60 (hr2 := hr2) hΨ h
          · have h := (if_neg hc).symm.trans h
            refine ev_iconst (pc' := 59) rfl rfl (v := (1 : Int32)) (by decide) ?_
            obtain rfl := Option.some.inj h
            exact ev_ireturn rfl ⟨⟨_, rfl, rfl⟩, rfl, rfl, hΨ⟩
def s_X1_hasIdle_R2 (i0 : Nat) (p1 : Int32) (p2 : Int32) : Nat → Int32 → (Nat → Nat → Nat → Int32) → (Nat → Nat → Nat → Int64) → Option (Bool)
  | 0 => fun _ _ _ => none
  | n + 1 => s_X1_hasIdle_2 i0 p1 p2 (s_X1_hasIdle_R2 i0 p1 p2 n)
theorem e_X1_hasIdle_R2 {d : Nat} {Ψ : Option AV → DS → Prop} {i0 : Nat} {p1 : Int32} {p2 : Int32} {r : Bool} {g : Nat → Nat → Nat → Int32} {w : Nat → Nat → Nat → Int64} (hΨ : Ψ (some (aI (bI r))) (L0, g, w, q0)) : ∀ (n : Nat) {v3 : Int32} , s_X1_hasIdle_R2 i0 p1 p2 n v3 g w = some r → Ev (EvM mth (d + 1)) mth c00 sc0 (retP (some .boolean) c00 Ψ) (lkp es_17) 2 [some (aR 1 i0), some (aI p1), some (aI p2), some (aI v3)] [] (L0, g, w, q0) := by
  intro n
  induction n with
  | zero => intros; rename_i h; exact absurd h (by intro h9; cases h9)
  | succ n ih => intros; rename_i h; exact e_X1_hasIdle_2 (hr2 := ih) hΨ h
def s_X1_hasIdle (i0 : Nat) (p1 : Int32) (p2 : Int32) (g : Nat → Nat → Nat → Int32) (w : Nat → Nat → Nat → Int64) : Option (Bool) :=
  s_X1_hasIdle_R2 i0 p1 p2 FU (0 : Int32) g w
set_option maxRecDepth 20000 in
set_option maxHeartbeats 2000000 in
theorem d_X1_hasIdle {d : Nat} {i0 : Nat} {p1 : Int32} {p2 : Int32} {g : Nat → Nat → Nat → Int32} {w : Nat → Nat → Nat → Int64} {r : Bool} (h : s_X1_hasIdle i0 p1 p2 g w = some r) : Does (EvM mth (d + 2)) 17 [aR 1 i0, aI p1, aI p2] (L0, g, w, q0) (some (aI (bI r))) (L0, g, w, q0) := by
  intro Ψ hΨ
  refine ⟨in_17, mth_17, Nat.le_of_ble_eq_true rfl, ?_⟩
  show Ev (EvM mth (d + 1)) mth c00 sc0 (retP (some .boolean) c00 Ψ) (lkp es_17) 0 [some (aR 1 i0), some (aI p1), some (aI p2), none] [] (L0, g, w, q0)
  unfold s_X1_hasIdle at h
  refine ev_iconst (pc' := 1) rfl rfl (v := (0 : Int32)) (by decide) ?_
  refine ev_istore_n (pc' := 2) rfl rfl (l' := [some (aR 1 i0), some (aI p1), some (aI p2), some (aI (0 : Int32))]) rfl ?_
  exact e_X1_hasIdle_R2 hΨ FU h
def s_X1_jobBefore_67 (i0 : Nat) (p1 : Int32) (p2 : Int32) (rec16 : (Option Nat) → Int32 → (Nat → Nat → Nat → Int32) → (Nat → Nat → Nat → Int64) → Option (Option Nat)) (v3 : Option Nat) (v6 : Int32) (g : Nat → Nat → Nat → Int32) (w : Nat → Nat → Nat → Int64) : Option (Option Nat) :=
  rec16 v3 (v6 + 1) g w
set_option maxRecDepth 20000 in
set_option maxHeartbeats 2000000 in
theorem e_X1_jobBefore_67 {d : Nat} {Ψ : Option AV → DS → Prop} {i0 : Nat} {p1 : Int32} {p2 : Int32} {rec16 : (Option Nat) → Int32 → (Nat → Nat → Nat → Int32) → (Nat → Nat → Nat → Int64) → Option (Option Nat)} {r : Option Nat} {g : Nat → Nat → Nat → Int32} {w : Nat → Nat → Nat → Int64} {v3 : Option Nat} {v6 : Int32} {x0 : Option AV} {x7 : Option AV} (hr16 : ∀ {v3 : Option Nat} {v6 : Int32} {x0 : Option AV} {x7 : Option AV} , rec16 v3 v6 g w = some r → Ev (EvM mth (d + 1)) mth c00 sc0 (retP (some (.object "HarbourTugs$Ship")) c00 Ψ) (lkp es_18) 16 [x0, some (aI p1), some (aI p2), some (.inr (Option.map (fun p => (4, p)) v3)), some (aR 4008 i0), some (aI (8 : Int32)), some (aI v6), x7] [] (L0, g, w, q0)) (hΨ : Ψ (some (.inr (Option.map (fun p => (4, p)) r))) (L0, g, w, q0)) (h : s_X1_jobBefore_67 i0 p1 p2 rec16 v3 v6 g w = some r) : Ev (EvM mth (d + 1)) mth c00 sc0 (retP (some (.object "HarbourTugs$Ship")) c00 Ψ) (lkp es_18) 67 [x0, some (aI p1), some (aI p2), some (.inr (Option.map (fun p => (4, p)) v3)), some (aR 4008 i0), some (aI (8 : Int32)), some (aI v6), x7] [] (L0, g, w, q0) := by
  unfold s_X1_jobBefore_67 at h
  refine ev_iinc (pc' := 70) rfl rfl (l' := [x0, some (aI p1), some (aI p2), some (.inr (Option.map (fun p => (4, p)) v3)), some (aR 4008 i0), some (aI (8 : Int32)), some (aI (v6 + 1)), x7]) rfl (ii_1 _) rfl ?_
  refine ev_goto (pc' := 16) rfl ?_
  exact hr16 h
def s_X1_jobBefore_64 (i0 : Nat) (p1 : Int32) (p2 : Int32) (rec16 : (Option Nat) → Int32 → (Nat → Nat → Nat → Int32) → (Nat → Nat → Nat → Int64) → Option (Option Nat)) (v6 : Int32) (v7 : Nat) (g : Nat → Nat → Nat → Int32) (w : Nat → Nat → Nat → Int64) : Option (Option Nat) :=
  s_X1_jobBefore_67 i0 p1 p2 rec16 (some v7) v6 g w
set_option maxRecDepth 20000 in
set_option maxHeartbeats 2000000 in
theorem e_X1_jobBefore_64 {d : Nat} {Ψ : Option AV → DS → Prop} {i0 : Nat} {p1 : Int32} {p2 : Int32} {rec16 : (Option Nat) → Int32 → (Nat → Nat → Nat → Int32) → (Nat → Nat → Nat → Int64) → Option (Option Nat)} {r : Option Nat} {g : Nat → Nat → Nat → Int32} {w : Nat → Nat → Nat → Int64} {v6 : Int32} {v7 : Nat} {x0 : Option AV} {x3 : Option AV} (hr16 : ∀ {v3 : Option Nat} {v6 : Int32} {x0 : Option AV} {x7 : Option AV} , rec16 v3 v6 g w = some r → Ev (EvM mth (d + 1)) mth c00 sc0 (retP (some (.object "HarbourTugs$Ship")) c00 Ψ) (lkp es_18) 16 [x0, some (aI p1), some (aI p2), some (.inr (Option.map (fun p => (4, p)) v3)), some (aR 4008 i0), some (aI (8 : Int32)), some (aI v6), x7] [] (L0, g, w, q0)) (hΨ : Ψ (some (.inr (Option.map (fun p => (4, p)) r))) (L0, g, w, q0)) (h : s_X1_jobBefore_64 i0 p1 p2 rec16 v6 v7 g w = some r) : Ev (EvM mth (d + 1)) mth c00 sc0 (retP (some (.object "HarbourTugs$Ship")) c00 Ψ) (lkp es_18) 64 [x0, some (aI p1), some (aI p2), x3, some (aR 4008 i0), some (aI (8 : Int32)), some (aI v6), some (aR 4 v7)] [] (L0, g, w, q0) := by
  unfold s_X1_jobBefore_64 at h
  refine ev_aload (pc' := 66) rfl rfl rfl ?_
  refine ev_astore_n (pc' := 67) rfl rfl (l' := [x0, some (aI p1), some (aI p2), some (aR 4 v7), some (aR 4008 i0), some (aI (8 : Int32)), some (aI v6), some (aR 4 v7)]) rfl ?_
  exact e_X1_jobBefore_67 (hr16 := hr16) hΨ h
def s_X1_jobBefore_16 (i0 : Nat) (p1 : Int32) (p2 : Int32) (rec16 : (Option Nat) → Int32 → (Nat → Nat → Nat → Int32) → (Nat → Nat → Nat → Int64) → Option (Option Nat)) (v3 : Option Nat) (v6 : Int32) (g : Nat → Nat → Nat → Int32) (w : Nat → Nat → Nat → Int64) : Option (Option Nat) :=
  if (8 : Int32) ≤ v6 then
    some (v3)
  else
    if inR v6 8 = true then
      if (s_X4_hasJobWith (8 * i0 + v6.toNatClampNeg) p1 g w) = true then
        if p2 ≤ (s_X4_lastHour (8 * i0 + v6.toNatClampNeg) g w) then
          s_X1_jobBefore_67 i0 p1 p2 rec16 v3 v6 g w
        else
          match v3 with
          | none =>
            s_X1_jobBefore_64 i0 p1 p2 rec16 v6 (8 * i0 + v6.toNatClampNeg) g w
          | some kv3 =>
            if (g 4 (8 * i0 + v6.toNatClampNeg) 7) ≤ (g 4 kv3 7) then
              s_X1_jobBefore_67 i0 p1 p2 rec16 (some kv3) v6 g w
            else
              s_X1_jobBefore_64 i0 p1 p2 rec16 v6 (8 * i0 + v6.toNatClampNeg) g w
      else
        s_X1_jobBefore_67 i0 p1 p2 rec16 v3 v6 g w
    else none
set_option maxRecDepth 20000 in
set_option maxHeartbeats 2000000 in
theorem e_X1_jobBefore_16 {d : Nat} {Ψ : Option AV → DS → Prop} {i0 : Nat} {p1 : Int32} {p2 : Int32} {rec16 : (Option Nat) → Int32 → (Nat → Nat → Nat → Int32) → (Nat → Nat → Nat → Int64) → Option (Option Nat)} {r : Option Nat} {g : Nat → Nat → Nat → Int32} {w : Nat → Nat → Nat → Int64} {v3 : Option Nat} {v6 : Int32} {x0 : Option AV} {x7 : Option AV} (hr16 : ∀ {v3 : Option Nat} {v6 : Int32} {x0 : Option AV} {x7 : Option AV} , rec16 v3 v6 g w = some r → Ev (EvM mth (d + 1)) mth c00 sc0 (retP (some (.object "HarbourTugs$Ship")) c00 Ψ) (lkp es_18) 16 [x0, some (aI p1), some (aI p2), some (.inr (Option.map (fun p => (4, p)) v3)), some (aR 4008 i0), some (aI (8 : Int32)), some (aI v6), x7] [] (L0, g, w, q0)) (hΨ : Ψ (some (.inr (Option.map (fun p => (4, p)) r))) (L0, g, w, q0)) (h : s_X1_jobBefore_16 i0 p1 p2 rec16 v3 v6 g w = some r) : Ev (EvM mth (d + 1)) mth c00 sc0 (retP (some (.object "HarbourTugs$Ship")) c00 Ψ) (lkp es_18) 16 [x0, some (aI p1), some (aI p2), some (.inr (Option.map (fun p => (4, p)) v3)), some (aR 4008 i0), some (aI (8 : Int32)), some (aI v6), x7] [] (L0, g, w, q0) := by
  unfold s_X1_jobBefore_16 at h
  refine ev_iload (pc' := 18) rfl rfl rfl ?_
  refine ev_iload (pc' := 20) rfl rfl rfl ?_
  refine ev_icmp_ge rfl (pc' := 23) rfl (fun hc => ?_) (fun hc => ?_)
  · have h := (if_pos hc).symm.trans h
    refine ev_aload_n (pc' := 74) rfl rfl rfl ?_
    obtain rfl := Option.some.inj h
    exact ev_areturn rfl ⟨⟨_, rfl⟩, rfl, rfl, hΨ⟩
  · have h := (if_neg hc).symm.trans h
    refine ev_aload (pc' := 25) rfl rfl rfl ?_
    refine ev_iload (pc' := 27) rfl rfl rfl ?_
    obtain ⟨hi, h⟩ := gdB h
    refine ev_aald (pc' := 28) rfl rfl (by decide) rfl (inR_vp hi) rfl ?_
    refine ev_astore (pc' := 30) rfl rfl (l' := [x0, some (aI p1), some (aI p2), some (.inr (Option.map (fun p => (4, p)) v3)), some (aR 4008 i0), some (aI (8 : Int32)), some (aI v6), some (aR 4 (8 * i0 + v6.toNatClampNeg))]) rfl ?_
    refine ev_aload (pc' := 32) rfl rfl rfl ?_
    refine ev_iload_n (pc' := 33) rfl rfl rfl ?_
    refine ev_V2I (pc' := 36) rfl (by decide) rfl mth_56 ⟨Nat.le_of_ble_eq_true rfl, rfl⟩ ⟨Nat.le_refl _, Nat.le_refl _⟩ d_X4_hasJobWith ?_
    refine ev_ifB_eq rfl (pc' := 39) rfl (fun hc => ?_) (fun hc => ?_)
    · have h := (if_neg hc).symm.trans h
      exact e_X1_jobBefore_67 (hr16 := hr16) hΨ h
    · have h := (if_pos hc).symm.trans h
      refine ev_aload (pc' := 41) rfl rfl rfl ?_
      refine ev_V1I (pc' := 44) rfl (by decide) rfl mth_58 ⟨Nat.le_of_ble_eq_true rfl, rfl⟩ ⟨Nat.le_refl _, Nat.le_refl _⟩ d_X4_lastHour ?_
      refine ev_iload_n (pc' := 45) rfl rfl rfl ?_
      refine ev_icmp_ge rfl (pc' := 48) rfl (fun hc => ?_) (fun hc => ?_)
      · have h := (if_pos hc).symm.trans h
        exact e_X1_jobBefore_67 (hr16 := hr16) hΨ h
      · have h := (if_neg hc).symm.trans h
        refine ev_aload_n (pc' := 49) rfl rfl rfl ?_
        cases v3 with
        | none =>
          try dsimp only at h
          refine ev_ifnull_n rfl ?_
          exact e_X1_jobBefore_64 (hr16 := hr16) hΨ h
        | some kv3 =>
          try dsimp only at h
          refine ev_ifnull_s rfl (pc' := 52) rfl ?_
          refine ev_aload (pc' := 54) rfl rfl rfl ?_
          refine ev_getI (pc' := 57) rfl rfl ?_
          refine ev_aload_n (pc' := 58) rfl rfl rfl ?_
          refine ev_getI (pc' := 61) rfl rfl ?_
          refine ev_icmp_le rfl (pc' := 64) rfl (fun hc => ?_) (fun hc => ?_)
          · have h := (if_pos hc).symm.trans h
            exact e_X1_jobBefore_67 (hr16 := hr16) hΨ h
          · have h := (if_neg hc).symm.trans h
            exact e_X1_jobBefore_64 (hr16 := hr16) hΨ h
def s_X1_jobBefore_R16 (i0 : Nat) (p1 : Int32) (p2 : Int32) : Nat → (Option Nat) → Int32 → (Nat → Nat → Nat → Int32) → (Nat → Nat → Nat → Int64) → Option (Option Nat)
  | 0 => fun _ _ _ _ => none
  | n + 1 => s_X1_jobBefore_16 i0 p1 p2 (s_X1_jobBefore_R16 i0 p1 p2 n)
theorem e_X1_jobBefore_R16 {d : Nat} {Ψ : Option AV → DS → Prop} {i0 : Nat} {p1 : Int32} {p2 : Int32} {r : Option Nat} {g : Nat → Nat → Nat → Int32} {w : Nat → Nat → Nat → Int64} (hΨ : Ψ (some (.inr (Option.map (fun p => (4, p)) r))) (L0, g, w, q0)) : ∀ (n : Nat) {v3 : Option Nat} {v6 : Int32} {x0 : Option AV} {x7 : Option AV}, s_X1_jobBefore_R16 i0 p1 p2 n v3 v6 g w = some r → Ev (EvM mth (d + 1)) mth c00 sc0 (retP (some (.object "HarbourTugs$Ship")) c00 Ψ) (lkp es_18) 16 [x0, some (aI p1), some (aI p2), some (.inr (Option.map (fun p => (4, p)) v3)), some (aR 4008 i0), some (aI (8 : Int32)), some (aI v6), x7] [] (L0, g, w, q0) := by
  intro n
  induction n with
  | zero => intros; rename_i h; exact absurd h (by intro h9; cases h9)
  | succ n ih => intros; rename_i h; exact e_X1_jobBefore_16 (hr16 := ih) hΨ h
def s_X1_jobBefore (i0 : Nat) (p1 : Int32) (p2 : Int32) (g : Nat → Nat → Nat → Int32) (w : Nat → Nat → Nat → Int64) : Option (Option Nat) :=
  s_X1_jobBefore_R16 i0 p1 p2 FU none (0 : Int32) g w
set_option maxRecDepth 20000 in
set_option maxHeartbeats 2000000 in
theorem d_X1_jobBefore {d : Nat} {i0 : Nat} {p1 : Int32} {p2 : Int32} {g : Nat → Nat → Nat → Int32} {w : Nat → Nat → Nat → Int64} {r : Option Nat} (h : s_X1_jobBefore i0 p1 p2 g w = some r) : Does (EvM mth (d + 2)) 18 [aR 1 i0, aI p1, aI p2] (L0, g, w, q0) (some (.inr (Option.map (fun p => (4, p)) r))) (L0, g, w, q0) := by
  intro Ψ hΨ
  refine ⟨in_18, mth_18, Nat.le_of_ble_eq_true rfl, ?_⟩
  show Ev (EvM mth (d + 1)) mth c00 sc0 (retP (some (.object "HarbourTugs$Ship")) c00 Ψ) (lkp es_18) 0 [some (aR 1 i0), some (aI p1), some (aI p2), none, none, none, none, none] [] (L0, g, w, q0)
  unfold s_X1_jobBefore at h
  refine ev_null (pc' := 1) rfl rfl ?_
  refine ev_astore_n (pc' := 2) rfl rfl (l' := [some (aR 1 i0), some (aI p1), some (aI p2), some (aN), none, none, none, none]) rfl ?_
  refine ev_aload_n (pc' := 3) rfl rfl rfl ?_
  refine ev_getQ (pc' := 6) rfl rfl rfl ?_
  refine ev_astore (pc' := 8) rfl rfl (l' := [some (aR 1 i0), some (aI p1), some (aI p2), some (aN), some (aR 4008 i0), none, none, none]) rfl ?_
  refine ev_aload (pc' := 10) rfl rfl rfl ?_
  refine ev_alen (pc' := 11) rfl rfl (by decide) (v := (8 : Int32)) (by decide) ?_
  refine ev_istore (pc' := 13) rfl rfl (l' := [some (aR 1 i0), some (aI p1), some (aI p2), some (aN), some (aR 4008 i0), some (aI (8 : Int32)), none, none]) rfl ?_
  refine ev_iconst (pc' := 14) rfl rfl (v := (0 : Int32)) (by decide) ?_
  refine ev_istore (pc' := 16) rfl rfl (l' := [some (aR 1 i0), some (aI p1), some (aI p2), some (aN), some (aR 4008 i0), some (aI (8 : Int32)), some (aI (0 : Int32)), none]) rfl ?_
  exact e_X1_jobBefore_R16 hΨ FU h
def s_X1_jobBehind_67 (i0 : Nat) (p1 : Int32) (p2 : Int32) (rec16 : (Option Nat) → Int32 → (Nat → Nat → Nat → Int32) → (Nat → Nat → Nat → Int64) → Option (Option Nat)) (v3 : Option Nat) (v6 : Int32) (g : Nat → Nat → Nat → Int32) (w : Nat → Nat → Nat → Int64) : Option (Option Nat) :=
  rec16 v3 (v6 + 1) g w
set_option maxRecDepth 20000 in
set_option maxHeartbeats 2000000 in
theorem e_X1_jobBehind_67 {d : Nat} {Ψ : Option AV → DS → Prop} {i0 : Nat} {p1 : Int32} {p2 : Int32} {rec16 : (Option Nat) → Int32 → (Nat → Nat → Nat → Int32) → (Nat → Nat → Nat → Int64) → Option (Option Nat)} {r : Option Nat} {g : Nat → Nat → Nat → Int32} {w : Nat → Nat → Nat → Int64} {v3 : Option Nat} {v6 : Int32} {x0 : Option AV} {x7 : Option AV} (hr16 : ∀ {v3 : Option Nat} {v6 : Int32} {x0 : Option AV} {x7 : Option AV} , rec16 v3 v6 g w = some r → Ev (EvM mth (d + 1)) mth c00 sc0 (retP (some (.object "HarbourTugs$Ship")) c00 Ψ) (lkp es_19) 16 [x0, some (aI p1), some (aI p2), some (.inr (Option.map (fun p => (4, p)) v3)), some (aR 4008 i0), some (aI (8 : Int32)), some (aI v6), x7] [] (L0, g, w, q0)) (hΨ : Ψ (some (.inr (Option.map (fun p => (4, p)) r))) (L0, g, w, q0)) (h : s_X1_jobBehind_67 i0 p1 p2 rec16 v3 v6 g w = some r) : Ev (EvM mth (d + 1)) mth c00 sc0 (retP (some (.object "HarbourTugs$Ship")) c00 Ψ) (lkp es_19) 67 [x0, some (aI p1), some (aI p2), some (.inr (Option.map (fun p => (4, p)) v3)), some (aR 4008 i0), some (aI (8 : Int32)), some (aI v6), x7] [] (L0, g, w, q0) := by
  unfold s_X1_jobBehind_67 at h
  refine ev_iinc (pc' := 70) rfl rfl (l' := [x0, some (aI p1), some (aI p2), some (.inr (Option.map (fun p => (4, p)) v3)), some (aR 4008 i0), some (aI (8 : Int32)), some (aI (v6 + 1)), x7]) rfl (ii_1 _) rfl ?_
  refine ev_goto (pc' := 16) rfl ?_
  exact hr16 h
def s_X1_jobBehind_64 (i0 : Nat) (p1 : Int32) (p2 : Int32) (rec16 : (Option Nat) → Int32 → (Nat → Nat → Nat → Int32) → (Nat → Nat → Nat → Int64) → Option (Option Nat)) (v6 : Int32) (v7 : Nat) (g : Nat → Nat → Nat → Int32) (w : Nat → Nat → Nat → Int64) : Option (Option Nat) :=
  s_X1_jobBehind_67 i0 p1 p2 rec16 (some v7) v6 g w
set_option maxRecDepth 20000 in
set_option maxHeartbeats 2000000 in
theorem e_X1_jobBehind_64 {d : Nat} {Ψ : Option AV → DS → Prop} {i0 : Nat} {p1 : Int32} {p2 : Int32} {rec16 : (Option Nat) → Int32 → (Nat → Nat → Nat → Int32) → (Nat → Nat → Nat → Int64) → Option (Option Nat)} {r : Option Nat} {g : Nat → Nat → Nat → Int32} {w : Nat → Nat → Nat → Int64} {v6 : Int32} {v7 : Nat} {x0 : Option AV} {x3 : Option AV} (hr16 : ∀ {v3 : Option Nat} {v6 : Int32} {x0 : Option AV} {x7 : Option AV} , rec16 v3 v6 g w = some r → Ev (EvM mth (d + 1)) mth c00 sc0 (retP (some (.object "HarbourTugs$Ship")) c00 Ψ) (lkp es_19) 16 [x0, some (aI p1), some (aI p2), some (.inr (Option.map (fun p => (4, p)) v3)), some (aR 4008 i0), some (aI (8 : Int32)), some (aI v6), x7] [] (L0, g, w, q0)) (hΨ : Ψ (some (.inr (Option.map (fun p => (4, p)) r))) (L0, g, w, q0)) (h : s_X1_jobBehind_64 i0 p1 p2 rec16 v6 v7 g w = some r) : Ev (EvM mth (d + 1)) mth c00 sc0 (retP (some (.object "HarbourTugs$Ship")) c00 Ψ) (lkp es_19) 64 [x0, some (aI p1), some (aI p2), x3, some (aR 4008 i0), some (aI (8 : Int32)), some (aI v6), some (aR 4 v7)] [] (L0, g, w, q0) := by
  unfold s_X1_jobBehind_64 at h
  refine ev_aload (pc' := 66) rfl rfl rfl ?_
  refine ev_astore_n (pc' := 67) rfl rfl (l' := [x0, some (aI p1), some (aI p2), some (aR 4 v7), some (aR 4008 i0), some (aI (8 : Int32)), some (aI v6), some (aR 4 v7)]) rfl ?_
  exact e_X1_jobBehind_67 (hr16 := hr16) hΨ h
def s_X1_jobBehind_16 (i0 : Nat) (p1 : Int32) (p2 : Int32) (rec16 : (Option Nat) → Int32 → (Nat → Nat → Nat → Int32) → (Nat → Nat → Nat → Int64) → Option (Option Nat)) (v3 : Option Nat) (v6 : Int32) (g : Nat → Nat → Nat → Int32) (w : Nat → Nat → Nat → Int64) : Option (Option Nat) :=
  if (8 : Int32) ≤ v6 then
    some (v3)
  else
    if inR v6 8 = true then
      if (s_X4_hasJobWith (8 * i0 + v6.toNatClampNeg) p1 g w) = true then
        if (g 4 (8 * i0 + v6.toNatClampNeg) 7) < p2 then
          s_X1_jobBehind_67 i0 p1 p2 rec16 v3 v6 g w
        else
          match v3 with
          | none =>
            s_X1_jobBehind_64 i0 p1 p2 rec16 v6 (8 * i0 + v6.toNatClampNeg) g w
          | some kv3 =>
            if (g 4 kv3 7) ≤ (g 4 (8 * i0 + v6.toNatClampNeg) 7) then
              s_X1_jobBehind_67 i0 p1 p2 rec16 (some kv3) v6 g w
            else
              s_X1_jobBehind_64 i0 p1 p2 rec16 v6 (8 * i0 + v6.toNatClampNeg) g w
      else
        s_X1_jobBehind_67 i0 p1 p2 rec16 v3 v6 g w
    else none
set_option maxRecDepth 20000 in
set_option maxHeartbeats 2000000 in
theorem e_X1_jobBehind_16 {d : Nat} {Ψ : Option AV → DS → Prop} {i0 : Nat} {p1 : Int32} {p2 : Int32} {rec16 : (Option Nat) → Int32 → (Nat → Nat → Nat → Int32) → (Nat → Nat → Nat → Int64) → Option (Option Nat)} {r : Option Nat} {g : Nat → Nat → Nat → Int32} {w : Nat → Nat → Nat → Int64} {v3 : Option Nat} {v6 : Int32} {x0 : Option AV} {x7 : Option AV} (hr16 : ∀ {v3 : Option Nat} {v6 : Int32} {x0 : Option AV} {x7 : Option AV} , rec16 v3 v6 g w = some r → Ev (EvM mth (d + 1)) mth c00 sc0 (retP (some (.object "HarbourTugs$Ship")) c00 Ψ) (lkp es_19) 16 [x0, some (aI p1), some (aI p2), some (.inr (Option.map (fun p => (4, p)) v3)), some (aR 4008 i0), some (aI (8 : Int32)), some (aI v6), x7] [] (L0, g, w, q0)) (hΨ : Ψ (some (.inr (Option.map (fun p => (4, p)) r))) (L0, g, w, q0)) (h : s_X1_jobBehind_16 i0 p1 p2 rec16 v3 v6 g w = some r) : Ev (EvM mth (d + 1)) mth c00 sc0 (retP (some (.object "HarbourTugs$Ship")) c00 Ψ) (lkp es_19) 16 [x0, some (aI p1), some (aI p2), some (.inr (Option.map (fun p => (4, p)) v3)), some (aR 4008 i0), some (aI (8 : Int32)), some (aI v6), x7] [] (L0, g, w, q0) := by
  unfold s_X1_jobBehind_16 at h
  refine ev_iload (pc' := 18) rfl rfl rfl ?_
  refine ev_iload (pc' := 20) rfl rfl rfl ?_
  refine ev_icmp_ge rfl (pc' := 23) rfl (fun hc => ?_) (fun hc => ?_)
  · have h := (if_pos hc).symm.trans h
    refine ev_aload_n (pc' := 74) rfl rfl rfl ?_
    obtain rfl := Option.some.inj h
    exact ev_areturn rfl ⟨⟨_, rfl⟩, rfl, rfl, hΨ⟩
  · have h := (if_neg hc).symm.trans h
    refine ev_aload (pc' := 25) rfl rfl rfl ?_
    refine ev_iload (pc' := 27) rfl rfl rfl ?_
    obtain ⟨hi, h⟩ := gdB h
    refine ev_aald (pc' := 28) rfl rfl (by decide) rfl (inR_vp hi) rfl ?_
    refine ev_astore (pc' := 30) rfl rfl (l' := [x0, some (aI p1), some (aI p2), some (.inr (Option.map (fun p => (4, p)) v3)), some (aR 4008 i0), some (aI (8 : Int32)), some (aI v6), some (aR 4 (8 * i0 + v6.toNatClampNeg))]) rfl ?_
    refine ev_aload (pc' := 32) rfl rfl rfl ?_
    refine ev_iload_n (pc' := 33) rfl rfl rfl ?_
    refine ev_V2I (pc' := 36) rfl (by decide) rfl mth_56 ⟨Nat.le_of_ble_eq_true rfl, rfl⟩ ⟨Nat.le_refl _, Nat.le_refl _⟩ d_X4_hasJobWith ?_
    refine ev_ifB_eq rfl (pc' := 39) rfl (fun hc => ?_) (fun hc => ?_)
    · have h := (if_neg hc).symm.trans h
      exact e_X1_jobBehind_67 (hr16 := hr16) hΨ h
    · have h := (if_pos hc).symm.trans h
      refine ev_aload (pc' := 41) rfl rfl rfl ?_
      refine ev_getI (pc' := 44) rfl rfl ?_
      refine ev_iload_n (pc' := 45) rfl rfl rfl ?_
      refine ev_icmp_lt rfl (pc' := 48) rfl (fun hc => ?_) (fun hc => ?_)
      · have h := (if_pos hc).symm.trans h
        exact e_X1_jobBehind_67 (hr16 := hr16) hΨ h
      · have h := (if_neg hc).symm.trans h
        refine ev_aload_n (pc' := 49) rfl rfl rfl ?_
        cases v3 with
        | none =>
          try dsimp only at h
          refine ev_ifnull_n rfl ?_
          exact e_X1_jobBehind_64 (hr16 := hr16) hΨ h
        | some kv3 =>
          try dsimp only at h
          refine ev_ifnull_s rfl (pc' := 52) rfl ?_
          refine ev_aload (pc' := 54) rfl rfl rfl ?_
          refine ev_getI (pc' := 57) rfl rfl ?_
          refine ev_aload_n (pc' := 58) rfl rfl rfl ?_
          refine ev_getI (pc' := 61) rfl rfl ?_
          refine ev_icmp_ge rfl (pc' := 64) rfl (fun hc => ?_) (fun hc => ?_)
          · have h := (if_pos hc).symm.trans h
            exact e_X1_jobBehind_67 (hr16 := hr16) hΨ h
          · have h := (if_neg hc).symm.trans h
            exact e_X1_jobBehind_64 (hr16 := hr16) hΨ h
def s_X1_jobBehind_R16 (i0 : Nat) (p1 : Int32) (p2 : Int32) : Nat → (Option Nat) → Int32 → (Nat → Nat → Nat → Int32) → (Nat → Nat → Nat → Int64) → Option (Option Nat)
  | 0 => fun _ _ _ _ => none
  | n + 1 => s_X1_jobBehind_16 i0 p1 p2 (s_X1_jobBehind_R16 i0 p1 p2 n)
theorem e_X1_jobBehind_R16 {d : Nat} {Ψ : Option AV → DS → Prop} {i0 : Nat} {p1 : Int32} {p2 : Int32} {r : Option Nat} {g : Nat → Nat → Nat → Int32} {w : Nat → Nat → Nat → Int64} (hΨ : Ψ (some (.inr (Option.map (fun p => (4, p)) r))) (L0, g, w, q0)) : ∀ (n : Nat) {v3 : Option Nat} {v6 : Int32} {x0 : Option AV} {x7 : Option AV}, s_X1_jobBehind_R16 i0 p1 p2 n v3 v6 g w = some r → Ev (EvM mth (d + 1)) mth c00 sc0 (retP (some (.object "HarbourTugs$Ship")) c00 Ψ) (lkp es_19) 16 [x0, some (aI p1), some (aI p2), some (.inr (Option.map (fun p => (4, p)) v3)), some (aR 4008 i0), some (aI (8 : Int32)), some (aI v6), x7] [] (L0, g, w, q0) := by
  intro n
  induction n with
  | zero => intros; rename_i h; exact absurd h (by intro h9; cases h9)
  | succ n ih => intros; rename_i h; exact e_X1_jobBehind_16 (hr16 := ih) hΨ h
def s_X1_jobBehind (i0 : Nat) (p1 : Int32) (p2 : Int32) (g : Nat → Nat → Nat → Int32) (w : Nat → Nat → Nat → Int64) : Option (Option Nat) :=
  s_X1_jobBehind_R16 i0 p1 p2 FU none (0 : Int32) g w
set_option maxRecDepth 20000 in
set_option maxHeartbeats 2000000 in
theorem d_X1_jobBehind {d : Nat} {i0 : Nat} {p1 : Int32} {p2 : Int32} {g : Nat → Nat → Nat → Int32} {w : Nat → Nat → Nat → Int64} {r : Option Nat} (h : s_X1_jobBehind i0 p1 p2 g w = some r) : Does (EvM mth (d + 2)) 19 [aR 1 i0, aI p1, aI p2] (L0, g, w, q0) (some (.inr (Option.map (fun p => (4, p)) r))) (L0, g, w, q0) := by
  intro Ψ hΨ
  refine ⟨in_19, mth_19, Nat.le_of_ble_eq_true rfl, ?_⟩
  show Ev (EvM mth (d + 1)) mth c00 sc0 (retP (some (.object "HarbourTugs$Ship")) c00 Ψ) (lkp es_19) 0 [some (aR 1 i0), some (aI p1), some (aI p2), none, none, none, none, none] [] (L0, g, w, q0)
  unfold s_X1_jobBehind at h
  refine ev_null (pc' := 1) rfl rfl ?_
  refine ev_astore_n (pc' := 2) rfl rfl (l' := [some (aR 1 i0), some (aI p1), some (aI p2), some (aN), none, none, none, none]) rfl ?_
  refine ev_aload_n (pc' := 3) rfl rfl rfl ?_
  refine ev_getQ (pc' := 6) rfl rfl rfl ?_
  refine ev_astore (pc' := 8) rfl rfl (l' := [some (aR 1 i0), some (aI p1), some (aI p2), some (aN), some (aR 4008 i0), none, none, none]) rfl ?_
  refine ev_aload (pc' := 10) rfl rfl rfl ?_
  refine ev_alen (pc' := 11) rfl rfl (by decide) (v := (8 : Int32)) (by decide) ?_
  refine ev_istore (pc' := 13) rfl rfl (l' := [some (aR 1 i0), some (aI p1), some (aI p2), some (aN), some (aR 4008 i0), some (aI (8 : Int32)), none, none]) rfl ?_
  refine ev_iconst (pc' := 14) rfl rfl (v := (0 : Int32)) (by decide) ?_
  refine ev_istore (pc' := 16) rfl rfl (l' := [some (aR 1 i0), some (aI p1), some (aI p2), some (aN), some (aR 4008 i0), some (aI (8 : Int32)), some (aI (0 : Int32)), none]) rfl ?_
  exact e_X1_jobBehind_R16 hΨ FU h
def s_X1_clearPlan_42 (i0 : Nat) (rec42 : Int32 → (Nat → Nat → Nat → Int32) → (Nat → Nat → Nat → Int64) → Option (GS)) (v3 : Int32) (g : Nat → Nat → Nat → Int32) (w : Nat → Nat → Nat → Int64) : Option (GS) :=
  if (8 : Int32) ≤ v3 then
    some ((g, w))
  else
    if inR v3 8 = true then
      rec42 (v3 + 1) (s_X4_dropJob (8 * i0 + v3.toNatClampNeg) g w).1 (s_X4_dropJob (8 * i0 + v3.toNatClampNeg) g w).2
    else none
set_option maxRecDepth 20000 in
set_option maxHeartbeats 2000000 in
theorem e_X1_clearPlan_42 {d : Nat} {Ψ : Option AV → DS → Prop} {i0 : Nat} {rec42 : Int32 → (Nat → Nat → Nat → Int32) → (Nat → Nat → Nat → Int64) → Option (GS)} {r : GS} {g : Nat → Nat → Nat → Int32} {w : Nat → Nat → Nat → Int64} {v3 : Int32} {x0 : Option AV} {x4 : Option AV} (hr42 : ∀ {v3 : Int32} {x0 : Option AV} {x4 : Option AV} {g : Nat → Nat → Nat → Int32} {w : Nat → Nat → Nat → Int64} , rec42 v3 g w = some r → Ev (EvM mth (d + 1)) mth c00 sc0 (retP (none) c00 Ψ) (lkp es_34) 42 [x0, some (aR 4008 i0), some (aI (8 : Int32)), some (aI v3), x4] [] (L0, g, w, q0)) (hΨ : Ψ none (L0, r.1, r.2, q0)) (h : s_X1_clearPlan_42 i0 rec42 v3 g w = some r) : Ev (EvM mth (d + 1)) mth c00 sc0 (retP (none) c00 Ψ) (lkp es_34) 42 [x0, some (aR 4008 i0), some (aI (8 : Int32)), some (aI v3), x4] [] (L0, g, w, q0) := by
  unfold s_X1_clearPlan_42 at h
  refine ev_iload_n (pc' := 43) rfl rfl rfl ?_
  refine ev_iload_n (pc' := 44) rfl rfl rfl ?_
  refine ev_icmp_ge rfl (pc' := 47) rfl (fun hc => ?_) (fun hc => ?_)
  · have h := (if_pos hc).symm.trans h
    obtain rfl := Option.some.inj h
    exact ev_return rfl ⟨rfl, rfl, rfl, hΨ⟩
  · have h := (if_neg hc).symm.trans h
    refine ev_aload_n (pc' := 48) rfl rfl rfl ?_
    refine ev_iload_n (pc' := 49) rfl rfl rfl ?_
    obtain ⟨hi, h⟩ := gdB h
    refine ev_aald (pc' := 50) rfl rfl (by decide) rfl (inR_vp hi) rfl ?_
    refine ev_astore (pc' := 52) rfl rfl (l' := [x0, some (aR 4008 i0), some (aI (8 : Int32)), some (aI v3), some (aR 4 (8 * i0 + v3.toNatClampNeg))]) rfl ?_
    refine ev_aload (pc' := 54) rfl rfl rfl ?_
    refine ev_V1V (pc' := 57) rfl (by decide) rfl mth_57 ⟨Nat.le_of_ble_eq_true rfl, rfl⟩ ⟨Nat.le_refl _, Nat.le_refl _⟩ d_X4_dropJob ?_
    refine ev_iinc (pc' := 60) rfl rfl (l' := [x0, some (aR 4008 i0), some (aI (8 : Int32)), some (aI (v3 + 1)), some (aR 4 (8 * i0 + v3.toNatClampNeg))]) rfl (ii_1 _) rfl ?_
    refine ev_goto (pc' := 42) rfl ?_
    exact hr42 h
def s_X1_clearPlan_R42 (i0 : Nat) : Nat → Int32 → (Nat → Nat → Nat → Int32) → (Nat → Nat → Nat → Int64) → Option (GS)
  | 0 => fun _ _ _ => none
  | n + 1 => s_X1_clearPlan_42 i0 (s_X1_clearPlan_R42 i0 n)
theorem e_X1_clearPlan_R42 {d : Nat} {Ψ : Option AV → DS → Prop} {i0 : Nat} {r : GS} (hΨ : Ψ none (L0, r.1, r.2, q0)) : ∀ (n : Nat) {v3 : Int32} {x0 : Option AV} {x4 : Option AV} {g : Nat → Nat → Nat → Int32} {w : Nat → Nat → Nat → Int64}, s_X1_clearPlan_R42 i0 n v3 g w = some r → Ev (EvM mth (d + 1)) mth c00 sc0 (retP (none) c00 Ψ) (lkp es_34) 42 [x0, some (aR 4008 i0), some (aI (8 : Int32)), some (aI v3), x4] [] (L0, g, w, q0) := by
  intro n
  induction n with
  | zero => intros; rename_i h; exact absurd h (by intro h9; cases h9)
  | succ n ih => intros; rename_i h; exact e_X1_clearPlan_42 (hr42 := ih) hΨ h
def s_X1_clearPlan_10 (i0 : Nat) (rec10 : Int32 → (Nat → Nat → Nat → Int32) → (Nat → Nat → Nat → Int64) → Option (GS)) (v3 : Int32) (g : Nat → Nat → Nat → Int32) (w : Nat → Nat → Nat → Int64) : Option (GS) :=
  if (6 : Int32) ≤ v3 then
    s_X1_clearPlan_R42 i0 FU (0 : Int32) g w
  else
    if inR v3 6 = true then
      rec10 (v3 + 1) g (wL w 5 (6 * i0 + v3.toNatClampNeg) 8 (0 : Int64))
    else none
set_option maxRecDepth 20000 in
set_option maxHeartbeats 2000000 in
theorem e_X1_clearPlan_10 {d : Nat} {Ψ : Option AV → DS → Prop} {i0 : Nat} {rec10 : Int32 → (Nat → Nat → Nat → Int32) → (Nat → Nat → Nat → Int64) → Option (GS)} {r : GS} {g : Nat → Nat → Nat → Int32} {w : Nat → Nat → Nat → Int64} {v3 : Int32} {x4 : Option AV} (hr10 : ∀ {v3 : Int32} {x4 : Option AV} {g : Nat → Nat → Nat → Int32} {w : Nat → Nat → Nat → Int64} , rec10 v3 g w = some r → Ev (EvM mth (d + 1)) mth c00 sc0 (retP (none) c00 Ψ) (lkp es_34) 10 [some (aR 1 i0), some (aR 5006 i0), some (aI (6 : Int32)), some (aI v3), x4] [] (L0, g, w, q0)) (hΨ : Ψ none (L0, r.1, r.2, q0)) (h : s_X1_clearPlan_10 i0 rec10 v3 g w = some r) : Ev (EvM mth (d + 1)) mth c00 sc0 (retP (none) c00 Ψ) (lkp es_34) 10 [some (aR 1 i0), some (aR 5006 i0), some (aI (6 : Int32)), some (aI v3), x4] [] (L0, g, w, q0) := by
  unfold s_X1_clearPlan_10 at h
  refine ev_iload_n (pc' := 11) rfl rfl rfl ?_
  refine ev_iload_n (pc' := 12) rfl rfl rfl ?_
  refine ev_icmp_ge rfl (pc' := 15) rfl (fun hc => ?_) (fun hc => ?_)
  · have h := (if_pos hc).symm.trans h
    refine ev_aload_n (pc' := 33) rfl rfl rfl ?_
    refine ev_getQ (pc' := 36) rfl rfl rfl ?_
    refine ev_astore_n (pc' := 37) rfl rfl (l' := [some (aR 1 i0), some (aR 4008 i0), some (aI (6 : Int32)), some (aI v3), x4]) rfl ?_
    refine ev_aload_n (pc' := 38) rfl rfl rfl ?_
    refine ev_alen (pc' := 39) rfl rfl (by decide) (v := (8 : Int32)) (by decide) ?_
    refine ev_istore_n (pc' := 40) rfl rfl (l' := [some (aR 1 i0), some (aR 4008 i0), some (aI (8 : Int32)), some (aI v3), x4]) rfl ?_
    refine ev_iconst (pc' := 41) rfl rfl (v := (0 : Int32)) (by decide) ?_
    refine ev_istore_n (pc' := 42) rfl rfl (l' := [some (aR 1 i0), some (aR 4008 i0), some (aI (8 : Int32)), some (aI (0 : Int32)), x4]) rfl ?_
    exact e_X1_clearPlan_R42 hΨ FU h
  · have h := (if_neg hc).symm.trans h
    refine ev_aload_n (pc' := 16) rfl rfl rfl ?_
    refine ev_iload_n (pc' := 17) rfl rfl rfl ?_
    obtain ⟨hi, h⟩ := gdB h
    refine ev_aald (pc' := 18) rfl rfl (by decide) rfl (inR_vp hi) rfl ?_
    refine ev_astore (pc' := 20) rfl rfl (l' := [some (aR 1 i0), some (aR 5006 i0), some (aI (6 : Int32)), some (aI v3), some (aR 5 (6 * i0 + v3.toNatClampNeg))]) rfl ?_
    refine ev_aload (pc' := 22) rfl rfl rfl ?_
    refine ev_lconst (pc' := 23) rfl rfl (v := (0 : Int64)) (by decide) ?_
    refine ev_putL (pc' := 26) rfl rfl ?_
    refine ev_iinc (pc' := 29) rfl rfl (l' := [some (aR 1 i0), some (aR 5006 i0), some (aI (6 : Int32)), some (aI (v3 + 1)), some (aR 5 (6 * i0 + v3.toNatClampNeg))]) rfl (ii_1 _) rfl ?_
    refine ev_goto (pc' := 10) rfl ?_
    exact hr10 h
def s_X1_clearPlan_R10 (i0 : Nat) : Nat → Int32 → (Nat → Nat → Nat → Int32) → (Nat → Nat → Nat → Int64) → Option (GS)
  | 0 => fun _ _ _ => none
  | n + 1 => s_X1_clearPlan_10 i0 (s_X1_clearPlan_R10 i0 n)
theorem e_X1_clearPlan_R10 {d : Nat} {Ψ : Option AV → DS → Prop} {i0 : Nat} {r : GS} (hΨ : Ψ none (L0, r.1, r.2, q0)) : ∀ (n : Nat) {v3 : Int32} {x4 : Option AV} {g : Nat → Nat → Nat → Int32} {w : Nat → Nat → Nat → Int64}, s_X1_clearPlan_R10 i0 n v3 g w = some r → Ev (EvM mth (d + 1)) mth c00 sc0 (retP (none) c00 Ψ) (lkp es_34) 10 [some (aR 1 i0), some (aR 5006 i0), some (aI (6 : Int32)), some (aI v3), x4] [] (L0, g, w, q0) := by
  intro n
  induction n with
  | zero => intros; rename_i h; exact absurd h (by intro h9; cases h9)
  | succ n ih => intros; rename_i h; exact e_X1_clearPlan_10 (hr10 := ih) hΨ h
def s_X1_clearPlan (i0 : Nat) (g : Nat → Nat → Nat → Int32) (w : Nat → Nat → Nat → Int64) : Option (GS) :=
  s_X1_clearPlan_R10 i0 FU (0 : Int32) g w
set_option maxRecDepth 20000 in
set_option maxHeartbeats 2000000 in
theorem d_X1_clearPlan {d : Nat} {i0 : Nat} {g : Nat → Nat → Nat → Int32} {w : Nat → Nat → Nat → Int64} {r : GS} (h : s_X1_clearPlan i0 g w = some r) : Does (EvM mth (d + 2)) 34 [aR 1 i0] (L0, g, w, q0) none (L0, r.1, r.2, q0) := by
  intro Ψ hΨ
  refine ⟨in_34, mth_34, Nat.le_of_ble_eq_true rfl, ?_⟩
  show Ev (EvM mth (d + 1)) mth c00 sc0 (retP (none) c00 Ψ) (lkp es_34) 0 [some (aR 1 i0), none, none, none, none] [] (L0, g, w, q0)
  unfold s_X1_clearPlan at h
  refine ev_aload_n (pc' := 1) rfl rfl rfl ?_
  refine ev_getQ (pc' := 4) rfl rfl rfl ?_
  refine ev_astore_n (pc' := 5) rfl rfl (l' := [some (aR 1 i0), some (aR 5006 i0), none, none, none]) rfl ?_
  refine ev_aload_n (pc' := 6) rfl rfl rfl ?_
  refine ev_alen (pc' := 7) rfl rfl (by decide) (v := (6 : Int32)) (by decide) ?_
  refine ev_istore_n (pc' := 8) rfl rfl (l' := [some (aR 1 i0), some (aR 5006 i0), some (aI (6 : Int32)), none, none]) rfl ?_
  refine ev_iconst (pc' := 9) rfl rfl (v := (0 : Int32)) (by decide) ?_
  refine ev_istore_n (pc' := 10) rfl rfl (l' := [some (aR 1 i0), some (aR 5006 i0), some (aI (6 : Int32)), some (aI (0 : Int32)), none]) rfl ?_
  exact e_X1_clearPlan_R10 hΨ FU h
def s_X2_nextOrder_106 (i0 : Nat) (p1 : Int32) (rec106 : Int32 → Int32 → (Nat → Nat → Nat → Int32) → (Nat → Nat → Nat → Int64) → Option (Bool × GS)) (v5 : Int32) (v6 : Int32) (g : Nat → Nat → Nat → Int32) (w : Nat → Nat → Nat → Int64) : Option (Bool × GS) :=
  if v6 ≤ v5 then
    some ((true, g, w))
  else
    (s_X2_exchange i0 v5 v6 g w).bind fun q1 =>
    rec106 (v5 + 1) (v6 + (-1)) q1.1 q1.2
set_option maxRecDepth 20000 in
set_option maxHeartbeats 2000000 in
theorem e_X2_nextOrder_106 {d : Nat} {Ψ : Option AV → DS → Prop} {i0 : Nat} {p1 : Int32} {rec106 : Int32 → Int32 → (Nat → Nat → Nat → Int32) → (Nat → Nat → Nat → Int64) → Option (Bool × GS)} {r : Bool × GS} {g : Nat → Nat → Nat → Int32} {w : Nat → Nat → Nat → Int64} {v5 : Int32} {v6 : Int32} {x1 : Option AV} {x2 : Option AV} {x3 : Option AV} {x4 : Option AV} (hr106 : ∀ {v5 : Int32} {v6 : Int32} {x1 : Option AV} {x2 : Option AV} {x3 : Option AV} {x4 : Option AV} {g : Nat → Nat → Nat → Int32} {w : Nat → Nat → Nat → Int64} , rec106 v5 v6 g w = some r → Ev (EvM mth (d + 1)) mth c00 sc0 (retP (some .boolean) c00 Ψ) (lkp es_43) 106 [some (aR 2 i0), x1, x2, x3, x4, some (aI v5), some (aI v6)] [] (L0, g, w, q0)) (hΨ : Ψ (some (aI (bI r.1))) (L0, r.2.1, r.2.2, q0)) (h : s_X2_nextOrder_106 i0 p1 rec106 v5 v6 g w = some r) : Ev (EvM mth (d + 1)) mth c00 sc0 (retP (some .boolean) c00 Ψ) (lkp es_43) 106 [some (aR 2 i0), x1, x2, x3, x4, some (aI v5), some (aI v6)] [] (L0, g, w, q0) := by
  unfold s_X2_nextOrder_106 at h
  refine ev_iload (pc' := 108) rfl rfl rfl ?_
  refine ev_iload (pc' := 110) rfl rfl rfl ?_
  refine ev_icmp_ge rfl (pc' := 113) rfl (fun hc => ?_) (fun hc => ?_)
  · have h := (if_pos hc).symm.trans h
    refine ev_iconst (pc' := 131) rfl rfl (v := (1 : Int32)) (by decide) ?_
    obtain rfl := Option.some.inj h
    exact ev_ireturn rfl ⟨⟨_, rfl, rfl⟩, rfl, rfl, hΨ⟩
  · have h := (if_neg hc).symm.trans h
    refine ev_aload_n (pc' := 114) rfl rfl rfl ?_
    refine ev_iload (pc' := 116) rfl rfl rfl ?_
    refine ev_iload (pc' := 118) rfl rfl rfl ?_
    obtain ⟨q1, hq1, h⟩ := Option.bind_eq_some_iff.mp h
    refine ev_V3V (pc' := 121) rfl (by decide) rfl mth_44 ⟨Nat.le_of_ble_eq_true rfl, rfl⟩ ⟨Nat.le_refl _, Nat.le_refl _⟩ (d_X2_exchange hq1) ?_
    refine ev_iinc (pc' := 124) rfl rfl (l' := [some (aR 2 i0), x1, x2, x3, (klO x4), some (aI (v5 + 1)), some (aI v6)]) rfl (ii_1 _) rfl ?_
    refine ev_iinc (pc' := 127) rfl rfl (l' := [some (aR 2 i0), x1, x2, x3, (klO x4), some (aI (v5 + 1)), some (aI (v6 + (-1)))]) rfl (ii_m1 _) rfl ?_
    refine ev_goto (pc' := 106) rfl ?_
    exact hr106 h
def s_X2_nextOrder_R106 (i0 : Nat) (p1 : Int32) : Nat → Int32 → Int32 → (Nat → Nat → Nat → Int32) → (Nat → Nat → Nat → Int64) → Option (Bool × GS)
  | 0 => fun _ _ _ _ => none
  | n + 1 => s_X2_nextOrder_106 i0 p1 (s_X2_nextOrder_R106 i0 p1 n)
theorem e_X2_nextOrder_R106 {d : Nat} {Ψ : Option AV → DS → Prop} {i0 : Nat} {p1 : Int32} {r : Bool × GS} (hΨ : Ψ (some (aI (bI r.1))) (L0, r.2.1, r.2.2, q0)) : ∀ (n : Nat) {v5 : Int32} {v6 : Int32} {x1 : Option AV} {x2 : Option AV} {x3 : Option AV} {x4 : Option AV} {g : Nat → Nat → Nat → Int32} {w : Nat → Nat → Nat → Int64}, s_X2_nextOrder_R106 i0 p1 n v5 v6 g w = some r → Ev (EvM mth (d + 1)) mth c00 sc0 (retP (some .boolean) c00 Ψ) (lkp es_43) 106 [some (aR 2 i0), x1, x2, x3, x4, some (aI v5), some (aI v6)] [] (L0, g, w, q0) := by
  intro n
  induction n with
  | zero => intros; rename_i h; exact absurd h (by intro h9; cases h9)
  | succ n ih => intros; rename_i h; exact e_X2_nextOrder_106 (hr106 := ih) hΨ h
def s_X2_nextOrder_91 (i0 : Nat) (p1 : Int32) (v2 : Int32) (v3 : Int32) (v4 : Int32) (g : Nat → Nat → Nat → Int32) (w : Nat → Nat → Nat → Int64) : Option (Bool × GS) :=
  (s_X2_exchange i0 v3 v4 g w).bind fun q1 =>
  s_X2_nextOrder_R106 i0 p1 FU (v3 + (1 : Int32)) v2 q1.1 q1.2
set_option maxRecDepth 20000 in
set_option maxHeartbeats 2000000 in
theorem e_X2_nextOrder_91 {d : Nat} {Ψ : Option AV → DS → Prop} {i0 : Nat} {p1 : Int32} {r : Bool × GS} {g : Nat → Nat → Nat → Int32} {w : Nat → Nat → Nat → Int64} {v2 : Int32} {v3 : Int32} {v4 : Int32} {x1 : Option AV} {x5 : Option AV} {x6 : Option AV} (hΨ : Ψ (some (aI (bI r.1))) (L0, r.2.1, r.2.2, q0)) (h : s_X2_nextOrder_91 i0 p1 v2 v3 v4 g w = some r) : Ev (EvM mth (d + 1)) mth c00 sc0 (retP (some .boolean) c00 Ψ) (lkp es_43) 91 [some (aR 2 i0), x1, some (aI v2), some (aI v3), some (aI v4), x5, x6] [] (L0, g, w, q0) := by
  unfold s_X2_nextOrder_91 at h
  refine ev_aload_n (pc' := 92) rfl rfl rfl ?_
  refine ev_iload_n (pc' := 93) rfl rfl rfl ?_
  refine ev_iload (pc' := 95) rfl rfl rfl ?_
  obtain ⟨q1, hq1, h⟩ := Option.bind_eq_some_iff.mp h
  refine ev_V3V (pc' := 98) rfl (by decide) rfl mth_44 ⟨Nat.le_of_ble_eq_true rfl, rfl⟩ ⟨Nat.le_refl _, Nat.le_refl _⟩ (d_X2_exchange hq1) ?_
  refine ev_iload_n (pc' := 99) rfl rfl rfl ?_
  refine ev_iconst (pc' := 100) rfl rfl (v := (1 : Int32)) (by decide) ?_
  refine ev_iadd (pc' := 101) rfl rfl ?_
  refine ev_istore (pc' := 103) rfl rfl (l' := [some (aR 2 i0), x1, some (aI v2), some (aI v3), some (aI v4), some (aI (v3 + (1 : Int32))), x6]) rfl ?_
  refine ev_iload_n (pc' := 104) rfl rfl rfl ?_
  refine ev_istore (pc' := 106) rfl rfl (l' := [some (aR 2 i0), x1, some (aI v2), some (aI v3), some (aI v4), some (aI (v3 + (1 : Int32))), some (aI v2)]) rfl ?_
  exact e_X2_nextOrder_R106 hΨ FU h
def s_X2_nextOrder_61 (i0 : Nat) (p1 : Int32) (rec61 : Int32 → Int32 → Int32 → (Nat → Nat → Nat → Int32) → (Nat → Nat → Nat → Int64) → Option (Bool × GS)) (v2 : Int32) (v3 : Int32) (v4 : Int32) (g : Nat → Nat → Nat → Int32) (w : Nat → Nat → Nat → Int64) : Option (Bool × GS) :=
  if v4 ≤ (v3 + (1 : Int32)) then
    s_X2_nextOrder_91 i0 p1 v2 v3 v4 g w
  else
    if inR v4 4 = true then
      if inR v3 4 = true then
        if (g 1004 1 v3.toNatClampNeg) ≤ (g 1004 1 v4.toNatClampNeg) then
          s_X2_nextOrder_91 i0 p1 v2 v3 v4 g w
        else
          rec61 v2 v3 (v4 + (-1)) g w
      else none
    else none
set_option maxRecDepth 20000 in
set_option maxHeartbeats 2000000 in
theorem e_X2_nextOrder_61 {d : Nat} {Ψ : Option AV → DS → Prop} {i0 : Nat} {p1 : Int32} {rec61 : Int32 → Int32 → Int32 → (Nat → Nat → Nat → Int32) → (Nat → Nat → Nat → Int64) → Option (Bool × GS)} {r : Bool × GS} {g : Nat → Nat → Nat → Int32} {w : Nat → Nat → Nat → Int64} {v2 : Int32} {v3 : Int32} {v4 : Int32} {x1 : Option AV} {x5 : Option AV} {x6 : Option AV} (hr61 : ∀ {v2 : Int32} {v3 : Int32} {v4 : Int32} {x1 : Option AV} {x5 : Option AV} {x6 : Option AV} {g : Nat → Nat → Nat → Int32} {w : Nat → Nat → Nat → Int64} , rec61 v2 v3 v4 g w = some r → Ev (EvM mth (d + 1)) mth c00 sc0 (retP (some .boolean) c00 Ψ) (lkp es_43) 61 [some (aR 2 i0), x1, some (aI v2), some (aI v3), some (aI v4), x5, x6] [] (L0, g, w, q0)) (hΨ : Ψ (some (aI (bI r.1))) (L0, r.2.1, r.2.2, q0)) (h : s_X2_nextOrder_61 i0 p1 rec61 v2 v3 v4 g w = some r) : Ev (EvM mth (d + 1)) mth c00 sc0 (retP (some .boolean) c00 Ψ) (lkp es_43) 61 [some (aR 2 i0), x1, some (aI v2), some (aI v3), some (aI v4), x5, x6] [] (L0, g, w, q0) := by
  unfold s_X2_nextOrder_61 at h
  refine ev_iload (pc' := 63) rfl rfl rfl ?_
  refine ev_iload_n (pc' := 64) rfl rfl rfl ?_
  refine ev_iconst (pc' := 65) rfl rfl (v := (1 : Int32)) (by decide) ?_
  refine ev_iadd (pc' := 66) rfl rfl ?_
  refine ev_icmp_le rfl (pc' := 69) rfl (fun hc => ?_) (fun hc => ?_)
  · have h := (if_pos hc).symm.trans h
    exact e_X2_nextOrder_91 hΨ h
  · have h := (if_neg hc).symm.trans h
    refine ev_aload_n (pc' := 70) rfl rfl rfl ?_
    refine ev_getQ (pc' := 73) rfl rfl rfl ?_
    refine ev_iload (pc' := 75) rfl rfl rfl ?_
    obtain ⟨hi, h⟩ := gdB h
    refine ev_iald (pc' := 76) rfl rfl rfl (inR_vp hi) ?_
    refine ev_aload_n (pc' := 77) rfl rfl rfl ?_
    refine ev_getQ (pc' := 80) rfl rfl rfl ?_
    refine ev_iload_n (pc' := 81) rfl rfl rfl ?_
    obtain ⟨hi, h⟩ := gdB h
    refine ev_iald (pc' := 82) rfl rfl rfl (inR_vp hi) ?_
    refine ev_icmp_ge rfl (pc' := 85) rfl (fun hc => ?_) (fun hc => ?_)
    · have h := (if_pos hc).symm.trans h
      exact e_X2_nextOrder_91 hΨ h
    · have h := (if_neg hc).symm.trans h
      refine ev_iinc (pc' := 88) rfl rfl (l' := [some (aR 2 i0), x1, some (aI v2), some (aI v3), some (aI (v4 + (-1))), x5, x6]) rfl (ii_m1 _) rfl ?_
      refine ev_goto (pc' := 61) rfl ?_
      exact hr61 h
def s_X2_nextOrder_R61 (i0 : Nat) (p1 : Int32) : Nat → Int32 → Int32 → Int32 → (Nat → Nat → Nat → Int32) → (Nat → Nat → Nat → Int64) → Option (Bool × GS)
  | 0 => fun _ _ _ _ _ => none
  | n + 1 => s_X2_nextOrder_61 i0 p1 (s_X2_nextOrder_R61 i0 p1 n)
theorem e_X2_nextOrder_R61 {d : Nat} {Ψ : Option AV → DS → Prop} {i0 : Nat} {p1 : Int32} {r : Bool × GS} (hΨ : Ψ (some (aI (bI r.1))) (L0, r.2.1, r.2.2, q0)) : ∀ (n : Nat) {v2 : Int32} {v3 : Int32} {v4 : Int32} {x1 : Option AV} {x5 : Option AV} {x6 : Option AV} {g : Nat → Nat → Nat → Int32} {w : Nat → Nat → Nat → Int64}, s_X2_nextOrder_R61 i0 p1 n v2 v3 v4 g w = some r → Ev (EvM mth (d + 1)) mth c00 sc0 (retP (some .boolean) c00 Ψ) (lkp es_43) 61 [some (aR 2 i0), x1, some (aI v2), some (aI v3), some (aI v4), x5, x6] [] (L0, g, w, q0) := by
  intro n
  induction n with
  | zero => intros; rename_i h; exact absurd h (by intro h9; cases h9)
  | succ n ih => intros; rename_i h; exact e_X2_nextOrder_61 (hr61 := ih) hΨ h
def s_X2_nextOrder_52 (i0 : Nat) (p1 : Int32) (v2 : Int32) (v3 : Int32) (g : Nat → Nat → Nat → Int32) (w : Nat → Nat → Nat → Int64) : Option (Bool × GS) :=
  if 0 ≤ v3 then
    s_X2_nextOrder_R61 i0 p1 FU v2 v3 v2 g w
  else
    some ((false, g, w))
set_option maxRecDepth 20000 in
set_option maxHeartbeats 2000000 in
theorem e_X2_nextOrder_52 {d : Nat} {Ψ : Option AV → DS → Prop} {i0 : Nat} {p1 : Int32} {r : Bool × GS} {g : Nat → Nat → Nat → Int32} {w : Nat → Nat → Nat → Int64} {v2 : Int32} {v3 : Int32} {x1 : Option AV} {x4 : Option AV} {x5 : Option AV} {x6 : Option AV} (hΨ : Ψ (some (aI (bI r.1))) (L0, r.2.1, r.2.2, q0)) (h : s_X2_nextOrder_52 i0 p1 v2 v3 g w = some r) : Ev (EvM mth (d + 1)) mth c00 sc0 (retP (some .boolean) c00 Ψ) (lkp es_43) 52 [some (aR 2 i0), x1, some (aI v2), some (aI v3), x4, x5, x6] [] (L0, g, w, q0) := by
  unfold s_X2_nextOrder_52 at h
  refine ev_iload_n (pc' := 53) rfl rfl rfl ?_
  refine ev_if_ge rfl (pc' := 56) rfl (fun hc => ?_) (fun hc => ?_)
  · have h := (if_pos hc).symm.trans h
    refine ev_iload_n (pc' := 59) rfl rfl rfl ?_
    refine ev_istore (pc' := 61) rfl rfl (l' := [some (aR 2 i0), x1, some (aI v2), some (aI v3), some (aI v2), x5, x6]) rfl ?_
    exact e_X2_nextOrder_R61 hΨ FU h
  · have h := (if_neg hc).symm.trans h
    refine ev_iconst (pc' := 57) rfl rfl (v := (0 : Int32)) (by decide) ?_
    obtain rfl := Option.some.inj h
    exact ev_ireturn rfl ⟨⟨_, rfl, rfl⟩, rfl, rfl, hΨ⟩
def s_X2_nextOrder_25 (i0 : Nat) (p1 : Int32) (rec25 : Int32 → Int32 → (Nat → Nat → Nat → Int32) → (Nat → Nat → Nat → Int64) → Option (Bool × GS)) (v2 : Int32) (v3 : Int32) (g : Nat → Nat → Nat → Int32) (w : Nat → Nat → Nat → Int64) : Option (Bool × GS) :=
  if v3 < 0 then
    s_X2_nextOrder_52 i0 p1 v2 v3 g w
  else
    if inR v3 4 = true then
      if inR (v3 + (1 : Int32)) 4 = true then
        if (g 1004 1 v3.toNatClampNeg) ≤ (g 1004 1 (v3 + (1 : Int32)).toNatClampNeg) then
          s_X2_nextOrder_52 i0 p1 v2 v3 g w
        else
          rec25 v2 (v3 + (-1)) g w
      else none
    else none
set_option maxRecDepth 20000 in
set_option maxHeartbeats 2000000 in
theorem e_X2_nextOrder_25 {d : Nat} {Ψ : Option AV → DS → Prop} {i0 : Nat} {p1 : Int32} {rec25 : Int32 → Int32 → (Nat → Nat → Nat → Int32) → (Nat → Nat → Nat → Int64) → Option (Bool × GS)} {r : Bool × GS} {g : Nat → Nat → Nat → Int32} {w : Nat → Nat → Nat → Int64} {v2 : Int32} {v3 : Int32} {x1 : Option AV} {x4 : Option AV} {x5 : Option AV} {x6 : Option AV} (hr25 : ∀ {v2 : Int32} {v3 : Int32} {x1 : Option AV} {x4 : Option AV} {x5 : Option AV} {x6 : Option AV} {g : Nat → Nat → Nat → Int32} {w : Nat → Nat → Nat → Int64} , rec25 v2 v3 g w = some r → Ev (EvM mth (d + 1)) mth c00 sc0 (retP (some .boolean) c00 Ψ) (lkp es_43) 25 [some (aR 2 i0), x1, some (aI v2), some (aI v3), x4, x5, x6] [] (L0, g, w, q0)) (hΨ : Ψ (some (aI (bI r.1))) (L0, r.2.1, r.2.2, q0)) (h : s_X2_nextOrder_25 i0 p1 rec25 v2 v3 g w = some r) : Ev (EvM mth (d + 1)) mth c00 sc0 (retP (some .boolean) c00 Ψ) (lkp es_43) 25 [some (aR 2 i0), x1, some (aI v2), some (aI v3), x4, x5, x6] [] (L0, g, w, q0) := by
  unfold s_X2_nextOrder_25 at h
  refine ev_iload_n (pc' := 26) rfl rfl rfl ?_
  refine ev_if_lt rfl (pc' := 29) rfl (fun hc => ?_) (fun hc => ?_)
  · have h := (if_pos hc).symm.trans h
    exact e_X2_nextOrder_52 hΨ h
  · have h := (if_neg hc).symm.trans h
    refine ev_aload_n (pc' := 30) rfl rfl rfl ?_
    refine ev_getQ (pc' := 33) rfl rfl rfl ?_
    refine ev_iload_n (pc' := 34) rfl rfl rfl ?_
    obtain ⟨hi, h⟩ := gdB h
    refine ev_iald (pc' := 35) rfl rfl rfl (inR_vp hi) ?_
    refine ev_aload_n (pc' := 36) rfl rfl rfl ?_
    refine ev_getQ (pc' := 39) rfl rfl rfl ?_
    refine ev_iload_n (pc' := 40) rfl rfl rfl ?_
    refine ev_iconst (pc' := 41) rfl rfl (v := (1 : Int32)) (by decide) ?_
    refine ev_iadd (pc' := 42) rfl rfl ?_
    obtain ⟨hi, h⟩ := gdB h
    refine ev_iald (pc' := 43) rfl rfl rfl (inR_vp hi) ?_
    refine ev_icmp_le rfl (pc' := 46) rfl (fun hc => ?_) (fun hc => ?_)
    · have h := (if_pos hc).symm.trans h
      exact e_X2_nextOrder_52 hΨ h
    · have h := (if_neg hc).symm.trans h
      refine ev_iinc (pc' := 49) rfl rfl (l' := [some (aR 2 i0), x1, some (aI v2), some (aI (v3 + (-1))), x4, x5, x6]) rfl (ii_m1 _) rfl ?_
      refine ev_goto (pc' := 25) rfl ?_
      exact hr25 h
def s_X2_nextOrder_R25 (i0 : Nat) (p1 : Int32) : Nat → Int32 → Int32 → (Nat → Nat → Nat → Int32) → (Nat → Nat → Nat → Int64) → Option (Bool × GS)
  | 0 => fun _ _ _ _ => none
  | n + 1 => s_X2_nextOrder_25 i0 p1 (s_X2_nextOrder_R25 i0 p1 n)
theorem e_X2_nextOrder_R25 {d : Nat} {Ψ : Option AV → DS → Prop} {i0 : Nat} {p1 : Int32} {r : Bool × GS} (hΨ : Ψ (some (aI (bI r.1))) (L0, r.2.1, r.2.2, q0)) : ∀ (n : Nat) {v2 : Int32} {v3 : Int32} {x1 : Option AV} {x4 : Option AV} {x5 : Option AV} {x6 : Option AV} {g : Nat → Nat → Nat → Int32} {w : Nat → Nat → Nat → Int64}, s_X2_nextOrder_R25 i0 p1 n v2 v3 g w = some r → Ev (EvM mth (d + 1)) mth c00 sc0 (retP (some .boolean) c00 Ψ) (lkp es_43) 25 [some (aR 2 i0), x1, some (aI v2), some (aI v3), x4, x5, x6] [] (L0, g, w, q0) := by
  intro n
  induction n with
  | zero => intros; rename_i h; exact absurd h (by intro h9; cases h9)
  | succ n ih => intros; rename_i h; exact e_X2_nextOrder_25 (hr25 := ih) hΨ h
def s_X2_nextOrder_18 (i0 : Nat) (p1 : Int32) (t0 : Int32) (g : Nat → Nat → Nat → Int32) (w : Nat → Nat → Nat → Int64) : Option (Bool × GS) :=
  s_X2_nextOrder_R25 i0 p1 FU (t0 - (1 : Int32)) ((t0 - (1 : Int32)) - (1 : Int32)) g w
set_option maxRecDepth 20000 in
set_option maxHeartbeats 2000000 in
theorem e_X2_nextOrder_18 {d : Nat} {Ψ : Option AV → DS → Prop} {i0 : Nat} {p1 : Int32} {r : Bool × GS} {g : Nat → Nat → Nat → Int32} {w : Nat → Nat → Nat → Int64} {t0 : Int32} {x1 : Option AV} {x2 : Option AV} {x3 : Option AV} {x4 : Option AV} {x5 : Option AV} {x6 : Option AV} (hΨ : Ψ (some (aI (bI r.1))) (L0, r.2.1, r.2.2, q0)) (h : s_X2_nextOrder_18 i0 p1 t0 g w = some r) : Ev (EvM mth (d + 1)) mth c00 sc0 (retP (some .boolean) c00 Ψ) (lkp es_43) 18 [some (aR 2 i0), x1, x2, x3, x4, x5, x6] [aI t0] (L0, g, w, q0) := by
  unfold s_X2_nextOrder_18 at h
  refine ev_iconst (pc' := 19) rfl rfl (v := (1 : Int32)) (by decide) ?_
  refine ev_isub (pc' := 20) rfl rfl ?_
  refine ev_istore_n (pc' := 21) rfl rfl (l' := [some (aR 2 i0), (klO x1), some (aI (t0 - (1 : Int32))), x3, x4, x5, x6]) rfl ?_
  refine ev_iload_n (pc' := 22) rfl rfl rfl ?_
  refine ev_iconst (pc' := 23) rfl rfl (v := (1 : Int32)) (by decide) ?_
  refine ev_isub (pc' := 24) rfl rfl ?_
  refine ev_istore_n (pc' := 25) rfl rfl (l' := [some (aR 2 i0), (klO x1), some (aI (t0 - (1 : Int32))), some (aI ((t0 - (1 : Int32)) - (1 : Int32))), x4, x5, x6]) rfl ?_
  exact e_X2_nextOrder_R25 hΨ FU h
def s_X2_nextOrder (i0 : Nat) (p1 : Int32) (g : Nat → Nat → Nat → Int32) (w : Nat → Nat → Nat → Int64) : Option (Bool × GS) :=
  if (4 : Int32) ≤ p1 then
    s_X2_nextOrder_18 i0 p1 (4 : Int32) g w
  else
    s_X2_nextOrder_18 i0 p1 p1 g w
set_option maxRecDepth 20000 in
set_option maxHeartbeats 2000000 in
theorem d_X2_nextOrder {d : Nat} {i0 : Nat} {p1 : Int32} {g : Nat → Nat → Nat → Int32} {w : Nat → Nat → Nat → Int64} {r : Bool × GS} (h : s_X2_nextOrder i0 p1 g w = some r) : Does (EvM mth (d + 2)) 43 [aR 2 i0, aI p1] (L0, g, w, q0) (some (aI (bI r.1))) (L0, r.2.1, r.2.2, q0) := by
  intro Ψ hΨ
  refine ⟨in_43, mth_43, Nat.le_of_ble_eq_true rfl, ?_⟩
  show Ev (EvM mth (d + 1)) mth c00 sc0 (retP (some .boolean) c00 Ψ) (lkp es_43) 0 [some (aR 2 i0), some (aI p1), none, none, none, none, none] [] (L0, g, w, q0)
  unfold s_X2_nextOrder at h
  refine ev_iload_n (pc' := 1) rfl rfl rfl ?_
  refine ev_aload_n (pc' := 2) rfl rfl rfl ?_
  refine ev_getQ (pc' := 5) rfl rfl rfl ?_
  refine ev_alen (pc' := 6) rfl rfl (by decide) (v := (4 : Int32)) (by decide) ?_
  refine ev_icmp_ge rfl (pc' := 9) rfl (fun hc => ?_) (fun hc => ?_)
  · have h := (if_pos hc).symm.trans h
    refine ev_aload_n (pc' := 14) rfl rfl rfl ?_
    refine ev_getQ (pc' := 17) rfl rfl rfl ?_
    refine ev_alen (pc' := 18) rfl rfl (by decide) (v := (4 : Int32)) (by decide) ?_
    exact e_X2_nextOrder_18 hΨ h
  · have h := (if_neg hc).symm.trans h
    refine ev_iload_n (pc' := 10) rfl rfl rfl ?_
    refine ev_goto (pc' := 18) rfl ?_
    exact e_X2_nextOrder_18 hΨ h
def s_X2_allHaveJobs_33 (p0 : Nat) (p1 : Int32) (rec2 : Int32 → (Nat → Nat → Nat → Int32) → (Nat → Nat → Nat → Int64) → Option (Bool)) (v2 : Int32) (g : Nat → Nat → Nat → Int32) (w : Nat → Nat → Nat → Int64) : Option (Bool) :=
  rec2 (v2 + 1) g w
set_option maxRecDepth 20000 in
set_option maxHeartbeats 2000000 in
theorem e_X2_allHaveJobs_33 {d : Nat} {Ψ : Option AV → DS → Prop} {p0 : Nat} {p1 : Int32} {rec2 : Int32 → (Nat → Nat → Nat → Int32) → (Nat → Nat → Nat → Int64) → Option (Bool)} {r : Bool} {g : Nat → Nat → Nat → Int32} {w : Nat → Nat → Nat → Int64} {v2 : Int32} (hr2 : ∀ {v2 : Int32} , rec2 v2 g w = some r → Ev (EvM mth (d + 1)) mth c00 sc0 (retP (some .boolean) c00 Ψ) (lkp es_46) 2 [some (aR 1 p0), some (aI p1), some (aI v2)] [] (L0, g, w, q0)) (hΨ : Ψ (some (aI (bI r))) (L0, g, w, q0)) (h : s_X2_allHaveJobs_33 p0 p1 rec2 v2 g w = some r) : Ev (EvM mth (d + 1)) mth c00 sc0 (retP (some .boolean) c00 Ψ) (lkp es_46) 33 [some (aR 1 p0), some (aI p1), some (aI v2)] [] (L0, g, w, q0) := by
  unfold s_X2_allHaveJobs_33 at h
  refine ev_iinc (pc' := 36) rfl rfl (l' := [some (aR 1 p0), some (aI p1), some (aI (v2 + 1))]) rfl (ii_1 _) rfl ?_
  refine ev_goto (pc' := 2) rfl ?_
  exact hr2 h
def s_X2_allHaveJobs_2 (p0 : Nat) (p1 : Int32) (rec2 : Int32 → (Nat → Nat → Nat → Int32) → (Nat → Nat → Nat → Int64) → Option (Bool)) (v2 : Int32) (g : Nat → Nat → Nat → Int32) (w : Nat → Nat → Nat → Int64) : Option (Bool) :=
  if (8 : Int32) ≤ v2 then
    some (true)
  else
    if ((jush p1 v2) &&& (1 : Int32)) = 0 then
      s_X2_allHaveJobs_33 p0 p1 rec2 v2 g w
    else
      if inR v2 8 = true then
        if (s_X4_hasJob (8 * p0 + v2.toNatClampNeg) g w) = true then
          s_X2_allHaveJobs_33 p0 p1 rec2 v2 g w
        else
          some (false)
      else none
set_option maxRecDepth 20000 in
set_option maxHeartbeats 2000000 in
theorem e_X2_allHaveJobs_2 {d : Nat} {Ψ : Option AV → DS → Prop} {p0 : Nat} {p1 : Int32} {rec2 : Int32 → (Nat → Nat → Nat → Int32) → (Nat → Nat → Nat → Int64) → Option (Bool)} {r : Bool} {g : Nat → Nat → Nat → Int32} {w : Nat → Nat → Nat → Int64} {v2 : Int32} (hr2 : ∀ {v2 : Int32} , rec2 v2 g w = some r → Ev (EvM mth (d + 1)) mth c00 sc0 (retP (some .boolean) c00 Ψ) (lkp es_46) 2 [some (aR 1 p0), some (aI p1), some (aI v2)] [] (L0, g, w, q0)) (hΨ : Ψ (some (aI (bI r))) (L0, g, w, q0)) (h : s_X2_allHaveJobs_2 p0 p1 rec2 v2 g w = some r) : Ev (EvM mth (d + 1)) mth c00 sc0 (retP (some .boolean) c00 Ψ) (lkp es_46) 2 [some (aR 1 p0), some (aI p1), some (aI v2)] [] (L0, g, w, q0) := by
  unfold s_X2_allHaveJobs_2 at h
  refine ev_iload_n (pc' := 3) rfl rfl rfl ?_
  refine ev_aload_n (pc' := 4) rfl rfl rfl ?_
  refine ev_getQ (pc' := 7) rfl rfl rfl ?_
  refine ev_alen (pc' := 8) rfl rfl (by decide) (v := (8 : Int32)) (by decide) ?_
  refine ev_icmp_ge rfl (pc' := 11) rfl (fun hc => ?_) (fun hc => ?_)
  · have h := (if_pos hc).symm.trans h
    refine ev_iconst (pc' := 40) rfl rfl (v := (1 : Int32)) (by decide) ?_
    obtain rfl := Option.some.inj h
    exact ev_ireturn rfl ⟨⟨_, rfl, rfl⟩, rfl, rfl, hΨ⟩
  · have h := (if_neg hc).symm.trans h
    refine ev_iload_n (pc' := 12) rfl rfl rfl ?_
    refine ev_iload_n (pc' := 13) rfl rfl rfl ?_
    refine ev_iushr (pc' := 14) rfl rfl ?_
    refine ev_iconst (pc' := 15) rfl rfl (v := (1 : Int32)) (by decide) ?_
    refine ev_iand (pc' := 16) rfl rfl ?_
    refine ev_if_eq rfl (pc' := 19) rfl (fun hc => ?_) (fun hc => ?_)
    · have h := (if_pos hc).symm.trans h
      exact e_X2_allHaveJobs_33 (hr2 := hr2) hΨ h
    · have h := (if_neg hc).symm.trans h
      refine ev_aload_n (pc' := 20) rfl rfl rfl ?_
      refine ev_getQ (pc' := 23) rfl rfl rfl ?_
      refine ev_iload_n (pc' := 24) rfl rfl rfl ?_
      obtain ⟨hi, h⟩ := gdB h
      refine ev_aald (pc' := 25) rfl rfl (by decide) rfl (inR_vp hi) rfl ?_
      refine ev_V1I (pc' := 28) rfl (by decide) rfl mth_55 ⟨Nat.le_of_ble_eq_true rfl, rfl⟩ ⟨Nat.le_refl _, Nat.le_refl _⟩ d_X4_hasJob ?_
      refine ev_ifB_ne rfl (pc' := 31) rfl (fun hc => ?_) (fun hc => ?_)
      · have h := (if_pos hc).symm.trans h
        exact e_X2_allHaveJobs_33 (hr2 := hr2) hΨ h
      · have h := (if_neg hc).symm.trans h
        refine ev_iconst (pc' := 32) rfl rfl (v := (0 : Int32)) (by decide) ?_
        obtain rfl := Option.some.inj h
        exact ev_ireturn rfl ⟨⟨_, rfl, rfl⟩, rfl, rfl, hΨ⟩
def s_X2_allHaveJobs_R2 (p0 : Nat) (p1 : Int32) : Nat → Int32 → (Nat → Nat → Nat → Int32) → (Nat → Nat → Nat → Int64) → Option (Bool)
  | 0 => fun _ _ _ => none
  | n + 1 => s_X2_allHaveJobs_2 p0 p1 (s_X2_allHaveJobs_R2 p0 p1 n)
theorem e_X2_allHaveJobs_R2 {d : Nat} {Ψ : Option AV → DS → Prop} {p0 : Nat} {p1 : Int32} {r : Bool} {g : Nat → Nat → Nat → Int32} {w : Nat → Nat → Nat → Int64} (hΨ : Ψ (some (aI (bI r))) (L0, g, w, q0)) : ∀ (n : Nat) {v2 : Int32} , s_X2_allHaveJobs_R2 p0 p1 n v2 g w = some r → Ev (EvM mth (d + 1)) mth c00 sc0 (retP (some .boolean) c00 Ψ) (lkp es_46) 2 [some (aR 1 p0), some (aI p1), some (aI v2)] [] (L0, g, w, q0) := by
  intro n
  induction n with
  | zero => intros; rename_i h; exact absurd h (by intro h9; cases h9)
  | succ n ih => intros; rename_i h; exact e_X2_allHaveJobs_2 (hr2 := ih) hΨ h
def s_X2_allHaveJobs (p0 : Nat) (p1 : Int32) (g : Nat → Nat → Nat → Int32) (w : Nat → Nat → Nat → Int64) : Option (Bool) :=
  s_X2_allHaveJobs_R2 p0 p1 FU (0 : Int32) g w
set_option maxRecDepth 20000 in
set_option maxHeartbeats 2000000 in
theorem d_X2_allHaveJobs {d : Nat} {p0 : Nat} {p1 : Int32} {g : Nat → Nat → Nat → Int32} {w : Nat → Nat → Nat → Int64} {r : Bool} (h : s_X2_allHaveJobs p0 p1 g w = some r) : Does (EvM mth (d + 2)) 46 [aR 1 p0, aI p1] (L0, g, w, q0) (some (aI (bI r))) (L0, g, w, q0) := by
  intro Ψ hΨ
  refine ⟨in_46, mth_46, Nat.le_of_ble_eq_true rfl, ?_⟩
  show Ev (EvM mth (d + 1)) mth c00 sc0 (retP (some .boolean) c00 Ψ) (lkp es_46) 0 [some (aR 1 p0), some (aI p1), none] [] (L0, g, w, q0)
  unfold s_X2_allHaveJobs at h
  refine ev_iconst (pc' := 1) rfl rfl (v := (0 : Int32)) (by decide) ?_
  refine ev_istore_n (pc' := 2) rfl rfl (l' := [some (aR 1 p0), some (aI p1), some (aI (0 : Int32))]) rfl ?_
  exact e_X2_allHaveJobs_R2 hΨ FU h
def s_X2_isBetter_72 (i0 : Nat) (p1 : Int32) (p2 : Int32) (p3 : Int32) (t0 : Bool) (g : Nat → Nat → Nat → Int32) (w : Nat → Nat → Nat → Int64) : Bool :=
  t0
set_option maxRecDepth 20000 in
set_option maxHeartbeats 2000000 in
theorem e_X2_isBetter_72 {d : Nat} {Ψ : Option AV → DS → Prop} {i0 : Nat} {p1 : Int32} {p2 : Int32} {p3 : Int32} {r : Bool} {g : Nat → Nat → Nat → Int32} {w : Nat → Nat → Nat → Int64} {t0 : Bool} {x0 : Option AV} {x1 : Option AV} {x2 : Option AV} {x3 : Option AV} {x4 : Option AV} {x5 : Option AV} (hΨ : Ψ (some (aI (bI r))) (L0, g, w, q0)) (h : s_X2_isBetter_72 i0 p1 p2 p3 t0 g w = r) : Ev (EvM mth (d + 1)) mth c00 sc0 (retP (some .boolean) c00 Ψ) (lkp es_47) 72 [x0, x1, x2, x3, x4, x5] [aI (bI t0)] (L0, g, w, q0) := by
  unfold s_X2_isBetter_72 at h
  subst h
  exact ev_ireturn rfl ⟨⟨_, rfl, nar_bI _⟩, rfl, rfl, hΨ⟩
def s_X2_isBetter_21 (i0 : Nat) (p1 : Int32) (p2 : Int32) (p3 : Int32) (t0 : Bool) (g : Nat → Nat → Nat → Int32) (w : Nat → Nat → Nat → Int64) : Bool :=
  t0
set_option maxRecDepth 20000 in
set_option maxHeartbeats 2000000 in
theorem e_X2_isBetter_21 {d : Nat} {Ψ : Option AV → DS → Prop} {i0 : Nat} {p1 : Int32} {p2 : Int32} {p3 : Int32} {r : Bool} {g : Nat → Nat → Nat → Int32} {w : Nat → Nat → Nat → Int64} {t0 : Bool} {x0 : Option AV} {x1 : Option AV} {x2 : Option AV} {x3 : Option AV} {x4 : Option AV} {x5 : Option AV} (hΨ : Ψ (some (aI (bI r))) (L0, g, w, q0)) (h : s_X2_isBetter_21 i0 p1 p2 p3 t0 g w = r) : Ev (EvM mth (d + 1)) mth c00 sc0 (retP (some .boolean) c00 Ψ) (lkp es_47) 21 [x0, x1, x2, x3, x4, x5] [aI (bI t0)] (L0, g, w, q0) := by
  unfold s_X2_isBetter_21 at h
  subst h
  exact ev_ireturn rfl ⟨⟨_, rfl, nar_bI _⟩, rfl, rfl, hΨ⟩
def s_X2_isBetter (i0 : Nat) (p1 : Int32) (p2 : Int32) (p3 : Int32) (g : Nat → Nat → Nat → Int32) (w : Nat → Nat → Nat → Int64) : Bool :=
  if p1 = (g 2 i0 4) then
    if (s_J_Integer_bitCount p2 g w) = (s_J_Integer_bitCount (g 2 i0 6) g w) then
      if (g 2 i0 5) ≤ p3 then
        s_X2_isBetter_72 i0 p1 p2 p3 false g w
      else
        s_X2_isBetter_72 i0 p1 p2 p3 true g w
    else
      if (s_J_Integer_bitCount (g 2 i0 6) g w) ≤ (s_J_Integer_bitCount p2 g w) then
        s_X2_isBetter_72 i0 p1 p2 p3 false g w
      else
        s_X2_isBetter_72 i0 p1 p2 p3 true g w
  else
    if p1 ≤ (g 2 i0 4) then
      s_X2_isBetter_21 i0 p1 p2 p3 false g w
    else
      s_X2_isBetter_21 i0 p1 p2 p3 true g w
set_option maxRecDepth 20000 in
set_option maxHeartbeats 2000000 in
theorem d_X2_isBetter {d : Nat} {i0 : Nat} {p1 : Int32} {p2 : Int32} {p3 : Int32} {g : Nat → Nat → Nat → Int32} {w : Nat → Nat → Nat → Int64} : Does (EvM mth (d + 2)) 47 [aR 2 i0, aI p1, aI p2, aI p3] (L0, g, w, q0) (some (aI (bI (s_X2_isBetter i0 p1 p2 p3 g w)))) (L0, g, w, q0) := by
  intro Ψ hΨ
  obtain ⟨r, h⟩ : ∃ r, s_X2_isBetter i0 p1 p2 p3 g w = r := ⟨_, rfl⟩
  rw [h] at hΨ
  refine ⟨in_47, mth_47, Nat.le_of_ble_eq_true rfl, ?_⟩
  show Ev (EvM mth (d + 1)) mth c00 sc0 (retP (some .boolean) c00 Ψ) (lkp es_47) 0 [some (aR 2 i0), some (aI p1), some (aI p2), some (aI p3), none, none] [] (L0, g, w, q0)
  unfold s_X2_isBetter at h
  refine ev_iload_n (pc' := 1) rfl rfl rfl ?_
  refine ev_aload_n (pc' := 2) rfl rfl rfl ?_
  refine ev_getI (pc' := 5) rfl rfl ?_
  refine ev_icmp_eq rfl (pc' := 8) rfl (fun hc => ?_) (fun hc => ?_)
  · have h := (if_pos hc).symm.trans h
    refine ev_iload_n (pc' := 23) rfl rfl rfl ?_
    refine ev_S1I (pc' := 26) rfl (by decide) rfl mth_193 ⟨Nat.le_of_ble_eq_true rfl, rfl⟩ ⟨Nat.le_refl _, Nat.le_refl _⟩ d_J_Integer_bitCount ?_
    refine ev_istore (pc' := 28) rfl rfl (l' := [some (aR 2 i0), some (aI p1), some (aI p2), some (aI p3), some (aI (s_J_Integer_bitCount p2 g w)), none]) rfl ?_
    refine ev_aload_n (pc' := 29) rfl rfl rfl ?_
    refine ev_getI (pc' := 32) rfl rfl ?_
    refine ev_S1I (pc' := 35) rfl (by decide) rfl mth_193 ⟨Nat.le_of_ble_eq_true rfl, rfl⟩ ⟨Nat.le_refl _, Nat.le_refl _⟩ d_J_Integer_bitCount ?_
    refine ev_istore (pc' := 37) rfl rfl (l' := [some (aR 2 i0), some (aI p1), some (aI p2), some (aI p3), some (aI (s_J_Integer_bitCount p2 g w)), some (aI (s_J_Integer_bitCount (g 2 i0 6) g w))]) rfl ?_
    refine ev_iload (pc' := 39) rfl rfl rfl ?_
    refine ev_iload (pc' := 41) rfl rfl rfl ?_
    refine ev_icmp_eq rfl (pc' := 44) rfl (fun hc => ?_) (fun hc => ?_)
    · have h := (if_pos hc).symm.trans h
      refine ev_iload_n (pc' := 60) rfl rfl rfl ?_
      refine ev_aload_n (pc' := 61) rfl rfl rfl ?_
      refine ev_getI (pc' := 64) rfl rfl ?_
      refine ev_icmp_ge rfl (pc' := 67) rfl (fun hc => ?_) (fun hc => ?_)
      · have h := (if_pos hc).symm.trans h
        refine ev_iconst (pc' := 72) rfl rfl (v := (0 : Int32)) (by decide) ?_
        exact e_X2_isBetter_72 hΨ h
      · have h := (if_neg hc).symm.trans h
        refine ev_iconst (pc' := 68) rfl rfl (v := (1 : Int32)) (by decide) ?_
        refine ev_goto (pc' := 72) rfl ?_
        exact e_X2_isBetter_72 hΨ h
    · have h := (if_neg hc).symm.trans h
      refine ev_iload (pc' := 46) rfl rfl rfl ?_
      refine ev_iload (pc' := 48) rfl rfl rfl ?_
      refine ev_icmp_ge rfl (pc' := 51) rfl (fun hc => ?_) (fun hc => ?_)
      · have h := (if_pos hc).symm.trans h
        refine ev_iconst (pc' := 56) rfl rfl (v := (0 : Int32)) (by decide) ?_
        refine ev_goto (pc' := 72) rfl ?_
        exact e_X2_isBetter_72 hΨ h
      · have h := (if_neg hc).symm.trans h
        refine ev_iconst (pc' := 52) rfl rfl (v := (1 : Int32)) (by decide) ?_
        refine ev_goto (pc' := 72) rfl ?_
        exact e_X2_isBetter_72 hΨ h
  · have h := (if_neg hc).symm.trans h
    refine ev_iload_n (pc' := 9) rfl rfl rfl ?_
    refine ev_aload_n (pc' := 10) rfl rfl rfl ?_
    refine ev_getI (pc' := 13) rfl rfl ?_
    refine ev_icmp_le rfl (pc' := 16) rfl (fun hc => ?_) (fun hc => ?_)
    · have h := (if_pos hc).symm.trans h
      refine ev_iconst (pc' := 21) rfl rfl (v := (0 : Int32)) (by decide) ?_
      exact e_X2_isBetter_21 hΨ h
    · have h := (if_neg hc).symm.trans h
      refine ev_iconst (pc' := 17) rfl rfl (v := (1 : Int32)) (by decide) ?_
      refine ev_goto (pc' := 21) rfl ?_
      exact e_X2_isBetter_21 hΨ h
def s_X3_tell (i0 : Nat) (p1 : Int32) (p2 : Int32) (p3 : Int32) (p4 : Int32) (g : Nat → Nat → Nat → Int32) (w : Nat → Nat → Nat → Int64) : Option (Bool × GS) :=
  if (s_X6_within (g 3 i0 4) (0 : Int32) (11 : Int32) g w) = true then
    if inR (g 3 i0 4) 12 = true then
      if inR ((gI g 1012 2 (g 3 i0 4).toNatClampNeg p1) 3 i0 4) 12 = true then
        if inR ((gI (gI g 1012 2 (g 3 i0 4).toNatClampNeg p1) 1012 3 ((gI g 1012 2 (g 3 i0 4).toNatClampNeg p1) 3 i0 4).toNatClampNeg p2) 3 i0 4) 12 = true then
          if inR ((gI (gI (gI g 1012 2 (g 3 i0 4).toNatClampNeg p1) 1012 3 ((gI g 1012 2 (g 3 i0 4).toNatClampNeg p1) 3 i0 4).toNatClampNeg p2) 1012 4 ((gI (gI g 1012 2 (g 3 i0 4).toNatClampNeg p1) 1012 3 ((gI g 1012 2 (g 3 i0 4).toNatClampNeg p1) 3 i0 4).toNatClampNeg p2) 3 i0 4).toNatClampNeg p3) 3 i0 4) 12 = true then
            some ((true, (gI (gI (gI (gI (gI g 1012 2 (g 3 i0 4).toNatClampNeg p1) 1012 3 ((gI g 1012 2 (g 3 i0 4).toNatClampNeg p1) 3 i0 4).toNatClampNeg p2) 1012 4 ((gI (gI g 1012 2 (g 3 i0 4).toNatClampNeg p1) 1012 3 ((gI g 1012 2 (g 3 i0 4).toNatClampNeg p1) 3 i0 4).toNatClampNeg p2) 3 i0 4).toNatClampNeg p3) 1012 5 ((gI (gI (gI g 1012 2 (g 3 i0 4).toNatClampNeg p1) 1012 3 ((gI g 1012 2 (g 3 i0 4).toNatClampNeg p1) 3 i0 4).toNatClampNeg p2) 1012 4 ((gI (gI g 1012 2 (g 3 i0 4).toNatClampNeg p1) 1012 3 ((gI g 1012 2 (g 3 i0 4).toNatClampNeg p1) 3 i0 4).toNatClampNeg p2) 3 i0 4).toNatClampNeg p3) 3 i0 4).toNatClampNeg p4) 3 i0 4 (((gI (gI (gI (gI g 1012 2 (g 3 i0 4).toNatClampNeg p1) 1012 3 ((gI g 1012 2 (g 3 i0 4).toNatClampNeg p1) 3 i0 4).toNatClampNeg p2) 1012 4 ((gI (gI g 1012 2 (g 3 i0 4).toNatClampNeg p1) 1012 3 ((gI g 1012 2 (g 3 i0 4).toNatClampNeg p1) 3 i0 4).toNatClampNeg p2) 3 i0 4).toNatClampNeg p3) 1012 5 ((gI (gI (gI g 1012 2 (g 3 i0 4).toNatClampNeg p1) 1012 3 ((gI g 1012 2 (g 3 i0 4).toNatClampNeg p1) 3 i0 4).toNatClampNeg p2) 1012 4 ((gI (gI g 1012 2 (g 3 i0 4).toNatClampNeg p1) 1012 3 ((gI g 1012 2 (g 3 i0 4).toNatClampNeg p1) 3 i0 4).toNatClampNeg p2) 3 i0 4).toNatClampNeg p3) 3 i0 4).toNatClampNeg p4) 3 i0 4) + (1 : Int32))), w))
          else none
        else none
      else none
    else none
  else
    some ((false, g, w))
set_option maxRecDepth 20000 in
set_option maxHeartbeats 2000000 in
theorem d_X3_tell {d : Nat} {i0 : Nat} {p1 : Int32} {p2 : Int32} {p3 : Int32} {p4 : Int32} {g : Nat → Nat → Nat → Int32} {w : Nat → Nat → Nat → Int64} {r : Bool × GS} (h : s_X3_tell i0 p1 p2 p3 p4 g w = some r) : Does (EvM mth (d + 2)) 49 [aR 3 i0, aI p1, aI p2, aI p3, aI p4] (L0, g, w, q0) (some (aI (bI r.1))) (L0, r.2.1, r.2.2, q0) := by
  intro Ψ hΨ
  refine ⟨in_49, mth_49, Nat.le_of_ble_eq_true rfl, ?_⟩
  show Ev (EvM mth (d + 1)) mth c00 sc0 (retP (some .boolean) c00 Ψ) (lkp es_49) 0 [some (aR 3 i0), some (aI p1), some (aI p2), some (aI p3), some (aI p4)] [] (L0, g, w, q0)
  unfold s_X3_tell at h
  refine ev_aload_n (pc' := 1) rfl rfl rfl ?_
  refine ev_getI (pc' := 4) rfl rfl ?_
  refine ev_iconst (pc' := 5) rfl rfl (v := (0 : Int32)) (by decide) ?_
  refine ev_bipush (pc' := 7) rfl rfl (v := (11 : Int32)) (by decide) ?_
  refine ev_S3I (pc' := 10) rfl (by decide) rfl mth_105 ⟨Nat.le_of_ble_eq_true rfl, rfl⟩ ⟨Nat.le_refl _, Nat.le_refl _⟩ d_X6_within ?_
  refine ev_ifB_ne rfl (pc' := 13) rfl (fun hc => ?_) (fun hc => ?_)
  · have h := (if_pos hc).symm.trans h
    refine ev_aload_n (pc' := 16) rfl rfl rfl ?_
    refine ev_getQ (pc' := 19) rfl rfl rfl ?_
    refine ev_aload_n (pc' := 20) rfl rfl rfl ?_
    refine ev_getI (pc' := 23) rfl rfl ?_
    refine ev_iload_n (pc' := 24) rfl rfl rfl ?_
    obtain ⟨hi, h⟩ := gdB h
    refine ev_iast (pc' := 25) rfl rfl rfl (inR_vp hi) ?_
    refine ev_aload_n (pc' := 26) rfl rfl rfl ?_
    refine ev_getQ (pc' := 29) rfl rfl rfl ?_
    refine ev_aload_n (pc' := 30) rfl rfl rfl ?_
    refine ev_getI (pc' := 33) rfl rfl ?_
    refine ev_iload_n (pc' := 34) rfl rfl rfl ?_
    obtain ⟨hi, h⟩ := gdB h
    refine ev_iast (pc' := 35) rfl rfl rfl (inR_vp hi) ?_
    refine ev_aload_n (pc' := 36) rfl rfl rfl ?_
    refine ev_getQ (pc' := 39) rfl rfl rfl ?_
    refine ev_aload_n (pc' := 40) rfl rfl rfl ?_
    refine ev_getI (pc' := 43) rfl rfl ?_
    refine ev_iload_n (pc' := 44) rfl rfl rfl ?_
    obtain ⟨hi, h⟩ := gdB h
    refine ev_iast (pc' := 45) rfl rfl rfl (inR_vp hi) ?_
    refine ev_aload_n (pc' := 46) rfl rfl rfl ?_
    refine ev_getQ (pc' := 49) rfl rfl rfl ?_
    refine ev_aload_n (pc' := 50) rfl rfl rfl ?_
    refine ev_getI (pc' := 53) rfl rfl ?_
    refine ev_iload (pc' := 55) rfl rfl rfl ?_
    obtain ⟨hi, h⟩ := gdB h
    refine ev_iast (pc' := 56) rfl rfl rfl (inR_vp hi) ?_
    refine ev_aload_n (pc' := 57) rfl rfl rfl ?_
    refine ev_dup (pc' := 58) rfl rfl rfl ?_
    refine ev_getI (pc' := 61) rfl rfl ?_
    refine ev_iconst (pc' := 62) rfl rfl (v := (1 : Int32)) (by decide) ?_
    refine ev_iadd (pc' := 63) rfl rfl ?_
    refine ev_putI (pc' := 66) rfl rfl ?_
    refine ev_iconst (pc' := 67) rfl rfl (v := (1 : Int32)) (by decide) ?_
    obtain rfl := Option.some.inj h
    exact ev_ireturn rfl ⟨⟨_, rfl, rfl⟩, rfl, rfl, hΨ⟩
  · have h := (if_neg hc).symm.trans h
    refine ev_iconst (pc' := 14) rfl rfl (v := (0 : Int32)) (by decide) ?_
    obtain rfl := Option.some.inj h
    exact ev_ireturn rfl ⟨⟨_, rfl, rfl⟩, rfl, rfl, hΨ⟩
