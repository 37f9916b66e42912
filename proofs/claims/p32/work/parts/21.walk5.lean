def s_X7_ship_73 (i0 : Nat) (p1 : Int32) (p2 : Int32) (p3 : Int32) (p4 : Int32) (p5 : Int32) (p6 : Int32) (p7 : Int32) (g : Nat → Nat → Nat → Int32) (w : Nat → Nat → Nat → Int64) : Option (Int32 × GS) :=
  some (((-1 : Int32), g, w))
set_option maxRecDepth 20000 in
set_option maxHeartbeats 2000000 in
theorem e_X7_ship_73 {d : Nat} {Ψ : Option AV → DS → Prop} {i0 : Nat} {p1 : Int32} {p2 : Int32} {p3 : Int32} {p4 : Int32} {p5 : Int32} {p6 : Int32} {p7 : Int32} {r : Int32 × GS} {g : Nat → Nat → Nat → Int32} {w : Nat → Nat → Nat → Int64} {x0 : Option AV} {x1 : Option AV} {x2 : Option AV} {x3 : Option AV} {x4 : Option AV} {x5 : Option AV} {x6 : Option AV} {x7 : Option AV} {x8 : Option AV} (hΨ : Ψ (some (aI r.1)) (L0, r.2.1, r.2.2, q0)) (h : s_X7_ship_73 i0 p1 p2 p3 p4 p5 p6 p7 g w = some r) : Ev (EvM mth (d + 2)) mth c00 sc0 (retP (some .int) c00 Ψ) (lkp es_130) 73 [x0, x1, x2, x3, x4, x5, x6, x7, x8] [] (L0, g, w, q0) := by
  unfold s_X7_ship_73 at h
  refine ev_iconst (pc' := 74) rfl rfl (v := (-1 : Int32)) (by decide) ?_
  obtain rfl := Option.some.inj h
  exact ev_ireturn rfl ⟨⟨_, rfl, rfl⟩, rfl, rfl, hΨ⟩
def s_X7_ship (i0 : Nat) (p1 : Int32) (p2 : Int32) (p3 : Int32) (p4 : Int32) (p5 : Int32) (p6 : Int32) (p7 : Int32) (g : Nat → Nat → Nat → Int32) (w : Nat → Nat → Nat → Int64) : Option (Int32 × GS) :=
  if (s_X7_in p1.toInt64 (1 : Int64) (50 : Int64) g w) = true then
    if (s_X7_in p2.toInt64 (0 : Int64) (9 : Int64) g w) = true then
      if (s_X7_isHour p3 g w) = true then
        if (s_X7_in p4.toInt64 (1 : Int64) (4 : Int64) g w) = true then
          if (s_X7_in p5.toInt64 (1 : Int64) (20 : Int64) g w) = true then
            if (s_X7_isBerth p6 g w) = true then
              if (s_X7_isBerth p7 g w) = true then
                if (lg_cmp (w 2218 0 (65 : Int32).toNatClampNeg) (8 : Int64)) ≠ 0 then
                  if inR (((130 : Int32) + ((11 : Int32) * (w 2218 0 (65 : Int32).toNatClampNeg).toInt32)) + (0 : Int32)) 218 = true then
                    if inR (((130 : Int32) + ((11 : Int32) * (w 2218 0 (65 : Int32).toNatClampNeg).toInt32)) + (1 : Int32)) 218 = true then
                      if inR (((130 : Int32) + ((11 : Int32) * (w 2218 0 (65 : Int32).toNatClampNeg).toInt32)) + (2 : Int32)) 218 = true then
                        if inR (((130 : Int32) + ((11 : Int32) * (w 2218 0 (65 : Int32).toNatClampNeg).toInt32)) + (3 : Int32)) 218 = true then
                          if inR (((130 : Int32) + ((11 : Int32) * (w 2218 0 (65 : Int32).toNatClampNeg).toInt32)) + (4 : Int32)) 218 = true then
                            if inR (((130 : Int32) + ((11 : Int32) * (w 2218 0 (65 : Int32).toNatClampNeg).toInt32)) + (5 : Int32)) 218 = true then
                              if inR (((130 : Int32) + ((11 : Int32) * (w 2218 0 (65 : Int32).toNatClampNeg).toInt32)) + (6 : Int32)) 218 = true then
                                if inR (((130 : Int32) + ((11 : Int32) * (w 2218 0 (65 : Int32).toNatClampNeg).toInt32)) + (7 : Int32)) 218 = true then
                                  if inR (((130 : Int32) + ((11 : Int32) * (w 2218 0 (65 : Int32).toNatClampNeg).toInt32)) + (8 : Int32)) 218 = true then
                                    some (((((wL (wL (wL (wL (wL (wL (wL (wL (wL (wL w 2218 0 (((130 : Int32) + ((11 : Int32) * (w 2218 0 (65 : Int32).toNatClampNeg).toInt32)) + (0 : Int32)).toNatClampNeg p1.toInt64) 2218 0 (((130 : Int32) + ((11 : Int32) * (w 2218 0 (65 : Int32).toNatClampNeg).toInt32)) + (1 : Int32)).toNatClampNeg p2.toInt64) 2218 0 (((130 : Int32) + ((11 : Int32) * (w 2218 0 (65 : Int32).toNatClampNeg).toInt32)) + (2 : Int32)).toNatClampNeg p3.toInt64) 2218 0 (((130 : Int32) + ((11 : Int32) * (w 2218 0 (65 : Int32).toNatClampNeg).toInt32)) + (3 : Int32)).toNatClampNeg p4.toInt64) 2218 0 (((130 : Int32) + ((11 : Int32) * (w 2218 0 (65 : Int32).toNatClampNeg).toInt32)) + (4 : Int32)).toNatClampNeg p5.toInt64) 2218 0 (((130 : Int32) + ((11 : Int32) * (w 2218 0 (65 : Int32).toNatClampNeg).toInt32)) + (5 : Int32)).toNatClampNeg p6.toInt64) 2218 0 (((130 : Int32) + ((11 : Int32) * (w 2218 0 (65 : Int32).toNatClampNeg).toInt32)) + (6 : Int32)).toNatClampNeg p7.toInt64) 2218 0 (((130 : Int32) + ((11 : Int32) * (w 2218 0 (65 : Int32).toNatClampNeg).toInt32)) + (7 : Int32)).toNatClampNeg (-4 : Int64)) 2218 0 (((130 : Int32) + ((11 : Int32) * (w 2218 0 (65 : Int32).toNatClampNeg).toInt32)) + (8 : Int32)).toNatClampNeg (0 : Int64)) 2218 0 (65 : Int32).toNatClampNeg (((wL (wL (wL (wL (wL (wL (wL (wL (wL w 2218 0 (((130 : Int32) + ((11 : Int32) * (w 2218 0 (65 : Int32).toNatClampNeg).toInt32)) + (0 : Int32)).toNatClampNeg p1.toInt64) 2218 0 (((130 : Int32) + ((11 : Int32) * (w 2218 0 (65 : Int32).toNatClampNeg).toInt32)) + (1 : Int32)).toNatClampNeg p2.toInt64) 2218 0 (((130 : Int32) + ((11 : Int32) * (w 2218 0 (65 : Int32).toNatClampNeg).toInt32)) + (2 : Int32)).toNatClampNeg p3.toInt64) 2218 0 (((130 : Int32) + ((11 : Int32) * (w 2218 0 (65 : Int32).toNatClampNeg).toInt32)) + (3 : Int32)).toNatClampNeg p4.toInt64) 2218 0 (((130 : Int32) + ((11 : Int32) * (w 2218 0 (65 : Int32).toNatClampNeg).toInt32)) + (4 : Int32)).toNatClampNeg p5.toInt64) 2218 0 (((130 : Int32) + ((11 : Int32) * (w 2218 0 (65 : Int32).toNatClampNeg).toInt32)) + (5 : Int32)).toNatClampNeg p6.toInt64) 2218 0 (((130 : Int32) + ((11 : Int32) * (w 2218 0 (65 : Int32).toNatClampNeg).toInt32)) + (6 : Int32)).toNatClampNeg p7.toInt64) 2218 0 (((130 : Int32) + ((11 : Int32) * (w 2218 0 (65 : Int32).toNatClampNeg).toInt32)) + (7 : Int32)).toNatClampNeg (-4 : Int64)) 2218 0 (((130 : Int32) + ((11 : Int32) * (w 2218 0 (65 : Int32).toNatClampNeg).toInt32)) + (8 : Int32)).toNatClampNeg (0 : Int64)) 2218 0 (65 : Int32).toNatClampNeg) + (1 : Int64))) 2218 0 (65 : Int32).toNatClampNeg).toInt32 - (1 : Int32)), g, (wL (wL (wL (wL (wL (wL (wL (wL (wL (wL w 2218 0 (((130 : Int32) + ((11 : Int32) * (w 2218 0 (65 : Int32).toNatClampNeg).toInt32)) + (0 : Int32)).toNatClampNeg p1.toInt64) 2218 0 (((130 : Int32) + ((11 : Int32) * (w 2218 0 (65 : Int32).toNatClampNeg).toInt32)) + (1 : Int32)).toNatClampNeg p2.toInt64) 2218 0 (((130 : Int32) + ((11 : Int32) * (w 2218 0 (65 : Int32).toNatClampNeg).toInt32)) + (2 : Int32)).toNatClampNeg p3.toInt64) 2218 0 (((130 : Int32) + ((11 : Int32) * (w 2218 0 (65 : Int32).toNatClampNeg).toInt32)) + (3 : Int32)).toNatClampNeg p4.toInt64) 2218 0 (((130 : Int32) + ((11 : Int32) * (w 2218 0 (65 : Int32).toNatClampNeg).toInt32)) + (4 : Int32)).toNatClampNeg p5.toInt64) 2218 0 (((130 : Int32) + ((11 : Int32) * (w 2218 0 (65 : Int32).toNatClampNeg).toInt32)) + (5 : Int32)).toNatClampNeg p6.toInt64) 2218 0 (((130 : Int32) + ((11 : Int32) * (w 2218 0 (65 : Int32).toNatClampNeg).toInt32)) + (6 : Int32)).toNatClampNeg p7.toInt64) 2218 0 (((130 : Int32) + ((11 : Int32) * (w 2218 0 (65 : Int32).toNatClampNeg).toInt32)) + (7 : Int32)).toNatClampNeg (-4 : Int64)) 2218 0 (((130 : Int32) + ((11 : Int32) * (w 2218 0 (65 : Int32).toNatClampNeg).toInt32)) + (8 : Int32)).toNatClampNeg (0 : Int64)) 2218 0 (65 : Int32).toNatClampNeg (((wL (wL (wL (wL (wL (wL (wL (wL (wL w 2218 0 (((130 : Int32) + ((11 : Int32) * (w 2218 0 (65 : Int32).toNatClampNeg).toInt32)) + (0 : Int32)).toNatClampNeg p1.toInt64) 2218 0 (((130 : Int32) + ((11 : Int32) * (w 2218 0 (65 : Int32).toNatClampNeg).toInt32)) + (1 : Int32)).toNatClampNeg p2.toInt64) 2218 0 (((130 : Int32) + ((11 : Int32) * (w 2218 0 (65 : Int32).toNatClampNeg).toInt32)) + (2 : Int32)).toNatClampNeg p3.toInt64) 2218 0 (((130 : Int32) + ((11 : Int32) * (w 2218 0 (65 : Int32).toNatClampNeg).toInt32)) + (3 : Int32)).toNatClampNeg p4.toInt64) 2218 0 (((130 : Int32) + ((11 : Int32) * (w 2218 0 (65 : Int32).toNatClampNeg).toInt32)) + (4 : Int32)).toNatClampNeg p5.toInt64) 2218 0 (((130 : Int32) + ((11 : Int32) * (w 2218 0 (65 : Int32).toNatClampNeg).toInt32)) + (5 : Int32)).toNatClampNeg p6.toInt64) 2218 0 (((130 : Int32) + ((11 : Int32) * (w 2218 0 (65 : Int32).toNatClampNeg).toInt32)) + (6 : Int32)).toNatClampNeg p7.toInt64) 2218 0 (((130 : Int32) + ((11 : Int32) * (w 2218 0 (65 : Int32).toNatClampNeg).toInt32)) + (7 : Int32)).toNatClampNeg (-4 : Int64)) 2218 0 (((130 : Int32) + ((11 : Int32) * (w 2218 0 (65 : Int32).toNatClampNeg).toInt32)) + (8 : Int32)).toNatClampNeg (0 : Int64)) 2218 0 (65 : Int32).toNatClampNeg) + (1 : Int64)))))
                                  else none
                                else none
                              else none
                            else none
                          else none
                        else none
                      else none
                    else none
                  else none
                else
                  some (((-3 : Int32), g, w))
              else
                s_X7_ship_73 i0 p1 p2 p3 p4 p5 p6 p7 g w
            else
              s_X7_ship_73 i0 p1 p2 p3 p4 p5 p6 p7 g w
          else
            s_X7_ship_73 i0 p1 p2 p3 p4 p5 p6 p7 g w
        else
          s_X7_ship_73 i0 p1 p2 p3 p4 p5 p6 p7 g w
      else
        s_X7_ship_73 i0 p1 p2 p3 p4 p5 p6 p7 g w
    else
      s_X7_ship_73 i0 p1 p2 p3 p4 p5 p6 p7 g w
  else
    s_X7_ship_73 i0 p1 p2 p3 p4 p5 p6 p7 g w
set_option maxRecDepth 20000 in
set_option maxHeartbeats 2000000 in
theorem d_X7_ship {d : Nat} {i0 : Nat} {p1 : Int32} {p2 : Int32} {p3 : Int32} {p4 : Int32} {p5 : Int32} {p6 : Int32} {p7 : Int32} {g : Nat → Nat → Nat → Int32} {w : Nat → Nat → Nat → Int64} {r : Int32 × GS} (h : s_X7_ship i0 p1 p2 p3 p4 p5 p6 p7 g w = some r) : Does (EvM mth (d + 3)) 130 [aR 7 i0, aI p1, aI p2, aI p3, aI p4, aI p5, aI p6, aI p7] (L0, g, w, q0) (some (aI r.1)) (L0, r.2.1, r.2.2, q0) := by
  intro Ψ hΨ
  refine ⟨in_130, mth_130, Nat.le_of_ble_eq_true rfl, ?_⟩
  show Ev (EvM mth (d + 2)) mth c00 sc0 (retP (some .int) c00 Ψ) (lkp es_130) 0 [some (aR 7 i0), some (aI p1), some (aI p2), some (aI p3), some (aI p4), some (aI p5), some (aI p6), some (aI p7), none] [] (L0, g, w, q0)
  unfold s_X7_ship at h
  refine ev_iload_n (pc' := 1) rfl rfl rfl ?_
  refine ev_i2l (pc' := 2) rfl rfl ?_
  refine ev_lconst (pc' := 3) rfl rfl (v := (1 : Int64)) (by decide) ?_
  refine ev_ldc2_w (pc' := 6) rfl rfl (v := (50 : Int64)) (by decide) ?_
  refine ev_S3I (pc' := 9) rfl (by decide) rfl mth_115 ⟨Nat.le_of_ble_eq_true rfl, rfl⟩ ⟨Nat.le_refl _, Nat.le_refl _⟩ d_X7_in ?_
  refine ev_ifB_eq rfl (pc' := 12) rfl (fun hc => ?_) (fun hc => ?_)
  · have h := (if_neg hc).symm.trans h
    exact e_X7_ship_73 hΨ h
  · have h := (if_pos hc).symm.trans h
    refine ev_iload_n (pc' := 13) rfl rfl rfl ?_
    refine ev_i2l (pc' := 14) rfl rfl ?_
    refine ev_lconst (pc' := 15) rfl rfl (v := (0 : Int64)) (by decide) ?_
    refine ev_ldc2_w (pc' := 18) rfl rfl (v := (9 : Int64)) (by decide) ?_
    refine ev_S3I (pc' := 21) rfl (by decide) rfl mth_115 ⟨Nat.le_of_ble_eq_true rfl, rfl⟩ ⟨Nat.le_refl _, Nat.le_refl _⟩ d_X7_in ?_
    refine ev_ifB_eq rfl (pc' := 24) rfl (fun hc => ?_) (fun hc => ?_)
    · have h := (if_neg hc).symm.trans h
      exact e_X7_ship_73 hΨ h
    · have h := (if_pos hc).symm.trans h
      refine ev_iload_n (pc' := 25) rfl rfl rfl ?_
      refine ev_S1I (pc' := 28) rfl (by decide) rfl mth_116 ⟨Nat.le_of_ble_eq_true rfl, rfl⟩ ⟨Nat.le_refl _, Nat.le_refl _⟩ d_X7_isHour ?_
      refine ev_ifB_eq rfl (pc' := 31) rfl (fun hc => ?_) (fun hc => ?_)
      · have h := (if_neg hc).symm.trans h
        exact e_X7_ship_73 hΨ h
      · have h := (if_pos hc).symm.trans h
        refine ev_iload (pc' := 33) rfl rfl rfl ?_
        refine ev_i2l (pc' := 34) rfl rfl ?_
        refine ev_lconst (pc' := 35) rfl rfl (v := (1 : Int64)) (by decide) ?_
        refine ev_ldc2_w (pc' := 38) rfl rfl (v := (4 : Int64)) (by decide) ?_
        refine ev_S3I (pc' := 41) rfl (by decide) rfl mth_115 ⟨Nat.le_of_ble_eq_true rfl, rfl⟩ ⟨Nat.le_refl _, Nat.le_refl _⟩ d_X7_in ?_
        refine ev_ifB_eq rfl (pc' := 44) rfl (fun hc => ?_) (fun hc => ?_)
        · have h := (if_neg hc).symm.trans h
          exact e_X7_ship_73 hΨ h
        · have h := (if_pos hc).symm.trans h
          refine ev_iload (pc' := 46) rfl rfl rfl ?_
          refine ev_i2l (pc' := 47) rfl rfl ?_
          refine ev_lconst (pc' := 48) rfl rfl (v := (1 : Int64)) (by decide) ?_
          refine ev_ldc2_w (pc' := 51) rfl rfl (v := (20 : Int64)) (by decide) ?_
          refine ev_S3I (pc' := 54) rfl (by decide) rfl mth_115 ⟨Nat.le_of_ble_eq_true rfl, rfl⟩ ⟨Nat.le_refl _, Nat.le_refl _⟩ d_X7_in ?_
          refine ev_ifB_eq rfl (pc' := 57) rfl (fun hc => ?_) (fun hc => ?_)
          · have h := (if_neg hc).symm.trans h
            exact e_X7_ship_73 hΨ h
          · have h := (if_pos hc).symm.trans h
            refine ev_iload (pc' := 59) rfl rfl rfl ?_
            refine ev_S1I (pc' := 62) rfl (by decide) rfl mth_121 ⟨Nat.le_of_ble_eq_true rfl, rfl⟩ ⟨Nat.le_refl _, Nat.le_refl _⟩ d_X7_isBerth ?_
            refine ev_ifB_eq rfl (pc' := 65) rfl (fun hc => ?_) (fun hc => ?_)
            · have h := (if_neg hc).symm.trans h
              exact e_X7_ship_73 hΨ h
            · have h := (if_pos hc).symm.trans h
              refine ev_iload (pc' := 67) rfl rfl rfl ?_
              refine ev_S1I (pc' := 70) rfl (by decide) rfl mth_121 ⟨Nat.le_of_ble_eq_true rfl, rfl⟩ ⟨Nat.le_refl _, Nat.le_refl _⟩ d_X7_isBerth ?_
              refine ev_ifB_ne rfl (pc' := 73) rfl (fun hc => ?_) (fun hc => ?_)
              · have h := (if_pos hc).symm.trans h
                refine ev_aload_n (pc' := 76) rfl rfl rfl ?_
                refine ev_getQ (pc' := 79) rfl rfl rfl ?_
                refine ev_bipush (pc' := 81) rfl rfl (v := (65 : Int32)) (by decide) ?_
                refine ev_lald (pc' := 82) rfl rfl rfl (inR_vp (by decide)) ?_
                refine ev_ldc2_w (pc' := 85) rfl rfl (v := (8 : Int64)) (by decide) ?_
                refine ev_lcmp (pc' := 86) rfl rfl ?_
                refine ev_if_ne rfl (pc' := 89) rfl (fun hc => ?_) (fun hc => ?_)
                · have h := (if_pos hc).symm.trans h
                  refine ev_sipush (pc' := 95) rfl rfl (v := (130 : Int32)) (by decide) ?_
                  refine ev_bipush (pc' := 97) rfl rfl (v := (11 : Int32)) (by decide) ?_
                  refine ev_aload_n (pc' := 98) rfl rfl rfl ?_
                  refine ev_getQ (pc' := 101) rfl rfl rfl ?_
                  refine ev_bipush (pc' := 103) rfl rfl (v := (65 : Int32)) (by decide) ?_
                  refine ev_lald (pc' := 104) rfl rfl rfl (inR_vp (by decide)) ?_
                  refine ev_l2i (pc' := 105) rfl rfl ?_
                  refine ev_imul (pc' := 106) rfl rfl ?_
                  refine ev_iadd (pc' := 107) rfl rfl ?_
                  refine ev_istore (pc' := 109) rfl rfl (l' := [some (aR 7 i0), some (aI p1), some (aI p2), some (aI p3), some (aI p4), some (aI p5), some (aI p6), some (aI p7), some (aI ((130 : Int32) + ((11 : Int32) * (w 2218 0 (65 : Int32).toNatClampNeg).toInt32)))]) rfl ?_
                  refine ev_aload_n (pc' := 110) rfl rfl rfl ?_
                  refine ev_getQ (pc' := 113) rfl rfl rfl ?_
                  refine ev_iload (pc' := 115) rfl rfl rfl ?_
                  refine ev_iconst (pc' := 116) rfl rfl (v := (0 : Int32)) (by decide) ?_
                  refine ev_iadd (pc' := 117) rfl rfl ?_
                  refine ev_iload_n (pc' := 118) rfl rfl rfl ?_
                  refine ev_i2l (pc' := 119) rfl rfl ?_
                  obtain ⟨hi, h⟩ := gdB h
                  refine ev_last (pc' := 120) rfl rfl rfl (inR_vp hi) ?_
                  refine ev_aload_n (pc' := 121) rfl rfl rfl ?_
                  refine ev_getQ (pc' := 124) rfl rfl rfl ?_
                  refine ev_iload (pc' := 126) rfl rfl rfl ?_
                  refine ev_iconst (pc' := 127) rfl rfl (v := (1 : Int32)) (by decide) ?_
                  refine ev_iadd (pc' := 128) rfl rfl ?_
                  refine ev_iload_n (pc' := 129) rfl rfl rfl ?_
                  refine ev_i2l (pc' := 130) rfl rfl ?_
                  obtain ⟨hi, h⟩ := gdB h
                  refine ev_last (pc' := 131) rfl rfl rfl (inR_vp hi) ?_
                  refine ev_aload_n (pc' := 132) rfl rfl rfl ?_
                  refine ev_getQ (pc' := 135) rfl rfl rfl ?_
                  refine ev_iload (pc' := 137) rfl rfl rfl ?_
                  refine ev_iconst (pc' := 138) rfl rfl (v := (2 : Int32)) (by decide) ?_
                  refine ev_iadd (pc' := 139) rfl rfl ?_
                  refine ev_iload_n (pc' := 140) rfl rfl rfl ?_
                  refine ev_i2l (pc' := 141) rfl rfl ?_
                  obtain ⟨hi, h⟩ := gdB h
                  refine ev_last (pc' := 142) rfl rfl rfl (inR_vp hi) ?_
                  refine ev_aload_n (pc' := 143) rfl rfl rfl ?_
                  refine ev_getQ (pc' := 146) rfl rfl rfl ?_
                  refine ev_iload (pc' := 148) rfl rfl rfl ?_
                  refine ev_iconst (pc' := 149) rfl rfl (v := (3 : Int32)) (by decide) ?_
                  refine ev_iadd (pc' := 150) rfl rfl ?_
                  refine ev_iload (pc' := 152) rfl rfl rfl ?_
                  refine ev_i2l (pc' := 153) rfl rfl ?_
                  obtain ⟨hi, h⟩ := gdB h
                  refine ev_last (pc' := 154) rfl rfl rfl (inR_vp hi) ?_
                  refine ev_aload_n (pc' := 155) rfl rfl rfl ?_
                  refine ev_getQ (pc' := 158) rfl rfl rfl ?_
                  refine ev_iload (pc' := 160) rfl rfl rfl ?_
                  refine ev_iconst (pc' := 161) rfl rfl (v := (4 : Int32)) (by decide) ?_
                  refine ev_iadd (pc' := 162) rfl rfl ?_
                  refine ev_iload (pc' := 164) rfl rfl rfl ?_
                  refine ev_i2l (pc' := 165) rfl rfl ?_
                  obtain ⟨hi, h⟩ := gdB h
                  refine ev_last (pc' := 166) rfl rfl rfl (inR_vp hi) ?_
                  refine ev_aload_n (pc' := 167) rfl rfl rfl ?_
                  refine ev_getQ (pc' := 170) rfl rfl rfl ?_
                  refine ev_iload (pc' := 172) rfl rfl rfl ?_
                  refine ev_iconst (pc' := 173) rfl rfl (v := (5 : Int32)) (by decide) ?_
                  refine ev_iadd (pc' := 174) rfl rfl ?_
                  refine ev_iload (pc' := 176) rfl rfl rfl ?_
                  refine ev_i2l (pc' := 177) rfl rfl ?_
                  obtain ⟨hi, h⟩ := gdB h
                  refine ev_last (pc' := 178) rfl rfl rfl (inR_vp hi) ?_
                  refine ev_aload_n (pc' := 179) rfl rfl rfl ?_
                  refine ev_getQ (pc' := 182) rfl rfl rfl ?_
                  refine ev_iload (pc' := 184) rfl rfl rfl ?_
                  refine ev_bipush (pc' := 186) rfl rfl (v := (6 : Int32)) (by decide) ?_
                  refine ev_iadd (pc' := 187) rfl rfl ?_
                  refine ev_iload (pc' := 189) rfl rfl rfl ?_
                  refine ev_i2l (pc' := 190) rfl rfl ?_
                  obtain ⟨hi, h⟩ := gdB h
                  refine ev_last (pc' := 191) rfl rfl rfl (inR_vp hi) ?_
                  refine ev_aload_n (pc' := 192) rfl rfl rfl ?_
                  refine ev_getQ (pc' := 195) rfl rfl rfl ?_
                  refine ev_iload (pc' := 197) rfl rfl rfl ?_
                  refine ev_bipush (pc' := 199) rfl rfl (v := (7 : Int32)) (by decide) ?_
                  refine ev_iadd (pc' := 200) rfl rfl ?_
                  refine ev_ldc2_w (pc' := 203) rfl rfl (v := (-4 : Int64)) (by decide) ?_
                  obtain ⟨hi, h⟩ := gdB h
                  refine ev_last (pc' := 204) rfl rfl rfl (inR_vp hi) ?_
                  refine ev_aload_n (pc' := 205) rfl rfl rfl ?_
                  refine ev_getQ (pc' := 208) rfl rfl rfl ?_
                  refine ev_iload (pc' := 210) rfl rfl rfl ?_
                  refine ev_bipush (pc' := 212) rfl rfl (v := (8 : Int32)) (by decide) ?_
                  refine ev_iadd (pc' := 213) rfl rfl ?_
                  refine ev_lconst (pc' := 214) rfl rfl (v := (0 : Int64)) (by decide) ?_
                  obtain ⟨hi, h⟩ := gdB h
                  refine ev_last (pc' := 215) rfl rfl rfl (inR_vp hi) ?_
                  refine ev_aload_n (pc' := 216) rfl rfl rfl ?_
                  refine ev_getQ (pc' := 219) rfl rfl rfl ?_
                  refine ev_bipush (pc' := 221) rfl rfl (v := (65 : Int32)) (by decide) ?_
                  refine ev_dup2 (pc' := 222) rfl rfl rfl rfl ?_
                  refine ev_lald (pc' := 223) rfl rfl rfl (inR_vp (by decide)) ?_
                  refine ev_lconst (pc' := 224) rfl rfl (v := (1 : Int64)) (by decide) ?_
                  refine ev_ladd (pc' := 225) rfl rfl ?_
                  refine ev_last (pc' := 226) rfl rfl rfl (inR_vp (by decide)) ?_
                  refine ev_aload_n (pc' := 227) rfl rfl rfl ?_
                  refine ev_getQ (pc' := 230) rfl rfl rfl ?_
                  refine ev_bipush (pc' := 232) rfl rfl (v := (65 : Int32)) (by decide) ?_
                  refine ev_lald (pc' := 233) rfl rfl rfl (inR_vp (by decide)) ?_
                  refine ev_l2i (pc' := 234) rfl rfl ?_
                  refine ev_iconst (pc' := 235) rfl rfl (v := (1 : Int32)) (by decide) ?_
                  refine ev_isub (pc' := 236) rfl rfl ?_
                  obtain rfl := Option.some.inj h
                  exact ev_ireturn rfl ⟨⟨_, rfl, rfl⟩, rfl, rfl, hΨ⟩
                · have h := (if_neg hc).symm.trans h
                  refine ev_bipush (pc' := 91) rfl rfl (v := (-3 : Int32)) (by decide) ?_
                  obtain rfl := Option.some.inj h
                  exact ev_ireturn rfl ⟨⟨_, rfl, rfl⟩, rfl, rfl, hΨ⟩
              · have h := (if_neg hc).symm.trans h
                exact e_X7_ship_73 hΨ h
def s_X7_needs_25 (i0 : Nat) (p1 : Int32) (p2 : Int32) (t0 : Int32) (g : Nat → Nat → Nat → Int32) (w : Nat → Nat → Nat → Int64) : Option (Int32) :=
  some (t0)
set_option maxRecDepth 20000 in
set_option maxHeartbeats 2000000 in
theorem e_X7_needs_25 {d : Nat} {Ψ : Option AV → DS → Prop} {i0 : Nat} {p1 : Int32} {p2 : Int32} {r : Int32} {g : Nat → Nat → Nat → Int32} {w : Nat → Nat → Nat → Int64} {t0 : Int32} {x0 : Option AV} {x1 : Option AV} {x2 : Option AV} (hΨ : Ψ (some (aI r)) (L0, g, w, q0)) (h : s_X7_needs_25 i0 p1 p2 t0 g w = some r) : Ev (EvM mth (d + 2)) mth c00 sc0 (retP (some .int) c00 Ψ) (lkp es_132) 25 [x0, x1, x2] [aI t0] (L0, g, w, q0) := by
  unfold s_X7_needs_25 at h
  obtain rfl := Option.some.inj h
  exact ev_ireturn rfl ⟨⟨_, rfl, rfl⟩, rfl, rfl, hΨ⟩
def s_X7_needs_24 (i0 : Nat) (p1 : Int32) (p2 : Int32) (g : Nat → Nat → Nat → Int32) (w : Nat → Nat → Nat → Int64) : Option (Int32) :=
  s_X7_needs_25 i0 p1 p2 (-1 : Int32) g w
set_option maxRecDepth 20000 in
set_option maxHeartbeats 2000000 in
theorem e_X7_needs_24 {d : Nat} {Ψ : Option AV → DS → Prop} {i0 : Nat} {p1 : Int32} {p2 : Int32} {r : Int32} {g : Nat → Nat → Nat → Int32} {w : Nat → Nat → Nat → Int64} {x0 : Option AV} {x1 : Option AV} {x2 : Option AV} (hΨ : Ψ (some (aI r)) (L0, g, w, q0)) (h : s_X7_needs_24 i0 p1 p2 g w = some r) : Ev (EvM mth (d + 2)) mth c00 sc0 (retP (some .int) c00 Ψ) (lkp es_132) 24 [x0, x1, x2] [] (L0, g, w, q0) := by
  unfold s_X7_needs_24 at h
  refine ev_iconst (pc' := 25) rfl rfl (v := (-1 : Int32)) (by decide) ?_
  exact e_X7_needs_25 hΨ h
def s_X7_needs (i0 : Nat) (p1 : Int32) (p2 : Int32) (g : Nat → Nat → Nat → Int32) (w : Nat → Nat → Nat → Int64) : Option (Int32) :=
  if (s_X7_isShip i0 p1 g w) = true then
    if (s_X7_isHour p2 g w) = true then
      (s_X7_needsOf i0 p1 p2 g w).bind fun q1 =>
      s_X7_needs_25 i0 p1 p2 q1 g w
    else
      s_X7_needs_24 i0 p1 p2 g w
  else
    s_X7_needs_24 i0 p1 p2 g w
set_option maxRecDepth 20000 in
set_option maxHeartbeats 2000000 in
theorem d_X7_needs {d : Nat} {i0 : Nat} {p1 : Int32} {p2 : Int32} {g : Nat → Nat → Nat → Int32} {w : Nat → Nat → Nat → Int64} {r : Int32} (h : s_X7_needs i0 p1 p2 g w = some r) : Does (EvM mth (d + 3)) 132 [aR 7 i0, aI p1, aI p2] (L0, g, w, q0) (some (aI r)) (L0, g, w, q0) := by
  intro Ψ hΨ
  refine ⟨in_132, mth_132, Nat.le_of_ble_eq_true rfl, ?_⟩
  show Ev (EvM mth (d + 2)) mth c00 sc0 (retP (some .int) c00 Ψ) (lkp es_132) 0 [some (aR 7 i0), some (aI p1), some (aI p2)] [] (L0, g, w, q0)
  unfold s_X7_needs at h
  refine ev_aload_n (pc' := 1) rfl rfl rfl ?_
  refine ev_iload_n (pc' := 2) rfl rfl rfl ?_
  refine ev_V2I (pc' := 5) rfl (by decide) rfl mth_120 ⟨Nat.le_of_ble_eq_true rfl, rfl⟩ ⟨Nat.le_refl _, Nat.le_refl _⟩ d_X7_isShip ?_
  refine ev_ifB_eq rfl (pc' := 8) rfl (fun hc => ?_) (fun hc => ?_)
  · have h := (if_neg hc).symm.trans h
    exact e_X7_needs_24 hΨ h
  · have h := (if_pos hc).symm.trans h
    refine ev_iload_n (pc' := 9) rfl rfl rfl ?_
    refine ev_S1I (pc' := 12) rfl (by decide) rfl mth_116 ⟨Nat.le_of_ble_eq_true rfl, rfl⟩ ⟨Nat.le_refl _, Nat.le_refl _⟩ d_X7_isHour ?_
    refine ev_ifB_eq rfl (pc' := 15) rfl (fun hc => ?_) (fun hc => ?_)
    · have h := (if_neg hc).symm.trans h
      exact e_X7_needs_24 hΨ h
    · have h := (if_pos hc).symm.trans h
      refine ev_aload_n (pc' := 16) rfl rfl rfl ?_
      refine ev_iload_n (pc' := 17) rfl rfl rfl ?_
      refine ev_iload_n (pc' := 18) rfl rfl rfl ?_
      obtain ⟨q1, hq1, h⟩ := Option.bind_eq_some_iff.mp h
      refine ev_V3I (pc' := 21) rfl (by decide) rfl mth_131 ⟨Nat.le_of_ble_eq_true rfl, rfl⟩ ⟨Nat.le_refl _, Nat.le_refl _⟩ (d_X7_needsOf hq1) ?_
      refine ev_goto (pc' := 25) rfl ?_
      exact e_X7_needs_25 hΨ h
def s_X7_fuel_37 (i0 : Nat) (p1 : Int32) (p2 : Int32) (t0 : Int32) (g : Nat → Nat → Nat → Int32) (w : Nat → Nat → Nat → Int64) : Option (Int32) :=
  some (t0)
set_option maxRecDepth 20000 in
set_option maxHeartbeats 2000000 in
theorem e_X7_fuel_37 {d : Nat} {Ψ : Option AV → DS → Prop} {i0 : Nat} {p1 : Int32} {p2 : Int32} {r : Int32} {g : Nat → Nat → Nat → Int32} {w : Nat → Nat → Nat → Int64} {t0 : Int32} {x0 : Option AV} {x1 : Option AV} {x2 : Option AV} (hΨ : Ψ (some (aI r)) (L0, g, w, q0)) (h : s_X7_fuel_37 i0 p1 p2 t0 g w = some r) : Ev (EvM mth (d + 2)) mth c00 sc0 (retP (some .int) c00 Ψ) (lkp es_138) 37 [x0, x1, x2] [aI t0] (L0, g, w, q0) := by
  unfold s_X7_fuel_37 at h
  obtain rfl := Option.some.inj h
  exact ev_ireturn rfl ⟨⟨_, rfl, rfl⟩, rfl, rfl, hΨ⟩
def s_X7_fuel_36 (i0 : Nat) (p1 : Int32) (p2 : Int32) (g : Nat → Nat → Nat → Int32) (w : Nat → Nat → Nat → Int64) : Option (Int32) :=
  s_X7_fuel_37 i0 p1 p2 (-1 : Int32) g w
set_option maxRecDepth 20000 in
set_option maxHeartbeats 2000000 in
theorem e_X7_fuel_36 {d : Nat} {Ψ : Option AV → DS → Prop} {i0 : Nat} {p1 : Int32} {p2 : Int32} {r : Int32} {g : Nat → Nat → Nat → Int32} {w : Nat → Nat → Nat → Int64} {x0 : Option AV} {x1 : Option AV} {x2 : Option AV} (hΨ : Ψ (some (aI r)) (L0, g, w, q0)) (h : s_X7_fuel_36 i0 p1 p2 g w = some r) : Ev (EvM mth (d + 2)) mth c00 sc0 (retP (some .int) c00 Ψ) (lkp es_138) 36 [x0, x1, x2] [] (L0, g, w, q0) := by
  unfold s_X7_fuel_36 at h
  refine ev_iconst (pc' := 37) rfl rfl (v := (-1 : Int32)) (by decide) ?_
  exact e_X7_fuel_37 hΨ h
def s_X7_fuel (i0 : Nat) (p1 : Int32) (p2 : Int32) (g : Nat → Nat → Nat → Int32) (w : Nat → Nat → Nat → Int64) : Option (Int32) :=
  if (s_X7_isTug i0 p1 g w) = true then
    if (s_X7_in p2.toInt64 (-1 : Int64) (47 : Int64) g w) = true then
      (s_X7_workOf i0 p1 g w).bind fun q1 =>
      (s_X7_fuelBehind i0 p1 q1 p2 g w).bind fun q2 =>
      s_X7_fuel_37 i0 p1 p2 q2 g w
    else
      s_X7_fuel_36 i0 p1 p2 g w
  else
    s_X7_fuel_36 i0 p1 p2 g w
set_option maxRecDepth 20000 in
set_option maxHeartbeats 2000000 in
theorem d_X7_fuel {d : Nat} {i0 : Nat} {p1 : Int32} {p2 : Int32} {g : Nat → Nat → Nat → Int32} {w : Nat → Nat → Nat → Int64} {r : Int32} (h : s_X7_fuel i0 p1 p2 g w = some r) : Does (EvM mth (d + 3)) 138 [aR 7 i0, aI p1, aI p2] (L0, g, w, q0) (some (aI r)) (L0, g, w, q0) := by
  intro Ψ hΨ
  refine ⟨in_138, mth_138, Nat.le_of_ble_eq_true rfl, ?_⟩
  show Ev (EvM mth (d + 2)) mth c00 sc0 (retP (some .int) c00 Ψ) (lkp es_138) 0 [some (aR 7 i0), some (aI p1), some (aI p2)] [] (L0, g, w, q0)
  unfold s_X7_fuel at h
  refine ev_aload_n (pc' := 1) rfl rfl rfl ?_
  refine ev_iload_n (pc' := 2) rfl rfl rfl ?_
  refine ev_V2I (pc' := 5) rfl (by decide) rfl mth_119 ⟨Nat.le_of_ble_eq_true rfl, rfl⟩ ⟨Nat.le_refl _, Nat.le_refl _⟩ d_X7_isTug ?_
  refine ev_ifB_eq rfl (pc' := 8) rfl (fun hc => ?_) (fun hc => ?_)
  · have h := (if_neg hc).symm.trans h
    exact e_X7_fuel_36 hΨ h
  · have h := (if_pos hc).symm.trans h
    refine ev_iload_n (pc' := 9) rfl rfl rfl ?_
    refine ev_i2l (pc' := 10) rfl rfl ?_
    refine ev_ldc2_w (pc' := 13) rfl rfl (v := (-1 : Int64)) (by decide) ?_
    refine ev_ldc2_w (pc' := 16) rfl rfl (v := (47 : Int64)) (by decide) ?_
    refine ev_S3I (pc' := 19) rfl (by decide) rfl mth_115 ⟨Nat.le_of_ble_eq_true rfl, rfl⟩ ⟨Nat.le_refl _, Nat.le_refl _⟩ d_X7_in ?_
    refine ev_ifB_eq rfl (pc' := 22) rfl (fun hc => ?_) (fun hc => ?_)
    · have h := (if_neg hc).symm.trans h
      exact e_X7_fuel_36 hΨ h
    · have h := (if_pos hc).symm.trans h
      refine ev_aload_n (pc' := 23) rfl rfl rfl ?_
      refine ev_iload_n (pc' := 24) rfl rfl rfl ?_
      refine ev_aload_n (pc' := 25) rfl rfl rfl ?_
      refine ev_iload_n (pc' := 26) rfl rfl rfl ?_
      obtain ⟨q1, hq1, h⟩ := Option.bind_eq_some_iff.mp h
      refine ev_V2L (pc' := 29) rfl (by decide) rfl mth_135 ⟨Nat.le_of_ble_eq_true rfl, rfl⟩ ⟨Nat.le_refl _, Nat.le_refl _⟩ (d_X7_workOf hq1) ?_
      refine ev_iload_n (pc' := 30) rfl rfl rfl ?_
      obtain ⟨q2, hq2, h⟩ := Option.bind_eq_some_iff.mp h
      refine ev_V4I (pc' := 33) rfl (by decide) rfl mth_137 ⟨Nat.le_of_ble_eq_true rfl, rfl⟩ ⟨Nat.le_refl _, Nat.le_refl _⟩ (d_X7_fuelBehind hq2) ?_
      refine ev_goto (pc' := 37) rfl ?_
      exact e_X7_fuel_37 hΨ h
def s_X7_bunker_66 (i0 : Nat) (p1 : Int32) (p2 : Int32) (g : Nat → Nat → Nat → Int32) (w : Nat → Nat → Nat → Int64) : Option (Int32 × GS) :=
  some (((-2 : Int32), g, w))
set_option maxRecDepth 20000 in
set_option maxHeartbeats 2000000 in
theorem e_X7_bunker_66 {d : Nat} {Ψ : Option AV → DS → Prop} {i0 : Nat} {p1 : Int32} {p2 : Int32} {r : Int32 × GS} {g : Nat → Nat → Nat → Int32} {w : Nat → Nat → Nat → Int64} {x0 : Option AV} {x1 : Option AV} {x2 : Option AV} (hΨ : Ψ (some (aI r.1)) (L0, r.2.1, r.2.2, q0)) (h : s_X7_bunker_66 i0 p1 p2 g w = some r) : Ev (EvM mth (d + 2)) mth c00 sc0 (retP (some .int) c00 Ψ) (lkp es_139) 66 [x0, x1, x2] [] (L0, g, w, q0) := by
  unfold s_X7_bunker_66 at h
  refine ev_bipush (pc' := 68) rfl rfl (v := (-2 : Int32)) (by decide) ?_
  obtain rfl := Option.some.inj h
  exact ev_ireturn rfl ⟨⟨_, rfl, rfl⟩, rfl, rfl, hΨ⟩
def s_X7_bunker_15 (i0 : Nat) (p1 : Int32) (p2 : Int32) (g : Nat → Nat → Nat → Int32) (w : Nat → Nat → Nat → Int64) : Option (Int32 × GS) :=
  some (((-1 : Int32), g, w))
set_option maxRecDepth 20000 in
set_option maxHeartbeats 2000000 in
theorem e_X7_bunker_15 {d : Nat} {Ψ : Option AV → DS → Prop} {i0 : Nat} {p1 : Int32} {p2 : Int32} {r : Int32 × GS} {g : Nat → Nat → Nat → Int32} {w : Nat → Nat → Nat → Int64} {x0 : Option AV} {x1 : Option AV} {x2 : Option AV} (hΨ : Ψ (some (aI r.1)) (L0, r.2.1, r.2.2, q0)) (h : s_X7_bunker_15 i0 p1 p2 g w = some r) : Ev (EvM mth (d + 2)) mth c00 sc0 (retP (some .int) c00 Ψ) (lkp es_139) 15 [x0, x1, x2] [] (L0, g, w, q0) := by
  unfold s_X7_bunker_15 at h
  refine ev_iconst (pc' := 16) rfl rfl (v := (-1 : Int32)) (by decide) ?_
  obtain rfl := Option.some.inj h
  exact ev_ireturn rfl ⟨⟨_, rfl, rfl⟩, rfl, rfl, hΨ⟩
def s_X7_bunker (i0 : Nat) (p1 : Int32) (p2 : Int32) (g : Nat → Nat → Nat → Int32) (w : Nat → Nat → Nat → Int64) : Option (Int32 × GS) :=
  if (s_X7_isTug i0 p1 g w) = true then
    if (s_X7_isHour p2 g w) = true then
      (s_X7_workOf i0 p1 g w).bind fun q1 =>
      if (s_X7_has q1 p2 g w) = true then
        s_X7_bunker_66 i0 p1 p2 g w
      else
        (s_X7_bunkersOf i0 p1 g w).bind fun q2 =>
        if (s_X7_has q2 p2 g w) = true then
          s_X7_bunker_66 i0 p1 p2 g w
        else
          (s_X7_ofTug i0 p1 (7 : Int32) g w).bind fun q3 =>
          if q3 ≤ p2 then
            s_X7_bunker_66 i0 p1 p2 g w
          else
            if (s_X7_has (w 2218 0 (63 : Int32).toNatClampNeg) p2 g w) = true then
              s_X7_bunker_66 i0 p1 p2 g w
            else
              if inR (((70 : Int32) + ((10 : Int32) * p1)) + (9 : Int32)) 218 = true then
                if inR (((70 : Int32) + ((10 : Int32) * p1)) + (9 : Int32)) 218 = true then
                  (s_X7_workOf i0 p1 g (wL w 2218 0 (((70 : Int32) + ((10 : Int32) * p1)) + (9 : Int32)).toNatClampNeg ((w 2218 0 (((70 : Int32) + ((10 : Int32) * p1)) + (9 : Int32)).toNatClampNeg) ||| ((1 : Int64) <<< (p2.toInt64 &&& 63))))).bind fun q4 =>
                  (s_X7_fuelBehind i0 p1 q4 (47 : Int32) g (wL w 2218 0 (((70 : Int32) + ((10 : Int32) * p1)) + (9 : Int32)).toNatClampNeg ((w 2218 0 (((70 : Int32) + ((10 : Int32) * p1)) + (9 : Int32)).toNatClampNeg) ||| ((1 : Int64) <<< (p2.toInt64 &&& 63))))).bind fun q5 =>
                  some ((q5, g, (wL w 2218 0 (((70 : Int32) + ((10 : Int32) * p1)) + (9 : Int32)).toNatClampNeg ((w 2218 0 (((70 : Int32) + ((10 : Int32) * p1)) + (9 : Int32)).toNatClampNeg) ||| ((1 : Int64) <<< (p2.toInt64 &&& 63))))))
                else none
              else none
    else
      s_X7_bunker_15 i0 p1 p2 g w
  else
    s_X7_bunker_15 i0 p1 p2 g w
set_option maxRecDepth 20000 in
set_option maxHeartbeats 2000000 in
theorem d_X7_bunker {d : Nat} {i0 : Nat} {p1 : Int32} {p2 : Int32} {g : Nat → Nat → Nat → Int32} {w : Nat → Nat → Nat → Int64} {r : Int32 × GS} (h : s_X7_bunker i0 p1 p2 g w = some r) : Does (EvM mth (d + 3)) 139 [aR 7 i0, aI p1, aI p2] (L0, g, w, q0) (some (aI r.1)) (L0, r.2.1, r.2.2, q0) := by
  intro Ψ hΨ
  refine ⟨in_139, mth_139, Nat.le_of_ble_eq_true rfl, ?_⟩
  show Ev (EvM mth (d + 2)) mth c00 sc0 (retP (some .int) c00 Ψ) (lkp es_139) 0 [some (aR 7 i0), some (aI p1), some (aI p2)] [] (L0, g, w, q0)
  unfold s_X7_bunker at h
  refine ev_aload_n (pc' := 1) rfl rfl rfl ?_
  refine ev_iload_n (pc' := 2) rfl rfl rfl ?_
  refine ev_V2I (pc' := 5) rfl (by decide) rfl mth_119 ⟨Nat.le_of_ble_eq_true rfl, rfl⟩ ⟨Nat.le_refl _, Nat.le_refl _⟩ d_X7_isTug ?_
  refine ev_ifB_eq rfl (pc' := 8) rfl (fun hc => ?_) (fun hc => ?_)
  · have h := (if_neg hc).symm.trans h
    exact e_X7_bunker_15 hΨ h
  · have h := (if_pos hc).symm.trans h
    refine ev_iload_n (pc' := 9) rfl rfl rfl ?_
    refine ev_S1I (pc' := 12) rfl (by decide) rfl mth_116 ⟨Nat.le_of_ble_eq_true rfl, rfl⟩ ⟨Nat.le_refl _, Nat.le_refl _⟩ d_X7_isHour ?_
    refine ev_ifB_ne rfl (pc' := 15) rfl (fun hc => ?_) (fun hc => ?_)
    · have h := (if_pos hc).symm.trans h
      refine ev_aload_n (pc' := 18) rfl rfl rfl ?_
      refine ev_iload_n (pc' := 19) rfl rfl rfl ?_
      obtain ⟨q1, hq1, h⟩ := Option.bind_eq_some_iff.mp h
      refine ev_V2L (pc' := 22) rfl (by decide) rfl mth_135 ⟨Nat.le_of_ble_eq_true rfl, rfl⟩ ⟨Nat.le_refl _, Nat.le_refl _⟩ (d_X7_workOf hq1) ?_
      refine ev_iload_n (pc' := 23) rfl rfl rfl ?_
      refine ev_S2I (pc' := 26) rfl (by decide) rfl mth_133 ⟨Nat.le_of_ble_eq_true rfl, rfl⟩ ⟨Nat.le_refl _, Nat.le_refl _⟩ d_X7_has ?_
      refine ev_ifB_ne rfl (pc' := 29) rfl (fun hc => ?_) (fun hc => ?_)
      · have h := (if_pos hc).symm.trans h
        exact e_X7_bunker_66 hΨ h
      · have h := (if_neg hc).symm.trans h
        refine ev_aload_n (pc' := 30) rfl rfl rfl ?_
        refine ev_iload_n (pc' := 31) rfl rfl rfl ?_
        obtain ⟨q2, hq2, h⟩ := Option.bind_eq_some_iff.mp h
        refine ev_V2L (pc' := 34) rfl (by decide) rfl mth_136 ⟨Nat.le_of_ble_eq_true rfl, rfl⟩ ⟨Nat.le_refl _, Nat.le_refl _⟩ (d_X7_bunkersOf hq2) ?_
        refine ev_iload_n (pc' := 35) rfl rfl rfl ?_
        refine ev_S2I (pc' := 38) rfl (by decide) rfl mth_133 ⟨Nat.le_of_ble_eq_true rfl, rfl⟩ ⟨Nat.le_refl _, Nat.le_refl _⟩ d_X7_has ?_
        refine ev_ifB_ne rfl (pc' := 41) rfl (fun hc => ?_) (fun hc => ?_)
        · have h := (if_pos hc).symm.trans h
          exact e_X7_bunker_66 hΨ h
        · have h := (if_neg hc).symm.trans h
          refine ev_aload_n (pc' := 42) rfl rfl rfl ?_
          refine ev_iload_n (pc' := 43) rfl rfl rfl ?_
          refine ev_bipush (pc' := 45) rfl rfl (v := (7 : Int32)) (by decide) ?_
          obtain ⟨q3, hq3, h⟩ := Option.bind_eq_some_iff.mp h
          refine ev_V3I (pc' := 48) rfl (by decide) rfl mth_117 ⟨Nat.le_of_ble_eq_true rfl, rfl⟩ ⟨Nat.le_refl _, Nat.le_refl _⟩ (d_X7_ofTug hq3) ?_
          refine ev_iload_n (pc' := 49) rfl rfl rfl ?_
          refine ev_icmp_le rfl (pc' := 52) rfl (fun hc => ?_) (fun hc => ?_)
          · have h := (if_pos hc).symm.trans h
            exact e_X7_bunker_66 hΨ h
          · have h := (if_neg hc).symm.trans h
            refine ev_aload_n (pc' := 53) rfl rfl rfl ?_
            refine ev_getQ (pc' := 56) rfl rfl rfl ?_
            refine ev_bipush (pc' := 58) rfl rfl (v := (63 : Int32)) (by decide) ?_
            refine ev_lald (pc' := 59) rfl rfl rfl (inR_vp (by decide)) ?_
            refine ev_iload_n (pc' := 60) rfl rfl rfl ?_
            refine ev_S2I (pc' := 63) rfl (by decide) rfl mth_133 ⟨Nat.le_of_ble_eq_true rfl, rfl⟩ ⟨Nat.le_refl _, Nat.le_refl _⟩ d_X7_has ?_
            refine ev_ifB_eq rfl (pc' := 66) rfl (fun hc => ?_) (fun hc => ?_)
            · have h := (if_neg hc).symm.trans h
              refine ev_aload_n (pc' := 70) rfl rfl rfl ?_
              refine ev_getQ (pc' := 73) rfl rfl rfl ?_
              refine ev_bipush (pc' := 75) rfl rfl (v := (70 : Int32)) (by decide) ?_
              refine ev_bipush (pc' := 77) rfl rfl (v := (10 : Int32)) (by decide) ?_
              refine ev_iload_n (pc' := 78) rfl rfl rfl ?_
              refine ev_imul (pc' := 79) rfl rfl ?_
              refine ev_iadd (pc' := 80) rfl rfl ?_
              refine ev_bipush (pc' := 82) rfl rfl (v := (9 : Int32)) (by decide) ?_
              refine ev_iadd (pc' := 83) rfl rfl ?_
              refine ev_dup2 (pc' := 84) rfl rfl rfl rfl ?_
              obtain ⟨hi, h⟩ := gdB h
              refine ev_lald (pc' := 85) rfl rfl rfl (inR_vp hi) ?_
              refine ev_lconst (pc' := 86) rfl rfl (v := (1 : Int64)) (by decide) ?_
              refine ev_iload_n (pc' := 87) rfl rfl rfl ?_
              refine ev_lshl (pc' := 88) rfl rfl ?_
              refine ev_lor (pc' := 89) rfl rfl ?_
              obtain ⟨hi, h⟩ := gdB h
              refine ev_last (pc' := 90) rfl rfl rfl (inR_vp hi) ?_
              refine ev_aload_n (pc' := 91) rfl rfl rfl ?_
              refine ev_iload_n (pc' := 92) rfl rfl rfl ?_
              refine ev_aload_n (pc' := 93) rfl rfl rfl ?_
              refine ev_iload_n (pc' := 94) rfl rfl rfl ?_
              obtain ⟨q4, hq4, h⟩ := Option.bind_eq_some_iff.mp h
              refine ev_V2L (pc' := 97) rfl (by decide) rfl mth_135 ⟨Nat.le_of_ble_eq_true rfl, rfl⟩ ⟨Nat.le_refl _, Nat.le_refl _⟩ (d_X7_workOf hq4) ?_
              refine ev_bipush (pc' := 99) rfl rfl (v := (47 : Int32)) (by decide) ?_
              obtain ⟨q5, hq5, h⟩ := Option.bind_eq_some_iff.mp h
              refine ev_V4I (pc' := 102) rfl (by decide) rfl mth_137 ⟨Nat.le_of_ble_eq_true rfl, rfl⟩ ⟨Nat.le_refl _, Nat.le_refl _⟩ (d_X7_fuelBehind hq5) ?_
              obtain rfl := Option.some.inj h
              exact ev_ireturn rfl ⟨⟨_, rfl, rfl⟩, rfl, rfl, hΨ⟩
            · have h := (if_pos hc).symm.trans h
              exact e_X7_bunker_66 hΨ h
    · have h := (if_neg hc).symm.trans h
      exact e_X7_bunker_15 hΨ h
def s_X7_isOf_28 (i0 : Nat) (p1 : Int32) (p2 : Int32) (t0 : Bool) (g : Nat → Nat → Nat → Int32) (w : Nat → Nat → Nat → Int64) : Option (Bool) :=
  some (t0)
set_option maxRecDepth 20000 in
set_option maxHeartbeats 2000000 in
theorem e_X7_isOf_28 {d : Nat} {Ψ : Option AV → DS → Prop} {i0 : Nat} {p1 : Int32} {p2 : Int32} {r : Bool} {g : Nat → Nat → Nat → Int32} {w : Nat → Nat → Nat → Int64} {t0 : Bool} {x0 : Option AV} {x1 : Option AV} {x2 : Option AV} (hΨ : Ψ (some (aI (bI r))) (L0, g, w, q0)) (h : s_X7_isOf_28 i0 p1 p2 t0 g w = some r) : Ev (EvM mth (d + 2)) mth c00 sc0 (retP (some .boolean) c00 Ψ) (lkp es_143) 28 [x0, x1, x2] [aI (bI t0)] (L0, g, w, q0) := by
  unfold s_X7_isOf_28 at h
  obtain rfl := Option.some.inj h
  exact ev_ireturn rfl ⟨⟨_, rfl, nar_bI _⟩, rfl, rfl, hΨ⟩
def s_X7_isOf_27 (i0 : Nat) (p1 : Int32) (p2 : Int32) (g : Nat → Nat → Nat → Int32) (w : Nat → Nat → Nat → Int64) : Option (Bool) :=
  s_X7_isOf_28 i0 p1 p2 false g w
set_option maxRecDepth 20000 in
set_option maxHeartbeats 2000000 in
theorem e_X7_isOf_27 {d : Nat} {Ψ : Option AV → DS → Prop} {i0 : Nat} {p1 : Int32} {p2 : Int32} {r : Bool} {g : Nat → Nat → Nat → Int32} {w : Nat → Nat → Nat → Int64} {x0 : Option AV} {x1 : Option AV} {x2 : Option AV} (hΨ : Ψ (some (aI (bI r))) (L0, g, w, q0)) (h : s_X7_isOf_27 i0 p1 p2 g w = some r) : Ev (EvM mth (d + 2)) mth c00 sc0 (retP (some .boolean) c00 Ψ) (lkp es_143) 27 [x0, x1, x2] [] (L0, g, w, q0) := by
  unfold s_X7_isOf_27 at h
  refine ev_iconst (pc' := 28) rfl rfl (v := (0 : Int32)) (by decide) ?_
  exact e_X7_isOf_28 hΨ h
def s_X7_isOf (i0 : Nat) (p1 : Int32) (p2 : Int32) (g : Nat → Nat → Nat → Int32) (w : Nat → Nat → Nat → Int64) : Option (Bool) :=
  (s_X7_hasJob i0 p1 g w).bind fun q1 =>
  if q1 = true then
    (s_X7_ofShip i0 p1 (8 : Int32) g w).bind fun q2 =>
    if ((q2 >>> (p2 &&& 31)) &&& (1 : Int32)) ≠ (1 : Int32) then
      s_X7_isOf_27 i0 p1 p2 g w
    else
      s_X7_isOf_28 i0 p1 p2 true g w
  else
    s_X7_isOf_27 i0 p1 p2 g w
set_option maxRecDepth 20000 in
set_option maxHeartbeats 2000000 in
theorem d_X7_isOf {d : Nat} {i0 : Nat} {p1 : Int32} {p2 : Int32} {g : Nat → Nat → Nat → Int32} {w : Nat → Nat → Nat → Int64} {r : Bool} (h : s_X7_isOf i0 p1 p2 g w = some r) : Does (EvM mth (d + 3)) 143 [aR 7 i0, aI p1, aI p2] (L0, g, w, q0) (some (aI (bI r))) (L0, g, w, q0) := by
  intro Ψ hΨ
  refine ⟨in_143, mth_143, Nat.le_of_ble_eq_true rfl, ?_⟩
  show Ev (EvM mth (d + 2)) mth c00 sc0 (retP (some .boolean) c00 Ψ) (lkp es_143) 0 [some (aR 7 i0), some (aI p1), some (aI p2)] [] (L0, g, w, q0)
  unfold s_X7_isOf at h
  refine ev_aload_n (pc' := 1) rfl rfl rfl ?_
  refine ev_iload_n (pc' := 2) rfl rfl rfl ?_
  obtain ⟨q1, hq1, h⟩ := Option.bind_eq_some_iff.mp h
  refine ev_V2I (pc' := 5) rfl (by decide) rfl mth_125 ⟨Nat.le_of_ble_eq_true rfl, rfl⟩ ⟨Nat.le_refl _, Nat.le_refl _⟩ (d_X7_hasJob hq1) ?_
  refine ev_ifB_eq rfl (pc' := 8) rfl (fun hc => ?_) (fun hc => ?_)
  · have h := (if_neg hc).symm.trans h
    exact e_X7_isOf_27 hΨ h
  · have h := (if_pos hc).symm.trans h
    refine ev_aload_n (pc' := 9) rfl rfl rfl ?_
    refine ev_iload_n (pc' := 10) rfl rfl rfl ?_
    refine ev_bipush (pc' := 12) rfl rfl (v := (8 : Int32)) (by decide) ?_
    obtain ⟨q2, hq2, h⟩ := Option.bind_eq_some_iff.mp h
    refine ev_V3I (pc' := 15) rfl (by decide) rfl mth_118 ⟨Nat.le_of_ble_eq_true rfl, rfl⟩ ⟨Nat.le_refl _, Nat.le_refl _⟩ (d_X7_ofShip hq2) ?_
    refine ev_iload_n (pc' := 16) rfl rfl rfl ?_
    refine ev_ishr (pc' := 17) rfl rfl ?_
    refine ev_iconst (pc' := 18) rfl rfl (v := (1 : Int32)) (by decide) ?_
    refine ev_iand (pc' := 19) rfl rfl ?_
    refine ev_iconst (pc' := 20) rfl rfl (v := (1 : Int32)) (by decide) ?_
    refine ev_icmp_ne rfl (pc' := 23) rfl (fun hc => ?_) (fun hc => ?_)
    · have h := (if_pos hc).symm.trans h
      exact e_X7_isOf_27 hΨ h
    · have h := (if_neg hc).symm.trans h
      refine ev_iconst (pc' := 24) rfl rfl (v := (1 : Int32)) (by decide) ?_
      refine ev_goto (pc' := 28) rfl ?_
      exact e_X7_isOf_28 hΨ h
def s_X7_isBarred_148 (i0 : Nat) (p1 : Int32) (p2 : Int32) (rec15 : Int32 → Bool → Int32 → (Nat → Nat → Nat → Int32) → (Nat → Nat → Nat → Int64) → Option (Bool)) (v3 : Int32) (v4 : Bool) (v5 : Int32) (g : Nat → Nat → Nat → Int32) (w : Nat → Nat → Nat → Int64) : Option (Bool) :=
  rec15 v3 v4 (v5 + 1) g w
set_option maxRecDepth 20000 in
set_option maxHeartbeats 2000000 in
theorem e_X7_isBarred_148 {d : Nat} {Ψ : Option AV → DS → Prop} {i0 : Nat} {p1 : Int32} {p2 : Int32} {rec15 : Int32 → Bool → Int32 → (Nat → Nat → Nat → Int32) → (Nat → Nat → Nat → Int64) → Option (Bool)} {r : Bool} {g : Nat → Nat → Nat → Int32} {w : Nat → Nat → Nat → Int64} {v3 : Int32} {v4 : Bool} {v5 : Int32} {x6 : Option AV} {x7 : Option AV} (hr15 : ∀ {v3 : Int32} {v4 : Bool} {v5 : Int32} {x6 : Option AV} {x7 : Option AV} , rec15 v3 v4 v5 g w = some r → Ev (EvM mth (d + 2)) mth c00 sc0 (retP (some .boolean) c00 Ψ) (lkp es_146) 15 [some (aR 7 i0), some (aI p1), some (aI p2), some (aI v3), some (aI (bI v4)), some (aI v5), x6, x7] [] (L0, g, w, q0)) (hΨ : Ψ (some (aI (bI r))) (L0, g, w, q0)) (h : s_X7_isBarred_148 i0 p1 p2 rec15 v3 v4 v5 g w = some r) : Ev (EvM mth (d + 2)) mth c00 sc0 (retP (some .boolean) c00 Ψ) (lkp es_146) 148 [some (aR 7 i0), some (aI p1), some (aI p2), some (aI v3), some (aI (bI v4)), some (aI v5), x6, x7] [] (L0, g, w, q0) := by
  unfold s_X7_isBarred_148 at h
  refine ev_iinc (pc' := 151) rfl rfl (l' := [some (aR 7 i0), some (aI p1), some (aI p2), some (aI v3), some (aI (bI v4)), some (aI (v5 + 1)), x6, x7]) rfl (ii_1 _) rfl ?_
  refine ev_goto (pc' := 15) rfl ?_
  exact hr15 h
def s_X7_isBarred_146 (i0 : Nat) (p1 : Int32) (p2 : Int32) (rec15 : Int32 → Bool → Int32 → (Nat → Nat → Nat → Int32) → (Nat → Nat → Nat → Int64) → Option (Bool)) (t0 : Bool) (v3 : Int32) (v5 : Int32) (g : Nat → Nat → Nat → Int32) (w : Nat → Nat → Nat → Int64) : Option (Bool) :=
  s_X7_isBarred_148 i0 p1 p2 rec15 v3 t0 v5 g w
set_option maxRecDepth 20000 in
set_option maxHeartbeats 2000000 in
theorem e_X7_isBarred_146 {d : Nat} {Ψ : Option AV → DS → Prop} {i0 : Nat} {p1 : Int32} {p2 : Int32} {rec15 : Int32 → Bool → Int32 → (Nat → Nat → Nat → Int32) → (Nat → Nat → Nat → Int64) → Option (Bool)} {r : Bool} {g : Nat → Nat → Nat → Int32} {w : Nat → Nat → Nat → Int64} {t0 : Bool} {v3 : Int32} {v5 : Int32} {x4 : Option AV} {x6 : Option AV} {x7 : Option AV} (hr15 : ∀ {v3 : Int32} {v4 : Bool} {v5 : Int32} {x6 : Option AV} {x7 : Option AV} , rec15 v3 v4 v5 g w = some r → Ev (EvM mth (d + 2)) mth c00 sc0 (retP (some .boolean) c00 Ψ) (lkp es_146) 15 [some (aR 7 i0), some (aI p1), some (aI p2), some (aI v3), some (aI (bI v4)), some (aI v5), x6, x7] [] (L0, g, w, q0)) (hΨ : Ψ (some (aI (bI r))) (L0, g, w, q0)) (h : s_X7_isBarred_146 i0 p1 p2 rec15 t0 v3 v5 g w = some r) : Ev (EvM mth (d + 2)) mth c00 sc0 (retP (some .boolean) c00 Ψ) (lkp es_146) 146 [some (aR 7 i0), some (aI p1), some (aI p2), some (aI v3), x4, some (aI v5), x6, x7] [aI (bI t0)] (L0, g, w, q0) := by
  unfold s_X7_isBarred_146 at h
  refine ev_istore (pc' := 148) rfl rfl (l' := [some (aR 7 i0), some (aI p1), some (aI p2), some (aI v3), some (aI (bI t0)), some (aI v5), x6, x7]) rfl ?_
  exact e_X7_isBarred_148 (hr15 := hr15) hΨ h
def s_X7_isBarred_141 (i0 : Nat) (p1 : Int32) (p2 : Int32) (rec15 : Int32 → Bool → Int32 → (Nat → Nat → Nat → Int32) → (Nat → Nat → Nat → Int64) → Option (Bool)) (v3 : Int32) (v5 : Int32) (g : Nat → Nat → Nat → Int32) (w : Nat → Nat → Nat → Int64) : Option (Bool) :=
  s_X7_isBarred_146 i0 p1 p2 rec15 true v3 v5 g w
set_option maxRecDepth 20000 in
set_option maxHeartbeats 2000000 in
theorem e_X7_isBarred_141 {d : Nat} {Ψ : Option AV → DS → Prop} {i0 : Nat} {p1 : Int32} {p2 : Int32} {rec15 : Int32 → Bool → Int32 → (Nat → Nat → Nat → Int32) → (Nat → Nat → Nat → Int64) → Option (Bool)} {r : Bool} {g : Nat → Nat → Nat → Int32} {w : Nat → Nat → Nat → Int64} {v3 : Int32} {v5 : Int32} {x4 : Option AV} {x6 : Option AV} {x7 : Option AV} (hr15 : ∀ {v3 : Int32} {v4 : Bool} {v5 : Int32} {x6 : Option AV} {x7 : Option AV} , rec15 v3 v4 v5 g w = some r → Ev (EvM mth (d + 2)) mth c00 sc0 (retP (some .boolean) c00 Ψ) (lkp es_146) 15 [some (aR 7 i0), some (aI p1), some (aI p2), some (aI v3), some (aI (bI v4)), some (aI v5), x6, x7] [] (L0, g, w, q0)) (hΨ : Ψ (some (aI (bI r))) (L0, g, w, q0)) (h : s_X7_isBarred_141 i0 p1 p2 rec15 v3 v5 g w = some r) : Ev (EvM mth (d + 2)) mth c00 sc0 (retP (some .boolean) c00 Ψ) (lkp es_146) 141 [some (aR 7 i0), some (aI p1), some (aI p2), some (aI v3), x4, some (aI v5), x6, x7] [] (L0, g, w, q0) := by
  unfold s_X7_isBarred_141 at h
  refine ev_iconst (pc' := 142) rfl rfl (v := (1 : Int32)) (by decide) ?_
  refine ev_goto (pc' := 146) rfl ?_
  exact e_X7_isBarred_146 (hr15 := hr15) hΨ h
def s_X7_isBarred_15 (i0 : Nat) (p1 : Int32) (p2 : Int32) (rec15 : Int32 → Bool → Int32 → (Nat → Nat → Nat → Int32) → (Nat → Nat → Nat → Int64) → Option (Bool)) (v3 : Int32) (v4 : Bool) (v5 : Int32) (g : Nat → Nat → Nat → Int32) (w : Nat → Nat → Nat → Int64) : Option (Bool) :=
  if 0 ≤ (lg_cmp v5.toInt64 (w 2218 0 (65 : Int32).toNatClampNeg)) then
    some (v4)
  else
    if v5 = p1 then
      s_X7_isBarred_148 i0 p1 p2 rec15 v3 v4 v5 g w
    else
      (s_X7_hasJob i0 v5 g w).bind fun q1 =>
      if q1 = true then
        (s_X7_ofShip i0 v5 (7 : Int32) g w).bind fun q2 =>
        if v3 ≤ q2 then
          s_X7_isBarred_148 i0 p1 p2 rec15 v3 v4 v5 g w
        else
          (s_X7_last i0 v5 g w).bind fun q3 =>
          if q3 < p2 then
            s_X7_isBarred_148 i0 p1 p2 rec15 v3 v4 v5 g w
          else
            (s_X7_ofShip i0 p1 (5 : Int32) g w).bind fun q4 =>
            if inR q4 6 = true then
              (s_X7_ofShip i0 p1 (6 : Int32) g w).bind fun q5 =>
              if inR q5 6 = true then
                (s_X7_ofShip i0 v5 (5 : Int32) g w).bind fun q6 =>
                if inR q6 6 = true then
                  (s_X7_ofShip i0 v5 (6 : Int32) g w).bind fun q7 =>
                  if inR q7 6 = true then
                    if v4 = true then
                      s_X7_isBarred_141 i0 p1 p2 rec15 v3 v5 g w
                    else
                      if ((((1 : Int32) <<< ((g 1006 3 q4.toNatClampNeg) &&& 31)) ||| ((1 : Int32) <<< ((g 1006 3 q5.toNatClampNeg) &&& 31))) &&& (((1 : Int32) <<< ((g 1006 3 q6.toNatClampNeg) &&& 31)) ||| ((1 : Int32) <<< ((g 1006 3 q7.toNatClampNeg) &&& 31)))) = 0 then
                        s_X7_isBarred_146 i0 p1 p2 rec15 false v3 v5 g w
                      else
                        s_X7_isBarred_141 i0 p1 p2 rec15 v3 v5 g w
                  else none
                else none
              else none
            else none
      else
        s_X7_isBarred_148 i0 p1 p2 rec15 v3 v4 v5 g w
set_option maxRecDepth 20000 in
set_option maxHeartbeats 2000000 in
theorem e_X7_isBarred_15 {d : Nat} {Ψ : Option AV → DS → Prop} {i0 : Nat} {p1 : Int32} {p2 : Int32} {rec15 : Int32 → Bool → Int32 → (Nat → Nat → Nat → Int32) → (Nat → Nat → Nat → Int64) → Option (Bool)} {r : Bool} {g : Nat → Nat → Nat → Int32} {w : Nat → Nat → Nat → Int64} {v3 : Int32} {v4 : Bool} {v5 : Int32} {x6 : Option AV} {x7 : Option AV} (hr15 : ∀ {v3 : Int32} {v4 : Bool} {v5 : Int32} {x6 : Option AV} {x7 : Option AV} , rec15 v3 v4 v5 g w = some r → Ev (EvM mth (d + 2)) mth c00 sc0 (retP (some .boolean) c00 Ψ) (lkp es_146) 15 [some (aR 7 i0), some (aI p1), some (aI p2), some (aI v3), some (aI (bI v4)), some (aI v5), x6, x7] [] (L0, g, w, q0)) (hΨ : Ψ (some (aI (bI r))) (L0, g, w, q0)) (h : s_X7_isBarred_15 i0 p1 p2 rec15 v3 v4 v5 g w = some r) : Ev (EvM mth (d + 2)) mth c00 sc0 (retP (some .boolean) c00 Ψ) (lkp es_146) 15 [some (aR 7 i0), some (aI p1), some (aI p2), some (aI v3), some (aI (bI v4)), some (aI v5), x6, x7] [] (L0, g, w, q0) := by
  unfold s_X7_isBarred_15 at h
  refine ev_iload (pc' := 17) rfl rfl rfl ?_
  refine ev_i2l (pc' := 18) rfl rfl ?_
  refine ev_aload_n (pc' := 19) rfl rfl rfl ?_
  refine ev_getQ (pc' := 22) rfl rfl rfl ?_
  refine ev_bipush (pc' := 24) rfl rfl (v := (65 : Int32)) (by decide) ?_
  refine ev_lald (pc' := 25) rfl rfl rfl (inR_vp (by decide)) ?_
  refine ev_lcmp (pc' := 26) rfl rfl ?_
  refine ev_if_ge rfl (pc' := 29) rfl (fun hc => ?_) (fun hc => ?_)
  · have h := (if_pos hc).symm.trans h
    refine ev_iload (pc' := 156) rfl rfl rfl ?_
    obtain rfl := Option.some.inj h
    exact ev_ireturn rfl ⟨⟨_, rfl, nar_bI _⟩, rfl, rfl, hΨ⟩
  · have h := (if_neg hc).symm.trans h
    refine ev_iload (pc' := 31) rfl rfl rfl ?_
    refine ev_iload_n (pc' := 32) rfl rfl rfl ?_
    refine ev_icmp_eq rfl (pc' := 35) rfl (fun hc => ?_) (fun hc => ?_)
    · have h := (if_pos hc).symm.trans h
      exact e_X7_isBarred_148 (hr15 := hr15) hΨ h
    · have h := (if_neg hc).symm.trans h
      refine ev_aload_n (pc' := 36) rfl rfl rfl ?_
      refine ev_iload (pc' := 38) rfl rfl rfl ?_
      obtain ⟨q1, hq1, h⟩ := Option.bind_eq_some_iff.mp h
      refine ev_V2I (pc' := 41) rfl (by decide) rfl mth_125 ⟨Nat.le_of_ble_eq_true rfl, rfl⟩ ⟨Nat.le_refl _, Nat.le_refl _⟩ (d_X7_hasJob hq1) ?_
      refine ev_ifB_eq rfl (pc' := 44) rfl (fun hc => ?_) (fun hc => ?_)
      · have h := (if_neg hc).symm.trans h
        exact e_X7_isBarred_148 (hr15 := hr15) hΨ h
      · have h := (if_pos hc).symm.trans h
        refine ev_aload_n (pc' := 45) rfl rfl rfl ?_
        refine ev_iload (pc' := 47) rfl rfl rfl ?_
        refine ev_bipush (pc' := 49) rfl rfl (v := (7 : Int32)) (by decide) ?_
        obtain ⟨q2, hq2, h⟩ := Option.bind_eq_some_iff.mp h
        refine ev_V3I (pc' := 52) rfl (by decide) rfl mth_118 ⟨Nat.le_of_ble_eq_true rfl, rfl⟩ ⟨Nat.le_refl _, Nat.le_refl _⟩ (d_X7_ofShip hq2) ?_
        refine ev_iload_n (pc' := 53) rfl rfl rfl ?_
        refine ev_icmp_ge rfl (pc' := 56) rfl (fun hc => ?_) (fun hc => ?_)
        · have h := (if_pos hc).symm.trans h
          exact e_X7_isBarred_148 (hr15 := hr15) hΨ h
        · have h := (if_neg hc).symm.trans h
          refine ev_aload_n (pc' := 57) rfl rfl rfl ?_
          refine ev_iload (pc' := 59) rfl rfl rfl ?_
          obtain ⟨q3, hq3, h⟩ := Option.bind_eq_some_iff.mp h
          refine ev_V2I (pc' := 62) rfl (by decide) rfl mth_142 ⟨Nat.le_of_ble_eq_true rfl, rfl⟩ ⟨Nat.le_refl _, Nat.le_refl _⟩ (d_X7_last hq3) ?_
          refine ev_iload_n (pc' := 63) rfl rfl rfl ?_
          refine ev_icmp_lt rfl (pc' := 66) rfl (fun hc => ?_) (fun hc => ?_)
          · have h := (if_pos hc).symm.trans h
            exact e_X7_isBarred_148 (hr15 := hr15) hΨ h
          · have h := (if_neg hc).symm.trans h
            refine ev_iconst (pc' := 67) rfl rfl (v := (1 : Int32)) (by decide) ?_
            refine ev_aload_n (pc' := 68) rfl rfl rfl ?_
            refine ev_getQ (pc' := 71) rfl rfl rfl ?_
            refine ev_aload_n (pc' := 72) rfl rfl rfl ?_
            refine ev_iload_n (pc' := 73) rfl rfl rfl ?_
            refine ev_iconst (pc' := 74) rfl rfl (v := (5 : Int32)) (by decide) ?_
            obtain ⟨q4, hq4, h⟩ := Option.bind_eq_some_iff.mp h
            refine ev_V3I (pc' := 77) rfl (by decide) rfl mth_118 ⟨Nat.le_of_ble_eq_true rfl, rfl⟩ ⟨Nat.le_refl _, Nat.le_refl _⟩ (d_X7_ofShip hq4) ?_
            obtain ⟨hi, h⟩ := gdB h
            refine ev_iald (pc' := 78) rfl rfl rfl (inR_vp hi) ?_
            refine ev_ishl (pc' := 79) rfl rfl ?_
            refine ev_iconst (pc' := 80) rfl rfl (v := (1 : Int32)) (by decide) ?_
            refine ev_aload_n (pc' := 81) rfl rfl rfl ?_
            refine ev_getQ (pc' := 84) rfl rfl rfl ?_
            refine ev_aload_n (pc' := 85) rfl rfl rfl ?_
            refine ev_iload_n (pc' := 86) rfl rfl rfl ?_
            refine ev_bipush (pc' := 88) rfl rfl (v := (6 : Int32)) (by decide) ?_
            obtain ⟨q5, hq5, h⟩ := Option.bind_eq_some_iff.mp h
            refine ev_V3I (pc' := 91) rfl (by decide) rfl mth_118 ⟨Nat.le_of_ble_eq_true rfl, rfl⟩ ⟨Nat.le_refl _, Nat.le_refl _⟩ (d_X7_ofShip hq5) ?_
            obtain ⟨hi, h⟩ := gdB h
            refine ev_iald (pc' := 92) rfl rfl rfl (inR_vp hi) ?_
            refine ev_ishl (pc' := 93) rfl rfl ?_
            refine ev_ior (pc' := 94) rfl rfl ?_
            refine ev_istore (pc' := 96) rfl rfl (l' := [some (aR 7 i0), some (aI p1), some (aI p2), some (aI v3), some (aI (bI v4)), some (aI v5), some (aI (((1 : Int32) <<< ((g 1006 3 q4.toNatClampNeg) &&& 31)) ||| ((1 : Int32) <<< ((g 1006 3 q5.toNatClampNeg) &&& 31)))), x7]) rfl ?_
            refine ev_iconst (pc' := 97) rfl rfl (v := (1 : Int32)) (by decide) ?_
            refine ev_aload_n (pc' := 98) rfl rfl rfl ?_
            refine ev_getQ (pc' := 101) rfl rfl rfl ?_
            refine ev_aload_n (pc' := 102) rfl rfl rfl ?_
            refine ev_iload (pc' := 104) rfl rfl rfl ?_
            refine ev_iconst (pc' := 105) rfl rfl (v := (5 : Int32)) (by decide) ?_
            obtain ⟨q6, hq6, h⟩ := Option.bind_eq_some_iff.mp h
            refine ev_V3I (pc' := 108) rfl (by decide) rfl mth_118 ⟨Nat.le_of_ble_eq_true rfl, rfl⟩ ⟨Nat.le_refl _, Nat.le_refl _⟩ (d_X7_ofShip hq6) ?_
            obtain ⟨hi, h⟩ := gdB h
            refine ev_iald (pc' := 109) rfl rfl rfl (inR_vp hi) ?_
            refine ev_ishl (pc' := 110) rfl rfl ?_
            refine ev_iconst (pc' := 111) rfl rfl (v := (1 : Int32)) (by decide) ?_
            refine ev_aload_n (pc' := 112) rfl rfl rfl ?_
            refine ev_getQ (pc' := 115) rfl rfl rfl ?_
            refine ev_aload_n (pc' := 116) rfl rfl rfl ?_
            refine ev_iload (pc' := 118) rfl rfl rfl ?_
            refine ev_bipush (pc' := 120) rfl rfl (v := (6 : Int32)) (by decide) ?_
            obtain ⟨q7, hq7, h⟩ := Option.bind_eq_some_iff.mp h
            refine ev_V3I (pc' := 123) rfl (by decide) rfl mth_118 ⟨Nat.le_of_ble_eq_true rfl, rfl⟩ ⟨Nat.le_refl _, Nat.le_refl _⟩ (d_X7_ofShip hq7) ?_
            obtain ⟨hi, h⟩ := gdB h
            refine ev_iald (pc' := 124) rfl rfl rfl (inR_vp hi) ?_
            refine ev_ishl (pc' := 125) rfl rfl ?_
            refine ev_ior (pc' := 126) rfl rfl ?_
            refine ev_istore (pc' := 128) rfl rfl (l' := [some (aR 7 i0), some (aI p1), some (aI p2), some (aI v3), some (aI (bI v4)), some (aI v5), some (aI (((1 : Int32) <<< ((g 1006 3 q4.toNatClampNeg) &&& 31)) ||| ((1 : Int32) <<< ((g 1006 3 q5.toNatClampNeg) &&& 31)))), some (aI (((1 : Int32) <<< ((g 1006 3 q6.toNatClampNeg) &&& 31)) ||| ((1 : Int32) <<< ((g 1006 3 q7.toNatClampNeg) &&& 31))))]) rfl ?_
            refine ev_iload (pc' := 130) rfl rfl rfl ?_
            refine ev_ifB_ne rfl (pc' := 133) rfl (fun hc => ?_) (fun hc => ?_)
            · have h := (if_pos hc).symm.trans h
              exact e_X7_isBarred_141 (hr15 := hr15) hΨ h
            · have h := (if_neg hc).symm.trans h
              refine ev_iload (pc' := 135) rfl rfl rfl ?_
              refine ev_iload (pc' := 137) rfl rfl rfl ?_
              refine ev_iand (pc' := 138) rfl rfl ?_
              refine ev_if_eq rfl (pc' := 141) rfl (fun hc => ?_) (fun hc => ?_)
              · have h := (if_pos hc).symm.trans h
                refine ev_iconst (pc' := 146) rfl rfl (v := (0 : Int32)) (by decide) ?_
                exact e_X7_isBarred_146 (hr15 := hr15) hΨ h
              · have h := (if_neg hc).symm.trans h
                exact e_X7_isBarred_141 (hr15 := hr15) hΨ h
def s_X7_isBarred_R15 (i0 : Nat) (p1 : Int32) (p2 : Int32) : Nat → Int32 → Bool → Int32 → (Nat → Nat → Nat → Int32) → (Nat → Nat → Nat → Int64) → Option (Bool)
  | 0 => fun _ _ _ _ _ => none
  | n + 1 => s_X7_isBarred_15 i0 p1 p2 (s_X7_isBarred_R15 i0 p1 p2 n)
theorem e_X7_isBarred_R15 {d : Nat} {Ψ : Option AV → DS → Prop} {i0 : Nat} {p1 : Int32} {p2 : Int32} {r : Bool} {g : Nat → Nat → Nat → Int32} {w : Nat → Nat → Nat → Int64} (hΨ : Ψ (some (aI (bI r))) (L0, g, w, q0)) : ∀ (n : Nat) {v3 : Int32} {v4 : Bool} {v5 : Int32} {x6 : Option AV} {x7 : Option AV}, s_X7_isBarred_R15 i0 p1 p2 n v3 v4 v5 g w = some r → Ev (EvM mth (d + 2)) mth c00 sc0 (retP (some .boolean) c00 Ψ) (lkp es_146) 15 [some (aR 7 i0), some (aI p1), some (aI p2), some (aI v3), some (aI (bI v4)), some (aI v5), x6, x7] [] (L0, g, w, q0) := by
  intro n
  induction n with
  | zero => intros; rename_i h; exact absurd h (by intro h9; cases h9)
  | succ n ih => intros; rename_i h; exact e_X7_isBarred_15 (hr15 := ih) hΨ h
def s_X7_isBarred (i0 : Nat) (p1 : Int32) (p2 : Int32) (g : Nat → Nat → Nat → Int32) (w : Nat → Nat → Nat → Int64) : Option (Bool) :=
  (s_X7_ofShip i0 p1 (3 : Int32) g w).bind fun q1 =>
  s_X7_isBarred_R15 i0 p1 p2 FU (p2 + q1) false (0 : Int32) g w
set_option maxRecDepth 20000 in
set_option maxHeartbeats 2000000 in
theorem d_X7_isBarred {d : Nat} {i0 : Nat} {p1 : Int32} {p2 : Int32} {g : Nat → Nat → Nat → Int32} {w : Nat → Nat → Nat → Int64} {r : Bool} (h : s_X7_isBarred i0 p1 p2 g w = some r) : Does (EvM mth (d + 3)) 146 [aR 7 i0, aI p1, aI p2] (L0, g, w, q0) (some (aI (bI r))) (L0, g, w, q0) := by
  intro Ψ hΨ
  refine ⟨in_146, mth_146, Nat.le_of_ble_eq_true rfl, ?_⟩
  show Ev (EvM mth (d + 2)) mth c00 sc0 (retP (some .boolean) c00 Ψ) (lkp es_146) 0 [some (aR 7 i0), some (aI p1), some (aI p2), none, none, none, none, none] [] (L0, g, w, q0)
  unfold s_X7_isBarred at h
  refine ev_iload_n (pc' := 1) rfl rfl rfl ?_
  refine ev_aload_n (pc' := 2) rfl rfl rfl ?_
  refine ev_iload_n (pc' := 3) rfl rfl rfl ?_
  refine ev_iconst (pc' := 4) rfl rfl (v := (3 : Int32)) (by decide) ?_
  obtain ⟨q1, hq1, h⟩ := Option.bind_eq_some_iff.mp h
  refine ev_V3I (pc' := 7) rfl (by decide) rfl mth_118 ⟨Nat.le_of_ble_eq_true rfl, rfl⟩ ⟨Nat.le_refl _, Nat.le_refl _⟩ (d_X7_ofShip hq1) ?_
  refine ev_iadd (pc' := 8) rfl rfl ?_
  refine ev_istore_n (pc' := 9) rfl rfl (l' := [some (aR 7 i0), some (aI p1), some (aI p2), some (aI (p2 + q1)), none, none, none, none]) rfl ?_
  refine ev_iconst (pc' := 10) rfl rfl (v := (0 : Int32)) (by decide) ?_
  refine ev_istore (pc' := 12) rfl rfl (l' := [some (aR 7 i0), some (aI p1), some (aI p2), some (aI (p2 + q1)), some (aI (0 : Int32)), none, none, none]) rfl ?_
  refine ev_iconst (pc' := 13) rfl rfl (v := (0 : Int32)) (by decide) ?_
  refine ev_istore (pc' := 15) rfl rfl (l' := [some (aR 7 i0), some (aI p1), some (aI p2), some (aI (p2 + q1)), some (aI (0 : Int32)), some (aI (0 : Int32)), none, none]) rfl ?_
  exact e_X7_isBarred_R15 hΨ FU h
def s_X7_failsTogether_264 (i0 : Nat) (p1 : Int32) (p2 : Int32) (p3 : Int32) (p4 : Int32) (t0 : Bool) (g : Nat → Nat → Nat → Int32) (w : Nat → Nat → Nat → Int64) : Option (Bool) :=
  some (t0)
set_option maxRecDepth 20000 in
set_option maxHeartbeats 2000000 in
theorem e_X7_failsTogether_264 {d : Nat} {Ψ : Option AV → DS → Prop} {i0 : Nat} {p1 : Int32} {p2 : Int32} {p3 : Int32} {p4 : Int32} {r : Bool} {g : Nat → Nat → Nat → Int32} {w : Nat → Nat → Nat → Int64} {t0 : Bool} {x0 : Option AV} {x1 : Option AV} {x2 : Option AV} {x3 : Option AV} {x4 : Option AV} {x5 : Option AV} {x6 : Option AV} {x7 : Option AV} {x8 : Option AV} {x9 : Option AV} {x10 : Option AV} (hΨ : Ψ (some (aI (bI r))) (L0, g, w, q0)) (h : s_X7_failsTogether_264 i0 p1 p2 p3 p4 t0 g w = some r) : Ev (EvM mth (d + 2)) mth c00 sc0 (retP (some .boolean) c00 Ψ) (lkp es_148) 264 [x0, x1, x2, x3, x4, x5, x6, x7, x8, x9, x10] [aI (bI t0)] (L0, g, w, q0) := by
  unfold s_X7_failsTogether_264 at h
  obtain rfl := Option.some.inj h
  exact ev_ireturn rfl ⟨⟨_, rfl, nar_bI _⟩, rfl, rfl, hΨ⟩
def s_X7_failsTogether_263 (i0 : Nat) (p1 : Int32) (p2 : Int32) (p3 : Int32) (p4 : Int32) (g : Nat → Nat → Nat → Int32) (w : Nat → Nat → Nat → Int64) : Option (Bool) :=
  s_X7_failsTogether_264 i0 p1 p2 p3 p4 false g w
set_option maxRecDepth 20000 in
set_option maxHeartbeats 2000000 in
theorem e_X7_failsTogether_263 {d : Nat} {Ψ : Option AV → DS → Prop} {i0 : Nat} {p1 : Int32} {p2 : Int32} {p3 : Int32} {p4 : Int32} {r : Bool} {g : Nat → Nat → Nat → Int32} {w : Nat → Nat → Nat → Int64} {x0 : Option AV} {x1 : Option AV} {x2 : Option AV} {x3 : Option AV} {x4 : Option AV} {x5 : Option AV} {x6 : Option AV} {x7 : Option AV} {x8 : Option AV} {x9 : Option AV} {x10 : Option AV} (hΨ : Ψ (some (aI (bI r))) (L0, g, w, q0)) (h : s_X7_failsTogether_263 i0 p1 p2 p3 p4 g w = some r) : Ev (EvM mth (d + 2)) mth c00 sc0 (retP (some .boolean) c00 Ψ) (lkp es_148) 263 [x0, x1, x2, x3, x4, x5, x6, x7, x8, x9, x10] [] (L0, g, w, q0) := by
  unfold s_X7_failsTogether_263 at h
  refine ev_iconst (pc' := 264) rfl rfl (v := (0 : Int32)) (by decide) ?_
  exact e_X7_failsTogether_264 hΨ h
def s_X7_failsTogether_259 (i0 : Nat) (p1 : Int32) (p2 : Int32) (p3 : Int32) (p4 : Int32) (g : Nat → Nat → Nat → Int32) (w : Nat → Nat → Nat → Int64) : Option (Bool) :=
  s_X7_failsTogether_264 i0 p1 p2 p3 p4 true g w
set_option maxRecDepth 20000 in
set_option maxHeartbeats 2000000 in
theorem e_X7_failsTogether_259 {d : Nat} {Ψ : Option AV → DS → Prop} {i0 : Nat} {p1 : Int32} {p2 : Int32} {p3 : Int32} {p4 : Int32} {r : Bool} {g : Nat → Nat → Nat → Int32} {w : Nat → Nat → Nat → Int64} {x0 : Option AV} {x1 : Option AV} {x2 : Option AV} {x3 : Option AV} {x4 : Option AV} {x5 : Option AV} {x6 : Option AV} {x7 : Option AV} {x8 : Option AV} {x9 : Option AV} {x10 : Option AV} (hΨ : Ψ (some (aI (bI r))) (L0, g, w, q0)) (h : s_X7_failsTogether_259 i0 p1 p2 p3 p4 g w = some r) : Ev (EvM mth (d + 2)) mth c00 sc0 (retP (some .boolean) c00 Ψ) (lkp es_148) 259 [x0, x1, x2, x3, x4, x5, x6, x7, x8, x9, x10] [] (L0, g, w, q0) := by
  unfold s_X7_failsTogether_259 at h
  refine ev_iconst (pc' := 260) rfl rfl (v := (1 : Int32)) (by decide) ?_
  refine ev_goto (pc' := 264) rfl ?_
  exact e_X7_failsTogether_264 hΨ h
def s_X7_failsTogether_231 (i0 : Nat) (p1 : Int32) (p2 : Int32) (p3 : Int32) (p4 : Int32) (rec100 : Int32 → Bool → Int32 → Int32 → (Nat → Nat → Nat → Int32) → (Nat → Nat → Nat → Int64) → Option (Bool)) (v5 : Int32) (v6 : Bool) (v7 : Int32) (v8 : Int32) (g : Nat → Nat → Nat → Int32) (w : Nat → Nat → Nat → Int64) : Option (Bool) :=
  rec100 v5 v6 v7 (v8 + 1) g w
set_option maxRecDepth 20000 in
set_option maxHeartbeats 2000000 in
theorem e_X7_failsTogether_231 {d : Nat} {Ψ : Option AV → DS → Prop} {i0 : Nat} {p1 : Int32} {p2 : Int32} {p3 : Int32} {p4 : Int32} {rec100 : Int32 → Bool → Int32 → Int32 → (Nat → Nat → Nat → Int32) → (Nat → Nat → Nat → Int64) → Option (Bool)} {r : Bool} {g : Nat → Nat → Nat → Int32} {w : Nat → Nat → Nat → Int64} {v5 : Int32} {v6 : Bool} {v7 : Int32} {v8 : Int32} {x3 : Option AV} {x9 : Option AV} {x10 : Option AV} (hr100 : ∀ {v5 : Int32} {v6 : Bool} {v7 : Int32} {v8 : Int32} {x3 : Option AV} {x9 : Option AV} {x10 : Option AV} , rec100 v5 v6 v7 v8 g w = some r → Ev (EvM mth (d + 2)) mth c00 sc0 (retP (some .boolean) c00 Ψ) (lkp es_148) 100 [some (aR 7 i0), some (aI p1), some (aI p2), x3, some (aI p4), some (aI v5), some (aI (bI v6)), some (aI v7), some (aI v8), x9, x10] [] (L0, g, w, q0)) (hΨ : Ψ (some (aI (bI r))) (L0, g, w, q0)) (h : s_X7_failsTogether_231 i0 p1 p2 p3 p4 rec100 v5 v6 v7 v8 g w = some r) : Ev (EvM mth (d + 2)) mth c00 sc0 (retP (some .boolean) c00 Ψ) (lkp es_148) 231 [some (aR 7 i0), some (aI p1), some (aI p2), x3, some (aI p4), some (aI v5), some (aI (bI v6)), some (aI v7), some (aI v8), x9, x10] [] (L0, g, w, q0) := by
  unfold s_X7_failsTogether_231 at h
  refine ev_iinc (pc' := 234) rfl rfl (l' := [some (aR 7 i0), some (aI p1), some (aI p2), x3, some (aI p4), some (aI v5), some (aI (bI v6)), some (aI v7), some (aI (v8 + 1)), x9, x10]) rfl (ii_1 _) rfl ?_
  refine ev_goto (pc' := 100) rfl ?_
  exact hr100 h
def s_X7_failsTogether_229 (i0 : Nat) (p1 : Int32) (p2 : Int32) (p3 : Int32) (p4 : Int32) (rec100 : Int32 → Bool → Int32 → Int32 → (Nat → Nat → Nat → Int32) → (Nat → Nat → Nat → Int64) → Option (Bool)) (t0 : Bool) (v5 : Int32) (v7 : Int32) (v8 : Int32) (g : Nat → Nat → Nat → Int32) (w : Nat → Nat → Nat → Int64) : Option (Bool) :=
  s_X7_failsTogether_231 i0 p1 p2 p3 p4 rec100 v5 t0 v7 v8 g w
set_option maxRecDepth 20000 in
set_option maxHeartbeats 2000000 in
theorem e_X7_failsTogether_229 {d : Nat} {Ψ : Option AV → DS → Prop} {i0 : Nat} {p1 : Int32} {p2 : Int32} {p3 : Int32} {p4 : Int32} {rec100 : Int32 → Bool → Int32 → Int32 → (Nat → Nat → Nat → Int32) → (Nat → Nat → Nat → Int64) → Option (Bool)} {r : Bool} {g : Nat → Nat → Nat → Int32} {w : Nat → Nat → Nat → Int64} {t0 : Bool} {v5 : Int32} {v7 : Int32} {v8 : Int32} {x3 : Option AV} {x6 : Option AV} {x9 : Option AV} {x10 : Option AV} (hr100 : ∀ {v5 : Int32} {v6 : Bool} {v7 : Int32} {v8 : Int32} {x3 : Option AV} {x9 : Option AV} {x10 : Option AV} , rec100 v5 v6 v7 v8 g w = some r → Ev (EvM mth (d + 2)) mth c00 sc0 (retP (some .boolean) c00 Ψ) (lkp es_148) 100 [some (aR 7 i0), some (aI p1), some (aI p2), x3, some (aI p4), some (aI v5), some (aI (bI v6)), some (aI v7), some (aI v8), x9, x10] [] (L0, g, w, q0)) (hΨ : Ψ (some (aI (bI r))) (L0, g, w, q0)) (h : s_X7_failsTogether_229 i0 p1 p2 p3 p4 rec100 t0 v5 v7 v8 g w = some r) : Ev (EvM mth (d + 2)) mth c00 sc0 (retP (some .boolean) c00 Ψ) (lkp es_148) 229 [some (aR 7 i0), some (aI p1), some (aI p2), x3, some (aI p4), some (aI v5), x6, some (aI v7), some (aI v8), x9, x10] [aI (bI t0)] (L0, g, w, q0) := by
  unfold s_X7_failsTogether_229 at h
  refine ev_istore (pc' := 231) rfl rfl (l' := [some (aR 7 i0), some (aI p1), some (aI p2), x3, some (aI p4), some (aI v5), some (aI (bI t0)), some (aI v7), some (aI v8), x9, x10]) rfl ?_
  exact e_X7_failsTogether_231 (hr100 := hr100) hΨ h
def s_X7_failsTogether_224 (i0 : Nat) (p1 : Int32) (p2 : Int32) (p3 : Int32) (p4 : Int32) (rec100 : Int32 → Bool → Int32 → Int32 → (Nat → Nat → Nat → Int32) → (Nat → Nat → Nat → Int64) → Option (Bool)) (v5 : Int32) (v7 : Int32) (v8 : Int32) (g : Nat → Nat → Nat → Int32) (w : Nat → Nat → Nat → Int64) : Option (Bool) :=
  s_X7_failsTogether_229 i0 p1 p2 p3 p4 rec100 true v5 v7 v8 g w
set_option maxRecDepth 20000 in
set_option maxHeartbeats 2000000 in
theorem e_X7_failsTogether_224 {d : Nat} {Ψ : Option AV → DS → Prop} {i0 : Nat} {p1 : Int32} {p2 : Int32} {p3 : Int32} {p4 : Int32} {rec100 : Int32 → Bool → Int32 → Int32 → (Nat → Nat → Nat → Int32) → (Nat → Nat → Nat → Int64) → Option (Bool)} {r : Bool} {g : Nat → Nat → Nat → Int32} {w : Nat → Nat → Nat → Int64} {v5 : Int32} {v7 : Int32} {v8 : Int32} {x3 : Option AV} {x6 : Option AV} {x9 : Option AV} {x10 : Option AV} (hr100 : ∀ {v5 : Int32} {v6 : Bool} {v7 : Int32} {v8 : Int32} {x3 : Option AV} {x9 : Option AV} {x10 : Option AV} , rec100 v5 v6 v7 v8 g w = some r → Ev (EvM mth (d + 2)) mth c00 sc0 (retP (some .boolean) c00 Ψ) (lkp es_148) 100 [some (aR 7 i0), some (aI p1), some (aI p2), x3, some (aI p4), some (aI v5), some (aI (bI v6)), some (aI v7), some (aI v8), x9, x10] [] (L0, g, w, q0)) (hΨ : Ψ (some (aI (bI r))) (L0, g, w, q0)) (h : s_X7_failsTogether_224 i0 p1 p2 p3 p4 rec100 v5 v7 v8 g w = some r) : Ev (EvM mth (d + 2)) mth c00 sc0 (retP (some .boolean) c00 Ψ) (lkp es_148) 224 [some (aR 7 i0), some (aI p1), some (aI p2), x3, some (aI p4), some (aI v5), x6, some (aI v7), some (aI v8), x9, x10] [] (L0, g, w, q0) := by
  unfold s_X7_failsTogether_224 at h
  refine ev_iconst (pc' := 225) rfl rfl (v := (1 : Int32)) (by decide) ?_
  refine ev_goto (pc' := 229) rfl ?_
  exact e_X7_failsTogether_229 (hr100 := hr100) hΨ h
def s_X7_failsTogether_206 (i0 : Nat) (p1 : Int32) (p2 : Int32) (p3 : Int32) (p4 : Int32) (rec145 : Int32 → Bool → Int32 → Int32 → Bool → Int32 → (Nat → Nat → Nat → Int32) → (Nat → Nat → Nat → Int64) → Option (Bool)) (t0 : Bool) (v5 : Int32) (v6 : Bool) (v7 : Int32) (v8 : Int32) (v10 : Int32) (g : Nat → Nat → Nat → Int32) (w : Nat → Nat → Nat → Int64) : Option (Bool) :=
  rec145 v5 v6 v7 v8 t0 (v10 + 1) g w
set_option maxRecDepth 20000 in
set_option maxHeartbeats 2000000 in
theorem e_X7_failsTogether_206 {d : Nat} {Ψ : Option AV → DS → Prop} {i0 : Nat} {p1 : Int32} {p2 : Int32} {p3 : Int32} {p4 : Int32} {rec145 : Int32 → Bool → Int32 → Int32 → Bool → Int32 → (Nat → Nat → Nat → Int32) → (Nat → Nat → Nat → Int64) → Option (Bool)} {r : Bool} {g : Nat → Nat → Nat → Int32} {w : Nat → Nat → Nat → Int64} {t0 : Bool} {v5 : Int32} {v6 : Bool} {v7 : Int32} {v8 : Int32} {v10 : Int32} {x3 : Option AV} {x9 : Option AV} (hr145 : ∀ {v5 : Int32} {v6 : Bool} {v7 : Int32} {v8 : Int32} {v9 : Bool} {v10 : Int32} {x3 : Option AV} , rec145 v5 v6 v7 v8 v9 v10 g w = some r → Ev (EvM mth (d + 2)) mth c00 sc0 (retP (some .boolean) c00 Ψ) (lkp es_148) 145 [some (aR 7 i0), some (aI p1), some (aI p2), x3, some (aI p4), some (aI v5), some (aI (bI v6)), some (aI v7), some (aI v8), some (aI (bI v9)), some (aI v10)] [] (L0, g, w, q0)) (hΨ : Ψ (some (aI (bI r))) (L0, g, w, q0)) (h : s_X7_failsTogether_206 i0 p1 p2 p3 p4 rec145 t0 v5 v6 v7 v8 v10 g w = some r) : Ev (EvM mth (d + 2)) mth c00 sc0 (retP (some .boolean) c00 Ψ) (lkp es_148) 206 [some (aR 7 i0), some (aI p1), some (aI p2), x3, some (aI p4), some (aI v5), some (aI (bI v6)), some (aI v7), some (aI v8), x9, some (aI v10)] [aI (bI t0)] (L0, g, w, q0) := by
  unfold s_X7_failsTogether_206 at h
  refine ev_istore (pc' := 208) rfl rfl (l' := [some (aR 7 i0), some (aI p1), some (aI p2), x3, some (aI p4), some (aI v5), some (aI (bI v6)), some (aI v7), some (aI v8), some (aI (bI t0)), some (aI v10)]) rfl ?_
  refine ev_iinc (pc' := 211) rfl rfl (l' := [some (aR 7 i0), some (aI p1), some (aI p2), x3, some (aI p4), some (aI v5), some (aI (bI v6)), some (aI v7), some (aI v8), some (aI (bI t0)), some (aI (v10 + 1))]) rfl (ii_1 _) rfl ?_
  refine ev_goto (pc' := 145) rfl ?_
  exact hr145 h
def s_X7_failsTogether_205 (i0 : Nat) (p1 : Int32) (p2 : Int32) (p3 : Int32) (p4 : Int32) (rec145 : Int32 → Bool → Int32 → Int32 → Bool → Int32 → (Nat → Nat → Nat → Int32) → (Nat → Nat → Nat → Int64) → Option (Bool)) (v5 : Int32) (v6 : Bool) (v7 : Int32) (v8 : Int32) (v10 : Int32) (g : Nat → Nat → Nat → Int32) (w : Nat → Nat → Nat → Int64) : Option (Bool) :=
  s_X7_failsTogether_206 i0 p1 p2 p3 p4 rec145 false v5 v6 v7 v8 v10 g w
set_option maxRecDepth 20000 in
set_option maxHeartbeats 2000000 in
theorem e_X7_failsTogether_205 {d : Nat} {Ψ : Option AV → DS → Prop} {i0 : Nat} {p1 : Int32} {p2 : Int32} {p3 : Int32} {p4 : Int32} {rec145 : Int32 → Bool → Int32 → Int32 → Bool → Int32 → (Nat → Nat → Nat → Int32) → (Nat → Nat → Nat → Int64) → Option (Bool)} {r : Bool} {g : Nat → Nat → Nat → Int32} {w : Nat → Nat → Nat → Int64} {v5 : Int32} {v6 : Bool} {v7 : Int32} {v8 : Int32} {v10 : Int32} {x3 : Option AV} {x9 : Option AV} (hr145 : ∀ {v5 : Int32} {v6 : Bool} {v7 : Int32} {v8 : Int32} {v9 : Bool} {v10 : Int32} {x3 : Option AV} , rec145 v5 v6 v7 v8 v9 v10 g w = some r → Ev (EvM mth (d + 2)) mth c00 sc0 (retP (some .boolean) c00 Ψ) (lkp es_148) 145 [some (aR 7 i0), some (aI p1), some (aI p2), x3, some (aI p4), some (aI v5), some (aI (bI v6)), some (aI v7), some (aI v8), some (aI (bI v9)), some (aI v10)] [] (L0, g, w, q0)) (hΨ : Ψ (some (aI (bI r))) (L0, g, w, q0)) (h : s_X7_failsTogether_205 i0 p1 p2 p3 p4 rec145 v5 v6 v7 v8 v10 g w = some r) : Ev (EvM mth (d + 2)) mth c00 sc0 (retP (some .boolean) c00 Ψ) (lkp es_148) 205 [some (aR 7 i0), some (aI p1), some (aI p2), x3, some (aI p4), some (aI v5), some (aI (bI v6)), some (aI v7), some (aI v8), x9, some (aI v10)] [] (L0, g, w, q0) := by
  unfold s_X7_failsTogether_205 at h
  refine ev_iconst (pc' := 206) rfl rfl (v := (0 : Int32)) (by decide) ?_
  exact e_X7_failsTogether_206 (hr145 := hr145) hΨ h
def s_X7_failsTogether_201 (i0 : Nat) (p1 : Int32) (p2 : Int32) (p3 : Int32) (p4 : Int32) (rec145 : Int32 → Bool → Int32 → Int32 → Bool → Int32 → (Nat → Nat → Nat → Int32) → (Nat → Nat → Nat → Int64) → Option (Bool)) (v5 : Int32) (v6 : Bool) (v7 : Int32) (v8 : Int32) (v10 : Int32) (g : Nat → Nat → Nat → Int32) (w : Nat → Nat → Nat → Int64) : Option (Bool) :=
  s_X7_failsTogether_206 i0 p1 p2 p3 p4 rec145 true v5 v6 v7 v8 v10 g w
set_option maxRecDepth 20000 in
set_option maxHeartbeats 2000000 in
theorem e_X7_failsTogether_201 {d : Nat} {Ψ : Option AV → DS → Prop} {i0 : Nat} {p1 : Int32} {p2 : Int32} {p3 : Int32} {p4 : Int32} {rec145 : Int32 → Bool → Int32 → Int32 → Bool → Int32 → (Nat → Nat → Nat → Int32) → (Nat → Nat → Nat → Int64) → Option (Bool)} {r : Bool} {g : Nat → Nat → Nat → Int32} {w : Nat → Nat → Nat → Int64} {v5 : Int32} {v6 : Bool} {v7 : Int32} {v8 : Int32} {v10 : Int32} {x3 : Option AV} {x9 : Option AV} (hr145 : ∀ {v5 : Int32} {v6 : Bool} {v7 : Int32} {v8 : Int32} {v9 : Bool} {v10 : Int32} {x3 : Option AV} , rec145 v5 v6 v7 v8 v9 v10 g w = some r → Ev (EvM mth (d + 2)) mth c00 sc0 (retP (some .boolean) c00 Ψ) (lkp es_148) 145 [some (aR 7 i0), some (aI p1), some (aI p2), x3, some (aI p4), some (aI v5), some (aI (bI v6)), some (aI v7), some (aI v8), some (aI (bI v9)), some (aI v10)] [] (L0, g, w, q0)) (hΨ : Ψ (some (aI (bI r))) (L0, g, w, q0)) (h : s_X7_failsTogether_201 i0 p1 p2 p3 p4 rec145 v5 v6 v7 v8 v10 g w = some r) : Ev (EvM mth (d + 2)) mth c00 sc0 (retP (some .boolean) c00 Ψ) (lkp es_148) 201 [some (aR 7 i0), some (aI p1), some (aI p2), x3, some (aI p4), some (aI v5), some (aI (bI v6)), some (aI v7), some (aI v8), x9, some (aI v10)] [] (L0, g, w, q0) := by
  unfold s_X7_failsTogether_201 at h
  refine ev_iconst (pc' := 202) rfl rfl (v := (1 : Int32)) (by decide) ?_
  refine ev_goto (pc' := 206) rfl ?_
  exact e_X7_failsTogether_206 (hr145 := hr145) hΨ h
def s_X7_failsTogether_145 (i0 : Nat) (p1 : Int32) (p2 : Int32) (p3 : Int32) (p4 : Int32) (rec100 : Int32 → Bool → Int32 → Int32 → (Nat → Nat → Nat → Int32) → (Nat → Nat → Nat → Int64) → Option (Bool)) (rec145 : Int32 → Bool → Int32 → Int32 → Bool → Int32 → (Nat → Nat → Nat → Int32) → (Nat → Nat → Nat → Int64) → Option (Bool)) (v5 : Int32) (v6 : Bool) (v7 : Int32) (v8 : Int32) (v9 : Bool) (v10 : Int32) (g : Nat → Nat → Nat → Int32) (w : Nat → Nat → Nat → Int64) : Option (Bool) :=
  if 0 ≤ (lg_cmp v10.toInt64 (w 2218 0 (64 : Int32).toNatClampNeg)) then
    if v6 = true then
      s_X7_failsTogether_224 i0 p1 p2 p3 p4 rec100 v5 v7 v8 g w
    else
      if v9 = true then
        s_X7_failsTogether_229 i0 p1 p2 p3 p4 rec100 false v5 v7 v8 g w
      else
        s_X7_failsTogether_224 i0 p1 p2 p3 p4 rec100 v5 v7 v8 g w
  else
    if v9 = true then
      s_X7_failsTogether_201 i0 p1 p2 p3 p4 rec145 v5 v6 v7 v8 v10 g w
    else
      if ((p4 >>> (v10 &&& 31)) &&& (1 : Int32)) ≠ 0 then
        s_X7_failsTogether_205 i0 p1 p2 p3 p4 rec145 v5 v6 v7 v8 v10 g w
      else
        (s_X7_workOf i0 v10 g w).bind fun q1 =>
        if (s_X7_has q1 v8 g w) = true then
          s_X7_failsTogether_205 i0 p1 p2 p3 p4 rec145 v5 v6 v7 v8 v10 g w
        else
          (s_X7_ofTug i0 v10 (7 : Int32) g w).bind fun q2 =>
          if q2 ≤ v8 then
            s_X7_failsTogether_205 i0 p1 p2 p3 p4 rec145 v5 v6 v7 v8 v10 g w
          else
            s_X7_failsTogether_201 i0 p1 p2 p3 p4 rec145 v5 v6 v7 v8 v10 g w
set_option maxRecDepth 20000 in
set_option maxHeartbeats 2000000 in
theorem e_X7_failsTogether_145 {d : Nat} {Ψ : Option AV → DS → Prop} {i0 : Nat} {p1 : Int32} {p2 : Int32} {p3 : Int32} {p4 : Int32} {rec100 : Int32 → Bool → Int32 → Int32 → (Nat → Nat → Nat → Int32) → (Nat → Nat → Nat → Int64) → Option (Bool)} {rec145 : Int32 → Bool → Int32 → Int32 → Bool → Int32 → (Nat → Nat → Nat → Int32) → (Nat → Nat → Nat → Int64) → Option (Bool)} {r : Bool} {g : Nat → Nat → Nat → Int32} {w : Nat → Nat → Nat → Int64} {v5 : Int32} {v6 : Bool} {v7 : Int32} {v8 : Int32} {v9 : Bool} {v10 : Int32} {x3 : Option AV} (hr100 : ∀ {v5 : Int32} {v6 : Bool} {v7 : Int32} {v8 : Int32} {x3 : Option AV} {x9 : Option AV} {x10 : Option AV} , rec100 v5 v6 v7 v8 g w = some r → Ev (EvM mth (d + 2)) mth c00 sc0 (retP (some .boolean) c00 Ψ) (lkp es_148) 100 [some (aR 7 i0), some (aI p1), some (aI p2), x3, some (aI p4), some (aI v5), some (aI (bI v6)), some (aI v7), some (aI v8), x9, x10] [] (L0, g, w, q0)) (hr145 : ∀ {v5 : Int32} {v6 : Bool} {v7 : Int32} {v8 : Int32} {v9 : Bool} {v10 : Int32} {x3 : Option AV} , rec145 v5 v6 v7 v8 v9 v10 g w = some r → Ev (EvM mth (d + 2)) mth c00 sc0 (retP (some .boolean) c00 Ψ) (lkp es_148) 145 [some (aR 7 i0), some (aI p1), some (aI p2), x3, some (aI p4), some (aI v5), some (aI (bI v6)), some (aI v7), some (aI v8), some (aI (bI v9)), some (aI v10)] [] (L0, g, w, q0)) (hΨ : Ψ (some (aI (bI r))) (L0, g, w, q0)) (h : s_X7_failsTogether_145 i0 p1 p2 p3 p4 rec100 rec145 v5 v6 v7 v8 v9 v10 g w = some r) : Ev (EvM mth (d + 2)) mth c00 sc0 (retP (some .boolean) c00 Ψ) (lkp es_148) 145 [some (aR 7 i0), some (aI p1), some (aI p2), x3, some (aI p4), some (aI v5), some (aI (bI v6)), some (aI v7), some (aI v8), some (aI (bI v9)), some (aI v10)] [] (L0, g, w, q0) := by
  unfold s_X7_failsTogether_145 at h
  refine ev_iload (pc' := 147) rfl rfl rfl ?_
  refine ev_i2l (pc' := 148) rfl rfl ?_
  refine ev_aload_n (pc' := 149) rfl rfl rfl ?_
  refine ev_getQ (pc' := 152) rfl rfl rfl ?_
  refine ev_bipush (pc' := 154) rfl rfl (v := (64 : Int32)) (by decide) ?_
  refine ev_lald (pc' := 155) rfl rfl rfl (inR_vp (by decide)) ?_
  refine ev_lcmp (pc' := 156) rfl rfl ?_
  refine ev_if_ge rfl (pc' := 159) rfl (fun hc => ?_) (fun hc => ?_)
  · have h := (if_pos hc).symm.trans h
    refine ev_iload (pc' := 216) rfl rfl rfl ?_
    refine ev_ifB_ne rfl (pc' := 219) rfl (fun hc => ?_) (fun hc => ?_)
    · have h := (if_pos hc).symm.trans h
      exact e_X7_failsTogether_224 (hr100 := hr100) hΨ h
    · have h := (if_neg hc).symm.trans h
      refine ev_iload (pc' := 221) rfl rfl rfl ?_
      refine ev_ifB_ne rfl (pc' := 224) rfl (fun hc => ?_) (fun hc => ?_)
      · have h := (if_pos hc).symm.trans h
        refine ev_iconst (pc' := 229) rfl rfl (v := (0 : Int32)) (by decide) ?_
        exact e_X7_failsTogether_229 (hr100 := hr100) hΨ h
      · have h := (if_neg hc).symm.trans h
        exact e_X7_failsTogether_224 (hr100 := hr100) hΨ h
  · have h := (if_neg hc).symm.trans h
    refine ev_iload (pc' := 161) rfl rfl rfl ?_
    refine ev_ifB_ne rfl (pc' := 164) rfl (fun hc => ?_) (fun hc => ?_)
    · have h := (if_pos hc).symm.trans h
      exact e_X7_failsTogether_201 (hr145 := hr145) hΨ h
    · have h := (if_neg hc).symm.trans h
      refine ev_iload (pc' := 166) rfl rfl rfl ?_
      refine ev_iload (pc' := 168) rfl rfl rfl ?_
      refine ev_ishr (pc' := 169) rfl rfl ?_
      refine ev_iconst (pc' := 170) rfl rfl (v := (1 : Int32)) (by decide) ?_
      refine ev_iand (pc' := 171) rfl rfl ?_
      refine ev_if_ne rfl (pc' := 174) rfl (fun hc => ?_) (fun hc => ?_)
      · have h := (if_pos hc).symm.trans h
        exact e_X7_failsTogether_205 (hr145 := hr145) hΨ h
      · have h := (if_neg hc).symm.trans h
        refine ev_aload_n (pc' := 175) rfl rfl rfl ?_
        refine ev_iload (pc' := 177) rfl rfl rfl ?_
        obtain ⟨q1, hq1, h⟩ := Option.bind_eq_some_iff.mp h
        refine ev_V2L (pc' := 180) rfl (by decide) rfl mth_135 ⟨Nat.le_of_ble_eq_true rfl, rfl⟩ ⟨Nat.le_refl _, Nat.le_refl _⟩ (d_X7_workOf hq1) ?_
        refine ev_iload (pc' := 182) rfl rfl rfl ?_
        refine ev_S2I (pc' := 185) rfl (by decide) rfl mth_133 ⟨Nat.le_of_ble_eq_true rfl, rfl⟩ ⟨Nat.le_refl _, Nat.le_refl _⟩ d_X7_has ?_
        refine ev_ifB_ne rfl (pc' := 188) rfl (fun hc => ?_) (fun hc => ?_)
        · have h := (if_pos hc).symm.trans h
          exact e_X7_failsTogether_205 (hr145 := hr145) hΨ h
        · have h := (if_neg hc).symm.trans h
          refine ev_aload_n (pc' := 189) rfl rfl rfl ?_
          refine ev_iload (pc' := 191) rfl rfl rfl ?_
          refine ev_bipush (pc' := 193) rfl rfl (v := (7 : Int32)) (by decide) ?_
          obtain ⟨q2, hq2, h⟩ := Option.bind_eq_some_iff.mp h
          refine ev_V3I (pc' := 196) rfl (by decide) rfl mth_117 ⟨Nat.le_of_ble_eq_true rfl, rfl⟩ ⟨Nat.le_refl _, Nat.le_refl _⟩ (d_X7_ofTug hq2) ?_
          refine ev_iload (pc' := 198) rfl rfl rfl ?_
          refine ev_icmp_le rfl (pc' := 201) rfl (fun hc => ?_) (fun hc => ?_)
          · have h := (if_pos hc).symm.trans h
            exact e_X7_failsTogether_205 (hr145 := hr145) hΨ h
          · have h := (if_neg hc).symm.trans h
            exact e_X7_failsTogether_201 (hr145 := hr145) hΨ h
def s_X7_failsTogether_R145 (i0 : Nat) (p1 : Int32) (p2 : Int32) (p3 : Int32) (p4 : Int32) (rec100 : Int32 → Bool → Int32 → Int32 → (Nat → Nat → Nat → Int32) → (Nat → Nat → Nat → Int64) → Option (Bool)) : Nat → Int32 → Bool → Int32 → Int32 → Bool → Int32 → (Nat → Nat → Nat → Int32) → (Nat → Nat → Nat → Int64) → Option (Bool)
  | 0 => fun _ _ _ _ _ _ _ _ => none
  | n + 1 => s_X7_failsTogether_145 i0 p1 p2 p3 p4 rec100 (s_X7_failsTogether_R145 i0 p1 p2 p3 p4 rec100 n)
theorem e_X7_failsTogether_R145 {d : Nat} {Ψ : Option AV → DS → Prop} {i0 : Nat} {p1 : Int32} {p2 : Int32} {p3 : Int32} {p4 : Int32} {rec100 : Int32 → Bool → Int32 → Int32 → (Nat → Nat → Nat → Int32) → (Nat → Nat → Nat → Int64) → Option (Bool)} {r : Bool} {g : Nat → Nat → Nat → Int32} {w : Nat → Nat → Nat → Int64} (hr100 : ∀ {v5 : Int32} {v6 : Bool} {v7 : Int32} {v8 : Int32} {x3 : Option AV} {x9 : Option AV} {x10 : Option AV} , rec100 v5 v6 v7 v8 g w = some r → Ev (EvM mth (d + 2)) mth c00 sc0 (retP (some .boolean) c00 Ψ) (lkp es_148) 100 [some (aR 7 i0), some (aI p1), some (aI p2), x3, some (aI p4), some (aI v5), some (aI (bI v6)), some (aI v7), some (aI v8), x9, x10] [] (L0, g, w, q0)) (hΨ : Ψ (some (aI (bI r))) (L0, g, w, q0)) : ∀ (n : Nat) {v5 : Int32} {v6 : Bool} {v7 : Int32} {v8 : Int32} {v9 : Bool} {v10 : Int32} {x3 : Option AV}, s_X7_failsTogether_R145 i0 p1 p2 p3 p4 rec100 n v5 v6 v7 v8 v9 v10 g w = some r → Ev (EvM mth (d + 2)) mth c00 sc0 (retP (some .boolean) c00 Ψ) (lkp es_148) 145 [some (aR 7 i0), some (aI p1), some (aI p2), x3, some (aI p4), some (aI v5), some (aI (bI v6)), some (aI v7), some (aI v8), some (aI (bI v9)), some (aI v10)] [] (L0, g, w, q0) := by
  intro n
  induction n with
  | zero => intros; rename_i h; exact absurd h (by intro h9; cases h9)
  | succ n ih => intros; rename_i h; exact e_X7_failsTogether_145 (hr100 := hr100) (hr145 := ih) hΨ h
def s_X7_failsTogether_134 (i0 : Nat) (p1 : Int32) (p2 : Int32) (p3 : Int32) (p4 : Int32) (rec100 : Int32 → Bool → Int32 → Int32 → (Nat → Nat → Nat → Int32) → (Nat → Nat → Nat → Int64) → Option (Bool)) (t0 : Bool) (v5 : Int32) (v7 : Int32) (v8 : Int32) (g : Nat → Nat → Nat → Int32) (w : Nat → Nat → Nat → Int64) : Option (Bool) :=
  s_X7_failsTogether_231 i0 p1 p2 p3 p4 rec100 v5 t0 v7 v8 g w
set_option maxRecDepth 20000 in
set_option maxHeartbeats 2000000 in
theorem e_X7_failsTogether_134 {d : Nat} {Ψ : Option AV → DS → Prop} {i0 : Nat} {p1 : Int32} {p2 : Int32} {p3 : Int32} {p4 : Int32} {rec100 : Int32 → Bool → Int32 → Int32 → (Nat → Nat → Nat → Int32) → (Nat → Nat → Nat → Int64) → Option (Bool)} {r : Bool} {g : Nat → Nat → Nat → Int32} {w : Nat → Nat → Nat → Int64} {t0 : Bool} {v5 : Int32} {v7 : Int32} {v8 : Int32} {x3 : Option AV} {x6 : Option AV} {x9 : Option AV} {x10 : Option AV} (hr100 : ∀ {v5 : Int32} {v6 : Bool} {v7 : Int32} {v8 : Int32} {x3 : Option AV} {x9 : Option AV} {x10 : Option AV} , rec100 v5 v6 v7 v8 g w = some r → Ev (EvM mth (d + 2)) mth c00 sc0 (retP (some .boolean) c00 Ψ) (lkp es_148) 100 [some (aR 7 i0), some (aI p1), some (aI p2), x3, some (aI p4), some (aI v5), some (aI (bI v6)), some (aI v7), some (aI v8), x9, x10] [] (L0, g, w, q0)) (hΨ : Ψ (some (aI (bI r))) (L0, g, w, q0)) (h : s_X7_failsTogether_134 i0 p1 p2 p3 p4 rec100 t0 v5 v7 v8 g w = some r) : Ev (EvM mth (d + 2)) mth c00 sc0 (retP (some .boolean) c00 Ψ) (lkp es_148) 134 [some (aR 7 i0), some (aI p1), some (aI p2), x3, some (aI p4), some (aI v5), x6, some (aI v7), some (aI v8), x9, x10] [aI (bI t0)] (L0, g, w, q0) := by
  unfold s_X7_failsTogether_134 at h
  refine ev_istore (pc' := 136) rfl rfl (l' := [some (aR 7 i0), some (aI p1), some (aI p2), x3, some (aI p4), some (aI v5), some (aI (bI t0)), some (aI v7), some (aI v8), x9, x10]) rfl ?_
  refine ev_goto (pc' := 231) rfl ?_
  exact e_X7_failsTogether_231 (hr100 := hr100) hΨ h
def s_X7_failsTogether_129 (i0 : Nat) (p1 : Int32) (p2 : Int32) (p3 : Int32) (p4 : Int32) (rec100 : Int32 → Bool → Int32 → Int32 → (Nat → Nat → Nat → Int32) → (Nat → Nat → Nat → Int64) → Option (Bool)) (v5 : Int32) (v7 : Int32) (v8 : Int32) (g : Nat → Nat → Nat → Int32) (w : Nat → Nat → Nat → Int64) : Option (Bool) :=
  s_X7_failsTogether_134 i0 p1 p2 p3 p4 rec100 true v5 v7 v8 g w
set_option maxRecDepth 20000 in
set_option maxHeartbeats 2000000 in
theorem e_X7_failsTogether_129 {d : Nat} {Ψ : Option AV → DS → Prop} {i0 : Nat} {p1 : Int32} {p2 : Int32} {p3 : Int32} {p4 : Int32} {rec100 : Int32 → Bool → Int32 → Int32 → (Nat → Nat → Nat → Int32) → (Nat → Nat → Nat → Int64) → Option (Bool)} {r : Bool} {g : Nat → Nat → Nat → Int32} {w : Nat → Nat → Nat → Int64} {v5 : Int32} {v7 : Int32} {v8 : Int32} {x3 : Option AV} {x6 : Option AV} {x9 : Option AV} {x10 : Option AV} (hr100 : ∀ {v5 : Int32} {v6 : Bool} {v7 : Int32} {v8 : Int32} {x3 : Option AV} {x9 : Option AV} {x10 : Option AV} , rec100 v5 v6 v7 v8 g w = some r → Ev (EvM mth (d + 2)) mth c00 sc0 (retP (some .boolean) c00 Ψ) (lkp es_148) 100 [some (aR 7 i0), some (aI p1), some (aI p2), x3, some (aI p4), some (aI v5), some (aI (bI v6)), some (aI v7), some (aI v8), x9, x10] [] (L0, g, w, q0)) (hΨ : Ψ (some (aI (bI r))) (L0, g, w, q0)) (h : s_X7_failsTogether_129 i0 p1 p2 p3 p4 rec100 v5 v7 v8 g w = some r) : Ev (EvM mth (d + 2)) mth c00 sc0 (retP (some .boolean) c00 Ψ) (lkp es_148) 129 [some (aR 7 i0), some (aI p1), some (aI p2), x3, some (aI p4), some (aI v5), x6, some (aI v7), some (aI v8), x9, x10] [] (L0, g, w, q0) := by
  unfold s_X7_failsTogether_129 at h
  refine ev_iconst (pc' := 130) rfl rfl (v := (1 : Int32)) (by decide) ?_
  refine ev_goto (pc' := 134) rfl ?_
  exact e_X7_failsTogether_134 (hr100 := hr100) hΨ h
def s_X7_failsTogether_100 (i0 : Nat) (p1 : Int32) (p2 : Int32) (p3 : Int32) (p4 : Int32) (rec100 : Int32 → Bool → Int32 → Int32 → (Nat → Nat → Nat → Int32) → (Nat → Nat → Nat → Int64) → Option (Bool)) (v5 : Int32) (v6 : Bool) (v7 : Int32) (v8 : Int32) (g : Nat → Nat → Nat → Int32) (w : Nat → Nat → Nat → Int64) : Option (Bool) :=
  if v5 ≤ v8 then
    if v6 = true then
      if p1 = (3 : Int32) then
        s_X7_failsTogether_259 i0 p1 p2 p3 p4 g w
      else
        if (lg_cmp (w 2218 0 (61 : Int32).toNatClampNeg) (1 : Int64)) ≠ 0 then
          s_X7_failsTogether_263 i0 p1 p2 p3 p4 g w
        else
          s_X7_failsTogether_259 i0 p1 p2 p3 p4 g w
    else
      s_X7_failsTogether_263 i0 p1 p2 p3 p4 g w
  else
    if p1 ≠ (3 : Int32) then
      s_X7_failsTogether_R145 i0 p1 p2 p3 p4 rec100 FU v5 v6 v7 v8 false (0 : Int32) g w
    else
      if v6 = true then
        s_X7_failsTogether_129 i0 p1 p2 p3 p4 rec100 v5 v7 v8 g w
      else
        (s_X7_needsOf i0 p2 v8 g w).bind fun q1 =>
        if q1 ≤ v7 then
          s_X7_failsTogether_134 i0 p1 p2 p3 p4 rec100 false v5 v7 v8 g w
        else
          s_X7_failsTogether_129 i0 p1 p2 p3 p4 rec100 v5 v7 v8 g w
set_option maxRecDepth 20000 in
set_option maxHeartbeats 2000000 in
theorem e_X7_failsTogether_100 {d : Nat} {Ψ : Option AV → DS → Prop} {i0 : Nat} {p1 : Int32} {p2 : Int32} {p3 : Int32} {p4 : Int32} {rec100 : Int32 → Bool → Int32 → Int32 → (Nat → Nat → Nat → Int32) → (Nat → Nat → Nat → Int64) → Option (Bool)} {r : Bool} {g : Nat → Nat → Nat → Int32} {w : Nat → Nat → Nat → Int64} {v5 : Int32} {v6 : Bool} {v7 : Int32} {v8 : Int32} {x3 : Option AV} {x9 : Option AV} {x10 : Option AV} (hr100 : ∀ {v5 : Int32} {v6 : Bool} {v7 : Int32} {v8 : Int32} {x3 : Option AV} {x9 : Option AV} {x10 : Option AV} , rec100 v5 v6 v7 v8 g w = some r → Ev (EvM mth (d + 2)) mth c00 sc0 (retP (some .boolean) c00 Ψ) (lkp es_148) 100 [some (aR 7 i0), some (aI p1), some (aI p2), x3, some (aI p4), some (aI v5), some (aI (bI v6)), some (aI v7), some (aI v8), x9, x10] [] (L0, g, w, q0)) (hΨ : Ψ (some (aI (bI r))) (L0, g, w, q0)) (h : s_X7_failsTogether_100 i0 p1 p2 p3 p4 rec100 v5 v6 v7 v8 g w = some r) : Ev (EvM mth (d + 2)) mth c00 sc0 (retP (some .boolean) c00 Ψ) (lkp es_148) 100 [some (aR 7 i0), some (aI p1), some (aI p2), x3, some (aI p4), some (aI v5), some (aI (bI v6)), some (aI v7), some (aI v8), x9, x10] [] (L0, g, w, q0) := by
  unfold s_X7_failsTogether_100 at h
  refine ev_iload (pc' := 102) rfl rfl rfl ?_
  refine ev_iload (pc' := 104) rfl rfl rfl ?_
  refine ev_icmp_ge rfl (pc' := 107) rfl (fun hc => ?_) (fun hc => ?_)
  · have h := (if_pos hc).symm.trans h
    refine ev_iload (pc' := 239) rfl rfl rfl ?_
    refine ev_ifB_eq rfl (pc' := 242) rfl (fun hc => ?_) (fun hc => ?_)
    · have h := (if_neg hc).symm.trans h
      exact e_X7_failsTogether_263 hΨ h
    · have h := (if_pos hc).symm.trans h
      refine ev_iload_n (pc' := 243) rfl rfl rfl ?_
      refine ev_iconst (pc' := 244) rfl rfl (v := (3 : Int32)) (by decide) ?_
      refine ev_icmp_eq rfl (pc' := 247) rfl (fun hc => ?_) (fun hc => ?_)
      · have h := (if_pos hc).symm.trans h
        exact e_X7_failsTogether_259 hΨ h
      · have h := (if_neg hc).symm.trans h
        refine ev_aload_n (pc' := 248) rfl rfl rfl ?_
        refine ev_getQ (pc' := 251) rfl rfl rfl ?_
        refine ev_bipush (pc' := 253) rfl rfl (v := (61 : Int32)) (by decide) ?_
        refine ev_lald (pc' := 254) rfl rfl rfl (inR_vp (by decide)) ?_
        refine ev_lconst (pc' := 255) rfl rfl (v := (1 : Int64)) (by decide) ?_
        refine ev_lcmp (pc' := 256) rfl rfl ?_
        refine ev_if_ne rfl (pc' := 259) rfl (fun hc => ?_) (fun hc => ?_)
        · have h := (if_pos hc).symm.trans h
          exact e_X7_failsTogether_263 hΨ h
        · have h := (if_neg hc).symm.trans h
          exact e_X7_failsTogether_259 hΨ h
  · have h := (if_neg hc).symm.trans h
    refine ev_iload_n (pc' := 108) rfl rfl rfl ?_
    refine ev_iconst (pc' := 109) rfl rfl (v := (3 : Int32)) (by decide) ?_
    refine ev_icmp_ne rfl (pc' := 112) rfl (fun hc => ?_) (fun hc => ?_)
    · have h := (if_pos hc).symm.trans h
      refine ev_iconst (pc' := 140) rfl rfl (v := (0 : Int32)) (by decide) ?_
      refine ev_istore (pc' := 142) rfl rfl (l' := [some (aR 7 i0), some (aI p1), some (aI p2), x3, some (aI p4), some (aI v5), some (aI (bI v6)), some (aI v7), some (aI v8), some (aI (0 : Int32)), x10]) rfl ?_
      refine ev_iconst (pc' := 143) rfl rfl (v := (0 : Int32)) (by decide) ?_
      refine ev_istore (pc' := 145) rfl rfl (l' := [some (aR 7 i0), some (aI p1), some (aI p2), x3, some (aI p4), some (aI v5), some (aI (bI v6)), some (aI v7), some (aI v8), some (aI (0 : Int32)), some (aI (0 : Int32))]) rfl ?_
      exact e_X7_failsTogether_R145 (hr100 := hr100) hΨ FU h
    · have h := (if_neg hc).symm.trans h
      refine ev_iload (pc' := 114) rfl rfl rfl ?_
      refine ev_ifB_ne rfl (pc' := 117) rfl (fun hc => ?_) (fun hc => ?_)
      · have h := (if_pos hc).symm.trans h
        exact e_X7_failsTogether_129 (hr100 := hr100) hΨ h
      · have h := (if_neg hc).symm.trans h
        refine ev_iload (pc' := 119) rfl rfl rfl ?_
        refine ev_aload_n (pc' := 120) rfl rfl rfl ?_
        refine ev_iload_n (pc' := 121) rfl rfl rfl ?_
        refine ev_iload (pc' := 123) rfl rfl rfl ?_
        obtain ⟨q1, hq1, h⟩ := Option.bind_eq_some_iff.mp h
        refine ev_V3I (pc' := 126) rfl (by decide) rfl mth_131 ⟨Nat.le_of_ble_eq_true rfl, rfl⟩ ⟨Nat.le_refl _, Nat.le_refl _⟩ (d_X7_needsOf hq1) ?_
        refine ev_icmp_ge rfl (pc' := 129) rfl (fun hc => ?_) (fun hc => ?_)
        · have h := (if_pos hc).symm.trans h
          refine ev_iconst (pc' := 134) rfl rfl (v := (0 : Int32)) (by decide) ?_
          exact e_X7_failsTogether_134 (hr100 := hr100) hΨ h
        · have h := (if_neg hc).symm.trans h
          exact e_X7_failsTogether_129 (hr100 := hr100) hΨ h
def s_X7_failsTogether_R100 (i0 : Nat) (p1 : Int32) (p2 : Int32) (p3 : Int32) (p4 : Int32) : Nat → Int32 → Bool → Int32 → Int32 → (Nat → Nat → Nat → Int32) → (Nat → Nat → Nat → Int64) → Option (Bool)
  | 0 => fun _ _ _ _ _ _ => none
  | n + 1 => s_X7_failsTogether_100 i0 p1 p2 p3 p4 (s_X7_failsTogether_R100 i0 p1 p2 p3 p4 n)
theorem e_X7_failsTogether_R100 {d : Nat} {Ψ : Option AV → DS → Prop} {i0 : Nat} {p1 : Int32} {p2 : Int32} {p3 : Int32} {p4 : Int32} {r : Bool} {g : Nat → Nat → Nat → Int32} {w : Nat → Nat → Nat → Int64} (hΨ : Ψ (some (aI (bI r))) (L0, g, w, q0)) : ∀ (n : Nat) {v5 : Int32} {v6 : Bool} {v7 : Int32} {v8 : Int32} {x3 : Option AV} {x9 : Option AV} {x10 : Option AV}, s_X7_failsTogether_R100 i0 p1 p2 p3 p4 n v5 v6 v7 v8 g w = some r → Ev (EvM mth (d + 2)) mth c00 sc0 (retP (some .boolean) c00 Ψ) (lkp es_148) 100 [some (aR 7 i0), some (aI p1), some (aI p2), x3, some (aI p4), some (aI v5), some (aI (bI v6)), some (aI v7), some (aI v8), x9, x10] [] (L0, g, w, q0) := by
  intro n
  induction n with
  | zero => intros; rename_i h; exact absurd h (by intro h9; cases h9)
  | succ n ih => intros; rename_i h; exact e_X7_failsTogether_100 (hr100 := ih) hΨ h
def s_X7_failsTogether_88 (i0 : Nat) (p1 : Int32) (p2 : Int32) (p3 : Int32) (p4 : Int32) (t0 : Bool) (g : Nat → Nat → Nat → Int32) (w : Nat → Nat → Nat → Int64) : Option (Bool) :=
  some (t0)
set_option maxRecDepth 20000 in
set_option maxHeartbeats 2000000 in
theorem e_X7_failsTogether_88 {d : Nat} {Ψ : Option AV → DS → Prop} {i0 : Nat} {p1 : Int32} {p2 : Int32} {p3 : Int32} {p4 : Int32} {r : Bool} {g : Nat → Nat → Nat → Int32} {w : Nat → Nat → Nat → Int64} {t0 : Bool} {x0 : Option AV} {x1 : Option AV} {x2 : Option AV} {x3 : Option AV} {x4 : Option AV} {x5 : Option AV} {x6 : Option AV} {x7 : Option AV} {x8 : Option AV} {x9 : Option AV} {x10 : Option AV} (hΨ : Ψ (some (aI (bI r))) (L0, g, w, q0)) (h : s_X7_failsTogether_88 i0 p1 p2 p3 p4 t0 g w = some r) : Ev (EvM mth (d + 2)) mth c00 sc0 (retP (some .boolean) c00 Ψ) (lkp es_148) 88 [x0, x1, x2, x3, x4, x5, x6, x7, x8, x9, x10] [aI (bI t0)] (L0, g, w, q0) := by
  unfold s_X7_failsTogether_88 at h
  obtain rfl := Option.some.inj h
  exact ev_ireturn rfl ⟨⟨_, rfl, nar_bI _⟩, rfl, rfl, hΨ⟩
def s_X7_failsTogether_70 (i0 : Nat) (p1 : Int32) (p2 : Int32) (p3 : Int32) (p4 : Int32) (rec24 : Bool → Int32 → (Nat → Nat → Nat → Int32) → (Nat → Nat → Nat → Int64) → Option (Bool)) (t0 : Bool) (v8 : Int32) (g : Nat → Nat → Nat → Int32) (w : Nat → Nat → Nat → Int64) : Option (Bool) :=
  rec24 t0 (v8 + 1) g w
set_option maxRecDepth 20000 in
set_option maxHeartbeats 2000000 in
theorem e_X7_failsTogether_70 {d : Nat} {Ψ : Option AV → DS → Prop} {i0 : Nat} {p1 : Int32} {p2 : Int32} {p3 : Int32} {p4 : Int32} {rec24 : Bool → Int32 → (Nat → Nat → Nat → Int32) → (Nat → Nat → Nat → Int64) → Option (Bool)} {r : Bool} {g : Nat → Nat → Nat → Int32} {w : Nat → Nat → Nat → Int64} {t0 : Bool} {v8 : Int32} {x1 : Option AV} {x2 : Option AV} {x3 : Option AV} {x5 : Option AV} {x6 : Option AV} {x7 : Option AV} {x9 : Option AV} {x10 : Option AV} (hr24 : ∀ {v7 : Bool} {v8 : Int32} {x1 : Option AV} {x2 : Option AV} {x3 : Option AV} {x5 : Option AV} {x6 : Option AV} {x9 : Option AV} {x10 : Option AV} , rec24 v7 v8 g w = some r → Ev (EvM mth (d + 2)) mth c00 sc0 (retP (some .boolean) c00 Ψ) (lkp es_148) 24 [some (aR 7 i0), x1, x2, x3, some (aI p4), x5, x6, some (aI (bI v7)), some (aI v8), x9, x10] [] (L0, g, w, q0)) (hΨ : Ψ (some (aI (bI r))) (L0, g, w, q0)) (h : s_X7_failsTogether_70 i0 p1 p2 p3 p4 rec24 t0 v8 g w = some r) : Ev (EvM mth (d + 2)) mth c00 sc0 (retP (some .boolean) c00 Ψ) (lkp es_148) 70 [some (aR 7 i0), x1, x2, x3, some (aI p4), x5, x6, x7, some (aI v8), x9, x10] [aI (bI t0)] (L0, g, w, q0) := by
  unfold s_X7_failsTogether_70 at h
  refine ev_istore (pc' := 72) rfl rfl (l' := [some (aR 7 i0), x1, x2, x3, some (aI p4), x5, (klO x6), some (aI (bI t0)), some (aI v8), x9, x10]) rfl ?_
  refine ev_iinc (pc' := 75) rfl rfl (l' := [some (aR 7 i0), x1, x2, x3, some (aI p4), x5, (klO x6), some (aI (bI t0)), some (aI (v8 + 1)), x9, x10]) rfl (ii_1 _) rfl ?_
  refine ev_goto (pc' := 24) rfl ?_
  exact hr24 h
def s_X7_failsTogether_69 (i0 : Nat) (p1 : Int32) (p2 : Int32) (p3 : Int32) (p4 : Int32) (rec24 : Bool → Int32 → (Nat → Nat → Nat → Int32) → (Nat → Nat → Nat → Int64) → Option (Bool)) (v8 : Int32) (g : Nat → Nat → Nat → Int32) (w : Nat → Nat → Nat → Int64) : Option (Bool) :=
  s_X7_failsTogether_70 i0 p1 p2 p3 p4 rec24 false v8 g w
set_option maxRecDepth 20000 in
set_option maxHeartbeats 2000000 in
theorem e_X7_failsTogether_69 {d : Nat} {Ψ : Option AV → DS → Prop} {i0 : Nat} {p1 : Int32} {p2 : Int32} {p3 : Int32} {p4 : Int32} {rec24 : Bool → Int32 → (Nat → Nat → Nat → Int32) → (Nat → Nat → Nat → Int64) → Option (Bool)} {r : Bool} {g : Nat → Nat → Nat → Int32} {w : Nat → Nat → Nat → Int64} {v8 : Int32} {x1 : Option AV} {x2 : Option AV} {x3 : Option AV} {x5 : Option AV} {x6 : Option AV} {x7 : Option AV} {x9 : Option AV} {x10 : Option AV} (hr24 : ∀ {v7 : Bool} {v8 : Int32} {x1 : Option AV} {x2 : Option AV} {x3 : Option AV} {x5 : Option AV} {x6 : Option AV} {x9 : Option AV} {x10 : Option AV} , rec24 v7 v8 g w = some r → Ev (EvM mth (d + 2)) mth c00 sc0 (retP (some .boolean) c00 Ψ) (lkp es_148) 24 [some (aR 7 i0), x1, x2, x3, some (aI p4), x5, x6, some (aI (bI v7)), some (aI v8), x9, x10] [] (L0, g, w, q0)) (hΨ : Ψ (some (aI (bI r))) (L0, g, w, q0)) (h : s_X7_failsTogether_69 i0 p1 p2 p3 p4 rec24 v8 g w = some r) : Ev (EvM mth (d + 2)) mth c00 sc0 (retP (some .boolean) c00 Ψ) (lkp es_148) 69 [some (aR 7 i0), x1, x2, x3, some (aI p4), x5, x6, x7, some (aI v8), x9, x10] [] (L0, g, w, q0) := by
  unfold s_X7_failsTogether_69 at h
  refine ev_iconst (pc' := 70) rfl rfl (v := (0 : Int32)) (by decide) ?_
  exact e_X7_failsTogether_70 (hr24 := hr24) hΨ h
def s_X7_failsTogether_65 (i0 : Nat) (p1 : Int32) (p2 : Int32) (p3 : Int32) (p4 : Int32) (rec24 : Bool → Int32 → (Nat → Nat → Nat → Int32) → (Nat → Nat → Nat → Int64) → Option (Bool)) (v8 : Int32) (g : Nat → Nat → Nat → Int32) (w : Nat → Nat → Nat → Int64) : Option (Bool) :=
  s_X7_failsTogether_70 i0 p1 p2 p3 p4 rec24 true v8 g w
set_option maxRecDepth 20000 in
set_option maxHeartbeats 2000000 in
theorem e_X7_failsTogether_65 {d : Nat} {Ψ : Option AV → DS → Prop} {i0 : Nat} {p1 : Int32} {p2 : Int32} {p3 : Int32} {p4 : Int32} {rec24 : Bool → Int32 → (Nat → Nat → Nat → Int32) → (Nat → Nat → Nat → Int64) → Option (Bool)} {r : Bool} {g : Nat → Nat → Nat → Int32} {w : Nat → Nat → Nat → Int64} {v8 : Int32} {x1 : Option AV} {x2 : Option AV} {x3 : Option AV} {x5 : Option AV} {x6 : Option AV} {x7 : Option AV} {x9 : Option AV} {x10 : Option AV} (hr24 : ∀ {v7 : Bool} {v8 : Int32} {x1 : Option AV} {x2 : Option AV} {x3 : Option AV} {x5 : Option AV} {x6 : Option AV} {x9 : Option AV} {x10 : Option AV} , rec24 v7 v8 g w = some r → Ev (EvM mth (d + 2)) mth c00 sc0 (retP (some .boolean) c00 Ψ) (lkp es_148) 24 [some (aR 7 i0), x1, x2, x3, some (aI p4), x5, x6, some (aI (bI v7)), some (aI v8), x9, x10] [] (L0, g, w, q0)) (hΨ : Ψ (some (aI (bI r))) (L0, g, w, q0)) (h : s_X7_failsTogether_65 i0 p1 p2 p3 p4 rec24 v8 g w = some r) : Ev (EvM mth (d + 2)) mth c00 sc0 (retP (some .boolean) c00 Ψ) (lkp es_148) 65 [some (aR 7 i0), x1, x2, x3, some (aI p4), x5, x6, x7, some (aI v8), x9, x10] [] (L0, g, w, q0) := by
  unfold s_X7_failsTogether_65 at h
  refine ev_iconst (pc' := 66) rfl rfl (v := (1 : Int32)) (by decide) ?_
  refine ev_goto (pc' := 70) rfl ?_
  exact e_X7_failsTogether_70 (hr24 := hr24) hΨ h
def s_X7_failsTogether_24 (i0 : Nat) (p1 : Int32) (p2 : Int32) (p3 : Int32) (p4 : Int32) (rec24 : Bool → Int32 → (Nat → Nat → Nat → Int32) → (Nat → Nat → Nat → Int64) → Option (Bool)) (v7 : Bool) (v8 : Int32) (g : Nat → Nat → Nat → Int32) (w : Nat → Nat → Nat → Int64) : Option (Bool) :=
  if 0 ≤ (lg_cmp v8.toInt64 (w 2218 0 (64 : Int32).toNatClampNeg)) then
    if v7 = true then
      s_X7_failsTogether_88 i0 p1 p2 p3 p4 false g w
    else
      s_X7_failsTogether_88 i0 p1 p2 p3 p4 true g w
  else
    if v7 = true then
      s_X7_failsTogether_65 i0 p1 p2 p3 p4 rec24 v8 g w
    else
      if ((p4 >>> (v8 &&& 31)) &&& (1 : Int32)) ≠ (1 : Int32) then
        s_X7_failsTogether_69 i0 p1 p2 p3 p4 rec24 v8 g w
      else
        (s_X7_ofTug i0 v8 (2 : Int32) g w).bind fun q1 =>
        if q1 ≠ (1 : Int32) then
          s_X7_failsTogether_69 i0 p1 p2 p3 p4 rec24 v8 g w
        else
          s_X7_failsTogether_65 i0 p1 p2 p3 p4 rec24 v8 g w
set_option maxRecDepth 20000 in
set_option maxHeartbeats 2000000 in
theorem e_X7_failsTogether_24 {d : Nat} {Ψ : Option AV → DS → Prop} {i0 : Nat} {p1 : Int32} {p2 : Int32} {p3 : Int32} {p4 : Int32} {rec24 : Bool → Int32 → (Nat → Nat → Nat → Int32) → (Nat → Nat → Nat → Int64) → Option (Bool)} {r : Bool} {g : Nat → Nat → Nat → Int32} {w : Nat → Nat → Nat → Int64} {v7 : Bool} {v8 : Int32} {x1 : Option AV} {x2 : Option AV} {x3 : Option AV} {x5 : Option AV} {x6 : Option AV} {x9 : Option AV} {x10 : Option AV} (hr24 : ∀ {v7 : Bool} {v8 : Int32} {x1 : Option AV} {x2 : Option AV} {x3 : Option AV} {x5 : Option AV} {x6 : Option AV} {x9 : Option AV} {x10 : Option AV} , rec24 v7 v8 g w = some r → Ev (EvM mth (d + 2)) mth c00 sc0 (retP (some .boolean) c00 Ψ) (lkp es_148) 24 [some (aR 7 i0), x1, x2, x3, some (aI p4), x5, x6, some (aI (bI v7)), some (aI v8), x9, x10] [] (L0, g, w, q0)) (hΨ : Ψ (some (aI (bI r))) (L0, g, w, q0)) (h : s_X7_failsTogether_24 i0 p1 p2 p3 p4 rec24 v7 v8 g w = some r) : Ev (EvM mth (d + 2)) mth c00 sc0 (retP (some .boolean) c00 Ψ) (lkp es_148) 24 [some (aR 7 i0), x1, x2, x3, some (aI p4), x5, x6, some (aI (bI v7)), some (aI v8), x9, x10] [] (L0, g, w, q0) := by
  unfold s_X7_failsTogether_24 at h
  refine ev_iload (pc' := 26) rfl rfl rfl ?_
  refine ev_i2l (pc' := 27) rfl rfl ?_
  refine ev_aload_n (pc' := 28) rfl rfl rfl ?_
  refine ev_getQ (pc' := 31) rfl rfl rfl ?_
  refine ev_bipush (pc' := 33) rfl rfl (v := (64 : Int32)) (by decide) ?_
  refine ev_lald (pc' := 34) rfl rfl rfl (inR_vp (by decide)) ?_
  refine ev_lcmp (pc' := 35) rfl rfl ?_
  refine ev_if_ge rfl (pc' := 38) rfl (fun hc => ?_) (fun hc => ?_)
  · have h := (if_pos hc).symm.trans h
    refine ev_iload (pc' := 80) rfl rfl rfl ?_
    refine ev_ifB_ne rfl (pc' := 83) rfl (fun hc => ?_) (fun hc => ?_)
    · have h := (if_pos hc).symm.trans h
      refine ev_iconst (pc' := 88) rfl rfl (v := (0 : Int32)) (by decide) ?_
      exact e_X7_failsTogether_88 hΨ h
    · have h := (if_neg hc).symm.trans h
      refine ev_iconst (pc' := 84) rfl rfl (v := (1 : Int32)) (by decide) ?_
      refine ev_goto (pc' := 88) rfl ?_
      exact e_X7_failsTogether_88 hΨ h
  · have h := (if_neg hc).symm.trans h
    refine ev_iload (pc' := 40) rfl rfl rfl ?_
    refine ev_ifB_ne rfl (pc' := 43) rfl (fun hc => ?_) (fun hc => ?_)
    · have h := (if_pos hc).symm.trans h
      exact e_X7_failsTogether_65 (hr24 := hr24) hΨ h
    · have h := (if_neg hc).symm.trans h
      refine ev_iload (pc' := 45) rfl rfl rfl ?_
      refine ev_iload (pc' := 47) rfl rfl rfl ?_
      refine ev_ishr (pc' := 48) rfl rfl ?_
      refine ev_iconst (pc' := 49) rfl rfl (v := (1 : Int32)) (by decide) ?_
      refine ev_iand (pc' := 50) rfl rfl ?_
      refine ev_iconst (pc' := 51) rfl rfl (v := (1 : Int32)) (by decide) ?_
      refine ev_icmp_ne rfl (pc' := 54) rfl (fun hc => ?_) (fun hc => ?_)
      · have h := (if_pos hc).symm.trans h
        exact e_X7_failsTogether_69 (hr24 := hr24) hΨ h
      · have h := (if_neg hc).symm.trans h
        refine ev_aload_n (pc' := 55) rfl rfl rfl ?_
        refine ev_iload (pc' := 57) rfl rfl rfl ?_
        refine ev_iconst (pc' := 58) rfl rfl (v := (2 : Int32)) (by decide) ?_
        obtain ⟨q1, hq1, h⟩ := Option.bind_eq_some_iff.mp h
        refine ev_V3I (pc' := 61) rfl (by decide) rfl mth_117 ⟨Nat.le_of_ble_eq_true rfl, rfl⟩ ⟨Nat.le_refl _, Nat.le_refl _⟩ (d_X7_ofTug hq1) ?_
        refine ev_iconst (pc' := 62) rfl rfl (v := (1 : Int32)) (by decide) ?_
        refine ev_icmp_ne rfl (pc' := 65) rfl (fun hc => ?_) (fun hc => ?_)
        · have h := (if_pos hc).symm.trans h
          exact e_X7_failsTogether_69 (hr24 := hr24) hΨ h
        · have h := (if_neg hc).symm.trans h
          exact e_X7_failsTogether_65 (hr24 := hr24) hΨ h
def s_X7_failsTogether_R24 (i0 : Nat) (p1 : Int32) (p2 : Int32) (p3 : Int32) (p4 : Int32) : Nat → Bool → Int32 → (Nat → Nat → Nat → Int32) → (Nat → Nat → Nat → Int64) → Option (Bool)
  | 0 => fun _ _ _ _ => none
  | n + 1 => s_X7_failsTogether_24 i0 p1 p2 p3 p4 (s_X7_failsTogether_R24 i0 p1 p2 p3 p4 n)
theorem e_X7_failsTogether_R24 {d : Nat} {Ψ : Option AV → DS → Prop} {i0 : Nat} {p1 : Int32} {p2 : Int32} {p3 : Int32} {p4 : Int32} {r : Bool} {g : Nat → Nat → Nat → Int32} {w : Nat → Nat → Nat → Int64} (hΨ : Ψ (some (aI (bI r))) (L0, g, w, q0)) : ∀ (n : Nat) {v7 : Bool} {v8 : Int32} {x1 : Option AV} {x2 : Option AV} {x3 : Option AV} {x5 : Option AV} {x6 : Option AV} {x9 : Option AV} {x10 : Option AV}, s_X7_failsTogether_R24 i0 p1 p2 p3 p4 n v7 v8 g w = some r → Ev (EvM mth (d + 2)) mth c00 sc0 (retP (some .boolean) c00 Ψ) (lkp es_148) 24 [some (aR 7 i0), x1, x2, x3, some (aI p4), x5, x6, some (aI (bI v7)), some (aI v8), x9, x10] [] (L0, g, w, q0) := by
  intro n
  induction n with
  | zero => intros; rename_i h; exact absurd h (by intro h9; cases h9)
  | succ n ih => intros; rename_i h; exact e_X7_failsTogether_24 (hr24 := ih) hΨ h
def s_X7_failsTogether (i0 : Nat) (p1 : Int32) (p2 : Int32) (p3 : Int32) (p4 : Int32) (g : Nat → Nat → Nat → Int32) (w : Nat → Nat → Nat → Int64) : Option (Bool) :=
  (s_X7_ofShip i0 p2 (3 : Int32) g w).bind fun q1 =>
  if p1 ≠ (4 : Int32) then
    (s_X7_pullOf i0 p4 g w).bind fun q2 =>
    s_X7_failsTogether_R100 i0 p1 p2 p3 p4 FU (p3 + q1) false q2 p3 g w
  else
    s_X7_failsTogether_R24 i0 p1 p2 p3 p4 FU false (0 : Int32) g w
set_option maxRecDepth 20000 in
set_option maxHeartbeats 2000000 in
theorem d_X7_failsTogether {d : Nat} {i0 : Nat} {p1 : Int32} {p2 : Int32} {p3 : Int32} {p4 : Int32} {g : Nat → Nat → Nat → Int32} {w : Nat → Nat → Nat → Int64} {r : Bool} (h : s_X7_failsTogether i0 p1 p2 p3 p4 g w = some r) : Does (EvM mth (d + 3)) 148 [aR 7 i0, aI p1, aI p2, aI p3, aI p4] (L0, g, w, q0) (some (aI (bI r))) (L0, g, w, q0) := by
  intro Ψ hΨ
  refine ⟨in_148, mth_148, Nat.le_of_ble_eq_true rfl, ?_⟩
  show Ev (EvM mth (d + 2)) mth c00 sc0 (retP (some .boolean) c00 Ψ) (lkp es_148) 0 [some (aR 7 i0), some (aI p1), some (aI p2), some (aI p3), some (aI p4), none, none, none, none, none, none] [] (L0, g, w, q0)
  unfold s_X7_failsTogether at h
  refine ev_iload_n (pc' := 1) rfl rfl rfl ?_
  refine ev_aload_n (pc' := 2) rfl rfl rfl ?_
  refine ev_iload_n (pc' := 3) rfl rfl rfl ?_
  refine ev_iconst (pc' := 4) rfl rfl (v := (3 : Int32)) (by decide) ?_
  obtain ⟨q1, hq1, h⟩ := Option.bind_eq_some_iff.mp h
  refine ev_V3I (pc' := 7) rfl (by decide) rfl mth_118 ⟨Nat.le_of_ble_eq_true rfl, rfl⟩ ⟨Nat.le_refl _, Nat.le_refl _⟩ (d_X7_ofShip hq1) ?_
  refine ev_iadd (pc' := 8) rfl rfl ?_
  refine ev_istore (pc' := 10) rfl rfl (l' := [some (aR 7 i0), some (aI p1), some (aI p2), some (aI p3), some (aI p4), some (aI (p3 + q1)), none, none, none, none, none]) rfl ?_
  refine ev_iconst (pc' := 11) rfl rfl (v := (0 : Int32)) (by decide) ?_
  refine ev_istore (pc' := 13) rfl rfl (l' := [some (aR 7 i0), some (aI p1), some (aI p2), some (aI p3), some (aI p4), some (aI (p3 + q1)), some (aI (0 : Int32)), none, none, none, none]) rfl ?_
  refine ev_iload_n (pc' := 14) rfl rfl rfl ?_
  refine ev_iconst (pc' := 15) rfl rfl (v := (4 : Int32)) (by decide) ?_
  refine ev_icmp_ne rfl (pc' := 18) rfl (fun hc => ?_) (fun hc => ?_)
  · have h := (if_pos hc).symm.trans h
    refine ev_aload_n (pc' := 90) rfl rfl rfl ?_
    refine ev_iload (pc' := 92) rfl rfl rfl ?_
    obtain ⟨q2, hq2, h⟩ := Option.bind_eq_some_iff.mp h
    refine ev_V2I (pc' := 95) rfl (by decide) rfl mth_140 ⟨Nat.le_of_ble_eq_true rfl, rfl⟩ ⟨Nat.le_refl _, Nat.le_refl _⟩ (d_X7_pullOf hq2) ?_
    refine ev_istore (pc' := 97) rfl rfl (l' := [some (aR 7 i0), some (aI p1), some (aI p2), some (aI p3), some (aI p4), some (aI (p3 + q1)), some (aI (0 : Int32)), some (aI q2), none, none, none]) rfl ?_
    refine ev_iload_n (pc' := 98) rfl rfl rfl ?_
    refine ev_istore (pc' := 100) rfl rfl (l' := [some (aR 7 i0), some (aI p1), some (aI p2), some (aI p3), some (aI p4), some (aI (p3 + q1)), some (aI (0 : Int32)), some (aI q2), some (aI p3), none, none]) rfl ?_
    exact e_X7_failsTogether_R100 hΨ FU h
  · have h := (if_neg hc).symm.trans h
    refine ev_iconst (pc' := 19) rfl rfl (v := (0 : Int32)) (by decide) ?_
    refine ev_istore (pc' := 21) rfl rfl (l' := [some (aR 7 i0), some (aI p1), some (aI p2), some (aI p3), some (aI p4), some (aI (p3 + q1)), some (aI (0 : Int32)), some (aI (0 : Int32)), none, none, none]) rfl ?_
    refine ev_iconst (pc' := 22) rfl rfl (v := (0 : Int32)) (by decide) ?_
    refine ev_istore (pc' := 24) rfl rfl (l' := [some (aR 7 i0), some (aI p1), some (aI p2), some (aI p3), some (aI p4), some (aI (p3 + q1)), some (aI (0 : Int32)), some (aI (0 : Int32)), some (aI (0 : Int32)), none, none]) rfl ?_
    exact e_X7_failsTogether_R24 hΨ FU h
def s_X7_isBetter_46 (i0 : Nat) (p1 : Int32) (p2 : Int32) (t0 : Bool) (g : Nat → Nat → Nat → Int32) (w : Nat → Nat → Nat → Int64) : Option (Bool) :=
  some (t0)
set_option maxRecDepth 20000 in
set_option maxHeartbeats 2000000 in
theorem e_X7_isBetter_46 {d : Nat} {Ψ : Option AV → DS → Prop} {i0 : Nat} {p1 : Int32} {p2 : Int32} {r : Bool} {g : Nat → Nat → Nat → Int32} {w : Nat → Nat → Nat → Int64} {t0 : Bool} {x0 : Option AV} {x1 : Option AV} {x2 : Option AV} (hΨ : Ψ (some (aI (bI r))) (L0, g, w, q0)) (h : s_X7_isBetter_46 i0 p1 p2 t0 g w = some r) : Ev (EvM mth (d + 2)) mth c00 sc0 (retP (some .boolean) c00 Ψ) (lkp es_158) 46 [x0, x1, x2] [aI (bI t0)] (L0, g, w, q0) := by
  unfold s_X7_isBetter_46 at h
  obtain rfl := Option.some.inj h
  exact ev_ireturn rfl ⟨⟨_, rfl, nar_bI _⟩, rfl, rfl, hΨ⟩
def s_X7_isBetter_27 (i0 : Nat) (p1 : Int32) (p2 : Int32) (t0 : Bool) (g : Nat → Nat → Nat → Int32) (w : Nat → Nat → Nat → Int64) : Option (Bool) :=
  some (t0)
set_option maxRecDepth 20000 in
set_option maxHeartbeats 2000000 in
theorem e_X7_isBetter_27 {d : Nat} {Ψ : Option AV → DS → Prop} {i0 : Nat} {p1 : Int32} {p2 : Int32} {r : Bool} {g : Nat → Nat → Nat → Int32} {w : Nat → Nat → Nat → Int64} {t0 : Bool} {x0 : Option AV} {x1 : Option AV} {x2 : Option AV} (hΨ : Ψ (some (aI (bI r))) (L0, g, w, q0)) (h : s_X7_isBetter_27 i0 p1 p2 t0 g w = some r) : Ev (EvM mth (d + 2)) mth c00 sc0 (retP (some .boolean) c00 Ψ) (lkp es_158) 27 [x0, x1, x2] [aI (bI t0)] (L0, g, w, q0) := by
  unfold s_X7_isBetter_27 at h
  obtain rfl := Option.some.inj h
  exact ev_ireturn rfl ⟨⟨_, rfl, nar_bI _⟩, rfl, rfl, hΨ⟩
def s_X7_isBetter (i0 : Nat) (p1 : Int32) (p2 : Int32) (g : Nat → Nat → Nat → Int32) (w : Nat → Nat → Nat → Int64) : Option (Bool) :=
  (s_X7_bits p1 g w).bind fun q1 =>
  (s_X7_bits p2 g w).bind fun q2 =>
  if q1 = q2 then
    (s_X7_pullOf i0 p1 g w).bind fun q3 =>
    (s_X7_pullOf i0 p2 g w).bind fun q4 =>
    if q4 ≤ q3 then
      s_X7_isBetter_46 i0 p1 p2 false g w
    else
      s_X7_isBetter_46 i0 p1 p2 true g w
  else
    (s_X7_bits p1 g w).bind fun q5 =>
    (s_X7_bits p2 g w).bind fun q6 =>
    if q6 ≤ q5 then
      s_X7_isBetter_27 i0 p1 p2 false g w
    else
      s_X7_isBetter_27 i0 p1 p2 true g w
set_option maxRecDepth 20000 in
set_option maxHeartbeats 2000000 in
theorem d_X7_isBetter {d : Nat} {i0 : Nat} {p1 : Int32} {p2 : Int32} {g : Nat → Nat → Nat → Int32} {w : Nat → Nat → Nat → Int64} {r : Bool} (h : s_X7_isBetter i0 p1 p2 g w = some r) : Does (EvM mth (d + 3)) 158 [aR 7 i0, aI p1, aI p2] (L0, g, w, q0) (some (aI (bI r))) (L0, g, w, q0) := by
  intro Ψ hΨ
  refine ⟨in_158, mth_158, Nat.le_of_ble_eq_true rfl, ?_⟩
  show Ev (EvM mth (d + 2)) mth c00 sc0 (retP (some .boolean) c00 Ψ) (lkp es_158) 0 [some (aR 7 i0), some (aI p1), some (aI p2)] [] (L0, g, w, q0)
  unfold s_X7_isBetter at h
  refine ev_iload_n (pc' := 1) rfl rfl rfl ?_
  obtain ⟨q1, hq1, h⟩ := Option.bind_eq_some_iff.mp h
  refine ev_S1I (pc' := 4) rfl (by decide) rfl mth_157 ⟨Nat.le_of_ble_eq_true rfl, rfl⟩ ⟨Nat.le_refl _, Nat.le_refl _⟩ (d_X7_bits hq1) ?_
  refine ev_iload_n (pc' := 5) rfl rfl rfl ?_
  obtain ⟨q2, hq2, h⟩ := Option.bind_eq_some_iff.mp h
  refine ev_S1I (pc' := 8) rfl (by decide) rfl mth_157 ⟨Nat.le_of_ble_eq_true rfl, rfl⟩ ⟨Nat.le_refl _, Nat.le_refl _⟩ (d_X7_bits hq2) ?_
  refine ev_icmp_eq rfl (pc' := 11) rfl (fun hc => ?_) (fun hc => ?_)
  · have h := (if_pos hc).symm.trans h
    refine ev_aload_n (pc' := 29) rfl rfl rfl ?_
    refine ev_iload_n (pc' := 30) rfl rfl rfl ?_
    obtain ⟨q3, hq3, h⟩ := Option.bind_eq_some_iff.mp h
    refine ev_V2I (pc' := 33) rfl (by decide) rfl mth_140 ⟨Nat.le_of_ble_eq_true rfl, rfl⟩ ⟨Nat.le_refl _, Nat.le_refl _⟩ (d_X7_pullOf hq3) ?_
    refine ev_aload_n (pc' := 34) rfl rfl rfl ?_
    refine ev_iload_n (pc' := 35) rfl rfl rfl ?_
    obtain ⟨q4, hq4, h⟩ := Option.bind_eq_some_iff.mp h
    refine ev_V2I (pc' := 38) rfl (by decide) rfl mth_140 ⟨Nat.le_of_ble_eq_true rfl, rfl⟩ ⟨Nat.le_refl _, Nat.le_refl _⟩ (d_X7_pullOf hq4) ?_
    refine ev_icmp_ge rfl (pc' := 41) rfl (fun hc => ?_) (fun hc => ?_)
    · have h := (if_pos hc).symm.trans h
      refine ev_iconst (pc' := 46) rfl rfl (v := (0 : Int32)) (by decide) ?_
      exact e_X7_isBetter_46 hΨ h
    · have h := (if_neg hc).symm.trans h
      refine ev_iconst (pc' := 42) rfl rfl (v := (1 : Int32)) (by decide) ?_
      refine ev_goto (pc' := 46) rfl ?_
      exact e_X7_isBetter_46 hΨ h
  · have h := (if_neg hc).symm.trans h
    refine ev_iload_n (pc' := 12) rfl rfl rfl ?_
    obtain ⟨q5, hq5, h⟩ := Option.bind_eq_some_iff.mp h
    refine ev_S1I (pc' := 15) rfl (by decide) rfl mth_157 ⟨Nat.le_of_ble_eq_true rfl, rfl⟩ ⟨Nat.le_refl _, Nat.le_refl _⟩ (d_X7_bits hq5) ?_
    refine ev_iload_n (pc' := 16) rfl rfl rfl ?_
    obtain ⟨q6, hq6, h⟩ := Option.bind_eq_some_iff.mp h
    refine ev_S1I (pc' := 19) rfl (by decide) rfl mth_157 ⟨Nat.le_of_ble_eq_true rfl, rfl⟩ ⟨Nat.le_refl _, Nat.le_refl _⟩ (d_X7_bits hq6) ?_
    refine ev_icmp_ge rfl (pc' := 22) rfl (fun hc => ?_) (fun hc => ?_)
    · have h := (if_pos hc).symm.trans h
      refine ev_iconst (pc' := 27) rfl rfl (v := (0 : Int32)) (by decide) ?_
      exact e_X7_isBetter_27 hΨ h
    · have h := (if_neg hc).symm.trans h
      refine ev_iconst (pc' := 23) rfl rfl (v := (1 : Int32)) (by decide) ?_
      refine ev_goto (pc' := 27) rfl ?_
      exact e_X7_isBetter_27 hΨ h
def s_X7_job_54 (i0 : Nat) (p1 : Int32) (p2 : Int32) (t0 : Int32) (g : Nat → Nat → Nat → Int32) (w : Nat → Nat → Nat → Int64) : Option (Int32) :=
  some (t0)
set_option maxRecDepth 20000 in
set_option maxHeartbeats 2000000 in
theorem e_X7_job_54 {d : Nat} {Ψ : Option AV → DS → Prop} {i0 : Nat} {p1 : Int32} {p2 : Int32} {r : Int32} {g : Nat → Nat → Nat → Int32} {w : Nat → Nat → Nat → Int64} {t0 : Int32} {x0 : Option AV} {x1 : Option AV} {x2 : Option AV} (hΨ : Ψ (some (aI r)) (L0, g, w, q0)) (h : s_X7_job_54 i0 p1 p2 t0 g w = some r) : Ev (EvM mth (d + 2)) mth c00 sc0 (retP (some .int) c00 Ψ) (lkp es_161) 54 [x0, x1, x2] [aI t0] (L0, g, w, q0) := by
  unfold s_X7_job_54 at h
  obtain rfl := Option.some.inj h
  exact ev_ireturn rfl ⟨⟨_, rfl, rfl⟩, rfl, rfl, hΨ⟩
def s_X7_job_18 (i0 : Nat) (p1 : Int32) (p2 : Int32) (g : Nat → Nat → Nat → Int32) (w : Nat → Nat → Nat → Int64) : Option (Int32) :=
  some ((-1 : Int32))
set_option maxRecDepth 20000 in
set_option maxHeartbeats 2000000 in
theorem e_X7_job_18 {d : Nat} {Ψ : Option AV → DS → Prop} {i0 : Nat} {p1 : Int32} {p2 : Int32} {r : Int32} {g : Nat → Nat → Nat → Int32} {w : Nat → Nat → Nat → Int64} {x0 : Option AV} {x1 : Option AV} {x2 : Option AV} (hΨ : Ψ (some (aI r)) (L0, g, w, q0)) (h : s_X7_job_18 i0 p1 p2 g w = some r) : Ev (EvM mth (d + 2)) mth c00 sc0 (retP (some .int) c00 Ψ) (lkp es_161) 18 [x0, x1, x2] [] (L0, g, w, q0) := by
  unfold s_X7_job_18 at h
  refine ev_iconst (pc' := 19) rfl rfl (v := (-1 : Int32)) (by decide) ?_
  obtain rfl := Option.some.inj h
  exact ev_ireturn rfl ⟨⟨_, rfl, rfl⟩, rfl, rfl, hΨ⟩
def s_X7_job (i0 : Nat) (p1 : Int32) (p2 : Int32) (g : Nat → Nat → Nat → Int32) (w : Nat → Nat → Nat → Int64) : Option (Int32) :=
  if (s_X7_isShip i0 p1 g w) = true then
    if (s_X7_in p2.toInt64 (0 : Int64) (1 : Int64) g w) = true then
      (s_X7_hasJob i0 p1 g w).bind fun q1 =>
      if q1 = true then
        if p2 ≠ 0 then
          (s_X7_ofShip i0 p1 (8 : Int32) g w).bind fun q2 =>
          s_X7_job_54 i0 p1 p2 q2 g w
        else
          (s_X7_ofShip i0 p1 (7 : Int32) g w).bind fun q3 =>
          s_X7_job_54 i0 p1 p2 q3 g w
      else
        s_X7_job_54 i0 p1 p2 (-4 : Int32) g w
    else
      s_X7_job_18 i0 p1 p2 g w
  else
    s_X7_job_18 i0 p1 p2 g w
set_option maxRecDepth 20000 in
set_option maxHeartbeats 2000000 in
theorem d_X7_job {d : Nat} {i0 : Nat} {p1 : Int32} {p2 : Int32} {g : Nat → Nat → Nat → Int32} {w : Nat → Nat → Nat → Int64} {r : Int32} (h : s_X7_job i0 p1 p2 g w = some r) : Does (EvM mth (d + 3)) 161 [aR 7 i0, aI p1, aI p2] (L0, g, w, q0) (some (aI r)) (L0, g, w, q0) := by
  intro Ψ hΨ
  refine ⟨in_161, mth_161, Nat.le_of_ble_eq_true rfl, ?_⟩
  show Ev (EvM mth (d + 2)) mth c00 sc0 (retP (some .int) c00 Ψ) (lkp es_161) 0 [some (aR 7 i0), some (aI p1), some (aI p2)] [] (L0, g, w, q0)
  unfold s_X7_job at h
  refine ev_aload_n (pc' := 1) rfl rfl rfl ?_
  refine ev_iload_n (pc' := 2) rfl rfl rfl ?_
  refine ev_V2I (pc' := 5) rfl (by decide) rfl mth_120 ⟨Nat.le_of_ble_eq_true rfl, rfl⟩ ⟨Nat.le_refl _, Nat.le_refl _⟩ d_X7_isShip ?_
  refine ev_ifB_eq rfl (pc' := 8) rfl (fun hc => ?_) (fun hc => ?_)
  · have h := (if_neg hc).symm.trans h
    exact e_X7_job_18 hΨ h
  · have h := (if_pos hc).symm.trans h
    refine ev_iload_n (pc' := 9) rfl rfl rfl ?_
    refine ev_i2l (pc' := 10) rfl rfl ?_
    refine ev_lconst (pc' := 11) rfl rfl (v := (0 : Int64)) (by decide) ?_
    refine ev_lconst (pc' := 12) rfl rfl (v := (1 : Int64)) (by decide) ?_
    refine ev_S3I (pc' := 15) rfl (by decide) rfl mth_115 ⟨Nat.le_of_ble_eq_true rfl, rfl⟩ ⟨Nat.le_refl _, Nat.le_refl _⟩ d_X7_in ?_
    refine ev_ifB_ne rfl (pc' := 18) rfl (fun hc => ?_) (fun hc => ?_)
    · have h := (if_pos hc).symm.trans h
      refine ev_aload_n (pc' := 21) rfl rfl rfl ?_
      refine ev_iload_n (pc' := 22) rfl rfl rfl ?_
      obtain ⟨q1, hq1, h⟩ := Option.bind_eq_some_iff.mp h
      refine ev_V2I (pc' := 25) rfl (by decide) rfl mth_125 ⟨Nat.le_of_ble_eq_true rfl, rfl⟩ ⟨Nat.le_refl _, Nat.le_refl _⟩ (d_X7_hasJob hq1) ?_
      refine ev_ifB_ne rfl (pc' := 28) rfl (fun hc => ?_) (fun hc => ?_)
      · have h := (if_pos hc).symm.trans h
        refine ev_iload_n (pc' := 34) rfl rfl rfl ?_
        refine ev_if_ne rfl (pc' := 37) rfl (fun hc => ?_) (fun hc => ?_)
        · have h := (if_pos hc).symm.trans h
          refine ev_aload_n (pc' := 48) rfl rfl rfl ?_
          refine ev_iload_n (pc' := 49) rfl rfl rfl ?_
          refine ev_bipush (pc' := 51) rfl rfl (v := (8 : Int32)) (by decide) ?_
          obtain ⟨q2, hq2, h⟩ := Option.bind_eq_some_iff.mp h
          refine ev_V3I (pc' := 54) rfl (by decide) rfl mth_118 ⟨Nat.le_of_ble_eq_true rfl, rfl⟩ ⟨Nat.le_refl _, Nat.le_refl _⟩ (d_X7_ofShip hq2) ?_
          exact e_X7_job_54 hΨ h
        · have h := (if_neg hc).symm.trans h
          refine ev_aload_n (pc' := 38) rfl rfl rfl ?_
          refine ev_iload_n (pc' := 39) rfl rfl rfl ?_
          refine ev_bipush (pc' := 41) rfl rfl (v := (7 : Int32)) (by decide) ?_
          obtain ⟨q3, hq3, h⟩ := Option.bind_eq_some_iff.mp h
          refine ev_V3I (pc' := 44) rfl (by decide) rfl mth_118 ⟨Nat.le_of_ble_eq_true rfl, rfl⟩ ⟨Nat.le_refl _, Nat.le_refl _⟩ (d_X7_ofShip hq3) ?_
          refine ev_goto (pc' := 54) rfl ?_
          exact e_X7_job_54 hΨ h
      · have h := (if_neg hc).symm.trans h
        refine ev_bipush (pc' := 30) rfl rfl (v := (-4 : Int32)) (by decide) ?_
        refine ev_goto (pc' := 54) rfl ?_
        exact e_X7_job_54 hΨ h
    · have h := (if_neg hc).symm.trans h
      exact e_X7_job_18 hΨ h
def s_X7_waited_36 (i0 : Nat) (p1 : Int32) (rec4 : Int32 → Int32 → (Nat → Nat → Nat → Int32) → (Nat → Nat → Nat → Int64) → Option (Int32)) (t0 : Int32) (t1 : Int32) (t2 : Int32) (v3 : Int32) (g : Nat → Nat → Nat → Int32) (w : Nat → Nat → Nat → Int64) : Option (Int32) :=
  (s_X7_ofShip i0 v3 (2 : Int32) g w).bind fun q1 =>
  rec4 (t0 + (t1 * (t2 - q1))) (v3 + 1) g w
set_option maxRecDepth 20000 in
set_option maxHeartbeats 2000000 in
theorem e_X7_waited_36 {d : Nat} {Ψ : Option AV → DS → Prop} {i0 : Nat} {p1 : Int32} {rec4 : Int32 → Int32 → (Nat → Nat → Nat → Int32) → (Nat → Nat → Nat → Int64) → Option (Int32)} {r : Int32} {g : Nat → Nat → Nat → Int32} {w : Nat → Nat → Nat → Int64} {t0 : Int32} {t1 : Int32} {t2 : Int32} {v3 : Int32} {x2 : Option AV} (hr4 : ∀ {v2 : Int32} {v3 : Int32} , rec4 v2 v3 g w = some r → Ev (EvM mth (d + 2)) mth c00 sc0 (retP (some .int) c00 Ψ) (lkp es_165) 4 [some (aR 7 i0), some (aI p1), some (aI v2), some (aI v3)] [] (L0, g, w, q0)) (hΨ : Ψ (some (aI r)) (L0, g, w, q0)) (h : s_X7_waited_36 i0 p1 rec4 t0 t1 t2 v3 g w = some r) : Ev (EvM mth (d + 2)) mth c00 sc0 (retP (some .int) c00 Ψ) (lkp es_165) 36 [some (aR 7 i0), some (aI p1), x2, some (aI v3)] [aI t2, aI t1, aI t0] (L0, g, w, q0) := by
  unfold s_X7_waited_36 at h
  refine ev_aload_n (pc' := 37) rfl rfl rfl ?_
  refine ev_iload_n (pc' := 38) rfl rfl rfl ?_
  refine ev_iconst (pc' := 39) rfl rfl (v := (2 : Int32)) (by decide) ?_
  obtain ⟨q1, hq1, h⟩ := Option.bind_eq_some_iff.mp h
  refine ev_V3I (pc' := 42) rfl (by decide) rfl mth_118 ⟨Nat.le_of_ble_eq_true rfl, rfl⟩ ⟨Nat.le_refl _, Nat.le_refl _⟩ (d_X7_ofShip hq1) ?_
  refine ev_isub (pc' := 43) rfl rfl ?_
  refine ev_imul (pc' := 44) rfl rfl ?_
  refine ev_iadd (pc' := 45) rfl rfl ?_
  refine ev_istore_n (pc' := 46) rfl rfl (l' := [some (aR 7 i0), some (aI p1), some (aI (t0 + (t1 * (t2 - q1)))), some (aI v3)]) rfl ?_
  refine ev_iinc (pc' := 49) rfl rfl (l' := [some (aR 7 i0), some (aI p1), some (aI (t0 + (t1 * (t2 - q1)))), some (aI (v3 + 1))]) rfl (ii_1 _) rfl ?_
  refine ev_goto (pc' := 4) rfl ?_
  exact hr4 h
def s_X7_waited_4 (i0 : Nat) (p1 : Int32) (rec4 : Int32 → Int32 → (Nat → Nat → Nat → Int32) → (Nat → Nat → Nat → Int64) → Option (Int32)) (v2 : Int32) (v3 : Int32) (g : Nat → Nat → Nat → Int32) (w : Nat → Nat → Nat → Int64) : Option (Int32) :=
  if p1 ≤ v3 then
    some (v2)
  else
    (s_X7_ofShip i0 v3 (4 : Int32) g w).bind fun q1 =>
    (s_X7_hasJob i0 v3 g w).bind fun q2 =>
    if q2 = true then
      (s_X7_ofShip i0 v3 (7 : Int32) g w).bind fun q3 =>
      s_X7_waited_36 i0 p1 rec4 v2 q1 q3 v3 g w
    else
      s_X7_waited_36 i0 p1 rec4 v2 q1 (60 : Int32) v3 g w
set_option maxRecDepth 20000 in
set_option maxHeartbeats 2000000 in
theorem e_X7_waited_4 {d : Nat} {Ψ : Option AV → DS → Prop} {i0 : Nat} {p1 : Int32} {rec4 : Int32 → Int32 → (Nat → Nat → Nat → Int32) → (Nat → Nat → Nat → Int64) → Option (Int32)} {r : Int32} {g : Nat → Nat → Nat → Int32} {w : Nat → Nat → Nat → Int64} {v2 : Int32} {v3 : Int32} (hr4 : ∀ {v2 : Int32} {v3 : Int32} , rec4 v2 v3 g w = some r → Ev (EvM mth (d + 2)) mth c00 sc0 (retP (some .int) c00 Ψ) (lkp es_165) 4 [some (aR 7 i0), some (aI p1), some (aI v2), some (aI v3)] [] (L0, g, w, q0)) (hΨ : Ψ (some (aI r)) (L0, g, w, q0)) (h : s_X7_waited_4 i0 p1 rec4 v2 v3 g w = some r) : Ev (EvM mth (d + 2)) mth c00 sc0 (retP (some .int) c00 Ψ) (lkp es_165) 4 [some (aR 7 i0), some (aI p1), some (aI v2), some (aI v3)] [] (L0, g, w, q0) := by
  unfold s_X7_waited_4 at h
  refine ev_iload_n (pc' := 5) rfl rfl rfl ?_
  refine ev_iload_n (pc' := 6) rfl rfl rfl ?_
  refine ev_icmp_ge rfl (pc' := 9) rfl (fun hc => ?_) (fun hc => ?_)
  · have h := (if_pos hc).symm.trans h
    refine ev_iload_n (pc' := 53) rfl rfl rfl ?_
    obtain rfl := Option.some.inj h
    exact ev_ireturn rfl ⟨⟨_, rfl, rfl⟩, rfl, rfl, hΨ⟩
  · have h := (if_neg hc).symm.trans h
    refine ev_iload_n (pc' := 10) rfl rfl rfl ?_
    refine ev_aload_n (pc' := 11) rfl rfl rfl ?_
    refine ev_iload_n (pc' := 12) rfl rfl rfl ?_
    refine ev_iconst (pc' := 13) rfl rfl (v := (4 : Int32)) (by decide) ?_
    obtain ⟨q1, hq1, h⟩ := Option.bind_eq_some_iff.mp h
    refine ev_V3I (pc' := 16) rfl (by decide) rfl mth_118 ⟨Nat.le_of_ble_eq_true rfl, rfl⟩ ⟨Nat.le_refl _, Nat.le_refl _⟩ (d_X7_ofShip hq1) ?_
    refine ev_aload_n (pc' := 17) rfl rfl rfl ?_
    refine ev_iload_n (pc' := 18) rfl rfl rfl ?_
    obtain ⟨q2, hq2, h⟩ := Option.bind_eq_some_iff.mp h
    refine ev_V2I (pc' := 21) rfl (by decide) rfl mth_125 ⟨Nat.le_of_ble_eq_true rfl, rfl⟩ ⟨Nat.le_refl _, Nat.le_refl _⟩ (d_X7_hasJob hq2) ?_
    refine ev_ifB_eq rfl (pc' := 24) rfl (fun hc => ?_) (fun hc => ?_)
    · have h := (if_neg hc).symm.trans h
      refine ev_bipush (pc' := 36) rfl rfl (v := (60 : Int32)) (by decide) ?_
      exact e_X7_waited_36 (hr4 := hr4) hΨ h
    · have h := (if_pos hc).symm.trans h
      refine ev_aload_n (pc' := 25) rfl rfl rfl ?_
      refine ev_iload_n (pc' := 26) rfl rfl rfl ?_
      refine ev_bipush (pc' := 28) rfl rfl (v := (7 : Int32)) (by decide) ?_
      obtain ⟨q3, hq3, h⟩ := Option.bind_eq_some_iff.mp h
      refine ev_V3I (pc' := 31) rfl (by decide) rfl mth_118 ⟨Nat.le_of_ble_eq_true rfl, rfl⟩ ⟨Nat.le_refl _, Nat.le_refl _⟩ (d_X7_ofShip hq3) ?_
      refine ev_goto (pc' := 36) rfl ?_
      exact e_X7_waited_36 (hr4 := hr4) hΨ h
def s_X7_waited_R4 (i0 : Nat) (p1 : Int32) : Nat → Int32 → Int32 → (Nat → Nat → Nat → Int32) → (Nat → Nat → Nat → Int64) → Option (Int32)
  | 0 => fun _ _ _ _ => none
  | n + 1 => s_X7_waited_4 i0 p1 (s_X7_waited_R4 i0 p1 n)
theorem e_X7_waited_R4 {d : Nat} {Ψ : Option AV → DS → Prop} {i0 : Nat} {p1 : Int32} {r : Int32} {g : Nat → Nat → Nat → Int32} {w : Nat → Nat → Nat → Int64} (hΨ : Ψ (some (aI r)) (L0, g, w, q0)) : ∀ (n : Nat) {v2 : Int32} {v3 : Int32} , s_X7_waited_R4 i0 p1 n v2 v3 g w = some r → Ev (EvM mth (d + 2)) mth c00 sc0 (retP (some .int) c00 Ψ) (lkp es_165) 4 [some (aR 7 i0), some (aI p1), some (aI v2), some (aI v3)] [] (L0, g, w, q0) := by
  intro n
  induction n with
  | zero => intros; rename_i h; exact absurd h (by intro h9; cases h9)
  | succ n ih => intros; rename_i h; exact e_X7_waited_4 (hr4 := ih) hΨ h
def s_X7_waited (i0 : Nat) (p1 : Int32) (g : Nat → Nat → Nat → Int32) (w : Nat → Nat → Nat → Int64) : Option (Int32) :=
  s_X7_waited_R4 i0 p1 FU (0 : Int32) (0 : Int32) g w
set_option maxRecDepth 20000 in
set_option maxHeartbeats 2000000 in
theorem d_X7_waited {d : Nat} {i0 : Nat} {p1 : Int32} {g : Nat → Nat → Nat → Int32} {w : Nat → Nat → Nat → Int64} {r : Int32} (h : s_X7_waited i0 p1 g w = some r) : Does (EvM mth (d + 3)) 165 [aR 7 i0, aI p1] (L0, g, w, q0) (some (aI r)) (L0, g, w, q0) := by
  intro Ψ hΨ
  refine ⟨in_165, mth_165, Nat.le_of_ble_eq_true rfl, ?_⟩
  show Ev (EvM mth (d + 2)) mth c00 sc0 (retP (some .int) c00 Ψ) (lkp es_165) 0 [some (aR 7 i0), some (aI p1), none, none] [] (L0, g, w, q0)
  unfold s_X7_waited at h
  refine ev_iconst (pc' := 1) rfl rfl (v := (0 : Int32)) (by decide) ?_
  refine ev_istore_n (pc' := 2) rfl rfl (l' := [some (aR 7 i0), some (aI p1), some (aI (0 : Int32)), none]) rfl ?_
  refine ev_iconst (pc' := 3) rfl rfl (v := (0 : Int32)) (by decide) ?_
  refine ev_istore_n (pc' := 4) rfl rfl (l' := [some (aR 7 i0), some (aI p1), some (aI (0 : Int32)), some (aI (0 : Int32))]) rfl ?_
  exact e_X7_waited_R4 hΨ FU h
def s_X7_goesOn_79 (i0 : Nat) (p1 : Int32) (p2 : Int32) (p3 : Int32) (rec41 : Int32 → Bool → Int32 → (Nat → Nat → Nat → Int32) → (Nat → Nat → Nat → Int64) → Option (Bool)) (t0 : Bool) (v4 : Int32) (v6 : Int32) (g : Nat → Nat → Nat → Int32) (w : Nat → Nat → Nat → Int64) : Option (Bool) :=
  rec41 v4 t0 (v6 + 1) g w
set_option maxRecDepth 20000 in
set_option maxHeartbeats 2000000 in
theorem e_X7_goesOn_79 {d : Nat} {Ψ : Option AV → DS → Prop} {i0 : Nat} {p1 : Int32} {p2 : Int32} {p3 : Int32} {rec41 : Int32 → Bool → Int32 → (Nat → Nat → Nat → Int32) → (Nat → Nat → Nat → Int64) → Option (Bool)} {r : Bool} {g : Nat → Nat → Nat → Int32} {w : Nat → Nat → Nat → Int64} {t0 : Bool} {v4 : Int32} {v6 : Int32} {x2 : Option AV} {x3 : Option AV} {x5 : Option AV} (hr41 : ∀ {v4 : Int32} {v5 : Bool} {v6 : Int32} {x2 : Option AV} {x3 : Option AV} , rec41 v4 v5 v6 g w = some r → Ev (EvM mth (d + 2)) mth c00 sc0 (retP (some .boolean) c00 Ψ) (lkp es_176) 41 [some (aR 7 i0), some (aI p1), x2, x3, some (aI v4), some (aI (bI v5)), some (aI v6)] [] (L0, g, w, q0)) (hΨ : Ψ (some (aI (bI r))) (L0, g, w, q0)) (h : s_X7_goesOn_79 i0 p1 p2 p3 rec41 t0 v4 v6 g w = some r) : Ev (EvM mth (d + 2)) mth c00 sc0 (retP (some .boolean) c00 Ψ) (lkp es_176) 79 [some (aR 7 i0), some (aI p1), x2, x3, some (aI v4), x5, some (aI v6)] [aI (bI t0)] (L0, g, w, q0) := by
  unfold s_X7_goesOn_79 at h
  refine ev_istore (pc' := 81) rfl rfl (l' := [some (aR 7 i0), some (aI p1), x2, x3, some (aI v4), some (aI (bI t0)), some (aI v6)]) rfl ?_
  refine ev_iinc (pc' := 84) rfl rfl (l' := [some (aR 7 i0), some (aI p1), x2, x3, some (aI v4), some (aI (bI t0)), some (aI (v6 + 1))]) rfl (ii_1 _) rfl ?_
  refine ev_goto (pc' := 41) rfl ?_
  exact hr41 h
def s_X7_goesOn_78 (i0 : Nat) (p1 : Int32) (p2 : Int32) (p3 : Int32) (rec41 : Int32 → Bool → Int32 → (Nat → Nat → Nat → Int32) → (Nat → Nat → Nat → Int64) → Option (Bool)) (v4 : Int32) (v6 : Int32) (g : Nat → Nat → Nat → Int32) (w : Nat → Nat → Nat → Int64) : Option (Bool) :=
  s_X7_goesOn_79 i0 p1 p2 p3 rec41 false v4 v6 g w
set_option maxRecDepth 20000 in
set_option maxHeartbeats 2000000 in
theorem e_X7_goesOn_78 {d : Nat} {Ψ : Option AV → DS → Prop} {i0 : Nat} {p1 : Int32} {p2 : Int32} {p3 : Int32} {rec41 : Int32 → Bool → Int32 → (Nat → Nat → Nat → Int32) → (Nat → Nat → Nat → Int64) → Option (Bool)} {r : Bool} {g : Nat → Nat → Nat → Int32} {w : Nat → Nat → Nat → Int64} {v4 : Int32} {v6 : Int32} {x2 : Option AV} {x3 : Option AV} {x5 : Option AV} (hr41 : ∀ {v4 : Int32} {v5 : Bool} {v6 : Int32} {x2 : Option AV} {x3 : Option AV} , rec41 v4 v5 v6 g w = some r → Ev (EvM mth (d + 2)) mth c00 sc0 (retP (some .boolean) c00 Ψ) (lkp es_176) 41 [some (aR 7 i0), some (aI p1), x2, x3, some (aI v4), some (aI (bI v5)), some (aI v6)] [] (L0, g, w, q0)) (hΨ : Ψ (some (aI (bI r))) (L0, g, w, q0)) (h : s_X7_goesOn_78 i0 p1 p2 p3 rec41 v4 v6 g w = some r) : Ev (EvM mth (d + 2)) mth c00 sc0 (retP (some .boolean) c00 Ψ) (lkp es_176) 78 [some (aR 7 i0), some (aI p1), x2, x3, some (aI v4), x5, some (aI v6)] [] (L0, g, w, q0) := by
  unfold s_X7_goesOn_78 at h
  refine ev_iconst (pc' := 79) rfl rfl (v := (0 : Int32)) (by decide) ?_
  exact e_X7_goesOn_79 (hr41 := hr41) hΨ h
def s_X7_goesOn_41 (i0 : Nat) (p1 : Int32) (p2 : Int32) (p3 : Int32) (rec41 : Int32 → Bool → Int32 → (Nat → Nat → Nat → Int32) → (Nat → Nat → Nat → Int64) → Option (Bool)) (v4 : Int32) (v5 : Bool) (v6 : Int32) (g : Nat → Nat → Nat → Int32) (w : Nat → Nat → Nat → Int64) : Option (Bool) :=
  (s_X7_last i0 p1 g w).bind fun q1 =>
  if q1 < v6 then
    some (v5)
  else
    if v5 = true then
      (s_X7_pullOf i0 v4 g w).bind fun q2 =>
      (s_X7_needsOf i0 p1 v6 g w).bind fun q3 =>
      if ((2 : Int32) * q2) < q3 then
        s_X7_goesOn_78 i0 p1 p2 p3 rec41 v4 v6 g w
      else
        s_X7_goesOn_79 i0 p1 p2 p3 rec41 true v4 v6 g w
    else
      s_X7_goesOn_78 i0 p1 p2 p3 rec41 v4 v6 g w
set_option maxRecDepth 20000 in
set_option maxHeartbeats 2000000 in
theorem e_X7_goesOn_41 {d : Nat} {Ψ : Option AV → DS → Prop} {i0 : Nat} {p1 : Int32} {p2 : Int32} {p3 : Int32} {rec41 : Int32 → Bool → Int32 → (Nat → Nat → Nat → Int32) → (Nat → Nat → Nat → Int64) → Option (Bool)} {r : Bool} {g : Nat → Nat → Nat → Int32} {w : Nat → Nat → Nat → Int64} {v4 : Int32} {v5 : Bool} {v6 : Int32} {x2 : Option AV} {x3 : Option AV} (hr41 : ∀ {v4 : Int32} {v5 : Bool} {v6 : Int32} {x2 : Option AV} {x3 : Option AV} , rec41 v4 v5 v6 g w = some r → Ev (EvM mth (d + 2)) mth c00 sc0 (retP (some .boolean) c00 Ψ) (lkp es_176) 41 [some (aR 7 i0), some (aI p1), x2, x3, some (aI v4), some (aI (bI v5)), some (aI v6)] [] (L0, g, w, q0)) (hΨ : Ψ (some (aI (bI r))) (L0, g, w, q0)) (h : s_X7_goesOn_41 i0 p1 p2 p3 rec41 v4 v5 v6 g w = some r) : Ev (EvM mth (d + 2)) mth c00 sc0 (retP (some .boolean) c00 Ψ) (lkp es_176) 41 [some (aR 7 i0), some (aI p1), x2, x3, some (aI v4), some (aI (bI v5)), some (aI v6)] [] (L0, g, w, q0) := by
  unfold s_X7_goesOn_41 at h
  refine ev_iload (pc' := 43) rfl rfl rfl ?_
  refine ev_aload_n (pc' := 44) rfl rfl rfl ?_
  refine ev_iload_n (pc' := 45) rfl rfl rfl ?_
  obtain ⟨q1, hq1, h⟩ := Option.bind_eq_some_iff.mp h
  refine ev_V2I (pc' := 48) rfl (by decide) rfl mth_142 ⟨Nat.le_of_ble_eq_true rfl, rfl⟩ ⟨Nat.le_refl _, Nat.le_refl _⟩ (d_X7_last hq1) ?_
  refine ev_icmp_gt rfl (pc' := 51) rfl (fun hc => ?_) (fun hc => ?_)
  · have h := (if_pos hc).symm.trans h
    refine ev_iload (pc' := 89) rfl rfl rfl ?_
    obtain rfl := Option.some.inj h
    exact ev_ireturn rfl ⟨⟨_, rfl, nar_bI _⟩, rfl, rfl, hΨ⟩
  · have h := (if_neg hc).symm.trans h
    refine ev_iload (pc' := 53) rfl rfl rfl ?_
    refine ev_ifB_eq rfl (pc' := 56) rfl (fun hc => ?_) (fun hc => ?_)
    · have h := (if_neg hc).symm.trans h
      exact e_X7_goesOn_78 (hr41 := hr41) hΨ h
    · have h := (if_pos hc).symm.trans h
      refine ev_iconst (pc' := 57) rfl rfl (v := (2 : Int32)) (by decide) ?_
      refine ev_aload_n (pc' := 58) rfl rfl rfl ?_
      refine ev_iload (pc' := 60) rfl rfl rfl ?_
      obtain ⟨q2, hq2, h⟩ := Option.bind_eq_some_iff.mp h
      refine ev_V2I (pc' := 63) rfl (by decide) rfl mth_140 ⟨Nat.le_of_ble_eq_true rfl, rfl⟩ ⟨Nat.le_refl _, Nat.le_refl _⟩ (d_X7_pullOf hq2) ?_
      refine ev_imul (pc' := 64) rfl rfl ?_
      refine ev_aload_n (pc' := 65) rfl rfl rfl ?_
      refine ev_iload_n (pc' := 66) rfl rfl rfl ?_
      refine ev_iload (pc' := 68) rfl rfl rfl ?_
      obtain ⟨q3, hq3, h⟩ := Option.bind_eq_some_iff.mp h
      refine ev_V3I (pc' := 71) rfl (by decide) rfl mth_131 ⟨Nat.le_of_ble_eq_true rfl, rfl⟩ ⟨Nat.le_refl _, Nat.le_refl _⟩ (d_X7_needsOf hq3) ?_
      refine ev_icmp_lt rfl (pc' := 74) rfl (fun hc => ?_) (fun hc => ?_)
      · have h := (if_pos hc).symm.trans h
        exact e_X7_goesOn_78 (hr41 := hr41) hΨ h
      · have h := (if_neg hc).symm.trans h
        refine ev_iconst (pc' := 75) rfl rfl (v := (1 : Int32)) (by decide) ?_
        refine ev_goto (pc' := 79) rfl ?_
        exact e_X7_goesOn_79 (hr41 := hr41) hΨ h
def s_X7_goesOn_R41 (i0 : Nat) (p1 : Int32) (p2 : Int32) (p3 : Int32) : Nat → Int32 → Bool → Int32 → (Nat → Nat → Nat → Int32) → (Nat → Nat → Nat → Int64) → Option (Bool)
  | 0 => fun _ _ _ _ _ => none
  | n + 1 => s_X7_goesOn_41 i0 p1 p2 p3 (s_X7_goesOn_R41 i0 p1 p2 p3 n)
theorem e_X7_goesOn_R41 {d : Nat} {Ψ : Option AV → DS → Prop} {i0 : Nat} {p1 : Int32} {p2 : Int32} {p3 : Int32} {r : Bool} {g : Nat → Nat → Nat → Int32} {w : Nat → Nat → Nat → Int64} (hΨ : Ψ (some (aI (bI r))) (L0, g, w, q0)) : ∀ (n : Nat) {v4 : Int32} {v5 : Bool} {v6 : Int32} {x2 : Option AV} {x3 : Option AV}, s_X7_goesOn_R41 i0 p1 p2 p3 n v4 v5 v6 g w = some r → Ev (EvM mth (d + 2)) mth c00 sc0 (retP (some .boolean) c00 Ψ) (lkp es_176) 41 [some (aR 7 i0), some (aI p1), x2, x3, some (aI v4), some (aI (bI v5)), some (aI v6)] [] (L0, g, w, q0) := by
  intro n
  induction n with
  | zero => intros; rename_i h; exact absurd h (by intro h9; cases h9)
  | succ n ih => intros; rename_i h; exact e_X7_goesOn_41 (hr41 := ih) hΨ h
def s_X7_goesOn_36 (i0 : Nat) (p1 : Int32) (p2 : Int32) (p3 : Int32) (t0 : Bool) (v4 : Int32) (g : Nat → Nat → Nat → Int32) (w : Nat → Nat → Nat → Int64) : Option (Bool) :=
  s_X7_goesOn_R41 i0 p1 p2 p3 FU v4 t0 p3 g w
set_option maxRecDepth 20000 in
set_option maxHeartbeats 2000000 in
theorem e_X7_goesOn_36 {d : Nat} {Ψ : Option AV → DS → Prop} {i0 : Nat} {p1 : Int32} {p2 : Int32} {p3 : Int32} {r : Bool} {g : Nat → Nat → Nat → Int32} {w : Nat → Nat → Nat → Int64} {t0 : Bool} {v4 : Int32} {x2 : Option AV} {x5 : Option AV} {x6 : Option AV} (hΨ : Ψ (some (aI (bI r))) (L0, g, w, q0)) (h : s_X7_goesOn_36 i0 p1 p2 p3 t0 v4 g w = some r) : Ev (EvM mth (d + 2)) mth c00 sc0 (retP (some .boolean) c00 Ψ) (lkp es_176) 36 [some (aR 7 i0), some (aI p1), x2, some (aI p3), some (aI v4), x5, x6] [aI (bI t0)] (L0, g, w, q0) := by
  unfold s_X7_goesOn_36 at h
  refine ev_istore (pc' := 38) rfl rfl (l' := [some (aR 7 i0), some (aI p1), x2, some (aI p3), some (aI v4), some (aI (bI t0)), x6]) rfl ?_
  refine ev_iload_n (pc' := 39) rfl rfl rfl ?_
  refine ev_istore (pc' := 41) rfl rfl (l' := [some (aR 7 i0), some (aI p1), x2, some (aI p3), some (aI v4), some (aI (bI t0)), some (aI p3)]) rfl ?_
  exact e_X7_goesOn_R41 hΨ FU h
def s_X7_goesOn_35 (i0 : Nat) (p1 : Int32) (p2 : Int32) (p3 : Int32) (v4 : Int32) (g : Nat → Nat → Nat → Int32) (w : Nat → Nat → Nat → Int64) : Option (Bool) :=
  s_X7_goesOn_36 i0 p1 p2 p3 false v4 g w
set_option maxRecDepth 20000 in
set_option maxHeartbeats 2000000 in
theorem e_X7_goesOn_35 {d : Nat} {Ψ : Option AV → DS → Prop} {i0 : Nat} {p1 : Int32} {p2 : Int32} {p3 : Int32} {r : Bool} {g : Nat → Nat → Nat → Int32} {w : Nat → Nat → Nat → Int64} {v4 : Int32} {x2 : Option AV} {x5 : Option AV} {x6 : Option AV} (hΨ : Ψ (some (aI (bI r))) (L0, g, w, q0)) (h : s_X7_goesOn_35 i0 p1 p2 p3 v4 g w = some r) : Ev (EvM mth (d + 2)) mth c00 sc0 (retP (some .boolean) c00 Ψ) (lkp es_176) 35 [some (aR 7 i0), some (aI p1), x2, some (aI p3), some (aI v4), x5, x6] [] (L0, g, w, q0) := by
  unfold s_X7_goesOn_35 at h
  refine ev_iconst (pc' := 36) rfl rfl (v := (0 : Int32)) (by decide) ?_
  exact e_X7_goesOn_36 hΨ h
def s_X7_goesOn (i0 : Nat) (p1 : Int32) (p2 : Int32) (p3 : Int32) (g : Nat → Nat → Nat → Int32) (w : Nat → Nat → Nat → Int64) : Option (Bool) :=
  (s_X7_ofShip i0 p1 (8 : Int32) g w).bind fun q1 =>
  (s_X7_ofShip i0 p1 (7 : Int32) g w).bind fun q2 =>
  if p3 ≤ q2 then
    s_X7_goesOn_35 i0 p1 p2 p3 (q1 &&& (((1 : Int32) <<< (p2 &&& 31)) ^^^ (-1 : Int32))) g w
  else
    if (q1 &&& (((1 : Int32) <<< (p2 &&& 31)) ^^^ (-1 : Int32))) = 0 then
      s_X7_goesOn_35 i0 p1 p2 p3 (q1 &&& (((1 : Int32) <<< (p2 &&& 31)) ^^^ (-1 : Int32))) g w
    else
      s_X7_goesOn_36 i0 p1 p2 p3 true (q1 &&& (((1 : Int32) <<< (p2 &&& 31)) ^^^ (-1 : Int32))) g w
set_option maxRecDepth 20000 in
set_option maxHeartbeats 2000000 in
theorem d_X7_goesOn {d : Nat} {i0 : Nat} {p1 : Int32} {p2 : Int32} {p3 : Int32} {g : Nat → Nat → Nat → Int32} {w : Nat → Nat → Nat → Int64} {r : Bool} (h : s_X7_goesOn i0 p1 p2 p3 g w = some r) : Does (EvM mth (d + 3)) 176 [aR 7 i0, aI p1, aI p2, aI p3] (L0, g, w, q0) (some (aI (bI r))) (L0, g, w, q0) := by
  intro Ψ hΨ
  refine ⟨in_176, mth_176, Nat.le_of_ble_eq_true rfl, ?_⟩
  show Ev (EvM mth (d + 2)) mth c00 sc0 (retP (some .boolean) c00 Ψ) (lkp es_176) 0 [some (aR 7 i0), some (aI p1), some (aI p2), some (aI p3), none, none, none] [] (L0, g, w, q0)
  unfold s_X7_goesOn at h
  refine ev_aload_n (pc' := 1) rfl rfl rfl ?_
  refine ev_iload_n (pc' := 2) rfl rfl rfl ?_
  refine ev_bipush (pc' := 4) rfl rfl (v := (8 : Int32)) (by decide) ?_
  obtain ⟨q1, hq1, h⟩ := Option.bind_eq_some_iff.mp h
  refine ev_V3I (pc' := 7) rfl (by decide) rfl mth_118 ⟨Nat.le_of_ble_eq_true rfl, rfl⟩ ⟨Nat.le_refl _, Nat.le_refl _⟩ (d_X7_ofShip hq1) ?_
  refine ev_iconst (pc' := 8) rfl rfl (v := (1 : Int32)) (by decide) ?_
  refine ev_iload_n (pc' := 9) rfl rfl rfl ?_
  refine ev_ishl (pc' := 10) rfl rfl ?_
  refine ev_iconst (pc' := 11) rfl rfl (v := (-1 : Int32)) (by decide) ?_
  refine ev_ixor (pc' := 12) rfl rfl ?_
  refine ev_iand (pc' := 13) rfl rfl ?_
  refine ev_istore (pc' := 15) rfl rfl (l' := [some (aR 7 i0), some (aI p1), some (aI p2), some (aI p3), some (aI (q1 &&& (((1 : Int32) <<< (p2 &&& 31)) ^^^ (-1 : Int32)))), none, none]) rfl ?_
  refine ev_aload_n (pc' := 16) rfl rfl rfl ?_
  refine ev_iload_n (pc' := 17) rfl rfl rfl ?_
  refine ev_bipush (pc' := 19) rfl rfl (v := (7 : Int32)) (by decide) ?_
  obtain ⟨q2, hq2, h⟩ := Option.bind_eq_some_iff.mp h
  refine ev_V3I (pc' := 22) rfl (by decide) rfl mth_118 ⟨Nat.le_of_ble_eq_true rfl, rfl⟩ ⟨Nat.le_refl _, Nat.le_refl _⟩ (d_X7_ofShip hq2) ?_
  refine ev_iload_n (pc' := 23) rfl rfl rfl ?_
  refine ev_icmp_ge rfl (pc' := 26) rfl (fun hc => ?_) (fun hc => ?_)
  · have h := (if_pos hc).symm.trans h
    exact e_X7_goesOn_35 hΨ h
  · have h := (if_neg hc).symm.trans h
    refine ev_iload (pc' := 28) rfl rfl rfl ?_
    refine ev_if_eq rfl (pc' := 31) rfl (fun hc => ?_) (fun hc => ?_)
    · have h := (if_pos hc).symm.trans h
      exact e_X7_goesOn_35 hΨ h
    · have h := (if_neg hc).symm.trans h
      refine ev_iconst (pc' := 32) rfl rfl (v := (1 : Int32)) (by decide) ?_
      refine ev_goto (pc' := 36) rfl ?_
      exact e_X7_goesOn_36 hΨ h
def s_X7_mend_27 (i0 : Nat) (p1 : Int32) (t0 : Bool) (g : Nat → Nat → Nat → Int32) (w : Nat → Nat → Nat → Int64) : Option (Int32 × GS) :=
  if inR (((70 : Int32) + ((10 : Int32) * p1)) + (7 : Int32)) 218 = true then
    some (((bI t0), g, (wL w 2218 0 (((70 : Int32) + ((10 : Int32) * p1)) + (7 : Int32)).toNatClampNeg (48 : Int64))))
  else none
set_option maxRecDepth 20000 in
set_option maxHeartbeats 2000000 in
theorem e_X7_mend_27 {d : Nat} {Ψ : Option AV → DS → Prop} {i0 : Nat} {p1 : Int32} {r : Int32 × GS} {g : Nat → Nat → Nat → Int32} {w : Nat → Nat → Nat → Int64} {t0 : Bool} {x2 : Option AV} (hΨ : Ψ (some (aI r.1)) (L0, r.2.1, r.2.2, q0)) (h : s_X7_mend_27 i0 p1 t0 g w = some r) : Ev (EvM mth (d + 2)) mth c00 sc0 (retP (some .int) c00 Ψ) (lkp es_178) 27 [some (aR 7 i0), some (aI p1), x2] [aI (bI t0)] (L0, g, w, q0) := by
  unfold s_X7_mend_27 at h
  refine ev_istore_n (pc' := 28) rfl rfl (l' := [some (aR 7 i0), some (aI p1), some (aI (bI t0))]) rfl ?_
  refine ev_aload_n (pc' := 29) rfl rfl rfl ?_
  refine ev_getQ (pc' := 32) rfl rfl rfl ?_
  refine ev_bipush (pc' := 34) rfl rfl (v := (70 : Int32)) (by decide) ?_
  refine ev_bipush (pc' := 36) rfl rfl (v := (10 : Int32)) (by decide) ?_
  refine ev_iload_n (pc' := 37) rfl rfl rfl ?_
  refine ev_imul (pc' := 38) rfl rfl ?_
  refine ev_iadd (pc' := 39) rfl rfl ?_
  refine ev_bipush (pc' := 41) rfl rfl (v := (7 : Int32)) (by decide) ?_
  refine ev_iadd (pc' := 42) rfl rfl ?_
  refine ev_ldc2_w (pc' := 45) rfl rfl (v := (48 : Int64)) (by decide) ?_
  obtain ⟨hi, h⟩ := gdB h
  refine ev_last (pc' := 46) rfl rfl rfl (inR_vp hi) ?_
  refine ev_iload_n (pc' := 47) rfl rfl rfl ?_
  obtain rfl := Option.some.inj h
  exact ev_ireturn rfl ⟨⟨_, rfl, rfl⟩, rfl, rfl, hΨ⟩
def s_X7_mend (i0 : Nat) (p1 : Int32) (g : Nat → Nat → Nat → Int32) (w : Nat → Nat → Nat → Int64) : Option (Int32 × GS) :=
  if (s_X7_isTug i0 p1 g w) = true then
    (s_X7_ofTug i0 p1 (7 : Int32) g w).bind fun q1 =>
    if q1 ≠ (48 : Int32) then
      s_X7_mend_27 i0 p1 true g w
    else
      s_X7_mend_27 i0 p1 false g w
  else
    some (((-1 : Int32), g, w))
set_option maxRecDepth 20000 in
set_option maxHeartbeats 2000000 in
theorem d_X7_mend {d : Nat} {i0 : Nat} {p1 : Int32} {g : Nat → Nat → Nat → Int32} {w : Nat → Nat → Nat → Int64} {r : Int32 × GS} (h : s_X7_mend i0 p1 g w = some r) : Does (EvM mth (d + 3)) 178 [aR 7 i0, aI p1] (L0, g, w, q0) (some (aI r.1)) (L0, r.2.1, r.2.2, q0) := by
  intro Ψ hΨ
  refine ⟨in_178, mth_178, Nat.le_of_ble_eq_true rfl, ?_⟩
  show Ev (EvM mth (d + 2)) mth c00 sc0 (retP (some .int) c00 Ψ) (lkp es_178) 0 [some (aR 7 i0), some (aI p1), none] [] (L0, g, w, q0)
  unfold s_X7_mend at h
  refine ev_aload_n (pc' := 1) rfl rfl rfl ?_
  refine ev_iload_n (pc' := 2) rfl rfl rfl ?_
  refine ev_V2I (pc' := 5) rfl (by decide) rfl mth_119 ⟨Nat.le_of_ble_eq_true rfl, rfl⟩ ⟨Nat.le_refl _, Nat.le_refl _⟩ d_X7_isTug ?_
  refine ev_ifB_ne rfl (pc' := 8) rfl (fun hc => ?_) (fun hc => ?_)
  · have h := (if_pos hc).symm.trans h
    refine ev_aload_n (pc' := 11) rfl rfl rfl ?_
    refine ev_iload_n (pc' := 12) rfl rfl rfl ?_
    refine ev_bipush (pc' := 14) rfl rfl (v := (7 : Int32)) (by decide) ?_
    obtain ⟨q1, hq1, h⟩ := Option.bind_eq_some_iff.mp h
    refine ev_V3I (pc' := 17) rfl (by decide) rfl mth_117 ⟨Nat.le_of_ble_eq_true rfl, rfl⟩ ⟨Nat.le_refl _, Nat.le_refl _⟩ (d_X7_ofTug hq1) ?_
    refine ev_bipush (pc' := 19) rfl rfl (v := (48 : Int32)) (by decide) ?_
    refine ev_icmp_ne rfl (pc' := 22) rfl (fun hc => ?_) (fun hc => ?_)
    · have h := (if_pos hc).symm.trans h
      refine ev_iconst (pc' := 27) rfl rfl (v := (1 : Int32)) (by decide) ?_
      exact e_X7_mend_27 hΨ h
    · have h := (if_neg hc).symm.trans h
      refine ev_iconst (pc' := 23) rfl rfl (v := (0 : Int32)) (by decide) ?_
      refine ev_goto (pc' := 27) rfl ?_
      exact e_X7_mend_27 hΨ h
  · have h := (if_neg hc).symm.trans h
    refine ev_iconst (pc' := 9) rfl rfl (v := (-1 : Int32)) (by decide) ?_
    obtain rfl := Option.some.inj h
    exact ev_ireturn rfl ⟨⟨_, rfl, rfl⟩, rfl, rfl, hΨ⟩
def s_X7_calm (i0 : Nat) (g : Nat → Nat → Nat → Int32) (w : Nat → Nat → Nat → Int64) : Option (Int32 × GS) :=
  (s_X7_hoursIn i0 (w 2218 0 (63 : Int32).toNatClampNeg) g w).bind fun q1 =>
  some ((q1, g, (wL w 2218 0 (63 : Int32).toNatClampNeg (0 : Int64))))
set_option maxRecDepth 20000 in
set_option maxHeartbeats 2000000 in
theorem d_X7_calm {d : Nat} {i0 : Nat} {g : Nat → Nat → Nat → Int32} {w : Nat → Nat → Nat → Int64} {r : Int32 × GS} (h : s_X7_calm i0 g w = some r) : Does (EvM mth (d + 3)) 181 [aR 7 i0] (L0, g, w, q0) (some (aI r.1)) (L0, r.2.1, r.2.2, q0) := by
  intro Ψ hΨ
  refine ⟨in_181, mth_181, Nat.le_of_ble_eq_true rfl, ?_⟩
  show Ev (EvM mth (d + 2)) mth c00 sc0 (retP (some .int) c00 Ψ) (lkp es_181) 0 [some (aR 7 i0), none] [] (L0, g, w, q0)
  unfold s_X7_calm at h
  refine ev_aload_n (pc' := 1) rfl rfl rfl ?_
  refine ev_aload_n (pc' := 2) rfl rfl rfl ?_
  refine ev_getQ (pc' := 5) rfl rfl rfl ?_
  refine ev_bipush (pc' := 7) rfl rfl (v := (63 : Int32)) (by decide) ?_
  refine ev_lald (pc' := 8) rfl rfl rfl (inR_vp (by decide)) ?_
  obtain ⟨q1, hq1, h⟩ := Option.bind_eq_some_iff.mp h
  refine ev_V2I (pc' := 11) rfl (by decide) rfl mth_180 ⟨Nat.le_of_ble_eq_true rfl, rfl⟩ ⟨Nat.le_refl _, Nat.le_refl _⟩ (d_X7_hoursIn hq1) ?_
  refine ev_istore_n (pc' := 12) rfl rfl (l' := [some (aR 7 i0), some (aI q1)]) rfl ?_
  refine ev_aload_n (pc' := 13) rfl rfl rfl ?_
  refine ev_getQ (pc' := 16) rfl rfl rfl ?_
  refine ev_bipush (pc' := 18) rfl rfl (v := (63 : Int32)) (by decide) ?_
  refine ev_lconst (pc' := 19) rfl rfl (v := (0 : Int64)) (by decide) ?_
  refine ev_last (pc' := 20) rfl rfl rfl (inR_vp (by decide)) ?_
  refine ev_iload_n (pc' := 21) rfl rfl rfl ?_
  obtain rfl := Option.some.inj h
  exact ev_ireturn rfl ⟨⟨_, rfl, rfl⟩, rfl, rfl, hΨ⟩
