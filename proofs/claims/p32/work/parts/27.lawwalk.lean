def lawret (v : Option AV) (S' : DS) : Prop := v = some (aI 1) ∧ S'.1.length ≤ 600000 ∧ slz S'.1 ≤ 7302250
theorem capL : L0.length + 0 ≤ 600000 ∧ slz L0 + 0 ≤ 7302250 := by decide +kernel
def s_L_law_1233 (L : Nat) (xs : Nat → Int32) (rec18 : Int32 → (Nat → Nat → Nat → Int32) → (Nat → Nat → Nat → Int64) → Option (Bool × GS)) (v3 : Int32) (g : Nat → Nat → Nat → Int32) (w : Nat → Nat → Nat → Int64) : Option (Bool × GS) :=
  rec18 (v3 + 8) g w
set_option maxRecDepth 20000 in
set_option maxHeartbeats 2000000 in
theorem e_L_law_1233 {L : Nat} {xs : Nat → Int32} {rec18 : Int32 → (Nat → Nat → Nat → Int32) → (Nat → Nat → Nat → Int64) → Option (Bool × GS)} {r : Bool × GS} {g : Nat → Nat → Nat → Int32} {w : Nat → Nat → Nat → Int64} {v3 : Int32} (hr18 : ∀ {v3 : Int32} {g : Nat → Nat → Nat → Int32} {w : Nat → Nat → Nat → Int64} , rec18 v3 g w = some r → Ev (EvM mth 12) mth (600000, 7302250) (L, xs) lawret (lkp inL.2.2.2.2.2.2.2.2) 18 [some (aR 900 0), some (aR 6 0), some (aR 7 0), some (aI v3)] [] (L0, g, w, q0)) (hΨ : r.1 = true) (h : s_L_law_1233 L xs rec18 v3 g w = some r) : Ev (EvM mth 12) mth (600000, 7302250) (L, xs) lawret (lkp inL.2.2.2.2.2.2.2.2) 1233 [some (aR 900 0), some (aR 6 0), some (aR 7 0), some (aI v3)] [] (L0, g, w, q0) := by
  unfold s_L_law_1233 at h
  refine ev_iinc (pc' := 1236) rfl rfl (l' := [some (aR 900 0), some (aR 6 0), some (aR 7 0), some (aI (v3 + 8))]) rfl (ii_8 _) rfl ?_
  refine ev_goto (pc' := 18) rfl ?_
  exact hr18 h
def s_L_law_18 (L : Nat) (xs : Nat → Int32) (rec18 : Int32 → (Nat → Nat → Nat → Int32) → (Nat → Nat → Nat → Int64) → Option (Bool × GS)) (v3 : Int32) (g : Nat → Nat → Nat → Int32) (w : Nat → Nat → Nat → Int64) : Option (Bool × GS) :=
  if ((Int32.ofNat L) - (8 : Int32)) < v3 then
    some ((true, g, w))
  else
    if inR v3 L = true then
      if ((xs v3.toNatClampNeg) &&& (31 : Int32)) = (0 : Int32) then
        if inR (v3 + (1 : Int32)) L = true then
          if inR (v3 + (2 : Int32)) L = true then
            (s_X6_tide 0 (xs (v3 + (1 : Int32)).toNatClampNeg) (xs (v3 + (2 : Int32)).toNatClampNeg) g w).bind fun q1 =>
            if inR (v3 + (1 : Int32)) L = true then
              if inR (v3 + (2 : Int32)) L = true then
                (s_X7_tide 0 (xs (v3 + (1 : Int32)).toNatClampNeg) (xs (v3 + (2 : Int32)).toNatClampNeg) q1.2.1 q1.2.2).bind fun q2 =>
                s_L_law_1233 L xs rec18 v3 q2.2.1 q2.2.2
              else none
            else none
          else none
        else none
      else
      if ((xs v3.toNatClampNeg) &&& (31 : Int32)) = (1 : Int32) then
        if inR (v3 + (1 : Int32)) L = true then
          if inR (v3 + (2 : Int32)) L = true then
            (s_X6_wind 0 (xs (v3 + (1 : Int32)).toNatClampNeg) (xs (v3 + (2 : Int32)).toNatClampNeg) g w).bind fun q3 =>
            if inR (v3 + (1 : Int32)) L = true then
              if inR (v3 + (2 : Int32)) L = true then
                (s_X7_wind 0 (xs (v3 + (1 : Int32)).toNatClampNeg) (xs (v3 + (2 : Int32)).toNatClampNeg) q3.2.1 q3.2.2).bind fun q4 =>
                s_L_law_1233 L xs rec18 v3 q4.2.1 q4.2.2
              else none
            else none
          else none
        else none
      else
      if ((xs v3.toNatClampNeg) &&& (31 : Int32)) = (2 : Int32) then
        if inR (v3 + (1 : Int32)) L = true then
          if inR (v3 + (2 : Int32)) L = true then
            if inR (v3 + (1 : Int32)) L = true then
              if inR (v3 + (2 : Int32)) L = true then
                (s_X7_rule 0 (xs (v3 + (1 : Int32)).toNatClampNeg) (xs (v3 + (2 : Int32)).toNatClampNeg) (s_X6_rule 0 (xs (v3 + (1 : Int32)).toNatClampNeg) (xs (v3 + (2 : Int32)).toNatClampNeg) g w).2.1 (s_X6_rule 0 (xs (v3 + (1 : Int32)).toNatClampNeg) (xs (v3 + (2 : Int32)).toNatClampNeg) g w).2.2).bind fun q5 =>
                s_L_law_1233 L xs rec18 v3 q5.2.1 q5.2.2
              else none
            else none
          else none
        else none
      else
      if ((xs v3.toNatClampNeg) &&& (31 : Int32)) = (3 : Int32) then
        if inR (v3 + (1 : Int32)) L = true then
          if inR (v3 + (2 : Int32)) L = true then
            if inR (v3 + (3 : Int32)) L = true then
              (s_X6_berth 0 (xs (v3 + (1 : Int32)).toNatClampNeg) (xs (v3 + (2 : Int32)).toNatClampNeg) (xs (v3 + (3 : Int32)).toNatClampNeg) g w).bind fun q6 =>
              if inR (v3 + (1 : Int32)) L = true then
                if inR (v3 + (2 : Int32)) L = true then
                  if inR (v3 + (3 : Int32)) L = true then
                    (s_X7_berth 0 (xs (v3 + (1 : Int32)).toNatClampNeg) (xs (v3 + (2 : Int32)).toNatClampNeg) (xs (v3 + (3 : Int32)).toNatClampNeg) q6.2.1 q6.2.2).bind fun q7 =>
                    s_L_law_1233 L xs rec18 v3 q7.2.1 q7.2.2
                  else none
                else none
              else none
            else none
          else none
        else none
      else
      if ((xs v3.toNatClampNeg) &&& (31 : Int32)) = (4 : Int32) then
        if inR (v3 + (1 : Int32)) L = true then
          if inR (v3 + (2 : Int32)) L = true then
            (s_X6_way 0 (xs (v3 + (1 : Int32)).toNatClampNeg) (xs (v3 + (2 : Int32)).toNatClampNeg) g w).bind fun q8 =>
            if inR (v3 + (1 : Int32)) L = true then
              if inR (v3 + (2 : Int32)) L = true then
                (s_X7_way 0 (xs (v3 + (1 : Int32)).toNatClampNeg) (xs (v3 + (2 : Int32)).toNatClampNeg) g w).bind fun q9 =>
                s_L_law_1233 L xs rec18 v3 g w
              else none
            else none
          else none
        else none
      else
      if ((xs v3.toNatClampNeg) &&& (31 : Int32)) = (5 : Int32) then
        if inR (v3 + (1 : Int32)) L = true then
          if inR (v3 + (2 : Int32)) L = true then
            if inR (v3 + (3 : Int32)) L = true then
              if inR (v3 + (4 : Int32)) L = true then
                if inR (v3 + (5 : Int32)) L = true then
                  if inR (v3 + (6 : Int32)) L = true then
                    if inR (v3 + (7 : Int32)) L = true then
                      (s_X6_tug 0 (xs (v3 + (1 : Int32)).toNatClampNeg) (xs (v3 + (2 : Int32)).toNatClampNeg) (xs (v3 + (3 : Int32)).toNatClampNeg) (xs (v3 + (4 : Int32)).toNatClampNeg) (xs (v3 + (5 : Int32)).toNatClampNeg) (xs (v3 + (6 : Int32)).toNatClampNeg) (xs (v3 + (7 : Int32)).toNatClampNeg) g w).bind fun q10 =>
                      if inR (v3 + (1 : Int32)) L = true then
                        if inR (v3 + (2 : Int32)) L = true then
                          if inR (v3 + (3 : Int32)) L = true then
                            if inR (v3 + (4 : Int32)) L = true then
                              if inR (v3 + (5 : Int32)) L = true then
                                if inR (v3 + (6 : Int32)) L = true then
                                  if inR (v3 + (7 : Int32)) L = true then
                                    (s_X7_tug 0 (xs (v3 + (1 : Int32)).toNatClampNeg) (xs (v3 + (2 : Int32)).toNatClampNeg) (xs (v3 + (3 : Int32)).toNatClampNeg) (xs (v3 + (4 : Int32)).toNatClampNeg) (xs (v3 + (5 : Int32)).toNatClampNeg) (xs (v3 + (6 : Int32)).toNatClampNeg) (xs (v3 + (7 : Int32)).toNatClampNeg) q10.2.1 q10.2.2).bind fun q11 =>
                                    s_L_law_1233 L xs rec18 v3 q11.2.1 q11.2.2
                                  else none
                                else none
                              else none
                            else none
                          else none
                        else none
                      else none
                    else none
                  else none
                else none
              else none
            else none
          else none
        else none
      else
      if ((xs v3.toNatClampNeg) &&& (31 : Int32)) = (6 : Int32) then
        if inR (v3 + (1 : Int32)) L = true then
          if inR (v3 + (2 : Int32)) L = true then
            if inR (v3 + (3 : Int32)) L = true then
              if inR (v3 + (4 : Int32)) L = true then
                if inR (v3 + (5 : Int32)) L = true then
                  if inR (v3 + (6 : Int32)) L = true then
                    if inR (v3 + (7 : Int32)) L = true then
                      (s_X6_ship 0 (xs (v3 + (1 : Int32)).toNatClampNeg) (xs (v3 + (2 : Int32)).toNatClampNeg) (xs (v3 + (3 : Int32)).toNatClampNeg) (xs (v3 + (4 : Int32)).toNatClampNeg) (xs (v3 + (5 : Int32)).toNatClampNeg) (xs (v3 + (6 : Int32)).toNatClampNeg) (xs (v3 + (7 : Int32)).toNatClampNeg) g w).bind fun q12 =>
                      if inR (v3 + (1 : Int32)) L = true then
                        if inR (v3 + (2 : Int32)) L = true then
                          if inR (v3 + (3 : Int32)) L = true then
                            if inR (v3 + (4 : Int32)) L = true then
                              if inR (v3 + (5 : Int32)) L = true then
                                if inR (v3 + (6 : Int32)) L = true then
                                  if inR (v3 + (7 : Int32)) L = true then
                                    (s_X7_ship 0 (xs (v3 + (1 : Int32)).toNatClampNeg) (xs (v3 + (2 : Int32)).toNatClampNeg) (xs (v3 + (3 : Int32)).toNatClampNeg) (xs (v3 + (4 : Int32)).toNatClampNeg) (xs (v3 + (5 : Int32)).toNatClampNeg) (xs (v3 + (6 : Int32)).toNatClampNeg) (xs (v3 + (7 : Int32)).toNatClampNeg) q12.2.1 q12.2.2).bind fun q13 =>
                                    s_L_law_1233 L xs rec18 v3 q13.2.1 q13.2.2
                                  else none
                                else none
                              else none
                            else none
                          else none
                        else none
                      else none
                    else none
                  else none
                else none
              else none
            else none
          else none
        else none
      else
      if ((xs v3.toNatClampNeg) &&& (31 : Int32)) = (7 : Int32) then
        if inR (v3 + (1 : Int32)) L = true then
          if inR (v3 + (2 : Int32)) L = true then
            (s_X6_needs 0 (xs (v3 + (1 : Int32)).toNatClampNeg) (xs (v3 + (2 : Int32)).toNatClampNeg) g w).bind fun q14 =>
            if inR (v3 + (1 : Int32)) L = true then
              if inR (v3 + (2 : Int32)) L = true then
                (s_X7_needs 0 (xs (v3 + (1 : Int32)).toNatClampNeg) (xs (v3 + (2 : Int32)).toNatClampNeg) g w).bind fun q15 =>
                s_L_law_1233 L xs rec18 v3 g w
              else none
            else none
          else none
        else none
      else
      if ((xs v3.toNatClampNeg) &&& (31 : Int32)) = (8 : Int32) then
        if inR (v3 + (1 : Int32)) L = true then
          if inR (v3 + (2 : Int32)) L = true then
            (s_X6_bunker 0 (xs (v3 + (1 : Int32)).toNatClampNeg) (xs (v3 + (2 : Int32)).toNatClampNeg) g w).bind fun q16 =>
            if inR (v3 + (1 : Int32)) L = true then
              if inR (v3 + (2 : Int32)) L = true then
                (s_X7_bunker 0 (xs (v3 + (1 : Int32)).toNatClampNeg) (xs (v3 + (2 : Int32)).toNatClampNeg) q16.2.1 q16.2.2).bind fun q17 =>
                s_L_law_1233 L xs rec18 v3 q17.2.1 q17.2.2
              else none
            else none
          else none
        else none
      else
      if ((xs v3.toNatClampNeg) &&& (31 : Int32)) = (9 : Int32) then
        if inR (v3 + (1 : Int32)) L = true then
          if inR (v3 + (2 : Int32)) L = true then
            (s_X6_fuel 0 (xs (v3 + (1 : Int32)).toNatClampNeg) (xs (v3 + (2 : Int32)).toNatClampNeg) g w).bind fun q18 =>
            if inR (v3 + (1 : Int32)) L = true then
              if inR (v3 + (2 : Int32)) L = true then
                (s_X7_fuel 0 (xs (v3 + (1 : Int32)).toNatClampNeg) (xs (v3 + (2 : Int32)).toNatClampNeg) g w).bind fun q19 =>
                s_L_law_1233 L xs rec18 v3 g w
              else none
            else none
          else none
        else none
      else
      if ((xs v3.toNatClampNeg) &&& (31 : Int32)) = (10 : Int32) then
        if inR (v3 + (1 : Int32)) L = true then
          if inR (v3 + (2 : Int32)) L = true then
            if inR (v3 + (3 : Int32)) L = true then
              (s_X6_may 0 (xs (v3 + (1 : Int32)).toNatClampNeg) (xs (v3 + (2 : Int32)).toNatClampNeg) (xs (v3 + (3 : Int32)).toNatClampNeg) g w).bind fun q20 =>
              if inR (v3 + (1 : Int32)) L = true then
                if inR (v3 + (2 : Int32)) L = true then
                  if inR (v3 + (3 : Int32)) L = true then
                    (s_X7_may 0 (xs (v3 + (1 : Int32)).toNatClampNeg) (xs (v3 + (2 : Int32)).toNatClampNeg) (xs (v3 + (3 : Int32)).toNatClampNeg) g w).bind fun q21 =>
                    s_L_law_1233 L xs rec18 v3 g w
                  else none
                else none
              else none
            else none
          else none
        else none
      else
      if ((xs v3.toNatClampNeg) &&& (31 : Int32)) = (11 : Int32) then
        if inR (v3 + (1 : Int32)) L = true then
          if inR (v3 + (2 : Int32)) L = true then
            if inR (v3 + (3 : Int32)) L = true then
              (s_X6_lay 0 (xs (v3 + (1 : Int32)).toNatClampNeg) (xs (v3 + (2 : Int32)).toNatClampNeg) (xs (v3 + (3 : Int32)).toNatClampNeg) g w).bind fun q22 =>
              if inR (v3 + (1 : Int32)) L = true then
                if inR (v3 + (2 : Int32)) L = true then
                  if inR (v3 + (3 : Int32)) L = true then
                    (s_X7_lay 0 (xs (v3 + (1 : Int32)).toNatClampNeg) (xs (v3 + (2 : Int32)).toNatClampNeg) (xs (v3 + (3 : Int32)).toNatClampNeg) q22.2.1 q22.2.2).bind fun q23 =>
                    s_L_law_1233 L xs rec18 v3 q23.2.1 q23.2.2
                  else none
                else none
              else none
            else none
          else none
        else none
      else
      if ((xs v3.toNatClampNeg) &&& (31 : Int32)) = (12 : Int32) then
        if inR (v3 + (1 : Int32)) L = true then
          (s_X6_off 0 (xs (v3 + (1 : Int32)).toNatClampNeg) g w).bind fun q24 =>
          if inR (v3 + (1 : Int32)) L = true then
            (s_X7_off 0 (xs (v3 + (1 : Int32)).toNatClampNeg) q24.2.1 q24.2.2).bind fun q25 =>
            s_L_law_1233 L xs rec18 v3 q25.2.1 q25.2.2
          else none
        else none
      else
      if ((xs v3.toNatClampNeg) &&& (31 : Int32)) = (13 : Int32) then
        if inR (v3 + (1 : Int32)) L = true then
          if inR (v3 + (2 : Int32)) L = true then
            (s_X6_best 0 (xs (v3 + (1 : Int32)).toNatClampNeg) (xs (v3 + (2 : Int32)).toNatClampNeg) g w).bind fun q26 =>
            if inR (v3 + (1 : Int32)) L = true then
              if inR (v3 + (2 : Int32)) L = true then
                (s_X7_best 0 (xs (v3 + (1 : Int32)).toNatClampNeg) (xs (v3 + (2 : Int32)).toNatClampNeg) q26.2.1 q26.2.2).bind fun q27 =>
                s_L_law_1233 L xs rec18 v3 q27.2.1 q27.2.2
              else none
            else none
          else none
        else none
      else
      if ((xs v3.toNatClampNeg) &&& (31 : Int32)) = (14 : Int32) then
        if inR (v3 + (1 : Int32)) L = true then
          if inR (v3 + (2 : Int32)) L = true then
            (s_X6_job 0 (xs (v3 + (1 : Int32)).toNatClampNeg) (xs (v3 + (2 : Int32)).toNatClampNeg) g w).bind fun q28 =>
            if inR (v3 + (1 : Int32)) L = true then
              if inR (v3 + (2 : Int32)) L = true then
                (s_X7_job 0 (xs (v3 + (1 : Int32)).toNatClampNeg) (xs (v3 + (2 : Int32)).toNatClampNeg) g w).bind fun q29 =>
                s_L_law_1233 L xs rec18 v3 g w
              else none
            else none
          else none
        else none
      else
      if ((xs v3.toNatClampNeg) &&& (31 : Int32)) = (15 : Int32) then
        if inR (v3 + (1 : Int32)) L = true then
          if inR (v3 + (2 : Int32)) L = true then
            (s_X6_order 0 (xs (v3 + (1 : Int32)).toNatClampNeg) (xs (v3 + (2 : Int32)).toNatClampNeg) g w).bind fun q30 =>
            if inR (v3 + (1 : Int32)) L = true then
              if inR (v3 + (2 : Int32)) L = true then
                (s_X7_order 0 (xs (v3 + (1 : Int32)).toNatClampNeg) (xs (v3 + (2 : Int32)).toNatClampNeg) q30.2.1 q30.2.2).bind fun q31 =>
                s_L_law_1233 L xs rec18 v3 q31.2.1 q31.2.2
              else none
            else none
          else none
        else none
      else
      if ((xs v3.toNatClampNeg) &&& (31 : Int32)) = (16 : Int32) then
        if inR (v3 + (1 : Int32)) L = true then
          (s_X6_layOrder 0 (xs (v3 + (1 : Int32)).toNatClampNeg) g w).bind fun q32 =>
          if inR (v3 + (1 : Int32)) L = true then
            (s_X7_layOrder 0 (xs (v3 + (1 : Int32)).toNatClampNeg) q32.2.1 q32.2.2).bind fun q33 =>
            s_L_law_1233 L xs rec18 v3 q33.2.1 q33.2.2
          else none
        else none
      else
      if ((xs v3.toNatClampNeg) &&& (31 : Int32)) = (17 : Int32) then
        if inR (v3 + (1 : Int32)) L = true then
          if inR (v3 + (2 : Int32)) L = true then
            (s_X6_mended 0 (xs (v3 + (1 : Int32)).toNatClampNeg) (xs (v3 + (2 : Int32)).toNatClampNeg) g w).bind fun q34 =>
            if inR (v3 + (1 : Int32)) L = true then
              if inR (v3 + (2 : Int32)) L = true then
                (s_X7_mended 0 (xs (v3 + (1 : Int32)).toNatClampNeg) (xs (v3 + (2 : Int32)).toNatClampNeg) q34.2.1 q34.2.2).bind fun q35 =>
                s_L_law_1233 L xs rec18 v3 q35.2.1 q35.2.2
              else none
            else none
          else none
        else none
      else
      if ((xs v3.toNatClampNeg) &&& (31 : Int32)) = (18 : Int32) then
        if inR (v3 + (1 : Int32)) L = true then
          (s_X6_layMended 0 (xs (v3 + (1 : Int32)).toNatClampNeg) g w).bind fun q36 =>
          if inR (v3 + (1 : Int32)) L = true then
            (s_X7_layMended 0 (xs (v3 + (1 : Int32)).toNatClampNeg) q36.2.1 q36.2.2).bind fun q37 =>
            s_L_law_1233 L xs rec18 v3 q37.2.1 q37.2.2
          else none
        else none
      else
      if ((xs v3.toNatClampNeg) &&& (31 : Int32)) = (19 : Int32) then
        if inR (v3 + (1 : Int32)) L = true then
          if inR (v3 + (2 : Int32)) L = true then
            (s_X6_breaks 0 (xs (v3 + (1 : Int32)).toNatClampNeg) (xs (v3 + (2 : Int32)).toNatClampNeg) g w).bind fun q38 =>
            if inR (v3 + (1 : Int32)) L = true then
              if inR (v3 + (2 : Int32)) L = true then
                (s_X7_breaks 0 (xs (v3 + (1 : Int32)).toNatClampNeg) (xs (v3 + (2 : Int32)).toNatClampNeg) q38.2.1 q38.2.2).bind fun q39 =>
                s_L_law_1233 L xs rec18 v3 q39.2.1 q39.2.2
              else none
            else none
          else none
        else none
      else
      if ((xs v3.toNatClampNeg) &&& (31 : Int32)) = (20 : Int32) then
        if inR (v3 + (1 : Int32)) L = true then
          (s_X6_mend 0 (xs (v3 + (1 : Int32)).toNatClampNeg) g w).bind fun q40 =>
          if inR (v3 + (1 : Int32)) L = true then
            (s_X7_mend 0 (xs (v3 + (1 : Int32)).toNatClampNeg) q40.2.1 q40.2.2).bind fun q41 =>
            s_L_law_1233 L xs rec18 v3 q41.2.1 q41.2.2
          else none
        else none
      else
      if ((xs v3.toNatClampNeg) &&& (31 : Int32)) = (21 : Int32) then
        if inR (v3 + (1 : Int32)) L = true then
          if inR (v3 + (2 : Int32)) L = true then
            (s_X6_storm 0 (xs (v3 + (1 : Int32)).toNatClampNeg) (xs (v3 + (2 : Int32)).toNatClampNeg) g w).bind fun q42 =>
            if inR (v3 + (1 : Int32)) L = true then
              if inR (v3 + (2 : Int32)) L = true then
                (s_X7_storm 0 (xs (v3 + (1 : Int32)).toNatClampNeg) (xs (v3 + (2 : Int32)).toNatClampNeg) q42.2.1 q42.2.2).bind fun q43 =>
                s_L_law_1233 L xs rec18 v3 q43.2.1 q43.2.2
              else none
            else none
          else none
        else none
      else
      if ((xs v3.toNatClampNeg) &&& (31 : Int32)) = (22 : Int32) then
        (s_X7_calm 0 (s_X6_calm 0 g w).2.1 (s_X6_calm 0 g w).2.2).bind fun q44 =>
        s_L_law_1233 L xs rec18 v3 q44.2.1 q44.2.2
      else
      if ((xs v3.toNatClampNeg) &&& (31 : Int32)) = (23 : Int32) then
        if inR (v3 + (1 : Int32)) L = true then
          if inR (v3 + (2 : Int32)) L = true then
            if inR (v3 + (3 : Int32)) L = true then
              if inR (v3 + (4 : Int32)) L = true then
                (s_X6_priceRule 0 (xs (v3 + (1 : Int32)).toNatClampNeg) (xs (v3 + (2 : Int32)).toNatClampNeg) (xs (v3 + (3 : Int32)).toNatClampNeg) (xs (v3 + (4 : Int32)).toNatClampNeg) g w).bind fun q45 =>
                if inR (v3 + (1 : Int32)) L = true then
                  if inR (v3 + (2 : Int32)) L = true then
                    if inR (v3 + (3 : Int32)) L = true then
                      if inR (v3 + (4 : Int32)) L = true then
                        (s_X7_priceRule 0 (xs (v3 + (1 : Int32)).toNatClampNeg) (xs (v3 + (2 : Int32)).toNatClampNeg) (xs (v3 + (3 : Int32)).toNatClampNeg) (xs (v3 + (4 : Int32)).toNatClampNeg) q45.2.1 q45.2.2).bind fun q46 =>
                        s_L_law_1233 L xs rec18 v3 q46.2.1 q46.2.2
                      else none
                    else none
                  else none
                else none
              else none
            else none
          else none
        else none
      else
      if ((xs v3.toNatClampNeg) &&& (31 : Int32)) = (24 : Int32) then
        if inR (v3 + (1 : Int32)) L = true then
          (s_X6_price 0 (xs (v3 + (1 : Int32)).toNatClampNeg) g w).bind fun q47 =>
          if inR (v3 + (1 : Int32)) L = true then
            (s_X7_price 0 (xs (v3 + (1 : Int32)).toNatClampNeg) g w).bind fun q48 =>
            s_L_law_1233 L xs rec18 v3 g w
          else none
        else none
      else
      if ((xs v3.toNatClampNeg) &&& (31 : Int32)) = (25 : Int32) then
        if inR (v3 + (1 : Int32)) L = true then
          if inR (v3 + (2 : Int32)) L = true then
            (s_X6_pool 0 (xs (v3 + (1 : Int32)).toNatClampNeg) (xs (v3 + (2 : Int32)).toNatClampNeg) g w).bind fun q49 =>
            if inR (v3 + (1 : Int32)) L = true then
              if inR (v3 + (2 : Int32)) L = true then
                (s_X7_pool 0 (xs (v3 + (1 : Int32)).toNatClampNeg) (xs (v3 + (2 : Int32)).toNatClampNeg) g w).bind fun q50 =>
                s_L_law_1233 L xs rec18 v3 g w
              else none
            else none
          else none
        else none
      else
      if ((xs v3.toNatClampNeg) &&& (31 : Int32)) = (26 : Int32) then
        if inR (v3 + (1 : Int32)) L = true then
          if inR (v3 + (2 : Int32)) L = true then
            (s_X6_work 0 (xs (v3 + (1 : Int32)).toNatClampNeg) (xs (v3 + (2 : Int32)).toNatClampNeg) g w).bind fun q51 =>
            if inR (v3 + (1 : Int32)) L = true then
              if inR (v3 + (2 : Int32)) L = true then
                (s_X7_work 0 (xs (v3 + (1 : Int32)).toNatClampNeg) (xs (v3 + (2 : Int32)).toNatClampNeg) g w).bind fun q52 =>
                s_L_law_1233 L xs rec18 v3 g w
              else none
            else none
          else none
        else none
      else
      if ((xs v3.toNatClampNeg) &&& (31 : Int32)) = (27 : Int32) then
        if inR (v3 + (1 : Int32)) L = true then
          if inR (v3 + (2 : Int32)) L = true then
            (s_X6_about 0 (xs (v3 + (1 : Int32)).toNatClampNeg) (xs (v3 + (2 : Int32)).toNatClampNeg) g w).bind fun q53 =>
            if inR (v3 + (1 : Int32)) L = true then
              if inR (v3 + (2 : Int32)) L = true then
                (s_X7_about 0 (xs (v3 + (1 : Int32)).toNatClampNeg) (xs (v3 + (2 : Int32)).toNatClampNeg) g w).bind fun q54 =>
                s_L_law_1233 L xs rec18 v3 g w
              else none
            else none
          else none
        else none
      else
      if ((xs v3.toNatClampNeg) &&& (31 : Int32)) = (28 : Int32) then
        (s_X6_keep 0 g w).bind fun q55 =>
        (s_X7_keep 0 q55.2.1 q55.2.2).bind fun q56 =>
        s_L_law_1233 L xs rec18 v3 q56.2.1 q56.2.2
      else
      if ((xs v3.toNatClampNeg) &&& (31 : Int32)) = (29 : Int32) then
        (s_X6_back 0 g w).bind fun q57 =>
        (s_X7_back 0 q57.2.1 q57.2.2).bind fun q58 =>
        s_L_law_1233 L xs rec18 v3 q58.2.1 q58.2.2
      else
      if ((xs v3.toNatClampNeg) &&& (31 : Int32)) = (30 : Int32) then
        if inR (v3 + (1 : Int32)) L = true then
          (s_X6_count 0 (xs (v3 + (1 : Int32)).toNatClampNeg) g w).bind fun q59 =>
          if inR (v3 + (1 : Int32)) L = true then
            (s_X7_count 0 (xs (v3 + (1 : Int32)).toNatClampNeg) g w).bind fun q60 =>
            if q59 = q60 then
              s_L_law_1233 L xs rec18 v3 g w
            else
              some ((false, g, w))
          else none
        else none
      else
        s_L_law_1233 L xs rec18 v3 g w
    else none
set_option maxRecDepth 20000 in
set_option maxHeartbeats 2000000 in
theorem e_L_law_18 {L : Nat} {xs : Nat → Int32} {rec18 : Int32 → (Nat → Nat → Nat → Int32) → (Nat → Nat → Nat → Int64) → Option (Bool × GS)} {r : Bool × GS} {g : Nat → Nat → Nat → Int32} {w : Nat → Nat → Nat → Int64} {v3 : Int32} (hr18 : ∀ {v3 : Int32} {g : Nat → Nat → Nat → Int32} {w : Nat → Nat → Nat → Int64} , rec18 v3 g w = some r → Ev (EvM mth 12) mth (600000, 7302250) (L, xs) lawret (lkp inL.2.2.2.2.2.2.2.2) 18 [some (aR 900 0), some (aR 6 0), some (aR 7 0), some (aI v3)] [] (L0, g, w, q0)) (hΨ : r.1 = true) (h : s_L_law_18 L xs rec18 v3 g w = some r) : Ev (EvM mth 12) mth (600000, 7302250) (L, xs) lawret (lkp inL.2.2.2.2.2.2.2.2) 18 [some (aR 900 0), some (aR 6 0), some (aR 7 0), some (aI v3)] [] (L0, g, w, q0) := by
  unfold s_L_law_18 at h
  refine ev_iload_n (pc' := 19) rfl rfl rfl ?_
  refine ev_aload_n (pc' := 20) rfl rfl rfl ?_
  refine ev_slen (pc' := 21) rfl rfl ?_
  refine ev_bipush (pc' := 23) rfl rfl (v := (8 : Int32)) (by decide) ?_
  refine ev_isub (pc' := 24) rfl rfl ?_
  refine ev_icmp_gt rfl (pc' := 27) rfl (fun hc => ?_) (fun hc => ?_)
  · have h := (if_pos hc).symm.trans h
    refine ev_iconst (pc' := 1240) rfl rfl (v := (1 : Int32)) (by decide) ?_
    obtain rfl := Option.some.inj h
    exact ev_ireturn rfl ⟨rfl, capL.1, capL.2⟩
  · have h := (if_neg hc).symm.trans h
    refine ev_aload_n (pc' := 28) rfl rfl rfl ?_
    refine ev_iload_n (pc' := 29) rfl rfl rfl ?_
    obtain ⟨hi, h⟩ := gdB h
    refine ev_sald (pc' := 30) rfl rfl (inR_vp hi) ?_
    refine ev_bipush (pc' := 32) rfl rfl (v := (31 : Int32)) (by decide) ?_
    refine ev_iand (pc' := 33) rfl rfl ?_
    refine ev_tsw rfl (fun hd => ?_) (fun n u hn hv => ?_)
    · skip
      have h := (if_neg (show ¬ ((xs v3.toNatClampNeg) &&& (31 : Int32)) = (0 : Int32) from fun e9 => by rw [e9] at hd; revert hd; decide)).symm.trans h
      have h := (if_neg (show ¬ ((xs v3.toNatClampNeg) &&& (31 : Int32)) = (1 : Int32) from fun e9 => by rw [e9] at hd; revert hd; decide)).symm.trans h
      have h := (if_neg (show ¬ ((xs v3.toNatClampNeg) &&& (31 : Int32)) = (2 : Int32) from fun e9 => by rw [e9] at hd; revert hd; decide)).symm.trans h
      have h := (if_neg (show ¬ ((xs v3.toNatClampNeg) &&& (31 : Int32)) = (3 : Int32) from fun e9 => by rw [e9] at hd; revert hd; decide)).symm.trans h
      have h := (if_neg (show ¬ ((xs v3.toNatClampNeg) &&& (31 : Int32)) = (4 : Int32) from fun e9 => by rw [e9] at hd; revert hd; decide)).symm.trans h
      have h := (if_neg (show ¬ ((xs v3.toNatClampNeg) &&& (31 : Int32)) = (5 : Int32) from fun e9 => by rw [e9] at hd; revert hd; decide)).symm.trans h
      have h := (if_neg (show ¬ ((xs v3.toNatClampNeg) &&& (31 : Int32)) = (6 : Int32) from fun e9 => by rw [e9] at hd; revert hd; decide)).symm.trans h
      have h := (if_neg (show ¬ ((xs v3.toNatClampNeg) &&& (31 : Int32)) = (7 : Int32) from fun e9 => by rw [e9] at hd; revert hd; decide)).symm.trans h
      have h := (if_neg (show ¬ ((xs v3.toNatClampNeg) &&& (31 : Int32)) = (8 : Int32) from fun e9 => by rw [e9] at hd; revert hd; decide)).symm.trans h
      have h := (if_neg (show ¬ ((xs v3.toNatClampNeg) &&& (31 : Int32)) = (9 : Int32) from fun e9 => by rw [e9] at hd; revert hd; decide)).symm.trans h
      have h := (if_neg (show ¬ ((xs v3.toNatClampNeg) &&& (31 : Int32)) = (10 : Int32) from fun e9 => by rw [e9] at hd; revert hd; decide)).symm.trans h
      have h := (if_neg (show ¬ ((xs v3.toNatClampNeg) &&& (31 : Int32)) = (11 : Int32) from fun e9 => by rw [e9] at hd; revert hd; decide)).symm.trans h
      have h := (if_neg (show ¬ ((xs v3.toNatClampNeg) &&& (31 : Int32)) = (12 : Int32) from fun e9 => by rw [e9] at hd; revert hd; decide)).symm.trans h
      have h := (if_neg (show ¬ ((xs v3.toNatClampNeg) &&& (31 : Int32)) = (13 : Int32) from fun e9 => by rw [e9] at hd; revert hd; decide)).symm.trans h
      have h := (if_neg (show ¬ ((xs v3.toNatClampNeg) &&& (31 : Int32)) = (14 : Int32) from fun e9 => by rw [e9] at hd; revert hd; decide)).symm.trans h
      have h := (if_neg (show ¬ ((xs v3.toNatClampNeg) &&& (31 : Int32)) = (15 : Int32) from fun e9 => by rw [e9] at hd; revert hd; decide)).symm.trans h
      have h := (if_neg (show ¬ ((xs v3.toNatClampNeg) &&& (31 : Int32)) = (16 : Int32) from fun e9 => by rw [e9] at hd; revert hd; decide)).symm.trans h
      have h := (if_neg (show ¬ ((xs v3.toNatClampNeg) &&& (31 : Int32)) = (17 : Int32) from fun e9 => by rw [e9] at hd; revert hd; decide)).symm.trans h
      have h := (if_neg (show ¬ ((xs v3.toNatClampNeg) &&& (31 : Int32)) = (18 : Int32) from fun e9 => by rw [e9] at hd; revert hd; decide)).symm.trans h
      have h := (if_neg (show ¬ ((xs v3.toNatClampNeg) &&& (31 : Int32)) = (19 : Int32) from fun e9 => by rw [e9] at hd; revert hd; decide)).symm.trans h
      have h := (if_neg (show ¬ ((xs v3.toNatClampNeg) &&& (31 : Int32)) = (20 : Int32) from fun e9 => by rw [e9] at hd; revert hd; decide)).symm.trans h
      have h := (if_neg (show ¬ ((xs v3.toNatClampNeg) &&& (31 : Int32)) = (21 : Int32) from fun e9 => by rw [e9] at hd; revert hd; decide)).symm.trans h
      have h := (if_neg (show ¬ ((xs v3.toNatClampNeg) &&& (31 : Int32)) = (22 : Int32) from fun e9 => by rw [e9] at hd; revert hd; decide)).symm.trans h
      have h := (if_neg (show ¬ ((xs v3.toNatClampNeg) &&& (31 : Int32)) = (23 : Int32) from fun e9 => by rw [e9] at hd; revert hd; decide)).symm.trans h
      have h := (if_neg (show ¬ ((xs v3.toNatClampNeg) &&& (31 : Int32)) = (24 : Int32) from fun e9 => by rw [e9] at hd; revert hd; decide)).symm.trans h
      have h := (if_neg (show ¬ ((xs v3.toNatClampNeg) &&& (31 : Int32)) = (25 : Int32) from fun e9 => by rw [e9] at hd; revert hd; decide)).symm.trans h
      have h := (if_neg (show ¬ ((xs v3.toNatClampNeg) &&& (31 : Int32)) = (26 : Int32) from fun e9 => by rw [e9] at hd; revert hd; decide)).symm.trans h
      have h := (if_neg (show ¬ ((xs v3.toNatClampNeg) &&& (31 : Int32)) = (27 : Int32) from fun e9 => by rw [e9] at hd; revert hd; decide)).symm.trans h
      have h := (if_neg (show ¬ ((xs v3.toNatClampNeg) &&& (31 : Int32)) = (28 : Int32) from fun e9 => by rw [e9] at hd; revert hd; decide)).symm.trans h
      have h := (if_neg (show ¬ ((xs v3.toNatClampNeg) &&& (31 : Int32)) = (29 : Int32) from fun e9 => by rw [e9] at hd; revert hd; decide)).symm.trans h
      have h := (if_neg (show ¬ ((xs v3.toNatClampNeg) &&& (31 : Int32)) = (30 : Int32) from fun e9 => by rw [e9] at hd; revert hd; decide)).symm.trans h
      exact e_L_law_1233 (hr18 := hr18) hΨ h
    · match n, hn with
      | 0, hn =>
        obtain rfl := Option.some.inj hn
        have e9 : ((xs v3.toNatClampNeg) &&& (31 : Int32)) = (0 : Int32) := Int32.toInt_inj.mp (hv.trans (by decide))
        have h := (if_pos e9).symm.trans h
        refine ev_aload_n (pc' := 173) rfl rfl rfl ?_
        refine ev_aload_n (pc' := 174) rfl rfl rfl ?_
        refine ev_iload_n (pc' := 175) rfl rfl rfl ?_
        refine ev_iconst (pc' := 176) rfl rfl (v := (1 : Int32)) (by decide) ?_
        refine ev_iadd (pc' := 177) rfl rfl ?_
        obtain ⟨hi, h⟩ := gdB h
        refine ev_sald (pc' := 178) rfl rfl (inR_vp hi) ?_
        refine ev_aload_n (pc' := 179) rfl rfl rfl ?_
        refine ev_iload_n (pc' := 180) rfl rfl rfl ?_
        refine ev_iconst (pc' := 181) rfl rfl (v := (2 : Int32)) (by decide) ?_
        refine ev_iadd (pc' := 182) rfl rfl ?_
        obtain ⟨hi, h⟩ := gdB h
        refine ev_sald (pc' := 183) rfl rfl (inR_vp hi) ?_
        obtain ⟨q1, hq1, h⟩ := Option.bind_eq_some_iff.mp h
        refine ev_V3I (pc' := 186) rfl (by decide) rfl mth_74 ⟨Nat.le_of_ble_eq_true rfl, rfl⟩ capL (d_X6_tide hq1) ?_
        refine ev_pop (pc' := 187) rfl rfl rfl ?_
        refine ev_aload_n (pc' := 188) rfl rfl rfl ?_
        refine ev_aload_n (pc' := 189) rfl rfl rfl ?_
        refine ev_iload_n (pc' := 190) rfl rfl rfl ?_
        refine ev_iconst (pc' := 191) rfl rfl (v := (1 : Int32)) (by decide) ?_
        refine ev_iadd (pc' := 192) rfl rfl ?_
        obtain ⟨hi, h⟩ := gdB h
        refine ev_sald (pc' := 193) rfl rfl (inR_vp hi) ?_
        refine ev_aload_n (pc' := 194) rfl rfl rfl ?_
        refine ev_iload_n (pc' := 195) rfl rfl rfl ?_
        refine ev_iconst (pc' := 196) rfl rfl (v := (2 : Int32)) (by decide) ?_
        refine ev_iadd (pc' := 197) rfl rfl ?_
        obtain ⟨hi, h⟩ := gdB h
        refine ev_sald (pc' := 198) rfl rfl (inR_vp hi) ?_
        obtain ⟨q2, hq2, h⟩ := Option.bind_eq_some_iff.mp h
        refine ev_V3I (pc' := 201) rfl (by decide) rfl mth_122 ⟨Nat.le_of_ble_eq_true rfl, rfl⟩ capL (d_X7_tide hq2) ?_
        refine ev_pop (pc' := 202) rfl rfl rfl ?_
        refine ev_goto (pc' := 1233) rfl ?_
        exact e_L_law_1233 (hr18 := hr18) hΨ h
      | 1, hn =>
        obtain rfl := Option.some.inj hn
        have e9 : ((xs v3.toNatClampNeg) &&& (31 : Int32)) = (1 : Int32) := Int32.toInt_inj.mp (hv.trans (by decide))
        have h := (if_neg (show ¬ ((xs v3.toNatClampNeg) &&& (31 : Int32)) = (0 : Int32) from by rw [e9]; decide)).symm.trans h
        have h := (if_pos e9).symm.trans h
        refine ev_aload_n (pc' := 206) rfl rfl rfl ?_
        refine ev_aload_n (pc' := 207) rfl rfl rfl ?_
        refine ev_iload_n (pc' := 208) rfl rfl rfl ?_
        refine ev_iconst (pc' := 209) rfl rfl (v := (1 : Int32)) (by decide) ?_
        refine ev_iadd (pc' := 210) rfl rfl ?_
        obtain ⟨hi, h⟩ := gdB h
        refine ev_sald (pc' := 211) rfl rfl (inR_vp hi) ?_
        refine ev_aload_n (pc' := 212) rfl rfl rfl ?_
        refine ev_iload_n (pc' := 213) rfl rfl rfl ?_
        refine ev_iconst (pc' := 214) rfl rfl (v := (2 : Int32)) (by decide) ?_
        refine ev_iadd (pc' := 215) rfl rfl ?_
        obtain ⟨hi, h⟩ := gdB h
        refine ev_sald (pc' := 216) rfl rfl (inR_vp hi) ?_
        obtain ⟨q3, hq3, h⟩ := Option.bind_eq_some_iff.mp h
        refine ev_V3I (pc' := 219) rfl (by decide) rfl mth_75 ⟨Nat.le_of_ble_eq_true rfl, rfl⟩ capL (d_X6_wind hq3) ?_
        refine ev_pop (pc' := 220) rfl rfl rfl ?_
        refine ev_aload_n (pc' := 221) rfl rfl rfl ?_
        refine ev_aload_n (pc' := 222) rfl rfl rfl ?_
        refine ev_iload_n (pc' := 223) rfl rfl rfl ?_
        refine ev_iconst (pc' := 224) rfl rfl (v := (1 : Int32)) (by decide) ?_
        refine ev_iadd (pc' := 225) rfl rfl ?_
        obtain ⟨hi, h⟩ := gdB h
        refine ev_sald (pc' := 226) rfl rfl (inR_vp hi) ?_
        refine ev_aload_n (pc' := 227) rfl rfl rfl ?_
        refine ev_iload_n (pc' := 228) rfl rfl rfl ?_
        refine ev_iconst (pc' := 229) rfl rfl (v := (2 : Int32)) (by decide) ?_
        refine ev_iadd (pc' := 230) rfl rfl ?_
        obtain ⟨hi, h⟩ := gdB h
        refine ev_sald (pc' := 231) rfl rfl (inR_vp hi) ?_
        obtain ⟨q4, hq4, h⟩ := Option.bind_eq_some_iff.mp h
        refine ev_V3I (pc' := 234) rfl (by decide) rfl mth_123 ⟨Nat.le_of_ble_eq_true rfl, rfl⟩ capL (d_X7_wind hq4) ?_
        refine ev_pop (pc' := 235) rfl rfl rfl ?_
        refine ev_goto (pc' := 1233) rfl ?_
        exact e_L_law_1233 (hr18 := hr18) hΨ h
      | 2, hn =>
        obtain rfl := Option.some.inj hn
        have e9 : ((xs v3.toNatClampNeg) &&& (31 : Int32)) = (2 : Int32) := Int32.toInt_inj.mp (hv.trans (by decide))
        have h := (if_neg (show ¬ ((xs v3.toNatClampNeg) &&& (31 : Int32)) = (0 : Int32) from by rw [e9]; decide)).symm.trans h
        have h := (if_neg (show ¬ ((xs v3.toNatClampNeg) &&& (31 : Int32)) = (1 : Int32) from by rw [e9]; decide)).symm.trans h
        have h := (if_pos e9).symm.trans h
        refine ev_aload_n (pc' := 239) rfl rfl rfl ?_
        refine ev_aload_n (pc' := 240) rfl rfl rfl ?_
        refine ev_iload_n (pc' := 241) rfl rfl rfl ?_
        refine ev_iconst (pc' := 242) rfl rfl (v := (1 : Int32)) (by decide) ?_
        refine ev_iadd (pc' := 243) rfl rfl ?_
        obtain ⟨hi, h⟩ := gdB h
        refine ev_sald (pc' := 244) rfl rfl (inR_vp hi) ?_
        refine ev_aload_n (pc' := 245) rfl rfl rfl ?_
        refine ev_iload_n (pc' := 246) rfl rfl rfl ?_
        refine ev_iconst (pc' := 247) rfl rfl (v := (2 : Int32)) (by decide) ?_
        refine ev_iadd (pc' := 248) rfl rfl ?_
        obtain ⟨hi, h⟩ := gdB h
        refine ev_sald (pc' := 249) rfl rfl (inR_vp hi) ?_
        refine ev_V3I (pc' := 252) rfl (by decide) rfl mth_76 ⟨Nat.le_of_ble_eq_true rfl, rfl⟩ capL d_X6_rule ?_
        refine ev_pop (pc' := 253) rfl rfl rfl ?_
        refine ev_aload_n (pc' := 254) rfl rfl rfl ?_
        refine ev_aload_n (pc' := 255) rfl rfl rfl ?_
        refine ev_iload_n (pc' := 256) rfl rfl rfl ?_
        refine ev_iconst (pc' := 257) rfl rfl (v := (1 : Int32)) (by decide) ?_
        refine ev_iadd (pc' := 258) rfl rfl ?_
        obtain ⟨hi, h⟩ := gdB h
        refine ev_sald (pc' := 259) rfl rfl (inR_vp hi) ?_
        refine ev_aload_n (pc' := 260) rfl rfl rfl ?_
        refine ev_iload_n (pc' := 261) rfl rfl rfl ?_
        refine ev_iconst (pc' := 262) rfl rfl (v := (2 : Int32)) (by decide) ?_
        refine ev_iadd (pc' := 263) rfl rfl ?_
        obtain ⟨hi, h⟩ := gdB h
        refine ev_sald (pc' := 264) rfl rfl (inR_vp hi) ?_
        obtain ⟨q5, hq5, h⟩ := Option.bind_eq_some_iff.mp h
        refine ev_V3I (pc' := 267) rfl (by decide) rfl mth_124 ⟨Nat.le_of_ble_eq_true rfl, rfl⟩ capL (d_X7_rule hq5) ?_
        refine ev_pop (pc' := 268) rfl rfl rfl ?_
        refine ev_goto (pc' := 1233) rfl ?_
        exact e_L_law_1233 (hr18 := hr18) hΨ h
      | 3, hn =>
        obtain rfl := Option.some.inj hn
        have e9 : ((xs v3.toNatClampNeg) &&& (31 : Int32)) = (3 : Int32) := Int32.toInt_inj.mp (hv.trans (by decide))
        have h := (if_neg (show ¬ ((xs v3.toNatClampNeg) &&& (31 : Int32)) = (0 : Int32) from by rw [e9]; decide)).symm.trans h
        have h := (if_neg (show ¬ ((xs v3.toNatClampNeg) &&& (31 : Int32)) = (1 : Int32) from by rw [e9]; decide)).symm.trans h
        have h := (if_neg (show ¬ ((xs v3.toNatClampNeg) &&& (31 : Int32)) = (2 : Int32) from by rw [e9]; decide)).symm.trans h
        have h := (if_pos e9).symm.trans h
        refine ev_aload_n (pc' := 272) rfl rfl rfl ?_
        refine ev_aload_n (pc' := 273) rfl rfl rfl ?_
        refine ev_iload_n (pc' := 274) rfl rfl rfl ?_
        refine ev_iconst (pc' := 275) rfl rfl (v := (1 : Int32)) (by decide) ?_
        refine ev_iadd (pc' := 276) rfl rfl ?_
        obtain ⟨hi, h⟩ := gdB h
        refine ev_sald (pc' := 277) rfl rfl (inR_vp hi) ?_
        refine ev_aload_n (pc' := 278) rfl rfl rfl ?_
        refine ev_iload_n (pc' := 279) rfl rfl rfl ?_
        refine ev_iconst (pc' := 280) rfl rfl (v := (2 : Int32)) (by decide) ?_
        refine ev_iadd (pc' := 281) rfl rfl ?_
        obtain ⟨hi, h⟩ := gdB h
        refine ev_sald (pc' := 282) rfl rfl (inR_vp hi) ?_
        refine ev_aload_n (pc' := 283) rfl rfl rfl ?_
        refine ev_iload_n (pc' := 284) rfl rfl rfl ?_
        refine ev_iconst (pc' := 285) rfl rfl (v := (3 : Int32)) (by decide) ?_
        refine ev_iadd (pc' := 286) rfl rfl ?_
        obtain ⟨hi, h⟩ := gdB h
        refine ev_sald (pc' := 287) rfl rfl (inR_vp hi) ?_
        obtain ⟨q6, hq6, h⟩ := Option.bind_eq_some_iff.mp h
        refine ev_V4I (pc' := 290) rfl (by decide) rfl mth_77 ⟨Nat.le_of_ble_eq_true rfl, rfl⟩ capL (d_X6_berth hq6) ?_
        refine ev_pop (pc' := 291) rfl rfl rfl ?_
        refine ev_aload_n (pc' := 292) rfl rfl rfl ?_
        refine ev_aload_n (pc' := 293) rfl rfl rfl ?_
        refine ev_iload_n (pc' := 294) rfl rfl rfl ?_
        refine ev_iconst (pc' := 295) rfl rfl (v := (1 : Int32)) (by decide) ?_
        refine ev_iadd (pc' := 296) rfl rfl ?_
        obtain ⟨hi, h⟩ := gdB h
        refine ev_sald (pc' := 297) rfl rfl (inR_vp hi) ?_
        refine ev_aload_n (pc' := 298) rfl rfl rfl ?_
        refine ev_iload_n (pc' := 299) rfl rfl rfl ?_
        refine ev_iconst (pc' := 300) rfl rfl (v := (2 : Int32)) (by decide) ?_
        refine ev_iadd (pc' := 301) rfl rfl ?_
        obtain ⟨hi, h⟩ := gdB h
        refine ev_sald (pc' := 302) rfl rfl (inR_vp hi) ?_
        refine ev_aload_n (pc' := 303) rfl rfl rfl ?_
        refine ev_iload_n (pc' := 304) rfl rfl rfl ?_
        refine ev_iconst (pc' := 305) rfl rfl (v := (3 : Int32)) (by decide) ?_
        refine ev_iadd (pc' := 306) rfl rfl ?_
        obtain ⟨hi, h⟩ := gdB h
        refine ev_sald (pc' := 307) rfl rfl (inR_vp hi) ?_
        obtain ⟨q7, hq7, h⟩ := Option.bind_eq_some_iff.mp h
        refine ev_V4I (pc' := 310) rfl (by decide) rfl mth_126 ⟨Nat.le_of_ble_eq_true rfl, rfl⟩ capL (d_X7_berth hq7) ?_
        refine ev_pop (pc' := 311) rfl rfl rfl ?_
        refine ev_goto (pc' := 1233) rfl ?_
        exact e_L_law_1233 (hr18 := hr18) hΨ h
      | 4, hn =>
        obtain rfl := Option.some.inj hn
        have e9 : ((xs v3.toNatClampNeg) &&& (31 : Int32)) = (4 : Int32) := Int32.toInt_inj.mp (hv.trans (by decide))
        have h := (if_neg (show ¬ ((xs v3.toNatClampNeg) &&& (31 : Int32)) = (0 : Int32) from by rw [e9]; decide)).symm.trans h
        have h := (if_neg (show ¬ ((xs v3.toNatClampNeg) &&& (31 : Int32)) = (1 : Int32) from by rw [e9]; decide)).symm.trans h
        have h := (if_neg (show ¬ ((xs v3.toNatClampNeg) &&& (31 : Int32)) = (2 : Int32) from by rw [e9]; decide)).symm.trans h
        have h := (if_neg (show ¬ ((xs v3.toNatClampNeg) &&& (31 : Int32)) = (3 : Int32) from by rw [e9]; decide)).symm.trans h
        have h := (if_pos e9).symm.trans h
        refine ev_aload_n (pc' := 315) rfl rfl rfl ?_
        refine ev_aload_n (pc' := 316) rfl rfl rfl ?_
        refine ev_iload_n (pc' := 317) rfl rfl rfl ?_
        refine ev_iconst (pc' := 318) rfl rfl (v := (1 : Int32)) (by decide) ?_
        refine ev_iadd (pc' := 319) rfl rfl ?_
        obtain ⟨hi, h⟩ := gdB h
        refine ev_sald (pc' := 320) rfl rfl (inR_vp hi) ?_
        refine ev_aload_n (pc' := 321) rfl rfl rfl ?_
        refine ev_iload_n (pc' := 322) rfl rfl rfl ?_
        refine ev_iconst (pc' := 323) rfl rfl (v := (2 : Int32)) (by decide) ?_
        refine ev_iadd (pc' := 324) rfl rfl ?_
        obtain ⟨hi, h⟩ := gdB h
        refine ev_sald (pc' := 325) rfl rfl (inR_vp hi) ?_
        obtain ⟨q8, hq8, h⟩ := Option.bind_eq_some_iff.mp h
        refine ev_V3I (pc' := 328) rfl (by decide) rfl mth_78 ⟨Nat.le_of_ble_eq_true rfl, rfl⟩ capL (d_X6_way hq8) ?_
        refine ev_pop (pc' := 329) rfl rfl rfl ?_
        refine ev_aload_n (pc' := 330) rfl rfl rfl ?_
        refine ev_aload_n (pc' := 331) rfl rfl rfl ?_
        refine ev_iload_n (pc' := 332) rfl rfl rfl ?_
        refine ev_iconst (pc' := 333) rfl rfl (v := (1 : Int32)) (by decide) ?_
        refine ev_iadd (pc' := 334) rfl rfl ?_
        obtain ⟨hi, h⟩ := gdB h
        refine ev_sald (pc' := 335) rfl rfl (inR_vp hi) ?_
        refine ev_aload_n (pc' := 336) rfl rfl rfl ?_
        refine ev_iload_n (pc' := 337) rfl rfl rfl ?_
        refine ev_iconst (pc' := 338) rfl rfl (v := (2 : Int32)) (by decide) ?_
        refine ev_iadd (pc' := 339) rfl rfl ?_
        obtain ⟨hi, h⟩ := gdB h
        refine ev_sald (pc' := 340) rfl rfl (inR_vp hi) ?_
        obtain ⟨q9, hq9, h⟩ := Option.bind_eq_some_iff.mp h
        refine ev_V3I (pc' := 343) rfl (by decide) rfl mth_128 ⟨Nat.le_of_ble_eq_true rfl, rfl⟩ capL (d_X7_way hq9) ?_
        refine ev_pop (pc' := 344) rfl rfl rfl ?_
        refine ev_goto (pc' := 1233) rfl ?_
        exact e_L_law_1233 (hr18 := hr18) hΨ h
      | 5, hn =>
        obtain rfl := Option.some.inj hn
        have e9 : ((xs v3.toNatClampNeg) &&& (31 : Int32)) = (5 : Int32) := Int32.toInt_inj.mp (hv.trans (by decide))
        have h := (if_neg (show ¬ ((xs v3.toNatClampNeg) &&& (31 : Int32)) = (0 : Int32) from by rw [e9]; decide)).symm.trans h
        have h := (if_neg (show ¬ ((xs v3.toNatClampNeg) &&& (31 : Int32)) = (1 : Int32) from by rw [e9]; decide)).symm.trans h
        have h := (if_neg (show ¬ ((xs v3.toNatClampNeg) &&& (31 : Int32)) = (2 : Int32) from by rw [e9]; decide)).symm.trans h
        have h := (if_neg (show ¬ ((xs v3.toNatClampNeg) &&& (31 : Int32)) = (3 : Int32) from by rw [e9]; decide)).symm.trans h
        have h := (if_neg (show ¬ ((xs v3.toNatClampNeg) &&& (31 : Int32)) = (4 : Int32) from by rw [e9]; decide)).symm.trans h
        have h := (if_pos e9).symm.trans h
        refine ev_aload_n (pc' := 348) rfl rfl rfl ?_
        refine ev_aload_n (pc' := 349) rfl rfl rfl ?_
        refine ev_iload_n (pc' := 350) rfl rfl rfl ?_
        refine ev_iconst (pc' := 351) rfl rfl (v := (1 : Int32)) (by decide) ?_
        refine ev_iadd (pc' := 352) rfl rfl ?_
        obtain ⟨hi, h⟩ := gdB h
        refine ev_sald (pc' := 353) rfl rfl (inR_vp hi) ?_
        refine ev_aload_n (pc' := 354) rfl rfl rfl ?_
        refine ev_iload_n (pc' := 355) rfl rfl rfl ?_
        refine ev_iconst (pc' := 356) rfl rfl (v := (2 : Int32)) (by decide) ?_
        refine ev_iadd (pc' := 357) rfl rfl ?_
        obtain ⟨hi, h⟩ := gdB h
        refine ev_sald (pc' := 358) rfl rfl (inR_vp hi) ?_
        refine ev_aload_n (pc' := 359) rfl rfl rfl ?_
        refine ev_iload_n (pc' := 360) rfl rfl rfl ?_
        refine ev_iconst (pc' := 361) rfl rfl (v := (3 : Int32)) (by decide) ?_
        refine ev_iadd (pc' := 362) rfl rfl ?_
        obtain ⟨hi, h⟩ := gdB h
        refine ev_sald (pc' := 363) rfl rfl (inR_vp hi) ?_
        refine ev_aload_n (pc' := 364) rfl rfl rfl ?_
        refine ev_iload_n (pc' := 365) rfl rfl rfl ?_
        refine ev_iconst (pc' := 366) rfl rfl (v := (4 : Int32)) (by decide) ?_
        refine ev_iadd (pc' := 367) rfl rfl ?_
        obtain ⟨hi, h⟩ := gdB h
        refine ev_sald (pc' := 368) rfl rfl (inR_vp hi) ?_
        refine ev_aload_n (pc' := 369) rfl rfl rfl ?_
        refine ev_iload_n (pc' := 370) rfl rfl rfl ?_
        refine ev_iconst (pc' := 371) rfl rfl (v := (5 : Int32)) (by decide) ?_
        refine ev_iadd (pc' := 372) rfl rfl ?_
        obtain ⟨hi, h⟩ := gdB h
        refine ev_sald (pc' := 373) rfl rfl (inR_vp hi) ?_
        refine ev_aload_n (pc' := 374) rfl rfl rfl ?_
        refine ev_iload_n (pc' := 375) rfl rfl rfl ?_
        refine ev_bipush (pc' := 377) rfl rfl (v := (6 : Int32)) (by decide) ?_
        refine ev_iadd (pc' := 378) rfl rfl ?_
        obtain ⟨hi, h⟩ := gdB h
        refine ev_sald (pc' := 379) rfl rfl (inR_vp hi) ?_
        refine ev_aload_n (pc' := 380) rfl rfl rfl ?_
        refine ev_iload_n (pc' := 381) rfl rfl rfl ?_
        refine ev_bipush (pc' := 383) rfl rfl (v := (7 : Int32)) (by decide) ?_
        refine ev_iadd (pc' := 384) rfl rfl ?_
        obtain ⟨hi, h⟩ := gdB h
        refine ev_sald (pc' := 385) rfl rfl (inR_vp hi) ?_
        obtain ⟨q10, hq10, h⟩ := Option.bind_eq_some_iff.mp h
        refine ev_V8I (pc' := 388) rfl (by decide) rfl mth_79 ⟨Nat.le_of_ble_eq_true rfl, rfl⟩ capL (d_X6_tug hq10) ?_
        refine ev_pop (pc' := 389) rfl rfl rfl ?_
        refine ev_aload_n (pc' := 390) rfl rfl rfl ?_
        refine ev_aload_n (pc' := 391) rfl rfl rfl ?_
        refine ev_iload_n (pc' := 392) rfl rfl rfl ?_
        refine ev_iconst (pc' := 393) rfl rfl (v := (1 : Int32)) (by decide) ?_
        refine ev_iadd (pc' := 394) rfl rfl ?_
        obtain ⟨hi, h⟩ := gdB h
        refine ev_sald (pc' := 395) rfl rfl (inR_vp hi) ?_
        refine ev_aload_n (pc' := 396) rfl rfl rfl ?_
        refine ev_iload_n (pc' := 397) rfl rfl rfl ?_
        refine ev_iconst (pc' := 398) rfl rfl (v := (2 : Int32)) (by decide) ?_
        refine ev_iadd (pc' := 399) rfl rfl ?_
        obtain ⟨hi, h⟩ := gdB h
        refine ev_sald (pc' := 400) rfl rfl (inR_vp hi) ?_
        refine ev_aload_n (pc' := 401) rfl rfl rfl ?_
        refine ev_iload_n (pc' := 402) rfl rfl rfl ?_
        refine ev_iconst (pc' := 403) rfl rfl (v := (3 : Int32)) (by decide) ?_
        refine ev_iadd (pc' := 404) rfl rfl ?_
        obtain ⟨hi, h⟩ := gdB h
        refine ev_sald (pc' := 405) rfl rfl (inR_vp hi) ?_
        refine ev_aload_n (pc' := 406) rfl rfl rfl ?_
        refine ev_iload_n (pc' := 407) rfl rfl rfl ?_
        refine ev_iconst (pc' := 408) rfl rfl (v := (4 : Int32)) (by decide) ?_
        refine ev_iadd (pc' := 409) rfl rfl ?_
        obtain ⟨hi, h⟩ := gdB h
        refine ev_sald (pc' := 410) rfl rfl (inR_vp hi) ?_
        refine ev_aload_n (pc' := 411) rfl rfl rfl ?_
        refine ev_iload_n (pc' := 412) rfl rfl rfl ?_
        refine ev_iconst (pc' := 413) rfl rfl (v := (5 : Int32)) (by decide) ?_
        refine ev_iadd (pc' := 414) rfl rfl ?_
        obtain ⟨hi, h⟩ := gdB h
        refine ev_sald (pc' := 415) rfl rfl (inR_vp hi) ?_
        refine ev_aload_n (pc' := 416) rfl rfl rfl ?_
        refine ev_iload_n (pc' := 417) rfl rfl rfl ?_
        refine ev_bipush (pc' := 419) rfl rfl (v := (6 : Int32)) (by decide) ?_
        refine ev_iadd (pc' := 420) rfl rfl ?_
        obtain ⟨hi, h⟩ := gdB h
        refine ev_sald (pc' := 421) rfl rfl (inR_vp hi) ?_
        refine ev_aload_n (pc' := 422) rfl rfl rfl ?_
        refine ev_iload_n (pc' := 423) rfl rfl rfl ?_
        refine ev_bipush (pc' := 425) rfl rfl (v := (7 : Int32)) (by decide) ?_
        refine ev_iadd (pc' := 426) rfl rfl ?_
        obtain ⟨hi, h⟩ := gdB h
        refine ev_sald (pc' := 427) rfl rfl (inR_vp hi) ?_
        obtain ⟨q11, hq11, h⟩ := Option.bind_eq_some_iff.mp h
        refine ev_V8I (pc' := 430) rfl (by decide) rfl mth_129 ⟨Nat.le_of_ble_eq_true rfl, rfl⟩ capL (d_X7_tug hq11) ?_
        refine ev_pop (pc' := 431) rfl rfl rfl ?_
        refine ev_goto (pc' := 1233) rfl ?_
        exact e_L_law_1233 (hr18 := hr18) hΨ h
      | 6, hn =>
        obtain rfl := Option.some.inj hn
        have e9 : ((xs v3.toNatClampNeg) &&& (31 : Int32)) = (6 : Int32) := Int32.toInt_inj.mp (hv.trans (by decide))
        have h := (if_neg (show ¬ ((xs v3.toNatClampNeg) &&& (31 : Int32)) = (0 : Int32) from by rw [e9]; decide)).symm.trans h
        have h := (if_neg (show ¬ ((xs v3.toNatClampNeg) &&& (31 : Int32)) = (1 : Int32) from by rw [e9]; decide)).symm.trans h
        have h := (if_neg (show ¬ ((xs v3.toNatClampNeg) &&& (31 : Int32)) = (2 : Int32) from by rw [e9]; decide)).symm.trans h
        have h := (if_neg (show ¬ ((xs v3.toNatClampNeg) &&& (31 : Int32)) = (3 : Int32) from by rw [e9]; decide)).symm.trans h
        have h := (if_neg (show ¬ ((xs v3.toNatClampNeg) &&& (31 : Int32)) = (4 : Int32) from by rw [e9]; decide)).symm.trans h
        have h := (if_neg (show ¬ ((xs v3.toNatClampNeg) &&& (31 : Int32)) = (5 : Int32) from by rw [e9]; decide)).symm.trans h
        have h := (if_pos e9).symm.trans h
        refine ev_aload_n (pc' := 435) rfl rfl rfl ?_
        refine ev_aload_n (pc' := 436) rfl rfl rfl ?_
        refine ev_iload_n (pc' := 437) rfl rfl rfl ?_
        refine ev_iconst (pc' := 438) rfl rfl (v := (1 : Int32)) (by decide) ?_
        refine ev_iadd (pc' := 439) rfl rfl ?_
        obtain ⟨hi, h⟩ := gdB h
        refine ev_sald (pc' := 440) rfl rfl (inR_vp hi) ?_
        refine ev_aload_n (pc' := 441) rfl rfl rfl ?_
        refine ev_iload_n (pc' := 442) rfl rfl rfl ?_
        refine ev_iconst (pc' := 443) rfl rfl (v := (2 : Int32)) (by decide) ?_
        refine ev_iadd (pc' := 444) rfl rfl ?_
        obtain ⟨hi, h⟩ := gdB h
        refine ev_sald (pc' := 445) rfl rfl (inR_vp hi) ?_
        refine ev_aload_n (pc' := 446) rfl rfl rfl ?_
        refine ev_iload_n (pc' := 447) rfl rfl rfl ?_
        refine ev_iconst (pc' := 448) rfl rfl (v := (3 : Int32)) (by decide) ?_
        refine ev_iadd (pc' := 449) rfl rfl ?_
        obtain ⟨hi, h⟩ := gdB h
        refine ev_sald (pc' := 450) rfl rfl (inR_vp hi) ?_
        refine ev_aload_n (pc' := 451) rfl rfl rfl ?_
        refine ev_iload_n (pc' := 452) rfl rfl rfl ?_
        refine ev_iconst (pc' := 453) rfl rfl (v := (4 : Int32)) (by decide) ?_
        refine ev_iadd (pc' := 454) rfl rfl ?_
        obtain ⟨hi, h⟩ := gdB h
        refine ev_sald (pc' := 455) rfl rfl (inR_vp hi) ?_
        refine ev_aload_n (pc' := 456) rfl rfl rfl ?_
        refine ev_iload_n (pc' := 457) rfl rfl rfl ?_
        refine ev_iconst (pc' := 458) rfl rfl (v := (5 : Int32)) (by decide) ?_
        refine ev_iadd (pc' := 459) rfl rfl ?_
        obtain ⟨hi, h⟩ := gdB h
        refine ev_sald (pc' := 460) rfl rfl (inR_vp hi) ?_
        refine ev_aload_n (pc' := 461) rfl rfl rfl ?_
        refine ev_iload_n (pc' := 462) rfl rfl rfl ?_
        refine ev_bipush (pc' := 464) rfl rfl (v := (6 : Int32)) (by decide) ?_
        refine ev_iadd (pc' := 465) rfl rfl ?_
        obtain ⟨hi, h⟩ := gdB h
        refine ev_sald (pc' := 466) rfl rfl (inR_vp hi) ?_
        refine ev_aload_n (pc' := 467) rfl rfl rfl ?_
        refine ev_iload_n (pc' := 468) rfl rfl rfl ?_
        refine ev_bipush (pc' := 470) rfl rfl (v := (7 : Int32)) (by decide) ?_
        refine ev_iadd (pc' := 471) rfl rfl ?_
        obtain ⟨hi, h⟩ := gdB h
        refine ev_sald (pc' := 472) rfl rfl (inR_vp hi) ?_
        obtain ⟨q12, hq12, h⟩ := Option.bind_eq_some_iff.mp h
        refine ev_V8I (pc' := 475) rfl (by decide) rfl mth_80 ⟨Nat.le_of_ble_eq_true rfl, rfl⟩ capL (d_X6_ship hq12) ?_
        refine ev_pop (pc' := 476) rfl rfl rfl ?_
        refine ev_aload_n (pc' := 477) rfl rfl rfl ?_
        refine ev_aload_n (pc' := 478) rfl rfl rfl ?_
        refine ev_iload_n (pc' := 479) rfl rfl rfl ?_
        refine ev_iconst (pc' := 480) rfl rfl (v := (1 : Int32)) (by decide) ?_
        refine ev_iadd (pc' := 481) rfl rfl ?_
        obtain ⟨hi, h⟩ := gdB h
        refine ev_sald (pc' := 482) rfl rfl (inR_vp hi) ?_
        refine ev_aload_n (pc' := 483) rfl rfl rfl ?_
        refine ev_iload_n (pc' := 484) rfl rfl rfl ?_
        refine ev_iconst (pc' := 485) rfl rfl (v := (2 : Int32)) (by decide) ?_
        refine ev_iadd (pc' := 486) rfl rfl ?_
        obtain ⟨hi, h⟩ := gdB h
        refine ev_sald (pc' := 487) rfl rfl (inR_vp hi) ?_
        refine ev_aload_n (pc' := 488) rfl rfl rfl ?_
        refine ev_iload_n (pc' := 489) rfl rfl rfl ?_
        refine ev_iconst (pc' := 490) rfl rfl (v := (3 : Int32)) (by decide) ?_
        refine ev_iadd (pc' := 491) rfl rfl ?_
        obtain ⟨hi, h⟩ := gdB h
        refine ev_sald (pc' := 492) rfl rfl (inR_vp hi) ?_
        refine ev_aload_n (pc' := 493) rfl rfl rfl ?_
        refine ev_iload_n (pc' := 494) rfl rfl rfl ?_
        refine ev_iconst (pc' := 495) rfl rfl (v := (4 : Int32)) (by decide) ?_
        refine ev_iadd (pc' := 496) rfl rfl ?_
        obtain ⟨hi, h⟩ := gdB h
        refine ev_sald (pc' := 497) rfl rfl (inR_vp hi) ?_
        refine ev_aload_n (pc' := 498) rfl rfl rfl ?_
        refine ev_iload_n (pc' := 499) rfl rfl rfl ?_
        refine ev_iconst (pc' := 500) rfl rfl (v := (5 : Int32)) (by decide) ?_
        refine ev_iadd (pc' := 501) rfl rfl ?_
        obtain ⟨hi, h⟩ := gdB h
        refine ev_sald (pc' := 502) rfl rfl (inR_vp hi) ?_
        refine ev_aload_n (pc' := 503) rfl rfl rfl ?_
        refine ev_iload_n (pc' := 504) rfl rfl rfl ?_
        refine ev_bipush (pc' := 506) rfl rfl (v := (6 : Int32)) (by decide) ?_
        refine ev_iadd (pc' := 507) rfl rfl ?_
        obtain ⟨hi, h⟩ := gdB h
        refine ev_sald (pc' := 508) rfl rfl (inR_vp hi) ?_
        refine ev_aload_n (pc' := 509) rfl rfl rfl ?_
        refine ev_iload_n (pc' := 510) rfl rfl rfl ?_
        refine ev_bipush (pc' := 512) rfl rfl (v := (7 : Int32)) (by decide) ?_
        refine ev_iadd (pc' := 513) rfl rfl ?_
        obtain ⟨hi, h⟩ := gdB h
        refine ev_sald (pc' := 514) rfl rfl (inR_vp hi) ?_
        obtain ⟨q13, hq13, h⟩ := Option.bind_eq_some_iff.mp h
        refine ev_V8I (pc' := 517) rfl (by decide) rfl mth_130 ⟨Nat.le_of_ble_eq_true rfl, rfl⟩ capL (d_X7_ship hq13) ?_
        refine ev_pop (pc' := 518) rfl rfl rfl ?_
        refine ev_goto (pc' := 1233) rfl ?_
        exact e_L_law_1233 (hr18 := hr18) hΨ h
      | 7, hn =>
        obtain rfl := Option.some.inj hn
        have e9 : ((xs v3.toNatClampNeg) &&& (31 : Int32)) = (7 : Int32) := Int32.toInt_inj.mp (hv.trans (by decide))
        have h := (if_neg (show ¬ ((xs v3.toNatClampNeg) &&& (31 : Int32)) = (0 : Int32) from by rw [e9]; decide)).symm.trans h
        have h := (if_neg (show ¬ ((xs v3.toNatClampNeg) &&& (31 : Int32)) = (1 : Int32) from by rw [e9]; decide)).symm.trans h
        have h := (if_neg (show ¬ ((xs v3.toNatClampNeg) &&& (31 : Int32)) = (2 : Int32) from by rw [e9]; decide)).symm.trans h
        have h := (if_neg (show ¬ ((xs v3.toNatClampNeg) &&& (31 : Int32)) = (3 : Int32) from by rw [e9]; decide)).symm.trans h
        have h := (if_neg (show ¬ ((xs v3.toNatClampNeg) &&& (31 : Int32)) = (4 : Int32) from by rw [e9]; decide)).symm.trans h
        have h := (if_neg (show ¬ ((xs v3.toNatClampNeg) &&& (31 : Int32)) = (5 : Int32) from by rw [e9]; decide)).symm.trans h
        have h := (if_neg (show ¬ ((xs v3.toNatClampNeg) &&& (31 : Int32)) = (6 : Int32) from by rw [e9]; decide)).symm.trans h
        have h := (if_pos e9).symm.trans h
        refine ev_aload_n (pc' := 522) rfl rfl rfl ?_
        refine ev_aload_n (pc' := 523) rfl rfl rfl ?_
        refine ev_iload_n (pc' := 524) rfl rfl rfl ?_
        refine ev_iconst (pc' := 525) rfl rfl (v := (1 : Int32)) (by decide) ?_
        refine ev_iadd (pc' := 526) rfl rfl ?_
        obtain ⟨hi, h⟩ := gdB h
        refine ev_sald (pc' := 527) rfl rfl (inR_vp hi) ?_
        refine ev_aload_n (pc' := 528) rfl rfl rfl ?_
        refine ev_iload_n (pc' := 529) rfl rfl rfl ?_
        refine ev_iconst (pc' := 530) rfl rfl (v := (2 : Int32)) (by decide) ?_
        refine ev_iadd (pc' := 531) rfl rfl ?_
        obtain ⟨hi, h⟩ := gdB h
        refine ev_sald (pc' := 532) rfl rfl (inR_vp hi) ?_
        obtain ⟨q14, hq14, h⟩ := Option.bind_eq_some_iff.mp h
        refine ev_V3I (pc' := 535) rfl (by decide) rfl mth_81 ⟨Nat.le_of_ble_eq_true rfl, rfl⟩ capL (d_X6_needs hq14) ?_
        refine ev_pop (pc' := 536) rfl rfl rfl ?_
        refine ev_aload_n (pc' := 537) rfl rfl rfl ?_
        refine ev_aload_n (pc' := 538) rfl rfl rfl ?_
        refine ev_iload_n (pc' := 539) rfl rfl rfl ?_
        refine ev_iconst (pc' := 540) rfl rfl (v := (1 : Int32)) (by decide) ?_
        refine ev_iadd (pc' := 541) rfl rfl ?_
        obtain ⟨hi, h⟩ := gdB h
        refine ev_sald (pc' := 542) rfl rfl (inR_vp hi) ?_
        refine ev_aload_n (pc' := 543) rfl rfl rfl ?_
        refine ev_iload_n (pc' := 544) rfl rfl rfl ?_
        refine ev_iconst (pc' := 545) rfl rfl (v := (2 : Int32)) (by decide) ?_
        refine ev_iadd (pc' := 546) rfl rfl ?_
        obtain ⟨hi, h⟩ := gdB h
        refine ev_sald (pc' := 547) rfl rfl (inR_vp hi) ?_
        obtain ⟨q15, hq15, h⟩ := Option.bind_eq_some_iff.mp h
        refine ev_V3I (pc' := 550) rfl (by decide) rfl mth_132 ⟨Nat.le_of_ble_eq_true rfl, rfl⟩ capL (d_X7_needs hq15) ?_
        refine ev_pop (pc' := 551) rfl rfl rfl ?_
        refine ev_goto (pc' := 1233) rfl ?_
        exact e_L_law_1233 (hr18 := hr18) hΨ h
      | 8, hn =>
        obtain rfl := Option.some.inj hn
        have e9 : ((xs v3.toNatClampNeg) &&& (31 : Int32)) = (8 : Int32) := Int32.toInt_inj.mp (hv.trans (by decide))
        have h := (if_neg (show ¬ ((xs v3.toNatClampNeg) &&& (31 : Int32)) = (0 : Int32) from by rw [e9]; decide)).symm.trans h
        have h := (if_neg (show ¬ ((xs v3.toNatClampNeg) &&& (31 : Int32)) = (1 : Int32) from by rw [e9]; decide)).symm.trans h
        have h := (if_neg (show ¬ ((xs v3.toNatClampNeg) &&& (31 : Int32)) = (2 : Int32) from by rw [e9]; decide)).symm.trans h
        have h := (if_neg (show ¬ ((xs v3.toNatClampNeg) &&& (31 : Int32)) = (3 : Int32) from by rw [e9]; decide)).symm.trans h
        have h := (if_neg (show ¬ ((xs v3.toNatClampNeg) &&& (31 : Int32)) = (4 : Int32) from by rw [e9]; decide)).symm.trans h
        have h := (if_neg (show ¬ ((xs v3.toNatClampNeg) &&& (31 : Int32)) = (5 : Int32) from by rw [e9]; decide)).symm.trans h
        have h := (if_neg (show ¬ ((xs v3.toNatClampNeg) &&& (31 : Int32)) = (6 : Int32) from by rw [e9]; decide)).symm.trans h
        have h := (if_neg (show ¬ ((xs v3.toNatClampNeg) &&& (31 : Int32)) = (7 : Int32) from by rw [e9]; decide)).symm.trans h
        have h := (if_pos e9).symm.trans h
        refine ev_aload_n (pc' := 555) rfl rfl rfl ?_
        refine ev_aload_n (pc' := 556) rfl rfl rfl ?_
        refine ev_iload_n (pc' := 557) rfl rfl rfl ?_
        refine ev_iconst (pc' := 558) rfl rfl (v := (1 : Int32)) (by decide) ?_
        refine ev_iadd (pc' := 559) rfl rfl ?_
        obtain ⟨hi, h⟩ := gdB h
        refine ev_sald (pc' := 560) rfl rfl (inR_vp hi) ?_
        refine ev_aload_n (pc' := 561) rfl rfl rfl ?_
        refine ev_iload_n (pc' := 562) rfl rfl rfl ?_
        refine ev_iconst (pc' := 563) rfl rfl (v := (2 : Int32)) (by decide) ?_
        refine ev_iadd (pc' := 564) rfl rfl ?_
        obtain ⟨hi, h⟩ := gdB h
        refine ev_sald (pc' := 565) rfl rfl (inR_vp hi) ?_
        obtain ⟨q16, hq16, h⟩ := Option.bind_eq_some_iff.mp h
        refine ev_V3I (pc' := 568) rfl (by decide) rfl mth_82 ⟨Nat.le_of_ble_eq_true rfl, rfl⟩ capL (d_X6_bunker hq16) ?_
        refine ev_pop (pc' := 569) rfl rfl rfl ?_
        refine ev_aload_n (pc' := 570) rfl rfl rfl ?_
        refine ev_aload_n (pc' := 571) rfl rfl rfl ?_
        refine ev_iload_n (pc' := 572) rfl rfl rfl ?_
        refine ev_iconst (pc' := 573) rfl rfl (v := (1 : Int32)) (by decide) ?_
        refine ev_iadd (pc' := 574) rfl rfl ?_
        obtain ⟨hi, h⟩ := gdB h
        refine ev_sald (pc' := 575) rfl rfl (inR_vp hi) ?_
        refine ev_aload_n (pc' := 576) rfl rfl rfl ?_
        refine ev_iload_n (pc' := 577) rfl rfl rfl ?_
        refine ev_iconst (pc' := 578) rfl rfl (v := (2 : Int32)) (by decide) ?_
        refine ev_iadd (pc' := 579) rfl rfl ?_
        obtain ⟨hi, h⟩ := gdB h
        refine ev_sald (pc' := 580) rfl rfl (inR_vp hi) ?_
        obtain ⟨q17, hq17, h⟩ := Option.bind_eq_some_iff.mp h
        refine ev_V3I (pc' := 583) rfl (by decide) rfl mth_139 ⟨Nat.le_of_ble_eq_true rfl, rfl⟩ capL (d_X7_bunker hq17) ?_
        refine ev_pop (pc' := 584) rfl rfl rfl ?_
        refine ev_goto (pc' := 1233) rfl ?_
        exact e_L_law_1233 (hr18 := hr18) hΨ h
      | 9, hn =>
        obtain rfl := Option.some.inj hn
        have e9 : ((xs v3.toNatClampNeg) &&& (31 : Int32)) = (9 : Int32) := Int32.toInt_inj.mp (hv.trans (by decide))
        have h := (if_neg (show ¬ ((xs v3.toNatClampNeg) &&& (31 : Int32)) = (0 : Int32) from by rw [e9]; decide)).symm.trans h
        have h := (if_neg (show ¬ ((xs v3.toNatClampNeg) &&& (31 : Int32)) = (1 : Int32) from by rw [e9]; decide)).symm.trans h
        have h := (if_neg (show ¬ ((xs v3.toNatClampNeg) &&& (31 : Int32)) = (2 : Int32) from by rw [e9]; decide)).symm.trans h
        have h := (if_neg (show ¬ ((xs v3.toNatClampNeg) &&& (31 : Int32)) = (3 : Int32) from by rw [e9]; decide)).symm.trans h
        have h := (if_neg (show ¬ ((xs v3.toNatClampNeg) &&& (31 : Int32)) = (4 : Int32) from by rw [e9]; decide)).symm.trans h
        have h := (if_neg (show ¬ ((xs v3.toNatClampNeg) &&& (31 : Int32)) = (5 : Int32) from by rw [e9]; decide)).symm.trans h
        have h := (if_neg (show ¬ ((xs v3.toNatClampNeg) &&& (31 : Int32)) = (6 : Int32) from by rw [e9]; decide)).symm.trans h
        have h := (if_neg (show ¬ ((xs v3.toNatClampNeg) &&& (31 : Int32)) = (7 : Int32) from by rw [e9]; decide)).symm.trans h
        have h := (if_neg (show ¬ ((xs v3.toNatClampNeg) &&& (31 : Int32)) = (8 : Int32) from by rw [e9]; decide)).symm.trans h
        have h := (if_pos e9).symm.trans h
        refine ev_aload_n (pc' := 588) rfl rfl rfl ?_
        refine ev_aload_n (pc' := 589) rfl rfl rfl ?_
        refine ev_iload_n (pc' := 590) rfl rfl rfl ?_
        refine ev_iconst (pc' := 591) rfl rfl (v := (1 : Int32)) (by decide) ?_
        refine ev_iadd (pc' := 592) rfl rfl ?_
        obtain ⟨hi, h⟩ := gdB h
        refine ev_sald (pc' := 593) rfl rfl (inR_vp hi) ?_
        refine ev_aload_n (pc' := 594) rfl rfl rfl ?_
        refine ev_iload_n (pc' := 595) rfl rfl rfl ?_
        refine ev_iconst (pc' := 596) rfl rfl (v := (2 : Int32)) (by decide) ?_
        refine ev_iadd (pc' := 597) rfl rfl ?_
        obtain ⟨hi, h⟩ := gdB h
        refine ev_sald (pc' := 598) rfl rfl (inR_vp hi) ?_
        obtain ⟨q18, hq18, h⟩ := Option.bind_eq_some_iff.mp h
        refine ev_V3I (pc' := 601) rfl (by decide) rfl mth_83 ⟨Nat.le_of_ble_eq_true rfl, rfl⟩ capL (d_X6_fuel hq18) ?_
        refine ev_pop (pc' := 602) rfl rfl rfl ?_
        refine ev_aload_n (pc' := 603) rfl rfl rfl ?_
        refine ev_aload_n (pc' := 604) rfl rfl rfl ?_
        refine ev_iload_n (pc' := 605) rfl rfl rfl ?_
        refine ev_iconst (pc' := 606) rfl rfl (v := (1 : Int32)) (by decide) ?_
        refine ev_iadd (pc' := 607) rfl rfl ?_
        obtain ⟨hi, h⟩ := gdB h
        refine ev_sald (pc' := 608) rfl rfl (inR_vp hi) ?_
        refine ev_aload_n (pc' := 609) rfl rfl rfl ?_
        refine ev_iload_n (pc' := 610) rfl rfl rfl ?_
        refine ev_iconst (pc' := 611) rfl rfl (v := (2 : Int32)) (by decide) ?_
        refine ev_iadd (pc' := 612) rfl rfl ?_
        obtain ⟨hi, h⟩ := gdB h
        refine ev_sald (pc' := 613) rfl rfl (inR_vp hi) ?_
        obtain ⟨q19, hq19, h⟩ := Option.bind_eq_some_iff.mp h
        refine ev_V3I (pc' := 616) rfl (by decide) rfl mth_138 ⟨Nat.le_of_ble_eq_true rfl, rfl⟩ capL (d_X7_fuel hq19) ?_
        refine ev_pop (pc' := 617) rfl rfl rfl ?_
        refine ev_goto (pc' := 1233) rfl ?_
        exact e_L_law_1233 (hr18 := hr18) hΨ h
      | 10, hn =>
        obtain rfl := Option.some.inj hn
        have e9 : ((xs v3.toNatClampNeg) &&& (31 : Int32)) = (10 : Int32) := Int32.toInt_inj.mp (hv.trans (by decide))
        have h := (if_neg (show ¬ ((xs v3.toNatClampNeg) &&& (31 : Int32)) = (0 : Int32) from by rw [e9]; decide)).symm.trans h
        have h := (if_neg (show ¬ ((xs v3.toNatClampNeg) &&& (31 : Int32)) = (1 : Int32) from by rw [e9]; decide)).symm.trans h
        have h := (if_neg (show ¬ ((xs v3.toNatClampNeg) &&& (31 : Int32)) = (2 : Int32) from by rw [e9]; decide)).symm.trans h
        have h := (if_neg (show ¬ ((xs v3.toNatClampNeg) &&& (31 : Int32)) = (3 : Int32) from by rw [e9]; decide)).symm.trans h
        have h := (if_neg (show ¬ ((xs v3.toNatClampNeg) &&& (31 : Int32)) = (4 : Int32) from by rw [e9]; decide)).symm.trans h
        have h := (if_neg (show ¬ ((xs v3.toNatClampNeg) &&& (31 : Int32)) = (5 : Int32) from by rw [e9]; decide)).symm.trans h
        have h := (if_neg (show ¬ ((xs v3.toNatClampNeg) &&& (31 : Int32)) = (6 : Int32) from by rw [e9]; decide)).symm.trans h
        have h := (if_neg (show ¬ ((xs v3.toNatClampNeg) &&& (31 : Int32)) = (7 : Int32) from by rw [e9]; decide)).symm.trans h
        have h := (if_neg (show ¬ ((xs v3.toNatClampNeg) &&& (31 : Int32)) = (8 : Int32) from by rw [e9]; decide)).symm.trans h
        have h := (if_neg (show ¬ ((xs v3.toNatClampNeg) &&& (31 : Int32)) = (9 : Int32) from by rw [e9]; decide)).symm.trans h
        have h := (if_pos e9).symm.trans h
        refine ev_aload_n (pc' := 621) rfl rfl rfl ?_
        refine ev_aload_n (pc' := 622) rfl rfl rfl ?_
        refine ev_iload_n (pc' := 623) rfl rfl rfl ?_
        refine ev_iconst (pc' := 624) rfl rfl (v := (1 : Int32)) (by decide) ?_
        refine ev_iadd (pc' := 625) rfl rfl ?_
        obtain ⟨hi, h⟩ := gdB h
        refine ev_sald (pc' := 626) rfl rfl (inR_vp hi) ?_
        refine ev_aload_n (pc' := 627) rfl rfl rfl ?_
        refine ev_iload_n (pc' := 628) rfl rfl rfl ?_
        refine ev_iconst (pc' := 629) rfl rfl (v := (2 : Int32)) (by decide) ?_
        refine ev_iadd (pc' := 630) rfl rfl ?_
        obtain ⟨hi, h⟩ := gdB h
        refine ev_sald (pc' := 631) rfl rfl (inR_vp hi) ?_
        refine ev_aload_n (pc' := 632) rfl rfl rfl ?_
        refine ev_iload_n (pc' := 633) rfl rfl rfl ?_
        refine ev_iconst (pc' := 634) rfl rfl (v := (3 : Int32)) (by decide) ?_
        refine ev_iadd (pc' := 635) rfl rfl ?_
        obtain ⟨hi, h⟩ := gdB h
        refine ev_sald (pc' := 636) rfl rfl (inR_vp hi) ?_
        obtain ⟨q20, hq20, h⟩ := Option.bind_eq_some_iff.mp h
        refine ev_V4I (pc' := 639) rfl (by decide) rfl mth_84 ⟨Nat.le_of_ble_eq_true rfl, rfl⟩ capL (d_X6_may hq20) ?_
        refine ev_pop (pc' := 640) rfl rfl rfl ?_
        refine ev_aload_n (pc' := 641) rfl rfl rfl ?_
        refine ev_aload_n (pc' := 642) rfl rfl rfl ?_
        refine ev_iload_n (pc' := 643) rfl rfl rfl ?_
        refine ev_iconst (pc' := 644) rfl rfl (v := (1 : Int32)) (by decide) ?_
        refine ev_iadd (pc' := 645) rfl rfl ?_
        obtain ⟨hi, h⟩ := gdB h
        refine ev_sald (pc' := 646) rfl rfl (inR_vp hi) ?_
        refine ev_aload_n (pc' := 647) rfl rfl rfl ?_
        refine ev_iload_n (pc' := 648) rfl rfl rfl ?_
        refine ev_iconst (pc' := 649) rfl rfl (v := (2 : Int32)) (by decide) ?_
        refine ev_iadd (pc' := 650) rfl rfl ?_
        obtain ⟨hi, h⟩ := gdB h
        refine ev_sald (pc' := 651) rfl rfl (inR_vp hi) ?_
        refine ev_aload_n (pc' := 652) rfl rfl rfl ?_
        refine ev_iload_n (pc' := 653) rfl rfl rfl ?_
        refine ev_iconst (pc' := 654) rfl rfl (v := (3 : Int32)) (by decide) ?_
        refine ev_iadd (pc' := 655) rfl rfl ?_
        obtain ⟨hi, h⟩ := gdB h
        refine ev_sald (pc' := 656) rfl rfl (inR_vp hi) ?_
        obtain ⟨q21, hq21, h⟩ := Option.bind_eq_some_iff.mp h
        refine ev_V4I (pc' := 659) rfl (by decide) rfl mth_152 ⟨Nat.le_of_ble_eq_true rfl, rfl⟩ capL (d_X7_may hq21) ?_
        refine ev_pop (pc' := 660) rfl rfl rfl ?_
        refine ev_goto (pc' := 1233) rfl ?_
        exact e_L_law_1233 (hr18 := hr18) hΨ h
      | 11, hn =>
        obtain rfl := Option.some.inj hn
        have e9 : ((xs v3.toNatClampNeg) &&& (31 : Int32)) = (11 : Int32) := Int32.toInt_inj.mp (hv.trans (by decide))
        have h := (if_neg (show ¬ ((xs v3.toNatClampNeg) &&& (31 : Int32)) = (0 : Int32) from by rw [e9]; decide)).symm.trans h
        have h := (if_neg (show ¬ ((xs v3.toNatClampNeg) &&& (31 : Int32)) = (1 : Int32) from by rw [e9]; decide)).symm.trans h
        have h := (if_neg (show ¬ ((xs v3.toNatClampNeg) &&& (31 : Int32)) = (2 : Int32) from by rw [e9]; decide)).symm.trans h
        have h := (if_neg (show ¬ ((xs v3.toNatClampNeg) &&& (31 : Int32)) = (3 : Int32) from by rw [e9]; decide)).symm.trans h
        have h := (if_neg (show ¬ ((xs v3.toNatClampNeg) &&& (31 : Int32)) = (4 : Int32) from by rw [e9]; decide)).symm.trans h
        have h := (if_neg (show ¬ ((xs v3.toNatClampNeg) &&& (31 : Int32)) = (5 : Int32) from by rw [e9]; decide)).symm.trans h
        have h := (if_neg (show ¬ ((xs v3.toNatClampNeg) &&& (31 : Int32)) = (6 : Int32) from by rw [e9]; decide)).symm.trans h
        have h := (if_neg (show ¬ ((xs v3.toNatClampNeg) &&& (31 : Int32)) = (7 : Int32) from by rw [e9]; decide)).symm.trans h
        have h := (if_neg (show ¬ ((xs v3.toNatClampNeg) &&& (31 : Int32)) = (8 : Int32) from by rw [e9]; decide)).symm.trans h
        have h := (if_neg (show ¬ ((xs v3.toNatClampNeg) &&& (31 : Int32)) = (9 : Int32) from by rw [e9]; decide)).symm.trans h
        have h := (if_neg (show ¬ ((xs v3.toNatClampNeg) &&& (31 : Int32)) = (10 : Int32) from by rw [e9]; decide)).symm.trans h
        have h := (if_pos e9).symm.trans h
        refine ev_aload_n (pc' := 664) rfl rfl rfl ?_
        refine ev_aload_n (pc' := 665) rfl rfl rfl ?_
        refine ev_iload_n (pc' := 666) rfl rfl rfl ?_
        refine ev_iconst (pc' := 667) rfl rfl (v := (1 : Int32)) (by decide) ?_
        refine ev_iadd (pc' := 668) rfl rfl ?_
        obtain ⟨hi, h⟩ := gdB h
        refine ev_sald (pc' := 669) rfl rfl (inR_vp hi) ?_
        refine ev_aload_n (pc' := 670) rfl rfl rfl ?_
        refine ev_iload_n (pc' := 671) rfl rfl rfl ?_
        refine ev_iconst (pc' := 672) rfl rfl (v := (2 : Int32)) (by decide) ?_
        refine ev_iadd (pc' := 673) rfl rfl ?_
        obtain ⟨hi, h⟩ := gdB h
        refine ev_sald (pc' := 674) rfl rfl (inR_vp hi) ?_
        refine ev_aload_n (pc' := 675) rfl rfl rfl ?_
        refine ev_iload_n (pc' := 676) rfl rfl rfl ?_
        refine ev_iconst (pc' := 677) rfl rfl (v := (3 : Int32)) (by decide) ?_
        refine ev_iadd (pc' := 678) rfl rfl ?_
        obtain ⟨hi, h⟩ := gdB h
        refine ev_sald (pc' := 679) rfl rfl (inR_vp hi) ?_
        obtain ⟨q22, hq22, h⟩ := Option.bind_eq_some_iff.mp h
        refine ev_V4I (pc' := 682) rfl (by decide) rfl mth_85 ⟨Nat.le_of_ble_eq_true rfl, rfl⟩ capL (d_X6_lay hq22) ?_
        refine ev_pop (pc' := 683) rfl rfl rfl ?_
        refine ev_aload_n (pc' := 684) rfl rfl rfl ?_
        refine ev_aload_n (pc' := 685) rfl rfl rfl ?_
        refine ev_iload_n (pc' := 686) rfl rfl rfl ?_
        refine ev_iconst (pc' := 687) rfl rfl (v := (1 : Int32)) (by decide) ?_
        refine ev_iadd (pc' := 688) rfl rfl ?_
        obtain ⟨hi, h⟩ := gdB h
        refine ev_sald (pc' := 689) rfl rfl (inR_vp hi) ?_
        refine ev_aload_n (pc' := 690) rfl rfl rfl ?_
        refine ev_iload_n (pc' := 691) rfl rfl rfl ?_
        refine ev_iconst (pc' := 692) rfl rfl (v := (2 : Int32)) (by decide) ?_
        refine ev_iadd (pc' := 693) rfl rfl ?_
        obtain ⟨hi, h⟩ := gdB h
        refine ev_sald (pc' := 694) rfl rfl (inR_vp hi) ?_
        refine ev_aload_n (pc' := 695) rfl rfl rfl ?_
        refine ev_iload_n (pc' := 696) rfl rfl rfl ?_
        refine ev_iconst (pc' := 697) rfl rfl (v := (3 : Int32)) (by decide) ?_
        refine ev_iadd (pc' := 698) rfl rfl ?_
        obtain ⟨hi, h⟩ := gdB h
        refine ev_sald (pc' := 699) rfl rfl (inR_vp hi) ?_
        obtain ⟨q23, hq23, h⟩ := Option.bind_eq_some_iff.mp h
        refine ev_V4I (pc' := 702) rfl (by decide) rfl mth_154 ⟨Nat.le_of_ble_eq_true rfl, rfl⟩ capL (d_X7_lay hq23) ?_
        refine ev_pop (pc' := 703) rfl rfl rfl ?_
        refine ev_goto (pc' := 1233) rfl ?_
        exact e_L_law_1233 (hr18 := hr18) hΨ h
      | 12, hn =>
        obtain rfl := Option.some.inj hn
        have e9 : ((xs v3.toNatClampNeg) &&& (31 : Int32)) = (12 : Int32) := Int32.toInt_inj.mp (hv.trans (by decide))
        have h := (if_neg (show ¬ ((xs v3.toNatClampNeg) &&& (31 : Int32)) = (0 : Int32) from by rw [e9]; decide)).symm.trans h
        have h := (if_neg (show ¬ ((xs v3.toNatClampNeg) &&& (31 : Int32)) = (1 : Int32) from by rw [e9]; decide)).symm.trans h
        have h := (if_neg (show ¬ ((xs v3.toNatClampNeg) &&& (31 : Int32)) = (2 : Int32) from by rw [e9]; decide)).symm.trans h
        have h := (if_neg (show ¬ ((xs v3.toNatClampNeg) &&& (31 : Int32)) = (3 : Int32) from by rw [e9]; decide)).symm.trans h
        have h := (if_neg (show ¬ ((xs v3.toNatClampNeg) &&& (31 : Int32)) = (4 : Int32) from by rw [e9]; decide)).symm.trans h
        have h := (if_neg (show ¬ ((xs v3.toNatClampNeg) &&& (31 : Int32)) = (5 : Int32) from by rw [e9]; decide)).symm.trans h
        have h := (if_neg (show ¬ ((xs v3.toNatClampNeg) &&& (31 : Int32)) = (6 : Int32) from by rw [e9]; decide)).symm.trans h
        have h := (if_neg (show ¬ ((xs v3.toNatClampNeg) &&& (31 : Int32)) = (7 : Int32) from by rw [e9]; decide)).symm.trans h
        have h := (if_neg (show ¬ ((xs v3.toNatClampNeg) &&& (31 : Int32)) = (8 : Int32) from by rw [e9]; decide)).symm.trans h
        have h := (if_neg (show ¬ ((xs v3.toNatClampNeg) &&& (31 : Int32)) = (9 : Int32) from by rw [e9]; decide)).symm.trans h
        have h := (if_neg (show ¬ ((xs v3.toNatClampNeg) &&& (31 : Int32)) = (10 : Int32) from by rw [e9]; decide)).symm.trans h
        have h := (if_neg (show ¬ ((xs v3.toNatClampNeg) &&& (31 : Int32)) = (11 : Int32) from by rw [e9]; decide)).symm.trans h
        have h := (if_pos e9).symm.trans h
        refine ev_aload_n (pc' := 707) rfl rfl rfl ?_
        refine ev_aload_n (pc' := 708) rfl rfl rfl ?_
        refine ev_iload_n (pc' := 709) rfl rfl rfl ?_
        refine ev_iconst (pc' := 710) rfl rfl (v := (1 : Int32)) (by decide) ?_
        refine ev_iadd (pc' := 711) rfl rfl ?_
        obtain ⟨hi, h⟩ := gdB h
        refine ev_sald (pc' := 712) rfl rfl (inR_vp hi) ?_
        obtain ⟨q24, hq24, h⟩ := Option.bind_eq_some_iff.mp h
        refine ev_V2I (pc' := 715) rfl (by decide) rfl mth_86 ⟨Nat.le_of_ble_eq_true rfl, rfl⟩ capL (d_X6_off hq24) ?_
        refine ev_pop (pc' := 716) rfl rfl rfl ?_
        refine ev_aload_n (pc' := 717) rfl rfl rfl ?_
        refine ev_aload_n (pc' := 718) rfl rfl rfl ?_
        refine ev_iload_n (pc' := 719) rfl rfl rfl ?_
        refine ev_iconst (pc' := 720) rfl rfl (v := (1 : Int32)) (by decide) ?_
        refine ev_iadd (pc' := 721) rfl rfl ?_
        obtain ⟨hi, h⟩ := gdB h
        refine ev_sald (pc' := 722) rfl rfl (inR_vp hi) ?_
        obtain ⟨q25, hq25, h⟩ := Option.bind_eq_some_iff.mp h
        refine ev_V2I (pc' := 725) rfl (by decide) rfl mth_156 ⟨Nat.le_of_ble_eq_true rfl, rfl⟩ capL (d_X7_off hq25) ?_
        refine ev_pop (pc' := 726) rfl rfl rfl ?_
        refine ev_goto (pc' := 1233) rfl ?_
        exact e_L_law_1233 (hr18 := hr18) hΨ h
      | 13, hn =>
        obtain rfl := Option.some.inj hn
        have e9 : ((xs v3.toNatClampNeg) &&& (31 : Int32)) = (13 : Int32) := Int32.toInt_inj.mp (hv.trans (by decide))
        have h := (if_neg (show ¬ ((xs v3.toNatClampNeg) &&& (31 : Int32)) = (0 : Int32) from by rw [e9]; decide)).symm.trans h
        have h := (if_neg (show ¬ ((xs v3.toNatClampNeg) &&& (31 : Int32)) = (1 : Int32) from by rw [e9]; decide)).symm.trans h
        have h := (if_neg (show ¬ ((xs v3.toNatClampNeg) &&& (31 : Int32)) = (2 : Int32) from by rw [e9]; decide)).symm.trans h
        have h := (if_neg (show ¬ ((xs v3.toNatClampNeg) &&& (31 : Int32)) = (3 : Int32) from by rw [e9]; decide)).symm.trans h
        have h := (if_neg (show ¬ ((xs v3.toNatClampNeg) &&& (31 : Int32)) = (4 : Int32) from by rw [e9]; decide)).symm.trans h
        have h := (if_neg (show ¬ ((xs v3.toNatClampNeg) &&& (31 : Int32)) = (5 : Int32) from by rw [e9]; decide)).symm.trans h
        have h := (if_neg (show ¬ ((xs v3.toNatClampNeg) &&& (31 : Int32)) = (6 : Int32) from by rw [e9]; decide)).symm.trans h
        have h := (if_neg (show ¬ ((xs v3.toNatClampNeg) &&& (31 : Int32)) = (7 : Int32) from by rw [e9]; decide)).symm.trans h
        have h := (if_neg (show ¬ ((xs v3.toNatClampNeg) &&& (31 : Int32)) = (8 : Int32) from by rw [e9]; decide)).symm.trans h
        have h := (if_neg (show ¬ ((xs v3.toNatClampNeg) &&& (31 : Int32)) = (9 : Int32) from by rw [e9]; decide)).symm.trans h
        have h := (if_neg (show ¬ ((xs v3.toNatClampNeg) &&& (31 : Int32)) = (10 : Int32) from by rw [e9]; decide)).symm.trans h
        have h := (if_neg (show ¬ ((xs v3.toNatClampNeg) &&& (31 : Int32)) = (11 : Int32) from by rw [e9]; decide)).symm.trans h
        have h := (if_neg (show ¬ ((xs v3.toNatClampNeg) &&& (31 : Int32)) = (12 : Int32) from by rw [e9]; decide)).symm.trans h
        have h := (if_pos e9).symm.trans h
        refine ev_aload_n (pc' := 730) rfl rfl rfl ?_
        refine ev_aload_n (pc' := 731) rfl rfl rfl ?_
        refine ev_iload_n (pc' := 732) rfl rfl rfl ?_
        refine ev_iconst (pc' := 733) rfl rfl (v := (1 : Int32)) (by decide) ?_
        refine ev_iadd (pc' := 734) rfl rfl ?_
        obtain ⟨hi, h⟩ := gdB h
        refine ev_sald (pc' := 735) rfl rfl (inR_vp hi) ?_
        refine ev_aload_n (pc' := 736) rfl rfl rfl ?_
        refine ev_iload_n (pc' := 737) rfl rfl rfl ?_
        refine ev_iconst (pc' := 738) rfl rfl (v := (2 : Int32)) (by decide) ?_
        refine ev_iadd (pc' := 739) rfl rfl ?_
        obtain ⟨hi, h⟩ := gdB h
        refine ev_sald (pc' := 740) rfl rfl (inR_vp hi) ?_
        obtain ⟨q26, hq26, h⟩ := Option.bind_eq_some_iff.mp h
        refine ev_V3I (pc' := 743) rfl (by decide) rfl mth_87 ⟨Nat.le_of_ble_eq_true rfl, rfl⟩ capL (d_X6_best hq26) ?_
        refine ev_pop (pc' := 744) rfl rfl rfl ?_
        refine ev_aload_n (pc' := 745) rfl rfl rfl ?_
        refine ev_aload_n (pc' := 746) rfl rfl rfl ?_
        refine ev_iload_n (pc' := 747) rfl rfl rfl ?_
        refine ev_iconst (pc' := 748) rfl rfl (v := (1 : Int32)) (by decide) ?_
        refine ev_iadd (pc' := 749) rfl rfl ?_
        obtain ⟨hi, h⟩ := gdB h
        refine ev_sald (pc' := 750) rfl rfl (inR_vp hi) ?_
        refine ev_aload_n (pc' := 751) rfl rfl rfl ?_
        refine ev_iload_n (pc' := 752) rfl rfl rfl ?_
        refine ev_iconst (pc' := 753) rfl rfl (v := (2 : Int32)) (by decide) ?_
        refine ev_iadd (pc' := 754) rfl rfl ?_
        obtain ⟨hi, h⟩ := gdB h
        refine ev_sald (pc' := 755) rfl rfl (inR_vp hi) ?_
        obtain ⟨q27, hq27, h⟩ := Option.bind_eq_some_iff.mp h
        refine ev_V3I (pc' := 758) rfl (by decide) rfl mth_160 ⟨Nat.le_of_ble_eq_true rfl, rfl⟩ capL (d_X7_best hq27) ?_
        refine ev_pop (pc' := 759) rfl rfl rfl ?_
        refine ev_goto (pc' := 1233) rfl ?_
        exact e_L_law_1233 (hr18 := hr18) hΨ h
      | 14, hn =>
        obtain rfl := Option.some.inj hn
        have e9 : ((xs v3.toNatClampNeg) &&& (31 : Int32)) = (14 : Int32) := Int32.toInt_inj.mp (hv.trans (by decide))
        have h := (if_neg (show ¬ ((xs v3.toNatClampNeg) &&& (31 : Int32)) = (0 : Int32) from by rw [e9]; decide)).symm.trans h
        have h := (if_neg (show ¬ ((xs v3.toNatClampNeg) &&& (31 : Int32)) = (1 : Int32) from by rw [e9]; decide)).symm.trans h
        have h := (if_neg (show ¬ ((xs v3.toNatClampNeg) &&& (31 : Int32)) = (2 : Int32) from by rw [e9]; decide)).symm.trans h
        have h := (if_neg (show ¬ ((xs v3.toNatClampNeg) &&& (31 : Int32)) = (3 : Int32) from by rw [e9]; decide)).symm.trans h
        have h := (if_neg (show ¬ ((xs v3.toNatClampNeg) &&& (31 : Int32)) = (4 : Int32) from by rw [e9]; decide)).symm.trans h
        have h := (if_neg (show ¬ ((xs v3.toNatClampNeg) &&& (31 : Int32)) = (5 : Int32) from by rw [e9]; decide)).symm.trans h
        have h := (if_neg (show ¬ ((xs v3.toNatClampNeg) &&& (31 : Int32)) = (6 : Int32) from by rw [e9]; decide)).symm.trans h
        have h := (if_neg (show ¬ ((xs v3.toNatClampNeg) &&& (31 : Int32)) = (7 : Int32) from by rw [e9]; decide)).symm.trans h
        have h := (if_neg (show ¬ ((xs v3.toNatClampNeg) &&& (31 : Int32)) = (8 : Int32) from by rw [e9]; decide)).symm.trans h
        have h := (if_neg (show ¬ ((xs v3.toNatClampNeg) &&& (31 : Int32)) = (9 : Int32) from by rw [e9]; decide)).symm.trans h
        have h := (if_neg (show ¬ ((xs v3.toNatClampNeg) &&& (31 : Int32)) = (10 : Int32) from by rw [e9]; decide)).symm.trans h
        have h := (if_neg (show ¬ ((xs v3.toNatClampNeg) &&& (31 : Int32)) = (11 : Int32) from by rw [e9]; decide)).symm.trans h
        have h := (if_neg (show ¬ ((xs v3.toNatClampNeg) &&& (31 : Int32)) = (12 : Int32) from by rw [e9]; decide)).symm.trans h
        have h := (if_neg (show ¬ ((xs v3.toNatClampNeg) &&& (31 : Int32)) = (13 : Int32) from by rw [e9]; decide)).symm.trans h
        have h := (if_pos e9).symm.trans h
        refine ev_aload_n (pc' := 763) rfl rfl rfl ?_
        refine ev_aload_n (pc' := 764) rfl rfl rfl ?_
        refine ev_iload_n (pc' := 765) rfl rfl rfl ?_
        refine ev_iconst (pc' := 766) rfl rfl (v := (1 : Int32)) (by decide) ?_
        refine ev_iadd (pc' := 767) rfl rfl ?_
        obtain ⟨hi, h⟩ := gdB h
        refine ev_sald (pc' := 768) rfl rfl (inR_vp hi) ?_
        refine ev_aload_n (pc' := 769) rfl rfl rfl ?_
        refine ev_iload_n (pc' := 770) rfl rfl rfl ?_
        refine ev_iconst (pc' := 771) rfl rfl (v := (2 : Int32)) (by decide) ?_
        refine ev_iadd (pc' := 772) rfl rfl ?_
        obtain ⟨hi, h⟩ := gdB h
        refine ev_sald (pc' := 773) rfl rfl (inR_vp hi) ?_
        obtain ⟨q28, hq28, h⟩ := Option.bind_eq_some_iff.mp h
        refine ev_V3I (pc' := 776) rfl (by decide) rfl mth_88 ⟨Nat.le_of_ble_eq_true rfl, rfl⟩ capL (d_X6_job hq28) ?_
        refine ev_pop (pc' := 777) rfl rfl rfl ?_
        refine ev_aload_n (pc' := 778) rfl rfl rfl ?_
        refine ev_aload_n (pc' := 779) rfl rfl rfl ?_
        refine ev_iload_n (pc' := 780) rfl rfl rfl ?_
        refine ev_iconst (pc' := 781) rfl rfl (v := (1 : Int32)) (by decide) ?_
        refine ev_iadd (pc' := 782) rfl rfl ?_
        obtain ⟨hi, h⟩ := gdB h
        refine ev_sald (pc' := 783) rfl rfl (inR_vp hi) ?_
        refine ev_aload_n (pc' := 784) rfl rfl rfl ?_
        refine ev_iload_n (pc' := 785) rfl rfl rfl ?_
        refine ev_iconst (pc' := 786) rfl rfl (v := (2 : Int32)) (by decide) ?_
        refine ev_iadd (pc' := 787) rfl rfl ?_
        obtain ⟨hi, h⟩ := gdB h
        refine ev_sald (pc' := 788) rfl rfl (inR_vp hi) ?_
        obtain ⟨q29, hq29, h⟩ := Option.bind_eq_some_iff.mp h
        refine ev_V3I (pc' := 791) rfl (by decide) rfl mth_161 ⟨Nat.le_of_ble_eq_true rfl, rfl⟩ capL (d_X7_job hq29) ?_
        refine ev_pop (pc' := 792) rfl rfl rfl ?_
        refine ev_goto (pc' := 1233) rfl ?_
        exact e_L_law_1233 (hr18 := hr18) hΨ h
      | 15, hn =>
        obtain rfl := Option.some.inj hn
        have e9 : ((xs v3.toNatClampNeg) &&& (31 : Int32)) = (15 : Int32) := Int32.toInt_inj.mp (hv.trans (by decide))
        have h := (if_neg (show ¬ ((xs v3.toNatClampNeg) &&& (31 : Int32)) = (0 : Int32) from by rw [e9]; decide)).symm.trans h
        have h := (if_neg (show ¬ ((xs v3.toNatClampNeg) &&& (31 : Int32)) = (1 : Int32) from by rw [e9]; decide)).symm.trans h
        have h := (if_neg (show ¬ ((xs v3.toNatClampNeg) &&& (31 : Int32)) = (2 : Int32) from by rw [e9]; decide)).symm.trans h
        have h := (if_neg (show ¬ ((xs v3.toNatClampNeg) &&& (31 : Int32)) = (3 : Int32) from by rw [e9]; decide)).symm.trans h
        have h := (if_neg (show ¬ ((xs v3.toNatClampNeg) &&& (31 : Int32)) = (4 : Int32) from by rw [e9]; decide)).symm.trans h
        have h := (if_neg (show ¬ ((xs v3.toNatClampNeg) &&& (31 : Int32)) = (5 : Int32) from by rw [e9]; decide)).symm.trans h
        have h := (if_neg (show ¬ ((xs v3.toNatClampNeg) &&& (31 : Int32)) = (6 : Int32) from by rw [e9]; decide)).symm.trans h
        have h := (if_neg (show ¬ ((xs v3.toNatClampNeg) &&& (31 : Int32)) = (7 : Int32) from by rw [e9]; decide)).symm.trans h
        have h := (if_neg (show ¬ ((xs v3.toNatClampNeg) &&& (31 : Int32)) = (8 : Int32) from by rw [e9]; decide)).symm.trans h
        have h := (if_neg (show ¬ ((xs v3.toNatClampNeg) &&& (31 : Int32)) = (9 : Int32) from by rw [e9]; decide)).symm.trans h
        have h := (if_neg (show ¬ ((xs v3.toNatClampNeg) &&& (31 : Int32)) = (10 : Int32) from by rw [e9]; decide)).symm.trans h
        have h := (if_neg (show ¬ ((xs v3.toNatClampNeg) &&& (31 : Int32)) = (11 : Int32) from by rw [e9]; decide)).symm.trans h
        have h := (if_neg (show ¬ ((xs v3.toNatClampNeg) &&& (31 : Int32)) = (12 : Int32) from by rw [e9]; decide)).symm.trans h
        have h := (if_neg (show ¬ ((xs v3.toNatClampNeg) &&& (31 : Int32)) = (13 : Int32) from by rw [e9]; decide)).symm.trans h
        have h := (if_neg (show ¬ ((xs v3.toNatClampNeg) &&& (31 : Int32)) = (14 : Int32) from by rw [e9]; decide)).symm.trans h
        have h := (if_pos e9).symm.trans h
        refine ev_aload_n (pc' := 796) rfl rfl rfl ?_
        refine ev_aload_n (pc' := 797) rfl rfl rfl ?_
        refine ev_iload_n (pc' := 798) rfl rfl rfl ?_
        refine ev_iconst (pc' := 799) rfl rfl (v := (1 : Int32)) (by decide) ?_
        refine ev_iadd (pc' := 800) rfl rfl ?_
        obtain ⟨hi, h⟩ := gdB h
        refine ev_sald (pc' := 801) rfl rfl (inR_vp hi) ?_
        refine ev_aload_n (pc' := 802) rfl rfl rfl ?_
        refine ev_iload_n (pc' := 803) rfl rfl rfl ?_
        refine ev_iconst (pc' := 804) rfl rfl (v := (2 : Int32)) (by decide) ?_
        refine ev_iadd (pc' := 805) rfl rfl ?_
        obtain ⟨hi, h⟩ := gdB h
        refine ev_sald (pc' := 806) rfl rfl (inR_vp hi) ?_
        obtain ⟨q30, hq30, h⟩ := Option.bind_eq_some_iff.mp h
        refine ev_V3I (pc' := 809) rfl (by decide) rfl mth_89 ⟨Nat.le_of_ble_eq_true rfl, rfl⟩ capL (d_X6_order hq30) ?_
        refine ev_pop (pc' := 810) rfl rfl rfl ?_
        refine ev_aload_n (pc' := 811) rfl rfl rfl ?_
        refine ev_aload_n (pc' := 812) rfl rfl rfl ?_
        refine ev_iload_n (pc' := 813) rfl rfl rfl ?_
        refine ev_iconst (pc' := 814) rfl rfl (v := (1 : Int32)) (by decide) ?_
        refine ev_iadd (pc' := 815) rfl rfl ?_
        obtain ⟨hi, h⟩ := gdB h
        refine ev_sald (pc' := 816) rfl rfl (inR_vp hi) ?_
        refine ev_aload_n (pc' := 817) rfl rfl rfl ?_
        refine ev_iload_n (pc' := 818) rfl rfl rfl ?_
        refine ev_iconst (pc' := 819) rfl rfl (v := (2 : Int32)) (by decide) ?_
        refine ev_iadd (pc' := 820) rfl rfl ?_
        obtain ⟨hi, h⟩ := gdB h
        refine ev_sald (pc' := 821) rfl rfl (inR_vp hi) ?_
        obtain ⟨q31, hq31, h⟩ := Option.bind_eq_some_iff.mp h
        refine ev_V3I (pc' := 824) rfl (by decide) rfl mth_170 ⟨Nat.le_of_ble_eq_true rfl, rfl⟩ capL (d_X7_order hq31) ?_
        refine ev_pop (pc' := 825) rfl rfl rfl ?_
        refine ev_goto (pc' := 1233) rfl ?_
        exact e_L_law_1233 (hr18 := hr18) hΨ h
      | 16, hn =>
        obtain rfl := Option.some.inj hn
        have e9 : ((xs v3.toNatClampNeg) &&& (31 : Int32)) = (16 : Int32) := Int32.toInt_inj.mp (hv.trans (by decide))
        have h := (if_neg (show ¬ ((xs v3.toNatClampNeg) &&& (31 : Int32)) = (0 : Int32) from by rw [e9]; decide)).symm.trans h
        have h := (if_neg (show ¬ ((xs v3.toNatClampNeg) &&& (31 : Int32)) = (1 : Int32) from by rw [e9]; decide)).symm.trans h
        have h := (if_neg (show ¬ ((xs v3.toNatClampNeg) &&& (31 : Int32)) = (2 : Int32) from by rw [e9]; decide)).symm.trans h
        have h := (if_neg (show ¬ ((xs v3.toNatClampNeg) &&& (31 : Int32)) = (3 : Int32) from by rw [e9]; decide)).symm.trans h
        have h := (if_neg (show ¬ ((xs v3.toNatClampNeg) &&& (31 : Int32)) = (4 : Int32) from by rw [e9]; decide)).symm.trans h
        have h := (if_neg (show ¬ ((xs v3.toNatClampNeg) &&& (31 : Int32)) = (5 : Int32) from by rw [e9]; decide)).symm.trans h
        have h := (if_neg (show ¬ ((xs v3.toNatClampNeg) &&& (31 : Int32)) = (6 : Int32) from by rw [e9]; decide)).symm.trans h
        have h := (if_neg (show ¬ ((xs v3.toNatClampNeg) &&& (31 : Int32)) = (7 : Int32) from by rw [e9]; decide)).symm.trans h
        have h := (if_neg (show ¬ ((xs v3.toNatClampNeg) &&& (31 : Int32)) = (8 : Int32) from by rw [e9]; decide)).symm.trans h
        have h := (if_neg (show ¬ ((xs v3.toNatClampNeg) &&& (31 : Int32)) = (9 : Int32) from by rw [e9]; decide)).symm.trans h
        have h := (if_neg (show ¬ ((xs v3.toNatClampNeg) &&& (31 : Int32)) = (10 : Int32) from by rw [e9]; decide)).symm.trans h
        have h := (if_neg (show ¬ ((xs v3.toNatClampNeg) &&& (31 : Int32)) = (11 : Int32) from by rw [e9]; decide)).symm.trans h
        have h := (if_neg (show ¬ ((xs v3.toNatClampNeg) &&& (31 : Int32)) = (12 : Int32) from by rw [e9]; decide)).symm.trans h
        have h := (if_neg (show ¬ ((xs v3.toNatClampNeg) &&& (31 : Int32)) = (13 : Int32) from by rw [e9]; decide)).symm.trans h
        have h := (if_neg (show ¬ ((xs v3.toNatClampNeg) &&& (31 : Int32)) = (14 : Int32) from by rw [e9]; decide)).symm.trans h
        have h := (if_neg (show ¬ ((xs v3.toNatClampNeg) &&& (31 : Int32)) = (15 : Int32) from by rw [e9]; decide)).symm.trans h
        have h := (if_pos e9).symm.trans h
        refine ev_aload_n (pc' := 829) rfl rfl rfl ?_
        refine ev_aload_n (pc' := 830) rfl rfl rfl ?_
        refine ev_iload_n (pc' := 831) rfl rfl rfl ?_
        refine ev_iconst (pc' := 832) rfl rfl (v := (1 : Int32)) (by decide) ?_
        refine ev_iadd (pc' := 833) rfl rfl ?_
        obtain ⟨hi, h⟩ := gdB h
        refine ev_sald (pc' := 834) rfl rfl (inR_vp hi) ?_
        obtain ⟨q32, hq32, h⟩ := Option.bind_eq_some_iff.mp h
        refine ev_V2I (pc' := 837) rfl (by decide) rfl mth_90 ⟨Nat.le_of_ble_eq_true rfl, rfl⟩ capL (d_X6_layOrder hq32) ?_
        refine ev_pop (pc' := 838) rfl rfl rfl ?_
        refine ev_aload_n (pc' := 839) rfl rfl rfl ?_
        refine ev_aload_n (pc' := 840) rfl rfl rfl ?_
        refine ev_iload_n (pc' := 841) rfl rfl rfl ?_
        refine ev_iconst (pc' := 842) rfl rfl (v := (1 : Int32)) (by decide) ?_
        refine ev_iadd (pc' := 843) rfl rfl ?_
        obtain ⟨hi, h⟩ := gdB h
        refine ev_sald (pc' := 844) rfl rfl (inR_vp hi) ?_
        obtain ⟨q33, hq33, h⟩ := Option.bind_eq_some_iff.mp h
        refine ev_V2I (pc' := 847) rfl (by decide) rfl mth_171 ⟨Nat.le_of_ble_eq_true rfl, rfl⟩ capL (d_X7_layOrder hq33) ?_
        refine ev_pop (pc' := 848) rfl rfl rfl ?_
        refine ev_goto (pc' := 1233) rfl ?_
        exact e_L_law_1233 (hr18 := hr18) hΨ h
      | 17, hn =>
        obtain rfl := Option.some.inj hn
        have e9 : ((xs v3.toNatClampNeg) &&& (31 : Int32)) = (17 : Int32) := Int32.toInt_inj.mp (hv.trans (by decide))
        have h := (if_neg (show ¬ ((xs v3.toNatClampNeg) &&& (31 : Int32)) = (0 : Int32) from by rw [e9]; decide)).symm.trans h
        have h := (if_neg (show ¬ ((xs v3.toNatClampNeg) &&& (31 : Int32)) = (1 : Int32) from by rw [e9]; decide)).symm.trans h
        have h := (if_neg (show ¬ ((xs v3.toNatClampNeg) &&& (31 : Int32)) = (2 : Int32) from by rw [e9]; decide)).symm.trans h
        have h := (if_neg (show ¬ ((xs v3.toNatClampNeg) &&& (31 : Int32)) = (3 : Int32) from by rw [e9]; decide)).symm.trans h
        have h := (if_neg (show ¬ ((xs v3.toNatClampNeg) &&& (31 : Int32)) = (4 : Int32) from by rw [e9]; decide)).symm.trans h
        have h := (if_neg (show ¬ ((xs v3.toNatClampNeg) &&& (31 : Int32)) = (5 : Int32) from by rw [e9]; decide)).symm.trans h
        have h := (if_neg (show ¬ ((xs v3.toNatClampNeg) &&& (31 : Int32)) = (6 : Int32) from by rw [e9]; decide)).symm.trans h
        have h := (if_neg (show ¬ ((xs v3.toNatClampNeg) &&& (31 : Int32)) = (7 : Int32) from by rw [e9]; decide)).symm.trans h
        have h := (if_neg (show ¬ ((xs v3.toNatClampNeg) &&& (31 : Int32)) = (8 : Int32) from by rw [e9]; decide)).symm.trans h
        have h := (if_neg (show ¬ ((xs v3.toNatClampNeg) &&& (31 : Int32)) = (9 : Int32) from by rw [e9]; decide)).symm.trans h
        have h := (if_neg (show ¬ ((xs v3.toNatClampNeg) &&& (31 : Int32)) = (10 : Int32) from by rw [e9]; decide)).symm.trans h
        have h := (if_neg (show ¬ ((xs v3.toNatClampNeg) &&& (31 : Int32)) = (11 : Int32) from by rw [e9]; decide)).symm.trans h
        have h := (if_neg (show ¬ ((xs v3.toNatClampNeg) &&& (31 : Int32)) = (12 : Int32) from by rw [e9]; decide)).symm.trans h
        have h := (if_neg (show ¬ ((xs v3.toNatClampNeg) &&& (31 : Int32)) = (13 : Int32) from by rw [e9]; decide)).symm.trans h
        have h := (if_neg (show ¬ ((xs v3.toNatClampNeg) &&& (31 : Int32)) = (14 : Int32) from by rw [e9]; decide)).symm.trans h
        have h := (if_neg (show ¬ ((xs v3.toNatClampNeg) &&& (31 : Int32)) = (15 : Int32) from by rw [e9]; decide)).symm.trans h
        have h := (if_neg (show ¬ ((xs v3.toNatClampNeg) &&& (31 : Int32)) = (16 : Int32) from by rw [e9]; decide)).symm.trans h
        have h := (if_pos e9).symm.trans h
        refine ev_aload_n (pc' := 852) rfl rfl rfl ?_
        refine ev_aload_n (pc' := 853) rfl rfl rfl ?_
        refine ev_iload_n (pc' := 854) rfl rfl rfl ?_
        refine ev_iconst (pc' := 855) rfl rfl (v := (1 : Int32)) (by decide) ?_
        refine ev_iadd (pc' := 856) rfl rfl ?_
        obtain ⟨hi, h⟩ := gdB h
        refine ev_sald (pc' := 857) rfl rfl (inR_vp hi) ?_
        refine ev_aload_n (pc' := 858) rfl rfl rfl ?_
        refine ev_iload_n (pc' := 859) rfl rfl rfl ?_
        refine ev_iconst (pc' := 860) rfl rfl (v := (2 : Int32)) (by decide) ?_
        refine ev_iadd (pc' := 861) rfl rfl ?_
        obtain ⟨hi, h⟩ := gdB h
        refine ev_sald (pc' := 862) rfl rfl (inR_vp hi) ?_
        obtain ⟨q34, hq34, h⟩ := Option.bind_eq_some_iff.mp h
        refine ev_V3I (pc' := 865) rfl (by decide) rfl mth_91 ⟨Nat.le_of_ble_eq_true rfl, rfl⟩ capL (d_X6_mended hq34) ?_
        refine ev_pop (pc' := 866) rfl rfl rfl ?_
        refine ev_aload_n (pc' := 867) rfl rfl rfl ?_
        refine ev_aload_n (pc' := 868) rfl rfl rfl ?_
        refine ev_iload_n (pc' := 869) rfl rfl rfl ?_
        refine ev_iconst (pc' := 870) rfl rfl (v := (1 : Int32)) (by decide) ?_
        refine ev_iadd (pc' := 871) rfl rfl ?_
        obtain ⟨hi, h⟩ := gdB h
        refine ev_sald (pc' := 872) rfl rfl (inR_vp hi) ?_
        refine ev_aload_n (pc' := 873) rfl rfl rfl ?_
        refine ev_iload_n (pc' := 874) rfl rfl rfl ?_
        refine ev_iconst (pc' := 875) rfl rfl (v := (2 : Int32)) (by decide) ?_
        refine ev_iadd (pc' := 876) rfl rfl ?_
        obtain ⟨hi, h⟩ := gdB h
        refine ev_sald (pc' := 877) rfl rfl (inR_vp hi) ?_
        obtain ⟨q35, hq35, h⟩ := Option.bind_eq_some_iff.mp h
        refine ev_V3I (pc' := 880) rfl (by decide) rfl mth_174 ⟨Nat.le_of_ble_eq_true rfl, rfl⟩ capL (d_X7_mended hq35) ?_
        refine ev_pop (pc' := 881) rfl rfl rfl ?_
        refine ev_goto (pc' := 1233) rfl ?_
        exact e_L_law_1233 (hr18 := hr18) hΨ h
      | 18, hn =>
        obtain rfl := Option.some.inj hn
        have e9 : ((xs v3.toNatClampNeg) &&& (31 : Int32)) = (18 : Int32) := Int32.toInt_inj.mp (hv.trans (by decide))
        have h := (if_neg (show ¬ ((xs v3.toNatClampNeg) &&& (31 : Int32)) = (0 : Int32) from by rw [e9]; decide)).symm.trans h
        have h := (if_neg (show ¬ ((xs v3.toNatClampNeg) &&& (31 : Int32)) = (1 : Int32) from by rw [e9]; decide)).symm.trans h
        have h := (if_neg (show ¬ ((xs v3.toNatClampNeg) &&& (31 : Int32)) = (2 : Int32) from by rw [e9]; decide)).symm.trans h
        have h := (if_neg (show ¬ ((xs v3.toNatClampNeg) &&& (31 : Int32)) = (3 : Int32) from by rw [e9]; decide)).symm.trans h
        have h := (if_neg (show ¬ ((xs v3.toNatClampNeg) &&& (31 : Int32)) = (4 : Int32) from by rw [e9]; decide)).symm.trans h
        have h := (if_neg (show ¬ ((xs v3.toNatClampNeg) &&& (31 : Int32)) = (5 : Int32) from by rw [e9]; decide)).symm.trans h
        have h := (if_neg (show ¬ ((xs v3.toNatClampNeg) &&& (31 : Int32)) = (6 : Int32) from by rw [e9]; decide)).symm.trans h
        have h := (if_neg (show ¬ ((xs v3.toNatClampNeg) &&& (31 : Int32)) = (7 : Int32) from by rw [e9]; decide)).symm.trans h
        have h := (if_neg (show ¬ ((xs v3.toNatClampNeg) &&& (31 : Int32)) = (8 : Int32) from by rw [e9]; decide)).symm.trans h
        have h := (if_neg (show ¬ ((xs v3.toNatClampNeg) &&& (31 : Int32)) = (9 : Int32) from by rw [e9]; decide)).symm.trans h
        have h := (if_neg (show ¬ ((xs v3.toNatClampNeg) &&& (31 : Int32)) = (10 : Int32) from by rw [e9]; decide)).symm.trans h
        have h := (if_neg (show ¬ ((xs v3.toNatClampNeg) &&& (31 : Int32)) = (11 : Int32) from by rw [e9]; decide)).symm.trans h
        have h := (if_neg (show ¬ ((xs v3.toNatClampNeg) &&& (31 : Int32)) = (12 : Int32) from by rw [e9]; decide)).symm.trans h
        have h := (if_neg (show ¬ ((xs v3.toNatClampNeg) &&& (31 : Int32)) = (13 : Int32) from by rw [e9]; decide)).symm.trans h
        have h := (if_neg (show ¬ ((xs v3.toNatClampNeg) &&& (31 : Int32)) = (14 : Int32) from by rw [e9]; decide)).symm.trans h
        have h := (if_neg (show ¬ ((xs v3.toNatClampNeg) &&& (31 : Int32)) = (15 : Int32) from by rw [e9]; decide)).symm.trans h
        have h := (if_neg (show ¬ ((xs v3.toNatClampNeg) &&& (31 : Int32)) = (16 : Int32) from by rw [e9]; decide)).symm.trans h
        have h := (if_neg (show ¬ ((xs v3.toNatClampNeg) &&& (31 : Int32)) = (17 : Int32) from by rw [e9]; decide)).symm.trans h
        have h := (if_pos e9).symm.trans h
        refine ev_aload_n (pc' := 885) rfl rfl rfl ?_
        refine ev_aload_n (pc' := 886) rfl rfl rfl ?_
        refine ev_iload_n (pc' := 887) rfl rfl rfl ?_
        refine ev_iconst (pc' := 888) rfl rfl (v := (1 : Int32)) (by decide) ?_
        refine ev_iadd (pc' := 889) rfl rfl ?_
        obtain ⟨hi, h⟩ := gdB h
        refine ev_sald (pc' := 890) rfl rfl (inR_vp hi) ?_
        obtain ⟨q36, hq36, h⟩ := Option.bind_eq_some_iff.mp h
        refine ev_V2I (pc' := 893) rfl (by decide) rfl mth_92 ⟨Nat.le_of_ble_eq_true rfl, rfl⟩ capL (d_X6_layMended hq36) ?_
        refine ev_pop (pc' := 894) rfl rfl rfl ?_
        refine ev_aload_n (pc' := 895) rfl rfl rfl ?_
        refine ev_aload_n (pc' := 896) rfl rfl rfl ?_
        refine ev_iload_n (pc' := 897) rfl rfl rfl ?_
        refine ev_iconst (pc' := 898) rfl rfl (v := (1 : Int32)) (by decide) ?_
        refine ev_iadd (pc' := 899) rfl rfl ?_
        obtain ⟨hi, h⟩ := gdB h
        refine ev_sald (pc' := 900) rfl rfl (inR_vp hi) ?_
        obtain ⟨q37, hq37, h⟩ := Option.bind_eq_some_iff.mp h
        refine ev_V2I (pc' := 903) rfl (by decide) rfl mth_175 ⟨Nat.le_of_ble_eq_true rfl, rfl⟩ capL (d_X7_layMended hq37) ?_
        refine ev_pop (pc' := 904) rfl rfl rfl ?_
        refine ev_goto (pc' := 1233) rfl ?_
        exact e_L_law_1233 (hr18 := hr18) hΨ h
      | 19, hn =>
        obtain rfl := Option.some.inj hn
        have e9 : ((xs v3.toNatClampNeg) &&& (31 : Int32)) = (19 : Int32) := Int32.toInt_inj.mp (hv.trans (by decide))
        have h := (if_neg (show ¬ ((xs v3.toNatClampNeg) &&& (31 : Int32)) = (0 : Int32) from by rw [e9]; decide)).symm.trans h
        have h := (if_neg (show ¬ ((xs v3.toNatClampNeg) &&& (31 : Int32)) = (1 : Int32) from by rw [e9]; decide)).symm.trans h
        have h := (if_neg (show ¬ ((xs v3.toNatClampNeg) &&& (31 : Int32)) = (2 : Int32) from by rw [e9]; decide)).symm.trans h
        have h := (if_neg (show ¬ ((xs v3.toNatClampNeg) &&& (31 : Int32)) = (3 : Int32) from by rw [e9]; decide)).symm.trans h
        have h := (if_neg (show ¬ ((xs v3.toNatClampNeg) &&& (31 : Int32)) = (4 : Int32) from by rw [e9]; decide)).symm.trans h
        have h := (if_neg (show ¬ ((xs v3.toNatClampNeg) &&& (31 : Int32)) = (5 : Int32) from by rw [e9]; decide)).symm.trans h
        have h := (if_neg (show ¬ ((xs v3.toNatClampNeg) &&& (31 : Int32)) = (6 : Int32) from by rw [e9]; decide)).symm.trans h
        have h := (if_neg (show ¬ ((xs v3.toNatClampNeg) &&& (31 : Int32)) = (7 : Int32) from by rw [e9]; decide)).symm.trans h
        have h := (if_neg (show ¬ ((xs v3.toNatClampNeg) &&& (31 : Int32)) = (8 : Int32) from by rw [e9]; decide)).symm.trans h
        have h := (if_neg (show ¬ ((xs v3.toNatClampNeg) &&& (31 : Int32)) = (9 : Int32) from by rw [e9]; decide)).symm.trans h
        have h := (if_neg (show ¬ ((xs v3.toNatClampNeg) &&& (31 : Int32)) = (10 : Int32) from by rw [e9]; decide)).symm.trans h
        have h := (if_neg (show ¬ ((xs v3.toNatClampNeg) &&& (31 : Int32)) = (11 : Int32) from by rw [e9]; decide)).symm.trans h
        have h := (if_neg (show ¬ ((xs v3.toNatClampNeg) &&& (31 : Int32)) = (12 : Int32) from by rw [e9]; decide)).symm.trans h
        have h := (if_neg (show ¬ ((xs v3.toNatClampNeg) &&& (31 : Int32)) = (13 : Int32) from by rw [e9]; decide)).symm.trans h
        have h := (if_neg (show ¬ ((xs v3.toNatClampNeg) &&& (31 : Int32)) = (14 : Int32) from by rw [e9]; decide)).symm.trans h
        have h := (if_neg (show ¬ ((xs v3.toNatClampNeg) &&& (31 : Int32)) = (15 : Int32) from by rw [e9]; decide)).symm.trans h
        have h := (if_neg (show ¬ ((xs v3.toNatClampNeg) &&& (31 : Int32)) = (16 : Int32) from by rw [e9]; decide)).symm.trans h
        have h := (if_neg (show ¬ ((xs v3.toNatClampNeg) &&& (31 : Int32)) = (17 : Int32) from by rw [e9]; decide)).symm.trans h
        have h := (if_neg (show ¬ ((xs v3.toNatClampNeg) &&& (31 : Int32)) = (18 : Int32) from by rw [e9]; decide)).symm.trans h
        have h := (if_pos e9).symm.trans h
        refine ev_aload_n (pc' := 908) rfl rfl rfl ?_
        refine ev_aload_n (pc' := 909) rfl rfl rfl ?_
        refine ev_iload_n (pc' := 910) rfl rfl rfl ?_
        refine ev_iconst (pc' := 911) rfl rfl (v := (1 : Int32)) (by decide) ?_
        refine ev_iadd (pc' := 912) rfl rfl ?_
        obtain ⟨hi, h⟩ := gdB h
        refine ev_sald (pc' := 913) rfl rfl (inR_vp hi) ?_
        refine ev_aload_n (pc' := 914) rfl rfl rfl ?_
        refine ev_iload_n (pc' := 915) rfl rfl rfl ?_
        refine ev_iconst (pc' := 916) rfl rfl (v := (2 : Int32)) (by decide) ?_
        refine ev_iadd (pc' := 917) rfl rfl ?_
        obtain ⟨hi, h⟩ := gdB h
        refine ev_sald (pc' := 918) rfl rfl (inR_vp hi) ?_
        obtain ⟨q38, hq38, h⟩ := Option.bind_eq_some_iff.mp h
        refine ev_V3I (pc' := 921) rfl (by decide) rfl mth_93 ⟨Nat.le_of_ble_eq_true rfl, rfl⟩ capL (d_X6_breaks hq38) ?_
        refine ev_pop (pc' := 922) rfl rfl rfl ?_
        refine ev_aload_n (pc' := 923) rfl rfl rfl ?_
        refine ev_aload_n (pc' := 924) rfl rfl rfl ?_
        refine ev_iload_n (pc' := 925) rfl rfl rfl ?_
        refine ev_iconst (pc' := 926) rfl rfl (v := (1 : Int32)) (by decide) ?_
        refine ev_iadd (pc' := 927) rfl rfl ?_
        obtain ⟨hi, h⟩ := gdB h
        refine ev_sald (pc' := 928) rfl rfl (inR_vp hi) ?_
        refine ev_aload_n (pc' := 929) rfl rfl rfl ?_
        refine ev_iload_n (pc' := 930) rfl rfl rfl ?_
        refine ev_iconst (pc' := 931) rfl rfl (v := (2 : Int32)) (by decide) ?_
        refine ev_iadd (pc' := 932) rfl rfl ?_
        obtain ⟨hi, h⟩ := gdB h
        refine ev_sald (pc' := 933) rfl rfl (inR_vp hi) ?_
        obtain ⟨q39, hq39, h⟩ := Option.bind_eq_some_iff.mp h
        refine ev_V3I (pc' := 936) rfl (by decide) rfl mth_177 ⟨Nat.le_of_ble_eq_true rfl, rfl⟩ capL (d_X7_breaks hq39) ?_
        refine ev_pop (pc' := 937) rfl rfl rfl ?_
        refine ev_goto (pc' := 1233) rfl ?_
        exact e_L_law_1233 (hr18 := hr18) hΨ h
      | 20, hn =>
        obtain rfl := Option.some.inj hn
        have e9 : ((xs v3.toNatClampNeg) &&& (31 : Int32)) = (20 : Int32) := Int32.toInt_inj.mp (hv.trans (by decide))
        have h := (if_neg (show ¬ ((xs v3.toNatClampNeg) &&& (31 : Int32)) = (0 : Int32) from by rw [e9]; decide)).symm.trans h
        have h := (if_neg (show ¬ ((xs v3.toNatClampNeg) &&& (31 : Int32)) = (1 : Int32) from by rw [e9]; decide)).symm.trans h
        have h := (if_neg (show ¬ ((xs v3.toNatClampNeg) &&& (31 : Int32)) = (2 : Int32) from by rw [e9]; decide)).symm.trans h
        have h := (if_neg (show ¬ ((xs v3.toNatClampNeg) &&& (31 : Int32)) = (3 : Int32) from by rw [e9]; decide)).symm.trans h
        have h := (if_neg (show ¬ ((xs v3.toNatClampNeg) &&& (31 : Int32)) = (4 : Int32) from by rw [e9]; decide)).symm.trans h
        have h := (if_neg (show ¬ ((xs v3.toNatClampNeg) &&& (31 : Int32)) = (5 : Int32) from by rw [e9]; decide)).symm.trans h
        have h := (if_neg (show ¬ ((xs v3.toNatClampNeg) &&& (31 : Int32)) = (6 : Int32) from by rw [e9]; decide)).symm.trans h
        have h := (if_neg (show ¬ ((xs v3.toNatClampNeg) &&& (31 : Int32)) = (7 : Int32) from by rw [e9]; decide)).symm.trans h
        have h := (if_neg (show ¬ ((xs v3.toNatClampNeg) &&& (31 : Int32)) = (8 : Int32) from by rw [e9]; decide)).symm.trans h
        have h := (if_neg (show ¬ ((xs v3.toNatClampNeg) &&& (31 : Int32)) = (9 : Int32) from by rw [e9]; decide)).symm.trans h
        have h := (if_neg (show ¬ ((xs v3.toNatClampNeg) &&& (31 : Int32)) = (10 : Int32) from by rw [e9]; decide)).symm.trans h
        have h := (if_neg (show ¬ ((xs v3.toNatClampNeg) &&& (31 : Int32)) = (11 : Int32) from by rw [e9]; decide)).symm.trans h
        have h := (if_neg (show ¬ ((xs v3.toNatClampNeg) &&& (31 : Int32)) = (12 : Int32) from by rw [e9]; decide)).symm.trans h
        have h := (if_neg (show ¬ ((xs v3.toNatClampNeg) &&& (31 : Int32)) = (13 : Int32) from by rw [e9]; decide)).symm.trans h
        have h := (if_neg (show ¬ ((xs v3.toNatClampNeg) &&& (31 : Int32)) = (14 : Int32) from by rw [e9]; decide)).symm.trans h
        have h := (if_neg (show ¬ ((xs v3.toNatClampNeg) &&& (31 : Int32)) = (15 : Int32) from by rw [e9]; decide)).symm.trans h
        have h := (if_neg (show ¬ ((xs v3.toNatClampNeg) &&& (31 : Int32)) = (16 : Int32) from by rw [e9]; decide)).symm.trans h
        have h := (if_neg (show ¬ ((xs v3.toNatClampNeg) &&& (31 : Int32)) = (17 : Int32) from by rw [e9]; decide)).symm.trans h
        have h := (if_neg (show ¬ ((xs v3.toNatClampNeg) &&& (31 : Int32)) = (18 : Int32) from by rw [e9]; decide)).symm.trans h
        have h := (if_neg (show ¬ ((xs v3.toNatClampNeg) &&& (31 : Int32)) = (19 : Int32) from by rw [e9]; decide)).symm.trans h
        have h := (if_pos e9).symm.trans h
        refine ev_aload_n (pc' := 941) rfl rfl rfl ?_
        refine ev_aload_n (pc' := 942) rfl rfl rfl ?_
        refine ev_iload_n (pc' := 943) rfl rfl rfl ?_
        refine ev_iconst (pc' := 944) rfl rfl (v := (1 : Int32)) (by decide) ?_
        refine ev_iadd (pc' := 945) rfl rfl ?_
        obtain ⟨hi, h⟩ := gdB h
        refine ev_sald (pc' := 946) rfl rfl (inR_vp hi) ?_
        obtain ⟨q40, hq40, h⟩ := Option.bind_eq_some_iff.mp h
        refine ev_V2I (pc' := 949) rfl (by decide) rfl mth_94 ⟨Nat.le_of_ble_eq_true rfl, rfl⟩ capL (d_X6_mend hq40) ?_
        refine ev_pop (pc' := 950) rfl rfl rfl ?_
        refine ev_aload_n (pc' := 951) rfl rfl rfl ?_
        refine ev_aload_n (pc' := 952) rfl rfl rfl ?_
        refine ev_iload_n (pc' := 953) rfl rfl rfl ?_
        refine ev_iconst (pc' := 954) rfl rfl (v := (1 : Int32)) (by decide) ?_
        refine ev_iadd (pc' := 955) rfl rfl ?_
        obtain ⟨hi, h⟩ := gdB h
        refine ev_sald (pc' := 956) rfl rfl (inR_vp hi) ?_
        obtain ⟨q41, hq41, h⟩ := Option.bind_eq_some_iff.mp h
        refine ev_V2I (pc' := 959) rfl (by decide) rfl mth_178 ⟨Nat.le_of_ble_eq_true rfl, rfl⟩ capL (d_X7_mend hq41) ?_
        refine ev_pop (pc' := 960) rfl rfl rfl ?_
        refine ev_goto (pc' := 1233) rfl ?_
        exact e_L_law_1233 (hr18 := hr18) hΨ h
      | 21, hn =>
        obtain rfl := Option.some.inj hn
        have e9 : ((xs v3.toNatClampNeg) &&& (31 : Int32)) = (21 : Int32) := Int32.toInt_inj.mp (hv.trans (by decide))
        have h := (if_neg (show ¬ ((xs v3.toNatClampNeg) &&& (31 : Int32)) = (0 : Int32) from by rw [e9]; decide)).symm.trans h
        have h := (if_neg (show ¬ ((xs v3.toNatClampNeg) &&& (31 : Int32)) = (1 : Int32) from by rw [e9]; decide)).symm.trans h
        have h := (if_neg (show ¬ ((xs v3.toNatClampNeg) &&& (31 : Int32)) = (2 : Int32) from by rw [e9]; decide)).symm.trans h
        have h := (if_neg (show ¬ ((xs v3.toNatClampNeg) &&& (31 : Int32)) = (3 : Int32) from by rw [e9]; decide)).symm.trans h
        have h := (if_neg (show ¬ ((xs v3.toNatClampNeg) &&& (31 : Int32)) = (4 : Int32) from by rw [e9]; decide)).symm.trans h
        have h := (if_neg (show ¬ ((xs v3.toNatClampNeg) &&& (31 : Int32)) = (5 : Int32) from by rw [e9]; decide)).symm.trans h
        have h := (if_neg (show ¬ ((xs v3.toNatClampNeg) &&& (31 : Int32)) = (6 : Int32) from by rw [e9]; decide)).symm.trans h
        have h := (if_neg (show ¬ ((xs v3.toNatClampNeg) &&& (31 : Int32)) = (7 : Int32) from by rw [e9]; decide)).symm.trans h
        have h := (if_neg (show ¬ ((xs v3.toNatClampNeg) &&& (31 : Int32)) = (8 : Int32) from by rw [e9]; decide)).symm.trans h
        have h := (if_neg (show ¬ ((xs v3.toNatClampNeg) &&& (31 : Int32)) = (9 : Int32) from by rw [e9]; decide)).symm.trans h
        have h := (if_neg (show ¬ ((xs v3.toNatClampNeg) &&& (31 : Int32)) = (10 : Int32) from by rw [e9]; decide)).symm.trans h
        have h := (if_neg (show ¬ ((xs v3.toNatClampNeg) &&& (31 : Int32)) = (11 : Int32) from by rw [e9]; decide)).symm.trans h
        have h := (if_neg (show ¬ ((xs v3.toNatClampNeg) &&& (31 : Int32)) = (12 : Int32) from by rw [e9]; decide)).symm.trans h
        have h := (if_neg (show ¬ ((xs v3.toNatClampNeg) &&& (31 : Int32)) = (13 : Int32) from by rw [e9]; decide)).symm.trans h
        have h := (if_neg (show ¬ ((xs v3.toNatClampNeg) &&& (31 : Int32)) = (14 : Int32) from by rw [e9]; decide)).symm.trans h
        have h := (if_neg (show ¬ ((xs v3.toNatClampNeg) &&& (31 : Int32)) = (15 : Int32) from by rw [e9]; decide)).symm.trans h
        have h := (if_neg (show ¬ ((xs v3.toNatClampNeg) &&& (31 : Int32)) = (16 : Int32) from by rw [e9]; decide)).symm.trans h
        have h := (if_neg (show ¬ ((xs v3.toNatClampNeg) &&& (31 : Int32)) = (17 : Int32) from by rw [e9]; decide)).symm.trans h
        have h := (if_neg (show ¬ ((xs v3.toNatClampNeg) &&& (31 : Int32)) = (18 : Int32) from by rw [e9]; decide)).symm.trans h
        have h := (if_neg (show ¬ ((xs v3.toNatClampNeg) &&& (31 : Int32)) = (19 : Int32) from by rw [e9]; decide)).symm.trans h
        have h := (if_neg (show ¬ ((xs v3.toNatClampNeg) &&& (31 : Int32)) = (20 : Int32) from by rw [e9]; decide)).symm.trans h
        have h := (if_pos e9).symm.trans h
        refine ev_aload_n (pc' := 964) rfl rfl rfl ?_
        refine ev_aload_n (pc' := 965) rfl rfl rfl ?_
        refine ev_iload_n (pc' := 966) rfl rfl rfl ?_
        refine ev_iconst (pc' := 967) rfl rfl (v := (1 : Int32)) (by decide) ?_
        refine ev_iadd (pc' := 968) rfl rfl ?_
        obtain ⟨hi, h⟩ := gdB h
        refine ev_sald (pc' := 969) rfl rfl (inR_vp hi) ?_
        refine ev_aload_n (pc' := 970) rfl rfl rfl ?_
        refine ev_iload_n (pc' := 971) rfl rfl rfl ?_
        refine ev_iconst (pc' := 972) rfl rfl (v := (2 : Int32)) (by decide) ?_
        refine ev_iadd (pc' := 973) rfl rfl ?_
        obtain ⟨hi, h⟩ := gdB h
        refine ev_sald (pc' := 974) rfl rfl (inR_vp hi) ?_
        obtain ⟨q42, hq42, h⟩ := Option.bind_eq_some_iff.mp h
        refine ev_V3I (pc' := 977) rfl (by decide) rfl mth_95 ⟨Nat.le_of_ble_eq_true rfl, rfl⟩ capL (d_X6_storm hq42) ?_
        refine ev_pop (pc' := 978) rfl rfl rfl ?_
        refine ev_aload_n (pc' := 979) rfl rfl rfl ?_
        refine ev_aload_n (pc' := 980) rfl rfl rfl ?_
        refine ev_iload_n (pc' := 981) rfl rfl rfl ?_
        refine ev_iconst (pc' := 982) rfl rfl (v := (1 : Int32)) (by decide) ?_
        refine ev_iadd (pc' := 983) rfl rfl ?_
        obtain ⟨hi, h⟩ := gdB h
        refine ev_sald (pc' := 984) rfl rfl (inR_vp hi) ?_
        refine ev_aload_n (pc' := 985) rfl rfl rfl ?_
        refine ev_iload_n (pc' := 986) rfl rfl rfl ?_
        refine ev_iconst (pc' := 987) rfl rfl (v := (2 : Int32)) (by decide) ?_
        refine ev_iadd (pc' := 988) rfl rfl ?_
        obtain ⟨hi, h⟩ := gdB h
        refine ev_sald (pc' := 989) rfl rfl (inR_vp hi) ?_
        obtain ⟨q43, hq43, h⟩ := Option.bind_eq_some_iff.mp h
        refine ev_V3I (pc' := 992) rfl (by decide) rfl mth_179 ⟨Nat.le_of_ble_eq_true rfl, rfl⟩ capL (d_X7_storm hq43) ?_
        refine ev_pop (pc' := 993) rfl rfl rfl ?_
        refine ev_goto (pc' := 1233) rfl ?_
        exact e_L_law_1233 (hr18 := hr18) hΨ h
      | 22, hn =>
        obtain rfl := Option.some.inj hn
        have e9 : ((xs v3.toNatClampNeg) &&& (31 : Int32)) = (22 : Int32) := Int32.toInt_inj.mp (hv.trans (by decide))
        have h := (if_neg (show ¬ ((xs v3.toNatClampNeg) &&& (31 : Int32)) = (0 : Int32) from by rw [e9]; decide)).symm.trans h
        have h := (if_neg (show ¬ ((xs v3.toNatClampNeg) &&& (31 : Int32)) = (1 : Int32) from by rw [e9]; decide)).symm.trans h
        have h := (if_neg (show ¬ ((xs v3.toNatClampNeg) &&& (31 : Int32)) = (2 : Int32) from by rw [e9]; decide)).symm.trans h
        have h := (if_neg (show ¬ ((xs v3.toNatClampNeg) &&& (31 : Int32)) = (3 : Int32) from by rw [e9]; decide)).symm.trans h
        have h := (if_neg (show ¬ ((xs v3.toNatClampNeg) &&& (31 : Int32)) = (4 : Int32) from by rw [e9]; decide)).symm.trans h
        have h := (if_neg (show ¬ ((xs v3.toNatClampNeg) &&& (31 : Int32)) = (5 : Int32) from by rw [e9]; decide)).symm.trans h
        have h := (if_neg (show ¬ ((xs v3.toNatClampNeg) &&& (31 : Int32)) = (6 : Int32) from by rw [e9]; decide)).symm.trans h
        have h := (if_neg (show ¬ ((xs v3.toNatClampNeg) &&& (31 : Int32)) = (7 : Int32) from by rw [e9]; decide)).symm.trans h
        have h := (if_neg (show ¬ ((xs v3.toNatClampNeg) &&& (31 : Int32)) = (8 : Int32) from by rw [e9]; decide)).symm.trans h
        have h := (if_neg (show ¬ ((xs v3.toNatClampNeg) &&& (31 : Int32)) = (9 : Int32) from by rw [e9]; decide)).symm.trans h
        have h := (if_neg (show ¬ ((xs v3.toNatClampNeg) &&& (31 : Int32)) = (10 : Int32) from by rw [e9]; decide)).symm.trans h
        have h := (if_neg (show ¬ ((xs v3.toNatClampNeg) &&& (31 : Int32)) = (11 : Int32) from by rw [e9]; decide)).symm.trans h
        have h := (if_neg (show ¬ ((xs v3.toNatClampNeg) &&& (31 : Int32)) = (12 : Int32) from by rw [e9]; decide)).symm.trans h
        have h := (if_neg (show ¬ ((xs v3.toNatClampNeg) &&& (31 : Int32)) = (13 : Int32) from by rw [e9]; decide)).symm.trans h
        have h := (if_neg (show ¬ ((xs v3.toNatClampNeg) &&& (31 : Int32)) = (14 : Int32) from by rw [e9]; decide)).symm.trans h
        have h := (if_neg (show ¬ ((xs v3.toNatClampNeg) &&& (31 : Int32)) = (15 : Int32) from by rw [e9]; decide)).symm.trans h
        have h := (if_neg (show ¬ ((xs v3.toNatClampNeg) &&& (31 : Int32)) = (16 : Int32) from by rw [e9]; decide)).symm.trans h
        have h := (if_neg (show ¬ ((xs v3.toNatClampNeg) &&& (31 : Int32)) = (17 : Int32) from by rw [e9]; decide)).symm.trans h
        have h := (if_neg (show ¬ ((xs v3.toNatClampNeg) &&& (31 : Int32)) = (18 : Int32) from by rw [e9]; decide)).symm.trans h
        have h := (if_neg (show ¬ ((xs v3.toNatClampNeg) &&& (31 : Int32)) = (19 : Int32) from by rw [e9]; decide)).symm.trans h
        have h := (if_neg (show ¬ ((xs v3.toNatClampNeg) &&& (31 : Int32)) = (20 : Int32) from by rw [e9]; decide)).symm.trans h
        have h := (if_neg (show ¬ ((xs v3.toNatClampNeg) &&& (31 : Int32)) = (21 : Int32) from by rw [e9]; decide)).symm.trans h
        have h := (if_pos e9).symm.trans h
        refine ev_aload_n (pc' := 997) rfl rfl rfl ?_
        refine ev_V1I (pc' := 1000) rfl (by decide) rfl mth_96 ⟨Nat.le_of_ble_eq_true rfl, rfl⟩ capL d_X6_calm ?_
        refine ev_pop (pc' := 1001) rfl rfl rfl ?_
        refine ev_aload_n (pc' := 1002) rfl rfl rfl ?_
        obtain ⟨q44, hq44, h⟩ := Option.bind_eq_some_iff.mp h
        refine ev_V1I (pc' := 1005) rfl (by decide) rfl mth_181 ⟨Nat.le_of_ble_eq_true rfl, rfl⟩ capL (d_X7_calm hq44) ?_
        refine ev_pop (pc' := 1006) rfl rfl rfl ?_
        refine ev_goto (pc' := 1233) rfl ?_
        exact e_L_law_1233 (hr18 := hr18) hΨ h
      | 23, hn =>
        obtain rfl := Option.some.inj hn
        have e9 : ((xs v3.toNatClampNeg) &&& (31 : Int32)) = (23 : Int32) := Int32.toInt_inj.mp (hv.trans (by decide))
        have h := (if_neg (show ¬ ((xs v3.toNatClampNeg) &&& (31 : Int32)) = (0 : Int32) from by rw [e9]; decide)).symm.trans h
        have h := (if_neg (show ¬ ((xs v3.toNatClampNeg) &&& (31 : Int32)) = (1 : Int32) from by rw [e9]; decide)).symm.trans h
        have h := (if_neg (show ¬ ((xs v3.toNatClampNeg) &&& (31 : Int32)) = (2 : Int32) from by rw [e9]; decide)).symm.trans h
        have h := (if_neg (show ¬ ((xs v3.toNatClampNeg) &&& (31 : Int32)) = (3 : Int32) from by rw [e9]; decide)).symm.trans h
        have h := (if_neg (show ¬ ((xs v3.toNatClampNeg) &&& (31 : Int32)) = (4 : Int32) from by rw [e9]; decide)).symm.trans h
        have h := (if_neg (show ¬ ((xs v3.toNatClampNeg) &&& (31 : Int32)) = (5 : Int32) from by rw [e9]; decide)).symm.trans h
        have h := (if_neg (show ¬ ((xs v3.toNatClampNeg) &&& (31 : Int32)) = (6 : Int32) from by rw [e9]; decide)).symm.trans h
        have h := (if_neg (show ¬ ((xs v3.toNatClampNeg) &&& (31 : Int32)) = (7 : Int32) from by rw [e9]; decide)).symm.trans h
        have h := (if_neg (show ¬ ((xs v3.toNatClampNeg) &&& (31 : Int32)) = (8 : Int32) from by rw [e9]; decide)).symm.trans h
        have h := (if_neg (show ¬ ((xs v3.toNatClampNeg) &&& (31 : Int32)) = (9 : Int32) from by rw [e9]; decide)).symm.trans h
        have h := (if_neg (show ¬ ((xs v3.toNatClampNeg) &&& (31 : Int32)) = (10 : Int32) from by rw [e9]; decide)).symm.trans h
        have h := (if_neg (show ¬ ((xs v3.toNatClampNeg) &&& (31 : Int32)) = (11 : Int32) from by rw [e9]; decide)).symm.trans h
        have h := (if_neg (show ¬ ((xs v3.toNatClampNeg) &&& (31 : Int32)) = (12 : Int32) from by rw [e9]; decide)).symm.trans h
        have h := (if_neg (show ¬ ((xs v3.toNatClampNeg) &&& (31 : Int32)) = (13 : Int32) from by rw [e9]; decide)).symm.trans h
        have h := (if_neg (show ¬ ((xs v3.toNatClampNeg) &&& (31 : Int32)) = (14 : Int32) from by rw [e9]; decide)).symm.trans h
        have h := (if_neg (show ¬ ((xs v3.toNatClampNeg) &&& (31 : Int32)) = (15 : Int32) from by rw [e9]; decide)).symm.trans h
        have h := (if_neg (show ¬ ((xs v3.toNatClampNeg) &&& (31 : Int32)) = (16 : Int32) from by rw [e9]; decide)).symm.trans h
        have h := (if_neg (show ¬ ((xs v3.toNatClampNeg) &&& (31 : Int32)) = (17 : Int32) from by rw [e9]; decide)).symm.trans h
        have h := (if_neg (show ¬ ((xs v3.toNatClampNeg) &&& (31 : Int32)) = (18 : Int32) from by rw [e9]; decide)).symm.trans h
        have h := (if_neg (show ¬ ((xs v3.toNatClampNeg) &&& (31 : Int32)) = (19 : Int32) from by rw [e9]; decide)).symm.trans h
        have h := (if_neg (show ¬ ((xs v3.toNatClampNeg) &&& (31 : Int32)) = (20 : Int32) from by rw [e9]; decide)).symm.trans h
        have h := (if_neg (show ¬ ((xs v3.toNatClampNeg) &&& (31 : Int32)) = (21 : Int32) from by rw [e9]; decide)).symm.trans h
        have h := (if_neg (show ¬ ((xs v3.toNatClampNeg) &&& (31 : Int32)) = (22 : Int32) from by rw [e9]; decide)).symm.trans h
        have h := (if_pos e9).symm.trans h
        refine ev_aload_n (pc' := 1010) rfl rfl rfl ?_
        refine ev_aload_n (pc' := 1011) rfl rfl rfl ?_
        refine ev_iload_n (pc' := 1012) rfl rfl rfl ?_
        refine ev_iconst (pc' := 1013) rfl rfl (v := (1 : Int32)) (by decide) ?_
        refine ev_iadd (pc' := 1014) rfl rfl ?_
        obtain ⟨hi, h⟩ := gdB h
        refine ev_sald (pc' := 1015) rfl rfl (inR_vp hi) ?_
        refine ev_aload_n (pc' := 1016) rfl rfl rfl ?_
        refine ev_iload_n (pc' := 1017) rfl rfl rfl ?_
        refine ev_iconst (pc' := 1018) rfl rfl (v := (2 : Int32)) (by decide) ?_
        refine ev_iadd (pc' := 1019) rfl rfl ?_
        obtain ⟨hi, h⟩ := gdB h
        refine ev_sald (pc' := 1020) rfl rfl (inR_vp hi) ?_
        refine ev_aload_n (pc' := 1021) rfl rfl rfl ?_
        refine ev_iload_n (pc' := 1022) rfl rfl rfl ?_
        refine ev_iconst (pc' := 1023) rfl rfl (v := (3 : Int32)) (by decide) ?_
        refine ev_iadd (pc' := 1024) rfl rfl ?_
        obtain ⟨hi, h⟩ := gdB h
        refine ev_sald (pc' := 1025) rfl rfl (inR_vp hi) ?_
        refine ev_aload_n (pc' := 1026) rfl rfl rfl ?_
        refine ev_iload_n (pc' := 1027) rfl rfl rfl ?_
        refine ev_iconst (pc' := 1028) rfl rfl (v := (4 : Int32)) (by decide) ?_
        refine ev_iadd (pc' := 1029) rfl rfl ?_
        obtain ⟨hi, h⟩ := gdB h
        refine ev_sald (pc' := 1030) rfl rfl (inR_vp hi) ?_
        obtain ⟨q45, hq45, h⟩ := Option.bind_eq_some_iff.mp h
        refine ev_V5I (pc' := 1033) rfl (by decide) rfl mth_97 ⟨Nat.le_of_ble_eq_true rfl, rfl⟩ capL (d_X6_priceRule hq45) ?_
        refine ev_pop (pc' := 1034) rfl rfl rfl ?_
        refine ev_aload_n (pc' := 1035) rfl rfl rfl ?_
        refine ev_aload_n (pc' := 1036) rfl rfl rfl ?_
        refine ev_iload_n (pc' := 1037) rfl rfl rfl ?_
        refine ev_iconst (pc' := 1038) rfl rfl (v := (1 : Int32)) (by decide) ?_
        refine ev_iadd (pc' := 1039) rfl rfl ?_
        obtain ⟨hi, h⟩ := gdB h
        refine ev_sald (pc' := 1040) rfl rfl (inR_vp hi) ?_
        refine ev_aload_n (pc' := 1041) rfl rfl rfl ?_
        refine ev_iload_n (pc' := 1042) rfl rfl rfl ?_
        refine ev_iconst (pc' := 1043) rfl rfl (v := (2 : Int32)) (by decide) ?_
        refine ev_iadd (pc' := 1044) rfl rfl ?_
        obtain ⟨hi, h⟩ := gdB h
        refine ev_sald (pc' := 1045) rfl rfl (inR_vp hi) ?_
        refine ev_aload_n (pc' := 1046) rfl rfl rfl ?_
        refine ev_iload_n (pc' := 1047) rfl rfl rfl ?_
        refine ev_iconst (pc' := 1048) rfl rfl (v := (3 : Int32)) (by decide) ?_
        refine ev_iadd (pc' := 1049) rfl rfl ?_
        obtain ⟨hi, h⟩ := gdB h
        refine ev_sald (pc' := 1050) rfl rfl (inR_vp hi) ?_
        refine ev_aload_n (pc' := 1051) rfl rfl rfl ?_
        refine ev_iload_n (pc' := 1052) rfl rfl rfl ?_
        refine ev_iconst (pc' := 1053) rfl rfl (v := (4 : Int32)) (by decide) ?_
        refine ev_iadd (pc' := 1054) rfl rfl ?_
        obtain ⟨hi, h⟩ := gdB h
        refine ev_sald (pc' := 1055) rfl rfl (inR_vp hi) ?_
        obtain ⟨q46, hq46, h⟩ := Option.bind_eq_some_iff.mp h
        refine ev_V5I (pc' := 1058) rfl (by decide) rfl mth_182 ⟨Nat.le_of_ble_eq_true rfl, rfl⟩ capL (d_X7_priceRule hq46) ?_
        refine ev_pop (pc' := 1059) rfl rfl rfl ?_
        refine ev_goto (pc' := 1233) rfl ?_
        exact e_L_law_1233 (hr18 := hr18) hΨ h
      | 24, hn =>
        obtain rfl := Option.some.inj hn
        have e9 : ((xs v3.toNatClampNeg) &&& (31 : Int32)) = (24 : Int32) := Int32.toInt_inj.mp (hv.trans (by decide))
        have h := (if_neg (show ¬ ((xs v3.toNatClampNeg) &&& (31 : Int32)) = (0 : Int32) from by rw [e9]; decide)).symm.trans h
        have h := (if_neg (show ¬ ((xs v3.toNatClampNeg) &&& (31 : Int32)) = (1 : Int32) from by rw [e9]; decide)).symm.trans h
        have h := (if_neg (show ¬ ((xs v3.toNatClampNeg) &&& (31 : Int32)) = (2 : Int32) from by rw [e9]; decide)).symm.trans h
        have h := (if_neg (show ¬ ((xs v3.toNatClampNeg) &&& (31 : Int32)) = (3 : Int32) from by rw [e9]; decide)).symm.trans h
        have h := (if_neg (show ¬ ((xs v3.toNatClampNeg) &&& (31 : Int32)) = (4 : Int32) from by rw [e9]; decide)).symm.trans h
        have h := (if_neg (show ¬ ((xs v3.toNatClampNeg) &&& (31 : Int32)) = (5 : Int32) from by rw [e9]; decide)).symm.trans h
        have h := (if_neg (show ¬ ((xs v3.toNatClampNeg) &&& (31 : Int32)) = (6 : Int32) from by rw [e9]; decide)).symm.trans h
        have h := (if_neg (show ¬ ((xs v3.toNatClampNeg) &&& (31 : Int32)) = (7 : Int32) from by rw [e9]; decide)).symm.trans h
        have h := (if_neg (show ¬ ((xs v3.toNatClampNeg) &&& (31 : Int32)) = (8 : Int32) from by rw [e9]; decide)).symm.trans h
        have h := (if_neg (show ¬ ((xs v3.toNatClampNeg) &&& (31 : Int32)) = (9 : Int32) from by rw [e9]; decide)).symm.trans h
        have h := (if_neg (show ¬ ((xs v3.toNatClampNeg) &&& (31 : Int32)) = (10 : Int32) from by rw [e9]; decide)).symm.trans h
        have h := (if_neg (show ¬ ((xs v3.toNatClampNeg) &&& (31 : Int32)) = (11 : Int32) from by rw [e9]; decide)).symm.trans h
        have h := (if_neg (show ¬ ((xs v3.toNatClampNeg) &&& (31 : Int32)) = (12 : Int32) from by rw [e9]; decide)).symm.trans h
        have h := (if_neg (show ¬ ((xs v3.toNatClampNeg) &&& (31 : Int32)) = (13 : Int32) from by rw [e9]; decide)).symm.trans h
        have h := (if_neg (show ¬ ((xs v3.toNatClampNeg) &&& (31 : Int32)) = (14 : Int32) from by rw [e9]; decide)).symm.trans h
        have h := (if_neg (show ¬ ((xs v3.toNatClampNeg) &&& (31 : Int32)) = (15 : Int32) from by rw [e9]; decide)).symm.trans h
        have h := (if_neg (show ¬ ((xs v3.toNatClampNeg) &&& (31 : Int32)) = (16 : Int32) from by rw [e9]; decide)).symm.trans h
        have h := (if_neg (show ¬ ((xs v3.toNatClampNeg) &&& (31 : Int32)) = (17 : Int32) from by rw [e9]; decide)).symm.trans h
        have h := (if_neg (show ¬ ((xs v3.toNatClampNeg) &&& (31 : Int32)) = (18 : Int32) from by rw [e9]; decide)).symm.trans h
        have h := (if_neg (show ¬ ((xs v3.toNatClampNeg) &&& (31 : Int32)) = (19 : Int32) from by rw [e9]; decide)).symm.trans h
        have h := (if_neg (show ¬ ((xs v3.toNatClampNeg) &&& (31 : Int32)) = (20 : Int32) from by rw [e9]; decide)).symm.trans h
        have h := (if_neg (show ¬ ((xs v3.toNatClampNeg) &&& (31 : Int32)) = (21 : Int32) from by rw [e9]; decide)).symm.trans h
        have h := (if_neg (show ¬ ((xs v3.toNatClampNeg) &&& (31 : Int32)) = (22 : Int32) from by rw [e9]; decide)).symm.trans h
        have h := (if_neg (show ¬ ((xs v3.toNatClampNeg) &&& (31 : Int32)) = (23 : Int32) from by rw [e9]; decide)).symm.trans h
        have h := (if_pos e9).symm.trans h
        refine ev_aload_n (pc' := 1063) rfl rfl rfl ?_
        refine ev_aload_n (pc' := 1064) rfl rfl rfl ?_
        refine ev_iload_n (pc' := 1065) rfl rfl rfl ?_
        refine ev_iconst (pc' := 1066) rfl rfl (v := (1 : Int32)) (by decide) ?_
        refine ev_iadd (pc' := 1067) rfl rfl ?_
        obtain ⟨hi, h⟩ := gdB h
        refine ev_sald (pc' := 1068) rfl rfl (inR_vp hi) ?_
        obtain ⟨q47, hq47, h⟩ := Option.bind_eq_some_iff.mp h
        refine ev_V2L (pc' := 1071) rfl (by decide) rfl mth_98 ⟨Nat.le_of_ble_eq_true rfl, rfl⟩ capL (d_X6_price hq47) ?_
        refine ev_pop2 (pc' := 1072) rfl rfl rfl ?_
        refine ev_aload_n (pc' := 1073) rfl rfl rfl ?_
        refine ev_aload_n (pc' := 1074) rfl rfl rfl ?_
        refine ev_iload_n (pc' := 1075) rfl rfl rfl ?_
        refine ev_iconst (pc' := 1076) rfl rfl (v := (1 : Int32)) (by decide) ?_
        refine ev_iadd (pc' := 1077) rfl rfl ?_
        obtain ⟨hi, h⟩ := gdB h
        refine ev_sald (pc' := 1078) rfl rfl (inR_vp hi) ?_
        obtain ⟨q48, hq48, h⟩ := Option.bind_eq_some_iff.mp h
        refine ev_V2L (pc' := 1081) rfl (by decide) rfl mth_184 ⟨Nat.le_of_ble_eq_true rfl, rfl⟩ capL (d_X7_price hq48) ?_
        refine ev_pop2 (pc' := 1082) rfl rfl rfl ?_
        refine ev_goto (pc' := 1233) rfl ?_
        exact e_L_law_1233 (hr18 := hr18) hΨ h
      | 25, hn =>
        obtain rfl := Option.some.inj hn
        have e9 : ((xs v3.toNatClampNeg) &&& (31 : Int32)) = (25 : Int32) := Int32.toInt_inj.mp (hv.trans (by decide))
        have h := (if_neg (show ¬ ((xs v3.toNatClampNeg) &&& (31 : Int32)) = (0 : Int32) from by rw [e9]; decide)).symm.trans h
        have h := (if_neg (show ¬ ((xs v3.toNatClampNeg) &&& (31 : Int32)) = (1 : Int32) from by rw [e9]; decide)).symm.trans h
        have h := (if_neg (show ¬ ((xs v3.toNatClampNeg) &&& (31 : Int32)) = (2 : Int32) from by rw [e9]; decide)).symm.trans h
        have h := (if_neg (show ¬ ((xs v3.toNatClampNeg) &&& (31 : Int32)) = (3 : Int32) from by rw [e9]; decide)).symm.trans h
        have h := (if_neg (show ¬ ((xs v3.toNatClampNeg) &&& (31 : Int32)) = (4 : Int32) from by rw [e9]; decide)).symm.trans h
        have h := (if_neg (show ¬ ((xs v3.toNatClampNeg) &&& (31 : Int32)) = (5 : Int32) from by rw [e9]; decide)).symm.trans h
        have h := (if_neg (show ¬ ((xs v3.toNatClampNeg) &&& (31 : Int32)) = (6 : Int32) from by rw [e9]; decide)).symm.trans h
        have h := (if_neg (show ¬ ((xs v3.toNatClampNeg) &&& (31 : Int32)) = (7 : Int32) from by rw [e9]; decide)).symm.trans h
        have h := (if_neg (show ¬ ((xs v3.toNatClampNeg) &&& (31 : Int32)) = (8 : Int32) from by rw [e9]; decide)).symm.trans h
        have h := (if_neg (show ¬ ((xs v3.toNatClampNeg) &&& (31 : Int32)) = (9 : Int32) from by rw [e9]; decide)).symm.trans h
        have h := (if_neg (show ¬ ((xs v3.toNatClampNeg) &&& (31 : Int32)) = (10 : Int32) from by rw [e9]; decide)).symm.trans h
        have h := (if_neg (show ¬ ((xs v3.toNatClampNeg) &&& (31 : Int32)) = (11 : Int32) from by rw [e9]; decide)).symm.trans h
        have h := (if_neg (show ¬ ((xs v3.toNatClampNeg) &&& (31 : Int32)) = (12 : Int32) from by rw [e9]; decide)).symm.trans h
        have h := (if_neg (show ¬ ((xs v3.toNatClampNeg) &&& (31 : Int32)) = (13 : Int32) from by rw [e9]; decide)).symm.trans h
        have h := (if_neg (show ¬ ((xs v3.toNatClampNeg) &&& (31 : Int32)) = (14 : Int32) from by rw [e9]; decide)).symm.trans h
        have h := (if_neg (show ¬ ((xs v3.toNatClampNeg) &&& (31 : Int32)) = (15 : Int32) from by rw [e9]; decide)).symm.trans h
        have h := (if_neg (show ¬ ((xs v3.toNatClampNeg) &&& (31 : Int32)) = (16 : Int32) from by rw [e9]; decide)).symm.trans h
        have h := (if_neg (show ¬ ((xs v3.toNatClampNeg) &&& (31 : Int32)) = (17 : Int32) from by rw [e9]; decide)).symm.trans h
        have h := (if_neg (show ¬ ((xs v3.toNatClampNeg) &&& (31 : Int32)) = (18 : Int32) from by rw [e9]; decide)).symm.trans h
        have h := (if_neg (show ¬ ((xs v3.toNatClampNeg) &&& (31 : Int32)) = (19 : Int32) from by rw [e9]; decide)).symm.trans h
        have h := (if_neg (show ¬ ((xs v3.toNatClampNeg) &&& (31 : Int32)) = (20 : Int32) from by rw [e9]; decide)).symm.trans h
        have h := (if_neg (show ¬ ((xs v3.toNatClampNeg) &&& (31 : Int32)) = (21 : Int32) from by rw [e9]; decide)).symm.trans h
        have h := (if_neg (show ¬ ((xs v3.toNatClampNeg) &&& (31 : Int32)) = (22 : Int32) from by rw [e9]; decide)).symm.trans h
        have h := (if_neg (show ¬ ((xs v3.toNatClampNeg) &&& (31 : Int32)) = (23 : Int32) from by rw [e9]; decide)).symm.trans h
        have h := (if_neg (show ¬ ((xs v3.toNatClampNeg) &&& (31 : Int32)) = (24 : Int32) from by rw [e9]; decide)).symm.trans h
        have h := (if_pos e9).symm.trans h
        refine ev_aload_n (pc' := 1086) rfl rfl rfl ?_
        refine ev_aload_n (pc' := 1087) rfl rfl rfl ?_
        refine ev_iload_n (pc' := 1088) rfl rfl rfl ?_
        refine ev_iconst (pc' := 1089) rfl rfl (v := (1 : Int32)) (by decide) ?_
        refine ev_iadd (pc' := 1090) rfl rfl ?_
        obtain ⟨hi, h⟩ := gdB h
        refine ev_sald (pc' := 1091) rfl rfl (inR_vp hi) ?_
        refine ev_aload_n (pc' := 1092) rfl rfl rfl ?_
        refine ev_iload_n (pc' := 1093) rfl rfl rfl ?_
        refine ev_iconst (pc' := 1094) rfl rfl (v := (2 : Int32)) (by decide) ?_
        refine ev_iadd (pc' := 1095) rfl rfl ?_
        obtain ⟨hi, h⟩ := gdB h
        refine ev_sald (pc' := 1096) rfl rfl (inR_vp hi) ?_
        obtain ⟨q49, hq49, h⟩ := Option.bind_eq_some_iff.mp h
        refine ev_V3I (pc' := 1099) rfl (by decide) rfl mth_99 ⟨Nat.le_of_ble_eq_true rfl, rfl⟩ capL (d_X6_pool hq49) ?_
        refine ev_pop (pc' := 1100) rfl rfl rfl ?_
        refine ev_aload_n (pc' := 1101) rfl rfl rfl ?_
        refine ev_aload_n (pc' := 1102) rfl rfl rfl ?_
        refine ev_iload_n (pc' := 1103) rfl rfl rfl ?_
        refine ev_iconst (pc' := 1104) rfl rfl (v := (1 : Int32)) (by decide) ?_
        refine ev_iadd (pc' := 1105) rfl rfl ?_
        obtain ⟨hi, h⟩ := gdB h
        refine ev_sald (pc' := 1106) rfl rfl (inR_vp hi) ?_
        refine ev_aload_n (pc' := 1107) rfl rfl rfl ?_
        refine ev_iload_n (pc' := 1108) rfl rfl rfl ?_
        refine ev_iconst (pc' := 1109) rfl rfl (v := (2 : Int32)) (by decide) ?_
        refine ev_iadd (pc' := 1110) rfl rfl ?_
        obtain ⟨hi, h⟩ := gdB h
        refine ev_sald (pc' := 1111) rfl rfl (inR_vp hi) ?_
        obtain ⟨q50, hq50, h⟩ := Option.bind_eq_some_iff.mp h
        refine ev_V3I (pc' := 1114) rfl (by decide) rfl mth_185 ⟨Nat.le_of_ble_eq_true rfl, rfl⟩ capL (d_X7_pool hq50) ?_
        refine ev_pop (pc' := 1115) rfl rfl rfl ?_
        refine ev_goto (pc' := 1233) rfl ?_
        exact e_L_law_1233 (hr18 := hr18) hΨ h
      | 26, hn =>
        obtain rfl := Option.some.inj hn
        have e9 : ((xs v3.toNatClampNeg) &&& (31 : Int32)) = (26 : Int32) := Int32.toInt_inj.mp (hv.trans (by decide))
        have h := (if_neg (show ¬ ((xs v3.toNatClampNeg) &&& (31 : Int32)) = (0 : Int32) from by rw [e9]; decide)).symm.trans h
        have h := (if_neg (show ¬ ((xs v3.toNatClampNeg) &&& (31 : Int32)) = (1 : Int32) from by rw [e9]; decide)).symm.trans h
        have h := (if_neg (show ¬ ((xs v3.toNatClampNeg) &&& (31 : Int32)) = (2 : Int32) from by rw [e9]; decide)).symm.trans h
        have h := (if_neg (show ¬ ((xs v3.toNatClampNeg) &&& (31 : Int32)) = (3 : Int32) from by rw [e9]; decide)).symm.trans h
        have h := (if_neg (show ¬ ((xs v3.toNatClampNeg) &&& (31 : Int32)) = (4 : Int32) from by rw [e9]; decide)).symm.trans h
        have h := (if_neg (show ¬ ((xs v3.toNatClampNeg) &&& (31 : Int32)) = (5 : Int32) from by rw [e9]; decide)).symm.trans h
        have h := (if_neg (show ¬ ((xs v3.toNatClampNeg) &&& (31 : Int32)) = (6 : Int32) from by rw [e9]; decide)).symm.trans h
        have h := (if_neg (show ¬ ((xs v3.toNatClampNeg) &&& (31 : Int32)) = (7 : Int32) from by rw [e9]; decide)).symm.trans h
        have h := (if_neg (show ¬ ((xs v3.toNatClampNeg) &&& (31 : Int32)) = (8 : Int32) from by rw [e9]; decide)).symm.trans h
        have h := (if_neg (show ¬ ((xs v3.toNatClampNeg) &&& (31 : Int32)) = (9 : Int32) from by rw [e9]; decide)).symm.trans h
        have h := (if_neg (show ¬ ((xs v3.toNatClampNeg) &&& (31 : Int32)) = (10 : Int32) from by rw [e9]; decide)).symm.trans h
        have h := (if_neg (show ¬ ((xs v3.toNatClampNeg) &&& (31 : Int32)) = (11 : Int32) from by rw [e9]; decide)).symm.trans h
        have h := (if_neg (show ¬ ((xs v3.toNatClampNeg) &&& (31 : Int32)) = (12 : Int32) from by rw [e9]; decide)).symm.trans h
        have h := (if_neg (show ¬ ((xs v3.toNatClampNeg) &&& (31 : Int32)) = (13 : Int32) from by rw [e9]; decide)).symm.trans h
        have h := (if_neg (show ¬ ((xs v3.toNatClampNeg) &&& (31 : Int32)) = (14 : Int32) from by rw [e9]; decide)).symm.trans h
        have h := (if_neg (show ¬ ((xs v3.toNatClampNeg) &&& (31 : Int32)) = (15 : Int32) from by rw [e9]; decide)).symm.trans h
        have h := (if_neg (show ¬ ((xs v3.toNatClampNeg) &&& (31 : Int32)) = (16 : Int32) from by rw [e9]; decide)).symm.trans h
        have h := (if_neg (show ¬ ((xs v3.toNatClampNeg) &&& (31 : Int32)) = (17 : Int32) from by rw [e9]; decide)).symm.trans h
        have h := (if_neg (show ¬ ((xs v3.toNatClampNeg) &&& (31 : Int32)) = (18 : Int32) from by rw [e9]; decide)).symm.trans h
        have h := (if_neg (show ¬ ((xs v3.toNatClampNeg) &&& (31 : Int32)) = (19 : Int32) from by rw [e9]; decide)).symm.trans h
        have h := (if_neg (show ¬ ((xs v3.toNatClampNeg) &&& (31 : Int32)) = (20 : Int32) from by rw [e9]; decide)).symm.trans h
        have h := (if_neg (show ¬ ((xs v3.toNatClampNeg) &&& (31 : Int32)) = (21 : Int32) from by rw [e9]; decide)).symm.trans h
        have h := (if_neg (show ¬ ((xs v3.toNatClampNeg) &&& (31 : Int32)) = (22 : Int32) from by rw [e9]; decide)).symm.trans h
        have h := (if_neg (show ¬ ((xs v3.toNatClampNeg) &&& (31 : Int32)) = (23 : Int32) from by rw [e9]; decide)).symm.trans h
        have h := (if_neg (show ¬ ((xs v3.toNatClampNeg) &&& (31 : Int32)) = (24 : Int32) from by rw [e9]; decide)).symm.trans h
        have h := (if_neg (show ¬ ((xs v3.toNatClampNeg) &&& (31 : Int32)) = (25 : Int32) from by rw [e9]; decide)).symm.trans h
        have h := (if_pos e9).symm.trans h
        refine ev_aload_n (pc' := 1119) rfl rfl rfl ?_
        refine ev_aload_n (pc' := 1120) rfl rfl rfl ?_
        refine ev_iload_n (pc' := 1121) rfl rfl rfl ?_
        refine ev_iconst (pc' := 1122) rfl rfl (v := (1 : Int32)) (by decide) ?_
        refine ev_iadd (pc' := 1123) rfl rfl ?_
        obtain ⟨hi, h⟩ := gdB h
        refine ev_sald (pc' := 1124) rfl rfl (inR_vp hi) ?_
        refine ev_aload_n (pc' := 1125) rfl rfl rfl ?_
        refine ev_iload_n (pc' := 1126) rfl rfl rfl ?_
        refine ev_iconst (pc' := 1127) rfl rfl (v := (2 : Int32)) (by decide) ?_
        refine ev_iadd (pc' := 1128) rfl rfl ?_
        obtain ⟨hi, h⟩ := gdB h
        refine ev_sald (pc' := 1129) rfl rfl (inR_vp hi) ?_
        obtain ⟨q51, hq51, h⟩ := Option.bind_eq_some_iff.mp h
        refine ev_V3L (pc' := 1132) rfl (by decide) rfl mth_100 ⟨Nat.le_of_ble_eq_true rfl, rfl⟩ capL (d_X6_work hq51) ?_
        refine ev_pop2 (pc' := 1133) rfl rfl rfl ?_
        refine ev_aload_n (pc' := 1134) rfl rfl rfl ?_
        refine ev_aload_n (pc' := 1135) rfl rfl rfl ?_
        refine ev_iload_n (pc' := 1136) rfl rfl rfl ?_
        refine ev_iconst (pc' := 1137) rfl rfl (v := (1 : Int32)) (by decide) ?_
        refine ev_iadd (pc' := 1138) rfl rfl ?_
        obtain ⟨hi, h⟩ := gdB h
        refine ev_sald (pc' := 1139) rfl rfl (inR_vp hi) ?_
        refine ev_aload_n (pc' := 1140) rfl rfl rfl ?_
        refine ev_iload_n (pc' := 1141) rfl rfl rfl ?_
        refine ev_iconst (pc' := 1142) rfl rfl (v := (2 : Int32)) (by decide) ?_
        refine ev_iadd (pc' := 1143) rfl rfl ?_
        obtain ⟨hi, h⟩ := gdB h
        refine ev_sald (pc' := 1144) rfl rfl (inR_vp hi) ?_
        obtain ⟨q52, hq52, h⟩ := Option.bind_eq_some_iff.mp h
        refine ev_V3L (pc' := 1147) rfl (by decide) rfl mth_186 ⟨Nat.le_of_ble_eq_true rfl, rfl⟩ capL (d_X7_work hq52) ?_
        refine ev_pop2 (pc' := 1148) rfl rfl rfl ?_
        refine ev_goto (pc' := 1233) rfl ?_
        exact e_L_law_1233 (hr18 := hr18) hΨ h
      | 27, hn =>
        obtain rfl := Option.some.inj hn
        have e9 : ((xs v3.toNatClampNeg) &&& (31 : Int32)) = (27 : Int32) := Int32.toInt_inj.mp (hv.trans (by decide))
        have h := (if_neg (show ¬ ((xs v3.toNatClampNeg) &&& (31 : Int32)) = (0 : Int32) from by rw [e9]; decide)).symm.trans h
        have h := (if_neg (show ¬ ((xs v3.toNatClampNeg) &&& (31 : Int32)) = (1 : Int32) from by rw [e9]; decide)).symm.trans h
        have h := (if_neg (show ¬ ((xs v3.toNatClampNeg) &&& (31 : Int32)) = (2 : Int32) from by rw [e9]; decide)).symm.trans h
        have h := (if_neg (show ¬ ((xs v3.toNatClampNeg) &&& (31 : Int32)) = (3 : Int32) from by rw [e9]; decide)).symm.trans h
        have h := (if_neg (show ¬ ((xs v3.toNatClampNeg) &&& (31 : Int32)) = (4 : Int32) from by rw [e9]; decide)).symm.trans h
        have h := (if_neg (show ¬ ((xs v3.toNatClampNeg) &&& (31 : Int32)) = (5 : Int32) from by rw [e9]; decide)).symm.trans h
        have h := (if_neg (show ¬ ((xs v3.toNatClampNeg) &&& (31 : Int32)) = (6 : Int32) from by rw [e9]; decide)).symm.trans h
        have h := (if_neg (show ¬ ((xs v3.toNatClampNeg) &&& (31 : Int32)) = (7 : Int32) from by rw [e9]; decide)).symm.trans h
        have h := (if_neg (show ¬ ((xs v3.toNatClampNeg) &&& (31 : Int32)) = (8 : Int32) from by rw [e9]; decide)).symm.trans h
        have h := (if_neg (show ¬ ((xs v3.toNatClampNeg) &&& (31 : Int32)) = (9 : Int32) from by rw [e9]; decide)).symm.trans h
        have h := (if_neg (show ¬ ((xs v3.toNatClampNeg) &&& (31 : Int32)) = (10 : Int32) from by rw [e9]; decide)).symm.trans h
        have h := (if_neg (show ¬ ((xs v3.toNatClampNeg) &&& (31 : Int32)) = (11 : Int32) from by rw [e9]; decide)).symm.trans h
        have h := (if_neg (show ¬ ((xs v3.toNatClampNeg) &&& (31 : Int32)) = (12 : Int32) from by rw [e9]; decide)).symm.trans h
        have h := (if_neg (show ¬ ((xs v3.toNatClampNeg) &&& (31 : Int32)) = (13 : Int32) from by rw [e9]; decide)).symm.trans h
        have h := (if_neg (show ¬ ((xs v3.toNatClampNeg) &&& (31 : Int32)) = (14 : Int32) from by rw [e9]; decide)).symm.trans h
        have h := (if_neg (show ¬ ((xs v3.toNatClampNeg) &&& (31 : Int32)) = (15 : Int32) from by rw [e9]; decide)).symm.trans h
        have h := (if_neg (show ¬ ((xs v3.toNatClampNeg) &&& (31 : Int32)) = (16 : Int32) from by rw [e9]; decide)).symm.trans h
        have h := (if_neg (show ¬ ((xs v3.toNatClampNeg) &&& (31 : Int32)) = (17 : Int32) from by rw [e9]; decide)).symm.trans h
        have h := (if_neg (show ¬ ((xs v3.toNatClampNeg) &&& (31 : Int32)) = (18 : Int32) from by rw [e9]; decide)).symm.trans h
        have h := (if_neg (show ¬ ((xs v3.toNatClampNeg) &&& (31 : Int32)) = (19 : Int32) from by rw [e9]; decide)).symm.trans h
        have h := (if_neg (show ¬ ((xs v3.toNatClampNeg) &&& (31 : Int32)) = (20 : Int32) from by rw [e9]; decide)).symm.trans h
        have h := (if_neg (show ¬ ((xs v3.toNatClampNeg) &&& (31 : Int32)) = (21 : Int32) from by rw [e9]; decide)).symm.trans h
        have h := (if_neg (show ¬ ((xs v3.toNatClampNeg) &&& (31 : Int32)) = (22 : Int32) from by rw [e9]; decide)).symm.trans h
        have h := (if_neg (show ¬ ((xs v3.toNatClampNeg) &&& (31 : Int32)) = (23 : Int32) from by rw [e9]; decide)).symm.trans h
        have h := (if_neg (show ¬ ((xs v3.toNatClampNeg) &&& (31 : Int32)) = (24 : Int32) from by rw [e9]; decide)).symm.trans h
        have h := (if_neg (show ¬ ((xs v3.toNatClampNeg) &&& (31 : Int32)) = (25 : Int32) from by rw [e9]; decide)).symm.trans h
        have h := (if_neg (show ¬ ((xs v3.toNatClampNeg) &&& (31 : Int32)) = (26 : Int32) from by rw [e9]; decide)).symm.trans h
        have h := (if_pos e9).symm.trans h
        refine ev_aload_n (pc' := 1152) rfl rfl rfl ?_
        refine ev_aload_n (pc' := 1153) rfl rfl rfl ?_
        refine ev_iload_n (pc' := 1154) rfl rfl rfl ?_
        refine ev_iconst (pc' := 1155) rfl rfl (v := (1 : Int32)) (by decide) ?_
        refine ev_iadd (pc' := 1156) rfl rfl ?_
        obtain ⟨hi, h⟩ := gdB h
        refine ev_sald (pc' := 1157) rfl rfl (inR_vp hi) ?_
        refine ev_aload_n (pc' := 1158) rfl rfl rfl ?_
        refine ev_iload_n (pc' := 1159) rfl rfl rfl ?_
        refine ev_iconst (pc' := 1160) rfl rfl (v := (2 : Int32)) (by decide) ?_
        refine ev_iadd (pc' := 1161) rfl rfl ?_
        obtain ⟨hi, h⟩ := gdB h
        refine ev_sald (pc' := 1162) rfl rfl (inR_vp hi) ?_
        obtain ⟨q53, hq53, h⟩ := Option.bind_eq_some_iff.mp h
        refine ev_V3I (pc' := 1165) rfl (by decide) rfl mth_101 ⟨Nat.le_of_ble_eq_true rfl, rfl⟩ capL (d_X6_about hq53) ?_
        refine ev_pop (pc' := 1166) rfl rfl rfl ?_
        refine ev_aload_n (pc' := 1167) rfl rfl rfl ?_
        refine ev_aload_n (pc' := 1168) rfl rfl rfl ?_
        refine ev_iload_n (pc' := 1169) rfl rfl rfl ?_
        refine ev_iconst (pc' := 1170) rfl rfl (v := (1 : Int32)) (by decide) ?_
        refine ev_iadd (pc' := 1171) rfl rfl ?_
        obtain ⟨hi, h⟩ := gdB h
        refine ev_sald (pc' := 1172) rfl rfl (inR_vp hi) ?_
        refine ev_aload_n (pc' := 1173) rfl rfl rfl ?_
        refine ev_iload_n (pc' := 1174) rfl rfl rfl ?_
        refine ev_iconst (pc' := 1175) rfl rfl (v := (2 : Int32)) (by decide) ?_
        refine ev_iadd (pc' := 1176) rfl rfl ?_
        obtain ⟨hi, h⟩ := gdB h
        refine ev_sald (pc' := 1177) rfl rfl (inR_vp hi) ?_
        obtain ⟨q54, hq54, h⟩ := Option.bind_eq_some_iff.mp h
        refine ev_V3I (pc' := 1180) rfl (by decide) rfl mth_188 ⟨Nat.le_of_ble_eq_true rfl, rfl⟩ capL (d_X7_about hq54) ?_
        refine ev_pop (pc' := 1181) rfl rfl rfl ?_
        refine ev_goto (pc' := 1233) rfl ?_
        exact e_L_law_1233 (hr18 := hr18) hΨ h
      | 28, hn =>
        obtain rfl := Option.some.inj hn
        have e9 : ((xs v3.toNatClampNeg) &&& (31 : Int32)) = (28 : Int32) := Int32.toInt_inj.mp (hv.trans (by decide))
        have h := (if_neg (show ¬ ((xs v3.toNatClampNeg) &&& (31 : Int32)) = (0 : Int32) from by rw [e9]; decide)).symm.trans h
        have h := (if_neg (show ¬ ((xs v3.toNatClampNeg) &&& (31 : Int32)) = (1 : Int32) from by rw [e9]; decide)).symm.trans h
        have h := (if_neg (show ¬ ((xs v3.toNatClampNeg) &&& (31 : Int32)) = (2 : Int32) from by rw [e9]; decide)).symm.trans h
        have h := (if_neg (show ¬ ((xs v3.toNatClampNeg) &&& (31 : Int32)) = (3 : Int32) from by rw [e9]; decide)).symm.trans h
        have h := (if_neg (show ¬ ((xs v3.toNatClampNeg) &&& (31 : Int32)) = (4 : Int32) from by rw [e9]; decide)).symm.trans h
        have h := (if_neg (show ¬ ((xs v3.toNatClampNeg) &&& (31 : Int32)) = (5 : Int32) from by rw [e9]; decide)).symm.trans h
        have h := (if_neg (show ¬ ((xs v3.toNatClampNeg) &&& (31 : Int32)) = (6 : Int32) from by rw [e9]; decide)).symm.trans h
        have h := (if_neg (show ¬ ((xs v3.toNatClampNeg) &&& (31 : Int32)) = (7 : Int32) from by rw [e9]; decide)).symm.trans h
        have h := (if_neg (show ¬ ((xs v3.toNatClampNeg) &&& (31 : Int32)) = (8 : Int32) from by rw [e9]; decide)).symm.trans h
        have h := (if_neg (show ¬ ((xs v3.toNatClampNeg) &&& (31 : Int32)) = (9 : Int32) from by rw [e9]; decide)).symm.trans h
        have h := (if_neg (show ¬ ((xs v3.toNatClampNeg) &&& (31 : Int32)) = (10 : Int32) from by rw [e9]; decide)).symm.trans h
        have h := (if_neg (show ¬ ((xs v3.toNatClampNeg) &&& (31 : Int32)) = (11 : Int32) from by rw [e9]; decide)).symm.trans h
        have h := (if_neg (show ¬ ((xs v3.toNatClampNeg) &&& (31 : Int32)) = (12 : Int32) from by rw [e9]; decide)).symm.trans h
        have h := (if_neg (show ¬ ((xs v3.toNatClampNeg) &&& (31 : Int32)) = (13 : Int32) from by rw [e9]; decide)).symm.trans h
        have h := (if_neg (show ¬ ((xs v3.toNatClampNeg) &&& (31 : Int32)) = (14 : Int32) from by rw [e9]; decide)).symm.trans h
        have h := (if_neg (show ¬ ((xs v3.toNatClampNeg) &&& (31 : Int32)) = (15 : Int32) from by rw [e9]; decide)).symm.trans h
        have h := (if_neg (show ¬ ((xs v3.toNatClampNeg) &&& (31 : Int32)) = (16 : Int32) from by rw [e9]; decide)).symm.trans h
        have h := (if_neg (show ¬ ((xs v3.toNatClampNeg) &&& (31 : Int32)) = (17 : Int32) from by rw [e9]; decide)).symm.trans h
        have h := (if_neg (show ¬ ((xs v3.toNatClampNeg) &&& (31 : Int32)) = (18 : Int32) from by rw [e9]; decide)).symm.trans h
        have h := (if_neg (show ¬ ((xs v3.toNatClampNeg) &&& (31 : Int32)) = (19 : Int32) from by rw [e9]; decide)).symm.trans h
        have h := (if_neg (show ¬ ((xs v3.toNatClampNeg) &&& (31 : Int32)) = (20 : Int32) from by rw [e9]; decide)).symm.trans h
        have h := (if_neg (show ¬ ((xs v3.toNatClampNeg) &&& (31 : Int32)) = (21 : Int32) from by rw [e9]; decide)).symm.trans h
        have h := (if_neg (show ¬ ((xs v3.toNatClampNeg) &&& (31 : Int32)) = (22 : Int32) from by rw [e9]; decide)).symm.trans h
        have h := (if_neg (show ¬ ((xs v3.toNatClampNeg) &&& (31 : Int32)) = (23 : Int32) from by rw [e9]; decide)).symm.trans h
        have h := (if_neg (show ¬ ((xs v3.toNatClampNeg) &&& (31 : Int32)) = (24 : Int32) from by rw [e9]; decide)).symm.trans h
        have h := (if_neg (show ¬ ((xs v3.toNatClampNeg) &&& (31 : Int32)) = (25 : Int32) from by rw [e9]; decide)).symm.trans h
        have h := (if_neg (show ¬ ((xs v3.toNatClampNeg) &&& (31 : Int32)) = (26 : Int32) from by rw [e9]; decide)).symm.trans h
        have h := (if_neg (show ¬ ((xs v3.toNatClampNeg) &&& (31 : Int32)) = (27 : Int32) from by rw [e9]; decide)).symm.trans h
        have h := (if_pos e9).symm.trans h
        refine ev_aload_n (pc' := 1185) rfl rfl rfl ?_
        obtain ⟨q55, hq55, h⟩ := Option.bind_eq_some_iff.mp h
        refine ev_V1I (pc' := 1188) rfl (by decide) rfl mth_102 ⟨Nat.le_of_ble_eq_true rfl, rfl⟩ capL (d_X6_keep hq55) ?_
        refine ev_pop (pc' := 1189) rfl rfl rfl ?_
        refine ev_aload_n (pc' := 1190) rfl rfl rfl ?_
        obtain ⟨q56, hq56, h⟩ := Option.bind_eq_some_iff.mp h
        refine ev_V1I (pc' := 1193) rfl (by decide) rfl mth_189 ⟨Nat.le_of_ble_eq_true rfl, rfl⟩ capL (d_X7_keep hq56) ?_
        refine ev_pop (pc' := 1194) rfl rfl rfl ?_
        refine ev_goto (pc' := 1233) rfl ?_
        exact e_L_law_1233 (hr18 := hr18) hΨ h
      | 29, hn =>
        obtain rfl := Option.some.inj hn
        have e9 : ((xs v3.toNatClampNeg) &&& (31 : Int32)) = (29 : Int32) := Int32.toInt_inj.mp (hv.trans (by decide))
        have h := (if_neg (show ¬ ((xs v3.toNatClampNeg) &&& (31 : Int32)) = (0 : Int32) from by rw [e9]; decide)).symm.trans h
        have h := (if_neg (show ¬ ((xs v3.toNatClampNeg) &&& (31 : Int32)) = (1 : Int32) from by rw [e9]; decide)).symm.trans h
        have h := (if_neg (show ¬ ((xs v3.toNatClampNeg) &&& (31 : Int32)) = (2 : Int32) from by rw [e9]; decide)).symm.trans h
        have h := (if_neg (show ¬ ((xs v3.toNatClampNeg) &&& (31 : Int32)) = (3 : Int32) from by rw [e9]; decide)).symm.trans h
        have h := (if_neg (show ¬ ((xs v3.toNatClampNeg) &&& (31 : Int32)) = (4 : Int32) from by rw [e9]; decide)).symm.trans h
        have h := (if_neg (show ¬ ((xs v3.toNatClampNeg) &&& (31 : Int32)) = (5 : Int32) from by rw [e9]; decide)).symm.trans h
        have h := (if_neg (show ¬ ((xs v3.toNatClampNeg) &&& (31 : Int32)) = (6 : Int32) from by rw [e9]; decide)).symm.trans h
        have h := (if_neg (show ¬ ((xs v3.toNatClampNeg) &&& (31 : Int32)) = (7 : Int32) from by rw [e9]; decide)).symm.trans h
        have h := (if_neg (show ¬ ((xs v3.toNatClampNeg) &&& (31 : Int32)) = (8 : Int32) from by rw [e9]; decide)).symm.trans h
        have h := (if_neg (show ¬ ((xs v3.toNatClampNeg) &&& (31 : Int32)) = (9 : Int32) from by rw [e9]; decide)).symm.trans h
        have h := (if_neg (show ¬ ((xs v3.toNatClampNeg) &&& (31 : Int32)) = (10 : Int32) from by rw [e9]; decide)).symm.trans h
        have h := (if_neg (show ¬ ((xs v3.toNatClampNeg) &&& (31 : Int32)) = (11 : Int32) from by rw [e9]; decide)).symm.trans h
        have h := (if_neg (show ¬ ((xs v3.toNatClampNeg) &&& (31 : Int32)) = (12 : Int32) from by rw [e9]; decide)).symm.trans h
        have h := (if_neg (show ¬ ((xs v3.toNatClampNeg) &&& (31 : Int32)) = (13 : Int32) from by rw [e9]; decide)).symm.trans h
        have h := (if_neg (show ¬ ((xs v3.toNatClampNeg) &&& (31 : Int32)) = (14 : Int32) from by rw [e9]; decide)).symm.trans h
        have h := (if_neg (show ¬ ((xs v3.toNatClampNeg) &&& (31 : Int32)) = (15 : Int32) from by rw [e9]; decide)).symm.trans h
        have h := (if_neg (show ¬ ((xs v3.toNatClampNeg) &&& (31 : Int32)) = (16 : Int32) from by rw [e9]; decide)).symm.trans h
        have h := (if_neg (show ¬ ((xs v3.toNatClampNeg) &&& (31 : Int32)) = (17 : Int32) from by rw [e9]; decide)).symm.trans h
        have h := (if_neg (show ¬ ((xs v3.toNatClampNeg) &&& (31 : Int32)) = (18 : Int32) from by rw [e9]; decide)).symm.trans h
        have h := (if_neg (show ¬ ((xs v3.toNatClampNeg) &&& (31 : Int32)) = (19 : Int32) from by rw [e9]; decide)).symm.trans h
        have h := (if_neg (show ¬ ((xs v3.toNatClampNeg) &&& (31 : Int32)) = (20 : Int32) from by rw [e9]; decide)).symm.trans h
        have h := (if_neg (show ¬ ((xs v3.toNatClampNeg) &&& (31 : Int32)) = (21 : Int32) from by rw [e9]; decide)).symm.trans h
        have h := (if_neg (show ¬ ((xs v3.toNatClampNeg) &&& (31 : Int32)) = (22 : Int32) from by rw [e9]; decide)).symm.trans h
        have h := (if_neg (show ¬ ((xs v3.toNatClampNeg) &&& (31 : Int32)) = (23 : Int32) from by rw [e9]; decide)).symm.trans h
        have h := (if_neg (show ¬ ((xs v3.toNatClampNeg) &&& (31 : Int32)) = (24 : Int32) from by rw [e9]; decide)).symm.trans h
        have h := (if_neg (show ¬ ((xs v3.toNatClampNeg) &&& (31 : Int32)) = (25 : Int32) from by rw [e9]; decide)).symm.trans h
        have h := (if_neg (show ¬ ((xs v3.toNatClampNeg) &&& (31 : Int32)) = (26 : Int32) from by rw [e9]; decide)).symm.trans h
        have h := (if_neg (show ¬ ((xs v3.toNatClampNeg) &&& (31 : Int32)) = (27 : Int32) from by rw [e9]; decide)).symm.trans h
        have h := (if_neg (show ¬ ((xs v3.toNatClampNeg) &&& (31 : Int32)) = (28 : Int32) from by rw [e9]; decide)).symm.trans h
        have h := (if_pos e9).symm.trans h
        refine ev_aload_n (pc' := 1198) rfl rfl rfl ?_
        obtain ⟨q57, hq57, h⟩ := Option.bind_eq_some_iff.mp h
        refine ev_V1I (pc' := 1201) rfl (by decide) rfl mth_103 ⟨Nat.le_of_ble_eq_true rfl, rfl⟩ capL (d_X6_back hq57) ?_
        refine ev_pop (pc' := 1202) rfl rfl rfl ?_
        refine ev_aload_n (pc' := 1203) rfl rfl rfl ?_
        obtain ⟨q58, hq58, h⟩ := Option.bind_eq_some_iff.mp h
        refine ev_V1I (pc' := 1206) rfl (by decide) rfl mth_190 ⟨Nat.le_of_ble_eq_true rfl, rfl⟩ capL (d_X7_back hq58) ?_
        refine ev_pop (pc' := 1207) rfl rfl rfl ?_
        refine ev_goto (pc' := 1233) rfl ?_
        exact e_L_law_1233 (hr18 := hr18) hΨ h
      | 30, hn =>
        obtain rfl := Option.some.inj hn
        have e9 : ((xs v3.toNatClampNeg) &&& (31 : Int32)) = (30 : Int32) := Int32.toInt_inj.mp (hv.trans (by decide))
        have h := (if_neg (show ¬ ((xs v3.toNatClampNeg) &&& (31 : Int32)) = (0 : Int32) from by rw [e9]; decide)).symm.trans h
        have h := (if_neg (show ¬ ((xs v3.toNatClampNeg) &&& (31 : Int32)) = (1 : Int32) from by rw [e9]; decide)).symm.trans h
        have h := (if_neg (show ¬ ((xs v3.toNatClampNeg) &&& (31 : Int32)) = (2 : Int32) from by rw [e9]; decide)).symm.trans h
        have h := (if_neg (show ¬ ((xs v3.toNatClampNeg) &&& (31 : Int32)) = (3 : Int32) from by rw [e9]; decide)).symm.trans h
        have h := (if_neg (show ¬ ((xs v3.toNatClampNeg) &&& (31 : Int32)) = (4 : Int32) from by rw [e9]; decide)).symm.trans h
        have h := (if_neg (show ¬ ((xs v3.toNatClampNeg) &&& (31 : Int32)) = (5 : Int32) from by rw [e9]; decide)).symm.trans h
        have h := (if_neg (show ¬ ((xs v3.toNatClampNeg) &&& (31 : Int32)) = (6 : Int32) from by rw [e9]; decide)).symm.trans h
        have h := (if_neg (show ¬ ((xs v3.toNatClampNeg) &&& (31 : Int32)) = (7 : Int32) from by rw [e9]; decide)).symm.trans h
        have h := (if_neg (show ¬ ((xs v3.toNatClampNeg) &&& (31 : Int32)) = (8 : Int32) from by rw [e9]; decide)).symm.trans h
        have h := (if_neg (show ¬ ((xs v3.toNatClampNeg) &&& (31 : Int32)) = (9 : Int32) from by rw [e9]; decide)).symm.trans h
        have h := (if_neg (show ¬ ((xs v3.toNatClampNeg) &&& (31 : Int32)) = (10 : Int32) from by rw [e9]; decide)).symm.trans h
        have h := (if_neg (show ¬ ((xs v3.toNatClampNeg) &&& (31 : Int32)) = (11 : Int32) from by rw [e9]; decide)).symm.trans h
        have h := (if_neg (show ¬ ((xs v3.toNatClampNeg) &&& (31 : Int32)) = (12 : Int32) from by rw [e9]; decide)).symm.trans h
        have h := (if_neg (show ¬ ((xs v3.toNatClampNeg) &&& (31 : Int32)) = (13 : Int32) from by rw [e9]; decide)).symm.trans h
        have h := (if_neg (show ¬ ((xs v3.toNatClampNeg) &&& (31 : Int32)) = (14 : Int32) from by rw [e9]; decide)).symm.trans h
        have h := (if_neg (show ¬ ((xs v3.toNatClampNeg) &&& (31 : Int32)) = (15 : Int32) from by rw [e9]; decide)).symm.trans h
        have h := (if_neg (show ¬ ((xs v3.toNatClampNeg) &&& (31 : Int32)) = (16 : Int32) from by rw [e9]; decide)).symm.trans h
        have h := (if_neg (show ¬ ((xs v3.toNatClampNeg) &&& (31 : Int32)) = (17 : Int32) from by rw [e9]; decide)).symm.trans h
        have h := (if_neg (show ¬ ((xs v3.toNatClampNeg) &&& (31 : Int32)) = (18 : Int32) from by rw [e9]; decide)).symm.trans h
        have h := (if_neg (show ¬ ((xs v3.toNatClampNeg) &&& (31 : Int32)) = (19 : Int32) from by rw [e9]; decide)).symm.trans h
        have h := (if_neg (show ¬ ((xs v3.toNatClampNeg) &&& (31 : Int32)) = (20 : Int32) from by rw [e9]; decide)).symm.trans h
        have h := (if_neg (show ¬ ((xs v3.toNatClampNeg) &&& (31 : Int32)) = (21 : Int32) from by rw [e9]; decide)).symm.trans h
        have h := (if_neg (show ¬ ((xs v3.toNatClampNeg) &&& (31 : Int32)) = (22 : Int32) from by rw [e9]; decide)).symm.trans h
        have h := (if_neg (show ¬ ((xs v3.toNatClampNeg) &&& (31 : Int32)) = (23 : Int32) from by rw [e9]; decide)).symm.trans h
        have h := (if_neg (show ¬ ((xs v3.toNatClampNeg) &&& (31 : Int32)) = (24 : Int32) from by rw [e9]; decide)).symm.trans h
        have h := (if_neg (show ¬ ((xs v3.toNatClampNeg) &&& (31 : Int32)) = (25 : Int32) from by rw [e9]; decide)).symm.trans h
        have h := (if_neg (show ¬ ((xs v3.toNatClampNeg) &&& (31 : Int32)) = (26 : Int32) from by rw [e9]; decide)).symm.trans h
        have h := (if_neg (show ¬ ((xs v3.toNatClampNeg) &&& (31 : Int32)) = (27 : Int32) from by rw [e9]; decide)).symm.trans h
        have h := (if_neg (show ¬ ((xs v3.toNatClampNeg) &&& (31 : Int32)) = (28 : Int32) from by rw [e9]; decide)).symm.trans h
        have h := (if_neg (show ¬ ((xs v3.toNatClampNeg) &&& (31 : Int32)) = (29 : Int32) from by rw [e9]; decide)).symm.trans h
        have h := (if_pos e9).symm.trans h
        refine ev_aload_n (pc' := 1211) rfl rfl rfl ?_
        refine ev_aload_n (pc' := 1212) rfl rfl rfl ?_
        refine ev_iload_n (pc' := 1213) rfl rfl rfl ?_
        refine ev_iconst (pc' := 1214) rfl rfl (v := (1 : Int32)) (by decide) ?_
        refine ev_iadd (pc' := 1215) rfl rfl ?_
        obtain ⟨hi, h⟩ := gdB h
        refine ev_sald (pc' := 1216) rfl rfl (inR_vp hi) ?_
        obtain ⟨q59, hq59, h⟩ := Option.bind_eq_some_iff.mp h
        refine ev_V2I (pc' := 1219) rfl (by decide) rfl mth_104 ⟨Nat.le_of_ble_eq_true rfl, rfl⟩ capL (d_X6_count hq59) ?_
        refine ev_aload_n (pc' := 1220) rfl rfl rfl ?_
        refine ev_aload_n (pc' := 1221) rfl rfl rfl ?_
        refine ev_iload_n (pc' := 1222) rfl rfl rfl ?_
        refine ev_iconst (pc' := 1223) rfl rfl (v := (1 : Int32)) (by decide) ?_
        refine ev_iadd (pc' := 1224) rfl rfl ?_
        obtain ⟨hi, h⟩ := gdB h
        refine ev_sald (pc' := 1225) rfl rfl (inR_vp hi) ?_
        obtain ⟨q60, hq60, h⟩ := Option.bind_eq_some_iff.mp h
        refine ev_V2I (pc' := 1228) rfl (by decide) rfl mth_191 ⟨Nat.le_of_ble_eq_true rfl, rfl⟩ capL (d_X7_count hq60) ?_
        refine ev_icmp_eq rfl (pc' := 1231) rfl (fun hc => ?_) (fun hc => ?_)
        · have h := (if_pos hc).symm.trans h
          exact e_L_law_1233 (hr18 := hr18) hΨ h
        · have h := (if_neg hc).symm.trans h
          refine ev_iconst (pc' := 1232) rfl rfl (v := (0 : Int32)) (by decide) ?_
          obtain rfl := Option.some.inj h
          exact absurd hΨ Bool.false_ne_true
      | n + 31, hn => exact absurd hn (by simp)
def s_L_law_R18 (L : Nat) (xs : Nat → Int32) : Nat → Int32 → (Nat → Nat → Nat → Int32) → (Nat → Nat → Nat → Int64) → Option (Bool × GS)
  | 0 => fun _ _ _ => none
  | n + 1 => s_L_law_18 L xs (s_L_law_R18 L xs n)
theorem e_L_law_R18 {L : Nat} {xs : Nat → Int32} {r : Bool × GS} (hΨ : r.1 = true) : ∀ (n : Nat) {v3 : Int32} {g : Nat → Nat → Nat → Int32} {w : Nat → Nat → Nat → Int64}, s_L_law_R18 L xs n v3 g w = some r → Ev (EvM mth 12) mth (600000, 7302250) (L, xs) lawret (lkp inL.2.2.2.2.2.2.2.2) 18 [some (aR 900 0), some (aR 6 0), some (aR 7 0), some (aI v3)] [] (L0, g, w, q0) := by
  intro n
  induction n with
  | zero => intros; rename_i h; exact absurd h (by intro h9; cases h9)
  | succ n ih => intros; rename_i h; exact e_L_law_18 (hr18 := ih) hΨ h