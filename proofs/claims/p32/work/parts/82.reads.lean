/-! the calls that read: both sides alike -/
section
variable {g : Nat → Nat → Nat → Int32} {w : Nat → Nat → Nat → Int64} {hb : Nat} {c : Nat → Int64} {pl ba : Nat → Nat} {p1 p2 p3 : Int32}
theorem re_way (H : REL g w) : Ok (s_X6_way 0 p1 p2 g w) (fun q => Ok (s_X7_way 0 p1 p2 g w) (fun r => q = r)) := by
  obtain ⟨S, pl, ba, L⟩ := H
  have B := L.2.2.1
  have HB1 : HB g w 0 (w 2218 0) := ⟨S.2.2.2.1, L.2.1⟩
  have hv := nf_rb B.1.2.2.2.2.1
  unfold s_X6_way s_X6_way_14 s_X7_way s_X7_way_23 s_X7_way_24
  by_cases h1 : IX 6 p1
  · rw [if_pos (gb6.mpr h1), if_pos (gb7.mpr h1)]
    by_cases h2 : IX 6 p2
    · rw [if_pos (gb6.mpr h2), if_pos (gb7.mpr h2)]
      obtain ⟨a, ha, rfl⟩ := h1
      obtain ⟨b, hb, rfl⟩ := h2
      rw [c_speed HB1 B, way6 L.1.1 L.1.2.2 ha hb hv.1 hv.2, way7 L.1.2.1 L.1.2.2 rv_self B ha hb]
      exact ⟨_, rfl, _, rfl, rfl⟩
    · rw [if_neg (fun q => h2 (gb6.mp q)), if_neg (fun q => h2 (gb7.mp q))]
      exact ⟨_, rfl, _, rfl, rfl⟩
  · rw [if_neg (fun q => h1 (gb6.mp q)), if_neg (fun q => h1 (gb7.mp q))]
    exact ⟨_, rfl, _, rfl, rfl⟩
theorem re_job (H : REL g w) : Ok (s_X6_job 0 p1 p2 g w) (fun q => Ok (s_X7_job 0 p1 p2 g w) (fun r => q = r)) := by
  obtain ⟨S, pl, ba, L⟩ := H
  have B := L.2.2.1
  have h8 := sn8 B
  have HB1 : HB g w 0 (w 2218 0) := ⟨S.2.2.2.1, L.2.1⟩
  unfold s_X6_job s_X6_job_17 s_X6_job_54 s_X7_job s_X7_job_18 s_X7_job_54
  rw [within_eq, in32 p2 0 1 (by decide) (by decide)]
  by_cases h1 : IX (SN (w 2218 0)) p1
  · rw [if_pos ((gs6 HB1 B).mpr h1), if_pos ((gs7 rv_self B).mpr h1)]
    obtain ⟨s, hs, rfl⟩ := h1
    by_cases h2 : decide ((0 : Int32) ≤ p2 ∧ p2 ≤ 1) = true
    · rw [if_pos h2, if_pos h2, if_pos (inR_I (k := s) (n := 8) (by omega) (by decide)), I_tn (by omega)]
      obtain ⟨b, eb, hbb⟩ := r_hasJob (g := g) rv_self B hs
      rw [eb]
      show Ok _ (fun q => Ok (if b = true then _ else _) (fun r => q = r))
      by_cases e : b = true
      · have hJ := hbb.mp e
        rw [if_pos ((hasJob6 HB1 B (by omega)).mpr ⟨hs, hJ⟩), if_pos e]
        by_cases h3 : p2 ≠ 0
        · rw [if_pos h3, if_pos h3, c_ship HB1 B hs (by decide) (by decide), show s_X7_ofShip 0 (I s) 8 g w = _ from r_ship rv_self B hs (j := 8) (by decide) (by decide)]
          exact ⟨_, rfl, _, rfl, rfl⟩
        · rw [if_neg h3, if_neg h3, c_hour HB1 B hs hJ, show s_X7_ofShip 0 (I s) 7 g w = _ from r_hour rv_self B hs hJ]
          exact ⟨_, rfl, _, rfl, rfl⟩
      · rw [if_neg (fun q => e (hbb.mpr ((hasJob6 HB1 B (by omega)).mp q).2)), if_neg e]
        exact ⟨_, rfl, _, rfl, rfl⟩
    · rw [if_neg h2, if_neg h2]
      exact ⟨_, rfl, _, rfl, rfl⟩
  · rw [if_neg (fun q => h1 ((gs6 HB1 B).mp q)), if_neg (fun q => h1 ((gs7 rv_self B).mp q))]
    exact ⟨_, rfl, _, rfl, rfl⟩
theorem re_work (H : REL g w) : Ok (s_X6_work 0 p1 p2 g w) (fun q => Ok (s_X7_work 0 p1 p2 g w) (fun r => q = r)) := by
  obtain ⟨S, pl, ba, L⟩ := H
  have B := L.2.2.1
  have h6 := tn6 B
  have HB1 : HB g w 0 (w 2218 0) := ⟨S.2.2.2.1, L.2.1⟩
  unfold s_X6_work s_X6_work_17 s_X6_work_52 s_X7_work s_X7_work_18 s_X7_work_41
  rw [within_eq, in32 p2 0 1 (by decide) (by decide)]
  by_cases h1 : IX (TN (w 2218 0)) p1
  · rw [if_pos ((gt6 HB1 B).mpr h1), if_pos ((gt7 rv_self B).mpr h1)]
    obtain ⟨t, ht, rfl⟩ := h1
    by_cases h2 : decide ((0 : Int32) ≤ p2 ∧ p2 ≤ 1) = true
    · rw [if_pos h2, if_pos h2]
      by_cases h3 : p2 ≠ 0
      · rw [if_pos h3, if_pos h3, if_pos (inR_I (k := t) (n := 6) (by omega) (by decide)), I_tn (by omega), (HB1.2.2.1 t ht).2.2, r_bunk rv_self B ht]
        exact ⟨_, rfl, _, rfl, rfl⟩
      · rw [if_neg h3, if_neg h3, if_pos (inR_I (k := t) (n := 6) (by omega) (by decide)), I_tn (by omega), (HB1.2.2.1 t ht).2.1, r_work rv_self B ht]
        exact ⟨_, rfl, _, rfl, rfl⟩
    · rw [if_neg h2, if_neg h2]
      exact ⟨_, rfl, _, rfl, rfl⟩
  · rw [if_neg (fun q => h1 ((gt6 HB1 B).mp q)), if_neg (fun q => h1 ((gt7 rv_self B).mp q))]
    exact ⟨_, rfl, _, rfl, rfl⟩
theorem re_may (H : REL g w) : Ok (s_X6_may 0 p1 p2 p3 g w) (fun q => Ok (s_X7_may 0 p1 p2 p3 g w) (fun r => q = r)) := by
  obtain ⟨S, pl, ba, L⟩ := H
  have B := L.2.2.1
  have h8 := sn8 B
  have h6 := tn6 B
  have HB1 : HB g w 0 (w 2218 0) := ⟨S.2.2.2.1, L.2.1⟩
  unfold s_X6_may s_X6_may_23 s_X6_may_60 s_X7_may s_X7_may_23 s_X7_may_45
  by_cases h1 : IX (SN (w 2218 0)) p1
  · rw [if_pos ((gs6 HB1 B).mpr h1), if_pos ((gs7 rv_self B).mpr h1)]
    by_cases h2 : IX 48 p2
    · rw [if_pos (gh6.mpr h2), if_pos (gh7.mpr h2)]
      by_cases h3 : IS (2 ^ TN (w 2218 0)) p3
      · rw [if_pos ((gx6 HB1 B).mpr h3), if_pos ((gx7 rv_self B).mpr h3)]
        obtain ⟨s, hs, rfl⟩ := h1
        obtain ⟨h, hh, rfl⟩ := h2
        obtain ⟨X, hX1, hX, rfl⟩ := h3
        rw [if_pos (inR_I (k := s) (n := 8) (by omega) (by decide)), I_tn (by omega)]
        obtain ⟨b, eb, hbb⟩ := r_hasJob (g := g) rv_self B hs
        rw [eb]
        show Ok _ (fun q => Ok (if b = true then _ else _) (fun r => q = r))
        by_cases e : b = true
        · have hJ := hbb.mp e
          rw [if_pos ((hasJob6 HB1 B (by omega)).mpr ⟨hs, hJ⟩), if_pos e]
          exact ⟨_, rfl, _, rfl, rfl⟩
        · have hJ : ¬ JOB (w 2218 0) s := fun q => e (hbb.mpr q)
          rw [if_neg (fun q => hJ ((hasJob6 HB1 B (by omega)).mp q).2), if_neg e]
          obtain ⟨r, e1, f1⟩ := why6 HB1 B L.1.1 L.1.2.2 hs hX (h := h) (by omega)
          obtain ⟨r', e2, f2⟩ := why7 (g := g) rv_self B L.1.2.1 L.1.2.2 hs hJ (s64 B hX) (h := h) (by omega)
          have er := first_uniq f1 f2
          subst er
          rw [e1, e2]
          exact ⟨_, rfl, _, rfl, rfl⟩
      · rw [if_neg (fun q => h3 ((gx6 HB1 B).mp q)), if_neg (fun q => h3 ((gx7 rv_self B).mp q))]
        exact ⟨_, rfl, _, rfl, rfl⟩
    · rw [if_neg (fun q => h2 (gh6.mp q)), if_neg (fun q => h2 (gh7.mp q))]
      exact ⟨_, rfl, _, rfl, rfl⟩
  · rw [if_neg (fun q => h1 ((gs6 HB1 B).mp q)), if_neg (fun q => h1 ((gs7 rv_self B).mp q))]
    exact ⟨_, rfl, _, rfl, rfl⟩
/-- where a tug is last -/
def LB7 (c : Nat → Int64) (t v : Nat) : Prop := ((∀ o, ¬ WITH c o t) ∧ v = TF c t 6) ∨ ∃ o, BEFORE c t 48 o ∧ v = SF c o 6
theorem lb_same (B : BI c) {t v v' : Nat} (ht : t < TN c) (h : LB7 c t v) (h' : LB7 c t v') : v = v' := by
  rcases h with ⟨a, rfl⟩ | ⟨o, a, rfl⟩ <;> rcases h' with ⟨a', rfl⟩ | ⟨o', a', rfl⟩
  · rfl
  · exact absurd a'.1 (a o')
  · exact absurd a.1 (a' o)
  · rw [before_uniq B ht a a']
theorem lastBerth6 (H : HB g w hb c) (B : BI c) {t : Nat} (ht : t < TN c) : ∃ v, s_X1_lastBerth hb (I t) g w = some (I v) ∧ LB7 c t v := by
  have h6 := tn6 B
  obtain ⟨r, e, q⟩ := before6 H B ht (h := 48) (by decide)
  unfold s_X1_lastBerth s_X1_lastBerth_28
  rw [show s_X1_jobBefore hb (I t) 48 g w = some r from e]
  rcases q with ⟨rfl, no⟩ | ⟨o, rfl, hB⟩
  · refine ⟨TF c t 6, ?_, Or.inl ⟨fun o q => no o q (by have := with_last B q; omega), rfl⟩⟩
    show (if inR (I t) 6 = true then some (g 5 (6 * hb + (I t).toNatClampNeg) 6) else none) = _
    rw [if_pos (inR_I (k := t) (n := 6) (by omega) (by decide)), I_tn (by omega), c_tug H B ht (by decide)]
  · refine ⟨SF c o 6, ?_, Or.inr ⟨o, hB, rfl⟩⟩
    show some (g 4 (8 * hb + o) 6) = _
    rw [c_ship H B hB.1.1 (by decide) (by decide)]
theorem berthOf7 (R : RV w c) (B : BI c) {t : Nat} (ht : t < TN c) : ∃ v, s_X7_berthOf 0 (I t) g w = some (I v) ∧ LB7 c t v := by
  have h8 := sn8 B
  have h6 := tn6 B
  have key : ∀ (n k : Nat) (v : Nat) (l : Int32), k ≤ SN c → (((∀ o, o < k → ¬ WITH c o t) ∧ l = -1 ∧ v = TF c t 6) ∨ ∃ o, o < k ∧ WITH c o t ∧ l = I (LAST c o) ∧ v = SF c o 6 ∧ ∀ o', o' < k → WITH c o' t → LAST c o' ≤ LAST c o) → 9 - k < n →
      ∃ v', s_X7_berthOf_R13 0 (I t) n (I v) l (I k) g w = some (I v') ∧ LB7 c t v' := by
    intro n
    induction n with
    | zero => intro k v l _ _ hm; omega
    | succ n ih =>
      intro k v l h1 h2 hm
      show ∃ v', s_X7_berthOf_13 0 (I t) (s_X7_berthOf_R13 0 (I t) n) (I v) l (I k) g w = some (I v') ∧ _
      unfold s_X7_berthOf_13 s_X7_berthOf_63
      rw [I_suc]
      by_cases hk : k < SN c
      · rw [if_neg (fun q => by have := (endS R B (k := k) (by omega)).mp q; omega)]
        obtain ⟨b, eb, hbb⟩ := isOf7 (g := g) (t := t) R B hk (by omega)
        rw [eb]
        show ∃ v', (if b = true then _ else _) = some (I v') ∧ _
        by_cases e : b = true
        · have hW := hbb.mp e
          have ll := last_lt B hk hW.2.1
          rw [if_pos e, last7 R B hk hW.2.1, show s_X7_ofShip 0 (I k) 6 g w = _ from r_ship R B hk (j := 6) (by decide) (by decide)]
          show ∃ v', (if I (LAST c k) ≤ l then s_X7_berthOf_R13 0 (I t) n (I v) l (I (k + 1)) g w else s_X7_berthOf_R13 0 (I t) n (I (SF c k 6)) (I (LAST c k)) (I (k + 1)) g w) = some (I v') ∧ _
          rcases h2 with ⟨no, rfl, rfl⟩ | ⟨o, o1, o2, rfl, rfl, o3⟩
          · rw [if_neg (by rw [Int32.le_iff_toInt_le, I_toInt (by omega), show (-1 : Int32).toInt = -1 from rfl]; omega)]
            refine ih (k + 1) _ _ (by omega) (Or.inr ⟨k, by omega, hW, rfl, rfl, fun o' q1 q2 => ?_⟩) (by omega)
            by_cases e2 : o' = k
            · rw [e2]; exact Nat.le_refl _
            · exact absurd q2 (no o' (by omega))
          · have lo := with_last B o2
            by_cases e3 : LAST c k ≤ LAST c o
            · rw [if_pos (ile e3 (by omega))]
              refine ih (k + 1) _ _ (by omega) (Or.inr ⟨o, by omega, o2, rfl, rfl, fun o' q1 q2 => ?_⟩) (by omega)
              by_cases e2 : o' = k
              · rw [e2]; exact e3
              · exact o3 o' (by omega) q2
            · rw [if_neg (nle (by omega) (by omega))]
              refine ih (k + 1) _ _ (by omega) (Or.inr ⟨k, by omega, hW, rfl, rfl, fun o' q1 q2 => ?_⟩) (by omega)
              by_cases e2 : o' = k
              · rw [e2]; exact Nat.le_refl _
              · have := o3 o' (by omega) q2; omega
        · have hW : ¬ WITH c k t := fun q => e (hbb.mpr q)
          rw [if_neg e]
          refine ih (k + 1) _ _ (by omega) ?_ (by omega)
          rcases h2 with ⟨no, q2, q3⟩ | ⟨o, o1, o2, q2, q3, o3⟩
          · refine Or.inl ⟨fun o q => ?_, q2, q3⟩
            by_cases e2 : o = k
            · rw [e2]; exact hW
            · exact no o (by omega)
          · refine Or.inr ⟨o, by omega, o2, q2, q3, fun o' p1 p2 => ?_⟩
            by_cases e2 : o' = k
            · rw [e2] at p2; exact absurd p2 hW
            · exact o3 o' (by omega) p2
      · have e : k = SN c := by omega
        subst e
        rw [if_pos ((endS R B (k := SN c) (by omega)).mpr (by omega))]
        refine ⟨v, rfl, ?_⟩
        rcases h2 with ⟨no, _, q3⟩ | ⟨o, o1, o2, _, q3, o3⟩
        · exact Or.inl ⟨fun o q => no o q.1 q, q3⟩
        · refine Or.inr ⟨o, before_last B ht o2 (by have := with_last B o2; omega) (fun o' q1 _ => o3 o' q1.1 q1), q3⟩
  unfold s_X7_berthOf
  rw [show s_X7_ofTug 0 (I t) 6 g w = _ from r_tug R B ht (j := 6) (by decide)]
  exact key FU 0 (TF c t 6) (-1) (by omega) (Or.inl ⟨fun o q => by omega, rfl, rfl⟩) (by show 9 - 0 < 1000; omega)
theorem re_about (H : REL g w) : Ok (s_X6_about 0 p1 p2 g w) (fun q => Ok (s_X7_about 0 p1 p2 g w) (fun r => q = r)) := by
  obtain ⟨S, pl, ba, L⟩ := H
  have B := L.2.2.1
  have h6 := tn6 B
  have HB1 : HB g w 0 (w 2218 0) := ⟨S.2.2.2.1, L.2.1⟩
  unfold s_X6_about s_X6_about_116 s_X7_about s_X7_about_20 s_X7_about_135
  rw [in32 p2 0 7 (by decide) (by decide)]
  by_cases h1 : IX (TN (w 2218 0)) p1
  · rw [if_pos ((gt6 HB1 B).mpr h1), if_pos ((gt7 rv_self B).mpr h1)]
    obtain ⟨t, ht, rfl⟩ := h1
    rw [if_pos (inR_I (k := t) (n := 6) (by omega) (by decide)), I_tn (by omega), c_tug HB1 B ht (j := 0) (by decide), c_tug HB1 B ht (j := 1) (by decide), c_tug HB1 B ht (j := 2) (by decide), c_tug HB1 B ht (j := 4) (by decide), c_tug HB1 B ht (j := 5) (by decide), c_tug HB1 B ht (j := 6) (by decide), c_tug HB1 B ht (j := 7) (by decide)]
    rw [show s_X7_ofTug 0 (I t) 0 g w = _ from r_tug rv_self B ht (j := 0) (by decide), show s_X7_ofTug 0 (I t) 1 g w = _ from r_tug rv_self B ht (j := 1) (by decide), show s_X7_ofTug 0 (I t) 2 g w = _ from r_tug rv_self B ht (j := 2) (by decide), show s_X7_ofTug 0 (I t) 4 g w = _ from r_tug rv_self B ht (j := 4) (by decide), show s_X7_ofTug 0 (I t) 5 g w = _ from r_tug rv_self B ht (j := 5) (by decide), show s_X7_ofTug 0 (I t) 6 g w = _ from r_tug rv_self B ht (j := 6) (by decide), show s_X7_ofTug 0 (I t) 7 g w = _ from r_tug rv_self B ht (j := 7) (by decide)]
    by_cases h2 : IX 8 p2
    · rw [if_pos (show decide ((0 : Int32) ≤ p2 ∧ p2 ≤ 7) = true from decide_eq_true ((ix_rg (n := 7) (by decide)).mpr h2))]
      obtain ⟨k, hk, rfl⟩ := h2
      have hk8 : k = 0 ∨ k = 1 ∨ k = 2 ∨ k = 3 ∨ k = 4 ∨ k = 5 ∨ k = 6 ∨ k = 7 := by omega
      rcases hk8 with rfl | rfl | rfl | rfl | rfl | rfl | rfl | rfl
      · exact ⟨_, rfl, _, rfl, rfl⟩
      · exact ⟨_, rfl, _, rfl, rfl⟩
      · exact ⟨_, rfl, _, rfl, rfl⟩
      · exact ⟨_, rfl, _, rfl, rfl⟩
      · exact ⟨_, rfl, _, rfl, rfl⟩
      · exact ⟨_, rfl, _, rfl, rfl⟩
      · show Ok (if I (TF (w 2218 0) t 7) ≠ 48 then some (I (TF (w 2218 0) t 7)) else some (-4)) (fun q => Ok (if I (TF (w 2218 0) t 7) ≠ 48 then some (I (TF (w 2218 0) t 7)) else some (-4)) (fun r => q = r))
        by_cases e : I (TF (w 2218 0) t 7) ≠ 48
        · rw [if_pos e]; exact ⟨_, rfl, _, rfl, rfl⟩
        · rw [if_neg e]; exact ⟨_, rfl, _, rfl, rfl⟩
      · obtain ⟨v, e1, l1⟩ := lastBerth6 HB1 B ht
        obtain ⟨v', e2, l2⟩ := berthOf7 (g := g) rv_self B ht
        have ev := lb_same B ht l1 l2
        subst ev
        show Ok ((s_X1_lastBerth 0 (I t) g w).bind fun q1 => some q1) (fun q => Ok ((s_X7_berthOf 0 (I t) g w).bind fun q9 => some q9) (fun r => q = r))
        rw [e1, e2]
        exact ⟨_, rfl, _, rfl, rfl⟩
    · have no : ∀ k, k < 8 → ¬ p2 = I k := fun k hk e => h2 ⟨k, hk, e⟩
      rw [if_neg (show ¬ decide ((0 : Int32) ≤ p2 ∧ p2 ≤ 7) = true from fun q => h2 ((ix_rg (n := 7) (by decide)).mp (of_decide_eq_true q)))]
      rw [if_neg (show ¬ p2 = 0 from no 0 (by decide)), if_neg (show ¬ p2 = 1 from no 1 (by decide)), if_neg (show ¬ p2 = 2 from no 2 (by decide)), if_neg (show ¬ p2 = 3 from no 3 (by decide)), if_neg (show ¬ p2 = 4 from no 4 (by decide)), if_neg (show ¬ p2 = 5 from no 5 (by decide)), if_neg (show ¬ p2 = 6 from no 6 (by decide)), if_neg (show ¬ p2 = 7 from no 7 (by decide))]
      exact ⟨_, rfl, _, rfl, rfl⟩
  · rw [if_neg (fun q => h1 ((gt6 HB1 B).mp q)), if_neg (fun q => h1 ((gt7 rv_self B).mp q))]
    exact ⟨_, rfl, _, rfl, rfl⟩
/-- what is counted -/
theorem re_count (H : REL g w) : Ok (s_X6_count 0 p1 g w) (fun q => Ok (s_X7_count 0 p1 g w) (fun r => q = r)) := by
  obtain ⟨S, pl, ba, L⟩ := H
  have B := L.2.2.1
  have h8 := sn8 B
  have HB1 : HB g w 0 (w 2218 0) := ⟨S.2.2.2.1, L.2.1⟩
  have e34 : g 3 0 4 = g 7 0 5 := S.2.2.2.2.2.2.1
  have e65 : g 6 0 5 = g 7 0 2 := S.2.2.2.2.1
  have N := L.2.2.2.1
  have key : ∀ (n k : Nat) (v : Int32), k ≤ SN (w 2218 0) → v = I (JC (w 2218 0) k) → 9 - k < n →
      Ok (s_X6_count 0 p1 g w) (fun q => Ok (s_X7_count_R4 0 p1 n v (I k) g w) (fun r => q = r)) := by
    intro n
    induction n with
    | zero => intro k v _ _ hm; omega
    | succ n ih =>
      intro k v h1 hv hm
      show Ok (s_X6_count 0 p1 g w) (fun q => Ok (s_X7_count_4 0 p1 (s_X7_count_R4 0 p1 n) v (I k) g w) (fun r => q = r))
      unfold s_X7_count_4 s_X7_count_31
      by_cases hk : k < SN (w 2218 0)
      · rw [if_neg (fun q => by have := (endS (rv_self (w := w)) B (k := k) (by omega)).mp q; omega), I_suc]
        obtain ⟨b, eb, hbb⟩ := r_hasJob (g := g) (rv_self (w := w)) B hk
        rw [eb]
        show Ok (s_X6_count 0 p1 g w) (fun q => Ok (if b = true then s_X7_count_R4 0 p1 n (v + bI true) (I (k + 1)) g w else s_X7_count_R4 0 p1 n (v + bI false) (I (k + 1)) g w) (fun r => q = r))
        by_cases e : b = true
        · rw [if_pos e]
          refine ih (k + 1) _ (by omega) ?_ (by omega)
          rw [jc_yes ⟨hk, hbb.mp e⟩, hv, bI_v, if_pos rfl, I_add]
        · rw [if_neg e]
          refine ih (k + 1) _ (by omega) ?_ (by omega)
          rw [jc_no (fun q => e (hbb.mpr q.2)), hv, bI_v, if_neg (by decide), I_add, Nat.add_zero]
      · have ek : k = SN (w 2218 0) := by omega
        rw [if_pos ((endS (rv_self (w := w)) B (k := k) (by omega)).mpr (by omega))]
        unfold s_X6_count
        by_cases h2 : IX 10 p1
        · obtain ⟨j, hj, rfl⟩ := h2
          have hj10 : j = 0 ∨ j = 1 ∨ j = 2 ∨ j = 3 ∨ j = 4 ∨ j = 5 ∨ j = 6 ∨ j = 7 ∨ j = 8 ∨ j = 9 := by omega
          rcases hj10 with rfl | rfl | rfl | rfl | rfl | rfl | rfl | rfl | rfl | rfl
          · refine ⟨g 1 0 9, rfl, (w 2218 0 64).toInt32, rfl, ?_⟩
            rw [c_tn HB1 B, r64 (rv_self (w := w)) B, t6432]
          · refine ⟨g 1 0 10, rfl, (w 2218 0 65).toInt32, rfl, ?_⟩
            rw [c_sn HB1 B, r65 (rv_self (w := w)) B, t6432]
          · show Ok ((s_X1_jobsLaid 0 g w).bind fun q1 => some q1) (fun q => Ok (some v) (fun r => q = r))
            rw [jobsLaid6 HB1 B]
            refine ⟨_, rfl, _, rfl, ?_⟩
            rw [hv, ek, jc_stop h8]
          · show Ok (some (s_J_Long_bitCount (w 1 0 8) g w)) (fun q => Ok ((s_X7_hoursIn 0 (w 2218 0 63) g w).bind fun q1 => some q1) (fun r => q = r))
            rw [hoursIn7, show w 1 0 8 = w 2218 0 63 from HB1.2.1, bitCount6 (fun k h1 _ => B.1.2.2.2.2.2 k h1)]
            exact ⟨_, rfl, _, rfl, rfl⟩
          · exact ⟨g 1 0 11, rfl, (w 2218 0 66).toInt32, rfl, N 0 (by decide)⟩
          · exact ⟨g 1 0 12, rfl, (w 2218 0 67).toInt32, rfl, N 1 (by decide)⟩
          · exact ⟨g 1 0 13, rfl, (w 2218 0 68).toInt32, rfl, N 2 (by decide)⟩
          · exact ⟨g 1 0 14, rfl, (w 2218 0 69).toInt32, rfl, N 3 (by decide)⟩
          · exact ⟨g 3 0 4, rfl, g 7 0 5, rfl, e34⟩
          · exact ⟨g 6 0 5, rfl, g 7 0 2, rfl, e65⟩
        · have no : ∀ k, k < 10 → ¬ p1 = I k := fun k hk e => h2 ⟨k, hk, e⟩
          rw [if_neg (show ¬ p1 = 0 from no 0 (by decide)), if_neg (show ¬ p1 = 1 from no 1 (by decide)), if_neg (show ¬ p1 = 2 from no 2 (by decide)), if_neg (show ¬ p1 = 3 from no 3 (by decide)), if_neg (show ¬ p1 = 4 from no 4 (by decide)), if_neg (show ¬ p1 = 5 from no 5 (by decide)), if_neg (show ¬ p1 = 6 from no 6 (by decide)), if_neg (show ¬ p1 = 7 from no 7 (by decide)), if_neg (show ¬ p1 = 8 from no 8 (by decide)), if_neg (show ¬ p1 = 9 from no 9 (by decide))]
          rw [if_neg (show ¬ p1 = 0 from no 0 (by decide)), if_neg (show ¬ p1 = 1 from no 1 (by decide)), if_neg (show ¬ p1 = 2 from no 2 (by decide)), if_neg (show ¬ p1 = 3 from no 3 (by decide)), if_neg (show ¬ p1 = 4 from no 4 (by decide)), if_neg (show ¬ p1 = 5 from no 5 (by decide)), if_neg (show ¬ p1 = 6 from no 6 (by decide)), if_neg (show ¬ p1 = 7 from no 7 (by decide)), if_neg (show ¬ p1 = 8 from no 8 (by decide)), if_neg (show ¬ p1 = 9 from no 9 (by decide))]
          exact ⟨_, rfl, _, rfl, rfl⟩
  exact key FU 0 0 (by omega) rfl (by show 9 - 0 < 1000; omega)
end
