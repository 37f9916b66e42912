/-! hours: the tide, basins, crews, fuel: both sides in the same numbers -/
def SHM (c : Nat → Int64) (ba : Nat → Nat) (s : Nat) : Int32 := ((1 : Int32) <<< (I (ba (SF c s 5)) &&& 31)) ||| ((1 : Int32) <<< (I (ba (SF c s 6)) &&& 31))
def SHARE (c : Nat → Int64) (ba : Nat → Nat) (s o : Nat) : Prop := SHM c ba s &&& SHM c ba o ≠ 0
def NXT (c : Nat → Int64) (t : Nat) (x : Int64) (k : Nat) (f : Int) : Int :=
  if tb (BN c t) k = true then (if f - (if tb x k = true then 1 else 0) + 12 ≤ TF c t 4 then f - (if tb x k = true then 1 else 0) + 12 else TF c t 4) else f - (if tb x k = true then 1 else 0)
def FL (c : Nat → Int64) (t : Nat) (x : Int64) : Nat → Int
  | 0 => TF c t 3
  | k + 1 => NXT c t x k (FL c t x k)
def LASTS (c : Nat → Int64) (t : Nat) (x : Int64) : Prop := ∀ k, k ≤ 48 → 0 ≤ FL c t x k
def RESTS (c : Nat → Int64) (t : Nat) (x : Int64) : Prop := ∀ f, 0 ≤ f → f < 49 - (TF c t 5 + nf c 60) → fb_ct (fun i => tb x (f + i)) (TF c t 5 + nf c 60) ≤ TF c t 5
def LOWAT (c : Nat → Int64) (s k : Nat) : Prop := nf c (k % 12) < SF c s 1
theorem tb_jl (x : Int64) {k : Nat} (hk : k < 64) (i : Nat) : tb (jlush x (I k)) i = tb x (k + i) := by
  obtain ⟨n, hn, rfl⟩ := J_ex x
  rw [jl_J hn hk]
  by_cases h : i < 64
  · rw [tb_J _ h, Nat.testBit_div_two_pow]
    by_cases h2 : k + i < 64
    · rw [tb_J _ h2, Nat.add_comm]
    · rw [tb_big (by omega), Nat.testBit_lt_two_pow (Nat.lt_of_lt_of_le hn (Nat.pow_le_pow_right (by decide) (by omega)))]
  · rw [tb_big (by omega), tb_big (by omega)]
theorem rem_12 : ∀ k, k < 64 → I k - I k / 12 * 12 = I (k % 12) := by decide +kernel
section
variable {g : Nat → Nat → Nat → Int32} {w : Nat → Nat → Nat → Int64} {hb : Nat} {c : Nat → Int64} {pl ba : Nat → Nat}
theorem low6 (H : HB g w hb c) (B : BI c) {s : Nat} (hs : s < SN c) : ∃ x, s_X1_lowHours hb (8 * hb + s) g w = some x ∧ ∀ j, tb x j = true ↔ (j < 48 ∧ LOWAT c s j) := by
  have key : ∀ (n k : Nat) (x : Int64), k ≤ 48 → 49 - k < n → (∀ j, tb x j = true ↔ (j < k ∧ LOWAT c s j)) → ∃ x', s_X1_lowHours_R5 hb (8 * hb + s) n x (I k) g w = some x' ∧ ∀ j, tb x' j = true ↔ (j < 48 ∧ LOWAT c s j) := by
    intro n
    induction n with
    | zero => intro k x h1 hm; omega
    | succ n ih =>
      intro k x h1 hm hx
      show ∃ x', s_X1_lowHours_5 hb (8 * hb + s) (s_X1_lowHours_R5 hb (8 * hb + s) n) x (I k) g w = some x' ∧ _
      unfold s_X1_lowHours_5 s_X1_lowHours_36
      by_cases hk : k < 48
      · have hd := nf_rb (bs B hs).2.1
        have ht := nf_rb (B.2.1 (k % 12) (Nat.mod_lt _ (by decide)))
        rw [if_neg (show ¬ (48 : Int32) ≤ I k from nle (a := 48) hk (by decide)), rem_12 k (by omega), if_pos (inR_I (Nat.mod_lt _ (by decide)) (by decide)), I_tn (by omega), c_ship H B hs (by decide) (by decide), c_tide H B (Nat.mod_lt _ (by decide)), I_suc, shl_1 (by omega)]
        by_cases e : SF c s 1 ≤ nf c (k % 12)
        · rw [if_pos (ile e (by omega))]
          refine ih (k + 1) x (by omega) (by omega) (fun j => ?_)
          rw [hx]
          constructor
          · rintro ⟨q1, q2⟩; exact ⟨by omega, q2⟩
          · rintro ⟨q1, q2⟩
            refine ⟨?_, q2⟩
            by_cases ej : j = k
            · subst ej; unfold LOWAT at q2; omega
            · omega
        · rw [if_neg (nle (by omega) (show SF c s 1 < _ by unfold SF; omega))]
          refine ih (k + 1) _ (by omega) (by omega) (fun j => ?_)
          rw [tb_or, Bool.or_eq_true, hx, bit1 (by omega), decide_eq_true_eq]
          constructor
          · rintro (⟨q1, q2⟩ | rfl)
            · exact ⟨by omega, q2⟩
            · exact ⟨by omega, by unfold LOWAT; omega⟩
          · rintro ⟨q1, q2⟩
            by_cases ej : k = j
            · exact Or.inr ej
            · exact Or.inl ⟨by omega, q2⟩
      · have e : k = 48 := by omega
        subst e
        rw [if_pos (show (48 : Int32) ≤ I 48 from by decide)]
        exact ⟨x, rfl, hx⟩
  exact key FU 0 0 (by decide) (by decide) (fun j => by rw [tb_0]; constructor <;> intro q <;> first | (cases q; done) | (exact absurd q.1 (by omega)))
theorem low7 (R : RV w c) (B : BI c) {s h : Nat} (hs : s < SN c) (hh : h + SF c s 3 ≤ 48) : Ok (s_X7_failsAlone 0 2 (I s) (I h) g w) (fun b => b = true ↔ ∃ k, h ≤ k ∧ k < h + SF c s 3 ∧ LOWAT c s k) := by
  have l := len_ge B hs
  have hd := nf_rb (bs B hs).2.1
  have key : ∀ (n k : Nat) (v : Bool), h ≤ k → k ≤ h + SF c s 3 → 49 - k < n → Ok (s_X7_failsAlone_R74 0 2 (I s) (I h) n (I (h + SF c s 3)) v (I k) g w) (fun b => b = true ↔ (v = true ∨ ∃ k', k ≤ k' ∧ k' < h + SF c s 3 ∧ LOWAT c s k')) := by
    intro n
    induction n with
    | zero => intro k v h1 h2 hm; omega
    | succ n ih =>
      intro k v h1 h2 hm
      show Ok (s_X7_failsAlone_74 0 2 (I s) (I h) (s_X7_failsAlone_R74 0 2 (I s) (I h) n) (I (h + SF c s 3)) v (I k) g w) _
      unfold s_X7_failsAlone_74 s_X7_failsAlone_107 s_X7_failsAlone_112
      rw [I_suc]
      by_cases hk : k < h + SF c s 3
      · rw [if_neg (nle hk (by omega))]
        cases v with
        | true =>
          rw [if_pos rfl]
          exact ok_b (by simp) (ih (k + 1) true (by omega) (by omega) (by omega))
        | false =>
          have hm12 := Nat.mod_lt k (show 12 > 0 by decide)
          have ht := nf_rb (B.2.1 (k % 12) hm12)
          rw [if_neg (by decide), rem_12 k (by omega), if_pos (inR_I (by omega) (by decide)), I_tn (by omega), show s_X7_ofShip 0 (I s) 1 g w = some (I (SF c s 1)) from r_ship R B hs (by decide) (by decide), R _ (by omega), nf_L (B.2.1 (k % 12) hm12) (by decide)]
          refine ok_bind (ok_some (P := fun r => r = I (SF c s 1)) rfl) ?_
          rintro _ rfl
          have hd2 : SF c s 1 < 2147483648 := by unfold SF; omega
          by_cases e : SF c s 1 ≤ nf c (k % 12)
          · rw [if_pos ((lgI rfl (by omega) hd2).mpr e)]
            refine ok_b ?_ (ih (k + 1) false (by omega) (by omega) (by omega))
            rw [ex_no (fun q => by have := q.2; unfold LOWAT at this; omega)]
          · rw [if_neg (fun q => e ((lgI rfl (by omega) hd2).mp q))]
            refine ok_b ?_ (ih (k + 1) true (by omega) (by omega) (by omega))
            have yes : ∃ k', k ≤ k' ∧ k' < h + SF c s 3 ∧ LOWAT c s k' := ⟨k, Nat.le_refl _, hk, by unfold LOWAT; omega⟩
            simp [yes]
      · rw [if_pos (ile (by omega) (by omega))]
        have no : ¬ ∃ k', k ≤ k' ∧ k' < h + SF c s 3 ∧ LOWAT c s k' := by rintro ⟨t, q1, q2, _⟩; omega
        cases v with
        | true => exact ok_t (Or.inl rfl)
        | false => exact ok_f (by simp [no])
  unfold s_X7_failsAlone
  rw [show s_X7_ofShip 0 (I s) 3 g w = some (I (SF c s 3)) from r_ship R B hs (by decide) (by decide)]
  refine ok_bind (ok_some (P := fun r => r = I (SF c s 3)) rfl) ?_
  rintro _ rfl
  rw [if_neg (show ¬ (2 : Int32) = 1 by decide), if_pos rfl, I_add]
  refine ok_b ?_ (key FU h false (Nat.le_refl _) (by omega) (by show 49 - h < 1000; omega))
  simp
theorem ft_lt (B : BI c) {s : Nat} (hs : s < SN c) : SF c s 5 < 6 ∧ SF c s 6 < 6 := by
  have a := (nf_rb (bs B hs).2.2.2.2.2.1).2
  have b := (nf_rb (bs B hs).2.2.2.2.2.2.1).2
  exact ⟨Nat.lt_succ_of_le a, Nat.lt_succ_of_le b⟩
theorem basins6 (H : HB g w hb c) (B : BI c) (P : PC g pl ba) {s : Nat} (hs : s < SN c) : s_X0_basinsOf 0 (8 * hb + s) g w = some (SHM c ba s) := by
  have q := ft_lt B hs
  unfold s_X0_basinsOf
  rw [c_ship H B hs (by decide) (by decide), c_ship H B hs (by decide) (by decide), if_pos (isB6 q.1), if_pos (isB6 q.2), if_pos (inR_I q.1 (by decide)), if_pos (inR_I q.2 (by decide)), I_tn (by omega), I_tn (by omega), (P _ q.1).2, (P _ q.2).2]
  rfl
theorem share6 (H : HB g w hb c) (B : BI c) (P : PC g pl ba) {s o : Nat} (hs : s < SN c) (ho : o < SN c) : Ok (s_X0_shareBasin 0 (8 * hb + s) (8 * hb + o) g w) (fun b => b = true ↔ SHARE c ba s o) := by
  unfold s_X0_shareBasin s_X0_shareBasin_19
  rw [basins6 H B P hs, basins6 H B P ho]
  refine ok_bind (ok_some (P := fun r => r = SHM c ba s) rfl) ?_
  rintro _ rfl
  refine ok_bind (ok_some (P := fun r => r = SHM c ba o) rfl) ?_
  rintro _ rfl
  by_cases e : SHM c ba s &&& SHM c ba o = 0
  · rw [if_pos e]; exact ok_f (fun q => q e)
  · rw [if_neg e]; exact ok_t e
theorem jobHours6 (H : HB g w hb c) (B : BI c) {s : Nat} (hs : s < SN c) (hJ : JOB c s) : s_X4_jobHours (8 * hb + s) g w = HH (SF c s 7) (SF c s 7 + SF c s 3) := by
  have h8 := sn8 B
  have l := last_lt B hs hJ
  unfold s_X4_jobHours s_X4_jobHours_19
  rw [if_pos ((hasJob6 H B (by omega)).mpr ⟨hs, hJ⟩), c_hour H B hs hJ]
  exact hoursFrom6 (c_ship H B hs (by decide) (by decide)) (by omega)
def BAS (c : Nat → Int64) (ba : Nat → Nat) (s j o : Nat) : Prop := JOB c o ∧ SHARE c ba s o ∧ SF c o 7 ≤ j ∧ j < SF c o 7 + SF c o 3
theorem basin6 (H : HB g w hb c) (B : BI c) (P : PC g pl ba) {s : Nat} (hs : s < SN c) : ∃ x, s_X1_basinHours hb (8 * hb + s) g w = some x ∧ ∀ j, tb x j = true ↔ ∃ o, 0 ≤ o ∧ o < SN c ∧ BAS c ba s j o := by
  have h8 := sn8 B
  have key : ∀ (n k : Nat) (x : Int64), k ≤ 8 → 9 - k < n → ∃ x', s_X1_basinHours_R16 hb (8 * hb + s) n x (I k) g w = some x' ∧ ∀ j, tb x' j = true ↔ (tb x j = true ∨ ∃ o, k ≤ o ∧ o < SN c ∧ BAS c ba s j o) := by
    intro n
    induction n with
    | zero => intro k x h1 hm; omega
    | succ n ih =>
      intro k x h1 hm
      show ∃ x', s_X1_basinHours_16 hb (8 * hb + s) (s_X1_basinHours_R16 hb (8 * hb + s) n) x (I k) g w = some x' ∧ _
      unfold s_X1_basinHours_16 s_X1_basinHours_59
      by_cases hk : k < 8
      · rw [if_neg (show ¬ (8 : Int32) ≤ I k from nle (a := 8) hk (by decide)), if_pos (inR_I hk (by decide)), I_tn (by omega), I_suc]
        by_cases e : s_X4_hasJob (8 * hb + k) g w = true
        · have hJ := (hasJob6 H B hk).mp e
          rw [if_pos e]
          obtain ⟨b, eb, hbb⟩ := share6 H B P hs hJ.1
          rw [eb]
          show ∃ x', (if b = true then _ else _) = some x' ∧ _
          cases b with
          | true =>
            rw [if_pos rfl, jobHours6 H B hJ.1 hJ.2]
            have l := last_lt B hJ.1 hJ.2
            obtain ⟨x', q1, q2⟩ := ih (k + 1) (x ||| HH (SF c k 7) (SF c k 7 + SF c k 3)) (by omega) (by omega)
            refine ⟨x', q1, fun j => ?_⟩
            rw [q2, tb_or, Bool.or_eq_true, tb_HH (by omega) (by omega), decide_eq_true_eq]
            constructor
            · rintro ((q | q) | ⟨o, p1, p2, p3⟩)
              · exact Or.inl q
              · exact Or.inr ⟨k, Nat.le_refl _, hJ.1, hJ.2, hbb.mp rfl, q.1, q.2⟩
              · exact Or.inr ⟨o, by omega, p2, p3⟩
            · rintro (q | ⟨o, p1, p2, p3⟩)
              · exact Or.inl (Or.inl q)
              · by_cases eo : o = k
                · subst eo; exact Or.inl (Or.inr p3.2.2)
                · exact Or.inr ⟨o, by omega, p2, p3⟩
          | false =>
            rw [if_neg (by decide)]
            obtain ⟨x', q1, q2⟩ := ih (k + 1) x (by omega) (by omega)
            refine ⟨x', q1, fun j => ?_⟩
            rw [q2, ex_no (k := k) (fun q => by have := hbb.mpr q.2.2.1; cases this)]
        · rw [if_neg e]
          have hJ := mt (hasJob6 H B hk).mpr e
          obtain ⟨x', q1, q2⟩ := ih (k + 1) x (by omega) (by omega)
          refine ⟨x', q1, fun j => ?_⟩
          rw [q2, ex_no (k := k) (fun q => hJ ⟨q.1, q.2.1⟩)]
      · rw [if_pos (show (8 : Int32) ≤ I k from ile (a := 8) (by omega) (by omega))]
        refine ⟨x, rfl, fun j => ?_⟩
        constructor
        · intro q; exact Or.inl q
        · rintro (q | ⟨o, q1, q2, _⟩)
          · exact q
          · omega
  obtain ⟨x, q1, q2⟩ := key FU 0 0 (by decide) (by decide)
  refine ⟨x, q1, fun j => ?_⟩
  rw [q2, tb_0]
  simp
def BARR (c : Nat → Int64) (ba : Nat → Nat) (s h e o : Nat) : Prop := JOB c o ∧ SHARE c ba s o ∧ SF c o 7 < e ∧ h < SF c o 7 + SF c o 3
theorem barred7 (R : RV w c) (B : BI c) (P : PR g pl ba) {s h : Nat} (hs : s < SN c) (hJ0 : ¬ JOB c s) (hh : h + SF c s 3 ≤ 48) : Ok (s_X7_isBarred 0 (I s) (I h) g w) (fun b => b = true ↔ ∃ o, 0 ≤ o ∧ o < SN c ∧ BARR c ba s h (h + SF c s 3) o) := by
  have h8 := sn8 B
  have l := len_ge B hs
  have q := ft_lt B hs
  have key : ∀ (n k : Nat) (v : Bool), k ≤ SN c → 9 - k < n → Ok (s_X7_isBarred_R15 0 (I s) (I h) n (I (h + SF c s 3)) v (I k) g w) (fun b => b = true ↔ (v = true ∨ ∃ o, k ≤ o ∧ o < SN c ∧ BARR c ba s h (h + SF c s 3) o)) := by
    intro n
    induction n with
    | zero => intro k v h1 hm; omega
    | succ n ih =>
      intro k v h1 hm
      show Ok (s_X7_isBarred_15 0 (I s) (I h) (s_X7_isBarred_R15 0 (I s) (I h) n) (I (h + SF c s 3)) v (I k) g w) _
      unfold s_X7_isBarred_15 s_X7_isBarred_148 s_X7_isBarred_141 s_X7_isBarred_146 s_X7_isBarred_148
      rw [I_suc]
      by_cases hk : k < SN c
      · rw [if_neg (fun q => by have := (endS R B (by omega)).mp q; omega)]
        have skip : ¬ BARR c ba s h (h + SF c s 3) k → Ok (s_X7_isBarred_R15 0 (I s) (I h) n (I (h + SF c s 3)) v (I (k + 1)) g w) (fun b => b = true ↔ (v = true ∨ ∃ o, k ≤ o ∧ o < SN c ∧ BARR c ba s h (h + SF c s 3) o)) := fun no => by
          refine ok_b ?_ (ih (k + 1) v (by omega) (by omega))
          rw [ex_no (fun q => no q.2)]
        by_cases eks : I k = I s
        · rw [if_pos eks]
          have := I_inj (by omega) (by omega) eks
          subst this
          exact skip (fun q => hJ0 q.1)
        · rw [if_neg eks]
          obtain ⟨b, eb, hbb⟩ := r_hasJob (g := g) R B hk
          rw [eb]
          refine ok_bind (ok_some (P := fun r => b = r) rfl) ?_
          rintro _ rfl
          cases b with
          | false =>
            rw [if_neg (by decide)]
            exact skip (fun q => by have := hbb.mpr q.1; cases this)
          | true =>
            have hJ := hbb.mp rfl
            have ll := last_lt B hk hJ
            rw [if_pos rfl, show s_X7_ofShip 0 (I k) 7 g w = some (I (SF c k 7)) from r_hour R B hk hJ]
            refine ok_bind (ok_some (P := fun r => r = I (SF c k 7)) rfl) ?_
            rintro _ rfl
            by_cases e1 : h + SF c s 3 ≤ SF c k 7
            · rw [if_pos (ile e1 (by omega))]
              exact skip (fun q => by have := q.2.2.1; omega)
            · rw [if_neg (nle (by omega) (by omega)), last7 R B hk hJ]
              refine ok_bind (ok_some (P := fun r => r = I (LAST c k)) rfl) ?_
              rintro _ rfl
              by_cases e2 : LAST c k < h
              · rw [if_pos (ilt e2 (by omega))]
                exact skip (fun q => by have := q.2.2.2; omega)
              · have qk := ft_lt B hk
                rw [if_neg (nlt (by omega) (by omega)), show s_X7_ofShip 0 (I s) 5 g w = some (I (SF c s 5)) from r_ship R B hs (by decide) (by decide)]
                refine ok_bind (ok_some (P := fun r => r = I (SF c s 5)) rfl) ?_
                rintro _ rfl
                rw [if_pos (inR_I q.1 (by decide)), show s_X7_ofShip 0 (I s) 6 g w = some (I (SF c s 6)) from r_ship R B hs (by decide) (by decide)]
                refine ok_bind (ok_some (P := fun r => r = I (SF c s 6)) rfl) ?_
                rintro _ rfl
                rw [if_pos (inR_I q.2 (by decide)), show s_X7_ofShip 0 (I k) 5 g w = some (I (SF c k 5)) from r_ship R B hk (by decide) (by decide)]
                refine ok_bind (ok_some (P := fun r => r = I (SF c k 5)) rfl) ?_
                rintro _ rfl
                rw [if_pos (inR_I qk.1 (by decide)), show s_X7_ofShip 0 (I k) 6 g w = some (I (SF c k 6)) from r_ship R B hk (by decide) (by decide)]
                refine ok_bind (ok_some (P := fun r => r = I (SF c k 6)) rfl) ?_
                rintro _ rfl
                rw [if_pos (inR_I qk.2 (by decide)), I_tn (by omega), I_tn (by omega), I_tn (by omega), I_tn (by omega), (P _ q.1).2, (P _ q.2).2, (P _ qk.1).2, (P _ qk.2).2]
                cases v with
                | true =>
                  rw [if_pos rfl]
                  exact ok_b (by simp) (ih (k + 1) true (by omega) (by omega))
                | false =>
                  rw [if_neg (by decide)]
                  by_cases e3 : SHM c ba s &&& SHM c ba k = 0
                  · refine ok_e (if_pos e3) ?_
                    exact skip (fun q => q.2.1 e3)
                  · refine ok_e (if_neg e3) ?_
                    refine ok_b ?_ (ih (k + 1) true (by omega) (by omega))
                    have yes : ∃ o, k ≤ o ∧ o < SN c ∧ BARR c ba s h (h + SF c s 3) o := ⟨k, Nat.le_refl _, hk, hJ, e3, by omega, by omega⟩
                    simp [yes]
      · rw [if_pos ((endS R B (by omega)).mpr (by omega))]
        have no : ¬ ∃ o, k ≤ o ∧ o < SN c ∧ BARR c ba s h (h + SF c s 3) o := by rintro ⟨t, q1, q2, _⟩; omega
        cases v with
        | true => exact ok_t (Or.inl rfl)
        | false => exact ok_f (by simp [no])
  unfold s_X7_isBarred
  rw [show s_X7_ofShip 0 (I s) 3 g w = some (I (SF c s 3)) from r_ship R B hs (by decide) (by decide)]
  refine ok_bind (ok_some (P := fun r => r = I (SF c s 3)) rfl) ?_
  rintro _ rfl
  rw [I_add]
  refine ok_b ?_ (key FU 0 false (by omega) (by show 9 - 0 < 1000; omega))
  simp
end
