/-! the reference's best order -/
section
variable {g g' g'' : Nat → Nat → Nat → Int32} {w w' w'' : Nat → Nat → Nat → Int64} {hb : Nat} {c c' : Nat → Int64} {pl ba : Nat → Nat}
theorem bo_s {n m : Nat} {a b : Int32} (h : ¬ I n < b) : s_X7_bestOrder_R4 0 (I n) (m + 1) a b g w = s_X7_bestOrder_R4 0 (I n) m (a * b) (b + 1) g w := by
  show s_X7_bestOrder_4 0 (I n) (s_X7_bestOrder_R4 0 (I n) m) a b g w = _
  unfold s_X7_bestOrder_4
  rw [if_neg h]
theorem bo_e {n m : Nat} {a b : Int32} (h : I n < b) : s_X7_bestOrder_R4 0 (I n) (m + 1) a b g w = (s_X7_asides 0 g w).bind fun q1 => s_X7_bestOrder_R34 0 (I n) FU a 0 0 (gI q1.1 7 0 13 999999) q1.2 := by
  show s_X7_bestOrder_4 0 (I n) (s_X7_bestOrder_R4 0 (I n) m) a b g w = _
  unfold s_X7_bestOrder_4
  rw [if_pos h]
theorem bo_all {n : Nat} (h1 : 1 ≤ n) (h4 : n ≤ 4) : s_X7_bestOrder 0 (I n) g w = (s_X7_asides 0 g w).bind fun q1 => s_X7_bestOrder_R34 0 (I n) FU (I (FA n)) 0 0 (gI q1.1 7 0 13 999999) q1.2 := by
  have hn : n = 1 ∨ n = 2 ∨ n = 3 ∨ n = 4 := by omega
  show s_X7_bestOrder_R4 0 (I n) (999 + 1) 1 2 g w = _
  rcases hn with rfl | rfl | rfl | rfl
  · rw [bo_e (by decide)]; rfl
  · rw [bo_s (by decide)]
    show s_X7_bestOrder_R4 0 (I 2) (998 + 1) (1 * 2) (2 + 1) g w = _
    rw [bo_e (by decide)]; rfl
  · rw [bo_s (by decide)]
    show s_X7_bestOrder_R4 0 (I 3) (998 + 1) (1 * 2) (2 + 1) g w = _
    rw [bo_s (by decide)]
    show s_X7_bestOrder_R4 0 (I 3) (997 + 1) (1 * 2 * (2 + 1)) (2 + 1 + 1) g w = _
    rw [bo_e (by decide)]; rfl
  · rw [bo_s (by decide)]
    show s_X7_bestOrder_R4 0 (I 4) (998 + 1) (1 * 2) (2 + 1) g w = _
    rw [bo_s (by decide)]
    show s_X7_bestOrder_R4 0 (I 4) (997 + 1) (1 * 2 * (2 + 1)) (2 + 1 + 1) g w = _
    rw [bo_s (by decide)]
    show s_X7_bestOrder_R4 0 (I 4) (996 + 1) (1 * 2 * (2 + 1) * (2 + 1 + 1)) (2 + 1 + 1 + 1) g w = _
    rw [bo_e (by decide)]; rfl
theorem as_fq7 (A : AS w c) : AS w c := A
theorem bestOrder7 {n : Nat} (h1 : 1 ≤ n) (h4 : n ≤ 4) (R : RV w c) (B : BI c) (P : PR g pl ba) (Q : PB pl ba) (hn : n ≤ SN c) :
    ∃ g' w', s_X7_bestOrder 0 (I n) g w = some (I (ORDT n (bk pl ba n c (FA n))), g', w') ∧ g' 7 0 13 = OW pl ba n c (bk pl ba n c (FA n)) ∧ RV w' c ∧ FQ g w g' w' := by
  have hFA := FA_le (n := n)
  have h8 := sn8 B
  have hsn : SN (cclr c) = SN c := pln_sn pln_cclr
  have key : ∀ (m k : Nat) (v : Int32) (g1 : Nat → Nat → Nat → Int32) (w1 : Nat → Nat → Nat → Int64), k ≤ FA n → RV w1 c → AS w1 c → FQ g w g1 w1 → ((k = 0 ∧ v = 0 ∧ g1 7 0 13 = 999999) ∨ (1 ≤ k ∧ v = I (ORDT n (bk pl ba n c k)) ∧ g1 7 0 13 = OW pl ba n c (bk pl ba n c k))) → 25 - k < m →
      ∃ g' w', s_X7_bestOrder_R34 0 (I n) m (I (FA n)) v (I k) g1 w1 = some (I (ORDT n (bk pl ba n c (FA n))), g', w') ∧ g' 7 0 13 = OW pl ba n c (bk pl ba n c (FA n)) ∧ RV w' c ∧ FQ g w g' w' := by
    intro m
    induction m with
    | zero => intro k v g1 w1 q1 q2 q3 q4 q5 hm; omega
    | succ m ih =>
      intro k v g1 w1 q1 q2 q3 q4 q5 hm
      show ∃ g' w', s_X7_bestOrder_34 0 (I n) (s_X7_bestOrder_R34 0 (I n) m) (I (FA n)) v (I k) g1 w1 = some (I (ORDT n (bk pl ba n c (FA n))), g', w') ∧ _
      unfold s_X7_bestOrder_34
      by_cases hk : k < FA n
      · have hf : ∀ i, i < n → pm n k i < SN (cclr c) := fun i hi => by have := pm_lt h1 h4 hk hi; omega
        have E1 := fp_empties (g := g1) (w := w1) B
        have R1 := rv_empties q2 B
        obtain ⟨g2, w2, e1, e2, e3, e4⟩ := plans7 (g := g1) (f := pm n k) (p2 := I (ORDT n k)) Q h4 R1 (bi_clr B) (pr_fq P q4) (fun i hi => pm_b n (by omega) h1 k hk i hi) hf (fun i j hi hj hne => pm_c (by omega) h1 hk hi hj hne) (fun s hs => cclr_nojob (by omega))
        have hpl := layN_pln (pl := pl) (ba := ba) (f := pm n k) (c := cclr c) n hf
        have eW : s_X7_waited 0 (I n) g2 w2 = some (OW pl ba n c k) := waited7 e2 e3 (by rw [pln_sn hpl]; omega)
        have F2 := fq_trans q4 (fq_trans (fq_fp E1) (fq_fp e4))
        have A2 := as_fp (as_fp q3 E1) e4
        have e13 : g2 7 0 13 = g1 7 0 13 := e4.1 _ _ _ (by omega)
        rw [if_neg (nle hk (by omega)), ordered7 h1 h4 hk]
        show ∃ g' w', ((s_X7_empties 0 g1 w1).bind fun q2 => (s_X7_plans 0 (I n) (I (ORDT n k)) q2.1 q2.2).bind fun q3 => (s_X7_waited 0 (I n) q3.2.1 q3.2.2).bind fun q4 => if q3.2.1 7 0 13 ≤ q4 then s_X7_bestOrder_82 0 (I n) (s_X7_bestOrder_R34 0 (I n) m) v (I (FA n)) (I k) q4 q3.2.1 q3.2.2 else s_X7_bestOrder_82 0 (I n) (s_X7_bestOrder_R34 0 (I n) m) (I (ORDT n k)) (I (FA n)) (I k) q4 q3.2.1 q3.2.2) = some (I (ORDT n (bk pl ba n c (FA n))), g', w') ∧ _
        rw [empties_e q2 B]
        show ∃ g' w', ((s_X7_plans 0 (I n) (I (ORDT n k)) g1 (wcl (SN c) (wr (fun _ _ => 0) 6 w1))).bind fun q3 => (s_X7_waited 0 (I n) q3.2.1 q3.2.2).bind fun q4 => if q3.2.1 7 0 13 ≤ q4 then s_X7_bestOrder_82 0 (I n) (s_X7_bestOrder_R34 0 (I n) m) v (I (FA n)) (I k) q4 q3.2.1 q3.2.2 else s_X7_bestOrder_82 0 (I n) (s_X7_bestOrder_R34 0 (I n) m) (I (ORDT n k)) (I (FA n)) (I k) q4 q3.2.1 q3.2.2) = some (I (ORDT n (bk pl ba n c (FA n))), g', w') ∧ _
        rw [e1]
        show ∃ g' w', ((s_X7_waited 0 (I n) g2 w2).bind fun q4 => if g2 7 0 13 ≤ q4 then s_X7_bestOrder_82 0 (I n) (s_X7_bestOrder_R34 0 (I n) m) v (I (FA n)) (I k) q4 g2 w2 else s_X7_bestOrder_82 0 (I n) (s_X7_bestOrder_R34 0 (I n) m) (I (ORDT n k)) (I (FA n)) (I k) q4 g2 w2) = some (I (ORDT n (bk pl ba n c (FA n))), g', w') ∧ _
        rw [eW]
        show ∃ g' w', (if g2 7 0 13 ≤ OW pl ba n c k then s_X7_bestOrder_82 0 (I n) (s_X7_bestOrder_R34 0 (I n) m) v (I (FA n)) (I k) (OW pl ba n c k) g2 w2 else s_X7_bestOrder_82 0 (I n) (s_X7_bestOrder_R34 0 (I n) m) (I (ORDT n k)) (I (FA n)) (I k) (OW pl ba n c k) g2 w2) = some (I (ORDT n (bk pl ba n c (FA n))), g', w') ∧ _
        rw [e13]
        unfold s_X7_bestOrder_82 s_X7_bestOrder_102
        rw [e13]
        have ebk : bk pl ba n c (k + 1) = if OW pl ba n c k < OW pl ba n c (bk pl ba n c k) then k else bk pl ba n c k := rfl
        have fin : ∀ (v' x : Int32), v' = I (ORDT n (bk pl ba n c (k + 1))) → x = OW pl ba n c (bk pl ba n c (k + 1)) → ∃ g' w', ((s_X7_returns 0 (gI g2 7 0 13 x) w2).bind fun q1 => s_X7_bestOrder_R34 0 (I n) m (I (FA n)) v' (I k + 1) q1.1 q1.2) = some (I (ORDT n (bk pl ba n c (FA n))), g', w') ∧ g' 7 0 13 = OW pl ba n c (bk pl ba n c (FA n)) ∧ RV w' c ∧ FQ g w g' w' := by
          intro v' x hv hx
          rw [returns_e, I_suc]
          exact ih (k + 1) v' _ _ (by omega) (rv_wb A2 B e2 (pln_trans pln_cclr hpl)) (as_wb A2) (fq_trans F2 (fq_trans (fq_7 (by decide)) fq_wb)) (Or.inr ⟨by omega, hv, by show gI g2 7 0 13 x 7 0 13 = _; rw [gI_at, if_pos ⟨rfl, rfl, rfl⟩]; exact hx⟩) (by omega)
        rcases q5 with ⟨rfl, rfl, q6⟩ | ⟨q5, rfl, q6⟩
        · have big : ¬ (999999 : Int32) ≤ OW pl ba n c 0 := fun q => by
            have r := (w32_rg (c := layN pl ba (pm n 0) (cclr c) n) e3 n (by rw [pln_sn hpl]; omega)).2
            rw [Int32.le_iff_toInt_le, show (999999 : Int32).toInt = 999999 from rfl] at q
            have : (OW pl ba n c 0).toInt ≤ 1200 * n := r
            omega
          have e0 : bk pl ba n c (0 + 1) = 0 := by rw [ebk]; split <;> rfl
          rw [q6, if_neg big, if_neg big]
          exact fin _ _ (by rw [e0]) (by rw [e0])
        · rw [q6]
          by_cases e : OW pl ba n c (bk pl ba n c k) ≤ OW pl ba n c k
          · have hbk : bk pl ba n c (k + 1) = bk pl ba n c k := by rw [ebk, if_neg (by rw [lt32]; exact fun q => q e)]
            rw [if_pos e, if_pos e]
            exact fin _ _ (by rw [hbk]) (by rw [hbk])
          · have hbk : bk pl ba n c (k + 1) = k := by rw [ebk, if_pos (by rw [lt32]; exact e)]
            rw [if_neg e, if_neg e]
            exact fin _ _ (by rw [hbk]) (by rw [hbk])
      · have ek : k = FA n := by omega
        subst ek
        rw [if_pos (ile (Nat.le_refl _) (by omega))]
        rcases q5 with ⟨q5, _, _⟩ | ⟨_, rfl, q6⟩
        · omega
        · exact ⟨g1, w1, rfl, q6, q2, q4⟩
  rw [bo_all h1 h4, asides_e]
  exact key FU 0 0 (gI g 7 0 13 999999) (wa 6 8 w) (by omega) (rv_wa R) (as_wa R) (fq_trans (fq_7 (by decide)) fq_wa) (Or.inl ⟨rfl, rfl, by rw [gI_at, if_pos ⟨rfl, rfl, rfl⟩]⟩) (by show 25 - 0 < 1000; omega)
end
