/-! what holds of every state, and which cells jobs change -/
def gk (F j : Nat) : Nat :=
  if F = 7 then (if j = 2 then 1 else if j = 5 then 2 else if j = 10 then 3 else 0) else
  if F = 4 then (if j = 2 then 3 else if j = 3 then 4 else 0) else
  if F = 5 then (if j = 5 then 2 else 0) else
  if F = 1 then (if j = 5 then 5 else 0) else 0
def clo (d : Nat) : Int := if d = 0 then -2147483648 else 0
def chi (d : Nat) : Int := if d = 1 then 3 else if d = 2 then 12 else if d = 3 then 47 else if d = 4 then 4 else if d = 5 then 6 else 2147483647
def rgg (d : Nat) (x : Int32) : Prop := clo d ≤ x.toInt ∧ x.toInt ≤ chi d
def wk (F i j : Nat) : Nat := if i = 0 then (if F = 2218 then kd j else if F = 2022 then (if 6 ≤ j ∧ j % 2 = 0 then 8 else 0) else 0) else 0
def rgw (d : Nat) (x : Int64) : Prop := klo d ≤ x.toInt ∧ x.toInt ≤ khi d
theorem rgg_0 (x : Int32) : rgg 0 x := ⟨by have := x.le_toInt; unfold clo; simp only [if_true]; omega, by have := x.toInt_lt; show x.toInt ≤ 2147483647; omega⟩
theorem rgw_0 (x : Int64) : rgw 0 x := ⟨by have := x.le_toInt; show -9223372036854775808 ≤ x.toInt; omega, by have := x.toInt_lt; show x.toInt ≤ 9223372036854775807; omega⟩
def InvG (g : Nat → Nat → Nat → Int32) : Prop := ∀ F i j, rgg (gk F j) (g F i j)
def InvW (w : Nat → Nat → Nat → Int64) : Prop := ∀ F i j, rgw (wk F i j) (w F i j)
def InvK (g : Nat → Nat → Nat → Int32) (w : Nat → Nat → Nat → Int64) : Prop := ∀ i : Nat, (i : Int) < (g 7 0 2).toInt → ∀ k, k < 218 → rgw (kd k) (w 2654 0 (218 * i + k))
def jc (F i j : Nat) : Prop :=
  (F = 7 ∧ 10 ≤ j) ∨ (F = 4 ∧ i < 8 ∧ 7 ≤ j) ∨ (F = 4 ∧ 8 ≤ i ∧ i < 16) ∨ (F = 5 ∧ i < 6 ∧ 7 ≤ j) ∨ (F = 5 ∧ 6 ≤ i ∧ i < 12) ∨
  (F = 1 ∧ i = 0 ∧ 11 ≤ j) ∨ (F = 1 ∧ i = 1) ∨ F = 2 ∨ F = 1004 ∨ F = 1006 ∨ (F = 1012 ∧ i = 1) ∨ (F = 1048 ∧ i = 1)
def jl (F i j : Nat) : Prop :=
  (F = 2218 ∧ (j = 63 ∨ (66 ≤ j ∧ j < 70) ∨ (70 ≤ j ∧ j < 130 ∧ 7 ≤ (j - 70) % 10) ∨ (130 ≤ j ∧ 7 ≤ (j - 130) % 11))) ∨ F = 2022 ∨
  (F = 5 ∧ i < 12) ∨ (F = 1 ∧ i < 2)
def Gd (g' : Nat → Nat → Nat → Int32) (w' : Nat → Nat → Nat → Int64) (g : Nat → Nat → Nat → Int32) (w : Nat → Nat → Nat → Int64) : Prop :=
  InvG g ∧ InvW w ∧ InvK g w ∧ (∀ F i j, ¬ jc F i j → g F i j = g' F i j) ∧ (∀ F i j, ¬ jl F i j → w F i j = w' F i j)
section
variable {g' g : Nat → Nat → Nat → Int32} {w' w : Nat → Nat → Nat → Int64}
theorem gd_refl (h1 : InvG g) (h2 : InvW w) (h3 : InvK g w) : Gd g w g w := ⟨h1, h2, h3, fun _ _ _ _ => rfl, fun _ _ _ _ => rfl⟩
theorem gd_trans {g'' : Nat → Nat → Nat → Int32} {w'' : Nat → Nat → Nat → Int64} (h : Gd g'' w'' g' w') (h2 : Gd g' w' g w) : Gd g'' w'' g w :=
  ⟨h2.1, h2.2.1, h2.2.2.1, fun F i j q => (h2.2.2.2.1 F i j q).trans (h.2.2.2.1 F i j q), fun F i j q => (h2.2.2.2.2 F i j q).trans (h.2.2.2.2 F i j q)⟩
theorem invG_gI (h : InvG g) {F i j : Nat} {x : Int32} (hx : rgg (gk F j) x) : InvG (gI g F i j x) := by
  intro F1 i1 j1
  rw [gI_at]
  by_cases q : F1 = F ∧ i1 = i ∧ j1 = j
  · rw [if_pos q, q.1, q.2.2]; exact hx
  · rw [if_neg q]; exact h F1 i1 j1
theorem invW_wL (h : InvW w) {F i j : Nat} {x : Int64} (hx : rgw (wk F i j) x) : InvW (wL w F i j x) := by
  intro F1 i1 j1
  rw [wL_at]
  by_cases q : F1 = F ∧ i1 = i ∧ j1 = j
  · rw [if_pos q, q.1, q.2.1, q.2.2]; exact hx
  · rw [if_neg q]; exact h F1 i1 j1
theorem invK_gI (h : InvK g w) {F i j : Nat} {x : Int32} (hn : ¬ (F = 7 ∧ i = 0 ∧ j = 2)) : InvK (gI g F i j x) w := by
  intro i1 h1 k hk
  rw [gI_at, if_neg (fun q => hn ⟨q.1.symm, q.2.1.symm, q.2.2.symm⟩)] at h1
  exact h i1 h1 k hk
theorem invK_wL (h : InvK g w) {F i j : Nat} {x : Int64} (hn : F ≠ 2654) : InvK g (wL w F i j x) := by
  intro i1 h1 k hk
  rw [wL_at, if_neg (fun q => hn q.1.symm)]
  exact h i1 h1 k hk
theorem gd_gI {F i j : Nat} {x : Int32} (h : Gd g' w' g w) (hj : jc F i j) (hx : rgg (gk F j) x) : Gd g' w' (gI g F i j x) w := by
  refine ⟨invG_gI h.1 hx, h.2.1, invK_gI h.2.2.1 ?_, fun F1 i1 j1 q => ?_, h.2.2.2.2⟩
  · unfold jc at hj; omega
  · rw [gI_at, if_neg (fun e => q (by rw [e.1, e.2.1, e.2.2]; exact hj))]
    exact h.2.2.2.1 F1 i1 j1 q
theorem gd_wL {F i j : Nat} {x : Int64} (h : Gd g' w' g w) (hj : jl F i j) (hx : rgw (wk F i j) x) : Gd g' w' g (wL w F i j x) := by
  refine ⟨h.1, invW_wL h.2.1 hx, invK_wL h.2.2.1 ?_, h.2.2.2.1, fun F1 i1 j1 q => ?_⟩
  · unfold jl at hj; omega
  · rw [wL_at, if_neg (fun e => q (by rw [e.1, e.2.1, e.2.2]; exact hj))]
    exact h.2.2.2.2 F1 i1 j1 q
theorem gd_bk (h : Gd g' w' g w) : BK (w 2218 0) := fun k => h.2.1 2218 0 k
theorem gd_7 (h : Gd g' w' g w) {j : Nat} {x : Int32} (hj : 11 ≤ j) : Gd g' w' (gI g 7 0 j x) w := by
  refine gd_gI h (by unfold jc; omega) ?_
  rw [show gk 7 j = 0 from by unfold gk; rw [if_pos rfl, if_neg (by omega), if_neg (by omega), if_neg (by omega)]]
  exact rgg_0 x
theorem gd_710 (h : Gd g' w' g w) {k : Nat} (hk : k ≤ 47) : Gd g' w' (gI g 7 0 10 (I k)) w := by
  refine gd_gI h (by unfold jc; omega) ?_
  have e := I_toInt (k := k) (by omega)
  refine ⟨?_, ?_⟩
  · rw [e]; show (0 : Int) ≤ _; omega
  · rw [e]; show _ ≤ (47 : Int); omega
theorem gd_tugw (h : Gd g' w' g w) {t j : Nat} {x : Int64} (ht : t < 6) (hj : 7 ≤ j) (hj2 : j < 10) : Gd g' w' g (wL w 2218 0 (((70 : Int32) + (10 : Int32) * I t) + I j).toNatClampNeg x) := by
  rw [ix_tug, I_tn (by omega)]
  refine gd_wL h (by unfold jl; omega) ?_
  rw [show wk 2218 0 (70 + 10 * t + j) = 0 from kd_tug ht hj2 (by omega) (by omega)]
  exact rgw_0 x
theorem gd_set (h : Gd g' w' g w) {s : Nat} {x : Int64} (hs : s < 8) : Gd g' w' g (wL w 2218 0 (((130 : Int32) + (11 : Int32) * I s) + (8 : Int32)).toNatClampNeg x) := by
  rw [i_8, ix_ship, I_tn (by omega)]
  refine gd_wL h (by unfold jl; omega) ?_
  rw [show wk 2218 0 (130 + 11 * s + 8) = 0 from kd_set]
  exact rgw_0 x
theorem gd_hour (h : Gd g' w' g w) {s : Nat} {x : Int64} (hs : s < 8) (hx : -4 ≤ x.toInt ∧ x.toInt ≤ 47) : Gd g' w' g (wL w 2218 0 (((130 : Int32) + (11 : Int32) * I s) + (7 : Int32)).toNatClampNeg x) := by
  rw [i_7, ix_ship, I_tn (by omega)]
  refine gd_wL h (by unfold jl; omega) ?_
  rw [show wk 2218 0 (130 + 11 * s + 7) = 8 from kd_hour]
  exact hx
theorem gd_n (h : Gd g' w' g w) {n : Nat} {x : Int64} (hn : n = 63 ∨ n = 66 ∨ n = 67 ∨ n = 68 ∨ n = 69) : Gd g' w' g (wL w 2218 0 n x) := by
  refine gd_wL h (by unfold jl; omega) ?_
  rw [show wk 2218 0 n = 0 from by rcases hn with rfl | rfl | rfl | rfl | rfl <;> rfl]
  exact rgw_0 x
theorem gd_asd (h : Gd g' w' g w) {k : Nat} {x : Int64} (hx : rgw (wk 2022 0 k) x) : Gd g' w' g (wL w 2022 0 k x) := gd_wL h (by unfold jl; omega) hx
theorem gd_hrg (h : Gd g' w' g w) {s : Nat} : -4 ≤ (w 2218 0 (130 + 11 * s + 7)).toInt ∧ (w 2218 0 (130 + 11 * s + 7)).toInt ≤ 47 := by
  have q := h.2.1 2218 0 (130 + 11 * s + 7)
  rw [show wk 2218 0 (130 + 11 * s + 7) = 8 from kd_hour] at q
  exact q
theorem gd_arg (h : Gd g' w' g w) {s : Nat} : -4 ≤ (w 2022 0 (6 + 2 * s)).toInt ∧ (w 2022 0 (6 + 2 * s)).toInt ≤ 47 := by
  have q := h.2.1 2022 0 (6 + 2 * s)
  rw [show wk 2022 0 (6 + 2 * s) = 8 from by unfold wk; rw [if_pos rfl, if_neg (by decide), if_pos rfl, if_pos (by omega)]] at q
  exact q
theorem gd_bh (h : Gd g' w' g w) : ∃ k, k ≤ 47 ∧ g 7 0 10 = I k := by
  have q := h.1 7 0 10
  exact I_ex q.1 q.2
theorem I64_rg {k : Nat} (hk : k ≤ 47) : -4 ≤ (I k).toInt64.toInt ∧ (I k).toInt64.toInt ≤ 47 := by
  rw [I64 (by omega)]; omega
theorem m4_rg : -4 ≤ (-4 : Int64).toInt ∧ (-4 : Int64).toInt ≤ 47 := by decide
end
