/-! blocks behind a change of jobs -/
def jk (k : Nat) : Prop := k = 63 ∨ (66 ≤ k ∧ k < 70) ∨ (70 ≤ k ∧ k < 130 ∧ 7 ≤ (k - 70) % 10) ∨ (130 ≤ k ∧ k < 218 ∧ ((k - 130) % 11 = 7 ∨ (k - 130) % 11 = 8)) ∨ 218 ≤ k
def SAME (c c' : Nat → Int64) : Prop := ∀ k, ¬ jk k → c' k = c k
/-- the work cells behind f; the job cells of a ship -/
def cwk (c : Nat → Int64) (f : Nat → Int64 → Int64) : Nat → Int64 := fun k => if 70 ≤ k ∧ k < 130 ∧ (k - 70) % 10 = 8 then f ((k - 70) / 10) (c k) else c k
def csh (c : Nat → Int64) (s : Nat) (a b : Int64) : Nat → Int64 := fun k => if k = 130 + 11 * s + 7 then a else if k = 130 + 11 * s + 8 then b else c k
def fput (S : Nat) (x : Int64) (t : Nat) (y : Int64) : Int64 := if S.testBit t = true then y ||| x else y
def frel (S : Nat) (m : Int64) (t : Nat) (y : Int64) : Int64 := if S.testBit t = true then y &&& (m ^^^ -1) else y
def cput (c : Nat → Int64) (s h S : Nat) : Nat → Int64 := csh (cwk c (fput S (OWN c s h))) s (I h).toInt64 (I S).toInt64
def ctake (c : Nat → Int64) (s : Nat) (m : Int64) : Nat → Int64 := csh (cwk c (frel (SF c s 8) m)) s (-4) 0
section
variable {c c' : Nat → Int64} {pl ba : Nat → Nat}
theorem cwk_o {f : Nat → Int64 → Int64} {k : Nat} (h : ¬ (70 ≤ k ∧ k < 130 ∧ (k - 70) % 10 = 8)) : cwk c f k = c k := if_neg h
theorem cwk_w {f : Nat → Int64 → Int64} {t : Nat} (ht : t < 6) : cwk c f (70 + 10 * t + 8) = f t (WK c t) := by
  unfold cwk WK
  rw [if_pos (by omega), show (70 + 10 * t + 8 - 70) / 10 = t by omega]
theorem csh_o {s k : Nat} {a b : Int64} (h7 : k ≠ 130 + 11 * s + 7) (h8 : k ≠ 130 + 11 * s + 8) : csh c s a b k = c k := by
  unfold csh; rw [if_neg h7, if_neg h8]
theorem csh_7 {s : Nat} {a b : Int64} : csh c s a b (130 + 11 * s + 7) = a := if_pos rfl
theorem csh_8 {s : Nat} {a b : Int64} : csh c s a b (130 + 11 * s + 8) = b := by
  unfold csh; rw [if_neg (by omega), if_pos rfl]
theorem same_cwk {f : Nat → Int64 → Int64} : SAME c (cwk c f) := fun k h => cwk_o (by unfold jk at h; omega)
theorem same_csh {s : Nat} {a b : Int64} (hs : s < 8) : SAME c (csh c s a b) := fun k h => csh_o (by unfold jk at h; omega) (by unfold jk at h; omega)
theorem same_trans {c2 : Nat → Int64} (h1 : SAME c c') (h2 : SAME c' c2) : SAME c c2 := fun k h => (h2 k h).trans (h1 k h)
theorem same_nf (h : SAME c c') {k : Nat} (hk : ¬ jk k) : nf c' k = nf c k := by unfold nf; rw [h k hk]
theorem same_tn (h : SAME c c') : TN c' = TN c := same_nf h (by unfold jk; omega)
theorem same_sn (h : SAME c c') : SN c' = SN c := same_nf h (by unfold jk; omega)
theorem same_tf (h : SAME c c') {t j : Nat} (ht : t < 6) (hj : j < 7) : TF c' t j = TF c t j := same_nf h (by unfold jk; omega)
theorem same_sf (h : SAME c c') {s j : Nat} (hs : s < 8) (hj : j < 7) : SF c' s j = SF c s j := same_nf h (by unfold jk; omega)
theorem same_rb (h : SAME c c') {k lo hi : Nat} (hk : ¬ jk k) (q : rb c k lo hi) : rb c' k lo hi := by unfold rb; rw [h k hk]; exact q
theorem bi_mk (B : BI c) (h : SAME c c') (h63 : b48 (c' 63)) (ht : ∀ t, t < TN c → rb c' (70 + 10 * t + 7) 0 48 ∧ b48 (WK c' t) ∧ b48 (BN c' t))
    (hj : ∀ s, s < SN c → (HR c' s = -4 ∧ c' (130 + 11 * s + 8) = 0) ∨ (0 ≤ HR c' s ∧ HR c' s + SF c s 3 ≤ 48 ∧ rb c' (130 + 11 * s + 8) 1 63 ∧ SF c' s 8 < 2 ^ TN c))
    (h6 : ∀ s, s < SN c → JOB c' s → ∀ t, t < TN c → (SF c' s 8).testBit t = true → ∀ k, SF c' s 7 ≤ k → k < SF c' s 7 + SF c s 3 → tb (WK c' t) k = true)
    (h7 : ∀ s s', s < SN c → s' < SN c → s ≠ s' → JOB c' s → JOB c' s' → ∀ t, t < TN c → (SF c' s 8).testBit t = true → (SF c' s' 8).testBit t = true → SF c' s 7 + SF c s 3 ≤ SF c' s' 7 ∨ SF c' s' 7 + SF c s' 3 ≤ SF c' s 7) : BI c' := by
  have e6 := tn6 B
  have e8 := sn8 B
  refine ⟨⟨same_rb h (by unfold jk; omega) B.1.1, same_rb h (by unfold jk; omega) B.1.2.1, same_rb h (by unfold jk; omega) B.1.2.2.1, same_rb h (by unfold jk; omega) B.1.2.2.2.1, same_rb h (by unfold jk; omega) B.1.2.2.2.2.1, h63⟩,
    fun k hk => same_rb h (by unfold jk; omega) (B.2.1 k hk), fun k hk => same_rb h (by unfold jk; omega) (B.2.2.1 k hk), fun t q => ?_, fun s q => ?_, fun s q => ?_, fun s s' q q' => ?_⟩
  · rw [same_tn h] at q
    have b := bt B q
    have r := ht t q
    refine ⟨same_rb h (by unfold jk; omega) b.1, same_rb h (by unfold jk; omega) b.2.1, same_rb h (by unfold jk; omega) b.2.2.1, same_rb h (by unfold jk; omega) b.2.2.2.1, same_rb h (by unfold jk; omega) b.2.2.2.2.1,
      same_rb h (by unfold jk; omega) b.2.2.2.2.2.1, same_rb h (by unfold jk; omega) b.2.2.2.2.2.2.1, r.1, ?_, r.2.1, r.2.2⟩
    rw [same_tf h (by omega) (by decide), same_tf h (by omega) (by decide)]
    exact b.2.2.2.2.2.2.2.2.1
  · rw [same_sn h] at q
    have b := bs B q
    refine ⟨same_rb h (by unfold jk; omega) b.1, same_rb h (by unfold jk; omega) b.2.1, same_rb h (by unfold jk; omega) b.2.2.1, same_rb h (by unfold jk; omega) b.2.2.2.1, same_rb h (by unfold jk; omega) b.2.2.2.2.1,
      same_rb h (by unfold jk; omega) b.2.2.2.2.2.1, same_rb h (by unfold jk; omega) b.2.2.2.2.2.2.1, ?_⟩
    rw [same_tn h, same_sf h (by omega) (by decide)]
    exact hj s q
  · rw [same_sn h] at q
    rw [same_tn h, same_sf (s := s) (j := 3) h (by omega) (by decide)]
    exact h6 s q
  · rw [same_sn h] at q q'
    rw [same_tn h, same_sf (s := s) (j := 3) h (by omega) (by decide), same_sf (s := s') (j := 3) h (by omega) (by decide)]
    exact h7 s s' q q'
/-! a job is put -/
theorem cput_same {s h S : Nat} (hs : s < 8) : SAME c (cput c s h S) := same_trans same_cwk (same_csh hs)
theorem cput_wk {s h S t : Nat} (hs : s < 8) (ht : t < 6) : WK (cput c s h S) t = fput S (OWN c s h) t (WK c t) := by
  show csh _ s _ _ (70 + 10 * t + 8) = _
  rw [csh_o (by omega) (by omega), cwk_w ht]
theorem cput_o {s h S k : Nat} (h1 : ¬ (70 ≤ k ∧ k < 130 ∧ (k - 70) % 10 = 8)) (h7 : k ≠ 130 + 11 * s + 7) (h8 : k ≠ 130 + 11 * s + 8) : cput c s h S k = c k := by
  unfold cput; rw [csh_o h7 h8, cwk_o h1]
theorem cput_7 {s h S : Nat} : cput c s h S (130 + 11 * s + 7) = (I h).toInt64 := csh_7
theorem cput_8 {s h S : Nat} : cput c s h S (130 + 11 * s + 8) = (I S).toInt64 := csh_8
theorem fput_tb {S t k : Nat} {x y : Int64} : tb (fput S x t y) k = (tb y k || (S.testBit t && tb x k)) := by
  unfold fput
  cases S.testBit t <;> simp [tb_or]
theorem bi_put (B : BI c) {s h S : Nat} (hs : s < SN c) (hJ : ¬ JOB c s) (hh : h + SF c s 3 ≤ 48) (h1 : 1 ≤ S) (hS : S < 2 ^ TN c) (hf : ∀ t, t < TN c → S.testBit t = true → (WK c t ||| BN c t) &&& OWN c s h = 0) : BI (cput c s h S) := by
  have e6 := tn6 B
  have e8 := sn8 B
  have hS6 := s64 B hS
  have l := len_ge B hs
  have ho := own48 (c := c) (s := s) (h := h) hh
  have o7 : SF (cput c s h S) s 7 = h := by unfold SF; exact nf_eq cput_7 (by omega)
  have o8 : SF (cput c s h S) s 8 = S := by unfold SF; exact nf_eq cput_8 (by omega)
  have oo : ∀ s' j, s' ≠ s → SF (cput c s h S) s' j = SF c s' j ∨ 11 ≤ j := fun s' j hne => by
    by_cases hj : j < 11
    · left; unfold SF nf; rw [cput_o (by omega) (by omega) (by omega)]
    · right; omega
  have oq : ∀ s', s' ≠ s → SF (cput c s h S) s' 7 = SF c s' 7 ∧ SF (cput c s h S) s' 8 = SF c s' 8 ∧ HR (cput c s h S) s' = HR c s' := fun s' hne => by
    refine ⟨(oo s' 7 hne).resolve_right (by omega), (oo s' 8 hne).resolve_right (by omega), ?_⟩
    unfold HR; rw [cput_o (by omega) (by omega) (by omega)]
  have oj : ∀ s', s' ≠ s → (JOB (cput c s h S) s' ↔ JOB c s') := fun s' hne => by unfold JOB; rw [(oq s' hne).2.2]
  have free : ∀ t, t < TN c → S.testBit t = true → ∀ k, h ≤ k → k < h + SF c s 3 → tb (WK c t) k = true → False := fun t ht hb k k1 k2 k3 =>
    and_0.mp (hf t ht hb) k (by omega) (by rw [tb_or, k3]; rfl) (by unfold OWN; rw [tb_HH (by omega) (by omega)]; exact decide_eq_true ⟨k1, k2⟩)
  refine bi_mk B (cput_same (by omega)) ?_ (fun t ht => ⟨?_, ?_, ?_⟩) (fun s' hs' => ?_) (fun s' hs' hJ' t ht hb k k1 k2 => ?_) (fun s1 s2 q1 q2 hne j1 j2 t ht b1 b2 => ?_)
  · rw [cput_o (by omega) (by omega) (by omega)]; exact B.1.2.2.2.2.2
  · unfold rb; rw [cput_o (by omega) (by omega) (by omega)]; exact (bt B ht).2.2.2.2.2.2.2.1
  · rw [cput_wk (by omega) (by omega)]
    intro k hk
    rw [fput_tb, wk48 B ht k hk, ho k hk]; simp
  · show b48 (cput c s h S (70 + 10 * t + 9))
    rw [cput_o (by omega) (by omega) (by omega)]; exact (bt B ht).2.2.2.2.2.2.2.2.2.2
  · by_cases e : s' = s
    · subst e
      refine Or.inr ⟨?_, ?_, ?_, ?_⟩
      · unfold HR; rw [cput_7, I64 (by omega)]; omega
      · unfold HR; rw [cput_7, I64 (by omega)]; omega
      · unfold rb; rw [cput_8, I64 (by omega)]; omega
      · rw [o8]; exact hS
    · have r := oq s' e
      rw [r.2.1, r.2.2]
      unfold rb
      rw [cput_o (by omega) (by omega) (by omega)]
      exact (bs B hs').2.2.2.2.2.2.2
  · rw [cput_wk (by omega) (by omega), fput_tb]
    by_cases e : s' = s
    · subst e
      rw [o7] at k1 k2
      rw [o8] at hb
      rw [hb]
      unfold OWN
      rw [tb_HH (by omega) (by omega), decide_eq_true ⟨k1, k2⟩]; simp
    · have r := oq s' e
      rw [r.1] at k1 k2
      rw [r.2.1] at hb
      rw [B.2.2.2.2.2.1 s' hs' ((oj s' e).mp hJ') t ht hb k k1 k2]; rfl
  · have half : ∀ s', s' < SN c → s' ≠ s → JOB c s' → ∀ t, t < TN c → S.testBit t = true → (SF c s' 8).testBit t = true → h + SF c s 3 ≤ SF c s' 7 ∨ SF c s' 7 + SF c s' 3 ≤ h := fun s' hs' hne' hJ' t ht hb1 hb2 => by
      have l' := len_ge B hs'
      refine Classical.byContradiction (fun no => ?_)
      have hw := B.2.2.2.2.2.1 s' hs' hJ' t ht hb2
      by_cases q : h ≤ SF c s' 7
      · exact free t ht hb1 (SF c s' 7) q (by omega) (hw _ (Nat.le_refl _) (by omega))
      · exact free t ht hb1 h (Nat.le_refl _) (by omega) (hw _ (by omega) (by omega))
    by_cases x1 : s1 = s
    · subst x1
      have r := oq s2 (fun q => hne q.symm)
      rw [o7, r.1]
      rw [o8] at b1
      rw [r.2.1] at b2
      exact half s2 q2 (fun q => hne q.symm) ((oj s2 (fun q => hne q.symm)).mp j2) t ht b1 b2
    · by_cases x2 : s2 = s
      · subst x2
        have r := oq s1 hne
        rw [o7, r.1]
        rw [o8] at b2
        rw [r.2.1] at b1
        rcases half s1 q1 hne ((oj s1 hne).mp j1) t ht b2 b1 with p | p
        · exact Or.inr p
        · exact Or.inl p
      · have r1 := oq s1 x1
        have r2 := oq s2 x2
        rw [r1.1, r2.1]
        rw [r1.2.1] at b1
        rw [r2.2.1] at b2
        exact B.2.2.2.2.2.2 s1 s2 q1 q2 hne ((oj s1 x1).mp j1) ((oj s2 x2).mp j2) t ht b1 b2
/-! a job is taken: m are hours of it -/
theorem ctake_same {s : Nat} {m : Int64} (hs : s < 8) : SAME c (ctake c s m) := same_trans same_cwk (same_csh hs)
theorem ctake_wk {s t : Nat} {m : Int64} (hs : s < 8) (ht : t < 6) : WK (ctake c s m) t = frel (SF c s 8) m t (WK c t) := by
  show csh _ s _ _ (70 + 10 * t + 8) = _
  rw [csh_o (by omega) (by omega), cwk_w ht]
theorem ctake_o {s k : Nat} {m : Int64} (h1 : ¬ (70 ≤ k ∧ k < 130 ∧ (k - 70) % 10 = 8)) (h7 : k ≠ 130 + 11 * s + 7) (h8 : k ≠ 130 + 11 * s + 8) : ctake c s m k = c k := by
  unfold ctake; rw [csh_o h7 h8, cwk_o h1]
theorem ctake_7 {s : Nat} {m : Int64} : ctake c s m (130 + 11 * s + 7) = -4 := csh_7
theorem ctake_8 {s : Nat} {m : Int64} : ctake c s m (130 + 11 * s + 8) = 0 := csh_8
theorem frel_tb {S t k : Nat} {m y : Int64} (hk : k < 64) : tb (frel S m t y) k = (tb y k && !(S.testBit t && tb m k)) := by
  unfold frel
  cases S.testBit t with
  | false => simp
  | true => rw [if_pos rfl, tb_and, tb_not _ hk, Bool.true_and]
theorem frel_48 {S t : Nat} {m y : Int64} (h : b48 y) : b48 (frel S m t y) := fun k hk => by
  by_cases h6 : k < 64
  · rw [frel_tb h6, h k hk]; rfl
  · exact tb_big (by omega)
theorem bi_take (B : BI c) {s : Nat} {m : Int64} (hs : s < SN c) (hJ : JOB c s) (hm : ∀ k, tb m k = true → SF c s 7 ≤ k ∧ k < SF c s 7 + SF c s 3) : BI (ctake c s m) := by
  have e6 := tn6 B
  have e8 := sn8 B
  have oo : ∀ s' j, s' ≠ s → j < 11 → SF (ctake c s m) s' j = SF c s' j := fun s' j hne hj => by unfold SF nf; rw [ctake_o (by omega) (by omega) (by omega)]
  have oh : ∀ s', s' ≠ s → HR (ctake c s m) s' = HR c s' := fun s' hne => by unfold HR; rw [ctake_o (by omega) (by omega) (by omega)]
  have oj : ∀ s', s' ≠ s → (JOB (ctake c s m) s' ↔ JOB c s') := fun s' hne => by unfold JOB; rw [oh s' hne]
  have no : ¬ JOB (ctake c s m) s := by unfold JOB HR; rw [ctake_7]; decide
  refine bi_mk B (ctake_same (by omega)) ?_ (fun t ht => ⟨?_, ?_, ?_⟩) (fun s' hs' => ?_) (fun s' hs' hJ' t ht hb k k1 k2 => ?_) (fun s1 s2 q1 q2 hne j1 j2 t ht b1 b2 => ?_)
  · rw [ctake_o (by omega) (by omega) (by omega)]; exact B.1.2.2.2.2.2
  · unfold rb; rw [ctake_o (by omega) (by omega) (by omega)]; exact (bt B ht).2.2.2.2.2.2.2.1
  · rw [ctake_wk (by omega) (by omega)]
    exact frel_48 (wk48 B ht)
  · show b48 (ctake c s m (70 + 10 * t + 9))
    rw [ctake_o (by omega) (by omega) (by omega)]; exact (bt B ht).2.2.2.2.2.2.2.2.2.2
  · by_cases e : s' = s
    · subst e
      exact Or.inl ⟨by unfold HR; rw [ctake_7]; rfl, ctake_8⟩
    · rw [oo s' 8 e (by decide), oh s' e]
      unfold rb
      rw [ctake_o (by omega) (by omega) (by omega)]
      exact (bs B hs').2.2.2.2.2.2.2
  · have e : s' ≠ s := fun q => no (q ▸ hJ')
    rw [oo s' 7 e (by decide)] at k1 k2
    rw [oo s' 8 e (by decide)] at hb
    have l' := last_lt B hs' ((oj s' e).mp hJ')
    rw [ctake_wk (by omega) (by omega), frel_tb (by omega), B.2.2.2.2.2.1 s' hs' ((oj s' e).mp hJ') t ht hb k k1 k2]
    cases hb2 : (SF c s 8).testBit t with
    | false => rfl
    | true =>
      cases hmk : tb m k with
      | false => rfl
      | true =>
        have := hm k hmk
        have := B.2.2.2.2.2.2 s' s hs' hs e ((oj s' e).mp hJ') hJ t ht hb hb2
        omega
  · have x1 : s1 ≠ s := fun q => no (q ▸ j1)
    have x2 : s2 ≠ s := fun q => no (q ▸ j2)
    rw [oo s1 7 x1 (by decide), oo s2 7 x2 (by decide)]
    rw [oo s1 8 x1 (by decide)] at b1
    rw [oo s2 8 x2 (by decide)] at b2
    exact B.2.2.2.2.2.2 s1 s2 q1 q2 hne ((oj s1 x1).mp j1) ((oj s2 x2).mp j2) t ht b1 b2
end
