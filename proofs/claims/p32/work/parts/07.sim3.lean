section SIM3
variable {p : Program} {l : Launch} {e : Env} {R : Room} {s : State} {m : MethodId} {args : Array Value} {below : List Frame} {meth : Method} {c : Code} {D : va_G} {cA : Nat → ClassId} {A : Nat → Prop} {H0 : Heap} {scr : Prop} {b : Nat × List (Nat × Nat) × (Nat → Nat → Nat)} {c0 cap : Nat × Nat} {Q : State → Prop} {mi : MI} {k : KC} {pc : Nat} {loc : List (Option AV)} {st : List AV} {S : DS} {sc : Nat × (Nat → Int32)}
theorem no900 (hV : VS S) : ¬ (900, 0) ∈ S.1 := fun h => by
  have h2 := (hV _ h).1
  simp at h2
theorem rf_cv (ad : Nat → Nat → Nat) (F : Nat) (o : Option Nat) : va_rf (o.map (ad F)) = cv ad (.inr (o.map (fun q => (F, q)))) := by
  cases o <;> rfl
theorem memA {F i : Nat} {v : AV} (h : VA scr S v) (hv : v = aR F i) (hF : F ≠ 900) : (F, i) ∈ S.1 := (h (F, i) hv).elim id (fun z => absurd (congrArg Prod.fst z.2) hF)
theorem sim_iald (C : CX p s m args meth c R D cA A H0 c0 cap mi) (hk : k = SB p l e R s m args below meth c D cA A H0 scr b mi.2.2.1 c0 Q) (hX : scr → va_X b.1 sc.1 sc.2 s H0 ∧ b.1 < H0.size ∧ ¬ A b.1) (hdg : decode mi.2.1 pc = .ok (.iaload, 1))
    (h : (∃ n F i r, st = aI n :: aR F i :: r ∧ F / 1000 = 1 ∧ vp_in n (F % 1000) ∧ k (pc + 1) loc (aI (S.2.1 F i n.toNatClampNeg) :: r) S) ∨ (∃ n r, st = aI n :: aR 900 0 :: r ∧ vp_in n sc.1 ∧ k (pc + 1) loc (aI (sc.2 n.toNatClampNeg) :: r) S)) : SB p l e R s m args below meth c D cA A H0 scr b mi.2.2.1 c0 Q pc loc st S := by
  obtain ⟨hx, hb, hml, hown, hts, hNW, hnm, hK, hA, hRf, hRl, hcap⟩ := C
  subst hk
  intro ad H locs cells slots ls hP hD hS hV hsc hl hll hvs hvl hcc hcs
  rcases h with ⟨n, F, i, r, rfl, hF, hin, h⟩ | ⟨n, r, rfl, hin, h⟩
  · have hm : (F, i) ∈ S.1 := memA (fmh (fmt hvs)) rfl (by omega)
    obtain ⟨p0, hp0, he⟩ := wsD_at (cA := cA) (ad := ad) hm
    rw [cellD_int hF] at he
    exact va_iald hx hb hK hP p0 0 he rfl hin hdg (h ad H locs cells slots ls hP hD hS hV hsc hl hll (fm VA.i (fmt (fmt hvs))) hvl hcc hcs)
  · have hs : scr := ((fmh (fmt hvs)) (900, 0) rfl).elim (fun z => absurd z (no900 hV)) (fun z => z.1)
    obtain ⟨x1, x2, x3⟩ := hX hs
    have e9 := hsc.1 hs
    have h9 := h ad H locs cells slots ls hP hD hS hV hsc hl hll (fm VA.i (fmt (fmt hvs))) hvl hcc hcs
    show W p l e R s m args below meth c H locs cells slots Q (F0 m pc ls (.int n :: .ref (ad 900 0) :: r.map (cv ad)))
    rw [e9]
    exact va_sld hx hb x1 x2 x3 hS hin hdg h9
theorem sim_lald (C : CX p s m args meth c R D cA A H0 c0 cap mi) (hk : k = SB p l e R s m args below meth c D cA A H0 scr b mi.2.2.1 c0 Q) (hdg : decode mi.2.1 pc = .ok (.laload, 1))
    (h : ∃ n F i r, st = aI n :: aR F i :: r ∧ F / 1000 = 2 ∧ vp_in n (F % 1000) ∧ k (pc + 1) loc (aL (S.2.2.1 F i n.toNatClampNeg) :: r) S) : SB p l e R s m args below meth c D cA A H0 scr b mi.2.2.1 c0 Q pc loc st S := by
  obtain ⟨hx, hb, hml, hown, hts, hNW, hnm, hK, hA, hRf, hRl, hcap⟩ := C
  subst hk
  intro ad H locs cells slots ls hP hD hS hV hsc hl hll hvs hvl hcc hcs
  obtain ⟨n, F, i, r, rfl, hF, hin, h⟩ := h
  have hm : (F, i) ∈ S.1 := memA (fmh (fmt hvs)) rfl (by omega)
  obtain ⟨p0, hp0, he⟩ := wsD_at (cA := cA) (ad := ad) hm
  rw [cellD_long hF] at he
  exact va_lald hx hb hK hP p0 1 he rfl hin hdg (h ad H locs cells slots ls hP hD hS hV hsc hl hll (fm VA.l (fmt (fmt hvs))) hvl hcc hcs)
theorem sim_aald (C : CX p s m args meth c R D cA A H0 c0 cap mi) (hk : k = SB p l e R s m args below meth c D cA A H0 scr b mi.2.2.1 c0 Q) (hdg : decode mi.2.1 pc = .ok (.aaload, 1))
    (h : ∃ n F i r, st = aI n :: aR F i :: r ∧ 3 ≤ F / 1000 ∧ vp_in n (F % 1000) ∧ k (pc + 1) loc (.inr ((S.2.2.2 F i n.toNatClampNeg).map (fun q => (arT F, q))) :: r) S) : SB p l e R s m args below meth c D cA A H0 scr b mi.2.2.1 c0 Q pc loc st S := by
  obtain ⟨hx, hb, hml, hown, hts, hNW, hnm, hK, hA, hRf, hRl, hcap⟩ := C
  subst hk
  intro ad H locs cells slots ls hP hD hS hV hsc hl hll hvs hvl hcc hcs
  obtain ⟨n, F, i, r, rfl, hF, hin, h⟩ := h
  have hm : (F, i) ∈ S.1 := memA (fmh (fmt hvs)) rfl (by omega)
  obtain ⟨p0, hp0, he⟩ := wsD_at (cA := cA) (ad := ad) hm
  rw [cellD_ref hF] at he
  have h6 : F < 6000 := by have := (hV _ hm).1; simp at this; omega
  obtain ⟨t, q, ht, hq⟩ := TYS_ref (cA := cA) hF h6
  refine va_aldq hx hb hK hP p0 t he ht hin hdg ?_
  have hlt : n.toNatClampNeg < F % 1000 := Nat.not_le.mp fun q => hin (Or.inr q)
  show W p l e R s m args below meth c H locs cells slots Q (F0 m (pc + 1) ls (va_rf (if n.toNatClampNeg < F % 1000 then (S.2.2.2 F i n.toNatClampNeg).map (ad (arT F)) else none) :: r.map (cv ad)))
  rw [if_pos hlt, rf_cv]
  exact h ad H locs cells slots ls hP hD hS hV hsc hl hll (fm (VAo (fun k hk => (hV _ hm).2.2.2 _ k (by show 3000 ≤ F; omega) hlt hk)) (fmt (fmt hvs))) hvl hcc hcs
theorem sim_iast (C : CX p s m args meth c R D cA A H0 c0 cap mi) (hk : k = SB p l e R s m args below meth c D cA A H0 scr b mi.2.2.1 c0 Q) (hdg : decode mi.2.1 pc = .ok (.iastore, 1))
    (h : ∃ v n F i r, st = aI v :: aI n :: aR F i :: r ∧ F / 1000 = 1 ∧ vp_in n (F % 1000) ∧ k (pc + 1) loc r (sI S F i n.toNatClampNeg v)) : SB p l e R s m args below meth c D cA A H0 scr b mi.2.2.1 c0 Q pc loc st S := by
  obtain ⟨hx, hb, hml, hown, hts, hNW, hnm, hK, hA, hRf, hRl, hcap⟩ := C
  subst hk
  intro ad H locs cells slots ls hP hD hS hV hsc hl hll hvs hvl hcc hcs
  obtain ⟨v, n, F, i, r, rfl, hF, hin, h⟩ := h
  have hm : (F, i) ∈ S.1 := memA (fmh (fmt (fmt hvs))) rfl (by omega)
  obtain ⟨p0, hp0, he⟩ := wsD_at (cA := cA) (ad := ad) hm
  rw [cellD_int hF] at he
  refine va_iast hx hb hK hP hD hS p0 0 he rfl hin hdg (fun H1 locs1 hP1 hD1 hS1 => ?_)
  have hW := wsD_set (S' := sI S F i n.toNatClampNeg v) (cA := cA) (ad := ad) hD hp0 rfl (fun F' i' hh => ⟨if_neg hh, rfl, rfl⟩)
  rw [cellD_int hF, show (sI S F i n.toNatClampNeg v).2.1 F i = upd (S.2.1 F i) n.toNatClampNeg v from if_pos ⟨rfl, rfl⟩] at hW
  rw [hW] at hP1 hD1
  exact h ad H1 locs1 cells slots ls hP1 hD1 hS1 hV hsc hl hll (fmt (fmt (fmt hvs))) hvl hcc hcs
theorem sim_last (C : CX p s m args meth c R D cA A H0 c0 cap mi) (hk : k = SB p l e R s m args below meth c D cA A H0 scr b mi.2.2.1 c0 Q) (hdg : decode mi.2.1 pc = .ok (.lastore, 1))
    (h : ∃ v n F i r, st = aL v :: aI n :: aR F i :: r ∧ F / 1000 = 2 ∧ vp_in n (F % 1000) ∧ k (pc + 1) loc r (sL S F i n.toNatClampNeg v)) : SB p l e R s m args below meth c D cA A H0 scr b mi.2.2.1 c0 Q pc loc st S := by
  obtain ⟨hx, hb, hml, hown, hts, hNW, hnm, hK, hA, hRf, hRl, hcap⟩ := C
  subst hk
  intro ad H locs cells slots ls hP hD hS hV hsc hl hll hvs hvl hcc hcs
  obtain ⟨v, n, F, i, r, rfl, hF, hin, h⟩ := h
  have hm : (F, i) ∈ S.1 := memA (fmh (fmt (fmt hvs))) rfl (by omega)
  obtain ⟨p0, hp0, he⟩ := wsD_at (cA := cA) (ad := ad) hm
  rw [cellD_long hF] at he
  refine va_last hx hb hK hP hD hS p0 1 he rfl hin hdg (fun H1 locs1 hP1 hD1 hS1 => ?_)
  have hW := wsD_set (S' := sL S F i n.toNatClampNeg v) (cA := cA) (ad := ad) hD hp0 rfl (fun F' i' hh => ⟨rfl, if_neg hh, rfl⟩)
  rw [cellD_long hF, show (sL S F i n.toNatClampNeg v).2.2.1 F i = vp_updL (S.2.2.1 F i) n.toNatClampNeg v from if_pos ⟨rfl, rfl⟩] at hW
  rw [hW] at hP1 hD1
  exact h ad H1 locs1 cells slots ls hP1 hD1 hS1 hV hsc hl hll (fmt (fmt (fmt hvs))) hvl hcc hcs
theorem sim_aast (C : CX p s m args meth c R D cA A H0 c0 cap mi) (hk : k = SB p l e R s m args below meth c D cA A H0 scr b mi.2.2.1 c0 Q) (hdg : decode mi.2.1 pc = .ok (.aastore, 1))
    (h : ∃ u n F i r, st = aR (arT F) u :: aI n :: aR F i :: r ∧ 3 ≤ F / 1000 ∧ vp_in n (F % 1000) ∧ k (pc + 1) loc r (sQ S F i n.toNatClampNeg (some u))) : SB p l e R s m args below meth c D cA A H0 scr b mi.2.2.1 c0 Q pc loc st S := by
  obtain ⟨hx, hb, hml, hown, hts, hNW, hnm, hK, hA, hRf, hRl, hcap⟩ := C
  subst hk
  intro ad H locs cells slots ls hP hD hS hV hsc hl hll hvs hvl hcc hcs
  obtain ⟨u, n, F, i, r, rfl, hF, hin, h⟩ := h
  have hm : (F, i) ∈ S.1 := memA (fmh (fmt (fmt hvs))) rfl (by omega)
  have h6 : F < 6000 := by have := (hV _ hm).1; simp at this; omega
  obtain ⟨t, q, ht, hq⟩ := TYS_ref (cA := cA) hF h6
  have ha8 : arT F < 8 := (List.getElem?_eq_some_iff.mp hq).1
  have hmu : (arT F, u) ∈ S.1 := memA (fmh hvs) rfl (by omega)
  obtain ⟨p0, hp0, he⟩ := wsD_at (cA := cA) (ad := ad) hm
  obtain ⟨p1, hp1, he1⟩ := wsD_at (cA := cA) (ad := ad) hmu
  rw [cellD_ref hF] at he
  rw [cellD_obj (by omega)] at he1
  refine va_astq hx hb hK hP hD hS p0 t p1 (arT F) he ht he1 hq hin hdg (fun H1 locs1 hP1 hD1 hS1 => ?_)
  have hW := wsD_set (S' := sQ S F i n.toNatClampNeg (some u)) (cA := cA) (ad := ad) hD hp0 rfl (fun F' i' hh => ⟨rfl, rfl, if_neg hh⟩)
  rw [cellD_ref hF, show (sQ S F i n.toNatClampNeg (some u)).2.2.2 F i = va_up (S.2.2.2 F i) n.toNatClampNeg (some u) from if_pos ⟨rfl, rfl⟩] at hW
  have hlt : n.toNatClampNeg < F % 1000 := Nat.not_le.mp fun q => hin (Or.inr q)
  have hfe : (fun j => if j < F % 1000 then (va_up (S.2.2.2 F i) n.toNatClampNeg (some u) j).map (ad (arT F)) else none) = va_up (fun j => if j < F % 1000 then (S.2.2.2 F i j).map (ad (arT F)) else none) n.toNatClampNeg (some (ad (arT F) u)) := by
    funext j
    unfold va_up
    by_cases hj : j = n.toNatClampNeg
    · rw [if_pos hj, if_pos hj, if_pos (by rw [hj]; exact hlt)]
      rfl
    · rw [if_neg hj, if_neg hj]
  rw [hfe] at hW
  rw [hW] at hP1 hD1
  exact h ad H1 locs1 cells slots ls hP1 hD1 hS1 (VS_sQ hV (fun n' k' g1 _ _ => by omega) (fun k' _ g => by cases g; exact hmu)) hsc hl hll (fmt (fmt (fmt hvs))) hvl hcc hcs
theorem sim_alen (C : CX p s m args meth c R D cA A H0 c0 cap mi) (hk : k = SB p l e R s m args below meth c D cA A H0 scr b mi.2.2.1 c0 Q) (hX : scr → va_X b.1 sc.1 sc.2 s H0 ∧ b.1 < H0.size ∧ ¬ A b.1) (hdg : decode mi.2.1 pc = .ok (.arraylength, 1))
    (h : (∃ F i r, st = aR F i :: r ∧ 1000 ≤ F ∧ k (pc + 1) loc (aI (Int32.ofNat (F % 1000)) :: r) S) ∨ (∃ r, st = aR 900 0 :: r ∧ k (pc + 1) loc (aI (Int32.ofNat sc.1) :: r) S)) : SB p l e R s m args below meth c D cA A H0 scr b mi.2.2.1 c0 Q pc loc st S := by
  obtain ⟨hx, hb, hml, hown, hts, hNW, hnm, hK, hA, hRf, hRl, hcap⟩ := C
  subst hk
  intro ad H locs cells slots ls hP hD hS hV hsc hl hll hvs hvl hcc hcs
  rcases h with ⟨F, i, r, rfl, hF, h⟩ | ⟨r, rfl, h⟩
  · have hm : (F, i) ∈ S.1 := memA (fmh hvs) rfl (by omega)
    have h6 : F < 6000 := by have := (hV _ hm).1; simp at this; omega
    obtain ⟨p0, hp0, he⟩ := wsD_at (cA := cA) (ad := ad) hm
    have h9 := h ad H locs cells slots ls hP hD hS hV hsc hl hll (fm VA.i (fmt hvs)) hvl hcc hcs
    by_cases h1 : F / 1000 = 1
    · rw [cellD_int h1] at he
      exact va_alen hx hb hK hP p0 0 he (show (TYS cA)[0]? = some (cA 1, .int) from rfl) rfl hdg h9
    · by_cases h2 : F / 1000 = 2
      · rw [cellD_long h2] at he
        exact va_alen hx hb hK hP p0 1 he (show (TYS cA)[1]? = some (cA 2, .long) from rfl) rfl hdg h9
      · have h3 : 3 ≤ F / 1000 := by omega
        rw [cellD_ref h3] at he
        obtain ⟨t, q, ht, hq⟩ := TYS_ref (cA := cA) h3 h6
        exact va_alen hx hb hK hP p0 t he ht rfl hdg h9
  · have hs : scr := ((fmh hvs) (900, 0) rfl).elim (fun z => absurd z (no900 hV)) (fun z => z.1)
    obtain ⟨x1, x2, x3⟩ := hX hs
    have e9 := hsc.1 hs
    have h9 := h ad H locs cells slots ls hP hD hS hV hsc hl hll (fm VA.i (fmt hvs)) hvl hcc hcs
    show W p l e R s m args below meth c H locs cells slots Q (F0 m pc ls (.ref (ad 900 0) :: r.map (cv ad)))
    rw [e9]
    exact va_slen hx hb x1 x2 x3 hS hdg h9
/-- behind an allocation -/
theorem sim_made (C : CX p s m args meth c R D cA A H0 c0 cap mi) {F q : Nat} {ad : Nat → Nat → Nat} {H1 : Heap} {locs : List Loc} {cells slots pc' : Nat} {ls : Array Slot} {E : va_E} {r : List AV} (hF : F < 8 ∨ (1000 ≤ F ∧ F < 6000))
    (hE : cellD cA (fun F' i' => if F' = F ∧ i' = cntF S.1 F then q else ad F' i') (sNew S F (cntF S.1 F)) F (cntF S.1 F) = E)
    (hP : va_P D vwCl (wsD cA ad S ++ [(q, E)]) H1) (hD : va_D A (wsD cA ad S ++ [(q, E)])) (hS : va_S A H0 H1 locs) (hV : VS S) (hsc : SCI scr b ad S.1) (hl : LV ad ls mi.2.2.1 loc) (hll : loc.length = mi.2.2.1) (hvs : ∀ v ∈ r, VA scr S v) (hvl : ∀ (i : Nat) v, loc[i]? = some (some v) → VA scr S v) (hcc : cells + c0.1 = S.1.length) (hcs : slots + c0.2 = slz S.1)
    (h : SB p l e R s m args below meth c D cA A H0 scr b mi.2.2.1 c0 Q pc' loc (aR F (cntF S.1 F) :: r) (sNew S F (cntF S.1 F))) :
    W p l e R s m args below meth c H1 locs (cells + 1) (slots + szF F) Q (F0 m pc' ls (.ref q :: r.map (cv ad))) := by
  have hne : ∀ a ∈ S.1, ¬ (a.1 = F ∧ a.2 = cntF S.1 F) := by
    intro a ha hh
    have h1 := (hV a ha).2.1
    rw [hh.1] at h1
    omega
  have had : ∀ a ∈ S.1, (fun F' i' => if F' = F ∧ i' = cntF S.1 F then q else ad F' i') a.1 a.2 = ad a.1 a.2 := fun a ha => if_neg (hne a ha)
  have h9 : (fun F' i' => if F' = F ∧ i' = cntF S.1 F then q else ad F' i') 900 0 = ad 900 0 := if_neg (fun hh => by omega)
  have hle : ∀ a ∈ S.1, a ∈ (sNew S F (cntF S.1 F)).1 := fun a ha => List.mem_append_left _ ha
  have hnew : (F, cntF S.1 F) ∈ (sNew S F (cntF S.1 F)).1 := List.mem_append_right _ (List.mem_singleton.mpr rfl)
  rw [← hE, ← wsD_new hV] at hP hD
  have h1 := h (fun F' i' => if F' = F ∧ i' = cntF S.1 F then q else ad F' i') H1 locs (cells + 1) (slots + szF F) ls hP hD hS (hV.new hF) (hsc.mono ⟨_, rfl⟩ had h9) (hl.ad hvl had (fun _ => h9)) hll (fm (VA.r hnew) (fun v hv => (hvs v hv).le hle)) (fun i v hv => (hvl i v hv).le hle) (by simp [sNew]; omega) (by rw [slz_new]; omega)
  rw [List.map_cons, cvs_eq hvs had (fun _ => h9)] at h1
  have e : cv (fun F' i' => if F' = F ∧ i' = cntF S.1 F then q else ad F' i') (aR F (cntF S.1 F)) = .ref q := by
    show Value.ref (if F = F ∧ cntF S.1 F = cntF S.1 F then q else ad F (cntF S.1 F)) = _
    rw [if_pos ⟨rfl, rfl⟩]
  rw [e] at h1
  exact h1
theorem fvT_new (ad : Nat → Nat → Nat) (S : DS) (F i j : Nat) : fvT ad (sNew S F i) F i j = dfK (kdT F j) := by
  unfold fvT
  cases kdT F j with
  | zero => simp [rdF, sNew, cv, dfK]
  | succ n =>
    cases n with
    | zero => simp [rdF, sNew, cv, dfK]
    | succ n => simp [rdF, sNew, cv, dfK]
theorem sim_new (C : CX p s m args meth c R D cA A H0 c0 cap mi) (hk : k = SB p l e R s m args below meth c D cA A H0 scr b mi.2.2.1 c0 Q) {idx x w : Nat} {tl : List Nat} (hdg : decode mi.2.1 pc = .ok (.new idx, 3)) (hc : ckN mi.1.cls idx x w tl = true)
    (h : S.1.length + 1 ≤ cap.1 ∧ slz S.1 + nfT x ≤ cap.2 ∧ k (pc + 3) loc (aR x (cntF S.1 x) :: st) (sNew S x (cntF S.1 x))) : SB p l e R s m args below meth c D cA A H0 scr b mi.2.2.1 c0 Q pc loc st S := by
  have C' := C
  obtain ⟨hx, hb, hml, hown, hts, hNW, hnm, hK, hA, hRf, hRl, hcap⟩ := C
  subst hk
  intro ad H locs cells slots ls hP hD hS hV hsc hl hll hvs hvl hcc hcs
  obtain ⟨g1, g2, h⟩ := h
  unfold ckN at hc
  split at hc
  · next C T N hq =>
    simp only [Bool.and_eq_true, decide_eq_true_eq] at hc
    obtain ⟨a1, a2, a3, a4, a5⟩ := hc
    have hx8 : x < 8 := (List.getElem?_eq_some_iff.mp hq).1
    obtain ⟨hf1, hf2, hf3, ty, hf4, hf5⟩ := clsF_all hq
    rw [hcap] at g1 g2
    simp only at g1 g2
    have hsz : szF x = N := by
      unfold szF
      rw [show Nat.ble 1000 x = false by cases hbb : Nat.ble 1000 x with | false => rfl | true => have := Nat.le_of_ble_eq_true hbb; omega]
      exact a1
    have hE : cellD cA (fun F' i' => if F' = x ∧ i' = cntF S.1 x then H.size else ad F' i') (sNew S x (cntF S.1 x)) x (cntF S.1 x) = .inr (x, (List.range N).map (fun j => dfK (kdT x j))) := by
      rw [cellD_obj (by omega), a1]
      congr 2
      exact List.map_congr_left (fun j _ => fvT_new _ _ _ _ _)
    have hgo : ∀ (q : Nat) (H1 : Heap), va_P D vwCl (wsD cA ad S ++ [(q, .inr (x, (List.range N).map (fun j => dfK (kdT x j))))]) H1 → va_D A (wsD cA ad S ++ [(q, .inr (x, (List.range N).map (fun j => dfK (kdT x j))))]) → va_S A H0 H1 locs → W p l e R s m args below meth c H1 locs (cells + 1) (slots + N) Q (F0 m (pc + 3) ls (.ref q :: st.map (cv ad))) := by
      intro q H1 hP1 hD1 hS1
      have hE : cellD cA (fun F' i' => if F' = x ∧ i' = cntF S.1 x then q else ad F' i') (sNew S x (cntF S.1 x)) x (cntF S.1 x) = .inr (x, (List.range N).map (fun j => dfK (kdT x j))) := by
        rw [cellD_obj (by omega), a1]
        congr 2
        exact List.map_congr_left (fun j _ => fvT_new _ _ _ _ _)
      have := sim_made C' (Or.inl hx8) hE hP1 hD1 hS1 hV hsc hl hll hvs hvl hcc hcs h
      rw [hsz] at this
      exact this
    exact va_new (ci := x) (C := C) (T := T) (N := N) hx hb hts hf1 ty hf4 hown (hts _ (TG.in (hasW.in a3) rfl)) (hts _ (TG.in (hasW.in a4) rfl)) (hts _ (TG.in (hasW.in a5) rfl)) hK hP hD hS hA hq (fun j hj => by rw [hf5 j hj]; show _ = List.getD _ _ _; rw [List.getD_eq_getElem?_getD, List.getElem?_map, List.getElem?_range hj]; rfl) (by omega) (by omega) hdg hgo
  · cases hc
theorem sim_newI (C : CX p s m args meth c R D cA A H0 c0 cap mi) (hk : k = SB p l e R s m args below meth c D cA A H0 scr b mi.2.2.1 c0 Q) {x n0 : Nat} (hdg : decode mi.2.1 pc = .ok (.newarray .int, 2)) (hx1 : x = 1000) (hc : hasW n0 (.arrayClass .int) = true)
    (h : ∃ n r N, st = aI n :: r ∧ ¬ n < 0 ∧ n.toNatClampNeg = N ∧ N < 1000 ∧ S.1.length + 1 ≤ cap.1 ∧ slz S.1 + N ≤ cap.2 ∧ k (pc + 2) loc (aR (x + N) (cntF S.1 (x + N)) :: r) (sNew S (x + N) (cntF S.1 (x + N)))) : SB p l e R s m args below meth c D cA A H0 scr b mi.2.2.1 c0 Q pc loc st S := by
  have C' := C
  obtain ⟨hx, hb, hml, hown, hts, hNW, hnm, hK, hA, hRf, hRl, hcap⟩ := C
  subst hk
  subst hx1
  intro ad H locs cells slots ls hP hD hS hV hsc hl hll hvs hvl hcc hcs
  obtain ⟨n, r, N, rfl, hn, hN, h1000, g1, g2, h⟩ := h
  rw [hcap] at g1 g2
  simp only at g1 g2
  have hd : (1000 + N) / 1000 = 1 := by omega
  have hsz : szF (1000 + N) = N := by
    unfold szF
    rw [show Nat.ble 1000 (1000 + N) = true from Nat.ble_eq_true_of_le (by omega)]
    show (1000 + N) % 1000 = N
    omega
  refine va_newa (atype := .int) (ty := .int) (a0 := (N, .inl (fun _ => 0))) (N' := N) hx hb (hts _ (TG.in (hasW.in hc) rfl)) rfl hK hP hD hS hA (fun cA => rfl) hn hN (by show N * 4 ≤ _; omega) (by omega) (by omega) hdg (fun q cB H1 hK1 hP1 hD1 hS1 => ?_)
  have hcB : cB = cA 1 := by
    have e1 : s.vm.findClass ("[" ++ (FieldType.int).toString) = some cB := (hK1.2 5 (cB, .int) rfl).2
    have e2 : s.vm.findClass ("[" ++ (FieldType.int).toString) = some (cA 1) := (hK.2 0 (cA 1, .int) rfl).2
    exact Option.some.inj (e1.symm.trans e2)
  subst hcB
  have hE : cellD cA (fun F' i' => if F' = 1000 + N ∧ i' = cntF S.1 (1000 + N) then q else ad F' i') (sNew S (1000 + N) (cntF S.1 (1000 + N))) (1000 + N) (cntF S.1 (1000 + N)) = .inl (cA 1, N, .inl (fun _ => 0)) := by
    rw [cellD_int hd, show (1000 + N) % 1000 = N by omega]
    simp [sNew]
  have := sim_made C' (Or.inr ⟨by omega, by omega⟩) hE hP1 hD1 hS1 hV hsc hl hll (fmt hvs) hvl hcc hcs h
  rw [hsz] at this
  exact this
theorem sim_newL (C : CX p s m args meth c R D cA A H0 c0 cap mi) (hk : k = SB p l e R s m args below meth c D cA A H0 scr b mi.2.2.1 c0 Q) {x n0 : Nat} (hdg : decode mi.2.1 pc = .ok (.newarray .long, 2)) (hx1 : x = 2000) (hc : hasW n0 (.arrayClass .long) = true)
    (h : ∃ n r N, st = aI n :: r ∧ ¬ n < 0 ∧ n.toNatClampNeg = N ∧ N < 1000 ∧ S.1.length + 1 ≤ cap.1 ∧ slz S.1 + N ≤ cap.2 ∧ k (pc + 2) loc (aR (x + N) (cntF S.1 (x + N)) :: r) (sNew S (x + N) (cntF S.1 (x + N)))) : SB p l e R s m args below meth c D cA A H0 scr b mi.2.2.1 c0 Q pc loc st S := by
  have C' := C
  obtain ⟨hx, hb, hml, hown, hts, hNW, hnm, hK, hA, hRf, hRl, hcap⟩ := C
  subst hk
  subst hx1
  intro ad H locs cells slots ls hP hD hS hV hsc hl hll hvs hvl hcc hcs
  obtain ⟨n, r, N, rfl, hn, hN, h1000, g1, g2, h⟩ := h
  rw [hcap] at g1 g2
  simp only at g1 g2
  have hd : (2000 + N) / 1000 = 2 := by omega
  have hsz : szF (2000 + N) = N := by
    unfold szF
    rw [show Nat.ble 1000 (2000 + N) = true from Nat.ble_eq_true_of_le (by omega)]
    show (2000 + N) % 1000 = N
    omega
  refine va_newa (atype := .long) (ty := .long) (a0 := (N, .inr (.inl (fun _ => 0)))) (N' := N) hx hb (hts _ (TG.in (hasW.in hc) rfl)) rfl hK hP hD hS hA (fun cA => rfl) hn hN (by show N * 8 ≤ _; omega) (by omega) (by omega) hdg (fun q cB H1 hK1 hP1 hD1 hS1 => ?_)
  have hcB : cB = cA 2 := by
    have e1 : s.vm.findClass ("[" ++ (FieldType.long).toString) = some cB := (hK1.2 5 (cB, .long) rfl).2
    have e2 : s.vm.findClass ("[" ++ (FieldType.long).toString) = some (cA 2) := (hK.2 1 (cA 2, .long) rfl).2
    exact Option.some.inj (e1.symm.trans e2)
  subst hcB
  have hE : cellD cA (fun F' i' => if F' = 2000 + N ∧ i' = cntF S.1 (2000 + N) then q else ad F' i') (sNew S (2000 + N) (cntF S.1 (2000 + N))) (2000 + N) (cntF S.1 (2000 + N)) = .inl (cA 2, N, .inr (.inl (fun _ => 0))) := by
    rw [cellD_long hd, show (2000 + N) % 1000 = N by omega]
    simp [sNew]
  have := sim_made C' (Or.inr ⟨by omega, by omega⟩) hE hP1 hD1 hS1 hV hsc hl hll (fmt hvs) hvl hcc hcs h
  rw [hsz] at this
  exact this
theorem sim_newR (C : CX p s m args meth c R D cA A H0 c0 cap mi) (hk : k = SB p l e R s m args below meth c D cA A H0 scr b mi.2.2.1 c0 Q) {x idx : Nat} {tl : List Nat} (hdg : decode mi.2.1 pc = .ok (.anewarray idx, 3)) (hc : ckA mi.1.cls idx x tl = true)
    (h : ∃ n r N, st = aI n :: r ∧ ¬ n < 0 ∧ n.toNatClampNeg = N ∧ N < 1000 ∧ S.1.length + 1 ≤ cap.1 ∧ slz S.1 + N ≤ cap.2 ∧ k (pc + 3) loc (aR (x + N) (cntF S.1 (x + N)) :: r) (sNew S (x + N) (cntF S.1 (x + N)))) : SB p l e R s m args below meth c D cA A H0 scr b mi.2.2.1 c0 Q pc loc st S := by
  have C' := C
  obtain ⟨hx, hb, hml, hown, hts, hNW, hnm, hK, hA, hRf, hRl, hcap⟩ := C
  subst hk
  intro ad H locs cells slots ls hP hD hS hV hsc hl hll hvs hvl hcc hcs
  obtain ⟨n, r, N, rfl, hn, hN, h1000, g1, g2, h⟩ := h
  rw [hcap] at g1 g2
  simp only at g1 g2
  unfold ckA at hc
  rw [Bool.and_eq_true, decide_eq_true_eq] at hc
  obtain ⟨hx3, hc⟩ := hc
  split at hc
  · next C T N' hq =>
    rw [Bool.and_eq_true] at hc
    obtain ⟨w1, w2⟩ := hc
    have hd : (x + N) / 1000 = x / 1000 := by omega
    have h3 : 3 ≤ (x + N) / 1000 := by omega
    have h6 : x + N < 6000 := by omega
    have har : arT (x + N) = arT x := by unfold arT; rw [hd]
    have hsz : szF (x + N) = N := by
      unfold szF
      rw [show Nat.ble 1000 (x + N) = true from Nat.ble_eq_true_of_le (by omega)]
      show (x + N) % 1000 = N
      omega
    obtain ⟨t, q, ht, hq2⟩ := TYS_ref (cA := cA) h3 h6
    rw [har, hq] at hq2
    have hqC : q = (C, T, N') := (Option.some.inj hq2).symm
    rw [hqC] at ht
    refine va_newq (C := C) (N' := N) hx hb hown (hts _ (TG.in (hasW.in w1) rfl)) (hNW.2 C (hasW.in w2)) hK hP hD hS hA hn hN (by omega) (by omega) (by omega) hdg (fun q1 cB H1 hK1 hP1 hD1 hS1 => ?_)
    have hcB : cB = cA ((x + N) / 1000) := by
      have e1 := (hK1.2 5 (cB, .object C) rfl).2
      have e2 := (hK.2 t _ ht).2
      obtain ⟨_, _, _, _, _, f1⟩ := e1
      obtain ⟨_, _, _, _, _, f2⟩ := e2
      exact Option.some.inj (f1.symm.trans f2)
    subst hcB
    have hE : cellD cA (fun F' i' => if F' = x + N ∧ i' = cntF S.1 (x + N) then q1 else ad F' i') (sNew S (x + N) (cntF S.1 (x + N))) (x + N) (cntF S.1 (x + N)) = .inl (cA ((x + N) / 1000), N, .inr (.inr (.inr (.inr (fun _ => none))))) := by
      rw [cellD_ref h3, show (x + N) % 1000 = N by omega]
      simp [sNew]
    have := sim_made C' (Or.inr ⟨by omega, by omega⟩) hE hP1 hD1 hS1 hV hsc hl hll (fmt hvs) hvl hcc hcs h
    rw [hsz] at this
    exact this
  · cases hc
end SIM3
