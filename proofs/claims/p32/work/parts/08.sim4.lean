section SIM4
variable {p : Program} {l : Launch} {e : Env} {R : Room} {s : State} {m : MethodId} {args : Array Value} {below : List Frame} {meth : Method} {c : Code} {D : va_G} {cA : Nat → ClassId} {A : Nat → Prop} {H0 : Heap} {scr : Prop} {b : Nat × List (Nat × Nat) × (Nat → Nat → Nat)} {c0 cap : Nat × Nat} {Q : State → Prop} {mi : MI} {k : KC} {pc : Nat} {loc : List (Option AV)} {st : List AV} {S : DS} {sc : Nat × (Nat → Int32)}
theorem sim_copy (C : CX p s m args meth c R D cA A H0 c0 cap mi) (hk : k = SB p l e R s m args below meth c D cA A H0 scr b mi.2.2.1 c0 Q) {idx n0 n1 n2 n3 : Nat} (hdg : decode mi.2.1 pc = .ok (.invokestatic idx, 3)) (h1 : hasW n0 (.methodLink mi.1.cls idx arraycopyName) = true) (h2 : hasW n1 (.native arraycopyName) = true) (h3 : hasW n2 (.static arraycopyName) = true) (h4 : hasW n3 (.initialized "java/lang/System") = true) (h5 : 1 ≤ mi.2.2.2.2.1 ∧ 8 + (nativeFrameWords "java/lang/System" "arraycopy" 5 + 11) ≤ mi.2.2.2.2.2.2.2.1)
    (h : ∃ n d F' i' u F i r, st = aI n :: aI d :: aR F' i' :: aI u :: aR F i :: r ∧ F / 1000 = 1 ∧ F' / 1000 = 1 ∧ ¬ u < 0 ∧ ¬ d < 0 ∧ ¬ n < 0 ∧ u.toNatClampNeg + n.toNatClampNeg ≤ F % 1000 ∧ d.toNatClampNeg + n.toNatClampNeg ≤ F' % 1000 ∧ aCats r ≤ 8 ∧ k (pc + 3) loc r (sRow S F' i' (va_cpy (S.2.1 F i) (S.2.1 F' i') u.toNatClampNeg d.toNatClampNeg n.toNatClampNeg))) : SB p l e R s m args below meth c D cA A H0 scr b mi.2.2.1 c0 Q pc loc st S := by
  obtain ⟨hx, hb, hml, hown, hts, hNW, hnm, hK, hA, hRf, hRl, hcap⟩ := C
  subst hk
  intro ad H locs cells slots ls hP hD hS hV hsc hl hll hvs hvl hcc hcs
  obtain ⟨n, d, F', i', u, F, i, r, rfl, hF, hF', g1, g2, g3, g4, g5, g6, h⟩ := h
  have hm' : (F', i') ∈ S.1 := memA (fmh (fmt (fmt hvs))) rfl (by omega)
  have hm : (F, i) ∈ S.1 := memA (fmh (fmt (fmt (fmt (fmt hvs))))) rfl (by omega)
  obtain ⟨p0, hp0, he⟩ := wsD_at (cA := cA) (ad := ad) hm
  obtain ⟨p1, hp1, he1⟩ := wsD_at (cA := cA) (ad := ad) hm'
  rw [cellD_int hF] at he
  rw [cellD_int hF'] at he1
  refine va_copyi hx hb (hml.trans hl.1.symm) hown (hts _ (TG.in (hasW.in h1) rfl)) (hts _ (TG.in (hasW.in h2) rfl)) (hts _ (TG.in (hasW.in h3) rfl)) (hts _ (TG.in (hasW.in h4) rfl)) hK hP hD hS p0 p1 0 0 he he1 (ty := .int) rfl rfl rfl g1 g2 g3 g4 g5 (fun _ _ => rfl) (by rw [hRf]; exact h5.1) (by rw [hRl, aCats_cv]; omega) hdg (fun H1 locs1 hP1 hD1 hS1 => ?_)
  have hW := wsD_set (S' := sRow S F' i' (va_cpy (S.2.1 F i) (S.2.1 F' i') u.toNatClampNeg d.toNatClampNeg n.toNatClampNeg)) (cA := cA) (ad := ad) hD hp1 rfl (fun G j hh => ⟨if_neg hh, rfl, rfl⟩)
  rw [cellD_int hF', show (sRow S F' i' (va_cpy (S.2.1 F i) (S.2.1 F' i') u.toNatClampNeg d.toNatClampNeg n.toNatClampNeg)).2.1 F' i' = _ from if_pos ⟨rfl, rfl⟩] at hW
  rw [hW] at hP1 hD1
  exact h ad H1 locs1 cells slots ls hP1 hD1 hS1 hV hsc hl hll (fmt (fmt (fmt (fmt (fmt hvs))))) hvl hcc hcs
theorem sim_max (C : CX p s m args meth c R D cA A H0 c0 cap mi) (hk : k = SB p l e R s m args below meth c D cA A H0 scr b mi.2.2.1 c0 Q) {idx n0 n1 n2 n3 : Nat} (hdg : decode mi.2.1 pc = .ok (.invokestatic idx, 3)) (h1 : hasW n0 (.methodLink mi.1.cls idx Lib.Math.max.name) = true) (h2 : hasW n1 (.static Lib.Math.max.name) = true) (h3 : hasW n2 (.initialized "java/lang/Math") = true) (h4 : hasW n3 (.code Lib.Math.max.name Lib.Math.max.code 2 (some .int)) = true) (h5 : 1 ≤ mi.2.2.2.2.1 ∧ 21 ≤ mi.2.2.2.2.2.2.2.1)
    (h : ∃ a b r, st = aI b :: aI a :: r ∧ aCats r ≤ 8 ∧ S.1.length ≤ cap.1 ∧ slz S.1 ≤ cap.2 ∧ k (pc + 3) loc (aI (if a < b then b else a) :: r) S) : SB p l e R s m args below meth c D cA A H0 scr b mi.2.2.1 c0 Q pc loc st S := by
  obtain ⟨hx, hb, hml, hown, hts, hNW, hnm, hK, hA, hRf, hRl, hcap⟩ := C
  subst hk
  intro ad H locs cells slots ls hP hD hS hV hsc hl hll hvs hvl hcc hcs
  obtain ⟨a9, b9, r, rfl, g6, g7, g8, h⟩ := h
  rw [hcap] at g7 g8
  simp only at g7 g8
  exact va_mmax hx hb (hml.trans hl.1.symm) hown (hts _ (TG.in (hasW.in h1) rfl)) (hts _ (TG.in (hasW.in h2) rfl)) (hts _ (TG.in (hasW.in h3) rfl)) (hts _ (TG.in (hasW.in h4) rfl)) (by rw [hRf]; exact h5.1) (by rw [hRl, aCats_cv]; omega) (by omega) (by omega) hdg (h ad H locs cells slots ls hP hD hS hV hsc hl hll (fm VA.i (fmt (fmt hvs))) hvl hcc hcs)
theorem sim_obj (C : CX p s m args meth c R D cA A H0 c0 cap mi) (hk : k = SB p l e R s m args below meth c D cA A H0 scr b mi.2.2.1 c0 Q) {idx n0 n1 n2 : Nat} (hdg : decode mi.2.1 pc = .ok (.invokespecial idx, 3)) (h1 : hasW n0 (.methodLink mi.1.cls idx Lib.objectInit) = true) (h2 : hasW n1 (.instanceMethod Lib.objectInit) = true) (h3 : hasW n2 (.code Lib.objectInit ⟨#[0xb1]⟩ 1 none) = true) (h5 : 1 ≤ mi.2.2.2.2.1 ∧ 20 ≤ mi.2.2.2.2.2.2.2.1)
    (h : ∃ F i r, st = aR F i :: r ∧ aCats r ≤ 8 ∧ k (pc + 3) loc r S) : SB p l e R s m args below meth c D cA A H0 scr b mi.2.2.1 c0 Q pc loc st S := by
  obtain ⟨hx, hb, hml, hown, hts, hNW, hnm, hK, hA, hRf, hRl, hcap⟩ := C
  subst hk
  intro ad H locs cells slots ls hP hD hS hV hsc hl hll hvs hvl hcc hcs
  obtain ⟨F, i, r, rfl, g6, h⟩ := h
  refine W.objInit hx hb hown (hts _ (TG.in (hasW.in h1) rfl)) (hts _ (TG.in (hasW.in h2) rfl)) (hts _ (TG.in (hasW.in h3) rfl)) rfl (by rw [hml]; exact hl.1) rfl hdg (by rw [hRf]; exact h5.1) (by rw [hRl, aCats_cv]; show 2 * 0 + _ + 12 ≤ _; omega) ?_
  exact h ad H locs cells slots ls hP hD hS hV hsc hl hll (fmt hvs) hvl hcc hcs
/-- behind a call -/
theorem sim_back (C : CX p s m args meth c R D cA A H0 c0 cap mi) {rt : Option FieldType} {Ψ : Option AV → DS → Prop} {ad : Nat → Nat → Nat} {H : Heap} {locs : List Loc} {cells slots mc ms : Nat} {ls : Array Slot} {st0 : List Value} {rest : List AV} {a : Array Value} {A1 free : Nat → Prop}
    (hr : va_Run p l e R s m args below meth c H locs cells slots mc ms (F0 m pc ls st0) (rest.map (cv ad)) (QM rt Ψ D cA ad S (S.1.length + mc, slz S.1 + ms) A1 a) free) (hS : va_S A H0 H locs) (hA1 : ∀ q, A1 q → A q) (hf : ∀ q, free q → A q)
    (hV : VS S) (hsc : SCI scr b ad S.1) (hl : LV ad ls mi.2.2.1 loc) (hll : loc.length = mi.2.2.1) (hvs : ∀ v ∈ rest, VA scr S v) (hvl : ∀ (i : Nat) v, loc[i]? = some (some v) → VA scr S v) (hcc : cells + c0.1 = S.1.length) (hcs : slots + c0.2 = slz S.1)
    (h : ∀ v S', Ψ v S' → SB p l e R s m args below meth c D cA A H0 scr b mi.2.2.1 c0 Q (pc + 3) loc (v.toList ++ rest) S') : W p l e R s m args below meth c H locs cells slots Q (F0 m pc ls st0) := by
  have fin : ∀ (v : Option AV) (u : DS × (Nat → Nat → Nat)) (t : State) (H1 : Heap) (locs1 : List Loc), t.heap = H1 → Ψ v u.1 → (∀ x, v = some x → VA scr u.1 x) → BU D cA ad S (S.1.length + mc, slz S.1 + ms) A1 u t → va_S A H0 H1 locs1 → W p l e R s m args below meth c H1 locs1 (cells + mc) (slots + ms) Q (F0 m (pc + 3) ls (v.toList.map (cv u.2) ++ rest.map (cv ad))) := by
    intro v u t H1 locs1 ht hΨ hva hB hS1
    obtain ⟨b1, b2, b3, ⟨ex, b4⟩, b5, b6, b7, b8⟩ := hB
    rw [ht] at b1
    have hle : ∀ x ∈ S.1, x ∈ u.1.1 := fun x hx => by rw [b4]; exact List.mem_append_left _ hx
    have h1 := h v u.1 hΨ u.2 H1 locs1 (cells + mc) (slots + ms) ls b1 (b2.weaken (fun _ q _ hq => hA1 q.1 hq)) hS1 b3 (hsc.mono ⟨_, b4⟩ b5 b6) (hl.ad hvl b5 (fun _ => b6)) hll (fun x hx => by
      rcases List.mem_append.mp hx with hx | hx
      · exact hva x (by cases v with
          | none => cases hx
          | some y => rw [List.mem_singleton.mp hx])
      · exact (hvs x hx).le hle) (fun i x hi => (hvl i x hi).le hle) (by rw [b7]; show cells + mc + c0.1 = S.1.length + mc; omega) (by rw [b8]; show slots + ms + c0.2 = slz S.1 + ms; omega)
    rw [List.map_append, cvs_eq hvs b5 (fun _ => b6)] at h1
    exact h1
  have hA1' : ∀ q, q < H.size → A1 q → A q := fun q _ hq => hA1 q hq
  unfold QM at hr
  split at hr
  · exact va_callv hr hS hA1' hf (fun u t H1 locs1 ht hvm hw hB hz hk1 hS1 => fin none u t H1 locs1 ht hw (fun x hx => by cases hx) hB hS1)
  · exact va_calll hr hS hA1' hf (fun r u t H1 locs1 ht hvm hw hB hz hk1 hS1 => fin (some (aL r)) u t H1 locs1 ht hw (fun x hx => by cases hx; exact VA.l) hB hS1)
  · refine va_callq hr hS hA1' hf (fun r u t H1 locs1 ht hvm hw hB hz hk1 hS1 => ?_)
    obtain ⟨o, ho, hm, hΨ⟩ := hw
    have h1 := fin (some (.inr o)) u t H1 locs1 ht hΨ (fun x hx => by
      cases hx
      intro a' e'
      exact Or.inl (hm a' (Sum.inr.inj e'))) hB hS1
    have hro : va_rf r = cv u.2 (.inr o) := by
      rw [ho]
      cases o <;> rfl
    rw [hro]
    exact h1
  · exact va_calli hr hS hA1' hf (fun r u t H1 locs1 ht hvm hw hB hz hk1 hS1 => fin (some (aI r)) u t H1 locs1 ht hw (fun x hx => by cases hx; exact VA.i) hB hS1)
theorem noScr_mem : ∀ {as : List AV}, noScr as = true → ∀ v ∈ as, VA scr S v → VA False S v
  | .inl x :: r, h, v, hv, hva => by
    rcases List.mem_cons.mp hv with rfl | hv
    · exact fun a e => by cases e
    · exact noScr_mem (as := r) h v hv hva
  | .inr none :: r, h, v, hv, hva => by
    rcases List.mem_cons.mp hv with rfl | hv
    · exact fun a e => by cases e
    · exact noScr_mem (as := r) h v hv hva
  | .inr (some a) :: r, h, v, hv, hva => by
    have h' : (!(Nat.beq a.1 900) && noScr r) = true := h
    rw [Bool.and_eq_true, Bool.not_eq_true'] at h'
    rcases List.mem_cons.mp hv with rfl | hv
    · intro a' e'
      cases e'
      refine Or.inl ((hva a rfl).elim id (fun z => ?_))
      have h1 := h'.1
      rw [z.2] at h1
      cases h1
    · exact noScr_mem (as := r) h'.2 v hv hva
theorem cb_of (C : CX p s m args meth c R D cA A H0 c0 cap mi) {mc : MI} {idx y n1 n0 : Nat} (hcode : Cond.code mc.1 mc.2.1 mc.2.2.1 mc.2.2.2.1 ∈ lw_tbl) (h0 : mc.1.cls ≠ "java/lang/invoke/MethodHandle" ∧ mc.1.cls ≠ "java/lang/invoke/VarHandle" ∧ (parseMethodDescriptor mc.1.desc).map (fun d => d.parameters.length) = some y) (hroom : mc.2.2.2.2.1 + 1 ≤ mi.2.2.2.2.1 ∧ 8 + (mc.2.2.1 + 11) + mc.2.2.2.2.2.2.2.1 ≤ mi.2.2.2.2.2.2.2.1) (hini : hasW n1 (.initialized mc.1.cls) = true) (hl : hasW n0 (.methodLink mi.1.cls idx mc.1) = true) : CallB R s args mi.1.cls idx mc.1 mc.2.1 mc.2.2.1 mc.2.2.2.1 (wsM mc) (rmM mc) mc.2.2.2.2.2.1 mc.2.2.2.2.2.2.1 y := by
  obtain ⟨hx, hb, hml, hown, hts, hNW, hnm, hK, hA, hRf, hRl, hcap⟩ := C
  exact callB_of (Ts := TG) y hts (TG.goodM hcode) rfl rfl rfl (hts _ (TG.in (hasW.in hini) rfl)) (hts _ (TG.in (hasW.in hl) rfl)) h0 (by rw [hRf, hRl]; exact hroom)
theorem cn_of (C : CX p s m args meth c R D cA A H0 c0 cap mi) {mc : MI} {idx y n1 : Nat} {host : String} (hcode : Cond.code mc.1 mc.2.1 mc.2.2.1 mc.2.2.2.1 ∈ lw_tbl) (h0 : mc.1.cls ≠ "java/lang/invoke/MethodHandle" ∧ mc.1.cls ≠ "java/lang/invoke/VarHandle" ∧ (parseMethodDescriptor mc.1.desc).map (fun d => d.parameters.length) = some y) (hroom : mc.2.2.2.2.1 + 1 ≤ mi.2.2.2.2.1 ∧ 8 + (mc.2.2.1 + 11) + mc.2.2.2.2.2.2.2.1 ≤ mi.2.2.2.2.2.2.2.1) (hini : hasW n1 (.initialized mc.1.cls) = true) (hl : Cond.methodLinkNest mi.1.cls idx mc.1 host ∈ lw_tbl) : va_CN R s args mi.1.cls idx mc.1 host mc.2.1 mc.2.2.1 mc.2.2.2.1 (wsM mc) (rmM mc) mc.2.2.2.2.2.1 mc.2.2.2.2.2.2.1 y := by
  obtain ⟨hx, hb, hml, hown, hts, hNW, hnm, hK, hA, hRf, hRl, hcap⟩ := C
  exact va_cnB (Ts := TG) y hts (TG.goodM hcode) rfl rfl rfl (hNW.1 _ _ _ _ hl) (hts _ (TG.in (hasW.in hini) rfl)) h0 (by rw [hRf, hRl]; exact hroom)
/-- a call, of any kind -/
theorem sim_call (C : CX p s m args meth c R D cA A H0 c0 cap mi) {R' : RC} (IH : Ctr l D cA R') (hcodes : ∀ mi ∈ mths, Cond.code mi.1 mi.2.1 mi.2.2.1 mi.2.2.2.1 ∈ lw_tbl) (hk : k = SB p l e R s m args below meth c D cA A H0 scr b mi.2.2.1 c0 Q) {x y w idx : Nat} {tl : List Nat} {ins : Instr} (hdg : decode mi.2.1 pc = .ok (ins, 3)) (hc : ckC mths mi idx x y w tl = true)
    (hi : (ins = .invokestatic idx ∧ (w % 10 = 0 ∨ w % 10 = 1) ∧ callK R' mth cap k x y pc loc st S) ∨ (ins = .invokevirtual idx ∧ (w % 10 = 2 ∨ w % 10 = 3) ∧ (∃ i, st[y]? = some (aR (w / 10) i)) ∧ callK R' mth cap k x (y + 1) pc loc st S) ∨ (ins = .invokespecial idx ∧ (w % 10 = 4 ∨ w % 10 = 5) ∧ (∃ F i, st[y]? = some (aR F i)) ∧ callK R' mth cap k x (y + 1) pc loc st S)) : SB p l e R s m args below meth c D cA A H0 scr b mi.2.2.1 c0 Q pc loc st S := by
  have C' := C
  obtain ⟨hx, hb, hml, hown, hts, hNW, hnm, hK, hA, hRf, hRl, hcap⟩ := C
  subst hk
  intro ad H locs cells slots ls hP hD hS hV hsc hl hll hvs hvl hcc hcs
  unfold ckC at hc
  split at hc
  · next mc hmc =>
    simp only [Bool.and_eq_true, decide_eq_true_eq] at hc
    obtain ⟨q0, q1, q2, q4⟩ := hc
    have hcode := hcodes mc (List.mem_of_getElem? hmc)
    -- the call's parts
    have hn : ∃ n, n ≤ st.length ∧ callK R' mth cap (SB p l e R s m args below meth c D cA A H0 scr b mi.2.2.1 c0 Q) x n pc loc st S ∧ ((ins = .invokestatic idx ∧ (w % 10 = 0 ∨ w % 10 = 1) ∧ n = y) ∨ (ins = .invokevirtual idx ∧ (w % 10 = 2 ∨ w % 10 = 3) ∧ n = y + 1 ∧ ∃ i, st[y]? = some (aR (w / 10) i)) ∨ (ins = .invokespecial idx ∧ (w % 10 = 4 ∨ w % 10 = 5) ∧ n = y + 1 ∧ ∃ F i, st[y]? = some (aR F i))) := by
      rcases hi with ⟨a1, a2, a3⟩ | ⟨a1, a2, a3, a4⟩ | ⟨a1, a2, a3, a4⟩
      · have a3' := a3
        obtain ⟨_, _, hle, _⟩ := a3'
        exact ⟨y, hle, a3, Or.inl ⟨a1, a2, rfl⟩⟩
      · have a4' := a4
        obtain ⟨_, _, hle, _⟩ := a4'
        exact ⟨y + 1, hle, a4, Or.inr (Or.inl ⟨a1, a2, rfl, a3⟩)⟩
      · have a4' := a4
        obtain ⟨_, _, hle, _⟩ := a4'
        exact ⟨y + 1, hle, a4, Or.inr (Or.inr ⟨a1, a2, rfl, a3⟩)⟩
    obtain ⟨n, hnl, hcall, hkind⟩ := hn
    obtain ⟨mi2, hmi2, -, hcat, hns, hcp1, hcp2, Ψ, hR, hcont⟩ := hcall
    have hmm : mi2 = mc := Option.some.inj (hmi2.symm.trans hmc)
    subst hmm
    rw [hcap] at hcp1 hcp2
    simp only at hcp1 hcp2
    have hva : ∀ v ∈ (st.take n).reverse, VA False S v := fun v hv => noScr_mem hns v (List.mem_reverse.mp hv) (hvs v (List.mem_of_mem_take (List.mem_reverse.mp hv)))
    have hM := IH x mi2 hmi2 ((st.take n).reverse) S Ψ hR hV hva ad H.size
    have hvr : ∀ v ∈ st.drop n, VA scr S v := fun v hv => hvs v (List.mem_of_mem_drop hv)
    have hFc : ∀ q, va_A (wsD cA ad S) H.size q → A q := by
      intro q hq
      rcases hq with ⟨i, e', hq⟩ | hq
      · exact hD.2 i _ hq
      · exact hA q (Nat.le_trans hS.1 hq)
    have hstk : st.map (cv ad) = (((st.take n).reverse).map (cv ad)).reverse ++ (st.drop n).map (cv ad) := by
      rw [← List.map_reverse, List.reverse_reverse, ← List.map_append, List.take_append_drop]
    have hW : 2 * (F0 m pc ls (st.map (cv ad))).monitorRoom + (((st.drop n).map (cv ad)).map fun v => v.category).sum ≤ 8 := by
      rw [aCats_cv]
      show 2 * 0 + _ ≤ 8
      omega
    have hlen : ((st.take n).reverse).length = n := by simp; omega
    have hFB : FrameBlind (va_Pc (((st.take n).reverse).map (cv ad)) (fun U => U.heap.size = H.size ∧ va_P D vwCl (wsD cA ad S) U.heap ∧ va_K D vwCl (TYS cA) U ∧ va_D (fun _ => True) (wsD cA ad S) ∧ NWs U)) := fun a U g mk q => by
      obtain ⟨q0, q1, qP, qK, qD, qN⟩ := q
      exact ⟨q0, q1, qP, va_K.moved (u := U) (U := U.calling g mk a) (Vm.Alike.refl U.vm) qK, qD, ⟨fun a1 i1 y1 h1 hw => va_Nw.same rfl rfl (qN.1 a1 i1 y1 h1 hw), fun C1 hw => va_AO.moved (Vm.Alike.refl U.vm) (qN.2 C1 hw)⟩⟩
    have hpre : ∀ U : State, U.heap = H → s.WarmedH U.vm → va_Pc (((st.take n).reverse).map (cv ad)) (fun U => U.heap.size = H.size ∧ va_P D vwCl (wsD cA ad S) U.heap ∧ va_K D vwCl (TYS cA) U ∧ va_D (fun _ => True) (wsD cA ad S) ∧ NWs U) (((st.take n).reverse).map (cv ad)).toArray U := fun U hU hW => ⟨rfl, by rw [hU], by rw [hU]; exact hP, va_K.moved hW.alike hK, hD.weaken (fun _ _ _ _ => trivial), hNW.warm hW⟩
    have hbud : cells + mi2.2.2.2.2.2.1 ≤ R.cells ∧ slots + mi2.2.2.2.2.2.2.1 ≤ R.slots := ⟨by omega, by omega⟩
    -- the receiver, where there is one
    have hrecv : n = y + 1 → ∀ F i, st[y]? = some (aR F i) → (st.take n).reverse = aR F i :: (st.take y).reverse := by
      intro e1 F i hy
      subst e1
      rw [List.take_succ, hy]
      simp
    rcases hkind with ⟨a1, a2, a3⟩ | ⟨a1, a2, a3, i, hy⟩ | ⟨a1, a2, a3, F, i, hy⟩
    · subst a1
      subst a3
      rcases a2 with a2 | a2
      · rw [show Nat.beq (w % 2) 0 = true by rw [show w % 2 = 0 by omega]; rfl, show Nat.blt (w % 10) 2 = true by rw [a2]; rfl] at q4
        simp only [cond_true, Bool.and_eq_true] at q4
        refine sim_back C' (Ψ := Ψ) (va_runS (As := ((st.take n).reverse).map (cv ad)) (rest := (st.drop n).map (cv ad)) ⟨hx, hb, hml, hown, hts⟩ hM ⟨cb_of C' hcode q0 q1 q2 q4.1, hts _ (TG.in (hasW.in q4.2) rfl)⟩ ⟨hFB, hpre⟩ rfl (by rw [List.length_map]; exact hlen) hl.1 hstk hW hdg hbud) hS hFc hFc hV hsc hl hll hvr hvl hcc hcs hcont
      · rw [show Nat.beq (w % 2) 0 = false by rw [show w % 2 = 1 by omega]; rfl, show Nat.blt (w % 10) 2 = true by rw [a2]; rfl] at q4
        simp only [cond_true, cond_false, Bool.and_eq_true] at q4
        obtain ⟨host, hh⟩ := hasN.in q4.1
        refine sim_back C' (Ψ := Ψ) (va_runSN (host := host) (As := ((st.take n).reverse).map (cv ad)) (rest := (st.drop n).map (cv ad)) ⟨hx, hb, hml, hown, hts⟩ hM ⟨cn_of C' hcode q0 q1 q2 hh, hts _ (TG.in (hasW.in q4.2) rfl), trivial⟩ ⟨hFB, hpre⟩ rfl (by rw [List.length_map]; exact hlen) hl.1 hstk hW hdg hbud) hS hFc hFc hV hsc hl hll hvr hvl hcc hcs hcont
    · subst a1
      have hre := hrecv a3 _ _ hy
      have hmr : (w / 10, i) ∈ S.1 := (hva _ (by rw [hre]; exact List.mem_cons_self) (w / 10, i) rfl).elim id (fun z => z.1.elim)
      have hmv : ((st.take n).reverse).map (cv ad) = .ref (ad (w / 10) i) :: ((st.take y).reverse).map (cv ad) := by rw [hre]; rfl
      rw [hmv] at hstk hpre hFB hM
      have hly : ((st.take y).reverse).length = y := by simp; omega
      have hstk2 : st.map (cv ad) = (((st.take y).reverse).map (cv ad)).reverse ++ .ref (ad (w / 10) i) :: (st.drop n).map (cv ad) := by rw [hstk]; simp
      obtain ⟨p0, hp0, he⟩ := wsD_at (cA := cA) (ad := ad) hmr
      rcases a2 with a2 | a2
      · rw [show Nat.beq (w % 2) 0 = true by rw [show w % 2 = 0 by omega]; rfl, show Nat.blt (w % 10) 2 = false by rw [a2]; rfl, show Nat.blt (w % 10) 4 = true by rw [a2]; rfl] at q4
        simp only [cond_true, cond_false, Bool.and_eq_true, decide_eq_true_eq, Option.map_eq_some_iff] at q4
        obtain ⟨r1, r2, r3, qq, hqq, hqn⟩ := q4
        have hF8 : w / 10 < 8 := (List.getElem?_eq_some_iff.mp hqq).1
        rw [cellD_obj (by omega)] at he
        have hrc := va_recv hK hP hqq he
        rw [hqn] at hrc
        refine sim_back C' (Ψ := Ψ) (va_runV (As := ((st.take y).reverse).map (cv ad)) (rest := (st.drop n).map (cv ad)) ⟨hx, hb, hml, hown, hts⟩ hM ⟨cb_of C' hcode q0 q1 q2 r1, hts _ (TG.in (hasW.in r2) rfl), hts _ (TG.in (hasW.in r3) rfl)⟩ ⟨hFB, hrc, hpre⟩ rfl (by rw [List.length_map]; exact hly) hl.1 hstk2 hW hdg hbud) hS hFc hFc hV hsc hl hll hvr hvl hcc hcs hcont
      · rw [show Nat.beq (w % 2) 0 = false by rw [show w % 2 = 1 by omega]; rfl, show Nat.blt (w % 10) 2 = false by rw [a2]; rfl, show Nat.blt (w % 10) 4 = true by rw [a2]; rfl] at q4
        simp only [cond_true, cond_false, Bool.and_eq_true, decide_eq_true_eq, Option.map_eq_some_iff] at q4
        obtain ⟨r1, r2, r3, qq, hqq, hqn⟩ := q4
        obtain ⟨host, hh⟩ := hasN.in r1
        have hF8 : w / 10 < 8 := (List.getElem?_eq_some_iff.mp hqq).1
        rw [cellD_obj (by omega)] at he
        have hrc := va_recv hK hP hqq he
        rw [hqn] at hrc
        refine sim_back C' (Ψ := Ψ) (va_runVN (host := host) (As := ((st.take y).reverse).map (cv ad)) (rest := (st.drop n).map (cv ad)) ⟨hx, hb, hml, hown, hts⟩ hM ⟨cn_of C' hcode q0 q1 q2 hh, hts _ (TG.in (hasW.in r2) rfl), hts _ (TG.in (hasW.in r3) rfl)⟩ ⟨hFB, hrc, hpre⟩ rfl (by rw [List.length_map]; exact hly) hl.1 hstk2 hW hdg hbud) hS hFc hFc hV hsc hl hll hvr hvl hcc hcs hcont
    · subst a1
      have hre := hrecv a3 _ _ hy
      have hmv : ((st.take n).reverse).map (cv ad) = .ref (ad F i) :: ((st.take y).reverse).map (cv ad) := by rw [hre]; rfl
      rw [hmv] at hstk hpre hFB hM
      have hly : ((st.take y).reverse).length = y := by simp; omega
      have hstk2 : st.map (cv ad) = (((st.take y).reverse).map (cv ad)).reverse ++ .ref (ad F i) :: (st.drop n).map (cv ad) := by rw [hstk]; simp
      rcases a2 with a2 | a2
      · rw [show Nat.beq (w % 2) 0 = true by rw [show w % 2 = 0 by omega]; rfl, show Nat.blt (w % 10) 2 = false by rw [a2]; rfl, show Nat.blt (w % 10) 4 = false by rw [a2]; rfl] at q4
        simp only [cond_true, cond_false, Bool.and_eq_true, decide_eq_true_eq] at q4
        obtain ⟨r1, r2, r3, r4⟩ := q4
        have hcb := cb_of C' hcode q0 q1 q2 r1
        rw [r4] at hcb
        refine sim_back C' (Ψ := Ψ) (va_runI (As := ((st.take y).reverse).map (cv ad)) (rest := (st.drop n).map (cv ad)) ⟨hx, hb, hml, hown, hts⟩ hM ⟨hcb, r3, hts _ (TG.in (hasW.in r2) rfl)⟩ ⟨hFB, hpre⟩ rfl (by rw [List.length_map]; exact hly) hl.1 hstk2 hW hdg hbud) hS hFc hFc hV hsc hl hll hvr hvl hcc hcs hcont
      · rw [show Nat.beq (w % 2) 0 = false by rw [show w % 2 = 1 by omega]; rfl, show Nat.blt (w % 10) 2 = false by rw [a2]; rfl, show Nat.blt (w % 10) 4 = false by rw [a2]; rfl] at q4
        simp only [cond_true, cond_false, Bool.and_eq_true, decide_eq_true_eq] at q4
        obtain ⟨r1, r2, r3, r4⟩ := q4
        obtain ⟨host, hh⟩ := hasN.in r1
        have hcn := cn_of C' hcode q0 q1 q2 hh
        rw [r4] at hcn
        refine sim_back C' (Ψ := Ψ) (va_runIN (host := host) (As := ((st.take y).reverse).map (cv ad)) (rest := (st.drop n).map (cv ad)) ⟨hx, hb, hml, hown, hts⟩ hM ⟨hcn, r3, hts _ (TG.in (hasW.in r2) rfl)⟩ ⟨hFB, hpre⟩ rfl (by rw [List.length_map]; exact hly) hl.1 hstk2 hW hdg hbud) hS hFc hFc hV hsc hl hll hvr hvl hcc hcs hcont
  · cases hc
end SIM4
