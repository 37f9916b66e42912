section SIM5
variable {p : Program} {l : Launch} {e : Env} {R : Room} {s : State} {m : MethodId} {args : Array Value} {below : List Frame} {meth : Method} {c : Code} {D : va_G} {cA : Nat → ClassId} {A : Nat → Prop} {H0 : Heap} {scr : Prop} {b : Nat × List (Nat × Nat) × (Nat → Nat → Nat)} {c0 cap : Nat × Nat} {Q : State → Prop} {mi : MI} {sc : Nat × (Nat → Int32)}
theorem sim_if {k : Nat → Prop} {pc : Nat} {P : Prop} {x : Nat} (ht : P → k x) (hf : ¬ P → k (pc + 3)) : (P → k x) ∧ (¬ P → k (pc + 3)) := ⟨ht, hf⟩
set_option maxHeartbeats 4000000 in
theorem sim_step (C : CX p s m args meth c R D cA A H0 c0 cap mi) {R' : RC} (IH : Ctr l D cA R') (hcodes : ∀ mi ∈ mths, Cond.code mi.1 mi.2.1 mi.2.2.1 mi.2.2.2.1 ∈ lw_tbl) (hck : ckM mths mi = true) (hX : scr → va_X b.1 sc.1 sc.2 s H0 ∧ b.1 < H0.size ∧ ¬ A b.1) {ret : Option AV → DS → Prop}
    (hret : ∀ (v : Option AV) (S : DS) (pc : Nat) (ad : Nat → Nat → Nat) (H : Heap) (locs : List Loc) (cells slots : Nat) (ls : Array Slot), decode mi.2.1 pc = .ok (rIns v, 1) → ret v S → va_P D vwCl (wsD cA ad S) H → va_D A (wsD cA ad S) → va_S A H0 H locs → VS S → SCI scr b ad S.1 → (∀ x, v = some x → VA scr S x) → cells + c0.1 = S.1.length → slots + c0.2 = slz S.1 → W p l e R s m args below meth c H locs cells slots Q (F0 m pc ls (v.toList.map (cv ad))))
    : ∀ (pc : Nat) (loc : List (Option AV)) (st : List AV) (S : DS), Step R' mth cap sc ret (lkp mi.2.2.2.2.2.2.2.2) (SB p l e R s m args below meth c D cA A H0 scr b mi.2.2.1 c0 Q) pc loc st S → SB p l e R s m args below meth c D cA A H0 scr b mi.2.2.1 c0 Q pc loc st S := by
  intro pc loc st S hstep
  obtain ⟨en, he, hst⟩ := hstep
  have hck' := ckM.at hck he
  obtain ⟨ins, x, y, w, z, tl⟩ := en
  simp only [ckE, Bool.and_eq_true, decide_eq_true_eq] at hck'
  obtain ⟨hdg, hci⟩ := hck'
  have C' := C
  obtain ⟨hx, hb, hml, hown, hts, hNW, hnm, hK, hA, hRf, hRl, hcap⟩ := C
  cases ins with
  | iload_n i =>
    intro ad H locs cells slots ls hP hD hS hV hsc hl hll hvs hvl hcc hcs
    obtain ⟨v, h1, hk⟩ := hst
    exact lv_iload_n hx hb hdg rfl (hl.2.2 _ _ h1) (hk ad H locs cells slots ls hP hD hS hV hsc hl hll (fm VA.i hvs) hvl hcc hcs)
  | iload i =>
    intro ad H locs cells slots ls hP hD hS hV hsc hl hll hvs hvl hcc hcs
    obtain ⟨v, h1, hk⟩ := hst
    exact lv_iload hx hb hdg (hl.2.2 _ _ h1) (hk ad H locs cells slots ls hP hD hS hV hsc hl hll (fm VA.i hvs) hvl hcc hcs)
  | lload_n i =>
    intro ad H locs cells slots ls hP hD hS hV hsc hl hll hvs hvl hcc hcs
    obtain ⟨v, h1, hk⟩ := hst
    exact lv_lload_n hx hb hdg rfl (hl.2.2 _ _ h1) (hk ad H locs cells slots ls hP hD hS hV hsc hl hll (fm VA.l hvs) hvl hcc hcs)
  | lload i =>
    intro ad H locs cells slots ls hP hD hS hV hsc hl hll hvs hvl hcc hcs
    obtain ⟨v, h1, hk⟩ := hst
    exact lv_lload hx hb hdg (hl.2.2 _ _ h1) (hk ad H locs cells slots ls hP hD hS hV hsc hl hll (fm VA.l hvs) hvl hcc hcs)
  | aload_n i =>
    intro ad H locs cells slots ls hP hD hS hV hsc hl hll hvs hvl hcc hcs
    obtain ⟨o, h1, hk⟩ := hst
    cases o with
    | none => exact lv_aload_nN hx hb hdg rfl (hl.2.2 _ _ h1) (hk ad H locs cells slots ls hP hD hS hV hsc hl hll (fm VA.n hvs) hvl hcc hcs)
    | some a => exact lv_aload_n hx hb hdg rfl (hl.2.2 _ _ h1) (hk ad H locs cells slots ls hP hD hS hV hsc hl hll (fm (hvl _ _ h1) hvs) hvl hcc hcs)
  | istore_n i =>
    intro ad H locs cells slots ls hP hD hS hV hsc hl hll hvs hvl hcc hcs
    obtain ⟨v, r, l9, rfl, h1, hk⟩ := hst
    exact lv_istore_n hx hb hdg rfl hl.has (by rw [← hll]; exact lst1_lt h1) rfl (fun ls9 hl9 => hk ad H locs cells slots ls9 hP hD hS hV hsc (LV.st1 h1 hl9) ((lst1_len h1).trans hll) (fmt hvs) (lst1_va h1 VA.i hvl) hcc hcs)
  | lstore_n i =>
    intro ad H locs cells slots ls hP hD hS hV hsc hl hll hvs hvl hcc hcs
    obtain ⟨v, r, l9, rfl, h1, hk⟩ := hst
    exact lv_lstore_n hx hb hdg rfl hl.has (by rw [← hll]; exact lst2_lt h1) rfl (fun ls9 hl9 => hk ad H locs cells slots ls9 hP hD hS hV hsc (LV.st2 h1 hl9) ((lst2_len h1).trans hll) (fmt hvs) (lst2_va h1 VA.l hvl) hcc hcs)
  | astore_n i =>
    intro ad H locs cells slots ls hP hD hS hV hsc hl hll hvs hvl hcc hcs
    obtain ⟨o, r, l9, rfl, h1, hk⟩ := hst
    cases o with
    | none => exact lv_astore_nN hx hb hdg rfl hl.has (by rw [← hll]; exact lst1_lt h1) rfl (fun ls9 hl9 => hk ad H locs cells slots ls9 hP hD hS hV hsc (LV.st1 h1 hl9) ((lst1_len h1).trans hll) (fmt hvs) (lst1_va h1 VA.n hvl) hcc hcs)
    | some a => exact lv_astore_n hx hb hdg rfl hl.has (by rw [← hll]; exact lst1_lt h1) rfl (fun ls9 hl9 => hk ad H locs cells slots ls9 hP hD hS hV hsc (LV.st1 h1 hl9) ((lst1_len h1).trans hll) (fmt hvs) (lst1_va h1 (fmh hvs) hvl) hcc hcs)
  | aload i =>
    intro ad H locs cells slots ls hP hD hS hV hsc hl hll hvs hvl hcc hcs
    obtain ⟨o, h1, hk⟩ := hst
    cases o with
    | none => exact lv_aloadN hx hb hdg (hl.2.2 _ _ h1) (hk ad H locs cells slots ls hP hD hS hV hsc hl hll (fm VA.n hvs) hvl hcc hcs)
    | some a => exact lv_aload hx hb hdg (hl.2.2 _ _ h1) (hk ad H locs cells slots ls hP hD hS hV hsc hl hll (fm (hvl _ _ h1) hvs) hvl hcc hcs)
  | istore i =>
    intro ad H locs cells slots ls hP hD hS hV hsc hl hll hvs hvl hcc hcs
    obtain ⟨v, r, l9, rfl, h1, hk⟩ := hst
    exact lv_istore hx hb hdg hl.has (by rw [← hll]; exact lst1_lt h1) rfl (fun ls9 hl9 => hk ad H locs cells slots ls9 hP hD hS hV hsc (LV.st1 h1 hl9) ((lst1_len h1).trans hll) (fmt hvs) (lst1_va h1 VA.i hvl) hcc hcs)
  | lstore i =>
    intro ad H locs cells slots ls hP hD hS hV hsc hl hll hvs hvl hcc hcs
    obtain ⟨v, r, l9, rfl, h1, hk⟩ := hst
    exact lv_lstore hx hb hdg hl.has (by rw [← hll]; exact lst2_lt h1) rfl (fun ls9 hl9 => hk ad H locs cells slots ls9 hP hD hS hV hsc (LV.st2 h1 hl9) ((lst2_len h1).trans hll) (fmt hvs) (lst2_va h1 VA.l hvl) hcc hcs)
  | astore i =>
    intro ad H locs cells slots ls hP hD hS hV hsc hl hll hvs hvl hcc hcs
    obtain ⟨o, r, l9, rfl, h1, hk⟩ := hst
    cases o with
    | none => exact lv_astoreN hx hb hdg hl.has (by rw [← hll]; exact lst1_lt h1) rfl (fun ls9 hl9 => hk ad H locs cells slots ls9 hP hD hS hV hsc (LV.st1 h1 hl9) ((lst1_len h1).trans hll) (fmt hvs) (lst1_va h1 VA.n hvl) hcc hcs)
    | some a => exact lv_astore hx hb hdg hl.has (by rw [← hll]; exact lst1_lt h1) rfl (fun ls9 hl9 => hk ad H locs cells slots ls9 hP hD hS hV hsc (LV.st1 h1 hl9) ((lst1_len h1).trans hll) (fmt hvs) (lst1_va h1 (fmh hvs) hvl) hcc hcs)
  | iinc i n =>
    intro ad H locs cells slots ls hP hD hS hV hsc hl hll hvs hvl hcc hcs
    obtain ⟨v, l9, h0, h1, hk⟩ := hst
    obtain ⟨q9, hq9⟩ := List.getElem?_of_mem (lvl_mem.mpr ⟨_, h0, rfl⟩ : (i, Value.int v) ∈ lvl ad loc)
    exact lv_iinc hx hb hdg hl.has hq9 rfl (by rw [← hll]; exact lst1_lt h1) rfl (fun ls9 hl9 => hk ad H locs cells slots ls9 hP hD hS hV hsc (LV.st1 h1 hl9) ((lst1_len h1).trans hll) hvs (lst1_va h1 VA.i hvl) hcc hcs)
  | iconst n =>
    intro ad H locs cells slots ls hP hD hS hV hsc hl hll hvs hvl hcc hcs
    exact lv_iconst hx hb hdg rfl (hst ad H locs cells slots ls hP hD hS hV hsc hl hll (fm VA.i hvs) hvl hcc hcs)
  | bipush n =>
    intro ad H locs cells slots ls hP hD hS hV hsc hl hll hvs hvl hcc hcs
    exact lv_bipush hx hb hdg rfl (hst ad H locs cells slots ls hP hD hS hV hsc hl hll (fm VA.i hvs) hvl hcc hcs)
  | sipush n =>
    intro ad H locs cells slots ls hP hD hS hV hsc hl hll hvs hvl hcc hcs
    exact lv_sipush hx hb hdg rfl (hst ad H locs cells slots ls hP hD hS hV hsc hl hll (fm VA.i hvs) hvl hcc hcs)
  | lconst n =>
    intro ad H locs cells slots ls hP hD hS hV hsc hl hll hvs hvl hcc hcs
    exact lv_lconst hx hb hdg rfl (hst ad H locs cells slots ls hP hD hS hV hsc hl hll (fm VA.l hvs) hvl hcc hcs)
  | aconst_null =>
    intro ad H locs cells slots ls hP hD hS hV hsc hl hll hvs hvl hcc hcs
    exact lv_null hx hb hdg (hst ad H locs cells slots ls hP hD hS hV hsc hl hll (fm VA.n hvs) hvl hcc hcs)
  | ldc i =>
    intro ad H locs cells slots ls hP hD hS hV hsc hl hll hvs hvl hcc hcs
    exact lv_ldc hx hb hown (hts _ (TG.in (hasW.in hci) rfl)) hdg (hst ad H locs cells slots ls hP hD hS hV hsc hl hll (fm VA.i hvs) hvl hcc hcs)
  | ldc_w i =>
    intro ad H locs cells slots ls hP hD hS hV hsc hl hll hvs hvl hcc hcs
    exact lv_ldcw hx hb hown (hts _ (TG.in (hasW.in hci) rfl)) hdg (hst ad H locs cells slots ls hP hD hS hV hsc hl hll (fm VA.i hvs) hvl hcc hcs)
  | ldc2_w i =>
    intro ad H locs cells slots ls hP hD hS hV hsc hl hll hvs hvl hcc hcs
    exact lv_ldc2 hx hb hown (hts _ (TG.in (hasW.in hci) rfl)) hdg (hst ad H locs cells slots ls hP hD hS hV hsc hl hll (fm VA.l hvs) hvl hcc hcs)
  | iadd =>
    intro ad H locs cells slots ls hP hD hS hV hsc hl hll hvs hvl hcc hcs
    obtain ⟨a9, b9, r, rfl, hk⟩ := hst
    exact lv_iadd hx hb hdg (hk ad H locs cells slots ls hP hD hS hV hsc hl hll (fm VA.i (fmt (fmt hvs))) hvl hcc hcs)
  | isub =>
    intro ad H locs cells slots ls hP hD hS hV hsc hl hll hvs hvl hcc hcs
    obtain ⟨a9, b9, r, rfl, hk⟩ := hst
    exact lv_isub hx hb hdg (hk ad H locs cells slots ls hP hD hS hV hsc hl hll (fm VA.i (fmt (fmt hvs))) hvl hcc hcs)
  | imul =>
    intro ad H locs cells slots ls hP hD hS hV hsc hl hll hvs hvl hcc hcs
    obtain ⟨a9, b9, r, rfl, hk⟩ := hst
    exact lv_imul hx hb hdg (hk ad H locs cells slots ls hP hD hS hV hsc hl hll (fm VA.i (fmt (fmt hvs))) hvl hcc hcs)
  | iand =>
    intro ad H locs cells slots ls hP hD hS hV hsc hl hll hvs hvl hcc hcs
    obtain ⟨a9, b9, r, rfl, hk⟩ := hst
    exact lv_iand hx hb hdg (hk ad H locs cells slots ls hP hD hS hV hsc hl hll (fm VA.i (fmt (fmt hvs))) hvl hcc hcs)
  | ior =>
    intro ad H locs cells slots ls hP hD hS hV hsc hl hll hvs hvl hcc hcs
    obtain ⟨a9, b9, r, rfl, hk⟩ := hst
    exact lv_ior hx hb hdg (hk ad H locs cells slots ls hP hD hS hV hsc hl hll (fm VA.i (fmt (fmt hvs))) hvl hcc hcs)
  | ixor =>
    intro ad H locs cells slots ls hP hD hS hV hsc hl hll hvs hvl hcc hcs
    obtain ⟨a9, b9, r, rfl, hk⟩ := hst
    exact lv_ixor hx hb hdg (hk ad H locs cells slots ls hP hD hS hV hsc hl hll (fm VA.i (fmt (fmt hvs))) hvl hcc hcs)
  | ishl =>
    intro ad H locs cells slots ls hP hD hS hV hsc hl hll hvs hvl hcc hcs
    obtain ⟨a9, b9, r, rfl, hk⟩ := hst
    exact lv_ishl hx hb hdg (hk ad H locs cells slots ls hP hD hS hV hsc hl hll (fm VA.i (fmt (fmt hvs))) hvl hcc hcs)
  | ishr =>
    intro ad H locs cells slots ls hP hD hS hV hsc hl hll hvs hvl hcc hcs
    obtain ⟨a9, b9, r, rfl, hk⟩ := hst
    exact lv_ishr hx hb hdg (hk ad H locs cells slots ls hP hD hS hV hsc hl hll (fm VA.i (fmt (fmt hvs))) hvl hcc hcs)
  | ladd =>
    intro ad H locs cells slots ls hP hD hS hV hsc hl hll hvs hvl hcc hcs
    obtain ⟨a9, b9, r, rfl, hk⟩ := hst
    exact lv_ladd hx hb hdg (hk ad H locs cells slots ls hP hD hS hV hsc hl hll (fm VA.l (fmt (fmt hvs))) hvl hcc hcs)
  | lsub =>
    intro ad H locs cells slots ls hP hD hS hV hsc hl hll hvs hvl hcc hcs
    obtain ⟨a9, b9, r, rfl, hk⟩ := hst
    exact lv_lsub hx hb hdg (hk ad H locs cells slots ls hP hD hS hV hsc hl hll (fm VA.l (fmt (fmt hvs))) hvl hcc hcs)
  | lmul =>
    intro ad H locs cells slots ls hP hD hS hV hsc hl hll hvs hvl hcc hcs
    obtain ⟨a9, b9, r, rfl, hk⟩ := hst
    exact lv_lmul hx hb hdg (hk ad H locs cells slots ls hP hD hS hV hsc hl hll (fm VA.l (fmt (fmt hvs))) hvl hcc hcs)
  | land =>
    intro ad H locs cells slots ls hP hD hS hV hsc hl hll hvs hvl hcc hcs
    obtain ⟨a9, b9, r, rfl, hk⟩ := hst
    exact lv_land hx hb hdg (hk ad H locs cells slots ls hP hD hS hV hsc hl hll (fm VA.l (fmt (fmt hvs))) hvl hcc hcs)
  | lor =>
    intro ad H locs cells slots ls hP hD hS hV hsc hl hll hvs hvl hcc hcs
    obtain ⟨a9, b9, r, rfl, hk⟩ := hst
    exact lv_lor hx hb hdg (hk ad H locs cells slots ls hP hD hS hV hsc hl hll (fm VA.l (fmt (fmt hvs))) hvl hcc hcs)
  | lxor =>
    intro ad H locs cells slots ls hP hD hS hV hsc hl hll hvs hvl hcc hcs
    obtain ⟨a9, b9, r, rfl, hk⟩ := hst
    exact lv_lxor hx hb hdg (hk ad H locs cells slots ls hP hD hS hV hsc hl hll (fm VA.l (fmt (fmt hvs))) hvl hcc hcs)
  | iushr =>
    intro ad H locs cells slots ls hP hD hS hV hsc hl hll hvs hvl hcc hcs
    obtain ⟨a9, b9, r, rfl, hk⟩ := hst
    exact lv_iushr hx hb hdg rfl (hk ad H locs cells slots ls hP hD hS hV hsc hl hll (fm VA.i (fmt (fmt hvs))) hvl hcc hcs)
  | lshl =>
    intro ad H locs cells slots ls hP hD hS hV hsc hl hll hvs hvl hcc hcs
    obtain ⟨a9, b9, r, rfl, hk⟩ := hst
    exact lv_lshl hx hb hdg rfl (hk ad H locs cells slots ls hP hD hS hV hsc hl hll (fm VA.l (fmt (fmt hvs))) hvl hcc hcs)
  | lshr =>
    intro ad H locs cells slots ls hP hD hS hV hsc hl hll hvs hvl hcc hcs
    obtain ⟨a9, b9, r, rfl, hk⟩ := hst
    exact lv_lshr hx hb hdg rfl (hk ad H locs cells slots ls hP hD hS hV hsc hl hll (fm VA.l (fmt (fmt hvs))) hvl hcc hcs)
  | lushr =>
    intro ad H locs cells slots ls hP hD hS hV hsc hl hll hvs hvl hcc hcs
    obtain ⟨a9, b9, r, rfl, hk⟩ := hst
    exact lv_lushr hx hb hdg rfl (hk ad H locs cells slots ls hP hD hS hV hsc hl hll (fm VA.l (fmt (fmt hvs))) hvl hcc hcs)
  | lcmp =>
    intro ad H locs cells slots ls hP hD hS hV hsc hl hll hvs hvl hcc hcs
    obtain ⟨a9, b9, r, rfl, hk⟩ := hst
    exact W.lcmp hx hb hdg (hk ad H locs cells slots ls hP hD hS hV hsc hl hll (fm VA.i (fmt (fmt hvs))) hvl hcc hcs)
  | idiv =>
    intro ad H locs cells slots ls hP hD hS hV hsc hl hll hvs hvl hcc hcs
    obtain ⟨a9, b9, r, rfl, h1, hk⟩ := hst
    exact lv_idiv hx hb hdg h1 (hk ad H locs cells slots ls hP hD hS hV hsc hl hll (fm VA.i (fmt (fmt hvs))) hvl hcc hcs)
  | irem =>
    intro ad H locs cells slots ls hP hD hS hV hsc hl hll hvs hvl hcc hcs
    obtain ⟨a9, b9, r, rfl, h1, hk⟩ := hst
    exact lv_irem hx hb hdg h1 (hk ad H locs cells slots ls hP hD hS hV hsc hl hll (fm VA.i (fmt (fmt hvs))) hvl hcc hcs)
  | ldiv =>
    intro ad H locs cells slots ls hP hD hS hV hsc hl hll hvs hvl hcc hcs
    obtain ⟨a9, b9, r, rfl, h1, hk⟩ := hst
    exact lv_ldiv hx hb hdg h1 (hk ad H locs cells slots ls hP hD hS hV hsc hl hll (fm VA.l (fmt (fmt hvs))) hvl hcc hcs)
  | i2l =>
    intro ad H locs cells slots ls hP hD hS hV hsc hl hll hvs hvl hcc hcs
    obtain ⟨a9, r, rfl, hk⟩ := hst
    exact lv_i2l hx hb hdg rfl (hk ad H locs cells slots ls hP hD hS hV hsc hl hll (fm VA.l (fmt hvs)) hvl hcc hcs)
  | l2i =>
    intro ad H locs cells slots ls hP hD hS hV hsc hl hll hvs hvl hcc hcs
    obtain ⟨a9, r, rfl, hk⟩ := hst
    exact lv_l2i hx hb hdg rfl (hk ad H locs cells slots ls hP hD hS hV hsc hl hll (fm VA.i (fmt hvs)) hvl hcc hcs)
  | dup =>
    intro ad H locs cells slots ls hP hD hS hV hsc hl hll hvs hvl hcc hcs
    obtain ⟨a9, r, rfl, h1, hk⟩ := hst
    exact lv_dup hx hb hdg ((aCat_cv ad a9).trans h1) (hk ad H locs cells slots ls hP hD hS hV hsc hl hll (fm (fmh hvs) hvs) hvl hcc hcs)
  | dup2 =>
    intro ad H locs cells slots ls hP hD hS hV hsc hl hll hvs hvl hcc hcs
    obtain ⟨a9, b9, r, rfl, h1, h2, hk⟩ := hst
    exact lv_dup2_11 hx hb hdg ((aCat_cv ad a9).trans h1) ((aCat_cv ad b9).trans h2) (hk ad H locs cells slots ls hP hD hS hV hsc hl hll (fm (fmh hvs) (fm (fmh (fmt hvs)) hvs)) hvl hcc hcs)
  | pop =>
    intro ad H locs cells slots ls hP hD hS hV hsc hl hll hvs hvl hcc hcs
    obtain ⟨a9, r, rfl, h1, hk⟩ := hst
    exact lv_pop hx hb hdg ((aCat_cv ad a9).trans h1) (hk ad H locs cells slots ls hP hD hS hV hsc hl hll (fmt hvs) hvl hcc hcs)
  | pop2 =>
    intro ad H locs cells slots ls hP hD hS hV hsc hl hll hvs hvl hcc hcs
    obtain ⟨a9, r, rfl, h1, hk⟩ := hst
    exact lv_pop2_2 hx hb hdg ((aCat_cv ad a9).trans h1) (hk ad H locs cells slots ls hP hD hS hV hsc hl hll (fmt hvs) hvl hcc hcs)
  | goto off =>
    intro ad H locs cells slots ls hP hD hS hV hsc hl hll hvs hvl hcc hcs
    exact lv_goto hx hb hdg (of_decide_eq_true hci) (hst ad H locs cells slots ls hP hD hS hV hsc hl hll hvs hvl hcc hcs)
  | ifCond cn off =>
    intro ad H locs cells slots ls hP hD hS hV hsc hl hll hvs hvl hcc hcs
    obtain ⟨a9, r, rfl, h1, h2⟩ := hst
    have ht := of_decide_eq_true hci
    cases cn with
    | eq => exact lv_if_eq hx hb hdg ht (fun q => h1 q ad H locs cells slots ls hP hD hS hV hsc hl hll (fmt hvs) hvl hcc hcs) (fun q => h2 q ad H locs cells slots ls hP hD hS hV hsc hl hll (fmt hvs) hvl hcc hcs)
    | ne => exact lv_if_ne hx hb hdg ht (fun q => h1 q ad H locs cells slots ls hP hD hS hV hsc hl hll (fmt hvs) hvl hcc hcs) (fun q => h2 (fun g => g q) ad H locs cells slots ls hP hD hS hV hsc hl hll (fmt hvs) hvl hcc hcs)
    | lt => exact lv_if_lt hx hb hdg ht (fun q => h1 q ad H locs cells slots ls hP hD hS hV hsc hl hll (fmt hvs) hvl hcc hcs) (fun q => h2 q ad H locs cells slots ls hP hD hS hV hsc hl hll (fmt hvs) hvl hcc hcs)
    | ge => exact lv_if_ge hx hb hdg ht (fun q => h1 q ad H locs cells slots ls hP hD hS hV hsc hl hll (fmt hvs) hvl hcc hcs) (fun q => h2 q ad H locs cells slots ls hP hD hS hV hsc hl hll (fmt hvs) hvl hcc hcs)
    | gt => exact lv_if_gt hx hb hdg ht (fun q => h1 q ad H locs cells slots ls hP hD hS hV hsc hl hll (fmt hvs) hvl hcc hcs) (fun q => h2 q ad H locs cells slots ls hP hD hS hV hsc hl hll (fmt hvs) hvl hcc hcs)
    | le => exact lv_if_le hx hb hdg ht (fun q => h1 q ad H locs cells slots ls hP hD hS hV hsc hl hll (fmt hvs) hvl hcc hcs) (fun q => h2 q ad H locs cells slots ls hP hD hS hV hsc hl hll (fmt hvs) hvl hcc hcs)
  | if_icmp cn off =>
    intro ad H locs cells slots ls hP hD hS hV hsc hl hll hvs hvl hcc hcs
    obtain ⟨a9, b9, r, rfl, h1, h2⟩ := hst
    have ht := of_decide_eq_true hci
    cases cn with
    | eq => exact lv_icmp_eq hx hb hdg ht (fun q => h1 q ad H locs cells slots ls hP hD hS hV hsc hl hll (fmt (fmt hvs)) hvl hcc hcs) (fun q => h2 q ad H locs cells slots ls hP hD hS hV hsc hl hll (fmt (fmt hvs)) hvl hcc hcs)
    | ne => exact lv_icmp_ne hx hb hdg ht (fun q => h1 q ad H locs cells slots ls hP hD hS hV hsc hl hll (fmt (fmt hvs)) hvl hcc hcs) (fun q => h2 (fun g => g q) ad H locs cells slots ls hP hD hS hV hsc hl hll (fmt (fmt hvs)) hvl hcc hcs)
    | lt => exact lv_icmp_lt hx hb hdg ht (fun q => h1 q ad H locs cells slots ls hP hD hS hV hsc hl hll (fmt (fmt hvs)) hvl hcc hcs) (fun q => h2 q ad H locs cells slots ls hP hD hS hV hsc hl hll (fmt (fmt hvs)) hvl hcc hcs)
    | ge => exact lv_icmp_ge hx hb hdg ht (fun q => h1 q ad H locs cells slots ls hP hD hS hV hsc hl hll (fmt (fmt hvs)) hvl hcc hcs) (fun q => h2 q ad H locs cells slots ls hP hD hS hV hsc hl hll (fmt (fmt hvs)) hvl hcc hcs)
    | gt => exact lv_icmp_gt hx hb hdg ht (fun q => h1 q ad H locs cells slots ls hP hD hS hV hsc hl hll (fmt (fmt hvs)) hvl hcc hcs) (fun q => h2 q ad H locs cells slots ls hP hD hS hV hsc hl hll (fmt (fmt hvs)) hvl hcc hcs)
    | le => exact lv_icmp_le hx hb hdg ht (fun q => h1 q ad H locs cells slots ls hP hD hS hV hsc hl hll (fmt (fmt hvs)) hvl hcc hcs) (fun q => h2 q ad H locs cells slots ls hP hD hS hV hsc hl hll (fmt (fmt hvs)) hvl hcc hcs)
  | ifnull off =>
    intro ad H locs cells slots ls hP hD hS hV hsc hl hll hvs hvl hcc hcs
    obtain ⟨o9, r, rfl, h1, h2⟩ := hst
    have ht := of_decide_eq_true hci
    cases o9 with
    | none => exact lv_ifnullN hx hb hdg ht (h1 rfl ad H locs cells slots ls hP hD hS hV hsc hl hll (fmt hvs) hvl hcc hcs)
    | some a => exact lv_ifnull hx hb hdg (h2 a rfl ad H locs cells slots ls hP hD hS hV hsc hl hll (fmt hvs) hvl hcc hcs)
  | ifnonnull off =>
    intro ad H locs cells slots ls hP hD hS hV hsc hl hll hvs hvl hcc hcs
    obtain ⟨o9, r, rfl, h1, h2⟩ := hst
    have ht := of_decide_eq_true hci
    cases o9 with
    | none => exact lv_ifnonnullN hx hb hdg (h1 rfl ad H locs cells slots ls hP hD hS hV hsc hl hll (fmt hvs) hvl hcc hcs)
    | some a => exact lv_ifnonnull hx hb hdg ht (h2 a rfl ad H locs cells slots ls hP hD hS hV hsc hl hll (fmt hvs) hvl hcc hcs)
  | tableswitch d9 lo hi offs =>
    intro ad H locs cells slots ls hP hD hS hV hsc hl hll hvs hvl hcc hcs
    obtain ⟨v, r, rfl, h1, h2⟩ := hst
    simp only [ckI, Bool.and_eq_true, decide_eq_true_eq] at hci
    obtain ⟨g1, g2, g3⟩ := hci
    by_cases hr9 : v.toInt < lo ∨ hi < v.toInt
    · exact lv_tableOut hx hb hdg hr9 g1 (h1 hr9 ad H locs cells slots ls hP hD hS hV hsc hl hll (fmt hvs) hvl hcc hcs)
    · have e1 : ¬ v.toInt < lo := fun q => hr9 (Or.inl q)
      have e2 : ¬ hi < v.toInt := fun q => hr9 (Or.inr q)
      have hn : (v.toInt - lo).toNat < offs.size := by omega
      have ho : offs[(v.toInt - lo).toNat]? = some offs[(v.toInt - lo).toNat] := by simp [hn]
      have hlt : (tl.map Int.ofNat)[(v.toInt - lo).toNat]? = some ((pc : Int) + offs[(v.toInt - lo).toNat]) := by
        rw [g3, List.getElem?_map, Array.getElem?_toList, ho]
        rfl
      rw [List.getElem?_map] at hlt
      obtain ⟨t9, ht9, hte⟩ := Option.map_eq_some_iff.mp hlt
      exact lv_tableIn hx hb hdg e1 e2 ho hte.symm (h2 _ t9 ht9 (by omega) ad H locs cells slots ls hP hD hS hV hsc hl hll (fmt hvs) hvl hcc hcs)
  | lookupswitch d9 ps =>
    intro ad H locs cells slots ls hP hD hS hV hsc hl hll hvs hvl hcc hcs
    obtain ⟨v, r, rfl, h1, h2⟩ := hst
    simp only [ckI, Bool.and_eq_true, decide_eq_true_eq] at hci
    obtain ⟨g1, g2, g3⟩ := hci
    have key : (Op.lookupswitch.offset ps.toList d9 v.toInt = d9 ∧ ∀ q : Int × Int, q ∈ ps.toList → q.1 ≠ v.toInt) ∨ ∃ (n : Nat) (q : Int × Int), ps.toList[n]? = some q ∧ q.1 = v.toInt ∧ Op.lookupswitch.offset ps.toList d9 v.toInt = q.2 := by
      generalize ps.toList = L
      induction L with
      | nil => exact Or.inl ⟨rfl, fun q hq => by cases hq⟩
      | cons a L ih =>
        obtain ⟨a1, a2⟩ := a
        rw [Op.lookupswitch.offset_cons]
        by_cases ha : a1 = v.toInt
        · rw [if_pos ha]
          exact Or.inr ⟨0, (a1, a2), rfl, ha, rfl⟩
        · rw [if_neg ha]
          rcases ih with ⟨i1, i2⟩ | ⟨n, q, i1, i2, i3⟩
          · exact Or.inl ⟨i1, fun q hq => by
              rcases List.mem_cons.mp hq with rfl | hq
              · exact ha
              · exact i2 q hq⟩
          · exact Or.inr ⟨n + 1, q, i1, i2, i3⟩
    rcases key with ⟨k1, k2⟩ | ⟨n, q, k1, k2, k3⟩
    · exact lv_lookup hx hb hdg g2 k1 g1 (h1 k2 ad H locs cells slots ls hP hD hS hV hsc hl hll (fmt hvs) hvl hcc hcs)
    · have hlt : (tl.map Int.ofNat)[n]? = some ((pc : Int) + q.2) := by
        rw [g3, List.getElem?_map, k1]
        rfl
      rw [List.getElem?_map] at hlt
      obtain ⟨t9, ht9, hte⟩ := Option.map_eq_some_iff.mp hlt
      exact lv_lookup hx hb hdg g2 k3 hte.symm (h2 n t9 q ht9 k1 k2.symm ad H locs cells slots ls hP hD hS hV hsc hl hll (fmt hvs) hvl hcc hcs)
  | getfield i =>
    exact sim_get C' rfl hdg hci hst
  | putfield i =>
    exact sim_put C' rfl hdg (Bool.and_eq_true _ _ |>.mp hci).1 (Bool.and_eq_true _ _ |>.mp hci).2 hst
  | iaload =>
    exact sim_iald C' rfl hX hdg hst
  | laload =>
    exact sim_lald C' rfl hdg hst
  | aaload =>
    exact sim_aald C' rfl hdg hst
  | iastore =>
    exact sim_iast C' rfl hdg hst
  | lastore =>
    exact sim_last C' rfl hdg hst
  | aastore =>
    exact sim_aast C' rfl hdg hst
  | arraylength =>
    exact sim_alen C' rfl hX hdg hst
  | new i =>
    exact sim_new C' rfl hdg hci hst
  | newarray t =>
    cases t with
    | int =>
      simp only [ckI, Bool.and_eq_true, decide_eq_true_eq] at hci
      exact sim_newI C' rfl hdg hci.1 hci.2 hst
    | long =>
      simp only [ckI, Bool.and_eq_true, decide_eq_true_eq] at hci
      exact sim_newL C' rfl hdg hci.1 hci.2 hst
    | _ => cases hci
  | anewarray i =>
    exact sim_newR C' rfl hdg hci hst
  | invokevirtual i =>
    simp only [ckI, Bool.and_eq_true, decide_eq_true_eq] at hci
    obtain ⟨⟨a9, i9, b9, q1, rfl, q3⟩, hcall⟩ := hst
    exact sim_call C' IH hcodes rfl hdg hci.1 (Or.inr (Or.inl ⟨rfl, hci.2, ⟨i9, by rw [← q3]; exact q1⟩, hcall⟩))
  | invokespecial i =>
    by_cases hw : w = 6
    · subst hw
      simp only [ckI, Bool.and_eq_true, decide_eq_true_eq, show Nat.beq 6 6 = true from rfl, cond_true] at hci
      exact sim_obj C' rfl hdg hci.1 hci.2.1 hci.2.2.1 hci.2.2.2 hst
    · simp only [ckI, show Nat.beq w 6 = false from by cases hb9 : Nat.beq w 6 with | false => rfl | true => exact absurd (Nat.eq_of_beq_eq_true hb9) hw, cond_false, Bool.and_eq_true, decide_eq_true_eq] at hci
      simp only [StepI, hw, if_false] at hst
      exact sim_call C' IH hcodes rfl hdg hci.1 (Or.inr (Or.inr ⟨rfl, hci.2, hst.1, hst.2⟩))
  | invokestatic i =>
    by_cases hw : w = 7
    · subst hw
      simp only [ckI, Bool.and_eq_true, decide_eq_true_eq, show Nat.beq 7 7 = true from rfl, cond_true] at hci
      exact sim_copy C' rfl hdg hci.1 hci.2.1 hci.2.2.1 hci.2.2.2.1 hci.2.2.2.2 hst
    · by_cases hw8 : w = 8
      · subst hw8
        simp only [ckI, Bool.and_eq_true, decide_eq_true_eq, show Nat.beq 8 7 = false from rfl, show Nat.beq 8 8 = true from rfl, cond_true, cond_false] at hci
        exact sim_max C' rfl hdg hci.1 hci.2.1 hci.2.2.1 hci.2.2.2.1 hci.2.2.2.2 hst
      simp only [ckI, show Nat.beq w 7 = false from by cases hb9 : Nat.beq w 7 with | false => rfl | true => exact absurd (Nat.eq_of_beq_eq_true hb9) hw, show Nat.beq w 8 = false from by cases hb9 : Nat.beq w 8 with | false => rfl | true => exact absurd (Nat.eq_of_beq_eq_true hb9) hw8, cond_false, Bool.and_eq_true, decide_eq_true_eq] at hci
      simp only [StepI, hw, hw8, if_false] at hst
      exact sim_call C' IH hcodes rfl hdg hci.1 (Or.inl ⟨rfl, hci.2, hst⟩)
  | ireturn =>
    intro ad H locs cells slots ls hP hD hS hV hsc hl hll hvs hvl hcc hcs
    obtain ⟨v, rfl, h1⟩ := hst
    exact hret (some (aI v)) S pc ad H locs cells slots ls hdg h1 hP hD hS hV hsc (fun x hx => by cases hx; exact VA.i) hcc hcs
  | lreturn =>
    intro ad H locs cells slots ls hP hD hS hV hsc hl hll hvs hvl hcc hcs
    obtain ⟨v, rfl, h1⟩ := hst
    exact hret (some (aL v)) S pc ad H locs cells slots ls hdg h1 hP hD hS hV hsc (fun x hx => by cases hx; exact VA.l) hcc hcs
  | areturn =>
    intro ad H locs cells slots ls hP hD hS hV hsc hl hll hvs hvl hcc hcs
    obtain ⟨v, rfl, h1⟩ := hst
    exact hret (some (.inr v)) S pc ad H locs cells slots ls hdg h1 hP hD hS hV hsc (fun x hx => by cases hx; exact fmh hvs) hcc hcs
  | return_ =>
    intro ad H locs cells slots ls hP hD hS hV hsc hl hll hvs hvl hcc hcs
    obtain ⟨rfl, h1⟩ := hst
    exact hret none S pc ad H locs cells slots ls hdg h1 hP hD hS hV hsc (fun x hx => by cases hx) hcc hcs
  | _ => exact hst.elim
theorem sim_main (C : CX p s m args meth c R D cA A H0 c0 cap mi) {R' : RC} (IH : Ctr l D cA R') (hcodes : ∀ mi ∈ mths, Cond.code mi.1 mi.2.1 mi.2.2.1 mi.2.2.2.1 ∈ lw_tbl) (hck : ckM mths mi = true) (hX : scr → va_X b.1 sc.1 sc.2 s H0 ∧ b.1 < H0.size ∧ ¬ A b.1) {ret : Option AV → DS → Prop}
    (hret : ∀ (v : Option AV) (S : DS) (pc : Nat) (ad : Nat → Nat → Nat) (H : Heap) (locs : List Loc) (cells slots : Nat) (ls : Array Slot), decode mi.2.1 pc = .ok (rIns v, 1) → ret v S → va_P D vwCl (wsD cA ad S) H → va_D A (wsD cA ad S) → va_S A H0 H locs → VS S → SCI scr b ad S.1 → (∀ x, v = some x → VA scr S x) → cells + c0.1 = S.1.length → slots + c0.2 = slz S.1 → W p l e R s m args below meth c H locs cells slots Q (F0 m pc ls (v.toList.map (cv ad))))
    : ∀ (pc : Nat) (loc : List (Option AV)) (st : List AV) (S : DS), Ev R' mth cap sc ret (lkp mi.2.2.2.2.2.2.2.2) pc loc st S → SB p l e R s m args below meth c D cA A H0 scr b mi.2.2.1 c0 Q pc loc st S :=
  fun pc loc st S hev => hev _ (sim_step C IH hcodes hck hX hret)
end SIM5
theorem locG_va {S : DS} {P : DS → AV → Prop} : ∀ {as : List AV}, (∀ v ∈ as, P S v) → ∀ (i : Nat) v, (locG as)[i]? = some (some v) → P S v
  | [], h, i, v, hi => by simp [locG] at hi
  | u :: as, h, i, v, hi => by
    obtain (x | x) | o := u
    · cases i with
      | zero =>
        have e : v = _ := (Option.some.inj (Option.some.inj hi)).symm
        subst e
        exact fmh h
      | succ i => exact locG_va (fmt h) i v hi
    · cases i with
      | zero =>
        have e : v = _ := (Option.some.inj (Option.some.inj hi)).symm
        subst e
        exact fmh h
      | succ i =>
        cases i with
        | zero => cases hi
        | succ i => exact locG_va (fmt h) i v hi
    · cases i with
      | zero =>
        have e : v = _ := (Option.some.inj (Option.some.inj hi)).symm
        subst e
        exact fmh h
      | succ i => exact locG_va (fmt h) i v hi
/-- all methods' contracts -/
theorem Ctr_all (l : Launch) (D : va_G) (cA : Nat → ClassId) (hcodes : ∀ mi ∈ mths, Cond.code mi.1 mi.2.1 mi.2.2.1 mi.2.2.2.1 ∈ lw_tbl) (hcks : ∀ mi ∈ mths, ckM mths mi = true) (hpl : ∀ mi ∈ mths, plainName mi.1.cls = true) (hrt : ∀ mi ∈ mths, (∃ C, mi.2.2.2.1 = some (.object C)) ∨ mi.2.2.2.1 = none ∨ mi.2.2.2.1 = some .int ∨ mi.2.2.2.1 = some .long ∨ mi.2.2.2.1 = some .boolean) : ∀ d : Nat, Ctr l D cA (EvM mth d) := by
  intro d
  induction d with
  | zero => exact fun x mi hmi as S Ψ h => h.elim
  | succ d ih =>
    intro x mi hmi as S Ψ h hV hva ad sz
    obtain ⟨mi2, hmi2, hlen, hev⟩ := h
    have hmm : mi2 = mi := Option.some.inj (hmi2.symm.trans hmi)
    subst hmm
    have hmem : mi2 ∈ mths := List.mem_of_getElem? hmi
    refine Met.ofW (cc := mi2.2.1) (maxL := mi2.2.2.1) (ret := mi2.2.2.2.1) (hpl _ hmem) rfl ?_
    intro p e s m args below meth c s₁ B hml hv
    obtain ⟨rfl, hsz, hP, hK, hD0, hNW⟩ := hv
    have hx := B.exec
    have hb := B.bytes
    have hr := B.returns
    have htsw := atoms_spec (ws := wsM mi2) B.pre
    have hts : ∀ w ∈ TG, w.before (as.map (cv ad)).toArray s = true := fun w hw => htsw w (List.mem_cons_of_mem _ hw)
    have hown : s.vm.findClass mi2.1.cls = some m.cls := findClass_of_methodNamed B.named
    have hlocks := B.notSynchronized
    have hin : meth.name = mi2.1.name := (name_of_methodNamed B.named B.method).1
    subst hsz
    have hD := hD0.self (sz := s.heap.size)
    have hA : ∀ q : Nat, s.heap.size ≤ q → va_A (wsD cA ad S) s.heap.size q := fun q h => Or.inr h
    rw [lg_entry_eq]
    have CC : CX p s m (as.map (cv ad)).toArray meth c (rmM mi2) D cA (va_A (wsD cA ad S) s.heap.size) s.heap (S.1.length, slz S.1) (capOf mi2 S) mi2 := ⟨hx, hb, hml, hown, hts, hNW, fun _ => hin, hK, hA, rfl, rfl, rfl⟩
    have h1 := sim_main (p := p) (l := l) (e := e) (below := below) (scr := False) (b := (0, S.1, ad)) (Q := MQ below (QM mi2.2.2.2.1 Ψ D cA ad S (capOf mi2 S) (va_A (wsD cA ad S) s.heap.size)) (as.map (cv ad)).toArray s mi2.2.2.2.2.2.1 mi2.2.2.2.2.2.2.1 (va_A (wsD cA ad S) s.heap.size)) CC ih hcodes (hcks _ hmem) (sc := (0, fun _ => 0)) (fun z => z.elim) (ret := retP mi2.2.2.2.1 (capOf mi2 S) Ψ) ?_ 0 (locA mi2.2.2.1 as) [] S hev
    · exact h1 ad s.heap [] 0 0 _ hP hD va_S.rf hV ⟨fun z => z.elim, ⟨[], (List.append_nil _).symm⟩, fun _ _ => rfl, rfl⟩ (LV.entry ad hlen) (by unfold locA; simp; omega) (fun v hv => by cases hv) (fun i v hi => by
        unfold locA at hi
        by_cases hl9 : i < (locG as).length
        · rw [List.getElem?_append_left hl9] at hi
          exact locG_va (P := fun S v => VA False S v) hva i v hi
        · rw [List.getElem?_append_right (by omega)] at hi
          have := List.eq_of_mem_replicate (List.mem_of_getElem? hi)
          cases this) (Nat.zero_add _) (Nat.zero_add _)
    · intro v S' pc ad' H locs cells slots ls hdg hrp hP1 hD1 hS1 hV1 hsc hvv hcc hcs
      obtain ⟨rt, rc1, rc2, hΨ⟩ := hrp
      have e1 : cells = mi2.2.2.2.2.2.1 := by
        have : cells + S.1.length = S'.1.length := hcc
        rw [rc1] at this
        have h9 : cells + S.1.length = S.1.length + mi2.2.2.2.2.2.1 := this
        omega
      have e2 : slots = mi2.2.2.2.2.2.2.1 := by
        have : slots + slz S.1 = slz S'.1 := hcs
        rw [rc2] at this
        have h9 : slots + slz S.1 = slz S.1 + mi2.2.2.2.2.2.2.1 := this
        omega
      rw [← e1, ← e2]
      obtain ⟨-, ⟨ex, g2⟩, g3, g4⟩ := hsc
      have hBU : ∀ t : State, t.heap = H → BU D cA ad S (capOf mi2 S) (va_A (wsD cA ad S) s.heap.size) (S', ad') t := fun t ht => ⟨by rw [ht]; exact hP1, hD1, hV1, ⟨ex, g2⟩, g3, g4, rc1, rc2⟩
      rcases hrt _ hmem with ⟨C9, hC9⟩ | h0 | h0 | h0 | h0
      · rw [hC9] at rt hr ⊢
        obtain ⟨o, ho⟩ := rt
        subst ho
        refine W.aret hx hb hr (Or.inl ⟨_, rfl⟩) (by cases o with | none => exact Or.inl rfl | some a => exact Or.inr ⟨_, rfl⟩) (fun t ht hW => ⟨⟨o.map (fun a => ad' a.1 a.2), (S', ad'), by cases o <;> rfl, ⟨o, rfl, fun a ha => ((hvv _ rfl) a (by rw [ha])).elim id (fun z => z.1.elim), hΨ⟩, hBU t ht⟩, hS1.F ht⟩) hS1.2.2 hdg
      · rw [h0] at rt hr ⊢
        have rt' : v = none := rt
        subst rt'
        exact W.vret hx hb hr (fun t ht hW => ⟨⟨(S', ad'), rfl, hΨ, hBU t ht⟩, hS1.F ht⟩) hS1.2.2 hdg
      · rw [h0] at rt hr ⊢
        obtain ⟨x9, hx9, -⟩ := rt
        subst hx9
        exact W.iret hx hb hr (fun t ht hW => ⟨⟨x9, (S', ad'), rfl, hΨ, hBU t ht⟩, hS1.F ht⟩) hS1.2.2 hdg
      · rw [h0] at rt hr ⊢
        obtain ⟨x9, hx9⟩ := rt
        subst hx9
        exact W.lret hx hb hr (fun t ht hW => ⟨⟨x9, (S', ad'), rfl, hΨ, hBU t ht⟩, hS1.F ht⟩) hS1.2.2 hdg
      · rw [h0] at rt hr ⊢
        obtain ⟨x9, hx9, hn9⟩ := rt
        subst hx9
        exact W.zret hx hb hr hn9 (fun t ht hW => ⟨⟨x9, (S', ad'), rfl, hΨ, hBU t ht⟩, hS1.F ht⟩) hS1.2.2 hdg
