/-! every run of the small machine is one of the kit's -/
def BU (D : va_G) (cA : Nat → ClassId) (ad : Nat → Nat → Nat) (S : DS) (cap : Nat × Nat) (A : Nat → Prop) (u : DS × (Nat → Nat → Nat)) (t : State) : Prop :=
  va_P D vwCl (wsD cA u.2 u.1) t.heap ∧ va_D A (wsD cA u.2 u.1) ∧ VS u.1 ∧ (∃ e, u.1.1 = S.1 ++ e) ∧ (∀ a ∈ S.1, u.2 a.1 a.2 = ad a.1 a.2) ∧ u.2 900 0 = ad 900 0 ∧ u.1.1.length = cap.1 ∧ slz u.1.1 = cap.2
def QM (rt : Option FieldType) (Ψ : Option AV → DS → Prop) (D : va_G) (cA : Nat → ClassId) (ad : Nat → Nat → Nat) (S : DS) (cap : Nat × Nat) (A : Nat → Prop) : Array Value → State → Outcome → State → Prop :=
  match rt with
  | none => va_Qv (fun u : DS × (Nat → Nat → Nat) => Ψ none u.1) (BU D cA ad S cap A) A
  | some .long => va_Ql (fun (r : Int64) (u : DS × (Nat → Nat → Nat)) => Ψ (some (aL r)) u.1) (BU D cA ad S cap A) A
  | some (.object _) => va_Qq (fun (r : Option Nat) (u : DS × (Nat → Nat → Nat)) => ∃ o : Option (Nat × Nat), r = o.map (fun a => u.2 a.1 a.2) ∧ (∀ a, o = some a → a ∈ u.1.1) ∧ Ψ (some (.inr o)) u.1) (BU D cA ad S cap A) A
  | some _ => va_Qi (fun (r : Int32) (u : DS × (Nat → Nat → Nat)) => Ψ (some (aI r)) u.1) (BU D cA ad S cap A) A
/-- a method's contract: all methods at once -/
def Ctr (l : Launch) (D : va_G) (cA : Nat → ClassId) (R' : RC) : Prop :=
  ∀ (x : Nat) (mi : MI), mth x = some mi → ∀ (as : List AV) (S : DS) (Ψ : Option AV → DS → Prop), R' x as S Ψ → VS S → (∀ v ∈ as, VA False S v) → ∀ (ad : Nat → Nat → Nat) (sz : Nat),
    Met l mi.1 (wsM mi) (rmM mi) (va_Pc (as.map (cv ad)) (fun U => U.heap.size = sz ∧ va_P D vwCl (wsD cA ad S) U.heap ∧ va_K D vwCl (TYS cA) U ∧ va_D (fun _ => True) (wsD cA ad S) ∧ NWs U)) (QM mi.2.2.2.1 Ψ D cA ad S (capOf mi S) (va_A (wsD cA ad S) sz)) mi.2.2.2.2.2.1 mi.2.2.2.2.2.2.1 (va_A (wsD cA ad S) sz)
theorem fm {α : Type} {P : α → Prop} {a : α} {l : List α} (h : P a) (hl : ∀ v ∈ l, P v) : ∀ v ∈ a :: l, P v := List.forall_mem_cons.mpr ⟨h, hl⟩
theorem fmt {α : Type} {P : α → Prop} {a : α} {l : List α} (h : ∀ v ∈ a :: l, P v) : ∀ v ∈ l, P v := (List.forall_mem_cons.mp h).2
theorem fmh {α : Type} {P : α → Prop} {a : α} {l : List α} (h : ∀ v ∈ a :: l, P v) : P a := (List.forall_mem_cons.mp h).1
theorem rIns_dummy : True := trivial
def rIns : Option AV → Instr
  | none => .return_
  | some (.inl (.inl _)) => .ireturn
  | some (.inl (.inr _)) => .lreturn
  | some (.inr _) => .areturn
theorem VAo {scr : Prop} {S : DS} {F : Nat} {o : Option Nat} (h : ∀ k, o = some k → (F, k) ∈ S.1) : VA scr S (.inr (o.map (fun q => (F, q)))) := by
  intro a e
  cases o with
  | none => cases e
  | some k =>
    have e2 : (some (F, k) : Option (Nat × Nat)) = some a := Sum.inr.inj e
    have e3 : (F, k) = a := Option.some.inj e2
    exact Or.inl (by rw [← e3]; exact h k rfl)
/-- facts of a class by its family -/
def dfK : Nat → Value
  | 0 => .int 0
  | 1 => .long 0
  | _ => .null
def clsF (q : vw_C) (F : Nat) : Prop := (∀ w ∈ u_ws q.1 q.2.1 q.2.2, w ∈ TG) ∧ nfT F = q.2.2 ∧ (∀ a, a < q.2.2 → ∀ b, b < q.2.2 → a ≠ b → (q.2.1 a).2.1 ≠ (q.2.1 b).2.1) ∧ ∃ ty : Nat → FieldType, (∀ k, k < q.2.2 → parseFieldDescriptor (q.2.1 k).2.2.1 = some (ty k)) ∧ ∀ k, k < q.2.2 → defaultValue (ty k) = dfK (kdT F k)
set_option maxRecDepth 100000 in
theorem clsF_0 : clsF (RX0, TX0, 2) 0 := ⟨fun w hw => TG.in (by revert w; decide +kernel) (by revert w; decide +kernel), by decide +kernel, nmX0, tyX0, tyX0_ok, by decide +kernel⟩
set_option maxRecDepth 100000 in
theorem clsF_1 : clsF (RX1, TX1, 16) 1 := ⟨fun w hw => TG.in (by revert w; decide +kernel) (by revert w; decide +kernel), by decide +kernel, nmX1, tyX1, tyX1_ok, by decide +kernel⟩
set_option maxRecDepth 100000 in
theorem clsF_2 : clsF (RX2, TX2, 7) 2 := ⟨fun w hw => TG.in (by revert w; decide +kernel) (by revert w; decide +kernel), by decide +kernel, nmX2, tyX2, tyX2_ok, by decide +kernel⟩
set_option maxRecDepth 100000 in
theorem clsF_3 : clsF (RX3, TX3, 5) 3 := ⟨fun w hw => TG.in (by revert w; decide +kernel) (by revert w; decide +kernel), by decide +kernel, nmX3, tyX3, tyX3_ok, by decide +kernel⟩
set_option maxRecDepth 100000 in
theorem clsF_4 : clsF (RX4, TX4, 9) 4 := ⟨fun w hw => TG.in (by revert w; decide +kernel) (by revert w; decide +kernel), by decide +kernel, nmX4, tyX4, tyX4_ok, by decide +kernel⟩
set_option maxRecDepth 100000 in
theorem clsF_5 : clsF (RX5, TX5, 10) 5 := ⟨fun w hw => TG.in (by revert w; decide +kernel) (by revert w; decide +kernel), by decide +kernel, nmX5, tyX5, tyX5_ok, by decide +kernel⟩
set_option maxRecDepth 100000 in
theorem clsF_6 : clsF (RX6, TX6, 6) 6 := ⟨fun w hw => TG.in (by revert w; decide +kernel) (by revert w; decide +kernel), by decide +kernel, nmX6, tyX6, tyX6_ok, by decide +kernel⟩
set_option maxRecDepth 100000 in
theorem clsF_7 : clsF (RX7, TX7, 18) 7 := ⟨fun w hw => TG.in (by revert w; decide +kernel) (by revert w; decide +kernel), by decide +kernel, nmX7, tyX7, tyX7_ok, by decide +kernel⟩
theorem clsF_all {F : Nat} {q : vw_C} (h : vwCl[F]? = some q) : clsF q F := by
  match F, h with
  | 0, h => cases h; exact clsF_0
  | 1, h => cases h; exact clsF_1
  | 2, h => cases h; exact clsF_2
  | 3, h => cases h; exact clsF_3
  | 4, h => cases h; exact clsF_4
  | 5, h => cases h; exact clsF_5
  | 6, h => cases h; exact clsF_6
  | 7, h => cases h; exact clsF_7
  | F + 8, h => simp [vwCl] at h
section SIM
variable {p : Program} {l : Launch} {e : Env} {R : Room} {s : State} {m : MethodId} {args : Array Value} {below : List Frame} {meth : Method} {c : Code} {D : va_G} {cA : Nat → ClassId} {A : Nat → Prop} {H0 : Heap} {scr : Prop} {b : Nat × List (Nat × Nat) × (Nat → Nat → Nat)} {nL : Nat} {c0 cap : Nat × Nat} {Q : State → Prop} {mi : MI}
/-- what stays along a run: where the script is, the old cells' addresses -/
def SCI (scr : Prop) (b : Nat × List (Nat × Nat) × (Nat → Nat → Nat)) (ad : Nat → Nat → Nat) (L : List (Nat × Nat)) : Prop := (scr → ad 900 0 = b.1) ∧ (∃ ex, L = b.2.1 ++ ex) ∧ (∀ a ∈ b.2.1, ad a.1 a.2 = b.2.2 a.1 a.2) ∧ ad 900 0 = b.2.2 900 0
theorem SCI.mono {b : Nat × List (Nat × Nat) × (Nat → Nat → Nat)} {ad ad' : Nat → Nat → Nat} {L L' : List (Nat × Nat)} (h : SCI scr b ad L) (h1 : ∃ ex, L' = L ++ ex) (h2 : ∀ a ∈ L, ad' a.1 a.2 = ad a.1 a.2) (h3 : ad' 900 0 = ad 900 0) : SCI scr b ad' L' := by
  obtain ⟨g1, ⟨ex, g2⟩, g3, g4⟩ := h
  obtain ⟨ex', h1⟩ := h1
  refine ⟨fun z => h3.trans (g1 z), ⟨ex ++ ex', by rw [h1, g2, List.append_assoc]⟩, fun a ha => (h2 a (by rw [g2]; exact List.mem_append_left _ ha)).trans (g3 a ha), h3.trans g4⟩
def SB (p : Program) (l : Launch) (e : Env) (R : Room) (s : State) (m : MethodId) (args : Array Value) (below : List Frame) (meth : Method) (c : Code) (D : va_G) (cA : Nat → ClassId) (A : Nat → Prop) (H0 : Heap) (scr : Prop) (b : Nat × List (Nat × Nat) × (Nat → Nat → Nat)) (nL : Nat) (c0 : Nat × Nat) (Q : State → Prop) : KC := fun pc loc st S =>
  ∀ (ad : Nat → Nat → Nat) (H : Heap) (locs : List Loc) (cells slots : Nat) (ls : Array Slot), va_P D vwCl (wsD cA ad S) H → va_D A (wsD cA ad S) → va_S A H0 H locs → VS S → SCI scr b ad S.1 → LV ad ls nL loc → loc.length = nL → (∀ v ∈ st, VA scr S v) → (∀ (i : Nat) v, loc[i]? = some (some v) → VA scr S v) → cells + c0.1 = S.1.length → slots + c0.2 = slz S.1 →
    W p l e R s m args below meth c H locs cells slots Q (F0 m pc ls (st.map (cv ad)))
theorem lst1_len {loc l' : List (Option AV)} {i : Nat} {u : AV} (h : lst1 loc i u = some l') : l'.length = loc.length := by
  have hl := lst1_lt h
  unfold lst1 at h
  rw [show Nat.blt i loc.length = true by simpa [Nat.blt_eq] using hl] at h
  have e := Option.some.inj h
  rw [← e]
  simp [klL_len]
theorem lst2_len {loc l' : List (Option AV)} {i : Nat} {u : AV} (h : lst2 loc i u = some l') : l'.length = loc.length := by
  have hl := lst2_lt h
  unfold lst2 at h
  rw [show Nat.blt (i + 1) loc.length = true by simpa [Nat.blt_eq] using hl] at h
  have e := Option.some.inj h
  rw [← e]
  simp [klL_len]
theorem lst1_va {S : DS} {loc l' : List (Option AV)} {i : Nat} {u : AV} (h : lst1 loc i u = some l') (hu : VA scr S u) (hv : ∀ (i : Nat) v, loc[i]? = some (some v) → VA scr S v) : ∀ (i : Nat) v, l'[i]? = some (some v) → VA scr S v := by
  intro j v hj
  rcases lst1_at h hj with ⟨-, rfl⟩ | ⟨-, h2, -⟩
  · exact hu
  · exact hv _ _ h2
theorem lst2_va {S : DS} {loc l' : List (Option AV)} {i : Nat} {u : AV} (h : lst2 loc i u = some l') (hu : VA scr S u) (hv : ∀ (i : Nat) v, loc[i]? = some (some v) → VA scr S v) : ∀ (i : Nat) v, l'[i]? = some (some v) → VA scr S v := by
  intro j v hj
  rcases lst2_at h hj with ⟨-, rfl⟩ | ⟨-, -, h2, -⟩
  · exact hu
  · exact hv _ _ h2
/-- one cell's ints or longs are written -/
theorem VS_sI {S : DS} (h : VS S) (F i j : Nat) (x : Int32) : VS (sI S F i j x) := h
theorem VS_sL {S : DS} (h : VS S) (F i j : Nat) (x : Int64) : VS (sL S F i j x) := h
theorem VS_sRow {S : DS} (h : VS S) (F i : Nat) (f : Nat → Int32) : VS (sRow S F i f) := h
theorem VS_sQ {S : DS} (h : VS S) {F i j : Nat} {x : Option Nat} (h1 : ∀ n k, F < 1000 → kdT F j = n + 2 → x = some k → (n, k) ∈ S.1) (h2 : ∀ k, 3000 ≤ F → x = some k → (arT F, k) ∈ S.1) : VS (sQ S F i j x) := by
  intro q hq
  obtain ⟨g1, g2, g3, g4⟩ := h q hq
  refine ⟨g1, g2, fun j' n k a1 a2 a3 => ?_, fun j' k a1 a0 a3 => ?_⟩
  · show (n, k) ∈ S.1
    simp only [sQ] at a3
    split at a3
    · next hh =>
      simp only [va_up] at a3
      split at a3
      · next hj => rw [hh.1] at a1 a2; rw [hj] at a2; exact h1 n k a1 a2 a3
      · next hj => rw [← hh.1, ← hh.2] at a3; exact g3 j' n k a1 a2 a3
    · exact g3 j' n k a1 a2 a3
  · show (arT q.1, k) ∈ S.1
    simp only [sQ] at a3
    split at a3
    · next hh =>
      simp only [va_up] at a3
      split at a3
      · next hj => rw [hh.1] at a1 ⊢; exact h2 k a1 a3
      · next hj => rw [← hh.1, ← hh.2] at a3; exact g4 j' k a1 a0 a3
    · exact g4 j' k a1 a0 a3
theorem fs_set {f g : Nat → Value} {N j : Nat} {v : Value} (hj : g j = v) (hn : ∀ k, k ≠ j → g k = f k) : ((List.range N).map f).set j v = (List.range N).map g := by
  refine List.ext_getElem? (fun k => ?_)
  by_cases hk : k = j
  · subst hk
    by_cases hl : k < N
    · rw [List.getElem?_set_self (by simpa using hl)]
      simp [hl, hj]
    · rw [List.getElem?_eq_none (by simpa using hl), List.getElem?_eq_none (by simpa using hl)]
  · rw [List.getElem?_set_ne (Ne.symm hk)]
    simp only [List.getElem?_map]
    by_cases hl : k < N
    · simp [hl, hn k hk]
    · rw [List.getElem?_eq_none (by simpa using hl)]
      rfl
theorem cellD_obj {ad : Nat → Nat → Nat} {S : DS} {F i : Nat} (h : F < 1000) : cellD cA ad S F i = .inr (F, (List.range (nfT F)).map (fvT ad S F i)) := if_pos h
theorem cellD_int {ad : Nat → Nat → Nat} {S : DS} {F i : Nat} (h : F / 1000 = 1) : cellD cA ad S F i = .inl (cA 1, F % 1000, .inl (S.2.1 F i)) := by
  unfold cellD arC
  rw [if_neg (by omega), if_pos h, h]
theorem cellD_long {ad : Nat → Nat → Nat} {S : DS} {F i : Nat} (h : F / 1000 = 2) : cellD cA ad S F i = .inl (cA 2, F % 1000, .inr (.inl (S.2.2.1 F i))) := by
  unfold cellD arC
  rw [if_neg (by omega), if_neg (by omega), if_pos h, h]
theorem cellD_ref {ad : Nat → Nat → Nat} {S : DS} {F i : Nat} (h : 3 ≤ F / 1000) : cellD cA ad S F i = .inl (cA (F / 1000), F % 1000, .inr (.inr (.inr (.inr (fun j => if j < F % 1000 then (S.2.2.2 F i j).map (ad (arT F)) else none))))) := by
  unfold cellD arC
  rw [if_neg (by omega), if_neg (by omega), if_neg (by omega)]
theorem TYS_ref {F : Nat} (h : 3 ≤ F / 1000) (hF : F < 6000) : ∃ (t : Nat) (q : vw_C), (TYS cA)[t]? = some (cA (F / 1000), .object q.1) ∧ vwCl[arT F]? = some q := by
  have h3 : F / 1000 = 3 ∨ F / 1000 = 4 ∨ F / 1000 = 5 := by omega
  rcases h3 with h3 | h3 | h3
  · exact ⟨2, (RX1, TX1, 16), by rw [h3]; rfl, by unfold arT; rw [h3]; rfl⟩
  · exact ⟨3, (RX4, TX4, 9), by rw [h3]; rfl, by unfold arT; rw [h3]; rfl⟩
  · exact ⟨4, (RX5, TX5, 10), by rw [h3]; rfl, by unfold arT; rw [h3]; rfl⟩
/-- what a method's frame knows -/
def CX (p : Program) (s : State) (m : MethodId) (args : Array Value) (meth : Method) (c : Code) (R : Room) (D : va_G) (cA : Nat → ClassId) (A : Nat → Prop) (H0 : Heap) (c0 cap : Nat × Nat) (mi : MI) : Prop :=
  p.tables.exec = Jvm.exec ∧ c.code = mi.2.1 ∧ c.maxLocals = mi.2.2.1 ∧ s.vm.findClass mi.1.cls = some m.cls ∧ (∀ w ∈ TG, w.before args s = true) ∧ NWs s ∧ (mi.1.name = "<init>" → meth.name = mi.1.name) ∧ va_K D vwCl (TYS cA) s ∧ (∀ q, H0.size ≤ q → A q) ∧ R.frames = mi.2.2.2.2.1 ∧ R.locals = mi.2.2.2.2.2.2.2.1 ∧ cap = (c0.1 + R.cells, c0.2 + R.slots)
theorem sim_get (C : CX p s m args meth c R D cA A H0 c0 cap mi) {k : KC} (hk : k = SB p l e R s m args below meth c D cA A H0 scr b nL c0 Q) {pc x y w n : Nat} {idx : Nat} {loc : List (Option AV)} {st : List AV} {S : DS} (hdg : decode mi.2.1 pc = .ok (.getfield idx, 3)) (hc : ckF mi.1.cls idx x y w n = true)
    (h : ∃ i r, st = aR x i :: r ∧ k (pc + 3) loc (rdF S x i y w :: r) S) : SB p l e R s m args below meth c D cA A H0 scr b nL c0 Q pc loc st S := by
  obtain ⟨hx, hb, hml, hown, hts, hNW, hnm, hK, hA, hRf, hRl, hcap⟩ := C
  subst hk
  obtain ⟨i, r, rfl, h⟩ := h
  intro ad H locs cells slots ls hP hD hS hV hsc hl hll hvs hvl hcc hcs
  unfold ckF at hc
  split at hc
  · next C T N hq =>
    simp only [Bool.and_eq_true, decide_eq_true_eq] at hc
    obtain ⟨h1, h2, h3, h4⟩ := hc
    have hx8 : x < 8 := (List.getElem?_eq_some_iff.mp hq).1
    have hm : (x, i) ∈ S.1 := (fmh hvs _ rfl).elim id (fun z => by have := congrArg Prod.fst z.2; simp at this; omega)
    obtain ⟨p0, hp0, he⟩ := wsD_at (cA := cA) (ad := ad) hm
    rw [cellD_obj (by omega)] at he
    have hf := clsF_all hq
    refine va_get (D := D) (ci := x) (v := cv ad (rdF S x i y w)) (C := C) (T := T) (N := N) (ref := (T y).1) hx hb hts hf.1 hown hK hP p0 he hq y h1 (hts _ (TG.in (hasW.in h4) rfl)) (fun _ h9 => h9) (by rw [List.getElem?_map, List.getElem?_range (by omega)]; show some (fvT ad S x i y) = _; unfold fvT; rw [h3]) hdg ?_
    refine h ad H locs cells slots ls hP hD hS hV hsc hl hll (fm ?_ (fmt hvs)) hvl hcc hcs
    match w, h3 with
    | 0, _ => exact VA.i
    | 1, _ => exact VA.l
    | n + 2, h3 => exact VAo (fun k hk => (hV _ hm).2.2.1 y n k (by show x < 1000; omega) h3 hk)
  · cases hc
theorem sim_put (C : CX p s m args meth c R D cA A H0 c0 cap mi) {k : KC} (hk : k = SB p l e R s m args below meth c D cA A H0 scr b nL c0 Q) {pc x y w n : Nat} {idx : Nat} {loc : List (Option AV)} {st : List AV} {S : DS} (hdg : decode mi.2.1 pc = .ok (.putfield idx, 3)) (hc : ckF mi.1.cls idx x y w n = true) (hp : ckP mi.1.name mi.1.cls x y w = true)
    (h : ∃ v i r S', st = v :: aR x i :: r ∧ wrF S x i y w v = some S' ∧ k (pc + 3) loc r S') : SB p l e R s m args below meth c D cA A H0 scr b nL c0 Q pc loc st S := by
  obtain ⟨hx, hb, hml, hown, hts, hNW, hnm, hK, hA, hRf, hRl, hcap⟩ := C
  subst hk
  obtain ⟨v, i, r, S', rfl, hw, h⟩ := h
  intro ad H locs cells slots ls hP hD hS hV hsc hl hll hvs hvl hcc hcs
  unfold ckF at hc
  unfold ckP at hp
  split at hc
  · next C T N hq =>
    rw [hq] at hp
    simp only [Bool.and_eq_true, decide_eq_true_eq] at hc
    obtain ⟨h1, h2, h3, h4⟩ := hc
    have hx8 : x < 8 := (List.getElem?_eq_some_iff.mp hq).1
    have hm : (x, i) ∈ S.1 := (fmh (fmt hvs) _ rfl).elim id (fun z => by have := congrArg Prod.fst z.2; simp at this; omega)
    obtain ⟨p0, hp0, he⟩ := wsD_at (cA := cA) (ad := ad) hm
    rw [cellD_obj (by omega)] at he
    have hf := clsF_all hq
    obtain ⟨hf1, hf2, hf3, ty, hf4, hf5⟩ := hf
    simp only [Bool.and_eq_true, Bool.or_eq_true, decide_eq_true_eq] at hp
    obtain ⟨hp1, hp2⟩ := hp
    -- the value fits, and the new state is a set of one cell
    have key : ∃ t : FieldType, parseFieldDescriptor (T y).2.2.1 = some t ∧ narrow t (cv ad v) = cv ad v ∧ fits t (cv ad v) = true ∧ S'.1 = S.1 ∧ VS S' ∧ (∀ F' i', ¬ (F' = x ∧ i' = i) → S'.2.1 F' i' = S.2.1 F' i' ∧ S'.2.2.1 F' i' = S.2.2.1 F' i' ∧ S'.2.2.2 F' i' = S.2.2.2 F' i') ∧ fvT ad S' x i y = cv ad v ∧ ∀ j, j ≠ y → fvT ad S' x i j = fvT ad S x i j := by
      have hne : ∀ {α : Type} {f g : Nat → Nat → α} {F' i' : Nat}, ¬ (F' = x ∧ i' = i) → (if F' = x ∧ i' = i then f F' i' else g F' i') = g F' i' := fun hh => if_neg hh
      match w, v, hw with
      | 0, .inl (.inl u), hw =>
        have e : S' = _ := (Option.some.inj hw).symm
        subst e
        refine ⟨.int, ?_, rfl, rfl, rfl, VS_sI hV x i y u, fun F' i' hh => ⟨if_neg hh, rfl, rfl⟩, ?_, fun j hj => ?_⟩
        · split at hp1 <;> first | assumption | cases hp1
        · unfold fvT
          rw [h3]
          simp [rdF, sI, cv, upd]
        · unfold fvT
          cases hkk : kdT x j with
          | zero => simp [rdF, sI, cv, upd, hj]
          | succ n => cases n <;> rfl
      | 1, .inl (.inr u), hw =>
        have e : S' = _ := (Option.some.inj hw).symm
        subst e
        refine ⟨.long, ?_, rfl, rfl, rfl, VS_sL hV x i y u, fun F' i' hh => ⟨rfl, if_neg hh, rfl⟩, ?_, fun j hj => ?_⟩
        · split at hp1 <;> first | assumption | cases hp1
        · unfold fvT
          rw [h3]
          simp [rdF, sL, cv, vp_updL]
        · unfold fvT
          cases hkk : kdT x j with
          | zero => rfl
          | succ n =>
            cases n with
            | zero => simp [rdF, sL, cv, vp_updL, hj]
            | succ n => rfl
      | n + 2, .inr (some a), hw =>
        have hw' : (bif Nat.beq a.1 n then some (sQ S x i y (some a.2)) else none) = some S' := hw
        cases hb2 : Nat.beq a.1 n with
        | false => rw [hb2] at hw'; cases hw'
        | true =>
          rw [hb2] at hw'
          have ha1 : a.1 = n := Nat.eq_of_beq_eq_true hb2
          have e : S' = _ := (Option.some.inj hw').symm
          subst e
          have hma : a ∈ S.1 := (fmh hvs _ rfl).elim id (fun z => by
            have e9 : a = (900, 0) := z.2
            have hn9 : n = 900 := by rw [← ha1, e9]
            rw [hn9] at h3
            exfalso
            revert h3
            have hy : y < nfT x := by omega
            have : ∀ F < 8, ∀ j < nfT F, kdT F j ≠ 900 + 2 := by decide +kernel
            exact this x hx8 y hy)
          refine ⟨ty y, hf4 y h1, ?_, ?_, rfl, VS_sQ hV (fun n' k' _ g2 g3 => ?_) (fun k' g1 _ => by omega), fun F' i' hh => ⟨rfl, rfl, if_neg hh⟩, ?_, fun j hj => ?_⟩
          · have h9 := hf4 y h1
            rw [h9] at hp1
            split at hp1 <;> first | (cases hp1; done) | (next q9 => cases q9; simp_all [narrow, cv]; done) | (next q9 => have q8 := Option.some.inj q9; rw [q8]; rfl)
          · have h9 := hf4 y h1
            rw [h9] at hp1
            split at hp1 <;> first | (cases hp1; done) | (next q9 => have q8 := Option.some.inj q9; rw [q8]; rfl)
          · rw [h3] at g2
            have hn : n = n' := by omega
            have hk' : a.2 = k' := Option.some.inj g3
            rw [← hn, ← hk', ← ha1]
            exact hma
          · unfold fvT
            rw [h3]
            simp [rdF, sQ, cv, va_up, ha1]
          · unfold fvT
            cases hkk : kdT x j with
            | zero => rfl
            | succ n9 =>
              cases n9 with
              | zero => rfl
              | succ n9 => simp [rdF, sQ, cv, va_up, hj]
    obtain ⟨t, k1, k2, k3, k4, k5, k6, k7, k8⟩ := key
    have hset : (List.map (fvT ad S x i) (List.range (nfT x))).set y (cv ad v) = List.map (fvT ad S' x i) (List.range (nfT x)) := fs_set k7 k8
    have hW := wsD_set (cA := cA) (ad := ad) hD hp0 k4 k6
    rw [cellD_obj (S := S') (by omega)] at hW
    have go : ∀ (H1 : Heap) (locs1 : List Loc), va_P D vwCl ((wsD cA ad S).set p0 (ad x i, .inr (x, (List.map (fvT ad S x i) (List.range (nfT x))).set y (cv ad v)))) H1 → va_D A ((wsD cA ad S).set p0 (ad x i, .inr (x, (List.map (fvT ad S x i) (List.range (nfT x))).set y (cv ad v)))) → va_S A H0 H1 locs1 → W p l e R s m args below meth c H1 locs1 cells slots Q (F0 m (pc + 3) ls (r.map (cv ad))) := by
      intro H1 locs1 hP1 hD1 hS1
      rw [hset, hW] at hP1 hD1
      have hle : ∀ a ∈ S.1, a ∈ S'.1 := fun a ha => by rw [k4]; exact ha
      exact h ad H1 locs1 cells slots ls hP1 hD1 hS1 k5 (by rw [k4]; exact hsc) hl hll (fun v hv => (fmt (fmt hvs) v hv).le hle) (fun i v hv => (hvl i v hv).le hle) (by rw [k4]; exact hcc) (by rw [k4]; exact hcs)
    rcases hp2 with hp2 | ⟨hp2, hp3⟩
    · exact va_put (D := D) (ci := x) (v := cv ad v) (ty := t) (C := C) (T := T) (N := N) (ref := (T y).1) hx hb hts hf1 ty hf4 hf3 hown hK hP hD hS p0 he hq y h1 (hts _ (TG.in (hasW.in h4) rfl)) (fun _ h9 => h9) hp2 k1 k2 k3 (by simp; omega) hdg go
    · by_cases hfin : (T y).2.2.2 = false
      · exact va_put (D := D) (ci := x) (v := cv ad v) (ty := t) (C := C) (T := T) (N := N) (ref := (T y).1) hx hb hts hf1 ty hf4 hf3 hown hK hP hD hS p0 he hq y h1 (hts _ (TG.in (hasW.in h4) rfl)) (fun _ h9 => h9) hfin k1 k2 k3 (by simp; omega) hdg go
      · exact va_putF (D := D) (ci := x) (v := cv ad v) (ty := t) (C := C) (T := T) (N := N) (ref := (T y).1) hx hb hts hf1 ty hf4 hf3 hown hK hP hD hS p0 he hq y h1 (hts _ (TG.in (hasW.in h4) rfl)) (fun _ h9 => h9) (by simpa using hfin) ((hnm hp2).trans hp2) hp3 k1 k2 k3 (by simp; omega) hdg go
  · cases hc
end SIM
