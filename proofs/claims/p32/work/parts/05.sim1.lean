/-! the small machine's worlds as the kit's worlds -/
/-- the tables' words that stay by themselves; the others (calls into nest mates, arrays of references) go along with the world -/
def TG : List Cond := lw_tbl.filter goodWord
theorem TG.in {w : Cond} (h : w ∈ lw_tbl) (hg : goodWord w = true) : w ∈ TG := List.mem_filter.mpr ⟨h, hg⟩
theorem TG.good : GoodIn TG TG := fun w hw => ⟨hw, good_of_word (List.mem_filter.mp hw).2⟩
def NWs (U : State) : Prop := (∀ (a : String) (i : Nat) (y : MethodName) (h : String), Cond.methodLinkNest a i y h ∈ lw_tbl → va_Nw (.methodLinkNest a i y h) U) ∧ ∀ C : String, Cond.arrayOver (.object C) ∈ lw_tbl → va_AO C U
theorem NWs.warm {s U : State} (hW : s.WarmedH U.vm) (h : NWs s) : NWs U := ⟨fun a i y g hw => va_Nw.warmM hW (h.1 a i y g hw), fun C hw => va_AO.moved hW.alike (h.2 C hw)⟩
def wsM (mi : MI) : List Cond := Cond.code mi.1 mi.2.1 mi.2.2.1 mi.2.2.2.1 :: TG
def rmM (mi : MI) : Room := { frames := mi.2.2.2.2.1, cells := mi.2.2.2.2.2.1, slots := mi.2.2.2.2.2.2.1, locals := mi.2.2.2.2.2.2.2.1 }
theorem TG.goodM {mi : MI} (h : Cond.code mi.1 mi.2.1 mi.2.2.1 mi.2.2.2.1 ∈ lw_tbl) : GoodIn TG (wsM mi) := fun w hw => (List.mem_cons.mp hw).elim (fun e => by rw [e]; exact TG.good _ (TG.in h rfl)) (TG.good w)
def TYS (cA : Nat → ClassId) : List (ClassId × FieldType) := [(cA 1, .int), (cA 2, .long), (cA 3, .object "HarbourTugs$Harbour"), (cA 4, .object "HarbourTugs$Ship"), (cA 5, .object "HarbourTugs$Tug")]
def fvT (ad : Nat → Nat → Nat) (S : DS) (F i j : Nat) : Value := cv ad (rdF S F i j (kdT F j))
def arC (ad : Nat → Nat → Nat) (S : DS) (F i : Nat) : (Nat → Int32) ⊕ (Nat → Int64) ⊕ (Nat → UInt32) ⊕ (Nat → UInt64) ⊕ (Nat → Option Nat) :=
  if F / 1000 = 1 then .inl (S.2.1 F i) else if F / 1000 = 2 then .inr (.inl (S.2.2.1 F i)) else .inr (.inr (.inr (.inr (fun j => if j < F % 1000 then (S.2.2.2 F i j).map (ad (arT F)) else none))))
def cellD (cA : Nat → ClassId) (ad : Nat → Nat → Nat) (S : DS) (F i : Nat) : va_E :=
  if F < 1000 then .inr (F, (List.range (nfT F)).map (fvT ad S F i)) else .inl (cA (F / 1000), F % 1000, arC ad S F i)
def wsD (cA : Nat → ClassId) (ad : Nat → Nat → Nat) (S : DS) : va_W := S.1.map (fun q => (ad q.1 q.2, cellD cA ad S q.1 q.2))
theorem wsD_at {cA : Nat → ClassId} {ad : Nat → Nat → Nat} {S : DS} {F i : Nat} (h : (F, i) ∈ S.1) : ∃ p : Nat, S.1[p]? = some (F, i) ∧ (wsD cA ad S)[p]? = some (ad F i, cellD cA ad S F i) := by
  obtain ⟨p, hp⟩ := List.getElem?_of_mem h
  exact ⟨p, hp, by simp [wsD, hp]⟩
/-- references point into the world; cells are numbered -/
def VS (S : DS) : Prop := ∀ q ∈ S.1, (q.1 < 8 ∨ (1000 ≤ q.1 ∧ q.1 < 6000)) ∧ q.2 < cntF S.1 q.1 ∧ (∀ j n k, q.1 < 1000 → kdT q.1 j = n + 2 → S.2.2.2 q.1 q.2 j = some k → (n, k) ∈ S.1) ∧ (∀ j k, 3000 ≤ q.1 → j < q.1 % 1000 → S.2.2.2 q.1 q.2 j = some k → (arT q.1, k) ∈ S.1)
def VA (scr : Prop) (S : DS) (v : AV) : Prop := ∀ a, v = .inr (some a) → a ∈ S.1 ∨ (scr ∧ a = (900, 0))
theorem VA.i {scr : Prop} {S : DS} {x : Int32} : VA scr S (aI x) := fun _ h => by cases h
theorem VA.l {scr : Prop} {S : DS} {x : Int64} : VA scr S (aL x) := fun _ h => by cases h
theorem VA.n {scr : Prop} {S : DS} : VA scr S aN := fun _ h => by cases h
theorem VA.r {scr : Prop} {S : DS} {F i : Nat} (h : (F, i) ∈ S.1) : VA scr S (aR F i) := fun a e => by cases e; exact Or.inl h
theorem VA.le {scr : Prop} {S S' : DS} {v : AV} (h : VA scr S v) (hs : ∀ a ∈ S.1, a ∈ S'.1) : VA scr S' v := fun a e => (h a e).imp (hs a) id
theorem cv_eq {scr : Prop} {S : DS} {v : AV} {ad ad' : Nat → Nat → Nat} (h : VA scr S v) (h1 : ∀ a ∈ S.1, ad' a.1 a.2 = ad a.1 a.2) (h2 : scr → ad' 900 0 = ad 900 0) : cv ad' v = cv ad v := by
  obtain (x | x) | o := v
  · rfl
  · rfl
  · cases o with
    | none => rfl
    | some a =>
      show Value.ref _ = Value.ref _
      rcases h a rfl with h | ⟨h, e⟩
      · rw [h1 a h]
      · rw [e, h2 h]
/-- a cell's picture hangs on its own row, and on the addresses of what it points to -/
theorem cellD_eq {cA : Nat → ClassId} {ad ad' : Nat → Nat → Nat} {S S' : DS} {F i : Nat} (h1 : S'.2.1 F i = S.2.1 F i) (h2 : S'.2.2.1 F i = S.2.2.1 F i) (h3 : S'.2.2.2 F i = S.2.2.2 F i)
    (hf : ∀ j n k, F < 1000 → kdT F j = n + 2 → S.2.2.2 F i j = some k → ad' n k = ad n k) (ha : ∀ j k, 3000 ≤ F → j < F % 1000 → S.2.2.2 F i j = some k → ad' (arT F) k = ad (arT F) k) : cellD cA ad' S' F i = cellD cA ad S F i := by
  unfold cellD
  by_cases hF : F < 1000
  · rw [if_pos hF, if_pos hF]
    congr 2
    refine List.map_congr_left (fun j _ => ?_)
    unfold fvT
    cases hk : kdT F j with
    | zero => simp [rdF, h1, cv]
    | succ n =>
      cases n with
      | zero => simp [rdF, h2, cv]
      | succ n =>
        simp only [rdF, h3]
        cases hq : S.2.2.2 F i j with
        | none => rfl
        | some k =>
          show Value.ref _ = Value.ref _
          rw [hf j n k hF hk hq]
  · rw [if_neg hF, if_neg hF]
    congr 3
    unfold arC
    by_cases e1 : F / 1000 = 1
    · rw [if_pos e1, if_pos e1, h1]
    · rw [if_neg e1, if_neg e1]
      by_cases e2 : F / 1000 = 2
      · rw [if_pos e2, if_pos e2, h2]
      · rw [if_neg e2, if_neg e2, h3]
        congr 4
        funext j
        by_cases hj : j < F % 1000
        · rw [if_pos hj, if_pos hj]
          cases hq : S.2.2.2 F i j with
          | none => rfl
          | some k =>
            show some _ = some _
            rw [ha j k (by omega) hj hq]
        · rw [if_neg hj, if_neg hj]
/-- one cell is written -/
theorem wsD_set {cA : Nat → ClassId} {ad : Nat → Nat → Nat} {S S' : DS} {A : Nat → Prop} {F i p : Nat} (hD : va_D A (wsD cA ad S)) (hp : S.1[p]? = some (F, i)) (h0 : S'.1 = S.1)
    (hr : ∀ F' i', ¬ (F' = F ∧ i' = i) → S'.2.1 F' i' = S.2.1 F' i' ∧ S'.2.2.1 F' i' = S.2.2.1 F' i' ∧ S'.2.2.2 F' i' = S.2.2.2 F' i') : (wsD cA ad S).set p (ad F i, cellD cA ad S' F i) = wsD cA ad S' := by
  have hl : p < S.1.length := (List.getElem?_eq_some_iff.mp hp).1
  refine List.ext_getElem? (fun k => ?_)
  by_cases hk : k = p
  · subst hk
    rw [List.getElem?_set_self (by simpa [wsD] using hl)]
    simp [wsD, h0, hp]
  · rw [List.getElem?_set_ne (Ne.symm hk)]
    simp only [wsD, List.getElem?_map, h0]
    cases hq : S.1[k]? with
    | none => rfl
    | some q =>
      obtain ⟨F', i'⟩ := q
      have hne : ¬ (F' = F ∧ i' = i) := by
        intro hh
        obtain ⟨rfl, rfl⟩ := hh
        have e1 : (wsD cA ad S)[k]? = some (ad F' i', cellD cA ad S F' i') := by simp [wsD, hq]
        have e2 : (wsD cA ad S)[p]? = some (ad F' i', cellD cA ad S F' i') := by simp [wsD, hp]
        exact hk (hD.1 k p _ _ e1 e2 rfl)
      obtain ⟨g1, g2, g3⟩ := hr F' i' hne
      show some (ad F' i', cellD cA ad S F' i') = some (ad F' i', cellD cA ad S' F' i')
      rw [cellD_eq g1 g2 g3 (fun _ _ _ _ _ _ => rfl) (fun _ _ _ _ _ => rfl)]
/-- a cell is new -/
theorem wsD_new {cA : Nat → ClassId} {ad : Nat → Nat → Nat} {S : DS} {F q : Nat} (hV : VS S) :
    wsD cA (fun F' i' => if F' = F ∧ i' = cntF S.1 F then q else ad F' i') (sNew S F (cntF S.1 F)) = wsD cA ad S ++ [(q, cellD cA (fun F' i' => if F' = F ∧ i' = cntF S.1 F then q else ad F' i') (sNew S F (cntF S.1 F)) F (cntF S.1 F))] := by
  have hne : ∀ a ∈ S.1, ¬ (a.1 = F ∧ a.2 = cntF S.1 F) := by
    intro a ha hh
    have h1 := (hV a ha).2.1
    rw [hh.1] at h1
    omega
  simp only [wsD, sNew, List.map_append, List.map_cons, List.map_nil]
  congr 1
  · refine List.map_congr_left (fun a ha => ?_)
    have hn := hne a ha
    rw [if_neg hn]
    congr 1
    refine cellD_eq (by simp only [if_neg hn]) (by simp only [if_neg hn]) (by simp only [if_neg hn]) (fun j n k h1 h2 h3 => ?_) (fun j k h1 h0 h3 => ?_)
    · exact if_neg (hne (n, k) ((hV a ha).2.2.1 j n k h1 h2 h3))
    · exact if_neg (hne (arT a.1, k) ((hV a ha).2.2.2 j k h1 h0 h3))
theorem cntF_new (L : List (Nat × Nat)) (F G i : Nat) : cntF (L ++ [(F, i)]) G = cntF L G + if F = G then 1 else 0 := by
  unfold cntF
  rw [List.filter_append, List.length_append]
  by_cases h : F = G
  · subst h
    simp
  · simp [h]
theorem VS.new {S : DS} {F : Nat} (hV : VS S) (hF : F < 8 ∨ (1000 ≤ F ∧ F < 6000)) : VS (sNew S F (cntF S.1 F)) := by
  have hne : ∀ a ∈ S.1, ¬ (a.1 = F ∧ a.2 = cntF S.1 F) := by
    intro a ha hh
    have h1 := (hV a ha).2.1
    rw [hh.1] at h1
    omega
  intro a ha
  rcases List.mem_append.mp ha with h | h
  · obtain ⟨h1, h2, h3, h4⟩ := hV a h
    have hn := hne a h
    refine ⟨h1, ?_, fun j n k g1 g2 g3 => ?_, fun j k g1 g0 g3 => ?_⟩
    · show a.2 < cntF (S.1 ++ [(F, cntF S.1 F)]) a.1
      rw [cntF_new]
      omega
    · simp only [sNew, if_neg hn] at g3
      exact List.mem_append_left _ (h3 j n k g1 g2 g3)
    · simp only [sNew, if_neg hn] at g3
      exact List.mem_append_left _ (h4 j k g1 g0 g3)
  · rw [List.mem_singleton.mp h]
    refine ⟨hF, ?_, fun j n k g1 g2 g3 => ?_, fun j k g1 g0 g3 => ?_⟩
    · show cntF S.1 F < cntF (S.1 ++ [(F, cntF S.1 F)]) F
      rw [cntF_new]
      simp
    · simp [sNew] at g3
    · simp [sNew] at g3
theorem slz_new (S : DS) (F i : Nat) : slz (sNew S F i).1 = slz S.1 + szF F := by
  simp [slz, sNew]
/-- locals -/
def LV (ad : Nat → Nat → Nat) (ls : Array Slot) (n : Nat) (loc : List (Option AV)) : Prop := ls.size = n ∧ lv_wf ls ∧ ∀ (i : Nat) (v : AV), loc[i]? = some (some v) → ls[i]? = some (.val (cv ad v))
theorem aCat_cv (ad : Nat → Nat → Nat) (v : AV) : (cv ad v).category = aCat v := by
  obtain (x | x) | o := v
  · rfl
  · rfl
  · cases o <;> rfl
theorem aCats_cv (ad : Nat → Nat → Nat) (st : List AV) : ((st.map (cv ad)).map fun v => v.category).sum = aCats st := by
  unfold aCats
  rw [List.map_map]
  congr 2
  funext v
  exact aCat_cv ad v
def lvl (ad : Nat → Nat → Nat) (loc : List (Option AV)) : List (Nat × Value) := (List.range loc.length).filterMap (fun i => (loc.getD i none).map (fun v => (i, cv ad v)))
theorem lvl_mem {ad : Nat → Nat → Nat} {loc : List (Option AV)} {q : Nat × Value} : q ∈ lvl ad loc ↔ ∃ v, loc[q.1]? = some (some v) ∧ q.2 = cv ad v := by
  unfold lvl
  simp only [List.mem_filterMap, List.mem_range, Option.map_eq_some_iff]
  constructor
  · rintro ⟨i, hi, v, hv, rfl⟩
    refine ⟨v, ?_, rfl⟩
    rw [List.getD_eq_getElem?_getD] at hv
    cases hq : loc[i]? with
    | none => rw [hq] at hv; cases hv
    | some o => rw [hq] at hv; simp at hv; rw [hv]
  · rintro ⟨v, hv, hq⟩
    refine ⟨q.1, (List.getElem?_eq_some_iff.mp hv).1, v, ?_, by rw [← hq]⟩
    rw [List.getD_eq_getElem?_getD, hv]
    rfl
theorem LV.has {ad : Nat → Nat → Nat} {ls : Array Slot} {n : Nat} {loc : List (Option AV)} (h : LV ad ls n loc) : lv_has ls n (lvl ad loc) := by
  refine ⟨h.1, h.2.1, fun q hq => ?_⟩
  obtain ⟨v, h1, h2⟩ := lvl_mem.mp hq
  rw [h2]
  exact h.2.2 q.1 v h1
theorem klL_at {loc : List (Option AV)} {i j : Nat} {v : AV} (h : (klL loc i)[j]? = some (some v)) : loc[j]? = some (some v) ∧ ¬ (j + 1 = i ∧ aCat v = 2) := by
  cases i with
  | zero => exact ⟨h, fun q => by omega⟩
  | succ i =>
    by_cases hj : j = i
    · subst hj
      unfold klL at h
      by_cases hl : j < loc.length
      · rw [List.getElem?_set_self hl] at h
        have h2 := Option.some.inj h
        rw [List.getD_eq_getElem?_getD] at h2
        cases hq : loc[j]? with
        | none => rw [hq] at h2; cases h2
        | some o =>
          rw [hq] at h2
          cases o with
          | none => cases h2
          | some u =>
            obtain (x | x) | o := u
            · have : v = _ := (Option.some.inj h2).symm
              subst this
              exact ⟨rfl, fun q => by cases q.2⟩
            · cases h2
            · have : v = _ := (Option.some.inj h2).symm
              subst this
              exact ⟨rfl, fun q => by cases q.2⟩
      · rw [List.getElem?_eq_none (by simpa using hl)] at h
        cases h
    · unfold klL at h
      rw [List.getElem?_set_ne (fun e => hj e.symm)] at h
      exact ⟨h, fun q => hj (by omega)⟩
theorem klL_len (loc : List (Option AV)) (i : Nat) : (klL loc i).length = loc.length := by
  cases i <;> simp [klL]
theorem lst1_at {loc l' : List (Option AV)} {i : Nat} {u : AV} (h : lst1 loc i u = some l') {j : Nat} {v : AV} (hj : l'[j]? = some (some v)) : (j = i ∧ v = u) ∨ (j ≠ i ∧ loc[j]? = some (some v) ∧ ¬ (j + 1 = i ∧ aCat v = 2)) := by
  unfold lst1 at h
  cases hb : Nat.blt i loc.length with
  | false => rw [hb] at h; cases h
  | true =>
    rw [hb] at h
    have hl : i < loc.length := by simpa [Nat.blt_eq] using hb
    have e := Option.some.inj h
    subst e
    by_cases hji : j = i
    · subst hji
      rw [List.getElem?_set_self (by rw [klL_len]; exact hl)] at hj
      exact Or.inl ⟨rfl, (Option.some.inj (Option.some.inj hj)).symm⟩
    · rw [List.getElem?_set_ne (Ne.symm hji)] at hj
      exact Or.inr ⟨hji, klL_at hj⟩
theorem lst1_lt {loc l' : List (Option AV)} {i : Nat} {u : AV} (h : lst1 loc i u = some l') : i < loc.length := by
  unfold lst1 at h
  cases hb : Nat.blt i loc.length with
  | false => rw [hb] at h; cases h
  | true => simpa [Nat.blt_eq] using hb
theorem lst2_lt {loc l' : List (Option AV)} {i : Nat} {u : AV} (h : lst2 loc i u = some l') : i + 1 < loc.length := by
  unfold lst2 at h
  cases hb : Nat.blt (i + 1) loc.length with
  | false => rw [hb] at h; cases h
  | true => simpa [Nat.blt_eq] using hb
theorem lst2_at {loc l' : List (Option AV)} {i : Nat} {u : AV} (h : lst2 loc i u = some l') {j : Nat} {v : AV} (hj : l'[j]? = some (some v)) : (j = i ∧ v = u) ∨ (j ≠ i ∧ j ≠ i + 1 ∧ loc[j]? = some (some v) ∧ ¬ (j + 1 = i ∧ aCat v = 2)) := by
  have hl := lst2_lt h
  unfold lst2 at h
  rw [show Nat.blt (i + 1) loc.length = true by simpa [Nat.blt_eq] using hl] at h
  have e := Option.some.inj h
  subst e
  by_cases hj1 : j = i + 1
  · subst hj1
    rw [List.getElem?_set_self (by simp [klL_len]; exact hl)] at hj
    cases hj
  · rw [List.getElem?_set_ne (Ne.symm hj1)] at hj
    by_cases hji : j = i
    · subst hji
      rw [List.getElem?_set_self (by rw [klL_len]; omega)] at hj
      exact Or.inl ⟨rfl, (Option.some.inj (Option.some.inj hj)).symm⟩
    · rw [List.getElem?_set_ne (Ne.symm hji)] at hj
      exact Or.inr ⟨hji, hj1, klL_at hj⟩
/-- behind a store of one word -/
theorem LV.st1 {ad : Nat → Nat → Nat} {ls' : Array Slot} {n i : Nat} {loc l' : List (Option AV)} {u : AV} (h : lst1 loc i u = some l') (hh : lv_has ls' n ((i, cv ad u) :: (lvl ad loc).filter (fun q => !(q.1 == i) && !(q.1 + 1 == i && q.2.category == 2)))) : LV ad ls' n l' := by
  refine ⟨hh.1, hh.2.1, fun j v hj => ?_⟩
  rcases lst1_at h hj with ⟨rfl, rfl⟩ | ⟨h1, h2, h3⟩
  · exact hh.2.2 _ List.mem_cons_self
  · refine hh.2.2 (j, cv ad v) (List.mem_cons_of_mem _ (List.mem_filter.mpr ⟨lvl_mem.mpr ⟨v, h2, rfl⟩, ?_⟩))
    simp only [aCat_cv]
    simp only [Bool.and_eq_true, Bool.not_eq_true', beq_eq_false_iff_ne, ne_eq, Bool.and_eq_false_iff]
    refine ⟨h1, ?_⟩
    by_cases g : j + 1 = i
    · exact Or.inr (fun q => h3 ⟨g, q⟩)
    · exact Or.inl g
theorem LV.st2 {ad : Nat → Nat → Nat} {ls' : Array Slot} {n i : Nat} {loc l' : List (Option AV)} {u : AV} (h : lst2 loc i u = some l') (hh : lv_has ls' n ((i, cv ad u) :: (lvl ad loc).filter (fun q => !(q.1 == i) && (!(q.1 == i + 1) && !(q.1 + 1 == i && q.2.category == 2))))) : LV ad ls' n l' := by
  refine ⟨hh.1, hh.2.1, fun j v hj => ?_⟩
  rcases lst2_at h hj with ⟨rfl, rfl⟩ | ⟨h1, h1', h2, h3⟩
  · exact hh.2.2 _ List.mem_cons_self
  · refine hh.2.2 (j, cv ad v) (List.mem_cons_of_mem _ (List.mem_filter.mpr ⟨lvl_mem.mpr ⟨v, h2, rfl⟩, ?_⟩))
    simp only [aCat_cv]
    simp only [Bool.and_eq_true, Bool.not_eq_true', beq_eq_false_iff_ne, ne_eq, Bool.and_eq_false_iff]
    refine ⟨h1, h1', ?_⟩
    by_cases g : j + 1 = i
    · exact Or.inr (fun q => h3 ⟨g, q⟩)
    · exact Or.inl g
theorem LV.ad {scr : Prop} {S : DS} {ad ad' : Nat → Nat → Nat} {ls : Array Slot} {n : Nat} {loc : List (Option AV)} (h : LV ad ls n loc) (hv : ∀ (i : Nat) v, loc[i]? = some (some v) → VA scr S v) (h1 : ∀ a ∈ S.1, ad' a.1 a.2 = ad a.1 a.2) (h2 : scr → ad' 900 0 = ad 900 0) : LV ad' ls n loc :=
  ⟨h.1, h.2.1, fun i v hi => by rw [cv_eq (hv i v hi) h1 h2]; exact h.2.2 i v hi⟩
theorem cvs_eq {scr : Prop} {S : DS} {st : List AV} {ad ad' : Nat → Nat → Nat} (h : ∀ v ∈ st, VA scr S v) (h1 : ∀ a ∈ S.1, ad' a.1 a.2 = ad a.1 a.2) (h2 : scr → ad' 900 0 = ad 900 0) : st.map (cv ad') = st.map (cv ad) :=
  List.map_congr_left (fun v hv => cv_eq (h v hv) h1 h2)
/-- the locals at a method's entry -/
theorem locG_at (ad : Nat → Nat → Nat) : ∀ (as : List AV) (k i : Nat) (v : AV), (locG as)[i]? = some (some v) → (k + i, cv ad v) ∈ lv_args k (as.map (cv ad))
  | [], k, i, v, h => by simp [locG] at h
  | u :: as, k, i, v, h => by
    have hc := aCat_cv ad u
    obtain (x | x) | o := u
    · cases i with
      | zero =>
        have e : v = _ := (Option.some.inj (Option.some.inj h)).symm
        subst e
        exact List.mem_cons_self
      | succ i =>
        have h2 := locG_at ad as (k + 1) i v h
        refine List.mem_cons_of_mem _ ?_
        rw [show k + (i + 1) = k + 1 + i by omega]
        exact h2
    · cases i with
      | zero =>
        have e : v = _ := (Option.some.inj (Option.some.inj h)).symm
        subst e
        exact List.mem_cons_self
      | succ i =>
        cases i with
        | zero => cases h
        | succ i =>
          have h2 := locG_at ad as (k + 2) i v h
          refine List.mem_cons_of_mem _ ?_
          rw [show k + (i + 1 + 1) = k + 2 + i by omega]
          exact h2
    · cases i with
      | zero =>
        have e : v = _ := (Option.some.inj (Option.some.inj h)).symm
        subst e
        exact List.mem_cons_self
      | succ i =>
        have h2 := locG_at ad as (k + 1) i v h
        refine List.mem_cons_of_mem _ ?_
        rw [show k + (i + 1) = k + 1 + i by omega]
        have hc1 : (cv ad (.inr o)).category = 1 := hc.trans rfl
        show (k + 1 + i, cv ad v) ∈ lv_args (if (cv ad (.inr o)).category = 2 then k + 2 else k + 1) (as.map (cv ad))
        rw [hc1]
        exact h2
theorem locG_len (ad : Nat → Nat → Nat) : ∀ as : List AV, (lg_sl (as.map (cv ad))).length = (locG as).length
  | [] => rfl
  | u :: as => by
    have ih := locG_len ad as
    have hc := aCat_cv ad u
    obtain (x | x) | o := u
    · show (lg_sl (.int x :: as.map (cv ad))).length = (locG as).length + 1
      rw [← ih]
      simp [lg_sl, Value.category]
    · show (lg_sl (.long x :: as.map (cv ad))).length = (locG as).length + 2
      rw [← ih]
      simp [lg_sl, Value.category]
    · have hc1 : (cv ad (.inr o)).category = 1 := hc.trans rfl
      show (lg_sl (cv ad (.inr o) :: as.map (cv ad))).length = (locG as).length + 1
      rw [← ih]
      simp [lg_sl, hc1]
theorem LV.entry (ad : Nat → Nat → Nat) {n : Nat} {as : List AV} (h : (locG as).length ≤ n) : LV ad ((lg_sl (as.map (cv ad)) ++ List.replicate (n - (lg_sl (as.map (cv ad))).length) Slot.unset).toArray) n (locA n as) := by
  have h1 := lv_entry (as.map (cv ad)) (n := n) (by rw [locG_len]; exact h)
  refine ⟨h1.1, h1.2.1, fun i v hi => ?_⟩
  unfold locA at hi
  by_cases hl : i < (locG as).length
  · rw [List.getElem?_append_left hl] at hi
    have h2 := locG_at ad as 0 i v hi
    rw [Nat.zero_add] at h2
    exact h1.2.2 _ h2
  · rw [List.getElem?_append_right (by omega)] at hi
    have := List.eq_of_mem_replicate (List.mem_of_getElem? hi)
    cases this
