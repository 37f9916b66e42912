/-! THE CLAIM OUT OF ONE WALK OF THE LAW'S BODY. Your part is whole_start (and what it stands on); all else here is the same for every law, but numbers. -/
def R_law : String := "HarbourTugsLaw"
def lw_P (b : Addr) (xs : List Int32) (args : Array Value) (s : State) : Prop := args = #[.ref b] ∧ s.IntsAt b xs ∧ xs.length ≤ 4096 ∧ (Jvm.Cond.and given_1 narrow_1).before args s = true
def lw_Q (_ : Array Value) (s : State) (o : Outcome) (t : State) : Prop := o = .returned (some (.int 1)) ∧ Framed s o t [] 600000 7302250
def lw_Z (below : List Frame) (a : Array Value) (s : State) : State → Prop := fun t => ∃ o, t.status = .running ∧ Ended t below o ∧ lw_Q a s o t
/-- the law's own end, with 1 on the stack, nothing written that was there before, its room as the claim has it -/
theorem lw_ret {p : Program} {l : Launch} {e : Env} {s : State} {m : MethodId} {below : List Frame} {meth : Method} {c : Code} {b : Nat} (hx : p.tables.exec = Jvm.exec) (hb : c.code = code) (hr : meth.sig.returnType = ret) (hlocks : meth.locks = false) {pc : Nat} {H : Heap} {ls : Array Slot} (hdg : decode code pc = .ok (.ireturn, 1)) : W p l e room_1 s m #[Value.ref b] below meth c H [] 600000 7302250 (lw_Z below #[Value.ref b] s) (F0 m pc ls [.int 1]) := by
  intro T hT X
  obtain ⟨fs, hret, hrun, hended, hW, hframe⟩ := X.leave (v := some (.int 1)) (hlocks := hlocks) (fun h => by rw [hr] at h; cases h)
  have hmeth' : T.vm.method? m = some meth := X.method'
  refine ⟨T.setFrames fs, ?_, .returned (some (.int 1)), hrun, hended, rfl, ⟨_, rfl⟩, hW, hframe⟩
  jvm_step X.here [X.here.top, hx, hb, hdg, hmeth', hr, ret, narrow_b1]
  (try refine ⟨rfl, ?_⟩); (try refine ⟨rfl, ?_⟩)
  first | (intro acts; rw [hret _ acts rfl rfl rfl]) | rw [hret _ _ rfl rfl rfl]
  exact Steps.refl _
/-- what holds at the law's entry: the machine, the code, the tables' words (any of lw_tbl by 'hts w (by decide +kernel)'), the script of L ints xs at the cell b, what the Statement gives of the start (any of its parts by flat_of_before) -/
def lw_At (p : Program) (s : State) (m : MethodId) (meth : Method) (c : Code) (b L : Nat) (xs : Nat → Int32) : Prop :=
  p.tables.exec = Jvm.exec ∧ c.code = code ∧ meth.sig.returnType = ret ∧ c.maxLocals = 4 ∧ s.vm.findClass R_law = some m.cls ∧ (∀ w ∈ lw_tbl, w.before #[Value.ref b] s = true) ∧ va_X b L xs s s.heap ∧ b < s.heap.size ∧ meth.locks = false ∧ (Jvm.Cond.and given_1 narrow_1).before #[Value.ref b] s = true
-- ===== YOUR PART BEGINS =====
set_option maxRecDepth 100000 in
theorem mem_tbl (n : Nat) {w : Cond} (h : wAt n = some w) : w ∈ lw_tbl := wAt.in h
/-- the law's walk, out of a run of the small machine -/
theorem whole_of {p : Program} {e : Env} {s : State} {m : MethodId} {below : List Frame} {meth : Method} {c : Code} (l : Launch) {b L : Nat} {xs : Nat → Int32} (C0 : lw_At p s m meth c b L xs) (hev : Ev (EvM mth 12) mth (600000, 7302250) (L, xs) (fun v S' => v = some (aI 1) ∧ S'.1.length ≤ 600000 ∧ slz S'.1 ≤ 7302250) (lkp inL.2.2.2.2.2.2.2.2) 18 lawloc [] S0) : W p l e room_1 s m #[Value.ref b] below meth c s.heap [] 0 0 (lw_Z below #[Value.ref b] s) (entryFrame m ([Value.ref b] : List Value).toArray 4) := by
  obtain ⟨hx, hb, hr, hml, hown, htsl, hX, hbl, hlocks, hgv⟩ := id C0
  have hA : ∀ q : Nat, s.heap.size ≤ q → (fun q : Nat => s.heap.size ≤ q) q := fun _ h => h
  have hbA : ¬ (fun q : Nat => s.heap.size ≤ q) b := Nat.not_le.mpr hbl
  have hts : ∀ w ∈ TG, w.before #[Value.ref b] s = true := fun w hw => htsl w (List.mem_filter.mp hw).1
  have hNW : NWs s := ⟨fun a i y h hw => va_Nw.of rfl (htsl _ hw), fun C hw => va_AO.of (htsl _ hw)⟩
  have hcl : ∀ k : Nat, ∃ (cC : ClassId) (iS : Nat → Nat), ∀ q : vw_C, vwCl[k]? = some q → u_Kn s q.1 q.2.1 q.2.2 cC iS := by
    intro k
    cases hq : vwCl[k]? with
    | none => exact ⟨0, fun _ => 0, fun q h => by cases h⟩
    | some q =>
      obtain ⟨hf1, hf2, -⟩ := clsF_all hq
      have hk8 : k < 8 := (List.getElem?_eq_some_iff.mp hq).1
      have hin : ∃ n, Cond.instantiable q.1 n ∈ lw_tbl := by
        match k, hq with
        | 0, hq => cases hq; exact ⟨2, wAt.in (n := 10022) (by decide +kernel)⟩
        | 1, hq => cases hq; exact ⟨16, wAt.in (n := 10038) (by decide +kernel)⟩
        | 2, hq => cases hq; exact ⟨7, wAt.in (n := 10215) (by decide +kernel)⟩
        | 3, hq => cases hq; exact ⟨5, wAt.in (n := 20010) (by decide +kernel)⟩
        | 4, hq => cases hq; exact ⟨9, wAt.in (n := 10099) (by decide +kernel)⟩
        | 5, hq => cases hq; exact ⟨10, wAt.in (n := 10047) (by decide +kernel)⟩
        | 6, hq => cases hq; exact ⟨6, wAt.in (n := 10014) (by decide +kernel)⟩
        | 7, hq => cases hq; exact ⟨18, wAt.in (n := 40048) (by decide +kernel)⟩
        | k + 8, hq => omega
      obtain ⟨n, hn⟩ := hin
      obtain ⟨cC, iS, hKn⟩ := u_known (C := q.1) (T := q.2.1) (N := q.2.2) (n := n) hts hf1 (htsl _ hn)
      exact ⟨cC, iS, fun q' h => by cases h; exact hKn⟩
  obtain ⟨dC, hdC⟩ := Classical.axiomOfChoice hcl
  obtain ⟨dI, hdI⟩ := Classical.axiomOfChoice hdC
  have arrP : ∀ ty : FieldType, (∀ C, ty ≠ .object C) → Cond.arrayClass ty ∈ lw_tbl → ∃ cA : ClassId, ArrOfT s cA ty ∧ va_RA s cA ty := by
    intro ty hty hw
    obtain ⟨cA, kA, comp, h1, h2, h3⟩ := Cond.arrayClass_spec (htsl _ hw)
    refine ⟨cA, fun n z => ⟨fun k h => (by cases h), kA, h2, comp, h3⟩, ?_⟩
    cases ty with
    | object C => exact absurd rfl (hty C)
    | _ => exact h1
  have arrR : ∀ C : String, Cond.arrayOver (.object C) ∈ lw_tbl → ∃ cA : ClassId, ArrOfT s cA (.object C) ∧ va_RA s cA (.object C) := by
    intro C hw
    obtain ⟨comp, cA, kA, h1, h2, h3, h4, h5⟩ := Cond.arrayOver_spec (htsl _ hw)
    exact ⟨cA, fun n z => ⟨fun k h => (by cases h), kA, h3, comp, h4⟩, kA, comp, h3, h4, h1, h5⟩
  obtain ⟨c1, hc1⟩ := arrP .int (fun C h => by cases h) (wAt.in (n := 10036) (by decide +kernel))
  obtain ⟨c2, hc2⟩ := arrP .long (fun C h => by cases h) (wAt.in (n := 40111) (by decide +kernel))
  obtain ⟨c3, hc3⟩ := arrR "HarbourTugs$Harbour" (wAt.in (n := 20032) (by decide +kernel))
  obtain ⟨c4, hc4⟩ := arrR "HarbourTugs$Ship" (wAt.in (n := 10046) (by decide +kernel))
  obtain ⟨c5, hc5⟩ := arrR "HarbourTugs$Tug" (wAt.in (n := 10044) (by decide +kernel))
  have hK : va_K (dC, dI) vwCl (TYS (fun k => if k = 1 then c1 else if k = 2 then c2 else if k = 3 then c3 else if k = 4 then c4 else c5)) s := by
    refine ⟨fun k q hq => hdI k q hq, fun k q hq => ?_⟩
    match k, hq with
    | 0, hq => cases hq; exact hc1
    | 1, hq => cases hq; exact hc2
    | 2, hq => cases hq; exact hc3
    | 3, hq => cases hq; exact hc4
    | 4, hq => cases hq; exact hc5
    | k + 5, hq => simp [TYS] at hq
  have CC : CX p s m #[Value.ref b] meth c room_1 (dC, dI) (fun k => if k = 1 then c1 else if k = 2 then c2 else if k = 3 then c3 else if k = 4 then c4 else c5) (fun q : Nat => s.heap.size ≤ q) s.heap (0, 0) (600000, 7302250) inL := ⟨hx, hb, hml, hown, hts, hNW, fun h => absurd h (by decide +kernel), hK, hA, rfl, rfl, rfl⟩
  have hret9 : ∀ (v : Option AV) (S : DS) (pc : Nat) (ad : Nat → Nat → Nat) (H : Heap) (locs : List Loc) (cells slots : Nat) (ls : Array Slot), decode inL.2.1 pc = .ok (rIns v, 1) → (v = some (aI 1) ∧ S.1.length ≤ 600000 ∧ slz S.1 ≤ 7302250) → va_P (dC, dI) vwCl (wsD (fun k => if k = 1 then c1 else if k = 2 then c2 else if k = 3 then c3 else if k = 4 then c4 else c5) ad S) H → va_D (fun q : Nat => s.heap.size ≤ q) (wsD (fun k => if k = 1 then c1 else if k = 2 then c2 else if k = 3 then c3 else if k = 4 then c4 else c5) ad S) → va_S (fun q : Nat => s.heap.size ≤ q) s.heap H locs → VS S → SCI True (b, [], fun _ _ => b) ad S.1 → (∀ x, v = some x → VA True S x) → cells + (0, 0).1 = S.1.length → slots + (0, 0).2 = slz S.1 → W p l e room_1 s m #[Value.ref b] below meth c H locs cells slots (lw_Z below #[Value.ref b] s) (F0 m pc ls (v.toList.map (cv ad))) := by
    intro v S' pc ad' H locs cells slots ls hdg hv hP1 hD1 hS1 hV1 hsc hvv hcc hcs
    obtain ⟨hv, g1, g2⟩ := hv
    subst hv
    refine va_forget (fun q hq => hS1.2.2 q hq) ?_
    have e1 : cells + 0 = S'.1.length := hcc
    have e2 : slots + 0 = slz S'.1 := hcs
    exact W.widen (k := 600000) (n := 7302250) (by omega) (by omega) (lw_ret hx hb hr hlocks hdg)

  have hstep := sim_step (l := l) (e := e) (below := below) (scr := True) (b := (b, [], fun _ _ => b)) (Q := lw_Z below #[Value.ref b] s) CC (Ctr_all l _ _ cw_all ck_all pl_all rt_all 12) cw_all ckL (sc := (L, xs)) (fun _ => ⟨hX, hbl, hbA⟩) (ret := fun v S' => v = some (aI 1) ∧ S'.1.length ≤ 600000 ∧ slz S'.1 ≤ 7302250) hret9
  have hS0 : SB p l e room_1 s m #[Value.ref b] below meth c (dC, dI) (fun k => if k = 1 then c1 else if k = 2 then c2 else if k = 3 then c3 else if k = 4 then c4 else c5) (fun q : Nat => s.heap.size ≤ q) s.heap True (b, [], fun _ _ => b) inL.2.2.1 (0, 0) (lw_Z below #[Value.ref b] s) 18 lawloc [] S0 := hev _ hstep
  have hSA : SB p l e room_1 s m #[Value.ref b] below meth c (dC, dI) (fun k => if k = 1 then c1 else if k = 2 then c2 else if k = 3 then c3 else if k = 4 then c4 else c5) (fun q : Nat => s.heap.size ≤ q) s.heap True (b, [], fun _ _ => b) inL.2.2.1 (0, 0) (lw_Z below #[Value.ref b] s) 18 lawloc [] SA := SB_eq (show L0 = SA.1 from SA_L.symm) (VSb.ok S0_VSb) SA_eq hS0
  have hSAL : SAL = some (lawloc, SA) := by
    cases hq : SAL with
    | none => have h9 := SAL_ok; rw [hq] at h9; cases h9
    | some q =>
      have e1 : q.1 = lawloc := by have h9 := SAL_1; rw [hq] at h9; exact h9
      have e2 : q.2 = SA := by unfold SA; rw [hq]; rfl
      rw [← e1, ← e2]
  have h1 := xB.ok hstep (fun x as S S' h => xM.ok x as S S' h) _ _ _ _ _ _ _ (show xB (xM 12) (600000, 7302250) (lkp inL.2.2.2.2.2.2.2.2) 18 100 0 (locA 4 [aR 900 0]) [] S00 = some (lawloc, SA) from hSAL) (fun _ => hSA) (fun h9 => absurd h9 (by decide))
  rw [lg_entry_eq]
  exact h1 (fun _ _ => b) s.heap [] 0 0 _ (fun k q h => by simp [wsD, S00] at h) ⟨fun i j p q h => by simp [wsD, S00] at h, fun k q h => by simp [wsD, S00] at h⟩ va_S.rf (fun q hq => by simp [S00] at hq) ⟨fun _ => rfl, ⟨[], rfl⟩, fun _ _ => rfl, rfl⟩ (LV.entry (fun _ _ => b) (as := [aR 900 0]) (by decide)) rfl (fun v hv => by cases hv) (fun i v hi => by
      unfold locA at hi
      by_cases hl9 : i < (locG [aR 900 0]).length
      · rw [List.getElem?_append_left hl9] at hi
        exact locG_va (S := S00) (P := fun S v => VA True S v) (fun v hv => by rw [List.mem_singleton.mp hv]; exact fun a e => by cases e; exact Or.inr ⟨trivial, rfl⟩) i v hi
      · rw [List.getElem?_append_right (by omega)] at hi
        have := List.eq_of_mem_replicate (List.mem_of_getElem? hi)
        cases this) rfl rfl
