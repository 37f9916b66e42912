theorem lg_self (x : Int64) : lg_cmp x x = 0 := (lg_cmp_eq x x).mpr rfl
theorem ex2 {α β : Type} {X : Option (Int32 × α)} {Y : Int32 × α → Option (Int32 × β)} {v : Int32} (h : (X.bind fun q1 => (Y q1).map fun q2 => (q1.1, q2.1)) = some (v, v)) : ∃ q1 q2, X = some q1 ∧ Y q1 = some q2 ∧ q1.1 = q2.1 := by
  cases X with
  | none => cases h
  | some q1 =>
    have h1 : (Y q1).map (fun q2 => (q1.1, q2.1)) = some (v, v) := h
    cases hy : Y q1 with
    | none => rw [hy] at h1; cases h1
    | some q2 =>
      rw [hy] at h1
      have h2 : (q1.1, q2.1) = (v, v) := Option.some.inj h1
      exact ⟨q1, q2, rfl, hy, (congrArg Prod.fst h2).trans (congrArg Prod.snd h2).symm⟩
theorem ex1 {β : Type} {Y : Option (Int32 × β)} {u v : Int32} (h : (Y.map fun q2 => (u, q2.1)) = some (v, v)) : ∃ q2, Y = some q2 ∧ u = q2.1 := by
  cases Y with
  | none => cases h
  | some q2 =>
    have h2 : (u, q2.1) = (v, v) := Option.some.inj h
    exact ⟨q2, rfl, (congrArg Prod.fst h2).trans (congrArg Prod.snd h2).symm⟩
set_option maxRecDepth 100000 in
set_option maxHeartbeats 4000000 in
theorem law8 (xs : Nat → Int32) (rec18 : Int32 → (Nat → Nat → Nat → Int32) → (Nat → Nat → Nat → Int64) → Option (Bool × GS)) (hrec : ∀ G W, rec18 ((0 : Int32) + 8) G W = some (true, G, W)) : ∃ r, s_L_law_18 8 xs rec18 0 g0 w0 = some r ∧ r.1 = true := by
  have j0 : inR 0 8 = true := by decide
  have j1 : inR ((0 : Int32) + (1 : Int32)) 8 = true := by decide
  have j2 : inR ((0 : Int32) + (2 : Int32)) 8 = true := by decide
  have j3 : inR ((0 : Int32) + (3 : Int32)) 8 = true := by decide
  have j4 : inR ((0 : Int32) + (4 : Int32)) 8 = true := by decide
  have j5 : inR ((0 : Int32) + (5 : Int32)) 8 = true := by decide
  have j6 : inR ((0 : Int32) + (6 : Int32)) 8 = true := by decide
  have j7 : inR ((0 : Int32) + (7 : Int32)) 8 = true := by decide
  unfold s_L_law_18 s_L_law_1235
  rw [if_neg (show ¬ (Int32.ofNat 8 - 8 < 0) by decide), j0, if_pos rfl]
  by_cases h0 : (xs (0 : Int32).toNatClampNeg &&& (31 : Int32)) = 0
  · rw [if_pos h0]
    obtain ⟨q1, q2, e1, e2, e3⟩ := a_tide (xs ((0 : Int32) + 1).toNatClampNeg) (xs ((0 : Int32) + 2).toNatClampNeg)
    simp only [j1, j2, e1, e2, e3, Option.bind_some, ↓reduceIte, hrec]
    exact ⟨_, rfl, rfl⟩
  rw [if_neg h0]
  by_cases h1 : (xs (0 : Int32).toNatClampNeg &&& (31 : Int32)) = 1
  · rw [if_pos h1]
    obtain ⟨q1, q2, e1, e2, e3⟩ := a_wind (xs ((0 : Int32) + 1).toNatClampNeg) (xs ((0 : Int32) + 2).toNatClampNeg)
    simp only [j1, j2, e1, e2, e3, Option.bind_some, ↓reduceIte, hrec]
    exact ⟨_, rfl, rfl⟩
  rw [if_neg h1]
  by_cases h2 : (xs (0 : Int32).toNatClampNeg &&& (31 : Int32)) = 2
  · rw [if_pos h2]
    obtain ⟨q2, e2, e3⟩ := a_rule (xs ((0 : Int32) + 1).toNatClampNeg) (xs ((0 : Int32) + 2).toNatClampNeg)
    simp only [j1, j2, e2, e3, Option.bind_some, ↓reduceIte, hrec]
    exact ⟨_, rfl, rfl⟩
  rw [if_neg h2]
  by_cases h3 : (xs (0 : Int32).toNatClampNeg &&& (31 : Int32)) = 3
  · rw [if_pos h3]
    obtain ⟨q1, q2, e1, e2, e3⟩ := a_berth (xs ((0 : Int32) + 1).toNatClampNeg) (xs ((0 : Int32) + 2).toNatClampNeg) (xs ((0 : Int32) + 3).toNatClampNeg)
    simp only [j1, j2, j3, e1, e2, e3, Option.bind_some, ↓reduceIte, hrec]
    exact ⟨_, rfl, rfl⟩
  rw [if_neg h3]
  by_cases h4 : (xs (0 : Int32).toNatClampNeg &&& (31 : Int32)) = 4
  · rw [if_pos h4]
    obtain ⟨q, e1, e2⟩ := u_way (xs ((0 : Int32) + 1).toNatClampNeg) (xs ((0 : Int32) + 2).toNatClampNeg)
    simp only [j1, j2, e1, e2, Option.bind_some, ↓reduceIte, hrec]
    exact ⟨_, rfl, rfl⟩
  rw [if_neg h4]
  by_cases h5 : (xs (0 : Int32).toNatClampNeg &&& (31 : Int32)) = 5
  · rw [if_pos h5]
    obtain ⟨q1, q2, e1, e2, e3⟩ := a_tug (xs ((0 : Int32) + 1).toNatClampNeg) (xs ((0 : Int32) + 2).toNatClampNeg) (xs ((0 : Int32) + 3).toNatClampNeg) (xs ((0 : Int32) + 4).toNatClampNeg) (xs ((0 : Int32) + 5).toNatClampNeg) (xs ((0 : Int32) + 6).toNatClampNeg) (xs ((0 : Int32) + 7).toNatClampNeg)
    simp only [j1, j2, j3, j4, j5, j6, j7, e1, e2, e3, Option.bind_some, ↓reduceIte, hrec]
    exact ⟨_, rfl, rfl⟩
  rw [if_neg h5]
  by_cases h6 : (xs (0 : Int32).toNatClampNeg &&& (31 : Int32)) = 6
  · rw [if_pos h6]
    obtain ⟨q1, q2, e1, e2, e3⟩ := a_ship (xs ((0 : Int32) + 1).toNatClampNeg) (xs ((0 : Int32) + 2).toNatClampNeg) (xs ((0 : Int32) + 3).toNatClampNeg) (xs ((0 : Int32) + 4).toNatClampNeg) (xs ((0 : Int32) + 5).toNatClampNeg) (xs ((0 : Int32) + 6).toNatClampNeg) (xs ((0 : Int32) + 7).toNatClampNeg)
    simp only [j1, j2, j3, j4, j5, j6, j7, e1, e2, e3, Option.bind_some, ↓reduceIte, hrec]
    exact ⟨_, rfl, rfl⟩
  rw [if_neg h6]
  by_cases h7 : (xs (0 : Int32).toNatClampNeg &&& (31 : Int32)) = 7
  · rw [if_pos h7]
    obtain ⟨e1, e2⟩ := a_needs (xs ((0 : Int32) + 1).toNatClampNeg) (xs ((0 : Int32) + 2).toNatClampNeg)
    simp only [j1, j2, e1, e2, Option.bind_some, lg_self, ↓reduceIte, hrec]
    exact ⟨_, rfl, rfl⟩
  rw [if_neg h7]
  by_cases h8 : (xs (0 : Int32).toNatClampNeg &&& (31 : Int32)) = 8
  · rw [if_pos h8]
    obtain ⟨e1, e2⟩ := a_bunker (xs ((0 : Int32) + 1).toNatClampNeg) (xs ((0 : Int32) + 2).toNatClampNeg)
    simp only [j1, j2, e1, e2, Option.bind_some, lg_self, ↓reduceIte, hrec]
    exact ⟨_, rfl, rfl⟩
  rw [if_neg h8]
  by_cases h9 : (xs (0 : Int32).toNatClampNeg &&& (31 : Int32)) = 9
  · rw [if_pos h9]
    obtain ⟨e1, e2⟩ := a_fuel (xs ((0 : Int32) + 1).toNatClampNeg) (xs ((0 : Int32) + 2).toNatClampNeg)
    simp only [j1, j2, e1, e2, Option.bind_some, lg_self, ↓reduceIte, hrec]
    exact ⟨_, rfl, rfl⟩
  rw [if_neg h9]
  by_cases h10 : (xs (0 : Int32).toNatClampNeg &&& (31 : Int32)) = 10
  · rw [if_pos h10]
    obtain ⟨e1, e2⟩ := a_may (xs ((0 : Int32) + 1).toNatClampNeg) (xs ((0 : Int32) + 2).toNatClampNeg) (xs ((0 : Int32) + 3).toNatClampNeg)
    simp only [j1, j2, j3, e1, e2, Option.bind_some, lg_self, ↓reduceIte, hrec]
    exact ⟨_, rfl, rfl⟩
  rw [if_neg h10]
  by_cases h11 : (xs (0 : Int32).toNatClampNeg &&& (31 : Int32)) = 11
  · rw [if_pos h11]
    obtain ⟨e1, e2⟩ := a_lay (xs ((0 : Int32) + 1).toNatClampNeg) (xs ((0 : Int32) + 2).toNatClampNeg) (xs ((0 : Int32) + 3).toNatClampNeg)
    simp only [j1, j2, j3, e1, e2, Option.bind_some, lg_self, ↓reduceIte, hrec]
    exact ⟨_, rfl, rfl⟩
  rw [if_neg h11]
  by_cases h12 : (xs (0 : Int32).toNatClampNeg &&& (31 : Int32)) = 12
  · rw [if_pos h12]
    obtain ⟨e1, e2⟩ := a_off (xs ((0 : Int32) + 1).toNatClampNeg)
    simp only [j1, e1, e2, Option.bind_some, lg_self, ↓reduceIte, hrec]
    exact ⟨_, rfl, rfl⟩
  rw [if_neg h12]
  by_cases h13 : (xs (0 : Int32).toNatClampNeg &&& (31 : Int32)) = 13
  · rw [if_pos h13]
    obtain ⟨e1, e2⟩ := a_best (xs ((0 : Int32) + 1).toNatClampNeg) (xs ((0 : Int32) + 2).toNatClampNeg)
    simp only [j1, j2, e1, e2, Option.bind_some, lg_self, ↓reduceIte, hrec]
    exact ⟨_, rfl, rfl⟩
  rw [if_neg h13]
  by_cases h14 : (xs (0 : Int32).toNatClampNeg &&& (31 : Int32)) = 14
  · rw [if_pos h14]
    obtain ⟨e1, e2⟩ := a_job (xs ((0 : Int32) + 1).toNatClampNeg) (xs ((0 : Int32) + 2).toNatClampNeg)
    simp only [j1, j2, e1, e2, Option.bind_some, lg_self, ↓reduceIte, hrec]
    exact ⟨_, rfl, rfl⟩
  rw [if_neg h14]
  by_cases h15 : (xs (0 : Int32).toNatClampNeg &&& (31 : Int32)) = 15
  · rw [if_pos h15]
    obtain ⟨e1, e2⟩ := a_order (xs ((0 : Int32) + 1).toNatClampNeg) (xs ((0 : Int32) + 2).toNatClampNeg)
    simp only [j1, j2, e1, e2, Option.bind_some, lg_self, ↓reduceIte, hrec]
    exact ⟨_, rfl, rfl⟩
  rw [if_neg h15]
  by_cases h16 : (xs (0 : Int32).toNatClampNeg &&& (31 : Int32)) = 16
  · rw [if_pos h16]
    obtain ⟨e1, e2⟩ := a_layOrder (xs ((0 : Int32) + 1).toNatClampNeg)
    simp only [j1, e1, e2, Option.bind_some, lg_self, ↓reduceIte, hrec]
    exact ⟨_, rfl, rfl⟩
  rw [if_neg h16]
  by_cases h17 : (xs (0 : Int32).toNatClampNeg &&& (31 : Int32)) = 17
  · rw [if_pos h17]
    obtain ⟨e1, e2⟩ := a_mended (xs ((0 : Int32) + 1).toNatClampNeg) (xs ((0 : Int32) + 2).toNatClampNeg)
    simp only [j1, j2, e1, e2, Option.bind_some, lg_self, ↓reduceIte, hrec]
    exact ⟨_, rfl, rfl⟩
  rw [if_neg h17]
  by_cases h18 : (xs (0 : Int32).toNatClampNeg &&& (31 : Int32)) = 18
  · rw [if_pos h18]
    obtain ⟨e1, e2⟩ := a_layMended (xs ((0 : Int32) + 1).toNatClampNeg)
    simp only [j1, e1, e2, Option.bind_some, lg_self, ↓reduceIte, hrec]
    exact ⟨_, rfl, rfl⟩
  rw [if_neg h18]
  by_cases h19 : (xs (0 : Int32).toNatClampNeg &&& (31 : Int32)) = 19
  · rw [if_pos h19]
    obtain ⟨e1, e2⟩ := a_breaks (xs ((0 : Int32) + 1).toNatClampNeg) (xs ((0 : Int32) + 2).toNatClampNeg)
    simp only [j1, j2, e1, e2, Option.bind_some, lg_self, ↓reduceIte, hrec]
    exact ⟨_, rfl, rfl⟩
  rw [if_neg h19]
  by_cases h20 : (xs (0 : Int32).toNatClampNeg &&& (31 : Int32)) = 20
  · rw [if_pos h20]
    obtain ⟨e1, e2⟩ := a_mend (xs ((0 : Int32) + 1).toNatClampNeg)
    simp only [j1, e1, e2, Option.bind_some, lg_self, ↓reduceIte, hrec]
    exact ⟨_, rfl, rfl⟩
  rw [if_neg h20]
  by_cases h21 : (xs (0 : Int32).toNatClampNeg &&& (31 : Int32)) = 21
  · rw [if_pos h21]
    obtain ⟨q1, q2, e1, e2, e3⟩ := a_storm (xs ((0 : Int32) + 1).toNatClampNeg) (xs ((0 : Int32) + 2).toNatClampNeg)
    simp only [j1, j2, e1, e2, e3, Option.bind_some, ↓reduceIte, hrec]
    exact ⟨_, rfl, rfl⟩
  rw [if_neg h21]
  by_cases h22 : (xs (0 : Int32).toNatClampNeg &&& (31 : Int32)) = 22
  · rw [if_pos h22]
    obtain ⟨q2, e2, e3⟩ := ex1 a_calm
    simp only [e2, e3, Option.bind_some, ↓reduceIte, hrec]
    exact ⟨_, rfl, rfl⟩
  rw [if_neg h22]
  by_cases h23 : (xs (0 : Int32).toNatClampNeg &&& (31 : Int32)) = 23
  · rw [if_pos h23]
    obtain ⟨q1, q2, e1, e2, e3⟩ := a_priceRule (xs ((0 : Int32) + 1).toNatClampNeg) (xs ((0 : Int32) + 2).toNatClampNeg) (xs ((0 : Int32) + 3).toNatClampNeg) (xs ((0 : Int32) + 4).toNatClampNeg)
    simp only [j1, j2, j3, j4, e1, e2, e3, Option.bind_some, ↓reduceIte, hrec]
    exact ⟨_, rfl, rfl⟩
  rw [if_neg h23]
  by_cases h24 : (xs (0 : Int32).toNatClampNeg &&& (31 : Int32)) = 24
  · rw [if_pos h24]
    obtain ⟨e1, e2⟩ := a_price (xs ((0 : Int32) + 1).toNatClampNeg)
    simp only [j1, e1, e2, Option.bind_some, lg_self, ↓reduceIte, hrec]
    exact ⟨_, rfl, rfl⟩
  rw [if_neg h24]
  by_cases h25 : (xs (0 : Int32).toNatClampNeg &&& (31 : Int32)) = 25
  · rw [if_pos h25]
    obtain ⟨q, e1, e2⟩ := u_pool (xs ((0 : Int32) + 1).toNatClampNeg) (xs ((0 : Int32) + 2).toNatClampNeg)
    simp only [j1, j2, e1, e2, Option.bind_some, ↓reduceIte, hrec]
    exact ⟨_, rfl, rfl⟩
  rw [if_neg h25]
  by_cases h26 : (xs (0 : Int32).toNatClampNeg &&& (31 : Int32)) = 26
  · rw [if_pos h26]
    obtain ⟨e1, e2⟩ := a_work (xs ((0 : Int32) + 1).toNatClampNeg) (xs ((0 : Int32) + 2).toNatClampNeg)
    simp only [j1, j2, e1, e2, Option.bind_some, lg_self, ↓reduceIte, hrec]
    exact ⟨_, rfl, rfl⟩
  rw [if_neg h26]
  by_cases h27 : (xs (0 : Int32).toNatClampNeg &&& (31 : Int32)) = 27
  · rw [if_pos h27]
    obtain ⟨e1, e2⟩ := a_about (xs ((0 : Int32) + 1).toNatClampNeg) (xs ((0 : Int32) + 2).toNatClampNeg)
    simp only [j1, j2, e1, e2, Option.bind_some, lg_self, ↓reduceIte, hrec]
    exact ⟨_, rfl, rfl⟩
  rw [if_neg h27]
  by_cases h28 : (xs (0 : Int32).toNatClampNeg &&& (31 : Int32)) = 28
  · rw [if_pos h28]
    obtain ⟨q1, q2, e1, e2, e3⟩ := ex2 a_keep
    simp only [e1, e2, e3, Option.bind_some, ↓reduceIte, hrec]
    exact ⟨_, rfl, rfl⟩
  rw [if_neg h28]
  by_cases h29 : (xs (0 : Int32).toNatClampNeg &&& (31 : Int32)) = 29
  · rw [if_pos h29]
    obtain ⟨q1, q2, e1, e2, e3⟩ := ex2 a_back
    simp only [e1, e2, e3, Option.bind_some, ↓reduceIte, hrec]
    exact ⟨_, rfl, rfl⟩
  rw [if_neg h29]
  by_cases h30 : (xs (0 : Int32).toNatClampNeg &&& (31 : Int32)) = 30
  · rw [if_pos h30]
    obtain ⟨q, e1, e2⟩ := u_count (xs ((0 : Int32) + 1).toNatClampNeg)
    simp only [j1, e1, e2, Option.bind_some, ↓reduceIte, hrec]
    exact ⟨_, rfl, rfl⟩
  rw [if_neg h30]
  rw [hrec]
  exact ⟨_, rfl, rfl⟩
theorem law_pure (L : Nat) (xs : Nat → Int32) (hL : L ≤ 8) : ∃ r, s_L_law_R18 L xs 2 0 g0 w0 = some r ∧ r.1 = true := by
  by_cases h : L = 8
  · subst h
    refine law8 xs (s_L_law_R18 8 xs 1) (fun G W => ?_)
    show s_L_law_18 8 xs (s_L_law_R18 8 xs 0) ((0 : Int32) + 8) G W = _
    unfold s_L_law_18
    rw [if_pos (show (Int32.ofNat 8 - 8) < (0 : Int32) + 8 by decide)]
  · refine ⟨(true, g0, w0), ?_, rfl⟩
    show s_L_law_18 L xs (s_L_law_R18 L xs 1) 0 g0 w0 = _
    have hd : ∀ L : Nat, L < 8 → (Int32.ofNat L - 8) < 0 := by decide
    unfold s_L_law_18
    rw [if_pos (hd L (by omega))]
/-- the law's walk from its entry -/
theorem whole_start {p : Program} {e : Env} {s : State} {m : MethodId} {below : List Frame} {meth : Method} {c : Code} (l : Launch) (hflags : l.flags = flags0) {b L : Nat} {xs : Nat → Int32} (hL : L ≤ 8) (C0 : lw_At p s m meth c b L xs) : W p l e room_1 s m #[Value.ref b] below meth c s.heap [] 0 0 (lw_Z below #[Value.ref b] s) (entryFrame m ([Value.ref b] : List Value).toArray 4) := by
  obtain ⟨r, h1, h2⟩ := law_pure L xs hL
  exact whole_of l C0 (e_L_law_R18 h2 2 h1)
set_option maxHeartbeats 4000000 in
theorem lw_walk (l : Launch) (hflags : l.flags = flags0) (b : Addr) (xs : List Int32) : MetFree l x (headSpec (Jvm.Cond.code x code maxLocals ret :: tables_1) room_1) (lw_P b xs) (fun _ _ _ _ _ => True) lw_Q := by
  refine MetFree.of_bodyS (code := code) (maxLocals := maxLocals) (ret := ret) (by decide) ?_ ?_
  · intro args s m h hn
    obtain ⟨meth, c, h1, h2, h3, h4, h5, h6, -, -⟩ := Cond.code_spec hn (atoms_spec (ws := Jvm.Cond.code x code maxLocals ret :: tables_1) h _ List.mem_cons_self)
    exact ⟨meth, c, h1, h2, h3, h4, h5, h6⟩
  · intro p e s m args below meth c s₁ B hml0 hP _
    obtain ⟨rfl, hx, hbd, hgv⟩ := hP
    obtain ⟨scr, harrAt, hlist, hof, hsmall⟩ := hx
    obtain ⟨hcb, hkn, -, -⟩ := State.arrayAt?_spec harrAt
    have hown : s.vm.findClass R_law = some m.cls := findClass_of_methodNamed B.named
    have hts0 : ∀ c ∈ (Jvm.Cond.code x code maxLocals ret :: tables_1), c.before #[Value.ref b] s = true := atoms_spec (ws := Jvm.Cond.code x code maxLocals ret :: tables_1) B.pre
    have hts : ∀ w ∈ lw_tbl, w.before #[Value.ref b] s = true := k2_hts_sels lw_privs (fun w hw => hts0 w (List.mem_cons_of_mem _ hw)) lw_privs_ok
    have hml : c.maxLocals = 4 := B.maxLocals_eq (hts0 _ List.mem_cons_self)
    have X₀ : Stand p l e room_1 s m #[Value.ref b] below meth c s₁ [] 0 0 := Stand.of_body B
    have hh0 : s₁.heap = s.heap := by rw [B.state]; rfl
    have hsz : scr.slots.size = xs.length := by rw [← Array.length_toList, hlist, List.length_map]
    have hval : ∀ j : Nat, j < xs.length → scr.slots[j]? = some (.int (xs.getD j 0)) := fun j hj => by
      rw [← Array.getElem?_toList, hlist]
      simp [hj]
    have hbl : b < s.heap.size := (Array.getElem?_eq_some_iff.mp hcb).1
    have hX : va_X b xs.length (fun j => xs.getD j 0) s s.heap := ⟨scr, hcb, hof, hkn, hsz, hval⟩
    have K : W p l e room_1 s m #[Value.ref b] below meth c s₁.heap [] 0 0 (lw_Z below #[Value.ref b] s) (entryFrame m ([Value.ref b] : List Value).toArray 4) := by
      rw [hh0]
      exact whole_start l hflags hbd ⟨B.exec, B.bytes, B.returns, hml, hown, hts, hX, hbl, B.notSynchronized, hgv⟩
    obtain ⟨t, a1, o, b1, b2, b3⟩ := K s₁ rfl X₀
    exact ⟨t, o, a1, b1, b2, b3⟩
theorem lw_pre_spec {args : Array Value} {s : State} (h : (Jvm.Cond.and given_1 narrow_1).before args s = true) (hr : rest_1_c.before args s = true) : ∃ (b : Addr) (xs : List Int32), lw_P b xs args s := by
  have hs := flat_of_before _ h
  have hq := flat_of_before _ hr
  have hc : (Cond.count 1).before args s = true := hs _ (by decide +kernel)
  have harr : (Cond.arrayOf (.arg 0) .int).before args s = true := hs _ (by decide +kernel)
  have hle : (Cond.le (.length (.arg 0)) (.int 8)).before args s = true := hs _ (by decide +kernel)
  have hlen : (Cond.isInt (.length (.arg 0))).before args s = true := hq _ (by decide +kernel)
  have hall : (Cond.all (.arg 0) (.isInt (.elem (.arg 0) (.index 0)))).before args s = true := hq _ (by decide +kernel)
  obtain ⟨b, xs, hb, hx⟩ := State.ints_of_pre rfl harr hlen hall
  have hsm : xs.length < 2 ^ 31 := hx.choose_spec.2.2.2
  have hev : (Term.length (.arg 0)).eval args s none [] s = some (.int xs.length.toInt32) := hx.length_eval hb
  have hv := Cond.le_ints hev (show (Term.int 8).eval args s none [] s = some (.int 8) from rfl)
  have hd : xs.length.toInt32 ≤ 8 := by
    simpa [Cond.before, Cond.holds, hv] using hle
  have hN : xs.length ≤ 8 := (Int32.ofNat_le_ofNat hsm (by decide)).mp (show Int32.ofNat xs.length ≤ Int32.ofNat 8 from hd)
  exact ⟨b, xs, Cond.one_arg hc (show args[0]? = some (.ref b) from hb), hx, hN, h⟩
theorem lw_comes (l : Launch) (hflags : l.flags = flags0) : Comes l x (Jvm.Cond.code x code maxLocals ret :: tables_1) room_1 (fun tb e args s => Calls_1 tb e args s ∧ rest_1 tb e args s ∧ Pre_1 tb e args s)
    (fun _ _ args s o t => lw_Q args s o t) := by
  intro p e ha hc hk s m args below hf hfit hheap happ hpre
  obtain ⟨b, xs, hP⟩ := lw_pre_spec hpre.2.2 hpre.2.1
  obtain ⟨k, o, h1, h2, h3, hQ⟩ := lw_walk l hflags b xs p e ha hc hk s m args below hf ((Spec.applies_iff_loose hf).mp happ).1 hP trivial
  exact ⟨k, o, h1, h2, h3, hQ⟩
theorem lw_frame {s t : State} {o : Outcome} {args : Array Value} (h : Framed s o t [] 600000 7302250) :
    Framed s o t (fieldLocs frame_1_writes args s ++ arrayLocs frame_1_arrays args s ++ staticLocs frame_1_statics s) 600000 7302250 := h
theorem lw_limb (L : Cond) (hL : ∀ (args : Array Value) (s t : State), L.after args s (.returned (some (.int 1))) t = true) :
    ArmFor flags0 classFile x code maxLocals ret World_1 tables_1 room_1 Calls_1 rest_1 Pre_1
      (fun tb e a s o t => postC L tb e a s o t ∧ Framed s o t (fieldLocs frame_1_writes a s ++ arrayLocs frame_1_arrays a s ++ staticLocs frame_1_statics s) 600000 7302250) := by
  intro l hflags _ _ p e ha hc hk s m args below hf hfit hheap happ hpre
  obtain ⟨k, o, h1, h2, h3, rfl, hF⟩ := lw_comes l hflags p e ha hc hk s m args below hf hfit hheap happ hpre
  exact ⟨k, _, h1, h2, h3, hL args s _, lw_frame hF⟩
theorem i_vc : Claimed_1_1 ∧ Claimed_1_2 := ⟨lw_limb limb_1_1 (fun args s t => by simp [limb_1_1, Cond.after, Cond.holds, Cond.value]), lw_limb limb_1_2 (fun args s t => Cond.after_iff.mpr (by
  first | (rw [show limb_1_2 = Cond.eq .result (.int 1) from rfl, Cond.eq_ints (x := 1) (y := 1) rfl rfl]; simp; done) | (simp [limb_1_2, Cond.value, Term.eval]; done)))⟩
