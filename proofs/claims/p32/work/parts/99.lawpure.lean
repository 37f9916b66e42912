/-! the law's function answers true; the law's walk from its entry -/
theorem lg_self (x : Int64) : lg_cmp x x = 0 := (lg_cmp_eq x x).mpr rfl
theorem law_k {L k : Nat} (hL : L ≤ 4096) (hk : k ≤ 4104) (h : ¬ (Int32.ofNat L) - (8 : Int32) < I k) : k + 8 ≤ L := by
  have e8 : (8 : Int32).toInt = 8 := rfl
  have eL : (Int32.ofNat L).toInt = L := I_toInt (k := L) (by omega)
  rw [Int32.lt_iff_toInt_lt, sub_toInt (by omega) (by omega), eL, e8, I_toInt (by omega)] at h
  omega
set_option maxHeartbeats 4000000 in
set_option maxRecDepth 100000 in
theorem law_18 {L : Nat} {xs : Nat → Int32} (hL : L ≤ 4096) : ∀ (n k : Nat) (g : Nat → Nat → Nat → Int32) (w : Nat → Nat → Nat → Int64), REL g w → k ≤ 4104 → 5000 - k < n → Ok (s_L_law_R18 L xs n (I k) g w) (fun r => r.1 = true) := by
  intro n
  induction n with
  | zero => intro k g w _ h1 hm; omega
  | succ n ih =>
    intro k g w hS h1 hm
    show Ok (s_L_law_18 L xs (s_L_law_R18 L xs n) (I k) g w) _
    unfold s_L_law_18
    refine ok_ite (fun _ => ok_some rfl) (fun hc => ?_)
    have hk := law_k hL h1 hc
    have ih2 : ∀ (g : Nat → Nat → Nat → Int32) (w : Nat → Nat → Nat → Int64), REL g w → Ok (s_L_law_1233 L xs (s_L_law_R18 L xs n) (I k) g w) (fun r => r.1 = true) := by
      intro g w hS
      unfold s_L_law_1233
      rw [show I k + 8 = I (k + 8) from I_add k 8]
      exact ih (k + 8) g w hS (by omega) (by omega)
    have j0 : inR (I k) L = true := inR_I (by omega) (by omega)
    have j1 : inR (I k + (1 : Int32)) L = true := (congrArg (fun z => inR z L) (I_add k 1)).trans (inR_I (by omega) (by omega))
    have j2 : inR (I k + (2 : Int32)) L = true := (congrArg (fun z => inR z L) (I_add k 2)).trans (inR_I (by omega) (by omega))
    have j3 : inR (I k + (3 : Int32)) L = true := (congrArg (fun z => inR z L) (I_add k 3)).trans (inR_I (by omega) (by omega))
    have j4 : inR (I k + (4 : Int32)) L = true := (congrArg (fun z => inR z L) (I_add k 4)).trans (inR_I (by omega) (by omega))
    have j5 : inR (I k + (5 : Int32)) L = true := (congrArg (fun z => inR z L) (I_add k 5)).trans (inR_I (by omega) (by omega))
    have j6 : inR (I k + (6 : Int32)) L = true := (congrArg (fun z => inR z L) (I_add k 6)).trans (inR_I (by omega) (by omega))
    have j7 : inR (I k + (7 : Int32)) L = true := (congrArg (fun z => inR z L) (I_add k 7)).trans (inR_I (by omega) (by omega))
    refine ok_gd j0 ?_
    refine ok_ite (fun _ => ?_) (fun _ => ?_)
    · refine ok_gd (j1) ?_
      refine ok_gd (j2) ?_
      refine ok_bind (re_tide hS) ?_
      rintro q1 h1
      refine ok_gd (j1) ?_
      refine ok_gd (j2) ?_
      refine ok_bind (h1) ?_
      rintro q2 h2
      exact ih2 _ _ h2.1
    refine ok_ite (fun _ => ?_) (fun _ => ?_)
    · refine ok_gd (j1) ?_
      refine ok_gd (j2) ?_
      refine ok_bind (re_wind hS) ?_
      rintro q3 h3
      refine ok_gd (j1) ?_
      refine ok_gd (j2) ?_
      refine ok_bind (h3) ?_
      rintro q4 h4
      exact ih2 _ _ h4.1
    refine ok_ite (fun _ => ?_) (fun _ => ?_)
    · refine ok_gd (j1) ?_
      refine ok_gd (j2) ?_
      refine ok_gd (j1) ?_
      refine ok_gd (j2) ?_
      refine ok_bind (re_rule hS) ?_
      rintro q5 h5
      exact ih2 _ _ h5.1
    refine ok_ite (fun _ => ?_) (fun _ => ?_)
    · refine ok_gd (j1) ?_
      refine ok_gd (j2) ?_
      refine ok_gd (j3) ?_
      refine ok_bind (re_berth hS) ?_
      rintro q6 h6
      refine ok_gd (j1) ?_
      refine ok_gd (j2) ?_
      refine ok_gd (j3) ?_
      refine ok_bind (h6) ?_
      rintro q7 h7
      exact ih2 _ _ h7.1
    refine ok_ite (fun _ => ?_) (fun _ => ?_)
    · refine ok_gd (j1) ?_
      refine ok_gd (j2) ?_
      refine ok_bind (re_way hS) ?_
      rintro q8 h8
      refine ok_gd (j1) ?_
      refine ok_gd (j2) ?_
      refine ok_bind (h8) ?_
      rintro q9 h9
      exact ih2 _ _ hS
    refine ok_ite (fun _ => ?_) (fun _ => ?_)
    · refine ok_gd (j1) ?_
      refine ok_gd (j2) ?_
      refine ok_gd (j3) ?_
      refine ok_gd (j4) ?_
      refine ok_gd (j5) ?_
      refine ok_gd (j6) ?_
      refine ok_gd (j7) ?_
      refine ok_bind (re_tug hS) ?_
      rintro q10 h10
      refine ok_gd (j1) ?_
      refine ok_gd (j2) ?_
      refine ok_gd (j3) ?_
      refine ok_gd (j4) ?_
      refine ok_gd (j5) ?_
      refine ok_gd (j6) ?_
      refine ok_gd (j7) ?_
      refine ok_bind (h10) ?_
      rintro q11 h11
      exact ih2 _ _ h11.1
    refine ok_ite (fun _ => ?_) (fun _ => ?_)
    · refine ok_gd (j1) ?_
      refine ok_gd (j2) ?_
      refine ok_gd (j3) ?_
      refine ok_gd (j4) ?_
      refine ok_gd (j5) ?_
      refine ok_gd (j6) ?_
      refine ok_gd (j7) ?_
      refine ok_bind (re_ship hS) ?_
      rintro q12 h12
      refine ok_gd (j1) ?_
      refine ok_gd (j2) ?_
      refine ok_gd (j3) ?_
      refine ok_gd (j4) ?_
      refine ok_gd (j5) ?_
      refine ok_gd (j6) ?_
      refine ok_gd (j7) ?_
      refine ok_bind (h12) ?_
      rintro q13 h13
      exact ih2 _ _ h13.1
    refine ok_ite (fun _ => ?_) (fun _ => ?_)
    · refine ok_gd (j1) ?_
      refine ok_gd (j2) ?_
      refine ok_bind (re_needs hS) ?_
      rintro q14 h14
      refine ok_gd (j1) ?_
      refine ok_gd (j2) ?_
      refine ok_bind (h14) ?_
      rintro q15 h15
      exact ih2 _ _ hS
    refine ok_ite (fun _ => ?_) (fun _ => ?_)
    · refine ok_gd (j1) ?_
      refine ok_gd (j2) ?_
      refine ok_bind (re_bunker hS) ?_
      rintro q16 h16
      refine ok_gd (j1) ?_
      refine ok_gd (j2) ?_
      refine ok_bind (h16) ?_
      rintro q17 h17
      exact ih2 _ _ h17
    refine ok_ite (fun _ => ?_) (fun _ => ?_)
    · refine ok_gd (j1) ?_
      refine ok_gd (j2) ?_
      refine ok_bind (re_fuel hS) ?_
      rintro q18 h18
      refine ok_gd (j1) ?_
      refine ok_gd (j2) ?_
      refine ok_bind (h18) ?_
      rintro q19 h19
      exact ih2 _ _ hS
    refine ok_ite (fun _ => ?_) (fun _ => ?_)
    · refine ok_gd (j1) ?_
      refine ok_gd (j2) ?_
      refine ok_gd (j3) ?_
      refine ok_bind (re_may hS) ?_
      rintro q20 h20
      refine ok_gd (j1) ?_
      refine ok_gd (j2) ?_
      refine ok_gd (j3) ?_
      refine ok_bind (h20) ?_
      rintro q21 h21
      exact ih2 _ _ hS
    refine ok_ite (fun _ => ?_) (fun _ => ?_)
    · refine ok_gd (j1) ?_
      refine ok_gd (j2) ?_
      refine ok_gd (j3) ?_
      refine ok_bind (re_lay hS) ?_
      rintro q22 h22
      refine ok_gd (j1) ?_
      refine ok_gd (j2) ?_
      refine ok_gd (j3) ?_
      refine ok_bind (h22) ?_
      rintro q23 h23
      exact ih2 _ _ h23.1
    refine ok_ite (fun _ => ?_) (fun _ => ?_)
    · refine ok_gd (j1) ?_
      refine ok_bind (re_off hS) ?_
      rintro q24 h24
      refine ok_gd (j1) ?_
      refine ok_bind (h24) ?_
      rintro q25 h25
      exact ih2 _ _ h25.1
    refine ok_ite (fun _ => ?_) (fun _ => ?_)
    · refine ok_gd (j1) ?_
      refine ok_gd (j2) ?_
      refine ok_bind (re_best hS) ?_
      rintro q26 h26
      refine ok_gd (j1) ?_
      refine ok_gd (j2) ?_
      refine ok_bind (h26) ?_
      rintro q27 h27
      exact ih2 _ _ h27.1
    refine ok_ite (fun _ => ?_) (fun _ => ?_)
    · refine ok_gd (j1) ?_
      refine ok_gd (j2) ?_
      refine ok_bind (re_job hS) ?_
      rintro q28 h28
      refine ok_gd (j1) ?_
      refine ok_gd (j2) ?_
      refine ok_bind (h28) ?_
      rintro q29 h29
      exact ih2 _ _ hS
    refine ok_ite (fun _ => ?_) (fun _ => ?_)
    · refine ok_gd (j1) ?_
      refine ok_gd (j2) ?_
      refine ok_bind (re_order hS) ?_
      rintro q30 h30
      refine ok_gd (j1) ?_
      refine ok_gd (j2) ?_
      refine ok_bind (h30) ?_
      rintro q31 h31
      exact ih2 _ _ h31
    refine ok_ite (fun _ => ?_) (fun _ => ?_)
    · refine ok_gd (j1) ?_
      refine ok_bind (re_layOrder hS) ?_
      rintro q32 h32
      refine ok_gd (j1) ?_
      refine ok_bind (h32) ?_
      rintro q33 h33
      exact ih2 _ _ h33.1
    refine ok_ite (fun _ => ?_) (fun _ => ?_)
    · refine ok_gd (j1) ?_
      refine ok_gd (j2) ?_
      refine ok_bind (re_mended hS) ?_
      rintro q34 h34
      refine ok_gd (j1) ?_
      refine ok_gd (j2) ?_
      refine ok_bind (h34) ?_
      rintro q35 h35
      exact ih2 _ _ h35.1
    refine ok_ite (fun _ => ?_) (fun _ => ?_)
    · refine ok_gd (j1) ?_
      refine ok_bind (re_layMended hS) ?_
      rintro q36 h36
      refine ok_gd (j1) ?_
      refine ok_bind (h36) ?_
      rintro q37 h37
      exact ih2 _ _ h37.1
    refine ok_ite (fun _ => ?_) (fun _ => ?_)
    · refine ok_gd (j1) ?_
      refine ok_gd (j2) ?_
      refine ok_bind (re_breaks hS) ?_
      rintro q38 h38
      refine ok_gd (j1) ?_
      refine ok_gd (j2) ?_
      refine ok_bind (h38) ?_
      rintro q39 h39
      exact ih2 _ _ h39.1
    refine ok_ite (fun _ => ?_) (fun _ => ?_)
    · refine ok_gd (j1) ?_
      refine ok_bind (re_mend hS) ?_
      rintro q40 h40
      refine ok_gd (j1) ?_
      refine ok_bind (h40) ?_
      rintro q41 h41
      exact ih2 _ _ h41.1
    refine ok_ite (fun _ => ?_) (fun _ => ?_)
    · refine ok_gd (j1) ?_
      refine ok_gd (j2) ?_
      refine ok_bind (re_storm hS) ?_
      rintro q42 h42
      refine ok_gd (j1) ?_
      refine ok_gd (j2) ?_
      refine ok_bind (h42) ?_
      rintro q43 h43
      exact ih2 _ _ h43.1
    refine ok_ite (fun _ => ?_) (fun _ => ?_)
    · refine ok_bind (re_calm hS) ?_
      rintro q44 h44
      exact ih2 _ _ h44.1
    refine ok_ite (fun _ => ?_) (fun _ => ?_)
    · refine ok_gd (j1) ?_
      refine ok_gd (j2) ?_
      refine ok_gd (j3) ?_
      refine ok_gd (j4) ?_
      refine ok_bind (re_priceRule hS) ?_
      rintro q45 h45
      refine ok_gd (j1) ?_
      refine ok_gd (j2) ?_
      refine ok_gd (j3) ?_
      refine ok_gd (j4) ?_
      refine ok_bind (h45) ?_
      rintro q46 h46
      exact ih2 _ _ h46.1
    refine ok_ite (fun _ => ?_) (fun _ => ?_)
    · refine ok_gd (j1) ?_
      refine ok_bind (re_price hS) ?_
      rintro q47 h47
      refine ok_gd (j1) ?_
      refine ok_bind (h47) ?_
      rintro q48 h48
      exact ih2 _ _ hS
    refine ok_ite (fun _ => ?_) (fun _ => ?_)
    · refine ok_gd (j1) ?_
      refine ok_gd (j2) ?_
      refine ok_bind (re_pool hS) ?_
      rintro q49 h49
      refine ok_gd (j1) ?_
      refine ok_gd (j2) ?_
      refine ok_bind (h49) ?_
      rintro q50 h50
      exact ih2 _ _ hS
    refine ok_ite (fun _ => ?_) (fun _ => ?_)
    · refine ok_gd (j1) ?_
      refine ok_gd (j2) ?_
      refine ok_bind (re_work hS) ?_
      rintro q51 h51
      refine ok_gd (j1) ?_
      refine ok_gd (j2) ?_
      refine ok_bind (h51) ?_
      rintro q52 h52
      exact ih2 _ _ hS
    refine ok_ite (fun _ => ?_) (fun _ => ?_)
    · refine ok_gd (j1) ?_
      refine ok_gd (j2) ?_
      refine ok_bind (re_about hS) ?_
      rintro q53 h53
      refine ok_gd (j1) ?_
      refine ok_gd (j2) ?_
      refine ok_bind (h53) ?_
      rintro q54 h54
      exact ih2 _ _ hS
    refine ok_ite (fun _ => ?_) (fun _ => ?_)
    · refine ok_bind (re_keep hS) ?_
      rintro q55 h55
      refine ok_bind (h55) ?_
      rintro q56 h56
      exact ih2 _ _ h56.1
    refine ok_ite (fun _ => ?_) (fun _ => ?_)
    · refine ok_bind (re_back hS) ?_
      rintro q57 h57
      refine ok_bind (h57) ?_
      rintro q58 h58
      exact ih2 _ _ h58.1
    refine ok_ite (fun _ => ?_) (fun _ => ?_)
    · refine ok_gd (j1) ?_
      refine ok_bind (re_count hS) ?_
      rintro q59 h59
      refine ok_gd (j1) ?_
      refine ok_bind (h59) ?_
      rintro q60 h60
      rw [if_pos (h60)]
      exact ih2 _ _ hS
    exact ih2 _ _ hS
theorem law_pure (L : Nat) (xs : Nat → Int32) (hL : L ≤ 4096) : ∃ r, s_L_law_R18 L xs 5001 0 g0 w0 = some r ∧ r.1 = true := law_18 hL 5001 0 g0 w0 rel_0 (by decide) (by decide)
/-- the law's walk from its entry -/
theorem whole_start {p : Program} {e : Env} {s : State} {m : MethodId} {below : List Frame} {meth : Method} {c : Code} (l : Launch) (hflags : l.flags = flags0) {b L : Nat} {xs : Nat → Int32} (hL : L ≤ 4096) (C0 : lw_At p s m meth c b L xs) : W p l e room_1 s m #[Value.ref b] below meth c s.heap [] 0 0 (lw_Z below #[Value.ref b] s) (entryFrame m ([Value.ref b] : List Value).toArray 4) := by
  obtain ⟨r, h1, h2⟩ := law_pure L xs hL
  exact whole_of l C0 (e_L_law_R18 h2 5001 h1)
set_option maxHeartbeats 4000000 in
theorem lw_walk (l : Launch) (hflags : l.flags = flags0) (b : Addr) (xs : List Int32) : MetFree l x (headSpec (Jvm.Cond.code x code maxLocals ret :: tables_1) room_1) (lw_P b xs) (fun _ _ _ _ _ => True) lw_Q := by
  refine MetFree.of_bodyS (code := code) (maxLocals := maxLocals) (ret := ret) (by decide) ?_ ?_
  · intro args s m h hn
    obtain ⟨meth, c, h1, h2, h3, h4, h5, h6, -, -⟩ := Cond.code_spec hn (atoms_spec (ws := Jvm.Cond.code x code maxLocals ret :: tables_1) h _ List.mem_cons_self)
    exact ⟨meth, c, h1, h2, h3, h4, h5, h6⟩
  · intro p e s m args below meth c s₁ B hml0 hP _
    obtain ⟨rfl, hx, hbd, hgv⟩ := hP
    obtain ⟨scr, harrAt, hlist, hof, hsmall⟩ := hx
    obtain ⟨hcb, hkn, -, -⟩ := State.arrayAt?_spec harrAt
    have hown : s.vm.findClass R_law = some m.cls := findClass_of_methodNamed B.named
    have hts0 : ∀ c ∈ (Jvm.Cond.code x code maxLocals ret :: tables_1), c.before #[Value.ref b] s = true := atoms_spec (ws := Jvm.Cond.code x code maxLocals ret :: tables_1) B.pre
    have hts : ∀ w ∈ lw_tbl, w.before #[Value.ref b] s = true := k2_hts_sels lw_privs (fun w hw => hts0 w (List.mem_cons_of_mem _ hw)) lw_privs_ok
    have hml : c.maxLocals = 4 := B.maxLocals_eq (hts0 _ List.mem_cons_self)
    have X₀ : Stand p l e room_1 s m #[Value.ref b] below meth c s₁ [] 0 0 := Stand.of_body B
    have hh0 : s₁.heap = s.heap := by rw [B.state]; rfl
    have hsz : scr.slots.size = xs.length := by rw [← Array.length_toList, hlist, List.length_map]
    have hval : ∀ j : Nat, j < xs.length → scr.slots[j]? = some (.int (xs.getD j 0)) := fun j hj => by
      rw [← Array.getElem?_toList, hlist]
      simp [hj]
    have hbl : b < s.heap.size := (Array.getElem?_eq_some_iff.mp hcb).1
    have hX : va_X b xs.length (fun j => xs.getD j 0) s s.heap := ⟨scr, hcb, hof, hkn, hsz, hval⟩
    have K : W p l e room_1 s m #[Value.ref b] below meth c s₁.heap [] 0 0 (lw_Z below #[Value.ref b] s) (entryFrame m ([Value.ref b] : List Value).toArray 4) := by
      rw [hh0]
      exact whole_start l hflags hbd ⟨B.exec, B.bytes, B.returns, hml, hown, hts, hX, hbl, B.notSynchronized, hgv⟩
    obtain ⟨t, a1, o, b1, b2, b3⟩ := K s₁ rfl X₀
    exact ⟨t, o, a1, b1, b2, b3⟩
theorem lw_pre_spec {args : Array Value} {s : State} (h : (Jvm.Cond.and given_1 narrow_1).before args s = true) (hr : rest_1_c.before args s = true) : ∃ (b : Addr) (xs : List Int32), lw_P b xs args s := by
  have hs := flat_of_before _ h
  have hq := flat_of_before _ hr
  have hc : (Cond.count 1).before args s = true := hs _ (by decide +kernel)
  have harr : (Cond.arrayOf (.arg 0) .int).before args s = true := hs _ (by decide +kernel)
  have hle : (Cond.le (.length (.arg 0)) (.int 4096)).before args s = true := hs _ (by decide +kernel)
  have hlen : (Cond.isInt (.length (.arg 0))).before args s = true := hq _ (by decide +kernel)
  have hall : (Cond.all (.arg 0) (.isInt (.elem (.arg 0) (.index 0)))).before args s = true := hq _ (by decide +kernel)
  obtain ⟨b, xs, hb, hx⟩ := State.ints_of_pre rfl harr hlen hall
  have hsm : xs.length < 2 ^ 31 := hx.choose_spec.2.2.2
  have hev : (Term.length (.arg 0)).eval args s none [] s = some (.int xs.length.toInt32) := hx.length_eval hb
  have hv := Cond.le_ints hev (show (Term.int 4096).eval args s none [] s = some (.int 4096) from rfl)
  have hd : xs.length.toInt32 ≤ 4096 := by
    simpa [Cond.before, Cond.holds, hv] using hle
  have hN : xs.length ≤ 4096 := (Int32.ofNat_le_ofNat hsm (by decide)).mp (show Int32.ofNat xs.length ≤ Int32.ofNat 4096 from hd)
  exact ⟨b, xs, Cond.one_arg hc (show args[0]? = some (.ref b) from hb), hx, hN, h⟩
theorem lw_comes (l : Launch) (hflags : l.flags = flags0) : Comes l x (Jvm.Cond.code x code maxLocals ret :: tables_1) room_1 (fun tb e args s => Calls_1 tb e args s ∧ rest_1 tb e args s ∧ Pre_1 tb e args s)
    (fun _ _ args s o t => lw_Q args s o t) := by
  intro p e ha hc hk s m args below hf hfit hheap happ hpre
  obtain ⟨b, xs, hP⟩ := lw_pre_spec hpre.2.2 hpre.2.1
  obtain ⟨k, o, h1, h2, h3, hQ⟩ := lw_walk l hflags b xs p e ha hc hk s m args below hf ((Spec.applies_iff_loose hf).mp happ).1 hP trivial
  exact ⟨k, o, h1, h2, h3, hQ⟩
theorem lw_frame {s t : State} {o : Outcome} {args : Array Value} (h : Framed s o t [] 600000 7302250) :
    Framed s o t (fieldLocs frame_1_writes args s ++ arrayLocs frame_1_arrays args s ++ staticLocs frame_1_statics s) 600000 7302250 := h
theorem lw_limb (L : Cond) (hL : ∀ (args : Array Value) (s t : State), L.after args s (.returned (some (.int 1))) t = true) :
    ArmFor flags0 classFile x code maxLocals ret World_1 tables_1 room_1 Calls_1 rest_1 Pre_1
      (fun tb e a s o t => postC L tb e a s o t ∧ Framed s o t (fieldLocs frame_1_writes a s ++ arrayLocs frame_1_arrays a s ++ staticLocs frame_1_statics s) 600000 7302250) := by
  intro l hflags _ _ p e ha hc hk s m args below hf hfit hheap happ hpre
  obtain ⟨k, o, h1, h2, h3, rfl, hF⟩ := lw_comes l hflags p e ha hc hk s m args below hf hfit hheap happ hpre
  exact ⟨k, _, h1, h2, h3, hL args s _, lw_frame hF⟩
theorem i_vc : Claimed_1_1 ∧ Claimed_1_2 := ⟨lw_limb limb_1_1 (fun args s t => by simp [limb_1_1, Cond.after, Cond.holds, Cond.value]), lw_limb limb_1_2 (fun args s t => Cond.after_iff.mpr (by
  first | (rw [show limb_1_2 = Cond.eq .result (.int 1) from rfl, Cond.eq_ints (x := 1) (y := 1) rfl rfl]; simp; done) | (simp [limb_1_2, Cond.value, Term.eval]; done)))⟩
