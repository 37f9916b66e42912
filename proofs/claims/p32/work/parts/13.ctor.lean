/-! the constructors, run; the state behind them in plain words -/
def xB (call : Nat → List AV → DS → Option DS) (cap : Nat × Nat) (tb : Nat → Option Ent) (stop : Nat) : Nat → Nat → List (Option AV) → List AV → DS → Option (List (Option AV) × DS)
  | 0, _, _, _, _ => none
  | n + 1, pc, loc, st, S => bif Nat.beq pc stop && Nat.blt stop 100000 then (match st with | [] => some (loc, S) | _ => none) else match tb pc with
    | none => none
    | some (ins, x, y, w, z, _) => match ins with
      | .aload_n i => match loc[(i : Nat)]? with
        | some (some (.inr v)) => xB call cap tb stop n (pc + 1) loc (.inr v :: st) S
        | _ => none
      | .iload_n i => match loc[(i : Nat)]? with
        | some (some (.inl (.inl v))) => xB call cap tb stop n (pc + 1) loc (aI v :: st) S
        | _ => none
      | .istore_n i => match st with
        | .inl (.inl v) :: r => (match lst1 loc i (aI v) with
          | some l' => xB call cap tb stop n (pc + 1) l' r S
          | none => none)
        | _ => none
      | .astore_n i => match st with
        | .inr v :: r => (match lst1 loc i (.inr v) with
          | some l' => xB call cap tb stop n (pc + 1) l' r S
          | none => none)
        | _ => none
      | .iinc i k => match loc[i]? with
        | some (some (.inl (.inl v))) => (match lst1 loc i (aI (v + Int32.ofInt k)) with
          | some l' => xB call cap tb stop n (pc + 3) l' st S
          | none => none)
        | _ => none
      | .iconst k => xB call cap tb stop n (pc + 1) loc (aI (Int32.ofInt k) :: st) S
      | .bipush k => xB call cap tb stop n (pc + 2) loc (aI (Int8.ofInt k).toInt32 :: st) S
      | .sipush k => xB call cap tb stop n (pc + 3) loc (aI (Int16.ofInt k).toInt32 :: st) S
      | .lconst k => xB call cap tb stop n (pc + 1) loc (aL (Int64.ofNat (k : Nat)) :: st) S
      | .ldc2_w _ => xB call cap tb stop n (pc + 3) loc (aL (Int64.ofInt z) :: st) S
      | .imul => match st with
        | .inl (.inl b) :: .inl (.inl a) :: r => xB call cap tb stop n (pc + 1) loc (aI (a * b) :: r) S
        | _ => none
      | .dup => match st with
        | a :: r => bif Nat.beq (aCat a) 1 then xB call cap tb stop n (pc + 1) loc (a :: a :: r) S else none
        | _ => none
      | .goto _ => xB call cap tb stop n x loc st S
      | .if_icmp c _ => match c, st with
        | .ge, .inl (.inl b) :: .inl (.inl a) :: r => if b ≤ a then xB call cap tb stop n x loc r S else xB call cap tb stop n (pc + 3) loc r S
        | _, _ => none
      | .getfield _ => match st with
        | .inr (some (F, i)) :: r => bif Nat.beq F x then xB call cap tb stop n (pc + 3) loc (rdF S x i y w :: r) S else none
        | _ => none
      | .putfield _ => match st with
        | v :: .inr (some (F, i)) :: r => bif Nat.beq F x then (match wrF S x i y w v with
          | some S' => xB call cap tb stop n (pc + 3) loc r S'
          | none => none) else none
        | _ => none
      | .iastore => match st with
        | .inl (.inl v) :: .inl (.inl k) :: .inr (some (F, i)) :: r => if F / 1000 = 1 ∧ ¬ (k < 0 ∨ F % 1000 ≤ k.toNatClampNeg) then xB call cap tb stop n (pc + 1) loc r (sI S F i k.toNatClampNeg v) else none
        | _ => none
      | .lastore => match st with
        | .inl (.inr v) :: .inl (.inl k) :: .inr (some (F, i)) :: r => if F / 1000 = 2 ∧ ¬ (k < 0 ∨ F % 1000 ≤ k.toNatClampNeg) then xB call cap tb stop n (pc + 1) loc r (sL S F i k.toNatClampNeg v) else none
        | _ => none
      | .aastore => match st with
        | .inr (some (G, u)) :: .inl (.inl k) :: .inr (some (F, i)) :: r => if G = arT F ∧ 3 ≤ F / 1000 ∧ ¬ (k < 0 ∨ F % 1000 ≤ k.toNatClampNeg) then xB call cap tb stop n (pc + 1) loc r (sQ S F i k.toNatClampNeg (some u)) else none
        | _ => none
      | .arraylength => match st with
        | .inr (some (F, _)) :: r => bif Nat.ble 1000 F then xB call cap tb stop n (pc + 1) loc (aI (Int32.ofNat (F % 1000)) :: r) S else none
        | _ => none
      | .new _ => if S.1.length + 1 ≤ cap.1 ∧ slz S.1 + nfT x ≤ cap.2 then xB call cap tb stop n (pc + 3) loc (aR x (cntF S.1 x) :: st) (sNew S x (cntF S.1 x)) else none
      | .newarray _ => match st with
        | .inl (.inl k) :: r => if ¬ k < 0 ∧ k.toNatClampNeg < 1000 ∧ S.1.length + 1 ≤ cap.1 ∧ slz S.1 + k.toNatClampNeg ≤ cap.2 then xB call cap tb stop n (pc + 2) loc (aR (x + k.toNatClampNeg) (cntF S.1 (x + k.toNatClampNeg)) :: r) (sNew S (x + k.toNatClampNeg) (cntF S.1 (x + k.toNatClampNeg))) else none
        | _ => none
      | .anewarray _ => match st with
        | .inl (.inl k) :: r => if ¬ k < 0 ∧ k.toNatClampNeg < 1000 ∧ S.1.length + 1 ≤ cap.1 ∧ slz S.1 + k.toNatClampNeg ≤ cap.2 then xB call cap tb stop n (pc + 3) loc (aR (x + k.toNatClampNeg) (cntF S.1 (x + k.toNatClampNeg)) :: r) (sNew S (x + k.toNatClampNeg) (cntF S.1 (x + k.toNatClampNeg))) else none
        | _ => none
      | .invokespecial _ => if w = 6 then (match st with
          | .inr (some _) :: r => if aCats r ≤ 8 then xB call cap tb stop n (pc + 3) loc r S else none
          | _ => none) else (match st[y]?, mth x with
          | some (.inr (some _)), some mi => if y + 1 ≤ st.length ∧ (aCats (st.drop (y + 1)) ≤ 8 ∧ noScr (st.take (y + 1)) = true) ∧ S.1.length + mi.2.2.2.2.2.1 ≤ cap.1 ∧ slz S.1 + mi.2.2.2.2.2.2.1 ≤ cap.2 then (match call x ((st.take (y + 1)).reverse) S with
            | some S' => xB call cap tb stop n (pc + 3) loc (st.drop (y + 1)) S'
            | none => none) else none
          | _, _ => none)
      | .return_ => bif Nat.beq stop 100000 then (match st with | [] => some (loc, S) | _ => none) else none
      | _ => none
set_option maxHeartbeats 4000000 in
theorem xB.ok {call : Nat → List AV → DS → Option DS} {cap : Nat × Nat} {tb : Nat → Option Ent} {stop : Nat} {R : RC} {sc : Nat × (Nat → Int32)} {ret : Option AV → DS → Prop} {P : KC} (hP : ∀ pc loc st S, Step R mth cap sc ret tb P pc loc st S → P pc loc st S) (hcall : ∀ x as S S', call x as S = some S' → Does R x as S none S') :
    ∀ (n pc : Nat) (loc : List (Option AV)) (st : List AV) (S : DS) (l1 : List (Option AV)) (S1 : DS), xB call cap tb stop n pc loc st S = some (l1, S1) → (stop ≠ 100000 → P stop l1 [] S1) → (stop = 100000 → ret none S1) → P pc loc st S := by
  intro n
  induction n with
  | zero => intro pc loc st S l1 S1 h; cases h
  | succ n ih =>
    intro pc loc st S l1 S1 h h1 h2
    unfold xB at h
    cases hb : Nat.beq pc stop && Nat.blt stop 100000 with
    | true =>
      rw [hb] at h
      rw [Bool.and_eq_true] at hb
      have hpc : pc = stop := Nat.eq_of_beq_eq_true hb.1
      subst hpc
      simp only [cond_true] at h
      split at h
      · cases h
        exact h1 (fun e => by have h9 := hb.2; rw [e] at h9; exact absurd h9 (by decide))
      · cases h
    | false =>
      rw [hb] at h
      simp only [cond_false] at h
      split at h
      · cases h
      · next ins x y w z tl he =>
        refine hP _ _ _ _ ⟨_, he, ?_⟩
        split at h
        · split at h
          · next i9 v9 hl => exact ⟨_, hl, ih _ _ _ _ _ _ h h1 h2⟩
          · cases h
        · split at h
          · next i9 v9 hl => exact ⟨_, hl, ih _ _ _ _ _ _ h h1 h2⟩
          · cases h
        · split at h
          · split at h
            · next l' hl => exact ⟨_, _, l', rfl, hl, ih _ _ _ _ _ _ h h1 h2⟩
            · cases h
          · cases h
        · split at h
          · split at h
            · next l' hl => exact ⟨_, _, l', rfl, hl, ih _ _ _ _ _ _ h h1 h2⟩
            · cases h
          · cases h
        · split at h
          · next hl0 =>
            split at h
            · next l' hl => exact ⟨_, l', hl0, hl, ih _ _ _ _ _ _ h h1 h2⟩
            · cases h
          · cases h
        · exact ih _ _ _ _ _ _ h h1 h2
        · exact ih _ _ _ _ _ _ h h1 h2
        · exact ih _ _ _ _ _ _ h h1 h2
        · exact ih _ _ _ _ _ _ h h1 h2
        · exact ih _ _ _ _ _ _ h h1 h2
        · split at h
          · exact ⟨_, _, _, rfl, ih _ _ _ _ _ _ h h1 h2⟩
          · cases h
        · split at h
          · next a r =>
            cases hc : Nat.beq (aCat a) 1 with
            | true => rw [hc] at h; exact ⟨_, _, rfl, Nat.eq_of_beq_eq_true hc, ih _ _ _ _ _ _ h h1 h2⟩
            | false => rw [hc] at h; cases h
          · cases h
        · exact ih _ _ _ _ _ _ h h1 h2
        · split at h
          · next b a r =>
            refine ⟨a, b, r, rfl, fun hc => ?_, fun hc => ?_⟩
            · rw [if_pos (show b ≤ a from hc)] at h
              exact ih _ _ _ _ _ _ h h1 h2
            · rw [if_neg (show ¬ b ≤ a from hc)] at h
              exact ih _ _ _ _ _ _ h h1 h2
          · cases h
        · split at h
          · next F i r =>
            cases hc : Nat.beq F x with
            | true => rw [hc] at h; have := Nat.eq_of_beq_eq_true hc; subst this; exact ⟨i, r, rfl, ih _ _ _ _ _ _ h h1 h2⟩
            | false => rw [hc] at h; cases h
          · cases h
        · split at h
          · next v F i r =>
            cases hc : Nat.beq F x with
            | true =>
              rw [hc] at h
              have := Nat.eq_of_beq_eq_true hc
              subst this
              simp only [cond_true] at h
              split at h
              · next S' hw => exact ⟨v, i, r, S', rfl, hw, ih _ _ _ _ _ _ h h1 h2⟩
              · cases h
            | false => rw [hc] at h; cases h
          · cases h
        · split at h
          · split at h
            · next hc => exact ⟨_, _, _, _, _, rfl, hc.1, hc.2, ih _ _ _ _ _ _ h h1 h2⟩
            · cases h
          · cases h
        · split at h
          · split at h
            · next hc => exact ⟨_, _, _, _, _, rfl, hc.1, hc.2, ih _ _ _ _ _ _ h h1 h2⟩
            · cases h
          · cases h
        · split at h
          · split at h
            · next hc => obtain ⟨rfl, h5, h6⟩ := hc; exact ⟨_, _, _, _, _, rfl, h5, h6, ih _ _ _ _ _ _ h h1 h2⟩
            · cases h
          · cases h
        · split at h
          · next F i r =>
            cases hc : Nat.ble 1000 F with
            | true => rw [hc] at h; exact Or.inl ⟨F, i, r, rfl, Nat.le_of_ble_eq_true hc, ih _ _ _ _ _ _ h h1 h2⟩
            | false => rw [hc] at h; cases h
          · cases h
        · split at h
          · next hc => exact ⟨hc.1, hc.2, ih _ _ _ _ _ _ h h1 h2⟩
          · cases h
        · split at h
          · split at h
            · next hc => exact ⟨_, _, _, rfl, hc.1, rfl, hc.2.1, hc.2.2.1, hc.2.2.2, ih _ _ _ _ _ _ h h1 h2⟩
            · cases h
          · cases h
        · split at h
          · split at h
            · next hc => exact ⟨_, _, _, rfl, hc.1, rfl, hc.2.1, hc.2.2.1, hc.2.2.2, ih _ _ _ _ _ _ h h1 h2⟩
            · cases h
          · cases h
        · show (if w = 6 then _ else _)
          split at h
          · next hw =>
            rw [if_pos hw]
            split at h
            · next q r =>
              obtain ⟨F, i⟩ := q
              split at h
              · next hc => exact ⟨F, i, r, rfl, hc, ih _ _ _ _ _ _ h h1 h2⟩
              · cases h
            · cases h
          · next hw =>
            rw [if_neg hw]
            split at h
            · next q mi hy hm =>
              obtain ⟨F, i⟩ := q
              split at h
              · next hc =>
                split at h
                · next S' hS' => exact ⟨⟨F, i, hy⟩, ev_ck hm hc.1 rfl hc.2.1 hc.2.2 (hcall _ _ _ _ hS') (ih _ _ _ _ _ _ h h1 h2)⟩
                · cases h
              · cases h
            · cases h
        · cases hc : Nat.beq stop 100000 with
          | true =>
            rw [hc] at h
            simp only [cond_true] at h
            split at h
            · cases h
              exact ⟨rfl, h2 (Nat.eq_of_beq_eq_true hc)⟩
            · cases h
          | false => rw [hc] at h; cases h
        · cases h
def xM : Nat → Nat → List AV → DS → Option DS
  | 0, _, _, _ => none
  | d + 1, j, as, S => match mth j with
    | none => none
    | some mi => if (locG as).length ≤ mi.2.2.1 ∧ mi.2.2.2.1 = none then (match xB (xM d) (capOf mi S) (lkp mi.2.2.2.2.2.2.2.2) 100000 3000 0 (locA mi.2.2.1 as) [] S with
      | some (_, S') => if S'.1.length = (capOf mi S).1 ∧ slz S'.1 = (capOf mi S).2 then some S' else none
      | none => none) else none
theorem xM.ok {d : Nat} : ∀ (j : Nat) (as : List AV) (S S' : DS), xM d j as S = some S' → Does (EvM mth d) j as S none S' := by
  induction d with
  | zero => intro j as S S' h; cases h
  | succ d ih =>
    intro j as S S' h Ψ hΨ
    unfold xM at h
    split at h
    · cases h
    · next mi hm =>
      split at h
      · next hc =>
        split at h
        · next l1 S1 hx =>
          split at h
          · next hn =>
            cases h
            refine ⟨mi, hm, hc.1, ?_⟩
            exact xB.ok (sc := (0, fun _ => 0)) (R := EvM mth d) (ret := retP mi.2.2.2.1 (capOf mi S) Ψ) (fun _ _ _ _ h => Ev.mk h) ih _ _ _ _ _ _ _ hx (fun h9 => absurd rfl h9) (fun _ => ⟨by rw [hc.2]; rfl, hn.1, hn.2, hΨ⟩)
          · cases h
        · cases h
      · cases h
/-- two states with the same picture -/
def celE (S1 S2 : DS) (F i : Nat) : Bool :=
  bif Nat.blt F 1000 then (List.range (nfT F)).all (fun j => decide (rdF S1 F i j (kdT F j) = rdF S2 F i j (kdT F j)))
  else bif Nat.beq (F / 1000) 1 then (List.range (F % 1000)).all (fun j => decide (S1.2.1 F i j = S2.2.1 F i j))
  else bif Nat.beq (F / 1000) 2 then (List.range (F % 1000)).all (fun j => decide (S1.2.2.1 F i j = S2.2.2.1 F i j))
  else (List.range (F % 1000)).all (fun j => decide (S1.2.2.2 F i j = S2.2.2.2 F i j))
theorem arrV_eq {cI : ClassId} {N : Nat} {f g : Nat → Value} (h : ∀ j, j < N → f j = g j) : arrV cI N f = arrV cI N g := by
  unfold arrV
  congr 1
  congr 1
  funext j
  exact h j.val j.isLt
theorem celE.at {D : va_G} {cA : Nat → ClassId} {ad : Nat → Nat → Nat} {S1 S2 : DS} {F i a : Nat} {H : Heap} (h : celE S1 S2 F i = true) (hv : va_at D vwCl (a, cellD cA ad S1 F i) H) : va_at D vwCl (a, cellD cA ad S2 F i) H := by
  unfold celE at h
  by_cases hF : F < 1000
  · rw [show Nat.blt F 1000 = true by simpa [Nat.blt_eq] using hF] at h
    simp only [cond_true, List.all_eq_true, decide_eq_true_eq, List.mem_range] at h
    have e : cellD cA ad S2 F i = cellD cA ad S1 F i := by
      rw [cellD_obj hF, cellD_obj hF]
      congr 2
      refine List.map_congr_left (fun j hj => ?_)
      unfold fvT
      rw [h j (List.mem_range.mp hj)]
    rw [e]
    exact hv
  · rw [show Nat.blt F 1000 = false by cases hb : Nat.blt F 1000 with | false => rfl | true => exact absurd (by simpa [Nat.blt_eq] using hb) hF] at h
    simp only [cond_false] at h
    by_cases h1 : F / 1000 = 1
    · rw [h1] at h
      simp only [show Nat.beq 1 1 = true from rfl, cond_true, List.all_eq_true, decide_eq_true_eq, List.mem_range] at h
      rw [cellD_int h1] at hv ⊢
      show H[a]? = some (vp_cell _ _)
      rw [show vp_cell (cA 1) (F % 1000, .inl (S2.2.1 F i)) = vp_cell (cA 1) (F % 1000, .inl (S1.2.1 F i)) by rw [vp_cell_i, vp_cell_i]; exact arrV_eq (fun j hj => by rw [h j hj])]
      exact hv
    · rw [show Nat.beq (F / 1000) 1 = false by cases hb : Nat.beq (F / 1000) 1 with | false => rfl | true => exact absurd (Nat.eq_of_beq_eq_true hb) h1] at h
      simp only [cond_false] at h
      by_cases h2 : F / 1000 = 2
      · rw [h2] at h
        simp only [show Nat.beq 2 2 = true from rfl, cond_true, List.all_eq_true, decide_eq_true_eq, List.mem_range] at h
        rw [cellD_long h2] at hv ⊢
        show H[a]? = some (vp_cell _ _)
        rw [show vp_cell (cA 2) (F % 1000, .inr (.inl (S2.2.2.1 F i))) = vp_cell (cA 2) (F % 1000, .inr (.inl (S1.2.2.1 F i))) by rw [vp_cell_l, vp_cell_l]; exact arrV_eq (fun j hj => by rw [h j hj])]
        exact hv
      · rw [show Nat.beq (F / 1000) 2 = false by cases hb : Nat.beq (F / 1000) 2 with | false => rfl | true => exact absurd (Nat.eq_of_beq_eq_true hb) h2] at h
        simp only [cond_false, List.all_eq_true, decide_eq_true_eq, List.mem_range] at h
        rw [cellD_ref (by omega)] at hv ⊢
        have e : (fun j => if j < F % 1000 then (S2.2.2.2 F i j).map (ad (arT F)) else none) = (fun j => if j < F % 1000 then (S1.2.2.2 F i j).map (ad (arT F)) else none) := by
          funext j
          by_cases hj : j < F % 1000
          · rw [if_pos hj, if_pos hj, h j hj]
          · rw [if_neg hj, if_neg hj]
        rw [e]
        exact hv
theorem SB_eq {p : Program} {l : Launch} {e : Env} {R : Room} {s : State} {m : MethodId} {args : Array Value} {below : List Frame} {meth : Method} {c : Code} {D : va_G} {cA : Nat → ClassId} {A : Nat → Prop} {H0 : Heap} {scr : Prop} {b : Nat × List (Nat × Nat) × (Nat → Nat → Nat)} {nL : Nat} {c0 : Nat × Nat} {Q : State → Prop} {pc : Nat} {loc : List (Option AV)} {st : List AV} {S1 S2 : DS} (h0 : S2.1 = S1.1) (hV2 : VS S2) (hc : S1.1.all (fun q => celE S1 S2 q.1 q.2) = true) (h : SB p l e R s m args below meth c D cA A H0 scr b nL c0 Q pc loc st S2) : SB p l e R s m args below meth c D cA A H0 scr b nL c0 Q pc loc st S1 := by
  intro ad H locs cells slots ls hP hD hS hV hsc hl hll hvs hvl hcc hcs
  have hw : ∀ k : Nat, ∀ q : Nat × va_E, (wsD cA ad S2)[k]? = some q → ∃ q1, (wsD cA ad S1)[k]? = some q1 ∧ q1.1 = q.1 ∧ va_at D vwCl q H := by
    intro k q hq
    simp only [wsD, List.getElem?_map, Option.map_eq_some_iff] at hq
    obtain ⟨a, ha, rfl⟩ := hq
    rw [h0] at ha
    have h1 : (wsD cA ad S1)[k]? = some (ad a.1 a.2, cellD cA ad S1 a.1 a.2) := by simp [wsD, ha]
    exact ⟨_, h1, rfl, celE.at (List.all_eq_true.mp hc a (List.mem_of_getElem? ha)) (hP k _ h1)⟩
  refine h ad H locs cells slots ls (fun k q hq => (hw k q hq).choose_spec.2.2) ⟨fun i j x y hi hj hxy => ?_, fun k q hq => ?_⟩ hS hV2 (by rw [h0]; exact hsc) hl hll (fun v hv => (hvs v hv).le (fun a ha => by rw [h0]; exact ha)) (fun i v hv => (hvl i v hv).le (fun a ha => by rw [h0]; exact ha)) (by rw [h0]; exact hcc) (by rw [h0]; exact hcs)
  · obtain ⟨x1, a1, a2, -⟩ := hw i x hi
    obtain ⟨y1, b1, b2, -⟩ := hw j y hj
    exact hD.1 i j x1 y1 a1 b1 (a2.trans (hxy.trans b2.symm))
  · obtain ⟨x1, a1, a2, -⟩ := hw k q hq
    rw [← a2]
    exact hD.2 k x1 a1
/-- the cells behind the constructors, in their order -/
def L0 : List (Nat × Nat) := [(6, 0), (0, 0), (1006, 0), (1006, 1), (1, 0), (1012, 0), (1048, 0), (5006, 0), (4008, 0), (5, 0), (5, 1), (5, 2), (5, 3), (5, 4), (5, 5), (4, 0), (4, 1), (4, 2), (4, 3), (4, 4), (4, 5), (4, 6), (4, 7), (2, 0), (1004, 0), (1004, 1), (1004, 2), (1, 1), (1012, 1), (1048, 1), (5006, 1), (4008, 1), (5, 6), (5, 7), (5, 8), (5, 9), (5, 10), (5, 11), (4, 8), (4, 9), (4, 10), (4, 11), (4, 12), (4, 13), (4, 14), (4, 15), (3, 0), (1012, 2), (1012, 3), (1012, 4), (1012, 5), (3003, 0), (1, 2), (1012, 6), (1048, 2), (5006, 2), (4008, 2), (5, 12), (5, 13), (5, 14), (5, 15), (5, 16), (5, 17), (4, 16), (4, 17), (4, 18), (4, 19), (4, 20), (4, 21), (4, 22), (4, 23), (1, 3), (1012, 7), (1048, 3), (5006, 3), (4008, 3), (5, 18), (5, 19), (5, 20), (5, 21), (5, 22), (5, 23), (4, 24), (4, 25), (4, 26), (4, 27), (4, 28), (4, 29), (4, 30), (4, 31), (1, 4), (1012, 8), (1048, 4), (5006, 4), (4008, 4), (5, 24), (5, 25), (5, 26), (5, 27), (5, 28), (5, 29), (4, 32), (4, 33), (4, 34), (4, 35), (4, 36), (4, 37), (4, 38), (4, 39), (7, 0), (2218, 0), (2654, 0), (1006, 2), (1006, 3), (1012, 9), (1012, 10), (1012, 11), (1012, 12), (2022, 0)]
def td (h : Nat) : Nat := if h < 2 then h else h + 4
def q0 (F i j : Nat) : Option Nat :=
  bif Nat.beq F 1 then (bif Nat.beq j 0 then some 0 else bif Nat.beq j 1 then some (td i) else some i)
  else bif Nat.beq F 5006 then some (6 * i + j)
  else bif Nat.beq F 4008 then some (8 * i + j)
  else bif Nat.beq F 0 then some j
  else bif Nat.beq F 6 then some 0
  else bif Nat.beq F 2 then (bif Nat.beq j 0 then some 1 else some (j - 1))
  else bif Nat.beq F 3 then some (j + 2)
  else bif Nat.beq F 3003 then some (j + 2)
  else bif Nat.beq F 7 then (bif Nat.ble j 1 then some 0 else bif Nat.ble j 4 then some (j - 1) else bif Nat.ble j 9 then some (j + 3) else some 0)
  else none
def g0 (F i j : Nat) : Int32 :=
  bif Nat.beq F 1 then (bif Nat.beq j 5 then 2 else bif Nat.beq j 7 then 10 else 0)
  else bif Nat.beq F 1012 then (bif Nat.beq i 0 || (Nat.beq i 1 || (Nat.beq i 6 || (Nat.beq i 7 || Nat.beq i 8))) then 5 else 0)
  else bif Nat.beq F 5 then (bif Nat.beq j 7 then 48 else 0)
  else bif Nat.beq F 4 then (bif Nat.beq j 7 then (-4) else 0)
  else bif Nat.beq F 1004 then (bif Nat.beq i 0 then Int32.ofNat j else 0)
  else bif Nat.beq F 1006 then (bif Nat.beq i 0 || Nat.beq i 2 then 10 * Int32.ofNat j else 0)
  else 0
def w0 (F i j : Nat) : Int64 :=
  bif Nat.beq F 2218 then (bif Nat.blt j 12 then 5 else bif Nat.beq j 60 then 2 else bif Nat.beq j 62 then 10 else 0) else 0
def S0 : DS := (L0, g0, w0, q0)
/-- a state with nothing in it -/
def S00 : DS := ([], (fun _ _ _ => 0), (fun _ _ _ => 0), (fun _ _ _ => none))
/-- the law's first rows, run -/
def SAL : Option (List (Option AV) × DS) := xB (xM 12) (600000, 7302250) (lkp inL.2.2.2.2.2.2.2.2) 18 100 0 (locA 4 [aR 900 0]) [] S00
def SA : DS := (SAL.getD ([], S00)).2
def lawloc : List (Option AV) := [some (aR 900 0), some (aR 6 0), some (aR 7 0), some (aI 0)]
set_option maxRecDepth 100000 in
theorem SAL_ok : SAL.isSome = true := by decide +kernel
set_option maxRecDepth 100000 in
theorem SAL_1 : (SAL.getD ([], S00)).1 = lawloc := by decide +kernel
set_option maxRecDepth 100000 in
theorem SA_L : SA.1 = L0 := by decide +kernel
set_option maxRecDepth 100000 in
theorem SA_eq : SA.1.all (fun q => celE SA S0 q.1 q.2) = true := by decide +kernel
def VSb (S : DS) : Bool := S.1.all (fun q => decide (q.1 < 8 ∨ (1000 ≤ q.1 ∧ q.1 < 6000)) && (decide (q.2 < cntF S.1 q.1) && ((bif Nat.blt q.1 1000 then (List.range (nfT q.1)).all (fun j => match kdT q.1 j with
  | n + 2 => (match S.2.2.2 q.1 q.2 j with
    | some k => decide ((n, k) ∈ S.1)
    | none => true)
  | _ => true) else true) && (bif Nat.ble 3000 q.1 then (List.range (q.1 % 1000)).all (fun j => match S.2.2.2 q.1 q.2 j with
    | some k => decide ((arT q.1, k) ∈ S.1)
    | none => true) else true))))
theorem kdT_lt {F j n : Nat} (h : kdT F j = n + 2) : j < nfT F := by
  unfold kdT at h
  unfold nfT
  refine Nat.lt_of_not_le (fun hle => ?_)
  rw [List.getD_eq_getElem?_getD, List.getElem?_eq_none hle] at h
  cases h
theorem VSb.ok {S : DS} (h : VSb S = true) : VS S := by
  intro q hq
  have h1 := List.all_eq_true.mp h q hq
  simp only [Bool.and_eq_true, decide_eq_true_eq] at h1
  obtain ⟨a1, a2, a3, a4⟩ := h1
  refine ⟨a1, a2, fun j n k g1 g2 g3 => ?_, fun j k g1 g2 g3 => ?_⟩
  · rw [show Nat.blt q.1 1000 = true by simpa [Nat.blt_eq] using g1] at a3
    have h2 := List.all_eq_true.mp a3 j (List.mem_range.mpr (kdT_lt g2))
    rw [g2] at h2
    simp only [g3, decide_eq_true_eq] at h2
    exact h2
  · rw [show Nat.ble 3000 q.1 = true from Nat.ble_eq_true_of_le g1] at a4
    have h2 := List.all_eq_true.mp a4 j (List.mem_range.mpr g2)
    simp only [g3, decide_eq_true_eq] at h2
    exact h2
set_option maxRecDepth 100000 in
theorem S0_VSb : VSb S0 = true := by decide +kernel
theorem VS_congr {S S' : DS} (h : VS S) (h1 : S'.1 = S.1) (h2 : S'.2.2.2 = S.2.2.2) : VS S' := by
  intro q hq
  rw [h1] at hq
  obtain ⟨a1, a2, a3, a4⟩ := h q hq
  rw [h1, h2]
  exact ⟨a1, a2, a3, a4⟩
