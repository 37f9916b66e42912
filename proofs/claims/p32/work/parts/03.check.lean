/-! what a table's entry must be: decided by program -/
def lnI (w : Nat) : Instr → Nat
  | .iload _ | .lload _ | .aload _ | .istore _ | .lstore _ | .astore _ | .bipush _ | .ldc _ | .newarray _ => 2
  | .iinc _ _ | .sipush _ | .ldc_w _ | .ldc2_w _ | .goto _ | .ifCond _ _ | .if_icmp _ _ | .ifnull _ | .ifnonnull _ | .getfield _ | .putfield _ | .new _ | .anewarray _ | .invokevirtual _ | .invokespecial _ | .invokestatic _ => 3
  | .tableswitch _ _ _ _ | .lookupswitch _ _ => w
  | _ => 1
/-- a word of lw_tbl by its place: 10000 * part + place -/
def wAt (n : Nat) : Option Cond := match n / 10000 with
  | 0 => (k2_sels lw_privs)[n % 10000]?
  | 1 => tables_1_1[n % 10000]?
  | 2 => tables_1_2[n % 10000]?
  | 3 => tables_1_3[n % 10000]?
  | 4 => tables_1_4[n % 10000]?
  | 5 => tables_1_5[n % 10000]?
  | _ => none
theorem wAt.in {n : Nat} {c : Cond} (h : wAt n = some c) : c ∈ lw_tbl := by
  have ht : ∀ {L : List Cond} {k : Nat}, L[k]? = some c → c ∈ L := fun h => List.mem_of_getElem? h
  show c ∈ k2_sels lw_privs ++ (tables_1_1 ++ (tables_1_2 ++ (tables_1_3 ++ (tables_1_4 ++ tables_1_5))))
  unfold wAt at h
  split at h
  · exact List.mem_append.mpr (Or.inl (ht h))
  · exact List.mem_append.mpr (Or.inr (List.mem_append.mpr (Or.inl (ht h))))
  · exact List.mem_append.mpr (Or.inr (List.mem_append.mpr (Or.inr (List.mem_append.mpr (Or.inl (ht h))))))
  · exact List.mem_append.mpr (Or.inr (List.mem_append.mpr (Or.inr (List.mem_append.mpr (Or.inr (List.mem_append.mpr (Or.inl (ht h))))))))
  · exact List.mem_append.mpr (Or.inr (List.mem_append.mpr (Or.inr (List.mem_append.mpr (Or.inr (List.mem_append.mpr (Or.inr (List.mem_append.mpr (Or.inl (ht h))))))))))
  · exact List.mem_append.mpr (Or.inr (List.mem_append.mpr (Or.inr (List.mem_append.mpr (Or.inr (List.mem_append.mpr (Or.inr (List.mem_append.mpr (Or.inr (ht h))))))))))
  · cases h
def hasW (n : Nat) (c : Cond) : Bool := decide (wAt n = some c)
theorem hasW.in {n : Nat} {c : Cond} (h : hasW n c = true) : c ∈ lw_tbl := wAt.in (of_decide_eq_true h)
def nth (tl : List Nat) (k : Nat) : Nat := tl.getD k 0
def hasN (n : Nat) (own : String) (idx : Nat) (y : MethodName) : Bool := match wAt n with
  | some (.methodLinkNest o i z _) => decide (o = own) && (decide (i = idx) && decide (z = y))
  | _ => false
theorem hasN.in {n : Nat} {own : String} {idx : Nat} {y : MethodName} (h : hasN n own idx y = true) : ∃ host, (Cond.methodLinkNest own idx y host) ∈ lw_tbl := by
  unfold hasN at h
  split at h
  · next o i z hst he =>
    simp only [Bool.and_eq_true, decide_eq_true_eq] at h
    obtain ⟨h1, h2, h3⟩ := h
    subst h1; subst h2; subst h3
    exact ⟨hst, wAt.in he⟩
  · cases h
/-- a field's row -/
def ckF (own : String) (idx F y w n : Nat) : Bool := match vwCl[F]? with
  | some (_, T, N) => decide (y < N) && (decide (nfT F = N) && (decide (kdT F y = w) && hasW n (.fieldLink own idx (T y).1 (T y).2.1 (T y).2.2.1)))
  | none => false
def ckP (name own : String) (F y w : Nat) : Bool := match vwCl[F]? with
  | some (_, T, _) => (match parseFieldDescriptor (T y).2.2.1 with
    | some .int => Nat.beq w 0
    | some .long => Nat.beq w 1
    | some (.object _) => Nat.ble 2 w
    | some (.array _) => Nat.ble 2 w
    | _ => false) && (decide ((T y).2.2.2 = false) || (decide (name = "<init>") && decide ((T y).1 = own)))
  | none => false
def ckN (own : String) (idx F w : Nat) (tl : List Nat) : Bool := match vwCl[F]? with
  | some (C, _, N) => decide (nfT F = N) && (decide (w = N) && (hasW (nth tl 0) (.classLink own idx C) && (hasW (nth tl 1) (.instantiable C N) && hasW (nth tl 2) (.initialized C))))
  | none => false
def ckA (own : String) (idx x : Nat) (tl : List Nat) : Bool := decide (x = 3000 ∨ x = 4000 ∨ x = 5000) && match vwCl[arT x]? with
  | some (C, _, _) => hasW (nth tl 0) (.classLink own idx C) && hasW (nth tl 1) (.arrayOver (.object C))
  | none => false
/-- a call's row; w % 10: 0 static, 1 static of a nest mate, 2 virtual, 3 virtual of a nest mate, 4 <init>, 5 <init> of a nest mate -/
def ckC (mth : List MI) (mi : MI) (idx x y w : Nat) (tl : List Nat) : Bool := match mth[x]? with
  | some mc => decide (mc.1.cls ≠ "java/lang/invoke/MethodHandle" ∧ mc.1.cls ≠ "java/lang/invoke/VarHandle" ∧ (parseMethodDescriptor mc.1.desc).map (fun d => d.parameters.length) = some y) &&
      (decide (mc.2.2.2.2.1 + 1 ≤ mi.2.2.2.2.1 ∧ 8 + (mc.2.2.1 + 11) + mc.2.2.2.2.2.2.2.1 ≤ mi.2.2.2.2.2.2.2.1) && (hasW (nth tl 1) (.initialized mc.1.cls) &&
      ((bif Nat.beq (w % 2) 0 then hasW (nth tl 0) (.methodLink mi.1.cls idx mc.1) else hasN (nth tl 0) mi.1.cls idx mc.1) &&
       (bif Nat.blt (w % 10) 2 then hasW (nth tl 3) (.static mc.1)
        else bif Nat.blt (w % 10) 4 then hasW (nth tl 3) (.instanceMethod mc.1) && (hasW (nth tl 4) (.selects mc.1.cls mc.1 mc.1) && decide ((vwCl[w / 10]?).map (fun q => q.1) = some mc.1.cls))
        else hasW (nth tl 3) (.instanceMethod mc.1) && (decide (mc.1.name = "<init>") && decide (mc.2.2.2.1 = none))))))
  | none => false
def ckI (mth : List MI) (mi : MI) (pc x y w : Nat) (z : Int) (tl : List Nat) : Instr → Bool
  | .goto off | .ifCond _ off | .if_icmp _ off | .ifnull off | .ifnonnull off => decide ((pc : Int) + off = (x : Int))
  | .tableswitch d lo hi offs => decide ((pc : Int) + d = (x : Int)) && (decide (hi - lo + 1 = (offs.size : Int)) && decide (tl.map Int.ofNat = offs.toList.map (fun o => (pc : Int) + o)))
  | .lookupswitch d ps => decide ((pc : Int) + d = (x : Int)) && (decide ((ps.toList.zip (ps.toList.drop 1)).all (fun (a, next) => a.1 < next.1) = true) && decide (tl.map Int.ofNat = ps.toList.map (fun o => (pc : Int) + o.2)))
  | .getfield idx => ckF mi.1.cls idx x y w (nth tl 0)
  | .putfield idx => ckF mi.1.cls idx x y w (nth tl 0) && ckP mi.1.name mi.1.cls x y w
  | .ldc idx | .ldc_w idx => hasW (nth tl 0) (.constant mi.1.cls idx (Int32.ofInt z))
  | .ldc2_w idx => hasW (nth tl 0) (.constantLong mi.1.cls idx (Int64.ofInt z))
  | .new idx => ckN mi.1.cls idx x w tl
  | .newarray t => match t with
    | .int => decide (x = 1000) && hasW (nth tl 0) (.arrayClass .int)
    | .long => decide (x = 2000) && hasW (nth tl 0) (.arrayClass .long)
    | _ => false
  | .anewarray idx => ckA mi.1.cls idx x tl
  | .invokevirtual idx => ckC mth mi idx x y w tl && decide (w % 10 = 2 ∨ w % 10 = 3)
  | .invokespecial idx => bif Nat.beq w 6 then hasW (nth tl 0) (.methodLink mi.1.cls idx Lib.objectInit) && (hasW (nth tl 1) (.instanceMethod Lib.objectInit) && (hasW (nth tl 2) (.code Lib.objectInit ⟨#[0xb1]⟩ 1 none) && decide (1 ≤ mi.2.2.2.2.1 ∧ 20 ≤ mi.2.2.2.2.2.2.2.1)))
      else ckC mth mi idx x y w tl && decide (w % 10 = 4 ∨ w % 10 = 5)
  | .invokestatic idx => bif Nat.beq w 7 then hasW (nth tl 0) (.methodLink mi.1.cls idx arraycopyName) && (hasW (nth tl 1) (.native arraycopyName) && (hasW (nth tl 2) (.static arraycopyName) && (hasW (nth tl 3) (.initialized "java/lang/System") && decide (1 ≤ mi.2.2.2.2.1 ∧ 8 + (nativeFrameWords "java/lang/System" "arraycopy" 5 + 11) ≤ mi.2.2.2.2.2.2.2.1))))
      else bif Nat.beq w 8 then hasW (nth tl 0) (.methodLink mi.1.cls idx Lib.Math.max.name) && (hasW (nth tl 1) (.static Lib.Math.max.name) && (hasW (nth tl 2) (.initialized "java/lang/Math") && (hasW (nth tl 3) (.code Lib.Math.max.name Lib.Math.max.code 2 (some .int)) && decide (1 ≤ mi.2.2.2.2.1 ∧ 21 ≤ mi.2.2.2.2.2.2.2.1))))
      else ckC mth mi idx x y w tl && decide (w % 10 = 0 ∨ w % 10 = 1)
  | _ => true
def ckE (mth : List MI) (mi : MI) (pc : Nat) (e : Ent) : Bool := decide (decode mi.2.1 pc = .ok (e.1, lnI e.2.2.2.1 e.1)) && ckI mth mi pc e.2.1 e.2.2.1 e.2.2.2.1 e.2.2.2.2.1 e.2.2.2.2.2 e.1
def ckM (mth : List MI) (mi : MI) : Bool := mi.2.2.2.2.2.2.2.2.all (fun c => c.2.all (fun q => ckE mth mi q.1 q.2))
theorem ckM.at {mth : List MI} {mi : MI} (h : ckM mth mi = true) {pc : Nat} {e : Ent} (he : lkp mi.2.2.2.2.2.2.2.2 pc = some e) : ckE mth mi pc e = true := by
  unfold lkp at he
  obtain ⟨c, h1, h2⟩ := Option.bind_eq_some_iff.mp he
  obtain ⟨q, h3, h4⟩ := Option.map_eq_some_iff.mp h2
  have h5 := List.find?_some h3
  have h6 : q.1 = pc := Nat.eq_of_beq_eq_true h5
  subst h4
  subst h6
  exact List.all_eq_true.mp (List.all_eq_true.mp h c (List.mem_of_find?_eq_some h1)) q (List.mem_of_find?_eq_some h3)
