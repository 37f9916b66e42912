/-! A small machine beside the kit's: values are ints, longs, null, and references by family and number; one predicate Ev says that it ends, with what. -/
abbrev AV : Type := (Int32 ⊕ Int64) ⊕ Option (Nat × Nat)
abbrev aI (x : Int32) : AV := .inl (.inl x)
abbrev aL (x : Int64) : AV := .inl (.inr x)
abbrev aN : AV := .inr none
abbrev aR (F i : Nat) : AV := .inr (some (F, i))
def cv (ad : Nat → Nat → Nat) : AV → Value
  | .inl (.inl x) => .int x
  | .inl (.inr x) => .long x
  | .inr none => .null
  | .inr (some a) => .ref (ad a.1 a.2)
def aCat : AV → Nat
  | .inl (.inr _) => 2
  | _ => 1
def aCats (st : List AV) : Nat := (st.map aCat).sum
/-- the state: the cells that are there, their ints, longs and references -/
abbrev DS : Type := List (Nat × Nat) × (Nat → Nat → Nat → Int32) × (Nat → Nat → Nat → Int64) × (Nat → Nat → Nat → Option Nat)
def sI (S : DS) (F i j : Nat) (x : Int32) : DS := (S.1, (fun F' i' => if F' = F ∧ i' = i then upd (S.2.1 F i) j x else S.2.1 F' i'), S.2.2.1, S.2.2.2)
def sL (S : DS) (F i j : Nat) (x : Int64) : DS := (S.1, S.2.1, (fun F' i' => if F' = F ∧ i' = i then vp_updL (S.2.2.1 F i) j x else S.2.2.1 F' i'), S.2.2.2)
def sQ (S : DS) (F i j : Nat) (x : Option Nat) : DS := (S.1, S.2.1, S.2.2.1, (fun F' i' => if F' = F ∧ i' = i then va_up (S.2.2.2 F i) j x else S.2.2.2 F' i'))
def sRow (S : DS) (F i : Nat) (f : Nat → Int32) : DS := (S.1, (fun F' i' => if F' = F ∧ i' = i then f else S.2.1 F' i'), S.2.2.1, S.2.2.2)
def cntF (L : List (Nat × Nat)) (F : Nat) : Nat := (L.filter (fun q => Nat.beq q.1 F)).length
/-- a new cell: all 0 and null -/
def sNew (S : DS) (F i : Nat) : DS := (S.1 ++ [(F, i)], (fun F' i' => if F' = F ∧ i' = i then (fun _ => 0) else S.2.1 F' i'), (fun F' i' => if F' = F ∧ i' = i then (fun _ => 0) else S.2.2.1 F' i'), (fun F' i' => if F' = F ∧ i' = i then (fun _ => none) else S.2.2.2 F' i'))
/-- kinds of the fields: 0 int, 1 long, n + 2 a reference into family n -/
def kdL : List (List Nat) := [[1008, 1008], [2, 1014, 1050, 5008, 4010, 0, 0, 0, 1, 0, 0, 0, 0, 0, 0, 0], [3, 1006, 1006, 1006, 0, 0, 0], [1014, 1014, 1014, 1014, 0], [0, 0, 0, 0, 0, 0, 0, 0, 0], [0, 0, 0, 0, 0, 0, 0, 0, 1, 1], [2, 3, 4, 5, 3005, 0], [2220, 2656, 0, 1008, 1008, 0, 1014, 1014, 1014, 1014, 0, 0, 2024, 0, 0, 0, 0, 0]]
def nfT (F : Nat) : Nat := (kdL.getD F []).length
def kdT (F j : Nat) : Nat := (kdL.getD F []).getD j 0
/-- the family that an array of references points into -/
def arT (F : Nat) : Nat := bif Nat.beq (F / 1000) 3 then 1 else bif Nat.beq (F / 1000) 4 then 4 else 5
/-- how many slots a cell has -/
def szF (F : Nat) : Nat := bif Nat.ble 1000 F then F % 1000 else nfT F
def slz (L : List (Nat × Nat)) : Nat := (L.map (fun q => szF q.1)).sum
def rdF (S : DS) (F i j : Nat) : Nat → AV
  | 0 => aI (S.2.1 F i j)
  | 1 => aL (S.2.2.1 F i j)
  | n + 2 => .inr ((S.2.2.2 F i j).map (fun q => (n, q)))
/-- putting a value into a field -/
def wrF (S : DS) (F i j : Nat) : Nat → AV → Option DS
  | 0, .inl (.inl x) => some (sI S F i j x)
  | 1, .inl (.inr x) => some (sL S F i j x)
  | n + 2, .inr (some a) => bif Nat.beq a.1 n then some (sQ S F i j (some a.2)) else none
  | _, _ => none
def klO : Option AV → Option AV
  | some (.inl (.inr _)) => none
  | o => o
def klL (loc : List (Option AV)) : Nat → List (Option AV)
  | 0 => loc
  | i + 1 => loc.set i (klO (loc.getD i none))
def lst1 (loc : List (Option AV)) (i : Nat) (v : AV) : Option (List (Option AV)) := bif Nat.blt i loc.length then some ((klL loc i).set i (some v)) else none
def lst2 (loc : List (Option AV)) (i : Nat) (v : AV) : Option (List (Option AV)) := bif Nat.blt (i + 1) loc.length then some (((klL loc i).set i (some v)).set (i + 1) none) else none
/-- the locals of a call -/
def locG : List AV → List (Option AV)
  | [] => []
  | .inl (.inr x) :: r => some (aL x) :: none :: locG r
  | v :: r => some v :: locG r
def locA (n : Nat) (as : List AV) : List (Option AV) := locG as ++ List.replicate (n - (locG as).length) none
abbrev Ent : Type := Instr × Nat × Nat × Nat × Int × List Nat
abbrev e0 (i : Instr) : Ent := (i, 0, 0, 0, 0, [])
/-- a method: name, bytes, locals, answer, frames, cells, slots, local words, entries -/
abbrev MI : Type := MethodName × ByteArray × Nat × Option FieldType × Nat × Nat × Nat × Nat × List (Nat × List (Nat × Ent))
def lkp (es : List (Nat × List (Nat × Ent))) (pc : Nat) : Option Ent := (es.find? (fun c => Nat.blt pc c.1)).bind (fun c => (c.2.find? (fun q => Nat.beq q.1 pc)).map (fun q => q.2))
def icT : ClassFile.Cond → Int32 → Int32 → Prop
  | .eq, x, y => x = y
  | .ne, x, y => x ≠ y
  | .lt, x, y => x < y
  | .ge, x, y => y ≤ x
  | .gt, x, y => y < x
  | .le, x, y => x ≤ y
/-- what calls are: a method's number, arguments, state, and what holds behind it -/
abbrev RC : Type := Nat → List AV → DS → (Option AV → DS → Prop) → Prop
abbrev KC : Type := Nat → List (Option AV) → List AV → DS → Prop
def oneI (k : KC) (pc : Nat) (loc : List (Option AV)) (st : List AV) (S : DS) (f : Int32 → AV) : Prop := ∃ x r, st = aI x :: r ∧ k (pc + 1) loc (f x :: r) S
def oneL (k : KC) (pc : Nat) (loc : List (Option AV)) (st : List AV) (S : DS) (f : Int64 → AV) : Prop := ∃ x r, st = aL x :: r ∧ k (pc + 1) loc (f x :: r) S
def twoI (k : KC) (pc : Nat) (loc : List (Option AV)) (st : List AV) (S : DS) (f : Int32 → Int32 → AV) : Prop := ∃ x y r, st = aI y :: aI x :: r ∧ k (pc + 1) loc (f x y :: r) S
def twoL (k : KC) (pc : Nat) (loc : List (Option AV)) (st : List AV) (S : DS) (f : Int64 → Int64 → AV) : Prop := ∃ x y r, st = aL y :: aL x :: r ∧ k (pc + 1) loc (f x y :: r) S
def twoLI (k : KC) (pc : Nat) (loc : List (Option AV)) (st : List AV) (S : DS) (f : Int64 → Int32 → AV) : Prop := ∃ x y r, st = aI y :: aL x :: r ∧ k (pc + 1) loc (f x y :: r) S
def lodI (k : KC) (pc : Nat) (loc : List (Option AV)) (st : List AV) (S : DS) (i : Nat) : Prop := ∃ x, loc[i]? = some (some (aI x)) ∧ k pc loc (aI x :: st) S
def lodL (k : KC) (pc : Nat) (loc : List (Option AV)) (st : List AV) (S : DS) (i : Nat) : Prop := ∃ x, loc[i]? = some (some (aL x)) ∧ k pc loc (aL x :: st) S
def lodR (k : KC) (pc : Nat) (loc : List (Option AV)) (st : List AV) (S : DS) (i : Nat) : Prop := ∃ o, loc[i]? = some (some (.inr o)) ∧ k pc loc (.inr o :: st) S
def stoI (k : KC) (pc : Nat) (loc : List (Option AV)) (st : List AV) (S : DS) (i : Nat) : Prop := ∃ x r l', st = aI x :: r ∧ lst1 loc i (aI x) = some l' ∧ k pc l' r S
def stoL (k : KC) (pc : Nat) (loc : List (Option AV)) (st : List AV) (S : DS) (i : Nat) : Prop := ∃ x r l', st = aL x :: r ∧ lst2 loc i (aL x) = some l' ∧ k pc l' r S
def stoR (k : KC) (pc : Nat) (loc : List (Option AV)) (st : List AV) (S : DS) (i : Nat) : Prop := ∃ o r l', st = .inr o :: r ∧ lst1 loc i (.inr o) = some l' ∧ k pc l' r S
def icon (k : KC) (pc : Nat) (loc : List (Option AV)) (st : List AV) (S : DS) (v : AV) : Prop := k pc loc (v :: st) S
/-- the refs of a call's arguments are no script's -/
def noScr : List AV → Bool
  | [] => true
  | .inr (some a) :: r => !(Nat.beq a.1 900) && noScr r
  | _ :: r => noScr r
def callK (R : RC) (mth : Nat → Option MI) (cap : Nat × Nat) (k : KC) (x n pc : Nat) (loc : List (Option AV)) (st : List AV) (S : DS) : Prop :=
  ∃ mi, mth x = some mi ∧ n ≤ st.length ∧ aCats (st.drop n) ≤ 8 ∧ noScr (st.take n) = true ∧ S.1.length + mi.2.2.2.2.2.1 ≤ cap.1 ∧ slz S.1 + mi.2.2.2.2.2.2.1 ≤ cap.2 ∧ ∃ Ψ : Option AV → DS → Prop, R x ((st.take n).reverse) S Ψ ∧ ∀ v S', Ψ v S' → k (pc + 3) loc (v.toList ++ st.drop n) S'
def StepI (R : RC) (mth : Nat → Option MI) (cap : Nat × Nat) (sc : Nat × (Nat → Int32)) (ret : Option AV → DS → Prop) (k : KC) (x y w : Nat) (z : Int) (tl : List Nat) (pc : Nat) (loc : List (Option AV)) (st : List AV) (S : DS) (ins : Instr) : Prop :=
  match ins with
  | .iload_n i => lodI k (pc + 1) loc st S i
  | .iload i => lodI k (pc + 2) loc st S i
  | .lload_n i => lodL k (pc + 1) loc st S i
  | .lload i => lodL k (pc + 2) loc st S i
  | .aload_n i => lodR k (pc + 1) loc st S i
  | .aload i => lodR k (pc + 2) loc st S i
  | .istore_n i => stoI k (pc + 1) loc st S i
  | .istore i => stoI k (pc + 2) loc st S i
  | .lstore_n i => stoL k (pc + 1) loc st S i
  | .lstore i => stoL k (pc + 2) loc st S i
  | .astore_n i => stoR k (pc + 1) loc st S i
  | .astore i => stoR k (pc + 2) loc st S i
  | .iinc i n => ∃ v l', loc[i]? = some (some (aI v)) ∧ lst1 loc i (aI (v + Int32.ofInt n)) = some l' ∧ k (pc + 3) l' st S
  | .iconst n => icon k (pc + 1) loc st S (aI (Int32.ofInt n))
  | .bipush n => icon k (pc + 2) loc st S (aI (Int8.ofInt n).toInt32)
  | .sipush n => icon k (pc + 3) loc st S (aI (Int16.ofInt n).toInt32)
  | .lconst n => icon k (pc + 1) loc st S (aL (Int64.ofNat (n : Nat)))
  | .aconst_null => icon k (pc + 1) loc st S aN
  | .ldc _ => icon k (pc + 2) loc st S (aI (Int32.ofInt z))
  | .ldc_w _ => icon k (pc + 3) loc st S (aI (Int32.ofInt z))
  | .ldc2_w _ => icon k (pc + 3) loc st S (aL (Int64.ofInt z))
  | .iadd => twoI k pc loc st S (fun a b => aI (a + b))
  | .isub => twoI k pc loc st S (fun a b => aI (a - b))
  | .imul => twoI k pc loc st S (fun a b => aI (a * b))
  | .iand => twoI k pc loc st S (fun a b => aI (a &&& b))
  | .ior => twoI k pc loc st S (fun a b => aI (a ||| b))
  | .ixor => twoI k pc loc st S (fun a b => aI (a ^^^ b))
  | .ishl => twoI k pc loc st S (fun a b => aI (a <<< (b &&& 31)))
  | .ishr => twoI k pc loc st S (fun a b => aI (a >>> (b &&& 31)))
  | .iushr => twoI k pc loc st S (fun a b => aI (a.toUInt32 >>> (b.toUInt32 &&& Int32.toUInt32 31)).toInt32)
  | .idiv => ∃ a b r, st = aI b :: aI a :: r ∧ ¬ b = 0 ∧ k (pc + 1) loc (aI (a / b) :: r) S
  | .irem => ∃ a b r, st = aI b :: aI a :: r ∧ ¬ b = 0 ∧ k (pc + 1) loc (aI (a - a / b * b) :: r) S
  | .ladd => twoL k pc loc st S (fun a b => aL (a + b))
  | .lsub => twoL k pc loc st S (fun a b => aL (a - b))
  | .lmul => twoL k pc loc st S (fun a b => aL (a * b))
  | .land => twoL k pc loc st S (fun a b => aL (a &&& b))
  | .lor => twoL k pc loc st S (fun a b => aL (a ||| b))
  | .lxor => twoL k pc loc st S (fun a b => aL (a ^^^ b))
  | .lcmp => twoL k pc loc st S (fun a b => aI (lg_cmp a b))
  | .ldiv => ∃ a b r, st = aL b :: aL a :: r ∧ ¬ b = 0 ∧ k (pc + 1) loc (aL (a / b) :: r) S
  | .lshl => twoLI k pc loc st S (fun a b => aL (a <<< (b.toInt64 &&& 63)))
  | .lshr => twoLI k pc loc st S (fun a b => aL (a >>> (b.toInt64 &&& 63)))
  | .lushr => twoLI k pc loc st S (fun a b => aL (a.toUInt64 >>> (b.toInt64.toUInt64 &&& Int64.toUInt64 63)).toInt64)
  | .i2l => oneI k pc loc st S (fun a => aL a.toInt64)
  | .l2i => oneL k pc loc st S (fun a => aI a.toInt32)
  | .dup => ∃ a r, st = a :: r ∧ aCat a = 1 ∧ k (pc + 1) loc (a :: a :: r) S
  | .dup2 => ∃ a b r, st = a :: b :: r ∧ aCat a = 1 ∧ aCat b = 1 ∧ k (pc + 1) loc (a :: b :: a :: b :: r) S
  | .pop => ∃ a r, st = a :: r ∧ aCat a = 1 ∧ k (pc + 1) loc r S
  | .pop2 => ∃ a r, st = a :: r ∧ aCat a = 2 ∧ k (pc + 1) loc r S
  | .goto _ => k x loc st S
  | .ifCond c _ => ∃ a r, st = aI a :: r ∧ (icT c a 0 → k x loc r S) ∧ (¬ icT c a 0 → k (pc + 3) loc r S)
  | .if_icmp c _ => ∃ a b r, st = aI b :: aI a :: r ∧ (icT c a b → k x loc r S) ∧ (¬ icT c a b → k (pc + 3) loc r S)
  | .ifnull _ => ∃ o r, st = .inr o :: r ∧ (o = none → k x loc r S) ∧ (∀ a, o = some a → k (pc + 3) loc r S)
  | .ifnonnull _ => ∃ o r, st = .inr o :: r ∧ (o = none → k (pc + 3) loc r S) ∧ (∀ a, o = some a → k x loc r S)
  | .tableswitch _ lo hi _ => ∃ v r, st = aI v :: r ∧ (v.toInt < lo ∨ hi < v.toInt → k x loc r S) ∧ (∀ (n t : Nat), tl[n]? = some t → v.toInt = lo + (n : Int) → k t loc r S)
  | .lookupswitch _ ps => ∃ v r, st = aI v :: r ∧ ((∀ q : Int × Int, q ∈ ps.toList → q.1 ≠ v.toInt) → k x loc r S) ∧ (∀ (n t : Nat) (q : Int × Int), tl[n]? = some t → ps.toList[n]? = some q → v.toInt = q.1 → k t loc r S)
  | .getfield _ => ∃ i r, st = aR x i :: r ∧ k (pc + 3) loc (rdF S x i y w :: r) S
  | .putfield _ => ∃ v i r S', st = v :: aR x i :: r ∧ wrF S x i y w v = some S' ∧ k (pc + 3) loc r S'
  | .iaload => (∃ n F i r, st = aI n :: aR F i :: r ∧ F / 1000 = 1 ∧ vp_in n (F % 1000) ∧ k (pc + 1) loc (aI (S.2.1 F i n.toNatClampNeg) :: r) S) ∨ (∃ n r, st = aI n :: aR 900 0 :: r ∧ vp_in n sc.1 ∧ k (pc + 1) loc (aI (sc.2 n.toNatClampNeg) :: r) S)
  | .laload => ∃ n F i r, st = aI n :: aR F i :: r ∧ F / 1000 = 2 ∧ vp_in n (F % 1000) ∧ k (pc + 1) loc (aL (S.2.2.1 F i n.toNatClampNeg) :: r) S
  | .aaload => ∃ n F i r, st = aI n :: aR F i :: r ∧ 3 ≤ F / 1000 ∧ vp_in n (F % 1000) ∧ k (pc + 1) loc (.inr ((S.2.2.2 F i n.toNatClampNeg).map (fun q => (arT F, q))) :: r) S
  | .iastore => ∃ v n F i r, st = aI v :: aI n :: aR F i :: r ∧ F / 1000 = 1 ∧ vp_in n (F % 1000) ∧ k (pc + 1) loc r (sI S F i n.toNatClampNeg v)
  | .lastore => ∃ v n F i r, st = aL v :: aI n :: aR F i :: r ∧ F / 1000 = 2 ∧ vp_in n (F % 1000) ∧ k (pc + 1) loc r (sL S F i n.toNatClampNeg v)
  | .aastore => ∃ u n F i r, st = aR (arT F) u :: aI n :: aR F i :: r ∧ 3 ≤ F / 1000 ∧ vp_in n (F % 1000) ∧ k (pc + 1) loc r (sQ S F i n.toNatClampNeg (some u))
  | .arraylength => (∃ F i r, st = aR F i :: r ∧ 1000 ≤ F ∧ k (pc + 1) loc (aI (Int32.ofNat (F % 1000)) :: r) S) ∨ (∃ r, st = aR 900 0 :: r ∧ k (pc + 1) loc (aI (Int32.ofNat sc.1) :: r) S)
  | .new _ => S.1.length + 1 ≤ cap.1 ∧ slz S.1 + nfT x ≤ cap.2 ∧ k (pc + 3) loc (aR x (cntF S.1 x) :: st) (sNew S x (cntF S.1 x))
  | .newarray _ => ∃ n r N, st = aI n :: r ∧ ¬ n < 0 ∧ n.toNatClampNeg = N ∧ N < 1000 ∧ S.1.length + 1 ≤ cap.1 ∧ slz S.1 + N ≤ cap.2 ∧ k (pc + 2) loc (aR (x + N) (cntF S.1 (x + N)) :: r) (sNew S (x + N) (cntF S.1 (x + N)))
  | .anewarray _ => ∃ n r N, st = aI n :: r ∧ ¬ n < 0 ∧ n.toNatClampNeg = N ∧ N < 1000 ∧ S.1.length + 1 ≤ cap.1 ∧ slz S.1 + N ≤ cap.2 ∧ k (pc + 3) loc (aR (x + N) (cntF S.1 (x + N)) :: r) (sNew S (x + N) (cntF S.1 (x + N)))
  | .invokevirtual _ => (∃ a i b, st[y]? = some (aR a i) ∧ a = b ∧ b = w / 10) ∧ callK R mth cap k x (y + 1) pc loc st S
  | .invokespecial _ => if w = 6 then ∃ F i r, st = aR F i :: r ∧ aCats r ≤ 8 ∧ k (pc + 3) loc r S else (∃ a i, st[y]? = some (aR a i)) ∧ callK R mth cap k x (y + 1) pc loc st S
  | .invokestatic _ => if w = 7 then ∃ n d F' i' s F i r, st = aI n :: aI d :: aR F' i' :: aI s :: aR F i :: r ∧ F / 1000 = 1 ∧ F' / 1000 = 1 ∧ ¬ s < 0 ∧ ¬ d < 0 ∧ ¬ n < 0 ∧ s.toNatClampNeg + n.toNatClampNeg ≤ F % 1000 ∧ d.toNatClampNeg + n.toNatClampNeg ≤ F' % 1000 ∧ aCats r ≤ 8 ∧ k (pc + 3) loc r (sRow S F' i' (va_cpy (S.2.1 F i) (S.2.1 F' i') s.toNatClampNeg d.toNatClampNeg n.toNatClampNeg)) else if w = 8 then ∃ a b r, st = aI b :: aI a :: r ∧ aCats r ≤ 8 ∧ S.1.length ≤ cap.1 ∧ slz S.1 ≤ cap.2 ∧ k (pc + 3) loc (aI (if a < b then b else a) :: r) S else callK R mth cap k x y pc loc st S
  | .ireturn => ∃ v, st = [aI v] ∧ ret (some (aI v)) S
  | .lreturn => ∃ v, st = [aL v] ∧ ret (some (aL v)) S
  | .areturn => ∃ o, st = [.inr o] ∧ ret (some (.inr o)) S
  | .return_ => st = [] ∧ ret none S
  | _ => False
def Step (R : RC) (mth : Nat → Option MI) (cap : Nat × Nat) (sc : Nat × (Nat → Int32)) (ret : Option AV → DS → Prop) (tb : Nat → Option Ent) (k : KC) (pc : Nat) (loc : List (Option AV)) (st : List AV) (S : DS) : Prop :=
  ∃ e : Ent, tb pc = some e ∧ StepI R mth cap sc ret k e.2.1 e.2.2.1 e.2.2.2.1 e.2.2.2.2.1 e.2.2.2.2.2 pc loc st S e.1
/-- from here it comes to an end with 'ret': the least such predicate -/
def Ev (R : RC) (mth : Nat → Option MI) (cap : Nat × Nat) (sc : Nat × (Nat → Int32)) (ret : Option AV → DS → Prop) (tb : Nat → Option Ent) (pc : Nat) (loc : List (Option AV)) (st : List AV) (S : DS) : Prop :=
  ∀ P : KC, (∀ pc loc st S, Step R mth cap sc ret tb P pc loc st S → P pc loc st S) → P pc loc st S
set_option maxHeartbeats 4000000 in
theorem StepI.mono {R : RC} {mth : Nat → Option MI} {cap : Nat × Nat} {sc : Nat × (Nat → Int32)} {ret : Option AV → DS → Prop} {k k' : KC} {x y w : Nat} {z : Int} {tl : List Nat} {pc : Nat} {loc : List (Option AV)} {st : List AV} {S : DS} {ins : Instr}
    (hk : ∀ pc loc st S, k pc loc st S → k' pc loc st S) (h : StepI R mth cap sc ret k x y w z tl pc loc st S ins) : StepI R mth cap sc ret k' x y w z tl pc loc st S ins := by
  have hc : ∀ n, callK R mth cap k x n pc loc st S → callK R mth cap k' x n pc loc st S := fun n ⟨mi, a1, a2, a3, a4, a5, a6, Ψ, a7, a8⟩ => ⟨mi, a1, a2, a3, a4, a5, a6, Ψ, a7, fun v S' h => hk _ _ _ _ (a8 v S' h)⟩
  cases ins <;> first
    | exact h
    | exact hk _ _ _ _ h
    | (obtain ⟨a1, a2, h⟩ := h; exact ⟨a1, a2, hk _ _ _ _ h⟩)
    | (obtain ⟨a1, a2, a3, h⟩ := h; exact ⟨a1, a2, a3, hk _ _ _ _ h⟩)
    | (obtain ⟨a1, a2, a3, a4, h⟩ := h; exact ⟨a1, a2, a3, a4, hk _ _ _ _ h⟩)
    | (obtain ⟨a1, a2, a3, a4, a5, h⟩ := h; exact ⟨a1, a2, a3, a4, a5, hk _ _ _ _ h⟩)
    | (obtain ⟨a1, a2, a3, a4, a5, a6, h⟩ := h; exact ⟨a1, a2, a3, a4, a5, a6, hk _ _ _ _ h⟩)
    | (obtain ⟨a1, a2, a3, a4, a5, a6, a7, h⟩ := h; exact ⟨a1, a2, a3, a4, a5, a6, a7, hk _ _ _ _ h⟩)
    | (obtain ⟨a1, a2, a3, a4, a5, a6, a7, a8, h⟩ := h; exact ⟨a1, a2, a3, a4, a5, a6, a7, a8, hk _ _ _ _ h⟩)
    | (obtain ⟨a1, a2, a3, a4, a5, a6, a7, a8, a9, h⟩ := h; exact ⟨a1, a2, a3, a4, a5, a6, a7, a8, a9, hk _ _ _ _ h⟩)
    | (obtain ⟨a1, a2, a3, h, h'⟩ := h; exact ⟨a1, a2, a3, fun q => hk _ _ _ _ (h q), fun q => hk _ _ _ _ (h' q)⟩)
    | (obtain ⟨a1, a2, a3, a4, h, h'⟩ := h; exact ⟨a1, a2, a3, a4, fun q => hk _ _ _ _ (h q), fun q => hk _ _ _ _ (h' q)⟩)
    | (obtain ⟨a1, a2, a3, h, h'⟩ := h; exact ⟨a1, a2, a3, fun q => hk _ _ _ _ (h q), fun a q => hk _ _ _ _ (h' a q)⟩)
    | (obtain ⟨a1, a2, a3, h, h'⟩ := h; exact ⟨a1, a2, a3, fun q => hk _ _ _ _ (h q), fun a b c q => hk _ _ _ _ (h' a b c q)⟩)
    | (obtain ⟨a1, a2, a3, h, h'⟩ := h; exact ⟨a1, a2, a3, fun q => hk _ _ _ _ (h q), fun a b c d e q => hk _ _ _ _ (h' a b c d e q)⟩)
    | (rcases h with ⟨a1, a2, a3, a4, a5, a6, a7, h⟩ | ⟨a1, a2, a3, a4, h⟩; exact Or.inl ⟨a1, a2, a3, a4, a5, a6, a7, hk _ _ _ _ h⟩; exact Or.inr ⟨a1, a2, a3, a4, hk _ _ _ _ h⟩)
    | (rcases h with ⟨a1, a2, a3, a4, a5, h⟩ | ⟨a1, a2, h⟩; exact Or.inl ⟨a1, a2, a3, a4, a5, hk _ _ _ _ h⟩; exact Or.inr ⟨a1, a2, hk _ _ _ _ h⟩)
    | exact ⟨h.1, hc _ h.2⟩
    | (by_cases hw : w = 6
       · simp only [StepI, hw, if_true] at h ⊢
         obtain ⟨a1, a2, a3, a4, a5, h⟩ := h
         exact ⟨a1, a2, a3, a4, a5, hk _ _ _ _ h⟩
       · simp only [StepI, hw, if_false] at h ⊢
         exact ⟨h.1, hc _ h.2⟩)
    | (by_cases hw : w = 7
       · simp only [StepI, hw, if_true] at h ⊢
         obtain ⟨a1, a2, a3, a4, a5, a6, a7, a8, a9, b1, b2, b3, b4, b5, b6, b7, b8, h⟩ := h
         exact ⟨a1, a2, a3, a4, a5, a6, a7, a8, a9, b1, b2, b3, b4, b5, b6, b7, b8, hk _ _ _ _ h⟩
       · by_cases hw8 : w = 8
         · subst hw8
           obtain ⟨a1, a2, a3, a4, a5, a6, a7, h⟩ := h
           exact ⟨a1, a2, a3, a4, a5, a6, a7, hk _ _ _ _ h⟩
         · simp only [StepI, hw, hw8, if_false] at h ⊢
           exact hc _ h)
theorem Ev.mk {R : RC} {mth : Nat → Option MI} {cap : Nat × Nat} {sc : Nat × (Nat → Int32)} {ret : Option AV → DS → Prop} {tb : Nat → Option Ent} {pc : Nat} {loc : List (Option AV)} {st : List AV} {S : DS} (h : Step R mth cap sc ret tb (Ev R mth cap sc ret tb) pc loc st S) : Ev R mth cap sc ret tb pc loc st S := by
  intro P hP
  obtain ⟨e, he, hs⟩ := h
  exact hP _ _ _ _ ⟨e, he, hs.mono (fun pc loc st S h => h P hP)⟩
/-- a method's answer: of the right kind, with its cells and slots all used -/
def rtok : Option FieldType → Option AV → Prop
  | none, v => v = none
  | some .long, v => ∃ x, v = some (aL x)
  | some (.object _), v => ∃ o, v = some (.inr o)
  | some ty, v => ∃ x, v = some (aI x) ∧ narrow ty (.int x) = .int x
def retP (rt : Option FieldType) (cap : Nat × Nat) (Φ : Option AV → DS → Prop) (v : Option AV) (S : DS) : Prop := rtok rt v ∧ S.1.length = cap.1 ∧ slz S.1 = cap.2 ∧ Φ v S
def capOf (mi : MI) (S : DS) : Nat × Nat := (S.1.length + mi.2.2.2.2.2.1, slz S.1 + mi.2.2.2.2.2.2.1)
def EvM (mth : Nat → Option MI) : Nat → RC
  | 0, _, _, _, _ => False
  | d + 1, j, as, S, Φ => ∃ mi, mth j = some mi ∧ (locG as).length ≤ mi.2.2.1 ∧ Ev (EvM mth d) mth (capOf mi S) (0, fun _ => 0) (retP mi.2.2.2.1 (capOf mi S) Φ) (lkp mi.2.2.2.2.2.2.2.2) 0 (locA mi.2.2.1 as) [] S
