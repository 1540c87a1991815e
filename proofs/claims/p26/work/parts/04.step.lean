def aFld (o x : Nat) : Option (Nat × Nat × Nat × Nat × Bool × Bool × Nat) := aFldT.find? (fun e => e.1 == o && e.2.1 == x)
def aCal (o x : Nat) : Option aCE := aCalT.find? (fun e => e.1 == o && e.2.1 == x)
def aInt (o x : Nat) : Option (Nat × Nat × Int32 × Nat) := aIntT.find? (fun e => e.1 == o && e.2.1 == x)
def aLng (o x : Nat) : Option (Nat × Nat × Int64 × Nat) := aLngT.find? (fun e => e.1 == o && e.2.1 == x)
def aStr (o x : Nat) : Option (Nat × Nat × Nat × Nat) := aStrT.find? (fun e => e.1 == o && e.2.1 == x)
def aGet (o x : Nat) : Option (Nat × Nat × Nat × Bool × String × Nat) := aGetT.find? (fun e => e.1 == o && e.2.1 == x)
def aNwo (o x : Nat) : Option (Nat × Nat × Nat × Nat × List Nat) := aNewT.find? (fun e => e.1 == o && e.2.1 == x)
/-- the type of place j of the class of kind c -/
def aTy (c j : Nat) : FieldType := match vwCl[c]? with
  | some q => (parseFieldDescriptor (q.2.1 j).2.2.1).getD .int
  | none => .int
def aInB (i : Int32) (n : Nat) : Bool := decide (0 ≤ i) && decide (i.toNatClampNeg < n)
/-- an array's kind: of int, byte, or rows of int -/
def aKd (S : aS) (a : Nat) : Nat := aK S a % 1000
def aALd (k : Nat) (np : Nat) (L : List (Option Value)) (st : List Value) (S : aS) (I : aI) : Option aA := match st with
  | .int i :: .ref a :: r => if aKd S a = k ∧ aInB i (aN S a) = true then aGo np L (.int (I a i.toNatClampNeg) :: r) S I else none
  | _ => none
def aASt (k : Nat) (f : Int32 → Int32) (np : Nat) (L : List (Option Value)) (st : List Value) (S : aS) (I : aI) : Option aA := match st with
  | .int x :: .int i :: .ref a :: r => if aK S a = k ∧ aInB i (aN S a) = true then aGo np L r S (aW I a i.toNatClampNeg (f x)) else none
  | _ => none
def aAR (np : Nat) (L : List (Option Value)) (st : List Value) (S : aS) (I : aI) : Option aA := match st with
  | .int i :: .ref a :: r => if aKd S a = 102 ∧ aInB i (aN S a) = true then aGo np L (va_rf (aP S a i.toNatClampNeg) :: r) S I else none
  | _ => none
def aASR (np : Nat) (L : List (Option Value)) (st : List Value) (S : aS) (I : aI) : Option aA := match st with
  | .ref b :: .int i :: .ref a :: r => if aK S a = 102 ∧ aInB i (aN S a) = true ∧ aK S b = 100 then aGo np L r (aPut S a i.toNatClampNeg (some b)) I else none
  | _ => none
def aGetF (o x np : Nat) (L : List (Option Value)) (st : List Value) (S : aS) (I : aI) : Option aA := match aFld o x with
  | none => none
  | some e => match st with
    | .ref a :: r => if aKd S a = e.2.2.1 then aGo np L ((if e.2.2.2.2.1 = true then va_rf (aP S a e.2.2.2.1) else .int (I a e.2.2.2.1)) :: r) S I else none
    | _ => none
/-- a value of a reference type, as aP holds it -/
def aRo : Value → Option (Option Nat)
  | .ref b => some (some b)
  | .null => some none
  | _ => none
def aPutF (o x : Nat) (ini : Bool) (np : Nat) (L : List (Option Value)) (st : List Value) (S : aS) (I : aI) : Option aA := match aFld o x with
  | none => none
  | some e => match st with
    | v :: .ref a :: r => if aK S a = e.2.2.1 ∧ (e.2.2.2.2.2.1 = true → ini = true ∧ o = e.2.2.1) ∧ narrow (aTy e.2.2.1 e.2.2.2.1) v = v ∧ fits (aTy e.2.2.1 e.2.2.2.1) v = true then
        if e.2.2.2.2.1 = true then match aRo v with
          | some q => aGo np L r (aPut S a e.2.2.2.1 q) I
          | none => none
        else match v with
          | .int y => aGo np L r S (aW I a e.2.2.2.1 y)
          | _ => none
      else none
    | _ => none
def aNewA (k b : Nat) (np : Nat) (L : List (Option Value)) (st : List Value) (S : aS) (I : aI) : Option aA := match st with
  | .int n :: r => if 0 ≤ n ∧ n.toNatClampNeg * b ≤ 536870912 then aGo np L (.ref (aX S) :: r) (aNew S k n.toNatClampNeg n.toNatClampNeg) (aU I (aX S) (fun _ => 0)) else none
  | _ => none
/-- n rows of k numbers behind the address of their array -/
def aMulS (S : aS) (n k : Nat) : aS := (fun b => if b = aX S then 102 else if aX S < b ∧ b ≤ aX S + n then 100 else aK S b, fun b => if b = aX S then n else if aX S < b ∧ b ≤ aX S + n then k else aN S b,
  fun b => if b = aX S then (fun j => if j < n then some (aX S + 1 + j) else none) else if aX S < b ∧ b ≤ aX S + n then (fun _ => none) else aP S b, aX S + 1 + n, aZ S + n + n * k)
def aMulI (S : aS) (I : aI) (n : Nat) : aI := fun b => if aX S ≤ b ∧ b ≤ aX S + n then (fun _ => 0) else I b
def aCat (l : List Value) : Nat := (l.map fun v => v.category).sum
def aHas (T : List (Nat × Nat × Nat)) (o x : Nat) : Bool := T.any (fun e => e.1 == o && e.2.1 == x)
def aByt (f : Nat → Int32) (sp n : Nat) : Bool := (List.range n).all (fun j => fits .byte (.int (f (sp + j))))
def aCopy (np : Nat) (L : List (Option Value)) (st : List Value) (S : aS) (I : aI) : Option aA := match st with
  | .int n :: .int dp :: .ref a :: .int sp :: .ref b :: r => if 0 ≤ sp ∧ 0 ≤ dp ∧ 0 ≤ n ∧ sp.toNatClampNeg + n.toNatClampNeg ≤ aN S b ∧ dp.toNatClampNeg + n.toNatClampNeg ≤ aN S a ∧ aCat r ≤ 8 ∧ (aKd S b = 100 ∧ aK S a = 100 ∨ aKd S b = 101 ∧ aK S a = 101 ∧ aByt (I b) sp.toNatClampNeg n.toNatClampNeg = true) then
      aGo np L r S (aU I a (va_cpy (I b) (I a) sp.toNatClampNeg dp.toNatClampNeg n.toNatClampNeg)) else none
  | _ => none
def aMth (o x : Nat) : Option (Nat × Nat × Nat × Nat) := aMthT.find? (fun e => e.1 == o && e.2.1 == x)
def aMath (k np : Nat) (L : List (Option Value)) (st : List Value) (S : aS) (I : aI) : Option aA := match k with
  | 0 => (match st with
    | .int y :: .int x :: r => if aCat r ≤ 8 then aGo np L (.int (if y < x then y else x) :: r) S I else none
    | _ => none)
  | 1 => (match st with
    | .int y :: .int x :: r => if aCat r ≤ 8 then aGo np L (.int (if x < y then y else x) :: r) S I else none
    | _ => none)
  | _ => (match st with
    | .int x :: r => if aCat r ≤ 8 then aGo np L (.int (if 0 ≤ x then x else 0 - x) :: r) S I else none
    | _ => none)
def aClone (np : Nat) (L : List (Option Value)) (st : List Value) (S : aS) (I : aI) : Option aA := match st with
  | .ref a :: r => if aK S a = 101 ∧ aByt (I a) 0 (aN S a) = true ∧ aCat r ≤ 8 then aGo np L (.ref (aX S) :: r) (aNew S 101 (aN S a) (aN S a)) (aU I (aX S) (I a)) else none
  | _ => none
def aRet (ret : Option FieldType) (p : Value → Bool) (st : List Value) : Option aA := match st with
  | [v] => match ret with
    | some ty => if p v = true ∧ narrow ty v = v then some (.inr (.inl (some v))) else none
    | none => none
  | _ => none
def aArg : Value → Bool
  | .int _ => true
  | .ref _ => true
  | .null => true
  | _ => false
/-- by which instruction: 0 static, 1 virtual, 2 special -/
def aKnd (k : Nat) : Nat := if k = 0 ∨ k = 3 ∨ k = 8 then 0 else if k = 2 ∨ k = 5 ∨ k = 7 then 2 else 1
/-- a call: the arguments off the stack, the receiver (if there is one) below them, of the kind that the entry says -/
def aCall (q o x : Nat) (st : List Value) (S : aS) : Option aA := match aCal o x with
  | none => none
  | some e => if aKnd e.2.2.1 = q then (if q = 0 then (
      if e.2.2.2.2.2.2.1 ≤ st.length ∧ (st.take e.2.2.2.2.2.2.1).all aArg = true ∧ aCat (st.drop e.2.2.2.2.2.2.1) ≤ 8 then some (.inr (.inr (e, (st.take e.2.2.2.2.2.2.1).reverse, st.drop e.2.2.2.2.2.2.1))) else none)
    else match st.drop e.2.2.2.2.2.2.1 with
      | .ref b :: r => if e.2.2.2.2.2.2.1 ≤ st.length ∧ (st.take e.2.2.2.2.2.2.1).all aArg = true ∧ aCat r ≤ 8 ∧ (e.2.2.1 = 2 ∨ e.2.2.1 = 5 ∨ (vwCl[aKd S b]?).map (fun q => q.1) = some e.2.2.2.2.2.2.2.1) then
          some (.inr (.inr (e, .ref b :: (st.take e.2.2.2.2.2.2.1).reverse, r))) else none
      | _ => none) else none
/-- a constructor of Object: nothing -/
def aObj (o x : Nat) (np : Nat) (L : List (Option Value)) (st : List Value) (S : aS) (I : aI) : Option aA := match st with
  | .ref _ :: r => if aObjT.contains (o, x) = true ∧ aCat r ≤ 8 then aGo np L r S I else none
  | _ => none
def aIns (E : Nat → Value) (F : aF) (ins : Instr) (pc np : Nat) (L : List (Option Value)) (st : List Value) (S : aS) (I : aI) : Option aA := match ins with
  | .iload n => aLd aIsI n np L st S I
  | .iload_n n => aLd aIsI n np L st S I
  | .aload n => aLd aIsR n np L st S I
  | .aload_n n => aLd aIsR n np L st S I
  | .lload n => aLd aIsL n np L st S I
  | .lload_n n => aLd aIsL n np L st S I
  | .istore n => aSt aIsI F.2.2.2.1 n np L st S I
  | .istore_n n => aSt aIsI F.2.2.2.1 n np L st S I
  | .astore n => aSt aIsR F.2.2.2.1 n np L st S I
  | .astore_n n => aSt aIsR F.2.2.2.1 n np L st S I
  | .lstore n => aStL F.2.2.2.1 n np L st S I
  | .lstore_n n => aStL F.2.2.2.1 n np L st S I
  | .iinc n k => (match L[n]? with
    | some (some (.int x)) => if n ≠ F.2.2.2.1 ∨ aNo2 L n = true then aGo np (L.set n (some (.int (x + Int32.ofInt k)))) st S I else none
    | _ => none)
  | .iconst i => aGo np L (.int (Int32.ofInt i) :: st) S I
  | .bipush i => aGo np L (.int (Int8.ofInt i).toInt32 :: st) S I
  | .sipush i => aGo np L (.int (Int16.ofInt i).toInt32 :: st) S I
  | .dconst 0 => aGo np L (.double FP.dconst0 :: st) S I
  | .aconst_null => aGo np L (.null :: st) S I
  | .ldc x => (match aInt F.1 x with
    | some e => aGo np L (.int e.2.2.1 :: st) S I
    | none => match aStr F.1 x with
      | some e => (match E e.2.2.1 with
        | .ref a => aGo np L (.ref a :: st) S I
        | _ => none)
      | none => none)
  | .ldc2_w x => (match aLng F.1 x with
    | some e => aGo np L (.long e.2.2.1 :: st) S I
    | none => none)
  | .iadd => aB (fun a b => a + b) np L st S I
  | .isub => aB (fun a b => a - b) np L st S I
  | .imul => aB (fun a b => a * b) np L st S I
  | .idiv => aB0 (fun a b => a / b) np L st S I
  | .irem => aB0 (fun a b => a - a / b * b) np L st S I
  | .iand => aB (fun a b => a &&& b) np L st S I
  | .ior => aB (fun a b => a ||| b) np L st S I
  | .ishl => aB (fun a b => a <<< (b &&& 31)) np L st S I
  | .ishr => aB (fun a b => a >>> (b &&& 31)) np L st S I
  | .ineg => aU1 (fun a => .int (-a)) np L st S I
  | .i2l => aU1 (fun a => .long a.toInt64) np L st S I
  | .i2b => aU1 (fun a => .int a.toInt8.toInt32) np L st S I
  | .i2c => aU1 (fun a => .int (a.toUInt32 % 65536).toInt32) np L st S I
  | .i2d => aU1 (fun a => .double (FP.i2d a)) np L st S I
  | .ladd => aBL (fun a b => .long (a + b)) np L st S I
  | .lmul => aBL (fun a b => .long (a * b)) np L st S I
  | .lcmp => aBL (fun a b => .int (lg_cmp a b)) np L st S I
  | .ddiv => (match st with
    | .double y :: .double x :: r => if FP.ddiv x y &&& 0x7fffffffffffffff ≤ 0x7ff0000000000000 then aGo np L (.double (FP.ddiv x y) :: r) S I else none
    | _ => none)
  | .dcmp op => (match st with
    | .double y :: .double x :: r => aGo np L (.int (Op.cmpValue (FP.dcmp x y) op) :: r) S I
    | _ => none)
  | .pop => (match st with
    | v :: r => if v.category = 1 then aGo np L r S I else none
    | _ => none)
  | .dup => (match st with
    | v :: r => if v.category = 1 then aGo np L (v :: v :: r) S I else none
    | _ => none)
  | .dup2 => (match st with
    | v :: w :: r => if v.category = 1 ∧ w.category = 1 then aGo np L (v :: w :: v :: w :: r) S I else none
    | _ => none)
  | .goto off => aJmp pc off L st S I
  | .ifCond c off => (match st with
    | .int x :: r => if aCmp c x 0 = true then aJmp pc off L r S I else if 0 ≤ (pc : Int) + off then aGo np L r S I else none
    | _ => none)
  | .if_icmp c off => (match st with
    | .int y :: .int x :: r => if aCmp c x y = true then aJmp pc off L r S I else if 0 ≤ (pc : Int) + off then aGo np L r S I else none
    | _ => none)
  | .ifnonnull off => (match st with
    | .ref _ :: r => aJmp pc off L r S I
    | .null :: r => aGo np L r S I
    | _ => none)
  | .ifnull off => (match st with
    | .ref _ :: r => aGo np L r S I
    | .null :: r => aJmp pc off L r S I
    | _ => none)
  | .tableswitch d lo hi offs => (match st with
    | .int x :: r => if x.toInt < lo ∨ hi < x.toInt then aJmp pc d L r S I else (match offs[(x.toInt - lo).toNat]? with
      | some off => aJmp pc off L r S I
      | none => none)
    | _ => none)
  | .lookupswitch d ps => (match st with
    | .int x :: r => if (ps.toList.zip (ps.toList.drop 1)).all (fun q => q.1.1 < q.2.1) = true then aJmp pc (Op.lookupswitch.offset ps.toList d x.toInt) L r S I else none
    | _ => none)
  | .getfield x => aGetF F.1 x np L st S I
  | .putfield x => aPutF F.1 x F.2.2.2.2 np L st S I
  | .getstatic x => (match aGet F.1 x with
    | some e => aGo np L (E e.2.2.1 :: st) S I
    | none => none)
  | .newarray .int => aNewA 100 4 np L st S I
  | .newarray .byte => aNewA 101 1 np L st S I
  | .anewarray x => if aHas aAnwT F.1 x = true then aNewA 102 4 np L st S I else none
  | .multianewarray x 2 => if aHas aMulT F.1 x = true then (match st with
    | .int k :: .int n :: r => if 0 ≤ n ∧ 0 ≤ k ∧ n.toNatClampNeg * 4 ≤ 536870912 ∧ k.toNatClampNeg * 4 ≤ 536870912 then aGo np L (.ref (aX S) :: r) (aMulS S n.toNatClampNeg k.toNatClampNeg) (aMulI S I n.toNatClampNeg) else none
    | _ => none) else none
  | .checkcast x => if F.1 = 23 ∧ x = 311 then (match st with
    | .ref a :: r => if aK S a = 101 then aGo np L (.ref a :: r) S I else none
    | _ => none) else none
  | .new x => (match aNwo F.1 x with
    | some e => aGo np L (.ref (aX S) :: st) (aNew S e.2.2.1 e.2.2.2.1 e.2.2.2.1) (aU I (aX S) (fun _ => 0))
    | none => none)
  | .arraylength => (match st with
    | .ref a :: r => if aKd S a = 100 ∨ aKd S a = 101 ∨ aKd S a = 102 then aGo np L (.int (Int32.ofNat (aN S a)) :: r) S I else none
    | _ => none)
  | .iaload => aALd 100 np L st S I
  | .baload => aALd 101 np L st S I
  | .iastore => aASt 100 (fun x => x) np L st S I
  | .bastore => aASt 101 (fun x => x.toInt8.toInt32) np L st S I
  | .aaload => aAR np L st S I
  | .aastore => aASR np L st S I
  | .ireturn => aRet F.2.2.1 aIsI st
  | .areturn => (match st with
    | [v] => (match F.2.2.1 with
      | some (.object _) => if aIsR v = true then some (.inr (.inl (some v))) else none
      | some (.array _) => if aIsR v = true then some (.inr (.inl (some v))) else none
      | _ => none)
    | _ => none)
  | .lreturn => (match st with
    | [.long x] => if F.2.2.1 = some .long then some (.inr (.inl (some (.long x)))) else none
    | _ => none)
  | .dreturn => (match st with
    | [.double x] => if F.2.2.1 = some .double then some (.inr (.inl (some (.double x)))) else none
    | _ => none)
  | .return_ => (match st with
    | [] => if F.2.2.1 = none then some (.inr (.inl none)) else none
    | _ => none)
  | .invokestatic x => (match aMth F.1 x with
    | some e => aMath e.2.2.1 np L st S I
    | none => if aHas aAcpT F.1 x = true then aCopy np L st S I else aCall 0 F.1 x st S)
  | .invokevirtual x => if F.1 = 23 ∧ x = 310 then aClone np L st S I else aCall 1 F.1 x st S
  | .invokespecial x => (match aObj F.1 x np L st S I with
    | some r => some r
    | none => aCall 2 F.1 x st S)
  | _ => none
def aLen (ins : Instr) (n : Nat) : Bool := match ins with
  | .iload _ | .aload _ | .lload _ | .istore _ | .astore _ | .lstore _ | .bipush _ | .ldc _ | .newarray _ => n == 2
  | .iinc _ _ | .sipush _ | .goto _ | .ifCond _ _ | .if_icmp _ _ | .ifnull _ | .ifnonnull _ | .getfield _ | .putfield _ | .getstatic _ | .new _ | .invokestatic _ | .invokevirtual _ | .invokespecial _ | .ldc2_w _ | .anewarray _ | .checkcast _ => n == 3
  | .multianewarray _ _ => n == 4
  | .tableswitch _ _ _ _ | .lookupswitch _ _ => true
  | _ => n == 1
def aStep (E : Nat → Value) (F : aF) (pc : Nat) (L : List (Option Value)) (st : List Value) (S : aS) (I : aI) : Option aA := match decode F.2.1 pc with
  | .ok q => if aLen q.1 q.2 = true then aIns E F q.1 pc (pc + q.2) L st S I else none
  | .error _ => none
def aArgs (as : List Value) (n : Nat) : List (Option Value) := as.map some ++ List.replicate (n - as.length) none
/-- the frame's method throws here (mend: by 'the trust has fewer coins'); it has a handler for this call (act, of mend) -/
def aThr (F : aF) (pc : Nat) : Bool := F.2.2.2.1 == 1001 && pc == 59
def aHnd (F : aF) (pc : Nat) : Bool := F.2.2.2.1 == 1000 && pc == 245
/-- the answer: none where it has thrown -/
def aExec (E : Nat → Value) : Nat → Nat → aF → Nat → List (Option Value) → List Value → aS → aI → Option (Option (Option Value) × aS × aI)
  | 0, _, _, _, _, _, _, _ => none
  | f + 1, d, F, pc, L, st, S, I => if aThr F pc = true then (if st = [] then some (none, aNew S 500 0 6, I) else none) else match aStep E F pc L st S I with
    | none => none
    | some (.inl c) => if aX S ≤ aX c.2.2.2.1 ∧ aZ S ≤ aZ c.2.2.2.1 then aExec E f d F c.1 c.2.1 c.2.2.1 c.2.2.2.1 c.2.2.2.2 else none
    | some (.inr (.inl v)) => some (some v, S, I)
    | some (.inr (.inr q)) => match d with
      | 0 => none
      | d' + 1 => match aExec E f d' q.1.2.2.2.2.1 0 (aArgs q.2.1 q.1.2.2.2.2.2.1) [] S I with
        | none => none
        | some (some v, S', I') => if aX S ≤ aX S' ∧ aZ S ≤ aZ S' then aExec E f d F (pc + 3) L (v.toList ++ q.2.2) S' I' else none
        | some (none, S', I') => if aHnd F pc = true ∧ 7 < L.length ∧ aX S ≤ aX S' ∧ aZ S ≤ aZ S' then aExec E f d F 270 (L.set 7 none) [] S' I' else none
