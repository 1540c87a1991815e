/-! A small machine over the same instructions: memory as functions of the address, locals and stack as lists; what it answers, the machine answers (parts 04 on). -/
/-- kind, length, references by address and place; the next address; slots made so far. Kinds: below 100 the class's number in vwCl; 100 int[], 101 byte[], 102 int[][]; 1000 more where the cell is of before and is only read -/
abbrev aS : Type := (Nat → Nat) × (Nat → Nat) × (Nat → Nat → Option Nat) × Nat × Nat
/-- whole numbers by address and place -/
abbrev aI : Type := Nat → Nat → Int32
def aK (S : aS) : Nat → Nat := S.1
def aN (S : aS) : Nat → Nat := S.2.1
def aP (S : aS) : Nat → Nat → Option Nat := S.2.2.1
def aX (S : aS) : Nat := S.2.2.2.1
def aZ (S : aS) : Nat := S.2.2.2.2
def aU {α : Type} (f : Nat → α) (a : Nat) (x : α) : Nat → α := fun b => if b = a then x else f b
def aW (I : aI) (a j : Nat) (x : Int32) : aI := aU I a (aU (I a) j x)
def aNew (S : aS) (k n m : Nat) : aS := (aU (aK S) (aX S) k, aU (aN S) (aX S) n, aU (aP S) (aX S) (fun _ => none), aX S + 1, aZ S + m)
def aPut (S : aS) (a j : Nat) (q : Option Nat) : aS := (aK S, aN S, aU (aP S) a (aU (aP S a) j q), aX S, aZ S)
/-- a frame's method: its class's number in aRL, its bytes, what it returns, the place behind its one long (0: it has none), whether it is a constructor -/
abbrev aF : Type := Nat × ByteArray × Option FieldType × Nat × Bool
abbrev aC : Type := Nat × List (Option Value) × List Value × aS × aI
abbrev aCE : Type := Nat × Nat × Nat × MethodName × aF × Nat × Nat × String × String × List Nat
/-- goes on here; answers; calls: the entry, the arguments, what lies below them -/
abbrev aA : Type := aC ⊕ (Option Value) ⊕ (aCE × List Value × List Value)
def aGo (pc : Nat) (L : List (Option Value)) (st : List Value) (S : aS) (I : aI) : Option aA := some (.inl (pc, L, st, S, I))
def aIsI : Value → Bool
  | .int _ => true
  | _ => false
def aIsL : Value → Bool
  | .long _ => true
  | _ => false
def aIsR : Value → Bool
  | .ref _ => true
  | .null => true
  | _ => false
def aOff (pc : Nat) (off : Int) : Nat := ((pc : Int) + off).toNat
def aJmp (pc : Nat) (off : Int) (L : List (Option Value)) (st : List Value) (S : aS) (I : aI) : Option aA := if 0 ≤ (pc : Int) + off then aGo (aOff pc off) L st S I else none
def aLd (p : Value → Bool) (n np : Nat) (L : List (Option Value)) (st : List Value) (S : aS) (I : aI) : Option aA := match L[n]? with
  | some (some v) => if p v = true then aGo np L (v :: st) S I else none
  | _ => none
/-- no value of two places ahead of place n -/
def aNo2 (L : List (Option Value)) (n : Nat) : Bool := match L[n - 1]? with
  | some (some v) => v.category == 1
  | _ => true
def aSt (p : Value → Bool) (z n np : Nat) (L : List (Option Value)) (st : List Value) (S : aS) (I : aI) : Option aA := match st with
  | v :: r => if p v = true ∧ n < L.length ∧ (n ≠ z ∨ aNo2 L n = true) then aGo np (L.set n (some v)) r S I else none
  | [] => none
def aStL (z n np : Nat) (L : List (Option Value)) (st : List Value) (S : aS) (I : aI) : Option aA := match st with
  | .long v :: r => if n + 1 < L.length ∧ n + 1 = z then aGo np ((L.set n (some (.long v))).set (n + 1) none) r S I else none
  | _ => none
def aB (f : Int32 → Int32 → Int32) (np : Nat) (L : List (Option Value)) (st : List Value) (S : aS) (I : aI) : Option aA := match st with
  | .int y :: .int x :: r => aGo np L (.int (f x y) :: r) S I
  | _ => none
def aB0 (f : Int32 → Int32 → Int32) (np : Nat) (L : List (Option Value)) (st : List Value) (S : aS) (I : aI) : Option aA := match st with
  | .int y :: .int x :: r => if y = 0 then none else aGo np L (.int (f x y) :: r) S I
  | _ => none
def aU1 (f : Int32 → Value) (np : Nat) (L : List (Option Value)) (st : List Value) (S : aS) (I : aI) : Option aA := match st with
  | .int x :: r => aGo np L (f x :: r) S I
  | _ => none
def aBL (f : Int64 → Int64 → Value) (np : Nat) (L : List (Option Value)) (st : List Value) (S : aS) (I : aI) : Option aA := match st with
  | .long y :: .long x :: r => aGo np L (f x y :: r) S I
  | _ => none
def aCmp (c : Jvm.ClassFile.Cond) (x y : Int32) : Bool := match c with
  | .eq => x == y
  | .ne => x != y
  | .lt => decide (x < y)
  | .ge => decide (y ≤ x)
  | .gt => decide (y < x)
  | .le => decide (x ≤ y)
