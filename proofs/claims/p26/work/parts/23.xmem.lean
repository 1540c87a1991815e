/-! a step that reads or writes memory, a call, an end: the goal first -/
section AXM
variable {E : Nat → Value} {d : Nat} {F : aF} {pc : Nat} {L : List (Option Value)} {st : List Value} {S : aS} {M : Nat → Nat → Int} {Q : Option (Option Value) → aS → aI → Prop} {v w : Value} {x y : Int} {a b n : Nat}
/-- the link of a field: kind, place, a reference?, final? -/
def aFd (o x : Nat) : Option (Nat × Nat × Bool × Bool) := (aFld o x).map (fun e => (e.2.2.1, e.2.2.2.1, e.2.2.2.2.1, e.2.2.2.2.2.1))
theorem X_getI {q k j : Nat} {fin : Bool} (np : Nat) (hd : decode F.2.1 pc = .ok (.getfield q, 3)) (hn : pc + 3 = np) (ht : aThr F pc = false) (he : aFd F.1 q = some (k, j, false, fin)) (hk : aKd S a = k) (kk : X E d F np L (J (M a j) :: st) S (mI M) Q) : X E d F pc L (.ref a :: st) S (mI M) Q := by
  unfold aFd at he
  cases hf : aFld F.1 q with
  | none => rw [hf] at he; cases he
  | some e =>
    rw [hf] at he
    simp only [Option.map_some, Option.some.injEq, Prod.mk.injEq] at he
    obtain ⟨h1, h2, h3, h4⟩ := he
    refine X_ins hd hn rfl ht (by simp only [aIns, aGetF, hf]; rw [if_pos (by rw [hk, h1]), h3, h2]; rfl) aLe kk
theorem X_getR {q k j : Nat} {fin : Bool} (np : Nat) (hd : decode F.2.1 pc = .ok (.getfield q, 3)) (hn : pc + 3 = np) (ht : aThr F pc = false) (he : aFd F.1 q = some (k, j, true, fin)) (hk : aKd S a = k) (hp : aP S a j = some b) (kk : X E d F np L (.ref b :: st) S (mI M) Q) : X E d F pc L (.ref a :: st) S (mI M) Q := by
  unfold aFd at he
  cases hf : aFld F.1 q with
  | none => rw [hf] at he; cases he
  | some e =>
    rw [hf] at he
    simp only [Option.map_some, Option.some.injEq, Prod.mk.injEq] at he
    obtain ⟨h1, h2, h3, h4⟩ := he
    refine X_ins hd hn rfl ht (by simp only [aIns, aGetF, hf]; rw [if_pos (by rw [hk, h1]), h3, h2, hp]; rfl) aLe kk
theorem X_putI {q k j : Nat} {fin : Bool} (np : Nat) (hd : decode F.2.1 pc = .ok (.putfield q, 3)) (hn : pc + 3 = np) (ht : aThr F pc = false) (he : aFd F.1 q = some (k, j, false, fin)) (hi : fin = false ∨ F.2.2.2.2 = true ∧ F.1 = k) (hk : aK S a = k) (hty : narrow (aTy k j) (J x) = J x) (hft : fits (aTy k j) (J x) = true) (kk : X E d F np L st S (mI (mW M a j x)) Q) : X E d F pc L (J x :: .ref a :: st) S (mI M) Q := by
  unfold aFd at he
  cases hf : aFld F.1 q with
  | none => rw [hf] at he; cases he
  | some e =>
    rw [hf] at he
    simp only [Option.map_some, Option.some.injEq, Prod.mk.injEq] at he
    obtain ⟨h1, h2, h3, h4⟩ := he
    subst h1; subst h2; subst h4
    refine X_ins hd hn rfl ht (by
      simp only [aIns, aPutF, hf]
      rw [if_pos ⟨hk, fun hfin => by rcases hi with hi | hi; · rw [hi] at hfin; cases hfin
                                     · exact hi, hty, hft⟩, if_neg (by rw [h3]; decide)]
      rfl) aLe ?_
    rw [mI_W]
    exact kk
theorem X_putR {q k j : Nat} {fin : Bool} (np : Nat) (hd : decode F.2.1 pc = .ok (.putfield q, 3)) (hn : pc + 3 = np) (ht : aThr F pc = false) (he : aFd F.1 q = some (k, j, true, fin)) (hi : fin = false ∨ F.2.2.2.2 = true ∧ F.1 = k) (hk : aK S a = k) (hty : aRf k j = true) (kk : X E d F np L st (aPut S a j (some b)) (mI M) Q) : X E d F pc L (.ref b :: .ref a :: st) S (mI M) Q := by
  unfold aFd at he
  cases hf : aFld F.1 q with
  | none => rw [hf] at he; cases he
  | some e =>
    rw [hf] at he
    simp only [Option.map_some, Option.some.injEq, Prod.mk.injEq] at he
    obtain ⟨h1, h2, h3, h4⟩ := he
    subst h1; subst h2; subst h4
    have h5 : narrow (aTy e.2.2.1 e.2.2.2.1) (.ref b) = .ref b ∧ fits (aTy e.2.2.1 e.2.2.2.1) (.ref b) = true := by
      unfold aRf at hty
      split at hty
      · rename_i h; rw [h]; exact ⟨rfl, rfl⟩
      · rename_i h; rw [h]; exact ⟨rfl, rfl⟩
      · cases hty
    refine X_ins (pc' := np) (L' := L) (st' := st) (S' := aPut S a e.2.2.2.1 (some b)) (I' := mI M) hd hn rfl ht (by
      simp only [aIns, aPutF, hf]
      rw [if_pos ⟨hk, fun hfin => by rcases hi with hi | hi; · rw [hi] at hfin; cases hfin
                                     · exact hi, h5.1, h5.2⟩, if_pos h3]
      rfl) ⟨Nat.le_refl _, Nat.le_refl _⟩ kk
theorem aInB_i {x : Int} {n : Nat} (hx : R32 x) (h : 0 ≤ x ∧ x < n) : aInB (Int32.ofInt x) n = true := by
  unfold aInB
  rw [Bool.and_eq_true, decide_eq_true_eq, decide_eq_true_eq, ofI_nat hx]
  refine ⟨(ofI_le R32_0 hx).mpr h.1, by omega⟩
theorem X_iald (np : Nat) (hd : decode F.2.1 pc = .ok (.iaload, 1)) (hn : pc + 1 = np) (ht : aThr F pc = false) (hk : aKd S a = 100) (hx : R32 x) (hi : 0 ≤ x ∧ x < aN S a) (kk : X E d F np L (J (M a x.toNat) :: st) S (mI M) Q) : X E d F pc L (J x :: .ref a :: st) S (mI M) Q :=
  X_ins hd hn rfl ht (by simp only [aIns, aALd]; rw [if_pos ⟨hk, aInB_i hx hi⟩]; rfl) aLe (by rw [ofI_nat hx]; exact kk)
theorem X_bald (np : Nat) (hd : decode F.2.1 pc = .ok (.baload, 1)) (hn : pc + 1 = np) (ht : aThr F pc = false) (hk : aKd S a = 101) (hx : R32 x) (hi : 0 ≤ x ∧ x < aN S a) (kk : X E d F np L (J (M a x.toNat) :: st) S (mI M) Q) : X E d F pc L (J x :: .ref a :: st) S (mI M) Q :=
  X_ins hd hn rfl ht (by simp only [aIns, aALd]; rw [if_pos ⟨hk, aInB_i hx hi⟩]; rfl) aLe (by rw [ofI_nat hx]; exact kk)
theorem X_aald (np : Nat) (hd : decode F.2.1 pc = .ok (.aaload, 1)) (hn : pc + 1 = np) (ht : aThr F pc = false) (hk : aKd S a = 102) (hx : R32 x) (hi : 0 ≤ x ∧ x < aN S a) (hp : aP S a x.toNat = some b) (kk : X E d F np L (.ref b :: st) S (mI M) Q) : X E d F pc L (J x :: .ref a :: st) S (mI M) Q :=
  X_ins hd hn rfl ht (by simp only [aIns, aAR]; rw [if_pos ⟨hk, aInB_i hx hi⟩, ofI_nat hx, hp]; rfl) aLe kk
theorem X_iast (np : Nat) (hd : decode F.2.1 pc = .ok (.iastore, 1)) (hn : pc + 1 = np) (ht : aThr F pc = false) (hk : aK S a = 100) (hx : R32 x) (hi : 0 ≤ x ∧ x < aN S a) (kk : X E d F np L st S (mI (mW M a x.toNat y)) Q) : X E d F pc L (J y :: J x :: .ref a :: st) S (mI M) Q :=
  X_ins hd hn rfl ht (by simp only [aIns, aASt]; rw [if_pos ⟨hk, aInB_i hx hi⟩]; rfl) aLe (by rw [ofI_nat hx, mI_W]; exact kk)
theorem ofI_byte {y : Int} (h : -128 ≤ y ∧ y ≤ 127) : (Int32.ofInt y).toInt8.toInt32 = Int32.ofInt y := by
  apply Int32.toInt_inj.mp
  rw [Int8.toInt_toInt32, Int32.toInt_toInt8, ofI ⟨by omega, by omega⟩]
  rw [Int.bmod_eq_of_le (by omega) (by omega)]
theorem X_bast (np : Nat) (hd : decode F.2.1 pc = .ok (.bastore, 1)) (hn : pc + 1 = np) (ht : aThr F pc = false) (hk : aK S a = 101) (hx : R32 x) (hi : 0 ≤ x ∧ x < aN S a) (hy : -128 ≤ y ∧ y ≤ 127) (kk : X E d F np L st S (mI (mW M a x.toNat y)) Q) : X E d F pc L (J y :: J x :: .ref a :: st) S (mI M) Q :=
  X_ins hd hn rfl ht (by simp only [aIns, aASt]; rw [if_pos ⟨hk, aInB_i hx hi⟩]; rfl) aLe (by rw [ofI_nat hx, ofI_byte hy, mI_W]; exact kk)
theorem X_aast (np : Nat) (hd : decode F.2.1 pc = .ok (.aastore, 1)) (hn : pc + 1 = np) (ht : aThr F pc = false) (hk : aK S a = 102) (hx : R32 x) (hi : 0 ≤ x ∧ x < aN S a) (hb : aK S b = 100) (kk : X E d F np L st (aPut S a x.toNat (some b)) (mI M) Q) : X E d F pc L (.ref b :: J x :: .ref a :: st) S (mI M) Q :=
  X_ins (pc' := np) (L' := L) (st' := st) (S' := aPut S a x.toNat (some b)) (I' := mI M) hd hn rfl ht (by simp only [aIns, aASR]; rw [if_pos ⟨hk, aInB_i hx hi, hb⟩, ofI_nat hx]; rfl) ⟨Nat.le_refl _, Nat.le_refl _⟩ kk
theorem X_alen (np : Nat) (hd : decode F.2.1 pc = .ok (.arraylength, 1)) (hn : pc + 1 = np) (ht : aThr F pc = false) (hk : aKd S a = 100 ∨ aKd S a = 101 ∨ aKd S a = 102) (kk : X E d F np L (J (aN S a) :: st) S (mI M) Q) : X E d F pc L (.ref a :: st) S (mI M) Q :=
  X_ins hd hn rfl ht (by simp only [aIns]; rw [if_pos hk]; rfl) aLe (by rw [show Int32.ofNat (aN S a) = Int32.ofInt (aN S a) from rfl]; exact kk)
theorem mI_new {k : Nat} : aU (mI M) k (fun _ => (0 : Int32)) = mI (aU M k (fun _ => 0)) := by
  funext b j
  unfold mI aU
  by_cases h : b = k
  · simp [h]
  · simp [h]
theorem X_newI (np : Nat) (hd : decode F.2.1 pc = .ok (.newarray .int, 2)) (hn : pc + 2 = np) (ht : aThr F pc = false) (hx : 0 ≤ x ∧ x ≤ 1000000) (kk : X E d F np L (.ref (aX S) :: st) (aNew S 100 x.toNat x.toNat) (mI (aU M (aX S) (fun _ => 0))) Q) : X E d F pc L (J x :: st) S (mI M) Q := by
  have hr : R32 x := ⟨by omega, by omega⟩
  refine X_ins hd hn rfl ht (by simp only [aIns, aNewA]; rw [if_pos ⟨(ofI_le R32_0 hr).mpr hx.1, by rw [ofI_nat hr]; omega⟩]; rfl) ⟨Nat.le_succ _, Nat.le_add_right _ _⟩ ?_
  rw [ofI_nat hr, mI_new]
  exact kk
theorem X_newB (np : Nat) (hd : decode F.2.1 pc = .ok (.newarray .byte, 2)) (hn : pc + 2 = np) (ht : aThr F pc = false) (hx : 0 ≤ x ∧ x ≤ 1000000) (kk : X E d F np L (.ref (aX S) :: st) (aNew S 101 x.toNat x.toNat) (mI (aU M (aX S) (fun _ => 0))) Q) : X E d F pc L (J x :: st) S (mI M) Q := by
  have hr : R32 x := ⟨by omega, by omega⟩
  refine X_ins hd hn rfl ht (by simp only [aIns, aNewA]; rw [if_pos ⟨(ofI_le R32_0 hr).mpr hx.1, by rw [ofI_nat hr]; omega⟩]; rfl) ⟨Nat.le_succ _, Nat.le_add_right _ _⟩ ?_
  rw [ofI_nat hr, mI_new]
  exact kk
theorem X_newR {q : Nat} (np : Nat) (hd : decode F.2.1 pc = .ok (.anewarray q, 3)) (hn : pc + 3 = np) (ht : aThr F pc = false) (hq : aHas aAnwT F.1 q = true) (hx : 0 ≤ x ∧ x ≤ 1000000) (kk : X E d F np L (.ref (aX S) :: st) (aNew S 102 x.toNat x.toNat) (mI (aU M (aX S) (fun _ => 0))) Q) : X E d F pc L (J x :: st) S (mI M) Q := by
  have hr : R32 x := ⟨by omega, by omega⟩
  refine X_ins hd hn rfl ht (by simp only [aIns, aNewA]; rw [if_pos hq, if_pos ⟨(ofI_le R32_0 hr).mpr hx.1, by rw [ofI_nat hr]; omega⟩]; rfl) ⟨Nat.le_succ _, Nat.le_add_right _ _⟩ ?_
  rw [ofI_nat hr, mI_new]
  exact kk
/-- what a 'new' makes: kind, slots -/
def aNd (o x : Nat) : Option (Nat × Nat) := (aNwo o x).map (fun e => (e.2.2.1, e.2.2.2.1))
theorem X_new {q k z : Nat} (np : Nat) (hd : decode F.2.1 pc = .ok (.new q, 3)) (hn : pc + 3 = np) (ht : aThr F pc = false) (he : aNd F.1 q = some (k, z)) (kk : X E d F np L (.ref (aX S) :: st) (aNew S k z z) (mI (aU M (aX S) (fun _ => 0))) Q) : X E d F pc L st S (mI M) Q := by
  unfold aNd at he
  cases hf : aNwo F.1 q with
  | none => rw [hf] at he; cases he
  | some e =>
    rw [hf] at he
    simp only [Option.map_some, Option.some.injEq, Prod.mk.injEq] at he
    obtain ⟨rfl, rfl⟩ := he
    refine X_ins hd hn rfl ht (by simp only [aIns, hf]; rfl) ⟨Nat.le_succ _, Nat.le_add_right _ _⟩ ?_
    rw [mI_new]
    exact kk
theorem X_math {q z : Nat} {e : Nat × Nat × Nat × Nat} (np : Nat) (hd : decode F.2.1 pc = .ok (.invokestatic q, 3)) (hn : pc + 3 = np) (ht : aThr F pc = false) (he : aMth F.1 q = some e) (hz : e.2.2.1 = z) (hz2 : z < 2) (hx : R32 x) (hy : R32 y) (hr : aCat st ≤ 8) (kk : X E d F np L (J (if z = 0 then min x y else max x y) :: st) S (mI M) Q) : X E d F pc L (J y :: J x :: st) S (mI M) Q := by
  obtain rfl | rfl : z = 0 ∨ z = 1 := by omega
  · refine X_ins hd hn rfl ht (by simp only [aIns, he, hz, aMath]; rw [if_pos hr]; rfl) aLe ?_
    rw [if_pos rfl] at kk
    by_cases h : y < x
    · rw [if_pos ((ofI_lt hy hx).mpr h)]
      rw [Int.min_eq_right (by omega)] at kk
      exact kk
    · rw [if_neg (fun z => h ((ofI_lt hy hx).mp z))]
      rw [Int.min_eq_left (by omega)] at kk
      exact kk
  · refine X_ins hd hn rfl ht (by simp only [aIns, he, hz, aMath]; rw [if_pos hr]; rfl) aLe ?_
    rw [if_neg (by decide)] at kk
    by_cases h : x < y
    · rw [if_pos ((ofI_lt hx hy).mpr h)]
      rw [Int.max_eq_right (by omega)] at kk
      exact kk
    · rw [if_neg (fun z => h ((ofI_lt hx hy).mp z))]
      rw [Int.max_eq_left (by omega)] at kk
      exact kk
theorem X_abs {q : Nat} {e : Nat × Nat × Nat × Nat} (np : Nat) (hd : decode F.2.1 pc = .ok (.invokestatic q, 3)) (hn : pc + 3 = np) (ht : aThr F pc = false) (he : aMth F.1 q = some e) (hz : e.2.2.1 = 2) (hx : R32 x) (hr : aCat st ≤ 8) (kk : X E d F np L (J (if 0 ≤ x then x else -x) :: st) S (mI M) Q) : X E d F pc L (J x :: st) S (mI M) Q := by
  refine X_ins hd hn rfl ht (by simp only [aIns, he, hz, aMath]; rw [if_pos hr]; rfl) aLe ?_
  by_cases h : 0 ≤ x
  · have h9 : (0 : Int32) ≤ Int32.ofInt x := (ofI_le R32_0 hx).mpr h
    rw [if_pos h9]
    rw [if_pos h] at kk
    exact kk
  · have h9 : ¬ (0 : Int32) ≤ Int32.ofInt x := fun z => h ((ofI_le R32_0 hx).mp z)
    rw [if_neg h9, show (0 : Int32) = Int32.ofInt 0 from rfl, ← Int32.ofInt_sub]
    rw [if_neg h] at kk
    rw [Int.zero_sub]
    exact kk
theorem X_obj {q : Nat} (np : Nat) (hd : decode F.2.1 pc = .ok (.invokespecial q, 3)) (hn : pc + 3 = np) (ht : aThr F pc = false) (hq : aObjT.contains (F.1, q) = true) (hr : aCat st ≤ 8) (kk : X E d F np L st S (mI M) Q) : X E d F pc L (.ref a :: st) S (mI M) Q :=
  X_ins hd hn rfl ht (by simp only [aIns, aObj]; rw [if_pos ⟨hq, hr⟩]; rfl) aLe kk
theorem X_getst {q : Nat} {e : Nat × Nat × Nat × Bool × String × Nat} {I : aI} (np : Nat) (hd : decode F.2.1 pc = .ok (.getstatic q, 3)) (hn : pc + 3 = np) (ht : aThr F pc = false) (he : aGet F.1 q = some e) (hE : E e.2.2.1 = v) (kk : X E d F np L (v :: st) S I Q) : X E d F pc L st S I Q :=
  X_ins hd hn rfl ht (by simp only [aIns, he, hE]; rfl) aLe kk
theorem X_iret {I : aI} {ty : FieldType} (hd : decode F.2.1 pc = .ok (.ireturn, 1)) (ht : aThr F pc = false) (hr : F.2.2.1 = some ty) (hn : narrow ty (J x) = J x) (q : Q (some (some (J x))) S I) : X E d F pc L [J x] S I Q :=
  X_ret ht (by unfold aStep; rw [hd]; simp only [aLen, aIns, aRet, hr]; rw [if_pos (show (1 == 1) = true from rfl), if_pos ⟨rfl, hn⟩]) q
theorem X_vret {I : aI} (hd : decode F.2.1 pc = .ok (.return_, 1)) (ht : aThr F pc = false) (hr : F.2.2.1 = none) (q : Q (some none) S I) : X E d F pc L [] S I Q :=
  X_ret ht (by unfold aStep; rw [hd]; simp only [aLen, aIns, hr]; rfl) q
theorem X_lret {I : aI} {z : Int64} (hd : decode F.2.1 pc = .ok (.lreturn, 1)) (ht : aThr F pc = false) (hr : F.2.2.1 = some .long) (q : Q (some (some (.long z))) S I) : X E d F pc L [.long z] S I Q :=
  X_ret ht (by unfold aStep; rw [hd]; simp only [aLen, aIns, hr]; rfl) q
theorem X_dret {I : aI} {z : UInt64} (hd : decode F.2.1 pc = .ok (.dreturn, 1)) (ht : aThr F pc = false) (hr : F.2.2.1 = some .double) (q : Q (some (some (.double z))) S I) : X E d F pc L [.double z] S I Q :=
  X_ret ht (by unfold aStep; rw [hd]; simp only [aLen, aIns, hr]; rfl) q
theorem X_aret {I : aI} {ty : FieldType} (hd : decode F.2.1 pc = .ok (.areturn, 1)) (ht : aThr F pc = false) (hr : F.2.2.1 = some ty) (hty : (match ty with | .object _ => true | .array _ => true | _ => false) = true) (q : Q (some (some (.ref a))) S I) : X E d F pc L [.ref a] S I Q := by
  refine X_ret ht ?_ q
  unfold aStep
  rw [hd]
  simp only [aLen, aIns, hr]
  split at hty
  · rfl
  · rfl
  · cases hty
theorem X_mul {q : Nat} (np : Nat) (hd : decode F.2.1 pc = .ok (.multianewarray q 2, 4)) (hn : pc + 4 = np) (ht : aThr F pc = false) (hq : aHas aMulT F.1 q = true) (hx : 0 ≤ x ∧ x ≤ 1000000) (hy : 0 ≤ y ∧ y ≤ 1000000) (kk : X E d F np L (.ref (aX S) :: st) (aMulS S x.toNat y.toNat) (mI (fun b => if aX S ≤ b ∧ b ≤ aX S + x.toNat then (fun _ => 0) else M b)) Q) : X E d F pc L (J y :: J x :: st) S (mI M) Q := by
  have hrx : R32 x := ⟨by omega, by omega⟩
  have hry : R32 y := ⟨by omega, by omega⟩
  refine X_ins hd hn rfl ht (by simp only [aIns]; rw [if_pos hq, if_pos ⟨(ofI_le R32_0 hrx).mpr hx.1, (ofI_le R32_0 hry).mpr hy.1, by rw [ofI_nat hrx]; omega, by rw [ofI_nat hry]; omega⟩]; rfl) ⟨by show aX S ≤ aX S + 1 + _; omega, by show aZ S ≤ aZ S + _ + _; omega⟩ ?_
  rw [ofI_nat hrx, ofI_nat hry, show aMulI S (mI M) x.toNat = mI (fun b => if aX S ≤ b ∧ b ≤ aX S + x.toNat then (fun _ => 0) else M b) by
    funext b j
    unfold aMulI mI
    dsimp only
    by_cases h : aX S ≤ b ∧ b ≤ aX S + x.toNat
    · rw [if_pos h, if_pos h]; rfl
    · rw [if_neg h, if_neg h]]
  exact kk
theorem X_copyI {q : Nat} {sp dp n : Int} {b a : Nat} (np : Nat) (hd : decode F.2.1 pc = .ok (.invokestatic q, 3)) (hn : pc + 3 = np) (ht : aThr F pc = false) (hm : aMth F.1 q = none) (hq : aHas aAcpT F.1 q = true) (hb : aKd S b = 100) (ha : aK S a = 100) (h1 : 0 ≤ sp ∧ 0 ≤ dp ∧ 0 ≤ n) (h2 : R32 sp ∧ R32 dp ∧ R32 n) (h3 : sp + n ≤ aN S b) (h4 : dp + n ≤ aN S a) (hr : aCat st ≤ 8) (kk : X E d F np L st S (mI (aU M a (va_cpy (M b) (M a) sp.toNat dp.toNat n.toNat))) Q) : X E d F pc L (J n :: J dp :: .ref a :: J sp :: .ref b :: st) S (mI M) Q := by
  refine X_ins hd hn rfl ht (by simp only [aIns, hm, aCopy]; rw [if_pos hq, if_pos ⟨(ofI_le R32_0 h2.1).mpr h1.1, (ofI_le R32_0 h2.2.1).mpr h1.2.1, (ofI_le R32_0 h2.2.2).mpr h1.2.2, by rw [ofI_nat h2.1, ofI_nat h2.2.2]; omega, by rw [ofI_nat h2.2.1, ofI_nat h2.2.2]; omega, hr, Or.inl ⟨hb, ha⟩⟩]; rfl) aLe ?_
  rw [ofI_nat h2.1, ofI_nat h2.2.1, ofI_nat h2.2.2, show aU (mI M) a (va_cpy (mI M b) (mI M a) sp.toNat dp.toNat n.toNat) = mI (aU M a (va_cpy (M b) (M a) sp.toNat dp.toNat n.toNat)) by
    funext c j
    unfold mI aU va_cpy
    by_cases h : c = a
    · simp only [if_pos h]
      by_cases h5 : dp.toNat ≤ j ∧ j < dp.toNat + n.toNat
      · rw [if_pos h5, if_pos h5]
      · rw [if_neg h5, if_neg h5]
    · simp only [if_neg h]]
  exact kk
/-- a call's entry: its frame, the places of its locals -/
def aCn (o x : Nat) : Option (aF × Nat × Nat × Nat × String) := (aCal o x).map (fun e => (e.2.2.2.2.1, e.2.2.2.2.2.1, e.2.2.2.2.2.2.1, e.2.2.1, e.2.2.2.2.2.2.2.1))
theorem aCat_drop {l r : List Value} : aCat (l ++ r) = aCat l + aCat r := by unfold aCat; rw [List.map_append, List.sum_append]
/-- a static call: the arguments as they lie on the stack, the last one first -/
theorem X_cs {I : aI} {q k mL nA : Nat} {G : aF} {C : String} {as rest : List Value} (hd : decode F.2.1 pc = .ok (.invokestatic q, 3)) (ht : aThr F pc = false) (hm : aMth F.1 q = none) (hq : aHas aAcpT F.1 q = false) (he : aCn F.1 q = some (G, mL, nA, k, C)) (hk : aKnd k = 0) (hl : as.length = nA) (hA : as.all aArg = true) (hr : aCat rest ≤ 8) (h1 : 1 ≤ d) (kk : X E (d - 1) G 0 (aArgs as.reverse mL) [] S I (Kr E d F (pc + 3) L rest Q)) : X E d F pc L (as ++ rest) S I Q := by
  unfold aCn at he
  cases hf : aCal F.1 q with
  | none => rw [hf] at he; cases he
  | some e =>
    rw [hf] at he
    simp only [Option.map_some, Option.some.injEq, Prod.mk.injEq] at he
    obtain ⟨rfl, rfl, rfl, rfl, rfl⟩ := he
    refine X_call (en := e) (as := as.reverse) (rest := rest) ht h1 ?_ kk
    have hcall : aCall 0 F.1 q (as ++ rest) S = some (.inr (.inr (e, as.reverse, rest))) := by
      unfold aCall
      rw [hf]
      dsimp only
      rw [if_pos hk, if_pos rfl, ← hl, if_pos ⟨by simp, by simp [hA], by simpa using hr⟩]
      simp
    unfold aStep
    rw [hd]
    dsimp only
    rw [if_pos (show aLen (.invokestatic q) 3 = true from rfl)]
    simp only [aIns, hm, hq]
    rw [if_neg (by decide)]
    exact hcall
/-- a call of a method of an object -/
theorem X_cv {I : aI} {ins : Instr} {q k mL nA kd : Nat} {G : aF} {C : String} {as rest : List Value} (hd : decode F.2.1 pc = .ok (ins, 3)) (hins : ins = .invokevirtual q ∧ kd = 1 ∧ (F.1 != 23 || q != 310) = true ∨ ins = .invokespecial q ∧ kd = 2 ∧ aObjT.contains (F.1, q) = false) (ht : aThr F pc = false) (he : aCn F.1 q = some (G, mL, nA, k, C)) (hk : aKnd k = kd) (hl : as.length = nA) (hA : as.all aArg = true) (hr : aCat rest ≤ 8) (hb : k = 2 ∨ k = 5 ∨ (vwCl[aKd S b]?).map (fun q => q.1) = some C) (h1 : 1 ≤ d) (kk : X E (d - 1) G 0 (aArgs (.ref b :: as.reverse) mL) [] S I (Kr E d F (pc + 3) L rest Q)) : X E d F pc L (as ++ .ref b :: rest) S I Q := by
  unfold aCn at he
  cases hf : aCal F.1 q with
  | none => rw [hf] at he; cases he
  | some e =>
    rw [hf] at he
    simp only [Option.map_some, Option.some.injEq, Prod.mk.injEq] at he
    obtain ⟨rfl, rfl, rfl, rfl, rfl⟩ := he
    refine X_call (en := e) (as := .ref b :: as.reverse) (rest := rest) ht h1 ?_ kk
    have hcall : aCall kd F.1 q (as ++ .ref b :: rest) S = some (.inr (.inr (e, .ref b :: as.reverse, rest))) := by
      unfold aCall
      rw [hf]
      dsimp only
      have hkd : kd ≠ 0 := by rcases hins with h | h <;> omega
      rw [if_pos hk, if_neg hkd, ← hl, List.drop_left]
      dsimp only
      rw [if_pos ⟨by simp, by simp [hA], hr, hb⟩]
      simp
    unfold aStep
    rw [hd]
    dsimp only
    rcases hins with ⟨rfl, rfl, h2⟩ | ⟨rfl, rfl, h2⟩
    · rw [if_pos (show aLen (.invokevirtual q) 3 = true from rfl)]
      simp only [aIns]
      rw [if_neg (by rintro ⟨z1, z2⟩; rw [z1, z2] at h2; exact absurd h2 (by decide))]
      exact hcall
    · rw [if_pos (show aLen (.invokespecial q) 3 = true from rfl)]
      simp only [aIns]
      have ho : aObj F.1 q (pc + 3) L (as ++ .ref b :: rest) S I = none := by
        unfold aObj
        split
        · rw [h2, if_neg (by rintro ⟨z, -⟩; cases z)]
        · rfl
      rw [ho]
      exact hcall
end AXM
