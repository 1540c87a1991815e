/-! a step, an instruction: over whole numbers, the goal first -/
section AXI
variable {E : Nat → Value} {d : Nat} {F : aF} {pc : Nat} {L : List (Option Value)} {st : List Value} {S : aS} {I : aI} {M : Nat → Nat → Int} {Q : Option (Option Value) → aS → aI → Prop} {v w : Value} {x y : Int} {a b n : Nat}
theorem X_ins {ins : Instr} {len np pc' : Nat} {L' : List (Option Value)} {st' : List Value} {S' : aS} {I' : aI} (hd : decode F.2.1 pc = .ok (ins, len)) (hn : pc + len = np) (hl : aLen ins len = true) (ht : aThr F pc = false) (hs : aIns E F ins pc np L st S I = some (.inl (pc', L', st', S', I'))) (hm : aX S ≤ aX S' ∧ aZ S ≤ aZ S') (k : X E d F pc' L' st' S' I' Q) : X E d F pc L st S I Q := by
  refine X_step ht ?_ hm k
  unfold aStep
  rw [hd]
  dsimp only
  rw [if_pos hl, hn, hs]
theorem aLe {S : aS} : aX S ≤ aX S ∧ aZ S ≤ aZ S := ⟨Nat.le_refl _, Nat.le_refl _⟩
theorem X_iload (np : Nat) (hd : decode F.2.1 pc = .ok (.iload n, 2)) (hn : pc + 2 = np) (ht : aThr F pc = false) (hL : L[n]? = some (some (J x))) (k : X E d F np L (J x :: st) S I Q) : X E d F pc L st S I Q := X_ins hd hn rfl ht (by simp only [aIns, aLd, hL, aIsI, aGo]; rfl) aLe k
theorem X_iload_n {n4 : Fin 4} (np : Nat) (hd : decode F.2.1 pc = .ok (.iload_n n4, 1)) (hn : pc + 1 = np) (ht : aThr F pc = false) (hL : L[n4.val]? = some (some (J x))) (k : X E d F np L (J x :: st) S I Q) : X E d F pc L st S I Q := X_ins hd hn rfl ht (by simp only [aIns, aLd, hL, aIsI, aGo]; rfl) aLe k
theorem X_aload (np : Nat) (hd : decode F.2.1 pc = .ok (.aload n, 2)) (hn : pc + 2 = np) (ht : aThr F pc = false) (hL : L[n]? = some (some (.ref a))) (k : X E d F np L (.ref a :: st) S I Q) : X E d F pc L st S I Q := X_ins hd hn rfl ht (by simp only [aIns, aLd, hL, aIsR, aGo]; rfl) aLe k
theorem X_aload_n {n4 : Fin 4} (np : Nat) (hd : decode F.2.1 pc = .ok (.aload_n n4, 1)) (hn : pc + 1 = np) (ht : aThr F pc = false) (hL : L[n4.val]? = some (some (.ref a))) (k : X E d F np L (.ref a :: st) S I Q) : X E d F pc L st S I Q := X_ins hd hn rfl ht (by simp only [aIns, aLd, hL, aIsR, aGo]; rfl) aLe k
theorem X_lload {z : Int64} (np : Nat) (hd : decode F.2.1 pc = .ok (.lload n, 2)) (hn : pc + 2 = np) (ht : aThr F pc = false) (hL : L[n]? = some (some (.long z))) (k : X E d F np L (.long z :: st) S I Q) : X E d F pc L st S I Q := X_ins hd hn rfl ht (by simp only [aIns, aLd, hL, aIsL, aGo]; rfl) aLe k
theorem X_lload_n {z : Int64} {n4 : Fin 4} (np : Nat) (hd : decode F.2.1 pc = .ok (.lload_n n4, 1)) (hn : pc + 1 = np) (ht : aThr F pc = false) (hL : L[n4.val]? = some (some (.long z))) (k : X E d F np L (.long z :: st) S I Q) : X E d F pc L st S I Q := X_ins hd hn rfl ht (by simp only [aIns, aLd, hL, aIsL, aGo]; rfl) aLe k
theorem X_istore (np : Nat) (hd : decode F.2.1 pc = .ok (.istore n, 2)) (hn : pc + 2 = np) (ht : aThr F pc = false) (hL : n < L.length) (hz : (n != F.2.2.2.1 && n + 1 != F.2.2.2.1) = true) (k : X E d F np (L.set n (some (J x))) st S I Q) : X E d F pc L (J x :: st) S I Q := by
  simp only [Bool.and_eq_true, bne_iff_ne] at hz
  exact X_ins hd hn rfl ht (by simp only [aIns, aSt, aIsI, aGo]; rw [if_pos ⟨trivial, hL, Or.inl hz.1⟩]) aLe k
theorem X_istore_n {n4 : Fin 4} (np : Nat) (hd : decode F.2.1 pc = .ok (.istore_n n4, 1)) (hn : pc + 1 = np) (ht : aThr F pc = false) (hL : n4.val < L.length) (hz : (n4.val != F.2.2.2.1 && n4.val + 1 != F.2.2.2.1) = true) (k : X E d F np (L.set n4.val (some (J x))) st S I Q) : X E d F pc L (J x :: st) S I Q := by
  simp only [Bool.and_eq_true, bne_iff_ne] at hz
  exact X_ins hd hn rfl ht (by simp only [aIns, aSt, aIsI, aGo]; rw [if_pos ⟨trivial, hL, Or.inl hz.1⟩]) aLe k
theorem X_astore (np : Nat) (hd : decode F.2.1 pc = .ok (.astore n, 2)) (hn : pc + 2 = np) (ht : aThr F pc = false) (hL : n < L.length) (hz : (n != F.2.2.2.1 && n + 1 != F.2.2.2.1) = true) (k : X E d F np (L.set n (some (.ref a))) st S I Q) : X E d F pc L (.ref a :: st) S I Q := by
  simp only [Bool.and_eq_true, bne_iff_ne] at hz
  exact X_ins hd hn rfl ht (by simp only [aIns, aSt, aIsR, aGo]; rw [if_pos ⟨trivial, hL, Or.inl hz.1⟩]) aLe k
theorem X_astore_n {n4 : Fin 4} (np : Nat) (hd : decode F.2.1 pc = .ok (.astore_n n4, 1)) (hn : pc + 1 = np) (ht : aThr F pc = false) (hL : n4.val < L.length) (hz : (n4.val != F.2.2.2.1 && n4.val + 1 != F.2.2.2.1) = true) (k : X E d F np (L.set n4.val (some (.ref a))) st S I Q) : X E d F pc L (.ref a :: st) S I Q := by
  simp only [Bool.and_eq_true, bne_iff_ne] at hz
  exact X_ins hd hn rfl ht (by simp only [aIns, aSt, aIsR, aGo]; rw [if_pos ⟨trivial, hL, Or.inl hz.1⟩]) aLe k
theorem X_lstore {z : Int64} (np : Nat) (hd : decode F.2.1 pc = .ok (.lstore n, 2)) (hn : pc + 2 = np) (ht : aThr F pc = false) (hL : n + 1 < L.length) (hz : n + 1 = F.2.2.2.1) (k : X E d F np ((L.set n (some (.long z))).set (n + 1) none) st S I Q) : X E d F pc L (.long z :: st) S I Q := X_ins hd hn rfl ht (by simp only [aIns, aStL, aGo]; rw [if_pos ⟨hL, hz⟩]) aLe k
theorem X_lstore_n {z : Int64} {n4 : Fin 4} (np : Nat) (hd : decode F.2.1 pc = .ok (.lstore_n n4, 1)) (hn : pc + 1 = np) (ht : aThr F pc = false) (hL : n4.val + 1 < L.length) (hz : n4.val + 1 = F.2.2.2.1) (k : X E d F np ((L.set n4.val (some (.long z))).set (n4.val + 1) none) st S I Q) : X E d F pc L (.long z :: st) S I Q := X_ins hd hn rfl ht (by simp only [aIns, aStL, aGo]; rw [if_pos ⟨hL, hz⟩]) aLe k
theorem X_iinc {q : Int} (np : Nat) (hd : decode F.2.1 pc = .ok (.iinc n q, 3)) (hn : pc + 3 = np) (ht : aThr F pc = false) (hL : L[n]? = some (some (J x))) (hz : (n != F.2.2.2.1 && n + 1 != F.2.2.2.1) = true) (k : X E d F np (L.set n (some (J (x + q)))) st S I Q) : X E d F pc L st S I Q := by
  simp only [Bool.and_eq_true, bne_iff_ne] at hz
  refine X_ins hd hn rfl ht (by simp only [aIns, hL, aGo]; rw [if_pos (Or.inl hz.1)]) aLe ?_
  rw [← Int32.ofInt_add]
  exact k
theorem X_istoreZ (np : Nat) (hd : decode F.2.1 pc = .ok (.istore n, 2)) (hn : pc + 2 = np) (ht : aThr F pc = false) (hL : n < L.length) (hz : (n != F.2.2.2.1 || aNo2 L n) = true) (k : X E d F np (L.set n (some (J x))) st S I Q) : X E d F pc L (J x :: st) S I Q := by
  simp only [Bool.or_eq_true, bne_iff_ne] at hz
  exact X_ins hd hn rfl ht (by simp only [aIns, aSt, aIsI, aGo]; rw [if_pos ⟨trivial, hL, hz⟩]) aLe k
theorem X_astoreZ (np : Nat) (hd : decode F.2.1 pc = .ok (.astore n, 2)) (hn : pc + 2 = np) (ht : aThr F pc = false) (hL : n < L.length) (hz : (n != F.2.2.2.1 || aNo2 L n) = true) (k : X E d F np (L.set n (some (.ref a))) st S I Q) : X E d F pc L (.ref a :: st) S I Q := by
  simp only [Bool.or_eq_true, bne_iff_ne] at hz
  exact X_ins hd hn rfl ht (by simp only [aIns, aSt, aIsR, aGo]; rw [if_pos ⟨trivial, hL, hz⟩]) aLe k
theorem X_iincZ {q : Int} (np : Nat) (hd : decode F.2.1 pc = .ok (.iinc n q, 3)) (hn : pc + 3 = np) (ht : aThr F pc = false) (hL : L[n]? = some (some (J x))) (hz : (n != F.2.2.2.1 || aNo2 L n) = true) (k : X E d F np (L.set n (some (J (x + q)))) st S I Q) : X E d F pc L st S I Q := by
  simp only [Bool.or_eq_true, bne_iff_ne] at hz
  refine X_ins hd hn rfl ht (by simp only [aIns, hL, aGo]; rw [if_pos hz]) aLe ?_
  rw [← Int32.ofInt_add]
  exact k
theorem X_iconst {q : Int} (np : Nat) (hd : decode F.2.1 pc = .ok (.iconst q, 1)) (hn : pc + 1 = np) (ht : aThr F pc = false) (k : X E d F np L (J q :: st) S I Q) : X E d F pc L st S I Q := X_ins hd hn rfl ht rfl aLe k
theorem X_bipush {q : Int} (np : Nat) (z : Int) (hd : decode F.2.1 pc = .ok (.bipush q, 2)) (hn : pc + 2 = np) (ht : aThr F pc = false) (hq : ((Int8.ofInt q).toInt32 == Int32.ofInt z) = true) (k : X E d F np L (J z :: st) S I Q) : X E d F pc L st S I Q := by
  refine X_ins hd hn rfl ht rfl aLe ?_
  rw [beq_iff_eq.mp hq]
  exact k
theorem X_sipush {q : Int} (np : Nat) (z : Int) (hd : decode F.2.1 pc = .ok (.sipush q, 3)) (hn : pc + 3 = np) (ht : aThr F pc = false) (hq : ((Int16.ofInt q).toInt32 == Int32.ofInt z) = true) (k : X E d F np L (J z :: st) S I Q) : X E d F pc L st S I Q := by
  refine X_ins hd hn rfl ht rfl aLe ?_
  rw [beq_iff_eq.mp hq]
  exact k
theorem X_ldcI {q : Nat} {e : Nat × Nat × Int32 × Nat} (np : Nat) (z : Int) (hd : decode F.2.1 pc = .ok (.ldc q, 2)) (hn : pc + 2 = np) (ht : aThr F pc = false) (he : aInt F.1 q = some e) (hq : (e.2.2.1 == Int32.ofInt z) = true) (k : X E d F np L (J z :: st) S I Q) : X E d F pc L st S I Q := by
  refine X_ins hd hn rfl ht (by simp only [aIns, he]; rfl) aLe ?_
  rw [beq_iff_eq.mp hq]
  exact k
theorem X_ldcS {q : Nat} {e : Nat × Nat × Nat × Nat} (np : Nat) (hd : decode F.2.1 pc = .ok (.ldc q, 2)) (hn : pc + 2 = np) (ht : aThr F pc = false) (h0 : aInt F.1 q = none) (he : aStr F.1 q = some e) (hE : E e.2.2.1 = .ref a) (k : X E d F np L (.ref a :: st) S I Q) : X E d F pc L st S I Q := X_ins hd hn rfl ht (by simp only [aIns, h0, he, hE]; rfl) aLe k
theorem X_ldc2 {q : Nat} {e : Nat × Nat × Int64 × Nat} (np : Nat) (hd : decode F.2.1 pc = .ok (.ldc2_w q, 3)) (hn : pc + 3 = np) (ht : aThr F pc = false) (he : aLng F.1 q = some e) (k : X E d F np L (.long e.2.2.1 :: st) S I Q) : X E d F pc L st S I Q := X_ins hd hn rfl ht (by simp only [aIns, he]; rfl) aLe k
theorem X_dconst0 (np : Nat) (hd : decode F.2.1 pc = .ok (.dconst 0, 1)) (hn : pc + 1 = np) (ht : aThr F pc = false) (k : X E d F np L (.double FP.dconst0 :: st) S I Q) : X E d F pc L st S I Q := X_ins hd hn rfl ht rfl aLe k
theorem X_iadd (np : Nat) (hd : decode F.2.1 pc = .ok (.iadd, 1)) (hn : pc + 1 = np) (ht : aThr F pc = false) (k : X E d F np L (J (x + y) :: st) S I Q) : X E d F pc L (J y :: J x :: st) S I Q := X_ins hd hn rfl ht rfl aLe (by rw [show (fun a b => a + b) (Int32.ofInt x) (Int32.ofInt y) = Int32.ofInt (x + y) from (Int32.ofInt_add x y).symm]; exact k)
theorem X_isub (np : Nat) (hd : decode F.2.1 pc = .ok (.isub, 1)) (hn : pc + 1 = np) (ht : aThr F pc = false) (k : X E d F np L (J (x - y) :: st) S I Q) : X E d F pc L (J y :: J x :: st) S I Q := X_ins hd hn rfl ht rfl aLe (by rw [show (fun a b => a - b) (Int32.ofInt x) (Int32.ofInt y) = Int32.ofInt (x - y) from (Int32.ofInt_sub x y).symm]; exact k)
theorem X_imul (np : Nat) (hd : decode F.2.1 pc = .ok (.imul, 1)) (hn : pc + 1 = np) (ht : aThr F pc = false) (k : X E d F np L (J (x * y) :: st) S I Q) : X E d F pc L (J y :: J x :: st) S I Q := X_ins hd hn rfl ht rfl aLe (by rw [show (fun a b => a * b) (Int32.ofInt x) (Int32.ofInt y) = Int32.ofInt (x * y) from (Int32.ofInt_mul x y).symm]; exact k)
theorem X_ineg (np : Nat) (hd : decode F.2.1 pc = .ok (.ineg, 1)) (hn : pc + 1 = np) (ht : aThr F pc = false) (k : X E d F np L (J (-x) :: st) S I Q) : X E d F pc L (J x :: st) S I Q := X_ins hd hn rfl ht rfl aLe (by dsimp only; rw [← Int32.ofInt_neg]; exact k)
theorem ofI_self (z : Int32) : Int32.ofInt z.toInt = z := Int32.ofInt_toInt z
theorem ofI_div {x y : Int} (hx : R32 x) (hy : R32 y) (h1 : y ≠ -1) : Int32.ofInt x / Int32.ofInt y = Int32.ofInt (x.tdiv y) := by
  have hm : ¬ (Int32.ofInt y = -1) := fun h => h1 (by
    have h2 := congrArg Int32.toInt h
    rw [ofI hy] at h2
    exact h2)
  rw [← ofI_self (Int32.ofInt x / Int32.ofInt y), Int32.toInt_div_of_ne_right _ _ hm, ofI hx, ofI hy]
theorem X_idiv (np : Nat) (hd : decode F.2.1 pc = .ok (.idiv, 1)) (hn : pc + 1 = np) (ht : aThr F pc = false) (hx : R32 x) (hy : R32 y) (h0 : y ≠ 0) (h1 : y ≠ -1) (k : X E d F np L (J (x.tdiv y) :: st) S I Q) : X E d F pc L (J y :: J x :: st) S I Q := by
  have h2 : ¬ (Int32.ofInt y = 0) := fun h => h0 (by
    have h3 := congrArg Int32.toInt h
    rw [ofI hy] at h3
    exact h3)
  refine X_ins hd hn rfl ht (by simp only [aIns, aB0, aGo]; rw [if_neg h2]) aLe ?_
  rw [ofI_div hx hy h1]
  exact k
theorem X_irem (np : Nat) (hd : decode F.2.1 pc = .ok (.irem, 1)) (hn : pc + 1 = np) (ht : aThr F pc = false) (hx : R32 x) (hy : R32 y) (h0 : y ≠ 0) (h1 : y ≠ -1) (k : X E d F np L (J (x.tmod y) :: st) S I Q) : X E d F pc L (J y :: J x :: st) S I Q := by
  have h2 : ¬ (Int32.ofInt y = 0) := fun h => h0 (by
    have h3 := congrArg Int32.toInt h
    rw [ofI hy] at h3
    exact h3)
  refine X_ins hd hn rfl ht (by simp only [aIns, aB0, aGo]; rw [if_neg h2]) aLe ?_
  rw [ofI_div hx hy h1, ← Int32.ofInt_mul, ← Int32.ofInt_sub, show x - x.tdiv y * y = x.tmod y by rw [Int.tmod_def, Int.mul_comm]]
  exact k
theorem X_bit {ins : Instr} {f : Int32 → Int32 → Int32} (np : Nat) (hd : decode F.2.1 pc = .ok (ins, 1)) (hn : pc + 1 = np) (ht : aThr F pc = false) (hl : aLen ins 1 = true) (hf : aIns E F ins pc np L (J y :: J x :: st) S I = aGo np L (.int (f (Int32.ofInt x) (Int32.ofInt y)) :: st) S I) (k : X E d F np L (J (f (Int32.ofInt x) (Int32.ofInt y)).toInt :: st) S I Q) : X E d F pc L (J y :: J x :: st) S I Q := by
  refine X_ins hd hn hl ht hf aLe ?_
  rw [← ofI_self (f (Int32.ofInt x) (Int32.ofInt y))]
  exact k
theorem X_iand (np : Nat) (hd : decode F.2.1 pc = .ok (.iand, 1)) (hn : pc + 1 = np) (ht : aThr F pc = false) (k : X E d F np L (J (Int32.ofInt x &&& Int32.ofInt y).toInt :: st) S I Q) : X E d F pc L (J y :: J x :: st) S I Q := X_bit (f := fun a b => a &&& b) np hd hn ht rfl rfl k
theorem X_ior (np : Nat) (hd : decode F.2.1 pc = .ok (.ior, 1)) (hn : pc + 1 = np) (ht : aThr F pc = false) (k : X E d F np L (J (Int32.ofInt x ||| Int32.ofInt y).toInt :: st) S I Q) : X E d F pc L (J y :: J x :: st) S I Q := X_bit (f := fun a b => a ||| b) np hd hn ht rfl rfl k
theorem X_ishl (np : Nat) (hd : decode F.2.1 pc = .ok (.ishl, 1)) (hn : pc + 1 = np) (ht : aThr F pc = false) (k : X E d F np L (J (Int32.ofInt x <<< (Int32.ofInt y &&& 31)).toInt :: st) S I Q) : X E d F pc L (J y :: J x :: st) S I Q := X_bit (f := fun a b => a <<< (b &&& 31)) np hd hn ht rfl rfl k
theorem X_ishr (np : Nat) (hd : decode F.2.1 pc = .ok (.ishr, 1)) (hn : pc + 1 = np) (ht : aThr F pc = false) (k : X E d F np L (J (Int32.ofInt x >>> (Int32.ofInt y &&& 31)).toInt :: st) S I Q) : X E d F pc L (J y :: J x :: st) S I Q := X_bit (f := fun a b => a >>> (b &&& 31)) np hd hn ht rfl rfl k
theorem X_i2b (np : Nat) (hd : decode F.2.1 pc = .ok (.i2b, 1)) (hn : pc + 1 = np) (ht : aThr F pc = false) (k : X E d F np L (J (Int32.ofInt x).toInt8.toInt32.toInt :: st) S I Q) : X E d F pc L (J x :: st) S I Q := by
  refine X_ins hd hn rfl ht rfl aLe ?_
  dsimp only
  rw [← ofI_self (Int32.ofInt x).toInt8.toInt32]
  exact k
theorem X_i2c (np : Nat) (hd : decode F.2.1 pc = .ok (.i2c, 1)) (hn : pc + 1 = np) (ht : aThr F pc = false) (k : X E d F np L (J ((Int32.ofInt x).toUInt32 % 65536).toInt32.toInt :: st) S I Q) : X E d F pc L (J x :: st) S I Q := by
  refine X_ins hd hn rfl ht rfl aLe ?_
  dsimp only
  rw [← ofI_self ((Int32.ofInt x).toUInt32 % 65536).toInt32]
  exact k
theorem X_i2l (np : Nat) (hd : decode F.2.1 pc = .ok (.i2l, 1)) (hn : pc + 1 = np) (ht : aThr F pc = false) (k : X E d F np L (.long (Int32.ofInt x).toInt64 :: st) S I Q) : X E d F pc L (J x :: st) S I Q := X_ins hd hn rfl ht rfl aLe k
theorem X_i2d (np : Nat) (hd : decode F.2.1 pc = .ok (.i2d, 1)) (hn : pc + 1 = np) (ht : aThr F pc = false) (k : X E d F np L (.double (FP.i2d (Int32.ofInt x)) :: st) S I Q) : X E d F pc L (J x :: st) S I Q := X_ins hd hn rfl ht rfl aLe k
theorem X_ladd {p q : Int64} (np : Nat) (hd : decode F.2.1 pc = .ok (.ladd, 1)) (hn : pc + 1 = np) (ht : aThr F pc = false) (k : X E d F np L (.long (p + q) :: st) S I Q) : X E d F pc L (.long q :: .long p :: st) S I Q := X_ins hd hn rfl ht rfl aLe k
theorem X_lmul {p q : Int64} (np : Nat) (hd : decode F.2.1 pc = .ok (.lmul, 1)) (hn : pc + 1 = np) (ht : aThr F pc = false) (k : X E d F np L (.long (p * q) :: st) S I Q) : X E d F pc L (.long q :: .long p :: st) S I Q := X_ins hd hn rfl ht rfl aLe k
theorem X_lcmp {p q : Int64} (np : Nat) (hd : decode F.2.1 pc = .ok (.lcmp, 1)) (hn : pc + 1 = np) (ht : aThr F pc = false) (k : X E d F np L (.int (lg_cmp p q) :: st) S I Q) : X E d F pc L (.long q :: .long p :: st) S I Q := X_ins hd hn rfl ht rfl aLe k
theorem X_ddiv {p q : UInt64} (np : Nat) (hd : decode F.2.1 pc = .ok (.ddiv, 1)) (hn : pc + 1 = np) (ht : aThr F pc = false) (hv : FP.ddiv p q &&& 0x7fffffffffffffff ≤ 0x7ff0000000000000) (k : X E d F np L (.double (FP.ddiv p q) :: st) S I Q) : X E d F pc L (.double q :: .double p :: st) S I Q := X_ins hd hn rfl ht (by simp only [aIns, aGo]; rw [if_pos hv]) aLe k
theorem X_dcmp {p q : UInt64} {op : CmpOp} (np : Nat) (hd : decode F.2.1 pc = .ok (.dcmp op, 1)) (hn : pc + 1 = np) (ht : aThr F pc = false) (k : X E d F np L (.int (Op.cmpValue (FP.dcmp p q) op) :: st) S I Q) : X E d F pc L (.double q :: .double p :: st) S I Q := X_ins hd hn rfl ht rfl aLe k
theorem X_pop (np : Nat) (hd : decode F.2.1 pc = .ok (.pop, 1)) (hn : pc + 1 = np) (ht : aThr F pc = false) (h1 : v.category = 1) (k : X E d F np L st S I Q) : X E d F pc L (v :: st) S I Q := X_ins hd hn rfl ht (by simp only [aIns, aGo]; rw [if_pos h1]) aLe k
theorem X_dup (np : Nat) (hd : decode F.2.1 pc = .ok (.dup, 1)) (hn : pc + 1 = np) (ht : aThr F pc = false) (h1 : v.category = 1) (k : X E d F np L (v :: v :: st) S I Q) : X E d F pc L (v :: st) S I Q := X_ins hd hn rfl ht (by simp only [aIns, aGo]; rw [if_pos h1]) aLe k
theorem X_dup2 (np : Nat) (hd : decode F.2.1 pc = .ok (.dup2, 1)) (hn : pc + 1 = np) (ht : aThr F pc = false) (h1 : v.category = 1) (h2 : w.category = 1) (k : X E d F np L (v :: w :: v :: w :: st) S I Q) : X E d F pc L (v :: w :: st) S I Q := X_ins hd hn rfl ht (by simp only [aIns, aGo]; rw [if_pos ⟨h1, h2⟩]) aLe k
theorem aJmp_go {off : Int} {tg : Nat} (h : (pc : Int) + off = (tg : Int)) : aJmp pc off L st S I = aGo tg L st S I := by
  unfold aJmp aOff
  rw [h, if_pos (Int.natCast_nonneg tg), Int.toNat_natCast]
theorem X_goto {off : Int} (tg : Nat) (hd : decode F.2.1 pc = .ok (.goto off, 3)) (ht : aThr F pc = false) (ho : ((pc : Int) + off == (tg : Int)) = true) (k : X E d F tg L st S I Q) : X E d F pc L st S I Q := X_ins hd rfl rfl ht (by simp only [aIns]; exact aJmp_go (beq_iff_eq.mp ho)) aLe k
theorem X_if {cn : Jvm.ClassFile.Cond} {off : Int} {c : Bool} (tg np : Nat) (hd : decode F.2.1 pc = .ok (.ifCond cn off, 3)) (hn : pc + 3 = np) (ht : aThr F pc = false) (ho : ((pc : Int) + off == (tg : Int)) = true) {z : Int32} (hc : aCmp cn z 0 = c) (k1 : c = true → X E d F tg L st S I Q) (k2 : c = false → X E d F np L st S I Q) : X E d F pc L (.int z :: st) S I Q := by
  have ho' := beq_iff_eq.mp ho
  cases c with
  | true => exact X_ins hd hn rfl ht (by simp only [aIns]; rw [if_pos hc]; exact aJmp_go ho') aLe (k1 rfl)
  | false => exact X_ins hd hn rfl ht (by simp only [aIns]; rw [if_neg (by rw [hc]; decide), if_pos (by rw [ho']; exact Int.natCast_nonneg tg)]; rfl) aLe (k2 rfl)
theorem X_icmp {cn : Jvm.ClassFile.Cond} {off : Int} {c : Bool} (tg np : Nat) (hd : decode F.2.1 pc = .ok (.if_icmp cn off, 3)) (hn : pc + 3 = np) (ht : aThr F pc = false) (ho : ((pc : Int) + off == (tg : Int)) = true) (hc : aCmp cn (Int32.ofInt x) (Int32.ofInt y) = c) (k1 : c = true → X E d F tg L st S I Q) (k2 : c = false → X E d F np L st S I Q) : X E d F pc L (J y :: J x :: st) S I Q := by
  have ho' := beq_iff_eq.mp ho
  cases c with
  | true => exact X_ins hd hn rfl ht (by simp only [aIns]; rw [if_pos hc]; exact aJmp_go ho') aLe (k1 rfl)
  | false => exact X_ins hd hn rfl ht (by simp only [aIns]; rw [if_neg (by rw [hc]; decide), if_pos (by rw [ho']; exact Int.natCast_nonneg tg)]; rfl) aLe (k2 rfl)
theorem R32_0 : R32 0 := ⟨by decide, by decide⟩
theorem X_icmpeq {off : Int} (tg np : Nat) (hd : decode F.2.1 pc = .ok (.if_icmp .eq off, 3)) (hn : pc + 3 = np) (ht : aThr F pc = false) (ho : ((pc : Int) + off == (tg : Int)) = true) (hx : R32 x) (hy : R32 y) (k1 : x = y → X E d F tg L st S I Q) (k2 : x ≠ y → X E d F np L st S I Q) : X E d F pc L (J y :: J x :: st) S I Q := X_icmp tg np hd hn ht ho (aCmp_i hx hy) (fun h => k1 (of_decide_eq_true h)) (fun h => k2 (of_decide_eq_false h))
theorem X_icmpne {off : Int} (tg np : Nat) (hd : decode F.2.1 pc = .ok (.if_icmp .ne off, 3)) (hn : pc + 3 = np) (ht : aThr F pc = false) (ho : ((pc : Int) + off == (tg : Int)) = true) (hx : R32 x) (hy : R32 y) (k1 : x ≠ y → X E d F tg L st S I Q) (k2 : x = y → X E d F np L st S I Q) : X E d F pc L (J y :: J x :: st) S I Q := X_icmp tg np hd hn ht ho (aCmp_i hx hy) (fun h => k1 (of_decide_eq_true h)) (fun h => k2 (Decidable.of_not_not (of_decide_eq_false h)))
theorem X_icmplt {off : Int} (tg np : Nat) (hd : decode F.2.1 pc = .ok (.if_icmp .lt off, 3)) (hn : pc + 3 = np) (ht : aThr F pc = false) (ho : ((pc : Int) + off == (tg : Int)) = true) (hx : R32 x) (hy : R32 y) (k1 : x < y → X E d F tg L st S I Q) (k2 : y ≤ x → X E d F np L st S I Q) : X E d F pc L (J y :: J x :: st) S I Q := X_icmp tg np hd hn ht ho (aCmp_i hx hy) (fun h => k1 (of_decide_eq_true h)) (fun h => k2 (Int.not_lt.mp (of_decide_eq_false h)))
theorem X_icmpge {off : Int} (tg np : Nat) (hd : decode F.2.1 pc = .ok (.if_icmp .ge off, 3)) (hn : pc + 3 = np) (ht : aThr F pc = false) (ho : ((pc : Int) + off == (tg : Int)) = true) (hx : R32 x) (hy : R32 y) (k1 : y ≤ x → X E d F tg L st S I Q) (k2 : x < y → X E d F np L st S I Q) : X E d F pc L (J y :: J x :: st) S I Q := X_icmp tg np hd hn ht ho (aCmp_i hx hy) (fun h => k1 (of_decide_eq_true h)) (fun h => k2 (Int.not_le.mp (of_decide_eq_false h)))
theorem X_icmpgt {off : Int} (tg np : Nat) (hd : decode F.2.1 pc = .ok (.if_icmp .gt off, 3)) (hn : pc + 3 = np) (ht : aThr F pc = false) (ho : ((pc : Int) + off == (tg : Int)) = true) (hx : R32 x) (hy : R32 y) (k1 : y < x → X E d F tg L st S I Q) (k2 : x ≤ y → X E d F np L st S I Q) : X E d F pc L (J y :: J x :: st) S I Q := X_icmp tg np hd hn ht ho (aCmp_i hx hy) (fun h => k1 (of_decide_eq_true h)) (fun h => k2 (Int.not_lt.mp (of_decide_eq_false h)))
theorem X_icmple {off : Int} (tg np : Nat) (hd : decode F.2.1 pc = .ok (.if_icmp .le off, 3)) (hn : pc + 3 = np) (ht : aThr F pc = false) (ho : ((pc : Int) + off == (tg : Int)) = true) (hx : R32 x) (hy : R32 y) (k1 : x ≤ y → X E d F tg L st S I Q) (k2 : y < x → X E d F np L st S I Q) : X E d F pc L (J y :: J x :: st) S I Q := X_icmp tg np hd hn ht ho (aCmp_i hx hy) (fun h => k1 (of_decide_eq_true h)) (fun h => k2 (Int.not_le.mp (of_decide_eq_false h)))
theorem X_ifeq {off : Int} (tg np : Nat) (hd : decode F.2.1 pc = .ok (.ifCond .eq off, 3)) (hn : pc + 3 = np) (ht : aThr F pc = false) (ho : ((pc : Int) + off == (tg : Int)) = true) (hx : R32 x) (k1 : x = 0 → X E d F tg L st S I Q) (k2 : x ≠ 0 → X E d F np L st S I Q) : X E d F pc L (J x :: st) S I Q := X_if tg np hd hn ht ho (aCmp_i (y := 0) hx R32_0) (fun h => k1 (of_decide_eq_true h)) (fun h => k2 (of_decide_eq_false h))
theorem X_ifne {off : Int} (tg np : Nat) (hd : decode F.2.1 pc = .ok (.ifCond .ne off, 3)) (hn : pc + 3 = np) (ht : aThr F pc = false) (ho : ((pc : Int) + off == (tg : Int)) = true) (hx : R32 x) (k1 : x ≠ 0 → X E d F tg L st S I Q) (k2 : x = 0 → X E d F np L st S I Q) : X E d F pc L (J x :: st) S I Q := X_if tg np hd hn ht ho (aCmp_i (y := 0) hx R32_0) (fun h => k1 (of_decide_eq_true h)) (fun h => k2 (Decidable.of_not_not (of_decide_eq_false h)))
theorem X_iflt {off : Int} (tg np : Nat) (hd : decode F.2.1 pc = .ok (.ifCond .lt off, 3)) (hn : pc + 3 = np) (ht : aThr F pc = false) (ho : ((pc : Int) + off == (tg : Int)) = true) (hx : R32 x) (k1 : x < 0 → X E d F tg L st S I Q) (k2 : 0 ≤ x → X E d F np L st S I Q) : X E d F pc L (J x :: st) S I Q := X_if tg np hd hn ht ho (aCmp_i (y := 0) hx R32_0) (fun h => k1 (of_decide_eq_true h)) (fun h => k2 (Int.not_lt.mp (of_decide_eq_false h)))
theorem X_ifge {off : Int} (tg np : Nat) (hd : decode F.2.1 pc = .ok (.ifCond .ge off, 3)) (hn : pc + 3 = np) (ht : aThr F pc = false) (ho : ((pc : Int) + off == (tg : Int)) = true) (hx : R32 x) (k1 : 0 ≤ x → X E d F tg L st S I Q) (k2 : x < 0 → X E d F np L st S I Q) : X E d F pc L (J x :: st) S I Q := X_if tg np hd hn ht ho (aCmp_i (y := 0) hx R32_0) (fun h => k1 (of_decide_eq_true h)) (fun h => k2 (Int.not_le.mp (of_decide_eq_false h)))
theorem X_ifgt {off : Int} (tg np : Nat) (hd : decode F.2.1 pc = .ok (.ifCond .gt off, 3)) (hn : pc + 3 = np) (ht : aThr F pc = false) (ho : ((pc : Int) + off == (tg : Int)) = true) (hx : R32 x) (k1 : 0 < x → X E d F tg L st S I Q) (k2 : x ≤ 0 → X E d F np L st S I Q) : X E d F pc L (J x :: st) S I Q := X_if tg np hd hn ht ho (aCmp_i (y := 0) hx R32_0) (fun h => k1 (of_decide_eq_true h)) (fun h => k2 (Int.not_lt.mp (of_decide_eq_false h)))
theorem X_ifle {off : Int} (tg np : Nat) (hd : decode F.2.1 pc = .ok (.ifCond .le off, 3)) (hn : pc + 3 = np) (ht : aThr F pc = false) (ho : ((pc : Int) + off == (tg : Int)) = true) (hx : R32 x) (k1 : x ≤ 0 → X E d F tg L st S I Q) (k2 : 0 < x → X E d F np L st S I Q) : X E d F pc L (J x :: st) S I Q := X_if tg np hd hn ht ho (aCmp_i (y := 0) hx R32_0) (fun h => k1 (of_decide_eq_true h)) (fun h => k2 (Int.not_le.mp (of_decide_eq_false h)))
theorem X_ifnonnull {off : Int} (tg : Nat) (hd : decode F.2.1 pc = .ok (.ifnonnull off, 3)) (ht : aThr F pc = false) (ho : ((pc : Int) + off == (tg : Int)) = true) (k : X E d F tg L st S I Q) : X E d F pc L (.ref a :: st) S I Q := X_ins hd rfl rfl ht (by simp only [aIns]; exact aJmp_go (beq_iff_eq.mp ho)) aLe k
end AXI
