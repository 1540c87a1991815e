/-! X_if, its number named first -/
theorem X_ifz {E : Nat → Value} {d : Nat} {F : aF} {pc : Nat} {L : List (Option Value)} {st : List Value} {S : aS} {I : aI} {Q : Option (Option Value) → aS → aI → Prop} {z : Int32} {cn : Jvm.ClassFile.Cond} {off : Int} {c : Bool} (tg np : Nat) (hd : decode F.2.1 pc = .ok (.ifCond cn off, 3)) (hn : pc + 3 = np) (ht : aThr F pc = false) (ho : ((pc : Int) + off == (tg : Int)) = true) (hc : aCmp cn z 0 = c) (k1 : c = true → X E d F tg L st S I Q) (k2 : c = false → X E d F np L st S I Q) : X E d F pc L (.int z :: st) S I Q := X_if tg np hd hn ht ho hc k1 k2
/-! numbers written to memory: 32 bits of them -/
section AXZ
variable {E : Nat → Value} {d : Nat} {F : aF} {pc : Nat} {L : List (Option Value)} {st : List Value} {S : aS} {M : Nat → Nat → Int} {Q : Option (Option Value) → aS → aI → Prop} {x y : Int} {a b n : Nat}
/-- 32 bits of it -/
def nz (x : Int) : Int := (Int32.ofInt x).toInt
theorem ofI_nz (x : Int) : Int32.ofInt (nz x) = Int32.ofInt x := by unfold nz; rw [ofI_self]
theorem nz_eq {x : Int} (h : R32 x) : nz x = x := ofI h
theorem nz_R (x : Int) : R32 (nz x) := by
  have h1 := Int32.le_toInt (Int32.ofInt x)
  have h2 := Int32.toInt_lt (Int32.ofInt x)
  unfold nz
  constructor
  · exact h1
  · omega
theorem mI_nz {M : Nat → Nat → Int} {a k : Nat} {x : Int} : mI (mW M a k (nz x)) = mI (mW M a k x) := by rw [← mI_W, ← mI_W, ofI_nz]
theorem X_putIz {q k j : Nat} {fin : Bool} (np : Nat) (hd : decode F.2.1 pc = .ok (.putfield q, 3)) (hn : pc + 3 = np) (ht : aThr F pc = false) (he : aFd F.1 q = some (k, j, false, fin)) (hi : fin = false ∨ F.2.2.2.2 = true ∧ F.1 = k) (hk : aK S a = k) (hty : narrow (aTy k j) (J x) = J x) (hft : fits (aTy k j) (J x) = true) (kk : X E d F np L st S (mI (mW M a j (nz x))) Q) : X E d F pc L (J x :: .ref a :: st) S (mI M) Q := X_putI np hd hn ht he hi hk hty hft (by rw [← mI_nz]; exact kk)
theorem X_iastz (np : Nat) (hd : decode F.2.1 pc = .ok (.iastore, 1)) (hn : pc + 1 = np) (ht : aThr F pc = false) (hk : aK S a = 100) (hx : R32 x) (hi : 0 ≤ x ∧ x < aN S a) (kk : X E d F np L st S (mI (mW M a x.toNat (nz y))) Q) : X E d F pc L (J y :: J x :: .ref a :: st) S (mI M) Q := X_iast np hd hn ht hk hx hi (by rw [← mI_nz]; exact kk)
theorem ofI_divW {x y : Int} (hx : R32 x) (hy : R32 y) : Int32.ofInt x / Int32.ofInt y = Int32.ofInt (x.tdiv y) := by
  apply Int32.toInt_inj.mp
  rw [Int32.toInt_div, ofI hx, ofI hy, Int32.toInt_ofInt]
theorem ofI_remW {x y : Int} (hx : R32 x) (hy : R32 y) : Int32.ofInt x - Int32.ofInt x / Int32.ofInt y * Int32.ofInt y = Int32.ofInt (x.tmod y) := by
  rw [ofI_divW hx hy, ← Int32.ofInt_mul, ← Int32.ofInt_sub]
  congr 1
  have h := Int.tmod_add_mul_tdiv x y
  rw [Int.mul_comm] at h
  omega
theorem X_idivW (np : Nat) (hd : decode F.2.1 pc = .ok (.idiv, 1)) (hn : pc + 1 = np) (ht : aThr F pc = false) (hx : R32 x) (hy : R32 y) (h0 : y ≠ 0) (kk : X E d F np L (J (x.tdiv y) :: st) S (mI M) Q) : X E d F pc L (J y :: J x :: st) S (mI M) Q := by
  have h9 : ¬ Int32.ofInt y = 0 := fun h => h0 (by rw [← ofI hy, h]; rfl)
  refine X_ins hd hn rfl ht (by simp only [aIns, aB0]; rw [if_neg h9]; rfl) aLe ?_
  rw [ofI_divW hx hy]
  exact kk
theorem X_iremW (np : Nat) (hd : decode F.2.1 pc = .ok (.irem, 1)) (hn : pc + 1 = np) (ht : aThr F pc = false) (hx : R32 x) (hy : R32 y) (h0 : y ≠ 0) (kk : X E d F np L (J (x.tmod y) :: st) S (mI M) Q) : X E d F pc L (J y :: J x :: st) S (mI M) Q := by
  have h9 : ¬ Int32.ofInt y = 0 := fun h => h0 (by rw [← ofI hy, h]; rfl)
  refine X_ins hd hn rfl ht (by simp only [aIns, aB0]; rw [if_neg h9]; rfl) aLe ?_
  rw [ofI_remW hx hy]
  exact kk
end AXZ
