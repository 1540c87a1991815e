/-! bytes copied, cloned; null -/
section AXY
variable {E : Nat → Value} {d : Nat} {F : aF} {pc : Nat} {L : List (Option Value)} {st : List Value} {S : aS} {M : Nat → Nat → Int} {Q : Option (Option Value) → aS → aI → Prop} {x y : Int} {a b n : Nat}
theorem aByt_i {m : Nat → Int} {sp n : Nat} (h : ∀ j, j < n → -128 ≤ m (sp + j) ∧ m (sp + j) ≤ 127) : aByt (fun j => Int32.ofInt (m j)) sp n = true := by
  unfold aByt
  rw [List.all_eq_true]
  intro j hj
  rw [List.mem_range] at hj
  have h1 := h j hj
  unfold fits
  have h2 : (Int32.ofInt (m (sp + j))).toInt = m (sp + j) := ofI ⟨by omega, by omega⟩
  simp only [Bool.and_eq_true, decide_eq_true_eq, h2]
  first
  | exact h1
  | (simp [Int32.le_iff_toInt_le, h2]; omega)
theorem X_copyB {q : Nat} {sp dp n : Int} {b a : Nat} (np : Nat) (hd : decode F.2.1 pc = .ok (.invokestatic q, 3)) (hn : pc + 3 = np) (ht : aThr F pc = false) (hm : aMth F.1 q = none) (hq : aHas aAcpT F.1 q = true) (hb : aKd S b = 101) (ha : aK S a = 101) (h1 : 0 ≤ sp ∧ 0 ≤ dp ∧ 0 ≤ n) (h2 : R32 sp ∧ R32 dp ∧ R32 n) (h3 : sp + n ≤ aN S b) (h4 : dp + n ≤ aN S a) (hy : ∀ j, j < n.toNat → -128 ≤ M b (sp.toNat + j) ∧ M b (sp.toNat + j) ≤ 127) (hr : aCat st ≤ 8) (kk : X E d F np L st S (mI (aU M a (va_cpy (M b) (M a) sp.toNat dp.toNat n.toNat))) Q) : X E d F pc L (J n :: J dp :: .ref a :: J sp :: .ref b :: st) S (mI M) Q := by
  refine X_ins hd hn rfl ht (by simp only [aIns, hm, aCopy]; rw [if_pos hq, if_pos ⟨(ofI_le R32_0 h2.1).mpr h1.1, (ofI_le R32_0 h2.2.1).mpr h1.2.1, (ofI_le R32_0 h2.2.2).mpr h1.2.2, by rw [ofI_nat h2.1, ofI_nat h2.2.2]; omega, by rw [ofI_nat h2.2.1, ofI_nat h2.2.2]; omega, hr, Or.inr ⟨hb, ha, by rw [ofI_nat h2.1, ofI_nat h2.2.2]; exact aByt_i hy⟩⟩]; rfl) aLe ?_
  rw [ofI_nat h2.1, ofI_nat h2.2.1, ofI_nat h2.2.2, show aU (mI M) a (va_cpy (mI M b) (mI M a) sp.toNat dp.toNat n.toNat) = mI (aU M a (va_cpy (M b) (M a) sp.toNat dp.toNat n.toNat)) by
    funext c j
    unfold mI aU va_cpy
    by_cases h : c = a
    · simp only [if_pos h]
      by_cases h5 : dp.toNat ≤ j ∧ j < dp.toNat + n.toNat
      · rw [if_pos h5, if_pos h5]
      · rw [if_neg h5, if_neg h5]
    · simp only [if_neg h]]
  exact kk
theorem X_clone (np : Nat) (hF : F.1 = 23) (hd : decode F.2.1 pc = .ok (.invokevirtual 310, 3)) (hn : pc + 3 = np) (ht : aThr F pc = false) (ha : aK S a = 101) (hy : ∀ j, j < aN S a → -128 ≤ M a j ∧ M a j ≤ 127) (hr : aCat st ≤ 8) (kk : X E d F np L (.ref (aX S) :: st) (aNew S 101 (aN S a) (aN S a)) (mI (aU M (aX S) (M a))) Q) : X E d F pc L (.ref a :: st) S (mI M) Q := by
  refine X_ins hd hn rfl ht (by simp only [aIns, aClone]; rw [if_pos ⟨hF, trivial⟩, if_pos ⟨ha, aByt_i (sp := 0) (fun j hj => by rw [Nat.zero_add]; exact hy j hj), hr⟩]; rfl) ⟨Nat.le_succ _, Nat.le_add_right _ _⟩ ?_
  rw [show aU (mI M) (aX S) (mI M a) = mI (aU M (aX S) (M a)) by
    funext c j
    unfold mI aU
    by_cases h : c = aX S
    · simp only [if_pos h]
    · simp only [if_neg h]]
  exact kk
theorem X_cast (np : Nat) (hF : F.1 = 23) (hd : decode F.2.1 pc = .ok (.checkcast 311, 3)) (hn : pc + 3 = np) (ht : aThr F pc = false) (ha : aK S a = 101) (kk : X E d F np L (.ref a :: st) S (mI M) Q) : X E d F pc L (.ref a :: st) S (mI M) Q :=
  X_ins hd hn rfl ht (by simp only [aIns]; rw [if_pos ⟨hF, trivial⟩, if_pos ha]; rfl) aLe kk
theorem X_null (np : Nat) (hd : decode F.2.1 pc = .ok (.aconst_null, 1)) (hn : pc + 1 = np) (ht : aThr F pc = false) (kk : X E d F np L (.null :: st) S (mI M) Q) : X E d F pc L st S (mI M) Q :=
  X_ins hd hn rfl ht rfl aLe kk
/-- n places of b's from sp on, copied over a's from dp on -/
def aCp (M : Nat → Nat → Int) (b a sp dp n : Nat) : Nat → Nat → Int := aU M a (va_cpy (M b) (M a) sp dp n)
theorem X_cpI {q : Nat} {sp dp n : Int} {b a : Nat} (np : Nat) (hd : decode F.2.1 pc = .ok (.invokestatic q, 3)) (hn : pc + 3 = np) (ht : aThr F pc = false) (hm : aMth F.1 q = none) (hq : aHas aAcpT F.1 q = true) (hb : aKd S b = 100) (ha : aK S a = 100) (h1 : 0 ≤ sp ∧ 0 ≤ dp ∧ 0 ≤ n) (h2 : R32 sp ∧ R32 dp ∧ R32 n) (h3 : sp + n ≤ aN S b) (h4 : dp + n ≤ aN S a) (hr : aCat st ≤ 8) (kk : X E d F np L st S (mI (aCp M b a sp.toNat dp.toNat n.toNat)) Q) : X E d F pc L (J n :: J dp :: .ref a :: J sp :: .ref b :: st) S (mI M) Q := X_copyI np hd hn ht hm hq hb ha h1 h2 h3 h4 hr kk
theorem X_cpB {q : Nat} {sp dp n : Int} {b a : Nat} (np : Nat) (hd : decode F.2.1 pc = .ok (.invokestatic q, 3)) (hn : pc + 3 = np) (ht : aThr F pc = false) (hm : aMth F.1 q = none) (hq : aHas aAcpT F.1 q = true) (hb : aKd S b = 101) (ha : aK S a = 101) (h1 : 0 ≤ sp ∧ 0 ≤ dp ∧ 0 ≤ n) (h2 : R32 sp ∧ R32 dp ∧ R32 n) (h3 : sp + n ≤ aN S b) (h4 : dp + n ≤ aN S a) (hy : ∀ j, j < n.toNat → -128 ≤ M b (sp.toNat + j) ∧ M b (sp.toNat + j) ≤ 127) (hr : aCat st ≤ 8) (kk : X E d F np L st S (mI (aCp M b a sp.toNat dp.toNat n.toNat)) Q) : X E d F pc L (J n :: J dp :: .ref a :: J sp :: .ref b :: st) S (mI M) Q := X_copyB np hd hn ht hm hq hb ha h1 h2 h3 h4 hy hr kk
end AXY
