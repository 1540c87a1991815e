/-! runs of the small machine, whatever the fuel; whole numbers for what it counts in 32 bits -/
section AXX
variable {E : Nat → Value} {d : Nat} {F : aF} {pc : Nat} {L : List (Option Value)} {st : List Value} {S : aS} {I : aI} {Q Q' : Option (Option Value) → aS → aI → Prop}
theorem aMono : ∀ (f f' d : Nat) (F : aF) (pc : Nat) (L : List (Option Value)) (st : List Value) (S : aS) (I : aI) (r : Option (Option Value) × aS × aI), aExec E f d F pc L st S I = some r → f ≤ f' → aExec E f' d F pc L st S I = some r
  | 0, _, _, _, _, _, _, _, _, _, h, _ => by cases h
  | f + 1, 0, _, _, _, _, _, _, _, _, _, hf => absurd hf (Nat.not_succ_le_zero f)
  | f + 1, g + 1, d, F, pc, L, st, S, I, r, h, hf => by
    have hfg : f ≤ g := Nat.le_of_succ_le_succ hf
    unfold aExec at h ⊢
    split
    · rename_i ht
      rw [if_pos ht] at h
      exact h
    · rename_i ht
      rw [if_neg ht] at h
      cases hs : aStep E F pc L st S I with
      | none => rw [hs] at h; cases h
      | some a =>
        rw [hs] at h
        (try dsimp only at h ⊢)
        rcases a with c | v | q
        · dsimp only at h ⊢
          split at h
          · rename_i hm
            rw [if_pos hm]
            exact aMono f g d F _ _ _ _ _ r h hfg
          · cases h
        · exact h
        · dsimp only at h ⊢
          cases d with
          | zero => cases h
          | succ d' =>
            (try dsimp only at h ⊢)
            cases hc : aExec E f d' q.1.2.2.2.2.1 0 (aArgs q.2.1 q.1.2.2.2.2.2.1) [] S I with
            | none => rw [hc] at h; cases h
            | some r1 =>
              rw [hc] at h
              rw [aMono f g d' _ _ _ _ _ _ r1 hc hfg]
              obtain ⟨o, S1, I1⟩ := r1
              cases o with
              | some v =>
                (try dsimp only at h ⊢)
                split at h
                · rename_i hm
                  rw [if_pos hm]
                  exact aMono f g (d' + 1) F _ _ _ _ _ r h hfg
                · cases h
              | none =>
                (try dsimp only at h ⊢)
                split at h
                · rename_i hm
                  rw [if_pos hm]
                  exact aMono f g (d' + 1) F _ _ _ _ _ r h hfg
                · cases h
/-- the run from here ends so -/
def X (E : Nat → Value) (d : Nat) (F : aF) (pc : Nat) (L : List (Option Value)) (st : List Value) (S : aS) (I : aI) (Q : Option (Option Value) → aS → aI → Prop) : Prop := ∃ (f : Nat) (o : Option (Option Value)) (S' : aS) (I' : aI), aExec E f d F pc L st S I = some (o, S', I') ∧ (aX S ≤ aX S' ∧ aZ S ≤ aZ S') ∧ Q o S' I'
theorem X.mono (h : X E d F pc L st S I Q) (hq : ∀ o S' I', aX S ≤ aX S' → aZ S ≤ aZ S' → Q o S' I' → Q' o S' I') : X E d F pc L st S I Q' := by
  obtain ⟨f, o, S', I', h1, h2, h3⟩ := h
  exact ⟨f, o, S', I', h1, h2, hq o S' I' h2.1 h2.2 h3⟩
theorem X_step {pc' : Nat} {L' : List (Option Value)} {st' : List Value} {S' : aS} {I' : aI} (ht : aThr F pc = false) (hs : aStep E F pc L st S I = some (.inl (pc', L', st', S', I'))) (hm : aX S ≤ aX S' ∧ aZ S ≤ aZ S') (k : X E d F pc' L' st' S' I' Q) : X E d F pc L st S I Q := by
  obtain ⟨f, o, S2, I2, h1, h2, h3⟩ := k
  refine ⟨f + 1, o, S2, I2, ?_, ⟨Nat.le_trans hm.1 h2.1, Nat.le_trans hm.2 h2.2⟩, h3⟩
  unfold aExec
  rw [ht, hs]
  dsimp only
  rw [if_neg (by decide), if_pos hm]
  exact h1
theorem X_ret {v : Option Value} (ht : aThr F pc = false) (hs : aStep E F pc L st S I = some (.inr (.inl v))) (q : Q (some v) S I) : X E d F pc L st S I Q := by
  refine ⟨1, some v, S, I, ?_, ⟨Nat.le_refl _, Nat.le_refl _⟩, q⟩
  unfold aExec
  rw [ht, hs, if_neg (by decide)]
/-- behind a call -/
def Kr (E : Nat → Value) (d : Nat) (F : aF) (pc : Nat) (L : List (Option Value)) (rest : List Value) (Q : Option (Option Value) → aS → aI → Prop) : Option (Option Value) → aS → aI → Prop := fun o S1 I1 => ∃ v, o = some v ∧ X E d F pc L (v.toList ++ rest) S1 I1 Q
theorem X_call {en : aCE} {as rest : List Value} (ht : aThr F pc = false) (hd : 1 ≤ d) (hs : aStep E F pc L st S I = some (.inr (.inr (en, as, rest)))) (k : X E (d - 1) en.2.2.2.2.1 0 (aArgs as en.2.2.2.2.2.1) [] S I (Kr E d F (pc + 3) L rest Q)) : X E d F pc L st S I Q := by
  obtain ⟨f, o, S1, I1, h1, h2, v, rfl, f2, o2, S2, I2, g1, g2, g3⟩ := k
  refine ⟨max f f2 + 1, o2, S2, I2, ?_, ⟨Nat.le_trans h2.1 g2.1, Nat.le_trans h2.2 g2.2⟩, g3⟩
  obtain ⟨d', rfl⟩ : ∃ d', d = d' + 1 := ⟨d - 1, by omega⟩
  unfold aExec
  rw [ht, hs, if_neg (by decide)]
  dsimp only
  rw [aMono f (max f f2) d' _ _ _ _ _ _ _ h1 (Nat.le_max_left _ _)]
  dsimp only
  rw [if_pos h2]
  exact aMono f2 (max f f2) (d' + 1) _ _ _ _ _ _ _ g1 (Nat.le_max_right _ _)
/-- behind a call that may throw what is caught here -/
theorem X_callT {en : aCE} {as rest : List Value} (ht : aThr F pc = false) (hd : 1 ≤ d) (hs : aStep E F pc L st S I = some (.inr (.inr (en, as, rest)))) (hh : aHnd F pc = true) (h7 : 7 < L.length)
    (k : X E (d - 1) en.2.2.2.2.1 0 (aArgs as en.2.2.2.2.2.1) [] S I (fun o S1 I1 => Kr E d F (pc + 3) L rest Q o S1 I1 ∨ o = none ∧ X E d F 270 (L.set 7 none) [] S1 I1 Q)) : X E d F pc L st S I Q := by
  obtain ⟨f, o, S1, I1, h1, h2, h3⟩ := k
  obtain ⟨d', rfl⟩ : ∃ d', d = d' + 1 := ⟨d - 1, by omega⟩
  rcases h3 with ⟨v, rfl, f2, o2, S2, I2, g1, g2, g3⟩ | ⟨rfl, f2, o2, S2, I2, g1, g2, g3⟩
  · refine ⟨max f f2 + 1, o2, S2, I2, ?_, ⟨Nat.le_trans h2.1 g2.1, Nat.le_trans h2.2 g2.2⟩, g3⟩
    unfold aExec
    rw [ht, hs, if_neg (by decide)]
    dsimp only
    rw [aMono f (max f f2) d' _ _ _ _ _ _ _ h1 (Nat.le_max_left _ _)]
    dsimp only
    rw [if_pos h2]
    exact aMono f2 (max f f2) (d' + 1) _ _ _ _ _ _ _ g1 (Nat.le_max_right _ _)
  · refine ⟨max f f2 + 1, o2, S2, I2, ?_, ⟨Nat.le_trans h2.1 g2.1, Nat.le_trans h2.2 g2.2⟩, g3⟩
    unfold aExec
    rw [ht, hs, if_neg (by decide)]
    dsimp only
    rw [aMono f (max f f2) d' _ _ _ _ _ _ _ h1 (Nat.le_max_left _ _)]
    dsimp only
    rw [if_pos ⟨hh, h7, h2.1, h2.2⟩]
    exact aMono f2 (max f f2) (d' + 1) _ _ _ _ _ _ _ g1 (Nat.le_max_right _ _)
theorem X_thr (ht : aThr F pc = true) (q : Q none (aNew S 500 0 6) I) : X E d F pc L [] S I Q := by
  refine ⟨1, none, aNew S 500 0 6, I, ?_, ⟨Nat.le_succ _, Nat.le_add_right _ _⟩, q⟩
  unfold aExec
  rw [if_pos ht, if_pos rfl]
end AXX
section AJ
/-- a whole number, as 32 bits hold it -/
abbrev J (x : Int) : Value := .int (Int32.ofInt x)
abbrev R32 (x : Int) : Prop := -2147483648 ≤ x ∧ x ≤ 2147483647
def mI (M : Nat → Nat → Int) : aI := fun a j => Int32.ofInt (M a j)
def mW (M : Nat → Nat → Int) (a j : Nat) (x : Int) : Nat → Nat → Int := aU M a (aU (M a) j x)
theorem mI_W {M : Nat → Nat → Int} {a j : Nat} {x : Int} : aW (mI M) a j (Int32.ofInt x) = mI (mW M a j x) := by
  funext b k
  unfold aW mI mW aU
  by_cases h : b = a
  · subst h
    simp only [if_pos rfl]
    by_cases h2 : k = j
    · simp [h2]
    · simp [h2]
  · simp [h]
theorem mW_ne {M : Nat → Nat → Int} {a b j : Nat} {x : Int} (h : b ≠ a) : mW M a j x b = M b := aU_ne _ _ h
theorem mW_self {M : Nat → Nat → Int} {a j : Nat} {x : Int} : mW M a j x a j = x := by unfold mW; rw [aU_self, aU_self]
theorem mW_at {M : Nat → Nat → Int} {a j k : Nat} {x : Int} (h : k ≠ j) : mW M a j x a k = M a k := by unfold mW; rw [aU_self, aU_ne _ _ h]
theorem mW_get {M : Nat → Nat → Int} {a j b k : Nat} {x : Int} : mW M a j x b k = if b = a ∧ k = j then x else M b k := by
  by_cases h : b = a
  · subst h
    by_cases h2 : k = j
    · subst h2; rw [mW_self, if_pos ⟨rfl, rfl⟩]
    · rw [mW_at h2, if_neg (fun z => h2 z.2)]
  · rw [mW_ne h, if_neg (fun z => h z.1)]
theorem ofI {x : Int} (h : R32 x) : (Int32.ofInt x).toInt = x := Int32.toInt_ofInt_of_le (by show (-2147483648 : Int) ≤ x; exact h.1) (by show x < (2147483648 : Int); omega)
theorem ofI_lt {x y : Int} (hx : R32 x) (hy : R32 y) : (Int32.ofInt x < Int32.ofInt y) ↔ x < y := by rw [Int32.lt_iff_toInt_lt, ofI hx, ofI hy]
theorem ofI_le {x y : Int} (hx : R32 x) (hy : R32 y) : (Int32.ofInt x ≤ Int32.ofInt y) ↔ x ≤ y := by rw [Int32.le_iff_toInt_le, ofI hx, ofI hy]
theorem ofI_eq {x y : Int} (hx : R32 x) (hy : R32 y) : (Int32.ofInt x = Int32.ofInt y) ↔ x = y := by rw [← Int32.toInt_inj, ofI hx, ofI hy]
theorem ofI_nat {x : Int} (hx : R32 x) : (Int32.ofInt x).toNatClampNeg = x.toNat := by
  show (Int32.ofInt x).toInt.toNat = x.toNat
  rw [ofI hx]
theorem aCmp_i {cn : Jvm.ClassFile.Cond} {x y : Int} (hx : R32 x) (hy : R32 y) : aCmp cn (Int32.ofInt x) (Int32.ofInt y) = (match cn with
    | .eq => decide (x = y) | .ne => decide (x ≠ y) | .lt => decide (x < y) | .ge => decide (y ≤ x) | .gt => decide (y < x) | .le => decide (x ≤ y)) := by
  cases cn
  · show (Int32.ofInt x == Int32.ofInt y) = decide (x = y)
    rw [Bool.eq_iff_iff, beq_iff_eq, decide_eq_true_eq, ofI_eq hx hy]
  · show (Int32.ofInt x != Int32.ofInt y) = decide (x ≠ y)
    rw [Bool.eq_iff_iff, bne_iff_ne, decide_eq_true_eq, ne_eq, ofI_eq hx hy]
  · show decide (Int32.ofInt x < Int32.ofInt y) = decide (x < y)
    rw [Bool.eq_iff_iff, decide_eq_true_eq, decide_eq_true_eq, ofI_lt hx hy]
  · show decide (Int32.ofInt y ≤ Int32.ofInt x) = decide (y ≤ x)
    rw [Bool.eq_iff_iff, decide_eq_true_eq, decide_eq_true_eq, ofI_le hy hx]
  · show decide (Int32.ofInt y < Int32.ofInt x) = decide (y < x)
    rw [Bool.eq_iff_iff, decide_eq_true_eq, decide_eq_true_eq, ofI_lt hy hx]
  · show decide (Int32.ofInt x ≤ Int32.ofInt y) = decide (x ≤ y)
    rw [Bool.eq_iff_iff, decide_eq_true_eq, decide_eq_true_eq, ofI_le hx hy]
end AJ
