/-! tokens: signs of the tape -/
section CU
variable {E : Nat → Value} {d : Nat} {S S' : aS} {M M' : Nat → Nat → Int} {Q : Option (Option Value) → aS → aI → Prop}
/-- the tape: n bytes of f -/
def Tq (S : aS) (M : Nat → Nat → Int) (tp n : Nat) (f : Nat → Nat) : Prop := aK S tp = 101 ∧ aN S tp = 2000 ∧ n ≤ 1980 ∧ (∀ i, i < n → M tp i = (f i : Int)) ∧ ∀ i, f i < 128
theorem Tq.kd {tp n : Nat} {f : Nat → Nat} (h : Tq S M tp n f) : aKd S tp = 101 := by unfold aKd; rw [h.1]
theorem Tq.fr {tp n : Nat} {f : Nat → Nat} (h : Tq S M tp n f) (g : M' tp = M tp) : Tq S M' tp n f := ⟨h.1, h.2.1, h.2.2.1, fun i hi => by rw [g]; exact h.2.2.2.1 i hi, h.2.2.2.2⟩
def bA (f : Nat → Nat) (n i : Nat) : Nat := if i < n then f i else 0
theorem bA_lt {f : Nat → Nat} {n i : Nat} (h : i < n) : bA f n i = f i := if_pos h
theorem bA_b {f : Nat → Nat} {n i : Nat} (h : ∀ i, f i < 128) : bA f n i < 128 := by
  unfold bA
  split
  · exact h i
  · decide
theorem cByte {tp n i : Nat} {f : Nat → Nat} (h : Tq S M tp n f) (hi : i ≤ 3000) (hd : 1 ≤ d) (q : Q (some (some (J (bA f n i : Int)))) S (mI M)) : X E d fX5_byteAt 0 [some (.ref tp), some (J (i : Int)), some (J (n : Int))] [] S (mI M) Q := by
  have hk := h.kd
  obtain ⟨h1, h2, h3, h4, h5⟩ := h
  refine kX5_byteAt_0 hd (mX7_isOutside ⟨by omega, by omega⟩ ⟨by omega, by omega⟩ ⟨_, rfl, ?_⟩)
  unfold bA at q
  by_cases c : i < n
  · rw [if_neg (by omega)]
    rw [if_pos c] at q
    refine kX5_byteAt_5 (by decide) (fun h => absurd rfl h) (fun _ => kX5_byteAt_8 (Or.inr (Or.inl hk)) ⟨by omega, by omega⟩ ⟨by omega, by omega⟩ (fun _ => ?_) (fun h => absurd h (by omega)))
    refine kX5_byteAt_18 hk ⟨by omega, by omega⟩ ⟨by omega, by omega⟩ (kX5_byteAt_21 ?_)
    rw [Int.toNat_natCast, h4 i c]
    exact q
  · rw [if_pos (by omega)]
    rw [if_neg c] at q
    exact kX5_byteAt_5 (by decide) (fun _ => kX5_byteAt_14 (kX5_byteAt_21 q)) (fun h => absurd h (by decide))
theorem cByteT {tp n i : Nat} {x : Int} {f : Nat → Nat} (h : Tq S M tp n f) (hi : i < n) (hx : x = (i : Int)) (hd : 1 ≤ d) (q : Q (some (some (J (f i : Int)))) S (mI M)) : X E d fX5_byteAt 0 [some (.ref tp), some (J x), some (J (aN S tp : Int))] [] S (mI M) Q := by
  have hk := h.kd
  obtain ⟨h1, h2, h3, h4, h5⟩ := h
  subst hx
  refine kX5_byteAt_0 hd (mX7_isOutside ⟨by omega, by omega⟩ ⟨by omega, by omega⟩ ⟨_, rfl, ?_⟩)
  rw [if_neg (by omega)]
  refine kX5_byteAt_5 (by decide) (fun h => absurd rfl h) (fun _ => kX5_byteAt_8 (Or.inr (Or.inl hk)) ⟨by omega, by omega⟩ ⟨by omega, by omega⟩ (fun _ => ?_) (fun h => absurd h (by omega)))
  refine kX5_byteAt_18 hk ⟨by omega, by omega⟩ ⟨by omega, by omega⟩ (kX5_byteAt_21 ?_)
  rw [Int.toNat_natCast, h4 i hi]
  exact q
def isL (x : Nat) : Bool := decide (97 ≤ x) && decide (x ≤ 122)
def isD (x : Nat) : Bool := decide (48 ≤ x) && decide (x ≤ 57)
def isLD (x : Nat) : Bool := isL x || isD x
theorem isL_t {x : Nat} : isL x = true ↔ 97 ≤ x ∧ x ≤ 122 := by unfold isL; rw [Bool.and_eq_true, decide_eq_true_iff, decide_eq_true_iff]
theorem isD_t {x : Nat} : isD x = true ↔ 48 ≤ x ∧ x ≤ 57 := by unfold isD; rw [Bool.and_eq_true, decide_eq_true_iff, decide_eq_true_iff]
theorem isL_f {x : Nat} : isL x = false ↔ ¬ (97 ≤ x ∧ x ≤ 122) := by rw [← isL_t, Bool.not_eq_true]
theorem isD_f {x : Nat} : isD x = false ↔ ¬ (48 ≤ x ∧ x ≤ 57) := by rw [← isD_t, Bool.not_eq_true]
theorem isLD_t {x : Nat} : isLD x = true ↔ isL x = true ∨ isD x = true := by unfold isLD; rw [Bool.or_eq_true]
theorem isLD_f {x : Nat} : isLD x = false ↔ isL x = false ∧ isD x = false := by unfold isLD; rw [Bool.or_eq_false_iff]
def b01 (b : Bool) : Int := if b then 1 else 0
theorem cLet {x : Nat} (hx : x < 128) (q : Q (some (some (J (b01 (isL x))))) S (mI M)) : X E d fX5_isLetter 0 [some (J (x : Int))] [] S (mI M) Q := by
  unfold b01 at q
  by_cases c : isL x = true
  · rw [c, if_pos rfl] at q
    rw [isL_t] at c
    exact kX5_isLetter_0 ⟨by omega, by omega⟩ (fun h => absurd h (by omega)) (fun _ => kX5_isLetter_6 ⟨by omega, by omega⟩ (fun h => absurd h (by omega)) (fun _ => kX5_isLetter_12 (kX5_isLetter_17 rfl q)))
  · rw [Bool.not_eq_true] at c
    rw [c, if_neg Bool.false_ne_true] at q
    rw [isL_f] at c
    refine kX5_isLetter_0 ⟨by omega, by omega⟩ (fun h => kX5_isLetter_16 (kX5_isLetter_17 rfl q)) (fun _ => kX5_isLetter_6 ⟨by omega, by omega⟩ (fun h => kX5_isLetter_16 (kX5_isLetter_17 rfl q)) (fun h => absurd h (by omega)))
theorem cDgt {x : Nat} (hx : x < 128) (q : Q (some (some (J (b01 (isD x))))) S (mI M)) : X E d fX5_isDigit 0 [some (J (x : Int))] [] S (mI M) Q := by
  unfold b01 at q
  by_cases c : isD x = true
  · rw [c, if_pos rfl] at q
    rw [isD_t] at c
    exact kX5_isDigit_0 ⟨by omega, by omega⟩ (fun h => absurd h (by omega)) (fun _ => kX5_isDigit_6 ⟨by omega, by omega⟩ (fun h => absurd h (by omega)) (fun _ => kX5_isDigit_12 (kX5_isDigit_17 rfl q)))
  · rw [Bool.not_eq_true] at c
    rw [c, if_neg Bool.false_ne_true] at q
    rw [isD_f] at c
    refine kX5_isDigit_0 ⟨by omega, by omega⟩ (fun h => kX5_isDigit_16 (kX5_isDigit_17 rfl q)) (fun _ => kX5_isDigit_6 ⟨by omega, by omega⟩ (fun h => kX5_isDigit_16 (kX5_isDigit_17 rfl q)) (fun h => absurd h (by omega)))
theorem cLD {x : Nat} (hx : x < 128) (hd : 1 ≤ d) (q : Q (some (some (J (b01 (isLD x))))) S (mI M)) : X E d fX5_isLetterOrDigit 0 [some (J (x : Int))] [] S (mI M) Q := by
  refine kX5_isLetterOrDigit_0 hd (cLet hx ⟨_, rfl, ?_⟩)
  cases c : isL x with
  | true =>
    have e : isLD x = true := isLD_t.mpr (Or.inl c)
    rw [e] at q
    exact kX5_isLetterOrDigit_4 (by decide) (fun _ => kX5_isLetterOrDigit_14 (kX5_isLetterOrDigit_19 rfl q)) (fun h => absurd h (by decide))
  | false =>
    refine kX5_isLetterOrDigit_4 (by decide) (fun h => absurd rfl h) (fun _ => kX5_isLetterOrDigit_7 hd (cDgt hx ⟨_, rfl, ?_⟩))
    cases g : isD x with
    | true =>
      have e : isLD x = true := isLD_t.mpr (Or.inr g)
      rw [e] at q
      exact kX5_isLetterOrDigit_11 (by decide) (fun h => absurd h (by decide)) (fun _ => kX5_isLetterOrDigit_14 (kX5_isLetterOrDigit_19 rfl q))
    | false =>
      have e : isLD x = false := isLD_f.mpr ⟨c, g⟩
      rw [e] at q
      exact kX5_isLetterOrDigit_11 (by decide) (fun _ => kX5_isLetterOrDigit_18 (kX5_isLetterOrDigit_19 rfl q)) (fun h => absurd rfl h)
/-- the symbols -/
def syms : List Int := [40, 41, 91, 93, 59, 44, 43, 45, 42, 47, 60, 62, 61]
theorem u16N : ∀ n : Nat, n < 128 → ((Int32.ofInt (n : Int)).toUInt32 % 65536).toInt32.toInt = (n : Int) := by decide +kernel
theorem fx_R : ∀ n : Nat, n < 128 → R32 (fx syms (n : Int) 0) := by decide +kernel
abbrev Sy (E : Nat → Value) (S : aS) (M : Nat → Nat → Int) (bs ws : Nat) : Prop := E 2 = J 1 ∧ E 111 = .ref bs ∧ Str S M bs ws syms
theorem cSym {x bs ws : Nat} (hS : Sy E S M bs ws) (hx : x < 128) (hd : 6 ≤ d) (q : Q (some (some (J (if x = 0 ∨ fx syms (x : Int) 0 < 0 then 0 else 1)))) S (mI M)) : X E d fX5_isSymbol 0 [some (J (x : Int))] [] S (mI M) Q := by
  have hR := fx_R x hx
  refine kX5_isSymbol_0 ⟨by omega, by omega⟩ (fun h => ?_) (fun h => ?_)
  · rw [if_pos (Or.inl (by omega))] at q
    exact kX5_isSymbol_18 (kX5_isSymbol_19 rfl q)
  · refine kX5_isSymbol_4 hS.2.1 (by omega) ?_ hS.2.2.1
    rw [u16N x hx]
    refine jIdx hS.1 hS.2.2 hx ⟨by decide, by decide⟩ (by omega) ⟨_, rfl, ?_⟩
    refine kX5_isSymbol_11 hR (fun g => ?_) (fun g => ?_)
    · rw [if_pos (Or.inr g)] at q
      exact kX5_isSymbol_18 (kX5_isSymbol_19 rfl q)
    · rw [if_neg (by omega)] at q
      exact kX5_isSymbol_14 (kX5_isSymbol_19 rfl q)
/-- blanks from p to p' -/
def Blk (f : Nat → Nat) (n p p' : Nat) : Prop := p ≤ p' ∧ p' ≤ n ∧ (∀ i, p ≤ i → i < p' → f i = 32 ∨ f i = 10) ∧ (p' < n → f p' ≠ 32 ∧ f p' ≠ 10)
theorem cBlk {tp n p' : Nat} {o1 : Option Value} {f : Nat → Nat} (h : Tq S M tp n f) : ∀ (m p : Nat), p + m = p' → Blk f n p p' → Q (some (some (J (p' : Int)))) S (mI M) →
    X E d fX5_behindBlanks 2 [some (.ref tp), o1, some (J (n : Int)), some (J (p : Int))] [] S (mI M) Q := by
  intro m
  have hk := h.kd
  obtain ⟨h1, h2, h3, h4, h5⟩ := h
  induction m with
  | zero =>
    intro p hp hB q
    obtain rfl : p = p' := by omega
    obtain ⟨b1, b2, b3, b4⟩ := hB
    refine kX5_behindBlanks_2 ⟨by omega, by omega⟩ ⟨by omega, by omega⟩ (fun _ => kX5_behindBlanks_35 q) (fun hc => ?_)
    have hc' : p < n := by omega
    have g := b4 hc'
    have e : M tp (p : Int).toNat = (f p : Int) := by rw [Int.toNat_natCast]; exact h4 p hc'
    have hf := h5 p
    refine kX5_behindBlanks_7 (Or.inr (Or.inl hk)) ⟨by omega, by omega⟩ ⟨by omega, by omega⟩ (fun h => absurd h (by omega)) (fun _ => ?_)
    refine kX5_behindBlanks_13 hk ⟨by omega, by omega⟩ ⟨by omega, by omega⟩ (by rw [e]; exact ⟨by omega, by omega⟩) (fun h => absurd h (by rw [e]; omega)) (fun _ => ?_)
    exact kX5_behindBlanks_21 hk ⟨by omega, by omega⟩ ⟨by omega, by omega⟩ (by rw [e]; exact ⟨by omega, by omega⟩) (fun _ => kX5_behindBlanks_35 q) (fun h => absurd h (by rw [e]; omega))
  | succ m ih =>
    intro p hp hB q
    obtain ⟨b1, b2, b3, b4⟩ := hB
    have hc : p < n := by omega
    have g := b3 p (by omega) (by omega)
    have e : M tp (p : Int).toNat = (f p : Int) := by rw [Int.toNat_natCast]; exact h4 p hc
    have hf := h5 p
    have next : X E d fX5_behindBlanks 29 [some (.ref tp), o1, some (J (n : Int)), some (J (p : Int))] [] S (mI M) Q := kX5_behindBlanks_29 (ih (p + 1) (by omega) ⟨by omega, b2, fun i h1 h2 => b3 i (by omega) h2, b4⟩ q)
    refine kX5_behindBlanks_2 ⟨by omega, by omega⟩ ⟨by omega, by omega⟩ (fun h => absurd h (by omega)) (fun _ => ?_)
    refine kX5_behindBlanks_7 (Or.inr (Or.inl hk)) ⟨by omega, by omega⟩ ⟨by omega, by omega⟩ (fun h => absurd h (by omega)) (fun _ => ?_)
    refine kX5_behindBlanks_13 hk ⟨by omega, by omega⟩ ⟨by omega, by omega⟩ (by rw [e]; exact ⟨by omega, by omega⟩) (fun _ => next) (fun h => ?_)
    exact kX5_behindBlanks_21 hk ⟨by omega, by omega⟩ ⟨by omega, by omega⟩ (by rw [e]; exact ⟨by omega, by omega⟩) (fun h2 => absurd h2 (by rw [e] at h ⊢; omega)) (fun _ => next)
end CU
