/-! the mean of whole numbers is a number -/
section FPA
def fGood : FP.Core.Datum → Prop
  | .nan => False
  | .inf _ => True
  | .fin _ c q => c < 9007199254740992 ∧ q ≤ 971
theorem fEnc {D : FP.Core.Datum} (h : fGood D) : ∃ a e t, a ≤ 1 ∧ FP.Core.encode FP.Core.b64 D = (a * 2048 + e) * 4503599627370496 + t ∧ t < 4503599627370496 ∧ (e < 2047 ∨ (e = 2047 ∧ t = 0)) := by
  have hs : ∀ s : Bool, s.toNat ≤ 1 := by decide
  cases D with
  | nan => exact h.elim
  | inf s => exact ⟨s.toNat, 2047, 0, hs s, rfl, by decide, Or.inr ⟨rfl, rfl⟩⟩
  | fin s c q =>
    obtain ⟨h1, h2⟩ := h
    by_cases hc : c < 4503599627370496
    · refine ⟨s.toNat, 0, c, hs s, ?_, hc, Or.inl (by decide)⟩
      show (if c < 4503599627370496 then FP.Core.assemble FP.Core.b64 s 0 c else _) = _
      rw [if_pos hc]
      rfl
    · refine ⟨s.toNat, (q - (-1074)).toNat + 1, c - 4503599627370496, hs s, ?_, by omega, Or.inl (by omega)⟩
      show (if c < 4503599627370496 then FP.Core.assemble FP.Core.b64 s 0 c else FP.Core.assemble FP.Core.b64 s ((q - (-1074)).toNat + 1) (c - 4503599627370496)) = _
      rw [if_neg hc]
      rfl
theorem fDec {D : FP.Core.Datum} (h : fGood D) : FP.Core.decode FP.Core.b64 (UInt64.ofNat (FP.Core.encode FP.Core.b64 D)).toNat ≠ .nan ∧ (UInt64.ofNat (FP.Core.encode FP.Core.b64 D) &&& 0x7fffffffffffffff ≤ 0x7ff0000000000000) := by
  obtain ⟨a, e, t, ha, he, ht, hg⟩ := fEnc h
  rw [he]
  have hn : (UInt64.ofNat ((a * 2048 + e) * 4503599627370496 + t)).toNat = (a * 2048 + e) * 4503599627370496 + t := by
    rw [UInt64.toNat_ofNat']
    exact Nat.mod_eq_of_lt (by omega)
  constructor
  · rw [hn]
    show (if ((a * 2048 + e) * 4503599627370496 + t) / 4503599627370496 % 2048 = 2047 then (if ((a * 2048 + e) * 4503599627370496 + t) % 4503599627370496 = 0 then FP.Core.Datum.inf _ else .nan) else if ((a * 2048 + e) * 4503599627370496 + t) / 4503599627370496 % 2048 = 0 then FP.Core.Datum.fin _ _ _ else FP.Core.Datum.fin _ _ _) ≠ .nan
    split
    · rw [if_pos (by omega)]
      exact fun h => FP.Core.Datum.noConfusion h
    · split
      · exact fun h => FP.Core.Datum.noConfusion h
      · exact fun h => FP.Core.Datum.noConfusion h
  · rw [UInt64.le_iff_toNat_le, UInt64.toNat_and, hn]
    show ((a * 2048 + e) * 4503599627370496 + t) &&& (2 ^ 63 - 1) ≤ 9218868437227405312
    rw [Nat.and_two_pow_sub_one_eq_mod]
    omega
theorem fSettle {s : Bool} {c : Nat} {q : Int} : fGood (FP.Core.settle FP.Core.b64 s c q) := by
  show fGood (if c < 9007199254740992 then (if q ≤ 971 then FP.Core.Datum.fin s c q else .inf s) else (if q + 1 ≤ 971 then FP.Core.Datum.fin s 4503599627370496 (q + 1) else .inf s))
  split
  · split
    · exact ⟨by assumption, by assumption⟩
    · trivial
  · split
    · exact ⟨by decide, by assumption⟩
    · trivial
theorem fRatio {s : Bool} {a b : Nat} {e : Int} : fGood (FP.Core.roundRatio FP.Core.b64 s a b e) := by
  unfold FP.Core.roundRatio
  split
  · exact ⟨by decide, by decide⟩
  · exact fSettle
theorem fI2d {x : Int32} : FP.Core.decode FP.Core.b64 (FP.i2d x).toNat ≠ .nan := (fDec (D := FP.Core.round FP.Core.b64 (FP.Core.ofInt x.toInt)) fRatio).1
def fPos : FP.Core.Datum → Bool
  | .fin _ c _ => c != 0
  | _ => false
theorem fOrd {D : FP.Core.Datum} (h : D ≠ .nan) : FP.Core.order D D = some .eq := by
  have hc : ∀ x : Int, compare x x = .eq := fun x => by
    rw [Int.compare_eq_eq]
  cases D with
  | nan => exact absurd rfl h
  | inf s => exact congrArg some (hc _)
  | fin s c q => exact congrArg some (hc _)
theorem fQuo {A B : FP.Core.Datum} (h : A ≠ .nan) (hB : fPos B = true) : fGood (FP.Core.quotient FP.Core.b64 A B) := by
  cases B with
  | nan => exact absurd hB (by decide)
  | inf s => exact absurd hB Bool.false_ne_true
  | fin s d r =>
    have hd : d ≠ 0 := fun e => by rw [e] at hB; exact Bool.false_ne_true hB
    cases A with
    | nan => exact absurd rfl h
    | inf s => trivial
    | fin s2 c q =>
      show fGood (if d = 0 then _ else FP.Core.roundRatio FP.Core.b64 (s2 != s) c d (q - r))
      rw [if_neg hd]
      exact fRatio
theorem fPosN : ∀ n, n < 45 → fPos (FP.Core.decode FP.Core.b64 (FP.i2d (Int32.ofInt ((n + 1 : Nat) : Int))).toNat) = true := by decide +kernel
theorem fpA : FpA := fun x n h1 h2 h3 h4 => by
  obtain ⟨m, rfl⟩ : ∃ m : Nat, n = ((m + 1 : Nat) : Int) := ⟨n.toNat - 1, by omega⟩
  have g := fDec (fQuo (fI2d (x := Int32.ofInt x)) (fPosN m (by omega)))
  refine ⟨g.2, ?_⟩
  have e : FP.dcmp (FP.ddiv (FP.i2d (Int32.ofInt x)) (FP.i2d (Int32.ofInt ((m + 1 : Nat) : Int)))) (FP.ddiv (FP.i2d (Int32.ofInt x)) (FP.i2d (Int32.ofInt ((m + 1 : Nat) : Int)))) = some .eq := fOrd g.1
  rw [e]
  rfl
end FPA
