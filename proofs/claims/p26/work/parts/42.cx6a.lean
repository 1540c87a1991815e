/-! contracts: small methods -/
section C1
variable {E : Nat → Value} {d : Nat} {S : aS} {M : Nat → Nat → Int} {Q : Option (Option Value) → aS → aI → Prop}
theorem mX7_isOutside {x n : Int} (hx : R32 x) (hn : R32 n) (q : Q (some (some (J (if x < 0 ∨ n ≤ x then 1 else 0)))) S (mI M)) : X E d fX7_isOutside 0 [some (J x), some (J n)] [] S (mI M) Q := by
  refine kX7_isOutside_0 hx (fun h => ?_) (fun h => ?_)
  · refine kX7_isOutside_9 (kX7_isOutside_14 rfl ?_)
    rw [if_pos (Or.inl h)] at q
    exact q
  · refine kX7_isOutside_4 hx hn (fun h2 => ?_) (fun h2 => ?_)
    · refine kX7_isOutside_13 (kX7_isOutside_14 rfl ?_)
      rw [if_neg (by omega)] at q
      exact q
    · refine kX7_isOutside_9 (kX7_isOutside_14 rfl ?_)
      rw [if_pos (Or.inr h2)] at q
      exact q
theorem mX7_valueAt {a n : Nat} {x : Int} (ha : aKd S a = 100) (hx : R32 x) (hn : aN S a = n) (hm : n ≤ 1000000) (q : Q (some (some (J (vAt n (M a) x)))) S (mI M)) : X E d fX7_valueAt 0 [some (.ref a), some (J x)] [] S (mI M) Q := by
  subst hn
  unfold vAt at q
  refine kX7_valueAt_0 hx (fun h => ?_) (fun h => ?_)
  · refine kX7_valueAt_16 (kX7_valueAt_17 ?_)
    rw [if_neg (by omega)] at q
    exact q
  · refine kX7_valueAt_4 (Or.inl ha) hx ⟨by omega, by omega⟩ (fun h2 => ?_) (fun h2 => ?_)
    · refine kX7_valueAt_16 (kX7_valueAt_17 ?_)
      rw [if_neg (by omega)] at q
      exact q
    · refine kX7_valueAt_10 ha hx ⟨h, h2⟩ (kX7_valueAt_17 ?_)
      rw [if_pos ⟨h, h2⟩] at q
      exact q
theorem mX7_sumOf {a n z : Nat} (ha : aKd S a = 100) (hz : aN S a = z) (hm : z ≤ 1000000) (hn : n ≤ z) (q : Q (some (some (J (sSum (M a) n)))) S (mI M)) : X E d fX7_sumOf 0 [some (.ref a), some (J n), none, none] [] S (mI M) Q := by
  refine kX7_sumOf_0 ?_
  have hl : ∀ m i, i + m = n → X E d fX7_sumOf 4 [some (.ref a), some (J n), some (J (sSum (M a) i)), some (J (i : Int))] [] S (mI M) Q := by
    intro m
    induction m with
    | zero =>
      intro i hi
      have hi : i = n := by omega
      subst hi
      refine kX7_sumOf_4 ⟨by omega, by omega⟩ ⟨by omega, by omega⟩ (fun _ => kX7_sumOf_27 q) (fun h => absurd h (by omega))
    | succ m ih =>
      intro i hi
      refine kX7_sumOf_4 ⟨by omega, by omega⟩ ⟨by omega, by omega⟩ (fun h => absurd h (by omega)) (fun _ => ?_)
      refine kX7_sumOf_9 (Or.inl ha) ⟨by omega, by omega⟩ ⟨by omega, by omega⟩ (fun h => absurd h (by omega)) (fun _ => ?_)
      exact kX7_sumOf_15 ha ⟨by omega, by omega⟩ ⟨by omega, by omega⟩ (ih (i + 1) (by omega))
  exact hl n 0 (by omega)
/-- the numbers that a trust's methods look at lie in their rows -/
theorem mX6_tollOf {t rk rd a g : Nat} (hT : TrS S t rk rd) (hM : RM M) (ha : a < 8) (hg : g < 5) (q : Q (some (some (J (sToll (win 12 M t) a g)))) S (mI M)) : X E d fX6_tollOf 0 [some (.ref t), some (J a), some (J g)] [] S (mI M) Q := by
  have n7 := hT.n7
  have n12 := hT.n12
  unfold sToll at q
  rw [win_at (by decide), win_at (by decide)] at q
  refine kX6_tollOf_0 hT.kd hT.p12 hT.d12 ⟨by omega, by omega⟩ ⟨by omega, by omega⟩ (hM _ _) (fun h => ?_) (fun h => ?_)
  · rw [Int.toNat_natCast] at h
    rw [if_pos h] at q
    refine kX6_tollOf_20 hT.kd hT.p12 hT.d12 ⟨by omega, by omega⟩ ⟨by omega, by omega⟩ (hM _ _) (fun h2 => ?_) (fun h2 => ?_)
    · rw [Int.toNat_natCast] at h2
      rw [if_pos h2] at q
      exact kX6_tollOf_42 hT.kd hT.p7 hT.d7 ⟨by omega, by omega⟩ ⟨by omega, by omega⟩ (kX6_tollOf_48 q)
    · rw [Int.toNat_natCast] at h2
      rw [if_neg (by omega)] at q
      exact kX6_tollOf_31 hT.kd hT.p7 hT.d7 ⟨by omega, by omega⟩ ⟨by omega, by omega⟩ (hM _ _) (kX6_tollOf_48 q)
  · rw [Int.toNat_natCast] at h
    rw [if_neg (by omega)] at q
    exact kX6_tollOf_11 hT.kd hT.p7 hT.d7 ⟨by omega, by omega⟩ ⟨by omega, by omega⟩ q
end C1
