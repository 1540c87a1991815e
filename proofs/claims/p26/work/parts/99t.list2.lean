/-! the law's list: what cells choose; stretches and miles -/
section LJ
variable {E : Nat → Value} {d : Nat} {S S' S0 S1 : aS} {M M' M0 M1 : Nat → Nat → Int} {Q : Option (Option Value) → aS → aI → Prop} {cb bo bt s sb sa n v z z0 : Nat} {bs : List Int} {c m T : Nat → Nat} {A : Nat → Nat → Nat} {V : Nat → Nat → Nat → Int}
def sh (v : Int) (k : Nat) : Int := (Int32.ofInt v >>> (Int32.ofInt (k : Int) &&& 31)).toInt
def bN (v : Int) (n : Nat) : Nat := (bel v (n : Int)).toNat
theorem bN_e {v : Int} {n : Nat} (h : 1 ≤ n) : bel v (n : Int) = (bN v n : Int) ∧ bN v n < n := by
  have g := bel_in (v := v) (n := (n : Int)) (by omega)
  unfold bN
  exact ⟨by omega, by omega⟩
/-- sums of the first numbers -/
def psm (f : Nat → Nat) : Nat → Nat
  | 0 => 0
  | k + 1 => psm f k + f k
def sOf (f : Nat → Nat) : Nat → Nat → Nat
  | 0, _ => 0
  | k + 1, x => if psm f k ≤ x then k else sOf f k x
-- what cells choose
def C2 (ce : Nat → Int) : Nat := 1 + bN (ce 0) 4
def X2 (ce : Nat → Int) (k : Nat) : Int := sh (ce 1) (4 * k)
def ml (ce : Nat → Int) (k : Nat) : Nat := 1 + bN (X2 ce k) (if bN (sh (X2 ce k) 5) 2 = 0 then 9 else 4)
def sf (ce : Nat → Int) (k : Nat) : Nat := bN (sh (X2 ce k) 3) 10
def mny (ce : Nat → Int) : Nat := psm (ml ce) (C2 ce)
def C4 (ce : Nat → Int) : Nat := 1 + bN (ce 2) 4
def X4 (ce : Nat → Int) (k : Nat) : Int := sh (ce 3) (4 * k)
def ga (ce : Nat → Int) (k : Nat) : Nat := bN (X4 ce k) (mny ce)
def gt (ce : Nat → Int) (k : Nat) : Nat := bN (sh (X4 ce k) 2) 61
def C5 (ce : Nat → Int) : Nat := 1 + bN (ce 4) 5
def X5 (ce : Nat → Int) (k : Nat) : Int := sh (ce (5 + k % 2)) (3 * k)
def tw (ce : Nat → Int) (k : Nat) : Nat := 1 + bN (X5 ce k) (if bN (sh (X5 ce k) 7) 3 = 0 then 60 else 12)
def twl (ce : Nat → Int) (k : Nat) : Nat := 1 + bN (sh (X5 ce k) 2) 16
def tfr (ce : Nat → Int) (k : Nat) : Nat := bN (sh (X5 ce k) 3) (mny ce)
def tto (ce : Nat → Int) (k : Nat) : Nat := bN (sh (X5 ce k) 5) (mny ce)
def tev (ce : Nat → Int) (k : Nat) : Nat := 1 + bN (sh (X5 ce k) 4) (if bN (sh (X5 ce k) 8) 2 = 0 then 30 else 5)
def C6 (ce : Nat → Int) : Nat := bN (ce 7) 8
def X6 (ce : Nat → Int) (k : Nat) : Int := sh (ce (8 + k % 4)) (k / 4 * 9)
def Y6 (ce : Nat → Int) (k : Nat) : Int := sh (ce (12 + k % 4)) (k / 4 * 9)
def oso (ce : Nat → Int) (k : Nat) : Nat := bN (X6 ce k) 4 % 3
def owh (ce : Nat → Int) (k : Nat) : Nat := bN (sh (X6 ce k) 2) (if oso ce k = 0 then C5 ce else if oso ce k = 1 then C4 ce else C2 ce)
def owi (ce : Nat → Int) (k : Nat) : Nat := if oso ce k = 0 then bN (sh (X6 ce k) 4) (C4 ce) else if oso ce k = 1 then bN (sh (X6 ce k) 4) 120 else bN (sh (X6 ce k) 4) 6
def o4 (ce : Nat → Int) (k : Nat) : Int := if oso ce k = 2 then (bN (Y6 ce k) 9 : Int) - 1 else (bN (Y6 ce k) 8 : Int)
/-- a row of an order, as numbers (the test's sort is 0 where there is none) -/
def orw (ce : Nat → Int) (k q : Nat) : Nat := if q = 0 then oso ce k else if q = 1 then owh ce k else if q = 2 then owi ce k else if q = 3 then bN (sh (X6 ce k) 6) 100 else if q = 4 then (o4 ce k).toNat else if q = 5 then bN (sh (Y6 ce k) 3) 100 else if q = 6 then bN (sh (Y6 ce k) 5) (mny ce + 2) else if q = 7 then bN (sh (X6 ce k) 5) (C2 ce) else if q = 8 then bN (sh (Y6 ce k) 2) (C4 ce) else bN (sh (Y6 ce k) 4) (C5 ce)
def cC (ce : Nat → Int) (j : Nat) : Nat := if j = 2 then C2 ce else if j = 3 then mny ce else if j = 4 then C4 ce else if j = 5 then C5 ce else C6 ce
def vV (ce : Nat → Int) (j k q : Nat) : Int :=
  if j = 2 then (if q = 0 then (ml ce k : Int) else if q = 1 then (sf ce k : Int) else 0) else if j = 3 then (if q = 0 then (sOf (ml ce) (C2 ce) k : Int) else if q = 1 then 100 else 0)
  else if j = 4 then (if q = 0 then (ga ce k : Int) else if q = 1 then (gt ce k : Int) else if q = 4 then -1 else 0)
  else if j = 5 then (if q = 0 then (tw ce k : Int) else if q = 1 then (twl ce k : Int) else if q = 2 then (tfr ce k : Int) else if q = 3 then (tto ce k : Int) else if q = 4 then (tev ce k : Int) else 0)
  else if q = 4 then o4 ce k else (orw ce k q : Int)
variable {ce : Nat → Int}
theorem ml_b (k : Nat) : 1 ≤ ml ce k ∧ ml ce k ≤ 9 := by
  unfold ml
  split
  · have := (bN_e (v := X2 ce k) (n := 9) (by decide)).2; omega
  · have := (bN_e (v := X2 ce k) (n := 4) (by decide)).2; omega
theorem sf_b (k : Nat) : sf ce k ≤ 9 := by have := (bN_e (v := sh (X2 ce k) 3) (n := 10) (by decide)).2; unfold sf; omega
theorem C2_b : 1 ≤ C2 ce ∧ C2 ce ≤ 4 := by have := (bN_e (v := ce 0) (n := 4) (by decide)).2; unfold C2; omega
theorem C4_b : 1 ≤ C4 ce ∧ C4 ce ≤ 4 := by have := (bN_e (v := ce 2) (n := 4) (by decide)).2; unfold C4; omega
theorem C5_b : 1 ≤ C5 ce ∧ C5 ce ≤ 5 := by have := (bN_e (v := ce 4) (n := 5) (by decide)).2; unfold C5; omega
theorem C6_b : C6 ce ≤ 7 := by have := (bN_e (v := ce 7) (n := 8) (by decide)).2; unfold C6; omega
theorem psm_b {f : Nat → Nat} (h : ∀ k, 1 ≤ f k ∧ f k ≤ 9) : ∀ k, k ≤ psm f k ∧ psm f k ≤ 9 * k
  | 0 => ⟨Nat.le_refl _, Nat.le_refl _⟩
  | k + 1 => by
    have := psm_b h k
    have := h k
    show k + 1 ≤ psm f k + f k ∧ psm f k + f k ≤ 9 * (k + 1)
    omega
theorem mny_b : 1 ≤ mny ce ∧ mny ce ≤ 36 := by
  have h := psm_b (f := ml ce) ml_b (C2 ce)
  have := C2_b (ce := ce)
  unfold mny
  omega
theorem psm_mono {f : Nat → Nat} : ∀ {a b : Nat}, a ≤ b → psm f a ≤ psm f b
  | a, 0, h => by rw [Nat.le_zero.mp h]; exact Nat.le_refl _
  | a, b + 1, h => by
    by_cases e : a = b + 1
    · rw [e]; exact Nat.le_refl _
    · have := psm_mono (f := f) (show a ≤ b by omega)
      show psm f a ≤ psm f b + f b
      omega
theorem sOf_e {f : Nat → Nat} {st x : Nat} : ∀ {k : Nat}, st < k → psm f st ≤ x → x < psm f (st + 1) → sOf f k x = st
  | 0, h, _, _ => absurd h (Nat.not_lt_zero _)
  | k + 1, h, h1, h2 => by
    unfold sOf
    by_cases e : st = k
    · subst e
      rw [if_pos h1]
    · have := psm_mono (f := f) (show st + 1 ≤ k by omega)
      rw [if_neg (by omega)]
      exact sOf_e (by omega) h1 h2
/-- the text -/
def tx2 (ce : Nat → Int) : Nat → List Int
  | 0 => []
  | k + 1 => (((((tx2 ce k ++ lb 113) ++ dg k) ++ lb 114) ++ dg (ml ce k)) ++ lb 115) ++ dg (sf ce k) ++ lb 116
theorem lbl (n : Nat) (k : Nat) (h : (lb n).length = k) : (lb n).length ≤ k := Nat.le_of_eq h
theorem tx2_l : ∀ k, (tx2 ce k).length ≤ 40 * k
  | 0 => Nat.le_refl _
  | k + 1 => by
    have ih := tx2_l k
    have h1 : (lb 113).length = 9 := by decide
    have h2 : (lb 114).length = 7 := by decide
    have h3 : (lb 115).length = 6 := by decide
    have h4 : (lb 116).length = 1 := by decide
    have g1 := dg_l3 (n := k)
    have g2 := dg_l3 (n := ml ce k)
    have g3 := dg_l3 (n := sf ce k)
    unfold tx2
    simp only [List.length_append]
    omega
/-- what stays while the list is made -/
abbrev Ls (E : Nat → Value) (S0 : aS) (M0 : Nat → Nat → Int) (cb bo bt sa n : Nat) (ce : Nat → Int) : Prop := Wl E S0 M0 cb bo bt ∧ (sa < cb ∧ aKd S0 sa = 100 ∧ aN S0 sa = n ∧ n ≤ 1000000) ∧ ∀ k : Nat, cel (M0 sa) n (k : Int) = ce k
theorem Ls.cell {k : Nat} {x : Int} (hL : Ls E S0 M0 cb bo bt sa n ce) (h : Kp cb S0 M0 S M) (hx : x = (k : Int)) (hk : k ≤ 1000) (q : Q (some (some (J (ce k)))) S (mI M)) : X E d fL_cell 0 [some (.ref sa), some (J x)] [] S (mI M) Q := by
  obtain ⟨_, ⟨h1, h2, h3, h4⟩, h5⟩ := hL
  subst hx
  refine mL_cell ((h.kd h1).trans h2) ((h.2 sa h1).1.2.1.trans h3) h4 ⟨by omega, by omega⟩ ?_
  rw [(h.2 sa h1).2, h5 k]
  exact q
theorem bel_X {k : Nat} {x : Int} (hk : 1 ≤ k) (hx : x = (k : Int)) (hk2 : k ≤ 1000000) {v : Int} (q : Q (some (some (J (bN v k : Int)))) S (mI M)) : X E d fL_below 0 [some (J v), some (J x)] [] S (mI M) Q := by
  subst hx
  refine mL_below ⟨by omega, by omega⟩ ?_
  rw [(bN_e hk).1]
  exact q
end LJ
