/-! survey: names -/
section SU
variable {E : Nat → Value} {d : Nat} {S S' : aS} {M M' M0 M1 M00 : Nat → Nat → Int} {Q : Option (Option Value) → aS → aI → Prop} {cl c n : Nat} {f K P L C : Nat → Nat}
def cS : rT := tPut cG 8 2 34
theorem vAt_nat {m i : Nat} {r : Nat → Int} (h : i < m) : vAt m r (i : Int) = r i := by
  unfold vAt
  rw [if_pos ⟨by omega, by omega⟩, Int.toNat_natCast]
/-- what the survey rests on: tokens, and the tape that names stand on -/
def Sst (cl : Nat) (S : aS) (M0 : Nat → Nat → Int) (n : Nat) (f : Nat → Nat) (c : Nat) (K P L C : Nat → Nat) : Prop :=
  TbS cl S cS ∧ Tq S M0 (cl + 1) n f ∧ (c < 400 ∧ M0 (cl + 2) 4 = (c : Int)) ∧ (∀ i, i < c → M0 (cl + 3) i = (K i : Int) ∧ M0 (cl + 4) i = (P i : Int) ∧ M0 (cl + 5) i = (L i : Int)) ∧ (∀ i, K i ≤ 50) ∧ ∀ i, i < c → K i = 47 → L i = 2 ∧ f (P i) = C i / 256 ∧ f (P i + 1) = C i % 256 ∧ P i + 2 ≤ n
/-- nothing but the worths, the survey and the draft is another -/
def Sfr (cl : Nat) (M0 M : Nat → Nat → Int) : Prop := ∀ x, (x < cl + 6 ∨ x = cl + 7 ∨ cl + 11 < x ∧ x < cl + 34 ∨ cl + 45 < x) → M x = M0 x
theorem svSame {i j : Nat} (hs : Sst cl S M0 n f c K P L C) (hf : Sfr cl M0 M) (hi : i < c) (hj : j < c) (ki : K i = 47) (kj : K j = 47) (hd : 3 ≤ d) (q : Q (some (some (J (if C i = C j then 1 else 0)))) S (mI M)) :
    X E d fX4_isSameName 0 [some (.ref (cl + 8)), some (J (i : Int)), some (J (j : Int)), none, none, none] [] S (mI M) Q := by
  obtain ⟨hT, hq, ⟨hc, h24⟩, hK, hKb, hN⟩ := hs
  obtain ⟨l1, c1, c2, c3⟩ := hN i hi ki
  obtain ⟨l2, c4, c5, c6⟩ := hN j hj kj
  have g8 : aKd S (cl + 8) = 6 := hT.kd (i := 8) rfl
  have p80 : aP S (cl + 8) 0 = some (cl + 2) := hT.pp (i := 8) (j := 0) (x := 2) rfl rfl
  have p81 : aP S (cl + 8) 1 = some (cl + 1) := hT.pp (i := 8) (j := 1) (x := 1) rfl rfl
  have g2 : aKd S (cl + 2) = 7 := hT.kd (i := 2) rfl
  have p22 : aP S (cl + 2) 2 = some (cl + 5) := hT.pp (i := 2) (j := 2) (x := 5) rfl rfl
  have p21 : aP S (cl + 2) 1 = some (cl + 4) := hT.pp (i := 2) (j := 1) (x := 4) rfl rfl
  have d5 : aKd S (cl + 5) = 100 := hT.kd (i := 5) rfl
  have d4 : aKd S (cl + 4) = 100 := hT.kd (i := 4) rfl
  have n5 : aN S (cl + 5) = 401 := hT.nn (i := 5) rfl
  have n4 : aN S (cl + 4) = 401 := hT.nn (i := 4) rfl
  have d1 : aKd S (cl + 1) = 101 := hT.kd (i := 1) rfl
  have e5 : ∀ x, x < c → vAt 401 (M (cl + 5)) (x : Int) = (L x : Int) := fun x hx => by rw [vAt_nat (by omega), hf _ (by omega)]; exact (hK x hx).2.2
  have e4 : ∀ x, x < c → vAt 401 (M (cl + 4)) (x : Int) = (P x : Int) := fun x hx => by rw [vAt_nat (by omega), hf _ (by omega)]; exact (hK x hx).2.1
  have hq' : Tq S M (cl + 1) n f := hq.fr (hf _ (by omega))
  have hn := hq.2.2.1
  have hb := hq.2.2.2.2
  refine kX4_isSameName_0 g8 p80 g2 p22 (by omega) (mX7_valueAt d5 ⟨by omega, by omega⟩ n5 (by decide) ⟨_, rfl, ?_⟩)
  rw [e5 i hi]
  refine kX4_isSameName_11 g8 p80 g2 p22 (by omega) (mX7_valueAt d5 ⟨by omega, by omega⟩ n5 (by decide) ⟨_, rfl, ?_⟩)
  rw [e5 j hj, l1, l2]
  refine kX4_isSameName_24 (by decide) (by decide) (fun _ => kX4_isSameName_29 ?_) (fun h => absurd rfl h)
  have step : ∀ (z : Nat) (o5 : Option Value), z < 2 → (f (P i + z) = f (P j + z) → ∀ o5, X E d fX4_isSameName 32 [some (.ref (cl + 8)), some (J (i : Int)), some (J (j : Int)), some (J 2), some (J ((z + 1 : Nat) : Int)), o5] [] S (mI M) Q) → (f (P i + z) ≠ f (P j + z) → Q (some (some (J 0))) S (mI M)) →
      X E d fX4_isSameName 32 [some (.ref (cl + 8)), some (J (i : Int)), some (J (j : Int)), some (J 2), some (J (z : Int)), o5] [] S (mI M) Q := by
    intro z o5 hz k1 k2
    have b1 := hb (P i + z)
    have b2 := hb (P j + z)
    refine kX4_isSameName_32 ⟨by omega, by omega⟩ (by decide) (fun h => absurd h (by omega)) (fun _ => ?_)
    refine kX4_isSameName_38 g8 p81 p80 (by omega) ?_ g2
    refine kX5_placeOf_0 g2 p21 (by omega) (mX7_valueAt d4 ⟨by omega, by omega⟩ n4 (by decide) ⟨_, rfl, kX5_placeOf_8 ⟨_, rfl, ?_⟩⟩)
    rw [e4 i hi]
    refine kX4_isSameName_50 g8 p81 (Or.inr (Or.inl d1)) (by omega) (cByteT (i := P i + z) hq' (by omega) (by omega) (by omega) ⟨_, rfl, ?_⟩)
    refine kX4_isSameName_61 g8 p81 p80 (by omega) ?_ g2
    refine kX5_placeOf_0 g2 p21 (by omega) (mX7_valueAt d4 ⟨by omega, by omega⟩ n4 (by decide) ⟨_, rfl, kX5_placeOf_8 ⟨_, rfl, ?_⟩⟩)
    rw [e4 j hj]
    refine kX4_isSameName_77 g8 p81 (Or.inr (Or.inl d1)) (by omega) (cByteT (i := P j + z) hq' (by omega) (by omega) (by omega) ⟨_, rfl, ?_⟩)
    refine kX4_isSameName_88 ⟨by omega, by omega⟩ ⟨by omega, by omega⟩ (fun h => kX4_isSameName_93 ?_) (fun h => kX4_isSameName_91 (k2 (by omega)))
    rw [show (z : Int) + 1 = ((z + 1 : Nat) : Int) by omega]
    exact k1 (by omega) _
  by_cases e : C i = C j
  · rw [if_pos e] at q
    refine step 0 _ (by decide) (fun _ o5 => step 1 o5 (by decide) (fun _ o5 => ?_) (fun h => absurd (show f (P i + 1) = f (P j + 1) by rw [c2, c5, e]) h)) (fun h => absurd (show f (P i + 0) = f (P j + 0) by rw [Nat.add_zero, Nat.add_zero, c1, c4, e]) h)
    exact kX4_isSameName_32 (by decide) (by decide) (fun _ => kX4_isSameName_99 q) (fun h => absurd h (by decide))
  · rw [if_neg e] at q
    refine step 0 _ (by decide) (fun h0 o5 => step 1 o5 (by decide) (fun h1 o5 => ?_) (fun _ => q)) (fun _ => q)
    rw [Nat.add_zero, Nat.add_zero, c1, c4] at h0
    have h1' : f (P i + 1) = f (P j + 1) := h1
    rw [c2, c5] at h1'
    exact absurd (show C i = C j by omega) e
/-- names that are told: the tokens where they are told -/
def NmA (cl c : Nat) (K C : Nat → Nat) (M : Nat → Nat → Int) (A told lt : Nat) : Prop := ∀ k, k < told → ∃ t : Nat, M (cl + A) k = (t : Int) ∧ t < c ∧ K t = 47 ∧ C t = lt * 256 + 48 + k
theorem svNum {A told lt i j sz : Nat} (hs : Sst cl S M0 n f c K P L C) (hf : Sfr cl M0 M) (hM : RM M) (hA : aKd S (cl + A) = 100 ∧ aN S (cl + A) = sz) (ht : told ≤ sz) (hsz : sz ≤ 8) (hnm : NmA cl c K C M A told lt) (hat : M (cl + 8) 6 = (i : Int)) (hi : i < c) (ki : K i = 47) (ci : C i = lt * 256 + 48 + j) (hd : 4 ≤ d)
    (q : Q (some (some (J (if j < told then (j : Int) else -1)))) S (mI M)) :
    ∀ (m k : Nat), k + m = told → k ≤ j → X E d fX4_numberOfName 2 [some (.ref (cl + 8)), some (.ref (cl + A)), some (J (told : Int)), some (J (k : Int))] [] S (mI M) Q := by
  have g8 : aKd S (cl + 8) = 6 := hs.1.kd (i := 8) rfl
  intro m
  induction m with
  | zero =>
    intro k hk hj
    rw [if_neg (by omega)] at q
    exact kX4_numberOfName_2 ⟨by omega, by omega⟩ ⟨by omega, by omega⟩ (fun _ => kX4_numberOfName_35 q) (fun h => absurd h (by omega))
  | succ m ih =>
    intro k hk hj
    obtain ⟨t, e1, e2, e3, e4⟩ := hnm k (by omega)
    refine kX4_numberOfName_2 ⟨by omega, by omega⟩ ⟨by omega, by omega⟩ (fun h => absurd h (by omega)) (fun _ => ?_)
    refine kX4_numberOfName_7 (Or.inl hA.1) ⟨by omega, by omega⟩ ⟨by omega, by omega⟩ (fun h => absurd h (by omega)) (fun _ => ?_)
    refine kX4_numberOfName_13 hA.1 ⟨by omega, by omega⟩ ⟨by omega, by omega⟩ g8 (by omega) ?_
    rw [Int.toNat_natCast, e1, hat]
    refine svSame hs hf e2 hi e3 ki (by omega) ⟨_, rfl, ?_⟩
    by_cases c1 : k = j
    · rw [if_pos (by omega)]
      rw [if_pos (by omega), ← c1] at q
      exact kX4_numberOfName_24 (by decide) (fun h => absurd h (by decide)) (fun _ => kX4_numberOfName_27 q)
    · rw [if_neg (by omega)]
      refine kX4_numberOfName_24 (by decide) (fun _ => kX4_numberOfName_29 ?_) (fun h => absurd rfl h)
      rw [show (k : Int) + 1 = ((k + 1 : Nat) : Int) by omega]
      exact ih (k + 1) (by omega) (by omega)
end SU
