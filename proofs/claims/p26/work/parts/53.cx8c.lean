/-! contracts of the law's road: a toll is paid -/
section C10
variable {E : Nat → Value} {d : Nat} {S : aS} {M : Nat → Nat → Int} {Q : Option (Option Value) → aS → aI → Prop} {s : Nat} {T : Nat → Nat} {A : Nat → Nat → Nat} {c : Nat → Nat} {R W O : Nat → Nat → Int}
/-- how a road may be: numbers of 32 bits, rents from -1 on, conditions from 0 to 100, wheels from 1 on -/
abbrev WOk (c : Nat → Nat) (W : Nat → Nat → Int) : Prop := (∀ j k, R32 (W j k)) ∧ (∀ g, g < c 4 → -1 ≤ W 7 g) ∧ (∀ m, m < c 3 → 0 ≤ W 1 m ∧ W 1 m ≤ 100) ∧ (∀ a, a < c 5 → 1 ≤ W 9 a)
/-- the orders as the class keeps them are those of the law's road -/
abbrev OrdK (c : Nat → Nat) (R O : Nat → Nat → Int) : Prop := ∀ i, i < c 6 → (R 13 i = 12 ↔ O i 0 = 0) ∧ (R 13 i = 13 ↔ O i 0 = 1) ∧ (R 13 i = 15 ↔ O i 0 = 2) ∧ R 15 i = O i 1 ∧ (O i 0 ≠ 2 → R 16 i = O i 2) ∧
  (∀ W, WOk c W → O i 0 ≠ 2 → (sEv R W (R 18 i) (R 19 i) ≠ 0 ↔ hHold R W (O i) = true)) ∧
  (∀ W, WOk c W → O i 0 = 2 → ((¬ R 18 i < R 19 i ∨ sEv R W (R 18 i) (R 19 i) ≠ 0) ↔ hHold R W (O i) = true) ∧ sEv R W (R 17 i) (R 18 i) = nz (hSum R W (O i)))
theorem mW_comm {W : Nat → Nat → Int} {j k j' k' : Nat} {x x' : Int} (h : j ≠ j') : mW (mW W j k x) j' k' x' = mW (mW W j' k' x') j k x := by
  funext b q
  rw [mW_get, mW_get, mW_get, mW_get]
  by_cases h1 : b = j' ∧ q = k'
  · rw [if_pos h1, if_neg (fun z => h (z.1.symm.trans h1.1)), if_pos h1]
  · rw [if_neg h1]
    by_cases h2 : b = j ∧ q = k
    · rw [if_pos h2, if_pos h2]
    · rw [if_neg h2, if_neg h2, if_neg h1]
theorem mX8_pay {a g : Nat} (hS : SmS S s T A c) (hV : SmV M s A c R W O) (hM : RM M) (hW : WOk c W) (hO : OrO c O) (hK : OrdK c R O) (ha : a < c 5) (hg : g < c 4) (hd : 2 ≤ d)
    (k : ∀ M', RM M' → SmV M' s A c R (if sFree R W a g 0 (c 6) = false then sPay W a g else W) O → SmF s A c M M' → Q (some none) S (mI M')) :
    X E d fX8_pay 0 [some (.ref s), some (J a), some (J g), none, none, none, none] [] S (mI M) Q := by
  have hc := hS.c
  have n6 := hS.nT 6 (by decide) (by decide)
  have n5 := hS.nT 5 (by decide) (by decide)
  have n4 := hS.nT 4 (by decide) (by decide)
  have d6 := hS.dT 6 (by decide) (by decide)
  refine kX8_pay_0 hS.kd (hS.pT 6 (by decide) (by decide)) (Or.inr (Or.inr d6)) ?_
  rw [n6]
  have hl : ∀ m i o6, i + m = c 6 → (∀ M', RM M' → SmV M' s A c R (if sFree R W a g i m = false then sPay W a g else W) O → SmF s A c M M' → Q (some none) S (mI M')) →
      X E d fX8_pay 12 [some (.ref s), some (J a), some (J g), some (.ref (T 6)), some (J ((c 6 : Nat) : Int)), some (J (i : Int)), o6] [] S (mI M) Q := by
    intro m
    induction m with
    | zero =>
      intro i o6 hi kk
      unfold sFree at kk
      rw [if_pos rfl] at kk
      refine kX8_pay_12 ⟨by omega, by omega⟩ ⟨by omega, by omega⟩ (fun _ => ?_) (fun h => absurd h (by omega))
      refine kX8_pay_64 (by omega) (mX8_toll hS hV hM ha hg ⟨_, rfl, ?_⟩) hS.kd
      have nG : aN S (A 4 g) = 6 := hS.nA 4 g (by decide) (by decide) hg
      have nA : aN S (A 5 a) = 8 := hS.nA 5 a (by decide) (by decide) ha
      have aG := hS.aA 4 g (by decide) (by decide) hg
      have dG := hS.dA 4 g (by decide) (by decide) hg
      have aA := hS.aA 5 a (by decide) (by decide) ha
      have dA := hS.dA 5 a (by decide) (by decide) ha
      have hne : A 5 a ≠ A 4 g := fun h => by
        have := (hS.inj 5 a 4 g (by decide) (by decide) ha (by decide) (by decide) hg h).1
        omega
      have e5 : M (A 4 g) 2 = W 5 g := hV.w 4 g 2 hg (by decide)
      have e7 : M (A 4 g) 4 = W 7 g := hV.w 4 g 4 hg (by decide)
      have e8 : M (A 4 g) 5 = W 8 g := hV.w 4 g 5 hg (by decide)
      have e12 : M (A 5 a) 7 = W 12 a := hV.w 5 a 7 ha (by decide)
      have hsne4 := hS.ne 4 g (by decide) (by decide) hg
      have hsne5 := hS.ne 5 a (by decide) (by decide) ha
      -- what is written: taken, paid
      have hM1 : RM (mW (mW M (A 4 g) 2 (nz (M (A 4 g) 2 + sToll W a g))) (A 5 a) 7 (nz (mW M (A 4 g) 2 (nz (M (A 4 g) 2 + sToll W a g)) (A 5 a) 7 + sToll W a g))) := hM.z.z
      have hV1 := (hV.put (q := 2) (x := nz (M (A 4 g) 2 + sToll W a g)) hS hg (by decide)).put (j := 5) (k := a) (q := 7) (x := nz (mW M (A 4 g) 2 (nz (M (A 4 g) 2 + sToll W a g)) (A 5 a) 7 + sToll W a g)) hS ha (by decide)
      have hF1 : SmF s A c M (mW (mW M (A 4 g) 2 (nz (M (A 4 g) 2 + sToll W a g))) (A 5 a) 7 (nz (mW M (A 4 g) 2 (nz (M (A 4 g) 2 + sToll W a g)) (A 5 a) 7 + sToll W a g))) := (SmF.refl.wA (by decide) (by decide) hg).wA (by decide) (by decide) ha
      have z7 : mW (mW M (A 4 g) 2 (nz (M (A 4 g) 2 + sToll W a g))) (A 5 a) 7 (nz (mW M (A 4 g) 2 (nz (M (A 4 g) 2 + sToll W a g)) (A 5 a) 7 + sToll W a g)) (A 4 g) 4 = W 7 g := by
        rw [mW_ne (Ne.symm hne), mW_at (by decide)]; exact e7
      refine kX8_pay_70 (t0 := sToll W a g) hS.kd (hS.pT 4 (by decide) (by decide)) (hS.dT 4 (by decide) (by decide)) ⟨by omega, by omega⟩ ⟨by omega, by omega⟩ (hS.pA 4 g (by decide) (by decide) hg) dG ⟨by omega, by omega⟩ aG (hS.pT 5 (by decide) (by decide)) (hS.dT 5 (by decide) (by decide)) ⟨by omega, by omega⟩ ⟨by omega, by omega⟩ (hS.pA 5 a (by decide) (by decide) ha) dA ⟨by omega, by omega⟩ aA rfl ⟨by omega, by omega⟩ (hM1 _ _) (fun h => ?_) (fun h => ?_)
      · rw [z7] at h
        have z8 : mW (mW M (A 4 g) 2 (nz (M (A 4 g) 2 + sToll W a g))) (A 5 a) 7 (nz (mW M (A 4 g) 2 (nz (M (A 4 g) 2 + sToll W a g)) (A 5 a) 7 + sToll W a g)) (A 4 g) 5 = W 8 g := by
          rw [mW_ne (Ne.symm hne), mW_at (by decide)]; exact e8
        have eW : sPay W a g = mW (mW (mW W 5 g (nz (W 5 g + sToll W a g))) 12 a (nz (W 12 a + sToll W a g))) 8 g (nz (W 8 g + sToll W a g)) := by
          unfold sPay
          rw [if_neg (by omega), mW_comm (j := 12) (by decide)]
        refine kX8_pay_120 hS.kd (hS.pT 4 (by decide) (by decide)) (hS.dT 4 (by decide) (by decide)) ⟨by omega, by omega⟩ ⟨by omega, by omega⟩ (hS.pA 4 g (by decide) (by decide) hg) dG ⟨by omega, by omega⟩ aG (kX8_pay_132 (kk _ hM1.z ?_ (hF1.wA (by decide) (by decide) hg)))
        have z := hV1.put (j := 4) (k := g) (q := 5) (x := nz (W 8 g + sToll W a g)) hS hg (by decide)
        rw [z8, eW]
        rw [mW_ne hne, e12, e5] at z
        rw [mW_ne hne, e12, e5]
        exact z
      · rw [z7] at h
        have z8 : mW (mW M (A 4 g) 2 (nz (M (A 4 g) 2 + sToll W a g))) (A 5 a) 7 (nz (mW M (A 4 g) 2 (nz (M (A 4 g) 2 + sToll W a g)) (A 5 a) 7 + sToll W a g)) s 1 = W 0 3 := by
          rw [mW_ne (Ne.symm hsne5), mW_ne (Ne.symm hsne4)]; exact hV.coins
        have h7 : W 7 g = -1 := by
          have := hW.2.1 g hg
          omega
        have eW : sPay W a g = mW (mW (mW W 5 g (nz (W 5 g + sToll W a g))) 12 a (nz (W 12 a + sToll W a g))) 0 3 (nz (W 0 3 + sToll W a g)) := by
          unfold sPay
          rw [if_pos h7, mW_comm (j := 12) (by decide)]
        refine kX8_pay_107 hS.kd hS.k (kX8_pay_132 (kk _ hM1.z ?_ hF1.ws))
        have z := hV1.putS 1 (by decide) (x := nz (W 0 3 + sToll W a g)) hS
        rw [z8, eW]
        rw [mW_ne hne, e12, e5] at z
        rw [mW_ne hne, e12, e5]
        exact z
    | succ m ih =>
      intro i o6 hi kk
      have hk : i < c 6 := by omega
      have nA : aN S (A 6 i) = 10 := hS.nA 6 i (by decide) (by decide) hk
      have dA := hS.dA 6 i (by decide) (by decide) hk
      have e : ∀ q, M (A 6 i) q = O i q := fun q => hV.o i q hk
      have hKi := hK i hk
      unfold sFree at kk
      have skip : ∀ o6, ¬ (O i 0 = 0 ∧ O i 1 = (a : Int) ∧ O i 2 = (g : Int) ∧ hHold R W (O i) = true) →
          X E d fX8_pay 58 [some (.ref s), some (J a), some (J g), some (.ref (T 6)), some (J ((c 6 : Nat) : Int)), some (J (i : Int)), o6] [] S (mI M) Q := by
        intro o6 hy
        rw [if_neg (c := R 13 i = 12 ∧ R 15 i = (a : Int) ∧ R 16 i = (g : Int) ∧ sEv R W (R 18 i) (R 19 i) ≠ 0) (fun z => by
          have z0 := hKi.1.mp z.1
          exact hy ⟨z0, hKi.2.2.2.1 ▸ z.2.1, (hKi.2.2.2.2.1 (by omega)) ▸ z.2.2.1, (hKi.2.2.2.2.2.1 W hW (by omega)).mp z.2.2.2⟩)] at kk
        exact kX8_pay_58 (ih (i + 1) o6 (by omega) kk)
      refine kX8_pay_12 ⟨by omega, by omega⟩ ⟨by omega, by omega⟩ (fun h => absurd h (by omega)) (fun _ => ?_)
      refine kX8_pay_19 d6 ⟨by omega, by omega⟩ ⟨by omega, by omega⟩ (hS.pA 6 i (by decide) (by decide) hk) dA ⟨by omega, by omega⟩ (hM _ _) (fun h => skip _ (fun z => h ((e 0).trans z.1))) (fun h0 => ?_)
      refine kX8_pay_32 dA ⟨by omega, by omega⟩ (hM _ _) ⟨by omega, by omega⟩ (fun h => skip _ (fun z => h ((e 1).trans z.2.1))) (fun h1 => ?_)
      refine kX8_pay_40 dA ⟨by omega, by omega⟩ (hM _ _) ⟨by omega, by omega⟩ (fun h => skip _ (fun z => h ((e 2).trans z.2.2.1))) (fun h2 => ?_)
      rw [e] at h0 h1 h2
      refine kX8_pay_48 (by omega) (mX8_holds hS hV hM hW.1 hO hk (by omega) ⟨_, rfl, ?_⟩) hS.kd
      by_cases hh : hHold R W (O i) = true
      · rw [if_pos hh]
        refine kX8_pay_54 (t0 := 1) ⟨by decide, by decide⟩ (fun h => absurd h (by decide)) (fun _ => kX8_pay_57 ?_)
        rw [if_pos (c := R 13 i = 12 ∧ R 15 i = (a : Int) ∧ R 16 i = (g : Int) ∧ sEv R W (R 18 i) (R 19 i) ≠ 0) ⟨hKi.1.mpr h0, hKi.2.2.2.1.trans h1, (hKi.2.2.2.2.1 (by omega)).trans h2, (hKi.2.2.2.2.2.1 W hW (by omega)).mpr hh⟩] at kk
        exact kk M hM hV SmF.refl
      · rw [if_neg hh]
        exact kX8_pay_54 (t0 := 0) R32_0 (fun _ => skip _ (fun z => hh z.2.2.2)) (fun h => absurd rfl h)
  exact hl (c 6) 0 none (by omega) k
end C10
