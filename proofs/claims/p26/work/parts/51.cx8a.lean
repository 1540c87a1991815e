/-! contracts of the law's road: condition, least, broken, toll -/
section C8
variable {E : Nat → Value} {d : Nat} {S : aS} {M : Nat → Nat → Int} {Q : Option (Option Value) → aS → aI → Prop} {s : Nat} {T : Nat → Nat} {A : Nat → Nat → Nat} {c : Nat → Nat} {R W O : Nat → Nat → Int}
theorem mX8_condition {x : Int} (hS : SmS S s T A c) (hV : SmV M s A c R W O) (hx : R32 x) (q : Q (some (some (J (hCond R W x)))) S (mI M)) : X E d fX8_condition 0 [some (.ref s), some (J x)] [] S (mI M) Q := by
  have n3 := hS.nT 3 (by decide) (by decide)
  have hc := hS.c
  have hn := hV.n
  unfold hCond at q
  rw [hn.2.1] at q
  refine kX8_condition_0 hx (fun h => ?_) (fun h => ?_)
  · rw [if_neg (by omega)] at q
    exact kX8_condition_13 (kX8_condition_25 q)
  · refine kX8_condition_4 hS.kd (hS.pT 3 (by decide) (by decide)) (Or.inr (Or.inr (hS.dT 3 (by decide) (by decide)))) hx ⟨by omega, by omega⟩ (fun h2 => ?_) (fun h2 => ?_)
    · rw [if_pos (by omega)] at q
      have hk : x.toNat < c 3 := by omega
      have nA := hS.nA 3 x.toNat (by decide) (by decide) hk
      have e := hV.w 3 x.toNat 1 hk (by decide)
      refine kX8_condition_17 hS.kd (hS.pT 3 (by decide) (by decide)) (hS.dT 3 (by decide) (by decide)) hx ⟨by omega, by omega⟩ (hS.pA 3 x.toNat (by decide) (by decide) hk) (hS.dA 3 x.toNat (by decide) (by decide) hk) ⟨by decide, by rw [nA]; decide⟩ (kX8_condition_25 ?_)
      rw [e]
      exact q
    · rw [if_neg (by omega)] at q
      exact kX8_condition_13 (kX8_condition_25 q)
theorem mX8_least {x : Int} (hS : SmS S s T A c) (hV : SmV M s A c R W O) (hM : RM M) (hx : R32 x) (q : Q (some (some (J (hLst R W x (c 3))))) S (mI M)) : X E d fX8_least 0 [some (.ref s), some (J x), none, none, none, none, none] [] S (mI M) Q := by
  have p3 := hS.pT 3 (by decide) (by decide)
  have d3 := hS.dT 3 (by decide) (by decide)
  have n3 := hS.nT 3 (by decide) (by decide)
  have hc := hS.c
  refine kX8_least_0 hS.kd p3 (Or.inr (Or.inr d3)) ?_
  rw [n3]
  have hl : ∀ m i o6, i + m = c 3 → R32 (hLst R W x i) → X E d fX8_least 15 [some (.ref s), some (J x), some (J (hLst R W x i)), some (.ref (T 3)), some (J ((c 3 : Nat) : Int)), some (J (i : Int)), o6] [] S (mI M) Q := by
    intro m
    induction m with
    | zero =>
      intro i o6 hi hr
      have hi : i = c 3 := by omega
      subst hi
      exact kX8_least_15 ⟨by omega, by omega⟩ ⟨by omega, by omega⟩ (fun _ => kX8_least_55 q) (fun h => absurd h (by omega))
    | succ m ih =>
      intro i o6 hi hr
      have hk : i < c 3 := by omega
      have nA := hS.nA 3 i (by decide) (by decide) hk
      have dA := hS.dA 3 i (by decide) (by decide) hk
      have e0 : M (A 3 i) 0 = R 4 i := hV.r 3 i 0 hk (by decide)
      have e1 : M (A 3 i) 1 = W 1 i := hV.w 3 i 1 hk (by decide)
      have hi1 := fun o6 hr => ih (i + 1) o6 (by omega) hr
      unfold hLst at hi1
      have hmin : x < 0 ∨ R 4 i = x → X E d fX8_least 40 [some (.ref s), some (J x), some (J (hLst R W x i)), some (.ref (T 3)), some (J ((c 3 : Nat) : Int)), some (J (i : Int)), some (.ref (A 3 i))] [] S (mI M) Q := by
        intro hy
        rw [if_pos hy] at hi1
        have hw := hM (A 3 i) 1
        refine kX8_least_40 dA ⟨by decide, by rw [nA]; decide⟩ hr hw (kX8_least_49 ?_)
        rw [e1] at hw ⊢
        exact hi1 _ ⟨by omega, by omega⟩
      refine kX8_least_15 ⟨by omega, by omega⟩ ⟨by omega, by omega⟩ (fun h => absurd h (by omega)) (fun _ => ?_)
      refine kX8_least_22 d3 ⟨by omega, by omega⟩ ⟨by omega, by omega⟩ (hS.pA 3 i (by decide) (by decide) hk) hx (fun h => hmin (Or.inl h)) (fun h => ?_)
      refine kX8_least_32 dA ⟨by decide, by rw [nA]; decide⟩ (hM _ _) hx (fun h2 => ?_) (fun h2 => hmin (Or.inr (e0 ▸ h2)))
      rw [e0] at h2
      rw [if_neg (by omega)] at hi1
      exact kX8_least_49 (hi1 _ hr)
  exact hl (c 3) 0 none (by omega) ⟨by unfold hLst; decide, by unfold hLst; decide⟩
theorem mX8_broken {x : Int} (hS : SmS S s T A c) (hV : SmV M s A c R W O) (hM : RM M) (hx : R32 x) (q : Q (some (some (J (hBrk R W x (c 3))))) S (mI M)) : X E d fX8_broken 0 [some (.ref s), some (J x), none, none, none, none, none] [] S (mI M) Q := by
  have p3 := hS.pT 3 (by decide) (by decide)
  have d3 := hS.dT 3 (by decide) (by decide)
  have n3 := hS.nT 3 (by decide) (by decide)
  have hc := hS.c
  refine kX8_broken_0 hS.kd p3 (Or.inr (Or.inr d3)) ?_
  rw [n3]
  have hl : ∀ m i o6, i + m = c 3 → X E d fX8_broken 14 [some (.ref s), some (J x), some (J (hBrk R W x i)), some (.ref (T 3)), some (J ((c 3 : Nat) : Int)), some (J (i : Int)), o6] [] S (mI M) Q := by
    intro m
    induction m with
    | zero =>
      intro i o6 hi
      have hi : i = c 3 := by omega
      subst hi
      exact kX8_broken_14 ⟨by omega, by omega⟩ ⟨by omega, by omega⟩ (fun _ => kX8_broken_60 q) (fun h => absurd h (by omega))
    | succ m ih =>
      intro i o6 hi
      have hk : i < c 3 := by omega
      have nA := hS.nA 3 i (by decide) (by decide) hk
      have dA := hS.dA 3 i (by decide) (by decide) hk
      have e0 : M (A 3 i) 0 = R 4 i := hV.r 3 i 0 hk (by decide)
      have e1 : M (A 3 i) 1 = W 1 i := hV.w 3 i 1 hk (by decide)
      have hi1 := fun o6 => ih (i + 1) o6 (by omega)
      unfold hBrk at hi1
      have no : ∀ o6, ¬ ((x < 0 ∨ R 4 i = x) ∧ W 1 i = 0) → X E d fX8_broken 51 [some (.ref s), some (J x), some (J (hBrk R W x i)), some (.ref (T 3)), some (J ((c 3 : Nat) : Int)), some (J (i : Int)), o6] [J (hBrk R W x i)] S (mI M) Q := by
        intro o6 hy
        rw [if_neg hy] at hi1
        refine kX8_broken_51 (kX8_broken_52 (t0 := 0) (t1 := hBrk R W x i) ?_)
        rw [Int.add_zero]
        exact hi1 o6
      have yes : (x < 0 ∨ R 4 i = x) → X E d fX8_broken 40 [some (.ref s), some (J x), some (J (hBrk R W x i)), some (.ref (T 3)), some (J ((c 3 : Nat) : Int)), some (J (i : Int)), some (.ref (A 3 i))] [J (hBrk R W x i)] S (mI M) Q := by
        intro hy
        refine kX8_broken_40 dA ⟨by decide, by rw [nA]; decide⟩ (hM _ _) (fun h => no _ (fun z => h (e1.trans z.2))) (fun h => ?_)
        rw [e1] at h
        rw [if_pos ⟨hy, h⟩] at hi1
        exact kX8_broken_47 (kX8_broken_52 (t0 := 1) (t1 := hBrk R W x i) (hi1 _))
      refine kX8_broken_14 ⟨by omega, by omega⟩ ⟨by omega, by omega⟩ (fun h => absurd h (by omega)) (fun _ => ?_)
      refine kX8_broken_21 d3 ⟨by omega, by omega⟩ ⟨by omega, by omega⟩ (hS.pA 3 i (by decide) (by decide) hk) hx (fun h => yes (Or.inl h)) (fun h => ?_)
      refine kX8_broken_32 dA ⟨by decide, by rw [nA]; decide⟩ (hM _ _) hx (fun h2 => ?_) (fun h2 => yes (Or.inr (e0 ▸ h2)))
      rw [e0] at h2
      exact no _ (fun z => z.1.elim (fun y => absurd h (by omega)) h2)
  exact hl (c 3) 0 none (by omega)
theorem mX8_toll {a g : Nat} (hS : SmS S s T A c) (hV : SmV M s A c R W O) (hM : RM M) (ha : a < c 5) (hg : g < c 4) (q : Q (some (some (J (sToll W a g)))) S (mI M)) : X E d fX8_toll 0 [some (.ref s), some (J a), some (J g), none, none] [] S (mI M) Q := by
  have hc := hS.c
  have n5 := hS.nT 5 (by decide) (by decide)
  have n4 := hS.nT 4 (by decide) (by decide)
  have nA := hS.nA 5 a (by decide) (by decide) ha
  have nB := hS.nA 4 g (by decide) (by decide) hg
  have e1 : M (A 5 a) 1 = W 9 a := hV.w 5 a 1 ha (by decide)
  have e2 : M (A 4 g) 1 = W 4 g := hV.w 4 g 1 hg (by decide)
  have r2 : R32 (W 4 g) := e2 ▸ hM _ _
  have r1 : R32 (W 9 a) := e1 ▸ hM _ _
  unfold sToll at q
  refine kX8_toll_0 hS.kd (hS.pT 5 (by decide) (by decide)) (hS.dT 5 (by decide) (by decide)) ⟨by omega, by omega⟩ ⟨by omega, by omega⟩ (hS.pA 5 a (by decide) (by decide) ha) (hS.dA 5 a (by decide) (by decide) ha) ⟨by decide, by rw [nA]; decide⟩ (hS.pT 4 (by decide) (by decide)) (hS.dT 4 (by decide) (by decide)) ⟨by omega, by omega⟩ ⟨by omega, by omega⟩ (hS.pA 4 g (by decide) (by decide) hg) (hS.dA 4 g (by decide) (by decide) hg) ⟨by decide, by rw [nB]; decide⟩ (hM _ _) (fun h => ?_) (fun h => ?_)
  · rw [e1] at h ⊢
    rw [e2]
    rw [if_pos (by omega)] at q
    refine kX8_toll_32 r1 (fun h2 => ?_) (fun h2 => ?_)
    · rw [if_pos (by omega)] at q
      exact kX8_toll_45 (kX8_toll_47 q)
    · rw [if_neg (by omega)] at q
      exact kX8_toll_38 r2 (kX8_toll_47 q)
  · rw [e1] at h ⊢
    rw [e2]
    rw [if_neg (by omega), show W 4 g * 2 = W 4 g + W 4 g by omega] at q
    exact kX8_toll_24 (kX8_toll_47 q)
end C8
