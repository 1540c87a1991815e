/-! contracts of the law's road: sums, days, a copy, counts -/
section C22
variable {E : Nat → Value} {d : Nat} {S : aS} {M : Nat → Nat → Int} {Q : Option (Option Value) → aS → aI → Prop} {s : Nat} {T : Nat → Nat} {A : Nat → Nat → Nat} {c : Nat → Nat} {R W O : Nat → Nat → Int}
/-- what of the road and the orders days want -/
abbrev RdK (c : Nat → Nat) (R O : Nat → Nat → Int) : Prop := OrO c O ∧ OrdK c R O ∧ OrP c O ∧ RPk c R ∧ RSt c R
/-- its cells are made already -/
abbrev SmL (S : aS) (s : Nat) (T : Nat → Nat) (A : Nat → Nat → Nat) (c : Nat → Nat) : Prop := s < aX S ∧ (∀ j, 2 ≤ j → j ≤ 6 → T j < aX S) ∧ (∀ j k, 2 ≤ j → j ≤ 6 → k < c j → A j k < aX S)
theorem SmL.ext {S' : aS} (h : SmL S s T A c) (hx : aX S ≤ aX S') : SmL S' s T A c := ⟨Nat.lt_of_lt_of_le h.1 hx, fun j a b => Nat.lt_of_lt_of_le (h.2.1 j a b) hx, fun j k a b e => Nat.lt_of_lt_of_le (h.2.2 j k a b e) hx⟩
theorem SmS.ext {S' : aS} (h : SmS S s T A c) (hl : SmL S s T A c) (hx : aExt S S') : SmS S' s T A c :=
  ⟨(hx.2 s hl.1).1.trans h.k, (aExt_kd (hx.2 s hl.1)).trans h.kd, fun j h2 h6 => (congrFun (hx.2 s hl.1).2.2 j).trans (h.pT j h2 h6), fun j h2 h6 => (aExt_kd (hx.2 _ (hl.2.1 j h2 h6))).trans (h.dT j h2 h6), fun j h2 h6 => ((hx.2 _ (hl.2.1 j h2 h6)).2.1).trans (h.nT j h2 h6),
    fun j k h2 h6 hk => (congrFun (hx.2 _ (hl.2.1 j h2 h6)).2.2 k).trans (h.pA j k h2 h6 hk), fun j k h2 h6 hk => ((hx.2 _ (hl.2.2 j k h2 h6 hk)).1).trans (h.aA j k h2 h6 hk), fun j k h2 h6 hk => (aExt_kd (hx.2 _ (hl.2.2 j k h2 h6 hk))).trans (h.dA j k h2 h6 hk), fun j k h2 h6 hk => ((hx.2 _ (hl.2.2 j k h2 h6 hk)).2.1).trans (h.nA j k h2 h6 hk), h.ne, h.inj, h.c⟩
theorem SmV.fr {M' : Nat → Nat → Int} (h : SmV M s A c R W O) (h0 : M' s = M s) (hA : ∀ j k, 2 ≤ j → j ≤ 6 → k < c j → M' (A j k) = M (A j k)) : SmV M' s A c R W O := by
  refine ⟨?_, ?_, ?_, fun j k q hk hq => ?_, fun j k q hk hq => ?_, fun k q hk => ?_, h.n⟩
  · rw [h0]; exact h.day
  · rw [h0]; exact h.coins
  · rw [h0]; exact h.fo
  · have hj := lk_lr hq
    rw [hA j k hj.2.1 (by omega) hk]
    exact h.w j k q hk hq
  · have hj := lr_j hq
    rw [hA j k hj.1 (by omega) hk]
    exact h.r j k q hk hq
  · rw [hA 6 k (by omega) (by omega) hk]
    exact h.o k q hk
theorem SmV.ext {M' : Nat → Nat → Int} (h : SmV M s A c R W O) (hl : SmL S s T A c) (hf : ∀ b, b < aX S → M' b = M b) : SmV M' s A c R W O := h.fr (hf s hl.1) (fun j k h2 h6 hk => hf _ (hl.2.2 j k h2 h6 hk))
theorem mX8_passed (hS : SmS S s T A c) (hV : SmV M s A c R W O) (q : Q (some (some (J (sSum (W 10) (c 5))))) S (mI M)) : X E d fX8_passed 0 [some (.ref s), none, none, none, none, none] [] S (mI M) Q := by
  have p5 := hS.pT 5 (by decide) (by decide)
  have d5 := hS.dT 5 (by decide) (by decide)
  have n5 := hS.nT 5 (by decide) (by decide)
  have hc := hS.c
  refine kX8_passed_0 hS.kd p5 (Or.inr (Or.inr d5)) ?_
  rw [n5]
  have hl : ∀ m i o5, i + m = c 5 → X E d fX8_passed 13 [some (.ref s), some (J (sSum (W 10) i)), some (.ref (T 5)), some (J ((c 5 : Nat) : Int)), some (J (i : Int)), o5] [] S (mI M) Q := by
    intro m
    induction m with
    | zero =>
      intro i o5 hi
      have hi : i = c 5 := by omega
      subst hi
      exact kX8_passed_13 ⟨by omega, by omega⟩ ⟨by omega, by omega⟩ (fun _ => kX8_passed_38 q) (fun h => absurd h (by omega))
    | succ m ih =>
      intro i o5 hi
      have hk : i < c 5 := by omega
      have nA := hS.nA 5 i (by decide) (by decide) hk
      have e : M (A 5 i) 5 = W 10 i := hV.w 5 i 5 hk (by decide)
      have hi1 := ih (i + 1) (some (.ref (A 5 i))) (by omega)
      unfold sSum at hi1
      refine kX8_passed_13 ⟨by omega, by omega⟩ ⟨by omega, by omega⟩ (fun h => absurd h (by omega)) (fun _ => ?_)
      refine kX8_passed_19 d5 ⟨by omega, by omega⟩ ⟨by omega, by omega⟩ (hS.pA 5 i (by decide) (by decide) hk) (hS.dA 5 i (by decide) (by decide) hk) ⟨by decide, by rw [nA]; decide⟩ ?_
      rw [e]
      exact hi1
  exact hl (c 5) 0 none (by omega)
theorem mX8_all (hS : SmS S s T A c) (hV : SmV M s A c R W O) (q : Q (some (some (J (sSum (W 1) (c 3))))) S (mI M)) : X E d fX8_all 0 [some (.ref s), none, none, none, none, none] [] S (mI M) Q := by
  have p5 := hS.pT 3 (by decide) (by decide)
  have d5 := hS.dT 3 (by decide) (by decide)
  have n5 := hS.nT 3 (by decide) (by decide)
  have hc := hS.c
  refine kX8_all_0 hS.kd p5 (Or.inr (Or.inr d5)) ?_
  rw [n5]
  have hl : ∀ m i o5, i + m = c 3 → X E d fX8_all 13 [some (.ref s), some (J (sSum (W 1) i)), some (.ref (T 3)), some (J ((c 3 : Nat) : Int)), some (J (i : Int)), o5] [] S (mI M) Q := by
    intro m
    induction m with
    | zero =>
      intro i o5 hi
      have hi : i = c 3 := by omega
      subst hi
      exact kX8_all_13 ⟨by omega, by omega⟩ ⟨by omega, by omega⟩ (fun _ => kX8_all_38 q) (fun h => absurd h (by omega))
    | succ m ih =>
      intro i o5 hi
      have hk : i < c 3 := by omega
      have nA := hS.nA 3 i (by decide) (by decide) hk
      have e : M (A 3 i) 1 = W 1 i := hV.w 3 i 1 hk (by decide)
      have hi1 := ih (i + 1) (some (.ref (A 3 i))) (by omega)
      unfold sSum at hi1
      refine kX8_all_13 ⟨by omega, by omega⟩ ⟨by omega, by omega⟩ (fun h => absurd h (by omega)) (fun _ => ?_)
      refine kX8_all_19 d5 ⟨by omega, by omega⟩ ⟨by omega, by omega⟩ (hS.pA 3 i (by decide) (by decide) hk) (hS.dA 3 i (by decide) (by decide) hk) ⟨by decide, by rw [nA]; decide⟩ ?_
      rw [e]
      exact hi1
  exact hl (c 3) 0 none (by omega)
theorem mX8_on {n : Nat} (hS : SmS S s T A c) (hV : SmV M s A c R W O) (hM : RM M) (hW : WOk c W) (hK : RdK c R O) (hlg : W 0 16 = -1) (hn : n ≤ 1000000) (hd : 5 ≤ d)
    (k : ∀ M', RM M' → SmV M' s A c R (sDays R n W) O → WOk c (sDays R n W) → SmF s A c M M' → Q (some (some (.ref s))) S (mI M')) :
    X E d fX8_on 0 [some (.ref s), some (J n), none] [] S (mI M) Q := by
  refine kX8_on_0 ?_
  have hl : ∀ m i M' W, i + m = n → RM M' → SmV M' s A c R W O → WOk c W → SmF s A c M M' → W 0 16 = -1 →
      (∀ M', RM M' → SmV M' s A c R (sDays R m W) O → WOk c (sDays R m W) → SmF s A c M M' → Q (some (some (.ref s))) S (mI M')) →
      X E d fX8_on 2 [some (.ref s), some (J n), some (J (i : Int))] [] S (mI M') Q := by
    intro m
    induction m with
    | zero =>
      intro i M' W hi hM' hV' hW' hF hg kk
      exact kX8_on_2 ⟨by omega, by omega⟩ ⟨by omega, by omega⟩ (fun _ => kX8_on_17 (kk M' hM' hV' hW' hF)) (fun h => absurd h (by omega))
    | succ m ih =>
      intro i M' W hi hM' hV' hW' hF hg kk
      unfold sDays at kk
      refine kX8_on_2 ⟨by omega, by omega⟩ ⟨by omega, by omega⟩ (fun h => absurd h (by omega)) (fun _ => ?_)
      refine kX8_on_7 (by omega) (mX8_pass hS hV' hM' hW' hK.1 hK.2.1 hK.2.2.1 hK.2.2.2.1 hK.2.2.2.2 hg (by omega) (fun M2 hM2 hV2 hW2 hF2 => ⟨none, rfl, ?_⟩)) hS.kd
      exact kX8_on_11 (ih (i + 1) M2 _ (by omega) hM2 hV2 hW2 (hF.trans hF2) (by rw [sDay_16]; exact hg) kk)
  exact hl n 0 M W (by omega) hM hV hW SmF.refl hlg k
end C22
