/-! is the class's object as the law's road: gates, traffics, and all of it -/
section C29
variable {E : Nat → Value} {d : Nat} {S : aS} {M : Nat → Nat → Int} {Q : Option (Option Value) → aS → aI → Prop} {s : Nat} {T : Nat → Nat} {A : Nat → Nat → Nat} {c : Nat → Nat} {R W O : Nat → Nat → Int} {cl t t2 rk rd rd0 : Nat}
theorem mX8_same6 (h : BoH S M s T A c cl t t2 rk rd rd0 R W O) (hd : 5 ≤ d) {o2 o3 o4 o5 o6 o7 o8 o9 : Option Value}
    (kk : ∀ S' M' o5 o6 o7 o8 o9, aX S' ≤ aX S + c 4 → aZ S' ≤ aZ S + 6 * c 4 → BoH S' M' s T A c cl t t2 rk rd rd0 R W O → X E d fX8_isSame 588 [some (.ref s), some (.ref cl), o2, o3, o4, o5, o6, o7, o8, o9] [] S' (mI M') Q) :
    X E d fX8_isSame 344 [some (.ref s), some (.ref cl), o2, o3, o4, o5, o6, o7, o8, o9] [] S (mI M) Q := by
  have hcc := h.sm.sm.c
  refine kX8_isSame_344 ?_
  have hl : ∀ (n i : Nat) S1 M o6 o7 o8 o9, i + n = c 4 → aX S1 + n ≤ aX S + c 4 → aZ S1 + 6 * n ≤ aZ S + 6 * c 4 → BoH S1 M s T A c cl t t2 rk rd rd0 R W O →
      X E d fX8_isSame 347 [some (.ref s), some (.ref cl), o2, o3, o4, some (J (i : Int)), o6, o7, o8, o9] [] S1 (mI M) Q := by
    intro n
    induction n with
    | zero =>
      intro i S1 M o6 o7 o8 o9 hi hgx hgz hB
      have n2 := hB.sm.sm.nT 4 (by decide) (by decide)
      exact kX8_isSame_347 hB.sm.sm.kd (hB.sm.sm.pT 4 (by decide) (by decide)) (Or.inr (Or.inr (hB.sm.sm.dT 4 (by decide) (by decide)))) ⟨by omega, by omega⟩ ⟨by omega, by omega⟩ (fun _ => kk _ _ _ _ _ _ _ (by omega) (by omega) hB) (fun h => absurd h (by omega))
    | succ n ih =>
      intro i S1 M o6 o7 o8 o9 hi hgx hgz hB
      have hm : i < c 4 := by omega
      have n2 := hB.sm.sm.nT 4 (by decide) (by decide)
      refine kX8_isSame_347 hB.sm.sm.kd (hB.sm.sm.pT 4 (by decide) (by decide)) (Or.inr (Or.inr (hB.sm.sm.dT 4 (by decide) (by decide)))) ⟨by omega, by omega⟩ ⟨by omega, by omega⟩ (fun h => absurd h (by omega)) (fun _ => ?_)
      refine mX8_same5 hB (by omega) hm (fun o7 o8 o9 => ?_)
      have hx := aExt.new S1 100 6 6
      have hS1 := hB.sm.sm.ext (hB.sm.L (Nat.le_of_lt hB.lt)) hx
      have nA := hS1.nA 4 i (by decide) (by decide) hm
      have w3 : wd 4 = 6 := rfl
      have hA : A 4 i ≠ aX S1 := by have := hB.sm.l.2.2 4 i (by decide) (by decide) hm; have := hB.lt; omega
      have rK : aK (aNew S1 100 6 6) (aX S1) = 100 := aNew_K
      have rD : aKd (aNew S1 100 6 6) (aX S1) = 100 := nKd (by decide)
      have rN : aN (aNew S1 100 6 6) (aX S1) = 6 := aNew_N
      have hM := hB.cc.m
      have hns := hB.sm.v.n
      have v0 : M (A 4 i) 0 = R 5 i := hB.sm.v.r 4 i 0 hm (by decide)
      have v1 : M (A 4 i) 1 = W 4 i := hB.sm.v.w 4 i 1 hm (by decide)
      have v2 : M (A 4 i) 2 = W 5 i := hB.sm.v.w 4 i 2 hm (by decide)
      have v3 : M (A 4 i) 3 = W 6 i := hB.sm.v.w 4 i 3 hm (by decide)
      have v4 : M (A 4 i) 4 = W 7 i := hB.sm.v.w 4 i 4 hm (by decide)
      have ct := cTrf_in (R := R) (m := R 5 i) (c 5)
      obtain ⟨M13, e13⟩ : ∃ x, mW (aU M (aX S1) (fun _ => 0)) (aX S1) 0 ((aU M (aX S1) (fun _ => 0)) (A 4 i) 0) = x := ⟨_, rfl⟩
      obtain ⟨M34, e34⟩ : ∃ x, mW (mW M13 (aX S1) 1 (M13 (A 4 i) 1)) (aX S1) 2 ((mW M13 (aX S1) 1 (M13 (A 4 i) 1)) (A 4 i) 2) = x := ⟨_, rfl⟩
      obtain ⟨M55, e55⟩ : ∃ x, mW (mW M34 (aX S1) 3 (M34 (A 4 i) 3)) (aX S1) 4 ((mW M34 (aX S1) 3 (M34 (A 4 i) 3)) (A 4 i) 4) = x := ⟨_, rfl⟩
      have iA : ∀ q : Int, 0 ≤ q → q < 6 → (0 : Int) ≤ q ∧ q < (aN (aNew S1 100 6 6) (A 4 i) : Int) := fun q a b => ⟨a, by rw [nA, w3]; exact b⟩
      have iR : ∀ q : Int, 0 ≤ q → q < 6 → (0 : Int) ≤ q ∧ q < (aN (aNew S1 100 6 6) (aX S1) : Int) := fun q a b => ⟨a, by rw [rN]; exact b⟩
      refine kX8_isSame_477 hS1.kd (hS1.pT 4 (by decide) (by decide)) (hS1.dT 4 (by decide) (by decide)) ⟨by omega, by omega⟩ ⟨by omega, by rw [hS1.nT 4 (by decide) (by decide)]; omega⟩ (hS1.pA 4 i (by decide) (by decide) hm) (hS1.dA 4 i (by decide) (by decide) hm) (iA 0 (by decide) (by decide)) rK (iR 0 (by decide) (by decide)) e13 (iA 1 (by decide) (by decide)) (iR 1 (by decide) (by decide)) (iA 2 (by decide) (by decide)) (iR 2 (by decide) (by decide)) e34
        (iA 3 (by decide) (by decide)) (iR 3 (by decide) (by decide)) (iA 4 (by decide) (by decide)) (iR 4 (by decide) (by decide)) e55 (iR 5 (by decide) (by decide)) ?_
      have hR13 : RM M13 := by rw [← e13]; exact hM.nw.w (hM.nw _ _)
      have hR34 : RM M34 := by
        have h1 : RM (mW M13 (aX S1) 1 (M13 (A 4 i) 1)) := hR13.w (hR13 _ _)
        rw [← e34]; exact h1.w (h1 _ _)
      have hR55 : RM M55 := by
        have h1 : RM (mW M34 (aX S1) 3 (M34 (A 4 i) 3)) := hR34.w (hR34 _ _)
        rw [← e55]; exact h1.w (h1 _ _)
      have hR75 : RM (mW M55 (aX S1) 5 (cTrf R (R 5 i) (c 5))) := hR55.w ⟨by omega, by omega⟩
      have hf75 : ∀ b, b < aX S1 → mW M55 (aX S1) 5 (cTrf R (R 5 i) (c 5)) b = M b := fun b hb => by
        have hne : b ≠ aX S1 := by omega
        rw [mW_ne hne, ← e55, mW_ne hne, mW_ne hne, ← e34, mW_ne hne, mW_ne hne, ← e13, mW_ne hne, aU_ne _ _ hne]
      have hv : ∀ q : Nat, q < 6 → mW M55 (aX S1) 5 (cTrf R (R 5 i) (c 5)) (aX S1) q = nz (cGate R W i (q : Int)) := by
        intro q hq
        have q3 : (R 0 3).toNat = c 5 := by omega
        have f13 : M13 (A 4 i) = M (A 4 i) := by rw [← e13, mW_ne hA, aU_ne _ _ hA]
        have f34 : M34 (A 4 i) = M (A 4 i) := by rw [← e34, mW_ne hA, mW_ne hA, f13]
        rw [mW_row, ← e55, mW_row, mW_row, mW_ne hA, f34, v3, v4, ← e34, mW_row, mW_row, mW_ne hA, f13, v1, v2, ← e13, mW_row, aU_self, aU_ne _ _ hA, v0]
        rcases (by omega : q = 0 ∨ q = 1 ∨ q = 2 ∨ q = 3 ∨ q = 4 ∨ q = 5) with g | g | g | g | g | g
        all_goals subst g
        · exact (nz_eq (hB.cc.rR _ _)).symm
        · exact (nz_eq (hB.cc.wR _ _)).symm
        · exact (nz_eq (hB.cc.wR _ _)).symm
        · exact (nz_eq (hB.cc.wR _ _)).symm
        · exact (nz_eq (hB.cc.wR _ _)).symm
        · show cTrf R (R 5 i) (c 5) = nz (cTrf R (R 5 i) (R 0 3).toNat)
          rw [q3]
          exact (nz_eq ⟨by omega, by omega⟩).symm
      have hB1 := hB.ext hx hR75 hf75
      generalize mW M55 (aX S1) 5 (cTrf R (R 5 i) (c 5)) = M75 at *
      have hin : ∀ (n j : Nat), j + n = 6 → (∀ o8, X E d fX8_isSame 582 [some (.ref s), some (.ref cl), o2, o3, o4, some (J (i : Int)), some (J (cTrf R (R 5 i) (c 5))), some (.ref (aX S1)), o8, o9] [] (aNew S1 100 6 6) (mI M75) Q) →
          X E d fX8_isSame 551 [some (.ref s), some (.ref cl), o2, o3, o4, some (J (i : Int)), some (J (cTrf R (R 5 i) (c 5))), some (.ref (aX S1)), some (J (j : Int)), o9] [] (aNew S1 100 6 6) (mI M75) Q := by
        intro n
        induction n with
        | zero =>
          intro j hj k2
          exact kX8_isSame_551 ⟨by omega, by omega⟩ (fun _ => k2 _) (fun h => absurd h (by omega))
        | succ n ih2 =>
          intro j hj k2
          refine kX8_isSame_551 ⟨by omega, by omega⟩ (fun h => absurd h (by omega)) (fun _ => ?_)
          refine kX8_isSame_558 (by omega) (aGate hB1.cc (by omega) (by omega) ⟨by omega, by omega⟩ ⟨_, rfl, ?_⟩) hB1.cc.w.c.kd
          rw [← J_nz (cGate R W i (j : Int))]
          refine kX8_isSame_566 (t0 := nz (cGate R W i (j : Int))) rD ⟨by omega, by omega⟩ ⟨by omega, by omega⟩ (nz_R _) (hR75 _ _) (fun _ => ?_) (fun h => absurd ?_ h)
          · exact kX8_isSame_576 (ih2 (j + 1) (by omega) k2)
          · rw [Int.toNat_natCast, hv j (by omega)]
      exact hin 6 0 (by omega) (fun o8 => kX8_isSame_582 (ih (i + 1) _ _ _ _ _ _ (by omega) (by show aX S1 + 1 + n ≤ _; omega) (by show aZ S1 + 6 + 6 * n ≤ _; omega) hB1))
  exact hl (c 4) 0 S M _ _ _ _ (by omega) (Nat.le_refl _) (Nat.le_refl _) h
/-- a copy of the law's road, behind the class's object -/
abbrev CoH (S : aS) (M : Nat → Nat → Int) (s : Nat) (T : Nat → Nat) (A : Nat → Nat → Nat) (c : Nat → Nat) (R W O : Nat → Nat → Int) (cl t2 : Nat) : Prop :=
  SmS S s T A c ∧ SmV M s A c R W O ∧ t2 + 12 < s ∧ (∀ j, 2 ≤ j → j ≤ 5 → t2 + 12 < T j) ∧ T 6 < cl ∧ (∀ j k, 2 ≤ j → j ≤ 5 → k < c j → t2 + 12 < A j k) ∧ (∀ k, k < c 6 → A 6 k < cl)
theorem CoH.what {M' : Nat → Nat → Int} (h : CoH S M s T A c R W O cl t2) (hf : FrC cl t2 M M') (hc : cl ≤ t2) {q : Option Nat} : CoH (aPut S t2 1 q) M' s T A c R W O cl t2 := by
  obtain ⟨h1, h2, h3, h4, h5, h6, h7⟩ := h
  refine ⟨h1.put (by omega) (fun j a b => ?_), h2.fr (hf s (Or.inr h3)) (fun j k a b hk => ?_), h3, h4, h5, h6, h7⟩
  · by_cases e : j = 6
    · subst e; omega
    · have := h4 j a (by omega)
      omega
  · by_cases e : j = 6
    · subst e; exact hf _ (Or.inl (h7 k hk))
    · exact hf _ (Or.inr (h6 j k a (by omega) hk))
/-- a traffic goes in a copy -/
theorem mX8_then (h : BoH S M s T A c cl t t2 rk rd rd0 R W O) (hK : RdK c R O) (hW : WOk c W) (hd : 4 ≤ d) {a : Nat} (ha : a < c 5) {o2 o3 o4 o6 o7 o8 o9 : Option Value}
    (kk : ∀ S' M' s' T' A', aX S' ≤ aX S + 80 → aZ S' ≤ aZ S + 400 → BoH S' M' s T A c cl t t2 rk rd rd0 R W O → CoH S' M' s' T' A' c R (sGo R W a).2 O cl t2 → X E d fX8_isSame 653 [some (.ref s), some (.ref cl), o2, o3, o4, some (J a), some (.ref s'), o7, o8, o9] [J (nz (sGo R W a).1)] S' (mI M') Q) :
    X E d fX8_isSame 640 [some (.ref s), some (.ref cl), o2, o3, o4, some (J a), o6, o7, o8, o9] [] S (mI M) Q := by
  have l := h.1.w.lt
  refine kX8_isSame_640 (by omega) (mX8_copy h.sm.sm (h.sm.L (Nat.le_of_lt h.lt)) h.sm.v h.cc.m (by omega) (fun S1 M1 hx1 hM1 hf1 hX1 hZ1 hS1 hL1 hV1 => ⟨_, rfl, ?_⟩)) h.sm.sm.kd
  have hB1 := h.ext hx1 hM1 hf1
  have hT5 : ∀ j, 2 ≤ j → j ≤ 5 → aX S + 6 ≤ cpT T c (aX S + 6) j := by
    intro j h2 h5
    rcases (by omega : j = 2 ∨ j = 3 ∨ j = 4 ∨ j = 5) with rfl | rfl | rfl | rfl
    · exact Nat.le_refl _
    · rw [cpT3]; omega
    · rw [cpT4]; omega
    · rw [cpT5]; omega
  have hA5 : ∀ j k, 2 ≤ j → j ≤ 5 → aX S + 6 ≤ cpA T A c (aX S + 6) j k := by
    intro j k h2 h5
    have := hT5 j h2 h5
    unfold cpA
    rw [if_neg (by omega)]
    omega
  have hA6 : ∀ k, cpA T A c (aX S + 6) 6 k = A 6 k := fun k => if_pos rfl
  refine kX8_isSame_644 (u0 := aX S) (by omega) (mX8_go hS1 hV1 hM1 hW hK.1 hK.2.1 hK.2.2.2.1 ha (by omega) (fun M2 hM2 hV2 hF2 => ⟨_, rfl, ?_⟩)) hS1.kd
  have hne : ∀ b, b < aX S → (∀ k, k < c 6 → b ≠ A 6 k) → M2 b = M1 b := fun b hb hn => hF2 b (by omega) (fun j k h2 h6 hk e => by
    by_cases g : j = 6
    · subst g
      rw [hA6] at e
      exact hn k hk e
    · have := hA5 j k h2 (by omega)
      omega)
  have lA := h.sm.l
  have hB2 : BoH S1 M2 s T A c cl t t2 rk rd rd0 R W O := by
    refine ⟨hB1.1.ext (aExt.refl _) hM2 (fun b g1 g2 => hne b (by omega) (fun k hk e => by have := lA.2.2 6 k (by decide) (by decide) hk; omega)), hB1.2.1, hB1.2.2.1, ?_⟩
    have hs : M2 s = M1 s := hne s (by omega) (fun k hk e => hB1.sm.sm.ne 6 k (by decide) (by decide) hk e.symm)
    have hv := hB1.sm.v
    have hAA : ∀ j k, 2 ≤ j → j ≤ 5 → k < c j → M2 (A j k) = M1 (A j k) := fun j k h2 h5 hk => hne _ (by have := lA.2.2 j k h2 (by omega) hk; omega) (fun k' hk' e => by
      have := hB1.sm.sm.inj j k 6 k' h2 (by omega) hk (by decide) (by decide) hk' e
      omega)
    refine ⟨?_, ?_, ?_, fun j k q hk hq => ?_, fun j k q hk hq => ?_, fun k q hk => ?_, hv.n⟩
    · rw [hs]; exact hv.day
    · rw [hs]; exact hv.coins
    · rw [hs]; exact hv.fo
    · have hj := lk_lr hq
      rw [hAA j k hj.2.1 hj.2.2 hk]
      exact hv.w j k q hk hq
    · have hj := lr_j hq
      rw [hAA j k hj.1 hj.2 hk]
      exact hv.r j k q hk hq
    · rw [← hA6 k]
      exact hV2.o k q hk
  rw [← J_nz (sGo R W a).1]
  refine kk S1 M2 (aX S) (cpT T c (aX S + 6)) (cpA T A c (aX S + 6)) (by have := h.sm.sm.c; omega) (by have := h.sm.sm.c; omega) hB2 ⟨hS1, hV2, by omega, fun j h2 h5 => ?_, ?_, fun j k h2 h5 hk => ?_, fun k hk => ?_⟩
  · have := hT5 j h2 h5
    omega
  · rw [cpT6]; exact lA.2.1 6 (by decide) (by decide)
  · have := hA5 j k h2 h5
    omega
  · rw [hA6]; exact lA.2.2 6 k (by decide) (by decide) hk
end C29
