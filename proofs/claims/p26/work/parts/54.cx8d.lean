/-! contracts of the law's road: a traffic's way -/
section C11
variable {E : Nat → Value} {d : Nat} {S : aS} {M : Nat → Nat → Int} {Q : Option (Option Value) → aS → aI → Prop} {s : Nat} {T : Nat → Nat} {A : Nat → Nat → Nat} {c : Nat → Nat} {R W O : Nat → Nat → Int}
/-- a road's numbers in their bounds -/
abbrev RPk (c : Nat → Nat) (R : Nat → Nat → Int) : Prop := (∀ a, a < c 5 → 0 ≤ R 9 a ∧ R 9 a < (c 3 : Int) ∧ 0 ≤ R 10 a ∧ R 10 a < (c 3 : Int) ∧ 1 ≤ R 7 a ∧ R 7 a ≤ 60 ∧ 1 ≤ R 11 a ∧ R 11 a ≤ 30) ∧ (∀ m, m < c 3 → 0 ≤ R 4 m ∧ R 4 m < (c 2 : Int)) ∧ (∀ s, s < c 2 → 0 ≤ R 3 s ∧ R 3 s ≤ 9)
theorem R32.w {W : Nat → Nat → Int} (h : ∀ j k, R32 (W j k)) {j k : Nat} {x : Int} (hx : R32 x) : ∀ j' k', R32 (mW W j k x j' k') := by
  intro j' k'
  rw [mW_get]
  split
  · exact hx
  · exact h j' k'
theorem WOk.w (h : WOk c W) {j k : Nat} {x : Int} (hj : j ≠ 7 ∧ j ≠ 1 ∧ j ≠ 9) (hx : R32 x) : WOk c (mW W j k x) :=
  ⟨R32.w h.1 hx, by rw [mW_ne (Ne.symm hj.1)]; exact h.2.1, by rw [mW_ne (Ne.symm hj.2.1)]; exact h.2.2.1, by rw [mW_ne (Ne.symm hj.2.2)]; exact h.2.2.2⟩
theorem WOk.pay (h : WOk c W) {a g : Nat} : WOk c (sPay W a g) := by
  unfold sPay
  split
  · exact ((h.w (by decide) (nz_R _)).w (by decide) (nz_R _)).w (by decide) (nz_R _)
  · exact ((h.w (by decide) (nz_R _)).w (by decide) (nz_R _)).w (by decide) (nz_R _)
theorem WOk.gates {a : Nat} {m : Int} : ∀ (n g : Nat) {W : Nat → Nat → Int}, WOk c W → WOk c (sGates R W a m g n)
  | 0, _, _, h => h
  | n + 1, g, W, h => by
    unfold sGates
    split
    · exact WOk.gates n (g + 1) h.pay
    · exact WOk.gates n (g + 1) h
theorem sLess_in (hR : RPk c R) (h : WOk c W) {a m : Nat} (ha : a < c 5) (hm : m < c 3) : (0 ≤ (R 7 a * R 3 (R 4 m).toNat).tdiv (W 9 a) ∧ (R 7 a * R 3 (R 4 m).toNat).tdiv (W 9 a) ≤ 540) ∧ 0 ≤ sLess R W a m ∧ sLess R W a m ≤ W 1 m ∧ R32 (R 7 a * R 3 (R 4 m).toNat) := by
  have h1 := hR.1 a ha
  have h2 := hR.2.1 m hm
  have h3 := hR.2.2 (R 4 m).toNat (by omega)
  have h4 := h.2.2.1 m hm
  have h5 := h.2.2.2 a ha
  have hl : 0 ≤ R 7 a * R 3 (R 4 m).toNat ∧ R 7 a * R 3 (R 4 m).toNat ≤ 60 * 9 := ⟨Int.mul_nonneg (by omega) h3.1, Int.mul_le_mul (by omega) h3.2 h3.1 (by decide)⟩
  have hq : 0 ≤ (R 7 a * R 3 (R 4 m).toNat).tdiv (W 9 a) ∧ (R 7 a * R 3 (R 4 m).toNat).tdiv (W 9 a) ≤ R 7 a * R 3 (R 4 m).toNat := ⟨Int.tdiv_nonneg hl.1 (by omega), Int.tdiv_le_self _ hl.1⟩
  unfold sLess
  refine ⟨⟨hq.1, by omega⟩, by omega, by omega, ⟨by omega, by omega⟩⟩
theorem WOk.wear (hR : RPk c R) (h : WOk c W) {a m : Nat} (ha : a < c 5) (hm : m < c 3) : WOk c (sWear R W a m) := by
  have h1 := (sLess_in hR h ha hm).2
  have h4 := h.2.2.1 m hm
  unfold sWear
  refine WOk.w (j := 2) ⟨R32.w h.1 (nz_R _), ?_, ?_, ?_⟩ (by decide) (nz_R _)
  · rw [mW_ne (by decide)]; exact h.2.1
  · intro k hk
    rw [mW_get]
    split
    · rw [nz_eq ⟨by omega, by omega⟩]; omega
    · exact h.2.2.1 k hk
  · rw [mW_ne (by decide)]; exact h.2.2.2
theorem mX8_go {a : Nat} (hS : SmS S s T A c) (hV : SmV M s A c R W O) (hM : RM M) (hW : WOk c W) (hO : OrO c O) (hK : OrdK c R O) (hR : RPk c R) (ha : a < c 5) (hd : 3 ≤ d)
    (k : ∀ M', RM M' → SmV M' s A c R (sGo R W a).2 O → SmF s A c M M' → Q (some (some (J (sGo R W a).1))) S (mI M')) :
    X E d fX8_go 0 [some (.ref s), some (J a), none, none, none, none, none] [] S (mI M) Q := by
  have hc := hS.c
  have hn := hV.n
  have n5 := hS.nT 5 (by decide) (by decide)
  have n4 := hS.nT 4 (by decide) (by decide)
  have n3 := hS.nT 3 (by decide) (by decide)
  have n2 := hS.nT 2 (by decide) (by decide)
  have hra := hR.1 a ha
  have nA : aN S (A 5 a) = 8 := hS.nA 5 a (by decide) (by decide) ha
  have aA := hS.aA 5 a (by decide) (by decide) ha
  have dA := hS.dA 5 a (by decide) (by decide) ha
  have f2 : ∀ {M' W'}, SmV M' s A c R W' O → M' (A 5 a) 2 = R 9 a := fun h => h.r 5 a 2 ha (by decide)
  have f3 : ∀ {M' W'}, SmV M' s A c R W' O → M' (A 5 a) 3 = R 10 a := fun h => h.r 5 a 3 ha (by decide)
  have e6 : (R 12 0).toNat = c 6 := by omega
  have e4 : (R 0 2).toNat = c 4 := by omega
  generalize hby : sBy R a = b at *
  have hb2 : (R 9 a ≤ R 10 a ∧ b = 1) ∨ (R 10 a < R 9 a ∧ b = -1) := by
    unfold sBy at hby
    by_cases h : R 9 a ≤ R 10 a
    · rw [if_pos h] at hby; exact Or.inl ⟨h, hby.symm⟩
    · rw [if_neg h] at hby; exact Or.inr ⟨by omega, hby.symm⟩
  unfold sGo at k
  rw [hby] at k
  generalize hN : ((R 10 a - R 9 a) * b + 1).toNat = N at k
  have hN2 : (R 10 a - R 9 a) * b + 1 = (N : Int) := by
    rcases hb2 with ⟨g, rfl⟩ | ⟨g, rfl⟩ <;> omega
  have hNb : N ≤ 45 := by
    rcases hb2 with ⟨g, rfl⟩ | ⟨g, rfl⟩ <;> omega
  have habs : (if 0 ≤ R 9 a - R 10 a then R 9 a - R 10 a else -(R 9 a - R 10 a)) = (N : Int) - 1 := by
    rcases hb2 with ⟨g, rfl⟩ | ⟨g, rfl⟩ <;> split <;> omega
  -- the gates of a mile
  have hg : ∀ (mm : Nat) (i : Int) m g M' W', g + m = c 4 → RM M' → SmV M' s A c R W' O → SmF s A c M M' → WOk c W' → mm < 45 →
      (∀ M2 o6, RM M2 → SmV M2 s A c R (sGates R W' a (mm : Int) g m) O → SmF s A c M M2 → X E d fX8_go 113 [some (.ref s), some (J a), some (.ref (A 5 a)), some (J b), some (J i), some (J (mm : Int)), o6] [] S (mI M2) Q) →
      X E d fX8_go 76 [some (.ref s), some (J a), some (.ref (A 5 a)), some (J b), some (J i), some (J (mm : Int)), some (J (g : Int))] [] S (mI M') Q := by
    intro mm i m
    induction m with
    | zero =>
      intro g M' W' hgm hM' hV' hF hW' hmm kk
      exact kX8_go_76 hS.kd (hS.pT 4 (by decide) (by decide)) (Or.inr (Or.inr (hS.dT 4 (by decide) (by decide)))) ⟨by omega, by omega⟩ ⟨by omega, by omega⟩ (fun _ => kk M' _ hM' hV' hF) (fun h => absurd h (by omega))
    | succ m ih =>
      intro g M' W' hgm hM' hV' hF hW' hmm kk
      have hg4 : g < c 4 := by omega
      have nG : aN S (A 4 g) = 6 := hS.nA 4 g (by decide) (by decide) hg4
      have e5 : M' (A 4 g) 0 = R 5 g := hV'.r 4 g 0 hg4 (by decide)
      unfold sGates at kk
      rw [e6] at kk
      refine kX8_go_76 hS.kd (hS.pT 4 (by decide) (by decide)) (Or.inr (Or.inr (hS.dT 4 (by decide) (by decide)))) ⟨by omega, by omega⟩ ⟨by omega, by omega⟩ (fun h => absurd h (by omega)) (fun _ => ?_)
      refine kX8_go_86 hS.kd (hS.pT 4 (by decide) (by decide)) (hS.dT 4 (by decide) (by decide)) ⟨by omega, by omega⟩ ⟨by omega, by omega⟩ (hS.pA 4 g (by decide) (by decide) hg4) (hS.dA 4 g (by decide) (by decide) hg4) ⟨by omega, by omega⟩ (hM' _ _) ⟨by omega, by omega⟩ (fun h => ?_) (fun h => ?_)
      · rw [e5] at h
        rw [if_neg (c := R 5 g = (mm : Int) ∧ sFree R W' a g 0 (c 6) = false) (fun z => h z.1)] at kk
        exact kX8_go_107 (ih (g + 1) M' W' (by omega) hM' hV' hF hW' hmm kk)
      · rw [e5] at h
        refine kX8_go_100 (by omega) (mX8_pay hS hV' hM' hW' hO hK ha hg4 (by omega) (fun M2 hM2 hV2 hF2 => ⟨none, rfl, ?_⟩)) hS.kd
        refine kX8_go_107 (ih (g + 1) M2 _ (by omega) hM2 hV2 (hF.trans hF2) ?_ hmm ?_)
        · split
          · exact hW'.pay
          · exact hW'
        · by_cases hfr : sFree R W' a g 0 (c 6) = false
          · rw [if_pos hfr]
            rw [if_pos (c := R 5 g = (mm : Int) ∧ sFree R W' a g 0 (c 6) = false) ⟨h, hfr⟩] at kk
            exact kk
          · rw [if_neg hfr]
            rw [if_neg (c := R 5 g = (mm : Int) ∧ sFree R W' a g 0 (c 6) = false) (fun z => hfr z.2)] at kk
            exact kk
  -- the miles
  have hl : ∀ n i M' W' o5 o6, i + n = N → RM M' → SmV M' s A c R W' O → SmF s A c M M' → WOk c W' →
      (∀ M', RM M' → SmV M' s A c R (sTrav R a b n (R 9 a + (i : Int) * b) W').2 O → SmF s A c M M' → Q (some (some (J (sTrav R a b n (R 9 a + (i : Int) * b) W').1))) S (mI M')) →
      X E d fX8_go 25 [some (.ref s), some (J a), some (.ref (A 5 a)), some (J b), some (J (i : Int)), o5, o6] [] S (mI M') Q := by
    intro n
    induction n with
    | zero =>
      intro i M' W' o5 o6 hi hM' hV' hF hW' kk
      refine kX8_go_25 dA ⟨by omega, by omega⟩ ⟨by omega, by omega⟩ (by rw [f2 hV', f3 hV']; exact ⟨by omega, by omega⟩) ⟨by omega, by omega⟩ (by rw [f2 hV', f3 hV', habs]; exact ⟨by omega, by omega⟩) (fun h => ?_) (fun h => ?_)
      · have e10 : M' (A 5 a) 5 = W' 10 a := hV'.w 5 a 5 ha (by decide)
        refine kX8_go_198 dA ⟨by omega, by omega⟩ aA (kk _ hM'.z ?_ (hF.wA (by decide) (by decide) ha))
        rw [e10]
        exact hV'.put (j := 5) (q := 5) hS ha (by decide)
      · rw [f2 hV', f3 hV', habs] at h
        exact absurd h (by omega)
    | succ n ih =>
      intro i M' W' o5 o6 hi hM' hV' hF hW' kk
      have hr : 0 ≤ R 9 a + (i : Int) * b ∧ R 9 a + (i : Int) * b < (c 3 : Int) := by
        rcases hb2 with ⟨g, rfl⟩ | ⟨g, rfl⟩ <;> omega
      have hnx : R 9 a + ((i + 1 : Nat) : Int) * b = R 9 a + (i : Int) * b + b := by
        rcases hb2 with ⟨g, rfl⟩ | ⟨g, rfl⟩ <;> omega
      have hcm : R 9 a + b * (i : Int) = R 9 a + (i : Int) * b := by rw [Int.mul_comm]
      refine kX8_go_25 dA ⟨by omega, by omega⟩ ⟨by omega, by omega⟩ (by rw [f2 hV', f3 hV']; exact ⟨by omega, by omega⟩) ⟨by omega, by omega⟩ (by rw [f2 hV', f3 hV', habs]; exact ⟨by omega, by omega⟩) (fun h => ?_) (fun h => ?_)
      · rw [f2 hV', f3 hV', habs] at h
        exact absurd h (by omega)
      · have ih' := fun M1 W1 o5 o6 a1 a2 a3 a4 => ih (i + 1) M1 W1 o5 o6 (by omega) a1 a2 a3 a4
        rw [hnx] at ih'
        have e2 := f2 hV'
        generalize hmm : R 9 a + (i : Int) * b = mi at *
        obtain ⟨mm, rfl⟩ := Int.eq_ofNat_of_zero_le hr.1
        have hmm3 : mm < c 3 := by omega
        have nM : aN S (A 3 mm) = 3 := hS.nA 3 mm (by decide) (by decide) hmm3
        have aM := hS.aA 3 mm (by decide) (by decide) hmm3
        have dM := hS.dA 3 mm (by decide) (by decide) hmm3
        have pM := hS.pA 3 mm (by decide) (by decide) hmm3
        have em : M' (A 3 mm) 1 = W' 1 mm := hV'.w 3 mm 1 hmm3 (by decide)
        unfold sTrav at kk
        rw [Int.toNat_natCast] at kk
        refine kX8_go_40 (b9 := A 3 mm) dA ⟨by omega, by omega⟩ hS.kd (hS.pT 3 (by decide) (by decide)) (hS.dT 3 (by decide) (by decide)) (by rw [e2, hcm]; exact ⟨by omega, by omega⟩) (by rw [e2, hcm]; exact ⟨by omega, by omega⟩) (by rw [e2, hcm, Int.toNat_natCast]; exact pM) dM ⟨by omega, by omega⟩ (hM' _ _) (fun h2 => ?_) (fun h2 => ?_)
        · rw [em] at h2
          rw [if_neg h2, e4] at kk
          rw [e2, hcm]
          refine kX8_go_73 (hg mm _ (c 4) 0 M' W' (by omega) hM' hV' hF hW' (by omega) (fun M2 o6 hM2 hV2 hF2 => ?_))
          have hWg : WOk c (sGates R W' a (mm : Int) 0 (c 4)) := WOk.gates (c 4) 0 hW'
          have hle := sLess_in hR hWg ha hmm3
          have hWw := WOk.wear hR hWg ha hmm3
          have hms := hR.2.1 mm hmm3
          generalize hW2 : sGates R W' a (mm : Int) 0 (c 4) = W2 at *
          have hs2 : (R 4 mm).toNat < c 2 := by omega
          have nS : aN S (A 2 (R 4 mm).toNat) = 3 := hS.nA 2 _ (by decide) (by decide) hs2
          have q0 : M2 (A 5 a) 0 = R 7 a := hV2.r 5 a 0 ha (by decide)
          have q1 : M2 (A 5 a) 1 = W2 9 a := hV2.w 5 a 1 ha (by decide)
          have q4 : M2 (A 3 mm) 0 = R 4 mm := hV2.r 3 mm 0 hmm3 (by decide)
          have qc : M2 (A 3 mm) 1 = W2 1 mm := hV2.w 3 mm 1 hmm3 (by decide)
          have qw : M2 (A 3 mm) 2 = W2 2 mm := hV2.w 3 mm 2 hmm3 (by decide)
          have q3 : M2 (A 2 (R 4 mm).toNat) 1 = R 3 (R 4 mm).toNat := hV2.r 2 _ 1 hs2 (by decide)
          have hw9 := hWg.2.2.2 a ha
          have hfin : ∀ x, x = sLess R W2 a mm → X E d fX8_go 164 [some (.ref s), some (J a), some (.ref (A 5 a)), some (J b), some (J (i : Int)), some (J (mm : Int)), some (J x)] [] S (mI M2) Q := by
            intro x hx
            refine kX8_go_164 hS.kd (hS.pT 3 (by decide) (by decide)) (hS.dT 3 (by decide) (by decide)) ⟨by omega, by omega⟩ ⟨by omega, by omega⟩ pM dM ⟨by omega, by omega⟩ aM ⟨by omega, by omega⟩ rfl ?_
            refine ih' _ (sWear R W2 a mm) _ _ hM2.z.z ?_ ((hF2.wA (by decide) (by decide) hmm3).wA (by decide) (by decide) hmm3) hWw kk
            have z := (hV2.put (j := 3) (k := mm) (q := 1) (x := nz (W2 1 mm - x)) hS hmm3 (by decide)).put (j := 3) (k := mm) (q := 2) (x := nz (W2 2 mm + x)) hS hmm3 (by decide)
            rw [mW_at (by decide), qc, qw]
            unfold sWear
            rw [← hx]
            exact z
          refine kX8_go_113 (b12 := A 3 mm) (b19 := A 2 (R 4 mm).toNat) dA ⟨by omega, by omega⟩ hS.kd (hS.pT 2 (by decide) (by decide)) (hS.pT 3 (by decide) (by decide)) (hS.dT 3 (by decide) (by decide)) ⟨by omega, by omega⟩ ⟨by omega, by omega⟩ pM dM ⟨by omega, by omega⟩ (hS.dT 2 (by decide) (by decide)) (hM2 _ _) (by rw [q4]; exact ⟨by omega, by omega⟩) (by rw [q4]; exact hS.pA 2 _ (by decide) (by decide) hs2) (hS.dA 2 _ (by decide) (by decide) hs2) ⟨by omega, by omega⟩ ⟨by omega, by omega⟩ (by rw [q0, q3]; exact hle.2.2.2) (hM2 _ _) (by rw [q1]; omega) ⟨by omega, by omega⟩ (by rw [q0, q3, q1]; exact ⟨by omega, by omega⟩) (hM2 _ _) (fun h3 => ?_) (fun h3 => ?_)
          · rw [q0, q3, q1, qc] at h3
            rw [q0, q3, q1]
            refine hfin _ ?_
            unfold sLess
            omega
          · rw [q0, q3, q1, qc] at h3
            refine kX8_go_153 hS.kd (hS.pT 3 (by decide) (by decide)) (hS.dT 3 (by decide) (by decide)) ⟨by omega, by omega⟩ ⟨by omega, by omega⟩ pM dM ⟨by omega, by omega⟩ ?_
            rw [qc]
            refine hfin _ ?_
            unfold sLess
            omega
        · rw [em] at h2
          rw [if_pos h2] at kk
          rw [e2, hcm]
          have e11 : M' (A 5 a) 6 = W' 11 a := hV'.w 5 a 6 ha (by decide)
          refine kX8_go_62 dA ⟨by omega, by omega⟩ aA (kk _ hM'.z ?_ (hF.wA (by decide) (by decide) ha))
          rw [e11]
          exact hV'.put (j := 5) (q := 6) hS ha (by decide)
  have hst : X E d fX8_go 21 [some (.ref s), some (J a), some (.ref (A 5 a)), none, none, none, none] [J b] S (mI M) Q := by
    refine kX8_go_21 (hl N 0 M W none none (by omega) hM hV SmF.refl hW ?_)
    rw [show R 9 a + ((0 : Nat) : Int) * b = R 9 a by omega]
    exact k
  refine kX8_go_0 hS.kd (hS.pT 5 (by decide) (by decide)) (hS.dT 5 (by decide) (by decide)) ⟨by omega, by omega⟩ ⟨by omega, by omega⟩ (hS.pA 5 a (by decide) (by decide) ha) dA ⟨by omega, by omega⟩ ⟨by omega, by omega⟩ (hM _ _) (hM _ _) (fun h => ?_) (fun h => ?_)
  · rw [f2 hV, f3 hV] at h
    rcases hb2 with ⟨g, rfl⟩ | ⟨g, rfl⟩
    · exact kX8_go_20 hst
    · exact absurd h (by omega)
  · rw [f2 hV, f3 hV] at h
    rcases hb2 with ⟨g, rfl⟩ | ⟨g, rfl⟩
    · exact absurd h (by omega)
    · exact kX8_go_16 hst
end C11
