/-! contracts of the law's road: a day -/
section C13
variable {E : Nat → Value} {d : Nat} {S : aS} {M : Nat → Nat → Int} {Q : Option (Option Value) → aS → aI → Prop} {s : Nat} {T : Nat → Nat} {A : Nat → Nat → Nat} {c : Nat → Nat} {R W O : Nat → Nat → Int}
abbrev OrP (c : Nat → Nat) (O : Nat → Nat → Int) : Prop := ∀ i, i < c 6 → 0 ≤ O i 2 ∧ O i 2 ≤ 999 ∧ (O i 0 = 2 → 0 ≤ O i 1 ∧ O i 1 < (c 2 : Int))
theorem sMend_nat {st : Nat} {x y : Int} (h : x.toNat = y.toNat) : sMend R W st x = sMend R W st y := by
  unfold sMend
  rw [h]
theorem sRent_ge (hK : OrdK c R O) (hP : OrP c O) {g : Nat} : ∀ n i, i + n ≤ c 6 → -1 ≤ sRent R W g i n ∧ sRent R W g i n ≤ 999
  | 0, _, _ => by
    unfold sRent
    exact ⟨by decide, by decide⟩
  | n + 1, i, h => by
    have hKi := hK i (by omega)
    have hPi := hP i (by omega)
    unfold sRent
    split
    · rename_i hc
      rw [hKi.2.2.2.2.1 (by have := hKi.2.1.mp hc.1; omega)]
      omega
    · exact sRent_ge hK hP n (i + 1) (by omega)
theorem WOk.rent (h : WOk c W) {g : Nat} {x : Int} (hx : -1 ≤ x ∧ x ≤ 999) : WOk c (mW W 7 g x) := by
  refine ⟨R32.w h.1 ⟨by omega, by omega⟩, ?_, ?_, ?_⟩
  · intro k hk
    rw [mW_get]
    split
    · exact hx.1
    · exact h.2.1 k hk
  · rw [mW_ne (by decide)]; exact h.2.2.1
  · rw [mW_ne (by decide)]; exact h.2.2.2
theorem WOk.spend (hR : RSt c R) {st : Nat} (hst : st < c 2) : ∀ (n : Nat) {W : Nat → Nat → Int}, WOk c W → WOk c (sSpend R st n W).2
  | 0, _, h => h
  | n + 1, W, h => by
    have hrs := hR st hst
    have hwi := sWst_in (f := W 1) (a := (R 2 st).toNat) (R 1 st).toNat
    unfold sSpend
    dsimp only
    split
    · exact h
    · rename_i hlt
      have hcw := h.2.2.1 (sWst (W 1) (R 2 st).toNat (R 1 st).toNat) (by omega)
      refine WOk.spend hR hst n (h.cond ?_)
      rw [nz_eq ⟨by omega, by omega⟩]
      omega
theorem WOk.mend (h : WOk c W) (hR : RSt c R) {st : Nat} (hst : st < c 2) {x : Int} : WOk c (sMend R W st x).2 := by
  unfold sMend
  dsimp only
  exact ((WOk.spend hR hst _ h).w (by decide) (nz_R _)).w (by decide) (nz_R _)
theorem WOk.trav (hR : RPk c R) {a : Nat} {b : Int} (ha : a < c 5) : ∀ (n : Nat) (m : Int) {W : Nat → Nat → Int}, (∀ i : Nat, i < n → 0 ≤ m + i * b ∧ m + i * b < (c 3 : Int)) → WOk c W → WOk c (sTrav R a b n m W).2
  | 0, _, _, _, h => h.w (by decide) (nz_R _)
  | n + 1, m, W, hm, h => by
    have h0 := hm 0 (by omega)
    unfold sTrav
    split
    · exact h.w (by decide) (nz_R _)
    · refine WOk.trav hR ha n (m + b) (fun i hi => ?_) (WOk.wear hR (WOk.gates _ _ h) ha (by omega))
      have h1 := hm (i + 1) (by omega)
      rw [show m + b + (i : Int) * b = m + ((i + 1 : Nat) : Int) * b by rw [Int.natCast_add, Int.add_mul]; omega]
      exact h1
theorem WOk.go (hR : RPk c R) (h : WOk c W) {a : Nat} (ha : a < c 5) : WOk c (sGo R W a).2 := by
  have hra := hR.1 a ha
  unfold sGo
  have hb2 : (R 9 a ≤ R 10 a ∧ sBy R a = 1) ∨ (R 10 a < R 9 a ∧ sBy R a = -1) := by
    unfold sBy
    by_cases h : R 9 a ≤ R 10 a
    · rw [if_pos h]; exact Or.inl ⟨h, rfl⟩
    · rw [if_neg h]; exact Or.inr ⟨by omega, rfl⟩
  refine WOk.trav hR ha _ _ (fun i hi => ?_) h
  rcases hb2 with ⟨g, e⟩ | ⟨g, e⟩ <;> rw [e] at hi ⊢ <;> omega
/-- gates farmed out -/
theorem mX8_farm (hS : SmS S s T A c) (hO : OrO c O) (hK : OrdK c R O) (hP : OrP c O) (hd : 2 ≤ d) {lr : Int} : ∀ m g M' W o2 o3 o4 o5 o6, g + m = c 4 → RM M' → SmV M' s A c R W O → SmF s A c M M' → WOk c W →
    (∀ M' o1 o2 o3 o4 o5 o6, RM M' → SmV M' s A c R (sFarm R (-1) lr g m W) O → SmF s A c M M' → WOk c (sFarm R (-1) lr g m W) → X E d fX8_pass 117 [some (.ref s), o1, o2, o3, o4, o5, o6] [] S (mI M') Q) →
    X E d fX8_pass 2 [some (.ref s), some (J ((g : Nat) : Int)), o2, o3, o4, o5, o6] [] S (mI M') Q := by
  have hc := hS.c
  have n4 := hS.nT 4 (by decide) (by decide)
  have n6 := hS.nT 6 (by decide) (by decide)
  have p4 := hS.pT 4 (by decide) (by decide)
  have d4 := hS.dT 4 (by decide) (by decide)
  have p6 := hS.pT 6 (by decide) (by decide)
  have d6 := hS.dT 6 (by decide) (by decide)
  intro m
  induction m with
  | zero =>
    intro g M' W o2 o3 o4 o5 o6 hg hM' hV hF hW kk
    exact kX8_pass_2 hS.kd p4 (Or.inr (Or.inr d4)) ⟨by omega, by omega⟩ ⟨by omega, by omega⟩ (fun _ => kk M' _ _ _ _ _ _ hM' hV hF hW) (fun h => absurd h (by omega))
  | succ m ih =>
    intro g M' W o2 o3 o4 o5 o6 hg hM' hV hF hW kk
    have hg4 : g < c 4 := by omega
    have hn := hV.n
    have e6 : (R 12 0).toNat = c 6 := by omega
    have nG : aN S (A 4 g) = 6 := hS.nA 4 g (by decide) (by decide) hg4
    have aG := hS.aA 4 g (by decide) (by decide) hg4
    have pG := hS.pA 4 g (by decide) (by decide) hg4
    unfold sFarm at kk
    rw [if_neg (c := (g : Int) = -1) (by omega), e6] at kk
    refine kX8_pass_2 hS.kd p4 (Or.inr (Or.inr d4)) ⟨by omega, by omega⟩ ⟨by omega, by omega⟩ (fun h => absurd h (by omega)) (fun _ => ?_)
    refine kX8_pass_11 hS.kd p6 (Or.inr (Or.inr d6)) ?_
    rw [n6]
    have hrg := sRent_ge (W := W) hK hP (g := g) (c 6) 0 (by omega)
    -- the rent is laid down
    have hend : ∀ o3 o4 o5 o6, X E d fX8_pass 78 [some (.ref s), some (J (g : Int)), some (J (sRent R W g 0 (c 6))), o3, o4, o5, o6] [] S (mI M') Q := by
      intro o3 o4 o5 o6
      have f7 : M' s 7 = -1 := hV.fo
      refine kX8_pass_78 hS.kd p4 d4 ⟨by omega, by omega⟩ ⟨by omega, by omega⟩ pG (hM' _ _) (fun _ => ?_) (fun h => absurd h (by omega))
      refine kX8_pass_100 (kX8_pass_101 aG ⟨by decide, by decide⟩ ⟨by decide, by omega⟩ hS.kd p4 d4 ⟨by omega, by omega⟩ ⟨by omega, by omega⟩ pG aG ⟨by omega, by omega⟩ ?_)
      refine ih (g + 1) _ _ _ _ _ _ _ (by omega) ((hM'.w ⟨by omega, by omega⟩).w R32_0) ((hV.put (j := 4) (q := 4) hS hg4 (by decide)).put (j := 4) (q := 5) hS hg4 (by decide)) ((hF.wA (by decide) (by decide) hg4).wA (by decide) (by decide) hg4) ((hW.rent hrg).w (by decide) R32_0) kk
    -- the orders, one behind the other
    obtain ⟨res, hres⟩ : ∃ res, res = sRent R W g 0 (c 6) := ⟨_, rfl⟩
    rw [← hres] at hrg hend
    have hl : ∀ n i o6 x, i + n = c 6 → (x = -1 ∧ sRent R W g i n = res ∨ 0 ≤ x ∧ x ≤ 999 ∧ x = res) →
        X E d fX8_pass 25 [some (.ref s), some (J (g : Int)), some (J x), some (.ref (T 6)), some (J ((c 6 : Nat) : Int)), some (J (i : Int)), o6] [] S (mI M') Q := by
      intro n
      induction n with
      | zero =>
        intro i o6 x hi hx
        refine kX8_pass_25 ⟨by omega, by omega⟩ ⟨by omega, by omega⟩ (fun _ => ?_) (fun h => absurd h (by omega))
        have hx2 : x = res := by
          rcases hx with ⟨h1, h2⟩ | h1
          · rw [h1, ← h2]; rfl
          · exact h1.2.2
        rw [hx2]
        exact hend _ _ _ _
      | succ n ihn =>
        intro i o6 x hi hx
        have hk : i < c 6 := by omega
        have nA : aN S (A 6 i) = 10 := hS.nA 6 i (by decide) (by decide) hk
        have dA := hS.dA 6 i (by decide) (by decide) hk
        have e : ∀ q, M' (A 6 i) q = O i q := fun q => hV.o i q hk
        have hKi := hK i hk
        have hPi := hP i hk
        refine kX8_pass_25 ⟨by omega, by omega⟩ ⟨by omega, by omega⟩ (fun h => absurd h (by omega)) (fun _ => ?_)
        refine kX8_pass_32 d6 ⟨by omega, by omega⟩ ⟨by omega, by omega⟩ (hS.pA 6 i (by decide) (by decide) hk) ⟨by omega, by omega⟩ (fun h => ?_) (fun h => ?_)
        · rcases hx with hx | hx
          · exact absurd h (by omega)
          · exact kX8_pass_72 (ihn (i + 1) _ x (by omega) (Or.inr hx))
        · rcases hx with hx | hx
          · obtain ⟨rfl, hx⟩ := hx
            unfold sRent at hx
            have skip : ¬ (O i 0 = 1 ∧ O i 1 = (g : Int) ∧ hHold R W (O i) = true) → X E d fX8_pass 72 [some (.ref s), some (J (g : Int)), some (J (-1)), some (.ref (T 6)), some (J ((c 6 : Nat) : Int)), some (J (i : Int)), some (.ref (A 6 i))] [] S (mI M') Q := by
              intro hy
              rw [if_neg (c := R 13 i = 13 ∧ R 15 i = (g : Int) ∧ sEv R W (R 18 i) (R 19 i) ≠ 0) (fun z => by
                have z0 := hKi.2.1.mp z.1
                exact hy ⟨z0, hKi.2.2.2.1 ▸ z.2.1, (hKi.2.2.2.2.2.1 W hW (by omega)).mp z.2.2⟩)] at hx
              exact kX8_pass_72 (ihn (i + 1) _ (-1) (by omega) (Or.inl ⟨rfl, hx⟩))
            refine kX8_pass_42 dA ⟨by omega, by omega⟩ (hM' _ _) (fun h0 => skip (fun z => h0 ((e 0).trans z.1))) (fun h0 => ?_)
            refine kX8_pass_50 dA ⟨by omega, by omega⟩ (hM' _ _) ⟨by omega, by omega⟩ (fun h1 => skip (fun z => h1 ((e 1).trans z.2.1))) (fun h1 => ?_)
            rw [e] at h0 h1
            refine kX8_pass_58 (by omega) (mX8_holds hS hV hM' hW.1 hO hk (by omega) ⟨_, rfl, ?_⟩) hS.kd
            by_cases hh : hHold R W (O i) = true
            · rw [if_pos hh]
              refine kX8_pass_64 (t0 := 1) ⟨by decide, by decide⟩ (fun h => absurd h (by decide)) (fun _ => kX8_pass_67 dA ⟨by omega, by omega⟩ ?_)
              rw [if_pos (c := R 13 i = 13 ∧ R 15 i = (g : Int) ∧ sEv R W (R 18 i) (R 19 i) ≠ 0) ⟨hKi.2.1.mpr h0, hKi.2.2.2.1.trans h1, (hKi.2.2.2.2.2.1 W hW (by omega)).mpr hh⟩, hKi.2.2.2.2.1 (by omega)] at hx
              rw [e]
              exact kX8_pass_72 (ihn (i + 1) _ _ (by omega) (Or.inr ⟨hPi.1, hPi.2.1, hx⟩))
            · rw [if_neg hh]
              exact kX8_pass_64 (t0 := 0) R32_0 (fun _ => skip (fun z => hh z.2.2)) (fun h => absurd rfl h)
          · exact absurd h (by omega)
    exact hl (c 6) 0 _ (-1) (by omega) (Or.inl ⟨rfl, hres.symm⟩)
/-- a day's traffics -/
theorem mX8_traf (hS : SmS S s T A c) (hO : OrO c O) (hK : OrdK c R O) (hR : RPk c R) (hd : 4 ≤ d) : ∀ m a M' W o2 o3 o4 o5 o6, a + m = c 5 → RM M' → SmV M' s A c R W O → SmF s A c M M' → WOk c W →
    (∀ M' o1 o2 o3 o4 o5 o6, RM M' → SmV M' s A c R (sTraf R a m W) O → SmF s A c M M' → WOk c (sTraf R a m W) → X E d fX8_pass 156 [some (.ref s), o1, o2, o3, o4, o5, o6] [] S (mI M') Q) →
    X E d fX8_pass 119 [some (.ref s), some (J ((a : Nat) : Int)), o2, o3, o4, o5, o6] [] S (mI M') Q := by
  have hc := hS.c
  have n5 := hS.nT 5 (by decide) (by decide)
  have p5 := hS.pT 5 (by decide) (by decide)
  have d5 := hS.dT 5 (by decide) (by decide)
  intro m
  induction m with
  | zero =>
    intro a M' W o2 o3 o4 o5 o6 ha hM' hV hF hW kk
    exact kX8_pass_119 hS.kd p5 (Or.inr (Or.inr d5)) ⟨by omega, by omega⟩ ⟨by omega, by omega⟩ (fun _ => kk M' _ _ _ _ _ _ hM' hV hF hW) (fun h => absurd h (by omega))
  | succ m ih =>
    intro a M' W o2 o3 o4 o5 o6 ha hM' hV hF hW kk
    have ha5 : a < c 5 := by omega
    have hra := hR.1 a ha5
    have nA : aN S (A 5 a) = 8 := hS.nA 5 a (by decide) (by decide) ha5
    have e4 : M' (A 5 a) 4 = R 11 a := hV.r 5 a 4 ha5 (by decide)
    have ed : M' s 0 = W 0 2 := hV.day
    unfold sTraf at kk
    have hmo : R32 ((M' s 0).tmod (R 11 a)) := by
      have z1 := Int.tmod_lt_of_pos (M' s 0) (b := R 11 a) (by omega)
      have z2 := Int.lt_tmod_of_pos (M' s 0) (b := R 11 a) (by omega)
      exact ⟨by omega, by omega⟩
    refine kX8_pass_119 hS.kd p5 (Or.inr (Or.inr d5)) ⟨by omega, by omega⟩ ⟨by omega, by omega⟩ (fun h => absurd h (by omega)) (fun _ => ?_)
    refine kX8_pass_128 hS.kd p5 d5 ⟨by omega, by omega⟩ ⟨by omega, by omega⟩ (hS.pA 5 a (by decide) (by decide) ha5) (hS.dA 5 a (by decide) (by decide) ha5) ⟨by omega, by omega⟩ (hM' _ _) (hM' _ _) (by rw [e4]; omega) (by rw [e4]; exact hmo) (fun h => ?_) (fun h => ?_)
    · rw [e4, ed] at h
      rw [if_neg h] at kk
      exact kX8_pass_150 (ih (a + 1) M' W _ _ _ _ _ (by omega) hM' hV hF hW kk)
    · rw [e4, ed] at h
      rw [if_pos h] at kk
      exact kX8_pass_144 (by omega) (mX8_go hS hV hM' hW hO hK hR ha5 (by omega) (fun M2 hM2 hV2 hF2 => ⟨_, rfl, kX8_pass_149 (t0 := _) (kX8_pass_150 (ih (a + 1) M2 _ _ _ _ _ _ (by omega) hM2 hV2 (hF.trans hF2) (WOk.go hR hW ha5) kk))⟩)) hS.kd
end C13
