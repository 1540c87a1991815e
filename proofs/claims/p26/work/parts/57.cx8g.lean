/-! contracts of the law's road: rents, mends, the whole day -/
section C14
variable {E : Nat → Value} {d : Nat} {S : aS} {M : Nat → Nat → Int} {Q : Option (Option Value) → aS → aI → Prop} {s : Nat} {T : Nat → Nat} {A : Nat → Nat → Nat} {c : Nat → Nat} {R W O : Nat → Nat → Int}
theorem mX8_rents (hS : SmS S s T A c) : ∀ m g M' W o4 o5 o6, g + m = c 4 → RM M' → SmV M' s A c R W O → SmF s A c M M' → WOk c W →
    (∀ M' o1 o2 o3 o4 o5 o6, RM M' → SmV M' s A c R (sRents g m W) O → SmF s A c M M' → WOk c (sRents g m W) → X E d fX8_pass 221 [some (.ref s), o1, o2, o3, o4, o5, o6] [] S (mI M') Q) →
    X E d fX8_pass 166 [some (.ref s), some (.ref (T 4)), some (J ((c 4 : Nat) : Int)), some (J ((g : Nat) : Int)), o4, o5, o6] [] S (mI M') Q := by
  have hc := hS.c
  have n4 := hS.nT 4 (by decide) (by decide)
  have d4 := hS.dT 4 (by decide) (by decide)
  intro m
  induction m with
  | zero =>
    intro g M' W o4 o5 o6 hg hM' hV hF hW kk
    exact kX8_pass_166 ⟨by omega, by omega⟩ ⟨by omega, by omega⟩ (fun _ => kk M' _ _ _ _ _ _ hM' hV hF hW) (fun h => absurd h (by omega))
  | succ m ih =>
    intro g M' W o4 o5 o6 hg hM' hV hF hW kk
    have hg4 : g < c 4 := by omega
    have nG : aN S (A 4 g) = 6 := hS.nA 4 g (by decide) (by decide) hg4
    have aG := hS.aA 4 g (by decide) (by decide) hg4
    have dG := hS.dA 4 g (by decide) (by decide) hg4
    have pG := hS.pA 4 g (by decide) (by decide) hg4
    have e4 : M' (A 4 g) 4 = W 7 g := hV.w 4 g 4 hg4 (by decide)
    have e3 : M' (A 4 g) 3 = W 6 g := hV.w 4 g 3 hg4 (by decide)
    have e5 : M' (A 4 g) 5 = W 8 g := hV.w 4 g 5 hg4 (by decide)
    have hne := hS.ne 4 g (by decide) (by decide) hg4
    have hrg := hW.2.1 g hg4
    unfold sRents at kk
    refine kX8_pass_166 ⟨by omega, by omega⟩ ⟨by omega, by omega⟩ (fun h => absurd h (by omega)) (fun _ => ?_)
    refine kX8_pass_171 d4 ⟨by omega, by omega⟩ ⟨by omega, by omega⟩ pG dG ⟨by omega, by omega⟩ (hM' _ _) (fun h => ?_) (fun h => ?_)
    · rw [e4] at h
      rw [if_neg (by omega)] at kk
      refine kX8_pass_186 hS.kd dG ⟨by omega, by omega⟩ hS.k ⟨by omega, by omega⟩ ⟨by omega, by omega⟩ aG rfl (kX8_pass_215 ?_)
      refine ih (g + 1) _ _ _ _ _ (by omega) hM'.z.z ?_ (hF.ws.wA (by decide) (by decide) hg4) ?_ kk
      · have z := (hV.putS 1 (by decide) (x := nz (W 0 3 + W 7 g)) hS).put (j := 4) (k := g) (q := 3) (x := nz (W 6 g + (W 8 g - W 7 g))) hS hg4 (by decide)
        rw [mW_ne hne, e3, e4, e5, hV.coins]
        exact z
      · exact (hW.w (by decide) (nz_R _)).w (by decide) (nz_R _)
    · rw [e4] at h
      rw [if_pos (by omega)] at kk
      exact kX8_pass_183 (kX8_pass_215 (ih (g + 1) M' W _ _ _ (by omega) hM' hV hF hW kk))
theorem mX8_mends (hS : SmS S s T A c) (hO : OrO c O) (hK : OrdK c R O) (hP : OrP c O) (hR : RSt c R) (hd : 2 ≤ d) : ∀ m i M' W o4 o5 o6, i + m = c 6 → RM M' → SmV M' s A c R W O → SmF s A c M M' → WOk c W →
    (∀ M' o1 o2 o3 o4 o5 o6, RM M' → SmV M' s A c R (sMends R i m W) O → SmF s A c M M' → WOk c (sMends R i m W) → X E d fX8_pass 290 [some (.ref s), o1, o2, o3, o4, o5, o6] [] S (mI M') Q) →
    X E d fX8_pass 231 [some (.ref s), some (.ref (T 6)), some (J ((c 6 : Nat) : Int)), some (J ((i : Nat) : Int)), o4, o5, o6] [] S (mI M') Q := by
  have hc := hS.c
  have n6 := hS.nT 6 (by decide) (by decide)
  have d6 := hS.dT 6 (by decide) (by decide)
  intro m
  induction m with
  | zero =>
    intro i M' W o4 o5 o6 hi hM' hV hF hW kk
    exact kX8_pass_231 ⟨by omega, by omega⟩ ⟨by omega, by omega⟩ (fun _ => kk M' _ _ _ _ _ _ hM' hV hF hW) (fun h => absurd h (by omega))
  | succ m ih =>
    intro i M' W o4 o5 o6 hi hM' hV hF hW kk
    have hk : i < c 6 := by omega
    have nA : aN S (A 6 i) = 10 := hS.nA 6 i (by decide) (by decide) hk
    have dA := hS.dA 6 i (by decide) (by decide) hk
    have e : ∀ q, M' (A 6 i) q = O i q := fun q => hV.o i q hk
    have hKi := hK i hk
    have hPi := hP i hk
    unfold sMends at kk
    have skip : ∀ o4, ¬ (O i 0 = 2 ∧ hHold R W (O i) = true) → X E d fX8_pass 284 [some (.ref s), some (.ref (T 6)), some (J ((c 6 : Nat) : Int)), some (J (i : Int)), o4, o5, o6] [] S (mI M') Q := by
      intro o4 hy
      rw [if_neg (c := R 13 i = 15 ∧ (¬ R 18 i < R 19 i ∨ sEv R W (R 18 i) (R 19 i) ≠ 0)) (fun z => by
        have z0 := hKi.2.2.1.mp z.1
        exact hy ⟨z0, ((hKi.2.2.2.2.2.2 W hW z0).1).mp z.2⟩)] at kk
      exact kX8_pass_284 (ih (i + 1) M' W _ _ _ (by omega) hM' hV hF hW kk)
    refine kX8_pass_231 ⟨by omega, by omega⟩ ⟨by omega, by omega⟩ (fun h => absurd h (by omega)) (fun _ => ?_)
    refine kX8_pass_236 d6 ⟨by omega, by omega⟩ ⟨by omega, by omega⟩ (hS.pA 6 i (by decide) (by decide) hk) dA ⟨by omega, by omega⟩ (hM' _ _) (fun h0 => skip _ (fun z => h0 ((e 0).trans z.1))) (fun h0 => ?_)
    rw [e] at h0
    refine kX8_pass_249 (by omega) (mX8_holds hS hV hM' hW.1 hO hk (by omega) ⟨_, rfl, ?_⟩) hS.kd
    by_cases hh : hHold R W (O i) = true
    · rw [if_pos hh]
      have hk2 := hKi.2.2.2.2.2.2 W hW h0
      have hw := hPi.2.2 h0
      rw [if_pos (c := R 13 i = 15 ∧ (¬ R 18 i < R 19 i ∨ sEv R W (R 18 i) (R 19 i) ≠ 0)) ⟨hKi.2.2.1.mpr h0, hk2.1.mpr hh⟩, hk2.2, hKi.2.2.2.1] at kk
      refine kX8_pass_255 (t0 := 1) ⟨by decide, by decide⟩ (fun h => absurd h (by decide)) (fun _ => ?_)
      refine kX8_pass_258 dA ⟨by omega, by omega⟩ hS.kd (by omega) (mX8_sum hS hV hM' hW.1 hO hk (by omega) ⟨_, rfl, ?_⟩)
      rw [← J_nz (hSum R W (O i)), e, hV.coins]
      have hr := nz_R (hSum R W (O i))
      have hr3 := hW.1 0 3
      refine kX8_pass_274 (t0 := nz (hSum R W (O i))) (t1 := 0) (t2 := W 0 3) (t3 := O i 1) R32_0 hr hr3 ⟨by omega, by omega⟩ (by omega) ?_ hS.kd
      have hst : (O i 1).toNat < c 2 := by omega
      have hO1 : O i 1 = (((O i 1).toNat : Nat) : Int) := by omega
      rw [hO1]
      refine mX8_mend hS hV hM' hW hR hst ⟨by omega, by omega⟩ (by omega) (fun M2 hM2 hV2 hF2 => ⟨_, rfl, kX8_pass_283 (t0 := _) (kX8_pass_284 ?_)⟩)
      rw [sMend_nat (y := min (nz (hSum R W (O i))) (W 0 3)) (by omega)] at hV2
      exact ih (i + 1) M2 _ _ _ _ (by omega) hM2 hV2 (hF.trans hF2) (WOk.mend hW hR hst) kk
    · rw [if_neg hh]
      exact kX8_pass_255 (t0 := 0) R32_0 (fun _ => skip _ (fun z => hh z.2)) (fun h => absurd rfl h)
theorem WOk.cap (h : WOk c W) : WOk c (sCap W) := by
  unfold sCap
  split
  · exact h.w (by decide) ⟨by decide, by decide⟩
  · exact h
theorem mX8_pass (hS : SmS S s T A c) (hV : SmV M s A c R W O) (hM : RM M) (hW : WOk c W) (hO : OrO c O) (hK : OrdK c R O) (hP : OrP c O) (hR : RPk c R) (hR2 : RSt c R) (hlg : W 0 16 = -1) (hd : 4 ≤ d)
    (k : ∀ M', RM M' → SmV M' s A c R (sDay R W) O → WOk c (sDay R W) → SmF s A c M M' → Q (some none) S (mI M')) :
    X E d fX8_pass 0 [some (.ref s), none, none, none, none, none, none] [] S (mI M) Q := by
  have hn := hV.n
  have n4 := hS.nT 4 (by decide) (by decide)
  have n6 := hS.nT 6 (by decide) (by decide)
  have e2 : (R 0 2).toNat = c 4 := by omega
  have e3 : (R 0 3).toNat = c 5 := by omega
  have e12 : (R 12 0).toNat = c 6 := by omega
  unfold sDay at k
  rw [hlg, e2, e3, e12] at k
  refine kX8_pass_0 (mX8_farm (lr := W 0 17) hS hO hK hP (by omega) (c 4) 0 M W _ _ _ _ _ (by omega) hM hV SmF.refl hW (fun M1 o1 o2 o3 o4 o5 o6 hM1 hV1 hF1 hW1 => ?_))
  refine kX8_pass_117 (mX8_traf hS hO hK hR hd (c 5) 0 M1 _ _ _ _ _ _ (by omega) hM1 hV1 hF1 hW1 (fun M2 o1 o2 o3 o4 o5 o6 hM2 hV2 hF2 hW2 => ?_))
  refine kX8_pass_156 hS.kd (hS.pT 4 (by decide) (by decide)) (Or.inr (Or.inr (hS.dT 4 (by decide) (by decide)))) ?_
  rw [n4]
  refine mX8_rents hS (c 4) 0 M2 _ _ _ _ (by omega) hM2 hV2 hF2 hW2 (fun M3 o1 o2 o3 o4 o5 o6 hM3 hV3 hF3 hW3 => ?_)
  refine kX8_pass_221 hS.kd (hS.pT 6 (by decide) (by decide)) (Or.inr (Or.inr (hS.dT 6 (by decide) (by decide)))) ?_
  rw [n6]
  refine mX8_mends hS hO hK hP hR2 (by omega) (c 6) 0 M3 _ _ _ _ (by omega) hM3 hV3 hF3 hW3 (fun M4 o1 o2 o3 o4 o5 o6 hM4 hV4 hF4 hW4 => ?_)
  dsimp only at k
  generalize hW4e : sMends R 0 (c 6) (sRents 0 (c 4) (sTraf R 0 (c 5) (sFarm R (-1) (W 0 17) 0 (c 4) W))) = W4 at *
  have hV5 := hV4.putS 0 (by decide) (x := nz (W4 0 2 + 1)) hS
  have hW5 : WOk c (mW W4 0 2 (nz (W4 0 2 + 1))) := hW4.w (by decide) (nz_R _)
  have hcap := WOk.cap hW5
  have ec : mW M4 s 0 (nz (W4 0 2 + 1)) s 1 = mW W4 0 2 (nz (W4 0 2 + 1)) 0 3 := hV5.coins
  have hx := kX8_pass_290 (E := E) (d := d) (Q := Q) (o1 := o1) (o2 := o2) (o3 := o3) (o4 := o4) (o5 := o5) (o6 := o6) hS.kd hS.k (hM4.z (a := s) (k := 0) (x := M4 s 0 + 1) s 1)
  rw [hV4.day, ec] at hx
  refine hx (fun h => ?_) (fun h => ?_)
  · unfold sCap at k hcap
    rw [if_neg (by omega)] at k hcap
    exact kX8_pass_315 (k _ hM4.z hV5 hcap hF4.ws)
  · unfold sCap at k hcap
    rw [if_pos h] at k hcap
    exact kX8_pass_309 hS.k (kX8_pass_315 (k _ (hM4.z.w ⟨by decide, by decide⟩) (hV5.putS 1 (by decide) (x := 99999) hS) hcap hF4.ws.ws))
end C14
