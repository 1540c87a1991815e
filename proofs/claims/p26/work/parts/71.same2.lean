/-! is the class's object as the law's road: stretches, gates -/
section C28
variable {E : Nat → Value} {d : Nat} {S : aS} {M : Nat → Nat → Int} {Q : Option (Option Value) → aS → aI → Prop} {s : Nat} {T : Nat → Nat} {A : Nat → Nat → Nat} {c : Nat → Nat} {R W O : Nat → Nat → Int} {cl t t2 rk rd rd0 : Nat}
theorem hBrk_sBrk (hR : RSt c R) {st : Nat} (hst : st < c 2) : hBrk R W (st : Int) (c 3) = sBrk (W 1) (R 2 st).toNat (R 1 st).toNat := by
  have h := hR st hst
  have hl : ∀ p, p ≤ c 3 → hBrk R W (st : Int) p = sBrk (W 1) (R 2 st).toNat (min (p - (R 2 st).toNat) (R 1 st).toNat) := by
    intro p
    induction p with
    | zero =>
      intro _
      rw [show min (0 - (R 2 st).toNat) (R 1 st).toNat = 0 by omega]
      rfl
    | succ p ih =>
      intro hp
      have i1 := ih (by omega)
      have h4 := h.2.2.2 p (by omega)
      unfold hBrk
      by_cases hin : R 2 st ≤ (p : Int) ∧ (p : Int) < R 2 st + R 1 st
      · rw [i1, show min (p + 1 - (R 2 st).toNat) (R 1 st).toNat = min (p - (R 2 st).toNat) (R 1 st).toNat + 1 by omega]
        rw [show sBrk (W 1) (R 2 st).toNat (min (p - (R 2 st).toNat) (R 1 st).toNat + 1) = if W 1 ((R 2 st).toNat + min (p - (R 2 st).toNat) (R 1 st).toNat) = 0 then sBrk (W 1) (R 2 st).toNat (min (p - (R 2 st).toNat) (R 1 st).toNat) + 1 else sBrk (W 1) (R 2 st).toNat (min (p - (R 2 st).toNat) (R 1 st).toNat) from rfl,
          show (R 2 st).toNat + min (p - (R 2 st).toNat) (R 1 st).toNat = p by omega]
        by_cases h0 : W 1 p = 0
        · rw [if_pos ⟨Or.inr (h4.mpr hin), h0⟩, if_pos h0]
        · rw [if_neg (fun z => h0 z.2), if_neg h0]
      · rw [if_neg (fun z => z.1.elim (fun y => absurd y (by omega)) (fun y => hin (h4.mp y))), i1]
        rw [show min (p + 1 - (R 2 st).toNat) (R 1 st).toNat = min (p - (R 2 st).toNat) (R 1 st).toNat by omega]
  rw [hl (c 3) (Nat.le_refl _), show min (c 3 - (R 2 st).toNat) (R 1 st).toNat = (R 1 st).toNat by omega]
theorem mX8_same4 (h : BoH S M s T A c cl t t2 rk rd rd0 R W O) (hK : RdK c R O) (hPre : ∀ st, st < c 2 → R 2 st = sSum (R 1) st) (hd : 5 ≤ d) {o2 o3 o4 o5 o6 o7 o8 o9 : Option Value}
    (kk : ∀ S' M' o2 o4 o5 o6 o7 o8 o9, aX S' ≤ aX S + c 2 → aZ S' ≤ aZ S + 6 * c 2 → BoH S' M' s T A c cl t t2 rk rd rd0 R W O → X E d fX8_isSame 344 [some (.ref s), some (.ref cl), o2, o3, o4, o5, o6, o7, o8, o9] [] S' (mI M') Q) :
    X E d fX8_isSame 209 [some (.ref s), some (.ref cl), o2, o3, o4, o5, o6, o7, o8, o9] [] S (mI M) Q := by
  have hcc := h.sm.sm.c
  refine kX8_isSame_209 ?_
  have hl : ∀ (n i : Nat) S1 M o6 o7 o8 o9, i + n = c 2 → aX S1 + n ≤ aX S + c 2 → aZ S1 + 6 * n ≤ aZ S + 6 * c 2 → BoH S1 M s T A c cl t t2 rk rd rd0 R W O →
      X E d fX8_isSame 215 [some (.ref s), some (.ref cl), o2, o3, some (J (sSum (R 1) i)), some (J (i : Int)), o6, o7, o8, o9] [] S1 (mI M) Q := by
    intro n
    induction n with
    | zero =>
      intro i S1 M o6 o7 o8 o9 hi hgx hgz hB
      have n2 := hB.sm.sm.nT 2 (by decide) (by decide)
      exact kX8_isSame_215 hB.sm.sm.kd (hB.sm.sm.pT 2 (by decide) (by decide)) (Or.inr (Or.inr (hB.sm.sm.dT 2 (by decide) (by decide)))) ⟨by omega, by omega⟩ ⟨by omega, by omega⟩ (fun _ => kk _ _ _ _ _ _ _ _ _ (by omega) (by omega) hB) (fun h => absurd h (by omega))
    | succ n ih =>
      intro i S1 M o6 o7 o8 o9 hi hgx hgz hB
      have hm : i < c 2 := by omega
      have n2 := hB.sm.sm.nT 2 (by decide) (by decide)
      refine kX8_isSame_215 hB.sm.sm.kd (hB.sm.sm.pT 2 (by decide) (by decide)) (Or.inr (Or.inr (hB.sm.sm.dT 2 (by decide) (by decide)))) ⟨by omega, by omega⟩ ⟨by omega, by omega⟩ (fun h => absurd h (by omega)) (fun _ => ?_)
      have hx := aExt.new S1 100 6 6
      have hS1 := hB.sm.sm.ext (hB.sm.L (Nat.le_of_lt hB.lt)) hx
      have nA := hS1.nA 2 i (by decide) (by decide) hm
      have w3 : wd 2 = 3 := rfl
      have hA : A 2 i ≠ aX S1 := by have := hB.sm.l.2.2 2 i (by decide) (by decide) hm; have := hB.lt; omega
      have hAlt : A 2 i < aX S1 := by have := hB.sm.l.2.2 2 i (by decide) (by decide) hm; have := hB.lt; omega
      have rK : aK (aNew S1 100 6 6) (aX S1) = 100 := aNew_K
      have rD : aKd (aNew S1 100 6 6) (aX S1) = 100 := nKd (by decide)
      have rN : aN (aNew S1 100 6 6) (aX S1) = 6 := aNew_N
      have hM := hB.cc.m
      have v0 : M (A 2 i) 0 = R 1 i := hB.sm.v.r 2 i 0 hm (by decide)
      have v1 : M (A 2 i) 1 = R 3 i := hB.sm.v.r 2 i 1 hm (by decide)
      have v2 : M (A 2 i) 2 = W 3 i := hB.sm.v.w 2 i 2 hm (by decide)
      have hfst : R32 (sSum (R 1) i) := by rw [← hPre i hm]; exact hB.cc.rR _ _
      obtain ⟨M13, e13⟩ : ∃ x, mW (aU M (aX S1) (fun _ => 0)) (aX S1) 0 ((aU M (aX S1) (fun _ => 0)) (A 2 i) 0) = x := ⟨_, rfl⟩
      obtain ⟨M25, e25⟩ : ∃ x, mW (mW M13 (aX S1) 1 (M13 (A 2 i) 1)) (aX S1) 2 (sSum (R 1) i) = x := ⟨_, rfl⟩
      have hR13 : RM M13 := by rw [← e13]; exact hM.nw.w (hM.nw _ _)
      have hR25 : RM M25 := by rw [← e25]; exact (hR13.w (hR13 _ _)).w hfst
      have hf25 : ∀ b, b < aX S1 → M25 b = M b := fun b hb => by
        have hne : b ≠ aX S1 := by omega
        rw [← e25, mW_ne hne, mW_ne hne, ← e13, mW_ne hne, aU_ne _ _ hne]
      have hv25 : ∀ q, M25 (aX S1) q = if q = 2 then sSum (R 1) i else if q = 1 then R 3 i else if q = 0 then R 1 i else 0 := fun q => by
        rw [← e25, mW_row, mW_row, ← e13, mW_row, mW_ne hA, aU_self, aU_ne _ _ hA, v0, v1]
      refine kX8_isSame_225 hS1.kd (hS1.pT 2 (by decide) (by decide)) (hS1.dT 2 (by decide) (by decide)) ⟨by omega, by omega⟩ ⟨by omega, by rw [hS1.nT 2 (by decide) (by decide)]; omega⟩ (hS1.pA 2 i (by decide) (by decide) hm) (hS1.dA 2 i (by decide) (by decide) hm) ⟨by decide, by rw [nA, w3]; decide⟩ rK ⟨by decide, by rw [rN]; decide⟩ e13 ⟨by decide, by rw [nA, w3]; decide⟩ ⟨by decide, by rw [rN]; decide⟩ ⟨by decide, by rw [rN]; decide⟩ (by omega) ?_
      rw [e25]
      refine mX8_least hS1 (hB.ext hx hR25 hf25).sm.v hR25 ⟨by omega, by omega⟩ ⟨_, rfl, ?_⟩
      rw [← J_nz (hLst R W (i : Int) (c 3))]
      refine kX8_isSame_266 (t0 := nz (hLst R W (i : Int) (c 3))) (t1 := 3) (u2 := aX S1) (u3 := aX S1) rK ⟨by decide, by decide⟩ ⟨by decide, by rw [rN]; decide⟩ (by omega) ?_ hS1.kd
      rw [show (3 : Int).toNat = 3 from rfl]
      have hR66 : RM (mW M25 (aX S1) 3 (nz (hLst R W (i : Int) (c 3)))) := hR25.z
      have hf66 : ∀ b, b < aX S1 → mW M25 (aX S1) 3 (nz (hLst R W (i : Int) (c 3))) b = M b := fun b hb => (mW_ne (by omega)).trans (hf25 b hb)
      have hv66 : ∀ q, mW M25 (aX S1) 3 (nz (hLst R W (i : Int) (c 3))) (aX S1) q = if q = 3 then nz (hLst R W (i : Int) (c 3)) else M25 (aX S1) q := fun q => mW_row
      generalize mW M25 (aX S1) 3 (nz (hLst R W (i : Int) (c 3))) = M66 at *
      refine mX8_broken hS1 (hB.ext hx hR66 hf66).sm.v hR66 ⟨by omega, by omega⟩ ⟨_, rfl, ?_⟩
      rw [← J_nz (hBrk R W (i : Int) (c 3))]
      refine kX8_isSame_275 (t0 := nz (hBrk R W (i : Int) (c 3))) (t1 := 4) (u2 := aX S1) (u3 := aX S1) rK ⟨by decide, by decide⟩ ⟨by decide, by rw [rN]; decide⟩ hS1.kd (hS1.pT 2 (by decide) (by decide)) (hS1.dT 2 (by decide) (by decide)) ⟨by omega, by omega⟩ ⟨by omega, by rw [hS1.nT 2 (by decide) (by decide)]; omega⟩ (hS1.pA 2 i (by decide) (by decide) hm) (hS1.dA 2 i (by decide) (by decide) hm) ⟨by decide, by rw [nA, w3]; decide⟩ rK ⟨by decide, by rw [rN]; decide⟩ ?_
      rw [show (4 : Int).toNat = 4 from rfl, mW_ne hA, hf66 _ hAlt, v2]
      obtain ⟨M75, e75⟩ : ∃ x, mW (mW M66 (aX S1) 4 (nz (hBrk R W (i : Int) (c 3)))) (aX S1) 5 (W 3 i) = x := ⟨_, rfl⟩
      rw [e75]
      have hR75 : RM M75 := by rw [← e75]; exact hR66.z.w (hB.cc.wR _ _)
      have hf75 : ∀ b, b < aX S1 → M75 b = M b := fun b hb => by
        have hne : b ≠ aX S1 := by omega
        rw [← e75, mW_ne hne, mW_ne hne]
        exact hf66 b hb
      have hB1 := hB.ext hx hR75 hf75
      have hst := hK.2.2.2.2 i hm
      have hns := hB.sm.v.n
      have hv : ∀ q : Nat, q < 6 → M75 (aX S1) q = nz (cStr R W i (q : Int)) := by
        intro q hq
        rw [← e75, mW_row, mW_row, hv66, hv25]
        have y1 : vAt 5 (R 1) (i : Int) = R 1 i := vAt_in ⟨by omega, by omega⟩
        have y2 : vAt 5 (R 2) (i : Int) = R 2 i := vAt_in ⟨by omega, by omega⟩
        rcases (by omega : q = 0 ∨ q = 1 ∨ q = 2 ∨ q = 3 ∨ q = 4 ∨ q = 5) with g | g | g | g | g | g
        all_goals subst g
        · exact (nz_eq (hB.cc.rR _ _)).symm
        · exact (nz_eq (hB.cc.rR _ _)).symm
        · show sSum (R 1) i = nz (R 2 i)
          rw [hPre i hm]
          exact (nz_eq hfst).symm
        · show nz (hLst R W (i : Int) (c 3)) = nz (sLeast R W (i : Int))
          unfold sLeast
          rw [y1, y2, hLst_sMin hK.2.2.2.2 hm]
        · show nz (hBrk R W (i : Int) (c 3)) = nz (sBrk (W 1) (R 2 i).toNat (R 1 i).toNat)
          rw [hBrk_sBrk hK.2.2.2.2 hm]
        · exact (nz_eq (hB.cc.wR _ _)).symm
      have hin : ∀ (n j : Nat), j + n = 6 → (∀ o7, X E d fX8_isSame 324 [some (.ref s), some (.ref cl), o2, o3, some (J (sSum (R 1) i)), some (J (i : Int)), some (.ref (aX S1)), o7, o8, o9] [] (aNew S1 100 6 6) (mI M75) Q) →
          X E d fX8_isSame 293 [some (.ref s), some (.ref cl), o2, o3, some (J (sSum (R 1) i)), some (J (i : Int)), some (.ref (aX S1)), some (J (j : Int)), o8, o9] [] (aNew S1 100 6 6) (mI M75) Q := by
        intro n
        induction n with
        | zero =>
          intro j hj k2
          exact kX8_isSame_293 ⟨by omega, by omega⟩ (fun _ => k2 _) (fun h => absurd h (by omega))
        | succ n ih2 =>
          intro j hj k2
          refine kX8_isSame_293 ⟨by omega, by omega⟩ (fun h => absurd h (by omega)) (fun _ => ?_)
          refine kX8_isSame_300 (by omega) (aStretch hB1.cc (by omega) (by omega) ⟨by omega, by omega⟩ ⟨_, rfl, ?_⟩) hB1.cc.w.c.kd
          rw [← J_nz (cStr R W i (j : Int))]
          refine kX8_isSame_308 (t0 := nz (cStr R W i (j : Int))) rD ⟨by omega, by omega⟩ ⟨by omega, by omega⟩ (nz_R _) (hR75 _ _) (fun _ => ?_) (fun h => absurd ?_ h)
          · exact kX8_isSame_318 (ih2 (j + 1) (by omega) k2)
          · rw [Int.toNat_natCast, hv j (by omega)]
      refine hin 6 0 (by omega) (fun o7 => ?_)
      have e1 : M75 (A 2 i) 0 = R 1 i := hB1.sm.v.r 2 i 0 hm (by decide)
      refine kX8_isSame_324 hS1.kd (hS1.pT 2 (by decide) (by decide)) (hS1.dT 2 (by decide) (by decide)) ⟨by omega, by omega⟩ ⟨by omega, by rw [hS1.nT 2 (by decide) (by decide)]; omega⟩ (hS1.pA 2 i (by decide) (by decide) hm) (hS1.dA 2 i (by decide) (by decide) hm) ⟨by decide, by rw [nA, w3]; decide⟩ ?_
      rw [e1]
      exact ih (i + 1) _ _ _ _ _ _ (by omega) (by show aX S1 + 1 + n ≤ _; omega) (by show aZ S1 + 6 + 6 * n ≤ _; omega) hB1
  exact hl (c 2) 0 S M _ _ _ _ (by omega) (Nat.le_refl _) (Nat.le_refl _) h
/-- the traffics of a gate -/
theorem mX8_same5 (h : BoH S M s T A c cl t t2 rk rd rd0 R W O) (hd : 3 ≤ d) {g : Nat} (hg : g < c 4) {o2 o3 o4 o6 o7 o8 o9 : Option Value}
    (kk : ∀ o7 o8 o9, X E d fX8_isSame 477 [some (.ref s), some (.ref cl), o2, o3, o4, some (J g), some (J (cTrf R (R 5 g) (c 5))), o7, o8, o9] [] S (mI M) Q) :
    X E d fX8_isSame 357 [some (.ref s), some (.ref cl), o2, o3, o4, some (J g), o6, o7, o8, o9] [] S (mI M) Q := by
  have hS := h.sm.sm
  have hcc := hS.c
  have hn := h.sm.v.n
  have n4 := hS.nT 4 (by decide) (by decide)
  have n5 := hS.nT 5 (by decide) (by decide)
  have nG := hS.nA 4 g (by decide) (by decide) hg
  have w4 : wd 4 = 6 := rfl
  have w5 : wd 5 = 8 := rfl
  have e0 : M (A 4 g) 0 = R 5 g := h.sm.v.r 4 g 0 hg (by decide)
  refine kX8_isSame_357 ?_
  have hl : ∀ (n i : Nat) o8, i + n = c 5 → X E d fX8_isSame 363 [some (.ref s), some (.ref cl), o2, o3, o4, some (J g), some (J (cTrf R (R 5 g) i)), some (J (i : Int)), o8, o9] [] S (mI M) Q := by
    intro n
    induction n with
    | zero =>
      intro i o8 hi
      have hi : i = c 5 := by omega
      subst hi
      exact kX8_isSame_363 hS.kd (hS.pT 5 (by decide) (by decide)) (Or.inr (Or.inr (hS.dT 5 (by decide) (by decide)))) ⟨by omega, by omega⟩ ⟨by omega, by omega⟩ (fun _ => kk _ _ _) (fun h => absurd h (by omega))
    | succ n ih =>
      intro i o8 hi
      have hk : i < c 5 := by omega
      have nA := hS.nA 5 i (by decide) (by decide) hk
      have f2 : M (A 5 i) 2 = R 9 i := h.sm.v.r 5 i 2 hk (by decide)
      have f3 : M (A 5 i) 3 = R 10 i := h.sm.v.r 5 i 3 hk (by decide)
      have h1 := ih (i + 1) (some (J (R 5 g))) (by omega)
      unfold cTrf at h1
      have i3 : (0 : Int) ≤ 3 ∧ 3 < (aN S (A 5 i) : Int) := ⟨by decide, by rw [nA, w5]; decide⟩
      have i2 : (0 : Int) ≤ 2 ∧ 2 < (aN S (A 5 i) : Int) := ⟨by decide, by rw [nA, w5]; decide⟩
      have it : (0 : Int) ≤ (i : Int) ∧ (i : Int) < (aN S (T 5) : Int) := ⟨by omega, by omega⟩
      have hend : ∀ z : Int, (z = 1 ∧ (R 9 i ≤ R 5 g ∧ R 5 g ≤ R 10 i ∨ R 10 i ≤ R 5 g ∧ R 5 g ≤ R 9 i) ∨ z = 0 ∧ ¬ (R 9 i ≤ R 5 g ∧ R 5 g ≤ R 10 i ∨ R 10 i ≤ R 5 g ∧ R 5 g ≤ R 9 i)) →
          X E d fX8_isSame 447 [some (.ref s), some (.ref cl), o2, o3, o4, some (J g), some (J (cTrf R (R 5 g) i)), some (J (i : Int)), some (J (R 5 g)), o9] [J z, J (cTrf R (R 5 g) i)] S (mI M) Q := by
        intro z hz
        refine kX8_isSame_447 (by omega) (aToll h.cc (by omega) (by omega) (by omega) ⟨_, rfl, ?_⟩) h.cc.w.c.kd
        refine kX8_isSame_458 (t0 := sToll W i g) (by omega) (mX8_toll hS h.sm.v h.cc.m hk hg ⟨_, rfl, ?_⟩) hS.kd
        show X E d fX8_isSame 466 _ [J (sToll W i g), J (sToll W i g)] S (mI M) Q
        rw [← J_nz (sToll W i g)]
        refine kX8_isSame_466 (nz_R _) (nz_R _) (fun _ => kX8_isSame_471 ?_) (fun h => absurd rfl h)
        rcases hz with ⟨e, hz⟩ | ⟨e, hz⟩
        · rw [if_pos hz] at h1
          rw [e]; exact h1
        · rw [if_neg hz] at h1
          rw [e, Int.add_zero]; exact h1
      refine kX8_isSame_363 hS.kd (hS.pT 5 (by decide) (by decide)) (Or.inr (Or.inr (hS.dT 5 (by decide) (by decide)))) ⟨by omega, by omega⟩ ⟨by omega, by omega⟩ (fun h => absurd h (by omega)) (fun _ => ?_)
      have h414 : ¬ (R 9 i ≤ R 5 g ∧ R 5 g ≤ R 10 i) → X E d fX8_isSame 414 [some (.ref s), some (.ref cl), o2, o3, o4, some (J g), some (J (cTrf R (R 5 g) i)), some (J (i : Int)), some (J (R 5 g)), o9] [J (cTrf R (R 5 g) i)] S (mI M) Q := by
        intro hn1
        refine kX8_isSame_414 hS.kd (hS.pT 5 (by decide) (by decide)) (hS.dT 5 (by decide) (by decide)) ⟨by omega, by omega⟩ it (hS.pA 5 i (by decide) (by decide) hk) (hS.dA 5 i (by decide) (by decide) hk) i2 (h.cc.rR _ _) (h.cc.m _ _) (fun h2 => ?_) (fun h2 => ?_)
        · rw [f2] at h2
          exact kX8_isSame_446 (hend 0 (Or.inr ⟨rfl, by omega⟩))
        · rw [f2] at h2
          refine kX8_isSame_428 hS.kd (hS.pT 5 (by decide) (by decide)) (hS.dT 5 (by decide) (by decide)) ⟨by omega, by omega⟩ it (hS.pA 5 i (by decide) (by decide) hk) (hS.dA 5 i (by decide) (by decide) hk) i3 (h.cc.rR _ _) (h.cc.m _ _) (fun h3 => ?_) (fun h3 => ?_)
          · rw [f3] at h3
            exact kX8_isSame_446 (hend 0 (Or.inr ⟨rfl, by omega⟩))
          · rw [f3] at h3
            exact kX8_isSame_442 (hend 1 (Or.inl ⟨rfl, by omega⟩))
      refine kX8_isSame_373 hS.kd (hS.pT 4 (by decide) (by decide)) (hS.dT 4 (by decide) (by decide)) ⟨by omega, by omega⟩ ⟨by omega, by omega⟩ (hS.pA 4 g (by decide) (by decide) hg) (hS.dA 4 g (by decide) (by decide) hg) ⟨by decide, by rw [nG, w4]; decide⟩
        (hS.pT 5 (by decide) (by decide)) (hS.dT 5 (by decide) (by decide)) ⟨by omega, by omega⟩ it (hS.pA 5 i (by decide) (by decide) hk) (hS.dA 5 i (by decide) (by decide) hk) i2 (h.cc.m _ _) (h.cc.m _ _) (fun h2 => ?_) (fun h2 => ?_)
      · rw [e0] at h2 ⊢
        rw [f2] at h2
        exact h414 (by omega)
      · rw [e0] at h2 ⊢
        rw [f2] at h2
        refine kX8_isSame_400 hS.kd (hS.pT 5 (by decide) (by decide)) (hS.dT 5 (by decide) (by decide)) ⟨by omega, by omega⟩ it (hS.pA 5 i (by decide) (by decide) hk) (hS.dA 5 i (by decide) (by decide) hk) i3 (h.cc.rR _ _) (h.cc.m _ _) (fun h3 => ?_) (fun h3 => ?_)
        · rw [f3] at h3
          exact kX8_isSame_442 (hend 1 (Or.inl ⟨rfl, Or.inl ⟨h2, h3⟩⟩))
        · rw [f3] at h3
          exact h414 (by omega)
  exact hl (c 5) 0 _ (by omega)
end C28
