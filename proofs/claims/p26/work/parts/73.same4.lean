/-! is the class's object as the law's road: traffics, worst, mean; all of it -/
section C30
variable {E : Nat → Value} {d : Nat} {S : aS} {M : Nat → Nat → Int} {Q : Option (Option Value) → aS → aI → Prop} {s : Nat} {T : Nat → Nat} {A : Nat → Nat → Nat} {c : Nat → Nat} {R W O : Nat → Nat → Int} {cl t t2 rk rd rd0 : Nat}
theorem cTraf_v (h : SmV M s A c R W O) {a : Nat} (ha : a < c 5) : ∀ q : Nat, q < 8 → M (A 5 a) q = cTraf R W a (q : Int) := by
  intro q hq
  rcases (by omega : q = 0 ∨ q = 1 ∨ q = 2 ∨ q = 3 ∨ q = 4 ∨ q = 5 ∨ q = 6 ∨ q = 7) with g | g | g | g | g | g | g | g
  all_goals subst g
  · exact h.r 5 a 0 ha (by decide)
  · exact h.w 5 a 1 ha (by decide)
  · exact h.r 5 a 2 ha (by decide)
  · exact h.r 5 a 3 ha (by decide)
  · exact h.r 5 a 4 ha (by decide)
  · exact h.w 5 a 5 ha (by decide)
  · exact h.w 5 a 6 ha (by decide)
  · exact h.w 5 a 7 ha (by decide)
theorem mX8_same7 (h : BoH S M s T A c cl t t2 rk rd rd0 R W O) (hK : RdK c R O) (hRZ : RZ R) (hW : WOk c W)
    (hj : ∀ a, a < c 5 → R32 ((sGo R W a).2 12 a - W 12 a) ∧ R32 (sSum (W 1) (c 3) - sSum ((sGo R W a).2 1) (c 3))) (hd : 7 ≤ d) {o2 o3 o4 o5 o6 o7 o8 o9 : Option Value}
    (kk : ∀ S' M' rdx o5 o6 o7 o8 o9, aX S' ≤ aX S + 640 → aZ S' ≤ aZ S + 3200 → BoH S' M' s T A c cl t t2 rk rd rdx R W O → X E d fX8_isSame 727 [some (.ref s), some (.ref cl), o2, o3, o4, o5, o6, o7, o8, o9] [] S' (mI M') Q) :
    X E d fX8_isSame 588 [some (.ref s), some (.ref cl), o2, o3, o4, o5, o6, o7, o8, o9] [] S (mI M) Q := by
  have hcc := h.sm.sm.c
  have hn := h.sm.v.n
  have h9 : ∀ a : Nat, (a : Int) < R 0 3 → 1 ≤ W 9 a := fun a ha => hW.2.2.2 a (by omega)
  have q1 : (R 0 1).toNat = c 3 := by omega
  refine kX8_isSame_588 ?_
  have hl : ∀ (n i : Nat) S0 M rdx o6 o7 o8 o9, i + n = c 5 → aX S0 + 80 * n ≤ aX S + 640 → aZ S0 + 400 * n ≤ aZ S + 3200 → BoH S0 M s T A c cl t t2 rk rd rdx R W O →
      X E d fX8_isSame 591 [some (.ref s), some (.ref cl), o2, o3, o4, some (J (i : Int)), o6, o7, o8, o9] [] S0 (mI M) Q := by
    intro n
    induction n with
    | zero =>
      intro i S0 M rdx o6 o7 o8 o9 hi hgx hgz hB
      have n2 := hB.sm.sm.nT 5 (by decide) (by decide)
      exact kX8_isSame_591 hB.sm.sm.kd (hB.sm.sm.pT 5 (by decide) (by decide)) (Or.inr (Or.inr (hB.sm.sm.dT 5 (by decide) (by decide)))) ⟨by omega, by omega⟩ ⟨by omega, by omega⟩ (fun _ => kk _ _ _ _ _ _ _ _ (by omega) (by omega) hB) (fun h => absurd h (by omega))
    | succ n ih =>
      intro i S0 M rdx o6 o7 o8 o9 hi hgx hgz hB
      have hm : i < c 5 := by omega
      have n2 := hB.sm.sm.nT 5 (by decide) (by decide)
      have nA := hB.sm.sm.nA 5 i (by decide) (by decide) hm
      have w5 : wd 5 = 8 := rfl
      have hji := hj i hm
      refine kX8_isSame_591 hB.sm.sm.kd (hB.sm.sm.pT 5 (by decide) (by decide)) (Or.inr (Or.inr (hB.sm.sm.dT 5 (by decide) (by decide)))) ⟨by omega, by omega⟩ ⟨by omega, by omega⟩ (fun h => absurd h (by omega)) (fun _ => ?_)
      refine kX8_isSame_601 ?_
      have hin : ∀ (n j : Nat), j + n = 8 → (∀ o6, X E d fX8_isSame 640 [some (.ref s), some (.ref cl), o2, o3, o4, some (J (i : Int)), o6, o7, o8, o9] [] S0 (mI M) Q) →
          X E d fX8_isSame 604 [some (.ref s), some (.ref cl), o2, o3, o4, some (J (i : Int)), some (J (j : Int)), o7, o8, o9] [] S0 (mI M) Q := by
        intro n
        induction n with
        | zero =>
          intro j hj k2
          exact kX8_isSame_604 ⟨by omega, by omega⟩ (fun _ => k2 _) (fun h => absurd h (by omega))
        | succ n ih2 =>
          intro j hj k2
          refine kX8_isSame_604 ⟨by omega, by omega⟩ (fun h => absurd h (by omega)) (fun _ => ?_)
          refine kX8_isSame_611 (by omega) (aTraffic hB.cc (by omega) (by omega) ⟨by omega, by omega⟩ ⟨_, rfl, ?_⟩) hB.cc.w.c.kd
          rw [← J_nz (cTraf R W i (j : Int))]
          have hval := cTraf_v hB.sm.v hm j (by omega)
          refine kX8_isSame_619 (t0 := nz (cTraf R W i (j : Int))) hB.sm.sm.kd (hB.sm.sm.pT 5 (by decide) (by decide)) (hB.sm.sm.dT 5 (by decide) (by decide)) ⟨by omega, by omega⟩ ⟨by omega, by omega⟩ (hB.sm.sm.pA 5 i (by decide) (by decide) hm) (hB.sm.sm.dA 5 i (by decide) (by decide) hm) ⟨by omega, by omega⟩ ⟨by omega, by omega⟩ (nz_R _) (hB.cc.m _ _) (fun _ => ?_) (fun h => absurd ?_ h)
          · exact kX8_isSame_634 (ih2 (j + 1) (by omega) k2)
          · rw [Int.toNat_natCast, hval, nz_eq]
            rw [← hval]
            exact hB.cc.m _ _
      refine hin 8 0 (by omega) (fun o6 => ?_)
      refine mX8_then hB hK hW (by omega) hm (fun S1 M1 s' T' A' hgx1 hgz1 hB1 hC1 => ?_)
      have l := hB1.1.w.lt
      have ha : ((i : Nat) : Int) < R 0 3 := by omega
      refine kX8_isSame_653 (t0 := nz (sGo R W i).1) (by omega) (aJourney (x := 0) hB1.cc hRZ (by omega) ha ⟨by decide, by decide⟩ h9 (fun M2 hC2 hf2 => ⟨_, rfl, ?_⟩)) hB1.cc.w.c.kd
      have hB2 := hB1.what hC2 hf2
      have hC2 := hC1.what hf2 (by omega) (q := some rd)
      have x2 : aX (aPut S1 t2 1 (some rd)) = aX S1 := rfl
      have z2 : aZ (aPut S1 t2 1 (some rd)) = aZ S1 := rfl
      generalize aPut S1 t2 1 (some rd) = S2 at *
      have nA2 := hB2.sm.sm.nA 5 i (by decide) (by decide) hm
      have nT2 := hB2.sm.sm.nT 5 (by decide) (by decide)
      have mA2 := hC2.1.nA 5 i (by decide) (by decide) hm
      have mT2 := hC2.1.nT 5 (by decide) (by decide)
      have e7 : M2 (A' 5 i) 7 = (sGo R W i).2 12 i := hC2.2.1.w 5 i 7 hm (by decide)
      have f7 : M2 (A 5 i) 7 = W 12 i := hB2.sm.v.w 5 i 7 hm (by decide)
      show X E d fX8_isSame 662 _ [J (cJour R W i 0)] S2 (mI M2) Q
      have j0 : cJour R W i 0 = (sGo R W i).2 12 i - W 12 i := if_pos rfl
      have j1 : cJour R W i 1 = sSum (W 1) (c 3) - sSum ((sGo R W i).2 1) (c 3) := by
        unfold cJour
        rw [if_neg (by decide), if_pos rfl, q1]
      have j2 : cJour R W i 2 = (sGo R W i).1 := by
        unfold cJour
        rw [if_neg (by decide), if_neg (by decide)]
      rw [j0]
      refine kX8_isSame_662 (t0 := (sGo R W i).2 12 i - W 12 i) hC2.1.kd (hC2.1.pT 5 (by decide) (by decide)) (hC2.1.dT 5 (by decide) (by decide)) ⟨by omega, by omega⟩ ⟨by omega, by omega⟩ (hC2.1.pA 5 i (by decide) (by decide) hm) (hC2.1.dA 5 i (by decide) (by decide) hm) ⟨by decide, by rw [mA2, w5]; decide⟩
        hB2.sm.sm.kd (hB2.sm.sm.pT 5 (by decide) (by decide)) (hB2.sm.sm.dT 5 (by decide) (by decide)) ⟨by omega, by omega⟩ (hB2.sm.sm.pA 5 i (by decide) (by decide) hm) (hB2.sm.sm.dA 5 i (by decide) (by decide) hm) ⟨by decide, by rw [nA2, w5]; decide⟩ hji.1 (by rw [e7, f7]; exact hji.1) (fun hne => absurd (by rw [e7, f7]) hne) (fun _ => ?_)
      refine kX8_isSame_687 (by omega) (aJourney (x := 1) hB2.cc hRZ (by omega) ha ⟨by decide, by decide⟩ h9 (fun M3 hC3 hf3 => ⟨_, rfl, ?_⟩)) hB2.cc.w.c.kd
      have hB3 := hB2.what hC3 hf3
      have hC3 := hC2.what hf3 (by omega) (q := some rd)
      have x3 : aX (aPut S2 t2 1 (some rd)) = aX S2 := rfl
      have z3 : aZ (aPut S2 t2 1 (some rd)) = aZ S2 := rfl
      generalize aPut S2 t2 1 (some rd) = S3 at *
      show X E d fX8_isSame 694 _ [J (cJour R W i 1)] S3 (mI M3) Q
      rw [j1]
      refine kX8_isSame_694 (t0 := sSum (W 1) (c 3) - sSum ((sGo R W i).2 1) (c 3)) (by omega) (mX8_all hB3.sm.sm hB3.sm.v ⟨_, rfl, ?_⟩) hB3.sm.sm.kd
      refine kX8_isSame_698 (t0 := sSum (W 1) (c 3)) (t1 := sSum (W 1) (c 3) - sSum ((sGo R W i).2 1) (c 3)) (by omega) (mX8_all hC3.1 hC3.2.1 ⟨_, rfl, ?_⟩) hC3.1.kd
      refine kX8_isSame_703 (t0 := sSum ((sGo R W i).2 1) (c 3)) (t1 := sSum (W 1) (c 3)) (t2 := sSum (W 1) (c 3) - sSum ((sGo R W i).2 1) (c 3)) hji.2 hji.2 (fun h => absurd rfl h) (fun _ => ?_)
      refine kX8_isSame_707 (by omega) (aJourney (x := 2) hB3.cc hRZ (by omega) ha ⟨by decide, by decide⟩ h9 (fun M4 hC4 hf4 => ⟨_, rfl, ?_⟩)) hB3.cc.w.c.kd
      have hB4 := hB3.what hC4 hf4
      show X E d fX8_isSame 714 _ [J (cJour R W i 2)] _ (mI M4) Q
      rw [j2, ← J_nz (sGo R W i).1]
      refine kX8_isSame_714 (nz_R _) (nz_R _) (fun _ => ?_) (fun h => absurd rfl h)
      exact kX8_isSame_721 (ih (i + 1) _ _ _ _ _ _ _ (by omega) (by show aX S3 + _ ≤ _; omega) (by show aZ S3 + _ ≤ _; omega) hB4)
  exact hl (c 5) 0 S M rd0 _ _ _ _ (by omega) (by omega) (by omega) h
/-- a whole number through a number of its own, as mean has it: no NaN -/
abbrev FpK (x n : Int) : Prop := (FP.ddiv (FP.i2d (Int32.ofInt x)) (FP.i2d (Int32.ofInt n)) &&& 0x7fffffffffffffff ≤ 0x7ff0000000000000) ∧ aCmp .ne (Op.cmpValue (FP.dcmp (FP.ddiv (FP.i2d (Int32.ofInt x)) (FP.i2d (Int32.ofInt n))) (FP.ddiv (FP.i2d (Int32.ofInt x)) (FP.i2d (Int32.ofInt n)))) .l) 0 = false
theorem mX8_isSame (h : BoH S M s T A c cl t t2 rk rd rd0 R W O) (hK : RdK c R O) (hPre : ∀ st, st < c 2 → R 2 st = sSum (R 1) st) (hRZ : RZ R) (hW : WOk c W) (h1 : 1 ≤ c 3) (hF : FpK (sSum (W 1) (c 3)) (c 3))
    (hj : ∀ a, a < c 5 → R32 ((sGo R W a).2 12 a - W 12 a) ∧ R32 (sSum (W 1) (c 3) - sSum ((sGo R W a).2 1) (c 3))) (hd : 7 ≤ d)
    (q : ∀ S' I', aX S' ≤ aX S + 1000 → aZ S' ≤ aZ S + 5000 → Q (some (some (J 1))) S' I') :
    X E d fX8_isSame 0 [some (.ref s), some (.ref cl), none, none, none, none, none, none, none, none] [] S (mI M) Q := by
  refine mX8_same1 h (by omega) (fun S1 M1 o2 o3 x1 z1 h1' => ?_)
  refine mX8_same3 h1' hW h1 (by omega) (fun S2 M2 o2 o4 o5 o6 o7 o8 o9 x2 z2 h2 => ?_)
  refine mX8_same4 h2 hK hPre (by omega) (fun S3 M3 o2 o4 o5 o6 o7 o8 o9 x3 z3 h3 => ?_)
  refine mX8_same6 h3 (by omega) (fun S4 M4 o5 o6 o7 o8 o9 x4 z4 h4 => ?_)
  refine mX8_same7 h4 hK hRZ hW hj hd (fun S5 M5 rdx o5 o6 o7 o8 o9 x5 z5 h5 => ?_)
  have hcc := h5.sm.sm.c
  have hn := h5.sm.v.n
  have q1 : (R 0 1).toNat = c 3 := by omega
  have hw := cWorst_in (W := W) (c 3)
  have n3 := h5.sm.sm.nT 3 (by decide) (by decide)
  refine kX8_isSame_727 (by omega) (aWorst h5.cc ⟨_, rfl, ?_⟩) h5.cc.w.c.kd
  rw [q1]
  refine kX8_isSame_731 (t0 := cWorst W (c 3)) ⟨by omega, by omega⟩ ⟨by omega, by omega⟩ (fun h => absurd rfl h) (fun _ => ?_)
  refine kX8_isSame_735 (by omega) (aMean h5.cc (by omega) (by omega) (by rw [q1, hn.2.1]; exact hF.1) ⟨_, rfl, ?_⟩) h5.cc.w.c.kd
  rw [q1, hn.2.1]
  refine kX8_isSame_739 (w0 := _) h5.sm.sm.kd (h5.sm.sm.pT 3 (by decide) (by decide)) (Or.inr (Or.inr (h5.sm.sm.dT 3 (by decide) (by decide)))) ⟨by omega, by omega⟩ (fun _ => ?_) (fun h => absurd h (by omega))
  refine kX8_isSame_751 (by omega) (mX8_all h5.sm.sm h5.sm.v ⟨_, rfl, ?_⟩) h5.sm.sm.kd
  refine kX8_isSame_755 (t0 := sSum (W 1) (c 3)) (w1 := _) h5.sm.sm.kd (h5.sm.sm.pT 3 (by decide) (by decide)) (Or.inr (Or.inr (h5.sm.sm.dT 3 (by decide) (by decide)))) (by rw [n3]; exact hF.1) ?_
  rw [n3]
  refine kX8_isSame_763 hF.2 (fun h => absurd h (by decide)) (fun _ => ?_)
  exact kX8_isSame_767 (kX8_isSame_772 (by decide) (q _ _ (by omega) (by omega)))
end C30
