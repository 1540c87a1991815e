/-! contracts of the law's road: coins spent -/
section C12
variable {E : Nat → Value} {d : Nat} {S : aS} {M : Nat → Nat → Int} {Q : Option (Option Value) → aS → aI → Prop} {s : Nat} {T : Nat → Nat} {A : Nat → Nat → Nat} {c : Nat → Nat} {R W O : Nat → Nat → Int}
/-- the stretches lie one behind the other -/
abbrev RSt (c : Nat → Nat) (R : Nat → Nat → Int) : Prop := ∀ st, st < c 2 → 0 ≤ R 2 st ∧ 1 ≤ R 1 st ∧ R 2 st + R 1 st ≤ (c 3 : Int) ∧ ∀ m : Nat, m < c 3 → (R 4 m = (st : Int) ↔ R 2 st ≤ (m : Int) ∧ (m : Int) < R 2 st + R 1 st)
theorem sWst_le {f : Nat → Int} {a : Nat} : ∀ n m, m < n → f (sWst f a n) ≤ f (a + m)
  | 0, _, h => absurd h (by omega)
  | n + 1, m, h => by
    unfold sWst
    by_cases hm : m = n
    · subst hm
      split
      · exact Int.le_refl _
      · omega
    · have h1 := sWst_le (f := f) (a := a) n m (by omega)
      split
      · omega
      · exact h1
theorem sWst_lt {f : Nat → Int} {a : Nat} : ∀ n m, m < n → a + m < sWst f a n → f (sWst f a n) < f (a + m)
  | 0, _, h, _ => absurd h (by omega)
  | n + 1, m, h, g => by
    unfold sWst at g ⊢
    by_cases hm : m = n
    · subst hm
      have hi := sWst_in (f := f) (a := a) m
      split at g
      · exact absurd g (by omega)
      · exact absurd g (by omega)
    · split
      · rename_i hlt
        have h1 := sWst_le (f := f) (a := a) n m (by omega)
        omega
      · rename_i hlt
        rw [if_neg hlt] at g
        exact sWst_lt n m (by omega) g
theorem sMin_wst {f : Nat → Int} {a : Nat} : ∀ n, 0 < n → sMin f a n = min 100 (f (sWst f a n))
  | 0, h => absurd h (by omega)
  | 1, _ => by
    unfold sMin sMin sWst sWst
    rw [Nat.add_zero]
    split <;> split <;> omega
  | n + 2, _ => by
    have h := sMin_wst (f := f) (a := a) (n + 1) (by omega)
    rw [show sMin f a (n + 2) = if f (a + (n + 1)) < sMin f a (n + 1) then f (a + (n + 1)) else sMin f a (n + 1) from rfl, h,
      show sWst f a (n + 2) = if f (a + (n + 1)) < f (sWst f a (n + 1)) then a + (n + 1) else sWst f a (n + 1) from rfl]
    split <;> split <;> omega
theorem hLst_sMin (hR : RSt c R) {st : Nat} (hst : st < c 2) : hLst R W (st : Int) (c 3) = sMin (W 1) (R 2 st).toNat (R 1 st).toNat := by
  have h := hR st hst
  have hl : ∀ p, p ≤ c 3 → hLst R W (st : Int) p = sMin (W 1) (R 2 st).toNat (min (p - (R 2 st).toNat) (R 1 st).toNat) := by
    intro p
    induction p with
    | zero =>
      intro _
      rw [show min (0 - (R 2 st).toNat) (R 1 st).toNat = 0 by omega]
      rfl
    | succ p ih =>
      intro hp
      have i1 := ih (by omega)
      have h4 := h.2.2.2 p (by omega)
      unfold hLst
      by_cases hin : R 2 st ≤ (p : Int) ∧ (p : Int) < R 2 st + R 1 st
      · rw [if_pos (Or.inr (h4.mpr hin)), i1, show min (p + 1 - (R 2 st).toNat) (R 1 st).toNat = min (p - (R 2 st).toNat) (R 1 st).toNat + 1 by omega]
        rw [show sMin (W 1) (R 2 st).toNat (min (p - (R 2 st).toNat) (R 1 st).toNat + 1) = if W 1 ((R 2 st).toNat + min (p - (R 2 st).toNat) (R 1 st).toNat) < sMin (W 1) (R 2 st).toNat (min (p - (R 2 st).toNat) (R 1 st).toNat) then W 1 ((R 2 st).toNat + min (p - (R 2 st).toNat) (R 1 st).toNat) else sMin (W 1) (R 2 st).toNat (min (p - (R 2 st).toNat) (R 1 st).toNat) from rfl,
          show (R 2 st).toNat + min (p - (R 2 st).toNat) (R 1 st).toNat = p by omega]
        split <;> omega
      · rw [if_neg (fun z => z.elim (fun y => absurd y (by omega)) (fun y => hin (h4.mp y))), i1]
        rw [show min (p + 1 - (R 2 st).toNat) (R 1 st).toNat = min (p - (R 2 st).toNat) (R 1 st).toNat by omega]
  rw [hl (c 3) (Nat.le_refl _), show min (c 3 - (R 2 st).toNat) (R 1 st).toNat = (R 1 st).toNat by omega]
theorem WOk.cond (h : WOk c W) {m : Nat} {x : Int} (hx : 0 ≤ x ∧ x ≤ 100) : WOk c (mW W 1 m x) := by
  refine ⟨R32.w h.1 ⟨by omega, by omega⟩, ?_, ?_, ?_⟩
  · rw [mW_ne (by decide)]; exact h.2.1
  · intro k hk
    rw [mW_get]
    split
    · exact hx
    · exact h.2.2.1 k hk
  · rw [mW_ne (by decide)]; exact h.2.2.2
theorem mX8_mend {st : Nat} {x : Int} (hS : SmS S s T A c) (hV : SmV M s A c R W O) (hM : RM M) (hW : WOk c W) (hR : RSt c R) (hst : st < c 2) (hx : R32 x) (hd : 1 ≤ d)
    (k : ∀ M', RM M' → SmV M' s A c R (sMend R W st x).2 O → SmF s A c M M' → Q (some (some (J (sMend R W st x).1))) S (mI M')) :
    X E d fX8_mend 0 [some (.ref s), some (J st), some (J x), none, none, none] [] S (mI M) Q := by
  have hc := hS.c
  have n3 := hS.nT 3 (by decide) (by decide)
  have n2 := hS.nT 2 (by decide) (by decide)
  have p3 := hS.pT 3 (by decide) (by decide)
  have d3 := hS.dT 3 (by decide) (by decide)
  have hrs := hR st hst
  refine kX8_mend_0 ?_
  unfold sMend at k
  dsimp only at k
  generalize hn : x.toNat = n at k
  have hl : ∀ (n i : Nat) M' W' o4 o5, (i : Int) + (n : Int) = max x 0 → RM M' → SmV M' s A c R W' O → SmF s A c M M' → WOk c W' →
      (∀ M' o4 o5, RM M' → SmV M' s A c R (sSpend R st n W').2 O → SmF s A c M M' → X E d fX8_mend 119 [some (.ref s), some (J st), some (J x), some (J ((i : Int) + ((sSpend R st n W').1 : Int))), o4, o5] [] S (mI M') Q) →
      X E d fX8_mend 2 [some (.ref s), some (J st), some (J x), some (J (i : Int)), o4, o5] [] S (mI M') Q := by
    intro n
    induction n with
    | zero =>
      intro i M' W' o4 o5 hi hM' hV' hF hW' kk
      have kz := kk M' o4 o5 hM' hV' hF
      unfold sSpend at kz
      dsimp only at kz
      rw [show (i : Int) + ((0 : Nat) : Int) = (i : Int) by omega] at kz
      exact kX8_mend_2 ⟨by omega, by omega⟩ hx (fun _ => kz) (fun h => absurd h (by omega))
    | succ n ih =>
      intro i M' W' o4 o5 hi hM' hV' hF hW' kk
      have hix : (i : Int) < x := by omega
      unfold sSpend at kk
      dsimp only at kk
      have hls := hLst_sMin (W := W') hR hst
      have hwi := sWst_in (f := W' 1) (a := (R 2 st).toNat) (R 1 st).toNat
      have hmw := sMin_wst (f := W' 1) (a := (R 2 st).toNat) (R 1 st).toNat (by omega)
      have hwlt := fun m => sWst_lt (f := W' 1) (a := (R 2 st).toNat) (R 1 st).toNat m
      generalize hw : sWst (W' 1) (R 2 st).toNat (R 1 st).toNat = w at *
      rw [hmw] at hls
      have hw3 : w < c 3 := by omega
      have hcw := hW'.2.2.1 w hw3
      have hlr : R32 (hLst R W' (st : Int) (c 3)) := hLst_R hW'.1 _
      refine kX8_mend_2 ⟨by omega, by omega⟩ hx (fun h => absurd h (by omega)) (fun _ => ?_)
      refine kX8_mend_7 hd (mX8_least hS hV' hM' ⟨by omega, by omega⟩ ⟨_, rfl, ?_⟩) hS.kd
      refine kX8_mend_12 (t0 := hLst R W' (st : Int) (c 3)) hlr (fun h => ?_) (fun h => ?_)
      · rw [if_pos (by omega)] at kk
        have kz := kk M' o4 o5 hM' hV' hF
        rw [show (i : Int) + ((0 : Nat) : Int) = (i : Int) by omega] at kz
        exact kz
      · rw [if_neg (by omega)] at kk
        have hleq : hLst R W' (st : Int) (c 3) = W' 1 w := by omega
        refine kX8_mend_17 hS.kd p3 (Or.inr (Or.inr d3)) ?_
        rw [n3]
        have nW : aN S (A 3 w) = 3 := hS.nA 3 w (by decide) (by decide) hw3
        have aW := hS.aA 3 w (by decide) (by decide) hw3
        have dW := hS.dA 3 w (by decide) (by decide) hw3
        have pW := hS.pA 3 w (by decide) (by decide) hw3
        have ew : M' (A 3 w) 1 = W' 1 w := hV'.w 3 w 1 hw3 (by decide)
        have hend : ∀ o5 y, y = nz (min 100 (W' 1 w + 4)) → X E d fX8_mend 112 [some (.ref s), some (J st), some (J x), some (J (i : Int)), some (J (w : Int)), o5] [J y, J 1, .ref (A 3 w)] S (mI M') Q := by
          intro o5 y hy
          have hyr : y = min 100 (W' 1 w + 4) := by rw [hy, nz_eq ⟨by omega, by omega⟩]
          refine kX8_mend_112 aW ⟨by decide, by decide⟩ ⟨by decide, by omega⟩ ?_
          refine ih (i + 1) _ (mW W' 1 w (nz (min 100 (W' 1 w + 4)))) _ _ (by omega) (hM'.w ⟨by omega, by omega⟩) (by rw [← hy]; exact hV'.put (j := 3) (q := 1) hS hw3 (by decide)) (hF.wA (by decide) (by decide) hw3) (hW'.cond (by rw [← hy]; omega)) (fun M2 o4 o5 a1 a2 a3 => ?_)
          have kz := kk M2 o4 o5 a1 a2 a3
          rw [show ((i + 1 : Nat) : Int) + ((sSpend R st n (mW W' 1 w (nz (min 100 (W' 1 w + 4))))).1 : Int) = (i : Int) + (((sSpend R st n (mW W' 1 w (nz (min 100 (W' 1 w + 4))))).1 + 1 : Nat) : Int) by omega]
          exact kz
        have hbest : ∀ p o4, p ≤ c 3 → (p ≤ w → o4 = some (J (w : Int))) → X E d fX8_mend 29 [some (.ref s), some (J st), some (J x), some (J (i : Int)), o4, some (J ((p : Int) - 1))] [] S (mI M') Q := by
          intro p
          induction p with
          | zero =>
            intro o4 hp ho
            rw [ho (by omega)]
            refine kX8_mend_29 ⟨by omega, by omega⟩ (fun _ => ?_) (fun h => absurd h (by omega))
            refine kX8_mend_74 (b7 := A 3 w) hS.kd p3 d3 ⟨by omega, by omega⟩ ⟨by omega, by omega⟩ pW dW ⟨by omega, by omega⟩ (hM' _ _) (fun h2 => ?_) (fun h2 => ?_)
            · rw [ew] at h2
              refine kX8_mend_101 (b7 := A 3 w) hS.kd p3 d3 ⟨by omega, by omega⟩ ⟨by omega, by omega⟩ pW dW ⟨by omega, by omega⟩ ?_
              rw [ew]
              exact hend _ _ (by rw [nz_eq ⟨by omega, by omega⟩]; omega)
            · rw [ew] at h2
              exact kX8_mend_96 (hend _ _ (by rw [nz_eq ⟨by omega, by omega⟩]; omega))
          | succ p ihp =>
            intro o4 hp ho
            have hp3 : p < c 3 := by omega
            have nP : aN S (A 3 p) = 3 := hS.nA 3 p (by decide) (by decide) hp3
            have dP := hS.dA 3 p (by decide) (by decide) hp3
            have pP := hS.pA 3 p (by decide) (by decide) hp3
            have e0 : M' (A 3 p) 0 = R 4 p := hV'.r 3 p 0 hp3 (by decide)
            have e1 : M' (A 3 p) 1 = W' 1 p := hV'.w 3 p 1 hp3 (by decide)
            have h4 := hrs.2.2.2 p hp3
            have hpp : ((p + 1 : Nat) : Int) - 1 = (p : Int) := by omega
            rw [hpp]
            have nxt : ∀ o4, (p ≤ w → o4 = some (J (w : Int))) → X E d fX8_mend 68 [some (.ref s), some (J st), some (J x), some (J (i : Int)), o4, some (J (p : Int))] [] S (mI M') Q := by
              intro o4 h5
              refine kX8_mend_68 ?_
              rw [show (p : Int) + (-1) = (p : Int) - 1 by omega]
              exact ihp o4 (by omega) h5
            refine kX8_mend_29 ⟨by omega, by omega⟩ (fun h => absurd h (by omega)) (fun _ => ?_)
            refine kX8_mend_34 hS.kd p3 d3 ⟨by omega, by omega⟩ ⟨by omega, by omega⟩ pP dP ⟨by omega, by omega⟩ (hM' _ _) ⟨by omega, by omega⟩ (fun h => ?_) (fun h => ?_)
            · rw [e0] at h
              refine nxt o4 (fun h5 => ho ?_)
              by_cases hpw : p = w
              · exact absurd (h4.mpr ⟨by omega, by omega⟩) h
              · omega
            · rw [e0] at h
              have hin := h4.mp h
              refine kX8_mend_47 hS.kd p3 d3 ⟨by omega, by omega⟩ ⟨by omega, by omega⟩ pP dP ⟨by omega, by omega⟩ hd (mX8_least hS hV' hM' ⟨by omega, by omega⟩ ⟨_, rfl, ?_⟩)
              rw [e1]
              refine kX8_mend_61 (t0 := hLst R W' (st : Int) (c 3)) (t1 := W' 1 p) (hW'.1 _ _) hlr (fun h6 => ?_) (fun h6 => ?_)
              · refine nxt o4 (fun h5 => ho ?_)
                by_cases hpw : p = w
                · rw [hpw] at h6
                  exact absurd hleq.symm h6
                · omega
              · refine kX8_mend_64 (nxt _ (fun h5 => ?_))
                by_cases hpw : p = w
                · rw [hpw]
                · have z := hwlt (p - (R 2 st).toNat) (by omega) (by omega)
                  rw [show (R 2 st).toNat + (p - (R 2 st).toNat) = p by omega] at z
                  omega
        exact hbest (c 3) _ (Nat.le_refl _) (fun h => absurd h (by omega))
  refine hl n 0 M W none none (by omega) hM hV SmF.refl hW (fun M' o4 o5 hM' hV' hF => ?_)
  generalize hq : sSpend R st n W = q at *
  rw [show ((0 : Nat) : Int) + (q.1 : Int) = (q.1 : Int) by omega]
  have nS : aN S (A 2 st) = 3 := hS.nA 2 st (by decide) (by decide) hst
  have e2 : M' (A 2 st) 2 = q.2 3 st := hV'.w 2 st 2 hst (by decide)
  have hne := hS.ne 2 st (by decide) (by decide) hst
  refine kX8_mend_119 hS.kd hS.k (hS.pT 2 (by decide) (by decide)) (hS.dT 2 (by decide) (by decide)) ⟨by omega, by omega⟩ ⟨by omega, by omega⟩ (hS.pA 2 st (by decide) (by decide) hst) (hS.dA 2 st (by decide) (by decide) hst) ⟨by omega, by omega⟩ (hS.aA 2 st (by decide) (by decide) hst) rfl (k _ hM'.z.z ?_ (hF.ws.wA (by decide) (by decide) hst))
  have z := (hV'.putS 1 (by decide) (x := nz (q.2 0 3 - (q.1 : Int))) hS).put (j := 2) (k := st) (q := 2) (x := nz (q.2 3 st + (q.1 : Int))) hS hst (by decide)
  rw [mW_ne hne, e2, hV'.coins]
  exact z
end C12
