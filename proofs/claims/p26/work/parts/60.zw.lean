/-! rows stay 0 behind their ends -/
section C17
variable {R W : Nat → Nat → Int}
theorem ZW.pay (h : ZW W) {a g : Nat} (ha : a < 8) (hg : g < 5) : ZW (sPay W a g) := by
  have z12 : zl 12 = 8 := rfl
  have z5 : zl 5 = 5 := rfl
  have z8 : zl 8 = 5 := rfl
  unfold sPay
  split
  · exact ((h.w (by decide) (by omega)).w (by decide) (by omega)).w0 (by decide)
  · exact ((h.w (by decide) (by omega)).w (by decide) (by omega)).w (by decide) (by omega)
theorem ZW.gates {a : Nat} {m : Int} (ha : a < 8) : ∀ (n g : Nat) {W : Nat → Nat → Int}, g + n ≤ 5 → ZW W → ZW (sGates R W a m g n)
  | 0, _, _, _, h => h
  | n + 1, g, W, hg, h => by
    unfold sGates
    split
    · exact ZW.gates ha n (g + 1) (by omega) (h.pay ha (by omega))
    · exact ZW.gates ha n (g + 1) (by omega) h
theorem ZW.wear (h : ZW W) {a m : Nat} (hm : m < 45) : ZW (sWear R W a m) := by
  have z1 : zl 1 = 45 := rfl
  have z2 : zl 2 = 45 := rfl
  unfold sWear
  exact (h.w (by decide) (by omega)).w (by decide) (by omega)
theorem ZW.trav {a : Nat} {b : Int} (ha : a < 8) (hng : (R 0 2).toNat ≤ 5) : ∀ (n : Nat) (m : Int) {W : Nat → Nat → Int}, (∀ i : Nat, i < n → 0 ≤ m + i * b ∧ m + i * b < 45) → ZW W → ZW (sTrav R a b n m W).2
  | 0, _, _, _, h => h.w (by decide) (by have : zl 10 = 8 := rfl; omega)
  | n + 1, m, W, hm, h => by
    have h0 := hm 0 (by omega)
    unfold sTrav
    split
    · exact h.w (by decide) (by have : zl 11 = 8 := rfl; omega)
    · refine ZW.trav ha hng n (m + b) (fun i hi => ?_) (ZW.wear (ZW.gates ha _ _ (by omega) h) (by omega))
      have h1 := hm (i + 1) (by omega)
      rw [show m + b + (i : Int) * b = m + ((i + 1 : Nat) : Int) * b by rw [Int.natCast_add, Int.add_mul]; omega]
      exact h1
theorem ZW.go (h : ZW W) {a : Nat} (ha : a < 8) (hng : (R 0 2).toNat ≤ 5) (hr : 0 ≤ R 9 a ∧ R 9 a < 45 ∧ 0 ≤ R 10 a ∧ R 10 a < 45) : ZW (sGo R W a).2 := by
  unfold sGo
  have hb2 : (R 9 a ≤ R 10 a ∧ sBy R a = 1) ∨ (R 10 a < R 9 a ∧ sBy R a = -1) := by
    unfold sBy
    by_cases h : R 9 a ≤ R 10 a
    · rw [if_pos h]; exact Or.inl ⟨h, rfl⟩
    · rw [if_neg h]; exact Or.inr ⟨by omega, rfl⟩
  refine ZW.trav ha hng _ _ (fun i hi => ?_) h
  rcases hb2 with ⟨g, e⟩ | ⟨g, e⟩ <;> rw [e] at hi ⊢ <;> omega
/-- the stretches' rows end within the miles -/
theorem ZW.spend {s : Nat} (h1 : 0 ≤ R 2 s) (h2 : 1 ≤ R 1 s) (h3 : R 2 s + R 1 s ≤ 45) : ∀ (n : Nat) {W : Nat → Nat → Int}, ZW W → ZW (sSpend R s n W).2
  | 0, _, h => h
  | n + 1, W, h => by
    have hwi := sWst_in (f := W 1) (a := (R 2 s).toNat) (R 1 s).toNat
    have z1 : zl 1 = 45 := rfl
    unfold sSpend
    dsimp only
    split
    · exact h
    · exact ZW.spend h1 h2 h3 n (h.w (by decide) (by omega))
theorem ZW.mend (h : ZW W) {s : Nat} {x : Int} (hs : s < 5) (h1 : 0 ≤ R 2 s) (h2 : 1 ≤ R 1 s) (h3 : R 2 s + R 1 s ≤ 45) : ZW (sMend R W s x).2 := by
  have z3 : zl 3 = 5 := rfl
  unfold sMend
  dsimp only
  exact ((ZW.spend h1 h2 h3 _ h).w0 (by decide)).w (by decide) (by omega)
theorem ZW.farm {lg lr : Int} : ∀ (n g : Nat) {W : Nat → Nat → Int}, g + n ≤ 5 → ZW W → ZW (sFarm R lg lr g n W)
  | 0, _, _, _, h => h
  | n + 1, g, W, hg, h => by
    have z7 : zl 7 = 5 := rfl
    have z8 : zl 8 = 5 := rfl
    unfold sFarm
    exact ZW.farm n (g + 1) (by omega) ((h.w (by decide) (by omega)).w (by decide) (by omega))
/-- what of a road's numbers the rows' ends want -/
abbrev RZ (R : Nat → Nat → Int) : Prop := (R 0 0 ≤ 5 ∧ R 0 2 ≤ 5 ∧ R 0 3 ≤ 8) ∧ (∀ a : Nat, (a : Int) < R 0 3 → 0 ≤ R 9 a ∧ R 9 a < 45 ∧ 0 ≤ R 10 a ∧ R 10 a < 45) ∧ (∀ s : Nat, (s : Int) < R 0 0 → 0 ≤ R 2 s ∧ 1 ≤ R 1 s ∧ R 2 s + R 1 s ≤ 45) ∧ (∀ i : Nat, (i : Int) < R 12 0 → R 13 i = 15 → 0 ≤ R 15 i ∧ R 15 i < R 0 0)
theorem ZW.traf (hR : RZ R) : ∀ (n a : Nat) {W : Nat → Nat → Int}, (a : Int) + n ≤ max (R 0 3) 0 → ZW W → ZW (sTraf R a n W)
  | 0, _, _, _, h => h
  | n + 1, a, W, ha, h => by
    unfold sTraf
    split
    · exact ZW.traf hR n (a + 1) (by omega) (h.go (by omega) (by omega) (hR.2.1 a (by omega)))
    · exact ZW.traf hR n (a + 1) (by omega) h
theorem ZW.rents : ∀ (n g : Nat) {W : Nat → Nat → Int}, g + n ≤ 5 → ZW W → ZW (sRents g n W)
  | 0, _, _, _, h => h
  | n + 1, g, W, hg, h => by
    have z6 : zl 6 = 5 := rfl
    unfold sRents
    split
    · exact ZW.rents n (g + 1) (by omega) h
    · exact ZW.rents n (g + 1) (by omega) ((h.w0 (by decide)).w (by decide) (by omega))
theorem ZW.mends (hR : RZ R) : ∀ (n i : Nat) {W : Nat → Nat → Int}, (i : Int) + n ≤ max (R 12 0) 0 → ZW W → ZW (sMends R i n W)
  | 0, _, _, _, h => h
  | n + 1, i, W, hi, h => by
    unfold sMends
    split
    · rename_i hc
      have h1 := hR.2.2.2 i (by omega) hc.1
      have h2 := hR.2.2.1 (R 15 i).toNat (by omega)
      exact ZW.mends hR n (i + 1) (by omega) (h.mend (by omega) h2.1 h2.2.1 h2.2.2)
    · exact ZW.mends hR n (i + 1) (by omega) h
theorem ZW.day (hR : RZ R) (h : ZW W) : ZW (sDay R W) := by
  have h1 := hR.1
  unfold sDay sCap
  have hw := ((ZW.mends hR (R 12 0).toNat 0 (by omega) (ZW.rents (R 0 2).toNat 0 (by omega) (ZW.traf hR (R 0 3).toNat 0 (by omega) (ZW.farm (lg := W 0 16) (lr := W 0 17) (R := R) (R 0 2).toNat 0 (by omega) h)))))
  dsimp only
  split
  · exact (hw.w0 (by decide)).w0 (by decide)
  · exact hw.w0 (by decide)
theorem ZW.days (hR : RZ R) : ∀ (n : Nat) {W : Nat → Nat → Int}, ZW W → ZW (sDays R n W)
  | 0, _, h => h
  | n + 1, _, h => ZW.days hR n (h.day hR)
end C17
