/-! contracts: worst; by hand; days -/
section C19
variable {E : Nat → Value} {d : Nat} {S : aS} {M : Nat → Nat → Int} {Q : Option (Option Value) → aS → aI → Prop}
/-- the worst mile among the first n, -1 for none -/
def cWorst (W : Nat → Nat → Int) : Nat → Int
  | 0 => -1
  | n + 1 => if cWorst W n = -1 ∨ W 1 n < W 1 (cWorst W n).toNat then (n : Int) else cWorst W n
theorem cWorst_in {W : Nat → Nat → Int} : ∀ n, -1 ≤ cWorst W n ∧ cWorst W n < (n : Int)
  | 0 => ⟨Int.le_refl _, by unfold cWorst; decide⟩
  | n + 1 => by
    have h := cWorst_in (W := W) n
    unfold cWorst
    split <;> omega
theorem mX7_worst {c t t2 rk rd : Nat} (hc : ClS S c t t2 rd) (hC : Cx S t rk rd) (hM : RM M) (hP : RdP M rd) (q : Q (some (some (J (cWorst (win 12 M t) (M rd 1).toNat)))) S (mI M)) : X E d fX7_worst 0 [some (.ref c), none, none] [] S (mI M) Q := by
  have hT := hC.tr
  have hR := hC.ro
  have hm := hP.nm
  have n4 := hT.n4
  refine kX7_worst_0 ?_
  have hl : ∀ n i, i + n = (M rd 1).toNat → X E d fX7_worst 4 [some (.ref c), some (J (cWorst (win 12 M t) i)), some (J (i : Int))] [] S (mI M) Q := by
    intro n
    induction n with
    | zero =>
      intro i hi
      have hi : (M rd 1).toNat = i := by omega
      rw [hi] at q
      exact kX7_worst_4 hc.kd hc.p8 hR.kd ⟨by omega, by omega⟩ (hM _ _) (fun _ => kX7_worst_49 q) (fun h => absurd h (by omega))
    | succ n ih =>
      intro i hi
      have h1 := ih (i + 1) (by omega)
      have hw := cWorst_in (W := win 12 M t) i
      unfold cWorst at h1
      rw [win_at (by decide)] at h1
      refine kX7_worst_4 hc.kd hc.p8 hR.kd ⟨by omega, by omega⟩ (hM _ _) (fun h => absurd h (by omega)) (fun _ => ?_)
      refine kX7_worst_15 ⟨by omega, by omega⟩ (fun h => ?_) (fun h => ?_)
      · rw [if_pos (Or.inl h)] at h1
        exact kX7_worst_41 (kX7_worst_43 h1)
      · refine kX7_worst_20 hc.kd hc.p6 hT.kd hT.p4 hT.d4 ⟨by omega, by omega⟩ ⟨by omega, by omega⟩ ⟨by omega, by omega⟩ ⟨by omega, by omega⟩ (hM _ _) (hM _ _) (fun h2 => ?_) (fun h2 => ?_)
        · rw [Int.toNat_natCast] at h2
          rw [if_neg (fun z => z.elim h (fun y => absurd y (by omega)))] at h1
          exact kX7_worst_43 h1
        · rw [Int.toNat_natCast] at h2
          rw [if_pos (Or.inr h2)] at h1
          exact kX7_worst_41 (kX7_worst_43 h1)
  exact hl (M rd 1).toNat 0 (by omega)
theorem mX7_setToll {c t t2 rk rd g : Nat} {x : Int} (hc : ClS S c t t2 rd) (hC : Cx S t rk rd) (hM : RM M) (hP : RdP M rd) (hd : 1 ≤ d) (hg : (g : Int) < M rd 2) (hx : 0 ≤ x ∧ x ≤ 60)
    (k : ∀ M', RM M' → win 12 M' t = mW (win 12 M t) 4 g x → Fr t (t + 12) (rk + 1) M M' → Q (some (some (J (win 12 M t 4 g)))) S (mI M')) : X E d fX7_setToll 0 [some (.ref c), some (J g), some (J x), none] [] S (mI M) Q := by
  have hT := hC.tr
  have hR := hC.ro
  have h3 := hP.ng
  have n7 := hT.n7
  refine kX7_setToll_0 hc.kd hc.p8 hR.kd hd (mX7_isOutside ⟨by omega, by omega⟩ (hM _ _) ⟨_, rfl, ?_⟩)
  rw [if_neg (by omega)]
  refine kX7_setToll_11 (t0 := 0) R32_0 (fun _ => ?_) (fun h => absurd rfl h)
  refine kX7_setToll_24 ⟨by omega, by omega⟩ (fun h => absurd h (by omega)) (fun _ => ?_)
  refine kX7_setToll_28 ⟨by omega, by omega⟩ (fun _ => ?_) (fun h => absurd h (by omega))
  refine kX7_setToll_44 hc.kd hc.p6 hT.kd hT.p7 hT.d7 ⟨by omega, by omega⟩ ⟨by omega, by omega⟩ hT.a7 ?_
  rw [Int.toNat_natCast]
  have z := k _ (hM.w ⟨by omega, by omega⟩) (win_W (i := 4) (by decide)) (Fr.refl.w (Or.inl ⟨by omega, by omega⟩))
  rw [win_at (by decide)] at z
  exact z
theorem mX7_setWheels {c t t2 rk rd a : Nat} {x : Int} (hc : ClS S c t t2 rd) (hC : Cx S t rk rd) (hM : RM M) (hP : RdP M rd) (hd : 1 ≤ d) (ha : (a : Int) < M rd 3) (hx : 1 ≤ x ∧ x ≤ 16)
    (k : ∀ M', RM M' → win 12 M' t = mW (win 12 M t) 9 a x → Fr t (t + 12) (rk + 1) M M' → Q (some (some (J (win 12 M t 9 a)))) S (mI M')) : X E d fX7_setWheels 0 [some (.ref c), some (J a), some (J x), none] [] S (mI M) Q := by
  have hT := hC.tr
  have hR := hC.ro
  have h3 := hP.nt
  have n12 := hT.n12
  refine kX7_setWheels_0 hc.kd hc.p8 hR.kd hd (mX7_isOutside ⟨by omega, by omega⟩ (hM _ _) ⟨_, rfl, ?_⟩)
  rw [if_neg (by omega)]
  refine kX7_setWheels_11 (t0 := 0) R32_0 (fun _ => ?_) (fun h => absurd rfl h)
  refine kX7_setWheels_25 ⟨by omega, by omega⟩ (fun h => absurd h (by omega)) (fun _ => ?_)
  refine kX7_setWheels_30 ⟨by omega, by omega⟩ (fun _ => ?_) (fun h => absurd h (by omega))
  refine kX7_setWheels_47 hc.kd hc.p6 hT.kd hT.p12 hT.d12 ⟨by omega, by omega⟩ ⟨by omega, by omega⟩ hT.a12 ?_
  rw [Int.toNat_natCast]
  have z := k _ (hM.w ⟨by omega, by omega⟩) (win_W (i := 9) (by decide)) (Fr.refl.w (Or.inl ⟨by omega, by omega⟩))
  rw [win_at (by decide)] at z
  exact z
theorem mX7_grant {c t t2 rk rd : Nat} {x : Int} (hc : ClS S c t t2 rd) (hC : Cx S t rk rd) (hM : RM M) (hd : 1 ≤ d) (hx : 1 ≤ x ∧ x ≤ 9999)
    (k : ∀ M', RM M' → win 12 M' t = sCap (mW (win 12 M t) 0 3 (nz (win 12 M t 0 3 + x))) → Fr t (t + 12) (rk + 1) M M' → Q (some (some (J (win 12 M' t 0 3)))) S (mI M')) : X E d fX7_grant 0 [some (.ref c), some (J x)] [] S (mI M) Q := by
  have hT := hC.tr
  refine kX7_grant_0 ⟨by omega, by omega⟩ (fun h => absurd h (by omega)) (fun _ => ?_)
  refine kX7_grant_5 ⟨by omega, by omega⟩ (fun _ => ?_) (fun h => absurd h (by omega))
  refine kX7_grant_23 hc.kd hc.p6 hT.kd hT.k hd (mX6_keepCoins (rk := rk) hT hM.z (fun M2 hM2 hW2 hf2 => ⟨none, rfl, ?_⟩))
  rw [win_W0] at hW2
  have z := k M2 hM2 (by rw [hW2, w_00]) ((Fr.refl.w (Or.inl ⟨by omega, by omega⟩)).trans hf2)
  rw [w_00] at z
  exact kX7_grant_43 hc.kd hc.p6 hT.kd z
theorem mX7_pass {c t t2 rk rd n : Nat} (hc : ClS S c t t2 rd) (hC : Cx S t rk rd) (hM : RM M) (hP : RdP M rd) (hd : 7 ≤ d) (hn : 1 ≤ n ∧ n ≤ 120) (hw : ∀ a : Nat, (a : Int) < M rd 3 → 1 ≤ M (t + 9) a)
    (k : ∀ M', RM M' → win 12 M' t = sDays (win 21 M rd) n (win 12 M t) → Fr t (t + 12) (rk + 1) M M' → Q (some (some (J (sSum (win 12 M' t 10) (M rd 3).toNat - sSum (win 12 M t 10) (M rd 3).toNat)))) S (mI M')) : X E d fX7_pass 0 [some (.ref c), some (J n)] [] S (mI M) Q := by
  have hT := hC.tr
  refine kX7_pass_0 ⟨by omega, by omega⟩ (fun h => absurd h (by omega)) (fun _ => ?_)
  refine kX7_pass_5 ⟨by omega, by omega⟩ (fun _ => ?_) (fun h => absurd h (by omega))
  exact kX7_pass_22 hc.kd hc.p6 (by omega) (mX6_letGo hC hM hP (by omega) (by omega) hw (fun M2 hM2 hW2 hf2 => ⟨_, rfl, kX7_pass_30 (k M2 hM2 hW2 hf2)⟩)) hT.kd
end C19
