/-! contracts: broken miles, totals -/
section C15
variable {E : Nat → Value} {d : Nat} {S : aS} {M : Nat → Nat → Int} {Q : Option (Option Value) → aS → aI → Prop}
theorem mX6_brokenMilesIn {t rk rd a n : Nat} (hT : TrS S t rk rd) (hM : RM M) (h : a + n ≤ 45) (q : Q (some (some (J (sBrk (M (t + 1)) a n)))) S (mI M)) : X E d fX6_brokenMilesIn 0 [some (.ref t), some (J a), some (J n), none, none] [] S (mI M) Q := by
  have n4 := hT.n4
  refine kX6_brokenMilesIn_0 ?_
  have hl : ∀ m i, i + m = n → X E d fX6_brokenMilesIn 5 [some (.ref t), some (J (a : Int)), some (J (n : Int)), some (J (sBrk (M (t + 1)) a i)), some (J (i : Int))] [] S (mI M) Q := by
    intro m
    induction m with
    | zero =>
      intro i hi
      have hi : i = n := by omega
      subst hi
      exact kX6_brokenMilesIn_5 ⟨by omega, by omega⟩ ⟨by omega, by omega⟩ (fun _ => kX6_brokenMilesIn_41 q) (fun h => absurd h (by omega))
    | succ m ih =>
      intro i hi
      have hi1 := ih (i + 1) (by omega)
      unfold sBrk at hi1
      have ea : ((a : Int) + (i : Int)).toNat = a + i := by omega
      refine kX6_brokenMilesIn_5 ⟨by omega, by omega⟩ ⟨by omega, by omega⟩ (fun h => absurd h (by omega)) (fun _ => ?_)
      refine kX6_brokenMilesIn_11 ⟨by omega, by omega⟩ (fun h => absurd h (by omega)) (fun _ => ?_)
      refine kX6_brokenMilesIn_20 hT.kd hT.p4 hT.d4 ⟨by omega, by omega⟩ ⟨by omega, by omega⟩ (hM _ _) (fun h => ?_) (fun h => ?_)
      · rw [ea] at h
        rw [if_neg h] at hi1
        exact kX6_brokenMilesIn_35 hi1
      · rw [ea] at h
        rw [if_pos h] at hi1
        exact kX6_brokenMilesIn_32 (kX6_brokenMilesIn_35 hi1)
  exact hl n 0 (by omega)
/-- the totals that are told by 7 to 11 -/
def sTot (R W : Nat → Nat → Int) (x : Int) : Int := if x = 7 then sSum (W 1) (R 0 1).toNat else if x = 8 then sBrk (W 1) 0 (R 0 1).toNat else if x = 9 then sSum (W 5) (R 0 2).toNat else if x = 10 then sSum (W 6) (R 0 2).toNat else sSum (W 3) (R 0 0).toNat
theorem mX6_total {t rk rd : Nat} {x : Int} (hC : Cx S t rk rd) (hM : RM M) (hP : RdP M rd) (hx : R32 x) (hd : 1 ≤ d) (q : Q (some (some (J (sTot (win 21 M rd) (win 12 M t) x)))) S (mI M)) : X E d fX6_total 0 [some (.ref t), some (J x)] [] S (mI M) Q := by
  have hT := hC.tr
  have hR := hC.ro
  have h1 := hP.ns
  have h2 := hP.nm
  have h3 := hP.ng
  obtain ⟨ns, e0⟩ := Int.eq_ofNat_of_zero_le h1.1
  obtain ⟨nm, e1⟩ := Int.eq_ofNat_of_zero_le h2.1
  obtain ⟨ng, e2⟩ := Int.eq_ofNat_of_zero_le h3.1
  unfold sTot at q
  rw [w_00, win_at (n := 12) (by decide), win_at (n := 12) (by decide), win_at (n := 12) (by decide), win_at (n := 12) (by decide), e0, e1, e2, Int.toNat_natCast, Int.toNat_natCast, Int.toNat_natCast] at q
  refine kX6_total_0 hx (fun h => ?_) (fun h => ?_) (fun h => ?_) (fun h => ?_) (fun h => ?_)
  · rw [if_neg (by omega), if_neg (by omega), if_neg (by omega), if_neg (by omega)] at q
    refine kX6_total_90 hT.kd hT.p6 hT.p1 hR.kd hd ?_
    rw [e0]
    exact mX7_sumOf hT.d6 hT.n6 (by decide) (by omega) ⟨_, rfl, kX6_total_104 (t0 := sSum (M (t + 3)) ns) q⟩
  · rw [if_pos h] at q
    refine kX6_total_32 hT.kd hT.p4 hT.p1 hR.kd hd ?_
    rw [e1]
    exact mX7_sumOf hT.d4 hT.n4 (by decide) (by omega) ⟨_, rfl, kX6_total_46 (t0 := sSum (M (t + 1)) nm) q⟩
  · rw [if_neg (by omega), if_pos h] at q
    refine kX6_total_47 hT.kd hT.p1 hR.kd hd ?_
    rw [e1]
    exact mX6_brokenMilesIn (a := 0) hT hM (by omega) ⟨_, rfl, kX6_total_59 (t0 := sBrk (M (t + 1)) 0 nm) q⟩
  · rw [if_neg (by omega), if_neg (by omega), if_pos h] at q
    refine kX6_total_60 hT.kd hT.p8 hT.p1 hR.kd hd ?_
    rw [e2]
    exact mX7_sumOf hT.d8 hT.n8 (by decide) (by omega) ⟨_, rfl, kX6_total_74 (t0 := sSum (M (t + 5)) ng) q⟩
  · rw [if_neg (by omega), if_neg (by omega), if_neg (by omega), if_pos h] at q
    refine kX6_total_75 hT.kd hT.p9 hT.p1 hR.kd hd ?_
    rw [e2]
    exact mX7_sumOf hT.d9 hT.n9 (by decide) (by omega) ⟨_, rfl, kX6_total_89 (t0 := sSum (M (t + 6)) ng) q⟩
theorem mX6_brokenMilesOf {t rk rd s : Nat} (hC : Cx S t rk rd) (hM : RM M) (hd : 1 ≤ d) (hs : s < 5) (h1 : 0 ≤ M (rd + 2) s) (h2 : 0 ≤ M (rd + 1) s) (h3 : M (rd + 2) s + M (rd + 1) s ≤ 45) (q : Q (some (some (J (sBrk (M (t + 1)) (M (rd + 2) s).toNat (M (rd + 1) s).toNat)))) S (mI M)) : X E d fX6_brokenMilesOf 0 [some (.ref t), some (J s)] [] S (mI M) Q := by
  have hT := hC.tr
  have hR := hC.ro
  refine kX6_brokenMilesOf_0 hT.kd hT.p1 hR.kd hR.p5 hd ?_
  refine mX7_valueAt hR.d5 ⟨by omega, by omega⟩ hR.n5 (by decide) ⟨_, rfl, ?_⟩
  rw [show vAt 5 (M (rd + 2)) (s : Int) = M (rd + 2) s from vAt_in ⟨by omega, by omega⟩]
  refine kX6_brokenMilesOf_12 (t0 := M (rd + 2) s) hT.kd hT.p1 hR.kd hR.p4 hd ?_
  refine mX7_valueAt hR.d4 ⟨by omega, by omega⟩ hR.n4 (by decide) ⟨_, rfl, ?_⟩
  rw [show vAt 5 (M (rd + 1)) (s : Int) = M (rd + 1) s from vAt_in ⟨by omega, by omega⟩]
  obtain ⟨a, ea⟩ := Int.eq_ofNat_of_zero_le h1
  obtain ⟨n, en⟩ := Int.eq_ofNat_of_zero_le h2
  rw [ea, en] at q h3 ⊢
  rw [Int.toNat_natCast, Int.toNat_natCast] at q
  exact kX6_brokenMilesOf_23 (t0 := (n : Int)) (t1 := (a : Int)) hd (mX6_brokenMilesIn hT hM (by omega) ⟨_, rfl, kX6_brokenMilesOf_26 (t0 := sBrk (M (t + 1)) a n) q⟩) hT.kd
end C15
