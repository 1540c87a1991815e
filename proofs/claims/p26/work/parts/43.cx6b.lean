/-! contracts: what a traffic pays, how a mile wears; least, worst, broken -/
section C2
variable {E : Nat → Value} {d : Nat} {S : aS} {M : Nat → Nat → Int} {Q : Option (Option Value) → aS → aI → Prop}
theorem w_ne {M : Nat → Nat → Int} {t i j k : Nat} {x : Int} (h : j ≠ i) : mW M (t + i) k x (t + j) = M (t + j) := mW_ne (by omega)
theorem w_n0 {M : Nat → Nat → Int} {t j k : Nat} {x : Int} (h : j ≠ 0) : mW M t k x (t + j) = M (t + j) := mW_ne (by omega)
theorem w_0n {M : Nat → Nat → Int} {t i k : Nat} {x : Int} (h : i ≠ 0) : mW M (t + i) k x t = M t := mW_ne (by omega)
theorem w_00 {n : Nat} {M : Nat → Nat → Int} {t : Nat} : win n M t 0 = M t := by rw [win_at (Nat.zero_le n)]; rfl
theorem vAt_in {n : Nat} {f : Nat → Int} {x : Int} (h : 0 ≤ x ∧ x < (n : Int)) : vAt n f x = f x.toNat := by unfold vAt; rw [if_pos h]
theorem mX6_pay {t rk rd a g : Nat} (hT : TrS S t rk rd) (hM : RM M) (hd : 1 ≤ d) (ha : a < 8) (hg : g < 5) (k : ∀ M', RM M' → win 12 M' t = sPay (win 12 M t) a g → Fr t (t + 12) (rk + 1) M M' → Q (some none) S (mI M')) : X E d fX6_pay 0 [some (.ref t), some (J a), some (J g), none] [] S (mI M) Q := by
  have n15 := hT.n15
  have n8 := hT.n8
  have n10 := hT.n10
  have n11 := hT.n11
  refine kX6_pay_0 hd (mX6_tollOf hT hM ha hg ⟨_, rfl, ?_⟩) hT.kd
  refine kX6_pay_6 (t0 := sToll (win 12 M t) a g) hT.kd hT.p15 hT.d15 ⟨by omega, by omega⟩ ⟨by omega, by omega⟩ hT.a15 hT.p8 hT.d8 ⟨by omega, by omega⟩ ⟨by omega, by omega⟩ hT.a8 rfl hT.p10 hT.d10 ⟨by omega, by omega⟩ (hM.z.z _ _) (fun h => ?_) (fun h => ?_)
  · refine kX6_pay_50 hT.kd hT.p11 hT.d11 ⟨by omega, by omega⟩ ⟨by omega, by omega⟩ hT.a11 (kX6_pay_60 (k _ hM.z.z.z ?_ ((((Fr.refl).w (Or.inl ⟨by omega, by omega⟩)).w (Or.inl ⟨by omega, by omega⟩)).w (Or.inl ⟨by omega, by omega⟩))))
    rw [w_ne (by decide), w_ne (by decide)] at h
    rw [win_W (by decide), win_W (by decide), win_W (by decide)]
    unfold sPay
    rw [if_neg (by rw [win_at (by decide)]; exact h)]
    rw [w_ne (by decide), w_ne (by decide), w_ne (by decide)]
    rw [win_at (by decide), win_at (by decide), win_at (by decide)]
    rfl
  · refine kX6_pay_37 hT.kd hT.k (kX6_pay_60 (k _ hM.z.z.z ?_ ((((Fr.refl).w (Or.inl ⟨by omega, by omega⟩)).w (Or.inl ⟨by omega, by omega⟩)).w (Or.inl ⟨by omega, by omega⟩))))
    rw [w_ne (by decide), w_ne (by decide)] at h
    rw [win_W0, win_W (by decide), win_W (by decide)]
    unfold sPay
    rw [if_pos (by rw [win_at (by decide)]; exact h)]
    rw [w_ne (by decide), w_0n (by decide), w_0n (by decide)]
    rw [win_at (by decide), win_at (by decide), w_00]
    rfl
theorem mX6_wear {t rk rd a m : Nat} (hC : Cx S t rk rd) (hM : RM M) (hd : 1 ≤ d) (ha : a < 8) (hm : m < 45) (h1 : 1 ≤ M (rd + 7) a ∧ M (rd + 7) a ≤ 60) (h2 : 0 ≤ M (rd + 4) m ∧ M (rd + 4) m < 5) (h3 : 0 ≤ M (rd + 3) (M (rd + 4) m).toNat ∧ M (rd + 3) (M (rd + 4) m).toNat ≤ 9) (h4 : 1 ≤ M (t + 9) a) (k : ∀ M', RM M' → win 12 M' t = sWear (win 21 M rd) (win 12 M t) a m → Fr t (t + 12) (rk + 1) M M' → Q (some none) S (mI M')) : X E d fX6_wear 0 [some (.ref t), some (J a), some (J m), none, none, none] [] S (mI M) Q := by
  have hT := hC.tr
  have hR := hC.ro
  have n12 := hT.n12
  have n4 := hT.n4
  have n5 := hT.n5
  have r7 := hR.n7
  have r10 := hR.n10
  refine kX6_wear_0 hT.kd hT.p1 hR.kd hR.p10 hR.d10 ⟨by omega, by omega⟩ ⟨by omega, by omega⟩ hR.p6 hR.p7 hR.d7 ⟨by omega, by omega⟩ ⟨by omega, by omega⟩ hd ?_
  refine mX7_valueAt hR.d6 (hM _ _) hR.n6 (by decide) ⟨_, rfl, ?_⟩
  have e1 : vAt 5 (M (rd + 3)) (M (rd + 4) m) = M (rd + 3) (M (rd + 4) m).toNat := vAt_in h2
  refine kX6_wear_28 (t0 := vAt 5 (M (rd + 3)) (M (rd + 4) m)) (t1 := M (rd + 7) a) hT.kd hT.p12 hT.d12 ⟨by omega, by omega⟩ ⟨by omega, by omega⟩ (hM _ _) (fun h => absurd h4 (by rw [Int.toNat_natCast] at h; omega)) (fun h => ?_)
  rw [e1]
  have hl : 0 ≤ M (rd + 7) a * M (rd + 3) (M (rd + 4) m).toNat ∧ M (rd + 7) a * M (rd + 3) (M (rd + 4) m).toNat ≤ 60 * 9 :=
    ⟨Int.mul_nonneg (by omega) h3.1, Int.mul_le_mul h1.2 h3.2 h3.1 (by decide)⟩
  have hq : 0 ≤ (M (rd + 7) a * M (rd + 3) (M (rd + 4) m).toNat).tdiv (M (t + 9) a) ∧ (M (rd + 7) a * M (rd + 3) (M (rd + 4) m).toNat).tdiv (M (t + 9) a) ≤ M (rd + 7) a * M (rd + 3) (M (rd + 4) m).toNat :=
    ⟨Int.tdiv_nonneg hl.1 (by omega), Int.tdiv_le_self _ hl.1⟩
  refine kX6_wear_39 hT.kd hT.p12 hT.d12 ⟨by omega, by omega⟩ ⟨by omega, by omega⟩ ⟨by omega, by omega⟩ (hM _ _) (by rw [Int.toNat_natCast]; omega) ?_
  rw [Int.toNat_natCast]
  refine kX6_wear_51 hT.kd hT.p4 hT.d4 ⟨by omega, by omega⟩ ⟨by omega, by omega⟩ ⟨by omega, by omega⟩ (hM _ _) hT.a4 hT.p5 hT.d5 ⟨by omega, by omega⟩ hT.a5 rfl ?_
  refine k _ hM.z.z ?_ (((Fr.refl).w (Or.inl ⟨by omega, by omega⟩)).w (Or.inl ⟨by omega, by omega⟩))
  rw [win_W (by decide), win_W (by decide), w_ne (by decide)]
  unfold sWear sLess
  rw [win_at (n := 21) (by decide), win_at (n := 21) (by decide), win_at (n := 21) (by decide), win_at (n := 12) (by decide), win_at (n := 12) (by decide), win_at (n := 12) (by decide)]
  rfl
theorem mX6_leastCondition {t rk rd : Nat} {x : Int} (hC : Cx S t rk rd) (hM : RM M) (hd : 1 ≤ d) (hx : R32 x) (h1 : 0 ≤ vAt 5 (M (rd + 2)) x) (h2 : 0 ≤ vAt 5 (M (rd + 1)) x) (h3 : vAt 5 (M (rd + 2)) x + vAt 5 (M (rd + 1)) x ≤ 45) (q : Q (some (some (J (sLeast (win 21 M rd) (win 12 M t) x)))) S (mI M)) : X E d fX6_leastCondition 0 [some (.ref t), some (J x), none, none, none, none] [] S (mI M) Q := by
  have hT := hC.tr
  have hR := hC.ro
  have n4 := hT.n4
  refine kX6_leastCondition_0 hT.kd hT.p1 hR.kd hR.p5 hd ?_
  refine mX7_valueAt hR.d5 hx hR.n5 (by decide) ⟨_, rfl, ?_⟩
  refine kX6_leastCondition_11 (t0 := vAt 5 (M (rd + 2)) x) hT.kd hT.p1 hR.kd hR.p4 hd ?_
  refine mX7_valueAt hR.d4 hx hR.n4 (by decide) ⟨_, rfl, ?_⟩
  refine kX6_leastCondition_24 (t0 := vAt 5 (M (rd + 1)) x) (t1 := vAt 5 (M (rd + 2)) x) ?_
  unfold sLeast at q
  rw [win_at (by decide), win_at (by decide), win_at (by decide)] at q
  generalize vAt 5 (M (rd + 2)) x = a at *
  generalize vAt 5 (M (rd + 1)) x = n at *
  obtain ⟨a, rfl⟩ := Int.eq_ofNat_of_zero_le h1
  obtain ⟨n, rfl⟩ := Int.eq_ofNat_of_zero_le h2
  have hl : ∀ m i, i + m = n → X E d fX6_leastCondition 33 [some (.ref t), some (J x), some (J (a : Int)), some (J ((a : Int) + (n : Int))), some (J (sMin (M (t + 1)) a i)), some (J ((a + i : Nat) : Int))] [] S (mI M) Q := by
    intro m
    induction m with
    | zero =>
      intro i hi
      have hi : i = n := by omega
      subst hi
      exact kX6_leastCondition_33 ⟨by omega, by omega⟩ ⟨by omega, by omega⟩ (fun _ => kX6_leastCondition_73 q) (fun h => absurd h (by omega))
    | succ m ih =>
      intro i hi
      refine kX6_leastCondition_33 ⟨by omega, by omega⟩ ⟨by omega, by omega⟩ (fun h => absurd h (by omega)) (fun _ => ?_)
      refine kX6_leastCondition_39 ⟨by omega, by omega⟩ (fun h => absurd h (by omega)) (fun _ => ?_)
      have hi1 := ih (i + 1) (by omega)
      unfold sMin at hi1
      have hs : R32 (sMin (M (t + 1)) a i) := by
        have g1 := sMin_le (f := M (t + 1)) (a := a) i
        have g2 := sMin_ge (f := M (t + 1)) (a := a) (b := -2147483648) (by decide) i (fun j _ => (hM _ _).1)
        exact ⟨g2, by omega⟩
      refine kX6_leastCondition_46 hT.kd hT.p4 hT.d4 ⟨by omega, by omega⟩ ⟨by omega, by omega⟩ (hM _ _) hs (fun h => ?_) (fun h => ?_)
      · rw [if_neg (by rw [Int.toNat_natCast] at h; omega)] at hi1
        exact kX6_leastCondition_67 hi1
      · rw [if_pos (by rw [Int.toNat_natCast] at h; exact h)] at hi1
        exact kX6_leastCondition_58 hT.kd hT.p4 hT.d4 ⟨by omega, by omega⟩ ⟨by omega, by omega⟩ (kX6_leastCondition_67 hi1)
  exact hl n 0 (by omega)
theorem mX6_worstMile {t rk rd s : Nat} (hC : Cx S t rk rd) (hM : RM M) (hd : 1 ≤ d) (hs : s < 5) (h1 : 0 ≤ M (rd + 2) s) (h2 : 1 ≤ M (rd + 1) s) (h3 : M (rd + 2) s + M (rd + 1) s ≤ 45) (q : Q (some (some (J (sWst (M (t + 1)) (M (rd + 2) s).toNat (M (rd + 1) s).toNat : Nat)))) S (mI M)) : X E d fX6_worstMile 0 [some (.ref t), some (J s), none, none, none] [] S (mI M) Q := by
  have hT := hC.tr
  have hR := hC.ro
  have n4 := hT.n4
  refine kX6_worstMile_0 hT.kd hT.p1 hR.kd hR.p5 hd ?_
  refine mX7_valueAt hR.d5 ⟨by omega, by omega⟩ hR.n5 (by decide) ⟨_, rfl, ?_⟩
  rw [show vAt 5 (M (rd + 2)) (s : Int) = M (rd + 2) s from vAt_in ⟨by omega, by omega⟩]
  refine kX6_worstMile_11 (t0 := M (rd + 2) s) hT.kd hT.p1 hR.kd hR.p4 hd ?_
  refine mX7_valueAt hR.d4 ⟨by omega, by omega⟩ hR.n4 (by decide) ⟨_, rfl, ?_⟩
  rw [show vAt 5 (M (rd + 1)) (s : Int) = M (rd + 1) s from vAt_in ⟨by omega, by omega⟩]
  refine kX6_worstMile_24 (t0 := M (rd + 1) s) (t1 := M (rd + 2) s) ?_
  generalize M (rd + 2) s = a at *
  generalize M (rd + 1) s = n at *
  obtain ⟨a, rfl⟩ := Int.eq_ofNat_of_zero_le h1
  obtain ⟨n, rfl⟩ := Int.eq_ofNat_of_zero_le (Int.le_trans (by decide) h2)
  have hl : ∀ m i, i + m = n → X E d fX6_worstMile 29 [some (.ref t), some (J s), some (J (sWst (M (t + 1)) a i : Nat)), some (J ((a : Int) + (n : Int))), some (J ((a + i : Nat) : Int))] [] S (mI M) Q := by
    intro m
    induction m with
    | zero =>
      intro i hi
      have hi : i = n := by omega
      subst hi
      exact kX6_worstMile_29 ⟨by omega, by omega⟩ ⟨by omega, by omega⟩ (fun _ => kX6_worstMile_67 q) (fun h => absurd h (by omega))
    | succ m ih =>
      intro i hi
      refine kX6_worstMile_29 ⟨by omega, by omega⟩ ⟨by omega, by omega⟩ (fun h => absurd h (by omega)) (fun _ => ?_)
      refine kX6_worstMile_35 ⟨by omega, by omega⟩ (fun h => absurd h (by omega)) (fun _ => ?_)
      have hi1 := ih (i + 1) (by omega)
      unfold sWst at hi1
      have hw := sWst_in (f := M (t + 1)) (a := a) i
      refine kX6_worstMile_42 hT.kd hT.p4 hT.d4 ⟨by omega, by omega⟩ ⟨by omega, by omega⟩ ⟨by omega, by omega⟩ ⟨by omega, by omega⟩ (hM _ _) (hM _ _) (fun h => ?_) (fun h => ?_)
      · rw [if_neg (by rw [Int.toNat_natCast, Int.toNat_natCast] at h; omega)] at hi1
        exact kX6_worstMile_61 hi1
      · rw [if_pos (by rw [Int.toNat_natCast, Int.toNat_natCast] at h; exact h)] at hi1
        exact kX6_worstMile_58 (kX6_worstMile_61 hi1)
  exact hl n 0 (by omega)
end C2
