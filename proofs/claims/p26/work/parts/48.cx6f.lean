/-! contracts: mended by orders, days -/
section C7
variable {E : Nat → Value} {d : Nat} {S : aS} {M : Nat → Nat → Int} {Q : Option (Option Value) → aS → aI → Prop}
theorem mX6_mendByOrders {t rk rd : Nat} (hC : Cx S t rk rd) (hM : RM M) (hP : RdP M rd) (hd : 4 ≤ d) (k : ∀ M', RM M' → win 12 M' t = sMends (win 21 M rd) 0 (M (rd + 12) 0).toNat (win 12 M t) → Fr t (t + 12) (rk + 1) M M' → Q (some none) S (mI M')) : X E d fX6_mendByOrders 0 [some (.ref t), none, none, none, none] [] S (mI M) Q := by
  have hT := hC.tr
  have hR := hC.ro
  have hO := hC.os
  have hK := hC.re
  have h1 := hC.h1
  have h2 := hC.h2
  have o1 := hO.n1
  have o3 := hO.n3
  have o5 := hO.n5
  have o6 := hO.n6
  have o7 := hO.n7
  have hno := hP.no
  have hns := hP.ns
  refine kX6_mendByOrders_0 hT.kd hT.p1 hR.kd hR.p15 ?_
  have hl : ∀ m i M' W' o3 o4, i + m = (M (rd + 12) 0).toNat → RM M' → Fr t (t + 12) (rk + 1) M M' → win 12 M' t = W' →
      (∀ M', RM M' → win 12 M' t = sMends (win 21 M rd) i m W' → Fr t (t + 12) (rk + 1) M M' → Q (some none) S (mI M')) →
      X E d fX6_mendByOrders 10 [some (.ref t), some (.ref (rd + 12)), some (J (i : Int)), o3, o4] [] S (mI M') Q := by
    intro m
    induction m with
    | zero =>
      intro i M' W' q3 q4 hi hM' hf hW kk
      have e0 : M' (rd + 12) 0 = M (rd + 12) 0 := by rw [hf (rd + 12) (by omega) (by omega)]
      exact kX6_mendByOrders_10 hO.kd ⟨by omega, by omega⟩ (hM' _ _) (fun _ => kX6_mendByOrders_144 (kk M' hM' hW hf)) (fun h => absurd h (by omega))
    | succ m ih =>
      intro i M' W' q3 q4 hi hM' hf hW kk
      have e0 : M' (rd + 12) 0 = M (rd + 12) 0 := by rw [hf (rd + 12) (by omega) (by omega)]
      have e00 : M' rd 0 = M rd 0 := by rw [hf rd (by omega) (by omega)]
      have f13 : M' (rd + 12 + 1) = M (rd + 13) := hf (rd + 13) (by omega) (by omega)
      have f15 : M' (rd + 12 + 3) = M (rd + 15) := hf (rd + 15) (by omega) (by omega)
      have f17 : M' (rd + 12 + 5) = M (rd + 17) := hf (rd + 17) (by omega) (by omega)
      have f18 : M' (rd + 12 + 6) = M (rd + 18) := hf (rd + 18) (by omega) (by omega)
      have f19 : M' (rd + 12 + 7) = M (rd + 19) := hf (rd + 19) (by omega) (by omega)
      have hf5 := hP.tf i (by omega)
      have hmw := hP.mw i (by omega)
      have eR : win 21 M' rd = win 21 M rd := hf.win (by omega) (by omega)
      have hP' := hP.frT h1 h2 hf
      unfold sMends at kk
      rw [win_at (n := 21) (i := 13) (by decide), win_at (n := 21) (i := 15) (by decide), win_at (n := 21) (i := 17) (by decide), win_at (n := 21) (i := 18) (by decide), win_at (n := 21) (i := 19) (by decide)] at kk
      have skip : ∀ M1 q3 q4, RM M1 → Fr t (t + 12) (rk + 1) M M1 → win 12 M1 t = W' → ¬ (M (rd + 13) i = 15 ∧ (¬ M (rd + 18) i < M (rd + 19) i ∨ sEv (win 21 M rd) W' (M (rd + 18) i) (M (rd + 19) i) ≠ 0)) →
          X E d fX6_mendByOrders 138 [some (.ref t), some (.ref (rd + 12)), some (J (i : Int)), q3, q4] [] S (mI M1) Q := by
        intro M1 q3 q4 hM1 hf1 hW1 hn
        rw [if_neg hn] at kk
        exact kX6_mendByOrders_138 (ih (i + 1) M1 W' q3 q4 (by omega) hM1 hf1 hW1 kk)
      -- the sum, and its coins
      have hmend : ∀ M1 q3 q4, RM M1 → Fr t (t + 12) (rk + 1) M M1 → win 12 M1 t = W' → (M (rd + 13) i = 15 ∧ (¬ M (rd + 18) i < M (rd + 19) i ∨ sEv (win 21 M rd) W' (M (rd + 18) i) (M (rd + 19) i) ≠ 0)) →
          X E d fX6_mendByOrders 96 [some (.ref t), some (.ref (rd + 12)), some (J (i : Int)), q3, q4] [] S (mI M1) Q := by
        intro M1 q3 q4 hM1 hf1 hW1 hy
        rw [if_pos hy] at kk
        have hm2 := hmw hy.1
        have g17 : M1 (rd + 12 + 5) = M (rd + 17) := hf1 (rd + 17) (by omega) (by omega)
        have g18 : M1 (rd + 12 + 6) = M (rd + 18) := hf1 (rd + 18) (by omega) (by omega)
        have hP1 := hP.frT h1 h2 hf1
        have eR1 : win 21 M1 rd = win 21 M rd := hf1.win (by omega) (by omega)
        refine kX6_mendByOrders_96 hT.kd hT.p0 hO.kd hO.p5 hO.d5 ⟨by omega, by omega⟩ ⟨by omega, by omega⟩ hO.p6 hO.d6 ⟨by omega, by omega⟩ (by omega) ?_ hK.kd
        rw [Int.toNat_natCast, g17, g18]
        refine mX2_reckon hC hM1 hP1.L (by omega) hf5.1 ⟨⟨by omega, by omega⟩, by omega⟩ (hM _ _) (fun M2 hM2 hf2 => ⟨_, rfl, ?_⟩)
        rw [eR1, hW1]
        have hf2 : Fk (rk + 1) M1 M2 := hf2
        have hf3 : Fr t (t + 12) (rk + 1) M M2 := hf1.trans hf2.Fr
        have hW2 : win 12 M2 t = W' := (hf2.win (by omega)).trans hW1
        have eR2 : win 21 M2 rd = win 21 M rd := hf3.win (by omega) (by omega)
        have e15 : M2 (rd + 12 + 3) i = M (rd + 15) i := by rw [hf3 (rd + 12 + 3) (by omega) (by omega)]
        have e3 : M2 t 3 = W' 0 3 := by rw [← hW2, w_00]
        have e20 : M2 rd 0 = M rd 0 := by rw [hf3 rd (by omega) (by omega)]
        refine kX6_mendByOrders_116 (t0 := sEv (win 21 M rd) W' (M (rd + 17) i) (M (rd + 18) i)) hO.kd hO.p3 hO.d3 ⟨by omega, by omega⟩ ⟨by omega, by omega⟩ hT.kd sEv_R (hM2 _ _) (by omega) ?_
        rw [Int.toNat_natCast, e15, e3]
        generalize hww : M (rd + 15) i = w at *
        obtain ⟨w, rfl⟩ := Int.eq_ofNat_of_zero_le hm2.1
        have hev : R32 (sEv (win 21 M rd) W' (M (rd + 17) i) (M (rd + 18) i)) := sEv_R
        have hc3 := hM2 t 3
        refine mX6_spend hC hM2 (hP.frT h1 h2 hf3) (by omega) (by rw [e20]; exact hm2.2) ⟨by omega, by omega⟩ (fun M3 hM3 hW3 hf4 => ⟨_, rfl, ?_⟩)
        rw [eR2, hW2] at hW3
        exact kX6_mendByOrders_137 (t0 := _) (kX6_mendByOrders_138 (ih (i + 1) M3 _ _ _ (by omega) hM3 (hf3.trans hf4) hW3 kk))
      refine kX6_mendByOrders_10 hO.kd ⟨by omega, by omega⟩ (hM' _ _) (fun h => absurd h (by omega)) (fun _ => ?_)
      have hbody : ∀ z : Int, (z = 0 ∧ ¬ M (rd + 18) i < M (rd + 19) i ∨ z = 1 ∧ M (rd + 18) i < M (rd + 19) i) → X E d fX6_mendByOrders 38 [some (.ref t), some (.ref (rd + 12)), some (J (i : Int)), q3, q4] [J z] S (mI M') Q := by
        intro z hz
        refine kX6_mendByOrders_38 hO.kd hO.p1 hO.d1 ⟨by omega, by omega⟩ ⟨by omega, by omega⟩ (hM' _ _) (fun h => skip M' _ _ hM' hf hW (fun y => h ?_)) (fun c1 => ?_)
        · rw [Int.toNat_natCast, f13]; exact y.1
        · rw [Int.toNat_natCast, f13] at c1
          have hm2 := hmw c1
          refine kX6_mendByOrders_50 hO.kd hO.p3 hO.d3 ⟨by omega, by omega⟩ ⟨by omega, by omega⟩ hT.kd hT.p1 hR.kd (by omega) ?_
          rw [Int.toNat_natCast, f15, e00]
          refine mX7_isOutside (hM _ _) (hM _ _) ⟨_, rfl, ?_⟩
          rw [if_neg (by omega)]
          refine kX6_mendByOrders_66 (t0 := 0) R32_0 (fun h => absurd rfl h) (fun _ => ?_)
          refine kX6_mendByOrders_69 ⟨by omega, by omega⟩ (fun hz0 => ?_) (fun hz1 => ?_)
          · exact hmend M' _ _ hM' hf hW ⟨c1, Or.inl (by omega)⟩
          · have hlt : M (rd + 18) i < M (rd + 19) i := by omega
            refine kX6_mendByOrders_73 hT.kd hT.p0 hO.kd hO.p6 hO.d6 ⟨by omega, by omega⟩ ⟨by omega, by omega⟩ hO.p7 hO.d7 ⟨by omega, by omega⟩ (by omega) ?_ hK.kd
            rw [Int.toNat_natCast, f18, f19]
            refine mX2_reckon hC hM' hP'.L (by omega) (by omega) ⟨hM _ _, by omega⟩ (hM _ _) (fun M2 hM2 hf2 => ⟨_, rfl, ?_⟩)
            rw [eR, hW]
            have hf2 : Fk (rk + 1) M' M2 := hf2
            have hf3 : Fr t (t + 12) (rk + 1) M M2 := hf.trans hf2.Fr
            have hW2 : win 12 M2 t = W' := (hf2.win (by omega)).trans hW
            refine kX6_mendByOrders_93 (t0 := sEv (win 21 M rd) W' (M (rd + 18) i) (M (rd + 19) i)) sEv_R (fun h => ?_) (fun h => ?_)
            · exact skip M2 _ _ hM2 hf3 hW2 (fun y => y.2.elim (fun y => y hlt) (fun y => y h))
            · exact hmend M2 _ _ hM2 hf3 hW2 ⟨c1, Or.inr h⟩
      refine kX6_mendByOrders_18 hO.kd hO.p6 hO.d6 ⟨by omega, by omega⟩ ⟨by omega, by omega⟩ hO.p7 hO.d7 ⟨by omega, by omega⟩ (hM' _ _) (hM' _ _) (fun h => ?_) (fun h => ?_)
      · rw [Int.toNat_natCast, f18, f19] at h
        exact kX6_mendByOrders_37 (hbody 0 (Or.inl ⟨rfl, by omega⟩))
      · rw [Int.toNat_natCast, f18, f19] at h
        exact kX6_mendByOrders_33 (hbody 1 (Or.inr ⟨rfl, h⟩))
  exact hl _ 0 M _ none none (by omega) hM Fr.refl rfl k
theorem mX6_letGo {t rk rd n : Nat} (hC : Cx S t rk rd) (hM : RM M) (hP : RdP M rd) (hd : 6 ≤ d) (hn : n ≤ 1000000) (hw : ∀ a : Nat, (a : Int) < M rd 3 → 1 ≤ M (t + 9) a) (k : ∀ M', RM M' → win 12 M' t = sDays (win 21 M rd) n (win 12 M t) → Fr t (t + 12) (rk + 1) M M' → Q (some (some (J (sSum (win 12 M' t 10) (M rd 3).toNat - sSum (win 12 M t 10) (M rd 3).toNat)))) S (mI M')) : X E d fX6_letGo 0 [some (.ref t), some (J n), none, none, none, none] [] S (mI M) Q := by
  have hT := hC.tr
  have hR := hC.ro
  have h1 := hC.h1
  have h2 := hC.h2
  have r14 := hR.n14
  have hnt := hP.nt
  have hsum : ∀ {dd : Nat} {Q'} (M' : Nat → Nat → Int), Fr t (t + 12) (rk + 1) M M' → Q' (some (some (J (sSum (M' (t + 10)) (M rd 3).toNat)))) S (mI M') → X E dd fX7_sumOf 0 [some (.ref (t + 10)), some (J (M' rd 3)), none, none] [] S (mI M') Q' := by
    intro dd Q' M' hf q
    have e3 : M' rd 3 = M rd 3 := by rw [hf rd (by omega) (by omega)]
    rw [e3]
    generalize M rd 3 = x at *
    obtain ⟨x, rfl⟩ := Int.eq_ofNat_of_zero_le hnt.1
    rw [Int.toNat_natCast] at q
    exact mX7_sumOf hT.d13 hT.n13 (by decide) (by omega) q
  refine kX6_letGo_0 hT.kd hT.p13 hT.p1 hR.kd (by omega) (hsum M Fr.refl ⟨_, rfl, ?_⟩)
  refine kX6_letGo_14 (t0 := sSum (M (t + 10)) (M rd 3).toNat) ?_
  rw [win_at (i := 10) (by decide)] at k
  generalize hB : sSum (M (t + 10)) (M rd 3).toNat = before at *
  -- a day's traffics
  have ht : ∀ m a M' W' x o5, a + m = (M rd 3).toNat → RM M' → Fr t (t + 12) (rk + 1) M M' → win 12 M' t = W' → (∀ a : Nat, (a : Int) < M rd 3 → 1 ≤ W' 9 a) →
      (∀ M2 o4 o5, RM M2 → win 12 M2 t = sTraf (win 21 M rd) a m W' → Fr t (t + 12) (rk + 1) M M2 → X E d fX6_letGo 81 [some (.ref t), some (J (n : Int)), some (J before), some (J x), o4, o5] [] S (mI M2) Q) →
      X E d fX6_letGo 29 [some (.ref t), some (J (n : Int)), some (J before), some (J x), some (J (a : Int)), o5] [] S (mI M') Q := by
    intro m
    induction m with
    | zero =>
      intro a M' W' x o5 ha hM' hf hW h9 kk
      have e3 : M' rd 3 = M rd 3 := by rw [hf rd (by omega) (by omega)]
      exact kX6_letGo_29 hT.kd hT.p1 hR.kd ⟨by omega, by omega⟩ (hM' _ _) (fun _ => kk M' _ _ hM' hW hf) (fun h => absurd h (by omega))
    | succ m ih =>
      intro a M' W' x o5 ha hM' hf hW h9 kk
      have e3 : M' rd 3 = M rd 3 := by rw [hf rd (by omega) (by omega)]
      have e11 : M' (rd + 11) = M (rd + 11) := hf (rd + 11) (by omega) (by omega)
      have hev := hP.ev a (by omega)
      have eR : win 21 M' rd = win 21 M rd := hf.win (by omega) (by omega)
      have e2 : M' t 2 = W' 0 2 := by rw [← hW, w_00]
      unfold sTraf at kk
      rw [win_at (n := 21) (i := 11) (by decide)] at kk
      refine kX6_letGo_29 hT.kd hT.p1 hR.kd ⟨by omega, by omega⟩ (hM' _ _) (fun h => absurd h (by omega)) (fun _ => ?_)
      refine kX6_letGo_41 hT.kd hT.p1 hR.kd hR.p14 hR.d14 ⟨by omega, by omega⟩ ⟨by omega, by omega⟩ (hM' _ _) (fun h => ?_) (fun h => ?_)
      · rw [Int.toNat_natCast, e11] at h
        exact absurd h (by omega)
      · rw [Int.toNat_natCast, e11] at h ⊢
        have hmo : R32 ((M' t 2).tmod (M (rd + 11) a)) := by
          have z1 := Int.tmod_lt_of_pos (M' t 2) (b := M (rd + 11) a) (by omega)
          have z2 := Int.lt_tmod_of_pos (M' t 2) (b := M (rd + 11) a) (by omega)
          exact ⟨by omega, by omega⟩
        refine kX6_letGo_58 hT.kd (hM' _ _) (hM _ _) (by omega) hmo (fun h3 => ?_) (fun h3 => ?_)
        · rw [e2] at h3
          rw [if_neg h3] at kk
          exact kX6_letGo_75 (ih (a + 1) M' W' x _ (by omega) hM' hf hW h9 kk)
        · rw [e2] at h3
          rw [if_pos h3] at kk
          have w9 : 1 ≤ M' (t + 9) a := by
            have z := h9 a (by omega)
            rw [← hW, win_at (by decide)] at z
            exact z
          refine kX6_letGo_68 (by omega) (mX6_travel hC hM' (hP.frT h1 h2 hf) (by omega) (by omega) w9 (fun M2 hM2 hW2 hf2 => ⟨_, rfl, ?_⟩)) hT.kd
          rw [eR, hW] at hW2 ⊢
          exact kX6_letGo_74 (t0 := _) (kX6_letGo_75 (ih (a + 1) M2 _ x _ (by omega) hM2 (hf.trans hf2) hW2 (by rw [sGo_9]; exact h9) kk))
  -- the days
  have hl : ∀ m i M' W' o4 o5, i + m = n → RM M' → Fr t (t + 12) (rk + 1) M M' → win 12 M' t = W' → (∀ a : Nat, (a : Int) < M rd 3 → 1 ≤ W' 9 a) →
      (∀ M', RM M' → win 12 M' t = sDays (win 21 M rd) m W' → Fr t (t + 12) (rk + 1) M M' → Q (some (some (J (sSum (win 12 M' t 10) (M rd 3).toNat - before)))) S (mI M')) →
      X E d fX6_letGo 17 [some (.ref t), some (J (n : Int)), some (J before), some (J (i : Int)), o4, o5] [] S (mI M') Q := by
    intro m
    induction m with
    | zero =>
      intro i M' W' o4 o5 hi hM' hf hW h9 kk
      refine kX6_letGo_17 ⟨by omega, by omega⟩ ⟨by omega, by omega⟩ (fun _ => ?_) (fun h => absurd h (by omega))
      refine kX6_letGo_109 hT.kd hT.p13 hT.p1 hR.kd (by omega) (hsum M' hf ⟨_, rfl, kX6_letGo_123 (t0 := sSum (M' (t + 10)) (M rd 3).toNat) ?_⟩)
      have z := kk M' hM' hW hf
      rw [win_at (by decide)] at z
      exact z
    | succ m ih =>
      intro i M' W' o4 o5 hi hM' hf hW h9 kk
      have hP' := hP.frT h1 h2 hf
      have e2 : M' rd 2 = M rd 2 := by rw [hf rd (by omega) (by omega)]
      have eR : win 21 M' rd = win 21 M rd := hf.win (by omega) (by omega)
      have e16 : M' t 16 = W' 0 16 := by rw [← hW, w_00]
      have e17 : M' t 17 = W' 0 17 := by rw [← hW, w_00]
      unfold sDays at kk
      refine kX6_letGo_17 ⟨by omega, by omega⟩ ⟨by omega, by omega⟩ (fun h => absurd h (by omega)) (fun _ => ?_)
      refine kX6_letGo_22 (by omega) (mX6_farmOut hC hM' hP' (by omega) (fun M1 hM1 hW1 hf1 => ⟨none, rfl, ?_⟩)) hT.kd
      rw [eR, e2, e16, e17, hW] at hW1
      have hf1 := hf.trans hf1
      refine kX6_letGo_26 (ht (M rd 3).toNat 0 M1 _ (i : Int) o5 (by omega) hM1 hf1 hW1 (by rw [sFarm_9]; exact h9) (fun M2 o4 o5 hM2 hW2 hf2 => ?_))
      have g2 : M2 rd 2 = M rd 2 := by rw [hf2 rd (by omega) (by omega)]
      refine kX6_letGo_81 (by omega) (mX6_settleRents hC hM2 (hP.frT h1 h2 hf2) (fun M3 hM3 hW3 hf3 => ⟨none, rfl, ?_⟩)) hT.kd
      rw [g2, hW2] at hW3
      have hf3 := hf2.trans hf3
      have g12 : M3 (rd + 12) 0 = M (rd + 12) 0 := by rw [hf3 (rd + 12) (by omega) (by omega)]
      have gR : win 21 M3 rd = win 21 M rd := hf3.win (by omega) (by omega)
      refine kX6_letGo_85 (by omega) (mX6_mendByOrders hC hM3 (hP.frT h1 h2 hf3) (by omega) (fun M4 hM4 hW4 hf4 => ⟨none, rfl, ?_⟩)) hT.kd
      rw [g12, gR, hW3] at hW4
      have hf4 := hf3.trans hf4
      refine kX6_letGo_89 hT.kd hT.k (by omega) (mX6_keepCoins (rk := rk) hT hM4.z (fun M5 hM5 hW5 hf5 => ⟨none, rfl, ?_⟩))
      rw [win_W0] at hW5
      have hf5 : Fr t (t + 12) (rk + 1) M M5 := (hf4.w (Or.inl ⟨by omega, by omega⟩)).trans hf5
      have e42 : M4 t 2 = win 12 M4 t 0 2 := by rw [w_00]
      rw [e42, hW4] at hW5
      have hday : win 12 M5 t = sDay (win 21 M rd) W' := by
        rw [hW5]
        unfold sDay
        rw [win_at (n := 21) (i := 0) (by decide), win_at (n := 21) (i := 12) (by decide)]
        rfl
      exact kX6_letGo_103 (ih (i + 1) M5 _ o4 o5 (by omega) hM5 hf5 hday (by rw [sDay_9]; exact h9) kk)
  exact hl n 0 M _ none none (by omega) hM Fr.refl rfl (fun a ha => by rw [win_at (by decide)]; exact hw a ha) k
end C7
