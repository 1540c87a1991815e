/-! contracts: rents, coins spent, a day -/
section C6
variable {E : Nat → Value} {d : Nat} {S : aS} {M : Nat → Nat → Int} {Q : Option (Option Value) → aS → aI → Prop}
theorem sTrav_9 {R : Nat → Nat → Int} {a : Nat} {b : Int} : ∀ (n : Nat) (m : Int) (W : Nat → Nat → Int), (sTrav R a b n m W).2 9 = W 9
  | 0, _, W => by
    show mW W 10 a (nz (W 10 a + 1)) 9 = W 9
    exact mW_ne (by decide)
  | n + 1, m, W => by
    unfold sTrav
    split
    · show mW W 11 a (nz (W 11 a + 1)) 9 = W 9
      exact mW_ne (by decide)
    · rw [sTrav_9 n, sWear_9, sGates_9]
theorem sGo_9 {R W : Nat → Nat → Int} {a : Nat} : (sGo R W a).2 9 = W 9 := sTrav_9 _ _ _
theorem sSpend_9 {R : Nat → Nat → Int} {s i : Nat} (hi : i ≠ 1) : ∀ (n : Nat) (W : Nat → Nat → Int), (sSpend R s n W).2 i = W i
  | 0, _ => rfl
  | n + 1, W => by
    unfold sSpend
    dsimp only
    split
    · rfl
    · rw [sSpend_9 hi n, mW_ne hi]
theorem sMend_9 {R W : Nat → Nat → Int} {s : Nat} {x : Int} : (sMend R W s x).2 9 = W 9 := by
  unfold sMend
  dsimp only
  rw [mW_ne (by decide), mW_ne (by decide), sSpend_9 (by decide)]
theorem sFarm_9 {R : Nat → Nat → Int} {lg lr : Int} : ∀ (n g : Nat) (W : Nat → Nat → Int), sFarm R lg lr g n W 9 = W 9
  | 0, _, _ => rfl
  | n + 1, g, W => by
    unfold sFarm
    rw [sFarm_9 n, mW_ne (by decide), mW_ne (by decide)]
theorem sTraf_9 {R : Nat → Nat → Int} : ∀ (n a : Nat) (W : Nat → Nat → Int), sTraf R a n W 9 = W 9
  | 0, _, _ => rfl
  | n + 1, a, W => by
    unfold sTraf
    rw [sTraf_9 n]
    split
    · exact sGo_9
    · rfl
theorem sRents_9 : ∀ (n g : Nat) (W : Nat → Nat → Int), sRents g n W 9 = W 9
  | 0, _, _ => rfl
  | n + 1, g, W => by
    unfold sRents
    rw [sRents_9 n]
    split
    · rfl
    · rw [mW_ne (by decide), mW_ne (by decide)]
theorem sMends_9 {R : Nat → Nat → Int} : ∀ (n i : Nat) (W : Nat → Nat → Int), sMends R i n W 9 = W 9
  | 0, _, _ => rfl
  | n + 1, i, W => by
    unfold sMends
    rw [sMends_9 n]
    split
    · exact sMend_9
    · rfl
theorem sCap_9 {W : Nat → Nat → Int} : sCap W 9 = W 9 := by
  unfold sCap
  split
  · exact mW_ne (by decide)
  · rfl
theorem sDay_9 {R W : Nat → Nat → Int} : sDay R W 9 = W 9 := by
  unfold sDay
  rw [sCap_9, mW_ne (by decide), sMends_9, sRents_9, sTraf_9, sFarm_9]
theorem sRent_R {R W : Nat → Nat → Int} {g : Nat} (hR : ∀ j k, R32 (R j k)) : ∀ n i, R32 (sRent R W g i n)
  | 0, _ => by
    unfold sRent
    exact ⟨by decide, by decide⟩
  | n + 1, i => by
    unfold sRent
    split
    · exact hR _ _
    · exact sRent_R hR n (i + 1)
theorem mX6_keepCoins {t rk rd : Nat} (hT : TrS S t rk rd) (hM : RM M) (k : ∀ M', RM M' → win 12 M' t = sCap (win 12 M t) → Fr t (t + 12) (rk + 1) M M' → Q (some none) S (mI M')) : X E d fX6_keepCoinsInBounds 0 [some (.ref t)] [] S (mI M) Q := by
  unfold sCap at k
  rw [w_00] at k
  refine kX6_keepCoinsInBounds_0 hT.kd (hM _ _) (fun h => ?_) (fun h => ?_)
  · rw [if_neg (by omega)] at k
    exact kX6_keepCoinsInBounds_15 (k M hM rfl Fr.refl)
  · rw [if_pos h] at k
    exact kX6_keepCoinsInBounds_9 hT.k (kX6_keepCoinsInBounds_15 (k _ (hM.w ⟨by decide, by decide⟩) win_W0 (Fr.refl.w (Or.inl ⟨by omega, by omega⟩))))
theorem mX6_settleRents {t rk rd : Nat} (hC : Cx S t rk rd) (hM : RM M) (hP : RdP M rd) (k : ∀ M', RM M' → win 12 M' t = sRents 0 (M rd 2).toNat (win 12 M t) → Fr t (t + 12) (rk + 1) M M' → Q (some none) S (mI M')) : X E d fX6_settleRents 0 [some (.ref t), none] [] S (mI M) Q := by
  have hT := hC.tr
  have hR := hC.ro
  have h1 := hC.h1
  have h2 := hC.h2
  have n9 := hT.n9
  have n10 := hT.n10
  have n11 := hT.n11
  have hng := hP.ng
  refine kX6_settleRents_0 ?_
  have hl : ∀ m g M' W', g + m = (M rd 2).toNat → RM M' → Fr t (t + 12) (rk + 1) M M' → win 12 M' t = W' →
      (∀ M', RM M' → win 12 M' t = sRents g m W' → Fr t (t + 12) (rk + 1) M M' → Q (some none) S (mI M')) →
      X E d fX6_settleRents 2 [some (.ref t), some (J (g : Int))] [] S (mI M') Q := by
    intro m
    induction m with
    | zero =>
      intro g M' W' hgm hM' hf hW kk
      have e2 : M' rd 2 = M rd 2 := by rw [hf rd (by omega) (by omega)]
      exact kX6_settleRents_2 hT.kd hT.p1 hR.kd ⟨by omega, by omega⟩ (hM' _ _) (fun _ => kX6_settleRents_66 (kk M' hM' hW hf)) (fun h => absurd h (by omega))
    | succ m ih =>
      intro g M' W' hgm hM' hf hW kk
      have e2 : M' rd 2 = M rd 2 := by rw [hf rd (by omega) (by omega)]
      unfold sRents at kk
      refine kX6_settleRents_2 hT.kd hT.p1 hR.kd ⟨by omega, by omega⟩ (hM' _ _) (fun h => absurd h (by omega)) (fun _ => ?_)
      have e7 : M' (t + 7) g = W' 7 g := by rw [← hW, win_at (by decide)]
      refine kX6_settleRents_13 hT.kd hT.p10 hT.d10 ⟨by omega, by omega⟩ ⟨by omega, by omega⟩ (hM' _ _) (fun h => ?_) (fun h => ?_)
      · rw [Int.toNat_natCast, e7] at h
        rw [if_pos h] at kk
        exact kX6_settleRents_60 (ih (g + 1) M' W' (by omega) hM' hf hW kk)
      · rw [Int.toNat_natCast, e7] at h
        rw [if_neg h] at kk
        refine kX6_settleRents_23 hT.kd hT.p10 hT.d10 ⟨by omega, by omega⟩ ⟨by omega, by omega⟩ hT.k hT.p9 hT.d9 ⟨by omega, by omega⟩ hT.p11 hT.d11 ⟨by omega, by omega⟩ hT.a9 rfl ?_
        refine kX6_settleRents_60 (ih (g + 1) _ _ (by omega) hM'.z.z ((hf.w (Or.inl ⟨by omega, by omega⟩)).w (Or.inl ⟨by omega, by omega⟩)) ?_ kk)
        rw [win_W (by decide), win_W0, hW, Int.toNat_natCast, w_n0 (by decide), w_n0 (by decide), w_n0 (by decide), ← hW, w_00, win_at (by decide), win_at (by decide), win_at (by decide)]
  exact hl _ 0 M _ (by omega) hM Fr.refl rfl k
theorem mX6_farmOut {t rk rd : Nat} (hC : Cx S t rk rd) (hM : RM M) (hP : RdP M rd) (hd : 5 ≤ d) (k : ∀ M', RM M' → win 12 M' t = sFarm (win 21 M rd) (M t 16) (M t 17) 0 (M rd 2).toNat (win 12 M t) → Fr t (t + 12) (rk + 1) M M' → Q (some none) S (mI M')) : X E d fX6_farmOut 0 [some (.ref t), none] [] S (mI M) Q := by
  have hT := hC.tr
  have hR := hC.ro
  have h1 := hC.h1
  have h2 := hC.h2
  have n10 := hT.n10
  have n11 := hT.n11
  have hng := hP.ng
  refine kX6_farmOut_0 ?_
  generalize hlg : M t 16 = lg at k
  generalize hlr : M t 17 = lr at k
  have hl : ∀ m g M' W', g + m = (M rd 2).toNat → RM M' → Fr t (t + 12) (rk + 1) M M' → win 12 M' t = W' → M' t 16 = lg → M' t 17 = lr →
      (∀ M', RM M' → win 12 M' t = sFarm (win 21 M rd) lg lr g m W' → Fr t (t + 12) (rk + 1) M M' → Q (some none) S (mI M')) →
      X E d fX6_farmOut 2 [some (.ref t), some (J (g : Int))] [] S (mI M') Q := by
    intro m
    induction m with
    | zero =>
      intro g M' W' hgm hM' hf hW e16 e17 kk
      have e2 : M' rd 2 = M rd 2 := by rw [hf rd (by omega) (by omega)]
      exact kX6_farmOut_2 hT.kd hT.p1 hR.kd ⟨by omega, by omega⟩ (hM' _ _) (fun _ => kX6_farmOut_52 (kk M' hM' hW hf)) (fun h => absurd h (by omega))
    | succ m ih =>
      intro g M' W' hgm hM' hf hW e16 e17 kk
      have e2 : M' rd 2 = M rd 2 := by rw [hf rd (by omega) (by omega)]
      have e12 : M' (rd + 12) 0 = win 21 M rd 12 0 := by rw [win_at (by decide), hf (rd + 12) (by omega) (by omega)]
      have eR : win 21 M' rd = win 21 M rd := hf.win (by omega) (by omega)
      unfold sFarm at kk
      have nxt : ∀ M1 x, RM M1 → R32 x → Fr t (t + 12) (rk + 1) M M1 → win 12 M1 t = W' → x = (if (g : Int) = lg then lr else sRent (win 21 M rd) W' g 0 (win 21 M rd 12 0).toNat) →
          X E d fX6_farmOut 38 [some (.ref t), some (J (g : Int))] [J x, J (g : Int), .ref (t + 7)] S (mI M1) Q := by
        intro M1 x hM1 hx hf1 hW1 hxe
        refine kX6_farmOut_38 hT.a10 ⟨by omega, by omega⟩ ⟨by omega, by omega⟩ hT.kd hT.p11 hT.a11 ⟨by omega, by omega⟩ ⟨by omega, by omega⟩ ?_
        rw [Int.toNat_natCast]
        have z16 : M1 t 16 = lg := by
          have z : win 12 M1 t 0 16 = win 12 M' t 0 16 := by rw [hW1, hW]
          rw [w_00, w_00] at z
          rw [z, e16]
        have z17 : M1 t 17 = lr := by
          have z : win 12 M1 t 0 17 = win 12 M' t 0 17 := by rw [hW1, hW]
          rw [w_00, w_00] at z
          rw [z, e17]
        refine ih (g + 1) _ _ (by omega) ((hM1.w hx).w R32_0) ((hf1.w (Or.inl ⟨by omega, by omega⟩)).w (Or.inl ⟨by omega, by omega⟩)) ?_ ?_ ?_ kk
        · rw [win_W (by decide), win_W (by decide), hW1, hxe]
        · rw [w_0n (by decide), w_0n (by decide), z16]
        · rw [w_0n (by decide), w_0n (by decide), z17]
      refine kX6_farmOut_2 hT.kd hT.p1 hR.kd ⟨by omega, by omega⟩ (hM' _ _) (fun h => absurd h (by omega)) (fun _ => ?_)
      refine kX6_farmOut_13 hT.kd hT.p10 ⟨by omega, by omega⟩ (hM' _ _) (fun h => ?_) (fun h => ?_)
      · refine kX6_farmOut_33 (by omega) (mX6_rentByOrders hC hM' (hP.frT h1 h2 hf) (by omega) (by omega) (fun M2 hM2 hf2 => ⟨_, rfl, ?_⟩)) hT.kd
        rw [eR, hW, e12]
        refine nxt M2 _ hM2 (sRent_R (fun j k => win_R hM j k) _ _) (hf.trans hf2.Fr) ((hf2.win (by omega)).trans hW) ?_
        rw [if_neg (by rw [← e16]; exact h)]
      · refine kX6_farmOut_26 hT.kd ?_
        refine nxt M' _ hM' (hM' _ _) hf hW ?_
        rw [if_pos (by rw [← e16]; exact h), e17]
  exact hl _ 0 M _ (by omega) hM Fr.refl rfl hlg hlr k
theorem mX6_spend {t rk rd s : Nat} {x : Int} (hC : Cx S t rk rd) (hM : RM M) (hP : RdP M rd) (hd : 2 ≤ d) (hs : (s : Int) < M rd 0) (hx : R32 x) (k : ∀ M', RM M' → win 12 M' t = (sMend (win 21 M rd) (win 12 M t) s x).2 → Fr t (t + 12) (rk + 1) M M' → Q (some (some (J (sMend (win 21 M rd) (win 12 M t) s x).1))) S (mI M')) : X E d fX6_spend 0 [some (.ref t), some (J s), some (J x), none, none, none] [] S (mI M) Q := by
  have hT := hC.tr
  have hR := hC.ro
  have h1 := hC.h1
  have h2 := hC.h2
  have n4 := hT.n4
  have n6 := hT.n6
  have hns := hP.ns
  have hL := hP.L s (by omega)
  have hs1 := hP.s1 s hs
  refine kX6_spend_0 ?_
  unfold sMend at k
  dsimp only at k
  generalize hn : x.toNat = n at k
  have hl : ∀ (n i : Nat) M' W' o5, (i : Int) + (n : Int) = max x 0 → RM M' → Fr t (t + 12) (rk + 1) M M' → win 12 M' t = W' →
      (∀ M' o4 o5, RM M' → win 12 M' t = (sSpend (win 21 M rd) s n W').2 → Fr t (t + 12) (rk + 1) M M' → X E d fX6_spend 73 [some (.ref t), some (J s), some (J x), some (J ((i : Int) + ((sSpend (win 21 M rd) s n W').1 : Int))), o4, o5] [] S (mI M') Q) →
      X E d fX6_spend 5 [some (.ref t), some (J s), some (J x), some (J (i : Int)), some (J (i : Int)), o5] [] S (mI M') Q := by
    intro n
    induction n with
    | zero =>
      intro i M' W' o5 hi hM' hf hW kk
      have kz := kk M' (some (J (i : Int))) o5 hM' hW hf
      unfold sSpend at kz
      dsimp only at kz
      rw [show (i : Int) + ((0 : Nat) : Int) = (i : Int) by omega] at kz
      exact kX6_spend_5 ⟨by omega, by omega⟩ hx (fun _ => kz) (fun h => absurd h (by omega))
    | succ n ih =>
      intro i M' W' o5 hi hM' hf hW kk
      have hix : (i : Int) < x := by omega
      have g1 := hf (rd + 1) (by omega) (by omega)
      have g2 := hf (rd + 2) (by omega) (by omega)
      unfold sSpend at kk
      dsimp only at kk
      rw [win_at (n := 21) (by decide), win_at (n := 21) (by decide)] at kk
      refine kX6_spend_5 ⟨by omega, by omega⟩ hx (fun h => absurd h (by omega)) (fun _ => ?_)
      refine kX6_spend_11 (by omega) (mX6_worstMile hC hM' (by omega) (by omega) (by rw [g2]; exact hL.1) (by rw [g1]; exact hs1) (by rw [g1, g2]; exact hL.2.2) ⟨_, rfl, ?_⟩) hT.kd
      rw [g1, g2]
      have hwi := sWst_in (f := M' (t + 1)) (a := (M (rd + 2) s).toNat) (M (rd + 1) s).toNat
      have eW1 : M' (t + 1) = W' 1 := by rw [← hW, win_at (by decide)]
      rw [eW1] at hwi ⊢
      generalize hmm : sWst (W' 1) (M (rd + 2) s).toNat (M (rd + 1) s).toNat = mm at *
      refine kX6_spend_16 (by omega) (mX7_isOutside ⟨by omega, by omega⟩ ⟨by decide, by decide⟩ ⟨_, rfl, ?_⟩)
      rw [if_neg (by omega)]
      refine kX6_spend_25 (t0 := 0) R32_0 (fun h => absurd rfl h) (fun _ => ?_)
      have em : M' (t + 1) mm = W' 1 mm := by rw [eW1]
      refine kX6_spend_28 hT.kd hT.p4 hT.d4 ⟨by omega, by omega⟩ ⟨by omega, by omega⟩ (hM' _ _) (fun h => ?_) (fun h => ?_)
      · rw [Int.toNat_natCast, em] at h
        rw [if_neg (by omega)] at kk
        have hlow := (hM' (t + 1) mm).1
        refine kX6_spend_43 hT.kd hT.p4 hT.d4 ⟨by omega, by omega⟩ ⟨by omega, by omega⟩ (by rw [Int.toNat_natCast]; exact ⟨by omega, by omega⟩) hT.a4 ?_
        rw [Int.toNat_natCast]
        refine ih (i + 1) _ (mW W' 1 mm (nz (min 100 (W' 1 mm + 4)))) _ (by omega) hM'.z (hf.w (Or.inl ⟨by omega, by omega⟩)) (by rw [win_W (by decide), hW, em]) (fun M2 o4 o5 a1 a2 a3 => ?_)
        have kz := kk M2 o4 o5 a1 a2 a3
        rw [show ((i + 1 : Nat) : Int) + ((sSpend (win 21 M rd) s n (mW W' 1 mm (nz (min 100 (W' 1 mm + 4))))).1 : Int) = (i : Int) + (((sSpend (win 21 M rd) s n (mW W' 1 mm (nz (min 100 (W' 1 mm + 4))))).1 + 1 : Nat) : Int) by omega]
        exact kz
      · rw [Int.toNat_natCast, em] at h
        rw [if_pos h] at kk
        have kz := kk M' (some (J (i : Int))) (some (J (mm : Int))) hM' hW hf
        rw [show (i : Int) + ((0 : Nat) : Int) = (i : Int) by omega] at kz
        exact kX6_spend_40 kz
  refine hl n 0 M _ none (by omega) hM Fr.refl rfl (fun M' o4 o5 hM' hW hf => ?_)
  generalize hq : sSpend (win 21 M rd) s n (win 12 M t) = q at *
  rw [show ((0 : Nat) : Int) + (q.1 : Int) = (q.1 : Int) by omega]
  refine kX6_spend_73 hT.kd hT.k hT.p6 hT.d6 ⟨by omega, by omega⟩ ⟨by omega, by omega⟩ hT.a6 rfl (k _ hM'.z.z ?_ ((hf.w (Or.inl ⟨by omega, by omega⟩)).w (Or.inl ⟨by omega, by omega⟩)))
  rw [win_W (by decide), win_W0, hW, Int.toNat_natCast, w_n0 (by decide), ← hW, w_00, win_at (by decide)]
end C6
