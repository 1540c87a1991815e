/-! contracts: a traffic's way -/
section C5
variable {E : Nat → Value} {d : Nat} {S : aS} {M : Nat → Nat → Int} {Q : Option (Option Value) → aS → aI → Prop}
theorem mW_row_ne {W : Nat → Nat → Int} {j k i : Nat} {x : Int} (h : i ≠ j) : mW W j k x i = W i := mW_ne h
theorem sPay_9 {W : Nat → Nat → Int} {a g : Nat} : sPay W a g 9 = W 9 := by
  unfold sPay
  split
  · rw [mW_ne (by decide), mW_ne (by decide), mW_ne (by decide)]
  · rw [mW_ne (by decide), mW_ne (by decide), mW_ne (by decide)]
theorem sGates_9 {R : Nat → Nat → Int} {a : Nat} {m : Int} : ∀ (n g : Nat) (W : Nat → Nat → Int), sGates R W a m g n 9 = W 9
  | 0, _, _ => rfl
  | n + 1, g, W => by
    unfold sGates
    rw [sGates_9 n]
    split
    · exact sPay_9
    · rfl
theorem sWear_9 {R W : Nat → Nat → Int} {a m : Nat} : sWear R W a m 9 = W 9 := by
  unfold sWear
  rw [mW_ne (by decide), mW_ne (by decide)]
theorem RdP.frT {M M' : Nat → Nat → Int} {t rk rd : Nat} (h : RdP M rd) (h1 : rd + 21 < rk) (h2 : rk + 1 < t) (hf : Fr t (t + 12) (rk + 1) M M') : RdP M' rd := h.fr (fun c g1 g2 => hf c (by omega) (by omega))
theorem mX6_travel {t rk rd a : Nat} (hC : Cx S t rk rd) (hM : RM M) (hP : RdP M rd) (hd : 5 ≤ d) (ha : (a : Int) < M rd 3) (hw : 1 ≤ M (t + 9) a) (k : ∀ M', RM M' → win 12 M' t = (sGo (win 21 M rd) (win 12 M t) a).2 → Fr t (t + 12) (rk + 1) M M' → Q (some (some (J (sGo (win 21 M rd) (win 12 M t) a).1))) S (mI M')) : X E d fX6_travel 0 [some (.ref t), some (J a), none, none, none, none, none] [] S (mI M) Q := by
  have hT := hC.tr
  have hR := hC.ro
  have h1 := hC.h1
  have h2 := hC.h2
  have n4 := hT.n4
  have n13 := hT.n13
  have n14 := hT.n14
  have r8 := hR.n8
  have r12 := hR.n12
  have r13 := hR.n13
  have hnt := hP.nt
  have hng := hP.ng
  have hnm := hP.nm
  have hft := hP.ft a ha
  have hwt := hP.wt a ha
  have ha8 : a < 8 := by omega
  generalize hby : sBy (win 21 M rd) a = b at *
  have hb2 : (M (rd + 9) a ≤ M (rd + 10) a ∧ b = 1) ∨ (M (rd + 10) a < M (rd + 9) a ∧ b = -1) := by
    unfold sBy at hby
    rw [win_at (by decide), win_at (by decide)] at hby
    by_cases h : M (rd + 9) a ≤ M (rd + 10) a
    · rw [if_pos h] at hby; exact Or.inl ⟨h, hby.symm⟩
    · rw [if_neg h] at hby; exact Or.inr ⟨by omega, hby.symm⟩
  unfold sGo at k
  rw [hby, win_at (n := 21) (by decide), win_at (n := 21) (by decide)] at k
  generalize hN : ((M (rd + 10) a - M (rd + 9) a) * b + 1).toNat = N at k
  have hN2 : (M (rd + 10) a - M (rd + 9) a) * b + 1 = (N : Int) := by
    rcases hb2 with ⟨g, rfl⟩ | ⟨g, rfl⟩ <;> omega
  have hNb : N ≤ 45 := by
    rcases hb2 with ⟨g, rfl⟩ | ⟨g, rfl⟩ <;> omega
  -- the gates of a mile
  have hg : ∀ (mm : Nat) (i : Int) m g M' W', g + m = (M rd 2).toNat → RM M' → Fr t (t + 12) (rk + 1) M M' → win 12 M' t = W' → mm < 45 →
      (∀ M2 o6, RM M2 → Fr t (t + 12) (rk + 1) M M2 → win 12 M2 t = sGates (win 21 M rd) W' a (mm : Int) g m → X E d fX6_travel 170 [some (.ref t), some (J a), some (J b), some (J (N : Int)), some (J i), some (J (mm : Int)), o6] [] S (mI M2) Q) →
      X E d fX6_travel 120 [some (.ref t), some (J a), some (J b), some (J (N : Int)), some (J i), some (J (mm : Int)), some (J (g : Int))] [] S (mI M') Q := by
    intro mm i m
    induction m with
    | zero =>
      intro g M' W' hgm hM' hf hW hmm kk
      have e2 : M' rd 2 = M rd 2 := by rw [hf rd (by omega) (by omega)]
      exact kX6_travel_120 hT.kd hT.p1 hR.kd ⟨by omega, by omega⟩ (hM' _ _) (fun _ => kk M' _ hM' hf hW) (fun h => absurd h (by omega))
    | succ m ih =>
      intro g M' W' hgm hM' hf hW hmm kk
      have e2 : M' rd 2 = M rd 2 := by rw [hf rd (by omega) (by omega)]
      have e5 : M' (rd + 5) g = win 21 M rd 5 g := by rw [win_at (by decide), hf (rd + 5) (by omega) (by omega)]
      have e12 : M' (rd + 12) 0 = win 21 M rd 12 0 := by rw [win_at (by decide), hf (rd + 12) (by omega) (by omega)]
      have eR : win 21 M' rd = win 21 M rd := hf.win (by omega) (by omega)
      unfold sGates at kk
      have nxt : ∀ M1, RM M1 → Fr t (t + 12) (rk + 1) M M1 → win 12 M1 t = (if win 21 M rd 5 g = (mm : Int) ∧ sFree (win 21 M rd) W' a g 0 (win 21 M rd 12 0).toNat = false then sPay W' a g else W') →
          X E d fX6_travel 164 [some (.ref t), some (J a), some (J b), some (J (N : Int)), some (J i), some (J (mm : Int)), some (J (g : Int))] [] S (mI M1) Q :=
        fun M1 hM1 hf1 hW1 => kX6_travel_164 (ih (g + 1) M1 _ (by omega) hM1 hf1 hW1 hmm kk)
      refine kX6_travel_120 hT.kd hT.p1 hR.kd ⟨by omega, by omega⟩ (hM' _ _) (fun h => absurd h (by omega)) (fun _ => ?_)
      refine kX6_travel_132 hT.kd hT.p1 hR.kd hR.p8 hR.d8 ⟨by omega, by omega⟩ ⟨by omega, by omega⟩ (hM' _ _) ⟨by omega, by omega⟩ (fun h => nxt M' hM' hf ?_) (fun h => ?_)
      · rw [Int.toNat_natCast, e5] at h
        rw [if_neg (fun z => h z.1)]
        exact hW
      · rw [Int.toNat_natCast, e5] at h
        refine kX6_travel_147 (by omega) (mX6_isFree hC hM' (hP.frT h1 h2 hf) (by omega) ha8 (by omega) (fun M2 hM2 hf2 => ⟨_, rfl, ?_⟩)) hT.kd
        rw [eR, hW, e12]
        have hW2 : win 12 M2 t = W' := (hf2.win (by omega)).trans hW
        have hf3 := hf.trans hf2.Fr
        cases hfr : sFree (win 21 M rd) W' a g 0 (win 21 M rd 12 0).toNat with
        | true =>
          refine kX6_travel_154 (t0 := 1) ⟨by decide, by decide⟩ (fun _ => nxt M2 hM2 hf3 ?_) (fun h => absurd h (by decide))
          rw [hfr, if_neg (fun z => by cases z.2)]
          exact hW2
        | false =>
          refine kX6_travel_154 (t0 := 0) R32_0 (fun h => absurd rfl h) (fun _ => ?_)
          refine kX6_travel_157 (by omega) (mX6_pay hT hM2 (by omega) ha8 (by omega) (fun M3 hM3 hw3 hf4 => ⟨none, rfl, nxt M3 hM3 (hf3.trans hf4) ?_⟩)) hT.kd
          rw [hfr, if_pos ⟨h, rfl⟩, hw3, hW2]
  -- the miles
  have hl : ∀ n i M' W' o5 o6, i + n = N → RM M' → Fr t (t + 12) (rk + 1) M M' → win 12 M' t = W' → 1 ≤ W' 9 a →
      (∀ M', RM M' → win 12 M' t = (sTrav (win 21 M rd) a b n (M (rd + 9) a + (i : Int) * b) W').2 → Fr t (t + 12) (rk + 1) M M' → Q (some (some (J (sTrav (win 21 M rd) a b n (M (rd + 9) a + (i : Int) * b) W').1))) S (mI M')) →
      X E d fX6_travel 54 [some (.ref t), some (J a), some (J b), some (J (N : Int)), some (J (i : Int)), o5, o6] [] S (mI M') Q := by
    intro n
    induction n with
    | zero =>
      intro i M' W' o5 o6 hi hM' hf hW hw9 kk
      refine kX6_travel_54 ⟨by omega, by omega⟩ ⟨by omega, by omega⟩ (fun _ => ?_) (fun h => absurd h (by omega))
      refine kX6_travel_183 hT.kd hT.p13 hT.d13 ⟨by omega, by omega⟩ ⟨by omega, by omega⟩ hT.a13 (kk _ hM'.z ?_ (hf.w (Or.inl ⟨by omega, by omega⟩)))
      rw [win_W (by decide), hW]
      subst hW
      rw [Int.toNat_natCast]
      show _ = mW _ 10 a (nz (win 12 M' t 10 a + 1))
      rw [win_at (by decide)]
    | succ n ih =>
      intro i M' W' o5 o6 hi hM' hf hW hw9 kk
      have hr : 0 ≤ M (rd + 9) a + (i : Int) * b ∧ M (rd + 9) a + (i : Int) * b < M rd 1 := by
        rcases hb2 with ⟨g, rfl⟩ | ⟨g, rfl⟩ <;> omega
      have hnx : M (rd + 9) a + ((i + 1 : Nat) : Int) * b = M (rd + 9) a + (i : Int) * b + b := by
        rcases hb2 with ⟨g, rfl⟩ | ⟨g, rfl⟩ <;> omega
      have e9 : M' (rd + 9) a = M (rd + 9) a := by rw [hf (rd + 9) (by omega) (by omega)]
      have e1 : M' rd 1 = M rd 1 := by rw [hf rd (by omega) (by omega)]
      refine kX6_travel_54 ⟨by omega, by omega⟩ ⟨by omega, by omega⟩ (fun h => absurd h (by omega)) (fun _ => ?_)
      refine kX6_travel_60 hT.kd hT.p1 hR.kd hR.p12 hR.d12 ⟨by omega, by omega⟩ ⟨by omega, by omega⟩ (by omega) ?_
      rw [Int.toNat_natCast, e9, e1]
      have ih' := fun M1 W1 o5 o6 a1 a2 a3 a4 => ih (i + 1) M1 W1 o5 o6 (by omega) a1 a2 a3 a4
      rw [hnx] at ih'
      generalize hmm : M (rd + 9) a + (i : Int) * b = mi at *
      obtain ⟨mm, rfl⟩ := Int.eq_ofNat_of_zero_le hr.1
      refine mX7_isOutside ⟨by omega, by omega⟩ (hM _ _) ⟨_, rfl, ?_⟩
      refine kX6_travel_88 (t0 := 0) R32_0 (fun _ => ?_) (fun h => absurd rfl h) |> fun z => by rw [if_neg (by omega)]; exact z
      have em : M' (t + 1) mm = W' 1 mm := by rw [← hW, win_at (by decide)]
      unfold sTrav at kk
      rw [Int.toNat_natCast] at kk
      refine kX6_travel_94 hT.kd hT.p4 hT.d4 ⟨by omega, by omega⟩ ⟨by omega, by omega⟩ (hM' _ _) (fun h => ?_) (fun h => ?_)
      · rw [Int.toNat_natCast, em] at h
        rw [if_neg h] at kk
        refine kX6_travel_117 (hg mm _ (M rd 2).toNat 0 M' W' (by omega) hM' hf hW (by omega) (fun M2 o6 hM2 hf2 hW2 => ?_))
        have g3 := hf2 (rd + 3) (by omega) (by omega)
        have g4 := hf2 (rd + 4) (by omega) (by omega)
        have g7 := hf2 (rd + 7) (by omega) (by omega)
        have eR : win 21 M2 rd = win 21 M rd := hf2.win (by omega) (by omega)
        have q9 : 1 ≤ M2 (t + 9) a := by
          have z := congrFun (congrFun hW2 9) a
          rw [win_at (by decide), sGates_9] at z
          omega
        have qms := hP.ms mm (by omega)
        refine kX6_travel_170 (by omega) (mX6_wear hC hM2 (by omega) ha8 (by omega) (by rw [g7]; exact hwt) (by rw [g4]; exact qms) (by rw [g3, g4]; exact hP.sf _ (by omega)) q9 (fun M3 hM3 hW3 hf3 => ⟨none, rfl, ?_⟩)) hT.kd
        rw [eR, hW2] at hW3
        refine kX6_travel_177 (ih' M3 _ _ _ hM3 (hf2.trans hf3) hW3 ?_ ?_)
        · rw [sWear_9, sGates_9]; exact hw9
        · rw [win_at (n := 21) (i := 0) (by decide)] at kk
          exact kk
      · rw [Int.toNat_natCast, em] at h
        rw [if_pos h] at kk
        refine kX6_travel_104 hT.kd hT.p14 hT.d14 ⟨by omega, by omega⟩ ⟨by omega, by omega⟩ hT.a14 (kk _ hM'.z ?_ (hf.w (Or.inl ⟨by omega, by omega⟩)))
        rw [win_W (by decide), hW]
        subst hW
        rw [Int.toNat_natCast]
        show _ = mW _ 11 a (nz (win 12 M' t 11 a + 1))
        rw [win_at (by decide)]
  have hst : X E d fX6_travel 54 [some (.ref t), some (J a), some (J b), some (J (N : Int)), some (J 0), none, none] [] S (mI M) Q := by
    refine hl N 0 M _ none none (by omega) hM Fr.refl rfl (by rw [win_at (by decide)]; exact hw) ?_
    rw [show M (rd + 9) a + ((0 : Nat) : Int) * b = M (rd + 9) a by omega]
    exact k
  refine kX6_travel_0 hT.kd hT.p1 hR.kd hR.p12 hR.d12 ⟨by omega, by omega⟩ ⟨by omega, by omega⟩ hR.p13 hR.d13 ⟨by omega, by omega⟩ (hM _ _) (hM _ _) (fun h => ?_) (fun h => ?_)
  · rw [Int.toNat_natCast] at h
    rcases hb2 with ⟨g, rfl⟩ | ⟨g, rfl⟩
    · exact absurd h (by omega)
    · refine kX6_travel_25 (kX6_travel_26 (t0 := -1) hT.kd hT.p1 hR.kd hR.p13 hR.d13 ⟨by omega, by omega⟩ ⟨by omega, by omega⟩ hR.p12 hR.d12 ⟨by omega, by omega⟩ ?_)
      rw [Int.toNat_natCast, hN2]
      exact hst
  · rw [Int.toNat_natCast] at h
    rcases hb2 with ⟨g, rfl⟩ | ⟨g, rfl⟩
    · refine kX6_travel_21 (kX6_travel_26 (t0 := 1) hT.kd hT.p1 hR.kd hR.p13 hR.d13 ⟨by omega, by omega⟩ ⟨by omega, by omega⟩ hR.p12 hR.d12 ⟨by omega, by omega⟩ ?_)
      rw [Int.toNat_natCast, hN2]
      exact hst
    · exact absurd h (by omega)
end C5
