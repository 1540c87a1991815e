/-! contracts: a sum or a test is reckoned -/
section C3
variable {E : Nat → Value} {d : Nat} {S : aS} {M : Nat → Nat → Int} {Q : Option (Option Value) → aS → aI → Prop}
/-- the rows of the stretches lie in the miles -/
def RdL (M : Nat → Nat → Int) (rd : Nat) : Prop := ∀ s, s < 5 → 0 ≤ M (rd + 2) s ∧ 0 ≤ M (rd + 1) s ∧ M (rd + 2) s + M (rd + 1) s ≤ 45
theorem RdL.v {rd : Nat} (h : RdL M rd) (x : Int) : 0 ≤ vAt 5 (M (rd + 2)) x ∧ 0 ≤ vAt 5 (M (rd + 1)) x ∧ vAt 5 (M (rd + 2)) x + vAt 5 (M (rd + 1)) x ≤ 45 := by
  unfold vAt
  by_cases hx : 0 ≤ x ∧ x < ((5 : Nat) : Int)
  · rw [if_pos hx, if_pos hx]
    exact h x.toNat (by omega)
  · rw [if_neg hx, if_neg hx]
    decide
theorem mX2_isOfTwo {x : Int} (hx : R32 x) (q : Q (some (some (J (if sIs2 x = true then 1 else 0)))) S (mI M)) : X E d fX2_isOfTwo 0 [some (J x)] [] S (mI M) Q := by
  unfold sIs2 at q
  simp only [decide_eq_true_eq] at q
  refine kX2_isOfTwo_0 hx (fun h => ?_) (fun h => ?_)
  · refine kX2_isOfTwo_12 hx (fun h2 => ?_) (fun h2 => ?_)
    · rw [if_neg (by omega)] at q
      exact kX2_isOfTwo_28 (kX2_isOfTwo_29 rfl q)
    · refine kX2_isOfTwo_18 hx (fun h3 => ?_) (fun h3 => ?_)
      · rw [if_neg (by omega)] at q
        exact kX2_isOfTwo_28 (kX2_isOfTwo_29 rfl q)
      · rw [if_pos (by omega)] at q
        exact kX2_isOfTwo_24 (kX2_isOfTwo_29 rfl q)
  · refine kX2_isOfTwo_6 hx (fun h2 => ?_) (fun h2 => ?_)
    · rw [if_pos (by omega)] at q
      exact kX2_isOfTwo_24 (kX2_isOfTwo_29 rfl q)
    · refine kX2_isOfTwo_12 hx (fun h3 => absurd h3 (by omega)) (fun h3 => ?_)
      refine kX2_isOfTwo_18 hx (fun h4 => ?_) (fun h4 => absurd h4 (by omega))
      rw [if_neg (by omega)] at q
      exact kX2_isOfTwo_28 (kX2_isOfTwo_29 rfl q)
theorem mX2_ofOne {t rk rd : Nat} {op v : Int} (hC : Cx S t rk rd) (hM : RM M) (hd : 1 ≤ d) (ho : R32 op) (hv : R32 v) (q : Q (some (some (J (sOne (win 21 M rd) (win 12 M t) op v)))) S (mI M)) : X E d fX2_ofOne 0 [some (.ref t), some (J op), some (J v)] [] S (mI M) Q := by
  have hT := hC.tr
  have hR := hC.ro
  unfold sOne at q
  rw [w_00, win_at (by decide)] at q
  refine kX2_ofOne_0 ho (fun h => ?_) (fun h => ?_) (fun h => ?_)
  · rw [if_neg h.2, if_neg h.1] at q
    refine kX2_ofOne_41 hT.kd hT.p1 hR.kd hv (hM _ _) (fun h2 => ?_) (fun h2 => ?_)
    · rw [if_neg (by omega)] at q
      exact kX2_ofOne_63 (kX2_ofOne_64 q)
    · rw [if_pos h2] at q
      exact kX2_ofOne_52 hT.kd hT.p4 hd (mX7_valueAt hT.d4 hv hT.n4 (by decide) ⟨_, rfl, kX2_ofOne_60 (kX2_ofOne_64 q)⟩)
  · subst h
    rw [if_neg (by decide), if_pos rfl] at q
    refine kX2_ofOne_31 hv (fun h2 => ?_) (fun h2 => ?_)
    · rw [if_neg h2] at q
      exact kX2_ofOne_39 (kX2_ofOne_40 q)
    · rw [if_pos h2] at q
      exact kX2_ofOne_35 (kX2_ofOne_40 q)
  · subst h
    rw [if_pos rfl] at q
    exact kX2_ofOne_28 q
theorem mX2_ofTwo {op l r : Int} (ho : R32 op) (hl : R32 l) (hr : R32 r) (q : Q (some (some (J (sTwo op l r)))) S (mI M)) : X E d fX2_ofTwo 0 [some (J op), some (J l), some (J r)] [] S (mI M) Q := by
  refine kX2_ofTwo_0 ho (fun h => ?_) (fun h => ?_) (fun h => ?_) (fun h => ?_) (fun h => ?_) (fun h => ?_) (fun h => ?_) (fun h => ?_) (fun h => ?_) (fun h => ?_) (fun h => ?_) (fun h => ?_) (fun h => ?_)
  · unfold sTwo at q
    rw [if_neg (by omega), if_neg (by omega), if_neg (by omega), if_neg (by omega), if_neg (by omega), if_neg (by omega), if_neg (by omega), if_neg (by omega), if_neg (by omega), if_neg (by omega), if_neg (by omega), if_neg (by omega)] at q
    refine kX2_ofTwo_190 hl hr (fun h2 => ?_) (fun h2 => ?_)
    · rw [if_neg (by omega)] at q
      exact kX2_ofTwo_199 (kX2_ofTwo_200 q)
    · rw [if_pos (by omega)] at q
      exact kX2_ofTwo_195 (kX2_ofTwo_200 q)
  · subst h
    exact kX2_ofTwo_171 q
  · subst h
    exact kX2_ofTwo_175 q
  · subst h
    change Q (some (some (J (if l < r then l else r)))) S (mI M) at q
    refine kX2_ofTwo_179 hl hr (fun h2 => ?_) (fun h2 => ?_)
    · rw [if_neg (by omega)] at q
      exact kX2_ofTwo_188 (kX2_ofTwo_189 q)
    · rw [if_pos (by omega)] at q
      exact kX2_ofTwo_184 (kX2_ofTwo_189 q)
  · subst h
    exact kX2_ofTwo_92 q
  · subst h
    exact kX2_ofTwo_96 q
  · subst h
    exact kX2_ofTwo_100 q
  · subst h
    change Q (some (some (J (if r = 0 then 0 else l.tdiv r)))) S (mI M) at q
    refine kX2_ofTwo_104 hr (fun h2 => ?_) (fun h2 => ?_)
    · rw [if_neg h2] at q
      exact kX2_ofTwo_112 hl hr h2 (kX2_ofTwo_115 q)
    · rw [if_pos h2] at q
      exact kX2_ofTwo_108 (kX2_ofTwo_115 q)
  · subst h
    change Q (some (some (J (if l < r then 1 else 0)))) S (mI M) at q
    refine kX2_ofTwo_116 hl hr (fun h2 => ?_) (fun h2 => ?_)
    · rw [if_neg (by omega)] at q
      exact kX2_ofTwo_125 (kX2_ofTwo_126 q)
    · rw [if_pos (by omega)] at q
      exact kX2_ofTwo_121 (kX2_ofTwo_126 q)
  · subst h
    change Q (some (some (J (if l > r then 1 else 0)))) S (mI M) at q
    refine kX2_ofTwo_127 hl hr (fun h2 => ?_) (fun h2 => ?_)
    · rw [if_neg (by omega)] at q
      exact kX2_ofTwo_136 (kX2_ofTwo_137 q)
    · rw [if_pos (by omega)] at q
      exact kX2_ofTwo_132 (kX2_ofTwo_137 q)
  · subst h
    change Q (some (some (J (if l = r then 1 else 0)))) S (mI M) at q
    refine kX2_ofTwo_138 hl hr (fun h2 => ?_) (fun h2 => ?_)
    · rw [if_neg (by omega)] at q
      exact kX2_ofTwo_147 (kX2_ofTwo_148 q)
    · rw [if_pos (by omega)] at q
      exact kX2_ofTwo_143 (kX2_ofTwo_148 q)
  · subst h
    change Q (some (some (J (if l ≤ r then 1 else 0)))) S (mI M) at q
    refine kX2_ofTwo_149 hl hr (fun h2 => ?_) (fun h2 => ?_)
    · rw [if_neg (by omega)] at q
      exact kX2_ofTwo_158 (kX2_ofTwo_159 q)
    · rw [if_pos (by omega)] at q
      exact kX2_ofTwo_154 (kX2_ofTwo_159 q)
  · subst h
    change Q (some (some (J (if l ≥ r then 1 else 0)))) S (mI M) at q
    refine kX2_ofTwo_160 hl hr (fun h2 => ?_) (fun h2 => ?_)
    · rw [if_neg (by omega)] at q
      exact kX2_ofTwo_169 (kX2_ofTwo_170 q)
    · rw [if_pos (by omega)] at q
      exact kX2_ofTwo_165 (kX2_ofTwo_170 q)
theorem vAt_R {n : Nat} {f : Nat → Int} (hf : ∀ k, R32 (f k)) (x : Int) : R32 (vAt n f x) := by
  unfold vAt
  split
  · exact hf _
  · exact R32_0
theorem mX2_ofNone {t rk rd : Nat} {op x : Int} (hC : Cx S t rk rd) (hM : RM M) (hL : RdL M rd) (hd : 2 ≤ d) (ho : R32 op) (hx : R32 x) (q : Q (some (some (J (sNone (win 21 M rd) (win 12 M t) op x)))) S (mI M)) : X E d fX2_ofNone 0 [some (.ref t), some (J op), some (J x)] [] S (mI M) Q := by
  have hT := hC.tr
  have hv := hL.v x
  refine kX2_ofNone_0 ho (fun h => ?_) (fun h => ?_) (fun h => ?_) (fun h => ?_) (fun h => ?_) (fun h => ?_) (fun h => ?_) (fun h => ?_) (fun h => ?_) (fun h => ?_)
  · unfold sNone at q
    rw [if_neg (by omega), if_neg (by omega), if_neg (by omega), if_neg (by omega), if_neg (by omega), if_neg (by omega), if_neg (by omega), if_neg (by omega), if_neg (by omega)] at q
    exact kX2_ofNone_217 q
  · subst h
    exact kX2_ofNone_142 hT.kd q
  · subst h
    exact kX2_ofNone_147 hT.kd q
  · subst h
    exact kX2_ofNone_152 (by omega) (mX6_leastCondition hC hM (by omega) hx hv.1 hv.2.1 hv.2.2 ⟨_, rfl, kX2_ofNone_157 (t0 := sLeast (win 21 M rd) (win 12 M t) x) q⟩) hT.kd
  · subst h
    exact kX2_ofNone_158 hT.kd hT.p8 (by omega) (mX7_valueAt hT.d8 hx hT.n8 (by decide) ⟨_, rfl, kX2_ofNone_166 (t0 := vAt 5 (M (t + 5)) x) q⟩)
  · subst h
    exact kX2_ofNone_167 hT.kd hT.p9 (by omega) (mX7_valueAt hT.d9 hx hT.n9 (by decide) ⟨_, rfl, kX2_ofNone_175 (t0 := vAt 5 (M (t + 6)) x) q⟩)
  · subst h
    exact kX2_ofNone_176 hT.kd hT.p13 (by omega) (mX7_valueAt hT.d13 hx hT.n13 (by decide) ⟨_, rfl, kX2_ofNone_184 (t0 := vAt 8 (M (t + 10)) x) q⟩)
  · subst h
    change Q (some (some (J (if vAt 5 (M (t + 7)) x ≠ -1 then 1 else 0)))) S (mI M) at q
    refine kX2_ofNone_185 hT.kd hT.p10 (by omega) (mX7_valueAt hT.d10 hx hT.n10 (by decide) ⟨_, rfl, ?_⟩)
    refine kX2_ofNone_193 (t0 := vAt 5 (M (t + 7)) x) (vAt_R (fun k => hM _ k) x) (fun h2 => ?_) (fun h2 => ?_)
    · rw [if_neg (by omega)] at q
      exact kX2_ofNone_201 (kX2_ofNone_202 q)
    · rw [if_pos h2] at q
      exact kX2_ofNone_197 (kX2_ofNone_202 q)
  · subst h
    change Q (some (some (J (if sLeast (win 21 M rd) (win 12 M t) x = 0 then 1 else 0)))) S (mI M) at q
    refine kX2_ofNone_203 (by omega) (mX6_leastCondition hC hM (by omega) hx hv.1 hv.2.1 hv.2.2 ⟨_, rfl, ?_⟩) hT.kd
    have hs : R32 (sLeast (win 21 M rd) (win 12 M t) x) := by
      unfold sLeast
      have g1 := sMin_le (f := win 12 M t 1) (a := (vAt 5 (win 21 M rd 2) x).toNat) (vAt 5 (win 21 M rd 1) x).toNat
      have g2 := sMin_ge (f := win 12 M t 1) (a := (vAt 5 (win 21 M rd 2) x).toNat) (b := -2147483648) (by decide) (vAt 5 (win 21 M rd 1) x).toNat (fun j _ => by rw [win_at (by decide)]; exact (hM _ _).1)
      exact ⟨g2, by omega⟩
    refine kX2_ofNone_208 (t0 := sLeast (win 21 M rd) (win 12 M t) x) hs (fun h2 => ?_) (fun h2 => ?_)
    · rw [if_neg h2] at q
      exact kX2_ofNone_215 (kX2_ofNone_216 q)
    · rw [if_pos h2] at q
      exact kX2_ofNone_211 (kX2_ofNone_216 q)
  · subst h
    exact kX2_ofNone_140 q
/-- a list as a stack in a row: its head lies at the length of its tail -/
def Stk (m : Nat → Int) : List Int → Prop
  | [] => True
  | v :: r => m r.length = v ∧ Stk m r
theorem Stk.up {m m' : Nat → Int} : ∀ {l : List Int}, Stk m l → (∀ j, j < l.length → m' j = m j) → Stk m' l
  | [], _, _ => trivial
  | _ :: r, h, g => ⟨(g r.length (Nat.lt_succ_self _)).trans h.1, h.2.up (fun j hj => g j (Nat.lt_succ_of_lt hj))⟩
theorem Stk.R {m : Nat → Int} (hm : ∀ k, R32 (m k)) {v : Int} {r : List Int} (h : Stk m (v :: r)) : R32 v := h.1 ▸ hm _
theorem mX2_reckon {t rk rd : Nat} {a b : Int} (hC : Cx S t rk rd) (hM : RM M) (hL : RdL M rd) (hd : 3 ≤ d) (ha : 0 ≤ a) (hb : R32 b ∧ b ≤ 400) (hab : R32 a) (k : ∀ M', RM M' → (∀ c, c ≠ rk + 1 → M' c = M c) → Q (some (some (J (sEv (win 21 M rd) (win 12 M t) a b)))) S (mI M')) : X E d fX2_reckon 0 [some (.ref rk), some (.ref t), some (J a), some (J b), none, none, none, none] [] S (mI M) Q := by
  have hT := hC.tr
  have hR := hC.ro
  have hO := hC.os
  have hK := hC.re
  have h1 := hC.h1
  have h2 := hC.h2
  have o9 := hO.n9
  have o10 := hO.n10
  have k0 := hK.n0
  refine kX2_reckon_0 hT.kd hT.p1 hR.kd hR.p15 ?_
  obtain ⟨a, rfl⟩ := Int.eq_ofNat_of_zero_le ha
  generalize hn : (b - (a : Int)).toNat = n
  unfold sEv at k
  rw [hn, Int.toNat_natCast] at k
  have hlen : ∀ i, (sRun (win 21 M rd) (win 12 M t) a i).length ≤ i := by
    intro i
    induction i with
    | zero => exact Nat.le_refl _
    | succ i ih =>
      unfold sRun sStep
      split
      · cases hh : sRun (win 21 M rd) (win 12 M t) a i with
        | nil => exact Nat.zero_le _
        | cons v r => rw [hh] at ih; exact Nat.le_succ_of_le ih
      · split
        · cases hh : sRun (win 21 M rd) (win 12 M t) a i with
          | nil => exact Nat.zero_le _
          | cons v r => cases r with
            | nil => rw [hh] at ih; exact Nat.le_succ_of_le ih
            | cons w r => rw [hh] at ih; simp only [List.length_cons] at ih ⊢; omega
        · simp only [List.length_cons]; omega
  have hl : ∀ m i M' o7, i + m = n → RM M' → (∀ c, c ≠ rk + 1 → M' c = M c) → Stk (M' (rk + 1)) (sRun (win 21 M rd) (win 12 M t) a i) →
      X E d fX2_reckon 15 [some (.ref rk), some (.ref t), some (J (a : Int)), some (J b), some (.ref (rd + 12)), some (J ((sRun (win 21 M rd) (win 12 M t) a i).length : Int)), some (J ((a + i : Nat) : Int)), o7] [] S (mI M') Q := by
    intro m
    induction m with
    | zero =>
      intro i M' o7 hi hM' hf hs
      have hi : i = n := by omega
      subst hi
      have hll := hlen i
      refine kX2_reckon_15 ⟨by omega, by omega⟩ hb.1 (fun _ => ?_) (fun h => absurd h (by omega))
      have kk := k M' hM' hf
      cases hh : sRun (win 21 M rd) (win 12 M t) a i with
      | nil =>
        rw [hh] at kk hll
        exact kX2_reckon_181 R32_0 (fun _ => kX2_reckon_199 (kX2_reckon_200 kk)) (fun h => absurd h (by decide))
      | cons v r =>
        rw [hh] at kk hll hs
        simp only [List.length_cons] at hll
        refine kX2_reckon_181 ⟨by simp only [List.length_cons]; omega, by simp only [List.length_cons]; omega⟩ (fun h => absurd h (by simp only [List.length_cons]; omega)) (fun _ => ?_)
        refine kX2_reckon_187 hK.kd hK.p0 hK.d0 ⟨by simp only [List.length_cons]; omega, by simp only [List.length_cons]; omega⟩ ⟨by simp only [List.length_cons]; omega, by simp only [List.length_cons]; omega⟩ (kX2_reckon_200 ?_)
        rw [show ((((v :: r).length : Nat) : Int) - 1).toNat = r.length by simp only [List.length_cons]; omega, hs.1]
        exact kk
    | succ m ih =>
      intro i M' o7 hi hM' hf hs
      have hll := hlen i
      have eR : win 21 M' rd = win 21 M rd := win_fr (fun c g1 g2 => hf c (by omega))
      have eW : win 12 M' t = win 12 M t := win_fr (fun c g1 g2 => hf c (by omega))
      have hL' : RdL M' rd := by
        intro s hs5
        rw [hf (rd + 2) (by omega), hf (rd + 1) (by omega)]
        exact hL s hs5
      have e20 : M' (rd + 12 + 8) (a + i) = win 21 M rd 20 (a + i) := by rw [win_at (by decide), hf (rd + 12 + 8) (by omega)]
      have e21 : M' (rd + 12 + 9) (a + i) = win 21 M rd 21 (a + i) := by rw [win_at (by decide), hf (rd + 12 + 9) (by omega)]
      refine kX2_reckon_15 ⟨by omega, by omega⟩ hb.1 (fun h => absurd h (by omega)) (fun _ => ?_)
      refine kX2_reckon_21 ⟨by omega, by omega⟩ (fun h => absurd h (by omega)) (fun _ => ?_)
      have hnx := fun M1 o h1 h2 h3 => ih (i + 1) M1 o (by omega) h1 h2 h3
      unfold sRun sStep at hnx
      rw [← e20, ← e21] at hnx
      have hone : M' (rd + 12 + 8) (a + i) = 51 ∨ M' (rd + 12 + 8) (a + i) = 27 ∨ M' (rd + 12 + 8) (a + i) = 21 → X E d fX2_reckon 60 [some (.ref rk), some (.ref t), some (J (a : Int)), some (J b), some (.ref (rd + 12)), some (J ((sRun (win 21 M rd) (win 12 M t) a i).length : Int)), some (J ((a + i : Nat) : Int)), some (J (M' (rd + 12 + 8) (a + i)))] [] S (mI M') Q := by
        intro hop
        rw [if_pos hop] at hnx
        cases hh : sRun (win 21 M rd) (win 12 M t) a i with
        | nil =>
          rw [hh] at hnx
          exact kX2_reckon_60 R32_0 (fun _ => kX2_reckon_175 (hnx M' _ hM' hf trivial)) (fun h => absurd h (by decide))
        | cons v r =>
          rw [hh] at hnx hs hll
          have hv := hs.R (fun j => hM' _ j)
          simp only [List.length_cons] at hll
          refine kX2_reckon_60 ⟨by simp only [List.length_cons]; omega, by simp only [List.length_cons]; omega⟩ (fun h => absurd h (by simp only [List.length_cons]; omega)) (fun _ => ?_)
          have e9 : ((((v :: r).length : Nat) : Int) - 1).toNat = r.length := by simp only [List.length_cons]; omega
          refine kX2_reckon_66 hK.kd hK.p0 hK.d0 ⟨by simp only [List.length_cons]; omega, by simp only [List.length_cons]; omega⟩ ⟨by simp only [List.length_cons]; omega, by simp only [List.length_cons]; omega⟩ (by omega) ?_
          rw [e9, hs.1]
          refine mX2_ofOne hC hM' (by omega) (hM' _ _) hv ⟨_, rfl, ?_⟩
          rw [eR, eW]
          refine kX2_reckon_89 hK.a0 ⟨by simp only [List.length_cons]; omega, by simp only [List.length_cons]; omega⟩ ⟨by simp only [List.length_cons]; omega, by simp only [List.length_cons]; omega⟩ (kX2_reckon_175 ?_)
          rw [e9, ← mI_nz]
          exact hnx _ _ hM'.z (fun c hc => (mW_ne hc).trans (hf c hc)) ⟨mW_self, hs.2.up (fun j hj => mW_ne2 (Or.inr (by omega)))⟩
      refine kX2_reckon_29 hO.kd hO.p9 hO.d9 ⟨by omega, by omega⟩ ⟨by omega, by omega⟩ (hM' _ _) (fun h => hone (Or.inl h)) (fun hn51 => ?_)
      refine kX2_reckon_46 (hM' _ _) (fun h => hone (Or.inr (Or.inl h))) (fun hn27 => ?_)
      refine kX2_reckon_53 (hM' _ _) (fun hn21 => ?_) (fun h => hone (Or.inr (Or.inr h)))
      rw [Int.toNat_natCast] at hn51 hn27 hn21 ⊢
      rw [if_neg (by omega)] at hnx
      refine kX2_reckon_93 (by omega) (mX2_isOfTwo (hM' _ _) ⟨_, rfl, ?_⟩)
      by_cases h2o : sIs2 (M' (rd + 12 + 8) (a + i)) = true
      · rw [if_pos h2o] at hnx ⊢
        refine kX2_reckon_98 (t0 := 1) ⟨by decide, by decide⟩ (fun h => absurd h (by decide)) (fun _ => ?_)
        cases hh : sRun (win 21 M rd) (win 12 M t) a i with
        | nil =>
          rw [hh] at hnx
          exact kX2_reckon_101 R32_0 (fun _ => kX2_reckon_175 (hnx M' _ hM' hf trivial)) (fun h => absurd h (by decide))
        | cons y r1 =>
          cases r1 with
          | nil =>
            rw [hh] at hnx hs
            exact kX2_reckon_101 ⟨by simp only [List.length_cons, List.length_nil]; omega, by simp only [List.length_cons, List.length_nil]; omega⟩ (fun _ => kX2_reckon_175 (hnx M' _ hM' hf hs)) (fun h => absurd h (by simp only [List.length_cons, List.length_nil]; omega))
          | cons x r =>
            rw [hh] at hnx hs hll
            have hy := hs.R (fun j => hM' _ j)
            have hx := hs.2.R (fun j => hM' _ j)
            simp only [List.length_cons] at hll
            have e8 : (((y :: x :: r).length : Nat) : Int) + (-1) = ((r.length + 1 : Nat) : Int) := by simp only [List.length_cons]; omega
            refine kX2_reckon_101 ⟨by simp only [List.length_cons]; omega, by simp only [List.length_cons]; omega⟩ (fun h => absurd h (by simp only [List.length_cons]; omega)) (fun _ => ?_)
            have e7 : (((r.length + 1 : Nat) : Int) - 1).toNat = r.length := by omega
            refine kX2_reckon_107 hK.kd hK.p0 hK.d0 ⟨by omega, by omega⟩ ⟨by omega, by omega⟩ ⟨by omega, by omega⟩ ⟨by omega, by omega⟩ (by omega) ?_
            rw [e8, e7, Int.toNat_natCast, hs.2.1]
            rw [show M' (rk + 1) (r.length + 1) = y from hs.1]
            refine mX2_ofTwo (hM' _ _) hx hy ⟨_, rfl, ?_⟩
            refine kX2_reckon_139 hK.a0 ⟨by omega, by omega⟩ ⟨by omega, by omega⟩ (kX2_reckon_175 ?_)
            rw [e7, ← mI_nz]
            exact hnx _ _ hM'.z (fun c hc => (mW_ne hc).trans (hf c hc)) ⟨mW_self, hs.2.2.up (fun j hj => mW_ne2 (Or.inr (by omega)))⟩
      · rw [if_neg h2o] at hnx ⊢
        refine kX2_reckon_98 (t0 := 0) R32_0 (fun _ => ?_) (fun h => absurd rfl h)
        refine kX2_reckon_143 ⟨by omega, by omega⟩ (fun h => absurd h (by omega)) (fun _ => ?_)
        refine kX2_reckon_151 hK.kd hK.p0 hO.kd hO.p10 hO.d10 ⟨by omega, by omega⟩ ⟨by omega, by omega⟩ (by omega) ?_
        rw [Int.toNat_natCast]
        refine mX2_ofNone hC hM' hL' (by omega) (hM' _ _) (hM' _ _) ⟨_, rfl, ?_⟩
        rw [eR, eW]
        refine kX2_reckon_171 hK.a0 ⟨by omega, by omega⟩ ⟨by omega, by omega⟩ (kX2_reckon_175 ?_)
        rw [Int.toNat_natCast, ← mI_nz]
        exact hnx _ _ hM'.z (fun c hc => (mW_ne hc).trans (hf c hc)) ⟨mW_self, hs.up (fun j hj => mW_ne2 (Or.inr (by omega)))⟩
  exact hl n 0 M _ (by omega) hM (fun _ _ => rfl) trivial
end C3
