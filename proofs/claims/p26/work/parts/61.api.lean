/-! contracts: what the class tells -/
section C18
variable {E : Nat → Value} {d : Nat} {S : aS} {M : Nat → Nat → Int} {Q : Option (Option Value) → aS → aI → Prop}
/-- the class's object: its trust, its trial, its road -/
abbrev ClS (S : aS) (c t t2 rd : Nat) : Prop := (aKd S c = 9) ∧ (aK S c = 9) ∧ (aP S c 6 = some t) ∧ (aP S c 7 = some t2) ∧ (aP S c 8 = some rd)
theorem ClS.kd {c t t2 rd : Nat} (h : ClS S c t t2 rd) : aKd S c = 9 := h.1
theorem ClS.k {c t t2 rd : Nat} (h : ClS S c t t2 rd) : aK S c = 9 := h.2.1
theorem ClS.p6 {c t t2 rd : Nat} (h : ClS S c t t2 rd) : aP S c 6 = some t := h.2.2.1
theorem ClS.p7 {c t t2 rd : Nat} (h : ClS S c t t2 rd) : aP S c 7 = some t2 := h.2.2.2.1
theorem ClS.p8 {c t t2 rd : Nat} (h : ClS S c t t2 rd) : aP S c 8 = some rd := h.2.2.2.2
def cGat (R : Nat → Nat → Int) (m : Int) : Nat → Int
  | 0 => 0
  | n + 1 => if R 5 n = m then cGat R m n + 1 else cGat R m n
def cTrf (R : Nat → Nat → Int) (m : Int) : Nat → Int
  | 0 => 0
  | n + 1 => if R 9 n ≤ m ∧ m ≤ R 10 n ∨ R 10 n ≤ m ∧ m ≤ R 9 n then cTrf R m n + 1 else cTrf R m n
theorem mX3_gatesAt {r : Nat} {m : Int} (hR : RdS S r) (hM : RM M) (hm : R32 m) (hg : 0 ≤ M r 2 ∧ M r 2 ≤ 5) (q : Q (some (some (J (cGat (win 21 M r) m (M r 2).toNat)))) S (mI M)) : X E d fX3_gatesAt 0 [some (.ref r), some (J m), none, none] [] S (mI M) Q := by
  have n8 := hR.n8
  refine kX3_gatesAt_0 ?_
  have hl : ∀ n i, i + n = (M r 2).toNat → X E d fX3_gatesAt 4 [some (.ref r), some (J m), some (J (cGat (win 21 M r) m i)), some (J (i : Int))] [] S (mI M) Q := by
    intro n
    induction n with
    | zero =>
      intro i hi
      have hi : (M r 2).toNat = i := by omega
      rw [hi] at q
      exact kX3_gatesAt_4 hR.kd ⟨by omega, by omega⟩ (hM _ _) (fun _ => kX3_gatesAt_31 q) (fun h => absurd h (by omega))
    | succ n ih =>
      intro i hi
      have h1 := ih (i + 1) (by omega)
      unfold cGat at h1
      rw [win_at (by decide)] at h1
      refine kX3_gatesAt_4 hR.kd ⟨by omega, by omega⟩ (hM _ _) (fun h => absurd h (by omega)) (fun _ => ?_)
      refine kX3_gatesAt_12 hR.kd hR.p8 hR.d8 ⟨by omega, by omega⟩ ⟨by omega, by omega⟩ (hM _ _) hm (fun h => ?_) (fun h => ?_)
      · rw [Int.toNat_natCast] at h
        rw [if_neg h] at h1
        exact kX3_gatesAt_25 h1
      · rw [Int.toNat_natCast] at h
        rw [if_pos h] at h1
        exact kX3_gatesAt_22 (kX3_gatesAt_25 h1)
  exact hl (M r 2).toNat 0 (by omega)
theorem mX3_trafficsBy {r : Nat} {m : Int} (hR : RdS S r) (hM : RM M) (hm : R32 m) (hg : 0 ≤ M r 3 ∧ M r 3 ≤ 8) (q : Q (some (some (J (cTrf (win 21 M r) m (M r 3).toNat)))) S (mI M)) : X E d fX3_trafficsBy 0 [some (.ref r), some (J m), none, none, none, none] [] S (mI M) Q := by
  have n12 := hR.n12
  have n13 := hR.n13
  refine kX3_trafficsBy_0 ?_
  have hl : ∀ n i o4 o5, i + n = (M r 3).toNat → X E d fX3_trafficsBy 4 [some (.ref r), some (J m), some (J (cTrf (win 21 M r) m i)), some (J (i : Int)), o4, o5] [] S (mI M) Q := by
    intro n
    induction n with
    | zero =>
      intro i o4 o5 hi
      have hi : (M r 3).toNat = i := by omega
      rw [hi] at q
      exact kX3_trafficsBy_4 hR.kd ⟨by omega, by omega⟩ (hM _ _) (fun _ => kX3_trafficsBy_85 q) (fun h => absurd h (by omega))
    | succ n ih =>
      intro i o4 o5 hi
      have h1 := fun o4 o5 => ih (i + 1) o4 o5 (by omega)
      unfold cTrf at h1
      rw [win_at (by decide), win_at (by decide)] at h1
      have hin : 0 ≤ ((i : Nat) : Int) ∧ ((i : Nat) : Int) < (8 : Nat) := ⟨by omega, by omega⟩
      have hfin : ∀ u v : Int, (u = 1 ∧ (M (r + 9) i ≤ m ∧ m ≤ M (r + 10) i) ∨ u = 0 ∧ ¬ (M (r + 9) i ≤ m ∧ m ≤ M (r + 10) i)) → (v = 1 ∧ (M (r + 10) i ≤ m ∧ m ≤ M (r + 9) i) ∨ v = 0 ∧ ¬ (M (r + 10) i ≤ m ∧ m ≤ M (r + 9) i)) →
          X E d fX3_trafficsBy 64 [some (.ref r), some (J m), some (J (cTrf (win 21 M r) m i)), some (J (i : Int)), some (J u), o5] [J v] S (mI M) Q := by
        intro u v hu hv
        refine kX3_trafficsBy_64 ⟨by omega, by omega⟩ (fun h => ?_) (fun h => ?_)
        · rw [if_pos (Or.inl (by omega))] at h1
          exact kX3_trafficsBy_76 (kX3_trafficsBy_79 (h1 _ _))
        · refine kX3_trafficsBy_71 ⟨by omega, by omega⟩ (fun h2 => ?_) (fun h2 => ?_)
          · rw [if_neg (by omega)] at h1
            exact kX3_trafficsBy_79 (h1 _ _)
          · rw [if_pos (Or.inr (by omega))] at h1
            exact kX3_trafficsBy_76 (kX3_trafficsBy_79 (h1 _ _))
      have hdn : ∀ (u : Int) o4, (u = 1 ∧ (M (r + 9) i ≤ m ∧ m ≤ M (r + 10) i) ∨ u = 0 ∧ ¬ (M (r + 9) i ≤ m ∧ m ≤ M (r + 10) i)) →
          X E d fX3_trafficsBy 37 [some (.ref r), some (J m), some (J (cTrf (win 21 M r) m i)), some (J (i : Int)), o4, o5] [J u] S (mI M) Q := by
        intro u o4 hu
        refine kX3_trafficsBy_37 hR.kd hR.p13 hR.d13 ⟨by omega, by omega⟩ ⟨by omega, by omega⟩ (hM _ _) hm (fun h => ?_) (fun h => ?_)
        · rw [Int.toNat_natCast] at h
          exact kX3_trafficsBy_63 (hfin u 0 hu (Or.inr ⟨rfl, by omega⟩))
        · rw [Int.toNat_natCast] at h
          refine kX3_trafficsBy_49 hR.kd hR.p12 hR.d12 ⟨by omega, by omega⟩ ⟨by omega, by omega⟩ hm (hM _ _) (fun h2 => ?_) (fun h2 => ?_)
          · rw [Int.toNat_natCast] at h2
            exact kX3_trafficsBy_63 (hfin u 0 hu (Or.inr ⟨rfl, by omega⟩))
          · rw [Int.toNat_natCast] at h2
            exact kX3_trafficsBy_59 (hfin u 1 hu (Or.inl ⟨rfl, by omega⟩))
      refine kX3_trafficsBy_4 hR.kd ⟨by omega, by omega⟩ (hM _ _) (fun h => absurd h (by omega)) (fun _ => ?_)
      refine kX3_trafficsBy_12 hR.kd hR.p12 hR.d12 ⟨by omega, by omega⟩ ⟨by omega, by omega⟩ (hM _ _) hm (fun h => ?_) (fun h => ?_)
      · rw [Int.toNat_natCast] at h
        exact kX3_trafficsBy_36 (hdn 0 _ (Or.inr ⟨rfl, by omega⟩))
      · rw [Int.toNat_natCast] at h
        refine kX3_trafficsBy_22 hR.kd hR.p13 hR.d13 ⟨by omega, by omega⟩ ⟨by omega, by omega⟩ hm (hM _ _) (fun h2 => ?_) (fun h2 => ?_)
        · rw [Int.toNat_natCast] at h2
          exact kX3_trafficsBy_36 (hdn 0 _ (Or.inr ⟨rfl, by omega⟩))
        · rw [Int.toNat_natCast] at h2
          exact kX3_trafficsBy_32 (hdn 1 _ (Or.inl ⟨rfl, by omega⟩))
  exact hl (M r 3).toNat 0 none none (by omega)
def cMile (R W : Nat → Nat → Int) (m : Nat) (x : Int) : Int := if x = 0 then R 4 m else if x = 1 then W 1 m else if x = 2 then cGat R (m : Int) (R 0 2).toNat else W 2 m
theorem mX7_mile {c t t2 rk rd m : Nat} {x : Int} (hc : ClS S c t t2 rd) (hC : Cx S t rk rd) (hM : RM M) (hP : RdP M rd) (hd : 4 ≤ d) (hm : (m : Int) < M rd 1) (hx : 0 ≤ x ∧ x < 4) (q : Q (some (some (J (cMile (win 21 M rd) (win 12 M t) m x)))) S (mI M)) : X E d fX7_mile 0 [some (.ref c), some (J m), some (J x)] [] S (mI M) Q := by
  have hT := hC.tr
  have hR := hC.ro
  have h1 := hP.ns
  have h2 := hP.nm
  have h3 := hP.ng
  have h4 := hP.nt
  have nr7 := hR.n7
  have nw4 := hT.n4
  have nw5 := hT.n5
  refine kX7_mile_0 hc.kd hc.p8 hR.kd (by omega) (mX7_isOutside ⟨by omega, by omega⟩ (hM _ _) ⟨_, rfl, ?_⟩)
  rw [if_neg (by omega)]
  refine kX7_mile_11 (t0 := 0) R32_0 (fun h => absurd rfl h) (fun _ => ?_)
  refine kX7_mile_14 (by omega) (mX7_isOutside ⟨by omega, by omega⟩ ⟨by decide, by decide⟩ ⟨_, rfl, ?_⟩)
  rw [if_neg (by omega)]
  refine kX7_mile_19 (t0 := 0) R32_0 (fun _ => ?_) (fun h => absurd rfl h)
  refine kX7_mile_32 ⟨by omega, by omega⟩ (fun h => ?_) (fun h => ?_) (fun h => ?_) (fun h => ?_)
  · unfold cMile at q
    rw [if_neg (by omega), if_neg (by omega), if_neg (by omega)] at q
    rw [win_at (by decide)] at q
    refine kX7_mile_89 hc.kd hc.p6 hT.kd hT.p5 hT.d5 ⟨by omega, by omega⟩ ⟨by omega, by omega⟩ ?_
    rw [Int.toNat_natCast]
    exact q
  · unfold cMile at q
    rw [if_pos h] at q
    rw [win_at (by decide)] at q
    refine kX7_mile_60 hc.kd hc.p8 hR.kd hR.p7 hR.d7 ⟨by omega, by omega⟩ ⟨by omega, by omega⟩ ?_
    rw [Int.toNat_natCast]
    exact q
  · unfold cMile at q
    rw [if_neg (by omega), if_pos h] at q
    rw [win_at (by decide)] at q
    refine kX7_mile_70 hc.kd hc.p6 hT.kd hT.p4 hT.d4 ⟨by omega, by omega⟩ ⟨by omega, by omega⟩ ?_
    rw [Int.toNat_natCast]
    exact q
  · unfold cMile at q
    rw [if_neg (by omega), if_neg (by omega), if_pos h] at q
    rw [w_00] at q
    exact kX7_mile_80 hc.kd hc.p8 (by omega) (mX3_gatesAt hR hM ⟨by omega, by omega⟩ h3 ⟨_, rfl, kX7_mile_88 (t0 := cGat (win 21 M rd) (m : Int) (M rd 2).toNat) q⟩) hR.kd
def cStr (R W : Nat → Nat → Int) (m : Nat) (x : Int) : Int := if x = 0 then R 1 m else if x = 1 then R 3 m else if x = 2 then R 2 m else if x = 3 then sLeast R W (m : Int) else if x = 4 then sBrk (W 1) (R 2 m).toNat (R 1 m).toNat else W 3 m
theorem mX7_stretch {c t t2 rk rd m : Nat} {x : Int} (hc : ClS S c t t2 rd) (hC : Cx S t rk rd) (hM : RM M) (hP : RdP M rd) (hd : 4 ≤ d) (hm : (m : Int) < M rd 0) (hx : 0 ≤ x ∧ x < 6) (q : Q (some (some (J (cStr (win 21 M rd) (win 12 M t) m x)))) S (mI M)) : X E d fX7_stretch 0 [some (.ref c), some (J m), some (J x)] [] S (mI M) Q := by
  have hT := hC.tr
  have hR := hC.ro
  have h1 := hP.ns
  have h2 := hP.nm
  have h3 := hP.ng
  have h4 := hP.nt
  have nr4 := hR.n4
  have nr5 := hR.n5
  have nr6 := hR.n6
  have nw6 := hT.n6
  refine kX7_stretch_0 hc.kd hc.p8 hR.kd (by omega) (mX7_isOutside ⟨by omega, by omega⟩ (hM _ _) ⟨_, rfl, ?_⟩)
  rw [if_neg (by omega)]
  refine kX7_stretch_11 (t0 := 0) R32_0 (fun h => absurd rfl h) (fun _ => ?_)
  refine kX7_stretch_14 (by omega) (mX7_isOutside ⟨by omega, by omega⟩ ⟨by decide, by decide⟩ ⟨_, rfl, ?_⟩)
  rw [if_neg (by omega)]
  refine kX7_stretch_20 (t0 := 0) R32_0 (fun _ => ?_) (fun h => absurd rfl h)
  refine kX7_stretch_33 ⟨by omega, by omega⟩ (fun h => ?_) (fun h => ?_) (fun h => ?_) (fun h => ?_) (fun h => ?_) (fun h => ?_)
  · unfold cStr at q
    rw [if_neg (by omega), if_neg (by omega), if_neg (by omega), if_neg (by omega), if_neg (by omega)] at q
    rw [win_at (by decide)] at q
    refine kX7_stretch_116 hc.kd hc.p6 hT.kd hT.p6 hT.d6 ⟨by omega, by omega⟩ ⟨by omega, by omega⟩ ?_
    rw [Int.toNat_natCast]
    exact q
  · unfold cStr at q
    rw [if_pos h] at q
    rw [win_at (by decide)] at q
    refine kX7_stretch_68 hc.kd hc.p8 hR.kd hR.p4 hR.d4 ⟨by omega, by omega⟩ ⟨by omega, by omega⟩ ?_
    rw [Int.toNat_natCast]
    exact q
  · unfold cStr at q
    rw [if_neg (by omega), if_pos h] at q
    rw [win_at (by decide)] at q
    refine kX7_stretch_78 hc.kd hc.p8 hR.kd hR.p6 hR.d6 ⟨by omega, by omega⟩ ⟨by omega, by omega⟩ ?_
    rw [Int.toNat_natCast]
    exact q
  · unfold cStr at q
    rw [if_neg (by omega), if_neg (by omega), if_pos h] at q
    rw [win_at (by decide)] at q
    refine kX7_stretch_88 hc.kd hc.p8 hR.kd hR.p5 hR.d5 ⟨by omega, by omega⟩ ⟨by omega, by omega⟩ ?_
    rw [Int.toNat_natCast]
    exact q
  · unfold cStr at q
    rw [if_neg (by omega), if_neg (by omega), if_neg (by omega), if_pos h] at q
    have hv := hP.L.v (m : Int)
    exact kX7_stretch_98 hc.kd hc.p6 (by omega) (mX6_leastCondition hC hM (by omega) ⟨by omega, by omega⟩ hv.1 hv.2.1 hv.2.2 ⟨_, rfl, kX7_stretch_106 (t0 := sLeast (win 21 M rd) (win 12 M t) (m : Int)) q⟩) hT.kd
  · unfold cStr at q
    rw [if_neg (by omega), if_neg (by omega), if_neg (by omega), if_neg (by omega), if_pos h] at q
    have hv := hP.L m (by omega)
    rw [win_at (by decide), win_at (by decide), win_at (by decide)] at q
    exact kX7_stretch_107 hc.kd hc.p6 (by omega) (mX6_brokenMilesOf hC hM (by omega) (by omega) hv.1 hv.2.1 hv.2.2 ⟨_, rfl, kX7_stretch_115 (t0 := sBrk (M (t + 1)) (M (rd + 2) m).toNat (M (rd + 1) m).toNat) q⟩) hT.kd
def cGate (R W : Nat → Nat → Int) (m : Nat) (x : Int) : Int := if x = 0 then R 5 m else if x = 1 then W 4 m else if x = 2 then W 5 m else if x = 3 then W 6 m else if x = 4 then W 7 m else cTrf R (R 5 m) (R 0 3).toNat
theorem mX7_gate {c t t2 rk rd m : Nat} {x : Int} (hc : ClS S c t t2 rd) (hC : Cx S t rk rd) (hM : RM M) (hP : RdP M rd) (hd : 4 ≤ d) (hm : (m : Int) < M rd 2) (hx : 0 ≤ x ∧ x < 6) (q : Q (some (some (J (cGate (win 21 M rd) (win 12 M t) m x)))) S (mI M)) : X E d fX7_gate 0 [some (.ref c), some (J m), some (J x)] [] S (mI M) Q := by
  have hT := hC.tr
  have hR := hC.ro
  have h1 := hP.ns
  have h2 := hP.nm
  have h3 := hP.ng
  have h4 := hP.nt
  have nr8 := hR.n8
  have nw7 := hT.n7
  have nw8 := hT.n8
  have nw9 := hT.n9
  have nw10 := hT.n10
  refine kX7_gate_0 hc.kd hc.p8 hR.kd (by omega) (mX7_isOutside ⟨by omega, by omega⟩ (hM _ _) ⟨_, rfl, ?_⟩)
  rw [if_neg (by omega)]
  refine kX7_gate_11 (t0 := 0) R32_0 (fun h => absurd rfl h) (fun _ => ?_)
  refine kX7_gate_14 (by omega) (mX7_isOutside ⟨by omega, by omega⟩ ⟨by decide, by decide⟩ ⟨_, rfl, ?_⟩)
  rw [if_neg (by omega)]
  refine kX7_gate_20 (t0 := 0) R32_0 (fun _ => ?_) (fun h => absurd rfl h)
  refine kX7_gate_33 ⟨by omega, by omega⟩ (fun h => ?_) (fun h => ?_) (fun h => ?_) (fun h => ?_) (fun h => ?_) (fun h => ?_)
  · unfold cGate at q
    rw [if_neg (by omega), if_neg (by omega), if_neg (by omega), if_neg (by omega), if_neg (by omega)] at q
    rw [w_00, win_at (i := 5) (by decide)] at q
    have n8 := hR.n8
    refine kX7_gate_118 hc.kd hc.p8 hR.kd hR.p8 hR.d8 ⟨by omega, by omega⟩ ⟨by omega, by omega⟩ (by omega) ?_
    rw [Int.toNat_natCast]
    exact mX3_trafficsBy hR hM (hM _ _) h4 ⟨_, rfl, kX7_gate_134 (t0 := cTrf (win 21 M rd) (M (rd + 5) m) (M rd 3).toNat) q⟩
  · unfold cGate at q
    rw [if_pos h] at q
    rw [win_at (by decide)] at q
    refine kX7_gate_68 hc.kd hc.p8 hR.kd hR.p8 hR.d8 ⟨by omega, by omega⟩ ⟨by omega, by omega⟩ ?_
    rw [Int.toNat_natCast]
    exact q
  · unfold cGate at q
    rw [if_neg (by omega), if_pos h] at q
    rw [win_at (by decide)] at q
    refine kX7_gate_78 hc.kd hc.p6 hT.kd hT.p7 hT.d7 ⟨by omega, by omega⟩ ⟨by omega, by omega⟩ ?_
    rw [Int.toNat_natCast]
    exact q
  · unfold cGate at q
    rw [if_neg (by omega), if_neg (by omega), if_pos h] at q
    rw [win_at (by decide)] at q
    refine kX7_gate_88 hc.kd hc.p6 hT.kd hT.p8 hT.d8 ⟨by omega, by omega⟩ ⟨by omega, by omega⟩ ?_
    rw [Int.toNat_natCast]
    exact q
  · unfold cGate at q
    rw [if_neg (by omega), if_neg (by omega), if_neg (by omega), if_pos h] at q
    rw [win_at (by decide)] at q
    refine kX7_gate_98 hc.kd hc.p6 hT.kd hT.p9 hT.d9 ⟨by omega, by omega⟩ ⟨by omega, by omega⟩ ?_
    rw [Int.toNat_natCast]
    exact q
  · unfold cGate at q
    rw [if_neg (by omega), if_neg (by omega), if_neg (by omega), if_neg (by omega), if_pos h] at q
    rw [win_at (by decide)] at q
    refine kX7_gate_108 hc.kd hc.p6 hT.kd hT.p10 hT.d10 ⟨by omega, by omega⟩ ⟨by omega, by omega⟩ ?_
    rw [Int.toNat_natCast]
    exact q
def cTraf (R W : Nat → Nat → Int) (m : Nat) (x : Int) : Int := if x = 0 then R 7 m else if x = 1 then W 9 m else if x = 2 then R 9 m else if x = 3 then R 10 m else if x = 4 then R 11 m else if x = 5 then W 10 m else if x = 6 then W 11 m else W 12 m
theorem mX7_traffic {c t t2 rk rd m : Nat} {x : Int} (hc : ClS S c t t2 rd) (hC : Cx S t rk rd) (hM : RM M) (hP : RdP M rd) (hd : 4 ≤ d) (hm : (m : Int) < M rd 3) (hx : 0 ≤ x ∧ x < 8) (q : Q (some (some (J (cTraf (win 21 M rd) (win 12 M t) m x)))) S (mI M)) : X E d fX7_traffic 0 [some (.ref c), some (J m), some (J x)] [] S (mI M) Q := by
  have hT := hC.tr
  have hR := hC.ro
  have h1 := hP.ns
  have h2 := hP.nm
  have h3 := hP.ng
  have h4 := hP.nt
  have nr10 := hR.n10
  have nr12 := hR.n12
  have nr13 := hR.n13
  have nr14 := hR.n14
  have nw12 := hT.n12
  have nw13 := hT.n13
  have nw14 := hT.n14
  have nw15 := hT.n15
  refine kX7_traffic_0 hc.kd hc.p8 hR.kd (by omega) (mX7_isOutside ⟨by omega, by omega⟩ (hM _ _) ⟨_, rfl, ?_⟩)
  rw [if_neg (by omega)]
  refine kX7_traffic_11 (t0 := 0) R32_0 (fun h => absurd rfl h) (fun _ => ?_)
  refine kX7_traffic_14 (by omega) (mX7_isOutside ⟨by omega, by omega⟩ ⟨by decide, by decide⟩ ⟨_, rfl, ?_⟩)
  rw [if_neg (by omega)]
  refine kX7_traffic_20 (t0 := 0) R32_0 (fun _ => ?_) (fun h => absurd rfl h)
  refine kX7_traffic_33 ⟨by omega, by omega⟩ (fun h => ?_) (fun h => ?_) (fun h => ?_) (fun h => ?_) (fun h => ?_) (fun h => ?_) (fun h => ?_) (fun h => ?_)
  · unfold cTraf at q
    rw [if_neg (by omega), if_neg (by omega), if_neg (by omega), if_neg (by omega), if_neg (by omega), if_neg (by omega), if_neg (by omega)] at q
    rw [win_at (by decide)] at q
    refine kX7_traffic_146 hc.kd hc.p6 hT.kd hT.p15 hT.d15 ⟨by omega, by omega⟩ ⟨by omega, by omega⟩ ?_
    rw [Int.toNat_natCast]
    exact q
  · unfold cTraf at q
    rw [if_pos h] at q
    rw [win_at (by decide)] at q
    refine kX7_traffic_76 hc.kd hc.p8 hR.kd hR.p10 hR.d10 ⟨by omega, by omega⟩ ⟨by omega, by omega⟩ ?_
    rw [Int.toNat_natCast]
    exact q
  · unfold cTraf at q
    rw [if_neg (by omega), if_pos h] at q
    rw [win_at (by decide)] at q
    refine kX7_traffic_86 hc.kd hc.p6 hT.kd hT.p12 hT.d12 ⟨by omega, by omega⟩ ⟨by omega, by omega⟩ ?_
    rw [Int.toNat_natCast]
    exact q
  · unfold cTraf at q
    rw [if_neg (by omega), if_neg (by omega), if_pos h] at q
    rw [win_at (by decide)] at q
    refine kX7_traffic_96 hc.kd hc.p8 hR.kd hR.p12 hR.d12 ⟨by omega, by omega⟩ ⟨by omega, by omega⟩ ?_
    rw [Int.toNat_natCast]
    exact q
  · unfold cTraf at q
    rw [if_neg (by omega), if_neg (by omega), if_neg (by omega), if_pos h] at q
    rw [win_at (by decide)] at q
    refine kX7_traffic_106 hc.kd hc.p8 hR.kd hR.p13 hR.d13 ⟨by omega, by omega⟩ ⟨by omega, by omega⟩ ?_
    rw [Int.toNat_natCast]
    exact q
  · unfold cTraf at q
    rw [if_neg (by omega), if_neg (by omega), if_neg (by omega), if_neg (by omega), if_pos h] at q
    rw [win_at (by decide)] at q
    refine kX7_traffic_116 hc.kd hc.p8 hR.kd hR.p14 hR.d14 ⟨by omega, by omega⟩ ⟨by omega, by omega⟩ ?_
    rw [Int.toNat_natCast]
    exact q
  · unfold cTraf at q
    rw [if_neg (by omega), if_neg (by omega), if_neg (by omega), if_neg (by omega), if_neg (by omega), if_pos h] at q
    rw [win_at (by decide)] at q
    refine kX7_traffic_126 hc.kd hc.p6 hT.kd hT.p13 hT.d13 ⟨by omega, by omega⟩ ⟨by omega, by omega⟩ ?_
    rw [Int.toNat_natCast]
    exact q
  · unfold cTraf at q
    rw [if_neg (by omega), if_neg (by omega), if_neg (by omega), if_neg (by omega), if_neg (by omega), if_neg (by omega), if_pos h] at q
    rw [win_at (by decide)] at q
    refine kX7_traffic_136 hc.kd hc.p6 hT.kd hT.p14 hT.d14 ⟨by omega, by omega⟩ ⟨by omega, by omega⟩ ?_
    rw [Int.toNat_natCast]
    exact q
theorem mX7_toll {c t t2 rk rd a g : Nat} (hc : ClS S c t t2 rd) (hC : Cx S t rk rd) (hM : RM M) (hP : RdP M rd) (hd : 2 ≤ d) (ha : (a : Int) < M rd 3) (hg : (g : Int) < M rd 2) (q : Q (some (some (J (sToll (win 12 M t) a g)))) S (mI M)) : X E d fX7_toll 0 [some (.ref c), some (J a), some (J g)] [] S (mI M) Q := by
  have hT := hC.tr
  have hR := hC.ro
  have h3 := hP.ng
  have h4 := hP.nt
  refine kX7_toll_0 hc.kd hc.p8 hR.kd (by omega) (mX7_isOutside ⟨by omega, by omega⟩ (hM _ _) ⟨_, rfl, ?_⟩)
  rw [if_neg (by omega)]
  refine kX7_toll_11 (t0 := 0) R32_0 (fun h => absurd rfl h) (fun _ => ?_)
  refine kX7_toll_14 hc.kd hc.p8 hR.kd (by omega) (mX7_isOutside ⟨by omega, by omega⟩ (hM _ _) ⟨_, rfl, ?_⟩)
  rw [if_neg (by omega)]
  refine kX7_toll_25 (t0 := 0) R32_0 (fun _ => ?_) (fun h => absurd rfl h)
  exact kX7_toll_38 hc.kd hc.p6 (by omega) (mX6_tollOf hT hM (by omega) (by omega) ⟨_, rfl, kX7_toll_47 (t0 := sToll (win 12 M t) a g) q⟩) hT.kd
/-- the counts, told by 0 to 12; b: the bytes of the tape -/
def cCount (R W : Nat → Nat → Int) (b x : Int) : Int := if x = 0 then W 0 2 else if x = 1 then W 0 3 else if x = 2 then R 0 0 else if x = 3 then R 0 1 else if x = 4 then R 0 2 else if x = 5 then R 0 3 else if x = 6 then R 12 0 else if x = 12 then b else sTot R W x
theorem mX7_count {c t t2 rk rd : Nat} {x : Int} (hc : ClS S c t t2 rd) (hC : Cx S t rk rd) (hM : RM M) (hP : RdP M rd) (hd : 2 ≤ d) (hx : 0 ≤ x ∧ x < 13) (q : Q (some (some (J (cCount (win 21 M rd) (win 12 M t) (M c 1) x)))) S (mI M)) : X E d fX7_count 0 [some (.ref c), some (J x)] [] S (mI M) Q := by
  have hT := hC.tr
  have hR := hC.ro
  have hO := hC.os
  have tot : x = 7 ∨ x = 8 ∨ x = 9 ∨ x = 10 ∨ x = 11 → X E d fX7_count 127 [some (.ref c), some (J x)] [] S (mI M) Q := by
    intro hy
    unfold cCount at q
    rw [if_neg (by omega), if_neg (by omega), if_neg (by omega), if_neg (by omega), if_neg (by omega), if_neg (by omega), if_neg (by omega), if_neg (by omega)] at q
    exact kX7_count_127 hc.kd hc.p6 (by omega) (mX6_total hC hM hP ⟨by omega, by omega⟩ (by omega) ⟨_, rfl, kX7_count_135 (t0 := sTot (win 21 M rd) (win 12 M t) x) q⟩) hT.kd
  refine kX7_count_0 ⟨by omega, by omega⟩ (fun h => absurd h (by omega)) (fun h => ?_) (fun h => ?_) (fun h => ?_) (fun h => ?_) (fun h => ?_) (fun h => ?_) (fun h => ?_) (fun h => tot (by omega)) (fun h => tot (by omega)) (fun h => tot (by omega)) (fun h => tot (by omega)) (fun h => tot (by omega)) (fun h => ?_)
  all_goals subst h
  · exact kX7_count_68 hc.kd hc.p6 hT.kd q
  · exact kX7_count_76 hc.kd hc.p6 hT.kd q
  · exact kX7_count_84 hc.kd hc.p8 hR.kd q
  · exact kX7_count_92 hc.kd hc.p8 hR.kd q
  · exact kX7_count_100 hc.kd hc.p8 hR.kd q
  · exact kX7_count_108 hc.kd hc.p8 hR.kd q
  · exact kX7_count_116 hc.kd hc.p8 hR.kd hR.p15 hO.kd q
  · exact kX7_count_136 hc.kd q
end C18
