/-! contracts: mend; what would be: the trial copied, and let go -/
section C20
variable {E : Nat → Value} {d : Nat} {S : aS} {M : Nat → Nat → Int} {Q : Option (Option Value) → aS → aI → Prop}
theorem aPut_P {a b j : Nat} {q : Option Nat} (h : b ≠ a) : aP (aPut S a j q) b = aP S b := aU_ne _ _ h
theorem aPut_at {a j k : Nat} {q : Option Nat} (h : k ≠ j) : aP (aPut S a j q) a k = aP S a k := by
  show aU (aP S) a (aU (aP S a) j q) a k = _
  rw [aU_self, aU_ne _ _ h]
theorem aPut_self {a j : Nat} {q : Option Nat} : aP (aPut S a j q) a j = q := by
  show aU (aP S) a (aU (aP S a) j q) a j = _
  rw [aU_self, aU_self]
theorem TrS.put {t rk rd a j : Nat} {q : Option Nat} (h : TrS S t rk rd) (hne : t ≠ a) : TrS (aPut S a j q) t rk rd := by
  have e : aP (aPut S a j q) t = aP S t := aPut_P hne
  exact ⟨h.k, h.kd, (congrFun e 0).trans h.p0, (congrFun e 1).trans h.p1, (congrFun e 4).trans h.p4, h.a4, h.d4, h.n4, (congrFun e 5).trans h.p5, h.a5, h.d5, h.n5, (congrFun e 6).trans h.p6, h.a6, h.d6, h.n6, (congrFun e 7).trans h.p7, h.a7, h.d7, h.n7, (congrFun e 8).trans h.p8, h.a8, h.d8, h.n8, (congrFun e 9).trans h.p9, h.a9, h.d9, h.n9, (congrFun e 10).trans h.p10, h.a10, h.d10, h.n10, (congrFun e 11).trans h.p11, h.a11, h.d11, h.n11, (congrFun e 12).trans h.p12, h.a12, h.d12, h.n12, (congrFun e 13).trans h.p13, h.a13, h.d13, h.n13, (congrFun e 14).trans h.p14, h.a14, h.d14, h.n14, (congrFun e 15).trans h.p15, h.a15, h.d15, h.n15⟩
theorem RdS.put {r a j : Nat} {q : Option Nat} (h : RdS S r) (hne : r ≠ a) : RdS (aPut S a j q) r := by
  have e : aP (aPut S a j q) r = aP S r := aPut_P hne
  exact ⟨h.k, h.kd, (congrFun e 15).trans h.p15, (congrFun e 4).trans h.p4, h.a4, h.d4, h.n4, (congrFun e 5).trans h.p5, h.a5, h.d5, h.n5, (congrFun e 6).trans h.p6, h.a6, h.d6, h.n6, (congrFun e 7).trans h.p7, h.a7, h.d7, h.n7, (congrFun e 8).trans h.p8, h.a8, h.d8, h.n8, (congrFun e 9).trans h.p9, h.a9, h.d9, h.n9, (congrFun e 10).trans h.p10, h.a10, h.d10, h.n10, (congrFun e 11).trans h.p11, h.a11, h.d11, h.n11, (congrFun e 12).trans h.p12, h.a12, h.d12, h.n12, (congrFun e 13).trans h.p13, h.a13, h.d13, h.n13, (congrFun e 14).trans h.p14, h.a14, h.d14, h.n14⟩
theorem OrS.put {o a j : Nat} {q : Option Nat} (h : OrS S o) (hne : o ≠ a) : OrS (aPut S a j q) o := by
  have e : aP (aPut S a j q) o = aP S o := aPut_P hne
  exact ⟨h.k, h.kd, (congrFun e 1).trans h.p1, h.a1, h.d1, h.n1, (congrFun e 2).trans h.p2, h.a2, h.d2, h.n2, (congrFun e 3).trans h.p3, h.a3, h.d3, h.n3, (congrFun e 4).trans h.p4, h.a4, h.d4, h.n4, (congrFun e 5).trans h.p5, h.a5, h.d5, h.n5, (congrFun e 6).trans h.p6, h.a6, h.d6, h.n6, (congrFun e 7).trans h.p7, h.a7, h.d7, h.n7, (congrFun e 9).trans h.p9, h.a9, h.d9, h.n9, (congrFun e 10).trans h.p10, h.a10, h.d10, h.n10⟩
theorem RkS.put {c a j : Nat} {q : Option Nat} (h : RkS S c) (hne : c ≠ a) : RkS (aPut S a j q) c := by
  have e : aP (aPut S a j q) c = aP S c := aPut_P hne
  exact ⟨h.k, h.kd, (congrFun e 0).trans h.p0, h.a0, h.d0, h.n0⟩
theorem TkS.put {c a j : Nat} {q : Option Nat} (h : TkS S c) (hne : c ≠ a) : TkS (aPut S a j q) c := by
  have e : aP (aPut S a j q) c = aP S c := aPut_P hne
  exact ⟨h.k, h.kd, (congrFun e 0).trans h.p0, h.a0, h.d0, h.n0, (congrFun e 1).trans h.p1, h.a1, h.d1, h.n1, (congrFun e 2).trans h.p2, h.a2, h.d2, h.n2, (congrFun e 3).trans h.p3, h.a3, h.d3, h.n3⟩
theorem TrS.rd {t rk rd0 rd : Nat} (h : TrS S t rk rd0) : TrS (aPut S t 1 (some rd)) t rk rd := ⟨h.k, h.kd, (aPut_at (by decide)).trans h.p0, aPut_self, (aPut_at (by decide)).trans h.p4, h.a4, h.d4, h.n4, (aPut_at (by decide)).trans h.p5, h.a5, h.d5, h.n5, (aPut_at (by decide)).trans h.p6, h.a6, h.d6, h.n6, (aPut_at (by decide)).trans h.p7, h.a7, h.d7, h.n7, (aPut_at (by decide)).trans h.p8, h.a8, h.d8, h.n8, (aPut_at (by decide)).trans h.p9, h.a9, h.d9, h.n9, (aPut_at (by decide)).trans h.p10, h.a10, h.d10, h.n10, (aPut_at (by decide)).trans h.p11, h.a11, h.d11, h.n11, (aPut_at (by decide)).trans h.p12, h.a12, h.d12, h.n12, (aPut_at (by decide)).trans h.p13, h.a13, h.d13, h.n13, (aPut_at (by decide)).trans h.p14, h.a14, h.d14, h.n14, (aPut_at (by decide)).trans h.p15, h.a15, h.d15, h.n15⟩
theorem Cx.put {t rk rd a j : Nat} {q : Option Nat} (h : Cx S t rk rd) (h1 : t ≠ a) (h2 : rd ≠ a) (h3 : rd + 12 ≠ a) (h4 : rk ≠ a) : Cx (aPut S a j q) t rk rd := ⟨h.tr.put h1, h.ro.put h2, h.os.put h3, h.re.put h4, h.h1, h.h2, h.h3⟩
theorem ClS.put {c t t2 rd a j : Nat} {q : Option Nat} (h : ClS S c t t2 rd) (hne : c ≠ a) : ClS (aPut S a j q) c t t2 rd := by
  have e : aP (aPut S a j q) c = aP S c := aPut_P hne
  exact ⟨h.kd, h.k, (congrFun e 6).trans h.p6, (congrFun e 7).trans h.p7, (congrFun e 8).trans h.p8⟩
/-- the class's object with both its trusts -/
abbrev Wh (S : aS) (c t t2 rk rd rd0 : Nat) : Prop := (ClS S c t t2 rd) ∧ (Cx S t rk rd) ∧ (Cx S t2 rk rd0) ∧ (t + 12 < t2) ∧ (c < rd)
theorem Wh.c {c t t2 rk rd rd0 : Nat} (h : Wh S c t t2 rk rd rd0) : ClS S c t t2 rd := h.1
theorem Wh.C {c t t2 rk rd rd0 : Nat} (h : Wh S c t t2 rk rd rd0) : Cx S t rk rd := h.2.1
theorem Wh.C2 {c t t2 rk rd rd0 : Nat} (h : Wh S c t t2 rk rd rd0) : Cx S t2 rk rd0 := h.2.2.1
theorem Wh.tt {c t t2 rk rd rd0 : Nat} (h : Wh S c t t2 rk rd rd0) : t + 12 < t2 := h.2.2.2.1
theorem Wh.cr {c t t2 rk rd rd0 : Nat} (h : Wh S c t t2 rk rd rd0) : c < rd := h.2.2.2.2
theorem Wh.put {c t t2 rk rd rd0 : Nat} (h : Wh S c t t2 rk rd rd0) : Wh (aPut S t2 1 (some rd)) c t t2 rk rd rd := by
  have a1 := h.C.h1
  have a2 := h.C.h2
  have a3 := h.tt
  have a4 := h.cr
  exact ⟨h.c.put (by omega), h.C.put (by omega) (by omega) (by omega) (by omega), ⟨h.C2.tr.rd, h.C.ro.put (by omega), h.C.os.put (by omega), h.C.re.put (by omega), a1, h.C2.h2, h.C2.h3⟩, a3, a4⟩
theorem mX7_mend {c t t2 rk rd s : Nat} {x : Int} (hc : ClS S c t t2 rd) (hC : Cx S t rk rd) (hM : RM M) (hP : RdP M rd) (hd : 3 ≤ d) (hs : (s : Int) < M rd 0) (hx : 1 ≤ x ∧ x ≤ 999)
    (k0 : win 12 M t 0 3 < x → Q none (aNew S 500 0 6) (mI M))
    (k : x ≤ win 12 M t 0 3 → ∀ M', RM M' → win 12 M' t = (sMend (win 21 M rd) (win 12 M t) s x).2 → Fr t (t + 12) (rk + 1) M M' → Q (some (some (J (sMend (win 21 M rd) (win 12 M t) s x).1))) S (mI M')) : X E d fX7_mend 0 [some (.ref c), some (J s), some (J x)] [] S (mI M) Q := by
  have hT := hC.tr
  have hR := hC.ro
  have h0 := hP.ns
  refine kX7_mend_0 hc.kd hc.p8 hR.kd (by omega) (mX7_isOutside ⟨by omega, by omega⟩ (hM _ _) ⟨_, rfl, ?_⟩)
  rw [if_neg (by omega)]
  refine kX7_mend_11 (t0 := 0) R32_0 (fun _ => ?_) (fun h => absurd rfl h)
  refine kX7_mend_25 ⟨by omega, by omega⟩ (fun h => absurd h (by omega)) (fun _ => ?_)
  refine kX7_mend_30 ⟨by omega, by omega⟩ (fun _ => ?_) (fun h => absurd h (by omega))
  refine kX7_mend_48 hc.kd hc.p6 hT.kd ⟨by omega, by omega⟩ (hM _ _) (fun h => ?_) (fun h => ?_)
  · exact kX7_mend_70 hc.kd hc.p6 (by omega) (mX6_spend hC hM hP (by omega) hs ⟨by omega, by omega⟩ (fun M2 hM2 hW2 hf2 => ⟨_, rfl, kX7_mend_79 (t0 := _) (k (by rw [w_00]; exact h) M2 hM2 hW2 hf2)⟩)) hT.kd
  · exact kX7_mend_59 (k0 (by rw [w_00]; exact h))
/-- what a journey would be -/
def cJour (R W : Nat → Nat → Int) (a : Nat) (x : Int) : Int := if x = 0 then (sGo R W a).2 12 a - W 12 a else if x = 1 then sSum (W 1) (R 0 1).toNat - sSum ((sGo R W a).2 1) (R 0 1).toNat else (sGo R W a).1
theorem mX7_journey {c t t2 rk rd rd0 a : Nat} {x : Int} (hw : Wh S c t t2 rk rd rd0) (hM : RM M) (hP : RdP M rd) (hd : 6 ≤ d) (ha : (a : Int) < M rd 3) (hx : 0 ≤ x ∧ x < 3) (hz : ZW (win 12 M t)) (hz2 : ZW (win 12 M t2)) (h9 : 1 ≤ win 12 M t 9 a)
    (k : ∀ M', RM M' → win 12 M' t2 = (sGo (win 21 M rd) (win 12 M t) a).2 → Fr t2 (t2 + 12) (rk + 1) M M' → Q (some (some (J (cJour (win 21 M rd) (win 12 M t) a x)))) (aPut S t2 1 (some rd)) (mI M')) : X E d fX7_journey 0 [some (.ref c), some (J a), some (J x), none] [] S (mI M) Q := by
  have hc := hw.c
  have hR := hw.C.ro
  have tt := hw.tt
  have r1 := hw.C.h1
  have r2 := hw.C.h2
  have h4 := hP.nt
  have hw' := hw.put
  have hT' := hw'.C.tr
  have hT2' := hw'.C2.tr
  have hc' := hw'.c
  refine kX7_journey_0 hc.kd hc.p8 hR.kd (by omega) (mX7_isOutside ⟨by omega, by omega⟩ (hM _ _) ⟨_, rfl, ?_⟩)
  rw [if_neg (by omega)]
  refine kX7_journey_11 (t0 := 0) R32_0 (fun h => absurd rfl h) (fun _ => ?_)
  refine kX7_journey_14 (by omega) (mX7_isOutside ⟨by omega, by omega⟩ ⟨by decide, by decide⟩ ⟨_, rfl, ?_⟩)
  rw [if_neg (by omega)]
  refine kX7_journey_19 (t0 := 0) R32_0 (fun _ => ?_) (fun h => absurd rfl h)
  refine kX7_journey_32 hc.kd hc.p7 hc.p6 (by omega) (mX6_copyFrom hw.C2.tr hw.C.tr tt hz2 hz hM (fun M1 hM1 hW1 hf1 => ⟨none, rfl, ?_⟩)) hw.C2.tr.kd
  have hf1 : Fr t2 (t2 + 12) (rk + 1) M M1 := fun b g _ => hf1 b g
  have hP1 := hP.frT r1 hw'.C2.h2 hf1
  have eR : win 21 M1 rd = win 21 M rd := hf1.win (by omega) (by omega)
  have e3 : M1 rd 3 = M rd 3 := by rw [hf1 rd (by omega) (by omega)]
  have w9 : 1 ≤ M1 (t2 + 9) a := by
    rw [← hW1, win_at (by decide)] at h9
    exact h9
  refine kX7_journey_43 hc'.kd hc'.p7 (by omega) (mX6_travel hw'.C2 hM1 hP1 (by omega) (by omega) w9 (fun M2 hM2 hW2 hf2 => ⟨_, rfl, ?_⟩)) hT2'.kd
  rw [eR, hW1] at hW2 ⊢
  have hf : Fr t2 (t2 + 12) (rk + 1) M M2 := hf1.trans hf2
  have hP2 := hP.frT r1 hw'.C2.h2 hf
  have eR2 : win 21 M2 rd = win 21 M rd := hf.win (by omega) (by omega)
  have eW2 : win 12 M2 t = win 12 M t := hf.win (by omega) (by omega)
  have q := k M2 hM2 hW2 hf
  unfold cJour at q
  refine kX7_journey_51 (t0 := (sGo (win 21 M rd) (win 12 M t) a).1) ⟨by omega, by omega⟩ (fun h => ?_) (fun h => ?_) (fun h => ?_)
  · rw [if_neg h.1, if_neg h.2] at q
    exact kX7_journey_120 q
  · rw [if_pos h] at q
    have n15 := hT'.n15
    have m15 := hT2'.n15
    refine kX7_journey_80 hc'.kd hc'.p7 hT2'.kd hT2'.p15 hT2'.d15 ⟨by omega, by omega⟩ ⟨by omega, by omega⟩ hc'.p6 hT'.kd hT'.p15 hT'.d15 ⟨by omega, by omega⟩ ?_
    rw [Int.toNat_natCast]
    rw [← hW2, win_at (by decide), ← eW2, win_at (by decide)] at q
    exact q
  · rw [if_neg (by omega), if_pos h] at q
    refine kX7_journey_100 hc'.kd hc'.p6 (by omega) (mX6_total hw'.C hM2 hP2 ⟨by omega, by omega⟩ (by omega) ⟨_, rfl, ?_⟩) hT'.kd
    refine kX7_journey_109 (t0 := sTot (win 21 M2 rd) (win 12 M2 t) 7) hc'.kd hc'.p7 (by omega) (mX6_total hw'.C2 hM2 hP2 ⟨by omega, by omega⟩ (by omega) ⟨_, rfl, ?_⟩) hT2'.kd
    refine kX7_journey_118 (t0 := sTot (win 21 M2 rd) (win 12 M2 t2) 7) (t1 := sTot (win 21 M2 rd) (win 12 M2 t) 7) ?_
    unfold sTot
    rw [if_pos rfl, if_pos rfl, eR2, eW2, hW2]
    exact q
/-- until: n days at most are still before it -/
def cUnt (R : Nat → Nat → Int) (m : Nat) : Nat → Int → (Nat → Nat → Int) → Int
  | 0, _, W => if W 1 m = 0 then 200 else -1
  | n + 1, i, W => if W 1 m = 0 then i else cUnt R m n (i + 1) (sDay R W)
theorem mX7_until {c t t2 rk rd rd0 m : Nat} (hw : Wh S c t t2 rk rd rd0) (hM : RM M) (hP : RdP M rd) (hRZ : RZ (win 21 M rd)) (hd : 7 ≤ d) (hm : (m : Int) < M rd 1) (hz : ZW (win 12 M t)) (hz2 : ZW (win 12 M t2)) (h9 : ∀ a : Nat, (a : Int) < M rd 3 → 1 ≤ win 12 M t 9 a)
    (k : ∀ M', RM M' → ZW (win 12 M' t2) → Fr t2 (t2 + 12) (rk + 1) M M' → Q (some (some (J (cUnt (win 21 M rd) m 200 0 (win 12 M t))))) (aPut S t2 1 (some rd)) (mI M')) : X E d fX7_until 0 [some (.ref c), some (J m), none] [] S (mI M) Q := by
  have hc := hw.c
  have hR := hw.C.ro
  have tt := hw.tt
  have r1 := hw.C.h1
  have r2 := hw.C.h2
  have h4 := hP.nm
  have hw' := hw.put
  have hT2' := hw'.C2.tr
  have hc' := hw'.c
  have n4 := hT2'.n4
  refine kX7_until_0 hc.kd hc.p8 hR.kd (by omega) (mX7_isOutside ⟨by omega, by omega⟩ (hM _ _) ⟨_, rfl, ?_⟩)
  rw [if_neg (by omega)]
  refine kX7_until_11 (t0 := 0) R32_0 (fun _ => ?_) (fun h => absurd rfl h)
  refine kX7_until_25 hc.kd hc.p7 hc.p6 (by omega) (mX6_copyFrom hw.C2.tr hw.C.tr tt hz2 hz hM (fun M1 hM1 hW1 hf1 => ⟨none, rfl, ?_⟩)) hw.C2.tr.kd
  have hf1 : Fr t2 (t2 + 12) (rk + 1) M M1 := fun b g _ => hf1 b g
  refine kX7_until_36 ?_
  have hl : ∀ (n i : Nat) (M' W' : Nat → Nat → Int), i + n = 200 → RM M' → Fr t2 (t2 + 12) (rk + 1) M M' → win 12 M' t2 = W' → ZW W' → (∀ a : Nat, (a : Int) < M rd 3 → 1 ≤ W' 9 a) →
      (∀ M', RM M' → ZW (win 12 M' t2) → Fr t2 (t2 + 12) (rk + 1) M M' → Q (some (some (J (cUnt (win 21 M rd) m n (i : Int) W')))) (aPut S t2 1 (some rd)) (mI M')) →
      X E d fX7_until 38 [some (.ref c), some (J m), some (J (i : Int))] [] (aPut S t2 1 (some rd)) (mI M') Q := by
    intro n
    induction n with
    | zero =>
      intro i M' W' hi hM' hf hW hzz h9' kk
      have e1 : M' (t2 + 1) m = W' 1 m := by rw [← hW, win_at (by decide)]
      have kk := kk M' hM' (by rw [hW]; exact hzz) hf
      unfold cUnt at kk
      refine kX7_until_38 ⟨by omega, by omega⟩ (fun _ => ?_) (fun h => absurd h (by omega))
      refine kX7_until_74 hc'.kd hc'.p7 hT2'.kd hT2'.p4 hT2'.d4 ⟨by omega, by omega⟩ ⟨by omega, by omega⟩ (hM' _ _) (fun h => ?_) (fun h => ?_)
      · rw [Int.toNat_natCast, e1] at h
        rw [if_neg h] at kk
        exact kX7_until_92 (kX7_until_93 kk)
      · rw [Int.toNat_natCast, e1] at h
        rw [if_pos h] at kk
        exact kX7_until_86 (kX7_until_93 kk)
    | succ n ih =>
      intro i M' W' hi hM' hf hW hzz h9' kk
      have e1 : M' (t2 + 1) m = W' 1 m := by rw [← hW, win_at (by decide)]
      unfold cUnt at kk
      refine kX7_until_38 ⟨by omega, by omega⟩ (fun h => absurd h (by omega)) (fun _ => ?_)
      refine kX7_until_45 hc'.kd hc'.p7 hT2'.kd hT2'.p4 hT2'.d4 ⟨by omega, by omega⟩ ⟨by omega, by omega⟩ (hM' _ _) (fun h => ?_) (fun h => ?_)
      · rw [Int.toNat_natCast, e1] at h
        rw [if_neg h] at kk
        have hP' := hP.frT r1 hw'.C2.h2 hf
        have eR : win 21 M' rd = win 21 M rd := hf.win (by omega) (by omega)
        have e3 : M' rd 3 = M rd 3 := by rw [hf rd (by omega) (by omega)]
        refine kX7_until_59 hc'.kd hc'.p7 (by omega) (mX6_letGo (n := 1) hw'.C2 hM' hP' (by omega) (by omega) (fun a ha => ?_) (fun M2 hM2 hW2 hf2 => ⟨_, rfl, ?_⟩)) hT2'.kd
        · have z := h9' a (by omega)
          rw [← hW, win_at (by decide)] at z
          exact z
        · rw [eR, hW] at hW2
          have hW2 : win 12 M2 t2 = sDay (win 21 M rd) W' := hW2
          exact kX7_until_67 (t0 := _) (ih (i + 1) M2 _ (by omega) hM2 (hf.trans hf2) hW2 (hzz.day hRZ) (fun a ha => by rw [sDay_9]; exact h9' a ha) kk)
      · rw [Int.toNat_natCast, e1] at h
        have kk := kk M' hM' (by rw [hW]; exact hzz) hf
        rw [if_pos h] at kk
        exact kX7_until_57 kk
  exact hl 200 0 M1 _ (by omega) hM1 hf1 hW1 hz h9 k
/-- what is foreseen -/
def cFore (R W : Nat → Nat → Int) (n : Nat) (x : Int) : Int := if x = 1 then sDays R n W 0 3 else sTot R (sDays R n W) x
theorem mX7_foresee {c t t2 rk rd rd0 n : Nat} {x : Int} (hw : Wh S c t t2 rk rd rd0) (hM : RM M) (hP : RdP M rd) (hRZ : RZ (win 21 M rd)) (hd : 7 ≤ d) (hn : 1 ≤ n ∧ n ≤ 120) (hx : x = 1 ∨ 7 ≤ x ∧ x ≤ 11) (hz : ZW (win 12 M t)) (hz2 : ZW (win 12 M t2)) (h9 : ∀ a : Nat, (a : Int) < M rd 3 → 1 ≤ win 12 M t 9 a)
    (k : ∀ M', RM M' → ZW (win 12 M' t2) → Fr t2 (t2 + 12) (rk + 1) M M' → Q (some (some (J (cFore (win 21 M rd) (win 12 M t) n x)))) (aPut S t2 1 (some rd)) (mI M')) : X E d fX7_foresee 0 [some (.ref c), some (J n), some (J x)] [] S (mI M) Q := by
  have hc := hw.c
  have tt := hw.tt
  have r1 := hw.C.h1
  have r2 := hw.C.h2
  have hw' := hw.put
  have hT2' := hw'.C2.tr
  have hc' := hw'.c
  refine kX7_foresee_0 ⟨by omega, by omega⟩ (fun h => absurd h (by omega)) (fun _ => ?_)
  refine kX7_foresee_5 ⟨by omega, by omega⟩ (fun _ => ?_) (fun h => absurd h (by omega))
  have hgo : X E d fX7_foresee 49 [some (.ref c), some (J n), some (J x)] [] S (mI M) Q := by
    refine kX7_foresee_49 hc.kd hc.p7 hc.p6 (by omega) (mX6_copyFrom hw.C2.tr hw.C.tr tt hz2 hz hM (fun M1 hM1 hW1 hf1 => ⟨none, rfl, ?_⟩)) hw.C2.tr.kd
    have hf1 : Fr t2 (t2 + 12) (rk + 1) M M1 := fun b g _ => hf1 b g
    have hP1 := hP.frT r1 hw'.C2.h2 hf1
    have eR : win 21 M1 rd = win 21 M rd := hf1.win (by omega) (by omega)
    have e3 : M1 rd 3 = M rd 3 := by rw [hf1 rd (by omega) (by omega)]
    refine kX7_foresee_60 hc'.kd hc'.p7 (by omega) (mX6_letGo hw'.C2 hM1 hP1 (by omega) (by omega) (fun a ha => ?_) (fun M2 hM2 hW2 hf2 => ⟨_, rfl, ?_⟩)) hT2'.kd
    · have z := h9 a (by omega)
      rw [← hW1, win_at (by decide)] at z
      exact z
    · rw [eR, hW1] at hW2
      have hf := hf1.trans hf2
      have eR2 : win 21 M2 rd = win 21 M rd := hf.win (by omega) (by omega)
      have q := k M2 hM2 (by rw [hW2]; exact hz.days hRZ n) hf
      unfold cFore at q
      refine kX7_foresee_68 (t0 := _) ⟨by omega, by omega⟩ (fun h => ?_) (fun h => ?_)
      · rw [if_neg h] at q
        refine kX7_foresee_84 hc'.kd hc'.p7 (by omega) (mX6_total hw'.C2 hM2 (hP.frT r1 hw'.C2.h2 hf) ⟨by omega, by omega⟩ (by omega) ⟨_, rfl, ?_⟩) hT2'.kd
        rw [eR2, hW2]
        exact kX7_foresee_92 (t0 := sTot (win 21 M rd) (sDays (win 21 M rd) n (win 12 M t)) x) q
      · rw [if_pos h, ← hW2, w_00] at q
        exact kX7_foresee_74 hc'.kd hc'.p7 hT2'.kd (kX7_foresee_92 q)
  refine kX7_foresee_22 ⟨by omega, by omega⟩ (fun _ => hgo) (fun h => ?_)
  refine kX7_foresee_27 ⟨by omega, by omega⟩ (fun h => absurd h (by omega)) (fun _ => ?_)
  exact kX7_foresee_33 ⟨by omega, by omega⟩ (fun _ => hgo) (fun h => absurd h (by omega))
end C20
