/-! contracts: advise, widen, mean, digest -/
section C21
variable {E : Nat → Value} {d : Nat} {S : aS} {M : Nat → Nat → Int} {Q : Option (Option Value) → aS → aI → Prop}
theorem aPut_same {a j : Nat} {q : Option Nat} (h : aP S a j = q) : aPut S a j q = S := by
  have e : aU (aP S) a (aU (aP S a) j q) = aP S := by
    funext b i
    unfold aU
    by_cases h1 : b = a
    · subst h1
      by_cases h2 : i = j
      · subst h2
        rw [if_pos rfl, if_pos rfl, h]
      · rw [if_pos rfl, if_neg h2]
    · rw [if_neg h1]
  show (aK S, aN S, aU (aP S) a (aU (aP S a) j q), aX S, aZ S) = S
  rw [e]
  rfl
theorem Wh.same {c t t2 rk rd : Nat} (h : Wh S c t t2 rk rd rd) : aPut S t2 1 (some rd) = S := aPut_same h.C2.tr.p1
theorem mX7_advise {c t t2 rk rd rd0 n : Nat} {x : Int} (hw : Wh S c t t2 rk rd rd0) (hM : RM M) (hP : RdP M rd) (hRZ : RZ (win 21 M rd)) (hd : 7 ≤ d) (hx : 0 ≤ x ∧ x ≤ 999) (hn : 1 ≤ n ∧ n ≤ 90) (hz : ZW (win 12 M t)) (hz2 : ZW (win 12 M t2)) (h9 : ∀ a : Nat, (a : Int) < M rd 3 → 1 ≤ win 12 M t 9 a)
    (k : ∀ v M', -1 ≤ v → v < M rd 2 → RM M' → ZW (win 12 M' t2) → Fr t2 (t2 + 12) (rk + 1) M M' → Q (some (some (J v))) (aPut S t2 1 (some rd)) (mI M')) : X E d fX7_advise 0 [some (.ref c), some (J x), some (J n), none, none, none] [] S (mI M) Q := by
  have tt := hw.tt
  have r1 := hw.C.h1
  have r2 := hw.C.h2
  have h3 := hP.ng
  refine kX7_advise_0 ⟨by omega, by omega⟩ (fun h => absurd h (by omega)) (fun _ => ?_)
  refine kX7_advise_4 ⟨by omega, by omega⟩ (fun h => absurd h (by omega)) (fun _ => ?_)
  refine kX7_advise_11 ⟨by omega, by omega⟩ (fun h => absurd h (by omega)) (fun _ => ?_)
  refine kX7_advise_16 ⟨by omega, by omega⟩ (fun _ => ?_) (fun h => absurd h (by omega))
  refine kX7_advise_33 ?_
  generalize hS1 : aPut S t2 1 (some rd) = S1 at *
  have hl : ∀ m i Sx rdx M' best most, i + m = (M rd 2).toNat + 1 → (m = 0 → Sx = S1) → aPut Sx t2 1 (some rd) = S1 → Wh Sx c t t2 rk rd rdx → RM M' → Fr t2 (t2 + 12) (rk + 1) M M' → ZW (win 12 M' t2) → (-1 ≤ best ∧ best < M rd 2) → R32 most →
      X E d fX7_advise 41 [some (.ref c), some (J x), some (J n), some (J best), some (J most), some (J ((i : Int) - 1))] [] Sx (mI M') Q := by
    intro m
    induction m with
    | zero =>
      intro i Sx rdx M' best most hi he hS hv hM' hf hzz hb hmo
      have e2 : M' rd 2 = M rd 2 := by rw [hf rd (by omega) (by omega)]
      refine kX7_advise_41 hv.c.kd hv.c.p8 hv.C.ro.kd ⟨by omega, by omega⟩ (hM' _ _) (fun _ => ?_) (fun h => absurd h (by omega))
      rw [he rfl]
      exact kX7_advise_126 (k best M' hb.1 hb.2 hM' hzz hf)
    | succ m ih =>
      intro i Sx rdx M' best most hi he hS hv hM' hf hzz hb hmo
      have e2 : M' rd 2 = M rd 2 := by rw [hf rd (by omega) (by omega)]
      have eW : win 12 M' t = win 12 M t := hf.win (by omega) (by omega)
      have hv' := hv.put
      rw [hS] at hv'
      have hc' := hv'.c
      have hT2' := hv'.C2.tr
      refine kX7_advise_41 hv.c.kd hv.c.p8 hv.C.ro.kd ⟨by omega, by omega⟩ (hM' _ _) (fun h => absurd h (by omega)) (fun _ => ?_)
      refine kX7_advise_53 hv.c.kd hv.c.p7 hv.c.p6 (by omega) (mX6_copyFrom hv.C2.tr hv.C.tr tt hzz (by rw [eW]; exact hz) hM' (fun M1 hM1 hW1 hf1 => ⟨none, rfl, ?_⟩)) hv.C2.tr.kd
      rw [hS]
      rw [eW] at hW1
      have hf1 : Fr t2 (t2 + 12) (rk + 1) M M1 := hf.trans (fun b g _ => hf1 b g)
      have hM2 : RM (mW (mW M1 t2 16 ((i : Int) - 1)) t2 17 x) := (hM1.w ⟨by omega, by omega⟩).w ⟨by omega, by omega⟩
      have hf2 : Fr t2 (t2 + 12) (rk + 1) M (mW (mW M1 t2 16 ((i : Int) - 1)) t2 17 x) := (hf1.w (Or.inl ⟨by omega, by omega⟩)).w (Or.inl ⟨by omega, by omega⟩)
      have hW2 : win 12 (mW (mW M1 t2 16 ((i : Int) - 1)) t2 17 x) t2 = mW (mW (win 12 M t) 0 16 ((i : Int) - 1)) 0 17 x := by rw [win_W0, win_W0, hW1]
      have hz3 : ZW (mW (mW (win 12 M t) 0 16 ((i : Int) - 1)) 0 17 x) := (hz.w0 (by decide)).w0 (by decide)
      have e3 : (mW (mW M1 t2 16 ((i : Int) - 1)) t2 17 x) rd = M rd := hf2 rd (by omega) (by omega)
      have eR : win 21 (mW (mW M1 t2 16 ((i : Int) - 1)) t2 17 x) rd = win 21 M rd := hf2.win (by omega) (by omega)
      refine kX7_advise_64 hc'.kd hc'.p7 hT2'.k (by omega) (mX6_letGo hv'.C2 hM2 (hP.frT r1 hv'.C2.h2 hf2) (by omega) (by omega) (fun a ha => ?_) (fun M3 hM3 hW3 hf3 => ⟨_, rfl, ?_⟩)) hT2'.kd
      · have y := h9 a (by rw [e3] at ha; exact ha)
        have y2 : win 12 (mW (mW M1 t2 16 ((i : Int) - 1)) t2 17 x) t2 9 a = win 12 M t 9 a := by rw [hW2, mW_ne (by decide), mW_ne (by decide)]
        rw [win_at (by decide)] at y2
        rw [y2]
        exact y
      rw [eR, hW2] at hW3
      have hf4 := hf2.trans hf3
      have hz4 : ZW (win 12 M3 t2) := by rw [hW3]; exact hz3.days hRZ n
      have e23 : M3 rd 2 = M rd 2 := by rw [hf4 rd (by omega) (by omega)]
      have hnx : ∀ best most, (-1 ≤ best ∧ best < M rd 2) → R32 most → X E d fX7_advise 120 [some (.ref c), some (J x), some (J n), some (J best), some (J most), some (J ((i : Int) - 1))] [] S1 (mI M3) Q := by
        intro best most hb hmo
        refine kX7_advise_120 ?_
        have z := ih (i + 1) S1 rd M3 best most (by omega) (fun _ => rfl) hv'.same hv' hM3 hf4 hz4 hb hmo
        rw [show (((i + 1 : Nat) : Int) - 1) = (i : Int) - 1 + 1 by omega] at z
        exact z
      refine kX7_advise_89 (t0 := _) ⟨by omega, by omega⟩ (fun _ => ?_) (fun _ => ?_)
      · exact kX7_advise_108 hc'.kd hc'.p7 hT2'.kd (hnx _ _ ⟨by omega, by omega⟩ (hM3 _ _))
      · refine kX7_advise_96 hc'.kd hc'.p7 hT2'.kd (hM3 _ _) hmo (fun _ => hnx _ _ hb hmo) (fun _ => ?_)
        exact kX7_advise_108 hc'.kd hc'.p7 hT2'.kd (hnx _ _ ⟨by omega, by omega⟩ (hM3 _ _))
  have z := hl ((M rd 2).toNat + 1) 0 S rd0 M (-1) 0 (by omega) (fun h => absurd h (by omega)) hS1 hw hM Fr.refl hz2 ⟨by omega, by omega⟩ R32_0
  rw [show (((0 : Nat) : Int) - 1) = -1 by decide] at z
  exact z
theorem mX7_widen {c t t2 rk rd rd0 n : Nat} (hw : Wh S c t t2 rk rd rd0) (hM : RM M) (hP : RdP M rd) (hRZ : RZ (win 21 M rd)) (hd : 7 ≤ d) (h1 : 1 ≤ M rd 3) (hn : 1 ≤ n ∧ n ≤ 90) (hz : ZW (win 12 M t)) (hz2 : ZW (win 12 M t2)) (h9 : ∀ a : Nat, (a : Int) < M rd 3 → 1 ≤ win 12 M t 9 a)
    (k : ∀ v M', 0 ≤ v → v < M rd 3 → RM M' → ZW (win 12 M' t2) → Fr t2 (t2 + 12) (rk + 1) M M' → Q (some (some (J v))) (aPut S t2 1 (some rd)) (mI M')) : X E d fX7_widen 0 [some (.ref c), some (J n), none, none, none, none] [] S (mI M) Q := by
  have tt := hw.tt
  have r1 := hw.C.h1
  have r2 := hw.C.h2
  have h4 := hP.nt
  refine kX7_widen_0 ⟨by omega, by omega⟩ (fun h => absurd h (by omega)) (fun _ => ?_)
  refine kX7_widen_5 ⟨by omega, by omega⟩ (fun _ => ?_) (fun h => absurd h (by omega))
  refine kX7_widen_22 ?_
  generalize hS1 : aPut S t2 1 (some rd) = S1 at *
  have hl : ∀ m i Sx rdx M' best most o5, i + m = (M rd 3).toNat → (m = 0 → Sx = S1) → aPut Sx t2 1 (some rd) = S1 → Wh Sx c t t2 rk rd rdx → RM M' → Fr t2 (t2 + 12) (rk + 1) M M' → ZW (win 12 M' t2) → (best = -1 ∧ i = 0 ∨ 0 ≤ best ∧ best < M rd 3) → R32 most →
      X E d fX7_widen 29 [some (.ref c), some (J n), some (J best), some (J most), some (J (i : Int)), o5] [] Sx (mI M') Q := by
    intro m
    induction m with
    | zero =>
      intro i Sx rdx M' best most o5 hi he hS hv hM' hf hzz hb hmo
      have e2 : M' rd 3 = M rd 3 := by rw [hf rd (by omega) (by omega)]
      refine kX7_widen_29 hv.c.kd hv.c.p8 hv.C.ro.kd ⟨by omega, by omega⟩ (hM' _ _) (fun _ => ?_) (fun h => absurd h (by omega))
      rw [he rfl]
      exact kX7_widen_107 (k best M' (by omega) (by omega) hM' hzz hf)
    | succ m ih =>
      intro i Sx rdx M' best most o5 hi he hS hv hM' hf hzz hb hmo
      have e2 : M' rd 3 = M rd 3 := by rw [hf rd (by omega) (by omega)]
      have eW : win 12 M' t = win 12 M t := hf.win (by omega) (by omega)
      have hv' := hv.put
      rw [hS] at hv'
      have hc' := hv'.c
      have hT2' := hv'.C2.tr
      have n12 := hT2'.n12
      refine kX7_widen_29 hv.c.kd hv.c.p8 hv.C.ro.kd ⟨by omega, by omega⟩ (hM' _ _) (fun h => absurd h (by omega)) (fun _ => ?_)
      refine kX7_widen_41 hv.c.kd hv.c.p7 hv.c.p6 (by omega) (mX6_copyFrom hv.C2.tr hv.C.tr tt hzz (by rw [eW]; exact hz) hM' (fun M1 hM1 hW1 hf1 => ⟨none, rfl, ?_⟩)) hv.C2.tr.kd
      rw [hS]
      rw [eW] at hW1
      have hf1 : Fr t2 (t2 + 12) (rk + 1) M M1 := hf.trans (fun b g _ => hf1 b g)
      have hM2 : RM (mW M1 (t2 + 9) i 16) := hM1.w ⟨by omega, by omega⟩
      have hf2 : Fr t2 (t2 + 12) (rk + 1) M (mW M1 (t2 + 9) i 16) := hf1.w (Or.inl ⟨by omega, by omega⟩)
      have hW2 : win 12 (mW M1 (t2 + 9) i 16) t2 = mW (win 12 M t) 9 i 16 := by rw [win_W (by decide), hW1]
      have hz3 : ZW (mW (win 12 M t) 9 i 16) := hz.w (by decide) (by have : zl 9 = 8 := rfl; omega)
      have e3 : (mW M1 (t2 + 9) i 16) rd = M rd := hf2 rd (by omega) (by omega)
      have eR : win 21 (mW M1 (t2 + 9) i 16) rd = win 21 M rd := hf2.win (by omega) (by omega)
      refine kX7_widen_52 hc'.kd hc'.p7 hT2'.kd hT2'.p12 hT2'.a12 ⟨by omega, by omega⟩ ⟨by omega, by omega⟩ (by omega) ?_
      rw [Int.toNat_natCast]
      refine mX6_letGo hv'.C2 hM2 (hP.frT r1 hv'.C2.h2 hf2) (by omega) (by omega) (fun a ha => ?_) (fun M3 hM3 hW3 hf3 => ⟨_, rfl, ?_⟩)
      · have y := h9 a (by rw [e3] at ha; exact ha)
        have y2 : win 12 (mW M1 (t2 + 9) i 16) t2 9 a = if a = i then 16 else win 12 M t 9 a := by rw [hW2, mW_row]
        rw [win_at (by decide)] at y2
        rw [y2]
        split
        · decide
        · exact y
      rw [eR, hW2] at hW3
      have hf4 := hf2.trans hf3
      have hz4 : ZW (win 12 M3 t2) := by rw [hW3]; exact hz3.days hRZ n
      refine kX7_widen_72 (t0 := _) hc'.kd hc'.p7 (by omega) (mX6_total hv'.C2 hM3 (hP.frT r1 hv'.C2.h2 hf4) ⟨by omega, by omega⟩ (by omega) ⟨_, rfl, ?_⟩) hT2'.kd
      have hnx : ∀ best most o5, (0 ≤ best ∧ best < M rd 3) → R32 most → X E d fX7_widen 101 [some (.ref c), some (J n), some (J best), some (J most), some (J (i : Int)), o5] [] S1 (mI M3) Q := by
        intro best most o5 hb hmo
        exact kX7_widen_101 (ih (i + 1) S1 rd M3 best most o5 (by omega) (fun _ => rfl) hv'.same hv' hM3 hf4 hz4 (Or.inr hb) hmo)
      rw [← J_nz (sTot (win 21 M3 rd) (win 12 M3 t2) 7)]
      have hv7 := nz_R (sTot (win 21 M3 rd) (win 12 M3 t2) 7)
      generalize nz (sTot (win 21 M3 rd) (win 12 M3 t2) 7) = v at hv7 ⊢
      have h95 : X E d fX7_widen 95 [some (.ref c), some (J n), some (J best), some (J most), some (J (i : Int)), some (J v)] [] S1 (mI M3) Q := kX7_widen_95 (hnx _ _ _ ⟨by omega, by omega⟩ hv7)
      refine kX7_widen_82 (t0 := v) ⟨by omega, by omega⟩ (fun _ => h95) (fun h => ?_)
      exact kX7_widen_89 hv7 hmo (fun _ => hnx _ _ _ (by omega) hmo) (fun _ => h95)
  exact hl (M rd 3).toNat 0 S rd0 M (-1) 0 none (by omega) (fun h => absurd h (by omega)) hS1 hw hM Fr.refl hz2 (Or.inl ⟨rfl, rfl⟩) R32_0
theorem mX7_mean {c t t2 rk rd : Nat} (hc : ClS S c t t2 rd) (hC : Cx S t rk rd) (hM : RM M) (hP : RdP M rd) (hd : 2 ≤ d) (h1 : 1 ≤ M rd 1)
    (hdd : FP.ddiv (FP.i2d (Int32.ofInt (sSum (win 12 M t 1) (M rd 1).toNat))) (FP.i2d (Int32.ofInt (M rd 1))) &&& 0x7fffffffffffffff ≤ 0x7ff0000000000000)
    (q : Q (some (some (.double (FP.ddiv (FP.i2d (Int32.ofInt (sSum (win 12 M t 1) (M rd 1).toNat))) (FP.i2d (Int32.ofInt (M rd 1))))))) S (mI M)) : X E d fX7_mean 0 [some (.ref c)] [] S (mI M) Q := by
  have hT := hC.tr
  have hR := hC.ro
  refine kX7_mean_0 hc.kd hc.p8 hR.kd (hM _ _) (fun _ => ?_) (fun h => absurd h (by omega))
  refine kX7_mean_14 hc.kd hc.p6 (by omega) (mX6_total hC hM hP ⟨by omega, by omega⟩ (by omega) ⟨_, rfl, ?_⟩) hT.kd
  have e : sTot (win 21 M rd) (win 12 M t) 7 = sSum (win 12 M t 1) (M rd 1).toNat := by
    unfold sTot
    rw [if_pos rfl, w_00]
  rw [e]
  exact kX7_mean_23 (t0 := sSum (win 12 M t 1) (M rd 1).toNat) hc.kd hc.p8 hR.kd hdd (kX7_mean_33 q)
def dW (z : Int64) (x : Int) : Int64 := z * 31 + (Int32.ofInt x).toInt64
def dN (f : Int → Int) : Nat → Nat → Int64 → Int64
  | _, 0, z => z
  | i, n + 1, z => dN f (i + 1) n (dW z (f (i : Int)))
def dNN (f : Nat → Int → Int) (w : Nat) : Nat → Nat → Int64 → Int64
  | _, 0, z => z
  | i, n + 1, z => dNN f w (i + 1) n (dN (f i) 0 w z)
/-- the checksum: of the road, how it is, and the bytes of the tape alone -/
def cDig (R W : Nat → Nat → Int) (b : Int) : Int64 :=
  dNN (cTraf R W) 8 0 (R 0 3).toNat (dNN (cGate R W) 6 0 (R 0 2).toNat (dNN (cStr R W) 6 0 (R 0 0).toNat (dNN (cMile R W) 4 0 (R 0 1).toNat (dN (cCount R W b) 0 13 883))))
theorem mX7_dig_mile {c t t2 rk rd : Nat} (hc : ClS S c t t2 rd) (hC : Cx S t rk rd) (hM : RM M) (hP : RdP M rd) (hd : 5 ≤ d) {z : Int64} {o4 : Option Value}
    (kk : ∀ o3 o4, X E d fX7_digest 80 [some (.ref c), some (.long (dNN (cMile (win 21 M rd) (win 12 M t)) 4 0 (M rd 1).toNat z)), none, o3, o4] [] S (mI M) Q) :
    X E d fX7_digest 33 [some (.ref c), some (.long z), none, some (J 0), o4] [] S (mI M) Q := by
  have hR := hC.ro
  have h1 := hP.ns
  have h2 := hP.nm
  have h3 := hP.ng
  have h4 := hP.nt
  have hin : ∀ m : Nat, (m : Int) < M rd 1 → ∀ (n i : Nat) (z : Int64), i + n = 4 → (∀ o4, X E d fX7_digest 74 [some (.ref c), some (.long (dN (cMile (win 21 M rd) (win 12 M t) m) i n z)), none, some (J (m : Int)), o4] [] S (mI M) Q) →
      X E d fX7_digest 47 [some (.ref c), some (.long z), none, some (J (m : Int)), some (J (i : Int))] [] S (mI M) Q := by
    intro m hm n
    induction n with
    | zero =>
      intro i z hi kk
      exact kX7_digest_47 ⟨by omega, by omega⟩ (fun _ => kk _) (fun h => absurd h (by omega))
    | succ n ih =>
      intro i z hi kk
      unfold dN at kk
      refine kX7_digest_47 ⟨by omega, by omega⟩ (fun h => absurd h (by omega)) (fun _ => ?_)
      refine kX7_digest_53 (by omega) (mX7_mile hc hC hM hP (by omega) hm ⟨by omega, by omega⟩ ⟨_, rfl, ?_⟩) hc.kd
      exact kX7_digest_65 (t0 := cMile (win 21 M rd) (win 12 M t) m (i : Int)) (w1 := z * 31) (ih (i + 1) _ (by omega) kk)
  have hl : ∀ (n i : Nat) (z : Int64) (o4 : Option Value), i + n = (M rd 1).toNat → (∀ o3 o4, X E d fX7_digest 80 [some (.ref c), some (.long (dNN (cMile (win 21 M rd) (win 12 M t)) 4 i n z)), none, o3, o4] [] S (mI M) Q) →
      X E d fX7_digest 33 [some (.ref c), some (.long z), none, some (J (i : Int)), o4] [] S (mI M) Q := by
    intro n
    induction n with
    | zero =>
      intro i z o4 hi kk
      exact kX7_digest_33 hc.kd hc.p8 hR.kd ⟨by omega, by omega⟩ (hM _ _) (fun _ => kk _ _) (fun h => absurd h (by omega))
    | succ n ih =>
      intro i z o4 hi kk
      unfold dNN at kk
      refine kX7_digest_33 hc.kd hc.p8 hR.kd ⟨by omega, by omega⟩ (hM _ _) (fun h => absurd h (by omega)) (fun _ => ?_)
      refine kX7_digest_44 (hin i (by omega) 4 0 z (by omega) (fun o4 => ?_))
      exact kX7_digest_74 (ih (i + 1) _ _ (by omega) kk)
  exact hl _ 0 z o4 (by omega) kk
theorem mX7_dig_stretch {c t t2 rk rd : Nat} (hc : ClS S c t t2 rd) (hC : Cx S t rk rd) (hM : RM M) (hP : RdP M rd) (hd : 5 ≤ d) {z : Int64} {o4 : Option Value}
    (kk : ∀ o3 o4, X E d fX7_digest 130 [some (.ref c), some (.long (dNN (cStr (win 21 M rd) (win 12 M t)) 6 0 (M rd 0).toNat z)), none, o3, o4] [] S (mI M) Q) :
    X E d fX7_digest 82 [some (.ref c), some (.long z), none, some (J 0), o4] [] S (mI M) Q := by
  have hR := hC.ro
  have h1 := hP.ns
  have h2 := hP.nm
  have h3 := hP.ng
  have h4 := hP.nt
  have hin : ∀ m : Nat, (m : Int) < M rd 0 → ∀ (n i : Nat) (z : Int64), i + n = 6 → (∀ o4, X E d fX7_digest 124 [some (.ref c), some (.long (dN (cStr (win 21 M rd) (win 12 M t) m) i n z)), none, some (J (m : Int)), o4] [] S (mI M) Q) →
      X E d fX7_digest 96 [some (.ref c), some (.long z), none, some (J (m : Int)), some (J (i : Int))] [] S (mI M) Q := by
    intro m hm n
    induction n with
    | zero =>
      intro i z hi kk
      exact kX7_digest_96 ⟨by omega, by omega⟩ (fun _ => kk _) (fun h => absurd h (by omega))
    | succ n ih =>
      intro i z hi kk
      unfold dN at kk
      refine kX7_digest_96 ⟨by omega, by omega⟩ (fun h => absurd h (by omega)) (fun _ => ?_)
      refine kX7_digest_103 (by omega) (mX7_stretch hc hC hM hP (by omega) hm ⟨by omega, by omega⟩ ⟨_, rfl, ?_⟩) hc.kd
      exact kX7_digest_115 (t0 := cStr (win 21 M rd) (win 12 M t) m (i : Int)) (w1 := z * 31) (ih (i + 1) _ (by omega) kk)
  have hl : ∀ (n i : Nat) (z : Int64) (o4 : Option Value), i + n = (M rd 0).toNat → (∀ o3 o4, X E d fX7_digest 130 [some (.ref c), some (.long (dNN (cStr (win 21 M rd) (win 12 M t)) 6 i n z)), none, o3, o4] [] S (mI M) Q) →
      X E d fX7_digest 82 [some (.ref c), some (.long z), none, some (J (i : Int)), o4] [] S (mI M) Q := by
    intro n
    induction n with
    | zero =>
      intro i z o4 hi kk
      exact kX7_digest_82 hc.kd hc.p8 hR.kd ⟨by omega, by omega⟩ (hM _ _) (fun _ => kk _ _) (fun h => absurd h (by omega))
    | succ n ih =>
      intro i z o4 hi kk
      unfold dNN at kk
      refine kX7_digest_82 hc.kd hc.p8 hR.kd ⟨by omega, by omega⟩ (hM _ _) (fun h => absurd h (by omega)) (fun _ => ?_)
      refine kX7_digest_93 (hin i (by omega) 6 0 z (by omega) (fun o4 => ?_))
      exact kX7_digest_124 (ih (i + 1) _ _ (by omega) kk)
  exact hl _ 0 z o4 (by omega) kk
theorem mX7_dig_gate {c t t2 rk rd : Nat} (hc : ClS S c t t2 rd) (hC : Cx S t rk rd) (hM : RM M) (hP : RdP M rd) (hd : 5 ≤ d) {z : Int64} {o4 : Option Value}
    (kk : ∀ o3 o4, X E d fX7_digest 180 [some (.ref c), some (.long (dNN (cGate (win 21 M rd) (win 12 M t)) 6 0 (M rd 2).toNat z)), none, o3, o4] [] S (mI M) Q) :
    X E d fX7_digest 132 [some (.ref c), some (.long z), none, some (J 0), o4] [] S (mI M) Q := by
  have hR := hC.ro
  have h1 := hP.ns
  have h2 := hP.nm
  have h3 := hP.ng
  have h4 := hP.nt
  have hin : ∀ m : Nat, (m : Int) < M rd 2 → ∀ (n i : Nat) (z : Int64), i + n = 6 → (∀ o4, X E d fX7_digest 174 [some (.ref c), some (.long (dN (cGate (win 21 M rd) (win 12 M t) m) i n z)), none, some (J (m : Int)), o4] [] S (mI M) Q) →
      X E d fX7_digest 146 [some (.ref c), some (.long z), none, some (J (m : Int)), some (J (i : Int))] [] S (mI M) Q := by
    intro m hm n
    induction n with
    | zero =>
      intro i z hi kk
      exact kX7_digest_146 ⟨by omega, by omega⟩ (fun _ => kk _) (fun h => absurd h (by omega))
    | succ n ih =>
      intro i z hi kk
      unfold dN at kk
      refine kX7_digest_146 ⟨by omega, by omega⟩ (fun h => absurd h (by omega)) (fun _ => ?_)
      refine kX7_digest_153 (by omega) (mX7_gate hc hC hM hP (by omega) hm ⟨by omega, by omega⟩ ⟨_, rfl, ?_⟩) hc.kd
      exact kX7_digest_165 (t0 := cGate (win 21 M rd) (win 12 M t) m (i : Int)) (w1 := z * 31) (ih (i + 1) _ (by omega) kk)
  have hl : ∀ (n i : Nat) (z : Int64) (o4 : Option Value), i + n = (M rd 2).toNat → (∀ o3 o4, X E d fX7_digest 180 [some (.ref c), some (.long (dNN (cGate (win 21 M rd) (win 12 M t)) 6 i n z)), none, o3, o4] [] S (mI M) Q) →
      X E d fX7_digest 132 [some (.ref c), some (.long z), none, some (J (i : Int)), o4] [] S (mI M) Q := by
    intro n
    induction n with
    | zero =>
      intro i z o4 hi kk
      exact kX7_digest_132 hc.kd hc.p8 hR.kd ⟨by omega, by omega⟩ (hM _ _) (fun _ => kk _ _) (fun h => absurd h (by omega))
    | succ n ih =>
      intro i z o4 hi kk
      unfold dNN at kk
      refine kX7_digest_132 hc.kd hc.p8 hR.kd ⟨by omega, by omega⟩ (hM _ _) (fun h => absurd h (by omega)) (fun _ => ?_)
      refine kX7_digest_143 (hin i (by omega) 6 0 z (by omega) (fun o4 => ?_))
      exact kX7_digest_174 (ih (i + 1) _ _ (by omega) kk)
  exact hl _ 0 z o4 (by omega) kk
theorem mX7_dig_traffic {c t t2 rk rd : Nat} (hc : ClS S c t t2 rd) (hC : Cx S t rk rd) (hM : RM M) (hP : RdP M rd) (hd : 5 ≤ d) {z : Int64} {o4 : Option Value}
    (kk : ∀ o3 o4, X E d fX7_digest 230 [some (.ref c), some (.long (dNN (cTraf (win 21 M rd) (win 12 M t)) 8 0 (M rd 3).toNat z)), none, o3, o4] [] S (mI M) Q) :
    X E d fX7_digest 182 [some (.ref c), some (.long z), none, some (J 0), o4] [] S (mI M) Q := by
  have hR := hC.ro
  have h1 := hP.ns
  have h2 := hP.nm
  have h3 := hP.ng
  have h4 := hP.nt
  have hin : ∀ m : Nat, (m : Int) < M rd 3 → ∀ (n i : Nat) (z : Int64), i + n = 8 → (∀ o4, X E d fX7_digest 224 [some (.ref c), some (.long (dN (cTraf (win 21 M rd) (win 12 M t) m) i n z)), none, some (J (m : Int)), o4] [] S (mI M) Q) →
      X E d fX7_digest 196 [some (.ref c), some (.long z), none, some (J (m : Int)), some (J (i : Int))] [] S (mI M) Q := by
    intro m hm n
    induction n with
    | zero =>
      intro i z hi kk
      exact kX7_digest_196 ⟨by omega, by omega⟩ (fun _ => kk _) (fun h => absurd h (by omega))
    | succ n ih =>
      intro i z hi kk
      unfold dN at kk
      refine kX7_digest_196 ⟨by omega, by omega⟩ (fun h => absurd h (by omega)) (fun _ => ?_)
      refine kX7_digest_203 (by omega) (mX7_traffic hc hC hM hP (by omega) hm ⟨by omega, by omega⟩ ⟨_, rfl, ?_⟩) hc.kd
      exact kX7_digest_215 (t0 := cTraf (win 21 M rd) (win 12 M t) m (i : Int)) (w1 := z * 31) (ih (i + 1) _ (by omega) kk)
  have hl : ∀ (n i : Nat) (z : Int64) (o4 : Option Value), i + n = (M rd 3).toNat → (∀ o3 o4, X E d fX7_digest 230 [some (.ref c), some (.long (dNN (cTraf (win 21 M rd) (win 12 M t)) 8 i n z)), none, o3, o4] [] S (mI M) Q) →
      X E d fX7_digest 182 [some (.ref c), some (.long z), none, some (J (i : Int)), o4] [] S (mI M) Q := by
    intro n
    induction n with
    | zero =>
      intro i z o4 hi kk
      exact kX7_digest_182 hc.kd hc.p8 hR.kd ⟨by omega, by omega⟩ (hM _ _) (fun _ => kk _ _) (fun h => absurd h (by omega))
    | succ n ih =>
      intro i z o4 hi kk
      unfold dNN at kk
      refine kX7_digest_182 hc.kd hc.p8 hR.kd ⟨by omega, by omega⟩ (hM _ _) (fun h => absurd h (by omega)) (fun _ => ?_)
      refine kX7_digest_193 (hin i (by omega) 8 0 z (by omega) (fun o4 => ?_))
      exact kX7_digest_224 (ih (i + 1) _ _ (by omega) kk)
  exact hl _ 0 z o4 (by omega) kk
theorem mX7_digest {c t t2 rk rd : Nat} (hc : ClS S c t t2 rd) (hC : Cx S t rk rd) (hM : RM M) (hP : RdP M rd) (hd : 5 ≤ d) (q : Q (some (some (.long (cDig (win 21 M rd) (win 12 M t) (M c 1))))) S (mI M)) : X E d fX7_digest 0 [some (.ref c), none, none, none, none] [] S (mI M) Q := by
  unfold cDig at q
  rw [w_00] at q
  have hcn : ∀ (n i : Nat) (z : Int64), i + n = 13 → (∀ o3, X E d fX7_digest 31 [some (.ref c), some (.long (dN (cCount (win 21 M rd) (win 12 M t) (M c 1)) i n z)), none, o3, none] [] S (mI M) Q) →
      X E d fX7_digest 6 [some (.ref c), some (.long z), none, some (J (i : Int)), none] [] S (mI M) Q := by
    intro n
    induction n with
    | zero =>
      intro i z hi kk
      exact kX7_digest_6 ⟨by omega, by omega⟩ (fun _ => kk _) (fun h => absurd h (by omega))
    | succ n ih =>
      intro i z hi kk
      unfold dN at kk
      refine kX7_digest_6 ⟨by omega, by omega⟩ (fun h => absurd h (by omega)) (fun _ => ?_)
      refine kX7_digest_12 (by omega) (mX7_count hc hC hM hP (by omega) ⟨by omega, by omega⟩ ⟨_, rfl, ?_⟩) hc.kd
      exact kX7_digest_22 (t0 := cCount (win 21 M rd) (win 12 M t) (M c 1) (i : Int)) (w1 := z * 31) (ih (i + 1) _ (by omega) kk)
  refine kX7_digest_0 (hcn 13 0 883 (by omega) (fun o3 => ?_))
  refine kX7_digest_31 (mX7_dig_mile hc hC hM hP hd (fun o3 o4 => ?_))
  refine kX7_digest_80 (mX7_dig_stretch hc hC hM hP hd (fun o3 o4 => ?_))
  refine kX7_digest_130 (mX7_dig_gate hc hC hM hP hd (fun o3 o4 => ?_))
  refine kX7_digest_180 (mX7_dig_traffic hc hC hM hP hd (fun o3 o4 => ?_))
  exact kX7_digest_230 q
end C21
