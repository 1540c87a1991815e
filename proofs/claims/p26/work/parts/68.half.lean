/-! both halves of what the law holds: the class's object, and its own road, whose cells lie before those of the object -/
section C25
variable {E : Nat → Value} {d : Nat} {S : aS} {M : Nat → Nat → Int} {Q : Option (Option Value) → aS → aI → Prop} {s : Nat} {T : Nat → Nat} {A : Nat → Nat → Nat} {c : Nat → Nat} {R W O : Nat → Nat → Int} {cl t t2 rk rd rd0 : Nat}
theorem ClS.ext {S' : aS} (h : ClS S cl t t2 rd) (hx : aExt S S') (hl : cl < aX S) : ClS S' cl t t2 rd := by
  have e := hx.2 cl hl
  exact ⟨(aExt_kd e).trans h.kd, e.1.trans h.k, (congrFun e.2.2 6).trans h.p6, (congrFun e.2.2 7).trans h.p7, (congrFun e.2.2 8).trans h.p8⟩
theorem Wh.lt (h : Wh S cl t t2 rk rd rd0) : cl < rd ∧ rd + 21 < rk ∧ rk + 1 < t ∧ t + 12 < t2 ∧ t2 + 12 < aX S := ⟨h.cr, h.C.h1, h.C.h2, h.tt, h.C2.h3⟩
theorem Wh.ext {S' : aS} (h : Wh S cl t t2 rk rd rd0) (hx : aExt S S') : Wh S' cl t t2 rk rd rd0 := by
  have l := h.lt
  exact ⟨h.c.ext hx (by omega), h.C.ext hx, h.C2.ext hx, h.tt, h.cr⟩
/-- nothing but cells of the object is another -/
def FrC (cl t2 : Nat) (M M' : Nat → Nat → Int) : Prop := ∀ b, b < cl ∨ t2 + 12 < b → M' b = M b
theorem FrC.refl : FrC cl t2 M M := fun _ _ => rfl
theorem FrC.trans {M' M'' : Nat → Nat → Int} (h : FrC cl t2 M M') (g : FrC cl t2 M' M'') : FrC cl t2 M M'' := fun b hb => (g b hb).trans (h b hb)
abbrev ClH (S : aS) (M : Nat → Nat → Int) (cl t t2 rk rd rd0 : Nat) (R W : Nat → Nat → Int) : Prop := Wh S cl t t2 rk rd rd0 ∧ RM M ∧ RdP M rd ∧ win 21 M rd = R ∧ win 12 M t = W ∧ ZW W ∧ ZW (win 12 M t2) ∧ M cl 1 = 0
theorem ClH.w (h : ClH S M cl t t2 rk rd rd0 R W) : Wh S cl t t2 rk rd rd0 := h.1
theorem ClH.m (h : ClH S M cl t t2 rk rd rd0 R W) : RM M := h.2.1
theorem ClH.p (h : ClH S M cl t t2 rk rd rd0 R W) : RdP M rd := h.2.2.1
theorem ClH.eR (h : ClH S M cl t t2 rk rd rd0 R W) : win 21 M rd = R := h.2.2.2.1
theorem ClH.eW (h : ClH S M cl t t2 rk rd rd0 R W) : win 12 M t = W := h.2.2.2.2.1
theorem ClH.z (h : ClH S M cl t t2 rk rd rd0 R W) : ZW W := h.2.2.2.2.2.1
theorem ClH.z2 (h : ClH S M cl t t2 rk rd rd0 R W) : ZW (win 12 M t2) := h.2.2.2.2.2.2.1
theorem ClH.b (h : ClH S M cl t t2 rk rd rd0 R W) : M cl 1 = 0 := h.2.2.2.2.2.2.2
theorem ClH.r0 (h : ClH S M cl t t2 rk rd rd0 R W) : M rd = R 0 := by rw [← h.eR, w_00]
theorem ClH.rR (h : ClH S M cl t t2 rk rd rd0 R W) : ∀ j k, R32 (R j k) := fun j k => by
  rw [← h.eR]
  exact win_R h.m j k
theorem ClH.wR (h : ClH S M cl t t2 rk rd rd0 R W) : ∀ j k, R32 (W j k) := fun j k => by
  rw [← h.eW]
  exact win_R h.m j k
theorem ClH.whatIf {M' : Nat → Nat → Int} (h : ClH S M cl t t2 rk rd rd0 R W) (hM : RM M') (hz : ZW (win 12 M' t2)) (hf : Fr t2 (t2 + 12) (rk + 1) M M') : ClH (aPut S t2 1 (some rd)) M' cl t t2 rk rd rd R W ∧ FrC cl t2 M M' := by
  have l := h.w.lt
  refine ⟨⟨h.w.put, hM, h.p.frT l.2.1 (by omega) hf, (hf.win (by omega) (by omega)).trans h.eR, (hf.win (by omega) (by omega)).trans h.eW, h.z, hz, ?_⟩, fun b hb => hf b (by omega) (by omega)⟩
  rw [hf cl (by omega) (by omega)]
  exact h.b
theorem ClH.goes {M' W' : Nat → Nat → Int} (h : ClH S M cl t t2 rk rd rd0 R W) (hM : RM M') (hW : win 12 M' t = W') (hz : ZW W') (hf : Fr t (t + 12) (rk + 1) M M') : ClH S M' cl t t2 rk rd rd0 R W' ∧ FrC cl t2 M M' := by
  have l := h.w.lt
  refine ⟨⟨h.w, hM, h.p.frT l.2.1 (by omega) hf, (hf.win (by omega) (by omega)).trans h.eR, hW, hz, ?_, ?_⟩, fun b hb => hf b (by omega) (by omega)⟩
  · rw [hf.win (by omega) (by omega)]
    exact h.z2
  · rw [hf cl (by omega) (by omega)]
    exact h.b
theorem ClH.ext {S' : aS} {M' : Nat → Nat → Int} (h : ClH S M cl t t2 rk rd rd0 R W) (hx : aExt S S') (hM : RM M') (hf : ∀ b, cl ≤ b → b ≤ t2 + 12 → M' b = M b) : ClH S' M' cl t t2 rk rd rd0 R W := by
  have l := h.w.lt
  refine ⟨h.w.ext hx, hM, h.p.fr (fun c g1 g2 => hf c (by omega) (by omega)), (win_fr (fun b g1 g2 => hf b (by omega) (by omega))).trans h.eR, (win_fr (fun b g1 g2 => hf b (by omega) (by omega))).trans h.eW, h.z, ?_, ?_⟩
  · rw [win_fr (fun b g1 g2 => hf b (by omega) (by omega))]
    exact h.z2
  · rw [hf cl (by omega) (by omega)]
    exact h.b
/-- the law's half -/
abbrev SmH (S : aS) (M : Nat → Nat → Int) (s : Nat) (T : Nat → Nat) (A : Nat → Nat → Nat) (c : Nat → Nat) (R W O : Nat → Nat → Int) (cl : Nat) : Prop := SmS S s T A c ∧ (s < cl ∧ (∀ j, 2 ≤ j → j ≤ 6 → T j < cl) ∧ (∀ j k, 2 ≤ j → j ≤ 6 → k < c j → A j k < cl)) ∧ SmV M s A c R W O
theorem SmH.sm (h : SmH S M s T A c R W O cl) : SmS S s T A c := h.1
theorem SmH.l (h : SmH S M s T A c R W O cl) : s < cl ∧ (∀ j, 2 ≤ j → j ≤ 6 → T j < cl) ∧ (∀ j k, 2 ≤ j → j ≤ 6 → k < c j → A j k < cl) := h.2.1
theorem SmH.v (h : SmH S M s T A c R W O cl) : SmV M s A c R W O := h.2.2
theorem SmH.hi {M' : Nat → Nat → Int} (h : SmH S M s T A c R W O cl) (hF : SmF s A c M M') : ∀ b, cl ≤ b → M' b = M b := fun b hb => hF b (by have := h.l.1; omega) (fun j k h2 h6 hk e => by have := h.l.2.2 j k h2 h6 hk; omega)
theorem SmS.put {a i : Nat} {q : Option Nat} (h : SmS S s T A c) (h1 : s ≠ a) (h2 : ∀ j, 2 ≤ j → j ≤ 6 → T j ≠ a) : SmS (aPut S a i q) s T A c :=
  ⟨h.k, h.kd, fun j a b => (congrFun (aPut_P h1) j).trans (h.pT j a b), h.dT, h.nT, fun j k a b hk => (congrFun (aPut_P (h2 j a b)) k).trans (h.pA j k a b hk), h.aA, h.dA, h.nA, h.ne, h.inj, h.c⟩
theorem SmH.fr {M' : Nat → Nat → Int} (h : SmH S M s T A c R W O cl) (hf : ∀ b, b < cl → M' b = M b) : SmH S M' s T A c R W O cl := ⟨h.sm, h.l, h.v.fr (hf s h.l.1) (fun j k h2 h6 hk => hf _ (h.l.2.2 j k h2 h6 hk))⟩
theorem SmH.put {a i : Nat} {q : Option Nat} (h : SmH S M s T A c R W O cl) (ha : cl ≤ a) : SmH (aPut S a i q) M s T A c R W O cl := ⟨h.sm.put (by have := h.l.1; omega) (fun j h2 h6 => by have := h.l.2.1 j h2 h6; omega), h.l, h.v⟩
theorem SmH.L (h : SmH S M s T A c R W O cl) (ha : cl ≤ aX S) : SmL S s T A c := ⟨by have := h.l.1; omega, fun j h2 h6 => by have := h.l.2.1 j h2 h6; omega, fun j k h2 h6 hk => by have := h.l.2.2 j k h2 h6 hk; omega⟩
theorem SmH.ext {S' : aS} (h : SmH S M s T A c R W O cl) (ha : cl ≤ aX S) (hx : aExt S S') : SmH S' M s T A c R W O cl := ⟨h.sm.ext (h.L ha) hx, h.l, h.v⟩
theorem aCount (h : ClH S M cl t t2 rk rd rd0 R W) (hd : 2 ≤ d) {x : Int} (hx : 0 ≤ x ∧ x < 13) (q : Q (some (some (J (cCount R W 0 x)))) S (mI M)) : X E d fX7_count 0 [some (.ref cl), some (J x)] [] S (mI M) Q :=
  mX7_count h.w.c h.w.C h.m h.p hd hx (by rw [h.eR, h.eW, h.b]; exact q)
theorem aMile (h : ClH S M cl t t2 rk rd rd0 R W) (hd : 4 ≤ d) {m : Nat} {x : Int} (hm : (m : Int) < R 0 1) (hx : 0 ≤ x ∧ x < 4) (q : Q (some (some (J (cMile R W m x)))) S (mI M)) : X E d fX7_mile 0 [some (.ref cl), some (J m), some (J x)] [] S (mI M) Q :=
  mX7_mile h.w.c h.w.C h.m h.p hd (by rw [h.r0]; exact hm) hx (by rw [h.eR, h.eW]; exact q)
theorem aStretch (h : ClH S M cl t t2 rk rd rd0 R W) (hd : 4 ≤ d) {m : Nat} {x : Int} (hm : (m : Int) < R 0 0) (hx : 0 ≤ x ∧ x < 6) (q : Q (some (some (J (cStr R W m x)))) S (mI M)) : X E d fX7_stretch 0 [some (.ref cl), some (J m), some (J x)] [] S (mI M) Q :=
  mX7_stretch h.w.c h.w.C h.m h.p hd (by rw [h.r0]; exact hm) hx (by rw [h.eR, h.eW]; exact q)
theorem aGate (h : ClH S M cl t t2 rk rd rd0 R W) (hd : 4 ≤ d) {m : Nat} {x : Int} (hm : (m : Int) < R 0 2) (hx : 0 ≤ x ∧ x < 6) (q : Q (some (some (J (cGate R W m x)))) S (mI M)) : X E d fX7_gate 0 [some (.ref cl), some (J m), some (J x)] [] S (mI M) Q :=
  mX7_gate h.w.c h.w.C h.m h.p hd (by rw [h.r0]; exact hm) hx (by rw [h.eR, h.eW]; exact q)
theorem aTraffic (h : ClH S M cl t t2 rk rd rd0 R W) (hd : 4 ≤ d) {m : Nat} {x : Int} (hm : (m : Int) < R 0 3) (hx : 0 ≤ x ∧ x < 8) (q : Q (some (some (J (cTraf R W m x)))) S (mI M)) : X E d fX7_traffic 0 [some (.ref cl), some (J m), some (J x)] [] S (mI M) Q :=
  mX7_traffic h.w.c h.w.C h.m h.p hd (by rw [h.r0]; exact hm) hx (by rw [h.eR, h.eW]; exact q)
theorem aToll (h : ClH S M cl t t2 rk rd rd0 R W) (hd : 2 ≤ d) {a g : Nat} (ha : (a : Int) < R 0 3) (hg : (g : Int) < R 0 2) (q : Q (some (some (J (sToll W a g)))) S (mI M)) : X E d fX7_toll 0 [some (.ref cl), some (J a), some (J g)] [] S (mI M) Q :=
  mX7_toll h.w.c h.w.C h.m h.p hd (by rw [h.r0]; exact ha) (by rw [h.r0]; exact hg) (by rw [h.eW]; exact q)
theorem aWorst (h : ClH S M cl t t2 rk rd rd0 R W) (q : Q (some (some (J (cWorst W (R 0 1).toNat)))) S (mI M)) : X E d fX7_worst 0 [some (.ref cl), none, none] [] S (mI M) Q :=
  mX7_worst h.w.c h.w.C h.m h.p (by rw [h.eW, h.r0]; exact q)
theorem aMean (h : ClH S M cl t t2 rk rd rd0 R W) (hd : 2 ≤ d) (h1 : 1 ≤ R 0 1) (hdd : FP.ddiv (FP.i2d (Int32.ofInt (sSum (W 1) (R 0 1).toNat))) (FP.i2d (Int32.ofInt (R 0 1))) &&& 0x7fffffffffffffff ≤ 0x7ff0000000000000)
    (q : Q (some (some (.double (FP.ddiv (FP.i2d (Int32.ofInt (sSum (W 1) (R 0 1).toNat))) (FP.i2d (Int32.ofInt (R 0 1))))))) S (mI M)) : X E d fX7_mean 0 [some (.ref cl)] [] S (mI M) Q :=
  mX7_mean h.w.c h.w.C h.m h.p hd (by rw [h.r0]; exact h1) (by rw [h.eW, h.r0]; exact hdd) (by rw [h.eW, h.r0]; exact q)
theorem aDigest (h : ClH S M cl t t2 rk rd rd0 R W) (hd : 5 ≤ d) (q : Q (some (some (.long (cDig R W 0)))) S (mI M)) : X E d fX7_digest 0 [some (.ref cl), none, none, none, none] [] S (mI M) Q :=
  mX7_digest h.w.c h.w.C h.m h.p hd (by rw [h.eR, h.eW, h.b]; exact q)
theorem aSetToll (h : ClH S M cl t t2 rk rd rd0 R W) (hd : 1 ≤ d) {g : Nat} {x : Int} (hg : (g : Int) < R 0 2) (hx : 0 ≤ x ∧ x ≤ 60) (k : ∀ M', ClH S M' cl t t2 rk rd rd0 R (mW W 4 g x) → FrC cl t2 M M' → Q (some (some (J (W 4 g)))) S (mI M')) : X E d fX7_setToll 0 [some (.ref cl), some (J g), some (J x), none] [] S (mI M) Q :=
  mX7_setToll h.w.c h.w.C h.m h.p hd (by rw [h.r0]; exact hg) hx (fun M' hM' hW' hf => by
    have h3 := h.p.ng
    rw [h.r0] at h3
    have z := h.goes hM' hW' (by rw [h.eW]; exact h.z.w (by decide) (by have : zl 4 = 5 := rfl; omega)) hf
    have e := h.eW
    rw [e] at hW' z ⊢
    exact k M' z.1 z.2)
theorem aSetWheels (h : ClH S M cl t t2 rk rd rd0 R W) (hd : 1 ≤ d) {a : Nat} {x : Int} (hg : (a : Int) < R 0 3) (hx : 1 ≤ x ∧ x ≤ 16) (k : ∀ M', ClH S M' cl t t2 rk rd rd0 R (mW W 9 a x) → FrC cl t2 M M' → Q (some (some (J (W 9 a)))) S (mI M')) : X E d fX7_setWheels 0 [some (.ref cl), some (J a), some (J x), none] [] S (mI M) Q :=
  mX7_setWheels h.w.c h.w.C h.m h.p hd (by rw [h.r0]; exact hg) hx (fun M' hM' hW' hf => by
    have h3 := h.p.nt
    rw [h.r0] at h3
    have z := h.goes hM' hW' (by rw [h.eW]; exact h.z.w (by decide) (by have : zl 9 = 8 := rfl; omega)) hf
    have e := h.eW
    rw [e] at hW' z ⊢
    exact k M' z.1 z.2)
theorem aGrant (h : ClH S M cl t t2 rk rd rd0 R W) (hd : 1 ≤ d) {x : Int} (hx : 1 ≤ x ∧ x ≤ 9999) (k : ∀ M', ClH S M' cl t t2 rk rd rd0 R (sCap (mW W 0 3 (nz (W 0 3 + x)))) → FrC cl t2 M M' → Q (some (some (J (sCap (mW W 0 3 (nz (W 0 3 + x))) 0 3)))) S (mI M')) : X E d fX7_grant 0 [some (.ref cl), some (J x)] [] S (mI M) Q :=
  mX7_grant h.w.c h.w.C h.m hd hx (fun M' hM' hW' hf => by
    have e := h.eW
    rw [e] at hW'
    have hz : ZW (sCap (mW W 0 3 (nz (W 0 3 + x)))) := by
      unfold sCap
      split
      · exact (h.z.w0 (by decide)).w0 (by decide)
      · exact h.z.w0 (by decide)
    have z := h.goes hM' hW' hz hf
    rw [hW']
    exact k M' z.1 z.2)
theorem aMend (h : ClH S M cl t t2 rk rd rd0 R W) (hRZ : RZ R) (hd : 3 ≤ d) {g : Nat} {x : Int} (hg : (g : Int) < R 0 0) (hx : 1 ≤ x ∧ x ≤ 999) (k0 : W 0 3 < x → Q none (aNew S 500 0 6) (mI M)) (k : x ≤ W 0 3 → ∀ M', ClH S M' cl t t2 rk rd rd0 R (sMend R W g x).2 → FrC cl t2 M M' → Q (some (some (J (sMend R W g x).1))) S (mI M')) : X E d fX7_mend 0 [some (.ref cl), some (J g), some (J x)] [] S (mI M) Q :=
  mX7_mend h.w.c h.w.C h.m h.p hd (by rw [h.r0]; exact hg) hx (by rw [h.eW]; exact k0) (fun hc M' hM' hW' hf => by
    have h3 := h.p.ns
    rw [h.r0] at h3
    have hs := hRZ.2.2.1 g hg
    rw [h.eW, h.eR] at hW' ⊢
    rw [h.eW] at hc
    have z := h.goes hM' hW' (h.z.mend (by omega) hs.1 hs.2.1 hs.2.2) hf
    exact k hc M' z.1 z.2)
theorem aPass (h : ClH S M cl t t2 rk rd rd0 R W) (hRZ : RZ R) (hd : 7 ≤ d) {n : Nat} (hn : 1 ≤ n ∧ n ≤ 120) (h9 : ∀ a : Nat, (a : Int) < R 0 3 → 1 ≤ W 9 a) (k : ∀ M', ClH S M' cl t t2 rk rd rd0 R (sDays R n W) → FrC cl t2 M M' → Q (some (some (J (sSum (sDays R n W 10) (R 0 3).toNat - sSum (W 10) (R 0 3).toNat)))) S (mI M')) : X E d fX7_pass 0 [some (.ref cl), some (J n)] [] S (mI M) Q :=
  mX7_pass h.w.c h.w.C h.m h.p hd hn (fun a ha => by
    have e := h9 a (by rw [← h.r0]; exact ha)
    rw [← h.eW, win_at (by decide)] at e
    exact e) (fun M' hM' hW' hf => by
    rw [h.eW, h.eR] at hW'
    have z := h.goes hM' hW' (h.z.days hRZ n) hf
    rw [hW', h.eW, h.r0]
    exact k M' z.1 z.2)
theorem aJourney (h : ClH S M cl t t2 rk rd rd0 R W) (hRZ : RZ R) (hd : 6 ≤ d) {a : Nat} {x : Int} (ha : (a : Int) < R 0 3) (hx : 0 ≤ x ∧ x < 3) (h9 : ∀ a : Nat, (a : Int) < R 0 3 → 1 ≤ W 9 a) (k : ∀ M', ClH (aPut S t2 1 (some rd)) M' cl t t2 rk rd rd R W → FrC cl t2 M M' → Q (some (some (J (cJour R W a x)))) (aPut S t2 1 (some rd)) (mI M')) : X E d fX7_journey 0 [some (.ref cl), some (J a), some (J x), none] [] S (mI M) Q :=
  mX7_journey h.w h.m h.p hd (by rw [h.r0]; exact ha) hx (by rw [h.eW]; exact h.z) h.z2 (by rw [h.eW]; exact h9 a ha) (fun M' hM' hW' hf => by
    rw [h.eW, h.eR] at hW'
    have z := h.whatIf hM' (by rw [hW']; exact h.z.go (by have := hRZ.1; omega) (by have := hRZ.1; omega) (hRZ.2.1 a ha)) hf
    rw [h.eW, h.eR]
    exact k M' z.1 z.2)
theorem aUntil (h : ClH S M cl t t2 rk rd rd0 R W) (hRZ : RZ R) (hd : 7 ≤ d) {m : Nat} (hm : (m : Int) < R 0 1) (h9 : ∀ a : Nat, (a : Int) < R 0 3 → 1 ≤ W 9 a) (k : ∀ M', ClH (aPut S t2 1 (some rd)) M' cl t t2 rk rd rd R W → FrC cl t2 M M' → Q (some (some (J (cUnt R m 200 0 W)))) (aPut S t2 1 (some rd)) (mI M')) : X E d fX7_until 0 [some (.ref cl), some (J m), none] [] S (mI M) Q :=
  mX7_until h.w h.m h.p (by rw [h.eR]; exact hRZ) hd (by rw [h.r0]; exact hm) (by rw [h.eW]; exact h.z) h.z2 (by rw [h.eW, h.r0]; exact h9) (fun M' hM' hz' hf => by
    have z := h.whatIf hM' hz' hf
    rw [h.eW, h.eR]
    exact k M' z.1 z.2)
theorem aForesee (h : ClH S M cl t t2 rk rd rd0 R W) (hRZ : RZ R) (hd : 7 ≤ d) {n : Nat} {x : Int} (hn : 1 ≤ n ∧ n ≤ 120) (hx : x = 1 ∨ 7 ≤ x ∧ x ≤ 11) (h9 : ∀ a : Nat, (a : Int) < R 0 3 → 1 ≤ W 9 a) (k : ∀ M', ClH (aPut S t2 1 (some rd)) M' cl t t2 rk rd rd R W → FrC cl t2 M M' → Q (some (some (J (cFore R W n x)))) (aPut S t2 1 (some rd)) (mI M')) : X E d fX7_foresee 0 [some (.ref cl), some (J n), some (J x)] [] S (mI M) Q :=
  mX7_foresee h.w h.m h.p (by rw [h.eR]; exact hRZ) hd hn hx (by rw [h.eW]; exact h.z) h.z2 (by rw [h.eW, h.r0]; exact h9) (fun M' hM' hz' hf => by
    have z := h.whatIf hM' hz' hf
    rw [h.eW, h.eR]
    exact k M' z.1 z.2)
theorem aAdvise (h : ClH S M cl t t2 rk rd rd0 R W) (hRZ : RZ R) (hd : 7 ≤ d) {n : Nat} {x : Int} (hx : 0 ≤ x ∧ x ≤ 999) (hn : 1 ≤ n ∧ n ≤ 90) (h9 : ∀ a : Nat, (a : Int) < R 0 3 → 1 ≤ W 9 a) (k : ∀ v M', -1 ≤ v → v < R 0 2 → ClH (aPut S t2 1 (some rd)) M' cl t t2 rk rd rd R W → FrC cl t2 M M' → Q (some (some (J v))) (aPut S t2 1 (some rd)) (mI M')) : X E d fX7_advise 0 [some (.ref cl), some (J x), some (J n), none, none, none] [] S (mI M) Q :=
  mX7_advise h.w h.m h.p (by rw [h.eR]; exact hRZ) hd hx hn (by rw [h.eW]; exact h.z) h.z2 (by rw [h.eW, h.r0]; exact h9) (fun v M' h1 h2 hM' hz' hf => by
    have z := h.whatIf hM' hz' hf
    exact k v M' h1 (by rw [← h.r0]; exact h2) z.1 z.2)
theorem aWiden (h : ClH S M cl t t2 rk rd rd0 R W) (hRZ : RZ R) (hd : 7 ≤ d) (h1 : 1 ≤ R 0 3) {n : Nat} (hn : 1 ≤ n ∧ n ≤ 90) (h9 : ∀ a : Nat, (a : Int) < R 0 3 → 1 ≤ W 9 a) (k : ∀ v M', 0 ≤ v → v < R 0 3 → ClH (aPut S t2 1 (some rd)) M' cl t t2 rk rd rd R W → FrC cl t2 M M' → Q (some (some (J v))) (aPut S t2 1 (some rd)) (mI M')) : X E d fX7_widen 0 [some (.ref cl), some (J n), none, none, none, none] [] S (mI M) Q :=
  mX7_widen h.w h.m h.p (by rw [h.eR]; exact hRZ) hd (by rw [h.r0]; exact h1) hn (by rw [h.eW]; exact h.z) h.z2 (by rw [h.eW, h.r0]; exact h9) (fun v M' h1 h2 hM' hz' hf => by
    have z := h.whatIf hM' hz' hf
    exact k v M' h1 (by rw [← h.r0]; exact h2) z.1 z.2)
end C25
