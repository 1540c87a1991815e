/-! the law teaches its list -/
section ZK
variable {E : Nat → Value} {d : Nat} {S S' : aS} {M M' : Nat → Nat → Int} {Q : Option (Option Value) → aS → aI → Prop} {cl bs ws bk wk b3 b w : Nat} {ce : Nat → Int}
theorem Bf.kp (h : Bf E S M cl bs ws bk wk b3) (g : Kp cl S M S' M') : Bf E S' M' cl bs ws bk wk b3 := by
  obtain ⟨⟨⟨s1, s2, s3⟩, k1, k2, k3, k4, k5⟩, ⟨b1, b2, b4, b5⟩, ⟨l1, l2, l3, l4, l5, l6⟩, r⟩ := h
  have ln : ∀ {n : Nat} {ks : List Nat}, LnK E S M cl n ks → LnK E S' M' cl n ks := fun ⟨b, e1, e2, e3, e4, e5⟩ => ⟨b, e1, e2, (g.kd e2).trans e3, (g.2 b e2).1.2.1.trans e4, fun i k hi => by rw [(g.2 b e2).2]; exact e5 i k hi⟩
  refine ⟨⟨⟨s1, s2, s3.kp g b1 b2⟩, k1, k2, k3, k4.kp g b4 b5, k5⟩, ⟨b1, b2, b4, b5⟩, ⟨ln l1, ln l2, ln l3, ln l4, ln l5, ln l6⟩, ?_⟩
  obtain ⟨b, r1, r2, r3, r4, r5⟩ := r
  exact ⟨b, r1, r2, (g.kd r2).trans r3, (g.2 b r2).1.2.1.trans r4, fun j t ht => by rw [(g.2 b r2).2]; exact r5 j t ht⟩
theorem Bf.up {cl' : Nat} (h : Bf E S M cl bs ws bk wk b3) (hc : cl ≤ cl') : Bf E S M cl' bs ws bk wk b3 := by
  obtain ⟨h1, ⟨b1, b2, b4, b5⟩, ⟨l1, l2, l3, l4, l5, l6⟩, r⟩ := h
  have ln : ∀ {n : Nat} {ks : List Nat}, LnK E S M cl n ks → LnK E S M cl' n ks := fun ⟨b, e1, e2, e3⟩ => ⟨b, e1, Nat.lt_of_lt_of_le e2 hc, e3⟩
  obtain ⟨b, r1, r2, r3⟩ := r
  exact ⟨h1, ⟨by omega, by omega, by omega, by omega⟩, ⟨ln l1, ln l2, ln l3, ln l4, ln l5, ln l6⟩, b, r1, Nat.lt_of_lt_of_le r2 hc, r3⟩
theorem txL_len : (txL ce).length = (txt (itsL ce)).length := by
  rw [cI_L]
  exact List.length_map _
theorem txL_b : (txL ce).length ≤ 1980 := by
  have hc6 := C6_b (ce := ce)
  have hc2 := C2_b (ce := ce)
  have hc4 := C4_b (ce := ce)
  have hc5 := C5_b (ce := ce)
  have l2 := tx2_l (ce := ce) (C2 ce)
  have l4 := tx4_l (ce := ce) (b := tx2 ce (C2 ce)) (C4 ce)
  have l5 := tx5_l (ce := ce) (b := tx4 ce (tx2 ce (C2 ce)) (C4 ce)) (C5 ce)
  have l6 := tx6_l (ce := ce) (b := tx5 ce (tx4 ce (tx2 ce (C2 ce)) (C4 ce)) (C5 ce)) (C6 ce)
  show (tx6 ce (tx5 ce (tx4 ce (tx2 ce (C2 ce)) (C4 ce)) (C5 ce)) (C6 ce)).length ≤ 1980
  omega
theorem txL_f : ∃ f, ByF (txL ce) f ∧ At f 0 (txt (itsL ce)) := by
  have h : ∀ x, x ∈ txL ce → 0 ≤ x ∧ x < 128 := fun x hx => by
    rw [cI_L] at hx
    obtain ⟨y, hy, e⟩ := List.mem_map.mp hx
    have := txt_128 Vl_L y hy
    have e' : (y : Int) = x := e
    omega
  obtain ⟨f, hf⟩ := ByF.mk h
  refine ⟨f, hf, fun i x hx => ?_⟩
  have e : (txL ce)[i]? = some (x : Int) := by
    rw [cI_L]
    show ((txt (itsL ce)).map (fun x : Nat => (x : Int)))[i]? = _
    rw [List.getElem?_map, hx]
    rfl
  have := hf.2.1 i _ e
  rw [Nat.zero_add]
  omega
set_option maxHeartbeats 2000000 in
theorem mL_taught (hT : TbS cl S cT) (hM : RM M) (hB : Bf E S M cl bs ws bk wk b3) (hs : Str S M b w (txL ce)) (hb : cl + 84 ≤ b ∧ cl + 84 ≤ w) (h1 : M cl 1 = 0) (hz : ∀ x, cl + 34 ≤ x → x ≤ cl + 55 → M x = fun _ => 0) (hd : 50 ≤ d)
    (q : ∀ S' M' wv, aX S' = aX S + 1 → aZ S' = aZ S + 5 → (∀ x, x < aX S → (x < cl ∨ cl + 83 < x) → aK S' x = aK S x ∧ aN S' x = aN S x ∧ aP S' x = aP S x) → TbS cl S' cV → (∀ x, x < aX S → (x < cl ∨ cl + 83 < x) → M' x = M x) →
      (∀ t, t < (itsL ce).length → wv t = (wV 36 (itsL ce) t : Int)) → (∃ M1, (∀ x, cl + 58 ≤ x → x ≤ cl + 83 → M1 x = M x) ∧ Tg cl M1 M' (lnO (LLs ce) 0) (lnR (LLs ce) 0 0) (effL 36 (itsL ce) z0s).2.2.2 wv) → Q (some (some (J 0))) S' (mI M')) :
    X E d fL_taught 0 [some (.ref cl), some (.ref b), none, none, none, none] [] S (mI M) Q := by
  have hl84 : cl + 84 ≤ aX S := hT.1
  have hbx := hs.2.2.2.2.2.2.2.1
  have hwx := hs.2.2.2.2.2.2.2.2
  obtain ⟨f, hf, hA⟩ := txL_f (ce := ce)
  have hlen := txL_b (ce := ce)
  obtain ⟨Sn, eS⟩ : ∃ x, aNew S 100 5 5 = x := ⟨_, rfl⟩
  have hx : aExt S Sn := by rw [← eS]; exact ⟨Nat.le_succ _, fun x hx => ⟨nK_lt hx, nN_lt hx, nP_lt hx⟩⟩
  have ex : aX Sn = aX S + 1 := by rw [← eS]; rfl
  have ez : aZ Sn = aZ S + 5 := by rw [← eS]; rfl
  have hTn := hT.ext hx
  obtain ⟨M0, eM⟩ : ∃ x, aU M (aX S) (fun _ => 0) = x := ⟨_, rfl⟩
  have m0 : RM M0 := by rw [← eM]; exact hM.nw
  have f0 : ∀ x, x < aX S → M0 x = M x := fun x hx => by rw [← eM]; exact aU_ne _ _ (Nat.ne_of_lt hx)
  have hTp : TpS Sn cl (cl + 1) := ⟨hTn.kd (i := 0) rfl, hTn.kk (i := 0) rfl, hTn.pp (i := 0) (j := 0) (x := 1) rfl rfl, hTn.kk (i := 1) rfl, hTn.nn (i := 1) rfl⟩
  have v0 : M0 cl 1 = 0 := by rw [f0 cl (by omega)]; exact h1
  refine kL_taught_0 (by omega) ?_ (by rw [eS]; exact hTp.1)
  rw [eS, eM]
  refine mX7_trim (n := 0) hTp m0 (by rw [v0]; exact Int.le_refl _) (by decide) ⟨_, rfl, kL_taught_9 ?_⟩
  obtain ⟨M1, e1⟩ : ∃ x, mW M0 cl 1 ((0 : Nat) : Int) = x := ⟨_, rfl⟩
  rw [e1]
  have m1 : RM M1 := by rw [← e1]; exact m0.w (by decide)
  have v1 : M1 cl 1 = 0 := by rw [← e1]; exact mW_eq
  have f1 : ∀ x, x ≠ cl → M1 x = M0 x := fun x hx => by rw [← e1]; exact mW_ne hx
  have hkp : Kp (aX S) S M Sn M0 := ⟨by omega, fun x hx2 => ⟨hx.2 x hx2, f0 x hx2⟩⟩
  have hs0 : Str Sn M0 b w (txL ce) := hs.kp hkp hbx hwx
  have hs1 : Str Sn M1 b w (txL ce) := hs0.fr (f1 b (by omega)) (f1 w (by omega))
  have hTa : TaS E Sn M1 cl (cl + 1) (aX S) b w b3 (txL ce) f := ⟨hB.1.1.1, hB.1.2.2.1, hTp, ⟨by rw [← eS]; exact aNew_K, by rw [← eS]; exact aNew_N, by omega, by omega⟩, ⟨hs1, by omega, by omega, by omega, by omega, by omega, by omega⟩, hlen, hf⟩
  refine tFeed hTa (by omega) (fun M2 g2 t2 o3 o4 o5 t => ?_) (txL ce).length 0 M1 none none (by omega) ⟨m1, fun _ _ _ _ => rfl, fun _ _ => rfl⟩ ⟨v1, fun i hi => absurd hi (Nat.not_lt_zero _)⟩ (by omega)
  have f2 : ∀ x, x < aX S → x ≠ cl → x ≠ cl + 1 → M2 x = M x := fun x a1 a2 a3 => (g2.2.1 x a2 a3 (by omega)).trans ((f1 x a2).trans (f0 x a1))
  have hB2 : Bf E Sn M2 cl bs ws bk wk b3 := hB.kp ⟨by omega, fun x hx => ⟨hkp.2 x (by omega) |>.1, f2 x (by omega) (by omega) (by omega)⟩⟩
  have hq : Tq Sn M2 (cl + 1) (txt (itsL ce)).length f := by
    rw [← txL_len]
    exact ⟨hTp.2.2.2.1, hTp.2.2.2.2, hlen, t2.2, hf.1⟩
  have hz2 : ∀ x, cl + 34 ≤ x → x ≤ cl + 55 → M2 x = fun _ => 0 := fun x x1 x2 => (f2 x (by omega) (by omega) (by omega)).trans (hz x x1 x2)
  have hol : (lnO (LLs ce) 0).length ≤ 400 := by
    rw [LLs_O]
    have h6 := C6_b (ce := ce)
    have := oO_b (ce := ce) (C6 ce)
    have e : oO ce (C6 ce) = (lnO (LLo ce (C6 ce)) (bsO ce)).length := rfl
    omega
  have hor : (lnR (LLs ce) 0 0).length ≤ 20 := by
    rw [LLs_R, LLo_Rl]
    have h6 := C6_b (ce := ce)
    omega
  have h6 := C6_b (ce := ce)
  refine kL_taught_133 (by omega) ?_ hTp.1
  refine mX7_teach (its := itsL ce) (LL := LLs ce) (f := f) hTn g2.1 hB2 hq (by rw [t2.1, txL_len]) hz2 hA (fun b k v hm => Vl_L b k v hm) Ad_L itsL_l kd_L LLs_P LLs_l hol hor sv_L.1 nOr_L (fun i k t hi => ?_) (fun j r hr => ?_) (by omega) (fun S3 M3 wv x3 z3 k3 t3 w3 g3 => ⟨_, rfl, kL_taught_138 ?_⟩)
  · rw [LLs_O] at hi
    exact LLo_Om _ (by omega) _ (List.mem_of_getElem? hi)
  · rw [LLs_R] at hr
    exact LLo_Rm _ (by omega) _ (List.mem_of_getElem? hr)
  · refine q S3 M3 wv (by omega) (by omega) (fun x a1 a2 => ?_) t3 (fun x a1 a2 => (g3.2.1 x a2).trans (f2 x a1 (by omega) (by omega))) w3 ⟨M2, fun x x1 x2 => f2 x (by omega) (by omega) (by omega), g3⟩
    have e3 := k3 x a2
    have en := (hkp.2 x a1).1
    exact ⟨e3.1.trans en.1, e3.2.1.trans en.2.1, e3.2.2.trans en.2.2⟩
end ZK
