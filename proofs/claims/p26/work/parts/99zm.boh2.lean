/-! the class that is taught and the law's road, together -/
section ZM
variable {E : Nat → Value} {d : Nat} {S S' S0 S1 : aS} {M M' M0 M1 M3 Ms : Nat → Nat → Int} {cb sb s v z cl : Nat} {bs : List Int} {m T : Nat → Nat} {A : Nat → Nat → Nat} {ce : Nat → Int} {R R0 W O : Nat → Nat → Int} {w : Nat → Int}
theorem IvR.cg {a b c : Nat} (h : IvR ce a b c R0) (g : ∀ j, j ≤ 11 → R j = R0 j) : IvR ce a b c R := by
  unfold IvR at h ⊢
  rw [g 0 (by decide), g 1 (by decide), g 2 (by decide), g 3 (by decide), g 4 (by decide), g 5 (by decide), g 6 (by decide), g 7 (by decide), g 8 (by decide), g 9 (by decide), g 10 (by decide), g 11 (by decide)]
  exact h
theorem IvZ.cg {a b c : Nat} (h : IvZ ce a b c R0) (g : ∀ j, j ≤ 11 → R j = R0 j) : IvZ ce a b c R := by
  unfold IvZ at h ⊢
  rw [g 1 (by decide), g 2 (by decide), g 3 (by decide), g 4 (by decide), g 6 (by decide), g 8 (by decide)]
  exact h
theorem lord_r2 {so wi : Nat} {w4 : Int} {a o : Nat} {r : Nat × Nat × Nat × Nat × Nat} (h : (lord so wi w4).2.2 a o = [r]) : r.2.2.2.1 ≤ o + 23 ∧ r.2.2.2.2 ≤ o + 23 := by
  have h1 := oT_l w4.toNat (a + 5)
  have h2 := oS_l wi (a + 3)
  have h3 := oT_l w4.toNat (a + 3 + (kS wi).length + 1)
  unfold lord at h
  split at h
  · have e := List.head_eq_of_cons_eq h
    subst e
    exact ⟨by show o ≤ o + 23; omega, by show o + _ ≤ o + 23; omega⟩
  · split at h
    · have e := List.head_eq_of_cons_eq h
      subst e
      exact ⟨by show o ≤ o + 23; omega, by show o + _ ≤ o + 23; omega⟩
    · split at h
      · have e := List.head_eq_of_cons_eq h
        subst e
        exact ⟨by show o + _ ≤ o + 23; omega, by show o + _ ≤ o + 23; omega⟩
      · have e := List.head_eq_of_cons_eq h
        subst e
        exact ⟨by show o + _ ≤ o + 23; omega, by show o + _ + _ ≤ o + 23; omega⟩
/-- what is taught, as the class's road -/
theorem rdc_of (hg : Tg cl M1 M (lnO (LLs ce) 0) (lnR (LLs ce) 0 0) R0 w) (hI : IvR ce (C2 ce) (C4 ce) (C5 ce) R0) (hw : ∀ t, t < (itsL ce).length → w t = (wV 36 (itsL ce) t : Int)) : RdC ce (win 21 M (cl + 34)) w := by
  obtain ⟨hM, hf, ⟨v1, f71⟩, hR, hn, ho, hr, hW, hz⟩ := hg
  have e : ∀ j, j ≤ 21 → win 21 M (cl + 34) j = M (cl + 34 + j) := fun j hj => win_at hj
  have g : ∀ j, j ≤ 11 → win 21 M (cl + 34) j = R0 j := fun j hj => by rw [e j (by omega), ← hR, win_at hj]
  rw [LLs_R, LLo_Rl] at hn
  refine ⟨hI.cg g, ?_, fun i hi r er => ?_, fun i hi j x hx => ?_, hw⟩
  · rw [e 12 (by decide), show cl + 34 + 12 = cl + 46 by omega]
    exact hn
  · have hri := hr i r (by rw [LLs_R]; exact LLo_Ri _ i hi r er)
    rw [e 13 (by decide), e 15 (by decide), e 16 (by decide), e 17 (by decide), e 18 (by decide), e 19 (by decide), show cl + 34 + 13 = cl + 47 by omega, show cl + 34 + 15 = cl + 49 by omega, show cl + 34 + 16 = cl + 50 by omega, show cl + 34 + 17 = cl + 51 by omega, show cl + 34 + 18 = cl + 52 by omega, show cl + 34 + 19 = cl + 53 by omega]
    exact hri
  · have hj := (List.getElem?_eq_some_iff.mp hx).1
    have g2 := ho (oO ce i + j) x.1 x.2 (by rw [LLs_O, LLo_Oi _ i hi j hj]; exact hx)
    rw [e 20 (by decide), e 21 (by decide), show cl + 34 + 20 = cl + 54 by omega, show cl + 34 + 21 = cl + 55 by omega]
    exact g2
theorem rdp_of (h : RdC ce R w) (hZ : IvZ ce (C2 ce) (C4 ce) (C5 ce) R) (hRd : Rd (cC ce) R O) (e : ∀ j, j ≤ 21 → M (cl + 34 + j) = R j) (hz : ∀ j, C6 ce ≤ j → R 17 j = 0 ∧ R 18 j = 0 ∧ R 19 j = 0) : RdP M (cl + 34) := by
  have h2 := C2_b (ce := ce)
  have h4 := C4_b (ce := ce)
  have h5 := C5_b (ce := ce)
  have h6 := C6_b (ce := ce)
  have hm := mny_b (ce := ce)
  have d2 : cC ce 2 = C2 ce := rfl
  have d3 : cC ce 3 = mny ce := rfl
  have d4 : cC ce 4 = C4 ce := rfl
  have d5 : cC ce 5 = C5 ce := rfl
  have d6 : cC ce 6 = C6 ce := rfl
  have n1 := hRd.n.1
  have n2 := hRd.n.2
  have hk := hRd.k.2.2.2.1
  have hst := hRd.k.2.2.2.2
  have e0 : M (cl + 34) = R 0 := e 0 (by decide)
  unfold RdP RdL
  rw [e0, e 1 (by decide), e 2 (by decide), e 3 (by decide), e 4 (by decide), e 7 (by decide), e 9 (by decide), e 10 (by decide), e 11 (by decide), e 12 (by decide), e 13 (by decide), e 15 (by decide), e 17 (by decide), e 18 (by decide), e 19 (by decide)]
  refine ⟨by omega, by omega, by omega, by omega, by omega, fun s hs => ?_, fun s hs => ?_, fun m hm2 => ?_, fun s hs => ?_, fun a ha => ?_, fun a ha => ?_, fun a ha => ?_, fun i hi => ?_, hRd.z.2.2.2⟩
  · by_cases c : s < C2 ce
    · have := hst s c
      omega
    · have := hZ.1.1 s (by omega)
      omega
  · have := hst s (by omega)
    omega
  · by_cases c : m < mny ce
    · have := hk.2.1 m c
      omega
    · have e4 := hZ.1.2 m (by have e : mny ce = psm (ml ce) (C2 ce) := rfl; omega)
      omega
  · by_cases c : s < C2 ce
    · have := hk.2.2 s c
      omega
    · have := hZ.1.1 s (by omega)
      omega
  · have := hk.1 a (by omega)
    omega
  · have := hk.1 a (by omega)
    omega
  · have := hk.1 a (by omega)
    omega
  · by_cases c : i < C6 ce
    · obtain ⟨r, er, _⟩ := lord_r (so := oso ce i) (wi := owi ce i) (w4 := o4 ce i) (aO ce i) (oO ce i)
      obtain ⟨_, _, _, g17, g18, g19⟩ := h.2.2.1 i c r er
      have b := lord_r2 er
      have bo := oO_b (ce := ce) i
      omega
    · have := hz i (by omega)
      omega
theorem w00_of {a : Nat} (h : ∀ j i, j ≤ 12 → M (a + j) i = if j = 0 ∧ i = 3 then 200 else if j = 0 ∧ i = 16 then -1 else 0) : W00 (win 12 M a) := fun j i => by
  by_cases hj : j ≤ 12
  · rw [win_at hj]; exact h j i hj
  · unfold win
    rw [if_neg hj, if_neg (by omega), if_neg (by omega)]
theorem boh_of (hT : TbS cl S cV) (hg : Tg cl M1 M (lnO (LLs ce) 0) (lnR (LLs ce) 0 0) (effL 36 (itsL ce) z0s).2.2.2 w) (hw : ∀ t, t < (itsL ce).length → w t = (wV 36 (itsL ce) t : Int)) (h1 : ∀ x, cl + 58 ≤ x → x ≤ cl + 83 → M1 x = M3 x) (hw1 : W00 (win 12 M3 (cl + 58))) (hw2 : W00 (win 12 M3 (cl + 71)))
    (h : Lz cb sb s S0 M0 ce S1 Ms v bs z 6 m T A) (hm : m 6 = C6 ce) (hcl : aX S1 ≤ cl) (g : ∀ x, x < aX S1 → aK S x = aK S1 x ∧ aN S x = aN S1 x ∧ aP S x = aP S1 x) (f : ∀ x, x < aX S1 → M x = Ms x) :
    ∃ R W O, BoH S M s T A (cC ce) cl (cl + 58) (cl + 71) (cl + 56) (cl + 34) (cl + 12) R W O ∧ Gd (cC ce) 0 W ∧ Rd (cC ce) R O := by
  obtain ⟨hI0, hZ0⟩ := (sv_L (ce := ce)).2
  have hC := rdc_of hg hI0 hw
  obtain ⟨hM, hf, ⟨v1, f71⟩, hR, hn, ho, hr, hW, hz⟩ := hg
  have e : ∀ j, j ≤ 21 → win 21 M (cl + 34) j = M (cl + 34 + j) := fun j hj => win_at hj
  have gg : ∀ j, j ≤ 11 → win 21 M (cl + 34) j = (effL 36 (itsL ce) z0s).2.2.2 j := fun j hj => by rw [e j (by omega), ← hR, win_at hj]
  have hZ := hZ0.cg gg
  have e58 : win 12 M1 (cl + 58) = win 12 M3 (cl + 58) := win_fr (fun b b1 b2 => h1 b (by omega) (by omega))
  have e71 : win 12 M (cl + 71) = win 12 M3 (cl + 71) := win_fr (fun b b1 b2 => (f71 b (by omega) (by omega)).trans (h1 b (by omega) (by omega)))
  rw [e58] at hW
  obtain ⟨hSm, hO⟩ := sm_of (S := S) (M := M) (W := win 12 M3 (cl + 58)) h hm hcl g f (cn_of hC) hC.1 hw1
  have hRd := rd_of hC hO
  rw [LLs_R, LLo_Rl] at hz
  refine ⟨win 21 M (cl + 34), sBeg (win 21 M (cl + 34)) (win 12 M3 (cl + 58)), _, ⟨⟨cU_Wh (cV_cU hT), hM, rdp_of hC hZ hRd (fun j hj => (e j hj).symm) (fun j hj => ?_), rfl, hW, zw_beg hw1, ?_, v1⟩, hSm⟩, gd_beg hw1 (win_R hM) hC.1 hZ, hRd⟩
  · rw [e 17 (by decide), e 18 (by decide), e 19 (by decide), show cl + 34 + 17 = cl + 51 by omega, show cl + 34 + 18 = cl + 52 by omega, show cl + 34 + 19 = cl + 53 by omega]
    exact hz j hj
  · rw [e71]
    exact zw_00 hw2
end ZM
