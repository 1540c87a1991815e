/-! a number is appended; a new builder, its string; a sign of a string -/
section JF
variable {E : Nat → Value} {d : Nat} {S S' : aS} {M M' : Nat → Nat → Int} {Q : Option (Option Value) → aS → aI → Prop}
def mDg (M : Nat → Nat → Int) (v o n : Nat) : Nat → Nat → Int :=
  if n < 10 then mW M v o ((48 + n % 10 : Nat) : Int) else if n < 100 then mW (mW M v (o + 1) ((48 + n % 10 : Nat) : Int)) v o ((48 + n / 10 : Nat) : Int)
  else mW (mW (mW M v (o + 2) ((48 + n % 100 % 10 : Nat) : Int)) v (o + 1) ((48 + n % 100 / 10 : Nat) : Int)) v o ((48 + n / 100 % 10 : Nat) : Int)
theorem mDg_ne {v o n x : Nat} (h : x ≠ v) : mDg M v o n x = M x := by
  unfold mDg
  split
  · exact mW_ne h
  · split
    · rw [mW_ne h, mW_ne h]
    · rw [mW_ne h, mW_ne h, mW_ne h]
theorem dg_at {n j : Nat} {x : Int} (hn : n < 1000) (h : (dg n)[j]? = some x) : x = if n < 10 then ((48 + n % 10 : Nat) : Int) else if n < 100 then (if j = 0 then ((48 + n / 10 : Nat) : Int) else ((48 + n % 10 : Nat) : Int)) else if j = 0 then ((48 + n / 100 % 10 : Nat) : Int) else if j = 1 then ((48 + n % 100 / 10 : Nat) : Int) else ((48 + n % 100 % 10 : Nat) : Int) := by
  unfold dg at h
  by_cases h1 : n < 10
  · rw [if_pos h1] at h ⊢
    match j, h with
    | 0, h => rw [← Option.some.inj h]; omega
  · rw [if_neg h1] at h ⊢
    by_cases h2 : n < 100
    · rw [if_pos h2] at h ⊢
      match j, h with
      | 0, h => rw [← Option.some.inj h]; rfl
      | 1, h => rw [← Option.some.inj h]; rfl
    · rw [if_neg h2] at h ⊢
      match j, h with
      | 0, h =>
        rw [← Option.some.inj h, if_pos rfl]; omega
      | 1, h =>
        rw [← Option.some.inj h, if_neg (by decide), if_pos rfl]; omega
      | 2, h =>
        rw [← Option.some.inj h, if_neg (by decide), if_neg (by decide)]; omega
theorem mDg_row {v n : Nat} {bs : List Int} (hn : n < 1000) (h : Row M v bs) : Row (mDg M v bs.length n) v (bs ++ dg n) := by
  intro i x hx
  by_cases hi : i < bs.length
  · rw [List.getElem?_append_left hi] at hx
    have g := h i x hx
    unfold mDg
    split
    · rw [mW_ne2 (Or.inr (by omega))]; exact g
    · split
      · rw [mW_ne2 (Or.inr (by omega)), mW_ne2 (Or.inr (by omega))]; exact g
      · rw [mW_ne2 (Or.inr (by omega)), mW_ne2 (Or.inr (by omega)), mW_ne2 (Or.inr (by omega))]; exact g
  · rw [List.getElem?_append_right (by omega)] at hx
    have hl := (List.getElem?_eq_some_iff.mp hx).1
    rw [dg_len] at hl
    rw [dg_at hn hx]
    obtain ⟨j, rfl⟩ : ∃ j, i = bs.length + j := ⟨i - bs.length, by omega⟩
    rw [Nat.add_sub_cancel_left] at hl ⊢
    unfold mDg
    unfold dl at hl
    by_cases h1 : n < 10
    · rw [if_pos h1] at hl ⊢
      rw [if_pos h1, mW_get, if_pos ⟨rfl, by omega⟩]
    · rw [if_neg h1] at hl ⊢
      rw [if_neg h1]
      by_cases h2 : n < 100
      · rw [if_pos h2] at hl ⊢
        rw [if_pos h2, mW_get, mW_get]
        by_cases e : j = 0
        · rw [if_pos e, if_pos ⟨rfl, by omega⟩]
        · rw [if_neg e, if_neg (by omega), if_pos ⟨rfl, by omega⟩]
      · rw [if_neg h2] at hl ⊢
        rw [if_neg h2, mW_get, mW_get, mW_get]
        by_cases e : j = 0
        · rw [if_pos e, if_pos ⟨rfl, by omega⟩]
        · rw [if_neg e, if_neg (by omega)]
          by_cases e1 : j = 1
          · rw [if_pos e1, if_pos ⟨rfl, by omega⟩]
          · rw [if_neg e1, if_neg (by omega), if_pos ⟨rfl, by omega⟩]
theorem mW_bt {v k : Nat} {x : Int} (h : ∀ j, Bt (M v j)) (hx : Bt x) : ∀ j, Bt (mW M v k x v j) := fun j => by
  rw [mW_get]
  split
  · exact hx
  · exact h j
theorem mDg_bt {v o n : Nat} (hn : n < 1000) (h : ∀ j, Bt (M v j)) : ∀ j, Bt (mDg M v o n v j) := by
  unfold mDg
  split
  · exact mW_bt h ⟨by omega, by omega⟩
  · split
    · exact mW_bt (mW_bt h ⟨by omega, by omega⟩) ⟨by omega, by omega⟩
    · exact mW_bt (mW_bt (mW_bt h ⟨by omega, by omega⟩) ⟨by omega, by omega⟩) ⟨by omega, by omega⟩
theorem mDg_RM {v o n : Nat} (hn : n < 1000) (h : RM M) : RM (mDg M v o n) := by
  unfold mDg
  split
  · exact h.w ⟨by omega, by omega⟩
  · split
    · exact (h.w ⟨by omega, by omega⟩).w ⟨by omega, by omega⟩
    · exact ((h.w ⟨by omega, by omega⟩).w ⟨by omega, by omega⟩).w ⟨by omega, by omega⟩
set_option maxHeartbeats 1000000 in
theorem jChars {bo bt v o n : Nat} {x : Int} (hD : Dt E S M bo bt) (hv : aK S v = 101) (hn : n < 1000) (hx : x = (o : Int) + (dl n : Int)) (ho : o + dl n ≤ aN S v) (hm : aN S v ≤ 100000) (h1 : bo ≠ v) (h2 : bt ≠ v)
    (q : Q (some (some (J (o : Int)))) S (mI (mDg M v o n))) :
    X E d fJ6_getChars_ba4f3 0 [some (J (n : Int)), some (J x), some (.ref v), none, none, none, none] [] S (mI M) Q := by
  obtain ⟨e1, e2, k1, k2, n1, n2, ht, l1, l2⟩ := hD
  have hdl := dl_le (n := n)
  have bt0 : ∀ {m : Nat}, m < 10 → (-128 : Int) ≤ ((48 + m : Nat) : Int) ∧ ((48 + m : Nat) : Int) ≤ 127 := fun h => ⟨by omega, by omega⟩
  refine kJ6_getChars_ba4f3_0 ⟨by omega, by omega⟩ (fun _ => ?_) (fun h => absurd h (by omega))
  refine kJ6_getChars_ba4f3_11 (kJ6_getChars_ba4f3_12 (by decide) (fun h => absurd rfl h) (fun _ => kJ6_getChars_ba4f3_19 ?_))
  unfold mDg at q
  by_cases c1 : n < 10
  · rw [if_pos c1] at q
    have hd : dl n = 1 := by unfold dl; rw [if_pos c1]
    refine kJ6_getChars_ba4f3_22 ⟨by omega, by omega⟩ (fun _ => ?_) (fun h => absurd h (by omega))
    have en : (- -(n : Int)).toNat = n := by omega
    have eo : (x + (-1)).toNat = o := by omega
    refine kJ6_getChars_ba4f3_72 e1 k1 ⟨by omega, by omega⟩ ⟨by omega, by omega⟩ hv ⟨by omega, by omega⟩ ⟨by omega, by omega⟩ ?_ ⟨by omega, by omega⟩ (fun _ => ?_) (fun h => absurd h (by omega))
    all_goals rw [en, (ht n (by omega)).1]
    · exact bt0 (by omega)
    · refine kJ6_getChars_ba4f3_104 (by decide) (fun _ => kJ6_getChars_ba4f3_118 ?_) (fun h => absurd rfl h)
      rw [eo, show x + (-1) = (o : Int) by omega]
      exact q
  · rw [if_neg c1] at q
    by_cases c2 : n < 100
    · rw [if_pos c2] at q
      have hd : dl n = 2 := by unfold dl; rw [if_neg c1, if_pos c2]
      refine kJ6_getChars_ba4f3_22 ⟨by omega, by omega⟩ (fun _ => ?_) (fun h => absurd h (by omega))
      have en : (- -(n : Int)).toNat = n := by omega
      have eo : (x + (-1)).toNat = o + 1 := by omega
      have eo2 : (x + (-1) + (-1)).toNat = o := by omega
      refine kJ6_getChars_ba4f3_72 e1 k1 ⟨by omega, by omega⟩ ⟨by omega, by omega⟩ hv ⟨by omega, by omega⟩ ⟨by omega, by omega⟩ ?_ ⟨by omega, by omega⟩ (fun h => absurd h (by omega)) (fun _ => ?_)
      all_goals rw [en, (ht n (by omega)).1]
      · exact bt0 (by omega)
      · refine kJ6_getChars_ba4f3_91 e2 k2 ⟨by omega, by omega⟩ ⟨by omega, by omega⟩ hv ⟨by omega, by omega⟩ ⟨by omega, by omega⟩ ?_ ?_
        all_goals rw [en, mW_ne h2, (ht n (by omega)).2]
        · exact bt0 (by omega)
        · refine kJ6_getChars_ba4f3_104 (by decide) (fun _ => kJ6_getChars_ba4f3_118 ?_) (fun h => absurd rfl h)
          rw [eo, eo2, show x + (-1) + (-1) = (o : Int) by omega]
          exact q
    · rw [if_neg c2] at q
      have hd : dl n = 3 := by unfold dl; rw [if_neg c1, if_neg c2]
      have et : (-(n : Int)).tdiv 100 = -((n / 100 : Nat) : Int) := by
        rw [Int.neg_tdiv]
        rfl
      have er : -((n / 100 : Nat) : Int) * 100 - -(n : Int) = ((n % 100 : Nat) : Int) := by omega
      have eo : (x + (-1)).toNat = o + 2 := by omega
      have eo2 : (x + (-1) + (-1)).toNat = o + 1 := by omega
      have eo3 : (x + (-1) + (-1) + (-1)).toNat = o := by omega
      refine kJ6_getChars_ba4f3_22 ⟨by omega, by omega⟩ (fun h => absurd h (by omega)) (fun _ => ?_)
      refine kJ6_getChars_ba4f3_28 (M_20 := mW (mW M v (o + 2) ((48 + n % 100 % 10 : Nat) : Int)) v (o + 1) ((48 + n % 100 / 10 : Nat) : Int)) ⟨by omega, by omega⟩ e1 k1 ?_ ?_ hv ⟨by omega, by omega⟩ ⟨by omega, by omega⟩ ?_ e2 k2 ?_ ⟨by omega, by omega⟩ ⟨by omega, by omega⟩ ?_ ?_ ?_
      all_goals rw [et]
      · rw [er]; exact ⟨by omega, by omega⟩
      · rw [er]; exact ⟨by omega, by omega⟩
      · rw [er, Int.toNat_natCast, (ht _ (by omega)).1]; exact bt0 (by omega)
      · rw [er]; exact ⟨by omega, by omega⟩
      · rw [er, Int.toNat_natCast, mW_ne h2, (ht _ (by omega)).2]; exact bt0 (by omega)
      · rw [er, Int.toNat_natCast, mW_ne h2, (ht _ (by omega)).1, (ht _ (by omega)).2, eo, eo2]
      · refine kJ6_getChars_ba4f3_22 ⟨by omega, by omega⟩ (fun _ => ?_) (fun h => absurd h (by omega))
        have en : (- -((n / 100 : Nat) : Int)).toNat = n / 100 := by omega
        have hb : mW (mW M v (o + 2) ((48 + n % 100 % 10 : Nat) : Int)) v (o + 1) ((48 + n % 100 / 10 : Nat) : Int) bo = M bo := by rw [mW_ne h1, mW_ne h1]
        refine kJ6_getChars_ba4f3_72 e1 k1 ⟨by omega, by omega⟩ ⟨by omega, by omega⟩ hv ⟨by omega, by omega⟩ ⟨by omega, by omega⟩ ?_ ⟨by omega, by omega⟩ (fun _ => ?_) (fun h => absurd h (by omega))
        all_goals rw [en, hb, (ht (n / 100) (by omega)).1]
        · exact bt0 (by omega)
        · refine kJ6_getChars_ba4f3_104 (by decide) (fun _ => kJ6_getChars_ba4f3_118 ?_) (fun h => absurd rfl h)
          rw [eo3, show x + (-1) + (-1) + (-1) = (o : Int) by omega]
          exact q
set_option maxHeartbeats 1000000 in
theorem jAppI {sb v bo bt n : Nat} {bs : List Int} (e2 : E 2 = J 1) (hM : RM M) (hS : Sb S M sb v bs) (hD : Dt E S M bo bt) (h1 : bo ≠ v) (h2 : bt ≠ v) (hn : n < 1000) (hl : bs.length + 3 ≤ 4000) (hd : 5 ≤ d)
    (q : ∀ S' M' v', Ap S M sb v S' M' v' → Sb S' M' sb v' (bs ++ dg n) → Q (some (some (.ref sb))) S' (mI M')) :
    X E d fJ4_append_bf812 0 [some (.ref sb), some (J (n : Int))] [] S (mI M) Q := by
  have hkd := hS.kd
  have hk := hS.1
  have hm := hS.2.1
  have hc := hS.2.2.1
  have hsx := hS.2.2.2.2.2.2.2.2.2.1
  have hdl := dl_le (n := n)
  refine kJ4_append_bf812_0 (by omega) (kJ5_append_c97b9_0 hkd (by omega) (jSize hn ⟨_, rfl, ?_⟩)) hkd
  rw [hc]
  refine kJ5_append_c97b9_10 (by omega) ?_ hkd
  rw [show (bs.length : Int) + (dl n : Int) = ((bs.length + dl n : Nat) : Int) by omega]
  refine jEns hS hM (by omega) (by omega) (by omega) (fun S1 M1 v1 hx hz hE hM1 hfr hv1 g1 => ⟨_, rfl, ?_⟩)
  obtain ⟨hp1, hk1, hn1, hcap1, hbt1, hrow1, hvx1⟩ := g1
  have hks : aK S1 sb = 1 := (hE.2 sb hsx).1.trans hk
  have hksd : aKd S1 sb = 1 := by unfold aKd; rw [hks]
  have hm1 : M1 sb 1 = 0 := by rw [hfr sb hsx]; exact hm
  obtain ⟨e14, e15, k1, k2, n1, n2, ht, l1, l2⟩ := hD
  have hD1 : Dt E S1 M1 bo bt := ⟨e14, e15, (hE.kd l1).trans k1, (hE.kd l2).trans k2, (hE.2 bo l1).2.1.trans n1, (hE.2 bt l2).2.1.trans n2, fun r hr => by rw [hfr bo l1, hfr bt l2]; exact ht r hr, by omega, by omega⟩
  have hb1 : bo ≠ v1 := by
    rcases hv1 with h | h
    · rw [h]; exact h1
    · omega
  have hb2 : bt ≠ v1 := by
    rcases hv1 with h | h
    · rw [h]; exact h2
    · omega
  have hsv1 : sb ≠ v1 := fun e => by
    rw [e] at hks
    omega
  refine kJ5_append_c97b9_17 (by omega) (jLatB e2 hksd hm1 ⟨_, rfl, ?_⟩) hksd
  refine kJ5_append_c97b9_21 (by decide) (fun h => absurd h (by decide)) (fun _ => ?_)
  refine kJ5_append_c97b9_24 hksd hp1 (by omega) ?_
  refine jChars (o := bs.length) hD1 hk1 hn (by omega) (by omega) (by omega) hb1 hb2 ⟨_, rfl, kJ5_append_c97b9_33 (kJ5_append_c97b9_48 hks ⟨_, rfl, kJ4_append_bf812_5 ?_⟩)⟩
  refine q S1 _ v1 ⟨⟨hx.1, hx.2, hz⟩, hE, (mDg_RM hn hM1).w ⟨by omega, by omega⟩, fun x hx' g2 g3 => ?_, hv1⟩ ⟨hks, ?_, ?_, hp1, hk1, ?_, ?_, fun j => ?_, fun i x hx => ?_, by omega, hvx1⟩
  · rw [mW_ne g2, mDg_ne, hfr x hx']
    rcases hv1 with h | h
    · rw [h]; exact g3
    · omega
  · rw [mW_ne2 (Or.inr (by decide)), mDg_ne hsv1]; exact hm1
  · rw [mW_get, if_pos ⟨rfl, rfl⟩, List.length_append, dg_len]
  · rw [List.length_append, dg_len]; omega
  · rw [List.length_append, dg_len]; omega
  · rw [mW_ne (Ne.symm hsv1)]; exact mDg_bt hn hbt1 j
  · rw [mW_ne (Ne.symm hsv1)]; exact mDg_row hn hrow1 i x hx
/-- a new builder -/
theorem jInit {sb : Nat} (e2 : E 2 = J 1) (hk : aK S sb = 1) (hx : sb < aX S) (hM : RM M) (hc : M sb 3 = 0) (hd : 1 ≤ d)
    (q : ∀ S' M', aX S' = aX S + 1 → aZ S' = aZ S + 16 → aE sb S S' → RM M' → (∀ x, x < aX S → x ≠ sb → M' x = M x) → Sb S' M' sb (aX S) [] → Q (some none) S' (mI M')) :
    X E d fJ4_init_da8c8 0 [some (.ref sb)] [] S (mI M) Q := by
  have hkn : aK (aNew S 101 16 16) sb = 1 := (nK_lt hx).trans hk
  refine kJ4_init_da8c8_0 hd (kJ5_init_d00df_0 e2 (by decide) (fun h => absurd h (by decide)) (fun _ => ?_))
  refine kJ5_init_d00df_10 (by decide) hkn (kJ5_init_d00df_38 ⟨_, rfl, kJ4_init_da8c8_6 ?_⟩)
  have hne : sb ≠ aX S := Nat.ne_of_lt hx
  refine q _ _ rfl rfl aE.step ((RM.nw hM).w (by decide)) (fun x hx' h => ?_) ⟨hkn, ?_, ?_, aPut_self, (aNew_K : aK (aNew S 101 16 16) (aX S) = 101), ?_, ?_, fun j => ?_, (fun i x h => by cases h), Nat.lt_succ_of_lt hx, Nat.lt_succ_self _⟩
  · rw [mW_ne h, aU_ne _ _ (Nat.ne_of_lt hx')]
  · rw [mW_get, if_pos ⟨rfl, rfl⟩]
  · rw [mW_ne2 (Or.inr (by decide)), aU_ne _ _ hne]; exact hc
  · exact Nat.zero_le _
  · show aN (aNew S 101 16 16) (aX S) ≤ 18
    rw [aNew_N]
    decide
  · rw [mW_ne (Ne.symm hne), aU_self]; exact ⟨by decide, by decide⟩
end JF
