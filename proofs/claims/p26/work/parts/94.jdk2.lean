/-! a builder is appended to -/
section JE
variable {E : Nat → Value} {d : Nat} {S S' : aS} {M M' : Nat → Nat → Int} {Q : Option (Option Value) → aS → aI → Prop}
/-- what an append leaves: at most one cell more, all else as it was -/
abbrev Ap (S : aS) (M : Nat → Nat → Int) (sb v : Nat) (S' : aS) (M' : Nat → Nat → Int) (v' : Nat) : Prop :=
  (aX S ≤ aX S' ∧ aX S' ≤ aX S + 1 ∧ aZ S' ≤ aZ S + 8002) ∧ aE sb S S' ∧ RM M' ∧ (∀ x, x < aX S → x ≠ sb → x ≠ v → M' x = M x) ∧ (v' = v ∨ aX S ≤ v')
theorem jInfl {sb b : Nat} (e2 : E 2 = J 1) (hk : aKd S sb = 1) (hm : M sb 1 = 0) (hb : aKd S b = 0) (hc : M b 1 = 0) (hd : 1 ≤ d) (q : Q (some none) S (mI M)) : X E d fJ5_inflateIfNeededFor_a7421 0 [some (.ref sb), some (.ref b)] [] S (mI M) Q := by
  refine kJ5_inflateIfNeededFor_a7421_0 e2 (by decide) (fun h => absurd h (by decide)) (fun _ => kJ5_inflateIfNeededFor_a7421_6 hk hd (jCoder e2 hb hc ⟨_, rfl, ?_⟩) hb)
  refine kJ5_inflateIfNeededFor_a7421_14 (by rw [hm]; decide) (by decide) (fun _ => kJ5_inflateIfNeededFor_a7421_21 q) (fun h => absurd hm h)
set_option maxHeartbeats 1000000 in
theorem jGet {b w v o : Nat} {cs : List Int} (e2 : E 2 = J 1) (h : Str S M b w cs) (hv : aK S v = 101) (ho : o + cs.length ≤ aN S v) (hn : aN S v ≤ 100000) (hd : 1 ≤ d) (q : Q (some none) S (mI (aCp M w v 0 o cs.length))) : X E d fJ0_getBytes_840e7 0 [some (.ref b), some (.ref v), some (J (o : Int)), some (J 0)] [] S (mI M) Q := by
  have ro : R32 (o : Int) := ⟨by omega, by omega⟩
  have hl := h.2.2.2.2.1
  refine kJ0_getBytes_840e7_0 hd (jCoder e2 h.1 h.2.1 ⟨_, rfl, ?_⟩) h.1
  refine kJ0_getBytes_840e7_4 (by decide) (by decide) (fun h => absurd rfl h) (fun _ => ?_)
  refine kJ0_getBytes_840e7_8 (M_17 := aCp M w v 0 o cs.length) h.1 h.2.2.1 (Or.inr (Or.inl h.2.2.2.1)) h.2.2.2.1 hv ?_ ?_ ?_ ?_ ?_ ?_ ?_ ?_ (kJ0_getBytes_840e7_43 q)
  · rw [sl0 ro]; omega
  · omega
  · rw [sl0 ro]; exact ro
  · exact ⟨by omega, by omega⟩
  · omega
  · rw [sl0 ro]; omega
  · intro j hj
    rw [Nat.zero_add]
    exact h.bt (by omega)
  · rw [sl0 ro, hl, Int.toNat_natCast, Int.toNat_natCast]
theorem Row.app {v w : Nat} {bs cs : List Int} (h : Row M v bs) (g : Row M w cs) {M1 : Nat → Nat → Int} (e : ∀ j, M1 v j = if bs.length ≤ j ∧ j < bs.length + cs.length then M w (j - bs.length) else M v j) : Row M1 v (bs ++ cs) := by
  intro i x hx
  rw [e i]
  by_cases hi : i < bs.length
  · rw [List.getElem?_append_left hi] at hx
    rw [if_neg (by omega)]
    exact h i x hx
  · rw [List.getElem?_append_right (by omega)] at hx
    have hl := (List.getElem?_eq_some_iff.mp hx).1
    rw [if_pos ⟨by omega, by omega⟩]
    exact g _ x hx
set_option maxHeartbeats 1000000 in
theorem jApp {sb v b w : Nat} {bs cs : List Int} (e2 : E 2 = J 1) (hM : RM M) (hS : Sb S M sb v bs) (hT : Str S M b w cs) (hw : w ≠ v) (hl : bs.length + cs.length ≤ 4000) (hd : 5 ≤ d)
    (q : ∀ S' M' v', Ap S M sb v S' M' v' → Sb S' M' sb v' (bs ++ cs) → Q (some (some (.ref sb))) S' (mI M')) :
    X E d fJ4_append_15ec4 0 [some (.ref sb), some (.ref b)] [] S (mI M) Q := by
  have hkd := hS.kd
  have hk := hS.1
  have hm := hS.2.1
  have hc := hS.2.2.1
  have hsx := hS.2.2.2.2.2.2.2.2.2.1
  have hvx := hS.2.2.2.2.2.2.2.2.2.2
  have hsv := hS.ne
  have hbx := hT.2.2.2.2.2.2.2.1
  have hwx := hT.2.2.2.2.2.2.2.2
  have hwl := hT.2.2.2.2.1
  have hbs : b ≠ sb := fun e => by
    have h1 := hT.1
    rw [e, hkd] at h1
    omega
  have hws : w ≠ sb := fun e => by
    have h1 := hT.2.2.2.1
    rw [e, hkd] at h1
    omega
  refine kJ4_append_15ec4_0 (by omega) (kJ5_append_cf1ce_0 (kJ5_append_cf1ce_9 (by omega) (jLen e2 hT (by omega) (by omega) ⟨_, rfl, ?_⟩) hT.1)) hkd
  refine kJ5_append_cf1ce_13 hkd (by omega) ?_
  rw [hc, show (bs.length : Int) + (cs.length : Int) = ((bs.length + cs.length : Nat) : Int) by omega]
  refine jEns hS hM (by omega) (by omega) (by omega) (fun S1 M1 v1 hx hz hE hM1 hfr hv1 h1 => ⟨_, rfl, ?_⟩)
  obtain ⟨hp1, hk1, hn1, hcap1, hbt1, hrow1, hvx1⟩ := h1
  have hks : aK S1 sb = 1 := (hE.2 sb hsx).1.trans hk
  have hksd : aKd S1 sb = 1 := by unfold aKd; rw [hks]
  have hT1 : Str S1 M1 b w cs := by
    refine ⟨(hE.kd hbx).trans hT.1, ?_, ?_, (hE.kd hwx).trans hT.2.2.2.1, (hE.2 w hwx).2.1.trans hwl, ?_, hT.2.2.2.2.2.2.1, by omega, by omega⟩
    · rw [hfr b hbx]; exact hT.2.1
    · rw [(hE.2 b hbx).2.2 hbs]; exact hT.2.2.1
    · intro i x hx
      rw [hfr w hwx]
      exact hT.2.2.2.2.2.1 i x hx
  have hm1 : M1 sb 1 = 0 := by rw [hfr sb hsx]; exact hm
  have hc1 : M1 sb 3 = (bs.length : Int) := by rw [hfr sb hsx]; exact hc
  have hwv : w ≠ v1 := by
    rcases hv1 with h | h
    · rw [h]; exact hw
    · omega
  have hsv1 : sb ≠ v1 := fun e => by
    rw [e] at hks
    omega
  refine kJ5_append_cf1ce_24 hksd (by omega) ?_
  rw [hc1]
  refine kJ5_putStringAt_47b60_0 (by omega) (jInfl e2 hksd hm1 hT1.1 hT1.2.1 (by omega) ⟨_, rfl, ?_⟩) hksd
  refine kJ5_putStringAt_47b60_5 hksd hp1 (by omega) ?_ hT1.1
  rw [hm1]
  refine jGet e2 hT1 hk1 (by omega) (by omega) (by omega) ⟨_, rfl, kJ5_putStringAt_47b60_18 ⟨_, rfl, ?_⟩⟩
  refine kJ5_append_cf1ce_33 hksd hks ⟨_, rfl, kJ4_append_15ec4_5 ?_⟩
  rw [aCp_ne hsv1, hc1, nz_eq ⟨by omega, by omega⟩]
  have hrow : ∀ j, mW (aCp M1 w v1 0 bs.length cs.length) sb 3 ((bs.length : Int) + (cs.length : Int)) v1 j = if bs.length ≤ j ∧ j < bs.length + cs.length then M1 w (j - bs.length) else M1 v1 j := fun j => by
    rw [mW_ne (Ne.symm hsv1), aCp_row]
  refine q S1 _ v1 ⟨⟨hx.1, hx.2, hz⟩, hE, (hM1.cp).w ⟨by omega, by omega⟩, fun x hx' h2 h3 => ?_, hv1⟩ ⟨hks, ?_, ?_, hp1, hk1, ?_, ?_, fun j => ?_, hrow1.app hT1.2.2.2.2.2.1 hrow, by omega, hvx1⟩
  · rw [mW_ne h2, aCp_ne, hfr x hx']
    rcases hv1 with h | h
    · rw [h]; exact h3
    · omega
  · rw [mW_ne2 (Or.inr (by decide)), aCp_ne hsv1]; exact hm1
  · rw [mW_get, if_pos ⟨rfl, rfl⟩, List.length_append]; omega
  · rw [List.length_append]; omega
  · rw [List.length_append]; omega
  · rw [hrow j]
    split
    · exact hT1.bt (by omega)
    · exact hbt1 j
/-- a number below a thousand in digits -/
def dg (n : Nat) : List Int := if n < 10 then [48 + n] else if n < 100 then [48 + n / 10, 48 + n % 10] else [48 + n / 100, 48 + n / 10 % 10, 48 + n % 10]
def dl (n : Nat) : Nat := if n < 10 then 1 else if n < 100 then 2 else 3
theorem dg_len {n : Nat} : (dg n).length = dl n := by
  unfold dg dl
  split
  · rfl
  · split
    · rfl
    · rfl
theorem dl_le {n : Nat} : 1 ≤ dl n ∧ dl n ≤ 3 := by
  unfold dl
  split
  · omega
  · split
    · omega
    · omega
theorem jSize {n : Nat} (hn : n < 1000) (q : Q (some (some (J (dl n : Int)))) S (mI M)) : X E d fJ6_stringSize_0f7a4 0 [some (J (n : Int)), none, none, none] [] S (mI M) Q := by
  refine kJ6_stringSize_0f7a4_0 ⟨by omega, by omega⟩ (fun h => absurd h (by omega)) (fun _ => kJ6_stringSize_0f7a4_6 (kJ6_stringSize_0f7a4_11 ?_))
  unfold dl at q
  refine kJ6_stringSize_0f7a4_16 (by decide) (fun h => absurd h (by decide)) (fun _ => kJ6_stringSize_0f7a4_22 ⟨by omega, by omega⟩ (by decide) (fun h => ?_) (fun h => ?_))
  · refine kJ6_stringSize_0f7a4_31 (kJ6_stringSize_0f7a4_16 (by decide) (fun h => absurd h (by decide)) (fun _ => kJ6_stringSize_0f7a4_22 ⟨by omega, by omega⟩ (by decide) (fun h => ?_) (fun h => ?_)))
    · refine kJ6_stringSize_0f7a4_31 (kJ6_stringSize_0f7a4_16 (by decide) (fun h => absurd h (by decide)) (fun _ => kJ6_stringSize_0f7a4_22 ⟨by omega, by omega⟩ (by decide) (fun h => absurd h (by omega)) (fun _ => ?_)))
      rw [if_neg (by omega), if_neg (by omega)] at q
      exact kJ6_stringSize_0f7a4_27 q
    · rw [if_neg (by omega), if_pos (by omega)] at q
      exact kJ6_stringSize_0f7a4_27 q
  · rw [if_pos (by omega)] at q
    exact kJ6_stringSize_0f7a4_27 q
/-- the tables of digits -/
abbrev Dt (E : Nat → Value) (S : aS) (M : Nat → Nat → Int) (bo bt : Nat) : Prop := E 14 = .ref bo ∧ E 15 = .ref bt ∧ aKd S bo = 101 ∧ aKd S bt = 101 ∧ aN S bo = 100 ∧ aN S bt = 100 ∧ (∀ r : Nat, r < 100 → M bo r = ((48 + r % 10 : Nat) : Int) ∧ M bt r = ((48 + r / 10 : Nat) : Int)) ∧ bo < aX S ∧ bt < aX S
end JE
