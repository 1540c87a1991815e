/-! text: strings and their builder, Latin-1 -/
section JD
variable {E : Nat → Value} {d : Nat} {S S' : aS} {M M' : Nat → Nat → Int} {Q : Option (Option Value) → aS → aI → Prop}
abbrev Bt (x : Int) : Prop := -128 ≤ x ∧ x ≤ 127
theorem Bt.r {x : Int} (h : Bt x) : R32 x := ⟨by omega, by omega⟩
theorem sh0 {x : Int} (h : R32 x) : (Int32.ofInt x >>> (Int32.ofInt 0 &&& 31)).toInt = x := by
  rw [show Int32.ofInt 0 &&& 31 = 0 by decide, Int32.shiftRight_zero]
  exact ofI h
theorem sl0 {x : Int} (h : R32 x) : (Int32.ofInt x <<< (Int32.ofInt 0 &&& 31)).toInt = x := by
  rw [show Int32.ofInt 0 &&& 31 = 0 by decide, Int32.shiftLeft_zero]
  exact ofI h
theorem aCp_row {w v o n j : Nat} : aCp M w v 0 o n v j = if o ≤ j ∧ j < o + n then M w (j - o) else M v j := by
  unfold aCp
  rw [aU_self]
  unfold va_cpy
  by_cases h : o ≤ j ∧ j < o + n
  · rw [if_pos h, if_pos h, Nat.zero_add]
  · rw [if_neg h, if_neg h]
def Row (M : Nat → Nat → Int) (v : Nat) (bs : List Int) : Prop := ∀ i x, bs[i]? = some x → M v i = x
/-- a string of these bytes: its cell, its array -/
def Str (S : aS) (M : Nat → Nat → Int) (b w : Nat) (cs : List Int) : Prop := aKd S b = 0 ∧ M b 1 = 0 ∧ aP S b 0 = some w ∧ aKd S w = 101 ∧ aN S w = cs.length ∧ Row M w cs ∧ (∀ x, x ∈ cs → Bt x) ∧ b < aX S ∧ w < aX S
/-- a builder that holds these bytes: its cell, its array -/
def Sb (S : aS) (M : Nat → Nat → Int) (sb v : Nat) (bs : List Int) : Prop := aK S sb = 1 ∧ M sb 1 = 0 ∧ M sb 3 = (bs.length : Int) ∧ aP S sb 0 = some v ∧ aK S v = 101 ∧ bs.length ≤ aN S v ∧ aN S v ≤ 2 * bs.length + 18 ∧ (∀ j, Bt (M v j)) ∧ Row M v bs ∧ sb < aX S ∧ v < aX S
theorem Sb.kd {sb v : Nat} {bs : List Int} (h : Sb S M sb v bs) : aKd S sb = 1 := by unfold aKd; rw [h.1]
theorem Sb.vd {sb v : Nat} {bs : List Int} (h : Sb S M sb v bs) : aKd S v = 101 := by unfold aKd; rw [h.2.2.2.2.1]
theorem Sb.ne {sb v : Nat} {bs : List Int} (h : Sb S M sb v bs) : sb ≠ v := fun e => by
  have h1 := h.1
  have h2 := h.2.2.2.2.1
  rw [e] at h1
  omega
theorem Str.bt {b w : Nat} {cs : List Int} (h : Str S M b w cs) {j : Nat} (hj : j < cs.length) : Bt (M w j) := by
  have e : cs[j]? = some cs[j] := List.getElem?_eq_getElem hj
  rw [h.2.2.2.2.2.1 j _ e]
  exact h.2.2.2.2.2.2.1 _ (List.getElem_mem hj)
theorem jCoder {b : Nat} (e2 : E 2 = J 1) (hk : aKd S b = 0) (hm : M b 1 = 0) (q : Q (some (some (J 0))) S (mI M)) : X E d fJ0_coder_7d493 0 [some (.ref b)] [] S (mI M) Q := by
  refine kJ0_coder_7d493_0 e2 (by decide) (fun h => absurd h (by decide)) (fun _ => kJ0_coder_7d493_6 hk ?_)
  rw [hm]
  exact kJ0_coder_7d493_14 rfl q
theorem jLat {b : Nat} (e2 : E 2 = J 1) (hk : aKd S b = 0) (hm : M b 1 = 0) (q : Q (some (some (J 1))) S (mI M)) : X E d fJ0_isLatin1_aae02 0 [some (.ref b)] [] S (mI M) Q := by
  refine kJ0_isLatin1_aae02_0 e2 (by decide) (fun h => absurd h (by decide)) (fun _ => kJ0_isLatin1_aae02_6 hk (by rw [hm]; decide) (fun h => absurd hm h) (fun _ => kJ0_isLatin1_aae02_13 (kJ0_isLatin1_aae02_18 rfl q)))
theorem jLatB {sb : Nat} (e2 : E 2 = J 1) (hk : aKd S sb = 1) (hm : M sb 1 = 0) (q : Q (some (some (J 1))) S (mI M)) : X E d fJ5_isLatin1_aae02 0 [some (.ref sb)] [] S (mI M) Q := by
  refine kJ5_isLatin1_aae02_0 e2 (by decide) (fun h => absurd h (by decide)) (fun _ => kJ5_isLatin1_aae02_6 hk (by rw [hm]; decide) (fun h => absurd hm h) (fun _ => kJ5_isLatin1_aae02_13 (kJ5_isLatin1_aae02_18 rfl q)))
theorem jLen {b w : Nat} {cs : List Int} (e2 : E 2 = J 1) (h : Str S M b w cs) (hr : cs.length ≤ 100000) (hd : 1 ≤ d) (q : Q (some (some (J (cs.length : Int)))) S (mI M)) : X E d fJ0_length_8abf5 0 [some (.ref b)] [] S (mI M) Q := by
  refine kJ0_length_8abf5_0 h.1 h.2.2.1 (Or.inr (Or.inl h.2.2.2.1)) hd (jCoder e2 h.1 h.2.1 ⟨_, rfl, ?_⟩)
  refine kJ0_length_8abf5_9 ?_
  rw [h.2.2.2.2.1, sh0 ⟨by omega, by omega⟩]
  exact q
set_option maxHeartbeats 1000000 in
theorem jEns {sb v mn : Nat} {bs : List Int} (hS : Sb S M sb v bs) (hM : RM M) (h1 : bs.length ≤ mn) (h2 : mn ≤ 4000) (hd : 2 ≤ d)
    (q : ∀ S' M' v', aX S ≤ aX S' ∧ aX S' ≤ aX S + 1 → aZ S' ≤ aZ S + 8002 → aE sb S S' → RM M' → (∀ x, x < aX S → M' x = M x) → (v' = v ∨ aX S ≤ v') → (aP S' sb 0 = some v' ∧ aK S' v' = 101 ∧ mn ≤ aN S' v' ∧ aN S' v' ≤ 2 * mn + 18 ∧ (∀ j, Bt (M' v' j)) ∧ Row M' v' bs ∧ v' < aX S') → Q (some none) S' (mI M')) :
    X E d fJ5_ensureCapacityInternal_d00df 0 [some (.ref sb), some (J (mn : Int)), none] [] S (mI M) Q := by
  have hkd := hS.kd
  have hvd := hS.vd
  obtain ⟨hk, hm, hc, hp, hv, hl, hcap, hbt, hrow, hsx, hvx⟩ := hS
  have r0 : R32 (aN S v : Int) := ⟨by omega, by omega⟩
  refine kJ5_ensureCapacityInternal_d00df_0 hkd hp (Or.inr (Or.inl hvd)) (by rw [hm, sh0 r0]; exact ⟨by omega, by omega⟩) (fun h => ?_) (fun h => ?_)
  · rw [hm, sh0 r0] at h
    refine kJ5_ensureCapacityInternal_d00df_38 (q S M v ⟨Nat.le_refl _, Nat.le_succ _⟩ (by omega) ⟨Nat.le_refl _, fun _ _ => ⟨rfl, rfl, fun _ => rfl⟩⟩ hM (fun _ _ => rfl) (Or.inl rfl) ⟨hp, hv, by omega, by omega, hbt, hrow, hvx⟩)
  · rw [hm, sh0 r0] at h
    refine kJ5_ensureCapacityInternal_d00df_17 hkd hp (by omega) ?_
    refine kJ5_newCapacity_0f7a4_0 hkd hp (Or.inr (Or.inl hvd)) (by omega) ?_
    rw [hm, sl0 ⟨by omega, by omega⟩, sl0 ⟨by omega, by omega⟩]
    obtain ⟨c, hc'⟩ : ∃ c : Nat, (aN S v : Int) + max ((mn : Int) - (aN S v : Int)) ((aN S v : Int) + 2) = (c : Int) := ⟨((aN S v : Int) + max ((mn : Int) - (aN S v : Int)) ((aN S v : Int) + 2)).toNat, by omega⟩
    have hcb : mn ≤ c ∧ c ≤ 2 * mn + 2 ∧ aN S v < c := by omega
    refine kJ8_newLength_cabcc_0 ⟨by omega, by omega⟩ ⟨by omega, by omega⟩ ⟨by omega, by omega⟩ (fun h => absurd h (by omega)) (fun _ => ?_)
    rw [hc']
    refine kJ8_newLength_cabcc_13 ⟨by omega, by omega⟩ (fun h => absurd h (by omega)) (fun _ => kJ8_newLength_cabcc_19 ⟨_, rfl, ?_⟩)
    refine kJ5_newCapacity_0f7a4_32 ⟨by omega, by omega⟩ (fun _ => ?_) (fun h => absurd h (by omega))
    have rc : R32 (c : Int) := ⟨by omega, by omega⟩
    refine kJ5_newCapacity_0f7a4_51 hkd ⟨_, rfl, ?_⟩
    rw [hm, sh0 rc]
    refine kJ5_ensureCapacityInternal_d00df_27 hkd (by omega) ?_
    rw [hm, sl0 rc]
    refine kJ7_copyOf_9075b_0 (Or.inr (Or.inl hvd)) ⟨by omega, by omega⟩ r0 (fun _ => ?_) (fun h => absurd h (by omega))
    have nv : aN (aNew S 101 c c) v = aN S v := nN_lt hvx
    have kv : aKd (aNew S 101 c c) v = 101 := by unfold aKd; rw [nK_lt hvx, hv]
    have nx : aN (aNew S 101 c c) (aX S) = c := aNew_N
    have hmin : min (aN S v : Int) (c : Int) = (aN S v : Int) := by omega
    refine kJ7_copyOf_9075b_14 (M_12 := aCp (aU M (aX S) (fun _ => 0)) v (aX S) 0 0 (aN S v)) ⟨by omega, by omega⟩ ?_ ?_ ⟨by omega, by omega⟩ ?_ ?_ ?_ ?_ ?_ ?_ ?_ ?_ ⟨_, rfl, ?_⟩
    all_goals rw [Int.toNat_natCast]
    · exact Or.inr (Or.inl kv)
    · rw [nv]; exact r0
    · exact kv
    · exact aNew_K
    · rw [nv]; omega
    · rw [nv, hmin]; exact r0
    · rw [nv]; omega
    · rw [nv, nx]; omega
    · intro j hj
      rw [aU_ne _ _ (Nat.ne_of_lt hvx)]
      exact hbt _
    · rw [nv, hmin, Int.toNat_natCast]
    · refine kJ5_ensureCapacityInternal_d00df_35 ((nK_lt hsx).trans hk) (kJ5_ensureCapacityInternal_d00df_38 ?_)
      have hr : ∀ j, aCp (aU M (aX S) (fun _ => 0)) v (aX S) 0 0 (aN S v) (aX S) j = if j < aN S v then M v j else 0 := fun j => by
        rw [aCp_row, aU_ne _ _ (Nat.ne_of_lt hvx), aU_self]
        by_cases g : j < aN S v
        · rw [if_pos g, if_pos ⟨Nat.zero_le _, by omega⟩]
          rfl
        · rw [if_neg g, if_neg (by omega)]
      refine q _ _ (aX S) ⟨Nat.le_succ _, Nat.le_refl _⟩ ?_ aE.step (RM.cp (RM.nw hM)) (fun x hx => ?_) (Or.inr (Nat.le_refl _)) ⟨aPut_self, (aNew_K : aK (aNew S 101 c c) (aX S) = 101), ?_, ?_, fun j => ?_, fun i x hx => ?_, Nat.lt_succ_self _⟩
      · show aZ S + c ≤ _
        omega
      · rw [aCp_ne (Nat.ne_of_lt hx), aU_ne _ _ (Nat.ne_of_lt hx)]
      · show mn ≤ aN (aNew S 101 c c) (aX S)
        omega
      · show aN (aNew S 101 c c) (aX S) ≤ _
        omega
      · rw [hr j]
        split
        · exact hbt j
        · exact ⟨by decide, by decide⟩
      · rw [hr i, if_pos]
        · exact hrow i x hx
        · have := (List.getElem?_eq_some_iff.mp hx).1
          omega
end JD
