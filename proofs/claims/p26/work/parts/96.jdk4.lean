/-! the string of a builder; a sign of a string, and where it stands -/
section JG
variable {E : Nat → Value} {d : Nat} {S S' : aS} {M M' : Nat → Nat → Int} {Q : Option (Option Value) → aS → aI → Prop}
theorem Row.bt {v : Nat} {bs : List Int} (h : Row M v bs) (hb : ∀ j, Bt (M v j)) : ∀ x, x ∈ bs → Bt x := fun x hx => by
  obtain ⟨i, hi⟩ := List.getElem?_of_mem hx
  rw [← h i x hi]
  exact hb i
/-- the bytes up to a length, in an array of their own -/
theorem jCpR {v n : Nat} {bs : List Int} (hM : RM M) (hv : aK S v = 101) (hn : n ≤ aN S v) (hm : aN S v ≤ 100000) (hb : ∀ j, Bt (M v j)) (hr : Row M v bs) (hl : bs.length = n) (hx : v < aX S) (hd : 3 ≤ d)
    (q : ∀ S' M', S' = aNew S 101 n n → RM M' → (∀ x, x < aX S → M' x = M x) → Row M' (aX S) bs → Q (some (some (.ref (aX S)))) S' (mI M')) :
    X E d fJ7_copyOfRange_39247 0 [some (.ref v), some (J 0), some (J (n : Int))] [] S (mI M) Q := by
  have hvd : aKd S v = 101 := by unfold aKd; rw [hv]
  refine kJ7_copyOfRange_39247_0 (by decide) (fun h => absurd rfl h) (fun _ => ?_)
  refine kJ7_copyOfRange_39247_4 (Or.inr (Or.inl hvd)) ⟨by omega, by omega⟩ ⟨by omega, by omega⟩ (fun h => ?_) (fun h => ?_)
  · have hn' : n = aN S v := by omega
    subst hn'
    refine kJ7_copyOfRange_39247_17 hv (fun j _ => hb j) aNew_K (q _ _ rfl ?_ (fun x hx' => aU_ne _ _ (Nat.ne_of_lt hx')) (fun i x h => ?_))
    · intro a k
      unfold aU
      split
      · exact hM _ _
      · exact hM _ _
    · rw [aU_self]
      exact hr i x h
  · have kv : aKd (aNew S 101 n n) v = 101 := by unfold aKd; rw [nK_lt hx, hv]
    have nv : aN (aNew S 101 n n) v = aN S v := nN_lt hx
    have nx : aN (aNew S 101 n n) (aX S) = n := aNew_N
    have hmin : min ((aN S v : Int) - 0) ((n : Int) - 0) = (n : Int) := by omega
    have e0 : ((n : Int) - 0).toNat = n := by omega
    refine kJ7_copyOfRange_39247_10 (by omega) (kJ7_copyOfRangeByte_39247_0 (by omega) (kJ7_checkLength_df160_0 ⟨by omega, by omega⟩ (by decide) (fun _ => kJ7_checkLength_df160_37 ⟨_, rfl, ?_⟩) (fun h => absurd h (by omega))))
    refine kJ7_copyOfRangeByte_39247_5 (M_14 := aCp (aU M (aX S) (fun _ => 0)) v (aX S) 0 0 n) ⟨by omega, by omega⟩ ?_ ?_ ⟨by omega, by omega⟩ ?_ ?_ (by decide) ?_ (by decide) ?_ ?_ ?_ ?_ ?_ ⟨_, rfl, kJ7_copyOfRange_39247_16 ?_⟩
    all_goals rw [e0]
    · exact Or.inr (Or.inl kv)
    · rw [nv]; exact ⟨by omega, by omega⟩
    · exact kv
    · exact aNew_K
    · rw [nv]; omega
    · rw [nv]; exact ⟨by omega, by omega⟩
    · rw [nv]; omega
    · rw [nv, nx]; omega
    · intro j _
      rw [aU_ne _ _ (Nat.ne_of_lt hx)]
      exact hb _
    · rw [nv, hmin, Int.toNat_natCast]; rfl
    · refine q _ _ rfl (RM.cp (RM.nw hM)) (fun x hx' => ?_) (fun i x h => ?_)
      · rw [aCp_ne (Nat.ne_of_lt hx'), aU_ne _ _ (Nat.ne_of_lt hx')]
      · have hi := (List.getElem?_eq_some_iff.mp h).1
        rw [aCp_row, if_pos ⟨Nat.zero_le _, by omega⟩, Nat.sub_zero, aU_ne _ _ (Nat.ne_of_lt hx)]
        exact hr i x h
set_option maxHeartbeats 1000000 in
theorem jStr {sb v : Nat} {bs : List Int} (e2 : E 2 = J 1) (hM : RM M) (hS : Sb S M sb v bs) (hl : bs.length ≤ 4000) (hd : 7 ≤ d)
    (q : ∀ S' M', aX S' = aX S + 2 → aZ S' ≤ aZ S + 4004 → aExt S S' → RM M' → (∀ x, x < aX S → M' x = M x) → Str S' M' (aX S) (aX S + 1) bs → Q (some (some (.ref (aX S)))) S' (mI M')) :
    X E d fJ4_toString_0e30d 0 [some (.ref sb)] [] S (mI M) Q := by
  obtain ⟨hk, hm, hc, hp, hv, hl1, hcap, hbt, hrow, hsx, hvx⟩ := hS
  obtain ⟨S1, e1⟩ : ∃ x, aNew S 0 4 4 = x := ⟨_, rfl⟩
  have hks : aK S1 sb = 1 := by rw [← e1]; exact (nK_lt hsx).trans hk
  have hkd : aKd S1 sb = 1 := by unfold aKd; rw [hks]
  have hp1 : aP S1 sb 0 = some v := by rw [← e1, nP_lt hsx]; exact hp
  have hv1 : aK S1 v = 101 := by rw [← e1]; exact (nK_lt hvx).trans hv
  have hn1 : aN S1 v = aN S v := by rw [← e1]; exact nN_lt hvx
  have hx1 : aX S1 = aX S + 1 := by rw [← e1]; rfl
  have hz1 : aZ S1 = aZ S + 4 := by rw [← e1]; rfl
  have hkx : aK S1 (aX S) = 0 := by rw [← e1]; exact aNew_K
  have hE1 : aExt S S1 := by rw [← e1]; exact aExt.new _ _ _ _
  obtain ⟨M1, f1⟩ : ∃ x, mW (aU M (aX S) (fun _ => 0)) (aX S) 1 0 = x := ⟨_, rfl⟩
  have hfr1 : ∀ x, x < aX S → M1 x = M x := fun x hx => by
    rw [← f1, mW_ne (Nat.ne_of_lt hx), aU_ne _ _ (Nat.ne_of_lt hx)]
  have hfr0 : ∀ x, x < aX S → aU M (aX S) (fun _ => 0) x = M x := fun x hx => aU_ne _ _ (Nat.ne_of_lt hx)
  have hM1 : RM M1 := by rw [← f1]; exact (RM.nw hM).w (by decide)
  have hc1 : M1 (aX S) 1 = 0 := by rw [← f1, mW_get, if_pos ⟨rfl, rfl⟩]
  refine kJ4_toString_0e30d_0 (by omega) (kJ0_init_81219_0 (by omega) ?_)
  rw [e1]
  refine kJ0_init_db425_0 (by omega) (kJ5_getValue_6d5f1_0 hkd hp1 ⟨_, rfl, ?_⟩) hkd
  refine kJ0_init_db425_8 (by omega) (kJ4_length_8abf5_0 (by omega) (kJ5_length_8abf5_0 hkd ⟨_, rfl, kJ4_length_8abf5_4 ⟨_, rfl, ?_⟩⟩) hkd) hkd
  rw [hfr0 sb hsx, hc]
  refine kJ0_init_db425_13 (by omega) (jLatB e2 hkd (by rw [hfr0 sb hsx]; exact hm) ⟨_, rfl, ?_⟩) hkd
  refine kJ0_init_db425_19 (by decide) (fun h => absurd h (by decide)) (fun _ => ?_)
  refine kJ0_init_db425_22 hkx (by omega) ?_
  rw [f1]
  refine jCpR hM1 hv1 (by omega) (by omega) (fun j => by rw [hfr1 v hvx]; exact hbt j) (fun i x h => by rw [hfr1 v hvx]; exact hrow i x h) rfl (by omega) (by omega) (fun S2 M2 e3 hM2 hfr2 hr2 => ⟨_, rfl, ?_⟩)
  have hk2 : aK S2 (aX S) = 0 := by rw [e3]; exact (nK_lt (by omega)).trans hkx
  refine kJ0_init_db425_35 hk2 (kJ0_init_db425_97 ⟨_, rfl, kJ0_init_81219_6 ⟨_, rfl, kJ4_toString_0e30d_8 ?_⟩⟩)
  have hne : aX S1 ≠ aX S := by omega
  refine q _ M2 ?_ ?_ ?_ hM2 (fun x hx => (hfr2 x (by omega)).trans (hfr1 x hx)) ⟨?_, ?_, ?_, ?_, ?_, ?_, hrow.bt hbt, ?_, ?_⟩
  · rw [e3]
    show aX S1 + 1 = _
    omega
  · rw [e3]
    show aZ S1 + bs.length ≤ _
    omega
  · rw [e3]
    exact (hE1.trans (aExt.new _ _ _ _)).put (Nat.le_refl _)
  · show aKd S2 (aX S) = 0
    unfold aKd
    rw [hk2]
  · rw [hfr2 _ (by omega)]
    exact hc1
  · rw [aPut_self, hx1]
  · show aKd S2 (aX S + 1) = 101
    unfold aKd
    rw [e3, ← hx1, aNew_K]
  · show aN S2 (aX S + 1) = _
    rw [e3, ← hx1, aNew_N]
  · rw [← hx1]
    exact hr2
  · rw [e3]
    show aX S < aX S1 + 1
    omega
  · rw [e3]
    show aX S + 1 < aX S1 + 1
    omega
theorem ch255 : ∀ n : Nat, n < 128 → ((Int32.ofInt ((Int32.ofInt (n : Int) &&& Int32.ofInt 255).toInt)).toUInt32 % 65536).toInt32.toInt = (n : Int) := by decide +kernel
theorem chN {x : Int} (h0 : 0 ≤ x) (h1 : x < 128) : narrow .char (J x) = J x := by
  obtain ⟨n, rfl⟩ := Int.eq_ofNat_of_zero_le h0
  have h : ∀ n : Nat, n < 128 → narrow .char (J (n : Int)) = J (n : Int) := by decide +kernel
  exact h n (by omega)
/-- a reference or null -/
def rf3 (b : Nat) : Value := match b with
  | 0 => .null
  | n + 1 => .ref n
theorem kJ0_checkIndex_df160_0n {x0 : Int} {x1 : Int} (e2 : E 3 = .null) (hd1 : 1 ≤ d) (k : X E (d - 1) fJ3_checkIndex_8e157 0 [some (J x0), some (J x1), some .null] [] S (mI M) (Kr E d fJ0_checkIndex_df160 8 [some (J x0), some (J x1)] [] Q)) : X E d fJ0_checkIndex_df160 0 [some (J x0), some (J x1)] [] S (mI M) Q := by
  refine X_iload_n 1 (by decide +kernel : decode cJ0_checkIndex_df160 0 = .ok (.iload_n 0, 1)) rfl rfl rfl ?_
  refine X_iload_n 2 (by decide +kernel : decode cJ0_checkIndex_df160 1 = .ok (.iload_n 1, 1)) rfl rfl rfl ?_
  refine X_getst 5 (by decide +kernel : decode cJ0_checkIndex_df160 2 = .ok (.getstatic 1053, 3)) rfl rfl rfl e2 ?_
  exact X_cs (as := [.null, J x1, J x0]) (rest := []) (by decide +kernel : decode cJ0_checkIndex_df160 5 = .ok (.invokestatic 1059, 3)) rfl rfl rfl rfl rfl rfl rfl (Nat.le_of_ble_eq_true rfl) hd1 k
theorem jChk {b3 : Nat} {x0 x1 : Int} (e3 : E 3 = rf3 b3) (h0 : 0 ≤ x0) (h1 : x0 < x1) (r0 : R32 x0) (r1 : R32 x1) (hd : 2 ≤ d) (q : Q (some none) S (mI M)) : X E d fJ0_checkIndex_df160 0 [some (J x0), some (J x1)] [] S (mI M) Q := by
  cases b3 with
  | zero => exact kJ0_checkIndex_df160_0n e3 (by omega) (kJ3_checkIndex_8e157_0 r0 (fun h => absurd h (by omega)) (fun _ => kJ3_checkIndex_8e157_4 r0 r1 (fun _ => kJ3_checkIndex_8e157_16 ⟨_, rfl, kJ0_checkIndex_df160_8 q⟩) (fun h => absurd h (by omega))))
  | succ n => exact kJ0_checkIndex_df160_0 e3 (by omega) (kJ3_checkIndex_8e157_0 r0 (fun h => absurd h (by omega)) (fun _ => kJ3_checkIndex_8e157_4 r0 r1 (fun _ => kJ3_checkIndex_8e157_16 ⟨_, rfl, kJ0_checkIndex_df160_8 q⟩) (fun h => absurd h (by omega))))
theorem jChar {b w b3 i : Nat} {cs : List Int} {x : Int} (e2 : E 2 = J 1) (e3 : E 3 = rf3 b3) (h : Str S M b w cs) (hx : cs[i]? = some x) (h0 : 0 ≤ x) (hl : cs.length ≤ 100000) (hd : 4 ≤ d)
    (q : Q (some (some (J x))) S (mI M)) : X E d fJ0_charAt_5068e 0 [some (.ref b), some (J (i : Int))] [] S (mI M) Q := by
  have hi := (List.getElem?_eq_some_iff.mp hx).1
  have hr := h.2.2.2.2.2.1 i x hx
  have hb := h.bt hi
  have hn := h.2.2.2.2.1
  rw [hr] at hb
  refine kJ0_charAt_5068e_0 (by omega) (jLat e2 h.1 h.2.1 ⟨_, rfl, ?_⟩) h.1
  refine kJ0_charAt_5068e_4 (by decide) (fun h => absurd h (by decide)) (fun _ => kJ0_charAt_5068e_7 h.1 h.2.2.1 (by omega) ?_)
  refine kJ1_charAt_3b067_0 (Or.inr (Or.inl h.2.2.2.1)) (by omega) (jChk e3 (by omega) (by omega) ⟨by omega, by omega⟩ ⟨by omega, by omega⟩ (by omega) ⟨_, rfl, ?_⟩)
  obtain ⟨n, rfl⟩ := Int.eq_ofNat_of_zero_le h0
  refine kJ1_charAt_3b067_6 h.2.2.2.1 ⟨by omega, by omega⟩ ⟨by omega, by omega⟩ ?_ ?_
  all_goals rw [Int.toNat_natCast, hr, ch255 n (by omega)]
  · exact chN (by omega) (by omega)
  · exact ⟨_, rfl, kJ0_charAt_5068e_15 (chN (by omega) (by omega)) q⟩
/-- where a sign stands first, counted from k; -1: nowhere -/
def fx : List Int → Int → Nat → Int
  | [], _, _ => -1
  | c :: l, x, k => if c = x then (k : Int) else fx l x (k + 1)
theorem i8N : ∀ n : Nat, n < 128 → (Int32.ofInt (n : Int)).toInt8.toInt32.toInt = (n : Int) := by decide +kernel
theorem jIdxL {b w : Nat} {cs : List Int} {x : Int} {o1 o2 : Option Value} (h : Str S M b w cs) (hl : cs.length ≤ 100000) (hx : R32 x) :
    ∀ (m i : Nat) (l : List Int), i + m = cs.length → cs.drop i = l → Q (some (some (J (fx l x i)))) S (mI M) →
    X E d fJ1_indexOfChar_4cfef 7 [some (.ref w), o1, o2, some (J (cs.length : Int)), some (J x), some (J (i : Int))] [] S (mI M) Q := by
  intro m
  have hn := h.2.2.2.2.1
  induction m with
  | zero =>
    intro i l hi hd q
    obtain rfl : i = cs.length := by omega
    rw [List.drop_length] at hd
    subst hd
    exact kJ1_indexOfChar_4cfef_7 ⟨by omega, by omega⟩ ⟨by omega, by omega⟩ (fun _ => kJ1_indexOfChar_4cfef_31 q) (fun h => absurd h (by omega))
  | succ m ih =>
    intro i l hi hd q
    have hlt : i < cs.length := by omega
    rw [List.drop_eq_getElem_cons hlt] at hd
    subst hd
    have hr := h.2.2.2.2.2.1 i _ (List.getElem?_eq_getElem hlt)
    have hb := h.bt hlt
    unfold fx at q
    refine kJ1_indexOfChar_4cfef_7 ⟨by omega, by omega⟩ ⟨by omega, by omega⟩ (fun h => absurd h (by omega)) (fun _ => ?_)
    refine kJ1_indexOfChar_4cfef_13 h.2.2.2.1 ⟨by omega, by omega⟩ ⟨by omega, by omega⟩ ?_ hx (fun g => ?_) (fun g => ?_)
    · rw [Int.toNat_natCast]; exact hb.r
    · rw [Int.toNat_natCast, hr] at g
      rw [if_neg g] at q
      exact kJ1_indexOfChar_4cfef_25 (ih (i + 1) _ (by omega) rfl q)
    · rw [Int.toNat_natCast, hr] at g
      rw [if_pos g] at q
      exact kJ1_indexOfChar_4cfef_22 q
theorem jIdx {b w n : Nat} {cs : List Int} (e2 : E 2 = J 1) (h : Str S M b w cs) (hn : n < 128) (hl : 1 ≤ cs.length ∧ cs.length ≤ 100000) (hd : 5 ≤ d)
    (q : Q (some (some (J (fx cs (n : Int) 0)))) S (mI M)) : X E d fJ0_indexOf_0f7a4 0 [some (.ref b), some (J (n : Int))] [] S (mI M) Q := by
  have hN := h.2.2.2.2.1
  have e1 : max (0 : Int) 0 = ((0 : Nat) : Int) := by omega
  have e3 : min (cs.length : Int) (aN S w : Int) = (cs.length : Int) := by omega
  refine kJ0_indexOf_0f7a4_0 (by omega) (kJ0_indexOf_7cf53_0 (by omega) (jLat e2 h.1 h.2.1 ⟨_, rfl, ?_⟩) h.1) h.1
  refine kJ0_indexOf_7cf53_4 (by decide) (fun h => absurd h (by decide)) (fun _ => kJ0_indexOf_7cf53_7 h.1 h.2.2.1 (by omega) (jLen e2 h (by omega) (by omega) ⟨_, rfl, ?_⟩))
  refine kJ0_indexOf_7cf53_17 (by omega) (kJ1_indexOf_4cfef_0 (by omega) (kJ1_canEncode_9a6ad_0 ⟨by omega, by omega⟩ (fun h => absurd h (by omega)) (fun _ => kJ1_canEncode_9a6ad_4 ⟨by omega, by omega⟩ (fun h => absurd h (by omega)) (fun _ => kJ1_canEncode_9a6ad_11 (kJ1_canEncode_9a6ad_16 rfl ⟨_, rfl, ?_⟩)))))
  refine kJ1_indexOf_4cfef_4 (by decide) (fun _ => ?_) (fun h => absurd h (by decide))
  refine kJ1_indexOf_4cfef_9 (by decide) (Or.inr (Or.inl h.2.2.2.1)) ⟨by omega, by omega⟩ ⟨by omega, by omega⟩ (by decide) (by rw [e3]; exact ⟨by omega, by omega⟩) (fun _ => ?_) (fun g => absurd g (by omega))
  rw [e3, e1]
  refine kJ1_indexOf_4cfef_29 (by omega) (kJ1_indexOfChar_4cfef_0 ?_)
  rw [i8N n hn]
  exact jIdxL h (by omega) ⟨by omega, by omega⟩ cs.length 0 cs (by omega) rfl ⟨_, rfl, kJ1_indexOf_4cfef_36 ⟨_, rfl, kJ0_indexOf_7cf53_20 (kJ0_indexOf_7cf53_36 ⟨_, rfl, kJ0_indexOf_0f7a4_6 q⟩)⟩⟩
end JG
