/-! grammar: orders, lines, all -/
section HA
variable {E : Nat → Value} {d : Nat} {S S' : aS} {M M' M0 M1 M00 : Nat → Nat → Int} {Q : Option (Option Value) → aS → aI → Prop} {cl c a : Nat} {K : Nat → Nat} {OL : List (Nat × Nat)} {OR : Orw} {s l o : Nat}
theorem Gi.fr (h : Gi cl K M0 M a OL) (ho : OrR cl M00 M0 (OR.length + 1) OR) (hb : Obg cl M0 OR.length s l o) : OrR cl M00 M (OR.length + 1) OR ∧ Obg cl M OR.length s l o ∧ M (cl + 52) = M0 (cl + 52) := by
  refine ⟨ho.fr h.2.2.1 h.2.2.2.1, ?_, h.2.2.1 _ (by omega) (by omega) (by omega) (by omega)⟩
  unfold Obg
  rw [h.2.2.1 (cl + 47) (by omega) (by omega) (by omega) (by omega), h.2.2.1 (cl + 48) (by omega) (by omega) (by omega) (by omega), h.2.2.1 (cl + 51) (by omega) (by omega) (by omega) (by omega)]
  exact hb
theorem gFin {tf tt : Nat} (hg : Gi cl K M M a OL) (ho : OrR cl M00 M (OR.length + 1) OR) (hb : Obg cl M OR.length s l o) (h52 : M (cl + 52) OR.length = (tf : Int)) (h53 : M (cl + 53) OR.length = (tt : Int)) : Gf cl K M00 M a OL (OR ++ [(s, l, o, tf, tt)]) := by
  refine ⟨hg, ?_, fun j r hr => ?_, ho.2.2.1, fun j hj => ho.2.2.2 j (by rw [List.length_append] at hj; exact hj)⟩
  · rw [List.length_append]; exact ho.1
  · by_cases c1 : j < OR.length
    · rw [List.getElem?_append_left c1] at hr
      exact ho.2.1 j r hr
    · rw [List.getElem?_append_right (by omega)] at hr
      have h2 : j - OR.length < 1 := (List.getElem?_eq_some_iff.mp hr).1
      obtain rfl : j = OR.length := by omega
      rw [Nat.sub_self] at hr
      have e : (s, l, o, tf, tt) = r := Option.some.inj hr
      subst e
      exact ⟨hb.1, hb.2.1, hb.2.2, h52, h53⟩
set_option maxHeartbeats 1000000 in
/-- the end of an order: its test, where one is told -/
theorem gTest {D e : Nat} {kt : List Nat} {opt : Nat → List (Nat × Nat)} {tf : Nat} {o1 : Option Value} (ht : Ps fX0_test [none] D e nO kt opt) (he : e ≤ 8) (hD : D + 1 ≤ d) (hd : 3 ≤ d)
    (hs : Gs cl c S K M) (hg : Gi cl K M M a OL) (ho : OrR cl M00 M (OR.length + 1) OR) (hb : Obg cl M OR.length s l o) (h52 : M (cl + 52) OR.length = (tf : Int)) (hr : OR.length < 20) (hc : a + kt.length ≤ c) (hA : At K a kt) (hn : nO (K (a + kt.length))) (hol : OL.length + (opt a).length ≤ 400)
    (q : ∀ M', Gs cl c S K M' → Gf cl K M00 M' (a + kt.length) (OL ++ opt a) (OR ++ [(s, l, o, tf, OL.length + (opt a).length)]) → Q (some none) S (mI M')) :
    X E d fX0_readOrder 57 [some (.ref (cl + 7)), o1, some (J (s : Int)), some (J (OR.length : Int))] [] S (mI M) Q := by
  have g7 : aKd S (cl + 7) = 2 := hs.1.kd (i := 7) rfl
  have g6 : aKd S (cl + 46) = 3 := hs.1.kd (i := 46) rfl
  have p71 : aP S (cl + 7) 1 = some (cl + 46) := hs.1.pp (i := 7) (j := 1) (x := 46) rfl rfl
  obtain ⟨p7, k53, n53⟩ := gEnd (A := 53) (F := 7) hs (Or.inr ⟨rfl, rfl⟩)
  refine kX0_readOrder_57 (by omega) ?_ g7
  refine ht E (d - 1) S M M _ cl c K a 0 OL hs hg (by omega) (by omega) hc hA hn hol (fun M2 h2 => ⟨_, rfl, ?_⟩)
  obtain ⟨o2, b2, f2⟩ := h2.fr ho hb
  refine kX0_readOrder_62 g7 p71 (by omega) (kX1_endTest_0 g6 p7 k53 ⟨by omega, by omega⟩ ⟨by omega, by omega⟩ ⟨_, rfl, kX0_readOrder_70 ?_⟩) g6
  have hol' : (OL ++ opt a).length ≤ 400 := by rw [List.length_append]; exact hol
  obtain ⟨s3, g3, o3, b3⟩ := gW (A := 53) hs h2 o2 b2 (Or.inr rfl) rfl hol'
  rw [Int.toNat_natCast, h2.2.2.2.2.1]
  refine q _ s3 (gFin g3 o3 b3 ?_ ?_)
  · rw [mW_ne (by omega), f2]; exact h52
  · rw [mW_eq, List.length_append]
set_option maxHeartbeats 1000000 in
/-- free and farm -/
theorem gOrd1 {D e b : Nat} {kb kt : List Nat} {opt : Nat → List (Nat × Nat)} (ht : Ps fX0_test [none] D e nO kt opt) (he : e ≤ 8) (hD : D + 1 ≤ d) (hd : 3 ≤ d) (hsrt : s = 12 ∨ s = 13)
    (hs : Gs cl c S K M) (h : Gf cl K M00 M a OL OR) (hb : b < cl) (hk : aKd S b = 100) (hnb : aN S b = kb.length) (hv : ∀ i k : Nat, kb[i]? = some k → M00 b i = (k : Int)) (hkl : kb.length ≤ 100) (hka : K a = s)
    (hr : OR.length < 20) (hc : a + kb.length + kt.length ≤ c) (hA : At K a kb) (hB : At K (a + kb.length) kt) (hn : nO (K (a + kb.length + kt.length))) (hkb1 : 1 ≤ kb.length) (hol : OL.length + (opt (a + kb.length)).length ≤ 400)
    (q : ∀ M', Gs cl c S K M' → Gf cl K M00 M' (a + kb.length + kt.length) (OL ++ opt (a + kb.length)) (OR ++ [(s, a, OL.length, OL.length, OL.length + (opt (a + kb.length)).length)]) → Q (some none) S (mI M')) :
    X E d fX0_readOrder 0 [some (.ref (cl + 7)), some (.ref b), none, none] [] S (mI M) Q := by
  have g7 : aKd S (cl + 7) = 2 := hs.1.kd (i := 7) rfl
  have g6 : aKd S (cl + 46) = 3 := hs.1.kd (i := 46) rfl
  have p71 : aP S (cl + 7) 1 = some (cl + 46) := hs.1.pp (i := 7) (j := 1) (x := 46) rfl rfl
  obtain ⟨p6, k52, n52⟩ := gEnd (A := 52) (F := 6) hs (Or.inl ⟨rfl, rfl⟩)
  have e4 := h.1.2.1.2.2
  rw [hka] at e4
  refine kX0_readOrder_0 g7 p71 (by omega) ?_ g6
  rw [e4]
  refine gBeg hs h hr (by omega) rfl h.1.2.1.2.1 (by omega) (by omega) (fun M1 s1 g1 o1 b1 => ⟨_, rfl, ?_⟩)
  have hv1 : ∀ i k : Nat, kb[i]? = some k → M1 b i = (k : Int) := fun i k hi => by rw [o1.2.2.1 b (by omega) (by omega)]; exact hv i k hi
  refine kX0_readOrder_17 (by omega) (kX0_needAll_0 (gAll s1 hb hk hnb hv1 hkl (by omega) kb.length 0 M1 (by omega) g1 (by omega) hA (fun M2 h2 => ⟨_, rfl, ?_⟩))) g7
  obtain ⟨o2, b2, f2⟩ := h2.fr o1 b1
  refine kX0_readOrder_23 ⟨by omega, by omega⟩ (fun _ => ?_) (fun h => absurd h (by omega))
  refine kX0_readOrder_34 g7 p71 (by omega) (kX1_endSum_0 g6 p6 k52 ⟨by omega, by omega⟩ ⟨by omega, by omega⟩ ⟨_, rfl, ?_⟩) g6
  obtain ⟨s3, g3, o3, b3⟩ := gW (A := 52) s1 h2 o2 b2 (Or.inl rfl) rfl (by omega)
  rw [Int.toNat_natCast, h2.2.2.2.2.1]
  refine kX0_readOrder_42 ⟨by omega, by omega⟩ (fun _ => ?_) (fun h => absurd h (by omega))
  exact gTest ht he hD hd s3 g3 o3 b3 mW_eq hr hc hB hn hol q
set_option maxHeartbeats 1000000 in
/-- mend, without a test and with one -/
theorem gOrd2 {D e De ee b : Nat} {kb ks kt : List Nat} {ops opt : Nat → List (Nat × Nat)} (hsm : Ps fX0_sum [none, none] De ee nS ks ops) (hee : ee ≤ 8) (hDe : De + 1 ≤ d) (ht : kt ≠ [] → Ps fX0_test [none] D e nO kt opt) (ht0 : kt = [] → ∀ a, opt a = []) (he : e ≤ 8) (hD : D + 1 ≤ d) (hd : 3 ≤ d)
    (hs : Gs cl c S K M) (h : Gf cl K M00 M a OL OR) (hb : b < cl) (hk : aKd S b = 100) (hnb : aN S b = kb.length) (hv : ∀ i k : Nat, kb[i]? = some k → M00 b i = (k : Int)) (hkl : kb.length ≤ 100) (hka : K a = 15)
    (hr : OR.length < 20) (hA : At K a kb) (hB : At K (a + kb.length) ks) (hkb1 : 1 ≤ kb.length)
    {a' : Nat} (ha' : a' = a + kb.length + ks.length + (if kt = [] then 0 else 1)) (hc : a' + kt.length ≤ c) (hw : kt ≠ [] → K (a + kb.length + ks.length) = 17) (hnw : kt = [] → nS (K (a + kb.length + ks.length)) ∧ K (a + kb.length + ks.length) ≠ 17) (hC : At K a' kt) (hn : nO (K (a' + kt.length))) (hol : OL.length + (ops (a + kb.length)).length + (opt a').length ≤ 400)
    (q : ∀ M', Gs cl c S K M' → Gf cl K M00 M' (a' + kt.length) (OL ++ ops (a + kb.length) ++ opt a') (OR ++ [(15, a, OL.length, OL.length + (ops (a + kb.length)).length, OL.length + (ops (a + kb.length)).length + (opt a').length)]) → Q (some none) S (mI M')) :
    X E d fX0_readOrder 0 [some (.ref (cl + 7)), some (.ref b), none, none] [] S (mI M) Q := by
  have g7 : aKd S (cl + 7) = 2 := hs.1.kd (i := 7) rfl
  have g6 : aKd S (cl + 46) = 3 := hs.1.kd (i := 46) rfl
  have p71 : aP S (cl + 7) 1 = some (cl + 46) := hs.1.pp (i := 7) (j := 1) (x := 46) rfl rfl
  obtain ⟨p6, k52, n52⟩ := gEnd (A := 52) (F := 6) hs (Or.inl ⟨rfl, rfl⟩)
  obtain ⟨p7, k53, n53⟩ := gEnd (A := 53) (F := 7) hs (Or.inr ⟨rfl, rfl⟩)
  have e4 := h.1.2.1.2.2
  rw [hka] at e4
  have hc0 : a + kb.length + ks.length ≤ c := by
    split at ha'
    · omega
    · omega
  refine kX0_readOrder_0 g7 p71 (by omega) ?_ g6
  rw [e4]
  refine gBeg (s := 15) hs h hr (by omega) rfl h.1.2.1.2.1 (by omega) (by omega) (fun M1 s1 g1 o1 b1 => ⟨_, rfl, ?_⟩)
  have hv1 : ∀ i k : Nat, kb[i]? = some k → M1 b i = (k : Int) := fun i k hi => by rw [o1.2.2.1 b (by omega) (by omega)]; exact hv i k hi
  refine kX0_readOrder_17 (by omega) (kX0_needAll_0 (gAll s1 hb hk hnb hv1 hkl (by omega) kb.length 0 M1 (by omega) g1 (by omega) hA (fun M2 h2 => ⟨_, rfl, ?_⟩))) g7
  refine kX0_readOrder_23 (by decide) (fun h => absurd rfl h) (fun _ => kX0_readOrder_29 (by omega) ?_ g7)
  refine hsm E (d - 1) S M2 M1 _ cl c K (a + kb.length) 0 OL s1 h2 (by omega) (by omega) hc0 hB ?_ (by omega) (fun M3 h3 => ⟨_, rfl, ?_⟩)
  · by_cases c1 : kt = []
    · exact (hnw c1).1
    · rw [hw c1]; exact ⟨⟨by decide, by decide⟩, by decide, by decide⟩
  obtain ⟨o3, b3, f3⟩ := h3.fr o1 b1
  refine kX0_readOrder_34 g7 p71 (by omega) (kX1_endSum_0 g6 p6 k52 ⟨by omega, by omega⟩ ⟨by omega, by omega⟩ ⟨_, rfl, ?_⟩) g6
  have hol' : (OL ++ ops (a + kb.length)).length ≤ 400 := by rw [List.length_append]; omega
  obtain ⟨s4, g4, o4, b4⟩ := gW (A := 52) s1 h3 o3 b3 (Or.inl rfl) rfl hol'
  rw [Int.toNat_natCast, h3.2.2.2.2.1]
  refine kX0_readOrder_42 (by decide) (fun h => absurd rfl h) (fun _ => ?_)
  have el : (OL ++ ops (a + kb.length)).length = OL.length + (ops (a + kb.length)).length := List.length_append
  by_cases c1 : kt = []
  · have ha0 : a' = a + kb.length + ks.length := by rw [if_pos c1] at ha'; exact ha'
    have hop := ht0 c1 a'
    refine kX0_readOrder_48 (by omega) (gAcc0 (k := 17) s4 g4 (hnw c1).2 (by decide) ⟨_, rfl, ?_⟩) g7
    refine kX0_readOrder_54 (by decide) (fun _ => ?_) (fun h => absurd rfl h)
    obtain ⟨s5, g5, o5, b5⟩ := gW (A := 53) s4 g4 o4 b4 (Or.inr rfl) rfl hol'
    refine kX0_readOrder_62 g7 p71 (by omega) (kX1_endTest_0 g6 p7 k53 ⟨by omega, by omega⟩ ⟨by omega, by omega⟩ ⟨_, rfl, kX0_readOrder_70 ?_⟩) g6
    rw [Int.toNat_natCast, g4.2.2.2.2.1]
    have fin := gFin (tf := OL.length + (ops (a + kb.length)).length) (tt := OL.length + (ops (a + kb.length)).length) g5 o5 b5 (by rw [mW_ne (by omega), mW_eq, el]) (by rw [mW_eq, el])
    have q0 := q _ s5
    rw [hop, c1, ha0] at q0
    exact q0 (by rw [List.append_nil]; exact fin)
  · have ha1 : a' = a + kb.length + ks.length + 1 := by rw [if_neg c1] at ha'; exact ha'
    have hkt := ht c1
    have hkl : 1 ≤ kt.length := by
      match kt, c1 with
      | x :: l, _ => exact Nat.succ_le_succ (Nat.zero_le _)
    refine kX0_readOrder_48 (by omega) (gAcc1 (k := 17) s4 g4 (by omega) (hw c1) (by omega) (fun M5 h5 => ⟨_, rfl, ?_⟩)) g7
    refine kX0_readOrder_54 (by decide) (fun h => absurd h (by decide)) (fun _ => ?_)
    obtain ⟨o5, b5, f5⟩ := h5.fr o4 b4
    have s5 : Gs cl c S K M5 := s4.re (h5.2.2.1 _ (by omega) (by omega) (by omega) (by omega))
    have g5 : Gi cl K M5 M5 (a + kb.length + ks.length + 1) (OL ++ ops (a + kb.length)) := h5.re h5.1 rfl rfl rfl rfl
    refine gTest (tf := OL.length + (ops (a + kb.length)).length) hkt he hD hd s5 g5 o5 b5 ?_ hr (by omega) (by rw [← ha1]; exact hC) (by rw [← ha1]; exact hn) (by rw [el, ← ha1]; omega) (fun M' hs' hg' => q M' hs' ?_)
    · rw [f5, mW_eq, el]
    · rw [← ha1, el] at hg'
      exact hg'
end HA
