/-! grammar: tests -/
section GY
theorem psTn {k : Nat} (hk : k = 25 ∨ k = 26) : Ps fX0_single [none, none] 2 0 nT [k, 47] (fun a => [(k, a + 1)]) := by
  intro E d S M M0 Q cl c K a dep OL hs h hd hdp hc hA hn ho q
  have g7 : aKd S (cl + 7) = 2 := hs.1.kd (i := 7) rfl
  have hM := h.1
  have hv := h.2.1
  have hka : K a = k := At.h0 hA
  have hc' : a + 2 ≤ c := hc
  have e4 := hv.2.2
  rw [hka] at e4
  have go : X E d fX0_single 118 [some (.ref (cl + 7)), some (J (dep : Int)), some (J (M (cl + 7) 4)), none] [] S (mI M) Q := by
    rw [e4]
    exact kX0_single_118 (by omega) (psNm hs h hka (At.h1 hA) hc' ho (by omega) (fun M2 h2 => ⟨_, rfl, kX0_single_123 (kX0_single_183 (q M2 h2))⟩)) g7
  refine kX0_single_0 g7 (hM _ _) (fun _ => ?_) (fun h => absurd hv.1 h)
  refine kX0_single_8 g7 (hM _ _) (fun h => ?_) (fun _ => go) (fun _ => go) (fun h => ?_) (fun h => ?_)
  all_goals exact absurd h (by omega)
theorem psTc {D e j x : Nat} {k1 k2 l1 : List Nat} {op1 op2 : Nat → List (Nat × Nat)} (hj : 42 ≤ j ∧ j ≤ 46) (h1s : Ps fX0_sum [none, none] D e nS k1 op1) (h2s : Ps fX0_sum [none, none] D e nS k2 op2) (hD : 1 ≤ D) (hf : k1 = x :: l1) (hx : x ≠ 25 ∧ x ≠ 26 ∧ x ≠ 27 ∧ x ≠ 34) :
    Ps fX0_single [none, none] (D + 1) e nS (k1 ++ j :: k2) (fun a => op1 a ++ (op2 (a + k1.length + 1) ++ [(j, 0)])) := by
  intro E d S M M0 Q cl c K a dep OL hs h hd hdp hc hA hn ho q
  have g7 : aKd S (cl + 7) = 2 := hs.1.kd (i := 7) rfl
  have g7k : aK S (cl + 7) = 2 := hs.1.kk (i := 7) rfl
  have g6 : aKd S (cl + 46) = 3 := hs.1.kd (i := 46) rfl
  have p71 : aP S (cl + 7) 1 = some (cl + 46) := hs.1.pp (i := 7) (j := 1) (x := 46) rfl rfl
  have hM := h.1
  have hv := h.2.1
  have hl : (k1 ++ j :: k2).length = k1.length + k2.length + 1 := by
    simp only [List.length_cons, List.length_append]; omega
  rw [hl] at hc q hn
  obtain ⟨t1, t2⟩ := At.app hA
  have hka : K a = x := by rw [hf] at t1; exact At.h0 t1
  have hkj : K (a + k1.length) = j := At.h0 t2
  have e4 := hv.2.2
  rw [hka] at e4
  have ho' : OL.length + (op1 a ++ (op2 (a + k1.length + 1) ++ [(j, 0)])).length ≤ 400 := ho
  rw [List.length_append, List.length_append] at ho'
  have ho2 : OL.length + ((op1 a).length + ((op2 (a + k1.length + 1)).length + 1)) ≤ 400 := ho'
  refine kX0_single_0 g7 (hM _ _) (fun _ => ?_) (fun h => absurd hv.1 h)
  refine kX0_single_8 g7 (hM _ _) (fun _ => ?_) (fun h => absurd h (by omega)) (fun h => absurd h (by omega)) (fun h => absurd h (by omega)) (fun h => absurd h (by omega))
  refine kX0_single_126 (by omega) ?_ g7
  refine h1s E (d - 1) S M M0 _ cl c K a dep OL hs h (by omega) (by omega) (by omega) t1 ?_ (by omega) (fun M1 h1 => ⟨_, rfl, ?_⟩)
  · rw [hkj]; exact ⟨⟨by omega, by omega⟩, by omega, by omega⟩
  have hv1 := h1.2.1
  have e41 := hv1.2.2
  rw [hkj] at e41
  refine kX0_single_131 g7 (h1.1 _ _) (fun h => absurd hv1.1 h) (fun _ => ?_)
  rw [e41]
  refine kX0_single_144 ⟨by omega, by omega⟩ (fun h => absurd h (by omega)) (fun _ => kX0_single_150 ⟨by omega, by omega⟩ (fun _ => kX0_single_160 ?_) (fun h => absurd h (by omega)))
  refine kX0_single_161 g7k rfl rfl (by omega) (gNeed hs (gWr h1) (by omega) (by rw [hkj]) (fun M2 h2 => ⟨_, rfl, ?_⟩)) g7
  refine kX0_single_169 (by omega) ?_ g7
  refine h2s E (d - 1) S M2 M0 _ cl c K (a + k1.length + 1) dep _ hs h2 (by omega) (by omega) (by omega) (At.tl t2) ?_ ?_ (fun M3 h3 => ⟨_, rfl, ?_⟩)
  · rw [show a + k1.length + 1 + k2.length = a + (k1.length + k2.length + 1) by omega]; exact hn
  · rw [List.length_append]; omega
  refine kX0_single_174 g7 p71 (by omega) (gEmit (k := j) (t := 0) hs h3 ?_ rfl rfl ⟨by omega, by omega⟩ (fun M4 h4 => ⟨_, rfl, kX0_single_183 (q M4 ?_)⟩)) g6
  · rw [List.length_append, List.length_append]; omega
  · refine h4.cs (by omega) ?_
    show OL ++ (op1 a ++ (op2 (a + k1.length + 1) ++ [(j, 0)])) = _
    rw [List.append_assoc, List.append_assoc]
theorem psTt {D e : Nat} {ks : List Nat} {nx : Nat → Prop} {op : Nat → List (Nat × Nat)} (h1s : Ps fX0_single [none, none] D e nx ks op) (hD : 1 ≤ D) :
    Ps fX0_single [none, none] (D + 1) (e + 1) nx (27 :: ks) (fun a => op (a + 1) ++ [(27, 0)]) := by
  intro E d S M M0 Q cl c K a dep OL hs h hd hdp hc hA hn ho q
  have g7 : aKd S (cl + 7) = 2 := hs.1.kd (i := 7) rfl
  have g6 : aKd S (cl + 46) = 3 := hs.1.kd (i := 46) rfl
  have p71 : aP S (cl + 7) 1 = some (cl + 46) := hs.1.pp (i := 7) (j := 1) (x := 46) rfl rfl
  have hM := h.1
  have hv := h.2.1
  rw [List.length_cons] at hc q hn
  have hka : K a = 27 := At.h0 hA
  have e4 := hv.2.2
  rw [hka] at e4
  have ho' : OL.length + (op (a + 1) ++ [(27, 0)]).length ≤ 400 := ho
  rw [List.length_append] at ho'
  have ho2 : OL.length + ((op (a + 1)).length + 1) ≤ 400 := ho'
  have go : X E d fX0_single 68 [some (.ref (cl + 7)), some (J (dep : Int)), some (J (M (cl + 7) 4)), none] [] S (mI M) Q := by
    refine kX0_single_68 (by omega) (gDeep hs h (by omega) (by rw [hka]; rfl) (by omega) (by omega) (fun M1 h1 => ⟨_, rfl, ?_⟩)) g7
    refine kX0_single_75 (by omega) ?_ g7
    rw [show (dep : Int) + 1 = ((dep + 1 : Nat) : Int) by omega]
    refine h1s E (d - 1) S M1 M0 _ cl c K (a + 1) (dep + 1) OL hs h1 (by omega) (by omega) (by omega) (At.tl hA) ?_ (by omega) (fun M2 h2 => ⟨_, rfl, ?_⟩)
    · rw [show a + 1 + ks.length = a + (ks.length + 1) by omega]; exact hn
    refine kX0_single_82 g7 p71 (by omega) (gEmit (k := 27) (t := 0) hs h2 ?_ rfl rfl ⟨by omega, by omega⟩ (fun M3 h3 => ⟨_, rfl, kX0_single_92 (kX0_single_183 (q M3 ?_))⟩)) g6
    · rw [List.length_append]; omega
    · exact h3.cs (by omega) (by rw [List.append_assoc])
  refine kX0_single_0 g7 (hM _ _) (fun _ => ?_) (fun h => absurd hv.1 h)
  refine kX0_single_8 g7 (hM _ _) (fun h => ?_) (fun h => ?_) (fun h => ?_) (fun _ => go) (fun h => ?_)
  all_goals exact absurd h (by omega)
theorem psTb {D e : Nat} {ks : List Nat} {op : Nat → List (Nat × Nat)} (h1s : Ps fX0_test [none] D e nO ks op) (hD : 1 ≤ D) :
    Ps fX0_single [none, none] (D + 1) (e + 1) nT (34 :: (ks ++ [35])) (fun a => op (a + 1)) := by
  intro E d S M M0 Q cl c K a dep OL hs h hd hdp hc hA hn ho q
  have g7 : aKd S (cl + 7) = 2 := hs.1.kd (i := 7) rfl
  have hM := h.1
  have hv := h.2.1
  have hl : (34 :: (ks ++ [35])).length = ks.length + 2 := by simp only [List.length_cons, List.length_append, List.length_nil]
  rw [hl] at hc q
  have hka : K a = 34 := At.h0 hA
  have e4 := hv.2.2
  rw [hka] at e4
  obtain ⟨t1, t2⟩ := At.app (At.tl hA)
  have go : X E d fX0_single 95 [some (.ref (cl + 7)), some (J (dep : Int)), some (J (M (cl + 7) 4)), none] [] S (mI M) Q := by
    refine kX0_single_95 (by omega) (gDeep hs h (by omega) (by rw [hka]; rfl) (by omega) (by omega) (fun M1 h1 => ⟨_, rfl, ?_⟩)) g7
    refine kX0_single_102 (by omega) ?_ g7
    rw [show (dep : Int) + 1 = ((dep + 1 : Nat) : Int) by omega]
    refine h1s E (d - 1) S M1 M0 _ cl c K (a + 1) (dep + 1) OL hs h1 (by omega) (by omega) (by omega) t1 ?_ ho (fun M2 h2 => ⟨_, rfl, ?_⟩)
    · rw [At.h0 t2]; exact ⟨⟨⟨⟨by decide, by decide⟩, by decide, by decide⟩, by decide⟩, by decide⟩
    exact kX0_single_109 (by omega) (gNeed hs h2 (by omega) (by rw [At.h0 t2]; rfl) (fun M3 h3 => ⟨_, rfl, kX0_single_115 (kX0_single_183 (q M3 (h3.cs (by omega) rfl)))⟩)) g7
  refine kX0_single_0 g7 (hM _ _) (fun _ => ?_) (fun h => absurd hv.1 h)
  refine kX0_single_8 g7 (hM _ _) (fun h => ?_) (fun h => ?_) (fun h => ?_) (fun h => ?_) (fun _ => go)
  all_goals exact absurd h (by omega)
def Lr (F : aF) (D e : Nat) (nx : Nat → Prop) (ks : List Nat) (op : Nat → List (Nat × Nat)) : Prop :=
  ∀ (E : Nat → Value) (d : Nat) (S : aS) (M M0 : Nat → Nat → Int) (Q : Option (Option Value) → aS → aI → Prop) (cl c : Nat) (K : Nat → Nat) (a dep : Nat) (OL : List (Nat × Nat)) (i : Nat),
    Gs cl c S K M0 → Gi cl K M0 M a OL → D ≤ d → dep + e ≤ 8 → a + ks.length ≤ c → At K a ks → nx (K (a + ks.length)) → OL.length + (op a).length ≤ 400 → i + ks.length < 400 →
    (∀ M', Gi cl K M0 M' (a + ks.length) (OL ++ op a) → Q (some none) S (mI M')) → X E d F 7 [some (.ref (cl + 7)), some (J (dep : Int)), some (J (i : Int))] [] S (mI M) Q
theorem Lr.mono {F : aF} {D D' e e' : Nat} {nx : Nat → Prop} {ks : List Nat} {op : Nat → List (Nat × Nat)} (h : Lr F D e nx ks op) (hD : D ≤ D') (he : e ≤ e') : Lr F D' e' nx ks op :=
  fun E d S M M0 Q cl c K a dep OL i hs g hd hdp => h E d S M M0 Q cl c K a dep OL i hs g (Nat.le_trans hD hd) (Nat.le_trans (Nat.add_le_add_left he dep) hdp)
theorem lrB0 : Lr fX0_both 1 0 nB [] (fun _ => []) := by
  intro E d S M M0 Q cl c K a dep OL i hs h hd hdp hc hA hn ho hi q
  have g7 : aKd S (cl + 7) = 2 := hs.1.kd (i := 7) rfl
  have hn' : K a ≠ 28 := hn.2
  have hi' : i < 400 := hi
  refine kX0_both_7 ⟨by omega, by omega⟩ (fun h => absurd h (by omega)) (fun _ => kX0_both_14 (by omega) (gAcc0 (k := 28) hs h hn' (by decide) ⟨_, rfl, ?_⟩) g7)
  exact kX0_both_20 (by decide) (fun _ => kX0_both_44 (q M (h.cs rfl (List.append_nil _)))) (fun h => absurd rfl h)
theorem lrB {D e e2 e3 : Nat} {ks kr : List Nat} {op opr : Nat → List (Nat × Nat)} {nx : Nat → Prop} (hv1 : Ps fX0_single [none, none] D e nx ks op) (hr : Lr fX0_both (D + 1) e2 nB kr opr) (he : e ≤ e3 ∧ e2 ≤ e3) (hD : 2 ≤ D) (hx : ∀ k, nB k ∨ k = 28 → nx k) (hk : ∀ x l, kr = x :: l → x = 28) :
    Lr fX0_both (D + 1) e3 nB (28 :: (ks ++ kr)) (fun a => op (a + 1) ++ ((28, 0) :: opr (a + 1 + ks.length))) := by
  intro E d S M M0 Q cl c K a dep OL i hs h hd hdp hc hA hn ho hi q
  have g7 : aKd S (cl + 7) = 2 := hs.1.kd (i := 7) rfl
  have g6 : aKd S (cl + 46) = 3 := hs.1.kd (i := 46) rfl
  have p71 : aP S (cl + 7) 1 = some (cl + 46) := hs.1.pp (i := 7) (j := 1) (x := 46) rfl rfl
  have hl : (28 :: (ks ++ kr)).length = ks.length + kr.length + 1 := by simp only [List.length_cons, List.length_append]
  rw [hl] at hc q hn hi
  have hka : K a = 28 := At.h0 hA
  obtain ⟨t1, t2⟩ := At.app (At.tl hA)
  have ho' : OL.length + (op (a + 1) ++ ((28, 0) :: opr (a + 1 + ks.length))).length ≤ 400 := ho
  rw [List.length_append, List.length_cons] at ho'
  have hnx : nx (K (a + 1 + ks.length)) := by
    match kr, hk, t2, hn with
    | [], _, _, hn =>
      have e0 : a + (ks.length + ([] : List Nat).length + 1) = a + 1 + ks.length := by show a + (ks.length + 0 + 1) = _; omega
      rw [e0] at hn
      exact hx _ (Or.inl hn)
    | x :: l, hk, t2, _ =>
      rw [At.h0 t2]
      exact hx _ (Or.inr (hk x l rfl))
  have hi' : i < 400 := by omega
  refine kX0_both_7 ⟨by omega, by omega⟩ (fun h => absurd h (by omega)) (fun _ => kX0_both_14 (by omega) (gAcc1 (k := 28) hs h (by omega) hka (by omega) (fun M1 h1 => ⟨_, rfl, ?_⟩)) g7)
  refine kX0_both_20 (by decide) (fun h => absurd h (by decide)) (fun _ => kX0_both_23 (by omega) ?_ g7)
  refine hv1 E (d - 1) S M1 M0 _ cl c K (a + 1) dep OL hs h1 (by omega) (by omega) (by omega) t1 hnx (by omega) (fun M2 h2 => ⟨_, rfl, ?_⟩)
  refine kX0_both_28 g7 p71 (by omega) (gEmit (k := 28) (t := 0) hs h2 (by rw [List.length_append]; omega) rfl rfl ⟨by omega, by omega⟩ (fun M3 h3 => ⟨_, rfl, kX0_both_38 ?_⟩)) g6
  rw [show (i : Int) + 1 = ((i + 1 : Nat) : Int) by omega]
  refine hr E d S M3 M0 Q cl c K (a + 1 + ks.length) dep _ (i + 1) hs h3 (by omega) (by omega) (by omega) t2 ?_ ?_ (by omega) (fun M4 h4 => q M4 ?_)
  · rw [show a + 1 + ks.length + kr.length = a + (ks.length + kr.length + 1) by omega]; exact hn
  · rw [List.length_append, List.length_append, List.length_singleton]; omega
  · refine h4.cs (by omega) ?_
    show OL ++ (op (a + 1) ++ ((28, 0) :: opr (a + 1 + ks.length))) = _
    rw [List.append_assoc, List.append_assoc]
    rfl
theorem psB {D e e2 e3 : Nat} {ks kr : List Nat} {op opr : Nat → List (Nat × Nat)} {nx : Nat → Prop} (hv1 : Ps fX0_single [none, none] D e nx ks op) (hr : Lr fX0_both (D + 1) e2 nB kr opr) (he : e ≤ e3 ∧ e2 ≤ e3) (hx : ∀ k, nB k ∨ k = 28 → nx k) (hk : ∀ x l, kr = x :: l → x = 28) :
    Ps fX0_both [none] (D + 1) e3 nB (ks ++ kr) (fun a => op a ++ opr (a + ks.length)) := by
  intro E d S M M0 Q cl c K a dep OL hs h hd hdp hc hA hn ho q
  have g7 : aKd S (cl + 7) = 2 := hs.1.kd (i := 7) rfl
  rw [List.length_append] at hc q hn
  obtain ⟨t1, t2⟩ := At.app hA
  have ho' : OL.length + (op a ++ opr (a + ks.length)).length ≤ 400 := ho
  rw [List.length_append] at ho'
  have hc4 := hs.2.2.1
  have hnx : nx (K (a + ks.length)) := by
    match kr, hk, t2, hn with
    | [], _, _, hn => exact hx _ (Or.inl hn)
    | x :: l, hk, t2, _ =>
      rw [At.h0 t2]
      exact hx _ (Or.inr (hk x l rfl))
  refine kX0_both_0 (by omega) ?_ g7
  refine hv1 E (d - 1) S M M0 _ cl c K a dep OL hs h (by omega) (by omega) (by omega) t1 hnx (by omega) (fun M2 h2 => ⟨_, rfl, kX0_both_5 ?_⟩)
  refine hr E d S M2 M0 Q cl c K (a + ks.length) dep _ 0 hs h2 (by omega) (by omega) (by omega) t2 ?_ ?_ (by omega) (fun M4 h4 => q M4 ?_)
  · rw [Nat.add_assoc]; exact hn
  · rw [List.length_append]; omega
  · exact h4.cs (by omega) (by rw [List.append_assoc])
theorem lrO0 : Lr fX0_test 1 0 nO [] (fun _ => []) := by
  intro E d S M M0 Q cl c K a dep OL i hs h hd hdp hc hA hn ho hi q
  have g7 : aKd S (cl + 7) = 2 := hs.1.kd (i := 7) rfl
  have hn' : K a ≠ 29 := hn.2
  have hi' : i < 400 := hi
  refine kX0_test_7 ⟨by omega, by omega⟩ (fun h => absurd h (by omega)) (fun _ => kX0_test_14 (by omega) (gAcc0 (k := 29) hs h hn' (by decide) ⟨_, rfl, ?_⟩) g7)
  exact kX0_test_20 (by decide) (fun _ => kX0_test_44 (q M (h.cs rfl (List.append_nil _)))) (fun h => absurd rfl h)
theorem lrO {D e e2 e3 : Nat} {ks kr : List Nat} {op opr : Nat → List (Nat × Nat)} {nx : Nat → Prop} (hv1 : Ps fX0_both [none] D e nx ks op) (hr : Lr fX0_test (D + 1) e2 nO kr opr) (he : e ≤ e3 ∧ e2 ≤ e3) (hD : 2 ≤ D) (hx : ∀ k, nO k ∨ k = 29 → nx k) (hk : ∀ x l, kr = x :: l → x = 29) :
    Lr fX0_test (D + 1) e3 nO (29 :: (ks ++ kr)) (fun a => op (a + 1) ++ ((29, 0) :: opr (a + 1 + ks.length))) := by
  intro E d S M M0 Q cl c K a dep OL i hs h hd hdp hc hA hn ho hi q
  have g7 : aKd S (cl + 7) = 2 := hs.1.kd (i := 7) rfl
  have g6 : aKd S (cl + 46) = 3 := hs.1.kd (i := 46) rfl
  have p71 : aP S (cl + 7) 1 = some (cl + 46) := hs.1.pp (i := 7) (j := 1) (x := 46) rfl rfl
  have hl : (29 :: (ks ++ kr)).length = ks.length + kr.length + 1 := by simp only [List.length_cons, List.length_append]
  rw [hl] at hc q hn hi
  have hka : K a = 29 := At.h0 hA
  obtain ⟨t1, t2⟩ := At.app (At.tl hA)
  have ho' : OL.length + (op (a + 1) ++ ((29, 0) :: opr (a + 1 + ks.length))).length ≤ 400 := ho
  rw [List.length_append, List.length_cons] at ho'
  have hnx : nx (K (a + 1 + ks.length)) := by
    match kr, hk, t2, hn with
    | [], _, _, hn =>
      have e0 : a + (ks.length + ([] : List Nat).length + 1) = a + 1 + ks.length := by show a + (ks.length + 0 + 1) = _; omega
      rw [e0] at hn
      exact hx _ (Or.inl hn)
    | x :: l, hk, t2, _ =>
      rw [At.h0 t2]
      exact hx _ (Or.inr (hk x l rfl))
  have hi' : i < 400 := by omega
  refine kX0_test_7 ⟨by omega, by omega⟩ (fun h => absurd h (by omega)) (fun _ => kX0_test_14 (by omega) (gAcc1 (k := 29) hs h (by omega) hka (by omega) (fun M1 h1 => ⟨_, rfl, ?_⟩)) g7)
  refine kX0_test_20 (by decide) (fun h => absurd h (by decide)) (fun _ => kX0_test_23 (by omega) ?_ g7)
  refine hv1 E (d - 1) S M1 M0 _ cl c K (a + 1) dep OL hs h1 (by omega) (by omega) (by omega) t1 hnx (by omega) (fun M2 h2 => ⟨_, rfl, ?_⟩)
  refine kX0_test_28 g7 p71 (by omega) (gEmit (k := 29) (t := 0) hs h2 (by rw [List.length_append]; omega) rfl rfl ⟨by omega, by omega⟩ (fun M3 h3 => ⟨_, rfl, kX0_test_38 ?_⟩)) g6
  rw [show (i : Int) + 1 = ((i + 1 : Nat) : Int) by omega]
  refine hr E d S M3 M0 Q cl c K (a + 1 + ks.length) dep _ (i + 1) hs h3 (by omega) (by omega) (by omega) t2 ?_ ?_ (by omega) (fun M4 h4 => q M4 ?_)
  · rw [show a + 1 + ks.length + kr.length = a + (ks.length + kr.length + 1) by omega]; exact hn
  · rw [List.length_append, List.length_append, List.length_singleton]; omega
  · refine h4.cs (by omega) ?_
    show OL ++ (op (a + 1) ++ ((29, 0) :: opr (a + 1 + ks.length))) = _
    rw [List.append_assoc, List.append_assoc]
    rfl
theorem psO {D e e2 e3 : Nat} {ks kr : List Nat} {op opr : Nat → List (Nat × Nat)} {nx : Nat → Prop} (hv1 : Ps fX0_both [none] D e nx ks op) (hr : Lr fX0_test (D + 1) e2 nO kr opr) (he : e ≤ e3 ∧ e2 ≤ e3) (hx : ∀ k, nO k ∨ k = 29 → nx k) (hk : ∀ x l, kr = x :: l → x = 29) :
    Ps fX0_test [none] (D + 1) e3 nO (ks ++ kr) (fun a => op a ++ opr (a + ks.length)) := by
  intro E d S M M0 Q cl c K a dep OL hs h hd hdp hc hA hn ho q
  have g7 : aKd S (cl + 7) = 2 := hs.1.kd (i := 7) rfl
  rw [List.length_append] at hc q hn
  obtain ⟨t1, t2⟩ := At.app hA
  have ho' : OL.length + (op a ++ opr (a + ks.length)).length ≤ 400 := ho
  rw [List.length_append] at ho'
  have hc4 := hs.2.2.1
  have hnx : nx (K (a + ks.length)) := by
    match kr, hk, t2, hn with
    | [], _, _, hn => exact hx _ (Or.inl hn)
    | x :: l, hk, t2, _ =>
      rw [At.h0 t2]
      exact hx _ (Or.inr (hk x l rfl))
  refine kX0_test_0 (by omega) ?_ g7
  refine hv1 E (d - 1) S M M0 _ cl c K a dep OL hs h (by omega) (by omega) (by omega) t1 hnx (by omega) (fun M2 h2 => ⟨_, rfl, kX0_test_5 ?_⟩)
  refine hr E d S M2 M0 Q cl c K (a + ks.length) dep _ 0 hs h2 (by omega) (by omega) (by omega) t2 ?_ ?_ (by omega) (fun M4 h4 => q M4 ?_)
  · rw [Nat.add_assoc]; exact hn
  · rw [List.length_append]; omega
  · exact h4.cs (by omega) (by rw [List.append_assoc])
end GY
