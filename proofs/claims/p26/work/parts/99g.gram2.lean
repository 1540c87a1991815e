/-! grammar: values, products, sums, tests out of what they consist of -/
section GX
theorem At.tl {f : Nat → Nat} {p x : Nat} {l : List Nat} (h : At f p (x :: l)) : At f (p + 1) l := fun i y hy => by
  rw [Nat.add_assoc, Nat.add_comm 1 i]
  exact h (i + 1) y hy
theorem psBr {D e : Nat} {ks : List Nat} {op : Nat → List (Nat × Nat)} (hsum : Ps fX0_sum [none, none] D e nS ks op) (hD : 1 ≤ D) : Ps fX0_inBrackets [] (D + 1) (e + 1) nT (32 :: (ks ++ [33])) (fun a => op (a + 1)) := by
  intro E d S M M0 Q cl c K a dep OL hs h hd hdp hc hA hn ho q
  have g7 : aKd S (cl + 7) = 2 := hs.1.kd (i := 7) rfl
  have hl : (32 :: (ks ++ [33])).length = ks.length + 2 := by simp only [List.length_cons, List.length_append, List.length_nil]
  rw [hl] at hc q
  obtain ⟨t2, t3⟩ := At.app (At.tl hA)
  refine kX0_inBrackets_0 (by omega) (gDeep hs h (by omega) (by rw [At.h0 hA]; rfl) (by omega) (by omega) (fun M1 h1 => ⟨_, rfl, ?_⟩)) g7
  refine kX0_inBrackets_7 (by omega) ?_ g7
  rw [show (dep : Int) + 1 = ((dep + 1 : Nat) : Int) by omega]
  refine hsum E (d - 1) S M1 M0 _ cl c K (a + 1) (dep + 1) OL hs h1 (by omega) (by omega) (by omega) t2 ?_ ho (fun M2 h2 => ⟨_, rfl, ?_⟩)
  · rw [At.h0 t3]; exact ⟨⟨by decide, by decide⟩, by decide, by decide⟩
  · exact kX0_inBrackets_14 (by omega) (gNeed hs h2 (by omega) (by rw [At.h0 t3]; rfl) (fun M3 h3 => ⟨_, rfl, kX0_inBrackets_20 (q M3 (h3.cs (by omega) rfl))⟩)) g7
theorem psVco {D e : Nat} {ks : List Nat} {op : Nat → List (Nat × Nat)} (hsum : Ps fX0_sum [none, none] D e nS ks op) (hD : 1 ≤ D) : Ps fX0_value [none] (D + 2) (e + 1) nT (21 :: 32 :: (ks ++ [33])) (fun a => op (a + 2) ++ [(21, 0)]) := by
  intro E d S M M0 Q cl c K a dep OL hs h hd hdp hc hA hn ho q
  have g7 : aKd S (cl + 7) = 2 := hs.1.kd (i := 7) rfl
  have g6 : aKd S (cl + 46) = 3 := hs.1.kd (i := 46) rfl
  have p71 : aP S (cl + 7) 1 = some (cl + 46) := hs.1.pp (i := 7) (j := 1) (x := 46) rfl rfl
  have hM := h.1
  have hv := h.2.1
  have hl : (21 :: 32 :: (ks ++ [33])).length = ks.length + 3 := by simp only [List.length_cons, List.length_append, List.length_nil]
  have hl2 : (32 :: (ks ++ [33])).length = ks.length + 2 := by simp only [List.length_cons, List.length_append, List.length_nil]
  rw [hl] at hc q
  have e4 := hv.2.2
  rw [At.h0 hA] at e4
  have ho' : OL.length + (op (a + 2) ++ [(21, 0)]).length ≤ 400 := ho
  rw [List.length_append] at ho'
  have ho2 : OL.length + ((op (a + 2)).length + 1) ≤ 400 := ho'
  have go : X E d fX0_value 180 [some (.ref (cl + 7)), some (J (dep : Int)), some (J (M (cl + 7) 4))] [] S (mI M) Q := by
    refine kX0_value_180 (by omega) (gNeed hs h (by omega) (by rw [At.h0 hA]; rfl) (fun M1 h1 => ⟨_, rfl, ?_⟩)) g7
    refine kX0_value_186 (by omega) ?_ g7
    refine psBr hsum hD E (d - 1) S M1 M0 _ cl c K (a + 1) dep OL hs h1 (by omega) (by omega) (by rw [hl2]; omega) (At.tl hA) trivial ?_ (fun M2 h2 => ⟨_, rfl, ?_⟩)
    · show OL.length + (op (a + 2)).length ≤ 400
      omega
    · refine kX0_value_191 g7 p71 (by omega) (gEmit (k := 21) (t := 0) hs h2 ?_ rfl rfl ⟨by omega, by omega⟩ (fun M3 h3 => ⟨_, rfl, kX0_value_201 (kX0_value_253 (q M3 ?_))⟩)) g6
      · rw [List.length_append]
        show OL.length + (op (a + 2)).length < 400
        omega
      · exact h3.cs (by rw [hl2]; omega) (by rw [List.append_assoc])
  refine kX0_value_0 g7 (hM _ _) (fun _ => ?_) (fun h => absurd hv.1 h)
  refine kX0_value_8 g7 (hM _ _) (fun h => ?_) (fun h => ?_) (fun h => ?_) (fun h => ?_) (fun _ => go) (fun h => ?_) (fun h => ?_) (fun h => ?_) (fun h => ?_) (fun h => ?_) (fun h => ?_) (fun h => ?_) (fun h => ?_)
  all_goals exact absurd h (by omega)
theorem psVtw {D e k : Nat} {k1 k2 : List Nat} {op1 op2 : Nat → List (Nat × Nat)} (hk : k = 30 ∨ k = 31) (h1s : Ps fX0_sum [none, none] D e nS k1 op1) (h2s : Ps fX0_sum [none, none] D e nS k2 op2) (hD : 1 ≤ D) :
    Ps fX0_value [none] (D + 2) (e + 1) nT (k :: 32 :: (k1 ++ 37 :: (k2 ++ [33]))) (fun a => op1 (a + 2) ++ (op2 (a + 2 + k1.length + 1) ++ [(k, 0)])) := by
  intro E d S M M0 Q cl c K a dep OL hs h hd hdp hc hA hn ho q
  have g7 : aKd S (cl + 7) = 2 := hs.1.kd (i := 7) rfl
  have g6 : aKd S (cl + 46) = 3 := hs.1.kd (i := 46) rfl
  have p71 : aP S (cl + 7) 1 = some (cl + 46) := hs.1.pp (i := 7) (j := 1) (x := 46) rfl rfl
  have hM := h.1
  have hv := h.2.1
  have hl : (k :: 32 :: (k1 ++ 37 :: (k2 ++ [33]))).length = k1.length + k2.length + 4 := by
    simp only [List.length_cons, List.length_append, List.length_nil]; omega
  rw [hl] at hc q
  have hka : K a = k := At.h0 hA
  have e4 := hv.2.2
  rw [hka] at e4
  have hc4 := hs.2.2.1
  have ho' : OL.length + (op1 (a + 2) ++ (op2 (a + 2 + k1.length + 1) ++ [(k, 0)])).length ≤ 400 := ho
  rw [List.length_append, List.length_append] at ho'
  have ho2 : OL.length + ((op1 (a + 2)).length + ((op2 (a + 2 + k1.length + 1)).length + 1)) ≤ 400 := ho'
  have t0 := At.tl hA
  obtain ⟨t1, t2⟩ := At.app (At.tl t0)
  obtain ⟨t3, t4⟩ := At.app (At.tl t2)
  have go : X E d fX0_value 239 [some (.ref (cl + 7)), some (J (dep : Int)), some (J (M (cl + 7) 4))] [] S (mI M) Q := by
    rw [e4]
    refine kX0_value_239 (by omega) ?_ g7
    refine kX0_ofTwo_0 (by omega) (gNeed hs h (by omega) (by rw [hka]) (fun M1 h1 => ⟨_, rfl, ?_⟩)) g7
    refine kX0_ofTwo_5 (by omega) (gDeep hs h1 (by omega) (by rw [At.h0 t0]; rfl) (by omega) (by omega) (fun M2 h2 => ⟨_, rfl, ?_⟩)) g7
    refine kX0_ofTwo_12 (by omega) ?_ g7
    rw [show (dep : Int) + 1 = ((dep + 1 : Nat) : Int) by omega]
    refine h1s E (d - 1 - 1) S M2 M0 _ cl c K (a + 1 + 1) (dep + 1) OL hs h2 (by omega) (by omega) (by omega) t1 ?_ (by show OL.length + (op1 (a + 2)).length ≤ 400; omega) (fun M3 h3 => ⟨_, rfl, ?_⟩)
    · rw [At.h0 t2]; exact ⟨⟨by decide, by decide⟩, by decide, by decide⟩
    refine kX0_ofTwo_19 (by omega) (gNeed hs h3 (by omega) (by rw [At.h0 t2]; rfl) (fun M4 h4 => ⟨_, rfl, ?_⟩)) g7
    refine kX0_ofTwo_25 (by omega) ?_ g7
    rw [show (dep : Int) + 1 = ((dep + 1 : Nat) : Int) by omega]
    refine h2s E (d - 1 - 1) S M4 M0 _ cl c K (a + 1 + 1 + k1.length + 1) (dep + 1) _ hs h4 (by omega) (by omega) (by omega) t3 ?_ ?_ (fun M5 h5 => ⟨_, rfl, ?_⟩)
    · rw [At.h0 t4]; exact ⟨⟨by decide, by decide⟩, by decide, by decide⟩
    · rw [List.length_append]
      show OL.length + (op1 (a + 2)).length + (op2 (a + 2 + k1.length + 1)).length ≤ 400
      omega
    refine kX0_ofTwo_32 (by omega) (gNeed hs h5 (by omega) (by rw [At.h0 t4]; rfl) (fun M6 h6 => ⟨_, rfl, ?_⟩)) g7
    refine kX0_ofTwo_38 g7 p71 (by omega) (gEmit (k := k) (t := 0) hs h6 ?_ rfl rfl ⟨by omega, by omega⟩ (fun M7 h7 => ⟨_, rfl, kX0_ofTwo_47 ⟨_, rfl, kX0_value_245 (kX0_value_253 (q M7 ?_))⟩⟩)) g6
    · rw [List.length_append, List.length_append]
      show OL.length + (op1 (a + 2)).length + (op2 (a + 2 + k1.length + 1)).length < 400
      omega
    · exact h7.cs (by omega) (by show OL ++ (op1 (a + 2) ++ (op2 (a + 2 + k1.length + 1) ++ [(k, 0)])) = OL ++ op1 (a + 2) ++ op2 (a + 2 + k1.length + 1) ++ [(k, 0)]; rw [List.append_assoc, List.append_assoc])
  refine kX0_value_0 g7 (hM _ _) (fun _ => ?_) (fun h => absurd hv.1 h)
  refine kX0_value_8 g7 (hM _ _) (fun h => ?_) (fun h => ?_) (fun h => ?_) (fun h => ?_) (fun h => ?_) (fun h => ?_) (fun h => ?_) (fun h => ?_) (fun _ => go) (fun _ => go) (fun h => ?_) (fun h => ?_) (fun h => ?_)
  all_goals exact absurd h (by omega)
/-- what a loop of product or sum reads from its seventh place on -/
def Lq (F : aF) (D e : Nat) (nx : Nat → Prop) (ks : List Nat) (op : Nat → List (Nat × Nat)) : Prop :=
  ∀ (E : Nat → Value) (d : Nat) (S : aS) (M M0 : Nat → Nat → Int) (Q : Option (Option Value) → aS → aI → Prop) (cl c : Nat) (K : Nat → Nat) (a dep : Nat) (OL : List (Nat × Nat)) (i : Nat) (o3 : Option Value),
    Gs cl c S K M0 → Gi cl K M0 M a OL → D ≤ d → dep + e ≤ 8 → a + ks.length ≤ c → At K a ks → nx (K (a + ks.length)) → OL.length + (op a).length ≤ 400 → i + ks.length < 400 →
    (∀ M', Gi cl K M0 M' (a + ks.length) (OL ++ op a) → Q (some none) S (mI M')) → X E d F 7 [some (.ref (cl + 7)), some (J (dep : Int)), some (J (i : Int)), o3] [] S (mI M) Q
theorem lqP0 : Lq fX0_product 1 0 nP [] (fun _ => []) := by
  intro E d S M M0 Q cl c K a dep OL i o3 hs h hd hdp hc hA hn ho hi q
  have g7 : aKd S (cl + 7) = 2 := hs.1.kd (i := 7) rfl
  have hM := h.1
  have hv := h.2.1
  have hn' : K a ≠ 40 ∧ K a ≠ 41 := hn
  have hi' : i < 400 := hi
  have fin := q M (h.cs rfl (List.append_nil _))
  refine kX0_product_7 ⟨by omega, by omega⟩ (fun h => absurd h (by omega)) (fun _ => kX0_product_14 g7 (hM _ _) (fun h => absurd hv.1 h) (fun _ => ?_))
  exact kX0_product_21 g7 (hM _ _) (fun h => absurd h (by omega)) (fun _ => kX0_product_30 g7 (hM _ _) (fun _ => kX0_product_69 fin) (fun h => absurd h (by omega)))
theorem lqS0 : Lq fX0_sum 1 0 nS [] (fun _ => []) := by
  intro E d S M M0 Q cl c K a dep OL i o3 hs h hd hdp hc hA hn ho hi q
  have g7 : aKd S (cl + 7) = 2 := hs.1.kd (i := 7) rfl
  have hM := h.1
  have hv := h.2.1
  have hn' : nP (K a) ∧ K a ≠ 38 ∧ K a ≠ 39 := hn
  have hi' : i < 400 := hi
  have fin := q M (h.cs rfl (List.append_nil _))
  refine kX0_sum_7 ⟨by omega, by omega⟩ (fun h => absurd h (by omega)) (fun _ => kX0_sum_14 g7 (hM _ _) (fun h => absurd hv.1 h) (fun _ => ?_))
  exact kX0_sum_21 g7 (hM _ _) (fun h => absurd h (by omega)) (fun _ => kX0_sum_30 g7 (hM _ _) (fun _ => kX0_sum_69 fin) (fun h => absurd h (by omega)))
theorem lqP {D e e2 e3 j : Nat} {ks kr : List Nat} {op opr : Nat → List (Nat × Nat)} (hj : j = 40 ∨ j = 41) (hv1 : Ps fX0_value [none] D e nT ks op) (hr : Lq fX0_product (D + 1) e2 nP kr opr) (he : e ≤ e3 ∧ e2 ≤ e3) (hD : 1 ≤ D) :
    Lq fX0_product (D + 1) e3 nP (j :: (ks ++ kr)) (fun a => op (a + 1) ++ ((j, 0) :: opr (a + 1 + ks.length))) := by
  intro E d S M M0 Q cl c K a dep OL i o3 hs h hd hdp hc hA hn ho hi q
  have g7 : aKd S (cl + 7) = 2 := hs.1.kd (i := 7) rfl
  have g6 : aKd S (cl + 46) = 3 := hs.1.kd (i := 46) rfl
  have p71 : aP S (cl + 7) 1 = some (cl + 46) := hs.1.pp (i := 7) (j := 1) (x := 46) rfl rfl
  have hM := h.1
  have hv := h.2.1
  have hl : (j :: (ks ++ kr)).length = ks.length + kr.length + 1 := by simp only [List.length_cons, List.length_append]
  rw [hl] at hc q hn hi
  have hka : K a = j := At.h0 hA
  obtain ⟨t1, t2⟩ := At.app (At.tl hA)
  have ho' : OL.length + (op (a + 1) ++ ((j, 0) :: opr (a + 1 + ks.length))).length ≤ 400 := ho
  rw [List.length_append, List.length_cons] at ho'
  have go : X E d fX0_product 39 [some (.ref (cl + 7)), some (J (dep : Int)), some (J (i : Int)), o3] [] S (mI M) Q := by
    refine kX0_product_39 g7 (by omega) (gNeed hs h (by omega) hv.2.2 (fun M1 h1 => ⟨_, rfl, ?_⟩))
    refine kX0_product_49 (by omega) ?_ g7
    refine hv1 E (d - 1) S M1 M0 _ cl c K (a + 1) dep OL hs h1 (by omega) (by omega) (by omega) t1 trivial (by omega) (fun M2 h2 => ⟨_, rfl, ?_⟩)
    refine kX0_product_54 g7 p71 (by omega) (gEmit (k := j) (t := 0) hs h2 (by rw [List.length_append]; omega) (by rw [hv.2.2, hka]) rfl ⟨by omega, by omega⟩ (fun M3 h3 => ⟨_, rfl, kX0_product_63 ?_⟩)) g6
    rw [show (i : Int) + 1 = ((i + 1 : Nat) : Int) by omega]
    refine hr E d S M3 M0 Q cl c K (a + 1 + ks.length) dep _ (i + 1) _ hs h3 (by omega) (by omega) (by omega) t2 ?_ ?_ (by omega) (fun M4 h4 => q M4 ?_)
    · rw [show a + 1 + ks.length + kr.length = a + (ks.length + kr.length + 1) by omega]; exact hn
    · rw [List.length_append, List.length_append, List.length_singleton]; omega
    · refine h4.cs (by omega) ?_
      show OL ++ (op (a + 1) ++ ((j, 0) :: opr (a + 1 + ks.length))) = _
      rw [List.append_assoc, List.append_assoc]
      rfl
  have hi' : i < 400 := by omega
  refine kX0_product_7 ⟨by omega, by omega⟩ (fun h => absurd h (by omega)) (fun _ => kX0_product_14 g7 (hM _ _) (fun h => absurd hv.1 h) (fun _ => ?_))
  refine kX0_product_21 g7 (hM _ _) (fun _ => go) (fun h1 => kX0_product_30 g7 (hM _ _) (fun h2 => ?_) (fun _ => go))
  have e4 := hv.2.2
  rw [hka] at e4
  exact absurd e4 (by omega)
theorem lqS {D e e2 e3 j : Nat} {ks kr : List Nat} {op opr : Nat → List (Nat × Nat)} (hj : j = 38 ∨ j = 39) (hv1 : Ps fX0_product [none, none] D e nP ks op) (hr : Lq fX0_sum (D + 1) e2 nS kr opr) (he : e ≤ e3 ∧ e2 ≤ e3) (hD : 1 ≤ D) (hk : ∀ x l, kr = x :: l → nP x) :
    Lq fX0_sum (D + 1) e3 nS (j :: (ks ++ kr)) (fun a => op (a + 1) ++ ((j, 0) :: opr (a + 1 + ks.length))) := by
  intro E d S M M0 Q cl c K a dep OL i o3 hs h hd hdp hc hA hn ho hi q
  have g7 : aKd S (cl + 7) = 2 := hs.1.kd (i := 7) rfl
  have g6 : aKd S (cl + 46) = 3 := hs.1.kd (i := 46) rfl
  have p71 : aP S (cl + 7) 1 = some (cl + 46) := hs.1.pp (i := 7) (j := 1) (x := 46) rfl rfl
  have hM := h.1
  have hv := h.2.1
  have hl : (j :: (ks ++ kr)).length = ks.length + kr.length + 1 := by simp only [List.length_cons, List.length_append]
  rw [hl] at hc q hn hi
  have hka : K a = j := At.h0 hA
  obtain ⟨t1, t2⟩ := At.app (At.tl hA)
  have ho' : OL.length + (op (a + 1) ++ ((j, 0) :: opr (a + 1 + ks.length))).length ≤ 400 := ho
  rw [List.length_append, List.length_cons] at ho'
  have hnp : nP (K (a + 1 + ks.length)) := by
    match kr, hk, t2, hn with
    | [], _, _, hn =>
      have := hn.1
      rw [show a + (ks.length + ([] : List Nat).length + 1) = a + 1 + ks.length by show a + (ks.length + 0 + 1) = _; omega] at this
      exact this
    | x :: l, hk, t2, _ =>
      rw [At.h0 t2]
      exact hk x l rfl
  have go : X E d fX0_sum 39 [some (.ref (cl + 7)), some (J (dep : Int)), some (J (i : Int)), o3] [] S (mI M) Q := by
    refine kX0_sum_39 g7 (by omega) (gNeed hs h (by omega) hv.2.2 (fun M1 h1 => ⟨_, rfl, ?_⟩))
    refine kX0_sum_49 (by omega) ?_ g7
    refine hv1 E (d - 1) S M1 M0 _ cl c K (a + 1) dep OL hs h1 (by omega) (by omega) (by omega) t1 hnp (by omega) (fun M2 h2 => ⟨_, rfl, ?_⟩)
    refine kX0_sum_54 g7 p71 (by omega) (gEmit (k := j) (t := 0) hs h2 (by rw [List.length_append]; omega) (by rw [hv.2.2, hka]) rfl ⟨by omega, by omega⟩ (fun M3 h3 => ⟨_, rfl, kX0_sum_63 ?_⟩)) g6
    rw [show (i : Int) + 1 = ((i + 1 : Nat) : Int) by omega]
    refine hr E d S M3 M0 Q cl c K (a + 1 + ks.length) dep _ (i + 1) _ hs h3 (by omega) (by omega) (by omega) t2 ?_ ?_ (by omega) (fun M4 h4 => q M4 ?_)
    · rw [show a + 1 + ks.length + kr.length = a + (ks.length + kr.length + 1) by omega]; exact hn
    · rw [List.length_append, List.length_append, List.length_singleton]; omega
    · refine h4.cs (by omega) ?_
      show OL ++ (op (a + 1) ++ ((j, 0) :: opr (a + 1 + ks.length))) = _
      rw [List.append_assoc, List.append_assoc]
      rfl
  have hi' : i < 400 := by omega
  refine kX0_sum_7 ⟨by omega, by omega⟩ (fun h => absurd h (by omega)) (fun _ => kX0_sum_14 g7 (hM _ _) (fun h => absurd hv.1 h) (fun _ => ?_))
  refine kX0_sum_21 g7 (hM _ _) (fun _ => go) (fun h1 => kX0_sum_30 g7 (hM _ _) (fun h2 => ?_) (fun _ => go))
  have e4 := hv.2.2
  rw [hka] at e4
  exact absurd e4 (by omega)
theorem Ps.mono {F : aF} {nl : List (Option Value)} {D D' e e' : Nat} {nx : Nat → Prop} {ks : List Nat} {op : Nat → List (Nat × Nat)} (h : Ps F nl D e nx ks op) (hD : D ≤ D') (he : e ≤ e') : Ps F nl D' e' nx ks op :=
  fun E d S M M0 Q cl c K a dep OL hs g hd hdp => h E d S M M0 Q cl c K a dep OL hs g (Nat.le_trans hD hd) (Nat.le_trans (Nat.add_le_add_left he dep) hdp)
theorem Lq.mono {F : aF} {D D' e e' : Nat} {nx : Nat → Prop} {ks : List Nat} {op : Nat → List (Nat × Nat)} (h : Lq F D e nx ks op) (hD : D ≤ D') (he : e ≤ e') : Lq F D' e' nx ks op :=
  fun E d S M M0 Q cl c K a dep OL i o3 hs g hd hdp => h E d S M M0 Q cl c K a dep OL i o3 hs g (Nat.le_trans hD hd) (Nat.le_trans (Nat.add_le_add_left he dep) hdp)
/-- a product: a value and what is behind it -/
theorem psP {D e e2 e3 : Nat} {ks kr : List Nat} {op opr : Nat → List (Nat × Nat)} (hv1 : Ps fX0_value [none] D e nT ks op) (hr : Lq fX0_product (D + 1) e2 nP kr opr) (he : e ≤ e3 ∧ e2 ≤ e3) :
    Ps fX0_product [none, none] (D + 1) e3 nP (ks ++ kr) (fun a => op a ++ opr (a + ks.length)) := by
  intro E d S M M0 Q cl c K a dep OL hs h hd hdp hc hA hn ho q
  have g7 : aKd S (cl + 7) = 2 := hs.1.kd (i := 7) rfl
  rw [List.length_append] at hc q hn
  obtain ⟨t1, t2⟩ := At.app hA
  have ho' : OL.length + (op a ++ opr (a + ks.length)).length ≤ 400 := ho
  rw [List.length_append] at ho'
  have hc4 := hs.2.2.1
  refine kX0_product_0 (by omega) ?_ g7
  refine hv1 E (d - 1) S M M0 _ cl c K a dep OL hs h (by omega) (by omega) (by omega) t1 trivial (by omega) (fun M2 h2 => ⟨_, rfl, kX0_product_5 ?_⟩)
  refine hr E d S M2 M0 Q cl c K (a + ks.length) dep _ 0 _ hs h2 (by omega) (by omega) (by omega) t2 ?_ ?_ (by omega) (fun M4 h4 => q M4 ?_)
  · rw [Nat.add_assoc]; exact hn
  · rw [List.length_append]; omega
  · exact h4.cs (by omega) (by rw [List.append_assoc])
theorem psS {D e e2 e3 : Nat} {ks kr : List Nat} {op opr : Nat → List (Nat × Nat)} (hv1 : Ps fX0_product [none, none] D e nP ks op) (hr : Lq fX0_sum (D + 1) e2 nS kr opr) (he : e ≤ e3 ∧ e2 ≤ e3) (hk : ∀ x l, kr = x :: l → nP x) :
    Ps fX0_sum [none, none] (D + 1) e3 nS (ks ++ kr) (fun a => op a ++ opr (a + ks.length)) := by
  intro E d S M M0 Q cl c K a dep OL hs h hd hdp hc hA hn ho q
  have g7 : aKd S (cl + 7) = 2 := hs.1.kd (i := 7) rfl
  rw [List.length_append] at hc q hn
  obtain ⟨t1, t2⟩ := At.app hA
  have ho' : OL.length + (op a ++ opr (a + ks.length)).length ≤ 400 := ho
  rw [List.length_append] at ho'
  have hc4 := hs.2.2.1
  have hnp : nP (K (a + ks.length)) := by
    match kr, hk, t2, hn with
    | [], _, _, hn => exact hn.1
    | x :: l, hk, t2, _ =>
      rw [At.h0 t2]
      exact hk x l rfl
  refine kX0_sum_0 (by omega) ?_ g7
  refine hv1 E (d - 1) S M M0 _ cl c K a dep OL hs h (by omega) (by omega) (by omega) t1 hnp (by omega) (fun M2 h2 => ⟨_, rfl, kX0_sum_5 ?_⟩)
  refine hr E d S M2 M0 Q cl c K (a + ks.length) dep _ 0 _ hs h2 (by omega) (by omega) (by omega) t2 ?_ ?_ (by omega) (fun M4 h4 => q M4 ?_)
  · rw [Nat.add_assoc]; exact hn
  · rw [List.length_append]; omega
  · exact h4.cs (by omega) (by rw [List.append_assoc])
end GX
