/-! grammar: the sums and tests that a list has (wip/p26/gen99za.py) -/
section GA
variable {D e : Nat} {ks ks2 ks3 kr : List Nat} {op op2 op3 opr : Nat → List (Nat × Nat)}
theorem apN {f : Nat → List (Nat × Nat)} : (fun a => f a ++ []) = f := funext (fun a => List.append_nil _)
theorem v48 : Ps fX0_value [none] 2 3 nT [48] (fun a => [(48, a)]) := (psVat (Or.inl rfl)).mono (by decide) (by decide)
theorem v18 : Ps fX0_value [none] 2 3 nT [18] (fun a => [(18, a)]) := (psVat (Or.inr (Or.inl rfl))).mono (by decide) (by decide)
theorem v19 : Ps fX0_value [none] 2 3 nT [19] (fun a => [(19, a)]) := (psVat (Or.inr (Or.inr rfl))).mono (by decide) (by decide)
theorem vnm {k : Nat} (hk : k = 20 ∨ k = 22 ∨ k = 23 ∨ k = 24) : Ps fX0_value [none] 2 3 nT [k, 47] (fun a => [(k, a + 1)]) := (psVnm hk).mono (by decide) (by decide)
theorem p1 (h : Ps fX0_value [none] D e nT ks op) : Ps fX0_product [none, none] (D + 1) e nP ks op := by
  have g := psP h (lqP0.mono (D' := D + 1) (e' := e) (by omega) (Nat.zero_le _)) ⟨Nat.le_refl _, Nat.le_refl _⟩
  rw [List.append_nil, apN] at g
  exact g
theorem p2 {j : Nat} (hj : j = 40 ∨ j = 41) (hD : 1 ≤ D) (h : Ps fX0_value [none] D e nT ks op) (h2 : Ps fX0_value [none] D e nT ks2 op2) : Ps fX0_product [none, none] (D + 1) e nP (ks ++ j :: ks2) (fun a => op a ++ (op2 (a + ks.length + 1) ++ [(j, 0)])) := by
  have g := psP h (lqP hj h2 (lqP0.mono (D' := D + 1) (e' := e) (by omega) (Nat.zero_le _)) ⟨Nat.le_refl e, Nat.le_refl e⟩ hD) ⟨Nat.le_refl _, Nat.le_refl _⟩
  rw [List.append_nil] at g
  exact g
theorem p3 {j j2 : Nat} (hj : j = 40 ∨ j = 41) (hj2 : j2 = 40 ∨ j2 = 41) (hD : 1 ≤ D) (h : Ps fX0_value [none] D e nT ks op) (h2 : Ps fX0_value [none] D e nT ks2 op2) (h3 : Ps fX0_value [none] D e nT ks3 op3) : Ps fX0_product [none, none] (D + 1) e nP (ks ++ j :: (ks2 ++ j2 :: ks3)) (fun a => op a ++ (op2 (a + ks.length + 1) ++ ((j, 0) :: (op3 (a + ks.length + 1 + ks2.length + 1) ++ [(j2, 0)])))) := by
  have g := psP h (lqP hj h2 (lqP hj2 h3 (lqP0.mono (D' := D + 1) (e' := e) (by omega) (Nat.zero_le _)) ⟨Nat.le_refl e, Nat.le_refl e⟩ hD) ⟨Nat.le_refl e, Nat.le_refl e⟩ hD) ⟨Nat.le_refl _, Nat.le_refl _⟩
  rw [List.append_nil] at g
  exact g
theorem s1 (h : Ps fX0_product [none, none] D e nP ks op) : Ps fX0_sum [none, none] (D + 1) e nS ks op := by
  have g := psS h (lqS0.mono (D' := D + 1) (e' := e) (by omega) (Nat.zero_le _)) ⟨Nat.le_refl _, Nat.le_refl _⟩ (fun x l h => by cases h)
  rw [List.append_nil, apN] at g
  exact g
theorem s2 {j : Nat} (hj : j = 38 ∨ j = 39) (hD : 1 ≤ D) (h : Ps fX0_product [none, none] D e nP ks op) (h2 : Ps fX0_product [none, none] D e nP ks2 op2) : Ps fX0_sum [none, none] (D + 1) e nS (ks ++ j :: ks2) (fun a => op a ++ (op2 (a + ks.length + 1) ++ [(j, 0)])) := by
  have g := psS h (lqS hj h2 (lqS0.mono (D' := D + 1) (e' := e) (by omega) (Nat.zero_le _)) ⟨Nat.le_refl e, Nat.le_refl e⟩ hD (fun x l h => by cases h)) ⟨Nat.le_refl _, Nat.le_refl _⟩ (fun x l h => by
    have e0 := (List.cons.inj h).1
    subst e0
    exact ⟨by omega, by omega⟩)
  rw [List.append_nil] at g
  exact g
theorem s48 : Ps fX0_sum [none, none] 4 3 nS [48] (fun a => [(48, a)]) := s1 (p1 v48)
theorem nBt {k : Nat} (h : nB k ∨ k = 28) : nT k := trivial
theorem nBs {k : Nat} (h : nB k ∨ k = 28) : nS k := by
  rcases h with h | h
  · exact h.1
  · rw [h]; exact ⟨⟨by decide, by decide⟩, by decide, by decide⟩
theorem nOb {k : Nat} (h : nO k ∨ k = 29) : nB k := by
  rcases h with h | h
  · exact h.1
  · rw [h]; exact ⟨⟨⟨by decide, by decide⟩, by decide, by decide⟩, by decide⟩
theorem b1 {nx : Nat → Prop} (hx : ∀ k, nB k ∨ k = 28 → nx k) (h : Ps fX0_single [none, none] D e nx ks op) : Ps fX0_both [none] (D + 1) e nB ks op := by
  have g := psB h (lrB0.mono (D' := D + 1) (e' := e) (by omega) (Nat.zero_le _)) ⟨Nat.le_refl _, Nat.le_refl _⟩ hx (fun x l h => by cases h)
  rw [List.append_nil, apN] at g
  exact g
theorem b2 {nx nx2 : Nat → Prop} (hD : 2 ≤ D) (hx : ∀ k, nB k ∨ k = 28 → nx k) (hx2 : ∀ k, nB k ∨ k = 28 → nx2 k) (h : Ps fX0_single [none, none] D e nx ks op) (h2 : Ps fX0_single [none, none] D e nx2 ks2 op2) : Ps fX0_both [none] (D + 1) e nB (ks ++ 28 :: ks2) (fun a => op a ++ (op2 (a + ks.length + 1) ++ [(28, 0)])) := by
  have g := psB h (lrB h2 (lrB0.mono (D' := D + 1) (e' := e) (by omega) (Nat.zero_le _)) ⟨Nat.le_refl e, Nat.le_refl e⟩ hD hx2 (fun x l h => by cases h)) ⟨Nat.le_refl _, Nat.le_refl _⟩ hx (fun x l h => (List.cons.inj h).1.symm)
  rw [List.append_nil] at g
  exact g
theorem t1 (h : Ps fX0_both [none] D e nB ks op) : Ps fX0_test [none] (D + 1) e nO ks op := by
  have g := psO h (lrO0.mono (D' := D + 1) (e' := e) (by omega) (Nat.zero_le _)) ⟨Nat.le_refl _, Nat.le_refl _⟩ (fun k => nOb) (fun x l h => by cases h)
  rw [List.append_nil, apN] at g
  exact g
theorem t2 (hD : 2 ≤ D) (h : Ps fX0_both [none] D e nB ks op) (h2 : Ps fX0_both [none] D e nB ks2 op2) : Ps fX0_test [none] (D + 1) e nO (ks ++ 29 :: ks2) (fun a => op a ++ (op2 (a + ks.length + 1) ++ [(29, 0)])) := by
  have g := psO h (lrO h2 (lrO0.mono (D' := D + 1) (e' := e) (by omega) (Nat.zero_le _)) ⟨Nat.le_refl e, Nat.le_refl e⟩ hD (fun k => nOb) (fun x l h => by cases h)) ⟨Nat.le_refl _, Nat.le_refl _⟩ (fun k => nOb) (fun x l h => (List.cons.inj h).1.symm)
  rw [List.append_nil] at g
  exact g
-- the sums
def kS (k : Nat) : List Nat := if k = 0 then [48] else if k = 1 then [19, 41, 48] else if k = 2 then [48, 39, 20, 47] else if k = 3 then [30, 32, 21, 32, 48, 33, 37, 48, 33, 41, 48] else if k = 4 then [31, 32, 23, 47, 37, 48, 33, 38, 48, 41, 48] else [18, 39, 48]
def oS (k a : Nat) : List (Nat × Nat) := if k = 0 then [(48, a)] else if k = 1 then [(19, a), (48, a + 2), (41, 0)] else if k = 2 then [(48, a), (20, a + 3), (39, 0)] else if k = 3 then [(48, a + 4), (21, 0), (48, a + 7), (30, 0), (48, a + 10), (41, 0)] else if k = 4 then [(23, a + 3), (48, a + 5), (31, 0), (48, a + 8), (48, a + 10), (41, 0), (38, 0)] else [(18, a), (48, a + 2), (39, 0)]
def kT (k : Nat) : List Nat := if k = 0 then [18, 43, 48, 41, 48] else if k = 1 then [25, 47] else if k = 2 then [27, 26, 47, 29, 19, 43, 48] else if k = 3 then [20, 47, 42, 48] else if k = 4 then [22, 47, 46, 48, 40, 48, 28, 27, 25, 47] else if k = 5 then [34, 21, 32, 48, 33, 42, 48, 29, 18, 41, 48, 40, 48, 44, 18, 35, 28, 24, 47, 42, 48] else if k = 6 then [23, 47, 42, 48] else [48, 41, 48, 40, 48, 44, 48]
def oT (k a : Nat) : List (Nat × Nat) := if k = 0 then [(18, a), (48, a + 2), (48, a + 4), (41, 0), (43, 0)] else if k = 1 then [(25, a + 1)] else if k = 2 then [(26, a + 2), (27, 0), (19, a + 4), (48, a + 6), (43, 0), (29, 0)] else if k = 3 then [(20, a + 1), (48, a + 3), (42, 0)] else if k = 4 then [(22, a + 1), (48, a + 3), (48, a + 5), (40, 0), (46, 0), (25, a + 9), (27, 0), (28, 0)] else if k = 5 then [(48, a + 3), (21, 0), (48, a + 6), (42, 0), (18, a + 8), (48, a + 10), (41, 0), (48, a + 12), (40, 0), (18, a + 14), (44, 0), (29, 0), (24, a + 18), (48, a + 20), (42, 0), (28, 0)] else if k = 6 then [(23, a + 1), (48, a + 3), (42, 0)] else [(48, a), (48, a + 2), (41, 0), (48, a + 4), (40, 0), (48, a + 6), (44, 0)]
theorem psSum0 : Ps fX0_sum [none, none] 4 3 nS [48] (fun a => [(48, a)]) := s48
theorem psSum1 : Ps fX0_sum [none, none] 4 3 nS [19, 41, 48] (fun a => [(19, a), (48, a + 2), (41, 0)]) := s1 (p2 (Or.inr rfl) (by decide) v19 v48)
theorem psSum2 : Ps fX0_sum [none, none] 4 3 nS [48, 39, 20, 47] (fun a => [(48, a), (20, a + 3), (39, 0)]) := s2 (Or.inr rfl) (by decide) (p1 v48) (p1 (vnm (Or.inl rfl)))
theorem psSum3 : Ps fX0_sum [none, none] 12 5 nS [30, 32, 21, 32, 48, 33, 37, 48, 33, 41, 48] (fun a => [(48, a + 4), (21, 0), (48, a + 7), (30, 0), (48, a + 10), (41, 0)]) := s1 (p2 (Or.inr rfl) (by decide) (psVtw (Or.inl rfl) ((s1 (p1 (psVco s48 (by decide)))).mono (D' := 8) (e' := 4) (by decide) (by decide)) (s48.mono (by decide) (by decide)) (by decide)) (v48.mono (by decide) (by decide)))
theorem psSum4 : Ps fX0_sum [none, none] 8 4 nS [31, 32, 23, 47, 37, 48, 33, 38, 48, 41, 48] (fun a => [(23, a + 3), (48, a + 5), (31, 0), (48, a + 8), (48, a + 10), (41, 0), (38, 0)]) := s2 (Or.inl rfl) (by decide) (p1 (psVtw (Or.inr rfl) (s1 (p1 (vnm (Or.inr (Or.inr (Or.inl rfl)))))) s48 (by decide))) ((p2 (Or.inr rfl) (by decide) v48 v48).mono (by decide) (by decide))
theorem psSum5 : Ps fX0_sum [none, none] 4 3 nS [18, 39, 48] (fun a => [(18, a), (48, a + 2), (39, 0)]) := s2 (Or.inr rfl) (by decide) (p1 v18) (p1 v48)
theorem psSum (k : Nat) : Ps fX0_sum [none, none] 12 5 nS (kS k) (oS k) := by
  unfold kS oS
  by_cases h0 : k = 0
  · simp only [if_pos h0]
    exact psSum0.mono (by decide) (by decide)
  by_cases h1 : k = 1
  · simp only [if_neg h0, if_pos h1]
    exact psSum1.mono (by decide) (by decide)
  by_cases h2 : k = 2
  · simp only [if_neg h0, if_neg h1, if_pos h2]
    exact psSum2.mono (by decide) (by decide)
  by_cases h3 : k = 3
  · simp only [if_neg h0, if_neg h1, if_neg h2, if_pos h3]
    exact psSum3.mono (by decide) (by decide)
  by_cases h4 : k = 4
  · simp only [if_neg h0, if_neg h1, if_neg h2, if_neg h3, if_pos h4]
    exact psSum4.mono (by decide) (by decide)
  simp only [if_neg h0, if_neg h1, if_neg h2, if_neg h3, if_neg h4]
  exact psSum5.mono (by decide) (by decide)
theorem psTst0 : Ps fX0_test [none] 7 3 nO [18, 43, 48, 41, 48] (fun a => [(18, a), (48, a + 2), (48, a + 4), (41, 0), (43, 0)]) := t1 (b1 (fun k h => nBs h) (psTc (j := 43) (by decide) (s1 (p1 v18)) (s1 (p2 (Or.inr rfl) (by decide) v48 v48)) (by decide) rfl ⟨by decide, by decide, by decide, by decide⟩))
theorem psTst1 : Ps fX0_test [none] 4 0 nO [25, 47] (fun a => [(25, a + 1)]) := t1 (b1 (fun k h => nBt h) (psTn (Or.inl rfl)))
theorem psTst2 : Ps fX0_test [none] 7 3 nO [27, 26, 47, 29, 19, 43, 48] (fun a => [(26, a + 2), (27, 0), (19, a + 4), (48, a + 6), (43, 0), (29, 0)]) := t2 (by decide) ((b1 (fun k h => nBt h) (psTt (psTn (Or.inr rfl)) (by decide))).mono (D' := 6) (e' := 3) (by decide) (by decide)) (b1 (fun k h => nBs h) (psTc (j := 43) (by decide) (s1 (p1 v19)) s48 (by decide) rfl ⟨by decide, by decide, by decide, by decide⟩))
theorem psTst3 : Ps fX0_test [none] 7 3 nO [20, 47, 42, 48] (fun a => [(20, a + 1), (48, a + 3), (42, 0)]) := t1 (b1 (fun k h => nBs h) (psTc (j := 42) (by decide) (s1 (p1 (vnm (Or.inl rfl)))) s48 (by decide) rfl ⟨by decide, by decide, by decide, by decide⟩))
theorem psTst4 : Ps fX0_test [none] 7 3 nO [22, 47, 46, 48, 40, 48, 28, 27, 25, 47] (fun a => [(22, a + 1), (48, a + 3), (48, a + 5), (40, 0), (46, 0), (25, a + 9), (27, 0), (28, 0)]) := t1 (b2 (by decide) (fun k h => nBs h) (fun k h => nBt h) (psTc (j := 46) (by decide) (s1 (p1 (vnm (Or.inr (Or.inl rfl))))) (s1 (p2 (Or.inl rfl) (by decide) v48 v48)) (by decide) rfl ⟨by decide, by decide, by decide, by decide⟩) ((psTt (psTn (Or.inl rfl)) (by decide)).mono (by decide) (by decide)))
theorem psTst5 : Ps fX0_test [none] 14 5 nO [34, 21, 32, 48, 33, 42, 48, 29, 18, 41, 48, 40, 48, 44, 18, 35, 28, 24, 47, 42, 48] (fun a => [(48, a + 3), (21, 0), (48, a + 6), (42, 0), (18, a + 8), (48, a + 10), (41, 0), (48, a + 12), (40, 0), (18, a + 14), (44, 0), (29, 0), (24, a + 18), (48, a + 20), (42, 0), (28, 0)]) := t1 (b2 (by decide) (fun k h => nBt h) (fun k h => nBs h) (psTb (t2 (by decide) (b1 (fun k h => nBs h) (psTc (j := 42) (by decide) (s1 (p1 (psVco s48 (by decide)))) (s48.mono (by decide) (by decide)) (by decide) rfl ⟨by decide, by decide, by decide, by decide⟩)) ((b1 (fun k h => nBs h) (psTc (j := 44) (by decide) (s1 (p3 (Or.inr rfl) (Or.inl rfl) (by decide) v18 v48 v48)) (s1 (p1 v18)) (by decide) rfl ⟨by decide, by decide, by decide, by decide⟩)).mono (by decide) (by decide))) (by decide)) ((psTc (j := 42) (by decide) (s1 (p1 (vnm (Or.inr (Or.inr (Or.inr rfl)))))) s48 (by decide) rfl ⟨by decide, by decide, by decide, by decide⟩).mono (by decide) (by decide)))
theorem psTst6 : Ps fX0_test [none] 7 3 nO [23, 47, 42, 48] (fun a => [(23, a + 1), (48, a + 3), (42, 0)]) := t1 (b1 (fun k h => nBs h) (psTc (j := 42) (by decide) (s1 (p1 (vnm (Or.inr (Or.inr (Or.inl rfl)))))) s48 (by decide) rfl ⟨by decide, by decide, by decide, by decide⟩))
theorem psTst7 : Ps fX0_test [none] 7 3 nO [48, 41, 48, 40, 48, 44, 48] (fun a => [(48, a), (48, a + 2), (41, 0), (48, a + 4), (40, 0), (48, a + 6), (44, 0)]) := t1 (b1 (fun k h => nBs h) (psTc (j := 44) (by decide) (s1 (p3 (Or.inr rfl) (Or.inl rfl) (by decide) v48 v48 v48)) s48 (by decide) rfl ⟨by decide, by decide, by decide, by decide⟩))
theorem psTst (k : Nat) : Ps fX0_test [none] 14 5 nO (kT k) (oT k) := by
  unfold kT oT
  by_cases h0 : k = 0
  · simp only [if_pos h0]
    exact psTst0.mono (by decide) (by decide)
  by_cases h1 : k = 1
  · simp only [if_neg h0, if_pos h1]
    exact psTst1.mono (by decide) (by decide)
  by_cases h2 : k = 2
  · simp only [if_neg h0, if_neg h1, if_pos h2]
    exact psTst2.mono (by decide) (by decide)
  by_cases h3 : k = 3
  · simp only [if_neg h0, if_neg h1, if_neg h2, if_pos h3]
    exact psTst3.mono (by decide) (by decide)
  by_cases h4 : k = 4
  · simp only [if_neg h0, if_neg h1, if_neg h2, if_neg h3, if_pos h4]
    exact psTst4.mono (by decide) (by decide)
  by_cases h5 : k = 5
  · simp only [if_neg h0, if_neg h1, if_neg h2, if_neg h3, if_neg h4, if_pos h5]
    exact psTst5.mono (by decide) (by decide)
  by_cases h6 : k = 6
  · simp only [if_neg h0, if_neg h1, if_neg h2, if_neg h3, if_neg h4, if_neg h5, if_pos h6]
    exact psTst6.mono (by decide) (by decide)
  simp only [if_neg h0, if_neg h1, if_neg h2, if_neg h3, if_neg h4, if_neg h5, if_neg h6]
  exact psTst7.mono (by decide) (by decide)
theorem kS_i (r : Nat → Nat) (k : Nat) : (sI r k).map (fun x => x.2.1) = kS k := by
  unfold sI kS
  (repeat' split) <;> rfl
theorem kT_i (r : Nat → Nat) (k : Nat) : (tI r k).map (fun x => x.2.1) = kT k := by
  unfold tI kT
  (repeat' split) <;> rfl
theorem kT_ne (k : Nat) : kT k ≠ [] := by
  unfold kT
  (repeat' split) <;> exact List.cons_ne_nil _ _
theorem oS_l (k a : Nat) : (oS k a).length ≤ 7 := by
  unfold oS
  (repeat' split) <;> exact Nat.le_of_ble_eq_true rfl
theorem oT_l (k a : Nat) : (oT k a).length ≤ 16 := by
  unfold oT
  (repeat' split) <;> exact Nat.le_of_ble_eq_true rfl
theorem kS_l (k : Nat) : (kS k).length ≤ 11 := by
  unfold kS
  (repeat' split) <;> exact Nat.le_of_ble_eq_true rfl
theorem kT_l (k : Nat) : (kT k).length ≤ 21 := by
  unfold kT
  (repeat' split) <;> exact Nat.le_of_ble_eq_true rfl
def tle (b : Nat) : List (Nat × Nat) → Prop
  | [] => True
  | x :: l => x.2 ≤ b ∧ tle b l
theorem tle_m {b : Nat} : ∀ {l : List (Nat × Nat)}, tle b l → ∀ x, x ∈ l → x.2 ≤ b
  | y :: l, h, x, hx => by
    rcases List.mem_cons.mp hx with e | e
    · rw [e]; exact h.1
    · exact tle_m h.2 x e
theorem oS_t (k a : Nat) : ∀ x, x ∈ oS k a → x.2 ≤ a + 20 := by
  refine tle_m ?_
  unfold oS
  (repeat' split) <;> simp only [tle, and_true] <;> omega
theorem oT_t (k a : Nat) : ∀ x, x ∈ oT k a → x.2 ≤ a + 20 := by
  refine tle_m ?_
  unfold oT
  (repeat' split) <;> simp only [tle, and_true] <;> omega
end GA
