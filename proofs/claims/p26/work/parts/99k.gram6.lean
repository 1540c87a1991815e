/-! grammar: the lines of a list, one behind the other -/
section HB
variable {E : Nat → Value} {d : Nat} {S S' : aS} {M M' M0 M1 M2 M00 : Nat → Nat → Int} {Q : Option (Option Value) → aS → aI → Prop} {cl c a : Nat} {K : Nat → Nat} {OL OL2 : List (Nat × Nat)} {OR : Orw} {s l o : Nat}
theorem Gf.step {a2 : Nat} (h : Gf cl K M00 M a OL OR) (g : Gi cl K M M2 a2 OL2) : Gf cl K M00 M2 a2 OL2 OR := ⟨g.re g.1 rfl rfl rfl rfl, h.2.fr g.2.2.1 g.2.2.2.1⟩
theorem Gf.cs {a2 : Nat} {OL2 : List (Nat × Nat)} {OR2 : Orw} (h : Gf cl K M00 M a OL OR) (e1 : a2 = a) (e2 : OL2 = OL) (e3 : OR2 = OR) : Gf cl K M00 M a2 OL2 OR2 := by
  subst e1 e2 e3
  exact h
theorem Gs.step {a2 : Nat} (h : Gs cl c S K M) (g : Gi cl K M M2 a2 OL2) : Gs cl c S K M2 := h.re (g.2.2.1 _ (by omega) (by omega) (by omega) (by omega))
abbrev LnA (E : Nat → Value) (S : aS) (M : Nat → Nat → Int) (cl : Nat) : Prop := LnK E S M cl 7 [0, 47, 1, 48, 2, 48] ∧ LnK E S M cl 8 [3, 47, 4, 48, 5, 48] ∧ LnK E S M cl 9 [6, 47, 7, 48, 8, 48, 9, 48, 10, 48, 11, 48] ∧ LnK E S M cl 10 [12, 47, 4, 47, 17] ∧ LnK E S M cl 11 [13, 47, 14, 48, 17] ∧ LnK E S M cl 12 [15, 47, 16]
/-- a line that is read: its kinds, its operations, its orders -/
def PL (E : Nat → Value) (ks : List Nat) (op : Nat → List (Nat × Nat)) (rs : Nat → Nat → Orw) : Prop :=
  ∀ (d : Nat) (S : aS) (M M00 : Nat → Nat → Int) (Q : Option (Option Value) → aS → aI → Prop) (cl c : Nat) (K : Nat → Nat) (a : Nat) (OL : List (Nat × Nat)) (OR : Orw),
    LnA E S M00 cl → Gs cl c S K M → Gf cl K M00 M a OL OR → 30 ≤ d → a + ks.length ≤ c → At K a ks → OL.length + (op a).length ≤ 400 → OR.length + (rs a OL.length).length ≤ 20 →
    (∀ M', Gs cl c S K M' → Gf cl K M00 M' (a + ks.length) (OL ++ op a) (OR ++ rs a OL.length) → Q (some none) S (mI M')) → X E d fX0_readLine 0 [some (.ref (cl + 7))] [] S (mI M) Q
theorem lEnd (hs : Gs cl c S K M) (h : Gf cl K M00 M a OL OR) (ha : a < c) (hk : K a = 36) (hd : 1 ≤ d) (q : ∀ M', Gs cl c S K M' → Gf cl K M00 M' (a + 1) OL OR → Q (some none) S (mI M')) :
    X E d fX0_readLine 149 [some (.ref (cl + 7))] [] S (mI M) Q :=
  kX0_readLine_149 hd (gNeed hs h.1 ha (by rw [hk]; rfl) (fun M1 h1 => ⟨_, rfl, kX0_readLine_155 (q M1 (hs.step h1) (h.step h1))⟩)) (hs.1.kd (i := 7) rfl)
theorem pl0 : PL E ([0, 47, 1, 48, 2, 48] ++ [36]) (fun _ => []) (fun _ _ => []) := by
  intro d S M M00 Q cl c K a OL OR hL hs h hd hc hA hol hor q
  obtain ⟨b, e1, e2, e3, e4, e5⟩ := hL.1
  have g7 : aKd S (cl + 7) = 2 := hs.1.kd (i := 7) rfl
  have hv := h.1.2.1
  obtain ⟨t1, t2⟩ := At.app hA
  have hka : K a = 0 := At.h0 t1
  have hkn : K (a + 6) = 36 := At.h0 t2
  have ev := hv.2.2
  rw [hka] at ev
  have hc' : a + 7 ≤ c := hc
  refine kX0_readLine_0 g7 (h.1.1 _ _) (fun h => absurd h (by omega)) (fun _ => ?_) (fun h => absurd h (by omega)) (fun h => absurd h (by omega)) (fun h => absurd h (by omega)) (fun h => absurd h (by omega)) (fun h => absurd h (by omega))
  refine kX0_readLine_84 e1 (by omega) ?_ g7
  have hv1 : ∀ i k : Nat, ([0, 47, 1, 48, 2, 48] : List Nat)[i]? = some k → M b i = (k : Int) := fun i k hi => by rw [h.2.2.2.1 b (by omega) (by omega)]; exact e5 i k hi
  refine kX0_needAll_0 (gAll hs e2 e3 e4 hv1 (by decide) (by omega) 6 0 M rfl h.1 (by show a + 6 ≤ c; omega) t1 (fun M2 h2 => ⟨_, rfl, kX0_readLine_91 ?_⟩))
  exact lEnd (hs.step h2) (h.step h2) (by show a + 6 < c; omega) hkn (by omega) (fun M3 s3 g3 => q M3 s3 (g3.cs rfl (List.append_nil _) (List.append_nil _)))
theorem pl3 : PL E ([3, 47, 4, 48, 5, 48] ++ [36]) (fun _ => []) (fun _ _ => []) := by
  intro d S M M00 Q cl c K a OL OR hL hs h hd hc hA hol hor q
  obtain ⟨b, e1, e2, e3, e4, e5⟩ := hL.2.1
  have g7 : aKd S (cl + 7) = 2 := hs.1.kd (i := 7) rfl
  have hv := h.1.2.1
  obtain ⟨t1, t2⟩ := At.app hA
  have hka : K a = 3 := At.h0 t1
  have hkn : K (a + 6) = 36 := At.h0 t2
  have ev := hv.2.2
  rw [hka] at ev
  have hc' : a + 7 ≤ c := hc
  refine kX0_readLine_0 g7 (h.1.1 _ _) (fun h => absurd h (by omega)) (fun h => absurd h (by omega)) (fun _ => ?_) (fun h => absurd h (by omega)) (fun h => absurd h (by omega)) (fun h => absurd h (by omega)) (fun h => absurd h (by omega))
  refine kX0_readLine_94 e1 (by omega) ?_ g7
  have hv1 : ∀ i k : Nat, ([3, 47, 4, 48, 5, 48] : List Nat)[i]? = some k → M b i = (k : Int) := fun i k hi => by rw [h.2.2.2.1 b (by omega) (by omega)]; exact e5 i k hi
  refine kX0_needAll_0 (gAll hs e2 e3 e4 hv1 (by decide) (by omega) 6 0 M rfl h.1 (by show a + 6 ≤ c; omega) t1 (fun M2 h2 => ⟨_, rfl, kX0_readLine_101 ?_⟩))
  exact lEnd (hs.step h2) (h.step h2) (by show a + 6 < c; omega) hkn (by omega) (fun M3 s3 g3 => q M3 s3 (g3.cs rfl (List.append_nil _) (List.append_nil _)))
theorem pl6 : PL E ([6, 47, 7, 48, 8, 48, 9, 48, 10, 48, 11, 48] ++ [36]) (fun _ => []) (fun _ _ => []) := by
  intro d S M M00 Q cl c K a OL OR hL hs h hd hc hA hol hor q
  obtain ⟨b, e1, e2, e3, e4, e5⟩ := hL.2.2.1
  have g7 : aKd S (cl + 7) = 2 := hs.1.kd (i := 7) rfl
  have hv := h.1.2.1
  obtain ⟨t1, t2⟩ := At.app hA
  have hka : K a = 6 := At.h0 t1
  have hkn : K (a + 12) = 36 := At.h0 t2
  have ev := hv.2.2
  rw [hka] at ev
  have hc' : a + 13 ≤ c := hc
  refine kX0_readLine_0 g7 (h.1.1 _ _) (fun h => absurd h (by omega)) (fun h => absurd h (by omega)) (fun h => absurd h (by omega)) (fun _ => ?_) (fun h => absurd h (by omega)) (fun h => absurd h (by omega)) (fun h => absurd h (by omega))
  refine kX0_readLine_104 e1 (by omega) ?_ g7
  have hv1 : ∀ i k : Nat, ([6, 47, 7, 48, 8, 48, 9, 48, 10, 48, 11, 48] : List Nat)[i]? = some k → M b i = (k : Int) := fun i k hi => by rw [h.2.2.2.1 b (by omega) (by omega)]; exact e5 i k hi
  refine kX0_needAll_0 (gAll hs e2 e3 e4 hv1 (by decide) (by omega) 12 0 M rfl h.1 (by show a + 12 ≤ c; omega) t1 (fun M2 h2 => ⟨_, rfl, kX0_readLine_111 ?_⟩))
  exact lEnd (hs.step h2) (h.step h2) (by show a + 12 < c; omega) hkn (by omega) (fun M3 s3 g3 => q M3 s3 (g3.cs rfl (List.append_nil _) (List.append_nil _)))
theorem pl12 {D e : Nat} {kt : List Nat} {opt : Nat → List (Nat × Nat)} (ht : Ps fX0_test [none] D e nO kt opt) (he : e ≤ 8) (hD : D ≤ 28) :
    PL E ([12, 47, 4, 47, 17] ++ (kt ++ [36])) (fun a => opt (a + 5)) (fun a o => [(12, a, o, o, o + (opt (a + 5)).length)]) := by
  intro d S M M00 Q cl c K a OL OR hL hs h hd hc hA hol hor q
  obtain ⟨b, e1, e2, e3, e4, e5⟩ := hL.2.2.2.1
  have g7 : aKd S (cl + 7) = 2 := hs.1.kd (i := 7) rfl
  have hv := h.1.2.1
  obtain ⟨t1, t2⟩ := At.app hA
  obtain ⟨t3, t4⟩ := At.app t2
  have hka : K a = 12 := At.h0 t1
  have hkn : K (a + 5 + kt.length) = 36 := At.h0 t4
  have ev := hv.2.2
  rw [hka] at ev
  have hl : ([12, 47, 4, 47, 17] ++ (kt ++ [36])).length = kt.length + 6 := by simp only [List.length_append, List.length_cons, List.length_nil]; omega
  rw [hl] at hc q
  have hor' : OR.length + 1 ≤ 20 := hor
  refine kX0_readLine_0 g7 (h.1.1 _ _) (fun h => absurd h (by omega)) (fun h => absurd h (by omega)) (fun h => absurd h (by omega)) (fun h => absurd h (by omega)) (fun _ => ?_) (fun h => absurd h (by omega)) (fun h => absurd h (by omega))
  refine kX0_readLine_114 e1 (by omega) ?_ g7
  refine gOrd1 (s := 12) ht he (by omega) (by omega) (by omega) hs h e2 e3 e4 e5 (by decide) hka (by omega) (by show a + 5 + kt.length ≤ c; omega) t1 t3 ?_ (by decide) hol (fun M2 s2 h2 => ⟨_, rfl, kX0_readLine_121 ?_⟩)
  · show nO (K (a + 5 + kt.length))
    rw [hkn]
    exact ⟨⟨⟨⟨by decide, by decide⟩, by decide, by decide⟩, by decide⟩, by decide⟩
  · exact lEnd s2 h2 (by show a + 5 + kt.length < c; omega) hkn (by omega) (fun M3 s3 g3 => q M3 s3 (g3.cs (by show a + (kt.length + 6) = a + 5 + kt.length + 1; omega) rfl rfl))
theorem pl13 {D e : Nat} {kt : List Nat} {opt : Nat → List (Nat × Nat)} (ht : Ps fX0_test [none] D e nO kt opt) (he : e ≤ 8) (hD : D ≤ 28) :
    PL E ([13, 47, 14, 48, 17] ++ (kt ++ [36])) (fun a => opt (a + 5)) (fun a o => [(13, a, o, o, o + (opt (a + 5)).length)]) := by
  intro d S M M00 Q cl c K a OL OR hL hs h hd hc hA hol hor q
  obtain ⟨b, e1, e2, e3, e4, e5⟩ := hL.2.2.2.2.1
  have g7 : aKd S (cl + 7) = 2 := hs.1.kd (i := 7) rfl
  have hv := h.1.2.1
  obtain ⟨t1, t2⟩ := At.app hA
  obtain ⟨t3, t4⟩ := At.app t2
  have hka : K a = 13 := At.h0 t1
  have hkn : K (a + 5 + kt.length) = 36 := At.h0 t4
  have ev := hv.2.2
  rw [hka] at ev
  have hl : ([13, 47, 14, 48, 17] ++ (kt ++ [36])).length = kt.length + 6 := by simp only [List.length_append, List.length_cons, List.length_nil]; omega
  rw [hl] at hc q
  have hor' : OR.length + 1 ≤ 20 := hor
  refine kX0_readLine_0 g7 (h.1.1 _ _) (fun h => absurd h (by omega)) (fun h => absurd h (by omega)) (fun h => absurd h (by omega)) (fun h => absurd h (by omega)) (fun h => absurd h (by omega)) (fun _ => ?_) (fun h => absurd h (by omega))
  refine kX0_readLine_124 e1 (by omega) ?_ g7
  refine gOrd1 (s := 13) ht he (by omega) (by omega) (by omega) hs h e2 e3 e4 e5 (by decide) hka (by omega) (by show a + 5 + kt.length ≤ c; omega) t1 t3 ?_ (by decide) hol (fun M2 s2 h2 => ⟨_, rfl, kX0_readLine_131 ?_⟩)
  · show nO (K (a + 5 + kt.length))
    rw [hkn]
    exact ⟨⟨⟨⟨by decide, by decide⟩, by decide, by decide⟩, by decide⟩, by decide⟩
  · exact lEnd s2 h2 (by show a + 5 + kt.length < c; omega) hkn (by omega) (fun M3 s3 g3 => q M3 s3 (g3.cs (by show a + (kt.length + 6) = a + 5 + kt.length + 1; omega) rfl rfl))
theorem pl15a {De ee : Nat} {ks : List Nat} {ops : Nat → List (Nat × Nat)} (hsm : Ps fX0_sum [none, none] De ee nS ks ops) (hee : ee ≤ 8) (hDe : De ≤ 28) :
    PL E ([15, 47, 16] ++ (ks ++ [36])) (fun a => ops (a + 3)) (fun a o => [(15, a, o, o + (ops (a + 3)).length, o + (ops (a + 3)).length)]) := by
  intro d S M M00 Q cl c K a OL OR hL hs h hd hc hA hol hor q
  obtain ⟨b, e1, e2, e3, e4, e5⟩ := hL.2.2.2.2.2
  have g7 : aKd S (cl + 7) = 2 := hs.1.kd (i := 7) rfl
  have hv := h.1.2.1
  obtain ⟨t1, t2⟩ := At.app hA
  obtain ⟨t3, t4⟩ := At.app t2
  have hka : K a = 15 := At.h0 t1
  have ev := hv.2.2
  rw [hka] at ev
  have hor' : OR.length + 1 ≤ 20 := hor
  have hkn : K (a + 3 + ks.length) = 36 := At.h0 t4
  have hl : ([15, 47, 16] ++ (ks ++ [36])).length = ks.length + 4 := by simp only [List.length_append, List.length_cons, List.length_nil]; omega
  rw [hl] at hc q
  refine kX0_readLine_0 g7 (h.1.1 _ _) (fun h => absurd h (by omega)) (fun h => absurd h (by omega)) (fun h => absurd h (by omega)) (fun h => absurd h (by omega)) (fun h => absurd h (by omega)) (fun h => absurd h (by omega)) (fun _ => ?_)
  refine kX0_readLine_134 e1 (by omega) ?_ g7
  refine gOrd2 (D := 1) (e := 0) (kt := []) (opt := fun _ => []) (a' := a + 3 + ks.length) hsm hee (by omega) (fun h => absurd rfl h) (fun _ _ => rfl) (by decide) (by omega) (by omega) hs h e2 e3 e4 e5 (by decide) hka (by omega) t1 t3 (by decide) rfl (by show a + 3 + ks.length ≤ c; omega) (fun h => absurd rfl h) (fun _ => ?_) (fun i x hi => by cases hi) ?_ hol (fun M2 s2 h2 => ⟨_, rfl, kX0_readLine_141 ?_⟩)
  · show nS (K (a + 3 + ks.length)) ∧ K (a + 3 + ks.length) ≠ 17
    rw [hkn]
    exact ⟨⟨⟨by decide, by decide⟩, by decide, by decide⟩, by decide⟩
  · show nO (K (a + 3 + ks.length))
    rw [hkn]
    exact ⟨⟨⟨⟨by decide, by decide⟩, by decide, by decide⟩, by decide⟩, by decide⟩
  · exact lEnd s2 h2 (by show a + 3 + ks.length < c; omega) hkn (by omega) (fun M3 s3 g3 => q M3 s3 (g3.cs (by show a + (ks.length + 4) = a + 3 + ks.length + 1; omega) (List.append_nil _).symm rfl))
theorem pl15b {De ee : Nat} {D e : Nat} {kt : List Nat} {opt : Nat → List (Nat × Nat)} {ks : List Nat} {ops : Nat → List (Nat × Nat)} (hsm : Ps fX0_sum [none, none] De ee nS ks ops) (hee : ee ≤ 8) (hDe : De ≤ 28) (ht : Ps fX0_test [none] D e nO kt opt) (hkt : kt ≠ []) (he : e ≤ 8) (hD : D ≤ 28) :
    PL E ([15, 47, 16] ++ (ks ++ 17 :: (kt ++ [36]))) (fun a => ops (a + 3) ++ opt (a + 3 + ks.length + 1)) (fun a o => [(15, a, o, o + (ops (a + 3)).length, o + (ops (a + 3)).length + (opt (a + 3 + ks.length + 1)).length)]) := by
  intro d S M M00 Q cl c K a OL OR hL hs h hd hc hA hol hor q
  obtain ⟨b, e1, e2, e3, e4, e5⟩ := hL.2.2.2.2.2
  have g7 : aKd S (cl + 7) = 2 := hs.1.kd (i := 7) rfl
  have hv := h.1.2.1
  obtain ⟨t1, t2⟩ := At.app hA
  obtain ⟨t3, t4⟩ := At.app t2
  have hka : K a = 15 := At.h0 t1
  have ev := hv.2.2
  rw [hka] at ev
  have hor' : OR.length + 1 ≤ 20 := hor
  have hk17 : K (a + 3 + ks.length) = 17 := At.h0 t4
  obtain ⟨t5, t6⟩ := At.app (At.tl t4)
  have hkn : K (a + 3 + ks.length + 1 + kt.length) = 36 := At.h0 t6
  have hl : ([15, 47, 16] ++ (ks ++ 17 :: (kt ++ [36]))).length = ks.length + kt.length + 5 := by simp only [List.length_append, List.length_cons, List.length_nil]; omega
  rw [hl] at hc q
  have hol' : OL.length + (ops (a + 3) ++ opt (a + 3 + ks.length + 1)).length ≤ 400 := hol
  rw [List.length_append] at hol'
  refine kX0_readLine_0 g7 (h.1.1 _ _) (fun h => absurd h (by omega)) (fun h => absurd h (by omega)) (fun h => absurd h (by omega)) (fun h => absurd h (by omega)) (fun h => absurd h (by omega)) (fun h => absurd h (by omega)) (fun _ => ?_)
  refine kX0_readLine_134 e1 (by omega) ?_ g7
  refine gOrd2 (kt := kt) (opt := opt) (a' := a + 3 + ks.length + 1) hsm hee (by omega) (fun _ => ht) (fun h => absurd h hkt) he (by omega) (by omega) hs h e2 e3 e4 e5 (by decide) hka (by omega) t1 t3 (by decide) (by rw [if_neg hkt]; rfl) (by omega) (fun _ => hk17) (fun h => absurd h hkt) t5 ?_ (by show OL.length + (ops (a + 3)).length + (opt (a + 3 + ks.length + 1)).length ≤ 400; omega) (fun M2 s2 h2 => ⟨_, rfl, kX0_readLine_141 ?_⟩)
  · rw [hkn]
    exact ⟨⟨⟨⟨by decide, by decide⟩, by decide, by decide⟩, by decide⟩, by decide⟩
  · exact lEnd s2 h2 (by omega) hkn (by omega) (fun M3 s3 g3 => q M3 s3 (g3.cs (by omega) (List.append_assoc _ _ _).symm rfl))
/-- the lines of a list -/
abbrev Lns : Type := List (List Nat × (Nat → List (Nat × Nat)) × (Nat → Nat → Orw))
def lnK : Lns → List Nat
  | [] => []
  | x :: l => x.1 ++ lnK l
def lnO : Lns → Nat → List (Nat × Nat)
  | [], _ => []
  | x :: l, a => x.2.1 a ++ lnO l (a + x.1.length)
def lnR : Lns → Nat → Nat → Orw
  | [], _, _ => []
  | x :: l, a, o => x.2.2 a o ++ lnR l (a + x.1.length) (o + (x.2.1 a).length)
abbrev LnP (E : Nat → Value) (x : List Nat × (Nat → List (Nat × Nat)) × (Nat → Nat → Orw)) : Prop := PL E x.1 x.2.1 x.2.2 ∧ ∃ k l, x.1 = k :: l ∧ k ≠ 49
theorem rdL (hL : LnA E S M00 cl) (hd : 31 ≤ d) (hK : K c = 49) {o1 : Option Value} : ∀ (LL : Lns) (i a : Nat) (M : Nat → Nat → Int) (OL : List (Nat × Nat)) (OR : Orw), (∀ x, x ∈ LL → LnP E x) → Gs cl c S K M → Gf cl K M00 M a OL OR → a + (lnK LL).length = c → At K a (lnK LL) → OL.length + (lnO LL a).length ≤ 400 → OR.length + (lnR LL a OL.length).length ≤ 20 → i + LL.length < 400 →
    (∀ M', Gs cl c S K M' → Gf cl K M00 M' c (OL ++ lnO LL a) (OR ++ lnR LL a OL.length) → Q (some (some (J 0))) S (mI M')) →
    X E d fX0_read 32 [some (.ref (cl + 7)), o1, some (J (i : Int))] [] S (mI M) Q
  | [], i, a, M, OL, OR, hp, hs, h, hc, hA, hol, hor, hi, q => by
    have g7 : aKd S (cl + 7) = 2 := hs.1.kd (i := 7) rfl
    have hM := h.1.1
    have hv := h.1.2.1
    have hc' : a = c := hc
    have hi' : i < 400 := hi
    have e4 := hv.2.2
    rw [hc', hK] at e4
    refine kX0_read_32 ⟨by omega, by omega⟩ (fun h => absurd h (by omega)) (fun _ => kX0_read_39 g7 (hM _ _) (fun h => absurd hv.1 h) (fun _ => kX0_read_46 g7 (hM _ _) (fun _ => ?_) (fun h => absurd e4 h)))
    refine kX0_read_65 g7 (hM _ _) (fun h => absurd hv.1 h) (fun _ => kX0_read_72 g7 (hM _ _) (fun _ => kX0_read_85 (kX0_read_86 (q M hs (h.cs hc'.symm (List.append_nil _) (List.append_nil _))))) (fun h => absurd e4 h))
  | x :: LL, i, a, M, OL, OR, hp, hs, h, hc, hA, hol, hor, hi, q => by
    have g7 : aKd S (cl + 7) = 2 := hs.1.kd (i := 7) rfl
    have hM := h.1.1
    have hv := h.1.2.1
    obtain ⟨hpx, k, l, ek, hk⟩ := hp x (List.mem_cons_self ..)
    have hc' : a + (x.1 ++ lnK LL).length = c := hc
    rw [List.length_append] at hc'
    obtain ⟨t1, t2⟩ := At.app hA
    have hol' : OL.length + (x.2.1 a ++ lnO LL (a + x.1.length)).length ≤ 400 := hol
    rw [List.length_append] at hol'
    have hor' : OR.length + (x.2.2 a OL.length ++ lnR LL (a + x.1.length) (OL.length + (x.2.1 a).length)).length ≤ 20 := hor
    rw [List.length_append] at hor'
    have hi' : i + (LL.length + 1) < 400 := hi
    have hka : K a = k := by rw [ek] at t1; exact At.h0 t1
    have e4 := hv.2.2
    rw [hka] at e4
    refine kX0_read_32 ⟨by omega, by omega⟩ (fun h => absurd h (by omega)) (fun _ => kX0_read_39 g7 (hM _ _) (fun h => absurd hv.1 h) (fun _ => kX0_read_46 g7 (hM _ _) (fun h => absurd h (by omega)) (fun _ => ?_)))
    refine kX0_read_55 (by omega) (hpx (d - 1) S M M00 _ cl c K a OL OR hL hs h (by omega) (by omega) t1 (by omega) (by omega) (fun M2 s2 h2 => ⟨_, rfl, kX0_read_59 ?_⟩)) g7
    rw [show (i : Int) + 1 = ((i + 1 : Nat) : Int) by omega]
    refine rdL hL hd hK LL (i + 1) (a + x.1.length) M2 _ _ (fun y hy => hp y (List.mem_cons_of_mem _ hy)) s2 h2 (by omega) t2 (by rw [List.length_append]; omega) (by rw [List.length_append, List.length_append]; omega) (by omega) (fun M3 s3 h3 => q M3 s3 (h3.cs rfl ?_ ?_))
    · show OL ++ (x.2.1 a ++ lnO LL (a + x.1.length)) = _
      rw [List.append_assoc]
    · show OR ++ (x.2.2 a OL.length ++ lnR LL (a + x.1.length) (OL.length + (x.2.1 a).length)) = _
      rw [List.append_assoc, List.length_append]
/-- a list is read -/
theorem gRead {LL : Lns} (hT : TbS cl S cT) (hM : RM M) (hKk : ∀ i, i ≤ c → M (cl + 3) i = (K i : Int)) (hc : c < 400) (hKb : ∀ i, K i ≤ 50) (hK : K c = 49) (hL : LnA E (aPut S (cl + 7) 1 (some (cl + 46))) M cl) (h80 : M (cl + 46) 8 = 0) (h00 : M (cl + 46) 0 = 0) (hp : ∀ x, x ∈ LL → LnP E x) (hcl : (lnK LL).length = c) (hA : At K 0 (lnK LL)) (hol : (lnO LL 0).length ≤ 400) (hor : (lnR LL 0 0).length ≤ 20) (hll : LL.length < 400) (hd : 31 ≤ d)
    (q : ∀ M', Gs cl c (aPut S (cl + 7) 1 (some (cl + 46))) K M' → Gf cl K M M' c (lnO LL 0) (lnR LL 0 0) → Q (some (some (J 0))) (aPut S (cl + 7) 1 (some (cl + 46))) (mI M')) :
    X E d fX0_read 0 [some (.ref (cl + 7)), some (.ref (cl + 46)), none] [] S (mI M) Q := by
  have hT1 : TbS cl (aPut S (cl + 7) 1 (some (cl + 46))) cG := hT.put (i := 7) (j := 1) (x := 46) rfl
  obtain ⟨S1, e1⟩ : ∃ x, aPut S (cl + 7) 1 (some (cl + 46)) = x := ⟨_, rfl⟩
  have g7 : aKd S (cl + 7) = 2 := hT.kd (i := 7) rfl
  have g7k : aK S (cl + 7) = 2 := hT.kk (i := 7) rfl
  have g2 : aKd S (cl + 2) = 7 := hT.kd (i := 2) rfl
  refine kX0_read_0 (b5 := cl + 2) g7k g7 (hT1.pp (i := 7) (j := 0) (x := 2) rfl rfl) (by omega) ?_ g2
  rw [e1] at hT1 hL q ⊢
  have k7 : aK S1 (cl + 7) = 2 := hT1.kk (i := 7) rfl
  have d2 : aKd S1 (cl + 2) = 7 := hT1.kd (i := 2) rfl
  have p20 : aP S1 (cl + 2) 0 = some (cl + 3) := hT1.pp (i := 2) (j := 0) (x := 3) rfl rfl
  have d3 : aKd S1 (cl + 3) = 100 := hT1.kd (i := 3) rfl
  have n3 : aN S1 (cl + 3) = 401 := hT1.nn (i := 3) rfl
  obtain ⟨M1, f1⟩ : ∃ x, mW (mW M (cl + 7) 2 0) (cl + 7) 3 0 = x := ⟨_, rfl⟩
  have v3 : M1 (cl + 7) 3 = 0 := by rw [← f1]; exact mW_eq
  have v2 : M1 (cl + 7) 2 = 0 := by rw [← f1, mW_ne2 (Or.inr (by decide))]; exact mW_eq
  have fr : ∀ x, x ≠ cl + 7 → M1 x = M x := fun x hx => by rw [← f1, mW_ne hx, mW_ne hx]
  have hM1 : RM M1 := by rw [← f1]; exact (hM.w (by decide)).w (by decide)
  rw [f1, v3]
  refine kX5_kindOf_0 d2 p20 (Or.inl d3) (by omega) (mX7_isOutside (by decide) ⟨by omega, by omega⟩ ⟨_, rfl, ?_⟩)
  rw [if_neg (by omega)]
  refine kX5_kindOf_9 (by decide) (fun _ => ?_) (fun h => absurd rfl h)
  refine kX5_kindOf_17 d2 p20 d3 (by decide) ⟨by omega, by omega⟩ (kX5_kindOf_23 ⟨_, rfl, kX0_read_27 k7 ?_⟩)
  have e30 : M1 (cl + 3) (0 : Int).toNat = (K 0 : Int) := by rw [fr _ (by omega)]; exact hKk 0 (Nat.zero_le _)
  rw [e30]
  have hb0 := hKb 0
  have s2 : Gs cl c S1 K (mW M1 (cl + 7) 4 (K 0 : Int)) := ⟨hT1, fun i hi => by rw [mW_ne (by omega), fr _ (by omega)]; exact hKk i hi, hc, hKb⟩
  have h2 : Gf cl K M (mW M1 (cl + 7) 4 (K 0 : Int)) 0 [] [] := by
    refine ⟨⟨hM1.w ⟨by omega, by omega⟩, ⟨by rw [mW_ne2 (Or.inr (by decide))]; exact v2, by rw [mW_ne2 (Or.inr (by decide))]; exact v3, mW_eq⟩, fun _ _ _ _ _ => rfl, fun _ _ => rfl, ?_, fun i k t hi => by cases hi⟩, ?_, fun j r hr => (by cases hr), fun x x1 x2 => ?_, fun j _ => ?_⟩
    · rw [mW_ne (by omega), fr _ (by omega)]; exact h80
    · rw [mW_ne (by omega), fr _ (by omega)]; exact h00
    · rw [mW_ne x1]; exact fr x x1
    · rw [mW_ne (by omega), mW_ne (by omega), mW_ne (by omega), fr _ (by omega), fr _ (by omega), fr _ (by omega)]; exact ⟨rfl, rfl, rfl⟩
  exact rdL hL hd hK LL 0 0 _ [] [] hp s2 h2 (by omega) hA (by show 0 + _ ≤ 400; omega) (by show 0 + (lnR LL 0 0).length ≤ 20; omega) (by omega) (fun M' s' h' => q M' s' h')
end HB
