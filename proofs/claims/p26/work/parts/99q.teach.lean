/-! a list is taught -/
section TE
variable {E : Nat → Value} {d : Nat} {S S' : aS} {M M' M0 M1 M00 : Nat → Nat → Int} {Q : Option (Option Value) → aS → aI → Prop} {cl c n : Nat} {f : Nat → Nat}
theorem tkN (f : Nat → Nat) : ∀ (l : Its) (o n : Nat), At f o (txt l) → n = o + (txt l).length → ∀ i, i < l.length → tK l i = 47 → tL l i = 2 ∧ f (tP l o i) = tC l i / 256 ∧ f (tP l o i + 1) = tC l i % 256 ∧ tP l o i + 2 ≤ n
  | [], _, _, _, _, i, hi, _ => absurd hi (Nat.not_lt_zero _)
  | (b, k, v) :: l, o, n, h, hn, i, hi, hk => by
    have h0 : At f o (bb b ++ (ib k v ++ txt l)) := h
    have hn0 : n = o + (bb b ++ (ib k v ++ txt l)).length := hn
    rw [List.length_append, List.length_append] at hn0
    obtain ⟨h1, h2⟩ := At.app h0
    obtain ⟨h3, h4⟩ := At.app h2
    match i with
    | 0 =>
      have hk' : k = 47 := hk
      subst hk'
      have e : ib 47 v = [v / 256, v % 256] := rfl
      rw [e] at h3 hn0
      have a0 : f (o + (bb b).length + 0) = v / 256 := h3 0 _ rfl
      have a1 : f (o + (bb b).length + 1) = v % 256 := h3 1 _ rfl
      have el : ([v / 256, v % 256] : List Nat).length = 2 := rfl
      exact ⟨rfl, a0, a1, by show o + (bb b).length + 2 ≤ n; omega⟩
    | i + 1 =>
      have hi' : i + 1 < l.length + 1 := hi
      exact tkN f l (o + (bb b).length + (ib k v).length) n h4 (by omega) i (by omega) hk
theorem tK_le : ∀ (l : Its), (∀ b k v, (b, k, v) ∈ l → iv k v) → ∀ i, tK l i ≤ 50
  | [], _, _ => by
    show 49 ≤ 50
    decide
  | (b, k, v) :: l, h, 0 => by
    show k ≤ 50
    rcases h b k v (List.mem_cons_self ..) with h | ⟨h, _⟩ | ⟨h, _⟩
    · omega
    · omega
    · omega
  | x :: l, h, i + 1 => tK_le l (fun b k v hm => h b k v (List.mem_cons_of_mem _ hm)) i
theorem tK_at : ∀ (l : Its), At (tK l) 0 (l.map (fun x => x.2.1))
  | [] => fun i x h => by cases h
  | (b, k, v) :: l => fun i x h => by
    match i with
    | 0 => exact Option.some.inj h
    | i + 1 =>
      have := tK_at l i x h
      rw [Nat.zero_add] at this ⊢
      exact this
theorem TbS.un {t : rT} {i j x : Nat} (h : TbS cl S (tPut t i j x)) (hn : ∀ k n p, t[i]? = some (k, n, p) → p.lookup j = none) : TbS cl S t := by
  have hl := h.1
  rw [tPut_len] at hl
  refine ⟨hl, fun a k m p hp => ?_⟩
  by_cases e : a = i
  · subst e
    have hlt : a < (tPut t a j x).length := by rw [tPut_len]; exact (List.getElem?_eq_some_iff.mp hp).1
    obtain ⟨k', m', p', e1⟩ : ∃ k' m' p', (tPut t a j x)[a]? = some (k', m', p') := ⟨_, _, _, List.getElem?_eq_getElem hlt⟩
    obtain ⟨p0, e2, e3⟩ := tPut_at t a j x k' m' p' e1
    rw [hp] at e2
    have e4 : (k, m, p) = (k', m', p0) := Option.some.inj e2
    have e5 : k = k' := congrArg (·.1) e4
    have e6 : m = m' := congrArg (·.2.1) e4
    have e7 : p = p0 := congrArg (·.2.2) e4
    subst e5 e6 e7
    obtain ⟨g1, g2, g3⟩ := h.2 a k m p' e1
    refine ⟨g1, g2, fun j' x' hl' => g3 j' x' ?_⟩
    rw [e3]
    have hne : j' ≠ j := fun ej => by
      rw [ej, hn k m p hp] at hl'
      cases hl'
    rw [List.lookup_cons, show (j' == j) = false from beq_eq_false_iff_ne.mpr hne]
    exact hl'
  · refine h.2 a k m p ?_
    rw [tPut_ne _ _ _ _ _ e]
    exact hp
def cV : rT := tPut (tPut cU 7 1 46) 8 2 34
theorem cV_eq : tPut (tPut (tPut cS 0 8 34) 0 9 12) 58 1 34 = cV := rfl
theorem cV_cU (h : TbS cl S cV) : TbS cl S cU := by
  have h1 : TbS cl S (tPut cU 7 1 46) := TbS.un h (fun k n p e => by
    have e0 : (6, 7, [(1, 1), (0, 2), (5, 11), (4, 10), (3, 9)]) = (k, n, p) := Option.some.inj e
    have e1 : [(1, 1), (0, 2), (5, 11), (4, 10), (3, 9)] = p := congrArg (·.2.2) e0
    rw [← e1]
    rfl)
  exact TbS.un h1 (fun k n p e => by
    have e0 : (2, 5, [(0, 2)]) = (k, n, p) := Option.some.inj e
    have e1 : [(0, 2)] = p := congrArg (·.2.2) e0
    rw [← e1]
    rfl)
/-- what stands before the class and the teaching needs -/
abbrev Bf (E : Nat → Value) (S : aS) (M : Nat → Nat → Int) (cl bs ws bk wk b3 : Nat) : Prop := (Sy E S M bs ws ∧ Kw E S M bk wk b3 (jn kws)) ∧ (bs < cl ∧ ws < cl ∧ bk < cl ∧ wk < cl) ∧ LnA E S M cl ∧ Rgs E S M cl
theorem Bf.fr {bs ws bk wk b3 : Nat} (h : Bf E S M cl bs ws bk wk b3) (g : ∀ x, x < cl → M' x = M x) : Bf E S M' cl bs ws bk wk b3 := by
  obtain ⟨⟨⟨s1, s2, s3⟩, k1, k2, k3, k4, k5⟩, ⟨b1, b2, b4, b5⟩, ⟨l1, l2, l3, l4, l5, l6⟩, r⟩ := h
  refine ⟨⟨⟨s1, s2, s3.fr (g _ b1) (g _ b2)⟩, k1, k2, k3, k4.fr (g _ b4) (g _ b5), k5⟩, ⟨b1, b2, b4, b5⟩, ⟨l1.fr g, l2.fr g, l3.fr g, l4.fr g, l5.fr g, l6.fr g⟩, ?_⟩
  obtain ⟨b, r1, r2, r3, r4, r5⟩ := r
  exact ⟨b, r1, r2, r3, r4, fun j t ht => by rw [g b r2]; exact r5 j t ht⟩
theorem Bf.put {bs ws bk wk b3 a j : Nat} {u : Option Nat} (h : Bf E S M cl bs ws bk wk b3) (ha : cl ≤ a) : Bf E (aPut S a j u) M cl bs ws bk wk b3 := by
  obtain ⟨⟨⟨s1, s2, s3⟩, k1, k2, k3, k4, k5⟩, ⟨b1, b2, b4, b5⟩, ⟨l1, l2, l3, l4, l5, l6⟩, r⟩ := h
  have st : ∀ {b w : Nat} {cs : List Int}, b < cl → Str S M b w cs → Str (aPut S a j u) M b w cs := fun hb h => ⟨h.1, h.2.1, (congrFun (aPut_P (by omega)) 0).trans h.2.2.1, h.2.2.2⟩
  exact ⟨⟨⟨s1, s2, st b1 s3⟩, k1, k2, k3, st b4 k4, k5⟩, ⟨b1, b2, b4, b5⟩, ⟨l1, l2, l3, l4, l5, l6⟩, r⟩
/-- what teaching leaves -/
def Tg (cl : Nat) (M M' : Nat → Nat → Int) (OL : List (Nat × Nat)) (OR : Orw) (R : Nat → Nat → Int) (w : Nat → Int) : Prop :=
  RM M' ∧ (∀ x, x < cl ∨ cl + 83 < x → M' x = M x) ∧ (M' cl 1 = 0 ∧ ∀ x, cl + 71 ≤ x → x ≤ cl + 83 → M' x = M x) ∧ win 11 M' (cl + 34) = R ∧ M' (cl + 46) 0 = (OR.length : Int) ∧ (∀ i k t : Nat, OL[i]? = some (k, t) → M' (cl + 54) i = (k : Int) ∧ M' (cl + 55) i = w t) ∧
  (∀ (j : Nat) (r : Nat × Nat × Nat × Nat × Nat), OR[j]? = some r → M' (cl + 47) j = (r.1 : Int) ∧ M' (cl + 49) j = w (r.2.1 + 1) ∧ M' (cl + 50) j = w (r.2.1 + 3) ∧ M' (cl + 51) j = (r.2.2.1 : Int) ∧ M' (cl + 52) j = (r.2.2.2.1 : Int) ∧ M' (cl + 53) j = (r.2.2.2.2 : Int)) ∧
  win 12 M' (cl + 58) = sBeg (win 21 M' (cl + 34)) (win 12 M (cl + 58)) ∧ ∀ j, OR.length ≤ j → M' (cl + 51) j = 0 ∧ M' (cl + 52) j = 0 ∧ M' (cl + 53) j = 0
set_option maxHeartbeats 4000000 in
theorem mX7_teach {its : Its} {LL : Lns} {bs ws bk wk b3 : Nat} (hT : TbS cl S cT) (hM : RM M) (hB : Bf E S M cl bs ws bk wk b3) (hq : Tq S M (cl + 1) (txt its).length f) (h1 : M cl 1 = ((txt its).length : Int)) (hz : ∀ x, cl + 34 ≤ x → x ≤ cl + 55 → M x = fun _ => 0)
    (hA : At f 0 (txt its)) (hv : ∀ b k v, (b, k, v) ∈ its → iv k v) (ha : adj its = true) (hlen : its.length < 400) (hLL : lnK LL = its.map (fun x => x.2.1)) (hLP : ∀ x, x ∈ LL → LnP E x) (hLl : LL.length < 400) (hol : (lnO LL 0).length ≤ 400) (hor : (lnR LL 0 0).length ≤ 20)
    (hok : okL 36 its (0, 0, 0, fun _ _ => 0)) (hno : nOr its ≤ 20) (hob : ∀ i k t : Nat, (lnO LL 0)[i]? = some (k, t) → t ≤ 400) (hln : ∀ (j : Nat) (r : Nat × Nat × Nat × Nat × Nat), (lnR LL 0 0)[j]? = some r → r.2.1 + 3 ≤ 400) (hd : 40 ≤ d)
    (q : ∀ S' M' w, aX S' = aX S → aZ S' = aZ S → (∀ x, x < cl ∨ cl + 83 < x → aK S' x = aK S x ∧ aN S' x = aN S x ∧ aP S' x = aP S x) → TbS cl S' cV → (∀ t, t < its.length → w t = (wV 36 its t : Int)) → Tg cl M M' (lnO LL 0) (lnR LL 0 0) (effL 36 its (0, 0, 0, fun _ _ => 0)).2.2.2 w → Q (some (some (J 0))) S' (mI M')) :
    X E d fX7_teach 0 [some (.ref cl), none, none] [] S (mI M) Q := by
  have g9 : aKd S cl = 9 := hT.kd (i := 0) rfl
  have g9k : aK S cl = 9 := hT.kk (i := 0) rfl
  have hl84 : cl + 84 ≤ aX S := hT.1
  refine kX7_teach_0 g9 (hT.pp (i := 0) (j := 9) (x := 34) rfl rfl) (by omega) (mX3_clear hT hM (by omega) (fun M1 m1 f1 z1 z2 z3 => ⟨_, rfl, ?_⟩)) (hT.kd (i := 34) rfl)
  have B1 : Bf E S M1 cl bs ws bk wk b3 := hB.fr (fun x hx => f1 x (by omega) (by omega))
  have q1 : Tq S M1 (cl + 1) (txt its).length f := hq.fr (f1 _ (by omega) (by omega))
  have e1 : M1 cl 1 = ((txt its).length : Int) := by rw [f1 cl (by omega) (by omega)]; exact h1
  refine kX7_teach_7 (b5 := cl + 1) g9 (hT.pp (i := 0) (j := 3) (x := 2) rfl rfl) (hT.pp (i := 0) (j := 0) (x := 1) rfl rfl) (by omega) ?_ (hT.kd (i := 2) rfl)
  rw [e1]
  refine mX5_cut (f := f) (P := tP its 0) (L := tL its) (K := tK its) (V := tV its) (c := its.length) (bs := bs) (ws := ws) (bk := bk) (wk := wk) (b3 := b3) ⟨hT, q1, B1.1, B1.2.1⟩ m1 hlen (tkS hA hv ha) (by omega) (fun M2 T2 A2 c2 => ⟨_, rfl, ?_⟩)
  obtain ⟨m2, f2, t2⟩ := A2
  refine kX7_teach_22 g9k g9 (hT.pp (i := 0) (j := 4) (x := 7) rfl rfl) (hT.pp (i := 0) (j := 9) (x := 34) rfl rfl) (hT.kd (i := 34) rfl) (hT.pp (i := 34) (j := 15) (x := 46) rfl rfl) (by omega) ?_ (hT.kd (i := 7) rfl)
  obtain ⟨M3, e3⟩ : ∃ x, mW M2 cl 1 0 = x := ⟨_, rfl⟩
  rw [e3]
  have m3 : RM M3 := by rw [← e3]; exact m2.w (by decide)
  have f3 : ∀ x, x ≠ cl → M3 x = M2 x := fun x hx => by rw [← e3]; exact mW_ne hx
  have v3 : M3 cl 1 = 0 := by rw [← e3]; exact mW_eq
  have f31 : ∀ x, x ≠ cl → (x < cl + 2 ∨ cl + 6 < x) → M3 x = M1 x := fun x h1 h2 => (f3 x h1).trans (f2 x h2)
  have B3 : Bf E S M3 cl bs ws bk wk b3 := B1.fr (fun x hx => f31 x (by omega) (by omega))
  refine gRead (c := its.length) (K := tK its) (LL := LL) hT m3 (fun i hi => by rw [f3 _ (by omega)]; exact (t2 i (by omega)).1) hlen (tK_le its hv) (tK_end its) (Bf.put B3 (by omega)).2.2.1 (by rw [f31 _ (by omega) (by omega)]; exact z3) (by rw [f31 _ (by omega) (by omega)]; exact z2) hLP (by rw [hLL, List.length_map]) (by rw [hLL]; exact tK_at its) hol hor hLl (by omega) (fun M4 s4 g4 => ⟨_, rfl, ?_⟩)
  have hTg := s4.1
  obtain ⟨S1, eS1⟩ : ∃ x, aPut S (cl + 7) 1 (some (cl + 46)) = x := ⟨_, rfl⟩
  have B1S : Bf E S1 M3 cl bs ws bk wk b3 := by rw [← eS1]; exact Bf.put B3 (by omega)
  have xS1 : aX S1 = aX S ∧ aZ S1 = aZ S := by rw [← eS1]; exact ⟨rfl, rfl⟩
  have oS1 : ∀ x, x ≠ cl + 7 → aK S1 x = aK S x ∧ aN S1 x = aN S x ∧ aP S1 x = aP S x := fun x hx => by rw [← eS1]; exact ⟨rfl, rfl, aPut_P hx⟩
  rw [eS1] at s4 hTg ⊢
  obtain ⟨gi, o1, o2, o3⟩ := g4
  have m4 := gi.1
  refine kX7_teach_41 (hTg.kd (i := 0) rfl) (hTg.pp (i := 0) (j := 4) (x := 7) rfl rfl) (hTg.kd (i := 7) rfl) (by decide) (fun h => absurd rfl h) (fun _ => ?_)
  refine kX7_teach_54 (hTg.kd (i := 0) rfl) (hTg.pp (i := 0) (j := 5) (x := 8) rfl rfl) (hTg.pp (i := 0) (j := 9) (x := 34) rfl rfl) (by omega) ?_ (hTg.kd (i := 8) rfl)
  have hT2 : TbS cl (aPut S1 (cl + 8) 2 (some (cl + 34))) cS := hTg.put (i := 8) (j := 2) (x := 34) rfl
  have f43 : ∀ x, x ≠ cl + 7 → (x < cl + 46 ∨ cl + 55 < x) → M4 x = M3 x := o3.1
  have B4 : Bf E (aPut S1 (cl + 8) 2 (some (cl + 34))) M4 cl bs ws bk wk b3 := Bf.put (B1S.fr (fun x hx => f43 x (by omega) (by omega))) (by omega)
  have q4 : Tq (aPut S1 (cl + 8) 2 (some (cl + 34))) M4 (cl + 1) (txt its).length f := by
    have e : M4 (cl + 1) = M1 (cl + 1) := (f43 _ (by omega) (by omega)).trans (f31 _ (by omega) (by omega))
    have g := q1.fr e
    refine ⟨?_, ?_, g.2.2⟩
    · exact hT2.kk (i := 1) rfl
    · exact hT2.nn (i := 1) rfl
  have z4 : ∀ x, cl + 34 ≤ x → x ≤ cl + 45 → M4 x = M1 x := fun x x1 x2 => (f43 x (by omega) (by omega)).trans (f31 x (by omega) (by omega))
  have w4 : win 11 M4 (cl + 34) = fun _ _ => 0 := by
    funext j k
    unfold win
    by_cases hj : j ≤ 11
    · rw [if_pos hj]
      by_cases hj0 : j = 0
      · subst hj0
        show M4 (cl + 34) k = 0
        rw [z4 _ (by omega) (by omega), z1 k, hz _ (by omega) (by omega)]
        split
        · rfl
        · rfl
      · rw [z4 _ (by omega) (by omega), f1 _ (by omega) (by omega), hz _ (by omega) (by omega)]
    · rw [if_neg hj]
  have t24 : ∀ x, cl + 2 < x → x ≤ cl + 6 → M4 x = M2 x := fun x x1 x2 => (f43 x (by omega) (by omega)).trans (f3 x (by omega))
  have hs4 : Sst cl (aPut S1 (cl + 8) 2 (some (cl + 34))) M4 (txt its).length f its.length (tK its) (tP its 0) (tL its) (tC its) := by
    refine ⟨hT2, q4, ⟨hlen, ?_⟩, fun i hi => ?_, tK_le its hv, fun i hi hk => ?_⟩
    · rw [f43 _ (by omega) (by omega), f3 _ (by omega)]; exact c2
    · rw [t24 (cl + 3) (by omega) (by omega), t24 (cl + 4) (by omega) (by omega), t24 (cl + 5) (by omega) (by omega)]
      obtain ⟨a1, a2, a3, _⟩ := t2 i (by omega)
      exact ⟨a1, a2, a3⟩
    · exact tkN f its 0 _ hA (Nat.zero_add _).symm i hi hk
  refine mX4_look (its := its) (by omega) hTg hs4 m4 B4.2.2.2 (fun i hi => by rw [t24 (cl + 6) (by omega) (by omega)]; exact (t2 i (by omega)).2.2.2) hlen (by rw [w4]; exact hok) hno (fun k hk => by rw [z4 _ (by omega) (by omega), z1 k, if_pos hk]) (fun M5 h5 => ⟨_, rfl, ?_⟩)
  rw [w4] at h5
  obtain ⟨S2, eS2⟩ : ∃ x, aPut S1 (cl + 8) 2 (some (cl + 34)) = x := ⟨_, rfl⟩
  have xS2 : aX S2 = aX S ∧ aZ S2 = aZ S := by rw [← eS2]; exact xS1
  have oS2 : ∀ x, x ≠ cl + 7 → x ≠ cl + 8 → aK S2 x = aK S x ∧ aN S2 x = aN S x ∧ aP S2 x = aP S x := fun x h1 h2 => by
    rw [← eS2]
    have := oS1 x h1
    exact ⟨this.1, this.2.1, (aPut_P h2).trans this.2.2⟩
  rw [eS2] at hT2 ⊢
  obtain ⟨m5, f5, v5, w5, _⟩ := h5
  refine kX7_teach_65 (hT2.kd (i := 0) rfl) (hT2.pp (i := 0) (j := 5) (x := 8) rfl rfl) (hT2.kd (i := 8) rfl) (kX7_teach_74 (by decide) (fun h => absurd rfl h) (fun _ => kX7_teach_79 ?_))
  refine kX7_teach_91 (hT2.kk (i := 0) rfl) (by decide) (fun h => absurd rfl h) (fun _ => ?_)
  obtain ⟨M6, e6⟩ : ∃ x, mW M5 cl 2 (-1) = x := ⟨_, rfl⟩
  rw [e6]
  have m6 : RM M6 := by rw [← e6]; exact m5.w (by decide)
  have f6 : ∀ x, x ≠ cl → M6 x = M5 x := fun x hx => by rw [← e6]; exact mW_ne hx
  have f64 : ∀ x, x ≠ cl → (cl + 45 < x) → M6 x = M4 x := fun x h1 h2 => (f6 x h1).trans (f5 x (by omega))
  refine kX7_teach_98 (hT2.kd (i := 0) rfl) (hT2.pp (i := 0) (j := 9) (x := 34) rfl rfl) (hT2.kd (i := 34) rfl) (hT2.pp (i := 34) (j := 15) (x := 46) rfl rfl) (hT2.pp (i := 0) (j := 3) (x := 2) rfl rfl) (by omega) ?_ (hT2.kd (i := 46) rfl)
  refine mX1_link (w := M6 (cl + 6)) (OL := lnO LL 0) (OR := lnR LL 0 0) hT2 m6 (by rw [f64 _ (by omega) (by omega)]; exact gi.2.2.2.2.1) (by rw [f64 _ (by omega) (by omega)]; exact o1) hol hor (fun i k t hi => ⟨by rw [f64 _ (by omega) (by omega)]; exact (gi.2.2.2.2.2 i k t hi).2, hob i k t hi⟩) (fun j r hr => ⟨by rw [f64 _ (by omega) (by omega)]; exact (o2 j r hr).2.1, hln j r hr⟩) (fun _ _ => rfl) (by omega) (fun M7 m7 f7 p7 r7 => ⟨_, rfl, ?_⟩)
  refine kX7_teach_112 (by omega) ?_ (hT2.kd (i := 0) rfl)
  have hT3 : TbS cl (aPut (aPut S2 cl 8 (some (cl + 34))) cl 9 (some (cl + 12))) (tPut (tPut cS 0 8 34) 0 9 12) := (hT2.put (i := 0) (j := 8) (x := 34) rfl).put (i := 0) (j := 9) (x := 12) rfl
  refine kX7_useDraft_0 (b2 := cl + 12) (b5 := cl + 34) (b10 := cl + 58) (b13 := cl + 34) (hT2.kd (i := 0) rfl) (hT2.pp (i := 0) (j := 8) (x := 12) rfl rfl) (hT2.pp (i := 0) (j := 9) (x := 34) rfl rfl) (hT2.kk (i := 0) rfl) (hT3.pp (i := 0) (j := 6) (x := 58) rfl rfl) (hT3.pp (i := 0) (j := 8) (x := 34) rfl rfl) (by omega) ?_ (hT2.kd (i := 58) rfl)
  obtain ⟨S3, eS3⟩ : ∃ x, aPut (aPut S2 cl 8 (some (cl + 34))) cl 9 (some (cl + 12)) = x := ⟨_, rfl⟩
  have xS3 : aX S3 = aX S ∧ aZ S3 = aZ S := by rw [← eS3]; exact xS2
  have oS3 : ∀ x, x < cl ∨ cl + 83 < x → aK S3 x = aK S x ∧ aN S3 x = aN S x ∧ aP S3 x = aP S x := fun x h1 => by
    rw [← eS3]
    have := oS2 x (by omega) (by omega)
    exact ⟨this.1, this.2.1, (aPut_P (by omega)).trans ((aPut_P (by omega)).trans this.2.2)⟩
  rw [eS3] at hT3 ⊢
  have hT4 : TbS cl (aPut S3 (cl + 58) 1 (some (cl + 34))) cV := hT3.put (i := 58) (j := 1) (x := 34) rfl
  have hU := cV_cU hT4
  refine mX6_begin (rk := cl + 56) (hT3.kk (i := 58) rfl) (cU_TrS_58 hU) (cU_RdS_34 hU) m7 (by omega) (fun M8 b8 => ⟨_, rfl, kX7_useDraft_29 ⟨_, rfl, kX7_teach_116 (q _ M8 (M6 (cl + 6)) ?_ ?_ ?_ hT4 (fun t ht => ?_) ?_)⟩⟩)
  · exact xS3.1
  · exact xS3.2
  · intro x hx
    have := oS3 x hx
    exact ⟨this.1, this.2.1, (aPut_P (by omega)).trans this.2.2⟩
  · rw [f6 _ (by omega), v5 t, if_pos ht]
  obtain ⟨m8, f8, w8⟩ := b8
  have f78 : ∀ x, x < cl + 58 → M8 x = M7 x := fun x hx => f8 x (by omega)
  have f71 : ∀ x, x < cl ∨ cl + 55 < x → M7 x = M x := fun x hx => by
    rw [f7 x (by omega) (by omega) (by omega), f6 x (by omega), f5 x (by omega), f43 x (by omega) (by omega), f3 x (by omega), f2 x (by omega), f1 x (by omega) (by omega)]
  refine ⟨m8, fun x hx => (f8 x (by omega)).trans (f71 x (by omega)), ⟨?_, fun x x1 x2 => (f8 x (by omega)).trans (f71 x (by omega))⟩, ?_, ?_, fun i k t hi => ⟨?_, ?_⟩, fun j r hr => ?_, ?_, fun j hj => ?_⟩
  · rw [f78 _ (by omega), f7 _ (by omega) (by omega) (by omega), ← e6, mW_ne2 (Or.inr (by decide)), f5 _ (by omega), f43 _ (by omega) (by omega)]
    exact v3
  · rw [← w5]
    exact win_fr (fun b b1 b2 => by rw [f78 _ (by omega), f7 _ (by omega) (by omega) (by omega), f6 _ (by omega)])
  · rw [f78 _ (by omega), f7 _ (by omega) (by omega) (by omega), f64 _ (by omega) (by omega)]
    exact o1
  · rw [f78 _ (by omega), f7 _ (by omega) (by omega) (by omega), f64 _ (by omega) (by omega)]
    exact (gi.2.2.2.2.2 i k t hi).1
  · rw [f78 _ (by omega)]
    exact p7 i k t hi
  · obtain ⟨a1, a2, a3, a4, a5⟩ := o2 j r hr
    obtain ⟨a6, a7⟩ := r7 j r hr
    refine ⟨?_, ?_, ?_, ?_, ?_, ?_⟩
    · rw [f78 _ (by omega), f7 _ (by omega) (by omega) (by omega), f64 _ (by omega) (by omega)]; exact a1
    · rw [f78 _ (by omega)]; exact a6
    · rw [f78 _ (by omega)]; exact a7
    · rw [f78 _ (by omega), f7 _ (by omega) (by omega) (by omega), f64 _ (by omega) (by omega)]; exact a3
    · rw [f78 _ (by omega), f7 _ (by omega) (by omega) (by omega), f64 _ (by omega) (by omega)]; exact a4
    · rw [f78 _ (by omega), f7 _ (by omega) (by omega) (by omega), f64 _ (by omega) (by omega)]; exact a5
  · rw [w8]
    congr 1
    · exact (win_fr (fun b b1 b2 => f78 _ (by omega))).symm
    · exact win_fr (fun b b1 b2 => f71 _ (by omega))
  · obtain ⟨a1, a2, a3⟩ := o3.2 j hj
    have z3 : ∀ x, cl + 51 ≤ x → x ≤ cl + 53 → M3 x j = 0 := fun x x1 x2 => by rw [f31 x (by omega) (by omega), f1 x (by omega) (by omega), hz x (by omega) (by omega)]
    refine ⟨?_, ?_, ?_⟩
    · rw [f78 _ (by omega), f7 _ (by omega) (by omega) (by omega), f64 _ (by omega) (by omega), a1]; exact z3 _ (by omega) (by omega)
    · rw [f78 _ (by omega), f7 _ (by omega) (by omega) (by omega), f64 _ (by omega) (by omega), a2]; exact z3 _ (by omega) (by omega)
    · rw [f78 _ (by omega), f7 _ (by omega) (by omega) (by omega), f64 _ (by omega) (by omega), a3]; exact z3 _ (by omega) (by omega)
end TE
