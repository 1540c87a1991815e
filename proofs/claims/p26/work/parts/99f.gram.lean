/-! grammar: need, accept, emit; what a method of it reads -/
section GR
variable {E : Nat → Value} {d : Nat} {S S' : aS} {M M' M0 : Nat → Nat → Int} {Q : Option (Option Value) → aS → aI → Prop} {cl c a : Nat} {K : Nat → Nat} {OL : List (Nat × Nat)}
def cG : rT := tPut cT 7 1 46
abbrev Gs (cl c : Nat) (S : aS) (K : Nat → Nat) (M0 : Nat → Nat → Int) : Prop := TbS cl S cG ∧ (∀ i, i ≤ c → M0 (cl + 3) i = (K i : Int)) ∧ c < 400 ∧ ∀ i, K i ≤ 50
/-- the grammar looks at token a, no token was wrong, these operations are written -/
def Gi (cl : Nat) (K : Nat → Nat) (M0 M : Nat → Nat → Int) (a : Nat) (OL : List (Nat × Nat)) : Prop :=
  RM M ∧ (M (cl + 7) 2 = 0 ∧ M (cl + 7) 3 = (a : Int) ∧ M (cl + 7) 4 = (K a : Int)) ∧ (∀ x, x ≠ cl + 7 → x ≠ cl + 46 → x ≠ cl + 54 → x ≠ cl + 55 → M x = M0 x) ∧ (∀ j, j ≠ 8 → M (cl + 46) j = M0 (cl + 46) j) ∧ M (cl + 46) 8 = (OL.length : Int) ∧ ∀ (i k t : Nat), OL[i]? = some (k, t) → M (cl + 54) i = (k : Int) ∧ M (cl + 55) i = (t : Int)
theorem Gi.cs {a' : Nat} {OL' : List (Nat × Nat)} (h : Gi cl K M0 M a OL) (e1 : a' = a) (e2 : OL' = OL) : Gi cl K M0 M a' OL' := by
  subst e1 e2
  exact h
theorem gNeed {x : Int} (hs : Gs cl c S K M0) (h : Gi cl K M0 M a OL) (ha : a < c) (hx : x = (K a : Int)) (q : ∀ M', Gi cl K M0 M' (a + 1) OL → Q (some none) S (mI M')) :
    X E d fX0_need 0 [some (.ref (cl + 7)), some (J x)] [] S (mI M) Q := by
  obtain ⟨hT, hK, hc, hKb⟩ := hs
  obtain ⟨hM, ⟨h2, h3, h4⟩, hf, ho, h8, hop⟩ := h
  have g7 : aKd S (cl + 7) = 2 := hT.kd (i := 7) rfl
  have g7k : aK S (cl + 7) = 2 := hT.kk (i := 7) rfl
  have p70 : aP S (cl + 7) 0 = some (cl + 2) := hT.pp (i := 7) (j := 0) (x := 2) rfl rfl
  have g2 : aKd S (cl + 2) = 7 := hT.kd (i := 2) rfl
  have p20 : aP S (cl + 2) 0 = some (cl + 3) := hT.pp (i := 2) (j := 0) (x := 3) rfl rfl
  have g3 : aKd S (cl + 3) = 100 := hT.kd (i := 3) rfl
  have n3 : aN S (cl + 3) = 401 := hT.nn (i := 3) rfl
  have hb := hKb a
  have hb1 := hKb (a + 1)
  subst hx
  refine kX0_need_0 g7 (hM _ _) (fun h => absurd h2 h) (fun _ => ?_)
  refine kX0_need_7 g7 (hM _ _) ⟨by omega, by omega⟩ (fun _ => ?_) (fun h => absurd h4 h)
  obtain ⟨M1, e1⟩ : ∃ x, mW M (cl + 7) 3 ((a + 1 : Nat) : Int) = x := ⟨_, rfl⟩
  have v1 : M1 (cl + 7) 3 = ((a + 1 : Nat) : Int) := by rw [← e1]; exact mW_eq
  have ez : nz (M (cl + 7) 3 + 1) = ((a + 1 : Nat) : Int) := by rw [h3, nz_eq ⟨by omega, by omega⟩]; omega
  have hk1 : M1 (cl + 3) (a + 1) = (K (a + 1) : Int) := by rw [← e1, mW_ne (by omega), hf _ (by omega) (by omega) (by omega) (by omega)]; exact hK _ (by omega)
  refine kX0_need_21 g7 g7k p70 g2 p20 (Or.inl g3) ?_ ⟨by omega, by omega⟩ (fun h => ?_) (fun _ => ?_)
  · rw [ez, e1, v1]; exact ⟨by omega, by omega⟩
  · rw [ez, e1, v1] at h; exact absurd h (by omega)
  · rw [ez, e1]
    refine kX0_need_47 g7 p70 g2 p20 g3 (by rw [v1]; exact ⟨by omega, by omega⟩) (by rw [v1]; exact ⟨by omega, by omega⟩) ?_
    rw [v1, Int.toNat_natCast, hk1]
    refine kX0_need_64 g7k (q (mW M1 (cl + 7) 4 (K (a + 1) : Int)) ⟨?_, ⟨?_, ?_, mW_eq⟩, fun x x1 x2 x3 x4 => ?_, fun j hj => ?_, ?_, fun i k t hi => ?_⟩)
    · rw [← e1]; exact (hM.w ⟨by omega, by omega⟩).w ⟨by omega, by omega⟩
    · rw [mW_ne2 (Or.inr (by decide)), ← e1, mW_ne2 (Or.inr (by decide))]; exact h2
    · rw [mW_ne2 (Or.inr (by decide))]; exact v1
    · rw [mW_ne x1, ← e1, mW_ne x1]; exact hf x x1 x2 x3 x4
    · rw [mW_ne (by omega), ← e1, mW_ne (by omega)]; exact ho j hj
    · rw [mW_ne (by omega), ← e1, mW_ne (by omega)]; exact h8
    · rw [mW_ne (by omega), mW_ne (by omega), ← e1, mW_ne (by omega), mW_ne (by omega)]; exact hop i k t hi
theorem gEmit {x y : Int} {k t : Nat} (hs : Gs cl c S K M0) (h : Gi cl K M0 M a OL) (hl : OL.length < 400) (hk : x = (k : Int)) (ht : y = (t : Int)) (hb : k ≤ 1000 ∧ t ≤ 1000) (q : ∀ M', Gi cl K M0 M' a (OL ++ [(k, t)]) → Q (some none) S (mI M')) :
    X E d fX1_emit 0 [some (.ref (cl + 46)), some (J x), some (J y)] [] S (mI M) Q := by
  obtain ⟨hT, hK, hc, hKb⟩ := hs
  obtain ⟨hM, ⟨h2, h3, h4⟩, hf, ho, h8, hop⟩ := h
  have g6 : aKd S (cl + 46) = 3 := hT.kd (i := 46) rfl
  have g6k : aK S (cl + 46) = 3 := hT.kk (i := 46) rfl
  have p9 : aP S (cl + 46) 9 = some (cl + 54) := hT.pp (i := 46) (j := 9) (x := 54) rfl rfl
  have p10 : aP S (cl + 46) 10 = some (cl + 55) := hT.pp (i := 46) (j := 10) (x := 55) rfl rfl
  have k54 : aK S (cl + 54) = 100 := hT.kk (i := 54) rfl
  have k55 : aK S (cl + 55) = 100 := hT.kk (i := 55) rfl
  have n54 : aN S (cl + 54) = 400 := hT.nn (i := 54) rfl
  have n55 : aN S (cl + 55) = 400 := hT.nn (i := 55) rfl
  subst hk ht
  have rl : R32 (OL.length : Int) := ⟨by omega, by omega⟩
  have e8 : ∀ z : Int, mW M (cl + 54) OL.length z (cl + 46) 8 = (OL.length : Int) := fun z => by rw [mW_ne (by omega)]; exact h8
  refine kX1_emit_0 g6 (hM _ _) (fun h => absurd h (by omega)) (fun _ => ?_)
  have e9 : mW (mW M (cl + 54) OL.length (k : Int)) (cl + 55) OL.length (t : Int) (cl + 46) 8 = (OL.length : Int) := by rw [mW_ne (by omega)]; exact e8 _
  refine kX1_emit_10 (M_15 := mW (mW M (cl + 54) OL.length (k : Int)) (cl + 55) OL.length (t : Int)) g6 p9 k54 (hM _ _) ⟨by omega, by omega⟩ p10 k55 (by rw [h8, Int.toNat_natCast, e8]; exact rl) (by rw [h8, Int.toNat_natCast, e8]; exact ⟨by omega, by omega⟩) (by rw [h8, Int.toNat_natCast, e8, Int.toNat_natCast]) g6k (kX1_emit_40 ?_)
  rw [e9, nz_eq ⟨by omega, by omega⟩]
  refine q _ ⟨((hM.w ⟨by omega, by omega⟩).w ⟨by omega, by omega⟩).w ⟨by omega, by omega⟩, ?_, fun x x1 x2 x3 x4 => ?_, fun j hj => ?_, ?_, fun i k' t' hi => ?_⟩
  · rw [mW_ne (by omega), mW_ne (by omega), mW_ne (by omega)]; exact ⟨h2, h3, h4⟩
  · rw [mW_ne x2, mW_ne x4, mW_ne x3]; exact hf x x1 x2 x3 x4
  · rw [mW_ne2 (Or.inr hj), mW_ne (by omega), mW_ne (by omega)]; exact ho j hj
  · rw [mW_eq, List.length_append]; show (OL.length : Int) + 1 = ((OL.length + 1 : Nat) : Int); omega
  · have ea : mW (mW (mW M (cl + 54) OL.length (k : Int)) (cl + 55) OL.length (t : Int)) (cl + 46) 8 ((OL.length : Int) + 1) (cl + 54) i = mW M (cl + 54) OL.length (k : Int) (cl + 54) i := by
      rw [mW_ne (show cl + 54 ≠ cl + 46 by omega), mW_ne (show cl + 54 ≠ cl + 55 by omega)]
    have eb : mW (mW (mW M (cl + 54) OL.length (k : Int)) (cl + 55) OL.length (t : Int)) (cl + 46) 8 ((OL.length : Int) + 1) (cl + 55) i = mW (mW M (cl + 54) OL.length (k : Int)) (cl + 55) OL.length (t : Int) (cl + 55) i := by
      rw [mW_ne (show cl + 55 ≠ cl + 46 by omega)]
    rw [ea, eb]
    by_cases c1 : i < OL.length
    · rw [List.getElem?_append_left c1] at hi
      rw [mW_ne2 (Or.inr (by omega)), mW_ne2 (Or.inr (by omega)), mW_ne (show cl + 55 ≠ cl + 54 by omega)]
      exact hop i k' t' hi
    · rw [List.getElem?_append_right (by omega)] at hi
      have hi2 := (List.getElem?_eq_some_iff.mp hi).1
      have hi3 : i - OL.length < 1 := hi2
      obtain rfl : i = OL.length := by omega
      rw [Nat.sub_self] at hi
      have e : (k, t) = (k', t') := Option.some.inj hi
      have e1 : k = k' := congrArg Prod.fst e
      have e2 : t = t' := congrArg Prod.snd e
      subst e1 e2
      exact ⟨mW_eq, mW_eq⟩
theorem gAcc1 {k : Nat} (hs : Gs cl c S K M0) (h : Gi cl K M0 M a OL) (ha : a < c) (hk : K a = k) (hd : 1 ≤ d) (q : ∀ M', Gi cl K M0 M' (a + 1) OL → Q (some (some (J 1))) S (mI M')) :
    X E d fX0_accept 0 [some (.ref (cl + 7)), some (J (k : Int)), none] [] S (mI M) Q := by
  have g7 : aKd S (cl + 7) = 2 := hs.1.kd (i := 7) rfl
  have hb := hs.2.2.2 a
  have hM := h.1
  have hv := h.2.1
  refine kX0_accept_0 g7 (hM _ _) (fun h => absurd hv.1 h) (fun _ => kX0_accept_7 g7 (hM _ _) ⟨by omega, by omega⟩ (fun h => absurd hv.2.2 (by omega)) (fun _ => kX0_accept_15 ?_))
  refine kX0_accept_20 (by decide) (fun h => absurd h (by decide)) (fun _ => kX0_accept_25 hd (gNeed hs h ha (by omega) (fun M' h' => ⟨_, rfl, kX0_accept_30 rfl (q M' h')⟩)) g7)
theorem gAcc0 {k : Nat} (hs : Gs cl c S K M0) (h : Gi cl K M0 M a OL) (hk : K a ≠ k) (hkb : k ≤ 50) (q : Q (some (some (J 0))) S (mI M)) :
    X E d fX0_accept 0 [some (.ref (cl + 7)), some (J (k : Int)), none] [] S (mI M) Q := by
  have g7 : aKd S (cl + 7) = 2 := hs.1.kd (i := 7) rfl
  have hb := hs.2.2.2 a
  have hM := h.1
  have hv := h.2.1
  refine kX0_accept_0 g7 (hM _ _) (fun h => absurd hv.1 h) (fun _ => kX0_accept_7 g7 (hM _ _) ⟨by omega, by omega⟩ (fun _ => kX0_accept_19 ?_) (fun h => absurd hv.2.2 (by omega)))
  exact kX0_accept_20 (by decide) (fun _ => kX0_accept_30 rfl q) (fun h => absurd rfl h)
theorem gWr (h : Gi cl K M0 M a OL) : Gi cl K M0 (mW M (cl + 7) 2 0) a OL := by
  obtain ⟨hM, ⟨h2, h3, h4⟩, hf, ho, h8, hop⟩ := h
  exact ⟨hM.w (by decide), ⟨mW_eq, by rw [mW_ne2 (Or.inr (by decide))]; exact h3, by rw [mW_ne2 (Or.inr (by decide))]; exact h4⟩, fun x x1 x2 x3 x4 => (mW_ne x1).trans (hf x x1 x2 x3 x4), fun j hj => by rw [mW_ne (by omega)]; exact ho j hj, by rw [mW_ne (by omega)]; exact h8, fun i k t hi => by rw [mW_ne (by omega), mW_ne (by omega)]; exact hop i k t hi⟩
theorem gDeep {x : Int} {dep : Nat} (hs : Gs cl c S K M0) (h : Gi cl K M0 M a OL) (ha : a < c) (hx : x = (K a : Int)) (hdp : dep < 8) (hd : 1 ≤ d) (q : ∀ M', Gi cl K M0 M' (a + 1) OL → Q (some none) S (mI M')) :
    X E d fX0_needDeeper 0 [some (.ref (cl + 7)), some (J x), some (J (dep : Int))] [] S (mI M) Q := by
  have g7 : aKd S (cl + 7) = 2 := hs.1.kd (i := 7) rfl
  have g7k : aK S (cl + 7) = 2 := hs.1.kk (i := 7) rfl
  have hM := h.1
  have hv := h.2.1
  refine kX0_needDeeper_0 g7 (hM _ _) (fun h => absurd hv.1 h) (fun _ => kX0_needDeeper_8 ⟨by omega, by omega⟩ (fun _ => kX0_needDeeper_18 ?_) (fun h => absurd h (by omega)))
  refine kX0_needDeeper_19 g7k rfl rfl hd (gNeed hs (gWr h) ha hx (fun M' h' => ⟨_, rfl, kX0_needDeeper_27 (q M' h')⟩)) g7
/-- a method of the grammar reads these kinds and writes these operations -/
def Ps (F : aF) (nl : List (Option Value)) (D e : Nat) (nx : Nat → Prop) (ks : List Nat) (op : Nat → List (Nat × Nat)) : Prop :=
  ∀ (E : Nat → Value) (d : Nat) (S : aS) (M M0 : Nat → Nat → Int) (Q : Option (Option Value) → aS → aI → Prop) (cl c : Nat) (K : Nat → Nat) (a dep : Nat) (OL : List (Nat × Nat)),
    Gs cl c S K M0 → Gi cl K M0 M a OL → D ≤ d → dep + e ≤ 8 → a + ks.length ≤ c → At K a ks → nx (K (a + ks.length)) → OL.length + (op a).length ≤ 400 →
    (∀ M', Gi cl K M0 M' (a + ks.length) (OL ++ op a) → Q (some none) S (mI M')) → X E d F 0 (some (.ref (cl + 7)) :: some (J (dep : Int)) :: nl) [] S (mI M) Q
def nT (_ : Nat) : Prop := True
def nP (k : Nat) : Prop := k ≠ 40 ∧ k ≠ 41
def nS (k : Nat) : Prop := nP k ∧ k ≠ 38 ∧ k ≠ 39
def nB (k : Nat) : Prop := nS k ∧ k ≠ 28
def nO (k : Nat) : Prop := nB k ∧ k ≠ 29
theorem At.h0 {f : Nat → Nat} {p x : Nat} {l : List Nat} (h : At f p (x :: l)) : f p = x := h 0 x rfl
theorem At.h1 {f : Nat → Nat} {p x y : Nat} {l : List Nat} (h : At f p (x :: y :: l)) : f (p + 1) = y := h 1 y rfl
/-- a number, day, coins -/
theorem psVat {k : Nat} (hk : k = 48 ∨ k = 18 ∨ k = 19) : Ps fX0_value [none] 1 0 nT [k] (fun a => [(k, a)]) := by
  intro E d S M M0 Q cl c K a dep OL hs h hd hdp hc hA hn ho q
  have g7 : aKd S (cl + 7) = 2 := hs.1.kd (i := 7) rfl
  have g6 : aKd S (cl + 46) = 3 := hs.1.kd (i := 46) rfl
  have p71 : aP S (cl + 7) 1 = some (cl + 46) := hs.1.pp (i := 7) (j := 1) (x := 46) rfl rfl
  have hM := h.1
  have hv := h.2.1
  have hka : K a = k := At.h0 hA
  have hc' : a + 1 ≤ c := hc
  have hc4 := hs.2.2.1
  have ho' : OL.length + 1 ≤ 400 := ho
  have go : X E d fX0_value 152 [some (.ref (cl + 7)), some (J (dep : Int)), some (J (M (cl + 7) 4))] [] S (mI M) Q := by
    refine kX0_value_152 g7 p71 hd ?_ g6
    refine gEmit hs h (by omega) (by rw [hv.2.2]) hv.2.1 ⟨by omega, by omega⟩ (fun M1 h1 => ⟨_, rfl, ?_⟩)
    refine kX0_value_164 hd (gNeed hs h1 (by omega) hv.2.2 (fun M2 h2 => ⟨_, rfl, kX0_value_169 (kX0_value_253 (q M2 ?_))⟩)) g7
    rw [hka] at h2
    exact h2
  refine kX0_value_0 g7 (hM _ _) (fun _ => ?_) (fun h => absurd hv.1 h)
  have e4 := hv.2.2
  rw [hka] at e4
  refine kX0_value_8 g7 (hM _ _) (fun h => ?_) (fun _ => go) (fun _ => go) (fun h => ?_) (fun h => ?_) (fun h => ?_) (fun h => ?_) (fun h => ?_) (fun h => ?_) (fun h => ?_) (fun h => ?_) (fun h => ?_) (fun _ => go)
  all_goals exact absurd h (by omega)
/-- what a name tells -/
theorem psNm {k : Nat} (hs : Gs cl c S K M0) (h : Gi cl K M0 M a OL) (h0 : K a = k) (h1 : K (a + 1) = 47) (hc : a + 2 ≤ c) (ho : OL.length + 1 ≤ 400) (hd : 1 ≤ d) (q : ∀ M', Gi cl K M0 M' (a + 2) (OL ++ [(k, a + 1)]) → Q (some none) S (mI M')) :
    X E d fX0_named 0 [some (.ref (cl + 7)), some (J (k : Int))] [] S (mI M) Q := by
  have g7 : aKd S (cl + 7) = 2 := hs.1.kd (i := 7) rfl
  have g6 : aKd S (cl + 46) = 3 := hs.1.kd (i := 46) rfl
  have p71 : aP S (cl + 7) 1 = some (cl + 46) := hs.1.pp (i := 7) (j := 1) (x := 46) rfl rfl
  have hc4 := hs.2.2.1
  have hb := hs.2.2.2 a
  refine kX0_named_0 hd (gNeed hs h (by omega) (by rw [h0]) (fun M1 g1 => ⟨_, rfl, ?_⟩)) g7
  refine kX0_named_5 g7 p71 hd (gEmit hs g1 (by omega) rfl g1.2.1.2.1 ⟨by omega, by omega⟩ (fun M2 g2 => ⟨_, rfl, ?_⟩)) g6
  exact kX0_named_17 hd (gNeed hs g2 (by omega) (by rw [h1]; rfl) (fun M3 g3 => ⟨_, rfl, kX0_named_23 (q M3 g3)⟩)) g7
theorem psVnm {k : Nat} (hk : k = 20 ∨ k = 22 ∨ k = 23 ∨ k = 24) : Ps fX0_value [none] 2 0 nT [k, 47] (fun a => [(k, a + 1)]) := by
  intro E d S M M0 Q cl c K a dep OL hs h hd hdp hc hA hn ho q
  have g7 : aKd S (cl + 7) = 2 := hs.1.kd (i := 7) rfl
  have hM := h.1
  have hv := h.2.1
  have hka : K a = k := At.h0 hA
  have hc' : a + 2 ≤ c := hc
  have e4 := hv.2.2
  rw [hka] at e4
  have go : X E d fX0_value 172 [some (.ref (cl + 7)), some (J (dep : Int)), some (J (M (cl + 7) 4))] [] S (mI M) Q := by
    rw [e4]
    exact kX0_value_172 (by omega) (psNm hs h hka (At.h1 hA) hc' ho (by omega) (fun M2 h2 => ⟨_, rfl, kX0_value_177 (kX0_value_253 (q M2 h2))⟩)) g7
  refine kX0_value_0 g7 (hM _ _) (fun _ => ?_) (fun h => absurd hv.1 h)
  refine kX0_value_8 g7 (hM _ _) (fun h => ?_) (fun h => ?_) (fun h => ?_) (fun _ => go) (fun h => ?_) (fun _ => go) (fun _ => go) (fun _ => go) (fun h => ?_) (fun h => ?_) (fun h => ?_) (fun h => ?_) (fun h => ?_)
  all_goals exact absurd h (by omega)
end GR
