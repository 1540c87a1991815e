/-! what is taught is the law's road: its orders, and all -/
section ZJ
variable {ce : Nat → Int} {R W O : Nat → Nat → Int} {w : Nat → Int}
abbrev OrV (ce : Nat → Int) (O : Nat → Nat → Int) : Prop := ∀ i, i < C6 ce → ∀ q, q < 10 → O i q = vV ce 6 i q
theorem OrV.q (h : OrV ce O) {i q : Nat} (hi : i < C6 ce) (hq : q < 10) (h4 : q ≠ 4) : O i q = (orw ce i q : Int) := (h i hi q hq).trans (if_neg h4)
theorem OrV.f (h : OrV ce O) {i : Nat} (hi : i < C6 ce) : O i 4 = o4 ce i := (h i hi 4 (by decide)).trans rfl
theorem OrV.of (h : OrV ce O) {i : Nat} (hi : i < C6 ce) : Oof (O i) (orw ce i) := fun q hq h4 _ => h.q hi hq h4
theorem ordk_t (h : RdC ce R w) (hO : OrV ce O) {i : Nat} (hi : i < C6 ce) (hs : oso ce i ≠ 2) : (R 13 i = ((if oso ce i = 0 then 12 else 13 : Nat) : Int)) ∧ R 15 i = (owh ce i : Int) ∧ R 16 i = (owi ce i : Int) ∧ ∀ W, WOk (cC ce) W → (sEv R W (R 18 i) (R 19 i) ≠ 0 ↔ hHold R W (O i) = true) := by
  obtain ⟨e1, e2⟩ := lord_t (ce := ce) hs
  obtain ⟨x, x1, x2, x3, x4, x5⟩ := orT_t (ce := ce) hs
  obtain ⟨g13, g15, g16, g17, g18, g19⟩ := h.2.2.1 i hi _ (by rw [e2])
  have lx : (orT ce i).length = 5 + ((tI (orw ce i) (o4 ce i).toNat).length + 1) := by
    rw [x3, List.length_append, List.length_append, x1]
    rfl
  have b4 := (o4_b (ce := ce) i).2.2 hs
  refine ⟨g13, ?_, ?_, fun W hW => ?_⟩
  · rw [show R 15 i = w (aO ce i + 1) from g15, wt_of h hi (by omega), x3, wV_l _ _ _ _ (by omega), x4]
  · rw [show R 16 i = w (aO ce i + 3) from g16, wt_of h hi (by omega), x3, wV_l _ _ _ _ (by omega), x5]
  · have g := tst_of (a := aO ce i + 5) (o := oO ce i) h hW (hO.of hi) (hO.f hi) b4 (fun j hj => by
      rw [Nat.add_assoc, wt_of h hi (by omega), x3, ← x1, wV_r, x2, wV_l _ _ _ _ hj]) (fun j y hy => h.2.2.2.1 i hi j y (by rw [e1]; exact hy))
    rw [show R 18 i = (oO ce i : Int) from g18, show R 19 i = ((oO ce i + (oT (o4 ce i).toNat (aO ce i + 5)).length : Nat) : Int) from g19]
    exact g
theorem lord_s {i : Nat} (hs : oso ce i = 2) : (o4 ce i < 0 → (lor ce i).2.1 = (fun a => oS (owi ce i) (a + 3)) ∧ (lor ce i).2.2 = (fun a o => [(15, a, o, o + (oS (owi ce i) (a + 3)).length, o + (oS (owi ce i) (a + 3)).length)])) ∧
    (0 ≤ o4 ce i → (lor ce i).2.1 = (fun a => oS (owi ce i) (a + 3) ++ oT (o4 ce i).toNat (a + 3 + (kS (owi ce i)).length + 1)) ∧ (lor ce i).2.2 = (fun a o => [(15, a, o, o + (oS (owi ce i) (a + 3)).length, o + (oS (owi ce i) (a + 3)).length + (oT (o4 ce i).toNat (a + 3 + (kS (owi ce i)).length + 1)).length)])) := by
  unfold lor lord
  rw [if_neg (by omega), if_neg (by omega)]
  refine ⟨fun h => ?_, fun h => ?_⟩
  · rw [if_pos h]; exact ⟨rfl, rfl⟩
  · rw [if_neg (by omega)]; exact ⟨rfl, rfl⟩
theorem ordk_s (h : RdC ce R w) (hO : OrV ce O) {i : Nat} (hi : i < C6 ce) (hs : oso ce i = 2) : R 13 i = 15 ∧ R 15 i = (owh ce i : Int) ∧ ∀ W, WOk (cC ce) W → ((¬ R 18 i < R 19 i ∨ sEv R W (R 18 i) (R 19 i) ≠ 0) ↔ hHold R W (O i) = true) ∧ sEv R W (R 17 i) (R 18 i) = nz (hSum R W (O i)) := by
  obtain ⟨p1, p2⟩ := lord_s (ce := ce) hs
  obtain ⟨x, y, x1, x2, x3, x4, x5⟩ := orT_s (ce := ce) hs
  have lx : (orT ce i).length = 3 + ((sI (orw ce i) (owi ce i)).length + (y.length + 1)) := by
    rw [x3, List.length_append, List.length_append, List.length_append, x1]
    rfl
  have lk : (sI (orw ce i) (owi ce i)).length = (kS (owi ce i)).length := by
    have e := congrArg List.length (kS_i (orw ce i) (owi ce i))
    rw [List.length_map] at e
    exact e
  have h5 := (owi_b (ce := ce) i).2.2 (by omega) (by omega)
  have e2 : O i 2 = (owi ce i : Int) := hO.q hi (by decide) (by decide)
  have hw3 : ∀ j, j < (sI (orw ce i) (owi ce i)).length → w (aO ce i + 3 + j) = (wV 16 (sI (orw ce i) (owi ce i)) j : Int) := fun j hj => by
    rw [Nat.add_assoc, wt_of h hi (by omega), x3, ← x1, wV_r, x2, wV_l _ _ _ _ hj]
  have f15 : w (aO ce i + 1) = (owh ce i : Int) := by rw [wt_of h hi (by omega), x3, wV_l _ _ _ _ (by omega), x4]
  by_cases c4 : o4 ce i < 0
  · obtain ⟨e1, e2'⟩ := p1 c4
    obtain ⟨g13, g15, g16, g17, g18, g19⟩ := h.2.2.1 i hi _ (by rw [e2'])
    refine ⟨g13, g15.trans f15, fun W hW => ⟨?_, ?_⟩⟩
    · have b4 := (o4_b (ce := ce) i).1
      rw [hHold_0 (by rw [hO.f hi]; omega)]
      refine ⟨fun _ => rfl, fun _ => Or.inl ?_⟩
      rw [g18, g19]
      exact Int.lt_irrefl _
    · have g := sum_of (a := aO ce i + 3) (o := oO ce i) h hW (hO.of hi) e2 h5 hw3 (fun j y hy => h.2.2.2.1 i hi j y (by rw [e1]; exact hy))
      rw [show R 17 i = (oO ce i : Int) from g17, show R 18 i = ((oO ce i + (oS (owi ce i) (aO ce i + 3)).length : Nat) : Int) from g18]
      exact g
  · have c4' : 0 ≤ o4 ce i := by omega
    obtain ⟨e1, e2'⟩ := p2 c4'
    obtain ⟨g13, g15, g16, g17, g18, g19⟩ := h.2.2.1 i hi _ (by rw [e2'])
    have ey := x5 c4'
    have ly : y.length = 1 + (tI (orw ce i) (o4 ce i).toNat).length := by rw [ey, List.length_cons]; omega
    refine ⟨g13, g15.trans f15, fun W hW => ⟨?_, ?_⟩⟩
    · have g := tst_of (a := aO ce i + 3 + (kS (owi ce i)).length + 1) (o := oO ce i + (oS (owi ce i) (aO ce i + 3)).length) h hW (hO.of hi) (hO.f hi) c4' (fun j hj => by
        rw [← lk, show aO ce i + 3 + (sI (orw ce i) (owi ce i)).length + 1 + j = aO ce i + (3 + ((sI (orw ce i) (owi ce i)).length + (1 + j))) by omega, wt_of h hi (by omega), x3, ← x1, wV_r, wV_r, ey]
        show ((wV _ ([(1, 17, 0)] ++ (tI (orw ce i) (o4 ce i).toNat ++ [(0, 36, 0)])) ([((1 : Nat), (17 : Nat), (0 : Nat))].length + j) : Nat) : Int) = _
        rw [wV_r]
        show ((wV 17 (tI (orw ce i) (o4 ce i).toNat ++ [(0, 36, 0)]) j : Nat) : Int) = _
        rw [wV_l _ _ _ _ hj]) (fun j y hy => by
        rw [Nat.add_assoc]
        refine h.2.2.2.1 i hi _ y ?_
        rw [e1]
        show (oS (owi ce i) (aO ce i + 3) ++ oT (o4 ce i).toNat (aO ce i + 3 + (kS (owi ce i)).length + 1))[_]? = some y
        rw [List.getElem?_append_right (Nat.le_add_right _ _), Nat.add_sub_cancel_left]
        exact hy)
      have hne : 0 < (oT (o4 ce i).toNat (aO ce i + 3 + (kS (owi ce i)).length + 1)).length := by
        unfold oT
        (repeat' split) <;> exact Nat.succ_pos _
      rw [show R 18 i = ((oO ce i + (oS (owi ce i) (aO ce i + 3)).length : Nat) : Int) from g18, show R 19 i = ((oO ce i + (oS (owi ce i) (aO ce i + 3)).length + (oT (o4 ce i).toNat (aO ce i + 3 + (kS (owi ce i)).length + 1)).length : Nat) : Int) from g19]
      constructor
      · intro z
        rcases z with z | z
        · exact absurd (by omega) z
        · exact g.mp z
      · intro z
        exact Or.inr (g.mpr z)
    · have g := sum_of (a := aO ce i + 3) (o := oO ce i) h hW (hO.of hi) e2 h5 hw3 (fun j y hy => by
        refine h.2.2.2.1 i hi _ y ?_
        rw [e1]
        show (oS (owi ce i) (aO ce i + 3) ++ oT (o4 ce i).toNat (aO ce i + 3 + (kS (owi ce i)).length + 1))[_]? = some y
        rw [List.getElem?_append_left (List.getElem?_eq_some_iff.mp hy).1]
        exact hy)
      rw [show R 17 i = (oO ce i : Int) from g17, show R 18 i = ((oO ce i + (oS (owi ce i) (aO ce i + 3)).length : Nat) : Int) from g18]
      exact g
theorem rdk_of (h : RdC ce R w) (hO : OrV ce O) : RdK (cC ce) R O := by
  have e6 : cC ce 6 = C6 ce := rfl
  have e2 : cC ce 2 = C2 ce := rfl
  have h2 := C2_b (ce := ce)
  have h4 := C4_b (ce := ce)
  have h5 := C5_b (ce := ce)
  have hm := mny_b (ce := ce)
  refine ⟨fun i hi => ?_, fun i hi => ?_, fun i hi => ?_, rpk_of h, rst_of h⟩
  · have hi' : i < C6 ce := hi
    rw [hO.q hi' (q := 3) (by decide) (by decide), hO.q hi' (q := 5) (by decide) (by decide), hO.q hi' (q := 6) (by decide) (by decide), hO.q hi' (q := 7) (by decide) (by decide), hO.q hi' (q := 8) (by decide) (by decide), hO.q hi' (q := 9) (by decide) (by decide)]
    have c1 := (bN_e (v := sh (X6 ce i) 6) (n := 100) (by decide)).2
    have c2 := (bN_e (v := sh (Y6 ce i) 3) (n := 100) (by decide)).2
    have c3 := (bN_e (v := sh (Y6 ce i) 5) (n := mny ce + 2) (by omega)).2
    have c4 := (bN_e (v := sh (X6 ce i) 5) (n := C2 ce) (by omega)).2
    have c5 := (bN_e (v := sh (Y6 ce i) 2) (n := C4 ce) (by omega)).2
    have c6 := (bN_e (v := sh (Y6 ce i) 4) (n := C5 ce) (by omega)).2
    have e3 : orw ce i 3 = bN (sh (X6 ce i) 6) 100 := rfl
    have e5 : orw ce i 5 = bN (sh (Y6 ce i) 3) 100 := rfl
    have e6 : orw ce i 6 = bN (sh (Y6 ce i) 5) (mny ce + 2) := rfl
    have e7 : orw ce i 7 = bN (sh (X6 ce i) 5) (C2 ce) := rfl
    have e8 : orw ce i 8 = bN (sh (Y6 ce i) 2) (C4 ce) := rfl
    have e9 : orw ce i 9 = bN (sh (Y6 ce i) 4) (C5 ce) := rfl
    have d2 : cC ce 2 = C2 ce := rfl
    have d4 : cC ce 4 = C4 ce := rfl
    have d5 : cC ce 5 = C5 ce := rfl
    omega
  · have hi' : i < C6 ce := hi
    have q0 : O i 0 = (oso ce i : Int) := hO.q hi' (by decide) (by decide)
    have q1 : O i 1 = (owh ce i : Int) := hO.q hi' (by decide) (by decide)
    have q2 : O i 2 = (owi ce i : Int) := hO.q hi' (by decide) (by decide)
    have h0 := oso_b (ce := ce) i
    by_cases hs : oso ce i = 2
    · obtain ⟨g1, g2, g3⟩ := ordk_s h hO hi' hs
      exact ⟨by omega, by omega, by omega, by omega, fun z => by omega, fun W _ z => by omega, fun W hW _ => g3 W hW⟩
    · obtain ⟨g1, g2, g3, g4⟩ := ordk_t h hO hi' hs
      refine ⟨?_, ?_, ?_, by omega, fun z => by omega, fun W hW _ => g4 W hW, fun W _ z => by omega⟩
      · rw [g1, q0]; split <;> omega
      · rw [g1, q0]; split <;> omega
      · rw [g1, q0]; split <;> omega
  · have hi' : i < C6 ce := hi
    have q0 : O i 0 = (oso ce i : Int) := hO.q hi' (by decide) (by decide)
    have q1 : O i 1 = (owh ce i : Int) := hO.q hi' (by decide) (by decide)
    have q2 : O i 2 = (owi ce i : Int) := hO.q hi' (by decide) (by decide)
    have b1 := owh_b (ce := ce) i
    have b2 := owi_b (ce := ce) i
    refine ⟨by omega, by omega, fun z => ?_⟩
    rw [if_neg (by omega), if_neg (by omega)] at b1
    omega
theorem rd_of (h : RdC ce R w) (hO : OrV ce O) : Rd (cC ce) R O := by
  have hn := cn_of h
  have hk := rdk_of h hO
  have h2 := C2_b (ce := ce)
  have h4 := C4_b (ce := ce)
  have h5 := C5_b (ce := ce)
  have h6 := C6_b (ce := ce)
  have hm := mny_b (ce := ce)
  have d2 : cC ce 2 = C2 ce := rfl
  have d3 : cC ce 3 = mny ce := rfl
  have d4 : cC ce 4 = C4 ce := rfl
  have d5 : cC ce 5 = C5 ce := rfl
  have d6 : cC ce 6 = C6 ce := rfl
  have n1 := hn.1
  have n2 := hn.2
  refine ⟨hn, hk, ⟨by omega, fun a ha => ?_, fun s hs => ?_, fun i hi h15 => ?_⟩, fun st hst => ?_, fun k k0 hk2 => ?_, fun g hg => ?_, by omega⟩
  · have := hk.2.2.2.1.1 a (by omega)
    omega
  · have := hk.2.2.2.2 s (by omega)
    omega
  · have hi' : i < cC ce 6 := by omega
    have g := hk.2.1 i hi'
    have g2 := hk.2.2.1 i hi'
    have e := g.2.2.1.mp h15
    have e2 := g2.2.2 e
    have e3 := g.2.2.2.1
    omega
  · have hst' : st < C2 ce := hst
    rw [(h.1.2.1 st hst').2.1, sSum_e st (fun j hj => (h.1.2.1 j (by omega)).1)]
  · have hm1 : k - 1 < psm (ml ce) (C2 ce) := by have e : mny ce = psm (ml ce) (C2 ce) := rfl; omega
    have hm2 : k < psm (ml ce) (C2 ce) := by have e : mny ce = psm (ml ce) (C2 ce) := rfl; omega
    obtain ⟨j1, a1, a2, a3⟩ := ex_st (f := ml ce) _ _ hm1
    obtain ⟨j2, c1, c2, c3⟩ := ex_st (f := ml ce) _ _ hm2
    rw [h.1.2.2.1 j1 a1 _ a2 a3, h.1.2.2.1 j2 c1 _ c2 c3]
    by_cases e : j1 ≤ j2
    · omega
    · have := psm_mono (f := ml ce) (show j2 + 1 ≤ j1 by omega)
      omega
  · have hg' : g < C4 ce := hg
    have e := (h.1.2.2.2.1 g hg').1
    have := ga_b (ce := ce) g
    omega
end ZJ
