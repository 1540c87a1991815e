/-! what is taught is the law's road -/
section ZI
variable {ce : Nat → Int} {R W O : Nat → Nat → Int} {w : Nat → Int}
abbrev RdC (ce : Nat → Int) (R : Nat → Nat → Int) (w : Nat → Int) : Prop :=
  IvR ce (C2 ce) (C4 ce) (C5 ce) R ∧ R 12 0 = (C6 ce : Int) ∧
  (∀ i, i < C6 ce → ∀ r : Nat × Nat × Nat × Nat × Nat, (lor ce i).2.2 (aO ce i) (oO ce i) = [r] → R 13 i = (r.1 : Int) ∧ R 15 i = w (r.2.1 + 1) ∧ R 16 i = w (r.2.1 + 3) ∧ R 17 i = (r.2.2.1 : Int) ∧ R 18 i = (r.2.2.2.1 : Int) ∧ R 19 i = (r.2.2.2.2 : Int)) ∧
  (∀ i, i < C6 ce → ∀ (j : Nat) (x : Nat × Nat), ((lor ce i).2.1 (aO ce i))[j]? = some x → R 20 (oO ce i + j) = (x.1 : Int) ∧ R 21 (oO ce i + j) = w x.2) ∧
  ∀ t, t < (itsL ce).length → w t = (wV 36 (itsL ce) t : Int)
theorem ex_st {f : Nat → Nat} : ∀ n m, m < psm f n → ∃ j, j < n ∧ psm f j ≤ m ∧ m < psm f (j + 1)
  | 0, m, h => absurd h (Nat.not_lt_zero _)
  | n + 1, m, h => by
    by_cases e : psm f n ≤ m
    · exact ⟨n, Nat.lt_succ_self _, e, h⟩
    · obtain ⟨j, h1, h2⟩ := ex_st (f := f) n m (by omega)
      exact ⟨j, by omega, h2⟩
theorem sSum_e {f : Nat → Nat} {g : Nat → Int} : ∀ n, (∀ j, j < n → g j = (f j : Int)) → sSum g n = (psm f n : Int)
  | 0, _ => rfl
  | n + 1, h => by
    show sSum g n + g n = ((psm f n + f n : Nat) : Int)
    rw [sSum_e n (fun j hj => h j (by omega)), h n (Nat.lt_succ_self _)]
    omega
theorem cn_of (h : RdC ce R w) : Cn (cC ce) R := by
  obtain ⟨⟨⟨a0, a1, a2, a3⟩, _⟩, h12, _⟩ := h
  have h2 := C2_b (ce := ce)
  have h4 := C4_b (ce := ce)
  have h5 := C5_b (ce := ce)
  have h6 := C6_b (ce := ce)
  have hm := mny_b (ce := ce)
  refine ⟨⟨a0, a1, a2, a3, h12⟩, ?_, ?_, ?_, ?_, ?_⟩
  · show C2 ce ≤ 5; omega
  · show mny ce ≤ 45; omega
  · show C4 ce ≤ 5; omega
  · show C5 ce ≤ 8; omega
  · show C6 ce ≤ 20; omega
theorem rst_of (h : RdC ce R w) : RSt (cC ce) R := by
  obtain ⟨⟨_, ha, hb, _⟩, _⟩ := h
  intro st hst
  have hst' : st < C2 ce := hst
  obtain ⟨g1, g2, g3⟩ := ha st hst'
  have hm := ml_b (ce := ce) st
  have hp := psm_mono (f := ml ce) (show st + 1 ≤ C2 ce by omega)
  have ep : psm (ml ce) (st + 1) = psm (ml ce) st + ml ce st := rfl
  have em : cC ce 3 = psm (ml ce) (C2 ce) := rfl
  refine ⟨by omega, by omega, by omega, fun m hm2 => ?_⟩
  have hm2' : m < psm (ml ce) (C2 ce) := hm2
  obtain ⟨j, j1, j2, j3⟩ := ex_st (f := ml ce) _ m hm2'
  have e4 := hb j j1 m j2 j3
  rw [e4, g1, g2]
  constructor
  · intro e
    have : j = st := by omega
    subst this
    omega
  · intro e
    by_cases c1 : j < st
    · have := psm_mono (f := ml ce) (show j + 1 ≤ st by omega)
      omega
    · by_cases c2 : st < j
      · have := psm_mono (f := ml ce) (show st + 1 ≤ j by omega)
        omega
      · have : j = st := by omega
        rw [this]
theorem rpk_of (h : RdC ce R w) : RPk (cC ce) R := by
  obtain ⟨⟨_, ha, hb, _, hd⟩, _⟩ := h
  refine ⟨fun a hA => ?_, fun m hm => ?_, fun s hs => ?_⟩
  · obtain ⟨e7, e8, e9, e10, e11⟩ := hd a hA
    have b1 := tw_b (ce := ce) a
    have b3 := tfr_b (ce := ce) a
    have b4 := tto_b (ce := ce) a
    have b5 := tev_b (ce := ce) a
    have em : cC ce 3 = mny ce := rfl
    omega
  · have hm' : m < psm (ml ce) (C2 ce) := hm
    obtain ⟨j, j1, j2, j3⟩ := ex_st (f := ml ce) _ m hm'
    have e4 := hb j j1 m j2 j3
    have e2 : cC ce 2 = C2 ce := rfl
    omega
  · have e := (ha s hs).2.2
    have := sf_b (ce := ce) s
    omega
/-- the context of an order -/
theorem cxt_of (h : RdC ce R w) (hW : WOk (cC ce) W) (i : Nat) : Cxt (cC ce) R W (orw ce i) := by
  have h2 := C2_b (ce := ce)
  have h4 := C4_b (ce := ce)
  have h5 := C5_b (ce := ce)
  have hn := (cn_of h).2
  have c4 := (bN_e (v := sh (X6 ce i) 5) (n := C2 ce) (by omega)).2
  have c5 := (bN_e (v := sh (Y6 ce i) 2) (n := C4 ce) (by omega)).2
  have c6 := (bN_e (v := sh (Y6 ce i) 4) (n := C5 ce) (by omega)).2
  exact ⟨hW, rst_of h, h.1.1.2.1, ⟨hn.1, hn.2.1, hn.2.2.1, hn.2.2.2.1⟩, ⟨c4, c5, c6⟩, fun q => orw_b i q⟩
/-- the worth of a token of an order -/
theorem wt_of (h : RdC ce R w) {i j : Nat} (hi : i < C6 ce) (hj : j < (orT ce i).length) : w (aO ce i + j) = (wV 36 (orT ce i) j : Int) := by
  obtain ⟨g1, g2⟩ := wO hi hj
  rw [h.2.2.2.2 _ g1, g2]
theorem orT_t {i : Nat} (hs : oso ce i ≠ 2) : ∃ x : Its, x.length = 5 ∧ lkd 36 x = 17 ∧ orT ce i = x ++ (tI (orw ce i) (o4 ce i).toNat ++ [(0, 36, 0)]) ∧ (wV 36 x 1 = owh ce i ∧ wV 36 x 3 = owi ce i) := by
  have h1 := owh_10 (ce := ce) i
  have h2 := owi_b (ce := ce) i
  have h4 := C4_b (ce := ce)
  have h0 := oso_b (ce := ce) i
  have m1 : ∀ {c k : Nat}, k < 10 → (c * 256 + 48 + k) % 256 - 48 = k := fun h => by omega
  by_cases c0 : oso ce i = 0
  · refine ⟨[(0, 12, 0), (1, 47, 116 * 256 + 48 + owh ce i), (1, 4, 0), (1, 47, 103 * 256 + 48 + owi ce i), (1, 17, 0)], rfl, rfl, ?_, ?_, ?_⟩
    · unfold orT orI; rw [if_pos c0]
    · exact m1 h1
    · exact m1 (by have := h2.2.1 c0; omega)
  · refine ⟨[(0, 13, 0), (1, 47, 103 * 256 + 48 + owh ce i), (1, 14, 0), (1, 48, owi ce i), (1, 17, 0)], rfl, rfl, ?_, ?_, ?_⟩
    · unfold orT orI; rw [if_neg c0, if_pos (by omega)]
    · exact m1 h1
    · rfl
theorem orT_s {i : Nat} (hs : oso ce i = 2) : ∃ (x y : Its), x.length = 3 ∧ lkd 36 x = 16 ∧ orT ce i = x ++ (sI (orw ce i) (owi ce i) ++ (y ++ [(0, 36, 0)])) ∧ wV 36 x 1 = owh ce i ∧ (0 ≤ o4 ce i → y = (1, 17, 0) :: tI (orw ce i) (o4 ce i).toNat) := by
  have h1 := owh_10 (ce := ce) i
  have m1 : ∀ {c k : Nat}, k < 10 → (c * 256 + 48 + k) % 256 - 48 = k := fun h => by omega
  refine ⟨[(0, 15, 0), (1, 47, 115 * 256 + 48 + owh ce i), (1, 16, 0)], (if o4 ce i < 0 then [] else (1, 17, 0) :: tI (orw ce i) (o4 ce i).toNat), rfl, rfl, ?_, m1 h1, fun h => ?_⟩
  · unfold orT orI; rw [if_neg (by omega), if_neg (by omega)]
  · rw [if_neg (by omega)]
/-- a test -/
theorem tst_of (h : RdC ce R w) (hW : WOk (cC ce) W) {i a o : Nat} (ho : Oof (O i) (orw ce i)) (h4 : O i 4 = o4 ce i) (h0 : 0 ≤ o4 ce i) (hw : ∀ j, j < (tI (orw ce i) (o4 ce i).toNat).length → w (a + j) = (wV 17 (tI (orw ce i) (o4 ce i).toNat) j : Int)) (hr : ∀ (j : Nat) (x : Nat × Nat), (oT (o4 ce i).toNat a)[j]? = some x → R 20 (o + j) = (x.1 : Int) ∧ R 21 (o + j) = w x.2) :
    sEv R W (o : Int) ((o + (oT (o4 ce i).toNat a).length : Nat) : Int) ≠ 0 ↔ hHold R W (O i) = true := by
  obtain ⟨h7, h8, h9⟩ := orw_789 (ce := ce) i
  have e := wT_e (z := w 0) h7 h8 h9 rfl hw
  have hb := o4_b (ce := ce) i
  have g := sEv_e (R := R) (W := W) (o := o) (l := vT (orw ce i) (w 0) (o4 ce i).toNat) (fun j x hx => by
    rw [← e, List.getElem?_map] at hx
    cases hy : (oT (o4 ce i).toNat a)[j]? with
    | none => rw [hy] at hx; cases hx
    | some y =>
      rw [hy] at hx
      have ex : cst w y = x := Option.some.inj hx
      rw [← ex]
      exact hr j y hy)
  rw [← e, List.length_map, e] at g
  rw [g]
  exact hT_e (cxt_of h hW i) ho (by omega) (by omega)
theorem sum_of (h : RdC ce R w) (hW : WOk (cC ce) W) {i a o : Nat} (ho : Oof (O i) (orw ce i)) (h2 : O i 2 = (owi ce i : Int)) (h5 : owi ce i ≤ 5) (hw : ∀ j, j < (sI (orw ce i) (owi ce i)).length → w (a + j) = (wV 16 (sI (orw ce i) (owi ce i)) j : Int)) (hr : ∀ (j : Nat) (x : Nat × Nat), (oS (owi ce i) a)[j]? = some x → R 20 (o + j) = (x.1 : Int) ∧ R 21 (o + j) = w x.2) :
    sEv R W (o : Int) ((o + (oS (owi ce i) a).length : Nat) : Int) = nz (hSum R W (O i)) := by
  obtain ⟨h7, h8, h9⟩ := orw_789 (ce := ce) i
  have e := wS_e (z := w 0) h7 h8 h9 rfl hw
  have g := sEv_e (R := R) (W := W) (o := o) (l := vS (orw ce i) (w 0) (owi ce i)) (fun j x hx => by
    rw [← e, List.getElem?_map] at hx
    cases hy : (oS (owi ce i) a)[j]? with
    | none => rw [hy] at hx; cases hx
    | some y =>
      rw [hy] at hx
      have ex : cst w y = x := Option.some.inj hx
      rw [← ex]
      exact hr j y hy)
  rw [← e, List.length_map, e] at g
  rw [g]
  exact hS_e (cxt_of h hW i) ho h2 h5
theorem lord_t {i : Nat} (hs : oso ce i ≠ 2) : (lor ce i).2.1 = (fun a => oT (o4 ce i).toNat (a + 5)) ∧ (lor ce i).2.2 = (fun a o => [((if oso ce i = 0 then 12 else 13), a, o, o, o + (oT (o4 ce i).toNat (a + 5)).length)]) := by
  have h0 := oso_b (ce := ce) i
  unfold lor lord
  by_cases c0 : oso ce i = 0
  · rw [if_pos c0]; exact ⟨rfl, by rw [if_pos c0]⟩
  · rw [if_neg c0, if_pos (by omega)]; exact ⟨rfl, by rw [if_neg c0]⟩
end ZI
