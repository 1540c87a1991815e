/-! a day, exactly: rents, mending, and all of it -/
section DAY2
variable {c : Nat → Nat} {R W O : Nat → Nat → Int} {N q : Nat}
/-- rents settled, the gates up to g -/
abbrev R3 (c : Nat → Nat) (W2 W : Nat → Nat → Int) (g : Nat) : Prop :=
  (∀ j, j ≠ 0 → j ≠ 6 → W j = W2 j) ∧ W 0 2 = W2 0 2 ∧ (W 0 3 + sSum (W 6) (c 4) + (sSum (W2 8) (c 4) - sSum (W2 8) g) = W2 0 3 + sSum (W2 6) (c 4) + sSum (W2 8) (c 4))
theorem rents_x (hN : N ≤ 1400) {W2 : Nat → Nat → Int} (hc4 : c 4 ≤ 5) (hq : q ≤ 2250) (hB2 : Bd N q W2) (h8 : ∀ g, W2 7 g = -1 → W2 8 g = 0) : ∀ (n g : Nat) {W : Nat → Nat → Int}, g + n = c 4 → R3 c W2 W g → (0 ≤ W 0 3 ∧ W 0 3 ≤ 99999 + 120 * (q : Int) + 999 * (g : Int)) → (∀ i, g ≤ i → W 6 i = W2 6 i) → (∀ i, -(270000 * ((N + 1 : Nat) : Int)) ≤ W 6 i ∧ W 6 i ≤ 270000 * ((N + 1 : Nat) : Int)) → WOk c W →
    R3 c W2 (sRents g n W) (c 4) ∧ (0 ≤ sRents g n W 0 3 ∧ sRents g n W 0 3 ≤ 99999 + 120 * (q : Int) + 999 * 5) ∧ (∀ i, -(270000 * ((N + 1 : Nat) : Int)) ≤ sRents g n W 6 i ∧ sRents g n W 6 i ≤ 270000 * ((N + 1 : Nat) : Int)) ∧ WOk c (sRents g n W)
  | 0, g, W, hg, h, hb, _, h6, hW => by
    have e : g = c 4 := by omega
    subst e
    exact ⟨h, ⟨hb.1, Int.le_trans hb.2 (by omega)⟩, h6, hW⟩
  | n + 1, g, W, hg, h, hb, hs, h6, hW => by
    obtain ⟨r1, r2, r3⟩ := h
    have e7 : W 7 g = W2 7 g := by rw [r1 7 (by decide) (by decide)]
    have e8 : W 8 g = W2 8 g := by rw [r1 8 (by decide) (by decide)]
    have b7 : -1 ≤ W2 7 g ∧ W2 7 g ≤ 999 := hB2 7 g
    have b8 : 0 ≤ W2 8 g ∧ W2 8 g ≤ 120 * (q : Int) := hB2 8 g
    have b6 : -(270000 * (N : Int)) ≤ W2 6 g ∧ W2 6 g ≤ 270000 * (N : Int) := hB2 6 g
    have es : sSum (W2 8) (g + 1) = sSum (W2 8) g + W2 8 g := rfl
    unfold sRents
    by_cases f : W 7 g = -1
    · rw [if_pos f]
      have z := h8 g (by omega)
      refine rents_x hN hc4 hq hB2 h8 n (g + 1) (by omega) ⟨r1, r2, ?_⟩ ⟨hb.1, by omega⟩ (fun i hi => hs i (by omega)) h6 hW
      rw [es, z]
      omega
    · rw [if_neg f]
      have e6 : W 6 g = W2 6 g := hs g (Nat.le_refl _)
      have x3 : nz (W 0 3 + W 7 g) = W 0 3 + W 7 g := nz_eq ⟨by omega, by omega⟩
      have x6 : nz (W 6 g + (W 8 g - W 7 g)) = W 6 g + (W 8 g - W 7 g) := nz_eq ⟨by omega, by omega⟩
      rw [x3, x6]
      refine rents_x hN hc4 hq hB2 h8 n (g + 1) (by omega) ⟨fun j h0 h6 => ?_, ?_, ?_⟩ ?_ (fun i hi => ?_) (fun i => ?_) ((hW.w (by decide) ⟨by omega, by omega⟩).w (by decide) ⟨by omega, by omega⟩)
      · rw [mW_ne h6, mW_ne h0]
        exact r1 j h0 h6
      · rw [mW_ne (by decide), mW_at (by decide)]
        exact r2
      · rw [mW_ne (by decide), mW_self, sSum_w (by omega), mW_ne (by decide), es]
        omega
      · rw [mW_ne (by decide), mW_self]
        omega
      · rw [mW_at (by omega), mW_ne (by decide)]
        exact hs i (by omega)
      · rw [mW_row, mW_ne (by decide)]
        split
        · omega
        · exact h6 i
/-- coins spent one by one: conditions get more, by 1 to 4 each -/
theorem spend_x {st : Nat} (hR : 0 ≤ R 2 st ∧ 1 ≤ R 1 st ∧ R 2 st + R 1 st ≤ (c 3 : Int)) : ∀ (n : Nat) {W : Nat → Nat → Int}, (∀ i, 0 ≤ W 1 i ∧ W 1 i ≤ 100) →
    (sSpend R st n W).1 ≤ n ∧ (∀ j, j ≠ 1 → (sSpend R st n W).2 j = W j) ∧ (∀ i, W 1 i ≤ (sSpend R st n W).2 1 i ∧ (sSpend R st n W).2 1 i ≤ 100) ∧ (((sSpend R st n W).1 : Int) ≤ sSum ((sSpend R st n W).2 1) (c 3) - sSum (W 1) (c 3) ∧ sSum ((sSpend R st n W).2 1) (c 3) - sSum (W 1) (c 3) ≤ 4 * ((sSpend R st n W).1 : Int))
  | 0, W, h => ⟨Nat.le_refl _, fun _ _ => rfl, fun i => ⟨Int.le_refl _, (h i).2⟩, by show ((0 : Nat) : Int) ≤ sSum (W 1) (c 3) - sSum (W 1) (c 3); omega, by show sSum (W 1) (c 3) - sSum (W 1) (c 3) ≤ 4 * ((0 : Nat) : Int); omega⟩
  | n + 1, W, h => by
    have hwi := sWst_in (f := W 1) (a := (R 2 st).toNat) (R 1 st).toNat
    have hm : sWst (W 1) (R 2 st).toNat (R 1 st).toNat < c 3 := by omega
    unfold sSpend
    dsimp only
    generalize sWst (W 1) (R 2 st).toNat (R 1 st).toNat = m at hm ⊢
    have b := h m
    by_cases e : 100 ≤ W 1 m
    · rw [if_pos e]
      exact ⟨Nat.zero_le _, fun _ _ => rfl, fun i => ⟨Int.le_refl _, (h i).2⟩, by show ((0 : Nat) : Int) ≤ sSum (W 1) (c 3) - sSum (W 1) (c 3); omega, by show sSum (W 1) (c 3) - sSum (W 1) (c 3) ≤ 4 * ((0 : Nat) : Int); omega⟩
    · rw [if_neg e, nz_eq (x := min 100 (W 1 m + 4)) ⟨by omega, by omega⟩]
      have z := spend_x hR n (W := mW W 1 m (min 100 (W 1 m + 4))) (fun i => by
        rw [mW_row]
        split
        · omega
        · exact h i)
      dsimp only
      generalize sSpend R st n (mW W 1 m (min 100 (W 1 m + 4))) = q at z ⊢
      obtain ⟨z1, z2, z3, z4, z5⟩ := z
      rw [sSum_w hm] at z4 z5
      refine ⟨by omega, fun j hj => ?_, fun i => ?_, ?_, ?_⟩
      · rw [z2 j hj, mW_ne hj]
      · have y := z3 i
        rw [mW_row] at y
        split at y
        · rename_i ei
          subst ei
          omega
        · exact y
      · rw [Int.natCast_add]
        omega
      · rw [Int.natCast_add]
        omega
/-- mended so far on a day -/
abbrev R4 (c : Nat → Nat) (W3 W : Nat → Nat → Int) : Prop :=
  (∀ j, j ≠ 0 → j ≠ 1 → j ≠ 3 → W j = W3 j) ∧ W 0 2 = W3 0 2 ∧ (∀ i, W3 1 i ≤ W 1 i ∧ W 1 i ≤ 100) ∧ (W 0 3 + sSum (W 3) (c 2) = W3 0 3 + sSum (W3 3) (c 2)) ∧ (0 ≤ W 0 3 ∧ W 0 3 ≤ W3 0 3) ∧ (sSum (W 3) (c 2) - sSum (W3 3) (c 2) ≤ sSum (W 1) (c 3) - sSum (W3 1) (c 3) ∧ sSum (W 1) (c 3) - sSum (W3 1) (c 3) ≤ 4 * (sSum (W 3) (c 2) - sSum (W3 3) (c 2)))
theorem mend_x {W3 : Nat → Nat → Int} {i st : Nat} {x : Int} (hst : st < c 2) (hc : c 3 ≤ 45) (hR : 0 ≤ R 2 st ∧ 1 ≤ R 1 st ∧ R 2 st + R 1 st ≤ (c 3 : Int)) (hN : N ≤ 1400) (hi : i ≤ 30) (h3 : W3 0 3 ≤ 1000000) (h0 : ∀ i, 0 ≤ W3 1 i) (h : R4 c W3 W) (hb : ∀ s, 0 ≤ W 3 s ∧ W 3 s ≤ 100000 * (N : Int) + 4500 * (i : Int)) (hx : x ≤ W 0 3) :
    R4 c W3 (sMend R W st x).2 ∧ (∀ s, 0 ≤ (sMend R W st x).2 3 s ∧ (sMend R W st x).2 3 s ≤ 100000 * (N : Int) + 4500 * ((i + 1 : Nat) : Int)) ∧ (0 ≤ (sMend R W st x).1 ∧ (sMend R W st x).1 ≤ 4500) := by
  obtain ⟨r1, r2, r3, r4, r5, r6⟩ := h
  have hp : ∀ i, 0 ≤ W 1 i ∧ W 1 i ≤ 100 := fun i => by
    have a := h0 i
    have b := r3 i
    omega
  have z := spend_x (c := c) hR x.toNat hp
  unfold sMend
  dsimp only
  generalize sSpend R st x.toNat W = q at z ⊢
  obtain ⟨z1, z2, z3, z4, z5⟩ := z
  have s1 := sSum_in (f := q.2 1) (b := 100) (c 3) (fun i _ => ⟨Int.le_trans (hp i).1 (z3 i).1, (z3 i).2⟩)
  have s2 := sSum_in (f := W 1) (b := 100) (c 3) (fun i _ => hp i)
  have hk : (q.1 : Int) ≤ 4500 := by omega
  have e03 : q.2 0 3 = W 0 3 := by rw [z2 0 (by decide)]
  have e3 : q.2 3 st = W 3 st := by rw [z2 3 (by decide)]
  have bs := hb st
  rw [e03, e3, nz_eq (x := W 0 3 - (q.1 : Int)) ⟨by omega, by omega⟩, nz_eq (x := W 3 st + (q.1 : Int)) ⟨by omega, by omega⟩]
  refine ⟨⟨fun j j0 j1 j3 => ?_, ?_, fun i => ?_, ?_, ?_, ?_⟩, fun s => ?_, by omega, hk⟩
  · rw [mW_ne j3, mW_ne j0, z2 j j1]
    exact r1 j j0 j1 j3
  · rw [mW_ne (by decide), mW_at (by decide), z2 0 (by decide)]
    exact r2
  · rw [mW_ne (by decide), mW_ne (by decide)]
    have a := r3 i
    have b := z3 i
    omega
  · rw [mW_ne (by decide), mW_self, sSum_w hst, mW_ne (by decide), e3, z2 3 (by decide)]
    omega
  · rw [mW_ne (by decide), mW_self]
    omega
  · rw [sSum_w hst, mW_ne (by decide), e3, z2 3 (by decide), sSum_ne (by decide), sSum_ne (by decide)]
    omega
  · rw [mW_row, mW_ne (by decide), z2 3 (by decide)]
    split
    · omega
    · have := hb s
      omega
theorem mends_x (hn : Cn c R) (hK : RdK c R O) (hN : N ≤ 1400) {W3 : Nat → Nat → Int} (h3 : W3 0 3 ≤ 1000000) (h0 : ∀ i, 0 ≤ W3 1 i) : ∀ (n i : Nat) {W : Nat → Nat → Int}, i + n = c 6 → R4 c W3 W → (∀ s, 0 ≤ W 3 s ∧ W 3 s ≤ 100000 * (N : Int) + 4500 * (i : Int)) → WOk c W →
    R4 c W3 (sMends R i n W) ∧ (∀ s, 0 ≤ sMends R i n W 3 s ∧ sMends R i n W 3 s ≤ 100000 * (N : Int) + 4500 * ((c 6 : Nat) : Int)) ∧ WOk c (sMends R i n W)
  | 0, i, W, hi, h, hb, hW => by
    have e : i = c 6 := by omega
    subst e
    exact ⟨h, hb, hW⟩
  | n + 1, i, W, hi, h, hb, hW => by
    have hc := hn.2
    unfold sMends
    split
    · rename_i hcnd
      have ho := hK.2.1 i (by omega)
      have ho2 := ho.2.2.1.mp hcnd.1
      have hp := (hK.2.2.1 i (by omega)).2.2 ho2
      have e15 : R 15 i = O i 1 := ho.2.2.2.1
      have hst : (R 15 i).toNat < c 2 := by omega
      have hr := hK.2.2.2.2 (R 15 i).toNat hst
      have z := mend_x (x := min (sEv R W (R 17 i) (R 18 i)) (W 0 3)) hst hc.2.1 ⟨hr.1, hr.2.1, hr.2.2.1⟩ hN (by omega : i ≤ 30) h3 h0 h hb (Int.min_le_right _ _)
      exact mends_x hn hK hN h3 h0 n (i + 1) (by omega) z.1 z.2.1 (hW.mend hK.2.2.2.2 hst)
    · exact mends_x hn hK hN h3 h0 n (i + 1) (by omega) h (fun s => by have := hb s; omega) hW
/-- what a day does, all in all -/
abbrev DayX (c : Nat → Nat) (R W W' : Nat → Nat → Int) : Prop :=
  W' 0 2 = W 0 2 + 1 ∧ (∀ b, b < c 5 → Tr R W W' b) ∧ (∀ m, W 2 m ≤ W' 2 m ∧ W' 2 m ≤ W 2 m + 100 ∧ W 1 m + W 2 m ≤ W' 1 m + W' 2 m) ∧
    (0 ≤ sSum (W' 3) (c 2) - sSum (W 3) (c 2) ∧ sSum (W' 3) (c 2) - sSum (W 3) (c 2) ≤ (sSum (W' 1) (c 3) + sSum (W' 2) (c 3)) - (sSum (W 1) (c 3) + sSum (W 2) (c 3)) ∧ (sSum (W' 1) (c 3) + sSum (W' 2) (c 3)) - (sSum (W 1) (c 3) + sSum (W 2) (c 3)) ≤ 4 * (sSum (W' 3) (c 2) - sSum (W 3) (c 2))) ∧
    W' 0 3 = min 99999 (W 0 3 + (sSum (W' 5) (c 4) - sSum (W 5) (c 4)) - (sSum (W' 6) (c 4) - sSum (W 6) (c 4)) - (sSum (W' 3) (c 2) - sSum (W 3) (c 2))) ∧ W 0 3 + (sSum (W' 5) (c 4) - sSum (W 5) (c 4)) - (sSum (W' 6) (c 4) - sSum (W 6) (c 4)) - (sSum (W' 3) (c 2) - sSum (W 3) (c 2)) ≤ 1000000
theorem sSum_add {f g h : Nat → Int} : ∀ n, (∀ i, i < n → f i = g i + h i) → sSum f n = sSum g n + sSum h n
  | 0, _ => rfl
  | n + 1, e => by
    unfold sSum
    rw [sSum_add n (fun i hi => e i (by omega)), e n (by omega)]
    omega
theorem day_x (hn : Cn c R) (hK : RdK c R O) (hN : N ≤ 1300) (hlg : W 0 16 = -1) (h : BD c N W) (hW : WOk c W) (h12 : sSum (W 12) (c 5) = sSum (W 5) (c 4)) :
    DayX c R W (sDay R W) ∧ BD c (N + 1) (sDay R W) ∧ WOk c (sDay R W) ∧ sSum (sDay R W 12) (c 5) = sSum (sDay R W 5) (c 4) := by
  have hc := hn.2
  have e2 : (R 0 2).toNat = c 4 := by omega
  have e3 : (R 0 3).toNat = c 5 := by omega
  have e12 : (R 12 0).toNat = c 6 := by omega
  unfold sDay
  rw [hlg, e2, e3, e12]
  dsimp only
  have f1 := farm_x hn hK (lr := W 0 17) (c 4) 0 (W0 := W) (by omega) h.1 hW (fun _ _ _ => rfl) (fun i hi => h.2.2 i (by omega))
  generalize sFarm R (-1) (W 0 17) 0 (c 4) W = W1 at f1 ⊢
  obtain ⟨a1, a2, a3, a4⟩ := f1
  have s8 : ∀ n, sSum (W1 8) n = 0 := fun n => by
    induction n with
    | zero => rfl
    | succ n ih =>
      unfold sSum
      rw [ih, a4]
      rfl
  have r1 : ∀ j, j ≠ 7 → j ≠ 8 → W1 j = W j := a3
  have hR2 : R2 c W W1 := by
    refine ⟨fun m => ?_, ⟨r1 3 (by decide) (by decide), r1 6 (by decide) (by decide), by rw [r1 0 (by decide) (by decide)]⟩, ?_, ?_, fun g _ => a4 g⟩
    · rw [r1 1 (by decide) (by decide), r1 2 (by decide) (by decide)]
      omega
    · rw [r1 0 (by decide) (by decide), r1 5 (by decide) (by decide), s8]
      omega
    · rw [r1 12 (by decide) (by decide), r1 5 (by decide) (by decide)]
      exact h12
  have f2 := traf_x hn hK (by omega : N ≤ 1400) (c 5) 0 0 (by omega) (by omega) a1 a2 hR2 (fun b hb => absurd hb (by omega)) (fun b _ => ⟨by rw [r1 10 (by decide) (by decide)], by rw [r1 11 (by decide) (by decide)], by rw [r1 12 (by decide) (by decide)]⟩)
  generalize sTraf R 0 (c 5) W1 = W2 at f2 ⊢
  obtain ⟨b1, b2, b3, b4⟩ := f2
  have b1' := b1.mono (q' := 2168) (by omega)
  have bc : 0 ≤ W2 0 3 ∧ W2 0 3 ≤ 99999 + 120 * ((2168 : Nat) : Int) := (b1' 0 3).2 rfl
  have f3 := rents_x (by omega : N ≤ 1400) hc.2.2.1 (by omega) b1' (fun g e => b3.2.2.2.2 g (Or.inl e)) (c 4) 0 (by omega) (W := W2) ⟨fun _ _ _ => rfl, rfl, by unfold sSum; omega⟩ (by omega) (fun _ _ => rfl) (fun i => by
    have b6 : -(270000 * (N : Int)) ≤ W2 6 i ∧ W2 6 i ≤ 270000 * (N : Int) := b1' 6 i
    omega) b2
  generalize sRents 0 (c 4) W2 = W3 at f3 ⊢
  obtain ⟨c1, c2, c3, c4⟩ := f3
  have w1 : W3 1 = W2 1 := c1.1 1 (by decide) (by decide)
  have w2 : W3 2 = W2 2 := c1.1 2 (by decide) (by decide)
  have w3 : W3 3 = W2 3 := c1.1 3 (by decide) (by decide)
  have w5 : W3 5 = W2 5 := c1.1 5 (by decide) (by decide)
  have h01 : ∀ i, 0 ≤ W3 1 i ∧ W3 1 i ≤ 100 := fun i => by
    rw [w1]
    exact b1' 1 i
  have f4 := mends_x hn hK (by omega : N ≤ 1400) (W3 := W3) (by omega) (fun i => (h01 i).1) (c 6) 0 (W := W3) (by omega) ⟨fun _ _ _ _ => rfl, rfl, fun i => ⟨Int.le_refl _, (h01 i).2⟩, rfl, ⟨c2.1, Int.le_refl _⟩, by omega, by omega⟩ (fun s => by
    rw [w3]
    have z : 0 ≤ W2 3 s ∧ W2 3 s ≤ 100000 * (N : Int) := b1' 3 s
    omega) c4
  generalize sMends R 0 (c 6) W3 = W4 at f4 ⊢
  obtain ⟨d1, d2, d3⟩ := f4
  have y2 : W4 2 = W2 2 := (d1.1 2 (by decide) (by decide) (by decide)).trans w2
  have y5 : W4 5 = W2 5 := (d1.1 5 (by decide) (by decide) (by decide)).trans w5
  have y6 : W4 6 = W3 6 := d1.1 6 (by decide) (by decide) (by decide)
  have y12 : W4 12 = W2 12 := (d1.1 12 (by decide) (by decide) (by decide)).trans (c1.1 12 (by decide) (by decide))
  have y10 : W4 10 = W2 10 := (d1.1 10 (by decide) (by decide) (by decide)).trans (c1.1 10 (by decide) (by decide))
  have y11 : W4 11 = W2 11 := (d1.1 11 (by decide) (by decide) (by decide)).trans (c1.1 11 (by decide) (by decide))
  have y8 : W4 8 = W2 8 := (d1.1 8 (by decide) (by decide) (by decide)).trans (c1.1 8 (by decide) (by decide))
  have y7 : W4 7 = W2 7 := (d1.1 7 (by decide) (by decide) (by decide)).trans (c1.1 7 (by decide) (by decide))
  have y4 : W4 4 = W2 4 := (d1.1 4 (by decide) (by decide) (by decide)).trans (c1.1 4 (by decide) (by decide))
  have y9 : W4 9 = W2 9 := (d1.1 9 (by decide) (by decide) (by decide)).trans (c1.1 9 (by decide) (by decide))
  have yd : W4 0 2 = W 0 2 := (d1.2.1.trans c1.2.1).trans b3.2.1.2.2
  have bd : 0 ≤ W 0 2 ∧ W 0 2 ≤ (N : Int) := (h.1 0 2 (by decide)).1 rfl
  -- the last of it
  have xd : nz (W4 0 2 + 1) = W 0 2 + 1 := by rw [yd]; exact nz_eq ⟨by omega, by omega⟩
  have hcap : ∀ j, j ≠ 0 → sCap (mW W4 0 2 (nz (W4 0 2 + 1))) j = W4 j := fun j hj => by
    unfold sCap
    split
    · rw [mW_ne hj, mW_ne hj]
    · rw [mW_ne hj]
  have hcd : sCap (mW W4 0 2 (nz (W4 0 2 + 1))) 0 2 = W 0 2 + 1 := by
    unfold sCap
    split
    · rw [mW_at (by decide), mW_self, xd]
    · rw [mW_self, xd]
  have hcc : sCap (mW W4 0 2 (nz (W4 0 2 + 1))) 0 3 = min 99999 (W4 0 3) := by
    unfold sCap
    rw [mW_at (by decide)]
    split
    · rw [mW_self]; omega
    · rw [mW_at (by decide)]; omega
  have hwk := (d3.w (j := 0) (k := 2) (by decide) (nz_R (W4 0 2 + 1))).cap
  generalize sCap (mW W4 0 2 (nz (W4 0 2 + 1))) = W5 at hcap hcd hcc hwk ⊢
  have g1 := hcap 1 (by decide)
  have g2 := (hcap 2 (by decide)).trans y2
  have g3 := hcap 3 (by decide)
  have g5 := (hcap 5 (by decide)).trans y5
  have g6 := (hcap 6 (by decide)).trans y6
  have g12 := (hcap 12 (by decide)).trans y12
  have g10 := (hcap 10 (by decide)).trans y10
  have g11 := (hcap 11 (by decide)).trans y11
  have hsum : sSum (W2 1) (c 3) + sSum (W2 2) (c 3) = sSum (W 1) (c 3) + sSum (W 2) (c 3) := by
    rw [← sSum_add (f := fun i => W2 1 i + W2 2 i) (c 3) (fun _ _ => rfl), ← sSum_add (f := fun i => W 1 i + W 2 i) (c 3) (fun _ _ => rfl)]
    exact congrArg (fun f => sSum f (c 3)) (funext fun i => (b3.1 i).1)
  have e33 : W2 3 = W 3 := b3.2.1.1
  have e66 : W2 6 = W 6 := b3.2.1.2.1
  obtain ⟨d11, d12, d13, d14, d15, d16, d17⟩ := d1
  have k4 := sSum_in (f := fun s => W4 3 s - W3 3 s) (b := 0) 0 (fun i hi => absurd hi (by omega))
  refine ⟨⟨hcd, fun b hb => ?_, fun m => ?_, ⟨?_, ?_, ?_⟩, ?_, ?_⟩, ⟨fun j i hj => ?_, fun i => ?_, fun i hi => ?_⟩, hwk, ?_⟩
  · have t := b4 b hb
    unfold Tr at t ⊢
    rw [g10, g11, g12]
    exact t
  · have z := b3.1 m
    have y := d13 m
    have y0 : 0 ≤ W2 1 m ∧ W2 1 m ≤ 100 := b1' 1 m
    have w0 : 0 ≤ W 1 m ∧ W 1 m ≤ 100 := h.1 1 m (by decide)
    rw [w1] at y
    rw [g1, g2]
    omega
  · rw [g3, ← e33, ← w3]
    omega
  · rw [g3, g1, g2, ← e33, ← w3]
    rw [w1] at d16
    omega
  · rw [g3, g1, g2, ← e33, ← w3]
    rw [w1] at d17
    omega
  · rw [hcc, g5, g6, g3, ← e33, ← w3, ← e66]
    have k3 := c1.2.2
    have k2 := b3.2.2.1
    omega
  · rw [g5, g6, g3, ← e33, ← w3, ← e66]
    have k3 := c1.2.2
    have k2 := b3.2.2.1
    omega
  · rcases (by omega : j = 0 ∨ j = 1 ∨ j = 2 ∨ j = 3 ∨ j = 4 ∨ j = 5 ∨ j = 6 ∨ j = 7 ∨ j = 9 ∨ j = 10 ∨ j = 11 ∨ j = 12 ∨ 13 ≤ j) with e | e | e | e | e | e | e | e | e | e | e | e | e
    · subst e
      refine ⟨fun e => ?_, fun e => ?_⟩
      · rw [e, hcd]; omega
      · rw [e, hcc]; omega
    · subst e
      have y := d13 i
      have z := h01 i
      show 0 ≤ W5 1 i ∧ W5 1 i ≤ 100
      rw [g1]; omega
    · subst e
      have z : 0 ≤ W2 2 i ∧ W2 2 i ≤ 270000 * (N : Int) + 100 * ((2168 : Nat) : Int) := b1' 2 i
      show 0 ≤ W5 2 i ∧ W5 2 i ≤ 270000 * ((N + 1 : Nat) : Int) + 100 * ((0 : Nat) : Int)
      rw [g2]; omega
    · subst e
      have z := d2 i
      show 0 ≤ W5 3 i ∧ W5 3 i ≤ 100000 * ((N + 1 : Nat) : Int)
      rw [g3]; omega
    · subst e
      have z : 0 ≤ W2 4 i ∧ W2 4 i ≤ 60 := b1' 4 i
      show 0 ≤ W5 4 i ∧ W5 4 i ≤ 60
      rw [hcap 4 (by decide), y4]; exact z
    · subst e
      have z : 0 ≤ W2 5 i ∧ W2 5 i ≤ 270000 * (N : Int) + 120 * ((2168 : Nat) : Int) := b1' 5 i
      show 0 ≤ W5 5 i ∧ W5 5 i ≤ 270000 * ((N + 1 : Nat) : Int) + 120 * ((0 : Nat) : Int)
      rw [g5]; omega
    · subst e
      show -(270000 * ((N + 1 : Nat) : Int)) ≤ W5 6 i ∧ W5 6 i ≤ 270000 * ((N + 1 : Nat) : Int)
      rw [hcap 6 (by decide), y6]; exact c3 i
    · subst e
      have z : -1 ≤ W2 7 i ∧ W2 7 i ≤ 999 := b1' 7 i
      show -1 ≤ W5 7 i ∧ W5 7 i ≤ 999
      rw [hcap 7 (by decide), y7]; exact z
    · subst e
      have z : 0 ≤ W2 9 i ∧ W2 9 i ≤ 16 := b1' 9 i
      show 0 ≤ W5 9 i ∧ W5 9 i ≤ 16
      rw [hcap 9 (by decide), y9]; exact z
    · subst e
      have z : 0 ≤ W2 10 i ∧ W2 10 i ≤ 3000 * (N : Int) + ((2168 : Nat) : Int) := b1' 10 i
      show 0 ≤ W5 10 i ∧ W5 10 i ≤ 3000 * ((N + 1 : Nat) : Int) + ((0 : Nat) : Int)
      rw [g10]; omega
    · subst e
      have z : 0 ≤ W2 11 i ∧ W2 11 i ≤ 3000 * (N : Int) + ((2168 : Nat) : Int) := b1' 11 i
      show 0 ≤ W5 11 i ∧ W5 11 i ≤ 3000 * ((N + 1 : Nat) : Int) + ((0 : Nat) : Int)
      rw [g11]; omega
    · subst e
      have z : 0 ≤ W2 12 i ∧ W2 12 i ≤ 270000 * (N : Int) + 120 * ((2168 : Nat) : Int) := b1' 12 i
      show 0 ≤ W5 12 i ∧ W5 12 i ≤ 270000 * ((N + 1 : Nat) : Int) + 120 * ((0 : Nat) : Int)
      rw [g12]; omega
    · obtain ⟨k, rfl⟩ : ∃ k, j = k + 13 := ⟨j - 13, by omega⟩
      exact trivial
  · have z : 0 ≤ W2 8 i ∧ W2 8 i ≤ 120 * ((2168 : Nat) : Int) := b1' 8 i
    rw [hcap 8 (by decide), y8]
    omega
  · rw [hcap 8 (by decide), y8]
    exact b3.2.2.2.2 i (Or.inr hi)
  · rw [g12, g5]
    exact b3.2.2.2.1
end DAY2
