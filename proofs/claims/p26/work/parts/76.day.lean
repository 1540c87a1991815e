/-! a day, exactly: what it does to each number -/
section DAY
variable {c : Nat → Nat} {R W O : Nat → Nat → Int} {N q : Nat}
abbrev Cn (c : Nat → Nat) (R : Nat → Nat → Int) : Prop := (R 0 0 = (c 2 : Int) ∧ R 0 1 = (c 3 : Int) ∧ R 0 2 = (c 4 : Int) ∧ R 0 3 = (c 5 : Int) ∧ R 12 0 = (c 6 : Int)) ∧ (c 2 ≤ 5 ∧ c 3 ≤ 45 ∧ c 4 ≤ 5 ∧ c 5 ≤ 8 ∧ c 6 ≤ 20)
/-- between days -/
abbrev BD (c : Nat → Nat) (N : Nat) (W : Nat → Nat → Int) : Prop := (∀ j i, j ≠ 8 → Bq N 0 j i (W j i)) ∧ (∀ i, 0 ≤ W 8 i ∧ W 8 i ≤ 270000) ∧ (∀ i, c 4 ≤ i → W 8 i = 0)
theorem farm_x (hn : Cn c R) (hK : RdK c R O) {lr : Int} : ∀ (n g : Nat) {W0 W : Nat → Nat → Int}, g + n = c 4 → (∀ j i, j ≠ 8 → Bq N 0 j i (W j i)) → WOk c W → (∀ j, j ≠ 7 → j ≠ 8 → W j = W0 j) → (∀ i, i < g ∨ c 4 ≤ i → W 8 i = 0) →
    Bd N 0 (sFarm R (-1) lr g n W) ∧ WOk c (sFarm R (-1) lr g n W) ∧ (∀ j, j ≠ 7 → j ≠ 8 → sFarm R (-1) lr g n W j = W0 j) ∧ (∀ i, sFarm R (-1) lr g n W 8 i = 0)
  | 0, g, W0, W, hg, h, hW, hr, h8 => by
    have h8' : ∀ i, W 8 i = 0 := fun i => h8 i (by omega)
    refine ⟨fun j i => ?_, hW, hr, h8'⟩
    by_cases e : j = 8
    · subst e
      show 0 ≤ W 8 i ∧ W 8 i ≤ 120 * ((0 : Nat) : Int)
      rw [h8' i]
      omega
    · exact h j i e
  | n + 1, g, W0, W, hg, h, hW, hr, h8 => by
    have hc := hn.2
    have e6 : (R 12 0).toNat = c 6 := by omega
    unfold sFarm
    rw [if_neg (by omega), e6]
    have hg2 := sRent_ge (W := W) hK.2.1 hK.2.2.1 (g := g) (c 6) 0 (by omega)
    refine farm_x hn hK n (g + 1) (by omega) (fun j i hj => ?_) ((hW.rent hg2).w (by decide) R32_0) (fun j h7 h8 => ?_) (fun i hi => ?_)
    · rw [mW_ne hj, mW_get]
      split
      · rename_i e
        rw [e.1]
        exact hg2
      · exact h j i hj
    · rw [mW_ne h8, mW_ne h7]
      exact hr j h7 h8
    · rw [mW_row, mW_ne (by decide)]
      split
      · rfl
      · exact h8 i (by omega)
/-- a day so far, while traffics go -/
abbrev R2 (c : Nat → Nat) (W0 W : Nat → Nat → Int) : Prop :=
  (∀ m, W 1 m + W 2 m = W0 1 m + W0 2 m ∧ W0 2 m ≤ W 2 m) ∧ (W 3 = W0 3 ∧ W 6 = W0 6 ∧ W 0 2 = W0 0 2) ∧ (W 0 3 - sSum (W 5) (c 4) + sSum (W 8) (c 4) = W0 0 3 - sSum (W0 5) (c 4)) ∧ (sSum (W 12) (c 5) = sSum (W 5) (c 4)) ∧ (∀ g, W 7 g = -1 ∨ c 4 ≤ g → W 8 g = 0)
theorem R2.pay {W0 : Nat → Nat → Int} (h : R2 c W0 W) {a g : Nat} (ha : a < c 5) (hg : g < c 4) : R2 c W0 (xPay W a g) := by
  obtain ⟨h1, h2, h3, h4, h5⟩ := h
  unfold xPay
  split
  · rename_i e7
    refine ⟨fun m => ?_, ?_, ?_, ?_, fun g' e => ?_⟩
    · rw [mW_ne (by decide), mW_ne (by decide), mW_ne (by decide), mW_ne (by decide), mW_ne (by decide), mW_ne (by decide)]
      exact h1 m
    · rw [mW_ne (by decide), mW_ne (by decide), mW_ne (by decide), mW_ne (by decide), mW_ne (by decide), mW_ne (by decide), mW_at (by decide), mW_ne (by decide), mW_ne (by decide)]
      exact h2
    · rw [mW_self, sSum_ne (by decide), sSum_w hg, sSum_ne (by decide), sSum_ne (by decide), sSum_ne (by decide), sSum_ne (by decide), mW_ne (by decide)]
      omega
    · rw [sSum_ne (by decide), sSum_ne (by decide), sSum_w ha, sSum_ne (by decide), sSum_w hg, sSum_ne (by decide), mW_ne (by decide)]
      omega
    · rw [mW_ne (by decide), mW_ne (by decide), mW_ne (by decide)] at e ⊢
      exact h5 g' e
  · rename_i e7
    refine ⟨fun m => ?_, ?_, ?_, ?_, fun g' e => ?_⟩
    · rw [mW_ne (by decide), mW_ne (by decide), mW_ne (by decide), mW_ne (by decide), mW_ne (by decide), mW_ne (by decide)]
      exact h1 m
    · rw [mW_ne (by decide), mW_ne (by decide), mW_ne (by decide), mW_ne (by decide), mW_ne (by decide), mW_ne (by decide), mW_ne (by decide), mW_ne (by decide), mW_ne (by decide)]
      exact h2
    · rw [mW_ne (by decide), mW_ne (by decide), mW_ne (by decide), sSum_ne (by decide), sSum_w hg, sSum_ne (by decide), sSum_w hg, sSum_ne (by decide), sSum_ne (by decide), mW_ne (by decide), mW_ne (by decide), mW_ne (by decide)]
      omega
    · rw [sSum_ne (by decide), sSum_ne (by decide), sSum_w ha, sSum_ne (by decide), sSum_w hg, sSum_ne (by decide), mW_ne (by decide)]
      omega
    · rw [mW_ne (by decide), mW_ne (by decide), mW_ne (by decide)] at e
      rw [mW_row, mW_ne (by decide), mW_ne (by decide), if_neg (fun z => by
        subst z
        rcases e with e | e
        · exact e7 e
        · omega)]
      exact h5 g' e
theorem R2.wear {W0 : Nat → Nat → Int} (h : R2 c W0 W) (hR : RPk c R) (hW : WOk c W) {a m : Nat} (ha : a < c 5) (hm : m < c 3) : R2 c W0 (xWear R W a m) := by
  obtain ⟨h1, h2, h3, h4, h5⟩ := h
  have hl := (sLess_in hR hW ha hm).2
  unfold xWear
  refine ⟨fun k => ?_, ?_, ?_, ?_, fun g e => ?_⟩
  · have z := h1 k
    rw [mW_ne (by decide), mW_row, mW_row, mW_ne (by decide)]
    by_cases e : k = m
    · subst e
      rw [if_pos rfl, if_pos rfl]
      omega
    · rw [if_neg e, if_neg e]
      exact z
  · rw [mW_ne (by decide), mW_ne (by decide), mW_ne (by decide), mW_ne (by decide), mW_ne (by decide), mW_ne (by decide)]
    exact h2
  · rw [mW_ne (by decide), mW_ne (by decide), sSum_ne (by decide), sSum_ne (by decide), sSum_ne (by decide), sSum_ne (by decide)]
    exact h3
  · rw [sSum_ne (by decide), sSum_ne (by decide), sSum_ne (by decide), sSum_ne (by decide)]
    exact h4
  · rw [mW_ne (by decide), mW_ne (by decide)] at e ⊢
    exact h5 g e
theorem R2.inc {W0 : Nat → Nat → Int} (h : R2 c W0 W) {j a : Nat} {x : Int} (hj : j = 10 ∨ j = 11) : R2 c W0 (mW W j a x) := by
  obtain ⟨h1, h2, h3, h4, h5⟩ := h
  refine ⟨fun k => ?_, ?_, ?_, ?_, fun g e => ?_⟩
  · rw [mW_ne (by omega), mW_ne (by omega)]
    exact h1 k
  · rw [mW_ne (by omega), mW_ne (by omega), mW_ne (by omega)]
    exact h2
  · rw [mW_ne (by omega), sSum_ne (by omega), sSum_ne (by omega)]
    exact h3
  · rw [sSum_ne (by omega), sSum_ne (by omega)]
    exact h4
  · rw [mW_ne (by omega)] at e ⊢
    exact h5 g e
/-- what a traffic did on a day -/
abbrev Tr (R W0 W : Nat → Nat → Int) (b : Nat) : Prop :=
  ((W0 0 2).tmod (R 11 b) = 0 ∧ (W 10 b = W0 10 b + 1 ∧ W 11 b = W0 11 b ∨ W 10 b = W0 10 b ∧ W 11 b = W0 11 b + 1)) ∨ (¬ (W0 0 2).tmod (R 11 b) = 0 ∧ W 10 b = W0 10 b ∧ W 11 b = W0 11 b ∧ W 12 b = W0 12 b)
abbrev S3 (W W' : Nat → Nat → Int) (b : Nat) : Prop := W' 10 b = W 10 b ∧ W' 11 b = W 11 b ∧ W' 12 b = W 12 b
theorem go_x (hn : Cn c R) (hK : RdK c R O) (hN : N ≤ 1400) {W0 : Nat → Nat → Int} {a : Nat} (ha : a < c 5) (h : Bd N q W) (hW : WOk c W) (h2 : R2 c W0 W) (hq : q + 271 ≤ 3000) :
    Bd N (q + 271) (sGo R W a).2 ∧ R2 c W0 (sGo R W a).2 ∧ (∀ b, b ≠ a → S3 W (sGo R W a).2 b) ∧ ((sGo R W a).2 10 a = W 10 a + 1 ∧ (sGo R W a).2 11 a = W 11 a ∨ (sGo R W a).2 10 a = W 10 a ∧ (sGo R W a).2 11 a = W 11 a + 1) := by
  obtain ⟨W1, g1, g2, g3, g4⟩ := go_ind (I := fun W' => R2 c W0 W' ∧ (∀ b, b ≠ a → W' 12 b = W 12 b) ∧ W' 10 = W 10 ∧ W' 11 = W 11) ⟨hn.1.2.1, hn.1.2.2.1⟩ ⟨hn.2.2.1, hn.2.2.2.1⟩ hK.2.2.2.1 hN ha
    (fun W' q' g _ _ hg hI => ⟨hI.1.pay ha hg, by
      have e12 : ∀ b, xPay W' a g 12 b = if b = a then W' 12 a + sToll W' a g else W' 12 b := fun b => by
        unfold xPay
        split <;> rw [mW_ne (by decide), mW_ne (by decide), mW_row]
      have e10 : xPay W' a g 10 = W' 10 ∧ xPay W' a g 11 = W' 11 := by
        unfold xPay
        split <;> exact ⟨by rw [mW_ne (by decide), mW_ne (by decide), mW_ne (by decide)], by rw [mW_ne (by decide), mW_ne (by decide), mW_ne (by decide)]⟩
      exact ⟨fun b hb => by rw [e12, if_neg hb]; exact hI.2.1 b hb, e10.1.trans hI.2.2.1, e10.2.trans hI.2.2.2⟩⟩)
    (fun W' q' m _ hW' hm hI => ⟨hI.1.wear hK.2.2.2.1 hW' ha hm, fun b hb => by
      unfold xWear
      rw [mW_ne (by decide), mW_ne (by decide)]
      exact hI.2.1 b hb, by unfold xWear; rw [mW_ne (by decide), mW_ne (by decide)]; exact hI.2.2.1, by unfold xWear; rw [mW_ne (by decide), mW_ne (by decide)]; exact hI.2.2.2⟩)
    h hW ⟨h2, fun _ _ => rfl, rfl, rfl⟩ (by omega)
  obtain ⟨i1, i2, i3, i4⟩ := g3
  have hb10 := (xInc_x g1 hN (by omega) (j := 10) (a := a) (Or.inl rfl)).2
  have hb11 := (xInc_x g1 hN (by omega) (j := 11) (a := a) (Or.inr rfl)).2
  rcases g4 with e | ⟨m, _, e⟩
  · rw [e]
    dsimp only
    refine ⟨hb10, i1.inc (Or.inl rfl), fun b hb => ⟨?_, ?_, ?_⟩, Or.inl ⟨?_, ?_⟩⟩
    · rw [mW_at hb, i3]
    · rw [mW_ne (by decide), i4]
    · rw [mW_ne (by decide)]; exact i2 b hb
    · rw [mW_self, i3]
    · rw [mW_ne (by decide), i4]
  · rw [e]
    dsimp only
    refine ⟨hb11, i1.inc (Or.inr rfl), fun b hb => ⟨?_, ?_, ?_⟩, Or.inr ⟨?_, ?_⟩⟩
    · rw [mW_ne (by decide), i3]
    · rw [mW_at hb, i4]
    · rw [mW_ne (by decide)]; exact i2 b hb
    · rw [mW_ne (by decide), i3]
    · rw [mW_self, i4]
theorem traf_x (hn : Cn c R) (hK : RdK c R O) (hN : N ≤ 1400) {W0 : Nat → Nat → Int} : ∀ (n a q : Nat) {W : Nat → Nat → Int}, a + n = c 5 → q + 271 * n ≤ 3000 → Bd N q W → WOk c W → R2 c W0 W → (∀ b, b < a → Tr R W0 W b) → (∀ b, a ≤ b → S3 W0 W b) →
    Bd N (q + 271 * n) (sTraf R a n W) ∧ WOk c (sTraf R a n W) ∧ R2 c W0 (sTraf R a n W) ∧ (∀ b, b < c 5 → Tr R W0 (sTraf R a n W) b)
  | 0, a, q, W, ha, _, h, hW, h2, h3, _ => ⟨h, hW, h2, fun b hb => h3 b (by omega)⟩
  | n + 1, a, q, W, ha, hq, h, hW, h2, h3, h4 => by
    have hs := h4 a (Nat.le_refl _)
    have hday : W 0 2 = W0 0 2 := h2.2.1.2.2
    have ha5 : a < c 5 := by omega
    have ha1 : a + 1 + n = c 5 := by omega
    have hq1 : q + 271 ≤ 3000 := Nat.le_trans (Nat.add_le_add_left (Nat.le_mul_of_pos_right 271 (Nat.succ_pos n)) q) hq
    have hq2 : q + 271 + 271 * n ≤ 3000 := by omega
    have hq3 : q + 271 * n ≤ 3000 := by omega
    have hq4 : q + 271 * n ≤ q + 271 * (n + 1) := Nat.add_le_add_left (Nat.mul_le_mul_left 271 (Nat.le_succ n)) q
    have hq5 : q + 271 * (n + 1) = q + 271 + 271 * n := by omega
    unfold sTraf
    rw [hday]
    by_cases e : (W0 0 2).tmod (R 11 a) = 0
    · rw [if_pos e]
      have z := go_x hn hK hN ha5 h hW h2 hq1
      have y := traf_x hn hK hN n (a + 1) (q + 271) ha1 hq2 z.1 (hW.go hK.2.2.2.1 ha5) z.2.1 (fun b hb => by
        by_cases eb : b = a
        · subst eb
          refine Or.inl ⟨e, ?_⟩
          rcases z.2.2.2 with y | y
          · exact Or.inl ⟨y.1.trans (by rw [hs.1]), y.2.trans hs.2.1⟩
          · exact Or.inr ⟨y.1.trans hs.1, y.2.trans (by rw [hs.2.1])⟩
        · have s := z.2.2.1 b eb
          have t := h3 b (Nat.lt_of_le_of_ne (Nat.le_of_lt_succ hb) eb)
          unfold Tr at t ⊢
          rw [s.1, s.2.1, s.2.2]
          exact t) (fun b hb => by
        have s := z.2.2.1 b (Nat.ne_of_gt hb)
        have t := h4 b (Nat.le_of_succ_le hb)
        exact ⟨s.1.trans t.1, s.2.1.trans t.2.1, s.2.2.trans t.2.2⟩)
      rw [hq5]
      exact y
    · rw [if_neg e]
      have y := traf_x hn hK hN n (a + 1) q ha1 hq3 h hW h2 (fun b hb => by
        by_cases eb : b = a
        · subst eb
          exact Or.inr ⟨e, hs⟩
        · exact h3 b (Nat.lt_of_le_of_ne (Nat.le_of_lt_succ hb) eb)) (fun b hb => h4 b (Nat.le_of_succ_le hb))
      exact ⟨y.1.mono hq4, y.2⟩
end DAY
