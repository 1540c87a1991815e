/-! contracts: a trust copied -/
section C16
variable {E : Nat → Value} {d : Nat} {S : aS} {M : Nat → Nat → Int} {Q : Option (Option Value) → aS → aI → Prop} {R W : Nat → Nat → Int}
/-- how long a trust's rows are -/
def zl (j : Nat) : Nat := if j ≤ 2 then 45 else if j ≤ 8 then 5 else 8
/-- behind their ends, rows are 0; of the object's own numbers there are but four -/
abbrev ZW (W : Nat → Nat → Int) : Prop := (∀ j k, 1 ≤ j → j ≤ 12 → zl j ≤ k → W j k = 0) ∧ (∀ k, k ≠ 2 → k ≠ 3 → k ≠ 16 → k ≠ 17 → W 0 k = 0)
theorem ZW.w (h : ZW W) {j k : Nat} {x : Int} (hj : 1 ≤ j) (hk : k < zl j) : ZW (mW W j k x) := by
  refine ⟨fun j' k' h1 h2 h3 => ?_, fun k' h1 h2 h3 h4 => ?_⟩
  · rw [mW_get, if_neg (fun z => by rw [z.1, z.2] at h3; omega)]
    exact h.1 j' k' h1 h2 h3
  · rw [mW_ne (by omega)]
    exact h.2 k' h1 h2 h3 h4
theorem ZW.w0 (h : ZW W) {k : Nat} {x : Int} (hk : k = 2 ∨ k = 3 ∨ k = 16 ∨ k = 17) : ZW (mW W 0 k x) := by
  refine ⟨fun j' k' h1 h2 h3 => ?_, fun k' h1 h2 h3 h4 => ?_⟩
  · rw [mW_ne (by omega)]
    exact h.1 j' k' h1 h2 h3
  · rw [mW_get, if_neg (by omega)]
    exact h.2 k' h1 h2 h3 h4
/-- rows 1 to m are those of t1, the object's own numbers too -/
def Cpd (t0 t1 m : Nat) (M M' : Nat → Nat → Int) : Prop := ∀ b, M' b = if t0 ≤ b ∧ b ≤ t0 + m then M (t1 + (b - t0)) else M b
theorem Cpd.step {t0 t1 m n : Nat} {M M' : Nat → Nat → Int} (ht : t1 + 12 < t0) (hm : m < 12) (h : Cpd t0 t1 m M M') (hz : ∀ k, n ≤ k → M (t1 + (m + 1)) k = M (t0 + (m + 1)) k) : Cpd t0 t1 (m + 1) M (aCp M' (t1 + (m + 1)) (t0 + (m + 1)) 0 0 n) := by
  intro b
  unfold aCp aU
  by_cases hb : b = t0 + (m + 1)
  · subst hb
    rw [if_pos rfl, if_pos ⟨by omega, by omega⟩, h (t1 + (m + 1)), h (t0 + (m + 1)), if_neg (by omega), if_neg (by omega), show t0 + (m + 1) - t0 = m + 1 by omega]
    funext k
    unfold va_cpy
    by_cases hk : k < n
    · rw [if_pos ⟨Nat.zero_le _, by omega⟩, Nat.zero_add, Nat.sub_zero]
    · rw [if_neg (by omega), hz k (by omega)]
  · rw [if_neg hb, h b]
    by_cases h2 : t0 ≤ b ∧ b ≤ t0 + m
    · rw [if_pos h2, if_pos ⟨h2.1, by omega⟩]
    · rw [if_neg h2, if_neg (by omega)]
theorem mX6_copyFrom {t0 t1 rk rd0 rd : Nat} (hT0 : TrS S t0 rk rd0) (hT1 : TrS S t1 rk rd) (ht : t1 + 12 < t0) (hz0 : ZW (win 12 M t0)) (hz1 : ZW (win 12 M t1)) (hM : RM M)
    (k : ∀ M', RM M' → win 12 M' t0 = win 12 M t1 → (∀ b, b < t0 ∨ t0 + 12 < b → M' b = M b) → Q (some none) (aPut S t0 1 (some rd)) (mI M')) :
    X E d fX6_copyFrom 0 [some (.ref t0), some (.ref t1)] [] S (mI M) Q := by
  have hp1 : ∀ j b, aP S t1 j = some b → aP (aPut S t0 1 (some rd)) t1 j = some b := fun j b h => by
    show aU (aP S) t0 _ t1 j = some b
    unfold aU
    rw [if_neg (by omega)]
    exact h
  have hp0 : ∀ j b, j ≠ 1 → aP S t0 j = some b → aP (aPut S t0 1 (some rd)) t0 j = some b := fun j b hj h => by
    show aU (aP S) t0 _ t0 j = some b
    unfold aU
    rw [if_pos rfl, if_neg hj]
    exact h
  have hz : ∀ j k, 1 ≤ j → j ≤ 12 → zl j ≤ k → M (t1 + j) k = M (t0 + j) k := fun j k h1 h2 h3 => by
    have g0 := hz0.1 j k h1 h2 h3
    have g1 := hz1.1 j k h1 h2 h3
    rw [win_at h2] at g0 g1
    rw [g0, g1]
  have hne : t1 ≠ t0 := by omega
  -- the object's own numbers
  have hc0 : Cpd t0 t1 0 M (mW (mW (mW (mW M t0 2 (M t1 2)) t0 3 ((mW M t0 2 (M t1 2)) t1 3)) t0 16 ((mW (mW M t0 2 (M t1 2)) t0 3 ((mW M t0 2 (M t1 2)) t1 3)) t1 16)) t0 17 ((mW (mW (mW M t0 2 (M t1 2)) t0 3 ((mW M t0 2 (M t1 2)) t1 3)) t0 16 ((mW (mW M t0 2 (M t1 2)) t0 3 ((mW M t0 2 (M t1 2)) t1 3)) t1 16)) t1 17)) := by
    intro b
    rw [mW_ne hne, mW_ne hne, mW_ne hne, mW_ne hne, mW_ne hne, mW_ne hne]
    by_cases hb : b = t0
    · subst hb
      rw [if_pos ⟨Nat.le_refl _, Nat.le_refl _⟩, Nat.sub_self, Nat.add_zero]
      funext j
      rw [mW_get, mW_get, mW_get, mW_get]
      by_cases j17 : j = 17
      · subst j17; rw [if_pos ⟨rfl, rfl⟩]
      · rw [if_neg (fun z => j17 z.2)]
        by_cases j16 : j = 16
        · subst j16; rw [if_pos ⟨rfl, rfl⟩]
        · rw [if_neg (fun z => j16 z.2)]
          by_cases j3 : j = 3
          · subst j3; rw [if_pos ⟨rfl, rfl⟩]
          · rw [if_neg (fun z => j3 z.2)]
            by_cases j2 : j = 2
            · subst j2; rw [if_pos ⟨rfl, rfl⟩]
            · rw [if_neg (fun z => j2 z.2)]
              have g0 := hz0.2 j j2 j3 j16 j17
              have g1 := hz1.2 j j2 j3 j16 j17
              rw [w_00] at g0 g1
              rw [g0, g1]
    · rw [mW_ne hb, mW_ne hb, mW_ne hb, mW_ne hb, if_neg (by omega)]
  have a1 := hT1.n4
  have a2 := hT1.n5
  have a3 := hT1.n6
  have a4 := hT1.n7
  have a5 := hT1.n8
  have a6 := hT1.n9
  have a7 := hT1.n10
  have a8 := hT1.n11
  have a9 := hT1.n12
  have a10 := hT1.n13
  have a11 := hT1.n14
  have a12 := hT1.n15
  have b1 := hT0.n4
  have b2 := hT0.n5
  have b3 := hT0.n6
  have b4 := hT0.n7
  have b5 := hT0.n8
  have b6 := hT0.n9
  have b7 := hT0.n10
  have b8 := hT0.n11
  have b9 := hT0.n12
  have b10 := hT0.n13
  have b11 := hT0.n14
  have b12 := hT0.n15
  have hc1 := hc0.step ht (by decide) (fun k h => hz 1 k (by decide) (by decide) h)
  have hc2 := hc1.step ht (by decide) (fun k h => hz 2 k (by decide) (by decide) h)
  have hc3 := hc2.step ht (by decide) (fun k h => hz 3 k (by decide) (by decide) h)
  have hc4 := hc3.step ht (by decide) (fun k h => hz 4 k (by decide) (by decide) h)
  have hc5 := hc4.step ht (by decide) (fun k h => hz 5 k (by decide) (by decide) h)
  have hc6 := hc5.step ht (by decide) (fun k h => hz 6 k (by decide) (by decide) h)
  have hc7 := hc6.step ht (by decide) (fun k h => hz 7 k (by decide) (by decide) h)
  have hc8 := hc7.step ht (by decide) (fun k h => hz 8 k (by decide) (by decide) h)
  have hc9 := hc8.step ht (by decide) (fun k h => hz 9 k (by decide) (by decide) h)
  have hc10 := hc9.step ht (by decide) (fun k h => hz 10 k (by decide) (by decide) h)
  have hc11 := hc10.step ht (by decide) (fun k h => hz 11 k (by decide) (by decide) h)
  have hc12 := hc11.step ht (by decide) (fun k h => hz 12 k (by decide) (by decide) h)
  have hfin : ∀ M', Cpd t0 t1 12 M M' → Q (some none) (aPut S t0 1 (some rd)) (mI M') := by
    intro M' h
    refine k M' (fun b j => ?_) ?_ (fun b hb => ?_)
    · rw [h b]
      split
      · exact hM _ _
      · exact hM _ _
    · funext j
      unfold win
      by_cases hj : j ≤ 12
      · rw [if_pos hj, if_pos hj, h (t0 + j), if_pos ⟨by omega, by omega⟩, show t0 + j - t0 = j by omega]
      · rw [if_neg hj, if_neg hj]
    · rw [h b, if_neg (by omega)]
  exact kX6_copyFrom_0 hT1.kd hT1.p1 hT0.k rfl (hp1 4 _ hT1.p4) hT0.kd (hp0 4 _ (by decide) hT0.p4) hT1.d4 hT0.a4 (by omega) (by omega)
    (hp1 5 _ hT1.p5) (hp0 5 _ (by decide) hT0.p5) hT1.d5 hT0.a5 (by omega) (by omega) (hp1 6 _ hT1.p6) (hp0 6 _ (by decide) hT0.p6) hT1.d6 hT0.a6 (by omega) (by omega) rfl
    (hp1 7 _ hT1.p7) (hp0 7 _ (by decide) hT0.p7) hT1.d7 hT0.a7 (by omega) (by omega) (hp1 8 _ hT1.p8) (hp0 8 _ (by decide) hT0.p8) hT1.d8 hT0.a8 (by omega) (by omega)
    (hp1 9 _ hT1.p9) (hp0 9 _ (by decide) hT0.p9) hT1.d9 hT0.a9 (by omega) (by omega) (hp1 10 _ hT1.p10) (hp0 10 _ (by decide) hT0.p10) hT1.d10 hT0.a10 (by omega) (by omega) rfl
    (hp1 11 _ hT1.p11) (hp0 11 _ (by decide) hT0.p11) hT1.d11 hT0.a11 (by omega) (by omega) (hp1 12 _ hT1.p12) (hp0 12 _ (by decide) hT0.p12) hT1.d12 hT0.a12 (by omega) (by omega)
    (hp1 13 _ hT1.p13) (hp0 13 _ (by decide) hT0.p13) hT1.d13 hT0.a13 (by omega) (by omega) (hp1 14 _ hT1.p14) (hp0 14 _ (by decide) hT0.p14) hT1.d14 hT0.a14 (by omega) (by omega) rfl
    (hp1 15 _ hT1.p15) (hp0 15 _ (by decide) hT0.p15) hT1.d15 hT0.a15 (by omega) (by omega) (hfin _ hc12)
end C16
