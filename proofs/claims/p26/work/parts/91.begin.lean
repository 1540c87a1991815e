/-! a trust begins anew -/
section BG
def fil (j n : Nat) (f : Nat → Int) (W : Nat → Nat → Int) : Nat → Nat → Int := fun a k => if a = j ∧ k < n then f k else W a k
theorem fil_0 {j : Nat} {f : Nat → Int} {W : Nat → Nat → Int} : fil j 0 f W = W := by
  funext a k
  unfold fil
  rw [if_neg (by omega)]
theorem fil_s {j n : Nat} {f : Nat → Int} {W : Nat → Nat → Int} {x : Int} (h : x = f n) : mW (fil j n f W) j n x = fil j (n + 1) f W := by
  funext a k
  rw [mW_get]
  unfold fil
  by_cases h1 : a = j ∧ k = n
  · rw [if_pos h1, if_pos ⟨h1.1, by omega⟩, h, h1.2]
  · rw [if_neg h1]
    by_cases h2 : a = j ∧ k < n
    · rw [if_pos h2, if_pos ⟨h2.1, by omega⟩]
    · rw [if_neg h2, if_neg (by omega)]
theorem fil_c {j n i k : Nat} {f : Nat → Int} {W : Nat → Nat → Int} {x : Int} (h : i ≠ j) : mW (fil j n f W) i k x = fil j n f (mW W i k x) := by
  funext a b
  rw [mW_get]
  unfold fil
  by_cases h1 : a = i ∧ b = k
  · rw [if_pos h1, if_neg (by omega), mW_get, if_pos h1]
  · rw [if_neg h1]
    by_cases h2 : a = j ∧ b < n
    · rw [if_pos h2, if_pos h2]
    · rw [if_neg h2, if_neg h2, mW_get, if_neg h1]
theorem fil_k {j n : Nat} {W : Nat → Nat → Int} {x : Int} : mW (fil j n (fun _ => x) W) j n x = fil j (n + 1) (fun _ => x) W := fil_s rfl
def sB1 (i : Nat) (W : Nat → Nat → Int) : Nat → Nat → Int := fil 1 i (fun _ => 100) (fil 2 i (fun _ => 0) W)
def sB2 (i : Nat) (W : Nat → Nat → Int) : Nat → Nat → Int := fil 3 i (fun _ => 0) W
def sB3 (R : Nat → Nat → Int) (i : Nat) (W : Nat → Nat → Int) : Nat → Nat → Int := fil 4 i (R 6) (fil 5 i (fun _ => 0) (fil 6 i (fun _ => 0) (fil 7 i (fun _ => -1) (fil 8 i (fun _ => 0) W))))
def sB4 (R : Nat → Nat → Int) (i : Nat) (W : Nat → Nat → Int) : Nat → Nat → Int := fil 9 i (R 8) (fil 10 i (fun _ => 0) (fil 11 i (fun _ => 0) (fil 12 i (fun _ => 0) W)))
theorem sB1_s {i : Nat} {W : Nat → Nat → Int} : mW (mW (sB1 i W) 1 i 100) 2 i 0 = sB1 (i + 1) W := by
  unfold sB1
  rw [fil_k (j := 1), fil_c (j := 1) (i := 2) (by decide), fil_k (j := 2)]
theorem sB2_s {i : Nat} {W : Nat → Nat → Int} : mW (sB2 i W) 3 i 0 = sB2 (i + 1) W := fil_s rfl
theorem sB3_s {i : Nat} {R W : Nat → Nat → Int} : mW (mW (mW (mW (mW (sB3 R i W) 4 i (R 6 i)) 5 i 0) 6 i 0) 7 i (-1)) 8 i 0 = sB3 R (i + 1) W := by
  unfold sB3
  rw [fil_s (j := 4) rfl, fil_c (j := 4) (i := 5) (by decide), fil_k (j := 5), fil_c (j := 4) (i := 6) (by decide), fil_c (j := 5) (i := 6) (by decide), fil_k (j := 6), fil_c (j := 4) (i := 7) (by decide), fil_c (j := 5) (i := 7) (by decide), fil_c (j := 6) (i := 7) (by decide), fil_k (j := 7), fil_c (j := 4) (i := 8) (by decide), fil_c (j := 5) (i := 8) (by decide), fil_c (j := 6) (i := 8) (by decide), fil_c (j := 7) (i := 8) (by decide), fil_k (j := 8)]
theorem sB4_s {i : Nat} {R W : Nat → Nat → Int} : mW (mW (mW (mW (sB4 R i W) 9 i (R 8 i)) 10 i 0) 11 i 0) 12 i 0 = sB4 R (i + 1) W := by
  unfold sB4
  rw [fil_s (j := 9) rfl, fil_c (j := 9) (i := 10) (by decide), fil_k (j := 10), fil_c (j := 9) (i := 11) (by decide), fil_c (j := 10) (i := 11) (by decide), fil_k (j := 11), fil_c (j := 9) (i := 12) (by decide), fil_c (j := 10) (i := 12) (by decide), fil_c (j := 11) (i := 12) (by decide), fil_k (j := 12)]
def sBeg (R W : Nat → Nat → Int) : Nat → Nat → Int := sB4 R 8 (sB3 R 5 (sB2 5 (sB1 45 (mW W 0 3 200))))
abbrev Bg (t : Nat) (M0 M W : Nat → Nat → Int) : Prop := RM M ∧ (∀ b, b < t ∨ t + 12 < b → M b = M0 b) ∧ win 12 M t = W
theorem Bg.w {t a i k : Nat} {x : Int} {M0 M W : Nat → Nat → Int} (h : Bg t M0 M W) (ha : a = t + i) (hi : i ≤ 12) (hx : R32 x) : Bg t M0 (mW M a k x) (mW W i k x) := by
  subst ha
  exact ⟨h.1.w hx, fun b hb => (mW_ne (by omega)).trans (h.2.1 b hb), by rw [win_W hi, h.2.2]⟩
variable {E : Nat → Value} {d : Nat} {S : aS} {M : Nat → Nat → Int} {Q : Option (Option Value) → aS → aI → Prop}
set_option maxHeartbeats 4000000 in
theorem mX6_begin {t rk r : Nat} (g : aK S t = 8) (hT : TrS (aPut S t 1 (some r)) t rk r) (hR : RdS (aPut S t 1 (some r)) r) (hM : RM M) (hr : r + 21 < t)
    (q : ∀ M', Bg t M M' (sBeg (win 21 M r) (win 12 M t)) → Q (some none) (aPut S t 1 (some r)) (mI M')) :
    X E d fX6_begin 0 [some (.ref t), some (.ref r), none] [] S (mI M) Q := by
  refine kX6_begin_0 g ?_
  obtain ⟨S1, e1⟩ : ∃ x, aPut S t 1 (some r) = x := ⟨_, rfl⟩
  rw [e1] at hT hR q ⊢
  have n4 := hT.n4
  have n5 := hT.n5
  have n6 := hT.n6
  have n7 := hT.n7
  have n8 := hT.n8
  have n9 := hT.n9
  have n10 := hT.n10
  have n11 := hT.n11
  have n12 := hT.n12
  have n13 := hT.n13
  have n14 := hT.n14
  have n15 := hT.n15
  have r9 := hR.n9
  have r11 := hR.n11
  obtain ⟨R, eR⟩ : ∃ x, win 21 M r = x := ⟨_, rfl⟩
  have hR6 : ∀ M' : Nat → Nat → Int, (∀ b, b < t ∨ t + 12 < b → M' b = M b) → ∀ k, M' (r + 6) k = R 6 k := fun M' h k => by
    rw [h (r + 6) (by omega), ← eR, win_at (by omega)]
  have hR8 : ∀ M' : Nat → Nat → Int, (∀ b, b < t ∨ t + 12 < b → M' b = M b) → ∀ k, M' (r + 8) k = R 8 k := fun M' h k => by
    rw [h (r + 8) (by omega), ← eR, win_at (by omega)]
  have b0 : Bg t M (mW M t 3 200) (mW (win 12 M t) 0 3 200) := ⟨hM.w (by decide), fun b hb => mW_ne (by omega), win_W0⟩
  rw [eR] at q
  -- the miles
  have l1 : ∀ (m i : Nat) (M' : Nat → Nat → Int), i + m = 45 → Bg t M M' (sB1 i (mW (win 12 M t) 0 3 200)) → (∀ M', Bg t M M' (sB1 45 (mW (win 12 M t) 0 3 200)) → X E d fX6_begin 41 [some (.ref t), some (.ref r), some (J 45)] [] S1 (mI M') Q) →
      X E d fX6_begin 14 [some (.ref t), some (.ref r), some (J (i : Int))] [] S1 (mI M') Q := by
    intro m
    induction m with
    | zero =>
      intro i M' hi hb k
      obtain rfl : i = 45 := by omega
      exact kX6_begin_14 (by decide) (fun _ => k M' hb) (fun h => absurd h (by decide))
    | succ m ih =>
      intro i M' hi hb k
      refine kX6_begin_14 ⟨by omega, by omega⟩ (fun h => absurd h (by omega)) (fun _ => ?_)
      refine kX6_begin_20 hT.kd hT.p4 hT.a4 ⟨by omega, by omega⟩ ⟨by omega, by omega⟩ hT.p5 hT.a5 ⟨by omega, by omega⟩ ?_
      rw [Int.toNat_natCast]
      refine ih (i + 1) _ (by omega) ?_ k
      rw [← sB1_s]
      exact (hb.w (i := 1) rfl (by decide) (by decide)).w (i := 2) rfl (by decide) (by decide)
  have l2 : ∀ (W : Nat → Nat → Int) (m i : Nat) (M' : Nat → Nat → Int), i + m = 5 → Bg t M M' (sB2 i W) → (∀ M', Bg t M M' (sB2 5 W) → X E d fX6_begin 61 [some (.ref t), some (.ref r), some (J 5)] [] S1 (mI M') Q) →
      X E d fX6_begin 43 [some (.ref t), some (.ref r), some (J (i : Int))] [] S1 (mI M') Q := by
    intro W m
    induction m with
    | zero =>
      intro i M' hi hb k
      obtain rfl : i = 5 := by omega
      exact kX6_begin_43 (by decide) (fun _ => k M' hb) (fun h => absurd h (by decide))
    | succ m ih =>
      intro i M' hi hb k
      refine kX6_begin_43 ⟨by omega, by omega⟩ (fun h => absurd h (by omega)) (fun _ => ?_)
      refine kX6_begin_48 hT.kd hT.p6 hT.a6 ⟨by omega, by omega⟩ ⟨by omega, by omega⟩ ?_
      rw [Int.toNat_natCast]
      refine ih (i + 1) _ (by omega) ?_ k
      rw [← sB2_s]
      exact hb.w (i := 3) rfl (by decide) (by decide)
  have l3 : ∀ (W : Nat → Nat → Int) (m i : Nat) (M' : Nat → Nat → Int), i + m = 5 → Bg t M M' (sB3 R i W) → (∀ M', Bg t M M' (sB3 R 5 W) → X E d fX6_begin 117 [some (.ref t), some (.ref r), some (J 5)] [] S1 (mI M') Q) →
      X E d fX6_begin 63 [some (.ref t), some (.ref r), some (J (i : Int))] [] S1 (mI M') Q := by
    intro W m
    induction m with
    | zero =>
      intro i M' hi hb k
      obtain rfl : i = 5 := by omega
      exact kX6_begin_63 (by decide) (fun _ => k M' hb) (fun h => absurd h (by decide))
    | succ m ih =>
      intro i M' hi hb k
      refine kX6_begin_63 ⟨by omega, by omega⟩ (fun h => absurd h (by omega)) (fun _ => ?_)
      refine kX6_begin_68 hT.kd hT.p7 hT.p1 hR.kd hR.p9 hR.d9 ⟨by omega, by omega⟩ ⟨by omega, by omega⟩ hT.a7 ⟨by omega, by omega⟩ hT.p8 hT.a8 ⟨by omega, by omega⟩ hT.p9 hT.a9 ⟨by omega, by omega⟩ rfl hT.p10 hT.a10 ⟨by omega, by omega⟩ hT.p11 hT.a11 ⟨by omega, by omega⟩ ?_
      rw [Int.toNat_natCast]
      refine ih (i + 1) _ (by omega) ?_ k
      rw [← sB3_s, ← hR6 M' hb.2.1 i]
      exact ((((hb.w (i := 4) rfl (by decide) (hb.1 _ _)).w (i := 5) rfl (by decide) (by decide)).w (i := 6) rfl (by decide) (by decide)).w (i := 7) rfl (by decide) (by decide)).w (i := 8) rfl (by decide) (by decide)
  have l4 : ∀ (W : Nat → Nat → Int) (m i : Nat) (M' : Nat → Nat → Int), i + m = 8 → Bg t M M' (sB4 R i W) → (∀ M', Bg t M M' (sB4 R 8 W) → X E d fX6_begin 167 [some (.ref t), some (.ref r), some (J 8)] [] S1 (mI M') Q) →
      X E d fX6_begin 119 [some (.ref t), some (.ref r), some (J (i : Int))] [] S1 (mI M') Q := by
    intro W m
    induction m with
    | zero =>
      intro i M' hi hb k
      obtain rfl : i = 8 := by omega
      exact kX6_begin_119 (by decide) (fun _ => k M' hb) (fun h => absurd h (by decide))
    | succ m ih =>
      intro i M' hi hb k
      refine kX6_begin_119 ⟨by omega, by omega⟩ (fun h => absurd h (by omega)) (fun _ => ?_)
      refine kX6_begin_125 hT.kd hT.p12 hT.p1 hR.kd hR.p11 hR.d11 ⟨by omega, by omega⟩ ⟨by omega, by omega⟩ hT.a12 ⟨by omega, by omega⟩ hT.p13 hT.a13 ⟨by omega, by omega⟩ hT.p14 hT.a14 ⟨by omega, by omega⟩ rfl hT.p15 hT.a15 ⟨by omega, by omega⟩ ?_
      rw [Int.toNat_natCast]
      refine ih (i + 1) _ (by omega) ?_ k
      rw [← sB4_s, ← hR8 M' hb.2.1 i]
      exact (((hb.w (i := 9) rfl (by decide) (hb.1 _ _)).w (i := 10) rfl (by decide) (by decide)).w (i := 11) rfl (by decide) (by decide)).w (i := 12) rfl (by decide) (by decide)
  refine l1 45 0 _ (by omega) ?_ (fun M1 h1 => kX6_begin_41 ?_)
  · unfold sB1
    rw [fil_0, fil_0]
    exact b0
  refine l2 (sB1 45 (mW (win 12 M t) 0 3 200)) 5 0 M1 (by omega) ?_ (fun M2 h2 => kX6_begin_61 ?_)
  · unfold sB2
    rw [fil_0]
    exact h1
  refine l3 (sB2 5 (sB1 45 (mW (win 12 M t) 0 3 200))) 5 0 M2 (by omega) ?_ (fun M3 h3 => kX6_begin_117 ?_)
  · unfold sB3
    rw [fil_0, fil_0, fil_0, fil_0, fil_0]
    exact h2
  refine l4 (sB3 R 5 (sB2 5 (sB1 45 (mW (win 12 M t) 0 3 200)))) 8 0 M3 (by omega) ?_ (fun M4 h4 => kX6_begin_167 (q M4 h4))
  unfold sB4
  rw [fil_0, fil_0, fil_0, fil_0]
  exact h3
end BG
