/-! contracts of the law's road: made, its rows made again, a copy -/
section C23
variable {E : Nat → Value} {d : Nat} {S : aS} {M : Nat → Nat → Int} {Q : Option (Option Value) → aS → aI → Prop} {s : Nat} {T : Nat → Nat} {A : Nat → Nat → Nat} {c : Nat → Nat} {R W O : Nat → Nat → Int}
theorem nK_lt {k n m b : Nat} (h : b < aX S) : aK (aNew S k n m) b = aK S b := ((aExt.new S k n m).2 b h).1
theorem nKd_lt {k n m b : Nat} (h : b < aX S) : aKd (aNew S k n m) b = aKd S b := aExt_kd ((aExt.new S k n m).2 b h)
theorem nN_lt {k n m b : Nat} (h : b < aX S) : aN (aNew S k n m) b = aN S b := ((aExt.new S k n m).2 b h).2.1
theorem nP_lt {k n m b : Nat} (h : b < aX S) : aP (aNew S k n m) b = aP S b := ((aExt.new S k n m).2 b h).2.2
theorem pK_lt {k n m b a j : Nat} {q : Option Nat} (h : b < aX S) : aK (aPut (aNew S k n m) a j q) b = aK S b := nK_lt (k := k) (n := n) (m := m) h
theorem pKd_lt {k n m b a j : Nat} {q : Option Nat} (h : b < aX S) : aKd (aPut (aNew S k n m) a j q) b = aKd S b := nKd_lt (k := k) (n := n) (m := m) h
theorem pN_lt {k n m b a j : Nat} {q : Option Nat} (h : b < aX S) : aN (aPut (aNew S k n m) a j q) b = aN S b := nN_lt (k := k) (n := n) (m := m) h
theorem pP_lt {k n m b a j : Nat} {q : Option Nat} (hn : b ≠ a) (h : b < aX S) : aP (aPut (aNew S k n m) a j q) b = aP S b := (aPut_P hn).trans (nP_lt h)
theorem pK {k n m a j : Nat} {q : Option Nat} : aK (aPut (aNew S k n m) a j q) (aX S) = k := aNew_K (S := S) (k := k) (n := n) (m := m)
theorem pN {k n m a j : Nat} {q : Option Nat} : aN (aPut (aNew S k n m) a j q) (aX S) = n := aNew_N (S := S) (k := k) (n := n) (m := m)
theorem nKd {k n m : Nat} (h : k < 1000) : aKd (aNew S k n m) (aX S) = k := by
  unfold aKd
  rw [aNew_K]
  omega
theorem aCp_ne {b a sp dp n x : Nat} (h : x ≠ a) : aCp M b a sp dp n x = M x := aU_ne _ _ h
theorem aCp_at {b a n q : Nat} (h : q < n) : aCp M b a 0 0 n a q = M b q := by
  unfold aCp
  rw [aU_self]
  unfold va_cpy
  rw [if_pos ⟨Nat.zero_le _, by omega⟩, Nat.zero_add, Nat.sub_zero]
theorem RM.cp (h : RM M) {b a sp dp n : Nat} : RM (aCp M b a sp dp n) := by
  intro x q
  unfold aCp aU
  split
  · unfold va_cpy
    split
    · exact h _ _
    · exact h _ _
  · exact h _ _
theorem RM.nw (h : RM M) {a : Nat} : RM (aU M a (fun _ => 0)) := by
  intro x q
  unfold aU
  split
  · exact R32_0
  · exact h _ _
theorem aExt.put {S' : aS} (h : aExt S S') {a j : Nat} {q : Option Nat} (ha : aX S ≤ a) : aExt S (aPut S' a j q) := ⟨h.1, fun b hb => ⟨(h.2 b hb).1, (h.2 b hb).2.1, (aPut_P (by omega)).trans (h.2 b hb).2.2⟩⟩
/-- cells made before stay, but for what one of them refers to -/
def aE (a : Nat) (S S' : aS) : Prop := aX S ≤ aX S' ∧ ∀ b, b < aX S → aK S' b = aK S b ∧ aN S' b = aN S b ∧ (b ≠ a → aP S' b = aP S b)
theorem aE.trans {a : Nat} {S' S'' : aS} (h : aE a S S') (g : aE a S' S'') : aE a S S'' := ⟨Nat.le_trans h.1 g.1, fun b hb => by
  have h1 := h.2 b hb
  have h2 := g.2 b (Nat.lt_of_lt_of_le hb h.1)
  exact ⟨h2.1.trans h1.1, h2.2.1.trans h1.2.1, fun hn => (h2.2.2 hn).trans (h1.2.2 hn)⟩⟩
theorem aE.step {a k n m j : Nat} {q : Option Nat} : aE a S (aPut (aNew S k n m) a j q) := ⟨Nat.le_succ _, fun b hb => ⟨pK_lt hb, pN_lt hb, fun hn => pP_lt hn hb⟩⟩
theorem aE.kd {a b : Nat} {S' : aS} (h : aE a S S') (hb : b < aX S) : aKd S' b = aKd S b := by unfold aKd; rw [(h.2 b hb).1]
theorem mX8_init {a : Nat} (ha : a < aX S) (hk : aK S a = 10) (hM : RM M)
    (k : ∀ S' M', aX S' = aX S + 5 → aZ S' = aZ S → aE a S S' → RM M' → (∀ b, b < aX S → b ≠ a → M' b = M b) → M' a 0 = M a 0 → M' a 1 = 200 → M' a 7 = -1 → Q (some none) S' (mI M')) :
    X E d fX8_init 0 [some (.ref a)] [] S (mI M) Q := by
  have st : ∀ Sx : aS, a < aX Sx → aK Sx a = 10 → aK (aNew Sx 102 0 0) a = 10 := fun Sx h1 h2 => (nK_lt (k := 102) (n := 0) (m := 0) h1).trans h2
  obtain ⟨S1, e1⟩ : ∃ x, x = aPut (aNew S 102 0 0) a 2 (some (aX S)) := ⟨_, rfl⟩
  have x1 : aX S1 = aX S + 1 := by rw [e1]; rfl
  have zz1 : aZ S1 = aZ S := by rw [e1]; rfl
  have E1 : aE a S S1 := by rw [e1]; exact aE.step
  have k1 : aK S1 a = 10 := (E1.2 a ha).1.trans hk
  obtain ⟨S2, e2⟩ : ∃ x, x = aPut (aNew S1 102 0 0) a 3 (some (aX S1)) := ⟨_, rfl⟩
  have x2 : aX S2 = aX S1 + 1 := by rw [e2]; rfl
  have zz2 : aZ S2 = aZ S1 := by rw [e2]; rfl
  have E2 : aE a S1 S2 := by rw [e2]; exact aE.step
  have k2 : aK S2 a = 10 := (E2.2 a (by omega)).1.trans k1
  obtain ⟨S3, e3⟩ : ∃ x, x = aPut (aNew S2 102 0 0) a 4 (some (aX S2)) := ⟨_, rfl⟩
  have x3 : aX S3 = aX S2 + 1 := by rw [e3]; rfl
  have zz3 : aZ S3 = aZ S2 := by rw [e3]; rfl
  have E3 : aE a S2 S3 := by rw [e3]; exact aE.step
  have k3 : aK S3 a = 10 := (E3.2 a (by omega)).1.trans k2
  obtain ⟨S4, e4⟩ : ∃ x, x = aPut (aNew S3 102 0 0) a 5 (some (aX S3)) := ⟨_, rfl⟩
  have x4 : aX S4 = aX S3 + 1 := by rw [e4]; rfl
  have zz4 : aZ S4 = aZ S3 := by rw [e4]; rfl
  have E4 : aE a S3 S4 := by rw [e4]; exact aE.step
  have k4 : aK S4 a = 10 := (E4.2 a (by omega)).1.trans k3
  obtain ⟨M3, f3⟩ : ∃ x, x = aU (aU (mW M a 1 200) (aX S) (fun _ => 0)) (aX S1) (fun _ => 0) := ⟨_, rfl⟩
  obtain ⟨M7, f7⟩ : ∃ x, x = aU (aU M3 (aX S2) (fun _ => 0)) (aX S3) (fun _ => 0) := ⟨_, rfl⟩
  have hlast : ∀ b, b < aX S → b ≠ a → (mW (aU M7 (aX S4) (fun _ => 0)) a 7 (-1)) b = M b := by
    intro b hb hne
    rw [mW_ne hne, aU_lt _ _ (by omega), f7, aU_lt _ _ (by omega), aU_lt _ _ (by omega), f3, aU_lt _ _ (by omega), aU_lt _ _ hb, mW_ne hne]
  have hin : ∀ q, q ≠ 7 → (mW (aU M7 (aX S4) (fun _ => 0)) a 7 (-1)) a q = mW M a 1 200 a q := by
    intro q hq
    rw [mW_at hq, aU_lt _ _ (by omega), f7, aU_lt _ _ (by omega), aU_lt _ _ (by omega), f3, aU_lt _ _ (by omega), aU_lt _ _ ha]
  have hRM : RM (mW (aU M7 (aX S4) (fun _ => 0)) a 7 (-1)) := by
    rw [f7, f3]
    exact ((((((hM.w ⟨by decide, by decide⟩).nw).nw).nw).nw).nw).w ⟨by decide, by decide⟩
  refine kX8_init_0 (S_5 := S2) (S_9 := S4) (M_3 := M3) (M_7 := M7) hk (st S ha hk) (by rw [← e1]; exact f3.symm) (by rw [← e1]; exact st S1 (by omega) k1) (by rw [← e1]; exact e2.symm) (st S2 (by omega) k2) (by rw [← e3]; exact f7.symm) (by rw [← e3]; exact st S3 (by omega) k3) (by rw [← e3]; exact e4.symm) (st S4 (by omega) k4) ?_
  refine k _ _ ?_ ?_ ?_ hRM hlast ?_ ?_ mW_self
  · show aX S4 + 1 = _
    omega
  · show aZ S4 + 0 = _
    omega
  · exact (((E1.trans E2).trans E3).trans E4).trans aE.step
  · rw [hin 0 (by decide), mW_at (by decide)]
  · rw [hin 1 (by decide), mW_self]
/-- a table made at one go: r, its rows behind it -/
abbrev Tb (S : aS) (r n w : Nat) : Prop := aK S r = 102 ∧ aN S r = n ∧ ∀ k, k < n → aP S r k = some (r + 1 + k) ∧ aK S (r + 1 + k) = 100 ∧ aN S (r + 1 + k) = w
theorem Tb.ext {S' : aS} {r n w : Nat} (h : Tb S r n w) (hx : aExt S S') (hl : r + n < aX S) : Tb S' r n w :=
  ⟨(hx.2 r (by omega)).1.trans h.1, (hx.2 r (by omega)).2.1.trans h.2.1, fun k hk => ⟨(congrFun (hx.2 r (by omega)).2.2 k).trans (h.2.2 k hk).1, (hx.2 (r + 1 + k) (by omega)).1.trans (h.2.2 k hk).2.1, (hx.2 (r + 1 + k) (by omega)).2.1.trans (h.2.2 k hk).2.2⟩⟩
theorem Tb.put {r n w a j : Nat} {q : Option Nat} (h : Tb S r n w) (hne : r ≠ a) : Tb (aPut S a j q) r n w :=
  ⟨h.1, h.2.1, fun k hk => ⟨(congrFun (aPut_P hne) k).trans (h.2.2 k hk).1, (h.2.2 k hk).2.1, (h.2.2 k hk).2.2⟩⟩
theorem mX8_same {a n w : Nat} {B : Nat → Nat} (ha : a < aX S) (hk : aKd S a = 102) (hn : aN S a = n) (hp : ∀ k, k < n → aP S a k = some (B k)) (hb : ∀ k, k < n → B k < aX S ∧ aKd S (B k) = 100 ∧ aN S (B k) = w) (hn2 : n ≤ 1000) (hw : w ≤ 1000) (hM : RM M)
    (kk : ∀ S' M', aExt S S' → aX S' = aX S + 1 + n → aZ S' = aZ S + n + n * w → Tb S' (aX S) n w → RM M' → (∀ b, b < aX S → M' b = M b) → (∀ k q, k < n → q < w → M' (aX S + 1 + k) q = M (B k) q) → Q (some (some (.ref (aX S)))) S' (mI M')) :
    X E d fX8_same 0 [some (.ref a), none, none] [] S (mI M) Q := by
  refine kX8_same_0 (Or.inr (Or.inr hk)) ⟨by omega, by omega⟩ ?_
  have hl : ∀ m i Sx Mx, i + m = n → aExt S Sx → aX Sx = aX S + 1 + i → aZ Sx = aZ S + n + i * w → aK Sx (aX S) = 102 → aN Sx (aX S) = n → (∀ k, k < i → aP Sx (aX S) k = some (aX S + 1 + k) ∧ aK Sx (aX S + 1 + k) = 100 ∧ aN Sx (aX S + 1 + k) = w) → RM Mx → (∀ b, b < aX S → Mx b = M b) → (∀ k q, k < i → q < w → Mx (aX S + 1 + k) q = M (B k) q) →
      X E d fX8_same 8 [some (.ref a), some (.ref (aX S)), some (J (i : Int))] [] Sx (mI Mx) Q := by
    intro m
    induction m with
    | zero =>
      intro i Sx Mx hi hx hX hZ hK hN hR hMx hf hc
      have hi : i = n := by omega
      subst hi
      have e := hx.2 a ha
      have en := e.2.1.trans hn
      refine kX8_same_8 (Or.inr (Or.inr ((aExt_kd e).trans hk))) ⟨by omega, by omega⟩ ⟨by omega, by omega⟩ (fun _ => ?_) (fun h => absurd h (by omega))
      exact kX8_same_44 (kk Sx Mx hx hX hZ ⟨hK, hN, hR⟩ hMx hf hc)
    | succ m ih =>
      intro i Sx Mx hi hx hX hZ hK hN hR hMx hf hc
      have e := hx.2 a ha
      have en := e.2.1.trans hn
      have hin : i < n := by omega
      have hB := hb i hin
      have eB := hx.2 (B i) hB.1
      have eBn := eB.2.1.trans hB.2.2
      have ek : aKd Sx a = 102 := (aExt_kd e).trans hk
      have ekB : aKd Sx (B i) = 100 := (aExt_kd eB).trans hB.2.1
      have hr : aX S < aX Sx := by omega
      have hBx : B i < aX Sx := by omega
      have hax : a < aX Sx := by omega
      have hdr : aKd Sx (aX S) = 102 := by unfold aKd; rw [hK]
      refine kX8_same_8 (Or.inr (Or.inr ek)) ⟨by omega, by omega⟩ ⟨by omega, by omega⟩ (fun h => absurd h (by omega)) (fun _ => ?_)
      refine kX8_same_14 (b4 := B i) (b16 := B i) (b21 := aX Sx) ek ⟨by omega, by omega⟩ ⟨by omega, by omega⟩ ((congrFun e.2.2 _).trans (hp i hin)) (Or.inl ekB) ⟨by omega, by omega⟩
        (by rw [nK_lt hr]; exact hK) ⟨by omega, by rw [nN_lt hr]; omega⟩ aNew_K rfl ((pKd_lt hax).trans ek) ⟨by omega, ?_⟩ ((congrFun ((pP_lt (by omega) hax).trans e.2.2) _).trans (hp i hin))
        ((pKd_lt hr).trans hdr) ⟨by omega, ?_⟩ aPut_self (Or.inl ((pKd_lt hBx).trans ekB)) ((pKd_lt hBx).trans ekB) pK (Int.natCast_nonneg _) ?_ (by omega) ?_ ?_
      · rw [pN_lt hax]; omega
      · rw [pN_lt hr]; omega
      · rw [pN_lt hBx]; exact ⟨by omega, by omega⟩
      · rw [pN_lt hBx, pN]; omega
      · have e9 : aN (aPut (aNew Sx 100 ((aN Sx (B i) : Nat) : Int).toNat ((aN Sx (B i) : Nat) : Int).toNat) (aX S) ((i : Nat) : Int).toNat (some (aX Sx))) (B i) = w := (pN_lt hBx).trans eBn
        rw [e9, Int.toNat_natCast, Int.toNat_natCast, Int.toNat_natCast, eBn]
        have z := ih (i + 1) (aPut (aNew Sx 100 w w) (aX S) i (some (aX Sx))) (aCp (aU Mx (aX Sx) (fun _ => 0)) (B i) (aX Sx) 0 0 w) (by omega) ((hx.trans (aExt.new _ _ _ _)).put (Nat.le_refl _)) (by show aX Sx + 1 = _; omega) (by show aZ Sx + w = _; rw [Nat.succ_mul]; omega) ((pK_lt hr).trans hK) ((pN_lt hr).trans hN) (fun k hk => ?_) hMx.nw.cp (fun b hb => ?_) (fun k q hk hq => ?_)
        · exact z
        · by_cases h : k = i
          · subst h
            have e1 : aX S + 1 + k = aX Sx := by omega
            rw [e1]
            exact ⟨aPut_self, pK, pN⟩
          · have h0 := hR k (by omega)
            have hlt : aX S + 1 + k < aX Sx := by omega
            exact ⟨(aPut_at h).trans ((congrFun (nP_lt hr) k).trans h0.1), (pK_lt hlt).trans h0.2.1, (pN_lt hlt).trans h0.2.2⟩
        · rw [aCp_ne (by omega), aU_lt _ _ (by omega), hf b hb]
        · by_cases h : k = i
          · subst h
            have e1 : aX S + 1 + k = aX Sx := by omega
            rw [e1, aCp_at hq, aU_lt _ _ hBx, hf _ hB.1]
          · rw [aCp_ne (by omega), aU_lt _ _ (by omega), hc k q (by omega) hq]
  have hr0 : aX S < aX (aNew S 102 ((aN S a : Nat) : Int).toNat ((aN S a : Nat) : Int).toNat) := Nat.lt_succ_self _
  exact hl n 0 _ _ (by omega) (aExt.new _ _ _ _) rfl (by show aZ S + _ = _; rw [Int.toNat_natCast, hn]; omega) aNew_K (by rw [aNew_N, Int.toNat_natCast]; exact hn) (fun k hk => absurd hk (by omega)) hM.nw (fun b hb => aU_lt _ _ hb) (fun k q hk => absurd hk (by omega))
end C23
