/-! how the objects of the class lie: one behind the other, as the constructors make them; a window of memory -/
section AL
/-- what was made stays as it is -/
def aExt (S S' : aS) : Prop := aX S ≤ aX S' ∧ ∀ b, b < aX S → aK S' b = aK S b ∧ aN S' b = aN S b ∧ aP S' b = aP S b
theorem aExt_kd {S S' : aS} {b : Nat} (h : aK S' b = aK S b ∧ aN S' b = aN S b ∧ aP S' b = aP S b) : aKd S' b = aKd S b := by unfold aKd; rw [h.1]
theorem aExt.refl (S : aS) : aExt S S := ⟨Nat.le_refl _, fun _ _ => ⟨rfl, rfl, rfl⟩⟩
theorem aExt.trans {S S' S'' : aS} (h : aExt S S') (g : aExt S' S'') : aExt S S'' := ⟨Nat.le_trans h.1 g.1, fun b hb => by
  have h1 := h.2 b hb
  have h2 := g.2 b (Nat.lt_of_lt_of_le hb h.1)
  exact ⟨h2.1.trans h1.1, h2.2.1.trans h1.2.1, h2.2.2.trans h1.2.2⟩⟩
theorem aExt.new (S : aS) (k n m : Nat) : aExt S (aNew S k n m) := ⟨Nat.le_succ _, fun b hb => by
  have h : b ≠ aX S := Nat.ne_of_lt hb
  refine ⟨?_, ?_, ?_⟩
  · show aU (aK S) (aX S) k b = _
    unfold aU; rw [if_neg h]
  · show aU (aN S) (aX S) n b = _
    unfold aU; rw [if_neg h]
  · show aU (aP S) (aX S) _ b = _
    unfold aU; rw [if_neg h]⟩
/-- a window: the numbers of the cells t to t + n -/
def win (n : Nat) (M : Nat → Nat → Int) (t : Nat) : Nat → Nat → Int := fun i => if i ≤ n then M (t + i) else fun _ => 0
theorem win_at {n i t : Nat} {M : Nat → Nat → Int} (h : i ≤ n) : win n M t i = M (t + i) := by unfold win; rw [if_pos h]
theorem mW_row {M : Nat → Nat → Int} {a k j : Nat} {x : Int} : mW M a k x a j = if j = k then x else M a j := by unfold mW aU; rw [if_pos rfl]
theorem mW_ne2 {M : Nat → Nat → Int} {a k b j : Nat} {x : Int} (h : b ≠ a ∨ j ≠ k) : mW M a k x b j = M b j := by
  unfold mW aU
  by_cases h1 : b = a
  · rcases h with h | h
    · exact absurd h1 h
    · rw [if_pos h1, if_neg h, h1]
  · rw [if_neg h1]
theorem win_W {n i k t : Nat} {x : Int} {M : Nat → Nat → Int} (h : i ≤ n) : win n (mW M (t + i) k x) t = mW (win n M t) i k x := by
  funext j m
  unfold win mW aU
  by_cases hj : j = i
  · subst hj
    simp [h]
  · by_cases hn : j ≤ n
    · simp [hj, hn]
    · simp [hj, hn]
theorem win_W0 {n k t : Nat} {x : Int} {M : Nat → Nat → Int} : win n (mW M t k x) t = mW (win n M t) 0 k x := win_W (i := 0) (Nat.zero_le _)
theorem win_fr {n t : Nat} {M M' : Nat → Nat → Int} (h : ∀ b, t ≤ b → b ≤ t + n → M' b = M b) : win n M' t = win n M t := by
  funext j
  unfold win
  by_cases hn : j ≤ n
  · rw [if_pos hn, if_pos hn, h (t + j) (by omega) (by omega)]
  · rw [if_neg hn, if_neg hn]
theorem win_out {n k t a : Nat} {x : Int} {M : Nat → Nat → Int} (h : a < t ∨ t + n < a) : win n (mW M a k x) t = win n M t := win_fr (fun b h1 h2 => mW_ne (by omega))
/-- nothing but the cells lo to hi, and k, is another -/
def Fr (lo hi k : Nat) (M M' : Nat → Nat → Int) : Prop := ∀ b, b < lo ∨ hi < b → b ≠ k → M' b = M b
theorem Fr.refl {lo hi k : Nat} {M : Nat → Nat → Int} : Fr lo hi k M M := fun _ _ _ => rfl
theorem Fr.trans {lo hi k : Nat} {M M' M'' : Nat → Nat → Int} (h : Fr lo hi k M M') (g : Fr lo hi k M' M'') : Fr lo hi k M M'' := fun b h1 h2 => (g b h1 h2).trans (h b h1 h2)
theorem Fr.w {lo hi k a j : Nat} {x : Int} {M M' : Nat → Nat → Int} (h : Fr lo hi k M M') (ha : lo ≤ a ∧ a ≤ hi ∨ a = k) : Fr lo hi k M (mW M' a j x) := fun b h1 h2 => (mW_ne (by omega)).trans (h b h1 h2)
theorem Fr.win {lo hi k n t : Nat} {M M' : Nat → Nat → Int} (h : Fr lo hi k M M') (h1 : t + n < lo ∨ hi < t) (h2 : k < t ∨ t + n < k) : win n M' t = win n M t := win_fr (fun b g1 g2 => h b (by omega) (by omega))
/-- a trust: 13 cells -/
abbrev TrS (S : aS) (t rk rd : Nat) : Prop :=
  (aK S t = 8) ∧ (aKd S t = 8) ∧ (aP S t 0 = some rk) ∧ (aP S t 1 = some rd) ∧ (aP S t 4 = some (t + 1)) ∧ (aK S (t + 1) = 100) ∧ (aKd S (t + 1) = 100) ∧ (aN S (t + 1) = 45) ∧ (aP S t 5 = some (t + 2)) ∧ (aK S (t + 2) = 100) ∧ (aKd S (t + 2) = 100) ∧ (aN S (t + 2) = 45) ∧ (aP S t 6 = some (t + 3)) ∧ (aK S (t + 3) = 100) ∧ (aKd S (t + 3) = 100) ∧ (aN S (t + 3) = 5) ∧ (aP S t 7 = some (t + 4)) ∧ (aK S (t + 4) = 100) ∧ (aKd S (t + 4) = 100) ∧ (aN S (t + 4) = 5) ∧ (aP S t 8 = some (t + 5)) ∧ (aK S (t + 5) = 100) ∧ (aKd S (t + 5) = 100) ∧ (aN S (t + 5) = 5) ∧ (aP S t 9 = some (t + 6)) ∧ (aK S (t + 6) = 100) ∧ (aKd S (t + 6) = 100) ∧ (aN S (t + 6) = 5) ∧ (aP S t 10 = some (t + 7)) ∧ (aK S (t + 7) = 100) ∧ (aKd S (t + 7) = 100) ∧ (aN S (t + 7) = 5) ∧ (aP S t 11 = some (t + 8)) ∧ (aK S (t + 8) = 100) ∧ (aKd S (t + 8) = 100) ∧ (aN S (t + 8) = 5) ∧ (aP S t 12 = some (t + 9)) ∧ (aK S (t + 9) = 100) ∧ (aKd S (t + 9) = 100) ∧ (aN S (t + 9) = 8) ∧ (aP S t 13 = some (t + 10)) ∧ (aK S (t + 10) = 100) ∧ (aKd S (t + 10) = 100) ∧ (aN S (t + 10) = 8) ∧ (aP S t 14 = some (t + 11)) ∧ (aK S (t + 11) = 100) ∧ (aKd S (t + 11) = 100) ∧ (aN S (t + 11) = 8) ∧ (aP S t 15 = some (t + 12)) ∧ (aK S (t + 12) = 100) ∧ (aKd S (t + 12) = 100) ∧ (aN S (t + 12) = 8)
theorem TrS.k {S : aS} {t rk rd : Nat} (h : TrS S t rk rd) : aK S t = 8 := h.1
theorem TrS.kd {S : aS} {t rk rd : Nat} (h : TrS S t rk rd) : aKd S t = 8 := h.2.1
theorem TrS.p0 {S : aS} {t rk rd : Nat} (h : TrS S t rk rd) : aP S t 0 = some rk := h.2.2.1
theorem TrS.p1 {S : aS} {t rk rd : Nat} (h : TrS S t rk rd) : aP S t 1 = some rd := h.2.2.2.1
theorem TrS.p4 {S : aS} {t rk rd : Nat} (h : TrS S t rk rd) : aP S t 4 = some (t + 1) := h.2.2.2.2.1
theorem TrS.a4 {S : aS} {t rk rd : Nat} (h : TrS S t rk rd) : aK S (t + 1) = 100 := h.2.2.2.2.2.1
theorem TrS.d4 {S : aS} {t rk rd : Nat} (h : TrS S t rk rd) : aKd S (t + 1) = 100 := h.2.2.2.2.2.2.1
theorem TrS.n4 {S : aS} {t rk rd : Nat} (h : TrS S t rk rd) : aN S (t + 1) = 45 := h.2.2.2.2.2.2.2.1
theorem TrS.p5 {S : aS} {t rk rd : Nat} (h : TrS S t rk rd) : aP S t 5 = some (t + 2) := h.2.2.2.2.2.2.2.2.1
theorem TrS.a5 {S : aS} {t rk rd : Nat} (h : TrS S t rk rd) : aK S (t + 2) = 100 := h.2.2.2.2.2.2.2.2.2.1
theorem TrS.d5 {S : aS} {t rk rd : Nat} (h : TrS S t rk rd) : aKd S (t + 2) = 100 := h.2.2.2.2.2.2.2.2.2.2.1
theorem TrS.n5 {S : aS} {t rk rd : Nat} (h : TrS S t rk rd) : aN S (t + 2) = 45 := h.2.2.2.2.2.2.2.2.2.2.2.1
theorem TrS.p6 {S : aS} {t rk rd : Nat} (h : TrS S t rk rd) : aP S t 6 = some (t + 3) := h.2.2.2.2.2.2.2.2.2.2.2.2.1
theorem TrS.a6 {S : aS} {t rk rd : Nat} (h : TrS S t rk rd) : aK S (t + 3) = 100 := h.2.2.2.2.2.2.2.2.2.2.2.2.2.1
theorem TrS.d6 {S : aS} {t rk rd : Nat} (h : TrS S t rk rd) : aKd S (t + 3) = 100 := h.2.2.2.2.2.2.2.2.2.2.2.2.2.2.1
theorem TrS.n6 {S : aS} {t rk rd : Nat} (h : TrS S t rk rd) : aN S (t + 3) = 5 := h.2.2.2.2.2.2.2.2.2.2.2.2.2.2.2.1
theorem TrS.p7 {S : aS} {t rk rd : Nat} (h : TrS S t rk rd) : aP S t 7 = some (t + 4) := h.2.2.2.2.2.2.2.2.2.2.2.2.2.2.2.2.1
theorem TrS.a7 {S : aS} {t rk rd : Nat} (h : TrS S t rk rd) : aK S (t + 4) = 100 := h.2.2.2.2.2.2.2.2.2.2.2.2.2.2.2.2.2.1
theorem TrS.d7 {S : aS} {t rk rd : Nat} (h : TrS S t rk rd) : aKd S (t + 4) = 100 := h.2.2.2.2.2.2.2.2.2.2.2.2.2.2.2.2.2.2.1
theorem TrS.n7 {S : aS} {t rk rd : Nat} (h : TrS S t rk rd) : aN S (t + 4) = 5 := h.2.2.2.2.2.2.2.2.2.2.2.2.2.2.2.2.2.2.2.1
theorem TrS.p8 {S : aS} {t rk rd : Nat} (h : TrS S t rk rd) : aP S t 8 = some (t + 5) := h.2.2.2.2.2.2.2.2.2.2.2.2.2.2.2.2.2.2.2.2.1
theorem TrS.a8 {S : aS} {t rk rd : Nat} (h : TrS S t rk rd) : aK S (t + 5) = 100 := h.2.2.2.2.2.2.2.2.2.2.2.2.2.2.2.2.2.2.2.2.2.1
theorem TrS.d8 {S : aS} {t rk rd : Nat} (h : TrS S t rk rd) : aKd S (t + 5) = 100 := h.2.2.2.2.2.2.2.2.2.2.2.2.2.2.2.2.2.2.2.2.2.2.1
theorem TrS.n8 {S : aS} {t rk rd : Nat} (h : TrS S t rk rd) : aN S (t + 5) = 5 := h.2.2.2.2.2.2.2.2.2.2.2.2.2.2.2.2.2.2.2.2.2.2.2.1
theorem TrS.p9 {S : aS} {t rk rd : Nat} (h : TrS S t rk rd) : aP S t 9 = some (t + 6) := h.2.2.2.2.2.2.2.2.2.2.2.2.2.2.2.2.2.2.2.2.2.2.2.2.1
theorem TrS.a9 {S : aS} {t rk rd : Nat} (h : TrS S t rk rd) : aK S (t + 6) = 100 := h.2.2.2.2.2.2.2.2.2.2.2.2.2.2.2.2.2.2.2.2.2.2.2.2.2.1
theorem TrS.d9 {S : aS} {t rk rd : Nat} (h : TrS S t rk rd) : aKd S (t + 6) = 100 := h.2.2.2.2.2.2.2.2.2.2.2.2.2.2.2.2.2.2.2.2.2.2.2.2.2.2.1
theorem TrS.n9 {S : aS} {t rk rd : Nat} (h : TrS S t rk rd) : aN S (t + 6) = 5 := h.2.2.2.2.2.2.2.2.2.2.2.2.2.2.2.2.2.2.2.2.2.2.2.2.2.2.2.1
theorem TrS.p10 {S : aS} {t rk rd : Nat} (h : TrS S t rk rd) : aP S t 10 = some (t + 7) := h.2.2.2.2.2.2.2.2.2.2.2.2.2.2.2.2.2.2.2.2.2.2.2.2.2.2.2.2.1
theorem TrS.a10 {S : aS} {t rk rd : Nat} (h : TrS S t rk rd) : aK S (t + 7) = 100 := h.2.2.2.2.2.2.2.2.2.2.2.2.2.2.2.2.2.2.2.2.2.2.2.2.2.2.2.2.2.1
theorem TrS.d10 {S : aS} {t rk rd : Nat} (h : TrS S t rk rd) : aKd S (t + 7) = 100 := h.2.2.2.2.2.2.2.2.2.2.2.2.2.2.2.2.2.2.2.2.2.2.2.2.2.2.2.2.2.2.1
theorem TrS.n10 {S : aS} {t rk rd : Nat} (h : TrS S t rk rd) : aN S (t + 7) = 5 := h.2.2.2.2.2.2.2.2.2.2.2.2.2.2.2.2.2.2.2.2.2.2.2.2.2.2.2.2.2.2.2.1
theorem TrS.p11 {S : aS} {t rk rd : Nat} (h : TrS S t rk rd) : aP S t 11 = some (t + 8) := h.2.2.2.2.2.2.2.2.2.2.2.2.2.2.2.2.2.2.2.2.2.2.2.2.2.2.2.2.2.2.2.2.1
theorem TrS.a11 {S : aS} {t rk rd : Nat} (h : TrS S t rk rd) : aK S (t + 8) = 100 := h.2.2.2.2.2.2.2.2.2.2.2.2.2.2.2.2.2.2.2.2.2.2.2.2.2.2.2.2.2.2.2.2.2.1
theorem TrS.d11 {S : aS} {t rk rd : Nat} (h : TrS S t rk rd) : aKd S (t + 8) = 100 := h.2.2.2.2.2.2.2.2.2.2.2.2.2.2.2.2.2.2.2.2.2.2.2.2.2.2.2.2.2.2.2.2.2.2.1
theorem TrS.n11 {S : aS} {t rk rd : Nat} (h : TrS S t rk rd) : aN S (t + 8) = 5 := h.2.2.2.2.2.2.2.2.2.2.2.2.2.2.2.2.2.2.2.2.2.2.2.2.2.2.2.2.2.2.2.2.2.2.2.1
theorem TrS.p12 {S : aS} {t rk rd : Nat} (h : TrS S t rk rd) : aP S t 12 = some (t + 9) := h.2.2.2.2.2.2.2.2.2.2.2.2.2.2.2.2.2.2.2.2.2.2.2.2.2.2.2.2.2.2.2.2.2.2.2.2.1
theorem TrS.a12 {S : aS} {t rk rd : Nat} (h : TrS S t rk rd) : aK S (t + 9) = 100 := h.2.2.2.2.2.2.2.2.2.2.2.2.2.2.2.2.2.2.2.2.2.2.2.2.2.2.2.2.2.2.2.2.2.2.2.2.2.1
theorem TrS.d12 {S : aS} {t rk rd : Nat} (h : TrS S t rk rd) : aKd S (t + 9) = 100 := h.2.2.2.2.2.2.2.2.2.2.2.2.2.2.2.2.2.2.2.2.2.2.2.2.2.2.2.2.2.2.2.2.2.2.2.2.2.2.1
theorem TrS.n12 {S : aS} {t rk rd : Nat} (h : TrS S t rk rd) : aN S (t + 9) = 8 := h.2.2.2.2.2.2.2.2.2.2.2.2.2.2.2.2.2.2.2.2.2.2.2.2.2.2.2.2.2.2.2.2.2.2.2.2.2.2.2.1
theorem TrS.p13 {S : aS} {t rk rd : Nat} (h : TrS S t rk rd) : aP S t 13 = some (t + 10) := h.2.2.2.2.2.2.2.2.2.2.2.2.2.2.2.2.2.2.2.2.2.2.2.2.2.2.2.2.2.2.2.2.2.2.2.2.2.2.2.2.1
theorem TrS.a13 {S : aS} {t rk rd : Nat} (h : TrS S t rk rd) : aK S (t + 10) = 100 := h.2.2.2.2.2.2.2.2.2.2.2.2.2.2.2.2.2.2.2.2.2.2.2.2.2.2.2.2.2.2.2.2.2.2.2.2.2.2.2.2.2.1
theorem TrS.d13 {S : aS} {t rk rd : Nat} (h : TrS S t rk rd) : aKd S (t + 10) = 100 := h.2.2.2.2.2.2.2.2.2.2.2.2.2.2.2.2.2.2.2.2.2.2.2.2.2.2.2.2.2.2.2.2.2.2.2.2.2.2.2.2.2.2.1
theorem TrS.n13 {S : aS} {t rk rd : Nat} (h : TrS S t rk rd) : aN S (t + 10) = 8 := h.2.2.2.2.2.2.2.2.2.2.2.2.2.2.2.2.2.2.2.2.2.2.2.2.2.2.2.2.2.2.2.2.2.2.2.2.2.2.2.2.2.2.2.1
theorem TrS.p14 {S : aS} {t rk rd : Nat} (h : TrS S t rk rd) : aP S t 14 = some (t + 11) := h.2.2.2.2.2.2.2.2.2.2.2.2.2.2.2.2.2.2.2.2.2.2.2.2.2.2.2.2.2.2.2.2.2.2.2.2.2.2.2.2.2.2.2.2.1
theorem TrS.a14 {S : aS} {t rk rd : Nat} (h : TrS S t rk rd) : aK S (t + 11) = 100 := h.2.2.2.2.2.2.2.2.2.2.2.2.2.2.2.2.2.2.2.2.2.2.2.2.2.2.2.2.2.2.2.2.2.2.2.2.2.2.2.2.2.2.2.2.2.1
theorem TrS.d14 {S : aS} {t rk rd : Nat} (h : TrS S t rk rd) : aKd S (t + 11) = 100 := h.2.2.2.2.2.2.2.2.2.2.2.2.2.2.2.2.2.2.2.2.2.2.2.2.2.2.2.2.2.2.2.2.2.2.2.2.2.2.2.2.2.2.2.2.2.2.1
theorem TrS.n14 {S : aS} {t rk rd : Nat} (h : TrS S t rk rd) : aN S (t + 11) = 8 := h.2.2.2.2.2.2.2.2.2.2.2.2.2.2.2.2.2.2.2.2.2.2.2.2.2.2.2.2.2.2.2.2.2.2.2.2.2.2.2.2.2.2.2.2.2.2.2.1
theorem TrS.p15 {S : aS} {t rk rd : Nat} (h : TrS S t rk rd) : aP S t 15 = some (t + 12) := h.2.2.2.2.2.2.2.2.2.2.2.2.2.2.2.2.2.2.2.2.2.2.2.2.2.2.2.2.2.2.2.2.2.2.2.2.2.2.2.2.2.2.2.2.2.2.2.2.1
theorem TrS.a15 {S : aS} {t rk rd : Nat} (h : TrS S t rk rd) : aK S (t + 12) = 100 := h.2.2.2.2.2.2.2.2.2.2.2.2.2.2.2.2.2.2.2.2.2.2.2.2.2.2.2.2.2.2.2.2.2.2.2.2.2.2.2.2.2.2.2.2.2.2.2.2.2.1
theorem TrS.d15 {S : aS} {t rk rd : Nat} (h : TrS S t rk rd) : aKd S (t + 12) = 100 := h.2.2.2.2.2.2.2.2.2.2.2.2.2.2.2.2.2.2.2.2.2.2.2.2.2.2.2.2.2.2.2.2.2.2.2.2.2.2.2.2.2.2.2.2.2.2.2.2.2.2.1
theorem TrS.n15 {S : aS} {t rk rd : Nat} (h : TrS S t rk rd) : aN S (t + 12) = 8 := h.2.2.2.2.2.2.2.2.2.2.2.2.2.2.2.2.2.2.2.2.2.2.2.2.2.2.2.2.2.2.2.2.2.2.2.2.2.2.2.2.2.2.2.2.2.2.2.2.2.2.2
theorem TrS.ext {S S' : aS} {t rk rd : Nat} (h : TrS S t rk rd) (hx : aExt S S') (hl : t + 12 < aX S) : TrS S' t rk rd := by
  have h0 := hx.2 t (by omega)
  have h_4 := hx.2 (t + 1) (by omega)
  have h_5 := hx.2 (t + 2) (by omega)
  have h_6 := hx.2 (t + 3) (by omega)
  have h_7 := hx.2 (t + 4) (by omega)
  have h_8 := hx.2 (t + 5) (by omega)
  have h_9 := hx.2 (t + 6) (by omega)
  have h_10 := hx.2 (t + 7) (by omega)
  have h_11 := hx.2 (t + 8) (by omega)
  have h_12 := hx.2 (t + 9) (by omega)
  have h_13 := hx.2 (t + 10) (by omega)
  have h_14 := hx.2 (t + 11) (by omega)
  have h_15 := hx.2 (t + 12) (by omega)
  exact ⟨(h0.1).trans h.k, (aExt_kd h0).trans h.kd, (congrFun h0.2.2 0).trans h.p0, (congrFun h0.2.2 1).trans h.p1, (congrFun h0.2.2 4).trans h.p4, (h_4.1).trans h.a4, (aExt_kd h_4).trans h.d4, (h_4.2.1).trans h.n4, (congrFun h0.2.2 5).trans h.p5, (h_5.1).trans h.a5, (aExt_kd h_5).trans h.d5, (h_5.2.1).trans h.n5, (congrFun h0.2.2 6).trans h.p6, (h_6.1).trans h.a6, (aExt_kd h_6).trans h.d6, (h_6.2.1).trans h.n6, (congrFun h0.2.2 7).trans h.p7, (h_7.1).trans h.a7, (aExt_kd h_7).trans h.d7, (h_7.2.1).trans h.n7, (congrFun h0.2.2 8).trans h.p8, (h_8.1).trans h.a8, (aExt_kd h_8).trans h.d8, (h_8.2.1).trans h.n8, (congrFun h0.2.2 9).trans h.p9, (h_9.1).trans h.a9, (aExt_kd h_9).trans h.d9, (h_9.2.1).trans h.n9, (congrFun h0.2.2 10).trans h.p10, (h_10.1).trans h.a10, (aExt_kd h_10).trans h.d10, (h_10.2.1).trans h.n10, (congrFun h0.2.2 11).trans h.p11, (h_11.1).trans h.a11, (aExt_kd h_11).trans h.d11, (h_11.2.1).trans h.n11, (congrFun h0.2.2 12).trans h.p12, (h_12.1).trans h.a12, (aExt_kd h_12).trans h.d12, (h_12.2.1).trans h.n12, (congrFun h0.2.2 13).trans h.p13, (h_13.1).trans h.a13, (aExt_kd h_13).trans h.d13, (h_13.2.1).trans h.n13, (congrFun h0.2.2 14).trans h.p14, (h_14.1).trans h.a14, (aExt_kd h_14).trans h.d14, (h_14.2.1).trans h.n14, (congrFun h0.2.2 15).trans h.p15, (h_15.1).trans h.a15, (aExt_kd h_15).trans h.d15, (h_15.2.1).trans h.n15⟩
/-- a road: 12 cells, and its orders behind them -/
abbrev RdS (S : aS) (r : Nat) : Prop :=
  (aK S r = 5) ∧ (aKd S r = 5) ∧ (aP S r 15 = some (r + 12)) ∧ (aP S r 4 = some (r + 1)) ∧ (aK S (r + 1) = 100) ∧ (aKd S (r + 1) = 100) ∧ (aN S (r + 1) = 5) ∧ (aP S r 5 = some (r + 2)) ∧ (aK S (r + 2) = 100) ∧ (aKd S (r + 2) = 100) ∧ (aN S (r + 2) = 5) ∧ (aP S r 6 = some (r + 3)) ∧ (aK S (r + 3) = 100) ∧ (aKd S (r + 3) = 100) ∧ (aN S (r + 3) = 5) ∧ (aP S r 7 = some (r + 4)) ∧ (aK S (r + 4) = 100) ∧ (aKd S (r + 4) = 100) ∧ (aN S (r + 4) = 45) ∧ (aP S r 8 = some (r + 5)) ∧ (aK S (r + 5) = 100) ∧ (aKd S (r + 5) = 100) ∧ (aN S (r + 5) = 5) ∧ (aP S r 9 = some (r + 6)) ∧ (aK S (r + 6) = 100) ∧ (aKd S (r + 6) = 100) ∧ (aN S (r + 6) = 5) ∧ (aP S r 10 = some (r + 7)) ∧ (aK S (r + 7) = 100) ∧ (aKd S (r + 7) = 100) ∧ (aN S (r + 7) = 8) ∧ (aP S r 11 = some (r + 8)) ∧ (aK S (r + 8) = 100) ∧ (aKd S (r + 8) = 100) ∧ (aN S (r + 8) = 8) ∧ (aP S r 12 = some (r + 9)) ∧ (aK S (r + 9) = 100) ∧ (aKd S (r + 9) = 100) ∧ (aN S (r + 9) = 8) ∧ (aP S r 13 = some (r + 10)) ∧ (aK S (r + 10) = 100) ∧ (aKd S (r + 10) = 100) ∧ (aN S (r + 10) = 8) ∧ (aP S r 14 = some (r + 11)) ∧ (aK S (r + 11) = 100) ∧ (aKd S (r + 11) = 100) ∧ (aN S (r + 11) = 8)
theorem RdS.k {S : aS} {r : Nat} (h : RdS S r) : aK S r = 5 := h.1
theorem RdS.kd {S : aS} {r : Nat} (h : RdS S r) : aKd S r = 5 := h.2.1
theorem RdS.p15 {S : aS} {r : Nat} (h : RdS S r) : aP S r 15 = some (r + 12) := h.2.2.1
theorem RdS.p4 {S : aS} {r : Nat} (h : RdS S r) : aP S r 4 = some (r + 1) := h.2.2.2.1
theorem RdS.a4 {S : aS} {r : Nat} (h : RdS S r) : aK S (r + 1) = 100 := h.2.2.2.2.1
theorem RdS.d4 {S : aS} {r : Nat} (h : RdS S r) : aKd S (r + 1) = 100 := h.2.2.2.2.2.1
theorem RdS.n4 {S : aS} {r : Nat} (h : RdS S r) : aN S (r + 1) = 5 := h.2.2.2.2.2.2.1
theorem RdS.p5 {S : aS} {r : Nat} (h : RdS S r) : aP S r 5 = some (r + 2) := h.2.2.2.2.2.2.2.1
theorem RdS.a5 {S : aS} {r : Nat} (h : RdS S r) : aK S (r + 2) = 100 := h.2.2.2.2.2.2.2.2.1
theorem RdS.d5 {S : aS} {r : Nat} (h : RdS S r) : aKd S (r + 2) = 100 := h.2.2.2.2.2.2.2.2.2.1
theorem RdS.n5 {S : aS} {r : Nat} (h : RdS S r) : aN S (r + 2) = 5 := h.2.2.2.2.2.2.2.2.2.2.1
theorem RdS.p6 {S : aS} {r : Nat} (h : RdS S r) : aP S r 6 = some (r + 3) := h.2.2.2.2.2.2.2.2.2.2.2.1
theorem RdS.a6 {S : aS} {r : Nat} (h : RdS S r) : aK S (r + 3) = 100 := h.2.2.2.2.2.2.2.2.2.2.2.2.1
theorem RdS.d6 {S : aS} {r : Nat} (h : RdS S r) : aKd S (r + 3) = 100 := h.2.2.2.2.2.2.2.2.2.2.2.2.2.1
theorem RdS.n6 {S : aS} {r : Nat} (h : RdS S r) : aN S (r + 3) = 5 := h.2.2.2.2.2.2.2.2.2.2.2.2.2.2.1
theorem RdS.p7 {S : aS} {r : Nat} (h : RdS S r) : aP S r 7 = some (r + 4) := h.2.2.2.2.2.2.2.2.2.2.2.2.2.2.2.1
theorem RdS.a7 {S : aS} {r : Nat} (h : RdS S r) : aK S (r + 4) = 100 := h.2.2.2.2.2.2.2.2.2.2.2.2.2.2.2.2.1
theorem RdS.d7 {S : aS} {r : Nat} (h : RdS S r) : aKd S (r + 4) = 100 := h.2.2.2.2.2.2.2.2.2.2.2.2.2.2.2.2.2.1
theorem RdS.n7 {S : aS} {r : Nat} (h : RdS S r) : aN S (r + 4) = 45 := h.2.2.2.2.2.2.2.2.2.2.2.2.2.2.2.2.2.2.1
theorem RdS.p8 {S : aS} {r : Nat} (h : RdS S r) : aP S r 8 = some (r + 5) := h.2.2.2.2.2.2.2.2.2.2.2.2.2.2.2.2.2.2.2.1
theorem RdS.a8 {S : aS} {r : Nat} (h : RdS S r) : aK S (r + 5) = 100 := h.2.2.2.2.2.2.2.2.2.2.2.2.2.2.2.2.2.2.2.2.1
theorem RdS.d8 {S : aS} {r : Nat} (h : RdS S r) : aKd S (r + 5) = 100 := h.2.2.2.2.2.2.2.2.2.2.2.2.2.2.2.2.2.2.2.2.2.1
theorem RdS.n8 {S : aS} {r : Nat} (h : RdS S r) : aN S (r + 5) = 5 := h.2.2.2.2.2.2.2.2.2.2.2.2.2.2.2.2.2.2.2.2.2.2.1
theorem RdS.p9 {S : aS} {r : Nat} (h : RdS S r) : aP S r 9 = some (r + 6) := h.2.2.2.2.2.2.2.2.2.2.2.2.2.2.2.2.2.2.2.2.2.2.2.1
theorem RdS.a9 {S : aS} {r : Nat} (h : RdS S r) : aK S (r + 6) = 100 := h.2.2.2.2.2.2.2.2.2.2.2.2.2.2.2.2.2.2.2.2.2.2.2.2.1
theorem RdS.d9 {S : aS} {r : Nat} (h : RdS S r) : aKd S (r + 6) = 100 := h.2.2.2.2.2.2.2.2.2.2.2.2.2.2.2.2.2.2.2.2.2.2.2.2.2.1
theorem RdS.n9 {S : aS} {r : Nat} (h : RdS S r) : aN S (r + 6) = 5 := h.2.2.2.2.2.2.2.2.2.2.2.2.2.2.2.2.2.2.2.2.2.2.2.2.2.2.1
theorem RdS.p10 {S : aS} {r : Nat} (h : RdS S r) : aP S r 10 = some (r + 7) := h.2.2.2.2.2.2.2.2.2.2.2.2.2.2.2.2.2.2.2.2.2.2.2.2.2.2.2.1
theorem RdS.a10 {S : aS} {r : Nat} (h : RdS S r) : aK S (r + 7) = 100 := h.2.2.2.2.2.2.2.2.2.2.2.2.2.2.2.2.2.2.2.2.2.2.2.2.2.2.2.2.1
theorem RdS.d10 {S : aS} {r : Nat} (h : RdS S r) : aKd S (r + 7) = 100 := h.2.2.2.2.2.2.2.2.2.2.2.2.2.2.2.2.2.2.2.2.2.2.2.2.2.2.2.2.2.1
theorem RdS.n10 {S : aS} {r : Nat} (h : RdS S r) : aN S (r + 7) = 8 := h.2.2.2.2.2.2.2.2.2.2.2.2.2.2.2.2.2.2.2.2.2.2.2.2.2.2.2.2.2.2.1
theorem RdS.p11 {S : aS} {r : Nat} (h : RdS S r) : aP S r 11 = some (r + 8) := h.2.2.2.2.2.2.2.2.2.2.2.2.2.2.2.2.2.2.2.2.2.2.2.2.2.2.2.2.2.2.2.1
theorem RdS.a11 {S : aS} {r : Nat} (h : RdS S r) : aK S (r + 8) = 100 := h.2.2.2.2.2.2.2.2.2.2.2.2.2.2.2.2.2.2.2.2.2.2.2.2.2.2.2.2.2.2.2.2.1
theorem RdS.d11 {S : aS} {r : Nat} (h : RdS S r) : aKd S (r + 8) = 100 := h.2.2.2.2.2.2.2.2.2.2.2.2.2.2.2.2.2.2.2.2.2.2.2.2.2.2.2.2.2.2.2.2.2.1
theorem RdS.n11 {S : aS} {r : Nat} (h : RdS S r) : aN S (r + 8) = 8 := h.2.2.2.2.2.2.2.2.2.2.2.2.2.2.2.2.2.2.2.2.2.2.2.2.2.2.2.2.2.2.2.2.2.2.1
theorem RdS.p12 {S : aS} {r : Nat} (h : RdS S r) : aP S r 12 = some (r + 9) := h.2.2.2.2.2.2.2.2.2.2.2.2.2.2.2.2.2.2.2.2.2.2.2.2.2.2.2.2.2.2.2.2.2.2.2.1
theorem RdS.a12 {S : aS} {r : Nat} (h : RdS S r) : aK S (r + 9) = 100 := h.2.2.2.2.2.2.2.2.2.2.2.2.2.2.2.2.2.2.2.2.2.2.2.2.2.2.2.2.2.2.2.2.2.2.2.2.1
theorem RdS.d12 {S : aS} {r : Nat} (h : RdS S r) : aKd S (r + 9) = 100 := h.2.2.2.2.2.2.2.2.2.2.2.2.2.2.2.2.2.2.2.2.2.2.2.2.2.2.2.2.2.2.2.2.2.2.2.2.2.1
theorem RdS.n12 {S : aS} {r : Nat} (h : RdS S r) : aN S (r + 9) = 8 := h.2.2.2.2.2.2.2.2.2.2.2.2.2.2.2.2.2.2.2.2.2.2.2.2.2.2.2.2.2.2.2.2.2.2.2.2.2.2.1
theorem RdS.p13 {S : aS} {r : Nat} (h : RdS S r) : aP S r 13 = some (r + 10) := h.2.2.2.2.2.2.2.2.2.2.2.2.2.2.2.2.2.2.2.2.2.2.2.2.2.2.2.2.2.2.2.2.2.2.2.2.2.2.2.1
theorem RdS.a13 {S : aS} {r : Nat} (h : RdS S r) : aK S (r + 10) = 100 := h.2.2.2.2.2.2.2.2.2.2.2.2.2.2.2.2.2.2.2.2.2.2.2.2.2.2.2.2.2.2.2.2.2.2.2.2.2.2.2.2.1
theorem RdS.d13 {S : aS} {r : Nat} (h : RdS S r) : aKd S (r + 10) = 100 := h.2.2.2.2.2.2.2.2.2.2.2.2.2.2.2.2.2.2.2.2.2.2.2.2.2.2.2.2.2.2.2.2.2.2.2.2.2.2.2.2.2.1
theorem RdS.n13 {S : aS} {r : Nat} (h : RdS S r) : aN S (r + 10) = 8 := h.2.2.2.2.2.2.2.2.2.2.2.2.2.2.2.2.2.2.2.2.2.2.2.2.2.2.2.2.2.2.2.2.2.2.2.2.2.2.2.2.2.2.1
theorem RdS.p14 {S : aS} {r : Nat} (h : RdS S r) : aP S r 14 = some (r + 11) := h.2.2.2.2.2.2.2.2.2.2.2.2.2.2.2.2.2.2.2.2.2.2.2.2.2.2.2.2.2.2.2.2.2.2.2.2.2.2.2.2.2.2.2.1
theorem RdS.a14 {S : aS} {r : Nat} (h : RdS S r) : aK S (r + 11) = 100 := h.2.2.2.2.2.2.2.2.2.2.2.2.2.2.2.2.2.2.2.2.2.2.2.2.2.2.2.2.2.2.2.2.2.2.2.2.2.2.2.2.2.2.2.2.1
theorem RdS.d14 {S : aS} {r : Nat} (h : RdS S r) : aKd S (r + 11) = 100 := h.2.2.2.2.2.2.2.2.2.2.2.2.2.2.2.2.2.2.2.2.2.2.2.2.2.2.2.2.2.2.2.2.2.2.2.2.2.2.2.2.2.2.2.2.2.1
theorem RdS.n14 {S : aS} {r : Nat} (h : RdS S r) : aN S (r + 11) = 8 := h.2.2.2.2.2.2.2.2.2.2.2.2.2.2.2.2.2.2.2.2.2.2.2.2.2.2.2.2.2.2.2.2.2.2.2.2.2.2.2.2.2.2.2.2.2.2
theorem RdS.ext {S S' : aS} {r : Nat} (h : RdS S r) (hx : aExt S S') (hl : r + 11 < aX S) : RdS S' r := by
  have h0 := hx.2 r (by omega)
  have h_4 := hx.2 (r + 1) (by omega)
  have h_5 := hx.2 (r + 2) (by omega)
  have h_6 := hx.2 (r + 3) (by omega)
  have h_7 := hx.2 (r + 4) (by omega)
  have h_8 := hx.2 (r + 5) (by omega)
  have h_9 := hx.2 (r + 6) (by omega)
  have h_10 := hx.2 (r + 7) (by omega)
  have h_11 := hx.2 (r + 8) (by omega)
  have h_12 := hx.2 (r + 9) (by omega)
  have h_13 := hx.2 (r + 10) (by omega)
  have h_14 := hx.2 (r + 11) (by omega)
  exact ⟨(h0.1).trans h.k, (aExt_kd h0).trans h.kd, (congrFun h0.2.2 15).trans h.p15, (congrFun h0.2.2 4).trans h.p4, (h_4.1).trans h.a4, (aExt_kd h_4).trans h.d4, (h_4.2.1).trans h.n4, (congrFun h0.2.2 5).trans h.p5, (h_5.1).trans h.a5, (aExt_kd h_5).trans h.d5, (h_5.2.1).trans h.n5, (congrFun h0.2.2 6).trans h.p6, (h_6.1).trans h.a6, (aExt_kd h_6).trans h.d6, (h_6.2.1).trans h.n6, (congrFun h0.2.2 7).trans h.p7, (h_7.1).trans h.a7, (aExt_kd h_7).trans h.d7, (h_7.2.1).trans h.n7, (congrFun h0.2.2 8).trans h.p8, (h_8.1).trans h.a8, (aExt_kd h_8).trans h.d8, (h_8.2.1).trans h.n8, (congrFun h0.2.2 9).trans h.p9, (h_9.1).trans h.a9, (aExt_kd h_9).trans h.d9, (h_9.2.1).trans h.n9, (congrFun h0.2.2 10).trans h.p10, (h_10.1).trans h.a10, (aExt_kd h_10).trans h.d10, (h_10.2.1).trans h.n10, (congrFun h0.2.2 11).trans h.p11, (h_11.1).trans h.a11, (aExt_kd h_11).trans h.d11, (h_11.2.1).trans h.n11, (congrFun h0.2.2 12).trans h.p12, (h_12.1).trans h.a12, (aExt_kd h_12).trans h.d12, (h_12.2.1).trans h.n12, (congrFun h0.2.2 13).trans h.p13, (h_13.1).trans h.a13, (aExt_kd h_13).trans h.d13, (h_13.2.1).trans h.n13, (congrFun h0.2.2 14).trans h.p14, (h_14.1).trans h.a14, (aExt_kd h_14).trans h.d14, (h_14.2.1).trans h.n14⟩
/-- orders: 10 cells -/
abbrev OrS (S : aS) (o : Nat) : Prop :=
  (aK S o = 3) ∧ (aKd S o = 3) ∧ (aP S o 1 = some (o + 1)) ∧ (aK S (o + 1) = 100) ∧ (aKd S (o + 1) = 100) ∧ (aN S (o + 1) = 20) ∧ (aP S o 2 = some (o + 2)) ∧ (aK S (o + 2) = 100) ∧ (aKd S (o + 2) = 100) ∧ (aN S (o + 2) = 20) ∧ (aP S o 3 = some (o + 3)) ∧ (aK S (o + 3) = 100) ∧ (aKd S (o + 3) = 100) ∧ (aN S (o + 3) = 20) ∧ (aP S o 4 = some (o + 4)) ∧ (aK S (o + 4) = 100) ∧ (aKd S (o + 4) = 100) ∧ (aN S (o + 4) = 20) ∧ (aP S o 5 = some (o + 5)) ∧ (aK S (o + 5) = 100) ∧ (aKd S (o + 5) = 100) ∧ (aN S (o + 5) = 20) ∧ (aP S o 6 = some (o + 6)) ∧ (aK S (o + 6) = 100) ∧ (aKd S (o + 6) = 100) ∧ (aN S (o + 6) = 20) ∧ (aP S o 7 = some (o + 7)) ∧ (aK S (o + 7) = 100) ∧ (aKd S (o + 7) = 100) ∧ (aN S (o + 7) = 20) ∧ (aP S o 9 = some (o + 8)) ∧ (aK S (o + 8) = 100) ∧ (aKd S (o + 8) = 100) ∧ (aN S (o + 8) = 400) ∧ (aP S o 10 = some (o + 9)) ∧ (aK S (o + 9) = 100) ∧ (aKd S (o + 9) = 100) ∧ (aN S (o + 9) = 400)
theorem OrS.k {S : aS} {o : Nat} (h : OrS S o) : aK S o = 3 := h.1
theorem OrS.kd {S : aS} {o : Nat} (h : OrS S o) : aKd S o = 3 := h.2.1
theorem OrS.p1 {S : aS} {o : Nat} (h : OrS S o) : aP S o 1 = some (o + 1) := h.2.2.1
theorem OrS.a1 {S : aS} {o : Nat} (h : OrS S o) : aK S (o + 1) = 100 := h.2.2.2.1
theorem OrS.d1 {S : aS} {o : Nat} (h : OrS S o) : aKd S (o + 1) = 100 := h.2.2.2.2.1
theorem OrS.n1 {S : aS} {o : Nat} (h : OrS S o) : aN S (o + 1) = 20 := h.2.2.2.2.2.1
theorem OrS.p2 {S : aS} {o : Nat} (h : OrS S o) : aP S o 2 = some (o + 2) := h.2.2.2.2.2.2.1
theorem OrS.a2 {S : aS} {o : Nat} (h : OrS S o) : aK S (o + 2) = 100 := h.2.2.2.2.2.2.2.1
theorem OrS.d2 {S : aS} {o : Nat} (h : OrS S o) : aKd S (o + 2) = 100 := h.2.2.2.2.2.2.2.2.1
theorem OrS.n2 {S : aS} {o : Nat} (h : OrS S o) : aN S (o + 2) = 20 := h.2.2.2.2.2.2.2.2.2.1
theorem OrS.p3 {S : aS} {o : Nat} (h : OrS S o) : aP S o 3 = some (o + 3) := h.2.2.2.2.2.2.2.2.2.2.1
theorem OrS.a3 {S : aS} {o : Nat} (h : OrS S o) : aK S (o + 3) = 100 := h.2.2.2.2.2.2.2.2.2.2.2.1
theorem OrS.d3 {S : aS} {o : Nat} (h : OrS S o) : aKd S (o + 3) = 100 := h.2.2.2.2.2.2.2.2.2.2.2.2.1
theorem OrS.n3 {S : aS} {o : Nat} (h : OrS S o) : aN S (o + 3) = 20 := h.2.2.2.2.2.2.2.2.2.2.2.2.2.1
theorem OrS.p4 {S : aS} {o : Nat} (h : OrS S o) : aP S o 4 = some (o + 4) := h.2.2.2.2.2.2.2.2.2.2.2.2.2.2.1
theorem OrS.a4 {S : aS} {o : Nat} (h : OrS S o) : aK S (o + 4) = 100 := h.2.2.2.2.2.2.2.2.2.2.2.2.2.2.2.1
theorem OrS.d4 {S : aS} {o : Nat} (h : OrS S o) : aKd S (o + 4) = 100 := h.2.2.2.2.2.2.2.2.2.2.2.2.2.2.2.2.1
theorem OrS.n4 {S : aS} {o : Nat} (h : OrS S o) : aN S (o + 4) = 20 := h.2.2.2.2.2.2.2.2.2.2.2.2.2.2.2.2.2.1
theorem OrS.p5 {S : aS} {o : Nat} (h : OrS S o) : aP S o 5 = some (o + 5) := h.2.2.2.2.2.2.2.2.2.2.2.2.2.2.2.2.2.2.1
theorem OrS.a5 {S : aS} {o : Nat} (h : OrS S o) : aK S (o + 5) = 100 := h.2.2.2.2.2.2.2.2.2.2.2.2.2.2.2.2.2.2.2.1
theorem OrS.d5 {S : aS} {o : Nat} (h : OrS S o) : aKd S (o + 5) = 100 := h.2.2.2.2.2.2.2.2.2.2.2.2.2.2.2.2.2.2.2.2.1
theorem OrS.n5 {S : aS} {o : Nat} (h : OrS S o) : aN S (o + 5) = 20 := h.2.2.2.2.2.2.2.2.2.2.2.2.2.2.2.2.2.2.2.2.2.1
theorem OrS.p6 {S : aS} {o : Nat} (h : OrS S o) : aP S o 6 = some (o + 6) := h.2.2.2.2.2.2.2.2.2.2.2.2.2.2.2.2.2.2.2.2.2.2.1
theorem OrS.a6 {S : aS} {o : Nat} (h : OrS S o) : aK S (o + 6) = 100 := h.2.2.2.2.2.2.2.2.2.2.2.2.2.2.2.2.2.2.2.2.2.2.2.1
theorem OrS.d6 {S : aS} {o : Nat} (h : OrS S o) : aKd S (o + 6) = 100 := h.2.2.2.2.2.2.2.2.2.2.2.2.2.2.2.2.2.2.2.2.2.2.2.2.1
theorem OrS.n6 {S : aS} {o : Nat} (h : OrS S o) : aN S (o + 6) = 20 := h.2.2.2.2.2.2.2.2.2.2.2.2.2.2.2.2.2.2.2.2.2.2.2.2.2.1
theorem OrS.p7 {S : aS} {o : Nat} (h : OrS S o) : aP S o 7 = some (o + 7) := h.2.2.2.2.2.2.2.2.2.2.2.2.2.2.2.2.2.2.2.2.2.2.2.2.2.2.1
theorem OrS.a7 {S : aS} {o : Nat} (h : OrS S o) : aK S (o + 7) = 100 := h.2.2.2.2.2.2.2.2.2.2.2.2.2.2.2.2.2.2.2.2.2.2.2.2.2.2.2.1
theorem OrS.d7 {S : aS} {o : Nat} (h : OrS S o) : aKd S (o + 7) = 100 := h.2.2.2.2.2.2.2.2.2.2.2.2.2.2.2.2.2.2.2.2.2.2.2.2.2.2.2.2.1
theorem OrS.n7 {S : aS} {o : Nat} (h : OrS S o) : aN S (o + 7) = 20 := h.2.2.2.2.2.2.2.2.2.2.2.2.2.2.2.2.2.2.2.2.2.2.2.2.2.2.2.2.2.1
theorem OrS.p9 {S : aS} {o : Nat} (h : OrS S o) : aP S o 9 = some (o + 8) := h.2.2.2.2.2.2.2.2.2.2.2.2.2.2.2.2.2.2.2.2.2.2.2.2.2.2.2.2.2.2.1
theorem OrS.a9 {S : aS} {o : Nat} (h : OrS S o) : aK S (o + 8) = 100 := h.2.2.2.2.2.2.2.2.2.2.2.2.2.2.2.2.2.2.2.2.2.2.2.2.2.2.2.2.2.2.2.1
theorem OrS.d9 {S : aS} {o : Nat} (h : OrS S o) : aKd S (o + 8) = 100 := h.2.2.2.2.2.2.2.2.2.2.2.2.2.2.2.2.2.2.2.2.2.2.2.2.2.2.2.2.2.2.2.2.1
theorem OrS.n9 {S : aS} {o : Nat} (h : OrS S o) : aN S (o + 8) = 400 := h.2.2.2.2.2.2.2.2.2.2.2.2.2.2.2.2.2.2.2.2.2.2.2.2.2.2.2.2.2.2.2.2.2.1
theorem OrS.p10 {S : aS} {o : Nat} (h : OrS S o) : aP S o 10 = some (o + 9) := h.2.2.2.2.2.2.2.2.2.2.2.2.2.2.2.2.2.2.2.2.2.2.2.2.2.2.2.2.2.2.2.2.2.2.1
theorem OrS.a10 {S : aS} {o : Nat} (h : OrS S o) : aK S (o + 9) = 100 := h.2.2.2.2.2.2.2.2.2.2.2.2.2.2.2.2.2.2.2.2.2.2.2.2.2.2.2.2.2.2.2.2.2.2.2.1
theorem OrS.d10 {S : aS} {o : Nat} (h : OrS S o) : aKd S (o + 9) = 100 := h.2.2.2.2.2.2.2.2.2.2.2.2.2.2.2.2.2.2.2.2.2.2.2.2.2.2.2.2.2.2.2.2.2.2.2.2.1
theorem OrS.n10 {S : aS} {o : Nat} (h : OrS S o) : aN S (o + 9) = 400 := h.2.2.2.2.2.2.2.2.2.2.2.2.2.2.2.2.2.2.2.2.2.2.2.2.2.2.2.2.2.2.2.2.2.2.2.2.2
theorem OrS.ext {S S' : aS} {o : Nat} (h : OrS S o) (hx : aExt S S') (hl : o + 9 < aX S) : OrS S' o := by
  have h0 := hx.2 o (by omega)
  have h_1 := hx.2 (o + 1) (by omega)
  have h_2 := hx.2 (o + 2) (by omega)
  have h_3 := hx.2 (o + 3) (by omega)
  have h_4 := hx.2 (o + 4) (by omega)
  have h_5 := hx.2 (o + 5) (by omega)
  have h_6 := hx.2 (o + 6) (by omega)
  have h_7 := hx.2 (o + 7) (by omega)
  have h_9 := hx.2 (o + 8) (by omega)
  have h_10 := hx.2 (o + 9) (by omega)
  exact ⟨(h0.1).trans h.k, (aExt_kd h0).trans h.kd, (congrFun h0.2.2 1).trans h.p1, (h_1.1).trans h.a1, (aExt_kd h_1).trans h.d1, (h_1.2.1).trans h.n1, (congrFun h0.2.2 2).trans h.p2, (h_2.1).trans h.a2, (aExt_kd h_2).trans h.d2, (h_2.2.1).trans h.n2, (congrFun h0.2.2 3).trans h.p3, (h_3.1).trans h.a3, (aExt_kd h_3).trans h.d3, (h_3.2.1).trans h.n3, (congrFun h0.2.2 4).trans h.p4, (h_4.1).trans h.a4, (aExt_kd h_4).trans h.d4, (h_4.2.1).trans h.n4, (congrFun h0.2.2 5).trans h.p5, (h_5.1).trans h.a5, (aExt_kd h_5).trans h.d5, (h_5.2.1).trans h.n5, (congrFun h0.2.2 6).trans h.p6, (h_6.1).trans h.a6, (aExt_kd h_6).trans h.d6, (h_6.2.1).trans h.n6, (congrFun h0.2.2 7).trans h.p7, (h_7.1).trans h.a7, (aExt_kd h_7).trans h.d7, (h_7.2.1).trans h.n7, (congrFun h0.2.2 9).trans h.p9, (h_9.1).trans h.a9, (aExt_kd h_9).trans h.d9, (h_9.2.1).trans h.n9, (congrFun h0.2.2 10).trans h.p10, (h_10.1).trans h.a10, (aExt_kd h_10).trans h.d10, (h_10.2.1).trans h.n10⟩
/-- a reckoner: 2 cells -/
abbrev RkS (S : aS) (q : Nat) : Prop :=
  (aK S q = 4) ∧ (aKd S q = 4) ∧ (aP S q 0 = some (q + 1)) ∧ (aK S (q + 1) = 100) ∧ (aKd S (q + 1) = 100) ∧ (aN S (q + 1) = 400)
theorem RkS.k {S : aS} {q : Nat} (h : RkS S q) : aK S q = 4 := h.1
theorem RkS.kd {S : aS} {q : Nat} (h : RkS S q) : aKd S q = 4 := h.2.1
theorem RkS.p0 {S : aS} {q : Nat} (h : RkS S q) : aP S q 0 = some (q + 1) := h.2.2.1
theorem RkS.a0 {S : aS} {q : Nat} (h : RkS S q) : aK S (q + 1) = 100 := h.2.2.2.1
theorem RkS.d0 {S : aS} {q : Nat} (h : RkS S q) : aKd S (q + 1) = 100 := h.2.2.2.2.1
theorem RkS.n0 {S : aS} {q : Nat} (h : RkS S q) : aN S (q + 1) = 400 := h.2.2.2.2.2
theorem RkS.ext {S S' : aS} {q : Nat} (h : RkS S q) (hx : aExt S S') (hl : q + 1 < aX S) : RkS S' q := by
  have h0 := hx.2 q (by omega)
  have h_0 := hx.2 (q + 1) (by omega)
  exact ⟨(h0.1).trans h.k, (aExt_kd h0).trans h.kd, (congrFun h0.2.2 0).trans h.p0, (h_0.1).trans h.a0, (aExt_kd h_0).trans h.d0, (h_0.2.1).trans h.n0⟩
/-- tokens: 5 cells -/
abbrev TkS (S : aS) (q : Nat) : Prop :=
  (aK S q = 7) ∧ (aKd S q = 7) ∧ (aP S q 0 = some (q + 1)) ∧ (aK S (q + 1) = 100) ∧ (aKd S (q + 1) = 100) ∧ (aN S (q + 1) = 401) ∧ (aP S q 1 = some (q + 2)) ∧ (aK S (q + 2) = 100) ∧ (aKd S (q + 2) = 100) ∧ (aN S (q + 2) = 401) ∧ (aP S q 2 = some (q + 3)) ∧ (aK S (q + 3) = 100) ∧ (aKd S (q + 3) = 100) ∧ (aN S (q + 3) = 401) ∧ (aP S q 3 = some (q + 4)) ∧ (aK S (q + 4) = 100) ∧ (aKd S (q + 4) = 100) ∧ (aN S (q + 4) = 401)
theorem TkS.k {S : aS} {q : Nat} (h : TkS S q) : aK S q = 7 := h.1
theorem TkS.kd {S : aS} {q : Nat} (h : TkS S q) : aKd S q = 7 := h.2.1
theorem TkS.p0 {S : aS} {q : Nat} (h : TkS S q) : aP S q 0 = some (q + 1) := h.2.2.1
theorem TkS.a0 {S : aS} {q : Nat} (h : TkS S q) : aK S (q + 1) = 100 := h.2.2.2.1
theorem TkS.d0 {S : aS} {q : Nat} (h : TkS S q) : aKd S (q + 1) = 100 := h.2.2.2.2.1
theorem TkS.n0 {S : aS} {q : Nat} (h : TkS S q) : aN S (q + 1) = 401 := h.2.2.2.2.2.1
theorem TkS.p1 {S : aS} {q : Nat} (h : TkS S q) : aP S q 1 = some (q + 2) := h.2.2.2.2.2.2.1
theorem TkS.a1 {S : aS} {q : Nat} (h : TkS S q) : aK S (q + 2) = 100 := h.2.2.2.2.2.2.2.1
theorem TkS.d1 {S : aS} {q : Nat} (h : TkS S q) : aKd S (q + 2) = 100 := h.2.2.2.2.2.2.2.2.1
theorem TkS.n1 {S : aS} {q : Nat} (h : TkS S q) : aN S (q + 2) = 401 := h.2.2.2.2.2.2.2.2.2.1
theorem TkS.p2 {S : aS} {q : Nat} (h : TkS S q) : aP S q 2 = some (q + 3) := h.2.2.2.2.2.2.2.2.2.2.1
theorem TkS.a2 {S : aS} {q : Nat} (h : TkS S q) : aK S (q + 3) = 100 := h.2.2.2.2.2.2.2.2.2.2.2.1
theorem TkS.d2 {S : aS} {q : Nat} (h : TkS S q) : aKd S (q + 3) = 100 := h.2.2.2.2.2.2.2.2.2.2.2.2.1
theorem TkS.n2 {S : aS} {q : Nat} (h : TkS S q) : aN S (q + 3) = 401 := h.2.2.2.2.2.2.2.2.2.2.2.2.2.1
theorem TkS.p3 {S : aS} {q : Nat} (h : TkS S q) : aP S q 3 = some (q + 4) := h.2.2.2.2.2.2.2.2.2.2.2.2.2.2.1
theorem TkS.a3 {S : aS} {q : Nat} (h : TkS S q) : aK S (q + 4) = 100 := h.2.2.2.2.2.2.2.2.2.2.2.2.2.2.2.1
theorem TkS.d3 {S : aS} {q : Nat} (h : TkS S q) : aKd S (q + 4) = 100 := h.2.2.2.2.2.2.2.2.2.2.2.2.2.2.2.2.1
theorem TkS.n3 {S : aS} {q : Nat} (h : TkS S q) : aN S (q + 4) = 401 := h.2.2.2.2.2.2.2.2.2.2.2.2.2.2.2.2.2
theorem TkS.ext {S S' : aS} {q : Nat} (h : TkS S q) (hx : aExt S S') (hl : q + 4 < aX S) : TkS S' q := by
  have h0 := hx.2 q (by omega)
  have h_0 := hx.2 (q + 1) (by omega)
  have h_1 := hx.2 (q + 2) (by omega)
  have h_2 := hx.2 (q + 3) (by omega)
  have h_3 := hx.2 (q + 4) (by omega)
  exact ⟨(h0.1).trans h.k, (aExt_kd h0).trans h.kd, (congrFun h0.2.2 0).trans h.p0, (h_0.1).trans h.a0, (aExt_kd h_0).trans h.d0, (h_0.2.1).trans h.n0, (congrFun h0.2.2 1).trans h.p1, (h_1.1).trans h.a1, (aExt_kd h_1).trans h.d1, (h_1.2.1).trans h.n1, (congrFun h0.2.2 2).trans h.p2, (h_2.1).trans h.a2, (aExt_kd h_2).trans h.d2, (h_2.2.1).trans h.n2, (congrFun h0.2.2 3).trans h.p3, (h_3.1).trans h.a3, (aExt_kd h_3).trans h.d3, (h_3.2.1).trans h.n3⟩
/-- a trust with its road and its reckoner -/
abbrev Cx (S : aS) (t rk rd : Nat) : Prop :=
  (TrS S t rk rd) ∧ (RdS S rd) ∧ (OrS S (rd + 12)) ∧ (RkS S rk) ∧ (rd + 21 < rk) ∧ (rk + 1 < t) ∧ (t + 12 < aX S)
theorem Cx.tr {S : aS} {t rk rd : Nat} (h : Cx S t rk rd) : TrS S t rk rd := h.1
theorem Cx.ro {S : aS} {t rk rd : Nat} (h : Cx S t rk rd) : RdS S rd := h.2.1
theorem Cx.os {S : aS} {t rk rd : Nat} (h : Cx S t rk rd) : OrS S (rd + 12) := h.2.2.1
theorem Cx.re {S : aS} {t rk rd : Nat} (h : Cx S t rk rd) : RkS S rk := h.2.2.2.1
theorem Cx.h1 {S : aS} {t rk rd : Nat} (h : Cx S t rk rd) : rd + 21 < rk := h.2.2.2.2.1
theorem Cx.h2 {S : aS} {t rk rd : Nat} (h : Cx S t rk rd) : rk + 1 < t := h.2.2.2.2.2.1
theorem Cx.h3 {S : aS} {t rk rd : Nat} (h : Cx S t rk rd) : t + 12 < aX S := h.2.2.2.2.2.2
theorem Cx.ext {S S' : aS} {t rk rd : Nat} (h : Cx S t rk rd) (hx : aExt S S') : Cx S' t rk rd := by
  have h1 := h.h1
  have h2 := h.h2
  have h3 := h.h3
  exact ⟨h.tr.ext hx h3, h.ro.ext hx (by omega), h.os.ext hx (by omega), h.re.ext hx (by omega), h1, h2, Nat.lt_of_lt_of_le h3 hx.1⟩
end AL
