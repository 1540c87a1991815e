/-! cells made one behind the other from cl on: a table of them, and of the numbers that they hold -/
section RL
abbrev rT : Type := List (Nat × Nat × List (Nat × Nat))
def tPut : rT → Nat → Nat → Nat → rT
  | [], _, _, _ => []
  | (k, n, p) :: l, 0, j, x => (k, n, (j, x) :: p) :: l
  | e :: l, i + 1, j, x => e :: tPut l i j x
def gx : List (Nat × Nat × Int) → Nat → Nat → Int
  | [], _, _ => 0
  | (a, b, x) :: l, i, j => if a = i ∧ b = j then x else gx l i j
theorem tPut_len : ∀ (t : rT) (i j x : Nat), (tPut t i j x).length = t.length
  | [], _, _, _ => rfl
  | (_, _, _) :: _, 0, _, _ => rfl
  | _ :: l, i + 1, j, x => congrArg (· + 1) (tPut_len l i j x)
theorem tPut_ne : ∀ (t : rT) (i j x a : Nat), a ≠ i → (tPut t i j x)[a]? = t[a]?
  | [], _, _, _, _, _ => rfl
  | (_, _, _) :: _, 0, _, _, 0, h => absurd rfl h
  | (_, _, _) :: _, 0, _, _, _ + 1, _ => rfl
  | _ :: _, _ + 1, _, _, 0, _ => rfl
  | _ :: l, i + 1, j, x, a + 1, h => tPut_ne l i j x a (fun e => h (congrArg (· + 1) e))
theorem tPut_at : ∀ (t : rT) (i j x k n : Nat) (p : List (Nat × Nat)), (tPut t i j x)[i]? = some (k, n, p) → ∃ p', t[i]? = some (k, n, p') ∧ p = (j, x) :: p'
  | [], _, _, _, _, _, _, h => by cases h
  | (k0, n0, p0) :: _, 0, j, x, k, n, p, h => by
    have e : (k0, n0, (j, x) :: p0) = (k, n, p) := Option.some.inj h
    have e1 : k0 = k := congrArg (·.1) e
    have e2 : n0 = n := congrArg (·.2.1) e
    have e3 : (j, x) :: p0 = p := congrArg (·.2.2) e
    exact ⟨p0, by rw [← e1, ← e2]; rfl, e3.symm⟩
  | _ :: l, i + 1, j, x, k, n, p, h => tPut_at l i j x k n p h
def RelS (cl : Nat) (S0 S : aS) (t : rT) (n z : Nat) : Prop := t.length = n ∧ aX S = cl + n ∧ aZ S = aZ S0 + z ∧ (∀ b, b < cl → aK S b = aK S0 b ∧ aN S b = aN S0 b ∧ aP S b = aP S0 b) ∧ ∀ i k m p, t[i]? = some (k, m, p) → aK S (cl + i) = k ∧ aN S (cl + i) = m ∧ ∀ j x, p.lookup j = some x → aP S (cl + i) j = some (cl + x)
def RelM (cl n : Nat) (M0 M : Nat → Nat → Int) (ex : List (Nat × Nat × Int)) : Prop := RM M ∧ (∀ b, b < cl → M b = M0 b) ∧ (∀ i j, i < n → M (cl + i) j = gx ex i j) ∧ ∀ i j, n ≤ i → gx ex i j = 0
variable {cl n z i j x v : Nat} {S0 S : aS} {M0 M : Nat → Nat → Int} {t : rT} {ex : List (Nat × Nat × Int)}
theorem RelS.ax (h : RelS cl S0 S t n z) : aX S = cl + n := h.2.1
theorem RelS.lt (h : RelS cl S0 S t n z) (hi : i < n) : cl + i < aX S := by rw [h.ax]; omega
theorem RelS.new {k m w : Nat} (h : RelS cl S0 S t n z) : RelS cl S0 (aNew S k m w) (t ++ [(k, m, [])]) (n + 1) (z + w) := by
  obtain ⟨h1, h2, h3, h4, h5⟩ := h
  refine ⟨by rw [List.length_append, h1]; rfl, ?_, ?_, fun b hb => ?_, fun i k' m' p hp => ?_⟩
  · show aX S + 1 = _
    omega
  · show aZ S + w = _
    omega
  · have hb' : b < aX S := by omega
    exact ⟨(nK_lt hb').trans (h4 b hb).1, (nN_lt hb').trans (h4 b hb).2.1, (nP_lt hb').trans (h4 b hb).2.2⟩
  · by_cases hi : i < t.length
    · rw [List.getElem?_append_left hi] at hp
      have hb' : cl + i < aX S := by omega
      have g := h5 i k' m' p hp
      exact ⟨(nK_lt hb').trans g.1, (nN_lt hb').trans g.2.1, fun j x hl => by rw [nP_lt hb']; exact g.2.2 j x hl⟩
    · rw [List.getElem?_append_right (by omega)] at hp
      by_cases e : i = t.length
      · subst e
        rw [Nat.sub_self] at hp
        have e0 : (k, m, []) = (k', m', p) := Option.some.inj hp
        have e1 : k = k' := congrArg (·.1) e0
        have e2 : m = m' := congrArg (·.2.1) e0
        have e3 : [] = p := congrArg (·.2.2) e0
        have ex : cl + t.length = aX S := by omega
        rw [ex, ← e1, ← e2, ← e3]
        exact ⟨aNew_K, aNew_N, fun j x hl => by cases hl⟩
      · obtain ⟨q, hq⟩ : ∃ q, i - t.length = q + 1 := ⟨i - t.length - 1, by omega⟩
        rw [hq] at hp
        cases hp
theorem RelS.put (h : RelS cl S0 S t n z) (hv : v = cl + x) : RelS cl S0 (aPut S (cl + i) j (some v)) (tPut t i j x) n z := by
  obtain ⟨h1, h2, h3, h4, h5⟩ := h
  refine ⟨(tPut_len t i j x).trans h1, h2, h3, fun b hb => ⟨(h4 b hb).1, (h4 b hb).2.1, (aPut_P (by omega)).trans (h4 b hb).2.2⟩, fun a k m p hp => ?_⟩
  by_cases e : a = i
  · subst e
    obtain ⟨p', hp', rfl⟩ := tPut_at t a j x k m p hp
    have g := h5 a k m p' hp'
    refine ⟨g.1, g.2.1, fun j' x' hl => ?_⟩
    by_cases ej : j' = j
    · subst ej
      rw [List.lookup_cons_self] at hl
      rw [aPut_self, hv, Option.some.inj hl]
    · rw [aPut_at ej]
      refine g.2.2 j' x' ?_
      rw [List.lookup_cons, show (j' == j) = false from beq_eq_false_iff_ne.mpr ej] at hl
      exact hl
  · rw [tPut_ne _ _ _ _ _ e] at hp
    have g := h5 a k m p hp
    exact ⟨g.1, g.2.1, fun j' x' hl => by rw [aPut_P (by omega)]; exact g.2.2 j' x' hl⟩
theorem RelM.new (h : RelM cl n M0 M ex) (hv : v = cl + n) : RelM cl (n + 1) M0 (aU M v (fun _ => 0)) ex := by
  obtain ⟨h1, h2, h3, h4⟩ := h
  refine ⟨h1.nw, fun b hb => (aU_ne _ _ (by omega)).trans (h2 b hb), fun i j hi => ?_, fun i j hi => h4 i j (by omega)⟩
  by_cases e : i = n
  · subst e
    rw [hv, aU_self]
    exact (h4 i j (Nat.le_refl _)).symm
  · rw [aU_ne _ _ (by omega)]
    exact h3 i j (by omega)
theorem RelM.w {y : Int} (h : RelM cl n M0 M ex) (hi : i < n) (hy : R32 y) : RelM cl n M0 (mW M (cl + i) j y) ((i, j, y) :: ex) := by
  obtain ⟨h1, h2, h3, h4⟩ := h
  refine ⟨h1.w hy, fun b hb => (mW_ne (by omega)).trans (h2 b hb), fun a b ha => ?_, fun a b ha => ?_⟩
  · rw [mW_get]
    unfold gx
    by_cases e : i = a ∧ j = b
    · rw [if_pos e, if_pos ⟨by omega, by omega⟩]
    · rw [if_neg e, if_neg (fun g => e ⟨by omega, by omega⟩)]
      exact h3 a b ha
  · unfold gx
    rw [if_neg (by omega)]
    exact h4 a b ha
theorem RelM.wr {a : Nat} {y : Int} (h : RelM cl n M0 M ex) (ha : a = cl + i) (hi : i < n) (hy : R32 y) : RelM cl n M0 (mW M a j y) ((i, j, y) :: ex) := by
  rw [ha]
  exact h.w hi hy
end RL
