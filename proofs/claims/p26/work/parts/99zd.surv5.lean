/-! what the tokens of orders do to the survey: nothing (wip/p26/gen99zc.py) -/
section ZD
variable {ns ng nt : Nat}
def lkd : Nat → Its → Nat
  | b, [] => b
  | _, (_, k, _) :: l => lkd k l
theorem lkd_app : ∀ (b : Nat) (x y : Its), lkd b (x ++ y) = lkd (lkd b x) y
  | _, [], _ => rfl
  | _, (_, k, _) :: x, y => lkd_app k x y
theorem effL_app : ∀ (b : Nat) (x y : Its) (s : Sts), effL b (x ++ y) s = effL (lkd b x) y (effL b x s)
  | _, [], _, _ => rfl
  | b, (_, k, v) :: x, y, s => effL_app k x y (eff b k v s)
theorem okL_app : ∀ (b : Nat) (x y : Its) (s : Sts), okL b x s → okL (lkd b x) y (effL b x s) → okL b (x ++ y) s
  | _, [], _, _, _, h => h
  | b, (_, k, v) :: x, y, s, h, g => ⟨h.1, okL_app k x y (eff b k v s) h.2 g⟩
/-- a token that tells nothing -/
def nTk (ns ng nt b k v : Nat) : Prop := (k ≠ 47 ∧ k ≠ 48) ∨ (k = 47 ∧ (b ≠ 0 ∧ b ≠ 3 ∧ b ≠ 6) ∧ ∃ lt told j, Asks b lt told ns ng nt ∧ v = lt * 256 + 48 + j ∧ j < told) ∨ (k = 48 ∧ (b ≠ 1 ∧ b ≠ 2 ∧ b ≠ 4 ∧ b ≠ 5 ∧ b ≠ 7 ∧ b ≠ 8 ∧ b ≠ 9 ∧ b ≠ 10 ∧ b ≠ 11) ∧ v ≤ 999)
theorem nTk_k {b k v : Nat} (h : k ≠ 47) (g : k ≠ 48) : nTk ns ng nt b k v := Or.inl ⟨h, g⟩
theorem nTk_n {b v : Nat} (h : b ≠ 0 ∧ b ≠ 3 ∧ b ≠ 6) (g : ∃ lt told j, Asks b lt told ns ng nt ∧ v = lt * 256 + 48 + j ∧ j < told) : nTk ns ng nt b 47 v := Or.inr (Or.inl ⟨rfl, h, g⟩)
theorem nTk_d {b v : Nat} (h : b ≠ 1 ∧ b ≠ 2 ∧ b ≠ 4 ∧ b ≠ 5 ∧ b ≠ 7 ∧ b ≠ 8 ∧ b ≠ 9 ∧ b ≠ 10 ∧ b ≠ 11) (g : v ≤ 999) : nTk ns ng nt b 48 v := Or.inr (Or.inr ⟨rfl, h, g⟩)
theorem rg_14 : ∀ t : Nat × Nat × Nat, t ∈ rgs → t.1 = 1 ∨ t.1 = 2 ∨ t.1 = 4 ∨ t.1 = 5 ∨ t.1 = 7 ∨ t.1 = 8 ∨ t.1 = 9 ∨ t.1 = 10 ∨ t.1 = 11 ∨ (t.2.1 = 0 ∧ t.2.2 = 999) := by decide
theorem nTk_ok {b k v : Nat} {R : Nat → Nat → Int} (h : nTk ns ng nt b k v) : okS b k v (ns, ng, nt, R) ∧ eff b k v (ns, ng, nt, R) = (ns, ng, nt, R) := by
  unfold okS eff
  rcases h with ⟨h1, h2⟩ | ⟨h1, ⟨h2, h3, h4⟩, h5⟩ | ⟨h1, ⟨c1, c2, c3, c4, c5, c6, c7, c8, c9⟩, h3⟩
  · rw [if_neg h1, if_neg h2, if_neg h1, if_neg h2]
    exact ⟨trivial, rfl⟩
  · rw [if_pos h1, if_neg h2, if_neg h3, if_neg h4, if_pos h1, if_neg h2, if_neg h3, if_neg h4]
    exact ⟨h5, rfl⟩
  · have h47 : k ≠ 47 := by omega
    rw [if_neg h47, if_pos h1, if_neg h47, if_pos h1, if_neg c1, if_neg c2, if_neg c3, if_neg c4, if_neg c5, if_neg c6, if_neg c7, if_neg c8, if_neg c9]
    refine ⟨⟨fun t ht e => ?_, by omega, fun h => by omega, fun h => absurd h c1, fun h => absurd h c2, fun h => by omega, fun h => by omega⟩, rfl⟩
    have := rg_14 t ht
    omega
def nL (ns ng nt : Nat) : Nat → Its → Prop
  | _, [] => True
  | b, (_, k, v) :: l => nTk ns ng nt b k v ∧ nL ns ng nt k l
theorem nL_app : ∀ (b : Nat) (x y : Its), nL ns ng nt b x → nL ns ng nt (lkd b x) y → nL ns ng nt b (x ++ y)
  | _, [], _, _, h => h
  | b, (_, k, v) :: x, y, h, g => ⟨h.1, nL_app k x y h.2 g⟩
theorem nL_ok : ∀ (b : Nat) (l : Its) (R : Nat → Nat → Int), nL ns ng nt b l → okL b l (ns, ng, nt, R) ∧ effL b l (ns, ng, nt, R) = (ns, ng, nt, R)
  | _, [], _, _ => ⟨trivial, rfl⟩
  | b, (_, k, v) :: l, R, h => by
    have g := nTk_ok (R := R) h.1
    have g2 := nL_ok k l R h.2
    show (okS b k v (ns, ng, nt, R) ∧ okL k l (eff b k v (ns, ng, nt, R))) ∧ effL k l (eff b k v (ns, ng, nt, R)) = _
    rw [g.2]
    exact ⟨⟨g.1, g2.1⟩, g2.2⟩
theorem nL_s {r : Nat → Nat} {k : Nat} (h : ∀ q, r q < 1000) (h7 : r 7 < ns) (h8 : r 8 < ng) (h9 : r 9 < nt) : nL ns ng nt 16 (sI r k) := by
  have h3 := h 3
  have h5 := h 5
  have h6 := h 6
  unfold sI
  by_cases h0_ : k = 0
  · simp only [if_pos h0_]
    exact ⟨nTk_d (by decide) (by omega), trivial⟩
  by_cases h1_ : k = 1
  · simp only [if_neg h0_, if_pos h1_]
    exact ⟨nTk_k (by decide) (by decide), ⟨nTk_k (by decide) (by decide), ⟨nTk_d (by decide) (by omega), trivial⟩⟩⟩
  by_cases h2_ : k = 2
  · simp only [if_neg h0_, if_neg h1_, if_pos h2_]
    exact ⟨nTk_d (by decide) (by omega), ⟨nTk_k (by decide) (by decide), ⟨nTk_k (by decide) (by decide), ⟨nTk_n (by decide) ⟨_, _, _, Or.inl ⟨by decide, rfl, rfl⟩, rfl, by omega⟩, trivial⟩⟩⟩⟩
  by_cases h3_ : k = 3
  · simp only [if_neg h0_, if_neg h1_, if_neg h2_, if_pos h3_]
    exact ⟨nTk_k (by decide) (by decide), ⟨nTk_k (by decide) (by decide), ⟨nTk_k (by decide) (by decide), ⟨nTk_k (by decide) (by decide), ⟨nTk_d (by decide) (by omega), ⟨nTk_k (by decide) (by decide), ⟨nTk_k (by decide) (by decide), ⟨nTk_d (by decide) (by omega), ⟨nTk_k (by decide) (by decide), ⟨nTk_k (by decide) (by decide), ⟨nTk_d (by decide) (by omega), trivial⟩⟩⟩⟩⟩⟩⟩⟩⟩⟩⟩
  by_cases h4_ : k = 4
  · simp only [if_neg h0_, if_neg h1_, if_neg h2_, if_neg h3_, if_pos h4_]
    exact ⟨nTk_k (by decide) (by decide), ⟨nTk_k (by decide) (by decide), ⟨nTk_k (by decide) (by decide), ⟨nTk_n (by decide) ⟨_, _, _, Or.inr (Or.inl ⟨by decide, rfl, rfl⟩), rfl, by omega⟩, ⟨nTk_k (by decide) (by decide), ⟨nTk_d (by decide) (by omega), ⟨nTk_k (by decide) (by decide), ⟨nTk_k (by decide) (by decide), ⟨nTk_d (by decide) (by omega), ⟨nTk_k (by decide) (by decide), ⟨nTk_d (by decide) (by omega), trivial⟩⟩⟩⟩⟩⟩⟩⟩⟩⟩⟩
  simp only [if_neg h0_, if_neg h1_, if_neg h2_, if_neg h3_, if_neg h4_]
  exact ⟨nTk_k (by decide) (by decide), ⟨nTk_k (by decide) (by decide), ⟨nTk_d (by decide) (by omega), trivial⟩⟩⟩
theorem nL_t {r : Nat → Nat} {k : Nat} (h : ∀ q, r q < 1000) (h7 : r 7 < ns) (h8 : r 8 < ng) (h9 : r 9 < nt) : nL ns ng nt 17 (tI r k) := by
  have h3 := h 3
  have h5 := h 5
  have h6 := h 6
  unfold tI
  by_cases h0_ : k = 0
  · simp only [if_pos h0_]
    exact ⟨nTk_k (by decide) (by decide), ⟨nTk_k (by decide) (by decide), ⟨nTk_d (by decide) (by omega), ⟨nTk_k (by decide) (by decide), ⟨nTk_d (by decide) (by omega), trivial⟩⟩⟩⟩⟩
  by_cases h1_ : k = 1
  · simp only [if_neg h0_, if_pos h1_]
    exact ⟨nTk_k (by decide) (by decide), ⟨nTk_n (by decide) ⟨_, _, _, Or.inr (Or.inl ⟨by decide, rfl, rfl⟩), rfl, by omega⟩, trivial⟩⟩
  by_cases h2_ : k = 2
  · simp only [if_neg h0_, if_neg h1_, if_pos h2_]
    exact ⟨nTk_k (by decide) (by decide), ⟨nTk_k (by decide) (by decide), ⟨nTk_n (by decide) ⟨_, _, _, Or.inl ⟨by decide, rfl, rfl⟩, rfl, by omega⟩, ⟨nTk_k (by decide) (by decide), ⟨nTk_k (by decide) (by decide), ⟨nTk_k (by decide) (by decide), ⟨nTk_d (by decide) (by omega), trivial⟩⟩⟩⟩⟩⟩⟩
  by_cases h3_ : k = 3
  · simp only [if_neg h0_, if_neg h1_, if_neg h2_, if_pos h3_]
    exact ⟨nTk_k (by decide) (by decide), ⟨nTk_n (by decide) ⟨_, _, _, Or.inl ⟨by decide, rfl, rfl⟩, rfl, by omega⟩, ⟨nTk_k (by decide) (by decide), ⟨nTk_d (by decide) (by omega), trivial⟩⟩⟩⟩
  by_cases h4_ : k = 4
  · simp only [if_neg h0_, if_neg h1_, if_neg h2_, if_neg h3_, if_pos h4_]
    exact ⟨nTk_k (by decide) (by decide), ⟨nTk_n (by decide) ⟨_, _, _, Or.inr (Or.inl ⟨by decide, rfl, rfl⟩), rfl, by omega⟩, ⟨nTk_k (by decide) (by decide), ⟨nTk_d (by decide) (by omega), ⟨nTk_k (by decide) (by decide), ⟨nTk_d (by decide) (by omega), ⟨nTk_k (by decide) (by decide), ⟨nTk_k (by decide) (by decide), ⟨nTk_k (by decide) (by decide), ⟨nTk_n (by decide) ⟨_, _, _, Or.inr (Or.inl ⟨by decide, rfl, rfl⟩), rfl, by omega⟩, trivial⟩⟩⟩⟩⟩⟩⟩⟩⟩⟩
  by_cases h5_ : k = 5
  · simp only [if_neg h0_, if_neg h1_, if_neg h2_, if_neg h3_, if_neg h4_, if_pos h5_]
    exact ⟨nTk_k (by decide) (by decide), ⟨nTk_k (by decide) (by decide), ⟨nTk_k (by decide) (by decide), ⟨nTk_d (by decide) (by omega), ⟨nTk_k (by decide) (by decide), ⟨nTk_k (by decide) (by decide), ⟨nTk_d (by decide) (by omega), ⟨nTk_k (by decide) (by decide), ⟨nTk_k (by decide) (by decide), ⟨nTk_k (by decide) (by decide), ⟨nTk_d (by decide) (by omega), ⟨nTk_k (by decide) (by decide), ⟨nTk_d (by decide) (by omega), ⟨nTk_k (by decide) (by decide), ⟨nTk_k (by decide) (by decide), ⟨nTk_k (by decide) (by decide), ⟨nTk_k (by decide) (by decide), ⟨nTk_k (by decide) (by decide), ⟨nTk_n (by decide) ⟨_, _, _, Or.inr (Or.inr ⟨by decide, rfl, rfl⟩), rfl, by omega⟩, ⟨nTk_k (by decide) (by decide), ⟨nTk_d (by decide) (by omega), trivial⟩⟩⟩⟩⟩⟩⟩⟩⟩⟩⟩⟩⟩⟩⟩⟩⟩⟩⟩⟩⟩
  by_cases h6_ : k = 6
  · simp only [if_neg h0_, if_neg h1_, if_neg h2_, if_neg h3_, if_neg h4_, if_neg h5_, if_pos h6_]
    exact ⟨nTk_k (by decide) (by decide), ⟨nTk_n (by decide) ⟨_, _, _, Or.inr (Or.inl ⟨by decide, rfl, rfl⟩), rfl, by omega⟩, ⟨nTk_k (by decide) (by decide), ⟨nTk_d (by decide) (by omega), trivial⟩⟩⟩⟩
  simp only [if_neg h0_, if_neg h1_, if_neg h2_, if_neg h3_, if_neg h4_, if_neg h5_, if_neg h6_]
  exact ⟨nTk_d (by decide) (by omega), ⟨nTk_k (by decide) (by decide), ⟨nTk_d (by decide) (by omega), ⟨nTk_k (by decide) (by decide), ⟨nTk_d (by decide) (by omega), ⟨nTk_k (by decide) (by decide), ⟨nTk_d (by decide) (by omega), trivial⟩⟩⟩⟩⟩⟩⟩
theorem nL_or {so wh wi : Nat} {w4 : Int} {r : Nat → Nat} (h : ∀ q, r q < 1000) (h7 : r 7 < ns) (h8 : r 8 < ng) (h9 : r 9 < nt) (h1 : wh < (if so = 0 then nt else if so = 1 then ng else ns)) (h2 : so = 0 → wi < ng) (h3 : wi ≤ 999) : nL ns ng nt 36 (orI so wh wi w4 r) := by
  have ht := nL_t (k := w4.toNat) h h7 h8 h9
  have hs := nL_s (k := wi) h h7 h8 h9
  have e36 : ∀ b, nL ns ng nt b [(0, 36, 0)] := fun b => ⟨nTk_k (by decide) (by decide), trivial⟩
  unfold orI
  split
  · rename_i c
    rw [if_pos c] at h1
    have h2' := h2 c
    refine nL_app _ _ _ ⟨nTk_k (by decide) (by decide), nTk_n (by decide) ⟨_, _, _, Or.inr (Or.inr ⟨by decide, rfl, rfl⟩), rfl, h1⟩, nTk_k (by decide) (by decide), nTk_n (by decide) ⟨_, _, _, Or.inr (Or.inl ⟨by decide, rfl, rfl⟩), rfl, h2'⟩, nTk_k (by decide) (by decide), trivial⟩ (nL_app _ _ _ ht (e36 _))
  · rename_i c
    rw [if_neg c] at h1
    split
    · rename_i c1
      rw [if_pos c1] at h1
      refine nL_app _ _ _ ⟨nTk_k (by decide) (by decide), nTk_n (by decide) ⟨_, _, _, Or.inr (Or.inl ⟨by decide, rfl, rfl⟩), rfl, h1⟩, nTk_k (by decide) (by decide), nTk_d (by decide) h3, nTk_k (by decide) (by decide), trivial⟩ (nL_app _ _ _ ht (e36 _))
    · rename_i c1
      rw [if_neg c1] at h1
      refine nL_app _ _ _ ⟨nTk_k (by decide) (by decide), nTk_n (by decide) ⟨_, _, _, Or.inl ⟨by decide, rfl, rfl⟩, rfl, h1⟩, nTk_k (by decide) (by decide), trivial⟩ (nL_app _ _ _ hs (nL_app _ _ _ ?_ (e36 _)))
      split
      · trivial
      · exact ⟨nTk_k (by decide) (by decide), ht⟩
theorem lkd_or {b so wh wi : Nat} {w4 : Int} {r : Nat → Nat} : lkd b (orI so wh wi w4 r) = 36 := by
  unfold orI
  split
  · rw [lkd_app, lkd_app]; rfl
  · split
    · rw [lkd_app, lkd_app]; rfl
    · rw [lkd_app, lkd_app, lkd_app]; rfl
end ZD
