/-! what a list's lines tell: the road -/
section ZE
variable {ce : Nat → Int} {R : Nat → Nat → Int} {k : Nat}
theorem ok_k {b k v : Nat} {s : Sts} (h : k ≠ 47 ∧ k ≠ 48) : okS b k v s ∧ eff b k v s = s := by
  unfold okS eff
  rw [if_neg h.1, if_neg h.2, if_neg h.1, if_neg h.2]
  exact ⟨trivial, rfl⟩
theorem rg_b {b v : Nat} (lo hi : Nat) (h : ∀ t : Nat × Nat × Nat, t ∈ rgs → t.1 = b → t.2.1 = lo ∧ t.2.2 = hi) (h1 : lo ≤ v) (h2 : v ≤ hi) : rgOk b v := fun t ht e => by
  have := h t ht e
  omega
theorem ok_n {b v : Nat} {s : Sts} (h : (if b = 0 then v = 115 * 256 + 48 + s.1 ∧ s.1 < 5 else if b = 3 then v = 103 * 256 + 48 + s.2.1 ∧ s.2.1 < 5 else v = 116 * 256 + 48 + s.2.2.1 ∧ s.2.2.1 < 8)) (hb : b = 0 ∨ b = 3 ∨ b = 6) : okS b 47 v s := by
  unfold okS
  rw [if_pos rfl]
  rcases hb with rfl | rfl | rfl
  · rw [if_pos rfl] at h ⊢; exact h
  · rw [if_neg (by decide), if_pos rfl] at h ⊢; exact h
  · rw [if_neg (by decide), if_neg (by decide)] at h; rw [if_neg (by decide), if_neg (by decide), if_pos rfl]; exact h
theorem ok_d {b v : Nat} {s : Sts} (h : rgOk b v) (h1 : v ≤ 1000) (h2 : b = 4 ∨ b = 9 ∨ b = 10 → (v : Int) < s.2.2.2 0 1) (h3 : b = 1 → 1 ≤ s.1 ∧ 0 ≤ s.2.2.2 0 1 ∧ s.2.2.2 0 1 + (v : Int) ≤ 45) (h4 : b = 2 → 1 ≤ s.1) (h5 : b = 4 ∨ b = 5 → 1 ≤ s.2.1) (h6 : b = 7 ∨ b = 8 ∨ b = 9 ∨ b = 10 ∨ b = 11 → 1 ≤ s.2.2.1) : okS b 48 v s := by
  unfold okS
  rw [if_neg (by decide), if_pos rfl]
  exact ⟨h, h1, h2, h3, h4, h5, h6⟩
/-- one token, then the rest -/
theorem ok_c {b q k v : Nat} {l : Its} {s s' : Sts} {F : Sts → Prop} (h : okS b k v s) (e : eff b k v s = s') (g : okL k l s' ∧ F (effL k l s')) : okL b ((q, k, v) :: l) s ∧ F (effL b ((q, k, v) :: l) s) := by
  subst e
  exact ⟨⟨h, g.1⟩, g.2⟩
theorem ok_e {b : Nat} {s : Sts} {F : Sts → Prop} (h : F s) : okL b [] s ∧ F (effL b [] s) := ⟨trivial, h⟩
theorem ok_w {b q k v : Nat} {l : Its} {s : Sts} {F : Sts → Prop} (h : k ≠ 47 ∧ k ≠ 48) (g : okL k l s ∧ F (effL k l s)) : okL b ((q, k, v) :: l) s ∧ F (effL b ((q, k, v) :: l) s) := ok_c (ok_k h).1 (ok_k h).2 g
def rS (k a b : Nat) (R : Nat → Nat → Int) : Nat → Nat → Int := mW (lay k a (mW (mW (mW R 0 0 ((k + 1 : Nat) : Int)) 1 k (a : Int)) 2 k (R 0 1))) 3 k (b : Int)
def rG (k a b : Nat) (R : Nat → Nat → Int) : Nat → Nat → Int := mW (mW (mW R 0 2 ((k + 1 : Nat) : Int)) 5 k (a : Int)) 6 k (b : Int)
def rT_ (k a b c e g : Nat) (R : Nat → Nat → Int) : Nat → Nat → Int := mW (mW (mW (mW (mW (mW R 0 3 ((k + 1 : Nat) : Int)) 7 k (a : Int)) 8 k (b : Int)) 9 k (c : Int)) 10 k (e : Int)) 11 k (g : Int)
theorem no3 {P : Nat → Prop} {a b c x : Nat} (h : x ≠ a ∧ x ≠ b ∧ x ≠ c) {q : Prop} : x = a ∨ x = b ∨ x = c → q := fun e => by omega
theorem sv_str {a b : Nat} (hk : k < 5) (ha : 1 ≤ a ∧ a ≤ 9) (hb : b ≤ 9) (h0 : 0 ≤ R 0 1) (h1 : R 0 1 + (a : Int) ≤ 45) : okL 36 (strI k a b) (k, 0, 0, R) ∧ effL 36 (strI k a b) (k, 0, 0, R) = (k + 1, 0, 0, rS k a b R) := by
  have e01 : mW R 0 0 ((k + 1 : Nat) : Int) 0 1 = R 0 1 := mW_ne2 (Or.inr (by decide))
  unfold strI
  refine ok_w (F := fun s => s = (k + 1, 0, 0, rS k a b R)) ⟨by decide, by decide⟩ ?_
  refine ok_c (s' := (k + 1, 0, 0, mW R 0 0 ((k + 1 : Nat) : Int))) (ok_n (by rw [if_pos rfl]; exact ⟨rfl, hk⟩) (Or.inl rfl)) rfl ?_
  refine ok_w ⟨by decide, by decide⟩ ?_
  refine ok_c (s' := (k + 1, 0, 0, lay k a (mW (mW (mW R 0 0 ((k + 1 : Nat) : Int)) 1 k (a : Int)) 2 k (mW R 0 0 ((k + 1 : Nat) : Int) 0 1)))) (ok_d (rg_b 1 9 (by decide) (by omega) (by omega)) (by omega) (fun h => by omega) (fun _ => ⟨Nat.succ_le_succ (Nat.zero_le _), ?_⟩) (fun h => by omega) (fun h => by omega) (fun h => by omega)) rfl ?_
  · show 0 ≤ mW R 0 0 ((k + 1 : Nat) : Int) 0 1 ∧ mW R 0 0 ((k + 1 : Nat) : Int) 0 1 + (a : Int) ≤ 45
    rw [e01]
    exact ⟨h0, h1⟩
  rw [e01]
  refine ok_w ⟨by decide, by decide⟩ ?_
  refine ok_c (s' := (k + 1, 0, 0, rS k a b R)) (ok_d (rg_b 0 9 (by decide) (by omega) (by omega)) (by omega) (fun h => by omega) (fun h => by omega) (fun _ => Nat.succ_le_succ (Nat.zero_le _)) (fun h => by omega) (fun h => by omega)) rfl ?_
  exact ok_w ⟨by decide, by decide⟩ (ok_e rfl)
theorem sv_gt {q a b n : Nat} (hk : k < 5) (ha : a ≤ 44) (hb : b ≤ 60) (h1 : (a : Int) < R 0 1) : okL 36 (gtI q k a b) (n, k, 0, R) ∧ effL 36 (gtI q k a b) (n, k, 0, R) = (n, k + 1, 0, rG k a b R) := by
  have e01 : mW R 0 2 ((k + 1 : Nat) : Int) 0 1 = R 0 1 := mW_ne2 (Or.inr (by decide))
  unfold gtI
  refine ok_w (F := fun s => s = (n, k + 1, 0, rG k a b R)) ⟨by decide, by decide⟩ ?_
  refine ok_c (s' := (n, k + 1, 0, mW R 0 2 ((k + 1 : Nat) : Int))) (ok_n (by rw [if_neg (by decide), if_pos rfl]; exact ⟨rfl, hk⟩) (Or.inr (Or.inl rfl))) rfl ?_
  refine ok_w ⟨by decide, by decide⟩ ?_
  refine ok_c (s' := (n, k + 1, 0, mW (mW R 0 2 ((k + 1 : Nat) : Int)) 5 k (a : Int))) (ok_d (rg_b 0 44 (by decide) (by omega) (by omega)) (by omega) (fun _ => ?_) (fun h => by omega) (fun h => by omega) (fun _ => Nat.succ_le_succ (Nat.zero_le _)) (fun h => by omega)) rfl ?_
  · show (a : Int) < mW R 0 2 ((k + 1 : Nat) : Int) 0 1
    rw [e01]
    exact h1
  refine ok_w ⟨by decide, by decide⟩ ?_
  refine ok_c (s' := (n, k + 1, 0, rG k a b R)) (ok_d (rg_b 0 60 (by decide) (by omega) (by omega)) (by omega) (fun h => by omega) (fun h => by omega) (fun h => by omega) (fun _ => Nat.succ_le_succ (Nat.zero_le _)) (fun h => by omega)) rfl ?_
  exact ok_w ⟨by decide, by decide⟩ (ok_e rfl)
theorem sv_tr {q a b c e g n m : Nat} (hk : k < 8) (ha : 1 ≤ a ∧ a ≤ 60) (hb : 1 ≤ b ∧ b ≤ 16) (hc : c ≤ 44) (he : e ≤ 44) (hg : 1 ≤ g ∧ g ≤ 30) (h1 : (c : Int) < R 0 1) (h2 : (e : Int) < R 0 1) : okL 36 (trI q k a b c e g) (n, m, k, R) ∧ effL 36 (trI q k a b c e g) (n, m, k, R) = (n, m, k + 1, rT_ k a b c e g R) := by
  have e01 : ∀ {x y z : Int} , mW (mW (mW R 0 3 x) 7 k y) 8 k z 0 1 = R 0 1 := fun {x y z} => by rw [mW_ne (by decide), mW_ne (by decide)]; exact mW_ne2 (Or.inr (by decide))
  have e02 : ∀ {x y z w : Int} , mW (mW (mW (mW R 0 3 x) 7 k y) 8 k z) 9 k w 0 1 = R 0 1 := fun {x y z w} => by rw [mW_ne (by decide)]; exact e01
  unfold trI
  refine ok_w (F := fun s => s = (n, m, k + 1, rT_ k a b c e g R)) ⟨by decide, by decide⟩ ?_
  refine ok_c (s' := (n, m, k + 1, mW R 0 3 ((k + 1 : Nat) : Int))) (ok_n (by rw [if_neg (by decide), if_neg (by decide)]; exact ⟨rfl, hk⟩) (Or.inr (Or.inr rfl))) rfl ?_
  refine ok_w ⟨by decide, by decide⟩ ?_
  refine ok_c (s' := (n, m, k + 1, mW (mW R 0 3 ((k + 1 : Nat) : Int)) 7 k (a : Int))) (ok_d (rg_b 1 60 (by decide) (by omega) (by omega)) (by omega) (fun h => by omega) (fun h => by omega) (fun h => by omega) (fun h => by omega) (fun _ => Nat.succ_le_succ (Nat.zero_le _))) rfl ?_
  refine ok_w ⟨by decide, by decide⟩ ?_
  refine ok_c (s' := (n, m, k + 1, mW (mW (mW R 0 3 ((k + 1 : Nat) : Int)) 7 k (a : Int)) 8 k (b : Int))) (ok_d (rg_b 1 16 (by decide) (by omega) (by omega)) (by omega) (fun h => by omega) (fun h => by omega) (fun h => by omega) (fun h => by omega) (fun _ => Nat.succ_le_succ (Nat.zero_le _))) rfl ?_
  refine ok_w ⟨by decide, by decide⟩ ?_
  refine ok_c (s' := (n, m, k + 1, mW (mW (mW (mW R 0 3 ((k + 1 : Nat) : Int)) 7 k (a : Int)) 8 k (b : Int)) 9 k (c : Int))) (ok_d (rg_b 0 44 (by decide) (by omega) (by omega)) (by omega) (fun _ => ?_) (fun h => by omega) (fun h => by omega) (fun h => by omega) (fun _ => Nat.succ_le_succ (Nat.zero_le _))) rfl ?_
  · show (c : Int) < mW (mW (mW R 0 3 ((k + 1 : Nat) : Int)) 7 k (a : Int)) 8 k (b : Int) 0 1
    rw [e01]
    exact h1
  refine ok_w ⟨by decide, by decide⟩ ?_
  refine ok_c (s' := (n, m, k + 1, mW (mW (mW (mW (mW R 0 3 ((k + 1 : Nat) : Int)) 7 k (a : Int)) 8 k (b : Int)) 9 k (c : Int)) 10 k (e : Int))) (ok_d (rg_b 0 44 (by decide) (by omega) (by omega)) (by omega) (fun _ => ?_) (fun h => by omega) (fun h => by omega) (fun h => by omega) (fun _ => Nat.succ_le_succ (Nat.zero_le _))) rfl ?_
  · show (e : Int) < mW (mW (mW (mW R 0 3 ((k + 1 : Nat) : Int)) 7 k (a : Int)) 8 k (b : Int)) 9 k (c : Int) 0 1
    rw [e02]
    exact h2
  refine ok_w ⟨by decide, by decide⟩ ?_
  refine ok_c (s' := (n, m, k + 1, rT_ k a b c e g R)) (ok_d (rg_b 1 30 (by decide) (by omega) (by omega)) (by omega) (fun h => by omega) (fun h => by omega) (fun h => by omega) (fun h => by omega) (fun _ => Nat.succ_le_succ (Nat.zero_le _))) rfl ?_
  exact ok_w ⟨by decide, by decide⟩ (ok_e rfl)
theorem lay_e {s : Nat} : ∀ (n p : Nat) (R : Nat → Nat → Int), R 0 1 = (p : Int) → lay s n R 0 1 = ((p + n : Nat) : Int) ∧ (∀ j k, j ≠ 4 → (j = 0 → k ≠ 1) → lay s n R j k = R j k) ∧ (∀ m, lay s n R 4 m = if p ≤ m ∧ m < p + n then (s : Int) else R 4 m)
  | 0, p, R, h => ⟨h, fun _ _ _ _ => rfl, fun m => by rw [if_neg (by omega)]; rfl⟩
  | n + 1, p, R, h => by
    obtain ⟨R1, e1⟩ : ∃ x, mW (mW R 4 (R 0 1).toNat (s : Int)) 0 1 (R 0 1 + 1) = x := ⟨_, rfl⟩
    have e0 : lay s (n + 1) R = lay s n R1 := by rw [← e1]; rfl
    have h1 : R1 0 1 = ((p + 1 : Nat) : Int) := by rw [← e1, mW_eq, h]; omega
    obtain ⟨g1, g2, g3⟩ := lay_e (s := s) n (p + 1) R1 h1
    rw [e0]
    refine ⟨by rw [g1]; omega, fun j k h4 h0 => ?_, fun m => ?_⟩
    · rw [g2 j k h4 h0, ← e1, mW_get, if_neg (by omega), mW_ne h4]
    · rw [g3 m]
      have e4 : R1 4 m = if m = p then (s : Int) else R 4 m := by
        rw [← e1, mW_ne (by decide), mW_get, h, Int.toNat_natCast]
        by_cases hm : m = p
        · rw [if_pos ⟨rfl, hm⟩, if_pos hm]
        · rw [if_neg (fun z => hm z.2), if_neg hm]
      rw [e4]
      by_cases hm : m = p
      · subst hm
        rw [if_neg (by omega), if_pos rfl, if_pos (by omega)]
      · rw [if_neg hm]
        by_cases h5 : p + 1 ≤ m ∧ m < p + 1 + n
        · rw [if_pos h5, if_pos (by omega)]
        · rw [if_neg h5, if_neg (by omega)]
/-- what the road is after so many lines -/
def IvR (ce : Nat → Int) (n2 n4 n5 : Nat) (R : Nat → Nat → Int) : Prop :=
  (R 0 0 = (n2 : Int) ∧ R 0 1 = (psm (ml ce) n2 : Int) ∧ R 0 2 = (n4 : Int) ∧ R 0 3 = (n5 : Int)) ∧
  (∀ j, j < n2 → R 1 j = (ml ce j : Int) ∧ R 2 j = (psm (ml ce) j : Int) ∧ R 3 j = (sf ce j : Int)) ∧ (∀ j, j < n2 → ∀ m, psm (ml ce) j ≤ m → m < psm (ml ce) (j + 1) → R 4 m = (j : Int)) ∧
  (∀ j, j < n4 → R 5 j = (ga ce j : Int) ∧ R 6 j = (gt ce j : Int)) ∧ (∀ j, j < n5 → R 7 j = (tw ce j : Int) ∧ R 8 j = (twl ce j : Int) ∧ R 9 j = (tfr ce j : Int) ∧ R 10 j = (tto ce j : Int) ∧ R 11 j = (tev ce j : Int))
theorem iv_2 (h : IvR ce k 0 0 R) : IvR ce (k + 1) 0 0 (rS k (ml ce k) (sf ce k) R) := by
  obtain ⟨⟨h0, h1, h2, h3⟩, ha, hb, hc, hd⟩ := h
  obtain ⟨R1, e1⟩ : ∃ x, mW (mW (mW R 0 0 ((k + 1 : Nat) : Int)) 1 k (ml ce k : Int)) 2 k (R 0 1) = x := ⟨_, rfl⟩
  have hR1 : ∀ j i, R1 j i = if j = 2 ∧ i = k then (psm (ml ce) k : Int) else if j = 1 ∧ i = k then (ml ce k : Int) else if j = 0 ∧ i = 0 then ((k + 1 : Nat) : Int) else R j i := fun j i => by rw [← e1, mW_get, mW_get, mW_get, h1]
  obtain ⟨g1, g2, g3⟩ := lay_e (s := k) (ml ce k) (psm (ml ce) k) R1 (by rw [hR1, if_neg (by omega), if_neg (by omega), if_neg (by omega)]; exact h1)
  have eS : ∀ j i, rS k (ml ce k) (sf ce k) R j i = if j = 3 ∧ i = k then (sf ce k : Int) else lay k (ml ce k) R1 j i := fun j i => by unfold rS; rw [e1, mW_get]
  have ep : psm (ml ce) (k + 1) = psm (ml ce) k + ml ce k := rfl
  refine ⟨⟨?_, ?_, ?_, ?_⟩, fun j hj => ?_, fun j hj m m1 m2 => ?_, fun j hj => absurd hj (Nat.not_lt_zero _), fun j hj => absurd hj (Nat.not_lt_zero _)⟩
  · rw [eS, if_neg (by omega), g2 0 0 (by decide) (fun _ => by decide), hR1, if_neg (by omega), if_neg (by omega), if_pos ⟨rfl, rfl⟩]
  · rw [eS, if_neg (by omega), g1, ep]
  · rw [eS, if_neg (by omega), g2 0 2 (by decide) (fun _ => by decide), hR1, if_neg (by omega), if_neg (by omega), if_neg (by omega)]; exact h2
  · rw [eS, if_neg (by omega), g2 0 3 (by decide) (fun _ => by decide), hR1, if_neg (by omega), if_neg (by omega), if_neg (by omega)]; exact h3
  · rw [eS 1 j, eS 2 j, eS 3 j, if_neg (by omega), if_neg (by omega), g2 1 j (by decide) (fun h => absurd h (by decide)), g2 2 j (by decide) (fun h => absurd h (by decide)), g2 3 j (by decide) (fun h => absurd h (by decide)), hR1 1 j, hR1 2 j, hR1 3 j]
    by_cases e : j = k
    · subst e
      rw [if_neg (by omega), if_pos ⟨rfl, rfl⟩, if_pos ⟨rfl, rfl⟩, if_pos ⟨rfl, rfl⟩]
      exact ⟨rfl, rfl, rfl⟩
    · rw [if_neg (by omega), if_neg (by omega), if_neg (by omega), if_neg (by omega), if_neg (by omega), if_neg (by omega), if_neg (by omega), if_neg (by omega), if_neg (by omega), if_neg (by omega)]
      exact ha j (by omega)
  · rw [eS, if_neg (by omega), g3 m]
    by_cases e : j = k
    · subst e
      rw [if_pos ⟨m1, by omega⟩]
    · have := psm_mono (f := ml ce) (show j + 1 ≤ k by omega)
      rw [if_neg (by omega), hR1, if_neg (by omega), if_neg (by omega), if_neg (by omega)]
      exact hb j (by omega) m m1 m2
theorem iv_4 {n : Nat} (h : IvR ce n k 0 R) : IvR ce n (k + 1) 0 (rG k (ga ce k) (gt ce k) R) := by
  obtain ⟨⟨h0, h1, h2, h3⟩, ha, hb, hc, hd⟩ := h
  have eS : ∀ j i, rG k (ga ce k) (gt ce k) R j i = if j = 6 ∧ i = k then (gt ce k : Int) else if j = 5 ∧ i = k then (ga ce k : Int) else if j = 0 ∧ i = 2 then ((k + 1 : Nat) : Int) else R j i := fun j i => by unfold rG; rw [mW_get, mW_get, mW_get]
  have eN : ∀ j i, j ≠ 6 → j ≠ 5 → (j = 0 → i ≠ 2) → rG k (ga ce k) (gt ce k) R j i = R j i := fun j i j1 j2 j3 => by rw [eS, if_neg (by omega), if_neg (by omega), if_neg (by omega)]
  refine ⟨⟨(eN 0 0 (by decide) (by decide) (fun _ => by decide)).trans h0, (eN 0 1 (by decide) (by decide) (fun _ => by decide)).trans h1, ?_, (eN 0 3 (by decide) (by decide) (fun _ => by decide)).trans h3⟩, fun j hj => ?_, fun j hj m m1 m2 => ?_, fun j hj => ?_, fun j hj => absurd hj (Nat.not_lt_zero _)⟩
  · rw [eS, if_neg (by omega), if_neg (by omega), if_pos ⟨rfl, rfl⟩]
  · rw [eN 1 j (by decide) (by decide) (fun h => absurd h (by decide)), eN 2 j (by decide) (by decide) (fun h => absurd h (by decide)), eN 3 j (by decide) (by decide) (fun h => absurd h (by decide))]
    exact ha j hj
  · rw [eN 4 m (by decide) (by decide) (fun h => absurd h (by decide))]
    exact hb j hj m m1 m2
  · rw [eS 5 j, eS 6 j]
    by_cases e : j = k
    · subst e
      rw [if_neg (by omega), if_pos ⟨rfl, rfl⟩, if_pos ⟨rfl, rfl⟩]
      exact ⟨rfl, rfl⟩
    · rw [if_neg (by omega), if_neg (by omega), if_neg (by omega), if_neg (by omega), if_neg (by omega), if_neg (by omega)]
      exact hc j (by omega)
theorem iv_5 {n m : Nat} (h : IvR ce n m k R) : IvR ce n m (k + 1) (rT_ k (tw ce k) (twl ce k) (tfr ce k) (tto ce k) (tev ce k) R) := by
  obtain ⟨⟨h0, h1, h2, h3⟩, ha, hb, hc, hd⟩ := h
  obtain ⟨R', e'⟩ : ∃ x, rT_ k (tw ce k) (twl ce k) (tfr ce k) (tto ce k) (tev ce k) R = x := ⟨_, rfl⟩
  have eS : ∀ j i, R' j i = if j = 11 ∧ i = k then (tev ce k : Int) else if j = 10 ∧ i = k then (tto ce k : Int) else if j = 9 ∧ i = k then (tfr ce k : Int) else if j = 8 ∧ i = k then (twl ce k : Int) else if j = 7 ∧ i = k then (tw ce k : Int) else if j = 0 ∧ i = 3 then ((k + 1 : Nat) : Int) else R j i := fun j i => by rw [← e']; unfold rT_; rw [mW_get, mW_get, mW_get, mW_get, mW_get, mW_get]
  have eN : ∀ j i, j < 7 → (j = 0 → i ≠ 3) → R' j i = R j i := fun j i j1 j3 => by rw [eS, if_neg (by omega), if_neg (by omega), if_neg (by omega), if_neg (by omega), if_neg (by omega), if_neg (by omega)]
  have eK : ∀ j i, 7 ≤ j → i ≠ k → R' j i = R j i := fun j i j1 j3 => by rw [eS, if_neg (by omega), if_neg (by omega), if_neg (by omega), if_neg (by omega), if_neg (by omega), if_neg (by omega)]
  rw [e']
  refine ⟨⟨(eN 0 0 (by decide) (fun _ => by decide)).trans h0, (eN 0 1 (by decide) (fun _ => by decide)).trans h1, (eN 0 2 (by decide) (fun _ => by decide)).trans h2, ?_⟩, fun j hj => ?_, fun j hj m m1 m2 => ?_, fun j hj => ?_, fun j hj => ?_⟩
  · rw [eS, if_neg (by omega), if_neg (by omega), if_neg (by omega), if_neg (by omega), if_neg (by omega), if_pos ⟨rfl, rfl⟩]
  · rw [eN 1 j (by decide) (fun h => absurd h (by decide)), eN 2 j (by decide) (fun h => absurd h (by decide)), eN 3 j (by decide) (fun h => absurd h (by decide))]
    exact ha j hj
  · rw [eN 4 m (by decide) (fun h => absurd h (by decide))]
    exact hb j hj m m1 m2
  · rw [eN 5 j (by decide) (fun h => absurd h (by decide)), eN 6 j (by decide) (fun h => absurd h (by decide))]
    exact hc j hj
  · by_cases e : j = k
    · subst e
      refine ⟨?_, ?_, ?_, ?_, ?_⟩
      · rw [eS, if_neg (by omega), if_neg (by omega), if_neg (by omega), if_neg (by omega), if_pos ⟨rfl, rfl⟩]
      · rw [eS, if_neg (by omega), if_neg (by omega), if_neg (by omega), if_pos ⟨rfl, rfl⟩]
      · rw [eS, if_neg (by omega), if_neg (by omega), if_pos ⟨rfl, rfl⟩]
      · rw [eS, if_neg (by omega), if_pos ⟨rfl, rfl⟩]
      · rw [eS, if_pos ⟨rfl, rfl⟩]
    · rw [eK 7 j (by decide) e, eK 8 j (by decide) e, eK 9 j (by decide) e, eK 10 j (by decide) e, eK 11 j (by decide) e]
      exact hd j (by omega)
/-- what is not told is 0 -/
abbrev IvZ (ce : Nat → Int) (n2 n4 n5 : Nat) (R : Nat → Nat → Int) : Prop := ((∀ j, n2 ≤ j → R 1 j = 0 ∧ R 2 j = 0 ∧ R 3 j = 0) ∧ ∀ m, psm (ml ce) n2 ≤ m → R 4 m = 0) ∧ (∀ j, n4 ≤ j → R 6 j = 0) ∧ ∀ j, n5 ≤ j → R 8 j = 0
abbrev IvQ (ce : Nat → Int) (n2 n4 n5 : Nat) (R : Nat → Nat → Int) : Prop := IvR ce n2 n4 n5 R ∧ IvZ ce n2 n4 n5 R
theorem iq_2 (h : IvQ ce k 0 0 R) : IvQ ce (k + 1) 0 0 (rS k (ml ce k) (sf ce k) R) := by
  refine ⟨iv_2 h.1, ?_⟩
  obtain ⟨⟨⟨h0, h1, h2, h3⟩, _⟩, ⟨za, zb⟩, zc, zd⟩ := h
  obtain ⟨R1, e1⟩ : ∃ x, mW (mW (mW R 0 0 ((k + 1 : Nat) : Int)) 1 k (ml ce k : Int)) 2 k (R 0 1) = x := ⟨_, rfl⟩
  have hR1 : ∀ j i, R1 j i = if j = 2 ∧ i = k then (psm (ml ce) k : Int) else if j = 1 ∧ i = k then (ml ce k : Int) else if j = 0 ∧ i = 0 then ((k + 1 : Nat) : Int) else R j i := fun j i => by rw [← e1, mW_get, mW_get, mW_get, h1]
  obtain ⟨g1, g2, g3⟩ := lay_e (s := k) (ml ce k) (psm (ml ce) k) R1 (by rw [hR1, if_neg (by omega), if_neg (by omega), if_neg (by omega)]; exact h1)
  have eS : ∀ j i, rS k (ml ce k) (sf ce k) R j i = if j = 3 ∧ i = k then (sf ce k : Int) else lay k (ml ce k) R1 j i := fun j i => by unfold rS; rw [e1, mW_get]
  have ep : psm (ml ce) (k + 1) = psm (ml ce) k + ml ce k := rfl
  refine ⟨⟨fun j hj => ?_, fun m hm => ?_⟩, fun j hj => ?_, fun j hj => ?_⟩
  · rw [eS 1 j, eS 2 j, eS 3 j, if_neg (by omega), if_neg (by omega), if_neg (by omega), g2 1 j (by decide) (fun h => absurd h (by decide)), g2 2 j (by decide) (fun h => absurd h (by decide)), g2 3 j (by decide) (fun h => absurd h (by decide)), hR1 1 j, hR1 2 j, hR1 3 j]
    rw [if_neg (by omega), if_neg (by omega), if_neg (by omega), if_neg (by omega), if_neg (by omega), if_neg (by omega), if_neg (by omega), if_neg (by omega), if_neg (by omega)]
    exact za j (by omega)
  · rw [eS, if_neg (by omega), g3 m, if_neg (by omega), hR1, if_neg (by omega), if_neg (by omega), if_neg (by omega)]
    exact zb m (by omega)
  · rw [eS 6 j, if_neg (by omega), g2 6 j (by decide) (fun h => absurd h (by decide)), hR1 6 j, if_neg (by omega), if_neg (by omega), if_neg (by omega)]
    exact zc j hj
  · rw [eS 8 j, if_neg (by omega), g2 8 j (by decide) (fun h => absurd h (by decide)), hR1 8 j, if_neg (by omega), if_neg (by omega), if_neg (by omega)]
    exact zd j hj
theorem iq_4 {n : Nat} (h : IvQ ce n k 0 R) : IvQ ce n (k + 1) 0 (rG k (ga ce k) (gt ce k) R) := by
  refine ⟨iv_4 h.1, ?_⟩
  have eN : ∀ j, 1 ≤ j → j ≤ 4 ∨ j = 8 → rG k (ga ce k) (gt ce k) R j = R j := fun j j1 j2 => by unfold rG; rw [mW_ne (by omega), mW_ne (by omega), mW_ne (by omega)]
  have e6 : ∀ j, k + 1 ≤ j → rG k (ga ce k) (gt ce k) R 6 j = R 6 j := fun j hj => by unfold rG; rw [mW_ne2 (Or.inr (by omega)), mW_ne (by omega), mW_ne (by omega)]
  refine ⟨?_, fun j hj => (e6 j hj).trans (h.2.2.1 j (by omega)), ?_⟩
  · rw [eN 1 (by decide) (by decide), eN 2 (by decide) (by decide), eN 3 (by decide) (by decide), eN 4 (by decide) (by decide)]
    exact h.2.1
  · rw [eN 8 (by decide) (by decide)]
    exact h.2.2.2
theorem iq_5 {n m : Nat} (h : IvQ ce n m k R) : IvQ ce n m (k + 1) (rT_ k (tw ce k) (twl ce k) (tfr ce k) (tto ce k) (tev ce k) R) := by
  refine ⟨iv_5 h.1, ?_⟩
  have eN : ∀ j, 1 ≤ j → j ≤ 6 → rT_ k (tw ce k) (twl ce k) (tfr ce k) (tto ce k) (tev ce k) R j = R j := fun j j1 j2 => by unfold rT_; rw [mW_ne (by omega), mW_ne (by omega), mW_ne (by omega), mW_ne (by omega), mW_ne (by omega), mW_ne (by omega)]
  have e8 : ∀ j, k + 1 ≤ j → rT_ k (tw ce k) (twl ce k) (tfr ce k) (tto ce k) (tev ce k) R 8 j = R 8 j := fun j hj => by unfold rT_; rw [mW_ne (by omega), mW_ne (by omega), mW_ne (by omega), mW_ne2 (Or.inr (by omega)), mW_ne (by omega), mW_ne (by omega)]
  refine ⟨?_, ?_, fun j hj => (e8 j hj).trans (h.2.2.2 j (by omega))⟩
  · rw [eN 1 (by decide) (by decide), eN 2 (by decide) (by decide), eN 3 (by decide) (by decide), eN 4 (by decide) (by decide)]
    exact h.2.1
  · rw [eN 6 (by decide) (by decide)]
    exact h.2.2.1
end ZE
