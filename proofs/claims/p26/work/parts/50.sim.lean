/-! how the law's own road lies: an object, five tables (fields 2 to 6 of it), their rows; what it holds, over R and W -/
section ASM
/-- how many numbers a row of table j has -/
def wd (j : Nat) : Nat := if j = 2 then 3 else if j = 3 then 3 else if j = 4 then 6 else if j = 5 then 8 else 10
abbrev SmS (S : aS) (s : Nat) (T : Nat → Nat) (A : Nat → Nat → Nat) (c : Nat → Nat) : Prop :=
  (aK S s = 10) ∧ (aKd S s = 10) ∧ (∀ j, 2 ≤ j → j ≤ 6 → aP S s j = some (T j)) ∧ (∀ j, 2 ≤ j → j ≤ 6 → aKd S (T j) = 102) ∧ (∀ j, 2 ≤ j → j ≤ 6 → aN S (T j) = c j) ∧ (∀ j k, 2 ≤ j → j ≤ 6 → k < c j → aP S (T j) k = some (A j k)) ∧ (∀ j k, 2 ≤ j → j ≤ 6 → k < c j → aK S (A j k) = 100) ∧ (∀ j k, 2 ≤ j → j ≤ 6 → k < c j → aKd S (A j k) = 100) ∧ (∀ j k, 2 ≤ j → j ≤ 6 → k < c j → aN S (A j k) = wd j) ∧ (∀ j k, 2 ≤ j → j ≤ 6 → k < c j → A j k ≠ s) ∧ (∀ j k j' k', 2 ≤ j → j ≤ 6 → k < c j → 2 ≤ j' → j' ≤ 6 → k' < c j' → A j k = A j' k' → j = j' ∧ k = k') ∧ (c 2 ≤ 5 ∧ c 3 ≤ 45 ∧ c 4 ≤ 5 ∧ c 5 ≤ 8 ∧ c 6 ≤ 20)
theorem SmS.k {S : aS} {s : Nat} {T : Nat → Nat} {A : Nat → Nat → Nat} {c : Nat → Nat} (h : SmS S s T A c) : aK S s = 10 := h.1
theorem SmS.kd {S : aS} {s : Nat} {T : Nat → Nat} {A : Nat → Nat → Nat} {c : Nat → Nat} (h : SmS S s T A c) : aKd S s = 10 := h.2.1
theorem SmS.pT {S : aS} {s : Nat} {T : Nat → Nat} {A : Nat → Nat → Nat} {c : Nat → Nat} (h : SmS S s T A c) : ∀ j, 2 ≤ j → j ≤ 6 → aP S s j = some (T j) := h.2.2.1
theorem SmS.dT {S : aS} {s : Nat} {T : Nat → Nat} {A : Nat → Nat → Nat} {c : Nat → Nat} (h : SmS S s T A c) : ∀ j, 2 ≤ j → j ≤ 6 → aKd S (T j) = 102 := h.2.2.2.1
theorem SmS.nT {S : aS} {s : Nat} {T : Nat → Nat} {A : Nat → Nat → Nat} {c : Nat → Nat} (h : SmS S s T A c) : ∀ j, 2 ≤ j → j ≤ 6 → aN S (T j) = c j := h.2.2.2.2.1
theorem SmS.pA {S : aS} {s : Nat} {T : Nat → Nat} {A : Nat → Nat → Nat} {c : Nat → Nat} (h : SmS S s T A c) : ∀ j k, 2 ≤ j → j ≤ 6 → k < c j → aP S (T j) k = some (A j k) := h.2.2.2.2.2.1
theorem SmS.aA {S : aS} {s : Nat} {T : Nat → Nat} {A : Nat → Nat → Nat} {c : Nat → Nat} (h : SmS S s T A c) : ∀ j k, 2 ≤ j → j ≤ 6 → k < c j → aK S (A j k) = 100 := h.2.2.2.2.2.2.1
theorem SmS.dA {S : aS} {s : Nat} {T : Nat → Nat} {A : Nat → Nat → Nat} {c : Nat → Nat} (h : SmS S s T A c) : ∀ j k, 2 ≤ j → j ≤ 6 → k < c j → aKd S (A j k) = 100 := h.2.2.2.2.2.2.2.1
theorem SmS.nA {S : aS} {s : Nat} {T : Nat → Nat} {A : Nat → Nat → Nat} {c : Nat → Nat} (h : SmS S s T A c) : ∀ j k, 2 ≤ j → j ≤ 6 → k < c j → aN S (A j k) = wd j := h.2.2.2.2.2.2.2.2.1
theorem SmS.ne {S : aS} {s : Nat} {T : Nat → Nat} {A : Nat → Nat → Nat} {c : Nat → Nat} (h : SmS S s T A c) : ∀ j k, 2 ≤ j → j ≤ 6 → k < c j → A j k ≠ s := h.2.2.2.2.2.2.2.2.2.1
theorem SmS.inj {S : aS} {s : Nat} {T : Nat → Nat} {A : Nat → Nat → Nat} {c : Nat → Nat} (h : SmS S s T A c) : ∀ j k j' k', 2 ≤ j → j ≤ 6 → k < c j → 2 ≤ j' → j' ≤ 6 → k' < c j' → A j k = A j' k' → j = j' ∧ k = k' := h.2.2.2.2.2.2.2.2.2.2.1
theorem SmS.c {S : aS} {s : Nat} {T : Nat → Nat} {A : Nat → Nat → Nat} {c : Nat → Nat} (h : SmS S s T A c) : c 2 ≤ 5 ∧ c 3 ≤ 45 ∧ c 4 ≤ 5 ∧ c 5 ≤ 8 ∧ c 6 ≤ 20 := h.2.2.2.2.2.2.2.2.2.2.2
/-- the window of W that place q of a row of table j tells; 0: none -/
def lk (j q : Nat) : Nat := if j = 2 ∧ q = 2 then 3 else if j = 3 ∧ q = 1 then 1 else if j = 3 ∧ q = 2 then 2 else if j = 4 ∧ 1 ≤ q ∧ q ≤ 5 then q + 3 else if j = 5 ∧ q = 1 then 9 else if j = 5 ∧ 5 ≤ q ∧ q ≤ 7 then q + 5 else 0
/-- the window of R -/
def lr (j q : Nat) : Nat := if j = 2 ∧ q = 0 then 1 else if j = 2 ∧ q = 1 then 3 else if j = 3 ∧ q = 0 then 4 else if j = 4 ∧ q = 0 then 5 else if j = 5 ∧ q = 0 then 7 else if j = 5 ∧ 2 ≤ q ∧ q ≤ 4 then q + 7 else 0
theorem lk_inj {j q j' q' : Nat} (h : lk j q = lk j' q') (h0 : lk j q ≠ 0) : j = j' ∧ q = q' := by
  unfold lk at h h0
  (repeat' split at h0) <;> (repeat' split at h) <;> omega
theorem lk_lr {j q : Nat} (h : lk j q ≠ 0) : lr j q = 0 ∧ 2 ≤ j ∧ j ≤ 5 := by
  unfold lk at h
  unfold lr
  constructor
  · (repeat' split at h) <;> (repeat' split) <;> omega
  · (repeat' split at h) <;> omega
theorem lr_j {j q : Nat} (h : lr j q ≠ 0) : 2 ≤ j ∧ j ≤ 5 := by
  unfold lr at h
  (repeat' split at h) <;> omega
abbrev SmV (M : Nat → Nat → Int) (s : Nat) (A : Nat → Nat → Nat) (c : Nat → Nat) (R W O : Nat → Nat → Int) : Prop :=
  (M s 0 = W 0 2) ∧ (M s 1 = W 0 3) ∧ (M s 7 = -1) ∧ (∀ j k q, k < c j → lk j q ≠ 0 → M (A j k) q = W (lk j q) k) ∧ (∀ j k q, k < c j → lr j q ≠ 0 → M (A j k) q = R (lr j q) k) ∧ (∀ k q, k < c 6 → M (A 6 k) q = O k q) ∧ (R 0 0 = (c 2 : Int) ∧ R 0 1 = (c 3 : Int) ∧ R 0 2 = (c 4 : Int) ∧ R 0 3 = (c 5 : Int) ∧ R 12 0 = (c 6 : Int))
theorem SmV.day {s : Nat} {A : Nat → Nat → Nat} {c : Nat → Nat} {M : Nat → Nat → Int} {R W O : Nat → Nat → Int} (h : SmV M s A c R W O) : M s 0 = W 0 2 := h.1
theorem SmV.coins {s : Nat} {A : Nat → Nat → Nat} {c : Nat → Nat} {M : Nat → Nat → Int} {R W O : Nat → Nat → Int} (h : SmV M s A c R W O) : M s 1 = W 0 3 := h.2.1
theorem SmV.fo {s : Nat} {A : Nat → Nat → Nat} {c : Nat → Nat} {M : Nat → Nat → Int} {R W O : Nat → Nat → Int} (h : SmV M s A c R W O) : M s 7 = -1 := h.2.2.1
theorem SmV.w {s : Nat} {A : Nat → Nat → Nat} {c : Nat → Nat} {M : Nat → Nat → Int} {R W O : Nat → Nat → Int} (h : SmV M s A c R W O) : ∀ j k q, k < c j → lk j q ≠ 0 → M (A j k) q = W (lk j q) k := h.2.2.2.1
theorem SmV.r {s : Nat} {A : Nat → Nat → Nat} {c : Nat → Nat} {M : Nat → Nat → Int} {R W O : Nat → Nat → Int} (h : SmV M s A c R W O) : ∀ j k q, k < c j → lr j q ≠ 0 → M (A j k) q = R (lr j q) k := h.2.2.2.2.1
theorem SmV.o {s : Nat} {A : Nat → Nat → Nat} {c : Nat → Nat} {M : Nat → Nat → Int} {R W O : Nat → Nat → Int} (h : SmV M s A c R W O) : ∀ k q, k < c 6 → M (A 6 k) q = O k q := h.2.2.2.2.2.1
theorem SmV.n {s : Nat} {A : Nat → Nat → Nat} {c : Nat → Nat} {M : Nat → Nat → Int} {R W O : Nat → Nat → Int} (h : SmV M s A c R W O) : R 0 0 = (c 2 : Int) ∧ R 0 1 = (c 3 : Int) ∧ R 0 2 = (c 4 : Int) ∧ R 0 3 = (c 5 : Int) ∧ R 12 0 = (c 6 : Int) := h.2.2.2.2.2.2
theorem SmV.put {S : aS} {s : Nat} {T : Nat → Nat} {A : Nat → Nat → Nat} {c : Nat → Nat} {M : Nat → Nat → Int} {R W O : Nat → Nat → Int} {j k q : Nat} {x : Int} (hS : SmS S s T A c) (h : SmV M s A c R W O) (hk : k < c j) (hq : lk j q ≠ 0) : SmV (mW M (A j k) q x) s A c R (mW W (lk j q) k x) O := by
  have hj := lk_lr hq
  have hne := hS.ne j k hj.2.1 (by omega) hk
  refine ⟨?_, ?_, ?_, ?_, ?_, ?_, h.n⟩
  · rw [mW_ne (Ne.symm hne), mW_ne (Ne.symm hq)]; exact h.day
  · rw [mW_ne (Ne.symm hne), mW_ne (Ne.symm hq)]; exact h.coins
  · rw [mW_ne (Ne.symm hne)]; exact h.fo
  · intro j' k' q' hk' hq'
    have hj' := lk_lr hq'
    rw [mW_get, mW_get, h.w j' k' q' hk' hq']
    by_cases e : A j' k' = A j k ∧ q' = q
    · have e2 := hS.inj j' k' j k hj'.2.1 (by omega) hk' hj.2.1 (by omega) hk e.1
      rw [if_pos e, if_pos ⟨by rw [e2.1, e.2], e2.2⟩]
    · rw [if_neg e, if_neg (fun z => e (by
        have z1 := lk_inj z.1 hq'
        exact ⟨by rw [z1.1, z.2], z1.2⟩))]
  · intro j' k' q' hk' hq'
    have hj' := lr_j hq'
    rw [mW_get, if_neg (fun z => by
      have e2 := hS.inj j' k' j k hj'.1 (by omega) hk' hj.2.1 (by omega) hk z.1
      have e3 := hj.1
      rw [← e2.1, ← z.2] at e3
      exact hq' e3)]
    exact h.r j' k' q' hk' hq'
  · intro k' q' hk'
    rw [mW_ne (fun z => by
      have e2 := hS.inj 6 k' j k (by omega) (by omega) hk' hj.2.1 (by omega) hk z
      omega)]
    exact h.o k' q' hk'
theorem SmV.putS {S : aS} {s : Nat} {T : Nat → Nat} {A : Nat → Nat → Nat} {c : Nat → Nat} {M : Nat → Nat → Int} {R W O : Nat → Nat → Int} {x : Int} (i : Nat) (hi : i < 2) (hS : SmS S s T A c) (h : SmV M s A c R W O) : SmV (mW M s i x) s A c R (mW W 0 (i + 2) x) O := by
  refine ⟨?_, ?_, ?_, ?_, ?_, ?_, h.n⟩
  · rw [mW_get, mW_get, h.day]
    by_cases e : i = 0
    · subst e; rw [if_pos ⟨rfl, rfl⟩, if_pos ⟨rfl, rfl⟩]
    · rw [if_neg (by omega), if_neg (by omega)]
  · rw [mW_get, mW_get, h.coins]
    by_cases e : i = 1
    · subst e; rw [if_pos ⟨rfl, rfl⟩, if_pos ⟨rfl, rfl⟩]
    · rw [if_neg (by omega), if_neg (by omega)]
  · rw [mW_get, if_neg (by omega)]; exact h.fo
  · intro j' k' q' hk' hq'
    have hj' := lk_lr hq'
    rw [mW_ne (hS.ne j' k' hj'.2.1 (by omega) hk'), mW_ne hq']
    exact h.w j' k' q' hk' hq'
  · intro j' k' q' hk' hq'
    have hj' := lr_j hq'
    rw [mW_ne (hS.ne j' k' hj'.1 (by omega) hk')]
    exact h.r j' k' q' hk' hq'
  · intro k' q' hk'
    rw [mW_ne (hS.ne 6 k' (by omega) (by omega) hk')]
    exact h.o k' q' hk'
/-- nothing but the numbers of the law's road is another -/
def SmF (s : Nat) (A : Nat → Nat → Nat) (c : Nat → Nat) (M M' : Nat → Nat → Int) : Prop := ∀ b, b ≠ s → (∀ j k, 2 ≤ j → j ≤ 6 → k < c j → b ≠ A j k) → M' b = M b
theorem SmF.refl {s : Nat} {A : Nat → Nat → Nat} {c : Nat → Nat} {M : Nat → Nat → Int} : SmF s A c M M := fun _ _ _ => rfl
theorem SmF.trans {s : Nat} {A : Nat → Nat → Nat} {c : Nat → Nat} {M M' M'' : Nat → Nat → Int} (h : SmF s A c M M') (g : SmF s A c M' M'') : SmF s A c M M'' := fun b h1 h2 => (g b h1 h2).trans (h b h1 h2)
theorem SmF.wA {s : Nat} {A : Nat → Nat → Nat} {c : Nat → Nat} {M M' : Nat → Nat → Int} {j k q : Nat} {x : Int} (h : SmF s A c M M') (h2 : 2 ≤ j) (h6 : j ≤ 6) (hk : k < c j) : SmF s A c M (mW M' (A j k) q x) := fun b g1 g2 => (mW_ne (g2 j k h2 h6 hk)).trans (h b g1 g2)
theorem SmF.ws {s : Nat} {A : Nat → Nat → Nat} {c : Nat → Nat} {M M' : Nat → Nat → Int} {q : Nat} {x : Int} (h : SmF s A c M M') : SmF s A c M (mW M' s q x) := fun b g1 g2 => (mW_ne g1).trans (h b g1 g2)
/-- the least condition of a stretch, or of all, among the first n miles -/
def hLst (R W : Nat → Nat → Int) (x : Int) : Nat → Int
  | 0 => 100
  | n + 1 => if x < 0 ∨ R 4 n = x then min (hLst R W x n) (W 1 n) else hLst R W x n
def hBrk (R W : Nat → Nat → Int) (x : Int) : Nat → Int
  | 0 => 0
  | n + 1 => if (x < 0 ∨ R 4 n = x) ∧ W 1 n = 0 then hBrk R W x n + 1 else hBrk R W x n
def hCond (R W : Nat → Nat → Int) (x : Int) : Int := if 0 ≤ x ∧ x < R 0 1 then W 1 x.toNat else 0
theorem hLst_R {R W : Nat → Nat → Int} {x : Int} (hW : ∀ j k, R32 (W j k)) : ∀ n, R32 (hLst R W x n)
  | 0 => by
    unfold hLst
    exact ⟨by decide, by decide⟩
  | n + 1 => by
    have h := hLst_R (R := R) (x := x) hW n
    have h1 := hW 1 n
    unfold hLst
    split
    · exact ⟨by omega, by omega⟩
    · exact h
theorem hBrk_in {R W : Nat → Nat → Int} {x : Int} : ∀ n, 0 ≤ hBrk R W x n ∧ hBrk R W x n ≤ (n : Int)
  | 0 => by
    unfold hBrk
    exact ⟨by decide, by decide⟩
  | n + 1 => by
    have h := hBrk_in (R := R) (W := W) (x := x) n
    unfold hBrk
    split <;> omega
end ASM
