/-! is the class's object as the law's road: counts, miles -/
section C27
variable {E : Nat → Value} {d : Nat} {S : aS} {M : Nat → Nat → Int} {Q : Option (Option Value) → aS → aI → Prop} {s : Nat} {T : Nat → Nat} {A : Nat → Nat → Nat} {c : Nat → Nat} {R W O : Nat → Nat → Int} {cl t t2 rk rd rd0 : Nat}
theorem hLst_le {x : Int} (hx : x < 0) : ∀ n m, m < n → hLst R W x n ≤ W 1 m
  | 0, m, h => absurd h (Nat.not_lt_zero m)
  | n + 1, m, h => by
    unfold hLst
    rw [if_pos (Or.inl hx)]
    by_cases e : m = n
    · subst e; omega
    · have := hLst_le hx n m (by omega)
      omega
theorem hLst_at {x : Int} (hx : x < 0) : ∀ n, 1 ≤ n → (∀ m, m < n → W 1 m ≤ 100) → ∃ m, m < n ∧ W 1 m = hLst R W x n
  | 0, h, _ => absurd h (by omega)
  | n + 1, _, hm => by
    unfold hLst
    rw [if_pos (Or.inl hx)]
    by_cases e : n = 0
    · subst e
      have := hm 0 (by omega)
      exact ⟨0, by omega, by unfold hLst; omega⟩
    · obtain ⟨m, h1, h2⟩ := hLst_at hx n (by omega) (fun m h => hm m (by omega))
      by_cases g : hLst R W x n ≤ W 1 n
      · exact ⟨m, by omega, by omega⟩
      · exact ⟨n, by omega, by omega⟩
theorem cWorst_le : ∀ n m, m < n → 0 ≤ cWorst W n ∧ W 1 (cWorst W n).toNat ≤ W 1 m
  | 0, m, h => absurd h (Nat.not_lt_zero m)
  | n + 1, m, h => by
    have hin := cWorst_in (W := W) n
    unfold cWorst
    split
    · rename_i hc
      rw [Int.toNat_natCast]
      refine ⟨by omega, ?_⟩
      by_cases e : m = n
      · subst e; omega
      · have := cWorst_le n m (by omega)
        rcases hc with hc | hc
        · omega
        · omega
    · rename_i hc
      by_cases e : m = n
      · subst e
        refine ⟨by omega, ?_⟩
        have : ¬ W 1 m < W 1 (cWorst W m).toNat := fun z => hc (Or.inr z)
        omega
      · exact cWorst_le n m (by omega)
theorem cWorst_lt : ∀ n m : Nat, m < n → (m : Int) < cWorst W n → W 1 (cWorst W n).toNat < W 1 m
  | 0, m, h, _ => absurd h (Nat.not_lt_zero m)
  | n + 1, m, h, g => by
    have hin := cWorst_in (W := W) n
    unfold cWorst at g ⊢
    split
    · rename_i hc
      rw [if_pos hc] at g
      rw [Int.toNat_natCast]
      have h1 := cWorst_le (W := W) n m (by omega)
      rcases hc with hc | hc
      · omega
      · omega
    · rename_i hc
      rw [if_neg hc] at g
      exact cWorst_lt n m (by omega) g
/-- the worst, looked for from behind -/
theorem cWorst_eq {n : Nat} {w : Int} (hn : 1 ≤ n) (hm : ∀ m, m < n → W 1 m ≤ 100) (h : (w = -1 ∧ ∀ m : Nat, m < n → W 1 m ≠ hLst R W (-1) n) ∨ (0 ≤ w ∧ w < (n : Int) ∧ W 1 w.toNat = hLst R W (-1) n ∧ ∀ m : Nat, (m : Int) < w → W 1 m ≠ hLst R W (-1) n)) : w = cWorst W n := by
  obtain ⟨m0, h1, h2⟩ := hLst_at (R := R) (W := W) (x := -1) (by decide) n hn hm
  have hin := cWorst_in (W := W) n
  have ha := cWorst_le (W := W) n m0 h1
  have hb := hLst_le (R := R) (W := W) (x := -1) (by decide) n (cWorst W n).toNat (by omega)
  rcases h with ⟨_, h⟩ | ⟨g1, g2, g3, g4⟩
  · exact absurd h2 (h m0 h1)
  · rcases Int.lt_trichotomy w (cWorst W n) with z | z | z
    · have := cWorst_lt (W := W) n w.toNat (by omega) (by omega)
      omega
    · exact z
    · have := g4 (cWorst W n).toNat (by omega)
      omega
theorem cGat_in {m : Int} : ∀ n, 0 ≤ cGat R m n ∧ cGat R m n ≤ (n : Int)
  | 0 => ⟨Int.le_refl _, Int.le_refl _⟩
  | n + 1 => by
    have h := cGat_in (m := m) n
    unfold cGat
    split <;> omega
theorem cTrf_in {m : Int} : ∀ n, 0 ≤ cTrf R m n ∧ cTrf R m n ≤ (n : Int)
  | 0 => ⟨Int.le_refl _, Int.le_refl _⟩
  | n + 1 => by
    have h := cTrf_in (m := m) n
    unfold cTrf
    split <;> omega
/-- both halves, whatever is made behind them -/
abbrev BoH (S : aS) (M : Nat → Nat → Int) (s : Nat) (T : Nat → Nat) (A : Nat → Nat → Nat) (c : Nat → Nat) (cl t t2 rk rd rd0 : Nat) (R W O : Nat → Nat → Int) : Prop := ClH S M cl t t2 rk rd rd0 R W ∧ SmH S M s T A c R W O cl
theorem BoH.cc (h : BoH S M s T A c cl t t2 rk rd rd0 R W O) : ClH S M cl t t2 rk rd rd0 R W := h.1
theorem BoH.sm (h : BoH S M s T A c cl t t2 rk rd rd0 R W O) : SmH S M s T A c R W O cl := h.2
theorem BoH.ext {S' : aS} {M' : Nat → Nat → Int} (h : BoH S M s T A c cl t t2 rk rd rd0 R W O) (hx : aExt S S') (hM : RM M') (hf : ∀ b, b < aX S → M' b = M b) : BoH S' M' s T A c cl t t2 rk rd rd0 R W O := by
  have l := h.1.w.lt
  exact ⟨h.1.ext hx hM (fun b g1 g2 => hf b (by omega)), (h.2.ext (by omega) hx).fr (fun b hb => hf b (by omega))⟩
theorem BoH.lt (h : BoH S M s T A c cl t t2 rk rd rd0 R W O) : cl < aX S := by
  have l := h.1.w.lt
  omega
theorem BoH.what {M' : Nat → Nat → Int} (h : BoH S M s T A c cl t t2 rk rd rd0 R W O) (h1 : ClH (aPut S t2 1 (some rd)) M' cl t t2 rk rd rd R W) (hf : FrC cl t2 M M') : BoH (aPut S t2 1 (some rd)) M' s T A c cl t t2 rk rd rd R W O := by
  have l := h.1.w.lt
  exact ⟨h1, (h.2.put (by omega)).fr (fun b hb => hf b (Or.inl hb))⟩
theorem mX8_same1 (h : BoH S M s T A c cl t t2 rk rd rd0 R W O) (hd : 5 ≤ d) {o4 o5 o6 o7 o8 o9 : Option Value}
    (kk : ∀ S' M' o2 o3, aX S' ≤ aX S + 1 → aZ S' ≤ aZ S + 13 → BoH S' M' s T A c cl t t2 rk rd rd0 R W O → X E d fX8_isSame 32 [some (.ref s), some (.ref cl), o2, o3, o4, o5, o6, o7, o8, o9] [] S' (mI M') Q) :
    X E d fX8_isSame 0 [some (.ref s), some (.ref cl), none, none, o4, o5, o6, o7, o8, o9] [] S (mI M) Q := by
  refine kX8_isSame_0 (by omega) (mX8_counts h.sm.sm (h.sm.L (Nat.le_of_lt h.lt)) h.sm.v h.cc.m h.cc.wR (by omega) (fun M1 hM1 hf1 hv1 => ⟨_, rfl, ?_⟩)) h.sm.sm.kd
  have hB := h.ext (aExt.new S 100 13 13) hM1 hf1
  refine kX8_isSame_4 (u0 := aX S) ?_
  have rD : aKd (aNew S 100 13 13) (aX S) = 100 := nKd (by decide)
  have rN : aN (aNew S 100 13 13) (aX S) = 13 := aNew_N
  have hl : ∀ (n i : Nat), i + n = 13 → X E d fX8_isSame 7 [some (.ref s), some (.ref cl), some (.ref (aX S)), some (J (i : Int)), o4, o5, o6, o7, o8, o9] [] (aNew S 100 13 13) (mI M1) Q := by
    intro n
    induction n with
    | zero =>
      intro i hi
      exact kX8_isSame_7 ⟨by omega, by omega⟩ (fun _ => kk _ _ _ _ (Nat.le_refl _) (Nat.le_refl _) hB) (fun h => absurd h (by omega))
    | succ n ih =>
      intro i hi
      refine kX8_isSame_7 ⟨by omega, by omega⟩ (fun h => absurd h (by omega)) (fun _ => ?_)
      refine kX8_isSame_13 (by omega) (aCount hB.cc (by omega) ⟨by omega, by omega⟩ ⟨_, rfl, ?_⟩) hB.cc.w.c.kd
      rw [← J_nz (cCount R W 0 (i : Int))]
      refine kX8_isSame_18 (t0 := nz (cCount R W 0 (i : Int))) rD ⟨by omega, by omega⟩ ⟨by omega, by omega⟩ (nz_R _) (hM1 _ _) (fun _ => ?_) (fun h => absurd ?_ h)
      · exact kX8_isSame_26 (ih (i + 1) (by omega))
      · rw [Int.toNat_natCast, hv1 i (by omega)]
  exact hl 13 0 (by omega)
/-- the gates of a mile -/
theorem mX8_same2 (h : BoH S M s T A c cl t t2 rk rd rd0 R W O) {m : Nat} (hm : m < c 3) {o2 o3 o5 o6 o7 o8 o9 : Option Value}
    (kk : ∀ o6 o7 o8 o9, X E d fX8_isSame 104 [some (.ref s), some (.ref cl), o2, o3, some (J m), some (J (cGat R (m : Int) (c 4))), o6, o7, o8, o9] [] S (mI M) Q) :
    X E d fX8_isSame 48 [some (.ref s), some (.ref cl), o2, o3, some (J m), o5, o6, o7, o8, o9] [] S (mI M) Q := by
  have hS := h.sm.sm
  have hcc := hS.c
  refine kX8_isSame_48 hS.kd (hS.pT 4 (by decide) (by decide)) (Or.inr (Or.inr (hS.dT 4 (by decide) (by decide)))) ?_
  rw [hS.nT 4 (by decide) (by decide)]
  have hl : ∀ n i o9, i + n = c 4 → X E d fX8_isSame 65 [some (.ref s), some (.ref cl), o2, o3, some (J m), some (J (cGat R (m : Int) i)), some (.ref (T 4)), some (J ((c 4 : Nat) : Int)), some (J (i : Int)), o9] [] S (mI M) Q := by
    intro n
    induction n with
    | zero =>
      intro i o9 hi
      have hi : i = c 4 := by omega
      subst hi
      exact kX8_isSame_65 ⟨by omega, by omega⟩ ⟨by omega, by omega⟩ (fun _ => kk _ _ _ _) (fun h => absurd h (by omega))
    | succ n ih =>
      intro i o9 hi
      have hk : i < c 4 := by omega
      have nA := hS.nA 4 i (by decide) (by decide) hk
      have e0 : M (A 4 i) 0 = R 5 i := h.sm.v.r 4 i 0 hk (by decide)
      have w6 : wd 4 = 6 := rfl
      have h1 := ih (i + 1) (some (.ref (A 4 i))) (by omega)
      unfold cGat at h1
      refine kX8_isSame_65 ⟨by omega, by omega⟩ ⟨by omega, by omega⟩ (fun h => absurd h (by omega)) (fun _ => ?_)
      refine kX8_isSame_72 (hS.dT 4 (by decide) (by decide)) ⟨by omega, by omega⟩ ⟨by omega, by rw [hS.nT 4 (by decide) (by decide)]; omega⟩ (hS.pA 4 i (by decide) (by decide) hk) (hS.dA 4 i (by decide) (by decide) hk) ⟨by decide, by rw [nA, w6]; decide⟩ (h.cc.m _ _) ⟨by omega, by omega⟩ (fun hne => ?_) (fun he => ?_)
      · rw [e0] at hne
        rw [if_neg hne, ← Int.add_zero (cGat R (m : Int) i)] at h1
        exact kX8_isSame_94 (kX8_isSame_95 h1)
      · rw [e0] at he
        rw [if_pos he] at h1
        exact kX8_isSame_90 (kX8_isSame_95 h1)
  exact hl (c 4) 0 _ (by omega)
/-- the miles, from behind -/
theorem mX8_same3 (h : BoH S M s T A c cl t t2 rk rd rd0 R W O) (hW : WOk c W) (h1 : 1 ≤ c 3) (hd : 5 ≤ d) {o2 o3 o4 o5 o6 o7 o8 o9 : Option Value}
    (kk : ∀ S' M' o2 o4 o5 o6 o7 o8 o9, aX S' ≤ aX S + c 3 → aZ S' ≤ aZ S + 4 * c 3 → BoH S' M' s T A c cl t t2 rk rd rd0 R W O → X E d fX8_isSame 209 [some (.ref s), some (.ref cl), o2, some (J (cWorst W (c 3))), o4, o5, o6, o7, o8, o9] [] S' (mI M') Q) :
    X E d fX8_isSame 32 [some (.ref s), some (.ref cl), o2, o3, o4, o5, o6, o7, o8, o9] [] S (mI M) Q := by
  have hcc := h.sm.sm.c
  refine kX8_isSame_32 h.sm.sm.kd (h.sm.sm.pT 3 (by decide) (by decide)) (Or.inr (Or.inr (h.sm.sm.dT 3 (by decide) (by decide)))) ?_
  rw [h.sm.sm.nT 3 (by decide) (by decide)]
  have hl : ∀ (k : Nat) S1 M (w : Int) o2 o5 o6 o7 o8 o9, k ≤ c 3 → aX S1 + k ≤ aX S + c 3 → aZ S1 + 4 * k ≤ aZ S + 4 * c 3 → BoH S1 M s T A c cl t t2 rk rd rd0 R W O →
      ((w = -1 ∧ ∀ m : Nat, k ≤ m → m < c 3 → W 1 m ≠ hLst R W (-1) (c 3)) ∨ ((k : Int) ≤ w ∧ w < (c 3 : Int) ∧ W 1 w.toNat = hLst R W (-1) (c 3) ∧ ∀ m : Nat, k ≤ m → (m : Int) < w → W 1 m ≠ hLst R W (-1) (c 3))) →
      X E d fX8_isSame 43 [some (.ref s), some (.ref cl), o2, some (J w), some (J ((k : Int) - 1)), o5, o6, o7, o8, o9] [] S1 (mI M) Q := by
    intro k
    induction k with
    | zero =>
      intro S1 M w o2 o5 o6 o7 o8 o9 hk hgx hgz hB hw
      have e : w = cWorst W (c 3) := cWorst_eq (R := R) h1 (fun m hm => (hW.2.2.1 m hm).2) (by
        rcases hw with ⟨g1, g2⟩ | ⟨g1, g2, g3, g4⟩
        · exact Or.inl ⟨g1, fun m hm => g2 m (Nat.zero_le _) hm⟩
        · exact Or.inr ⟨by omega, g2, g3, fun m hm => g4 m (Nat.zero_le _) hm⟩)
      subst e
      exact kX8_isSame_43 ⟨by omega, by omega⟩ (fun _ => kk _ _ _ _ _ _ _ _ _ (by omega) (by omega) hB) (fun h => absurd h (by omega))
    | succ k ih =>
      intro S1 M w o2 o5 o6 o7 o8 o9 hk hgx hgz hB hw
      have hm : k < c 3 := by omega
      rw [show (((k + 1 : Nat) : Int) - 1) = (k : Int) by omega]
      refine kX8_isSame_43 ⟨by omega, by omega⟩ (fun h => absurd h (by omega)) (fun _ => ?_)
      refine mX8_same2 hB hm (fun o6 o7 o8 o9 => ?_)
      -- what the law has of the mile
      have hx := aExt.new S1 100 4 4
      have hS1 := hB.sm.sm.ext (hB.sm.L (Nat.le_of_lt hB.lt)) hx
      have nA := hS1.nA 3 k (by decide) (by decide) hm
      have w3 : wd 3 = 3 := rfl
      have hA : A 3 k ≠ aX S1 := by have := hB.sm.l.2.2 3 k (by decide) (by decide) hm; have := hB.lt; omega
      have rK : aK (aNew S1 100 4 4) (aX S1) = 100 := aNew_K
      have rD : aKd (aNew S1 100 4 4) (aX S1) = 100 := nKd (by decide)
      have rN : aN (aNew S1 100 4 4) (aX S1) = 4 := aNew_N
      have cg := cGat_in (R := R) (m := (k : Int)) (c 4)
      obtain ⟨M13, e13⟩ : ∃ x, mW (aU M (aX S1) (fun _ => 0)) (aX S1) 0 ((aU M (aX S1) (fun _ => 0)) (A 3 k) 0) = x := ⟨_, rfl⟩
      obtain ⟨M36, e36⟩ : ∃ x, mW (mW (mW M13 (aX S1) 1 (M13 (A 3 k) 1)) (aX S1) 2 (cGat R (k : Int) (c 4))) (aX S1) 3 ((mW (mW M13 (aX S1) 1 (M13 (A 3 k) 1)) (aX S1) 2 (cGat R (k : Int) (c 4))) (A 3 k) 2) = x := ⟨_, rfl⟩
      refine kX8_isSame_104 hS1.kd (hS1.pT 3 (by decide) (by decide)) (hS1.dT 3 (by decide) (by decide)) ⟨by omega, by omega⟩ ⟨by omega, by rw [hS1.nT 3 (by decide) (by decide)]; omega⟩ (hS1.pA 3 k (by decide) (by decide) hm) (hS1.dA 3 k (by decide) (by decide) hm) ⟨by decide, by rw [nA, w3]; decide⟩ rK ⟨by decide, by rw [rN]; decide⟩ e13 ⟨by decide, by rw [nA, w3]; decide⟩ ⟨by decide, by rw [rN]; decide⟩ ⟨by decide, by rw [rN]; decide⟩ ⟨by decide, by rw [nA, w3]; decide⟩ ⟨by decide, by rw [rN]; decide⟩ e36 ?_
      have hM := hB.cc.m
      have hR13 : RM M13 := by rw [← e13]; exact hM.nw.w (hM.nw _ _)
      have hR36 : RM M36 := by
        have h1 : RM (mW (mW M13 (aX S1) 1 (M13 (A 3 k) 1)) (aX S1) 2 (cGat R (k : Int) (c 4))) := (hR13.w (hR13 _ _)).w ⟨by omega, by omega⟩
        rw [← e36]
        exact h1.w (h1 _ _)
      have hf36 : ∀ b, b < aX S1 → M36 b = M b := fun b hb => by
        have hne : b ≠ aX S1 := by omega
        rw [← e36, mW_ne hne, mW_ne hne, mW_ne hne, ← e13, mW_ne hne, aU_ne _ _ hne]
      have hv : ∀ q : Nat, q < 4 → M36 (aX S1) q = nz (cMile R W k (q : Int)) := by
        intro q hq
        have v0 : M (A 3 k) 0 = R 4 k := hB.sm.v.r 3 k 0 hm (by decide)
        have v1 : M (A 3 k) 1 = W 1 k := hB.sm.v.w 3 k 1 hm (by decide)
        have v2 : M (A 3 k) 2 = W 2 k := hB.sm.v.w 3 k 2 hm (by decide)
        have q2 : (R 0 2).toNat = c 4 := by have := hB.sm.v.n; omega
        rw [← e36, mW_row, mW_row, mW_row, mW_ne hA, mW_ne hA, ← e13, mW_row, mW_ne hA, aU_self, aU_ne _ _ hA, v0, v1, v2]
        rcases (by omega : q = 0 ∨ q = 1 ∨ q = 2 ∨ q = 3) with g | g | g | g
        all_goals subst g
        · exact (nz_eq (hB.cc.rR _ _)).symm
        · exact (nz_eq (hB.cc.wR _ _)).symm
        · show _ = nz (cGat R (k : Int) (R 0 2).toNat)
          rw [q2]
          exact (nz_eq ⟨by omega, by omega⟩).symm
        · exact (nz_eq (hB.cc.wR _ _)).symm
      have hB1 := hB.ext hx hR36 hf36
      have hin : ∀ (n i : Nat), i + n = 4 → (∀ o7, X E d fX8_isSame 183 [some (.ref s), some (.ref cl), o2, some (J w), some (J (k : Int)), some (J (cGat R (k : Int) (c 4))), some (.ref (aX S1)), o7, o8, o9] [] (aNew S1 100 4 4) (mI M36) Q) →
          X E d fX8_isSame 153 [some (.ref s), some (.ref cl), o2, some (J w), some (J (k : Int)), some (J (cGat R (k : Int) (c 4))), some (.ref (aX S1)), some (J (i : Int)), o8, o9] [] (aNew S1 100 4 4) (mI M36) Q := by
        intro n
        induction n with
        | zero =>
          intro i hi k2
          exact kX8_isSame_153 ⟨by omega, by omega⟩ (fun _ => k2 _) (fun h => absurd h (by omega))
        | succ n ih2 =>
          intro i hi k2
          refine kX8_isSame_153 ⟨by omega, by omega⟩ (fun h => absurd h (by omega)) (fun _ => ?_)
          refine kX8_isSame_159 (by omega) (aMile hB1.cc (by omega) (by have := hB.sm.v.n; omega) ⟨by omega, by omega⟩ ⟨_, rfl, ?_⟩) hB1.cc.w.c.kd
          rw [← J_nz (cMile R W k (i : Int))]
          refine kX8_isSame_167 (t0 := nz (cMile R W k (i : Int))) rD ⟨by omega, by omega⟩ ⟨by omega, by omega⟩ (nz_R _) (hR36 _ _) (fun _ => ?_) (fun h => absurd ?_ h)
          · exact kX8_isSame_177 (ih2 (i + 1) (by omega) k2)
          · rw [Int.toNat_natCast, hv i (by omega)]
      refine hin 4 0 (by omega) (fun o7 => ?_)
      have e1 : M36 (A 3 k) 1 = W 1 k := hB1.sm.v.w 3 k 1 hm (by decide)
      refine kX8_isSame_183 hS1.kd (hS1.pT 3 (by decide) (by decide)) (hS1.dT 3 (by decide) (by decide)) ⟨by omega, by omega⟩ ⟨by omega, by rw [hS1.nT 3 (by decide) (by decide)]; omega⟩ (hS1.pA 3 k (by decide) (by decide) hm) (hS1.dA 3 k (by decide) (by decide) hm) ⟨by decide, by rw [nA, w3]; decide⟩ (by omega) (mX8_least hS1 hB1.sm.v hR36 ⟨by decide, by decide⟩ ⟨_, rfl, ?_⟩)
      rw [e1]
      have hLR := hLst_R (R := R) (x := -1) hB.cc.wR (c 3)
      refine kX8_isSame_197 (t0 := hLst R W (-1) (c 3)) (t1 := W 1 k) (hB.cc.wR _ _) hLR (fun hne => ?_) (fun he => ?_)
      · exact kX8_isSame_203 (ih _ _ w _ _ _ _ _ _ (by omega) (by show aX S1 + 1 + k ≤ _; omega) (by show aZ S1 + 4 + 4 * k ≤ _; omega) hB1 (by
          rcases hw with ⟨g1, g2⟩ | ⟨g1, g2, g3, g4⟩
          · refine Or.inl ⟨g1, fun m hm1 hm2 => ?_⟩
            by_cases e : m = k
            · subst e; exact hne
            · exact g2 m (by omega) hm2
          · refine Or.inr ⟨by omega, g2, g3, fun m hm1 hm2 => ?_⟩
            by_cases e : m = k
            · subst e; exact hne
            · exact g4 m (by omega) hm2))
      · exact kX8_isSame_200 (kX8_isSame_203 (ih _ _ (k : Int) _ _ _ _ _ _ (by omega) (by show aX S1 + 1 + k ≤ _; omega) (by show aZ S1 + 4 + 4 * k ≤ _; omega) hB1 (Or.inr ⟨by omega, by omega, by rw [Int.toNat_natCast]; exact he, fun m hm1 hm2 => absurd hm2 (by omega)⟩)))
  exact hl (c 3) S M (-1) _ _ _ _ _ _ (Nat.le_refl _) (Nat.le_refl _) (Nat.le_refl _) h (Or.inl ⟨rfl, fun m g1 g2 => absurd g2 (by omega)⟩)
end C27
