/-! contracts of the law's road: what an order's sum is worth, whether its test holds -/
section C9
variable {E : Nat → Value} {d : Nat} {S : aS} {M : Nat → Nat → Int} {Q : Option (Option Value) → aS → aI → Prop} {s : Nat} {T : Nat → Nat} {A : Nat → Nat → Nat} {c : Nat → Nat} {R W O : Nat → Nat → Int}
def hSum (R W : Nat → Nat → Int) (o : Nat → Int) : Int :=
  if o 2 = 0 then o 3 else if o 2 = 1 then (W 0 3).tdiv 9 else if o 2 = 2 then 100 - hLst R W (o 7) (R 0 1).toNat
  else if o 2 = 3 then (min (hCond R W (o 6)) (o 3)).tdiv 3 else if o 2 = 4 then max (W 6 (o 8).toNat) 0 + (o 3).tdiv 9 else W 0 2 - o 3
def hHold (R W : Nat → Nat → Int) (o : Nat → Int) : Bool :=
  if o 4 = -1 then true else if o 4 = 0 then decide ((o 5).tdiv 4 < W 0 2) else if o 4 = 1 then decide (0 ≤ W 7 (o 8).toNat)
  else if o 4 = 2 then decide (hBrk R W (o 7) (R 0 1).toNat = 0 ∨ o 5 < W 0 3) else if o 4 = 3 then decide (hLst R W (o 7) (R 0 1).toNat < o 5)
  else if o 4 = 4 then decide (2 * o 5 ≤ W 5 (o 8).toNat ∧ W 7 (o 8).toNat < 0)
  else if o 4 = 5 then decide ((hCond R W (o 6) < o 5 ∨ (W 0 2).tmod 2 = 0) ∧ W 10 (o 9).toNat < o 5)
  else if o 4 = 6 then decide (W 6 (o 8).toNat < 0) else decide ((o 5).tmod 2 = 0)
theorem hHold_0 {o : Nat → Int} (h : o 4 = -1) : hHold R W o = true := by
  unfold hHold
  rw [if_pos h]
theorem hHold_1 {o : Nat → Int} (h : o 4 = 0) : hHold R W o = decide ((o 5).tdiv 4 < W 0 2) := by
  unfold hHold
  rw [if_neg (by omega), if_pos h]
theorem hHold_2 {o : Nat → Int} (h : o 4 = 1) : hHold R W o = decide (0 ≤ W 7 (o 8).toNat) := by
  unfold hHold
  rw [if_neg (by omega), if_neg (by omega), if_pos h]
theorem hHold_3 {o : Nat → Int} (h : o 4 = 2) : hHold R W o = decide (hBrk R W (o 7) (R 0 1).toNat = 0 ∨ o 5 < W 0 3) := by
  unfold hHold
  rw [if_neg (by omega), if_neg (by omega), if_neg (by omega), if_pos h]
theorem hHold_4 {o : Nat → Int} (h : o 4 = 3) : hHold R W o = decide (hLst R W (o 7) (R 0 1).toNat < o 5) := by
  unfold hHold
  rw [if_neg (by omega), if_neg (by omega), if_neg (by omega), if_neg (by omega), if_pos h]
theorem hHold_5 {o : Nat → Int} (h : o 4 = 4) : hHold R W o = decide (2 * o 5 ≤ W 5 (o 8).toNat ∧ W 7 (o 8).toNat < 0) := by
  unfold hHold
  rw [if_neg (by omega), if_neg (by omega), if_neg (by omega), if_neg (by omega), if_neg (by omega), if_pos h]
theorem hHold_6 {o : Nat → Int} (h : o 4 = 5) : hHold R W o = decide ((hCond R W (o 6) < o 5 ∨ (W 0 2).tmod 2 = 0) ∧ W 10 (o 9).toNat < o 5) := by
  unfold hHold
  rw [if_neg (by omega), if_neg (by omega), if_neg (by omega), if_neg (by omega), if_neg (by omega), if_neg (by omega), if_pos h]
theorem hHold_7 {o : Nat → Int} (h : o 4 = 6) : hHold R W o = decide (W 6 (o 8).toNat < 0) := by
  unfold hHold
  rw [if_neg (by omega), if_neg (by omega), if_neg (by omega), if_neg (by omega), if_neg (by omega), if_neg (by omega), if_neg (by omega), if_pos h]
theorem hHold_8 {o : Nat → Int} (h : o 4 ≠ -1 ∧ o 4 ≠ 0 ∧ o 4 ≠ 1 ∧ o 4 ≠ 2 ∧ o 4 ≠ 3 ∧ o 4 ≠ 4 ∧ o 4 ≠ 5 ∧ o 4 ≠ 6) : hHold R W o = decide ((o 5).tmod 2 = 0) := by
  unfold hHold
  rw [if_neg (by omega), if_neg (by omega), if_neg (by omega), if_neg (by omega), if_neg (by omega), if_neg (by omega), if_neg (by omega), if_neg (by omega)]
/-- the numbers of the orders as the list chooses them -/
abbrev OrO (c : Nat → Nat) (O : Nat → Nat → Int) : Prop := ∀ i, i < c 6 → (0 ≤ O i 3 ∧ O i 3 ≤ 99) ∧ (0 ≤ O i 5 ∧ O i 5 ≤ 99) ∧ (0 ≤ O i 6 ∧ O i 6 ≤ 46) ∧ (0 ≤ O i 7 ∧ O i 7 < (c 2 : Int)) ∧ (0 ≤ O i 8 ∧ O i 8 < (c 4 : Int)) ∧ (0 ≤ O i 9 ∧ O i 9 < (c 5 : Int))
theorem hCond_R {x : Int} (hW : ∀ j k, R32 (W j k)) : R32 (hCond R W x) := by
  unfold hCond
  split
  · exact hW _ _
  · exact R32_0
theorem mX8_sum {i : Nat} (hS : SmS S s T A c) (hV : SmV M s A c R W O) (hM : RM M) (hW : ∀ j k, R32 (W j k)) (hO : OrO c O) (hi : i < c 6) (hd : 1 ≤ d) (q : Q (some (some (J (hSum R W (O i))))) S (mI M)) : X E d fX8_sum 0 [some (.ref s), some (.ref (A 6 i)), none] [] S (mI M) Q := by
  have hc := hS.c
  have hn := hV.n
  have n4 := hS.nT 4 (by decide) (by decide)
  have dA := hS.dA 6 i (by decide) (by decide) hi
  have nA : aN S (A 6 i) = 10 := hS.nA 6 i (by decide) (by decide) hi
  have ho := hO i hi
  have e : ∀ q, M (A 6 i) q = O i q := fun q => hV.o i q hi
  have nm : (R 0 1).toNat = c 3 := by omega
  unfold hSum at q
  rw [nm] at q
  refine kX8_sum_0 dA ⟨by omega, by omega⟩ ⟨by omega, by omega⟩ (hM _ _) (fun h => ?_) (fun h => ?_) (fun h => ?_) (fun h => ?_) (fun h => ?_) (fun h => ?_)
  all_goals rw [e] at h
  · rw [if_neg (by omega), if_neg (by omega), if_neg (by omega), if_neg (by omega), if_neg (by omega)] at q
    refine kX8_sum_98 hS.kd ?_
    rw [hV.day, e]
    exact q
  · rw [if_pos h] at q
    rw [e]
    exact kX8_sum_40 q
  · rw [if_neg (by omega), if_pos h] at q
    refine kX8_sum_42 hS.kd (hM _ _) ?_
    rw [hV.coins]
    exact q
  · rw [if_neg (by omega), if_neg (by omega), if_pos h] at q
    refine kX8_sum_50 dA ⟨by omega, by omega⟩ hd ?_ hS.kd
    rw [e]
    exact mX8_least hS hV hM ⟨by omega, by omega⟩ ⟨_, rfl, kX8_sum_60 (t0 := hLst R W (O i 7) (c 3)) (t1 := 100) q⟩
  · rw [if_neg (by omega), if_neg (by omega), if_neg (by omega), if_pos h] at q
    refine kX8_sum_62 dA ⟨by omega, by omega⟩ hd ?_ hS.kd
    rw [e, e]
    have hcr : R32 (hCond R W (O i 6)) := hCond_R hW
    exact mX8_condition hS hV ⟨by omega, by omega⟩ ⟨_, rfl, kX8_sum_70 (t0 := hCond R W (O i 6)) hcr ⟨by omega, by omega⟩ ⟨by omega, by omega⟩ q⟩
  · rw [if_neg (by omega), if_neg (by omega), if_neg (by omega), if_neg (by omega), if_pos h] at q
    have hk : (O i 8).toNat < c 4 := by omega
    have nB : aN S (A 4 (O i 8).toNat) = 6 := hS.nA 4 _ (by decide) (by decide) hk
    refine kX8_sum_77 (b9 := A 4 (O i 8).toNat) hS.kd (hS.pT 4 (by decide) (by decide)) dA ⟨by omega, by omega⟩ (hS.dT 4 (by decide) (by decide)) (hM _ _) ⟨by rw [e]; omega, by rw [e]; omega⟩ (by rw [e]; exact hS.pA 4 _ (by decide) (by decide) hk) (hS.dA 4 _ (by decide) (by decide) hk) ⟨by omega, by omega⟩ (hM _ _) (by rw [e]; exact ⟨by omega, by omega⟩) ?_
    rw [hV.w 4 _ 3 hk (by decide), e]
    exact q
theorem mX8_holds {i : Nat} (hS : SmS S s T A c) (hV : SmV M s A c R W O) (hM : RM M) (hW : ∀ j k, R32 (W j k)) (hO : OrO c O) (hi : i < c 6) (hd : 1 ≤ d) (q : Q (some (some (J (if hHold R W (O i) = true then 1 else 0)))) S (mI M)) : X E d fX8_holds 0 [some (.ref s), some (.ref (A 6 i)), none, none] [] S (mI M) Q := by
  have hc := hS.c
  have hn := hV.n
  have n4 := hS.nT 4 (by decide) (by decide)
  have n5 := hS.nT 5 (by decide) (by decide)
  have dA := hS.dA 6 i (by decide) (by decide) hi
  have nA : aN S (A 6 i) = 10 := hS.nA 6 i (by decide) (by decide) hi
  have ho := hO i hi
  have e : ∀ q, M (A 6 i) q = O i q := fun q => hV.o i q hi
  have nm : (R 0 1).toNat = c 3 := by omega
  have hk : (O i 8).toNat < c 4 := by omega
  have hk5 : (O i 9).toNat < c 5 := by omega
  have nB : aN S (A 4 (O i 8).toNat) = 6 := hS.nA 4 _ (by decide) (by decide) hk
  have dB := hS.dA 4 (O i 8).toNat (by decide) (by decide) hk
  have nC : aN S (A 5 (O i 9).toNat) = 8 := hS.nA 5 _ (by decide) (by decide) hk5
  have w5 : M (A 4 (O i 8).toNat) 2 = W 5 (O i 8).toNat := hV.w 4 _ 2 hk (by decide)
  have w6 : M (A 4 (O i 8).toNat) 3 = W 6 (O i 8).toNat := hV.w 4 _ 3 hk (by decide)
  have w7 : M (A 4 (O i 8).toNat) 4 = W 7 (O i 8).toNat := hV.w 4 _ 4 hk (by decide)
  have w10 : M (A 5 (O i 9).toNat) 5 = W 10 (O i 9).toNat := hV.w 5 _ 5 hk5 (by decide)
  have r5 : R32 (O i 5) := ⟨by omega, by omega⟩
  refine kX8_holds_0 (b11 := A 4 (O i 8).toNat) dA ⟨by omega, by omega⟩ hS.kd (hS.pT 4 (by decide) (by decide)) ⟨by omega, by omega⟩ (hS.dT 4 (by decide) (by decide)) (hM _ _) ⟨by rw [e]; omega, by rw [e]; omega⟩ (by rw [e]; exact hS.pA 4 _ (by decide) (by decide) hk) ⟨by omega, by omega⟩ (hM _ _) (fun h => ?_) (fun h => ?_) (fun h => ?_) (fun h => ?_) (fun h => ?_) (fun h => ?_) (fun h => ?_) (fun h => ?_) (fun h => ?_)
  all_goals rw [e] at h
  all_goals rw [e]
  · rw [hHold_8 h] at q
    simp only [decide_eq_true_eq] at q
    refine kX8_holds_212 r5 ⟨by have := Int.tmod_nonneg 2 ho.2.1.1; omega, by have := Int.tmod_lt_of_pos (O i 5) (b := 2) (by decide); omega⟩ (fun h2 => ?_) (fun h2 => ?_)
    · rw [if_neg h2] at q
      exact kX8_holds_222 (kX8_holds_223 rfl q)
    · rw [if_pos h2] at q
      exact kX8_holds_218 (kX8_holds_223 rfl q)
  · rw [hHold_0 h] at q
    exact kX8_holds_64 q
  · rw [hHold_1 h] at q
    simp only [decide_eq_true_eq] at q
    have hq : 0 ≤ (O i 5).tdiv 4 ∧ (O i 5).tdiv 4 ≤ O i 5 := ⟨Int.tdiv_nonneg (by omega) (by decide), Int.tdiv_le_self _ (by omega)⟩
    refine kX8_holds_66 hS.kd r5 (hM _ _) ⟨by omega, by omega⟩ (fun h2 => ?_) (fun h2 => ?_)
    · rw [hV.day] at h2
      rw [if_neg (by omega)] at q
      exact kX8_holds_80 (kX8_holds_81 rfl q)
    · rw [hV.day] at h2
      rw [if_pos h2] at q
      exact kX8_holds_76 (kX8_holds_81 rfl q)
  · rw [hHold_2 h] at q
    simp only [decide_eq_true_eq] at q
    refine kX8_holds_82 dB ⟨by omega, by omega⟩ (hM _ _) (fun h2 => ?_) (fun h2 => ?_)
    · rw [w7] at h2
      rw [if_neg (by omega)] at q
      exact kX8_holds_92 (kX8_holds_93 rfl q)
    · rw [w7] at h2
      rw [if_pos h2] at q
      exact kX8_holds_88 (kX8_holds_93 rfl q)
  · rw [hHold_3 h, nm] at q
    simp only [decide_eq_true_eq] at q
    refine kX8_holds_94 dA ⟨by omega, by omega⟩ hd ?_ hS.kd
    rw [e]
    have hb := hBrk_in (R := R) (W := W) (x := O i 7) (c 3)
    refine mX8_broken hS hV hM ⟨by omega, by omega⟩ ⟨_, rfl, ?_⟩
    refine kX8_holds_102 (t0 := hBrk R W (O i 7) (c 3)) ⟨by omega, by omega⟩ (fun h2 => ?_) (fun h2 => ?_)
    · rw [if_pos (Or.inl h2)] at q
      exact kX8_holds_113 (kX8_holds_118 rfl q)
    · refine kX8_holds_105 hS.kd (hM _ _) r5 (fun h3 => ?_) (fun h3 => ?_)
      · rw [hV.coins] at h3
        rw [if_neg (by omega)] at q
        exact kX8_holds_117 (kX8_holds_118 rfl q)
      · rw [hV.coins] at h3
        rw [if_pos (Or.inr h3)] at q
        exact kX8_holds_113 (kX8_holds_118 rfl q)
  · rw [hHold_4 h, nm] at q
    simp only [decide_eq_true_eq] at q
    refine kX8_holds_119 dA ⟨by omega, by omega⟩ hd ?_ hS.kd
    rw [e]
    refine mX8_least hS hV hM ⟨by omega, by omega⟩ ⟨_, rfl, ?_⟩
    refine kX8_holds_127 (t0 := hLst R W (O i 7) (c 3)) (hLst_R hW _) r5 (fun h2 => ?_) (fun h2 => ?_)
    · rw [if_neg (by omega)] at q
      exact kX8_holds_135 (kX8_holds_136 rfl q)
    · rw [if_pos h2] at q
      exact kX8_holds_131 (kX8_holds_136 rfl q)
  · rw [hHold_5 h] at q
    simp only [decide_eq_true_eq] at q
    refine kX8_holds_137 dB ⟨by omega, by omega⟩ (hM _ _) ⟨by omega, by omega⟩ (fun h2 => ?_) (fun h2 => ?_)
    · rw [w5] at h2
      rw [if_neg (by omega)] at q
      exact kX8_holds_156 (kX8_holds_157 rfl q)
    · rw [w5] at h2
      refine kX8_holds_146 dB ⟨by omega, by omega⟩ (hM _ _) (fun h3 => ?_) (fun h3 => ?_)
      · rw [w7] at h3
        rw [if_neg (by omega)] at q
        exact kX8_holds_156 (kX8_holds_157 rfl q)
      · rw [w7] at h3
        rw [if_pos ⟨h2, h3⟩] at q
        exact kX8_holds_152 (kX8_holds_157 rfl q)
  · rw [hHold_6 h] at q
    simp only [decide_eq_true_eq] at q
    have no : ¬ ((hCond R W (O i 6) < O i 5 ∨ (W 0 2).tmod 2 = 0) ∧ W 10 (O i 9).toNat < O i 5) → X E d fX8_holds 198 [some (.ref s), some (.ref (A 6 i)), some (J (O i 5)), some (.ref (A 4 (O i 8).toNat))] [] S (mI M) Q := by
      intro hy
      rw [if_neg hy] at q
      exact kX8_holds_198 (kX8_holds_199 rfl q)
    have yes : hCond R W (O i 6) < O i 5 ∨ (W 0 2).tmod 2 = 0 → X E d fX8_holds 179 [some (.ref s), some (.ref (A 6 i)), some (J (O i 5)), some (.ref (A 4 (O i 8).toNat))] [] S (mI M) Q := by
      intro hy
      refine kX8_holds_179 (b9 := A 5 (O i 9).toNat) hS.kd (hS.pT 5 (by decide) (by decide)) dA ⟨by omega, by omega⟩ (hS.dT 5 (by decide) (by decide)) (hM _ _) ⟨by rw [e]; omega, by rw [e]; omega⟩ (by rw [e]; exact hS.pA 5 _ (by decide) (by decide) hk5) (hS.dA 5 _ (by decide) (by decide) hk5) ⟨by omega, by omega⟩ (hM _ _) r5 (fun h2 => ?_) (fun h2 => ?_)
      · rw [w10] at h2
        exact no (fun z => absurd z.2 (by omega))
      · rw [w10] at h2
        rw [if_pos ⟨hy, h2⟩] at q
        exact kX8_holds_194 (kX8_holds_199 rfl q)
    refine kX8_holds_158 dA ⟨by omega, by omega⟩ hd ?_ hS.kd
    rw [e]
    have hcr : R32 (hCond R W (O i 6)) := hCond_R hW
    refine mX8_condition hS hV ⟨by omega, by omega⟩ ⟨_, rfl, ?_⟩
    refine kX8_holds_166 (t0 := hCond R W (O i 6)) hcr r5 (fun h2 => yes (Or.inl h2)) (fun h2 => ?_)
    have hmo : R32 ((M s 0).tmod 2) := by
      have z1 := Int.tmod_lt_of_pos (M s 0) (b := 2) (by decide)
      have z2 := Int.lt_tmod_of_pos (M s 0) (b := 2) (by decide)
      exact ⟨by omega, by omega⟩
    refine kX8_holds_170 hS.kd (hM _ _) hmo (fun h3 => ?_) (fun h3 => ?_)
    · rw [hV.day] at h3
      exact no (fun z => z.1.elim (fun y => absurd y (by omega)) h3)
    · rw [hV.day] at h3
      exact yes (Or.inr h3)
  · rw [hHold_7 h] at q
    simp only [decide_eq_true_eq] at q
    refine kX8_holds_200 dB ⟨by omega, by omega⟩ (hM _ _) (fun h2 => ?_) (fun h2 => ?_)
    · rw [w6] at h2
      rw [if_neg (by omega)] at q
      exact kX8_holds_210 (kX8_holds_211 rfl q)
    · rw [w6] at h2
      rw [if_pos h2] at q
      exact kX8_holds_206 (kX8_holds_211 rfl q)
end C9
