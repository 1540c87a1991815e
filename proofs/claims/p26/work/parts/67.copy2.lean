/-! contracts of the law's road: a copy of it -/
section C24
variable {E : Nat → Value} {d : Nat} {S : aS} {M : Nat → Nat → Int} {Q : Option (Option Value) → aS → aI → Prop} {s : Nat} {T : Nat → Nat} {A : Nat → Nat → Nat} {c : Nat → Nat} {R W O : Nat → Nat → Int}
/-- where the copy's tables and rows lie: behind r; the orders are the old ones -/
def cpT (T c : Nat → Nat) (r j : Nat) : Nat := if j = 2 then r else if j = 3 then r + 1 + c 2 else if j = 4 then r + 1 + c 2 + 1 + c 3 else if j = 5 then r + 1 + c 2 + 1 + c 3 + 1 + c 4 else T 6
def cpA (T : Nat → Nat) (A : Nat → Nat → Nat) (c : Nat → Nat) (r j k : Nat) : Nat := if j = 6 then A 6 k else cpT T c r j + 1 + k
theorem cpT2 {r : Nat} : cpT T c r 2 = r := rfl
theorem cpT3 {r : Nat} : cpT T c r 3 = r + 1 + c 2 := rfl
theorem cpT4 {r : Nat} : cpT T c r 4 = r + 1 + c 2 + 1 + c 3 := rfl
theorem cpT5 {r : Nat} : cpT T c r 5 = r + 1 + c 2 + 1 + c 3 + 1 + c 4 := rfl
theorem cpT6 {r : Nat} : cpT T c r 6 = T 6 := rfl
theorem j26 {j : Nat} (h2 : 2 ≤ j) (h6 : j ≤ 6) : j = 2 ∨ j = 3 ∨ j = 4 ∨ j = 5 ∨ j = 6 := by omega
set_option maxHeartbeats 8000000 in
theorem mX8_copy (hS : SmS S s T A c) (hL : SmL S s T A c) (hV : SmV M s A c R W O) (hM : RM M) (hd : 1 ≤ d)
    (k : ∀ S' M', aExt S S' → RM M' → (∀ b, b < aX S → M' b = M b) → aX S' = aX S + 6 + (1 + c 2) + (1 + c 3) + (1 + c 4) + (1 + c 5) → aZ S' = aZ S + 9 + 4 * c 2 + 4 * c 3 + 7 * c 4 + 9 * c 5 → SmS S' (aX S) (cpT T c (aX S + 6)) (cpA T A c (aX S + 6)) c → SmL S' (aX S) (cpT T c (aX S + 6)) (cpA T A c (aX S + 6)) c → SmV M' (aX S) (cpA T A c (aX S + 6)) c R W O →
      Q (some (some (.ref (aX S)))) S' (mI M')) :
    X E d fX8_copy 0 [some (.ref s), none] [] S (mI M) Q := by
  have hcc := hS.c
  have h0 := hL.1
  have hT : ∀ j, 2 ≤ j → j ≤ 6 → ∀ {S' : aS}, aExt S S' → aP S' s j = some (T j) ∧ aKd S' (T j) = 102 ∧ aN S' (T j) = c j ∧ (∀ k, k < c j → aP S' (T j) k = some (A j k)) ∧ (∀ k, k < c j → A j k < aX S' ∧ aKd S' (A j k) = 100 ∧ aN S' (A j k) = wd j) ∧ T j < aX S' ∧ aKd S' s = 10 := fun j h2 h6 S' hx =>
    have hS' := hS.ext hL hx
    have hL' := hL.ext hx.1
    ⟨hS'.pT j h2 h6, hS'.dT j h2 h6, hS'.nT j h2 h6, fun k hk => hS'.pA j k h2 h6 hk, fun k hk => ⟨hL'.2.2 j k h2 h6 hk, hS'.dA j k h2 h6 hk, hS'.nA j k h2 h6 hk⟩, hL'.2.1 j h2 h6, hS'.kd⟩
  have hb2 : c 2 ≤ 1000 := by omega
  have hb3 : c 3 ≤ 1000 := by omega
  have hb4 : c 4 ≤ 1000 := by omega
  have hb5 : c 5 ≤ 1000 := by omega
  refine kX8_copy_0 hd (mX8_init (a := aX S) (Nat.lt_succ_self _) aNew_K hM.nw (fun S1 M1 hX1 hZ1 hE1 hM1 hf1 m0 m1 m7 => ⟨none, rfl, ?_⟩))
  have hX1 : aX S1 = aX S + 6 := by rw [hX1]; rfl
  have hZ1 : aZ S1 = aZ S + 9 := by rw [hZ1]; rfl
  have hx1 : aExt S S1 := ⟨by omega, fun b hb => by
    have hb1 : b < aX (aNew S 10 9 9) := Nat.lt_succ_of_lt hb
    have h := hE1.2 b hb1
    exact ⟨h.1.trans (nK_lt hb), h.2.1.trans (nN_lt hb), (h.2.2 (by omega)).trans (nP_lt hb)⟩⟩
  have k1 : aK S1 (aX S) = 10 := (hE1.2 (aX S) (Nat.lt_succ_self _)).1.trans aNew_K
  have hf1 : ∀ b, b < aX S → M1 b = M b := fun b hb => (hf1 b (Nat.lt_succ_of_lt hb) (by omega)).trans (aU_lt _ _ hb)
  have t2 := hT 2 (by decide) (by decide) hx1
  refine kX8_copy_7 (u0 := aX S) t2.2.2.2.2.2.2 k1 t2.1 hd ?_
  have hsne : s ≠ aX S := by omega
  rw [mW_ne hsne]
  generalize hM2e : mW (mW M1 (aX S) 0 (M1 s 0)) (aX S) 1 (M1 s 1) = M2
  have hM2 : RM M2 := by rw [← hM2e]; exact (hM1.w (hM1 _ _)).w (hM1 _ _)
  have hf2 : ∀ b, b < aX S → M2 b = M b := fun b hb => by rw [← hM2e, mW_ne (by omega), mW_ne (by omega), hf1 b hb]
  have n0 : M2 (aX S) 0 = M s 0 := by rw [← hM2e, mW_at (by decide), mW_self, hf1 s h0]
  have n1 : M2 (aX S) 1 = M s 1 := by rw [← hM2e, mW_self, hf1 s h0]
  have n7 : M2 (aX S) 7 = -1 := by rw [← hM2e, mW_at (by decide), mW_at (by decide), m7]
  -- the stretches
  refine mX8_same (w := wd 2) t2.2.2.2.2.2.1 t2.2.1 t2.2.2.1 t2.2.2.2.1 t2.2.2.2.2.1 hb2 (by decide) hM2 (fun S2 M3 hx2 hX2 hZ2 tb2 hM3 hf3 c2 => ⟨_, rfl, ?_⟩)
  have hxa := hx1.trans hx2
  have ke2 : aK S2 (aX S) = 10 := (hx2.2 _ (by omega)).1.trans k1
  have hxp : aExt S (aPut S2 (aX S) 2 (some (aX S1))) := hxa.put (Nat.le_refl _)
  have t3 := hT 3 (by decide) (by decide) hxp
  refine kX8_copy_32 (u0 := aX S1) (u1 := aX S) ke2 ((hT 3 (by decide) (by decide) hxa).2.2.2.2.2.2) t3.1 hd ?_
  have hfa3 : ∀ b, b < aX S → M3 b = M b := fun b hb => (hf3 b (by omega)).trans (hf2 b hb)
  have tb2 := tb2.put (a := aX S) (j := 2) (q := some (aX S1)) (by omega)
  have q2 : aP (aPut S2 (aX S) 2 (some (aX S1))) (aX S) 2 = some (aX S1) := aPut_self
  have hXp : aX (aPut S2 (aX S) 2 (some (aX S1))) = aX S2 := rfl
  have hZp : aZ (aPut S2 (aX S) 2 (some (aX S1))) = aZ S2 := rfl
  have ke2 : aK (aPut S2 (aX S) 2 (some (aX S1))) (aX S) = 10 := ke2
  generalize aPut S2 (aX S) 2 (some (aX S1)) = P2 at *
  -- the miles
  refine mX8_same (w := wd 3) t3.2.2.2.2.2.1 t3.2.1 t3.2.2.1 t3.2.2.2.1 t3.2.2.2.2.1 hb3 (by decide) hM3 (fun S3 M4 hx3 hX3 hZ3 tb3 hM4 hf4 c3 => ⟨_, rfl, ?_⟩)
  have hxa := hxp.trans hx3
  have ke3 : aK S3 (aX S) = 10 := (hx3.2 _ (by omega)).1.trans ke2
  have hxp3 : aExt S (aPut S3 (aX S) 3 (some (aX P2))) := hxa.put (Nat.le_refl _)
  have t4 := hT 4 (by decide) (by decide) hxp3
  refine kX8_copy_43 (u0 := aX P2) (u1 := aX S) ke3 ((hT 3 (by decide) (by decide) hxa).2.2.2.2.2.2) t4.1 hd ?_
  have hfa4 : ∀ b, b < aX S → M4 b = M b := fun b hb => (hf4 b (by omega)).trans (hfa3 b hb)
  have tb2 := (tb2.ext hx3 (by omega)).put (a := aX S) (j := 3) (q := some (aX P2)) (by omega)
  have tb3 := tb3.put (a := aX S) (j := 3) (q := some (aX P2)) (by omega)
  have q2 : aP (aPut S3 (aX S) 3 (some (aX P2))) (aX S) 2 = some (aX S1) := (aPut_at (by decide)).trans ((congrFun (hx3.2 (aX S) (by omega)).2.2 2).trans q2)
  have q3 : aP (aPut S3 (aX S) 3 (some (aX P2))) (aX S) 3 = some (aX P2) := aPut_self
  have hXp3 : aX (aPut S3 (aX S) 3 (some (aX P2))) = aX S3 := rfl
  have hZp3 : aZ (aPut S3 (aX S) 3 (some (aX P2))) = aZ S3 := rfl
  have ke3 : aK (aPut S3 (aX S) 3 (some (aX P2))) (aX S) = 10 := ke3
  generalize aPut S3 (aX S) 3 (some (aX P2)) = P3 at *
  -- the gates
  refine mX8_same (w := wd 4) t4.2.2.2.2.2.1 t4.2.1 t4.2.2.1 t4.2.2.2.1 t4.2.2.2.2.1 hb4 (by decide) hM4 (fun S4 M5 hx4 hX4 hZ4 tb4 hM5 hf5 c4 => ⟨_, rfl, ?_⟩)
  have hxa := hxp3.trans hx4
  have ke4 : aK S4 (aX S) = 10 := (hx4.2 _ (by omega)).1.trans ke3
  have hxp4 : aExt S (aPut S4 (aX S) 4 (some (aX P3))) := hxa.put (Nat.le_refl _)
  have t5 := hT 5 (by decide) (by decide) hxp4
  refine kX8_copy_54 (u0 := aX P3) (u1 := aX S) ke4 ((hT 3 (by decide) (by decide) hxa).2.2.2.2.2.2) t5.1 hd ?_
  have hfa5 : ∀ b, b < aX S → M5 b = M b := fun b hb => (hf5 b (by omega)).trans (hfa4 b hb)
  have tb2 := (tb2.ext hx4 (by omega)).put (a := aX S) (j := 4) (q := some (aX P3)) (by omega)
  have tb3 := (tb3.ext hx4 (by omega)).put (a := aX S) (j := 4) (q := some (aX P3)) (by omega)
  have tb4 := tb4.put (a := aX S) (j := 4) (q := some (aX P3)) (by omega)
  have q2 : aP (aPut S4 (aX S) 4 (some (aX P3))) (aX S) 2 = some (aX S1) := (aPut_at (by decide)).trans ((congrFun (hx4.2 (aX S) (by omega)).2.2 2).trans q2)
  have q3 : aP (aPut S4 (aX S) 4 (some (aX P3))) (aX S) 3 = some (aX P2) := (aPut_at (by decide)).trans ((congrFun (hx4.2 (aX S) (by omega)).2.2 3).trans q3)
  have q4 : aP (aPut S4 (aX S) 4 (some (aX P3))) (aX S) 4 = some (aX P3) := aPut_self
  have hXp4 : aX (aPut S4 (aX S) 4 (some (aX P3))) = aX S4 := rfl
  have hZp4 : aZ (aPut S4 (aX S) 4 (some (aX P3))) = aZ S4 := rfl
  have ke4 : aK (aPut S4 (aX S) 4 (some (aX P3))) (aX S) = 10 := ke4
  generalize aPut S4 (aX S) 4 (some (aX P3)) = P4 at *
  -- the traffics
  refine mX8_same (w := wd 5) t5.2.2.2.2.2.1 t5.2.1 t5.2.2.1 t5.2.2.2.1 t5.2.2.2.2.1 hb5 (by decide) hM5 (fun S5 M6 hx5 hX5 hZ5 tb5 hM6 hf6 c5 => ⟨_, rfl, ?_⟩)
  have hxa := hxp4.trans hx5
  have ke5 : aK S5 (aX S) = 10 := (hx5.2 _ (by omega)).1.trans ke4
  have hxp5 : aExt S (aPut S5 (aX S) 5 (some (aX P4))) := hxa.put (Nat.le_refl _)
  have t6 := hT 6 (by decide) (by decide) hxp5
  refine kX8_copy_65 (u0 := aX P4) (u1 := aX S) ke5 ((hT 3 (by decide) (by decide) hxa).2.2.2.2.2.2) t6.1 ke5 ?_
  have hfa6 : ∀ b, b < aX S → M6 b = M b := fun b hb => (hf6 b (by omega)).trans (hfa5 b hb)
  have tb2 := ((tb2.ext hx5 (by omega)).put (a := aX S) (j := 5) (q := some (aX P4)) (by omega)).put (a := aX S) (j := 6) (q := some (T 6)) (by omega)
  have tb3 := ((tb3.ext hx5 (by omega)).put (a := aX S) (j := 5) (q := some (aX P4)) (by omega)).put (a := aX S) (j := 6) (q := some (T 6)) (by omega)
  have tb4 := ((tb4.ext hx5 (by omega)).put (a := aX S) (j := 5) (q := some (aX P4)) (by omega)).put (a := aX S) (j := 6) (q := some (T 6)) (by omega)
  have tb5 := (tb5.put (a := aX S) (j := 5) (q := some (aX P4)) (by omega)).put (a := aX S) (j := 6) (q := some (T 6)) (by omega)
  have q2 : aP (aPut (aPut S5 (aX S) 5 (some (aX P4))) (aX S) 6 (some (T 6))) (aX S) 2 = some (aX S1) := (aPut_at (by decide)).trans ((aPut_at (by decide)).trans ((congrFun (hx5.2 (aX S) (by omega)).2.2 2).trans q2))
  have q3 : aP (aPut (aPut S5 (aX S) 5 (some (aX P4))) (aX S) 6 (some (T 6))) (aX S) 3 = some (aX P2) := (aPut_at (by decide)).trans ((aPut_at (by decide)).trans ((congrFun (hx5.2 (aX S) (by omega)).2.2 3).trans q3))
  have q4 : aP (aPut (aPut S5 (aX S) 5 (some (aX P4))) (aX S) 6 (some (T 6))) (aX S) 4 = some (aX P3) := (aPut_at (by decide)).trans ((aPut_at (by decide)).trans ((congrFun (hx5.2 (aX S) (by omega)).2.2 4).trans q4))
  have q5 : aP (aPut (aPut S5 (aX S) 5 (some (aX P4))) (aX S) 6 (some (T 6))) (aX S) 5 = some (aX P4) := (aPut_at (by decide)).trans aPut_self
  have q6 : aP (aPut (aPut S5 (aX S) 5 (some (aX P4))) (aX S) 6 (some (T 6))) (aX S) 6 = some (T 6) := aPut_self
  have hxf : aExt S (aPut (aPut S5 (aX S) 5 (some (aX P4))) (aX S) 6 (some (T 6))) := hxp5.put (Nat.le_refl _)
  have hXf : aX (aPut (aPut S5 (aX S) 5 (some (aX P4))) (aX S) 6 (some (T 6))) = aX S5 := rfl
  have hZf : aZ (aPut (aPut S5 (aX S) 5 (some (aX P4))) (aX S) 6 (some (T 6))) = aZ S5 := rfl
  have kef : aK (aPut (aPut S5 (aX S) 5 (some (aX P4))) (aX S) 6 (some (T 6))) (aX S) = 10 := ke5
  generalize aPut (aPut S5 (aX S) 5 (some (aX P4))) (aX S) 6 (some (T 6)) = P5 at *
  have e3 : aX P2 = aX S + 6 + 1 + c 2 := by omega
  have e4 : aX P3 = aX S + 6 + 1 + c 2 + 1 + c 3 := by omega
  have e5 : aX P4 = aX S + 6 + 1 + c 2 + 1 + c 3 + 1 + c 4 := by omega
  rw [hX1] at tb2 q2 c2
  rw [e3] at tb3 q3 c3
  rw [e4] at tb4 q4 c4
  rw [e5] at tb5 q5 c5
  have t6 := hT 6 (by decide) (by decide) hxf
  have hS6 := hS.ext hL hxf
  have hL6 := hL.ext hxf.1
  have tb : ∀ j, 2 ≤ j → j ≤ 5 → Tb P5 (cpT T c (aX S + 6) j) (c j) (wd j) ∧ aX S + 6 ≤ cpT T c (aX S + 6) j ∧ cpT T c (aX S + 6) j + c j < aX P5 := by
    intro j h2 h5
    rcases (by omega : j = 2 ∨ j = 3 ∨ j = 4 ∨ j = 5) with rfl | rfl | rfl | rfl
    · exact ⟨tb2, by rw [cpT2]; omega, by rw [cpT2]; omega⟩
    · exact ⟨tb3, by rw [cpT3]; omega, by rw [cpT3]; omega⟩
    · exact ⟨tb4, by rw [cpT4]; omega, by rw [cpT4]; omega⟩
    · exact ⟨tb5, by rw [cpT5]; omega, by rw [cpT5]; omega⟩
  have eA : ∀ j k, j ≠ 6 → cpA T A c (aX S + 6) j k = cpT T c (aX S + 6) j + 1 + k := fun j k h => if_neg h
  have eA6 : ∀ k, cpA T A c (aX S + 6) 6 k = A 6 k := fun k => if_pos rfl
  have vals : ∀ j k q, 2 ≤ j → j ≤ 5 → k < c j → q < wd j → M6 (cpA T A c (aX S + 6) j k) q = M (A j k) q := by
    intro j k q h2 h5 hk hq
    have hlt := hL.2.2 j k h2 (by omega) hk
    rw [eA j k (by omega)]
    rcases (by omega : j = 2 ∨ j = 3 ∨ j = 4 ∨ j = 5) with rfl | rfl | rfl | rfl
    · rw [cpT2, hf6 _ (by omega), hf5 _ (by omega), hf4 _ (by omega), c2 k q hk hq, hf2 _ hlt]
    · rw [cpT3, hf6 _ (by omega), hf5 _ (by omega), c3 k q hk hq, hfa3 _ hlt]
    · rw [cpT4, hf6 _ (by omega), c4 k q hk hq, hfa4 _ hlt]
    · rw [cpT5, c5 k q hk hq, hfa5 _ hlt]
  have v0 : ∀ q, M6 (aX S) q = M2 (aX S) q := fun q => by rw [hf6 _ (by omega), hf5 _ (by omega), hf4 _ (by omega), hf3 _ (by omega)]
  have wl : ∀ {j q : Nat}, lk j q ≠ 0 → q < wd j := by
    intro j q h
    unfold lk at h
    unfold wd
    (repeat' split at h) <;> (repeat' split) <;> omega
  have wr : ∀ {j q : Nat}, lr j q ≠ 0 → q < wd j := by
    intro j q h
    unfold lr at h
    unfold wd
    (repeat' split at h) <;> (repeat' split) <;> omega
  have y2 : wd 2 = 3 := rfl
  have y3 : wd 3 = 3 := rfl
  have y4 : wd 4 = 6 := rfl
  have y5 : wd 5 = 8 := rfl
  rw [y2] at hZ2
  rw [y3] at hZ3
  rw [y4] at hZ4
  rw [y5] at hZ5
  refine k P5 M6 hxf hM6 hfa6 (by omega) (by omega) ?_ ?_ ?_
  · refine ⟨kef, by unfold aKd; rw [kef], ?_, ?_, ?_, ?_, ?_, ?_, ?_, ?_, ?_, hcc⟩
    · intro j h2 h6
      rcases j26 h2 h6 with rfl | rfl | rfl | rfl | rfl
      · exact q2
      · exact q3
      · exact q4
      · exact q5
      · exact q6
    · intro j h2 h6
      by_cases h : j = 6
      · subst h; exact t6.2.1
      · unfold aKd; rw [(tb j h2 (by omega)).1.1]
    · intro j h2 h6
      by_cases h : j = 6
      · subst h; exact t6.2.2.1
      · exact (tb j h2 (by omega)).1.2.1
    · intro j k h2 h6 hk
      by_cases h : j = 6
      · subst h; rw [eA6]; exact t6.2.2.2.1 k hk
      · rw [eA j k h]; exact ((tb j h2 (by omega)).1.2.2 k hk).1
    · intro j k h2 h6 hk
      by_cases h : j = 6
      · subst h; rw [eA6]; exact hS6.aA 6 k h2 h6 hk
      · rw [eA j k h]; exact ((tb j h2 (by omega)).1.2.2 k hk).2.1
    · intro j k h2 h6 hk
      by_cases h : j = 6
      · subst h; rw [eA6]; exact hS6.dA 6 k h2 h6 hk
      · rw [eA j k h]; unfold aKd; rw [((tb j h2 (by omega)).1.2.2 k hk).2.1]
    · intro j k h2 h6 hk
      by_cases h : j = 6
      · subst h; rw [eA6]; exact hS6.nA 6 k h2 h6 hk
      · rw [eA j k h]; exact ((tb j h2 (by omega)).1.2.2 k hk).2.2
    · intro j k h2 h6 hk
      by_cases h : j = 6
      · subst h; rw [eA6]
        have := hL.2.2 6 k h2 h6 hk
        omega
      · rw [eA j k h]
        have := (tb j h2 (by omega)).2.1
        omega
    · intro j k j' k' h2 h6 hk h2' h6' hk' he
      by_cases h : j = 6
      · subst h
        rw [eA6] at he
        have g1 := hL.2.2 6 k h2 h6 hk
        by_cases h' : j' = 6
        · subst h'
          rw [eA6] at he
          exact hS.inj 6 k 6 k' h2 h6 hk h2' h6' hk' he
        · rw [eA j' k' h'] at he
          have := (tb j' h2' (by omega)).2.1
          omega
      · rw [eA j k h] at he
        have g1 := (tb j h2 (by omega)).2.1
        by_cases h' : j' = 6
        · subst h'
          rw [eA6] at he
          have g2 := hL.2.2 6 k' h2' h6' hk'
          omega
        · rw [eA j' k' h'] at he
          rcases (by omega : j = 2 ∨ j = 3 ∨ j = 4 ∨ j = 5) with rfl | rfl | rfl | rfl <;> rcases (by omega : j' = 2 ∨ j' = 3 ∨ j' = 4 ∨ j' = 5) with rfl | rfl | rfl | rfl <;> simp only [cpT2, cpT3, cpT4, cpT5] at he <;> omega
  · refine ⟨by omega, fun j h2 h6 => ?_, fun j k h2 h6 hk => ?_⟩
    · by_cases h : j = 6
      · subst h; exact t6.2.2.2.2.2.1
      · have := (tb j h2 (by omega)).2.2
        omega
    · by_cases h : j = 6
      · subst h; rw [eA6]; exact hL6.2.2 6 k h2 h6 hk
      · rw [eA j k h]
        have := (tb j h2 (by omega)).2.2
        omega
  · refine ⟨?_, ?_, ?_, ?_, ?_, ?_, hV.n⟩
    · rw [v0, n0]; exact hV.day
    · rw [v0, n1]; exact hV.coins
    · rw [v0, n7]
    · intro j k q hk hq
      have hj := lk_lr hq
      rw [vals j k q hj.2.1 hj.2.2 hk (wl hq)]
      exact hV.w j k q hk hq
    · intro j k q hk hq
      have hj := lr_j hq
      rw [vals j k q hj.1 hj.2 hk (wr hq)]
      exact hV.r j k q hk hq
    · intro k q hk
      rw [eA6, hfa6 _ (hL.2.2 6 k (by omega) (by omega) hk)]
      exact hV.o k q hk
end C24
