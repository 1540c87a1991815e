/-! contracts of the law's road: its counts -/
section C26
variable {E : Nat → Value} {d : Nat} {S : aS} {M : Nat → Nat → Int} {Q : Option (Option Value) → aS → aI → Prop} {s : Nat} {T : Nat → Nat} {A : Nat → Nat → Nat} {c : Nat → Nat} {R W O : Nat → Nat → Int} {cl t t2 rk rd rd0 : Nat}
theorem nz_addl {x y : Int} : nz (nz x + y) = nz (x + y) := by
  have e : Int32.ofInt (nz x + y) = Int32.ofInt (x + y) := by rw [Int32.ofInt_add, Int32.ofInt_add, ofI_nz]
  show (Int32.ofInt (nz x + y)).toInt = (Int32.ofInt (x + y)).toInt
  rw [e]
theorem nz_nz {x : Int} : nz (nz x) = nz x := nz_eq (nz_R x)
theorem hBrk_all : ∀ n, hBrk R W (-1) n = sBrk (W 1) 0 n
  | 0 => rfl
  | n + 1 => by
    unfold hBrk sBrk
    rw [hBrk_all n, Nat.zero_add]
    by_cases h : W 1 n = 0
    · rw [if_pos ⟨Or.inl (by decide), h⟩, if_pos h]
    · rw [if_neg (fun z => h z.2), if_neg h]
theorem mX8_counts (hS : SmS S s T A c) (hL : SmL S s T A c) (hV : SmV M s A c R W O) (hM : RM M) (hW : ∀ j k, R32 (W j k)) (hd : 1 ≤ d)
    (k : ∀ M', RM M' → (∀ b, b < aX S → M' b = M b) → (∀ q : Nat, q < 13 → M' (aX S) q = nz (cCount R W 0 (q : Int))) → Q (some (some (.ref (aX S)))) (aNew S 100 13 13) (mI M')) :
    X E d fX8_counts 0 [some (.ref s), none, none, none, none, none] [] S (mI M) Q := by
  have hS1 := hS.ext hL (aExt.new S 100 13 13)
  have hcc := hS.c
  have hn := hV.n
  have hs := hL.1
  have rK : aK (aNew S 100 13 13) (aX S) = 100 := aNew_K
  have rN : aN (aNew S 100 13 13) (aX S) = 13 := aNew_N
  have rD : aKd (aNew S 100 13 13) (aX S) = 100 := nKd (by decide)
  have hA : ∀ {j k : Nat}, 2 ≤ j → j ≤ 6 → k < c j → A j k < aX S := fun h2 h6 hk => hL.2.2 _ _ h2 h6 hk
  have i13 : ∀ q : Int, 0 ≤ q → q < 13 → (0 : Int) ≤ q ∧ q < (aN (aNew S 100 13 13) (aX S) : Int) := fun q h0 h1 => ⟨h0, by rw [rN]; exact h1⟩
  generalize hr : aX S = r at *
  have en : ∀ j, 2 ≤ j → j ≤ 6 → aN (aNew S 100 13 13) (T j) = c j := hS1.nT
  obtain ⟨M4, e4⟩ : ∃ x, mW (aU M r (fun _ => 0)) r 0 ((aU M r (fun _ => 0)) s 0) = x := ⟨_, rfl⟩
  obtain ⟨M14, e14⟩ : ∃ x, mW (mW M4 r 1 (M4 s 1)) r 2 (aN (aNew S 100 13 13) (T 2) : Int) = x := ⟨_, rfl⟩
  obtain ⟨M27, e27⟩ : ∃ x, mW (mW M14 r 3 (aN (aNew S 100 13 13) (T 3) : Int)) r 4 (aN (aNew S 100 13 13) (T 4) : Int) = x := ⟨_, rfl⟩
  obtain ⟨M40, e40⟩ : ∃ x, mW (mW M27 r 5 (aN (aNew S 100 13 13) (T 5) : Int)) r 6 (aN (aNew S 100 13 13) (T 6) : Int) = x := ⟨_, rfl⟩
  have hf : ∀ b, b < r → M40 b = M b := fun b hb => by
    have hne : b ≠ r := by omega
    rw [← e40, mW_ne hne, mW_ne hne, ← e27, mW_ne hne, mW_ne hne, ← e14, mW_ne hne, mW_ne hne, ← e4, mW_ne hne, aU_ne _ _ hne]
  have h4s : ∀ q, M4 s q = M s q := fun q => by
    have hne : s ≠ r := by omega
    rw [← e4, mW_ne hne, aU_ne _ _ hne]
  have hv : ∀ q, M40 r q = if q = 6 then (c 6 : Int) else if q = 5 then (c 5 : Int) else if q = 4 then (c 4 : Int) else if q = 3 then (c 3 : Int) else if q = 2 then (c 2 : Int) else if q = 1 then W 0 3 else if q = 0 then W 0 2 else 0 := fun q => by
    have hne : s ≠ r := by omega
    rw [← e40, mW_row, mW_row, ← e27, mW_row, mW_row, ← e14, mW_row, mW_row, h4s, hV.coins, ← e4, mW_row, aU_self, aU_ne _ _ hne, hV.day, en 2 (by decide) (by decide), en 3 (by decide) (by decide), en 4 (by decide) (by decide), en 5 (by decide) (by decide), en 6 (by decide) (by decide)]
  have hR40 : RM M40 := by
    rw [← e40, en 5 (by decide) (by decide), en 6 (by decide) (by decide), ← e27, en 3 (by decide) (by decide), en 4 (by decide) (by decide), ← e14, en 2 (by decide) (by decide)]
    have h4 : RM M4 := by rw [← e4]; exact hM.nw.w (hM.nw _ _)
    exact (((((h4.w (h4 _ _)).w ⟨by omega, by omega⟩).w ⟨by omega, by omega⟩).w ⟨by omega, by omega⟩).w ⟨by omega, by omega⟩).w ⟨by omega, by omega⟩
  have hV40 : SmV M40 s A c R W O := hV.fr (hf s hs) (fun j k h2 h6 hk => hf _ (hA h2 h6 hk))
  subst hr
  refine kX8_counts_0 hS1.kd rK (i13 0 (by decide) (by decide)) e4 (i13 1 (by decide) (by decide)) (hS1.pT 2 (by decide) (by decide)) (Or.inr (Or.inr (hS1.dT 2 (by decide) (by decide)))) (i13 2 (by decide) (by decide)) e14
    (hS1.pT 3 (by decide) (by decide)) (Or.inr (Or.inr (hS1.dT 3 (by decide) (by decide)))) (i13 3 (by decide) (by decide)) (hS1.pT 4 (by decide) (by decide)) (Or.inr (Or.inr (hS1.dT 4 (by decide) (by decide)))) (i13 4 (by decide) (by decide)) e27
    (hS1.pT 5 (by decide) (by decide)) (Or.inr (Or.inr (hS1.dT 5 (by decide) (by decide)))) (i13 5 (by decide) (by decide)) (hS1.pT 6 (by decide) (by decide)) (Or.inr (Or.inr (hS1.dT 6 (by decide) (by decide)))) (i13 6 (by decide) (by decide)) e40 hd
    (mX8_all hS1 hV40 ⟨_, rfl, ?_⟩)
  rw [← J_nz (sSum (W 1) (c 3))]
  refine kX8_counts_66 (t0 := nz (sSum (W 1) (c 3))) (t1 := 7) (u2 := aX S) (u3 := aX S) rK ⟨by decide, by decide⟩ (i13 7 (by decide) (by decide)) hd ?_ hS1.kd
  rw [show (7 : Int).toNat = 7 from rfl]
  have hR66 : RM (mW M40 (aX S) 7 (nz (sSum (W 1) (c 3)))) := hR40.z
  have hf66 : ∀ b, b < aX S → mW M40 (aX S) 7 (nz (sSum (W 1) (c 3))) b = M b := fun b hb => (mW_ne (by omega)).trans (hf b hb)
  have hv66 : ∀ q, mW M40 (aX S) 7 (nz (sSum (W 1) (c 3))) (aX S) q = if q = 7 then nz (sSum (W 1) (c 3)) else M40 (aX S) q := fun q => mW_row
  generalize mW M40 (aX S) 7 (nz (sSum (W 1) (c 3))) = M66 at *
  have hV66 : SmV M66 s A c R W O := hV.ext hL hf66
  refine mX8_broken hS1 hV66 hR66 ⟨by decide, by decide⟩ ⟨_, rfl, ?_⟩
  rw [← J_nz (hBrk R W (-1) (c 3))]
  refine kX8_counts_75 (t0 := nz (hBrk R W (-1) (c 3))) (t1 := 8) (u2 := aX S) (u3 := aX S) rK ⟨by decide, by decide⟩ (i13 8 (by decide) (by decide)) rK (i13 9 (by decide) (by decide)) (i13 10 (by decide) (by decide)) (i13 11 (by decide) (by decide)) (i13 12 (by decide) (by decide)) hS1.kd (hS1.pT 4 (by decide) (by decide)) (Or.inr (Or.inr (hS1.dT 4 (by decide) (by decide)))) ?_
  rw [show (8 : Int).toNat = 8 from rfl, hS1.nT 4 (by decide) (by decide)]
  obtain ⟨M75, e75⟩ : ∃ x, mW (mW (mW (mW (mW M66 (aX S) 8 (nz (hBrk R W (-1) (c 3)))) (aX S) 9 0) (aX S) 10 0) (aX S) 11 0) (aX S) 12 0 = x := ⟨_, rfl⟩
  rw [e75]
  have hR75 : RM M75 := by
    rw [← e75]
    exact (((hR66.z.w R32_0).w R32_0).w R32_0).w R32_0
  have hf75 : ∀ b, b < aX S → M75 b = M b := fun b hb => by
    have hne : b ≠ aX S := by omega
    rw [← e75, mW_ne hne, mW_ne hne, mW_ne hne, mW_ne hne, mW_ne hne]
    exact hf66 b hb
  have hv75 : ∀ q, M75 (aX S) q = if q = 12 then 0 else if q = 11 then 0 else if q = 10 then 0 else if q = 9 then 0 else if q = 8 then nz (hBrk R W (-1) (c 3)) else M66 (aX S) q := fun q => by
    rw [← e75, mW_row, mW_row, mW_row, mW_row, mW_row]
  -- what gates took and farmers gained
  have hl : ∀ m i Mx o5, i + m = c 4 → RM Mx → (∀ b, b < aX S → Mx b = M b) → (∀ q, Mx (aX S) q = if q = 9 then nz (sSum (W 5) i) else if q = 10 then nz (sSum (W 6) i) else M75 (aX S) q) →
      (∀ Mx o2 o3 o4 o5, RM Mx → (∀ b, b < aX S → Mx b = M b) → (∀ q, Mx (aX S) q = if q = 9 then nz (sSum (W 5) (c 4)) else if q = 10 then nz (sSum (W 6) (c 4)) else M75 (aX S) q) → X E d fX8_counts 148 [some (.ref s), some (.ref (aX S)), o2, o3, o4, o5] [] (aNew S 100 13 13) (mI Mx) Q) →
      X E d fX8_counts 108 [some (.ref s), some (.ref (aX S)), some (.ref (T 4)), some (J ((c 4 : Nat) : Int)), some (J (i : Int)), o5] [] (aNew S 100 13 13) (mI Mx) Q := by
    intro m
    induction m with
    | zero =>
      intro i Mx o5 hi hRx hfx hvx kk
      have hi : i = c 4 := by omega
      subst hi
      exact kX8_counts_108 ⟨by omega, by omega⟩ ⟨by omega, by omega⟩ (fun _ => kk Mx _ _ _ _ hRx hfx hvx) (fun h => absurd h (by omega))
    | succ m ih =>
      intro i Mx o5 hi hRx hfx hvx kk
      have hk : i < c 4 := by omega
      have nA := hS1.nA 4 i (by decide) (by decide) hk
      have hAi := hL.2.2 4 i (by decide) (by decide) hk
      have e2 : M (A 4 i) 2 = W 5 i := hV.w 4 i 2 hk (by decide)
      have e3 : M (A 4 i) 3 = W 6 i := hV.w 4 i 3 hk (by decide)
      have w6 : wd 4 = 6 := rfl
      refine kX8_counts_108 ⟨by omega, by omega⟩ ⟨by omega, by omega⟩ (fun h => absurd h (by omega)) (fun _ => ?_)
      refine kX8_counts_114 (hS1.dT 4 (by decide) (by decide)) ⟨by omega, by omega⟩ ⟨by omega, by rw [hS1.nT 4 (by decide) (by decide)]; omega⟩ (hS1.pA 4 i (by decide) (by decide) hk) rD (i13 9 (by decide) (by decide)) (hS1.dA 4 i (by decide) (by decide) hk) ⟨by decide, by rw [nA, w6]; decide⟩ rK (i13 10 (by decide) (by decide)) ⟨by decide, by rw [nA, w6]; decide⟩ rfl ?_
      refine ih (i + 1) _ _ (by omega) hRx.z.z (fun b hb => ?_) (fun q => ?_) kk
      · have hne : b ≠ aX S := by omega
        rw [mW_ne hne, mW_ne hne]
        exact hfx b hb
      · have hne : A 4 i ≠ aX S := by omega
        by_cases h10 : q = 10
        · subst h10
          rw [mW_self, mW_at (by decide), mW_ne hne, hfx _ hAi, e3, hvx 10, if_neg (by decide), if_pos rfl, nz_addl, if_neg (by decide), if_pos rfl]
          rfl
        · by_cases h9 : q = 9
          · subst h9
            rw [mW_at h10, mW_self, hfx _ hAi, e2, hvx 9, if_pos rfl, nz_addl, if_pos rfl]
            rfl
          · rw [mW_at h10, mW_at h9, hvx q, if_neg h9, if_neg h9, if_neg h10, if_neg h10]
  refine hl (c 4) 0 M75 none (by omega) hR75 hf75 (fun q => ?_) (fun My o2 o3 o4 o5 hRy hfy hvy => ?_)
  · by_cases h9 : q = 9
    · subst h9
      rw [hv75, if_pos rfl, if_neg (by decide), if_neg (by decide), if_neg (by decide), if_pos rfl]
      exact (nz_eq R32_0).symm
    · rw [if_neg h9]
      by_cases h10 : q = 10
      · subst h10
        rw [hv75, if_pos rfl, if_neg (by decide), if_neg (by decide), if_pos rfl]
        exact (nz_eq R32_0).symm
      · rw [if_neg h10]
  refine kX8_counts_148 hS1.kd (hS1.pT 2 (by decide) (by decide)) (Or.inr (Or.inr (hS1.dT 2 (by decide) (by decide)))) ?_
  rw [hS1.nT 2 (by decide) (by decide)]
  have hl2 : ∀ m i Mx o5, i + m = c 2 → RM Mx → (∀ b, b < aX S → Mx b = M b) → (∀ q, Mx (aX S) q = if q = 11 then nz (sSum (W 3) i) else My (aX S) q) →
      X E d fX8_counts 159 [some (.ref s), some (.ref (aX S)), some (.ref (T 2)), some (J ((c 2 : Nat) : Int)), some (J (i : Int)), o5] [] (aNew S 100 13 13) (mI Mx) Q := by
    intro m
    induction m with
    | zero =>
      intro i Mx o5 hi hRx hfx hvx
      have hi : i = c 2 := by omega
      subst hi
      refine kX8_counts_159 ⟨by omega, by omega⟩ ⟨by omega, by omega⟩ (fun _ => kX8_counts_188 (k Mx hRx hfx (fun q hq => ?_))) (fun h => absurd h (by omega))
      rw [hvx, hvy, hv75, hv66, hv]
      have q0 : (R 0 0).toNat = c 2 := by omega
      have q1 : (R 0 1).toNat = c 3 := by omega
      have q2 : (R 0 2).toNat = c 4 := by omega
      have w2 := nz_eq (hW 0 2)
      have w3 := nz_eq (hW 0 3)
      have z : ∀ n : Nat, n ≤ 1000 → ((n : Nat) : Int) = nz (n : Int) := fun n hn => (nz_eq ⟨by omega, by omega⟩).symm
      rcases (by omega : q = 0 ∨ q = 1 ∨ q = 2 ∨ q = 3 ∨ q = 4 ∨ q = 5 ∨ q = 6 ∨ q = 7 ∨ q = 8 ∨ q = 9 ∨ q = 10 ∨ q = 11 ∨ q = 12) with h | h | h | h | h | h | h | h | h | h | h | h | h
      all_goals subst h
      · exact w2.symm
      · exact w3.symm
      · show _ = nz (R 0 0)
        rw [hn.1]; exact z _ (by omega)
      · show _ = nz (R 0 1)
        rw [hn.2.1]; exact z _ (by omega)
      · show _ = nz (R 0 2)
        rw [hn.2.2.1]; exact z _ (by omega)
      · show _ = nz (R 0 3)
        rw [hn.2.2.2.1]; exact z _ (by omega)
      · show _ = nz (R 12 0)
        rw [hn.2.2.2.2]; exact z _ (by omega)
      · show _ = nz (sSum (W 1) (R 0 1).toNat)
        rw [q1]; rfl
      · show _ = nz (sBrk (W 1) 0 (R 0 1).toNat)
        rw [q1, ← hBrk_all (R := R)]; rfl
      · show _ = nz (sSum (W 5) (R 0 2).toNat)
        rw [q2]; rfl
      · show _ = nz (sSum (W 6) (R 0 2).toNat)
        rw [q2]; rfl
      · show _ = nz (sSum (W 3) (R 0 0).toNat)
        rw [q0]; rfl
      · exact (nz_eq R32_0).symm
    | succ m ih =>
      intro i Mx o5 hi hRx hfx hvx
      have hk : i < c 2 := by omega
      have nA := hS1.nA 2 i (by decide) (by decide) hk
      have hAi := hL.2.2 2 i (by decide) (by decide) hk
      have e2 : M (A 2 i) 2 = W 3 i := hV.w 2 i 2 hk (by decide)
      have w6 : wd 2 = 3 := rfl
      refine kX8_counts_159 ⟨by omega, by omega⟩ ⟨by omega, by omega⟩ (fun h => absurd h (by omega)) (fun _ => ?_)
      refine kX8_counts_165 (hS1.dT 2 (by decide) (by decide)) ⟨by omega, by omega⟩ ⟨by omega, by rw [hS1.nT 2 (by decide) (by decide)]; omega⟩ (hS1.pA 2 i (by decide) (by decide) hk) rD (i13 11 (by decide) (by decide)) (hS1.dA 2 i (by decide) (by decide) hk) ⟨by decide, by rw [nA, w6]; decide⟩ rK ?_
      refine ih (i + 1) _ _ (by omega) hRx.z (fun b hb => ?_) (fun q => ?_)
      · have hne : b ≠ aX S := by omega
        rw [mW_ne hne]
        exact hfx b hb
      · by_cases h9 : q = 11
        · subst h9
          rw [mW_self, hfx _ hAi, e2, hvx 11, if_pos rfl, nz_addl, if_pos rfl]
          rfl
        · rw [mW_at h9, hvx q, if_neg h9, if_neg h9]
  refine hl2 (c 2) 0 My _ (by omega) hRy hfy (fun q => ?_)
  by_cases h9 : q = 11
  · subst h9
    rw [hvy, hv75, if_neg (by decide), if_neg (by decide), if_pos rfl, if_neg (by decide), if_pos rfl]
    exact (nz_eq R32_0).symm
  · rw [if_neg h9]
end C26
