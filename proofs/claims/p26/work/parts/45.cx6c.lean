/-! contracts: free, rent -/
section C4
variable {E : Nat → Value} {d : Nat} {S : aS} {M : Nat → Nat → Int} {Q : Option (Option Value) → aS → aI → Prop}
/-- a road as the list tells it -/
abbrev RdP (M : Nat → Nat → Int) (rd : Nat) : Prop :=
  (0 ≤ M rd 0 ∧ M rd 0 ≤ 5) ∧ (0 ≤ M rd 1 ∧ M rd 1 ≤ 45) ∧ (0 ≤ M rd 2 ∧ M rd 2 ≤ 5) ∧ (0 ≤ M rd 3 ∧ M rd 3 ≤ 8) ∧ (0 ≤ M (rd + 12) 0 ∧ M (rd + 12) 0 ≤ 20) ∧ (RdL M rd) ∧ (∀ s : Nat, (s : Int) < M rd 0 → 1 ≤ M (rd + 1) s) ∧ (∀ m, m < 45 → 0 ≤ M (rd + 4) m ∧ M (rd + 4) m < 5) ∧ (∀ s, s < 5 → 0 ≤ M (rd + 3) s ∧ M (rd + 3) s ≤ 9) ∧ (∀ a : Nat, (a : Int) < M rd 3 → 1 ≤ M (rd + 7) a ∧ M (rd + 7) a ≤ 60) ∧ (∀ a : Nat, (a : Int) < M rd 3 → 0 ≤ M (rd + 9) a ∧ M (rd + 9) a < M rd 1 ∧ 0 ≤ M (rd + 10) a ∧ M (rd + 10) a < M rd 1) ∧ (∀ a : Nat, (a : Int) < M rd 3 → 1 ≤ M (rd + 11) a ∧ M (rd + 11) a ≤ 30) ∧ (∀ i, i < 20 → 0 ≤ M (rd + 17) i ∧ 0 ≤ M (rd + 18) i ∧ M (rd + 18) i ≤ 400 ∧ M (rd + 19) i ≤ 400) ∧ (∀ i : Nat, (i : Int) < M (rd + 12) 0 → M (rd + 13) i = 15 → 0 ≤ M (rd + 15) i ∧ M (rd + 15) i < M rd 0)
theorem RdP.ns {rd : Nat} (h : RdP M rd) : 0 ≤ M rd 0 ∧ M rd 0 ≤ 5 := h.1
theorem RdP.nm {rd : Nat} (h : RdP M rd) : 0 ≤ M rd 1 ∧ M rd 1 ≤ 45 := h.2.1
theorem RdP.ng {rd : Nat} (h : RdP M rd) : 0 ≤ M rd 2 ∧ M rd 2 ≤ 5 := h.2.2.1
theorem RdP.nt {rd : Nat} (h : RdP M rd) : 0 ≤ M rd 3 ∧ M rd 3 ≤ 8 := h.2.2.2.1
theorem RdP.no {rd : Nat} (h : RdP M rd) : 0 ≤ M (rd + 12) 0 ∧ M (rd + 12) 0 ≤ 20 := h.2.2.2.2.1
theorem RdP.L {rd : Nat} (h : RdP M rd) : RdL M rd := h.2.2.2.2.2.1
theorem RdP.s1 {rd : Nat} (h : RdP M rd) : ∀ s : Nat, (s : Int) < M rd 0 → 1 ≤ M (rd + 1) s := h.2.2.2.2.2.2.1
theorem RdP.ms {rd : Nat} (h : RdP M rd) : ∀ m, m < 45 → 0 ≤ M (rd + 4) m ∧ M (rd + 4) m < 5 := h.2.2.2.2.2.2.2.1
theorem RdP.sf {rd : Nat} (h : RdP M rd) : ∀ s, s < 5 → 0 ≤ M (rd + 3) s ∧ M (rd + 3) s ≤ 9 := h.2.2.2.2.2.2.2.2.1
theorem RdP.wt {rd : Nat} (h : RdP M rd) : ∀ a : Nat, (a : Int) < M rd 3 → 1 ≤ M (rd + 7) a ∧ M (rd + 7) a ≤ 60 := h.2.2.2.2.2.2.2.2.2.1
theorem RdP.ft {rd : Nat} (h : RdP M rd) : ∀ a : Nat, (a : Int) < M rd 3 → 0 ≤ M (rd + 9) a ∧ M (rd + 9) a < M rd 1 ∧ 0 ≤ M (rd + 10) a ∧ M (rd + 10) a < M rd 1 := h.2.2.2.2.2.2.2.2.2.2.1
theorem RdP.ev {rd : Nat} (h : RdP M rd) : ∀ a : Nat, (a : Int) < M rd 3 → 1 ≤ M (rd + 11) a ∧ M (rd + 11) a ≤ 30 := h.2.2.2.2.2.2.2.2.2.2.2.1
theorem RdP.tf {rd : Nat} (h : RdP M rd) : ∀ i, i < 20 → 0 ≤ M (rd + 17) i ∧ 0 ≤ M (rd + 18) i ∧ M (rd + 18) i ≤ 400 ∧ M (rd + 19) i ≤ 400 := h.2.2.2.2.2.2.2.2.2.2.2.2.1
theorem RdP.mw {rd : Nat} (h : RdP M rd) : ∀ i : Nat, (i : Int) < M (rd + 12) 0 → M (rd + 13) i = 15 → 0 ≤ M (rd + 15) i ∧ M (rd + 15) i < M rd 0 := h.2.2.2.2.2.2.2.2.2.2.2.2.2
theorem RdP.fr {M' : Nat → Nat → Int} {rd : Nat} (h : RdP M rd) (hf : ∀ c, rd ≤ c → c ≤ rd + 21 → M' c = M c) : RdP M' rd := by
  have f0 := hf rd (by omega) (by omega)
  have f1 := hf (rd + 1) (by omega) (by omega)
  have f2 := hf (rd + 2) (by omega) (by omega)
  have f3 := hf (rd + 3) (by omega) (by omega)
  have f4 := hf (rd + 4) (by omega) (by omega)
  have f7 := hf (rd + 7) (by omega) (by omega)
  have f9 := hf (rd + 9) (by omega) (by omega)
  have f10 := hf (rd + 10) (by omega) (by omega)
  have f11 := hf (rd + 11) (by omega) (by omega)
  have f12 := hf (rd + 12) (by omega) (by omega)
  have f13 := hf (rd + 13) (by omega) (by omega)
  have f15 := hf (rd + 15) (by omega) (by omega)
  have f17 := hf (rd + 17) (by omega) (by omega)
  have f18 := hf (rd + 18) (by omega) (by omega)
  have f19 := hf (rd + 19) (by omega) (by omega)
  refine ⟨?_, ?_, ?_, ?_, ?_, ?_, ?_, ?_, ?_, ?_, ?_, ?_, ?_, ?_⟩
  · rw [f0]; exact h.ns
  · rw [f0]; exact h.nm
  · rw [f0]; exact h.ng
  · rw [f0]; exact h.nt
  · rw [f12]; exact h.no
  · unfold RdL; rw [f1, f2]; exact h.L
  · rw [f0, f1]; exact h.s1
  · rw [f4]; exact h.ms
  · rw [f3]; exact h.sf
  · rw [f0, f7]; exact h.wt
  · rw [f0, f9, f10]; exact h.ft
  · rw [f0, f11]; exact h.ev
  · rw [f17, f18, f19]; exact h.tf
  · rw [f0, f12, f13, f15]; exact h.mw
/-- nothing but the cell k is another -/
def Fk (k : Nat) (M M' : Nat → Nat → Int) : Prop := ∀ c, c ≠ k → M' c = M c
theorem Fk.refl {k : Nat} : Fk k M M := fun _ _ => rfl
theorem Fk.trans {k : Nat} {M' M'' : Nat → Nat → Int} (h : Fk k M M') (g : Fk k M' M'') : Fk k M M'' := fun c hc => (g c hc).trans (h c hc)
theorem Fk.win {k n t : Nat} {M' : Nat → Nat → Int} (h : Fk k M M') (g : k < t ∨ t + n < k) : win n M' t = win n M t := win_fr (fun c g1 g2 => h c (by omega))
theorem Fk.Fr {lo hi k : Nat} {M' : Nat → Nat → Int} (h : Fk k M M') : Fr lo hi k M M' := fun b _ g => h b g
theorem mX6_isFree {t rk rd a g : Nat} (hC : Cx S t rk rd) (hM : RM M) (hP : RdP M rd) (hd : 4 ≤ d) (ha : a < 8) (hg : g < 5) (k : ∀ M', RM M' → Fk (rk + 1) M M' → Q (some (some (J (if sFree (win 21 M rd) (win 12 M t) a g 0 (M (rd + 12) 0).toNat = true then 1 else 0)))) S (mI M')) : X E d fX6_isFree 0 [some (.ref t), some (J a), some (J g), none, none] [] S (mI M) Q := by
  have hT := hC.tr
  have hR := hC.ro
  have hO := hC.os
  have hK := hC.re
  have h1 := hC.h1
  have h2 := hC.h2
  have o1 := hO.n1
  have o3 := hO.n3
  have o4 := hO.n4
  have o6 := hO.n6
  have o7 := hO.n7
  have hno := hP.no
  refine kX6_isFree_0 hT.kd hT.p1 hR.kd hR.p15 ?_
  generalize hn : (M (rd + 12) 0).toNat = n at k
  have hl : ∀ m i M', i + m = n → RM M' → Fk (rk + 1) M M' → (∀ M', RM M' → Fk (rk + 1) M M' → Q (some (some (J (if sFree (win 21 M rd) (win 12 M t) a g i m = true then 1 else 0)))) S (mI M')) →
      X E d fX6_isFree 11 [some (.ref t), some (J a), some (J g), some (.ref (rd + 12)), some (J (i : Int))] [] S (mI M') Q := by
    intro m
    induction m with
    | zero =>
      intro i M' hi hM' hf kk
      have e0 : M' (rd + 12) 0 = M (rd + 12) 0 := by rw [hf (rd + 12) (by omega)]
      exact kX6_isFree_11 hO.kd ⟨by omega, by omega⟩ (hM' _ _) (fun _ => kX6_isFree_87 (kk M' hM' hf)) (fun h => absurd h (by omega))
    | succ m ih =>
      intro i M' hi hM' hf kk
      have e0 : M' (rd + 12) 0 = M (rd + 12) 0 := by rw [hf (rd + 12) (by omega)]
      have e13 : M' (rd + 12 + 1) i = win 21 M rd 13 i := by rw [win_at (by decide), hf (rd + 12 + 1) (by omega)]
      have e15 : M' (rd + 12 + 3) i = win 21 M rd 15 i := by rw [win_at (by decide), hf (rd + 12 + 3) (by omega)]
      have e16 : M' (rd + 12 + 4) i = win 21 M rd 16 i := by rw [win_at (by decide), hf (rd + 12 + 4) (by omega)]
      have e18 : M' (rd + 12 + 6) i = win 21 M rd 18 i := by rw [win_at (by decide), hf (rd + 12 + 6) (by omega)]
      have e19 : M' (rd + 12 + 7) i = win 21 M rd 19 i := by rw [win_at (by decide), hf (rd + 12 + 7) (by omega)]
      have hf5 := hP.tf i (by omega)
      rw [show M (rd + 18) i = win 21 M rd 18 i from (congrFun (win_at (by decide)) i).symm, show M (rd + 19) i = win 21 M rd 19 i from (congrFun (win_at (by decide)) i).symm, ← e18, ← e19] at hf5
      unfold sFree at kk
      rw [← e13, ← e15, ← e16, ← e18, ← e19] at kk
      have skip : ∀ M1, RM M1 → Fk (rk + 1) M M1 → ¬ (M' (rd + 12 + 1) i = 12 ∧ M' (rd + 12 + 3) i = (a : Int) ∧ M' (rd + 12 + 4) i = (g : Int) ∧ sEv (win 21 M rd) (win 12 M t) (M' (rd + 12 + 6) i) (M' (rd + 12 + 7) i) ≠ 0) →
          X E d fX6_isFree 81 [some (.ref t), some (J a), some (J g), some (.ref (rd + 12)), some (J (i : Int))] [] S (mI M1) Q := by
        intro M1 hM1 hf1 hn
        refine kX6_isFree_81 (ih (i + 1) M1 (by omega) hM1 hf1 (fun M2 g1 g2 => ?_))
        have k2 := kk M2 g1 g2
        rw [if_neg hn] at k2
        exact k2
      refine kX6_isFree_11 hO.kd ⟨by omega, by omega⟩ (hM' _ _) (fun h => absurd h (by omega)) (fun _ => ?_)
      refine kX6_isFree_20 hO.kd hO.p1 hO.d1 ⟨by omega, by omega⟩ ⟨by omega, by omega⟩ (hM' _ _) (fun h => skip M' hM' hf (fun z => h z.1)) (fun c1 => ?_)
      refine kX6_isFree_32 hO.kd hO.p3 hO.d3 ⟨by omega, by omega⟩ ⟨by omega, by omega⟩ (hM' _ _) ⟨by omega, by omega⟩ (fun h => skip M' hM' hf (fun z => h z.2.1)) (fun c2 => ?_)
      refine kX6_isFree_43 hO.kd hO.p4 hO.d4 ⟨by omega, by omega⟩ ⟨by omega, by omega⟩ (hM' _ _) ⟨by omega, by omega⟩ (fun h => skip M' hM' hf (fun z => h z.2.2.1)) (fun c3 => ?_)
      rw [Int.toNat_natCast] at c1 c2 c3
      refine kX6_isFree_54 hT.kd hT.p0 hO.kd hO.p6 hO.d6 ⟨by omega, by omega⟩ ⟨by omega, by omega⟩ hO.p7 hO.d7 ⟨by omega, by omega⟩ (by omega) ?_ hK.kd
      rw [Int.toNat_natCast]
      refine mX2_reckon hC hM' (hP.fr (fun c g1 g2 => hf c (by omega))).L (by omega) (by omega) ⟨hM' _ _, by omega⟩ (hM' _ _) (fun M2 hM2 hf2 => ⟨_, rfl, ?_⟩)
      rw [hf.win (by omega), hf.win (by omega)]
      have hf3 : Fk (rk + 1) M M2 := hf.trans hf2
      refine kX6_isFree_76 (t0 := sEv (win 21 M rd) (win 12 M t) (M' (rd + 12 + 6) i) (M' (rd + 12 + 7) i)) sEv_R (fun h => skip M2 hM2 hf3 (fun z => z.2.2.2 h)) (fun h => ?_)
      have k3 := kk M2 hM2 hf3
      rw [if_pos (show _ ∧ _ ∧ _ ∧ _ from ⟨c1, c2, c3, h⟩), if_pos rfl] at k3
      exact kX6_isFree_79 k3
  exact hl n 0 M (by omega) hM Fk.refl k
theorem mX6_rentByOrders {t rk rd g : Nat} (hC : Cx S t rk rd) (hM : RM M) (hP : RdP M rd) (hd : 4 ≤ d) (hg : g < 5) (k : ∀ M', RM M' → Fk (rk + 1) M M' → Q (some (some (J (sRent (win 21 M rd) (win 12 M t) g 0 (M (rd + 12) 0).toNat)))) S (mI M')) : X E d fX6_rentByOrders 0 [some (.ref t), some (J g), none, none] [] S (mI M) Q := by
  have hT := hC.tr
  have hR := hC.ro
  have hO := hC.os
  have hK := hC.re
  have h1 := hC.h1
  have h2 := hC.h2
  have o1 := hO.n1
  have o3 := hO.n3
  have o4 := hO.n4
  have o6 := hO.n6
  have o7 := hO.n7
  have hno := hP.no
  refine kX6_rentByOrders_0 hT.kd hT.p1 hR.kd hR.p15 ?_
  generalize hn : (M (rd + 12) 0).toNat = n at k
  have hl : ∀ m i M', i + m = n → RM M' → Fk (rk + 1) M M' → (∀ M', RM M' → Fk (rk + 1) M M' → Q (some (some (J (sRent (win 21 M rd) (win 12 M t) g i m)))) S (mI M')) →
      X E d fX6_rentByOrders 10 [some (.ref t), some (J g), some (.ref (rd + 12)), some (J (i : Int))] [] S (mI M') Q := by
    intro m
    induction m with
    | zero =>
      intro i M' hi hM' hf kk
      have e0 : M' (rd + 12) 0 = M (rd + 12) 0 := by rw [hf (rd + 12) (by omega)]
      exact kX6_rentByOrders_10 hO.kd ⟨by omega, by omega⟩ (hM' _ _) (fun _ => kX6_rentByOrders_75 (kk M' hM' hf)) (fun h => absurd h (by omega))
    | succ m ih =>
      intro i M' hi hM' hf kk
      have e0 : M' (rd + 12) 0 = M (rd + 12) 0 := by rw [hf (rd + 12) (by omega)]
      have e13 : M' (rd + 12 + 1) i = win 21 M rd 13 i := by rw [win_at (by decide), hf (rd + 12 + 1) (by omega)]
      have e15 : M' (rd + 12 + 3) i = win 21 M rd 15 i := by rw [win_at (by decide), hf (rd + 12 + 3) (by omega)]
      have e16 : M (rd + 12 + 4) i = win 21 M rd 16 i := by rw [win_at (by decide)]
      have e18 : M' (rd + 12 + 6) i = win 21 M rd 18 i := by rw [win_at (by decide), hf (rd + 12 + 6) (by omega)]
      have e19 : M' (rd + 12 + 7) i = win 21 M rd 19 i := by rw [win_at (by decide), hf (rd + 12 + 7) (by omega)]
      have hf5 := hP.tf i (by omega)
      rw [show M (rd + 18) i = win 21 M rd 18 i from (congrFun (win_at (by decide)) i).symm, show M (rd + 19) i = win 21 M rd 19 i from (congrFun (win_at (by decide)) i).symm, ← e18, ← e19] at hf5
      unfold sRent at kk
      rw [← e13, ← e15, ← e16, ← e18, ← e19] at kk
      have skip : ∀ M1, RM M1 → Fk (rk + 1) M M1 → ¬ (M' (rd + 12 + 1) i = 13 ∧ M' (rd + 12 + 3) i = (g : Int) ∧ sEv (win 21 M rd) (win 12 M t) (M' (rd + 12 + 6) i) (M' (rd + 12 + 7) i) ≠ 0) →
          X E d fX6_rentByOrders 69 [some (.ref t), some (J g), some (.ref (rd + 12)), some (J (i : Int))] [] S (mI M1) Q := by
        intro M1 hM1 hf1 hn
        refine kX6_rentByOrders_69 (ih (i + 1) M1 (by omega) hM1 hf1 (fun M2 g1 g2 => ?_))
        have k2 := kk M2 g1 g2
        rw [if_neg hn] at k2
        exact k2
      refine kX6_rentByOrders_10 hO.kd ⟨by omega, by omega⟩ (hM' _ _) (fun h => absurd h (by omega)) (fun _ => ?_)
      refine kX6_rentByOrders_18 hO.kd hO.p1 hO.d1 ⟨by omega, by omega⟩ ⟨by omega, by omega⟩ (hM' _ _) (fun h => skip M' hM' hf (fun z => h z.1)) (fun c1 => ?_)
      refine kX6_rentByOrders_29 hO.kd hO.p3 hO.d3 ⟨by omega, by omega⟩ ⟨by omega, by omega⟩ (hM' _ _) ⟨by omega, by omega⟩ (fun h => skip M' hM' hf (fun z => h z.2.1)) (fun c2 => ?_)
      rw [Int.toNat_natCast] at c1 c2
      refine kX6_rentByOrders_39 hT.kd hT.p0 hO.kd hO.p6 hO.d6 ⟨by omega, by omega⟩ ⟨by omega, by omega⟩ hO.p7 hO.d7 ⟨by omega, by omega⟩ (by omega) ?_ hK.kd
      rw [Int.toNat_natCast]
      refine mX2_reckon hC hM' (hP.fr (fun c g1 g2 => hf c (by omega))).L (by omega) (by omega) ⟨hM' _ _, by omega⟩ (hM' _ _) (fun M2 hM2 hf2 => ⟨_, rfl, ?_⟩)
      rw [hf.win (by omega), hf.win (by omega)]
      have hf3 : Fk (rk + 1) M M2 := hf.trans hf2
      refine kX6_rentByOrders_59 (t0 := sEv (win 21 M rd) (win 12 M t) (M' (rd + 12 + 6) i) (M' (rd + 12 + 7) i)) sEv_R (fun h => skip M2 hM2 hf3 (fun z => z.2.2 h)) (fun h => ?_)
      have k3 := kk M2 hM2 hf3
      rw [if_pos (show _ ∧ _ ∧ _ from ⟨c1, c2, h⟩), ← hf3 (rd + 12 + 4) (by omega)] at k3
      exact kX6_rentByOrders_62 hO.kd hO.p4 hO.d4 ⟨by omega, by omega⟩ ⟨by omega, by omega⟩ k3
  exact hl n 0 M (by omega) hM Fk.refl k
end C4
