/-! the law's list, whole -/
section LY
variable {E : Nat → Value} {d : Nat} {S S' S0 S1 : aS} {M M' M0 M1 : Nat → Nat → Int} {Q : Option (Option Value) → aS → aI → Prop} {cb bo bt s sb sa n v z z0 Jn : Nat} {bs : List Int} {m T : Nat → Nat} {A : Nat → Nat → Nat} {ce : Nat → Int}
theorem Lw.m0 {c : Nat → Nat} {V : Nat → Nat → Nat → Int} {j : Nat} (h : Lw cb sb s S0 M0 c V S M v bs z Jn m T A) (hj : Jn < j) : m j = 0 := h.2.2.2.2.2.2.2.1.1 j hj
theorem Lw.mc {c : Nat → Nat} {V : Nat → Nat → Nat → Int} {j : Nat} (h : Lw cb sb s S0 M0 c V S M v bs z Jn m T A) (hj : 2 ≤ j) (hj2 : j < Jn) : m j = c j := h.2.2.2.2.2.2.2.1.2 j hj hj2
/-- the text of a list -/
def txL (ce : Nat → Int) : List Int := tx6 ce (tx5 ce (tx4 ce (tx2 ce (C2 ce)) (C4 ce)) (C5 ce)) (C6 ce)
set_option maxHeartbeats 2000000 in
theorem mL_list (hL : Ls E S M cb bo bt sa n ce) (hM : RM M) (hcb : cb ≤ aX S) (hsb : Sb S M sb v []) (hs1 : cb ≤ sb) (hs2 : cb ≤ v) (hd : 40 ≤ d)
    (q : ∀ S' M' v' m T A, Lz cb sb (aX S) S M ce S' M' v' (txL ce) 600 6 m T A → m 6 = C6 ce → Q (some (some (.ref (aX S)))) S' (mI M')) :
    X E d fL_list 0 [some (.ref sa), some (.ref sb), none, none, none, none, none, none, none, none, none] [] S (mI M) Q := by
  have hc6 := C6_b (ce := ce)
  have hc2 := C2_b (ce := ce)
  have hc4 := C4_b (ce := ce)
  have hc5 := C5_b (ce := ce)
  have hmn := mny_b (ce := ce)
  have l2 := tx2_l (ce := ce) (C2 ce)
  have l4 := tx4_l (ce := ce) (b := tx2 ce (C2 ce)) (C4 ce)
  have l5 := tx5_l (ce := ce) (b := tx4 ce (tx2 ce (C2 ce)) (C4 ce)) (C5 ce)
  have hk1 := hsb.1
  have hk2 := hsb.2.2.2.2.1
  have hxs := hsb.2.2.2.2.2.2.2.2.2.1
  have hxv := hsb.2.2.2.2.2.2.2.2.2.2
  refine kL_list_0 (by omega) (mX8_init (a := aX S) (Nat.lt_succ_self _) aNew_K hM.nw (fun S1 M1 x1 z1 e1 m1 f1 v0 v1 v7 => ⟨_, rfl, ?_⟩))
  have ex : aX (aNew S 10 9 9) = aX S + 1 := rfl
  have ez : aZ (aNew S 10 9 9) = aZ S + 9 := rfl
  have kp : Kp (aX S) S M S1 M1 := ⟨by omega, fun x hx => by
    have g := e1.2 x (by omega)
    have hne : x ≠ aX S := Nat.ne_of_lt hx
    exact ⟨⟨g.1.trans (nK_lt hx), g.2.1.trans (nN_lt hx), (g.2.2 hne).trans (nP_lt hx)⟩, (f1 x (by omega) hne).trans (aU_ne _ _ hne)⟩⟩
  have h1 : Lz cb sb (aX S) S M ce S1 M1 v [] 6 1 (fun _ => 0) (fun _ => 0) (fun _ _ => 0) := by
    refine ⟨⟨kp.dn hcb, m1, hsb.kp kp hxs hxv, ⟨hs1, hs2⟩, by omega, by omega⟩, ⟨((e1.2 (aX S) (by omega)).1).trans aNew_K, hcb, by omega⟩, ⟨by rw [v0, aU_self], v1, v7⟩, fun j j1 j2 => absurd j1 (by omega), fun j k j1 j2 j3 => absurd j3 (Nat.not_lt_zero _), fun j k j' k' j1 j2 j3 => absurd j3 (Nat.not_lt_zero _), fun j j' j1 j2 => absurd j1 (by omega), ⟨fun j hj => rfl, fun j j1 j2 => absurd j1 (by omega)⟩, by decide⟩
  refine kL_list_7 (by omega) (Ls.cell (k := 0) hL h1.1.1 rfl (by decide) ⟨_, rfl, ?_⟩)
  refine kL_list_15 (by omega) (bel_X (k := 4) (by decide) rfl (by decide) ⟨_, rfl, ?_⟩)
  have e2 : (1 : Int) + (bN (ce 0) 4 : Int) = (C2 ce : Int) := by unfold C2; omega

  refine kL_list_19 (S_3 := aPut (aNew S1 102 (C2 ce) (C2 ce)) (aX S) 2 (some (aX S1))) (by omega) ((nK_lt h1.2.1.2.2).trans h1.2.1.1) (by rw [e2, Int.toNat_natCast]) ?_
  have t2 := h1.tab (n := C2 ce) (by decide) (by decide) (fun h => absurd h (by decide)) rfl (by omega)
  refine ls2 (z := 7) hL (by omega) (fun S2 M2 v2 m2 T2 A2 p5 h2 hm2 => ?_) (C2 ce) 0 _ _ v _ _ _ _ (by omega) t2 rfl
  refine kL_list_175 ⟨by omega, by omega⟩ ((nK_lt h2.2.1.2.2).trans h2.2.1.1) ?_
  rw [Int.toNat_natCast]
  have t3 := h2.tab (n := mny ce) (by decide) (by decide) (fun _ => hm2) rfl (by omega)
  refine ls3 (z := 7 + 8 * C2 ce + 1) hL (by omega) (fun S3 M3 m3 T3 A3 p4 p5 p6 h3 hm3 => ?_) (C2 ce) 0 _ _ _ _ _ _ (by omega) t3 hm2 (h2.m0 (by decide))
  refine kL_list_255 (by omega) (Ls.cell (k := 2) hL h3.1.1 rfl (by decide) ⟨_, rfl, ?_⟩)
  refine kL_list_262 (by omega) (bel_X (k := 4) (by decide) rfl (by decide) ⟨_, rfl, ?_⟩)
  have e4 : (1 : Int) + (bN (ce 2) 4 : Int) = (C4 ce : Int) := by unfold C4; omega
  refine kL_list_266 (S_3 := aPut (aNew S3 102 (C4 ce) (C4 ce)) (aX S) 4 (some (aX S3))) (by omega) ((nK_lt h3.2.1.2.2).trans h3.2.1.1) (by rw [e4, Int.toNat_natCast]) ?_
  have t4 := h3.tab (n := C4 ce) (by decide) (by decide) (fun _ => hm3) rfl (by omega)
  refine ls4 (z := 7 + 8 * C2 ce + 1 + mny ce + 1) (bs := tx2 ce (C2 ce)) hL (by omega) (by omega) (fun S4 M4 v4 m4 T4 A4 p4 p5 h4 hm4 => ?_) (C4 ce) 0 _ _ _ _ _ _ _ (by omega) t4 (h3.m0 (by decide))
  refine kL_list_403 (by omega) (Ls.cell (k := 4) hL h4.1.1 rfl (by decide) ⟨_, rfl, ?_⟩)
  refine kL_list_410 (by omega) (bel_X (k := 5) (by decide) rfl (by decide) ⟨_, rfl, ?_⟩)
  have e5 : (1 : Int) + (bN (ce 4) 5 : Int) = (C5 ce : Int) := by unfold C5; omega
  refine kL_list_414 (S_3 := aPut (aNew S4 102 (C5 ce) (C5 ce)) (aX S) 5 (some (aX S4))) (by omega) ((nK_lt h4.2.1.2.2).trans h4.2.1.1) (by rw [e5, Int.toNat_natCast]) ?_
  have t5 := h4.tab (n := C5 ce) (by decide) (by decide) (fun _ => hm4) rfl (by omega)
  refine ls5 (z := 7 + 8 * C2 ce + 1 + mny ce + 1 + 8 * C4 ce + 1) (bs := tx4 ce (tx2 ce (C2 ce)) (C4 ce)) hL (by omega) (by omega) (fun S5 M5 v5 m5 T5 A5 p4 p5 h5 hm5 => ?_) (C5 ce) 0 _ _ _ _ _ _ _ (by omega) t5 (h4.m0 (by decide))
  refine kL_list_679 (by omega) (Ls.cell (k := 7) hL h5.1.1 rfl (by decide) ⟨_, rfl, ?_⟩)
  refine kL_list_686 (by omega) (bel_X (k := 8) (by decide) rfl (by decide) ⟨_, rfl, ?_⟩)
  refine kL_list_691 ⟨by omega, by show (C6 ce : Int) ≤ 1000000; omega⟩ ((nK_lt h5.2.1.2.2).trans h5.2.1.1) ?_
  rw [Int.toNat_natCast]
  have t6 := h5.tab (n := C6 ce) (by decide) (by decide) (fun _ => hm5) rfl (by omega)
  refine ls6 (z := 7 + 8 * C2 ce + 1 + mny ce + 1 + 8 * C4 ce + 1 + 14 * C5 ce + 1) (bs := tx5 ce (tx4 ce (tx2 ce (C2 ce)) (C4 ce)) (C5 ce)) hL (by omega) (by omega) (fun S6 M6 m6 v6 T6 A6 h6 hm6 => ?_) (C6 ce) 0 _ _ _ _ _ _ _ _ _ _ _ _ (by omega) t6 (h5.m0 (by decide))
  exact q _ _ _ _ _ _ (h6.le (by omega)) hm6
end LY
