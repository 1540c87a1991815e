/-! the law -/
section ZN
variable {E : Nat → Value} {d : Nat} {S : aS} {M : Nat → Nat → Int} {Q : Option (Option Value) → aS → aI → Prop} {cb bo bt sa n bs ws bk wk b3 : Nat}
set_option maxHeartbeats 4000000 in
theorem law_all (hW : Wl E S M cb bo bt) (hB : Bf E S M cb bs ws bk wk b3) (hM : RM M) (hcb : cb ≤ aX S) (hsa : sa < cb) (hsk : aKd S sa = 100) (hsn : aN S sa = n) (hn : n ≤ 1000000) (hd : 100 ≤ d)
    (q : ∀ S' I', aX S' ≤ aX S + 5000 → aZ S' ≤ aZ S + 6000000 → Q (some (some (J 1))) S' I') :
    X E d fLaw 0 [some (.ref sa), none, none, none, none, none, none, none, none, none, none, none, none, none, none, none, none, none, none, none, none, none, none, none, none, none, none, none, none, none, none, none, none, none, none, none] [] S (mI M) Q := by
  obtain ⟨ce, hce⟩ : ∃ ce : Nat → Int, ∀ k : Nat, cel (M sa) n (k : Int) = ce k := ⟨fun k => cel (M sa) n (k : Int), fun _ => rfl⟩
  have h2000 := txL_b (ce := ce)
  refine kLaw_0 (by omega) (chInit hW.1 hM (by omega) (fun S1 M1 v1 c1 => ⟨_, rfl, ?_⟩))
  have k1 : Kp cb S M S1 M1 := c1.1.dn hcb
  have hL1 : Ls E S1 M1 cb bo bt sa n ce := ⟨hW.kp k1, ⟨hsa, (k1.kd hsa).trans hsk, (k1.2 sa hsa).1.2.1.trans hsn, hn⟩, fun k => by rw [(k1.2 sa hsa).2]; exact hce k⟩
  have c14 := c1.2.2.2.1
  have c15 := c1.2.2.2.2.1
  have c16 := c1.2.2.2.2.2
  have c11 := c1.1.1
  refine kLaw_7 (by omega) (mL_list hL1 c1.2.1 (by omega) c1.2.2.1 (by omega) (by omega) (by omega) (fun S2 M2 v2 m T A h2 hm2 => ⟨_, rfl, ?_⟩))
  have k2 : Kp cb S1 M1 S2 M2 := h2.1.1
  have m2 : RM M2 := h2.1.2.1
  have s2 := h2.1.2.2.1
  have hs2x := s2.2.2.2.2.2.2.2.2.2.1
  have hv2x := s2.2.2.2.2.2.2.2.2.2.2
  have h2x := h2.1.2.2.2.2.1
  have h2z := h2.1.2.2.2.2.2
  have h2c := k2.1
  obtain ⟨cl, ecl⟩ : ∃ x, aX S2 = x := ⟨_, rfl⟩
  have r0 : RelS cl S2 S2 [] 0 0 := ⟨rfl, ecl, rfl, fun b hb => ⟨rfl, rfl, rfl⟩, fun i k m p h => by cases h⟩
  have q0 : RelM cl 0 M2 M2 [] := ⟨m2, fun _ _ => rfl, fun i j h => absurd h (Nat.not_lt_zero _), fun _ _ _ => rfl⟩
  have r1 := RelS.new (k := 9) (m := 10) (w := 10) r0
  have q1 := RelM.new q0 (RelS.ax r0)
  refine kLaw_13 (by omega) ?_
  rw [ecl] at q1 ⊢
  refine rX7_init (S0 := S2) (M0 := M2) (z := 10) r1 q1 (by omega) (fun S3 M3 r3 q3 => ⟨_, rfl, ?_⟩)
  have hT3 : TbS cl S3 cT := RelS.tb r3
  have x3 : aX S3 = cl + 84 := r3.2.1
  have z3 : aZ S3 = aZ S2 + (10 + 6534) := r3.2.2.1
  obtain ⟨m3, f3, g3, _⟩ := q3
  have k3 : Kp cl S2 M2 S3 M3 := ⟨by omega, fun x hx => ⟨r3.2.2.2.1 x hx, f3 x hx⟩⟩
  have s3 : Sb S3 M3 (aX S) v2 (txL ce) := s2.kp k3 (by omega) (by omega)
  refine kLaw_21 (by omega) (jStr hW.1 m3 s3 (by omega) (by omega) (fun S4 M4 x4 z4 e4 m4 f4 t4 => ⟨_, rfl, ?_⟩)) s3.kd
  have hT4 : TbS cl S4 cT := hT3.ext e4
  have k4 : Kp (aX S3) S3 M3 S4 M4 := ⟨by omega, fun x hx => ⟨e4.2 x hx, f4 x hx⟩⟩
  have kA : Kp cb S M S4 M4 := ((k1.tr k2 (Nat.le_refl _)).tr k3 (by omega)).tr k4 (by omega)
  have hB4 : Bf E S4 M4 cl bs ws bk wk b3 := (hB.kp kA).up (by omega)
  have gz : ∀ i j, i < 84 → (i ≠ 71 ∨ (j ≠ 16 ∧ j ≠ 3)) → (i ≠ 58 ∨ (j ≠ 16 ∧ j ≠ 3)) → i ≠ 0 → M4 (cl + i) j = 0 := fun i j hi h1 h2 h3 => by
    rw [f4 _ (by omega), g3 i j hi]
    unfold gx gx gx gx gx gx gx
    rw [if_neg (by omega), if_neg (by omega), if_neg (by omega), if_neg (by omega), if_neg (by omega), if_neg (by omega)]
  refine kLaw_27 (by omega) (mL_taught hT4 m4 hB4 t4 ⟨by omega, by omega⟩ ?_ (fun x a1 a2 => ?_) (by omega) (fun S5 M5 wv x5 z5 k5 t5 f5 w5 ⟨Mx, h58, g5⟩ => ⟨_, rfl, ?_⟩))
  · have e := g3 0 1 (by decide)
    rw [Nat.add_zero] at e
    rw [f4 cl (by omega), e]
    rfl
  · funext j
    obtain ⟨i, rfl⟩ : ∃ i, x = cl + i := ⟨x - cl, by omega⟩
    exact gz i j (by omega) (by omega) (by omega) (by omega)
  have hw1 : W00 (win 12 M4 (cl + 58)) := w00_of (fun j i hj => by
    by_cases e3 : j = 0 ∧ i = 3
    · obtain ⟨rfl, rfl⟩ := e3
      rw [if_pos ⟨rfl, rfl⟩, show cl + 58 + 0 = cl + 58 by omega, f4 _ (by omega), g3 58 3 (by decide)]
      rfl
    · rw [if_neg e3]
      by_cases e16 : j = 0 ∧ i = 16
      · obtain ⟨rfl, rfl⟩ := e16
        rw [if_pos ⟨rfl, rfl⟩, show cl + 58 + 0 = cl + 58 by omega, f4 _ (by omega), g3 58 16 (by decide)]
        rfl
      · rw [if_neg e16, Nat.add_assoc]
        exact gz _ _ (by omega) (by omega) (by omega) (by omega))
  have hw2 : W00 (win 12 M4 (cl + 71)) := w00_of (fun j i hj => by
    by_cases e3 : j = 0 ∧ i = 3
    · obtain ⟨rfl, rfl⟩ := e3
      rw [if_pos ⟨rfl, rfl⟩, show cl + 71 + 0 = cl + 71 by omega, f4 _ (by omega), g3 71 3 (by decide)]
      rfl
    · rw [if_neg e3]
      by_cases e16 : j = 0 ∧ i = 16
      · obtain ⟨rfl, rfl⟩ := e16
        rw [if_pos ⟨rfl, rfl⟩, show cl + 71 + 0 = cl + 71 by omega, f4 _ (by omega), g3 71 16 (by decide)]
        rfl
      · rw [if_neg e16, Nat.add_assoc]
        exact gz _ _ (by omega) (by omega) (by omega) (by omega))
  obtain ⟨R, W, O, hBo, hG, hRd⟩ := boh_of (S := S5) (M := M5) t5 g5 w5 h58 hw1 hw2 h2 hm2 (by omega) (fun x hx => by
    have a := k5 x (by omega) (Or.inl (by omega))
    have b := (k4.2 x (by omega)).1
    have c := (k3.2 x (by omega)).1
    exact ⟨a.1.trans (b.1.trans c.1), a.2.1.trans (b.2.1.trans c.2.1), a.2.2.trans (b.2.2.trans c.2.2)⟩) (fun x hx => (f5 x (by omega) (Or.inl (by omega))).trans ((k4.2 x (by omega)).2.trans (k3.2 x (by omega)).2))
  refine kLaw_30 (by decide) (fun _ => ?_) (fun h => absurd rfl h)
  have hn1 := hRd.n.1
  have g9 : aKd S5 cl = 9 := t5.kd (i := 0) rfl
  have e2 : cCount R W 0 2 = ((cC ce 2 : Nat) : Int) := hn1.1
  have e3 : cCount R W 0 3 = ((cC ce 3 : Nat) : Int) := hn1.2.1
  have e4' : cCount R W 0 4 = ((cC ce 4 : Nat) : Int) := hn1.2.2.1
  have e5 : cCount R W 0 5 = ((cC ce 5 : Nat) : Int) := hn1.2.2.2.1
  refine kLaw_35 (by omega) (aCount hBo.cc (by omega) (by decide) ⟨_, rfl, ?_⟩) g9
  rw [e2]
  refine kLaw_40 (by omega) (aCount hBo.cc (by omega) (by decide) ⟨_, rfl, ?_⟩) g9
  rw [e3]
  refine kLaw_47 (by omega) (aCount hBo.cc (by omega) (by decide) ⟨_, rfl, ?_⟩) g9
  rw [e4']
  refine kLaw_54 (by omega) (aCount hBo.cc (by omega) (by decide) ⟨_, rfl, ?_⟩) g9
  rw [e5]
  refine kLaw_61 ?_
  have ka5 : aKd S5 sa = 100 := by
    have a := k5 sa (by omega) (Or.inl (by omega))
    have b := kA.2 sa hsa
    unfold aKd at hsk ⊢
    rw [a.1, b.1.1]
    exact hsk
  have na5 : aN S5 sa = n := (k5 sa (by omega) (Or.inl (by omega))).2.1.trans ((kA.2 sa hsa).1.2.1.trans hsn)
  exact lLoop hBo hG hRd fpA (by omega) ka5 na5 hn (by omega) (by omega) (fun S' I' x6 z6 => q S' I' (by omega) (by omega))
end ZN
