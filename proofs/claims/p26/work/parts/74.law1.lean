/-! contracts of the law: below, cell, passed, act -/
section C31
variable {E : Nat → Value} {d : Nat} {S : aS} {M : Nat → Nat → Int} {Q : Option (Option Value) → aS → aI → Prop} {s : Nat} {T : Nat → Nat} {A : Nat → Nat → Nat} {c : Nat → Nat} {R W O : Nat → Nat → Int} {cl t t2 rk rd rd0 : Nat}
theorem toInt_R (z : Int32) : R32 z.toInt := by
  have h := nz_R z.toInt
  unfold nz at h
  rw [ofI_self] at h
  exact h
theorem and_nn (a : Int32) : 0 ≤ (a &&& 2147483647).toInt := by
  show 0 ≤ (a &&& 2147483647).toBitVec.toInt
  rw [Int32.toBitVec_and]
  have h2 : (2147483647 : Int32).toBitVec.msb = false := by decide
  have h : (a.toBitVec &&& (2147483647 : Int32).toBitVec).msb = false := by rw [BitVec.msb_and, h2, Bool.and_false]
  rw [BitVec.toInt_eq_toNat_of_msb h]
  exact Int.natCast_nonneg _
/-- below -/
def bel (v n : Int) : Int := ((Int32.ofInt v &&& Int32.ofInt 2147483647).toInt).tmod n
theorem bel_in {v n : Int} (hn : 1 ≤ n) : 0 ≤ bel v n ∧ bel v n < n := by
  have h := and_nn (Int32.ofInt v)
  unfold bel
  exact ⟨Int.tmod_nonneg _ h, Int.tmod_lt_of_pos _ (by omega)⟩
theorem mL_below {v n : Int} (hn : 1 ≤ n ∧ n ≤ 2147483647) (q : Q (some (some (J (bel v n)))) S (mI M)) : X E d fL_below 0 [some (J v), some (J n)] [] S (mI M) Q :=
  kL_below_0 (toInt_R _) ⟨by omega, by omega⟩ (by omega) q
/-- a cell of the script -/
def cel (f : Nat → Int) (n : Nat) (k : Int) : Int := if k < (n : Int) then f k.toNat else nz (790386105 * (k + 3))
theorem mL_cell {a n : Nat} {k : Int} (ha : aKd S a = 100) (hn : aN S a = n) (hn2 : n ≤ 1000000) (hk : 0 ≤ k ∧ k ≤ 1000) (q : Q (some (some (J (cel (M a) n k)))) S (mI M)) : X E d fL_cell 0 [some (.ref a), some (J k)] [] S (mI M) Q := by
  unfold cel at q
  refine kL_cell_0 (Or.inl ha) ⟨by omega, by omega⟩ ⟨by omega, by omega⟩ (fun h => ?_) (fun h => ?_)
  · rw [if_neg (by omega), J_nz] at q
    exact kL_cell_12 (kL_cell_18 q)
  · rw [if_pos (by omega)] at q
    exact kL_cell_6 ha ⟨by omega, by omega⟩ ⟨by omega, by omega⟩ (kL_cell_18 q)
theorem mW_mW {a k : Nat} {x y : Int} : mW (mW M a k x) a k y = mW M a k y := by
  funext b j
  rw [mW_get, mW_get, mW_get]
  by_cases h : b = a ∧ j = k
  · rw [if_pos h, if_pos h]
  · rw [if_neg h, if_neg h, if_neg h]
theorem mL_passed (h : BoH S M s T A c cl t t2 rk rd rd0 R W O) (hK : RdK c R O) (hRZ : RZ R) (hW : WOk c W) (hlg : W 0 16 = -1) {n : Nat} (hn : 1 ≤ n ∧ n ≤ 120) (hps : R32 (sSum (sDays R n W 10) (c 5) - sSum (W 10) (c 5))) (hd : 8 ≤ d)
    (k : ∀ M', BoH S M' s T A c cl t t2 rk rd rd0 R (sDays R n W) O → (∀ b, t2 + 12 < b → M' b = M b) → Q (some (some (J 1))) S (mI M')) :
    X E d fL_passed 0 [some (.ref cl), some (.ref s), some (J n), none] [] S (mI M) Q := by
  have l := h.1.w.lt
  have hcc := h.sm.sm.c
  have hns := h.sm.v.n
  have q5 : (R 0 3).toNat = c 5 := by omega
  have h9 : ∀ a : Nat, (a : Int) < R 0 3 → 1 ≤ W 9 a := fun a ha => hW.2.2.2 a (by omega)
  refine kL_passed_0 (by omega) (mX8_passed h.sm.sm h.sm.v ⟨_, rfl, ?_⟩) h.sm.sm.kd
  refine kL_passed_4 (t0 := sSum (W 10) (c 5)) (by omega) (mX8_on h.sm.sm h.sm.v h.cc.m hW hK hlg (by omega) (by omega) (fun M2 hM2 hV2 hW2 hF2 => ⟨_, rfl, ?_⟩)) h.sm.sm.kd
  have hi2 := h.sm.hi hF2
  have hC2 : ClH S M2 cl t t2 rk rd rd0 R W := h.cc.ext (aExt.refl _) hM2 (fun b g1 g2 => hi2 b g1)
  refine kL_passed_10 (u0 := s) (by omega) (aPass hC2 hRZ (by omega) hn h9 (fun M3 hC3 hf3 => ⟨_, rfl, ?_⟩)) hC2.w.c.kd
  have hS3 : SmH S M3 s T A c R (sDays R n W) O cl := SmH.fr ⟨h.sm.sm, h.sm.l, hV2⟩ (fun b hb => hf3 b (Or.inl hb))
  rw [q5]
  refine kL_passed_16 (t0 := sSum (sDays R n W 10) (c 5) - sSum (W 10) (c 5)) (by omega) (mX8_passed hS3.sm hS3.v ⟨_, rfl, ?_⟩) hS3.sm.kd
  refine kL_passed_20 (t0 := sSum (sDays R n W 10) (c 5)) (t1 := sSum (sDays R n W 10) (c 5) - sSum (W 10) (c 5)) hps hps (fun h => absurd rfl h) (fun _ => ?_)
  exact kL_passed_25 (kL_passed_30 (by decide) (k M3 ⟨hC3, hS3⟩ (fun b hb => (hf3 b (Or.inr hb)).trans (hi2 b (by omega)))))
/-- what is done by hand -/
abbrev Act (R W W' : Nat → Nat → Int) : Prop :=
  (∃ (g : Nat) (x : Int), (g : Int) < R 0 2 ∧ 0 ≤ x ∧ x ≤ 60 ∧ W' = mW W 4 g x) ∨ (∃ (a : Nat) (x : Int), (a : Int) < R 0 3 ∧ 1 ≤ x ∧ x ≤ 16 ∧ W' = mW W 9 a x) ∨ (∃ (st : Nat) (x : Int), (st : Int) < R 0 0 ∧ 1 ≤ x ∧ x ≤ 999 ∧ x ≤ W 0 3 ∧ W' = (sMend R W st x).2)
    ∨ W' = W ∨ (∃ x : Int, 1 ≤ x ∧ x ≤ 9999 ∧ W' = sCap (mW W 0 3 (nz (W 0 3 + x)))) ∨ (∃ n : Nat, 1 ≤ n ∧ n ≤ 30 ∧ W' = sDays R n W)
theorem X_cvT {F : aF} {pc : Nat} {L : List (Option Value)} {I : aI} {ins : Instr} {q k mL nA kd b : Nat} {G : aF} {C : String} {as rest : List Value} (hd : decode F.2.1 pc = .ok (ins, 3)) (hins : ins = .invokevirtual q ∧ kd = 1 ∧ (F.1 != 23 || q != 310) = true) (ht : aThr F pc = false) (he : aCn F.1 q = some (G, mL, nA, k, C)) (hk : aKnd k = kd) (hl : as.length = nA) (hA : as.all aArg = true) (hr : aCat rest ≤ 8) (hb : k = 2 ∨ k = 5 ∨ (vwCl[aKd S b]?).map (fun q => q.1) = some C) (h1 : 1 ≤ d) (hh : aHnd F pc = true) (h7 : 7 < L.length)
    (kk : X E (d - 1) G 0 (aArgs (.ref b :: as.reverse) mL) [] S I (fun o S1 I1 => Kr E d F (pc + 3) L rest Q o S1 I1 ∨ o = none ∧ X E d F 270 (L.set 7 none) [] S1 I1 Q)) : X E d F pc L (as ++ .ref b :: rest) S I Q := by
  unfold aCn at he
  cases hf : aCal F.1 q with
  | none => rw [hf] at he; cases he
  | some e =>
    rw [hf] at he
    simp only [Option.map_some, Option.some.injEq, Prod.mk.injEq] at he
    obtain ⟨rfl, rfl, rfl, rfl, rfl⟩ := he
    refine X_callT (en := e) (as := .ref b :: as.reverse) (rest := rest) ht h1 ?_ hh h7 kk
    have hcall : aCall kd F.1 q (as ++ .ref b :: rest) S = some (.inr (.inr (e, .ref b :: as.reverse, rest))) := by
      unfold aCall
      rw [hf]
      dsimp only
      have hkd : kd ≠ 0 := by omega
      rw [if_pos hk, if_neg hkd, ← hl, List.drop_left]
      dsimp only
      rw [if_pos ⟨by simp, by simp [hA], hr, hb⟩]
      simp
    unfold aStep
    rw [hd]
    dsimp only
    obtain ⟨rfl, rfl, h2⟩ := hins
    rw [if_pos (show aLen (.invokevirtual q) 3 = true from rfl)]
    simp only [aIns]
    rw [if_neg (by rintro ⟨z1, z2⟩; rw [z1, z2] at h2; exact absurd h2 (by decide))]
    exact hcall
theorem kL_act_239T {a0 : Nat} {o1 : Option Value} {o2 : Option Value} {x3 : Int} {x4 : Int} {o5 : Option Value} {o6 : Option Value} {o7 : Option Value} {t0 : Int} (hd1 : 1 ≤ d) (k : X E (d - 1) fX7_mend 0 [some (.ref a0), some (J x3), some (J x4)] [] S (mI M) (fun o S1 I1 => Kr E d fL_act 248 [some (.ref a0), o1, o2, some (J x3), some (J x4), o5, some (J t0), o7] [] Q o S1 I1 ∨ o = none ∧ X E d fL_act 270 [some (.ref a0), o1, o2, some (J x3), some (J x4), o5, some (J t0), none] [] S1 I1 Q)) (g1 : aKd S a0 = 9) : X E d fL_act 239 [some (.ref a0), o1, o2, some (J x3), some (J x4), o5, o6, o7] [J t0] S (mI M) Q := by
  refine X_istore 241 (by decide +kernel : decode cL_act 239 = .ok (.istore 6, 2)) rfl rfl (Nat.le_of_ble_eq_true rfl) rfl ?_
  refine X_aload_n 242 (by decide +kernel : decode cL_act 241 = .ok (.aload_n 0, 1)) rfl rfl rfl ?_
  refine X_iload_n 243 (by decide +kernel : decode cL_act 242 = .ok (.iload_n 3, 1)) rfl rfl rfl ?_
  refine X_iload 245 (by decide +kernel : decode cL_act 243 = .ok (.iload 4, 2)) rfl rfl rfl ?_
  exact X_cvT (as := [J x4, J x3]) (rest := []) (by decide +kernel : decode cL_act 245 = .ok (.invokevirtual 201, 3)) ⟨rfl, rfl, rfl⟩ rfl rfl rfl rfl rfl (Nat.le_of_ble_eq_true rfl) (Or.inr (Or.inr (by rw [g1]; rfl))) hd1 rfl (Nat.le_of_ble_eq_true rfl) k
theorem kL_act_270 {o0 : Option Value} {o1 : Option Value} {o2 : Option Value} {o3 : Option Value} {o4 : Option Value} {x5 : Int} {o6 : Option Value} {o7 : Option Value} (r1 : R32 x5) (k1 : x5 ≠ 0 → X E d fL_act 279 [o0, o1, o2, o3, o4, some (J x5), o6, o7] [] S (mI M) Q) (k2 : x5 = 0 → X E d fL_act 275 [o0, o1, o2, o3, o4, some (J x5), o6, o7] [] S (mI M) Q) : X E d fL_act 270 [o0, o1, o2, o3, o4, some (J x5), o6, o7] [] S (mI M) Q := by
  refine X_iload 272 (by decide +kernel : decode cL_act 270 = .ok (.iload 5, 2)) rfl rfl rfl ?_
  exact X_ifne 279 275 (by decide +kernel : decode cL_act 272 = .ok (.ifCond .ne 7, 3)) rfl rfl (by decide) r1 k1 k2
theorem kL_act_279 {o0 : Option Value} {o1 : Option Value} {o2 : Option Value} {o3 : Option Value} {o4 : Option Value} {o5 : Option Value} {o6 : Option Value} {o7 : Option Value} (k : X E d fL_act 280 [o0, o1, o2, o3, o4, o5, o6, o7] [J 0] S (mI M) Q) : X E d fL_act 279 [o0, o1, o2, o3, o4, o5, o6, o7] [] S (mI M) Q := by
  refine X_iconst 280 (by decide +kernel : decode cL_act 279 = .ok (.iconst 0, 1)) rfl rfl ?_
  exact k
theorem kL_act_275 {o0 : Option Value} {o1 : Option Value} {o2 : Option Value} {o3 : Option Value} {o4 : Option Value} {o5 : Option Value} {o6 : Option Value} {o7 : Option Value} (k : X E d fL_act 280 [o0, o1, o2, o3, o4, o5, o6, o7] [J 1] S (mI M) Q) : X E d fL_act 275 [o0, o1, o2, o3, o4, o5, o6, o7] [] S (mI M) Q := by
  refine X_iconst 276 (by decide +kernel : decode cL_act 275 = .ok (.iconst 1, 1)) rfl rfl ?_
  exact X_goto 280 (by decide +kernel : decode cL_act 276 = .ok (.goto 4, 3)) rfl (by decide) k
theorem kL_act_280 {o0 : Option Value} {o1 : Option Value} {o2 : Option Value} {o3 : Option Value} {o4 : Option Value} {o5 : Option Value} {o6 : Option Value} {o7 : Option Value} {t0 : Int} (h1 : narrow .boolean (J t0) = J t0) (q : Q (some (some (J t0))) S (mI M)) : X E d fL_act 280 [o0, o1, o2, o3, o4, o5, o6, o7] [J t0] S (mI M) Q := by
  exact X_iret (by decide +kernel : decode cL_act 280 = .ok (.ireturn, 1)) rfl rfl h1 q
theorem SmH.put1 {j k q : Nat} {x : Int} (h : SmH S M s T A c R W O cl) (hk : k < c j) (hq : lk j q ≠ 0) : SmH S (mW M (A j k) q x) s T A c R (mW W (lk j q) k x) O cl := ⟨h.sm, h.l, h.v.put h.sm hk hq⟩
theorem mL_act {x : Int} (h : BoH S M s T A c cl t t2 rk rd rd0 R W O) (hK : RdK c R O) (hRZ : RZ R) (hW : WOk c W) (hlg : W 0 16 = -1) (h1 : 1 ≤ c 2 ∧ 1 ≤ c 4 ∧ 1 ≤ c 5) (hco : 0 ≤ W 0 3 ∧ W 0 3 ≤ 99999) (hps : ∀ n : Nat, 1 ≤ n → n ≤ 30 → R32 (sSum (sDays R n W 10) (c 5) - sSum (W 10) (c 5))) (hd : 9 ≤ d)
    (k : ∀ S' M' W', aExt S S' → aX S' ≤ aX S + 1 → aZ S' ≤ aZ S + 6 → BoH S' M' s T A c cl t t2 rk rd rd0 R W' O → Act R W W' → (∀ b, t2 + 12 < b → M' b = M b) → Q (some (some (J 1))) S' (mI M')) :
    X E d fL_act 0 [some (.ref cl), some (.ref s), some (J x), none, none, none, none, none] [] S (mI M) Q := by
  have l := h.1.w.lt
  have hcc := h.sm.sm.c
  have hns := h.sm.v.n
  have hS := h.sm.sm
  have lA := h.sm.l
  have hcoin : M s 1 = W 0 3 := h.sm.v.coins
  -- a number of a table's row
  have hb : ∀ {j : Nat} (v : Int), 2 ≤ j → j ≤ 6 → 1 ≤ c j → ∃ g : Nat, bel v (c j : Int) = (g : Int) ∧ g < c j := fun {j} v _ _ hj => by
    have z := bel_in (v := v) (n := (c j : Int)) (by omega)
    exact ⟨(bel v (c j : Int)).toNat, by omega, by omega⟩
  have clw : ∀ (M' : Nat → Nat → Int), RM M' → (∀ b, cl ≤ b → M' b = M b) → ClH S M' cl t t2 rk rd rd0 R W := fun M' hM' hf => h.cc.ext (aExt.refl _) hM' (fun b g1 g2 => hf b g1)
  have hmend : X E d fL_act 166 [some (.ref cl), some (.ref s), some (J x), none, none, none, none, none] [] S (mI M) Q := by
    have n4 := hS.nT 2 (by decide) (by decide)
    refine kL_act_166 hS.kd (hS.pT 2 (by decide) (by decide)) (Or.inr (Or.inr (hS.dT 2 (by decide) (by decide)))) (by omega) ?_
    rw [n4]
    obtain ⟨g, eg, hg⟩ := hb (j := 2) (Int32.ofInt x >>> (Int32.ofInt 3 &&& 31)).toInt (by decide) (by decide) h1.1
    refine mL_below ⟨by omega, by omega⟩ ⟨_, rfl, ?_⟩
    rw [eg]
    refine kL_act_177 (t0 := (g : Int)) (by omega) (mL_below ⟨by decide, by decide⟩ ⟨_, rfl, ?_⟩)
    generalize (Int32.ofInt x >>> (Int32.ofInt 9 &&& 31)).toInt = v9
    generalize (Int32.ofInt x >>> (Int32.ofInt 5 &&& 31)).toInt = v5
    have z4 := bel_in (v := v9) (n := 4) (by decide)
    have hfin : ∀ m : Int, (m = 999 ∨ m = 60) → X E d fL_act 201 [some (.ref cl), some (.ref s), some (J x), some (J (g : Int)), none, none, none, none] [J m, J v5, J 1] S (mI M) Q := by
      intro m hm
      have zm := bel_in (v := v5) (n := m) (by omega)
      refine kL_act_201 (by omega) (mL_below ⟨by omega, by omega⟩ ⟨_, rfl, ?_⟩)
      generalize bel v5 m = y at zm
      have hcl : 1 ≤ 1 + y ∧ 1 + y ≤ 999 := by omega
      refine kL_act_204 (t0 := y) (t1 := 1) hS.kd (h.cc.m _ _) ⟨by omega, by omega⟩ (fun hlt => ?_) (fun hle => ?_)
      · -- too few
        rw [hcoin] at hlt
        refine kL_act_220 (kL_act_221 R32_0 (fun _ => ?_) (fun h => absurd rfl h))
        refine kL_act_238 (kL_act_239T (by omega) ?_ h.cc.w.c.kd)
        refine aMend h.cc hRZ (by omega) (by omega) hcl (fun _ => Or.inr ⟨rfl, ?_⟩) (fun h => absurd h (by omega))
        refine kL_act_270 R32_0 (fun h => absurd rfl h) (fun _ => ?_)
        exact kL_act_275 (kL_act_280 (by decide) (k _ M W (aExt.new _ _ _ _) (Nat.le_refl _) (Nat.le_refl _) (h.ext (aExt.new _ _ _ _) h.cc.m (fun _ _ => rfl)) (Or.inr (Or.inr (Or.inr (Or.inl rfl)))) (fun _ _ => rfl)))
      · rw [hcoin] at hle
        refine kL_act_216 (kL_act_221 ⟨by decide, by decide⟩ (fun h => absurd h (by decide)) (fun _ => ?_))
        refine kL_act_228 (by omega) (mX8_mend hS h.sm.v h.cc.m hW hK.2.2.2.2 hg ⟨by omega, by omega⟩ (by omega) (fun M2 hM2 hV2 hF2 => ⟨_, rfl, ?_⟩)) hS.kd
        have hi2 := h.sm.hi hF2
        have hC2 := clw M2 hM2 hi2
        show X E d fL_act 235 _ [J (sMend R W g (1 + y)).1] S (mI M2) Q
        rw [← J_nz (sMend R W g (1 + y)).1]
        refine kL_act_235 (kL_act_239T (by omega) ?_ h.cc.w.c.kd)
        refine aMend hC2 hRZ (by omega) (by omega) hcl (fun h => absurd h (by omega)) (fun _ M3 hC3 hf3 => Or.inl ⟨_, rfl, ?_⟩)
        show X E d fL_act 248 _ [J (sMend R W g (1 + y)).1] S (mI M3) Q
        rw [← J_nz (sMend R W g (1 + y)).1]
        refine kL_act_248 (t0 := nz (sMend R W g (1 + y)).1) ⟨by decide, by decide⟩ (fun h => absurd h (by decide)) (fun _ => ?_)
        refine kL_act_255 (nz_R _) (nz_R _) (fun h => absurd rfl h) (fun _ => ?_)
        exact kL_act_262 (kL_act_267 (by decide) (k S M3 _ (aExt.refl _) (Nat.le_add_right _ _) (Nat.le_add_right _ _) ⟨hC3, SmH.fr ⟨hS, lA, hV2⟩ (fun b hb => hf3 b (Or.inl hb))⟩ (Or.inr (Or.inr (Or.inl ⟨g, 1 + y, by omega, hcl.1, hcl.2, hle, rfl⟩))) (fun b hb => (hf3 b (Or.inr hb)).trans (hi2 b (by omega)))))
    exact kL_act_190 (t0 := bel v9 4) (t1 := v5) (t2 := 1) ⟨by omega, by omega⟩ (fun _ => kL_act_199 (hfin 60 (Or.inr rfl))) (fun _ => kL_act_193 (hfin 999 (Or.inl rfl)))
  refine kL_act_0 (by omega) (mL_below ⟨by decide, by decide⟩ ⟨_, rfl, ?_⟩)
  have h9 := bel_in (v := x) (n := 9) (by decide)
  refine kL_act_6 (t0 := bel x 9) ⟨by omega, by omega⟩ (fun _ => ?_) (fun _ => ?_) (fun _ => ?_) (fun _ => ?_) (fun _ => ?_) (fun _ => ?_)
  · -- days
    refine kL_act_343 (by omega) (mL_below ⟨by decide, by decide⟩ ⟨_, rfl, ?_⟩)
    generalize hv8 : (Int32.ofInt x >>> (Int32.ofInt 8 &&& 31)).toInt = v8
    generalize hv4 : (Int32.ofInt x >>> (Int32.ofInt 4 &&& 31)).toInt = v4
    have z4 := bel_in (v := v8) (n := 4) (by decide)
    have hfin : ∀ m : Int, (m = 30 ∨ m = 5) → X E d fL_act 366 [some (.ref cl), some (.ref s), some (J x), none, none, none, none, none] [J m, J v4, J 1, .ref s, .ref cl] S (mI M) Q := by
      intro m hm
      have zm := bel_in (v := v4) (n := m) (by omega)
      refine kL_act_366 (by omega) (mL_below ⟨by omega, by omega⟩ ⟨_, rfl, ?_⟩)
      obtain ⟨n, hn⟩ : ∃ n : Nat, 1 + bel v4 m = (n : Int) := ⟨(1 + bel v4 m).toNat, by omega⟩
      refine kL_act_369 (t0 := bel v4 m) (t1 := 1) (by omega) ?_
      rw [hn]
      exact mL_passed h hK hRZ hW hlg ⟨by omega, by omega⟩ (hps n (by omega) (by omega)) (by omega) (fun M' hB hf => ⟨_, rfl, kL_act_373 (t0 := 1) (by decide) (k S M' _ (aExt.refl _) (Nat.le_add_right _ _) (Nat.le_add_right _ _) hB (Or.inr (Or.inr (Or.inr (Or.inr (Or.inr ⟨n, by omega, by omega, rfl⟩))))) hf)⟩)
    exact kL_act_357 (t0 := bel v8 4) (t1 := v4) (t2 := 1) ⟨by omega, by omega⟩ (fun _ => kL_act_365 (hfin 5 (Or.inr rfl))) (fun _ => kL_act_360 (hfin 30 (Or.inl rfl)))
  · -- a toll
    have n4 := hS.nT 4 (by decide) (by decide)
    refine kL_act_40 hS.kd (hS.pT 4 (by decide) (by decide)) (Or.inr (Or.inr (hS.dT 4 (by decide) (by decide)))) (by omega) ?_
    rw [n4]
    obtain ⟨g, eg, hg⟩ := hb (j := 4) (Int32.ofInt x >>> (Int32.ofInt 3 &&& 31)).toInt (by decide) (by decide) h1.2.1
    refine mL_below ⟨by omega, by omega⟩ ⟨_, rfl, ?_⟩
    rw [eg]
    have nA := hS.nA 4 g (by decide) (by decide) hg
    have w6 : wd 4 = 6 := rfl
    have v1 : M (A 4 g) 1 = W 4 g := h.sm.v.w 4 g 1 hg (by decide)
    refine kL_act_55 (t0 := (g : Int)) (u1 := T 4) (hS.dT 4 (by decide) (by decide)) ⟨by omega, by omega⟩ ⟨by omega, by omega⟩ (hS.pA 4 g (by decide) (by decide) hg) (hS.dA 4 g (by decide) (by decide) hg) ⟨by decide, by rw [nA, w6]; decide⟩ (by omega) (mL_below ⟨by decide, by decide⟩ ⟨_, rfl, ?_⟩)
    have z5 := bel_in (v := (Int32.ofInt x >>> (Int32.ofInt 5 &&& 31)).toInt) (n := 61) (by decide)
    generalize bel (Int32.ofInt x >>> (Int32.ofInt 5 &&& 31)).toInt 61 = y at z5
    rw [v1]
    refine kL_act_72 (t0 := y) (t1 := 1) (u2 := A 4 g) (hS.aA 4 g (by decide) (by decide) hg) ⟨by decide, by decide⟩ ⟨by decide, by rw [nA, w6]; decide⟩ hS.kd (hS.pT 4 (by decide) (by decide)) (Or.inr (Or.inr (hS.dT 4 (by decide) (by decide)))) (by omega) ?_
    rw [n4, show (1 : Int).toNat = 1 from rfl]
    refine mL_below ⟨by omega, by omega⟩ ⟨_, rfl, ?_⟩
    rw [eg]
    have hS2 : SmH S (mW M (A 4 g) 1 y) s T A c R (mW W 4 g y) O cl := h.sm.put1 (j := 4) (k := g) (q := 1) hg (by decide)
    have hC2 := clw (mW M (A 4 g) 1 y) (h.cc.m.w ⟨by omega, by omega⟩) (fun b hb => mW_ne (by have := lA.2.2 4 g (by decide) (by decide) hg; omega))
    refine kL_act_85 (t0 := (g : Int)) (u1 := cl) (hS.dA 4 g (by decide) (by decide) hg) ⟨by decide, by rw [nA, w6]; decide⟩ (by omega) ?_ h.cc.w.c.kd
    rw [mW_self]
    refine aSetToll hC2 (by omega) (by omega) ⟨by omega, by omega⟩ (fun M3 hC3 hf3 => ⟨_, rfl, ?_⟩)
    refine kL_act_91 (t0 := W 4 g) (h.cc.wR _ _) (h.cc.wR _ _) (fun h => absurd rfl h) (fun _ => ?_)
    refine kL_act_96 (kL_act_101 (by decide) (k S M3 _ (aExt.refl _) (Nat.le_add_right _ _) (Nat.le_add_right _ _) ⟨hC3, hS2.fr (fun b hb => hf3 b (Or.inl hb))⟩ (Or.inl ⟨g, y, by omega, by omega, by omega, rfl⟩) (fun b hb => (hf3 b (Or.inr hb)).trans (mW_ne (by have := lA.2.2 4 g (by decide) (by decide) hg; omega)))))
  · -- wheels
    have n4 := hS.nT 5 (by decide) (by decide)
    refine kL_act_102 hS.kd (hS.pT 5 (by decide) (by decide)) (Or.inr (Or.inr (hS.dT 5 (by decide) (by decide)))) (by omega) ?_
    rw [n4]
    obtain ⟨g, eg, hg⟩ := hb (j := 5) (Int32.ofInt x >>> (Int32.ofInt 3 &&& 31)).toInt (by decide) (by decide) h1.2.2
    refine mL_below ⟨by omega, by omega⟩ ⟨_, rfl, ?_⟩
    rw [eg]
    have nA := hS.nA 5 g (by decide) (by decide) hg
    have w6 : wd 5 = 8 := rfl
    have v1 : M (A 5 g) 1 = W 9 g := h.sm.v.w 5 g 1 hg (by decide)
    refine kL_act_117 (t0 := (g : Int)) (u1 := T 5) (hS.dT 5 (by decide) (by decide)) ⟨by omega, by omega⟩ ⟨by omega, by omega⟩ (hS.pA 5 g (by decide) (by decide) hg) (hS.dA 5 g (by decide) (by decide) hg) ⟨by decide, by rw [nA, w6]; decide⟩ (by omega) (mL_below ⟨by decide, by decide⟩ ⟨_, rfl, ?_⟩)
    have z5 := bel_in (v := (Int32.ofInt x >>> (Int32.ofInt 5 &&& 31)).toInt) (n := 16) (by decide)
    generalize bel (Int32.ofInt x >>> (Int32.ofInt 5 &&& 31)).toInt 16 = y at z5
    rw [v1]
    refine kL_act_135 (t0 := y) (t1 := 1) (t2 := 1) (u3 := A 5 g) (hS.aA 5 g (by decide) (by decide) hg) ⟨by decide, by decide⟩ ⟨by decide, by rw [nA, w6]; decide⟩ hS.kd (hS.pT 5 (by decide) (by decide)) (Or.inr (Or.inr (hS.dT 5 (by decide) (by decide)))) (by omega) ?_
    rw [n4, show (1 : Int).toNat = 1 from rfl, nz_eq (x := 1 + y) ⟨by omega, by omega⟩]
    refine mL_below ⟨by omega, by omega⟩ ⟨_, rfl, ?_⟩
    rw [eg]
    have hS2 : SmH S (mW M (A 5 g) 1 (1 + y)) s T A c R (mW W 9 g (1 + y)) O cl := h.sm.put1 (j := 5) (k := g) (q := 1) hg (by decide)
    have hC2 := clw (mW M (A 5 g) 1 (1 + y)) (h.cc.m.w ⟨by omega, by omega⟩) (fun b hb => mW_ne (by have := lA.2.2 5 g (by decide) (by decide) hg; omega))
    refine kL_act_149 (t0 := (g : Int)) (u1 := cl) (hS.dA 5 g (by decide) (by decide) hg) ⟨by decide, by rw [nA, w6]; decide⟩ (by omega) ?_ h.cc.w.c.kd
    rw [mW_self]
    refine aSetWheels hC2 (by omega) (by omega) ⟨by omega, by omega⟩ (fun M3 hC3 hf3 => ⟨_, rfl, ?_⟩)
    refine kL_act_155 (t0 := W 9 g) (h.cc.wR _ _) (h.cc.wR _ _) (fun h => absurd rfl h) (fun _ => ?_)
    refine kL_act_160 (kL_act_165 (by decide) (k S M3 _ (aExt.refl _) (Nat.le_add_right _ _) (Nat.le_add_right _ _) ⟨hC3, hS2.fr (fun b hb => hf3 b (Or.inl hb))⟩ (Or.inr (Or.inl ⟨g, 1 + y, by omega, by omega, by omega, rfl⟩)) (fun b hb => (hf3 b (Or.inr hb)).trans (mW_ne (by have := lA.2.2 5 g (by decide) (by decide) hg; omega)))))
  · exact hmend
  · exact hmend
  · -- coins
    refine kL_act_281 (by omega) (mL_below ⟨by decide, by decide⟩ ⟨_, rfl, ?_⟩)
    generalize (Int32.ofInt x >>> (Int32.ofInt 9 &&& 31)).toInt = v9
    generalize (Int32.ofInt x >>> (Int32.ofInt 4 &&& 31)).toInt = v4
    have z4 := bel_in (v := v9) (n := 4) (by decide)
    have hfin : ∀ m : Int, (m = 9999 ∨ m = 300) → X E d fL_act 305 [some (.ref cl), some (.ref s), some (J x), none, none, none, none, none] [J m, J v4, J 1] S (mI M) Q := by
      intro m hm
      have zm := bel_in (v := v4) (n := m) (by omega)
      refine kL_act_305 (by omega) (mL_below ⟨by omega, by omega⟩ ⟨_, rfl, ?_⟩)
      generalize bel v4 m = y at zm
      refine kL_act_308 (t0 := y) (t1 := 1) hS.kd (by rw [hcoin]; exact ⟨by omega, by omega⟩) hS.k (by omega) ?_ h.cc.w.c.kd
      rw [hcoin]
      have hcap : sCap (mW W 0 3 (nz (W 0 3 + (1 + y)))) = mW W 0 3 (nz (min 99999 (W 0 3 + (1 + y)))) := by
        have e1 : nz (W 0 3 + (1 + y)) = W 0 3 + (1 + y) := nz_eq ⟨by omega, by omega⟩
        have e2 : nz (min 99999 (W 0 3 + (1 + y))) = min 99999 (W 0 3 + (1 + y)) := nz_eq ⟨by omega, by omega⟩
        unfold sCap
        rw [e1, e2, mW_self]
        by_cases g : 99999 < W 0 3 + (1 + y)
        · rw [if_pos g, mW_mW, show min 99999 (W 0 3 + (1 + y)) = 99999 by omega]
        · rw [if_neg g, show min 99999 (W 0 3 + (1 + y)) = W 0 3 + (1 + y) by omega]
      have hS2 : SmH S (mW M s 1 (nz (min 99999 (W 0 3 + (1 + y))))) s T A c R (mW W 0 3 (nz (min 99999 (W 0 3 + (1 + y))))) O cl := ⟨hS, lA, h.sm.v.putS 1 (by decide) hS⟩
      have hC2 := clw (mW M s 1 (nz (min 99999 (W 0 3 + (1 + y))))) h.cc.m.z (fun b hb => mW_ne (by have := lA.1; omega))
      refine aGrant hC2 (by omega) ⟨by omega, by omega⟩ (fun M3 hC3 hf3 => ⟨_, rfl, ?_⟩)
      have hS3 := hS2.fr (fun b hb => hf3 b (Or.inl hb))
      have e3 : M3 s 1 = nz (min 99999 (W 0 3 + (1 + y))) := by rw [hf3 s (Or.inl lA.1), mW_self]
      rw [hcap] at hC3
      have e4 : sCap (mW W 0 3 (nz (W 0 3 + (1 + y)))) 0 3 = nz (min 99999 (W 0 3 + (1 + y))) := by rw [hcap, mW_self]
      rw [e4]
      refine kL_act_330 (t0 := nz (min 99999 (W 0 3 + (1 + y)))) hS.kd (nz_R _) (hC3.m _ _) (fun h => absurd e3.symm h) (fun _ => ?_)
      exact kL_act_337 (kL_act_342 (by decide) (k S M3 _ (aExt.refl _) (Nat.le_add_right _ _) (Nat.le_add_right _ _) ⟨hC3, hS3⟩ (Or.inr (Or.inr (Or.inr (Or.inr (Or.inl ⟨1 + y, by omega, by omega, hcap.symm⟩))))) (fun b hb => (hf3 b (Or.inr hb)).trans (mW_ne (by have := lA.1; omega)))))
    exact kL_act_293 (t0 := bel v9 4) (t1 := v4) (t2 := 1) ⟨by omega, by omega⟩ (fun _ => kL_act_302 (hfin 300 (Or.inr rfl))) (fun _ => kL_act_296 (hfin 9999 (Or.inl rfl)))
end C31
