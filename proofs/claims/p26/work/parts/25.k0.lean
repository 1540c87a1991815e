/-! straight pieces of methods, by program (wip/p26/blk.py): X7_isOutside X7_valueAt X7_sumOf X6_pay X6_wear X6_tollOf -/
section
variable {E : Nat → Value} {d : Nat} {S : aS} {M : Nat → Nat → Int} {Q : Option (Option Value) → aS → aI → Prop}
theorem kX7_isOutside_0 {x0 : Int} {o1 : Option Value} (r1 : R32 x0) (k1 : x0 < 0 → X E d fX7_isOutside 9 [some (J x0), o1] [] S (mI M) Q) (k2 : 0 ≤ x0 → X E d fX7_isOutside 4 [some (J x0), o1] [] S (mI M) Q) : X E d fX7_isOutside 0 [some (J x0), o1] [] S (mI M) Q := by
  refine X_iload_n 1 (by decide +kernel) rfl rfl rfl ?_
  exact X_iflt 9 4 (by decide +kernel) rfl rfl (by decide) r1 k1 k2
theorem kX7_isOutside_4 {x0 : Int} {x1 : Int} (r1 : R32 x0) (r2 : R32 x1) (k1 : x0 < x1 → X E d fX7_isOutside 13 [some (J x0), some (J x1)] [] S (mI M) Q) (k2 : x1 ≤ x0 → X E d fX7_isOutside 9 [some (J x0), some (J x1)] [] S (mI M) Q) : X E d fX7_isOutside 4 [some (J x0), some (J x1)] [] S (mI M) Q := by
  refine X_iload_n 5 (by decide +kernel) rfl rfl rfl ?_
  refine X_iload_n 6 (by decide +kernel) rfl rfl rfl ?_
  exact X_icmplt 13 9 (by decide +kernel) rfl rfl (by decide) r1 r2 k1 k2
theorem kX7_isOutside_9 {o0 : Option Value} {o1 : Option Value} (k : X E d fX7_isOutside 14 [o0, o1] [J 1] S (mI M) Q) : X E d fX7_isOutside 9 [o0, o1] [] S (mI M) Q := by
  refine X_iconst 10 (by decide +kernel) rfl rfl ?_
  exact X_goto 14 (by decide +kernel) rfl (by decide) k
theorem kX7_isOutside_13 {o0 : Option Value} {o1 : Option Value} (k : X E d fX7_isOutside 14 [o0, o1] [J 0] S (mI M) Q) : X E d fX7_isOutside 13 [o0, o1] [] S (mI M) Q := by
  refine X_iconst 14 (by decide +kernel) rfl rfl ?_
  exact k
theorem kX7_isOutside_14 {o0 : Option Value} {o1 : Option Value} {t0 : Int} (h1 : narrow .boolean (J t0) = J t0) (q : Q (some (some (J t0))) S (mI M)) : X E d fX7_isOutside 14 [o0, o1] [J t0] S (mI M) Q := by
  exact X_iret (by decide +kernel) rfl rfl h1 q
theorem kX7_valueAt_0 {o0 : Option Value} {x1 : Int} (r1 : R32 x1) (k1 : x1 < 0 → X E d fX7_valueAt 16 [o0, some (J x1)] [] S (mI M) Q) (k2 : 0 ≤ x1 → X E d fX7_valueAt 4 [o0, some (J x1)] [] S (mI M) Q) : X E d fX7_valueAt 0 [o0, some (J x1)] [] S (mI M) Q := by
  refine X_iload_n 1 (by decide +kernel) rfl rfl rfl ?_
  exact X_iflt 16 4 (by decide +kernel) rfl rfl (by decide) r1 k1 k2
theorem kX7_valueAt_4 {a0 : Nat} {x1 : Int} (g1 : aKd S a0 = 100 ∨ aKd S a0 = 101 ∨ aKd S a0 = 102) (r2 : R32 x1) (r3 : R32 ((aN S a0 : Int))) (k1 : (aN S a0 : Int) ≤ x1 → X E d fX7_valueAt 16 [some (.ref a0), some (J x1)] [] S (mI M) Q) (k2 : x1 < (aN S a0 : Int) → X E d fX7_valueAt 10 [some (.ref a0), some (J x1)] [] S (mI M) Q) : X E d fX7_valueAt 4 [some (.ref a0), some (J x1)] [] S (mI M) Q := by
  refine X_iload_n 5 (by decide +kernel) rfl rfl rfl ?_
  refine X_aload_n 6 (by decide +kernel) rfl rfl rfl ?_
  refine X_alen 7 (by decide +kernel) rfl rfl g1 ?_
  exact X_icmpge 16 10 (by decide +kernel) rfl rfl (by decide) r2 r3 k1 k2
theorem kX7_valueAt_10 {a0 : Nat} {x1 : Int} (g1 : aKd S a0 = 100) (r2 : R32 x1) (h3 : 0 ≤ x1 ∧ x1 < (aN S a0 : Int)) (k : X E d fX7_valueAt 17 [some (.ref a0), some (J x1)] [J (M a0 x1.toNat)] S (mI M) Q) : X E d fX7_valueAt 10 [some (.ref a0), some (J x1)] [] S (mI M) Q := by
  refine X_aload_n 11 (by decide +kernel) rfl rfl rfl ?_
  refine X_iload_n 12 (by decide +kernel) rfl rfl rfl ?_
  refine X_iald 13 (by decide +kernel) rfl rfl g1 r2 h3 ?_
  exact X_goto 17 (by decide +kernel) rfl (by decide) k
theorem kX7_valueAt_16 {o0 : Option Value} {o1 : Option Value} (k : X E d fX7_valueAt 17 [o0, o1] [J 0] S (mI M) Q) : X E d fX7_valueAt 16 [o0, o1] [] S (mI M) Q := by
  refine X_iconst 17 (by decide +kernel) rfl rfl ?_
  exact k
theorem kX7_valueAt_17 {o0 : Option Value} {o1 : Option Value} {t0 : Int} (q : Q (some (some (J t0))) S (mI M)) : X E d fX7_valueAt 17 [o0, o1] [J t0] S (mI M) Q := by
  exact X_iret (by decide +kernel) rfl rfl rfl q
theorem kX7_sumOf_0 {o0 : Option Value} {o1 : Option Value} {o2 : Option Value} {o3 : Option Value} (k : X E d fX7_sumOf 4 [o0, o1, some (J 0), some (J 0)] [] S (mI M) Q) : X E d fX7_sumOf 0 [o0, o1, o2, o3] [] S (mI M) Q := by
  refine X_iconst 1 (by decide +kernel) rfl rfl ?_
  refine X_istore_n 2 (by decide +kernel) rfl rfl (Nat.le_of_ble_eq_true rfl) rfl ?_
  refine X_iconst 3 (by decide +kernel) rfl rfl ?_
  refine X_istore_n 4 (by decide +kernel) rfl rfl (Nat.le_of_ble_eq_true rfl) rfl ?_
  exact k
theorem kX7_sumOf_4 {o0 : Option Value} {x1 : Int} {o2 : Option Value} {x3 : Int} (r1 : R32 x3) (r2 : R32 x1) (k1 : x1 ≤ x3 → X E d fX7_sumOf 27 [o0, some (J x1), o2, some (J x3)] [] S (mI M) Q) (k2 : x3 < x1 → X E d fX7_sumOf 9 [o0, some (J x1), o2, some (J x3)] [] S (mI M) Q) : X E d fX7_sumOf 4 [o0, some (J x1), o2, some (J x3)] [] S (mI M) Q := by
  refine X_iload_n 5 (by decide +kernel) rfl rfl rfl ?_
  refine X_iload_n 6 (by decide +kernel) rfl rfl rfl ?_
  exact X_icmpge 27 9 (by decide +kernel) rfl rfl (by decide) r1 r2 k1 k2
theorem kX7_sumOf_9 {a0 : Nat} {o1 : Option Value} {o2 : Option Value} {x3 : Int} (g1 : aKd S a0 = 100 ∨ aKd S a0 = 101 ∨ aKd S a0 = 102) (r2 : R32 x3) (r3 : R32 ((aN S a0 : Int))) (k1 : (aN S a0 : Int) ≤ x3 → X E d fX7_sumOf 27 [some (.ref a0), o1, o2, some (J x3)] [] S (mI M) Q) (k2 : x3 < (aN S a0 : Int) → X E d fX7_sumOf 15 [some (.ref a0), o1, o2, some (J x3)] [] S (mI M) Q) : X E d fX7_sumOf 9 [some (.ref a0), o1, o2, some (J x3)] [] S (mI M) Q := by
  refine X_iload_n 10 (by decide +kernel) rfl rfl rfl ?_
  refine X_aload_n 11 (by decide +kernel) rfl rfl rfl ?_
  refine X_alen 12 (by decide +kernel) rfl rfl g1 ?_
  exact X_icmpge 27 15 (by decide +kernel) rfl rfl (by decide) r2 r3 k1 k2
theorem kX7_sumOf_15 {a0 : Nat} {o1 : Option Value} {x2 : Int} {x3 : Int} (g1 : aKd S a0 = 100) (r2 : R32 x3) (h3 : 0 ≤ x3 ∧ x3 < (aN S a0 : Int)) (k : X E d fX7_sumOf 4 [some (.ref a0), o1, some (J (x2 + (M a0 x3.toNat))), some (J (x3 + 1))] [] S (mI M) Q) : X E d fX7_sumOf 15 [some (.ref a0), o1, some (J x2), some (J x3)] [] S (mI M) Q := by
  refine X_iload_n 16 (by decide +kernel) rfl rfl rfl ?_
  refine X_aload_n 17 (by decide +kernel) rfl rfl rfl ?_
  refine X_iload_n 18 (by decide +kernel) rfl rfl rfl ?_
  refine X_iald 19 (by decide +kernel) rfl rfl g1 r2 h3 ?_
  refine X_iadd 20 (by decide +kernel) rfl rfl ?_
  refine X_istore_n 21 (by decide +kernel) rfl rfl (Nat.le_of_ble_eq_true rfl) rfl ?_
  refine X_iinc 24 (by decide +kernel) rfl rfl rfl rfl ?_
  exact X_goto 4 (by decide +kernel) rfl (by decide) k
theorem kX7_sumOf_27 {o0 : Option Value} {o1 : Option Value} {x2 : Int} {o3 : Option Value} (q : Q (some (some (J x2))) S (mI M)) : X E d fX7_sumOf 27 [o0, o1, some (J x2), o3] [] S (mI M) Q := by
  refine X_iload_n 28 (by decide +kernel) rfl rfl rfl ?_
  exact X_iret (by decide +kernel) rfl rfl rfl q
theorem kX6_pay_0 {a0 : Nat} {x1 : Int} {x2 : Int} {o3 : Option Value} (hd1 : 1 ≤ d) (k : X E (d - 1) fX6_tollOf 0 [some (.ref a0), some (J x1), some (J x2)] [] S (mI M) (Kr E d fX6_pay 6 [some (.ref a0), some (J x1), some (J x2), o3] [] Q)) (g1 : aKd S a0 = 8) : X E d fX6_pay 0 [some (.ref a0), some (J x1), some (J x2), o3] [] S (mI M) Q := by
  refine X_aload_n 1 (by decide +kernel) rfl rfl rfl ?_
  refine X_iload_n 2 (by decide +kernel) rfl rfl rfl ?_
  refine X_iload_n 3 (by decide +kernel) rfl rfl rfl ?_
  exact X_cv (as := [J x2, J x1]) (rest := []) (by decide +kernel) (Or.inl ⟨rfl, rfl, rfl⟩) rfl rfl rfl rfl rfl (Nat.le_of_ble_eq_true rfl) (Or.inr (Or.inr (by rw [g1]; rfl))) hd1 k
theorem kX6_pay_6 {a0 : Nat} {x1 : Int} {x2 : Int} {o3 : Option Value} {t0 : Int} {b2 : Nat} {b11 : Nat} {b20 : Nat} (g1 : aKd S a0 = 8) (p3 : aP S a0 15 = some b2) (g4 : aKd S b2 = 100) (r5 : R32 x1) (h6 : 0 ≤ x1 ∧ x1 < (aN S b2 : Int)) (g7 : aK S b2 = 100) (p12 : aP S a0 8 = some b11) (g13 : aKd S b11 = 100) (r14 : R32 x2) (h15 : 0 ≤ x2 ∧ x2 < (aN S b11 : Int)) (g16 : aK S b11 = 100) (p21 : aP S a0 10 = some b20) (g22 : aKd S b20 = 100) (h24 : 0 ≤ x2 ∧ x2 < (aN S b20 : Int)) (r25 : R32 ((mW (mW M b2 x1.toNat ((M b2 x1.toNat) + t0)) b11 x2.toNat (((mW M b2 x1.toNat ((M b2 x1.toNat) + t0)) b11 x2.toNat) + t0)) b20 x2.toNat)) (k1 : ((mW (mW M b2 x1.toNat ((M b2 x1.toNat) + t0)) b11 x2.toNat (((mW M b2 x1.toNat ((M b2 x1.toNat) + t0)) b11 x2.toNat) + t0)) b20 x2.toNat) ≠ (-1) → X E d fX6_pay 50 [some (.ref a0), some (J x1), some (J x2), some (J t0)] [] S (mI (mW (mW M b2 x1.toNat ((M b2 x1.toNat) + t0)) b11 x2.toNat (((mW M b2 x1.toNat ((M b2 x1.toNat) + t0)) b11 x2.toNat) + t0))) Q) (k2 : ((mW (mW M b2 x1.toNat ((M b2 x1.toNat) + t0)) b11 x2.toNat (((mW M b2 x1.toNat ((M b2 x1.toNat) + t0)) b11 x2.toNat) + t0)) b20 x2.toNat) = (-1) → X E d fX6_pay 37 [some (.ref a0), some (J x1), some (J x2), some (J t0)] [] S (mI (mW (mW M b2 x1.toNat ((M b2 x1.toNat) + t0)) b11 x2.toNat (((mW M b2 x1.toNat ((M b2 x1.toNat) + t0)) b11 x2.toNat) + t0))) Q) : X E d fX6_pay 6 [some (.ref a0), some (J x1), some (J x2), o3] [J t0] S (mI M) Q := by
  refine X_istore_n 7 (by decide +kernel) rfl rfl (Nat.le_of_ble_eq_true rfl) rfl ?_
  refine X_aload_n 8 (by decide +kernel) rfl rfl rfl ?_
  refine X_getR 11 (by decide +kernel) rfl rfl (by decide +kernel) g1 p3 ?_
  refine X_iload_n 12 (by decide +kernel) rfl rfl rfl ?_
  refine X_dup2 13 (by decide +kernel) rfl rfl rfl rfl ?_
  refine X_iald 14 (by decide +kernel) rfl rfl g4 r5 h6 ?_
  refine X_iload_n 15 (by decide +kernel) rfl rfl rfl ?_
  refine X_iadd 16 (by decide +kernel) rfl rfl ?_
  refine X_iast 17 (by decide +kernel) rfl rfl g7 r5 h6 ?_
  refine X_aload_n 18 (by decide +kernel) rfl rfl rfl ?_
  refine X_getR 21 (by decide +kernel) rfl rfl (by decide +kernel) g1 p12 ?_
  refine X_iload_n 22 (by decide +kernel) rfl rfl rfl ?_
  refine X_dup2 23 (by decide +kernel) rfl rfl rfl rfl ?_
  refine X_iald 24 (by decide +kernel) rfl rfl g13 r14 h15 ?_
  refine X_iload_n 25 (by decide +kernel) rfl rfl rfl ?_
  refine X_iadd 26 (by decide +kernel) rfl rfl ?_
  refine X_iast 27 (by decide +kernel) rfl rfl g16 r14 h15 ?_
  refine X_aload_n 28 (by decide +kernel) rfl rfl rfl ?_
  refine X_getR 31 (by decide +kernel) rfl rfl (by decide +kernel) g1 p21 ?_
  refine X_iload_n 32 (by decide +kernel) rfl rfl rfl ?_
  refine X_iald 33 (by decide +kernel) rfl rfl g22 r14 h24 ?_
  refine X_iconst 34 (by decide +kernel) rfl rfl ?_
  exact X_icmpne 50 37 (by decide +kernel) rfl rfl (by decide) r25 ⟨by decide, by decide⟩ k1 k2
theorem kX6_pay_37 {a0 : Nat} {o1 : Option Value} {o2 : Option Value} {x3 : Int} (g1 : aKd S a0 = 8) (g2 : aK S a0 = 8) (k : X E d fX6_pay 60 [some (.ref a0), o1, o2, some (J x3)] [] S (mI (mW M a0 3 ((M a0 3) + x3))) Q) : X E d fX6_pay 37 [some (.ref a0), o1, o2, some (J x3)] [] S (mI M) Q := by
  refine X_aload_n 38 (by decide +kernel) rfl rfl rfl ?_
  refine X_dup 39 (by decide +kernel) rfl rfl rfl ?_
  refine X_getI 42 (by decide +kernel) rfl rfl (by decide +kernel) g1 ?_
  refine X_iload_n 43 (by decide +kernel) rfl rfl rfl ?_
  refine X_iadd 44 (by decide +kernel) rfl rfl ?_
  refine X_putI 47 (by decide +kernel) rfl rfl (by decide +kernel) (Or.inl rfl) g2 rfl rfl ?_
  exact X_goto 60 (by decide +kernel) rfl (by decide) k
theorem kX6_pay_50 {a0 : Nat} {o1 : Option Value} {x2 : Int} {x3 : Int} {b2 : Nat} (g1 : aKd S a0 = 8) (p3 : aP S a0 11 = some b2) (g4 : aKd S b2 = 100) (r5 : R32 x2) (h6 : 0 ≤ x2 ∧ x2 < (aN S b2 : Int)) (g7 : aK S b2 = 100) (k : X E d fX6_pay 60 [some (.ref a0), o1, some (J x2), some (J x3)] [] S (mI (mW M b2 x2.toNat ((M b2 x2.toNat) + x3))) Q) : X E d fX6_pay 50 [some (.ref a0), o1, some (J x2), some (J x3)] [] S (mI M) Q := by
  refine X_aload_n 51 (by decide +kernel) rfl rfl rfl ?_
  refine X_getR 54 (by decide +kernel) rfl rfl (by decide +kernel) g1 p3 ?_
  refine X_iload_n 55 (by decide +kernel) rfl rfl rfl ?_
  refine X_dup2 56 (by decide +kernel) rfl rfl rfl rfl ?_
  refine X_iald 57 (by decide +kernel) rfl rfl g4 r5 h6 ?_
  refine X_iload_n 58 (by decide +kernel) rfl rfl rfl ?_
  refine X_iadd 59 (by decide +kernel) rfl rfl ?_
  refine X_iast 60 (by decide +kernel) rfl rfl g7 r5 h6 ?_
  exact k
theorem kX6_pay_60 {o0 : Option Value} {o1 : Option Value} {o2 : Option Value} {o3 : Option Value} (q : Q (some none) S (mI M)) : X E d fX6_pay 60 [o0, o1, o2, o3] [] S (mI M) Q := by
  exact X_vret (by decide +kernel) rfl rfl q
theorem kX6_wear_0 {a0 : Nat} {x1 : Int} {x2 : Int} {o3 : Option Value} {o4 : Option Value} {o5 : Option Value} {b2 : Nat} {b5 : Nat} {b14 : Nat} {b20 : Nat} (g1 : aKd S a0 = 8) (p3 : aP S a0 1 = some b2) (g4 : aKd S b2 = 5) (p6 : aP S b2 10 = some b5) (g7 : aKd S b5 = 100) (r8 : R32 x1) (h9 : 0 ≤ x1 ∧ x1 < (aN S b5 : Int)) (p15 : aP S b2 6 = some b14) (p21 : aP S b2 7 = some b20) (g22 : aKd S b20 = 100) (r23 : R32 x2) (h24 : 0 ≤ x2 ∧ x2 < (aN S b20 : Int)) (hd1 : 1 ≤ d) (k : X E (d - 1) fX7_valueAt 0 [some (.ref b14), some (J (M b20 x2.toNat))] [] S (mI M) (Kr E d fX6_wear 28 [some (.ref a0), some (J x1), some (J x2), o3, o4, o5] [J (M b5 x1.toNat)] Q)) : X E d fX6_wear 0 [some (.ref a0), some (J x1), some (J x2), o3, o4, o5] [] S (mI M) Q := by
  refine X_aload_n 1 (by decide +kernel) rfl rfl rfl ?_
  refine X_getR 4 (by decide +kernel) rfl rfl (by decide +kernel) g1 p3 ?_
  refine X_getR 7 (by decide +kernel) rfl rfl (by decide +kernel) g4 p6 ?_
  refine X_iload_n 8 (by decide +kernel) rfl rfl rfl ?_
  refine X_iald 9 (by decide +kernel) rfl rfl g7 r8 h9 ?_
  refine X_aload_n 10 (by decide +kernel) rfl rfl rfl ?_
  refine X_getR 13 (by decide +kernel) rfl rfl (by decide +kernel) g1 p3 ?_
  refine X_getR 16 (by decide +kernel) rfl rfl (by decide +kernel) g4 p15 ?_
  refine X_aload_n 17 (by decide +kernel) rfl rfl rfl ?_
  refine X_getR 20 (by decide +kernel) rfl rfl (by decide +kernel) g1 p3 ?_
  refine X_getR 23 (by decide +kernel) rfl rfl (by decide +kernel) g4 p21 ?_
  refine X_iload_n 24 (by decide +kernel) rfl rfl rfl ?_
  refine X_iald 25 (by decide +kernel) rfl rfl g22 r23 h24 ?_
  exact X_cs (as := [J (M b20 x2.toNat), .ref b14]) (rest := [J (M b5 x1.toNat)]) (by decide +kernel) rfl rfl rfl rfl rfl rfl rfl (Nat.le_of_ble_eq_true rfl) hd1 k
theorem kX6_wear_28 {a0 : Nat} {x1 : Int} {o2 : Option Value} {o3 : Option Value} {o4 : Option Value} {o5 : Option Value} {t0 : Int} {t1 : Int} {b2 : Nat} (g1 : aKd S a0 = 8) (p3 : aP S a0 12 = some b2) (g4 : aKd S b2 = 100) (r5 : R32 x1) (h6 : 0 ≤ x1 ∧ x1 < (aN S b2 : Int)) (r7 : R32 (M b2 x1.toNat)) (k1 : (M b2 x1.toNat) ≤ 0 → X E d fX6_wear 50 [some (.ref a0), some (J x1), o2, some (J (t1 * t0)), o4, o5] [] S (mI M) Q) (k2 : 0 < (M b2 x1.toNat) → X E d fX6_wear 39 [some (.ref a0), some (J x1), o2, some (J (t1 * t0)), o4, o5] [] S (mI M) Q) : X E d fX6_wear 28 [some (.ref a0), some (J x1), o2, o3, o4, o5] [J t0, J t1] S (mI M) Q := by
  refine X_imul 29 (by decide +kernel) rfl rfl ?_
  refine X_istore_n 30 (by decide +kernel) rfl rfl (Nat.le_of_ble_eq_true rfl) rfl ?_
  refine X_aload_n 31 (by decide +kernel) rfl rfl rfl ?_
  refine X_getR 34 (by decide +kernel) rfl rfl (by decide +kernel) g1 p3 ?_
  refine X_iload_n 35 (by decide +kernel) rfl rfl rfl ?_
  refine X_iald 36 (by decide +kernel) rfl rfl g4 r5 h6 ?_
  exact X_ifle 50 39 (by decide +kernel) rfl rfl (by decide) r7 k1 k2
theorem kX6_wear_39 {a0 : Nat} {x1 : Int} {o2 : Option Value} {x3 : Int} {o4 : Option Value} {o5 : Option Value} {b2 : Nat} (g1 : aKd S a0 = 8) (p3 : aP S a0 12 = some b2) (g4 : aKd S b2 = 100) (r5 : R32 x1) (h6 : 0 ≤ x1 ∧ x1 < (aN S b2 : Int)) (r7 : R32 x3) (r8 : R32 (M b2 x1.toNat)) (h9 : (M b2 x1.toNat) ≠ 0) (h10 : (M b2 x1.toNat) ≠ -1) (k : X E d fX6_wear 51 [some (.ref a0), some (J x1), o2, some (J x3), o4, o5] [J (x3.tdiv (M b2 x1.toNat))] S (mI M) Q) : X E d fX6_wear 39 [some (.ref a0), some (J x1), o2, some (J x3), o4, o5] [] S (mI M) Q := by
  refine X_iload_n 40 (by decide +kernel) rfl rfl rfl ?_
  refine X_aload_n 41 (by decide +kernel) rfl rfl rfl ?_
  refine X_getR 44 (by decide +kernel) rfl rfl (by decide +kernel) g1 p3 ?_
  refine X_iload_n 45 (by decide +kernel) rfl rfl rfl ?_
  refine X_iald 46 (by decide +kernel) rfl rfl g4 r5 h6 ?_
  refine X_idiv 47 (by decide +kernel) rfl rfl r7 r8 h9 h10 ?_
  exact X_goto 51 (by decide +kernel) rfl (by decide) k
theorem kX6_wear_50 {o0 : Option Value} {o1 : Option Value} {o2 : Option Value} {o3 : Option Value} {o4 : Option Value} {o5 : Option Value} (k : X E d fX6_wear 51 [o0, o1, o2, o3, o4, o5] [J 0] S (mI M) Q) : X E d fX6_wear 50 [o0, o1, o2, o3, o4, o5] [] S (mI M) Q := by
  refine X_iconst 51 (by decide +kernel) rfl rfl ?_
  exact k
theorem kX6_wear_51 {a0 : Nat} {o1 : Option Value} {x2 : Int} {o3 : Option Value} {o4 : Option Value} {o5 : Option Value} {t0 : Int} {b2 : Nat} {b19 : Nat} (g1 : aKd S a0 = 8) (p3 : aP S a0 4 = some b2) (g4 : aKd S b2 = 100) (r5 : R32 x2) (h6 : 0 ≤ x2 ∧ x2 < (aN S b2 : Int)) (r7 : R32 t0) (r8 : R32 (M b2 x2.toNat)) (g15 : aK S b2 = 100) (p20 : aP S a0 5 = some b19) (g21 : aKd S b19 = 100) (h23 : 0 ≤ x2 ∧ x2 < (aN S b19 : Int)) (g24 : aK S b19 = 100) (q : Q (some none) S (mI (mW (mW M b2 x2.toNat ((M b2 x2.toNat) - (min t0 (M b2 x2.toNat)))) b19 x2.toNat (((mW M b2 x2.toNat ((M b2 x2.toNat) - (min t0 (M b2 x2.toNat)))) b19 x2.toNat) + (min t0 (M b2 x2.toNat)))))) : X E d fX6_wear 51 [some (.ref a0), o1, some (J x2), o3, o4, o5] [J t0] S (mI M) Q := by
  refine X_istore 53 (by decide +kernel) rfl rfl (Nat.le_of_ble_eq_true rfl) rfl ?_
  refine X_iload 55 (by decide +kernel) rfl rfl rfl ?_
  refine X_aload_n 56 (by decide +kernel) rfl rfl rfl ?_
  refine X_getR 59 (by decide +kernel) rfl rfl (by decide +kernel) g1 p3 ?_
  refine X_iload_n 60 (by decide +kernel) rfl rfl rfl ?_
  refine X_iald 61 (by decide +kernel) rfl rfl g4 r5 h6 ?_
  refine X_math (z := 0) 64 (by decide +kernel) rfl rfl rfl rfl (by decide) r7 r8 (Nat.le_of_ble_eq_true rfl) ?_
  refine X_istore 66 (by decide +kernel) rfl rfl (Nat.le_of_ble_eq_true rfl) rfl ?_
  refine X_aload_n 67 (by decide +kernel) rfl rfl rfl ?_
  refine X_getR 70 (by decide +kernel) rfl rfl (by decide +kernel) g1 p3 ?_
  refine X_iload_n 71 (by decide +kernel) rfl rfl rfl ?_
  refine X_dup2 72 (by decide +kernel) rfl rfl rfl rfl ?_
  refine X_iald 73 (by decide +kernel) rfl rfl g4 r5 h6 ?_
  refine X_iload 75 (by decide +kernel) rfl rfl rfl ?_
  refine X_isub 76 (by decide +kernel) rfl rfl ?_
  refine X_iast 77 (by decide +kernel) rfl rfl g15 r5 h6 ?_
  refine X_aload_n 78 (by decide +kernel) rfl rfl rfl ?_
  refine X_getR 81 (by decide +kernel) rfl rfl (by decide +kernel) g1 p20 ?_
  refine X_iload_n 82 (by decide +kernel) rfl rfl rfl ?_
  refine X_dup2 83 (by decide +kernel) rfl rfl rfl rfl ?_
  refine X_iald 84 (by decide +kernel) rfl rfl g21 r5 h23 ?_
  refine X_iload 86 (by decide +kernel) rfl rfl rfl ?_
  refine X_iadd 87 (by decide +kernel) rfl rfl ?_
  refine X_iast 88 (by decide +kernel) rfl rfl g24 r5 h23 ?_
  exact X_vret (by decide +kernel) rfl rfl q
theorem kX6_tollOf_0 {a0 : Nat} {x1 : Int} {o2 : Option Value} {b2 : Nat} (g1 : aKd S a0 = 8) (p3 : aP S a0 12 = some b2) (g4 : aKd S b2 = 100) (r5 : R32 x1) (h6 : 0 ≤ x1 ∧ x1 < (aN S b2 : Int)) (r7 : R32 (M b2 x1.toNat)) (k1 : 6 ≤ (M b2 x1.toNat) → X E d fX6_tollOf 20 [some (.ref a0), some (J x1), o2] [] S (mI M) Q) (k2 : (M b2 x1.toNat) < 6 → X E d fX6_tollOf 11 [some (.ref a0), some (J x1), o2] [] S (mI M) Q) : X E d fX6_tollOf 0 [some (.ref a0), some (J x1), o2] [] S (mI M) Q := by
  refine X_aload_n 1 (by decide +kernel) rfl rfl rfl ?_
  refine X_getR 4 (by decide +kernel) rfl rfl (by decide +kernel) g1 p3 ?_
  refine X_iload_n 5 (by decide +kernel) rfl rfl rfl ?_
  refine X_iald 6 (by decide +kernel) rfl rfl g4 r5 h6 ?_
  refine X_bipush 8 (6) (by decide +kernel) rfl rfl (by decide +kernel) ?_
  exact X_icmpge 20 11 (by decide +kernel) rfl rfl (by decide) r7 ⟨by decide, by decide⟩ k1 k2
theorem kX6_tollOf_11 {a0 : Nat} {o1 : Option Value} {x2 : Int} {b2 : Nat} (g1 : aKd S a0 = 8) (p3 : aP S a0 7 = some b2) (g4 : aKd S b2 = 100) (r5 : R32 x2) (h6 : 0 ≤ x2 ∧ x2 < (aN S b2 : Int)) (q : Q (some (some (J ((M b2 x2.toNat) * 2)))) S (mI M)) : X E d fX6_tollOf 11 [some (.ref a0), o1, some (J x2)] [] S (mI M) Q := by
  refine X_aload_n 12 (by decide +kernel) rfl rfl rfl ?_
  refine X_getR 15 (by decide +kernel) rfl rfl (by decide +kernel) g1 p3 ?_
  refine X_iload_n 16 (by decide +kernel) rfl rfl rfl ?_
  refine X_iald 17 (by decide +kernel) rfl rfl g4 r5 h6 ?_
  refine X_iconst 18 (by decide +kernel) rfl rfl ?_
  refine X_imul 19 (by decide +kernel) rfl rfl ?_
  exact X_iret (by decide +kernel) rfl rfl rfl q
theorem kX6_tollOf_20 {a0 : Nat} {x1 : Int} {o2 : Option Value} {b2 : Nat} (g1 : aKd S a0 = 8) (p3 : aP S a0 12 = some b2) (g4 : aKd S b2 = 100) (r5 : R32 x1) (h6 : 0 ≤ x1 ∧ x1 < (aN S b2 : Int)) (r7 : R32 (M b2 x1.toNat)) (k1 : (M b2 x1.toNat) ≤ 11 → X E d fX6_tollOf 42 [some (.ref a0), some (J x1), o2] [] S (mI M) Q) (k2 : 11 < (M b2 x1.toNat) → X E d fX6_tollOf 31 [some (.ref a0), some (J x1), o2] [] S (mI M) Q) : X E d fX6_tollOf 20 [some (.ref a0), some (J x1), o2] [] S (mI M) Q := by
  refine X_aload_n 21 (by decide +kernel) rfl rfl rfl ?_
  refine X_getR 24 (by decide +kernel) rfl rfl (by decide +kernel) g1 p3 ?_
  refine X_iload_n 25 (by decide +kernel) rfl rfl rfl ?_
  refine X_iald 26 (by decide +kernel) rfl rfl g4 r5 h6 ?_
  refine X_bipush 28 (11) (by decide +kernel) rfl rfl (by decide +kernel) ?_
  exact X_icmple 42 31 (by decide +kernel) rfl rfl (by decide) r7 ⟨by decide, by decide⟩ k1 k2
theorem kX6_tollOf_31 {a0 : Nat} {o1 : Option Value} {x2 : Int} {b2 : Nat} (g1 : aKd S a0 = 8) (p3 : aP S a0 7 = some b2) (g4 : aKd S b2 = 100) (r5 : R32 x2) (h6 : 0 ≤ x2 ∧ x2 < (aN S b2 : Int)) (r7 : R32 (M b2 x2.toNat)) (k : X E d fX6_tollOf 48 [some (.ref a0), o1, some (J x2)] [J ((M b2 x2.toNat).tdiv 2)] S (mI M) Q) : X E d fX6_tollOf 31 [some (.ref a0), o1, some (J x2)] [] S (mI M) Q := by
  refine X_aload_n 32 (by decide +kernel) rfl rfl rfl ?_
  refine X_getR 35 (by decide +kernel) rfl rfl (by decide +kernel) g1 p3 ?_
  refine X_iload_n 36 (by decide +kernel) rfl rfl rfl ?_
  refine X_iald 37 (by decide +kernel) rfl rfl g4 r5 h6 ?_
  refine X_iconst 38 (by decide +kernel) rfl rfl ?_
  refine X_idiv 39 (by decide +kernel) rfl rfl r7 ⟨by decide, by decide⟩ (by decide) (by decide) ?_
  exact X_goto 48 (by decide +kernel) rfl (by decide) k
theorem kX6_tollOf_42 {a0 : Nat} {o1 : Option Value} {x2 : Int} {b2 : Nat} (g1 : aKd S a0 = 8) (p3 : aP S a0 7 = some b2) (g4 : aKd S b2 = 100) (r5 : R32 x2) (h6 : 0 ≤ x2 ∧ x2 < (aN S b2 : Int)) (k : X E d fX6_tollOf 48 [some (.ref a0), o1, some (J x2)] [J (M b2 x2.toNat)] S (mI M) Q) : X E d fX6_tollOf 42 [some (.ref a0), o1, some (J x2)] [] S (mI M) Q := by
  refine X_aload_n 43 (by decide +kernel) rfl rfl rfl ?_
  refine X_getR 46 (by decide +kernel) rfl rfl (by decide +kernel) g1 p3 ?_
  refine X_iload_n 47 (by decide +kernel) rfl rfl rfl ?_
  refine X_iald 48 (by decide +kernel) rfl rfl g4 r5 h6 ?_
  exact k
theorem kX6_tollOf_48 {o0 : Option Value} {o1 : Option Value} {o2 : Option Value} {t0 : Int} (q : Q (some (some (J t0))) S (mI M)) : X E d fX6_tollOf 48 [o0, o1, o2] [J t0] S (mI M) Q := by
  exact X_iret (by decide +kernel) rfl rfl rfl q
end
