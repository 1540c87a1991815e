/-! straight pieces of methods, by program (wip/p26/blk.py): X8_pass X8_holds X8_broken X8_least X8_condition X8_go X8_pay X8_toll X8_sum X8_mend X8_passed X8_isSame X8_counts X8_all X8_copy X8_init X8_same X8_on -/
section
variable {E : Nat → Value} {d : Nat} {S : aS} {M : Nat → Nat → Int} {Q : Option (Option Value) → aS → aI → Prop}
theorem kX8_pass_0 {o0 : Option Value} {o1 : Option Value} {o2 : Option Value} {o3 : Option Value} {o4 : Option Value} {o5 : Option Value} {o6 : Option Value} (k : X E d fX8_pass 2 [o0, some (J 0), o2, o3, o4, o5, o6] [] S (mI M) Q) : X E d fX8_pass 0 [o0, o1, o2, o3, o4, o5, o6] [] S (mI M) Q := by
  refine X_iconst 1 (by decide +kernel : decode cX8_pass 0 = .ok (.iconst 0, 1)) rfl rfl ?_
  refine X_istore_n 2 (by decide +kernel : decode cX8_pass 1 = .ok (.istore_n 1, 1)) rfl rfl (Nat.le_of_ble_eq_true rfl) rfl ?_
  exact k
theorem kX8_pass_2 {a0 : Nat} {x1 : Int} {o2 : Option Value} {o3 : Option Value} {o4 : Option Value} {o5 : Option Value} {o6 : Option Value} {b2 : Nat} (g1 : aKd S a0 = 10) (p3 : aP S a0 4 = some b2) (g4 : aKd S b2 = 100 ∨ aKd S b2 = 101 ∨ aKd S b2 = 102) (r5 : R32 x1) (r6 : R32 ((aN S b2 : Int))) (k1 : (aN S b2 : Int) ≤ x1 → X E d fX8_pass 117 [some (.ref a0), some (J x1), o2, o3, o4, o5, o6] [] S (mI M) Q) (k2 : x1 < (aN S b2 : Int) → X E d fX8_pass 11 [some (.ref a0), some (J x1), o2, o3, o4, o5, o6] [] S (mI M) Q) : X E d fX8_pass 2 [some (.ref a0), some (J x1), o2, o3, o4, o5, o6] [] S (mI M) Q := by
  refine X_iload_n 3 (by decide +kernel : decode cX8_pass 2 = .ok (.iload_n 1, 1)) rfl rfl rfl ?_
  refine X_aload_n 4 (by decide +kernel : decode cX8_pass 3 = .ok (.aload_n 0, 1)) rfl rfl rfl ?_
  refine X_getR 7 (by decide +kernel : decode cX8_pass 4 = .ok (.getfield 22, 3)) rfl rfl (by decide +kernel : aFd 10 22 = some (10, 4, true, false)) g1 p3 ?_
  refine X_alen 8 (by decide +kernel : decode cX8_pass 7 = .ok (.arraylength, 1)) rfl rfl g4 ?_
  exact X_icmpge 117 11 (by decide +kernel : decode cX8_pass 8 = .ok (.if_icmp .ge 109, 3)) rfl rfl (by decide) r5 r6 k1 k2
theorem kX8_pass_11 {a0 : Nat} {o1 : Option Value} {o2 : Option Value} {o3 : Option Value} {o4 : Option Value} {o5 : Option Value} {o6 : Option Value} {b2 : Nat} (g1 : aKd S a0 = 10) (p3 : aP S a0 6 = some b2) (g4 : aKd S b2 = 100 ∨ aKd S b2 = 101 ∨ aKd S b2 = 102) (k : X E d fX8_pass 25 [some (.ref a0), o1, some (J (-1)), some (.ref b2), some (J (aN S b2 : Int)), some (J 0), o6] [] S (mI M) Q) : X E d fX8_pass 11 [some (.ref a0), o1, o2, o3, o4, o5, o6] [] S (mI M) Q := by
  refine X_iconst 12 (by decide +kernel : decode cX8_pass 11 = .ok (.iconst (-1), 1)) rfl rfl ?_
  refine X_istore_n 13 (by decide +kernel : decode cX8_pass 12 = .ok (.istore_n 2, 1)) rfl rfl (Nat.le_of_ble_eq_true rfl) rfl ?_
  refine X_aload_n 14 (by decide +kernel : decode cX8_pass 13 = .ok (.aload_n 0, 1)) rfl rfl rfl ?_
  refine X_getR 17 (by decide +kernel : decode cX8_pass 14 = .ok (.getfield 28, 3)) rfl rfl (by decide +kernel : aFd 10 28 = some (10, 6, true, false)) g1 p3 ?_
  refine X_astore_n 18 (by decide +kernel : decode cX8_pass 17 = .ok (.astore_n 3, 1)) rfl rfl (Nat.le_of_ble_eq_true rfl) rfl ?_
  refine X_aload_n 19 (by decide +kernel : decode cX8_pass 18 = .ok (.aload_n 3, 1)) rfl rfl rfl ?_
  refine X_alen 20 (by decide +kernel : decode cX8_pass 19 = .ok (.arraylength, 1)) rfl rfl g4 ?_
  refine X_istore 22 (by decide +kernel : decode cX8_pass 20 = .ok (.istore 4, 2)) rfl rfl (Nat.le_of_ble_eq_true rfl) rfl ?_
  refine X_iconst 23 (by decide +kernel : decode cX8_pass 22 = .ok (.iconst 0, 1)) rfl rfl ?_
  refine X_istore 25 (by decide +kernel : decode cX8_pass 23 = .ok (.istore 5, 2)) rfl rfl (Nat.le_of_ble_eq_true rfl) rfl ?_
  exact k
theorem kX8_pass_25 {o0 : Option Value} {o1 : Option Value} {o2 : Option Value} {o3 : Option Value} {x4 : Int} {x5 : Int} {o6 : Option Value} (r1 : R32 x5) (r2 : R32 x4) (k1 : x4 ≤ x5 → X E d fX8_pass 78 [o0, o1, o2, o3, some (J x4), some (J x5), o6] [] S (mI M) Q) (k2 : x5 < x4 → X E d fX8_pass 32 [o0, o1, o2, o3, some (J x4), some (J x5), o6] [] S (mI M) Q) : X E d fX8_pass 25 [o0, o1, o2, o3, some (J x4), some (J x5), o6] [] S (mI M) Q := by
  refine X_iload 27 (by decide +kernel : decode cX8_pass 25 = .ok (.iload 5, 2)) rfl rfl rfl ?_
  refine X_iload 29 (by decide +kernel : decode cX8_pass 27 = .ok (.iload 4, 2)) rfl rfl rfl ?_
  exact X_icmpge 78 32 (by decide +kernel : decode cX8_pass 29 = .ok (.if_icmp .ge 49, 3)) rfl rfl (by decide) r1 r2 k1 k2
theorem kX8_pass_32 {o0 : Option Value} {o1 : Option Value} {x2 : Int} {a3 : Nat} {o4 : Option Value} {x5 : Int} {o6 : Option Value} {b4 : Nat} (g1 : aKd S a3 = 102) (r2 : R32 x5) (h3 : (0 : Int) ≤ x5 ∧ x5 < (aN S a3 : Int)) (p5 : aP S a3 x5.toNat = some b4) (r6 : R32 x2) (k1 : 0 ≤ x2 → X E d fX8_pass 72 [o0, o1, some (J x2), some (.ref a3), o4, some (J x5), some (.ref b4)] [] S (mI M) Q) (k2 : x2 < 0 → X E d fX8_pass 42 [o0, o1, some (J x2), some (.ref a3), o4, some (J x5), some (.ref b4)] [] S (mI M) Q) : X E d fX8_pass 32 [o0, o1, some (J x2), some (.ref a3), o4, some (J x5), o6] [] S (mI M) Q := by
  refine X_aload_n 33 (by decide +kernel : decode cX8_pass 32 = .ok (.aload_n 3, 1)) rfl rfl rfl ?_
  refine X_iload 35 (by decide +kernel : decode cX8_pass 33 = .ok (.iload 5, 2)) rfl rfl rfl ?_
  refine X_aald 36 (by decide +kernel : decode cX8_pass 35 = .ok (.aaload, 1)) rfl rfl g1 r2 h3 p5 ?_
  refine X_astore 38 (by decide +kernel : decode cX8_pass 36 = .ok (.astore 6, 2)) rfl rfl (Nat.le_of_ble_eq_true rfl) rfl ?_
  refine X_iload_n 39 (by decide +kernel : decode cX8_pass 38 = .ok (.iload_n 2, 1)) rfl rfl rfl ?_
  exact X_ifge 72 42 (by decide +kernel : decode cX8_pass 39 = .ok (.ifCond .ge 33, 3)) rfl rfl (by decide) r6 k1 k2
theorem kX8_pass_42 {o0 : Option Value} {o1 : Option Value} {o2 : Option Value} {o3 : Option Value} {o4 : Option Value} {o5 : Option Value} {a6 : Nat} (g1 : aKd S a6 = 100) (h2 : (0 : Int) ≤ 0 ∧ 0 < (aN S a6 : Int)) (r3 : R32 (M a6 0)) (k1 : (M a6 0) ≠ 1 → X E d fX8_pass 72 [o0, o1, o2, o3, o4, o5, some (.ref a6)] [] S (mI M) Q) (k2 : (M a6 0) = 1 → X E d fX8_pass 50 [o0, o1, o2, o3, o4, o5, some (.ref a6)] [] S (mI M) Q) : X E d fX8_pass 42 [o0, o1, o2, o3, o4, o5, some (.ref a6)] [] S (mI M) Q := by
  refine X_aload 44 (by decide +kernel : decode cX8_pass 42 = .ok (.aload 6, 2)) rfl rfl rfl ?_
  refine X_iconst 45 (by decide +kernel : decode cX8_pass 44 = .ok (.iconst 0, 1)) rfl rfl ?_
  refine X_iald 46 (by decide +kernel : decode cX8_pass 45 = .ok (.iaload, 1)) rfl rfl g1 ⟨by decide, by decide⟩ h2 ?_
  refine X_iconst 47 (by decide +kernel : decode cX8_pass 46 = .ok (.iconst 1, 1)) rfl rfl ?_
  exact X_icmpne 72 50 (by decide +kernel : decode cX8_pass 47 = .ok (.if_icmp .ne 25, 3)) rfl rfl (by decide) r3 ⟨by decide, by decide⟩ k1 k2
theorem kX8_pass_50 {o0 : Option Value} {x1 : Int} {o2 : Option Value} {o3 : Option Value} {o4 : Option Value} {o5 : Option Value} {a6 : Nat} (g1 : aKd S a6 = 100) (h2 : (0 : Int) ≤ 1 ∧ 1 < (aN S a6 : Int)) (r3 : R32 (M a6 1)) (r4 : R32 x1) (k1 : (M a6 1) ≠ x1 → X E d fX8_pass 72 [o0, some (J x1), o2, o3, o4, o5, some (.ref a6)] [] S (mI M) Q) (k2 : (M a6 1) = x1 → X E d fX8_pass 58 [o0, some (J x1), o2, o3, o4, o5, some (.ref a6)] [] S (mI M) Q) : X E d fX8_pass 50 [o0, some (J x1), o2, o3, o4, o5, some (.ref a6)] [] S (mI M) Q := by
  refine X_aload 52 (by decide +kernel : decode cX8_pass 50 = .ok (.aload 6, 2)) rfl rfl rfl ?_
  refine X_iconst 53 (by decide +kernel : decode cX8_pass 52 = .ok (.iconst 1, 1)) rfl rfl ?_
  refine X_iald 54 (by decide +kernel : decode cX8_pass 53 = .ok (.iaload, 1)) rfl rfl g1 ⟨by decide, by decide⟩ h2 ?_
  refine X_iload_n 55 (by decide +kernel : decode cX8_pass 54 = .ok (.iload_n 1, 1)) rfl rfl rfl ?_
  exact X_icmpne 72 58 (by decide +kernel : decode cX8_pass 55 = .ok (.if_icmp .ne 17, 3)) rfl rfl (by decide) r3 r4 k1 k2
theorem kX8_pass_58 {a0 : Nat} {o1 : Option Value} {o2 : Option Value} {o3 : Option Value} {o4 : Option Value} {o5 : Option Value} {a6 : Nat} (hd1 : 1 ≤ d) (k : X E (d - 1) fX8_holds 0 [some (.ref a0), some (.ref a6), none, none] [] S (mI M) (Kr E d fX8_pass 64 [some (.ref a0), o1, o2, o3, o4, o5, some (.ref a6)] [] Q)) (g1 : aKd S a0 = 10) : X E d fX8_pass 58 [some (.ref a0), o1, o2, o3, o4, o5, some (.ref a6)] [] S (mI M) Q := by
  refine X_aload_n 59 (by decide +kernel : decode cX8_pass 58 = .ok (.aload_n 0, 1)) rfl rfl rfl ?_
  refine X_aload 61 (by decide +kernel : decode cX8_pass 59 = .ok (.aload 6, 2)) rfl rfl rfl ?_
  exact X_cv (as := [.ref a6]) (rest := []) (by decide +kernel : decode cX8_pass 61 = .ok (.invokevirtual 56, 3)) (Or.inl ⟨rfl, rfl, rfl⟩) rfl rfl rfl rfl rfl (Nat.le_of_ble_eq_true rfl) (Or.inr (Or.inr (by rw [g1]; rfl))) hd1 k
theorem kX8_pass_64 {o0 : Option Value} {o1 : Option Value} {o2 : Option Value} {o3 : Option Value} {o4 : Option Value} {o5 : Option Value} {o6 : Option Value} {t0 : Int} (r1 : R32 t0) (k1 : t0 = 0 → X E d fX8_pass 72 [o0, o1, o2, o3, o4, o5, o6] [] S (mI M) Q) (k2 : t0 ≠ 0 → X E d fX8_pass 67 [o0, o1, o2, o3, o4, o5, o6] [] S (mI M) Q) : X E d fX8_pass 64 [o0, o1, o2, o3, o4, o5, o6] [J t0] S (mI M) Q := by
  exact X_ifeq 72 67 (by decide +kernel : decode cX8_pass 64 = .ok (.ifCond .eq 8, 3)) rfl rfl (by decide) r1 k1 k2
theorem kX8_pass_67 {o0 : Option Value} {o1 : Option Value} {o2 : Option Value} {o3 : Option Value} {o4 : Option Value} {o5 : Option Value} {a6 : Nat} (g1 : aKd S a6 = 100) (h2 : (0 : Int) ≤ 2 ∧ 2 < (aN S a6 : Int)) (k : X E d fX8_pass 72 [o0, o1, some (J (M a6 2)), o3, o4, o5, some (.ref a6)] [] S (mI M) Q) : X E d fX8_pass 67 [o0, o1, o2, o3, o4, o5, some (.ref a6)] [] S (mI M) Q := by
  refine X_aload 69 (by decide +kernel : decode cX8_pass 67 = .ok (.aload 6, 2)) rfl rfl rfl ?_
  refine X_iconst 70 (by decide +kernel : decode cX8_pass 69 = .ok (.iconst 2, 1)) rfl rfl ?_
  refine X_iald 71 (by decide +kernel : decode cX8_pass 70 = .ok (.iaload, 1)) rfl rfl g1 ⟨by decide, by decide⟩ h2 ?_
  refine X_istore_n 72 (by decide +kernel : decode cX8_pass 71 = .ok (.istore_n 2, 1)) rfl rfl (Nat.le_of_ble_eq_true rfl) rfl ?_
  exact k
theorem kX8_pass_72 {o0 : Option Value} {o1 : Option Value} {o2 : Option Value} {o3 : Option Value} {o4 : Option Value} {x5 : Int} {o6 : Option Value} (k : X E d fX8_pass 25 [o0, o1, o2, o3, o4, some (J (x5 + 1)), o6] [] S (mI M) Q) : X E d fX8_pass 72 [o0, o1, o2, o3, o4, some (J x5), o6] [] S (mI M) Q := by
  refine X_iinc 75 (by decide +kernel : decode cX8_pass 72 = .ok (.iinc 5 1, 3)) rfl rfl rfl rfl ?_
  exact X_goto 25 (by decide +kernel : decode cX8_pass 75 = .ok (.goto (-50), 3)) rfl (by decide) k
theorem kX8_pass_78 {a0 : Nat} {x1 : Int} {o2 : Option Value} {o3 : Option Value} {o4 : Option Value} {o5 : Option Value} {o6 : Option Value} {b2 : Nat} {b7 : Nat} (g1 : aKd S a0 = 10) (p3 : aP S a0 4 = some b2) (g4 : aKd S b2 = 102) (r5 : R32 x1) (h6 : (0 : Int) ≤ x1 ∧ x1 < (aN S b2 : Int)) (p8 : aP S b2 x1.toNat = some b7) (r11 : R32 (M a0 7)) (k1 : x1 ≠ (M a0 7) → X E d fX8_pass 100 [some (.ref a0), some (J x1), o2, o3, o4, o5, o6] [J 4, .ref b7] S (mI M) Q) (k2 : x1 = (M a0 7) → X E d fX8_pass 93 [some (.ref a0), some (J x1), o2, o3, o4, o5, o6] [J 4, .ref b7] S (mI M) Q) : X E d fX8_pass 78 [some (.ref a0), some (J x1), o2, o3, o4, o5, o6] [] S (mI M) Q := by
  refine X_aload_n 79 (by decide +kernel : decode cX8_pass 78 = .ok (.aload_n 0, 1)) rfl rfl rfl ?_
  refine X_getR 82 (by decide +kernel : decode cX8_pass 79 = .ok (.getfield 22, 3)) rfl rfl (by decide +kernel : aFd 10 22 = some (10, 4, true, false)) g1 p3 ?_
  refine X_iload_n 83 (by decide +kernel : decode cX8_pass 82 = .ok (.iload_n 1, 1)) rfl rfl rfl ?_
  refine X_aald 84 (by decide +kernel : decode cX8_pass 83 = .ok (.aaload, 1)) rfl rfl g4 r5 h6 p8 ?_
  refine X_iconst 85 (by decide +kernel : decode cX8_pass 84 = .ok (.iconst 4, 1)) rfl rfl ?_
  refine X_iload_n 86 (by decide +kernel : decode cX8_pass 85 = .ok (.iload_n 1, 1)) rfl rfl rfl ?_
  refine X_aload_n 87 (by decide +kernel : decode cX8_pass 86 = .ok (.aload_n 0, 1)) rfl rfl rfl ?_
  refine X_getI 90 (by decide +kernel : decode cX8_pass 87 = .ok (.getfield 31, 3)) rfl rfl (by decide +kernel : aFd 10 31 = some (10, 7, false, false)) g1 ?_
  exact X_icmpne 100 93 (by decide +kernel : decode cX8_pass 90 = .ok (.if_icmp .ne 10, 3)) rfl rfl (by decide) r5 r11 k1 k2
theorem kX8_pass_93 {a0 : Nat} {o1 : Option Value} {o2 : Option Value} {o3 : Option Value} {o4 : Option Value} {o5 : Option Value} {o6 : Option Value} {t0 : Int} {u1 : Nat} (g1 : aKd S a0 = 10) (k : X E d fX8_pass 101 [some (.ref a0), o1, o2, o3, o4, o5, o6] [J (M a0 8), J t0, .ref u1] S (mI M) Q) : X E d fX8_pass 93 [some (.ref a0), o1, o2, o3, o4, o5, o6] [J t0, .ref u1] S (mI M) Q := by
  refine X_aload_n 94 (by decide +kernel : decode cX8_pass 93 = .ok (.aload_n 0, 1)) rfl rfl rfl ?_
  refine X_getI 97 (by decide +kernel : decode cX8_pass 94 = .ok (.getfield 70, 3)) rfl rfl (by decide +kernel : aFd 10 70 = some (10, 8, false, false)) g1 ?_
  exact X_goto 101 (by decide +kernel : decode cX8_pass 97 = .ok (.goto 4, 3)) rfl (by decide) k
theorem kX8_pass_100 {o0 : Option Value} {o1 : Option Value} {x2 : Int} {o3 : Option Value} {o4 : Option Value} {o5 : Option Value} {o6 : Option Value} {t0 : Int} {u1 : Nat} (k : X E d fX8_pass 101 [o0, o1, some (J x2), o3, o4, o5, o6] [J x2, J t0, .ref u1] S (mI M) Q) : X E d fX8_pass 100 [o0, o1, some (J x2), o3, o4, o5, o6] [J t0, .ref u1] S (mI M) Q := by
  refine X_iload_n 101 (by decide +kernel : decode cX8_pass 100 = .ok (.iload_n 2, 1)) rfl rfl rfl ?_
  exact k
theorem kX8_pass_101 {a0 : Nat} {x1 : Int} {o2 : Option Value} {o3 : Option Value} {o4 : Option Value} {o5 : Option Value} {o6 : Option Value} {t0 : Int} {t1 : Int} {u2 : Nat} {b5 : Nat} {b10 : Nat} (g1 : aK S u2 = 100) (r2 : R32 t1) (h3 : (0 : Int) ≤ t1 ∧ t1 < (aN S u2 : Int)) (g4 : aKd S a0 = 10) (p6 : aP S a0 4 = some b5) (g7 : aKd S b5 = 102) (r8 : R32 x1) (h9 : (0 : Int) ≤ x1 ∧ x1 < (aN S b5 : Int)) (p11 : aP S b5 x1.toNat = some b10) (g12 : aK S b10 = 100) (h13 : (0 : Int) ≤ 5 ∧ 5 < (aN S b10 : Int)) (k : X E d fX8_pass 2 [some (.ref a0), some (J (x1 + 1)), o2, o3, o4, o5, o6] [] S (mI (mW (mW M u2 t1.toNat t0) b10 5 0)) Q) : X E d fX8_pass 101 [some (.ref a0), some (J x1), o2, o3, o4, o5, o6] [J t0, J t1, .ref u2] S (mI M) Q := by
  refine X_iast 102 (by decide +kernel : decode cX8_pass 101 = .ok (.iastore, 1)) rfl rfl g1 r2 h3 ?_
  refine X_aload_n 103 (by decide +kernel : decode cX8_pass 102 = .ok (.aload_n 0, 1)) rfl rfl rfl ?_
  refine X_getR 106 (by decide +kernel : decode cX8_pass 103 = .ok (.getfield 22, 3)) rfl rfl (by decide +kernel : aFd 10 22 = some (10, 4, true, false)) g4 p6 ?_
  refine X_iload_n 107 (by decide +kernel : decode cX8_pass 106 = .ok (.iload_n 1, 1)) rfl rfl rfl ?_
  refine X_aald 108 (by decide +kernel : decode cX8_pass 107 = .ok (.aaload, 1)) rfl rfl g7 r8 h9 p11 ?_
  refine X_iconst 109 (by decide +kernel : decode cX8_pass 108 = .ok (.iconst 5, 1)) rfl rfl ?_
  refine X_iconst 110 (by decide +kernel : decode cX8_pass 109 = .ok (.iconst 0, 1)) rfl rfl ?_
  refine X_iast 111 (by decide +kernel : decode cX8_pass 110 = .ok (.iastore, 1)) rfl rfl g12 ⟨by decide, by decide⟩ h13 ?_
  refine X_iinc 114 (by decide +kernel : decode cX8_pass 111 = .ok (.iinc 1 1, 3)) rfl rfl rfl rfl ?_
  exact X_goto 2 (by decide +kernel : decode cX8_pass 114 = .ok (.goto (-112), 3)) rfl (by decide) k
theorem kX8_pass_117 {o0 : Option Value} {o1 : Option Value} {o2 : Option Value} {o3 : Option Value} {o4 : Option Value} {o5 : Option Value} {o6 : Option Value} (k : X E d fX8_pass 119 [o0, some (J 0), o2, o3, o4, o5, o6] [] S (mI M) Q) : X E d fX8_pass 117 [o0, o1, o2, o3, o4, o5, o6] [] S (mI M) Q := by
  refine X_iconst 118 (by decide +kernel : decode cX8_pass 117 = .ok (.iconst 0, 1)) rfl rfl ?_
  refine X_istore_n 119 (by decide +kernel : decode cX8_pass 118 = .ok (.istore_n 1, 1)) rfl rfl (Nat.le_of_ble_eq_true rfl) rfl ?_
  exact k
theorem kX8_pass_119 {a0 : Nat} {x1 : Int} {o2 : Option Value} {o3 : Option Value} {o4 : Option Value} {o5 : Option Value} {o6 : Option Value} {b2 : Nat} (g1 : aKd S a0 = 10) (p3 : aP S a0 5 = some b2) (g4 : aKd S b2 = 100 ∨ aKd S b2 = 101 ∨ aKd S b2 = 102) (r5 : R32 x1) (r6 : R32 ((aN S b2 : Int))) (k1 : (aN S b2 : Int) ≤ x1 → X E d fX8_pass 156 [some (.ref a0), some (J x1), o2, o3, o4, o5, o6] [] S (mI M) Q) (k2 : x1 < (aN S b2 : Int) → X E d fX8_pass 128 [some (.ref a0), some (J x1), o2, o3, o4, o5, o6] [] S (mI M) Q) : X E d fX8_pass 119 [some (.ref a0), some (J x1), o2, o3, o4, o5, o6] [] S (mI M) Q := by
  refine X_iload_n 120 (by decide +kernel : decode cX8_pass 119 = .ok (.iload_n 1, 1)) rfl rfl rfl ?_
  refine X_aload_n 121 (by decide +kernel : decode cX8_pass 120 = .ok (.aload_n 0, 1)) rfl rfl rfl ?_
  refine X_getR 124 (by decide +kernel : decode cX8_pass 121 = .ok (.getfield 25, 3)) rfl rfl (by decide +kernel : aFd 10 25 = some (10, 5, true, false)) g1 p3 ?_
  refine X_alen 125 (by decide +kernel : decode cX8_pass 124 = .ok (.arraylength, 1)) rfl rfl g4 ?_
  exact X_icmpge 156 128 (by decide +kernel : decode cX8_pass 125 = .ok (.if_icmp .ge 31, 3)) rfl rfl (by decide) r5 r6 k1 k2
theorem kX8_pass_128 {a0 : Nat} {x1 : Int} {o2 : Option Value} {o3 : Option Value} {o4 : Option Value} {o5 : Option Value} {o6 : Option Value} {b3 : Nat} {b8 : Nat} (g1 : aKd S a0 = 10) (p4 : aP S a0 5 = some b3) (g5 : aKd S b3 = 102) (r6 : R32 x1) (h7 : (0 : Int) ≤ x1 ∧ x1 < (aN S b3 : Int)) (p9 : aP S b3 x1.toNat = some b8) (g10 : aKd S b8 = 100) (h11 : (0 : Int) ≤ 4 ∧ 4 < (aN S b8 : Int)) (r12 : R32 (M a0 0)) (r13 : R32 (M b8 4)) (h14 : (M b8 4) ≠ 0) (r15 : R32 ((M a0 0).tmod (M b8 4))) (k1 : ((M a0 0).tmod (M b8 4)) ≠ 0 → X E d fX8_pass 150 [some (.ref a0), some (J x1), o2, o3, o4, o5, o6] [] S (mI M) Q) (k2 : ((M a0 0).tmod (M b8 4)) = 0 → X E d fX8_pass 144 [some (.ref a0), some (J x1), o2, o3, o4, o5, o6] [] S (mI M) Q) : X E d fX8_pass 128 [some (.ref a0), some (J x1), o2, o3, o4, o5, o6] [] S (mI M) Q := by
  refine X_aload_n 129 (by decide +kernel : decode cX8_pass 128 = .ok (.aload_n 0, 1)) rfl rfl rfl ?_
  refine X_getI 132 (by decide +kernel : decode cX8_pass 129 = .ok (.getfield 50, 3)) rfl rfl (by decide +kernel : aFd 10 50 = some (10, 0, false, false)) g1 ?_
  refine X_aload_n 133 (by decide +kernel : decode cX8_pass 132 = .ok (.aload_n 0, 1)) rfl rfl rfl ?_
  refine X_getR 136 (by decide +kernel : decode cX8_pass 133 = .ok (.getfield 25, 3)) rfl rfl (by decide +kernel : aFd 10 25 = some (10, 5, true, false)) g1 p4 ?_
  refine X_iload_n 137 (by decide +kernel : decode cX8_pass 136 = .ok (.iload_n 1, 1)) rfl rfl rfl ?_
  refine X_aald 138 (by decide +kernel : decode cX8_pass 137 = .ok (.aaload, 1)) rfl rfl g5 r6 h7 p9 ?_
  refine X_iconst 139 (by decide +kernel : decode cX8_pass 138 = .ok (.iconst 4, 1)) rfl rfl ?_
  refine X_iald 140 (by decide +kernel : decode cX8_pass 139 = .ok (.iaload, 1)) rfl rfl g10 ⟨by decide, by decide⟩ h11 ?_
  refine X_iremW 141 (by decide +kernel : decode cX8_pass 140 = .ok (.irem, 1)) rfl rfl r12 r13 h14 ?_
  exact X_ifne 150 144 (by decide +kernel : decode cX8_pass 141 = .ok (.ifCond .ne 9, 3)) rfl rfl (by decide) r15 k1 k2
theorem kX8_pass_144 {a0 : Nat} {x1 : Int} {o2 : Option Value} {o3 : Option Value} {o4 : Option Value} {o5 : Option Value} {o6 : Option Value} (hd1 : 1 ≤ d) (k : X E (d - 1) fX8_go 0 [some (.ref a0), some (J x1), none, none, none, none, none] [] S (mI M) (Kr E d fX8_pass 149 [some (.ref a0), some (J x1), o2, o3, o4, o5, o6] [] Q)) (g1 : aKd S a0 = 10) : X E d fX8_pass 144 [some (.ref a0), some (J x1), o2, o3, o4, o5, o6] [] S (mI M) Q := by
  refine X_aload_n 145 (by decide +kernel : decode cX8_pass 144 = .ok (.aload_n 0, 1)) rfl rfl rfl ?_
  refine X_iload_n 146 (by decide +kernel : decode cX8_pass 145 = .ok (.iload_n 1, 1)) rfl rfl rfl ?_
  exact X_cv (as := [J x1]) (rest := []) (by decide +kernel : decode cX8_pass 146 = .ok (.invokevirtual 73, 3)) (Or.inl ⟨rfl, rfl, rfl⟩) rfl rfl rfl rfl rfl (Nat.le_of_ble_eq_true rfl) (Or.inr (Or.inr (by rw [g1]; rfl))) hd1 k
theorem kX8_pass_149 {o0 : Option Value} {o1 : Option Value} {o2 : Option Value} {o3 : Option Value} {o4 : Option Value} {o5 : Option Value} {o6 : Option Value} {t0 : Int} (k : X E d fX8_pass 150 [o0, o1, o2, o3, o4, o5, o6] [] S (mI M) Q) : X E d fX8_pass 149 [o0, o1, o2, o3, o4, o5, o6] [J t0] S (mI M) Q := by
  refine X_pop 150 (by decide +kernel : decode cX8_pass 149 = .ok (.pop, 1)) rfl rfl rfl ?_
  exact k
theorem kX8_pass_150 {o0 : Option Value} {x1 : Int} {o2 : Option Value} {o3 : Option Value} {o4 : Option Value} {o5 : Option Value} {o6 : Option Value} (k : X E d fX8_pass 119 [o0, some (J (x1 + 1)), o2, o3, o4, o5, o6] [] S (mI M) Q) : X E d fX8_pass 150 [o0, some (J x1), o2, o3, o4, o5, o6] [] S (mI M) Q := by
  refine X_iinc 153 (by decide +kernel : decode cX8_pass 150 = .ok (.iinc 1 1, 3)) rfl rfl rfl rfl ?_
  exact X_goto 119 (by decide +kernel : decode cX8_pass 153 = .ok (.goto (-34), 3)) rfl (by decide) k
theorem kX8_pass_156 {a0 : Nat} {o1 : Option Value} {o2 : Option Value} {o3 : Option Value} {o4 : Option Value} {o5 : Option Value} {o6 : Option Value} {b2 : Nat} (g1 : aKd S a0 = 10) (p3 : aP S a0 4 = some b2) (g4 : aKd S b2 = 100 ∨ aKd S b2 = 101 ∨ aKd S b2 = 102) (k : X E d fX8_pass 166 [some (.ref a0), some (.ref b2), some (J (aN S b2 : Int)), some (J 0), o4, o5, o6] [] S (mI M) Q) : X E d fX8_pass 156 [some (.ref a0), o1, o2, o3, o4, o5, o6] [] S (mI M) Q := by
  refine X_aload_n 157 (by decide +kernel : decode cX8_pass 156 = .ok (.aload_n 0, 1)) rfl rfl rfl ?_
  refine X_getR 160 (by decide +kernel : decode cX8_pass 157 = .ok (.getfield 22, 3)) rfl rfl (by decide +kernel : aFd 10 22 = some (10, 4, true, false)) g1 p3 ?_
  refine X_astore_n 161 (by decide +kernel : decode cX8_pass 160 = .ok (.astore_n 1, 1)) rfl rfl (Nat.le_of_ble_eq_true rfl) rfl ?_
  refine X_aload_n 162 (by decide +kernel : decode cX8_pass 161 = .ok (.aload_n 1, 1)) rfl rfl rfl ?_
  refine X_alen 163 (by decide +kernel : decode cX8_pass 162 = .ok (.arraylength, 1)) rfl rfl g4 ?_
  refine X_istore_n 164 (by decide +kernel : decode cX8_pass 163 = .ok (.istore_n 2, 1)) rfl rfl (Nat.le_of_ble_eq_true rfl) rfl ?_
  refine X_iconst 165 (by decide +kernel : decode cX8_pass 164 = .ok (.iconst 0, 1)) rfl rfl ?_
  refine X_istore_n 166 (by decide +kernel : decode cX8_pass 165 = .ok (.istore_n 3, 1)) rfl rfl (Nat.le_of_ble_eq_true rfl) rfl ?_
  exact k
theorem kX8_pass_166 {o0 : Option Value} {o1 : Option Value} {x2 : Int} {x3 : Int} {o4 : Option Value} {o5 : Option Value} {o6 : Option Value} (r1 : R32 x3) (r2 : R32 x2) (k1 : x2 ≤ x3 → X E d fX8_pass 221 [o0, o1, some (J x2), some (J x3), o4, o5, o6] [] S (mI M) Q) (k2 : x3 < x2 → X E d fX8_pass 171 [o0, o1, some (J x2), some (J x3), o4, o5, o6] [] S (mI M) Q) : X E d fX8_pass 166 [o0, o1, some (J x2), some (J x3), o4, o5, o6] [] S (mI M) Q := by
  refine X_iload_n 167 (by decide +kernel : decode cX8_pass 166 = .ok (.iload_n 3, 1)) rfl rfl rfl ?_
  refine X_iload_n 168 (by decide +kernel : decode cX8_pass 167 = .ok (.iload_n 2, 1)) rfl rfl rfl ?_
  exact X_icmpge 221 171 (by decide +kernel : decode cX8_pass 168 = .ok (.if_icmp .ge 53, 3)) rfl rfl (by decide) r1 r2 k1 k2
theorem kX8_pass_171 {o0 : Option Value} {a1 : Nat} {o2 : Option Value} {x3 : Int} {o4 : Option Value} {o5 : Option Value} {o6 : Option Value} {b4 : Nat} (g1 : aKd S a1 = 102) (r2 : R32 x3) (h3 : (0 : Int) ≤ x3 ∧ x3 < (aN S a1 : Int)) (p5 : aP S a1 x3.toNat = some b4) (g6 : aKd S b4 = 100) (h7 : (0 : Int) ≤ 4 ∧ 4 < (aN S b4 : Int)) (r8 : R32 (M b4 4)) (k1 : 0 ≤ (M b4 4) → X E d fX8_pass 186 [o0, some (.ref a1), o2, some (J x3), some (.ref b4), o5, o6] [] S (mI M) Q) (k2 : (M b4 4) < 0 → X E d fX8_pass 183 [o0, some (.ref a1), o2, some (J x3), some (.ref b4), o5, o6] [] S (mI M) Q) : X E d fX8_pass 171 [o0, some (.ref a1), o2, some (J x3), o4, o5, o6] [] S (mI M) Q := by
  refine X_aload_n 172 (by decide +kernel : decode cX8_pass 171 = .ok (.aload_n 1, 1)) rfl rfl rfl ?_
  refine X_iload_n 173 (by decide +kernel : decode cX8_pass 172 = .ok (.iload_n 3, 1)) rfl rfl rfl ?_
  refine X_aald 174 (by decide +kernel : decode cX8_pass 173 = .ok (.aaload, 1)) rfl rfl g1 r2 h3 p5 ?_
  refine X_astore 176 (by decide +kernel : decode cX8_pass 174 = .ok (.astore 4, 2)) rfl rfl (Nat.le_of_ble_eq_true rfl) rfl ?_
  refine X_aload 178 (by decide +kernel : decode cX8_pass 176 = .ok (.aload 4, 2)) rfl rfl rfl ?_
  refine X_iconst 179 (by decide +kernel : decode cX8_pass 178 = .ok (.iconst 4, 1)) rfl rfl ?_
  refine X_iald 180 (by decide +kernel : decode cX8_pass 179 = .ok (.iaload, 1)) rfl rfl g6 ⟨by decide, by decide⟩ h7 ?_
  exact X_ifge 186 183 (by decide +kernel : decode cX8_pass 180 = .ok (.ifCond .ge 6, 3)) rfl rfl (by decide) r8 k1 k2
theorem kX8_pass_183 {o0 : Option Value} {o1 : Option Value} {o2 : Option Value} {o3 : Option Value} {o4 : Option Value} {o5 : Option Value} {o6 : Option Value} (k : X E d fX8_pass 215 [o0, o1, o2, o3, o4, o5, o6] [] S (mI M) Q) : X E d fX8_pass 183 [o0, o1, o2, o3, o4, o5, o6] [] S (mI M) Q := by
  exact X_goto 215 (by decide +kernel : decode cX8_pass 183 = .ok (.goto 32, 3)) rfl (by decide) k
theorem kX8_pass_186 {a0 : Nat} {o1 : Option Value} {o2 : Option Value} {o3 : Option Value} {a4 : Nat} {o5 : Option Value} {o6 : Option Value} {M_13 : Nat → Nat → Int} (g1 : aKd S a0 = 10) (g2 : aKd S a4 = 100) (h3 : (0 : Int) ≤ 4 ∧ 4 < (aN S a4 : Int)) (g4 : aK S a0 = 10) (h6 : (0 : Int) ≤ 3 ∧ 3 < (aN S a4 : Int)) (h8 : (0 : Int) ≤ 5 ∧ 5 < (aN S a4 : Int)) (g11 : aK S a4 = 100) (eM_13 : mW (mW M a0 1 (nz ((M a0 1) + (M a4 4)))) a4 3 (nz (((mW M a0 1 (nz ((M a0 1) + (M a4 4)))) a4 3) + (((mW M a0 1 (nz ((M a0 1) + (M a4 4)))) a4 5) - ((mW M a0 1 (nz ((M a0 1) + (M a4 4)))) a4 4)))) = M_13) (k : X E d fX8_pass 215 [some (.ref a0), o1, o2, o3, some (.ref a4), o5, o6] [] S (mI M_13) Q) : X E d fX8_pass 186 [some (.ref a0), o1, o2, o3, some (.ref a4), o5, o6] [] S (mI M) Q := by
  refine X_aload_n 187 (by decide +kernel : decode cX8_pass 186 = .ok (.aload_n 0, 1)) rfl rfl rfl ?_
  refine X_dup 188 (by decide +kernel : decode cX8_pass 187 = .ok (.dup, 1)) rfl rfl rfl ?_
  refine X_getI 191 (by decide +kernel : decode cX8_pass 188 = .ok (.getfield 7, 3)) rfl rfl (by decide +kernel : aFd 10 7 = some (10, 1, false, false)) g1 ?_
  refine X_aload 193 (by decide +kernel : decode cX8_pass 191 = .ok (.aload 4, 2)) rfl rfl rfl ?_
  refine X_iconst 194 (by decide +kernel : decode cX8_pass 193 = .ok (.iconst 4, 1)) rfl rfl ?_
  refine X_iald 195 (by decide +kernel : decode cX8_pass 194 = .ok (.iaload, 1)) rfl rfl g2 ⟨by decide, by decide⟩ h3 ?_
  refine X_iadd 196 (by decide +kernel : decode cX8_pass 195 = .ok (.iadd, 1)) rfl rfl ?_
  refine X_putIz 199 (by decide +kernel : decode cX8_pass 196 = .ok (.putfield 7, 3)) rfl rfl (by decide +kernel : aFd 10 7 = some (10, 1, false, false)) (Or.inl rfl) g4 rfl rfl ?_
  refine X_aload 201 (by decide +kernel : decode cX8_pass 199 = .ok (.aload 4, 2)) rfl rfl rfl ?_
  refine X_iconst 202 (by decide +kernel : decode cX8_pass 201 = .ok (.iconst 3, 1)) rfl rfl ?_
  refine X_dup2 203 (by decide +kernel : decode cX8_pass 202 = .ok (.dup2, 1)) rfl rfl rfl rfl ?_
  refine X_iald 204 (by decide +kernel : decode cX8_pass 203 = .ok (.iaload, 1)) rfl rfl g2 ⟨by decide, by decide⟩ h6 ?_
  refine X_aload 206 (by decide +kernel : decode cX8_pass 204 = .ok (.aload 4, 2)) rfl rfl rfl ?_
  refine X_iconst 207 (by decide +kernel : decode cX8_pass 206 = .ok (.iconst 5, 1)) rfl rfl ?_
  refine X_iald 208 (by decide +kernel : decode cX8_pass 207 = .ok (.iaload, 1)) rfl rfl g2 ⟨by decide, by decide⟩ h8 ?_
  refine X_aload 210 (by decide +kernel : decode cX8_pass 208 = .ok (.aload 4, 2)) rfl rfl rfl ?_
  refine X_iconst 211 (by decide +kernel : decode cX8_pass 210 = .ok (.iconst 4, 1)) rfl rfl ?_
  refine X_iald 212 (by decide +kernel : decode cX8_pass 211 = .ok (.iaload, 1)) rfl rfl g2 ⟨by decide, by decide⟩ h3 ?_
  refine X_isub 213 (by decide +kernel : decode cX8_pass 212 = .ok (.isub, 1)) rfl rfl ?_
  refine X_iadd 214 (by decide +kernel : decode cX8_pass 213 = .ok (.iadd, 1)) rfl rfl ?_
  refine X_iastz 215 (by decide +kernel : decode cX8_pass 214 = .ok (.iastore, 1)) rfl rfl g11 ⟨by decide, by decide⟩ h6 ?_
  show X E d fX8_pass 215 [some (.ref a0), o1, o2, o3, some (.ref a4), o5, o6] [] S (mI (mW (mW M a0 1 (nz ((M a0 1) + (M a4 4)))) a4 3 (nz (((mW M a0 1 (nz ((M a0 1) + (M a4 4)))) a4 3) + (((mW M a0 1 (nz ((M a0 1) + (M a4 4)))) a4 5) - ((mW M a0 1 (nz ((M a0 1) + (M a4 4)))) a4 4)))))) Q
  rw [eM_13]
  exact k
theorem kX8_pass_215 {o0 : Option Value} {o1 : Option Value} {o2 : Option Value} {x3 : Int} {o4 : Option Value} {o5 : Option Value} {o6 : Option Value} (k : X E d fX8_pass 166 [o0, o1, o2, some (J (x3 + 1)), o4, o5, o6] [] S (mI M) Q) : X E d fX8_pass 215 [o0, o1, o2, some (J x3), o4, o5, o6] [] S (mI M) Q := by
  refine X_iinc 218 (by decide +kernel : decode cX8_pass 215 = .ok (.iinc 3 1, 3)) rfl rfl rfl rfl ?_
  exact X_goto 166 (by decide +kernel : decode cX8_pass 218 = .ok (.goto (-52), 3)) rfl (by decide) k
theorem kX8_pass_221 {a0 : Nat} {o1 : Option Value} {o2 : Option Value} {o3 : Option Value} {o4 : Option Value} {o5 : Option Value} {o6 : Option Value} {b2 : Nat} (g1 : aKd S a0 = 10) (p3 : aP S a0 6 = some b2) (g4 : aKd S b2 = 100 ∨ aKd S b2 = 101 ∨ aKd S b2 = 102) (k : X E d fX8_pass 231 [some (.ref a0), some (.ref b2), some (J (aN S b2 : Int)), some (J 0), o4, o5, o6] [] S (mI M) Q) : X E d fX8_pass 221 [some (.ref a0), o1, o2, o3, o4, o5, o6] [] S (mI M) Q := by
  refine X_aload_n 222 (by decide +kernel : decode cX8_pass 221 = .ok (.aload_n 0, 1)) rfl rfl rfl ?_
  refine X_getR 225 (by decide +kernel : decode cX8_pass 222 = .ok (.getfield 28, 3)) rfl rfl (by decide +kernel : aFd 10 28 = some (10, 6, true, false)) g1 p3 ?_
  refine X_astore_n 226 (by decide +kernel : decode cX8_pass 225 = .ok (.astore_n 1, 1)) rfl rfl (Nat.le_of_ble_eq_true rfl) rfl ?_
  refine X_aload_n 227 (by decide +kernel : decode cX8_pass 226 = .ok (.aload_n 1, 1)) rfl rfl rfl ?_
  refine X_alen 228 (by decide +kernel : decode cX8_pass 227 = .ok (.arraylength, 1)) rfl rfl g4 ?_
  refine X_istore_n 229 (by decide +kernel : decode cX8_pass 228 = .ok (.istore_n 2, 1)) rfl rfl (Nat.le_of_ble_eq_true rfl) rfl ?_
  refine X_iconst 230 (by decide +kernel : decode cX8_pass 229 = .ok (.iconst 0, 1)) rfl rfl ?_
  refine X_istore_n 231 (by decide +kernel : decode cX8_pass 230 = .ok (.istore_n 3, 1)) rfl rfl (Nat.le_of_ble_eq_true rfl) rfl ?_
  exact k
theorem kX8_pass_231 {o0 : Option Value} {o1 : Option Value} {x2 : Int} {x3 : Int} {o4 : Option Value} {o5 : Option Value} {o6 : Option Value} (r1 : R32 x3) (r2 : R32 x2) (k1 : x2 ≤ x3 → X E d fX8_pass 290 [o0, o1, some (J x2), some (J x3), o4, o5, o6] [] S (mI M) Q) (k2 : x3 < x2 → X E d fX8_pass 236 [o0, o1, some (J x2), some (J x3), o4, o5, o6] [] S (mI M) Q) : X E d fX8_pass 231 [o0, o1, some (J x2), some (J x3), o4, o5, o6] [] S (mI M) Q := by
  refine X_iload_n 232 (by decide +kernel : decode cX8_pass 231 = .ok (.iload_n 3, 1)) rfl rfl rfl ?_
  refine X_iload_n 233 (by decide +kernel : decode cX8_pass 232 = .ok (.iload_n 2, 1)) rfl rfl rfl ?_
  exact X_icmpge 290 236 (by decide +kernel : decode cX8_pass 233 = .ok (.if_icmp .ge 57, 3)) rfl rfl (by decide) r1 r2 k1 k2
theorem kX8_pass_236 {o0 : Option Value} {a1 : Nat} {o2 : Option Value} {x3 : Int} {o4 : Option Value} {o5 : Option Value} {o6 : Option Value} {b4 : Nat} (g1 : aKd S a1 = 102) (r2 : R32 x3) (h3 : (0 : Int) ≤ x3 ∧ x3 < (aN S a1 : Int)) (p5 : aP S a1 x3.toNat = some b4) (g6 : aKd S b4 = 100) (h7 : (0 : Int) ≤ 0 ∧ 0 < (aN S b4 : Int)) (r8 : R32 (M b4 0)) (k1 : (M b4 0) ≠ 2 → X E d fX8_pass 284 [o0, some (.ref a1), o2, some (J x3), some (.ref b4), o5, o6] [] S (mI M) Q) (k2 : (M b4 0) = 2 → X E d fX8_pass 249 [o0, some (.ref a1), o2, some (J x3), some (.ref b4), o5, o6] [] S (mI M) Q) : X E d fX8_pass 236 [o0, some (.ref a1), o2, some (J x3), o4, o5, o6] [] S (mI M) Q := by
  refine X_aload_n 237 (by decide +kernel : decode cX8_pass 236 = .ok (.aload_n 1, 1)) rfl rfl rfl ?_
  refine X_iload_n 238 (by decide +kernel : decode cX8_pass 237 = .ok (.iload_n 3, 1)) rfl rfl rfl ?_
  refine X_aald 239 (by decide +kernel : decode cX8_pass 238 = .ok (.aaload, 1)) rfl rfl g1 r2 h3 p5 ?_
  refine X_astore 241 (by decide +kernel : decode cX8_pass 239 = .ok (.astore 4, 2)) rfl rfl (Nat.le_of_ble_eq_true rfl) rfl ?_
  refine X_aload 243 (by decide +kernel : decode cX8_pass 241 = .ok (.aload 4, 2)) rfl rfl rfl ?_
  refine X_iconst 244 (by decide +kernel : decode cX8_pass 243 = .ok (.iconst 0, 1)) rfl rfl ?_
  refine X_iald 245 (by decide +kernel : decode cX8_pass 244 = .ok (.iaload, 1)) rfl rfl g6 ⟨by decide, by decide⟩ h7 ?_
  refine X_iconst 246 (by decide +kernel : decode cX8_pass 245 = .ok (.iconst 2, 1)) rfl rfl ?_
  exact X_icmpne 284 249 (by decide +kernel : decode cX8_pass 246 = .ok (.if_icmp .ne 38, 3)) rfl rfl (by decide) r8 ⟨by decide, by decide⟩ k1 k2
theorem kX8_pass_249 {a0 : Nat} {o1 : Option Value} {o2 : Option Value} {o3 : Option Value} {a4 : Nat} {o5 : Option Value} {o6 : Option Value} (hd1 : 1 ≤ d) (k : X E (d - 1) fX8_holds 0 [some (.ref a0), some (.ref a4), none, none] [] S (mI M) (Kr E d fX8_pass 255 [some (.ref a0), o1, o2, o3, some (.ref a4), o5, o6] [] Q)) (g1 : aKd S a0 = 10) : X E d fX8_pass 249 [some (.ref a0), o1, o2, o3, some (.ref a4), o5, o6] [] S (mI M) Q := by
  refine X_aload_n 250 (by decide +kernel : decode cX8_pass 249 = .ok (.aload_n 0, 1)) rfl rfl rfl ?_
  refine X_aload 252 (by decide +kernel : decode cX8_pass 250 = .ok (.aload 4, 2)) rfl rfl rfl ?_
  exact X_cv (as := [.ref a4]) (rest := []) (by decide +kernel : decode cX8_pass 252 = .ok (.invokevirtual 56, 3)) (Or.inl ⟨rfl, rfl, rfl⟩) rfl rfl rfl rfl rfl (Nat.le_of_ble_eq_true rfl) (Or.inr (Or.inr (by rw [g1]; rfl))) hd1 k
theorem kX8_pass_255 {o0 : Option Value} {o1 : Option Value} {o2 : Option Value} {o3 : Option Value} {o4 : Option Value} {o5 : Option Value} {o6 : Option Value} {t0 : Int} (r1 : R32 t0) (k1 : t0 = 0 → X E d fX8_pass 284 [o0, o1, o2, o3, o4, o5, o6] [] S (mI M) Q) (k2 : t0 ≠ 0 → X E d fX8_pass 258 [o0, o1, o2, o3, o4, o5, o6] [] S (mI M) Q) : X E d fX8_pass 255 [o0, o1, o2, o3, o4, o5, o6] [J t0] S (mI M) Q := by
  exact X_ifeq 284 258 (by decide +kernel : decode cX8_pass 255 = .ok (.ifCond .eq 29, 3)) rfl rfl (by decide) r1 k1 k2
theorem kX8_pass_258 {a0 : Nat} {o1 : Option Value} {o2 : Option Value} {o3 : Option Value} {a4 : Nat} {o5 : Option Value} {o6 : Option Value} (g1 : aKd S a4 = 100) (h2 : (0 : Int) ≤ 1 ∧ 1 < (aN S a4 : Int)) (g3 : aKd S a0 = 10) (hd1 : 1 ≤ d) (k : X E (d - 1) fX8_sum 0 [some (.ref a0), some (.ref a4), none] [] S (mI M) (Kr E d fX8_pass 274 [some (.ref a0), o1, o2, o3, some (.ref a4), o5, o6] [J 0, J (M a0 1), J (M a4 1), .ref a0] Q)) : X E d fX8_pass 258 [some (.ref a0), o1, o2, o3, some (.ref a4), o5, o6] [] S (mI M) Q := by
  refine X_aload_n 259 (by decide +kernel : decode cX8_pass 258 = .ok (.aload_n 0, 1)) rfl rfl rfl ?_
  refine X_aload 261 (by decide +kernel : decode cX8_pass 259 = .ok (.aload 4, 2)) rfl rfl rfl ?_
  refine X_iconst 262 (by decide +kernel : decode cX8_pass 261 = .ok (.iconst 1, 1)) rfl rfl ?_
  refine X_iald 263 (by decide +kernel : decode cX8_pass 262 = .ok (.iaload, 1)) rfl rfl g1 ⟨by decide, by decide⟩ h2 ?_
  refine X_aload_n 264 (by decide +kernel : decode cX8_pass 263 = .ok (.aload_n 0, 1)) rfl rfl rfl ?_
  refine X_getI 267 (by decide +kernel : decode cX8_pass 264 = .ok (.getfield 7, 3)) rfl rfl (by decide +kernel : aFd 10 7 = some (10, 1, false, false)) g3 ?_
  refine X_iconst 268 (by decide +kernel : decode cX8_pass 267 = .ok (.iconst 0, 1)) rfl rfl ?_
  refine X_aload_n 269 (by decide +kernel : decode cX8_pass 268 = .ok (.aload_n 0, 1)) rfl rfl rfl ?_
  refine X_aload 271 (by decide +kernel : decode cX8_pass 269 = .ok (.aload 4, 2)) rfl rfl rfl ?_
  exact X_cv (as := [.ref a4]) (rest := [J 0, J (M a0 1), J (M a4 1), .ref a0]) (by decide +kernel : decode cX8_pass 271 = .ok (.invokevirtual 76, 3)) (Or.inl ⟨rfl, rfl, rfl⟩) rfl rfl rfl rfl rfl (Nat.le_of_ble_eq_true rfl) (Or.inr (Or.inr (by rw [g3]; rfl))) hd1 k
theorem kX8_pass_274 {o0 : Option Value} {o1 : Option Value} {o2 : Option Value} {o3 : Option Value} {o4 : Option Value} {o5 : Option Value} {o6 : Option Value} {t0 : Int} {t1 : Int} {t2 : Int} {t3 : Int} {u4 : Nat} (r1 : R32 t1) (r2 : R32 t0) (r3 : R32 t2) (r4 : R32 (max t1 t0)) (hd1 : 1 ≤ d) (k : X E (d - 1) fX8_mend 0 [some (.ref u4), some (J t3), some (J (min t2 (max t1 t0))), none, none, none] [] S (mI M) (Kr E d fX8_pass 283 [o0, o1, o2, o3, o4, o5, o6] [] Q)) (g5 : aKd S u4 = 10) : X E d fX8_pass 274 [o0, o1, o2, o3, o4, o5, o6] [J t0, J t1, J t2, J t3, .ref u4] S (mI M) Q := by
  refine X_math (z := 1) 277 (by decide +kernel : decode cX8_pass 274 = .ok (.invokestatic 47, 3)) rfl rfl rfl rfl (by decide) r1 r2 (Nat.le_of_ble_eq_true rfl) ?_
  refine X_math (z := 0) 280 (by decide +kernel : decode cX8_pass 277 = .ok (.invokestatic 34, 3)) rfl rfl rfl rfl (by decide) r3 r4 (Nat.le_of_ble_eq_true rfl) ?_
  exact X_cv (as := [J (min t2 (max t1 t0)), J t3]) (rest := []) (by decide +kernel : decode cX8_pass 280 = .ok (.invokevirtual 80, 3)) (Or.inl ⟨rfl, rfl, rfl⟩) rfl rfl rfl rfl rfl (Nat.le_of_ble_eq_true rfl) (Or.inr (Or.inr (by rw [g5]; rfl))) hd1 k
theorem kX8_pass_283 {o0 : Option Value} {o1 : Option Value} {o2 : Option Value} {o3 : Option Value} {o4 : Option Value} {o5 : Option Value} {o6 : Option Value} {t0 : Int} (k : X E d fX8_pass 284 [o0, o1, o2, o3, o4, o5, o6] [] S (mI M) Q) : X E d fX8_pass 283 [o0, o1, o2, o3, o4, o5, o6] [J t0] S (mI M) Q := by
  refine X_pop 284 (by decide +kernel : decode cX8_pass 283 = .ok (.pop, 1)) rfl rfl rfl ?_
  exact k
theorem kX8_pass_284 {o0 : Option Value} {o1 : Option Value} {o2 : Option Value} {x3 : Int} {o4 : Option Value} {o5 : Option Value} {o6 : Option Value} (k : X E d fX8_pass 231 [o0, o1, o2, some (J (x3 + 1)), o4, o5, o6] [] S (mI M) Q) : X E d fX8_pass 284 [o0, o1, o2, some (J x3), o4, o5, o6] [] S (mI M) Q := by
  refine X_iinc 287 (by decide +kernel : decode cX8_pass 284 = .ok (.iinc 3 1, 3)) rfl rfl rfl rfl ?_
  exact X_goto 231 (by decide +kernel : decode cX8_pass 287 = .ok (.goto (-56), 3)) rfl (by decide) k
theorem kX8_pass_290 {a0 : Nat} {o1 : Option Value} {o2 : Option Value} {o3 : Option Value} {o4 : Option Value} {o5 : Option Value} {o6 : Option Value} (g1 : aKd S a0 = 10) (g2 : aK S a0 = 10) (r4 : R32 ((mW M a0 0 (nz ((M a0 0) + 1))) a0 1)) (k1 : ((mW M a0 0 (nz ((M a0 0) + 1))) a0 1) ≤ 99999 → X E d fX8_pass 315 [some (.ref a0), o1, o2, o3, o4, o5, o6] [] S (mI (mW M a0 0 (nz ((M a0 0) + 1)))) Q) (k2 : 99999 < ((mW M a0 0 (nz ((M a0 0) + 1))) a0 1) → X E d fX8_pass 309 [some (.ref a0), o1, o2, o3, o4, o5, o6] [] S (mI (mW M a0 0 (nz ((M a0 0) + 1)))) Q) : X E d fX8_pass 290 [some (.ref a0), o1, o2, o3, o4, o5, o6] [] S (mI M) Q := by
  refine X_aload_n 291 (by decide +kernel : decode cX8_pass 290 = .ok (.aload_n 0, 1)) rfl rfl rfl ?_
  refine X_dup 292 (by decide +kernel : decode cX8_pass 291 = .ok (.dup, 1)) rfl rfl rfl ?_
  refine X_getI 295 (by decide +kernel : decode cX8_pass 292 = .ok (.getfield 50, 3)) rfl rfl (by decide +kernel : aFd 10 50 = some (10, 0, false, false)) g1 ?_
  refine X_iconst 296 (by decide +kernel : decode cX8_pass 295 = .ok (.iconst 1, 1)) rfl rfl ?_
  refine X_iadd 297 (by decide +kernel : decode cX8_pass 296 = .ok (.iadd, 1)) rfl rfl ?_
  refine X_putIz 300 (by decide +kernel : decode cX8_pass 297 = .ok (.putfield 50, 3)) rfl rfl (by decide +kernel : aFd 10 50 = some (10, 0, false, false)) (Or.inl rfl) g2 rfl rfl ?_
  refine X_aload_n 301 (by decide +kernel : decode cX8_pass 300 = .ok (.aload_n 0, 1)) rfl rfl rfl ?_
  refine X_getI 304 (by decide +kernel : decode cX8_pass 301 = .ok (.getfield 7, 3)) rfl rfl (by decide +kernel : aFd 10 7 = some (10, 1, false, false)) g1 ?_
  refine X_ldcI 306 (99999) (by decide +kernel : decode cX8_pass 304 = .ok (.ldc 83, 2)) rfl rfl rfl rfl ?_
  exact X_icmple 315 309 (by decide +kernel : decode cX8_pass 306 = .ok (.if_icmp .le 9, 3)) rfl rfl (by decide) r4 ⟨by decide, by decide⟩ k1 k2
theorem kX8_pass_309 {a0 : Nat} {o1 : Option Value} {o2 : Option Value} {o3 : Option Value} {o4 : Option Value} {o5 : Option Value} {o6 : Option Value} (g1 : aK S a0 = 10) (k : X E d fX8_pass 315 [some (.ref a0), o1, o2, o3, o4, o5, o6] [] S (mI (mW M a0 1 99999)) Q) : X E d fX8_pass 309 [some (.ref a0), o1, o2, o3, o4, o5, o6] [] S (mI M) Q := by
  refine X_aload_n 310 (by decide +kernel : decode cX8_pass 309 = .ok (.aload_n 0, 1)) rfl rfl rfl ?_
  refine X_ldcI 312 (99999) (by decide +kernel : decode cX8_pass 310 = .ok (.ldc 83, 2)) rfl rfl rfl rfl ?_
  refine X_putI 315 (by decide +kernel : decode cX8_pass 312 = .ok (.putfield 7, 3)) rfl rfl (by decide +kernel : aFd 10 7 = some (10, 1, false, false)) (Or.inl rfl) g1 rfl rfl ?_
  exact k
theorem kX8_pass_315 {o0 : Option Value} {o1 : Option Value} {o2 : Option Value} {o3 : Option Value} {o4 : Option Value} {o5 : Option Value} {o6 : Option Value} (q : Q (some none) S (mI M)) : X E d fX8_pass 315 [o0, o1, o2, o3, o4, o5, o6] [] S (mI M) Q := by
  exact X_vret (by decide +kernel : decode cX8_pass 315 = .ok (.return_, 1)) rfl rfl q
theorem kX8_holds_0 {a0 : Nat} {a1 : Nat} {o2 : Option Value} {o3 : Option Value} {b4 : Nat} {b11 : Nat} (g1 : aKd S a1 = 100) (h2 : (0 : Int) ≤ 5 ∧ 5 < (aN S a1 : Int)) (g3 : aKd S a0 = 10) (p5 : aP S a0 4 = some b4) (h7 : (0 : Int) ≤ 8 ∧ 8 < (aN S a1 : Int)) (g8 : aKd S b4 = 102) (r9 : R32 (M a1 8)) (h10 : (0 : Int) ≤ M a1 8 ∧ (M a1 8) < (aN S b4 : Int)) (p12 : aP S b4 (M a1 8).toNat = some b11) (h14 : (0 : Int) ≤ 4 ∧ 4 < (aN S a1 : Int)) (r15 : R32 ((M a1 4))) (kd : (M a1 4) ≠ -1 ∧ (M a1 4) ≠ 0 ∧ (M a1 4) ≠ 1 ∧ (M a1 4) ≠ 2 ∧ (M a1 4) ≠ 3 ∧ (M a1 4) ≠ 4 ∧ (M a1 4) ≠ 5 ∧ (M a1 4) ≠ 6 → X E d fX8_holds 212 [some (.ref a0), some (.ref a1), some (J (M a1 5)), some (.ref b11)] [] S (mI M) Q) (k0 : (M a1 4) = -1 → X E d fX8_holds 64 [some (.ref a0), some (.ref a1), some (J (M a1 5)), some (.ref b11)] [] S (mI M) Q) (k1 : (M a1 4) = 0 → X E d fX8_holds 66 [some (.ref a0), some (.ref a1), some (J (M a1 5)), some (.ref b11)] [] S (mI M) Q) (k2 : (M a1 4) = 1 → X E d fX8_holds 82 [some (.ref a0), some (.ref a1), some (J (M a1 5)), some (.ref b11)] [] S (mI M) Q) (k3 : (M a1 4) = 2 → X E d fX8_holds 94 [some (.ref a0), some (.ref a1), some (J (M a1 5)), some (.ref b11)] [] S (mI M) Q) (k4 : (M a1 4) = 3 → X E d fX8_holds 119 [some (.ref a0), some (.ref a1), some (J (M a1 5)), some (.ref b11)] [] S (mI M) Q) (k5 : (M a1 4) = 4 → X E d fX8_holds 137 [some (.ref a0), some (.ref a1), some (J (M a1 5)), some (.ref b11)] [] S (mI M) Q) (k6 : (M a1 4) = 5 → X E d fX8_holds 158 [some (.ref a0), some (.ref a1), some (J (M a1 5)), some (.ref b11)] [] S (mI M) Q) (k7 : (M a1 4) = 6 → X E d fX8_holds 200 [some (.ref a0), some (.ref a1), some (J (M a1 5)), some (.ref b11)] [] S (mI M) Q) : X E d fX8_holds 0 [some (.ref a0), some (.ref a1), o2, o3] [] S (mI M) Q := by
  refine X_aload_n 1 (by decide +kernel : decode cX8_holds 0 = .ok (.aload_n 1, 1)) rfl rfl rfl ?_
  refine X_iconst 2 (by decide +kernel : decode cX8_holds 1 = .ok (.iconst 5, 1)) rfl rfl ?_
  refine X_iald 3 (by decide +kernel : decode cX8_holds 2 = .ok (.iaload, 1)) rfl rfl g1 ⟨by decide, by decide⟩ h2 ?_
  refine X_istore_n 4 (by decide +kernel : decode cX8_holds 3 = .ok (.istore_n 2, 1)) rfl rfl (Nat.le_of_ble_eq_true rfl) rfl ?_
  refine X_aload_n 5 (by decide +kernel : decode cX8_holds 4 = .ok (.aload_n 0, 1)) rfl rfl rfl ?_
  refine X_getR 8 (by decide +kernel : decode cX8_holds 5 = .ok (.getfield 22, 3)) rfl rfl (by decide +kernel : aFd 10 22 = some (10, 4, true, false)) g3 p5 ?_
  refine X_aload_n 9 (by decide +kernel : decode cX8_holds 8 = .ok (.aload_n 1, 1)) rfl rfl rfl ?_
  refine X_bipush 11 (8) (by decide +kernel : decode cX8_holds 9 = .ok (.bipush 8, 2)) rfl rfl (by decide +kernel) ?_
  refine X_iald 12 (by decide +kernel : decode cX8_holds 11 = .ok (.iaload, 1)) rfl rfl g1 ⟨by decide, by decide⟩ h7 ?_
  refine X_aald 13 (by decide +kernel : decode cX8_holds 12 = .ok (.aaload, 1)) rfl rfl g8 r9 h10 p12 ?_
  refine X_astore_n 14 (by decide +kernel : decode cX8_holds 13 = .ok (.astore_n 3, 1)) rfl rfl (Nat.le_of_ble_eq_true rfl) rfl ?_
  refine X_aload_n 15 (by decide +kernel : decode cX8_holds 14 = .ok (.aload_n 1, 1)) rfl rfl rfl ?_
  refine X_iconst 16 (by decide +kernel : decode cX8_holds 15 = .ok (.iconst 4, 1)) rfl rfl ?_
  refine X_iald 17 (by decide +kernel : decode cX8_holds 16 = .ok (.iaload, 1)) rfl rfl g1 ⟨by decide, by decide⟩ h14 ?_
  by_cases hr : (M a1 4) < -1 ∨ 6 < (M a1 4)
  · exact X_tswD 212 (by decide +kernel : decode cX8_holds 17 = .ok (.tableswitch 195 (-1) 6 #[47, 49, 65, 77, 102, 120, 141, 183], 47)) rfl (by decide) r15 hr (kd (by omega))
  · rcases (by omega : (M a1 4) = -1 ∨ (M a1 4) = 0 ∨ (M a1 4) = 1 ∨ (M a1 4) = 2 ∨ (M a1 4) = 3 ∨ (M a1 4) = 4 ∨ (M a1 4) = 5 ∨ (M a1 4) = 6) with h | h | h | h | h | h | h | h
    · exact X_tswI 64 0 (by decide +kernel : decode cX8_holds 17 = .ok (.tableswitch 195 (-1) 6 #[47, 49, 65, 77, 102, 120, 141, 183], 47)) rfl rfl (by decide) r15 (h.trans rfl) (by decide) (k0 h)
    · exact X_tswI 66 1 (by decide +kernel : decode cX8_holds 17 = .ok (.tableswitch 195 (-1) 6 #[47, 49, 65, 77, 102, 120, 141, 183], 47)) rfl rfl (by decide) r15 (h.trans rfl) (by decide) (k1 h)
    · exact X_tswI 82 2 (by decide +kernel : decode cX8_holds 17 = .ok (.tableswitch 195 (-1) 6 #[47, 49, 65, 77, 102, 120, 141, 183], 47)) rfl rfl (by decide) r15 (h.trans rfl) (by decide) (k2 h)
    · exact X_tswI 94 3 (by decide +kernel : decode cX8_holds 17 = .ok (.tableswitch 195 (-1) 6 #[47, 49, 65, 77, 102, 120, 141, 183], 47)) rfl rfl (by decide) r15 (h.trans rfl) (by decide) (k3 h)
    · exact X_tswI 119 4 (by decide +kernel : decode cX8_holds 17 = .ok (.tableswitch 195 (-1) 6 #[47, 49, 65, 77, 102, 120, 141, 183], 47)) rfl rfl (by decide) r15 (h.trans rfl) (by decide) (k4 h)
    · exact X_tswI 137 5 (by decide +kernel : decode cX8_holds 17 = .ok (.tableswitch 195 (-1) 6 #[47, 49, 65, 77, 102, 120, 141, 183], 47)) rfl rfl (by decide) r15 (h.trans rfl) (by decide) (k5 h)
    · exact X_tswI 158 6 (by decide +kernel : decode cX8_holds 17 = .ok (.tableswitch 195 (-1) 6 #[47, 49, 65, 77, 102, 120, 141, 183], 47)) rfl rfl (by decide) r15 (h.trans rfl) (by decide) (k6 h)
    · exact X_tswI 200 7 (by decide +kernel : decode cX8_holds 17 = .ok (.tableswitch 195 (-1) 6 #[47, 49, 65, 77, 102, 120, 141, 183], 47)) rfl rfl (by decide) r15 (h.trans rfl) (by decide) (k7 h)
theorem kX8_holds_64 {o0 : Option Value} {o1 : Option Value} {o2 : Option Value} {o3 : Option Value} (q : Q (some (some (J 1))) S (mI M)) : X E d fX8_holds 64 [o0, o1, o2, o3] [] S (mI M) Q := by
  refine X_iconst 65 (by decide +kernel : decode cX8_holds 64 = .ok (.iconst 1, 1)) rfl rfl ?_
  exact X_iret (by decide +kernel : decode cX8_holds 65 = .ok (.ireturn, 1)) rfl rfl (by decide) q
theorem kX8_holds_66 {a0 : Nat} {o1 : Option Value} {x2 : Int} {o3 : Option Value} (g1 : aKd S a0 = 10) (r2 : R32 x2) (r3 : R32 (M a0 0)) (r4 : R32 (x2.tdiv 4)) (k1 : (M a0 0) ≤ (x2.tdiv 4) → X E d fX8_holds 80 [some (.ref a0), o1, some (J x2), o3] [] S (mI M) Q) (k2 : (x2.tdiv 4) < (M a0 0) → X E d fX8_holds 76 [some (.ref a0), o1, some (J x2), o3] [] S (mI M) Q) : X E d fX8_holds 66 [some (.ref a0), o1, some (J x2), o3] [] S (mI M) Q := by
  refine X_aload_n 67 (by decide +kernel : decode cX8_holds 66 = .ok (.aload_n 0, 1)) rfl rfl rfl ?_
  refine X_getI 70 (by decide +kernel : decode cX8_holds 67 = .ok (.getfield 50, 3)) rfl rfl (by decide +kernel : aFd 10 50 = some (10, 0, false, false)) g1 ?_
  refine X_iload_n 71 (by decide +kernel : decode cX8_holds 70 = .ok (.iload_n 2, 1)) rfl rfl rfl ?_
  refine X_iconst 72 (by decide +kernel : decode cX8_holds 71 = .ok (.iconst 4, 1)) rfl rfl ?_
  refine X_idivW 73 (by decide +kernel : decode cX8_holds 72 = .ok (.idiv, 1)) rfl rfl r2 ⟨by decide, by decide⟩ (by decide) ?_
  exact X_icmple 80 76 (by decide +kernel : decode cX8_holds 73 = .ok (.if_icmp .le 7, 3)) rfl rfl (by decide) r3 r4 k1 k2
theorem kX8_holds_76 {o0 : Option Value} {o1 : Option Value} {o2 : Option Value} {o3 : Option Value} (k : X E d fX8_holds 81 [o0, o1, o2, o3] [J 1] S (mI M) Q) : X E d fX8_holds 76 [o0, o1, o2, o3] [] S (mI M) Q := by
  refine X_iconst 77 (by decide +kernel : decode cX8_holds 76 = .ok (.iconst 1, 1)) rfl rfl ?_
  exact X_goto 81 (by decide +kernel : decode cX8_holds 77 = .ok (.goto 4, 3)) rfl (by decide) k
theorem kX8_holds_80 {o0 : Option Value} {o1 : Option Value} {o2 : Option Value} {o3 : Option Value} (k : X E d fX8_holds 81 [o0, o1, o2, o3] [J 0] S (mI M) Q) : X E d fX8_holds 80 [o0, o1, o2, o3] [] S (mI M) Q := by
  refine X_iconst 81 (by decide +kernel : decode cX8_holds 80 = .ok (.iconst 0, 1)) rfl rfl ?_
  exact k
theorem kX8_holds_81 {o0 : Option Value} {o1 : Option Value} {o2 : Option Value} {o3 : Option Value} {t0 : Int} (h1 : narrow .boolean (J t0) = J t0) (q : Q (some (some (J t0))) S (mI M)) : X E d fX8_holds 81 [o0, o1, o2, o3] [J t0] S (mI M) Q := by
  exact X_iret (by decide +kernel : decode cX8_holds 81 = .ok (.ireturn, 1)) rfl rfl h1 q
theorem kX8_holds_82 {o0 : Option Value} {o1 : Option Value} {o2 : Option Value} {a3 : Nat} (g1 : aKd S a3 = 100) (h2 : (0 : Int) ≤ 4 ∧ 4 < (aN S a3 : Int)) (r3 : R32 (M a3 4)) (k1 : (M a3 4) < 0 → X E d fX8_holds 92 [o0, o1, o2, some (.ref a3)] [] S (mI M) Q) (k2 : 0 ≤ (M a3 4) → X E d fX8_holds 88 [o0, o1, o2, some (.ref a3)] [] S (mI M) Q) : X E d fX8_holds 82 [o0, o1, o2, some (.ref a3)] [] S (mI M) Q := by
  refine X_aload_n 83 (by decide +kernel : decode cX8_holds 82 = .ok (.aload_n 3, 1)) rfl rfl rfl ?_
  refine X_iconst 84 (by decide +kernel : decode cX8_holds 83 = .ok (.iconst 4, 1)) rfl rfl ?_
  refine X_iald 85 (by decide +kernel : decode cX8_holds 84 = .ok (.iaload, 1)) rfl rfl g1 ⟨by decide, by decide⟩ h2 ?_
  exact X_iflt 92 88 (by decide +kernel : decode cX8_holds 85 = .ok (.ifCond .lt 7, 3)) rfl rfl (by decide) r3 k1 k2
theorem kX8_holds_88 {o0 : Option Value} {o1 : Option Value} {o2 : Option Value} {o3 : Option Value} (k : X E d fX8_holds 93 [o0, o1, o2, o3] [J 1] S (mI M) Q) : X E d fX8_holds 88 [o0, o1, o2, o3] [] S (mI M) Q := by
  refine X_iconst 89 (by decide +kernel : decode cX8_holds 88 = .ok (.iconst 1, 1)) rfl rfl ?_
  exact X_goto 93 (by decide +kernel : decode cX8_holds 89 = .ok (.goto 4, 3)) rfl (by decide) k
theorem kX8_holds_92 {o0 : Option Value} {o1 : Option Value} {o2 : Option Value} {o3 : Option Value} (k : X E d fX8_holds 93 [o0, o1, o2, o3] [J 0] S (mI M) Q) : X E d fX8_holds 92 [o0, o1, o2, o3] [] S (mI M) Q := by
  refine X_iconst 93 (by decide +kernel : decode cX8_holds 92 = .ok (.iconst 0, 1)) rfl rfl ?_
  exact k
theorem kX8_holds_93 {o0 : Option Value} {o1 : Option Value} {o2 : Option Value} {o3 : Option Value} {t0 : Int} (h1 : narrow .boolean (J t0) = J t0) (q : Q (some (some (J t0))) S (mI M)) : X E d fX8_holds 93 [o0, o1, o2, o3] [J t0] S (mI M) Q := by
  exact X_iret (by decide +kernel : decode cX8_holds 93 = .ok (.ireturn, 1)) rfl rfl h1 q
theorem kX8_holds_94 {a0 : Nat} {a1 : Nat} {o2 : Option Value} {o3 : Option Value} (g1 : aKd S a1 = 100) (h2 : (0 : Int) ≤ 7 ∧ 7 < (aN S a1 : Int)) (hd1 : 1 ≤ d) (k : X E (d - 1) fX8_broken 0 [some (.ref a0), some (J (M a1 7)), none, none, none, none, none] [] S (mI M) (Kr E d fX8_holds 102 [some (.ref a0), some (.ref a1), o2, o3] [] Q)) (g3 : aKd S a0 = 10) : X E d fX8_holds 94 [some (.ref a0), some (.ref a1), o2, o3] [] S (mI M) Q := by
  refine X_aload_n 95 (by decide +kernel : decode cX8_holds 94 = .ok (.aload_n 0, 1)) rfl rfl rfl ?_
  refine X_aload_n 96 (by decide +kernel : decode cX8_holds 95 = .ok (.aload_n 1, 1)) rfl rfl rfl ?_
  refine X_bipush 98 (7) (by decide +kernel : decode cX8_holds 96 = .ok (.bipush 7, 2)) rfl rfl (by decide +kernel) ?_
  refine X_iald 99 (by decide +kernel : decode cX8_holds 98 = .ok (.iaload, 1)) rfl rfl g1 ⟨by decide, by decide⟩ h2 ?_
  exact X_cv (as := [J (M a1 7)]) (rest := []) (by decide +kernel : decode cX8_holds 99 = .ok (.invokevirtual 53, 3)) (Or.inl ⟨rfl, rfl, rfl⟩) rfl rfl rfl rfl rfl (Nat.le_of_ble_eq_true rfl) (Or.inr (Or.inr (by rw [g3]; rfl))) hd1 k
theorem kX8_holds_102 {o0 : Option Value} {o1 : Option Value} {o2 : Option Value} {o3 : Option Value} {t0 : Int} (r1 : R32 t0) (k1 : t0 = 0 → X E d fX8_holds 113 [o0, o1, o2, o3] [] S (mI M) Q) (k2 : t0 ≠ 0 → X E d fX8_holds 105 [o0, o1, o2, o3] [] S (mI M) Q) : X E d fX8_holds 102 [o0, o1, o2, o3] [J t0] S (mI M) Q := by
  exact X_ifeq 113 105 (by decide +kernel : decode cX8_holds 102 = .ok (.ifCond .eq 11, 3)) rfl rfl (by decide) r1 k1 k2
theorem kX8_holds_105 {a0 : Nat} {o1 : Option Value} {x2 : Int} {o3 : Option Value} (g1 : aKd S a0 = 10) (r2 : R32 (M a0 1)) (r3 : R32 x2) (k1 : (M a0 1) ≤ x2 → X E d fX8_holds 117 [some (.ref a0), o1, some (J x2), o3] [] S (mI M) Q) (k2 : x2 < (M a0 1) → X E d fX8_holds 113 [some (.ref a0), o1, some (J x2), o3] [] S (mI M) Q) : X E d fX8_holds 105 [some (.ref a0), o1, some (J x2), o3] [] S (mI M) Q := by
  refine X_aload_n 106 (by decide +kernel : decode cX8_holds 105 = .ok (.aload_n 0, 1)) rfl rfl rfl ?_
  refine X_getI 109 (by decide +kernel : decode cX8_holds 106 = .ok (.getfield 7, 3)) rfl rfl (by decide +kernel : aFd 10 7 = some (10, 1, false, false)) g1 ?_
  refine X_iload_n 110 (by decide +kernel : decode cX8_holds 109 = .ok (.iload_n 2, 1)) rfl rfl rfl ?_
  exact X_icmple 117 113 (by decide +kernel : decode cX8_holds 110 = .ok (.if_icmp .le 7, 3)) rfl rfl (by decide) r2 r3 k1 k2
theorem kX8_holds_113 {o0 : Option Value} {o1 : Option Value} {o2 : Option Value} {o3 : Option Value} (k : X E d fX8_holds 118 [o0, o1, o2, o3] [J 1] S (mI M) Q) : X E d fX8_holds 113 [o0, o1, o2, o3] [] S (mI M) Q := by
  refine X_iconst 114 (by decide +kernel : decode cX8_holds 113 = .ok (.iconst 1, 1)) rfl rfl ?_
  exact X_goto 118 (by decide +kernel : decode cX8_holds 114 = .ok (.goto 4, 3)) rfl (by decide) k
theorem kX8_holds_117 {o0 : Option Value} {o1 : Option Value} {o2 : Option Value} {o3 : Option Value} (k : X E d fX8_holds 118 [o0, o1, o2, o3] [J 0] S (mI M) Q) : X E d fX8_holds 117 [o0, o1, o2, o3] [] S (mI M) Q := by
  refine X_iconst 118 (by decide +kernel : decode cX8_holds 117 = .ok (.iconst 0, 1)) rfl rfl ?_
  exact k
theorem kX8_holds_118 {o0 : Option Value} {o1 : Option Value} {o2 : Option Value} {o3 : Option Value} {t0 : Int} (h1 : narrow .boolean (J t0) = J t0) (q : Q (some (some (J t0))) S (mI M)) : X E d fX8_holds 118 [o0, o1, o2, o3] [J t0] S (mI M) Q := by
  exact X_iret (by decide +kernel : decode cX8_holds 118 = .ok (.ireturn, 1)) rfl rfl h1 q
theorem kX8_holds_119 {a0 : Nat} {a1 : Nat} {o2 : Option Value} {o3 : Option Value} (g1 : aKd S a1 = 100) (h2 : (0 : Int) ≤ 7 ∧ 7 < (aN S a1 : Int)) (hd1 : 1 ≤ d) (k : X E (d - 1) fX8_least 0 [some (.ref a0), some (J (M a1 7)), none, none, none, none, none] [] S (mI M) (Kr E d fX8_holds 127 [some (.ref a0), some (.ref a1), o2, o3] [] Q)) (g3 : aKd S a0 = 10) : X E d fX8_holds 119 [some (.ref a0), some (.ref a1), o2, o3] [] S (mI M) Q := by
  refine X_aload_n 120 (by decide +kernel : decode cX8_holds 119 = .ok (.aload_n 0, 1)) rfl rfl rfl ?_
  refine X_aload_n 121 (by decide +kernel : decode cX8_holds 120 = .ok (.aload_n 1, 1)) rfl rfl rfl ?_
  refine X_bipush 123 (7) (by decide +kernel : decode cX8_holds 121 = .ok (.bipush 7, 2)) rfl rfl (by decide +kernel) ?_
  refine X_iald 124 (by decide +kernel : decode cX8_holds 123 = .ok (.iaload, 1)) rfl rfl g1 ⟨by decide, by decide⟩ h2 ?_
  exact X_cv (as := [J (M a1 7)]) (rest := []) (by decide +kernel : decode cX8_holds 124 = .ok (.invokevirtual 40, 3)) (Or.inl ⟨rfl, rfl, rfl⟩) rfl rfl rfl rfl rfl (Nat.le_of_ble_eq_true rfl) (Or.inr (Or.inr (by rw [g3]; rfl))) hd1 k
theorem kX8_holds_127 {o0 : Option Value} {o1 : Option Value} {x2 : Int} {o3 : Option Value} {t0 : Int} (r1 : R32 t0) (r2 : R32 x2) (k1 : x2 ≤ t0 → X E d fX8_holds 135 [o0, o1, some (J x2), o3] [] S (mI M) Q) (k2 : t0 < x2 → X E d fX8_holds 131 [o0, o1, some (J x2), o3] [] S (mI M) Q) : X E d fX8_holds 127 [o0, o1, some (J x2), o3] [J t0] S (mI M) Q := by
  refine X_iload_n 128 (by decide +kernel : decode cX8_holds 127 = .ok (.iload_n 2, 1)) rfl rfl rfl ?_
  exact X_icmpge 135 131 (by decide +kernel : decode cX8_holds 128 = .ok (.if_icmp .ge 7, 3)) rfl rfl (by decide) r1 r2 k1 k2
theorem kX8_holds_131 {o0 : Option Value} {o1 : Option Value} {o2 : Option Value} {o3 : Option Value} (k : X E d fX8_holds 136 [o0, o1, o2, o3] [J 1] S (mI M) Q) : X E d fX8_holds 131 [o0, o1, o2, o3] [] S (mI M) Q := by
  refine X_iconst 132 (by decide +kernel : decode cX8_holds 131 = .ok (.iconst 1, 1)) rfl rfl ?_
  exact X_goto 136 (by decide +kernel : decode cX8_holds 132 = .ok (.goto 4, 3)) rfl (by decide) k
theorem kX8_holds_135 {o0 : Option Value} {o1 : Option Value} {o2 : Option Value} {o3 : Option Value} (k : X E d fX8_holds 136 [o0, o1, o2, o3] [J 0] S (mI M) Q) : X E d fX8_holds 135 [o0, o1, o2, o3] [] S (mI M) Q := by
  refine X_iconst 136 (by decide +kernel : decode cX8_holds 135 = .ok (.iconst 0, 1)) rfl rfl ?_
  exact k
theorem kX8_holds_136 {o0 : Option Value} {o1 : Option Value} {o2 : Option Value} {o3 : Option Value} {t0 : Int} (h1 : narrow .boolean (J t0) = J t0) (q : Q (some (some (J t0))) S (mI M)) : X E d fX8_holds 136 [o0, o1, o2, o3] [J t0] S (mI M) Q := by
  exact X_iret (by decide +kernel : decode cX8_holds 136 = .ok (.ireturn, 1)) rfl rfl h1 q
theorem kX8_holds_137 {o0 : Option Value} {o1 : Option Value} {x2 : Int} {a3 : Nat} (g1 : aKd S a3 = 100) (h2 : (0 : Int) ≤ 2 ∧ 2 < (aN S a3 : Int)) (r3 : R32 (M a3 2)) (r4 : R32 (2 * x2)) (k1 : (M a3 2) < (2 * x2) → X E d fX8_holds 156 [o0, o1, some (J x2), some (.ref a3)] [] S (mI M) Q) (k2 : (2 * x2) ≤ (M a3 2) → X E d fX8_holds 146 [o0, o1, some (J x2), some (.ref a3)] [] S (mI M) Q) : X E d fX8_holds 137 [o0, o1, some (J x2), some (.ref a3)] [] S (mI M) Q := by
  refine X_aload_n 138 (by decide +kernel : decode cX8_holds 137 = .ok (.aload_n 3, 1)) rfl rfl rfl ?_
  refine X_iconst 139 (by decide +kernel : decode cX8_holds 138 = .ok (.iconst 2, 1)) rfl rfl ?_
  refine X_iald 140 (by decide +kernel : decode cX8_holds 139 = .ok (.iaload, 1)) rfl rfl g1 ⟨by decide, by decide⟩ h2 ?_
  refine X_iconst 141 (by decide +kernel : decode cX8_holds 140 = .ok (.iconst 2, 1)) rfl rfl ?_
  refine X_iload_n 142 (by decide +kernel : decode cX8_holds 141 = .ok (.iload_n 2, 1)) rfl rfl rfl ?_
  refine X_imul 143 (by decide +kernel : decode cX8_holds 142 = .ok (.imul, 1)) rfl rfl ?_
  exact X_icmplt 156 146 (by decide +kernel : decode cX8_holds 143 = .ok (.if_icmp .lt 13, 3)) rfl rfl (by decide) r3 r4 k1 k2
theorem kX8_holds_146 {o0 : Option Value} {o1 : Option Value} {o2 : Option Value} {a3 : Nat} (g1 : aKd S a3 = 100) (h2 : (0 : Int) ≤ 4 ∧ 4 < (aN S a3 : Int)) (r3 : R32 (M a3 4)) (k1 : 0 ≤ (M a3 4) → X E d fX8_holds 156 [o0, o1, o2, some (.ref a3)] [] S (mI M) Q) (k2 : (M a3 4) < 0 → X E d fX8_holds 152 [o0, o1, o2, some (.ref a3)] [] S (mI M) Q) : X E d fX8_holds 146 [o0, o1, o2, some (.ref a3)] [] S (mI M) Q := by
  refine X_aload_n 147 (by decide +kernel : decode cX8_holds 146 = .ok (.aload_n 3, 1)) rfl rfl rfl ?_
  refine X_iconst 148 (by decide +kernel : decode cX8_holds 147 = .ok (.iconst 4, 1)) rfl rfl ?_
  refine X_iald 149 (by decide +kernel : decode cX8_holds 148 = .ok (.iaload, 1)) rfl rfl g1 ⟨by decide, by decide⟩ h2 ?_
  exact X_ifge 156 152 (by decide +kernel : decode cX8_holds 149 = .ok (.ifCond .ge 7, 3)) rfl rfl (by decide) r3 k1 k2
theorem kX8_holds_152 {o0 : Option Value} {o1 : Option Value} {o2 : Option Value} {o3 : Option Value} (k : X E d fX8_holds 157 [o0, o1, o2, o3] [J 1] S (mI M) Q) : X E d fX8_holds 152 [o0, o1, o2, o3] [] S (mI M) Q := by
  refine X_iconst 153 (by decide +kernel : decode cX8_holds 152 = .ok (.iconst 1, 1)) rfl rfl ?_
  exact X_goto 157 (by decide +kernel : decode cX8_holds 153 = .ok (.goto 4, 3)) rfl (by decide) k
theorem kX8_holds_156 {o0 : Option Value} {o1 : Option Value} {o2 : Option Value} {o3 : Option Value} (k : X E d fX8_holds 157 [o0, o1, o2, o3] [J 0] S (mI M) Q) : X E d fX8_holds 156 [o0, o1, o2, o3] [] S (mI M) Q := by
  refine X_iconst 157 (by decide +kernel : decode cX8_holds 156 = .ok (.iconst 0, 1)) rfl rfl ?_
  exact k
theorem kX8_holds_157 {o0 : Option Value} {o1 : Option Value} {o2 : Option Value} {o3 : Option Value} {t0 : Int} (h1 : narrow .boolean (J t0) = J t0) (q : Q (some (some (J t0))) S (mI M)) : X E d fX8_holds 157 [o0, o1, o2, o3] [J t0] S (mI M) Q := by
  exact X_iret (by decide +kernel : decode cX8_holds 157 = .ok (.ireturn, 1)) rfl rfl h1 q
theorem kX8_holds_158 {a0 : Nat} {a1 : Nat} {o2 : Option Value} {o3 : Option Value} (g1 : aKd S a1 = 100) (h2 : (0 : Int) ≤ 6 ∧ 6 < (aN S a1 : Int)) (hd1 : 1 ≤ d) (k : X E (d - 1) fX8_condition 0 [some (.ref a0), some (J (M a1 6))] [] S (mI M) (Kr E d fX8_holds 166 [some (.ref a0), some (.ref a1), o2, o3] [] Q)) (g3 : aKd S a0 = 10) : X E d fX8_holds 158 [some (.ref a0), some (.ref a1), o2, o3] [] S (mI M) Q := by
  refine X_aload_n 159 (by decide +kernel : decode cX8_holds 158 = .ok (.aload_n 0, 1)) rfl rfl rfl ?_
  refine X_aload_n 160 (by decide +kernel : decode cX8_holds 159 = .ok (.aload_n 1, 1)) rfl rfl rfl ?_
  refine X_bipush 162 (6) (by decide +kernel : decode cX8_holds 160 = .ok (.bipush 6, 2)) rfl rfl (by decide +kernel) ?_
  refine X_iald 163 (by decide +kernel : decode cX8_holds 162 = .ok (.iaload, 1)) rfl rfl g1 ⟨by decide, by decide⟩ h2 ?_
  exact X_cv (as := [J (M a1 6)]) (rest := []) (by decide +kernel : decode cX8_holds 163 = .ok (.invokevirtual 44, 3)) (Or.inl ⟨rfl, rfl, rfl⟩) rfl rfl rfl rfl rfl (Nat.le_of_ble_eq_true rfl) (Or.inr (Or.inr (by rw [g3]; rfl))) hd1 k
theorem kX8_holds_166 {o0 : Option Value} {o1 : Option Value} {x2 : Int} {o3 : Option Value} {t0 : Int} (r1 : R32 t0) (r2 : R32 x2) (k1 : t0 < x2 → X E d fX8_holds 179 [o0, o1, some (J x2), o3] [] S (mI M) Q) (k2 : x2 ≤ t0 → X E d fX8_holds 170 [o0, o1, some (J x2), o3] [] S (mI M) Q) : X E d fX8_holds 166 [o0, o1, some (J x2), o3] [J t0] S (mI M) Q := by
  refine X_iload_n 167 (by decide +kernel : decode cX8_holds 166 = .ok (.iload_n 2, 1)) rfl rfl rfl ?_
  exact X_icmplt 179 170 (by decide +kernel : decode cX8_holds 167 = .ok (.if_icmp .lt 12, 3)) rfl rfl (by decide) r1 r2 k1 k2
theorem kX8_holds_170 {a0 : Nat} {o1 : Option Value} {o2 : Option Value} {o3 : Option Value} (g1 : aKd S a0 = 10) (r2 : R32 (M a0 0)) (r3 : R32 ((M a0 0).tmod 2)) (k1 : ((M a0 0).tmod 2) ≠ 0 → X E d fX8_holds 198 [some (.ref a0), o1, o2, o3] [] S (mI M) Q) (k2 : ((M a0 0).tmod 2) = 0 → X E d fX8_holds 179 [some (.ref a0), o1, o2, o3] [] S (mI M) Q) : X E d fX8_holds 170 [some (.ref a0), o1, o2, o3] [] S (mI M) Q := by
  refine X_aload_n 171 (by decide +kernel : decode cX8_holds 170 = .ok (.aload_n 0, 1)) rfl rfl rfl ?_
  refine X_getI 174 (by decide +kernel : decode cX8_holds 171 = .ok (.getfield 50, 3)) rfl rfl (by decide +kernel : aFd 10 50 = some (10, 0, false, false)) g1 ?_
  refine X_iconst 175 (by decide +kernel : decode cX8_holds 174 = .ok (.iconst 2, 1)) rfl rfl ?_
  refine X_iremW 176 (by decide +kernel : decode cX8_holds 175 = .ok (.irem, 1)) rfl rfl r2 ⟨by decide, by decide⟩ (by decide) ?_
  exact X_ifne 198 179 (by decide +kernel : decode cX8_holds 176 = .ok (.ifCond .ne 22, 3)) rfl rfl (by decide) r3 k1 k2
theorem kX8_holds_179 {a0 : Nat} {a1 : Nat} {x2 : Int} {o3 : Option Value} {b2 : Nat} {b9 : Nat} (g1 : aKd S a0 = 10) (p3 : aP S a0 5 = some b2) (g4 : aKd S a1 = 100) (h5 : (0 : Int) ≤ 9 ∧ 9 < (aN S a1 : Int)) (g6 : aKd S b2 = 102) (r7 : R32 (M a1 9)) (h8 : (0 : Int) ≤ M a1 9 ∧ (M a1 9) < (aN S b2 : Int)) (p10 : aP S b2 (M a1 9).toNat = some b9) (g11 : aKd S b9 = 100) (h12 : (0 : Int) ≤ 5 ∧ 5 < (aN S b9 : Int)) (r13 : R32 (M b9 5)) (r14 : R32 x2) (k1 : x2 ≤ (M b9 5) → X E d fX8_holds 198 [some (.ref a0), some (.ref a1), some (J x2), o3] [] S (mI M) Q) (k2 : (M b9 5) < x2 → X E d fX8_holds 194 [some (.ref a0), some (.ref a1), some (J x2), o3] [] S (mI M) Q) : X E d fX8_holds 179 [some (.ref a0), some (.ref a1), some (J x2), o3] [] S (mI M) Q := by
  refine X_aload_n 180 (by decide +kernel : decode cX8_holds 179 = .ok (.aload_n 0, 1)) rfl rfl rfl ?_
  refine X_getR 183 (by decide +kernel : decode cX8_holds 180 = .ok (.getfield 25, 3)) rfl rfl (by decide +kernel : aFd 10 25 = some (10, 5, true, false)) g1 p3 ?_
  refine X_aload_n 184 (by decide +kernel : decode cX8_holds 183 = .ok (.aload_n 1, 1)) rfl rfl rfl ?_
  refine X_bipush 186 (9) (by decide +kernel : decode cX8_holds 184 = .ok (.bipush 9, 2)) rfl rfl (by decide +kernel) ?_
  refine X_iald 187 (by decide +kernel : decode cX8_holds 186 = .ok (.iaload, 1)) rfl rfl g4 ⟨by decide, by decide⟩ h5 ?_
  refine X_aald 188 (by decide +kernel : decode cX8_holds 187 = .ok (.aaload, 1)) rfl rfl g6 r7 h8 p10 ?_
  refine X_iconst 189 (by decide +kernel : decode cX8_holds 188 = .ok (.iconst 5, 1)) rfl rfl ?_
  refine X_iald 190 (by decide +kernel : decode cX8_holds 189 = .ok (.iaload, 1)) rfl rfl g11 ⟨by decide, by decide⟩ h12 ?_
  refine X_iload_n 191 (by decide +kernel : decode cX8_holds 190 = .ok (.iload_n 2, 1)) rfl rfl rfl ?_
  exact X_icmpge 198 194 (by decide +kernel : decode cX8_holds 191 = .ok (.if_icmp .ge 7, 3)) rfl rfl (by decide) r13 r14 k1 k2
theorem kX8_holds_194 {o0 : Option Value} {o1 : Option Value} {o2 : Option Value} {o3 : Option Value} (k : X E d fX8_holds 199 [o0, o1, o2, o3] [J 1] S (mI M) Q) : X E d fX8_holds 194 [o0, o1, o2, o3] [] S (mI M) Q := by
  refine X_iconst 195 (by decide +kernel : decode cX8_holds 194 = .ok (.iconst 1, 1)) rfl rfl ?_
  exact X_goto 199 (by decide +kernel : decode cX8_holds 195 = .ok (.goto 4, 3)) rfl (by decide) k
theorem kX8_holds_198 {o0 : Option Value} {o1 : Option Value} {o2 : Option Value} {o3 : Option Value} (k : X E d fX8_holds 199 [o0, o1, o2, o3] [J 0] S (mI M) Q) : X E d fX8_holds 198 [o0, o1, o2, o3] [] S (mI M) Q := by
  refine X_iconst 199 (by decide +kernel : decode cX8_holds 198 = .ok (.iconst 0, 1)) rfl rfl ?_
  exact k
theorem kX8_holds_199 {o0 : Option Value} {o1 : Option Value} {o2 : Option Value} {o3 : Option Value} {t0 : Int} (h1 : narrow .boolean (J t0) = J t0) (q : Q (some (some (J t0))) S (mI M)) : X E d fX8_holds 199 [o0, o1, o2, o3] [J t0] S (mI M) Q := by
  exact X_iret (by decide +kernel : decode cX8_holds 199 = .ok (.ireturn, 1)) rfl rfl h1 q
theorem kX8_holds_200 {o0 : Option Value} {o1 : Option Value} {o2 : Option Value} {a3 : Nat} (g1 : aKd S a3 = 100) (h2 : (0 : Int) ≤ 3 ∧ 3 < (aN S a3 : Int)) (r3 : R32 (M a3 3)) (k1 : 0 ≤ (M a3 3) → X E d fX8_holds 210 [o0, o1, o2, some (.ref a3)] [] S (mI M) Q) (k2 : (M a3 3) < 0 → X E d fX8_holds 206 [o0, o1, o2, some (.ref a3)] [] S (mI M) Q) : X E d fX8_holds 200 [o0, o1, o2, some (.ref a3)] [] S (mI M) Q := by
  refine X_aload_n 201 (by decide +kernel : decode cX8_holds 200 = .ok (.aload_n 3, 1)) rfl rfl rfl ?_
  refine X_iconst 202 (by decide +kernel : decode cX8_holds 201 = .ok (.iconst 3, 1)) rfl rfl ?_
  refine X_iald 203 (by decide +kernel : decode cX8_holds 202 = .ok (.iaload, 1)) rfl rfl g1 ⟨by decide, by decide⟩ h2 ?_
  exact X_ifge 210 206 (by decide +kernel : decode cX8_holds 203 = .ok (.ifCond .ge 7, 3)) rfl rfl (by decide) r3 k1 k2
theorem kX8_holds_206 {o0 : Option Value} {o1 : Option Value} {o2 : Option Value} {o3 : Option Value} (k : X E d fX8_holds 211 [o0, o1, o2, o3] [J 1] S (mI M) Q) : X E d fX8_holds 206 [o0, o1, o2, o3] [] S (mI M) Q := by
  refine X_iconst 207 (by decide +kernel : decode cX8_holds 206 = .ok (.iconst 1, 1)) rfl rfl ?_
  exact X_goto 211 (by decide +kernel : decode cX8_holds 207 = .ok (.goto 4, 3)) rfl (by decide) k
theorem kX8_holds_210 {o0 : Option Value} {o1 : Option Value} {o2 : Option Value} {o3 : Option Value} (k : X E d fX8_holds 211 [o0, o1, o2, o3] [J 0] S (mI M) Q) : X E d fX8_holds 210 [o0, o1, o2, o3] [] S (mI M) Q := by
  refine X_iconst 211 (by decide +kernel : decode cX8_holds 210 = .ok (.iconst 0, 1)) rfl rfl ?_
  exact k
theorem kX8_holds_211 {o0 : Option Value} {o1 : Option Value} {o2 : Option Value} {o3 : Option Value} {t0 : Int} (h1 : narrow .boolean (J t0) = J t0) (q : Q (some (some (J t0))) S (mI M)) : X E d fX8_holds 211 [o0, o1, o2, o3] [J t0] S (mI M) Q := by
  exact X_iret (by decide +kernel : decode cX8_holds 211 = .ok (.ireturn, 1)) rfl rfl h1 q
theorem kX8_holds_212 {o0 : Option Value} {o1 : Option Value} {x2 : Int} {o3 : Option Value} (r1 : R32 x2) (r2 : R32 (x2.tmod 2)) (k1 : (x2.tmod 2) ≠ 0 → X E d fX8_holds 222 [o0, o1, some (J x2), o3] [] S (mI M) Q) (k2 : (x2.tmod 2) = 0 → X E d fX8_holds 218 [o0, o1, some (J x2), o3] [] S (mI M) Q) : X E d fX8_holds 212 [o0, o1, some (J x2), o3] [] S (mI M) Q := by
  refine X_iload_n 213 (by decide +kernel : decode cX8_holds 212 = .ok (.iload_n 2, 1)) rfl rfl rfl ?_
  refine X_iconst 214 (by decide +kernel : decode cX8_holds 213 = .ok (.iconst 2, 1)) rfl rfl ?_
  refine X_iremW 215 (by decide +kernel : decode cX8_holds 214 = .ok (.irem, 1)) rfl rfl r1 ⟨by decide, by decide⟩ (by decide) ?_
  exact X_ifne 222 218 (by decide +kernel : decode cX8_holds 215 = .ok (.ifCond .ne 7, 3)) rfl rfl (by decide) r2 k1 k2
theorem kX8_holds_218 {o0 : Option Value} {o1 : Option Value} {o2 : Option Value} {o3 : Option Value} (k : X E d fX8_holds 223 [o0, o1, o2, o3] [J 1] S (mI M) Q) : X E d fX8_holds 218 [o0, o1, o2, o3] [] S (mI M) Q := by
  refine X_iconst 219 (by decide +kernel : decode cX8_holds 218 = .ok (.iconst 1, 1)) rfl rfl ?_
  exact X_goto 223 (by decide +kernel : decode cX8_holds 219 = .ok (.goto 4, 3)) rfl (by decide) k
theorem kX8_holds_222 {o0 : Option Value} {o1 : Option Value} {o2 : Option Value} {o3 : Option Value} (k : X E d fX8_holds 223 [o0, o1, o2, o3] [J 0] S (mI M) Q) : X E d fX8_holds 222 [o0, o1, o2, o3] [] S (mI M) Q := by
  refine X_iconst 223 (by decide +kernel : decode cX8_holds 222 = .ok (.iconst 0, 1)) rfl rfl ?_
  exact k
theorem kX8_holds_223 {o0 : Option Value} {o1 : Option Value} {o2 : Option Value} {o3 : Option Value} {t0 : Int} (h1 : narrow .boolean (J t0) = J t0) (q : Q (some (some (J t0))) S (mI M)) : X E d fX8_holds 223 [o0, o1, o2, o3] [J t0] S (mI M) Q := by
  exact X_iret (by decide +kernel : decode cX8_holds 223 = .ok (.ireturn, 1)) rfl rfl h1 q
theorem kX8_broken_0 {a0 : Nat} {o1 : Option Value} {o2 : Option Value} {o3 : Option Value} {o4 : Option Value} {o5 : Option Value} {o6 : Option Value} {b2 : Nat} (g1 : aKd S a0 = 10) (p3 : aP S a0 3 = some b2) (g4 : aKd S b2 = 100 ∨ aKd S b2 = 101 ∨ aKd S b2 = 102) (k : X E d fX8_broken 14 [some (.ref a0), o1, some (J 0), some (.ref b2), some (J (aN S b2 : Int)), some (J 0), o6] [] S (mI M) Q) : X E d fX8_broken 0 [some (.ref a0), o1, o2, o3, o4, o5, o6] [] S (mI M) Q := by
  refine X_iconst 1 (by decide +kernel : decode cX8_broken 0 = .ok (.iconst 0, 1)) rfl rfl ?_
  refine X_istore_n 2 (by decide +kernel : decode cX8_broken 1 = .ok (.istore_n 2, 1)) rfl rfl (Nat.le_of_ble_eq_true rfl) rfl ?_
  refine X_aload_n 3 (by decide +kernel : decode cX8_broken 2 = .ok (.aload_n 0, 1)) rfl rfl rfl ?_
  refine X_getR 6 (by decide +kernel : decode cX8_broken 3 = .ok (.getfield 19, 3)) rfl rfl (by decide +kernel : aFd 10 19 = some (10, 3, true, false)) g1 p3 ?_
  refine X_astore_n 7 (by decide +kernel : decode cX8_broken 6 = .ok (.astore_n 3, 1)) rfl rfl (Nat.le_of_ble_eq_true rfl) rfl ?_
  refine X_aload_n 8 (by decide +kernel : decode cX8_broken 7 = .ok (.aload_n 3, 1)) rfl rfl rfl ?_
  refine X_alen 9 (by decide +kernel : decode cX8_broken 8 = .ok (.arraylength, 1)) rfl rfl g4 ?_
  refine X_istore 11 (by decide +kernel : decode cX8_broken 9 = .ok (.istore 4, 2)) rfl rfl (Nat.le_of_ble_eq_true rfl) rfl ?_
  refine X_iconst 12 (by decide +kernel : decode cX8_broken 11 = .ok (.iconst 0, 1)) rfl rfl ?_
  refine X_istore 14 (by decide +kernel : decode cX8_broken 12 = .ok (.istore 5, 2)) rfl rfl (Nat.le_of_ble_eq_true rfl) rfl ?_
  exact k
theorem kX8_broken_14 {o0 : Option Value} {o1 : Option Value} {o2 : Option Value} {o3 : Option Value} {x4 : Int} {x5 : Int} {o6 : Option Value} (r1 : R32 x5) (r2 : R32 x4) (k1 : x4 ≤ x5 → X E d fX8_broken 60 [o0, o1, o2, o3, some (J x4), some (J x5), o6] [] S (mI M) Q) (k2 : x5 < x4 → X E d fX8_broken 21 [o0, o1, o2, o3, some (J x4), some (J x5), o6] [] S (mI M) Q) : X E d fX8_broken 14 [o0, o1, o2, o3, some (J x4), some (J x5), o6] [] S (mI M) Q := by
  refine X_iload 16 (by decide +kernel : decode cX8_broken 14 = .ok (.iload 5, 2)) rfl rfl rfl ?_
  refine X_iload 18 (by decide +kernel : decode cX8_broken 16 = .ok (.iload 4, 2)) rfl rfl rfl ?_
  exact X_icmpge 60 21 (by decide +kernel : decode cX8_broken 18 = .ok (.if_icmp .ge 42, 3)) rfl rfl (by decide) r1 r2 k1 k2
theorem kX8_broken_21 {o0 : Option Value} {x1 : Int} {x2 : Int} {a3 : Nat} {o4 : Option Value} {x5 : Int} {o6 : Option Value} {b4 : Nat} (g1 : aKd S a3 = 102) (r2 : R32 x5) (h3 : (0 : Int) ≤ x5 ∧ x5 < (aN S a3 : Int)) (p5 : aP S a3 x5.toNat = some b4) (r6 : R32 x1) (k1 : x1 < 0 → X E d fX8_broken 40 [o0, some (J x1), some (J x2), some (.ref a3), o4, some (J x5), some (.ref b4)] [J x2] S (mI M) Q) (k2 : 0 ≤ x1 → X E d fX8_broken 32 [o0, some (J x1), some (J x2), some (.ref a3), o4, some (J x5), some (.ref b4)] [J x2] S (mI M) Q) : X E d fX8_broken 21 [o0, some (J x1), some (J x2), some (.ref a3), o4, some (J x5), o6] [] S (mI M) Q := by
  refine X_aload_n 22 (by decide +kernel : decode cX8_broken 21 = .ok (.aload_n 3, 1)) rfl rfl rfl ?_
  refine X_iload 24 (by decide +kernel : decode cX8_broken 22 = .ok (.iload 5, 2)) rfl rfl rfl ?_
  refine X_aald 25 (by decide +kernel : decode cX8_broken 24 = .ok (.aaload, 1)) rfl rfl g1 r2 h3 p5 ?_
  refine X_astore 27 (by decide +kernel : decode cX8_broken 25 = .ok (.astore 6, 2)) rfl rfl (Nat.le_of_ble_eq_true rfl) rfl ?_
  refine X_iload_n 28 (by decide +kernel : decode cX8_broken 27 = .ok (.iload_n 2, 1)) rfl rfl rfl ?_
  refine X_iload_n 29 (by decide +kernel : decode cX8_broken 28 = .ok (.iload_n 1, 1)) rfl rfl rfl ?_
  exact X_iflt 40 32 (by decide +kernel : decode cX8_broken 29 = .ok (.ifCond .lt 11, 3)) rfl rfl (by decide) r6 k1 k2
theorem kX8_broken_32 {o0 : Option Value} {x1 : Int} {o2 : Option Value} {o3 : Option Value} {o4 : Option Value} {o5 : Option Value} {a6 : Nat} {t0 : Int} (g1 : aKd S a6 = 100) (h2 : (0 : Int) ≤ 0 ∧ 0 < (aN S a6 : Int)) (r3 : R32 (M a6 0)) (r4 : R32 x1) (k1 : (M a6 0) ≠ x1 → X E d fX8_broken 51 [o0, some (J x1), o2, o3, o4, o5, some (.ref a6)] [J t0] S (mI M) Q) (k2 : (M a6 0) = x1 → X E d fX8_broken 40 [o0, some (J x1), o2, o3, o4, o5, some (.ref a6)] [J t0] S (mI M) Q) : X E d fX8_broken 32 [o0, some (J x1), o2, o3, o4, o5, some (.ref a6)] [J t0] S (mI M) Q := by
  refine X_aload 34 (by decide +kernel : decode cX8_broken 32 = .ok (.aload 6, 2)) rfl rfl rfl ?_
  refine X_iconst 35 (by decide +kernel : decode cX8_broken 34 = .ok (.iconst 0, 1)) rfl rfl ?_
  refine X_iald 36 (by decide +kernel : decode cX8_broken 35 = .ok (.iaload, 1)) rfl rfl g1 ⟨by decide, by decide⟩ h2 ?_
  refine X_iload_n 37 (by decide +kernel : decode cX8_broken 36 = .ok (.iload_n 1, 1)) rfl rfl rfl ?_
  exact X_icmpne 51 40 (by decide +kernel : decode cX8_broken 37 = .ok (.if_icmp .ne 14, 3)) rfl rfl (by decide) r3 r4 k1 k2
theorem kX8_broken_40 {o0 : Option Value} {o1 : Option Value} {o2 : Option Value} {o3 : Option Value} {o4 : Option Value} {o5 : Option Value} {a6 : Nat} {t0 : Int} (g1 : aKd S a6 = 100) (h2 : (0 : Int) ≤ 1 ∧ 1 < (aN S a6 : Int)) (r3 : R32 (M a6 1)) (k1 : (M a6 1) ≠ 0 → X E d fX8_broken 51 [o0, o1, o2, o3, o4, o5, some (.ref a6)] [J t0] S (mI M) Q) (k2 : (M a6 1) = 0 → X E d fX8_broken 47 [o0, o1, o2, o3, o4, o5, some (.ref a6)] [J t0] S (mI M) Q) : X E d fX8_broken 40 [o0, o1, o2, o3, o4, o5, some (.ref a6)] [J t0] S (mI M) Q := by
  refine X_aload 42 (by decide +kernel : decode cX8_broken 40 = .ok (.aload 6, 2)) rfl rfl rfl ?_
  refine X_iconst 43 (by decide +kernel : decode cX8_broken 42 = .ok (.iconst 1, 1)) rfl rfl ?_
  refine X_iald 44 (by decide +kernel : decode cX8_broken 43 = .ok (.iaload, 1)) rfl rfl g1 ⟨by decide, by decide⟩ h2 ?_
  exact X_ifne 51 47 (by decide +kernel : decode cX8_broken 44 = .ok (.ifCond .ne 7, 3)) rfl rfl (by decide) r3 k1 k2
theorem kX8_broken_47 {o0 : Option Value} {o1 : Option Value} {o2 : Option Value} {o3 : Option Value} {o4 : Option Value} {o5 : Option Value} {o6 : Option Value} {t0 : Int} (k : X E d fX8_broken 52 [o0, o1, o2, o3, o4, o5, o6] [J 1, J t0] S (mI M) Q) : X E d fX8_broken 47 [o0, o1, o2, o3, o4, o5, o6] [J t0] S (mI M) Q := by
  refine X_iconst 48 (by decide +kernel : decode cX8_broken 47 = .ok (.iconst 1, 1)) rfl rfl ?_
  exact X_goto 52 (by decide +kernel : decode cX8_broken 48 = .ok (.goto 4, 3)) rfl (by decide) k
theorem kX8_broken_51 {o0 : Option Value} {o1 : Option Value} {o2 : Option Value} {o3 : Option Value} {o4 : Option Value} {o5 : Option Value} {o6 : Option Value} {t0 : Int} (k : X E d fX8_broken 52 [o0, o1, o2, o3, o4, o5, o6] [J 0, J t0] S (mI M) Q) : X E d fX8_broken 51 [o0, o1, o2, o3, o4, o5, o6] [J t0] S (mI M) Q := by
  refine X_iconst 52 (by decide +kernel : decode cX8_broken 51 = .ok (.iconst 0, 1)) rfl rfl ?_
  exact k
theorem kX8_broken_52 {o0 : Option Value} {o1 : Option Value} {o2 : Option Value} {o3 : Option Value} {o4 : Option Value} {x5 : Int} {o6 : Option Value} {t0 : Int} {t1 : Int} (k : X E d fX8_broken 14 [o0, o1, some (J (t1 + t0)), o3, o4, some (J (x5 + 1)), o6] [] S (mI M) Q) : X E d fX8_broken 52 [o0, o1, o2, o3, o4, some (J x5), o6] [J t0, J t1] S (mI M) Q := by
  refine X_iadd 53 (by decide +kernel : decode cX8_broken 52 = .ok (.iadd, 1)) rfl rfl ?_
  refine X_istore_n 54 (by decide +kernel : decode cX8_broken 53 = .ok (.istore_n 2, 1)) rfl rfl (Nat.le_of_ble_eq_true rfl) rfl ?_
  refine X_iinc 57 (by decide +kernel : decode cX8_broken 54 = .ok (.iinc 5 1, 3)) rfl rfl rfl rfl ?_
  exact X_goto 14 (by decide +kernel : decode cX8_broken 57 = .ok (.goto (-43), 3)) rfl (by decide) k
theorem kX8_broken_60 {o0 : Option Value} {o1 : Option Value} {x2 : Int} {o3 : Option Value} {o4 : Option Value} {o5 : Option Value} {o6 : Option Value} (q : Q (some (some (J x2))) S (mI M)) : X E d fX8_broken 60 [o0, o1, some (J x2), o3, o4, o5, o6] [] S (mI M) Q := by
  refine X_iload_n 61 (by decide +kernel : decode cX8_broken 60 = .ok (.iload_n 2, 1)) rfl rfl rfl ?_
  exact X_iret (by decide +kernel : decode cX8_broken 61 = .ok (.ireturn, 1)) rfl rfl rfl q
theorem kX8_least_0 {a0 : Nat} {o1 : Option Value} {o2 : Option Value} {o3 : Option Value} {o4 : Option Value} {o5 : Option Value} {o6 : Option Value} {b2 : Nat} (g1 : aKd S a0 = 10) (p3 : aP S a0 3 = some b2) (g4 : aKd S b2 = 100 ∨ aKd S b2 = 101 ∨ aKd S b2 = 102) (k : X E d fX8_least 15 [some (.ref a0), o1, some (J 100), some (.ref b2), some (J (aN S b2 : Int)), some (J 0), o6] [] S (mI M) Q) : X E d fX8_least 0 [some (.ref a0), o1, o2, o3, o4, o5, o6] [] S (mI M) Q := by
  refine X_bipush 2 (100) (by decide +kernel : decode cX8_least 0 = .ok (.bipush 100, 2)) rfl rfl (by decide +kernel) ?_
  refine X_istore_n 3 (by decide +kernel : decode cX8_least 2 = .ok (.istore_n 2, 1)) rfl rfl (Nat.le_of_ble_eq_true rfl) rfl ?_
  refine X_aload_n 4 (by decide +kernel : decode cX8_least 3 = .ok (.aload_n 0, 1)) rfl rfl rfl ?_
  refine X_getR 7 (by decide +kernel : decode cX8_least 4 = .ok (.getfield 19, 3)) rfl rfl (by decide +kernel : aFd 10 19 = some (10, 3, true, false)) g1 p3 ?_
  refine X_astore_n 8 (by decide +kernel : decode cX8_least 7 = .ok (.astore_n 3, 1)) rfl rfl (Nat.le_of_ble_eq_true rfl) rfl ?_
  refine X_aload_n 9 (by decide +kernel : decode cX8_least 8 = .ok (.aload_n 3, 1)) rfl rfl rfl ?_
  refine X_alen 10 (by decide +kernel : decode cX8_least 9 = .ok (.arraylength, 1)) rfl rfl g4 ?_
  refine X_istore 12 (by decide +kernel : decode cX8_least 10 = .ok (.istore 4, 2)) rfl rfl (Nat.le_of_ble_eq_true rfl) rfl ?_
  refine X_iconst 13 (by decide +kernel : decode cX8_least 12 = .ok (.iconst 0, 1)) rfl rfl ?_
  refine X_istore 15 (by decide +kernel : decode cX8_least 13 = .ok (.istore 5, 2)) rfl rfl (Nat.le_of_ble_eq_true rfl) rfl ?_
  exact k
theorem kX8_least_15 {o0 : Option Value} {o1 : Option Value} {o2 : Option Value} {o3 : Option Value} {x4 : Int} {x5 : Int} {o6 : Option Value} (r1 : R32 x5) (r2 : R32 x4) (k1 : x4 ≤ x5 → X E d fX8_least 55 [o0, o1, o2, o3, some (J x4), some (J x5), o6] [] S (mI M) Q) (k2 : x5 < x4 → X E d fX8_least 22 [o0, o1, o2, o3, some (J x4), some (J x5), o6] [] S (mI M) Q) : X E d fX8_least 15 [o0, o1, o2, o3, some (J x4), some (J x5), o6] [] S (mI M) Q := by
  refine X_iload 17 (by decide +kernel : decode cX8_least 15 = .ok (.iload 5, 2)) rfl rfl rfl ?_
  refine X_iload 19 (by decide +kernel : decode cX8_least 17 = .ok (.iload 4, 2)) rfl rfl rfl ?_
  exact X_icmpge 55 22 (by decide +kernel : decode cX8_least 19 = .ok (.if_icmp .ge 36, 3)) rfl rfl (by decide) r1 r2 k1 k2
theorem kX8_least_22 {o0 : Option Value} {x1 : Int} {o2 : Option Value} {a3 : Nat} {o4 : Option Value} {x5 : Int} {o6 : Option Value} {b4 : Nat} (g1 : aKd S a3 = 102) (r2 : R32 x5) (h3 : (0 : Int) ≤ x5 ∧ x5 < (aN S a3 : Int)) (p5 : aP S a3 x5.toNat = some b4) (r6 : R32 x1) (k1 : x1 < 0 → X E d fX8_least 40 [o0, some (J x1), o2, some (.ref a3), o4, some (J x5), some (.ref b4)] [] S (mI M) Q) (k2 : 0 ≤ x1 → X E d fX8_least 32 [o0, some (J x1), o2, some (.ref a3), o4, some (J x5), some (.ref b4)] [] S (mI M) Q) : X E d fX8_least 22 [o0, some (J x1), o2, some (.ref a3), o4, some (J x5), o6] [] S (mI M) Q := by
  refine X_aload_n 23 (by decide +kernel : decode cX8_least 22 = .ok (.aload_n 3, 1)) rfl rfl rfl ?_
  refine X_iload 25 (by decide +kernel : decode cX8_least 23 = .ok (.iload 5, 2)) rfl rfl rfl ?_
  refine X_aald 26 (by decide +kernel : decode cX8_least 25 = .ok (.aaload, 1)) rfl rfl g1 r2 h3 p5 ?_
  refine X_astore 28 (by decide +kernel : decode cX8_least 26 = .ok (.astore 6, 2)) rfl rfl (Nat.le_of_ble_eq_true rfl) rfl ?_
  refine X_iload_n 29 (by decide +kernel : decode cX8_least 28 = .ok (.iload_n 1, 1)) rfl rfl rfl ?_
  exact X_iflt 40 32 (by decide +kernel : decode cX8_least 29 = .ok (.ifCond .lt 11, 3)) rfl rfl (by decide) r6 k1 k2
theorem kX8_least_32 {o0 : Option Value} {x1 : Int} {o2 : Option Value} {o3 : Option Value} {o4 : Option Value} {o5 : Option Value} {a6 : Nat} (g1 : aKd S a6 = 100) (h2 : (0 : Int) ≤ 0 ∧ 0 < (aN S a6 : Int)) (r3 : R32 (M a6 0)) (r4 : R32 x1) (k1 : (M a6 0) ≠ x1 → X E d fX8_least 49 [o0, some (J x1), o2, o3, o4, o5, some (.ref a6)] [] S (mI M) Q) (k2 : (M a6 0) = x1 → X E d fX8_least 40 [o0, some (J x1), o2, o3, o4, o5, some (.ref a6)] [] S (mI M) Q) : X E d fX8_least 32 [o0, some (J x1), o2, o3, o4, o5, some (.ref a6)] [] S (mI M) Q := by
  refine X_aload 34 (by decide +kernel : decode cX8_least 32 = .ok (.aload 6, 2)) rfl rfl rfl ?_
  refine X_iconst 35 (by decide +kernel : decode cX8_least 34 = .ok (.iconst 0, 1)) rfl rfl ?_
  refine X_iald 36 (by decide +kernel : decode cX8_least 35 = .ok (.iaload, 1)) rfl rfl g1 ⟨by decide, by decide⟩ h2 ?_
  refine X_iload_n 37 (by decide +kernel : decode cX8_least 36 = .ok (.iload_n 1, 1)) rfl rfl rfl ?_
  exact X_icmpne 49 40 (by decide +kernel : decode cX8_least 37 = .ok (.if_icmp .ne 12, 3)) rfl rfl (by decide) r3 r4 k1 k2
theorem kX8_least_40 {o0 : Option Value} {o1 : Option Value} {x2 : Int} {o3 : Option Value} {o4 : Option Value} {o5 : Option Value} {a6 : Nat} (g1 : aKd S a6 = 100) (h2 : (0 : Int) ≤ 1 ∧ 1 < (aN S a6 : Int)) (r3 : R32 x2) (r4 : R32 (M a6 1)) (k : X E d fX8_least 49 [o0, o1, some (J (min x2 (M a6 1))), o3, o4, o5, some (.ref a6)] [] S (mI M) Q) : X E d fX8_least 40 [o0, o1, some (J x2), o3, o4, o5, some (.ref a6)] [] S (mI M) Q := by
  refine X_iload_n 41 (by decide +kernel : decode cX8_least 40 = .ok (.iload_n 2, 1)) rfl rfl rfl ?_
  refine X_aload 43 (by decide +kernel : decode cX8_least 41 = .ok (.aload 6, 2)) rfl rfl rfl ?_
  refine X_iconst 44 (by decide +kernel : decode cX8_least 43 = .ok (.iconst 1, 1)) rfl rfl ?_
  refine X_iald 45 (by decide +kernel : decode cX8_least 44 = .ok (.iaload, 1)) rfl rfl g1 ⟨by decide, by decide⟩ h2 ?_
  refine X_math (z := 0) 48 (by decide +kernel : decode cX8_least 45 = .ok (.invokestatic 34, 3)) rfl rfl rfl rfl (by decide) r3 r4 (Nat.le_of_ble_eq_true rfl) ?_
  refine X_istore_n 49 (by decide +kernel : decode cX8_least 48 = .ok (.istore_n 2, 1)) rfl rfl (Nat.le_of_ble_eq_true rfl) rfl ?_
  exact k
theorem kX8_least_49 {o0 : Option Value} {o1 : Option Value} {o2 : Option Value} {o3 : Option Value} {o4 : Option Value} {x5 : Int} {o6 : Option Value} (k : X E d fX8_least 15 [o0, o1, o2, o3, o4, some (J (x5 + 1)), o6] [] S (mI M) Q) : X E d fX8_least 49 [o0, o1, o2, o3, o4, some (J x5), o6] [] S (mI M) Q := by
  refine X_iinc 52 (by decide +kernel : decode cX8_least 49 = .ok (.iinc 5 1, 3)) rfl rfl rfl rfl ?_
  exact X_goto 15 (by decide +kernel : decode cX8_least 52 = .ok (.goto (-37), 3)) rfl (by decide) k
theorem kX8_least_55 {o0 : Option Value} {o1 : Option Value} {x2 : Int} {o3 : Option Value} {o4 : Option Value} {o5 : Option Value} {o6 : Option Value} (q : Q (some (some (J x2))) S (mI M)) : X E d fX8_least 55 [o0, o1, some (J x2), o3, o4, o5, o6] [] S (mI M) Q := by
  refine X_iload_n 56 (by decide +kernel : decode cX8_least 55 = .ok (.iload_n 2, 1)) rfl rfl rfl ?_
  exact X_iret (by decide +kernel : decode cX8_least 56 = .ok (.ireturn, 1)) rfl rfl rfl q
theorem kX8_condition_0 {o0 : Option Value} {x1 : Int} (r1 : R32 x1) (k1 : x1 < 0 → X E d fX8_condition 13 [o0, some (J x1)] [] S (mI M) Q) (k2 : 0 ≤ x1 → X E d fX8_condition 4 [o0, some (J x1)] [] S (mI M) Q) : X E d fX8_condition 0 [o0, some (J x1)] [] S (mI M) Q := by
  refine X_iload_n 1 (by decide +kernel : decode cX8_condition 0 = .ok (.iload_n 1, 1)) rfl rfl rfl ?_
  exact X_iflt 13 4 (by decide +kernel : decode cX8_condition 1 = .ok (.ifCond .lt 12, 3)) rfl rfl (by decide) r1 k1 k2
theorem kX8_condition_4 {a0 : Nat} {x1 : Int} {b2 : Nat} (g1 : aKd S a0 = 10) (p3 : aP S a0 3 = some b2) (g4 : aKd S b2 = 100 ∨ aKd S b2 = 101 ∨ aKd S b2 = 102) (r5 : R32 x1) (r6 : R32 ((aN S b2 : Int))) (k1 : x1 < (aN S b2 : Int) → X E d fX8_condition 17 [some (.ref a0), some (J x1)] [] S (mI M) Q) (k2 : (aN S b2 : Int) ≤ x1 → X E d fX8_condition 13 [some (.ref a0), some (J x1)] [] S (mI M) Q) : X E d fX8_condition 4 [some (.ref a0), some (J x1)] [] S (mI M) Q := by
  refine X_iload_n 5 (by decide +kernel : decode cX8_condition 4 = .ok (.iload_n 1, 1)) rfl rfl rfl ?_
  refine X_aload_n 6 (by decide +kernel : decode cX8_condition 5 = .ok (.aload_n 0, 1)) rfl rfl rfl ?_
  refine X_getR 9 (by decide +kernel : decode cX8_condition 6 = .ok (.getfield 19, 3)) rfl rfl (by decide +kernel : aFd 10 19 = some (10, 3, true, false)) g1 p3 ?_
  refine X_alen 10 (by decide +kernel : decode cX8_condition 9 = .ok (.arraylength, 1)) rfl rfl g4 ?_
  exact X_icmplt 17 13 (by decide +kernel : decode cX8_condition 10 = .ok (.if_icmp .lt 7, 3)) rfl rfl (by decide) r5 r6 k1 k2
theorem kX8_condition_13 {o0 : Option Value} {o1 : Option Value} (k : X E d fX8_condition 25 [o0, o1] [J 0] S (mI M) Q) : X E d fX8_condition 13 [o0, o1] [] S (mI M) Q := by
  refine X_iconst 14 (by decide +kernel : decode cX8_condition 13 = .ok (.iconst 0, 1)) rfl rfl ?_
  exact X_goto 25 (by decide +kernel : decode cX8_condition 14 = .ok (.goto 11, 3)) rfl (by decide) k
theorem kX8_condition_17 {a0 : Nat} {x1 : Int} {b2 : Nat} {b7 : Nat} (g1 : aKd S a0 = 10) (p3 : aP S a0 3 = some b2) (g4 : aKd S b2 = 102) (r5 : R32 x1) (h6 : (0 : Int) ≤ x1 ∧ x1 < (aN S b2 : Int)) (p8 : aP S b2 x1.toNat = some b7) (g9 : aKd S b7 = 100) (h10 : (0 : Int) ≤ 1 ∧ 1 < (aN S b7 : Int)) (k : X E d fX8_condition 25 [some (.ref a0), some (J x1)] [J (M b7 1)] S (mI M) Q) : X E d fX8_condition 17 [some (.ref a0), some (J x1)] [] S (mI M) Q := by
  refine X_aload_n 18 (by decide +kernel : decode cX8_condition 17 = .ok (.aload_n 0, 1)) rfl rfl rfl ?_
  refine X_getR 21 (by decide +kernel : decode cX8_condition 18 = .ok (.getfield 19, 3)) rfl rfl (by decide +kernel : aFd 10 19 = some (10, 3, true, false)) g1 p3 ?_
  refine X_iload_n 22 (by decide +kernel : decode cX8_condition 21 = .ok (.iload_n 1, 1)) rfl rfl rfl ?_
  refine X_aald 23 (by decide +kernel : decode cX8_condition 22 = .ok (.aaload, 1)) rfl rfl g4 r5 h6 p8 ?_
  refine X_iconst 24 (by decide +kernel : decode cX8_condition 23 = .ok (.iconst 1, 1)) rfl rfl ?_
  refine X_iald 25 (by decide +kernel : decode cX8_condition 24 = .ok (.iaload, 1)) rfl rfl g9 ⟨by decide, by decide⟩ h10 ?_
  exact k
theorem kX8_condition_25 {o0 : Option Value} {o1 : Option Value} {t0 : Int} (q : Q (some (some (J t0))) S (mI M)) : X E d fX8_condition 25 [o0, o1] [J t0] S (mI M) Q := by
  exact X_iret (by decide +kernel : decode cX8_condition 25 = .ok (.ireturn, 1)) rfl rfl rfl q
theorem kX8_go_0 {a0 : Nat} {x1 : Int} {o2 : Option Value} {o3 : Option Value} {o4 : Option Value} {o5 : Option Value} {o6 : Option Value} {b2 : Nat} {b7 : Nat} (g1 : aKd S a0 = 10) (p3 : aP S a0 5 = some b2) (g4 : aKd S b2 = 102) (r5 : R32 x1) (h6 : (0 : Int) ≤ x1 ∧ x1 < (aN S b2 : Int)) (p8 : aP S b2 x1.toNat = some b7) (g9 : aKd S b7 = 100) (h10 : (0 : Int) ≤ 2 ∧ 2 < (aN S b7 : Int)) (h12 : (0 : Int) ≤ 3 ∧ 3 < (aN S b7 : Int)) (r13 : R32 (M b7 2)) (r14 : R32 (M b7 3)) (k1 : (M b7 2) ≤ (M b7 3) → X E d fX8_go 20 [some (.ref a0), some (J x1), some (.ref b7), o3, o4, o5, o6] [] S (mI M) Q) (k2 : (M b7 3) < (M b7 2) → X E d fX8_go 16 [some (.ref a0), some (J x1), some (.ref b7), o3, o4, o5, o6] [] S (mI M) Q) : X E d fX8_go 0 [some (.ref a0), some (J x1), o2, o3, o4, o5, o6] [] S (mI M) Q := by
  refine X_aload_n 1 (by decide +kernel : decode cX8_go 0 = .ok (.aload_n 0, 1)) rfl rfl rfl ?_
  refine X_getR 4 (by decide +kernel : decode cX8_go 1 = .ok (.getfield 25, 3)) rfl rfl (by decide +kernel : aFd 10 25 = some (10, 5, true, false)) g1 p3 ?_
  refine X_iload_n 5 (by decide +kernel : decode cX8_go 4 = .ok (.iload_n 1, 1)) rfl rfl rfl ?_
  refine X_aald 6 (by decide +kernel : decode cX8_go 5 = .ok (.aaload, 1)) rfl rfl g4 r5 h6 p8 ?_
  refine X_astore_n 7 (by decide +kernel : decode cX8_go 6 = .ok (.astore_n 2, 1)) rfl rfl (Nat.le_of_ble_eq_true rfl) rfl ?_
  refine X_aload_n 8 (by decide +kernel : decode cX8_go 7 = .ok (.aload_n 2, 1)) rfl rfl rfl ?_
  refine X_iconst 9 (by decide +kernel : decode cX8_go 8 = .ok (.iconst 2, 1)) rfl rfl ?_
  refine X_iald 10 (by decide +kernel : decode cX8_go 9 = .ok (.iaload, 1)) rfl rfl g9 ⟨by decide, by decide⟩ h10 ?_
  refine X_aload_n 11 (by decide +kernel : decode cX8_go 10 = .ok (.aload_n 2, 1)) rfl rfl rfl ?_
  refine X_iconst 12 (by decide +kernel : decode cX8_go 11 = .ok (.iconst 3, 1)) rfl rfl ?_
  refine X_iald 13 (by decide +kernel : decode cX8_go 12 = .ok (.iaload, 1)) rfl rfl g9 ⟨by decide, by decide⟩ h12 ?_
  exact X_icmple 20 16 (by decide +kernel : decode cX8_go 13 = .ok (.if_icmp .le 7, 3)) rfl rfl (by decide) r13 r14 k1 k2
theorem kX8_go_16 {o0 : Option Value} {o1 : Option Value} {o2 : Option Value} {o3 : Option Value} {o4 : Option Value} {o5 : Option Value} {o6 : Option Value} (k : X E d fX8_go 21 [o0, o1, o2, o3, o4, o5, o6] [J (-1)] S (mI M) Q) : X E d fX8_go 16 [o0, o1, o2, o3, o4, o5, o6] [] S (mI M) Q := by
  refine X_iconst 17 (by decide +kernel : decode cX8_go 16 = .ok (.iconst (-1), 1)) rfl rfl ?_
  exact X_goto 21 (by decide +kernel : decode cX8_go 17 = .ok (.goto 4, 3)) rfl (by decide) k
theorem kX8_go_20 {o0 : Option Value} {o1 : Option Value} {o2 : Option Value} {o3 : Option Value} {o4 : Option Value} {o5 : Option Value} {o6 : Option Value} (k : X E d fX8_go 21 [o0, o1, o2, o3, o4, o5, o6] [J 1] S (mI M) Q) : X E d fX8_go 20 [o0, o1, o2, o3, o4, o5, o6] [] S (mI M) Q := by
  refine X_iconst 21 (by decide +kernel : decode cX8_go 20 = .ok (.iconst 1, 1)) rfl rfl ?_
  exact k
theorem kX8_go_21 {o0 : Option Value} {o1 : Option Value} {o2 : Option Value} {o3 : Option Value} {o4 : Option Value} {o5 : Option Value} {o6 : Option Value} {t0 : Int} (k : X E d fX8_go 25 [o0, o1, o2, some (J t0), some (J 0), o5, o6] [] S (mI M) Q) : X E d fX8_go 21 [o0, o1, o2, o3, o4, o5, o6] [J t0] S (mI M) Q := by
  refine X_istore_n 22 (by decide +kernel : decode cX8_go 21 = .ok (.istore_n 3, 1)) rfl rfl (Nat.le_of_ble_eq_true rfl) rfl ?_
  refine X_iconst 23 (by decide +kernel : decode cX8_go 22 = .ok (.iconst 0, 1)) rfl rfl ?_
  refine X_istore 25 (by decide +kernel : decode cX8_go 23 = .ok (.istore 4, 2)) rfl rfl (Nat.le_of_ble_eq_true rfl) rfl ?_
  exact k
theorem kX8_go_25 {o0 : Option Value} {o1 : Option Value} {a2 : Nat} {o3 : Option Value} {x4 : Int} {o5 : Option Value} {o6 : Option Value} (g1 : aKd S a2 = 100) (h2 : (0 : Int) ≤ 2 ∧ 2 < (aN S a2 : Int)) (h4 : (0 : Int) ≤ 3 ∧ 3 < (aN S a2 : Int)) (r5 : R32 ((M a2 2) - (M a2 3))) (r6 : R32 x4) (r7 : R32 (if 0 ≤ (M a2 2) - (M a2 3) then (M a2 2) - (M a2 3) else -((M a2 2) - (M a2 3)))) (k1 : (if 0 ≤ (M a2 2) - (M a2 3) then (M a2 2) - (M a2 3) else -((M a2 2) - (M a2 3))) < x4 → X E d fX8_go 198 [o0, o1, some (.ref a2), o3, some (J x4), o5, o6] [] S (mI M) Q) (k2 : x4 ≤ (if 0 ≤ (M a2 2) - (M a2 3) then (M a2 2) - (M a2 3) else -((M a2 2) - (M a2 3))) → X E d fX8_go 40 [o0, o1, some (.ref a2), o3, some (J x4), o5, o6] [] S (mI M) Q) : X E d fX8_go 25 [o0, o1, some (.ref a2), o3, some (J x4), o5, o6] [] S (mI M) Q := by
  refine X_iload 27 (by decide +kernel : decode cX8_go 25 = .ok (.iload 4, 2)) rfl rfl rfl ?_
  refine X_aload_n 28 (by decide +kernel : decode cX8_go 27 = .ok (.aload_n 2, 1)) rfl rfl rfl ?_
  refine X_iconst 29 (by decide +kernel : decode cX8_go 28 = .ok (.iconst 2, 1)) rfl rfl ?_
  refine X_iald 30 (by decide +kernel : decode cX8_go 29 = .ok (.iaload, 1)) rfl rfl g1 ⟨by decide, by decide⟩ h2 ?_
  refine X_aload_n 31 (by decide +kernel : decode cX8_go 30 = .ok (.aload_n 2, 1)) rfl rfl rfl ?_
  refine X_iconst 32 (by decide +kernel : decode cX8_go 31 = .ok (.iconst 3, 1)) rfl rfl ?_
  refine X_iald 33 (by decide +kernel : decode cX8_go 32 = .ok (.iaload, 1)) rfl rfl g1 ⟨by decide, by decide⟩ h4 ?_
  refine X_isub 34 (by decide +kernel : decode cX8_go 33 = .ok (.isub, 1)) rfl rfl ?_
  refine X_abs 37 (by decide +kernel : decode cX8_go 34 = .ok (.invokestatic 63, 3)) rfl rfl rfl rfl r5 (Nat.le_of_ble_eq_true rfl) ?_
  exact X_icmpgt 198 40 (by decide +kernel : decode cX8_go 37 = .ok (.if_icmp .gt 161, 3)) rfl rfl (by decide) r6 r7 k1 k2
theorem kX8_go_40 {a0 : Nat} {o1 : Option Value} {a2 : Nat} {x3 : Int} {x4 : Int} {o5 : Option Value} {o6 : Option Value} {b4 : Nat} {b9 : Nat} (g1 : aKd S a2 = 100) (h2 : (0 : Int) ≤ 2 ∧ 2 < (aN S a2 : Int)) (g3 : aKd S a0 = 10) (p5 : aP S a0 3 = some b4) (g6 : aKd S b4 = 102) (r7 : R32 ((M a2 2) + (x3 * x4))) (h8 : (0 : Int) ≤ (M a2 2) + (x3 * x4) ∧ ((M a2 2) + (x3 * x4)) < (aN S b4 : Int)) (p10 : aP S b4 ((M a2 2) + (x3 * x4)).toNat = some b9) (g11 : aKd S b9 = 100) (h12 : (0 : Int) ≤ 1 ∧ 1 < (aN S b9 : Int)) (r13 : R32 (M b9 1)) (k1 : (M b9 1) ≠ 0 → X E d fX8_go 73 [some (.ref a0), o1, some (.ref a2), some (J x3), some (J x4), some (J ((M a2 2) + (x3 * x4))), o6] [] S (mI M) Q) (k2 : (M b9 1) = 0 → X E d fX8_go 62 [some (.ref a0), o1, some (.ref a2), some (J x3), some (J x4), some (J ((M a2 2) + (x3 * x4))), o6] [] S (mI M) Q) : X E d fX8_go 40 [some (.ref a0), o1, some (.ref a2), some (J x3), some (J x4), o5, o6] [] S (mI M) Q := by
  refine X_aload_n 41 (by decide +kernel : decode cX8_go 40 = .ok (.aload_n 2, 1)) rfl rfl rfl ?_
  refine X_iconst 42 (by decide +kernel : decode cX8_go 41 = .ok (.iconst 2, 1)) rfl rfl ?_
  refine X_iald 43 (by decide +kernel : decode cX8_go 42 = .ok (.iaload, 1)) rfl rfl g1 ⟨by decide, by decide⟩ h2 ?_
  refine X_iload_n 44 (by decide +kernel : decode cX8_go 43 = .ok (.iload_n 3, 1)) rfl rfl rfl ?_
  refine X_iload 46 (by decide +kernel : decode cX8_go 44 = .ok (.iload 4, 2)) rfl rfl rfl ?_
  refine X_imul 47 (by decide +kernel : decode cX8_go 46 = .ok (.imul, 1)) rfl rfl ?_
  refine X_iadd 48 (by decide +kernel : decode cX8_go 47 = .ok (.iadd, 1)) rfl rfl ?_
  refine X_istore 50 (by decide +kernel : decode cX8_go 48 = .ok (.istore 5, 2)) rfl rfl (Nat.le_of_ble_eq_true rfl) rfl ?_
  refine X_aload_n 51 (by decide +kernel : decode cX8_go 50 = .ok (.aload_n 0, 1)) rfl rfl rfl ?_
  refine X_getR 54 (by decide +kernel : decode cX8_go 51 = .ok (.getfield 19, 3)) rfl rfl (by decide +kernel : aFd 10 19 = some (10, 3, true, false)) g3 p5 ?_
  refine X_iload 56 (by decide +kernel : decode cX8_go 54 = .ok (.iload 5, 2)) rfl rfl rfl ?_
  refine X_aald 57 (by decide +kernel : decode cX8_go 56 = .ok (.aaload, 1)) rfl rfl g6 r7 h8 p10 ?_
  refine X_iconst 58 (by decide +kernel : decode cX8_go 57 = .ok (.iconst 1, 1)) rfl rfl ?_
  refine X_iald 59 (by decide +kernel : decode cX8_go 58 = .ok (.iaload, 1)) rfl rfl g11 ⟨by decide, by decide⟩ h12 ?_
  exact X_ifne 73 62 (by decide +kernel : decode cX8_go 59 = .ok (.ifCond .ne 14, 3)) rfl rfl (by decide) r13 k1 k2
theorem kX8_go_62 {o0 : Option Value} {o1 : Option Value} {a2 : Nat} {o3 : Option Value} {o4 : Option Value} {x5 : Int} {o6 : Option Value} (g1 : aKd S a2 = 100) (h2 : (0 : Int) ≤ 6 ∧ 6 < (aN S a2 : Int)) (g3 : aK S a2 = 100) (q : Q (some (some (J x5))) S (mI (mW M a2 6 (nz ((M a2 6) + 1))))) : X E d fX8_go 62 [o0, o1, some (.ref a2), o3, o4, some (J x5), o6] [] S (mI M) Q := by
  refine X_aload_n 63 (by decide +kernel : decode cX8_go 62 = .ok (.aload_n 2, 1)) rfl rfl rfl ?_
  refine X_bipush 65 (6) (by decide +kernel : decode cX8_go 63 = .ok (.bipush 6, 2)) rfl rfl (by decide +kernel) ?_
  refine X_dup2 66 (by decide +kernel : decode cX8_go 65 = .ok (.dup2, 1)) rfl rfl rfl rfl ?_
  refine X_iald 67 (by decide +kernel : decode cX8_go 66 = .ok (.iaload, 1)) rfl rfl g1 ⟨by decide, by decide⟩ h2 ?_
  refine X_iconst 68 (by decide +kernel : decode cX8_go 67 = .ok (.iconst 1, 1)) rfl rfl ?_
  refine X_iadd 69 (by decide +kernel : decode cX8_go 68 = .ok (.iadd, 1)) rfl rfl ?_
  refine X_iastz 70 (by decide +kernel : decode cX8_go 69 = .ok (.iastore, 1)) rfl rfl g3 ⟨by decide, by decide⟩ h2 ?_
  refine X_iload 72 (by decide +kernel : decode cX8_go 70 = .ok (.iload 5, 2)) rfl rfl rfl ?_
  exact X_iret (by decide +kernel : decode cX8_go 72 = .ok (.ireturn, 1)) rfl rfl rfl q
theorem kX8_go_73 {o0 : Option Value} {o1 : Option Value} {o2 : Option Value} {o3 : Option Value} {o4 : Option Value} {o5 : Option Value} {o6 : Option Value} (k : X E d fX8_go 76 [o0, o1, o2, o3, o4, o5, some (J 0)] [] S (mI M) Q) : X E d fX8_go 73 [o0, o1, o2, o3, o4, o5, o6] [] S (mI M) Q := by
  refine X_iconst 74 (by decide +kernel : decode cX8_go 73 = .ok (.iconst 0, 1)) rfl rfl ?_
  refine X_istore 76 (by decide +kernel : decode cX8_go 74 = .ok (.istore 6, 2)) rfl rfl (Nat.le_of_ble_eq_true rfl) rfl ?_
  exact k
theorem kX8_go_76 {a0 : Nat} {o1 : Option Value} {o2 : Option Value} {o3 : Option Value} {o4 : Option Value} {o5 : Option Value} {x6 : Int} {b2 : Nat} (g1 : aKd S a0 = 10) (p3 : aP S a0 4 = some b2) (g4 : aKd S b2 = 100 ∨ aKd S b2 = 101 ∨ aKd S b2 = 102) (r5 : R32 x6) (r6 : R32 ((aN S b2 : Int))) (k1 : (aN S b2 : Int) ≤ x6 → X E d fX8_go 113 [some (.ref a0), o1, o2, o3, o4, o5, some (J x6)] [] S (mI M) Q) (k2 : x6 < (aN S b2 : Int) → X E d fX8_go 86 [some (.ref a0), o1, o2, o3, o4, o5, some (J x6)] [] S (mI M) Q) : X E d fX8_go 76 [some (.ref a0), o1, o2, o3, o4, o5, some (J x6)] [] S (mI M) Q := by
  refine X_iload 78 (by decide +kernel : decode cX8_go 76 = .ok (.iload 6, 2)) rfl rfl rfl ?_
  refine X_aload_n 79 (by decide +kernel : decode cX8_go 78 = .ok (.aload_n 0, 1)) rfl rfl rfl ?_
  refine X_getR 82 (by decide +kernel : decode cX8_go 79 = .ok (.getfield 22, 3)) rfl rfl (by decide +kernel : aFd 10 22 = some (10, 4, true, false)) g1 p3 ?_
  refine X_alen 83 (by decide +kernel : decode cX8_go 82 = .ok (.arraylength, 1)) rfl rfl g4 ?_
  exact X_icmpge 113 86 (by decide +kernel : decode cX8_go 83 = .ok (.if_icmp .ge 30, 3)) rfl rfl (by decide) r5 r6 k1 k2
theorem kX8_go_86 {a0 : Nat} {o1 : Option Value} {o2 : Option Value} {o3 : Option Value} {o4 : Option Value} {x5 : Int} {x6 : Int} {b2 : Nat} {b7 : Nat} (g1 : aKd S a0 = 10) (p3 : aP S a0 4 = some b2) (g4 : aKd S b2 = 102) (r5 : R32 x6) (h6 : (0 : Int) ≤ x6 ∧ x6 < (aN S b2 : Int)) (p8 : aP S b2 x6.toNat = some b7) (g9 : aKd S b7 = 100) (h10 : (0 : Int) ≤ 0 ∧ 0 < (aN S b7 : Int)) (r11 : R32 (M b7 0)) (r12 : R32 x5) (k1 : (M b7 0) ≠ x5 → X E d fX8_go 107 [some (.ref a0), o1, o2, o3, o4, some (J x5), some (J x6)] [] S (mI M) Q) (k2 : (M b7 0) = x5 → X E d fX8_go 100 [some (.ref a0), o1, o2, o3, o4, some (J x5), some (J x6)] [] S (mI M) Q) : X E d fX8_go 86 [some (.ref a0), o1, o2, o3, o4, some (J x5), some (J x6)] [] S (mI M) Q := by
  refine X_aload_n 87 (by decide +kernel : decode cX8_go 86 = .ok (.aload_n 0, 1)) rfl rfl rfl ?_
  refine X_getR 90 (by decide +kernel : decode cX8_go 87 = .ok (.getfield 22, 3)) rfl rfl (by decide +kernel : aFd 10 22 = some (10, 4, true, false)) g1 p3 ?_
  refine X_iload 92 (by decide +kernel : decode cX8_go 90 = .ok (.iload 6, 2)) rfl rfl rfl ?_
  refine X_aald 93 (by decide +kernel : decode cX8_go 92 = .ok (.aaload, 1)) rfl rfl g4 r5 h6 p8 ?_
  refine X_iconst 94 (by decide +kernel : decode cX8_go 93 = .ok (.iconst 0, 1)) rfl rfl ?_
  refine X_iald 95 (by decide +kernel : decode cX8_go 94 = .ok (.iaload, 1)) rfl rfl g9 ⟨by decide, by decide⟩ h10 ?_
  refine X_iload 97 (by decide +kernel : decode cX8_go 95 = .ok (.iload 5, 2)) rfl rfl rfl ?_
  exact X_icmpne 107 100 (by decide +kernel : decode cX8_go 97 = .ok (.if_icmp .ne 10, 3)) rfl rfl (by decide) r11 r12 k1 k2
theorem kX8_go_100 {a0 : Nat} {x1 : Int} {o2 : Option Value} {o3 : Option Value} {o4 : Option Value} {o5 : Option Value} {x6 : Int} (hd1 : 1 ≤ d) (k : X E (d - 1) fX8_pay 0 [some (.ref a0), some (J x1), some (J x6), none, none, none, none] [] S (mI M) (Kr E d fX8_go 107 [some (.ref a0), some (J x1), o2, o3, o4, o5, some (J x6)] [] Q)) (g1 : aKd S a0 = 10) : X E d fX8_go 100 [some (.ref a0), some (J x1), o2, o3, o4, o5, some (J x6)] [] S (mI M) Q := by
  refine X_aload_n 101 (by decide +kernel : decode cX8_go 100 = .ok (.aload_n 0, 1)) rfl rfl rfl ?_
  refine X_iload_n 102 (by decide +kernel : decode cX8_go 101 = .ok (.iload_n 1, 1)) rfl rfl rfl ?_
  refine X_iload 104 (by decide +kernel : decode cX8_go 102 = .ok (.iload 6, 2)) rfl rfl rfl ?_
  exact X_cv (as := [J x6, J x1]) (rest := []) (by decide +kernel : decode cX8_go 104 = .ok (.invokevirtual 66, 3)) (Or.inl ⟨rfl, rfl, rfl⟩) rfl rfl rfl rfl rfl (Nat.le_of_ble_eq_true rfl) (Or.inr (Or.inr (by rw [g1]; rfl))) hd1 k
theorem kX8_go_107 {o0 : Option Value} {o1 : Option Value} {o2 : Option Value} {o3 : Option Value} {o4 : Option Value} {o5 : Option Value} {x6 : Int} (k : X E d fX8_go 76 [o0, o1, o2, o3, o4, o5, some (J (x6 + 1))] [] S (mI M) Q) : X E d fX8_go 107 [o0, o1, o2, o3, o4, o5, some (J x6)] [] S (mI M) Q := by
  refine X_iinc 110 (by decide +kernel : decode cX8_go 107 = .ok (.iinc 6 1, 3)) rfl rfl rfl rfl ?_
  exact X_goto 76 (by decide +kernel : decode cX8_go 110 = .ok (.goto (-34), 3)) rfl (by decide) k
theorem kX8_go_113 {a0 : Nat} {o1 : Option Value} {a2 : Nat} {o3 : Option Value} {o4 : Option Value} {x5 : Int} {o6 : Option Value} {b4 : Nat} {b7 : Nat} {b12 : Nat} {b19 : Nat} (g1 : aKd S a2 = 100) (h2 : (0 : Int) ≤ 0 ∧ 0 < (aN S a2 : Int)) (g3 : aKd S a0 = 10) (p5 : aP S a0 2 = some b4) (p8 : aP S a0 3 = some b7) (g9 : aKd S b7 = 102) (r10 : R32 x5) (h11 : (0 : Int) ≤ x5 ∧ x5 < (aN S b7 : Int)) (p13 : aP S b7 x5.toNat = some b12) (g14 : aKd S b12 = 100) (h15 : (0 : Int) ≤ 0 ∧ 0 < (aN S b12 : Int)) (g16 : aKd S b4 = 102) (r17 : R32 (M b12 0)) (h18 : (0 : Int) ≤ M b12 0 ∧ (M b12 0) < (aN S b4 : Int)) (p20 : aP S b4 (M b12 0).toNat = some b19) (g21 : aKd S b19 = 100) (h22 : (0 : Int) ≤ 1 ∧ 1 < (aN S b19 : Int)) (h24 : (0 : Int) ≤ 1 ∧ 1 < (aN S a2 : Int)) (r25 : R32 ((M a2 0) * (M b19 1))) (r26 : R32 (M a2 1)) (h27 : (M a2 1) ≠ 0) (h35 : (0 : Int) ≤ 1 ∧ 1 < (aN S b12 : Int)) (r36 : R32 (((M a2 0) * (M b19 1)).tdiv (M a2 1))) (r37 : R32 (M b12 1)) (k1 : (((M a2 0) * (M b19 1)).tdiv (M a2 1)) ≤ (M b12 1) → X E d fX8_go 164 [some (.ref a0), o1, some (.ref a2), o3, o4, some (J x5), some (J (((M a2 0) * (M b19 1)).tdiv (M a2 1)))] [] S (mI M) Q) (k2 : (M b12 1) < (((M a2 0) * (M b19 1)).tdiv (M a2 1)) → X E d fX8_go 153 [some (.ref a0), o1, some (.ref a2), o3, o4, some (J x5), some (J (((M a2 0) * (M b19 1)).tdiv (M a2 1)))] [] S (mI M) Q) : X E d fX8_go 113 [some (.ref a0), o1, some (.ref a2), o3, o4, some (J x5), o6] [] S (mI M) Q := by
  refine X_aload_n 114 (by decide +kernel : decode cX8_go 113 = .ok (.aload_n 2, 1)) rfl rfl rfl ?_
  refine X_iconst 115 (by decide +kernel : decode cX8_go 114 = .ok (.iconst 0, 1)) rfl rfl ?_
  refine X_iald 116 (by decide +kernel : decode cX8_go 115 = .ok (.iaload, 1)) rfl rfl g1 ⟨by decide, by decide⟩ h2 ?_
  refine X_aload_n 117 (by decide +kernel : decode cX8_go 116 = .ok (.aload_n 0, 1)) rfl rfl rfl ?_
  refine X_getR 120 (by decide +kernel : decode cX8_go 117 = .ok (.getfield 15, 3)) rfl rfl (by decide +kernel : aFd 10 15 = some (10, 2, true, false)) g3 p5 ?_
  refine X_aload_n 121 (by decide +kernel : decode cX8_go 120 = .ok (.aload_n 0, 1)) rfl rfl rfl ?_
  refine X_getR 124 (by decide +kernel : decode cX8_go 121 = .ok (.getfield 19, 3)) rfl rfl (by decide +kernel : aFd 10 19 = some (10, 3, true, false)) g3 p8 ?_
  refine X_iload 126 (by decide +kernel : decode cX8_go 124 = .ok (.iload 5, 2)) rfl rfl rfl ?_
  refine X_aald 127 (by decide +kernel : decode cX8_go 126 = .ok (.aaload, 1)) rfl rfl g9 r10 h11 p13 ?_
  refine X_iconst 128 (by decide +kernel : decode cX8_go 127 = .ok (.iconst 0, 1)) rfl rfl ?_
  refine X_iald 129 (by decide +kernel : decode cX8_go 128 = .ok (.iaload, 1)) rfl rfl g14 ⟨by decide, by decide⟩ h15 ?_
  refine X_aald 130 (by decide +kernel : decode cX8_go 129 = .ok (.aaload, 1)) rfl rfl g16 r17 h18 p20 ?_
  refine X_iconst 131 (by decide +kernel : decode cX8_go 130 = .ok (.iconst 1, 1)) rfl rfl ?_
  refine X_iald 132 (by decide +kernel : decode cX8_go 131 = .ok (.iaload, 1)) rfl rfl g21 ⟨by decide, by decide⟩ h22 ?_
  refine X_imul 133 (by decide +kernel : decode cX8_go 132 = .ok (.imul, 1)) rfl rfl ?_
  refine X_aload_n 134 (by decide +kernel : decode cX8_go 133 = .ok (.aload_n 2, 1)) rfl rfl rfl ?_
  refine X_iconst 135 (by decide +kernel : decode cX8_go 134 = .ok (.iconst 1, 1)) rfl rfl ?_
  refine X_iald 136 (by decide +kernel : decode cX8_go 135 = .ok (.iaload, 1)) rfl rfl g1 ⟨by decide, by decide⟩ h24 ?_
  refine X_idivW 137 (by decide +kernel : decode cX8_go 136 = .ok (.idiv, 1)) rfl rfl r25 r26 h27 ?_
  refine X_istore 139 (by decide +kernel : decode cX8_go 137 = .ok (.istore 6, 2)) rfl rfl (Nat.le_of_ble_eq_true rfl) rfl ?_
  refine X_iload 141 (by decide +kernel : decode cX8_go 139 = .ok (.iload 6, 2)) rfl rfl rfl ?_
  refine X_aload_n 142 (by decide +kernel : decode cX8_go 141 = .ok (.aload_n 0, 1)) rfl rfl rfl ?_
  refine X_getR 145 (by decide +kernel : decode cX8_go 142 = .ok (.getfield 19, 3)) rfl rfl (by decide +kernel : aFd 10 19 = some (10, 3, true, false)) g3 p8 ?_
  refine X_iload 147 (by decide +kernel : decode cX8_go 145 = .ok (.iload 5, 2)) rfl rfl rfl ?_
  refine X_aald 148 (by decide +kernel : decode cX8_go 147 = .ok (.aaload, 1)) rfl rfl g9 r10 h11 p13 ?_
  refine X_iconst 149 (by decide +kernel : decode cX8_go 148 = .ok (.iconst 1, 1)) rfl rfl ?_
  refine X_iald 150 (by decide +kernel : decode cX8_go 149 = .ok (.iaload, 1)) rfl rfl g14 ⟨by decide, by decide⟩ h35 ?_
  exact X_icmple 164 153 (by decide +kernel : decode cX8_go 150 = .ok (.if_icmp .le 14, 3)) rfl rfl (by decide) r36 r37 k1 k2
theorem kX8_go_153 {a0 : Nat} {o1 : Option Value} {o2 : Option Value} {o3 : Option Value} {o4 : Option Value} {x5 : Int} {o6 : Option Value} {b2 : Nat} {b7 : Nat} (g1 : aKd S a0 = 10) (p3 : aP S a0 3 = some b2) (g4 : aKd S b2 = 102) (r5 : R32 x5) (h6 : (0 : Int) ≤ x5 ∧ x5 < (aN S b2 : Int)) (p8 : aP S b2 x5.toNat = some b7) (g9 : aKd S b7 = 100) (h10 : (0 : Int) ≤ 1 ∧ 1 < (aN S b7 : Int)) (k : X E d fX8_go 164 [some (.ref a0), o1, o2, o3, o4, some (J x5), some (J (M b7 1))] [] S (mI M) Q) : X E d fX8_go 153 [some (.ref a0), o1, o2, o3, o4, some (J x5), o6] [] S (mI M) Q := by
  refine X_aload_n 154 (by decide +kernel : decode cX8_go 153 = .ok (.aload_n 0, 1)) rfl rfl rfl ?_
  refine X_getR 157 (by decide +kernel : decode cX8_go 154 = .ok (.getfield 19, 3)) rfl rfl (by decide +kernel : aFd 10 19 = some (10, 3, true, false)) g1 p3 ?_
  refine X_iload 159 (by decide +kernel : decode cX8_go 157 = .ok (.iload 5, 2)) rfl rfl rfl ?_
  refine X_aald 160 (by decide +kernel : decode cX8_go 159 = .ok (.aaload, 1)) rfl rfl g4 r5 h6 p8 ?_
  refine X_iconst 161 (by decide +kernel : decode cX8_go 160 = .ok (.iconst 1, 1)) rfl rfl ?_
  refine X_iald 162 (by decide +kernel : decode cX8_go 161 = .ok (.iaload, 1)) rfl rfl g9 ⟨by decide, by decide⟩ h10 ?_
  refine X_istore 164 (by decide +kernel : decode cX8_go 162 = .ok (.istore 6, 2)) rfl rfl (Nat.le_of_ble_eq_true rfl) rfl ?_
  exact k
theorem kX8_go_164 {a0 : Nat} {o1 : Option Value} {o2 : Option Value} {o3 : Option Value} {x4 : Int} {x5 : Int} {x6 : Int} {b2 : Nat} {b7 : Nat} {M_23 : Nat → Nat → Int} (g1 : aKd S a0 = 10) (p3 : aP S a0 3 = some b2) (g4 : aKd S b2 = 102) (r5 : R32 x5) (h6 : (0 : Int) ≤ x5 ∧ x5 < (aN S b2 : Int)) (p8 : aP S b2 x5.toNat = some b7) (g9 : aKd S b7 = 100) (h10 : (0 : Int) ≤ 1 ∧ 1 < (aN S b7 : Int)) (g11 : aK S b7 = 100) (h20 : (0 : Int) ≤ 2 ∧ 2 < (aN S b7 : Int)) (eM_23 : mW (mW M b7 1 (nz ((M b7 1) - x6))) b7 2 (nz (((mW M b7 1 (nz ((M b7 1) - x6))) b7 2) + x6)) = M_23) (k : X E d fX8_go 25 [some (.ref a0), o1, o2, o3, some (J (x4 + 1)), some (J x5), some (J x6)] [] S (mI M_23) Q) : X E d fX8_go 164 [some (.ref a0), o1, o2, o3, some (J x4), some (J x5), some (J x6)] [] S (mI M) Q := by
  refine X_aload_n 165 (by decide +kernel : decode cX8_go 164 = .ok (.aload_n 0, 1)) rfl rfl rfl ?_
  refine X_getR 168 (by decide +kernel : decode cX8_go 165 = .ok (.getfield 19, 3)) rfl rfl (by decide +kernel : aFd 10 19 = some (10, 3, true, false)) g1 p3 ?_
  refine X_iload 170 (by decide +kernel : decode cX8_go 168 = .ok (.iload 5, 2)) rfl rfl rfl ?_
  refine X_aald 171 (by decide +kernel : decode cX8_go 170 = .ok (.aaload, 1)) rfl rfl g4 r5 h6 p8 ?_
  refine X_iconst 172 (by decide +kernel : decode cX8_go 171 = .ok (.iconst 1, 1)) rfl rfl ?_
  refine X_dup2 173 (by decide +kernel : decode cX8_go 172 = .ok (.dup2, 1)) rfl rfl rfl rfl ?_
  refine X_iald 174 (by decide +kernel : decode cX8_go 173 = .ok (.iaload, 1)) rfl rfl g9 ⟨by decide, by decide⟩ h10 ?_
  refine X_iload 176 (by decide +kernel : decode cX8_go 174 = .ok (.iload 6, 2)) rfl rfl rfl ?_
  refine X_isub 177 (by decide +kernel : decode cX8_go 176 = .ok (.isub, 1)) rfl rfl ?_
  refine X_iastz 178 (by decide +kernel : decode cX8_go 177 = .ok (.iastore, 1)) rfl rfl g11 ⟨by decide, by decide⟩ h10 ?_
  refine X_aload_n 179 (by decide +kernel : decode cX8_go 178 = .ok (.aload_n 0, 1)) rfl rfl rfl ?_
  refine X_getR 182 (by decide +kernel : decode cX8_go 179 = .ok (.getfield 19, 3)) rfl rfl (by decide +kernel : aFd 10 19 = some (10, 3, true, false)) g1 p3 ?_
  refine X_iload 184 (by decide +kernel : decode cX8_go 182 = .ok (.iload 5, 2)) rfl rfl rfl ?_
  refine X_aald 185 (by decide +kernel : decode cX8_go 184 = .ok (.aaload, 1)) rfl rfl g4 r5 h6 p8 ?_
  refine X_iconst 186 (by decide +kernel : decode cX8_go 185 = .ok (.iconst 2, 1)) rfl rfl ?_
  refine X_dup2 187 (by decide +kernel : decode cX8_go 186 = .ok (.dup2, 1)) rfl rfl rfl rfl ?_
  refine X_iald 188 (by decide +kernel : decode cX8_go 187 = .ok (.iaload, 1)) rfl rfl g9 ⟨by decide, by decide⟩ h20 ?_
  refine X_iload 190 (by decide +kernel : decode cX8_go 188 = .ok (.iload 6, 2)) rfl rfl rfl ?_
  refine X_iadd 191 (by decide +kernel : decode cX8_go 190 = .ok (.iadd, 1)) rfl rfl ?_
  refine X_iastz 192 (by decide +kernel : decode cX8_go 191 = .ok (.iastore, 1)) rfl rfl g11 ⟨by decide, by decide⟩ h20 ?_
  show X E d fX8_go 192 [some (.ref a0), o1, o2, o3, some (J x4), some (J x5), some (J x6)] [] S (mI (mW (mW M b7 1 (nz ((M b7 1) - x6))) b7 2 (nz (((mW M b7 1 (nz ((M b7 1) - x6))) b7 2) + x6)))) Q
  rw [eM_23]
  refine X_iinc 195 (by decide +kernel : decode cX8_go 192 = .ok (.iinc 4 1, 3)) rfl rfl rfl rfl ?_
  exact X_goto 25 (by decide +kernel : decode cX8_go 195 = .ok (.goto (-170), 3)) rfl (by decide) k
theorem kX8_go_198 {o0 : Option Value} {o1 : Option Value} {a2 : Nat} {o3 : Option Value} {o4 : Option Value} {o5 : Option Value} {o6 : Option Value} (g1 : aKd S a2 = 100) (h2 : (0 : Int) ≤ 5 ∧ 5 < (aN S a2 : Int)) (g3 : aK S a2 = 100) (q : Q (some (some (J (-1)))) S (mI (mW M a2 5 (nz ((M a2 5) + 1))))) : X E d fX8_go 198 [o0, o1, some (.ref a2), o3, o4, o5, o6] [] S (mI M) Q := by
  refine X_aload_n 199 (by decide +kernel : decode cX8_go 198 = .ok (.aload_n 2, 1)) rfl rfl rfl ?_
  refine X_iconst 200 (by decide +kernel : decode cX8_go 199 = .ok (.iconst 5, 1)) rfl rfl ?_
  refine X_dup2 201 (by decide +kernel : decode cX8_go 200 = .ok (.dup2, 1)) rfl rfl rfl rfl ?_
  refine X_iald 202 (by decide +kernel : decode cX8_go 201 = .ok (.iaload, 1)) rfl rfl g1 ⟨by decide, by decide⟩ h2 ?_
  refine X_iconst 203 (by decide +kernel : decode cX8_go 202 = .ok (.iconst 1, 1)) rfl rfl ?_
  refine X_iadd 204 (by decide +kernel : decode cX8_go 203 = .ok (.iadd, 1)) rfl rfl ?_
  refine X_iastz 205 (by decide +kernel : decode cX8_go 204 = .ok (.iastore, 1)) rfl rfl g3 ⟨by decide, by decide⟩ h2 ?_
  refine X_iconst 206 (by decide +kernel : decode cX8_go 205 = .ok (.iconst (-1), 1)) rfl rfl ?_
  exact X_iret (by decide +kernel : decode cX8_go 206 = .ok (.ireturn, 1)) rfl rfl rfl q
theorem kX8_pay_0 {a0 : Nat} {o1 : Option Value} {o2 : Option Value} {o3 : Option Value} {o4 : Option Value} {o5 : Option Value} {o6 : Option Value} {b2 : Nat} (g1 : aKd S a0 = 10) (p3 : aP S a0 6 = some b2) (g4 : aKd S b2 = 100 ∨ aKd S b2 = 101 ∨ aKd S b2 = 102) (k : X E d fX8_pay 12 [some (.ref a0), o1, o2, some (.ref b2), some (J (aN S b2 : Int)), some (J 0), o6] [] S (mI M) Q) : X E d fX8_pay 0 [some (.ref a0), o1, o2, o3, o4, o5, o6] [] S (mI M) Q := by
  refine X_aload_n 1 (by decide +kernel : decode cX8_pay 0 = .ok (.aload_n 0, 1)) rfl rfl rfl ?_
  refine X_getR 4 (by decide +kernel : decode cX8_pay 1 = .ok (.getfield 28, 3)) rfl rfl (by decide +kernel : aFd 10 28 = some (10, 6, true, false)) g1 p3 ?_
  refine X_astore_n 5 (by decide +kernel : decode cX8_pay 4 = .ok (.astore_n 3, 1)) rfl rfl (Nat.le_of_ble_eq_true rfl) rfl ?_
  refine X_aload_n 6 (by decide +kernel : decode cX8_pay 5 = .ok (.aload_n 3, 1)) rfl rfl rfl ?_
  refine X_alen 7 (by decide +kernel : decode cX8_pay 6 = .ok (.arraylength, 1)) rfl rfl g4 ?_
  refine X_istore 9 (by decide +kernel : decode cX8_pay 7 = .ok (.istore 4, 2)) rfl rfl (Nat.le_of_ble_eq_true rfl) rfl ?_
  refine X_iconst 10 (by decide +kernel : decode cX8_pay 9 = .ok (.iconst 0, 1)) rfl rfl ?_
  refine X_istore 12 (by decide +kernel : decode cX8_pay 10 = .ok (.istore 5, 2)) rfl rfl (Nat.le_of_ble_eq_true rfl) rfl ?_
  exact k
theorem kX8_pay_12 {o0 : Option Value} {o1 : Option Value} {o2 : Option Value} {o3 : Option Value} {x4 : Int} {x5 : Int} {o6 : Option Value} (r1 : R32 x5) (r2 : R32 x4) (k1 : x4 ≤ x5 → X E d fX8_pay 64 [o0, o1, o2, o3, some (J x4), some (J x5), o6] [] S (mI M) Q) (k2 : x5 < x4 → X E d fX8_pay 19 [o0, o1, o2, o3, some (J x4), some (J x5), o6] [] S (mI M) Q) : X E d fX8_pay 12 [o0, o1, o2, o3, some (J x4), some (J x5), o6] [] S (mI M) Q := by
  refine X_iload 14 (by decide +kernel : decode cX8_pay 12 = .ok (.iload 5, 2)) rfl rfl rfl ?_
  refine X_iload 16 (by decide +kernel : decode cX8_pay 14 = .ok (.iload 4, 2)) rfl rfl rfl ?_
  exact X_icmpge 64 19 (by decide +kernel : decode cX8_pay 16 = .ok (.if_icmp .ge 48, 3)) rfl rfl (by decide) r1 r2 k1 k2
theorem kX8_pay_19 {o0 : Option Value} {o1 : Option Value} {o2 : Option Value} {a3 : Nat} {o4 : Option Value} {x5 : Int} {o6 : Option Value} {b4 : Nat} (g1 : aKd S a3 = 102) (r2 : R32 x5) (h3 : (0 : Int) ≤ x5 ∧ x5 < (aN S a3 : Int)) (p5 : aP S a3 x5.toNat = some b4) (g6 : aKd S b4 = 100) (h7 : (0 : Int) ≤ 0 ∧ 0 < (aN S b4 : Int)) (r8 : R32 (M b4 0)) (k1 : (M b4 0) ≠ 0 → X E d fX8_pay 58 [o0, o1, o2, some (.ref a3), o4, some (J x5), some (.ref b4)] [] S (mI M) Q) (k2 : (M b4 0) = 0 → X E d fX8_pay 32 [o0, o1, o2, some (.ref a3), o4, some (J x5), some (.ref b4)] [] S (mI M) Q) : X E d fX8_pay 19 [o0, o1, o2, some (.ref a3), o4, some (J x5), o6] [] S (mI M) Q := by
  refine X_aload_n 20 (by decide +kernel : decode cX8_pay 19 = .ok (.aload_n 3, 1)) rfl rfl rfl ?_
  refine X_iload 22 (by decide +kernel : decode cX8_pay 20 = .ok (.iload 5, 2)) rfl rfl rfl ?_
  refine X_aald 23 (by decide +kernel : decode cX8_pay 22 = .ok (.aaload, 1)) rfl rfl g1 r2 h3 p5 ?_
  refine X_astore 25 (by decide +kernel : decode cX8_pay 23 = .ok (.astore 6, 2)) rfl rfl (Nat.le_of_ble_eq_true rfl) rfl ?_
  refine X_aload 27 (by decide +kernel : decode cX8_pay 25 = .ok (.aload 6, 2)) rfl rfl rfl ?_
  refine X_iconst 28 (by decide +kernel : decode cX8_pay 27 = .ok (.iconst 0, 1)) rfl rfl ?_
  refine X_iald 29 (by decide +kernel : decode cX8_pay 28 = .ok (.iaload, 1)) rfl rfl g6 ⟨by decide, by decide⟩ h7 ?_
  exact X_ifne 58 32 (by decide +kernel : decode cX8_pay 29 = .ok (.ifCond .ne 29, 3)) rfl rfl (by decide) r8 k1 k2
theorem kX8_pay_32 {o0 : Option Value} {x1 : Int} {o2 : Option Value} {o3 : Option Value} {o4 : Option Value} {o5 : Option Value} {a6 : Nat} (g1 : aKd S a6 = 100) (h2 : (0 : Int) ≤ 1 ∧ 1 < (aN S a6 : Int)) (r3 : R32 (M a6 1)) (r4 : R32 x1) (k1 : (M a6 1) ≠ x1 → X E d fX8_pay 58 [o0, some (J x1), o2, o3, o4, o5, some (.ref a6)] [] S (mI M) Q) (k2 : (M a6 1) = x1 → X E d fX8_pay 40 [o0, some (J x1), o2, o3, o4, o5, some (.ref a6)] [] S (mI M) Q) : X E d fX8_pay 32 [o0, some (J x1), o2, o3, o4, o5, some (.ref a6)] [] S (mI M) Q := by
  refine X_aload 34 (by decide +kernel : decode cX8_pay 32 = .ok (.aload 6, 2)) rfl rfl rfl ?_
  refine X_iconst 35 (by decide +kernel : decode cX8_pay 34 = .ok (.iconst 1, 1)) rfl rfl ?_
  refine X_iald 36 (by decide +kernel : decode cX8_pay 35 = .ok (.iaload, 1)) rfl rfl g1 ⟨by decide, by decide⟩ h2 ?_
  refine X_iload_n 37 (by decide +kernel : decode cX8_pay 36 = .ok (.iload_n 1, 1)) rfl rfl rfl ?_
  exact X_icmpne 58 40 (by decide +kernel : decode cX8_pay 37 = .ok (.if_icmp .ne 21, 3)) rfl rfl (by decide) r3 r4 k1 k2
theorem kX8_pay_40 {o0 : Option Value} {o1 : Option Value} {x2 : Int} {o3 : Option Value} {o4 : Option Value} {o5 : Option Value} {a6 : Nat} (g1 : aKd S a6 = 100) (h2 : (0 : Int) ≤ 2 ∧ 2 < (aN S a6 : Int)) (r3 : R32 (M a6 2)) (r4 : R32 x2) (k1 : (M a6 2) ≠ x2 → X E d fX8_pay 58 [o0, o1, some (J x2), o3, o4, o5, some (.ref a6)] [] S (mI M) Q) (k2 : (M a6 2) = x2 → X E d fX8_pay 48 [o0, o1, some (J x2), o3, o4, o5, some (.ref a6)] [] S (mI M) Q) : X E d fX8_pay 40 [o0, o1, some (J x2), o3, o4, o5, some (.ref a6)] [] S (mI M) Q := by
  refine X_aload 42 (by decide +kernel : decode cX8_pay 40 = .ok (.aload 6, 2)) rfl rfl rfl ?_
  refine X_iconst 43 (by decide +kernel : decode cX8_pay 42 = .ok (.iconst 2, 1)) rfl rfl ?_
  refine X_iald 44 (by decide +kernel : decode cX8_pay 43 = .ok (.iaload, 1)) rfl rfl g1 ⟨by decide, by decide⟩ h2 ?_
  refine X_iload_n 45 (by decide +kernel : decode cX8_pay 44 = .ok (.iload_n 2, 1)) rfl rfl rfl ?_
  exact X_icmpne 58 48 (by decide +kernel : decode cX8_pay 45 = .ok (.if_icmp .ne 13, 3)) rfl rfl (by decide) r3 r4 k1 k2
theorem kX8_pay_48 {a0 : Nat} {o1 : Option Value} {o2 : Option Value} {o3 : Option Value} {o4 : Option Value} {o5 : Option Value} {a6 : Nat} (hd1 : 1 ≤ d) (k : X E (d - 1) fX8_holds 0 [some (.ref a0), some (.ref a6), none, none] [] S (mI M) (Kr E d fX8_pay 54 [some (.ref a0), o1, o2, o3, o4, o5, some (.ref a6)] [] Q)) (g1 : aKd S a0 = 10) : X E d fX8_pay 48 [some (.ref a0), o1, o2, o3, o4, o5, some (.ref a6)] [] S (mI M) Q := by
  refine X_aload_n 49 (by decide +kernel : decode cX8_pay 48 = .ok (.aload_n 0, 1)) rfl rfl rfl ?_
  refine X_aload 51 (by decide +kernel : decode cX8_pay 49 = .ok (.aload 6, 2)) rfl rfl rfl ?_
  exact X_cv (as := [.ref a6]) (rest := []) (by decide +kernel : decode cX8_pay 51 = .ok (.invokevirtual 56, 3)) (Or.inl ⟨rfl, rfl, rfl⟩) rfl rfl rfl rfl rfl (Nat.le_of_ble_eq_true rfl) (Or.inr (Or.inr (by rw [g1]; rfl))) hd1 k
theorem kX8_pay_54 {o0 : Option Value} {o1 : Option Value} {o2 : Option Value} {o3 : Option Value} {o4 : Option Value} {o5 : Option Value} {o6 : Option Value} {t0 : Int} (r1 : R32 t0) (k1 : t0 = 0 → X E d fX8_pay 58 [o0, o1, o2, o3, o4, o5, o6] [] S (mI M) Q) (k2 : t0 ≠ 0 → X E d fX8_pay 57 [o0, o1, o2, o3, o4, o5, o6] [] S (mI M) Q) : X E d fX8_pay 54 [o0, o1, o2, o3, o4, o5, o6] [J t0] S (mI M) Q := by
  exact X_ifeq 58 57 (by decide +kernel : decode cX8_pay 54 = .ok (.ifCond .eq 4, 3)) rfl rfl (by decide) r1 k1 k2
theorem kX8_pay_57 {o0 : Option Value} {o1 : Option Value} {o2 : Option Value} {o3 : Option Value} {o4 : Option Value} {o5 : Option Value} {o6 : Option Value} (q : Q (some none) S (mI M)) : X E d fX8_pay 57 [o0, o1, o2, o3, o4, o5, o6] [] S (mI M) Q := by
  exact X_vret (by decide +kernel : decode cX8_pay 57 = .ok (.return_, 1)) rfl rfl q
theorem kX8_pay_58 {o0 : Option Value} {o1 : Option Value} {o2 : Option Value} {o3 : Option Value} {o4 : Option Value} {x5 : Int} {o6 : Option Value} (k : X E d fX8_pay 12 [o0, o1, o2, o3, o4, some (J (x5 + 1)), o6] [] S (mI M) Q) : X E d fX8_pay 58 [o0, o1, o2, o3, o4, some (J x5), o6] [] S (mI M) Q := by
  refine X_iinc 61 (by decide +kernel : decode cX8_pay 58 = .ok (.iinc 5 1, 3)) rfl rfl rfl rfl ?_
  exact X_goto 12 (by decide +kernel : decode cX8_pay 61 = .ok (.goto (-49), 3)) rfl (by decide) k
theorem kX8_pay_64 {a0 : Nat} {x1 : Int} {x2 : Int} {o3 : Option Value} {o4 : Option Value} {o5 : Option Value} {o6 : Option Value} (hd1 : 1 ≤ d) (k : X E (d - 1) fX8_toll 0 [some (.ref a0), some (J x1), some (J x2), none, none] [] S (mI M) (Kr E d fX8_pay 70 [some (.ref a0), some (J x1), some (J x2), o3, o4, o5, o6] [] Q)) (g1 : aKd S a0 = 10) : X E d fX8_pay 64 [some (.ref a0), some (J x1), some (J x2), o3, o4, o5, o6] [] S (mI M) Q := by
  refine X_aload_n 65 (by decide +kernel : decode cX8_pay 64 = .ok (.aload_n 0, 1)) rfl rfl rfl ?_
  refine X_iload_n 66 (by decide +kernel : decode cX8_pay 65 = .ok (.iload_n 1, 1)) rfl rfl rfl ?_
  refine X_iload_n 67 (by decide +kernel : decode cX8_pay 66 = .ok (.iload_n 2, 1)) rfl rfl rfl ?_
  exact X_cv (as := [J x2, J x1]) (rest := []) (by decide +kernel : decode cX8_pay 67 = .ok (.invokevirtual 60, 3)) (Or.inl ⟨rfl, rfl, rfl⟩) rfl rfl rfl rfl rfl (Nat.le_of_ble_eq_true rfl) (Or.inr (Or.inr (by rw [g1]; rfl))) hd1 k
theorem kX8_pay_70 {a0 : Nat} {x1 : Int} {x2 : Int} {o3 : Option Value} {o4 : Option Value} {o5 : Option Value} {o6 : Option Value} {t0 : Int} {b2 : Nat} {b7 : Nat} {b14 : Nat} {b19 : Nat} {M_25 : Nat → Nat → Int} (g1 : aKd S a0 = 10) (p3 : aP S a0 4 = some b2) (g4 : aKd S b2 = 102) (r5 : R32 x2) (h6 : (0 : Int) ≤ x2 ∧ x2 < (aN S b2 : Int)) (p8 : aP S b2 x2.toNat = some b7) (g9 : aKd S b7 = 100) (h10 : (0 : Int) ≤ 2 ∧ 2 < (aN S b7 : Int)) (g11 : aK S b7 = 100) (p15 : aP S a0 5 = some b14) (g16 : aKd S b14 = 102) (r17 : R32 x1) (h18 : (0 : Int) ≤ x1 ∧ x1 < (aN S b14 : Int)) (p20 : aP S b14 x1.toNat = some b19) (g21 : aKd S b19 = 100) (h22 : (0 : Int) ≤ 7 ∧ 7 < (aN S b19 : Int)) (g23 : aK S b19 = 100) (eM_25 : mW (mW M b7 2 (nz ((M b7 2) + t0))) b19 7 (nz (((mW M b7 2 (nz ((M b7 2) + t0))) b19 7) + t0)) = M_25) (h33 : (0 : Int) ≤ 4 ∧ 4 < (aN S b7 : Int)) (r34 : R32 (M_25 b7 4)) (k1 : 0 ≤ (M_25 b7 4) → X E d fX8_pay 120 [some (.ref a0), some (J x1), some (J x2), some (J t0), o4, o5, o6] [] S (mI M_25) Q) (k2 : (M_25 b7 4) < 0 → X E d fX8_pay 107 [some (.ref a0), some (J x1), some (J x2), some (J t0), o4, o5, o6] [] S (mI M_25) Q) : X E d fX8_pay 70 [some (.ref a0), some (J x1), some (J x2), o3, o4, o5, o6] [J t0] S (mI M) Q := by
  refine X_istore_n 71 (by decide +kernel : decode cX8_pay 70 = .ok (.istore_n 3, 1)) rfl rfl (Nat.le_of_ble_eq_true rfl) rfl ?_
  refine X_aload_n 72 (by decide +kernel : decode cX8_pay 71 = .ok (.aload_n 0, 1)) rfl rfl rfl ?_
  refine X_getR 75 (by decide +kernel : decode cX8_pay 72 = .ok (.getfield 22, 3)) rfl rfl (by decide +kernel : aFd 10 22 = some (10, 4, true, false)) g1 p3 ?_
  refine X_iload_n 76 (by decide +kernel : decode cX8_pay 75 = .ok (.iload_n 2, 1)) rfl rfl rfl ?_
  refine X_aald 77 (by decide +kernel : decode cX8_pay 76 = .ok (.aaload, 1)) rfl rfl g4 r5 h6 p8 ?_
  refine X_iconst 78 (by decide +kernel : decode cX8_pay 77 = .ok (.iconst 2, 1)) rfl rfl ?_
  refine X_dup2 79 (by decide +kernel : decode cX8_pay 78 = .ok (.dup2, 1)) rfl rfl rfl rfl ?_
  refine X_iald 80 (by decide +kernel : decode cX8_pay 79 = .ok (.iaload, 1)) rfl rfl g9 ⟨by decide, by decide⟩ h10 ?_
  refine X_iload_n 81 (by decide +kernel : decode cX8_pay 80 = .ok (.iload_n 3, 1)) rfl rfl rfl ?_
  refine X_iadd 82 (by decide +kernel : decode cX8_pay 81 = .ok (.iadd, 1)) rfl rfl ?_
  refine X_iastz 83 (by decide +kernel : decode cX8_pay 82 = .ok (.iastore, 1)) rfl rfl g11 ⟨by decide, by decide⟩ h10 ?_
  refine X_aload_n 84 (by decide +kernel : decode cX8_pay 83 = .ok (.aload_n 0, 1)) rfl rfl rfl ?_
  refine X_getR 87 (by decide +kernel : decode cX8_pay 84 = .ok (.getfield 25, 3)) rfl rfl (by decide +kernel : aFd 10 25 = some (10, 5, true, false)) g1 p15 ?_
  refine X_iload_n 88 (by decide +kernel : decode cX8_pay 87 = .ok (.iload_n 1, 1)) rfl rfl rfl ?_
  refine X_aald 89 (by decide +kernel : decode cX8_pay 88 = .ok (.aaload, 1)) rfl rfl g16 r17 h18 p20 ?_
  refine X_bipush 91 (7) (by decide +kernel : decode cX8_pay 89 = .ok (.bipush 7, 2)) rfl rfl (by decide +kernel) ?_
  refine X_dup2 92 (by decide +kernel : decode cX8_pay 91 = .ok (.dup2, 1)) rfl rfl rfl rfl ?_
  refine X_iald 93 (by decide +kernel : decode cX8_pay 92 = .ok (.iaload, 1)) rfl rfl g21 ⟨by decide, by decide⟩ h22 ?_
  refine X_iload_n 94 (by decide +kernel : decode cX8_pay 93 = .ok (.iload_n 3, 1)) rfl rfl rfl ?_
  refine X_iadd 95 (by decide +kernel : decode cX8_pay 94 = .ok (.iadd, 1)) rfl rfl ?_
  refine X_iastz 96 (by decide +kernel : decode cX8_pay 95 = .ok (.iastore, 1)) rfl rfl g23 ⟨by decide, by decide⟩ h22 ?_
  show X E d fX8_pay 96 [some (.ref a0), some (J x1), some (J x2), some (J t0), o4, o5, o6] [] S (mI (mW (mW M b7 2 (nz ((M b7 2) + t0))) b19 7 (nz (((mW M b7 2 (nz ((M b7 2) + t0))) b19 7) + t0)))) Q
  rw [eM_25]
  refine X_aload_n 97 (by decide +kernel : decode cX8_pay 96 = .ok (.aload_n 0, 1)) rfl rfl rfl ?_
  refine X_getR 100 (by decide +kernel : decode cX8_pay 97 = .ok (.getfield 22, 3)) rfl rfl (by decide +kernel : aFd 10 22 = some (10, 4, true, false)) g1 p3 ?_
  refine X_iload_n 101 (by decide +kernel : decode cX8_pay 100 = .ok (.iload_n 2, 1)) rfl rfl rfl ?_
  refine X_aald 102 (by decide +kernel : decode cX8_pay 101 = .ok (.aaload, 1)) rfl rfl g4 r5 h6 p8 ?_
  refine X_iconst 103 (by decide +kernel : decode cX8_pay 102 = .ok (.iconst 4, 1)) rfl rfl ?_
  refine X_iald 104 (by decide +kernel : decode cX8_pay 103 = .ok (.iaload, 1)) rfl rfl g9 ⟨by decide, by decide⟩ h33 ?_
  exact X_ifge 120 107 (by decide +kernel : decode cX8_pay 104 = .ok (.ifCond .ge 16, 3)) rfl rfl (by decide) r34 k1 k2
theorem kX8_pay_107 {a0 : Nat} {o1 : Option Value} {o2 : Option Value} {x3 : Int} {o4 : Option Value} {o5 : Option Value} {o6 : Option Value} (g1 : aKd S a0 = 10) (g2 : aK S a0 = 10) (k : X E d fX8_pay 132 [some (.ref a0), o1, o2, some (J x3), o4, o5, o6] [] S (mI (mW M a0 1 (nz ((M a0 1) + x3)))) Q) : X E d fX8_pay 107 [some (.ref a0), o1, o2, some (J x3), o4, o5, o6] [] S (mI M) Q := by
  refine X_aload_n 108 (by decide +kernel : decode cX8_pay 107 = .ok (.aload_n 0, 1)) rfl rfl rfl ?_
  refine X_dup 109 (by decide +kernel : decode cX8_pay 108 = .ok (.dup, 1)) rfl rfl rfl ?_
  refine X_getI 112 (by decide +kernel : decode cX8_pay 109 = .ok (.getfield 7, 3)) rfl rfl (by decide +kernel : aFd 10 7 = some (10, 1, false, false)) g1 ?_
  refine X_iload_n 113 (by decide +kernel : decode cX8_pay 112 = .ok (.iload_n 3, 1)) rfl rfl rfl ?_
  refine X_iadd 114 (by decide +kernel : decode cX8_pay 113 = .ok (.iadd, 1)) rfl rfl ?_
  refine X_putIz 117 (by decide +kernel : decode cX8_pay 114 = .ok (.putfield 7, 3)) rfl rfl (by decide +kernel : aFd 10 7 = some (10, 1, false, false)) (Or.inl rfl) g2 rfl rfl ?_
  exact X_goto 132 (by decide +kernel : decode cX8_pay 117 = .ok (.goto 15, 3)) rfl (by decide) k
theorem kX8_pay_120 {a0 : Nat} {o1 : Option Value} {x2 : Int} {x3 : Int} {o4 : Option Value} {o5 : Option Value} {o6 : Option Value} {b2 : Nat} {b7 : Nat} (g1 : aKd S a0 = 10) (p3 : aP S a0 4 = some b2) (g4 : aKd S b2 = 102) (r5 : R32 x2) (h6 : (0 : Int) ≤ x2 ∧ x2 < (aN S b2 : Int)) (p8 : aP S b2 x2.toNat = some b7) (g9 : aKd S b7 = 100) (h10 : (0 : Int) ≤ 5 ∧ 5 < (aN S b7 : Int)) (g11 : aK S b7 = 100) (k : X E d fX8_pay 132 [some (.ref a0), o1, some (J x2), some (J x3), o4, o5, o6] [] S (mI (mW M b7 5 (nz ((M b7 5) + x3)))) Q) : X E d fX8_pay 120 [some (.ref a0), o1, some (J x2), some (J x3), o4, o5, o6] [] S (mI M) Q := by
  refine X_aload_n 121 (by decide +kernel : decode cX8_pay 120 = .ok (.aload_n 0, 1)) rfl rfl rfl ?_
  refine X_getR 124 (by decide +kernel : decode cX8_pay 121 = .ok (.getfield 22, 3)) rfl rfl (by decide +kernel : aFd 10 22 = some (10, 4, true, false)) g1 p3 ?_
  refine X_iload_n 125 (by decide +kernel : decode cX8_pay 124 = .ok (.iload_n 2, 1)) rfl rfl rfl ?_
  refine X_aald 126 (by decide +kernel : decode cX8_pay 125 = .ok (.aaload, 1)) rfl rfl g4 r5 h6 p8 ?_
  refine X_iconst 127 (by decide +kernel : decode cX8_pay 126 = .ok (.iconst 5, 1)) rfl rfl ?_
  refine X_dup2 128 (by decide +kernel : decode cX8_pay 127 = .ok (.dup2, 1)) rfl rfl rfl rfl ?_
  refine X_iald 129 (by decide +kernel : decode cX8_pay 128 = .ok (.iaload, 1)) rfl rfl g9 ⟨by decide, by decide⟩ h10 ?_
  refine X_iload_n 130 (by decide +kernel : decode cX8_pay 129 = .ok (.iload_n 3, 1)) rfl rfl rfl ?_
  refine X_iadd 131 (by decide +kernel : decode cX8_pay 130 = .ok (.iadd, 1)) rfl rfl ?_
  refine X_iastz 132 (by decide +kernel : decode cX8_pay 131 = .ok (.iastore, 1)) rfl rfl g11 ⟨by decide, by decide⟩ h10 ?_
  exact k
theorem kX8_pay_132 {o0 : Option Value} {o1 : Option Value} {o2 : Option Value} {o3 : Option Value} {o4 : Option Value} {o5 : Option Value} {o6 : Option Value} (q : Q (some none) S (mI M)) : X E d fX8_pay 132 [o0, o1, o2, o3, o4, o5, o6] [] S (mI M) Q := by
  exact X_vret (by decide +kernel : decode cX8_pay 132 = .ok (.return_, 1)) rfl rfl q
theorem kX8_toll_0 {a0 : Nat} {x1 : Int} {x2 : Int} {o3 : Option Value} {o4 : Option Value} {b2 : Nat} {b7 : Nat} {b12 : Nat} {b17 : Nat} (g1 : aKd S a0 = 10) (p3 : aP S a0 5 = some b2) (g4 : aKd S b2 = 102) (r5 : R32 x1) (h6 : (0 : Int) ≤ x1 ∧ x1 < (aN S b2 : Int)) (p8 : aP S b2 x1.toNat = some b7) (g9 : aKd S b7 = 100) (h10 : (0 : Int) ≤ 1 ∧ 1 < (aN S b7 : Int)) (p13 : aP S a0 4 = some b12) (g14 : aKd S b12 = 102) (r15 : R32 x2) (h16 : (0 : Int) ≤ x2 ∧ x2 < (aN S b12 : Int)) (p18 : aP S b12 x2.toNat = some b17) (g19 : aKd S b17 = 100) (h20 : (0 : Int) ≤ 1 ∧ 1 < (aN S b17 : Int)) (r21 : R32 (M b7 1)) (k1 : 5 < (M b7 1) → X E d fX8_toll 32 [some (.ref a0), some (J x1), some (J x2), some (J (M b7 1)), some (J (M b17 1))] [] S (mI M) Q) (k2 : (M b7 1) ≤ 5 → X E d fX8_toll 24 [some (.ref a0), some (J x1), some (J x2), some (J (M b7 1)), some (J (M b17 1))] [] S (mI M) Q) : X E d fX8_toll 0 [some (.ref a0), some (J x1), some (J x2), o3, o4] [] S (mI M) Q := by
  refine X_aload_n 1 (by decide +kernel : decode cX8_toll 0 = .ok (.aload_n 0, 1)) rfl rfl rfl ?_
  refine X_getR 4 (by decide +kernel : decode cX8_toll 1 = .ok (.getfield 25, 3)) rfl rfl (by decide +kernel : aFd 10 25 = some (10, 5, true, false)) g1 p3 ?_
  refine X_iload_n 5 (by decide +kernel : decode cX8_toll 4 = .ok (.iload_n 1, 1)) rfl rfl rfl ?_
  refine X_aald 6 (by decide +kernel : decode cX8_toll 5 = .ok (.aaload, 1)) rfl rfl g4 r5 h6 p8 ?_
  refine X_iconst 7 (by decide +kernel : decode cX8_toll 6 = .ok (.iconst 1, 1)) rfl rfl ?_
  refine X_iald 8 (by decide +kernel : decode cX8_toll 7 = .ok (.iaload, 1)) rfl rfl g9 ⟨by decide, by decide⟩ h10 ?_
  refine X_istore_n 9 (by decide +kernel : decode cX8_toll 8 = .ok (.istore_n 3, 1)) rfl rfl (Nat.le_of_ble_eq_true rfl) rfl ?_
  refine X_aload_n 10 (by decide +kernel : decode cX8_toll 9 = .ok (.aload_n 0, 1)) rfl rfl rfl ?_
  refine X_getR 13 (by decide +kernel : decode cX8_toll 10 = .ok (.getfield 22, 3)) rfl rfl (by decide +kernel : aFd 10 22 = some (10, 4, true, false)) g1 p13 ?_
  refine X_iload_n 14 (by decide +kernel : decode cX8_toll 13 = .ok (.iload_n 2, 1)) rfl rfl rfl ?_
  refine X_aald 15 (by decide +kernel : decode cX8_toll 14 = .ok (.aaload, 1)) rfl rfl g14 r15 h16 p18 ?_
  refine X_iconst 16 (by decide +kernel : decode cX8_toll 15 = .ok (.iconst 1, 1)) rfl rfl ?_
  refine X_iald 17 (by decide +kernel : decode cX8_toll 16 = .ok (.iaload, 1)) rfl rfl g19 ⟨by decide, by decide⟩ h20 ?_
  refine X_istore 19 (by decide +kernel : decode cX8_toll 17 = .ok (.istore 4, 2)) rfl rfl (Nat.le_of_ble_eq_true rfl) rfl ?_
  refine X_iload_n 20 (by decide +kernel : decode cX8_toll 19 = .ok (.iload_n 3, 1)) rfl rfl rfl ?_
  refine X_iconst 21 (by decide +kernel : decode cX8_toll 20 = .ok (.iconst 5, 1)) rfl rfl ?_
  exact X_icmpgt 32 24 (by decide +kernel : decode cX8_toll 21 = .ok (.if_icmp .gt 11, 3)) rfl rfl (by decide) r21 ⟨by decide, by decide⟩ k1 k2
theorem kX8_toll_24 {o0 : Option Value} {o1 : Option Value} {o2 : Option Value} {o3 : Option Value} {x4 : Int} (k : X E d fX8_toll 47 [o0, o1, o2, o3, some (J x4)] [J (x4 + x4)] S (mI M) Q) : X E d fX8_toll 24 [o0, o1, o2, o3, some (J x4)] [] S (mI M) Q := by
  refine X_iload 26 (by decide +kernel : decode cX8_toll 24 = .ok (.iload 4, 2)) rfl rfl rfl ?_
  refine X_iload 28 (by decide +kernel : decode cX8_toll 26 = .ok (.iload 4, 2)) rfl rfl rfl ?_
  refine X_iadd 29 (by decide +kernel : decode cX8_toll 28 = .ok (.iadd, 1)) rfl rfl ?_
  exact X_goto 47 (by decide +kernel : decode cX8_toll 29 = .ok (.goto 18, 3)) rfl (by decide) k
theorem kX8_toll_32 {o0 : Option Value} {o1 : Option Value} {o2 : Option Value} {x3 : Int} {o4 : Option Value} (r1 : R32 x3) (k1 : x3 < 12 → X E d fX8_toll 45 [o0, o1, o2, some (J x3), o4] [] S (mI M) Q) (k2 : 12 ≤ x3 → X E d fX8_toll 38 [o0, o1, o2, some (J x3), o4] [] S (mI M) Q) : X E d fX8_toll 32 [o0, o1, o2, some (J x3), o4] [] S (mI M) Q := by
  refine X_iload_n 33 (by decide +kernel : decode cX8_toll 32 = .ok (.iload_n 3, 1)) rfl rfl rfl ?_
  refine X_bipush 35 (12) (by decide +kernel : decode cX8_toll 33 = .ok (.bipush 12, 2)) rfl rfl (by decide +kernel) ?_
  exact X_icmplt 45 38 (by decide +kernel : decode cX8_toll 35 = .ok (.if_icmp .lt 10, 3)) rfl rfl (by decide) r1 ⟨by decide, by decide⟩ k1 k2
theorem kX8_toll_38 {o0 : Option Value} {o1 : Option Value} {o2 : Option Value} {o3 : Option Value} {x4 : Int} (r1 : R32 x4) (k : X E d fX8_toll 47 [o0, o1, o2, o3, some (J x4)] [J (x4.tdiv 2)] S (mI M) Q) : X E d fX8_toll 38 [o0, o1, o2, o3, some (J x4)] [] S (mI M) Q := by
  refine X_iload 40 (by decide +kernel : decode cX8_toll 38 = .ok (.iload 4, 2)) rfl rfl rfl ?_
  refine X_iconst 41 (by decide +kernel : decode cX8_toll 40 = .ok (.iconst 2, 1)) rfl rfl ?_
  refine X_idivW 42 (by decide +kernel : decode cX8_toll 41 = .ok (.idiv, 1)) rfl rfl r1 ⟨by decide, by decide⟩ (by decide) ?_
  exact X_goto 47 (by decide +kernel : decode cX8_toll 42 = .ok (.goto 5, 3)) rfl (by decide) k
theorem kX8_toll_45 {o0 : Option Value} {o1 : Option Value} {o2 : Option Value} {o3 : Option Value} {x4 : Int} (k : X E d fX8_toll 47 [o0, o1, o2, o3, some (J x4)] [J x4] S (mI M) Q) : X E d fX8_toll 45 [o0, o1, o2, o3, some (J x4)] [] S (mI M) Q := by
  refine X_iload 47 (by decide +kernel : decode cX8_toll 45 = .ok (.iload 4, 2)) rfl rfl rfl ?_
  exact k
theorem kX8_toll_47 {o0 : Option Value} {o1 : Option Value} {o2 : Option Value} {o3 : Option Value} {o4 : Option Value} {t0 : Int} (q : Q (some (some (J t0))) S (mI M)) : X E d fX8_toll 47 [o0, o1, o2, o3, o4] [J t0] S (mI M) Q := by
  exact X_iret (by decide +kernel : decode cX8_toll 47 = .ok (.ireturn, 1)) rfl rfl rfl q
theorem kX8_sum_0 {o0 : Option Value} {a1 : Nat} {o2 : Option Value} (g1 : aKd S a1 = 100) (h2 : (0 : Int) ≤ 3 ∧ 3 < (aN S a1 : Int)) (h4 : (0 : Int) ≤ 2 ∧ 2 < (aN S a1 : Int)) (r5 : R32 ((M a1 2))) (kd : (M a1 2) ≠ 0 ∧ (M a1 2) ≠ 1 ∧ (M a1 2) ≠ 2 ∧ (M a1 2) ≠ 3 ∧ (M a1 2) ≠ 4 → X E d fX8_sum 98 [o0, some (.ref a1), some (J (M a1 3))] [] S (mI M) Q) (k0 : (M a1 2) = 0 → X E d fX8_sum 40 [o0, some (.ref a1), some (J (M a1 3))] [] S (mI M) Q) (k1 : (M a1 2) = 1 → X E d fX8_sum 42 [o0, some (.ref a1), some (J (M a1 3))] [] S (mI M) Q) (k2 : (M a1 2) = 2 → X E d fX8_sum 50 [o0, some (.ref a1), some (J (M a1 3))] [] S (mI M) Q) (k3 : (M a1 2) = 3 → X E d fX8_sum 62 [o0, some (.ref a1), some (J (M a1 3))] [] S (mI M) Q) (k4 : (M a1 2) = 4 → X E d fX8_sum 77 [o0, some (.ref a1), some (J (M a1 3))] [] S (mI M) Q) : X E d fX8_sum 0 [o0, some (.ref a1), o2] [] S (mI M) Q := by
  refine X_aload_n 1 (by decide +kernel : decode cX8_sum 0 = .ok (.aload_n 1, 1)) rfl rfl rfl ?_
  refine X_iconst 2 (by decide +kernel : decode cX8_sum 1 = .ok (.iconst 3, 1)) rfl rfl ?_
  refine X_iald 3 (by decide +kernel : decode cX8_sum 2 = .ok (.iaload, 1)) rfl rfl g1 ⟨by decide, by decide⟩ h2 ?_
  refine X_istore_n 4 (by decide +kernel : decode cX8_sum 3 = .ok (.istore_n 2, 1)) rfl rfl (Nat.le_of_ble_eq_true rfl) rfl ?_
  refine X_aload_n 5 (by decide +kernel : decode cX8_sum 4 = .ok (.aload_n 1, 1)) rfl rfl rfl ?_
  refine X_iconst 6 (by decide +kernel : decode cX8_sum 5 = .ok (.iconst 2, 1)) rfl rfl ?_
  refine X_iald 7 (by decide +kernel : decode cX8_sum 6 = .ok (.iaload, 1)) rfl rfl g1 ⟨by decide, by decide⟩ h4 ?_
  by_cases hr : (M a1 2) < 0 ∨ 4 < (M a1 2)
  · exact X_tswD 98 (by decide +kernel : decode cX8_sum 7 = .ok (.tableswitch 91 0 4 #[33, 35, 43, 55, 70], 33)) rfl (by decide) r5 hr (kd (by omega))
  · rcases (by omega : (M a1 2) = 0 ∨ (M a1 2) = 1 ∨ (M a1 2) = 2 ∨ (M a1 2) = 3 ∨ (M a1 2) = 4) with h | h | h | h | h
    · exact X_tswI 40 0 (by decide +kernel : decode cX8_sum 7 = .ok (.tableswitch 91 0 4 #[33, 35, 43, 55, 70], 33)) rfl rfl (by decide) r5 (h.trans rfl) (by decide) (k0 h)
    · exact X_tswI 42 1 (by decide +kernel : decode cX8_sum 7 = .ok (.tableswitch 91 0 4 #[33, 35, 43, 55, 70], 33)) rfl rfl (by decide) r5 (h.trans rfl) (by decide) (k1 h)
    · exact X_tswI 50 2 (by decide +kernel : decode cX8_sum 7 = .ok (.tableswitch 91 0 4 #[33, 35, 43, 55, 70], 33)) rfl rfl (by decide) r5 (h.trans rfl) (by decide) (k2 h)
    · exact X_tswI 62 3 (by decide +kernel : decode cX8_sum 7 = .ok (.tableswitch 91 0 4 #[33, 35, 43, 55, 70], 33)) rfl rfl (by decide) r5 (h.trans rfl) (by decide) (k3 h)
    · exact X_tswI 77 4 (by decide +kernel : decode cX8_sum 7 = .ok (.tableswitch 91 0 4 #[33, 35, 43, 55, 70], 33)) rfl rfl (by decide) r5 (h.trans rfl) (by decide) (k4 h)
theorem kX8_sum_40 {o0 : Option Value} {o1 : Option Value} {x2 : Int} (q : Q (some (some (J x2))) S (mI M)) : X E d fX8_sum 40 [o0, o1, some (J x2)] [] S (mI M) Q := by
  refine X_iload_n 41 (by decide +kernel : decode cX8_sum 40 = .ok (.iload_n 2, 1)) rfl rfl rfl ?_
  exact X_iret (by decide +kernel : decode cX8_sum 41 = .ok (.ireturn, 1)) rfl rfl rfl q
theorem kX8_sum_42 {a0 : Nat} {o1 : Option Value} {o2 : Option Value} (g1 : aKd S a0 = 10) (r2 : R32 (M a0 1)) (q : Q (some (some (J ((M a0 1).tdiv 9)))) S (mI M)) : X E d fX8_sum 42 [some (.ref a0), o1, o2] [] S (mI M) Q := by
  refine X_aload_n 43 (by decide +kernel : decode cX8_sum 42 = .ok (.aload_n 0, 1)) rfl rfl rfl ?_
  refine X_getI 46 (by decide +kernel : decode cX8_sum 43 = .ok (.getfield 7, 3)) rfl rfl (by decide +kernel : aFd 10 7 = some (10, 1, false, false)) g1 ?_
  refine X_bipush 48 (9) (by decide +kernel : decode cX8_sum 46 = .ok (.bipush 9, 2)) rfl rfl (by decide +kernel) ?_
  refine X_idivW 49 (by decide +kernel : decode cX8_sum 48 = .ok (.idiv, 1)) rfl rfl r2 ⟨by decide, by decide⟩ (by decide) ?_
  exact X_iret (by decide +kernel : decode cX8_sum 49 = .ok (.ireturn, 1)) rfl rfl rfl q
theorem kX8_sum_50 {a0 : Nat} {a1 : Nat} {o2 : Option Value} (g1 : aKd S a1 = 100) (h2 : (0 : Int) ≤ 7 ∧ 7 < (aN S a1 : Int)) (hd1 : 1 ≤ d) (k : X E (d - 1) fX8_least 0 [some (.ref a0), some (J (M a1 7)), none, none, none, none, none] [] S (mI M) (Kr E d fX8_sum 60 [some (.ref a0), some (.ref a1), o2] [J 100] Q)) (g3 : aKd S a0 = 10) : X E d fX8_sum 50 [some (.ref a0), some (.ref a1), o2] [] S (mI M) Q := by
  refine X_bipush 52 (100) (by decide +kernel : decode cX8_sum 50 = .ok (.bipush 100, 2)) rfl rfl (by decide +kernel) ?_
  refine X_aload_n 53 (by decide +kernel : decode cX8_sum 52 = .ok (.aload_n 0, 1)) rfl rfl rfl ?_
  refine X_aload_n 54 (by decide +kernel : decode cX8_sum 53 = .ok (.aload_n 1, 1)) rfl rfl rfl ?_
  refine X_bipush 56 (7) (by decide +kernel : decode cX8_sum 54 = .ok (.bipush 7, 2)) rfl rfl (by decide +kernel) ?_
  refine X_iald 57 (by decide +kernel : decode cX8_sum 56 = .ok (.iaload, 1)) rfl rfl g1 ⟨by decide, by decide⟩ h2 ?_
  exact X_cv (as := [J (M a1 7)]) (rest := [J 100]) (by decide +kernel : decode cX8_sum 57 = .ok (.invokevirtual 40, 3)) (Or.inl ⟨rfl, rfl, rfl⟩) rfl rfl rfl rfl rfl (Nat.le_of_ble_eq_true rfl) (Or.inr (Or.inr (by rw [g3]; rfl))) hd1 k
theorem kX8_sum_60 {o0 : Option Value} {o1 : Option Value} {o2 : Option Value} {t0 : Int} {t1 : Int} (q : Q (some (some (J (t1 - t0)))) S (mI M)) : X E d fX8_sum 60 [o0, o1, o2] [J t0, J t1] S (mI M) Q := by
  refine X_isub 61 (by decide +kernel : decode cX8_sum 60 = .ok (.isub, 1)) rfl rfl ?_
  exact X_iret (by decide +kernel : decode cX8_sum 61 = .ok (.ireturn, 1)) rfl rfl rfl q
theorem kX8_sum_62 {a0 : Nat} {a1 : Nat} {o2 : Option Value} (g1 : aKd S a1 = 100) (h2 : (0 : Int) ≤ 6 ∧ 6 < (aN S a1 : Int)) (hd1 : 1 ≤ d) (k : X E (d - 1) fX8_condition 0 [some (.ref a0), some (J (M a1 6))] [] S (mI M) (Kr E d fX8_sum 70 [some (.ref a0), some (.ref a1), o2] [] Q)) (g3 : aKd S a0 = 10) : X E d fX8_sum 62 [some (.ref a0), some (.ref a1), o2] [] S (mI M) Q := by
  refine X_aload_n 63 (by decide +kernel : decode cX8_sum 62 = .ok (.aload_n 0, 1)) rfl rfl rfl ?_
  refine X_aload_n 64 (by decide +kernel : decode cX8_sum 63 = .ok (.aload_n 1, 1)) rfl rfl rfl ?_
  refine X_bipush 66 (6) (by decide +kernel : decode cX8_sum 64 = .ok (.bipush 6, 2)) rfl rfl (by decide +kernel) ?_
  refine X_iald 67 (by decide +kernel : decode cX8_sum 66 = .ok (.iaload, 1)) rfl rfl g1 ⟨by decide, by decide⟩ h2 ?_
  exact X_cv (as := [J (M a1 6)]) (rest := []) (by decide +kernel : decode cX8_sum 67 = .ok (.invokevirtual 44, 3)) (Or.inl ⟨rfl, rfl, rfl⟩) rfl rfl rfl rfl rfl (Nat.le_of_ble_eq_true rfl) (Or.inr (Or.inr (by rw [g3]; rfl))) hd1 k
theorem kX8_sum_70 {o0 : Option Value} {o1 : Option Value} {x2 : Int} {t0 : Int} (r1 : R32 t0) (r2 : R32 x2) (r3 : R32 (min t0 x2)) (q : Q (some (some (J ((min t0 x2).tdiv 3)))) S (mI M)) : X E d fX8_sum 70 [o0, o1, some (J x2)] [J t0] S (mI M) Q := by
  refine X_iload_n 71 (by decide +kernel : decode cX8_sum 70 = .ok (.iload_n 2, 1)) rfl rfl rfl ?_
  refine X_math (z := 0) 74 (by decide +kernel : decode cX8_sum 71 = .ok (.invokestatic 34, 3)) rfl rfl rfl rfl (by decide) r1 r2 (Nat.le_of_ble_eq_true rfl) ?_
  refine X_iconst 75 (by decide +kernel : decode cX8_sum 74 = .ok (.iconst 3, 1)) rfl rfl ?_
  refine X_idivW 76 (by decide +kernel : decode cX8_sum 75 = .ok (.idiv, 1)) rfl rfl r3 ⟨by decide, by decide⟩ (by decide) ?_
  exact X_iret (by decide +kernel : decode cX8_sum 76 = .ok (.ireturn, 1)) rfl rfl rfl q
theorem kX8_sum_77 {a0 : Nat} {a1 : Nat} {x2 : Int} {b2 : Nat} {b9 : Nat} (g1 : aKd S a0 = 10) (p3 : aP S a0 4 = some b2) (g4 : aKd S a1 = 100) (h5 : (0 : Int) ≤ 8 ∧ 8 < (aN S a1 : Int)) (g6 : aKd S b2 = 102) (r7 : R32 (M a1 8)) (h8 : (0 : Int) ≤ M a1 8 ∧ (M a1 8) < (aN S b2 : Int)) (p10 : aP S b2 (M a1 8).toNat = some b9) (g11 : aKd S b9 = 100) (h12 : (0 : Int) ≤ 3 ∧ 3 < (aN S b9 : Int)) (r13 : R32 (M b9 3)) (r14 : R32 x2) (q : Q (some (some (J ((max (M b9 3) 0) + (x2.tdiv 9))))) S (mI M)) : X E d fX8_sum 77 [some (.ref a0), some (.ref a1), some (J x2)] [] S (mI M) Q := by
  refine X_aload_n 78 (by decide +kernel : decode cX8_sum 77 = .ok (.aload_n 0, 1)) rfl rfl rfl ?_
  refine X_getR 81 (by decide +kernel : decode cX8_sum 78 = .ok (.getfield 22, 3)) rfl rfl (by decide +kernel : aFd 10 22 = some (10, 4, true, false)) g1 p3 ?_
  refine X_aload_n 82 (by decide +kernel : decode cX8_sum 81 = .ok (.aload_n 1, 1)) rfl rfl rfl ?_
  refine X_bipush 84 (8) (by decide +kernel : decode cX8_sum 82 = .ok (.bipush 8, 2)) rfl rfl (by decide +kernel) ?_
  refine X_iald 85 (by decide +kernel : decode cX8_sum 84 = .ok (.iaload, 1)) rfl rfl g4 ⟨by decide, by decide⟩ h5 ?_
  refine X_aald 86 (by decide +kernel : decode cX8_sum 85 = .ok (.aaload, 1)) rfl rfl g6 r7 h8 p10 ?_
  refine X_iconst 87 (by decide +kernel : decode cX8_sum 86 = .ok (.iconst 3, 1)) rfl rfl ?_
  refine X_iald 88 (by decide +kernel : decode cX8_sum 87 = .ok (.iaload, 1)) rfl rfl g11 ⟨by decide, by decide⟩ h12 ?_
  refine X_iconst 89 (by decide +kernel : decode cX8_sum 88 = .ok (.iconst 0, 1)) rfl rfl ?_
  refine X_math (z := 1) 92 (by decide +kernel : decode cX8_sum 89 = .ok (.invokestatic 47, 3)) rfl rfl rfl rfl (by decide) r13 ⟨by decide, by decide⟩ (Nat.le_of_ble_eq_true rfl) ?_
  refine X_iload_n 93 (by decide +kernel : decode cX8_sum 92 = .ok (.iload_n 2, 1)) rfl rfl rfl ?_
  refine X_bipush 95 (9) (by decide +kernel : decode cX8_sum 93 = .ok (.bipush 9, 2)) rfl rfl (by decide +kernel) ?_
  refine X_idivW 96 (by decide +kernel : decode cX8_sum 95 = .ok (.idiv, 1)) rfl rfl r14 ⟨by decide, by decide⟩ (by decide) ?_
  refine X_iadd 97 (by decide +kernel : decode cX8_sum 96 = .ok (.iadd, 1)) rfl rfl ?_
  exact X_iret (by decide +kernel : decode cX8_sum 97 = .ok (.ireturn, 1)) rfl rfl rfl q
theorem kX8_sum_98 {a0 : Nat} {o1 : Option Value} {x2 : Int} (g1 : aKd S a0 = 10) (q : Q (some (some (J ((M a0 0) - x2)))) S (mI M)) : X E d fX8_sum 98 [some (.ref a0), o1, some (J x2)] [] S (mI M) Q := by
  refine X_aload_n 99 (by decide +kernel : decode cX8_sum 98 = .ok (.aload_n 0, 1)) rfl rfl rfl ?_
  refine X_getI 102 (by decide +kernel : decode cX8_sum 99 = .ok (.getfield 50, 3)) rfl rfl (by decide +kernel : aFd 10 50 = some (10, 0, false, false)) g1 ?_
  refine X_iload_n 103 (by decide +kernel : decode cX8_sum 102 = .ok (.iload_n 2, 1)) rfl rfl rfl ?_
  refine X_isub 104 (by decide +kernel : decode cX8_sum 103 = .ok (.isub, 1)) rfl rfl ?_
  exact X_iret (by decide +kernel : decode cX8_sum 104 = .ok (.ireturn, 1)) rfl rfl rfl q
theorem kX8_mend_0 {o0 : Option Value} {o1 : Option Value} {o2 : Option Value} {o3 : Option Value} {o4 : Option Value} {o5 : Option Value} (k : X E d fX8_mend 2 [o0, o1, o2, some (J 0), o4, o5] [] S (mI M) Q) : X E d fX8_mend 0 [o0, o1, o2, o3, o4, o5] [] S (mI M) Q := by
  refine X_iconst 1 (by decide +kernel : decode cX8_mend 0 = .ok (.iconst 0, 1)) rfl rfl ?_
  refine X_istore_n 2 (by decide +kernel : decode cX8_mend 1 = .ok (.istore_n 3, 1)) rfl rfl (Nat.le_of_ble_eq_true rfl) rfl ?_
  exact k
theorem kX8_mend_2 {o0 : Option Value} {o1 : Option Value} {x2 : Int} {x3 : Int} {o4 : Option Value} {o5 : Option Value} (r1 : R32 x3) (r2 : R32 x2) (k1 : x2 ≤ x3 → X E d fX8_mend 119 [o0, o1, some (J x2), some (J x3), o4, o5] [] S (mI M) Q) (k2 : x3 < x2 → X E d fX8_mend 7 [o0, o1, some (J x2), some (J x3), o4, o5] [] S (mI M) Q) : X E d fX8_mend 2 [o0, o1, some (J x2), some (J x3), o4, o5] [] S (mI M) Q := by
  refine X_iload_n 3 (by decide +kernel : decode cX8_mend 2 = .ok (.iload_n 3, 1)) rfl rfl rfl ?_
  refine X_iload_n 4 (by decide +kernel : decode cX8_mend 3 = .ok (.iload_n 2, 1)) rfl rfl rfl ?_
  exact X_icmpge 119 7 (by decide +kernel : decode cX8_mend 4 = .ok (.if_icmp .ge 115, 3)) rfl rfl (by decide) r1 r2 k1 k2
theorem kX8_mend_7 {a0 : Nat} {x1 : Int} {o2 : Option Value} {o3 : Option Value} {o4 : Option Value} {o5 : Option Value} (hd1 : 1 ≤ d) (k : X E (d - 1) fX8_least 0 [some (.ref a0), some (J x1), none, none, none, none, none] [] S (mI M) (Kr E d fX8_mend 12 [some (.ref a0), some (J x1), o2, o3, o4, o5] [] Q)) (g1 : aKd S a0 = 10) : X E d fX8_mend 7 [some (.ref a0), some (J x1), o2, o3, o4, o5] [] S (mI M) Q := by
  refine X_aload_n 8 (by decide +kernel : decode cX8_mend 7 = .ok (.aload_n 0, 1)) rfl rfl rfl ?_
  refine X_iload_n 9 (by decide +kernel : decode cX8_mend 8 = .ok (.iload_n 1, 1)) rfl rfl rfl ?_
  exact X_cv (as := [J x1]) (rest := []) (by decide +kernel : decode cX8_mend 9 = .ok (.invokevirtual 40, 3)) (Or.inl ⟨rfl, rfl, rfl⟩) rfl rfl rfl rfl rfl (Nat.le_of_ble_eq_true rfl) (Or.inr (Or.inr (by rw [g1]; rfl))) hd1 k
theorem kX8_mend_12 {o0 : Option Value} {o1 : Option Value} {o2 : Option Value} {o3 : Option Value} {o4 : Option Value} {o5 : Option Value} {t0 : Int} (r1 : R32 t0) (k1 : 100 ≤ t0 → X E d fX8_mend 119 [o0, o1, o2, o3, o4, o5] [] S (mI M) Q) (k2 : t0 < 100 → X E d fX8_mend 17 [o0, o1, o2, o3, o4, o5] [] S (mI M) Q) : X E d fX8_mend 12 [o0, o1, o2, o3, o4, o5] [J t0] S (mI M) Q := by
  refine X_bipush 14 (100) (by decide +kernel : decode cX8_mend 12 = .ok (.bipush 100, 2)) rfl rfl (by decide +kernel) ?_
  exact X_icmpge 119 17 (by decide +kernel : decode cX8_mend 14 = .ok (.if_icmp .ge 105, 3)) rfl rfl (by decide) r1 ⟨by decide, by decide⟩ k1 k2
theorem kX8_mend_17 {a0 : Nat} {o1 : Option Value} {o2 : Option Value} {o3 : Option Value} {o4 : Option Value} {o5 : Option Value} {b2 : Nat} (g1 : aKd S a0 = 10) (p3 : aP S a0 3 = some b2) (g4 : aKd S b2 = 100 ∨ aKd S b2 = 101 ∨ aKd S b2 = 102) (k : X E d fX8_mend 29 [some (.ref a0), o1, o2, o3, some (J (-1)), some (J ((aN S b2 : Int) - 1))] [] S (mI M) Q) : X E d fX8_mend 17 [some (.ref a0), o1, o2, o3, o4, o5] [] S (mI M) Q := by
  refine X_iconst 18 (by decide +kernel : decode cX8_mend 17 = .ok (.iconst (-1), 1)) rfl rfl ?_
  refine X_istore 20 (by decide +kernel : decode cX8_mend 18 = .ok (.istore 4, 2)) rfl rfl (Nat.le_of_ble_eq_true rfl) rfl ?_
  refine X_aload_n 21 (by decide +kernel : decode cX8_mend 20 = .ok (.aload_n 0, 1)) rfl rfl rfl ?_
  refine X_getR 24 (by decide +kernel : decode cX8_mend 21 = .ok (.getfield 19, 3)) rfl rfl (by decide +kernel : aFd 10 19 = some (10, 3, true, false)) g1 p3 ?_
  refine X_alen 25 (by decide +kernel : decode cX8_mend 24 = .ok (.arraylength, 1)) rfl rfl g4 ?_
  refine X_iconst 26 (by decide +kernel : decode cX8_mend 25 = .ok (.iconst 1, 1)) rfl rfl ?_
  refine X_isub 27 (by decide +kernel : decode cX8_mend 26 = .ok (.isub, 1)) rfl rfl ?_
  refine X_istore 29 (by decide +kernel : decode cX8_mend 27 = .ok (.istore 5, 2)) rfl rfl (Nat.le_of_ble_eq_true rfl) rfl ?_
  exact k
theorem kX8_mend_29 {o0 : Option Value} {o1 : Option Value} {o2 : Option Value} {o3 : Option Value} {o4 : Option Value} {x5 : Int} (r1 : R32 x5) (k1 : x5 < 0 → X E d fX8_mend 74 [o0, o1, o2, o3, o4, some (J x5)] [] S (mI M) Q) (k2 : 0 ≤ x5 → X E d fX8_mend 34 [o0, o1, o2, o3, o4, some (J x5)] [] S (mI M) Q) : X E d fX8_mend 29 [o0, o1, o2, o3, o4, some (J x5)] [] S (mI M) Q := by
  refine X_iload 31 (by decide +kernel : decode cX8_mend 29 = .ok (.iload 5, 2)) rfl rfl rfl ?_
  exact X_iflt 74 34 (by decide +kernel : decode cX8_mend 31 = .ok (.ifCond .lt 43, 3)) rfl rfl (by decide) r1 k1 k2
theorem kX8_mend_34 {a0 : Nat} {x1 : Int} {o2 : Option Value} {o3 : Option Value} {o4 : Option Value} {x5 : Int} {b2 : Nat} {b7 : Nat} (g1 : aKd S a0 = 10) (p3 : aP S a0 3 = some b2) (g4 : aKd S b2 = 102) (r5 : R32 x5) (h6 : (0 : Int) ≤ x5 ∧ x5 < (aN S b2 : Int)) (p8 : aP S b2 x5.toNat = some b7) (g9 : aKd S b7 = 100) (h10 : (0 : Int) ≤ 0 ∧ 0 < (aN S b7 : Int)) (r11 : R32 (M b7 0)) (r12 : R32 x1) (k1 : (M b7 0) ≠ x1 → X E d fX8_mend 68 [some (.ref a0), some (J x1), o2, o3, o4, some (J x5)] [] S (mI M) Q) (k2 : (M b7 0) = x1 → X E d fX8_mend 47 [some (.ref a0), some (J x1), o2, o3, o4, some (J x5)] [] S (mI M) Q) : X E d fX8_mend 34 [some (.ref a0), some (J x1), o2, o3, o4, some (J x5)] [] S (mI M) Q := by
  refine X_aload_n 35 (by decide +kernel : decode cX8_mend 34 = .ok (.aload_n 0, 1)) rfl rfl rfl ?_
  refine X_getR 38 (by decide +kernel : decode cX8_mend 35 = .ok (.getfield 19, 3)) rfl rfl (by decide +kernel : aFd 10 19 = some (10, 3, true, false)) g1 p3 ?_
  refine X_iload 40 (by decide +kernel : decode cX8_mend 38 = .ok (.iload 5, 2)) rfl rfl rfl ?_
  refine X_aald 41 (by decide +kernel : decode cX8_mend 40 = .ok (.aaload, 1)) rfl rfl g4 r5 h6 p8 ?_
  refine X_iconst 42 (by decide +kernel : decode cX8_mend 41 = .ok (.iconst 0, 1)) rfl rfl ?_
  refine X_iald 43 (by decide +kernel : decode cX8_mend 42 = .ok (.iaload, 1)) rfl rfl g9 ⟨by decide, by decide⟩ h10 ?_
  refine X_iload_n 44 (by decide +kernel : decode cX8_mend 43 = .ok (.iload_n 1, 1)) rfl rfl rfl ?_
  exact X_icmpne 68 47 (by decide +kernel : decode cX8_mend 44 = .ok (.if_icmp .ne 24, 3)) rfl rfl (by decide) r11 r12 k1 k2
theorem kX8_mend_47 {a0 : Nat} {x1 : Int} {o2 : Option Value} {o3 : Option Value} {o4 : Option Value} {x5 : Int} {b2 : Nat} {b7 : Nat} (g1 : aKd S a0 = 10) (p3 : aP S a0 3 = some b2) (g4 : aKd S b2 = 102) (r5 : R32 x5) (h6 : (0 : Int) ≤ x5 ∧ x5 < (aN S b2 : Int)) (p8 : aP S b2 x5.toNat = some b7) (g9 : aKd S b7 = 100) (h10 : (0 : Int) ≤ 1 ∧ 1 < (aN S b7 : Int)) (hd1 : 1 ≤ d) (k : X E (d - 1) fX8_least 0 [some (.ref a0), some (J x1), none, none, none, none, none] [] S (mI M) (Kr E d fX8_mend 61 [some (.ref a0), some (J x1), o2, o3, o4, some (J x5)] [J (M b7 1)] Q)) : X E d fX8_mend 47 [some (.ref a0), some (J x1), o2, o3, o4, some (J x5)] [] S (mI M) Q := by
  refine X_aload_n 48 (by decide +kernel : decode cX8_mend 47 = .ok (.aload_n 0, 1)) rfl rfl rfl ?_
  refine X_getR 51 (by decide +kernel : decode cX8_mend 48 = .ok (.getfield 19, 3)) rfl rfl (by decide +kernel : aFd 10 19 = some (10, 3, true, false)) g1 p3 ?_
  refine X_iload 53 (by decide +kernel : decode cX8_mend 51 = .ok (.iload 5, 2)) rfl rfl rfl ?_
  refine X_aald 54 (by decide +kernel : decode cX8_mend 53 = .ok (.aaload, 1)) rfl rfl g4 r5 h6 p8 ?_
  refine X_iconst 55 (by decide +kernel : decode cX8_mend 54 = .ok (.iconst 1, 1)) rfl rfl ?_
  refine X_iald 56 (by decide +kernel : decode cX8_mend 55 = .ok (.iaload, 1)) rfl rfl g9 ⟨by decide, by decide⟩ h10 ?_
  refine X_aload_n 57 (by decide +kernel : decode cX8_mend 56 = .ok (.aload_n 0, 1)) rfl rfl rfl ?_
  refine X_iload_n 58 (by decide +kernel : decode cX8_mend 57 = .ok (.iload_n 1, 1)) rfl rfl rfl ?_
  exact X_cv (as := [J x1]) (rest := [J (M b7 1)]) (by decide +kernel : decode cX8_mend 58 = .ok (.invokevirtual 40, 3)) (Or.inl ⟨rfl, rfl, rfl⟩) rfl rfl rfl rfl rfl (Nat.le_of_ble_eq_true rfl) (Or.inr (Or.inr (by rw [g1]; rfl))) hd1 k
theorem kX8_mend_61 {o0 : Option Value} {o1 : Option Value} {o2 : Option Value} {o3 : Option Value} {o4 : Option Value} {o5 : Option Value} {t0 : Int} {t1 : Int} (r1 : R32 t1) (r2 : R32 t0) (k1 : t1 ≠ t0 → X E d fX8_mend 68 [o0, o1, o2, o3, o4, o5] [] S (mI M) Q) (k2 : t1 = t0 → X E d fX8_mend 64 [o0, o1, o2, o3, o4, o5] [] S (mI M) Q) : X E d fX8_mend 61 [o0, o1, o2, o3, o4, o5] [J t0, J t1] S (mI M) Q := by
  exact X_icmpne 68 64 (by decide +kernel : decode cX8_mend 61 = .ok (.if_icmp .ne 7, 3)) rfl rfl (by decide) r1 r2 k1 k2
theorem kX8_mend_64 {o0 : Option Value} {o1 : Option Value} {o2 : Option Value} {o3 : Option Value} {o4 : Option Value} {x5 : Int} (k : X E d fX8_mend 68 [o0, o1, o2, o3, some (J x5), some (J x5)] [] S (mI M) Q) : X E d fX8_mend 64 [o0, o1, o2, o3, o4, some (J x5)] [] S (mI M) Q := by
  refine X_iload 66 (by decide +kernel : decode cX8_mend 64 = .ok (.iload 5, 2)) rfl rfl rfl ?_
  refine X_istore 68 (by decide +kernel : decode cX8_mend 66 = .ok (.istore 4, 2)) rfl rfl (Nat.le_of_ble_eq_true rfl) rfl ?_
  exact k
theorem kX8_mend_68 {o0 : Option Value} {o1 : Option Value} {o2 : Option Value} {o3 : Option Value} {o4 : Option Value} {x5 : Int} (k : X E d fX8_mend 29 [o0, o1, o2, o3, o4, some (J (x5 + (-1)))] [] S (mI M) Q) : X E d fX8_mend 68 [o0, o1, o2, o3, o4, some (J x5)] [] S (mI M) Q := by
  refine X_iinc 71 (by decide +kernel : decode cX8_mend 68 = .ok (.iinc 5 (-1), 3)) rfl rfl rfl rfl ?_
  exact X_goto 29 (by decide +kernel : decode cX8_mend 71 = .ok (.goto (-42), 3)) rfl (by decide) k
theorem kX8_mend_74 {a0 : Nat} {o1 : Option Value} {o2 : Option Value} {o3 : Option Value} {x4 : Int} {o5 : Option Value} {b2 : Nat} {b7 : Nat} (g1 : aKd S a0 = 10) (p3 : aP S a0 3 = some b2) (g4 : aKd S b2 = 102) (r5 : R32 x4) (h6 : (0 : Int) ≤ x4 ∧ x4 < (aN S b2 : Int)) (p8 : aP S b2 x4.toNat = some b7) (g15 : aKd S b7 = 100) (h16 : (0 : Int) ≤ 1 ∧ 1 < (aN S b7 : Int)) (r17 : R32 (M b7 1)) (k1 : (M b7 1) ≤ 96 → X E d fX8_mend 101 [some (.ref a0), o1, o2, o3, some (J x4), o5] [J 1, .ref b7] S (mI M) Q) (k2 : 96 < (M b7 1) → X E d fX8_mend 96 [some (.ref a0), o1, o2, o3, some (J x4), o5] [J 1, .ref b7] S (mI M) Q) : X E d fX8_mend 74 [some (.ref a0), o1, o2, o3, some (J x4), o5] [] S (mI M) Q := by
  refine X_aload_n 75 (by decide +kernel : decode cX8_mend 74 = .ok (.aload_n 0, 1)) rfl rfl rfl ?_
  refine X_getR 78 (by decide +kernel : decode cX8_mend 75 = .ok (.getfield 19, 3)) rfl rfl (by decide +kernel : aFd 10 19 = some (10, 3, true, false)) g1 p3 ?_
  refine X_iload 80 (by decide +kernel : decode cX8_mend 78 = .ok (.iload 4, 2)) rfl rfl rfl ?_
  refine X_aald 81 (by decide +kernel : decode cX8_mend 80 = .ok (.aaload, 1)) rfl rfl g4 r5 h6 p8 ?_
  refine X_iconst 82 (by decide +kernel : decode cX8_mend 81 = .ok (.iconst 1, 1)) rfl rfl ?_
  refine X_aload_n 83 (by decide +kernel : decode cX8_mend 82 = .ok (.aload_n 0, 1)) rfl rfl rfl ?_
  refine X_getR 86 (by decide +kernel : decode cX8_mend 83 = .ok (.getfield 19, 3)) rfl rfl (by decide +kernel : aFd 10 19 = some (10, 3, true, false)) g1 p3 ?_
  refine X_iload 88 (by decide +kernel : decode cX8_mend 86 = .ok (.iload 4, 2)) rfl rfl rfl ?_
  refine X_aald 89 (by decide +kernel : decode cX8_mend 88 = .ok (.aaload, 1)) rfl rfl g4 r5 h6 p8 ?_
  refine X_iconst 90 (by decide +kernel : decode cX8_mend 89 = .ok (.iconst 1, 1)) rfl rfl ?_
  refine X_iald 91 (by decide +kernel : decode cX8_mend 90 = .ok (.iaload, 1)) rfl rfl g15 ⟨by decide, by decide⟩ h16 ?_
  refine X_bipush 93 (96) (by decide +kernel : decode cX8_mend 91 = .ok (.bipush 96, 2)) rfl rfl (by decide +kernel) ?_
  exact X_icmple 101 96 (by decide +kernel : decode cX8_mend 93 = .ok (.if_icmp .le 8, 3)) rfl rfl (by decide) r17 ⟨by decide, by decide⟩ k1 k2
theorem kX8_mend_96 {o0 : Option Value} {o1 : Option Value} {o2 : Option Value} {o3 : Option Value} {o4 : Option Value} {o5 : Option Value} {t0 : Int} {u1 : Nat} (k : X E d fX8_mend 112 [o0, o1, o2, o3, o4, o5] [J 100, J t0, .ref u1] S (mI M) Q) : X E d fX8_mend 96 [o0, o1, o2, o3, o4, o5] [J t0, .ref u1] S (mI M) Q := by
  refine X_bipush 98 (100) (by decide +kernel : decode cX8_mend 96 = .ok (.bipush 100, 2)) rfl rfl (by decide +kernel) ?_
  exact X_goto 112 (by decide +kernel : decode cX8_mend 98 = .ok (.goto 14, 3)) rfl (by decide) k
theorem kX8_mend_101 {a0 : Nat} {o1 : Option Value} {o2 : Option Value} {o3 : Option Value} {x4 : Int} {o5 : Option Value} {t0 : Int} {u1 : Nat} {b2 : Nat} {b7 : Nat} (g1 : aKd S a0 = 10) (p3 : aP S a0 3 = some b2) (g4 : aKd S b2 = 102) (r5 : R32 x4) (h6 : (0 : Int) ≤ x4 ∧ x4 < (aN S b2 : Int)) (p8 : aP S b2 x4.toNat = some b7) (g9 : aKd S b7 = 100) (h10 : (0 : Int) ≤ 1 ∧ 1 < (aN S b7 : Int)) (k : X E d fX8_mend 112 [some (.ref a0), o1, o2, o3, some (J x4), o5] [J ((M b7 1) + 4), J t0, .ref u1] S (mI M) Q) : X E d fX8_mend 101 [some (.ref a0), o1, o2, o3, some (J x4), o5] [J t0, .ref u1] S (mI M) Q := by
  refine X_aload_n 102 (by decide +kernel : decode cX8_mend 101 = .ok (.aload_n 0, 1)) rfl rfl rfl ?_
  refine X_getR 105 (by decide +kernel : decode cX8_mend 102 = .ok (.getfield 19, 3)) rfl rfl (by decide +kernel : aFd 10 19 = some (10, 3, true, false)) g1 p3 ?_
  refine X_iload 107 (by decide +kernel : decode cX8_mend 105 = .ok (.iload 4, 2)) rfl rfl rfl ?_
  refine X_aald 108 (by decide +kernel : decode cX8_mend 107 = .ok (.aaload, 1)) rfl rfl g4 r5 h6 p8 ?_
  refine X_iconst 109 (by decide +kernel : decode cX8_mend 108 = .ok (.iconst 1, 1)) rfl rfl ?_
  refine X_iald 110 (by decide +kernel : decode cX8_mend 109 = .ok (.iaload, 1)) rfl rfl g9 ⟨by decide, by decide⟩ h10 ?_
  refine X_iconst 111 (by decide +kernel : decode cX8_mend 110 = .ok (.iconst 4, 1)) rfl rfl ?_
  refine X_iadd 112 (by decide +kernel : decode cX8_mend 111 = .ok (.iadd, 1)) rfl rfl ?_
  exact k
theorem kX8_mend_112 {o0 : Option Value} {o1 : Option Value} {o2 : Option Value} {x3 : Int} {o4 : Option Value} {o5 : Option Value} {t0 : Int} {t1 : Int} {u2 : Nat} (g1 : aK S u2 = 100) (r2 : R32 t1) (h3 : (0 : Int) ≤ t1 ∧ t1 < (aN S u2 : Int)) (k : X E d fX8_mend 2 [o0, o1, o2, some (J (x3 + 1)), o4, o5] [] S (mI (mW M u2 t1.toNat t0)) Q) : X E d fX8_mend 112 [o0, o1, o2, some (J x3), o4, o5] [J t0, J t1, .ref u2] S (mI M) Q := by
  refine X_iast 113 (by decide +kernel : decode cX8_mend 112 = .ok (.iastore, 1)) rfl rfl g1 r2 h3 ?_
  refine X_iinc 116 (by decide +kernel : decode cX8_mend 113 = .ok (.iinc 3 1, 3)) rfl rfl rfl rfl ?_
  exact X_goto 2 (by decide +kernel : decode cX8_mend 116 = .ok (.goto (-114), 3)) rfl (by decide) k
theorem kX8_mend_119 {a0 : Nat} {x1 : Int} {o2 : Option Value} {x3 : Int} {o4 : Option Value} {o5 : Option Value} {b4 : Nat} {b9 : Nat} {M_15 : Nat → Nat → Int} (g1 : aKd S a0 = 10) (g2 : aK S a0 = 10) (p5 : aP S a0 2 = some b4) (g6 : aKd S b4 = 102) (r7 : R32 x1) (h8 : (0 : Int) ≤ x1 ∧ x1 < (aN S b4 : Int)) (p10 : aP S b4 x1.toNat = some b9) (g11 : aKd S b9 = 100) (h12 : (0 : Int) ≤ 2 ∧ 2 < (aN S b9 : Int)) (g13 : aK S b9 = 100) (eM_15 : mW (mW M a0 1 (nz ((M a0 1) - x3))) b9 2 (nz (((mW M a0 1 (nz ((M a0 1) - x3))) b9 2) + x3)) = M_15) (q : Q (some (some (J x3))) S (mI M_15)) : X E d fX8_mend 119 [some (.ref a0), some (J x1), o2, some (J x3), o4, o5] [] S (mI M) Q := by
  refine X_aload_n 120 (by decide +kernel : decode cX8_mend 119 = .ok (.aload_n 0, 1)) rfl rfl rfl ?_
  refine X_dup 121 (by decide +kernel : decode cX8_mend 120 = .ok (.dup, 1)) rfl rfl rfl ?_
  refine X_getI 124 (by decide +kernel : decode cX8_mend 121 = .ok (.getfield 7, 3)) rfl rfl (by decide +kernel : aFd 10 7 = some (10, 1, false, false)) g1 ?_
  refine X_iload_n 125 (by decide +kernel : decode cX8_mend 124 = .ok (.iload_n 3, 1)) rfl rfl rfl ?_
  refine X_isub 126 (by decide +kernel : decode cX8_mend 125 = .ok (.isub, 1)) rfl rfl ?_
  refine X_putIz 129 (by decide +kernel : decode cX8_mend 126 = .ok (.putfield 7, 3)) rfl rfl (by decide +kernel : aFd 10 7 = some (10, 1, false, false)) (Or.inl rfl) g2 rfl rfl ?_
  refine X_aload_n 130 (by decide +kernel : decode cX8_mend 129 = .ok (.aload_n 0, 1)) rfl rfl rfl ?_
  refine X_getR 133 (by decide +kernel : decode cX8_mend 130 = .ok (.getfield 15, 3)) rfl rfl (by decide +kernel : aFd 10 15 = some (10, 2, true, false)) g1 p5 ?_
  refine X_iload_n 134 (by decide +kernel : decode cX8_mend 133 = .ok (.iload_n 1, 1)) rfl rfl rfl ?_
  refine X_aald 135 (by decide +kernel : decode cX8_mend 134 = .ok (.aaload, 1)) rfl rfl g6 r7 h8 p10 ?_
  refine X_iconst 136 (by decide +kernel : decode cX8_mend 135 = .ok (.iconst 2, 1)) rfl rfl ?_
  refine X_dup2 137 (by decide +kernel : decode cX8_mend 136 = .ok (.dup2, 1)) rfl rfl rfl rfl ?_
  refine X_iald 138 (by decide +kernel : decode cX8_mend 137 = .ok (.iaload, 1)) rfl rfl g11 ⟨by decide, by decide⟩ h12 ?_
  refine X_iload_n 139 (by decide +kernel : decode cX8_mend 138 = .ok (.iload_n 3, 1)) rfl rfl rfl ?_
  refine X_iadd 140 (by decide +kernel : decode cX8_mend 139 = .ok (.iadd, 1)) rfl rfl ?_
  refine X_iastz 141 (by decide +kernel : decode cX8_mend 140 = .ok (.iastore, 1)) rfl rfl g13 ⟨by decide, by decide⟩ h12 ?_
  show X E d fX8_mend 141 [some (.ref a0), some (J x1), o2, some (J x3), o4, o5] [] S (mI (mW (mW M a0 1 (nz ((M a0 1) - x3))) b9 2 (nz (((mW M a0 1 (nz ((M a0 1) - x3))) b9 2) + x3)))) Q
  rw [eM_15]
  refine X_iload_n 142 (by decide +kernel : decode cX8_mend 141 = .ok (.iload_n 3, 1)) rfl rfl rfl ?_
  exact X_iret (by decide +kernel : decode cX8_mend 142 = .ok (.ireturn, 1)) rfl rfl rfl q
theorem kX8_passed_0 {a0 : Nat} {o1 : Option Value} {o2 : Option Value} {o3 : Option Value} {o4 : Option Value} {o5 : Option Value} {b2 : Nat} (g1 : aKd S a0 = 10) (p3 : aP S a0 5 = some b2) (g4 : aKd S b2 = 100 ∨ aKd S b2 = 101 ∨ aKd S b2 = 102) (k : X E d fX8_passed 13 [some (.ref a0), some (J 0), some (.ref b2), some (J (aN S b2 : Int)), some (J 0), o5] [] S (mI M) Q) : X E d fX8_passed 0 [some (.ref a0), o1, o2, o3, o4, o5] [] S (mI M) Q := by
  refine X_iconst 1 (by decide +kernel : decode cX8_passed 0 = .ok (.iconst 0, 1)) rfl rfl ?_
  refine X_istore_n 2 (by decide +kernel : decode cX8_passed 1 = .ok (.istore_n 1, 1)) rfl rfl (Nat.le_of_ble_eq_true rfl) rfl ?_
  refine X_aload_n 3 (by decide +kernel : decode cX8_passed 2 = .ok (.aload_n 0, 1)) rfl rfl rfl ?_
  refine X_getR 6 (by decide +kernel : decode cX8_passed 3 = .ok (.getfield 25, 3)) rfl rfl (by decide +kernel : aFd 10 25 = some (10, 5, true, false)) g1 p3 ?_
  refine X_astore_n 7 (by decide +kernel : decode cX8_passed 6 = .ok (.astore_n 2, 1)) rfl rfl (Nat.le_of_ble_eq_true rfl) rfl ?_
  refine X_aload_n 8 (by decide +kernel : decode cX8_passed 7 = .ok (.aload_n 2, 1)) rfl rfl rfl ?_
  refine X_alen 9 (by decide +kernel : decode cX8_passed 8 = .ok (.arraylength, 1)) rfl rfl g4 ?_
  refine X_istore_n 10 (by decide +kernel : decode cX8_passed 9 = .ok (.istore_n 3, 1)) rfl rfl (Nat.le_of_ble_eq_true rfl) rfl ?_
  refine X_iconst 11 (by decide +kernel : decode cX8_passed 10 = .ok (.iconst 0, 1)) rfl rfl ?_
  refine X_istore 13 (by decide +kernel : decode cX8_passed 11 = .ok (.istore 4, 2)) rfl rfl (Nat.le_of_ble_eq_true rfl) rfl ?_
  exact k
theorem kX8_passed_13 {o0 : Option Value} {o1 : Option Value} {o2 : Option Value} {x3 : Int} {x4 : Int} {o5 : Option Value} (r1 : R32 x4) (r2 : R32 x3) (k1 : x3 ≤ x4 → X E d fX8_passed 38 [o0, o1, o2, some (J x3), some (J x4), o5] [] S (mI M) Q) (k2 : x4 < x3 → X E d fX8_passed 19 [o0, o1, o2, some (J x3), some (J x4), o5] [] S (mI M) Q) : X E d fX8_passed 13 [o0, o1, o2, some (J x3), some (J x4), o5] [] S (mI M) Q := by
  refine X_iload 15 (by decide +kernel : decode cX8_passed 13 = .ok (.iload 4, 2)) rfl rfl rfl ?_
  refine X_iload_n 16 (by decide +kernel : decode cX8_passed 15 = .ok (.iload_n 3, 1)) rfl rfl rfl ?_
  exact X_icmpge 38 19 (by decide +kernel : decode cX8_passed 16 = .ok (.if_icmp .ge 22, 3)) rfl rfl (by decide) r1 r2 k1 k2
theorem kX8_passed_19 {o0 : Option Value} {x1 : Int} {a2 : Nat} {o3 : Option Value} {x4 : Int} {o5 : Option Value} {b4 : Nat} (g1 : aKd S a2 = 102) (r2 : R32 x4) (h3 : (0 : Int) ≤ x4 ∧ x4 < (aN S a2 : Int)) (p5 : aP S a2 x4.toNat = some b4) (g6 : aKd S b4 = 100) (h7 : (0 : Int) ≤ 5 ∧ 5 < (aN S b4 : Int)) (k : X E d fX8_passed 13 [o0, some (J (x1 + (M b4 5))), some (.ref a2), o3, some (J (x4 + 1)), some (.ref b4)] [] S (mI M) Q) : X E d fX8_passed 19 [o0, some (J x1), some (.ref a2), o3, some (J x4), o5] [] S (mI M) Q := by
  refine X_aload_n 20 (by decide +kernel : decode cX8_passed 19 = .ok (.aload_n 2, 1)) rfl rfl rfl ?_
  refine X_iload 22 (by decide +kernel : decode cX8_passed 20 = .ok (.iload 4, 2)) rfl rfl rfl ?_
  refine X_aald 23 (by decide +kernel : decode cX8_passed 22 = .ok (.aaload, 1)) rfl rfl g1 r2 h3 p5 ?_
  refine X_astore 25 (by decide +kernel : decode cX8_passed 23 = .ok (.astore 5, 2)) rfl rfl (Nat.le_of_ble_eq_true rfl) rfl ?_
  refine X_iload_n 26 (by decide +kernel : decode cX8_passed 25 = .ok (.iload_n 1, 1)) rfl rfl rfl ?_
  refine X_aload 28 (by decide +kernel : decode cX8_passed 26 = .ok (.aload 5, 2)) rfl rfl rfl ?_
  refine X_iconst 29 (by decide +kernel : decode cX8_passed 28 = .ok (.iconst 5, 1)) rfl rfl ?_
  refine X_iald 30 (by decide +kernel : decode cX8_passed 29 = .ok (.iaload, 1)) rfl rfl g6 ⟨by decide, by decide⟩ h7 ?_
  refine X_iadd 31 (by decide +kernel : decode cX8_passed 30 = .ok (.iadd, 1)) rfl rfl ?_
  refine X_istore_n 32 (by decide +kernel : decode cX8_passed 31 = .ok (.istore_n 1, 1)) rfl rfl (Nat.le_of_ble_eq_true rfl) rfl ?_
  refine X_iinc 35 (by decide +kernel : decode cX8_passed 32 = .ok (.iinc 4 1, 3)) rfl rfl rfl rfl ?_
  exact X_goto 13 (by decide +kernel : decode cX8_passed 35 = .ok (.goto (-22), 3)) rfl (by decide) k
theorem kX8_passed_38 {o0 : Option Value} {x1 : Int} {o2 : Option Value} {o3 : Option Value} {o4 : Option Value} {o5 : Option Value} (q : Q (some (some (J x1))) S (mI M)) : X E d fX8_passed 38 [o0, some (J x1), o2, o3, o4, o5] [] S (mI M) Q := by
  refine X_iload_n 39 (by decide +kernel : decode cX8_passed 38 = .ok (.iload_n 1, 1)) rfl rfl rfl ?_
  exact X_iret (by decide +kernel : decode cX8_passed 39 = .ok (.ireturn, 1)) rfl rfl rfl q
theorem kX8_isSame_0 {a0 : Nat} {o1 : Option Value} {o2 : Option Value} {o3 : Option Value} {o4 : Option Value} {o5 : Option Value} {o6 : Option Value} {o7 : Option Value} {o8 : Option Value} {o9 : Option Value} (hd1 : 1 ≤ d) (k : X E (d - 1) fX8_counts 0 [some (.ref a0), none, none, none, none, none] [] S (mI M) (Kr E d fX8_isSame 4 [some (.ref a0), o1, o2, o3, o4, o5, o6, o7, o8, o9] [] Q)) (g1 : aKd S a0 = 10) : X E d fX8_isSame 0 [some (.ref a0), o1, o2, o3, o4, o5, o6, o7, o8, o9] [] S (mI M) Q := by
  refine X_aload_n 1 (by decide +kernel : decode cX8_isSame 0 = .ok (.aload_n 0, 1)) rfl rfl rfl ?_
  exact X_cv (as := []) (rest := []) (by decide +kernel : decode cX8_isSame 1 = .ok (.invokevirtual 102, 3)) (Or.inl ⟨rfl, rfl, rfl⟩) rfl rfl rfl rfl rfl (Nat.le_of_ble_eq_true rfl) (Or.inr (Or.inr (by rw [g1]; rfl))) hd1 k
theorem kX8_isSame_4 {o0 : Option Value} {o1 : Option Value} {o2 : Option Value} {o3 : Option Value} {o4 : Option Value} {o5 : Option Value} {o6 : Option Value} {o7 : Option Value} {o8 : Option Value} {o9 : Option Value} {u0 : Nat} (k : X E d fX8_isSame 7 [o0, o1, some (.ref u0), some (J 0), o4, o5, o6, o7, o8, o9] [] S (mI M) Q) : X E d fX8_isSame 4 [o0, o1, o2, o3, o4, o5, o6, o7, o8, o9] [.ref u0] S (mI M) Q := by
  refine X_astore_n 5 (by decide +kernel : decode cX8_isSame 4 = .ok (.astore_n 2, 1)) rfl rfl (Nat.le_of_ble_eq_true rfl) rfl ?_
  refine X_iconst 6 (by decide +kernel : decode cX8_isSame 5 = .ok (.iconst 0, 1)) rfl rfl ?_
  refine X_istore_n 7 (by decide +kernel : decode cX8_isSame 6 = .ok (.istore_n 3, 1)) rfl rfl (Nat.le_of_ble_eq_true rfl) rfl ?_
  exact k
theorem kX8_isSame_7 {o0 : Option Value} {o1 : Option Value} {o2 : Option Value} {x3 : Int} {o4 : Option Value} {o5 : Option Value} {o6 : Option Value} {o7 : Option Value} {o8 : Option Value} {o9 : Option Value} (r1 : R32 x3) (k1 : 13 ≤ x3 → X E d fX8_isSame 32 [o0, o1, o2, some (J x3), o4, o5, o6, o7, o8, o9] [] S (mI M) Q) (k2 : x3 < 13 → X E d fX8_isSame 13 [o0, o1, o2, some (J x3), o4, o5, o6, o7, o8, o9] [] S (mI M) Q) : X E d fX8_isSame 7 [o0, o1, o2, some (J x3), o4, o5, o6, o7, o8, o9] [] S (mI M) Q := by
  refine X_iload_n 8 (by decide +kernel : decode cX8_isSame 7 = .ok (.iload_n 3, 1)) rfl rfl rfl ?_
  refine X_bipush 10 (13) (by decide +kernel : decode cX8_isSame 8 = .ok (.bipush 13, 2)) rfl rfl (by decide +kernel) ?_
  exact X_icmpge 32 13 (by decide +kernel : decode cX8_isSame 10 = .ok (.if_icmp .ge 22, 3)) rfl rfl (by decide) r1 ⟨by decide, by decide⟩ k1 k2
theorem kX8_isSame_13 {o0 : Option Value} {a1 : Nat} {o2 : Option Value} {x3 : Int} {o4 : Option Value} {o5 : Option Value} {o6 : Option Value} {o7 : Option Value} {o8 : Option Value} {o9 : Option Value} (hd1 : 1 ≤ d) (k : X E (d - 1) fX7_count 0 [some (.ref a1), some (J x3)] [] S (mI M) (Kr E d fX8_isSame 18 [o0, some (.ref a1), o2, some (J x3), o4, o5, o6, o7, o8, o9] [] Q)) (g1 : aKd S a1 = 9) : X E d fX8_isSame 13 [o0, some (.ref a1), o2, some (J x3), o4, o5, o6, o7, o8, o9] [] S (mI M) Q := by
  refine X_aload_n 14 (by decide +kernel : decode cX8_isSame 13 = .ok (.aload_n 1, 1)) rfl rfl rfl ?_
  refine X_iload_n 15 (by decide +kernel : decode cX8_isSame 14 = .ok (.iload_n 3, 1)) rfl rfl rfl ?_
  exact X_cv (as := [J x3]) (rest := []) (by decide +kernel : decode cX8_isSame 15 = .ok (.invokevirtual 106, 3)) (Or.inl ⟨rfl, rfl, rfl⟩) rfl rfl rfl rfl rfl (Nat.le_of_ble_eq_true rfl) (Or.inr (Or.inr (by rw [g1]; rfl))) hd1 k
theorem kX8_isSame_18 {o0 : Option Value} {o1 : Option Value} {a2 : Nat} {x3 : Int} {o4 : Option Value} {o5 : Option Value} {o6 : Option Value} {o7 : Option Value} {o8 : Option Value} {o9 : Option Value} {t0 : Int} (g1 : aKd S a2 = 100) (r2 : R32 x3) (h3 : (0 : Int) ≤ x3 ∧ x3 < (aN S a2 : Int)) (r4 : R32 t0) (r5 : R32 (M a2 x3.toNat)) (k1 : t0 = (M a2 x3.toNat) → X E d fX8_isSame 26 [o0, o1, some (.ref a2), some (J x3), o4, o5, o6, o7, o8, o9] [] S (mI M) Q) (k2 : t0 ≠ (M a2 x3.toNat) → X E d fX8_isSame 24 [o0, o1, some (.ref a2), some (J x3), o4, o5, o6, o7, o8, o9] [] S (mI M) Q) : X E d fX8_isSame 18 [o0, o1, some (.ref a2), some (J x3), o4, o5, o6, o7, o8, o9] [J t0] S (mI M) Q := by
  refine X_aload_n 19 (by decide +kernel : decode cX8_isSame 18 = .ok (.aload_n 2, 1)) rfl rfl rfl ?_
  refine X_iload_n 20 (by decide +kernel : decode cX8_isSame 19 = .ok (.iload_n 3, 1)) rfl rfl rfl ?_
  refine X_iald 21 (by decide +kernel : decode cX8_isSame 20 = .ok (.iaload, 1)) rfl rfl g1 r2 h3 ?_
  exact X_icmpeq 26 24 (by decide +kernel : decode cX8_isSame 21 = .ok (.if_icmp .eq 5, 3)) rfl rfl (by decide) r4 r5 k1 k2
theorem kX8_isSame_24 {o0 : Option Value} {o1 : Option Value} {o2 : Option Value} {o3 : Option Value} {o4 : Option Value} {o5 : Option Value} {o6 : Option Value} {o7 : Option Value} {o8 : Option Value} {o9 : Option Value} (q : Q (some (some (J 0))) S (mI M)) : X E d fX8_isSame 24 [o0, o1, o2, o3, o4, o5, o6, o7, o8, o9] [] S (mI M) Q := by
  refine X_iconst 25 (by decide +kernel : decode cX8_isSame 24 = .ok (.iconst 0, 1)) rfl rfl ?_
  exact X_iret (by decide +kernel : decode cX8_isSame 25 = .ok (.ireturn, 1)) rfl rfl (by decide) q
theorem kX8_isSame_26 {o0 : Option Value} {o1 : Option Value} {o2 : Option Value} {x3 : Int} {o4 : Option Value} {o5 : Option Value} {o6 : Option Value} {o7 : Option Value} {o8 : Option Value} {o9 : Option Value} (k : X E d fX8_isSame 7 [o0, o1, o2, some (J (x3 + 1)), o4, o5, o6, o7, o8, o9] [] S (mI M) Q) : X E d fX8_isSame 26 [o0, o1, o2, some (J x3), o4, o5, o6, o7, o8, o9] [] S (mI M) Q := by
  refine X_iinc 29 (by decide +kernel : decode cX8_isSame 26 = .ok (.iinc 3 1, 3)) rfl rfl rfl rfl ?_
  exact X_goto 7 (by decide +kernel : decode cX8_isSame 29 = .ok (.goto (-22), 3)) rfl (by decide) k
theorem kX8_isSame_32 {a0 : Nat} {o1 : Option Value} {o2 : Option Value} {o3 : Option Value} {o4 : Option Value} {o5 : Option Value} {o6 : Option Value} {o7 : Option Value} {o8 : Option Value} {o9 : Option Value} {b2 : Nat} (g1 : aKd S a0 = 10) (p3 : aP S a0 3 = some b2) (g4 : aKd S b2 = 100 ∨ aKd S b2 = 101 ∨ aKd S b2 = 102) (k : X E d fX8_isSame 43 [some (.ref a0), o1, o2, some (J (-1)), some (J ((aN S b2 : Int) - 1)), o5, o6, o7, o8, o9] [] S (mI M) Q) : X E d fX8_isSame 32 [some (.ref a0), o1, o2, o3, o4, o5, o6, o7, o8, o9] [] S (mI M) Q := by
  refine X_iconst 33 (by decide +kernel : decode cX8_isSame 32 = .ok (.iconst (-1), 1)) rfl rfl ?_
  refine X_istore_n 34 (by decide +kernel : decode cX8_isSame 33 = .ok (.istore_n 3, 1)) rfl rfl (Nat.le_of_ble_eq_true rfl) rfl ?_
  refine X_aload_n 35 (by decide +kernel : decode cX8_isSame 34 = .ok (.aload_n 0, 1)) rfl rfl rfl ?_
  refine X_getR 38 (by decide +kernel : decode cX8_isSame 35 = .ok (.getfield 19, 3)) rfl rfl (by decide +kernel : aFd 10 19 = some (10, 3, true, false)) g1 p3 ?_
  refine X_alen 39 (by decide +kernel : decode cX8_isSame 38 = .ok (.arraylength, 1)) rfl rfl g4 ?_
  refine X_iconst 40 (by decide +kernel : decode cX8_isSame 39 = .ok (.iconst 1, 1)) rfl rfl ?_
  refine X_isub 41 (by decide +kernel : decode cX8_isSame 40 = .ok (.isub, 1)) rfl rfl ?_
  refine X_istore 43 (by decide +kernel : decode cX8_isSame 41 = .ok (.istore 4, 2)) rfl rfl (Nat.le_of_ble_eq_true rfl) rfl ?_
  exact k
theorem kX8_isSame_43 {o0 : Option Value} {o1 : Option Value} {o2 : Option Value} {o3 : Option Value} {x4 : Int} {o5 : Option Value} {o6 : Option Value} {o7 : Option Value} {o8 : Option Value} {o9 : Option Value} (r1 : R32 x4) (k1 : x4 < 0 → X E d fX8_isSame 209 [o0, o1, o2, o3, some (J x4), o5, o6, o7, o8, o9] [] S (mI M) Q) (k2 : 0 ≤ x4 → X E d fX8_isSame 48 [o0, o1, o2, o3, some (J x4), o5, o6, o7, o8, o9] [] S (mI M) Q) : X E d fX8_isSame 43 [o0, o1, o2, o3, some (J x4), o5, o6, o7, o8, o9] [] S (mI M) Q := by
  refine X_iload 45 (by decide +kernel : decode cX8_isSame 43 = .ok (.iload 4, 2)) rfl rfl rfl ?_
  exact X_iflt 209 48 (by decide +kernel : decode cX8_isSame 45 = .ok (.ifCond .lt 164, 3)) rfl rfl (by decide) r1 k1 k2
theorem kX8_isSame_48 {a0 : Nat} {o1 : Option Value} {o2 : Option Value} {o3 : Option Value} {o4 : Option Value} {o5 : Option Value} {o6 : Option Value} {o7 : Option Value} {o8 : Option Value} {o9 : Option Value} {b2 : Nat} (g1 : aKd S a0 = 10) (p3 : aP S a0 4 = some b2) (g4 : aKd S b2 = 100 ∨ aKd S b2 = 101 ∨ aKd S b2 = 102) (k : X E d fX8_isSame 65 [some (.ref a0), o1, o2, o3, o4, some (J 0), some (.ref b2), some (J (aN S b2 : Int)), some (J 0), o9] [] S (mI M) Q) : X E d fX8_isSame 48 [some (.ref a0), o1, o2, o3, o4, o5, o6, o7, o8, o9] [] S (mI M) Q := by
  refine X_iconst 49 (by decide +kernel : decode cX8_isSame 48 = .ok (.iconst 0, 1)) rfl rfl ?_
  refine X_istore 51 (by decide +kernel : decode cX8_isSame 49 = .ok (.istore 5, 2)) rfl rfl (Nat.le_of_ble_eq_true rfl) rfl ?_
  refine X_aload_n 52 (by decide +kernel : decode cX8_isSame 51 = .ok (.aload_n 0, 1)) rfl rfl rfl ?_
  refine X_getR 55 (by decide +kernel : decode cX8_isSame 52 = .ok (.getfield 22, 3)) rfl rfl (by decide +kernel : aFd 10 22 = some (10, 4, true, false)) g1 p3 ?_
  refine X_astore 57 (by decide +kernel : decode cX8_isSame 55 = .ok (.astore 6, 2)) rfl rfl (Nat.le_of_ble_eq_true rfl) rfl ?_
  refine X_aload 59 (by decide +kernel : decode cX8_isSame 57 = .ok (.aload 6, 2)) rfl rfl rfl ?_
  refine X_alen 60 (by decide +kernel : decode cX8_isSame 59 = .ok (.arraylength, 1)) rfl rfl g4 ?_
  refine X_istore 62 (by decide +kernel : decode cX8_isSame 60 = .ok (.istore 7, 2)) rfl rfl (Nat.le_of_ble_eq_true rfl) rfl ?_
  refine X_iconst 63 (by decide +kernel : decode cX8_isSame 62 = .ok (.iconst 0, 1)) rfl rfl ?_
  refine X_istore 65 (by decide +kernel : decode cX8_isSame 63 = .ok (.istore 8, 2)) rfl rfl (Nat.le_of_ble_eq_true rfl) rfl ?_
  exact k
theorem kX8_isSame_65 {o0 : Option Value} {o1 : Option Value} {o2 : Option Value} {o3 : Option Value} {o4 : Option Value} {o5 : Option Value} {o6 : Option Value} {x7 : Int} {x8 : Int} {o9 : Option Value} (r1 : R32 x8) (r2 : R32 x7) (k1 : x7 ≤ x8 → X E d fX8_isSame 104 [o0, o1, o2, o3, o4, o5, o6, some (J x7), some (J x8), o9] [] S (mI M) Q) (k2 : x8 < x7 → X E d fX8_isSame 72 [o0, o1, o2, o3, o4, o5, o6, some (J x7), some (J x8), o9] [] S (mI M) Q) : X E d fX8_isSame 65 [o0, o1, o2, o3, o4, o5, o6, some (J x7), some (J x8), o9] [] S (mI M) Q := by
  refine X_iload 67 (by decide +kernel : decode cX8_isSame 65 = .ok (.iload 8, 2)) rfl rfl rfl ?_
  refine X_iload 69 (by decide +kernel : decode cX8_isSame 67 = .ok (.iload 7, 2)) rfl rfl rfl ?_
  exact X_icmpge 104 72 (by decide +kernel : decode cX8_isSame 69 = .ok (.if_icmp .ge 35, 3)) rfl rfl (by decide) r1 r2 k1 k2
theorem kX8_isSame_72 {o0 : Option Value} {o1 : Option Value} {o2 : Option Value} {o3 : Option Value} {x4 : Int} {x5 : Int} {a6 : Nat} {o7 : Option Value} {x8 : Int} {o9 : Option Value} {b4 : Nat} (g1 : aKd S a6 = 102) (r2 : R32 x8) (h3 : (0 : Int) ≤ x8 ∧ x8 < (aN S a6 : Int)) (p5 : aP S a6 x8.toNat = some b4) (g6 : aKd S b4 = 100) (h7 : (0 : Int) ≤ 0 ∧ 0 < (aN S b4 : Int)) (r8 : R32 (M b4 0)) (r9 : R32 x4) (k1 : (M b4 0) ≠ x4 → X E d fX8_isSame 94 [o0, o1, o2, o3, some (J x4), some (J x5), some (.ref a6), o7, some (J x8), some (.ref b4)] [J x5] S (mI M) Q) (k2 : (M b4 0) = x4 → X E d fX8_isSame 90 [o0, o1, o2, o3, some (J x4), some (J x5), some (.ref a6), o7, some (J x8), some (.ref b4)] [J x5] S (mI M) Q) : X E d fX8_isSame 72 [o0, o1, o2, o3, some (J x4), some (J x5), some (.ref a6), o7, some (J x8), o9] [] S (mI M) Q := by
  refine X_aload 74 (by decide +kernel : decode cX8_isSame 72 = .ok (.aload 6, 2)) rfl rfl rfl ?_
  refine X_iload 76 (by decide +kernel : decode cX8_isSame 74 = .ok (.iload 8, 2)) rfl rfl rfl ?_
  refine X_aald 77 (by decide +kernel : decode cX8_isSame 76 = .ok (.aaload, 1)) rfl rfl g1 r2 h3 p5 ?_
  refine X_astore 79 (by decide +kernel : decode cX8_isSame 77 = .ok (.astore 9, 2)) rfl rfl (Nat.le_of_ble_eq_true rfl) rfl ?_
  refine X_iload 81 (by decide +kernel : decode cX8_isSame 79 = .ok (.iload 5, 2)) rfl rfl rfl ?_
  refine X_aload 83 (by decide +kernel : decode cX8_isSame 81 = .ok (.aload 9, 2)) rfl rfl rfl ?_
  refine X_iconst 84 (by decide +kernel : decode cX8_isSame 83 = .ok (.iconst 0, 1)) rfl rfl ?_
  refine X_iald 85 (by decide +kernel : decode cX8_isSame 84 = .ok (.iaload, 1)) rfl rfl g6 ⟨by decide, by decide⟩ h7 ?_
  refine X_iload 87 (by decide +kernel : decode cX8_isSame 85 = .ok (.iload 4, 2)) rfl rfl rfl ?_
  exact X_icmpne 94 90 (by decide +kernel : decode cX8_isSame 87 = .ok (.if_icmp .ne 7, 3)) rfl rfl (by decide) r8 r9 k1 k2
theorem kX8_isSame_90 {o0 : Option Value} {o1 : Option Value} {o2 : Option Value} {o3 : Option Value} {o4 : Option Value} {o5 : Option Value} {o6 : Option Value} {o7 : Option Value} {o8 : Option Value} {o9 : Option Value} {t0 : Int} (k : X E d fX8_isSame 95 [o0, o1, o2, o3, o4, o5, o6, o7, o8, o9] [J 1, J t0] S (mI M) Q) : X E d fX8_isSame 90 [o0, o1, o2, o3, o4, o5, o6, o7, o8, o9] [J t0] S (mI M) Q := by
  refine X_iconst 91 (by decide +kernel : decode cX8_isSame 90 = .ok (.iconst 1, 1)) rfl rfl ?_
  exact X_goto 95 (by decide +kernel : decode cX8_isSame 91 = .ok (.goto 4, 3)) rfl (by decide) k
theorem kX8_isSame_94 {o0 : Option Value} {o1 : Option Value} {o2 : Option Value} {o3 : Option Value} {o4 : Option Value} {o5 : Option Value} {o6 : Option Value} {o7 : Option Value} {o8 : Option Value} {o9 : Option Value} {t0 : Int} (k : X E d fX8_isSame 95 [o0, o1, o2, o3, o4, o5, o6, o7, o8, o9] [J 0, J t0] S (mI M) Q) : X E d fX8_isSame 94 [o0, o1, o2, o3, o4, o5, o6, o7, o8, o9] [J t0] S (mI M) Q := by
  refine X_iconst 95 (by decide +kernel : decode cX8_isSame 94 = .ok (.iconst 0, 1)) rfl rfl ?_
  exact k
theorem kX8_isSame_95 {o0 : Option Value} {o1 : Option Value} {o2 : Option Value} {o3 : Option Value} {o4 : Option Value} {o5 : Option Value} {o6 : Option Value} {o7 : Option Value} {x8 : Int} {o9 : Option Value} {t0 : Int} {t1 : Int} (k : X E d fX8_isSame 65 [o0, o1, o2, o3, o4, some (J (t1 + t0)), o6, o7, some (J (x8 + 1)), o9] [] S (mI M) Q) : X E d fX8_isSame 95 [o0, o1, o2, o3, o4, o5, o6, o7, some (J x8), o9] [J t0, J t1] S (mI M) Q := by
  refine X_iadd 96 (by decide +kernel : decode cX8_isSame 95 = .ok (.iadd, 1)) rfl rfl ?_
  refine X_istore 98 (by decide +kernel : decode cX8_isSame 96 = .ok (.istore 5, 2)) rfl rfl (Nat.le_of_ble_eq_true rfl) rfl ?_
  refine X_iinc 101 (by decide +kernel : decode cX8_isSame 98 = .ok (.iinc 8 1, 3)) rfl rfl rfl rfl ?_
  exact X_goto 65 (by decide +kernel : decode cX8_isSame 101 = .ok (.goto (-36), 3)) rfl (by decide) k
theorem kX8_isSame_104 {a0 : Nat} {o1 : Option Value} {o2 : Option Value} {o3 : Option Value} {x4 : Int} {x5 : Int} {o6 : Option Value} {o7 : Option Value} {o8 : Option Value} {o9 : Option Value} {b2 : Nat} {b7 : Nat} {M_13 : Nat → Nat → Int} {M_36 : Nat → Nat → Int} (g1 : aKd (aNew S 100 4 4) a0 = 10) (p3 : aP (aNew S 100 4 4) a0 3 = some b2) (g4 : aKd (aNew S 100 4 4) b2 = 102) (r5 : R32 x4) (h6 : (0 : Int) ≤ x4 ∧ x4 < (aN (aNew S 100 4 4) b2 : Int)) (p8 : aP (aNew S 100 4 4) b2 x4.toNat = some b7) (g9 : aKd (aNew S 100 4 4) b7 = 100) (h10 : (0 : Int) ≤ 0 ∧ 0 < (aN (aNew S 100 4 4) b7 : Int)) (g11 : aK (aNew S 100 4 4) (aX S) = 100) (h12 : (0 : Int) ≤ 0 ∧ 0 < (aN (aNew S 100 4 4) (aX S) : Int)) (eM_13 : mW (aU M (aX S) (fun _ => 0)) (aX S) 0 ((aU M (aX S) (fun _ => 0)) b7 0) = M_13) (h21 : (0 : Int) ≤ 1 ∧ 1 < (aN (aNew S 100 4 4) b7 : Int)) (h23 : (0 : Int) ≤ 1 ∧ 1 < (aN (aNew S 100 4 4) (aX S) : Int)) (h25 : (0 : Int) ≤ 2 ∧ 2 < (aN (aNew S 100 4 4) (aX S) : Int)) (h33 : (0 : Int) ≤ 2 ∧ 2 < (aN (aNew S 100 4 4) b7 : Int)) (h35 : (0 : Int) ≤ 3 ∧ 3 < (aN (aNew S 100 4 4) (aX S) : Int)) (eM_36 : mW (mW (mW M_13 (aX S) 1 (M_13 b7 1)) (aX S) 2 x5) (aX S) 3 ((mW (mW M_13 (aX S) 1 (M_13 b7 1)) (aX S) 2 x5) b7 2) = M_36) (k : X E d fX8_isSame 153 [some (.ref a0), o1, o2, o3, some (J x4), some (J x5), some (.ref (aX S)), some (J 0), o8, o9] [] (aNew S 100 4 4) (mI M_36) Q) : X E d fX8_isSame 104 [some (.ref a0), o1, o2, o3, some (J x4), some (J x5), o6, o7, o8, o9] [] S (mI M) Q := by
  refine X_iconst 105 (by decide +kernel : decode cX8_isSame 104 = .ok (.iconst 4, 1)) rfl rfl ?_
  refine X_newI 107 (by decide +kernel : decode cX8_isSame 105 = .ok (.newarray .int, 2)) rfl rfl ⟨by decide, by decide⟩ ?_
  refine X_dup 108 (by decide +kernel : decode cX8_isSame 107 = .ok (.dup, 1)) rfl rfl rfl ?_
  refine X_iconst 109 (by decide +kernel : decode cX8_isSame 108 = .ok (.iconst 0, 1)) rfl rfl ?_
  refine X_aload_n 110 (by decide +kernel : decode cX8_isSame 109 = .ok (.aload_n 0, 1)) rfl rfl rfl ?_
  refine X_getR 113 (by decide +kernel : decode cX8_isSame 110 = .ok (.getfield 19, 3)) rfl rfl (by decide +kernel : aFd 10 19 = some (10, 3, true, false)) g1 p3 ?_
  refine X_iload 115 (by decide +kernel : decode cX8_isSame 113 = .ok (.iload 4, 2)) rfl rfl rfl ?_
  refine X_aald 116 (by decide +kernel : decode cX8_isSame 115 = .ok (.aaload, 1)) rfl rfl g4 r5 h6 p8 ?_
  refine X_iconst 117 (by decide +kernel : decode cX8_isSame 116 = .ok (.iconst 0, 1)) rfl rfl ?_
  refine X_iald 118 (by decide +kernel : decode cX8_isSame 117 = .ok (.iaload, 1)) rfl rfl g9 ⟨by decide, by decide⟩ h10 ?_
  refine X_iast 119 (by decide +kernel : decode cX8_isSame 118 = .ok (.iastore, 1)) rfl rfl g11 ⟨by decide, by decide⟩ h12 ?_
  show X E d fX8_isSame 119 [some (.ref a0), o1, o2, o3, some (J x4), some (J x5), o6, o7, o8, o9] [.ref (aX S)] (aNew S 100 4 4) (mI (mW (aU M (aX S) (fun _ => 0)) (aX S) 0 ((aU M (aX S) (fun _ => 0)) b7 0))) Q
  rw [eM_13]
  refine X_dup 120 (by decide +kernel : decode cX8_isSame 119 = .ok (.dup, 1)) rfl rfl rfl ?_
  refine X_iconst 121 (by decide +kernel : decode cX8_isSame 120 = .ok (.iconst 1, 1)) rfl rfl ?_
  refine X_aload_n 122 (by decide +kernel : decode cX8_isSame 121 = .ok (.aload_n 0, 1)) rfl rfl rfl ?_
  refine X_getR 125 (by decide +kernel : decode cX8_isSame 122 = .ok (.getfield 19, 3)) rfl rfl (by decide +kernel : aFd 10 19 = some (10, 3, true, false)) g1 p3 ?_
  refine X_iload 127 (by decide +kernel : decode cX8_isSame 125 = .ok (.iload 4, 2)) rfl rfl rfl ?_
  refine X_aald 128 (by decide +kernel : decode cX8_isSame 127 = .ok (.aaload, 1)) rfl rfl g4 r5 h6 p8 ?_
  refine X_iconst 129 (by decide +kernel : decode cX8_isSame 128 = .ok (.iconst 1, 1)) rfl rfl ?_
  refine X_iald 130 (by decide +kernel : decode cX8_isSame 129 = .ok (.iaload, 1)) rfl rfl g9 ⟨by decide, by decide⟩ h21 ?_
  refine X_iast 131 (by decide +kernel : decode cX8_isSame 130 = .ok (.iastore, 1)) rfl rfl g11 ⟨by decide, by decide⟩ h23 ?_
  refine X_dup 132 (by decide +kernel : decode cX8_isSame 131 = .ok (.dup, 1)) rfl rfl rfl ?_
  refine X_iconst 133 (by decide +kernel : decode cX8_isSame 132 = .ok (.iconst 2, 1)) rfl rfl ?_
  refine X_iload 135 (by decide +kernel : decode cX8_isSame 133 = .ok (.iload 5, 2)) rfl rfl rfl ?_
  refine X_iast 136 (by decide +kernel : decode cX8_isSame 135 = .ok (.iastore, 1)) rfl rfl g11 ⟨by decide, by decide⟩ h25 ?_
  refine X_dup 137 (by decide +kernel : decode cX8_isSame 136 = .ok (.dup, 1)) rfl rfl rfl ?_
  refine X_iconst 138 (by decide +kernel : decode cX8_isSame 137 = .ok (.iconst 3, 1)) rfl rfl ?_
  refine X_aload_n 139 (by decide +kernel : decode cX8_isSame 138 = .ok (.aload_n 0, 1)) rfl rfl rfl ?_
  refine X_getR 142 (by decide +kernel : decode cX8_isSame 139 = .ok (.getfield 19, 3)) rfl rfl (by decide +kernel : aFd 10 19 = some (10, 3, true, false)) g1 p3 ?_
  refine X_iload 144 (by decide +kernel : decode cX8_isSame 142 = .ok (.iload 4, 2)) rfl rfl rfl ?_
  refine X_aald 145 (by decide +kernel : decode cX8_isSame 144 = .ok (.aaload, 1)) rfl rfl g4 r5 h6 p8 ?_
  refine X_iconst 146 (by decide +kernel : decode cX8_isSame 145 = .ok (.iconst 2, 1)) rfl rfl ?_
  refine X_iald 147 (by decide +kernel : decode cX8_isSame 146 = .ok (.iaload, 1)) rfl rfl g9 ⟨by decide, by decide⟩ h33 ?_
  refine X_iast 148 (by decide +kernel : decode cX8_isSame 147 = .ok (.iastore, 1)) rfl rfl g11 ⟨by decide, by decide⟩ h35 ?_
  show X E d fX8_isSame 148 [some (.ref a0), o1, o2, o3, some (J x4), some (J x5), o6, o7, o8, o9] [.ref (aX S)] (aNew S 100 4 4) (mI (mW (mW (mW M_13 (aX S) 1 (M_13 b7 1)) (aX S) 2 x5) (aX S) 3 ((mW (mW M_13 (aX S) 1 (M_13 b7 1)) (aX S) 2 x5) b7 2))) Q
  rw [eM_36]
  refine X_astore 150 (by decide +kernel : decode cX8_isSame 148 = .ok (.astore 6, 2)) rfl rfl (Nat.le_of_ble_eq_true rfl) rfl ?_
  refine X_iconst 151 (by decide +kernel : decode cX8_isSame 150 = .ok (.iconst 0, 1)) rfl rfl ?_
  refine X_istore 153 (by decide +kernel : decode cX8_isSame 151 = .ok (.istore 7, 2)) rfl rfl (Nat.le_of_ble_eq_true rfl) rfl ?_
  exact k
theorem kX8_isSame_153 {o0 : Option Value} {o1 : Option Value} {o2 : Option Value} {o3 : Option Value} {o4 : Option Value} {o5 : Option Value} {o6 : Option Value} {x7 : Int} {o8 : Option Value} {o9 : Option Value} (r1 : R32 x7) (k1 : 4 ≤ x7 → X E d fX8_isSame 183 [o0, o1, o2, o3, o4, o5, o6, some (J x7), o8, o9] [] S (mI M) Q) (k2 : x7 < 4 → X E d fX8_isSame 159 [o0, o1, o2, o3, o4, o5, o6, some (J x7), o8, o9] [] S (mI M) Q) : X E d fX8_isSame 153 [o0, o1, o2, o3, o4, o5, o6, some (J x7), o8, o9] [] S (mI M) Q := by
  refine X_iload 155 (by decide +kernel : decode cX8_isSame 153 = .ok (.iload 7, 2)) rfl rfl rfl ?_
  refine X_iconst 156 (by decide +kernel : decode cX8_isSame 155 = .ok (.iconst 4, 1)) rfl rfl ?_
  exact X_icmpge 183 159 (by decide +kernel : decode cX8_isSame 156 = .ok (.if_icmp .ge 27, 3)) rfl rfl (by decide) r1 ⟨by decide, by decide⟩ k1 k2
theorem kX8_isSame_159 {o0 : Option Value} {a1 : Nat} {o2 : Option Value} {o3 : Option Value} {x4 : Int} {o5 : Option Value} {o6 : Option Value} {x7 : Int} {o8 : Option Value} {o9 : Option Value} (hd1 : 1 ≤ d) (k : X E (d - 1) fX7_mile 0 [some (.ref a1), some (J x4), some (J x7)] [] S (mI M) (Kr E d fX8_isSame 167 [o0, some (.ref a1), o2, o3, some (J x4), o5, o6, some (J x7), o8, o9] [] Q)) (g1 : aKd S a1 = 9) : X E d fX8_isSame 159 [o0, some (.ref a1), o2, o3, some (J x4), o5, o6, some (J x7), o8, o9] [] S (mI M) Q := by
  refine X_aload_n 160 (by decide +kernel : decode cX8_isSame 159 = .ok (.aload_n 1, 1)) rfl rfl rfl ?_
  refine X_iload 162 (by decide +kernel : decode cX8_isSame 160 = .ok (.iload 4, 2)) rfl rfl rfl ?_
  refine X_iload 164 (by decide +kernel : decode cX8_isSame 162 = .ok (.iload 7, 2)) rfl rfl rfl ?_
  exact X_cv (as := [J x7, J x4]) (rest := []) (by decide +kernel : decode cX8_isSame 164 = .ok (.invokevirtual 111, 3)) (Or.inl ⟨rfl, rfl, rfl⟩) rfl rfl rfl rfl rfl (Nat.le_of_ble_eq_true rfl) (Or.inr (Or.inr (by rw [g1]; rfl))) hd1 k
theorem kX8_isSame_167 {o0 : Option Value} {o1 : Option Value} {o2 : Option Value} {o3 : Option Value} {o4 : Option Value} {o5 : Option Value} {a6 : Nat} {x7 : Int} {o8 : Option Value} {o9 : Option Value} {t0 : Int} (g1 : aKd S a6 = 100) (r2 : R32 x7) (h3 : (0 : Int) ≤ x7 ∧ x7 < (aN S a6 : Int)) (r4 : R32 t0) (r5 : R32 (M a6 x7.toNat)) (k1 : t0 = (M a6 x7.toNat) → X E d fX8_isSame 177 [o0, o1, o2, o3, o4, o5, some (.ref a6), some (J x7), o8, o9] [] S (mI M) Q) (k2 : t0 ≠ (M a6 x7.toNat) → X E d fX8_isSame 175 [o0, o1, o2, o3, o4, o5, some (.ref a6), some (J x7), o8, o9] [] S (mI M) Q) : X E d fX8_isSame 167 [o0, o1, o2, o3, o4, o5, some (.ref a6), some (J x7), o8, o9] [J t0] S (mI M) Q := by
  refine X_aload 169 (by decide +kernel : decode cX8_isSame 167 = .ok (.aload 6, 2)) rfl rfl rfl ?_
  refine X_iload 171 (by decide +kernel : decode cX8_isSame 169 = .ok (.iload 7, 2)) rfl rfl rfl ?_
  refine X_iald 172 (by decide +kernel : decode cX8_isSame 171 = .ok (.iaload, 1)) rfl rfl g1 r2 h3 ?_
  exact X_icmpeq 177 175 (by decide +kernel : decode cX8_isSame 172 = .ok (.if_icmp .eq 5, 3)) rfl rfl (by decide) r4 r5 k1 k2
theorem kX8_isSame_175 {o0 : Option Value} {o1 : Option Value} {o2 : Option Value} {o3 : Option Value} {o4 : Option Value} {o5 : Option Value} {o6 : Option Value} {o7 : Option Value} {o8 : Option Value} {o9 : Option Value} (q : Q (some (some (J 0))) S (mI M)) : X E d fX8_isSame 175 [o0, o1, o2, o3, o4, o5, o6, o7, o8, o9] [] S (mI M) Q := by
  refine X_iconst 176 (by decide +kernel : decode cX8_isSame 175 = .ok (.iconst 0, 1)) rfl rfl ?_
  exact X_iret (by decide +kernel : decode cX8_isSame 176 = .ok (.ireturn, 1)) rfl rfl (by decide) q
theorem kX8_isSame_177 {o0 : Option Value} {o1 : Option Value} {o2 : Option Value} {o3 : Option Value} {o4 : Option Value} {o5 : Option Value} {o6 : Option Value} {x7 : Int} {o8 : Option Value} {o9 : Option Value} (k : X E d fX8_isSame 153 [o0, o1, o2, o3, o4, o5, o6, some (J (x7 + 1)), o8, o9] [] S (mI M) Q) : X E d fX8_isSame 177 [o0, o1, o2, o3, o4, o5, o6, some (J x7), o8, o9] [] S (mI M) Q := by
  refine X_iinc 180 (by decide +kernel : decode cX8_isSame 177 = .ok (.iinc 7 1, 3)) rfl rfl rfl rfl ?_
  exact X_goto 153 (by decide +kernel : decode cX8_isSame 180 = .ok (.goto (-27), 3)) rfl (by decide) k
theorem kX8_isSame_183 {a0 : Nat} {o1 : Option Value} {o2 : Option Value} {o3 : Option Value} {x4 : Int} {o5 : Option Value} {o6 : Option Value} {o7 : Option Value} {o8 : Option Value} {o9 : Option Value} {b2 : Nat} {b7 : Nat} (g1 : aKd S a0 = 10) (p3 : aP S a0 3 = some b2) (g4 : aKd S b2 = 102) (r5 : R32 x4) (h6 : (0 : Int) ≤ x4 ∧ x4 < (aN S b2 : Int)) (p8 : aP S b2 x4.toNat = some b7) (g9 : aKd S b7 = 100) (h10 : (0 : Int) ≤ 1 ∧ 1 < (aN S b7 : Int)) (hd1 : 1 ≤ d) (k : X E (d - 1) fX8_least 0 [some (.ref a0), some (J (-1)), none, none, none, none, none] [] S (mI M) (Kr E d fX8_isSame 197 [some (.ref a0), o1, o2, o3, some (J x4), o5, o6, o7, o8, o9] [J (M b7 1)] Q)) : X E d fX8_isSame 183 [some (.ref a0), o1, o2, o3, some (J x4), o5, o6, o7, o8, o9] [] S (mI M) Q := by
  refine X_aload_n 184 (by decide +kernel : decode cX8_isSame 183 = .ok (.aload_n 0, 1)) rfl rfl rfl ?_
  refine X_getR 187 (by decide +kernel : decode cX8_isSame 184 = .ok (.getfield 19, 3)) rfl rfl (by decide +kernel : aFd 10 19 = some (10, 3, true, false)) g1 p3 ?_
  refine X_iload 189 (by decide +kernel : decode cX8_isSame 187 = .ok (.iload 4, 2)) rfl rfl rfl ?_
  refine X_aald 190 (by decide +kernel : decode cX8_isSame 189 = .ok (.aaload, 1)) rfl rfl g4 r5 h6 p8 ?_
  refine X_iconst 191 (by decide +kernel : decode cX8_isSame 190 = .ok (.iconst 1, 1)) rfl rfl ?_
  refine X_iald 192 (by decide +kernel : decode cX8_isSame 191 = .ok (.iaload, 1)) rfl rfl g9 ⟨by decide, by decide⟩ h10 ?_
  refine X_aload_n 193 (by decide +kernel : decode cX8_isSame 192 = .ok (.aload_n 0, 1)) rfl rfl rfl ?_
  refine X_iconst 194 (by decide +kernel : decode cX8_isSame 193 = .ok (.iconst (-1), 1)) rfl rfl ?_
  exact X_cv (as := [J (-1)]) (rest := [J (M b7 1)]) (by decide +kernel : decode cX8_isSame 194 = .ok (.invokevirtual 40, 3)) (Or.inl ⟨rfl, rfl, rfl⟩) rfl rfl rfl rfl rfl (Nat.le_of_ble_eq_true rfl) (Or.inr (Or.inr (by rw [g1]; rfl))) hd1 k
theorem kX8_isSame_197 {o0 : Option Value} {o1 : Option Value} {o2 : Option Value} {o3 : Option Value} {o4 : Option Value} {o5 : Option Value} {o6 : Option Value} {o7 : Option Value} {o8 : Option Value} {o9 : Option Value} {t0 : Int} {t1 : Int} (r1 : R32 t1) (r2 : R32 t0) (k1 : t1 ≠ t0 → X E d fX8_isSame 203 [o0, o1, o2, o3, o4, o5, o6, o7, o8, o9] [] S (mI M) Q) (k2 : t1 = t0 → X E d fX8_isSame 200 [o0, o1, o2, o3, o4, o5, o6, o7, o8, o9] [] S (mI M) Q) : X E d fX8_isSame 197 [o0, o1, o2, o3, o4, o5, o6, o7, o8, o9] [J t0, J t1] S (mI M) Q := by
  exact X_icmpne 203 200 (by decide +kernel : decode cX8_isSame 197 = .ok (.if_icmp .ne 6, 3)) rfl rfl (by decide) r1 r2 k1 k2
theorem kX8_isSame_200 {o0 : Option Value} {o1 : Option Value} {o2 : Option Value} {o3 : Option Value} {x4 : Int} {o5 : Option Value} {o6 : Option Value} {o7 : Option Value} {o8 : Option Value} {o9 : Option Value} (k : X E d fX8_isSame 203 [o0, o1, o2, some (J x4), some (J x4), o5, o6, o7, o8, o9] [] S (mI M) Q) : X E d fX8_isSame 200 [o0, o1, o2, o3, some (J x4), o5, o6, o7, o8, o9] [] S (mI M) Q := by
  refine X_iload 202 (by decide +kernel : decode cX8_isSame 200 = .ok (.iload 4, 2)) rfl rfl rfl ?_
  refine X_istore_n 203 (by decide +kernel : decode cX8_isSame 202 = .ok (.istore_n 3, 1)) rfl rfl (Nat.le_of_ble_eq_true rfl) rfl ?_
  exact k
theorem kX8_isSame_203 {o0 : Option Value} {o1 : Option Value} {o2 : Option Value} {o3 : Option Value} {x4 : Int} {o5 : Option Value} {o6 : Option Value} {o7 : Option Value} {o8 : Option Value} {o9 : Option Value} (k : X E d fX8_isSame 43 [o0, o1, o2, o3, some (J (x4 + (-1))), o5, o6, o7, o8, o9] [] S (mI M) Q) : X E d fX8_isSame 203 [o0, o1, o2, o3, some (J x4), o5, o6, o7, o8, o9] [] S (mI M) Q := by
  refine X_iinc 206 (by decide +kernel : decode cX8_isSame 203 = .ok (.iinc 4 (-1), 3)) rfl rfl rfl rfl ?_
  exact X_goto 43 (by decide +kernel : decode cX8_isSame 206 = .ok (.goto (-163), 3)) rfl (by decide) k
theorem kX8_isSame_209 {o0 : Option Value} {o1 : Option Value} {o2 : Option Value} {o3 : Option Value} {o4 : Option Value} {o5 : Option Value} {o6 : Option Value} {o7 : Option Value} {o8 : Option Value} {o9 : Option Value} (k : X E d fX8_isSame 215 [o0, o1, o2, o3, some (J 0), some (J 0), o6, o7, o8, o9] [] S (mI M) Q) : X E d fX8_isSame 209 [o0, o1, o2, o3, o4, o5, o6, o7, o8, o9] [] S (mI M) Q := by
  refine X_iconst 210 (by decide +kernel : decode cX8_isSame 209 = .ok (.iconst 0, 1)) rfl rfl ?_
  refine X_istore 212 (by decide +kernel : decode cX8_isSame 210 = .ok (.istore 4, 2)) rfl rfl (Nat.le_of_ble_eq_true rfl) rfl ?_
  refine X_iconst 213 (by decide +kernel : decode cX8_isSame 212 = .ok (.iconst 0, 1)) rfl rfl ?_
  refine X_istore 215 (by decide +kernel : decode cX8_isSame 213 = .ok (.istore 5, 2)) rfl rfl (Nat.le_of_ble_eq_true rfl) rfl ?_
  exact k
theorem kX8_isSame_215 {a0 : Nat} {o1 : Option Value} {o2 : Option Value} {o3 : Option Value} {o4 : Option Value} {x5 : Int} {o6 : Option Value} {o7 : Option Value} {o8 : Option Value} {o9 : Option Value} {b2 : Nat} (g1 : aKd S a0 = 10) (p3 : aP S a0 2 = some b2) (g4 : aKd S b2 = 100 ∨ aKd S b2 = 101 ∨ aKd S b2 = 102) (r5 : R32 x5) (r6 : R32 ((aN S b2 : Int))) (k1 : (aN S b2 : Int) ≤ x5 → X E d fX8_isSame 344 [some (.ref a0), o1, o2, o3, o4, some (J x5), o6, o7, o8, o9] [] S (mI M) Q) (k2 : x5 < (aN S b2 : Int) → X E d fX8_isSame 225 [some (.ref a0), o1, o2, o3, o4, some (J x5), o6, o7, o8, o9] [] S (mI M) Q) : X E d fX8_isSame 215 [some (.ref a0), o1, o2, o3, o4, some (J x5), o6, o7, o8, o9] [] S (mI M) Q := by
  refine X_iload 217 (by decide +kernel : decode cX8_isSame 215 = .ok (.iload 5, 2)) rfl rfl rfl ?_
  refine X_aload_n 218 (by decide +kernel : decode cX8_isSame 217 = .ok (.aload_n 0, 1)) rfl rfl rfl ?_
  refine X_getR 221 (by decide +kernel : decode cX8_isSame 218 = .ok (.getfield 15, 3)) rfl rfl (by decide +kernel : aFd 10 15 = some (10, 2, true, false)) g1 p3 ?_
  refine X_alen 222 (by decide +kernel : decode cX8_isSame 221 = .ok (.arraylength, 1)) rfl rfl g4 ?_
  exact X_icmpge 344 225 (by decide +kernel : decode cX8_isSame 222 = .ok (.if_icmp .ge 122, 3)) rfl rfl (by decide) r5 r6 k1 k2
theorem kX8_isSame_225 {a0 : Nat} {o1 : Option Value} {o2 : Option Value} {o3 : Option Value} {x4 : Int} {x5 : Int} {o6 : Option Value} {o7 : Option Value} {o8 : Option Value} {o9 : Option Value} {b2 : Nat} {b7 : Nat} {M_13 : Nat → Nat → Int} (g1 : aKd (aNew S 100 6 6) a0 = 10) (p3 : aP (aNew S 100 6 6) a0 2 = some b2) (g4 : aKd (aNew S 100 6 6) b2 = 102) (r5 : R32 x5) (h6 : (0 : Int) ≤ x5 ∧ x5 < (aN (aNew S 100 6 6) b2 : Int)) (p8 : aP (aNew S 100 6 6) b2 x5.toNat = some b7) (g9 : aKd (aNew S 100 6 6) b7 = 100) (h10 : (0 : Int) ≤ 0 ∧ 0 < (aN (aNew S 100 6 6) b7 : Int)) (g11 : aK (aNew S 100 6 6) (aX S) = 100) (h12 : (0 : Int) ≤ 0 ∧ 0 < (aN (aNew S 100 6 6) (aX S) : Int)) (eM_13 : mW (aU M (aX S) (fun _ => 0)) (aX S) 0 ((aU M (aX S) (fun _ => 0)) b7 0) = M_13) (h21 : (0 : Int) ≤ 1 ∧ 1 < (aN (aNew S 100 6 6) b7 : Int)) (h23 : (0 : Int) ≤ 1 ∧ 1 < (aN (aNew S 100 6 6) (aX S) : Int)) (h25 : (0 : Int) ≤ 2 ∧ 2 < (aN (aNew S 100 6 6) (aX S) : Int)) (hd1 : 1 ≤ d) (k : X E (d - 1) fX8_least 0 [some (.ref a0), some (J x5), none, none, none, none, none] [] (aNew S 100 6 6) (mI (mW (mW M_13 (aX S) 1 (M_13 b7 1)) (aX S) 2 x4)) (Kr E d fX8_isSame 266 [some (.ref a0), o1, o2, o3, some (J x4), some (J x5), o6, o7, o8, o9] [J 3, .ref (aX S), .ref (aX S)] Q)) : X E d fX8_isSame 225 [some (.ref a0), o1, o2, o3, some (J x4), some (J x5), o6, o7, o8, o9] [] S (mI M) Q := by
  refine X_bipush 227 (6) (by decide +kernel : decode cX8_isSame 225 = .ok (.bipush 6, 2)) rfl rfl (by decide +kernel) ?_
  refine X_newI 229 (by decide +kernel : decode cX8_isSame 227 = .ok (.newarray .int, 2)) rfl rfl ⟨by decide, by decide⟩ ?_
  refine X_dup 230 (by decide +kernel : decode cX8_isSame 229 = .ok (.dup, 1)) rfl rfl rfl ?_
  refine X_iconst 231 (by decide +kernel : decode cX8_isSame 230 = .ok (.iconst 0, 1)) rfl rfl ?_
  refine X_aload_n 232 (by decide +kernel : decode cX8_isSame 231 = .ok (.aload_n 0, 1)) rfl rfl rfl ?_
  refine X_getR 235 (by decide +kernel : decode cX8_isSame 232 = .ok (.getfield 15, 3)) rfl rfl (by decide +kernel : aFd 10 15 = some (10, 2, true, false)) g1 p3 ?_
  refine X_iload 237 (by decide +kernel : decode cX8_isSame 235 = .ok (.iload 5, 2)) rfl rfl rfl ?_
  refine X_aald 238 (by decide +kernel : decode cX8_isSame 237 = .ok (.aaload, 1)) rfl rfl g4 r5 h6 p8 ?_
  refine X_iconst 239 (by decide +kernel : decode cX8_isSame 238 = .ok (.iconst 0, 1)) rfl rfl ?_
  refine X_iald 240 (by decide +kernel : decode cX8_isSame 239 = .ok (.iaload, 1)) rfl rfl g9 ⟨by decide, by decide⟩ h10 ?_
  refine X_iast 241 (by decide +kernel : decode cX8_isSame 240 = .ok (.iastore, 1)) rfl rfl g11 ⟨by decide, by decide⟩ h12 ?_
  show X E d fX8_isSame 241 [some (.ref a0), o1, o2, o3, some (J x4), some (J x5), o6, o7, o8, o9] [.ref (aX S)] (aNew S 100 6 6) (mI (mW (aU M (aX S) (fun _ => 0)) (aX S) 0 ((aU M (aX S) (fun _ => 0)) b7 0))) Q
  rw [eM_13]
  refine X_dup 242 (by decide +kernel : decode cX8_isSame 241 = .ok (.dup, 1)) rfl rfl rfl ?_
  refine X_iconst 243 (by decide +kernel : decode cX8_isSame 242 = .ok (.iconst 1, 1)) rfl rfl ?_
  refine X_aload_n 244 (by decide +kernel : decode cX8_isSame 243 = .ok (.aload_n 0, 1)) rfl rfl rfl ?_
  refine X_getR 247 (by decide +kernel : decode cX8_isSame 244 = .ok (.getfield 15, 3)) rfl rfl (by decide +kernel : aFd 10 15 = some (10, 2, true, false)) g1 p3 ?_
  refine X_iload 249 (by decide +kernel : decode cX8_isSame 247 = .ok (.iload 5, 2)) rfl rfl rfl ?_
  refine X_aald 250 (by decide +kernel : decode cX8_isSame 249 = .ok (.aaload, 1)) rfl rfl g4 r5 h6 p8 ?_
  refine X_iconst 251 (by decide +kernel : decode cX8_isSame 250 = .ok (.iconst 1, 1)) rfl rfl ?_
  refine X_iald 252 (by decide +kernel : decode cX8_isSame 251 = .ok (.iaload, 1)) rfl rfl g9 ⟨by decide, by decide⟩ h21 ?_
  refine X_iast 253 (by decide +kernel : decode cX8_isSame 252 = .ok (.iastore, 1)) rfl rfl g11 ⟨by decide, by decide⟩ h23 ?_
  refine X_dup 254 (by decide +kernel : decode cX8_isSame 253 = .ok (.dup, 1)) rfl rfl rfl ?_
  refine X_iconst 255 (by decide +kernel : decode cX8_isSame 254 = .ok (.iconst 2, 1)) rfl rfl ?_
  refine X_iload 257 (by decide +kernel : decode cX8_isSame 255 = .ok (.iload 4, 2)) rfl rfl rfl ?_
  refine X_iast 258 (by decide +kernel : decode cX8_isSame 257 = .ok (.iastore, 1)) rfl rfl g11 ⟨by decide, by decide⟩ h25 ?_
  refine X_dup 259 (by decide +kernel : decode cX8_isSame 258 = .ok (.dup, 1)) rfl rfl rfl ?_
  refine X_iconst 260 (by decide +kernel : decode cX8_isSame 259 = .ok (.iconst 3, 1)) rfl rfl ?_
  refine X_aload_n 261 (by decide +kernel : decode cX8_isSame 260 = .ok (.aload_n 0, 1)) rfl rfl rfl ?_
  refine X_iload 263 (by decide +kernel : decode cX8_isSame 261 = .ok (.iload 5, 2)) rfl rfl rfl ?_
  exact X_cv (as := [J x5]) (rest := [J 3, .ref (aX S), .ref (aX S)]) (by decide +kernel : decode cX8_isSame 263 = .ok (.invokevirtual 40, 3)) (Or.inl ⟨rfl, rfl, rfl⟩) rfl rfl rfl rfl rfl (Nat.le_of_ble_eq_true rfl) (Or.inr (Or.inr (by rw [g1]; rfl))) hd1 k
theorem kX8_isSame_266 {a0 : Nat} {o1 : Option Value} {o2 : Option Value} {o3 : Option Value} {o4 : Option Value} {x5 : Int} {o6 : Option Value} {o7 : Option Value} {o8 : Option Value} {o9 : Option Value} {t0 : Int} {t1 : Int} {u2 : Nat} {u3 : Nat} (g1 : aK S u2 = 100) (r2 : R32 t1) (h3 : (0 : Int) ≤ t1 ∧ t1 < (aN S u2 : Int)) (hd1 : 1 ≤ d) (k : X E (d - 1) fX8_broken 0 [some (.ref a0), some (J x5), none, none, none, none, none] [] S (mI (mW M u2 t1.toNat t0)) (Kr E d fX8_isSame 275 [some (.ref a0), o1, o2, o3, o4, some (J x5), o6, o7, o8, o9] [J 4, .ref u3, .ref u3] Q)) (g4 : aKd S a0 = 10) : X E d fX8_isSame 266 [some (.ref a0), o1, o2, o3, o4, some (J x5), o6, o7, o8, o9] [J t0, J t1, .ref u2, .ref u3] S (mI M) Q := by
  refine X_iast 267 (by decide +kernel : decode cX8_isSame 266 = .ok (.iastore, 1)) rfl rfl g1 r2 h3 ?_
  refine X_dup 268 (by decide +kernel : decode cX8_isSame 267 = .ok (.dup, 1)) rfl rfl rfl ?_
  refine X_iconst 269 (by decide +kernel : decode cX8_isSame 268 = .ok (.iconst 4, 1)) rfl rfl ?_
  refine X_aload_n 270 (by decide +kernel : decode cX8_isSame 269 = .ok (.aload_n 0, 1)) rfl rfl rfl ?_
  refine X_iload 272 (by decide +kernel : decode cX8_isSame 270 = .ok (.iload 5, 2)) rfl rfl rfl ?_
  exact X_cv (as := [J x5]) (rest := [J 4, .ref u3, .ref u3]) (by decide +kernel : decode cX8_isSame 272 = .ok (.invokevirtual 53, 3)) (Or.inl ⟨rfl, rfl, rfl⟩) rfl rfl rfl rfl rfl (Nat.le_of_ble_eq_true rfl) (Or.inr (Or.inr (by rw [g4]; rfl))) hd1 k
theorem kX8_isSame_275 {a0 : Nat} {o1 : Option Value} {o2 : Option Value} {o3 : Option Value} {o4 : Option Value} {x5 : Int} {o6 : Option Value} {o7 : Option Value} {o8 : Option Value} {o9 : Option Value} {t0 : Int} {t1 : Int} {u2 : Nat} {u3 : Nat} {b5 : Nat} {b10 : Nat} (g1 : aK S u2 = 100) (r2 : R32 t1) (h3 : (0 : Int) ≤ t1 ∧ t1 < (aN S u2 : Int)) (g4 : aKd S a0 = 10) (p6 : aP S a0 2 = some b5) (g7 : aKd S b5 = 102) (r8 : R32 x5) (h9 : (0 : Int) ≤ x5 ∧ x5 < (aN S b5 : Int)) (p11 : aP S b5 x5.toNat = some b10) (g12 : aKd S b10 = 100) (h13 : (0 : Int) ≤ 2 ∧ 2 < (aN S b10 : Int)) (g14 : aK S u3 = 100) (h15 : (0 : Int) ≤ 5 ∧ 5 < (aN S u3 : Int)) (k : X E d fX8_isSame 293 [some (.ref a0), o1, o2, o3, o4, some (J x5), some (.ref u3), some (J 0), o8, o9] [] S (mI (mW (mW M u2 t1.toNat t0) u3 5 ((mW M u2 t1.toNat t0) b10 2))) Q) : X E d fX8_isSame 275 [some (.ref a0), o1, o2, o3, o4, some (J x5), o6, o7, o8, o9] [J t0, J t1, .ref u2, .ref u3] S (mI M) Q := by
  refine X_iast 276 (by decide +kernel : decode cX8_isSame 275 = .ok (.iastore, 1)) rfl rfl g1 r2 h3 ?_
  refine X_dup 277 (by decide +kernel : decode cX8_isSame 276 = .ok (.dup, 1)) rfl rfl rfl ?_
  refine X_iconst 278 (by decide +kernel : decode cX8_isSame 277 = .ok (.iconst 5, 1)) rfl rfl ?_
  refine X_aload_n 279 (by decide +kernel : decode cX8_isSame 278 = .ok (.aload_n 0, 1)) rfl rfl rfl ?_
  refine X_getR 282 (by decide +kernel : decode cX8_isSame 279 = .ok (.getfield 15, 3)) rfl rfl (by decide +kernel : aFd 10 15 = some (10, 2, true, false)) g4 p6 ?_
  refine X_iload 284 (by decide +kernel : decode cX8_isSame 282 = .ok (.iload 5, 2)) rfl rfl rfl ?_
  refine X_aald 285 (by decide +kernel : decode cX8_isSame 284 = .ok (.aaload, 1)) rfl rfl g7 r8 h9 p11 ?_
  refine X_iconst 286 (by decide +kernel : decode cX8_isSame 285 = .ok (.iconst 2, 1)) rfl rfl ?_
  refine X_iald 287 (by decide +kernel : decode cX8_isSame 286 = .ok (.iaload, 1)) rfl rfl g12 ⟨by decide, by decide⟩ h13 ?_
  refine X_iast 288 (by decide +kernel : decode cX8_isSame 287 = .ok (.iastore, 1)) rfl rfl g14 ⟨by decide, by decide⟩ h15 ?_
  refine X_astore 290 (by decide +kernel : decode cX8_isSame 288 = .ok (.astore 6, 2)) rfl rfl (Nat.le_of_ble_eq_true rfl) rfl ?_
  refine X_iconst 291 (by decide +kernel : decode cX8_isSame 290 = .ok (.iconst 0, 1)) rfl rfl ?_
  refine X_istore 293 (by decide +kernel : decode cX8_isSame 291 = .ok (.istore 7, 2)) rfl rfl (Nat.le_of_ble_eq_true rfl) rfl ?_
  exact k
theorem kX8_isSame_293 {o0 : Option Value} {o1 : Option Value} {o2 : Option Value} {o3 : Option Value} {o4 : Option Value} {o5 : Option Value} {o6 : Option Value} {x7 : Int} {o8 : Option Value} {o9 : Option Value} (r1 : R32 x7) (k1 : 6 ≤ x7 → X E d fX8_isSame 324 [o0, o1, o2, o3, o4, o5, o6, some (J x7), o8, o9] [] S (mI M) Q) (k2 : x7 < 6 → X E d fX8_isSame 300 [o0, o1, o2, o3, o4, o5, o6, some (J x7), o8, o9] [] S (mI M) Q) : X E d fX8_isSame 293 [o0, o1, o2, o3, o4, o5, o6, some (J x7), o8, o9] [] S (mI M) Q := by
  refine X_iload 295 (by decide +kernel : decode cX8_isSame 293 = .ok (.iload 7, 2)) rfl rfl rfl ?_
  refine X_bipush 297 (6) (by decide +kernel : decode cX8_isSame 295 = .ok (.bipush 6, 2)) rfl rfl (by decide +kernel) ?_
  exact X_icmpge 324 300 (by decide +kernel : decode cX8_isSame 297 = .ok (.if_icmp .ge 27, 3)) rfl rfl (by decide) r1 ⟨by decide, by decide⟩ k1 k2
theorem kX8_isSame_300 {o0 : Option Value} {a1 : Nat} {o2 : Option Value} {o3 : Option Value} {o4 : Option Value} {x5 : Int} {o6 : Option Value} {x7 : Int} {o8 : Option Value} {o9 : Option Value} (hd1 : 1 ≤ d) (k : X E (d - 1) fX7_stretch 0 [some (.ref a1), some (J x5), some (J x7)] [] S (mI M) (Kr E d fX8_isSame 308 [o0, some (.ref a1), o2, o3, o4, some (J x5), o6, some (J x7), o8, o9] [] Q)) (g1 : aKd S a1 = 9) : X E d fX8_isSame 300 [o0, some (.ref a1), o2, o3, o4, some (J x5), o6, some (J x7), o8, o9] [] S (mI M) Q := by
  refine X_aload_n 301 (by decide +kernel : decode cX8_isSame 300 = .ok (.aload_n 1, 1)) rfl rfl rfl ?_
  refine X_iload 303 (by decide +kernel : decode cX8_isSame 301 = .ok (.iload 5, 2)) rfl rfl rfl ?_
  refine X_iload 305 (by decide +kernel : decode cX8_isSame 303 = .ok (.iload 7, 2)) rfl rfl rfl ?_
  exact X_cv (as := [J x7, J x5]) (rest := []) (by decide +kernel : decode cX8_isSame 305 = .ok (.invokevirtual 114, 3)) (Or.inl ⟨rfl, rfl, rfl⟩) rfl rfl rfl rfl rfl (Nat.le_of_ble_eq_true rfl) (Or.inr (Or.inr (by rw [g1]; rfl))) hd1 k
theorem kX8_isSame_308 {o0 : Option Value} {o1 : Option Value} {o2 : Option Value} {o3 : Option Value} {o4 : Option Value} {o5 : Option Value} {a6 : Nat} {x7 : Int} {o8 : Option Value} {o9 : Option Value} {t0 : Int} (g1 : aKd S a6 = 100) (r2 : R32 x7) (h3 : (0 : Int) ≤ x7 ∧ x7 < (aN S a6 : Int)) (r4 : R32 t0) (r5 : R32 (M a6 x7.toNat)) (k1 : t0 = (M a6 x7.toNat) → X E d fX8_isSame 318 [o0, o1, o2, o3, o4, o5, some (.ref a6), some (J x7), o8, o9] [] S (mI M) Q) (k2 : t0 ≠ (M a6 x7.toNat) → X E d fX8_isSame 316 [o0, o1, o2, o3, o4, o5, some (.ref a6), some (J x7), o8, o9] [] S (mI M) Q) : X E d fX8_isSame 308 [o0, o1, o2, o3, o4, o5, some (.ref a6), some (J x7), o8, o9] [J t0] S (mI M) Q := by
  refine X_aload 310 (by decide +kernel : decode cX8_isSame 308 = .ok (.aload 6, 2)) rfl rfl rfl ?_
  refine X_iload 312 (by decide +kernel : decode cX8_isSame 310 = .ok (.iload 7, 2)) rfl rfl rfl ?_
  refine X_iald 313 (by decide +kernel : decode cX8_isSame 312 = .ok (.iaload, 1)) rfl rfl g1 r2 h3 ?_
  exact X_icmpeq 318 316 (by decide +kernel : decode cX8_isSame 313 = .ok (.if_icmp .eq 5, 3)) rfl rfl (by decide) r4 r5 k1 k2
theorem kX8_isSame_316 {o0 : Option Value} {o1 : Option Value} {o2 : Option Value} {o3 : Option Value} {o4 : Option Value} {o5 : Option Value} {o6 : Option Value} {o7 : Option Value} {o8 : Option Value} {o9 : Option Value} (q : Q (some (some (J 0))) S (mI M)) : X E d fX8_isSame 316 [o0, o1, o2, o3, o4, o5, o6, o7, o8, o9] [] S (mI M) Q := by
  refine X_iconst 317 (by decide +kernel : decode cX8_isSame 316 = .ok (.iconst 0, 1)) rfl rfl ?_
  exact X_iret (by decide +kernel : decode cX8_isSame 317 = .ok (.ireturn, 1)) rfl rfl (by decide) q
theorem kX8_isSame_318 {o0 : Option Value} {o1 : Option Value} {o2 : Option Value} {o3 : Option Value} {o4 : Option Value} {o5 : Option Value} {o6 : Option Value} {x7 : Int} {o8 : Option Value} {o9 : Option Value} (k : X E d fX8_isSame 293 [o0, o1, o2, o3, o4, o5, o6, some (J (x7 + 1)), o8, o9] [] S (mI M) Q) : X E d fX8_isSame 318 [o0, o1, o2, o3, o4, o5, o6, some (J x7), o8, o9] [] S (mI M) Q := by
  refine X_iinc 321 (by decide +kernel : decode cX8_isSame 318 = .ok (.iinc 7 1, 3)) rfl rfl rfl rfl ?_
  exact X_goto 293 (by decide +kernel : decode cX8_isSame 321 = .ok (.goto (-28), 3)) rfl (by decide) k
theorem kX8_isSame_324 {a0 : Nat} {o1 : Option Value} {o2 : Option Value} {o3 : Option Value} {x4 : Int} {x5 : Int} {o6 : Option Value} {o7 : Option Value} {o8 : Option Value} {o9 : Option Value} {b2 : Nat} {b7 : Nat} (g1 : aKd S a0 = 10) (p3 : aP S a0 2 = some b2) (g4 : aKd S b2 = 102) (r5 : R32 x5) (h6 : (0 : Int) ≤ x5 ∧ x5 < (aN S b2 : Int)) (p8 : aP S b2 x5.toNat = some b7) (g9 : aKd S b7 = 100) (h10 : (0 : Int) ≤ 0 ∧ 0 < (aN S b7 : Int)) (k : X E d fX8_isSame 215 [some (.ref a0), o1, o2, o3, some (J (x4 + (M b7 0))), some (J (x5 + 1)), o6, o7, o8, o9] [] S (mI M) Q) : X E d fX8_isSame 324 [some (.ref a0), o1, o2, o3, some (J x4), some (J x5), o6, o7, o8, o9] [] S (mI M) Q := by
  refine X_iload 326 (by decide +kernel : decode cX8_isSame 324 = .ok (.iload 4, 2)) rfl rfl rfl ?_
  refine X_aload_n 327 (by decide +kernel : decode cX8_isSame 326 = .ok (.aload_n 0, 1)) rfl rfl rfl ?_
  refine X_getR 330 (by decide +kernel : decode cX8_isSame 327 = .ok (.getfield 15, 3)) rfl rfl (by decide +kernel : aFd 10 15 = some (10, 2, true, false)) g1 p3 ?_
  refine X_iload 332 (by decide +kernel : decode cX8_isSame 330 = .ok (.iload 5, 2)) rfl rfl rfl ?_
  refine X_aald 333 (by decide +kernel : decode cX8_isSame 332 = .ok (.aaload, 1)) rfl rfl g4 r5 h6 p8 ?_
  refine X_iconst 334 (by decide +kernel : decode cX8_isSame 333 = .ok (.iconst 0, 1)) rfl rfl ?_
  refine X_iald 335 (by decide +kernel : decode cX8_isSame 334 = .ok (.iaload, 1)) rfl rfl g9 ⟨by decide, by decide⟩ h10 ?_
  refine X_iadd 336 (by decide +kernel : decode cX8_isSame 335 = .ok (.iadd, 1)) rfl rfl ?_
  refine X_istore 338 (by decide +kernel : decode cX8_isSame 336 = .ok (.istore 4, 2)) rfl rfl (Nat.le_of_ble_eq_true rfl) rfl ?_
  refine X_iinc 341 (by decide +kernel : decode cX8_isSame 338 = .ok (.iinc 5 1, 3)) rfl rfl rfl rfl ?_
  exact X_goto 215 (by decide +kernel : decode cX8_isSame 341 = .ok (.goto (-126), 3)) rfl (by decide) k
theorem kX8_isSame_344 {o0 : Option Value} {o1 : Option Value} {o2 : Option Value} {o3 : Option Value} {o4 : Option Value} {o5 : Option Value} {o6 : Option Value} {o7 : Option Value} {o8 : Option Value} {o9 : Option Value} (k : X E d fX8_isSame 347 [o0, o1, o2, o3, o4, some (J 0), o6, o7, o8, o9] [] S (mI M) Q) : X E d fX8_isSame 344 [o0, o1, o2, o3, o4, o5, o6, o7, o8, o9] [] S (mI M) Q := by
  refine X_iconst 345 (by decide +kernel : decode cX8_isSame 344 = .ok (.iconst 0, 1)) rfl rfl ?_
  refine X_istore 347 (by decide +kernel : decode cX8_isSame 345 = .ok (.istore 5, 2)) rfl rfl (Nat.le_of_ble_eq_true rfl) rfl ?_
  exact k
theorem kX8_isSame_347 {a0 : Nat} {o1 : Option Value} {o2 : Option Value} {o3 : Option Value} {o4 : Option Value} {x5 : Int} {o6 : Option Value} {o7 : Option Value} {o8 : Option Value} {o9 : Option Value} {b2 : Nat} (g1 : aKd S a0 = 10) (p3 : aP S a0 4 = some b2) (g4 : aKd S b2 = 100 ∨ aKd S b2 = 101 ∨ aKd S b2 = 102) (r5 : R32 x5) (r6 : R32 ((aN S b2 : Int))) (k1 : (aN S b2 : Int) ≤ x5 → X E d fX8_isSame 588 [some (.ref a0), o1, o2, o3, o4, some (J x5), o6, o7, o8, o9] [] S (mI M) Q) (k2 : x5 < (aN S b2 : Int) → X E d fX8_isSame 357 [some (.ref a0), o1, o2, o3, o4, some (J x5), o6, o7, o8, o9] [] S (mI M) Q) : X E d fX8_isSame 347 [some (.ref a0), o1, o2, o3, o4, some (J x5), o6, o7, o8, o9] [] S (mI M) Q := by
  refine X_iload 349 (by decide +kernel : decode cX8_isSame 347 = .ok (.iload 5, 2)) rfl rfl rfl ?_
  refine X_aload_n 350 (by decide +kernel : decode cX8_isSame 349 = .ok (.aload_n 0, 1)) rfl rfl rfl ?_
  refine X_getR 353 (by decide +kernel : decode cX8_isSame 350 = .ok (.getfield 22, 3)) rfl rfl (by decide +kernel : aFd 10 22 = some (10, 4, true, false)) g1 p3 ?_
  refine X_alen 354 (by decide +kernel : decode cX8_isSame 353 = .ok (.arraylength, 1)) rfl rfl g4 ?_
  exact X_icmpge 588 357 (by decide +kernel : decode cX8_isSame 354 = .ok (.if_icmp .ge 234, 3)) rfl rfl (by decide) r5 r6 k1 k2
theorem kX8_isSame_357 {o0 : Option Value} {o1 : Option Value} {o2 : Option Value} {o3 : Option Value} {o4 : Option Value} {o5 : Option Value} {o6 : Option Value} {o7 : Option Value} {o8 : Option Value} {o9 : Option Value} (k : X E d fX8_isSame 363 [o0, o1, o2, o3, o4, o5, some (J 0), some (J 0), o8, o9] [] S (mI M) Q) : X E d fX8_isSame 357 [o0, o1, o2, o3, o4, o5, o6, o7, o8, o9] [] S (mI M) Q := by
  refine X_iconst 358 (by decide +kernel : decode cX8_isSame 357 = .ok (.iconst 0, 1)) rfl rfl ?_
  refine X_istore 360 (by decide +kernel : decode cX8_isSame 358 = .ok (.istore 6, 2)) rfl rfl (Nat.le_of_ble_eq_true rfl) rfl ?_
  refine X_iconst 361 (by decide +kernel : decode cX8_isSame 360 = .ok (.iconst 0, 1)) rfl rfl ?_
  refine X_istore 363 (by decide +kernel : decode cX8_isSame 361 = .ok (.istore 7, 2)) rfl rfl (Nat.le_of_ble_eq_true rfl) rfl ?_
  exact k
theorem kX8_isSame_363 {a0 : Nat} {o1 : Option Value} {o2 : Option Value} {o3 : Option Value} {o4 : Option Value} {o5 : Option Value} {o6 : Option Value} {x7 : Int} {o8 : Option Value} {o9 : Option Value} {b2 : Nat} (g1 : aKd S a0 = 10) (p3 : aP S a0 5 = some b2) (g4 : aKd S b2 = 100 ∨ aKd S b2 = 101 ∨ aKd S b2 = 102) (r5 : R32 x7) (r6 : R32 ((aN S b2 : Int))) (k1 : (aN S b2 : Int) ≤ x7 → X E d fX8_isSame 477 [some (.ref a0), o1, o2, o3, o4, o5, o6, some (J x7), o8, o9] [] S (mI M) Q) (k2 : x7 < (aN S b2 : Int) → X E d fX8_isSame 373 [some (.ref a0), o1, o2, o3, o4, o5, o6, some (J x7), o8, o9] [] S (mI M) Q) : X E d fX8_isSame 363 [some (.ref a0), o1, o2, o3, o4, o5, o6, some (J x7), o8, o9] [] S (mI M) Q := by
  refine X_iload 365 (by decide +kernel : decode cX8_isSame 363 = .ok (.iload 7, 2)) rfl rfl rfl ?_
  refine X_aload_n 366 (by decide +kernel : decode cX8_isSame 365 = .ok (.aload_n 0, 1)) rfl rfl rfl ?_
  refine X_getR 369 (by decide +kernel : decode cX8_isSame 366 = .ok (.getfield 25, 3)) rfl rfl (by decide +kernel : aFd 10 25 = some (10, 5, true, false)) g1 p3 ?_
  refine X_alen 370 (by decide +kernel : decode cX8_isSame 369 = .ok (.arraylength, 1)) rfl rfl g4 ?_
  exact X_icmpge 477 373 (by decide +kernel : decode cX8_isSame 370 = .ok (.if_icmp .ge 107, 3)) rfl rfl (by decide) r5 r6 k1 k2
theorem kX8_isSame_373 {a0 : Nat} {o1 : Option Value} {o2 : Option Value} {o3 : Option Value} {o4 : Option Value} {x5 : Int} {x6 : Int} {x7 : Int} {o8 : Option Value} {o9 : Option Value} {b2 : Nat} {b7 : Nat} {b12 : Nat} {b17 : Nat} (g1 : aKd S a0 = 10) (p3 : aP S a0 4 = some b2) (g4 : aKd S b2 = 102) (r5 : R32 x5) (h6 : (0 : Int) ≤ x5 ∧ x5 < (aN S b2 : Int)) (p8 : aP S b2 x5.toNat = some b7) (g9 : aKd S b7 = 100) (h10 : (0 : Int) ≤ 0 ∧ 0 < (aN S b7 : Int)) (p13 : aP S a0 5 = some b12) (g14 : aKd S b12 = 102) (r15 : R32 x7) (h16 : (0 : Int) ≤ x7 ∧ x7 < (aN S b12 : Int)) (p18 : aP S b12 x7.toNat = some b17) (g19 : aKd S b17 = 100) (h20 : (0 : Int) ≤ 2 ∧ 2 < (aN S b17 : Int)) (r21 : R32 (M b7 0)) (r22 : R32 (M b17 2)) (k1 : (M b7 0) < (M b17 2) → X E d fX8_isSame 414 [some (.ref a0), o1, o2, o3, o4, some (J x5), some (J x6), some (J x7), some (J (M b7 0)), o9] [J x6] S (mI M) Q) (k2 : (M b17 2) ≤ (M b7 0) → X E d fX8_isSame 400 [some (.ref a0), o1, o2, o3, o4, some (J x5), some (J x6), some (J x7), some (J (M b7 0)), o9] [J x6] S (mI M) Q) : X E d fX8_isSame 373 [some (.ref a0), o1, o2, o3, o4, some (J x5), some (J x6), some (J x7), o8, o9] [] S (mI M) Q := by
  refine X_aload_n 374 (by decide +kernel : decode cX8_isSame 373 = .ok (.aload_n 0, 1)) rfl rfl rfl ?_
  refine X_getR 377 (by decide +kernel : decode cX8_isSame 374 = .ok (.getfield 22, 3)) rfl rfl (by decide +kernel : aFd 10 22 = some (10, 4, true, false)) g1 p3 ?_
  refine X_iload 379 (by decide +kernel : decode cX8_isSame 377 = .ok (.iload 5, 2)) rfl rfl rfl ?_
  refine X_aald 380 (by decide +kernel : decode cX8_isSame 379 = .ok (.aaload, 1)) rfl rfl g4 r5 h6 p8 ?_
  refine X_iconst 381 (by decide +kernel : decode cX8_isSame 380 = .ok (.iconst 0, 1)) rfl rfl ?_
  refine X_iald 382 (by decide +kernel : decode cX8_isSame 381 = .ok (.iaload, 1)) rfl rfl g9 ⟨by decide, by decide⟩ h10 ?_
  refine X_istore 384 (by decide +kernel : decode cX8_isSame 382 = .ok (.istore 8, 2)) rfl rfl (Nat.le_of_ble_eq_true rfl) rfl ?_
  refine X_iload 386 (by decide +kernel : decode cX8_isSame 384 = .ok (.iload 6, 2)) rfl rfl rfl ?_
  refine X_iload 388 (by decide +kernel : decode cX8_isSame 386 = .ok (.iload 8, 2)) rfl rfl rfl ?_
  refine X_aload_n 389 (by decide +kernel : decode cX8_isSame 388 = .ok (.aload_n 0, 1)) rfl rfl rfl ?_
  refine X_getR 392 (by decide +kernel : decode cX8_isSame 389 = .ok (.getfield 25, 3)) rfl rfl (by decide +kernel : aFd 10 25 = some (10, 5, true, false)) g1 p13 ?_
  refine X_iload 394 (by decide +kernel : decode cX8_isSame 392 = .ok (.iload 7, 2)) rfl rfl rfl ?_
  refine X_aald 395 (by decide +kernel : decode cX8_isSame 394 = .ok (.aaload, 1)) rfl rfl g14 r15 h16 p18 ?_
  refine X_iconst 396 (by decide +kernel : decode cX8_isSame 395 = .ok (.iconst 2, 1)) rfl rfl ?_
  refine X_iald 397 (by decide +kernel : decode cX8_isSame 396 = .ok (.iaload, 1)) rfl rfl g19 ⟨by decide, by decide⟩ h20 ?_
  exact X_icmplt 414 400 (by decide +kernel : decode cX8_isSame 397 = .ok (.if_icmp .lt 17, 3)) rfl rfl (by decide) r21 r22 k1 k2
theorem kX8_isSame_400 {a0 : Nat} {o1 : Option Value} {o2 : Option Value} {o3 : Option Value} {o4 : Option Value} {o5 : Option Value} {o6 : Option Value} {x7 : Int} {x8 : Int} {o9 : Option Value} {t0 : Int} {b2 : Nat} {b7 : Nat} (g1 : aKd S a0 = 10) (p3 : aP S a0 5 = some b2) (g4 : aKd S b2 = 102) (r5 : R32 x7) (h6 : (0 : Int) ≤ x7 ∧ x7 < (aN S b2 : Int)) (p8 : aP S b2 x7.toNat = some b7) (g9 : aKd S b7 = 100) (h10 : (0 : Int) ≤ 3 ∧ 3 < (aN S b7 : Int)) (r11 : R32 x8) (r12 : R32 (M b7 3)) (k1 : x8 ≤ (M b7 3) → X E d fX8_isSame 442 [some (.ref a0), o1, o2, o3, o4, o5, o6, some (J x7), some (J x8), o9] [J t0] S (mI M) Q) (k2 : (M b7 3) < x8 → X E d fX8_isSame 414 [some (.ref a0), o1, o2, o3, o4, o5, o6, some (J x7), some (J x8), o9] [J t0] S (mI M) Q) : X E d fX8_isSame 400 [some (.ref a0), o1, o2, o3, o4, o5, o6, some (J x7), some (J x8), o9] [J t0] S (mI M) Q := by
  refine X_iload 402 (by decide +kernel : decode cX8_isSame 400 = .ok (.iload 8, 2)) rfl rfl rfl ?_
  refine X_aload_n 403 (by decide +kernel : decode cX8_isSame 402 = .ok (.aload_n 0, 1)) rfl rfl rfl ?_
  refine X_getR 406 (by decide +kernel : decode cX8_isSame 403 = .ok (.getfield 25, 3)) rfl rfl (by decide +kernel : aFd 10 25 = some (10, 5, true, false)) g1 p3 ?_
  refine X_iload 408 (by decide +kernel : decode cX8_isSame 406 = .ok (.iload 7, 2)) rfl rfl rfl ?_
  refine X_aald 409 (by decide +kernel : decode cX8_isSame 408 = .ok (.aaload, 1)) rfl rfl g4 r5 h6 p8 ?_
  refine X_iconst 410 (by decide +kernel : decode cX8_isSame 409 = .ok (.iconst 3, 1)) rfl rfl ?_
  refine X_iald 411 (by decide +kernel : decode cX8_isSame 410 = .ok (.iaload, 1)) rfl rfl g9 ⟨by decide, by decide⟩ h10 ?_
  exact X_icmple 442 414 (by decide +kernel : decode cX8_isSame 411 = .ok (.if_icmp .le 31, 3)) rfl rfl (by decide) r11 r12 k1 k2
theorem kX8_isSame_414 {a0 : Nat} {o1 : Option Value} {o2 : Option Value} {o3 : Option Value} {o4 : Option Value} {o5 : Option Value} {o6 : Option Value} {x7 : Int} {x8 : Int} {o9 : Option Value} {t0 : Int} {b2 : Nat} {b7 : Nat} (g1 : aKd S a0 = 10) (p3 : aP S a0 5 = some b2) (g4 : aKd S b2 = 102) (r5 : R32 x7) (h6 : (0 : Int) ≤ x7 ∧ x7 < (aN S b2 : Int)) (p8 : aP S b2 x7.toNat = some b7) (g9 : aKd S b7 = 100) (h10 : (0 : Int) ≤ 2 ∧ 2 < (aN S b7 : Int)) (r11 : R32 x8) (r12 : R32 (M b7 2)) (k1 : (M b7 2) < x8 → X E d fX8_isSame 446 [some (.ref a0), o1, o2, o3, o4, o5, o6, some (J x7), some (J x8), o9] [J t0] S (mI M) Q) (k2 : x8 ≤ (M b7 2) → X E d fX8_isSame 428 [some (.ref a0), o1, o2, o3, o4, o5, o6, some (J x7), some (J x8), o9] [J t0] S (mI M) Q) : X E d fX8_isSame 414 [some (.ref a0), o1, o2, o3, o4, o5, o6, some (J x7), some (J x8), o9] [J t0] S (mI M) Q := by
  refine X_iload 416 (by decide +kernel : decode cX8_isSame 414 = .ok (.iload 8, 2)) rfl rfl rfl ?_
  refine X_aload_n 417 (by decide +kernel : decode cX8_isSame 416 = .ok (.aload_n 0, 1)) rfl rfl rfl ?_
  refine X_getR 420 (by decide +kernel : decode cX8_isSame 417 = .ok (.getfield 25, 3)) rfl rfl (by decide +kernel : aFd 10 25 = some (10, 5, true, false)) g1 p3 ?_
  refine X_iload 422 (by decide +kernel : decode cX8_isSame 420 = .ok (.iload 7, 2)) rfl rfl rfl ?_
  refine X_aald 423 (by decide +kernel : decode cX8_isSame 422 = .ok (.aaload, 1)) rfl rfl g4 r5 h6 p8 ?_
  refine X_iconst 424 (by decide +kernel : decode cX8_isSame 423 = .ok (.iconst 2, 1)) rfl rfl ?_
  refine X_iald 425 (by decide +kernel : decode cX8_isSame 424 = .ok (.iaload, 1)) rfl rfl g9 ⟨by decide, by decide⟩ h10 ?_
  exact X_icmpgt 446 428 (by decide +kernel : decode cX8_isSame 425 = .ok (.if_icmp .gt 21, 3)) rfl rfl (by decide) r11 r12 k1 k2
theorem kX8_isSame_428 {a0 : Nat} {o1 : Option Value} {o2 : Option Value} {o3 : Option Value} {o4 : Option Value} {o5 : Option Value} {o6 : Option Value} {x7 : Int} {x8 : Int} {o9 : Option Value} {t0 : Int} {b2 : Nat} {b7 : Nat} (g1 : aKd S a0 = 10) (p3 : aP S a0 5 = some b2) (g4 : aKd S b2 = 102) (r5 : R32 x7) (h6 : (0 : Int) ≤ x7 ∧ x7 < (aN S b2 : Int)) (p8 : aP S b2 x7.toNat = some b7) (g9 : aKd S b7 = 100) (h10 : (0 : Int) ≤ 3 ∧ 3 < (aN S b7 : Int)) (r11 : R32 x8) (r12 : R32 (M b7 3)) (k1 : x8 < (M b7 3) → X E d fX8_isSame 446 [some (.ref a0), o1, o2, o3, o4, o5, o6, some (J x7), some (J x8), o9] [J t0] S (mI M) Q) (k2 : (M b7 3) ≤ x8 → X E d fX8_isSame 442 [some (.ref a0), o1, o2, o3, o4, o5, o6, some (J x7), some (J x8), o9] [J t0] S (mI M) Q) : X E d fX8_isSame 428 [some (.ref a0), o1, o2, o3, o4, o5, o6, some (J x7), some (J x8), o9] [J t0] S (mI M) Q := by
  refine X_iload 430 (by decide +kernel : decode cX8_isSame 428 = .ok (.iload 8, 2)) rfl rfl rfl ?_
  refine X_aload_n 431 (by decide +kernel : decode cX8_isSame 430 = .ok (.aload_n 0, 1)) rfl rfl rfl ?_
  refine X_getR 434 (by decide +kernel : decode cX8_isSame 431 = .ok (.getfield 25, 3)) rfl rfl (by decide +kernel : aFd 10 25 = some (10, 5, true, false)) g1 p3 ?_
  refine X_iload 436 (by decide +kernel : decode cX8_isSame 434 = .ok (.iload 7, 2)) rfl rfl rfl ?_
  refine X_aald 437 (by decide +kernel : decode cX8_isSame 436 = .ok (.aaload, 1)) rfl rfl g4 r5 h6 p8 ?_
  refine X_iconst 438 (by decide +kernel : decode cX8_isSame 437 = .ok (.iconst 3, 1)) rfl rfl ?_
  refine X_iald 439 (by decide +kernel : decode cX8_isSame 438 = .ok (.iaload, 1)) rfl rfl g9 ⟨by decide, by decide⟩ h10 ?_
  exact X_icmplt 446 442 (by decide +kernel : decode cX8_isSame 439 = .ok (.if_icmp .lt 7, 3)) rfl rfl (by decide) r11 r12 k1 k2
theorem kX8_isSame_442 {o0 : Option Value} {o1 : Option Value} {o2 : Option Value} {o3 : Option Value} {o4 : Option Value} {o5 : Option Value} {o6 : Option Value} {o7 : Option Value} {o8 : Option Value} {o9 : Option Value} {t0 : Int} (k : X E d fX8_isSame 447 [o0, o1, o2, o3, o4, o5, o6, o7, o8, o9] [J 1, J t0] S (mI M) Q) : X E d fX8_isSame 442 [o0, o1, o2, o3, o4, o5, o6, o7, o8, o9] [J t0] S (mI M) Q := by
  refine X_iconst 443 (by decide +kernel : decode cX8_isSame 442 = .ok (.iconst 1, 1)) rfl rfl ?_
  exact X_goto 447 (by decide +kernel : decode cX8_isSame 443 = .ok (.goto 4, 3)) rfl (by decide) k
theorem kX8_isSame_446 {o0 : Option Value} {o1 : Option Value} {o2 : Option Value} {o3 : Option Value} {o4 : Option Value} {o5 : Option Value} {o6 : Option Value} {o7 : Option Value} {o8 : Option Value} {o9 : Option Value} {t0 : Int} (k : X E d fX8_isSame 447 [o0, o1, o2, o3, o4, o5, o6, o7, o8, o9] [J 0, J t0] S (mI M) Q) : X E d fX8_isSame 446 [o0, o1, o2, o3, o4, o5, o6, o7, o8, o9] [J t0] S (mI M) Q := by
  refine X_iconst 447 (by decide +kernel : decode cX8_isSame 446 = .ok (.iconst 0, 1)) rfl rfl ?_
  exact k
theorem kX8_isSame_447 {o0 : Option Value} {a1 : Nat} {o2 : Option Value} {o3 : Option Value} {o4 : Option Value} {x5 : Int} {o6 : Option Value} {x7 : Int} {o8 : Option Value} {o9 : Option Value} {t0 : Int} {t1 : Int} (hd1 : 1 ≤ d) (k : X E (d - 1) fX7_toll 0 [some (.ref a1), some (J x7), some (J x5)] [] S (mI M) (Kr E d fX8_isSame 458 [o0, some (.ref a1), o2, o3, o4, some (J x5), some (J (t1 + t0)), some (J x7), o8, o9] [] Q)) (g1 : aKd S a1 = 9) : X E d fX8_isSame 447 [o0, some (.ref a1), o2, o3, o4, some (J x5), o6, some (J x7), o8, o9] [J t0, J t1] S (mI M) Q := by
  refine X_iadd 448 (by decide +kernel : decode cX8_isSame 447 = .ok (.iadd, 1)) rfl rfl ?_
  refine X_istore 450 (by decide +kernel : decode cX8_isSame 448 = .ok (.istore 6, 2)) rfl rfl (Nat.le_of_ble_eq_true rfl) rfl ?_
  refine X_aload_n 451 (by decide +kernel : decode cX8_isSame 450 = .ok (.aload_n 1, 1)) rfl rfl rfl ?_
  refine X_iload 453 (by decide +kernel : decode cX8_isSame 451 = .ok (.iload 7, 2)) rfl rfl rfl ?_
  refine X_iload 455 (by decide +kernel : decode cX8_isSame 453 = .ok (.iload 5, 2)) rfl rfl rfl ?_
  exact X_cv (as := [J x5, J x7]) (rest := []) (by decide +kernel : decode cX8_isSame 455 = .ok (.invokevirtual 117, 3)) (Or.inl ⟨rfl, rfl, rfl⟩) rfl rfl rfl rfl rfl (Nat.le_of_ble_eq_true rfl) (Or.inr (Or.inr (by rw [g1]; rfl))) hd1 k
theorem kX8_isSame_458 {a0 : Nat} {o1 : Option Value} {o2 : Option Value} {o3 : Option Value} {o4 : Option Value} {x5 : Int} {o6 : Option Value} {x7 : Int} {o8 : Option Value} {o9 : Option Value} {t0 : Int} (hd1 : 1 ≤ d) (k : X E (d - 1) fX8_toll 0 [some (.ref a0), some (J x7), some (J x5), none, none] [] S (mI M) (Kr E d fX8_isSame 466 [some (.ref a0), o1, o2, o3, o4, some (J x5), o6, some (J x7), o8, o9] [J t0] Q)) (g1 : aKd S a0 = 10) : X E d fX8_isSame 458 [some (.ref a0), o1, o2, o3, o4, some (J x5), o6, some (J x7), o8, o9] [J t0] S (mI M) Q := by
  refine X_aload_n 459 (by decide +kernel : decode cX8_isSame 458 = .ok (.aload_n 0, 1)) rfl rfl rfl ?_
  refine X_iload 461 (by decide +kernel : decode cX8_isSame 459 = .ok (.iload 7, 2)) rfl rfl rfl ?_
  refine X_iload 463 (by decide +kernel : decode cX8_isSame 461 = .ok (.iload 5, 2)) rfl rfl rfl ?_
  exact X_cv (as := [J x5, J x7]) (rest := [J t0]) (by decide +kernel : decode cX8_isSame 463 = .ok (.invokevirtual 60, 3)) (Or.inl ⟨rfl, rfl, rfl⟩) rfl rfl rfl rfl rfl (Nat.le_of_ble_eq_true rfl) (Or.inr (Or.inr (by rw [g1]; rfl))) hd1 k
theorem kX8_isSame_466 {o0 : Option Value} {o1 : Option Value} {o2 : Option Value} {o3 : Option Value} {o4 : Option Value} {o5 : Option Value} {o6 : Option Value} {o7 : Option Value} {o8 : Option Value} {o9 : Option Value} {t0 : Int} {t1 : Int} (r1 : R32 t1) (r2 : R32 t0) (k1 : t1 = t0 → X E d fX8_isSame 471 [o0, o1, o2, o3, o4, o5, o6, o7, o8, o9] [] S (mI M) Q) (k2 : t1 ≠ t0 → X E d fX8_isSame 469 [o0, o1, o2, o3, o4, o5, o6, o7, o8, o9] [] S (mI M) Q) : X E d fX8_isSame 466 [o0, o1, o2, o3, o4, o5, o6, o7, o8, o9] [J t0, J t1] S (mI M) Q := by
  exact X_icmpeq 471 469 (by decide +kernel : decode cX8_isSame 466 = .ok (.if_icmp .eq 5, 3)) rfl rfl (by decide) r1 r2 k1 k2
theorem kX8_isSame_469 {o0 : Option Value} {o1 : Option Value} {o2 : Option Value} {o3 : Option Value} {o4 : Option Value} {o5 : Option Value} {o6 : Option Value} {o7 : Option Value} {o8 : Option Value} {o9 : Option Value} (q : Q (some (some (J 0))) S (mI M)) : X E d fX8_isSame 469 [o0, o1, o2, o3, o4, o5, o6, o7, o8, o9] [] S (mI M) Q := by
  refine X_iconst 470 (by decide +kernel : decode cX8_isSame 469 = .ok (.iconst 0, 1)) rfl rfl ?_
  exact X_iret (by decide +kernel : decode cX8_isSame 470 = .ok (.ireturn, 1)) rfl rfl (by decide) q
theorem kX8_isSame_471 {o0 : Option Value} {o1 : Option Value} {o2 : Option Value} {o3 : Option Value} {o4 : Option Value} {o5 : Option Value} {o6 : Option Value} {x7 : Int} {o8 : Option Value} {o9 : Option Value} (k : X E d fX8_isSame 363 [o0, o1, o2, o3, o4, o5, o6, some (J (x7 + 1)), o8, o9] [] S (mI M) Q) : X E d fX8_isSame 471 [o0, o1, o2, o3, o4, o5, o6, some (J x7), o8, o9] [] S (mI M) Q := by
  refine X_iinc 474 (by decide +kernel : decode cX8_isSame 471 = .ok (.iinc 7 1, 3)) rfl rfl rfl rfl ?_
  exact X_goto 363 (by decide +kernel : decode cX8_isSame 474 = .ok (.goto (-111), 3)) rfl (by decide) k
theorem kX8_isSame_477 {a0 : Nat} {o1 : Option Value} {o2 : Option Value} {o3 : Option Value} {o4 : Option Value} {x5 : Int} {x6 : Int} {o7 : Option Value} {o8 : Option Value} {o9 : Option Value} {b2 : Nat} {b7 : Nat} {M_13 : Nat → Nat → Int} {M_34 : Nat → Nat → Int} {M_55 : Nat → Nat → Int} (g1 : aKd (aNew S 100 6 6) a0 = 10) (p3 : aP (aNew S 100 6 6) a0 4 = some b2) (g4 : aKd (aNew S 100 6 6) b2 = 102) (r5 : R32 x5) (h6 : (0 : Int) ≤ x5 ∧ x5 < (aN (aNew S 100 6 6) b2 : Int)) (p8 : aP (aNew S 100 6 6) b2 x5.toNat = some b7) (g9 : aKd (aNew S 100 6 6) b7 = 100) (h10 : (0 : Int) ≤ 0 ∧ 0 < (aN (aNew S 100 6 6) b7 : Int)) (g11 : aK (aNew S 100 6 6) (aX S) = 100) (h12 : (0 : Int) ≤ 0 ∧ 0 < (aN (aNew S 100 6 6) (aX S) : Int)) (eM_13 : mW (aU M (aX S) (fun _ => 0)) (aX S) 0 ((aU M (aX S) (fun _ => 0)) b7 0) = M_13) (h21 : (0 : Int) ≤ 1 ∧ 1 < (aN (aNew S 100 6 6) b7 : Int)) (h23 : (0 : Int) ≤ 1 ∧ 1 < (aN (aNew S 100 6 6) (aX S) : Int)) (h31 : (0 : Int) ≤ 2 ∧ 2 < (aN (aNew S 100 6 6) b7 : Int)) (h33 : (0 : Int) ≤ 2 ∧ 2 < (aN (aNew S 100 6 6) (aX S) : Int)) (eM_34 : mW (mW M_13 (aX S) 1 (M_13 b7 1)) (aX S) 2 ((mW M_13 (aX S) 1 (M_13 b7 1)) b7 2) = M_34) (h42 : (0 : Int) ≤ 3 ∧ 3 < (aN (aNew S 100 6 6) b7 : Int)) (h44 : (0 : Int) ≤ 3 ∧ 3 < (aN (aNew S 100 6 6) (aX S) : Int)) (h52 : (0 : Int) ≤ 4 ∧ 4 < (aN (aNew S 100 6 6) b7 : Int)) (h54 : (0 : Int) ≤ 4 ∧ 4 < (aN (aNew S 100 6 6) (aX S) : Int)) (eM_55 : mW (mW M_34 (aX S) 3 (M_34 b7 3)) (aX S) 4 ((mW M_34 (aX S) 3 (M_34 b7 3)) b7 4) = M_55) (h57 : (0 : Int) ≤ 5 ∧ 5 < (aN (aNew S 100 6 6) (aX S) : Int)) (k : X E d fX8_isSame 551 [some (.ref a0), o1, o2, o3, o4, some (J x5), some (J x6), some (.ref (aX S)), some (J 0), o9] [] (aNew S 100 6 6) (mI (mW M_55 (aX S) 5 x6)) Q) : X E d fX8_isSame 477 [some (.ref a0), o1, o2, o3, o4, some (J x5), some (J x6), o7, o8, o9] [] S (mI M) Q := by
  refine X_bipush 479 (6) (by decide +kernel : decode cX8_isSame 477 = .ok (.bipush 6, 2)) rfl rfl (by decide +kernel) ?_
  refine X_newI 481 (by decide +kernel : decode cX8_isSame 479 = .ok (.newarray .int, 2)) rfl rfl ⟨by decide, by decide⟩ ?_
  refine X_dup 482 (by decide +kernel : decode cX8_isSame 481 = .ok (.dup, 1)) rfl rfl rfl ?_
  refine X_iconst 483 (by decide +kernel : decode cX8_isSame 482 = .ok (.iconst 0, 1)) rfl rfl ?_
  refine X_aload_n 484 (by decide +kernel : decode cX8_isSame 483 = .ok (.aload_n 0, 1)) rfl rfl rfl ?_
  refine X_getR 487 (by decide +kernel : decode cX8_isSame 484 = .ok (.getfield 22, 3)) rfl rfl (by decide +kernel : aFd 10 22 = some (10, 4, true, false)) g1 p3 ?_
  refine X_iload 489 (by decide +kernel : decode cX8_isSame 487 = .ok (.iload 5, 2)) rfl rfl rfl ?_
  refine X_aald 490 (by decide +kernel : decode cX8_isSame 489 = .ok (.aaload, 1)) rfl rfl g4 r5 h6 p8 ?_
  refine X_iconst 491 (by decide +kernel : decode cX8_isSame 490 = .ok (.iconst 0, 1)) rfl rfl ?_
  refine X_iald 492 (by decide +kernel : decode cX8_isSame 491 = .ok (.iaload, 1)) rfl rfl g9 ⟨by decide, by decide⟩ h10 ?_
  refine X_iast 493 (by decide +kernel : decode cX8_isSame 492 = .ok (.iastore, 1)) rfl rfl g11 ⟨by decide, by decide⟩ h12 ?_
  show X E d fX8_isSame 493 [some (.ref a0), o1, o2, o3, o4, some (J x5), some (J x6), o7, o8, o9] [.ref (aX S)] (aNew S 100 6 6) (mI (mW (aU M (aX S) (fun _ => 0)) (aX S) 0 ((aU M (aX S) (fun _ => 0)) b7 0))) Q
  rw [eM_13]
  refine X_dup 494 (by decide +kernel : decode cX8_isSame 493 = .ok (.dup, 1)) rfl rfl rfl ?_
  refine X_iconst 495 (by decide +kernel : decode cX8_isSame 494 = .ok (.iconst 1, 1)) rfl rfl ?_
  refine X_aload_n 496 (by decide +kernel : decode cX8_isSame 495 = .ok (.aload_n 0, 1)) rfl rfl rfl ?_
  refine X_getR 499 (by decide +kernel : decode cX8_isSame 496 = .ok (.getfield 22, 3)) rfl rfl (by decide +kernel : aFd 10 22 = some (10, 4, true, false)) g1 p3 ?_
  refine X_iload 501 (by decide +kernel : decode cX8_isSame 499 = .ok (.iload 5, 2)) rfl rfl rfl ?_
  refine X_aald 502 (by decide +kernel : decode cX8_isSame 501 = .ok (.aaload, 1)) rfl rfl g4 r5 h6 p8 ?_
  refine X_iconst 503 (by decide +kernel : decode cX8_isSame 502 = .ok (.iconst 1, 1)) rfl rfl ?_
  refine X_iald 504 (by decide +kernel : decode cX8_isSame 503 = .ok (.iaload, 1)) rfl rfl g9 ⟨by decide, by decide⟩ h21 ?_
  refine X_iast 505 (by decide +kernel : decode cX8_isSame 504 = .ok (.iastore, 1)) rfl rfl g11 ⟨by decide, by decide⟩ h23 ?_
  refine X_dup 506 (by decide +kernel : decode cX8_isSame 505 = .ok (.dup, 1)) rfl rfl rfl ?_
  refine X_iconst 507 (by decide +kernel : decode cX8_isSame 506 = .ok (.iconst 2, 1)) rfl rfl ?_
  refine X_aload_n 508 (by decide +kernel : decode cX8_isSame 507 = .ok (.aload_n 0, 1)) rfl rfl rfl ?_
  refine X_getR 511 (by decide +kernel : decode cX8_isSame 508 = .ok (.getfield 22, 3)) rfl rfl (by decide +kernel : aFd 10 22 = some (10, 4, true, false)) g1 p3 ?_
  refine X_iload 513 (by decide +kernel : decode cX8_isSame 511 = .ok (.iload 5, 2)) rfl rfl rfl ?_
  refine X_aald 514 (by decide +kernel : decode cX8_isSame 513 = .ok (.aaload, 1)) rfl rfl g4 r5 h6 p8 ?_
  refine X_iconst 515 (by decide +kernel : decode cX8_isSame 514 = .ok (.iconst 2, 1)) rfl rfl ?_
  refine X_iald 516 (by decide +kernel : decode cX8_isSame 515 = .ok (.iaload, 1)) rfl rfl g9 ⟨by decide, by decide⟩ h31 ?_
  refine X_iast 517 (by decide +kernel : decode cX8_isSame 516 = .ok (.iastore, 1)) rfl rfl g11 ⟨by decide, by decide⟩ h33 ?_
  show X E d fX8_isSame 517 [some (.ref a0), o1, o2, o3, o4, some (J x5), some (J x6), o7, o8, o9] [.ref (aX S)] (aNew S 100 6 6) (mI (mW (mW M_13 (aX S) 1 (M_13 b7 1)) (aX S) 2 ((mW M_13 (aX S) 1 (M_13 b7 1)) b7 2))) Q
  rw [eM_34]
  refine X_dup 518 (by decide +kernel : decode cX8_isSame 517 = .ok (.dup, 1)) rfl rfl rfl ?_
  refine X_iconst 519 (by decide +kernel : decode cX8_isSame 518 = .ok (.iconst 3, 1)) rfl rfl ?_
  refine X_aload_n 520 (by decide +kernel : decode cX8_isSame 519 = .ok (.aload_n 0, 1)) rfl rfl rfl ?_
  refine X_getR 523 (by decide +kernel : decode cX8_isSame 520 = .ok (.getfield 22, 3)) rfl rfl (by decide +kernel : aFd 10 22 = some (10, 4, true, false)) g1 p3 ?_
  refine X_iload 525 (by decide +kernel : decode cX8_isSame 523 = .ok (.iload 5, 2)) rfl rfl rfl ?_
  refine X_aald 526 (by decide +kernel : decode cX8_isSame 525 = .ok (.aaload, 1)) rfl rfl g4 r5 h6 p8 ?_
  refine X_iconst 527 (by decide +kernel : decode cX8_isSame 526 = .ok (.iconst 3, 1)) rfl rfl ?_
  refine X_iald 528 (by decide +kernel : decode cX8_isSame 527 = .ok (.iaload, 1)) rfl rfl g9 ⟨by decide, by decide⟩ h42 ?_
  refine X_iast 529 (by decide +kernel : decode cX8_isSame 528 = .ok (.iastore, 1)) rfl rfl g11 ⟨by decide, by decide⟩ h44 ?_
  refine X_dup 530 (by decide +kernel : decode cX8_isSame 529 = .ok (.dup, 1)) rfl rfl rfl ?_
  refine X_iconst 531 (by decide +kernel : decode cX8_isSame 530 = .ok (.iconst 4, 1)) rfl rfl ?_
  refine X_aload_n 532 (by decide +kernel : decode cX8_isSame 531 = .ok (.aload_n 0, 1)) rfl rfl rfl ?_
  refine X_getR 535 (by decide +kernel : decode cX8_isSame 532 = .ok (.getfield 22, 3)) rfl rfl (by decide +kernel : aFd 10 22 = some (10, 4, true, false)) g1 p3 ?_
  refine X_iload 537 (by decide +kernel : decode cX8_isSame 535 = .ok (.iload 5, 2)) rfl rfl rfl ?_
  refine X_aald 538 (by decide +kernel : decode cX8_isSame 537 = .ok (.aaload, 1)) rfl rfl g4 r5 h6 p8 ?_
  refine X_iconst 539 (by decide +kernel : decode cX8_isSame 538 = .ok (.iconst 4, 1)) rfl rfl ?_
  refine X_iald 540 (by decide +kernel : decode cX8_isSame 539 = .ok (.iaload, 1)) rfl rfl g9 ⟨by decide, by decide⟩ h52 ?_
  refine X_iast 541 (by decide +kernel : decode cX8_isSame 540 = .ok (.iastore, 1)) rfl rfl g11 ⟨by decide, by decide⟩ h54 ?_
  show X E d fX8_isSame 541 [some (.ref a0), o1, o2, o3, o4, some (J x5), some (J x6), o7, o8, o9] [.ref (aX S)] (aNew S 100 6 6) (mI (mW (mW M_34 (aX S) 3 (M_34 b7 3)) (aX S) 4 ((mW M_34 (aX S) 3 (M_34 b7 3)) b7 4))) Q
  rw [eM_55]
  refine X_dup 542 (by decide +kernel : decode cX8_isSame 541 = .ok (.dup, 1)) rfl rfl rfl ?_
  refine X_iconst 543 (by decide +kernel : decode cX8_isSame 542 = .ok (.iconst 5, 1)) rfl rfl ?_
  refine X_iload 545 (by decide +kernel : decode cX8_isSame 543 = .ok (.iload 6, 2)) rfl rfl rfl ?_
  refine X_iast 546 (by decide +kernel : decode cX8_isSame 545 = .ok (.iastore, 1)) rfl rfl g11 ⟨by decide, by decide⟩ h57 ?_
  refine X_astore 548 (by decide +kernel : decode cX8_isSame 546 = .ok (.astore 7, 2)) rfl rfl (Nat.le_of_ble_eq_true rfl) rfl ?_
  refine X_iconst 549 (by decide +kernel : decode cX8_isSame 548 = .ok (.iconst 0, 1)) rfl rfl ?_
  refine X_istore 551 (by decide +kernel : decode cX8_isSame 549 = .ok (.istore 8, 2)) rfl rfl (Nat.le_of_ble_eq_true rfl) rfl ?_
  exact k
theorem kX8_isSame_551 {o0 : Option Value} {o1 : Option Value} {o2 : Option Value} {o3 : Option Value} {o4 : Option Value} {o5 : Option Value} {o6 : Option Value} {o7 : Option Value} {x8 : Int} {o9 : Option Value} (r1 : R32 x8) (k1 : 6 ≤ x8 → X E d fX8_isSame 582 [o0, o1, o2, o3, o4, o5, o6, o7, some (J x8), o9] [] S (mI M) Q) (k2 : x8 < 6 → X E d fX8_isSame 558 [o0, o1, o2, o3, o4, o5, o6, o7, some (J x8), o9] [] S (mI M) Q) : X E d fX8_isSame 551 [o0, o1, o2, o3, o4, o5, o6, o7, some (J x8), o9] [] S (mI M) Q := by
  refine X_iload 553 (by decide +kernel : decode cX8_isSame 551 = .ok (.iload 8, 2)) rfl rfl rfl ?_
  refine X_bipush 555 (6) (by decide +kernel : decode cX8_isSame 553 = .ok (.bipush 6, 2)) rfl rfl (by decide +kernel) ?_
  exact X_icmpge 582 558 (by decide +kernel : decode cX8_isSame 555 = .ok (.if_icmp .ge 27, 3)) rfl rfl (by decide) r1 ⟨by decide, by decide⟩ k1 k2
theorem kX8_isSame_558 {o0 : Option Value} {a1 : Nat} {o2 : Option Value} {o3 : Option Value} {o4 : Option Value} {x5 : Int} {o6 : Option Value} {o7 : Option Value} {x8 : Int} {o9 : Option Value} (hd1 : 1 ≤ d) (k : X E (d - 1) fX7_gate 0 [some (.ref a1), some (J x5), some (J x8)] [] S (mI M) (Kr E d fX8_isSame 566 [o0, some (.ref a1), o2, o3, o4, some (J x5), o6, o7, some (J x8), o9] [] Q)) (g1 : aKd S a1 = 9) : X E d fX8_isSame 558 [o0, some (.ref a1), o2, o3, o4, some (J x5), o6, o7, some (J x8), o9] [] S (mI M) Q := by
  refine X_aload_n 559 (by decide +kernel : decode cX8_isSame 558 = .ok (.aload_n 1, 1)) rfl rfl rfl ?_
  refine X_iload 561 (by decide +kernel : decode cX8_isSame 559 = .ok (.iload 5, 2)) rfl rfl rfl ?_
  refine X_iload 563 (by decide +kernel : decode cX8_isSame 561 = .ok (.iload 8, 2)) rfl rfl rfl ?_
  exact X_cv (as := [J x8, J x5]) (rest := []) (by decide +kernel : decode cX8_isSame 563 = .ok (.invokevirtual 118, 3)) (Or.inl ⟨rfl, rfl, rfl⟩) rfl rfl rfl rfl rfl (Nat.le_of_ble_eq_true rfl) (Or.inr (Or.inr (by rw [g1]; rfl))) hd1 k
theorem kX8_isSame_566 {o0 : Option Value} {o1 : Option Value} {o2 : Option Value} {o3 : Option Value} {o4 : Option Value} {o5 : Option Value} {o6 : Option Value} {a7 : Nat} {x8 : Int} {o9 : Option Value} {t0 : Int} (g1 : aKd S a7 = 100) (r2 : R32 x8) (h3 : (0 : Int) ≤ x8 ∧ x8 < (aN S a7 : Int)) (r4 : R32 t0) (r5 : R32 (M a7 x8.toNat)) (k1 : t0 = (M a7 x8.toNat) → X E d fX8_isSame 576 [o0, o1, o2, o3, o4, o5, o6, some (.ref a7), some (J x8), o9] [] S (mI M) Q) (k2 : t0 ≠ (M a7 x8.toNat) → X E d fX8_isSame 574 [o0, o1, o2, o3, o4, o5, o6, some (.ref a7), some (J x8), o9] [] S (mI M) Q) : X E d fX8_isSame 566 [o0, o1, o2, o3, o4, o5, o6, some (.ref a7), some (J x8), o9] [J t0] S (mI M) Q := by
  refine X_aload 568 (by decide +kernel : decode cX8_isSame 566 = .ok (.aload 7, 2)) rfl rfl rfl ?_
  refine X_iload 570 (by decide +kernel : decode cX8_isSame 568 = .ok (.iload 8, 2)) rfl rfl rfl ?_
  refine X_iald 571 (by decide +kernel : decode cX8_isSame 570 = .ok (.iaload, 1)) rfl rfl g1 r2 h3 ?_
  exact X_icmpeq 576 574 (by decide +kernel : decode cX8_isSame 571 = .ok (.if_icmp .eq 5, 3)) rfl rfl (by decide) r4 r5 k1 k2
theorem kX8_isSame_574 {o0 : Option Value} {o1 : Option Value} {o2 : Option Value} {o3 : Option Value} {o4 : Option Value} {o5 : Option Value} {o6 : Option Value} {o7 : Option Value} {o8 : Option Value} {o9 : Option Value} (q : Q (some (some (J 0))) S (mI M)) : X E d fX8_isSame 574 [o0, o1, o2, o3, o4, o5, o6, o7, o8, o9] [] S (mI M) Q := by
  refine X_iconst 575 (by decide +kernel : decode cX8_isSame 574 = .ok (.iconst 0, 1)) rfl rfl ?_
  exact X_iret (by decide +kernel : decode cX8_isSame 575 = .ok (.ireturn, 1)) rfl rfl (by decide) q
theorem kX8_isSame_576 {o0 : Option Value} {o1 : Option Value} {o2 : Option Value} {o3 : Option Value} {o4 : Option Value} {o5 : Option Value} {o6 : Option Value} {o7 : Option Value} {x8 : Int} {o9 : Option Value} (k : X E d fX8_isSame 551 [o0, o1, o2, o3, o4, o5, o6, o7, some (J (x8 + 1)), o9] [] S (mI M) Q) : X E d fX8_isSame 576 [o0, o1, o2, o3, o4, o5, o6, o7, some (J x8), o9] [] S (mI M) Q := by
  refine X_iinc 579 (by decide +kernel : decode cX8_isSame 576 = .ok (.iinc 8 1, 3)) rfl rfl rfl rfl ?_
  exact X_goto 551 (by decide +kernel : decode cX8_isSame 579 = .ok (.goto (-28), 3)) rfl (by decide) k
theorem kX8_isSame_582 {o0 : Option Value} {o1 : Option Value} {o2 : Option Value} {o3 : Option Value} {o4 : Option Value} {x5 : Int} {o6 : Option Value} {o7 : Option Value} {o8 : Option Value} {o9 : Option Value} (k : X E d fX8_isSame 347 [o0, o1, o2, o3, o4, some (J (x5 + 1)), o6, o7, o8, o9] [] S (mI M) Q) : X E d fX8_isSame 582 [o0, o1, o2, o3, o4, some (J x5), o6, o7, o8, o9] [] S (mI M) Q := by
  refine X_iinc 585 (by decide +kernel : decode cX8_isSame 582 = .ok (.iinc 5 1, 3)) rfl rfl rfl rfl ?_
  exact X_goto 347 (by decide +kernel : decode cX8_isSame 585 = .ok (.goto (-238), 3)) rfl (by decide) k
theorem kX8_isSame_588 {o0 : Option Value} {o1 : Option Value} {o2 : Option Value} {o3 : Option Value} {o4 : Option Value} {o5 : Option Value} {o6 : Option Value} {o7 : Option Value} {o8 : Option Value} {o9 : Option Value} (k : X E d fX8_isSame 591 [o0, o1, o2, o3, o4, some (J 0), o6, o7, o8, o9] [] S (mI M) Q) : X E d fX8_isSame 588 [o0, o1, o2, o3, o4, o5, o6, o7, o8, o9] [] S (mI M) Q := by
  refine X_iconst 589 (by decide +kernel : decode cX8_isSame 588 = .ok (.iconst 0, 1)) rfl rfl ?_
  refine X_istore 591 (by decide +kernel : decode cX8_isSame 589 = .ok (.istore 5, 2)) rfl rfl (Nat.le_of_ble_eq_true rfl) rfl ?_
  exact k
theorem kX8_isSame_591 {a0 : Nat} {o1 : Option Value} {o2 : Option Value} {o3 : Option Value} {o4 : Option Value} {x5 : Int} {o6 : Option Value} {o7 : Option Value} {o8 : Option Value} {o9 : Option Value} {b2 : Nat} (g1 : aKd S a0 = 10) (p3 : aP S a0 5 = some b2) (g4 : aKd S b2 = 100 ∨ aKd S b2 = 101 ∨ aKd S b2 = 102) (r5 : R32 x5) (r6 : R32 ((aN S b2 : Int))) (k1 : (aN S b2 : Int) ≤ x5 → X E d fX8_isSame 727 [some (.ref a0), o1, o2, o3, o4, some (J x5), o6, o7, o8, o9] [] S (mI M) Q) (k2 : x5 < (aN S b2 : Int) → X E d fX8_isSame 601 [some (.ref a0), o1, o2, o3, o4, some (J x5), o6, o7, o8, o9] [] S (mI M) Q) : X E d fX8_isSame 591 [some (.ref a0), o1, o2, o3, o4, some (J x5), o6, o7, o8, o9] [] S (mI M) Q := by
  refine X_iload 593 (by decide +kernel : decode cX8_isSame 591 = .ok (.iload 5, 2)) rfl rfl rfl ?_
  refine X_aload_n 594 (by decide +kernel : decode cX8_isSame 593 = .ok (.aload_n 0, 1)) rfl rfl rfl ?_
  refine X_getR 597 (by decide +kernel : decode cX8_isSame 594 = .ok (.getfield 25, 3)) rfl rfl (by decide +kernel : aFd 10 25 = some (10, 5, true, false)) g1 p3 ?_
  refine X_alen 598 (by decide +kernel : decode cX8_isSame 597 = .ok (.arraylength, 1)) rfl rfl g4 ?_
  exact X_icmpge 727 601 (by decide +kernel : decode cX8_isSame 598 = .ok (.if_icmp .ge 129, 3)) rfl rfl (by decide) r5 r6 k1 k2
theorem kX8_isSame_601 {o0 : Option Value} {o1 : Option Value} {o2 : Option Value} {o3 : Option Value} {o4 : Option Value} {o5 : Option Value} {o6 : Option Value} {o7 : Option Value} {o8 : Option Value} {o9 : Option Value} (k : X E d fX8_isSame 604 [o0, o1, o2, o3, o4, o5, some (J 0), o7, o8, o9] [] S (mI M) Q) : X E d fX8_isSame 601 [o0, o1, o2, o3, o4, o5, o6, o7, o8, o9] [] S (mI M) Q := by
  refine X_iconst 602 (by decide +kernel : decode cX8_isSame 601 = .ok (.iconst 0, 1)) rfl rfl ?_
  refine X_istore 604 (by decide +kernel : decode cX8_isSame 602 = .ok (.istore 6, 2)) rfl rfl (Nat.le_of_ble_eq_true rfl) rfl ?_
  exact k
theorem kX8_isSame_604 {o0 : Option Value} {o1 : Option Value} {o2 : Option Value} {o3 : Option Value} {o4 : Option Value} {o5 : Option Value} {x6 : Int} {o7 : Option Value} {o8 : Option Value} {o9 : Option Value} (r1 : R32 x6) (k1 : 8 ≤ x6 → X E d fX8_isSame 640 [o0, o1, o2, o3, o4, o5, some (J x6), o7, o8, o9] [] S (mI M) Q) (k2 : x6 < 8 → X E d fX8_isSame 611 [o0, o1, o2, o3, o4, o5, some (J x6), o7, o8, o9] [] S (mI M) Q) : X E d fX8_isSame 604 [o0, o1, o2, o3, o4, o5, some (J x6), o7, o8, o9] [] S (mI M) Q := by
  refine X_iload 606 (by decide +kernel : decode cX8_isSame 604 = .ok (.iload 6, 2)) rfl rfl rfl ?_
  refine X_bipush 608 (8) (by decide +kernel : decode cX8_isSame 606 = .ok (.bipush 8, 2)) rfl rfl (by decide +kernel) ?_
  exact X_icmpge 640 611 (by decide +kernel : decode cX8_isSame 608 = .ok (.if_icmp .ge 32, 3)) rfl rfl (by decide) r1 ⟨by decide, by decide⟩ k1 k2
theorem kX8_isSame_611 {o0 : Option Value} {a1 : Nat} {o2 : Option Value} {o3 : Option Value} {o4 : Option Value} {x5 : Int} {x6 : Int} {o7 : Option Value} {o8 : Option Value} {o9 : Option Value} (hd1 : 1 ≤ d) (k : X E (d - 1) fX7_traffic 0 [some (.ref a1), some (J x5), some (J x6)] [] S (mI M) (Kr E d fX8_isSame 619 [o0, some (.ref a1), o2, o3, o4, some (J x5), some (J x6), o7, o8, o9] [] Q)) (g1 : aKd S a1 = 9) : X E d fX8_isSame 611 [o0, some (.ref a1), o2, o3, o4, some (J x5), some (J x6), o7, o8, o9] [] S (mI M) Q := by
  refine X_aload_n 612 (by decide +kernel : decode cX8_isSame 611 = .ok (.aload_n 1, 1)) rfl rfl rfl ?_
  refine X_iload 614 (by decide +kernel : decode cX8_isSame 612 = .ok (.iload 5, 2)) rfl rfl rfl ?_
  refine X_iload 616 (by decide +kernel : decode cX8_isSame 614 = .ok (.iload 6, 2)) rfl rfl rfl ?_
  exact X_cv (as := [J x6, J x5]) (rest := []) (by decide +kernel : decode cX8_isSame 616 = .ok (.invokevirtual 121, 3)) (Or.inl ⟨rfl, rfl, rfl⟩) rfl rfl rfl rfl rfl (Nat.le_of_ble_eq_true rfl) (Or.inr (Or.inr (by rw [g1]; rfl))) hd1 k
theorem kX8_isSame_619 {a0 : Nat} {o1 : Option Value} {o2 : Option Value} {o3 : Option Value} {o4 : Option Value} {x5 : Int} {x6 : Int} {o7 : Option Value} {o8 : Option Value} {o9 : Option Value} {t0 : Int} {b2 : Nat} {b7 : Nat} (g1 : aKd S a0 = 10) (p3 : aP S a0 5 = some b2) (g4 : aKd S b2 = 102) (r5 : R32 x5) (h6 : (0 : Int) ≤ x5 ∧ x5 < (aN S b2 : Int)) (p8 : aP S b2 x5.toNat = some b7) (g9 : aKd S b7 = 100) (r10 : R32 x6) (h11 : (0 : Int) ≤ x6 ∧ x6 < (aN S b7 : Int)) (r12 : R32 t0) (r13 : R32 (M b7 x6.toNat)) (k1 : t0 = (M b7 x6.toNat) → X E d fX8_isSame 634 [some (.ref a0), o1, o2, o3, o4, some (J x5), some (J x6), o7, o8, o9] [] S (mI M) Q) (k2 : t0 ≠ (M b7 x6.toNat) → X E d fX8_isSame 632 [some (.ref a0), o1, o2, o3, o4, some (J x5), some (J x6), o7, o8, o9] [] S (mI M) Q) : X E d fX8_isSame 619 [some (.ref a0), o1, o2, o3, o4, some (J x5), some (J x6), o7, o8, o9] [J t0] S (mI M) Q := by
  refine X_aload_n 620 (by decide +kernel : decode cX8_isSame 619 = .ok (.aload_n 0, 1)) rfl rfl rfl ?_
  refine X_getR 623 (by decide +kernel : decode cX8_isSame 620 = .ok (.getfield 25, 3)) rfl rfl (by decide +kernel : aFd 10 25 = some (10, 5, true, false)) g1 p3 ?_
  refine X_iload 625 (by decide +kernel : decode cX8_isSame 623 = .ok (.iload 5, 2)) rfl rfl rfl ?_
  refine X_aald 626 (by decide +kernel : decode cX8_isSame 625 = .ok (.aaload, 1)) rfl rfl g4 r5 h6 p8 ?_
  refine X_iload 628 (by decide +kernel : decode cX8_isSame 626 = .ok (.iload 6, 2)) rfl rfl rfl ?_
  refine X_iald 629 (by decide +kernel : decode cX8_isSame 628 = .ok (.iaload, 1)) rfl rfl g9 r10 h11 ?_
  exact X_icmpeq 634 632 (by decide +kernel : decode cX8_isSame 629 = .ok (.if_icmp .eq 5, 3)) rfl rfl (by decide) r12 r13 k1 k2
theorem kX8_isSame_632 {o0 : Option Value} {o1 : Option Value} {o2 : Option Value} {o3 : Option Value} {o4 : Option Value} {o5 : Option Value} {o6 : Option Value} {o7 : Option Value} {o8 : Option Value} {o9 : Option Value} (q : Q (some (some (J 0))) S (mI M)) : X E d fX8_isSame 632 [o0, o1, o2, o3, o4, o5, o6, o7, o8, o9] [] S (mI M) Q := by
  refine X_iconst 633 (by decide +kernel : decode cX8_isSame 632 = .ok (.iconst 0, 1)) rfl rfl ?_
  exact X_iret (by decide +kernel : decode cX8_isSame 633 = .ok (.ireturn, 1)) rfl rfl (by decide) q
theorem kX8_isSame_634 {o0 : Option Value} {o1 : Option Value} {o2 : Option Value} {o3 : Option Value} {o4 : Option Value} {o5 : Option Value} {x6 : Int} {o7 : Option Value} {o8 : Option Value} {o9 : Option Value} (k : X E d fX8_isSame 604 [o0, o1, o2, o3, o4, o5, some (J (x6 + 1)), o7, o8, o9] [] S (mI M) Q) : X E d fX8_isSame 634 [o0, o1, o2, o3, o4, o5, some (J x6), o7, o8, o9] [] S (mI M) Q := by
  refine X_iinc 637 (by decide +kernel : decode cX8_isSame 634 = .ok (.iinc 6 1, 3)) rfl rfl rfl rfl ?_
  exact X_goto 604 (by decide +kernel : decode cX8_isSame 637 = .ok (.goto (-33), 3)) rfl (by decide) k
theorem kX8_isSame_640 {a0 : Nat} {o1 : Option Value} {o2 : Option Value} {o3 : Option Value} {o4 : Option Value} {o5 : Option Value} {o6 : Option Value} {o7 : Option Value} {o8 : Option Value} {o9 : Option Value} (hd1 : 1 ≤ d) (k : X E (d - 1) fX8_copy 0 [some (.ref a0), none] [] S (mI M) (Kr E d fX8_isSame 644 [some (.ref a0), o1, o2, o3, o4, o5, o6, o7, o8, o9] [] Q)) (g1 : aKd S a0 = 10) : X E d fX8_isSame 640 [some (.ref a0), o1, o2, o3, o4, o5, o6, o7, o8, o9] [] S (mI M) Q := by
  refine X_aload_n 641 (by decide +kernel : decode cX8_isSame 640 = .ok (.aload_n 0, 1)) rfl rfl rfl ?_
  exact X_cv (as := []) (rest := []) (by decide +kernel : decode cX8_isSame 641 = .ok (.invokevirtual 124, 3)) (Or.inl ⟨rfl, rfl, rfl⟩) rfl rfl rfl rfl rfl (Nat.le_of_ble_eq_true rfl) (Or.inr (Or.inr (by rw [g1]; rfl))) hd1 k
theorem kX8_isSame_644 {o0 : Option Value} {o1 : Option Value} {o2 : Option Value} {o3 : Option Value} {o4 : Option Value} {x5 : Int} {o6 : Option Value} {o7 : Option Value} {o8 : Option Value} {o9 : Option Value} {u0 : Nat} (hd1 : 1 ≤ d) (k : X E (d - 1) fX8_go 0 [some (.ref u0), some (J x5), none, none, none, none, none] [] S (mI M) (Kr E d fX8_isSame 653 [o0, o1, o2, o3, o4, some (J x5), some (.ref u0), o7, o8, o9] [] Q)) (g1 : aKd S u0 = 10) : X E d fX8_isSame 644 [o0, o1, o2, o3, o4, some (J x5), o6, o7, o8, o9] [.ref u0] S (mI M) Q := by
  refine X_astore 646 (by decide +kernel : decode cX8_isSame 644 = .ok (.astore 6, 2)) rfl rfl (Nat.le_of_ble_eq_true rfl) rfl ?_
  refine X_aload 648 (by decide +kernel : decode cX8_isSame 646 = .ok (.aload 6, 2)) rfl rfl rfl ?_
  refine X_iload 650 (by decide +kernel : decode cX8_isSame 648 = .ok (.iload 5, 2)) rfl rfl rfl ?_
  exact X_cv (as := [J x5]) (rest := []) (by decide +kernel : decode cX8_isSame 650 = .ok (.invokevirtual 73, 3)) (Or.inl ⟨rfl, rfl, rfl⟩) rfl rfl rfl rfl rfl (Nat.le_of_ble_eq_true rfl) (Or.inr (Or.inr (by rw [g1]; rfl))) hd1 k
theorem kX8_isSame_653 {o0 : Option Value} {a1 : Nat} {o2 : Option Value} {o3 : Option Value} {o4 : Option Value} {x5 : Int} {o6 : Option Value} {o7 : Option Value} {o8 : Option Value} {o9 : Option Value} {t0 : Int} (hd1 : 1 ≤ d) (k : X E (d - 1) fX7_journey 0 [some (.ref a1), some (J x5), some (J 0), none] [] S (mI M) (Kr E d fX8_isSame 662 [o0, some (.ref a1), o2, o3, o4, some (J x5), o6, some (J t0), o8, o9] [] Q)) (g1 : aKd S a1 = 9) : X E d fX8_isSame 653 [o0, some (.ref a1), o2, o3, o4, some (J x5), o6, o7, o8, o9] [J t0] S (mI M) Q := by
  refine X_istore 655 (by decide +kernel : decode cX8_isSame 653 = .ok (.istore 7, 2)) rfl rfl (Nat.le_of_ble_eq_true rfl) rfl ?_
  refine X_aload_n 656 (by decide +kernel : decode cX8_isSame 655 = .ok (.aload_n 1, 1)) rfl rfl rfl ?_
  refine X_iload 658 (by decide +kernel : decode cX8_isSame 656 = .ok (.iload 5, 2)) rfl rfl rfl ?_
  refine X_iconst 659 (by decide +kernel : decode cX8_isSame 658 = .ok (.iconst 0, 1)) rfl rfl ?_
  exact X_cv (as := [J 0, J x5]) (rest := []) (by decide +kernel : decode cX8_isSame 659 = .ok (.invokevirtual 128, 3)) (Or.inl ⟨rfl, rfl, rfl⟩) rfl rfl rfl rfl rfl (Nat.le_of_ble_eq_true rfl) (Or.inr (Or.inr (by rw [g1]; rfl))) hd1 k
theorem kX8_isSame_662 {a0 : Nat} {o1 : Option Value} {o2 : Option Value} {o3 : Option Value} {o4 : Option Value} {x5 : Int} {a6 : Nat} {o7 : Option Value} {o8 : Option Value} {o9 : Option Value} {t0 : Int} {b2 : Nat} {b7 : Nat} {b12 : Nat} {b17 : Nat} (g1 : aKd S a6 = 10) (p3 : aP S a6 5 = some b2) (g4 : aKd S b2 = 102) (r5 : R32 x5) (h6 : (0 : Int) ≤ x5 ∧ x5 < (aN S b2 : Int)) (p8 : aP S b2 x5.toNat = some b7) (g9 : aKd S b7 = 100) (h10 : (0 : Int) ≤ 7 ∧ 7 < (aN S b7 : Int)) (g11 : aKd S a0 = 10) (p13 : aP S a0 5 = some b12) (g14 : aKd S b12 = 102) (h16 : (0 : Int) ≤ x5 ∧ x5 < (aN S b12 : Int)) (p18 : aP S b12 x5.toNat = some b17) (g19 : aKd S b17 = 100) (h20 : (0 : Int) ≤ 7 ∧ 7 < (aN S b17 : Int)) (r21 : R32 t0) (r22 : R32 ((M b7 7) - (M b17 7))) (k1 : t0 ≠ ((M b7 7) - (M b17 7)) → X E d fX8_isSame 719 [some (.ref a0), o1, o2, o3, o4, some (J x5), some (.ref a6), o7, o8, o9] [] S (mI M) Q) (k2 : t0 = ((M b7 7) - (M b17 7)) → X E d fX8_isSame 687 [some (.ref a0), o1, o2, o3, o4, some (J x5), some (.ref a6), o7, o8, o9] [] S (mI M) Q) : X E d fX8_isSame 662 [some (.ref a0), o1, o2, o3, o4, some (J x5), some (.ref a6), o7, o8, o9] [J t0] S (mI M) Q := by
  refine X_aload 664 (by decide +kernel : decode cX8_isSame 662 = .ok (.aload 6, 2)) rfl rfl rfl ?_
  refine X_getR 667 (by decide +kernel : decode cX8_isSame 664 = .ok (.getfield 25, 3)) rfl rfl (by decide +kernel : aFd 10 25 = some (10, 5, true, false)) g1 p3 ?_
  refine X_iload 669 (by decide +kernel : decode cX8_isSame 667 = .ok (.iload 5, 2)) rfl rfl rfl ?_
  refine X_aald 670 (by decide +kernel : decode cX8_isSame 669 = .ok (.aaload, 1)) rfl rfl g4 r5 h6 p8 ?_
  refine X_bipush 672 (7) (by decide +kernel : decode cX8_isSame 670 = .ok (.bipush 7, 2)) rfl rfl (by decide +kernel) ?_
  refine X_iald 673 (by decide +kernel : decode cX8_isSame 672 = .ok (.iaload, 1)) rfl rfl g9 ⟨by decide, by decide⟩ h10 ?_
  refine X_aload_n 674 (by decide +kernel : decode cX8_isSame 673 = .ok (.aload_n 0, 1)) rfl rfl rfl ?_
  refine X_getR 677 (by decide +kernel : decode cX8_isSame 674 = .ok (.getfield 25, 3)) rfl rfl (by decide +kernel : aFd 10 25 = some (10, 5, true, false)) g11 p13 ?_
  refine X_iload 679 (by decide +kernel : decode cX8_isSame 677 = .ok (.iload 5, 2)) rfl rfl rfl ?_
  refine X_aald 680 (by decide +kernel : decode cX8_isSame 679 = .ok (.aaload, 1)) rfl rfl g14 r5 h16 p18 ?_
  refine X_bipush 682 (7) (by decide +kernel : decode cX8_isSame 680 = .ok (.bipush 7, 2)) rfl rfl (by decide +kernel) ?_
  refine X_iald 683 (by decide +kernel : decode cX8_isSame 682 = .ok (.iaload, 1)) rfl rfl g19 ⟨by decide, by decide⟩ h20 ?_
  refine X_isub 684 (by decide +kernel : decode cX8_isSame 683 = .ok (.isub, 1)) rfl rfl ?_
  exact X_icmpne 719 687 (by decide +kernel : decode cX8_isSame 684 = .ok (.if_icmp .ne 35, 3)) rfl rfl (by decide) r21 r22 k1 k2
theorem kX8_isSame_687 {o0 : Option Value} {a1 : Nat} {o2 : Option Value} {o3 : Option Value} {o4 : Option Value} {x5 : Int} {o6 : Option Value} {o7 : Option Value} {o8 : Option Value} {o9 : Option Value} (hd1 : 1 ≤ d) (k : X E (d - 1) fX7_journey 0 [some (.ref a1), some (J x5), some (J 1), none] [] S (mI M) (Kr E d fX8_isSame 694 [o0, some (.ref a1), o2, o3, o4, some (J x5), o6, o7, o8, o9] [] Q)) (g1 : aKd S a1 = 9) : X E d fX8_isSame 687 [o0, some (.ref a1), o2, o3, o4, some (J x5), o6, o7, o8, o9] [] S (mI M) Q := by
  refine X_aload_n 688 (by decide +kernel : decode cX8_isSame 687 = .ok (.aload_n 1, 1)) rfl rfl rfl ?_
  refine X_iload 690 (by decide +kernel : decode cX8_isSame 688 = .ok (.iload 5, 2)) rfl rfl rfl ?_
  refine X_iconst 691 (by decide +kernel : decode cX8_isSame 690 = .ok (.iconst 1, 1)) rfl rfl ?_
  exact X_cv (as := [J 1, J x5]) (rest := []) (by decide +kernel : decode cX8_isSame 691 = .ok (.invokevirtual 128, 3)) (Or.inl ⟨rfl, rfl, rfl⟩) rfl rfl rfl rfl rfl (Nat.le_of_ble_eq_true rfl) (Or.inr (Or.inr (by rw [g1]; rfl))) hd1 k
theorem kX8_isSame_694 {a0 : Nat} {o1 : Option Value} {o2 : Option Value} {o3 : Option Value} {o4 : Option Value} {o5 : Option Value} {o6 : Option Value} {o7 : Option Value} {o8 : Option Value} {o9 : Option Value} {t0 : Int} (hd1 : 1 ≤ d) (k : X E (d - 1) fX8_all 0 [some (.ref a0), none, none, none, none, none] [] S (mI M) (Kr E d fX8_isSame 698 [some (.ref a0), o1, o2, o3, o4, o5, o6, o7, o8, o9] [J t0] Q)) (g1 : aKd S a0 = 10) : X E d fX8_isSame 694 [some (.ref a0), o1, o2, o3, o4, o5, o6, o7, o8, o9] [J t0] S (mI M) Q := by
  refine X_aload_n 695 (by decide +kernel : decode cX8_isSame 694 = .ok (.aload_n 0, 1)) rfl rfl rfl ?_
  exact X_cv (as := []) (rest := [J t0]) (by decide +kernel : decode cX8_isSame 695 = .ok (.invokevirtual 98, 3)) (Or.inl ⟨rfl, rfl, rfl⟩) rfl rfl rfl rfl rfl (Nat.le_of_ble_eq_true rfl) (Or.inr (Or.inr (by rw [g1]; rfl))) hd1 k
theorem kX8_isSame_698 {o0 : Option Value} {o1 : Option Value} {o2 : Option Value} {o3 : Option Value} {o4 : Option Value} {o5 : Option Value} {a6 : Nat} {o7 : Option Value} {o8 : Option Value} {o9 : Option Value} {t0 : Int} {t1 : Int} (hd1 : 1 ≤ d) (k : X E (d - 1) fX8_all 0 [some (.ref a6), none, none, none, none, none] [] S (mI M) (Kr E d fX8_isSame 703 [o0, o1, o2, o3, o4, o5, some (.ref a6), o7, o8, o9] [J t0, J t1] Q)) (g1 : aKd S a6 = 10) : X E d fX8_isSame 698 [o0, o1, o2, o3, o4, o5, some (.ref a6), o7, o8, o9] [J t0, J t1] S (mI M) Q := by
  refine X_aload 700 (by decide +kernel : decode cX8_isSame 698 = .ok (.aload 6, 2)) rfl rfl rfl ?_
  exact X_cv (as := []) (rest := [J t0, J t1]) (by decide +kernel : decode cX8_isSame 700 = .ok (.invokevirtual 98, 3)) (Or.inl ⟨rfl, rfl, rfl⟩) rfl rfl rfl rfl rfl (Nat.le_of_ble_eq_true rfl) (Or.inr (Or.inr (by rw [g1]; rfl))) hd1 k
theorem kX8_isSame_703 {o0 : Option Value} {o1 : Option Value} {o2 : Option Value} {o3 : Option Value} {o4 : Option Value} {o5 : Option Value} {o6 : Option Value} {o7 : Option Value} {o8 : Option Value} {o9 : Option Value} {t0 : Int} {t1 : Int} {t2 : Int} (r1 : R32 t2) (r2 : R32 (t1 - t0)) (k1 : t2 ≠ (t1 - t0) → X E d fX8_isSame 719 [o0, o1, o2, o3, o4, o5, o6, o7, o8, o9] [] S (mI M) Q) (k2 : t2 = (t1 - t0) → X E d fX8_isSame 707 [o0, o1, o2, o3, o4, o5, o6, o7, o8, o9] [] S (mI M) Q) : X E d fX8_isSame 703 [o0, o1, o2, o3, o4, o5, o6, o7, o8, o9] [J t0, J t1, J t2] S (mI M) Q := by
  refine X_isub 704 (by decide +kernel : decode cX8_isSame 703 = .ok (.isub, 1)) rfl rfl ?_
  exact X_icmpne 719 707 (by decide +kernel : decode cX8_isSame 704 = .ok (.if_icmp .ne 15, 3)) rfl rfl (by decide) r1 r2 k1 k2
theorem kX8_isSame_707 {o0 : Option Value} {a1 : Nat} {o2 : Option Value} {o3 : Option Value} {o4 : Option Value} {x5 : Int} {o6 : Option Value} {o7 : Option Value} {o8 : Option Value} {o9 : Option Value} (hd1 : 1 ≤ d) (k : X E (d - 1) fX7_journey 0 [some (.ref a1), some (J x5), some (J 2), none] [] S (mI M) (Kr E d fX8_isSame 714 [o0, some (.ref a1), o2, o3, o4, some (J x5), o6, o7, o8, o9] [] Q)) (g1 : aKd S a1 = 9) : X E d fX8_isSame 707 [o0, some (.ref a1), o2, o3, o4, some (J x5), o6, o7, o8, o9] [] S (mI M) Q := by
  refine X_aload_n 708 (by decide +kernel : decode cX8_isSame 707 = .ok (.aload_n 1, 1)) rfl rfl rfl ?_
  refine X_iload 710 (by decide +kernel : decode cX8_isSame 708 = .ok (.iload 5, 2)) rfl rfl rfl ?_
  refine X_iconst 711 (by decide +kernel : decode cX8_isSame 710 = .ok (.iconst 2, 1)) rfl rfl ?_
  exact X_cv (as := [J 2, J x5]) (rest := []) (by decide +kernel : decode cX8_isSame 711 = .ok (.invokevirtual 128, 3)) (Or.inl ⟨rfl, rfl, rfl⟩) rfl rfl rfl rfl rfl (Nat.le_of_ble_eq_true rfl) (Or.inr (Or.inr (by rw [g1]; rfl))) hd1 k
theorem kX8_isSame_714 {o0 : Option Value} {o1 : Option Value} {o2 : Option Value} {o3 : Option Value} {o4 : Option Value} {o5 : Option Value} {o6 : Option Value} {x7 : Int} {o8 : Option Value} {o9 : Option Value} {t0 : Int} (r1 : R32 t0) (r2 : R32 x7) (k1 : t0 = x7 → X E d fX8_isSame 721 [o0, o1, o2, o3, o4, o5, o6, some (J x7), o8, o9] [] S (mI M) Q) (k2 : t0 ≠ x7 → X E d fX8_isSame 719 [o0, o1, o2, o3, o4, o5, o6, some (J x7), o8, o9] [] S (mI M) Q) : X E d fX8_isSame 714 [o0, o1, o2, o3, o4, o5, o6, some (J x7), o8, o9] [J t0] S (mI M) Q := by
  refine X_iload 716 (by decide +kernel : decode cX8_isSame 714 = .ok (.iload 7, 2)) rfl rfl rfl ?_
  exact X_icmpeq 721 719 (by decide +kernel : decode cX8_isSame 716 = .ok (.if_icmp .eq 5, 3)) rfl rfl (by decide) r1 r2 k1 k2
theorem kX8_isSame_719 {o0 : Option Value} {o1 : Option Value} {o2 : Option Value} {o3 : Option Value} {o4 : Option Value} {o5 : Option Value} {o6 : Option Value} {o7 : Option Value} {o8 : Option Value} {o9 : Option Value} (q : Q (some (some (J 0))) S (mI M)) : X E d fX8_isSame 719 [o0, o1, o2, o3, o4, o5, o6, o7, o8, o9] [] S (mI M) Q := by
  refine X_iconst 720 (by decide +kernel : decode cX8_isSame 719 = .ok (.iconst 0, 1)) rfl rfl ?_
  exact X_iret (by decide +kernel : decode cX8_isSame 720 = .ok (.ireturn, 1)) rfl rfl (by decide) q
theorem kX8_isSame_721 {o0 : Option Value} {o1 : Option Value} {o2 : Option Value} {o3 : Option Value} {o4 : Option Value} {x5 : Int} {o6 : Option Value} {o7 : Option Value} {o8 : Option Value} {o9 : Option Value} (k : X E d fX8_isSame 591 [o0, o1, o2, o3, o4, some (J (x5 + 1)), o6, o7, o8, o9] [] S (mI M) Q) : X E d fX8_isSame 721 [o0, o1, o2, o3, o4, some (J x5), o6, o7, o8, o9] [] S (mI M) Q := by
  refine X_iinc 724 (by decide +kernel : decode cX8_isSame 721 = .ok (.iinc 5 1, 3)) rfl rfl rfl rfl ?_
  exact X_goto 591 (by decide +kernel : decode cX8_isSame 724 = .ok (.goto (-133), 3)) rfl (by decide) k
theorem kX8_isSame_727 {o0 : Option Value} {a1 : Nat} {o2 : Option Value} {o3 : Option Value} {o4 : Option Value} {o5 : Option Value} {o6 : Option Value} {o7 : Option Value} {o8 : Option Value} {o9 : Option Value} (hd1 : 1 ≤ d) (k : X E (d - 1) fX7_worst 0 [some (.ref a1), none, none] [] S (mI M) (Kr E d fX8_isSame 731 [o0, some (.ref a1), o2, o3, o4, o5, o6, o7, o8, o9] [] Q)) (g1 : aKd S a1 = 9) : X E d fX8_isSame 727 [o0, some (.ref a1), o2, o3, o4, o5, o6, o7, o8, o9] [] S (mI M) Q := by
  refine X_aload_n 728 (by decide +kernel : decode cX8_isSame 727 = .ok (.aload_n 1, 1)) rfl rfl rfl ?_
  exact X_cv (as := []) (rest := []) (by decide +kernel : decode cX8_isSame 728 = .ok (.invokevirtual 131, 3)) (Or.inl ⟨rfl, rfl, rfl⟩) rfl rfl rfl rfl rfl (Nat.le_of_ble_eq_true rfl) (Or.inr (Or.inr (by rw [g1]; rfl))) hd1 k
theorem kX8_isSame_731 {o0 : Option Value} {o1 : Option Value} {o2 : Option Value} {x3 : Int} {o4 : Option Value} {o5 : Option Value} {o6 : Option Value} {o7 : Option Value} {o8 : Option Value} {o9 : Option Value} {t0 : Int} (r1 : R32 t0) (r2 : R32 x3) (k1 : t0 ≠ x3 → X E d fX8_isSame 771 [o0, o1, o2, some (J x3), o4, o5, o6, o7, o8, o9] [] S (mI M) Q) (k2 : t0 = x3 → X E d fX8_isSame 735 [o0, o1, o2, some (J x3), o4, o5, o6, o7, o8, o9] [] S (mI M) Q) : X E d fX8_isSame 731 [o0, o1, o2, some (J x3), o4, o5, o6, o7, o8, o9] [J t0] S (mI M) Q := by
  refine X_iload_n 732 (by decide +kernel : decode cX8_isSame 731 = .ok (.iload_n 3, 1)) rfl rfl rfl ?_
  exact X_icmpne 771 735 (by decide +kernel : decode cX8_isSame 732 = .ok (.if_icmp .ne 39, 3)) rfl rfl (by decide) r1 r2 k1 k2
theorem kX8_isSame_735 {o0 : Option Value} {a1 : Nat} {o2 : Option Value} {o3 : Option Value} {o4 : Option Value} {o5 : Option Value} {o6 : Option Value} {o7 : Option Value} {o8 : Option Value} {o9 : Option Value} (hd1 : 1 ≤ d) (k : X E (d - 1) fX7_mean 0 [some (.ref a1)] [] S (mI M) (Kr E d fX8_isSame 739 [o0, some (.ref a1), o2, o3, o4, o5, o6, o7, o8, o9] [] Q)) (g1 : aKd S a1 = 9) : X E d fX8_isSame 735 [o0, some (.ref a1), o2, o3, o4, o5, o6, o7, o8, o9] [] S (mI M) Q := by
  refine X_aload_n 736 (by decide +kernel : decode cX8_isSame 735 = .ok (.aload_n 1, 1)) rfl rfl rfl ?_
  exact X_cv (as := []) (rest := []) (by decide +kernel : decode cX8_isSame 736 = .ok (.invokevirtual 134, 3)) (Or.inl ⟨rfl, rfl, rfl⟩) rfl rfl rfl rfl rfl (Nat.le_of_ble_eq_true rfl) (Or.inr (Or.inr (by rw [g1]; rfl))) hd1 k
theorem kX8_isSame_739 {a0 : Nat} {o1 : Option Value} {o2 : Option Value} {o3 : Option Value} {o4 : Option Value} {o5 : Option Value} {o6 : Option Value} {o7 : Option Value} {o8 : Option Value} {o9 : Option Value} {w0 : UInt64} {b2 : Nat} (g1 : aKd S a0 = 10) (p3 : aP S a0 3 = some b2) (g4 : aKd S b2 = 100 ∨ aKd S b2 = 101 ∨ aKd S b2 = 102) (r5 : R32 ((aN S b2 : Int))) (k1 : (aN S b2 : Int) ≠ 0 → X E d fX8_isSame 751 [some (.ref a0), o1, o2, o3, o4, o5, o6, o7, o8, o9] [.double w0] S (mI M) Q) (k2 : (aN S b2 : Int) = 0 → X E d fX8_isSame 747 [some (.ref a0), o1, o2, o3, o4, o5, o6, o7, o8, o9] [.double w0] S (mI M) Q) : X E d fX8_isSame 739 [some (.ref a0), o1, o2, o3, o4, o5, o6, o7, o8, o9] [.double w0] S (mI M) Q := by
  refine X_aload_n 740 (by decide +kernel : decode cX8_isSame 739 = .ok (.aload_n 0, 1)) rfl rfl rfl ?_
  refine X_getR 743 (by decide +kernel : decode cX8_isSame 740 = .ok (.getfield 19, 3)) rfl rfl (by decide +kernel : aFd 10 19 = some (10, 3, true, false)) g1 p3 ?_
  refine X_alen 744 (by decide +kernel : decode cX8_isSame 743 = .ok (.arraylength, 1)) rfl rfl g4 ?_
  exact X_ifne 751 747 (by decide +kernel : decode cX8_isSame 744 = .ok (.ifCond .ne 7, 3)) rfl rfl (by decide) r5 k1 k2
theorem kX8_isSame_747 {o0 : Option Value} {o1 : Option Value} {o2 : Option Value} {o3 : Option Value} {o4 : Option Value} {o5 : Option Value} {o6 : Option Value} {o7 : Option Value} {o8 : Option Value} {o9 : Option Value} {w0 : UInt64} (k : X E d fX8_isSame 763 [o0, o1, o2, o3, o4, o5, o6, o7, o8, o9] [.double FP.dconst0, .double w0] S (mI M) Q) : X E d fX8_isSame 747 [o0, o1, o2, o3, o4, o5, o6, o7, o8, o9] [.double w0] S (mI M) Q := by
  refine X_dconst0 748 (by decide +kernel : decode cX8_isSame 747 = .ok (.dconst 0, 1)) rfl rfl ?_
  exact X_goto 763 (by decide +kernel : decode cX8_isSame 748 = .ok (.goto 15, 3)) rfl (by decide) k
theorem kX8_isSame_751 {a0 : Nat} {o1 : Option Value} {o2 : Option Value} {o3 : Option Value} {o4 : Option Value} {o5 : Option Value} {o6 : Option Value} {o7 : Option Value} {o8 : Option Value} {o9 : Option Value} {w0 : UInt64} (hd1 : 1 ≤ d) (k : X E (d - 1) fX8_all 0 [some (.ref a0), none, none, none, none, none] [] S (mI M) (Kr E d fX8_isSame 755 [some (.ref a0), o1, o2, o3, o4, o5, o6, o7, o8, o9] [.double w0] Q)) (g1 : aKd S a0 = 10) : X E d fX8_isSame 751 [some (.ref a0), o1, o2, o3, o4, o5, o6, o7, o8, o9] [.double w0] S (mI M) Q := by
  refine X_aload_n 752 (by decide +kernel : decode cX8_isSame 751 = .ok (.aload_n 0, 1)) rfl rfl rfl ?_
  exact X_cv (as := []) (rest := [.double w0]) (by decide +kernel : decode cX8_isSame 752 = .ok (.invokevirtual 98, 3)) (Or.inl ⟨rfl, rfl, rfl⟩) rfl rfl rfl rfl rfl (Nat.le_of_ble_eq_true rfl) (Or.inr (Or.inr (by rw [g1]; rfl))) hd1 k
theorem kX8_isSame_755 {a0 : Nat} {o1 : Option Value} {o2 : Option Value} {o3 : Option Value} {o4 : Option Value} {o5 : Option Value} {o6 : Option Value} {o7 : Option Value} {o8 : Option Value} {o9 : Option Value} {t0 : Int} {w1 : UInt64} {b2 : Nat} (g1 : aKd S a0 = 10) (p3 : aP S a0 3 = some b2) (g4 : aKd S b2 = 100 ∨ aKd S b2 = 101 ∨ aKd S b2 = 102) (h5 : FP.ddiv (FP.i2d (Int32.ofInt t0)) (FP.i2d (Int32.ofInt (aN S b2 : Int))) &&& 0x7fffffffffffffff ≤ 0x7ff0000000000000) (k : X E d fX8_isSame 763 [some (.ref a0), o1, o2, o3, o4, o5, o6, o7, o8, o9] [.double (FP.ddiv (FP.i2d (Int32.ofInt t0)) (FP.i2d (Int32.ofInt (aN S b2 : Int)))), .double w1] S (mI M) Q) : X E d fX8_isSame 755 [some (.ref a0), o1, o2, o3, o4, o5, o6, o7, o8, o9] [J t0, .double w1] S (mI M) Q := by
  refine X_i2d 756 (by decide +kernel : decode cX8_isSame 755 = .ok (.i2d, 1)) rfl rfl ?_
  refine X_aload_n 757 (by decide +kernel : decode cX8_isSame 756 = .ok (.aload_n 0, 1)) rfl rfl rfl ?_
  refine X_getR 760 (by decide +kernel : decode cX8_isSame 757 = .ok (.getfield 19, 3)) rfl rfl (by decide +kernel : aFd 10 19 = some (10, 3, true, false)) g1 p3 ?_
  refine X_alen 761 (by decide +kernel : decode cX8_isSame 760 = .ok (.arraylength, 1)) rfl rfl g4 ?_
  refine X_i2d 762 (by decide +kernel : decode cX8_isSame 761 = .ok (.i2d, 1)) rfl rfl ?_
  refine X_ddiv 763 (by decide +kernel : decode cX8_isSame 762 = .ok (.ddiv, 1)) rfl rfl h5 ?_
  exact k
theorem kX8_isSame_763 {o0 : Option Value} {o1 : Option Value} {o2 : Option Value} {o3 : Option Value} {o4 : Option Value} {o5 : Option Value} {o6 : Option Value} {o7 : Option Value} {o8 : Option Value} {o9 : Option Value} {w0 : UInt64} {w1 : UInt64} {c9 : Bool} (hc : aCmp .ne (Op.cmpValue (FP.dcmp w1 w0) .l) 0 = c9) (k1 : c9 = true → X E d fX8_isSame 771 [o0, o1, o2, o3, o4, o5, o6, o7, o8, o9] [] S (mI M) Q) (k2 : c9 = false → X E d fX8_isSame 767 [o0, o1, o2, o3, o4, o5, o6, o7, o8, o9] [] S (mI M) Q) : X E d fX8_isSame 763 [o0, o1, o2, o3, o4, o5, o6, o7, o8, o9] [.double w0, .double w1] S (mI M) Q := by
  refine X_dcmp 764 (by decide +kernel : decode cX8_isSame 763 = .ok (.dcmp .l, 1)) rfl rfl ?_
  exact X_ifz 771 767 (by decide +kernel : decode cX8_isSame 764 = .ok (.ifCond .ne 7, 3)) rfl rfl (by decide) hc k1 k2
theorem kX8_isSame_767 {o0 : Option Value} {o1 : Option Value} {o2 : Option Value} {o3 : Option Value} {o4 : Option Value} {o5 : Option Value} {o6 : Option Value} {o7 : Option Value} {o8 : Option Value} {o9 : Option Value} (k : X E d fX8_isSame 772 [o0, o1, o2, o3, o4, o5, o6, o7, o8, o9] [J 1] S (mI M) Q) : X E d fX8_isSame 767 [o0, o1, o2, o3, o4, o5, o6, o7, o8, o9] [] S (mI M) Q := by
  refine X_iconst 768 (by decide +kernel : decode cX8_isSame 767 = .ok (.iconst 1, 1)) rfl rfl ?_
  exact X_goto 772 (by decide +kernel : decode cX8_isSame 768 = .ok (.goto 4, 3)) rfl (by decide) k
theorem kX8_isSame_771 {o0 : Option Value} {o1 : Option Value} {o2 : Option Value} {o3 : Option Value} {o4 : Option Value} {o5 : Option Value} {o6 : Option Value} {o7 : Option Value} {o8 : Option Value} {o9 : Option Value} (k : X E d fX8_isSame 772 [o0, o1, o2, o3, o4, o5, o6, o7, o8, o9] [J 0] S (mI M) Q) : X E d fX8_isSame 771 [o0, o1, o2, o3, o4, o5, o6, o7, o8, o9] [] S (mI M) Q := by
  refine X_iconst 772 (by decide +kernel : decode cX8_isSame 771 = .ok (.iconst 0, 1)) rfl rfl ?_
  exact k
theorem kX8_isSame_772 {o0 : Option Value} {o1 : Option Value} {o2 : Option Value} {o3 : Option Value} {o4 : Option Value} {o5 : Option Value} {o6 : Option Value} {o7 : Option Value} {o8 : Option Value} {o9 : Option Value} {t0 : Int} (h1 : narrow .boolean (J t0) = J t0) (q : Q (some (some (J t0))) S (mI M)) : X E d fX8_isSame 772 [o0, o1, o2, o3, o4, o5, o6, o7, o8, o9] [J t0] S (mI M) Q := by
  exact X_iret (by decide +kernel : decode cX8_isSame 772 = .ok (.ireturn, 1)) rfl rfl h1 q
theorem kX8_counts_0 {a0 : Nat} {o1 : Option Value} {o2 : Option Value} {o3 : Option Value} {o4 : Option Value} {o5 : Option Value} {M_4 : Nat → Nat → Int} {b9 : Nat} {M_14 : Nat → Nat → Int} {b16 : Nat} {b22 : Nat} {M_27 : Nat → Nat → Int} {b29 : Nat} {b35 : Nat} {M_40 : Nat → Nat → Int} (g1 : aKd (aNew S 100 13 13) a0 = 10) (g2 : aK (aNew S 100 13 13) (aX S) = 100) (h3 : (0 : Int) ≤ 0 ∧ 0 < (aN (aNew S 100 13 13) (aX S) : Int)) (eM_4 : mW (aU M (aX S) (fun _ => 0)) (aX S) 0 ((aU M (aX S) (fun _ => 0)) a0 0) = M_4) (h7 : (0 : Int) ≤ 1 ∧ 1 < (aN (aNew S 100 13 13) (aX S) : Int)) (p10 : aP (aNew S 100 13 13) a0 2 = some b9) (g11 : aKd (aNew S 100 13 13) b9 = 100 ∨ aKd (aNew S 100 13 13) b9 = 101 ∨ aKd (aNew S 100 13 13) b9 = 102) (h13 : (0 : Int) ≤ 2 ∧ 2 < (aN (aNew S 100 13 13) (aX S) : Int)) (eM_14 : mW (mW M_4 (aX S) 1 (M_4 a0 1)) (aX S) 2 (aN (aNew S 100 13 13) b9 : Int) = M_14) (p17 : aP (aNew S 100 13 13) a0 3 = some b16) (g18 : aKd (aNew S 100 13 13) b16 = 100 ∨ aKd (aNew S 100 13 13) b16 = 101 ∨ aKd (aNew S 100 13 13) b16 = 102) (h20 : (0 : Int) ≤ 3 ∧ 3 < (aN (aNew S 100 13 13) (aX S) : Int)) (p23 : aP (aNew S 100 13 13) a0 4 = some b22) (g24 : aKd (aNew S 100 13 13) b22 = 100 ∨ aKd (aNew S 100 13 13) b22 = 101 ∨ aKd (aNew S 100 13 13) b22 = 102) (h26 : (0 : Int) ≤ 4 ∧ 4 < (aN (aNew S 100 13 13) (aX S) : Int)) (eM_27 : mW (mW M_14 (aX S) 3 (aN (aNew S 100 13 13) b16 : Int)) (aX S) 4 (aN (aNew S 100 13 13) b22 : Int) = M_27) (p30 : aP (aNew S 100 13 13) a0 5 = some b29) (g31 : aKd (aNew S 100 13 13) b29 = 100 ∨ aKd (aNew S 100 13 13) b29 = 101 ∨ aKd (aNew S 100 13 13) b29 = 102) (h33 : (0 : Int) ≤ 5 ∧ 5 < (aN (aNew S 100 13 13) (aX S) : Int)) (p36 : aP (aNew S 100 13 13) a0 6 = some b35) (g37 : aKd (aNew S 100 13 13) b35 = 100 ∨ aKd (aNew S 100 13 13) b35 = 101 ∨ aKd (aNew S 100 13 13) b35 = 102) (h39 : (0 : Int) ≤ 6 ∧ 6 < (aN (aNew S 100 13 13) (aX S) : Int)) (eM_40 : mW (mW M_27 (aX S) 5 (aN (aNew S 100 13 13) b29 : Int)) (aX S) 6 (aN (aNew S 100 13 13) b35 : Int) = M_40) (hd1 : 1 ≤ d) (k : X E (d - 1) fX8_all 0 [some (.ref a0), none, none, none, none, none] [] (aNew S 100 13 13) (mI M_40) (Kr E d fX8_counts 66 [some (.ref a0), o1, o2, o3, o4, o5] [J 7, .ref (aX S), .ref (aX S)] Q)) : X E d fX8_counts 0 [some (.ref a0), o1, o2, o3, o4, o5] [] S (mI M) Q := by
  refine X_bipush 2 (13) (by decide +kernel : decode cX8_counts 0 = .ok (.bipush 13, 2)) rfl rfl (by decide +kernel) ?_
  refine X_newI 4 (by decide +kernel : decode cX8_counts 2 = .ok (.newarray .int, 2)) rfl rfl ⟨by decide, by decide⟩ ?_
  refine X_dup 5 (by decide +kernel : decode cX8_counts 4 = .ok (.dup, 1)) rfl rfl rfl ?_
  refine X_iconst 6 (by decide +kernel : decode cX8_counts 5 = .ok (.iconst 0, 1)) rfl rfl ?_
  refine X_aload_n 7 (by decide +kernel : decode cX8_counts 6 = .ok (.aload_n 0, 1)) rfl rfl rfl ?_
  refine X_getI 10 (by decide +kernel : decode cX8_counts 7 = .ok (.getfield 50, 3)) rfl rfl (by decide +kernel : aFd 10 50 = some (10, 0, false, false)) g1 ?_
  refine X_iast 11 (by decide +kernel : decode cX8_counts 10 = .ok (.iastore, 1)) rfl rfl g2 ⟨by decide, by decide⟩ h3 ?_
  show X E d fX8_counts 11 [some (.ref a0), o1, o2, o3, o4, o5] [.ref (aX S)] (aNew S 100 13 13) (mI (mW (aU M (aX S) (fun _ => 0)) (aX S) 0 ((aU M (aX S) (fun _ => 0)) a0 0))) Q
  rw [eM_4]
  refine X_dup 12 (by decide +kernel : decode cX8_counts 11 = .ok (.dup, 1)) rfl rfl rfl ?_
  refine X_iconst 13 (by decide +kernel : decode cX8_counts 12 = .ok (.iconst 1, 1)) rfl rfl ?_
  refine X_aload_n 14 (by decide +kernel : decode cX8_counts 13 = .ok (.aload_n 0, 1)) rfl rfl rfl ?_
  refine X_getI 17 (by decide +kernel : decode cX8_counts 14 = .ok (.getfield 7, 3)) rfl rfl (by decide +kernel : aFd 10 7 = some (10, 1, false, false)) g1 ?_
  refine X_iast 18 (by decide +kernel : decode cX8_counts 17 = .ok (.iastore, 1)) rfl rfl g2 ⟨by decide, by decide⟩ h7 ?_
  refine X_dup 19 (by decide +kernel : decode cX8_counts 18 = .ok (.dup, 1)) rfl rfl rfl ?_
  refine X_iconst 20 (by decide +kernel : decode cX8_counts 19 = .ok (.iconst 2, 1)) rfl rfl ?_
  refine X_aload_n 21 (by decide +kernel : decode cX8_counts 20 = .ok (.aload_n 0, 1)) rfl rfl rfl ?_
  refine X_getR 24 (by decide +kernel : decode cX8_counts 21 = .ok (.getfield 15, 3)) rfl rfl (by decide +kernel : aFd 10 15 = some (10, 2, true, false)) g1 p10 ?_
  refine X_alen 25 (by decide +kernel : decode cX8_counts 24 = .ok (.arraylength, 1)) rfl rfl g11 ?_
  refine X_iast 26 (by decide +kernel : decode cX8_counts 25 = .ok (.iastore, 1)) rfl rfl g2 ⟨by decide, by decide⟩ h13 ?_
  show X E d fX8_counts 26 [some (.ref a0), o1, o2, o3, o4, o5] [.ref (aX S)] (aNew S 100 13 13) (mI (mW (mW M_4 (aX S) 1 (M_4 a0 1)) (aX S) 2 (aN (aNew S 100 13 13) b9 : Int))) Q
  rw [eM_14]
  refine X_dup 27 (by decide +kernel : decode cX8_counts 26 = .ok (.dup, 1)) rfl rfl rfl ?_
  refine X_iconst 28 (by decide +kernel : decode cX8_counts 27 = .ok (.iconst 3, 1)) rfl rfl ?_
  refine X_aload_n 29 (by decide +kernel : decode cX8_counts 28 = .ok (.aload_n 0, 1)) rfl rfl rfl ?_
  refine X_getR 32 (by decide +kernel : decode cX8_counts 29 = .ok (.getfield 19, 3)) rfl rfl (by decide +kernel : aFd 10 19 = some (10, 3, true, false)) g1 p17 ?_
  refine X_alen 33 (by decide +kernel : decode cX8_counts 32 = .ok (.arraylength, 1)) rfl rfl g18 ?_
  refine X_iast 34 (by decide +kernel : decode cX8_counts 33 = .ok (.iastore, 1)) rfl rfl g2 ⟨by decide, by decide⟩ h20 ?_
  refine X_dup 35 (by decide +kernel : decode cX8_counts 34 = .ok (.dup, 1)) rfl rfl rfl ?_
  refine X_iconst 36 (by decide +kernel : decode cX8_counts 35 = .ok (.iconst 4, 1)) rfl rfl ?_
  refine X_aload_n 37 (by decide +kernel : decode cX8_counts 36 = .ok (.aload_n 0, 1)) rfl rfl rfl ?_
  refine X_getR 40 (by decide +kernel : decode cX8_counts 37 = .ok (.getfield 22, 3)) rfl rfl (by decide +kernel : aFd 10 22 = some (10, 4, true, false)) g1 p23 ?_
  refine X_alen 41 (by decide +kernel : decode cX8_counts 40 = .ok (.arraylength, 1)) rfl rfl g24 ?_
  refine X_iast 42 (by decide +kernel : decode cX8_counts 41 = .ok (.iastore, 1)) rfl rfl g2 ⟨by decide, by decide⟩ h26 ?_
  show X E d fX8_counts 42 [some (.ref a0), o1, o2, o3, o4, o5] [.ref (aX S)] (aNew S 100 13 13) (mI (mW (mW M_14 (aX S) 3 (aN (aNew S 100 13 13) b16 : Int)) (aX S) 4 (aN (aNew S 100 13 13) b22 : Int))) Q
  rw [eM_27]
  refine X_dup 43 (by decide +kernel : decode cX8_counts 42 = .ok (.dup, 1)) rfl rfl rfl ?_
  refine X_iconst 44 (by decide +kernel : decode cX8_counts 43 = .ok (.iconst 5, 1)) rfl rfl ?_
  refine X_aload_n 45 (by decide +kernel : decode cX8_counts 44 = .ok (.aload_n 0, 1)) rfl rfl rfl ?_
  refine X_getR 48 (by decide +kernel : decode cX8_counts 45 = .ok (.getfield 25, 3)) rfl rfl (by decide +kernel : aFd 10 25 = some (10, 5, true, false)) g1 p30 ?_
  refine X_alen 49 (by decide +kernel : decode cX8_counts 48 = .ok (.arraylength, 1)) rfl rfl g31 ?_
  refine X_iast 50 (by decide +kernel : decode cX8_counts 49 = .ok (.iastore, 1)) rfl rfl g2 ⟨by decide, by decide⟩ h33 ?_
  refine X_dup 51 (by decide +kernel : decode cX8_counts 50 = .ok (.dup, 1)) rfl rfl rfl ?_
  refine X_bipush 53 (6) (by decide +kernel : decode cX8_counts 51 = .ok (.bipush 6, 2)) rfl rfl (by decide +kernel) ?_
  refine X_aload_n 54 (by decide +kernel : decode cX8_counts 53 = .ok (.aload_n 0, 1)) rfl rfl rfl ?_
  refine X_getR 57 (by decide +kernel : decode cX8_counts 54 = .ok (.getfield 28, 3)) rfl rfl (by decide +kernel : aFd 10 28 = some (10, 6, true, false)) g1 p36 ?_
  refine X_alen 58 (by decide +kernel : decode cX8_counts 57 = .ok (.arraylength, 1)) rfl rfl g37 ?_
  refine X_iast 59 (by decide +kernel : decode cX8_counts 58 = .ok (.iastore, 1)) rfl rfl g2 ⟨by decide, by decide⟩ h39 ?_
  show X E d fX8_counts 59 [some (.ref a0), o1, o2, o3, o4, o5] [.ref (aX S)] (aNew S 100 13 13) (mI (mW (mW M_27 (aX S) 5 (aN (aNew S 100 13 13) b29 : Int)) (aX S) 6 (aN (aNew S 100 13 13) b35 : Int))) Q
  rw [eM_40]
  refine X_dup 60 (by decide +kernel : decode cX8_counts 59 = .ok (.dup, 1)) rfl rfl rfl ?_
  refine X_bipush 62 (7) (by decide +kernel : decode cX8_counts 60 = .ok (.bipush 7, 2)) rfl rfl (by decide +kernel) ?_
  refine X_aload_n 63 (by decide +kernel : decode cX8_counts 62 = .ok (.aload_n 0, 1)) rfl rfl rfl ?_
  exact X_cv (as := []) (rest := [J 7, .ref (aX S), .ref (aX S)]) (by decide +kernel : decode cX8_counts 63 = .ok (.invokevirtual 98, 3)) (Or.inl ⟨rfl, rfl, rfl⟩) rfl rfl rfl rfl rfl (Nat.le_of_ble_eq_true rfl) (Or.inr (Or.inr (by rw [g1]; rfl))) hd1 k
theorem kX8_counts_66 {a0 : Nat} {o1 : Option Value} {o2 : Option Value} {o3 : Option Value} {o4 : Option Value} {o5 : Option Value} {t0 : Int} {t1 : Int} {u2 : Nat} {u3 : Nat} (g1 : aK S u2 = 100) (r2 : R32 t1) (h3 : (0 : Int) ≤ t1 ∧ t1 < (aN S u2 : Int)) (hd1 : 1 ≤ d) (k : X E (d - 1) fX8_broken 0 [some (.ref a0), some (J (-1)), none, none, none, none, none] [] S (mI (mW M u2 t1.toNat t0)) (Kr E d fX8_counts 75 [some (.ref a0), o1, o2, o3, o4, o5] [J 8, .ref u3, .ref u3] Q)) (g4 : aKd S a0 = 10) : X E d fX8_counts 66 [some (.ref a0), o1, o2, o3, o4, o5] [J t0, J t1, .ref u2, .ref u3] S (mI M) Q := by
  refine X_iast 67 (by decide +kernel : decode cX8_counts 66 = .ok (.iastore, 1)) rfl rfl g1 r2 h3 ?_
  refine X_dup 68 (by decide +kernel : decode cX8_counts 67 = .ok (.dup, 1)) rfl rfl rfl ?_
  refine X_bipush 70 (8) (by decide +kernel : decode cX8_counts 68 = .ok (.bipush 8, 2)) rfl rfl (by decide +kernel) ?_
  refine X_aload_n 71 (by decide +kernel : decode cX8_counts 70 = .ok (.aload_n 0, 1)) rfl rfl rfl ?_
  refine X_iconst 72 (by decide +kernel : decode cX8_counts 71 = .ok (.iconst (-1), 1)) rfl rfl ?_
  exact X_cv (as := [J (-1)]) (rest := [J 8, .ref u3, .ref u3]) (by decide +kernel : decode cX8_counts 72 = .ok (.invokevirtual 53, 3)) (Or.inl ⟨rfl, rfl, rfl⟩) rfl rfl rfl rfl rfl (Nat.le_of_ble_eq_true rfl) (Or.inr (Or.inr (by rw [g4]; rfl))) hd1 k
theorem kX8_counts_75 {a0 : Nat} {o1 : Option Value} {o2 : Option Value} {o3 : Option Value} {o4 : Option Value} {o5 : Option Value} {t0 : Int} {t1 : Int} {u2 : Nat} {u3 : Nat} {b13 : Nat} (g1 : aK S u2 = 100) (r2 : R32 t1) (h3 : (0 : Int) ≤ t1 ∧ t1 < (aN S u2 : Int)) (g4 : aK S u3 = 100) (h5 : (0 : Int) ≤ 9 ∧ 9 < (aN S u3 : Int)) (h7 : (0 : Int) ≤ 10 ∧ 10 < (aN S u3 : Int)) (h9 : (0 : Int) ≤ 11 ∧ 11 < (aN S u3 : Int)) (h11 : (0 : Int) ≤ 12 ∧ 12 < (aN S u3 : Int)) (g12 : aKd S a0 = 10) (p14 : aP S a0 4 = some b13) (g15 : aKd S b13 = 100 ∨ aKd S b13 = 101 ∨ aKd S b13 = 102) (k : X E d fX8_counts 108 [some (.ref a0), some (.ref u3), some (.ref b13), some (J (aN S b13 : Int)), some (J 0), o5] [] S (mI (mW (mW (mW (mW (mW M u2 t1.toNat t0) u3 9 0) u3 10 0) u3 11 0) u3 12 0)) Q) : X E d fX8_counts 75 [some (.ref a0), o1, o2, o3, o4, o5] [J t0, J t1, .ref u2, .ref u3] S (mI M) Q := by
  refine X_iast 76 (by decide +kernel : decode cX8_counts 75 = .ok (.iastore, 1)) rfl rfl g1 r2 h3 ?_
  refine X_dup 77 (by decide +kernel : decode cX8_counts 76 = .ok (.dup, 1)) rfl rfl rfl ?_
  refine X_bipush 79 (9) (by decide +kernel : decode cX8_counts 77 = .ok (.bipush 9, 2)) rfl rfl (by decide +kernel) ?_
  refine X_iconst 80 (by decide +kernel : decode cX8_counts 79 = .ok (.iconst 0, 1)) rfl rfl ?_
  refine X_iast 81 (by decide +kernel : decode cX8_counts 80 = .ok (.iastore, 1)) rfl rfl g4 ⟨by decide, by decide⟩ h5 ?_
  refine X_dup 82 (by decide +kernel : decode cX8_counts 81 = .ok (.dup, 1)) rfl rfl rfl ?_
  refine X_bipush 84 (10) (by decide +kernel : decode cX8_counts 82 = .ok (.bipush 10, 2)) rfl rfl (by decide +kernel) ?_
  refine X_iconst 85 (by decide +kernel : decode cX8_counts 84 = .ok (.iconst 0, 1)) rfl rfl ?_
  refine X_iast 86 (by decide +kernel : decode cX8_counts 85 = .ok (.iastore, 1)) rfl rfl g4 ⟨by decide, by decide⟩ h7 ?_
  refine X_dup 87 (by decide +kernel : decode cX8_counts 86 = .ok (.dup, 1)) rfl rfl rfl ?_
  refine X_bipush 89 (11) (by decide +kernel : decode cX8_counts 87 = .ok (.bipush 11, 2)) rfl rfl (by decide +kernel) ?_
  refine X_iconst 90 (by decide +kernel : decode cX8_counts 89 = .ok (.iconst 0, 1)) rfl rfl ?_
  refine X_iast 91 (by decide +kernel : decode cX8_counts 90 = .ok (.iastore, 1)) rfl rfl g4 ⟨by decide, by decide⟩ h9 ?_
  refine X_dup 92 (by decide +kernel : decode cX8_counts 91 = .ok (.dup, 1)) rfl rfl rfl ?_
  refine X_bipush 94 (12) (by decide +kernel : decode cX8_counts 92 = .ok (.bipush 12, 2)) rfl rfl (by decide +kernel) ?_
  refine X_iconst 95 (by decide +kernel : decode cX8_counts 94 = .ok (.iconst 0, 1)) rfl rfl ?_
  refine X_iast 96 (by decide +kernel : decode cX8_counts 95 = .ok (.iastore, 1)) rfl rfl g4 ⟨by decide, by decide⟩ h11 ?_
  refine X_astore_n 97 (by decide +kernel : decode cX8_counts 96 = .ok (.astore_n 1, 1)) rfl rfl (Nat.le_of_ble_eq_true rfl) rfl ?_
  refine X_aload_n 98 (by decide +kernel : decode cX8_counts 97 = .ok (.aload_n 0, 1)) rfl rfl rfl ?_
  refine X_getR 101 (by decide +kernel : decode cX8_counts 98 = .ok (.getfield 22, 3)) rfl rfl (by decide +kernel : aFd 10 22 = some (10, 4, true, false)) g12 p14 ?_
  refine X_astore_n 102 (by decide +kernel : decode cX8_counts 101 = .ok (.astore_n 2, 1)) rfl rfl (Nat.le_of_ble_eq_true rfl) rfl ?_
  refine X_aload_n 103 (by decide +kernel : decode cX8_counts 102 = .ok (.aload_n 2, 1)) rfl rfl rfl ?_
  refine X_alen 104 (by decide +kernel : decode cX8_counts 103 = .ok (.arraylength, 1)) rfl rfl g15 ?_
  refine X_istore_n 105 (by decide +kernel : decode cX8_counts 104 = .ok (.istore_n 3, 1)) rfl rfl (Nat.le_of_ble_eq_true rfl) rfl ?_
  refine X_iconst 106 (by decide +kernel : decode cX8_counts 105 = .ok (.iconst 0, 1)) rfl rfl ?_
  refine X_istore 108 (by decide +kernel : decode cX8_counts 106 = .ok (.istore 4, 2)) rfl rfl (Nat.le_of_ble_eq_true rfl) rfl ?_
  exact k
theorem kX8_counts_108 {o0 : Option Value} {o1 : Option Value} {o2 : Option Value} {x3 : Int} {x4 : Int} {o5 : Option Value} (r1 : R32 x4) (r2 : R32 x3) (k1 : x3 ≤ x4 → X E d fX8_counts 148 [o0, o1, o2, some (J x3), some (J x4), o5] [] S (mI M) Q) (k2 : x4 < x3 → X E d fX8_counts 114 [o0, o1, o2, some (J x3), some (J x4), o5] [] S (mI M) Q) : X E d fX8_counts 108 [o0, o1, o2, some (J x3), some (J x4), o5] [] S (mI M) Q := by
  refine X_iload 110 (by decide +kernel : decode cX8_counts 108 = .ok (.iload 4, 2)) rfl rfl rfl ?_
  refine X_iload_n 111 (by decide +kernel : decode cX8_counts 110 = .ok (.iload_n 3, 1)) rfl rfl rfl ?_
  exact X_icmpge 148 114 (by decide +kernel : decode cX8_counts 111 = .ok (.if_icmp .ge 37, 3)) rfl rfl (by decide) r1 r2 k1 k2
theorem kX8_counts_114 {o0 : Option Value} {a1 : Nat} {a2 : Nat} {o3 : Option Value} {x4 : Int} {o5 : Option Value} {b4 : Nat} {M_18 : Nat → Nat → Int} (g1 : aKd S a2 = 102) (r2 : R32 x4) (h3 : (0 : Int) ≤ x4 ∧ x4 < (aN S a2 : Int)) (p5 : aP S a2 x4.toNat = some b4) (g6 : aKd S a1 = 100) (h7 : (0 : Int) ≤ 9 ∧ 9 < (aN S a1 : Int)) (g8 : aKd S b4 = 100) (h9 : (0 : Int) ≤ 2 ∧ 2 < (aN S b4 : Int)) (g10 : aK S a1 = 100) (h13 : (0 : Int) ≤ 10 ∧ 10 < (aN S a1 : Int)) (h15 : (0 : Int) ≤ 3 ∧ 3 < (aN S b4 : Int)) (eM_18 : mW (mW M a1 9 (nz ((M a1 9) + (M b4 2)))) a1 10 (nz (((mW M a1 9 (nz ((M a1 9) + (M b4 2)))) a1 10) + ((mW M a1 9 (nz ((M a1 9) + (M b4 2)))) b4 3))) = M_18) (k : X E d fX8_counts 108 [o0, some (.ref a1), some (.ref a2), o3, some (J (x4 + 1)), some (.ref b4)] [] S (mI M_18) Q) : X E d fX8_counts 114 [o0, some (.ref a1), some (.ref a2), o3, some (J x4), o5] [] S (mI M) Q := by
  refine X_aload_n 115 (by decide +kernel : decode cX8_counts 114 = .ok (.aload_n 2, 1)) rfl rfl rfl ?_
  refine X_iload 117 (by decide +kernel : decode cX8_counts 115 = .ok (.iload 4, 2)) rfl rfl rfl ?_
  refine X_aald 118 (by decide +kernel : decode cX8_counts 117 = .ok (.aaload, 1)) rfl rfl g1 r2 h3 p5 ?_
  refine X_astore 120 (by decide +kernel : decode cX8_counts 118 = .ok (.astore 5, 2)) rfl rfl (Nat.le_of_ble_eq_true rfl) rfl ?_
  refine X_aload_n 121 (by decide +kernel : decode cX8_counts 120 = .ok (.aload_n 1, 1)) rfl rfl rfl ?_
  refine X_bipush 123 (9) (by decide +kernel : decode cX8_counts 121 = .ok (.bipush 9, 2)) rfl rfl (by decide +kernel) ?_
  refine X_dup2 124 (by decide +kernel : decode cX8_counts 123 = .ok (.dup2, 1)) rfl rfl rfl rfl ?_
  refine X_iald 125 (by decide +kernel : decode cX8_counts 124 = .ok (.iaload, 1)) rfl rfl g6 ⟨by decide, by decide⟩ h7 ?_
  refine X_aload 127 (by decide +kernel : decode cX8_counts 125 = .ok (.aload 5, 2)) rfl rfl rfl ?_
  refine X_iconst 128 (by decide +kernel : decode cX8_counts 127 = .ok (.iconst 2, 1)) rfl rfl ?_
  refine X_iald 129 (by decide +kernel : decode cX8_counts 128 = .ok (.iaload, 1)) rfl rfl g8 ⟨by decide, by decide⟩ h9 ?_
  refine X_iadd 130 (by decide +kernel : decode cX8_counts 129 = .ok (.iadd, 1)) rfl rfl ?_
  refine X_iastz 131 (by decide +kernel : decode cX8_counts 130 = .ok (.iastore, 1)) rfl rfl g10 ⟨by decide, by decide⟩ h7 ?_
  refine X_aload_n 132 (by decide +kernel : decode cX8_counts 131 = .ok (.aload_n 1, 1)) rfl rfl rfl ?_
  refine X_bipush 134 (10) (by decide +kernel : decode cX8_counts 132 = .ok (.bipush 10, 2)) rfl rfl (by decide +kernel) ?_
  refine X_dup2 135 (by decide +kernel : decode cX8_counts 134 = .ok (.dup2, 1)) rfl rfl rfl rfl ?_
  refine X_iald 136 (by decide +kernel : decode cX8_counts 135 = .ok (.iaload, 1)) rfl rfl g6 ⟨by decide, by decide⟩ h13 ?_
  refine X_aload 138 (by decide +kernel : decode cX8_counts 136 = .ok (.aload 5, 2)) rfl rfl rfl ?_
  refine X_iconst 139 (by decide +kernel : decode cX8_counts 138 = .ok (.iconst 3, 1)) rfl rfl ?_
  refine X_iald 140 (by decide +kernel : decode cX8_counts 139 = .ok (.iaload, 1)) rfl rfl g8 ⟨by decide, by decide⟩ h15 ?_
  refine X_iadd 141 (by decide +kernel : decode cX8_counts 140 = .ok (.iadd, 1)) rfl rfl ?_
  refine X_iastz 142 (by decide +kernel : decode cX8_counts 141 = .ok (.iastore, 1)) rfl rfl g10 ⟨by decide, by decide⟩ h13 ?_
  show X E d fX8_counts 142 [o0, some (.ref a1), some (.ref a2), o3, some (J x4), some (.ref b4)] [] S (mI (mW (mW M a1 9 (nz ((M a1 9) + (M b4 2)))) a1 10 (nz (((mW M a1 9 (nz ((M a1 9) + (M b4 2)))) a1 10) + ((mW M a1 9 (nz ((M a1 9) + (M b4 2)))) b4 3))))) Q
  rw [eM_18]
  refine X_iinc 145 (by decide +kernel : decode cX8_counts 142 = .ok (.iinc 4 1, 3)) rfl rfl rfl rfl ?_
  exact X_goto 108 (by decide +kernel : decode cX8_counts 145 = .ok (.goto (-37), 3)) rfl (by decide) k
theorem kX8_counts_148 {a0 : Nat} {o1 : Option Value} {o2 : Option Value} {o3 : Option Value} {o4 : Option Value} {o5 : Option Value} {b2 : Nat} (g1 : aKd S a0 = 10) (p3 : aP S a0 2 = some b2) (g4 : aKd S b2 = 100 ∨ aKd S b2 = 101 ∨ aKd S b2 = 102) (k : X E d fX8_counts 159 [some (.ref a0), o1, some (.ref b2), some (J (aN S b2 : Int)), some (J 0), o5] [] S (mI M) Q) : X E d fX8_counts 148 [some (.ref a0), o1, o2, o3, o4, o5] [] S (mI M) Q := by
  refine X_aload_n 149 (by decide +kernel : decode cX8_counts 148 = .ok (.aload_n 0, 1)) rfl rfl rfl ?_
  refine X_getR 152 (by decide +kernel : decode cX8_counts 149 = .ok (.getfield 15, 3)) rfl rfl (by decide +kernel : aFd 10 15 = some (10, 2, true, false)) g1 p3 ?_
  refine X_astore_n 153 (by decide +kernel : decode cX8_counts 152 = .ok (.astore_n 2, 1)) rfl rfl (Nat.le_of_ble_eq_true rfl) rfl ?_
  refine X_aload_n 154 (by decide +kernel : decode cX8_counts 153 = .ok (.aload_n 2, 1)) rfl rfl rfl ?_
  refine X_alen 155 (by decide +kernel : decode cX8_counts 154 = .ok (.arraylength, 1)) rfl rfl g4 ?_
  refine X_istore_n 156 (by decide +kernel : decode cX8_counts 155 = .ok (.istore_n 3, 1)) rfl rfl (Nat.le_of_ble_eq_true rfl) rfl ?_
  refine X_iconst 157 (by decide +kernel : decode cX8_counts 156 = .ok (.iconst 0, 1)) rfl rfl ?_
  refine X_istore 159 (by decide +kernel : decode cX8_counts 157 = .ok (.istore 4, 2)) rfl rfl (Nat.le_of_ble_eq_true rfl) rfl ?_
  exact k
theorem kX8_counts_159 {o0 : Option Value} {o1 : Option Value} {o2 : Option Value} {x3 : Int} {x4 : Int} {o5 : Option Value} (r1 : R32 x4) (r2 : R32 x3) (k1 : x3 ≤ x4 → X E d fX8_counts 188 [o0, o1, o2, some (J x3), some (J x4), o5] [] S (mI M) Q) (k2 : x4 < x3 → X E d fX8_counts 165 [o0, o1, o2, some (J x3), some (J x4), o5] [] S (mI M) Q) : X E d fX8_counts 159 [o0, o1, o2, some (J x3), some (J x4), o5] [] S (mI M) Q := by
  refine X_iload 161 (by decide +kernel : decode cX8_counts 159 = .ok (.iload 4, 2)) rfl rfl rfl ?_
  refine X_iload_n 162 (by decide +kernel : decode cX8_counts 161 = .ok (.iload_n 3, 1)) rfl rfl rfl ?_
  exact X_icmpge 188 165 (by decide +kernel : decode cX8_counts 162 = .ok (.if_icmp .ge 26, 3)) rfl rfl (by decide) r1 r2 k1 k2
theorem kX8_counts_165 {o0 : Option Value} {a1 : Nat} {a2 : Nat} {o3 : Option Value} {x4 : Int} {o5 : Option Value} {b4 : Nat} (g1 : aKd S a2 = 102) (r2 : R32 x4) (h3 : (0 : Int) ≤ x4 ∧ x4 < (aN S a2 : Int)) (p5 : aP S a2 x4.toNat = some b4) (g6 : aKd S a1 = 100) (h7 : (0 : Int) ≤ 11 ∧ 11 < (aN S a1 : Int)) (g8 : aKd S b4 = 100) (h9 : (0 : Int) ≤ 2 ∧ 2 < (aN S b4 : Int)) (g10 : aK S a1 = 100) (k : X E d fX8_counts 159 [o0, some (.ref a1), some (.ref a2), o3, some (J (x4 + 1)), some (.ref b4)] [] S (mI (mW M a1 11 (nz ((M a1 11) + (M b4 2))))) Q) : X E d fX8_counts 165 [o0, some (.ref a1), some (.ref a2), o3, some (J x4), o5] [] S (mI M) Q := by
  refine X_aload_n 166 (by decide +kernel : decode cX8_counts 165 = .ok (.aload_n 2, 1)) rfl rfl rfl ?_
  refine X_iload 168 (by decide +kernel : decode cX8_counts 166 = .ok (.iload 4, 2)) rfl rfl rfl ?_
  refine X_aald 169 (by decide +kernel : decode cX8_counts 168 = .ok (.aaload, 1)) rfl rfl g1 r2 h3 p5 ?_
  refine X_astore 171 (by decide +kernel : decode cX8_counts 169 = .ok (.astore 5, 2)) rfl rfl (Nat.le_of_ble_eq_true rfl) rfl ?_
  refine X_aload_n 172 (by decide +kernel : decode cX8_counts 171 = .ok (.aload_n 1, 1)) rfl rfl rfl ?_
  refine X_bipush 174 (11) (by decide +kernel : decode cX8_counts 172 = .ok (.bipush 11, 2)) rfl rfl (by decide +kernel) ?_
  refine X_dup2 175 (by decide +kernel : decode cX8_counts 174 = .ok (.dup2, 1)) rfl rfl rfl rfl ?_
  refine X_iald 176 (by decide +kernel : decode cX8_counts 175 = .ok (.iaload, 1)) rfl rfl g6 ⟨by decide, by decide⟩ h7 ?_
  refine X_aload 178 (by decide +kernel : decode cX8_counts 176 = .ok (.aload 5, 2)) rfl rfl rfl ?_
  refine X_iconst 179 (by decide +kernel : decode cX8_counts 178 = .ok (.iconst 2, 1)) rfl rfl ?_
  refine X_iald 180 (by decide +kernel : decode cX8_counts 179 = .ok (.iaload, 1)) rfl rfl g8 ⟨by decide, by decide⟩ h9 ?_
  refine X_iadd 181 (by decide +kernel : decode cX8_counts 180 = .ok (.iadd, 1)) rfl rfl ?_
  refine X_iastz 182 (by decide +kernel : decode cX8_counts 181 = .ok (.iastore, 1)) rfl rfl g10 ⟨by decide, by decide⟩ h7 ?_
  refine X_iinc 185 (by decide +kernel : decode cX8_counts 182 = .ok (.iinc 4 1, 3)) rfl rfl rfl rfl ?_
  exact X_goto 159 (by decide +kernel : decode cX8_counts 185 = .ok (.goto (-26), 3)) rfl (by decide) k
theorem kX8_counts_188 {o0 : Option Value} {a1 : Nat} {o2 : Option Value} {o3 : Option Value} {o4 : Option Value} {o5 : Option Value} (q : Q (some (some (.ref a1))) S (mI M)) : X E d fX8_counts 188 [o0, some (.ref a1), o2, o3, o4, o5] [] S (mI M) Q := by
  refine X_aload_n 189 (by decide +kernel : decode cX8_counts 188 = .ok (.aload_n 1, 1)) rfl rfl rfl ?_
  exact X_aret (by decide +kernel : decode cX8_counts 189 = .ok (.areturn, 1)) rfl rfl rfl q
theorem kX8_all_0 {a0 : Nat} {o1 : Option Value} {o2 : Option Value} {o3 : Option Value} {o4 : Option Value} {o5 : Option Value} {b2 : Nat} (g1 : aKd S a0 = 10) (p3 : aP S a0 3 = some b2) (g4 : aKd S b2 = 100 ∨ aKd S b2 = 101 ∨ aKd S b2 = 102) (k : X E d fX8_all 13 [some (.ref a0), some (J 0), some (.ref b2), some (J (aN S b2 : Int)), some (J 0), o5] [] S (mI M) Q) : X E d fX8_all 0 [some (.ref a0), o1, o2, o3, o4, o5] [] S (mI M) Q := by
  refine X_iconst 1 (by decide +kernel : decode cX8_all 0 = .ok (.iconst 0, 1)) rfl rfl ?_
  refine X_istore_n 2 (by decide +kernel : decode cX8_all 1 = .ok (.istore_n 1, 1)) rfl rfl (Nat.le_of_ble_eq_true rfl) rfl ?_
  refine X_aload_n 3 (by decide +kernel : decode cX8_all 2 = .ok (.aload_n 0, 1)) rfl rfl rfl ?_
  refine X_getR 6 (by decide +kernel : decode cX8_all 3 = .ok (.getfield 19, 3)) rfl rfl (by decide +kernel : aFd 10 19 = some (10, 3, true, false)) g1 p3 ?_
  refine X_astore_n 7 (by decide +kernel : decode cX8_all 6 = .ok (.astore_n 2, 1)) rfl rfl (Nat.le_of_ble_eq_true rfl) rfl ?_
  refine X_aload_n 8 (by decide +kernel : decode cX8_all 7 = .ok (.aload_n 2, 1)) rfl rfl rfl ?_
  refine X_alen 9 (by decide +kernel : decode cX8_all 8 = .ok (.arraylength, 1)) rfl rfl g4 ?_
  refine X_istore_n 10 (by decide +kernel : decode cX8_all 9 = .ok (.istore_n 3, 1)) rfl rfl (Nat.le_of_ble_eq_true rfl) rfl ?_
  refine X_iconst 11 (by decide +kernel : decode cX8_all 10 = .ok (.iconst 0, 1)) rfl rfl ?_
  refine X_istore 13 (by decide +kernel : decode cX8_all 11 = .ok (.istore 4, 2)) rfl rfl (Nat.le_of_ble_eq_true rfl) rfl ?_
  exact k
theorem kX8_all_13 {o0 : Option Value} {o1 : Option Value} {o2 : Option Value} {x3 : Int} {x4 : Int} {o5 : Option Value} (r1 : R32 x4) (r2 : R32 x3) (k1 : x3 ≤ x4 → X E d fX8_all 38 [o0, o1, o2, some (J x3), some (J x4), o5] [] S (mI M) Q) (k2 : x4 < x3 → X E d fX8_all 19 [o0, o1, o2, some (J x3), some (J x4), o5] [] S (mI M) Q) : X E d fX8_all 13 [o0, o1, o2, some (J x3), some (J x4), o5] [] S (mI M) Q := by
  refine X_iload 15 (by decide +kernel : decode cX8_all 13 = .ok (.iload 4, 2)) rfl rfl rfl ?_
  refine X_iload_n 16 (by decide +kernel : decode cX8_all 15 = .ok (.iload_n 3, 1)) rfl rfl rfl ?_
  exact X_icmpge 38 19 (by decide +kernel : decode cX8_all 16 = .ok (.if_icmp .ge 22, 3)) rfl rfl (by decide) r1 r2 k1 k2
theorem kX8_all_19 {o0 : Option Value} {x1 : Int} {a2 : Nat} {o3 : Option Value} {x4 : Int} {o5 : Option Value} {b4 : Nat} (g1 : aKd S a2 = 102) (r2 : R32 x4) (h3 : (0 : Int) ≤ x4 ∧ x4 < (aN S a2 : Int)) (p5 : aP S a2 x4.toNat = some b4) (g6 : aKd S b4 = 100) (h7 : (0 : Int) ≤ 1 ∧ 1 < (aN S b4 : Int)) (k : X E d fX8_all 13 [o0, some (J (x1 + (M b4 1))), some (.ref a2), o3, some (J (x4 + 1)), some (.ref b4)] [] S (mI M) Q) : X E d fX8_all 19 [o0, some (J x1), some (.ref a2), o3, some (J x4), o5] [] S (mI M) Q := by
  refine X_aload_n 20 (by decide +kernel : decode cX8_all 19 = .ok (.aload_n 2, 1)) rfl rfl rfl ?_
  refine X_iload 22 (by decide +kernel : decode cX8_all 20 = .ok (.iload 4, 2)) rfl rfl rfl ?_
  refine X_aald 23 (by decide +kernel : decode cX8_all 22 = .ok (.aaload, 1)) rfl rfl g1 r2 h3 p5 ?_
  refine X_astore 25 (by decide +kernel : decode cX8_all 23 = .ok (.astore 5, 2)) rfl rfl (Nat.le_of_ble_eq_true rfl) rfl ?_
  refine X_iload_n 26 (by decide +kernel : decode cX8_all 25 = .ok (.iload_n 1, 1)) rfl rfl rfl ?_
  refine X_aload 28 (by decide +kernel : decode cX8_all 26 = .ok (.aload 5, 2)) rfl rfl rfl ?_
  refine X_iconst 29 (by decide +kernel : decode cX8_all 28 = .ok (.iconst 1, 1)) rfl rfl ?_
  refine X_iald 30 (by decide +kernel : decode cX8_all 29 = .ok (.iaload, 1)) rfl rfl g6 ⟨by decide, by decide⟩ h7 ?_
  refine X_iadd 31 (by decide +kernel : decode cX8_all 30 = .ok (.iadd, 1)) rfl rfl ?_
  refine X_istore_n 32 (by decide +kernel : decode cX8_all 31 = .ok (.istore_n 1, 1)) rfl rfl (Nat.le_of_ble_eq_true rfl) rfl ?_
  refine X_iinc 35 (by decide +kernel : decode cX8_all 32 = .ok (.iinc 4 1, 3)) rfl rfl rfl rfl ?_
  exact X_goto 13 (by decide +kernel : decode cX8_all 35 = .ok (.goto (-22), 3)) rfl (by decide) k
theorem kX8_all_38 {o0 : Option Value} {x1 : Int} {o2 : Option Value} {o3 : Option Value} {o4 : Option Value} {o5 : Option Value} (q : Q (some (some (J x1))) S (mI M)) : X E d fX8_all 38 [o0, some (J x1), o2, o3, o4, o5] [] S (mI M) Q := by
  refine X_iload_n 39 (by decide +kernel : decode cX8_all 38 = .ok (.iload_n 1, 1)) rfl rfl rfl ?_
  exact X_iret (by decide +kernel : decode cX8_all 39 = .ok (.ireturn, 1)) rfl rfl rfl q
theorem kX8_copy_0 {o0 : Option Value} {o1 : Option Value} (hd1 : 1 ≤ d) (k : X E (d - 1) fX8_init 0 [some (.ref (aX S))] [] (aNew S 10 9 9) (mI (aU M (aX S) (fun _ => 0))) (Kr E d fX8_copy 7 [o0, o1] [.ref (aX S)] Q)) : X E d fX8_copy 0 [o0, o1] [] S (mI M) Q := by
  refine X_new 3 (by decide +kernel : decode cX8_copy 0 = .ok (.new 8, 3)) rfl rfl (by decide +kernel : aNd 10 8 = some (10, 9)) ?_
  refine X_dup 4 (by decide +kernel : decode cX8_copy 3 = .ok (.dup, 1)) rfl rfl rfl ?_
  exact X_cv (as := []) (rest := [.ref (aX S)]) (by decide +kernel : decode cX8_copy 4 = .ok (.invokespecial 93, 3)) (Or.inr ⟨rfl, rfl, rfl⟩) rfl rfl rfl rfl rfl (Nat.le_of_ble_eq_true rfl) (Or.inl rfl) hd1 k
theorem kX8_copy_7 {a0 : Nat} {o1 : Option Value} {u0 : Nat} {b6 : Nat} (g1 : aKd S a0 = 10) (g2 : aK S u0 = 10) (p7 : aP S a0 2 = some b6) (hd1 : 1 ≤ d) (k : X E (d - 1) fX8_same 0 [some (.ref b6), none, none] [] S (mI (mW (mW M u0 0 (M a0 0)) u0 1 ((mW M u0 0 (M a0 0)) a0 1))) (Kr E d fX8_copy 32 [some (.ref a0), some (.ref u0)] [.ref u0] Q)) : X E d fX8_copy 7 [some (.ref a0), o1] [.ref u0] S (mI M) Q := by
  refine X_astore_n 8 (by decide +kernel : decode cX8_copy 7 = .ok (.astore_n 1, 1)) rfl rfl (Nat.le_of_ble_eq_true rfl) rfl ?_
  refine X_aload_n 9 (by decide +kernel : decode cX8_copy 8 = .ok (.aload_n 1, 1)) rfl rfl rfl ?_
  refine X_aload_n 10 (by decide +kernel : decode cX8_copy 9 = .ok (.aload_n 0, 1)) rfl rfl rfl ?_
  refine X_getI 13 (by decide +kernel : decode cX8_copy 10 = .ok (.getfield 50, 3)) rfl rfl (by decide +kernel : aFd 10 50 = some (10, 0, false, false)) g1 ?_
  refine X_putI 16 (by decide +kernel : decode cX8_copy 13 = .ok (.putfield 50, 3)) rfl rfl (by decide +kernel : aFd 10 50 = some (10, 0, false, false)) (Or.inl rfl) g2 rfl rfl ?_
  refine X_aload_n 17 (by decide +kernel : decode cX8_copy 16 = .ok (.aload_n 1, 1)) rfl rfl rfl ?_
  refine X_aload_n 18 (by decide +kernel : decode cX8_copy 17 = .ok (.aload_n 0, 1)) rfl rfl rfl ?_
  refine X_getI 21 (by decide +kernel : decode cX8_copy 18 = .ok (.getfield 7, 3)) rfl rfl (by decide +kernel : aFd 10 7 = some (10, 1, false, false)) g1 ?_
  refine X_putI 24 (by decide +kernel : decode cX8_copy 21 = .ok (.putfield 7, 3)) rfl rfl (by decide +kernel : aFd 10 7 = some (10, 1, false, false)) (Or.inl rfl) g2 rfl rfl ?_
  refine X_aload_n 25 (by decide +kernel : decode cX8_copy 24 = .ok (.aload_n 1, 1)) rfl rfl rfl ?_
  refine X_aload_n 26 (by decide +kernel : decode cX8_copy 25 = .ok (.aload_n 0, 1)) rfl rfl rfl ?_
  refine X_getR 29 (by decide +kernel : decode cX8_copy 26 = .ok (.getfield 15, 3)) rfl rfl (by decide +kernel : aFd 10 15 = some (10, 2, true, false)) g1 p7 ?_
  exact X_cs (as := [.ref b6]) (rest := [.ref u0]) (by decide +kernel : decode cX8_copy 29 = .ok (.invokestatic 94, 3)) rfl rfl rfl rfl rfl rfl rfl (Nat.le_of_ble_eq_true rfl) hd1 k
theorem kX8_copy_32 {a0 : Nat} {a1 : Nat} {u0 : Nat} {u1 : Nat} {b3 : Nat} (g1 : aK S u1 = 10) (g2 : aKd S a0 = 10) (p4 : aP (aPut S u1 2 (some u0)) a0 3 = some b3) (hd1 : 1 ≤ d) (k : X E (d - 1) fX8_same 0 [some (.ref b3), none, none] [] (aPut S u1 2 (some u0)) (mI M) (Kr E d fX8_copy 43 [some (.ref a0), some (.ref a1)] [.ref a1] Q)) : X E d fX8_copy 32 [some (.ref a0), some (.ref a1)] [.ref u0, .ref u1] S (mI M) Q := by
  refine X_putR 35 (by decide +kernel : decode cX8_copy 32 = .ok (.putfield 15, 3)) rfl rfl (by decide +kernel : aFd 10 15 = some (10, 2, true, false)) (Or.inl rfl) g1 rfl ?_
  refine X_aload_n 36 (by decide +kernel : decode cX8_copy 35 = .ok (.aload_n 1, 1)) rfl rfl rfl ?_
  refine X_aload_n 37 (by decide +kernel : decode cX8_copy 36 = .ok (.aload_n 0, 1)) rfl rfl rfl ?_
  refine X_getR 40 (by decide +kernel : decode cX8_copy 37 = .ok (.getfield 19, 3)) rfl rfl (by decide +kernel : aFd 10 19 = some (10, 3, true, false)) g2 p4 ?_
  exact X_cs (as := [.ref b3]) (rest := [.ref a1]) (by decide +kernel : decode cX8_copy 40 = .ok (.invokestatic 94, 3)) rfl rfl rfl rfl rfl rfl rfl (Nat.le_of_ble_eq_true rfl) hd1 k
theorem kX8_copy_43 {a0 : Nat} {a1 : Nat} {u0 : Nat} {u1 : Nat} {b3 : Nat} (g1 : aK S u1 = 10) (g2 : aKd S a0 = 10) (p4 : aP (aPut S u1 3 (some u0)) a0 4 = some b3) (hd1 : 1 ≤ d) (k : X E (d - 1) fX8_same 0 [some (.ref b3), none, none] [] (aPut S u1 3 (some u0)) (mI M) (Kr E d fX8_copy 54 [some (.ref a0), some (.ref a1)] [.ref a1] Q)) : X E d fX8_copy 43 [some (.ref a0), some (.ref a1)] [.ref u0, .ref u1] S (mI M) Q := by
  refine X_putR 46 (by decide +kernel : decode cX8_copy 43 = .ok (.putfield 19, 3)) rfl rfl (by decide +kernel : aFd 10 19 = some (10, 3, true, false)) (Or.inl rfl) g1 rfl ?_
  refine X_aload_n 47 (by decide +kernel : decode cX8_copy 46 = .ok (.aload_n 1, 1)) rfl rfl rfl ?_
  refine X_aload_n 48 (by decide +kernel : decode cX8_copy 47 = .ok (.aload_n 0, 1)) rfl rfl rfl ?_
  refine X_getR 51 (by decide +kernel : decode cX8_copy 48 = .ok (.getfield 22, 3)) rfl rfl (by decide +kernel : aFd 10 22 = some (10, 4, true, false)) g2 p4 ?_
  exact X_cs (as := [.ref b3]) (rest := [.ref a1]) (by decide +kernel : decode cX8_copy 51 = .ok (.invokestatic 94, 3)) rfl rfl rfl rfl rfl rfl rfl (Nat.le_of_ble_eq_true rfl) hd1 k
theorem kX8_copy_54 {a0 : Nat} {a1 : Nat} {u0 : Nat} {u1 : Nat} {b3 : Nat} (g1 : aK S u1 = 10) (g2 : aKd S a0 = 10) (p4 : aP (aPut S u1 4 (some u0)) a0 5 = some b3) (hd1 : 1 ≤ d) (k : X E (d - 1) fX8_same 0 [some (.ref b3), none, none] [] (aPut S u1 4 (some u0)) (mI M) (Kr E d fX8_copy 65 [some (.ref a0), some (.ref a1)] [.ref a1] Q)) : X E d fX8_copy 54 [some (.ref a0), some (.ref a1)] [.ref u0, .ref u1] S (mI M) Q := by
  refine X_putR 57 (by decide +kernel : decode cX8_copy 54 = .ok (.putfield 22, 3)) rfl rfl (by decide +kernel : aFd 10 22 = some (10, 4, true, false)) (Or.inl rfl) g1 rfl ?_
  refine X_aload_n 58 (by decide +kernel : decode cX8_copy 57 = .ok (.aload_n 1, 1)) rfl rfl rfl ?_
  refine X_aload_n 59 (by decide +kernel : decode cX8_copy 58 = .ok (.aload_n 0, 1)) rfl rfl rfl ?_
  refine X_getR 62 (by decide +kernel : decode cX8_copy 59 = .ok (.getfield 25, 3)) rfl rfl (by decide +kernel : aFd 10 25 = some (10, 5, true, false)) g2 p4 ?_
  exact X_cs (as := [.ref b3]) (rest := [.ref a1]) (by decide +kernel : decode cX8_copy 62 = .ok (.invokestatic 94, 3)) rfl rfl rfl rfl rfl rfl rfl (Nat.le_of_ble_eq_true rfl) hd1 k
theorem kX8_copy_65 {a0 : Nat} {a1 : Nat} {u0 : Nat} {u1 : Nat} {b3 : Nat} (g1 : aK S u1 = 10) (g2 : aKd S a0 = 10) (p4 : aP (aPut S u1 5 (some u0)) a0 6 = some b3) (g5 : aK S a1 = 10) (q : Q (some (some (.ref a1))) (aPut (aPut S u1 5 (some u0)) a1 6 (some b3)) (mI M)) : X E d fX8_copy 65 [some (.ref a0), some (.ref a1)] [.ref u0, .ref u1] S (mI M) Q := by
  refine X_putR 68 (by decide +kernel : decode cX8_copy 65 = .ok (.putfield 25, 3)) rfl rfl (by decide +kernel : aFd 10 25 = some (10, 5, true, false)) (Or.inl rfl) g1 rfl ?_
  refine X_aload_n 69 (by decide +kernel : decode cX8_copy 68 = .ok (.aload_n 1, 1)) rfl rfl rfl ?_
  refine X_aload_n 70 (by decide +kernel : decode cX8_copy 69 = .ok (.aload_n 0, 1)) rfl rfl rfl ?_
  refine X_getR 73 (by decide +kernel : decode cX8_copy 70 = .ok (.getfield 28, 3)) rfl rfl (by decide +kernel : aFd 10 28 = some (10, 6, true, false)) g2 p4 ?_
  refine X_putR 76 (by decide +kernel : decode cX8_copy 73 = .ok (.putfield 28, 3)) rfl rfl (by decide +kernel : aFd 10 28 = some (10, 6, true, false)) (Or.inl rfl) g5 rfl ?_
  refine X_aload_n 77 (by decide +kernel : decode cX8_copy 76 = .ok (.aload_n 1, 1)) rfl rfl rfl ?_
  exact X_aret (by decide +kernel : decode cX8_copy 77 = .ok (.areturn, 1)) rfl rfl rfl q
theorem kX8_init_0 {a0 : Nat} {M_3 : Nat → Nat → Int} {S_5 : aS} {M_7 : Nat → Nat → Int} {S_9 : aS} (g1 : aK S a0 = 10) (g2 : aK (aNew S 102 0 0) a0 = 10) (eM_3 : aU (aU (mW M a0 1 200) (aX S) (fun _ => 0)) (aX (aPut (aNew S 102 0 0) a0 2 (some (aX S)))) (fun _ => 0) = M_3) (g4 : aK (aNew (aPut (aNew S 102 0 0) a0 2 (some (aX S))) 102 0 0) a0 = 10) (eS_5 : aPut (aNew (aPut (aNew S 102 0 0) a0 2 (some (aX S))) 102 0 0) a0 3 (some (aX (aPut (aNew S 102 0 0) a0 2 (some (aX S))))) = S_5) (g6 : aK (aNew S_5 102 0 0) a0 = 10) (eM_7 : aU (aU M_3 (aX S_5) (fun _ => 0)) (aX (aPut (aNew S_5 102 0 0) a0 4 (some (aX S_5)))) (fun _ => 0) = M_7) (g8 : aK (aNew (aPut (aNew S_5 102 0 0) a0 4 (some (aX S_5))) 102 0 0) a0 = 10) (eS_9 : aPut (aNew (aPut (aNew S_5 102 0 0) a0 4 (some (aX S_5))) 102 0 0) a0 5 (some (aX (aPut (aNew S_5 102 0 0) a0 4 (some (aX S_5))))) = S_9) (g10 : aK (aNew S_9 102 0 0) a0 = 10) (q : Q (some none) (aPut (aNew S_9 102 0 0) a0 6 (some (aX S_9))) (mI (mW (aU M_7 (aX S_9) (fun _ => 0)) a0 7 (-1)))) : X E d fX8_init 0 [some (.ref a0)] [] S (mI M) Q := by
  refine X_aload_n 1 (by decide +kernel : decode cX8_init 0 = .ok (.aload_n 0, 1)) rfl rfl rfl ?_
  refine X_obj 4 (by decide +kernel : decode cX8_init 1 = .ok (.invokespecial 1, 3)) rfl rfl rfl (Nat.le_of_ble_eq_true rfl) ?_
  refine X_aload_n 5 (by decide +kernel : decode cX8_init 4 = .ok (.aload_n 0, 1)) rfl rfl rfl ?_
  refine X_sipush 8 (200) (by decide +kernel : decode cX8_init 5 = .ok (.sipush 200, 3)) rfl rfl (by decide +kernel) ?_
  refine X_putI 11 (by decide +kernel : decode cX8_init 8 = .ok (.putfield 7, 3)) rfl rfl (by decide +kernel : aFd 10 7 = some (10, 1, false, false)) (Or.inl rfl) g1 rfl rfl ?_
  refine X_aload_n 12 (by decide +kernel : decode cX8_init 11 = .ok (.aload_n 0, 1)) rfl rfl rfl ?_
  refine X_iconst 13 (by decide +kernel : decode cX8_init 12 = .ok (.iconst 0, 1)) rfl rfl ?_
  refine X_newR 16 (by decide +kernel : decode cX8_init 13 = .ok (.anewarray 13, 3)) rfl rfl rfl ⟨by decide, by decide⟩ ?_
  refine X_putR 19 (by decide +kernel : decode cX8_init 16 = .ok (.putfield 15, 3)) rfl rfl (by decide +kernel : aFd 10 15 = some (10, 2, true, false)) (Or.inl rfl) g2 rfl ?_
  refine X_aload_n 20 (by decide +kernel : decode cX8_init 19 = .ok (.aload_n 0, 1)) rfl rfl rfl ?_
  refine X_iconst 21 (by decide +kernel : decode cX8_init 20 = .ok (.iconst 0, 1)) rfl rfl ?_
  refine X_newR 24 (by decide +kernel : decode cX8_init 21 = .ok (.anewarray 13, 3)) rfl rfl rfl ⟨by decide, by decide⟩ ?_
  show X E d fX8_init 24 [some (.ref a0)] [.ref (aX (aPut (aNew S 102 0 0) a0 2 (some (aX S)))), .ref a0] (aNew (aPut (aNew S 102 0 0) a0 2 (some (aX S))) 102 0 0) (mI (aU (aU (mW M a0 1 200) (aX S) (fun _ => 0)) (aX (aPut (aNew S 102 0 0) a0 2 (some (aX S)))) (fun _ => 0))) Q
  rw [eM_3]
  refine X_putR 27 (by decide +kernel : decode cX8_init 24 = .ok (.putfield 19, 3)) rfl rfl (by decide +kernel : aFd 10 19 = some (10, 3, true, false)) (Or.inl rfl) g4 rfl ?_
  show X E d fX8_init 27 [some (.ref a0)] [] (aPut (aNew (aPut (aNew S 102 0 0) a0 2 (some (aX S))) 102 0 0) a0 3 (some (aX (aPut (aNew S 102 0 0) a0 2 (some (aX S)))))) (mI M_3) Q
  rw [eS_5]
  refine X_aload_n 28 (by decide +kernel : decode cX8_init 27 = .ok (.aload_n 0, 1)) rfl rfl rfl ?_
  refine X_iconst 29 (by decide +kernel : decode cX8_init 28 = .ok (.iconst 0, 1)) rfl rfl ?_
  refine X_newR 32 (by decide +kernel : decode cX8_init 29 = .ok (.anewarray 13, 3)) rfl rfl rfl ⟨by decide, by decide⟩ ?_
  refine X_putR 35 (by decide +kernel : decode cX8_init 32 = .ok (.putfield 22, 3)) rfl rfl (by decide +kernel : aFd 10 22 = some (10, 4, true, false)) (Or.inl rfl) g6 rfl ?_
  refine X_aload_n 36 (by decide +kernel : decode cX8_init 35 = .ok (.aload_n 0, 1)) rfl rfl rfl ?_
  refine X_iconst 37 (by decide +kernel : decode cX8_init 36 = .ok (.iconst 0, 1)) rfl rfl ?_
  refine X_newR 40 (by decide +kernel : decode cX8_init 37 = .ok (.anewarray 13, 3)) rfl rfl rfl ⟨by decide, by decide⟩ ?_
  show X E d fX8_init 40 [some (.ref a0)] [.ref (aX (aPut (aNew S_5 102 0 0) a0 4 (some (aX S_5)))), .ref a0] (aNew (aPut (aNew S_5 102 0 0) a0 4 (some (aX S_5))) 102 0 0) (mI (aU (aU M_3 (aX S_5) (fun _ => 0)) (aX (aPut (aNew S_5 102 0 0) a0 4 (some (aX S_5)))) (fun _ => 0))) Q
  rw [eM_7]
  refine X_putR 43 (by decide +kernel : decode cX8_init 40 = .ok (.putfield 25, 3)) rfl rfl (by decide +kernel : aFd 10 25 = some (10, 5, true, false)) (Or.inl rfl) g8 rfl ?_
  show X E d fX8_init 43 [some (.ref a0)] [] (aPut (aNew (aPut (aNew S_5 102 0 0) a0 4 (some (aX S_5))) 102 0 0) a0 5 (some (aX (aPut (aNew S_5 102 0 0) a0 4 (some (aX S_5)))))) (mI M_7) Q
  rw [eS_9]
  refine X_aload_n 44 (by decide +kernel : decode cX8_init 43 = .ok (.aload_n 0, 1)) rfl rfl rfl ?_
  refine X_iconst 45 (by decide +kernel : decode cX8_init 44 = .ok (.iconst 0, 1)) rfl rfl ?_
  refine X_newR 48 (by decide +kernel : decode cX8_init 45 = .ok (.anewarray 13, 3)) rfl rfl rfl ⟨by decide, by decide⟩ ?_
  refine X_putR 51 (by decide +kernel : decode cX8_init 48 = .ok (.putfield 28, 3)) rfl rfl (by decide +kernel : aFd 10 28 = some (10, 6, true, false)) (Or.inl rfl) g10 rfl ?_
  refine X_aload_n 52 (by decide +kernel : decode cX8_init 51 = .ok (.aload_n 0, 1)) rfl rfl rfl ?_
  refine X_iconst 53 (by decide +kernel : decode cX8_init 52 = .ok (.iconst (-1), 1)) rfl rfl ?_
  refine X_putI 56 (by decide +kernel : decode cX8_init 53 = .ok (.putfield 31, 3)) rfl rfl (by decide +kernel : aFd 10 31 = some (10, 7, false, false)) (Or.inl rfl) g10 rfl rfl ?_
  exact X_vret (by decide +kernel : decode cX8_init 56 = .ok (.return_, 1)) rfl rfl q
theorem kX8_same_0 {a0 : Nat} {o1 : Option Value} {o2 : Option Value} (g1 : aKd S a0 = 100 ∨ aKd S a0 = 101 ∨ aKd S a0 = 102) (h2 : (0 : Int) ≤ (aN S a0 : Int) ∧ (aN S a0 : Int) ≤ 1000000) (k : X E d fX8_same 8 [some (.ref a0), some (.ref (aX S)), some (J 0)] [] (aNew S 102 (aN S a0 : Int).toNat (aN S a0 : Int).toNat) (mI (aU M (aX S) (fun _ => 0))) Q) : X E d fX8_same 0 [some (.ref a0), o1, o2] [] S (mI M) Q := by
  refine X_aload_n 1 (by decide +kernel : decode cX8_same 0 = .ok (.aload_n 0, 1)) rfl rfl rfl ?_
  refine X_alen 2 (by decide +kernel : decode cX8_same 1 = .ok (.arraylength, 1)) rfl rfl g1 ?_
  refine X_newR 5 (by decide +kernel : decode cX8_same 2 = .ok (.anewarray 13, 3)) rfl rfl rfl h2 ?_
  refine X_astore_n 6 (by decide +kernel : decode cX8_same 5 = .ok (.astore_n 1, 1)) rfl rfl (Nat.le_of_ble_eq_true rfl) rfl ?_
  refine X_iconst 7 (by decide +kernel : decode cX8_same 6 = .ok (.iconst 0, 1)) rfl rfl ?_
  refine X_istore_n 8 (by decide +kernel : decode cX8_same 7 = .ok (.istore_n 2, 1)) rfl rfl (Nat.le_of_ble_eq_true rfl) rfl ?_
  exact k
theorem kX8_same_8 {a0 : Nat} {o1 : Option Value} {x2 : Int} (g1 : aKd S a0 = 100 ∨ aKd S a0 = 101 ∨ aKd S a0 = 102) (r2 : R32 x2) (r3 : R32 ((aN S a0 : Int))) (k1 : (aN S a0 : Int) ≤ x2 → X E d fX8_same 44 [some (.ref a0), o1, some (J x2)] [] S (mI M) Q) (k2 : x2 < (aN S a0 : Int) → X E d fX8_same 14 [some (.ref a0), o1, some (J x2)] [] S (mI M) Q) : X E d fX8_same 8 [some (.ref a0), o1, some (J x2)] [] S (mI M) Q := by
  refine X_iload_n 9 (by decide +kernel : decode cX8_same 8 = .ok (.iload_n 2, 1)) rfl rfl rfl ?_
  refine X_aload_n 10 (by decide +kernel : decode cX8_same 9 = .ok (.aload_n 0, 1)) rfl rfl rfl ?_
  refine X_alen 11 (by decide +kernel : decode cX8_same 10 = .ok (.arraylength, 1)) rfl rfl g1 ?_
  exact X_icmpge 44 14 (by decide +kernel : decode cX8_same 11 = .ok (.if_icmp .ge 33, 3)) rfl rfl (by decide) r2 r3 k1 k2
theorem kX8_same_14 {a0 : Nat} {a1 : Nat} {x2 : Int} {b4 : Nat} {S_12 : aS} {b16 : Nat} {b21 : Nat} (g1 : aKd S a0 = 102) (r2 : R32 x2) (h3 : (0 : Int) ≤ x2 ∧ x2 < (aN S a0 : Int)) (p5 : aP S a0 x2.toNat = some b4) (g6 : aKd S b4 = 100 ∨ aKd S b4 = 101 ∨ aKd S b4 = 102) (h7 : (0 : Int) ≤ (aN S b4 : Int) ∧ (aN S b4 : Int) ≤ 1000000) (g8 : aK (aNew S 100 (aN S b4 : Int).toNat (aN S b4 : Int).toNat) a1 = 102) (h10 : (0 : Int) ≤ x2 ∧ x2 < (aN (aNew S 100 (aN S b4 : Int).toNat (aN S b4 : Int).toNat) a1 : Int)) (g11 : aK (aNew S 100 (aN S b4 : Int).toNat (aN S b4 : Int).toNat) (aX S) = 100) (eS_12 : aPut (aNew S 100 (aN S b4 : Int).toNat (aN S b4 : Int).toNat) a1 x2.toNat (some (aX S)) = S_12) (g13 : aKd S_12 a0 = 102) (h15 : (0 : Int) ≤ x2 ∧ x2 < (aN S_12 a0 : Int)) (p17 : aP S_12 a0 x2.toNat = some b16) (g18 : aKd S_12 a1 = 102) (h20 : (0 : Int) ≤ x2 ∧ x2 < (aN S_12 a1 : Int)) (p22 : aP S_12 a1 x2.toNat = some b21) (g26 : aKd S_12 b16 = 100 ∨ aKd S_12 b16 = 101 ∨ aKd S_12 b16 = 102) (g27 : aKd S_12 b16 = 100) (g28 : aK S_12 b21 = 100) (h29 : (0 : Int) ≤ (aN S_12 b16 : Int)) (r30 : R32 ((aN S_12 b16 : Int))) (h31 : 0 + (aN S_12 b16 : Int) ≤ (aN S_12 b16 : Int)) (h32 : 0 + (aN S_12 b16 : Int) ≤ (aN S_12 b21 : Int)) (k : X E d fX8_same 8 [some (.ref a0), some (.ref a1), some (J (x2 + 1))] [] S_12 (mI (aCp (aU M (aX S) (fun _ => 0)) b16 b21 0 0 (aN S_12 b16 : Int).toNat)) Q) : X E d fX8_same 14 [some (.ref a0), some (.ref a1), some (J x2)] [] S (mI M) Q := by
  refine X_aload_n 15 (by decide +kernel : decode cX8_same 14 = .ok (.aload_n 1, 1)) rfl rfl rfl ?_
  refine X_iload_n 16 (by decide +kernel : decode cX8_same 15 = .ok (.iload_n 2, 1)) rfl rfl rfl ?_
  refine X_aload_n 17 (by decide +kernel : decode cX8_same 16 = .ok (.aload_n 0, 1)) rfl rfl rfl ?_
  refine X_iload_n 18 (by decide +kernel : decode cX8_same 17 = .ok (.iload_n 2, 1)) rfl rfl rfl ?_
  refine X_aald 19 (by decide +kernel : decode cX8_same 18 = .ok (.aaload, 1)) rfl rfl g1 r2 h3 p5 ?_
  refine X_alen 20 (by decide +kernel : decode cX8_same 19 = .ok (.arraylength, 1)) rfl rfl g6 ?_
  refine X_newI 22 (by decide +kernel : decode cX8_same 20 = .ok (.newarray .int, 2)) rfl rfl h7 ?_
  refine X_aast 23 (by decide +kernel : decode cX8_same 22 = .ok (.aastore, 1)) rfl rfl g8 r2 h10 g11 ?_
  show X E d fX8_same 23 [some (.ref a0), some (.ref a1), some (J x2)] [] (aPut (aNew S 100 (aN S b4 : Int).toNat (aN S b4 : Int).toNat) a1 x2.toNat (some (aX S))) (mI (aU M (aX S) (fun _ => 0))) Q
  rw [eS_12]
  refine X_aload_n 24 (by decide +kernel : decode cX8_same 23 = .ok (.aload_n 0, 1)) rfl rfl rfl ?_
  refine X_iload_n 25 (by decide +kernel : decode cX8_same 24 = .ok (.iload_n 2, 1)) rfl rfl rfl ?_
  refine X_aald 26 (by decide +kernel : decode cX8_same 25 = .ok (.aaload, 1)) rfl rfl g13 r2 h15 p17 ?_
  refine X_iconst 27 (by decide +kernel : decode cX8_same 26 = .ok (.iconst 0, 1)) rfl rfl ?_
  refine X_aload_n 28 (by decide +kernel : decode cX8_same 27 = .ok (.aload_n 1, 1)) rfl rfl rfl ?_
  refine X_iload_n 29 (by decide +kernel : decode cX8_same 28 = .ok (.iload_n 2, 1)) rfl rfl rfl ?_
  refine X_aald 30 (by decide +kernel : decode cX8_same 29 = .ok (.aaload, 1)) rfl rfl g18 r2 h20 p22 ?_
  refine X_iconst 31 (by decide +kernel : decode cX8_same 30 = .ok (.iconst 0, 1)) rfl rfl ?_
  refine X_aload_n 32 (by decide +kernel : decode cX8_same 31 = .ok (.aload_n 0, 1)) rfl rfl rfl ?_
  refine X_iload_n 33 (by decide +kernel : decode cX8_same 32 = .ok (.iload_n 2, 1)) rfl rfl rfl ?_
  refine X_aald 34 (by decide +kernel : decode cX8_same 33 = .ok (.aaload, 1)) rfl rfl g13 r2 h15 p17 ?_
  refine X_alen 35 (by decide +kernel : decode cX8_same 34 = .ok (.arraylength, 1)) rfl rfl g26 ?_
  refine X_cpI 38 (by decide +kernel : decode cX8_same 35 = .ok (.invokestatic 87, 3)) rfl rfl rfl rfl g27 g28 ⟨(by decide), (by decide), h29⟩ ⟨⟨by decide, by decide⟩, ⟨by decide, by decide⟩, r30⟩ h31 h32 (Nat.le_of_ble_eq_true rfl) ?_
  refine X_iinc 41 (by decide +kernel : decode cX8_same 38 = .ok (.iinc 2 1, 3)) rfl rfl rfl rfl ?_
  exact X_goto 8 (by decide +kernel : decode cX8_same 41 = .ok (.goto (-33), 3)) rfl (by decide) k
theorem kX8_same_44 {o0 : Option Value} {a1 : Nat} {o2 : Option Value} (q : Q (some (some (.ref a1))) S (mI M)) : X E d fX8_same 44 [o0, some (.ref a1), o2] [] S (mI M) Q := by
  refine X_aload_n 45 (by decide +kernel : decode cX8_same 44 = .ok (.aload_n 1, 1)) rfl rfl rfl ?_
  exact X_aret (by decide +kernel : decode cX8_same 45 = .ok (.areturn, 1)) rfl rfl rfl q
theorem kX8_on_0 {o0 : Option Value} {o1 : Option Value} {o2 : Option Value} (k : X E d fX8_on 2 [o0, o1, some (J 0)] [] S (mI M) Q) : X E d fX8_on 0 [o0, o1, o2] [] S (mI M) Q := by
  refine X_iconst 1 (by decide +kernel : decode cX8_on 0 = .ok (.iconst 0, 1)) rfl rfl ?_
  refine X_istore_n 2 (by decide +kernel : decode cX8_on 1 = .ok (.istore_n 2, 1)) rfl rfl (Nat.le_of_ble_eq_true rfl) rfl ?_
  exact k
theorem kX8_on_2 {o0 : Option Value} {x1 : Int} {x2 : Int} (r1 : R32 x2) (r2 : R32 x1) (k1 : x1 ≤ x2 → X E d fX8_on 17 [o0, some (J x1), some (J x2)] [] S (mI M) Q) (k2 : x2 < x1 → X E d fX8_on 7 [o0, some (J x1), some (J x2)] [] S (mI M) Q) : X E d fX8_on 2 [o0, some (J x1), some (J x2)] [] S (mI M) Q := by
  refine X_iload_n 3 (by decide +kernel : decode cX8_on 2 = .ok (.iload_n 2, 1)) rfl rfl rfl ?_
  refine X_iload_n 4 (by decide +kernel : decode cX8_on 3 = .ok (.iload_n 1, 1)) rfl rfl rfl ?_
  exact X_icmpge 17 7 (by decide +kernel : decode cX8_on 4 = .ok (.if_icmp .ge 13, 3)) rfl rfl (by decide) r1 r2 k1 k2
theorem kX8_on_7 {a0 : Nat} {o1 : Option Value} {o2 : Option Value} (hd1 : 1 ≤ d) (k : X E (d - 1) fX8_pass 0 [some (.ref a0), none, none, none, none, none, none] [] S (mI M) (Kr E d fX8_on 11 [some (.ref a0), o1, o2] [] Q)) (g1 : aKd S a0 = 10) : X E d fX8_on 7 [some (.ref a0), o1, o2] [] S (mI M) Q := by
  refine X_aload_n 8 (by decide +kernel : decode cX8_on 7 = .ok (.aload_n 0, 1)) rfl rfl rfl ?_
  exact X_cv (as := []) (rest := []) (by decide +kernel : decode cX8_on 8 = .ok (.invokevirtual 84, 3)) (Or.inl ⟨rfl, rfl, rfl⟩) rfl rfl rfl rfl rfl (Nat.le_of_ble_eq_true rfl) (Or.inr (Or.inr (by rw [g1]; rfl))) hd1 k
theorem kX8_on_11 {o0 : Option Value} {o1 : Option Value} {x2 : Int} (k : X E d fX8_on 2 [o0, o1, some (J (x2 + 1))] [] S (mI M) Q) : X E d fX8_on 11 [o0, o1, some (J x2)] [] S (mI M) Q := by
  refine X_iinc 14 (by decide +kernel : decode cX8_on 11 = .ok (.iinc 2 1, 3)) rfl rfl rfl rfl ?_
  exact X_goto 2 (by decide +kernel : decode cX8_on 14 = .ok (.goto (-12), 3)) rfl (by decide) k
theorem kX8_on_17 {a0 : Nat} {o1 : Option Value} {o2 : Option Value} (q : Q (some (some (.ref a0))) S (mI M)) : X E d fX8_on 17 [some (.ref a0), o1, o2] [] S (mI M) Q := by
  refine X_aload_n 18 (by decide +kernel : decode cX8_on 17 = .ok (.aload_n 0, 1)) rfl rfl rfl ?_
  exact X_aret (by decide +kernel : decode cX8_on 18 = .ok (.areturn, 1)) rfl rfl rfl q
end
