/-! straight pieces of methods, by program (wip/p26/blk.py): L_below L_cell L_taught L_test L_sum L_passed L_act -/
section
variable {E : Nat → Value} {d : Nat} {S : aS} {M : Nat → Nat → Int} {Q : Option (Option Value) → aS → aI → Prop}
theorem kL_below_0 {x0 : Int} {x1 : Int} (r1 : R32 ((Int32.ofInt x0 &&& Int32.ofInt 2147483647).toInt)) (r2 : R32 x1) (h3 : x1 ≠ 0) (q : Q (some (some (J (((Int32.ofInt x0 &&& Int32.ofInt 2147483647).toInt).tmod x1)))) S (mI M)) : X E d fL_below 0 [some (J x0), some (J x1)] [] S (mI M) Q := by
  refine X_iload_n 1 (by decide +kernel : decode cL_below 0 = .ok (.iload_n 0, 1)) rfl rfl rfl ?_
  refine X_ldcI 3 (2147483647) (by decide +kernel : decode cL_below 1 = .ok (.ldc 7, 2)) rfl rfl rfl rfl ?_
  refine X_iand 4 (by decide +kernel : decode cL_below 3 = .ok (.iand, 1)) rfl rfl ?_
  refine X_iload_n 5 (by decide +kernel : decode cL_below 4 = .ok (.iload_n 1, 1)) rfl rfl rfl ?_
  refine X_iremW 6 (by decide +kernel : decode cL_below 5 = .ok (.irem, 1)) rfl rfl r1 r2 h3 ?_
  exact X_iret (by decide +kernel : decode cL_below 6 = .ok (.ireturn, 1)) rfl rfl rfl q
theorem kL_cell_0 {a0 : Nat} {x1 : Int} (g1 : aKd S a0 = 100 ∨ aKd S a0 = 101 ∨ aKd S a0 = 102) (r2 : R32 x1) (r3 : R32 ((aN S a0 : Int))) (k1 : (aN S a0 : Int) ≤ x1 → X E d fL_cell 12 [some (.ref a0), some (J x1)] [] S (mI M) Q) (k2 : x1 < (aN S a0 : Int) → X E d fL_cell 6 [some (.ref a0), some (J x1)] [] S (mI M) Q) : X E d fL_cell 0 [some (.ref a0), some (J x1)] [] S (mI M) Q := by
  refine X_iload_n 1 (by decide +kernel : decode cL_cell 0 = .ok (.iload_n 1, 1)) rfl rfl rfl ?_
  refine X_aload_n 2 (by decide +kernel : decode cL_cell 1 = .ok (.aload_n 0, 1)) rfl rfl rfl ?_
  refine X_alen 3 (by decide +kernel : decode cL_cell 2 = .ok (.arraylength, 1)) rfl rfl g1 ?_
  exact X_icmpge 12 6 (by decide +kernel : decode cL_cell 3 = .ok (.if_icmp .ge 9, 3)) rfl rfl (by decide) r2 r3 k1 k2
theorem kL_cell_6 {a0 : Nat} {x1 : Int} (g1 : aKd S a0 = 100) (r2 : R32 x1) (h3 : (0 : Int) ≤ x1 ∧ x1 < (aN S a0 : Int)) (k : X E d fL_cell 18 [some (.ref a0), some (J x1)] [J (M a0 x1.toNat)] S (mI M) Q) : X E d fL_cell 6 [some (.ref a0), some (J x1)] [] S (mI M) Q := by
  refine X_aload_n 7 (by decide +kernel : decode cL_cell 6 = .ok (.aload_n 0, 1)) rfl rfl rfl ?_
  refine X_iload_n 8 (by decide +kernel : decode cL_cell 7 = .ok (.iload_n 1, 1)) rfl rfl rfl ?_
  refine X_iald 9 (by decide +kernel : decode cL_cell 8 = .ok (.iaload, 1)) rfl rfl g1 r2 h3 ?_
  exact X_goto 18 (by decide +kernel : decode cL_cell 9 = .ok (.goto 9, 3)) rfl (by decide) k
theorem kL_cell_12 {o0 : Option Value} {x1 : Int} (k : X E d fL_cell 18 [o0, some (J x1)] [J (790386105 * (x1 + 3))] S (mI M) Q) : X E d fL_cell 12 [o0, some (J x1)] [] S (mI M) Q := by
  refine X_ldcI 14 (790386105) (by decide +kernel : decode cL_cell 12 = .ok (.ldc 8, 2)) rfl rfl rfl rfl ?_
  refine X_iload_n 15 (by decide +kernel : decode cL_cell 14 = .ok (.iload_n 1, 1)) rfl rfl rfl ?_
  refine X_iconst 16 (by decide +kernel : decode cL_cell 15 = .ok (.iconst 3, 1)) rfl rfl ?_
  refine X_iadd 17 (by decide +kernel : decode cL_cell 16 = .ok (.iadd, 1)) rfl rfl ?_
  refine X_imul 18 (by decide +kernel : decode cL_cell 17 = .ok (.imul, 1)) rfl rfl ?_
  exact k
theorem kL_cell_18 {o0 : Option Value} {o1 : Option Value} {t0 : Int} (q : Q (some (some (J t0))) S (mI M)) : X E d fL_cell 18 [o0, o1] [J t0] S (mI M) Q := by
  exact X_iret (by decide +kernel : decode cL_cell 18 = .ok (.ireturn, 1)) rfl rfl rfl q
theorem kL_taught_0 {a0 : Nat} {o1 : Option Value} {o2 : Option Value} {o3 : Option Value} {o4 : Option Value} {o5 : Option Value} (hd1 : 1 ≤ d) (k : X E (d - 1) fX7_trim 0 [some (.ref a0), some (J 0)] [] (aNew S 100 5 5) (mI (aU M (aX S) (fun _ => 0))) (Kr E d fL_taught 9 [some (.ref a0), o1, some (.ref (aX S)), o3, o4, o5] [] Q)) (g1 : aKd (aNew S 100 5 5) a0 = 9) : X E d fL_taught 0 [some (.ref a0), o1, o2, o3, o4, o5] [] S (mI M) Q := by
  refine X_iconst 1 (by decide +kernel : decode cL_taught 0 = .ok (.iconst 5, 1)) rfl rfl ?_
  refine X_newI 3 (by decide +kernel : decode cL_taught 1 = .ok (.newarray .int, 2)) rfl rfl ⟨by decide, by decide⟩ ?_
  refine X_astore_n 4 (by decide +kernel : decode cL_taught 3 = .ok (.astore_n 2, 1)) rfl rfl (Nat.le_of_ble_eq_true rfl) rfl ?_
  refine X_aload_n 5 (by decide +kernel : decode cL_taught 4 = .ok (.aload_n 0, 1)) rfl rfl rfl ?_
  refine X_iconst 6 (by decide +kernel : decode cL_taught 5 = .ok (.iconst 0, 1)) rfl rfl ?_
  exact X_cv (as := [J 0]) (rest := []) (by decide +kernel : decode cL_taught 6 = .ok (.invokevirtual 9, 3)) (Or.inl ⟨rfl, rfl, rfl⟩) rfl rfl rfl rfl rfl (Nat.le_of_ble_eq_true rfl) (Or.inr (Or.inr ((congrArg (fun z => (vwCl[z]?).map (fun q => q.1)) g1).trans rfl))) hd1 k
theorem kL_taught_9 {o0 : Option Value} {o1 : Option Value} {o2 : Option Value} {o3 : Option Value} {o4 : Option Value} {o5 : Option Value} {t0 : Int} (k : X E d fL_taught 12 [o0, o1, o2, some (J 0), o4, o5] [] S (mI M) Q) : X E d fL_taught 9 [o0, o1, o2, o3, o4, o5] [J t0] S (mI M) Q := by
  refine X_pop 10 (by decide +kernel : decode cL_taught 9 = .ok (.pop, 1)) rfl rfl rfl ?_
  refine X_iconst 11 (by decide +kernel : decode cL_taught 10 = .ok (.iconst 0, 1)) rfl rfl ?_
  refine X_istore_n 12 (by decide +kernel : decode cL_taught 11 = .ok (.istore_n 3, 1)) rfl rfl (Nat.le_of_ble_eq_true rfl) rfl ?_
  exact k
theorem kL_taught_12 {o0 : Option Value} {a1 : Nat} {o2 : Option Value} {x3 : Int} {o4 : Option Value} {o5 : Option Value} (hd1 : 1 ≤ d) (k : X E (d - 1) fJ0_length_8abf5 0 [some (.ref a1)] [] S (mI M) (Kr E d fL_taught 17 [o0, some (.ref a1), o2, some (J x3), o4, o5] [J x3] Q)) (g1 : aKd S a1 = 0) : X E d fL_taught 12 [o0, some (.ref a1), o2, some (J x3), o4, o5] [] S (mI M) Q := by
  refine X_iload_n 13 (by decide +kernel : decode cL_taught 12 = .ok (.iload_n 3, 1)) rfl rfl rfl ?_
  refine X_aload_n 14 (by decide +kernel : decode cL_taught 13 = .ok (.aload_n 1, 1)) rfl rfl rfl ?_
  exact X_cv (as := []) (rest := [J x3]) (by decide +kernel : decode cL_taught 14 = .ok (.invokevirtual 15, 3)) (Or.inl ⟨rfl, rfl, rfl⟩) rfl rfl rfl rfl rfl (Nat.le_of_ble_eq_true rfl) (Or.inr (Or.inr (by rw [g1]; rfl))) hd1 k
theorem kL_taught_17 {o0 : Option Value} {o1 : Option Value} {o2 : Option Value} {o3 : Option Value} {o4 : Option Value} {o5 : Option Value} {t0 : Int} {t1 : Int} (r1 : R32 t1) (r2 : R32 t0) (k1 : t0 ≤ t1 → X E d fL_taught 125 [o0, o1, o2, o3, o4, o5] [] S (mI M) Q) (k2 : t1 < t0 → X E d fL_taught 20 [o0, o1, o2, o3, o4, o5] [] S (mI M) Q) : X E d fL_taught 17 [o0, o1, o2, o3, o4, o5] [J t0, J t1] S (mI M) Q := by
  exact X_icmpge 125 20 (by decide +kernel : decode cL_taught 17 = .ok (.if_icmp .ge 108, 3)) rfl rfl (by decide) r1 r2 k1 k2
theorem kL_taught_20 {o0 : Option Value} {o1 : Option Value} {o2 : Option Value} {o3 : Option Value} {o4 : Option Value} {o5 : Option Value} (k : X E d fL_taught 23 [o0, o1, o2, o3, some (J 0), o5] [] S (mI M) Q) : X E d fL_taught 20 [o0, o1, o2, o3, o4, o5] [] S (mI M) Q := by
  refine X_iconst 21 (by decide +kernel : decode cL_taught 20 = .ok (.iconst 0, 1)) rfl rfl ?_
  refine X_istore 23 (by decide +kernel : decode cL_taught 21 = .ok (.istore 4, 2)) rfl rfl (Nat.le_of_ble_eq_true rfl) rfl ?_
  exact k
theorem kL_taught_23 {o0 : Option Value} {o1 : Option Value} {o2 : Option Value} {o3 : Option Value} {x4 : Int} {o5 : Option Value} (r1 : R32 x4) (k1 : 5 ≤ x4 → X E d fL_taught 99 [o0, o1, o2, o3, some (J x4), o5] [] S (mI M) Q) (k2 : x4 < 5 → X E d fL_taught 29 [o0, o1, o2, o3, some (J x4), o5] [] S (mI M) Q) : X E d fL_taught 23 [o0, o1, o2, o3, some (J x4), o5] [] S (mI M) Q := by
  refine X_iload 25 (by decide +kernel : decode cL_taught 23 = .ok (.iload 4, 2)) rfl rfl rfl ?_
  refine X_iconst 26 (by decide +kernel : decode cL_taught 25 = .ok (.iconst 5, 1)) rfl rfl ?_
  exact X_icmpge 99 29 (by decide +kernel : decode cL_taught 26 = .ok (.if_icmp .ge 73, 3)) rfl rfl (by decide) r1 ⟨by decide, by decide⟩ k1 k2
theorem kL_taught_29 {o0 : Option Value} {o1 : Option Value} {a2 : Nat} {x3 : Int} {x4 : Int} {o5 : Option Value} (g1 : aK S a2 = 100) (r2 : R32 x4) (h3 : (0 : Int) ≤ x4 ∧ x4 < (aN S a2 : Int)) (k : X E d fL_taught 42 [o0, o1, some (.ref a2), some (J x3), some (J x4), some (J (x3 + (4 * x4)))] [] S (mI (mW M a2 x4.toNat 0)) Q) : X E d fL_taught 29 [o0, o1, some (.ref a2), some (J x3), some (J x4), o5] [] S (mI M) Q := by
  refine X_aload_n 30 (by decide +kernel : decode cL_taught 29 = .ok (.aload_n 2, 1)) rfl rfl rfl ?_
  refine X_iload 32 (by decide +kernel : decode cL_taught 30 = .ok (.iload 4, 2)) rfl rfl rfl ?_
  refine X_iconst 33 (by decide +kernel : decode cL_taught 32 = .ok (.iconst 0, 1)) rfl rfl ?_
  refine X_iast 34 (by decide +kernel : decode cL_taught 33 = .ok (.iastore, 1)) rfl rfl g1 r2 h3 ?_
  refine X_iload_n 35 (by decide +kernel : decode cL_taught 34 = .ok (.iload_n 3, 1)) rfl rfl rfl ?_
  refine X_iconst 36 (by decide +kernel : decode cL_taught 35 = .ok (.iconst 4, 1)) rfl rfl ?_
  refine X_iload 38 (by decide +kernel : decode cL_taught 36 = .ok (.iload 4, 2)) rfl rfl rfl ?_
  refine X_imul 39 (by decide +kernel : decode cL_taught 38 = .ok (.imul, 1)) rfl rfl ?_
  refine X_iadd 40 (by decide +kernel : decode cL_taught 39 = .ok (.iadd, 1)) rfl rfl ?_
  refine X_istore 42 (by decide +kernel : decode cL_taught 40 = .ok (.istore 5, 2)) rfl rfl (Nat.le_of_ble_eq_true rfl) rfl ?_
  exact k
theorem kL_taught_42 {o0 : Option Value} {o1 : Option Value} {o2 : Option Value} {x3 : Int} {x4 : Int} {x5 : Int} (r1 : R32 x5) (r2 : R32 ((x3 + (4 * x4)) + 4)) (k1 : ((x3 + (4 * x4)) + 4) ≤ x5 → X E d fL_taught 93 [o0, o1, o2, some (J x3), some (J x4), some (J x5)] [] S (mI M) Q) (k2 : x5 < ((x3 + (4 * x4)) + 4) → X E d fL_taught 55 [o0, o1, o2, some (J x3), some (J x4), some (J x5)] [] S (mI M) Q) : X E d fL_taught 42 [o0, o1, o2, some (J x3), some (J x4), some (J x5)] [] S (mI M) Q := by
  refine X_iload 44 (by decide +kernel : decode cL_taught 42 = .ok (.iload 5, 2)) rfl rfl rfl ?_
  refine X_iload_n 45 (by decide +kernel : decode cL_taught 44 = .ok (.iload_n 3, 1)) rfl rfl rfl ?_
  refine X_iconst 46 (by decide +kernel : decode cL_taught 45 = .ok (.iconst 4, 1)) rfl rfl ?_
  refine X_iload 48 (by decide +kernel : decode cL_taught 46 = .ok (.iload 4, 2)) rfl rfl rfl ?_
  refine X_imul 49 (by decide +kernel : decode cL_taught 48 = .ok (.imul, 1)) rfl rfl ?_
  refine X_iadd 50 (by decide +kernel : decode cL_taught 49 = .ok (.iadd, 1)) rfl rfl ?_
  refine X_iconst 51 (by decide +kernel : decode cL_taught 50 = .ok (.iconst 4, 1)) rfl rfl ?_
  refine X_iadd 52 (by decide +kernel : decode cL_taught 51 = .ok (.iadd, 1)) rfl rfl ?_
  exact X_icmpge 93 55 (by decide +kernel : decode cL_taught 52 = .ok (.if_icmp .ge 41, 3)) rfl rfl (by decide) r1 r2 k1 k2
theorem kL_taught_55 {o0 : Option Value} {a1 : Nat} {a2 : Nat} {o3 : Option Value} {x4 : Int} {x5 : Int} (g1 : aKd S a2 = 100) (r2 : R32 x4) (h3 : (0 : Int) ≤ x4 ∧ x4 < (aN S a2 : Int)) (hd1 : 1 ≤ d) (k : X E (d - 1) fJ0_length_8abf5 0 [some (.ref a1)] [] S (mI M) (Kr E d fL_taught 71 [o0, some (.ref a1), some (.ref a2), o3, some (J x4), some (J x5)] [J x5, J ((Int32.ofInt (M a2 x4.toNat) <<< (Int32.ofInt 8 &&& 31)).toInt), J x4, .ref a2] Q)) (g4 : aKd S a1 = 0) : X E d fL_taught 55 [o0, some (.ref a1), some (.ref a2), o3, some (J x4), some (J x5)] [] S (mI M) Q := by
  refine X_aload_n 56 (by decide +kernel : decode cL_taught 55 = .ok (.aload_n 2, 1)) rfl rfl rfl ?_
  refine X_iload 58 (by decide +kernel : decode cL_taught 56 = .ok (.iload 4, 2)) rfl rfl rfl ?_
  refine X_aload_n 59 (by decide +kernel : decode cL_taught 58 = .ok (.aload_n 2, 1)) rfl rfl rfl ?_
  refine X_iload 61 (by decide +kernel : decode cL_taught 59 = .ok (.iload 4, 2)) rfl rfl rfl ?_
  refine X_iald 62 (by decide +kernel : decode cL_taught 61 = .ok (.iaload, 1)) rfl rfl g1 r2 h3 ?_
  refine X_bipush 64 (8) (by decide +kernel : decode cL_taught 62 = .ok (.bipush 8, 2)) rfl rfl (by decide +kernel) ?_
  refine X_ishl 65 (by decide +kernel : decode cL_taught 64 = .ok (.ishl, 1)) rfl rfl ?_
  refine X_iload 67 (by decide +kernel : decode cL_taught 65 = .ok (.iload 5, 2)) rfl rfl rfl ?_
  refine X_aload_n 68 (by decide +kernel : decode cL_taught 67 = .ok (.aload_n 1, 1)) rfl rfl rfl ?_
  exact X_cv (as := []) (rest := [J x5, J ((Int32.ofInt (M a2 x4.toNat) <<< (Int32.ofInt 8 &&& 31)).toInt), J x4, .ref a2]) (by decide +kernel : decode cL_taught 68 = .ok (.invokevirtual 15, 3)) (Or.inl ⟨rfl, rfl, rfl⟩) rfl rfl rfl rfl rfl (Nat.le_of_ble_eq_true rfl) (Or.inr (Or.inr (by rw [g4]; rfl))) hd1 k
theorem kL_taught_71 {o0 : Option Value} {o1 : Option Value} {o2 : Option Value} {o3 : Option Value} {o4 : Option Value} {o5 : Option Value} {t0 : Int} {t1 : Int} {t2 : Int} {t3 : Int} {u4 : Nat} (r1 : R32 t1) (r2 : R32 t0) (k1 : t0 ≤ t1 → X E d fL_taught 83 [o0, o1, o2, o3, o4, o5] [J t2, J t3, .ref u4] S (mI M) Q) (k2 : t1 < t0 → X E d fL_taught 74 [o0, o1, o2, o3, o4, o5] [J t2, J t3, .ref u4] S (mI M) Q) : X E d fL_taught 71 [o0, o1, o2, o3, o4, o5] [J t0, J t1, J t2, J t3, .ref u4] S (mI M) Q := by
  exact X_icmpge 83 74 (by decide +kernel : decode cL_taught 71 = .ok (.if_icmp .ge 12, 3)) rfl rfl (by decide) r1 r2 k1 k2
theorem kL_taught_74 {o0 : Option Value} {a1 : Nat} {o2 : Option Value} {o3 : Option Value} {o4 : Option Value} {x5 : Int} {t0 : Int} {t1 : Int} {u2 : Nat} (hd1 : 1 ≤ d) (k : X E (d - 1) fJ0_charAt_5068e 0 [some (.ref a1), some (J x5)] [] S (mI M) (Kr E d fL_taught 80 [o0, some (.ref a1), o2, o3, o4, some (J x5)] [J t0, J t1, .ref u2] Q)) (g1 : aKd S a1 = 0) : X E d fL_taught 74 [o0, some (.ref a1), o2, o3, o4, some (J x5)] [J t0, J t1, .ref u2] S (mI M) Q := by
  refine X_aload_n 75 (by decide +kernel : decode cL_taught 74 = .ok (.aload_n 1, 1)) rfl rfl rfl ?_
  refine X_iload 77 (by decide +kernel : decode cL_taught 75 = .ok (.iload 5, 2)) rfl rfl rfl ?_
  exact X_cv (as := [J x5]) (rest := [J t0, J t1, .ref u2]) (by decide +kernel : decode cL_taught 77 = .ok (.invokevirtual 21, 3)) (Or.inl ⟨rfl, rfl, rfl⟩) rfl rfl rfl rfl rfl (Nat.le_of_ble_eq_true rfl) (Or.inr (Or.inr (by rw [g1]; rfl))) hd1 k
theorem kL_taught_80 {o0 : Option Value} {o1 : Option Value} {o2 : Option Value} {o3 : Option Value} {o4 : Option Value} {o5 : Option Value} {t0 : Int} {t1 : Int} {t2 : Int} {u3 : Nat} (k : X E d fL_taught 85 [o0, o1, o2, o3, o4, o5] [J t0, J t1, J t2, .ref u3] S (mI M) Q) : X E d fL_taught 80 [o0, o1, o2, o3, o4, o5] [J t0, J t1, J t2, .ref u3] S (mI M) Q := by
  exact X_goto 85 (by decide +kernel : decode cL_taught 80 = .ok (.goto 5, 3)) rfl (by decide) k
theorem kL_taught_83 {o0 : Option Value} {o1 : Option Value} {o2 : Option Value} {o3 : Option Value} {o4 : Option Value} {o5 : Option Value} {t0 : Int} {t1 : Int} {u2 : Nat} (k : X E d fL_taught 85 [o0, o1, o2, o3, o4, o5] [J 32, J t0, J t1, .ref u2] S (mI M) Q) : X E d fL_taught 83 [o0, o1, o2, o3, o4, o5] [J t0, J t1, .ref u2] S (mI M) Q := by
  refine X_bipush 85 (32) (by decide +kernel : decode cL_taught 83 = .ok (.bipush 32, 2)) rfl rfl (by decide +kernel) ?_
  exact k
theorem kL_taught_85 {o0 : Option Value} {o1 : Option Value} {o2 : Option Value} {o3 : Option Value} {o4 : Option Value} {x5 : Int} {t0 : Int} {t1 : Int} {t2 : Int} {u3 : Nat} (g1 : aK S u3 = 100) (r2 : R32 t2) (h3 : (0 : Int) ≤ t2 ∧ t2 < (aN S u3 : Int)) (k : X E d fL_taught 42 [o0, o1, o2, o3, o4, some (J (x5 + 1))] [] S (mI (mW M u3 t2.toNat ((Int32.ofInt t1 ||| Int32.ofInt t0).toInt))) Q) : X E d fL_taught 85 [o0, o1, o2, o3, o4, some (J x5)] [J t0, J t1, J t2, .ref u3] S (mI M) Q := by
  refine X_ior 86 (by decide +kernel : decode cL_taught 85 = .ok (.ior, 1)) rfl rfl ?_
  refine X_iast 87 (by decide +kernel : decode cL_taught 86 = .ok (.iastore, 1)) rfl rfl g1 r2 h3 ?_
  refine X_iinc 90 (by decide +kernel : decode cL_taught 87 = .ok (.iinc 5 1, 3)) rfl rfl rfl rfl ?_
  exact X_goto 42 (by decide +kernel : decode cL_taught 90 = .ok (.goto (-48), 3)) rfl (by decide) k
theorem kL_taught_93 {o0 : Option Value} {o1 : Option Value} {o2 : Option Value} {o3 : Option Value} {x4 : Int} {o5 : Option Value} (k : X E d fL_taught 23 [o0, o1, o2, o3, some (J (x4 + 1)), o5] [] S (mI M) Q) : X E d fL_taught 93 [o0, o1, o2, o3, some (J x4), o5] [] S (mI M) Q := by
  refine X_iinc 96 (by decide +kernel : decode cL_taught 93 = .ok (.iinc 4 1, 3)) rfl rfl rfl rfl ?_
  exact X_goto 23 (by decide +kernel : decode cL_taught 96 = .ok (.goto (-73), 3)) rfl (by decide) k
theorem kL_taught_99 {a0 : Nat} {o1 : Option Value} {a2 : Nat} {o3 : Option Value} {o4 : Option Value} {o5 : Option Value} (g1 : aKd S a2 = 100) (h2 : (0 : Int) ≤ 0 ∧ 0 < (aN S a2 : Int)) (h4 : (0 : Int) ≤ 1 ∧ 1 < (aN S a2 : Int)) (h6 : (0 : Int) ≤ 2 ∧ 2 < (aN S a2 : Int)) (h8 : (0 : Int) ≤ 3 ∧ 3 < (aN S a2 : Int)) (h10 : (0 : Int) ≤ 4 ∧ 4 < (aN S a2 : Int)) (hd1 : 1 ≤ d) (k : X E (d - 1) fX7_feed 0 [some (.ref a0), some (J (M a2 0)), some (J (M a2 1)), some (J (M a2 2)), some (J (M a2 3)), some (J (M a2 4))] [] S (mI M) (Kr E d fL_taught 118 [some (.ref a0), o1, some (.ref a2), o3, o4, o5] [] Q)) (g11 : aKd S a0 = 9) : X E d fL_taught 99 [some (.ref a0), o1, some (.ref a2), o3, o4, o5] [] S (mI M) Q := by
  refine X_aload_n 100 (by decide +kernel : decode cL_taught 99 = .ok (.aload_n 0, 1)) rfl rfl rfl ?_
  refine X_aload_n 101 (by decide +kernel : decode cL_taught 100 = .ok (.aload_n 2, 1)) rfl rfl rfl ?_
  refine X_iconst 102 (by decide +kernel : decode cL_taught 101 = .ok (.iconst 0, 1)) rfl rfl ?_
  refine X_iald 103 (by decide +kernel : decode cL_taught 102 = .ok (.iaload, 1)) rfl rfl g1 ⟨by decide, by decide⟩ h2 ?_
  refine X_aload_n 104 (by decide +kernel : decode cL_taught 103 = .ok (.aload_n 2, 1)) rfl rfl rfl ?_
  refine X_iconst 105 (by decide +kernel : decode cL_taught 104 = .ok (.iconst 1, 1)) rfl rfl ?_
  refine X_iald 106 (by decide +kernel : decode cL_taught 105 = .ok (.iaload, 1)) rfl rfl g1 ⟨by decide, by decide⟩ h4 ?_
  refine X_aload_n 107 (by decide +kernel : decode cL_taught 106 = .ok (.aload_n 2, 1)) rfl rfl rfl ?_
  refine X_iconst 108 (by decide +kernel : decode cL_taught 107 = .ok (.iconst 2, 1)) rfl rfl ?_
  refine X_iald 109 (by decide +kernel : decode cL_taught 108 = .ok (.iaload, 1)) rfl rfl g1 ⟨by decide, by decide⟩ h6 ?_
  refine X_aload_n 110 (by decide +kernel : decode cL_taught 109 = .ok (.aload_n 2, 1)) rfl rfl rfl ?_
  refine X_iconst 111 (by decide +kernel : decode cL_taught 110 = .ok (.iconst 3, 1)) rfl rfl ?_
  refine X_iald 112 (by decide +kernel : decode cL_taught 111 = .ok (.iaload, 1)) rfl rfl g1 ⟨by decide, by decide⟩ h8 ?_
  refine X_aload_n 113 (by decide +kernel : decode cL_taught 112 = .ok (.aload_n 2, 1)) rfl rfl rfl ?_
  refine X_iconst 114 (by decide +kernel : decode cL_taught 113 = .ok (.iconst 4, 1)) rfl rfl ?_
  refine X_iald 115 (by decide +kernel : decode cL_taught 114 = .ok (.iaload, 1)) rfl rfl g1 ⟨by decide, by decide⟩ h10 ?_
  exact X_cv (as := [J (M a2 4), J (M a2 3), J (M a2 2), J (M a2 1), J (M a2 0)]) (rest := []) (by decide +kernel : decode cL_taught 115 = .ok (.invokevirtual 25, 3)) (Or.inl ⟨rfl, rfl, rfl⟩) rfl rfl rfl rfl rfl (Nat.le_of_ble_eq_true rfl) (Or.inr (Or.inr (by rw [g11]; rfl))) hd1 k
theorem kL_taught_118 {o0 : Option Value} {o1 : Option Value} {o2 : Option Value} {x3 : Int} {o4 : Option Value} {o5 : Option Value} {t0 : Int} (k : X E d fL_taught 12 [o0, o1, o2, some (J (x3 + 20)), o4, o5] [] S (mI M) Q) : X E d fL_taught 118 [o0, o1, o2, some (J x3), o4, o5] [J t0] S (mI M) Q := by
  refine X_pop 119 (by decide +kernel : decode cL_taught 118 = .ok (.pop, 1)) rfl rfl rfl ?_
  refine X_iinc 122 (by decide +kernel : decode cL_taught 119 = .ok (.iinc 3 20, 3)) rfl rfl rfl rfl ?_
  exact X_goto 12 (by decide +kernel : decode cL_taught 122 = .ok (.goto (-110), 3)) rfl (by decide) k
theorem kL_taught_125 {a0 : Nat} {a1 : Nat} {o2 : Option Value} {o3 : Option Value} {o4 : Option Value} {o5 : Option Value} (hd1 : 1 ≤ d) (k : X E (d - 1) fJ0_length_8abf5 0 [some (.ref a1)] [] S (mI M) (Kr E d fL_taught 130 [some (.ref a0), some (.ref a1), o2, o3, o4, o5] [.ref a0] Q)) (g1 : aKd S a1 = 0) : X E d fL_taught 125 [some (.ref a0), some (.ref a1), o2, o3, o4, o5] [] S (mI M) Q := by
  refine X_aload_n 126 (by decide +kernel : decode cL_taught 125 = .ok (.aload_n 0, 1)) rfl rfl rfl ?_
  refine X_aload_n 127 (by decide +kernel : decode cL_taught 126 = .ok (.aload_n 1, 1)) rfl rfl rfl ?_
  exact X_cv (as := []) (rest := [.ref a0]) (by decide +kernel : decode cL_taught 127 = .ok (.invokevirtual 15, 3)) (Or.inl ⟨rfl, rfl, rfl⟩) rfl rfl rfl rfl rfl (Nat.le_of_ble_eq_true rfl) (Or.inr (Or.inr (by rw [g1]; rfl))) hd1 k
theorem kL_taught_130 {o0 : Option Value} {o1 : Option Value} {o2 : Option Value} {o3 : Option Value} {o4 : Option Value} {o5 : Option Value} {t0 : Int} {u1 : Nat} (hd1 : 1 ≤ d) (k : X E (d - 1) fX7_trim 0 [some (.ref u1), some (J t0)] [] S (mI M) (Kr E d fL_taught 133 [o0, o1, o2, o3, o4, o5] [] Q)) (g1 : aKd S u1 = 9) : X E d fL_taught 130 [o0, o1, o2, o3, o4, o5] [J t0, .ref u1] S (mI M) Q := by
  exact X_cv (as := [J t0]) (rest := []) (by decide +kernel : decode cL_taught 130 = .ok (.invokevirtual 9, 3)) (Or.inl ⟨rfl, rfl, rfl⟩) rfl rfl rfl rfl rfl (Nat.le_of_ble_eq_true rfl) (Or.inr (Or.inr (by rw [g1]; rfl))) hd1 k
theorem kL_taught_133 {a0 : Nat} {o1 : Option Value} {o2 : Option Value} {o3 : Option Value} {o4 : Option Value} {o5 : Option Value} {t0 : Int} (hd1 : 1 ≤ d) (k : X E (d - 1) fX7_teach 0 [some (.ref a0), none, none] [] S (mI M) (Kr E d fL_taught 138 [some (.ref a0), o1, o2, o3, o4, o5] [] Q)) (g1 : aKd S a0 = 9) : X E d fL_taught 133 [some (.ref a0), o1, o2, o3, o4, o5] [J t0] S (mI M) Q := by
  refine X_pop 134 (by decide +kernel : decode cL_taught 133 = .ok (.pop, 1)) rfl rfl rfl ?_
  refine X_aload_n 135 (by decide +kernel : decode cL_taught 134 = .ok (.aload_n 0, 1)) rfl rfl rfl ?_
  exact X_cv (as := []) (rest := []) (by decide +kernel : decode cL_taught 135 = .ok (.invokevirtual 29, 3)) (Or.inl ⟨rfl, rfl, rfl⟩) rfl rfl rfl rfl rfl (Nat.le_of_ble_eq_true rfl) (Or.inr (Or.inr (by rw [g1]; rfl))) hd1 k
theorem kL_taught_138 {o0 : Option Value} {o1 : Option Value} {o2 : Option Value} {o3 : Option Value} {o4 : Option Value} {o5 : Option Value} {t0 : Int} (q : Q (some (some (J t0))) S (mI M)) : X E d fL_taught 138 [o0, o1, o2, o3, o4, o5] [J t0] S (mI M) Q := by
  exact X_iret (by decide +kernel : decode cL_taught 138 = .ok (.ireturn, 1)) rfl rfl rfl q
theorem kL_test_0 {a0 : Nat} {o1 : Option Value} (g1 : aKd S a0 = 100) (h2 : (0 : Int) ≤ 5 ∧ 5 < (aN S a0 : Int)) (h4 : (0 : Int) ≤ 4 ∧ 4 < (aN S a0 : Int)) (r5 : R32 ((M a0 4))) (kd : (M a0 4) ≠ 0 ∧ (M a0 4) ≠ 1 ∧ (M a0 4) ≠ 2 ∧ (M a0 4) ≠ 3 ∧ (M a0 4) ≠ 4 ∧ (M a0 4) ≠ 5 ∧ (M a0 4) ≠ 6 → X E d fL_test 285 [some (.ref a0), some (J (M a0 5))] [] S (mI M) Q) (k0 : (M a0 4) = 0 → X E d fL_test 48 [some (.ref a0), some (J (M a0 5))] [] S (mI M) Q) (k1 : (M a0 4) = 1 → X E d fL_test 73 [some (.ref a0), some (J (M a0 5))] [] S (mI M) Q) (k2 : (M a0 4) = 2 → X E d fL_test 96 [some (.ref a0), some (J (M a0 5))] [] S (mI M) Q) (k3 : (M a0 4) = 3 → X E d fL_test 128 [some (.ref a0), some (J (M a0 5))] [] S (mI M) Q) (k4 : (M a0 4) = 4 → X E d fL_test 160 [some (.ref a0), some (J (M a0 5))] [] S (mI M) Q) (k5 : (M a0 4) = 5 → X E d fL_test 204 [some (.ref a0), some (J (M a0 5))] [] S (mI M) Q) (k6 : (M a0 4) = 6 → X E d fL_test 257 [some (.ref a0), some (J (M a0 5))] [] S (mI M) Q) : X E d fL_test 0 [some (.ref a0), o1] [] S (mI M) Q := by
  refine X_aload_n 1 (by decide +kernel : decode cL_test 0 = .ok (.aload_n 0, 1)) rfl rfl rfl ?_
  refine X_iconst 2 (by decide +kernel : decode cL_test 1 = .ok (.iconst 5, 1)) rfl rfl ?_
  refine X_iald 3 (by decide +kernel : decode cL_test 2 = .ok (.iaload, 1)) rfl rfl g1 ⟨by decide, by decide⟩ h2 ?_
  refine X_istore_n 4 (by decide +kernel : decode cL_test 3 = .ok (.istore_n 1, 1)) rfl rfl (Nat.le_of_ble_eq_true rfl) rfl ?_
  refine X_aload_n 5 (by decide +kernel : decode cL_test 4 = .ok (.aload_n 0, 1)) rfl rfl rfl ?_
  refine X_iconst 6 (by decide +kernel : decode cL_test 5 = .ok (.iconst 4, 1)) rfl rfl ?_
  refine X_iald 7 (by decide +kernel : decode cL_test 6 = .ok (.iaload, 1)) rfl rfl g1 ⟨by decide, by decide⟩ h4 ?_
  by_cases hr : (M a0 4) < 0 ∨ 6 < (M a0 4)
  · exact X_tswD 285 (by decide +kernel : decode cL_test 7 = .ok (.tableswitch 278 0 6 #[41, 66, 89, 121, 153, 197, 250], 41)) rfl (by decide) r5 hr (kd (by omega))
  · rcases (by omega : (M a0 4) = 0 ∨ (M a0 4) = 1 ∨ (M a0 4) = 2 ∨ (M a0 4) = 3 ∨ (M a0 4) = 4 ∨ (M a0 4) = 5 ∨ (M a0 4) = 6) with h | h | h | h | h | h | h
    · exact X_tswI 48 0 (by decide +kernel : decode cL_test 7 = .ok (.tableswitch 278 0 6 #[41, 66, 89, 121, 153, 197, 250], 41)) rfl rfl (by decide) r5 (h.trans rfl) (by decide) (k0 h)
    · exact X_tswI 73 1 (by decide +kernel : decode cL_test 7 = .ok (.tableswitch 278 0 6 #[41, 66, 89, 121, 153, 197, 250], 41)) rfl rfl (by decide) r5 (h.trans rfl) (by decide) (k1 h)
    · exact X_tswI 96 2 (by decide +kernel : decode cL_test 7 = .ok (.tableswitch 278 0 6 #[41, 66, 89, 121, 153, 197, 250], 41)) rfl rfl (by decide) r5 (h.trans rfl) (by decide) (k2 h)
    · exact X_tswI 128 3 (by decide +kernel : decode cL_test 7 = .ok (.tableswitch 278 0 6 #[41, 66, 89, 121, 153, 197, 250], 41)) rfl rfl (by decide) r5 (h.trans rfl) (by decide) (k3 h)
    · exact X_tswI 160 4 (by decide +kernel : decode cL_test 7 = .ok (.tableswitch 278 0 6 #[41, 66, 89, 121, 153, 197, 250], 41)) rfl rfl (by decide) r5 (h.trans rfl) (by decide) (k4 h)
    · exact X_tswI 204 5 (by decide +kernel : decode cL_test 7 = .ok (.tableswitch 278 0 6 #[41, 66, 89, 121, 153, 197, 250], 41)) rfl rfl (by decide) r5 (h.trans rfl) (by decide) (k5 h)
    · exact X_tswI 257 6 (by decide +kernel : decode cL_test 7 = .ok (.tableswitch 278 0 6 #[41, 66, 89, 121, 153, 197, 250], 41)) rfl rfl (by decide) r5 (h.trans rfl) (by decide) (k6 h)
theorem kL_test_48 {o0 : Option Value} {o1 : Option Value} (hd1 : 1 ≤ d) (k : X E (d - 1) fJ4_init_da8c8 0 [some (.ref (aX S))] [] (aNew S 1 4 4) (mI (aU M (aX S) (fun _ => 0))) (Kr E d fL_test 55 [o0, o1] [.ref (aX S)] Q)) : X E d fL_test 48 [o0, o1] [] S (mI M) Q := by
  refine X_new 51 (by decide +kernel : decode cL_test 48 = .ok (.new 32, 3)) rfl rfl (by decide +kernel : aNd 11 32 = some (1, 4)) ?_
  refine X_dup 52 (by decide +kernel : decode cL_test 51 = .ok (.dup, 1)) rfl rfl rfl ?_
  exact X_cv (as := []) (rest := [.ref (aX S)]) (by decide +kernel : decode cL_test 52 = .ok (.invokespecial 34, 3)) (Or.inr ⟨rfl, rfl, rfl⟩) rfl rfl rfl rfl rfl (Nat.le_of_ble_eq_true rfl) (Or.inl rfl) hd1 k
theorem kL_test_55 {o0 : Option Value} {o1 : Option Value} {u0 : Nat} {b1 : Nat} (e2 : E 130 = .ref b1) (hd1 : 1 ≤ d) (k : X E (d - 1) fJ4_append_15ec4 0 [some (.ref u0), some (.ref b1)] [] S (mI M) (Kr E d fL_test 60 [o0, o1] [] Q)) (g3 : aKd S u0 = 1) : X E d fL_test 55 [o0, o1] [.ref u0] S (mI M) Q := by
  refine X_ldcS 57 (by decide +kernel : decode cL_test 55 = .ok (.ldc 66, 2)) rfl rfl rfl rfl e2 ?_
  exact X_cv (as := [.ref b1]) (rest := []) (by decide +kernel : decode cL_test 57 = .ok (.invokevirtual 37, 3)) (Or.inl ⟨rfl, rfl, rfl⟩) rfl rfl rfl rfl rfl (Nat.le_of_ble_eq_true rfl) (Or.inr (Or.inr (by rw [g3]; rfl))) hd1 k
theorem kL_test_60 {o0 : Option Value} {x1 : Int} {u0 : Nat} (hd1 : 1 ≤ d) (k : X E (d - 1) fJ4_append_bf812 0 [some (.ref u0), some (J x1)] [] S (mI M) (Kr E d fL_test 64 [o0, some (J x1)] [] Q)) (g1 : aKd S u0 = 1) : X E d fL_test 60 [o0, some (J x1)] [.ref u0] S (mI M) Q := by
  refine X_iload_n 61 (by decide +kernel : decode cL_test 60 = .ok (.iload_n 1, 1)) rfl rfl rfl ?_
  exact X_cv (as := [J x1]) (rest := []) (by decide +kernel : decode cL_test 61 = .ok (.invokevirtual 41, 3)) (Or.inl ⟨rfl, rfl, rfl⟩) rfl rfl rfl rfl rfl (Nat.le_of_ble_eq_true rfl) (Or.inr (Or.inr (by rw [g1]; rfl))) hd1 k
theorem kL_test_64 {o0 : Option Value} {o1 : Option Value} {u0 : Nat} {b1 : Nat} (e2 : E 131 = .ref b1) (hd1 : 1 ≤ d) (k : X E (d - 1) fJ4_append_15ec4 0 [some (.ref u0), some (.ref b1)] [] S (mI M) (Kr E d fL_test 69 [o0, o1] [] Q)) (g3 : aKd S u0 = 1) : X E d fL_test 64 [o0, o1] [.ref u0] S (mI M) Q := by
  refine X_ldcS 66 (by decide +kernel : decode cL_test 64 = .ok (.ldc 68, 2)) rfl rfl rfl rfl e2 ?_
  exact X_cv (as := [.ref b1]) (rest := []) (by decide +kernel : decode cL_test 66 = .ok (.invokevirtual 37, 3)) (Or.inl ⟨rfl, rfl, rfl⟩) rfl rfl rfl rfl rfl (Nat.le_of_ble_eq_true rfl) (Or.inr (Or.inr (by rw [g3]; rfl))) hd1 k
theorem kL_test_69 {o0 : Option Value} {o1 : Option Value} {u0 : Nat} (hd1 : 1 ≤ d) (k : X E (d - 1) fJ4_toString_0e30d 0 [some (.ref u0)] [] S (mI M) (Kr E d fL_test 72 [o0, o1] [] Q)) (g1 : aKd S u0 = 1) : X E d fL_test 69 [o0, o1] [.ref u0] S (mI M) Q := by
  exact X_cv (as := []) (rest := []) (by decide +kernel : decode cL_test 69 = .ok (.invokevirtual 44, 3)) (Or.inl ⟨rfl, rfl, rfl⟩) rfl rfl rfl rfl rfl (Nat.le_of_ble_eq_true rfl) (Or.inr (Or.inr (by rw [g1]; rfl))) hd1 k
theorem kL_test_72 {o0 : Option Value} {o1 : Option Value} {u0 : Nat} (q : Q (some (some (.ref u0))) S (mI M)) : X E d fL_test 72 [o0, o1] [.ref u0] S (mI M) Q := by
  exact X_aret (by decide +kernel : decode cL_test 72 = .ok (.areturn, 1)) rfl rfl rfl q
theorem kL_test_73 {o0 : Option Value} {o1 : Option Value} (hd1 : 1 ≤ d) (k : X E (d - 1) fJ4_init_da8c8 0 [some (.ref (aX S))] [] (aNew S 1 4 4) (mI (aU M (aX S) (fun _ => 0))) (Kr E d fL_test 80 [o0, o1] [.ref (aX S)] Q)) : X E d fL_test 73 [o0, o1] [] S (mI M) Q := by
  refine X_new 76 (by decide +kernel : decode cL_test 73 = .ok (.new 32, 3)) rfl rfl (by decide +kernel : aNd 11 32 = some (1, 4)) ?_
  refine X_dup 77 (by decide +kernel : decode cL_test 76 = .ok (.dup, 1)) rfl rfl rfl ?_
  exact X_cv (as := []) (rest := [.ref (aX S)]) (by decide +kernel : decode cL_test 77 = .ok (.invokespecial 34, 3)) (Or.inr ⟨rfl, rfl, rfl⟩) rfl rfl rfl rfl rfl (Nat.le_of_ble_eq_true rfl) (Or.inl rfl) hd1 k
theorem kL_test_80 {o0 : Option Value} {o1 : Option Value} {u0 : Nat} {b1 : Nat} (e2 : E 132 = .ref b1) (hd1 : 1 ≤ d) (k : X E (d - 1) fJ4_append_15ec4 0 [some (.ref u0), some (.ref b1)] [] S (mI M) (Kr E d fL_test 85 [o0, o1] [] Q)) (g3 : aKd S u0 = 1) : X E d fL_test 80 [o0, o1] [.ref u0] S (mI M) Q := by
  refine X_ldcS 82 (by decide +kernel : decode cL_test 80 = .ok (.ldc 70, 2)) rfl rfl rfl rfl e2 ?_
  exact X_cv (as := [.ref b1]) (rest := []) (by decide +kernel : decode cL_test 82 = .ok (.invokevirtual 37, 3)) (Or.inl ⟨rfl, rfl, rfl⟩) rfl rfl rfl rfl rfl (Nat.le_of_ble_eq_true rfl) (Or.inr (Or.inr (by rw [g3]; rfl))) hd1 k
theorem kL_test_85 {a0 : Nat} {o1 : Option Value} {u0 : Nat} (g1 : aKd S a0 = 100) (h2 : (0 : Int) ≤ 8 ∧ 8 < (aN S a0 : Int)) (hd1 : 1 ≤ d) (k : X E (d - 1) fJ4_append_bf812 0 [some (.ref u0), some (J (M a0 8))] [] S (mI M) (Kr E d fL_test 92 [some (.ref a0), o1] [] Q)) (g3 : aKd S u0 = 1) : X E d fL_test 85 [some (.ref a0), o1] [.ref u0] S (mI M) Q := by
  refine X_aload_n 86 (by decide +kernel : decode cL_test 85 = .ok (.aload_n 0, 1)) rfl rfl rfl ?_
  refine X_bipush 88 (8) (by decide +kernel : decode cL_test 86 = .ok (.bipush 8, 2)) rfl rfl (by decide +kernel) ?_
  refine X_iald 89 (by decide +kernel : decode cL_test 88 = .ok (.iaload, 1)) rfl rfl g1 ⟨by decide, by decide⟩ h2 ?_
  exact X_cv (as := [J (M a0 8)]) (rest := []) (by decide +kernel : decode cL_test 89 = .ok (.invokevirtual 41, 3)) (Or.inl ⟨rfl, rfl, rfl⟩) rfl rfl rfl rfl rfl (Nat.le_of_ble_eq_true rfl) (Or.inr (Or.inr (by rw [g3]; rfl))) hd1 k
theorem kL_test_92 {o0 : Option Value} {o1 : Option Value} {u0 : Nat} (hd1 : 1 ≤ d) (k : X E (d - 1) fJ4_toString_0e30d 0 [some (.ref u0)] [] S (mI M) (Kr E d fL_test 95 [o0, o1] [] Q)) (g1 : aKd S u0 = 1) : X E d fL_test 92 [o0, o1] [.ref u0] S (mI M) Q := by
  exact X_cv (as := []) (rest := []) (by decide +kernel : decode cL_test 92 = .ok (.invokevirtual 44, 3)) (Or.inl ⟨rfl, rfl, rfl⟩) rfl rfl rfl rfl rfl (Nat.le_of_ble_eq_true rfl) (Or.inr (Or.inr (by rw [g1]; rfl))) hd1 k
theorem kL_test_95 {o0 : Option Value} {o1 : Option Value} {u0 : Nat} (q : Q (some (some (.ref u0))) S (mI M)) : X E d fL_test 95 [o0, o1] [.ref u0] S (mI M) Q := by
  exact X_aret (by decide +kernel : decode cL_test 95 = .ok (.areturn, 1)) rfl rfl rfl q
theorem kL_test_96 {o0 : Option Value} {o1 : Option Value} (hd1 : 1 ≤ d) (k : X E (d - 1) fJ4_init_da8c8 0 [some (.ref (aX S))] [] (aNew S 1 4 4) (mI (aU M (aX S) (fun _ => 0))) (Kr E d fL_test 103 [o0, o1] [.ref (aX S)] Q)) : X E d fL_test 96 [o0, o1] [] S (mI M) Q := by
  refine X_new 99 (by decide +kernel : decode cL_test 96 = .ok (.new 32, 3)) rfl rfl (by decide +kernel : aNd 11 32 = some (1, 4)) ?_
  refine X_dup 100 (by decide +kernel : decode cL_test 99 = .ok (.dup, 1)) rfl rfl rfl ?_
  exact X_cv (as := []) (rest := [.ref (aX S)]) (by decide +kernel : decode cL_test 100 = .ok (.invokespecial 34, 3)) (Or.inr ⟨rfl, rfl, rfl⟩) rfl rfl rfl rfl rfl (Nat.le_of_ble_eq_true rfl) (Or.inl rfl) hd1 k
theorem kL_test_103 {o0 : Option Value} {o1 : Option Value} {u0 : Nat} {b1 : Nat} (e2 : E 133 = .ref b1) (hd1 : 1 ≤ d) (k : X E (d - 1) fJ4_append_15ec4 0 [some (.ref u0), some (.ref b1)] [] S (mI M) (Kr E d fL_test 108 [o0, o1] [] Q)) (g3 : aKd S u0 = 1) : X E d fL_test 103 [o0, o1] [.ref u0] S (mI M) Q := by
  refine X_ldcS 105 (by decide +kernel : decode cL_test 103 = .ok (.ldc 72, 2)) rfl rfl rfl rfl e2 ?_
  exact X_cv (as := [.ref b1]) (rest := []) (by decide +kernel : decode cL_test 105 = .ok (.invokevirtual 37, 3)) (Or.inl ⟨rfl, rfl, rfl⟩) rfl rfl rfl rfl rfl (Nat.le_of_ble_eq_true rfl) (Or.inr (Or.inr (by rw [g3]; rfl))) hd1 k
theorem kL_test_108 {a0 : Nat} {o1 : Option Value} {u0 : Nat} (g1 : aKd S a0 = 100) (h2 : (0 : Int) ≤ 7 ∧ 7 < (aN S a0 : Int)) (hd1 : 1 ≤ d) (k : X E (d - 1) fJ4_append_bf812 0 [some (.ref u0), some (J (M a0 7))] [] S (mI M) (Kr E d fL_test 115 [some (.ref a0), o1] [] Q)) (g3 : aKd S u0 = 1) : X E d fL_test 108 [some (.ref a0), o1] [.ref u0] S (mI M) Q := by
  refine X_aload_n 109 (by decide +kernel : decode cL_test 108 = .ok (.aload_n 0, 1)) rfl rfl rfl ?_
  refine X_bipush 111 (7) (by decide +kernel : decode cL_test 109 = .ok (.bipush 7, 2)) rfl rfl (by decide +kernel) ?_
  refine X_iald 112 (by decide +kernel : decode cL_test 111 = .ok (.iaload, 1)) rfl rfl g1 ⟨by decide, by decide⟩ h2 ?_
  exact X_cv (as := [J (M a0 7)]) (rest := []) (by decide +kernel : decode cL_test 112 = .ok (.invokevirtual 41, 3)) (Or.inl ⟨rfl, rfl, rfl⟩) rfl rfl rfl rfl rfl (Nat.le_of_ble_eq_true rfl) (Or.inr (Or.inr (by rw [g3]; rfl))) hd1 k
theorem kL_test_115 {o0 : Option Value} {o1 : Option Value} {u0 : Nat} {b1 : Nat} (e2 : E 134 = .ref b1) (hd1 : 1 ≤ d) (k : X E (d - 1) fJ4_append_15ec4 0 [some (.ref u0), some (.ref b1)] [] S (mI M) (Kr E d fL_test 120 [o0, o1] [] Q)) (g3 : aKd S u0 = 1) : X E d fL_test 115 [o0, o1] [.ref u0] S (mI M) Q := by
  refine X_ldcS 117 (by decide +kernel : decode cL_test 115 = .ok (.ldc 74, 2)) rfl rfl rfl rfl e2 ?_
  exact X_cv (as := [.ref b1]) (rest := []) (by decide +kernel : decode cL_test 117 = .ok (.invokevirtual 37, 3)) (Or.inl ⟨rfl, rfl, rfl⟩) rfl rfl rfl rfl rfl (Nat.le_of_ble_eq_true rfl) (Or.inr (Or.inr (by rw [g3]; rfl))) hd1 k
theorem kL_test_120 {o0 : Option Value} {x1 : Int} {u0 : Nat} (hd1 : 1 ≤ d) (k : X E (d - 1) fJ4_append_bf812 0 [some (.ref u0), some (J x1)] [] S (mI M) (Kr E d fL_test 124 [o0, some (J x1)] [] Q)) (g1 : aKd S u0 = 1) : X E d fL_test 120 [o0, some (J x1)] [.ref u0] S (mI M) Q := by
  refine X_iload_n 121 (by decide +kernel : decode cL_test 120 = .ok (.iload_n 1, 1)) rfl rfl rfl ?_
  exact X_cv (as := [J x1]) (rest := []) (by decide +kernel : decode cL_test 121 = .ok (.invokevirtual 41, 3)) (Or.inl ⟨rfl, rfl, rfl⟩) rfl rfl rfl rfl rfl (Nat.le_of_ble_eq_true rfl) (Or.inr (Or.inr (by rw [g1]; rfl))) hd1 k
theorem kL_test_124 {o0 : Option Value} {o1 : Option Value} {u0 : Nat} (hd1 : 1 ≤ d) (k : X E (d - 1) fJ4_toString_0e30d 0 [some (.ref u0)] [] S (mI M) (Kr E d fL_test 127 [o0, o1] [] Q)) (g1 : aKd S u0 = 1) : X E d fL_test 124 [o0, o1] [.ref u0] S (mI M) Q := by
  exact X_cv (as := []) (rest := []) (by decide +kernel : decode cL_test 124 = .ok (.invokevirtual 44, 3)) (Or.inl ⟨rfl, rfl, rfl⟩) rfl rfl rfl rfl rfl (Nat.le_of_ble_eq_true rfl) (Or.inr (Or.inr (by rw [g1]; rfl))) hd1 k
theorem kL_test_127 {o0 : Option Value} {o1 : Option Value} {u0 : Nat} (q : Q (some (some (.ref u0))) S (mI M)) : X E d fL_test 127 [o0, o1] [.ref u0] S (mI M) Q := by
  exact X_aret (by decide +kernel : decode cL_test 127 = .ok (.areturn, 1)) rfl rfl rfl q
theorem kL_test_128 {o0 : Option Value} {o1 : Option Value} (hd1 : 1 ≤ d) (k : X E (d - 1) fJ4_init_da8c8 0 [some (.ref (aX S))] [] (aNew S 1 4 4) (mI (aU M (aX S) (fun _ => 0))) (Kr E d fL_test 135 [o0, o1] [.ref (aX S)] Q)) : X E d fL_test 128 [o0, o1] [] S (mI M) Q := by
  refine X_new 131 (by decide +kernel : decode cL_test 128 = .ok (.new 32, 3)) rfl rfl (by decide +kernel : aNd 11 32 = some (1, 4)) ?_
  refine X_dup 132 (by decide +kernel : decode cL_test 131 = .ok (.dup, 1)) rfl rfl rfl ?_
  exact X_cv (as := []) (rest := [.ref (aX S)]) (by decide +kernel : decode cL_test 132 = .ok (.invokespecial 34, 3)) (Or.inr ⟨rfl, rfl, rfl⟩) rfl rfl rfl rfl rfl (Nat.le_of_ble_eq_true rfl) (Or.inl rfl) hd1 k
theorem kL_test_135 {o0 : Option Value} {o1 : Option Value} {u0 : Nat} {b1 : Nat} (e2 : E 135 = .ref b1) (hd1 : 1 ≤ d) (k : X E (d - 1) fJ4_append_15ec4 0 [some (.ref u0), some (.ref b1)] [] S (mI M) (Kr E d fL_test 140 [o0, o1] [] Q)) (g3 : aKd S u0 = 1) : X E d fL_test 135 [o0, o1] [.ref u0] S (mI M) Q := by
  refine X_ldcS 137 (by decide +kernel : decode cL_test 135 = .ok (.ldc 76, 2)) rfl rfl rfl rfl e2 ?_
  exact X_cv (as := [.ref b1]) (rest := []) (by decide +kernel : decode cL_test 137 = .ok (.invokevirtual 37, 3)) (Or.inl ⟨rfl, rfl, rfl⟩) rfl rfl rfl rfl rfl (Nat.le_of_ble_eq_true rfl) (Or.inr (Or.inr (by rw [g3]; rfl))) hd1 k
theorem kL_test_140 {a0 : Nat} {o1 : Option Value} {u0 : Nat} (g1 : aKd S a0 = 100) (h2 : (0 : Int) ≤ 7 ∧ 7 < (aN S a0 : Int)) (hd1 : 1 ≤ d) (k : X E (d - 1) fJ4_append_bf812 0 [some (.ref u0), some (J (M a0 7))] [] S (mI M) (Kr E d fL_test 147 [some (.ref a0), o1] [] Q)) (g3 : aKd S u0 = 1) : X E d fL_test 140 [some (.ref a0), o1] [.ref u0] S (mI M) Q := by
  refine X_aload_n 141 (by decide +kernel : decode cL_test 140 = .ok (.aload_n 0, 1)) rfl rfl rfl ?_
  refine X_bipush 143 (7) (by decide +kernel : decode cL_test 141 = .ok (.bipush 7, 2)) rfl rfl (by decide +kernel) ?_
  refine X_iald 144 (by decide +kernel : decode cL_test 143 = .ok (.iaload, 1)) rfl rfl g1 ⟨by decide, by decide⟩ h2 ?_
  exact X_cv (as := [J (M a0 7)]) (rest := []) (by decide +kernel : decode cL_test 144 = .ok (.invokevirtual 41, 3)) (Or.inl ⟨rfl, rfl, rfl⟩) rfl rfl rfl rfl rfl (Nat.le_of_ble_eq_true rfl) (Or.inr (Or.inr (by rw [g3]; rfl))) hd1 k
theorem kL_test_147 {o0 : Option Value} {o1 : Option Value} {u0 : Nat} {b1 : Nat} (e2 : E 136 = .ref b1) (hd1 : 1 ≤ d) (k : X E (d - 1) fJ4_append_15ec4 0 [some (.ref u0), some (.ref b1)] [] S (mI M) (Kr E d fL_test 152 [o0, o1] [] Q)) (g3 : aKd S u0 = 1) : X E d fL_test 147 [o0, o1] [.ref u0] S (mI M) Q := by
  refine X_ldcS 149 (by decide +kernel : decode cL_test 147 = .ok (.ldc 78, 2)) rfl rfl rfl rfl e2 ?_
  exact X_cv (as := [.ref b1]) (rest := []) (by decide +kernel : decode cL_test 149 = .ok (.invokevirtual 37, 3)) (Or.inl ⟨rfl, rfl, rfl⟩) rfl rfl rfl rfl rfl (Nat.le_of_ble_eq_true rfl) (Or.inr (Or.inr (by rw [g3]; rfl))) hd1 k
theorem kL_test_152 {o0 : Option Value} {x1 : Int} {u0 : Nat} (hd1 : 1 ≤ d) (k : X E (d - 1) fJ4_append_bf812 0 [some (.ref u0), some (J x1)] [] S (mI M) (Kr E d fL_test 156 [o0, some (J x1)] [] Q)) (g1 : aKd S u0 = 1) : X E d fL_test 152 [o0, some (J x1)] [.ref u0] S (mI M) Q := by
  refine X_iload_n 153 (by decide +kernel : decode cL_test 152 = .ok (.iload_n 1, 1)) rfl rfl rfl ?_
  exact X_cv (as := [J x1]) (rest := []) (by decide +kernel : decode cL_test 153 = .ok (.invokevirtual 41, 3)) (Or.inl ⟨rfl, rfl, rfl⟩) rfl rfl rfl rfl rfl (Nat.le_of_ble_eq_true rfl) (Or.inr (Or.inr (by rw [g1]; rfl))) hd1 k
theorem kL_test_156 {o0 : Option Value} {o1 : Option Value} {u0 : Nat} (hd1 : 1 ≤ d) (k : X E (d - 1) fJ4_toString_0e30d 0 [some (.ref u0)] [] S (mI M) (Kr E d fL_test 159 [o0, o1] [] Q)) (g1 : aKd S u0 = 1) : X E d fL_test 156 [o0, o1] [.ref u0] S (mI M) Q := by
  exact X_cv (as := []) (rest := []) (by decide +kernel : decode cL_test 156 = .ok (.invokevirtual 44, 3)) (Or.inl ⟨rfl, rfl, rfl⟩) rfl rfl rfl rfl rfl (Nat.le_of_ble_eq_true rfl) (Or.inr (Or.inr (by rw [g1]; rfl))) hd1 k
theorem kL_test_159 {o0 : Option Value} {o1 : Option Value} {u0 : Nat} (q : Q (some (some (.ref u0))) S (mI M)) : X E d fL_test 159 [o0, o1] [.ref u0] S (mI M) Q := by
  exact X_aret (by decide +kernel : decode cL_test 159 = .ok (.areturn, 1)) rfl rfl rfl q
theorem kL_test_160 {o0 : Option Value} {o1 : Option Value} (hd1 : 1 ≤ d) (k : X E (d - 1) fJ4_init_da8c8 0 [some (.ref (aX S))] [] (aNew S 1 4 4) (mI (aU M (aX S) (fun _ => 0))) (Kr E d fL_test 167 [o0, o1] [.ref (aX S)] Q)) : X E d fL_test 160 [o0, o1] [] S (mI M) Q := by
  refine X_new 163 (by decide +kernel : decode cL_test 160 = .ok (.new 32, 3)) rfl rfl (by decide +kernel : aNd 11 32 = some (1, 4)) ?_
  refine X_dup 164 (by decide +kernel : decode cL_test 163 = .ok (.dup, 1)) rfl rfl rfl ?_
  exact X_cv (as := []) (rest := [.ref (aX S)]) (by decide +kernel : decode cL_test 164 = .ok (.invokespecial 34, 3)) (Or.inr ⟨rfl, rfl, rfl⟩) rfl rfl rfl rfl rfl (Nat.le_of_ble_eq_true rfl) (Or.inl rfl) hd1 k
theorem kL_test_167 {o0 : Option Value} {o1 : Option Value} {u0 : Nat} {b1 : Nat} (e2 : E 137 = .ref b1) (hd1 : 1 ≤ d) (k : X E (d - 1) fJ4_append_15ec4 0 [some (.ref u0), some (.ref b1)] [] S (mI M) (Kr E d fL_test 172 [o0, o1] [] Q)) (g3 : aKd S u0 = 1) : X E d fL_test 167 [o0, o1] [.ref u0] S (mI M) Q := by
  refine X_ldcS 169 (by decide +kernel : decode cL_test 167 = .ok (.ldc 80, 2)) rfl rfl rfl rfl e2 ?_
  exact X_cv (as := [.ref b1]) (rest := []) (by decide +kernel : decode cL_test 169 = .ok (.invokevirtual 37, 3)) (Or.inl ⟨rfl, rfl, rfl⟩) rfl rfl rfl rfl rfl (Nat.le_of_ble_eq_true rfl) (Or.inr (Or.inr (by rw [g3]; rfl))) hd1 k
theorem kL_test_172 {a0 : Nat} {o1 : Option Value} {u0 : Nat} (g1 : aKd S a0 = 100) (h2 : (0 : Int) ≤ 8 ∧ 8 < (aN S a0 : Int)) (hd1 : 1 ≤ d) (k : X E (d - 1) fJ4_append_bf812 0 [some (.ref u0), some (J (M a0 8))] [] S (mI M) (Kr E d fL_test 179 [some (.ref a0), o1] [] Q)) (g3 : aKd S u0 = 1) : X E d fL_test 172 [some (.ref a0), o1] [.ref u0] S (mI M) Q := by
  refine X_aload_n 173 (by decide +kernel : decode cL_test 172 = .ok (.aload_n 0, 1)) rfl rfl rfl ?_
  refine X_bipush 175 (8) (by decide +kernel : decode cL_test 173 = .ok (.bipush 8, 2)) rfl rfl (by decide +kernel) ?_
  refine X_iald 176 (by decide +kernel : decode cL_test 175 = .ok (.iaload, 1)) rfl rfl g1 ⟨by decide, by decide⟩ h2 ?_
  exact X_cv (as := [J (M a0 8)]) (rest := []) (by decide +kernel : decode cL_test 176 = .ok (.invokevirtual 41, 3)) (Or.inl ⟨rfl, rfl, rfl⟩) rfl rfl rfl rfl rfl (Nat.le_of_ble_eq_true rfl) (Or.inr (Or.inr (by rw [g3]; rfl))) hd1 k
theorem kL_test_179 {o0 : Option Value} {o1 : Option Value} {u0 : Nat} {b1 : Nat} (e2 : E 138 = .ref b1) (hd1 : 1 ≤ d) (k : X E (d - 1) fJ4_append_15ec4 0 [some (.ref u0), some (.ref b1)] [] S (mI M) (Kr E d fL_test 184 [o0, o1] [] Q)) (g3 : aKd S u0 = 1) : X E d fL_test 179 [o0, o1] [.ref u0] S (mI M) Q := by
  refine X_ldcS 181 (by decide +kernel : decode cL_test 179 = .ok (.ldc 82, 2)) rfl rfl rfl rfl e2 ?_
  exact X_cv (as := [.ref b1]) (rest := []) (by decide +kernel : decode cL_test 181 = .ok (.invokevirtual 37, 3)) (Or.inl ⟨rfl, rfl, rfl⟩) rfl rfl rfl rfl rfl (Nat.le_of_ble_eq_true rfl) (Or.inr (Or.inr (by rw [g3]; rfl))) hd1 k
theorem kL_test_184 {o0 : Option Value} {x1 : Int} {u0 : Nat} (hd1 : 1 ≤ d) (k : X E (d - 1) fJ4_append_bf812 0 [some (.ref u0), some (J x1)] [] S (mI M) (Kr E d fL_test 188 [o0, some (J x1)] [] Q)) (g1 : aKd S u0 = 1) : X E d fL_test 184 [o0, some (J x1)] [.ref u0] S (mI M) Q := by
  refine X_iload_n 185 (by decide +kernel : decode cL_test 184 = .ok (.iload_n 1, 1)) rfl rfl rfl ?_
  exact X_cv (as := [J x1]) (rest := []) (by decide +kernel : decode cL_test 185 = .ok (.invokevirtual 41, 3)) (Or.inl ⟨rfl, rfl, rfl⟩) rfl rfl rfl rfl rfl (Nat.le_of_ble_eq_true rfl) (Or.inr (Or.inr (by rw [g1]; rfl))) hd1 k
theorem kL_test_188 {o0 : Option Value} {o1 : Option Value} {u0 : Nat} {b1 : Nat} (e2 : E 139 = .ref b1) (hd1 : 1 ≤ d) (k : X E (d - 1) fJ4_append_15ec4 0 [some (.ref u0), some (.ref b1)] [] S (mI M) (Kr E d fL_test 193 [o0, o1] [] Q)) (g3 : aKd S u0 = 1) : X E d fL_test 188 [o0, o1] [.ref u0] S (mI M) Q := by
  refine X_ldcS 190 (by decide +kernel : decode cL_test 188 = .ok (.ldc 84, 2)) rfl rfl rfl rfl e2 ?_
  exact X_cv (as := [.ref b1]) (rest := []) (by decide +kernel : decode cL_test 190 = .ok (.invokevirtual 37, 3)) (Or.inl ⟨rfl, rfl, rfl⟩) rfl rfl rfl rfl rfl (Nat.le_of_ble_eq_true rfl) (Or.inr (Or.inr (by rw [g3]; rfl))) hd1 k
theorem kL_test_193 {a0 : Nat} {o1 : Option Value} {u0 : Nat} (g1 : aKd S a0 = 100) (h2 : (0 : Int) ≤ 8 ∧ 8 < (aN S a0 : Int)) (hd1 : 1 ≤ d) (k : X E (d - 1) fJ4_append_bf812 0 [some (.ref u0), some (J (M a0 8))] [] S (mI M) (Kr E d fL_test 200 [some (.ref a0), o1] [] Q)) (g3 : aKd S u0 = 1) : X E d fL_test 193 [some (.ref a0), o1] [.ref u0] S (mI M) Q := by
  refine X_aload_n 194 (by decide +kernel : decode cL_test 193 = .ok (.aload_n 0, 1)) rfl rfl rfl ?_
  refine X_bipush 196 (8) (by decide +kernel : decode cL_test 194 = .ok (.bipush 8, 2)) rfl rfl (by decide +kernel) ?_
  refine X_iald 197 (by decide +kernel : decode cL_test 196 = .ok (.iaload, 1)) rfl rfl g1 ⟨by decide, by decide⟩ h2 ?_
  exact X_cv (as := [J (M a0 8)]) (rest := []) (by decide +kernel : decode cL_test 197 = .ok (.invokevirtual 41, 3)) (Or.inl ⟨rfl, rfl, rfl⟩) rfl rfl rfl rfl rfl (Nat.le_of_ble_eq_true rfl) (Or.inr (Or.inr (by rw [g3]; rfl))) hd1 k
theorem kL_test_200 {o0 : Option Value} {o1 : Option Value} {u0 : Nat} (hd1 : 1 ≤ d) (k : X E (d - 1) fJ4_toString_0e30d 0 [some (.ref u0)] [] S (mI M) (Kr E d fL_test 203 [o0, o1] [] Q)) (g1 : aKd S u0 = 1) : X E d fL_test 200 [o0, o1] [.ref u0] S (mI M) Q := by
  exact X_cv (as := []) (rest := []) (by decide +kernel : decode cL_test 200 = .ok (.invokevirtual 44, 3)) (Or.inl ⟨rfl, rfl, rfl⟩) rfl rfl rfl rfl rfl (Nat.le_of_ble_eq_true rfl) (Or.inr (Or.inr (by rw [g1]; rfl))) hd1 k
theorem kL_test_203 {o0 : Option Value} {o1 : Option Value} {u0 : Nat} (q : Q (some (some (.ref u0))) S (mI M)) : X E d fL_test 203 [o0, o1] [.ref u0] S (mI M) Q := by
  exact X_aret (by decide +kernel : decode cL_test 203 = .ok (.areturn, 1)) rfl rfl rfl q
theorem kL_test_204 {o0 : Option Value} {o1 : Option Value} (hd1 : 1 ≤ d) (k : X E (d - 1) fJ4_init_da8c8 0 [some (.ref (aX S))] [] (aNew S 1 4 4) (mI (aU M (aX S) (fun _ => 0))) (Kr E d fL_test 211 [o0, o1] [.ref (aX S)] Q)) : X E d fL_test 204 [o0, o1] [] S (mI M) Q := by
  refine X_new 207 (by decide +kernel : decode cL_test 204 = .ok (.new 32, 3)) rfl rfl (by decide +kernel : aNd 11 32 = some (1, 4)) ?_
  refine X_dup 208 (by decide +kernel : decode cL_test 207 = .ok (.dup, 1)) rfl rfl rfl ?_
  exact X_cv (as := []) (rest := [.ref (aX S)]) (by decide +kernel : decode cL_test 208 = .ok (.invokespecial 34, 3)) (Or.inr ⟨rfl, rfl, rfl⟩) rfl rfl rfl rfl rfl (Nat.le_of_ble_eq_true rfl) (Or.inl rfl) hd1 k
theorem kL_test_211 {o0 : Option Value} {o1 : Option Value} {u0 : Nat} {b1 : Nat} (e2 : E 140 = .ref b1) (hd1 : 1 ≤ d) (k : X E (d - 1) fJ4_append_15ec4 0 [some (.ref u0), some (.ref b1)] [] S (mI M) (Kr E d fL_test 216 [o0, o1] [] Q)) (g3 : aKd S u0 = 1) : X E d fL_test 211 [o0, o1] [.ref u0] S (mI M) Q := by
  refine X_ldcS 213 (by decide +kernel : decode cL_test 211 = .ok (.ldc 86, 2)) rfl rfl rfl rfl e2 ?_
  exact X_cv (as := [.ref b1]) (rest := []) (by decide +kernel : decode cL_test 213 = .ok (.invokevirtual 37, 3)) (Or.inl ⟨rfl, rfl, rfl⟩) rfl rfl rfl rfl rfl (Nat.le_of_ble_eq_true rfl) (Or.inr (Or.inr (by rw [g3]; rfl))) hd1 k
theorem kL_test_216 {a0 : Nat} {o1 : Option Value} {u0 : Nat} (g1 : aKd S a0 = 100) (h2 : (0 : Int) ≤ 6 ∧ 6 < (aN S a0 : Int)) (hd1 : 1 ≤ d) (k : X E (d - 1) fJ4_append_bf812 0 [some (.ref u0), some (J (M a0 6))] [] S (mI M) (Kr E d fL_test 223 [some (.ref a0), o1] [] Q)) (g3 : aKd S u0 = 1) : X E d fL_test 216 [some (.ref a0), o1] [.ref u0] S (mI M) Q := by
  refine X_aload_n 217 (by decide +kernel : decode cL_test 216 = .ok (.aload_n 0, 1)) rfl rfl rfl ?_
  refine X_bipush 219 (6) (by decide +kernel : decode cL_test 217 = .ok (.bipush 6, 2)) rfl rfl (by decide +kernel) ?_
  refine X_iald 220 (by decide +kernel : decode cL_test 219 = .ok (.iaload, 1)) rfl rfl g1 ⟨by decide, by decide⟩ h2 ?_
  exact X_cv (as := [J (M a0 6)]) (rest := []) (by decide +kernel : decode cL_test 220 = .ok (.invokevirtual 41, 3)) (Or.inl ⟨rfl, rfl, rfl⟩) rfl rfl rfl rfl rfl (Nat.le_of_ble_eq_true rfl) (Or.inr (Or.inr (by rw [g3]; rfl))) hd1 k
theorem kL_test_223 {o0 : Option Value} {o1 : Option Value} {u0 : Nat} {b1 : Nat} (e2 : E 141 = .ref b1) (hd1 : 1 ≤ d) (k : X E (d - 1) fJ4_append_15ec4 0 [some (.ref u0), some (.ref b1)] [] S (mI M) (Kr E d fL_test 228 [o0, o1] [] Q)) (g3 : aKd S u0 = 1) : X E d fL_test 223 [o0, o1] [.ref u0] S (mI M) Q := by
  refine X_ldcS 225 (by decide +kernel : decode cL_test 223 = .ok (.ldc 88, 2)) rfl rfl rfl rfl e2 ?_
  exact X_cv (as := [.ref b1]) (rest := []) (by decide +kernel : decode cL_test 225 = .ok (.invokevirtual 37, 3)) (Or.inl ⟨rfl, rfl, rfl⟩) rfl rfl rfl rfl rfl (Nat.le_of_ble_eq_true rfl) (Or.inr (Or.inr (by rw [g3]; rfl))) hd1 k
theorem kL_test_228 {o0 : Option Value} {x1 : Int} {u0 : Nat} (hd1 : 1 ≤ d) (k : X E (d - 1) fJ4_append_bf812 0 [some (.ref u0), some (J x1)] [] S (mI M) (Kr E d fL_test 232 [o0, some (J x1)] [] Q)) (g1 : aKd S u0 = 1) : X E d fL_test 228 [o0, some (J x1)] [.ref u0] S (mI M) Q := by
  refine X_iload_n 229 (by decide +kernel : decode cL_test 228 = .ok (.iload_n 1, 1)) rfl rfl rfl ?_
  exact X_cv (as := [J x1]) (rest := []) (by decide +kernel : decode cL_test 229 = .ok (.invokevirtual 41, 3)) (Or.inl ⟨rfl, rfl, rfl⟩) rfl rfl rfl rfl rfl (Nat.le_of_ble_eq_true rfl) (Or.inr (Or.inr (by rw [g1]; rfl))) hd1 k
theorem kL_test_232 {o0 : Option Value} {o1 : Option Value} {u0 : Nat} {b1 : Nat} (e2 : E 142 = .ref b1) (hd1 : 1 ≤ d) (k : X E (d - 1) fJ4_append_15ec4 0 [some (.ref u0), some (.ref b1)] [] S (mI M) (Kr E d fL_test 237 [o0, o1] [] Q)) (g3 : aKd S u0 = 1) : X E d fL_test 232 [o0, o1] [.ref u0] S (mI M) Q := by
  refine X_ldcS 234 (by decide +kernel : decode cL_test 232 = .ok (.ldc 90, 2)) rfl rfl rfl rfl e2 ?_
  exact X_cv (as := [.ref b1]) (rest := []) (by decide +kernel : decode cL_test 234 = .ok (.invokevirtual 37, 3)) (Or.inl ⟨rfl, rfl, rfl⟩) rfl rfl rfl rfl rfl (Nat.le_of_ble_eq_true rfl) (Or.inr (Or.inr (by rw [g3]; rfl))) hd1 k
theorem kL_test_237 {a0 : Nat} {o1 : Option Value} {u0 : Nat} (g1 : aKd S a0 = 100) (h2 : (0 : Int) ≤ 9 ∧ 9 < (aN S a0 : Int)) (hd1 : 1 ≤ d) (k : X E (d - 1) fJ4_append_bf812 0 [some (.ref u0), some (J (M a0 9))] [] S (mI M) (Kr E d fL_test 244 [some (.ref a0), o1] [] Q)) (g3 : aKd S u0 = 1) : X E d fL_test 237 [some (.ref a0), o1] [.ref u0] S (mI M) Q := by
  refine X_aload_n 238 (by decide +kernel : decode cL_test 237 = .ok (.aload_n 0, 1)) rfl rfl rfl ?_
  refine X_bipush 240 (9) (by decide +kernel : decode cL_test 238 = .ok (.bipush 9, 2)) rfl rfl (by decide +kernel) ?_
  refine X_iald 241 (by decide +kernel : decode cL_test 240 = .ok (.iaload, 1)) rfl rfl g1 ⟨by decide, by decide⟩ h2 ?_
  exact X_cv (as := [J (M a0 9)]) (rest := []) (by decide +kernel : decode cL_test 241 = .ok (.invokevirtual 41, 3)) (Or.inl ⟨rfl, rfl, rfl⟩) rfl rfl rfl rfl rfl (Nat.le_of_ble_eq_true rfl) (Or.inr (Or.inr (by rw [g3]; rfl))) hd1 k
theorem kL_test_244 {o0 : Option Value} {o1 : Option Value} {u0 : Nat} {b1 : Nat} (e2 : E 136 = .ref b1) (hd1 : 1 ≤ d) (k : X E (d - 1) fJ4_append_15ec4 0 [some (.ref u0), some (.ref b1)] [] S (mI M) (Kr E d fL_test 249 [o0, o1] [] Q)) (g3 : aKd S u0 = 1) : X E d fL_test 244 [o0, o1] [.ref u0] S (mI M) Q := by
  refine X_ldcS 246 (by decide +kernel : decode cL_test 244 = .ok (.ldc 78, 2)) rfl rfl rfl rfl e2 ?_
  exact X_cv (as := [.ref b1]) (rest := []) (by decide +kernel : decode cL_test 246 = .ok (.invokevirtual 37, 3)) (Or.inl ⟨rfl, rfl, rfl⟩) rfl rfl rfl rfl rfl (Nat.le_of_ble_eq_true rfl) (Or.inr (Or.inr (by rw [g3]; rfl))) hd1 k
theorem kL_test_249 {o0 : Option Value} {x1 : Int} {u0 : Nat} (hd1 : 1 ≤ d) (k : X E (d - 1) fJ4_append_bf812 0 [some (.ref u0), some (J x1)] [] S (mI M) (Kr E d fL_test 253 [o0, some (J x1)] [] Q)) (g1 : aKd S u0 = 1) : X E d fL_test 249 [o0, some (J x1)] [.ref u0] S (mI M) Q := by
  refine X_iload_n 250 (by decide +kernel : decode cL_test 249 = .ok (.iload_n 1, 1)) rfl rfl rfl ?_
  exact X_cv (as := [J x1]) (rest := []) (by decide +kernel : decode cL_test 250 = .ok (.invokevirtual 41, 3)) (Or.inl ⟨rfl, rfl, rfl⟩) rfl rfl rfl rfl rfl (Nat.le_of_ble_eq_true rfl) (Or.inr (Or.inr (by rw [g1]; rfl))) hd1 k
theorem kL_test_253 {o0 : Option Value} {o1 : Option Value} {u0 : Nat} (hd1 : 1 ≤ d) (k : X E (d - 1) fJ4_toString_0e30d 0 [some (.ref u0)] [] S (mI M) (Kr E d fL_test 256 [o0, o1] [] Q)) (g1 : aKd S u0 = 1) : X E d fL_test 253 [o0, o1] [.ref u0] S (mI M) Q := by
  exact X_cv (as := []) (rest := []) (by decide +kernel : decode cL_test 253 = .ok (.invokevirtual 44, 3)) (Or.inl ⟨rfl, rfl, rfl⟩) rfl rfl rfl rfl rfl (Nat.le_of_ble_eq_true rfl) (Or.inr (Or.inr (by rw [g1]; rfl))) hd1 k
theorem kL_test_256 {o0 : Option Value} {o1 : Option Value} {u0 : Nat} (q : Q (some (some (.ref u0))) S (mI M)) : X E d fL_test 256 [o0, o1] [.ref u0] S (mI M) Q := by
  exact X_aret (by decide +kernel : decode cL_test 256 = .ok (.areturn, 1)) rfl rfl rfl q
theorem kL_test_257 {o0 : Option Value} {o1 : Option Value} (hd1 : 1 ≤ d) (k : X E (d - 1) fJ4_init_da8c8 0 [some (.ref (aX S))] [] (aNew S 1 4 4) (mI (aU M (aX S) (fun _ => 0))) (Kr E d fL_test 264 [o0, o1] [.ref (aX S)] Q)) : X E d fL_test 257 [o0, o1] [] S (mI M) Q := by
  refine X_new 260 (by decide +kernel : decode cL_test 257 = .ok (.new 32, 3)) rfl rfl (by decide +kernel : aNd 11 32 = some (1, 4)) ?_
  refine X_dup 261 (by decide +kernel : decode cL_test 260 = .ok (.dup, 1)) rfl rfl rfl ?_
  exact X_cv (as := []) (rest := [.ref (aX S)]) (by decide +kernel : decode cL_test 261 = .ok (.invokespecial 34, 3)) (Or.inr ⟨rfl, rfl, rfl⟩) rfl rfl rfl rfl rfl (Nat.le_of_ble_eq_true rfl) (Or.inl rfl) hd1 k
theorem kL_test_264 {o0 : Option Value} {o1 : Option Value} {u0 : Nat} {b1 : Nat} (e2 : E 143 = .ref b1) (hd1 : 1 ≤ d) (k : X E (d - 1) fJ4_append_15ec4 0 [some (.ref u0), some (.ref b1)] [] S (mI M) (Kr E d fL_test 269 [o0, o1] [] Q)) (g3 : aKd S u0 = 1) : X E d fL_test 264 [o0, o1] [.ref u0] S (mI M) Q := by
  refine X_ldcS 266 (by decide +kernel : decode cL_test 264 = .ok (.ldc 92, 2)) rfl rfl rfl rfl e2 ?_
  exact X_cv (as := [.ref b1]) (rest := []) (by decide +kernel : decode cL_test 266 = .ok (.invokevirtual 37, 3)) (Or.inl ⟨rfl, rfl, rfl⟩) rfl rfl rfl rfl rfl (Nat.le_of_ble_eq_true rfl) (Or.inr (Or.inr (by rw [g3]; rfl))) hd1 k
theorem kL_test_269 {a0 : Nat} {o1 : Option Value} {u0 : Nat} (g1 : aKd S a0 = 100) (h2 : (0 : Int) ≤ 8 ∧ 8 < (aN S a0 : Int)) (hd1 : 1 ≤ d) (k : X E (d - 1) fJ4_append_bf812 0 [some (.ref u0), some (J (M a0 8))] [] S (mI M) (Kr E d fL_test 276 [some (.ref a0), o1] [] Q)) (g3 : aKd S u0 = 1) : X E d fL_test 269 [some (.ref a0), o1] [.ref u0] S (mI M) Q := by
  refine X_aload_n 270 (by decide +kernel : decode cL_test 269 = .ok (.aload_n 0, 1)) rfl rfl rfl ?_
  refine X_bipush 272 (8) (by decide +kernel : decode cL_test 270 = .ok (.bipush 8, 2)) rfl rfl (by decide +kernel) ?_
  refine X_iald 273 (by decide +kernel : decode cL_test 272 = .ok (.iaload, 1)) rfl rfl g1 ⟨by decide, by decide⟩ h2 ?_
  exact X_cv (as := [J (M a0 8)]) (rest := []) (by decide +kernel : decode cL_test 273 = .ok (.invokevirtual 41, 3)) (Or.inl ⟨rfl, rfl, rfl⟩) rfl rfl rfl rfl rfl (Nat.le_of_ble_eq_true rfl) (Or.inr (Or.inr (by rw [g3]; rfl))) hd1 k
theorem kL_test_276 {o0 : Option Value} {o1 : Option Value} {u0 : Nat} {b1 : Nat} (e2 : E 144 = .ref b1) (hd1 : 1 ≤ d) (k : X E (d - 1) fJ4_append_15ec4 0 [some (.ref u0), some (.ref b1)] [] S (mI M) (Kr E d fL_test 281 [o0, o1] [] Q)) (g3 : aKd S u0 = 1) : X E d fL_test 276 [o0, o1] [.ref u0] S (mI M) Q := by
  refine X_ldcS 278 (by decide +kernel : decode cL_test 276 = .ok (.ldc 94, 2)) rfl rfl rfl rfl e2 ?_
  exact X_cv (as := [.ref b1]) (rest := []) (by decide +kernel : decode cL_test 278 = .ok (.invokevirtual 37, 3)) (Or.inl ⟨rfl, rfl, rfl⟩) rfl rfl rfl rfl rfl (Nat.le_of_ble_eq_true rfl) (Or.inr (Or.inr (by rw [g3]; rfl))) hd1 k
theorem kL_test_281 {o0 : Option Value} {o1 : Option Value} {u0 : Nat} (hd1 : 1 ≤ d) (k : X E (d - 1) fJ4_toString_0e30d 0 [some (.ref u0)] [] S (mI M) (Kr E d fL_test 284 [o0, o1] [] Q)) (g1 : aKd S u0 = 1) : X E d fL_test 281 [o0, o1] [.ref u0] S (mI M) Q := by
  exact X_cv (as := []) (rest := []) (by decide +kernel : decode cL_test 281 = .ok (.invokevirtual 44, 3)) (Or.inl ⟨rfl, rfl, rfl⟩) rfl rfl rfl rfl rfl (Nat.le_of_ble_eq_true rfl) (Or.inr (Or.inr (by rw [g1]; rfl))) hd1 k
theorem kL_test_284 {o0 : Option Value} {o1 : Option Value} {u0 : Nat} (q : Q (some (some (.ref u0))) S (mI M)) : X E d fL_test 284 [o0, o1] [.ref u0] S (mI M) Q := by
  exact X_aret (by decide +kernel : decode cL_test 284 = .ok (.areturn, 1)) rfl rfl rfl q
theorem kL_test_285 {o0 : Option Value} {o1 : Option Value} (hd1 : 1 ≤ d) (k : X E (d - 1) fJ4_init_da8c8 0 [some (.ref (aX S))] [] (aNew S 1 4 4) (mI (aU M (aX S) (fun _ => 0))) (Kr E d fL_test 292 [o0, o1] [.ref (aX S)] Q)) : X E d fL_test 285 [o0, o1] [] S (mI M) Q := by
  refine X_new 288 (by decide +kernel : decode cL_test 285 = .ok (.new 32, 3)) rfl rfl (by decide +kernel : aNd 11 32 = some (1, 4)) ?_
  refine X_dup 289 (by decide +kernel : decode cL_test 288 = .ok (.dup, 1)) rfl rfl rfl ?_
  exact X_cv (as := []) (rest := [.ref (aX S)]) (by decide +kernel : decode cL_test 289 = .ok (.invokespecial 34, 3)) (Or.inr ⟨rfl, rfl, rfl⟩) rfl rfl rfl rfl rfl (Nat.le_of_ble_eq_true rfl) (Or.inl rfl) hd1 k
theorem kL_test_292 {o0 : Option Value} {x1 : Int} {u0 : Nat} (hd1 : 1 ≤ d) (k : X E (d - 1) fJ4_append_bf812 0 [some (.ref u0), some (J x1)] [] S (mI M) (Kr E d fL_test 296 [o0, some (J x1)] [] Q)) (g1 : aKd S u0 = 1) : X E d fL_test 292 [o0, some (J x1)] [.ref u0] S (mI M) Q := by
  refine X_iload_n 293 (by decide +kernel : decode cL_test 292 = .ok (.iload_n 1, 1)) rfl rfl rfl ?_
  exact X_cv (as := [J x1]) (rest := []) (by decide +kernel : decode cL_test 293 = .ok (.invokevirtual 41, 3)) (Or.inl ⟨rfl, rfl, rfl⟩) rfl rfl rfl rfl rfl (Nat.le_of_ble_eq_true rfl) (Or.inr (Or.inr (by rw [g1]; rfl))) hd1 k
theorem kL_test_296 {o0 : Option Value} {o1 : Option Value} {u0 : Nat} {b1 : Nat} (e2 : E 145 = .ref b1) (hd1 : 1 ≤ d) (k : X E (d - 1) fJ4_append_15ec4 0 [some (.ref u0), some (.ref b1)] [] S (mI M) (Kr E d fL_test 301 [o0, o1] [] Q)) (g3 : aKd S u0 = 1) : X E d fL_test 296 [o0, o1] [.ref u0] S (mI M) Q := by
  refine X_ldcS 298 (by decide +kernel : decode cL_test 296 = .ok (.ldc 96, 2)) rfl rfl rfl rfl e2 ?_
  exact X_cv (as := [.ref b1]) (rest := []) (by decide +kernel : decode cL_test 298 = .ok (.invokevirtual 37, 3)) (Or.inl ⟨rfl, rfl, rfl⟩) rfl rfl rfl rfl rfl (Nat.le_of_ble_eq_true rfl) (Or.inr (Or.inr (by rw [g3]; rfl))) hd1 k
theorem kL_test_301 {o0 : Option Value} {x1 : Int} {u0 : Nat} (hd1 : 1 ≤ d) (k : X E (d - 1) fJ4_append_bf812 0 [some (.ref u0), some (J x1)] [] S (mI M) (Kr E d fL_test 305 [o0, some (J x1)] [] Q)) (g1 : aKd S u0 = 1) : X E d fL_test 301 [o0, some (J x1)] [.ref u0] S (mI M) Q := by
  refine X_iload_n 302 (by decide +kernel : decode cL_test 301 = .ok (.iload_n 1, 1)) rfl rfl rfl ?_
  exact X_cv (as := [J x1]) (rest := []) (by decide +kernel : decode cL_test 302 = .ok (.invokevirtual 41, 3)) (Or.inl ⟨rfl, rfl, rfl⟩) rfl rfl rfl rfl rfl (Nat.le_of_ble_eq_true rfl) (Or.inr (Or.inr (by rw [g1]; rfl))) hd1 k
theorem kL_test_305 {o0 : Option Value} {o1 : Option Value} {u0 : Nat} (hd1 : 1 ≤ d) (k : X E (d - 1) fJ4_toString_0e30d 0 [some (.ref u0)] [] S (mI M) (Kr E d fL_test 308 [o0, o1] [] Q)) (g1 : aKd S u0 = 1) : X E d fL_test 305 [o0, o1] [.ref u0] S (mI M) Q := by
  exact X_cv (as := []) (rest := []) (by decide +kernel : decode cL_test 305 = .ok (.invokevirtual 44, 3)) (Or.inl ⟨rfl, rfl, rfl⟩) rfl rfl rfl rfl rfl (Nat.le_of_ble_eq_true rfl) (Or.inr (Or.inr (by rw [g1]; rfl))) hd1 k
theorem kL_test_308 {o0 : Option Value} {o1 : Option Value} {u0 : Nat} (q : Q (some (some (.ref u0))) S (mI M)) : X E d fL_test 308 [o0, o1] [.ref u0] S (mI M) Q := by
  exact X_aret (by decide +kernel : decode cL_test 308 = .ok (.areturn, 1)) rfl rfl rfl q
theorem kL_sum_0 {a0 : Nat} {o1 : Option Value} (g1 : aKd S a0 = 100) (h2 : (0 : Int) ≤ 3 ∧ 3 < (aN S a0 : Int)) (h4 : (0 : Int) ≤ 2 ∧ 2 < (aN S a0 : Int)) (r5 : R32 ((M a0 2))) (kd : (M a0 2) ≠ 0 ∧ (M a0 2) ≠ 1 ∧ (M a0 2) ≠ 2 ∧ (M a0 2) ≠ 3 ∧ (M a0 2) ≠ 4 → X E d fL_sum 160 [some (.ref a0), some (J (M a0 3))] [] S (mI M) Q) (k0 : (M a0 2) = 0 → X E d fL_sum 40 [some (.ref a0), some (J (M a0 3))] [] S (mI M) Q) (k1 : (M a0 2) = 1 → X E d fL_sum 60 [some (.ref a0), some (J (M a0 3))] [] S (mI M) Q) (k2 : (M a0 2) = 2 → X E d fL_sum 63 [some (.ref a0), some (J (M a0 3))] [] S (mI M) Q) (k3 : (M a0 2) = 3 → X E d fL_sum 86 [some (.ref a0), some (J (M a0 3))] [] S (mI M) Q) (k4 : (M a0 2) = 4 → X E d fL_sum 123 [some (.ref a0), some (J (M a0 3))] [] S (mI M) Q) : X E d fL_sum 0 [some (.ref a0), o1] [] S (mI M) Q := by
  refine X_aload_n 1 (by decide +kernel : decode cL_sum 0 = .ok (.aload_n 0, 1)) rfl rfl rfl ?_
  refine X_iconst 2 (by decide +kernel : decode cL_sum 1 = .ok (.iconst 3, 1)) rfl rfl ?_
  refine X_iald 3 (by decide +kernel : decode cL_sum 2 = .ok (.iaload, 1)) rfl rfl g1 ⟨by decide, by decide⟩ h2 ?_
  refine X_istore_n 4 (by decide +kernel : decode cL_sum 3 = .ok (.istore_n 1, 1)) rfl rfl (Nat.le_of_ble_eq_true rfl) rfl ?_
  refine X_aload_n 5 (by decide +kernel : decode cL_sum 4 = .ok (.aload_n 0, 1)) rfl rfl rfl ?_
  refine X_iconst 6 (by decide +kernel : decode cL_sum 5 = .ok (.iconst 2, 1)) rfl rfl ?_
  refine X_iald 7 (by decide +kernel : decode cL_sum 6 = .ok (.iaload, 1)) rfl rfl g1 ⟨by decide, by decide⟩ h4 ?_
  by_cases hr : (M a0 2) < 0 ∨ 4 < (M a0 2)
  · exact X_tswD 160 (by decide +kernel : decode cL_sum 7 = .ok (.tableswitch 153 0 4 #[33, 53, 56, 79, 116], 33)) rfl (by decide) r5 hr (kd (by omega))
  · rcases (by omega : (M a0 2) = 0 ∨ (M a0 2) = 1 ∨ (M a0 2) = 2 ∨ (M a0 2) = 3 ∨ (M a0 2) = 4) with h | h | h | h | h
    · exact X_tswI 40 0 (by decide +kernel : decode cL_sum 7 = .ok (.tableswitch 153 0 4 #[33, 53, 56, 79, 116], 33)) rfl rfl (by decide) r5 (h.trans rfl) (by decide) (k0 h)
    · exact X_tswI 60 1 (by decide +kernel : decode cL_sum 7 = .ok (.tableswitch 153 0 4 #[33, 53, 56, 79, 116], 33)) rfl rfl (by decide) r5 (h.trans rfl) (by decide) (k1 h)
    · exact X_tswI 63 2 (by decide +kernel : decode cL_sum 7 = .ok (.tableswitch 153 0 4 #[33, 53, 56, 79, 116], 33)) rfl rfl (by decide) r5 (h.trans rfl) (by decide) (k2 h)
    · exact X_tswI 86 3 (by decide +kernel : decode cL_sum 7 = .ok (.tableswitch 153 0 4 #[33, 53, 56, 79, 116], 33)) rfl rfl (by decide) r5 (h.trans rfl) (by decide) (k3 h)
    · exact X_tswI 123 4 (by decide +kernel : decode cL_sum 7 = .ok (.tableswitch 153 0 4 #[33, 53, 56, 79, 116], 33)) rfl rfl (by decide) r5 (h.trans rfl) (by decide) (k4 h)
theorem kL_sum_40 {o0 : Option Value} {o1 : Option Value} (hd1 : 1 ≤ d) (k : X E (d - 1) fJ4_init_da8c8 0 [some (.ref (aX S))] [] (aNew S 1 4 4) (mI (aU M (aX S) (fun _ => 0))) (Kr E d fL_sum 47 [o0, o1] [.ref (aX S)] Q)) : X E d fL_sum 40 [o0, o1] [] S (mI M) Q := by
  refine X_new 43 (by decide +kernel : decode cL_sum 40 = .ok (.new 32, 3)) rfl rfl (by decide +kernel : aNd 11 32 = some (1, 4)) ?_
  refine X_dup 44 (by decide +kernel : decode cL_sum 43 = .ok (.dup, 1)) rfl rfl rfl ?_
  exact X_cv (as := []) (rest := [.ref (aX S)]) (by decide +kernel : decode cL_sum 44 = .ok (.invokespecial 34, 3)) (Or.inr ⟨rfl, rfl, rfl⟩) rfl rfl rfl rfl rfl (Nat.le_of_ble_eq_true rfl) (Or.inl rfl) hd1 k
theorem kL_sum_47 {o0 : Option Value} {o1 : Option Value} {u0 : Nat} {b1 : Nat} (e2 : E 150 = .ref b1) (hd1 : 1 ≤ d) (k : X E (d - 1) fJ4_append_15ec4 0 [some (.ref u0), some (.ref b1)] [] S (mI M) (Kr E d fL_sum 52 [o0, o1] [] Q)) (g3 : aKd S u0 = 1) : X E d fL_sum 47 [o0, o1] [.ref u0] S (mI M) Q := by
  refine X_ldcS 49 (by decide +kernel : decode cL_sum 47 = .ok (.ldc 35, 2)) rfl rfl rfl rfl e2 ?_
  exact X_cv (as := [.ref b1]) (rest := []) (by decide +kernel : decode cL_sum 49 = .ok (.invokevirtual 37, 3)) (Or.inl ⟨rfl, rfl, rfl⟩) rfl rfl rfl rfl rfl (Nat.le_of_ble_eq_true rfl) (Or.inr (Or.inr (by rw [g3]; rfl))) hd1 k
theorem kL_sum_52 {o0 : Option Value} {x1 : Int} {u0 : Nat} (hd1 : 1 ≤ d) (k : X E (d - 1) fJ4_append_bf812 0 [some (.ref u0), some (J x1)] [] S (mI M) (Kr E d fL_sum 56 [o0, some (J x1)] [] Q)) (g1 : aKd S u0 = 1) : X E d fL_sum 52 [o0, some (J x1)] [.ref u0] S (mI M) Q := by
  refine X_iload_n 53 (by decide +kernel : decode cL_sum 52 = .ok (.iload_n 1, 1)) rfl rfl rfl ?_
  exact X_cv (as := [J x1]) (rest := []) (by decide +kernel : decode cL_sum 53 = .ok (.invokevirtual 41, 3)) (Or.inl ⟨rfl, rfl, rfl⟩) rfl rfl rfl rfl rfl (Nat.le_of_ble_eq_true rfl) (Or.inr (Or.inr (by rw [g1]; rfl))) hd1 k
theorem kL_sum_56 {o0 : Option Value} {o1 : Option Value} {u0 : Nat} (hd1 : 1 ≤ d) (k : X E (d - 1) fJ4_toString_0e30d 0 [some (.ref u0)] [] S (mI M) (Kr E d fL_sum 59 [o0, o1] [] Q)) (g1 : aKd S u0 = 1) : X E d fL_sum 56 [o0, o1] [.ref u0] S (mI M) Q := by
  exact X_cv (as := []) (rest := []) (by decide +kernel : decode cL_sum 56 = .ok (.invokevirtual 44, 3)) (Or.inl ⟨rfl, rfl, rfl⟩) rfl rfl rfl rfl rfl (Nat.le_of_ble_eq_true rfl) (Or.inr (Or.inr (by rw [g1]; rfl))) hd1 k
theorem kL_sum_59 {o0 : Option Value} {o1 : Option Value} {u0 : Nat} (q : Q (some (some (.ref u0))) S (mI M)) : X E d fL_sum 59 [o0, o1] [.ref u0] S (mI M) Q := by
  exact X_aret (by decide +kernel : decode cL_sum 59 = .ok (.areturn, 1)) rfl rfl rfl q
theorem kL_sum_60 {o0 : Option Value} {o1 : Option Value} {b1 : Nat} (e2 : E 151 = .ref b1) (q : Q (some (some (.ref b1))) S (mI M)) : X E d fL_sum 60 [o0, o1] [] S (mI M) Q := by
  refine X_ldcS 62 (by decide +kernel : decode cL_sum 60 = .ok (.ldc 48, 2)) rfl rfl rfl rfl e2 ?_
  exact X_aret (by decide +kernel : decode cL_sum 62 = .ok (.areturn, 1)) rfl rfl rfl q
theorem kL_sum_63 {o0 : Option Value} {o1 : Option Value} (hd1 : 1 ≤ d) (k : X E (d - 1) fJ4_init_da8c8 0 [some (.ref (aX S))] [] (aNew S 1 4 4) (mI (aU M (aX S) (fun _ => 0))) (Kr E d fL_sum 70 [o0, o1] [.ref (aX S)] Q)) : X E d fL_sum 63 [o0, o1] [] S (mI M) Q := by
  refine X_new 66 (by decide +kernel : decode cL_sum 63 = .ok (.new 32, 3)) rfl rfl (by decide +kernel : aNd 11 32 = some (1, 4)) ?_
  refine X_dup 67 (by decide +kernel : decode cL_sum 66 = .ok (.dup, 1)) rfl rfl rfl ?_
  exact X_cv (as := []) (rest := [.ref (aX S)]) (by decide +kernel : decode cL_sum 67 = .ok (.invokespecial 34, 3)) (Or.inr ⟨rfl, rfl, rfl⟩) rfl rfl rfl rfl rfl (Nat.le_of_ble_eq_true rfl) (Or.inl rfl) hd1 k
theorem kL_sum_70 {o0 : Option Value} {o1 : Option Value} {u0 : Nat} {b1 : Nat} (e2 : E 152 = .ref b1) (hd1 : 1 ≤ d) (k : X E (d - 1) fJ4_append_15ec4 0 [some (.ref u0), some (.ref b1)] [] S (mI M) (Kr E d fL_sum 75 [o0, o1] [] Q)) (g3 : aKd S u0 = 1) : X E d fL_sum 70 [o0, o1] [.ref u0] S (mI M) Q := by
  refine X_ldcS 72 (by decide +kernel : decode cL_sum 70 = .ok (.ldc 50, 2)) rfl rfl rfl rfl e2 ?_
  exact X_cv (as := [.ref b1]) (rest := []) (by decide +kernel : decode cL_sum 72 = .ok (.invokevirtual 37, 3)) (Or.inl ⟨rfl, rfl, rfl⟩) rfl rfl rfl rfl rfl (Nat.le_of_ble_eq_true rfl) (Or.inr (Or.inr (by rw [g3]; rfl))) hd1 k
theorem kL_sum_75 {a0 : Nat} {o1 : Option Value} {u0 : Nat} (g1 : aKd S a0 = 100) (h2 : (0 : Int) ≤ 7 ∧ 7 < (aN S a0 : Int)) (hd1 : 1 ≤ d) (k : X E (d - 1) fJ4_append_bf812 0 [some (.ref u0), some (J (M a0 7))] [] S (mI M) (Kr E d fL_sum 82 [some (.ref a0), o1] [] Q)) (g3 : aKd S u0 = 1) : X E d fL_sum 75 [some (.ref a0), o1] [.ref u0] S (mI M) Q := by
  refine X_aload_n 76 (by decide +kernel : decode cL_sum 75 = .ok (.aload_n 0, 1)) rfl rfl rfl ?_
  refine X_bipush 78 (7) (by decide +kernel : decode cL_sum 76 = .ok (.bipush 7, 2)) rfl rfl (by decide +kernel) ?_
  refine X_iald 79 (by decide +kernel : decode cL_sum 78 = .ok (.iaload, 1)) rfl rfl g1 ⟨by decide, by decide⟩ h2 ?_
  exact X_cv (as := [J (M a0 7)]) (rest := []) (by decide +kernel : decode cL_sum 79 = .ok (.invokevirtual 41, 3)) (Or.inl ⟨rfl, rfl, rfl⟩) rfl rfl rfl rfl rfl (Nat.le_of_ble_eq_true rfl) (Or.inr (Or.inr (by rw [g3]; rfl))) hd1 k
theorem kL_sum_82 {o0 : Option Value} {o1 : Option Value} {u0 : Nat} (hd1 : 1 ≤ d) (k : X E (d - 1) fJ4_toString_0e30d 0 [some (.ref u0)] [] S (mI M) (Kr E d fL_sum 85 [o0, o1] [] Q)) (g1 : aKd S u0 = 1) : X E d fL_sum 82 [o0, o1] [.ref u0] S (mI M) Q := by
  exact X_cv (as := []) (rest := []) (by decide +kernel : decode cL_sum 82 = .ok (.invokevirtual 44, 3)) (Or.inl ⟨rfl, rfl, rfl⟩) rfl rfl rfl rfl rfl (Nat.le_of_ble_eq_true rfl) (Or.inr (Or.inr (by rw [g1]; rfl))) hd1 k
theorem kL_sum_85 {o0 : Option Value} {o1 : Option Value} {u0 : Nat} (q : Q (some (some (.ref u0))) S (mI M)) : X E d fL_sum 85 [o0, o1] [.ref u0] S (mI M) Q := by
  exact X_aret (by decide +kernel : decode cL_sum 85 = .ok (.areturn, 1)) rfl rfl rfl q
theorem kL_sum_86 {o0 : Option Value} {o1 : Option Value} (hd1 : 1 ≤ d) (k : X E (d - 1) fJ4_init_da8c8 0 [some (.ref (aX S))] [] (aNew S 1 4 4) (mI (aU M (aX S) (fun _ => 0))) (Kr E d fL_sum 93 [o0, o1] [.ref (aX S)] Q)) : X E d fL_sum 86 [o0, o1] [] S (mI M) Q := by
  refine X_new 89 (by decide +kernel : decode cL_sum 86 = .ok (.new 32, 3)) rfl rfl (by decide +kernel : aNd 11 32 = some (1, 4)) ?_
  refine X_dup 90 (by decide +kernel : decode cL_sum 89 = .ok (.dup, 1)) rfl rfl rfl ?_
  exact X_cv (as := []) (rest := [.ref (aX S)]) (by decide +kernel : decode cL_sum 90 = .ok (.invokespecial 34, 3)) (Or.inr ⟨rfl, rfl, rfl⟩) rfl rfl rfl rfl rfl (Nat.le_of_ble_eq_true rfl) (Or.inl rfl) hd1 k
theorem kL_sum_93 {o0 : Option Value} {o1 : Option Value} {u0 : Nat} {b1 : Nat} (e2 : E 153 = .ref b1) (hd1 : 1 ≤ d) (k : X E (d - 1) fJ4_append_15ec4 0 [some (.ref u0), some (.ref b1)] [] S (mI M) (Kr E d fL_sum 98 [o0, o1] [] Q)) (g3 : aKd S u0 = 1) : X E d fL_sum 93 [o0, o1] [.ref u0] S (mI M) Q := by
  refine X_ldcS 95 (by decide +kernel : decode cL_sum 93 = .ok (.ldc 52, 2)) rfl rfl rfl rfl e2 ?_
  exact X_cv (as := [.ref b1]) (rest := []) (by decide +kernel : decode cL_sum 95 = .ok (.invokevirtual 37, 3)) (Or.inl ⟨rfl, rfl, rfl⟩) rfl rfl rfl rfl rfl (Nat.le_of_ble_eq_true rfl) (Or.inr (Or.inr (by rw [g3]; rfl))) hd1 k
theorem kL_sum_98 {a0 : Nat} {o1 : Option Value} {u0 : Nat} (g1 : aKd S a0 = 100) (h2 : (0 : Int) ≤ 6 ∧ 6 < (aN S a0 : Int)) (hd1 : 1 ≤ d) (k : X E (d - 1) fJ4_append_bf812 0 [some (.ref u0), some (J (M a0 6))] [] S (mI M) (Kr E d fL_sum 105 [some (.ref a0), o1] [] Q)) (g3 : aKd S u0 = 1) : X E d fL_sum 98 [some (.ref a0), o1] [.ref u0] S (mI M) Q := by
  refine X_aload_n 99 (by decide +kernel : decode cL_sum 98 = .ok (.aload_n 0, 1)) rfl rfl rfl ?_
  refine X_bipush 101 (6) (by decide +kernel : decode cL_sum 99 = .ok (.bipush 6, 2)) rfl rfl (by decide +kernel) ?_
  refine X_iald 102 (by decide +kernel : decode cL_sum 101 = .ok (.iaload, 1)) rfl rfl g1 ⟨by decide, by decide⟩ h2 ?_
  exact X_cv (as := [J (M a0 6)]) (rest := []) (by decide +kernel : decode cL_sum 102 = .ok (.invokevirtual 41, 3)) (Or.inl ⟨rfl, rfl, rfl⟩) rfl rfl rfl rfl rfl (Nat.le_of_ble_eq_true rfl) (Or.inr (Or.inr (by rw [g3]; rfl))) hd1 k
theorem kL_sum_105 {o0 : Option Value} {o1 : Option Value} {u0 : Nat} {b1 : Nat} (e2 : E 154 = .ref b1) (hd1 : 1 ≤ d) (k : X E (d - 1) fJ4_append_15ec4 0 [some (.ref u0), some (.ref b1)] [] S (mI M) (Kr E d fL_sum 110 [o0, o1] [] Q)) (g3 : aKd S u0 = 1) : X E d fL_sum 105 [o0, o1] [.ref u0] S (mI M) Q := by
  refine X_ldcS 107 (by decide +kernel : decode cL_sum 105 = .ok (.ldc 54, 2)) rfl rfl rfl rfl e2 ?_
  exact X_cv (as := [.ref b1]) (rest := []) (by decide +kernel : decode cL_sum 107 = .ok (.invokevirtual 37, 3)) (Or.inl ⟨rfl, rfl, rfl⟩) rfl rfl rfl rfl rfl (Nat.le_of_ble_eq_true rfl) (Or.inr (Or.inr (by rw [g3]; rfl))) hd1 k
theorem kL_sum_110 {o0 : Option Value} {x1 : Int} {u0 : Nat} (hd1 : 1 ≤ d) (k : X E (d - 1) fJ4_append_bf812 0 [some (.ref u0), some (J x1)] [] S (mI M) (Kr E d fL_sum 114 [o0, some (J x1)] [] Q)) (g1 : aKd S u0 = 1) : X E d fL_sum 110 [o0, some (J x1)] [.ref u0] S (mI M) Q := by
  refine X_iload_n 111 (by decide +kernel : decode cL_sum 110 = .ok (.iload_n 1, 1)) rfl rfl rfl ?_
  exact X_cv (as := [J x1]) (rest := []) (by decide +kernel : decode cL_sum 111 = .ok (.invokevirtual 41, 3)) (Or.inl ⟨rfl, rfl, rfl⟩) rfl rfl rfl rfl rfl (Nat.le_of_ble_eq_true rfl) (Or.inr (Or.inr (by rw [g1]; rfl))) hd1 k
theorem kL_sum_114 {o0 : Option Value} {o1 : Option Value} {u0 : Nat} {b1 : Nat} (e2 : E 155 = .ref b1) (hd1 : 1 ≤ d) (k : X E (d - 1) fJ4_append_15ec4 0 [some (.ref u0), some (.ref b1)] [] S (mI M) (Kr E d fL_sum 119 [o0, o1] [] Q)) (g3 : aKd S u0 = 1) : X E d fL_sum 114 [o0, o1] [.ref u0] S (mI M) Q := by
  refine X_ldcS 116 (by decide +kernel : decode cL_sum 114 = .ok (.ldc 56, 2)) rfl rfl rfl rfl e2 ?_
  exact X_cv (as := [.ref b1]) (rest := []) (by decide +kernel : decode cL_sum 116 = .ok (.invokevirtual 37, 3)) (Or.inl ⟨rfl, rfl, rfl⟩) rfl rfl rfl rfl rfl (Nat.le_of_ble_eq_true rfl) (Or.inr (Or.inr (by rw [g3]; rfl))) hd1 k
theorem kL_sum_119 {o0 : Option Value} {o1 : Option Value} {u0 : Nat} (hd1 : 1 ≤ d) (k : X E (d - 1) fJ4_toString_0e30d 0 [some (.ref u0)] [] S (mI M) (Kr E d fL_sum 122 [o0, o1] [] Q)) (g1 : aKd S u0 = 1) : X E d fL_sum 119 [o0, o1] [.ref u0] S (mI M) Q := by
  exact X_cv (as := []) (rest := []) (by decide +kernel : decode cL_sum 119 = .ok (.invokevirtual 44, 3)) (Or.inl ⟨rfl, rfl, rfl⟩) rfl rfl rfl rfl rfl (Nat.le_of_ble_eq_true rfl) (Or.inr (Or.inr (by rw [g1]; rfl))) hd1 k
theorem kL_sum_122 {o0 : Option Value} {o1 : Option Value} {u0 : Nat} (q : Q (some (some (.ref u0))) S (mI M)) : X E d fL_sum 122 [o0, o1] [.ref u0] S (mI M) Q := by
  exact X_aret (by decide +kernel : decode cL_sum 122 = .ok (.areturn, 1)) rfl rfl rfl q
theorem kL_sum_123 {o0 : Option Value} {o1 : Option Value} (hd1 : 1 ≤ d) (k : X E (d - 1) fJ4_init_da8c8 0 [some (.ref (aX S))] [] (aNew S 1 4 4) (mI (aU M (aX S) (fun _ => 0))) (Kr E d fL_sum 130 [o0, o1] [.ref (aX S)] Q)) : X E d fL_sum 123 [o0, o1] [] S (mI M) Q := by
  refine X_new 126 (by decide +kernel : decode cL_sum 123 = .ok (.new 32, 3)) rfl rfl (by decide +kernel : aNd 11 32 = some (1, 4)) ?_
  refine X_dup 127 (by decide +kernel : decode cL_sum 126 = .ok (.dup, 1)) rfl rfl rfl ?_
  exact X_cv (as := []) (rest := [.ref (aX S)]) (by decide +kernel : decode cL_sum 127 = .ok (.invokespecial 34, 3)) (Or.inr ⟨rfl, rfl, rfl⟩) rfl rfl rfl rfl rfl (Nat.le_of_ble_eq_true rfl) (Or.inl rfl) hd1 k
theorem kL_sum_130 {o0 : Option Value} {o1 : Option Value} {u0 : Nat} {b1 : Nat} (e2 : E 156 = .ref b1) (hd1 : 1 ≤ d) (k : X E (d - 1) fJ4_append_15ec4 0 [some (.ref u0), some (.ref b1)] [] S (mI M) (Kr E d fL_sum 135 [o0, o1] [] Q)) (g3 : aKd S u0 = 1) : X E d fL_sum 130 [o0, o1] [.ref u0] S (mI M) Q := by
  refine X_ldcS 132 (by decide +kernel : decode cL_sum 130 = .ok (.ldc 58, 2)) rfl rfl rfl rfl e2 ?_
  exact X_cv (as := [.ref b1]) (rest := []) (by decide +kernel : decode cL_sum 132 = .ok (.invokevirtual 37, 3)) (Or.inl ⟨rfl, rfl, rfl⟩) rfl rfl rfl rfl rfl (Nat.le_of_ble_eq_true rfl) (Or.inr (Or.inr (by rw [g3]; rfl))) hd1 k
theorem kL_sum_135 {a0 : Nat} {o1 : Option Value} {u0 : Nat} (g1 : aKd S a0 = 100) (h2 : (0 : Int) ≤ 8 ∧ 8 < (aN S a0 : Int)) (hd1 : 1 ≤ d) (k : X E (d - 1) fJ4_append_bf812 0 [some (.ref u0), some (J (M a0 8))] [] S (mI M) (Kr E d fL_sum 142 [some (.ref a0), o1] [] Q)) (g3 : aKd S u0 = 1) : X E d fL_sum 135 [some (.ref a0), o1] [.ref u0] S (mI M) Q := by
  refine X_aload_n 136 (by decide +kernel : decode cL_sum 135 = .ok (.aload_n 0, 1)) rfl rfl rfl ?_
  refine X_bipush 138 (8) (by decide +kernel : decode cL_sum 136 = .ok (.bipush 8, 2)) rfl rfl (by decide +kernel) ?_
  refine X_iald 139 (by decide +kernel : decode cL_sum 138 = .ok (.iaload, 1)) rfl rfl g1 ⟨by decide, by decide⟩ h2 ?_
  exact X_cv (as := [J (M a0 8)]) (rest := []) (by decide +kernel : decode cL_sum 139 = .ok (.invokevirtual 41, 3)) (Or.inl ⟨rfl, rfl, rfl⟩) rfl rfl rfl rfl rfl (Nat.le_of_ble_eq_true rfl) (Or.inr (Or.inr (by rw [g3]; rfl))) hd1 k
theorem kL_sum_142 {o0 : Option Value} {o1 : Option Value} {u0 : Nat} {b1 : Nat} (e2 : E 157 = .ref b1) (hd1 : 1 ≤ d) (k : X E (d - 1) fJ4_append_15ec4 0 [some (.ref u0), some (.ref b1)] [] S (mI M) (Kr E d fL_sum 147 [o0, o1] [] Q)) (g3 : aKd S u0 = 1) : X E d fL_sum 142 [o0, o1] [.ref u0] S (mI M) Q := by
  refine X_ldcS 144 (by decide +kernel : decode cL_sum 142 = .ok (.ldc 60, 2)) rfl rfl rfl rfl e2 ?_
  exact X_cv (as := [.ref b1]) (rest := []) (by decide +kernel : decode cL_sum 144 = .ok (.invokevirtual 37, 3)) (Or.inl ⟨rfl, rfl, rfl⟩) rfl rfl rfl rfl rfl (Nat.le_of_ble_eq_true rfl) (Or.inr (Or.inr (by rw [g3]; rfl))) hd1 k
theorem kL_sum_147 {o0 : Option Value} {x1 : Int} {u0 : Nat} (hd1 : 1 ≤ d) (k : X E (d - 1) fJ4_append_bf812 0 [some (.ref u0), some (J x1)] [] S (mI M) (Kr E d fL_sum 151 [o0, some (J x1)] [] Q)) (g1 : aKd S u0 = 1) : X E d fL_sum 147 [o0, some (J x1)] [.ref u0] S (mI M) Q := by
  refine X_iload_n 148 (by decide +kernel : decode cL_sum 147 = .ok (.iload_n 1, 1)) rfl rfl rfl ?_
  exact X_cv (as := [J x1]) (rest := []) (by decide +kernel : decode cL_sum 148 = .ok (.invokevirtual 41, 3)) (Or.inl ⟨rfl, rfl, rfl⟩) rfl rfl rfl rfl rfl (Nat.le_of_ble_eq_true rfl) (Or.inr (Or.inr (by rw [g1]; rfl))) hd1 k
theorem kL_sum_151 {o0 : Option Value} {o1 : Option Value} {u0 : Nat} {b1 : Nat} (e2 : E 158 = .ref b1) (hd1 : 1 ≤ d) (k : X E (d - 1) fJ4_append_15ec4 0 [some (.ref u0), some (.ref b1)] [] S (mI M) (Kr E d fL_sum 156 [o0, o1] [] Q)) (g3 : aKd S u0 = 1) : X E d fL_sum 151 [o0, o1] [.ref u0] S (mI M) Q := by
  refine X_ldcS 153 (by decide +kernel : decode cL_sum 151 = .ok (.ldc 62, 2)) rfl rfl rfl rfl e2 ?_
  exact X_cv (as := [.ref b1]) (rest := []) (by decide +kernel : decode cL_sum 153 = .ok (.invokevirtual 37, 3)) (Or.inl ⟨rfl, rfl, rfl⟩) rfl rfl rfl rfl rfl (Nat.le_of_ble_eq_true rfl) (Or.inr (Or.inr (by rw [g3]; rfl))) hd1 k
theorem kL_sum_156 {o0 : Option Value} {o1 : Option Value} {u0 : Nat} (hd1 : 1 ≤ d) (k : X E (d - 1) fJ4_toString_0e30d 0 [some (.ref u0)] [] S (mI M) (Kr E d fL_sum 159 [o0, o1] [] Q)) (g1 : aKd S u0 = 1) : X E d fL_sum 156 [o0, o1] [.ref u0] S (mI M) Q := by
  exact X_cv (as := []) (rest := []) (by decide +kernel : decode cL_sum 156 = .ok (.invokevirtual 44, 3)) (Or.inl ⟨rfl, rfl, rfl⟩) rfl rfl rfl rfl rfl (Nat.le_of_ble_eq_true rfl) (Or.inr (Or.inr (by rw [g1]; rfl))) hd1 k
theorem kL_sum_159 {o0 : Option Value} {o1 : Option Value} {u0 : Nat} (q : Q (some (some (.ref u0))) S (mI M)) : X E d fL_sum 159 [o0, o1] [.ref u0] S (mI M) Q := by
  exact X_aret (by decide +kernel : decode cL_sum 159 = .ok (.areturn, 1)) rfl rfl rfl q
theorem kL_sum_160 {o0 : Option Value} {o1 : Option Value} (hd1 : 1 ≤ d) (k : X E (d - 1) fJ4_init_da8c8 0 [some (.ref (aX S))] [] (aNew S 1 4 4) (mI (aU M (aX S) (fun _ => 0))) (Kr E d fL_sum 167 [o0, o1] [.ref (aX S)] Q)) : X E d fL_sum 160 [o0, o1] [] S (mI M) Q := by
  refine X_new 163 (by decide +kernel : decode cL_sum 160 = .ok (.new 32, 3)) rfl rfl (by decide +kernel : aNd 11 32 = some (1, 4)) ?_
  refine X_dup 164 (by decide +kernel : decode cL_sum 163 = .ok (.dup, 1)) rfl rfl rfl ?_
  exact X_cv (as := []) (rest := [.ref (aX S)]) (by decide +kernel : decode cL_sum 164 = .ok (.invokespecial 34, 3)) (Or.inr ⟨rfl, rfl, rfl⟩) rfl rfl rfl rfl rfl (Nat.le_of_ble_eq_true rfl) (Or.inl rfl) hd1 k
theorem kL_sum_167 {o0 : Option Value} {o1 : Option Value} {u0 : Nat} {b1 : Nat} (e2 : E 159 = .ref b1) (hd1 : 1 ≤ d) (k : X E (d - 1) fJ4_append_15ec4 0 [some (.ref u0), some (.ref b1)] [] S (mI M) (Kr E d fL_sum 172 [o0, o1] [] Q)) (g3 : aKd S u0 = 1) : X E d fL_sum 167 [o0, o1] [.ref u0] S (mI M) Q := by
  refine X_ldcS 169 (by decide +kernel : decode cL_sum 167 = .ok (.ldc 64, 2)) rfl rfl rfl rfl e2 ?_
  exact X_cv (as := [.ref b1]) (rest := []) (by decide +kernel : decode cL_sum 169 = .ok (.invokevirtual 37, 3)) (Or.inl ⟨rfl, rfl, rfl⟩) rfl rfl rfl rfl rfl (Nat.le_of_ble_eq_true rfl) (Or.inr (Or.inr (by rw [g3]; rfl))) hd1 k
theorem kL_sum_172 {o0 : Option Value} {x1 : Int} {u0 : Nat} (hd1 : 1 ≤ d) (k : X E (d - 1) fJ4_append_bf812 0 [some (.ref u0), some (J x1)] [] S (mI M) (Kr E d fL_sum 176 [o0, some (J x1)] [] Q)) (g1 : aKd S u0 = 1) : X E d fL_sum 172 [o0, some (J x1)] [.ref u0] S (mI M) Q := by
  refine X_iload_n 173 (by decide +kernel : decode cL_sum 172 = .ok (.iload_n 1, 1)) rfl rfl rfl ?_
  exact X_cv (as := [J x1]) (rest := []) (by decide +kernel : decode cL_sum 173 = .ok (.invokevirtual 41, 3)) (Or.inl ⟨rfl, rfl, rfl⟩) rfl rfl rfl rfl rfl (Nat.le_of_ble_eq_true rfl) (Or.inr (Or.inr (by rw [g1]; rfl))) hd1 k
theorem kL_sum_176 {o0 : Option Value} {o1 : Option Value} {u0 : Nat} (hd1 : 1 ≤ d) (k : X E (d - 1) fJ4_toString_0e30d 0 [some (.ref u0)] [] S (mI M) (Kr E d fL_sum 179 [o0, o1] [] Q)) (g1 : aKd S u0 = 1) : X E d fL_sum 176 [o0, o1] [.ref u0] S (mI M) Q := by
  exact X_cv (as := []) (rest := []) (by decide +kernel : decode cL_sum 176 = .ok (.invokevirtual 44, 3)) (Or.inl ⟨rfl, rfl, rfl⟩) rfl rfl rfl rfl rfl (Nat.le_of_ble_eq_true rfl) (Or.inr (Or.inr (by rw [g1]; rfl))) hd1 k
theorem kL_sum_179 {o0 : Option Value} {o1 : Option Value} {u0 : Nat} (q : Q (some (some (.ref u0))) S (mI M)) : X E d fL_sum 179 [o0, o1] [.ref u0] S (mI M) Q := by
  exact X_aret (by decide +kernel : decode cL_sum 179 = .ok (.areturn, 1)) rfl rfl rfl q
theorem kL_passed_0 {o0 : Option Value} {a1 : Nat} {o2 : Option Value} {o3 : Option Value} (hd1 : 1 ≤ d) (k : X E (d - 1) fX8_passed 0 [some (.ref a1), none, none, none, none, none] [] S (mI M) (Kr E d fL_passed 4 [o0, some (.ref a1), o2, o3] [] Q)) (g1 : aKd S a1 = 10) : X E d fL_passed 0 [o0, some (.ref a1), o2, o3] [] S (mI M) Q := by
  refine X_aload_n 1 (by decide +kernel : decode cL_passed 0 = .ok (.aload_n 1, 1)) rfl rfl rfl ?_
  exact X_cv (as := []) (rest := []) (by decide +kernel : decode cL_passed 1 = .ok (.invokevirtual 178, 3)) (Or.inl ⟨rfl, rfl, rfl⟩) rfl rfl rfl rfl rfl (Nat.le_of_ble_eq_true rfl) (Or.inr (Or.inr (by rw [g1]; rfl))) hd1 k
theorem kL_passed_4 {o0 : Option Value} {a1 : Nat} {x2 : Int} {o3 : Option Value} {t0 : Int} (hd1 : 1 ≤ d) (k : X E (d - 1) fX8_on 0 [some (.ref a1), some (J x2), none] [] S (mI M) (Kr E d fL_passed 10 [o0, some (.ref a1), some (J x2), some (J t0)] [] Q)) (g1 : aKd S a1 = 10) : X E d fL_passed 4 [o0, some (.ref a1), some (J x2), o3] [J t0] S (mI M) Q := by
  refine X_istore_n 5 (by decide +kernel : decode cL_passed 4 = .ok (.istore_n 3, 1)) rfl rfl (Nat.le_of_ble_eq_true rfl) rfl ?_
  refine X_aload_n 6 (by decide +kernel : decode cL_passed 5 = .ok (.aload_n 1, 1)) rfl rfl rfl ?_
  refine X_iload_n 7 (by decide +kernel : decode cL_passed 6 = .ok (.iload_n 2, 1)) rfl rfl rfl ?_
  exact X_cv (as := [J x2]) (rest := []) (by decide +kernel : decode cL_passed 7 = .ok (.invokevirtual 181, 3)) (Or.inl ⟨rfl, rfl, rfl⟩) rfl rfl rfl rfl rfl (Nat.le_of_ble_eq_true rfl) (Or.inr (Or.inr (by rw [g1]; rfl))) hd1 k
theorem kL_passed_10 {a0 : Nat} {o1 : Option Value} {x2 : Int} {o3 : Option Value} {u0 : Nat} (hd1 : 1 ≤ d) (k : X E (d - 1) fX7_pass 0 [some (.ref a0), some (J x2)] [] S (mI M) (Kr E d fL_passed 16 [some (.ref a0), o1, some (J x2), o3] [] Q)) (g1 : aKd S a0 = 9) : X E d fL_passed 10 [some (.ref a0), o1, some (J x2), o3] [.ref u0] S (mI M) Q := by
  refine X_pop 11 (by decide +kernel : decode cL_passed 10 = .ok (.pop, 1)) rfl rfl rfl ?_
  refine X_aload_n 12 (by decide +kernel : decode cL_passed 11 = .ok (.aload_n 0, 1)) rfl rfl rfl ?_
  refine X_iload_n 13 (by decide +kernel : decode cL_passed 12 = .ok (.iload_n 2, 1)) rfl rfl rfl ?_
  exact X_cv (as := [J x2]) (rest := []) (by decide +kernel : decode cL_passed 13 = .ok (.invokevirtual 185, 3)) (Or.inl ⟨rfl, rfl, rfl⟩) rfl rfl rfl rfl rfl (Nat.le_of_ble_eq_true rfl) (Or.inr (Or.inr (by rw [g1]; rfl))) hd1 k
theorem kL_passed_16 {o0 : Option Value} {a1 : Nat} {o2 : Option Value} {o3 : Option Value} {t0 : Int} (hd1 : 1 ≤ d) (k : X E (d - 1) fX8_passed 0 [some (.ref a1), none, none, none, none, none] [] S (mI M) (Kr E d fL_passed 20 [o0, some (.ref a1), o2, o3] [J t0] Q)) (g1 : aKd S a1 = 10) : X E d fL_passed 16 [o0, some (.ref a1), o2, o3] [J t0] S (mI M) Q := by
  refine X_aload_n 17 (by decide +kernel : decode cL_passed 16 = .ok (.aload_n 1, 1)) rfl rfl rfl ?_
  exact X_cv (as := []) (rest := [J t0]) (by decide +kernel : decode cL_passed 17 = .ok (.invokevirtual 178, 3)) (Or.inl ⟨rfl, rfl, rfl⟩) rfl rfl rfl rfl rfl (Nat.le_of_ble_eq_true rfl) (Or.inr (Or.inr (by rw [g1]; rfl))) hd1 k
theorem kL_passed_20 {o0 : Option Value} {o1 : Option Value} {o2 : Option Value} {x3 : Int} {t0 : Int} {t1 : Int} (r1 : R32 t1) (r2 : R32 (t0 - x3)) (k1 : t1 ≠ (t0 - x3) → X E d fL_passed 29 [o0, o1, o2, some (J x3)] [] S (mI M) Q) (k2 : t1 = (t0 - x3) → X E d fL_passed 25 [o0, o1, o2, some (J x3)] [] S (mI M) Q) : X E d fL_passed 20 [o0, o1, o2, some (J x3)] [J t0, J t1] S (mI M) Q := by
  refine X_iload_n 21 (by decide +kernel : decode cL_passed 20 = .ok (.iload_n 3, 1)) rfl rfl rfl ?_
  refine X_isub 22 (by decide +kernel : decode cL_passed 21 = .ok (.isub, 1)) rfl rfl ?_
  exact X_icmpne 29 25 (by decide +kernel : decode cL_passed 22 = .ok (.if_icmp .ne 7, 3)) rfl rfl (by decide) r1 r2 k1 k2
theorem kL_passed_25 {o0 : Option Value} {o1 : Option Value} {o2 : Option Value} {o3 : Option Value} (k : X E d fL_passed 30 [o0, o1, o2, o3] [J 1] S (mI M) Q) : X E d fL_passed 25 [o0, o1, o2, o3] [] S (mI M) Q := by
  refine X_iconst 26 (by decide +kernel : decode cL_passed 25 = .ok (.iconst 1, 1)) rfl rfl ?_
  exact X_goto 30 (by decide +kernel : decode cL_passed 26 = .ok (.goto 4, 3)) rfl (by decide) k
theorem kL_passed_29 {o0 : Option Value} {o1 : Option Value} {o2 : Option Value} {o3 : Option Value} (k : X E d fL_passed 30 [o0, o1, o2, o3] [J 0] S (mI M) Q) : X E d fL_passed 29 [o0, o1, o2, o3] [] S (mI M) Q := by
  refine X_iconst 30 (by decide +kernel : decode cL_passed 29 = .ok (.iconst 0, 1)) rfl rfl ?_
  exact k
theorem kL_passed_30 {o0 : Option Value} {o1 : Option Value} {o2 : Option Value} {o3 : Option Value} {t0 : Int} (h1 : narrow .boolean (J t0) = J t0) (q : Q (some (some (J t0))) S (mI M)) : X E d fL_passed 30 [o0, o1, o2, o3] [J t0] S (mI M) Q := by
  exact X_iret (by decide +kernel : decode cL_passed 30 = .ok (.ireturn, 1)) rfl rfl h1 q
theorem kL_act_0 {o0 : Option Value} {o1 : Option Value} {x2 : Int} {o3 : Option Value} {o4 : Option Value} {o5 : Option Value} {o6 : Option Value} {o7 : Option Value} (hd1 : 1 ≤ d) (k : X E (d - 1) fL_below 0 [some (J x2), some (J 9)] [] S (mI M) (Kr E d fL_act 6 [o0, o1, some (J x2), o3, o4, o5, o6, o7] [] Q)) : X E d fL_act 0 [o0, o1, some (J x2), o3, o4, o5, o6, o7] [] S (mI M) Q := by
  refine X_iload_n 1 (by decide +kernel : decode cL_act 0 = .ok (.iload_n 2, 1)) rfl rfl rfl ?_
  refine X_bipush 3 (9) (by decide +kernel : decode cL_act 1 = .ok (.bipush 9, 2)) rfl rfl (by decide +kernel) ?_
  exact X_cs (as := [J 9, J x2]) (rest := []) (by decide +kernel : decode cL_act 3 = .ok (.invokestatic 107, 3)) rfl rfl rfl rfl rfl rfl rfl (Nat.le_of_ble_eq_true rfl) hd1 k
theorem kL_act_6 {o0 : Option Value} {o1 : Option Value} {o2 : Option Value} {o3 : Option Value} {o4 : Option Value} {o5 : Option Value} {o6 : Option Value} {o7 : Option Value} {t0 : Int} (r1 : R32 t0) (kd : t0 ≠ 0 ∧ t0 ≠ 1 ∧ t0 ≠ 2 ∧ t0 ≠ 3 ∧ t0 ≠ 4 → X E d fL_act 343 [o0, o1, o2, o3, o4, o5, o6, o7] [] S (mI M) Q) (k0 : t0 = 0 → X E d fL_act 40 [o0, o1, o2, o3, o4, o5, o6, o7] [] S (mI M) Q) (k1 : t0 = 1 → X E d fL_act 102 [o0, o1, o2, o3, o4, o5, o6, o7] [] S (mI M) Q) (k2 : t0 = 2 → X E d fL_act 166 [o0, o1, o2, o3, o4, o5, o6, o7] [] S (mI M) Q) (k3 : t0 = 3 → X E d fL_act 166 [o0, o1, o2, o3, o4, o5, o6, o7] [] S (mI M) Q) (k4 : t0 = 4 → X E d fL_act 281 [o0, o1, o2, o3, o4, o5, o6, o7] [] S (mI M) Q) : X E d fL_act 6 [o0, o1, o2, o3, o4, o5, o6, o7] [J t0] S (mI M) Q := by
  by_cases hr : t0 < 0 ∨ 4 < t0
  · exact X_tswD 343 (by decide +kernel : decode cL_act 6 = .ok (.tableswitch 337 0 4 #[34, 96, 160, 160, 275], 34)) rfl (by decide) r1 hr (kd (by omega))
  · rcases (by omega : t0 = 0 ∨ t0 = 1 ∨ t0 = 2 ∨ t0 = 3 ∨ t0 = 4) with h | h | h | h | h
    · exact X_tswI 40 0 (by decide +kernel : decode cL_act 6 = .ok (.tableswitch 337 0 4 #[34, 96, 160, 160, 275], 34)) rfl rfl (by decide) r1 (h.trans rfl) (by decide) (k0 h)
    · exact X_tswI 102 1 (by decide +kernel : decode cL_act 6 = .ok (.tableswitch 337 0 4 #[34, 96, 160, 160, 275], 34)) rfl rfl (by decide) r1 (h.trans rfl) (by decide) (k1 h)
    · exact X_tswI 166 2 (by decide +kernel : decode cL_act 6 = .ok (.tableswitch 337 0 4 #[34, 96, 160, 160, 275], 34)) rfl rfl (by decide) r1 (h.trans rfl) (by decide) (k2 h)
    · exact X_tswI 166 3 (by decide +kernel : decode cL_act 6 = .ok (.tableswitch 337 0 4 #[34, 96, 160, 160, 275], 34)) rfl rfl (by decide) r1 (h.trans rfl) (by decide) (k3 h)
    · exact X_tswI 281 4 (by decide +kernel : decode cL_act 6 = .ok (.tableswitch 337 0 4 #[34, 96, 160, 160, 275], 34)) rfl rfl (by decide) r1 (h.trans rfl) (by decide) (k4 h)
theorem kL_act_40 {o0 : Option Value} {a1 : Nat} {x2 : Int} {o3 : Option Value} {o4 : Option Value} {o5 : Option Value} {o6 : Option Value} {o7 : Option Value} {b2 : Nat} (g1 : aKd S a1 = 10) (p3 : aP S a1 4 = some b2) (g7 : aKd S b2 = 100 ∨ aKd S b2 = 101 ∨ aKd S b2 = 102) (hd1 : 1 ≤ d) (k : X E (d - 1) fL_below 0 [some (J ((Int32.ofInt x2 >>> (Int32.ofInt 3 &&& 31)).toInt)), some (J (aN S b2 : Int))] [] S (mI M) (Kr E d fL_act 55 [o0, some (.ref a1), some (J x2), o3, o4, o5, o6, o7] [.ref b2] Q)) : X E d fL_act 40 [o0, some (.ref a1), some (J x2), o3, o4, o5, o6, o7] [] S (mI M) Q := by
  refine X_aload_n 41 (by decide +kernel : decode cL_act 40 = .ok (.aload_n 1, 1)) rfl rfl rfl ?_
  refine X_getR 44 (by decide +kernel : decode cL_act 41 = .ok (.getfield 128, 3)) rfl rfl (by decide +kernel : aFd 11 128 = some (10, 4, true, false)) g1 p3 ?_
  refine X_iload_n 45 (by decide +kernel : decode cL_act 44 = .ok (.iload_n 2, 1)) rfl rfl rfl ?_
  refine X_iconst 46 (by decide +kernel : decode cL_act 45 = .ok (.iconst 3, 1)) rfl rfl ?_
  refine X_ishr 47 (by decide +kernel : decode cL_act 46 = .ok (.ishr, 1)) rfl rfl ?_
  refine X_aload_n 48 (by decide +kernel : decode cL_act 47 = .ok (.aload_n 1, 1)) rfl rfl rfl ?_
  refine X_getR 51 (by decide +kernel : decode cL_act 48 = .ok (.getfield 128, 3)) rfl rfl (by decide +kernel : aFd 11 128 = some (10, 4, true, false)) g1 p3 ?_
  refine X_alen 52 (by decide +kernel : decode cL_act 51 = .ok (.arraylength, 1)) rfl rfl g7 ?_
  exact X_cs (as := [J (aN S b2 : Int), J ((Int32.ofInt x2 >>> (Int32.ofInt 3 &&& 31)).toInt)]) (rest := [.ref b2]) (by decide +kernel : decode cL_act 52 = .ok (.invokestatic 107, 3)) rfl rfl rfl rfl rfl rfl rfl (Nat.le_of_ble_eq_true rfl) hd1 k
theorem kL_act_55 {o0 : Option Value} {o1 : Option Value} {x2 : Int} {o3 : Option Value} {o4 : Option Value} {o5 : Option Value} {o6 : Option Value} {o7 : Option Value} {t0 : Int} {u1 : Nat} {b4 : Nat} (g1 : aKd S u1 = 102) (r2 : R32 t0) (h3 : (0 : Int) ≤ t0 ∧ t0 < (aN S u1 : Int)) (p5 : aP S u1 t0.toNat = some b4) (g6 : aKd S b4 = 100) (h7 : (0 : Int) ≤ 1 ∧ 1 < (aN S b4 : Int)) (hd1 : 1 ≤ d) (k : X E (d - 1) fL_below 0 [some (J ((Int32.ofInt x2 >>> (Int32.ofInt 5 &&& 31)).toInt)), some (J 61)] [] S (mI M) (Kr E d fL_act 72 [o0, o1, some (J x2), some (.ref b4), some (J (M b4 1)), o5, o6, o7] [J 1, .ref b4] Q)) : X E d fL_act 55 [o0, o1, some (J x2), o3, o4, o5, o6, o7] [J t0, .ref u1] S (mI M) Q := by
  refine X_aald 56 (by decide +kernel : decode cL_act 55 = .ok (.aaload, 1)) rfl rfl g1 r2 h3 p5 ?_
  refine X_astore_n 57 (by decide +kernel : decode cL_act 56 = .ok (.astore_n 3, 1)) rfl rfl (Nat.le_of_ble_eq_true rfl) rfl ?_
  refine X_aload_n 58 (by decide +kernel : decode cL_act 57 = .ok (.aload_n 3, 1)) rfl rfl rfl ?_
  refine X_iconst 59 (by decide +kernel : decode cL_act 58 = .ok (.iconst 1, 1)) rfl rfl ?_
  refine X_iald 60 (by decide +kernel : decode cL_act 59 = .ok (.iaload, 1)) rfl rfl g6 ⟨by decide, by decide⟩ h7 ?_
  refine X_istore 62 (by decide +kernel : decode cL_act 60 = .ok (.istore 4, 2)) rfl rfl (Nat.le_of_ble_eq_true rfl) rfl ?_
  refine X_aload_n 63 (by decide +kernel : decode cL_act 62 = .ok (.aload_n 3, 1)) rfl rfl rfl ?_
  refine X_iconst 64 (by decide +kernel : decode cL_act 63 = .ok (.iconst 1, 1)) rfl rfl ?_
  refine X_iload_n 65 (by decide +kernel : decode cL_act 64 = .ok (.iload_n 2, 1)) rfl rfl rfl ?_
  refine X_iconst 66 (by decide +kernel : decode cL_act 65 = .ok (.iconst 5, 1)) rfl rfl ?_
  refine X_ishr 67 (by decide +kernel : decode cL_act 66 = .ok (.ishr, 1)) rfl rfl ?_
  refine X_bipush 69 (61) (by decide +kernel : decode cL_act 67 = .ok (.bipush 61, 2)) rfl rfl (by decide +kernel) ?_
  exact X_cs (as := [J 61, J ((Int32.ofInt x2 >>> (Int32.ofInt 5 &&& 31)).toInt)]) (rest := [J 1, .ref b4]) (by decide +kernel : decode cL_act 69 = .ok (.invokestatic 107, 3)) rfl rfl rfl rfl rfl rfl rfl (Nat.le_of_ble_eq_true rfl) hd1 k
theorem kL_act_72 {a0 : Nat} {a1 : Nat} {x2 : Int} {o3 : Option Value} {o4 : Option Value} {o5 : Option Value} {o6 : Option Value} {o7 : Option Value} {t0 : Int} {t1 : Int} {u2 : Nat} {b5 : Nat} (g1 : aK S u2 = 100) (r2 : R32 t1) (h3 : (0 : Int) ≤ t1 ∧ t1 < (aN S u2 : Int)) (g4 : aKd S a1 = 10) (p6 : aP S a1 4 = some b5) (g7 : aKd S b5 = 100 ∨ aKd S b5 = 101 ∨ aKd S b5 = 102) (hd1 : 1 ≤ d) (k : X E (d - 1) fL_below 0 [some (J ((Int32.ofInt x2 >>> (Int32.ofInt 3 &&& 31)).toInt)), some (J (aN S b5 : Int))] [] S (mI (mW M u2 t1.toNat t0)) (Kr E d fL_act 85 [some (.ref a0), some (.ref a1), some (J x2), o3, o4, o5, o6, o7] [.ref a0] Q)) : X E d fL_act 72 [some (.ref a0), some (.ref a1), some (J x2), o3, o4, o5, o6, o7] [J t0, J t1, .ref u2] S (mI M) Q := by
  refine X_iast 73 (by decide +kernel : decode cL_act 72 = .ok (.iastore, 1)) rfl rfl g1 r2 h3 ?_
  refine X_aload_n 74 (by decide +kernel : decode cL_act 73 = .ok (.aload_n 0, 1)) rfl rfl rfl ?_
  refine X_iload_n 75 (by decide +kernel : decode cL_act 74 = .ok (.iload_n 2, 1)) rfl rfl rfl ?_
  refine X_iconst 76 (by decide +kernel : decode cL_act 75 = .ok (.iconst 3, 1)) rfl rfl ?_
  refine X_ishr 77 (by decide +kernel : decode cL_act 76 = .ok (.ishr, 1)) rfl rfl ?_
  refine X_aload_n 78 (by decide +kernel : decode cL_act 77 = .ok (.aload_n 1, 1)) rfl rfl rfl ?_
  refine X_getR 81 (by decide +kernel : decode cL_act 78 = .ok (.getfield 128, 3)) rfl rfl (by decide +kernel : aFd 11 128 = some (10, 4, true, false)) g4 p6 ?_
  refine X_alen 82 (by decide +kernel : decode cL_act 81 = .ok (.arraylength, 1)) rfl rfl g7 ?_
  exact X_cs (as := [J (aN S b5 : Int), J ((Int32.ofInt x2 >>> (Int32.ofInt 3 &&& 31)).toInt)]) (rest := [.ref a0]) (by decide +kernel : decode cL_act 82 = .ok (.invokestatic 107, 3)) rfl rfl rfl rfl rfl rfl rfl (Nat.le_of_ble_eq_true rfl) hd1 k
theorem kL_act_85 {o0 : Option Value} {o1 : Option Value} {o2 : Option Value} {a3 : Nat} {o4 : Option Value} {o5 : Option Value} {o6 : Option Value} {o7 : Option Value} {t0 : Int} {u1 : Nat} (g1 : aKd S a3 = 100) (h2 : (0 : Int) ≤ 1 ∧ 1 < (aN S a3 : Int)) (hd1 : 1 ≤ d) (k : X E (d - 1) fX7_setToll 0 [some (.ref u1), some (J t0), some (J (M a3 1)), none] [] S (mI M) (Kr E d fL_act 91 [o0, o1, o2, some (.ref a3), o4, o5, o6, o7] [] Q)) (g3 : aKd S u1 = 9) : X E d fL_act 85 [o0, o1, o2, some (.ref a3), o4, o5, o6, o7] [J t0, .ref u1] S (mI M) Q := by
  refine X_aload_n 86 (by decide +kernel : decode cL_act 85 = .ok (.aload_n 3, 1)) rfl rfl rfl ?_
  refine X_iconst 87 (by decide +kernel : decode cL_act 86 = .ok (.iconst 1, 1)) rfl rfl ?_
  refine X_iald 88 (by decide +kernel : decode cL_act 87 = .ok (.iaload, 1)) rfl rfl g1 ⟨by decide, by decide⟩ h2 ?_
  exact X_cv (as := [J (M a3 1), J t0]) (rest := []) (by decide +kernel : decode cL_act 88 = .ok (.invokevirtual 188, 3)) (Or.inl ⟨rfl, rfl, rfl⟩) rfl rfl rfl rfl rfl (Nat.le_of_ble_eq_true rfl) (Or.inr (Or.inr (by rw [g3]; rfl))) hd1 k
theorem kL_act_91 {o0 : Option Value} {o1 : Option Value} {o2 : Option Value} {o3 : Option Value} {x4 : Int} {o5 : Option Value} {o6 : Option Value} {o7 : Option Value} {t0 : Int} (r1 : R32 t0) (r2 : R32 x4) (k1 : t0 ≠ x4 → X E d fL_act 100 [o0, o1, o2, o3, some (J x4), o5, o6, o7] [] S (mI M) Q) (k2 : t0 = x4 → X E d fL_act 96 [o0, o1, o2, o3, some (J x4), o5, o6, o7] [] S (mI M) Q) : X E d fL_act 91 [o0, o1, o2, o3, some (J x4), o5, o6, o7] [J t0] S (mI M) Q := by
  refine X_iload 93 (by decide +kernel : decode cL_act 91 = .ok (.iload 4, 2)) rfl rfl rfl ?_
  exact X_icmpne 100 96 (by decide +kernel : decode cL_act 93 = .ok (.if_icmp .ne 7, 3)) rfl rfl (by decide) r1 r2 k1 k2
theorem kL_act_96 {o0 : Option Value} {o1 : Option Value} {o2 : Option Value} {o3 : Option Value} {o4 : Option Value} {o5 : Option Value} {o6 : Option Value} {o7 : Option Value} (k : X E d fL_act 101 [o0, o1, o2, o3, o4, o5, o6, o7] [J 1] S (mI M) Q) : X E d fL_act 96 [o0, o1, o2, o3, o4, o5, o6, o7] [] S (mI M) Q := by
  refine X_iconst 97 (by decide +kernel : decode cL_act 96 = .ok (.iconst 1, 1)) rfl rfl ?_
  exact X_goto 101 (by decide +kernel : decode cL_act 97 = .ok (.goto 4, 3)) rfl (by decide) k
theorem kL_act_100 {o0 : Option Value} {o1 : Option Value} {o2 : Option Value} {o3 : Option Value} {o4 : Option Value} {o5 : Option Value} {o6 : Option Value} {o7 : Option Value} (k : X E d fL_act 101 [o0, o1, o2, o3, o4, o5, o6, o7] [J 0] S (mI M) Q) : X E d fL_act 100 [o0, o1, o2, o3, o4, o5, o6, o7] [] S (mI M) Q := by
  refine X_iconst 101 (by decide +kernel : decode cL_act 100 = .ok (.iconst 0, 1)) rfl rfl ?_
  exact k
theorem kL_act_101 {o0 : Option Value} {o1 : Option Value} {o2 : Option Value} {o3 : Option Value} {o4 : Option Value} {o5 : Option Value} {o6 : Option Value} {o7 : Option Value} {t0 : Int} (h1 : narrow .boolean (J t0) = J t0) (q : Q (some (some (J t0))) S (mI M)) : X E d fL_act 101 [o0, o1, o2, o3, o4, o5, o6, o7] [J t0] S (mI M) Q := by
  exact X_iret (by decide +kernel : decode cL_act 101 = .ok (.ireturn, 1)) rfl rfl h1 q
theorem kL_act_102 {o0 : Option Value} {a1 : Nat} {x2 : Int} {o3 : Option Value} {o4 : Option Value} {o5 : Option Value} {o6 : Option Value} {o7 : Option Value} {b2 : Nat} (g1 : aKd S a1 = 10) (p3 : aP S a1 5 = some b2) (g7 : aKd S b2 = 100 ∨ aKd S b2 = 101 ∨ aKd S b2 = 102) (hd1 : 1 ≤ d) (k : X E (d - 1) fL_below 0 [some (J ((Int32.ofInt x2 >>> (Int32.ofInt 3 &&& 31)).toInt)), some (J (aN S b2 : Int))] [] S (mI M) (Kr E d fL_act 117 [o0, some (.ref a1), some (J x2), o3, o4, o5, o6, o7] [.ref b2] Q)) : X E d fL_act 102 [o0, some (.ref a1), some (J x2), o3, o4, o5, o6, o7] [] S (mI M) Q := by
  refine X_aload_n 103 (by decide +kernel : decode cL_act 102 = .ok (.aload_n 1, 1)) rfl rfl rfl ?_
  refine X_getR 106 (by decide +kernel : decode cL_act 103 = .ok (.getfield 139, 3)) rfl rfl (by decide +kernel : aFd 11 139 = some (10, 5, true, false)) g1 p3 ?_
  refine X_iload_n 107 (by decide +kernel : decode cL_act 106 = .ok (.iload_n 2, 1)) rfl rfl rfl ?_
  refine X_iconst 108 (by decide +kernel : decode cL_act 107 = .ok (.iconst 3, 1)) rfl rfl ?_
  refine X_ishr 109 (by decide +kernel : decode cL_act 108 = .ok (.ishr, 1)) rfl rfl ?_
  refine X_aload_n 110 (by decide +kernel : decode cL_act 109 = .ok (.aload_n 1, 1)) rfl rfl rfl ?_
  refine X_getR 113 (by decide +kernel : decode cL_act 110 = .ok (.getfield 139, 3)) rfl rfl (by decide +kernel : aFd 11 139 = some (10, 5, true, false)) g1 p3 ?_
  refine X_alen 114 (by decide +kernel : decode cL_act 113 = .ok (.arraylength, 1)) rfl rfl g7 ?_
  exact X_cs (as := [J (aN S b2 : Int), J ((Int32.ofInt x2 >>> (Int32.ofInt 3 &&& 31)).toInt)]) (rest := [.ref b2]) (by decide +kernel : decode cL_act 114 = .ok (.invokestatic 107, 3)) rfl rfl rfl rfl rfl rfl rfl (Nat.le_of_ble_eq_true rfl) hd1 k
theorem kL_act_117 {o0 : Option Value} {o1 : Option Value} {x2 : Int} {o3 : Option Value} {o4 : Option Value} {o5 : Option Value} {o6 : Option Value} {o7 : Option Value} {t0 : Int} {u1 : Nat} {b4 : Nat} (g1 : aKd S u1 = 102) (r2 : R32 t0) (h3 : (0 : Int) ≤ t0 ∧ t0 < (aN S u1 : Int)) (p5 : aP S u1 t0.toNat = some b4) (g6 : aKd S b4 = 100) (h7 : (0 : Int) ≤ 1 ∧ 1 < (aN S b4 : Int)) (hd1 : 1 ≤ d) (k : X E (d - 1) fL_below 0 [some (J ((Int32.ofInt x2 >>> (Int32.ofInt 5 &&& 31)).toInt)), some (J 16)] [] S (mI M) (Kr E d fL_act 135 [o0, o1, some (J x2), some (.ref b4), some (J (M b4 1)), o5, o6, o7] [J 1, J 1, .ref b4] Q)) : X E d fL_act 117 [o0, o1, some (J x2), o3, o4, o5, o6, o7] [J t0, .ref u1] S (mI M) Q := by
  refine X_aald 118 (by decide +kernel : decode cL_act 117 = .ok (.aaload, 1)) rfl rfl g1 r2 h3 p5 ?_
  refine X_astore_n 119 (by decide +kernel : decode cL_act 118 = .ok (.astore_n 3, 1)) rfl rfl (Nat.le_of_ble_eq_true rfl) rfl ?_
  refine X_aload_n 120 (by decide +kernel : decode cL_act 119 = .ok (.aload_n 3, 1)) rfl rfl rfl ?_
  refine X_iconst 121 (by decide +kernel : decode cL_act 120 = .ok (.iconst 1, 1)) rfl rfl ?_
  refine X_iald 122 (by decide +kernel : decode cL_act 121 = .ok (.iaload, 1)) rfl rfl g6 ⟨by decide, by decide⟩ h7 ?_
  refine X_istore 124 (by decide +kernel : decode cL_act 122 = .ok (.istore 4, 2)) rfl rfl (Nat.le_of_ble_eq_true rfl) rfl ?_
  refine X_aload_n 125 (by decide +kernel : decode cL_act 124 = .ok (.aload_n 3, 1)) rfl rfl rfl ?_
  refine X_iconst 126 (by decide +kernel : decode cL_act 125 = .ok (.iconst 1, 1)) rfl rfl ?_
  refine X_iconst 127 (by decide +kernel : decode cL_act 126 = .ok (.iconst 1, 1)) rfl rfl ?_
  refine X_iload_n 128 (by decide +kernel : decode cL_act 127 = .ok (.iload_n 2, 1)) rfl rfl rfl ?_
  refine X_iconst 129 (by decide +kernel : decode cL_act 128 = .ok (.iconst 5, 1)) rfl rfl ?_
  refine X_ishr 130 (by decide +kernel : decode cL_act 129 = .ok (.ishr, 1)) rfl rfl ?_
  refine X_bipush 132 (16) (by decide +kernel : decode cL_act 130 = .ok (.bipush 16, 2)) rfl rfl (by decide +kernel) ?_
  exact X_cs (as := [J 16, J ((Int32.ofInt x2 >>> (Int32.ofInt 5 &&& 31)).toInt)]) (rest := [J 1, J 1, .ref b4]) (by decide +kernel : decode cL_act 132 = .ok (.invokestatic 107, 3)) rfl rfl rfl rfl rfl rfl rfl (Nat.le_of_ble_eq_true rfl) hd1 k
theorem kL_act_135 {a0 : Nat} {a1 : Nat} {x2 : Int} {o3 : Option Value} {o4 : Option Value} {o5 : Option Value} {o6 : Option Value} {o7 : Option Value} {t0 : Int} {t1 : Int} {t2 : Int} {u3 : Nat} {b5 : Nat} (g1 : aK S u3 = 100) (r2 : R32 t2) (h3 : (0 : Int) ≤ t2 ∧ t2 < (aN S u3 : Int)) (g4 : aKd S a1 = 10) (p6 : aP S a1 5 = some b5) (g7 : aKd S b5 = 100 ∨ aKd S b5 = 101 ∨ aKd S b5 = 102) (hd1 : 1 ≤ d) (k : X E (d - 1) fL_below 0 [some (J ((Int32.ofInt x2 >>> (Int32.ofInt 3 &&& 31)).toInt)), some (J (aN S b5 : Int))] [] S (mI (mW M u3 t2.toNat (nz (t1 + t0)))) (Kr E d fL_act 149 [some (.ref a0), some (.ref a1), some (J x2), o3, o4, o5, o6, o7] [.ref a0] Q)) : X E d fL_act 135 [some (.ref a0), some (.ref a1), some (J x2), o3, o4, o5, o6, o7] [J t0, J t1, J t2, .ref u3] S (mI M) Q := by
  refine X_iadd 136 (by decide +kernel : decode cL_act 135 = .ok (.iadd, 1)) rfl rfl ?_
  refine X_iastz 137 (by decide +kernel : decode cL_act 136 = .ok (.iastore, 1)) rfl rfl g1 r2 h3 ?_
  refine X_aload_n 138 (by decide +kernel : decode cL_act 137 = .ok (.aload_n 0, 1)) rfl rfl rfl ?_
  refine X_iload_n 139 (by decide +kernel : decode cL_act 138 = .ok (.iload_n 2, 1)) rfl rfl rfl ?_
  refine X_iconst 140 (by decide +kernel : decode cL_act 139 = .ok (.iconst 3, 1)) rfl rfl ?_
  refine X_ishr 141 (by decide +kernel : decode cL_act 140 = .ok (.ishr, 1)) rfl rfl ?_
  refine X_aload_n 142 (by decide +kernel : decode cL_act 141 = .ok (.aload_n 1, 1)) rfl rfl rfl ?_
  refine X_getR 145 (by decide +kernel : decode cL_act 142 = .ok (.getfield 139, 3)) rfl rfl (by decide +kernel : aFd 11 139 = some (10, 5, true, false)) g4 p6 ?_
  refine X_alen 146 (by decide +kernel : decode cL_act 145 = .ok (.arraylength, 1)) rfl rfl g7 ?_
  exact X_cs (as := [J (aN S b5 : Int), J ((Int32.ofInt x2 >>> (Int32.ofInt 3 &&& 31)).toInt)]) (rest := [.ref a0]) (by decide +kernel : decode cL_act 146 = .ok (.invokestatic 107, 3)) rfl rfl rfl rfl rfl rfl rfl (Nat.le_of_ble_eq_true rfl) hd1 k
theorem kL_act_149 {o0 : Option Value} {o1 : Option Value} {o2 : Option Value} {a3 : Nat} {o4 : Option Value} {o5 : Option Value} {o6 : Option Value} {o7 : Option Value} {t0 : Int} {u1 : Nat} (g1 : aKd S a3 = 100) (h2 : (0 : Int) ≤ 1 ∧ 1 < (aN S a3 : Int)) (hd1 : 1 ≤ d) (k : X E (d - 1) fX7_setWheels 0 [some (.ref u1), some (J t0), some (J (M a3 1)), none] [] S (mI M) (Kr E d fL_act 155 [o0, o1, o2, some (.ref a3), o4, o5, o6, o7] [] Q)) (g3 : aKd S u1 = 9) : X E d fL_act 149 [o0, o1, o2, some (.ref a3), o4, o5, o6, o7] [J t0, .ref u1] S (mI M) Q := by
  refine X_aload_n 150 (by decide +kernel : decode cL_act 149 = .ok (.aload_n 3, 1)) rfl rfl rfl ?_
  refine X_iconst 151 (by decide +kernel : decode cL_act 150 = .ok (.iconst 1, 1)) rfl rfl ?_
  refine X_iald 152 (by decide +kernel : decode cL_act 151 = .ok (.iaload, 1)) rfl rfl g1 ⟨by decide, by decide⟩ h2 ?_
  exact X_cv (as := [J (M a3 1), J t0]) (rest := []) (by decide +kernel : decode cL_act 152 = .ok (.invokevirtual 191, 3)) (Or.inl ⟨rfl, rfl, rfl⟩) rfl rfl rfl rfl rfl (Nat.le_of_ble_eq_true rfl) (Or.inr (Or.inr (by rw [g3]; rfl))) hd1 k
theorem kL_act_155 {o0 : Option Value} {o1 : Option Value} {o2 : Option Value} {o3 : Option Value} {x4 : Int} {o5 : Option Value} {o6 : Option Value} {o7 : Option Value} {t0 : Int} (r1 : R32 t0) (r2 : R32 x4) (k1 : t0 ≠ x4 → X E d fL_act 164 [o0, o1, o2, o3, some (J x4), o5, o6, o7] [] S (mI M) Q) (k2 : t0 = x4 → X E d fL_act 160 [o0, o1, o2, o3, some (J x4), o5, o6, o7] [] S (mI M) Q) : X E d fL_act 155 [o0, o1, o2, o3, some (J x4), o5, o6, o7] [J t0] S (mI M) Q := by
  refine X_iload 157 (by decide +kernel : decode cL_act 155 = .ok (.iload 4, 2)) rfl rfl rfl ?_
  exact X_icmpne 164 160 (by decide +kernel : decode cL_act 157 = .ok (.if_icmp .ne 7, 3)) rfl rfl (by decide) r1 r2 k1 k2
theorem kL_act_160 {o0 : Option Value} {o1 : Option Value} {o2 : Option Value} {o3 : Option Value} {o4 : Option Value} {o5 : Option Value} {o6 : Option Value} {o7 : Option Value} (k : X E d fL_act 165 [o0, o1, o2, o3, o4, o5, o6, o7] [J 1] S (mI M) Q) : X E d fL_act 160 [o0, o1, o2, o3, o4, o5, o6, o7] [] S (mI M) Q := by
  refine X_iconst 161 (by decide +kernel : decode cL_act 160 = .ok (.iconst 1, 1)) rfl rfl ?_
  exact X_goto 165 (by decide +kernel : decode cL_act 161 = .ok (.goto 4, 3)) rfl (by decide) k
theorem kL_act_164 {o0 : Option Value} {o1 : Option Value} {o2 : Option Value} {o3 : Option Value} {o4 : Option Value} {o5 : Option Value} {o6 : Option Value} {o7 : Option Value} (k : X E d fL_act 165 [o0, o1, o2, o3, o4, o5, o6, o7] [J 0] S (mI M) Q) : X E d fL_act 164 [o0, o1, o2, o3, o4, o5, o6, o7] [] S (mI M) Q := by
  refine X_iconst 165 (by decide +kernel : decode cL_act 164 = .ok (.iconst 0, 1)) rfl rfl ?_
  exact k
theorem kL_act_165 {o0 : Option Value} {o1 : Option Value} {o2 : Option Value} {o3 : Option Value} {o4 : Option Value} {o5 : Option Value} {o6 : Option Value} {o7 : Option Value} {t0 : Int} (h1 : narrow .boolean (J t0) = J t0) (q : Q (some (some (J t0))) S (mI M)) : X E d fL_act 165 [o0, o1, o2, o3, o4, o5, o6, o7] [J t0] S (mI M) Q := by
  exact X_iret (by decide +kernel : decode cL_act 165 = .ok (.ireturn, 1)) rfl rfl h1 q
theorem kL_act_166 {o0 : Option Value} {a1 : Nat} {x2 : Int} {o3 : Option Value} {o4 : Option Value} {o5 : Option Value} {o6 : Option Value} {o7 : Option Value} {b2 : Nat} (g1 : aKd S a1 = 10) (p3 : aP S a1 2 = some b2) (g4 : aKd S b2 = 100 ∨ aKd S b2 = 101 ∨ aKd S b2 = 102) (hd1 : 1 ≤ d) (k : X E (d - 1) fL_below 0 [some (J ((Int32.ofInt x2 >>> (Int32.ofInt 3 &&& 31)).toInt)), some (J (aN S b2 : Int))] [] S (mI M) (Kr E d fL_act 177 [o0, some (.ref a1), some (J x2), o3, o4, o5, o6, o7] [] Q)) : X E d fL_act 166 [o0, some (.ref a1), some (J x2), o3, o4, o5, o6, o7] [] S (mI M) Q := by
  refine X_iload_n 167 (by decide +kernel : decode cL_act 166 = .ok (.iload_n 2, 1)) rfl rfl rfl ?_
  refine X_iconst 168 (by decide +kernel : decode cL_act 167 = .ok (.iconst 3, 1)) rfl rfl ?_
  refine X_ishr 169 (by decide +kernel : decode cL_act 168 = .ok (.ishr, 1)) rfl rfl ?_
  refine X_aload_n 170 (by decide +kernel : decode cL_act 169 = .ok (.aload_n 1, 1)) rfl rfl rfl ?_
  refine X_getR 173 (by decide +kernel : decode cL_act 170 = .ok (.getfield 113, 3)) rfl rfl (by decide +kernel : aFd 11 113 = some (10, 2, true, false)) g1 p3 ?_
  refine X_alen 174 (by decide +kernel : decode cL_act 173 = .ok (.arraylength, 1)) rfl rfl g4 ?_
  exact X_cs (as := [J (aN S b2 : Int), J ((Int32.ofInt x2 >>> (Int32.ofInt 3 &&& 31)).toInt)]) (rest := []) (by decide +kernel : decode cL_act 174 = .ok (.invokestatic 107, 3)) rfl rfl rfl rfl rfl rfl rfl (Nat.le_of_ble_eq_true rfl) hd1 k
theorem kL_act_177 {o0 : Option Value} {o1 : Option Value} {x2 : Int} {o3 : Option Value} {o4 : Option Value} {o5 : Option Value} {o6 : Option Value} {o7 : Option Value} {t0 : Int} (hd1 : 1 ≤ d) (k : X E (d - 1) fL_below 0 [some (J ((Int32.ofInt x2 >>> (Int32.ofInt 9 &&& 31)).toInt)), some (J 4)] [] S (mI M) (Kr E d fL_act 190 [o0, o1, some (J x2), some (J t0), o4, o5, o6, o7] [J ((Int32.ofInt x2 >>> (Int32.ofInt 5 &&& 31)).toInt), J 1] Q)) : X E d fL_act 177 [o0, o1, some (J x2), o3, o4, o5, o6, o7] [J t0] S (mI M) Q := by
  refine X_istore_n 178 (by decide +kernel : decode cL_act 177 = .ok (.istore_n 3, 1)) rfl rfl (Nat.le_of_ble_eq_true rfl) rfl ?_
  refine X_iconst 179 (by decide +kernel : decode cL_act 178 = .ok (.iconst 1, 1)) rfl rfl ?_
  refine X_iload_n 180 (by decide +kernel : decode cL_act 179 = .ok (.iload_n 2, 1)) rfl rfl rfl ?_
  refine X_iconst 181 (by decide +kernel : decode cL_act 180 = .ok (.iconst 5, 1)) rfl rfl ?_
  refine X_ishr 182 (by decide +kernel : decode cL_act 181 = .ok (.ishr, 1)) rfl rfl ?_
  refine X_iload_n 183 (by decide +kernel : decode cL_act 182 = .ok (.iload_n 2, 1)) rfl rfl rfl ?_
  refine X_bipush 185 (9) (by decide +kernel : decode cL_act 183 = .ok (.bipush 9, 2)) rfl rfl (by decide +kernel) ?_
  refine X_ishr 186 (by decide +kernel : decode cL_act 185 = .ok (.ishr, 1)) rfl rfl ?_
  refine X_iconst 187 (by decide +kernel : decode cL_act 186 = .ok (.iconst 4, 1)) rfl rfl ?_
  exact X_cs (as := [J 4, J ((Int32.ofInt x2 >>> (Int32.ofInt 9 &&& 31)).toInt)]) (rest := [J ((Int32.ofInt x2 >>> (Int32.ofInt 5 &&& 31)).toInt), J 1]) (by decide +kernel : decode cL_act 187 = .ok (.invokestatic 107, 3)) rfl rfl rfl rfl rfl rfl rfl (Nat.le_of_ble_eq_true rfl) hd1 k
theorem kL_act_190 {o0 : Option Value} {o1 : Option Value} {o2 : Option Value} {o3 : Option Value} {o4 : Option Value} {o5 : Option Value} {o6 : Option Value} {o7 : Option Value} {t0 : Int} {t1 : Int} {t2 : Int} (r1 : R32 t0) (k1 : t0 ≠ 0 → X E d fL_act 199 [o0, o1, o2, o3, o4, o5, o6, o7] [J t1, J t2] S (mI M) Q) (k2 : t0 = 0 → X E d fL_act 193 [o0, o1, o2, o3, o4, o5, o6, o7] [J t1, J t2] S (mI M) Q) : X E d fL_act 190 [o0, o1, o2, o3, o4, o5, o6, o7] [J t0, J t1, J t2] S (mI M) Q := by
  exact X_ifne 199 193 (by decide +kernel : decode cL_act 190 = .ok (.ifCond .ne 9, 3)) rfl rfl (by decide) r1 k1 k2
theorem kL_act_193 {o0 : Option Value} {o1 : Option Value} {o2 : Option Value} {o3 : Option Value} {o4 : Option Value} {o5 : Option Value} {o6 : Option Value} {o7 : Option Value} {t0 : Int} {t1 : Int} (k : X E d fL_act 201 [o0, o1, o2, o3, o4, o5, o6, o7] [J 999, J t0, J t1] S (mI M) Q) : X E d fL_act 193 [o0, o1, o2, o3, o4, o5, o6, o7] [J t0, J t1] S (mI M) Q := by
  refine X_sipush 196 (999) (by decide +kernel : decode cL_act 193 = .ok (.sipush 999, 3)) rfl rfl (by decide +kernel) ?_
  exact X_goto 201 (by decide +kernel : decode cL_act 196 = .ok (.goto 5, 3)) rfl (by decide) k
theorem kL_act_199 {o0 : Option Value} {o1 : Option Value} {o2 : Option Value} {o3 : Option Value} {o4 : Option Value} {o5 : Option Value} {o6 : Option Value} {o7 : Option Value} {t0 : Int} {t1 : Int} (k : X E d fL_act 201 [o0, o1, o2, o3, o4, o5, o6, o7] [J 60, J t0, J t1] S (mI M) Q) : X E d fL_act 199 [o0, o1, o2, o3, o4, o5, o6, o7] [J t0, J t1] S (mI M) Q := by
  refine X_bipush 201 (60) (by decide +kernel : decode cL_act 199 = .ok (.bipush 60, 2)) rfl rfl (by decide +kernel) ?_
  exact k
theorem kL_act_201 {o0 : Option Value} {o1 : Option Value} {o2 : Option Value} {o3 : Option Value} {o4 : Option Value} {o5 : Option Value} {o6 : Option Value} {o7 : Option Value} {t0 : Int} {t1 : Int} {t2 : Int} (hd1 : 1 ≤ d) (k : X E (d - 1) fL_below 0 [some (J t1), some (J t0)] [] S (mI M) (Kr E d fL_act 204 [o0, o1, o2, o3, o4, o5, o6, o7] [J t2] Q)) : X E d fL_act 201 [o0, o1, o2, o3, o4, o5, o6, o7] [J t0, J t1, J t2] S (mI M) Q := by
  exact X_cs (as := [J t0, J t1]) (rest := [J t2]) (by decide +kernel : decode cL_act 201 = .ok (.invokestatic 107, 3)) rfl rfl rfl rfl rfl rfl rfl (Nat.le_of_ble_eq_true rfl) hd1 k
theorem kL_act_204 {o0 : Option Value} {a1 : Nat} {o2 : Option Value} {o3 : Option Value} {o4 : Option Value} {o5 : Option Value} {o6 : Option Value} {o7 : Option Value} {t0 : Int} {t1 : Int} (g1 : aKd S a1 = 10) (r2 : R32 (M a1 1)) (r3 : R32 (t1 + t0)) (k1 : (M a1 1) < (t1 + t0) → X E d fL_act 220 [o0, some (.ref a1), o2, o3, some (J (t1 + t0)), o5, o6, o7] [] S (mI M) Q) (k2 : (t1 + t0) ≤ (M a1 1) → X E d fL_act 216 [o0, some (.ref a1), o2, o3, some (J (t1 + t0)), o5, o6, o7] [] S (mI M) Q) : X E d fL_act 204 [o0, some (.ref a1), o2, o3, o4, o5, o6, o7] [J t0, J t1] S (mI M) Q := by
  refine X_iadd 205 (by decide +kernel : decode cL_act 204 = .ok (.iadd, 1)) rfl rfl ?_
  refine X_istore 207 (by decide +kernel : decode cL_act 205 = .ok (.istore 4, 2)) rfl rfl (Nat.le_of_ble_eq_true rfl) rfl ?_
  refine X_aload_n 208 (by decide +kernel : decode cL_act 207 = .ok (.aload_n 1, 1)) rfl rfl rfl ?_
  refine X_getI 211 (by decide +kernel : decode cL_act 208 = .ok (.getfield 194, 3)) rfl rfl (by decide +kernel : aFd 11 194 = some (10, 1, false, false)) g1 ?_
  refine X_iload 213 (by decide +kernel : decode cL_act 211 = .ok (.iload 4, 2)) rfl rfl rfl ?_
  exact X_icmplt 220 216 (by decide +kernel : decode cL_act 213 = .ok (.if_icmp .lt 7, 3)) rfl rfl (by decide) r2 r3 k1 k2
theorem kL_act_216 {o0 : Option Value} {o1 : Option Value} {o2 : Option Value} {o3 : Option Value} {o4 : Option Value} {o5 : Option Value} {o6 : Option Value} {o7 : Option Value} (k : X E d fL_act 221 [o0, o1, o2, o3, o4, o5, o6, o7] [J 1] S (mI M) Q) : X E d fL_act 216 [o0, o1, o2, o3, o4, o5, o6, o7] [] S (mI M) Q := by
  refine X_iconst 217 (by decide +kernel : decode cL_act 216 = .ok (.iconst 1, 1)) rfl rfl ?_
  exact X_goto 221 (by decide +kernel : decode cL_act 217 = .ok (.goto 4, 3)) rfl (by decide) k
theorem kL_act_220 {o0 : Option Value} {o1 : Option Value} {o2 : Option Value} {o3 : Option Value} {o4 : Option Value} {o5 : Option Value} {o6 : Option Value} {o7 : Option Value} (k : X E d fL_act 221 [o0, o1, o2, o3, o4, o5, o6, o7] [J 0] S (mI M) Q) : X E d fL_act 220 [o0, o1, o2, o3, o4, o5, o6, o7] [] S (mI M) Q := by
  refine X_iconst 221 (by decide +kernel : decode cL_act 220 = .ok (.iconst 0, 1)) rfl rfl ?_
  exact k
theorem kL_act_221 {o0 : Option Value} {o1 : Option Value} {o2 : Option Value} {o3 : Option Value} {o4 : Option Value} {o5 : Option Value} {o6 : Option Value} {o7 : Option Value} {t0 : Int} (r1 : R32 t0) (k1 : t0 = 0 → X E d fL_act 238 [o0, o1, o2, o3, o4, some (J t0), o6, o7] [] S (mI M) Q) (k2 : t0 ≠ 0 → X E d fL_act 228 [o0, o1, o2, o3, o4, some (J t0), o6, o7] [] S (mI M) Q) : X E d fL_act 221 [o0, o1, o2, o3, o4, o5, o6, o7] [J t0] S (mI M) Q := by
  refine X_istore 223 (by decide +kernel : decode cL_act 221 = .ok (.istore 5, 2)) rfl rfl (Nat.le_of_ble_eq_true rfl) rfl ?_
  refine X_iload 225 (by decide +kernel : decode cL_act 223 = .ok (.iload 5, 2)) rfl rfl rfl ?_
  exact X_ifeq 238 228 (by decide +kernel : decode cL_act 225 = .ok (.ifCond .eq 13, 3)) rfl rfl (by decide) r1 k1 k2
theorem kL_act_228 {o0 : Option Value} {a1 : Nat} {o2 : Option Value} {x3 : Int} {x4 : Int} {o5 : Option Value} {o6 : Option Value} {o7 : Option Value} (hd1 : 1 ≤ d) (k : X E (d - 1) fX8_mend 0 [some (.ref a1), some (J x3), some (J x4), none, none, none] [] S (mI M) (Kr E d fL_act 235 [o0, some (.ref a1), o2, some (J x3), some (J x4), o5, o6, o7] [] Q)) (g1 : aKd S a1 = 10) : X E d fL_act 228 [o0, some (.ref a1), o2, some (J x3), some (J x4), o5, o6, o7] [] S (mI M) Q := by
  refine X_aload_n 229 (by decide +kernel : decode cL_act 228 = .ok (.aload_n 1, 1)) rfl rfl rfl ?_
  refine X_iload_n 230 (by decide +kernel : decode cL_act 229 = .ok (.iload_n 3, 1)) rfl rfl rfl ?_
  refine X_iload 232 (by decide +kernel : decode cL_act 230 = .ok (.iload 4, 2)) rfl rfl rfl ?_
  exact X_cv (as := [J x4, J x3]) (rest := []) (by decide +kernel : decode cL_act 232 = .ok (.invokevirtual 198, 3)) (Or.inl ⟨rfl, rfl, rfl⟩) rfl rfl rfl rfl rfl (Nat.le_of_ble_eq_true rfl) (Or.inr (Or.inr (by rw [g1]; rfl))) hd1 k
theorem kL_act_235 {o0 : Option Value} {o1 : Option Value} {o2 : Option Value} {o3 : Option Value} {o4 : Option Value} {o5 : Option Value} {o6 : Option Value} {o7 : Option Value} {t0 : Int} (k : X E d fL_act 239 [o0, o1, o2, o3, o4, o5, o6, o7] [J t0] S (mI M) Q) : X E d fL_act 235 [o0, o1, o2, o3, o4, o5, o6, o7] [J t0] S (mI M) Q := by
  exact X_goto 239 (by decide +kernel : decode cL_act 235 = .ok (.goto 4, 3)) rfl (by decide) k
theorem kL_act_238 {o0 : Option Value} {o1 : Option Value} {o2 : Option Value} {o3 : Option Value} {o4 : Option Value} {o5 : Option Value} {o6 : Option Value} {o7 : Option Value} (k : X E d fL_act 239 [o0, o1, o2, o3, o4, o5, o6, o7] [J 0] S (mI M) Q) : X E d fL_act 238 [o0, o1, o2, o3, o4, o5, o6, o7] [] S (mI M) Q := by
  refine X_iconst 239 (by decide +kernel : decode cL_act 238 = .ok (.iconst 0, 1)) rfl rfl ?_
  exact k
theorem kL_act_239 {a0 : Nat} {o1 : Option Value} {o2 : Option Value} {x3 : Int} {x4 : Int} {o5 : Option Value} {o6 : Option Value} {o7 : Option Value} {t0 : Int} (hd1 : 1 ≤ d) (k : X E (d - 1) fX7_mend 0 [some (.ref a0), some (J x3), some (J x4)] [] S (mI M) (Kr E d fL_act 248 [some (.ref a0), o1, o2, some (J x3), some (J x4), o5, some (J t0), o7] [] Q)) (g1 : aKd S a0 = 9) : X E d fL_act 239 [some (.ref a0), o1, o2, some (J x3), some (J x4), o5, o6, o7] [J t0] S (mI M) Q := by
  refine X_istore 241 (by decide +kernel : decode cL_act 239 = .ok (.istore 6, 2)) rfl rfl (Nat.le_of_ble_eq_true rfl) rfl ?_
  refine X_aload_n 242 (by decide +kernel : decode cL_act 241 = .ok (.aload_n 0, 1)) rfl rfl rfl ?_
  refine X_iload_n 243 (by decide +kernel : decode cL_act 242 = .ok (.iload_n 3, 1)) rfl rfl rfl ?_
  refine X_iload 245 (by decide +kernel : decode cL_act 243 = .ok (.iload 4, 2)) rfl rfl rfl ?_
  exact X_cv (as := [J x4, J x3]) (rest := []) (by decide +kernel : decode cL_act 245 = .ok (.invokevirtual 201, 3)) (Or.inl ⟨rfl, rfl, rfl⟩) rfl rfl rfl rfl rfl (Nat.le_of_ble_eq_true rfl) (Or.inr (Or.inr (by rw [g1]; rfl))) hd1 k
theorem kL_act_248 {o0 : Option Value} {o1 : Option Value} {o2 : Option Value} {o3 : Option Value} {o4 : Option Value} {x5 : Int} {o6 : Option Value} {o7 : Option Value} {t0 : Int} (r1 : R32 x5) (k1 : x5 = 0 → X E d fL_act 266 [o0, o1, o2, o3, o4, some (J x5), o6, some (J t0)] [] S (mI M) Q) (k2 : x5 ≠ 0 → X E d fL_act 255 [o0, o1, o2, o3, o4, some (J x5), o6, some (J t0)] [] S (mI M) Q) : X E d fL_act 248 [o0, o1, o2, o3, o4, some (J x5), o6, o7] [J t0] S (mI M) Q := by
  refine X_istore 250 (by decide +kernel : decode cL_act 248 = .ok (.istore 7, 2)) rfl rfl (Nat.le_of_ble_eq_true rfl) rfl ?_
  refine X_iload 252 (by decide +kernel : decode cL_act 250 = .ok (.iload 5, 2)) rfl rfl rfl ?_
  exact X_ifeq 266 255 (by decide +kernel : decode cL_act 252 = .ok (.ifCond .eq 14, 3)) rfl rfl (by decide) r1 k1 k2
theorem kL_act_255 {o0 : Option Value} {o1 : Option Value} {o2 : Option Value} {o3 : Option Value} {o4 : Option Value} {o5 : Option Value} {x6 : Int} {x7 : Int} (r1 : R32 x7) (r2 : R32 x6) (k1 : x7 ≠ x6 → X E d fL_act 266 [o0, o1, o2, o3, o4, o5, some (J x6), some (J x7)] [] S (mI M) Q) (k2 : x7 = x6 → X E d fL_act 262 [o0, o1, o2, o3, o4, o5, some (J x6), some (J x7)] [] S (mI M) Q) : X E d fL_act 255 [o0, o1, o2, o3, o4, o5, some (J x6), some (J x7)] [] S (mI M) Q := by
  refine X_iload 257 (by decide +kernel : decode cL_act 255 = .ok (.iload 7, 2)) rfl rfl rfl ?_
  refine X_iload 259 (by decide +kernel : decode cL_act 257 = .ok (.iload 6, 2)) rfl rfl rfl ?_
  exact X_icmpne 266 262 (by decide +kernel : decode cL_act 259 = .ok (.if_icmp .ne 7, 3)) rfl rfl (by decide) r1 r2 k1 k2
theorem kL_act_262 {o0 : Option Value} {o1 : Option Value} {o2 : Option Value} {o3 : Option Value} {o4 : Option Value} {o5 : Option Value} {o6 : Option Value} {o7 : Option Value} (k : X E d fL_act 267 [o0, o1, o2, o3, o4, o5, o6, o7] [J 1] S (mI M) Q) : X E d fL_act 262 [o0, o1, o2, o3, o4, o5, o6, o7] [] S (mI M) Q := by
  refine X_iconst 263 (by decide +kernel : decode cL_act 262 = .ok (.iconst 1, 1)) rfl rfl ?_
  exact X_goto 267 (by decide +kernel : decode cL_act 263 = .ok (.goto 4, 3)) rfl (by decide) k
theorem kL_act_266 {o0 : Option Value} {o1 : Option Value} {o2 : Option Value} {o3 : Option Value} {o4 : Option Value} {o5 : Option Value} {o6 : Option Value} {o7 : Option Value} (k : X E d fL_act 267 [o0, o1, o2, o3, o4, o5, o6, o7] [J 0] S (mI M) Q) : X E d fL_act 266 [o0, o1, o2, o3, o4, o5, o6, o7] [] S (mI M) Q := by
  refine X_iconst 267 (by decide +kernel : decode cL_act 266 = .ok (.iconst 0, 1)) rfl rfl ?_
  exact k
theorem kL_act_267 {o0 : Option Value} {o1 : Option Value} {o2 : Option Value} {o3 : Option Value} {o4 : Option Value} {o5 : Option Value} {o6 : Option Value} {o7 : Option Value} {t0 : Int} (h1 : narrow .boolean (J t0) = J t0) (q : Q (some (some (J t0))) S (mI M)) : X E d fL_act 267 [o0, o1, o2, o3, o4, o5, o6, o7] [J t0] S (mI M) Q := by
  exact X_iret (by decide +kernel : decode cL_act 267 = .ok (.ireturn, 1)) rfl rfl h1 q
theorem kL_act_281 {o0 : Option Value} {o1 : Option Value} {x2 : Int} {o3 : Option Value} {o4 : Option Value} {o5 : Option Value} {o6 : Option Value} {o7 : Option Value} (hd1 : 1 ≤ d) (k : X E (d - 1) fL_below 0 [some (J ((Int32.ofInt x2 >>> (Int32.ofInt 9 &&& 31)).toInt)), some (J 4)] [] S (mI M) (Kr E d fL_act 293 [o0, o1, some (J x2), o3, o4, o5, o6, o7] [J ((Int32.ofInt x2 >>> (Int32.ofInt 4 &&& 31)).toInt), J 1] Q)) : X E d fL_act 281 [o0, o1, some (J x2), o3, o4, o5, o6, o7] [] S (mI M) Q := by
  refine X_iconst 282 (by decide +kernel : decode cL_act 281 = .ok (.iconst 1, 1)) rfl rfl ?_
  refine X_iload_n 283 (by decide +kernel : decode cL_act 282 = .ok (.iload_n 2, 1)) rfl rfl rfl ?_
  refine X_iconst 284 (by decide +kernel : decode cL_act 283 = .ok (.iconst 4, 1)) rfl rfl ?_
  refine X_ishr 285 (by decide +kernel : decode cL_act 284 = .ok (.ishr, 1)) rfl rfl ?_
  refine X_iload_n 286 (by decide +kernel : decode cL_act 285 = .ok (.iload_n 2, 1)) rfl rfl rfl ?_
  refine X_bipush 288 (9) (by decide +kernel : decode cL_act 286 = .ok (.bipush 9, 2)) rfl rfl (by decide +kernel) ?_
  refine X_ishr 289 (by decide +kernel : decode cL_act 288 = .ok (.ishr, 1)) rfl rfl ?_
  refine X_iconst 290 (by decide +kernel : decode cL_act 289 = .ok (.iconst 4, 1)) rfl rfl ?_
  exact X_cs (as := [J 4, J ((Int32.ofInt x2 >>> (Int32.ofInt 9 &&& 31)).toInt)]) (rest := [J ((Int32.ofInt x2 >>> (Int32.ofInt 4 &&& 31)).toInt), J 1]) (by decide +kernel : decode cL_act 290 = .ok (.invokestatic 107, 3)) rfl rfl rfl rfl rfl rfl rfl (Nat.le_of_ble_eq_true rfl) hd1 k
theorem kL_act_293 {o0 : Option Value} {o1 : Option Value} {o2 : Option Value} {o3 : Option Value} {o4 : Option Value} {o5 : Option Value} {o6 : Option Value} {o7 : Option Value} {t0 : Int} {t1 : Int} {t2 : Int} (r1 : R32 t0) (k1 : t0 ≠ 0 → X E d fL_act 302 [o0, o1, o2, o3, o4, o5, o6, o7] [J t1, J t2] S (mI M) Q) (k2 : t0 = 0 → X E d fL_act 296 [o0, o1, o2, o3, o4, o5, o6, o7] [J t1, J t2] S (mI M) Q) : X E d fL_act 293 [o0, o1, o2, o3, o4, o5, o6, o7] [J t0, J t1, J t2] S (mI M) Q := by
  exact X_ifne 302 296 (by decide +kernel : decode cL_act 293 = .ok (.ifCond .ne 9, 3)) rfl rfl (by decide) r1 k1 k2
theorem kL_act_296 {o0 : Option Value} {o1 : Option Value} {o2 : Option Value} {o3 : Option Value} {o4 : Option Value} {o5 : Option Value} {o6 : Option Value} {o7 : Option Value} {t0 : Int} {t1 : Int} (k : X E d fL_act 305 [o0, o1, o2, o3, o4, o5, o6, o7] [J 9999, J t0, J t1] S (mI M) Q) : X E d fL_act 296 [o0, o1, o2, o3, o4, o5, o6, o7] [J t0, J t1] S (mI M) Q := by
  refine X_sipush 299 (9999) (by decide +kernel : decode cL_act 296 = .ok (.sipush 9999, 3)) rfl rfl (by decide +kernel) ?_
  exact X_goto 305 (by decide +kernel : decode cL_act 299 = .ok (.goto 6, 3)) rfl (by decide) k
theorem kL_act_302 {o0 : Option Value} {o1 : Option Value} {o2 : Option Value} {o3 : Option Value} {o4 : Option Value} {o5 : Option Value} {o6 : Option Value} {o7 : Option Value} {t0 : Int} {t1 : Int} (k : X E d fL_act 305 [o0, o1, o2, o3, o4, o5, o6, o7] [J 300, J t0, J t1] S (mI M) Q) : X E d fL_act 302 [o0, o1, o2, o3, o4, o5, o6, o7] [J t0, J t1] S (mI M) Q := by
  refine X_sipush 305 (300) (by decide +kernel : decode cL_act 302 = .ok (.sipush 300, 3)) rfl rfl (by decide +kernel) ?_
  exact k
theorem kL_act_305 {o0 : Option Value} {o1 : Option Value} {o2 : Option Value} {o3 : Option Value} {o4 : Option Value} {o5 : Option Value} {o6 : Option Value} {o7 : Option Value} {t0 : Int} {t1 : Int} {t2 : Int} (hd1 : 1 ≤ d) (k : X E (d - 1) fL_below 0 [some (J t1), some (J t0)] [] S (mI M) (Kr E d fL_act 308 [o0, o1, o2, o3, o4, o5, o6, o7] [J t2] Q)) : X E d fL_act 305 [o0, o1, o2, o3, o4, o5, o6, o7] [J t0, J t1, J t2] S (mI M) Q := by
  exact X_cs (as := [J t0, J t1]) (rest := [J t2]) (by decide +kernel : decode cL_act 305 = .ok (.invokestatic 107, 3)) rfl rfl rfl rfl rfl rfl rfl (Nat.le_of_ble_eq_true rfl) hd1 k
theorem kL_act_308 {a0 : Nat} {a1 : Nat} {o2 : Option Value} {o3 : Option Value} {o4 : Option Value} {o5 : Option Value} {o6 : Option Value} {o7 : Option Value} {t0 : Int} {t1 : Int} (g1 : aKd S a1 = 10) (r2 : R32 ((M a1 1) + (t1 + t0))) (g3 : aK S a1 = 10) (hd1 : 1 ≤ d) (k : X E (d - 1) fX7_grant 0 [some (.ref a0), some (J (t1 + t0))] [] S (mI (mW M a1 1 (nz (min 99999 ((M a1 1) + (t1 + t0)))))) (Kr E d fL_act 330 [some (.ref a0), some (.ref a1), o2, some (J (t1 + t0)), o4, o5, o6, o7] [] Q)) (g4 : aKd S a0 = 9) : X E d fL_act 308 [some (.ref a0), some (.ref a1), o2, o3, o4, o5, o6, o7] [J t0, J t1] S (mI M) Q := by
  refine X_iadd 309 (by decide +kernel : decode cL_act 308 = .ok (.iadd, 1)) rfl rfl ?_
  refine X_istore_n 310 (by decide +kernel : decode cL_act 309 = .ok (.istore_n 3, 1)) rfl rfl (Nat.le_of_ble_eq_true rfl) rfl ?_
  refine X_aload_n 311 (by decide +kernel : decode cL_act 310 = .ok (.aload_n 1, 1)) rfl rfl rfl ?_
  refine X_ldcI 313 (99999) (by decide +kernel : decode cL_act 311 = .ok (.ldc 204, 2)) rfl rfl rfl rfl ?_
  refine X_aload_n 314 (by decide +kernel : decode cL_act 313 = .ok (.aload_n 1, 1)) rfl rfl rfl ?_
  refine X_getI 317 (by decide +kernel : decode cL_act 314 = .ok (.getfield 194, 3)) rfl rfl (by decide +kernel : aFd 11 194 = some (10, 1, false, false)) g1 ?_
  refine X_iload_n 318 (by decide +kernel : decode cL_act 317 = .ok (.iload_n 3, 1)) rfl rfl rfl ?_
  refine X_iadd 319 (by decide +kernel : decode cL_act 318 = .ok (.iadd, 1)) rfl rfl ?_
  refine X_math (z := 0) 322 (by decide +kernel : decode cL_act 319 = .ok (.invokestatic 205, 3)) rfl rfl rfl rfl (by decide) ⟨by decide, by decide⟩ r2 (Nat.le_of_ble_eq_true rfl) ?_
  refine X_putIz 325 (by decide +kernel : decode cL_act 322 = .ok (.putfield 194, 3)) rfl rfl (by decide +kernel : aFd 11 194 = some (10, 1, false, false)) (Or.inl rfl) g3 rfl rfl ?_
  refine X_aload_n 326 (by decide +kernel : decode cL_act 325 = .ok (.aload_n 0, 1)) rfl rfl rfl ?_
  refine X_iload_n 327 (by decide +kernel : decode cL_act 326 = .ok (.iload_n 3, 1)) rfl rfl rfl ?_
  exact X_cv (as := [J (t1 + t0)]) (rest := []) (by decide +kernel : decode cL_act 327 = .ok (.invokevirtual 210, 3)) (Or.inl ⟨rfl, rfl, rfl⟩) rfl rfl rfl rfl rfl (Nat.le_of_ble_eq_true rfl) (Or.inr (Or.inr (by rw [g4]; rfl))) hd1 k
theorem kL_act_330 {o0 : Option Value} {a1 : Nat} {o2 : Option Value} {o3 : Option Value} {o4 : Option Value} {o5 : Option Value} {o6 : Option Value} {o7 : Option Value} {t0 : Int} (g1 : aKd S a1 = 10) (r2 : R32 t0) (r3 : R32 (M a1 1)) (k1 : t0 ≠ (M a1 1) → X E d fL_act 341 [o0, some (.ref a1), o2, o3, o4, o5, o6, o7] [] S (mI M) Q) (k2 : t0 = (M a1 1) → X E d fL_act 337 [o0, some (.ref a1), o2, o3, o4, o5, o6, o7] [] S (mI M) Q) : X E d fL_act 330 [o0, some (.ref a1), o2, o3, o4, o5, o6, o7] [J t0] S (mI M) Q := by
  refine X_aload_n 331 (by decide +kernel : decode cL_act 330 = .ok (.aload_n 1, 1)) rfl rfl rfl ?_
  refine X_getI 334 (by decide +kernel : decode cL_act 331 = .ok (.getfield 194, 3)) rfl rfl (by decide +kernel : aFd 11 194 = some (10, 1, false, false)) g1 ?_
  exact X_icmpne 341 337 (by decide +kernel : decode cL_act 334 = .ok (.if_icmp .ne 7, 3)) rfl rfl (by decide) r2 r3 k1 k2
theorem kL_act_337 {o0 : Option Value} {o1 : Option Value} {o2 : Option Value} {o3 : Option Value} {o4 : Option Value} {o5 : Option Value} {o6 : Option Value} {o7 : Option Value} (k : X E d fL_act 342 [o0, o1, o2, o3, o4, o5, o6, o7] [J 1] S (mI M) Q) : X E d fL_act 337 [o0, o1, o2, o3, o4, o5, o6, o7] [] S (mI M) Q := by
  refine X_iconst 338 (by decide +kernel : decode cL_act 337 = .ok (.iconst 1, 1)) rfl rfl ?_
  exact X_goto 342 (by decide +kernel : decode cL_act 338 = .ok (.goto 4, 3)) rfl (by decide) k
theorem kL_act_341 {o0 : Option Value} {o1 : Option Value} {o2 : Option Value} {o3 : Option Value} {o4 : Option Value} {o5 : Option Value} {o6 : Option Value} {o7 : Option Value} (k : X E d fL_act 342 [o0, o1, o2, o3, o4, o5, o6, o7] [J 0] S (mI M) Q) : X E d fL_act 341 [o0, o1, o2, o3, o4, o5, o6, o7] [] S (mI M) Q := by
  refine X_iconst 342 (by decide +kernel : decode cL_act 341 = .ok (.iconst 0, 1)) rfl rfl ?_
  exact k
theorem kL_act_342 {o0 : Option Value} {o1 : Option Value} {o2 : Option Value} {o3 : Option Value} {o4 : Option Value} {o5 : Option Value} {o6 : Option Value} {o7 : Option Value} {t0 : Int} (h1 : narrow .boolean (J t0) = J t0) (q : Q (some (some (J t0))) S (mI M)) : X E d fL_act 342 [o0, o1, o2, o3, o4, o5, o6, o7] [J t0] S (mI M) Q := by
  exact X_iret (by decide +kernel : decode cL_act 342 = .ok (.ireturn, 1)) rfl rfl h1 q
theorem kL_act_343 {a0 : Nat} {a1 : Nat} {x2 : Int} {o3 : Option Value} {o4 : Option Value} {o5 : Option Value} {o6 : Option Value} {o7 : Option Value} (hd1 : 1 ≤ d) (k : X E (d - 1) fL_below 0 [some (J ((Int32.ofInt x2 >>> (Int32.ofInt 8 &&& 31)).toInt)), some (J 4)] [] S (mI M) (Kr E d fL_act 357 [some (.ref a0), some (.ref a1), some (J x2), o3, o4, o5, o6, o7] [J ((Int32.ofInt x2 >>> (Int32.ofInt 4 &&& 31)).toInt), J 1, .ref a1, .ref a0] Q)) : X E d fL_act 343 [some (.ref a0), some (.ref a1), some (J x2), o3, o4, o5, o6, o7] [] S (mI M) Q := by
  refine X_aload_n 344 (by decide +kernel : decode cL_act 343 = .ok (.aload_n 0, 1)) rfl rfl rfl ?_
  refine X_aload_n 345 (by decide +kernel : decode cL_act 344 = .ok (.aload_n 1, 1)) rfl rfl rfl ?_
  refine X_iconst 346 (by decide +kernel : decode cL_act 345 = .ok (.iconst 1, 1)) rfl rfl ?_
  refine X_iload_n 347 (by decide +kernel : decode cL_act 346 = .ok (.iload_n 2, 1)) rfl rfl rfl ?_
  refine X_iconst 348 (by decide +kernel : decode cL_act 347 = .ok (.iconst 4, 1)) rfl rfl ?_
  refine X_ishr 349 (by decide +kernel : decode cL_act 348 = .ok (.ishr, 1)) rfl rfl ?_
  refine X_iload_n 350 (by decide +kernel : decode cL_act 349 = .ok (.iload_n 2, 1)) rfl rfl rfl ?_
  refine X_bipush 352 (8) (by decide +kernel : decode cL_act 350 = .ok (.bipush 8, 2)) rfl rfl (by decide +kernel) ?_
  refine X_ishr 353 (by decide +kernel : decode cL_act 352 = .ok (.ishr, 1)) rfl rfl ?_
  refine X_iconst 354 (by decide +kernel : decode cL_act 353 = .ok (.iconst 4, 1)) rfl rfl ?_
  exact X_cs (as := [J 4, J ((Int32.ofInt x2 >>> (Int32.ofInt 8 &&& 31)).toInt)]) (rest := [J ((Int32.ofInt x2 >>> (Int32.ofInt 4 &&& 31)).toInt), J 1, .ref a1, .ref a0]) (by decide +kernel : decode cL_act 354 = .ok (.invokestatic 107, 3)) rfl rfl rfl rfl rfl rfl rfl (Nat.le_of_ble_eq_true rfl) hd1 k
theorem kL_act_357 {o0 : Option Value} {o1 : Option Value} {o2 : Option Value} {o3 : Option Value} {o4 : Option Value} {o5 : Option Value} {o6 : Option Value} {o7 : Option Value} {t0 : Int} {t1 : Int} {t2 : Int} {u3 : Nat} {u4 : Nat} (r1 : R32 t0) (k1 : t0 ≠ 0 → X E d fL_act 365 [o0, o1, o2, o3, o4, o5, o6, o7] [J t1, J t2, .ref u3, .ref u4] S (mI M) Q) (k2 : t0 = 0 → X E d fL_act 360 [o0, o1, o2, o3, o4, o5, o6, o7] [J t1, J t2, .ref u3, .ref u4] S (mI M) Q) : X E d fL_act 357 [o0, o1, o2, o3, o4, o5, o6, o7] [J t0, J t1, J t2, .ref u3, .ref u4] S (mI M) Q := by
  exact X_ifne 365 360 (by decide +kernel : decode cL_act 357 = .ok (.ifCond .ne 8, 3)) rfl rfl (by decide) r1 k1 k2
theorem kL_act_360 {o0 : Option Value} {o1 : Option Value} {o2 : Option Value} {o3 : Option Value} {o4 : Option Value} {o5 : Option Value} {o6 : Option Value} {o7 : Option Value} {t0 : Int} {t1 : Int} {u2 : Nat} {u3 : Nat} (k : X E d fL_act 366 [o0, o1, o2, o3, o4, o5, o6, o7] [J 30, J t0, J t1, .ref u2, .ref u3] S (mI M) Q) : X E d fL_act 360 [o0, o1, o2, o3, o4, o5, o6, o7] [J t0, J t1, .ref u2, .ref u3] S (mI M) Q := by
  refine X_bipush 362 (30) (by decide +kernel : decode cL_act 360 = .ok (.bipush 30, 2)) rfl rfl (by decide +kernel) ?_
  exact X_goto 366 (by decide +kernel : decode cL_act 362 = .ok (.goto 4, 3)) rfl (by decide) k
theorem kL_act_365 {o0 : Option Value} {o1 : Option Value} {o2 : Option Value} {o3 : Option Value} {o4 : Option Value} {o5 : Option Value} {o6 : Option Value} {o7 : Option Value} {t0 : Int} {t1 : Int} {u2 : Nat} {u3 : Nat} (k : X E d fL_act 366 [o0, o1, o2, o3, o4, o5, o6, o7] [J 5, J t0, J t1, .ref u2, .ref u3] S (mI M) Q) : X E d fL_act 365 [o0, o1, o2, o3, o4, o5, o6, o7] [J t0, J t1, .ref u2, .ref u3] S (mI M) Q := by
  refine X_iconst 366 (by decide +kernel : decode cL_act 365 = .ok (.iconst 5, 1)) rfl rfl ?_
  exact k
theorem kL_act_366 {o0 : Option Value} {o1 : Option Value} {o2 : Option Value} {o3 : Option Value} {o4 : Option Value} {o5 : Option Value} {o6 : Option Value} {o7 : Option Value} {t0 : Int} {t1 : Int} {t2 : Int} {u3 : Nat} {u4 : Nat} (hd1 : 1 ≤ d) (k : X E (d - 1) fL_below 0 [some (J t1), some (J t0)] [] S (mI M) (Kr E d fL_act 369 [o0, o1, o2, o3, o4, o5, o6, o7] [J t2, .ref u3, .ref u4] Q)) : X E d fL_act 366 [o0, o1, o2, o3, o4, o5, o6, o7] [J t0, J t1, J t2, .ref u3, .ref u4] S (mI M) Q := by
  exact X_cs (as := [J t0, J t1]) (rest := [J t2, .ref u3, .ref u4]) (by decide +kernel : decode cL_act 366 = .ok (.invokestatic 107, 3)) rfl rfl rfl rfl rfl rfl rfl (Nat.le_of_ble_eq_true rfl) hd1 k
theorem kL_act_369 {o0 : Option Value} {o1 : Option Value} {o2 : Option Value} {o3 : Option Value} {o4 : Option Value} {o5 : Option Value} {o6 : Option Value} {o7 : Option Value} {t0 : Int} {t1 : Int} {u2 : Nat} {u3 : Nat} (hd1 : 1 ≤ d) (k : X E (d - 1) fL_passed 0 [some (.ref u3), some (.ref u2), some (J (t1 + t0)), none] [] S (mI M) (Kr E d fL_act 373 [o0, o1, o2, o3, o4, o5, o6, o7] [] Q)) : X E d fL_act 369 [o0, o1, o2, o3, o4, o5, o6, o7] [J t0, J t1, .ref u2, .ref u3] S (mI M) Q := by
  refine X_iadd 370 (by decide +kernel : decode cL_act 369 = .ok (.iadd, 1)) rfl rfl ?_
  exact X_cs (as := [J (t1 + t0), .ref u2, .ref u3]) (rest := []) (by decide +kernel : decode cL_act 370 = .ok (.invokestatic 213, 3)) rfl rfl rfl rfl rfl rfl rfl (Nat.le_of_ble_eq_true rfl) hd1 k
theorem kL_act_373 {o0 : Option Value} {o1 : Option Value} {o2 : Option Value} {o3 : Option Value} {o4 : Option Value} {o5 : Option Value} {o6 : Option Value} {o7 : Option Value} {t0 : Int} (h1 : narrow .boolean (J t0) = J t0) (q : Q (some (some (J t0))) S (mI M)) : X E d fL_act 373 [o0, o1, o2, o3, o4, o5, o6, o7] [J t0] S (mI M) Q := by
  exact X_iret (by decide +kernel : decode cL_act 373 = .ok (.ireturn, 1)) rfl rfl h1 q
end
