/-! straight pieces of methods, by program (wip/p26/blk.py): X5_init X0_init X5_cut X5_behindBlanks X5_lengthAt X5_byteAt X5_isLetter X5_isLetterOrDigit X5_isDigit X5_isSymbol X5_kindAt X5_wordKind X5_isKeyword X5_numberAt X0_read X5_kindOf X0_readLine X0_needAll X0_need X0_readOrder X0_sum X0_product X0_value X0_named X0_inBrackets X0_needDeeper X0_ofTwo X0_accept X0_test X0_both X0_single X5_placeOf -/
section
variable {E : Nat → Value} {d : Nat} {S : aS} {M : Nat → Nat → Int} {Q : Option (Option Value) → aS → aI → Prop}
theorem kX5_init_0 {a0 : Nat} {S_2 : aS} {M_3 : Nat → Nat → Int} {S_5 : aS} {S_7 : aS} {M_8 : Nat → Nat → Int} {S_10 : aS} (g1 : aK (aNew S 100 401 401) a0 = 7) (eS_2 : aNew (aPut (aNew S 100 401 401) a0 0 (some (aX S))) 100 401 401 = S_2) (eM_3 : aU (aU M (aX S) (fun _ => 0)) (aX (aPut (aNew S 100 401 401) a0 0 (some (aX S)))) (fun _ => 0) = M_3) (g4 : aK S_2 a0 = 7) (eS_5 : aPut S_2 a0 1 (some (aX (aPut (aNew S 100 401 401) a0 0 (some (aX S))))) = S_5) (g6 : aK (aNew S_5 100 401 401) a0 = 7) (eS_7 : aNew (aPut (aNew S_5 100 401 401) a0 2 (some (aX S_5))) 100 401 401 = S_7) (eM_8 : aU (aU M_3 (aX S_5) (fun _ => 0)) (aX (aPut (aNew S_5 100 401 401) a0 2 (some (aX S_5)))) (fun _ => 0) = M_8) (g9 : aK S_7 a0 = 7) (eS_10 : aPut S_7 a0 3 (some (aX (aPut (aNew S_5 100 401 401) a0 2 (some (aX S_5))))) = S_10) (q : Q (some none) S_10 (mI M_8)) : X E d fX5_init 0 [some (.ref a0)] [] S (mI M) Q := by
  refine X_aload_n 1 (by decide +kernel : decode cX5_init 0 = .ok (.aload_n 0, 1)) rfl rfl rfl ?_
  refine X_obj 4 (by decide +kernel : decode cX5_init 1 = .ok (.invokespecial 3, 3)) rfl rfl rfl (Nat.le_of_ble_eq_true rfl) ?_
  refine X_aload_n 5 (by decide +kernel : decode cX5_init 4 = .ok (.aload_n 0, 1)) rfl rfl rfl ?_
  refine X_sipush 8 (401) (by decide +kernel : decode cX5_init 5 = .ok (.sipush 401, 3)) rfl rfl (by decide +kernel) ?_
  refine X_newI 10 (by decide +kernel : decode cX5_init 8 = .ok (.newarray .int, 2)) rfl rfl ⟨by decide, by decide⟩ ?_
  refine X_putR 13 (by decide +kernel : decode cX5_init 10 = .ok (.putfield 9, 3)) rfl rfl (by decide +kernel : aFd 7 9 = some (7, 0, true, true)) (Or.inr ⟨rfl, rfl⟩) g1 rfl ?_
  refine X_aload_n 14 (by decide +kernel : decode cX5_init 13 = .ok (.aload_n 0, 1)) rfl rfl rfl ?_
  refine X_sipush 17 (401) (by decide +kernel : decode cX5_init 14 = .ok (.sipush 401, 3)) rfl rfl (by decide +kernel) ?_
  refine X_newI 19 (by decide +kernel : decode cX5_init 17 = .ok (.newarray .int, 2)) rfl rfl ⟨by decide, by decide⟩ ?_
  show X E d fX5_init 19 [some (.ref a0)] [.ref (aX (aPut (aNew S 100 401 401) a0 0 (some (aX S)))), .ref a0] (aNew (aPut (aNew S 100 401 401) a0 0 (some (aX S))) 100 401 401) (mI (aU (aU M (aX S) (fun _ => 0)) (aX (aPut (aNew S 100 401 401) a0 0 (some (aX S)))) (fun _ => 0))) Q
  rw [eS_2]
  show X E d fX5_init 19 [some (.ref a0)] [.ref (aX (aPut (aNew S 100 401 401) a0 0 (some (aX S)))), .ref a0] S_2 (mI (aU (aU M (aX S) (fun _ => 0)) (aX (aPut (aNew S 100 401 401) a0 0 (some (aX S)))) (fun _ => 0))) Q
  rw [eM_3]
  refine X_putR 22 (by decide +kernel : decode cX5_init 19 = .ok (.putfield 15, 3)) rfl rfl (by decide +kernel : aFd 7 15 = some (7, 1, true, true)) (Or.inr ⟨rfl, rfl⟩) g4 rfl ?_
  show X E d fX5_init 22 [some (.ref a0)] [] (aPut S_2 a0 1 (some (aX (aPut (aNew S 100 401 401) a0 0 (some (aX S)))))) (mI M_3) Q
  rw [eS_5]
  refine X_aload_n 23 (by decide +kernel : decode cX5_init 22 = .ok (.aload_n 0, 1)) rfl rfl rfl ?_
  refine X_sipush 26 (401) (by decide +kernel : decode cX5_init 23 = .ok (.sipush 401, 3)) rfl rfl (by decide +kernel) ?_
  refine X_newI 28 (by decide +kernel : decode cX5_init 26 = .ok (.newarray .int, 2)) rfl rfl ⟨by decide, by decide⟩ ?_
  refine X_putR 31 (by decide +kernel : decode cX5_init 28 = .ok (.putfield 18, 3)) rfl rfl (by decide +kernel : aFd 7 18 = some (7, 2, true, true)) (Or.inr ⟨rfl, rfl⟩) g6 rfl ?_
  refine X_aload_n 32 (by decide +kernel : decode cX5_init 31 = .ok (.aload_n 0, 1)) rfl rfl rfl ?_
  refine X_sipush 35 (401) (by decide +kernel : decode cX5_init 32 = .ok (.sipush 401, 3)) rfl rfl (by decide +kernel) ?_
  refine X_newI 37 (by decide +kernel : decode cX5_init 35 = .ok (.newarray .int, 2)) rfl rfl ⟨by decide, by decide⟩ ?_
  show X E d fX5_init 37 [some (.ref a0)] [.ref (aX (aPut (aNew S_5 100 401 401) a0 2 (some (aX S_5)))), .ref a0] (aNew (aPut (aNew S_5 100 401 401) a0 2 (some (aX S_5))) 100 401 401) (mI (aU (aU M_3 (aX S_5) (fun _ => 0)) (aX (aPut (aNew S_5 100 401 401) a0 2 (some (aX S_5)))) (fun _ => 0))) Q
  rw [eS_7]
  show X E d fX5_init 37 [some (.ref a0)] [.ref (aX (aPut (aNew S_5 100 401 401) a0 2 (some (aX S_5)))), .ref a0] S_7 (mI (aU (aU M_3 (aX S_5) (fun _ => 0)) (aX (aPut (aNew S_5 100 401 401) a0 2 (some (aX S_5)))) (fun _ => 0))) Q
  rw [eM_8]
  refine X_putR 40 (by decide +kernel : decode cX5_init 37 = .ok (.putfield 21, 3)) rfl rfl (by decide +kernel : aFd 7 21 = some (7, 3, true, true)) (Or.inr ⟨rfl, rfl⟩) g9 rfl ?_
  show X E d fX5_init 40 [some (.ref a0)] [] (aPut S_7 a0 3 (some (aX (aPut (aNew S_5 100 401 401) a0 2 (some (aX S_5)))))) (mI M_8) Q
  rw [eS_10]
  exact X_vret (by decide +kernel : decode cX5_init 40 = .ok (.return_, 1)) rfl rfl q
theorem kX0_init_0 {a0 : Nat} {a1 : Nat} (g1 : aK S a0 = 2) (q : Q (some none) (aPut S a0 0 (some a1)) (mI M)) : X E d fX0_init 0 [some (.ref a0), some (.ref a1)] [] S (mI M) Q := by
  refine X_aload_n 1 (by decide +kernel : decode cX0_init 0 = .ok (.aload_n 0, 1)) rfl rfl rfl ?_
  refine X_obj 4 (by decide +kernel : decode cX0_init 1 = .ok (.invokespecial 3, 3)) rfl rfl rfl (Nat.le_of_ble_eq_true rfl) ?_
  refine X_aload_n 5 (by decide +kernel : decode cX0_init 4 = .ok (.aload_n 0, 1)) rfl rfl rfl ?_
  refine X_aload_n 6 (by decide +kernel : decode cX0_init 5 = .ok (.aload_n 1, 1)) rfl rfl rfl ?_
  refine X_putR 9 (by decide +kernel : decode cX0_init 6 = .ok (.putfield 9, 3)) rfl rfl (by decide +kernel : aFd 2 9 = some (2, 0, true, true)) (Or.inr ⟨rfl, rfl⟩) g1 rfl ?_
  exact X_vret (by decide +kernel : decode cX0_init 9 = .ok (.return_, 1)) rfl rfl q
theorem kX5_cut_0 {a0 : Nat} {o1 : Option Value} {o2 : Option Value} {o3 : Option Value} {o4 : Option Value} (g1 : aK S a0 = 7) (k : X E d fX5_cut 10 [some (.ref a0), o1, o2, some (J 0), some (J 0)] [] S (mI (mW M a0 4 0)) Q) : X E d fX5_cut 0 [some (.ref a0), o1, o2, o3, o4] [] S (mI M) Q := by
  refine X_iconst 1 (by decide +kernel : decode cX5_cut 0 = .ok (.iconst 0, 1)) rfl rfl ?_
  refine X_istore_n 2 (by decide +kernel : decode cX5_cut 1 = .ok (.istore_n 3, 1)) rfl rfl (Nat.le_of_ble_eq_true rfl) rfl ?_
  refine X_aload_n 3 (by decide +kernel : decode cX5_cut 2 = .ok (.aload_n 0, 1)) rfl rfl rfl ?_
  refine X_iconst 4 (by decide +kernel : decode cX5_cut 3 = .ok (.iconst 0, 1)) rfl rfl ?_
  refine X_putI 7 (by decide +kernel : decode cX5_cut 4 = .ok (.putfield 24, 3)) rfl rfl (by decide +kernel : aFd 7 24 = some (7, 4, false, false)) (Or.inl rfl) g1 rfl rfl ?_
  refine X_iconst 8 (by decide +kernel : decode cX5_cut 7 = .ok (.iconst 0, 1)) rfl rfl ?_
  refine X_istore 10 (by decide +kernel : decode cX5_cut 8 = .ok (.istore 4, 2)) rfl rfl (Nat.le_of_ble_eq_true rfl) rfl ?_
  exact k
theorem kX5_cut_10 {o0 : Option Value} {o1 : Option Value} {o2 : Option Value} {o3 : Option Value} {x4 : Int} (r1 : R32 x4) (k1 : 400 < x4 → X E d fX5_cut 179 [o0, o1, o2, o3, some (J x4)] [] S (mI M) Q) (k2 : x4 ≤ 400 → X E d fX5_cut 18 [o0, o1, o2, o3, some (J x4)] [] S (mI M) Q) : X E d fX5_cut 10 [o0, o1, o2, o3, some (J x4)] [] S (mI M) Q := by
  refine X_iload 12 (by decide +kernel : decode cX5_cut 10 = .ok (.iload 4, 2)) rfl rfl rfl ?_
  refine X_sipush 15 (400) (by decide +kernel : decode cX5_cut 12 = .ok (.sipush 400, 3)) rfl rfl (by decide +kernel) ?_
  exact X_icmpgt 179 18 (by decide +kernel : decode cX5_cut 15 = .ok (.if_icmp .gt 164, 3)) rfl rfl (by decide) r1 ⟨by decide, by decide⟩ k1 k2
theorem kX5_cut_18 {o0 : Option Value} {a1 : Nat} {x2 : Int} {x3 : Int} {o4 : Option Value} (hd1 : 1 ≤ d) (k : X E (d - 1) fX5_behindBlanks 0 [some (.ref a1), some (J x3), some (J x2), none] [] S (mI M) (Kr E d fX5_cut 24 [o0, some (.ref a1), some (J x2), some (J x3), o4] [] Q)) : X E d fX5_cut 18 [o0, some (.ref a1), some (J x2), some (J x3), o4] [] S (mI M) Q := by
  refine X_aload_n 19 (by decide +kernel : decode cX5_cut 18 = .ok (.aload_n 1, 1)) rfl rfl rfl ?_
  refine X_iload_n 20 (by decide +kernel : decode cX5_cut 19 = .ok (.iload_n 3, 1)) rfl rfl rfl ?_
  refine X_iload_n 21 (by decide +kernel : decode cX5_cut 20 = .ok (.iload_n 2, 1)) rfl rfl rfl ?_
  exact X_cs (as := [J x2, J x3, .ref a1]) (rest := []) (by decide +kernel : decode cX5_cut 21 = .ok (.invokestatic 28, 3)) rfl rfl rfl rfl rfl rfl rfl (Nat.le_of_ble_eq_true rfl) hd1 k
theorem kX5_cut_24 {a0 : Nat} {a1 : Nat} {x2 : Int} {o3 : Option Value} {x4 : Int} {t0 : Int} {b2 : Nat} {b8 : Nat} (g1 : aKd S a0 = 7) (p3 : aP S a0 1 = some b2) (g4 : aK S b2 = 100) (r5 : R32 x4) (h6 : (0 : Int) ≤ x4 ∧ x4 < (aN S b2 : Int)) (p9 : aP S a0 2 = some b8) (hd1 : 1 ≤ d) (k : X E (d - 1) fX5_lengthAt 0 [some (.ref a1), some (J t0), some (J x2), none, none, none] [] S (mI (mW M b2 x4.toNat t0)) (Kr E d fX5_cut 45 [some (.ref a0), some (.ref a1), some (J x2), some (J t0), some (J x4)] [J x4, .ref b8] Q)) : X E d fX5_cut 24 [some (.ref a0), some (.ref a1), some (J x2), o3, some (J x4)] [J t0] S (mI M) Q := by
  refine X_istore_n 25 (by decide +kernel : decode cX5_cut 24 = .ok (.istore_n 3, 1)) rfl rfl (Nat.le_of_ble_eq_true rfl) rfl ?_
  refine X_aload_n 26 (by decide +kernel : decode cX5_cut 25 = .ok (.aload_n 0, 1)) rfl rfl rfl ?_
  refine X_getR 29 (by decide +kernel : decode cX5_cut 26 = .ok (.getfield 15, 3)) rfl rfl (by decide +kernel : aFd 7 15 = some (7, 1, true, true)) g1 p3 ?_
  refine X_iload 31 (by decide +kernel : decode cX5_cut 29 = .ok (.iload 4, 2)) rfl rfl rfl ?_
  refine X_iload_n 32 (by decide +kernel : decode cX5_cut 31 = .ok (.iload_n 3, 1)) rfl rfl rfl ?_
  refine X_iast 33 (by decide +kernel : decode cX5_cut 32 = .ok (.iastore, 1)) rfl rfl g4 r5 h6 ?_
  refine X_aload_n 34 (by decide +kernel : decode cX5_cut 33 = .ok (.aload_n 0, 1)) rfl rfl rfl ?_
  refine X_getR 37 (by decide +kernel : decode cX5_cut 34 = .ok (.getfield 18, 3)) rfl rfl (by decide +kernel : aFd 7 18 = some (7, 2, true, true)) g1 p9 ?_
  refine X_iload 39 (by decide +kernel : decode cX5_cut 37 = .ok (.iload 4, 2)) rfl rfl rfl ?_
  refine X_aload_n 40 (by decide +kernel : decode cX5_cut 39 = .ok (.aload_n 1, 1)) rfl rfl rfl ?_
  refine X_iload_n 41 (by decide +kernel : decode cX5_cut 40 = .ok (.iload_n 3, 1)) rfl rfl rfl ?_
  refine X_iload_n 42 (by decide +kernel : decode cX5_cut 41 = .ok (.iload_n 2, 1)) rfl rfl rfl ?_
  exact X_cs (as := [J x2, J t0, .ref a1]) (rest := [J x4, .ref b8]) (by decide +kernel : decode cX5_cut 42 = .ok (.invokestatic 32, 3)) rfl rfl rfl rfl rfl rfl rfl (Nat.le_of_ble_eq_true rfl) hd1 k
theorem kX5_cut_45 {a0 : Nat} {a1 : Nat} {x2 : Int} {x3 : Int} {x4 : Int} {t0 : Int} {t1 : Int} {u2 : Nat} {b5 : Nat} {b8 : Nat} (g1 : aK S u2 = 100) (r2 : R32 t1) (h3 : (0 : Int) ≤ t1 ∧ t1 < (aN S u2 : Int)) (g4 : aKd S a0 = 7) (p6 : aP S a0 0 = some b5) (p9 : aP S a0 2 = some b8) (g10 : aKd S b8 = 100) (r11 : R32 x4) (h12 : (0 : Int) ≤ x4 ∧ x4 < (aN S b8 : Int)) (hd1 : 1 ≤ d) (k : X E (d - 1) fX5_kindAt 0 [some (.ref a1), some (J x3), some (J x2), some (J ((mW M u2 t1.toNat t0) b8 x4.toNat)), none] [] S (mI (mW M u2 t1.toNat t0)) (Kr E d fX5_cut 65 [some (.ref a0), some (.ref a1), some (J x2), some (J x3), some (J x4)] [J x4, .ref b5] Q)) : X E d fX5_cut 45 [some (.ref a0), some (.ref a1), some (J x2), some (J x3), some (J x4)] [J t0, J t1, .ref u2] S (mI M) Q := by
  refine X_iast 46 (by decide +kernel : decode cX5_cut 45 = .ok (.iastore, 1)) rfl rfl g1 r2 h3 ?_
  refine X_aload_n 47 (by decide +kernel : decode cX5_cut 46 = .ok (.aload_n 0, 1)) rfl rfl rfl ?_
  refine X_getR 50 (by decide +kernel : decode cX5_cut 47 = .ok (.getfield 9, 3)) rfl rfl (by decide +kernel : aFd 7 9 = some (7, 0, true, true)) g4 p6 ?_
  refine X_iload 52 (by decide +kernel : decode cX5_cut 50 = .ok (.iload 4, 2)) rfl rfl rfl ?_
  refine X_aload_n 53 (by decide +kernel : decode cX5_cut 52 = .ok (.aload_n 1, 1)) rfl rfl rfl ?_
  refine X_iload_n 54 (by decide +kernel : decode cX5_cut 53 = .ok (.iload_n 3, 1)) rfl rfl rfl ?_
  refine X_iload_n 55 (by decide +kernel : decode cX5_cut 54 = .ok (.iload_n 2, 1)) rfl rfl rfl ?_
  refine X_aload_n 56 (by decide +kernel : decode cX5_cut 55 = .ok (.aload_n 0, 1)) rfl rfl rfl ?_
  refine X_getR 59 (by decide +kernel : decode cX5_cut 56 = .ok (.getfield 18, 3)) rfl rfl (by decide +kernel : aFd 7 18 = some (7, 2, true, true)) g4 p9 ?_
  refine X_iload 61 (by decide +kernel : decode cX5_cut 59 = .ok (.iload 4, 2)) rfl rfl rfl ?_
  refine X_iald 62 (by decide +kernel : decode cX5_cut 61 = .ok (.iaload, 1)) rfl rfl g10 r11 h12 ?_
  exact X_cs (as := [J ((mW M u2 t1.toNat t0) b8 x4.toNat), J x2, J x3, .ref a1]) (rest := [J x4, .ref b5]) (by decide +kernel : decode cX5_cut 62 = .ok (.invokestatic 35, 3)) rfl rfl rfl rfl rfl rfl rfl (Nat.le_of_ble_eq_true rfl) hd1 k
theorem kX5_cut_65 {o0 : Option Value} {o1 : Option Value} {o2 : Option Value} {o3 : Option Value} {x4 : Int} {t0 : Int} {t1 : Int} {u2 : Nat} (g1 : aK S u2 = 100) (r2 : R32 t1) (h3 : (0 : Int) ≤ t1 ∧ t1 < (aN S u2 : Int)) (r4 : R32 x4) (k1 : x4 ≠ 400 → X E d fX5_cut 95 [o0, o1, o2, o3, some (J x4)] [] S (mI (mW M u2 t1.toNat t0)) Q) (k2 : x4 = 400 → X E d fX5_cut 74 [o0, o1, o2, o3, some (J x4)] [] S (mI (mW M u2 t1.toNat t0)) Q) : X E d fX5_cut 65 [o0, o1, o2, o3, some (J x4)] [J t0, J t1, .ref u2] S (mI M) Q := by
  refine X_iast 66 (by decide +kernel : decode cX5_cut 65 = .ok (.iastore, 1)) rfl rfl g1 r2 h3 ?_
  refine X_iload 68 (by decide +kernel : decode cX5_cut 66 = .ok (.iload 4, 2)) rfl rfl rfl ?_
  refine X_sipush 71 (400) (by decide +kernel : decode cX5_cut 68 = .ok (.sipush 400, 3)) rfl rfl (by decide +kernel) ?_
  exact X_icmpne 95 74 (by decide +kernel : decode cX5_cut 71 = .ok (.if_icmp .ne 24, 3)) rfl rfl (by decide) r4 ⟨by decide, by decide⟩ k1 k2
theorem kX5_cut_74 {a0 : Nat} {o1 : Option Value} {o2 : Option Value} {o3 : Option Value} {x4 : Int} {b2 : Nat} (g1 : aKd S a0 = 7) (p3 : aP S a0 0 = some b2) (g4 : aKd S b2 = 100) (r5 : R32 x4) (h6 : (0 : Int) ≤ x4 ∧ x4 < (aN S b2 : Int)) (r7 : R32 (M b2 x4.toNat)) (k1 : (M b2 x4.toNat) = 49 → X E d fX5_cut 95 [some (.ref a0), o1, o2, o3, some (J x4)] [] S (mI M) Q) (k2 : (M b2 x4.toNat) ≠ 49 → X E d fX5_cut 86 [some (.ref a0), o1, o2, o3, some (J x4)] [] S (mI M) Q) : X E d fX5_cut 74 [some (.ref a0), o1, o2, o3, some (J x4)] [] S (mI M) Q := by
  refine X_aload_n 75 (by decide +kernel : decode cX5_cut 74 = .ok (.aload_n 0, 1)) rfl rfl rfl ?_
  refine X_getR 78 (by decide +kernel : decode cX5_cut 75 = .ok (.getfield 9, 3)) rfl rfl (by decide +kernel : aFd 7 9 = some (7, 0, true, true)) g1 p3 ?_
  refine X_iload 80 (by decide +kernel : decode cX5_cut 78 = .ok (.iload 4, 2)) rfl rfl rfl ?_
  refine X_iald 81 (by decide +kernel : decode cX5_cut 80 = .ok (.iaload, 1)) rfl rfl g4 r5 h6 ?_
  refine X_bipush 83 (49) (by decide +kernel : decode cX5_cut 81 = .ok (.bipush 49, 2)) rfl rfl (by decide +kernel) ?_
  exact X_icmpeq 95 86 (by decide +kernel : decode cX5_cut 83 = .ok (.if_icmp .eq 12, 3)) rfl rfl (by decide) r7 ⟨by decide, by decide⟩ k1 k2
theorem kX5_cut_86 {a0 : Nat} {o1 : Option Value} {o2 : Option Value} {o3 : Option Value} {x4 : Int} {b2 : Nat} (g1 : aKd S a0 = 7) (p3 : aP S a0 0 = some b2) (g4 : aK S b2 = 100) (r5 : R32 x4) (h6 : (0 : Int) ≤ x4 ∧ x4 < (aN S b2 : Int)) (k : X E d fX5_cut 95 [some (.ref a0), o1, o2, o3, some (J x4)] [] S (mI (mW M b2 x4.toNat 50)) Q) : X E d fX5_cut 86 [some (.ref a0), o1, o2, o3, some (J x4)] [] S (mI M) Q := by
  refine X_aload_n 87 (by decide +kernel : decode cX5_cut 86 = .ok (.aload_n 0, 1)) rfl rfl rfl ?_
  refine X_getR 90 (by decide +kernel : decode cX5_cut 87 = .ok (.getfield 9, 3)) rfl rfl (by decide +kernel : aFd 7 9 = some (7, 0, true, true)) g1 p3 ?_
  refine X_iload 92 (by decide +kernel : decode cX5_cut 90 = .ok (.iload 4, 2)) rfl rfl rfl ?_
  refine X_bipush 94 (50) (by decide +kernel : decode cX5_cut 92 = .ok (.bipush 50, 2)) rfl rfl (by decide +kernel) ?_
  refine X_iast 95 (by decide +kernel : decode cX5_cut 94 = .ok (.iastore, 1)) rfl rfl g4 r5 h6 ?_
  exact k
theorem kX5_cut_95 {a0 : Nat} {o1 : Option Value} {o2 : Option Value} {o3 : Option Value} {x4 : Int} {b2 : Nat} {b5 : Nat} (g1 : aKd S a0 = 7) (p3 : aP S a0 3 = some b2) (p6 : aP S a0 0 = some b5) (g7 : aKd S b5 = 100) (r8 : R32 x4) (h9 : (0 : Int) ≤ x4 ∧ x4 < (aN S b5 : Int)) (r10 : R32 (M b5 x4.toNat)) (k1 : (M b5 x4.toNat) ≠ 48 → X E d fX5_cut 128 [some (.ref a0), o1, o2, o3, some (J x4)] [J x4, .ref b2] S (mI M) Q) (k2 : (M b5 x4.toNat) = 48 → X E d fX5_cut 113 [some (.ref a0), o1, o2, o3, some (J x4)] [J x4, .ref b2] S (mI M) Q) : X E d fX5_cut 95 [some (.ref a0), o1, o2, o3, some (J x4)] [] S (mI M) Q := by
  refine X_aload_n 96 (by decide +kernel : decode cX5_cut 95 = .ok (.aload_n 0, 1)) rfl rfl rfl ?_
  refine X_getR 99 (by decide +kernel : decode cX5_cut 96 = .ok (.getfield 21, 3)) rfl rfl (by decide +kernel : aFd 7 21 = some (7, 3, true, true)) g1 p3 ?_
  refine X_iload 101 (by decide +kernel : decode cX5_cut 99 = .ok (.iload 4, 2)) rfl rfl rfl ?_
  refine X_aload_n 102 (by decide +kernel : decode cX5_cut 101 = .ok (.aload_n 0, 1)) rfl rfl rfl ?_
  refine X_getR 105 (by decide +kernel : decode cX5_cut 102 = .ok (.getfield 9, 3)) rfl rfl (by decide +kernel : aFd 7 9 = some (7, 0, true, true)) g1 p6 ?_
  refine X_iload 107 (by decide +kernel : decode cX5_cut 105 = .ok (.iload 4, 2)) rfl rfl rfl ?_
  refine X_iald 108 (by decide +kernel : decode cX5_cut 107 = .ok (.iaload, 1)) rfl rfl g7 r8 h9 ?_
  refine X_bipush 110 (48) (by decide +kernel : decode cX5_cut 108 = .ok (.bipush 48, 2)) rfl rfl (by decide +kernel) ?_
  exact X_icmpne 128 113 (by decide +kernel : decode cX5_cut 110 = .ok (.if_icmp .ne 18, 3)) rfl rfl (by decide) r10 ⟨by decide, by decide⟩ k1 k2
theorem kX5_cut_113 {a0 : Nat} {a1 : Nat} {o2 : Option Value} {x3 : Int} {x4 : Int} {t0 : Int} {u1 : Nat} {b2 : Nat} (g1 : aKd S a0 = 7) (p3 : aP S a0 2 = some b2) (g4 : aKd S b2 = 100) (r5 : R32 x4) (h6 : (0 : Int) ≤ x4 ∧ x4 < (aN S b2 : Int)) (hd1 : 1 ≤ d) (k : X E (d - 1) fX5_numberAt 0 [some (.ref a1), some (J x3), some (J (M b2 x4.toNat)), none, none] [] S (mI M) (Kr E d fX5_cut 125 [some (.ref a0), some (.ref a1), o2, some (J x3), some (J x4)] [J t0, .ref u1] Q)) : X E d fX5_cut 113 [some (.ref a0), some (.ref a1), o2, some (J x3), some (J x4)] [J t0, .ref u1] S (mI M) Q := by
  refine X_aload_n 114 (by decide +kernel : decode cX5_cut 113 = .ok (.aload_n 1, 1)) rfl rfl rfl ?_
  refine X_iload_n 115 (by decide +kernel : decode cX5_cut 114 = .ok (.iload_n 3, 1)) rfl rfl rfl ?_
  refine X_aload_n 116 (by decide +kernel : decode cX5_cut 115 = .ok (.aload_n 0, 1)) rfl rfl rfl ?_
  refine X_getR 119 (by decide +kernel : decode cX5_cut 116 = .ok (.getfield 18, 3)) rfl rfl (by decide +kernel : aFd 7 18 = some (7, 2, true, true)) g1 p3 ?_
  refine X_iload 121 (by decide +kernel : decode cX5_cut 119 = .ok (.iload 4, 2)) rfl rfl rfl ?_
  refine X_iald 122 (by decide +kernel : decode cX5_cut 121 = .ok (.iaload, 1)) rfl rfl g4 r5 h6 ?_
  exact X_cs (as := [J (M b2 x4.toNat), J x3, .ref a1]) (rest := [J t0, .ref u1]) (by decide +kernel : decode cX5_cut 122 = .ok (.invokestatic 39, 3)) rfl rfl rfl rfl rfl rfl rfl (Nat.le_of_ble_eq_true rfl) hd1 k
theorem kX5_cut_125 {o0 : Option Value} {o1 : Option Value} {o2 : Option Value} {o3 : Option Value} {o4 : Option Value} {t0 : Int} {t1 : Int} {u2 : Nat} (k : X E d fX5_cut 129 [o0, o1, o2, o3, o4] [J t0, J t1, .ref u2] S (mI M) Q) : X E d fX5_cut 125 [o0, o1, o2, o3, o4] [J t0, J t1, .ref u2] S (mI M) Q := by
  exact X_goto 129 (by decide +kernel : decode cX5_cut 125 = .ok (.goto 4, 3)) rfl (by decide) k
theorem kX5_cut_128 {o0 : Option Value} {o1 : Option Value} {o2 : Option Value} {o3 : Option Value} {o4 : Option Value} {t0 : Int} {u1 : Nat} (k : X E d fX5_cut 129 [o0, o1, o2, o3, o4] [J 0, J t0, .ref u1] S (mI M) Q) : X E d fX5_cut 128 [o0, o1, o2, o3, o4] [J t0, .ref u1] S (mI M) Q := by
  refine X_iconst 129 (by decide +kernel : decode cX5_cut 128 = .ok (.iconst 0, 1)) rfl rfl ?_
  exact k
theorem kX5_cut_129 {a0 : Nat} {o1 : Option Value} {o2 : Option Value} {o3 : Option Value} {x4 : Int} {t0 : Int} {t1 : Int} {u2 : Nat} {b5 : Nat} (g1 : aK S u2 = 100) (r2 : R32 t1) (h3 : (0 : Int) ≤ t1 ∧ t1 < (aN S u2 : Int)) (g4 : aKd S a0 = 7) (p6 : aP S a0 0 = some b5) (g7 : aKd S b5 = 100) (r8 : R32 x4) (h9 : (0 : Int) ≤ x4 ∧ x4 < (aN S b5 : Int)) (r10 : R32 ((mW M u2 t1.toNat t0) b5 x4.toNat)) (k1 : ((mW M u2 t1.toNat t0) b5 x4.toNat) = 49 → X E d fX5_cut 154 [some (.ref a0), o1, o2, o3, some (J x4)] [] S (mI (mW M u2 t1.toNat t0)) Q) (k2 : ((mW M u2 t1.toNat t0) b5 x4.toNat) ≠ 49 → X E d fX5_cut 142 [some (.ref a0), o1, o2, o3, some (J x4)] [] S (mI (mW M u2 t1.toNat t0)) Q) : X E d fX5_cut 129 [some (.ref a0), o1, o2, o3, some (J x4)] [J t0, J t1, .ref u2] S (mI M) Q := by
  refine X_iast 130 (by decide +kernel : decode cX5_cut 129 = .ok (.iastore, 1)) rfl rfl g1 r2 h3 ?_
  refine X_aload_n 131 (by decide +kernel : decode cX5_cut 130 = .ok (.aload_n 0, 1)) rfl rfl rfl ?_
  refine X_getR 134 (by decide +kernel : decode cX5_cut 131 = .ok (.getfield 9, 3)) rfl rfl (by decide +kernel : aFd 7 9 = some (7, 0, true, true)) g4 p6 ?_
  refine X_iload 136 (by decide +kernel : decode cX5_cut 134 = .ok (.iload 4, 2)) rfl rfl rfl ?_
  refine X_iald 137 (by decide +kernel : decode cX5_cut 136 = .ok (.iaload, 1)) rfl rfl g7 r8 h9 ?_
  refine X_bipush 139 (49) (by decide +kernel : decode cX5_cut 137 = .ok (.bipush 49, 2)) rfl rfl (by decide +kernel) ?_
  exact X_icmpeq 154 142 (by decide +kernel : decode cX5_cut 139 = .ok (.if_icmp .eq 15, 3)) rfl rfl (by decide) r10 ⟨by decide, by decide⟩ k1 k2
theorem kX5_cut_142 {a0 : Nat} {o1 : Option Value} {o2 : Option Value} {o3 : Option Value} {x4 : Int} {b2 : Nat} (g1 : aKd S a0 = 7) (p3 : aP S a0 0 = some b2) (g4 : aKd S b2 = 100) (r5 : R32 x4) (h6 : (0 : Int) ≤ x4 ∧ x4 < (aN S b2 : Int)) (r7 : R32 (M b2 x4.toNat)) (k1 : (M b2 x4.toNat) ≠ 50 → X E d fX5_cut 155 [some (.ref a0), o1, o2, o3, some (J x4)] [] S (mI M) Q) (k2 : (M b2 x4.toNat) = 50 → X E d fX5_cut 154 [some (.ref a0), o1, o2, o3, some (J x4)] [] S (mI M) Q) : X E d fX5_cut 142 [some (.ref a0), o1, o2, o3, some (J x4)] [] S (mI M) Q := by
  refine X_aload_n 143 (by decide +kernel : decode cX5_cut 142 = .ok (.aload_n 0, 1)) rfl rfl rfl ?_
  refine X_getR 146 (by decide +kernel : decode cX5_cut 143 = .ok (.getfield 9, 3)) rfl rfl (by decide +kernel : aFd 7 9 = some (7, 0, true, true)) g1 p3 ?_
  refine X_iload 148 (by decide +kernel : decode cX5_cut 146 = .ok (.iload 4, 2)) rfl rfl rfl ?_
  refine X_iald 149 (by decide +kernel : decode cX5_cut 148 = .ok (.iaload, 1)) rfl rfl g4 r5 h6 ?_
  refine X_bipush 151 (50) (by decide +kernel : decode cX5_cut 149 = .ok (.bipush 50, 2)) rfl rfl (by decide +kernel) ?_
  exact X_icmpne 155 154 (by decide +kernel : decode cX5_cut 151 = .ok (.if_icmp .ne 4, 3)) rfl rfl (by decide) r7 ⟨by decide, by decide⟩ k1 k2
theorem kX5_cut_154 {o0 : Option Value} {o1 : Option Value} {o2 : Option Value} {o3 : Option Value} {o4 : Option Value} (q : Q (some none) S (mI M)) : X E d fX5_cut 154 [o0, o1, o2, o3, o4] [] S (mI M) Q := by
  exact X_vret (by decide +kernel : decode cX5_cut 154 = .ok (.return_, 1)) rfl rfl q
theorem kX5_cut_155 {a0 : Nat} {o1 : Option Value} {o2 : Option Value} {x3 : Int} {x4 : Int} {b3 : Nat} (g1 : aK S a0 = 7) (g2 : aKd S a0 = 7) (p4 : aP S a0 2 = some b3) (g5 : aKd S b3 = 100) (r6 : R32 x4) (h7 : (0 : Int) ≤ x4 ∧ x4 < (aN S b3 : Int)) (k : X E d fX5_cut 10 [some (.ref a0), o1, o2, some (J (x3 + ((mW M a0 4 (nz (x4 + 1))) b3 x4.toNat))), some (J (x4 + 1))] [] S (mI (mW M a0 4 (nz (x4 + 1)))) Q) : X E d fX5_cut 155 [some (.ref a0), o1, o2, some (J x3), some (J x4)] [] S (mI M) Q := by
  refine X_aload_n 156 (by decide +kernel : decode cX5_cut 155 = .ok (.aload_n 0, 1)) rfl rfl rfl ?_
  refine X_iload 158 (by decide +kernel : decode cX5_cut 156 = .ok (.iload 4, 2)) rfl rfl rfl ?_
  refine X_iconst 159 (by decide +kernel : decode cX5_cut 158 = .ok (.iconst 1, 1)) rfl rfl ?_
  refine X_iadd 160 (by decide +kernel : decode cX5_cut 159 = .ok (.iadd, 1)) rfl rfl ?_
  refine X_putIz 163 (by decide +kernel : decode cX5_cut 160 = .ok (.putfield 24, 3)) rfl rfl (by decide +kernel : aFd 7 24 = some (7, 4, false, false)) (Or.inl rfl) g1 rfl rfl ?_
  refine X_iload_n 164 (by decide +kernel : decode cX5_cut 163 = .ok (.iload_n 3, 1)) rfl rfl rfl ?_
  refine X_aload_n 165 (by decide +kernel : decode cX5_cut 164 = .ok (.aload_n 0, 1)) rfl rfl rfl ?_
  refine X_getR 168 (by decide +kernel : decode cX5_cut 165 = .ok (.getfield 18, 3)) rfl rfl (by decide +kernel : aFd 7 18 = some (7, 2, true, true)) g2 p4 ?_
  refine X_iload 170 (by decide +kernel : decode cX5_cut 168 = .ok (.iload 4, 2)) rfl rfl rfl ?_
  refine X_iald 171 (by decide +kernel : decode cX5_cut 170 = .ok (.iaload, 1)) rfl rfl g5 r6 h7 ?_
  refine X_iadd 172 (by decide +kernel : decode cX5_cut 171 = .ok (.iadd, 1)) rfl rfl ?_
  refine X_istore_n 173 (by decide +kernel : decode cX5_cut 172 = .ok (.istore_n 3, 1)) rfl rfl (Nat.le_of_ble_eq_true rfl) rfl ?_
  refine X_iinc 176 (by decide +kernel : decode cX5_cut 173 = .ok (.iinc 4 1, 3)) rfl rfl rfl rfl ?_
  exact X_goto 10 (by decide +kernel : decode cX5_cut 176 = .ok (.goto (-166), 3)) rfl (by decide) k
theorem kX5_cut_179 {o0 : Option Value} {o1 : Option Value} {o2 : Option Value} {o3 : Option Value} {o4 : Option Value} (q : Q (some none) S (mI M)) : X E d fX5_cut 179 [o0, o1, o2, o3, o4] [] S (mI M) Q := by
  exact X_vret (by decide +kernel : decode cX5_cut 179 = .ok (.return_, 1)) rfl rfl q
theorem kX5_behindBlanks_0 {o0 : Option Value} {x1 : Int} {o2 : Option Value} {o3 : Option Value} (k : X E d fX5_behindBlanks 2 [o0, some (J x1), o2, some (J x1)] [] S (mI M) Q) : X E d fX5_behindBlanks 0 [o0, some (J x1), o2, o3] [] S (mI M) Q := by
  refine X_iload_n 1 (by decide +kernel : decode cX5_behindBlanks 0 = .ok (.iload_n 1, 1)) rfl rfl rfl ?_
  refine X_istore_n 2 (by decide +kernel : decode cX5_behindBlanks 1 = .ok (.istore_n 3, 1)) rfl rfl (Nat.le_of_ble_eq_true rfl) rfl ?_
  exact k
theorem kX5_behindBlanks_2 {o0 : Option Value} {o1 : Option Value} {x2 : Int} {x3 : Int} (r1 : R32 x3) (r2 : R32 x2) (k1 : x2 ≤ x3 → X E d fX5_behindBlanks 35 [o0, o1, some (J x2), some (J x3)] [] S (mI M) Q) (k2 : x3 < x2 → X E d fX5_behindBlanks 7 [o0, o1, some (J x2), some (J x3)] [] S (mI M) Q) : X E d fX5_behindBlanks 2 [o0, o1, some (J x2), some (J x3)] [] S (mI M) Q := by
  refine X_iload_n 3 (by decide +kernel : decode cX5_behindBlanks 2 = .ok (.iload_n 3, 1)) rfl rfl rfl ?_
  refine X_iload_n 4 (by decide +kernel : decode cX5_behindBlanks 3 = .ok (.iload_n 2, 1)) rfl rfl rfl ?_
  exact X_icmpge 35 7 (by decide +kernel : decode cX5_behindBlanks 4 = .ok (.if_icmp .ge 31, 3)) rfl rfl (by decide) r1 r2 k1 k2
theorem kX5_behindBlanks_7 {a0 : Nat} {o1 : Option Value} {o2 : Option Value} {x3 : Int} (g1 : aKd S a0 = 100 ∨ aKd S a0 = 101 ∨ aKd S a0 = 102) (r2 : R32 x3) (r3 : R32 ((aN S a0 : Int))) (k1 : (aN S a0 : Int) ≤ x3 → X E d fX5_behindBlanks 35 [some (.ref a0), o1, o2, some (J x3)] [] S (mI M) Q) (k2 : x3 < (aN S a0 : Int) → X E d fX5_behindBlanks 13 [some (.ref a0), o1, o2, some (J x3)] [] S (mI M) Q) : X E d fX5_behindBlanks 7 [some (.ref a0), o1, o2, some (J x3)] [] S (mI M) Q := by
  refine X_iload_n 8 (by decide +kernel : decode cX5_behindBlanks 7 = .ok (.iload_n 3, 1)) rfl rfl rfl ?_
  refine X_aload_n 9 (by decide +kernel : decode cX5_behindBlanks 8 = .ok (.aload_n 0, 1)) rfl rfl rfl ?_
  refine X_alen 10 (by decide +kernel : decode cX5_behindBlanks 9 = .ok (.arraylength, 1)) rfl rfl g1 ?_
  exact X_icmpge 35 13 (by decide +kernel : decode cX5_behindBlanks 10 = .ok (.if_icmp .ge 25, 3)) rfl rfl (by decide) r2 r3 k1 k2
theorem kX5_behindBlanks_13 {a0 : Nat} {o1 : Option Value} {o2 : Option Value} {x3 : Int} (g1 : aKd S a0 = 101) (r2 : R32 x3) (h3 : (0 : Int) ≤ x3 ∧ x3 < (aN S a0 : Int)) (r4 : R32 (M a0 x3.toNat)) (k1 : (M a0 x3.toNat) = 32 → X E d fX5_behindBlanks 29 [some (.ref a0), o1, o2, some (J x3)] [] S (mI M) Q) (k2 : (M a0 x3.toNat) ≠ 32 → X E d fX5_behindBlanks 21 [some (.ref a0), o1, o2, some (J x3)] [] S (mI M) Q) : X E d fX5_behindBlanks 13 [some (.ref a0), o1, o2, some (J x3)] [] S (mI M) Q := by
  refine X_aload_n 14 (by decide +kernel : decode cX5_behindBlanks 13 = .ok (.aload_n 0, 1)) rfl rfl rfl ?_
  refine X_iload_n 15 (by decide +kernel : decode cX5_behindBlanks 14 = .ok (.iload_n 3, 1)) rfl rfl rfl ?_
  refine X_bald 16 (by decide +kernel : decode cX5_behindBlanks 15 = .ok (.baload, 1)) rfl rfl g1 r2 h3 ?_
  refine X_bipush 18 (32) (by decide +kernel : decode cX5_behindBlanks 16 = .ok (.bipush 32, 2)) rfl rfl (by decide +kernel) ?_
  exact X_icmpeq 29 21 (by decide +kernel : decode cX5_behindBlanks 18 = .ok (.if_icmp .eq 11, 3)) rfl rfl (by decide) r4 ⟨by decide, by decide⟩ k1 k2
theorem kX5_behindBlanks_21 {a0 : Nat} {o1 : Option Value} {o2 : Option Value} {x3 : Int} (g1 : aKd S a0 = 101) (r2 : R32 x3) (h3 : (0 : Int) ≤ x3 ∧ x3 < (aN S a0 : Int)) (r4 : R32 (M a0 x3.toNat)) (k1 : (M a0 x3.toNat) ≠ 10 → X E d fX5_behindBlanks 35 [some (.ref a0), o1, o2, some (J x3)] [] S (mI M) Q) (k2 : (M a0 x3.toNat) = 10 → X E d fX5_behindBlanks 29 [some (.ref a0), o1, o2, some (J x3)] [] S (mI M) Q) : X E d fX5_behindBlanks 21 [some (.ref a0), o1, o2, some (J x3)] [] S (mI M) Q := by
  refine X_aload_n 22 (by decide +kernel : decode cX5_behindBlanks 21 = .ok (.aload_n 0, 1)) rfl rfl rfl ?_
  refine X_iload_n 23 (by decide +kernel : decode cX5_behindBlanks 22 = .ok (.iload_n 3, 1)) rfl rfl rfl ?_
  refine X_bald 24 (by decide +kernel : decode cX5_behindBlanks 23 = .ok (.baload, 1)) rfl rfl g1 r2 h3 ?_
  refine X_bipush 26 (10) (by decide +kernel : decode cX5_behindBlanks 24 = .ok (.bipush 10, 2)) rfl rfl (by decide +kernel) ?_
  exact X_icmpne 35 29 (by decide +kernel : decode cX5_behindBlanks 26 = .ok (.if_icmp .ne 9, 3)) rfl rfl (by decide) r4 ⟨by decide, by decide⟩ k1 k2
theorem kX5_behindBlanks_29 {o0 : Option Value} {o1 : Option Value} {o2 : Option Value} {x3 : Int} (k : X E d fX5_behindBlanks 2 [o0, o1, o2, some (J (x3 + 1))] [] S (mI M) Q) : X E d fX5_behindBlanks 29 [o0, o1, o2, some (J x3)] [] S (mI M) Q := by
  refine X_iinc 32 (by decide +kernel : decode cX5_behindBlanks 29 = .ok (.iinc 3 1, 3)) rfl rfl rfl rfl ?_
  exact X_goto 2 (by decide +kernel : decode cX5_behindBlanks 32 = .ok (.goto (-30), 3)) rfl (by decide) k
theorem kX5_behindBlanks_35 {o0 : Option Value} {o1 : Option Value} {o2 : Option Value} {x3 : Int} (q : Q (some (some (J x3))) S (mI M)) : X E d fX5_behindBlanks 35 [o0, o1, o2, some (J x3)] [] S (mI M) Q := by
  refine X_iload_n 36 (by decide +kernel : decode cX5_behindBlanks 35 = .ok (.iload_n 3, 1)) rfl rfl rfl ?_
  exact X_iret (by decide +kernel : decode cX5_behindBlanks 36 = .ok (.ireturn, 1)) rfl rfl rfl q
theorem kX5_lengthAt_0 {a0 : Nat} {x1 : Int} {x2 : Int} {o3 : Option Value} {o4 : Option Value} {o5 : Option Value} (hd1 : 1 ≤ d) (k : X E (d - 1) fX5_byteAt 0 [some (.ref a0), some (J x1), some (J x2)] [] S (mI M) (Kr E d fX5_lengthAt 8 [some (.ref a0), some (J x1), some (J x2), some (J x1), o4, o5] [] Q)) : X E d fX5_lengthAt 0 [some (.ref a0), some (J x1), some (J x2), o3, o4, o5] [] S (mI M) Q := by
  refine X_iload_n 1 (by decide +kernel : decode cX5_lengthAt 0 = .ok (.iload_n 1, 1)) rfl rfl rfl ?_
  refine X_istore_n 2 (by decide +kernel : decode cX5_lengthAt 1 = .ok (.istore_n 3, 1)) rfl rfl (Nat.le_of_ble_eq_true rfl) rfl ?_
  refine X_aload_n 3 (by decide +kernel : decode cX5_lengthAt 2 = .ok (.aload_n 0, 1)) rfl rfl rfl ?_
  refine X_iload_n 4 (by decide +kernel : decode cX5_lengthAt 3 = .ok (.iload_n 1, 1)) rfl rfl rfl ?_
  refine X_iload_n 5 (by decide +kernel : decode cX5_lengthAt 4 = .ok (.iload_n 2, 1)) rfl rfl rfl ?_
  exact X_cs (as := [J x2, J x1, .ref a0]) (rest := []) (by decide +kernel : decode cX5_lengthAt 5 = .ok (.invokestatic 50, 3)) rfl rfl rfl rfl rfl rfl rfl (Nat.le_of_ble_eq_true rfl) hd1 k
theorem kX5_lengthAt_8 {o0 : Option Value} {o1 : Option Value} {o2 : Option Value} {o3 : Option Value} {o4 : Option Value} {o5 : Option Value} {t0 : Int} (hd1 : 1 ≤ d) (k : X E (d - 1) fX5_isLetter 0 [some (J t0)] [] S (mI M) (Kr E d fX5_lengthAt 15 [o0, o1, o2, o3, some (J t0), o5] [] Q)) : X E d fX5_lengthAt 8 [o0, o1, o2, o3, o4, o5] [J t0] S (mI M) Q := by
  refine X_istore 10 (by decide +kernel : decode cX5_lengthAt 8 = .ok (.istore 4, 2)) rfl rfl (Nat.le_of_ble_eq_true rfl) rfl ?_
  refine X_iload 12 (by decide +kernel : decode cX5_lengthAt 10 = .ok (.iload 4, 2)) rfl rfl rfl ?_
  exact X_cs (as := [J t0]) (rest := []) (by decide +kernel : decode cX5_lengthAt 12 = .ok (.invokestatic 53, 3)) rfl rfl rfl rfl rfl rfl rfl (Nat.le_of_ble_eq_true rfl) hd1 k
theorem kX5_lengthAt_15 {o0 : Option Value} {o1 : Option Value} {o2 : Option Value} {o3 : Option Value} {o4 : Option Value} {o5 : Option Value} {t0 : Int} (r1 : R32 t0) (k1 : t0 = 0 → X E d fX5_lengthAt 41 [o0, o1, o2, o3, o4, o5] [] S (mI M) Q) (k2 : t0 ≠ 0 → X E d fX5_lengthAt 18 [o0, o1, o2, o3, o4, o5] [] S (mI M) Q) : X E d fX5_lengthAt 15 [o0, o1, o2, o3, o4, o5] [J t0] S (mI M) Q := by
  exact X_ifeq 41 18 (by decide +kernel : decode cX5_lengthAt 15 = .ok (.ifCond .eq 26, 3)) rfl rfl (by decide) r1 k1 k2
theorem kX5_lengthAt_18 {o0 : Option Value} {o1 : Option Value} {x2 : Int} {x3 : Int} {o4 : Option Value} {o5 : Option Value} (r1 : R32 x3) (r2 : R32 x2) (k1 : x2 ≤ x3 → X E d fX5_lengthAt 127 [o0, o1, some (J x2), some (J x3), o4, o5] [] S (mI M) Q) (k2 : x3 < x2 → X E d fX5_lengthAt 23 [o0, o1, some (J x2), some (J x3), o4, o5] [] S (mI M) Q) : X E d fX5_lengthAt 18 [o0, o1, some (J x2), some (J x3), o4, o5] [] S (mI M) Q := by
  refine X_iload_n 19 (by decide +kernel : decode cX5_lengthAt 18 = .ok (.iload_n 3, 1)) rfl rfl rfl ?_
  refine X_iload_n 20 (by decide +kernel : decode cX5_lengthAt 19 = .ok (.iload_n 2, 1)) rfl rfl rfl ?_
  exact X_icmpge 127 23 (by decide +kernel : decode cX5_lengthAt 20 = .ok (.if_icmp .ge 107, 3)) rfl rfl (by decide) r1 r2 k1 k2
theorem kX5_lengthAt_23 {a0 : Nat} {o1 : Option Value} {x2 : Int} {x3 : Int} {o4 : Option Value} {o5 : Option Value} (hd1 : 1 ≤ d) (k : X E (d - 1) fX5_byteAt 0 [some (.ref a0), some (J x3), some (J x2)] [] S (mI M) (Kr E d fX5_lengthAt 29 [some (.ref a0), o1, some (J x2), some (J x3), o4, o5] [] Q)) : X E d fX5_lengthAt 23 [some (.ref a0), o1, some (J x2), some (J x3), o4, o5] [] S (mI M) Q := by
  refine X_aload_n 24 (by decide +kernel : decode cX5_lengthAt 23 = .ok (.aload_n 0, 1)) rfl rfl rfl ?_
  refine X_iload_n 25 (by decide +kernel : decode cX5_lengthAt 24 = .ok (.iload_n 3, 1)) rfl rfl rfl ?_
  refine X_iload_n 26 (by decide +kernel : decode cX5_lengthAt 25 = .ok (.iload_n 2, 1)) rfl rfl rfl ?_
  exact X_cs (as := [J x2, J x3, .ref a0]) (rest := []) (by decide +kernel : decode cX5_lengthAt 26 = .ok (.invokestatic 50, 3)) rfl rfl rfl rfl rfl rfl rfl (Nat.le_of_ble_eq_true rfl) hd1 k
theorem kX5_lengthAt_29 {o0 : Option Value} {o1 : Option Value} {o2 : Option Value} {o3 : Option Value} {o4 : Option Value} {o5 : Option Value} {t0 : Int} (hd1 : 1 ≤ d) (k : X E (d - 1) fX5_isLetterOrDigit 0 [some (J t0)] [] S (mI M) (Kr E d fX5_lengthAt 32 [o0, o1, o2, o3, o4, o5] [] Q)) : X E d fX5_lengthAt 29 [o0, o1, o2, o3, o4, o5] [J t0] S (mI M) Q := by
  exact X_cs (as := [J t0]) (rest := []) (by decide +kernel : decode cX5_lengthAt 29 = .ok (.invokestatic 57, 3)) rfl rfl rfl rfl rfl rfl rfl (Nat.le_of_ble_eq_true rfl) hd1 k
theorem kX5_lengthAt_32 {o0 : Option Value} {o1 : Option Value} {o2 : Option Value} {o3 : Option Value} {o4 : Option Value} {o5 : Option Value} {t0 : Int} (r1 : R32 t0) (k1 : t0 = 0 → X E d fX5_lengthAt 127 [o0, o1, o2, o3, o4, o5] [] S (mI M) Q) (k2 : t0 ≠ 0 → X E d fX5_lengthAt 35 [o0, o1, o2, o3, o4, o5] [] S (mI M) Q) : X E d fX5_lengthAt 32 [o0, o1, o2, o3, o4, o5] [J t0] S (mI M) Q := by
  exact X_ifeq 127 35 (by decide +kernel : decode cX5_lengthAt 32 = .ok (.ifCond .eq 95, 3)) rfl rfl (by decide) r1 k1 k2
theorem kX5_lengthAt_35 {o0 : Option Value} {o1 : Option Value} {o2 : Option Value} {x3 : Int} {o4 : Option Value} {o5 : Option Value} (k : X E d fX5_lengthAt 18 [o0, o1, o2, some (J (x3 + 1)), o4, o5] [] S (mI M) Q) : X E d fX5_lengthAt 35 [o0, o1, o2, some (J x3), o4, o5] [] S (mI M) Q := by
  refine X_iinc 38 (by decide +kernel : decode cX5_lengthAt 35 = .ok (.iinc 3 1, 3)) rfl rfl rfl rfl ?_
  exact X_goto 18 (by decide +kernel : decode cX5_lengthAt 38 = .ok (.goto (-20), 3)) rfl (by decide) k
theorem kX5_lengthAt_41 {o0 : Option Value} {o1 : Option Value} {o2 : Option Value} {o3 : Option Value} {x4 : Int} {o5 : Option Value} (hd1 : 1 ≤ d) (k : X E (d - 1) fX5_isDigit 0 [some (J x4)] [] S (mI M) (Kr E d fX5_lengthAt 46 [o0, o1, o2, o3, some (J x4), o5] [] Q)) : X E d fX5_lengthAt 41 [o0, o1, o2, o3, some (J x4), o5] [] S (mI M) Q := by
  refine X_iload 43 (by decide +kernel : decode cX5_lengthAt 41 = .ok (.iload 4, 2)) rfl rfl rfl ?_
  exact X_cs (as := [J x4]) (rest := []) (by decide +kernel : decode cX5_lengthAt 43 = .ok (.invokestatic 60, 3)) rfl rfl rfl rfl rfl rfl rfl (Nat.le_of_ble_eq_true rfl) hd1 k
theorem kX5_lengthAt_46 {o0 : Option Value} {o1 : Option Value} {o2 : Option Value} {o3 : Option Value} {o4 : Option Value} {o5 : Option Value} {t0 : Int} (r1 : R32 t0) (k1 : t0 = 0 → X E d fX5_lengthAt 72 [o0, o1, o2, o3, o4, o5] [] S (mI M) Q) (k2 : t0 ≠ 0 → X E d fX5_lengthAt 49 [o0, o1, o2, o3, o4, o5] [] S (mI M) Q) : X E d fX5_lengthAt 46 [o0, o1, o2, o3, o4, o5] [J t0] S (mI M) Q := by
  exact X_ifeq 72 49 (by decide +kernel : decode cX5_lengthAt 46 = .ok (.ifCond .eq 26, 3)) rfl rfl (by decide) r1 k1 k2
theorem kX5_lengthAt_49 {o0 : Option Value} {o1 : Option Value} {x2 : Int} {x3 : Int} {o4 : Option Value} {o5 : Option Value} (r1 : R32 x3) (r2 : R32 x2) (k1 : x2 ≤ x3 → X E d fX5_lengthAt 127 [o0, o1, some (J x2), some (J x3), o4, o5] [] S (mI M) Q) (k2 : x3 < x2 → X E d fX5_lengthAt 54 [o0, o1, some (J x2), some (J x3), o4, o5] [] S (mI M) Q) : X E d fX5_lengthAt 49 [o0, o1, some (J x2), some (J x3), o4, o5] [] S (mI M) Q := by
  refine X_iload_n 50 (by decide +kernel : decode cX5_lengthAt 49 = .ok (.iload_n 3, 1)) rfl rfl rfl ?_
  refine X_iload_n 51 (by decide +kernel : decode cX5_lengthAt 50 = .ok (.iload_n 2, 1)) rfl rfl rfl ?_
  exact X_icmpge 127 54 (by decide +kernel : decode cX5_lengthAt 51 = .ok (.if_icmp .ge 76, 3)) rfl rfl (by decide) r1 r2 k1 k2
theorem kX5_lengthAt_54 {a0 : Nat} {o1 : Option Value} {x2 : Int} {x3 : Int} {o4 : Option Value} {o5 : Option Value} (hd1 : 1 ≤ d) (k : X E (d - 1) fX5_byteAt 0 [some (.ref a0), some (J x3), some (J x2)] [] S (mI M) (Kr E d fX5_lengthAt 60 [some (.ref a0), o1, some (J x2), some (J x3), o4, o5] [] Q)) : X E d fX5_lengthAt 54 [some (.ref a0), o1, some (J x2), some (J x3), o4, o5] [] S (mI M) Q := by
  refine X_aload_n 55 (by decide +kernel : decode cX5_lengthAt 54 = .ok (.aload_n 0, 1)) rfl rfl rfl ?_
  refine X_iload_n 56 (by decide +kernel : decode cX5_lengthAt 55 = .ok (.iload_n 3, 1)) rfl rfl rfl ?_
  refine X_iload_n 57 (by decide +kernel : decode cX5_lengthAt 56 = .ok (.iload_n 2, 1)) rfl rfl rfl ?_
  exact X_cs (as := [J x2, J x3, .ref a0]) (rest := []) (by decide +kernel : decode cX5_lengthAt 57 = .ok (.invokestatic 50, 3)) rfl rfl rfl rfl rfl rfl rfl (Nat.le_of_ble_eq_true rfl) hd1 k
theorem kX5_lengthAt_60 {o0 : Option Value} {o1 : Option Value} {o2 : Option Value} {o3 : Option Value} {o4 : Option Value} {o5 : Option Value} {t0 : Int} (hd1 : 1 ≤ d) (k : X E (d - 1) fX5_isDigit 0 [some (J t0)] [] S (mI M) (Kr E d fX5_lengthAt 63 [o0, o1, o2, o3, o4, o5] [] Q)) : X E d fX5_lengthAt 60 [o0, o1, o2, o3, o4, o5] [J t0] S (mI M) Q := by
  exact X_cs (as := [J t0]) (rest := []) (by decide +kernel : decode cX5_lengthAt 60 = .ok (.invokestatic 60, 3)) rfl rfl rfl rfl rfl rfl rfl (Nat.le_of_ble_eq_true rfl) hd1 k
theorem kX5_lengthAt_63 {o0 : Option Value} {o1 : Option Value} {o2 : Option Value} {o3 : Option Value} {o4 : Option Value} {o5 : Option Value} {t0 : Int} (r1 : R32 t0) (k1 : t0 = 0 → X E d fX5_lengthAt 127 [o0, o1, o2, o3, o4, o5] [] S (mI M) Q) (k2 : t0 ≠ 0 → X E d fX5_lengthAt 66 [o0, o1, o2, o3, o4, o5] [] S (mI M) Q) : X E d fX5_lengthAt 63 [o0, o1, o2, o3, o4, o5] [J t0] S (mI M) Q := by
  exact X_ifeq 127 66 (by decide +kernel : decode cX5_lengthAt 63 = .ok (.ifCond .eq 64, 3)) rfl rfl (by decide) r1 k1 k2
theorem kX5_lengthAt_66 {o0 : Option Value} {o1 : Option Value} {o2 : Option Value} {x3 : Int} {o4 : Option Value} {o5 : Option Value} (k : X E d fX5_lengthAt 49 [o0, o1, o2, some (J (x3 + 1)), o4, o5] [] S (mI M) Q) : X E d fX5_lengthAt 66 [o0, o1, o2, some (J x3), o4, o5] [] S (mI M) Q := by
  refine X_iinc 69 (by decide +kernel : decode cX5_lengthAt 66 = .ok (.iinc 3 1, 3)) rfl rfl rfl rfl ?_
  exact X_goto 49 (by decide +kernel : decode cX5_lengthAt 69 = .ok (.goto (-20), 3)) rfl (by decide) k
theorem kX5_lengthAt_72 {o0 : Option Value} {o1 : Option Value} {o2 : Option Value} {o3 : Option Value} {x4 : Int} {o5 : Option Value} (hd1 : 1 ≤ d) (k : X E (d - 1) fX5_isSymbol 0 [some (J x4)] [] S (mI M) (Kr E d fX5_lengthAt 77 [o0, o1, o2, o3, some (J x4), o5] [] Q)) : X E d fX5_lengthAt 72 [o0, o1, o2, o3, some (J x4), o5] [] S (mI M) Q := by
  refine X_iload 74 (by decide +kernel : decode cX5_lengthAt 72 = .ok (.iload 4, 2)) rfl rfl rfl ?_
  exact X_cs (as := [J x4]) (rest := []) (by decide +kernel : decode cX5_lengthAt 74 = .ok (.invokestatic 63, 3)) rfl rfl rfl rfl rfl rfl rfl (Nat.le_of_ble_eq_true rfl) hd1 k
theorem kX5_lengthAt_77 {o0 : Option Value} {o1 : Option Value} {o2 : Option Value} {o3 : Option Value} {o4 : Option Value} {o5 : Option Value} {t0 : Int} (r1 : R32 t0) (k1 : t0 = 0 → X E d fX5_lengthAt 127 [o0, o1, o2, o3, o4, o5] [] S (mI M) Q) (k2 : t0 ≠ 0 → X E d fX5_lengthAt 80 [o0, o1, o2, o3, o4, o5] [] S (mI M) Q) : X E d fX5_lengthAt 77 [o0, o1, o2, o3, o4, o5] [J t0] S (mI M) Q := by
  exact X_ifeq 127 80 (by decide +kernel : decode cX5_lengthAt 77 = .ok (.ifCond .eq 50, 3)) rfl rfl (by decide) r1 k1 k2
theorem kX5_lengthAt_80 {o0 : Option Value} {o1 : Option Value} {o2 : Option Value} {o3 : Option Value} {x4 : Int} {o5 : Option Value} (r1 : R32 x4) (k1 : x4 = 60 → X E d fX5_lengthAt 94 [o0, o1, o2, o3, some (J x4), o5] [] S (mI M) Q) (k2 : x4 ≠ 60 → X E d fX5_lengthAt 87 [o0, o1, o2, o3, some (J x4), o5] [] S (mI M) Q) : X E d fX5_lengthAt 80 [o0, o1, o2, o3, some (J x4), o5] [] S (mI M) Q := by
  refine X_iload 82 (by decide +kernel : decode cX5_lengthAt 80 = .ok (.iload 4, 2)) rfl rfl rfl ?_
  refine X_bipush 84 (60) (by decide +kernel : decode cX5_lengthAt 82 = .ok (.bipush 60, 2)) rfl rfl (by decide +kernel) ?_
  exact X_icmpeq 94 87 (by decide +kernel : decode cX5_lengthAt 84 = .ok (.if_icmp .eq 10, 3)) rfl rfl (by decide) r1 ⟨by decide, by decide⟩ k1 k2
theorem kX5_lengthAt_87 {o0 : Option Value} {o1 : Option Value} {o2 : Option Value} {o3 : Option Value} {x4 : Int} {o5 : Option Value} (r1 : R32 x4) (k1 : x4 ≠ 62 → X E d fX5_lengthAt 98 [o0, o1, o2, o3, some (J x4), o5] [] S (mI M) Q) (k2 : x4 = 62 → X E d fX5_lengthAt 94 [o0, o1, o2, o3, some (J x4), o5] [] S (mI M) Q) : X E d fX5_lengthAt 87 [o0, o1, o2, o3, some (J x4), o5] [] S (mI M) Q := by
  refine X_iload 89 (by decide +kernel : decode cX5_lengthAt 87 = .ok (.iload 4, 2)) rfl rfl rfl ?_
  refine X_bipush 91 (62) (by decide +kernel : decode cX5_lengthAt 89 = .ok (.bipush 62, 2)) rfl rfl (by decide +kernel) ?_
  exact X_icmpne 98 94 (by decide +kernel : decode cX5_lengthAt 91 = .ok (.if_icmp .ne 7, 3)) rfl rfl (by decide) r1 ⟨by decide, by decide⟩ k1 k2
theorem kX5_lengthAt_94 {o0 : Option Value} {o1 : Option Value} {o2 : Option Value} {o3 : Option Value} {o4 : Option Value} {o5 : Option Value} (k : X E d fX5_lengthAt 99 [o0, o1, o2, o3, o4, o5] [J 1] S (mI M) Q) : X E d fX5_lengthAt 94 [o0, o1, o2, o3, o4, o5] [] S (mI M) Q := by
  refine X_iconst 95 (by decide +kernel : decode cX5_lengthAt 94 = .ok (.iconst 1, 1)) rfl rfl ?_
  exact X_goto 99 (by decide +kernel : decode cX5_lengthAt 95 = .ok (.goto 4, 3)) rfl (by decide) k
theorem kX5_lengthAt_98 {o0 : Option Value} {o1 : Option Value} {o2 : Option Value} {o3 : Option Value} {o4 : Option Value} {o5 : Option Value} (k : X E d fX5_lengthAt 99 [o0, o1, o2, o3, o4, o5] [J 0] S (mI M) Q) : X E d fX5_lengthAt 98 [o0, o1, o2, o3, o4, o5] [] S (mI M) Q := by
  refine X_iconst 99 (by decide +kernel : decode cX5_lengthAt 98 = .ok (.iconst 0, 1)) rfl rfl ?_
  exact k
theorem kX5_lengthAt_99 {o0 : Option Value} {o1 : Option Value} {o2 : Option Value} {x3 : Int} {o4 : Option Value} {o5 : Option Value} {t0 : Int} (r1 : R32 t0) (k1 : t0 = 0 → X E d fX5_lengthAt 124 [o0, o1, o2, some (J x3), o4, some (J t0)] [J x3] S (mI M) Q) (k2 : t0 ≠ 0 → X E d fX5_lengthAt 107 [o0, o1, o2, some (J x3), o4, some (J t0)] [J x3] S (mI M) Q) : X E d fX5_lengthAt 99 [o0, o1, o2, some (J x3), o4, o5] [J t0] S (mI M) Q := by
  refine X_istore 101 (by decide +kernel : decode cX5_lengthAt 99 = .ok (.istore 5, 2)) rfl rfl (Nat.le_of_ble_eq_true rfl) rfl ?_
  refine X_iload_n 102 (by decide +kernel : decode cX5_lengthAt 101 = .ok (.iload_n 3, 1)) rfl rfl rfl ?_
  refine X_iload 104 (by decide +kernel : decode cX5_lengthAt 102 = .ok (.iload 5, 2)) rfl rfl rfl ?_
  exact X_ifeq 124 107 (by decide +kernel : decode cX5_lengthAt 104 = .ok (.ifCond .eq 20, 3)) rfl rfl (by decide) r1 k1 k2
theorem kX5_lengthAt_107 {a0 : Nat} {x1 : Int} {x2 : Int} {o3 : Option Value} {o4 : Option Value} {o5 : Option Value} {t0 : Int} (hd1 : 1 ≤ d) (k : X E (d - 1) fX5_byteAt 0 [some (.ref a0), some (J (x1 + 1)), some (J x2)] [] S (mI M) (Kr E d fX5_lengthAt 115 [some (.ref a0), some (J x1), some (J x2), o3, o4, o5] [J t0] Q)) : X E d fX5_lengthAt 107 [some (.ref a0), some (J x1), some (J x2), o3, o4, o5] [J t0] S (mI M) Q := by
  refine X_aload_n 108 (by decide +kernel : decode cX5_lengthAt 107 = .ok (.aload_n 0, 1)) rfl rfl rfl ?_
  refine X_iload_n 109 (by decide +kernel : decode cX5_lengthAt 108 = .ok (.iload_n 1, 1)) rfl rfl rfl ?_
  refine X_iconst 110 (by decide +kernel : decode cX5_lengthAt 109 = .ok (.iconst 1, 1)) rfl rfl ?_
  refine X_iadd 111 (by decide +kernel : decode cX5_lengthAt 110 = .ok (.iadd, 1)) rfl rfl ?_
  refine X_iload_n 112 (by decide +kernel : decode cX5_lengthAt 111 = .ok (.iload_n 2, 1)) rfl rfl rfl ?_
  exact X_cs (as := [J x2, J (x1 + 1), .ref a0]) (rest := [J t0]) (by decide +kernel : decode cX5_lengthAt 112 = .ok (.invokestatic 50, 3)) rfl rfl rfl rfl rfl rfl rfl (Nat.le_of_ble_eq_true rfl) hd1 k
theorem kX5_lengthAt_115 {o0 : Option Value} {o1 : Option Value} {o2 : Option Value} {o3 : Option Value} {o4 : Option Value} {o5 : Option Value} {t0 : Int} {t1 : Int} (r1 : R32 t0) (k1 : t0 ≠ 61 → X E d fX5_lengthAt 124 [o0, o1, o2, o3, o4, o5] [J t1] S (mI M) Q) (k2 : t0 = 61 → X E d fX5_lengthAt 120 [o0, o1, o2, o3, o4, o5] [J t1] S (mI M) Q) : X E d fX5_lengthAt 115 [o0, o1, o2, o3, o4, o5] [J t0, J t1] S (mI M) Q := by
  refine X_bipush 117 (61) (by decide +kernel : decode cX5_lengthAt 115 = .ok (.bipush 61, 2)) rfl rfl (by decide +kernel) ?_
  exact X_icmpne 124 120 (by decide +kernel : decode cX5_lengthAt 117 = .ok (.if_icmp .ne 7, 3)) rfl rfl (by decide) r1 ⟨by decide, by decide⟩ k1 k2
theorem kX5_lengthAt_120 {o0 : Option Value} {o1 : Option Value} {o2 : Option Value} {o3 : Option Value} {o4 : Option Value} {o5 : Option Value} {t0 : Int} (k : X E d fX5_lengthAt 125 [o0, o1, o2, o3, o4, o5] [J 2, J t0] S (mI M) Q) : X E d fX5_lengthAt 120 [o0, o1, o2, o3, o4, o5] [J t0] S (mI M) Q := by
  refine X_iconst 121 (by decide +kernel : decode cX5_lengthAt 120 = .ok (.iconst 2, 1)) rfl rfl ?_
  exact X_goto 125 (by decide +kernel : decode cX5_lengthAt 121 = .ok (.goto 4, 3)) rfl (by decide) k
theorem kX5_lengthAt_124 {o0 : Option Value} {o1 : Option Value} {o2 : Option Value} {o3 : Option Value} {o4 : Option Value} {o5 : Option Value} {t0 : Int} (k : X E d fX5_lengthAt 125 [o0, o1, o2, o3, o4, o5] [J 1, J t0] S (mI M) Q) : X E d fX5_lengthAt 124 [o0, o1, o2, o3, o4, o5] [J t0] S (mI M) Q := by
  refine X_iconst 125 (by decide +kernel : decode cX5_lengthAt 124 = .ok (.iconst 1, 1)) rfl rfl ?_
  exact k
theorem kX5_lengthAt_125 {o0 : Option Value} {o1 : Option Value} {o2 : Option Value} {o3 : Option Value} {o4 : Option Value} {o5 : Option Value} {t0 : Int} {t1 : Int} (k : X E d fX5_lengthAt 127 [o0, o1, o2, some (J (t1 + t0)), o4, o5] [] S (mI M) Q) : X E d fX5_lengthAt 125 [o0, o1, o2, o3, o4, o5] [J t0, J t1] S (mI M) Q := by
  refine X_iadd 126 (by decide +kernel : decode cX5_lengthAt 125 = .ok (.iadd, 1)) rfl rfl ?_
  refine X_istore_n 127 (by decide +kernel : decode cX5_lengthAt 126 = .ok (.istore_n 3, 1)) rfl rfl (Nat.le_of_ble_eq_true rfl) rfl ?_
  exact k
theorem kX5_lengthAt_127 {o0 : Option Value} {x1 : Int} {o2 : Option Value} {x3 : Int} {o4 : Option Value} {o5 : Option Value} (q : Q (some (some (J (x3 - x1)))) S (mI M)) : X E d fX5_lengthAt 127 [o0, some (J x1), o2, some (J x3), o4, o5] [] S (mI M) Q := by
  refine X_iload_n 128 (by decide +kernel : decode cX5_lengthAt 127 = .ok (.iload_n 3, 1)) rfl rfl rfl ?_
  refine X_iload_n 129 (by decide +kernel : decode cX5_lengthAt 128 = .ok (.iload_n 1, 1)) rfl rfl rfl ?_
  refine X_isub 130 (by decide +kernel : decode cX5_lengthAt 129 = .ok (.isub, 1)) rfl rfl ?_
  exact X_iret (by decide +kernel : decode cX5_lengthAt 130 = .ok (.ireturn, 1)) rfl rfl rfl q
theorem kX5_byteAt_0 {o0 : Option Value} {x1 : Int} {x2 : Int} (hd1 : 1 ≤ d) (k : X E (d - 1) fX7_isOutside 0 [some (J x1), some (J x2)] [] S (mI M) (Kr E d fX5_byteAt 5 [o0, some (J x1), some (J x2)] [] Q)) : X E d fX5_byteAt 0 [o0, some (J x1), some (J x2)] [] S (mI M) Q := by
  refine X_iload_n 1 (by decide +kernel : decode cX5_byteAt 0 = .ok (.iload_n 1, 1)) rfl rfl rfl ?_
  refine X_iload_n 2 (by decide +kernel : decode cX5_byteAt 1 = .ok (.iload_n 2, 1)) rfl rfl rfl ?_
  exact X_cs (as := [J x2, J x1]) (rest := []) (by decide +kernel : decode cX5_byteAt 2 = .ok (.invokestatic 42, 3)) rfl rfl rfl rfl rfl rfl rfl (Nat.le_of_ble_eq_true rfl) hd1 k
theorem kX5_byteAt_5 {o0 : Option Value} {o1 : Option Value} {o2 : Option Value} {t0 : Int} (r1 : R32 t0) (k1 : t0 ≠ 0 → X E d fX5_byteAt 14 [o0, o1, o2] [] S (mI M) Q) (k2 : t0 = 0 → X E d fX5_byteAt 8 [o0, o1, o2] [] S (mI M) Q) : X E d fX5_byteAt 5 [o0, o1, o2] [J t0] S (mI M) Q := by
  exact X_ifne 14 8 (by decide +kernel : decode cX5_byteAt 5 = .ok (.ifCond .ne 9, 3)) rfl rfl (by decide) r1 k1 k2
theorem kX5_byteAt_8 {a0 : Nat} {x1 : Int} {o2 : Option Value} (g1 : aKd S a0 = 100 ∨ aKd S a0 = 101 ∨ aKd S a0 = 102) (r2 : R32 x1) (r3 : R32 ((aN S a0 : Int))) (k1 : x1 < (aN S a0 : Int) → X E d fX5_byteAt 18 [some (.ref a0), some (J x1), o2] [] S (mI M) Q) (k2 : (aN S a0 : Int) ≤ x1 → X E d fX5_byteAt 14 [some (.ref a0), some (J x1), o2] [] S (mI M) Q) : X E d fX5_byteAt 8 [some (.ref a0), some (J x1), o2] [] S (mI M) Q := by
  refine X_iload_n 9 (by decide +kernel : decode cX5_byteAt 8 = .ok (.iload_n 1, 1)) rfl rfl rfl ?_
  refine X_aload_n 10 (by decide +kernel : decode cX5_byteAt 9 = .ok (.aload_n 0, 1)) rfl rfl rfl ?_
  refine X_alen 11 (by decide +kernel : decode cX5_byteAt 10 = .ok (.arraylength, 1)) rfl rfl g1 ?_
  exact X_icmplt 18 14 (by decide +kernel : decode cX5_byteAt 11 = .ok (.if_icmp .lt 7, 3)) rfl rfl (by decide) r2 r3 k1 k2
theorem kX5_byteAt_14 {o0 : Option Value} {o1 : Option Value} {o2 : Option Value} (k : X E d fX5_byteAt 21 [o0, o1, o2] [J 0] S (mI M) Q) : X E d fX5_byteAt 14 [o0, o1, o2] [] S (mI M) Q := by
  refine X_iconst 15 (by decide +kernel : decode cX5_byteAt 14 = .ok (.iconst 0, 1)) rfl rfl ?_
  exact X_goto 21 (by decide +kernel : decode cX5_byteAt 15 = .ok (.goto 6, 3)) rfl (by decide) k
theorem kX5_byteAt_18 {a0 : Nat} {x1 : Int} {o2 : Option Value} (g1 : aKd S a0 = 101) (r2 : R32 x1) (h3 : (0 : Int) ≤ x1 ∧ x1 < (aN S a0 : Int)) (k : X E d fX5_byteAt 21 [some (.ref a0), some (J x1), o2] [J (M a0 x1.toNat)] S (mI M) Q) : X E d fX5_byteAt 18 [some (.ref a0), some (J x1), o2] [] S (mI M) Q := by
  refine X_aload_n 19 (by decide +kernel : decode cX5_byteAt 18 = .ok (.aload_n 0, 1)) rfl rfl rfl ?_
  refine X_iload_n 20 (by decide +kernel : decode cX5_byteAt 19 = .ok (.iload_n 1, 1)) rfl rfl rfl ?_
  refine X_bald 21 (by decide +kernel : decode cX5_byteAt 20 = .ok (.baload, 1)) rfl rfl g1 r2 h3 ?_
  exact k
theorem kX5_byteAt_21 {o0 : Option Value} {o1 : Option Value} {o2 : Option Value} {t0 : Int} (q : Q (some (some (J t0))) S (mI M)) : X E d fX5_byteAt 21 [o0, o1, o2] [J t0] S (mI M) Q := by
  exact X_iret (by decide +kernel : decode cX5_byteAt 21 = .ok (.ireturn, 1)) rfl rfl rfl q
theorem kX5_isLetter_0 {x0 : Int} (r1 : R32 x0) (k1 : x0 < 97 → X E d fX5_isLetter 16 [some (J x0)] [] S (mI M) Q) (k2 : 97 ≤ x0 → X E d fX5_isLetter 6 [some (J x0)] [] S (mI M) Q) : X E d fX5_isLetter 0 [some (J x0)] [] S (mI M) Q := by
  refine X_iload_n 1 (by decide +kernel : decode cX5_isLetter 0 = .ok (.iload_n 0, 1)) rfl rfl rfl ?_
  refine X_bipush 3 (97) (by decide +kernel : decode cX5_isLetter 1 = .ok (.bipush 97, 2)) rfl rfl (by decide +kernel) ?_
  exact X_icmplt 16 6 (by decide +kernel : decode cX5_isLetter 3 = .ok (.if_icmp .lt 13, 3)) rfl rfl (by decide) r1 ⟨by decide, by decide⟩ k1 k2
theorem kX5_isLetter_6 {x0 : Int} (r1 : R32 x0) (k1 : 122 < x0 → X E d fX5_isLetter 16 [some (J x0)] [] S (mI M) Q) (k2 : x0 ≤ 122 → X E d fX5_isLetter 12 [some (J x0)] [] S (mI M) Q) : X E d fX5_isLetter 6 [some (J x0)] [] S (mI M) Q := by
  refine X_iload_n 7 (by decide +kernel : decode cX5_isLetter 6 = .ok (.iload_n 0, 1)) rfl rfl rfl ?_
  refine X_bipush 9 (122) (by decide +kernel : decode cX5_isLetter 7 = .ok (.bipush 122, 2)) rfl rfl (by decide +kernel) ?_
  exact X_icmpgt 16 12 (by decide +kernel : decode cX5_isLetter 9 = .ok (.if_icmp .gt 7, 3)) rfl rfl (by decide) r1 ⟨by decide, by decide⟩ k1 k2
theorem kX5_isLetter_12 {o0 : Option Value} (k : X E d fX5_isLetter 17 [o0] [J 1] S (mI M) Q) : X E d fX5_isLetter 12 [o0] [] S (mI M) Q := by
  refine X_iconst 13 (by decide +kernel : decode cX5_isLetter 12 = .ok (.iconst 1, 1)) rfl rfl ?_
  exact X_goto 17 (by decide +kernel : decode cX5_isLetter 13 = .ok (.goto 4, 3)) rfl (by decide) k
theorem kX5_isLetter_16 {o0 : Option Value} (k : X E d fX5_isLetter 17 [o0] [J 0] S (mI M) Q) : X E d fX5_isLetter 16 [o0] [] S (mI M) Q := by
  refine X_iconst 17 (by decide +kernel : decode cX5_isLetter 16 = .ok (.iconst 0, 1)) rfl rfl ?_
  exact k
theorem kX5_isLetter_17 {o0 : Option Value} {t0 : Int} (h1 : narrow .boolean (J t0) = J t0) (q : Q (some (some (J t0))) S (mI M)) : X E d fX5_isLetter 17 [o0] [J t0] S (mI M) Q := by
  exact X_iret (by decide +kernel : decode cX5_isLetter 17 = .ok (.ireturn, 1)) rfl rfl h1 q
theorem kX5_isLetterOrDigit_0 {x0 : Int} (hd1 : 1 ≤ d) (k : X E (d - 1) fX5_isLetter 0 [some (J x0)] [] S (mI M) (Kr E d fX5_isLetterOrDigit 4 [some (J x0)] [] Q)) : X E d fX5_isLetterOrDigit 0 [some (J x0)] [] S (mI M) Q := by
  refine X_iload_n 1 (by decide +kernel : decode cX5_isLetterOrDigit 0 = .ok (.iload_n 0, 1)) rfl rfl rfl ?_
  exact X_cs (as := [J x0]) (rest := []) (by decide +kernel : decode cX5_isLetterOrDigit 1 = .ok (.invokestatic 53, 3)) rfl rfl rfl rfl rfl rfl rfl (Nat.le_of_ble_eq_true rfl) hd1 k
theorem kX5_isLetterOrDigit_4 {o0 : Option Value} {t0 : Int} (r1 : R32 t0) (k1 : t0 ≠ 0 → X E d fX5_isLetterOrDigit 14 [o0] [] S (mI M) Q) (k2 : t0 = 0 → X E d fX5_isLetterOrDigit 7 [o0] [] S (mI M) Q) : X E d fX5_isLetterOrDigit 4 [o0] [J t0] S (mI M) Q := by
  exact X_ifne 14 7 (by decide +kernel : decode cX5_isLetterOrDigit 4 = .ok (.ifCond .ne 10, 3)) rfl rfl (by decide) r1 k1 k2
theorem kX5_isLetterOrDigit_7 {x0 : Int} (hd1 : 1 ≤ d) (k : X E (d - 1) fX5_isDigit 0 [some (J x0)] [] S (mI M) (Kr E d fX5_isLetterOrDigit 11 [some (J x0)] [] Q)) : X E d fX5_isLetterOrDigit 7 [some (J x0)] [] S (mI M) Q := by
  refine X_iload_n 8 (by decide +kernel : decode cX5_isLetterOrDigit 7 = .ok (.iload_n 0, 1)) rfl rfl rfl ?_
  exact X_cs (as := [J x0]) (rest := []) (by decide +kernel : decode cX5_isLetterOrDigit 8 = .ok (.invokestatic 60, 3)) rfl rfl rfl rfl rfl rfl rfl (Nat.le_of_ble_eq_true rfl) hd1 k
theorem kX5_isLetterOrDigit_11 {o0 : Option Value} {t0 : Int} (r1 : R32 t0) (k1 : t0 = 0 → X E d fX5_isLetterOrDigit 18 [o0] [] S (mI M) Q) (k2 : t0 ≠ 0 → X E d fX5_isLetterOrDigit 14 [o0] [] S (mI M) Q) : X E d fX5_isLetterOrDigit 11 [o0] [J t0] S (mI M) Q := by
  exact X_ifeq 18 14 (by decide +kernel : decode cX5_isLetterOrDigit 11 = .ok (.ifCond .eq 7, 3)) rfl rfl (by decide) r1 k1 k2
theorem kX5_isLetterOrDigit_14 {o0 : Option Value} (k : X E d fX5_isLetterOrDigit 19 [o0] [J 1] S (mI M) Q) : X E d fX5_isLetterOrDigit 14 [o0] [] S (mI M) Q := by
  refine X_iconst 15 (by decide +kernel : decode cX5_isLetterOrDigit 14 = .ok (.iconst 1, 1)) rfl rfl ?_
  exact X_goto 19 (by decide +kernel : decode cX5_isLetterOrDigit 15 = .ok (.goto 4, 3)) rfl (by decide) k
theorem kX5_isLetterOrDigit_18 {o0 : Option Value} (k : X E d fX5_isLetterOrDigit 19 [o0] [J 0] S (mI M) Q) : X E d fX5_isLetterOrDigit 18 [o0] [] S (mI M) Q := by
  refine X_iconst 19 (by decide +kernel : decode cX5_isLetterOrDigit 18 = .ok (.iconst 0, 1)) rfl rfl ?_
  exact k
theorem kX5_isLetterOrDigit_19 {o0 : Option Value} {t0 : Int} (h1 : narrow .boolean (J t0) = J t0) (q : Q (some (some (J t0))) S (mI M)) : X E d fX5_isLetterOrDigit 19 [o0] [J t0] S (mI M) Q := by
  exact X_iret (by decide +kernel : decode cX5_isLetterOrDigit 19 = .ok (.ireturn, 1)) rfl rfl h1 q
theorem kX5_isDigit_0 {x0 : Int} (r1 : R32 x0) (k1 : x0 < 48 → X E d fX5_isDigit 16 [some (J x0)] [] S (mI M) Q) (k2 : 48 ≤ x0 → X E d fX5_isDigit 6 [some (J x0)] [] S (mI M) Q) : X E d fX5_isDigit 0 [some (J x0)] [] S (mI M) Q := by
  refine X_iload_n 1 (by decide +kernel : decode cX5_isDigit 0 = .ok (.iload_n 0, 1)) rfl rfl rfl ?_
  refine X_bipush 3 (48) (by decide +kernel : decode cX5_isDigit 1 = .ok (.bipush 48, 2)) rfl rfl (by decide +kernel) ?_
  exact X_icmplt 16 6 (by decide +kernel : decode cX5_isDigit 3 = .ok (.if_icmp .lt 13, 3)) rfl rfl (by decide) r1 ⟨by decide, by decide⟩ k1 k2
theorem kX5_isDigit_6 {x0 : Int} (r1 : R32 x0) (k1 : 57 < x0 → X E d fX5_isDigit 16 [some (J x0)] [] S (mI M) Q) (k2 : x0 ≤ 57 → X E d fX5_isDigit 12 [some (J x0)] [] S (mI M) Q) : X E d fX5_isDigit 6 [some (J x0)] [] S (mI M) Q := by
  refine X_iload_n 7 (by decide +kernel : decode cX5_isDigit 6 = .ok (.iload_n 0, 1)) rfl rfl rfl ?_
  refine X_bipush 9 (57) (by decide +kernel : decode cX5_isDigit 7 = .ok (.bipush 57, 2)) rfl rfl (by decide +kernel) ?_
  exact X_icmpgt 16 12 (by decide +kernel : decode cX5_isDigit 9 = .ok (.if_icmp .gt 7, 3)) rfl rfl (by decide) r1 ⟨by decide, by decide⟩ k1 k2
theorem kX5_isDigit_12 {o0 : Option Value} (k : X E d fX5_isDigit 17 [o0] [J 1] S (mI M) Q) : X E d fX5_isDigit 12 [o0] [] S (mI M) Q := by
  refine X_iconst 13 (by decide +kernel : decode cX5_isDigit 12 = .ok (.iconst 1, 1)) rfl rfl ?_
  exact X_goto 17 (by decide +kernel : decode cX5_isDigit 13 = .ok (.goto 4, 3)) rfl (by decide) k
theorem kX5_isDigit_16 {o0 : Option Value} (k : X E d fX5_isDigit 17 [o0] [J 0] S (mI M) Q) : X E d fX5_isDigit 16 [o0] [] S (mI M) Q := by
  refine X_iconst 17 (by decide +kernel : decode cX5_isDigit 16 = .ok (.iconst 0, 1)) rfl rfl ?_
  exact k
theorem kX5_isDigit_17 {o0 : Option Value} {t0 : Int} (h1 : narrow .boolean (J t0) = J t0) (q : Q (some (some (J t0))) S (mI M)) : X E d fX5_isDigit 17 [o0] [J t0] S (mI M) Q := by
  exact X_iret (by decide +kernel : decode cX5_isDigit 17 = .ok (.ireturn, 1)) rfl rfl h1 q
theorem kX5_isSymbol_0 {x0 : Int} (r1 : R32 x0) (k1 : x0 ≤ 0 → X E d fX5_isSymbol 18 [some (J x0)] [] S (mI M) Q) (k2 : 0 < x0 → X E d fX5_isSymbol 4 [some (J x0)] [] S (mI M) Q) : X E d fX5_isSymbol 0 [some (J x0)] [] S (mI M) Q := by
  refine X_iload_n 1 (by decide +kernel : decode cX5_isSymbol 0 = .ok (.iload_n 0, 1)) rfl rfl rfl ?_
  exact X_ifle 18 4 (by decide +kernel : decode cX5_isSymbol 1 = .ok (.ifCond .le 17, 3)) rfl rfl (by decide) r1 k1 k2
theorem kX5_isSymbol_4 {x0 : Int} {b1 : Nat} (e2 : E 111 = .ref b1) (hd1 : 1 ≤ d) (k : X E (d - 1) fJ0_indexOf_0f7a4 0 [some (.ref b1), some (J (((Int32.ofInt x0).toUInt32 % 65536).toInt32.toInt))] [] S (mI M) (Kr E d fX5_isSymbol 11 [some (J x0)] [] Q)) (g3 : aKd S b1 = 0) : X E d fX5_isSymbol 4 [some (J x0)] [] S (mI M) Q := by
  refine X_ldcS 6 (by decide +kernel : decode cX5_isSymbol 4 = .ok (.ldc 69, 2)) rfl rfl rfl rfl e2 ?_
  refine X_iload_n 7 (by decide +kernel : decode cX5_isSymbol 6 = .ok (.iload_n 0, 1)) rfl rfl rfl ?_
  refine X_i2c 8 (by decide +kernel : decode cX5_isSymbol 7 = .ok (.i2c, 1)) rfl rfl ?_
  exact X_cv (as := [J (((Int32.ofInt x0).toUInt32 % 65536).toInt32.toInt)]) (rest := []) (by decide +kernel : decode cX5_isSymbol 8 = .ok (.invokevirtual 71, 3)) (Or.inl ⟨rfl, rfl, rfl⟩) rfl rfl rfl rfl rfl (Nat.le_of_ble_eq_true rfl) (Or.inr (Or.inr (by rw [g3]; rfl))) hd1 k
theorem kX5_isSymbol_11 {o0 : Option Value} {t0 : Int} (r1 : R32 t0) (k1 : t0 < 0 → X E d fX5_isSymbol 18 [o0] [] S (mI M) Q) (k2 : 0 ≤ t0 → X E d fX5_isSymbol 14 [o0] [] S (mI M) Q) : X E d fX5_isSymbol 11 [o0] [J t0] S (mI M) Q := by
  exact X_iflt 18 14 (by decide +kernel : decode cX5_isSymbol 11 = .ok (.ifCond .lt 7, 3)) rfl rfl (by decide) r1 k1 k2
theorem kX5_isSymbol_14 {o0 : Option Value} (k : X E d fX5_isSymbol 19 [o0] [J 1] S (mI M) Q) : X E d fX5_isSymbol 14 [o0] [] S (mI M) Q := by
  refine X_iconst 15 (by decide +kernel : decode cX5_isSymbol 14 = .ok (.iconst 1, 1)) rfl rfl ?_
  exact X_goto 19 (by decide +kernel : decode cX5_isSymbol 15 = .ok (.goto 4, 3)) rfl (by decide) k
theorem kX5_isSymbol_18 {o0 : Option Value} (k : X E d fX5_isSymbol 19 [o0] [J 0] S (mI M) Q) : X E d fX5_isSymbol 18 [o0] [] S (mI M) Q := by
  refine X_iconst 19 (by decide +kernel : decode cX5_isSymbol 18 = .ok (.iconst 0, 1)) rfl rfl ?_
  exact k
theorem kX5_isSymbol_19 {o0 : Option Value} {t0 : Int} (h1 : narrow .boolean (J t0) = J t0) (q : Q (some (some (J t0))) S (mI M)) : X E d fX5_isSymbol 19 [o0] [J t0] S (mI M) Q := by
  exact X_iret (by decide +kernel : decode cX5_isSymbol 19 = .ok (.ireturn, 1)) rfl rfl h1 q
theorem kX5_kindAt_0 {a0 : Nat} {x1 : Int} {x2 : Int} {o3 : Option Value} {o4 : Option Value} (hd1 : 1 ≤ d) (k : X E (d - 1) fX5_byteAt 0 [some (.ref a0), some (J x1), some (J x2)] [] S (mI M) (Kr E d fX5_kindAt 6 [some (.ref a0), some (J x1), some (J x2), o3, o4] [] Q)) : X E d fX5_kindAt 0 [some (.ref a0), some (J x1), some (J x2), o3, o4] [] S (mI M) Q := by
  refine X_aload_n 1 (by decide +kernel : decode cX5_kindAt 0 = .ok (.aload_n 0, 1)) rfl rfl rfl ?_
  refine X_iload_n 2 (by decide +kernel : decode cX5_kindAt 1 = .ok (.iload_n 1, 1)) rfl rfl rfl ?_
  refine X_iload_n 3 (by decide +kernel : decode cX5_kindAt 2 = .ok (.iload_n 2, 1)) rfl rfl rfl ?_
  exact X_cs (as := [J x2, J x1, .ref a0]) (rest := []) (by decide +kernel : decode cX5_kindAt 3 = .ok (.invokestatic 50, 3)) rfl rfl rfl rfl rfl rfl rfl (Nat.le_of_ble_eq_true rfl) hd1 k
theorem kX5_kindAt_6 {o0 : Option Value} {x1 : Int} {x2 : Int} {o3 : Option Value} {o4 : Option Value} {t0 : Int} (r1 : R32 x1) (r2 : R32 x2) (k1 : x1 < x2 → X E d fX5_kindAt 16 [o0, some (J x1), some (J x2), o3, some (J t0)] [] S (mI M) Q) (k2 : x2 ≤ x1 → X E d fX5_kindAt 13 [o0, some (J x1), some (J x2), o3, some (J t0)] [] S (mI M) Q) : X E d fX5_kindAt 6 [o0, some (J x1), some (J x2), o3, o4] [J t0] S (mI M) Q := by
  refine X_istore 8 (by decide +kernel : decode cX5_kindAt 6 = .ok (.istore 4, 2)) rfl rfl (Nat.le_of_ble_eq_true rfl) rfl ?_
  refine X_iload_n 9 (by decide +kernel : decode cX5_kindAt 8 = .ok (.iload_n 1, 1)) rfl rfl rfl ?_
  refine X_iload_n 10 (by decide +kernel : decode cX5_kindAt 9 = .ok (.iload_n 2, 1)) rfl rfl rfl ?_
  exact X_icmplt 16 13 (by decide +kernel : decode cX5_kindAt 10 = .ok (.if_icmp .lt 6, 3)) rfl rfl (by decide) r1 r2 k1 k2
theorem kX5_kindAt_13 {o0 : Option Value} {o1 : Option Value} {o2 : Option Value} {o3 : Option Value} {o4 : Option Value} (q : Q (some (some (J 49))) S (mI M)) : X E d fX5_kindAt 13 [o0, o1, o2, o3, o4] [] S (mI M) Q := by
  refine X_bipush 15 (49) (by decide +kernel : decode cX5_kindAt 13 = .ok (.bipush 49, 2)) rfl rfl (by decide +kernel) ?_
  exact X_iret (by decide +kernel : decode cX5_kindAt 15 = .ok (.ireturn, 1)) rfl rfl rfl q
theorem kX5_kindAt_16 {o0 : Option Value} {o1 : Option Value} {o2 : Option Value} {o3 : Option Value} {x4 : Int} (hd1 : 1 ≤ d) (k : X E (d - 1) fX5_isLetter 0 [some (J x4)] [] S (mI M) (Kr E d fX5_kindAt 21 [o0, o1, o2, o3, some (J x4)] [] Q)) : X E d fX5_kindAt 16 [o0, o1, o2, o3, some (J x4)] [] S (mI M) Q := by
  refine X_iload 18 (by decide +kernel : decode cX5_kindAt 16 = .ok (.iload 4, 2)) rfl rfl rfl ?_
  exact X_cs (as := [J x4]) (rest := []) (by decide +kernel : decode cX5_kindAt 18 = .ok (.invokestatic 53, 3)) rfl rfl rfl rfl rfl rfl rfl (Nat.le_of_ble_eq_true rfl) hd1 k
theorem kX5_kindAt_21 {o0 : Option Value} {o1 : Option Value} {o2 : Option Value} {o3 : Option Value} {o4 : Option Value} {t0 : Int} (r1 : R32 t0) (k1 : t0 = 0 → X E d fX5_kindAt 42 [o0, o1, o2, o3, o4] [] S (mI M) Q) (k2 : t0 ≠ 0 → X E d fX5_kindAt 24 [o0, o1, o2, o3, o4] [] S (mI M) Q) : X E d fX5_kindAt 21 [o0, o1, o2, o3, o4] [J t0] S (mI M) Q := by
  exact X_ifeq 42 24 (by decide +kernel : decode cX5_kindAt 21 = .ok (.ifCond .eq 21, 3)) rfl rfl (by decide) r1 k1 k2
theorem kX5_kindAt_24 {o0 : Option Value} {o1 : Option Value} {o2 : Option Value} {x3 : Int} {o4 : Option Value} (r1 : R32 x3) (k1 : x3 ≤ 10 → X E d fX5_kindAt 35 [o0, o1, o2, some (J x3), o4] [] S (mI M) Q) (k2 : 10 < x3 → X E d fX5_kindAt 30 [o0, o1, o2, some (J x3), o4] [] S (mI M) Q) : X E d fX5_kindAt 24 [o0, o1, o2, some (J x3), o4] [] S (mI M) Q := by
  refine X_iload_n 25 (by decide +kernel : decode cX5_kindAt 24 = .ok (.iload_n 3, 1)) rfl rfl rfl ?_
  refine X_bipush 27 (10) (by decide +kernel : decode cX5_kindAt 25 = .ok (.bipush 10, 2)) rfl rfl (by decide +kernel) ?_
  exact X_icmple 35 30 (by decide +kernel : decode cX5_kindAt 27 = .ok (.if_icmp .le 8, 3)) rfl rfl (by decide) r1 ⟨by decide, by decide⟩ k1 k2
theorem kX5_kindAt_30 {o0 : Option Value} {o1 : Option Value} {o2 : Option Value} {o3 : Option Value} {o4 : Option Value} (k : X E d fX5_kindAt 41 [o0, o1, o2, o3, o4] [J 50] S (mI M) Q) : X E d fX5_kindAt 30 [o0, o1, o2, o3, o4] [] S (mI M) Q := by
  refine X_bipush 32 (50) (by decide +kernel : decode cX5_kindAt 30 = .ok (.bipush 50, 2)) rfl rfl (by decide +kernel) ?_
  exact X_goto 41 (by decide +kernel : decode cX5_kindAt 32 = .ok (.goto 9, 3)) rfl (by decide) k
theorem kX5_kindAt_35 {a0 : Nat} {x1 : Int} {o2 : Option Value} {x3 : Int} {o4 : Option Value} (hd1 : 1 ≤ d) (k : X E (d - 1) fX5_wordKind 0 [some (.ref a0), some (J x1), some (J x3), none, none, none] [] S (mI M) (Kr E d fX5_kindAt 41 [some (.ref a0), some (J x1), o2, some (J x3), o4] [] Q)) : X E d fX5_kindAt 35 [some (.ref a0), some (J x1), o2, some (J x3), o4] [] S (mI M) Q := by
  refine X_aload_n 36 (by decide +kernel : decode cX5_kindAt 35 = .ok (.aload_n 0, 1)) rfl rfl rfl ?_
  refine X_iload_n 37 (by decide +kernel : decode cX5_kindAt 36 = .ok (.iload_n 1, 1)) rfl rfl rfl ?_
  refine X_iload_n 38 (by decide +kernel : decode cX5_kindAt 37 = .ok (.iload_n 3, 1)) rfl rfl rfl ?_
  exact X_cs (as := [J x3, J x1, .ref a0]) (rest := []) (by decide +kernel : decode cX5_kindAt 38 = .ok (.invokestatic 66, 3)) rfl rfl rfl rfl rfl rfl rfl (Nat.le_of_ble_eq_true rfl) hd1 k
theorem kX5_kindAt_41 {o0 : Option Value} {o1 : Option Value} {o2 : Option Value} {o3 : Option Value} {o4 : Option Value} {t0 : Int} (q : Q (some (some (J t0))) S (mI M)) : X E d fX5_kindAt 41 [o0, o1, o2, o3, o4] [J t0] S (mI M) Q := by
  exact X_iret (by decide +kernel : decode cX5_kindAt 41 = .ok (.ireturn, 1)) rfl rfl rfl q
theorem kX5_kindAt_42 {o0 : Option Value} {o1 : Option Value} {o2 : Option Value} {o3 : Option Value} {x4 : Int} (hd1 : 1 ≤ d) (k : X E (d - 1) fX5_isDigit 0 [some (J x4)] [] S (mI M) (Kr E d fX5_kindAt 47 [o0, o1, o2, o3, some (J x4)] [] Q)) : X E d fX5_kindAt 42 [o0, o1, o2, o3, some (J x4)] [] S (mI M) Q := by
  refine X_iload 44 (by decide +kernel : decode cX5_kindAt 42 = .ok (.iload 4, 2)) rfl rfl rfl ?_
  exact X_cs (as := [J x4]) (rest := []) (by decide +kernel : decode cX5_kindAt 44 = .ok (.invokestatic 60, 3)) rfl rfl rfl rfl rfl rfl rfl (Nat.le_of_ble_eq_true rfl) hd1 k
theorem kX5_kindAt_47 {o0 : Option Value} {o1 : Option Value} {o2 : Option Value} {o3 : Option Value} {o4 : Option Value} {t0 : Int} (r1 : R32 t0) (k1 : t0 = 0 → X E d fX5_kindAt 64 [o0, o1, o2, o3, o4] [] S (mI M) Q) (k2 : t0 ≠ 0 → X E d fX5_kindAt 50 [o0, o1, o2, o3, o4] [] S (mI M) Q) : X E d fX5_kindAt 47 [o0, o1, o2, o3, o4] [J t0] S (mI M) Q := by
  exact X_ifeq 64 50 (by decide +kernel : decode cX5_kindAt 47 = .ok (.ifCond .eq 17, 3)) rfl rfl (by decide) r1 k1 k2
theorem kX5_kindAt_50 {o0 : Option Value} {o1 : Option Value} {o2 : Option Value} {x3 : Int} {o4 : Option Value} (r1 : R32 x3) (k1 : x3 ≤ 6 → X E d fX5_kindAt 61 [o0, o1, o2, some (J x3), o4] [] S (mI M) Q) (k2 : 6 < x3 → X E d fX5_kindAt 56 [o0, o1, o2, some (J x3), o4] [] S (mI M) Q) : X E d fX5_kindAt 50 [o0, o1, o2, some (J x3), o4] [] S (mI M) Q := by
  refine X_iload_n 51 (by decide +kernel : decode cX5_kindAt 50 = .ok (.iload_n 3, 1)) rfl rfl rfl ?_
  refine X_bipush 53 (6) (by decide +kernel : decode cX5_kindAt 51 = .ok (.bipush 6, 2)) rfl rfl (by decide +kernel) ?_
  exact X_icmple 61 56 (by decide +kernel : decode cX5_kindAt 53 = .ok (.if_icmp .le 8, 3)) rfl rfl (by decide) r1 ⟨by decide, by decide⟩ k1 k2
theorem kX5_kindAt_56 {o0 : Option Value} {o1 : Option Value} {o2 : Option Value} {o3 : Option Value} {o4 : Option Value} (k : X E d fX5_kindAt 63 [o0, o1, o2, o3, o4] [J 50] S (mI M) Q) : X E d fX5_kindAt 56 [o0, o1, o2, o3, o4] [] S (mI M) Q := by
  refine X_bipush 58 (50) (by decide +kernel : decode cX5_kindAt 56 = .ok (.bipush 50, 2)) rfl rfl (by decide +kernel) ?_
  exact X_goto 63 (by decide +kernel : decode cX5_kindAt 58 = .ok (.goto 5, 3)) rfl (by decide) k
theorem kX5_kindAt_61 {o0 : Option Value} {o1 : Option Value} {o2 : Option Value} {o3 : Option Value} {o4 : Option Value} (k : X E d fX5_kindAt 63 [o0, o1, o2, o3, o4] [J 48] S (mI M) Q) : X E d fX5_kindAt 61 [o0, o1, o2, o3, o4] [] S (mI M) Q := by
  refine X_bipush 63 (48) (by decide +kernel : decode cX5_kindAt 61 = .ok (.bipush 48, 2)) rfl rfl (by decide +kernel) ?_
  exact k
theorem kX5_kindAt_63 {o0 : Option Value} {o1 : Option Value} {o2 : Option Value} {o3 : Option Value} {o4 : Option Value} {t0 : Int} (q : Q (some (some (J t0))) S (mI M)) : X E d fX5_kindAt 63 [o0, o1, o2, o3, o4] [J t0] S (mI M) Q := by
  exact X_iret (by decide +kernel : decode cX5_kindAt 63 = .ok (.ireturn, 1)) rfl rfl rfl q
theorem kX5_kindAt_64 {o0 : Option Value} {o1 : Option Value} {o2 : Option Value} {x3 : Int} {o4 : Option Value} (r1 : R32 x3) (k1 : x3 ≠ 2 → X E d fX5_kindAt 84 [o0, o1, o2, some (J x3), o4] [] S (mI M) Q) (k2 : x3 = 2 → X E d fX5_kindAt 69 [o0, o1, o2, some (J x3), o4] [] S (mI M) Q) : X E d fX5_kindAt 64 [o0, o1, o2, some (J x3), o4] [] S (mI M) Q := by
  refine X_iload_n 65 (by decide +kernel : decode cX5_kindAt 64 = .ok (.iload_n 3, 1)) rfl rfl rfl ?_
  refine X_iconst 66 (by decide +kernel : decode cX5_kindAt 65 = .ok (.iconst 2, 1)) rfl rfl ?_
  exact X_icmpne 84 69 (by decide +kernel : decode cX5_kindAt 66 = .ok (.if_icmp .ne 18, 3)) rfl rfl (by decide) r1 ⟨by decide, by decide⟩ k1 k2
theorem kX5_kindAt_69 {o0 : Option Value} {o1 : Option Value} {o2 : Option Value} {o3 : Option Value} {x4 : Int} (r1 : R32 x4) (k1 : x4 ≠ 60 → X E d fX5_kindAt 81 [o0, o1, o2, o3, some (J x4)] [] S (mI M) Q) (k2 : x4 = 60 → X E d fX5_kindAt 76 [o0, o1, o2, o3, some (J x4)] [] S (mI M) Q) : X E d fX5_kindAt 69 [o0, o1, o2, o3, some (J x4)] [] S (mI M) Q := by
  refine X_iload 71 (by decide +kernel : decode cX5_kindAt 69 = .ok (.iload 4, 2)) rfl rfl rfl ?_
  refine X_bipush 73 (60) (by decide +kernel : decode cX5_kindAt 71 = .ok (.bipush 60, 2)) rfl rfl (by decide +kernel) ?_
  exact X_icmpne 81 76 (by decide +kernel : decode cX5_kindAt 73 = .ok (.if_icmp .ne 8, 3)) rfl rfl (by decide) r1 ⟨by decide, by decide⟩ k1 k2
theorem kX5_kindAt_76 {o0 : Option Value} {o1 : Option Value} {o2 : Option Value} {o3 : Option Value} {o4 : Option Value} (k : X E d fX5_kindAt 83 [o0, o1, o2, o3, o4] [J 45] S (mI M) Q) : X E d fX5_kindAt 76 [o0, o1, o2, o3, o4] [] S (mI M) Q := by
  refine X_bipush 78 (45) (by decide +kernel : decode cX5_kindAt 76 = .ok (.bipush 45, 2)) rfl rfl (by decide +kernel) ?_
  exact X_goto 83 (by decide +kernel : decode cX5_kindAt 78 = .ok (.goto 5, 3)) rfl (by decide) k
theorem kX5_kindAt_81 {o0 : Option Value} {o1 : Option Value} {o2 : Option Value} {o3 : Option Value} {o4 : Option Value} (k : X E d fX5_kindAt 83 [o0, o1, o2, o3, o4] [J 46] S (mI M) Q) : X E d fX5_kindAt 81 [o0, o1, o2, o3, o4] [] S (mI M) Q := by
  refine X_bipush 83 (46) (by decide +kernel : decode cX5_kindAt 81 = .ok (.bipush 46, 2)) rfl rfl (by decide +kernel) ?_
  exact k
theorem kX5_kindAt_83 {o0 : Option Value} {o1 : Option Value} {o2 : Option Value} {o3 : Option Value} {o4 : Option Value} {t0 : Int} (q : Q (some (some (J t0))) S (mI M)) : X E d fX5_kindAt 83 [o0, o1, o2, o3, o4] [J t0] S (mI M) Q := by
  exact X_iret (by decide +kernel : decode cX5_kindAt 83 = .ok (.ireturn, 1)) rfl rfl rfl q
theorem kX5_kindAt_84 {o0 : Option Value} {o1 : Option Value} {o2 : Option Value} {x3 : Int} {o4 : Option Value} (r1 : R32 x3) (k1 : x3 ≠ 1 → X E d fX5_kindAt 103 [o0, o1, o2, some (J x3), o4] [] S (mI M) Q) (k2 : x3 = 1 → X E d fX5_kindAt 89 [o0, o1, o2, some (J x3), o4] [] S (mI M) Q) : X E d fX5_kindAt 84 [o0, o1, o2, some (J x3), o4] [] S (mI M) Q := by
  refine X_iload_n 85 (by decide +kernel : decode cX5_kindAt 84 = .ok (.iload_n 3, 1)) rfl rfl rfl ?_
  refine X_iconst 86 (by decide +kernel : decode cX5_kindAt 85 = .ok (.iconst 1, 1)) rfl rfl ?_
  exact X_icmpne 103 89 (by decide +kernel : decode cX5_kindAt 86 = .ok (.if_icmp .ne 17, 3)) rfl rfl (by decide) r1 ⟨by decide, by decide⟩ k1 k2
theorem kX5_kindAt_89 {o0 : Option Value} {o1 : Option Value} {o2 : Option Value} {o3 : Option Value} {x4 : Int} {b1 : Nat} (e2 : E 111 = .ref b1) (hd1 : 1 ≤ d) (k : X E (d - 1) fJ0_indexOf_0f7a4 0 [some (.ref b1), some (J (((Int32.ofInt x4).toUInt32 % 65536).toInt32.toInt))] [] S (mI M) (Kr E d fX5_kindAt 99 [o0, o1, o2, o3, some (J x4)] [J 32] Q)) (g3 : aKd S b1 = 0) : X E d fX5_kindAt 89 [o0, o1, o2, o3, some (J x4)] [] S (mI M) Q := by
  refine X_bipush 91 (32) (by decide +kernel : decode cX5_kindAt 89 = .ok (.bipush 32, 2)) rfl rfl (by decide +kernel) ?_
  refine X_ldcS 93 (by decide +kernel : decode cX5_kindAt 91 = .ok (.ldc 69, 2)) rfl rfl rfl rfl e2 ?_
  refine X_iload 95 (by decide +kernel : decode cX5_kindAt 93 = .ok (.iload 4, 2)) rfl rfl rfl ?_
  refine X_i2c 96 (by decide +kernel : decode cX5_kindAt 95 = .ok (.i2c, 1)) rfl rfl ?_
  exact X_cv (as := [J (((Int32.ofInt x4).toUInt32 % 65536).toInt32.toInt)]) (rest := [J 32]) (by decide +kernel : decode cX5_kindAt 96 = .ok (.invokevirtual 71, 3)) (Or.inl ⟨rfl, rfl, rfl⟩) rfl rfl rfl rfl rfl (Nat.le_of_ble_eq_true rfl) (Or.inr (Or.inr (by rw [g3]; rfl))) hd1 k
theorem kX5_kindAt_99 {o0 : Option Value} {o1 : Option Value} {o2 : Option Value} {o3 : Option Value} {o4 : Option Value} {t0 : Int} {t1 : Int} (k : X E d fX5_kindAt 105 [o0, o1, o2, o3, o4] [J (t1 + t0)] S (mI M) Q) : X E d fX5_kindAt 99 [o0, o1, o2, o3, o4] [J t0, J t1] S (mI M) Q := by
  refine X_iadd 100 (by decide +kernel : decode cX5_kindAt 99 = .ok (.iadd, 1)) rfl rfl ?_
  exact X_goto 105 (by decide +kernel : decode cX5_kindAt 100 = .ok (.goto 5, 3)) rfl (by decide) k
theorem kX5_kindAt_103 {o0 : Option Value} {o1 : Option Value} {o2 : Option Value} {o3 : Option Value} {o4 : Option Value} (k : X E d fX5_kindAt 105 [o0, o1, o2, o3, o4] [J 50] S (mI M) Q) : X E d fX5_kindAt 103 [o0, o1, o2, o3, o4] [] S (mI M) Q := by
  refine X_bipush 105 (50) (by decide +kernel : decode cX5_kindAt 103 = .ok (.bipush 50, 2)) rfl rfl (by decide +kernel) ?_
  exact k
theorem kX5_kindAt_105 {o0 : Option Value} {o1 : Option Value} {o2 : Option Value} {o3 : Option Value} {o4 : Option Value} {t0 : Int} (q : Q (some (some (J t0))) S (mI M)) : X E d fX5_kindAt 105 [o0, o1, o2, o3, o4] [J t0] S (mI M) Q := by
  exact X_iret (by decide +kernel : decode cX5_kindAt 105 = .ok (.ireturn, 1)) rfl rfl rfl q
theorem kX5_wordKind_0 {o0 : Option Value} {o1 : Option Value} {o2 : Option Value} {o3 : Option Value} {o4 : Option Value} {o5 : Option Value} (k : X E d fX5_wordKind 8 [o0, o1, o2, some (J 0), some (J 0), some (J 0)] [] S (mI M) Q) : X E d fX5_wordKind 0 [o0, o1, o2, o3, o4, o5] [] S (mI M) Q := by
  refine X_iconst 1 (by decide +kernel : decode cX5_wordKind 0 = .ok (.iconst 0, 1)) rfl rfl ?_
  refine X_istore_n 2 (by decide +kernel : decode cX5_wordKind 1 = .ok (.istore_n 3, 1)) rfl rfl (Nat.le_of_ble_eq_true rfl) rfl ?_
  refine X_iconst 3 (by decide +kernel : decode cX5_wordKind 2 = .ok (.iconst 0, 1)) rfl rfl ?_
  refine X_istore 5 (by decide +kernel : decode cX5_wordKind 3 = .ok (.istore 4, 2)) rfl rfl (Nat.le_of_ble_eq_true rfl) rfl ?_
  refine X_iconst 6 (by decide +kernel : decode cX5_wordKind 5 = .ok (.iconst 0, 1)) rfl rfl ?_
  refine X_istore 8 (by decide +kernel : decode cX5_wordKind 6 = .ok (.istore 5, 2)) rfl rfl (Nat.le_of_ble_eq_true rfl) rfl ?_
  exact k
theorem kX5_wordKind_8 {o0 : Option Value} {o1 : Option Value} {o2 : Option Value} {o3 : Option Value} {o4 : Option Value} {x5 : Int} {b1 : Nat} (e2 : E 112 = .ref b1) (hd1 : 1 ≤ d) (k : X E (d - 1) fJ0_length_8abf5 0 [some (.ref b1)] [] S (mI M) (Kr E d fX5_wordKind 15 [o0, o1, o2, o3, o4, some (J x5)] [J x5] Q)) (g3 : aKd S b1 = 0) : X E d fX5_wordKind 8 [o0, o1, o2, o3, o4, some (J x5)] [] S (mI M) Q := by
  refine X_iload 10 (by decide +kernel : decode cX5_wordKind 8 = .ok (.iload 5, 2)) rfl rfl rfl ?_
  refine X_ldcS 12 (by decide +kernel : decode cX5_wordKind 10 = .ok (.ldc 77, 2)) rfl rfl rfl rfl e2 ?_
  exact X_cv (as := []) (rest := [J x5]) (by decide +kernel : decode cX5_wordKind 12 = .ok (.invokevirtual 79, 3)) (Or.inl ⟨rfl, rfl, rfl⟩) rfl rfl rfl rfl rfl (Nat.le_of_ble_eq_true rfl) (Or.inr (Or.inr (by rw [g3]; rfl))) hd1 k
theorem kX5_wordKind_15 {o0 : Option Value} {o1 : Option Value} {o2 : Option Value} {o3 : Option Value} {o4 : Option Value} {o5 : Option Value} {t0 : Int} {t1 : Int} (r1 : R32 t1) (r2 : R32 t0) (k1 : t0 < t1 → X E d fX5_wordKind 77 [o0, o1, o2, o3, o4, o5] [] S (mI M) Q) (k2 : t1 ≤ t0 → X E d fX5_wordKind 18 [o0, o1, o2, o3, o4, o5] [] S (mI M) Q) : X E d fX5_wordKind 15 [o0, o1, o2, o3, o4, o5] [J t0, J t1] S (mI M) Q := by
  exact X_icmpgt 77 18 (by decide +kernel : decode cX5_wordKind 15 = .ok (.if_icmp .gt 62, 3)) rfl rfl (by decide) r1 r2 k1 k2
theorem kX5_wordKind_18 {o0 : Option Value} {o1 : Option Value} {o2 : Option Value} {o3 : Option Value} {o4 : Option Value} {x5 : Int} {b1 : Nat} (e2 : E 112 = .ref b1) (hd1 : 1 ≤ d) (k : X E (d - 1) fJ0_length_8abf5 0 [some (.ref b1)] [] S (mI M) (Kr E d fX5_wordKind 25 [o0, o1, o2, o3, o4, some (J x5)] [J x5] Q)) (g3 : aKd S b1 = 0) : X E d fX5_wordKind 18 [o0, o1, o2, o3, o4, some (J x5)] [] S (mI M) Q := by
  refine X_iload 20 (by decide +kernel : decode cX5_wordKind 18 = .ok (.iload 5, 2)) rfl rfl rfl ?_
  refine X_ldcS 22 (by decide +kernel : decode cX5_wordKind 20 = .ok (.ldc 77, 2)) rfl rfl rfl rfl e2 ?_
  exact X_cv (as := []) (rest := [J x5]) (by decide +kernel : decode cX5_wordKind 22 = .ok (.invokevirtual 79, 3)) (Or.inl ⟨rfl, rfl, rfl⟩) rfl rfl rfl rfl rfl (Nat.le_of_ble_eq_true rfl) (Or.inr (Or.inr (by rw [g3]; rfl))) hd1 k
theorem kX5_wordKind_25 {o0 : Option Value} {o1 : Option Value} {o2 : Option Value} {o3 : Option Value} {o4 : Option Value} {o5 : Option Value} {t0 : Int} {t1 : Int} (r1 : R32 t1) (r2 : R32 t0) (k1 : t1 = t0 → X E d fX5_wordKind 40 [o0, o1, o2, o3, o4, o5] [] S (mI M) Q) (k2 : t1 ≠ t0 → X E d fX5_wordKind 28 [o0, o1, o2, o3, o4, o5] [] S (mI M) Q) : X E d fX5_wordKind 25 [o0, o1, o2, o3, o4, o5] [J t0, J t1] S (mI M) Q := by
  exact X_icmpeq 40 28 (by decide +kernel : decode cX5_wordKind 25 = .ok (.if_icmp .eq 15, 3)) rfl rfl (by decide) r1 r2 k1 k2
theorem kX5_wordKind_28 {o0 : Option Value} {o1 : Option Value} {o2 : Option Value} {o3 : Option Value} {o4 : Option Value} {x5 : Int} {b1 : Nat} (e2 : E 112 = .ref b1) (hd1 : 1 ≤ d) (k : X E (d - 1) fJ0_charAt_5068e 0 [some (.ref b1), some (J x5)] [] S (mI M) (Kr E d fX5_wordKind 35 [o0, o1, o2, o3, o4, some (J x5)] [] Q)) (g3 : aKd S b1 = 0) : X E d fX5_wordKind 28 [o0, o1, o2, o3, o4, some (J x5)] [] S (mI M) Q := by
  refine X_ldcS 30 (by decide +kernel : decode cX5_wordKind 28 = .ok (.ldc 77, 2)) rfl rfl rfl rfl e2 ?_
  refine X_iload 32 (by decide +kernel : decode cX5_wordKind 30 = .ok (.iload 5, 2)) rfl rfl rfl ?_
  exact X_cv (as := [J x5]) (rest := []) (by decide +kernel : decode cX5_wordKind 32 = .ok (.invokevirtual 82, 3)) (Or.inl ⟨rfl, rfl, rfl⟩) rfl rfl rfl rfl rfl (Nat.le_of_ble_eq_true rfl) (Or.inr (Or.inr (by rw [g3]; rfl))) hd1 k
theorem kX5_wordKind_35 {o0 : Option Value} {o1 : Option Value} {o2 : Option Value} {o3 : Option Value} {o4 : Option Value} {o5 : Option Value} {t0 : Int} (r1 : R32 t0) (k1 : t0 ≠ 32 → X E d fX5_wordKind 71 [o0, o1, o2, o3, o4, o5] [] S (mI M) Q) (k2 : t0 = 32 → X E d fX5_wordKind 40 [o0, o1, o2, o3, o4, o5] [] S (mI M) Q) : X E d fX5_wordKind 35 [o0, o1, o2, o3, o4, o5] [J t0] S (mI M) Q := by
  refine X_bipush 37 (32) (by decide +kernel : decode cX5_wordKind 35 = .ok (.bipush 32, 2)) rfl rfl (by decide +kernel) ?_
  exact X_icmpne 71 40 (by decide +kernel : decode cX5_wordKind 37 = .ok (.if_icmp .ne 34, 3)) rfl rfl (by decide) r1 ⟨by decide, by decide⟩ k1 k2
theorem kX5_wordKind_40 {o0 : Option Value} {o1 : Option Value} {x2 : Int} {o3 : Option Value} {x4 : Int} {x5 : Int} (r1 : R32 (x5 - x4)) (r2 : R32 x2) (k1 : (x5 - x4) ≠ x2 → X E d fX5_wordKind 62 [o0, o1, some (J x2), o3, some (J x4), some (J x5)] [] S (mI M) Q) (k2 : (x5 - x4) = x2 → X E d fX5_wordKind 49 [o0, o1, some (J x2), o3, some (J x4), some (J x5)] [] S (mI M) Q) : X E d fX5_wordKind 40 [o0, o1, some (J x2), o3, some (J x4), some (J x5)] [] S (mI M) Q := by
  refine X_iload 42 (by decide +kernel : decode cX5_wordKind 40 = .ok (.iload 5, 2)) rfl rfl rfl ?_
  refine X_iload 44 (by decide +kernel : decode cX5_wordKind 42 = .ok (.iload 4, 2)) rfl rfl rfl ?_
  refine X_isub 45 (by decide +kernel : decode cX5_wordKind 44 = .ok (.isub, 1)) rfl rfl ?_
  refine X_iload_n 46 (by decide +kernel : decode cX5_wordKind 45 = .ok (.iload_n 2, 1)) rfl rfl rfl ?_
  exact X_icmpne 62 49 (by decide +kernel : decode cX5_wordKind 46 = .ok (.if_icmp .ne 16, 3)) rfl rfl (by decide) r1 r2 k1 k2
theorem kX5_wordKind_49 {a0 : Nat} {x1 : Int} {x2 : Int} {o3 : Option Value} {x4 : Int} {o5 : Option Value} (hd1 : 1 ≤ d) (k : X E (d - 1) fX5_isKeyword 0 [some (.ref a0), some (J x1), some (J x4), some (J x2), none] [] S (mI M) (Kr E d fX5_wordKind 57 [some (.ref a0), some (J x1), some (J x2), o3, some (J x4), o5] [] Q)) : X E d fX5_wordKind 49 [some (.ref a0), some (J x1), some (J x2), o3, some (J x4), o5] [] S (mI M) Q := by
  refine X_aload_n 50 (by decide +kernel : decode cX5_wordKind 49 = .ok (.aload_n 0, 1)) rfl rfl rfl ?_
  refine X_iload_n 51 (by decide +kernel : decode cX5_wordKind 50 = .ok (.iload_n 1, 1)) rfl rfl rfl ?_
  refine X_iload 53 (by decide +kernel : decode cX5_wordKind 51 = .ok (.iload 4, 2)) rfl rfl rfl ?_
  refine X_iload_n 54 (by decide +kernel : decode cX5_wordKind 53 = .ok (.iload_n 2, 1)) rfl rfl rfl ?_
  exact X_cs (as := [J x2, J x4, J x1, .ref a0]) (rest := []) (by decide +kernel : decode cX5_wordKind 54 = .ok (.invokestatic 86, 3)) rfl rfl rfl rfl rfl rfl rfl (Nat.le_of_ble_eq_true rfl) hd1 k
theorem kX5_wordKind_57 {o0 : Option Value} {o1 : Option Value} {o2 : Option Value} {o3 : Option Value} {o4 : Option Value} {o5 : Option Value} {t0 : Int} (r1 : R32 t0) (k1 : t0 = 0 → X E d fX5_wordKind 62 [o0, o1, o2, o3, o4, o5] [] S (mI M) Q) (k2 : t0 ≠ 0 → X E d fX5_wordKind 60 [o0, o1, o2, o3, o4, o5] [] S (mI M) Q) : X E d fX5_wordKind 57 [o0, o1, o2, o3, o4, o5] [J t0] S (mI M) Q := by
  exact X_ifeq 62 60 (by decide +kernel : decode cX5_wordKind 57 = .ok (.ifCond .eq 5, 3)) rfl rfl (by decide) r1 k1 k2
theorem kX5_wordKind_60 {o0 : Option Value} {o1 : Option Value} {o2 : Option Value} {x3 : Int} {o4 : Option Value} {o5 : Option Value} (q : Q (some (some (J x3))) S (mI M)) : X E d fX5_wordKind 60 [o0, o1, o2, some (J x3), o4, o5] [] S (mI M) Q := by
  refine X_iload_n 61 (by decide +kernel : decode cX5_wordKind 60 = .ok (.iload_n 3, 1)) rfl rfl rfl ?_
  exact X_iret (by decide +kernel : decode cX5_wordKind 61 = .ok (.ireturn, 1)) rfl rfl rfl q
theorem kX5_wordKind_62 {o0 : Option Value} {o1 : Option Value} {o2 : Option Value} {x3 : Int} {o4 : Option Value} {x5 : Int} (k : X E d fX5_wordKind 71 [o0, o1, o2, some (J (x3 + 1)), some (J (x5 + 1)), some (J x5)] [] S (mI M) Q) : X E d fX5_wordKind 62 [o0, o1, o2, some (J x3), o4, some (J x5)] [] S (mI M) Q := by
  refine X_iinc 65 (by decide +kernel : decode cX5_wordKind 62 = .ok (.iinc 3 1, 3)) rfl rfl rfl rfl ?_
  refine X_iload 67 (by decide +kernel : decode cX5_wordKind 65 = .ok (.iload 5, 2)) rfl rfl rfl ?_
  refine X_iconst 68 (by decide +kernel : decode cX5_wordKind 67 = .ok (.iconst 1, 1)) rfl rfl ?_
  refine X_iadd 69 (by decide +kernel : decode cX5_wordKind 68 = .ok (.iadd, 1)) rfl rfl ?_
  refine X_istore 71 (by decide +kernel : decode cX5_wordKind 69 = .ok (.istore 4, 2)) rfl rfl (Nat.le_of_ble_eq_true rfl) rfl ?_
  exact k
theorem kX5_wordKind_71 {o0 : Option Value} {o1 : Option Value} {o2 : Option Value} {o3 : Option Value} {o4 : Option Value} {x5 : Int} (k : X E d fX5_wordKind 8 [o0, o1, o2, o3, o4, some (J (x5 + 1))] [] S (mI M) Q) : X E d fX5_wordKind 71 [o0, o1, o2, o3, o4, some (J x5)] [] S (mI M) Q := by
  refine X_iinc 74 (by decide +kernel : decode cX5_wordKind 71 = .ok (.iinc 5 1, 3)) rfl rfl rfl rfl ?_
  exact X_goto 8 (by decide +kernel : decode cX5_wordKind 74 = .ok (.goto (-66), 3)) rfl (by decide) k
theorem kX5_wordKind_77 {o0 : Option Value} {o1 : Option Value} {o2 : Option Value} {o3 : Option Value} {o4 : Option Value} {o5 : Option Value} (q : Q (some (some (J 47))) S (mI M)) : X E d fX5_wordKind 77 [o0, o1, o2, o3, o4, o5] [] S (mI M) Q := by
  refine X_bipush 79 (47) (by decide +kernel : decode cX5_wordKind 77 = .ok (.bipush 47, 2)) rfl rfl (by decide +kernel) ?_
  exact X_iret (by decide +kernel : decode cX5_wordKind 79 = .ok (.ireturn, 1)) rfl rfl rfl q
theorem kX5_isKeyword_0 {o0 : Option Value} {o1 : Option Value} {o2 : Option Value} {o3 : Option Value} {o4 : Option Value} (k : X E d fX5_isKeyword 3 [o0, o1, o2, o3, some (J 0)] [] S (mI M) Q) : X E d fX5_isKeyword 0 [o0, o1, o2, o3, o4] [] S (mI M) Q := by
  refine X_iconst 1 (by decide +kernel : decode cX5_isKeyword 0 = .ok (.iconst 0, 1)) rfl rfl ?_
  refine X_istore 3 (by decide +kernel : decode cX5_isKeyword 1 = .ok (.istore 4, 2)) rfl rfl (Nat.le_of_ble_eq_true rfl) rfl ?_
  exact k
theorem kX5_isKeyword_3 {o0 : Option Value} {o1 : Option Value} {o2 : Option Value} {x3 : Int} {x4 : Int} (r1 : R32 x4) (r2 : R32 x3) (k1 : x3 ≤ x4 → X E d fX5_isKeyword 51 [o0, o1, o2, some (J x3), some (J x4)] [] S (mI M) Q) (k2 : x4 < x3 → X E d fX5_isKeyword 9 [o0, o1, o2, some (J x3), some (J x4)] [] S (mI M) Q) : X E d fX5_isKeyword 3 [o0, o1, o2, some (J x3), some (J x4)] [] S (mI M) Q := by
  refine X_iload 5 (by decide +kernel : decode cX5_isKeyword 3 = .ok (.iload 4, 2)) rfl rfl rfl ?_
  refine X_iload_n 6 (by decide +kernel : decode cX5_isKeyword 5 = .ok (.iload_n 3, 1)) rfl rfl rfl ?_
  exact X_icmpge 51 9 (by decide +kernel : decode cX5_isKeyword 6 = .ok (.if_icmp .ge 45, 3)) rfl rfl (by decide) r1 r2 k1 k2
theorem kX5_isKeyword_9 {o0 : Option Value} {o1 : Option Value} {x2 : Int} {o3 : Option Value} {x4 : Int} {b1 : Nat} (e2 : E 112 = .ref b1) (hd1 : 1 ≤ d) (k : X E (d - 1) fJ0_length_8abf5 0 [some (.ref b1)] [] S (mI M) (Kr E d fX5_isKeyword 18 [o0, o1, some (J x2), o3, some (J x4)] [J (x2 + x4)] Q)) (g3 : aKd S b1 = 0) : X E d fX5_isKeyword 9 [o0, o1, some (J x2), o3, some (J x4)] [] S (mI M) Q := by
  refine X_iload_n 10 (by decide +kernel : decode cX5_isKeyword 9 = .ok (.iload_n 2, 1)) rfl rfl rfl ?_
  refine X_iload 12 (by decide +kernel : decode cX5_isKeyword 10 = .ok (.iload 4, 2)) rfl rfl rfl ?_
  refine X_iadd 13 (by decide +kernel : decode cX5_isKeyword 12 = .ok (.iadd, 1)) rfl rfl ?_
  refine X_ldcS 15 (by decide +kernel : decode cX5_isKeyword 13 = .ok (.ldc 77, 2)) rfl rfl rfl rfl e2 ?_
  exact X_cv (as := []) (rest := [J (x2 + x4)]) (by decide +kernel : decode cX5_isKeyword 15 = .ok (.invokevirtual 79, 3)) (Or.inl ⟨rfl, rfl, rfl⟩) rfl rfl rfl rfl rfl (Nat.le_of_ble_eq_true rfl) (Or.inr (Or.inr (by rw [g3]; rfl))) hd1 k
theorem kX5_isKeyword_18 {o0 : Option Value} {o1 : Option Value} {o2 : Option Value} {o3 : Option Value} {o4 : Option Value} {t0 : Int} {t1 : Int} (r1 : R32 t1) (r2 : R32 t0) (k1 : t0 ≤ t1 → X E d fX5_isKeyword 43 [o0, o1, o2, o3, o4] [] S (mI M) Q) (k2 : t1 < t0 → X E d fX5_isKeyword 21 [o0, o1, o2, o3, o4] [] S (mI M) Q) : X E d fX5_isKeyword 18 [o0, o1, o2, o3, o4] [J t0, J t1] S (mI M) Q := by
  exact X_icmpge 43 21 (by decide +kernel : decode cX5_isKeyword 18 = .ok (.if_icmp .ge 25, 3)) rfl rfl (by decide) r1 r2 k1 k2
theorem kX5_isKeyword_21 {a0 : Nat} {x1 : Int} {o2 : Option Value} {o3 : Option Value} {x4 : Int} (g1 : aKd S a0 = 100 ∨ aKd S a0 = 101 ∨ aKd S a0 = 102) (hd1 : 1 ≤ d) (k : X E (d - 1) fX5_byteAt 0 [some (.ref a0), some (J (x1 + x4)), some (J (aN S a0 : Int))] [] S (mI M) (Kr E d fX5_isKeyword 31 [some (.ref a0), some (J x1), o2, o3, some (J x4)] [] Q)) : X E d fX5_isKeyword 21 [some (.ref a0), some (J x1), o2, o3, some (J x4)] [] S (mI M) Q := by
  refine X_aload_n 22 (by decide +kernel : decode cX5_isKeyword 21 = .ok (.aload_n 0, 1)) rfl rfl rfl ?_
  refine X_iload_n 23 (by decide +kernel : decode cX5_isKeyword 22 = .ok (.iload_n 1, 1)) rfl rfl rfl ?_
  refine X_iload 25 (by decide +kernel : decode cX5_isKeyword 23 = .ok (.iload 4, 2)) rfl rfl rfl ?_
  refine X_iadd 26 (by decide +kernel : decode cX5_isKeyword 25 = .ok (.iadd, 1)) rfl rfl ?_
  refine X_aload_n 27 (by decide +kernel : decode cX5_isKeyword 26 = .ok (.aload_n 0, 1)) rfl rfl rfl ?_
  refine X_alen 28 (by decide +kernel : decode cX5_isKeyword 27 = .ok (.arraylength, 1)) rfl rfl g1 ?_
  exact X_cs (as := [J (aN S a0 : Int), J (x1 + x4), .ref a0]) (rest := []) (by decide +kernel : decode cX5_isKeyword 28 = .ok (.invokestatic 50, 3)) rfl rfl rfl rfl rfl rfl rfl (Nat.le_of_ble_eq_true rfl) hd1 k
theorem kX5_isKeyword_31 {o0 : Option Value} {o1 : Option Value} {x2 : Int} {o3 : Option Value} {x4 : Int} {t0 : Int} {b1 : Nat} (e2 : E 112 = .ref b1) (hd1 : 1 ≤ d) (k : X E (d - 1) fJ0_charAt_5068e 0 [some (.ref b1), some (J (x2 + x4))] [] S (mI M) (Kr E d fX5_isKeyword 40 [o0, o1, some (J x2), o3, some (J x4)] [J t0] Q)) (g3 : aKd S b1 = 0) : X E d fX5_isKeyword 31 [o0, o1, some (J x2), o3, some (J x4)] [J t0] S (mI M) Q := by
  refine X_ldcS 33 (by decide +kernel : decode cX5_isKeyword 31 = .ok (.ldc 77, 2)) rfl rfl rfl rfl e2 ?_
  refine X_iload_n 34 (by decide +kernel : decode cX5_isKeyword 33 = .ok (.iload_n 2, 1)) rfl rfl rfl ?_
  refine X_iload 36 (by decide +kernel : decode cX5_isKeyword 34 = .ok (.iload 4, 2)) rfl rfl rfl ?_
  refine X_iadd 37 (by decide +kernel : decode cX5_isKeyword 36 = .ok (.iadd, 1)) rfl rfl ?_
  exact X_cv (as := [J (x2 + x4)]) (rest := [J t0]) (by decide +kernel : decode cX5_isKeyword 37 = .ok (.invokevirtual 82, 3)) (Or.inl ⟨rfl, rfl, rfl⟩) rfl rfl rfl rfl rfl (Nat.le_of_ble_eq_true rfl) (Or.inr (Or.inr (by rw [g3]; rfl))) hd1 k
theorem kX5_isKeyword_40 {o0 : Option Value} {o1 : Option Value} {o2 : Option Value} {o3 : Option Value} {o4 : Option Value} {t0 : Int} {t1 : Int} (r1 : R32 t1) (r2 : R32 t0) (k1 : t1 = t0 → X E d fX5_isKeyword 45 [o0, o1, o2, o3, o4] [] S (mI M) Q) (k2 : t1 ≠ t0 → X E d fX5_isKeyword 43 [o0, o1, o2, o3, o4] [] S (mI M) Q) : X E d fX5_isKeyword 40 [o0, o1, o2, o3, o4] [J t0, J t1] S (mI M) Q := by
  exact X_icmpeq 45 43 (by decide +kernel : decode cX5_isKeyword 40 = .ok (.if_icmp .eq 5, 3)) rfl rfl (by decide) r1 r2 k1 k2
theorem kX5_isKeyword_43 {o0 : Option Value} {o1 : Option Value} {o2 : Option Value} {o3 : Option Value} {o4 : Option Value} (q : Q (some (some (J 0))) S (mI M)) : X E d fX5_isKeyword 43 [o0, o1, o2, o3, o4] [] S (mI M) Q := by
  refine X_iconst 44 (by decide +kernel : decode cX5_isKeyword 43 = .ok (.iconst 0, 1)) rfl rfl ?_
  exact X_iret (by decide +kernel : decode cX5_isKeyword 44 = .ok (.ireturn, 1)) rfl rfl (by decide) q
theorem kX5_isKeyword_45 {o0 : Option Value} {o1 : Option Value} {o2 : Option Value} {o3 : Option Value} {x4 : Int} (k : X E d fX5_isKeyword 3 [o0, o1, o2, o3, some (J (x4 + 1))] [] S (mI M) Q) : X E d fX5_isKeyword 45 [o0, o1, o2, o3, some (J x4)] [] S (mI M) Q := by
  refine X_iinc 48 (by decide +kernel : decode cX5_isKeyword 45 = .ok (.iinc 4 1, 3)) rfl rfl rfl rfl ?_
  exact X_goto 3 (by decide +kernel : decode cX5_isKeyword 48 = .ok (.goto (-45), 3)) rfl (by decide) k
theorem kX5_isKeyword_51 {o0 : Option Value} {o1 : Option Value} {o2 : Option Value} {o3 : Option Value} {o4 : Option Value} (q : Q (some (some (J 1))) S (mI M)) : X E d fX5_isKeyword 51 [o0, o1, o2, o3, o4] [] S (mI M) Q := by
  refine X_iconst 52 (by decide +kernel : decode cX5_isKeyword 51 = .ok (.iconst 1, 1)) rfl rfl ?_
  exact X_iret (by decide +kernel : decode cX5_isKeyword 52 = .ok (.ireturn, 1)) rfl rfl (by decide) q
theorem kX5_numberAt_0 {o0 : Option Value} {o1 : Option Value} {o2 : Option Value} {o3 : Option Value} {o4 : Option Value} (k : X E d fX5_numberAt 5 [o0, o1, o2, some (J 0), some (J 0)] [] S (mI M) Q) : X E d fX5_numberAt 0 [o0, o1, o2, o3, o4] [] S (mI M) Q := by
  refine X_iconst 1 (by decide +kernel : decode cX5_numberAt 0 = .ok (.iconst 0, 1)) rfl rfl ?_
  refine X_istore_n 2 (by decide +kernel : decode cX5_numberAt 1 = .ok (.istore_n 3, 1)) rfl rfl (Nat.le_of_ble_eq_true rfl) rfl ?_
  refine X_iconst 3 (by decide +kernel : decode cX5_numberAt 2 = .ok (.iconst 0, 1)) rfl rfl ?_
  refine X_istore 5 (by decide +kernel : decode cX5_numberAt 3 = .ok (.istore 4, 2)) rfl rfl (Nat.le_of_ble_eq_true rfl) rfl ?_
  exact k
theorem kX5_numberAt_5 {o0 : Option Value} {o1 : Option Value} {x2 : Int} {o3 : Option Value} {x4 : Int} (r1 : R32 x4) (r2 : R32 x2) (k1 : x2 ≤ x4 → X E d fX5_numberAt 36 [o0, o1, some (J x2), o3, some (J x4)] [] S (mI M) Q) (k2 : x4 < x2 → X E d fX5_numberAt 11 [o0, o1, some (J x2), o3, some (J x4)] [] S (mI M) Q) : X E d fX5_numberAt 5 [o0, o1, some (J x2), o3, some (J x4)] [] S (mI M) Q := by
  refine X_iload 7 (by decide +kernel : decode cX5_numberAt 5 = .ok (.iload 4, 2)) rfl rfl rfl ?_
  refine X_iload_n 8 (by decide +kernel : decode cX5_numberAt 7 = .ok (.iload_n 2, 1)) rfl rfl rfl ?_
  exact X_icmpge 36 11 (by decide +kernel : decode cX5_numberAt 8 = .ok (.if_icmp .ge 28, 3)) rfl rfl (by decide) r1 r2 k1 k2
theorem kX5_numberAt_11 {a0 : Nat} {x1 : Int} {o2 : Option Value} {x3 : Int} {x4 : Int} (g1 : aKd S a0 = 100 ∨ aKd S a0 = 101 ∨ aKd S a0 = 102) (hd1 : 1 ≤ d) (k : X E (d - 1) fX5_byteAt 0 [some (.ref a0), some (J (x1 + x4)), some (J (aN S a0 : Int))] [] S (mI M) (Kr E d fX5_numberAt 25 [some (.ref a0), some (J x1), o2, some (J x3), some (J x4)] [J (x3 * 10)] Q)) : X E d fX5_numberAt 11 [some (.ref a0), some (J x1), o2, some (J x3), some (J x4)] [] S (mI M) Q := by
  refine X_iload_n 12 (by decide +kernel : decode cX5_numberAt 11 = .ok (.iload_n 3, 1)) rfl rfl rfl ?_
  refine X_bipush 14 (10) (by decide +kernel : decode cX5_numberAt 12 = .ok (.bipush 10, 2)) rfl rfl (by decide +kernel) ?_
  refine X_imul 15 (by decide +kernel : decode cX5_numberAt 14 = .ok (.imul, 1)) rfl rfl ?_
  refine X_aload_n 16 (by decide +kernel : decode cX5_numberAt 15 = .ok (.aload_n 0, 1)) rfl rfl rfl ?_
  refine X_iload_n 17 (by decide +kernel : decode cX5_numberAt 16 = .ok (.iload_n 1, 1)) rfl rfl rfl ?_
  refine X_iload 19 (by decide +kernel : decode cX5_numberAt 17 = .ok (.iload 4, 2)) rfl rfl rfl ?_
  refine X_iadd 20 (by decide +kernel : decode cX5_numberAt 19 = .ok (.iadd, 1)) rfl rfl ?_
  refine X_aload_n 21 (by decide +kernel : decode cX5_numberAt 20 = .ok (.aload_n 0, 1)) rfl rfl rfl ?_
  refine X_alen 22 (by decide +kernel : decode cX5_numberAt 21 = .ok (.arraylength, 1)) rfl rfl g1 ?_
  exact X_cs (as := [J (aN S a0 : Int), J (x1 + x4), .ref a0]) (rest := [J (x3 * 10)]) (by decide +kernel : decode cX5_numberAt 22 = .ok (.invokestatic 50, 3)) rfl rfl rfl rfl rfl rfl rfl (Nat.le_of_ble_eq_true rfl) hd1 k
theorem kX5_numberAt_25 {o0 : Option Value} {o1 : Option Value} {o2 : Option Value} {o3 : Option Value} {x4 : Int} {t0 : Int} {t1 : Int} (k : X E d fX5_numberAt 5 [o0, o1, o2, some (J ((t1 + t0) - 48)), some (J (x4 + 1))] [] S (mI M) Q) : X E d fX5_numberAt 25 [o0, o1, o2, o3, some (J x4)] [J t0, J t1] S (mI M) Q := by
  refine X_iadd 26 (by decide +kernel : decode cX5_numberAt 25 = .ok (.iadd, 1)) rfl rfl ?_
  refine X_bipush 28 (48) (by decide +kernel : decode cX5_numberAt 26 = .ok (.bipush 48, 2)) rfl rfl (by decide +kernel) ?_
  refine X_isub 29 (by decide +kernel : decode cX5_numberAt 28 = .ok (.isub, 1)) rfl rfl ?_
  refine X_istore_n 30 (by decide +kernel : decode cX5_numberAt 29 = .ok (.istore_n 3, 1)) rfl rfl (Nat.le_of_ble_eq_true rfl) rfl ?_
  refine X_iinc 33 (by decide +kernel : decode cX5_numberAt 30 = .ok (.iinc 4 1, 3)) rfl rfl rfl rfl ?_
  exact X_goto 5 (by decide +kernel : decode cX5_numberAt 33 = .ok (.goto (-28), 3)) rfl (by decide) k
theorem kX5_numberAt_36 {o0 : Option Value} {o1 : Option Value} {o2 : Option Value} {x3 : Int} {o4 : Option Value} (q : Q (some (some (J x3))) S (mI M)) : X E d fX5_numberAt 36 [o0, o1, o2, some (J x3), o4] [] S (mI M) Q := by
  refine X_iload_n 37 (by decide +kernel : decode cX5_numberAt 36 = .ok (.iload_n 3, 1)) rfl rfl rfl ?_
  exact X_iret (by decide +kernel : decode cX5_numberAt 37 = .ok (.ireturn, 1)) rfl rfl rfl q
theorem kX0_read_0 {a0 : Nat} {a1 : Nat} {o2 : Option Value} {b5 : Nat} (g1 : aK S a0 = 2) (g4 : aKd S a0 = 2) (p6 : aP (aPut S a0 1 (some a1)) a0 0 = some b5) (hd1 : 1 ≤ d) (k : X E (d - 1) fX5_kindOf 0 [some (.ref b5), some (J ((mW (mW M a0 2 0) a0 3 0) a0 3))] [] (aPut S a0 1 (some a1)) (mI (mW (mW M a0 2 0) a0 3 0)) (Kr E d fX0_read 27 [some (.ref a0), some (.ref a1), o2] [.ref a0] Q)) (g8 : aKd S b5 = 7) : X E d fX0_read 0 [some (.ref a0), some (.ref a1), o2] [] S (mI M) Q := by
  refine X_aload_n 1 (by decide +kernel : decode cX0_read 0 = .ok (.aload_n 0, 1)) rfl rfl rfl ?_
  refine X_aload_n 2 (by decide +kernel : decode cX0_read 1 = .ok (.aload_n 1, 1)) rfl rfl rfl ?_
  refine X_putR 5 (by decide +kernel : decode cX0_read 2 = .ok (.putfield 15, 3)) rfl rfl (by decide +kernel : aFd 2 15 = some (2, 1, true, false)) (Or.inl rfl) g1 rfl ?_
  refine X_aload_n 6 (by decide +kernel : decode cX0_read 5 = .ok (.aload_n 0, 1)) rfl rfl rfl ?_
  refine X_iconst 7 (by decide +kernel : decode cX0_read 6 = .ok (.iconst 0, 1)) rfl rfl ?_
  refine X_putI 10 (by decide +kernel : decode cX0_read 7 = .ok (.putfield 19, 3)) rfl rfl (by decide +kernel : aFd 2 19 = some (2, 2, false, false)) (Or.inl rfl) g1 (by decide) (by decide) ?_
  refine X_aload_n 11 (by decide +kernel : decode cX0_read 10 = .ok (.aload_n 0, 1)) rfl rfl rfl ?_
  refine X_iconst 12 (by decide +kernel : decode cX0_read 11 = .ok (.iconst 0, 1)) rfl rfl ?_
  refine X_putI 15 (by decide +kernel : decode cX0_read 12 = .ok (.putfield 23, 3)) rfl rfl (by decide +kernel : aFd 2 23 = some (2, 3, false, false)) (Or.inl rfl) g1 rfl rfl ?_
  refine X_aload_n 16 (by decide +kernel : decode cX0_read 15 = .ok (.aload_n 0, 1)) rfl rfl rfl ?_
  refine X_aload_n 17 (by decide +kernel : decode cX0_read 16 = .ok (.aload_n 0, 1)) rfl rfl rfl ?_
  refine X_getR 20 (by decide +kernel : decode cX0_read 17 = .ok (.getfield 9, 3)) rfl rfl (by decide +kernel : aFd 2 9 = some (2, 0, true, true)) g4 p6 ?_
  refine X_aload_n 21 (by decide +kernel : decode cX0_read 20 = .ok (.aload_n 0, 1)) rfl rfl rfl ?_
  refine X_getI 24 (by decide +kernel : decode cX0_read 21 = .ok (.getfield 23, 3)) rfl rfl (by decide +kernel : aFd 2 23 = some (2, 3, false, false)) g4 ?_
  exact X_cv (as := [J ((mW (mW M a0 2 0) a0 3 0) a0 3)]) (rest := [.ref a0]) (by decide +kernel : decode cX0_read 24 = .ok (.invokevirtual 27, 3)) (Or.inl ⟨rfl, rfl, rfl⟩) rfl rfl rfl rfl rfl (Nat.le_of_ble_eq_true rfl) (Or.inr (Or.inr ((congrArg (fun z => (vwCl[z]?).map (fun q => q.1)) g8).trans rfl))) hd1 k
theorem kX0_read_27 {o0 : Option Value} {o1 : Option Value} {o2 : Option Value} {t0 : Int} {u1 : Nat} (g1 : aK S u1 = 2) (k : X E d fX0_read 32 [o0, o1, some (J 0)] [] S (mI (mW M u1 4 t0)) Q) : X E d fX0_read 27 [o0, o1, o2] [J t0, .ref u1] S (mI M) Q := by
  refine X_putI 30 (by decide +kernel : decode cX0_read 27 = .ok (.putfield 33, 3)) rfl rfl (by decide +kernel : aFd 2 33 = some (2, 4, false, false)) (Or.inl rfl) g1 rfl rfl ?_
  refine X_iconst 31 (by decide +kernel : decode cX0_read 30 = .ok (.iconst 0, 1)) rfl rfl ?_
  refine X_istore_n 32 (by decide +kernel : decode cX0_read 31 = .ok (.istore_n 2, 1)) rfl rfl (Nat.le_of_ble_eq_true rfl) rfl ?_
  exact k
theorem kX0_read_32 {o0 : Option Value} {o1 : Option Value} {x2 : Int} (r1 : R32 x2) (k1 : 400 ≤ x2 → X E d fX0_read 65 [o0, o1, some (J x2)] [] S (mI M) Q) (k2 : x2 < 400 → X E d fX0_read 39 [o0, o1, some (J x2)] [] S (mI M) Q) : X E d fX0_read 32 [o0, o1, some (J x2)] [] S (mI M) Q := by
  refine X_iload_n 33 (by decide +kernel : decode cX0_read 32 = .ok (.iload_n 2, 1)) rfl rfl rfl ?_
  refine X_sipush 36 (400) (by decide +kernel : decode cX0_read 33 = .ok (.sipush 400, 3)) rfl rfl (by decide +kernel) ?_
  exact X_icmpge 65 39 (by decide +kernel : decode cX0_read 36 = .ok (.if_icmp .ge 29, 3)) rfl rfl (by decide) r1 ⟨by decide, by decide⟩ k1 k2
theorem kX0_read_39 {a0 : Nat} {o1 : Option Value} {o2 : Option Value} (g1 : aKd S a0 = 2) (r2 : R32 (M a0 2)) (k1 : (M a0 2) ≠ 0 → X E d fX0_read 65 [some (.ref a0), o1, o2] [] S (mI M) Q) (k2 : (M a0 2) = 0 → X E d fX0_read 46 [some (.ref a0), o1, o2] [] S (mI M) Q) : X E d fX0_read 39 [some (.ref a0), o1, o2] [] S (mI M) Q := by
  refine X_aload_n 40 (by decide +kernel : decode cX0_read 39 = .ok (.aload_n 0, 1)) rfl rfl rfl ?_
  refine X_getI 43 (by decide +kernel : decode cX0_read 40 = .ok (.getfield 19, 3)) rfl rfl (by decide +kernel : aFd 2 19 = some (2, 2, false, false)) g1 ?_
  exact X_ifne 65 46 (by decide +kernel : decode cX0_read 43 = .ok (.ifCond .ne 22, 3)) rfl rfl (by decide) r2 k1 k2
theorem kX0_read_46 {a0 : Nat} {o1 : Option Value} {o2 : Option Value} (g1 : aKd S a0 = 2) (r2 : R32 (M a0 4)) (k1 : (M a0 4) = 49 → X E d fX0_read 65 [some (.ref a0), o1, o2] [] S (mI M) Q) (k2 : (M a0 4) ≠ 49 → X E d fX0_read 55 [some (.ref a0), o1, o2] [] S (mI M) Q) : X E d fX0_read 46 [some (.ref a0), o1, o2] [] S (mI M) Q := by
  refine X_aload_n 47 (by decide +kernel : decode cX0_read 46 = .ok (.aload_n 0, 1)) rfl rfl rfl ?_
  refine X_getI 50 (by decide +kernel : decode cX0_read 47 = .ok (.getfield 33, 3)) rfl rfl (by decide +kernel : aFd 2 33 = some (2, 4, false, false)) g1 ?_
  refine X_bipush 52 (49) (by decide +kernel : decode cX0_read 50 = .ok (.bipush 49, 2)) rfl rfl (by decide +kernel) ?_
  exact X_icmpeq 65 55 (by decide +kernel : decode cX0_read 52 = .ok (.if_icmp .eq 13, 3)) rfl rfl (by decide) r2 ⟨by decide, by decide⟩ k1 k2
theorem kX0_read_55 {a0 : Nat} {o1 : Option Value} {o2 : Option Value} (hd1 : 1 ≤ d) (k : X E (d - 1) fX0_readLine 0 [some (.ref a0)] [] S (mI M) (Kr E d fX0_read 59 [some (.ref a0), o1, o2] [] Q)) (g1 : aKd S a0 = 2) : X E d fX0_read 55 [some (.ref a0), o1, o2] [] S (mI M) Q := by
  refine X_aload_n 56 (by decide +kernel : decode cX0_read 55 = .ok (.aload_n 0, 1)) rfl rfl rfl ?_
  exact X_cv (as := []) (rest := []) (by decide +kernel : decode cX0_read 56 = .ok (.invokevirtual 36, 3)) (Or.inl ⟨rfl, rfl, rfl⟩) rfl rfl rfl rfl rfl (Nat.le_of_ble_eq_true rfl) (Or.inr (Or.inr (by rw [g1]; rfl))) hd1 k
theorem kX0_read_59 {o0 : Option Value} {o1 : Option Value} {x2 : Int} (k : X E d fX0_read 32 [o0, o1, some (J (x2 + 1))] [] S (mI M) Q) : X E d fX0_read 59 [o0, o1, some (J x2)] [] S (mI M) Q := by
  refine X_iinc 62 (by decide +kernel : decode cX0_read 59 = .ok (.iinc 2 1, 3)) rfl rfl rfl rfl ?_
  exact X_goto 32 (by decide +kernel : decode cX0_read 62 = .ok (.goto (-30), 3)) rfl (by decide) k
theorem kX0_read_65 {a0 : Nat} {o1 : Option Value} {o2 : Option Value} (g1 : aKd S a0 = 2) (r2 : R32 (M a0 2)) (k1 : (M a0 2) ≠ 0 → X E d fX0_read 81 [some (.ref a0), o1, o2] [] S (mI M) Q) (k2 : (M a0 2) = 0 → X E d fX0_read 72 [some (.ref a0), o1, o2] [] S (mI M) Q) : X E d fX0_read 65 [some (.ref a0), o1, o2] [] S (mI M) Q := by
  refine X_aload_n 66 (by decide +kernel : decode cX0_read 65 = .ok (.aload_n 0, 1)) rfl rfl rfl ?_
  refine X_getI 69 (by decide +kernel : decode cX0_read 66 = .ok (.getfield 19, 3)) rfl rfl (by decide +kernel : aFd 2 19 = some (2, 2, false, false)) g1 ?_
  exact X_ifne 81 72 (by decide +kernel : decode cX0_read 69 = .ok (.ifCond .ne 12, 3)) rfl rfl (by decide) r2 k1 k2
theorem kX0_read_72 {a0 : Nat} {o1 : Option Value} {o2 : Option Value} (g1 : aKd S a0 = 2) (r2 : R32 (M a0 4)) (k1 : (M a0 4) = 49 → X E d fX0_read 85 [some (.ref a0), o1, o2] [] S (mI M) Q) (k2 : (M a0 4) ≠ 49 → X E d fX0_read 81 [some (.ref a0), o1, o2] [] S (mI M) Q) : X E d fX0_read 72 [some (.ref a0), o1, o2] [] S (mI M) Q := by
  refine X_aload_n 73 (by decide +kernel : decode cX0_read 72 = .ok (.aload_n 0, 1)) rfl rfl rfl ?_
  refine X_getI 76 (by decide +kernel : decode cX0_read 73 = .ok (.getfield 33, 3)) rfl rfl (by decide +kernel : aFd 2 33 = some (2, 4, false, false)) g1 ?_
  refine X_bipush 78 (49) (by decide +kernel : decode cX0_read 76 = .ok (.bipush 49, 2)) rfl rfl (by decide +kernel) ?_
  exact X_icmpeq 85 81 (by decide +kernel : decode cX0_read 78 = .ok (.if_icmp .eq 7, 3)) rfl rfl (by decide) r2 ⟨by decide, by decide⟩ k1 k2
theorem kX0_read_81 {o0 : Option Value} {o1 : Option Value} {o2 : Option Value} (k : X E d fX0_read 86 [o0, o1, o2] [J 1] S (mI M) Q) : X E d fX0_read 81 [o0, o1, o2] [] S (mI M) Q := by
  refine X_iconst 82 (by decide +kernel : decode cX0_read 81 = .ok (.iconst 1, 1)) rfl rfl ?_
  exact X_goto 86 (by decide +kernel : decode cX0_read 82 = .ok (.goto 4, 3)) rfl (by decide) k
theorem kX0_read_85 {o0 : Option Value} {o1 : Option Value} {o2 : Option Value} (k : X E d fX0_read 86 [o0, o1, o2] [J 0] S (mI M) Q) : X E d fX0_read 85 [o0, o1, o2] [] S (mI M) Q := by
  refine X_iconst 86 (by decide +kernel : decode cX0_read 85 = .ok (.iconst 0, 1)) rfl rfl ?_
  exact k
theorem kX0_read_86 {o0 : Option Value} {o1 : Option Value} {o2 : Option Value} {t0 : Int} (q : Q (some (some (J t0))) S (mI M)) : X E d fX0_read 86 [o0, o1, o2] [J t0] S (mI M) Q := by
  exact X_iret (by decide +kernel : decode cX0_read 86 = .ok (.ireturn, 1)) rfl rfl rfl q
theorem kX5_kindOf_0 {a0 : Nat} {x1 : Int} {b2 : Nat} (g1 : aKd S a0 = 7) (p3 : aP S a0 0 = some b2) (g4 : aKd S b2 = 100 ∨ aKd S b2 = 101 ∨ aKd S b2 = 102) (hd1 : 1 ≤ d) (k : X E (d - 1) fX7_isOutside 0 [some (J x1), some (J (aN S b2 : Int))] [] S (mI M) (Kr E d fX5_kindOf 9 [some (.ref a0), some (J x1)] [] Q)) : X E d fX5_kindOf 0 [some (.ref a0), some (J x1)] [] S (mI M) Q := by
  refine X_iload_n 1 (by decide +kernel : decode cX5_kindOf 0 = .ok (.iload_n 1, 1)) rfl rfl rfl ?_
  refine X_aload_n 2 (by decide +kernel : decode cX5_kindOf 1 = .ok (.aload_n 0, 1)) rfl rfl rfl ?_
  refine X_getR 5 (by decide +kernel : decode cX5_kindOf 2 = .ok (.getfield 9, 3)) rfl rfl (by decide +kernel : aFd 7 9 = some (7, 0, true, true)) g1 p3 ?_
  refine X_alen 6 (by decide +kernel : decode cX5_kindOf 5 = .ok (.arraylength, 1)) rfl rfl g4 ?_
  exact X_cs (as := [J (aN S b2 : Int), J x1]) (rest := []) (by decide +kernel : decode cX5_kindOf 6 = .ok (.invokestatic 42, 3)) rfl rfl rfl rfl rfl rfl rfl (Nat.le_of_ble_eq_true rfl) hd1 k
theorem kX5_kindOf_9 {o0 : Option Value} {o1 : Option Value} {t0 : Int} (r1 : R32 t0) (k1 : t0 = 0 → X E d fX5_kindOf 17 [o0, o1] [] S (mI M) Q) (k2 : t0 ≠ 0 → X E d fX5_kindOf 12 [o0, o1] [] S (mI M) Q) : X E d fX5_kindOf 9 [o0, o1] [J t0] S (mI M) Q := by
  exact X_ifeq 17 12 (by decide +kernel : decode cX5_kindOf 9 = .ok (.ifCond .eq 8, 3)) rfl rfl (by decide) r1 k1 k2
theorem kX5_kindOf_12 {o0 : Option Value} {o1 : Option Value} (k : X E d fX5_kindOf 23 [o0, o1] [J 50] S (mI M) Q) : X E d fX5_kindOf 12 [o0, o1] [] S (mI M) Q := by
  refine X_bipush 14 (50) (by decide +kernel : decode cX5_kindOf 12 = .ok (.bipush 50, 2)) rfl rfl (by decide +kernel) ?_
  exact X_goto 23 (by decide +kernel : decode cX5_kindOf 14 = .ok (.goto 9, 3)) rfl (by decide) k
theorem kX5_kindOf_17 {a0 : Nat} {x1 : Int} {b2 : Nat} (g1 : aKd S a0 = 7) (p3 : aP S a0 0 = some b2) (g4 : aKd S b2 = 100) (r5 : R32 x1) (h6 : (0 : Int) ≤ x1 ∧ x1 < (aN S b2 : Int)) (k : X E d fX5_kindOf 23 [some (.ref a0), some (J x1)] [J (M b2 x1.toNat)] S (mI M) Q) : X E d fX5_kindOf 17 [some (.ref a0), some (J x1)] [] S (mI M) Q := by
  refine X_aload_n 18 (by decide +kernel : decode cX5_kindOf 17 = .ok (.aload_n 0, 1)) rfl rfl rfl ?_
  refine X_getR 21 (by decide +kernel : decode cX5_kindOf 18 = .ok (.getfield 9, 3)) rfl rfl (by decide +kernel : aFd 7 9 = some (7, 0, true, true)) g1 p3 ?_
  refine X_iload_n 22 (by decide +kernel : decode cX5_kindOf 21 = .ok (.iload_n 1, 1)) rfl rfl rfl ?_
  refine X_iald 23 (by decide +kernel : decode cX5_kindOf 22 = .ok (.iaload, 1)) rfl rfl g4 r5 h6 ?_
  exact k
theorem kX5_kindOf_23 {o0 : Option Value} {o1 : Option Value} {t0 : Int} (q : Q (some (some (J t0))) S (mI M)) : X E d fX5_kindOf 23 [o0, o1] [J t0] S (mI M) Q := by
  exact X_iret (by decide +kernel : decode cX5_kindOf 23 = .ok (.ireturn, 1)) rfl rfl rfl q
theorem kX0_readLine_0 {a0 : Nat} (g1 : aKd S a0 = 2) (r2 : R32 ((M a0 4))) (kd : (M a0 4) ≠ 0 ∧ (M a0 4) ≠ 3 ∧ (M a0 4) ≠ 6 ∧ (M a0 4) ≠ 12 ∧ (M a0 4) ≠ 13 ∧ (M a0 4) ≠ 15 → X E d fX0_readLine 144 [some (.ref a0)] [] S (mI M) Q) (k0 : (M a0 4) = 0 → X E d fX0_readLine 84 [some (.ref a0)] [] S (mI M) Q) (k3 : (M a0 4) = 3 → X E d fX0_readLine 94 [some (.ref a0)] [] S (mI M) Q) (k6 : (M a0 4) = 6 → X E d fX0_readLine 104 [some (.ref a0)] [] S (mI M) Q) (k12 : (M a0 4) = 12 → X E d fX0_readLine 114 [some (.ref a0)] [] S (mI M) Q) (k13 : (M a0 4) = 13 → X E d fX0_readLine 124 [some (.ref a0)] [] S (mI M) Q) (k15 : (M a0 4) = 15 → X E d fX0_readLine 134 [some (.ref a0)] [] S (mI M) Q) : X E d fX0_readLine 0 [some (.ref a0)] [] S (mI M) Q := by
  refine X_aload_n 1 (by decide +kernel : decode cX0_readLine 0 = .ok (.aload_n 0, 1)) rfl rfl rfl ?_
  refine X_getI 4 (by decide +kernel : decode cX0_readLine 1 = .ok (.getfield 33, 3)) rfl rfl (by decide +kernel : aFd 2 33 = some (2, 4, false, false)) g1 ?_
  by_cases hr : (M a0 4) < 0 ∨ 15 < (M a0 4)
  · exact X_tswD 144 (by decide +kernel : decode cX0_readLine 4 = .ok (.tableswitch 140 0 15 #[80, 140, 140, 90, 140, 140, 100, 140, 140, 140, 140, 140, 110, 120, 140, 130], 80)) rfl (by decide) r2 hr (kd (by omega))
  · rcases (by omega : (M a0 4) = 0 ∨ (M a0 4) = 1 ∨ (M a0 4) = 2 ∨ (M a0 4) = 3 ∨ (M a0 4) = 4 ∨ (M a0 4) = 5 ∨ (M a0 4) = 6 ∨ (M a0 4) = 7 ∨ (M a0 4) = 8 ∨ (M a0 4) = 9 ∨ (M a0 4) = 10 ∨ (M a0 4) = 11 ∨ (M a0 4) = 12 ∨ (M a0 4) = 13 ∨ (M a0 4) = 14 ∨ (M a0 4) = 15) with h | h | h | h | h | h | h | h | h | h | h | h | h | h | h | h
    · exact X_tswI 84 0 (by decide +kernel : decode cX0_readLine 4 = .ok (.tableswitch 140 0 15 #[80, 140, 140, 90, 140, 140, 100, 140, 140, 140, 140, 140, 110, 120, 140, 130], 80)) rfl rfl (by decide) r2 (h.trans rfl) (by decide) (k0 h)
    · exact X_tswI 144 1 (by decide +kernel : decode cX0_readLine 4 = .ok (.tableswitch 140 0 15 #[80, 140, 140, 90, 140, 140, 100, 140, 140, 140, 140, 140, 110, 120, 140, 130], 80)) rfl rfl (by decide) r2 (h.trans rfl) (by decide) (kd (by omega))
    · exact X_tswI 144 2 (by decide +kernel : decode cX0_readLine 4 = .ok (.tableswitch 140 0 15 #[80, 140, 140, 90, 140, 140, 100, 140, 140, 140, 140, 140, 110, 120, 140, 130], 80)) rfl rfl (by decide) r2 (h.trans rfl) (by decide) (kd (by omega))
    · exact X_tswI 94 3 (by decide +kernel : decode cX0_readLine 4 = .ok (.tableswitch 140 0 15 #[80, 140, 140, 90, 140, 140, 100, 140, 140, 140, 140, 140, 110, 120, 140, 130], 80)) rfl rfl (by decide) r2 (h.trans rfl) (by decide) (k3 h)
    · exact X_tswI 144 4 (by decide +kernel : decode cX0_readLine 4 = .ok (.tableswitch 140 0 15 #[80, 140, 140, 90, 140, 140, 100, 140, 140, 140, 140, 140, 110, 120, 140, 130], 80)) rfl rfl (by decide) r2 (h.trans rfl) (by decide) (kd (by omega))
    · exact X_tswI 144 5 (by decide +kernel : decode cX0_readLine 4 = .ok (.tableswitch 140 0 15 #[80, 140, 140, 90, 140, 140, 100, 140, 140, 140, 140, 140, 110, 120, 140, 130], 80)) rfl rfl (by decide) r2 (h.trans rfl) (by decide) (kd (by omega))
    · exact X_tswI 104 6 (by decide +kernel : decode cX0_readLine 4 = .ok (.tableswitch 140 0 15 #[80, 140, 140, 90, 140, 140, 100, 140, 140, 140, 140, 140, 110, 120, 140, 130], 80)) rfl rfl (by decide) r2 (h.trans rfl) (by decide) (k6 h)
    · exact X_tswI 144 7 (by decide +kernel : decode cX0_readLine 4 = .ok (.tableswitch 140 0 15 #[80, 140, 140, 90, 140, 140, 100, 140, 140, 140, 140, 140, 110, 120, 140, 130], 80)) rfl rfl (by decide) r2 (h.trans rfl) (by decide) (kd (by omega))
    · exact X_tswI 144 8 (by decide +kernel : decode cX0_readLine 4 = .ok (.tableswitch 140 0 15 #[80, 140, 140, 90, 140, 140, 100, 140, 140, 140, 140, 140, 110, 120, 140, 130], 80)) rfl rfl (by decide) r2 (h.trans rfl) (by decide) (kd (by omega))
    · exact X_tswI 144 9 (by decide +kernel : decode cX0_readLine 4 = .ok (.tableswitch 140 0 15 #[80, 140, 140, 90, 140, 140, 100, 140, 140, 140, 140, 140, 110, 120, 140, 130], 80)) rfl rfl (by decide) r2 (h.trans rfl) (by decide) (kd (by omega))
    · exact X_tswI 144 10 (by decide +kernel : decode cX0_readLine 4 = .ok (.tableswitch 140 0 15 #[80, 140, 140, 90, 140, 140, 100, 140, 140, 140, 140, 140, 110, 120, 140, 130], 80)) rfl rfl (by decide) r2 (h.trans rfl) (by decide) (kd (by omega))
    · exact X_tswI 144 11 (by decide +kernel : decode cX0_readLine 4 = .ok (.tableswitch 140 0 15 #[80, 140, 140, 90, 140, 140, 100, 140, 140, 140, 140, 140, 110, 120, 140, 130], 80)) rfl rfl (by decide) r2 (h.trans rfl) (by decide) (kd (by omega))
    · exact X_tswI 114 12 (by decide +kernel : decode cX0_readLine 4 = .ok (.tableswitch 140 0 15 #[80, 140, 140, 90, 140, 140, 100, 140, 140, 140, 140, 140, 110, 120, 140, 130], 80)) rfl rfl (by decide) r2 (h.trans rfl) (by decide) (k12 h)
    · exact X_tswI 124 13 (by decide +kernel : decode cX0_readLine 4 = .ok (.tableswitch 140 0 15 #[80, 140, 140, 90, 140, 140, 100, 140, 140, 140, 140, 140, 110, 120, 140, 130], 80)) rfl rfl (by decide) r2 (h.trans rfl) (by decide) (k13 h)
    · exact X_tswI 144 14 (by decide +kernel : decode cX0_readLine 4 = .ok (.tableswitch 140 0 15 #[80, 140, 140, 90, 140, 140, 100, 140, 140, 140, 140, 140, 110, 120, 140, 130], 80)) rfl rfl (by decide) r2 (h.trans rfl) (by decide) (kd (by omega))
    · exact X_tswI 134 15 (by decide +kernel : decode cX0_readLine 4 = .ok (.tableswitch 140 0 15 #[80, 140, 140, 90, 140, 140, 100, 140, 140, 140, 140, 140, 110, 120, 140, 130], 80)) rfl rfl (by decide) r2 (h.trans rfl) (by decide) (k15 h)
theorem kX0_readLine_84 {a0 : Nat} {b1 : Nat} (e2 : E 7 = .ref b1) (hd1 : 1 ≤ d) (k : X E (d - 1) fX0_needAll 0 [some (.ref a0), some (.ref b1), none] [] S (mI M) (Kr E d fX0_readLine 91 [some (.ref a0)] [] Q)) (g3 : aKd S a0 = 2) : X E d fX0_readLine 84 [some (.ref a0)] [] S (mI M) Q := by
  refine X_aload_n 85 (by decide +kernel : decode cX0_readLine 84 = .ok (.aload_n 0, 1)) rfl rfl rfl ?_
  refine X_getst 88 (by decide +kernel : decode cX0_readLine 85 = .ok (.getstatic 39, 3)) rfl rfl rfl e2 ?_
  exact X_cv (as := [.ref b1]) (rest := []) (by decide +kernel : decode cX0_readLine 88 = .ok (.invokevirtual 43, 3)) (Or.inl ⟨rfl, rfl, rfl⟩) rfl rfl rfl rfl rfl (Nat.le_of_ble_eq_true rfl) (Or.inr (Or.inr (by rw [g3]; rfl))) hd1 k
theorem kX0_readLine_91 {o0 : Option Value} (k : X E d fX0_readLine 149 [o0] [] S (mI M) Q) : X E d fX0_readLine 91 [o0] [] S (mI M) Q := by
  exact X_goto 149 (by decide +kernel : decode cX0_readLine 91 = .ok (.goto 58, 3)) rfl (by decide) k
theorem kX0_readLine_94 {a0 : Nat} {b1 : Nat} (e2 : E 8 = .ref b1) (hd1 : 1 ≤ d) (k : X E (d - 1) fX0_needAll 0 [some (.ref a0), some (.ref b1), none] [] S (mI M) (Kr E d fX0_readLine 101 [some (.ref a0)] [] Q)) (g3 : aKd S a0 = 2) : X E d fX0_readLine 94 [some (.ref a0)] [] S (mI M) Q := by
  refine X_aload_n 95 (by decide +kernel : decode cX0_readLine 94 = .ok (.aload_n 0, 1)) rfl rfl rfl ?_
  refine X_getst 98 (by decide +kernel : decode cX0_readLine 95 = .ok (.getstatic 47, 3)) rfl rfl rfl e2 ?_
  exact X_cv (as := [.ref b1]) (rest := []) (by decide +kernel : decode cX0_readLine 98 = .ok (.invokevirtual 43, 3)) (Or.inl ⟨rfl, rfl, rfl⟩) rfl rfl rfl rfl rfl (Nat.le_of_ble_eq_true rfl) (Or.inr (Or.inr (by rw [g3]; rfl))) hd1 k
theorem kX0_readLine_101 {o0 : Option Value} (k : X E d fX0_readLine 149 [o0] [] S (mI M) Q) : X E d fX0_readLine 101 [o0] [] S (mI M) Q := by
  exact X_goto 149 (by decide +kernel : decode cX0_readLine 101 = .ok (.goto 48, 3)) rfl (by decide) k
theorem kX0_readLine_104 {a0 : Nat} {b1 : Nat} (e2 : E 9 = .ref b1) (hd1 : 1 ≤ d) (k : X E (d - 1) fX0_needAll 0 [some (.ref a0), some (.ref b1), none] [] S (mI M) (Kr E d fX0_readLine 111 [some (.ref a0)] [] Q)) (g3 : aKd S a0 = 2) : X E d fX0_readLine 104 [some (.ref a0)] [] S (mI M) Q := by
  refine X_aload_n 105 (by decide +kernel : decode cX0_readLine 104 = .ok (.aload_n 0, 1)) rfl rfl rfl ?_
  refine X_getst 108 (by decide +kernel : decode cX0_readLine 105 = .ok (.getstatic 50, 3)) rfl rfl rfl e2 ?_
  exact X_cv (as := [.ref b1]) (rest := []) (by decide +kernel : decode cX0_readLine 108 = .ok (.invokevirtual 43, 3)) (Or.inl ⟨rfl, rfl, rfl⟩) rfl rfl rfl rfl rfl (Nat.le_of_ble_eq_true rfl) (Or.inr (Or.inr (by rw [g3]; rfl))) hd1 k
theorem kX0_readLine_111 {o0 : Option Value} (k : X E d fX0_readLine 149 [o0] [] S (mI M) Q) : X E d fX0_readLine 111 [o0] [] S (mI M) Q := by
  exact X_goto 149 (by decide +kernel : decode cX0_readLine 111 = .ok (.goto 38, 3)) rfl (by decide) k
theorem kX0_readLine_114 {a0 : Nat} {b1 : Nat} (e2 : E 10 = .ref b1) (hd1 : 1 ≤ d) (k : X E (d - 1) fX0_readOrder 0 [some (.ref a0), some (.ref b1), none, none] [] S (mI M) (Kr E d fX0_readLine 121 [some (.ref a0)] [] Q)) (g3 : aKd S a0 = 2) : X E d fX0_readLine 114 [some (.ref a0)] [] S (mI M) Q := by
  refine X_aload_n 115 (by decide +kernel : decode cX0_readLine 114 = .ok (.aload_n 0, 1)) rfl rfl rfl ?_
  refine X_getst 118 (by decide +kernel : decode cX0_readLine 115 = .ok (.getstatic 53, 3)) rfl rfl rfl e2 ?_
  exact X_cv (as := [.ref b1]) (rest := []) (by decide +kernel : decode cX0_readLine 118 = .ok (.invokevirtual 56, 3)) (Or.inl ⟨rfl, rfl, rfl⟩) rfl rfl rfl rfl rfl (Nat.le_of_ble_eq_true rfl) (Or.inr (Or.inr (by rw [g3]; rfl))) hd1 k
theorem kX0_readLine_121 {o0 : Option Value} (k : X E d fX0_readLine 149 [o0] [] S (mI M) Q) : X E d fX0_readLine 121 [o0] [] S (mI M) Q := by
  exact X_goto 149 (by decide +kernel : decode cX0_readLine 121 = .ok (.goto 28, 3)) rfl (by decide) k
theorem kX0_readLine_124 {a0 : Nat} {b1 : Nat} (e2 : E 11 = .ref b1) (hd1 : 1 ≤ d) (k : X E (d - 1) fX0_readOrder 0 [some (.ref a0), some (.ref b1), none, none] [] S (mI M) (Kr E d fX0_readLine 131 [some (.ref a0)] [] Q)) (g3 : aKd S a0 = 2) : X E d fX0_readLine 124 [some (.ref a0)] [] S (mI M) Q := by
  refine X_aload_n 125 (by decide +kernel : decode cX0_readLine 124 = .ok (.aload_n 0, 1)) rfl rfl rfl ?_
  refine X_getst 128 (by decide +kernel : decode cX0_readLine 125 = .ok (.getstatic 59, 3)) rfl rfl rfl e2 ?_
  exact X_cv (as := [.ref b1]) (rest := []) (by decide +kernel : decode cX0_readLine 128 = .ok (.invokevirtual 56, 3)) (Or.inl ⟨rfl, rfl, rfl⟩) rfl rfl rfl rfl rfl (Nat.le_of_ble_eq_true rfl) (Or.inr (Or.inr (by rw [g3]; rfl))) hd1 k
theorem kX0_readLine_131 {o0 : Option Value} (k : X E d fX0_readLine 149 [o0] [] S (mI M) Q) : X E d fX0_readLine 131 [o0] [] S (mI M) Q := by
  exact X_goto 149 (by decide +kernel : decode cX0_readLine 131 = .ok (.goto 18, 3)) rfl (by decide) k
theorem kX0_readLine_134 {a0 : Nat} {b1 : Nat} (e2 : E 12 = .ref b1) (hd1 : 1 ≤ d) (k : X E (d - 1) fX0_readOrder 0 [some (.ref a0), some (.ref b1), none, none] [] S (mI M) (Kr E d fX0_readLine 141 [some (.ref a0)] [] Q)) (g3 : aKd S a0 = 2) : X E d fX0_readLine 134 [some (.ref a0)] [] S (mI M) Q := by
  refine X_aload_n 135 (by decide +kernel : decode cX0_readLine 134 = .ok (.aload_n 0, 1)) rfl rfl rfl ?_
  refine X_getst 138 (by decide +kernel : decode cX0_readLine 135 = .ok (.getstatic 62, 3)) rfl rfl rfl e2 ?_
  exact X_cv (as := [.ref b1]) (rest := []) (by decide +kernel : decode cX0_readLine 138 = .ok (.invokevirtual 56, 3)) (Or.inl ⟨rfl, rfl, rfl⟩) rfl rfl rfl rfl rfl (Nat.le_of_ble_eq_true rfl) (Or.inr (Or.inr (by rw [g3]; rfl))) hd1 k
theorem kX0_readLine_141 {o0 : Option Value} (k : X E d fX0_readLine 149 [o0] [] S (mI M) Q) : X E d fX0_readLine 141 [o0] [] S (mI M) Q := by
  exact X_goto 149 (by decide +kernel : decode cX0_readLine 141 = .ok (.goto 8, 3)) rfl (by decide) k
theorem kX0_readLine_144 {a0 : Nat} (g1 : aK S a0 = 2) (k : X E d fX0_readLine 149 [some (.ref a0)] [] S (mI (mW M a0 2 1)) Q) : X E d fX0_readLine 144 [some (.ref a0)] [] S (mI M) Q := by
  refine X_aload_n 145 (by decide +kernel : decode cX0_readLine 144 = .ok (.aload_n 0, 1)) rfl rfl rfl ?_
  refine X_iconst 146 (by decide +kernel : decode cX0_readLine 145 = .ok (.iconst 1, 1)) rfl rfl ?_
  refine X_putI 149 (by decide +kernel : decode cX0_readLine 146 = .ok (.putfield 19, 3)) rfl rfl (by decide +kernel : aFd 2 19 = some (2, 2, false, false)) (Or.inl rfl) g1 (by decide) (by decide) ?_
  exact k
theorem kX0_readLine_149 {a0 : Nat} (hd1 : 1 ≤ d) (k : X E (d - 1) fX0_need 0 [some (.ref a0), some (J 36)] [] S (mI M) (Kr E d fX0_readLine 155 [some (.ref a0)] [] Q)) (g1 : aKd S a0 = 2) : X E d fX0_readLine 149 [some (.ref a0)] [] S (mI M) Q := by
  refine X_aload_n 150 (by decide +kernel : decode cX0_readLine 149 = .ok (.aload_n 0, 1)) rfl rfl rfl ?_
  refine X_bipush 152 (36) (by decide +kernel : decode cX0_readLine 150 = .ok (.bipush 36, 2)) rfl rfl (by decide +kernel) ?_
  exact X_cv (as := [J 36]) (rest := []) (by decide +kernel : decode cX0_readLine 152 = .ok (.invokevirtual 65, 3)) (Or.inl ⟨rfl, rfl, rfl⟩) rfl rfl rfl rfl rfl (Nat.le_of_ble_eq_true rfl) (Or.inr (Or.inr (by rw [g1]; rfl))) hd1 k
theorem kX0_readLine_155 {o0 : Option Value} (q : Q (some none) S (mI M)) : X E d fX0_readLine 155 [o0] [] S (mI M) Q := by
  exact X_vret (by decide +kernel : decode cX0_readLine 155 = .ok (.return_, 1)) rfl rfl q
theorem kX0_needAll_0 {o0 : Option Value} {o1 : Option Value} {o2 : Option Value} (k : X E d fX0_needAll 2 [o0, o1, some (J 0)] [] S (mI M) Q) : X E d fX0_needAll 0 [o0, o1, o2] [] S (mI M) Q := by
  refine X_iconst 1 (by decide +kernel : decode cX0_needAll 0 = .ok (.iconst 0, 1)) rfl rfl ?_
  refine X_istore_n 2 (by decide +kernel : decode cX0_needAll 1 = .ok (.istore_n 2, 1)) rfl rfl (Nat.le_of_ble_eq_true rfl) rfl ?_
  exact k
theorem kX0_needAll_2 {o0 : Option Value} {a1 : Nat} {x2 : Int} (g1 : aKd S a1 = 100 ∨ aKd S a1 = 101 ∨ aKd S a1 = 102) (r2 : R32 x2) (r3 : R32 ((aN S a1 : Int))) (k1 : (aN S a1 : Int) ≤ x2 → X E d fX0_needAll 21 [o0, some (.ref a1), some (J x2)] [] S (mI M) Q) (k2 : x2 < (aN S a1 : Int) → X E d fX0_needAll 8 [o0, some (.ref a1), some (J x2)] [] S (mI M) Q) : X E d fX0_needAll 2 [o0, some (.ref a1), some (J x2)] [] S (mI M) Q := by
  refine X_iload_n 3 (by decide +kernel : decode cX0_needAll 2 = .ok (.iload_n 2, 1)) rfl rfl rfl ?_
  refine X_aload_n 4 (by decide +kernel : decode cX0_needAll 3 = .ok (.aload_n 1, 1)) rfl rfl rfl ?_
  refine X_alen 5 (by decide +kernel : decode cX0_needAll 4 = .ok (.arraylength, 1)) rfl rfl g1 ?_
  exact X_icmpge 21 8 (by decide +kernel : decode cX0_needAll 5 = .ok (.if_icmp .ge 16, 3)) rfl rfl (by decide) r2 r3 k1 k2
theorem kX0_needAll_8 {a0 : Nat} {a1 : Nat} {x2 : Int} (g1 : aKd S a1 = 100) (r2 : R32 x2) (h3 : (0 : Int) ≤ x2 ∧ x2 < (aN S a1 : Int)) (hd1 : 1 ≤ d) (k : X E (d - 1) fX0_need 0 [some (.ref a0), some (J (M a1 x2.toNat))] [] S (mI M) (Kr E d fX0_needAll 15 [some (.ref a0), some (.ref a1), some (J x2)] [] Q)) (g4 : aKd S a0 = 2) : X E d fX0_needAll 8 [some (.ref a0), some (.ref a1), some (J x2)] [] S (mI M) Q := by
  refine X_aload_n 9 (by decide +kernel : decode cX0_needAll 8 = .ok (.aload_n 0, 1)) rfl rfl rfl ?_
  refine X_aload_n 10 (by decide +kernel : decode cX0_needAll 9 = .ok (.aload_n 1, 1)) rfl rfl rfl ?_
  refine X_iload_n 11 (by decide +kernel : decode cX0_needAll 10 = .ok (.iload_n 2, 1)) rfl rfl rfl ?_
  refine X_iald 12 (by decide +kernel : decode cX0_needAll 11 = .ok (.iaload, 1)) rfl rfl g1 r2 h3 ?_
  exact X_cv (as := [J (M a1 x2.toNat)]) (rest := []) (by decide +kernel : decode cX0_needAll 12 = .ok (.invokevirtual 65, 3)) (Or.inl ⟨rfl, rfl, rfl⟩) rfl rfl rfl rfl rfl (Nat.le_of_ble_eq_true rfl) (Or.inr (Or.inr (by rw [g4]; rfl))) hd1 k
theorem kX0_needAll_15 {o0 : Option Value} {o1 : Option Value} {x2 : Int} (k : X E d fX0_needAll 2 [o0, o1, some (J (x2 + 1))] [] S (mI M) Q) : X E d fX0_needAll 15 [o0, o1, some (J x2)] [] S (mI M) Q := by
  refine X_iinc 18 (by decide +kernel : decode cX0_needAll 15 = .ok (.iinc 2 1, 3)) rfl rfl rfl rfl ?_
  exact X_goto 2 (by decide +kernel : decode cX0_needAll 18 = .ok (.goto (-16), 3)) rfl (by decide) k
theorem kX0_needAll_21 {o0 : Option Value} {o1 : Option Value} {o2 : Option Value} (q : Q (some none) S (mI M)) : X E d fX0_needAll 21 [o0, o1, o2] [] S (mI M) Q := by
  exact X_vret (by decide +kernel : decode cX0_needAll 21 = .ok (.return_, 1)) rfl rfl q
theorem kX0_need_0 {a0 : Nat} {o1 : Option Value} (g1 : aKd S a0 = 2) (r2 : R32 (M a0 2)) (k1 : (M a0 2) ≠ 0 → X E d fX0_need 15 [some (.ref a0), o1] [] S (mI M) Q) (k2 : (M a0 2) = 0 → X E d fX0_need 7 [some (.ref a0), o1] [] S (mI M) Q) : X E d fX0_need 0 [some (.ref a0), o1] [] S (mI M) Q := by
  refine X_aload_n 1 (by decide +kernel : decode cX0_need 0 = .ok (.aload_n 0, 1)) rfl rfl rfl ?_
  refine X_getI 4 (by decide +kernel : decode cX0_need 1 = .ok (.getfield 19, 3)) rfl rfl (by decide +kernel : aFd 2 19 = some (2, 2, false, false)) g1 ?_
  exact X_ifne 15 7 (by decide +kernel : decode cX0_need 4 = .ok (.ifCond .ne 11, 3)) rfl rfl (by decide) r2 k1 k2
theorem kX0_need_7 {a0 : Nat} {x1 : Int} (g1 : aKd S a0 = 2) (r2 : R32 (M a0 4)) (r3 : R32 x1) (k1 : (M a0 4) = x1 → X E d fX0_need 21 [some (.ref a0), some (J x1)] [] S (mI M) Q) (k2 : (M a0 4) ≠ x1 → X E d fX0_need 15 [some (.ref a0), some (J x1)] [] S (mI M) Q) : X E d fX0_need 7 [some (.ref a0), some (J x1)] [] S (mI M) Q := by
  refine X_aload_n 8 (by decide +kernel : decode cX0_need 7 = .ok (.aload_n 0, 1)) rfl rfl rfl ?_
  refine X_getI 11 (by decide +kernel : decode cX0_need 8 = .ok (.getfield 33, 3)) rfl rfl (by decide +kernel : aFd 2 33 = some (2, 4, false, false)) g1 ?_
  refine X_iload_n 12 (by decide +kernel : decode cX0_need 11 = .ok (.iload_n 1, 1)) rfl rfl rfl ?_
  exact X_icmpeq 21 15 (by decide +kernel : decode cX0_need 12 = .ok (.if_icmp .eq 9, 3)) rfl rfl (by decide) r2 r3 k1 k2
theorem kX0_need_15 {a0 : Nat} {o1 : Option Value} (g1 : aK S a0 = 2) (q : Q (some none) S (mI (mW M a0 2 1))) : X E d fX0_need 15 [some (.ref a0), o1] [] S (mI M) Q := by
  refine X_aload_n 16 (by decide +kernel : decode cX0_need 15 = .ok (.aload_n 0, 1)) rfl rfl rfl ?_
  refine X_iconst 17 (by decide +kernel : decode cX0_need 16 = .ok (.iconst 1, 1)) rfl rfl ?_
  refine X_putI 20 (by decide +kernel : decode cX0_need 17 = .ok (.putfield 19, 3)) rfl rfl (by decide +kernel : aFd 2 19 = some (2, 2, false, false)) (Or.inl rfl) g1 (by decide) (by decide) ?_
  exact X_vret (by decide +kernel : decode cX0_need 20 = .ok (.return_, 1)) rfl rfl q
theorem kX0_need_21 {a0 : Nat} {o1 : Option Value} {b5 : Nat} {b8 : Nat} (g1 : aKd S a0 = 2) (g2 : aK S a0 = 2) (p6 : aP S a0 0 = some b5) (g7 : aKd S b5 = 7) (p9 : aP S b5 0 = some b8) (g10 : aKd S b8 = 100 ∨ aKd S b8 = 101 ∨ aKd S b8 = 102) (r11 : R32 ((mW M a0 3 (nz ((M a0 3) + 1))) a0 3)) (r12 : R32 ((aN S b8 : Int))) (k1 : (aN S b8 : Int) ≤ ((mW M a0 3 (nz ((M a0 3) + 1))) a0 3) → X E d fX0_need 62 [some (.ref a0), o1] [.ref a0] S (mI (mW M a0 3 (nz ((M a0 3) + 1)))) Q) (k2 : ((mW M a0 3 (nz ((M a0 3) + 1))) a0 3) < (aN S b8 : Int) → X E d fX0_need 47 [some (.ref a0), o1] [.ref a0] S (mI (mW M a0 3 (nz ((M a0 3) + 1)))) Q) : X E d fX0_need 21 [some (.ref a0), o1] [] S (mI M) Q := by
  refine X_aload_n 22 (by decide +kernel : decode cX0_need 21 = .ok (.aload_n 0, 1)) rfl rfl rfl ?_
  refine X_dup 23 (by decide +kernel : decode cX0_need 22 = .ok (.dup, 1)) rfl rfl rfl ?_
  refine X_getI 26 (by decide +kernel : decode cX0_need 23 = .ok (.getfield 23, 3)) rfl rfl (by decide +kernel : aFd 2 23 = some (2, 3, false, false)) g1 ?_
  refine X_iconst 27 (by decide +kernel : decode cX0_need 26 = .ok (.iconst 1, 1)) rfl rfl ?_
  refine X_iadd 28 (by decide +kernel : decode cX0_need 27 = .ok (.iadd, 1)) rfl rfl ?_
  refine X_putIz 31 (by decide +kernel : decode cX0_need 28 = .ok (.putfield 23, 3)) rfl rfl (by decide +kernel : aFd 2 23 = some (2, 3, false, false)) (Or.inl rfl) g2 rfl rfl ?_
  refine X_aload_n 32 (by decide +kernel : decode cX0_need 31 = .ok (.aload_n 0, 1)) rfl rfl rfl ?_
  refine X_aload_n 33 (by decide +kernel : decode cX0_need 32 = .ok (.aload_n 0, 1)) rfl rfl rfl ?_
  refine X_getI 36 (by decide +kernel : decode cX0_need 33 = .ok (.getfield 23, 3)) rfl rfl (by decide +kernel : aFd 2 23 = some (2, 3, false, false)) g1 ?_
  refine X_aload_n 37 (by decide +kernel : decode cX0_need 36 = .ok (.aload_n 0, 1)) rfl rfl rfl ?_
  refine X_getR 40 (by decide +kernel : decode cX0_need 37 = .ok (.getfield 9, 3)) rfl rfl (by decide +kernel : aFd 2 9 = some (2, 0, true, true)) g1 p6 ?_
  refine X_getR 43 (by decide +kernel : decode cX0_need 40 = .ok (.getfield 119, 3)) rfl rfl (by decide +kernel : aFd 2 119 = some (7, 0, true, true)) g7 p9 ?_
  refine X_alen 44 (by decide +kernel : decode cX0_need 43 = .ok (.arraylength, 1)) rfl rfl g10 ?_
  exact X_icmpge 62 47 (by decide +kernel : decode cX0_need 44 = .ok (.if_icmp .ge 18, 3)) rfl rfl (by decide) r11 r12 k1 k2
theorem kX0_need_47 {a0 : Nat} {o1 : Option Value} {u0 : Nat} {b2 : Nat} {b5 : Nat} (g1 : aKd S a0 = 2) (p3 : aP S a0 0 = some b2) (g4 : aKd S b2 = 7) (p6 : aP S b2 0 = some b5) (g8 : aKd S b5 = 100) (r9 : R32 (M a0 3)) (h10 : (0 : Int) ≤ M a0 3 ∧ (M a0 3) < (aN S b5 : Int)) (k : X E d fX0_need 64 [some (.ref a0), o1] [J (M b5 (M a0 3).toNat), .ref u0] S (mI M) Q) : X E d fX0_need 47 [some (.ref a0), o1] [.ref u0] S (mI M) Q := by
  refine X_aload_n 48 (by decide +kernel : decode cX0_need 47 = .ok (.aload_n 0, 1)) rfl rfl rfl ?_
  refine X_getR 51 (by decide +kernel : decode cX0_need 48 = .ok (.getfield 9, 3)) rfl rfl (by decide +kernel : aFd 2 9 = some (2, 0, true, true)) g1 p3 ?_
  refine X_getR 54 (by decide +kernel : decode cX0_need 51 = .ok (.getfield 119, 3)) rfl rfl (by decide +kernel : aFd 2 119 = some (7, 0, true, true)) g4 p6 ?_
  refine X_aload_n 55 (by decide +kernel : decode cX0_need 54 = .ok (.aload_n 0, 1)) rfl rfl rfl ?_
  refine X_getI 58 (by decide +kernel : decode cX0_need 55 = .ok (.getfield 23, 3)) rfl rfl (by decide +kernel : aFd 2 23 = some (2, 3, false, false)) g1 ?_
  refine X_iald 59 (by decide +kernel : decode cX0_need 58 = .ok (.iaload, 1)) rfl rfl g8 r9 h10 ?_
  exact X_goto 64 (by decide +kernel : decode cX0_need 59 = .ok (.goto 5, 3)) rfl (by decide) k
theorem kX0_need_62 {o0 : Option Value} {o1 : Option Value} {u0 : Nat} (k : X E d fX0_need 64 [o0, o1] [J 50, .ref u0] S (mI M) Q) : X E d fX0_need 62 [o0, o1] [.ref u0] S (mI M) Q := by
  refine X_bipush 64 (50) (by decide +kernel : decode cX0_need 62 = .ok (.bipush 50, 2)) rfl rfl (by decide +kernel) ?_
  exact k
theorem kX0_need_64 {o0 : Option Value} {o1 : Option Value} {t0 : Int} {u1 : Nat} (g1 : aK S u1 = 2) (q : Q (some none) S (mI (mW M u1 4 t0))) : X E d fX0_need 64 [o0, o1] [J t0, .ref u1] S (mI M) Q := by
  refine X_putI 67 (by decide +kernel : decode cX0_need 64 = .ok (.putfield 33, 3)) rfl rfl (by decide +kernel : aFd 2 33 = some (2, 4, false, false)) (Or.inl rfl) g1 rfl rfl ?_
  exact X_vret (by decide +kernel : decode cX0_need 67 = .ok (.return_, 1)) rfl rfl q
theorem kX0_readOrder_0 {a0 : Nat} {o1 : Option Value} {o2 : Option Value} {o3 : Option Value} {b3 : Nat} (g1 : aKd S a0 = 2) (p4 : aP S a0 1 = some b3) (hd1 : 1 ≤ d) (k : X E (d - 1) fX1_begin 0 [some (.ref b3), some (J (M a0 4)), some (J (M a0 3)), none] [] S (mI M) (Kr E d fX0_readOrder 17 [some (.ref a0), o1, some (J (M a0 4)), o3] [] Q)) (g6 : aKd S b3 = 3) : X E d fX0_readOrder 0 [some (.ref a0), o1, o2, o3] [] S (mI M) Q := by
  refine X_aload_n 1 (by decide +kernel : decode cX0_readOrder 0 = .ok (.aload_n 0, 1)) rfl rfl rfl ?_
  refine X_getI 4 (by decide +kernel : decode cX0_readOrder 1 = .ok (.getfield 33, 3)) rfl rfl (by decide +kernel : aFd 2 33 = some (2, 4, false, false)) g1 ?_
  refine X_istore_n 5 (by decide +kernel : decode cX0_readOrder 4 = .ok (.istore_n 2, 1)) rfl rfl (Nat.le_of_ble_eq_true rfl) rfl ?_
  refine X_aload_n 6 (by decide +kernel : decode cX0_readOrder 5 = .ok (.aload_n 0, 1)) rfl rfl rfl ?_
  refine X_getR 9 (by decide +kernel : decode cX0_readOrder 6 = .ok (.getfield 15, 3)) rfl rfl (by decide +kernel : aFd 2 15 = some (2, 1, true, false)) g1 p4 ?_
  refine X_iload_n 10 (by decide +kernel : decode cX0_readOrder 9 = .ok (.iload_n 2, 1)) rfl rfl rfl ?_
  refine X_aload_n 11 (by decide +kernel : decode cX0_readOrder 10 = .ok (.aload_n 0, 1)) rfl rfl rfl ?_
  refine X_getI 14 (by decide +kernel : decode cX0_readOrder 11 = .ok (.getfield 23, 3)) rfl rfl (by decide +kernel : aFd 2 23 = some (2, 3, false, false)) g1 ?_
  exact X_cv (as := [J (M a0 3), J (M a0 4)]) (rest := []) (by decide +kernel : decode cX0_readOrder 14 = .ok (.invokevirtual 69, 3)) (Or.inl ⟨rfl, rfl, rfl⟩) rfl rfl rfl rfl rfl (Nat.le_of_ble_eq_true rfl) (Or.inr (Or.inr (by rw [g6]; rfl))) hd1 k
theorem kX0_readOrder_17 {a0 : Nat} {a1 : Nat} {o2 : Option Value} {o3 : Option Value} {t0 : Int} (hd1 : 1 ≤ d) (k : X E (d - 1) fX0_needAll 0 [some (.ref a0), some (.ref a1), none] [] S (mI M) (Kr E d fX0_readOrder 23 [some (.ref a0), some (.ref a1), o2, some (J t0)] [] Q)) (g1 : aKd S a0 = 2) : X E d fX0_readOrder 17 [some (.ref a0), some (.ref a1), o2, o3] [J t0] S (mI M) Q := by
  refine X_istore_n 18 (by decide +kernel : decode cX0_readOrder 17 = .ok (.istore_n 3, 1)) rfl rfl (Nat.le_of_ble_eq_true rfl) rfl ?_
  refine X_aload_n 19 (by decide +kernel : decode cX0_readOrder 18 = .ok (.aload_n 0, 1)) rfl rfl rfl ?_
  refine X_aload_n 20 (by decide +kernel : decode cX0_readOrder 19 = .ok (.aload_n 1, 1)) rfl rfl rfl ?_
  exact X_cv (as := [.ref a1]) (rest := []) (by decide +kernel : decode cX0_readOrder 20 = .ok (.invokevirtual 43, 3)) (Or.inl ⟨rfl, rfl, rfl⟩) rfl rfl rfl rfl rfl (Nat.le_of_ble_eq_true rfl) (Or.inr (Or.inr (by rw [g1]; rfl))) hd1 k
theorem kX0_readOrder_23 {o0 : Option Value} {o1 : Option Value} {x2 : Int} {o3 : Option Value} (r1 : R32 x2) (k1 : x2 ≠ 15 → X E d fX0_readOrder 34 [o0, o1, some (J x2), o3] [] S (mI M) Q) (k2 : x2 = 15 → X E d fX0_readOrder 29 [o0, o1, some (J x2), o3] [] S (mI M) Q) : X E d fX0_readOrder 23 [o0, o1, some (J x2), o3] [] S (mI M) Q := by
  refine X_iload_n 24 (by decide +kernel : decode cX0_readOrder 23 = .ok (.iload_n 2, 1)) rfl rfl rfl ?_
  refine X_bipush 26 (15) (by decide +kernel : decode cX0_readOrder 24 = .ok (.bipush 15, 2)) rfl rfl (by decide +kernel) ?_
  exact X_icmpne 34 29 (by decide +kernel : decode cX0_readOrder 26 = .ok (.if_icmp .ne 8, 3)) rfl rfl (by decide) r1 ⟨by decide, by decide⟩ k1 k2
theorem kX0_readOrder_29 {a0 : Nat} {o1 : Option Value} {o2 : Option Value} {o3 : Option Value} (hd1 : 1 ≤ d) (k : X E (d - 1) fX0_sum 0 [some (.ref a0), some (J 0), none, none] [] S (mI M) (Kr E d fX0_readOrder 34 [some (.ref a0), o1, o2, o3] [] Q)) (g1 : aKd S a0 = 2) : X E d fX0_readOrder 29 [some (.ref a0), o1, o2, o3] [] S (mI M) Q := by
  refine X_aload_n 30 (by decide +kernel : decode cX0_readOrder 29 = .ok (.aload_n 0, 1)) rfl rfl rfl ?_
  refine X_iconst 31 (by decide +kernel : decode cX0_readOrder 30 = .ok (.iconst 0, 1)) rfl rfl ?_
  exact X_cv (as := [J 0]) (rest := []) (by decide +kernel : decode cX0_readOrder 31 = .ok (.invokevirtual 75, 3)) (Or.inl ⟨rfl, rfl, rfl⟩) rfl rfl rfl rfl rfl (Nat.le_of_ble_eq_true rfl) (Or.inr (Or.inr (by rw [g1]; rfl))) hd1 k
theorem kX0_readOrder_34 {a0 : Nat} {o1 : Option Value} {o2 : Option Value} {x3 : Int} {b2 : Nat} (g1 : aKd S a0 = 2) (p3 : aP S a0 1 = some b2) (hd1 : 1 ≤ d) (k : X E (d - 1) fX1_endSum 0 [some (.ref b2), some (J x3)] [] S (mI M) (Kr E d fX0_readOrder 42 [some (.ref a0), o1, o2, some (J x3)] [] Q)) (g4 : aKd S b2 = 3) : X E d fX0_readOrder 34 [some (.ref a0), o1, o2, some (J x3)] [] S (mI M) Q := by
  refine X_aload_n 35 (by decide +kernel : decode cX0_readOrder 34 = .ok (.aload_n 0, 1)) rfl rfl rfl ?_
  refine X_getR 38 (by decide +kernel : decode cX0_readOrder 35 = .ok (.getfield 15, 3)) rfl rfl (by decide +kernel : aFd 2 15 = some (2, 1, true, false)) g1 p3 ?_
  refine X_iload_n 39 (by decide +kernel : decode cX0_readOrder 38 = .ok (.iload_n 3, 1)) rfl rfl rfl ?_
  exact X_cv (as := [J x3]) (rest := []) (by decide +kernel : decode cX0_readOrder 39 = .ok (.invokevirtual 78, 3)) (Or.inl ⟨rfl, rfl, rfl⟩) rfl rfl rfl rfl rfl (Nat.le_of_ble_eq_true rfl) (Or.inr (Or.inr (by rw [g4]; rfl))) hd1 k
theorem kX0_readOrder_42 {o0 : Option Value} {o1 : Option Value} {x2 : Int} {o3 : Option Value} (r1 : R32 x2) (k1 : x2 ≠ 15 → X E d fX0_readOrder 57 [o0, o1, some (J x2), o3] [] S (mI M) Q) (k2 : x2 = 15 → X E d fX0_readOrder 48 [o0, o1, some (J x2), o3] [] S (mI M) Q) : X E d fX0_readOrder 42 [o0, o1, some (J x2), o3] [] S (mI M) Q := by
  refine X_iload_n 43 (by decide +kernel : decode cX0_readOrder 42 = .ok (.iload_n 2, 1)) rfl rfl rfl ?_
  refine X_bipush 45 (15) (by decide +kernel : decode cX0_readOrder 43 = .ok (.bipush 15, 2)) rfl rfl (by decide +kernel) ?_
  exact X_icmpne 57 48 (by decide +kernel : decode cX0_readOrder 45 = .ok (.if_icmp .ne 12, 3)) rfl rfl (by decide) r1 ⟨by decide, by decide⟩ k1 k2
theorem kX0_readOrder_48 {a0 : Nat} {o1 : Option Value} {o2 : Option Value} {o3 : Option Value} (hd1 : 1 ≤ d) (k : X E (d - 1) fX0_accept 0 [some (.ref a0), some (J 17), none] [] S (mI M) (Kr E d fX0_readOrder 54 [some (.ref a0), o1, o2, o3] [] Q)) (g1 : aKd S a0 = 2) : X E d fX0_readOrder 48 [some (.ref a0), o1, o2, o3] [] S (mI M) Q := by
  refine X_aload_n 49 (by decide +kernel : decode cX0_readOrder 48 = .ok (.aload_n 0, 1)) rfl rfl rfl ?_
  refine X_bipush 51 (17) (by decide +kernel : decode cX0_readOrder 49 = .ok (.bipush 17, 2)) rfl rfl (by decide +kernel) ?_
  exact X_cv (as := [J 17]) (rest := []) (by decide +kernel : decode cX0_readOrder 51 = .ok (.invokevirtual 81, 3)) (Or.inl ⟨rfl, rfl, rfl⟩) rfl rfl rfl rfl rfl (Nat.le_of_ble_eq_true rfl) (Or.inr (Or.inr (by rw [g1]; rfl))) hd1 k
theorem kX0_readOrder_54 {o0 : Option Value} {o1 : Option Value} {o2 : Option Value} {o3 : Option Value} {t0 : Int} (r1 : R32 t0) (k1 : t0 = 0 → X E d fX0_readOrder 62 [o0, o1, o2, o3] [] S (mI M) Q) (k2 : t0 ≠ 0 → X E d fX0_readOrder 57 [o0, o1, o2, o3] [] S (mI M) Q) : X E d fX0_readOrder 54 [o0, o1, o2, o3] [J t0] S (mI M) Q := by
  exact X_ifeq 62 57 (by decide +kernel : decode cX0_readOrder 54 = .ok (.ifCond .eq 8, 3)) rfl rfl (by decide) r1 k1 k2
theorem kX0_readOrder_57 {a0 : Nat} {o1 : Option Value} {o2 : Option Value} {o3 : Option Value} (hd1 : 1 ≤ d) (k : X E (d - 1) fX0_test 0 [some (.ref a0), some (J 0), none] [] S (mI M) (Kr E d fX0_readOrder 62 [some (.ref a0), o1, o2, o3] [] Q)) (g1 : aKd S a0 = 2) : X E d fX0_readOrder 57 [some (.ref a0), o1, o2, o3] [] S (mI M) Q := by
  refine X_aload_n 58 (by decide +kernel : decode cX0_readOrder 57 = .ok (.aload_n 0, 1)) rfl rfl rfl ?_
  refine X_iconst 59 (by decide +kernel : decode cX0_readOrder 58 = .ok (.iconst 0, 1)) rfl rfl ?_
  exact X_cv (as := [J 0]) (rest := []) (by decide +kernel : decode cX0_readOrder 59 = .ok (.invokevirtual 85, 3)) (Or.inl ⟨rfl, rfl, rfl⟩) rfl rfl rfl rfl rfl (Nat.le_of_ble_eq_true rfl) (Or.inr (Or.inr (by rw [g1]; rfl))) hd1 k
theorem kX0_readOrder_62 {a0 : Nat} {o1 : Option Value} {o2 : Option Value} {x3 : Int} {b2 : Nat} (g1 : aKd S a0 = 2) (p3 : aP S a0 1 = some b2) (hd1 : 1 ≤ d) (k : X E (d - 1) fX1_endTest 0 [some (.ref b2), some (J x3)] [] S (mI M) (Kr E d fX0_readOrder 70 [some (.ref a0), o1, o2, some (J x3)] [] Q)) (g4 : aKd S b2 = 3) : X E d fX0_readOrder 62 [some (.ref a0), o1, o2, some (J x3)] [] S (mI M) Q := by
  refine X_aload_n 63 (by decide +kernel : decode cX0_readOrder 62 = .ok (.aload_n 0, 1)) rfl rfl rfl ?_
  refine X_getR 66 (by decide +kernel : decode cX0_readOrder 63 = .ok (.getfield 15, 3)) rfl rfl (by decide +kernel : aFd 2 15 = some (2, 1, true, false)) g1 p3 ?_
  refine X_iload_n 67 (by decide +kernel : decode cX0_readOrder 66 = .ok (.iload_n 3, 1)) rfl rfl rfl ?_
  exact X_cv (as := [J x3]) (rest := []) (by decide +kernel : decode cX0_readOrder 67 = .ok (.invokevirtual 88, 3)) (Or.inl ⟨rfl, rfl, rfl⟩) rfl rfl rfl rfl rfl (Nat.le_of_ble_eq_true rfl) (Or.inr (Or.inr (by rw [g4]; rfl))) hd1 k
theorem kX0_readOrder_70 {o0 : Option Value} {o1 : Option Value} {o2 : Option Value} {o3 : Option Value} (q : Q (some none) S (mI M)) : X E d fX0_readOrder 70 [o0, o1, o2, o3] [] S (mI M) Q := by
  exact X_vret (by decide +kernel : decode cX0_readOrder 70 = .ok (.return_, 1)) rfl rfl q
theorem kX0_sum_0 {a0 : Nat} {x1 : Int} {o2 : Option Value} {o3 : Option Value} (hd1 : 1 ≤ d) (k : X E (d - 1) fX0_product 0 [some (.ref a0), some (J x1), none, none] [] S (mI M) (Kr E d fX0_sum 5 [some (.ref a0), some (J x1), o2, o3] [] Q)) (g1 : aKd S a0 = 2) : X E d fX0_sum 0 [some (.ref a0), some (J x1), o2, o3] [] S (mI M) Q := by
  refine X_aload_n 1 (by decide +kernel : decode cX0_sum 0 = .ok (.aload_n 0, 1)) rfl rfl rfl ?_
  refine X_iload_n 2 (by decide +kernel : decode cX0_sum 1 = .ok (.iload_n 1, 1)) rfl rfl rfl ?_
  exact X_cv (as := [J x1]) (rest := []) (by decide +kernel : decode cX0_sum 2 = .ok (.invokevirtual 107, 3)) (Or.inl ⟨rfl, rfl, rfl⟩) rfl rfl rfl rfl rfl (Nat.le_of_ble_eq_true rfl) (Or.inr (Or.inr (by rw [g1]; rfl))) hd1 k
theorem kX0_sum_5 {o0 : Option Value} {o1 : Option Value} {o2 : Option Value} {o3 : Option Value} (k : X E d fX0_sum 7 [o0, o1, some (J 0), o3] [] S (mI M) Q) : X E d fX0_sum 5 [o0, o1, o2, o3] [] S (mI M) Q := by
  refine X_iconst 6 (by decide +kernel : decode cX0_sum 5 = .ok (.iconst 0, 1)) rfl rfl ?_
  refine X_istore_n 7 (by decide +kernel : decode cX0_sum 6 = .ok (.istore_n 2, 1)) rfl rfl (Nat.le_of_ble_eq_true rfl) rfl ?_
  exact k
theorem kX0_sum_7 {o0 : Option Value} {o1 : Option Value} {x2 : Int} {o3 : Option Value} (r1 : R32 x2) (k1 : 400 ≤ x2 → X E d fX0_sum 69 [o0, o1, some (J x2), o3] [] S (mI M) Q) (k2 : x2 < 400 → X E d fX0_sum 14 [o0, o1, some (J x2), o3] [] S (mI M) Q) : X E d fX0_sum 7 [o0, o1, some (J x2), o3] [] S (mI M) Q := by
  refine X_iload_n 8 (by decide +kernel : decode cX0_sum 7 = .ok (.iload_n 2, 1)) rfl rfl rfl ?_
  refine X_sipush 11 (400) (by decide +kernel : decode cX0_sum 8 = .ok (.sipush 400, 3)) rfl rfl (by decide +kernel) ?_
  exact X_icmpge 69 14 (by decide +kernel : decode cX0_sum 11 = .ok (.if_icmp .ge 58, 3)) rfl rfl (by decide) r1 ⟨by decide, by decide⟩ k1 k2
theorem kX0_sum_14 {a0 : Nat} {o1 : Option Value} {o2 : Option Value} {o3 : Option Value} (g1 : aKd S a0 = 2) (r2 : R32 (M a0 2)) (k1 : (M a0 2) ≠ 0 → X E d fX0_sum 69 [some (.ref a0), o1, o2, o3] [] S (mI M) Q) (k2 : (M a0 2) = 0 → X E d fX0_sum 21 [some (.ref a0), o1, o2, o3] [] S (mI M) Q) : X E d fX0_sum 14 [some (.ref a0), o1, o2, o3] [] S (mI M) Q := by
  refine X_aload_n 15 (by decide +kernel : decode cX0_sum 14 = .ok (.aload_n 0, 1)) rfl rfl rfl ?_
  refine X_getI 18 (by decide +kernel : decode cX0_sum 15 = .ok (.getfield 19, 3)) rfl rfl (by decide +kernel : aFd 2 19 = some (2, 2, false, false)) g1 ?_
  exact X_ifne 69 21 (by decide +kernel : decode cX0_sum 18 = .ok (.ifCond .ne 51, 3)) rfl rfl (by decide) r2 k1 k2
theorem kX0_sum_21 {a0 : Nat} {o1 : Option Value} {o2 : Option Value} {o3 : Option Value} (g1 : aKd S a0 = 2) (r2 : R32 (M a0 4)) (k1 : (M a0 4) = 38 → X E d fX0_sum 39 [some (.ref a0), o1, o2, o3] [] S (mI M) Q) (k2 : (M a0 4) ≠ 38 → X E d fX0_sum 30 [some (.ref a0), o1, o2, o3] [] S (mI M) Q) : X E d fX0_sum 21 [some (.ref a0), o1, o2, o3] [] S (mI M) Q := by
  refine X_aload_n 22 (by decide +kernel : decode cX0_sum 21 = .ok (.aload_n 0, 1)) rfl rfl rfl ?_
  refine X_getI 25 (by decide +kernel : decode cX0_sum 22 = .ok (.getfield 33, 3)) rfl rfl (by decide +kernel : aFd 2 33 = some (2, 4, false, false)) g1 ?_
  refine X_bipush 27 (38) (by decide +kernel : decode cX0_sum 25 = .ok (.bipush 38, 2)) rfl rfl (by decide +kernel) ?_
  exact X_icmpeq 39 30 (by decide +kernel : decode cX0_sum 27 = .ok (.if_icmp .eq 12, 3)) rfl rfl (by decide) r2 ⟨by decide, by decide⟩ k1 k2
theorem kX0_sum_30 {a0 : Nat} {o1 : Option Value} {o2 : Option Value} {o3 : Option Value} (g1 : aKd S a0 = 2) (r2 : R32 (M a0 4)) (k1 : (M a0 4) ≠ 39 → X E d fX0_sum 69 [some (.ref a0), o1, o2, o3] [] S (mI M) Q) (k2 : (M a0 4) = 39 → X E d fX0_sum 39 [some (.ref a0), o1, o2, o3] [] S (mI M) Q) : X E d fX0_sum 30 [some (.ref a0), o1, o2, o3] [] S (mI M) Q := by
  refine X_aload_n 31 (by decide +kernel : decode cX0_sum 30 = .ok (.aload_n 0, 1)) rfl rfl rfl ?_
  refine X_getI 34 (by decide +kernel : decode cX0_sum 31 = .ok (.getfield 33, 3)) rfl rfl (by decide +kernel : aFd 2 33 = some (2, 4, false, false)) g1 ?_
  refine X_bipush 36 (39) (by decide +kernel : decode cX0_sum 34 = .ok (.bipush 39, 2)) rfl rfl (by decide +kernel) ?_
  exact X_icmpne 69 39 (by decide +kernel : decode cX0_sum 36 = .ok (.if_icmp .ne 33, 3)) rfl rfl (by decide) r2 ⟨by decide, by decide⟩ k1 k2
theorem kX0_sum_39 {a0 : Nat} {o1 : Option Value} {o2 : Option Value} {o3 : Option Value} (g1 : aKd S a0 = 2) (hd1 : 1 ≤ d) (k : X E (d - 1) fX0_need 0 [some (.ref a0), some (J (M a0 4))] [] S (mI M) (Kr E d fX0_sum 49 [some (.ref a0), o1, o2, some (J (M a0 4))] [] Q)) : X E d fX0_sum 39 [some (.ref a0), o1, o2, o3] [] S (mI M) Q := by
  refine X_aload_n 40 (by decide +kernel : decode cX0_sum 39 = .ok (.aload_n 0, 1)) rfl rfl rfl ?_
  refine X_getI 43 (by decide +kernel : decode cX0_sum 40 = .ok (.getfield 33, 3)) rfl rfl (by decide +kernel : aFd 2 33 = some (2, 4, false, false)) g1 ?_
  refine X_istore_n 44 (by decide +kernel : decode cX0_sum 43 = .ok (.istore_n 3, 1)) rfl rfl (Nat.le_of_ble_eq_true rfl) rfl ?_
  refine X_aload_n 45 (by decide +kernel : decode cX0_sum 44 = .ok (.aload_n 0, 1)) rfl rfl rfl ?_
  refine X_iload_n 46 (by decide +kernel : decode cX0_sum 45 = .ok (.iload_n 3, 1)) rfl rfl rfl ?_
  exact X_cv (as := [J (M a0 4)]) (rest := []) (by decide +kernel : decode cX0_sum 46 = .ok (.invokevirtual 65, 3)) (Or.inl ⟨rfl, rfl, rfl⟩) rfl rfl rfl rfl rfl (Nat.le_of_ble_eq_true rfl) (Or.inr (Or.inr (by rw [g1]; rfl))) hd1 k
theorem kX0_sum_49 {a0 : Nat} {x1 : Int} {o2 : Option Value} {o3 : Option Value} (hd1 : 1 ≤ d) (k : X E (d - 1) fX0_product 0 [some (.ref a0), some (J x1), none, none] [] S (mI M) (Kr E d fX0_sum 54 [some (.ref a0), some (J x1), o2, o3] [] Q)) (g1 : aKd S a0 = 2) : X E d fX0_sum 49 [some (.ref a0), some (J x1), o2, o3] [] S (mI M) Q := by
  refine X_aload_n 50 (by decide +kernel : decode cX0_sum 49 = .ok (.aload_n 0, 1)) rfl rfl rfl ?_
  refine X_iload_n 51 (by decide +kernel : decode cX0_sum 50 = .ok (.iload_n 1, 1)) rfl rfl rfl ?_
  exact X_cv (as := [J x1]) (rest := []) (by decide +kernel : decode cX0_sum 51 = .ok (.invokevirtual 107, 3)) (Or.inl ⟨rfl, rfl, rfl⟩) rfl rfl rfl rfl rfl (Nat.le_of_ble_eq_true rfl) (Or.inr (Or.inr (by rw [g1]; rfl))) hd1 k
theorem kX0_sum_54 {a0 : Nat} {o1 : Option Value} {o2 : Option Value} {x3 : Int} {b2 : Nat} (g1 : aKd S a0 = 2) (p3 : aP S a0 1 = some b2) (hd1 : 1 ≤ d) (k : X E (d - 1) fX1_emit 0 [some (.ref b2), some (J x3), some (J 0)] [] S (mI M) (Kr E d fX0_sum 63 [some (.ref a0), o1, o2, some (J x3)] [] Q)) (g4 : aKd S b2 = 3) : X E d fX0_sum 54 [some (.ref a0), o1, o2, some (J x3)] [] S (mI M) Q := by
  refine X_aload_n 55 (by decide +kernel : decode cX0_sum 54 = .ok (.aload_n 0, 1)) rfl rfl rfl ?_
  refine X_getR 58 (by decide +kernel : decode cX0_sum 55 = .ok (.getfield 15, 3)) rfl rfl (by decide +kernel : aFd 2 15 = some (2, 1, true, false)) g1 p3 ?_
  refine X_iload_n 59 (by decide +kernel : decode cX0_sum 58 = .ok (.iload_n 3, 1)) rfl rfl rfl ?_
  refine X_iconst 60 (by decide +kernel : decode cX0_sum 59 = .ok (.iconst 0, 1)) rfl rfl ?_
  exact X_cv (as := [J 0, J x3]) (rest := []) (by decide +kernel : decode cX0_sum 60 = .ok (.invokevirtual 94, 3)) (Or.inl ⟨rfl, rfl, rfl⟩) rfl rfl rfl rfl rfl (Nat.le_of_ble_eq_true rfl) (Or.inr (Or.inr (by rw [g4]; rfl))) hd1 k
theorem kX0_sum_63 {o0 : Option Value} {o1 : Option Value} {x2 : Int} {o3 : Option Value} (k : X E d fX0_sum 7 [o0, o1, some (J (x2 + 1)), o3] [] S (mI M) Q) : X E d fX0_sum 63 [o0, o1, some (J x2), o3] [] S (mI M) Q := by
  refine X_iinc 66 (by decide +kernel : decode cX0_sum 63 = .ok (.iinc 2 1, 3)) rfl rfl rfl rfl ?_
  exact X_goto 7 (by decide +kernel : decode cX0_sum 66 = .ok (.goto (-59), 3)) rfl (by decide) k
theorem kX0_sum_69 {o0 : Option Value} {o1 : Option Value} {o2 : Option Value} {o3 : Option Value} (q : Q (some none) S (mI M)) : X E d fX0_sum 69 [o0, o1, o2, o3] [] S (mI M) Q := by
  exact X_vret (by decide +kernel : decode cX0_sum 69 = .ok (.return_, 1)) rfl rfl q
theorem kX0_product_0 {a0 : Nat} {x1 : Int} {o2 : Option Value} {o3 : Option Value} (hd1 : 1 ≤ d) (k : X E (d - 1) fX0_value 0 [some (.ref a0), some (J x1), none] [] S (mI M) (Kr E d fX0_product 5 [some (.ref a0), some (J x1), o2, o3] [] Q)) (g1 : aKd S a0 = 2) : X E d fX0_product 0 [some (.ref a0), some (J x1), o2, o3] [] S (mI M) Q := by
  refine X_aload_n 1 (by decide +kernel : decode cX0_product 0 = .ok (.aload_n 0, 1)) rfl rfl rfl ?_
  refine X_iload_n 2 (by decide +kernel : decode cX0_product 1 = .ok (.iload_n 1, 1)) rfl rfl rfl ?_
  exact X_cv (as := [J x1]) (rest := []) (by decide +kernel : decode cX0_product 2 = .ok (.invokevirtual 110, 3)) (Or.inl ⟨rfl, rfl, rfl⟩) rfl rfl rfl rfl rfl (Nat.le_of_ble_eq_true rfl) (Or.inr (Or.inr (by rw [g1]; rfl))) hd1 k
theorem kX0_product_5 {o0 : Option Value} {o1 : Option Value} {o2 : Option Value} {o3 : Option Value} (k : X E d fX0_product 7 [o0, o1, some (J 0), o3] [] S (mI M) Q) : X E d fX0_product 5 [o0, o1, o2, o3] [] S (mI M) Q := by
  refine X_iconst 6 (by decide +kernel : decode cX0_product 5 = .ok (.iconst 0, 1)) rfl rfl ?_
  refine X_istore_n 7 (by decide +kernel : decode cX0_product 6 = .ok (.istore_n 2, 1)) rfl rfl (Nat.le_of_ble_eq_true rfl) rfl ?_
  exact k
theorem kX0_product_7 {o0 : Option Value} {o1 : Option Value} {x2 : Int} {o3 : Option Value} (r1 : R32 x2) (k1 : 400 ≤ x2 → X E d fX0_product 69 [o0, o1, some (J x2), o3] [] S (mI M) Q) (k2 : x2 < 400 → X E d fX0_product 14 [o0, o1, some (J x2), o3] [] S (mI M) Q) : X E d fX0_product 7 [o0, o1, some (J x2), o3] [] S (mI M) Q := by
  refine X_iload_n 8 (by decide +kernel : decode cX0_product 7 = .ok (.iload_n 2, 1)) rfl rfl rfl ?_
  refine X_sipush 11 (400) (by decide +kernel : decode cX0_product 8 = .ok (.sipush 400, 3)) rfl rfl (by decide +kernel) ?_
  exact X_icmpge 69 14 (by decide +kernel : decode cX0_product 11 = .ok (.if_icmp .ge 58, 3)) rfl rfl (by decide) r1 ⟨by decide, by decide⟩ k1 k2
theorem kX0_product_14 {a0 : Nat} {o1 : Option Value} {o2 : Option Value} {o3 : Option Value} (g1 : aKd S a0 = 2) (r2 : R32 (M a0 2)) (k1 : (M a0 2) ≠ 0 → X E d fX0_product 69 [some (.ref a0), o1, o2, o3] [] S (mI M) Q) (k2 : (M a0 2) = 0 → X E d fX0_product 21 [some (.ref a0), o1, o2, o3] [] S (mI M) Q) : X E d fX0_product 14 [some (.ref a0), o1, o2, o3] [] S (mI M) Q := by
  refine X_aload_n 15 (by decide +kernel : decode cX0_product 14 = .ok (.aload_n 0, 1)) rfl rfl rfl ?_
  refine X_getI 18 (by decide +kernel : decode cX0_product 15 = .ok (.getfield 19, 3)) rfl rfl (by decide +kernel : aFd 2 19 = some (2, 2, false, false)) g1 ?_
  exact X_ifne 69 21 (by decide +kernel : decode cX0_product 18 = .ok (.ifCond .ne 51, 3)) rfl rfl (by decide) r2 k1 k2
theorem kX0_product_21 {a0 : Nat} {o1 : Option Value} {o2 : Option Value} {o3 : Option Value} (g1 : aKd S a0 = 2) (r2 : R32 (M a0 4)) (k1 : (M a0 4) = 40 → X E d fX0_product 39 [some (.ref a0), o1, o2, o3] [] S (mI M) Q) (k2 : (M a0 4) ≠ 40 → X E d fX0_product 30 [some (.ref a0), o1, o2, o3] [] S (mI M) Q) : X E d fX0_product 21 [some (.ref a0), o1, o2, o3] [] S (mI M) Q := by
  refine X_aload_n 22 (by decide +kernel : decode cX0_product 21 = .ok (.aload_n 0, 1)) rfl rfl rfl ?_
  refine X_getI 25 (by decide +kernel : decode cX0_product 22 = .ok (.getfield 33, 3)) rfl rfl (by decide +kernel : aFd 2 33 = some (2, 4, false, false)) g1 ?_
  refine X_bipush 27 (40) (by decide +kernel : decode cX0_product 25 = .ok (.bipush 40, 2)) rfl rfl (by decide +kernel) ?_
  exact X_icmpeq 39 30 (by decide +kernel : decode cX0_product 27 = .ok (.if_icmp .eq 12, 3)) rfl rfl (by decide) r2 ⟨by decide, by decide⟩ k1 k2
theorem kX0_product_30 {a0 : Nat} {o1 : Option Value} {o2 : Option Value} {o3 : Option Value} (g1 : aKd S a0 = 2) (r2 : R32 (M a0 4)) (k1 : (M a0 4) ≠ 41 → X E d fX0_product 69 [some (.ref a0), o1, o2, o3] [] S (mI M) Q) (k2 : (M a0 4) = 41 → X E d fX0_product 39 [some (.ref a0), o1, o2, o3] [] S (mI M) Q) : X E d fX0_product 30 [some (.ref a0), o1, o2, o3] [] S (mI M) Q := by
  refine X_aload_n 31 (by decide +kernel : decode cX0_product 30 = .ok (.aload_n 0, 1)) rfl rfl rfl ?_
  refine X_getI 34 (by decide +kernel : decode cX0_product 31 = .ok (.getfield 33, 3)) rfl rfl (by decide +kernel : aFd 2 33 = some (2, 4, false, false)) g1 ?_
  refine X_bipush 36 (41) (by decide +kernel : decode cX0_product 34 = .ok (.bipush 41, 2)) rfl rfl (by decide +kernel) ?_
  exact X_icmpne 69 39 (by decide +kernel : decode cX0_product 36 = .ok (.if_icmp .ne 33, 3)) rfl rfl (by decide) r2 ⟨by decide, by decide⟩ k1 k2
theorem kX0_product_39 {a0 : Nat} {o1 : Option Value} {o2 : Option Value} {o3 : Option Value} (g1 : aKd S a0 = 2) (hd1 : 1 ≤ d) (k : X E (d - 1) fX0_need 0 [some (.ref a0), some (J (M a0 4))] [] S (mI M) (Kr E d fX0_product 49 [some (.ref a0), o1, o2, some (J (M a0 4))] [] Q)) : X E d fX0_product 39 [some (.ref a0), o1, o2, o3] [] S (mI M) Q := by
  refine X_aload_n 40 (by decide +kernel : decode cX0_product 39 = .ok (.aload_n 0, 1)) rfl rfl rfl ?_
  refine X_getI 43 (by decide +kernel : decode cX0_product 40 = .ok (.getfield 33, 3)) rfl rfl (by decide +kernel : aFd 2 33 = some (2, 4, false, false)) g1 ?_
  refine X_istore_n 44 (by decide +kernel : decode cX0_product 43 = .ok (.istore_n 3, 1)) rfl rfl (Nat.le_of_ble_eq_true rfl) rfl ?_
  refine X_aload_n 45 (by decide +kernel : decode cX0_product 44 = .ok (.aload_n 0, 1)) rfl rfl rfl ?_
  refine X_iload_n 46 (by decide +kernel : decode cX0_product 45 = .ok (.iload_n 3, 1)) rfl rfl rfl ?_
  exact X_cv (as := [J (M a0 4)]) (rest := []) (by decide +kernel : decode cX0_product 46 = .ok (.invokevirtual 65, 3)) (Or.inl ⟨rfl, rfl, rfl⟩) rfl rfl rfl rfl rfl (Nat.le_of_ble_eq_true rfl) (Or.inr (Or.inr (by rw [g1]; rfl))) hd1 k
theorem kX0_product_49 {a0 : Nat} {x1 : Int} {o2 : Option Value} {o3 : Option Value} (hd1 : 1 ≤ d) (k : X E (d - 1) fX0_value 0 [some (.ref a0), some (J x1), none] [] S (mI M) (Kr E d fX0_product 54 [some (.ref a0), some (J x1), o2, o3] [] Q)) (g1 : aKd S a0 = 2) : X E d fX0_product 49 [some (.ref a0), some (J x1), o2, o3] [] S (mI M) Q := by
  refine X_aload_n 50 (by decide +kernel : decode cX0_product 49 = .ok (.aload_n 0, 1)) rfl rfl rfl ?_
  refine X_iload_n 51 (by decide +kernel : decode cX0_product 50 = .ok (.iload_n 1, 1)) rfl rfl rfl ?_
  exact X_cv (as := [J x1]) (rest := []) (by decide +kernel : decode cX0_product 51 = .ok (.invokevirtual 110, 3)) (Or.inl ⟨rfl, rfl, rfl⟩) rfl rfl rfl rfl rfl (Nat.le_of_ble_eq_true rfl) (Or.inr (Or.inr (by rw [g1]; rfl))) hd1 k
theorem kX0_product_54 {a0 : Nat} {o1 : Option Value} {o2 : Option Value} {x3 : Int} {b2 : Nat} (g1 : aKd S a0 = 2) (p3 : aP S a0 1 = some b2) (hd1 : 1 ≤ d) (k : X E (d - 1) fX1_emit 0 [some (.ref b2), some (J x3), some (J 0)] [] S (mI M) (Kr E d fX0_product 63 [some (.ref a0), o1, o2, some (J x3)] [] Q)) (g4 : aKd S b2 = 3) : X E d fX0_product 54 [some (.ref a0), o1, o2, some (J x3)] [] S (mI M) Q := by
  refine X_aload_n 55 (by decide +kernel : decode cX0_product 54 = .ok (.aload_n 0, 1)) rfl rfl rfl ?_
  refine X_getR 58 (by decide +kernel : decode cX0_product 55 = .ok (.getfield 15, 3)) rfl rfl (by decide +kernel : aFd 2 15 = some (2, 1, true, false)) g1 p3 ?_
  refine X_iload_n 59 (by decide +kernel : decode cX0_product 58 = .ok (.iload_n 3, 1)) rfl rfl rfl ?_
  refine X_iconst 60 (by decide +kernel : decode cX0_product 59 = .ok (.iconst 0, 1)) rfl rfl ?_
  exact X_cv (as := [J 0, J x3]) (rest := []) (by decide +kernel : decode cX0_product 60 = .ok (.invokevirtual 94, 3)) (Or.inl ⟨rfl, rfl, rfl⟩) rfl rfl rfl rfl rfl (Nat.le_of_ble_eq_true rfl) (Or.inr (Or.inr (by rw [g4]; rfl))) hd1 k
theorem kX0_product_63 {o0 : Option Value} {o1 : Option Value} {x2 : Int} {o3 : Option Value} (k : X E d fX0_product 7 [o0, o1, some (J (x2 + 1)), o3] [] S (mI M) Q) : X E d fX0_product 63 [o0, o1, some (J x2), o3] [] S (mI M) Q := by
  refine X_iinc 66 (by decide +kernel : decode cX0_product 63 = .ok (.iinc 2 1, 3)) rfl rfl rfl rfl ?_
  exact X_goto 7 (by decide +kernel : decode cX0_product 66 = .ok (.goto (-59), 3)) rfl (by decide) k
theorem kX0_product_69 {o0 : Option Value} {o1 : Option Value} {o2 : Option Value} {o3 : Option Value} (q : Q (some none) S (mI M)) : X E d fX0_product 69 [o0, o1, o2, o3] [] S (mI M) Q := by
  exact X_vret (by decide +kernel : decode cX0_product 69 = .ok (.return_, 1)) rfl rfl q
theorem kX0_value_0 {a0 : Nat} {o1 : Option Value} {o2 : Option Value} (g1 : aKd S a0 = 2) (r2 : R32 (M a0 2)) (k1 : (M a0 2) = 0 → X E d fX0_value 8 [some (.ref a0), o1, o2] [] S (mI M) Q) (k2 : (M a0 2) ≠ 0 → X E d fX0_value 7 [some (.ref a0), o1, o2] [] S (mI M) Q) : X E d fX0_value 0 [some (.ref a0), o1, o2] [] S (mI M) Q := by
  refine X_aload_n 1 (by decide +kernel : decode cX0_value 0 = .ok (.aload_n 0, 1)) rfl rfl rfl ?_
  refine X_getI 4 (by decide +kernel : decode cX0_value 1 = .ok (.getfield 19, 3)) rfl rfl (by decide +kernel : aFd 2 19 = some (2, 2, false, false)) g1 ?_
  exact X_ifeq 8 7 (by decide +kernel : decode cX0_value 4 = .ok (.ifCond .eq 4, 3)) rfl rfl (by decide) r2 k1 k2
theorem kX0_value_7 {o0 : Option Value} {o1 : Option Value} {o2 : Option Value} (q : Q (some none) S (mI M)) : X E d fX0_value 7 [o0, o1, o2] [] S (mI M) Q := by
  exact X_vret (by decide +kernel : decode cX0_value 7 = .ok (.return_, 1)) rfl rfl q
theorem kX0_value_8 {a0 : Nat} {o1 : Option Value} {o2 : Option Value} (g1 : aKd S a0 = 2) (r2 : R32 ((M a0 4))) (kd : (M a0 4) ≠ 18 ∧ (M a0 4) ≠ 19 ∧ (M a0 4) ≠ 20 ∧ (M a0 4) ≠ 21 ∧ (M a0 4) ≠ 22 ∧ (M a0 4) ≠ 23 ∧ (M a0 4) ≠ 24 ∧ (M a0 4) ≠ 30 ∧ (M a0 4) ≠ 31 ∧ (M a0 4) ≠ 32 ∧ (M a0 4) ≠ 39 ∧ (M a0 4) ≠ 48 → X E d fX0_value 248 [some (.ref a0), o1, some (J (M a0 4))] [] S (mI M) Q) (k0 : (M a0 4) = 18 → X E d fX0_value 152 [some (.ref a0), o1, some (J (M a0 4))] [] S (mI M) Q) (k1 : (M a0 4) = 19 → X E d fX0_value 152 [some (.ref a0), o1, some (J (M a0 4))] [] S (mI M) Q) (k2 : (M a0 4) = 20 → X E d fX0_value 172 [some (.ref a0), o1, some (J (M a0 4))] [] S (mI M) Q) (k3 : (M a0 4) = 21 → X E d fX0_value 180 [some (.ref a0), o1, some (J (M a0 4))] [] S (mI M) Q) (k4 : (M a0 4) = 22 → X E d fX0_value 172 [some (.ref a0), o1, some (J (M a0 4))] [] S (mI M) Q) (k5 : (M a0 4) = 23 → X E d fX0_value 172 [some (.ref a0), o1, some (J (M a0 4))] [] S (mI M) Q) (k6 : (M a0 4) = 24 → X E d fX0_value 172 [some (.ref a0), o1, some (J (M a0 4))] [] S (mI M) Q) (k12 : (M a0 4) = 30 → X E d fX0_value 239 [some (.ref a0), o1, some (J (M a0 4))] [] S (mI M) Q) (k13 : (M a0 4) = 31 → X E d fX0_value 239 [some (.ref a0), o1, some (J (M a0 4))] [] S (mI M) Q) (k14 : (M a0 4) = 32 → X E d fX0_value 204 [some (.ref a0), o1, some (J (M a0 4))] [] S (mI M) Q) (k21 : (M a0 4) = 39 → X E d fX0_value 212 [some (.ref a0), o1, some (J (M a0 4))] [] S (mI M) Q) (k30 : (M a0 4) = 48 → X E d fX0_value 152 [some (.ref a0), o1, some (J (M a0 4))] [] S (mI M) Q) : X E d fX0_value 8 [some (.ref a0), o1, o2] [] S (mI M) Q := by
  refine X_aload_n 9 (by decide +kernel : decode cX0_value 8 = .ok (.aload_n 0, 1)) rfl rfl rfl ?_
  refine X_getI 12 (by decide +kernel : decode cX0_value 9 = .ok (.getfield 33, 3)) rfl rfl (by decide +kernel : aFd 2 33 = some (2, 4, false, false)) g1 ?_
  refine X_istore_n 13 (by decide +kernel : decode cX0_value 12 = .ok (.istore_n 2, 1)) rfl rfl (Nat.le_of_ble_eq_true rfl) rfl ?_
  refine X_iload_n 14 (by decide +kernel : decode cX0_value 13 = .ok (.iload_n 2, 1)) rfl rfl rfl ?_
  by_cases hr : (M a0 4) < 18 ∨ 48 < (M a0 4)
  · exact X_tswD 248 (by decide +kernel : decode cX0_value 14 = .ok (.tableswitch 234 18 48 #[138, 138, 158, 166, 158, 158, 158, 234, 234, 234, 234, 234, 225, 225, 190, 234, 234, 234, 234, 234, 234, 198, 234, 234, 234, 234, 234, 234, 234, 234, 138], 138)) rfl (by decide) r2 hr (kd (by omega))
  · rcases (by omega : (M a0 4) = 18 ∨ (M a0 4) = 19 ∨ (M a0 4) = 20 ∨ (M a0 4) = 21 ∨ (M a0 4) = 22 ∨ (M a0 4) = 23 ∨ (M a0 4) = 24 ∨ (M a0 4) = 25 ∨ (M a0 4) = 26 ∨ (M a0 4) = 27 ∨ (M a0 4) = 28 ∨ (M a0 4) = 29 ∨ (M a0 4) = 30 ∨ (M a0 4) = 31 ∨ (M a0 4) = 32 ∨ (M a0 4) = 33 ∨ (M a0 4) = 34 ∨ (M a0 4) = 35 ∨ (M a0 4) = 36 ∨ (M a0 4) = 37 ∨ (M a0 4) = 38 ∨ (M a0 4) = 39 ∨ (M a0 4) = 40 ∨ (M a0 4) = 41 ∨ (M a0 4) = 42 ∨ (M a0 4) = 43 ∨ (M a0 4) = 44 ∨ (M a0 4) = 45 ∨ (M a0 4) = 46 ∨ (M a0 4) = 47 ∨ (M a0 4) = 48) with h | h | h | h | h | h | h | h | h | h | h | h | h | h | h | h | h | h | h | h | h | h | h | h | h | h | h | h | h | h | h
    · exact X_tswI 152 0 (by decide +kernel : decode cX0_value 14 = .ok (.tableswitch 234 18 48 #[138, 138, 158, 166, 158, 158, 158, 234, 234, 234, 234, 234, 225, 225, 190, 234, 234, 234, 234, 234, 234, 198, 234, 234, 234, 234, 234, 234, 234, 234, 138], 138)) rfl rfl (by decide) r2 (h.trans rfl) (by decide) (k0 h)
    · exact X_tswI 152 1 (by decide +kernel : decode cX0_value 14 = .ok (.tableswitch 234 18 48 #[138, 138, 158, 166, 158, 158, 158, 234, 234, 234, 234, 234, 225, 225, 190, 234, 234, 234, 234, 234, 234, 198, 234, 234, 234, 234, 234, 234, 234, 234, 138], 138)) rfl rfl (by decide) r2 (h.trans rfl) (by decide) (k1 h)
    · exact X_tswI 172 2 (by decide +kernel : decode cX0_value 14 = .ok (.tableswitch 234 18 48 #[138, 138, 158, 166, 158, 158, 158, 234, 234, 234, 234, 234, 225, 225, 190, 234, 234, 234, 234, 234, 234, 198, 234, 234, 234, 234, 234, 234, 234, 234, 138], 138)) rfl rfl (by decide) r2 (h.trans rfl) (by decide) (k2 h)
    · exact X_tswI 180 3 (by decide +kernel : decode cX0_value 14 = .ok (.tableswitch 234 18 48 #[138, 138, 158, 166, 158, 158, 158, 234, 234, 234, 234, 234, 225, 225, 190, 234, 234, 234, 234, 234, 234, 198, 234, 234, 234, 234, 234, 234, 234, 234, 138], 138)) rfl rfl (by decide) r2 (h.trans rfl) (by decide) (k3 h)
    · exact X_tswI 172 4 (by decide +kernel : decode cX0_value 14 = .ok (.tableswitch 234 18 48 #[138, 138, 158, 166, 158, 158, 158, 234, 234, 234, 234, 234, 225, 225, 190, 234, 234, 234, 234, 234, 234, 198, 234, 234, 234, 234, 234, 234, 234, 234, 138], 138)) rfl rfl (by decide) r2 (h.trans rfl) (by decide) (k4 h)
    · exact X_tswI 172 5 (by decide +kernel : decode cX0_value 14 = .ok (.tableswitch 234 18 48 #[138, 138, 158, 166, 158, 158, 158, 234, 234, 234, 234, 234, 225, 225, 190, 234, 234, 234, 234, 234, 234, 198, 234, 234, 234, 234, 234, 234, 234, 234, 138], 138)) rfl rfl (by decide) r2 (h.trans rfl) (by decide) (k5 h)
    · exact X_tswI 172 6 (by decide +kernel : decode cX0_value 14 = .ok (.tableswitch 234 18 48 #[138, 138, 158, 166, 158, 158, 158, 234, 234, 234, 234, 234, 225, 225, 190, 234, 234, 234, 234, 234, 234, 198, 234, 234, 234, 234, 234, 234, 234, 234, 138], 138)) rfl rfl (by decide) r2 (h.trans rfl) (by decide) (k6 h)
    · exact X_tswI 248 7 (by decide +kernel : decode cX0_value 14 = .ok (.tableswitch 234 18 48 #[138, 138, 158, 166, 158, 158, 158, 234, 234, 234, 234, 234, 225, 225, 190, 234, 234, 234, 234, 234, 234, 198, 234, 234, 234, 234, 234, 234, 234, 234, 138], 138)) rfl rfl (by decide) r2 (h.trans rfl) (by decide) (kd (by omega))
    · exact X_tswI 248 8 (by decide +kernel : decode cX0_value 14 = .ok (.tableswitch 234 18 48 #[138, 138, 158, 166, 158, 158, 158, 234, 234, 234, 234, 234, 225, 225, 190, 234, 234, 234, 234, 234, 234, 198, 234, 234, 234, 234, 234, 234, 234, 234, 138], 138)) rfl rfl (by decide) r2 (h.trans rfl) (by decide) (kd (by omega))
    · exact X_tswI 248 9 (by decide +kernel : decode cX0_value 14 = .ok (.tableswitch 234 18 48 #[138, 138, 158, 166, 158, 158, 158, 234, 234, 234, 234, 234, 225, 225, 190, 234, 234, 234, 234, 234, 234, 198, 234, 234, 234, 234, 234, 234, 234, 234, 138], 138)) rfl rfl (by decide) r2 (h.trans rfl) (by decide) (kd (by omega))
    · exact X_tswI 248 10 (by decide +kernel : decode cX0_value 14 = .ok (.tableswitch 234 18 48 #[138, 138, 158, 166, 158, 158, 158, 234, 234, 234, 234, 234, 225, 225, 190, 234, 234, 234, 234, 234, 234, 198, 234, 234, 234, 234, 234, 234, 234, 234, 138], 138)) rfl rfl (by decide) r2 (h.trans rfl) (by decide) (kd (by omega))
    · exact X_tswI 248 11 (by decide +kernel : decode cX0_value 14 = .ok (.tableswitch 234 18 48 #[138, 138, 158, 166, 158, 158, 158, 234, 234, 234, 234, 234, 225, 225, 190, 234, 234, 234, 234, 234, 234, 198, 234, 234, 234, 234, 234, 234, 234, 234, 138], 138)) rfl rfl (by decide) r2 (h.trans rfl) (by decide) (kd (by omega))
    · exact X_tswI 239 12 (by decide +kernel : decode cX0_value 14 = .ok (.tableswitch 234 18 48 #[138, 138, 158, 166, 158, 158, 158, 234, 234, 234, 234, 234, 225, 225, 190, 234, 234, 234, 234, 234, 234, 198, 234, 234, 234, 234, 234, 234, 234, 234, 138], 138)) rfl rfl (by decide) r2 (h.trans rfl) (by decide) (k12 h)
    · exact X_tswI 239 13 (by decide +kernel : decode cX0_value 14 = .ok (.tableswitch 234 18 48 #[138, 138, 158, 166, 158, 158, 158, 234, 234, 234, 234, 234, 225, 225, 190, 234, 234, 234, 234, 234, 234, 198, 234, 234, 234, 234, 234, 234, 234, 234, 138], 138)) rfl rfl (by decide) r2 (h.trans rfl) (by decide) (k13 h)
    · exact X_tswI 204 14 (by decide +kernel : decode cX0_value 14 = .ok (.tableswitch 234 18 48 #[138, 138, 158, 166, 158, 158, 158, 234, 234, 234, 234, 234, 225, 225, 190, 234, 234, 234, 234, 234, 234, 198, 234, 234, 234, 234, 234, 234, 234, 234, 138], 138)) rfl rfl (by decide) r2 (h.trans rfl) (by decide) (k14 h)
    · exact X_tswI 248 15 (by decide +kernel : decode cX0_value 14 = .ok (.tableswitch 234 18 48 #[138, 138, 158, 166, 158, 158, 158, 234, 234, 234, 234, 234, 225, 225, 190, 234, 234, 234, 234, 234, 234, 198, 234, 234, 234, 234, 234, 234, 234, 234, 138], 138)) rfl rfl (by decide) r2 (h.trans rfl) (by decide) (kd (by omega))
    · exact X_tswI 248 16 (by decide +kernel : decode cX0_value 14 = .ok (.tableswitch 234 18 48 #[138, 138, 158, 166, 158, 158, 158, 234, 234, 234, 234, 234, 225, 225, 190, 234, 234, 234, 234, 234, 234, 198, 234, 234, 234, 234, 234, 234, 234, 234, 138], 138)) rfl rfl (by decide) r2 (h.trans rfl) (by decide) (kd (by omega))
    · exact X_tswI 248 17 (by decide +kernel : decode cX0_value 14 = .ok (.tableswitch 234 18 48 #[138, 138, 158, 166, 158, 158, 158, 234, 234, 234, 234, 234, 225, 225, 190, 234, 234, 234, 234, 234, 234, 198, 234, 234, 234, 234, 234, 234, 234, 234, 138], 138)) rfl rfl (by decide) r2 (h.trans rfl) (by decide) (kd (by omega))
    · exact X_tswI 248 18 (by decide +kernel : decode cX0_value 14 = .ok (.tableswitch 234 18 48 #[138, 138, 158, 166, 158, 158, 158, 234, 234, 234, 234, 234, 225, 225, 190, 234, 234, 234, 234, 234, 234, 198, 234, 234, 234, 234, 234, 234, 234, 234, 138], 138)) rfl rfl (by decide) r2 (h.trans rfl) (by decide) (kd (by omega))
    · exact X_tswI 248 19 (by decide +kernel : decode cX0_value 14 = .ok (.tableswitch 234 18 48 #[138, 138, 158, 166, 158, 158, 158, 234, 234, 234, 234, 234, 225, 225, 190, 234, 234, 234, 234, 234, 234, 198, 234, 234, 234, 234, 234, 234, 234, 234, 138], 138)) rfl rfl (by decide) r2 (h.trans rfl) (by decide) (kd (by omega))
    · exact X_tswI 248 20 (by decide +kernel : decode cX0_value 14 = .ok (.tableswitch 234 18 48 #[138, 138, 158, 166, 158, 158, 158, 234, 234, 234, 234, 234, 225, 225, 190, 234, 234, 234, 234, 234, 234, 198, 234, 234, 234, 234, 234, 234, 234, 234, 138], 138)) rfl rfl (by decide) r2 (h.trans rfl) (by decide) (kd (by omega))
    · exact X_tswI 212 21 (by decide +kernel : decode cX0_value 14 = .ok (.tableswitch 234 18 48 #[138, 138, 158, 166, 158, 158, 158, 234, 234, 234, 234, 234, 225, 225, 190, 234, 234, 234, 234, 234, 234, 198, 234, 234, 234, 234, 234, 234, 234, 234, 138], 138)) rfl rfl (by decide) r2 (h.trans rfl) (by decide) (k21 h)
    · exact X_tswI 248 22 (by decide +kernel : decode cX0_value 14 = .ok (.tableswitch 234 18 48 #[138, 138, 158, 166, 158, 158, 158, 234, 234, 234, 234, 234, 225, 225, 190, 234, 234, 234, 234, 234, 234, 198, 234, 234, 234, 234, 234, 234, 234, 234, 138], 138)) rfl rfl (by decide) r2 (h.trans rfl) (by decide) (kd (by omega))
    · exact X_tswI 248 23 (by decide +kernel : decode cX0_value 14 = .ok (.tableswitch 234 18 48 #[138, 138, 158, 166, 158, 158, 158, 234, 234, 234, 234, 234, 225, 225, 190, 234, 234, 234, 234, 234, 234, 198, 234, 234, 234, 234, 234, 234, 234, 234, 138], 138)) rfl rfl (by decide) r2 (h.trans rfl) (by decide) (kd (by omega))
    · exact X_tswI 248 24 (by decide +kernel : decode cX0_value 14 = .ok (.tableswitch 234 18 48 #[138, 138, 158, 166, 158, 158, 158, 234, 234, 234, 234, 234, 225, 225, 190, 234, 234, 234, 234, 234, 234, 198, 234, 234, 234, 234, 234, 234, 234, 234, 138], 138)) rfl rfl (by decide) r2 (h.trans rfl) (by decide) (kd (by omega))
    · exact X_tswI 248 25 (by decide +kernel : decode cX0_value 14 = .ok (.tableswitch 234 18 48 #[138, 138, 158, 166, 158, 158, 158, 234, 234, 234, 234, 234, 225, 225, 190, 234, 234, 234, 234, 234, 234, 198, 234, 234, 234, 234, 234, 234, 234, 234, 138], 138)) rfl rfl (by decide) r2 (h.trans rfl) (by decide) (kd (by omega))
    · exact X_tswI 248 26 (by decide +kernel : decode cX0_value 14 = .ok (.tableswitch 234 18 48 #[138, 138, 158, 166, 158, 158, 158, 234, 234, 234, 234, 234, 225, 225, 190, 234, 234, 234, 234, 234, 234, 198, 234, 234, 234, 234, 234, 234, 234, 234, 138], 138)) rfl rfl (by decide) r2 (h.trans rfl) (by decide) (kd (by omega))
    · exact X_tswI 248 27 (by decide +kernel : decode cX0_value 14 = .ok (.tableswitch 234 18 48 #[138, 138, 158, 166, 158, 158, 158, 234, 234, 234, 234, 234, 225, 225, 190, 234, 234, 234, 234, 234, 234, 198, 234, 234, 234, 234, 234, 234, 234, 234, 138], 138)) rfl rfl (by decide) r2 (h.trans rfl) (by decide) (kd (by omega))
    · exact X_tswI 248 28 (by decide +kernel : decode cX0_value 14 = .ok (.tableswitch 234 18 48 #[138, 138, 158, 166, 158, 158, 158, 234, 234, 234, 234, 234, 225, 225, 190, 234, 234, 234, 234, 234, 234, 198, 234, 234, 234, 234, 234, 234, 234, 234, 138], 138)) rfl rfl (by decide) r2 (h.trans rfl) (by decide) (kd (by omega))
    · exact X_tswI 248 29 (by decide +kernel : decode cX0_value 14 = .ok (.tableswitch 234 18 48 #[138, 138, 158, 166, 158, 158, 158, 234, 234, 234, 234, 234, 225, 225, 190, 234, 234, 234, 234, 234, 234, 198, 234, 234, 234, 234, 234, 234, 234, 234, 138], 138)) rfl rfl (by decide) r2 (h.trans rfl) (by decide) (kd (by omega))
    · exact X_tswI 152 30 (by decide +kernel : decode cX0_value 14 = .ok (.tableswitch 234 18 48 #[138, 138, 158, 166, 158, 158, 158, 234, 234, 234, 234, 234, 225, 225, 190, 234, 234, 234, 234, 234, 234, 198, 234, 234, 234, 234, 234, 234, 234, 234, 138], 138)) rfl rfl (by decide) r2 (h.trans rfl) (by decide) (k30 h)
theorem kX0_value_152 {a0 : Nat} {o1 : Option Value} {x2 : Int} {b2 : Nat} (g1 : aKd S a0 = 2) (p3 : aP S a0 1 = some b2) (hd1 : 1 ≤ d) (k : X E (d - 1) fX1_emit 0 [some (.ref b2), some (J x2), some (J (M a0 3))] [] S (mI M) (Kr E d fX0_value 164 [some (.ref a0), o1, some (J x2)] [] Q)) (g5 : aKd S b2 = 3) : X E d fX0_value 152 [some (.ref a0), o1, some (J x2)] [] S (mI M) Q := by
  refine X_aload_n 153 (by decide +kernel : decode cX0_value 152 = .ok (.aload_n 0, 1)) rfl rfl rfl ?_
  refine X_getR 156 (by decide +kernel : decode cX0_value 153 = .ok (.getfield 15, 3)) rfl rfl (by decide +kernel : aFd 2 15 = some (2, 1, true, false)) g1 p3 ?_
  refine X_iload_n 157 (by decide +kernel : decode cX0_value 156 = .ok (.iload_n 2, 1)) rfl rfl rfl ?_
  refine X_aload_n 158 (by decide +kernel : decode cX0_value 157 = .ok (.aload_n 0, 1)) rfl rfl rfl ?_
  refine X_getI 161 (by decide +kernel : decode cX0_value 158 = .ok (.getfield 23, 3)) rfl rfl (by decide +kernel : aFd 2 23 = some (2, 3, false, false)) g1 ?_
  exact X_cv (as := [J (M a0 3), J x2]) (rest := []) (by decide +kernel : decode cX0_value 161 = .ok (.invokevirtual 94, 3)) (Or.inl ⟨rfl, rfl, rfl⟩) rfl rfl rfl rfl rfl (Nat.le_of_ble_eq_true rfl) (Or.inr (Or.inr (by rw [g5]; rfl))) hd1 k
theorem kX0_value_164 {a0 : Nat} {o1 : Option Value} {x2 : Int} (hd1 : 1 ≤ d) (k : X E (d - 1) fX0_need 0 [some (.ref a0), some (J x2)] [] S (mI M) (Kr E d fX0_value 169 [some (.ref a0), o1, some (J x2)] [] Q)) (g1 : aKd S a0 = 2) : X E d fX0_value 164 [some (.ref a0), o1, some (J x2)] [] S (mI M) Q := by
  refine X_aload_n 165 (by decide +kernel : decode cX0_value 164 = .ok (.aload_n 0, 1)) rfl rfl rfl ?_
  refine X_iload_n 166 (by decide +kernel : decode cX0_value 165 = .ok (.iload_n 2, 1)) rfl rfl rfl ?_
  exact X_cv (as := [J x2]) (rest := []) (by decide +kernel : decode cX0_value 166 = .ok (.invokevirtual 65, 3)) (Or.inl ⟨rfl, rfl, rfl⟩) rfl rfl rfl rfl rfl (Nat.le_of_ble_eq_true rfl) (Or.inr (Or.inr (by rw [g1]; rfl))) hd1 k
theorem kX0_value_169 {o0 : Option Value} {o1 : Option Value} {o2 : Option Value} (k : X E d fX0_value 253 [o0, o1, o2] [] S (mI M) Q) : X E d fX0_value 169 [o0, o1, o2] [] S (mI M) Q := by
  exact X_goto 253 (by decide +kernel : decode cX0_value 169 = .ok (.goto 84, 3)) rfl (by decide) k
theorem kX0_value_172 {a0 : Nat} {o1 : Option Value} {x2 : Int} (hd1 : 1 ≤ d) (k : X E (d - 1) fX0_named 0 [some (.ref a0), some (J x2)] [] S (mI M) (Kr E d fX0_value 177 [some (.ref a0), o1, some (J x2)] [] Q)) (g1 : aKd S a0 = 2) : X E d fX0_value 172 [some (.ref a0), o1, some (J x2)] [] S (mI M) Q := by
  refine X_aload_n 173 (by decide +kernel : decode cX0_value 172 = .ok (.aload_n 0, 1)) rfl rfl rfl ?_
  refine X_iload_n 174 (by decide +kernel : decode cX0_value 173 = .ok (.iload_n 2, 1)) rfl rfl rfl ?_
  exact X_cv (as := [J x2]) (rest := []) (by decide +kernel : decode cX0_value 174 = .ok (.invokevirtual 104, 3)) (Or.inl ⟨rfl, rfl, rfl⟩) rfl rfl rfl rfl rfl (Nat.le_of_ble_eq_true rfl) (Or.inr (Or.inr (by rw [g1]; rfl))) hd1 k
theorem kX0_value_177 {o0 : Option Value} {o1 : Option Value} {o2 : Option Value} (k : X E d fX0_value 253 [o0, o1, o2] [] S (mI M) Q) : X E d fX0_value 177 [o0, o1, o2] [] S (mI M) Q := by
  exact X_goto 253 (by decide +kernel : decode cX0_value 177 = .ok (.goto 76, 3)) rfl (by decide) k
theorem kX0_value_180 {a0 : Nat} {o1 : Option Value} {o2 : Option Value} (hd1 : 1 ≤ d) (k : X E (d - 1) fX0_need 0 [some (.ref a0), some (J 21)] [] S (mI M) (Kr E d fX0_value 186 [some (.ref a0), o1, o2] [] Q)) (g1 : aKd S a0 = 2) : X E d fX0_value 180 [some (.ref a0), o1, o2] [] S (mI M) Q := by
  refine X_aload_n 181 (by decide +kernel : decode cX0_value 180 = .ok (.aload_n 0, 1)) rfl rfl rfl ?_
  refine X_bipush 183 (21) (by decide +kernel : decode cX0_value 181 = .ok (.bipush 21, 2)) rfl rfl (by decide +kernel) ?_
  exact X_cv (as := [J 21]) (rest := []) (by decide +kernel : decode cX0_value 183 = .ok (.invokevirtual 65, 3)) (Or.inl ⟨rfl, rfl, rfl⟩) rfl rfl rfl rfl rfl (Nat.le_of_ble_eq_true rfl) (Or.inr (Or.inr (by rw [g1]; rfl))) hd1 k
theorem kX0_value_186 {a0 : Nat} {x1 : Int} {o2 : Option Value} (hd1 : 1 ≤ d) (k : X E (d - 1) fX0_inBrackets 0 [some (.ref a0), some (J x1)] [] S (mI M) (Kr E d fX0_value 191 [some (.ref a0), some (J x1), o2] [] Q)) (g1 : aKd S a0 = 2) : X E d fX0_value 186 [some (.ref a0), some (J x1), o2] [] S (mI M) Q := by
  refine X_aload_n 187 (by decide +kernel : decode cX0_value 186 = .ok (.aload_n 0, 1)) rfl rfl rfl ?_
  refine X_iload_n 188 (by decide +kernel : decode cX0_value 187 = .ok (.iload_n 1, 1)) rfl rfl rfl ?_
  exact X_cv (as := [J x1]) (rest := []) (by decide +kernel : decode cX0_value 188 = .ok (.invokevirtual 113, 3)) (Or.inl ⟨rfl, rfl, rfl⟩) rfl rfl rfl rfl rfl (Nat.le_of_ble_eq_true rfl) (Or.inr (Or.inr (by rw [g1]; rfl))) hd1 k
theorem kX0_value_191 {a0 : Nat} {o1 : Option Value} {o2 : Option Value} {b2 : Nat} (g1 : aKd S a0 = 2) (p3 : aP S a0 1 = some b2) (hd1 : 1 ≤ d) (k : X E (d - 1) fX1_emit 0 [some (.ref b2), some (J 21), some (J 0)] [] S (mI M) (Kr E d fX0_value 201 [some (.ref a0), o1, o2] [] Q)) (g4 : aKd S b2 = 3) : X E d fX0_value 191 [some (.ref a0), o1, o2] [] S (mI M) Q := by
  refine X_aload_n 192 (by decide +kernel : decode cX0_value 191 = .ok (.aload_n 0, 1)) rfl rfl rfl ?_
  refine X_getR 195 (by decide +kernel : decode cX0_value 192 = .ok (.getfield 15, 3)) rfl rfl (by decide +kernel : aFd 2 15 = some (2, 1, true, false)) g1 p3 ?_
  refine X_bipush 197 (21) (by decide +kernel : decode cX0_value 195 = .ok (.bipush 21, 2)) rfl rfl (by decide +kernel) ?_
  refine X_iconst 198 (by decide +kernel : decode cX0_value 197 = .ok (.iconst 0, 1)) rfl rfl ?_
  exact X_cv (as := [J 0, J 21]) (rest := []) (by decide +kernel : decode cX0_value 198 = .ok (.invokevirtual 94, 3)) (Or.inl ⟨rfl, rfl, rfl⟩) rfl rfl rfl rfl rfl (Nat.le_of_ble_eq_true rfl) (Or.inr (Or.inr (by rw [g4]; rfl))) hd1 k
theorem kX0_value_201 {o0 : Option Value} {o1 : Option Value} {o2 : Option Value} (k : X E d fX0_value 253 [o0, o1, o2] [] S (mI M) Q) : X E d fX0_value 201 [o0, o1, o2] [] S (mI M) Q := by
  exact X_goto 253 (by decide +kernel : decode cX0_value 201 = .ok (.goto 52, 3)) rfl (by decide) k
theorem kX0_value_204 {a0 : Nat} {x1 : Int} {o2 : Option Value} (hd1 : 1 ≤ d) (k : X E (d - 1) fX0_inBrackets 0 [some (.ref a0), some (J x1)] [] S (mI M) (Kr E d fX0_value 209 [some (.ref a0), some (J x1), o2] [] Q)) (g1 : aKd S a0 = 2) : X E d fX0_value 204 [some (.ref a0), some (J x1), o2] [] S (mI M) Q := by
  refine X_aload_n 205 (by decide +kernel : decode cX0_value 204 = .ok (.aload_n 0, 1)) rfl rfl rfl ?_
  refine X_iload_n 206 (by decide +kernel : decode cX0_value 205 = .ok (.iload_n 1, 1)) rfl rfl rfl ?_
  exact X_cv (as := [J x1]) (rest := []) (by decide +kernel : decode cX0_value 206 = .ok (.invokevirtual 113, 3)) (Or.inl ⟨rfl, rfl, rfl⟩) rfl rfl rfl rfl rfl (Nat.le_of_ble_eq_true rfl) (Or.inr (Or.inr (by rw [g1]; rfl))) hd1 k
theorem kX0_value_209 {o0 : Option Value} {o1 : Option Value} {o2 : Option Value} (k : X E d fX0_value 253 [o0, o1, o2] [] S (mI M) Q) : X E d fX0_value 209 [o0, o1, o2] [] S (mI M) Q := by
  exact X_goto 253 (by decide +kernel : decode cX0_value 209 = .ok (.goto 44, 3)) rfl (by decide) k
theorem kX0_value_212 {a0 : Nat} {x1 : Int} {o2 : Option Value} (hd1 : 1 ≤ d) (k : X E (d - 1) fX0_needDeeper 0 [some (.ref a0), some (J 39), some (J x1)] [] S (mI M) (Kr E d fX0_value 219 [some (.ref a0), some (J x1), o2] [] Q)) (g1 : aKd S a0 = 2) : X E d fX0_value 212 [some (.ref a0), some (J x1), o2] [] S (mI M) Q := by
  refine X_aload_n 213 (by decide +kernel : decode cX0_value 212 = .ok (.aload_n 0, 1)) rfl rfl rfl ?_
  refine X_bipush 215 (39) (by decide +kernel : decode cX0_value 213 = .ok (.bipush 39, 2)) rfl rfl (by decide +kernel) ?_
  refine X_iload_n 216 (by decide +kernel : decode cX0_value 215 = .ok (.iload_n 1, 1)) rfl rfl rfl ?_
  exact X_cv (as := [J x1, J 39]) (rest := []) (by decide +kernel : decode cX0_value 216 = .ok (.invokevirtual 101, 3)) (Or.inl ⟨rfl, rfl, rfl⟩) rfl rfl rfl rfl rfl (Nat.le_of_ble_eq_true rfl) (Or.inr (Or.inr (by rw [g1]; rfl))) hd1 k
theorem kX0_value_219 {a0 : Nat} {x1 : Int} {o2 : Option Value} (hd1 : 1 ≤ d) (k : X E (d - 1) fX0_value 0 [some (.ref a0), some (J (x1 + 1)), none] [] S (mI M) (Kr E d fX0_value 226 [some (.ref a0), some (J x1), o2] [] Q)) (g1 : aKd S a0 = 2) : X E d fX0_value 219 [some (.ref a0), some (J x1), o2] [] S (mI M) Q := by
  refine X_aload_n 220 (by decide +kernel : decode cX0_value 219 = .ok (.aload_n 0, 1)) rfl rfl rfl ?_
  refine X_iload_n 221 (by decide +kernel : decode cX0_value 220 = .ok (.iload_n 1, 1)) rfl rfl rfl ?_
  refine X_iconst 222 (by decide +kernel : decode cX0_value 221 = .ok (.iconst 1, 1)) rfl rfl ?_
  refine X_iadd 223 (by decide +kernel : decode cX0_value 222 = .ok (.iadd, 1)) rfl rfl ?_
  exact X_cv (as := [J (x1 + 1)]) (rest := []) (by decide +kernel : decode cX0_value 223 = .ok (.invokevirtual 110, 3)) (Or.inl ⟨rfl, rfl, rfl⟩) rfl rfl rfl rfl rfl (Nat.le_of_ble_eq_true rfl) (Or.inr (Or.inr (by rw [g1]; rfl))) hd1 k
theorem kX0_value_226 {a0 : Nat} {o1 : Option Value} {o2 : Option Value} {b2 : Nat} (g1 : aKd S a0 = 2) (p3 : aP S a0 1 = some b2) (hd1 : 1 ≤ d) (k : X E (d - 1) fX1_emit 0 [some (.ref b2), some (J 51), some (J 0)] [] S (mI M) (Kr E d fX0_value 236 [some (.ref a0), o1, o2] [] Q)) (g4 : aKd S b2 = 3) : X E d fX0_value 226 [some (.ref a0), o1, o2] [] S (mI M) Q := by
  refine X_aload_n 227 (by decide +kernel : decode cX0_value 226 = .ok (.aload_n 0, 1)) rfl rfl rfl ?_
  refine X_getR 230 (by decide +kernel : decode cX0_value 227 = .ok (.getfield 15, 3)) rfl rfl (by decide +kernel : aFd 2 15 = some (2, 1, true, false)) g1 p3 ?_
  refine X_bipush 232 (51) (by decide +kernel : decode cX0_value 230 = .ok (.bipush 51, 2)) rfl rfl (by decide +kernel) ?_
  refine X_iconst 233 (by decide +kernel : decode cX0_value 232 = .ok (.iconst 0, 1)) rfl rfl ?_
  exact X_cv (as := [J 0, J 51]) (rest := []) (by decide +kernel : decode cX0_value 233 = .ok (.invokevirtual 94, 3)) (Or.inl ⟨rfl, rfl, rfl⟩) rfl rfl rfl rfl rfl (Nat.le_of_ble_eq_true rfl) (Or.inr (Or.inr (by rw [g4]; rfl))) hd1 k
theorem kX0_value_236 {o0 : Option Value} {o1 : Option Value} {o2 : Option Value} (k : X E d fX0_value 253 [o0, o1, o2] [] S (mI M) Q) : X E d fX0_value 236 [o0, o1, o2] [] S (mI M) Q := by
  exact X_goto 253 (by decide +kernel : decode cX0_value 236 = .ok (.goto 17, 3)) rfl (by decide) k
theorem kX0_value_239 {a0 : Nat} {x1 : Int} {x2 : Int} (hd1 : 1 ≤ d) (k : X E (d - 1) fX0_ofTwo 0 [some (.ref a0), some (J x2), some (J x1)] [] S (mI M) (Kr E d fX0_value 245 [some (.ref a0), some (J x1), some (J x2)] [] Q)) (g1 : aKd S a0 = 2) : X E d fX0_value 239 [some (.ref a0), some (J x1), some (J x2)] [] S (mI M) Q := by
  refine X_aload_n 240 (by decide +kernel : decode cX0_value 239 = .ok (.aload_n 0, 1)) rfl rfl rfl ?_
  refine X_iload_n 241 (by decide +kernel : decode cX0_value 240 = .ok (.iload_n 2, 1)) rfl rfl rfl ?_
  refine X_iload_n 242 (by decide +kernel : decode cX0_value 241 = .ok (.iload_n 1, 1)) rfl rfl rfl ?_
  exact X_cv (as := [J x1, J x2]) (rest := []) (by decide +kernel : decode cX0_value 242 = .ok (.invokevirtual 116, 3)) (Or.inl ⟨rfl, rfl, rfl⟩) rfl rfl rfl rfl rfl (Nat.le_of_ble_eq_true rfl) (Or.inr (Or.inr (by rw [g1]; rfl))) hd1 k
theorem kX0_value_245 {o0 : Option Value} {o1 : Option Value} {o2 : Option Value} (k : X E d fX0_value 253 [o0, o1, o2] [] S (mI M) Q) : X E d fX0_value 245 [o0, o1, o2] [] S (mI M) Q := by
  exact X_goto 253 (by decide +kernel : decode cX0_value 245 = .ok (.goto 8, 3)) rfl (by decide) k
theorem kX0_value_248 {a0 : Nat} {o1 : Option Value} {o2 : Option Value} (g1 : aK S a0 = 2) (k : X E d fX0_value 253 [some (.ref a0), o1, o2] [] S (mI (mW M a0 2 1)) Q) : X E d fX0_value 248 [some (.ref a0), o1, o2] [] S (mI M) Q := by
  refine X_aload_n 249 (by decide +kernel : decode cX0_value 248 = .ok (.aload_n 0, 1)) rfl rfl rfl ?_
  refine X_iconst 250 (by decide +kernel : decode cX0_value 249 = .ok (.iconst 1, 1)) rfl rfl ?_
  refine X_putI 253 (by decide +kernel : decode cX0_value 250 = .ok (.putfield 19, 3)) rfl rfl (by decide +kernel : aFd 2 19 = some (2, 2, false, false)) (Or.inl rfl) g1 (by decide) (by decide) ?_
  exact k
theorem kX0_value_253 {o0 : Option Value} {o1 : Option Value} {o2 : Option Value} (q : Q (some none) S (mI M)) : X E d fX0_value 253 [o0, o1, o2] [] S (mI M) Q := by
  exact X_vret (by decide +kernel : decode cX0_value 253 = .ok (.return_, 1)) rfl rfl q
theorem kX0_named_0 {a0 : Nat} {x1 : Int} (hd1 : 1 ≤ d) (k : X E (d - 1) fX0_need 0 [some (.ref a0), some (J x1)] [] S (mI M) (Kr E d fX0_named 5 [some (.ref a0), some (J x1)] [] Q)) (g1 : aKd S a0 = 2) : X E d fX0_named 0 [some (.ref a0), some (J x1)] [] S (mI M) Q := by
  refine X_aload_n 1 (by decide +kernel : decode cX0_named 0 = .ok (.aload_n 0, 1)) rfl rfl rfl ?_
  refine X_iload_n 2 (by decide +kernel : decode cX0_named 1 = .ok (.iload_n 1, 1)) rfl rfl rfl ?_
  exact X_cv (as := [J x1]) (rest := []) (by decide +kernel : decode cX0_named 2 = .ok (.invokevirtual 65, 3)) (Or.inl ⟨rfl, rfl, rfl⟩) rfl rfl rfl rfl rfl (Nat.le_of_ble_eq_true rfl) (Or.inr (Or.inr (by rw [g1]; rfl))) hd1 k
theorem kX0_named_5 {a0 : Nat} {x1 : Int} {b2 : Nat} (g1 : aKd S a0 = 2) (p3 : aP S a0 1 = some b2) (hd1 : 1 ≤ d) (k : X E (d - 1) fX1_emit 0 [some (.ref b2), some (J x1), some (J (M a0 3))] [] S (mI M) (Kr E d fX0_named 17 [some (.ref a0), some (J x1)] [] Q)) (g5 : aKd S b2 = 3) : X E d fX0_named 5 [some (.ref a0), some (J x1)] [] S (mI M) Q := by
  refine X_aload_n 6 (by decide +kernel : decode cX0_named 5 = .ok (.aload_n 0, 1)) rfl rfl rfl ?_
  refine X_getR 9 (by decide +kernel : decode cX0_named 6 = .ok (.getfield 15, 3)) rfl rfl (by decide +kernel : aFd 2 15 = some (2, 1, true, false)) g1 p3 ?_
  refine X_iload_n 10 (by decide +kernel : decode cX0_named 9 = .ok (.iload_n 1, 1)) rfl rfl rfl ?_
  refine X_aload_n 11 (by decide +kernel : decode cX0_named 10 = .ok (.aload_n 0, 1)) rfl rfl rfl ?_
  refine X_getI 14 (by decide +kernel : decode cX0_named 11 = .ok (.getfield 23, 3)) rfl rfl (by decide +kernel : aFd 2 23 = some (2, 3, false, false)) g1 ?_
  exact X_cv (as := [J (M a0 3), J x1]) (rest := []) (by decide +kernel : decode cX0_named 14 = .ok (.invokevirtual 94, 3)) (Or.inl ⟨rfl, rfl, rfl⟩) rfl rfl rfl rfl rfl (Nat.le_of_ble_eq_true rfl) (Or.inr (Or.inr (by rw [g5]; rfl))) hd1 k
theorem kX0_named_17 {a0 : Nat} {o1 : Option Value} (hd1 : 1 ≤ d) (k : X E (d - 1) fX0_need 0 [some (.ref a0), some (J 47)] [] S (mI M) (Kr E d fX0_named 23 [some (.ref a0), o1] [] Q)) (g1 : aKd S a0 = 2) : X E d fX0_named 17 [some (.ref a0), o1] [] S (mI M) Q := by
  refine X_aload_n 18 (by decide +kernel : decode cX0_named 17 = .ok (.aload_n 0, 1)) rfl rfl rfl ?_
  refine X_bipush 20 (47) (by decide +kernel : decode cX0_named 18 = .ok (.bipush 47, 2)) rfl rfl (by decide +kernel) ?_
  exact X_cv (as := [J 47]) (rest := []) (by decide +kernel : decode cX0_named 20 = .ok (.invokevirtual 65, 3)) (Or.inl ⟨rfl, rfl, rfl⟩) rfl rfl rfl rfl rfl (Nat.le_of_ble_eq_true rfl) (Or.inr (Or.inr (by rw [g1]; rfl))) hd1 k
theorem kX0_named_23 {o0 : Option Value} {o1 : Option Value} (q : Q (some none) S (mI M)) : X E d fX0_named 23 [o0, o1] [] S (mI M) Q := by
  exact X_vret (by decide +kernel : decode cX0_named 23 = .ok (.return_, 1)) rfl rfl q
theorem kX0_inBrackets_0 {a0 : Nat} {x1 : Int} (hd1 : 1 ≤ d) (k : X E (d - 1) fX0_needDeeper 0 [some (.ref a0), some (J 32), some (J x1)] [] S (mI M) (Kr E d fX0_inBrackets 7 [some (.ref a0), some (J x1)] [] Q)) (g1 : aKd S a0 = 2) : X E d fX0_inBrackets 0 [some (.ref a0), some (J x1)] [] S (mI M) Q := by
  refine X_aload_n 1 (by decide +kernel : decode cX0_inBrackets 0 = .ok (.aload_n 0, 1)) rfl rfl rfl ?_
  refine X_bipush 3 (32) (by decide +kernel : decode cX0_inBrackets 1 = .ok (.bipush 32, 2)) rfl rfl (by decide +kernel) ?_
  refine X_iload_n 4 (by decide +kernel : decode cX0_inBrackets 3 = .ok (.iload_n 1, 1)) rfl rfl rfl ?_
  exact X_cv (as := [J x1, J 32]) (rest := []) (by decide +kernel : decode cX0_inBrackets 4 = .ok (.invokevirtual 101, 3)) (Or.inl ⟨rfl, rfl, rfl⟩) rfl rfl rfl rfl rfl (Nat.le_of_ble_eq_true rfl) (Or.inr (Or.inr (by rw [g1]; rfl))) hd1 k
theorem kX0_inBrackets_7 {a0 : Nat} {x1 : Int} (hd1 : 1 ≤ d) (k : X E (d - 1) fX0_sum 0 [some (.ref a0), some (J (x1 + 1)), none, none] [] S (mI M) (Kr E d fX0_inBrackets 14 [some (.ref a0), some (J x1)] [] Q)) (g1 : aKd S a0 = 2) : X E d fX0_inBrackets 7 [some (.ref a0), some (J x1)] [] S (mI M) Q := by
  refine X_aload_n 8 (by decide +kernel : decode cX0_inBrackets 7 = .ok (.aload_n 0, 1)) rfl rfl rfl ?_
  refine X_iload_n 9 (by decide +kernel : decode cX0_inBrackets 8 = .ok (.iload_n 1, 1)) rfl rfl rfl ?_
  refine X_iconst 10 (by decide +kernel : decode cX0_inBrackets 9 = .ok (.iconst 1, 1)) rfl rfl ?_
  refine X_iadd 11 (by decide +kernel : decode cX0_inBrackets 10 = .ok (.iadd, 1)) rfl rfl ?_
  exact X_cv (as := [J (x1 + 1)]) (rest := []) (by decide +kernel : decode cX0_inBrackets 11 = .ok (.invokevirtual 75, 3)) (Or.inl ⟨rfl, rfl, rfl⟩) rfl rfl rfl rfl rfl (Nat.le_of_ble_eq_true rfl) (Or.inr (Or.inr (by rw [g1]; rfl))) hd1 k
theorem kX0_inBrackets_14 {a0 : Nat} {o1 : Option Value} (hd1 : 1 ≤ d) (k : X E (d - 1) fX0_need 0 [some (.ref a0), some (J 33)] [] S (mI M) (Kr E d fX0_inBrackets 20 [some (.ref a0), o1] [] Q)) (g1 : aKd S a0 = 2) : X E d fX0_inBrackets 14 [some (.ref a0), o1] [] S (mI M) Q := by
  refine X_aload_n 15 (by decide +kernel : decode cX0_inBrackets 14 = .ok (.aload_n 0, 1)) rfl rfl rfl ?_
  refine X_bipush 17 (33) (by decide +kernel : decode cX0_inBrackets 15 = .ok (.bipush 33, 2)) rfl rfl (by decide +kernel) ?_
  exact X_cv (as := [J 33]) (rest := []) (by decide +kernel : decode cX0_inBrackets 17 = .ok (.invokevirtual 65, 3)) (Or.inl ⟨rfl, rfl, rfl⟩) rfl rfl rfl rfl rfl (Nat.le_of_ble_eq_true rfl) (Or.inr (Or.inr (by rw [g1]; rfl))) hd1 k
theorem kX0_inBrackets_20 {o0 : Option Value} {o1 : Option Value} (q : Q (some none) S (mI M)) : X E d fX0_inBrackets 20 [o0, o1] [] S (mI M) Q := by
  exact X_vret (by decide +kernel : decode cX0_inBrackets 20 = .ok (.return_, 1)) rfl rfl q
theorem kX0_needDeeper_0 {a0 : Nat} {o1 : Option Value} {o2 : Option Value} (g1 : aKd S a0 = 2) (r2 : R32 (M a0 2)) (k1 : (M a0 2) ≠ 0 → X E d fX0_needDeeper 14 [some (.ref a0), o1, o2] [.ref a0] S (mI M) Q) (k2 : (M a0 2) = 0 → X E d fX0_needDeeper 8 [some (.ref a0), o1, o2] [.ref a0] S (mI M) Q) : X E d fX0_needDeeper 0 [some (.ref a0), o1, o2] [] S (mI M) Q := by
  refine X_aload_n 1 (by decide +kernel : decode cX0_needDeeper 0 = .ok (.aload_n 0, 1)) rfl rfl rfl ?_
  refine X_aload_n 2 (by decide +kernel : decode cX0_needDeeper 1 = .ok (.aload_n 0, 1)) rfl rfl rfl ?_
  refine X_getI 5 (by decide +kernel : decode cX0_needDeeper 2 = .ok (.getfield 19, 3)) rfl rfl (by decide +kernel : aFd 2 19 = some (2, 2, false, false)) g1 ?_
  exact X_ifne 14 8 (by decide +kernel : decode cX0_needDeeper 5 = .ok (.ifCond .ne 9, 3)) rfl rfl (by decide) r2 k1 k2
theorem kX0_needDeeper_8 {o0 : Option Value} {o1 : Option Value} {x2 : Int} {u0 : Nat} (r1 : R32 x2) (k1 : x2 < 8 → X E d fX0_needDeeper 18 [o0, o1, some (J x2)] [.ref u0] S (mI M) Q) (k2 : 8 ≤ x2 → X E d fX0_needDeeper 14 [o0, o1, some (J x2)] [.ref u0] S (mI M) Q) : X E d fX0_needDeeper 8 [o0, o1, some (J x2)] [.ref u0] S (mI M) Q := by
  refine X_iload_n 9 (by decide +kernel : decode cX0_needDeeper 8 = .ok (.iload_n 2, 1)) rfl rfl rfl ?_
  refine X_bipush 11 (8) (by decide +kernel : decode cX0_needDeeper 9 = .ok (.bipush 8, 2)) rfl rfl (by decide +kernel) ?_
  exact X_icmplt 18 14 (by decide +kernel : decode cX0_needDeeper 11 = .ok (.if_icmp .lt 7, 3)) rfl rfl (by decide) r1 ⟨by decide, by decide⟩ k1 k2
theorem kX0_needDeeper_14 {o0 : Option Value} {o1 : Option Value} {o2 : Option Value} {u0 : Nat} (k : X E d fX0_needDeeper 19 [o0, o1, o2] [J 1, .ref u0] S (mI M) Q) : X E d fX0_needDeeper 14 [o0, o1, o2] [.ref u0] S (mI M) Q := by
  refine X_iconst 15 (by decide +kernel : decode cX0_needDeeper 14 = .ok (.iconst 1, 1)) rfl rfl ?_
  exact X_goto 19 (by decide +kernel : decode cX0_needDeeper 15 = .ok (.goto 4, 3)) rfl (by decide) k
theorem kX0_needDeeper_18 {o0 : Option Value} {o1 : Option Value} {o2 : Option Value} {u0 : Nat} (k : X E d fX0_needDeeper 19 [o0, o1, o2] [J 0, .ref u0] S (mI M) Q) : X E d fX0_needDeeper 18 [o0, o1, o2] [.ref u0] S (mI M) Q := by
  refine X_iconst 19 (by decide +kernel : decode cX0_needDeeper 18 = .ok (.iconst 0, 1)) rfl rfl ?_
  exact k
theorem kX0_needDeeper_19 {a0 : Nat} {x1 : Int} {o2 : Option Value} {t0 : Int} {u1 : Nat} (g1 : aK S u1 = 2) (h2 : narrow (aTy 2 2) (J t0) = J t0) (h3 : fits (aTy 2 2) (J t0) = true) (hd1 : 1 ≤ d) (k : X E (d - 1) fX0_need 0 [some (.ref a0), some (J x1)] [] S (mI (mW M u1 2 t0)) (Kr E d fX0_needDeeper 27 [some (.ref a0), some (J x1), o2] [] Q)) (g4 : aKd S a0 = 2) : X E d fX0_needDeeper 19 [some (.ref a0), some (J x1), o2] [J t0, .ref u1] S (mI M) Q := by
  refine X_putI 22 (by decide +kernel : decode cX0_needDeeper 19 = .ok (.putfield 19, 3)) rfl rfl (by decide +kernel : aFd 2 19 = some (2, 2, false, false)) (Or.inl rfl) g1 h2 h3 ?_
  refine X_aload_n 23 (by decide +kernel : decode cX0_needDeeper 22 = .ok (.aload_n 0, 1)) rfl rfl rfl ?_
  refine X_iload_n 24 (by decide +kernel : decode cX0_needDeeper 23 = .ok (.iload_n 1, 1)) rfl rfl rfl ?_
  exact X_cv (as := [J x1]) (rest := []) (by decide +kernel : decode cX0_needDeeper 24 = .ok (.invokevirtual 65, 3)) (Or.inl ⟨rfl, rfl, rfl⟩) rfl rfl rfl rfl rfl (Nat.le_of_ble_eq_true rfl) (Or.inr (Or.inr (by rw [g4]; rfl))) hd1 k
theorem kX0_needDeeper_27 {o0 : Option Value} {o1 : Option Value} {o2 : Option Value} (q : Q (some none) S (mI M)) : X E d fX0_needDeeper 27 [o0, o1, o2] [] S (mI M) Q := by
  exact X_vret (by decide +kernel : decode cX0_needDeeper 27 = .ok (.return_, 1)) rfl rfl q
theorem kX0_ofTwo_0 {a0 : Nat} {x1 : Int} {o2 : Option Value} (hd1 : 1 ≤ d) (k : X E (d - 1) fX0_need 0 [some (.ref a0), some (J x1)] [] S (mI M) (Kr E d fX0_ofTwo 5 [some (.ref a0), some (J x1), o2] [] Q)) (g1 : aKd S a0 = 2) : X E d fX0_ofTwo 0 [some (.ref a0), some (J x1), o2] [] S (mI M) Q := by
  refine X_aload_n 1 (by decide +kernel : decode cX0_ofTwo 0 = .ok (.aload_n 0, 1)) rfl rfl rfl ?_
  refine X_iload_n 2 (by decide +kernel : decode cX0_ofTwo 1 = .ok (.iload_n 1, 1)) rfl rfl rfl ?_
  exact X_cv (as := [J x1]) (rest := []) (by decide +kernel : decode cX0_ofTwo 2 = .ok (.invokevirtual 65, 3)) (Or.inl ⟨rfl, rfl, rfl⟩) rfl rfl rfl rfl rfl (Nat.le_of_ble_eq_true rfl) (Or.inr (Or.inr (by rw [g1]; rfl))) hd1 k
theorem kX0_ofTwo_5 {a0 : Nat} {o1 : Option Value} {x2 : Int} (hd1 : 1 ≤ d) (k : X E (d - 1) fX0_needDeeper 0 [some (.ref a0), some (J 32), some (J x2)] [] S (mI M) (Kr E d fX0_ofTwo 12 [some (.ref a0), o1, some (J x2)] [] Q)) (g1 : aKd S a0 = 2) : X E d fX0_ofTwo 5 [some (.ref a0), o1, some (J x2)] [] S (mI M) Q := by
  refine X_aload_n 6 (by decide +kernel : decode cX0_ofTwo 5 = .ok (.aload_n 0, 1)) rfl rfl rfl ?_
  refine X_bipush 8 (32) (by decide +kernel : decode cX0_ofTwo 6 = .ok (.bipush 32, 2)) rfl rfl (by decide +kernel) ?_
  refine X_iload_n 9 (by decide +kernel : decode cX0_ofTwo 8 = .ok (.iload_n 2, 1)) rfl rfl rfl ?_
  exact X_cv (as := [J x2, J 32]) (rest := []) (by decide +kernel : decode cX0_ofTwo 9 = .ok (.invokevirtual 101, 3)) (Or.inl ⟨rfl, rfl, rfl⟩) rfl rfl rfl rfl rfl (Nat.le_of_ble_eq_true rfl) (Or.inr (Or.inr (by rw [g1]; rfl))) hd1 k
theorem kX0_ofTwo_12 {a0 : Nat} {o1 : Option Value} {x2 : Int} (hd1 : 1 ≤ d) (k : X E (d - 1) fX0_sum 0 [some (.ref a0), some (J (x2 + 1)), none, none] [] S (mI M) (Kr E d fX0_ofTwo 19 [some (.ref a0), o1, some (J x2)] [] Q)) (g1 : aKd S a0 = 2) : X E d fX0_ofTwo 12 [some (.ref a0), o1, some (J x2)] [] S (mI M) Q := by
  refine X_aload_n 13 (by decide +kernel : decode cX0_ofTwo 12 = .ok (.aload_n 0, 1)) rfl rfl rfl ?_
  refine X_iload_n 14 (by decide +kernel : decode cX0_ofTwo 13 = .ok (.iload_n 2, 1)) rfl rfl rfl ?_
  refine X_iconst 15 (by decide +kernel : decode cX0_ofTwo 14 = .ok (.iconst 1, 1)) rfl rfl ?_
  refine X_iadd 16 (by decide +kernel : decode cX0_ofTwo 15 = .ok (.iadd, 1)) rfl rfl ?_
  exact X_cv (as := [J (x2 + 1)]) (rest := []) (by decide +kernel : decode cX0_ofTwo 16 = .ok (.invokevirtual 75, 3)) (Or.inl ⟨rfl, rfl, rfl⟩) rfl rfl rfl rfl rfl (Nat.le_of_ble_eq_true rfl) (Or.inr (Or.inr (by rw [g1]; rfl))) hd1 k
theorem kX0_ofTwo_19 {a0 : Nat} {o1 : Option Value} {o2 : Option Value} (hd1 : 1 ≤ d) (k : X E (d - 1) fX0_need 0 [some (.ref a0), some (J 37)] [] S (mI M) (Kr E d fX0_ofTwo 25 [some (.ref a0), o1, o2] [] Q)) (g1 : aKd S a0 = 2) : X E d fX0_ofTwo 19 [some (.ref a0), o1, o2] [] S (mI M) Q := by
  refine X_aload_n 20 (by decide +kernel : decode cX0_ofTwo 19 = .ok (.aload_n 0, 1)) rfl rfl rfl ?_
  refine X_bipush 22 (37) (by decide +kernel : decode cX0_ofTwo 20 = .ok (.bipush 37, 2)) rfl rfl (by decide +kernel) ?_
  exact X_cv (as := [J 37]) (rest := []) (by decide +kernel : decode cX0_ofTwo 22 = .ok (.invokevirtual 65, 3)) (Or.inl ⟨rfl, rfl, rfl⟩) rfl rfl rfl rfl rfl (Nat.le_of_ble_eq_true rfl) (Or.inr (Or.inr (by rw [g1]; rfl))) hd1 k
theorem kX0_ofTwo_25 {a0 : Nat} {o1 : Option Value} {x2 : Int} (hd1 : 1 ≤ d) (k : X E (d - 1) fX0_sum 0 [some (.ref a0), some (J (x2 + 1)), none, none] [] S (mI M) (Kr E d fX0_ofTwo 32 [some (.ref a0), o1, some (J x2)] [] Q)) (g1 : aKd S a0 = 2) : X E d fX0_ofTwo 25 [some (.ref a0), o1, some (J x2)] [] S (mI M) Q := by
  refine X_aload_n 26 (by decide +kernel : decode cX0_ofTwo 25 = .ok (.aload_n 0, 1)) rfl rfl rfl ?_
  refine X_iload_n 27 (by decide +kernel : decode cX0_ofTwo 26 = .ok (.iload_n 2, 1)) rfl rfl rfl ?_
  refine X_iconst 28 (by decide +kernel : decode cX0_ofTwo 27 = .ok (.iconst 1, 1)) rfl rfl ?_
  refine X_iadd 29 (by decide +kernel : decode cX0_ofTwo 28 = .ok (.iadd, 1)) rfl rfl ?_
  exact X_cv (as := [J (x2 + 1)]) (rest := []) (by decide +kernel : decode cX0_ofTwo 29 = .ok (.invokevirtual 75, 3)) (Or.inl ⟨rfl, rfl, rfl⟩) rfl rfl rfl rfl rfl (Nat.le_of_ble_eq_true rfl) (Or.inr (Or.inr (by rw [g1]; rfl))) hd1 k
theorem kX0_ofTwo_32 {a0 : Nat} {o1 : Option Value} {o2 : Option Value} (hd1 : 1 ≤ d) (k : X E (d - 1) fX0_need 0 [some (.ref a0), some (J 33)] [] S (mI M) (Kr E d fX0_ofTwo 38 [some (.ref a0), o1, o2] [] Q)) (g1 : aKd S a0 = 2) : X E d fX0_ofTwo 32 [some (.ref a0), o1, o2] [] S (mI M) Q := by
  refine X_aload_n 33 (by decide +kernel : decode cX0_ofTwo 32 = .ok (.aload_n 0, 1)) rfl rfl rfl ?_
  refine X_bipush 35 (33) (by decide +kernel : decode cX0_ofTwo 33 = .ok (.bipush 33, 2)) rfl rfl (by decide +kernel) ?_
  exact X_cv (as := [J 33]) (rest := []) (by decide +kernel : decode cX0_ofTwo 35 = .ok (.invokevirtual 65, 3)) (Or.inl ⟨rfl, rfl, rfl⟩) rfl rfl rfl rfl rfl (Nat.le_of_ble_eq_true rfl) (Or.inr (Or.inr (by rw [g1]; rfl))) hd1 k
theorem kX0_ofTwo_38 {a0 : Nat} {x1 : Int} {o2 : Option Value} {b2 : Nat} (g1 : aKd S a0 = 2) (p3 : aP S a0 1 = some b2) (hd1 : 1 ≤ d) (k : X E (d - 1) fX1_emit 0 [some (.ref b2), some (J x1), some (J 0)] [] S (mI M) (Kr E d fX0_ofTwo 47 [some (.ref a0), some (J x1), o2] [] Q)) (g4 : aKd S b2 = 3) : X E d fX0_ofTwo 38 [some (.ref a0), some (J x1), o2] [] S (mI M) Q := by
  refine X_aload_n 39 (by decide +kernel : decode cX0_ofTwo 38 = .ok (.aload_n 0, 1)) rfl rfl rfl ?_
  refine X_getR 42 (by decide +kernel : decode cX0_ofTwo 39 = .ok (.getfield 15, 3)) rfl rfl (by decide +kernel : aFd 2 15 = some (2, 1, true, false)) g1 p3 ?_
  refine X_iload_n 43 (by decide +kernel : decode cX0_ofTwo 42 = .ok (.iload_n 1, 1)) rfl rfl rfl ?_
  refine X_iconst 44 (by decide +kernel : decode cX0_ofTwo 43 = .ok (.iconst 0, 1)) rfl rfl ?_
  exact X_cv (as := [J 0, J x1]) (rest := []) (by decide +kernel : decode cX0_ofTwo 44 = .ok (.invokevirtual 94, 3)) (Or.inl ⟨rfl, rfl, rfl⟩) rfl rfl rfl rfl rfl (Nat.le_of_ble_eq_true rfl) (Or.inr (Or.inr (by rw [g4]; rfl))) hd1 k
theorem kX0_ofTwo_47 {o0 : Option Value} {o1 : Option Value} {o2 : Option Value} (q : Q (some none) S (mI M)) : X E d fX0_ofTwo 47 [o0, o1, o2] [] S (mI M) Q := by
  exact X_vret (by decide +kernel : decode cX0_ofTwo 47 = .ok (.return_, 1)) rfl rfl q
theorem kX0_accept_0 {a0 : Nat} {o1 : Option Value} {o2 : Option Value} (g1 : aKd S a0 = 2) (r2 : R32 (M a0 2)) (k1 : (M a0 2) ≠ 0 → X E d fX0_accept 19 [some (.ref a0), o1, o2] [] S (mI M) Q) (k2 : (M a0 2) = 0 → X E d fX0_accept 7 [some (.ref a0), o1, o2] [] S (mI M) Q) : X E d fX0_accept 0 [some (.ref a0), o1, o2] [] S (mI M) Q := by
  refine X_aload_n 1 (by decide +kernel : decode cX0_accept 0 = .ok (.aload_n 0, 1)) rfl rfl rfl ?_
  refine X_getI 4 (by decide +kernel : decode cX0_accept 1 = .ok (.getfield 19, 3)) rfl rfl (by decide +kernel : aFd 2 19 = some (2, 2, false, false)) g1 ?_
  exact X_ifne 19 7 (by decide +kernel : decode cX0_accept 4 = .ok (.ifCond .ne 15, 3)) rfl rfl (by decide) r2 k1 k2
theorem kX0_accept_7 {a0 : Nat} {x1 : Int} {o2 : Option Value} (g1 : aKd S a0 = 2) (r2 : R32 (M a0 4)) (r3 : R32 x1) (k1 : (M a0 4) ≠ x1 → X E d fX0_accept 19 [some (.ref a0), some (J x1), o2] [] S (mI M) Q) (k2 : (M a0 4) = x1 → X E d fX0_accept 15 [some (.ref a0), some (J x1), o2] [] S (mI M) Q) : X E d fX0_accept 7 [some (.ref a0), some (J x1), o2] [] S (mI M) Q := by
  refine X_aload_n 8 (by decide +kernel : decode cX0_accept 7 = .ok (.aload_n 0, 1)) rfl rfl rfl ?_
  refine X_getI 11 (by decide +kernel : decode cX0_accept 8 = .ok (.getfield 33, 3)) rfl rfl (by decide +kernel : aFd 2 33 = some (2, 4, false, false)) g1 ?_
  refine X_iload_n 12 (by decide +kernel : decode cX0_accept 11 = .ok (.iload_n 1, 1)) rfl rfl rfl ?_
  exact X_icmpne 19 15 (by decide +kernel : decode cX0_accept 12 = .ok (.if_icmp .ne 7, 3)) rfl rfl (by decide) r2 r3 k1 k2
theorem kX0_accept_15 {o0 : Option Value} {o1 : Option Value} {o2 : Option Value} (k : X E d fX0_accept 20 [o0, o1, o2] [J 1] S (mI M) Q) : X E d fX0_accept 15 [o0, o1, o2] [] S (mI M) Q := by
  refine X_iconst 16 (by decide +kernel : decode cX0_accept 15 = .ok (.iconst 1, 1)) rfl rfl ?_
  exact X_goto 20 (by decide +kernel : decode cX0_accept 16 = .ok (.goto 4, 3)) rfl (by decide) k
theorem kX0_accept_19 {o0 : Option Value} {o1 : Option Value} {o2 : Option Value} (k : X E d fX0_accept 20 [o0, o1, o2] [J 0] S (mI M) Q) : X E d fX0_accept 19 [o0, o1, o2] [] S (mI M) Q := by
  refine X_iconst 20 (by decide +kernel : decode cX0_accept 19 = .ok (.iconst 0, 1)) rfl rfl ?_
  exact k
theorem kX0_accept_20 {o0 : Option Value} {o1 : Option Value} {o2 : Option Value} {t0 : Int} (r1 : R32 t0) (k1 : t0 = 0 → X E d fX0_accept 30 [o0, o1, some (J t0)] [] S (mI M) Q) (k2 : t0 ≠ 0 → X E d fX0_accept 25 [o0, o1, some (J t0)] [] S (mI M) Q) : X E d fX0_accept 20 [o0, o1, o2] [J t0] S (mI M) Q := by
  refine X_istore_n 21 (by decide +kernel : decode cX0_accept 20 = .ok (.istore_n 2, 1)) rfl rfl (Nat.le_of_ble_eq_true rfl) rfl ?_
  refine X_iload_n 22 (by decide +kernel : decode cX0_accept 21 = .ok (.iload_n 2, 1)) rfl rfl rfl ?_
  exact X_ifeq 30 25 (by decide +kernel : decode cX0_accept 22 = .ok (.ifCond .eq 8, 3)) rfl rfl (by decide) r1 k1 k2
theorem kX0_accept_25 {a0 : Nat} {x1 : Int} {o2 : Option Value} (hd1 : 1 ≤ d) (k : X E (d - 1) fX0_need 0 [some (.ref a0), some (J x1)] [] S (mI M) (Kr E d fX0_accept 30 [some (.ref a0), some (J x1), o2] [] Q)) (g1 : aKd S a0 = 2) : X E d fX0_accept 25 [some (.ref a0), some (J x1), o2] [] S (mI M) Q := by
  refine X_aload_n 26 (by decide +kernel : decode cX0_accept 25 = .ok (.aload_n 0, 1)) rfl rfl rfl ?_
  refine X_iload_n 27 (by decide +kernel : decode cX0_accept 26 = .ok (.iload_n 1, 1)) rfl rfl rfl ?_
  exact X_cv (as := [J x1]) (rest := []) (by decide +kernel : decode cX0_accept 27 = .ok (.invokevirtual 65, 3)) (Or.inl ⟨rfl, rfl, rfl⟩) rfl rfl rfl rfl rfl (Nat.le_of_ble_eq_true rfl) (Or.inr (Or.inr (by rw [g1]; rfl))) hd1 k
theorem kX0_accept_30 {o0 : Option Value} {o1 : Option Value} {x2 : Int} (h1 : narrow .boolean (J x2) = J x2) (q : Q (some (some (J x2))) S (mI M)) : X E d fX0_accept 30 [o0, o1, some (J x2)] [] S (mI M) Q := by
  refine X_iload_n 31 (by decide +kernel : decode cX0_accept 30 = .ok (.iload_n 2, 1)) rfl rfl rfl ?_
  exact X_iret (by decide +kernel : decode cX0_accept 31 = .ok (.ireturn, 1)) rfl rfl h1 q
theorem kX0_test_0 {a0 : Nat} {x1 : Int} {o2 : Option Value} (hd1 : 1 ≤ d) (k : X E (d - 1) fX0_both 0 [some (.ref a0), some (J x1), none] [] S (mI M) (Kr E d fX0_test 5 [some (.ref a0), some (J x1), o2] [] Q)) (g1 : aKd S a0 = 2) : X E d fX0_test 0 [some (.ref a0), some (J x1), o2] [] S (mI M) Q := by
  refine X_aload_n 1 (by decide +kernel : decode cX0_test 0 = .ok (.aload_n 0, 1)) rfl rfl rfl ?_
  refine X_iload_n 2 (by decide +kernel : decode cX0_test 1 = .ok (.iload_n 1, 1)) rfl rfl rfl ?_
  exact X_cv (as := [J x1]) (rest := []) (by decide +kernel : decode cX0_test 2 = .ok (.invokevirtual 91, 3)) (Or.inl ⟨rfl, rfl, rfl⟩) rfl rfl rfl rfl rfl (Nat.le_of_ble_eq_true rfl) (Or.inr (Or.inr (by rw [g1]; rfl))) hd1 k
theorem kX0_test_5 {o0 : Option Value} {o1 : Option Value} {o2 : Option Value} (k : X E d fX0_test 7 [o0, o1, some (J 0)] [] S (mI M) Q) : X E d fX0_test 5 [o0, o1, o2] [] S (mI M) Q := by
  refine X_iconst 6 (by decide +kernel : decode cX0_test 5 = .ok (.iconst 0, 1)) rfl rfl ?_
  refine X_istore_n 7 (by decide +kernel : decode cX0_test 6 = .ok (.istore_n 2, 1)) rfl rfl (Nat.le_of_ble_eq_true rfl) rfl ?_
  exact k
theorem kX0_test_7 {o0 : Option Value} {o1 : Option Value} {x2 : Int} (r1 : R32 x2) (k1 : 400 ≤ x2 → X E d fX0_test 44 [o0, o1, some (J x2)] [] S (mI M) Q) (k2 : x2 < 400 → X E d fX0_test 14 [o0, o1, some (J x2)] [] S (mI M) Q) : X E d fX0_test 7 [o0, o1, some (J x2)] [] S (mI M) Q := by
  refine X_iload_n 8 (by decide +kernel : decode cX0_test 7 = .ok (.iload_n 2, 1)) rfl rfl rfl ?_
  refine X_sipush 11 (400) (by decide +kernel : decode cX0_test 8 = .ok (.sipush 400, 3)) rfl rfl (by decide +kernel) ?_
  exact X_icmpge 44 14 (by decide +kernel : decode cX0_test 11 = .ok (.if_icmp .ge 33, 3)) rfl rfl (by decide) r1 ⟨by decide, by decide⟩ k1 k2
theorem kX0_test_14 {a0 : Nat} {o1 : Option Value} {o2 : Option Value} (hd1 : 1 ≤ d) (k : X E (d - 1) fX0_accept 0 [some (.ref a0), some (J 29), none] [] S (mI M) (Kr E d fX0_test 20 [some (.ref a0), o1, o2] [] Q)) (g1 : aKd S a0 = 2) : X E d fX0_test 14 [some (.ref a0), o1, o2] [] S (mI M) Q := by
  refine X_aload_n 15 (by decide +kernel : decode cX0_test 14 = .ok (.aload_n 0, 1)) rfl rfl rfl ?_
  refine X_bipush 17 (29) (by decide +kernel : decode cX0_test 15 = .ok (.bipush 29, 2)) rfl rfl (by decide +kernel) ?_
  exact X_cv (as := [J 29]) (rest := []) (by decide +kernel : decode cX0_test 17 = .ok (.invokevirtual 81, 3)) (Or.inl ⟨rfl, rfl, rfl⟩) rfl rfl rfl rfl rfl (Nat.le_of_ble_eq_true rfl) (Or.inr (Or.inr (by rw [g1]; rfl))) hd1 k
theorem kX0_test_20 {o0 : Option Value} {o1 : Option Value} {o2 : Option Value} {t0 : Int} (r1 : R32 t0) (k1 : t0 = 0 → X E d fX0_test 44 [o0, o1, o2] [] S (mI M) Q) (k2 : t0 ≠ 0 → X E d fX0_test 23 [o0, o1, o2] [] S (mI M) Q) : X E d fX0_test 20 [o0, o1, o2] [J t0] S (mI M) Q := by
  exact X_ifeq 44 23 (by decide +kernel : decode cX0_test 20 = .ok (.ifCond .eq 24, 3)) rfl rfl (by decide) r1 k1 k2
theorem kX0_test_23 {a0 : Nat} {x1 : Int} {o2 : Option Value} (hd1 : 1 ≤ d) (k : X E (d - 1) fX0_both 0 [some (.ref a0), some (J x1), none] [] S (mI M) (Kr E d fX0_test 28 [some (.ref a0), some (J x1), o2] [] Q)) (g1 : aKd S a0 = 2) : X E d fX0_test 23 [some (.ref a0), some (J x1), o2] [] S (mI M) Q := by
  refine X_aload_n 24 (by decide +kernel : decode cX0_test 23 = .ok (.aload_n 0, 1)) rfl rfl rfl ?_
  refine X_iload_n 25 (by decide +kernel : decode cX0_test 24 = .ok (.iload_n 1, 1)) rfl rfl rfl ?_
  exact X_cv (as := [J x1]) (rest := []) (by decide +kernel : decode cX0_test 25 = .ok (.invokevirtual 91, 3)) (Or.inl ⟨rfl, rfl, rfl⟩) rfl rfl rfl rfl rfl (Nat.le_of_ble_eq_true rfl) (Or.inr (Or.inr (by rw [g1]; rfl))) hd1 k
theorem kX0_test_28 {a0 : Nat} {o1 : Option Value} {o2 : Option Value} {b2 : Nat} (g1 : aKd S a0 = 2) (p3 : aP S a0 1 = some b2) (hd1 : 1 ≤ d) (k : X E (d - 1) fX1_emit 0 [some (.ref b2), some (J 29), some (J 0)] [] S (mI M) (Kr E d fX0_test 38 [some (.ref a0), o1, o2] [] Q)) (g4 : aKd S b2 = 3) : X E d fX0_test 28 [some (.ref a0), o1, o2] [] S (mI M) Q := by
  refine X_aload_n 29 (by decide +kernel : decode cX0_test 28 = .ok (.aload_n 0, 1)) rfl rfl rfl ?_
  refine X_getR 32 (by decide +kernel : decode cX0_test 29 = .ok (.getfield 15, 3)) rfl rfl (by decide +kernel : aFd 2 15 = some (2, 1, true, false)) g1 p3 ?_
  refine X_bipush 34 (29) (by decide +kernel : decode cX0_test 32 = .ok (.bipush 29, 2)) rfl rfl (by decide +kernel) ?_
  refine X_iconst 35 (by decide +kernel : decode cX0_test 34 = .ok (.iconst 0, 1)) rfl rfl ?_
  exact X_cv (as := [J 0, J 29]) (rest := []) (by decide +kernel : decode cX0_test 35 = .ok (.invokevirtual 94, 3)) (Or.inl ⟨rfl, rfl, rfl⟩) rfl rfl rfl rfl rfl (Nat.le_of_ble_eq_true rfl) (Or.inr (Or.inr (by rw [g4]; rfl))) hd1 k
theorem kX0_test_38 {o0 : Option Value} {o1 : Option Value} {x2 : Int} (k : X E d fX0_test 7 [o0, o1, some (J (x2 + 1))] [] S (mI M) Q) : X E d fX0_test 38 [o0, o1, some (J x2)] [] S (mI M) Q := by
  refine X_iinc 41 (by decide +kernel : decode cX0_test 38 = .ok (.iinc 2 1, 3)) rfl rfl rfl rfl ?_
  exact X_goto 7 (by decide +kernel : decode cX0_test 41 = .ok (.goto (-34), 3)) rfl (by decide) k
theorem kX0_test_44 {o0 : Option Value} {o1 : Option Value} {o2 : Option Value} (q : Q (some none) S (mI M)) : X E d fX0_test 44 [o0, o1, o2] [] S (mI M) Q := by
  exact X_vret (by decide +kernel : decode cX0_test 44 = .ok (.return_, 1)) rfl rfl q
theorem kX0_both_0 {a0 : Nat} {x1 : Int} {o2 : Option Value} (hd1 : 1 ≤ d) (k : X E (d - 1) fX0_single 0 [some (.ref a0), some (J x1), none, none] [] S (mI M) (Kr E d fX0_both 5 [some (.ref a0), some (J x1), o2] [] Q)) (g1 : aKd S a0 = 2) : X E d fX0_both 0 [some (.ref a0), some (J x1), o2] [] S (mI M) Q := by
  refine X_aload_n 1 (by decide +kernel : decode cX0_both 0 = .ok (.aload_n 0, 1)) rfl rfl rfl ?_
  refine X_iload_n 2 (by decide +kernel : decode cX0_both 1 = .ok (.iload_n 1, 1)) rfl rfl rfl ?_
  exact X_cv (as := [J x1]) (rest := []) (by decide +kernel : decode cX0_both 2 = .ok (.invokevirtual 98, 3)) (Or.inl ⟨rfl, rfl, rfl⟩) rfl rfl rfl rfl rfl (Nat.le_of_ble_eq_true rfl) (Or.inr (Or.inr (by rw [g1]; rfl))) hd1 k
theorem kX0_both_5 {o0 : Option Value} {o1 : Option Value} {o2 : Option Value} (k : X E d fX0_both 7 [o0, o1, some (J 0)] [] S (mI M) Q) : X E d fX0_both 5 [o0, o1, o2] [] S (mI M) Q := by
  refine X_iconst 6 (by decide +kernel : decode cX0_both 5 = .ok (.iconst 0, 1)) rfl rfl ?_
  refine X_istore_n 7 (by decide +kernel : decode cX0_both 6 = .ok (.istore_n 2, 1)) rfl rfl (Nat.le_of_ble_eq_true rfl) rfl ?_
  exact k
theorem kX0_both_7 {o0 : Option Value} {o1 : Option Value} {x2 : Int} (r1 : R32 x2) (k1 : 400 ≤ x2 → X E d fX0_both 44 [o0, o1, some (J x2)] [] S (mI M) Q) (k2 : x2 < 400 → X E d fX0_both 14 [o0, o1, some (J x2)] [] S (mI M) Q) : X E d fX0_both 7 [o0, o1, some (J x2)] [] S (mI M) Q := by
  refine X_iload_n 8 (by decide +kernel : decode cX0_both 7 = .ok (.iload_n 2, 1)) rfl rfl rfl ?_
  refine X_sipush 11 (400) (by decide +kernel : decode cX0_both 8 = .ok (.sipush 400, 3)) rfl rfl (by decide +kernel) ?_
  exact X_icmpge 44 14 (by decide +kernel : decode cX0_both 11 = .ok (.if_icmp .ge 33, 3)) rfl rfl (by decide) r1 ⟨by decide, by decide⟩ k1 k2
theorem kX0_both_14 {a0 : Nat} {o1 : Option Value} {o2 : Option Value} (hd1 : 1 ≤ d) (k : X E (d - 1) fX0_accept 0 [some (.ref a0), some (J 28), none] [] S (mI M) (Kr E d fX0_both 20 [some (.ref a0), o1, o2] [] Q)) (g1 : aKd S a0 = 2) : X E d fX0_both 14 [some (.ref a0), o1, o2] [] S (mI M) Q := by
  refine X_aload_n 15 (by decide +kernel : decode cX0_both 14 = .ok (.aload_n 0, 1)) rfl rfl rfl ?_
  refine X_bipush 17 (28) (by decide +kernel : decode cX0_both 15 = .ok (.bipush 28, 2)) rfl rfl (by decide +kernel) ?_
  exact X_cv (as := [J 28]) (rest := []) (by decide +kernel : decode cX0_both 17 = .ok (.invokevirtual 81, 3)) (Or.inl ⟨rfl, rfl, rfl⟩) rfl rfl rfl rfl rfl (Nat.le_of_ble_eq_true rfl) (Or.inr (Or.inr (by rw [g1]; rfl))) hd1 k
theorem kX0_both_20 {o0 : Option Value} {o1 : Option Value} {o2 : Option Value} {t0 : Int} (r1 : R32 t0) (k1 : t0 = 0 → X E d fX0_both 44 [o0, o1, o2] [] S (mI M) Q) (k2 : t0 ≠ 0 → X E d fX0_both 23 [o0, o1, o2] [] S (mI M) Q) : X E d fX0_both 20 [o0, o1, o2] [J t0] S (mI M) Q := by
  exact X_ifeq 44 23 (by decide +kernel : decode cX0_both 20 = .ok (.ifCond .eq 24, 3)) rfl rfl (by decide) r1 k1 k2
theorem kX0_both_23 {a0 : Nat} {x1 : Int} {o2 : Option Value} (hd1 : 1 ≤ d) (k : X E (d - 1) fX0_single 0 [some (.ref a0), some (J x1), none, none] [] S (mI M) (Kr E d fX0_both 28 [some (.ref a0), some (J x1), o2] [] Q)) (g1 : aKd S a0 = 2) : X E d fX0_both 23 [some (.ref a0), some (J x1), o2] [] S (mI M) Q := by
  refine X_aload_n 24 (by decide +kernel : decode cX0_both 23 = .ok (.aload_n 0, 1)) rfl rfl rfl ?_
  refine X_iload_n 25 (by decide +kernel : decode cX0_both 24 = .ok (.iload_n 1, 1)) rfl rfl rfl ?_
  exact X_cv (as := [J x1]) (rest := []) (by decide +kernel : decode cX0_both 25 = .ok (.invokevirtual 98, 3)) (Or.inl ⟨rfl, rfl, rfl⟩) rfl rfl rfl rfl rfl (Nat.le_of_ble_eq_true rfl) (Or.inr (Or.inr (by rw [g1]; rfl))) hd1 k
theorem kX0_both_28 {a0 : Nat} {o1 : Option Value} {o2 : Option Value} {b2 : Nat} (g1 : aKd S a0 = 2) (p3 : aP S a0 1 = some b2) (hd1 : 1 ≤ d) (k : X E (d - 1) fX1_emit 0 [some (.ref b2), some (J 28), some (J 0)] [] S (mI M) (Kr E d fX0_both 38 [some (.ref a0), o1, o2] [] Q)) (g4 : aKd S b2 = 3) : X E d fX0_both 28 [some (.ref a0), o1, o2] [] S (mI M) Q := by
  refine X_aload_n 29 (by decide +kernel : decode cX0_both 28 = .ok (.aload_n 0, 1)) rfl rfl rfl ?_
  refine X_getR 32 (by decide +kernel : decode cX0_both 29 = .ok (.getfield 15, 3)) rfl rfl (by decide +kernel : aFd 2 15 = some (2, 1, true, false)) g1 p3 ?_
  refine X_bipush 34 (28) (by decide +kernel : decode cX0_both 32 = .ok (.bipush 28, 2)) rfl rfl (by decide +kernel) ?_
  refine X_iconst 35 (by decide +kernel : decode cX0_both 34 = .ok (.iconst 0, 1)) rfl rfl ?_
  exact X_cv (as := [J 0, J 28]) (rest := []) (by decide +kernel : decode cX0_both 35 = .ok (.invokevirtual 94, 3)) (Or.inl ⟨rfl, rfl, rfl⟩) rfl rfl rfl rfl rfl (Nat.le_of_ble_eq_true rfl) (Or.inr (Or.inr (by rw [g4]; rfl))) hd1 k
theorem kX0_both_38 {o0 : Option Value} {o1 : Option Value} {x2 : Int} (k : X E d fX0_both 7 [o0, o1, some (J (x2 + 1))] [] S (mI M) Q) : X E d fX0_both 38 [o0, o1, some (J x2)] [] S (mI M) Q := by
  refine X_iinc 41 (by decide +kernel : decode cX0_both 38 = .ok (.iinc 2 1, 3)) rfl rfl rfl rfl ?_
  exact X_goto 7 (by decide +kernel : decode cX0_both 41 = .ok (.goto (-34), 3)) rfl (by decide) k
theorem kX0_both_44 {o0 : Option Value} {o1 : Option Value} {o2 : Option Value} (q : Q (some none) S (mI M)) : X E d fX0_both 44 [o0, o1, o2] [] S (mI M) Q := by
  exact X_vret (by decide +kernel : decode cX0_both 44 = .ok (.return_, 1)) rfl rfl q
theorem kX0_single_0 {a0 : Nat} {o1 : Option Value} {o2 : Option Value} {o3 : Option Value} (g1 : aKd S a0 = 2) (r2 : R32 (M a0 2)) (k1 : (M a0 2) = 0 → X E d fX0_single 8 [some (.ref a0), o1, o2, o3] [] S (mI M) Q) (k2 : (M a0 2) ≠ 0 → X E d fX0_single 7 [some (.ref a0), o1, o2, o3] [] S (mI M) Q) : X E d fX0_single 0 [some (.ref a0), o1, o2, o3] [] S (mI M) Q := by
  refine X_aload_n 1 (by decide +kernel : decode cX0_single 0 = .ok (.aload_n 0, 1)) rfl rfl rfl ?_
  refine X_getI 4 (by decide +kernel : decode cX0_single 1 = .ok (.getfield 19, 3)) rfl rfl (by decide +kernel : aFd 2 19 = some (2, 2, false, false)) g1 ?_
  exact X_ifeq 8 7 (by decide +kernel : decode cX0_single 4 = .ok (.ifCond .eq 4, 3)) rfl rfl (by decide) r2 k1 k2
theorem kX0_single_7 {o0 : Option Value} {o1 : Option Value} {o2 : Option Value} {o3 : Option Value} (q : Q (some none) S (mI M)) : X E d fX0_single 7 [o0, o1, o2, o3] [] S (mI M) Q := by
  exact X_vret (by decide +kernel : decode cX0_single 7 = .ok (.return_, 1)) rfl rfl q
theorem kX0_single_8 {a0 : Nat} {o1 : Option Value} {o2 : Option Value} {o3 : Option Value} (g1 : aKd S a0 = 2) (r2 : R32 ((M a0 4))) (kd : (M a0 4) ≠ 25 ∧ (M a0 4) ≠ 26 ∧ (M a0 4) ≠ 27 ∧ (M a0 4) ≠ 34 → X E d fX0_single 126 [some (.ref a0), o1, some (J (M a0 4)), o3] [] S (mI M) Q) (k0 : (M a0 4) = 25 → X E d fX0_single 118 [some (.ref a0), o1, some (J (M a0 4)), o3] [] S (mI M) Q) (k1 : (M a0 4) = 26 → X E d fX0_single 118 [some (.ref a0), o1, some (J (M a0 4)), o3] [] S (mI M) Q) (k2 : (M a0 4) = 27 → X E d fX0_single 68 [some (.ref a0), o1, some (J (M a0 4)), o3] [] S (mI M) Q) (k9 : (M a0 4) = 34 → X E d fX0_single 95 [some (.ref a0), o1, some (J (M a0 4)), o3] [] S (mI M) Q) : X E d fX0_single 8 [some (.ref a0), o1, o2, o3] [] S (mI M) Q := by
  refine X_aload_n 9 (by decide +kernel : decode cX0_single 8 = .ok (.aload_n 0, 1)) rfl rfl rfl ?_
  refine X_getI 12 (by decide +kernel : decode cX0_single 9 = .ok (.getfield 33, 3)) rfl rfl (by decide +kernel : aFd 2 33 = some (2, 4, false, false)) g1 ?_
  refine X_istore_n 13 (by decide +kernel : decode cX0_single 12 = .ok (.istore_n 2, 1)) rfl rfl (Nat.le_of_ble_eq_true rfl) rfl ?_
  refine X_iload_n 14 (by decide +kernel : decode cX0_single 13 = .ok (.iload_n 2, 1)) rfl rfl rfl ?_
  by_cases hr : (M a0 4) < 25 ∨ 34 < (M a0 4)
  · exact X_tswD 126 (by decide +kernel : decode cX0_single 14 = .ok (.tableswitch 112 25 34 #[104, 104, 54, 112, 112, 112, 112, 112, 112, 81], 54)) rfl (by decide) r2 hr (kd (by omega))
  · rcases (by omega : (M a0 4) = 25 ∨ (M a0 4) = 26 ∨ (M a0 4) = 27 ∨ (M a0 4) = 28 ∨ (M a0 4) = 29 ∨ (M a0 4) = 30 ∨ (M a0 4) = 31 ∨ (M a0 4) = 32 ∨ (M a0 4) = 33 ∨ (M a0 4) = 34) with h | h | h | h | h | h | h | h | h | h
    · exact X_tswI 118 0 (by decide +kernel : decode cX0_single 14 = .ok (.tableswitch 112 25 34 #[104, 104, 54, 112, 112, 112, 112, 112, 112, 81], 54)) rfl rfl (by decide) r2 (h.trans rfl) (by decide) (k0 h)
    · exact X_tswI 118 1 (by decide +kernel : decode cX0_single 14 = .ok (.tableswitch 112 25 34 #[104, 104, 54, 112, 112, 112, 112, 112, 112, 81], 54)) rfl rfl (by decide) r2 (h.trans rfl) (by decide) (k1 h)
    · exact X_tswI 68 2 (by decide +kernel : decode cX0_single 14 = .ok (.tableswitch 112 25 34 #[104, 104, 54, 112, 112, 112, 112, 112, 112, 81], 54)) rfl rfl (by decide) r2 (h.trans rfl) (by decide) (k2 h)
    · exact X_tswI 126 3 (by decide +kernel : decode cX0_single 14 = .ok (.tableswitch 112 25 34 #[104, 104, 54, 112, 112, 112, 112, 112, 112, 81], 54)) rfl rfl (by decide) r2 (h.trans rfl) (by decide) (kd (by omega))
    · exact X_tswI 126 4 (by decide +kernel : decode cX0_single 14 = .ok (.tableswitch 112 25 34 #[104, 104, 54, 112, 112, 112, 112, 112, 112, 81], 54)) rfl rfl (by decide) r2 (h.trans rfl) (by decide) (kd (by omega))
    · exact X_tswI 126 5 (by decide +kernel : decode cX0_single 14 = .ok (.tableswitch 112 25 34 #[104, 104, 54, 112, 112, 112, 112, 112, 112, 81], 54)) rfl rfl (by decide) r2 (h.trans rfl) (by decide) (kd (by omega))
    · exact X_tswI 126 6 (by decide +kernel : decode cX0_single 14 = .ok (.tableswitch 112 25 34 #[104, 104, 54, 112, 112, 112, 112, 112, 112, 81], 54)) rfl rfl (by decide) r2 (h.trans rfl) (by decide) (kd (by omega))
    · exact X_tswI 126 7 (by decide +kernel : decode cX0_single 14 = .ok (.tableswitch 112 25 34 #[104, 104, 54, 112, 112, 112, 112, 112, 112, 81], 54)) rfl rfl (by decide) r2 (h.trans rfl) (by decide) (kd (by omega))
    · exact X_tswI 126 8 (by decide +kernel : decode cX0_single 14 = .ok (.tableswitch 112 25 34 #[104, 104, 54, 112, 112, 112, 112, 112, 112, 81], 54)) rfl rfl (by decide) r2 (h.trans rfl) (by decide) (kd (by omega))
    · exact X_tswI 95 9 (by decide +kernel : decode cX0_single 14 = .ok (.tableswitch 112 25 34 #[104, 104, 54, 112, 112, 112, 112, 112, 112, 81], 54)) rfl rfl (by decide) r2 (h.trans rfl) (by decide) (k9 h)
theorem kX0_single_68 {a0 : Nat} {x1 : Int} {o2 : Option Value} {o3 : Option Value} (hd1 : 1 ≤ d) (k : X E (d - 1) fX0_needDeeper 0 [some (.ref a0), some (J 27), some (J x1)] [] S (mI M) (Kr E d fX0_single 75 [some (.ref a0), some (J x1), o2, o3] [] Q)) (g1 : aKd S a0 = 2) : X E d fX0_single 68 [some (.ref a0), some (J x1), o2, o3] [] S (mI M) Q := by
  refine X_aload_n 69 (by decide +kernel : decode cX0_single 68 = .ok (.aload_n 0, 1)) rfl rfl rfl ?_
  refine X_bipush 71 (27) (by decide +kernel : decode cX0_single 69 = .ok (.bipush 27, 2)) rfl rfl (by decide +kernel) ?_
  refine X_iload_n 72 (by decide +kernel : decode cX0_single 71 = .ok (.iload_n 1, 1)) rfl rfl rfl ?_
  exact X_cv (as := [J x1, J 27]) (rest := []) (by decide +kernel : decode cX0_single 72 = .ok (.invokevirtual 101, 3)) (Or.inl ⟨rfl, rfl, rfl⟩) rfl rfl rfl rfl rfl (Nat.le_of_ble_eq_true rfl) (Or.inr (Or.inr (by rw [g1]; rfl))) hd1 k
theorem kX0_single_75 {a0 : Nat} {x1 : Int} {o2 : Option Value} {o3 : Option Value} (hd1 : 1 ≤ d) (k : X E (d - 1) fX0_single 0 [some (.ref a0), some (J (x1 + 1)), none, none] [] S (mI M) (Kr E d fX0_single 82 [some (.ref a0), some (J x1), o2, o3] [] Q)) (g1 : aKd S a0 = 2) : X E d fX0_single 75 [some (.ref a0), some (J x1), o2, o3] [] S (mI M) Q := by
  refine X_aload_n 76 (by decide +kernel : decode cX0_single 75 = .ok (.aload_n 0, 1)) rfl rfl rfl ?_
  refine X_iload_n 77 (by decide +kernel : decode cX0_single 76 = .ok (.iload_n 1, 1)) rfl rfl rfl ?_
  refine X_iconst 78 (by decide +kernel : decode cX0_single 77 = .ok (.iconst 1, 1)) rfl rfl ?_
  refine X_iadd 79 (by decide +kernel : decode cX0_single 78 = .ok (.iadd, 1)) rfl rfl ?_
  exact X_cv (as := [J (x1 + 1)]) (rest := []) (by decide +kernel : decode cX0_single 79 = .ok (.invokevirtual 98, 3)) (Or.inl ⟨rfl, rfl, rfl⟩) rfl rfl rfl rfl rfl (Nat.le_of_ble_eq_true rfl) (Or.inr (Or.inr (by rw [g1]; rfl))) hd1 k
theorem kX0_single_82 {a0 : Nat} {o1 : Option Value} {o2 : Option Value} {o3 : Option Value} {b2 : Nat} (g1 : aKd S a0 = 2) (p3 : aP S a0 1 = some b2) (hd1 : 1 ≤ d) (k : X E (d - 1) fX1_emit 0 [some (.ref b2), some (J 27), some (J 0)] [] S (mI M) (Kr E d fX0_single 92 [some (.ref a0), o1, o2, o3] [] Q)) (g4 : aKd S b2 = 3) : X E d fX0_single 82 [some (.ref a0), o1, o2, o3] [] S (mI M) Q := by
  refine X_aload_n 83 (by decide +kernel : decode cX0_single 82 = .ok (.aload_n 0, 1)) rfl rfl rfl ?_
  refine X_getR 86 (by decide +kernel : decode cX0_single 83 = .ok (.getfield 15, 3)) rfl rfl (by decide +kernel : aFd 2 15 = some (2, 1, true, false)) g1 p3 ?_
  refine X_bipush 88 (27) (by decide +kernel : decode cX0_single 86 = .ok (.bipush 27, 2)) rfl rfl (by decide +kernel) ?_
  refine X_iconst 89 (by decide +kernel : decode cX0_single 88 = .ok (.iconst 0, 1)) rfl rfl ?_
  exact X_cv (as := [J 0, J 27]) (rest := []) (by decide +kernel : decode cX0_single 89 = .ok (.invokevirtual 94, 3)) (Or.inl ⟨rfl, rfl, rfl⟩) rfl rfl rfl rfl rfl (Nat.le_of_ble_eq_true rfl) (Or.inr (Or.inr (by rw [g4]; rfl))) hd1 k
theorem kX0_single_92 {o0 : Option Value} {o1 : Option Value} {o2 : Option Value} {o3 : Option Value} (k : X E d fX0_single 183 [o0, o1, o2, o3] [] S (mI M) Q) : X E d fX0_single 92 [o0, o1, o2, o3] [] S (mI M) Q := by
  exact X_goto 183 (by decide +kernel : decode cX0_single 92 = .ok (.goto 91, 3)) rfl (by decide) k
theorem kX0_single_95 {a0 : Nat} {x1 : Int} {o2 : Option Value} {o3 : Option Value} (hd1 : 1 ≤ d) (k : X E (d - 1) fX0_needDeeper 0 [some (.ref a0), some (J 34), some (J x1)] [] S (mI M) (Kr E d fX0_single 102 [some (.ref a0), some (J x1), o2, o3] [] Q)) (g1 : aKd S a0 = 2) : X E d fX0_single 95 [some (.ref a0), some (J x1), o2, o3] [] S (mI M) Q := by
  refine X_aload_n 96 (by decide +kernel : decode cX0_single 95 = .ok (.aload_n 0, 1)) rfl rfl rfl ?_
  refine X_bipush 98 (34) (by decide +kernel : decode cX0_single 96 = .ok (.bipush 34, 2)) rfl rfl (by decide +kernel) ?_
  refine X_iload_n 99 (by decide +kernel : decode cX0_single 98 = .ok (.iload_n 1, 1)) rfl rfl rfl ?_
  exact X_cv (as := [J x1, J 34]) (rest := []) (by decide +kernel : decode cX0_single 99 = .ok (.invokevirtual 101, 3)) (Or.inl ⟨rfl, rfl, rfl⟩) rfl rfl rfl rfl rfl (Nat.le_of_ble_eq_true rfl) (Or.inr (Or.inr (by rw [g1]; rfl))) hd1 k
theorem kX0_single_102 {a0 : Nat} {x1 : Int} {o2 : Option Value} {o3 : Option Value} (hd1 : 1 ≤ d) (k : X E (d - 1) fX0_test 0 [some (.ref a0), some (J (x1 + 1)), none] [] S (mI M) (Kr E d fX0_single 109 [some (.ref a0), some (J x1), o2, o3] [] Q)) (g1 : aKd S a0 = 2) : X E d fX0_single 102 [some (.ref a0), some (J x1), o2, o3] [] S (mI M) Q := by
  refine X_aload_n 103 (by decide +kernel : decode cX0_single 102 = .ok (.aload_n 0, 1)) rfl rfl rfl ?_
  refine X_iload_n 104 (by decide +kernel : decode cX0_single 103 = .ok (.iload_n 1, 1)) rfl rfl rfl ?_
  refine X_iconst 105 (by decide +kernel : decode cX0_single 104 = .ok (.iconst 1, 1)) rfl rfl ?_
  refine X_iadd 106 (by decide +kernel : decode cX0_single 105 = .ok (.iadd, 1)) rfl rfl ?_
  exact X_cv (as := [J (x1 + 1)]) (rest := []) (by decide +kernel : decode cX0_single 106 = .ok (.invokevirtual 85, 3)) (Or.inl ⟨rfl, rfl, rfl⟩) rfl rfl rfl rfl rfl (Nat.le_of_ble_eq_true rfl) (Or.inr (Or.inr (by rw [g1]; rfl))) hd1 k
theorem kX0_single_109 {a0 : Nat} {o1 : Option Value} {o2 : Option Value} {o3 : Option Value} (hd1 : 1 ≤ d) (k : X E (d - 1) fX0_need 0 [some (.ref a0), some (J 35)] [] S (mI M) (Kr E d fX0_single 115 [some (.ref a0), o1, o2, o3] [] Q)) (g1 : aKd S a0 = 2) : X E d fX0_single 109 [some (.ref a0), o1, o2, o3] [] S (mI M) Q := by
  refine X_aload_n 110 (by decide +kernel : decode cX0_single 109 = .ok (.aload_n 0, 1)) rfl rfl rfl ?_
  refine X_bipush 112 (35) (by decide +kernel : decode cX0_single 110 = .ok (.bipush 35, 2)) rfl rfl (by decide +kernel) ?_
  exact X_cv (as := [J 35]) (rest := []) (by decide +kernel : decode cX0_single 112 = .ok (.invokevirtual 65, 3)) (Or.inl ⟨rfl, rfl, rfl⟩) rfl rfl rfl rfl rfl (Nat.le_of_ble_eq_true rfl) (Or.inr (Or.inr (by rw [g1]; rfl))) hd1 k
theorem kX0_single_115 {o0 : Option Value} {o1 : Option Value} {o2 : Option Value} {o3 : Option Value} (k : X E d fX0_single 183 [o0, o1, o2, o3] [] S (mI M) Q) : X E d fX0_single 115 [o0, o1, o2, o3] [] S (mI M) Q := by
  exact X_goto 183 (by decide +kernel : decode cX0_single 115 = .ok (.goto 68, 3)) rfl (by decide) k
theorem kX0_single_118 {a0 : Nat} {o1 : Option Value} {x2 : Int} {o3 : Option Value} (hd1 : 1 ≤ d) (k : X E (d - 1) fX0_named 0 [some (.ref a0), some (J x2)] [] S (mI M) (Kr E d fX0_single 123 [some (.ref a0), o1, some (J x2), o3] [] Q)) (g1 : aKd S a0 = 2) : X E d fX0_single 118 [some (.ref a0), o1, some (J x2), o3] [] S (mI M) Q := by
  refine X_aload_n 119 (by decide +kernel : decode cX0_single 118 = .ok (.aload_n 0, 1)) rfl rfl rfl ?_
  refine X_iload_n 120 (by decide +kernel : decode cX0_single 119 = .ok (.iload_n 2, 1)) rfl rfl rfl ?_
  exact X_cv (as := [J x2]) (rest := []) (by decide +kernel : decode cX0_single 120 = .ok (.invokevirtual 104, 3)) (Or.inl ⟨rfl, rfl, rfl⟩) rfl rfl rfl rfl rfl (Nat.le_of_ble_eq_true rfl) (Or.inr (Or.inr (by rw [g1]; rfl))) hd1 k
theorem kX0_single_123 {o0 : Option Value} {o1 : Option Value} {o2 : Option Value} {o3 : Option Value} (k : X E d fX0_single 183 [o0, o1, o2, o3] [] S (mI M) Q) : X E d fX0_single 123 [o0, o1, o2, o3] [] S (mI M) Q := by
  exact X_goto 183 (by decide +kernel : decode cX0_single 123 = .ok (.goto 60, 3)) rfl (by decide) k
theorem kX0_single_126 {a0 : Nat} {x1 : Int} {o2 : Option Value} {o3 : Option Value} (hd1 : 1 ≤ d) (k : X E (d - 1) fX0_sum 0 [some (.ref a0), some (J x1), none, none] [] S (mI M) (Kr E d fX0_single 131 [some (.ref a0), some (J x1), o2, o3] [] Q)) (g1 : aKd S a0 = 2) : X E d fX0_single 126 [some (.ref a0), some (J x1), o2, o3] [] S (mI M) Q := by
  refine X_aload_n 127 (by decide +kernel : decode cX0_single 126 = .ok (.aload_n 0, 1)) rfl rfl rfl ?_
  refine X_iload_n 128 (by decide +kernel : decode cX0_single 127 = .ok (.iload_n 1, 1)) rfl rfl rfl ?_
  exact X_cv (as := [J x1]) (rest := []) (by decide +kernel : decode cX0_single 128 = .ok (.invokevirtual 75, 3)) (Or.inl ⟨rfl, rfl, rfl⟩) rfl rfl rfl rfl rfl (Nat.le_of_ble_eq_true rfl) (Or.inr (Or.inr (by rw [g1]; rfl))) hd1 k
theorem kX0_single_131 {a0 : Nat} {o1 : Option Value} {o2 : Option Value} {o3 : Option Value} (g1 : aKd S a0 = 2) (r3 : R32 (M a0 2)) (k1 : (M a0 2) ≠ 0 → X E d fX0_single 156 [some (.ref a0), o1, o2, some (J (M a0 4))] [.ref a0] S (mI M) Q) (k2 : (M a0 2) = 0 → X E d fX0_single 144 [some (.ref a0), o1, o2, some (J (M a0 4))] [.ref a0] S (mI M) Q) : X E d fX0_single 131 [some (.ref a0), o1, o2, o3] [] S (mI M) Q := by
  refine X_aload_n 132 (by decide +kernel : decode cX0_single 131 = .ok (.aload_n 0, 1)) rfl rfl rfl ?_
  refine X_getI 135 (by decide +kernel : decode cX0_single 132 = .ok (.getfield 33, 3)) rfl rfl (by decide +kernel : aFd 2 33 = some (2, 4, false, false)) g1 ?_
  refine X_istore_n 136 (by decide +kernel : decode cX0_single 135 = .ok (.istore_n 3, 1)) rfl rfl (Nat.le_of_ble_eq_true rfl) rfl ?_
  refine X_aload_n 137 (by decide +kernel : decode cX0_single 136 = .ok (.aload_n 0, 1)) rfl rfl rfl ?_
  refine X_aload_n 138 (by decide +kernel : decode cX0_single 137 = .ok (.aload_n 0, 1)) rfl rfl rfl ?_
  refine X_getI 141 (by decide +kernel : decode cX0_single 138 = .ok (.getfield 19, 3)) rfl rfl (by decide +kernel : aFd 2 19 = some (2, 2, false, false)) g1 ?_
  exact X_ifne 156 144 (by decide +kernel : decode cX0_single 141 = .ok (.ifCond .ne 15, 3)) rfl rfl (by decide) r3 k1 k2
theorem kX0_single_144 {o0 : Option Value} {o1 : Option Value} {o2 : Option Value} {x3 : Int} {u0 : Nat} (r1 : R32 x3) (k1 : x3 < 42 → X E d fX0_single 156 [o0, o1, o2, some (J x3)] [.ref u0] S (mI M) Q) (k2 : 42 ≤ x3 → X E d fX0_single 150 [o0, o1, o2, some (J x3)] [.ref u0] S (mI M) Q) : X E d fX0_single 144 [o0, o1, o2, some (J x3)] [.ref u0] S (mI M) Q := by
  refine X_iload_n 145 (by decide +kernel : decode cX0_single 144 = .ok (.iload_n 3, 1)) rfl rfl rfl ?_
  refine X_bipush 147 (42) (by decide +kernel : decode cX0_single 145 = .ok (.bipush 42, 2)) rfl rfl (by decide +kernel) ?_
  exact X_icmplt 156 150 (by decide +kernel : decode cX0_single 147 = .ok (.if_icmp .lt 9, 3)) rfl rfl (by decide) r1 ⟨by decide, by decide⟩ k1 k2
theorem kX0_single_150 {o0 : Option Value} {o1 : Option Value} {o2 : Option Value} {x3 : Int} {u0 : Nat} (r1 : R32 x3) (k1 : x3 ≤ 46 → X E d fX0_single 160 [o0, o1, o2, some (J x3)] [.ref u0] S (mI M) Q) (k2 : 46 < x3 → X E d fX0_single 156 [o0, o1, o2, some (J x3)] [.ref u0] S (mI M) Q) : X E d fX0_single 150 [o0, o1, o2, some (J x3)] [.ref u0] S (mI M) Q := by
  refine X_iload_n 151 (by decide +kernel : decode cX0_single 150 = .ok (.iload_n 3, 1)) rfl rfl rfl ?_
  refine X_bipush 153 (46) (by decide +kernel : decode cX0_single 151 = .ok (.bipush 46, 2)) rfl rfl (by decide +kernel) ?_
  exact X_icmple 160 156 (by decide +kernel : decode cX0_single 153 = .ok (.if_icmp .le 7, 3)) rfl rfl (by decide) r1 ⟨by decide, by decide⟩ k1 k2
theorem kX0_single_156 {o0 : Option Value} {o1 : Option Value} {o2 : Option Value} {o3 : Option Value} {u0 : Nat} (k : X E d fX0_single 161 [o0, o1, o2, o3] [J 1, .ref u0] S (mI M) Q) : X E d fX0_single 156 [o0, o1, o2, o3] [.ref u0] S (mI M) Q := by
  refine X_iconst 157 (by decide +kernel : decode cX0_single 156 = .ok (.iconst 1, 1)) rfl rfl ?_
  exact X_goto 161 (by decide +kernel : decode cX0_single 157 = .ok (.goto 4, 3)) rfl (by decide) k
theorem kX0_single_160 {o0 : Option Value} {o1 : Option Value} {o2 : Option Value} {o3 : Option Value} {u0 : Nat} (k : X E d fX0_single 161 [o0, o1, o2, o3] [J 0, .ref u0] S (mI M) Q) : X E d fX0_single 160 [o0, o1, o2, o3] [.ref u0] S (mI M) Q := by
  refine X_iconst 161 (by decide +kernel : decode cX0_single 160 = .ok (.iconst 0, 1)) rfl rfl ?_
  exact k
theorem kX0_single_161 {a0 : Nat} {o1 : Option Value} {o2 : Option Value} {x3 : Int} {t0 : Int} {u1 : Nat} (g1 : aK S u1 = 2) (h2 : narrow (aTy 2 2) (J t0) = J t0) (h3 : fits (aTy 2 2) (J t0) = true) (hd1 : 1 ≤ d) (k : X E (d - 1) fX0_need 0 [some (.ref a0), some (J x3)] [] S (mI (mW M u1 2 t0)) (Kr E d fX0_single 169 [some (.ref a0), o1, o2, some (J x3)] [] Q)) (g4 : aKd S a0 = 2) : X E d fX0_single 161 [some (.ref a0), o1, o2, some (J x3)] [J t0, .ref u1] S (mI M) Q := by
  refine X_putI 164 (by decide +kernel : decode cX0_single 161 = .ok (.putfield 19, 3)) rfl rfl (by decide +kernel : aFd 2 19 = some (2, 2, false, false)) (Or.inl rfl) g1 h2 h3 ?_
  refine X_aload_n 165 (by decide +kernel : decode cX0_single 164 = .ok (.aload_n 0, 1)) rfl rfl rfl ?_
  refine X_iload_n 166 (by decide +kernel : decode cX0_single 165 = .ok (.iload_n 3, 1)) rfl rfl rfl ?_
  exact X_cv (as := [J x3]) (rest := []) (by decide +kernel : decode cX0_single 166 = .ok (.invokevirtual 65, 3)) (Or.inl ⟨rfl, rfl, rfl⟩) rfl rfl rfl rfl rfl (Nat.le_of_ble_eq_true rfl) (Or.inr (Or.inr (by rw [g4]; rfl))) hd1 k
theorem kX0_single_169 {a0 : Nat} {x1 : Int} {o2 : Option Value} {o3 : Option Value} (hd1 : 1 ≤ d) (k : X E (d - 1) fX0_sum 0 [some (.ref a0), some (J x1), none, none] [] S (mI M) (Kr E d fX0_single 174 [some (.ref a0), some (J x1), o2, o3] [] Q)) (g1 : aKd S a0 = 2) : X E d fX0_single 169 [some (.ref a0), some (J x1), o2, o3] [] S (mI M) Q := by
  refine X_aload_n 170 (by decide +kernel : decode cX0_single 169 = .ok (.aload_n 0, 1)) rfl rfl rfl ?_
  refine X_iload_n 171 (by decide +kernel : decode cX0_single 170 = .ok (.iload_n 1, 1)) rfl rfl rfl ?_
  exact X_cv (as := [J x1]) (rest := []) (by decide +kernel : decode cX0_single 171 = .ok (.invokevirtual 75, 3)) (Or.inl ⟨rfl, rfl, rfl⟩) rfl rfl rfl rfl rfl (Nat.le_of_ble_eq_true rfl) (Or.inr (Or.inr (by rw [g1]; rfl))) hd1 k
theorem kX0_single_174 {a0 : Nat} {o1 : Option Value} {o2 : Option Value} {x3 : Int} {b2 : Nat} (g1 : aKd S a0 = 2) (p3 : aP S a0 1 = some b2) (hd1 : 1 ≤ d) (k : X E (d - 1) fX1_emit 0 [some (.ref b2), some (J x3), some (J 0)] [] S (mI M) (Kr E d fX0_single 183 [some (.ref a0), o1, o2, some (J x3)] [] Q)) (g4 : aKd S b2 = 3) : X E d fX0_single 174 [some (.ref a0), o1, o2, some (J x3)] [] S (mI M) Q := by
  refine X_aload_n 175 (by decide +kernel : decode cX0_single 174 = .ok (.aload_n 0, 1)) rfl rfl rfl ?_
  refine X_getR 178 (by decide +kernel : decode cX0_single 175 = .ok (.getfield 15, 3)) rfl rfl (by decide +kernel : aFd 2 15 = some (2, 1, true, false)) g1 p3 ?_
  refine X_iload_n 179 (by decide +kernel : decode cX0_single 178 = .ok (.iload_n 3, 1)) rfl rfl rfl ?_
  refine X_iconst 180 (by decide +kernel : decode cX0_single 179 = .ok (.iconst 0, 1)) rfl rfl ?_
  exact X_cv (as := [J 0, J x3]) (rest := []) (by decide +kernel : decode cX0_single 180 = .ok (.invokevirtual 94, 3)) (Or.inl ⟨rfl, rfl, rfl⟩) rfl rfl rfl rfl rfl (Nat.le_of_ble_eq_true rfl) (Or.inr (Or.inr (by rw [g4]; rfl))) hd1 k
theorem kX0_single_183 {o0 : Option Value} {o1 : Option Value} {o2 : Option Value} {o3 : Option Value} (q : Q (some none) S (mI M)) : X E d fX0_single 183 [o0, o1, o2, o3] [] S (mI M) Q := by
  exact X_vret (by decide +kernel : decode cX0_single 183 = .ok (.return_, 1)) rfl rfl q
theorem kX5_placeOf_0 {a0 : Nat} {x1 : Int} {b2 : Nat} (g1 : aKd S a0 = 7) (p3 : aP S a0 1 = some b2) (hd1 : 1 ≤ d) (k : X E (d - 1) fX7_valueAt 0 [some (.ref b2), some (J x1)] [] S (mI M) (Kr E d fX5_placeOf 8 [some (.ref a0), some (J x1)] [] Q)) : X E d fX5_placeOf 0 [some (.ref a0), some (J x1)] [] S (mI M) Q := by
  refine X_aload_n 1 (by decide +kernel : decode cX5_placeOf 0 = .ok (.aload_n 0, 1)) rfl rfl rfl ?_
  refine X_getR 4 (by decide +kernel : decode cX5_placeOf 1 = .ok (.getfield 15, 3)) rfl rfl (by decide +kernel : aFd 7 15 = some (7, 1, true, true)) g1 p3 ?_
  refine X_iload_n 5 (by decide +kernel : decode cX5_placeOf 4 = .ok (.iload_n 1, 1)) rfl rfl rfl ?_
  exact X_cs (as := [J x1, .ref b2]) (rest := []) (by decide +kernel : decode cX5_placeOf 5 = .ok (.invokestatic 46, 3)) rfl rfl rfl rfl rfl rfl rfl (Nat.le_of_ble_eq_true rfl) hd1 k
theorem kX5_placeOf_8 {o0 : Option Value} {o1 : Option Value} {t0 : Int} (q : Q (some (some (J t0))) S (mI M)) : X E d fX5_placeOf 8 [o0, o1] [J t0] S (mI M) Q := by
  exact X_iret (by decide +kernel : decode cX5_placeOf 8 = .ok (.ireturn, 1)) rfl rfl rfl q
end
