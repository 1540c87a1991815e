/-! straight pieces of methods, by program (wip/p26/blk.py): X7_init X7_count X7_mile X7_stretch X7_gate X7_traffic X7_toll X7_journey X7_worst X7_pass X7_until X7_foresee X7_advise X7_widen X7_mean X7_digest X7_trim X7_feed X7_append X7_teach X7_useDraft X7_setToll X7_setWheels X7_mend X7_grant -/
section
variable {E : Nat → Value} {d : Nat} {S : aS} {M : Nat → Nat → Int} {Q : Option (Option Value) → aS → aI → Prop}
theorem kX7_init_0 {a0 : Nat} {o1 : Option Value} {M_4 : Nat → Nat → Int} (g1 : aK (aNew S 101 2000 2000) a0 = 9) (eM_4 : aU (mW (mW (aU M (aX S) (fun _ => 0)) a0 1 0) a0 2 (-1)) (aX (aPut (aNew S 101 2000 2000) a0 0 (some (aX S)))) (fun _ => 0) = M_4) (hd1 : 1 ≤ d) (k : X E (d - 1) fX5_init 0 [some (.ref (aX (aPut (aNew S 101 2000 2000) a0 0 (some (aX S)))))] [] (aNew (aPut (aNew S 101 2000 2000) a0 0 (some (aX S))) 7 5 5) (mI M_4) (Kr E d fX7_init 31 [some (.ref a0), o1] [.ref (aX (aPut (aNew S 101 2000 2000) a0 0 (some (aX S)))), .ref a0] Q)) : X E d fX7_init 0 [some (.ref a0), o1] [] S (mI M) Q := by
  refine X_aload_n 1 (by decide +kernel : decode cX7_init 0 = .ok (.aload_n 0, 1)) rfl rfl rfl ?_
  refine X_obj 4 (by decide +kernel : decode cX7_init 1 = .ok (.invokespecial 1, 3)) rfl rfl rfl (Nat.le_of_ble_eq_true rfl) ?_
  refine X_aload_n 5 (by decide +kernel : decode cX7_init 4 = .ok (.aload_n 0, 1)) rfl rfl rfl ?_
  refine X_sipush 8 (2000) (by decide +kernel : decode cX7_init 5 = .ok (.sipush 2000, 3)) rfl rfl (by decide +kernel) ?_
  refine X_newB 10 (by decide +kernel : decode cX7_init 8 = .ok (.newarray .byte, 2)) rfl rfl ⟨by decide, by decide⟩ ?_
  refine X_putR 13 (by decide +kernel : decode cX7_init 10 = .ok (.putfield 9, 3)) rfl rfl (by decide +kernel : aFd 9 9 = some (9, 0, true, true)) (Or.inr ⟨rfl, rfl⟩) g1 rfl ?_
  refine X_aload_n 14 (by decide +kernel : decode cX7_init 13 = .ok (.aload_n 0, 1)) rfl rfl rfl ?_
  refine X_iconst 15 (by decide +kernel : decode cX7_init 14 = .ok (.iconst 0, 1)) rfl rfl ?_
  refine X_putI 18 (by decide +kernel : decode cX7_init 15 = .ok (.putfield 13, 3)) rfl rfl (by decide +kernel : aFd 9 13 = some (9, 1, false, false)) (Or.inl rfl) g1 rfl rfl ?_
  refine X_aload_n 19 (by decide +kernel : decode cX7_init 18 = .ok (.aload_n 0, 1)) rfl rfl rfl ?_
  refine X_iconst 20 (by decide +kernel : decode cX7_init 19 = .ok (.iconst (-1), 1)) rfl rfl ?_
  refine X_putI 23 (by decide +kernel : decode cX7_init 20 = .ok (.putfield 17, 3)) rfl rfl (by decide +kernel : aFd 9 17 = some (9, 2, false, false)) (Or.inl rfl) g1 rfl rfl ?_
  refine X_aload_n 24 (by decide +kernel : decode cX7_init 23 = .ok (.aload_n 0, 1)) rfl rfl rfl ?_
  refine X_new 27 (by decide +kernel : decode cX7_init 24 = .ok (.new 20, 3)) rfl rfl (by decide +kernel : aNd 9 20 = some (7, 5)) ?_
  show X E d fX7_init 27 [some (.ref a0), o1] [.ref (aX (aPut (aNew S 101 2000 2000) a0 0 (some (aX S)))), .ref a0] (aNew (aPut (aNew S 101 2000 2000) a0 0 (some (aX S))) 7 5 5) (mI (aU (mW (mW (aU M (aX S) (fun _ => 0)) a0 1 0) a0 2 (-1)) (aX (aPut (aNew S 101 2000 2000) a0 0 (some (aX S)))) (fun _ => 0))) Q
  rw [eM_4]
  refine X_dup 28 (by decide +kernel : decode cX7_init 27 = .ok (.dup, 1)) rfl rfl rfl ?_
  exact X_cv (as := []) (rest := [.ref (aX (aPut (aNew S 101 2000 2000) a0 0 (some (aX S)))), .ref a0]) (by decide +kernel : decode cX7_init 28 = .ok (.invokespecial 22, 3)) (Or.inr ⟨rfl, rfl, rfl⟩) rfl rfl rfl rfl rfl (Nat.le_of_ble_eq_true rfl) (Or.inr (Or.inl rfl)) hd1 k
theorem kX7_init_31 {a0 : Nat} {o1 : Option Value} {u0 : Nat} {u1 : Nat} {b3 : Nat} (g1 : aK S u1 = 9) (g2 : aKd (aNew (aPut S u1 3 (some u0)) 2 5 5) a0 = 9) (p4 : aP (aNew (aPut S u1 3 (some u0)) 2 5 5) a0 3 = some b3) (hd1 : 1 ≤ d) (k : X E (d - 1) fX0_init 0 [some (.ref (aX (aPut S u1 3 (some u0)))), some (.ref b3)] [] (aNew (aPut S u1 3 (some u0)) 2 5 5) (mI (aU M (aX (aPut S u1 3 (some u0))) (fun _ => 0))) (Kr E d fX7_init 46 [some (.ref a0), o1] [.ref (aX (aPut S u1 3 (some u0))), .ref a0] Q)) : X E d fX7_init 31 [some (.ref a0), o1] [.ref u0, .ref u1] S (mI M) Q := by
  refine X_putR 34 (by decide +kernel : decode cX7_init 31 = .ok (.putfield 23, 3)) rfl rfl (by decide +kernel : aFd 9 23 = some (9, 3, true, true)) (Or.inr ⟨rfl, rfl⟩) g1 rfl ?_
  refine X_aload_n 35 (by decide +kernel : decode cX7_init 34 = .ok (.aload_n 0, 1)) rfl rfl rfl ?_
  refine X_new 38 (by decide +kernel : decode cX7_init 35 = .ok (.new 27, 3)) rfl rfl (by decide +kernel : aNd 9 27 = some (2, 5)) ?_
  refine X_dup 39 (by decide +kernel : decode cX7_init 38 = .ok (.dup, 1)) rfl rfl rfl ?_
  refine X_aload_n 40 (by decide +kernel : decode cX7_init 39 = .ok (.aload_n 0, 1)) rfl rfl rfl ?_
  refine X_getR 43 (by decide +kernel : decode cX7_init 40 = .ok (.getfield 23, 3)) rfl rfl (by decide +kernel : aFd 9 23 = some (9, 3, true, true)) g2 p4 ?_
  exact X_cv (as := [.ref b3]) (rest := [.ref (aX (aPut S u1 3 (some u0))), .ref a0]) (by decide +kernel : decode cX7_init 43 = .ok (.invokespecial 29, 3)) (Or.inr ⟨rfl, rfl, rfl⟩) rfl rfl rfl rfl rfl (Nat.le_of_ble_eq_true rfl) (Or.inl rfl) hd1 k
theorem kX7_init_46 {a0 : Nat} {o1 : Option Value} {u0 : Nat} {u1 : Nat} {b3 : Nat} {b6 : Nat} (g1 : aK S u1 = 9) (g2 : aKd (aNew (aPut S u1 4 (some u0)) 6 7 7) a0 = 9) (p4 : aP (aNew (aPut S u1 4 (some u0)) 6 7 7) a0 3 = some b3) (p7 : aP (aNew (aPut S u1 4 (some u0)) 6 7 7) a0 0 = some b6) (hd1 : 1 ≤ d) (k : X E (d - 1) fX4_init 0 [some (.ref (aX (aPut S u1 4 (some u0)))), some (.ref b3), some (.ref b6)] [] (aNew (aPut S u1 4 (some u0)) 6 7 7) (mI (aU M (aX (aPut S u1 4 (some u0))) (fun _ => 0))) (Kr E d fX7_init 65 [some (.ref a0), o1] [.ref (aX (aPut S u1 4 (some u0))), .ref a0] Q)) : X E d fX7_init 46 [some (.ref a0), o1] [.ref u0, .ref u1] S (mI M) Q := by
  refine X_putR 49 (by decide +kernel : decode cX7_init 46 = .ok (.putfield 32, 3)) rfl rfl (by decide +kernel : aFd 9 32 = some (9, 4, true, true)) (Or.inr ⟨rfl, rfl⟩) g1 rfl ?_
  refine X_aload_n 50 (by decide +kernel : decode cX7_init 49 = .ok (.aload_n 0, 1)) rfl rfl rfl ?_
  refine X_new 53 (by decide +kernel : decode cX7_init 50 = .ok (.new 36, 3)) rfl rfl (by decide +kernel : aNd 9 36 = some (6, 7)) ?_
  refine X_dup 54 (by decide +kernel : decode cX7_init 53 = .ok (.dup, 1)) rfl rfl rfl ?_
  refine X_aload_n 55 (by decide +kernel : decode cX7_init 54 = .ok (.aload_n 0, 1)) rfl rfl rfl ?_
  refine X_getR 58 (by decide +kernel : decode cX7_init 55 = .ok (.getfield 23, 3)) rfl rfl (by decide +kernel : aFd 9 23 = some (9, 3, true, true)) g2 p4 ?_
  refine X_aload_n 59 (by decide +kernel : decode cX7_init 58 = .ok (.aload_n 0, 1)) rfl rfl rfl ?_
  refine X_getR 62 (by decide +kernel : decode cX7_init 59 = .ok (.getfield 9, 3)) rfl rfl (by decide +kernel : aFd 9 9 = some (9, 0, true, true)) g2 p7 ?_
  exact X_cv (as := [.ref b6, .ref b3]) (rest := [.ref (aX (aPut S u1 4 (some u0))), .ref a0]) (by decide +kernel : decode cX7_init 62 = .ok (.invokespecial 38, 3)) (Or.inr ⟨rfl, rfl, rfl⟩) rfl rfl rfl rfl rfl (Nat.le_of_ble_eq_true rfl) (Or.inl rfl) hd1 k
theorem kX7_init_65 {a0 : Nat} {o1 : Option Value} {u0 : Nat} {u1 : Nat} (g1 : aK S u1 = 9) (hd1 : 1 ≤ d) (k : X E (d - 1) fX3_init 0 [some (.ref (aX (aPut S u1 5 (some u0))))] [] (aNew (aPut S u1 5 (some u0)) 5 16 16) (mI (aU M (aX (aPut S u1 5 (some u0))) (fun _ => 0))) (Kr E d fX7_init 76 [some (.ref a0), o1] [.ref (aX (aPut S u1 5 (some u0))), .ref a0] Q)) : X E d fX7_init 65 [some (.ref a0), o1] [.ref u0, .ref u1] S (mI M) Q := by
  refine X_putR 68 (by decide +kernel : decode cX7_init 65 = .ok (.putfield 41, 3)) rfl rfl (by decide +kernel : aFd 9 41 = some (9, 5, true, true)) (Or.inr ⟨rfl, rfl⟩) g1 rfl ?_
  refine X_aload_n 69 (by decide +kernel : decode cX7_init 68 = .ok (.aload_n 0, 1)) rfl rfl rfl ?_
  refine X_new 72 (by decide +kernel : decode cX7_init 69 = .ok (.new 45, 3)) rfl rfl (by decide +kernel : aNd 9 45 = some (5, 16)) ?_
  refine X_dup 73 (by decide +kernel : decode cX7_init 72 = .ok (.dup, 1)) rfl rfl rfl ?_
  exact X_cv (as := []) (rest := [.ref (aX (aPut S u1 5 (some u0))), .ref a0]) (by decide +kernel : decode cX7_init 73 = .ok (.invokespecial 47, 3)) (Or.inr ⟨rfl, rfl, rfl⟩) rfl rfl rfl rfl rfl (Nat.le_of_ble_eq_true rfl) (Or.inr (Or.inl rfl)) hd1 k
theorem kX7_init_76 {a0 : Nat} {o1 : Option Value} {u0 : Nat} {u1 : Nat} (g1 : aK S u1 = 9) (hd1 : 1 ≤ d) (k : X E (d - 1) fX3_init 0 [some (.ref (aX (aPut S u1 8 (some u0))))] [] (aNew (aPut S u1 8 (some u0)) 5 16 16) (mI (aU M (aX (aPut S u1 8 (some u0))) (fun _ => 0))) (Kr E d fX7_init 87 [some (.ref a0), o1] [.ref (aX (aPut S u1 8 (some u0))), .ref a0] Q)) : X E d fX7_init 76 [some (.ref a0), o1] [.ref u0, .ref u1] S (mI M) Q := by
  refine X_putR 79 (by decide +kernel : decode cX7_init 76 = .ok (.putfield 48, 3)) rfl rfl (by decide +kernel : aFd 9 48 = some (9, 8, true, false)) (Or.inl rfl) g1 rfl ?_
  refine X_aload_n 80 (by decide +kernel : decode cX7_init 79 = .ok (.aload_n 0, 1)) rfl rfl rfl ?_
  refine X_new 83 (by decide +kernel : decode cX7_init 80 = .ok (.new 45, 3)) rfl rfl (by decide +kernel : aNd 9 45 = some (5, 16)) ?_
  refine X_dup 84 (by decide +kernel : decode cX7_init 83 = .ok (.dup, 1)) rfl rfl rfl ?_
  exact X_cv (as := []) (rest := [.ref (aX (aPut S u1 8 (some u0))), .ref a0]) (by decide +kernel : decode cX7_init 84 = .ok (.invokespecial 47, 3)) (Or.inr ⟨rfl, rfl, rfl⟩) rfl rfl rfl rfl rfl (Nat.le_of_ble_eq_true rfl) (Or.inr (Or.inl rfl)) hd1 k
theorem kX7_init_87 {o0 : Option Value} {o1 : Option Value} {u0 : Nat} {u1 : Nat} (g1 : aK S u1 = 9) (hd1 : 1 ≤ d) (k : X E (d - 1) fX2_init 0 [some (.ref (aX (aPut S u1 9 (some u0))))] [] (aNew (aPut S u1 9 (some u0)) 4 1 1) (mI (aU M (aX (aPut S u1 9 (some u0))) (fun _ => 0))) (Kr E d fX7_init 97 [o0, o1] [.ref (aX (aPut S u1 9 (some u0)))] Q)) : X E d fX7_init 87 [o0, o1] [.ref u0, .ref u1] S (mI M) Q := by
  refine X_putR 90 (by decide +kernel : decode cX7_init 87 = .ok (.putfield 52, 3)) rfl rfl (by decide +kernel : aFd 9 52 = some (9, 9, true, false)) (Or.inl rfl) g1 rfl ?_
  refine X_new 93 (by decide +kernel : decode cX7_init 90 = .ok (.new 55, 3)) rfl rfl (by decide +kernel : aNd 9 55 = some (4, 1)) ?_
  refine X_dup 94 (by decide +kernel : decode cX7_init 93 = .ok (.dup, 1)) rfl rfl rfl ?_
  exact X_cv (as := []) (rest := [.ref (aX (aPut S u1 9 (some u0)))]) (by decide +kernel : decode cX7_init 94 = .ok (.invokespecial 57, 3)) (Or.inr ⟨rfl, rfl, rfl⟩) rfl rfl rfl rfl rfl (Nat.le_of_ble_eq_true rfl) (Or.inr (Or.inl rfl)) hd1 k
theorem kX7_init_97 {a0 : Nat} {o1 : Option Value} {u0 : Nat} {b2 : Nat} (g1 : aKd (aNew S 8 18 18) a0 = 9) (p3 : aP (aNew S 8 18 18) a0 8 = some b2) (hd1 : 1 ≤ d) (k : X E (d - 1) fX6_init 0 [some (.ref (aX S)), some (.ref b2), some (.ref u0)] [] (aNew S 8 18 18) (mI (aU M (aX S) (fun _ => 0))) (Kr E d fX7_init 111 [some (.ref a0), some (.ref u0)] [.ref (aX S), .ref a0] Q)) : X E d fX7_init 97 [some (.ref a0), o1] [.ref u0] S (mI M) Q := by
  refine X_astore_n 98 (by decide +kernel : decode cX7_init 97 = .ok (.astore_n 1, 1)) rfl rfl (Nat.le_of_ble_eq_true rfl) rfl ?_
  refine X_aload_n 99 (by decide +kernel : decode cX7_init 98 = .ok (.aload_n 0, 1)) rfl rfl rfl ?_
  refine X_new 102 (by decide +kernel : decode cX7_init 99 = .ok (.new 58, 3)) rfl rfl (by decide +kernel : aNd 9 58 = some (8, 18)) ?_
  refine X_dup 103 (by decide +kernel : decode cX7_init 102 = .ok (.dup, 1)) rfl rfl rfl ?_
  refine X_aload_n 104 (by decide +kernel : decode cX7_init 103 = .ok (.aload_n 0, 1)) rfl rfl rfl ?_
  refine X_getR 107 (by decide +kernel : decode cX7_init 104 = .ok (.getfield 48, 3)) rfl rfl (by decide +kernel : aFd 9 48 = some (9, 8, true, false)) g1 p3 ?_
  refine X_aload_n 108 (by decide +kernel : decode cX7_init 107 = .ok (.aload_n 1, 1)) rfl rfl rfl ?_
  exact X_cv (as := [.ref u0, .ref b2]) (rest := [.ref (aX S), .ref a0]) (by decide +kernel : decode cX7_init 108 = .ok (.invokespecial 60, 3)) (Or.inr ⟨rfl, rfl, rfl⟩) rfl rfl rfl rfl rfl (Nat.le_of_ble_eq_true rfl) (Or.inl rfl) hd1 k
theorem kX7_init_111 {a0 : Nat} {a1 : Nat} {u0 : Nat} {u1 : Nat} {b3 : Nat} (g1 : aK S u1 = 9) (g2 : aKd (aNew (aPut S u1 6 (some u0)) 8 18 18) a0 = 9) (p4 : aP (aNew (aPut S u1 6 (some u0)) 8 18 18) a0 8 = some b3) (hd1 : 1 ≤ d) (k : X E (d - 1) fX6_init 0 [some (.ref (aX (aPut S u1 6 (some u0)))), some (.ref b3), some (.ref a1)] [] (aNew (aPut S u1 6 (some u0)) 8 18 18) (mI (aU M (aX (aPut S u1 6 (some u0))) (fun _ => 0))) (Kr E d fX7_init 127 [some (.ref a0), some (.ref a1)] [.ref (aX (aPut S u1 6 (some u0))), .ref a0] Q)) : X E d fX7_init 111 [some (.ref a0), some (.ref a1)] [.ref u0, .ref u1] S (mI M) Q := by
  refine X_putR 114 (by decide +kernel : decode cX7_init 111 = .ok (.putfield 63, 3)) rfl rfl (by decide +kernel : aFd 9 63 = some (9, 6, true, true)) (Or.inr ⟨rfl, rfl⟩) g1 rfl ?_
  refine X_aload_n 115 (by decide +kernel : decode cX7_init 114 = .ok (.aload_n 0, 1)) rfl rfl rfl ?_
  refine X_new 118 (by decide +kernel : decode cX7_init 115 = .ok (.new 58, 3)) rfl rfl (by decide +kernel : aNd 9 58 = some (8, 18)) ?_
  refine X_dup 119 (by decide +kernel : decode cX7_init 118 = .ok (.dup, 1)) rfl rfl rfl ?_
  refine X_aload_n 120 (by decide +kernel : decode cX7_init 119 = .ok (.aload_n 0, 1)) rfl rfl rfl ?_
  refine X_getR 123 (by decide +kernel : decode cX7_init 120 = .ok (.getfield 48, 3)) rfl rfl (by decide +kernel : aFd 9 48 = some (9, 8, true, false)) g2 p4 ?_
  refine X_aload_n 124 (by decide +kernel : decode cX7_init 123 = .ok (.aload_n 1, 1)) rfl rfl rfl ?_
  exact X_cv (as := [.ref a1, .ref b3]) (rest := [.ref (aX (aPut S u1 6 (some u0))), .ref a0]) (by decide +kernel : decode cX7_init 124 = .ok (.invokespecial 60, 3)) (Or.inr ⟨rfl, rfl, rfl⟩) rfl rfl rfl rfl rfl (Nat.le_of_ble_eq_true rfl) (Or.inl rfl) hd1 k
theorem kX7_init_127 {o0 : Option Value} {o1 : Option Value} {u0 : Nat} {u1 : Nat} (g1 : aK S u1 = 9) (q : Q (some none) (aPut S u1 7 (some u0)) (mI M)) : X E d fX7_init 127 [o0, o1] [.ref u0, .ref u1] S (mI M) Q := by
  refine X_putR 130 (by decide +kernel : decode cX7_init 127 = .ok (.putfield 67, 3)) rfl rfl (by decide +kernel : aFd 9 67 = some (9, 7, true, true)) (Or.inr ⟨rfl, rfl⟩) g1 rfl ?_
  exact X_vret (by decide +kernel : decode cX7_init 130 = .ok (.return_, 1)) rfl rfl q
theorem kX7_count_0 {o0 : Option Value} {x1 : Int} (r1 : R32 x1) (kd : x1 ≠ 0 ∧ x1 ≠ 1 ∧ x1 ≠ 2 ∧ x1 ≠ 3 ∧ x1 ≠ 4 ∧ x1 ≠ 5 ∧ x1 ≠ 6 ∧ x1 ≠ 7 ∧ x1 ≠ 8 ∧ x1 ≠ 9 ∧ x1 ≠ 10 ∧ x1 ≠ 11 ∧ x1 ≠ 12 → X E d fX7_count 141 [o0, some (J x1)] [] S (mI M) Q) (k0 : x1 = 0 → X E d fX7_count 68 [o0, some (J x1)] [] S (mI M) Q) (k1 : x1 = 1 → X E d fX7_count 76 [o0, some (J x1)] [] S (mI M) Q) (k2 : x1 = 2 → X E d fX7_count 84 [o0, some (J x1)] [] S (mI M) Q) (k3 : x1 = 3 → X E d fX7_count 92 [o0, some (J x1)] [] S (mI M) Q) (k4 : x1 = 4 → X E d fX7_count 100 [o0, some (J x1)] [] S (mI M) Q) (k5 : x1 = 5 → X E d fX7_count 108 [o0, some (J x1)] [] S (mI M) Q) (k6 : x1 = 6 → X E d fX7_count 116 [o0, some (J x1)] [] S (mI M) Q) (k7 : x1 = 7 → X E d fX7_count 127 [o0, some (J x1)] [] S (mI M) Q) (k8 : x1 = 8 → X E d fX7_count 127 [o0, some (J x1)] [] S (mI M) Q) (k9 : x1 = 9 → X E d fX7_count 127 [o0, some (J x1)] [] S (mI M) Q) (k10 : x1 = 10 → X E d fX7_count 127 [o0, some (J x1)] [] S (mI M) Q) (k11 : x1 = 11 → X E d fX7_count 127 [o0, some (J x1)] [] S (mI M) Q) (k12 : x1 = 12 → X E d fX7_count 136 [o0, some (J x1)] [] S (mI M) Q) : X E d fX7_count 0 [o0, some (J x1)] [] S (mI M) Q := by
  refine X_iload_n 1 (by decide +kernel : decode cX7_count 0 = .ok (.iload_n 1, 1)) rfl rfl rfl ?_
  by_cases hr : x1 < 0 ∨ 12 < x1
  · exact X_tswD 141 (by decide +kernel : decode cX7_count 1 = .ok (.tableswitch 140 0 12 #[67, 75, 83, 91, 99, 107, 115, 126, 126, 126, 126, 126, 135], 67)) rfl (by decide) r1 hr (kd (by omega))
  · rcases (by omega : x1 = 0 ∨ x1 = 1 ∨ x1 = 2 ∨ x1 = 3 ∨ x1 = 4 ∨ x1 = 5 ∨ x1 = 6 ∨ x1 = 7 ∨ x1 = 8 ∨ x1 = 9 ∨ x1 = 10 ∨ x1 = 11 ∨ x1 = 12) with h | h | h | h | h | h | h | h | h | h | h | h | h
    · exact X_tswI 68 0 (by decide +kernel : decode cX7_count 1 = .ok (.tableswitch 140 0 12 #[67, 75, 83, 91, 99, 107, 115, 126, 126, 126, 126, 126, 135], 67)) rfl rfl (by decide) r1 (h.trans rfl) (by decide) (k0 h)
    · exact X_tswI 76 1 (by decide +kernel : decode cX7_count 1 = .ok (.tableswitch 140 0 12 #[67, 75, 83, 91, 99, 107, 115, 126, 126, 126, 126, 126, 135], 67)) rfl rfl (by decide) r1 (h.trans rfl) (by decide) (k1 h)
    · exact X_tswI 84 2 (by decide +kernel : decode cX7_count 1 = .ok (.tableswitch 140 0 12 #[67, 75, 83, 91, 99, 107, 115, 126, 126, 126, 126, 126, 135], 67)) rfl rfl (by decide) r1 (h.trans rfl) (by decide) (k2 h)
    · exact X_tswI 92 3 (by decide +kernel : decode cX7_count 1 = .ok (.tableswitch 140 0 12 #[67, 75, 83, 91, 99, 107, 115, 126, 126, 126, 126, 126, 135], 67)) rfl rfl (by decide) r1 (h.trans rfl) (by decide) (k3 h)
    · exact X_tswI 100 4 (by decide +kernel : decode cX7_count 1 = .ok (.tableswitch 140 0 12 #[67, 75, 83, 91, 99, 107, 115, 126, 126, 126, 126, 126, 135], 67)) rfl rfl (by decide) r1 (h.trans rfl) (by decide) (k4 h)
    · exact X_tswI 108 5 (by decide +kernel : decode cX7_count 1 = .ok (.tableswitch 140 0 12 #[67, 75, 83, 91, 99, 107, 115, 126, 126, 126, 126, 126, 135], 67)) rfl rfl (by decide) r1 (h.trans rfl) (by decide) (k5 h)
    · exact X_tswI 116 6 (by decide +kernel : decode cX7_count 1 = .ok (.tableswitch 140 0 12 #[67, 75, 83, 91, 99, 107, 115, 126, 126, 126, 126, 126, 135], 67)) rfl rfl (by decide) r1 (h.trans rfl) (by decide) (k6 h)
    · exact X_tswI 127 7 (by decide +kernel : decode cX7_count 1 = .ok (.tableswitch 140 0 12 #[67, 75, 83, 91, 99, 107, 115, 126, 126, 126, 126, 126, 135], 67)) rfl rfl (by decide) r1 (h.trans rfl) (by decide) (k7 h)
    · exact X_tswI 127 8 (by decide +kernel : decode cX7_count 1 = .ok (.tableswitch 140 0 12 #[67, 75, 83, 91, 99, 107, 115, 126, 126, 126, 126, 126, 135], 67)) rfl rfl (by decide) r1 (h.trans rfl) (by decide) (k8 h)
    · exact X_tswI 127 9 (by decide +kernel : decode cX7_count 1 = .ok (.tableswitch 140 0 12 #[67, 75, 83, 91, 99, 107, 115, 126, 126, 126, 126, 126, 135], 67)) rfl rfl (by decide) r1 (h.trans rfl) (by decide) (k9 h)
    · exact X_tswI 127 10 (by decide +kernel : decode cX7_count 1 = .ok (.tableswitch 140 0 12 #[67, 75, 83, 91, 99, 107, 115, 126, 126, 126, 126, 126, 135], 67)) rfl rfl (by decide) r1 (h.trans rfl) (by decide) (k10 h)
    · exact X_tswI 127 11 (by decide +kernel : decode cX7_count 1 = .ok (.tableswitch 140 0 12 #[67, 75, 83, 91, 99, 107, 115, 126, 126, 126, 126, 126, 135], 67)) rfl rfl (by decide) r1 (h.trans rfl) (by decide) (k11 h)
    · exact X_tswI 136 12 (by decide +kernel : decode cX7_count 1 = .ok (.tableswitch 140 0 12 #[67, 75, 83, 91, 99, 107, 115, 126, 126, 126, 126, 126, 135], 67)) rfl rfl (by decide) r1 (h.trans rfl) (by decide) (k12 h)
theorem kX7_count_68 {a0 : Nat} {o1 : Option Value} {b2 : Nat} (g1 : aKd S a0 = 9) (p3 : aP S a0 6 = some b2) (g4 : aKd S b2 = 8) (q : Q (some (some (J (M b2 2)))) S (mI M)) : X E d fX7_count 68 [some (.ref a0), o1] [] S (mI M) Q := by
  refine X_aload_n 69 (by decide +kernel : decode cX7_count 68 = .ok (.aload_n 0, 1)) rfl rfl rfl ?_
  refine X_getR 72 (by decide +kernel : decode cX7_count 69 = .ok (.getfield 63, 3)) rfl rfl (by decide +kernel : aFd 9 63 = some (9, 6, true, true)) g1 p3 ?_
  refine X_getI 75 (by decide +kernel : decode cX7_count 72 = .ok (.getfield 125, 3)) rfl rfl (by decide +kernel : aFd 9 125 = some (8, 2, false, false)) g4 ?_
  exact X_iret (by decide +kernel : decode cX7_count 75 = .ok (.ireturn, 1)) rfl rfl rfl q
theorem kX7_count_76 {a0 : Nat} {o1 : Option Value} {b2 : Nat} (g1 : aKd S a0 = 9) (p3 : aP S a0 6 = some b2) (g4 : aKd S b2 = 8) (q : Q (some (some (J (M b2 3)))) S (mI M)) : X E d fX7_count 76 [some (.ref a0), o1] [] S (mI M) Q := by
  refine X_aload_n 77 (by decide +kernel : decode cX7_count 76 = .ok (.aload_n 0, 1)) rfl rfl rfl ?_
  refine X_getR 80 (by decide +kernel : decode cX7_count 77 = .ok (.getfield 63, 3)) rfl rfl (by decide +kernel : aFd 9 63 = some (9, 6, true, true)) g1 p3 ?_
  refine X_getI 83 (by decide +kernel : decode cX7_count 80 = .ok (.getfield 128, 3)) rfl rfl (by decide +kernel : aFd 9 128 = some (8, 3, false, false)) g4 ?_
  exact X_iret (by decide +kernel : decode cX7_count 83 = .ok (.ireturn, 1)) rfl rfl rfl q
theorem kX7_count_84 {a0 : Nat} {o1 : Option Value} {b2 : Nat} (g1 : aKd S a0 = 9) (p3 : aP S a0 8 = some b2) (g4 : aKd S b2 = 5) (q : Q (some (some (J (M b2 0)))) S (mI M)) : X E d fX7_count 84 [some (.ref a0), o1] [] S (mI M) Q := by
  refine X_aload_n 85 (by decide +kernel : decode cX7_count 84 = .ok (.aload_n 0, 1)) rfl rfl rfl ?_
  refine X_getR 88 (by decide +kernel : decode cX7_count 85 = .ok (.getfield 48, 3)) rfl rfl (by decide +kernel : aFd 9 48 = some (9, 8, true, false)) g1 p3 ?_
  refine X_getI 91 (by decide +kernel : decode cX7_count 88 = .ok (.getfield 131, 3)) rfl rfl (by decide +kernel : aFd 9 131 = some (5, 0, false, false)) g4 ?_
  exact X_iret (by decide +kernel : decode cX7_count 91 = .ok (.ireturn, 1)) rfl rfl rfl q
theorem kX7_count_92 {a0 : Nat} {o1 : Option Value} {b2 : Nat} (g1 : aKd S a0 = 9) (p3 : aP S a0 8 = some b2) (g4 : aKd S b2 = 5) (q : Q (some (some (J (M b2 1)))) S (mI M)) : X E d fX7_count 92 [some (.ref a0), o1] [] S (mI M) Q := by
  refine X_aload_n 93 (by decide +kernel : decode cX7_count 92 = .ok (.aload_n 0, 1)) rfl rfl rfl ?_
  refine X_getR 96 (by decide +kernel : decode cX7_count 93 = .ok (.getfield 48, 3)) rfl rfl (by decide +kernel : aFd 9 48 = some (9, 8, true, false)) g1 p3 ?_
  refine X_getI 99 (by decide +kernel : decode cX7_count 96 = .ok (.getfield 134, 3)) rfl rfl (by decide +kernel : aFd 9 134 = some (5, 1, false, false)) g4 ?_
  exact X_iret (by decide +kernel : decode cX7_count 99 = .ok (.ireturn, 1)) rfl rfl rfl q
theorem kX7_count_100 {a0 : Nat} {o1 : Option Value} {b2 : Nat} (g1 : aKd S a0 = 9) (p3 : aP S a0 8 = some b2) (g4 : aKd S b2 = 5) (q : Q (some (some (J (M b2 2)))) S (mI M)) : X E d fX7_count 100 [some (.ref a0), o1] [] S (mI M) Q := by
  refine X_aload_n 101 (by decide +kernel : decode cX7_count 100 = .ok (.aload_n 0, 1)) rfl rfl rfl ?_
  refine X_getR 104 (by decide +kernel : decode cX7_count 101 = .ok (.getfield 48, 3)) rfl rfl (by decide +kernel : aFd 9 48 = some (9, 8, true, false)) g1 p3 ?_
  refine X_getI 107 (by decide +kernel : decode cX7_count 104 = .ok (.getfield 137, 3)) rfl rfl (by decide +kernel : aFd 9 137 = some (5, 2, false, false)) g4 ?_
  exact X_iret (by decide +kernel : decode cX7_count 107 = .ok (.ireturn, 1)) rfl rfl rfl q
theorem kX7_count_108 {a0 : Nat} {o1 : Option Value} {b2 : Nat} (g1 : aKd S a0 = 9) (p3 : aP S a0 8 = some b2) (g4 : aKd S b2 = 5) (q : Q (some (some (J (M b2 3)))) S (mI M)) : X E d fX7_count 108 [some (.ref a0), o1] [] S (mI M) Q := by
  refine X_aload_n 109 (by decide +kernel : decode cX7_count 108 = .ok (.aload_n 0, 1)) rfl rfl rfl ?_
  refine X_getR 112 (by decide +kernel : decode cX7_count 109 = .ok (.getfield 48, 3)) rfl rfl (by decide +kernel : aFd 9 48 = some (9, 8, true, false)) g1 p3 ?_
  refine X_getI 115 (by decide +kernel : decode cX7_count 112 = .ok (.getfield 140, 3)) rfl rfl (by decide +kernel : aFd 9 140 = some (5, 3, false, false)) g4 ?_
  exact X_iret (by decide +kernel : decode cX7_count 115 = .ok (.ireturn, 1)) rfl rfl rfl q
theorem kX7_count_116 {a0 : Nat} {o1 : Option Value} {b2 : Nat} {b5 : Nat} (g1 : aKd S a0 = 9) (p3 : aP S a0 8 = some b2) (g4 : aKd S b2 = 5) (p6 : aP S b2 15 = some b5) (g7 : aKd S b5 = 3) (q : Q (some (some (J (M b5 0)))) S (mI M)) : X E d fX7_count 116 [some (.ref a0), o1] [] S (mI M) Q := by
  refine X_aload_n 117 (by decide +kernel : decode cX7_count 116 = .ok (.aload_n 0, 1)) rfl rfl rfl ?_
  refine X_getR 120 (by decide +kernel : decode cX7_count 117 = .ok (.getfield 48, 3)) rfl rfl (by decide +kernel : aFd 9 48 = some (9, 8, true, false)) g1 p3 ?_
  refine X_getR 123 (by decide +kernel : decode cX7_count 120 = .ok (.getfield 93, 3)) rfl rfl (by decide +kernel : aFd 9 93 = some (5, 15, true, true)) g4 p6 ?_
  refine X_getI 126 (by decide +kernel : decode cX7_count 123 = .ok (.getfield 143, 3)) rfl rfl (by decide +kernel : aFd 9 143 = some (3, 0, false, false)) g7 ?_
  exact X_iret (by decide +kernel : decode cX7_count 126 = .ok (.ireturn, 1)) rfl rfl rfl q
theorem kX7_count_127 {a0 : Nat} {x1 : Int} {b2 : Nat} (g1 : aKd S a0 = 9) (p3 : aP S a0 6 = some b2) (hd1 : 1 ≤ d) (k : X E (d - 1) fX6_total 0 [some (.ref b2), some (J x1)] [] S (mI M) (Kr E d fX7_count 135 [some (.ref a0), some (J x1)] [] Q)) (g4 : aKd S b2 = 8) : X E d fX7_count 127 [some (.ref a0), some (J x1)] [] S (mI M) Q := by
  refine X_aload_n 128 (by decide +kernel : decode cX7_count 127 = .ok (.aload_n 0, 1)) rfl rfl rfl ?_
  refine X_getR 131 (by decide +kernel : decode cX7_count 128 = .ok (.getfield 63, 3)) rfl rfl (by decide +kernel : aFd 9 63 = some (9, 6, true, true)) g1 p3 ?_
  refine X_iload_n 132 (by decide +kernel : decode cX7_count 131 = .ok (.iload_n 1, 1)) rfl rfl rfl ?_
  exact X_cv (as := [J x1]) (rest := []) (by decide +kernel : decode cX7_count 132 = .ok (.invokevirtual 146, 3)) (Or.inl ⟨rfl, rfl, rfl⟩) rfl rfl rfl rfl rfl (Nat.le_of_ble_eq_true rfl) (Or.inr (Or.inr (by rw [g4]; rfl))) hd1 k
theorem kX7_count_135 {o0 : Option Value} {o1 : Option Value} {t0 : Int} (q : Q (some (some (J t0))) S (mI M)) : X E d fX7_count 135 [o0, o1] [J t0] S (mI M) Q := by
  exact X_iret (by decide +kernel : decode cX7_count 135 = .ok (.ireturn, 1)) rfl rfl rfl q
theorem kX7_count_136 {a0 : Nat} {o1 : Option Value} (g1 : aKd S a0 = 9) (q : Q (some (some (J (M a0 1)))) S (mI M)) : X E d fX7_count 136 [some (.ref a0), o1] [] S (mI M) Q := by
  refine X_aload_n 137 (by decide +kernel : decode cX7_count 136 = .ok (.aload_n 0, 1)) rfl rfl rfl ?_
  refine X_getI 140 (by decide +kernel : decode cX7_count 137 = .ok (.getfield 13, 3)) rfl rfl (by decide +kernel : aFd 9 13 = some (9, 1, false, false)) g1 ?_
  exact X_iret (by decide +kernel : decode cX7_count 140 = .ok (.ireturn, 1)) rfl rfl rfl q
theorem kX7_mile_0 {a0 : Nat} {x1 : Int} {o2 : Option Value} {b2 : Nat} (g1 : aKd S a0 = 9) (p3 : aP S a0 8 = some b2) (g4 : aKd S b2 = 5) (hd1 : 1 ≤ d) (k : X E (d - 1) fX7_isOutside 0 [some (J x1), some (J (M b2 1))] [] S (mI M) (Kr E d fX7_mile 11 [some (.ref a0), some (J x1), o2] [] Q)) : X E d fX7_mile 0 [some (.ref a0), some (J x1), o2] [] S (mI M) Q := by
  refine X_iload_n 1 (by decide +kernel : decode cX7_mile 0 = .ok (.iload_n 1, 1)) rfl rfl rfl ?_
  refine X_aload_n 2 (by decide +kernel : decode cX7_mile 1 = .ok (.aload_n 0, 1)) rfl rfl rfl ?_
  refine X_getR 5 (by decide +kernel : decode cX7_mile 2 = .ok (.getfield 48, 3)) rfl rfl (by decide +kernel : aFd 9 48 = some (9, 8, true, false)) g1 p3 ?_
  refine X_getI 8 (by decide +kernel : decode cX7_mile 5 = .ok (.getfield 134, 3)) rfl rfl (by decide +kernel : aFd 9 134 = some (5, 1, false, false)) g4 ?_
  exact X_cs (as := [J (M b2 1), J x1]) (rest := []) (by decide +kernel : decode cX7_mile 8 = .ok (.invokestatic 154, 3)) rfl rfl rfl rfl rfl rfl rfl (Nat.le_of_ble_eq_true rfl) hd1 k
theorem kX7_mile_11 {o0 : Option Value} {o1 : Option Value} {o2 : Option Value} {t0 : Int} (r1 : R32 t0) (k1 : t0 ≠ 0 → X E d fX7_mile 22 [o0, o1, o2] [] S (mI M) Q) (k2 : t0 = 0 → X E d fX7_mile 14 [o0, o1, o2] [] S (mI M) Q) : X E d fX7_mile 11 [o0, o1, o2] [J t0] S (mI M) Q := by
  exact X_ifne 22 14 (by decide +kernel : decode cX7_mile 11 = .ok (.ifCond .ne 11, 3)) rfl rfl (by decide) r1 k1 k2
theorem kX7_mile_14 {o0 : Option Value} {o1 : Option Value} {x2 : Int} (hd1 : 1 ≤ d) (k : X E (d - 1) fX7_isOutside 0 [some (J x2), some (J 4)] [] S (mI M) (Kr E d fX7_mile 19 [o0, o1, some (J x2)] [] Q)) : X E d fX7_mile 14 [o0, o1, some (J x2)] [] S (mI M) Q := by
  refine X_iload_n 15 (by decide +kernel : decode cX7_mile 14 = .ok (.iload_n 2, 1)) rfl rfl rfl ?_
  refine X_iconst 16 (by decide +kernel : decode cX7_mile 15 = .ok (.iconst 4, 1)) rfl rfl ?_
  exact X_cs (as := [J 4, J x2]) (rest := []) (by decide +kernel : decode cX7_mile 16 = .ok (.invokestatic 154, 3)) rfl rfl rfl rfl rfl rfl rfl (Nat.le_of_ble_eq_true rfl) hd1 k
theorem kX7_mile_19 {o0 : Option Value} {o1 : Option Value} {o2 : Option Value} {t0 : Int} (r1 : R32 t0) (k1 : t0 = 0 → X E d fX7_mile 32 [o0, o1, o2] [] S (mI M) Q) (k2 : t0 ≠ 0 → X E d fX7_mile 22 [o0, o1, o2] [] S (mI M) Q) : X E d fX7_mile 19 [o0, o1, o2] [J t0] S (mI M) Q := by
  exact X_ifeq 32 22 (by decide +kernel : decode cX7_mile 19 = .ok (.ifCond .eq 13, 3)) rfl rfl (by decide) r1 k1 k2
theorem kX7_mile_32 {o0 : Option Value} {o1 : Option Value} {x2 : Int} (r1 : R32 x2) (kd : x2 ≠ 0 ∧ x2 ≠ 1 ∧ x2 ≠ 2 → X E d fX7_mile 89 [o0, o1, some (J x2)] [] S (mI M) Q) (k0 : x2 = 0 → X E d fX7_mile 60 [o0, o1, some (J x2)] [] S (mI M) Q) (k1 : x2 = 1 → X E d fX7_mile 70 [o0, o1, some (J x2)] [] S (mI M) Q) (k2 : x2 = 2 → X E d fX7_mile 80 [o0, o1, some (J x2)] [] S (mI M) Q) : X E d fX7_mile 32 [o0, o1, some (J x2)] [] S (mI M) Q := by
  refine X_iload_n 33 (by decide +kernel : decode cX7_mile 32 = .ok (.iload_n 2, 1)) rfl rfl rfl ?_
  by_cases hr : x2 < 0 ∨ 2 < x2
  · exact X_tswD 89 (by decide +kernel : decode cX7_mile 33 = .ok (.tableswitch 56 0 2 #[27, 37, 47], 27)) rfl (by decide) r1 hr (kd (by omega))
  · rcases (by omega : x2 = 0 ∨ x2 = 1 ∨ x2 = 2) with h | h | h
    · exact X_tswI 60 0 (by decide +kernel : decode cX7_mile 33 = .ok (.tableswitch 56 0 2 #[27, 37, 47], 27)) rfl rfl (by decide) r1 (h.trans rfl) (by decide) (k0 h)
    · exact X_tswI 70 1 (by decide +kernel : decode cX7_mile 33 = .ok (.tableswitch 56 0 2 #[27, 37, 47], 27)) rfl rfl (by decide) r1 (h.trans rfl) (by decide) (k1 h)
    · exact X_tswI 80 2 (by decide +kernel : decode cX7_mile 33 = .ok (.tableswitch 56 0 2 #[27, 37, 47], 27)) rfl rfl (by decide) r1 (h.trans rfl) (by decide) (k2 h)
theorem kX7_mile_60 {a0 : Nat} {x1 : Int} {o2 : Option Value} {b2 : Nat} {b5 : Nat} (g1 : aKd S a0 = 9) (p3 : aP S a0 8 = some b2) (g4 : aKd S b2 = 5) (p6 : aP S b2 7 = some b5) (g7 : aKd S b5 = 100) (r8 : R32 x1) (h9 : (0 : Int) ≤ x1 ∧ x1 < (aN S b5 : Int)) (q : Q (some (some (J (M b5 x1.toNat)))) S (mI M)) : X E d fX7_mile 60 [some (.ref a0), some (J x1), o2] [] S (mI M) Q := by
  refine X_aload_n 61 (by decide +kernel : decode cX7_mile 60 = .ok (.aload_n 0, 1)) rfl rfl rfl ?_
  refine X_getR 64 (by decide +kernel : decode cX7_mile 61 = .ok (.getfield 48, 3)) rfl rfl (by decide +kernel : aFd 9 48 = some (9, 8, true, false)) g1 p3 ?_
  refine X_getR 67 (by decide +kernel : decode cX7_mile 64 = .ok (.getfield 160, 3)) rfl rfl (by decide +kernel : aFd 9 160 = some (5, 7, true, true)) g4 p6 ?_
  refine X_iload_n 68 (by decide +kernel : decode cX7_mile 67 = .ok (.iload_n 1, 1)) rfl rfl rfl ?_
  refine X_iald 69 (by decide +kernel : decode cX7_mile 68 = .ok (.iaload, 1)) rfl rfl g7 r8 h9 ?_
  exact X_iret (by decide +kernel : decode cX7_mile 69 = .ok (.ireturn, 1)) rfl rfl rfl q
theorem kX7_mile_70 {a0 : Nat} {x1 : Int} {o2 : Option Value} {b2 : Nat} {b5 : Nat} (g1 : aKd S a0 = 9) (p3 : aP S a0 6 = some b2) (g4 : aKd S b2 = 8) (p6 : aP S b2 4 = some b5) (g7 : aKd S b5 = 100) (r8 : R32 x1) (h9 : (0 : Int) ≤ x1 ∧ x1 < (aN S b5 : Int)) (q : Q (some (some (J (M b5 x1.toNat)))) S (mI M)) : X E d fX7_mile 70 [some (.ref a0), some (J x1), o2] [] S (mI M) Q := by
  refine X_aload_n 71 (by decide +kernel : decode cX7_mile 70 = .ok (.aload_n 0, 1)) rfl rfl rfl ?_
  refine X_getR 74 (by decide +kernel : decode cX7_mile 71 = .ok (.getfield 63, 3)) rfl rfl (by decide +kernel : aFd 9 63 = some (9, 6, true, true)) g1 p3 ?_
  refine X_getR 77 (by decide +kernel : decode cX7_mile 74 = .ok (.getfield 164, 3)) rfl rfl (by decide +kernel : aFd 9 164 = some (8, 4, true, true)) g4 p6 ?_
  refine X_iload_n 78 (by decide +kernel : decode cX7_mile 77 = .ok (.iload_n 1, 1)) rfl rfl rfl ?_
  refine X_iald 79 (by decide +kernel : decode cX7_mile 78 = .ok (.iaload, 1)) rfl rfl g7 r8 h9 ?_
  exact X_iret (by decide +kernel : decode cX7_mile 79 = .ok (.ireturn, 1)) rfl rfl rfl q
theorem kX7_mile_80 {a0 : Nat} {x1 : Int} {o2 : Option Value} {b2 : Nat} (g1 : aKd S a0 = 9) (p3 : aP S a0 8 = some b2) (hd1 : 1 ≤ d) (k : X E (d - 1) fX3_gatesAt 0 [some (.ref b2), some (J x1), none, none] [] S (mI M) (Kr E d fX7_mile 88 [some (.ref a0), some (J x1), o2] [] Q)) (g4 : aKd S b2 = 5) : X E d fX7_mile 80 [some (.ref a0), some (J x1), o2] [] S (mI M) Q := by
  refine X_aload_n 81 (by decide +kernel : decode cX7_mile 80 = .ok (.aload_n 0, 1)) rfl rfl rfl ?_
  refine X_getR 84 (by decide +kernel : decode cX7_mile 81 = .ok (.getfield 48, 3)) rfl rfl (by decide +kernel : aFd 9 48 = some (9, 8, true, false)) g1 p3 ?_
  refine X_iload_n 85 (by decide +kernel : decode cX7_mile 84 = .ok (.iload_n 1, 1)) rfl rfl rfl ?_
  exact X_cv (as := [J x1]) (rest := []) (by decide +kernel : decode cX7_mile 85 = .ok (.invokevirtual 167, 3)) (Or.inl ⟨rfl, rfl, rfl⟩) rfl rfl rfl rfl rfl (Nat.le_of_ble_eq_true rfl) (Or.inr (Or.inr (by rw [g4]; rfl))) hd1 k
theorem kX7_mile_88 {o0 : Option Value} {o1 : Option Value} {o2 : Option Value} {t0 : Int} (q : Q (some (some (J t0))) S (mI M)) : X E d fX7_mile 88 [o0, o1, o2] [J t0] S (mI M) Q := by
  exact X_iret (by decide +kernel : decode cX7_mile 88 = .ok (.ireturn, 1)) rfl rfl rfl q
theorem kX7_mile_89 {a0 : Nat} {x1 : Int} {o2 : Option Value} {b2 : Nat} {b5 : Nat} (g1 : aKd S a0 = 9) (p3 : aP S a0 6 = some b2) (g4 : aKd S b2 = 8) (p6 : aP S b2 5 = some b5) (g7 : aKd S b5 = 100) (r8 : R32 x1) (h9 : (0 : Int) ≤ x1 ∧ x1 < (aN S b5 : Int)) (q : Q (some (some (J (M b5 x1.toNat)))) S (mI M)) : X E d fX7_mile 89 [some (.ref a0), some (J x1), o2] [] S (mI M) Q := by
  refine X_aload_n 90 (by decide +kernel : decode cX7_mile 89 = .ok (.aload_n 0, 1)) rfl rfl rfl ?_
  refine X_getR 93 (by decide +kernel : decode cX7_mile 90 = .ok (.getfield 63, 3)) rfl rfl (by decide +kernel : aFd 9 63 = some (9, 6, true, true)) g1 p3 ?_
  refine X_getR 96 (by decide +kernel : decode cX7_mile 93 = .ok (.getfield 170, 3)) rfl rfl (by decide +kernel : aFd 9 170 = some (8, 5, true, true)) g4 p6 ?_
  refine X_iload_n 97 (by decide +kernel : decode cX7_mile 96 = .ok (.iload_n 1, 1)) rfl rfl rfl ?_
  refine X_iald 98 (by decide +kernel : decode cX7_mile 97 = .ok (.iaload, 1)) rfl rfl g7 r8 h9 ?_
  exact X_iret (by decide +kernel : decode cX7_mile 98 = .ok (.ireturn, 1)) rfl rfl rfl q
theorem kX7_stretch_0 {a0 : Nat} {x1 : Int} {o2 : Option Value} {b2 : Nat} (g1 : aKd S a0 = 9) (p3 : aP S a0 8 = some b2) (g4 : aKd S b2 = 5) (hd1 : 1 ≤ d) (k : X E (d - 1) fX7_isOutside 0 [some (J x1), some (J (M b2 0))] [] S (mI M) (Kr E d fX7_stretch 11 [some (.ref a0), some (J x1), o2] [] Q)) : X E d fX7_stretch 0 [some (.ref a0), some (J x1), o2] [] S (mI M) Q := by
  refine X_iload_n 1 (by decide +kernel : decode cX7_stretch 0 = .ok (.iload_n 1, 1)) rfl rfl rfl ?_
  refine X_aload_n 2 (by decide +kernel : decode cX7_stretch 1 = .ok (.aload_n 0, 1)) rfl rfl rfl ?_
  refine X_getR 5 (by decide +kernel : decode cX7_stretch 2 = .ok (.getfield 48, 3)) rfl rfl (by decide +kernel : aFd 9 48 = some (9, 8, true, false)) g1 p3 ?_
  refine X_getI 8 (by decide +kernel : decode cX7_stretch 5 = .ok (.getfield 131, 3)) rfl rfl (by decide +kernel : aFd 9 131 = some (5, 0, false, false)) g4 ?_
  exact X_cs (as := [J (M b2 0), J x1]) (rest := []) (by decide +kernel : decode cX7_stretch 8 = .ok (.invokestatic 154, 3)) rfl rfl rfl rfl rfl rfl rfl (Nat.le_of_ble_eq_true rfl) hd1 k
theorem kX7_stretch_11 {o0 : Option Value} {o1 : Option Value} {o2 : Option Value} {t0 : Int} (r1 : R32 t0) (k1 : t0 ≠ 0 → X E d fX7_stretch 23 [o0, o1, o2] [] S (mI M) Q) (k2 : t0 = 0 → X E d fX7_stretch 14 [o0, o1, o2] [] S (mI M) Q) : X E d fX7_stretch 11 [o0, o1, o2] [J t0] S (mI M) Q := by
  exact X_ifne 23 14 (by decide +kernel : decode cX7_stretch 11 = .ok (.ifCond .ne 12, 3)) rfl rfl (by decide) r1 k1 k2
theorem kX7_stretch_14 {o0 : Option Value} {o1 : Option Value} {x2 : Int} (hd1 : 1 ≤ d) (k : X E (d - 1) fX7_isOutside 0 [some (J x2), some (J 6)] [] S (mI M) (Kr E d fX7_stretch 20 [o0, o1, some (J x2)] [] Q)) : X E d fX7_stretch 14 [o0, o1, some (J x2)] [] S (mI M) Q := by
  refine X_iload_n 15 (by decide +kernel : decode cX7_stretch 14 = .ok (.iload_n 2, 1)) rfl rfl rfl ?_
  refine X_bipush 17 (6) (by decide +kernel : decode cX7_stretch 15 = .ok (.bipush 6, 2)) rfl rfl (by decide +kernel) ?_
  exact X_cs (as := [J 6, J x2]) (rest := []) (by decide +kernel : decode cX7_stretch 17 = .ok (.invokestatic 154, 3)) rfl rfl rfl rfl rfl rfl rfl (Nat.le_of_ble_eq_true rfl) hd1 k
theorem kX7_stretch_20 {o0 : Option Value} {o1 : Option Value} {o2 : Option Value} {t0 : Int} (r1 : R32 t0) (k1 : t0 = 0 → X E d fX7_stretch 33 [o0, o1, o2] [] S (mI M) Q) (k2 : t0 ≠ 0 → X E d fX7_stretch 23 [o0, o1, o2] [] S (mI M) Q) : X E d fX7_stretch 20 [o0, o1, o2] [J t0] S (mI M) Q := by
  exact X_ifeq 33 23 (by decide +kernel : decode cX7_stretch 20 = .ok (.ifCond .eq 13, 3)) rfl rfl (by decide) r1 k1 k2
theorem kX7_stretch_33 {o0 : Option Value} {o1 : Option Value} {x2 : Int} (r1 : R32 x2) (kd : x2 ≠ 0 ∧ x2 ≠ 1 ∧ x2 ≠ 2 ∧ x2 ≠ 3 ∧ x2 ≠ 4 → X E d fX7_stretch 116 [o0, o1, some (J x2)] [] S (mI M) Q) (k0 : x2 = 0 → X E d fX7_stretch 68 [o0, o1, some (J x2)] [] S (mI M) Q) (k1 : x2 = 1 → X E d fX7_stretch 78 [o0, o1, some (J x2)] [] S (mI M) Q) (k2 : x2 = 2 → X E d fX7_stretch 88 [o0, o1, some (J x2)] [] S (mI M) Q) (k3 : x2 = 3 → X E d fX7_stretch 98 [o0, o1, some (J x2)] [] S (mI M) Q) (k4 : x2 = 4 → X E d fX7_stretch 107 [o0, o1, some (J x2)] [] S (mI M) Q) : X E d fX7_stretch 33 [o0, o1, some (J x2)] [] S (mI M) Q := by
  refine X_iload_n 34 (by decide +kernel : decode cX7_stretch 33 = .ok (.iload_n 2, 1)) rfl rfl rfl ?_
  by_cases hr : x2 < 0 ∨ 4 < x2
  · exact X_tswD 116 (by decide +kernel : decode cX7_stretch 34 = .ok (.tableswitch 82 0 4 #[34, 44, 54, 64, 73], 34)) rfl (by decide) r1 hr (kd (by omega))
  · rcases (by omega : x2 = 0 ∨ x2 = 1 ∨ x2 = 2 ∨ x2 = 3 ∨ x2 = 4) with h | h | h | h | h
    · exact X_tswI 68 0 (by decide +kernel : decode cX7_stretch 34 = .ok (.tableswitch 82 0 4 #[34, 44, 54, 64, 73], 34)) rfl rfl (by decide) r1 (h.trans rfl) (by decide) (k0 h)
    · exact X_tswI 78 1 (by decide +kernel : decode cX7_stretch 34 = .ok (.tableswitch 82 0 4 #[34, 44, 54, 64, 73], 34)) rfl rfl (by decide) r1 (h.trans rfl) (by decide) (k1 h)
    · exact X_tswI 88 2 (by decide +kernel : decode cX7_stretch 34 = .ok (.tableswitch 82 0 4 #[34, 44, 54, 64, 73], 34)) rfl rfl (by decide) r1 (h.trans rfl) (by decide) (k2 h)
    · exact X_tswI 98 3 (by decide +kernel : decode cX7_stretch 34 = .ok (.tableswitch 82 0 4 #[34, 44, 54, 64, 73], 34)) rfl rfl (by decide) r1 (h.trans rfl) (by decide) (k3 h)
    · exact X_tswI 107 4 (by decide +kernel : decode cX7_stretch 34 = .ok (.tableswitch 82 0 4 #[34, 44, 54, 64, 73], 34)) rfl rfl (by decide) r1 (h.trans rfl) (by decide) (k4 h)
theorem kX7_stretch_68 {a0 : Nat} {x1 : Int} {o2 : Option Value} {b2 : Nat} {b5 : Nat} (g1 : aKd S a0 = 9) (p3 : aP S a0 8 = some b2) (g4 : aKd S b2 = 5) (p6 : aP S b2 4 = some b5) (g7 : aKd S b5 = 100) (r8 : R32 x1) (h9 : (0 : Int) ≤ x1 ∧ x1 < (aN S b5 : Int)) (q : Q (some (some (J (M b5 x1.toNat)))) S (mI M)) : X E d fX7_stretch 68 [some (.ref a0), some (J x1), o2] [] S (mI M) Q := by
  refine X_aload_n 69 (by decide +kernel : decode cX7_stretch 68 = .ok (.aload_n 0, 1)) rfl rfl rfl ?_
  refine X_getR 72 (by decide +kernel : decode cX7_stretch 69 = .ok (.getfield 48, 3)) rfl rfl (by decide +kernel : aFd 9 48 = some (9, 8, true, false)) g1 p3 ?_
  refine X_getR 75 (by decide +kernel : decode cX7_stretch 72 = .ok (.getfield 175, 3)) rfl rfl (by decide +kernel : aFd 9 175 = some (5, 4, true, true)) g4 p6 ?_
  refine X_iload_n 76 (by decide +kernel : decode cX7_stretch 75 = .ok (.iload_n 1, 1)) rfl rfl rfl ?_
  refine X_iald 77 (by decide +kernel : decode cX7_stretch 76 = .ok (.iaload, 1)) rfl rfl g7 r8 h9 ?_
  exact X_iret (by decide +kernel : decode cX7_stretch 77 = .ok (.ireturn, 1)) rfl rfl rfl q
theorem kX7_stretch_78 {a0 : Nat} {x1 : Int} {o2 : Option Value} {b2 : Nat} {b5 : Nat} (g1 : aKd S a0 = 9) (p3 : aP S a0 8 = some b2) (g4 : aKd S b2 = 5) (p6 : aP S b2 6 = some b5) (g7 : aKd S b5 = 100) (r8 : R32 x1) (h9 : (0 : Int) ≤ x1 ∧ x1 < (aN S b5 : Int)) (q : Q (some (some (J (M b5 x1.toNat)))) S (mI M)) : X E d fX7_stretch 78 [some (.ref a0), some (J x1), o2] [] S (mI M) Q := by
  refine X_aload_n 79 (by decide +kernel : decode cX7_stretch 78 = .ok (.aload_n 0, 1)) rfl rfl rfl ?_
  refine X_getR 82 (by decide +kernel : decode cX7_stretch 79 = .ok (.getfield 48, 3)) rfl rfl (by decide +kernel : aFd 9 48 = some (9, 8, true, false)) g1 p3 ?_
  refine X_getR 85 (by decide +kernel : decode cX7_stretch 82 = .ok (.getfield 178, 3)) rfl rfl (by decide +kernel : aFd 9 178 = some (5, 6, true, true)) g4 p6 ?_
  refine X_iload_n 86 (by decide +kernel : decode cX7_stretch 85 = .ok (.iload_n 1, 1)) rfl rfl rfl ?_
  refine X_iald 87 (by decide +kernel : decode cX7_stretch 86 = .ok (.iaload, 1)) rfl rfl g7 r8 h9 ?_
  exact X_iret (by decide +kernel : decode cX7_stretch 87 = .ok (.ireturn, 1)) rfl rfl rfl q
theorem kX7_stretch_88 {a0 : Nat} {x1 : Int} {o2 : Option Value} {b2 : Nat} {b5 : Nat} (g1 : aKd S a0 = 9) (p3 : aP S a0 8 = some b2) (g4 : aKd S b2 = 5) (p6 : aP S b2 5 = some b5) (g7 : aKd S b5 = 100) (r8 : R32 x1) (h9 : (0 : Int) ≤ x1 ∧ x1 < (aN S b5 : Int)) (q : Q (some (some (J (M b5 x1.toNat)))) S (mI M)) : X E d fX7_stretch 88 [some (.ref a0), some (J x1), o2] [] S (mI M) Q := by
  refine X_aload_n 89 (by decide +kernel : decode cX7_stretch 88 = .ok (.aload_n 0, 1)) rfl rfl rfl ?_
  refine X_getR 92 (by decide +kernel : decode cX7_stretch 89 = .ok (.getfield 48, 3)) rfl rfl (by decide +kernel : aFd 9 48 = some (9, 8, true, false)) g1 p3 ?_
  refine X_getR 95 (by decide +kernel : decode cX7_stretch 92 = .ok (.getfield 181, 3)) rfl rfl (by decide +kernel : aFd 9 181 = some (5, 5, true, true)) g4 p6 ?_
  refine X_iload_n 96 (by decide +kernel : decode cX7_stretch 95 = .ok (.iload_n 1, 1)) rfl rfl rfl ?_
  refine X_iald 97 (by decide +kernel : decode cX7_stretch 96 = .ok (.iaload, 1)) rfl rfl g7 r8 h9 ?_
  exact X_iret (by decide +kernel : decode cX7_stretch 97 = .ok (.ireturn, 1)) rfl rfl rfl q
theorem kX7_stretch_98 {a0 : Nat} {x1 : Int} {o2 : Option Value} {b2 : Nat} (g1 : aKd S a0 = 9) (p3 : aP S a0 6 = some b2) (hd1 : 1 ≤ d) (k : X E (d - 1) fX6_leastCondition 0 [some (.ref b2), some (J x1), none, none, none, none] [] S (mI M) (Kr E d fX7_stretch 106 [some (.ref a0), some (J x1), o2] [] Q)) (g4 : aKd S b2 = 8) : X E d fX7_stretch 98 [some (.ref a0), some (J x1), o2] [] S (mI M) Q := by
  refine X_aload_n 99 (by decide +kernel : decode cX7_stretch 98 = .ok (.aload_n 0, 1)) rfl rfl rfl ?_
  refine X_getR 102 (by decide +kernel : decode cX7_stretch 99 = .ok (.getfield 63, 3)) rfl rfl (by decide +kernel : aFd 9 63 = some (9, 6, true, true)) g1 p3 ?_
  refine X_iload_n 103 (by decide +kernel : decode cX7_stretch 102 = .ok (.iload_n 1, 1)) rfl rfl rfl ?_
  exact X_cv (as := [J x1]) (rest := []) (by decide +kernel : decode cX7_stretch 103 = .ok (.invokevirtual 184, 3)) (Or.inl ⟨rfl, rfl, rfl⟩) rfl rfl rfl rfl rfl (Nat.le_of_ble_eq_true rfl) (Or.inr (Or.inr (by rw [g4]; rfl))) hd1 k
theorem kX7_stretch_106 {o0 : Option Value} {o1 : Option Value} {o2 : Option Value} {t0 : Int} (q : Q (some (some (J t0))) S (mI M)) : X E d fX7_stretch 106 [o0, o1, o2] [J t0] S (mI M) Q := by
  exact X_iret (by decide +kernel : decode cX7_stretch 106 = .ok (.ireturn, 1)) rfl rfl rfl q
theorem kX7_stretch_107 {a0 : Nat} {x1 : Int} {o2 : Option Value} {b2 : Nat} (g1 : aKd S a0 = 9) (p3 : aP S a0 6 = some b2) (hd1 : 1 ≤ d) (k : X E (d - 1) fX6_brokenMilesOf 0 [some (.ref b2), some (J x1)] [] S (mI M) (Kr E d fX7_stretch 115 [some (.ref a0), some (J x1), o2] [] Q)) (g4 : aKd S b2 = 8) : X E d fX7_stretch 107 [some (.ref a0), some (J x1), o2] [] S (mI M) Q := by
  refine X_aload_n 108 (by decide +kernel : decode cX7_stretch 107 = .ok (.aload_n 0, 1)) rfl rfl rfl ?_
  refine X_getR 111 (by decide +kernel : decode cX7_stretch 108 = .ok (.getfield 63, 3)) rfl rfl (by decide +kernel : aFd 9 63 = some (9, 6, true, true)) g1 p3 ?_
  refine X_iload_n 112 (by decide +kernel : decode cX7_stretch 111 = .ok (.iload_n 1, 1)) rfl rfl rfl ?_
  exact X_cv (as := [J x1]) (rest := []) (by decide +kernel : decode cX7_stretch 112 = .ok (.invokevirtual 187, 3)) (Or.inl ⟨rfl, rfl, rfl⟩) rfl rfl rfl rfl rfl (Nat.le_of_ble_eq_true rfl) (Or.inr (Or.inr (by rw [g4]; rfl))) hd1 k
theorem kX7_stretch_115 {o0 : Option Value} {o1 : Option Value} {o2 : Option Value} {t0 : Int} (q : Q (some (some (J t0))) S (mI M)) : X E d fX7_stretch 115 [o0, o1, o2] [J t0] S (mI M) Q := by
  exact X_iret (by decide +kernel : decode cX7_stretch 115 = .ok (.ireturn, 1)) rfl rfl rfl q
theorem kX7_stretch_116 {a0 : Nat} {x1 : Int} {o2 : Option Value} {b2 : Nat} {b5 : Nat} (g1 : aKd S a0 = 9) (p3 : aP S a0 6 = some b2) (g4 : aKd S b2 = 8) (p6 : aP S b2 6 = some b5) (g7 : aKd S b5 = 100) (r8 : R32 x1) (h9 : (0 : Int) ≤ x1 ∧ x1 < (aN S b5 : Int)) (q : Q (some (some (J (M b5 x1.toNat)))) S (mI M)) : X E d fX7_stretch 116 [some (.ref a0), some (J x1), o2] [] S (mI M) Q := by
  refine X_aload_n 117 (by decide +kernel : decode cX7_stretch 116 = .ok (.aload_n 0, 1)) rfl rfl rfl ?_
  refine X_getR 120 (by decide +kernel : decode cX7_stretch 117 = .ok (.getfield 63, 3)) rfl rfl (by decide +kernel : aFd 9 63 = some (9, 6, true, true)) g1 p3 ?_
  refine X_getR 123 (by decide +kernel : decode cX7_stretch 120 = .ok (.getfield 190, 3)) rfl rfl (by decide +kernel : aFd 9 190 = some (8, 6, true, true)) g4 p6 ?_
  refine X_iload_n 124 (by decide +kernel : decode cX7_stretch 123 = .ok (.iload_n 1, 1)) rfl rfl rfl ?_
  refine X_iald 125 (by decide +kernel : decode cX7_stretch 124 = .ok (.iaload, 1)) rfl rfl g7 r8 h9 ?_
  exact X_iret (by decide +kernel : decode cX7_stretch 125 = .ok (.ireturn, 1)) rfl rfl rfl q
theorem kX7_gate_0 {a0 : Nat} {x1 : Int} {o2 : Option Value} {b2 : Nat} (g1 : aKd S a0 = 9) (p3 : aP S a0 8 = some b2) (g4 : aKd S b2 = 5) (hd1 : 1 ≤ d) (k : X E (d - 1) fX7_isOutside 0 [some (J x1), some (J (M b2 2))] [] S (mI M) (Kr E d fX7_gate 11 [some (.ref a0), some (J x1), o2] [] Q)) : X E d fX7_gate 0 [some (.ref a0), some (J x1), o2] [] S (mI M) Q := by
  refine X_iload_n 1 (by decide +kernel : decode cX7_gate 0 = .ok (.iload_n 1, 1)) rfl rfl rfl ?_
  refine X_aload_n 2 (by decide +kernel : decode cX7_gate 1 = .ok (.aload_n 0, 1)) rfl rfl rfl ?_
  refine X_getR 5 (by decide +kernel : decode cX7_gate 2 = .ok (.getfield 48, 3)) rfl rfl (by decide +kernel : aFd 9 48 = some (9, 8, true, false)) g1 p3 ?_
  refine X_getI 8 (by decide +kernel : decode cX7_gate 5 = .ok (.getfield 137, 3)) rfl rfl (by decide +kernel : aFd 9 137 = some (5, 2, false, false)) g4 ?_
  exact X_cs (as := [J (M b2 2), J x1]) (rest := []) (by decide +kernel : decode cX7_gate 8 = .ok (.invokestatic 154, 3)) rfl rfl rfl rfl rfl rfl rfl (Nat.le_of_ble_eq_true rfl) hd1 k
theorem kX7_gate_11 {o0 : Option Value} {o1 : Option Value} {o2 : Option Value} {t0 : Int} (r1 : R32 t0) (k1 : t0 ≠ 0 → X E d fX7_gate 23 [o0, o1, o2] [] S (mI M) Q) (k2 : t0 = 0 → X E d fX7_gate 14 [o0, o1, o2] [] S (mI M) Q) : X E d fX7_gate 11 [o0, o1, o2] [J t0] S (mI M) Q := by
  exact X_ifne 23 14 (by decide +kernel : decode cX7_gate 11 = .ok (.ifCond .ne 12, 3)) rfl rfl (by decide) r1 k1 k2
theorem kX7_gate_14 {o0 : Option Value} {o1 : Option Value} {x2 : Int} (hd1 : 1 ≤ d) (k : X E (d - 1) fX7_isOutside 0 [some (J x2), some (J 6)] [] S (mI M) (Kr E d fX7_gate 20 [o0, o1, some (J x2)] [] Q)) : X E d fX7_gate 14 [o0, o1, some (J x2)] [] S (mI M) Q := by
  refine X_iload_n 15 (by decide +kernel : decode cX7_gate 14 = .ok (.iload_n 2, 1)) rfl rfl rfl ?_
  refine X_bipush 17 (6) (by decide +kernel : decode cX7_gate 15 = .ok (.bipush 6, 2)) rfl rfl (by decide +kernel) ?_
  exact X_cs (as := [J 6, J x2]) (rest := []) (by decide +kernel : decode cX7_gate 17 = .ok (.invokestatic 154, 3)) rfl rfl rfl rfl rfl rfl rfl (Nat.le_of_ble_eq_true rfl) hd1 k
theorem kX7_gate_20 {o0 : Option Value} {o1 : Option Value} {o2 : Option Value} {t0 : Int} (r1 : R32 t0) (k1 : t0 = 0 → X E d fX7_gate 33 [o0, o1, o2] [] S (mI M) Q) (k2 : t0 ≠ 0 → X E d fX7_gate 23 [o0, o1, o2] [] S (mI M) Q) : X E d fX7_gate 20 [o0, o1, o2] [J t0] S (mI M) Q := by
  exact X_ifeq 33 23 (by decide +kernel : decode cX7_gate 20 = .ok (.ifCond .eq 13, 3)) rfl rfl (by decide) r1 k1 k2
theorem kX7_gate_33 {o0 : Option Value} {o1 : Option Value} {x2 : Int} (r1 : R32 x2) (kd : x2 ≠ 0 ∧ x2 ≠ 1 ∧ x2 ≠ 2 ∧ x2 ≠ 3 ∧ x2 ≠ 4 → X E d fX7_gate 118 [o0, o1, some (J x2)] [] S (mI M) Q) (k0 : x2 = 0 → X E d fX7_gate 68 [o0, o1, some (J x2)] [] S (mI M) Q) (k1 : x2 = 1 → X E d fX7_gate 78 [o0, o1, some (J x2)] [] S (mI M) Q) (k2 : x2 = 2 → X E d fX7_gate 88 [o0, o1, some (J x2)] [] S (mI M) Q) (k3 : x2 = 3 → X E d fX7_gate 98 [o0, o1, some (J x2)] [] S (mI M) Q) (k4 : x2 = 4 → X E d fX7_gate 108 [o0, o1, some (J x2)] [] S (mI M) Q) : X E d fX7_gate 33 [o0, o1, some (J x2)] [] S (mI M) Q := by
  refine X_iload_n 34 (by decide +kernel : decode cX7_gate 33 = .ok (.iload_n 2, 1)) rfl rfl rfl ?_
  by_cases hr : x2 < 0 ∨ 4 < x2
  · exact X_tswD 118 (by decide +kernel : decode cX7_gate 34 = .ok (.tableswitch 84 0 4 #[34, 44, 54, 64, 74], 34)) rfl (by decide) r1 hr (kd (by omega))
  · rcases (by omega : x2 = 0 ∨ x2 = 1 ∨ x2 = 2 ∨ x2 = 3 ∨ x2 = 4) with h | h | h | h | h
    · exact X_tswI 68 0 (by decide +kernel : decode cX7_gate 34 = .ok (.tableswitch 84 0 4 #[34, 44, 54, 64, 74], 34)) rfl rfl (by decide) r1 (h.trans rfl) (by decide) (k0 h)
    · exact X_tswI 78 1 (by decide +kernel : decode cX7_gate 34 = .ok (.tableswitch 84 0 4 #[34, 44, 54, 64, 74], 34)) rfl rfl (by decide) r1 (h.trans rfl) (by decide) (k1 h)
    · exact X_tswI 88 2 (by decide +kernel : decode cX7_gate 34 = .ok (.tableswitch 84 0 4 #[34, 44, 54, 64, 74], 34)) rfl rfl (by decide) r1 (h.trans rfl) (by decide) (k2 h)
    · exact X_tswI 98 3 (by decide +kernel : decode cX7_gate 34 = .ok (.tableswitch 84 0 4 #[34, 44, 54, 64, 74], 34)) rfl rfl (by decide) r1 (h.trans rfl) (by decide) (k3 h)
    · exact X_tswI 108 4 (by decide +kernel : decode cX7_gate 34 = .ok (.tableswitch 84 0 4 #[34, 44, 54, 64, 74], 34)) rfl rfl (by decide) r1 (h.trans rfl) (by decide) (k4 h)
theorem kX7_gate_68 {a0 : Nat} {x1 : Int} {o2 : Option Value} {b2 : Nat} {b5 : Nat} (g1 : aKd S a0 = 9) (p3 : aP S a0 8 = some b2) (g4 : aKd S b2 = 5) (p6 : aP S b2 8 = some b5) (g7 : aKd S b5 = 100) (r8 : R32 x1) (h9 : (0 : Int) ≤ x1 ∧ x1 < (aN S b5 : Int)) (q : Q (some (some (J (M b5 x1.toNat)))) S (mI M)) : X E d fX7_gate 68 [some (.ref a0), some (J x1), o2] [] S (mI M) Q := by
  refine X_aload_n 69 (by decide +kernel : decode cX7_gate 68 = .ok (.aload_n 0, 1)) rfl rfl rfl ?_
  refine X_getR 72 (by decide +kernel : decode cX7_gate 69 = .ok (.getfield 48, 3)) rfl rfl (by decide +kernel : aFd 9 48 = some (9, 8, true, false)) g1 p3 ?_
  refine X_getR 75 (by decide +kernel : decode cX7_gate 72 = .ok (.getfield 195, 3)) rfl rfl (by decide +kernel : aFd 9 195 = some (5, 8, true, true)) g4 p6 ?_
  refine X_iload_n 76 (by decide +kernel : decode cX7_gate 75 = .ok (.iload_n 1, 1)) rfl rfl rfl ?_
  refine X_iald 77 (by decide +kernel : decode cX7_gate 76 = .ok (.iaload, 1)) rfl rfl g7 r8 h9 ?_
  exact X_iret (by decide +kernel : decode cX7_gate 77 = .ok (.ireturn, 1)) rfl rfl rfl q
theorem kX7_gate_78 {a0 : Nat} {x1 : Int} {o2 : Option Value} {b2 : Nat} {b5 : Nat} (g1 : aKd S a0 = 9) (p3 : aP S a0 6 = some b2) (g4 : aKd S b2 = 8) (p6 : aP S b2 7 = some b5) (g7 : aKd S b5 = 100) (r8 : R32 x1) (h9 : (0 : Int) ≤ x1 ∧ x1 < (aN S b5 : Int)) (q : Q (some (some (J (M b5 x1.toNat)))) S (mI M)) : X E d fX7_gate 78 [some (.ref a0), some (J x1), o2] [] S (mI M) Q := by
  refine X_aload_n 79 (by decide +kernel : decode cX7_gate 78 = .ok (.aload_n 0, 1)) rfl rfl rfl ?_
  refine X_getR 82 (by decide +kernel : decode cX7_gate 79 = .ok (.getfield 63, 3)) rfl rfl (by decide +kernel : aFd 9 63 = some (9, 6, true, true)) g1 p3 ?_
  refine X_getR 85 (by decide +kernel : decode cX7_gate 82 = .ok (.getfield 198, 3)) rfl rfl (by decide +kernel : aFd 9 198 = some (8, 7, true, true)) g4 p6 ?_
  refine X_iload_n 86 (by decide +kernel : decode cX7_gate 85 = .ok (.iload_n 1, 1)) rfl rfl rfl ?_
  refine X_iald 87 (by decide +kernel : decode cX7_gate 86 = .ok (.iaload, 1)) rfl rfl g7 r8 h9 ?_
  exact X_iret (by decide +kernel : decode cX7_gate 87 = .ok (.ireturn, 1)) rfl rfl rfl q
theorem kX7_gate_88 {a0 : Nat} {x1 : Int} {o2 : Option Value} {b2 : Nat} {b5 : Nat} (g1 : aKd S a0 = 9) (p3 : aP S a0 6 = some b2) (g4 : aKd S b2 = 8) (p6 : aP S b2 8 = some b5) (g7 : aKd S b5 = 100) (r8 : R32 x1) (h9 : (0 : Int) ≤ x1 ∧ x1 < (aN S b5 : Int)) (q : Q (some (some (J (M b5 x1.toNat)))) S (mI M)) : X E d fX7_gate 88 [some (.ref a0), some (J x1), o2] [] S (mI M) Q := by
  refine X_aload_n 89 (by decide +kernel : decode cX7_gate 88 = .ok (.aload_n 0, 1)) rfl rfl rfl ?_
  refine X_getR 92 (by decide +kernel : decode cX7_gate 89 = .ok (.getfield 63, 3)) rfl rfl (by decide +kernel : aFd 9 63 = some (9, 6, true, true)) g1 p3 ?_
  refine X_getR 95 (by decide +kernel : decode cX7_gate 92 = .ok (.getfield 201, 3)) rfl rfl (by decide +kernel : aFd 9 201 = some (8, 8, true, true)) g4 p6 ?_
  refine X_iload_n 96 (by decide +kernel : decode cX7_gate 95 = .ok (.iload_n 1, 1)) rfl rfl rfl ?_
  refine X_iald 97 (by decide +kernel : decode cX7_gate 96 = .ok (.iaload, 1)) rfl rfl g7 r8 h9 ?_
  exact X_iret (by decide +kernel : decode cX7_gate 97 = .ok (.ireturn, 1)) rfl rfl rfl q
theorem kX7_gate_98 {a0 : Nat} {x1 : Int} {o2 : Option Value} {b2 : Nat} {b5 : Nat} (g1 : aKd S a0 = 9) (p3 : aP S a0 6 = some b2) (g4 : aKd S b2 = 8) (p6 : aP S b2 9 = some b5) (g7 : aKd S b5 = 100) (r8 : R32 x1) (h9 : (0 : Int) ≤ x1 ∧ x1 < (aN S b5 : Int)) (q : Q (some (some (J (M b5 x1.toNat)))) S (mI M)) : X E d fX7_gate 98 [some (.ref a0), some (J x1), o2] [] S (mI M) Q := by
  refine X_aload_n 99 (by decide +kernel : decode cX7_gate 98 = .ok (.aload_n 0, 1)) rfl rfl rfl ?_
  refine X_getR 102 (by decide +kernel : decode cX7_gate 99 = .ok (.getfield 63, 3)) rfl rfl (by decide +kernel : aFd 9 63 = some (9, 6, true, true)) g1 p3 ?_
  refine X_getR 105 (by decide +kernel : decode cX7_gate 102 = .ok (.getfield 204, 3)) rfl rfl (by decide +kernel : aFd 9 204 = some (8, 9, true, true)) g4 p6 ?_
  refine X_iload_n 106 (by decide +kernel : decode cX7_gate 105 = .ok (.iload_n 1, 1)) rfl rfl rfl ?_
  refine X_iald 107 (by decide +kernel : decode cX7_gate 106 = .ok (.iaload, 1)) rfl rfl g7 r8 h9 ?_
  exact X_iret (by decide +kernel : decode cX7_gate 107 = .ok (.ireturn, 1)) rfl rfl rfl q
theorem kX7_gate_108 {a0 : Nat} {x1 : Int} {o2 : Option Value} {b2 : Nat} {b5 : Nat} (g1 : aKd S a0 = 9) (p3 : aP S a0 6 = some b2) (g4 : aKd S b2 = 8) (p6 : aP S b2 10 = some b5) (g7 : aKd S b5 = 100) (r8 : R32 x1) (h9 : (0 : Int) ≤ x1 ∧ x1 < (aN S b5 : Int)) (q : Q (some (some (J (M b5 x1.toNat)))) S (mI M)) : X E d fX7_gate 108 [some (.ref a0), some (J x1), o2] [] S (mI M) Q := by
  refine X_aload_n 109 (by decide +kernel : decode cX7_gate 108 = .ok (.aload_n 0, 1)) rfl rfl rfl ?_
  refine X_getR 112 (by decide +kernel : decode cX7_gate 109 = .ok (.getfield 63, 3)) rfl rfl (by decide +kernel : aFd 9 63 = some (9, 6, true, true)) g1 p3 ?_
  refine X_getR 115 (by decide +kernel : decode cX7_gate 112 = .ok (.getfield 207, 3)) rfl rfl (by decide +kernel : aFd 9 207 = some (8, 10, true, true)) g4 p6 ?_
  refine X_iload_n 116 (by decide +kernel : decode cX7_gate 115 = .ok (.iload_n 1, 1)) rfl rfl rfl ?_
  refine X_iald 117 (by decide +kernel : decode cX7_gate 116 = .ok (.iaload, 1)) rfl rfl g7 r8 h9 ?_
  exact X_iret (by decide +kernel : decode cX7_gate 117 = .ok (.ireturn, 1)) rfl rfl rfl q
theorem kX7_gate_118 {a0 : Nat} {x1 : Int} {o2 : Option Value} {b2 : Nat} {b8 : Nat} (g1 : aKd S a0 = 9) (p3 : aP S a0 8 = some b2) (g7 : aKd S b2 = 5) (p9 : aP S b2 8 = some b8) (g10 : aKd S b8 = 100) (r11 : R32 x1) (h12 : (0 : Int) ≤ x1 ∧ x1 < (aN S b8 : Int)) (hd1 : 1 ≤ d) (k : X E (d - 1) fX3_trafficsBy 0 [some (.ref b2), some (J (M b8 x1.toNat)), none, none, none, none] [] S (mI M) (Kr E d fX7_gate 134 [some (.ref a0), some (J x1), o2] [] Q)) : X E d fX7_gate 118 [some (.ref a0), some (J x1), o2] [] S (mI M) Q := by
  refine X_aload_n 119 (by decide +kernel : decode cX7_gate 118 = .ok (.aload_n 0, 1)) rfl rfl rfl ?_
  refine X_getR 122 (by decide +kernel : decode cX7_gate 119 = .ok (.getfield 48, 3)) rfl rfl (by decide +kernel : aFd 9 48 = some (9, 8, true, false)) g1 p3 ?_
  refine X_aload_n 123 (by decide +kernel : decode cX7_gate 122 = .ok (.aload_n 0, 1)) rfl rfl rfl ?_
  refine X_getR 126 (by decide +kernel : decode cX7_gate 123 = .ok (.getfield 48, 3)) rfl rfl (by decide +kernel : aFd 9 48 = some (9, 8, true, false)) g1 p3 ?_
  refine X_getR 129 (by decide +kernel : decode cX7_gate 126 = .ok (.getfield 195, 3)) rfl rfl (by decide +kernel : aFd 9 195 = some (5, 8, true, true)) g7 p9 ?_
  refine X_iload_n 130 (by decide +kernel : decode cX7_gate 129 = .ok (.iload_n 1, 1)) rfl rfl rfl ?_
  refine X_iald 131 (by decide +kernel : decode cX7_gate 130 = .ok (.iaload, 1)) rfl rfl g10 r11 h12 ?_
  exact X_cv (as := [J (M b8 x1.toNat)]) (rest := []) (by decide +kernel : decode cX7_gate 131 = .ok (.invokevirtual 210, 3)) (Or.inl ⟨rfl, rfl, rfl⟩) rfl rfl rfl rfl rfl (Nat.le_of_ble_eq_true rfl) (Or.inr (Or.inr (by rw [g7]; rfl))) hd1 k
theorem kX7_gate_134 {o0 : Option Value} {o1 : Option Value} {o2 : Option Value} {t0 : Int} (q : Q (some (some (J t0))) S (mI M)) : X E d fX7_gate 134 [o0, o1, o2] [J t0] S (mI M) Q := by
  exact X_iret (by decide +kernel : decode cX7_gate 134 = .ok (.ireturn, 1)) rfl rfl rfl q
theorem kX7_traffic_0 {a0 : Nat} {x1 : Int} {o2 : Option Value} {b2 : Nat} (g1 : aKd S a0 = 9) (p3 : aP S a0 8 = some b2) (g4 : aKd S b2 = 5) (hd1 : 1 ≤ d) (k : X E (d - 1) fX7_isOutside 0 [some (J x1), some (J (M b2 3))] [] S (mI M) (Kr E d fX7_traffic 11 [some (.ref a0), some (J x1), o2] [] Q)) : X E d fX7_traffic 0 [some (.ref a0), some (J x1), o2] [] S (mI M) Q := by
  refine X_iload_n 1 (by decide +kernel : decode cX7_traffic 0 = .ok (.iload_n 1, 1)) rfl rfl rfl ?_
  refine X_aload_n 2 (by decide +kernel : decode cX7_traffic 1 = .ok (.aload_n 0, 1)) rfl rfl rfl ?_
  refine X_getR 5 (by decide +kernel : decode cX7_traffic 2 = .ok (.getfield 48, 3)) rfl rfl (by decide +kernel : aFd 9 48 = some (9, 8, true, false)) g1 p3 ?_
  refine X_getI 8 (by decide +kernel : decode cX7_traffic 5 = .ok (.getfield 140, 3)) rfl rfl (by decide +kernel : aFd 9 140 = some (5, 3, false, false)) g4 ?_
  exact X_cs (as := [J (M b2 3), J x1]) (rest := []) (by decide +kernel : decode cX7_traffic 8 = .ok (.invokestatic 154, 3)) rfl rfl rfl rfl rfl rfl rfl (Nat.le_of_ble_eq_true rfl) hd1 k
theorem kX7_traffic_11 {o0 : Option Value} {o1 : Option Value} {o2 : Option Value} {t0 : Int} (r1 : R32 t0) (k1 : t0 ≠ 0 → X E d fX7_traffic 23 [o0, o1, o2] [] S (mI M) Q) (k2 : t0 = 0 → X E d fX7_traffic 14 [o0, o1, o2] [] S (mI M) Q) : X E d fX7_traffic 11 [o0, o1, o2] [J t0] S (mI M) Q := by
  exact X_ifne 23 14 (by decide +kernel : decode cX7_traffic 11 = .ok (.ifCond .ne 12, 3)) rfl rfl (by decide) r1 k1 k2
theorem kX7_traffic_14 {o0 : Option Value} {o1 : Option Value} {x2 : Int} (hd1 : 1 ≤ d) (k : X E (d - 1) fX7_isOutside 0 [some (J x2), some (J 8)] [] S (mI M) (Kr E d fX7_traffic 20 [o0, o1, some (J x2)] [] Q)) : X E d fX7_traffic 14 [o0, o1, some (J x2)] [] S (mI M) Q := by
  refine X_iload_n 15 (by decide +kernel : decode cX7_traffic 14 = .ok (.iload_n 2, 1)) rfl rfl rfl ?_
  refine X_bipush 17 (8) (by decide +kernel : decode cX7_traffic 15 = .ok (.bipush 8, 2)) rfl rfl (by decide +kernel) ?_
  exact X_cs (as := [J 8, J x2]) (rest := []) (by decide +kernel : decode cX7_traffic 17 = .ok (.invokestatic 154, 3)) rfl rfl rfl rfl rfl rfl rfl (Nat.le_of_ble_eq_true rfl) hd1 k
theorem kX7_traffic_20 {o0 : Option Value} {o1 : Option Value} {o2 : Option Value} {t0 : Int} (r1 : R32 t0) (k1 : t0 = 0 → X E d fX7_traffic 33 [o0, o1, o2] [] S (mI M) Q) (k2 : t0 ≠ 0 → X E d fX7_traffic 23 [o0, o1, o2] [] S (mI M) Q) : X E d fX7_traffic 20 [o0, o1, o2] [J t0] S (mI M) Q := by
  exact X_ifeq 33 23 (by decide +kernel : decode cX7_traffic 20 = .ok (.ifCond .eq 13, 3)) rfl rfl (by decide) r1 k1 k2
theorem kX7_traffic_33 {o0 : Option Value} {o1 : Option Value} {x2 : Int} (r1 : R32 x2) (kd : x2 ≠ 0 ∧ x2 ≠ 1 ∧ x2 ≠ 2 ∧ x2 ≠ 3 ∧ x2 ≠ 4 ∧ x2 ≠ 5 ∧ x2 ≠ 6 → X E d fX7_traffic 146 [o0, o1, some (J x2)] [] S (mI M) Q) (k0 : x2 = 0 → X E d fX7_traffic 76 [o0, o1, some (J x2)] [] S (mI M) Q) (k1 : x2 = 1 → X E d fX7_traffic 86 [o0, o1, some (J x2)] [] S (mI M) Q) (k2 : x2 = 2 → X E d fX7_traffic 96 [o0, o1, some (J x2)] [] S (mI M) Q) (k3 : x2 = 3 → X E d fX7_traffic 106 [o0, o1, some (J x2)] [] S (mI M) Q) (k4 : x2 = 4 → X E d fX7_traffic 116 [o0, o1, some (J x2)] [] S (mI M) Q) (k5 : x2 = 5 → X E d fX7_traffic 126 [o0, o1, some (J x2)] [] S (mI M) Q) (k6 : x2 = 6 → X E d fX7_traffic 136 [o0, o1, some (J x2)] [] S (mI M) Q) : X E d fX7_traffic 33 [o0, o1, some (J x2)] [] S (mI M) Q := by
  refine X_iload_n 34 (by decide +kernel : decode cX7_traffic 33 = .ok (.iload_n 2, 1)) rfl rfl rfl ?_
  by_cases hr : x2 < 0 ∨ 6 < x2
  · exact X_tswD 146 (by decide +kernel : decode cX7_traffic 34 = .ok (.tableswitch 112 0 6 #[42, 52, 62, 72, 82, 92, 102], 42)) rfl (by decide) r1 hr (kd (by omega))
  · rcases (by omega : x2 = 0 ∨ x2 = 1 ∨ x2 = 2 ∨ x2 = 3 ∨ x2 = 4 ∨ x2 = 5 ∨ x2 = 6) with h | h | h | h | h | h | h
    · exact X_tswI 76 0 (by decide +kernel : decode cX7_traffic 34 = .ok (.tableswitch 112 0 6 #[42, 52, 62, 72, 82, 92, 102], 42)) rfl rfl (by decide) r1 (h.trans rfl) (by decide) (k0 h)
    · exact X_tswI 86 1 (by decide +kernel : decode cX7_traffic 34 = .ok (.tableswitch 112 0 6 #[42, 52, 62, 72, 82, 92, 102], 42)) rfl rfl (by decide) r1 (h.trans rfl) (by decide) (k1 h)
    · exact X_tswI 96 2 (by decide +kernel : decode cX7_traffic 34 = .ok (.tableswitch 112 0 6 #[42, 52, 62, 72, 82, 92, 102], 42)) rfl rfl (by decide) r1 (h.trans rfl) (by decide) (k2 h)
    · exact X_tswI 106 3 (by decide +kernel : decode cX7_traffic 34 = .ok (.tableswitch 112 0 6 #[42, 52, 62, 72, 82, 92, 102], 42)) rfl rfl (by decide) r1 (h.trans rfl) (by decide) (k3 h)
    · exact X_tswI 116 4 (by decide +kernel : decode cX7_traffic 34 = .ok (.tableswitch 112 0 6 #[42, 52, 62, 72, 82, 92, 102], 42)) rfl rfl (by decide) r1 (h.trans rfl) (by decide) (k4 h)
    · exact X_tswI 126 5 (by decide +kernel : decode cX7_traffic 34 = .ok (.tableswitch 112 0 6 #[42, 52, 62, 72, 82, 92, 102], 42)) rfl rfl (by decide) r1 (h.trans rfl) (by decide) (k5 h)
    · exact X_tswI 136 6 (by decide +kernel : decode cX7_traffic 34 = .ok (.tableswitch 112 0 6 #[42, 52, 62, 72, 82, 92, 102], 42)) rfl rfl (by decide) r1 (h.trans rfl) (by decide) (k6 h)
theorem kX7_traffic_76 {a0 : Nat} {x1 : Int} {o2 : Option Value} {b2 : Nat} {b5 : Nat} (g1 : aKd S a0 = 9) (p3 : aP S a0 8 = some b2) (g4 : aKd S b2 = 5) (p6 : aP S b2 10 = some b5) (g7 : aKd S b5 = 100) (r8 : R32 x1) (h9 : (0 : Int) ≤ x1 ∧ x1 < (aN S b5 : Int)) (q : Q (some (some (J (M b5 x1.toNat)))) S (mI M)) : X E d fX7_traffic 76 [some (.ref a0), some (J x1), o2] [] S (mI M) Q := by
  refine X_aload_n 77 (by decide +kernel : decode cX7_traffic 76 = .ok (.aload_n 0, 1)) rfl rfl rfl ?_
  refine X_getR 80 (by decide +kernel : decode cX7_traffic 77 = .ok (.getfield 48, 3)) rfl rfl (by decide +kernel : aFd 9 48 = some (9, 8, true, false)) g1 p3 ?_
  refine X_getR 83 (by decide +kernel : decode cX7_traffic 80 = .ok (.getfield 215, 3)) rfl rfl (by decide +kernel : aFd 9 215 = some (5, 10, true, true)) g4 p6 ?_
  refine X_iload_n 84 (by decide +kernel : decode cX7_traffic 83 = .ok (.iload_n 1, 1)) rfl rfl rfl ?_
  refine X_iald 85 (by decide +kernel : decode cX7_traffic 84 = .ok (.iaload, 1)) rfl rfl g7 r8 h9 ?_
  exact X_iret (by decide +kernel : decode cX7_traffic 85 = .ok (.ireturn, 1)) rfl rfl rfl q
theorem kX7_traffic_86 {a0 : Nat} {x1 : Int} {o2 : Option Value} {b2 : Nat} {b5 : Nat} (g1 : aKd S a0 = 9) (p3 : aP S a0 6 = some b2) (g4 : aKd S b2 = 8) (p6 : aP S b2 12 = some b5) (g7 : aKd S b5 = 100) (r8 : R32 x1) (h9 : (0 : Int) ≤ x1 ∧ x1 < (aN S b5 : Int)) (q : Q (some (some (J (M b5 x1.toNat)))) S (mI M)) : X E d fX7_traffic 86 [some (.ref a0), some (J x1), o2] [] S (mI M) Q := by
  refine X_aload_n 87 (by decide +kernel : decode cX7_traffic 86 = .ok (.aload_n 0, 1)) rfl rfl rfl ?_
  refine X_getR 90 (by decide +kernel : decode cX7_traffic 87 = .ok (.getfield 63, 3)) rfl rfl (by decide +kernel : aFd 9 63 = some (9, 6, true, true)) g1 p3 ?_
  refine X_getR 93 (by decide +kernel : decode cX7_traffic 90 = .ok (.getfield 218, 3)) rfl rfl (by decide +kernel : aFd 9 218 = some (8, 12, true, true)) g4 p6 ?_
  refine X_iload_n 94 (by decide +kernel : decode cX7_traffic 93 = .ok (.iload_n 1, 1)) rfl rfl rfl ?_
  refine X_iald 95 (by decide +kernel : decode cX7_traffic 94 = .ok (.iaload, 1)) rfl rfl g7 r8 h9 ?_
  exact X_iret (by decide +kernel : decode cX7_traffic 95 = .ok (.ireturn, 1)) rfl rfl rfl q
theorem kX7_traffic_96 {a0 : Nat} {x1 : Int} {o2 : Option Value} {b2 : Nat} {b5 : Nat} (g1 : aKd S a0 = 9) (p3 : aP S a0 8 = some b2) (g4 : aKd S b2 = 5) (p6 : aP S b2 12 = some b5) (g7 : aKd S b5 = 100) (r8 : R32 x1) (h9 : (0 : Int) ≤ x1 ∧ x1 < (aN S b5 : Int)) (q : Q (some (some (J (M b5 x1.toNat)))) S (mI M)) : X E d fX7_traffic 96 [some (.ref a0), some (J x1), o2] [] S (mI M) Q := by
  refine X_aload_n 97 (by decide +kernel : decode cX7_traffic 96 = .ok (.aload_n 0, 1)) rfl rfl rfl ?_
  refine X_getR 100 (by decide +kernel : decode cX7_traffic 97 = .ok (.getfield 48, 3)) rfl rfl (by decide +kernel : aFd 9 48 = some (9, 8, true, false)) g1 p3 ?_
  refine X_getR 103 (by decide +kernel : decode cX7_traffic 100 = .ok (.getfield 221, 3)) rfl rfl (by decide +kernel : aFd 9 221 = some (5, 12, true, true)) g4 p6 ?_
  refine X_iload_n 104 (by decide +kernel : decode cX7_traffic 103 = .ok (.iload_n 1, 1)) rfl rfl rfl ?_
  refine X_iald 105 (by decide +kernel : decode cX7_traffic 104 = .ok (.iaload, 1)) rfl rfl g7 r8 h9 ?_
  exact X_iret (by decide +kernel : decode cX7_traffic 105 = .ok (.ireturn, 1)) rfl rfl rfl q
theorem kX7_traffic_106 {a0 : Nat} {x1 : Int} {o2 : Option Value} {b2 : Nat} {b5 : Nat} (g1 : aKd S a0 = 9) (p3 : aP S a0 8 = some b2) (g4 : aKd S b2 = 5) (p6 : aP S b2 13 = some b5) (g7 : aKd S b5 = 100) (r8 : R32 x1) (h9 : (0 : Int) ≤ x1 ∧ x1 < (aN S b5 : Int)) (q : Q (some (some (J (M b5 x1.toNat)))) S (mI M)) : X E d fX7_traffic 106 [some (.ref a0), some (J x1), o2] [] S (mI M) Q := by
  refine X_aload_n 107 (by decide +kernel : decode cX7_traffic 106 = .ok (.aload_n 0, 1)) rfl rfl rfl ?_
  refine X_getR 110 (by decide +kernel : decode cX7_traffic 107 = .ok (.getfield 48, 3)) rfl rfl (by decide +kernel : aFd 9 48 = some (9, 8, true, false)) g1 p3 ?_
  refine X_getR 113 (by decide +kernel : decode cX7_traffic 110 = .ok (.getfield 224, 3)) rfl rfl (by decide +kernel : aFd 9 224 = some (5, 13, true, true)) g4 p6 ?_
  refine X_iload_n 114 (by decide +kernel : decode cX7_traffic 113 = .ok (.iload_n 1, 1)) rfl rfl rfl ?_
  refine X_iald 115 (by decide +kernel : decode cX7_traffic 114 = .ok (.iaload, 1)) rfl rfl g7 r8 h9 ?_
  exact X_iret (by decide +kernel : decode cX7_traffic 115 = .ok (.ireturn, 1)) rfl rfl rfl q
theorem kX7_traffic_116 {a0 : Nat} {x1 : Int} {o2 : Option Value} {b2 : Nat} {b5 : Nat} (g1 : aKd S a0 = 9) (p3 : aP S a0 8 = some b2) (g4 : aKd S b2 = 5) (p6 : aP S b2 14 = some b5) (g7 : aKd S b5 = 100) (r8 : R32 x1) (h9 : (0 : Int) ≤ x1 ∧ x1 < (aN S b5 : Int)) (q : Q (some (some (J (M b5 x1.toNat)))) S (mI M)) : X E d fX7_traffic 116 [some (.ref a0), some (J x1), o2] [] S (mI M) Q := by
  refine X_aload_n 117 (by decide +kernel : decode cX7_traffic 116 = .ok (.aload_n 0, 1)) rfl rfl rfl ?_
  refine X_getR 120 (by decide +kernel : decode cX7_traffic 117 = .ok (.getfield 48, 3)) rfl rfl (by decide +kernel : aFd 9 48 = some (9, 8, true, false)) g1 p3 ?_
  refine X_getR 123 (by decide +kernel : decode cX7_traffic 120 = .ok (.getfield 227, 3)) rfl rfl (by decide +kernel : aFd 9 227 = some (5, 14, true, true)) g4 p6 ?_
  refine X_iload_n 124 (by decide +kernel : decode cX7_traffic 123 = .ok (.iload_n 1, 1)) rfl rfl rfl ?_
  refine X_iald 125 (by decide +kernel : decode cX7_traffic 124 = .ok (.iaload, 1)) rfl rfl g7 r8 h9 ?_
  exact X_iret (by decide +kernel : decode cX7_traffic 125 = .ok (.ireturn, 1)) rfl rfl rfl q
theorem kX7_traffic_126 {a0 : Nat} {x1 : Int} {o2 : Option Value} {b2 : Nat} {b5 : Nat} (g1 : aKd S a0 = 9) (p3 : aP S a0 6 = some b2) (g4 : aKd S b2 = 8) (p6 : aP S b2 13 = some b5) (g7 : aKd S b5 = 100) (r8 : R32 x1) (h9 : (0 : Int) ≤ x1 ∧ x1 < (aN S b5 : Int)) (q : Q (some (some (J (M b5 x1.toNat)))) S (mI M)) : X E d fX7_traffic 126 [some (.ref a0), some (J x1), o2] [] S (mI M) Q := by
  refine X_aload_n 127 (by decide +kernel : decode cX7_traffic 126 = .ok (.aload_n 0, 1)) rfl rfl rfl ?_
  refine X_getR 130 (by decide +kernel : decode cX7_traffic 127 = .ok (.getfield 63, 3)) rfl rfl (by decide +kernel : aFd 9 63 = some (9, 6, true, true)) g1 p3 ?_
  refine X_getR 133 (by decide +kernel : decode cX7_traffic 130 = .ok (.getfield 230, 3)) rfl rfl (by decide +kernel : aFd 9 230 = some (8, 13, true, true)) g4 p6 ?_
  refine X_iload_n 134 (by decide +kernel : decode cX7_traffic 133 = .ok (.iload_n 1, 1)) rfl rfl rfl ?_
  refine X_iald 135 (by decide +kernel : decode cX7_traffic 134 = .ok (.iaload, 1)) rfl rfl g7 r8 h9 ?_
  exact X_iret (by decide +kernel : decode cX7_traffic 135 = .ok (.ireturn, 1)) rfl rfl rfl q
theorem kX7_traffic_136 {a0 : Nat} {x1 : Int} {o2 : Option Value} {b2 : Nat} {b5 : Nat} (g1 : aKd S a0 = 9) (p3 : aP S a0 6 = some b2) (g4 : aKd S b2 = 8) (p6 : aP S b2 14 = some b5) (g7 : aKd S b5 = 100) (r8 : R32 x1) (h9 : (0 : Int) ≤ x1 ∧ x1 < (aN S b5 : Int)) (q : Q (some (some (J (M b5 x1.toNat)))) S (mI M)) : X E d fX7_traffic 136 [some (.ref a0), some (J x1), o2] [] S (mI M) Q := by
  refine X_aload_n 137 (by decide +kernel : decode cX7_traffic 136 = .ok (.aload_n 0, 1)) rfl rfl rfl ?_
  refine X_getR 140 (by decide +kernel : decode cX7_traffic 137 = .ok (.getfield 63, 3)) rfl rfl (by decide +kernel : aFd 9 63 = some (9, 6, true, true)) g1 p3 ?_
  refine X_getR 143 (by decide +kernel : decode cX7_traffic 140 = .ok (.getfield 233, 3)) rfl rfl (by decide +kernel : aFd 9 233 = some (8, 14, true, true)) g4 p6 ?_
  refine X_iload_n 144 (by decide +kernel : decode cX7_traffic 143 = .ok (.iload_n 1, 1)) rfl rfl rfl ?_
  refine X_iald 145 (by decide +kernel : decode cX7_traffic 144 = .ok (.iaload, 1)) rfl rfl g7 r8 h9 ?_
  exact X_iret (by decide +kernel : decode cX7_traffic 145 = .ok (.ireturn, 1)) rfl rfl rfl q
theorem kX7_traffic_146 {a0 : Nat} {x1 : Int} {o2 : Option Value} {b2 : Nat} {b5 : Nat} (g1 : aKd S a0 = 9) (p3 : aP S a0 6 = some b2) (g4 : aKd S b2 = 8) (p6 : aP S b2 15 = some b5) (g7 : aKd S b5 = 100) (r8 : R32 x1) (h9 : (0 : Int) ≤ x1 ∧ x1 < (aN S b5 : Int)) (q : Q (some (some (J (M b5 x1.toNat)))) S (mI M)) : X E d fX7_traffic 146 [some (.ref a0), some (J x1), o2] [] S (mI M) Q := by
  refine X_aload_n 147 (by decide +kernel : decode cX7_traffic 146 = .ok (.aload_n 0, 1)) rfl rfl rfl ?_
  refine X_getR 150 (by decide +kernel : decode cX7_traffic 147 = .ok (.getfield 63, 3)) rfl rfl (by decide +kernel : aFd 9 63 = some (9, 6, true, true)) g1 p3 ?_
  refine X_getR 153 (by decide +kernel : decode cX7_traffic 150 = .ok (.getfield 236, 3)) rfl rfl (by decide +kernel : aFd 9 236 = some (8, 15, true, true)) g4 p6 ?_
  refine X_iload_n 154 (by decide +kernel : decode cX7_traffic 153 = .ok (.iload_n 1, 1)) rfl rfl rfl ?_
  refine X_iald 155 (by decide +kernel : decode cX7_traffic 154 = .ok (.iaload, 1)) rfl rfl g7 r8 h9 ?_
  exact X_iret (by decide +kernel : decode cX7_traffic 155 = .ok (.ireturn, 1)) rfl rfl rfl q
theorem kX7_toll_0 {a0 : Nat} {x1 : Int} {o2 : Option Value} {b2 : Nat} (g1 : aKd S a0 = 9) (p3 : aP S a0 8 = some b2) (g4 : aKd S b2 = 5) (hd1 : 1 ≤ d) (k : X E (d - 1) fX7_isOutside 0 [some (J x1), some (J (M b2 3))] [] S (mI M) (Kr E d fX7_toll 11 [some (.ref a0), some (J x1), o2] [] Q)) : X E d fX7_toll 0 [some (.ref a0), some (J x1), o2] [] S (mI M) Q := by
  refine X_iload_n 1 (by decide +kernel : decode cX7_toll 0 = .ok (.iload_n 1, 1)) rfl rfl rfl ?_
  refine X_aload_n 2 (by decide +kernel : decode cX7_toll 1 = .ok (.aload_n 0, 1)) rfl rfl rfl ?_
  refine X_getR 5 (by decide +kernel : decode cX7_toll 2 = .ok (.getfield 48, 3)) rfl rfl (by decide +kernel : aFd 9 48 = some (9, 8, true, false)) g1 p3 ?_
  refine X_getI 8 (by decide +kernel : decode cX7_toll 5 = .ok (.getfield 140, 3)) rfl rfl (by decide +kernel : aFd 9 140 = some (5, 3, false, false)) g4 ?_
  exact X_cs (as := [J (M b2 3), J x1]) (rest := []) (by decide +kernel : decode cX7_toll 8 = .ok (.invokestatic 154, 3)) rfl rfl rfl rfl rfl rfl rfl (Nat.le_of_ble_eq_true rfl) hd1 k
theorem kX7_toll_11 {o0 : Option Value} {o1 : Option Value} {o2 : Option Value} {t0 : Int} (r1 : R32 t0) (k1 : t0 ≠ 0 → X E d fX7_toll 28 [o0, o1, o2] [] S (mI M) Q) (k2 : t0 = 0 → X E d fX7_toll 14 [o0, o1, o2] [] S (mI M) Q) : X E d fX7_toll 11 [o0, o1, o2] [J t0] S (mI M) Q := by
  exact X_ifne 28 14 (by decide +kernel : decode cX7_toll 11 = .ok (.ifCond .ne 17, 3)) rfl rfl (by decide) r1 k1 k2
theorem kX7_toll_14 {a0 : Nat} {o1 : Option Value} {x2 : Int} {b2 : Nat} (g1 : aKd S a0 = 9) (p3 : aP S a0 8 = some b2) (g4 : aKd S b2 = 5) (hd1 : 1 ≤ d) (k : X E (d - 1) fX7_isOutside 0 [some (J x2), some (J (M b2 2))] [] S (mI M) (Kr E d fX7_toll 25 [some (.ref a0), o1, some (J x2)] [] Q)) : X E d fX7_toll 14 [some (.ref a0), o1, some (J x2)] [] S (mI M) Q := by
  refine X_iload_n 15 (by decide +kernel : decode cX7_toll 14 = .ok (.iload_n 2, 1)) rfl rfl rfl ?_
  refine X_aload_n 16 (by decide +kernel : decode cX7_toll 15 = .ok (.aload_n 0, 1)) rfl rfl rfl ?_
  refine X_getR 19 (by decide +kernel : decode cX7_toll 16 = .ok (.getfield 48, 3)) rfl rfl (by decide +kernel : aFd 9 48 = some (9, 8, true, false)) g1 p3 ?_
  refine X_getI 22 (by decide +kernel : decode cX7_toll 19 = .ok (.getfield 137, 3)) rfl rfl (by decide +kernel : aFd 9 137 = some (5, 2, false, false)) g4 ?_
  exact X_cs (as := [J (M b2 2), J x2]) (rest := []) (by decide +kernel : decode cX7_toll 22 = .ok (.invokestatic 154, 3)) rfl rfl rfl rfl rfl rfl rfl (Nat.le_of_ble_eq_true rfl) hd1 k
theorem kX7_toll_25 {o0 : Option Value} {o1 : Option Value} {o2 : Option Value} {t0 : Int} (r1 : R32 t0) (k1 : t0 = 0 → X E d fX7_toll 38 [o0, o1, o2] [] S (mI M) Q) (k2 : t0 ≠ 0 → X E d fX7_toll 28 [o0, o1, o2] [] S (mI M) Q) : X E d fX7_toll 25 [o0, o1, o2] [J t0] S (mI M) Q := by
  exact X_ifeq 38 28 (by decide +kernel : decode cX7_toll 25 = .ok (.ifCond .eq 13, 3)) rfl rfl (by decide) r1 k1 k2
theorem kX7_toll_38 {a0 : Nat} {x1 : Int} {x2 : Int} {b2 : Nat} (g1 : aKd S a0 = 9) (p3 : aP S a0 6 = some b2) (hd1 : 1 ≤ d) (k : X E (d - 1) fX6_tollOf 0 [some (.ref b2), some (J x1), some (J x2)] [] S (mI M) (Kr E d fX7_toll 47 [some (.ref a0), some (J x1), some (J x2)] [] Q)) (g4 : aKd S b2 = 8) : X E d fX7_toll 38 [some (.ref a0), some (J x1), some (J x2)] [] S (mI M) Q := by
  refine X_aload_n 39 (by decide +kernel : decode cX7_toll 38 = .ok (.aload_n 0, 1)) rfl rfl rfl ?_
  refine X_getR 42 (by decide +kernel : decode cX7_toll 39 = .ok (.getfield 63, 3)) rfl rfl (by decide +kernel : aFd 9 63 = some (9, 6, true, true)) g1 p3 ?_
  refine X_iload_n 43 (by decide +kernel : decode cX7_toll 42 = .ok (.iload_n 1, 1)) rfl rfl rfl ?_
  refine X_iload_n 44 (by decide +kernel : decode cX7_toll 43 = .ok (.iload_n 2, 1)) rfl rfl rfl ?_
  exact X_cv (as := [J x2, J x1]) (rest := []) (by decide +kernel : decode cX7_toll 44 = .ok (.invokevirtual 241, 3)) (Or.inl ⟨rfl, rfl, rfl⟩) rfl rfl rfl rfl rfl (Nat.le_of_ble_eq_true rfl) (Or.inr (Or.inr (by rw [g4]; rfl))) hd1 k
theorem kX7_toll_47 {o0 : Option Value} {o1 : Option Value} {o2 : Option Value} {t0 : Int} (q : Q (some (some (J t0))) S (mI M)) : X E d fX7_toll 47 [o0, o1, o2] [J t0] S (mI M) Q := by
  exact X_iret (by decide +kernel : decode cX7_toll 47 = .ok (.ireturn, 1)) rfl rfl rfl q
theorem kX7_journey_0 {a0 : Nat} {x1 : Int} {o2 : Option Value} {o3 : Option Value} {b2 : Nat} (g1 : aKd S a0 = 9) (p3 : aP S a0 8 = some b2) (g4 : aKd S b2 = 5) (hd1 : 1 ≤ d) (k : X E (d - 1) fX7_isOutside 0 [some (J x1), some (J (M b2 3))] [] S (mI M) (Kr E d fX7_journey 11 [some (.ref a0), some (J x1), o2, o3] [] Q)) : X E d fX7_journey 0 [some (.ref a0), some (J x1), o2, o3] [] S (mI M) Q := by
  refine X_iload_n 1 (by decide +kernel : decode cX7_journey 0 = .ok (.iload_n 1, 1)) rfl rfl rfl ?_
  refine X_aload_n 2 (by decide +kernel : decode cX7_journey 1 = .ok (.aload_n 0, 1)) rfl rfl rfl ?_
  refine X_getR 5 (by decide +kernel : decode cX7_journey 2 = .ok (.getfield 48, 3)) rfl rfl (by decide +kernel : aFd 9 48 = some (9, 8, true, false)) g1 p3 ?_
  refine X_getI 8 (by decide +kernel : decode cX7_journey 5 = .ok (.getfield 140, 3)) rfl rfl (by decide +kernel : aFd 9 140 = some (5, 3, false, false)) g4 ?_
  exact X_cs (as := [J (M b2 3), J x1]) (rest := []) (by decide +kernel : decode cX7_journey 8 = .ok (.invokestatic 154, 3)) rfl rfl rfl rfl rfl rfl rfl (Nat.le_of_ble_eq_true rfl) hd1 k
theorem kX7_journey_11 {o0 : Option Value} {o1 : Option Value} {o2 : Option Value} {o3 : Option Value} {t0 : Int} (r1 : R32 t0) (k1 : t0 ≠ 0 → X E d fX7_journey 22 [o0, o1, o2, o3] [] S (mI M) Q) (k2 : t0 = 0 → X E d fX7_journey 14 [o0, o1, o2, o3] [] S (mI M) Q) : X E d fX7_journey 11 [o0, o1, o2, o3] [J t0] S (mI M) Q := by
  exact X_ifne 22 14 (by decide +kernel : decode cX7_journey 11 = .ok (.ifCond .ne 11, 3)) rfl rfl (by decide) r1 k1 k2
theorem kX7_journey_14 {o0 : Option Value} {o1 : Option Value} {x2 : Int} {o3 : Option Value} (hd1 : 1 ≤ d) (k : X E (d - 1) fX7_isOutside 0 [some (J x2), some (J 3)] [] S (mI M) (Kr E d fX7_journey 19 [o0, o1, some (J x2), o3] [] Q)) : X E d fX7_journey 14 [o0, o1, some (J x2), o3] [] S (mI M) Q := by
  refine X_iload_n 15 (by decide +kernel : decode cX7_journey 14 = .ok (.iload_n 2, 1)) rfl rfl rfl ?_
  refine X_iconst 16 (by decide +kernel : decode cX7_journey 15 = .ok (.iconst 3, 1)) rfl rfl ?_
  exact X_cs (as := [J 3, J x2]) (rest := []) (by decide +kernel : decode cX7_journey 16 = .ok (.invokestatic 154, 3)) rfl rfl rfl rfl rfl rfl rfl (Nat.le_of_ble_eq_true rfl) hd1 k
theorem kX7_journey_19 {o0 : Option Value} {o1 : Option Value} {o2 : Option Value} {o3 : Option Value} {t0 : Int} (r1 : R32 t0) (k1 : t0 = 0 → X E d fX7_journey 32 [o0, o1, o2, o3] [] S (mI M) Q) (k2 : t0 ≠ 0 → X E d fX7_journey 22 [o0, o1, o2, o3] [] S (mI M) Q) : X E d fX7_journey 19 [o0, o1, o2, o3] [J t0] S (mI M) Q := by
  exact X_ifeq 32 22 (by decide +kernel : decode cX7_journey 19 = .ok (.ifCond .eq 13, 3)) rfl rfl (by decide) r1 k1 k2
theorem kX7_journey_32 {a0 : Nat} {o1 : Option Value} {o2 : Option Value} {o3 : Option Value} {b2 : Nat} {b5 : Nat} (g1 : aKd S a0 = 9) (p3 : aP S a0 7 = some b2) (p6 : aP S a0 6 = some b5) (hd1 : 1 ≤ d) (k : X E (d - 1) fX6_copyFrom 0 [some (.ref b2), some (.ref b5)] [] S (mI M) (Kr E d fX7_journey 43 [some (.ref a0), o1, o2, o3] [] Q)) (g7 : aKd S b2 = 8) : X E d fX7_journey 32 [some (.ref a0), o1, o2, o3] [] S (mI M) Q := by
  refine X_aload_n 33 (by decide +kernel : decode cX7_journey 32 = .ok (.aload_n 0, 1)) rfl rfl rfl ?_
  refine X_getR 36 (by decide +kernel : decode cX7_journey 33 = .ok (.getfield 67, 3)) rfl rfl (by decide +kernel : aFd 9 67 = some (9, 7, true, true)) g1 p3 ?_
  refine X_aload_n 37 (by decide +kernel : decode cX7_journey 36 = .ok (.aload_n 0, 1)) rfl rfl rfl ?_
  refine X_getR 40 (by decide +kernel : decode cX7_journey 37 = .ok (.getfield 63, 3)) rfl rfl (by decide +kernel : aFd 9 63 = some (9, 6, true, true)) g1 p6 ?_
  exact X_cv (as := [.ref b5]) (rest := []) (by decide +kernel : decode cX7_journey 40 = .ok (.invokevirtual 245, 3)) (Or.inl ⟨rfl, rfl, rfl⟩) rfl rfl rfl rfl rfl (Nat.le_of_ble_eq_true rfl) (Or.inr (Or.inr (by rw [g7]; rfl))) hd1 k
theorem kX7_journey_43 {a0 : Nat} {x1 : Int} {o2 : Option Value} {o3 : Option Value} {b2 : Nat} (g1 : aKd S a0 = 9) (p3 : aP S a0 7 = some b2) (hd1 : 1 ≤ d) (k : X E (d - 1) fX6_travel 0 [some (.ref b2), some (J x1), none, none, none, none, none] [] S (mI M) (Kr E d fX7_journey 51 [some (.ref a0), some (J x1), o2, o3] [] Q)) (g4 : aKd S b2 = 8) : X E d fX7_journey 43 [some (.ref a0), some (J x1), o2, o3] [] S (mI M) Q := by
  refine X_aload_n 44 (by decide +kernel : decode cX7_journey 43 = .ok (.aload_n 0, 1)) rfl rfl rfl ?_
  refine X_getR 47 (by decide +kernel : decode cX7_journey 44 = .ok (.getfield 67, 3)) rfl rfl (by decide +kernel : aFd 9 67 = some (9, 7, true, true)) g1 p3 ?_
  refine X_iload_n 48 (by decide +kernel : decode cX7_journey 47 = .ok (.iload_n 1, 1)) rfl rfl rfl ?_
  exact X_cv (as := [J x1]) (rest := []) (by decide +kernel : decode cX7_journey 48 = .ok (.invokevirtual 249, 3)) (Or.inl ⟨rfl, rfl, rfl⟩) rfl rfl rfl rfl rfl (Nat.le_of_ble_eq_true rfl) (Or.inr (Or.inr (by rw [g4]; rfl))) hd1 k
theorem kX7_journey_51 {o0 : Option Value} {o1 : Option Value} {x2 : Int} {o3 : Option Value} {t0 : Int} (r1 : R32 x2) (kd : x2 ≠ 0 ∧ x2 ≠ 1 → X E d fX7_journey 120 [o0, o1, some (J x2), some (J t0)] [] S (mI M) Q) (k0 : x2 = 0 → X E d fX7_journey 80 [o0, o1, some (J x2), some (J t0)] [] S (mI M) Q) (k1 : x2 = 1 → X E d fX7_journey 100 [o0, o1, some (J x2), some (J t0)] [] S (mI M) Q) : X E d fX7_journey 51 [o0, o1, some (J x2), o3] [J t0] S (mI M) Q := by
  refine X_istore_n 52 (by decide +kernel : decode cX7_journey 51 = .ok (.istore_n 3, 1)) rfl rfl (Nat.le_of_ble_eq_true rfl) rfl ?_
  refine X_iload_n 53 (by decide +kernel : decode cX7_journey 52 = .ok (.iload_n 2, 1)) rfl rfl rfl ?_
  by_cases h0 : x2 = 0
  · exact X_lsw (off := 27) 80 (by decide +kernel : decode cX7_journey 53 = .ok (.lookupswitch 67 #[(0, 27), (1, 47)], 27)) rfl (by decide +kernel) ((congrArg (Op.lookupswitch.offset _ _) h0).trans (by decide +kernel)) (by decide) r1 (k0 h0)
  by_cases h1 : x2 = 1
  · exact X_lsw (off := 47) 100 (by decide +kernel : decode cX7_journey 53 = .ok (.lookupswitch 67 #[(0, 27), (1, 47)], 27)) rfl (by decide +kernel) ((congrArg (Op.lookupswitch.offset _ _) h1).trans (by decide +kernel)) (by decide) r1 (k1 h1)
  exact X_lsw (off := 67) 120 (by decide +kernel : decode cX7_journey 53 = .ok (.lookupswitch 67 #[(0, 27), (1, 47)], 27)) rfl (by decide +kernel) (by show Op.lookupswitch.offset [(0, 27), (1, 47)] 67 x2 = _; simp [Op.lookupswitch.offset, h0, Ne.symm h0, h1, Ne.symm h1]) (by decide) r1 (kd ⟨h0, h1⟩)
theorem kX7_journey_80 {a0 : Nat} {x1 : Int} {o2 : Option Value} {o3 : Option Value} {b2 : Nat} {b5 : Nat} {b11 : Nat} {b14 : Nat} (g1 : aKd S a0 = 9) (p3 : aP S a0 7 = some b2) (g4 : aKd S b2 = 8) (p6 : aP S b2 15 = some b5) (g7 : aKd S b5 = 100) (r8 : R32 x1) (h9 : (0 : Int) ≤ x1 ∧ x1 < (aN S b5 : Int)) (p12 : aP S a0 6 = some b11) (g13 : aKd S b11 = 8) (p15 : aP S b11 15 = some b14) (g16 : aKd S b14 = 100) (h18 : (0 : Int) ≤ x1 ∧ x1 < (aN S b14 : Int)) (q : Q (some (some (J ((M b5 x1.toNat) - (M b14 x1.toNat))))) S (mI M)) : X E d fX7_journey 80 [some (.ref a0), some (J x1), o2, o3] [] S (mI M) Q := by
  refine X_aload_n 81 (by decide +kernel : decode cX7_journey 80 = .ok (.aload_n 0, 1)) rfl rfl rfl ?_
  refine X_getR 84 (by decide +kernel : decode cX7_journey 81 = .ok (.getfield 67, 3)) rfl rfl (by decide +kernel : aFd 9 67 = some (9, 7, true, true)) g1 p3 ?_
  refine X_getR 87 (by decide +kernel : decode cX7_journey 84 = .ok (.getfield 236, 3)) rfl rfl (by decide +kernel : aFd 9 236 = some (8, 15, true, true)) g4 p6 ?_
  refine X_iload_n 88 (by decide +kernel : decode cX7_journey 87 = .ok (.iload_n 1, 1)) rfl rfl rfl ?_
  refine X_iald 89 (by decide +kernel : decode cX7_journey 88 = .ok (.iaload, 1)) rfl rfl g7 r8 h9 ?_
  refine X_aload_n 90 (by decide +kernel : decode cX7_journey 89 = .ok (.aload_n 0, 1)) rfl rfl rfl ?_
  refine X_getR 93 (by decide +kernel : decode cX7_journey 90 = .ok (.getfield 63, 3)) rfl rfl (by decide +kernel : aFd 9 63 = some (9, 6, true, true)) g1 p12 ?_
  refine X_getR 96 (by decide +kernel : decode cX7_journey 93 = .ok (.getfield 236, 3)) rfl rfl (by decide +kernel : aFd 9 236 = some (8, 15, true, true)) g13 p15 ?_
  refine X_iload_n 97 (by decide +kernel : decode cX7_journey 96 = .ok (.iload_n 1, 1)) rfl rfl rfl ?_
  refine X_iald 98 (by decide +kernel : decode cX7_journey 97 = .ok (.iaload, 1)) rfl rfl g16 r8 h18 ?_
  refine X_isub 99 (by decide +kernel : decode cX7_journey 98 = .ok (.isub, 1)) rfl rfl ?_
  exact X_iret (by decide +kernel : decode cX7_journey 99 = .ok (.ireturn, 1)) rfl rfl rfl q
theorem kX7_journey_100 {a0 : Nat} {o1 : Option Value} {o2 : Option Value} {o3 : Option Value} {b2 : Nat} (g1 : aKd S a0 = 9) (p3 : aP S a0 6 = some b2) (hd1 : 1 ≤ d) (k : X E (d - 1) fX6_total 0 [some (.ref b2), some (J 7)] [] S (mI M) (Kr E d fX7_journey 109 [some (.ref a0), o1, o2, o3] [] Q)) (g4 : aKd S b2 = 8) : X E d fX7_journey 100 [some (.ref a0), o1, o2, o3] [] S (mI M) Q := by
  refine X_aload_n 101 (by decide +kernel : decode cX7_journey 100 = .ok (.aload_n 0, 1)) rfl rfl rfl ?_
  refine X_getR 104 (by decide +kernel : decode cX7_journey 101 = .ok (.getfield 63, 3)) rfl rfl (by decide +kernel : aFd 9 63 = some (9, 6, true, true)) g1 p3 ?_
  refine X_bipush 106 (7) (by decide +kernel : decode cX7_journey 104 = .ok (.bipush 7, 2)) rfl rfl (by decide +kernel) ?_
  exact X_cv (as := [J 7]) (rest := []) (by decide +kernel : decode cX7_journey 106 = .ok (.invokevirtual 146, 3)) (Or.inl ⟨rfl, rfl, rfl⟩) rfl rfl rfl rfl rfl (Nat.le_of_ble_eq_true rfl) (Or.inr (Or.inr (by rw [g4]; rfl))) hd1 k
theorem kX7_journey_109 {a0 : Nat} {o1 : Option Value} {o2 : Option Value} {o3 : Option Value} {t0 : Int} {b2 : Nat} (g1 : aKd S a0 = 9) (p3 : aP S a0 7 = some b2) (hd1 : 1 ≤ d) (k : X E (d - 1) fX6_total 0 [some (.ref b2), some (J 7)] [] S (mI M) (Kr E d fX7_journey 118 [some (.ref a0), o1, o2, o3] [J t0] Q)) (g4 : aKd S b2 = 8) : X E d fX7_journey 109 [some (.ref a0), o1, o2, o3] [J t0] S (mI M) Q := by
  refine X_aload_n 110 (by decide +kernel : decode cX7_journey 109 = .ok (.aload_n 0, 1)) rfl rfl rfl ?_
  refine X_getR 113 (by decide +kernel : decode cX7_journey 110 = .ok (.getfield 67, 3)) rfl rfl (by decide +kernel : aFd 9 67 = some (9, 7, true, true)) g1 p3 ?_
  refine X_bipush 115 (7) (by decide +kernel : decode cX7_journey 113 = .ok (.bipush 7, 2)) rfl rfl (by decide +kernel) ?_
  exact X_cv (as := [J 7]) (rest := [J t0]) (by decide +kernel : decode cX7_journey 115 = .ok (.invokevirtual 146, 3)) (Or.inl ⟨rfl, rfl, rfl⟩) rfl rfl rfl rfl rfl (Nat.le_of_ble_eq_true rfl) (Or.inr (Or.inr (by rw [g4]; rfl))) hd1 k
theorem kX7_journey_118 {o0 : Option Value} {o1 : Option Value} {o2 : Option Value} {o3 : Option Value} {t0 : Int} {t1 : Int} (q : Q (some (some (J (t1 - t0)))) S (mI M)) : X E d fX7_journey 118 [o0, o1, o2, o3] [J t0, J t1] S (mI M) Q := by
  refine X_isub 119 (by decide +kernel : decode cX7_journey 118 = .ok (.isub, 1)) rfl rfl ?_
  exact X_iret (by decide +kernel : decode cX7_journey 119 = .ok (.ireturn, 1)) rfl rfl rfl q
theorem kX7_journey_120 {o0 : Option Value} {o1 : Option Value} {o2 : Option Value} {x3 : Int} (q : Q (some (some (J x3))) S (mI M)) : X E d fX7_journey 120 [o0, o1, o2, some (J x3)] [] S (mI M) Q := by
  refine X_iload_n 121 (by decide +kernel : decode cX7_journey 120 = .ok (.iload_n 3, 1)) rfl rfl rfl ?_
  exact X_iret (by decide +kernel : decode cX7_journey 121 = .ok (.ireturn, 1)) rfl rfl rfl q
theorem kX7_worst_0 {o0 : Option Value} {o1 : Option Value} {o2 : Option Value} (k : X E d fX7_worst 4 [o0, some (J (-1)), some (J 0)] [] S (mI M) Q) : X E d fX7_worst 0 [o0, o1, o2] [] S (mI M) Q := by
  refine X_iconst 1 (by decide +kernel : decode cX7_worst 0 = .ok (.iconst (-1), 1)) rfl rfl ?_
  refine X_istore_n 2 (by decide +kernel : decode cX7_worst 1 = .ok (.istore_n 1, 1)) rfl rfl (Nat.le_of_ble_eq_true rfl) rfl ?_
  refine X_iconst 3 (by decide +kernel : decode cX7_worst 2 = .ok (.iconst 0, 1)) rfl rfl ?_
  refine X_istore_n 4 (by decide +kernel : decode cX7_worst 3 = .ok (.istore_n 2, 1)) rfl rfl (Nat.le_of_ble_eq_true rfl) rfl ?_
  exact k
theorem kX7_worst_4 {a0 : Nat} {o1 : Option Value} {x2 : Int} {b2 : Nat} (g1 : aKd S a0 = 9) (p3 : aP S a0 8 = some b2) (g4 : aKd S b2 = 5) (r5 : R32 x2) (r6 : R32 (M b2 1)) (k1 : (M b2 1) ≤ x2 → X E d fX7_worst 49 [some (.ref a0), o1, some (J x2)] [] S (mI M) Q) (k2 : x2 < (M b2 1) → X E d fX7_worst 15 [some (.ref a0), o1, some (J x2)] [] S (mI M) Q) : X E d fX7_worst 4 [some (.ref a0), o1, some (J x2)] [] S (mI M) Q := by
  refine X_iload_n 5 (by decide +kernel : decode cX7_worst 4 = .ok (.iload_n 2, 1)) rfl rfl rfl ?_
  refine X_aload_n 6 (by decide +kernel : decode cX7_worst 5 = .ok (.aload_n 0, 1)) rfl rfl rfl ?_
  refine X_getR 9 (by decide +kernel : decode cX7_worst 6 = .ok (.getfield 48, 3)) rfl rfl (by decide +kernel : aFd 9 48 = some (9, 8, true, false)) g1 p3 ?_
  refine X_getI 12 (by decide +kernel : decode cX7_worst 9 = .ok (.getfield 134, 3)) rfl rfl (by decide +kernel : aFd 9 134 = some (5, 1, false, false)) g4 ?_
  exact X_icmpge 49 15 (by decide +kernel : decode cX7_worst 12 = .ok (.if_icmp .ge 37, 3)) rfl rfl (by decide) r5 r6 k1 k2
theorem kX7_worst_15 {o0 : Option Value} {x1 : Int} {o2 : Option Value} (r1 : R32 x1) (k1 : x1 = (-1) → X E d fX7_worst 41 [o0, some (J x1), o2] [] S (mI M) Q) (k2 : x1 ≠ (-1) → X E d fX7_worst 20 [o0, some (J x1), o2] [] S (mI M) Q) : X E d fX7_worst 15 [o0, some (J x1), o2] [] S (mI M) Q := by
  refine X_iload_n 16 (by decide +kernel : decode cX7_worst 15 = .ok (.iload_n 1, 1)) rfl rfl rfl ?_
  refine X_iconst 17 (by decide +kernel : decode cX7_worst 16 = .ok (.iconst (-1), 1)) rfl rfl ?_
  exact X_icmpeq 41 20 (by decide +kernel : decode cX7_worst 17 = .ok (.if_icmp .eq 24, 3)) rfl rfl (by decide) r1 ⟨by decide, by decide⟩ k1 k2
theorem kX7_worst_20 {a0 : Nat} {x1 : Int} {x2 : Int} {b2 : Nat} {b5 : Nat} (g1 : aKd S a0 = 9) (p3 : aP S a0 6 = some b2) (g4 : aKd S b2 = 8) (p6 : aP S b2 4 = some b5) (g7 : aKd S b5 = 100) (r8 : R32 x2) (h9 : (0 : Int) ≤ x2 ∧ x2 < (aN S b5 : Int)) (r17 : R32 x1) (h18 : (0 : Int) ≤ x1 ∧ x1 < (aN S b5 : Int)) (r19 : R32 (M b5 x2.toNat)) (r20 : R32 (M b5 x1.toNat)) (k1 : (M b5 x1.toNat) ≤ (M b5 x2.toNat) → X E d fX7_worst 43 [some (.ref a0), some (J x1), some (J x2)] [] S (mI M) Q) (k2 : (M b5 x2.toNat) < (M b5 x1.toNat) → X E d fX7_worst 41 [some (.ref a0), some (J x1), some (J x2)] [] S (mI M) Q) : X E d fX7_worst 20 [some (.ref a0), some (J x1), some (J x2)] [] S (mI M) Q := by
  refine X_aload_n 21 (by decide +kernel : decode cX7_worst 20 = .ok (.aload_n 0, 1)) rfl rfl rfl ?_
  refine X_getR 24 (by decide +kernel : decode cX7_worst 21 = .ok (.getfield 63, 3)) rfl rfl (by decide +kernel : aFd 9 63 = some (9, 6, true, true)) g1 p3 ?_
  refine X_getR 27 (by decide +kernel : decode cX7_worst 24 = .ok (.getfield 164, 3)) rfl rfl (by decide +kernel : aFd 9 164 = some (8, 4, true, true)) g4 p6 ?_
  refine X_iload_n 28 (by decide +kernel : decode cX7_worst 27 = .ok (.iload_n 2, 1)) rfl rfl rfl ?_
  refine X_iald 29 (by decide +kernel : decode cX7_worst 28 = .ok (.iaload, 1)) rfl rfl g7 r8 h9 ?_
  refine X_aload_n 30 (by decide +kernel : decode cX7_worst 29 = .ok (.aload_n 0, 1)) rfl rfl rfl ?_
  refine X_getR 33 (by decide +kernel : decode cX7_worst 30 = .ok (.getfield 63, 3)) rfl rfl (by decide +kernel : aFd 9 63 = some (9, 6, true, true)) g1 p3 ?_
  refine X_getR 36 (by decide +kernel : decode cX7_worst 33 = .ok (.getfield 164, 3)) rfl rfl (by decide +kernel : aFd 9 164 = some (8, 4, true, true)) g4 p6 ?_
  refine X_iload_n 37 (by decide +kernel : decode cX7_worst 36 = .ok (.iload_n 1, 1)) rfl rfl rfl ?_
  refine X_iald 38 (by decide +kernel : decode cX7_worst 37 = .ok (.iaload, 1)) rfl rfl g7 r17 h18 ?_
  exact X_icmpge 43 41 (by decide +kernel : decode cX7_worst 38 = .ok (.if_icmp .ge 5, 3)) rfl rfl (by decide) r19 r20 k1 k2
theorem kX7_worst_41 {o0 : Option Value} {o1 : Option Value} {x2 : Int} (k : X E d fX7_worst 43 [o0, some (J x2), some (J x2)] [] S (mI M) Q) : X E d fX7_worst 41 [o0, o1, some (J x2)] [] S (mI M) Q := by
  refine X_iload_n 42 (by decide +kernel : decode cX7_worst 41 = .ok (.iload_n 2, 1)) rfl rfl rfl ?_
  refine X_istore_n 43 (by decide +kernel : decode cX7_worst 42 = .ok (.istore_n 1, 1)) rfl rfl (Nat.le_of_ble_eq_true rfl) rfl ?_
  exact k
theorem kX7_worst_43 {o0 : Option Value} {o1 : Option Value} {x2 : Int} (k : X E d fX7_worst 4 [o0, o1, some (J (x2 + 1))] [] S (mI M) Q) : X E d fX7_worst 43 [o0, o1, some (J x2)] [] S (mI M) Q := by
  refine X_iinc 46 (by decide +kernel : decode cX7_worst 43 = .ok (.iinc 2 1, 3)) rfl rfl rfl rfl ?_
  exact X_goto 4 (by decide +kernel : decode cX7_worst 46 = .ok (.goto (-42), 3)) rfl (by decide) k
theorem kX7_worst_49 {o0 : Option Value} {x1 : Int} {o2 : Option Value} (q : Q (some (some (J x1))) S (mI M)) : X E d fX7_worst 49 [o0, some (J x1), o2] [] S (mI M) Q := by
  refine X_iload_n 50 (by decide +kernel : decode cX7_worst 49 = .ok (.iload_n 1, 1)) rfl rfl rfl ?_
  exact X_iret (by decide +kernel : decode cX7_worst 50 = .ok (.ireturn, 1)) rfl rfl rfl q
theorem kX7_pass_0 {o0 : Option Value} {x1 : Int} (r1 : R32 x1) (k1 : x1 < 1 → X E d fX7_pass 11 [o0, some (J x1)] [] S (mI M) Q) (k2 : 1 ≤ x1 → X E d fX7_pass 5 [o0, some (J x1)] [] S (mI M) Q) : X E d fX7_pass 0 [o0, some (J x1)] [] S (mI M) Q := by
  refine X_iload_n 1 (by decide +kernel : decode cX7_pass 0 = .ok (.iload_n 1, 1)) rfl rfl rfl ?_
  refine X_iconst 2 (by decide +kernel : decode cX7_pass 1 = .ok (.iconst 1, 1)) rfl rfl ?_
  exact X_icmplt 11 5 (by decide +kernel : decode cX7_pass 2 = .ok (.if_icmp .lt 9, 3)) rfl rfl (by decide) r1 ⟨by decide, by decide⟩ k1 k2
theorem kX7_pass_5 {o0 : Option Value} {x1 : Int} (r1 : R32 x1) (k1 : x1 ≤ 120 → X E d fX7_pass 22 [o0, some (J x1)] [] S (mI M) Q) (k2 : 120 < x1 → X E d fX7_pass 11 [o0, some (J x1)] [] S (mI M) Q) : X E d fX7_pass 5 [o0, some (J x1)] [] S (mI M) Q := by
  refine X_iload_n 6 (by decide +kernel : decode cX7_pass 5 = .ok (.iload_n 1, 1)) rfl rfl rfl ?_
  refine X_bipush 8 (120) (by decide +kernel : decode cX7_pass 6 = .ok (.bipush 120, 2)) rfl rfl (by decide +kernel) ?_
  exact X_icmple 22 11 (by decide +kernel : decode cX7_pass 8 = .ok (.if_icmp .le 14, 3)) rfl rfl (by decide) r1 ⟨by decide, by decide⟩ k1 k2
theorem kX7_pass_22 {a0 : Nat} {x1 : Int} {b2 : Nat} (g1 : aKd S a0 = 9) (p3 : aP S a0 6 = some b2) (hd1 : 1 ≤ d) (k : X E (d - 1) fX6_letGo 0 [some (.ref b2), some (J x1), none, none, none, none] [] S (mI M) (Kr E d fX7_pass 30 [some (.ref a0), some (J x1)] [] Q)) (g4 : aKd S b2 = 8) : X E d fX7_pass 22 [some (.ref a0), some (J x1)] [] S (mI M) Q := by
  refine X_aload_n 23 (by decide +kernel : decode cX7_pass 22 = .ok (.aload_n 0, 1)) rfl rfl rfl ?_
  refine X_getR 26 (by decide +kernel : decode cX7_pass 23 = .ok (.getfield 63, 3)) rfl rfl (by decide +kernel : aFd 9 63 = some (9, 6, true, true)) g1 p3 ?_
  refine X_iload_n 27 (by decide +kernel : decode cX7_pass 26 = .ok (.iload_n 1, 1)) rfl rfl rfl ?_
  exact X_cv (as := [J x1]) (rest := []) (by decide +kernel : decode cX7_pass 27 = .ok (.invokevirtual 274, 3)) (Or.inl ⟨rfl, rfl, rfl⟩) rfl rfl rfl rfl rfl (Nat.le_of_ble_eq_true rfl) (Or.inr (Or.inr (by rw [g4]; rfl))) hd1 k
theorem kX7_pass_30 {o0 : Option Value} {o1 : Option Value} {t0 : Int} (q : Q (some (some (J t0))) S (mI M)) : X E d fX7_pass 30 [o0, o1] [J t0] S (mI M) Q := by
  exact X_iret (by decide +kernel : decode cX7_pass 30 = .ok (.ireturn, 1)) rfl rfl rfl q
theorem kX7_until_0 {a0 : Nat} {x1 : Int} {o2 : Option Value} {b2 : Nat} (g1 : aKd S a0 = 9) (p3 : aP S a0 8 = some b2) (g4 : aKd S b2 = 5) (hd1 : 1 ≤ d) (k : X E (d - 1) fX7_isOutside 0 [some (J x1), some (J (M b2 1))] [] S (mI M) (Kr E d fX7_until 11 [some (.ref a0), some (J x1), o2] [] Q)) : X E d fX7_until 0 [some (.ref a0), some (J x1), o2] [] S (mI M) Q := by
  refine X_iload_n 1 (by decide +kernel : decode cX7_until 0 = .ok (.iload_n 1, 1)) rfl rfl rfl ?_
  refine X_aload_n 2 (by decide +kernel : decode cX7_until 1 = .ok (.aload_n 0, 1)) rfl rfl rfl ?_
  refine X_getR 5 (by decide +kernel : decode cX7_until 2 = .ok (.getfield 48, 3)) rfl rfl (by decide +kernel : aFd 9 48 = some (9, 8, true, false)) g1 p3 ?_
  refine X_getI 8 (by decide +kernel : decode cX7_until 5 = .ok (.getfield 134, 3)) rfl rfl (by decide +kernel : aFd 9 134 = some (5, 1, false, false)) g4 ?_
  exact X_cs (as := [J (M b2 1), J x1]) (rest := []) (by decide +kernel : decode cX7_until 8 = .ok (.invokestatic 154, 3)) rfl rfl rfl rfl rfl rfl rfl (Nat.le_of_ble_eq_true rfl) hd1 k
theorem kX7_until_11 {o0 : Option Value} {o1 : Option Value} {o2 : Option Value} {t0 : Int} (r1 : R32 t0) (k1 : t0 = 0 → X E d fX7_until 25 [o0, o1, o2] [] S (mI M) Q) (k2 : t0 ≠ 0 → X E d fX7_until 14 [o0, o1, o2] [] S (mI M) Q) : X E d fX7_until 11 [o0, o1, o2] [J t0] S (mI M) Q := by
  exact X_ifeq 25 14 (by decide +kernel : decode cX7_until 11 = .ok (.ifCond .eq 14, 3)) rfl rfl (by decide) r1 k1 k2
theorem kX7_until_25 {a0 : Nat} {o1 : Option Value} {o2 : Option Value} {b2 : Nat} {b5 : Nat} (g1 : aKd S a0 = 9) (p3 : aP S a0 7 = some b2) (p6 : aP S a0 6 = some b5) (hd1 : 1 ≤ d) (k : X E (d - 1) fX6_copyFrom 0 [some (.ref b2), some (.ref b5)] [] S (mI M) (Kr E d fX7_until 36 [some (.ref a0), o1, o2] [] Q)) (g7 : aKd S b2 = 8) : X E d fX7_until 25 [some (.ref a0), o1, o2] [] S (mI M) Q := by
  refine X_aload_n 26 (by decide +kernel : decode cX7_until 25 = .ok (.aload_n 0, 1)) rfl rfl rfl ?_
  refine X_getR 29 (by decide +kernel : decode cX7_until 26 = .ok (.getfield 67, 3)) rfl rfl (by decide +kernel : aFd 9 67 = some (9, 7, true, true)) g1 p3 ?_
  refine X_aload_n 30 (by decide +kernel : decode cX7_until 29 = .ok (.aload_n 0, 1)) rfl rfl rfl ?_
  refine X_getR 33 (by decide +kernel : decode cX7_until 30 = .ok (.getfield 63, 3)) rfl rfl (by decide +kernel : aFd 9 63 = some (9, 6, true, true)) g1 p6 ?_
  exact X_cv (as := [.ref b5]) (rest := []) (by decide +kernel : decode cX7_until 33 = .ok (.invokevirtual 245, 3)) (Or.inl ⟨rfl, rfl, rfl⟩) rfl rfl rfl rfl rfl (Nat.le_of_ble_eq_true rfl) (Or.inr (Or.inr (by rw [g7]; rfl))) hd1 k
theorem kX7_until_36 {o0 : Option Value} {o1 : Option Value} {o2 : Option Value} (k : X E d fX7_until 38 [o0, o1, some (J 0)] [] S (mI M) Q) : X E d fX7_until 36 [o0, o1, o2] [] S (mI M) Q := by
  refine X_iconst 37 (by decide +kernel : decode cX7_until 36 = .ok (.iconst 0, 1)) rfl rfl ?_
  refine X_istore_n 38 (by decide +kernel : decode cX7_until 37 = .ok (.istore_n 2, 1)) rfl rfl (Nat.le_of_ble_eq_true rfl) rfl ?_
  exact k
theorem kX7_until_38 {o0 : Option Value} {o1 : Option Value} {x2 : Int} (r1 : R32 x2) (k1 : 200 ≤ x2 → X E d fX7_until 74 [o0, o1, some (J x2)] [] S (mI M) Q) (k2 : x2 < 200 → X E d fX7_until 45 [o0, o1, some (J x2)] [] S (mI M) Q) : X E d fX7_until 38 [o0, o1, some (J x2)] [] S (mI M) Q := by
  refine X_iload_n 39 (by decide +kernel : decode cX7_until 38 = .ok (.iload_n 2, 1)) rfl rfl rfl ?_
  refine X_sipush 42 (200) (by decide +kernel : decode cX7_until 39 = .ok (.sipush 200, 3)) rfl rfl (by decide +kernel) ?_
  exact X_icmpge 74 45 (by decide +kernel : decode cX7_until 42 = .ok (.if_icmp .ge 32, 3)) rfl rfl (by decide) r1 ⟨by decide, by decide⟩ k1 k2
theorem kX7_until_45 {a0 : Nat} {x1 : Int} {o2 : Option Value} {b2 : Nat} {b5 : Nat} (g1 : aKd S a0 = 9) (p3 : aP S a0 7 = some b2) (g4 : aKd S b2 = 8) (p6 : aP S b2 4 = some b5) (g7 : aKd S b5 = 100) (r8 : R32 x1) (h9 : (0 : Int) ≤ x1 ∧ x1 < (aN S b5 : Int)) (r10 : R32 (M b5 x1.toNat)) (k1 : (M b5 x1.toNat) ≠ 0 → X E d fX7_until 59 [some (.ref a0), some (J x1), o2] [] S (mI M) Q) (k2 : (M b5 x1.toNat) = 0 → X E d fX7_until 57 [some (.ref a0), some (J x1), o2] [] S (mI M) Q) : X E d fX7_until 45 [some (.ref a0), some (J x1), o2] [] S (mI M) Q := by
  refine X_aload_n 46 (by decide +kernel : decode cX7_until 45 = .ok (.aload_n 0, 1)) rfl rfl rfl ?_
  refine X_getR 49 (by decide +kernel : decode cX7_until 46 = .ok (.getfield 67, 3)) rfl rfl (by decide +kernel : aFd 9 67 = some (9, 7, true, true)) g1 p3 ?_
  refine X_getR 52 (by decide +kernel : decode cX7_until 49 = .ok (.getfield 164, 3)) rfl rfl (by decide +kernel : aFd 9 164 = some (8, 4, true, true)) g4 p6 ?_
  refine X_iload_n 53 (by decide +kernel : decode cX7_until 52 = .ok (.iload_n 1, 1)) rfl rfl rfl ?_
  refine X_iald 54 (by decide +kernel : decode cX7_until 53 = .ok (.iaload, 1)) rfl rfl g7 r8 h9 ?_
  exact X_ifne 59 57 (by decide +kernel : decode cX7_until 54 = .ok (.ifCond .ne 5, 3)) rfl rfl (by decide) r10 k1 k2
theorem kX7_until_57 {o0 : Option Value} {o1 : Option Value} {x2 : Int} (q : Q (some (some (J x2))) S (mI M)) : X E d fX7_until 57 [o0, o1, some (J x2)] [] S (mI M) Q := by
  refine X_iload_n 58 (by decide +kernel : decode cX7_until 57 = .ok (.iload_n 2, 1)) rfl rfl rfl ?_
  exact X_iret (by decide +kernel : decode cX7_until 58 = .ok (.ireturn, 1)) rfl rfl rfl q
theorem kX7_until_59 {a0 : Nat} {o1 : Option Value} {o2 : Option Value} {b2 : Nat} (g1 : aKd S a0 = 9) (p3 : aP S a0 7 = some b2) (hd1 : 1 ≤ d) (k : X E (d - 1) fX6_letGo 0 [some (.ref b2), some (J 1), none, none, none, none] [] S (mI M) (Kr E d fX7_until 67 [some (.ref a0), o1, o2] [] Q)) (g4 : aKd S b2 = 8) : X E d fX7_until 59 [some (.ref a0), o1, o2] [] S (mI M) Q := by
  refine X_aload_n 60 (by decide +kernel : decode cX7_until 59 = .ok (.aload_n 0, 1)) rfl rfl rfl ?_
  refine X_getR 63 (by decide +kernel : decode cX7_until 60 = .ok (.getfield 67, 3)) rfl rfl (by decide +kernel : aFd 9 67 = some (9, 7, true, true)) g1 p3 ?_
  refine X_iconst 64 (by decide +kernel : decode cX7_until 63 = .ok (.iconst 1, 1)) rfl rfl ?_
  exact X_cv (as := [J 1]) (rest := []) (by decide +kernel : decode cX7_until 64 = .ok (.invokevirtual 274, 3)) (Or.inl ⟨rfl, rfl, rfl⟩) rfl rfl rfl rfl rfl (Nat.le_of_ble_eq_true rfl) (Or.inr (Or.inr (by rw [g4]; rfl))) hd1 k
theorem kX7_until_67 {o0 : Option Value} {o1 : Option Value} {x2 : Int} {t0 : Int} (k : X E d fX7_until 38 [o0, o1, some (J (x2 + 1))] [] S (mI M) Q) : X E d fX7_until 67 [o0, o1, some (J x2)] [J t0] S (mI M) Q := by
  refine X_pop 68 (by decide +kernel : decode cX7_until 67 = .ok (.pop, 1)) rfl rfl rfl ?_
  refine X_iinc 71 (by decide +kernel : decode cX7_until 68 = .ok (.iinc 2 1, 3)) rfl rfl rfl rfl ?_
  exact X_goto 38 (by decide +kernel : decode cX7_until 71 = .ok (.goto (-33), 3)) rfl (by decide) k
theorem kX7_until_74 {a0 : Nat} {x1 : Int} {o2 : Option Value} {b2 : Nat} {b5 : Nat} (g1 : aKd S a0 = 9) (p3 : aP S a0 7 = some b2) (g4 : aKd S b2 = 8) (p6 : aP S b2 4 = some b5) (g7 : aKd S b5 = 100) (r8 : R32 x1) (h9 : (0 : Int) ≤ x1 ∧ x1 < (aN S b5 : Int)) (r10 : R32 (M b5 x1.toNat)) (k1 : (M b5 x1.toNat) ≠ 0 → X E d fX7_until 92 [some (.ref a0), some (J x1), o2] [] S (mI M) Q) (k2 : (M b5 x1.toNat) = 0 → X E d fX7_until 86 [some (.ref a0), some (J x1), o2] [] S (mI M) Q) : X E d fX7_until 74 [some (.ref a0), some (J x1), o2] [] S (mI M) Q := by
  refine X_aload_n 75 (by decide +kernel : decode cX7_until 74 = .ok (.aload_n 0, 1)) rfl rfl rfl ?_
  refine X_getR 78 (by decide +kernel : decode cX7_until 75 = .ok (.getfield 67, 3)) rfl rfl (by decide +kernel : aFd 9 67 = some (9, 7, true, true)) g1 p3 ?_
  refine X_getR 81 (by decide +kernel : decode cX7_until 78 = .ok (.getfield 164, 3)) rfl rfl (by decide +kernel : aFd 9 164 = some (8, 4, true, true)) g4 p6 ?_
  refine X_iload_n 82 (by decide +kernel : decode cX7_until 81 = .ok (.iload_n 1, 1)) rfl rfl rfl ?_
  refine X_iald 83 (by decide +kernel : decode cX7_until 82 = .ok (.iaload, 1)) rfl rfl g7 r8 h9 ?_
  exact X_ifne 92 86 (by decide +kernel : decode cX7_until 83 = .ok (.ifCond .ne 9, 3)) rfl rfl (by decide) r10 k1 k2
theorem kX7_until_86 {o0 : Option Value} {o1 : Option Value} {o2 : Option Value} (k : X E d fX7_until 93 [o0, o1, o2] [J 200] S (mI M) Q) : X E d fX7_until 86 [o0, o1, o2] [] S (mI M) Q := by
  refine X_sipush 89 (200) (by decide +kernel : decode cX7_until 86 = .ok (.sipush 200, 3)) rfl rfl (by decide +kernel) ?_
  exact X_goto 93 (by decide +kernel : decode cX7_until 89 = .ok (.goto 4, 3)) rfl (by decide) k
theorem kX7_until_92 {o0 : Option Value} {o1 : Option Value} {o2 : Option Value} (k : X E d fX7_until 93 [o0, o1, o2] [J (-1)] S (mI M) Q) : X E d fX7_until 92 [o0, o1, o2] [] S (mI M) Q := by
  refine X_iconst 93 (by decide +kernel : decode cX7_until 92 = .ok (.iconst (-1), 1)) rfl rfl ?_
  exact k
theorem kX7_until_93 {o0 : Option Value} {o1 : Option Value} {o2 : Option Value} {t0 : Int} (q : Q (some (some (J t0))) S (mI M)) : X E d fX7_until 93 [o0, o1, o2] [J t0] S (mI M) Q := by
  exact X_iret (by decide +kernel : decode cX7_until 93 = .ok (.ireturn, 1)) rfl rfl rfl q
theorem kX7_foresee_0 {o0 : Option Value} {x1 : Int} {o2 : Option Value} (r1 : R32 x1) (k1 : x1 < 1 → X E d fX7_foresee 11 [o0, some (J x1), o2] [] S (mI M) Q) (k2 : 1 ≤ x1 → X E d fX7_foresee 5 [o0, some (J x1), o2] [] S (mI M) Q) : X E d fX7_foresee 0 [o0, some (J x1), o2] [] S (mI M) Q := by
  refine X_iload_n 1 (by decide +kernel : decode cX7_foresee 0 = .ok (.iload_n 1, 1)) rfl rfl rfl ?_
  refine X_iconst 2 (by decide +kernel : decode cX7_foresee 1 = .ok (.iconst 1, 1)) rfl rfl ?_
  exact X_icmplt 11 5 (by decide +kernel : decode cX7_foresee 2 = .ok (.if_icmp .lt 9, 3)) rfl rfl (by decide) r1 ⟨by decide, by decide⟩ k1 k2
theorem kX7_foresee_5 {o0 : Option Value} {x1 : Int} {o2 : Option Value} (r1 : R32 x1) (k1 : x1 ≤ 120 → X E d fX7_foresee 22 [o0, some (J x1), o2] [] S (mI M) Q) (k2 : 120 < x1 → X E d fX7_foresee 11 [o0, some (J x1), o2] [] S (mI M) Q) : X E d fX7_foresee 5 [o0, some (J x1), o2] [] S (mI M) Q := by
  refine X_iload_n 6 (by decide +kernel : decode cX7_foresee 5 = .ok (.iload_n 1, 1)) rfl rfl rfl ?_
  refine X_bipush 8 (120) (by decide +kernel : decode cX7_foresee 6 = .ok (.bipush 120, 2)) rfl rfl (by decide +kernel) ?_
  exact X_icmple 22 11 (by decide +kernel : decode cX7_foresee 8 = .ok (.if_icmp .le 14, 3)) rfl rfl (by decide) r1 ⟨by decide, by decide⟩ k1 k2
theorem kX7_foresee_22 {o0 : Option Value} {o1 : Option Value} {x2 : Int} (r1 : R32 x2) (k1 : x2 = 1 → X E d fX7_foresee 49 [o0, o1, some (J x2)] [] S (mI M) Q) (k2 : x2 ≠ 1 → X E d fX7_foresee 27 [o0, o1, some (J x2)] [] S (mI M) Q) : X E d fX7_foresee 22 [o0, o1, some (J x2)] [] S (mI M) Q := by
  refine X_iload_n 23 (by decide +kernel : decode cX7_foresee 22 = .ok (.iload_n 2, 1)) rfl rfl rfl ?_
  refine X_iconst 24 (by decide +kernel : decode cX7_foresee 23 = .ok (.iconst 1, 1)) rfl rfl ?_
  exact X_icmpeq 49 27 (by decide +kernel : decode cX7_foresee 24 = .ok (.if_icmp .eq 25, 3)) rfl rfl (by decide) r1 ⟨by decide, by decide⟩ k1 k2
theorem kX7_foresee_27 {o0 : Option Value} {o1 : Option Value} {x2 : Int} (r1 : R32 x2) (k1 : x2 < 7 → X E d fX7_foresee 39 [o0, o1, some (J x2)] [] S (mI M) Q) (k2 : 7 ≤ x2 → X E d fX7_foresee 33 [o0, o1, some (J x2)] [] S (mI M) Q) : X E d fX7_foresee 27 [o0, o1, some (J x2)] [] S (mI M) Q := by
  refine X_iload_n 28 (by decide +kernel : decode cX7_foresee 27 = .ok (.iload_n 2, 1)) rfl rfl rfl ?_
  refine X_bipush 30 (7) (by decide +kernel : decode cX7_foresee 28 = .ok (.bipush 7, 2)) rfl rfl (by decide +kernel) ?_
  exact X_icmplt 39 33 (by decide +kernel : decode cX7_foresee 30 = .ok (.if_icmp .lt 9, 3)) rfl rfl (by decide) r1 ⟨by decide, by decide⟩ k1 k2
theorem kX7_foresee_33 {o0 : Option Value} {o1 : Option Value} {x2 : Int} (r1 : R32 x2) (k1 : x2 ≤ 11 → X E d fX7_foresee 49 [o0, o1, some (J x2)] [] S (mI M) Q) (k2 : 11 < x2 → X E d fX7_foresee 39 [o0, o1, some (J x2)] [] S (mI M) Q) : X E d fX7_foresee 33 [o0, o1, some (J x2)] [] S (mI M) Q := by
  refine X_iload_n 34 (by decide +kernel : decode cX7_foresee 33 = .ok (.iload_n 2, 1)) rfl rfl rfl ?_
  refine X_bipush 36 (11) (by decide +kernel : decode cX7_foresee 34 = .ok (.bipush 11, 2)) rfl rfl (by decide +kernel) ?_
  exact X_icmple 49 39 (by decide +kernel : decode cX7_foresee 36 = .ok (.if_icmp .le 13, 3)) rfl rfl (by decide) r1 ⟨by decide, by decide⟩ k1 k2
theorem kX7_foresee_49 {a0 : Nat} {o1 : Option Value} {o2 : Option Value} {b2 : Nat} {b5 : Nat} (g1 : aKd S a0 = 9) (p3 : aP S a0 7 = some b2) (p6 : aP S a0 6 = some b5) (hd1 : 1 ≤ d) (k : X E (d - 1) fX6_copyFrom 0 [some (.ref b2), some (.ref b5)] [] S (mI M) (Kr E d fX7_foresee 60 [some (.ref a0), o1, o2] [] Q)) (g7 : aKd S b2 = 8) : X E d fX7_foresee 49 [some (.ref a0), o1, o2] [] S (mI M) Q := by
  refine X_aload_n 50 (by decide +kernel : decode cX7_foresee 49 = .ok (.aload_n 0, 1)) rfl rfl rfl ?_
  refine X_getR 53 (by decide +kernel : decode cX7_foresee 50 = .ok (.getfield 67, 3)) rfl rfl (by decide +kernel : aFd 9 67 = some (9, 7, true, true)) g1 p3 ?_
  refine X_aload_n 54 (by decide +kernel : decode cX7_foresee 53 = .ok (.aload_n 0, 1)) rfl rfl rfl ?_
  refine X_getR 57 (by decide +kernel : decode cX7_foresee 54 = .ok (.getfield 63, 3)) rfl rfl (by decide +kernel : aFd 9 63 = some (9, 6, true, true)) g1 p6 ?_
  exact X_cv (as := [.ref b5]) (rest := []) (by decide +kernel : decode cX7_foresee 57 = .ok (.invokevirtual 245, 3)) (Or.inl ⟨rfl, rfl, rfl⟩) rfl rfl rfl rfl rfl (Nat.le_of_ble_eq_true rfl) (Or.inr (Or.inr (by rw [g7]; rfl))) hd1 k
theorem kX7_foresee_60 {a0 : Nat} {x1 : Int} {o2 : Option Value} {b2 : Nat} (g1 : aKd S a0 = 9) (p3 : aP S a0 7 = some b2) (hd1 : 1 ≤ d) (k : X E (d - 1) fX6_letGo 0 [some (.ref b2), some (J x1), none, none, none, none] [] S (mI M) (Kr E d fX7_foresee 68 [some (.ref a0), some (J x1), o2] [] Q)) (g4 : aKd S b2 = 8) : X E d fX7_foresee 60 [some (.ref a0), some (J x1), o2] [] S (mI M) Q := by
  refine X_aload_n 61 (by decide +kernel : decode cX7_foresee 60 = .ok (.aload_n 0, 1)) rfl rfl rfl ?_
  refine X_getR 64 (by decide +kernel : decode cX7_foresee 61 = .ok (.getfield 67, 3)) rfl rfl (by decide +kernel : aFd 9 67 = some (9, 7, true, true)) g1 p3 ?_
  refine X_iload_n 65 (by decide +kernel : decode cX7_foresee 64 = .ok (.iload_n 1, 1)) rfl rfl rfl ?_
  exact X_cv (as := [J x1]) (rest := []) (by decide +kernel : decode cX7_foresee 65 = .ok (.invokevirtual 274, 3)) (Or.inl ⟨rfl, rfl, rfl⟩) rfl rfl rfl rfl rfl (Nat.le_of_ble_eq_true rfl) (Or.inr (Or.inr (by rw [g4]; rfl))) hd1 k
theorem kX7_foresee_68 {o0 : Option Value} {o1 : Option Value} {x2 : Int} {t0 : Int} (r1 : R32 x2) (k1 : x2 ≠ 1 → X E d fX7_foresee 84 [o0, o1, some (J x2)] [] S (mI M) Q) (k2 : x2 = 1 → X E d fX7_foresee 74 [o0, o1, some (J x2)] [] S (mI M) Q) : X E d fX7_foresee 68 [o0, o1, some (J x2)] [J t0] S (mI M) Q := by
  refine X_pop 69 (by decide +kernel : decode cX7_foresee 68 = .ok (.pop, 1)) rfl rfl rfl ?_
  refine X_iload_n 70 (by decide +kernel : decode cX7_foresee 69 = .ok (.iload_n 2, 1)) rfl rfl rfl ?_
  refine X_iconst 71 (by decide +kernel : decode cX7_foresee 70 = .ok (.iconst 1, 1)) rfl rfl ?_
  exact X_icmpne 84 74 (by decide +kernel : decode cX7_foresee 71 = .ok (.if_icmp .ne 13, 3)) rfl rfl (by decide) r1 ⟨by decide, by decide⟩ k1 k2
theorem kX7_foresee_74 {a0 : Nat} {o1 : Option Value} {o2 : Option Value} {b2 : Nat} (g1 : aKd S a0 = 9) (p3 : aP S a0 7 = some b2) (g4 : aKd S b2 = 8) (k : X E d fX7_foresee 92 [some (.ref a0), o1, o2] [J (M b2 3)] S (mI M) Q) : X E d fX7_foresee 74 [some (.ref a0), o1, o2] [] S (mI M) Q := by
  refine X_aload_n 75 (by decide +kernel : decode cX7_foresee 74 = .ok (.aload_n 0, 1)) rfl rfl rfl ?_
  refine X_getR 78 (by decide +kernel : decode cX7_foresee 75 = .ok (.getfield 67, 3)) rfl rfl (by decide +kernel : aFd 9 67 = some (9, 7, true, true)) g1 p3 ?_
  refine X_getI 81 (by decide +kernel : decode cX7_foresee 78 = .ok (.getfield 128, 3)) rfl rfl (by decide +kernel : aFd 9 128 = some (8, 3, false, false)) g4 ?_
  exact X_goto 92 (by decide +kernel : decode cX7_foresee 81 = .ok (.goto 11, 3)) rfl (by decide) k
theorem kX7_foresee_84 {a0 : Nat} {o1 : Option Value} {x2 : Int} {b2 : Nat} (g1 : aKd S a0 = 9) (p3 : aP S a0 7 = some b2) (hd1 : 1 ≤ d) (k : X E (d - 1) fX6_total 0 [some (.ref b2), some (J x2)] [] S (mI M) (Kr E d fX7_foresee 92 [some (.ref a0), o1, some (J x2)] [] Q)) (g4 : aKd S b2 = 8) : X E d fX7_foresee 84 [some (.ref a0), o1, some (J x2)] [] S (mI M) Q := by
  refine X_aload_n 85 (by decide +kernel : decode cX7_foresee 84 = .ok (.aload_n 0, 1)) rfl rfl rfl ?_
  refine X_getR 88 (by decide +kernel : decode cX7_foresee 85 = .ok (.getfield 67, 3)) rfl rfl (by decide +kernel : aFd 9 67 = some (9, 7, true, true)) g1 p3 ?_
  refine X_iload_n 89 (by decide +kernel : decode cX7_foresee 88 = .ok (.iload_n 2, 1)) rfl rfl rfl ?_
  exact X_cv (as := [J x2]) (rest := []) (by decide +kernel : decode cX7_foresee 89 = .ok (.invokevirtual 146, 3)) (Or.inl ⟨rfl, rfl, rfl⟩) rfl rfl rfl rfl rfl (Nat.le_of_ble_eq_true rfl) (Or.inr (Or.inr (by rw [g4]; rfl))) hd1 k
theorem kX7_foresee_92 {o0 : Option Value} {o1 : Option Value} {o2 : Option Value} {t0 : Int} (q : Q (some (some (J t0))) S (mI M)) : X E d fX7_foresee 92 [o0, o1, o2] [J t0] S (mI M) Q := by
  exact X_iret (by decide +kernel : decode cX7_foresee 92 = .ok (.ireturn, 1)) rfl rfl rfl q
theorem kX7_advise_0 {o0 : Option Value} {x1 : Int} {o2 : Option Value} {o3 : Option Value} {o4 : Option Value} {o5 : Option Value} (r1 : R32 x1) (k1 : x1 < 0 → X E d fX7_advise 22 [o0, some (J x1), o2, o3, o4, o5] [] S (mI M) Q) (k2 : 0 ≤ x1 → X E d fX7_advise 4 [o0, some (J x1), o2, o3, o4, o5] [] S (mI M) Q) : X E d fX7_advise 0 [o0, some (J x1), o2, o3, o4, o5] [] S (mI M) Q := by
  refine X_iload_n 1 (by decide +kernel : decode cX7_advise 0 = .ok (.iload_n 1, 1)) rfl rfl rfl ?_
  exact X_iflt 22 4 (by decide +kernel : decode cX7_advise 1 = .ok (.ifCond .lt 21, 3)) rfl rfl (by decide) r1 k1 k2
theorem kX7_advise_4 {o0 : Option Value} {x1 : Int} {o2 : Option Value} {o3 : Option Value} {o4 : Option Value} {o5 : Option Value} (r1 : R32 x1) (k1 : 999 < x1 → X E d fX7_advise 22 [o0, some (J x1), o2, o3, o4, o5] [] S (mI M) Q) (k2 : x1 ≤ 999 → X E d fX7_advise 11 [o0, some (J x1), o2, o3, o4, o5] [] S (mI M) Q) : X E d fX7_advise 4 [o0, some (J x1), o2, o3, o4, o5] [] S (mI M) Q := by
  refine X_iload_n 5 (by decide +kernel : decode cX7_advise 4 = .ok (.iload_n 1, 1)) rfl rfl rfl ?_
  refine X_sipush 8 (999) (by decide +kernel : decode cX7_advise 5 = .ok (.sipush 999, 3)) rfl rfl (by decide +kernel) ?_
  exact X_icmpgt 22 11 (by decide +kernel : decode cX7_advise 8 = .ok (.if_icmp .gt 14, 3)) rfl rfl (by decide) r1 ⟨by decide, by decide⟩ k1 k2
theorem kX7_advise_11 {o0 : Option Value} {o1 : Option Value} {x2 : Int} {o3 : Option Value} {o4 : Option Value} {o5 : Option Value} (r1 : R32 x2) (k1 : x2 < 1 → X E d fX7_advise 22 [o0, o1, some (J x2), o3, o4, o5] [] S (mI M) Q) (k2 : 1 ≤ x2 → X E d fX7_advise 16 [o0, o1, some (J x2), o3, o4, o5] [] S (mI M) Q) : X E d fX7_advise 11 [o0, o1, some (J x2), o3, o4, o5] [] S (mI M) Q := by
  refine X_iload_n 12 (by decide +kernel : decode cX7_advise 11 = .ok (.iload_n 2, 1)) rfl rfl rfl ?_
  refine X_iconst 13 (by decide +kernel : decode cX7_advise 12 = .ok (.iconst 1, 1)) rfl rfl ?_
  exact X_icmplt 22 16 (by decide +kernel : decode cX7_advise 13 = .ok (.if_icmp .lt 9, 3)) rfl rfl (by decide) r1 ⟨by decide, by decide⟩ k1 k2
theorem kX7_advise_16 {o0 : Option Value} {o1 : Option Value} {x2 : Int} {o3 : Option Value} {o4 : Option Value} {o5 : Option Value} (r1 : R32 x2) (k1 : x2 ≤ 90 → X E d fX7_advise 33 [o0, o1, some (J x2), o3, o4, o5] [] S (mI M) Q) (k2 : 90 < x2 → X E d fX7_advise 22 [o0, o1, some (J x2), o3, o4, o5] [] S (mI M) Q) : X E d fX7_advise 16 [o0, o1, some (J x2), o3, o4, o5] [] S (mI M) Q := by
  refine X_iload_n 17 (by decide +kernel : decode cX7_advise 16 = .ok (.iload_n 2, 1)) rfl rfl rfl ?_
  refine X_bipush 19 (90) (by decide +kernel : decode cX7_advise 17 = .ok (.bipush 90, 2)) rfl rfl (by decide +kernel) ?_
  exact X_icmple 33 22 (by decide +kernel : decode cX7_advise 19 = .ok (.if_icmp .le 14, 3)) rfl rfl (by decide) r1 ⟨by decide, by decide⟩ k1 k2
theorem kX7_advise_33 {o0 : Option Value} {o1 : Option Value} {o2 : Option Value} {o3 : Option Value} {o4 : Option Value} {o5 : Option Value} (k : X E d fX7_advise 41 [o0, o1, o2, some (J (-1)), some (J 0), some (J (-1))] [] S (mI M) Q) : X E d fX7_advise 33 [o0, o1, o2, o3, o4, o5] [] S (mI M) Q := by
  refine X_iconst 34 (by decide +kernel : decode cX7_advise 33 = .ok (.iconst (-1), 1)) rfl rfl ?_
  refine X_istore_n 35 (by decide +kernel : decode cX7_advise 34 = .ok (.istore_n 3, 1)) rfl rfl (Nat.le_of_ble_eq_true rfl) rfl ?_
  refine X_iconst 36 (by decide +kernel : decode cX7_advise 35 = .ok (.iconst 0, 1)) rfl rfl ?_
  refine X_istore 38 (by decide +kernel : decode cX7_advise 36 = .ok (.istore 4, 2)) rfl rfl (Nat.le_of_ble_eq_true rfl) rfl ?_
  refine X_iconst 39 (by decide +kernel : decode cX7_advise 38 = .ok (.iconst (-1), 1)) rfl rfl ?_
  refine X_istore 41 (by decide +kernel : decode cX7_advise 39 = .ok (.istore 5, 2)) rfl rfl (Nat.le_of_ble_eq_true rfl) rfl ?_
  exact k
theorem kX7_advise_41 {a0 : Nat} {o1 : Option Value} {o2 : Option Value} {o3 : Option Value} {o4 : Option Value} {x5 : Int} {b2 : Nat} (g1 : aKd S a0 = 9) (p3 : aP S a0 8 = some b2) (g4 : aKd S b2 = 5) (r5 : R32 x5) (r6 : R32 (M b2 2)) (k1 : (M b2 2) ≤ x5 → X E d fX7_advise 126 [some (.ref a0), o1, o2, o3, o4, some (J x5)] [] S (mI M) Q) (k2 : x5 < (M b2 2) → X E d fX7_advise 53 [some (.ref a0), o1, o2, o3, o4, some (J x5)] [] S (mI M) Q) : X E d fX7_advise 41 [some (.ref a0), o1, o2, o3, o4, some (J x5)] [] S (mI M) Q := by
  refine X_iload 43 (by decide +kernel : decode cX7_advise 41 = .ok (.iload 5, 2)) rfl rfl rfl ?_
  refine X_aload_n 44 (by decide +kernel : decode cX7_advise 43 = .ok (.aload_n 0, 1)) rfl rfl rfl ?_
  refine X_getR 47 (by decide +kernel : decode cX7_advise 44 = .ok (.getfield 48, 3)) rfl rfl (by decide +kernel : aFd 9 48 = some (9, 8, true, false)) g1 p3 ?_
  refine X_getI 50 (by decide +kernel : decode cX7_advise 47 = .ok (.getfield 137, 3)) rfl rfl (by decide +kernel : aFd 9 137 = some (5, 2, false, false)) g4 ?_
  exact X_icmpge 126 53 (by decide +kernel : decode cX7_advise 50 = .ok (.if_icmp .ge 76, 3)) rfl rfl (by decide) r5 r6 k1 k2
theorem kX7_advise_53 {a0 : Nat} {o1 : Option Value} {o2 : Option Value} {o3 : Option Value} {o4 : Option Value} {o5 : Option Value} {b2 : Nat} {b5 : Nat} (g1 : aKd S a0 = 9) (p3 : aP S a0 7 = some b2) (p6 : aP S a0 6 = some b5) (hd1 : 1 ≤ d) (k : X E (d - 1) fX6_copyFrom 0 [some (.ref b2), some (.ref b5)] [] S (mI M) (Kr E d fX7_advise 64 [some (.ref a0), o1, o2, o3, o4, o5] [] Q)) (g7 : aKd S b2 = 8) : X E d fX7_advise 53 [some (.ref a0), o1, o2, o3, o4, o5] [] S (mI M) Q := by
  refine X_aload_n 54 (by decide +kernel : decode cX7_advise 53 = .ok (.aload_n 0, 1)) rfl rfl rfl ?_
  refine X_getR 57 (by decide +kernel : decode cX7_advise 54 = .ok (.getfield 67, 3)) rfl rfl (by decide +kernel : aFd 9 67 = some (9, 7, true, true)) g1 p3 ?_
  refine X_aload_n 58 (by decide +kernel : decode cX7_advise 57 = .ok (.aload_n 0, 1)) rfl rfl rfl ?_
  refine X_getR 61 (by decide +kernel : decode cX7_advise 58 = .ok (.getfield 63, 3)) rfl rfl (by decide +kernel : aFd 9 63 = some (9, 6, true, true)) g1 p6 ?_
  exact X_cv (as := [.ref b5]) (rest := []) (by decide +kernel : decode cX7_advise 61 = .ok (.invokevirtual 245, 3)) (Or.inl ⟨rfl, rfl, rfl⟩) rfl rfl rfl rfl rfl (Nat.le_of_ble_eq_true rfl) (Or.inr (Or.inr (by rw [g7]; rfl))) hd1 k
theorem kX7_advise_64 {a0 : Nat} {x1 : Int} {x2 : Int} {o3 : Option Value} {o4 : Option Value} {x5 : Int} {b2 : Nat} (g1 : aKd S a0 = 9) (p3 : aP S a0 7 = some b2) (g4 : aK S b2 = 8) (hd1 : 1 ≤ d) (k : X E (d - 1) fX6_letGo 0 [some (.ref b2), some (J x2), none, none, none, none] [] S (mI (mW (mW M b2 16 x5) b2 17 x1)) (Kr E d fX7_advise 89 [some (.ref a0), some (J x1), some (J x2), o3, o4, some (J x5)] [] Q)) (g12 : aKd S b2 = 8) : X E d fX7_advise 64 [some (.ref a0), some (J x1), some (J x2), o3, o4, some (J x5)] [] S (mI M) Q := by
  refine X_aload_n 65 (by decide +kernel : decode cX7_advise 64 = .ok (.aload_n 0, 1)) rfl rfl rfl ?_
  refine X_getR 68 (by decide +kernel : decode cX7_advise 65 = .ok (.getfield 67, 3)) rfl rfl (by decide +kernel : aFd 9 67 = some (9, 7, true, true)) g1 p3 ?_
  refine X_iload 70 (by decide +kernel : decode cX7_advise 68 = .ok (.iload 5, 2)) rfl rfl rfl ?_
  refine X_putI 73 (by decide +kernel : decode cX7_advise 70 = .ok (.putfield 281, 3)) rfl rfl (by decide +kernel : aFd 9 281 = some (8, 16, false, false)) (Or.inl rfl) g4 rfl rfl ?_
  refine X_aload_n 74 (by decide +kernel : decode cX7_advise 73 = .ok (.aload_n 0, 1)) rfl rfl rfl ?_
  refine X_getR 77 (by decide +kernel : decode cX7_advise 74 = .ok (.getfield 67, 3)) rfl rfl (by decide +kernel : aFd 9 67 = some (9, 7, true, true)) g1 p3 ?_
  refine X_iload_n 78 (by decide +kernel : decode cX7_advise 77 = .ok (.iload_n 1, 1)) rfl rfl rfl ?_
  refine X_putI 81 (by decide +kernel : decode cX7_advise 78 = .ok (.putfield 284, 3)) rfl rfl (by decide +kernel : aFd 9 284 = some (8, 17, false, false)) (Or.inl rfl) g4 rfl rfl ?_
  refine X_aload_n 82 (by decide +kernel : decode cX7_advise 81 = .ok (.aload_n 0, 1)) rfl rfl rfl ?_
  refine X_getR 85 (by decide +kernel : decode cX7_advise 82 = .ok (.getfield 67, 3)) rfl rfl (by decide +kernel : aFd 9 67 = some (9, 7, true, true)) g1 p3 ?_
  refine X_iload_n 86 (by decide +kernel : decode cX7_advise 85 = .ok (.iload_n 2, 1)) rfl rfl rfl ?_
  exact X_cv (as := [J x2]) (rest := []) (by decide +kernel : decode cX7_advise 86 = .ok (.invokevirtual 274, 3)) (Or.inl ⟨rfl, rfl, rfl⟩) rfl rfl rfl rfl rfl (Nat.le_of_ble_eq_true rfl) (Or.inr (Or.inr (by rw [g12]; rfl))) hd1 k
theorem kX7_advise_89 {o0 : Option Value} {o1 : Option Value} {o2 : Option Value} {o3 : Option Value} {o4 : Option Value} {x5 : Int} {t0 : Int} (r1 : R32 x5) (k1 : x5 = (-1) → X E d fX7_advise 108 [o0, o1, o2, o3, o4, some (J x5)] [] S (mI M) Q) (k2 : x5 ≠ (-1) → X E d fX7_advise 96 [o0, o1, o2, o3, o4, some (J x5)] [] S (mI M) Q) : X E d fX7_advise 89 [o0, o1, o2, o3, o4, some (J x5)] [J t0] S (mI M) Q := by
  refine X_pop 90 (by decide +kernel : decode cX7_advise 89 = .ok (.pop, 1)) rfl rfl rfl ?_
  refine X_iload 92 (by decide +kernel : decode cX7_advise 90 = .ok (.iload 5, 2)) rfl rfl rfl ?_
  refine X_iconst 93 (by decide +kernel : decode cX7_advise 92 = .ok (.iconst (-1), 1)) rfl rfl ?_
  exact X_icmpeq 108 96 (by decide +kernel : decode cX7_advise 93 = .ok (.if_icmp .eq 15, 3)) rfl rfl (by decide) r1 ⟨by decide, by decide⟩ k1 k2
theorem kX7_advise_96 {a0 : Nat} {o1 : Option Value} {o2 : Option Value} {o3 : Option Value} {x4 : Int} {o5 : Option Value} {b2 : Nat} (g1 : aKd S a0 = 9) (p3 : aP S a0 7 = some b2) (g4 : aKd S b2 = 8) (r5 : R32 (M b2 3)) (r6 : R32 x4) (k1 : (M b2 3) ≤ x4 → X E d fX7_advise 120 [some (.ref a0), o1, o2, o3, some (J x4), o5] [] S (mI M) Q) (k2 : x4 < (M b2 3) → X E d fX7_advise 108 [some (.ref a0), o1, o2, o3, some (J x4), o5] [] S (mI M) Q) : X E d fX7_advise 96 [some (.ref a0), o1, o2, o3, some (J x4), o5] [] S (mI M) Q := by
  refine X_aload_n 97 (by decide +kernel : decode cX7_advise 96 = .ok (.aload_n 0, 1)) rfl rfl rfl ?_
  refine X_getR 100 (by decide +kernel : decode cX7_advise 97 = .ok (.getfield 67, 3)) rfl rfl (by decide +kernel : aFd 9 67 = some (9, 7, true, true)) g1 p3 ?_
  refine X_getI 103 (by decide +kernel : decode cX7_advise 100 = .ok (.getfield 128, 3)) rfl rfl (by decide +kernel : aFd 9 128 = some (8, 3, false, false)) g4 ?_
  refine X_iload 105 (by decide +kernel : decode cX7_advise 103 = .ok (.iload 4, 2)) rfl rfl rfl ?_
  exact X_icmple 120 108 (by decide +kernel : decode cX7_advise 105 = .ok (.if_icmp .le 15, 3)) rfl rfl (by decide) r5 r6 k1 k2
theorem kX7_advise_108 {a0 : Nat} {o1 : Option Value} {o2 : Option Value} {o3 : Option Value} {o4 : Option Value} {x5 : Int} {b2 : Nat} (g1 : aKd S a0 = 9) (p3 : aP S a0 7 = some b2) (g4 : aKd S b2 = 8) (k : X E d fX7_advise 120 [some (.ref a0), o1, o2, some (J x5), some (J (M b2 3)), some (J x5)] [] S (mI M) Q) : X E d fX7_advise 108 [some (.ref a0), o1, o2, o3, o4, some (J x5)] [] S (mI M) Q := by
  refine X_iload 110 (by decide +kernel : decode cX7_advise 108 = .ok (.iload 5, 2)) rfl rfl rfl ?_
  refine X_istore_n 111 (by decide +kernel : decode cX7_advise 110 = .ok (.istore_n 3, 1)) rfl rfl (Nat.le_of_ble_eq_true rfl) rfl ?_
  refine X_aload_n 112 (by decide +kernel : decode cX7_advise 111 = .ok (.aload_n 0, 1)) rfl rfl rfl ?_
  refine X_getR 115 (by decide +kernel : decode cX7_advise 112 = .ok (.getfield 67, 3)) rfl rfl (by decide +kernel : aFd 9 67 = some (9, 7, true, true)) g1 p3 ?_
  refine X_getI 118 (by decide +kernel : decode cX7_advise 115 = .ok (.getfield 128, 3)) rfl rfl (by decide +kernel : aFd 9 128 = some (8, 3, false, false)) g4 ?_
  refine X_istore 120 (by decide +kernel : decode cX7_advise 118 = .ok (.istore 4, 2)) rfl rfl (Nat.le_of_ble_eq_true rfl) rfl ?_
  exact k
theorem kX7_advise_120 {o0 : Option Value} {o1 : Option Value} {o2 : Option Value} {o3 : Option Value} {o4 : Option Value} {x5 : Int} (k : X E d fX7_advise 41 [o0, o1, o2, o3, o4, some (J (x5 + 1))] [] S (mI M) Q) : X E d fX7_advise 120 [o0, o1, o2, o3, o4, some (J x5)] [] S (mI M) Q := by
  refine X_iinc 123 (by decide +kernel : decode cX7_advise 120 = .ok (.iinc 5 1, 3)) rfl rfl rfl rfl ?_
  exact X_goto 41 (by decide +kernel : decode cX7_advise 123 = .ok (.goto (-82), 3)) rfl (by decide) k
theorem kX7_advise_126 {o0 : Option Value} {o1 : Option Value} {o2 : Option Value} {x3 : Int} {o4 : Option Value} {o5 : Option Value} (q : Q (some (some (J x3))) S (mI M)) : X E d fX7_advise 126 [o0, o1, o2, some (J x3), o4, o5] [] S (mI M) Q := by
  refine X_iload_n 127 (by decide +kernel : decode cX7_advise 126 = .ok (.iload_n 3, 1)) rfl rfl rfl ?_
  exact X_iret (by decide +kernel : decode cX7_advise 127 = .ok (.ireturn, 1)) rfl rfl rfl q
theorem kX7_widen_0 {o0 : Option Value} {x1 : Int} {o2 : Option Value} {o3 : Option Value} {o4 : Option Value} {o5 : Option Value} (r1 : R32 x1) (k1 : x1 < 1 → X E d fX7_widen 11 [o0, some (J x1), o2, o3, o4, o5] [] S (mI M) Q) (k2 : 1 ≤ x1 → X E d fX7_widen 5 [o0, some (J x1), o2, o3, o4, o5] [] S (mI M) Q) : X E d fX7_widen 0 [o0, some (J x1), o2, o3, o4, o5] [] S (mI M) Q := by
  refine X_iload_n 1 (by decide +kernel : decode cX7_widen 0 = .ok (.iload_n 1, 1)) rfl rfl rfl ?_
  refine X_iconst 2 (by decide +kernel : decode cX7_widen 1 = .ok (.iconst 1, 1)) rfl rfl ?_
  exact X_icmplt 11 5 (by decide +kernel : decode cX7_widen 2 = .ok (.if_icmp .lt 9, 3)) rfl rfl (by decide) r1 ⟨by decide, by decide⟩ k1 k2
theorem kX7_widen_5 {o0 : Option Value} {x1 : Int} {o2 : Option Value} {o3 : Option Value} {o4 : Option Value} {o5 : Option Value} (r1 : R32 x1) (k1 : x1 ≤ 90 → X E d fX7_widen 22 [o0, some (J x1), o2, o3, o4, o5] [] S (mI M) Q) (k2 : 90 < x1 → X E d fX7_widen 11 [o0, some (J x1), o2, o3, o4, o5] [] S (mI M) Q) : X E d fX7_widen 5 [o0, some (J x1), o2, o3, o4, o5] [] S (mI M) Q := by
  refine X_iload_n 6 (by decide +kernel : decode cX7_widen 5 = .ok (.iload_n 1, 1)) rfl rfl rfl ?_
  refine X_bipush 8 (90) (by decide +kernel : decode cX7_widen 6 = .ok (.bipush 90, 2)) rfl rfl (by decide +kernel) ?_
  exact X_icmple 22 11 (by decide +kernel : decode cX7_widen 8 = .ok (.if_icmp .le 14, 3)) rfl rfl (by decide) r1 ⟨by decide, by decide⟩ k1 k2
theorem kX7_widen_22 {o0 : Option Value} {o1 : Option Value} {o2 : Option Value} {o3 : Option Value} {o4 : Option Value} {o5 : Option Value} (k : X E d fX7_widen 29 [o0, o1, some (J (-1)), some (J 0), some (J 0), o5] [] S (mI M) Q) : X E d fX7_widen 22 [o0, o1, o2, o3, o4, o5] [] S (mI M) Q := by
  refine X_iconst 23 (by decide +kernel : decode cX7_widen 22 = .ok (.iconst (-1), 1)) rfl rfl ?_
  refine X_istore_n 24 (by decide +kernel : decode cX7_widen 23 = .ok (.istore_n 2, 1)) rfl rfl (Nat.le_of_ble_eq_true rfl) rfl ?_
  refine X_iconst 25 (by decide +kernel : decode cX7_widen 24 = .ok (.iconst 0, 1)) rfl rfl ?_
  refine X_istore_n 26 (by decide +kernel : decode cX7_widen 25 = .ok (.istore_n 3, 1)) rfl rfl (Nat.le_of_ble_eq_true rfl) rfl ?_
  refine X_iconst 27 (by decide +kernel : decode cX7_widen 26 = .ok (.iconst 0, 1)) rfl rfl ?_
  refine X_istore 29 (by decide +kernel : decode cX7_widen 27 = .ok (.istore 4, 2)) rfl rfl (Nat.le_of_ble_eq_true rfl) rfl ?_
  exact k
theorem kX7_widen_29 {a0 : Nat} {o1 : Option Value} {o2 : Option Value} {o3 : Option Value} {x4 : Int} {o5 : Option Value} {b2 : Nat} (g1 : aKd S a0 = 9) (p3 : aP S a0 8 = some b2) (g4 : aKd S b2 = 5) (r5 : R32 x4) (r6 : R32 (M b2 3)) (k1 : (M b2 3) ≤ x4 → X E d fX7_widen 107 [some (.ref a0), o1, o2, o3, some (J x4), o5] [] S (mI M) Q) (k2 : x4 < (M b2 3) → X E d fX7_widen 41 [some (.ref a0), o1, o2, o3, some (J x4), o5] [] S (mI M) Q) : X E d fX7_widen 29 [some (.ref a0), o1, o2, o3, some (J x4), o5] [] S (mI M) Q := by
  refine X_iload 31 (by decide +kernel : decode cX7_widen 29 = .ok (.iload 4, 2)) rfl rfl rfl ?_
  refine X_aload_n 32 (by decide +kernel : decode cX7_widen 31 = .ok (.aload_n 0, 1)) rfl rfl rfl ?_
  refine X_getR 35 (by decide +kernel : decode cX7_widen 32 = .ok (.getfield 48, 3)) rfl rfl (by decide +kernel : aFd 9 48 = some (9, 8, true, false)) g1 p3 ?_
  refine X_getI 38 (by decide +kernel : decode cX7_widen 35 = .ok (.getfield 140, 3)) rfl rfl (by decide +kernel : aFd 9 140 = some (5, 3, false, false)) g4 ?_
  exact X_icmpge 107 41 (by decide +kernel : decode cX7_widen 38 = .ok (.if_icmp .ge 69, 3)) rfl rfl (by decide) r5 r6 k1 k2
theorem kX7_widen_41 {a0 : Nat} {o1 : Option Value} {o2 : Option Value} {o3 : Option Value} {o4 : Option Value} {o5 : Option Value} {b2 : Nat} {b5 : Nat} (g1 : aKd S a0 = 9) (p3 : aP S a0 7 = some b2) (p6 : aP S a0 6 = some b5) (hd1 : 1 ≤ d) (k : X E (d - 1) fX6_copyFrom 0 [some (.ref b2), some (.ref b5)] [] S (mI M) (Kr E d fX7_widen 52 [some (.ref a0), o1, o2, o3, o4, o5] [] Q)) (g7 : aKd S b2 = 8) : X E d fX7_widen 41 [some (.ref a0), o1, o2, o3, o4, o5] [] S (mI M) Q := by
  refine X_aload_n 42 (by decide +kernel : decode cX7_widen 41 = .ok (.aload_n 0, 1)) rfl rfl rfl ?_
  refine X_getR 45 (by decide +kernel : decode cX7_widen 42 = .ok (.getfield 67, 3)) rfl rfl (by decide +kernel : aFd 9 67 = some (9, 7, true, true)) g1 p3 ?_
  refine X_aload_n 46 (by decide +kernel : decode cX7_widen 45 = .ok (.aload_n 0, 1)) rfl rfl rfl ?_
  refine X_getR 49 (by decide +kernel : decode cX7_widen 46 = .ok (.getfield 63, 3)) rfl rfl (by decide +kernel : aFd 9 63 = some (9, 6, true, true)) g1 p6 ?_
  exact X_cv (as := [.ref b5]) (rest := []) (by decide +kernel : decode cX7_widen 49 = .ok (.invokevirtual 245, 3)) (Or.inl ⟨rfl, rfl, rfl⟩) rfl rfl rfl rfl rfl (Nat.le_of_ble_eq_true rfl) (Or.inr (Or.inr (by rw [g7]; rfl))) hd1 k
theorem kX7_widen_52 {a0 : Nat} {x1 : Int} {o2 : Option Value} {o3 : Option Value} {x4 : Int} {o5 : Option Value} {b2 : Nat} {b5 : Nat} (g1 : aKd S a0 = 9) (p3 : aP S a0 7 = some b2) (g4 : aKd S b2 = 8) (p6 : aP S b2 12 = some b5) (g7 : aK S b5 = 100) (r8 : R32 x4) (h9 : (0 : Int) ≤ x4 ∧ x4 < (aN S b5 : Int)) (hd1 : 1 ≤ d) (k : X E (d - 1) fX6_letGo 0 [some (.ref b2), some (J x1), none, none, none, none] [] S (mI (mW M b5 x4.toNat 16)) (Kr E d fX7_widen 72 [some (.ref a0), some (J x1), o2, o3, some (J x4), o5] [] Q)) : X E d fX7_widen 52 [some (.ref a0), some (J x1), o2, o3, some (J x4), o5] [] S (mI M) Q := by
  refine X_aload_n 53 (by decide +kernel : decode cX7_widen 52 = .ok (.aload_n 0, 1)) rfl rfl rfl ?_
  refine X_getR 56 (by decide +kernel : decode cX7_widen 53 = .ok (.getfield 67, 3)) rfl rfl (by decide +kernel : aFd 9 67 = some (9, 7, true, true)) g1 p3 ?_
  refine X_getR 59 (by decide +kernel : decode cX7_widen 56 = .ok (.getfield 218, 3)) rfl rfl (by decide +kernel : aFd 9 218 = some (8, 12, true, true)) g4 p6 ?_
  refine X_iload 61 (by decide +kernel : decode cX7_widen 59 = .ok (.iload 4, 2)) rfl rfl rfl ?_
  refine X_bipush 63 (16) (by decide +kernel : decode cX7_widen 61 = .ok (.bipush 16, 2)) rfl rfl (by decide +kernel) ?_
  refine X_iast 64 (by decide +kernel : decode cX7_widen 63 = .ok (.iastore, 1)) rfl rfl g7 r8 h9 ?_
  refine X_aload_n 65 (by decide +kernel : decode cX7_widen 64 = .ok (.aload_n 0, 1)) rfl rfl rfl ?_
  refine X_getR 68 (by decide +kernel : decode cX7_widen 65 = .ok (.getfield 67, 3)) rfl rfl (by decide +kernel : aFd 9 67 = some (9, 7, true, true)) g1 p3 ?_
  refine X_iload_n 69 (by decide +kernel : decode cX7_widen 68 = .ok (.iload_n 1, 1)) rfl rfl rfl ?_
  exact X_cv (as := [J x1]) (rest := []) (by decide +kernel : decode cX7_widen 69 = .ok (.invokevirtual 274, 3)) (Or.inl ⟨rfl, rfl, rfl⟩) rfl rfl rfl rfl rfl (Nat.le_of_ble_eq_true rfl) (Or.inr (Or.inr (by rw [g4]; rfl))) hd1 k
theorem kX7_widen_72 {a0 : Nat} {o1 : Option Value} {o2 : Option Value} {o3 : Option Value} {o4 : Option Value} {o5 : Option Value} {t0 : Int} {b2 : Nat} (g1 : aKd S a0 = 9) (p3 : aP S a0 7 = some b2) (hd1 : 1 ≤ d) (k : X E (d - 1) fX6_total 0 [some (.ref b2), some (J 7)] [] S (mI M) (Kr E d fX7_widen 82 [some (.ref a0), o1, o2, o3, o4, o5] [] Q)) (g4 : aKd S b2 = 8) : X E d fX7_widen 72 [some (.ref a0), o1, o2, o3, o4, o5] [J t0] S (mI M) Q := by
  refine X_pop 73 (by decide +kernel : decode cX7_widen 72 = .ok (.pop, 1)) rfl rfl rfl ?_
  refine X_aload_n 74 (by decide +kernel : decode cX7_widen 73 = .ok (.aload_n 0, 1)) rfl rfl rfl ?_
  refine X_getR 77 (by decide +kernel : decode cX7_widen 74 = .ok (.getfield 67, 3)) rfl rfl (by decide +kernel : aFd 9 67 = some (9, 7, true, true)) g1 p3 ?_
  refine X_bipush 79 (7) (by decide +kernel : decode cX7_widen 77 = .ok (.bipush 7, 2)) rfl rfl (by decide +kernel) ?_
  exact X_cv (as := [J 7]) (rest := []) (by decide +kernel : decode cX7_widen 79 = .ok (.invokevirtual 146, 3)) (Or.inl ⟨rfl, rfl, rfl⟩) rfl rfl rfl rfl rfl (Nat.le_of_ble_eq_true rfl) (Or.inr (Or.inr (by rw [g4]; rfl))) hd1 k
theorem kX7_widen_82 {o0 : Option Value} {o1 : Option Value} {x2 : Int} {o3 : Option Value} {o4 : Option Value} {o5 : Option Value} {t0 : Int} (r1 : R32 x2) (k1 : x2 = (-1) → X E d fX7_widen 95 [o0, o1, some (J x2), o3, o4, some (J t0)] [] S (mI M) Q) (k2 : x2 ≠ (-1) → X E d fX7_widen 89 [o0, o1, some (J x2), o3, o4, some (J t0)] [] S (mI M) Q) : X E d fX7_widen 82 [o0, o1, some (J x2), o3, o4, o5] [J t0] S (mI M) Q := by
  refine X_istore 84 (by decide +kernel : decode cX7_widen 82 = .ok (.istore 5, 2)) rfl rfl (Nat.le_of_ble_eq_true rfl) rfl ?_
  refine X_iload_n 85 (by decide +kernel : decode cX7_widen 84 = .ok (.iload_n 2, 1)) rfl rfl rfl ?_
  refine X_iconst 86 (by decide +kernel : decode cX7_widen 85 = .ok (.iconst (-1), 1)) rfl rfl ?_
  exact X_icmpeq 95 89 (by decide +kernel : decode cX7_widen 86 = .ok (.if_icmp .eq 9, 3)) rfl rfl (by decide) r1 ⟨by decide, by decide⟩ k1 k2
theorem kX7_widen_89 {o0 : Option Value} {o1 : Option Value} {o2 : Option Value} {x3 : Int} {o4 : Option Value} {x5 : Int} (r1 : R32 x5) (r2 : R32 x3) (k1 : x5 ≤ x3 → X E d fX7_widen 101 [o0, o1, o2, some (J x3), o4, some (J x5)] [] S (mI M) Q) (k2 : x3 < x5 → X E d fX7_widen 95 [o0, o1, o2, some (J x3), o4, some (J x5)] [] S (mI M) Q) : X E d fX7_widen 89 [o0, o1, o2, some (J x3), o4, some (J x5)] [] S (mI M) Q := by
  refine X_iload 91 (by decide +kernel : decode cX7_widen 89 = .ok (.iload 5, 2)) rfl rfl rfl ?_
  refine X_iload_n 92 (by decide +kernel : decode cX7_widen 91 = .ok (.iload_n 3, 1)) rfl rfl rfl ?_
  exact X_icmple 101 95 (by decide +kernel : decode cX7_widen 92 = .ok (.if_icmp .le 9, 3)) rfl rfl (by decide) r1 r2 k1 k2
theorem kX7_widen_95 {o0 : Option Value} {o1 : Option Value} {o2 : Option Value} {o3 : Option Value} {x4 : Int} {x5 : Int} (k : X E d fX7_widen 101 [o0, o1, some (J x4), some (J x5), some (J x4), some (J x5)] [] S (mI M) Q) : X E d fX7_widen 95 [o0, o1, o2, o3, some (J x4), some (J x5)] [] S (mI M) Q := by
  refine X_iload 97 (by decide +kernel : decode cX7_widen 95 = .ok (.iload 4, 2)) rfl rfl rfl ?_
  refine X_istore_n 98 (by decide +kernel : decode cX7_widen 97 = .ok (.istore_n 2, 1)) rfl rfl (Nat.le_of_ble_eq_true rfl) rfl ?_
  refine X_iload 100 (by decide +kernel : decode cX7_widen 98 = .ok (.iload 5, 2)) rfl rfl rfl ?_
  refine X_istore_n 101 (by decide +kernel : decode cX7_widen 100 = .ok (.istore_n 3, 1)) rfl rfl (Nat.le_of_ble_eq_true rfl) rfl ?_
  exact k
theorem kX7_widen_101 {o0 : Option Value} {o1 : Option Value} {o2 : Option Value} {o3 : Option Value} {x4 : Int} {o5 : Option Value} (k : X E d fX7_widen 29 [o0, o1, o2, o3, some (J (x4 + 1)), o5] [] S (mI M) Q) : X E d fX7_widen 101 [o0, o1, o2, o3, some (J x4), o5] [] S (mI M) Q := by
  refine X_iinc 104 (by decide +kernel : decode cX7_widen 101 = .ok (.iinc 4 1, 3)) rfl rfl rfl rfl ?_
  exact X_goto 29 (by decide +kernel : decode cX7_widen 104 = .ok (.goto (-75), 3)) rfl (by decide) k
theorem kX7_widen_107 {o0 : Option Value} {o1 : Option Value} {x2 : Int} {o3 : Option Value} {o4 : Option Value} {o5 : Option Value} (q : Q (some (some (J x2))) S (mI M)) : X E d fX7_widen 107 [o0, o1, some (J x2), o3, o4, o5] [] S (mI M) Q := by
  refine X_iload_n 108 (by decide +kernel : decode cX7_widen 107 = .ok (.iload_n 2, 1)) rfl rfl rfl ?_
  exact X_iret (by decide +kernel : decode cX7_widen 108 = .ok (.ireturn, 1)) rfl rfl rfl q
theorem kX7_mean_0 {a0 : Nat} {b2 : Nat} (g1 : aKd S a0 = 9) (p3 : aP S a0 8 = some b2) (g4 : aKd S b2 = 5) (r5 : R32 (M b2 1)) (k1 : (M b2 1) ≠ 0 → X E d fX7_mean 14 [some (.ref a0)] [] S (mI M) Q) (k2 : (M b2 1) = 0 → X E d fX7_mean 10 [some (.ref a0)] [] S (mI M) Q) : X E d fX7_mean 0 [some (.ref a0)] [] S (mI M) Q := by
  refine X_aload_n 1 (by decide +kernel : decode cX7_mean 0 = .ok (.aload_n 0, 1)) rfl rfl rfl ?_
  refine X_getR 4 (by decide +kernel : decode cX7_mean 1 = .ok (.getfield 48, 3)) rfl rfl (by decide +kernel : aFd 9 48 = some (9, 8, true, false)) g1 p3 ?_
  refine X_getI 7 (by decide +kernel : decode cX7_mean 4 = .ok (.getfield 134, 3)) rfl rfl (by decide +kernel : aFd 9 134 = some (5, 1, false, false)) g4 ?_
  exact X_ifne 14 10 (by decide +kernel : decode cX7_mean 7 = .ok (.ifCond .ne 7, 3)) rfl rfl (by decide) r5 k1 k2
theorem kX7_mean_10 {o0 : Option Value} (k : X E d fX7_mean 33 [o0] [.double FP.dconst0] S (mI M) Q) : X E d fX7_mean 10 [o0] [] S (mI M) Q := by
  refine X_dconst0 11 (by decide +kernel : decode cX7_mean 10 = .ok (.dconst 0, 1)) rfl rfl ?_
  exact X_goto 33 (by decide +kernel : decode cX7_mean 11 = .ok (.goto 22, 3)) rfl (by decide) k
theorem kX7_mean_14 {a0 : Nat} {b2 : Nat} (g1 : aKd S a0 = 9) (p3 : aP S a0 6 = some b2) (hd1 : 1 ≤ d) (k : X E (d - 1) fX6_total 0 [some (.ref b2), some (J 7)] [] S (mI M) (Kr E d fX7_mean 23 [some (.ref a0)] [] Q)) (g4 : aKd S b2 = 8) : X E d fX7_mean 14 [some (.ref a0)] [] S (mI M) Q := by
  refine X_aload_n 15 (by decide +kernel : decode cX7_mean 14 = .ok (.aload_n 0, 1)) rfl rfl rfl ?_
  refine X_getR 18 (by decide +kernel : decode cX7_mean 15 = .ok (.getfield 63, 3)) rfl rfl (by decide +kernel : aFd 9 63 = some (9, 6, true, true)) g1 p3 ?_
  refine X_bipush 20 (7) (by decide +kernel : decode cX7_mean 18 = .ok (.bipush 7, 2)) rfl rfl (by decide +kernel) ?_
  exact X_cv (as := [J 7]) (rest := []) (by decide +kernel : decode cX7_mean 20 = .ok (.invokevirtual 146, 3)) (Or.inl ⟨rfl, rfl, rfl⟩) rfl rfl rfl rfl rfl (Nat.le_of_ble_eq_true rfl) (Or.inr (Or.inr (by rw [g4]; rfl))) hd1 k
theorem kX7_mean_23 {a0 : Nat} {t0 : Int} {b2 : Nat} (g1 : aKd S a0 = 9) (p3 : aP S a0 8 = some b2) (g4 : aKd S b2 = 5) (h5 : FP.ddiv (FP.i2d (Int32.ofInt t0)) (FP.i2d (Int32.ofInt (M b2 1))) &&& 0x7fffffffffffffff ≤ 0x7ff0000000000000) (k : X E d fX7_mean 33 [some (.ref a0)] [.double (FP.ddiv (FP.i2d (Int32.ofInt t0)) (FP.i2d (Int32.ofInt (M b2 1))))] S (mI M) Q) : X E d fX7_mean 23 [some (.ref a0)] [J t0] S (mI M) Q := by
  refine X_i2d 24 (by decide +kernel : decode cX7_mean 23 = .ok (.i2d, 1)) rfl rfl ?_
  refine X_aload_n 25 (by decide +kernel : decode cX7_mean 24 = .ok (.aload_n 0, 1)) rfl rfl rfl ?_
  refine X_getR 28 (by decide +kernel : decode cX7_mean 25 = .ok (.getfield 48, 3)) rfl rfl (by decide +kernel : aFd 9 48 = some (9, 8, true, false)) g1 p3 ?_
  refine X_getI 31 (by decide +kernel : decode cX7_mean 28 = .ok (.getfield 134, 3)) rfl rfl (by decide +kernel : aFd 9 134 = some (5, 1, false, false)) g4 ?_
  refine X_i2d 32 (by decide +kernel : decode cX7_mean 31 = .ok (.i2d, 1)) rfl rfl ?_
  refine X_ddiv 33 (by decide +kernel : decode cX7_mean 32 = .ok (.ddiv, 1)) rfl rfl h5 ?_
  exact k
theorem kX7_mean_33 {o0 : Option Value} {w0 : UInt64} (q : Q (some (some (.double w0))) S (mI M)) : X E d fX7_mean 33 [o0] [.double w0] S (mI M) Q := by
  exact X_dret (by decide +kernel : decode cX7_mean 33 = .ok (.dreturn, 1)) rfl rfl q
theorem kX7_digest_0 {o0 : Option Value} {o1 : Option Value} {o2 : Option Value} {o3 : Option Value} {o4 : Option Value} (k : X E d fX7_digest 6 [o0, some (.long 883), none, some (J 0), o4] [] S (mI M) Q) : X E d fX7_digest 0 [o0, o1, o2, o3, o4] [] S (mI M) Q := by
  refine X_ldc2 3 (by decide +kernel : decode cX7_digest 0 = .ok (.ldc2_w 287, 3)) rfl rfl rfl ?_
  refine X_lstore_n 4 (by decide +kernel : decode cX7_digest 3 = .ok (.lstore_n 1, 1)) rfl rfl (Nat.le_of_ble_eq_true rfl) rfl ?_
  refine X_iconst 5 (by decide +kernel : decode cX7_digest 4 = .ok (.iconst 0, 1)) rfl rfl ?_
  refine X_istore_n 6 (by decide +kernel : decode cX7_digest 5 = .ok (.istore_n 3, 1)) rfl rfl (Nat.le_of_ble_eq_true rfl) rfl ?_
  exact k
theorem kX7_digest_6 {o0 : Option Value} {o1 : Option Value} {o2 : Option Value} {x3 : Int} {o4 : Option Value} (r1 : R32 x3) (k1 : 13 ≤ x3 → X E d fX7_digest 31 [o0, o1, o2, some (J x3), o4] [] S (mI M) Q) (k2 : x3 < 13 → X E d fX7_digest 12 [o0, o1, o2, some (J x3), o4] [] S (mI M) Q) : X E d fX7_digest 6 [o0, o1, o2, some (J x3), o4] [] S (mI M) Q := by
  refine X_iload_n 7 (by decide +kernel : decode cX7_digest 6 = .ok (.iload_n 3, 1)) rfl rfl rfl ?_
  refine X_bipush 9 (13) (by decide +kernel : decode cX7_digest 7 = .ok (.bipush 13, 2)) rfl rfl (by decide +kernel) ?_
  exact X_icmpge 31 12 (by decide +kernel : decode cX7_digest 9 = .ok (.if_icmp .ge 22, 3)) rfl rfl (by decide) r1 ⟨by decide, by decide⟩ k1 k2
theorem kX7_digest_12 {a0 : Nat} {z1 : Int64} {o2 : Option Value} {x3 : Int} {o4 : Option Value} (hd1 : 1 ≤ d) (k : X E (d - 1) fX7_count 0 [some (.ref a0), some (J x3)] [] S (mI M) (Kr E d fX7_digest 22 [some (.ref a0), some (.long z1), o2, some (J x3), o4] [.long (z1 * 31)] Q)) (g1 : aKd S a0 = 9) : X E d fX7_digest 12 [some (.ref a0), some (.long z1), o2, some (J x3), o4] [] S (mI M) Q := by
  refine X_lload_n 13 (by decide +kernel : decode cX7_digest 12 = .ok (.lload_n 1, 1)) rfl rfl rfl ?_
  refine X_ldc2 16 (by decide +kernel : decode cX7_digest 13 = .ok (.ldc2_w 289, 3)) rfl rfl rfl ?_
  refine X_lmul 17 (by decide +kernel : decode cX7_digest 16 = .ok (.lmul, 1)) rfl rfl ?_
  refine X_aload_n 18 (by decide +kernel : decode cX7_digest 17 = .ok (.aload_n 0, 1)) rfl rfl rfl ?_
  refine X_iload_n 19 (by decide +kernel : decode cX7_digest 18 = .ok (.iload_n 3, 1)) rfl rfl rfl ?_
  exact X_cv (as := [J x3]) (rest := [.long (z1 * 31)]) (by decide +kernel : decode cX7_digest 19 = .ok (.invokevirtual 291, 3)) (Or.inl ⟨rfl, rfl, rfl⟩) rfl rfl rfl rfl rfl (Nat.le_of_ble_eq_true rfl) (Or.inr (Or.inr (by rw [g1]; rfl))) hd1 k
theorem kX7_digest_22 {o0 : Option Value} {o1 : Option Value} {o2 : Option Value} {x3 : Int} {o4 : Option Value} {t0 : Int} {w1 : Int64} (k : X E d fX7_digest 6 [o0, some (.long (w1 + ((Int32.ofInt t0).toInt64))), none, some (J (x3 + 1)), o4] [] S (mI M) Q) : X E d fX7_digest 22 [o0, o1, o2, some (J x3), o4] [J t0, .long w1] S (mI M) Q := by
  refine X_i2l 23 (by decide +kernel : decode cX7_digest 22 = .ok (.i2l, 1)) rfl rfl ?_
  refine X_ladd 24 (by decide +kernel : decode cX7_digest 23 = .ok (.ladd, 1)) rfl rfl ?_
  refine X_lstore_n 25 (by decide +kernel : decode cX7_digest 24 = .ok (.lstore_n 1, 1)) rfl rfl (Nat.le_of_ble_eq_true rfl) rfl ?_
  refine X_iinc 28 (by decide +kernel : decode cX7_digest 25 = .ok (.iinc 3 1, 3)) rfl rfl rfl rfl ?_
  exact X_goto 6 (by decide +kernel : decode cX7_digest 28 = .ok (.goto (-22), 3)) rfl (by decide) k
theorem kX7_digest_31 {o0 : Option Value} {o1 : Option Value} {o2 : Option Value} {o3 : Option Value} {o4 : Option Value} (k : X E d fX7_digest 33 [o0, o1, o2, some (J 0), o4] [] S (mI M) Q) : X E d fX7_digest 31 [o0, o1, o2, o3, o4] [] S (mI M) Q := by
  refine X_iconst 32 (by decide +kernel : decode cX7_digest 31 = .ok (.iconst 0, 1)) rfl rfl ?_
  refine X_istore_n 33 (by decide +kernel : decode cX7_digest 32 = .ok (.istore_n 3, 1)) rfl rfl (Nat.le_of_ble_eq_true rfl) rfl ?_
  exact k
theorem kX7_digest_33 {a0 : Nat} {o1 : Option Value} {o2 : Option Value} {x3 : Int} {o4 : Option Value} {b2 : Nat} (g1 : aKd S a0 = 9) (p3 : aP S a0 8 = some b2) (g4 : aKd S b2 = 5) (r5 : R32 x3) (r6 : R32 (M b2 1)) (k1 : (M b2 1) ≤ x3 → X E d fX7_digest 80 [some (.ref a0), o1, o2, some (J x3), o4] [] S (mI M) Q) (k2 : x3 < (M b2 1) → X E d fX7_digest 44 [some (.ref a0), o1, o2, some (J x3), o4] [] S (mI M) Q) : X E d fX7_digest 33 [some (.ref a0), o1, o2, some (J x3), o4] [] S (mI M) Q := by
  refine X_iload_n 34 (by decide +kernel : decode cX7_digest 33 = .ok (.iload_n 3, 1)) rfl rfl rfl ?_
  refine X_aload_n 35 (by decide +kernel : decode cX7_digest 34 = .ok (.aload_n 0, 1)) rfl rfl rfl ?_
  refine X_getR 38 (by decide +kernel : decode cX7_digest 35 = .ok (.getfield 48, 3)) rfl rfl (by decide +kernel : aFd 9 48 = some (9, 8, true, false)) g1 p3 ?_
  refine X_getI 41 (by decide +kernel : decode cX7_digest 38 = .ok (.getfield 134, 3)) rfl rfl (by decide +kernel : aFd 9 134 = some (5, 1, false, false)) g4 ?_
  exact X_icmpge 80 44 (by decide +kernel : decode cX7_digest 41 = .ok (.if_icmp .ge 39, 3)) rfl rfl (by decide) r5 r6 k1 k2
theorem kX7_digest_44 {o0 : Option Value} {o1 : Option Value} {o2 : Option Value} {o3 : Option Value} {o4 : Option Value} (k : X E d fX7_digest 47 [o0, o1, o2, o3, some (J 0)] [] S (mI M) Q) : X E d fX7_digest 44 [o0, o1, o2, o3, o4] [] S (mI M) Q := by
  refine X_iconst 45 (by decide +kernel : decode cX7_digest 44 = .ok (.iconst 0, 1)) rfl rfl ?_
  refine X_istore 47 (by decide +kernel : decode cX7_digest 45 = .ok (.istore 4, 2)) rfl rfl (Nat.le_of_ble_eq_true rfl) rfl ?_
  exact k
theorem kX7_digest_47 {o0 : Option Value} {o1 : Option Value} {o2 : Option Value} {o3 : Option Value} {x4 : Int} (r1 : R32 x4) (k1 : 4 ≤ x4 → X E d fX7_digest 74 [o0, o1, o2, o3, some (J x4)] [] S (mI M) Q) (k2 : x4 < 4 → X E d fX7_digest 53 [o0, o1, o2, o3, some (J x4)] [] S (mI M) Q) : X E d fX7_digest 47 [o0, o1, o2, o3, some (J x4)] [] S (mI M) Q := by
  refine X_iload 49 (by decide +kernel : decode cX7_digest 47 = .ok (.iload 4, 2)) rfl rfl rfl ?_
  refine X_iconst 50 (by decide +kernel : decode cX7_digest 49 = .ok (.iconst 4, 1)) rfl rfl ?_
  exact X_icmpge 74 53 (by decide +kernel : decode cX7_digest 50 = .ok (.if_icmp .ge 24, 3)) rfl rfl (by decide) r1 ⟨by decide, by decide⟩ k1 k2
theorem kX7_digest_53 {a0 : Nat} {z1 : Int64} {o2 : Option Value} {x3 : Int} {x4 : Int} (hd1 : 1 ≤ d) (k : X E (d - 1) fX7_mile 0 [some (.ref a0), some (J x3), some (J x4)] [] S (mI M) (Kr E d fX7_digest 65 [some (.ref a0), some (.long z1), o2, some (J x3), some (J x4)] [.long (z1 * 31)] Q)) (g1 : aKd S a0 = 9) : X E d fX7_digest 53 [some (.ref a0), some (.long z1), o2, some (J x3), some (J x4)] [] S (mI M) Q := by
  refine X_lload_n 54 (by decide +kernel : decode cX7_digest 53 = .ok (.lload_n 1, 1)) rfl rfl rfl ?_
  refine X_ldc2 57 (by decide +kernel : decode cX7_digest 54 = .ok (.ldc2_w 289, 3)) rfl rfl rfl ?_
  refine X_lmul 58 (by decide +kernel : decode cX7_digest 57 = .ok (.lmul, 1)) rfl rfl ?_
  refine X_aload_n 59 (by decide +kernel : decode cX7_digest 58 = .ok (.aload_n 0, 1)) rfl rfl rfl ?_
  refine X_iload_n 60 (by decide +kernel : decode cX7_digest 59 = .ok (.iload_n 3, 1)) rfl rfl rfl ?_
  refine X_iload 62 (by decide +kernel : decode cX7_digest 60 = .ok (.iload 4, 2)) rfl rfl rfl ?_
  exact X_cv (as := [J x4, J x3]) (rest := [.long (z1 * 31)]) (by decide +kernel : decode cX7_digest 62 = .ok (.invokevirtual 293, 3)) (Or.inl ⟨rfl, rfl, rfl⟩) rfl rfl rfl rfl rfl (Nat.le_of_ble_eq_true rfl) (Or.inr (Or.inr (by rw [g1]; rfl))) hd1 k
theorem kX7_digest_65 {o0 : Option Value} {o1 : Option Value} {o2 : Option Value} {o3 : Option Value} {x4 : Int} {t0 : Int} {w1 : Int64} (k : X E d fX7_digest 47 [o0, some (.long (w1 + ((Int32.ofInt t0).toInt64))), none, o3, some (J (x4 + 1))] [] S (mI M) Q) : X E d fX7_digest 65 [o0, o1, o2, o3, some (J x4)] [J t0, .long w1] S (mI M) Q := by
  refine X_i2l 66 (by decide +kernel : decode cX7_digest 65 = .ok (.i2l, 1)) rfl rfl ?_
  refine X_ladd 67 (by decide +kernel : decode cX7_digest 66 = .ok (.ladd, 1)) rfl rfl ?_
  refine X_lstore_n 68 (by decide +kernel : decode cX7_digest 67 = .ok (.lstore_n 1, 1)) rfl rfl (Nat.le_of_ble_eq_true rfl) rfl ?_
  refine X_iinc 71 (by decide +kernel : decode cX7_digest 68 = .ok (.iinc 4 1, 3)) rfl rfl rfl rfl ?_
  exact X_goto 47 (by decide +kernel : decode cX7_digest 71 = .ok (.goto (-24), 3)) rfl (by decide) k
theorem kX7_digest_74 {o0 : Option Value} {o1 : Option Value} {o2 : Option Value} {x3 : Int} {o4 : Option Value} (k : X E d fX7_digest 33 [o0, o1, o2, some (J (x3 + 1)), o4] [] S (mI M) Q) : X E d fX7_digest 74 [o0, o1, o2, some (J x3), o4] [] S (mI M) Q := by
  refine X_iinc 77 (by decide +kernel : decode cX7_digest 74 = .ok (.iinc 3 1, 3)) rfl rfl rfl rfl ?_
  exact X_goto 33 (by decide +kernel : decode cX7_digest 77 = .ok (.goto (-44), 3)) rfl (by decide) k
theorem kX7_digest_80 {o0 : Option Value} {o1 : Option Value} {o2 : Option Value} {o3 : Option Value} {o4 : Option Value} (k : X E d fX7_digest 82 [o0, o1, o2, some (J 0), o4] [] S (mI M) Q) : X E d fX7_digest 80 [o0, o1, o2, o3, o4] [] S (mI M) Q := by
  refine X_iconst 81 (by decide +kernel : decode cX7_digest 80 = .ok (.iconst 0, 1)) rfl rfl ?_
  refine X_istore_n 82 (by decide +kernel : decode cX7_digest 81 = .ok (.istore_n 3, 1)) rfl rfl (Nat.le_of_ble_eq_true rfl) rfl ?_
  exact k
theorem kX7_digest_82 {a0 : Nat} {o1 : Option Value} {o2 : Option Value} {x3 : Int} {o4 : Option Value} {b2 : Nat} (g1 : aKd S a0 = 9) (p3 : aP S a0 8 = some b2) (g4 : aKd S b2 = 5) (r5 : R32 x3) (r6 : R32 (M b2 0)) (k1 : (M b2 0) ≤ x3 → X E d fX7_digest 130 [some (.ref a0), o1, o2, some (J x3), o4] [] S (mI M) Q) (k2 : x3 < (M b2 0) → X E d fX7_digest 93 [some (.ref a0), o1, o2, some (J x3), o4] [] S (mI M) Q) : X E d fX7_digest 82 [some (.ref a0), o1, o2, some (J x3), o4] [] S (mI M) Q := by
  refine X_iload_n 83 (by decide +kernel : decode cX7_digest 82 = .ok (.iload_n 3, 1)) rfl rfl rfl ?_
  refine X_aload_n 84 (by decide +kernel : decode cX7_digest 83 = .ok (.aload_n 0, 1)) rfl rfl rfl ?_
  refine X_getR 87 (by decide +kernel : decode cX7_digest 84 = .ok (.getfield 48, 3)) rfl rfl (by decide +kernel : aFd 9 48 = some (9, 8, true, false)) g1 p3 ?_
  refine X_getI 90 (by decide +kernel : decode cX7_digest 87 = .ok (.getfield 131, 3)) rfl rfl (by decide +kernel : aFd 9 131 = some (5, 0, false, false)) g4 ?_
  exact X_icmpge 130 93 (by decide +kernel : decode cX7_digest 90 = .ok (.if_icmp .ge 40, 3)) rfl rfl (by decide) r5 r6 k1 k2
theorem kX7_digest_93 {o0 : Option Value} {o1 : Option Value} {o2 : Option Value} {o3 : Option Value} {o4 : Option Value} (k : X E d fX7_digest 96 [o0, o1, o2, o3, some (J 0)] [] S (mI M) Q) : X E d fX7_digest 93 [o0, o1, o2, o3, o4] [] S (mI M) Q := by
  refine X_iconst 94 (by decide +kernel : decode cX7_digest 93 = .ok (.iconst 0, 1)) rfl rfl ?_
  refine X_istore 96 (by decide +kernel : decode cX7_digest 94 = .ok (.istore 4, 2)) rfl rfl (Nat.le_of_ble_eq_true rfl) rfl ?_
  exact k
theorem kX7_digest_96 {o0 : Option Value} {o1 : Option Value} {o2 : Option Value} {o3 : Option Value} {x4 : Int} (r1 : R32 x4) (k1 : 6 ≤ x4 → X E d fX7_digest 124 [o0, o1, o2, o3, some (J x4)] [] S (mI M) Q) (k2 : x4 < 6 → X E d fX7_digest 103 [o0, o1, o2, o3, some (J x4)] [] S (mI M) Q) : X E d fX7_digest 96 [o0, o1, o2, o3, some (J x4)] [] S (mI M) Q := by
  refine X_iload 98 (by decide +kernel : decode cX7_digest 96 = .ok (.iload 4, 2)) rfl rfl rfl ?_
  refine X_bipush 100 (6) (by decide +kernel : decode cX7_digest 98 = .ok (.bipush 6, 2)) rfl rfl (by decide +kernel) ?_
  exact X_icmpge 124 103 (by decide +kernel : decode cX7_digest 100 = .ok (.if_icmp .ge 24, 3)) rfl rfl (by decide) r1 ⟨by decide, by decide⟩ k1 k2
theorem kX7_digest_103 {a0 : Nat} {z1 : Int64} {o2 : Option Value} {x3 : Int} {x4 : Int} (hd1 : 1 ≤ d) (k : X E (d - 1) fX7_stretch 0 [some (.ref a0), some (J x3), some (J x4)] [] S (mI M) (Kr E d fX7_digest 115 [some (.ref a0), some (.long z1), o2, some (J x3), some (J x4)] [.long (z1 * 31)] Q)) (g1 : aKd S a0 = 9) : X E d fX7_digest 103 [some (.ref a0), some (.long z1), o2, some (J x3), some (J x4)] [] S (mI M) Q := by
  refine X_lload_n 104 (by decide +kernel : decode cX7_digest 103 = .ok (.lload_n 1, 1)) rfl rfl rfl ?_
  refine X_ldc2 107 (by decide +kernel : decode cX7_digest 104 = .ok (.ldc2_w 289, 3)) rfl rfl rfl ?_
  refine X_lmul 108 (by decide +kernel : decode cX7_digest 107 = .ok (.lmul, 1)) rfl rfl ?_
  refine X_aload_n 109 (by decide +kernel : decode cX7_digest 108 = .ok (.aload_n 0, 1)) rfl rfl rfl ?_
  refine X_iload_n 110 (by decide +kernel : decode cX7_digest 109 = .ok (.iload_n 3, 1)) rfl rfl rfl ?_
  refine X_iload 112 (by decide +kernel : decode cX7_digest 110 = .ok (.iload 4, 2)) rfl rfl rfl ?_
  exact X_cv (as := [J x4, J x3]) (rest := [.long (z1 * 31)]) (by decide +kernel : decode cX7_digest 112 = .ok (.invokevirtual 296, 3)) (Or.inl ⟨rfl, rfl, rfl⟩) rfl rfl rfl rfl rfl (Nat.le_of_ble_eq_true rfl) (Or.inr (Or.inr (by rw [g1]; rfl))) hd1 k
theorem kX7_digest_115 {o0 : Option Value} {o1 : Option Value} {o2 : Option Value} {o3 : Option Value} {x4 : Int} {t0 : Int} {w1 : Int64} (k : X E d fX7_digest 96 [o0, some (.long (w1 + ((Int32.ofInt t0).toInt64))), none, o3, some (J (x4 + 1))] [] S (mI M) Q) : X E d fX7_digest 115 [o0, o1, o2, o3, some (J x4)] [J t0, .long w1] S (mI M) Q := by
  refine X_i2l 116 (by decide +kernel : decode cX7_digest 115 = .ok (.i2l, 1)) rfl rfl ?_
  refine X_ladd 117 (by decide +kernel : decode cX7_digest 116 = .ok (.ladd, 1)) rfl rfl ?_
  refine X_lstore_n 118 (by decide +kernel : decode cX7_digest 117 = .ok (.lstore_n 1, 1)) rfl rfl (Nat.le_of_ble_eq_true rfl) rfl ?_
  refine X_iinc 121 (by decide +kernel : decode cX7_digest 118 = .ok (.iinc 4 1, 3)) rfl rfl rfl rfl ?_
  exact X_goto 96 (by decide +kernel : decode cX7_digest 121 = .ok (.goto (-25), 3)) rfl (by decide) k
theorem kX7_digest_124 {o0 : Option Value} {o1 : Option Value} {o2 : Option Value} {x3 : Int} {o4 : Option Value} (k : X E d fX7_digest 82 [o0, o1, o2, some (J (x3 + 1)), o4] [] S (mI M) Q) : X E d fX7_digest 124 [o0, o1, o2, some (J x3), o4] [] S (mI M) Q := by
  refine X_iinc 127 (by decide +kernel : decode cX7_digest 124 = .ok (.iinc 3 1, 3)) rfl rfl rfl rfl ?_
  exact X_goto 82 (by decide +kernel : decode cX7_digest 127 = .ok (.goto (-45), 3)) rfl (by decide) k
theorem kX7_digest_130 {o0 : Option Value} {o1 : Option Value} {o2 : Option Value} {o3 : Option Value} {o4 : Option Value} (k : X E d fX7_digest 132 [o0, o1, o2, some (J 0), o4] [] S (mI M) Q) : X E d fX7_digest 130 [o0, o1, o2, o3, o4] [] S (mI M) Q := by
  refine X_iconst 131 (by decide +kernel : decode cX7_digest 130 = .ok (.iconst 0, 1)) rfl rfl ?_
  refine X_istore_n 132 (by decide +kernel : decode cX7_digest 131 = .ok (.istore_n 3, 1)) rfl rfl (Nat.le_of_ble_eq_true rfl) rfl ?_
  exact k
theorem kX7_digest_132 {a0 : Nat} {o1 : Option Value} {o2 : Option Value} {x3 : Int} {o4 : Option Value} {b2 : Nat} (g1 : aKd S a0 = 9) (p3 : aP S a0 8 = some b2) (g4 : aKd S b2 = 5) (r5 : R32 x3) (r6 : R32 (M b2 2)) (k1 : (M b2 2) ≤ x3 → X E d fX7_digest 180 [some (.ref a0), o1, o2, some (J x3), o4] [] S (mI M) Q) (k2 : x3 < (M b2 2) → X E d fX7_digest 143 [some (.ref a0), o1, o2, some (J x3), o4] [] S (mI M) Q) : X E d fX7_digest 132 [some (.ref a0), o1, o2, some (J x3), o4] [] S (mI M) Q := by
  refine X_iload_n 133 (by decide +kernel : decode cX7_digest 132 = .ok (.iload_n 3, 1)) rfl rfl rfl ?_
  refine X_aload_n 134 (by decide +kernel : decode cX7_digest 133 = .ok (.aload_n 0, 1)) rfl rfl rfl ?_
  refine X_getR 137 (by decide +kernel : decode cX7_digest 134 = .ok (.getfield 48, 3)) rfl rfl (by decide +kernel : aFd 9 48 = some (9, 8, true, false)) g1 p3 ?_
  refine X_getI 140 (by decide +kernel : decode cX7_digest 137 = .ok (.getfield 137, 3)) rfl rfl (by decide +kernel : aFd 9 137 = some (5, 2, false, false)) g4 ?_
  exact X_icmpge 180 143 (by decide +kernel : decode cX7_digest 140 = .ok (.if_icmp .ge 40, 3)) rfl rfl (by decide) r5 r6 k1 k2
theorem kX7_digest_143 {o0 : Option Value} {o1 : Option Value} {o2 : Option Value} {o3 : Option Value} {o4 : Option Value} (k : X E d fX7_digest 146 [o0, o1, o2, o3, some (J 0)] [] S (mI M) Q) : X E d fX7_digest 143 [o0, o1, o2, o3, o4] [] S (mI M) Q := by
  refine X_iconst 144 (by decide +kernel : decode cX7_digest 143 = .ok (.iconst 0, 1)) rfl rfl ?_
  refine X_istore 146 (by decide +kernel : decode cX7_digest 144 = .ok (.istore 4, 2)) rfl rfl (Nat.le_of_ble_eq_true rfl) rfl ?_
  exact k
theorem kX7_digest_146 {o0 : Option Value} {o1 : Option Value} {o2 : Option Value} {o3 : Option Value} {x4 : Int} (r1 : R32 x4) (k1 : 6 ≤ x4 → X E d fX7_digest 174 [o0, o1, o2, o3, some (J x4)] [] S (mI M) Q) (k2 : x4 < 6 → X E d fX7_digest 153 [o0, o1, o2, o3, some (J x4)] [] S (mI M) Q) : X E d fX7_digest 146 [o0, o1, o2, o3, some (J x4)] [] S (mI M) Q := by
  refine X_iload 148 (by decide +kernel : decode cX7_digest 146 = .ok (.iload 4, 2)) rfl rfl rfl ?_
  refine X_bipush 150 (6) (by decide +kernel : decode cX7_digest 148 = .ok (.bipush 6, 2)) rfl rfl (by decide +kernel) ?_
  exact X_icmpge 174 153 (by decide +kernel : decode cX7_digest 150 = .ok (.if_icmp .ge 24, 3)) rfl rfl (by decide) r1 ⟨by decide, by decide⟩ k1 k2
theorem kX7_digest_153 {a0 : Nat} {z1 : Int64} {o2 : Option Value} {x3 : Int} {x4 : Int} (hd1 : 1 ≤ d) (k : X E (d - 1) fX7_gate 0 [some (.ref a0), some (J x3), some (J x4)] [] S (mI M) (Kr E d fX7_digest 165 [some (.ref a0), some (.long z1), o2, some (J x3), some (J x4)] [.long (z1 * 31)] Q)) (g1 : aKd S a0 = 9) : X E d fX7_digest 153 [some (.ref a0), some (.long z1), o2, some (J x3), some (J x4)] [] S (mI M) Q := by
  refine X_lload_n 154 (by decide +kernel : decode cX7_digest 153 = .ok (.lload_n 1, 1)) rfl rfl rfl ?_
  refine X_ldc2 157 (by decide +kernel : decode cX7_digest 154 = .ok (.ldc2_w 289, 3)) rfl rfl rfl ?_
  refine X_lmul 158 (by decide +kernel : decode cX7_digest 157 = .ok (.lmul, 1)) rfl rfl ?_
  refine X_aload_n 159 (by decide +kernel : decode cX7_digest 158 = .ok (.aload_n 0, 1)) rfl rfl rfl ?_
  refine X_iload_n 160 (by decide +kernel : decode cX7_digest 159 = .ok (.iload_n 3, 1)) rfl rfl rfl ?_
  refine X_iload 162 (by decide +kernel : decode cX7_digest 160 = .ok (.iload 4, 2)) rfl rfl rfl ?_
  exact X_cv (as := [J x4, J x3]) (rest := [.long (z1 * 31)]) (by decide +kernel : decode cX7_digest 162 = .ok (.invokevirtual 299, 3)) (Or.inl ⟨rfl, rfl, rfl⟩) rfl rfl rfl rfl rfl (Nat.le_of_ble_eq_true rfl) (Or.inr (Or.inr (by rw [g1]; rfl))) hd1 k
theorem kX7_digest_165 {o0 : Option Value} {o1 : Option Value} {o2 : Option Value} {o3 : Option Value} {x4 : Int} {t0 : Int} {w1 : Int64} (k : X E d fX7_digest 146 [o0, some (.long (w1 + ((Int32.ofInt t0).toInt64))), none, o3, some (J (x4 + 1))] [] S (mI M) Q) : X E d fX7_digest 165 [o0, o1, o2, o3, some (J x4)] [J t0, .long w1] S (mI M) Q := by
  refine X_i2l 166 (by decide +kernel : decode cX7_digest 165 = .ok (.i2l, 1)) rfl rfl ?_
  refine X_ladd 167 (by decide +kernel : decode cX7_digest 166 = .ok (.ladd, 1)) rfl rfl ?_
  refine X_lstore_n 168 (by decide +kernel : decode cX7_digest 167 = .ok (.lstore_n 1, 1)) rfl rfl (Nat.le_of_ble_eq_true rfl) rfl ?_
  refine X_iinc 171 (by decide +kernel : decode cX7_digest 168 = .ok (.iinc 4 1, 3)) rfl rfl rfl rfl ?_
  exact X_goto 146 (by decide +kernel : decode cX7_digest 171 = .ok (.goto (-25), 3)) rfl (by decide) k
theorem kX7_digest_174 {o0 : Option Value} {o1 : Option Value} {o2 : Option Value} {x3 : Int} {o4 : Option Value} (k : X E d fX7_digest 132 [o0, o1, o2, some (J (x3 + 1)), o4] [] S (mI M) Q) : X E d fX7_digest 174 [o0, o1, o2, some (J x3), o4] [] S (mI M) Q := by
  refine X_iinc 177 (by decide +kernel : decode cX7_digest 174 = .ok (.iinc 3 1, 3)) rfl rfl rfl rfl ?_
  exact X_goto 132 (by decide +kernel : decode cX7_digest 177 = .ok (.goto (-45), 3)) rfl (by decide) k
theorem kX7_digest_180 {o0 : Option Value} {o1 : Option Value} {o2 : Option Value} {o3 : Option Value} {o4 : Option Value} (k : X E d fX7_digest 182 [o0, o1, o2, some (J 0), o4] [] S (mI M) Q) : X E d fX7_digest 180 [o0, o1, o2, o3, o4] [] S (mI M) Q := by
  refine X_iconst 181 (by decide +kernel : decode cX7_digest 180 = .ok (.iconst 0, 1)) rfl rfl ?_
  refine X_istore_n 182 (by decide +kernel : decode cX7_digest 181 = .ok (.istore_n 3, 1)) rfl rfl (Nat.le_of_ble_eq_true rfl) rfl ?_
  exact k
theorem kX7_digest_182 {a0 : Nat} {o1 : Option Value} {o2 : Option Value} {x3 : Int} {o4 : Option Value} {b2 : Nat} (g1 : aKd S a0 = 9) (p3 : aP S a0 8 = some b2) (g4 : aKd S b2 = 5) (r5 : R32 x3) (r6 : R32 (M b2 3)) (k1 : (M b2 3) ≤ x3 → X E d fX7_digest 230 [some (.ref a0), o1, o2, some (J x3), o4] [] S (mI M) Q) (k2 : x3 < (M b2 3) → X E d fX7_digest 193 [some (.ref a0), o1, o2, some (J x3), o4] [] S (mI M) Q) : X E d fX7_digest 182 [some (.ref a0), o1, o2, some (J x3), o4] [] S (mI M) Q := by
  refine X_iload_n 183 (by decide +kernel : decode cX7_digest 182 = .ok (.iload_n 3, 1)) rfl rfl rfl ?_
  refine X_aload_n 184 (by decide +kernel : decode cX7_digest 183 = .ok (.aload_n 0, 1)) rfl rfl rfl ?_
  refine X_getR 187 (by decide +kernel : decode cX7_digest 184 = .ok (.getfield 48, 3)) rfl rfl (by decide +kernel : aFd 9 48 = some (9, 8, true, false)) g1 p3 ?_
  refine X_getI 190 (by decide +kernel : decode cX7_digest 187 = .ok (.getfield 140, 3)) rfl rfl (by decide +kernel : aFd 9 140 = some (5, 3, false, false)) g4 ?_
  exact X_icmpge 230 193 (by decide +kernel : decode cX7_digest 190 = .ok (.if_icmp .ge 40, 3)) rfl rfl (by decide) r5 r6 k1 k2
theorem kX7_digest_193 {o0 : Option Value} {o1 : Option Value} {o2 : Option Value} {o3 : Option Value} {o4 : Option Value} (k : X E d fX7_digest 196 [o0, o1, o2, o3, some (J 0)] [] S (mI M) Q) : X E d fX7_digest 193 [o0, o1, o2, o3, o4] [] S (mI M) Q := by
  refine X_iconst 194 (by decide +kernel : decode cX7_digest 193 = .ok (.iconst 0, 1)) rfl rfl ?_
  refine X_istore 196 (by decide +kernel : decode cX7_digest 194 = .ok (.istore 4, 2)) rfl rfl (Nat.le_of_ble_eq_true rfl) rfl ?_
  exact k
theorem kX7_digest_196 {o0 : Option Value} {o1 : Option Value} {o2 : Option Value} {o3 : Option Value} {x4 : Int} (r1 : R32 x4) (k1 : 8 ≤ x4 → X E d fX7_digest 224 [o0, o1, o2, o3, some (J x4)] [] S (mI M) Q) (k2 : x4 < 8 → X E d fX7_digest 203 [o0, o1, o2, o3, some (J x4)] [] S (mI M) Q) : X E d fX7_digest 196 [o0, o1, o2, o3, some (J x4)] [] S (mI M) Q := by
  refine X_iload 198 (by decide +kernel : decode cX7_digest 196 = .ok (.iload 4, 2)) rfl rfl rfl ?_
  refine X_bipush 200 (8) (by decide +kernel : decode cX7_digest 198 = .ok (.bipush 8, 2)) rfl rfl (by decide +kernel) ?_
  exact X_icmpge 224 203 (by decide +kernel : decode cX7_digest 200 = .ok (.if_icmp .ge 24, 3)) rfl rfl (by decide) r1 ⟨by decide, by decide⟩ k1 k2
theorem kX7_digest_203 {a0 : Nat} {z1 : Int64} {o2 : Option Value} {x3 : Int} {x4 : Int} (hd1 : 1 ≤ d) (k : X E (d - 1) fX7_traffic 0 [some (.ref a0), some (J x3), some (J x4)] [] S (mI M) (Kr E d fX7_digest 215 [some (.ref a0), some (.long z1), o2, some (J x3), some (J x4)] [.long (z1 * 31)] Q)) (g1 : aKd S a0 = 9) : X E d fX7_digest 203 [some (.ref a0), some (.long z1), o2, some (J x3), some (J x4)] [] S (mI M) Q := by
  refine X_lload_n 204 (by decide +kernel : decode cX7_digest 203 = .ok (.lload_n 1, 1)) rfl rfl rfl ?_
  refine X_ldc2 207 (by decide +kernel : decode cX7_digest 204 = .ok (.ldc2_w 289, 3)) rfl rfl rfl ?_
  refine X_lmul 208 (by decide +kernel : decode cX7_digest 207 = .ok (.lmul, 1)) rfl rfl ?_
  refine X_aload_n 209 (by decide +kernel : decode cX7_digest 208 = .ok (.aload_n 0, 1)) rfl rfl rfl ?_
  refine X_iload_n 210 (by decide +kernel : decode cX7_digest 209 = .ok (.iload_n 3, 1)) rfl rfl rfl ?_
  refine X_iload 212 (by decide +kernel : decode cX7_digest 210 = .ok (.iload 4, 2)) rfl rfl rfl ?_
  exact X_cv (as := [J x4, J x3]) (rest := [.long (z1 * 31)]) (by decide +kernel : decode cX7_digest 212 = .ok (.invokevirtual 302, 3)) (Or.inl ⟨rfl, rfl, rfl⟩) rfl rfl rfl rfl rfl (Nat.le_of_ble_eq_true rfl) (Or.inr (Or.inr (by rw [g1]; rfl))) hd1 k
theorem kX7_digest_215 {o0 : Option Value} {o1 : Option Value} {o2 : Option Value} {o3 : Option Value} {x4 : Int} {t0 : Int} {w1 : Int64} (k : X E d fX7_digest 196 [o0, some (.long (w1 + ((Int32.ofInt t0).toInt64))), none, o3, some (J (x4 + 1))] [] S (mI M) Q) : X E d fX7_digest 215 [o0, o1, o2, o3, some (J x4)] [J t0, .long w1] S (mI M) Q := by
  refine X_i2l 216 (by decide +kernel : decode cX7_digest 215 = .ok (.i2l, 1)) rfl rfl ?_
  refine X_ladd 217 (by decide +kernel : decode cX7_digest 216 = .ok (.ladd, 1)) rfl rfl ?_
  refine X_lstore_n 218 (by decide +kernel : decode cX7_digest 217 = .ok (.lstore_n 1, 1)) rfl rfl (Nat.le_of_ble_eq_true rfl) rfl ?_
  refine X_iinc 221 (by decide +kernel : decode cX7_digest 218 = .ok (.iinc 4 1, 3)) rfl rfl rfl rfl ?_
  exact X_goto 196 (by decide +kernel : decode cX7_digest 221 = .ok (.goto (-25), 3)) rfl (by decide) k
theorem kX7_digest_224 {o0 : Option Value} {o1 : Option Value} {o2 : Option Value} {x3 : Int} {o4 : Option Value} (k : X E d fX7_digest 182 [o0, o1, o2, some (J (x3 + 1)), o4] [] S (mI M) Q) : X E d fX7_digest 224 [o0, o1, o2, some (J x3), o4] [] S (mI M) Q := by
  refine X_iinc 227 (by decide +kernel : decode cX7_digest 224 = .ok (.iinc 3 1, 3)) rfl rfl rfl rfl ?_
  exact X_goto 182 (by decide +kernel : decode cX7_digest 227 = .ok (.goto (-45), 3)) rfl (by decide) k
theorem kX7_digest_230 {o0 : Option Value} {z1 : Int64} {o2 : Option Value} {o3 : Option Value} {o4 : Option Value} (q : Q (some (some (.long z1))) S (mI M)) : X E d fX7_digest 230 [o0, some (.long z1), o2, o3, o4] [] S (mI M) Q := by
  refine X_lload_n 231 (by decide +kernel : decode cX7_digest 230 = .ok (.lload_n 1, 1)) rfl rfl rfl ?_
  exact X_lret (by decide +kernel : decode cX7_digest 231 = .ok (.lreturn, 1)) rfl rfl q
theorem kX7_trim_0 {o0 : Option Value} {x1 : Int} (r1 : R32 x1) (k1 : x1 < 0 → X E d fX7_trim 12 [o0, some (J x1)] [] S (mI M) Q) (k2 : 0 ≤ x1 → X E d fX7_trim 4 [o0, some (J x1)] [] S (mI M) Q) : X E d fX7_trim 0 [o0, some (J x1)] [] S (mI M) Q := by
  refine X_iload_n 1 (by decide +kernel : decode cX7_trim 0 = .ok (.iload_n 1, 1)) rfl rfl rfl ?_
  exact X_iflt 12 4 (by decide +kernel : decode cX7_trim 1 = .ok (.ifCond .lt 11, 3)) rfl rfl (by decide) r1 k1 k2
theorem kX7_trim_4 {a0 : Nat} {x1 : Int} (g1 : aKd S a0 = 9) (r2 : R32 x1) (r3 : R32 (M a0 1)) (k1 : x1 ≤ (M a0 1) → X E d fX7_trim 22 [some (.ref a0), some (J x1)] [] S (mI M) Q) (k2 : (M a0 1) < x1 → X E d fX7_trim 12 [some (.ref a0), some (J x1)] [] S (mI M) Q) : X E d fX7_trim 4 [some (.ref a0), some (J x1)] [] S (mI M) Q := by
  refine X_iload_n 5 (by decide +kernel : decode cX7_trim 4 = .ok (.iload_n 1, 1)) rfl rfl rfl ?_
  refine X_aload_n 6 (by decide +kernel : decode cX7_trim 5 = .ok (.aload_n 0, 1)) rfl rfl rfl ?_
  refine X_getI 9 (by decide +kernel : decode cX7_trim 6 = .ok (.getfield 13, 3)) rfl rfl (by decide +kernel : aFd 9 13 = some (9, 1, false, false)) g1 ?_
  exact X_icmple 22 12 (by decide +kernel : decode cX7_trim 9 = .ok (.if_icmp .le 13, 3)) rfl rfl (by decide) r2 r3 k1 k2
theorem kX7_trim_22 {a0 : Nat} {x1 : Int} (g1 : aK S a0 = 9) (q : Q (some (some (J x1))) S (mI (mW M a0 1 x1))) : X E d fX7_trim 22 [some (.ref a0), some (J x1)] [] S (mI M) Q := by
  refine X_aload_n 23 (by decide +kernel : decode cX7_trim 22 = .ok (.aload_n 0, 1)) rfl rfl rfl ?_
  refine X_iload_n 24 (by decide +kernel : decode cX7_trim 23 = .ok (.iload_n 1, 1)) rfl rfl rfl ?_
  refine X_putI 27 (by decide +kernel : decode cX7_trim 24 = .ok (.putfield 13, 3)) rfl rfl (by decide +kernel : aFd 9 13 = some (9, 1, false, false)) (Or.inl rfl) g1 rfl rfl ?_
  refine X_iload_n 28 (by decide +kernel : decode cX7_trim 27 = .ok (.iload_n 1, 1)) rfl rfl rfl ?_
  exact X_iret (by decide +kernel : decode cX7_trim 28 = .ok (.ireturn, 1)) rfl rfl rfl q
theorem kX7_feed_0 {a0 : Nat} {o1 : Option Value} {o2 : Option Value} {o3 : Option Value} {o4 : Option Value} {o5 : Option Value} (g1 : aKd S a0 = 9) (r2 : R32 ((M a0 1) + 20)) (k1 : ((M a0 1) + 20) ≤ 2000 → X E d fX7_feed 23 [some (.ref a0), o1, o2, o3, o4, o5] [] S (mI M) Q) (k2 : 2000 < ((M a0 1) + 20) → X E d fX7_feed 13 [some (.ref a0), o1, o2, o3, o4, o5] [] S (mI M) Q) : X E d fX7_feed 0 [some (.ref a0), o1, o2, o3, o4, o5] [] S (mI M) Q := by
  refine X_aload_n 1 (by decide +kernel : decode cX7_feed 0 = .ok (.aload_n 0, 1)) rfl rfl rfl ?_
  refine X_getI 4 (by decide +kernel : decode cX7_feed 1 = .ok (.getfield 13, 3)) rfl rfl (by decide +kernel : aFd 9 13 = some (9, 1, false, false)) g1 ?_
  refine X_bipush 6 (20) (by decide +kernel : decode cX7_feed 4 = .ok (.bipush 20, 2)) rfl rfl (by decide +kernel) ?_
  refine X_iadd 7 (by decide +kernel : decode cX7_feed 6 = .ok (.iadd, 1)) rfl rfl ?_
  refine X_sipush 10 (2000) (by decide +kernel : decode cX7_feed 7 = .ok (.sipush 2000, 3)) rfl rfl (by decide +kernel) ?_
  exact X_icmple 23 13 (by decide +kernel : decode cX7_feed 10 = .ok (.if_icmp .le 13, 3)) rfl rfl (by decide) r2 ⟨by decide, by decide⟩ k1 k2
theorem kX7_feed_23 {a0 : Nat} {x1 : Int} {o2 : Option Value} {o3 : Option Value} {o4 : Option Value} {o5 : Option Value} (hd1 : 1 ≤ d) (k : X E (d - 1) fX7_append 0 [some (.ref a0), some (J x1), none] [] S (mI M) (Kr E d fX7_feed 28 [some (.ref a0), some (J x1), o2, o3, o4, o5] [] Q)) (g1 : aKd S a0 = 9) : X E d fX7_feed 23 [some (.ref a0), some (J x1), o2, o3, o4, o5] [] S (mI M) Q := by
  refine X_aload_n 24 (by decide +kernel : decode cX7_feed 23 = .ok (.aload_n 0, 1)) rfl rfl rfl ?_
  refine X_iload_n 25 (by decide +kernel : decode cX7_feed 24 = .ok (.iload_n 1, 1)) rfl rfl rfl ?_
  exact X_cv (as := [J x1]) (rest := []) (by decide +kernel : decode cX7_feed 25 = .ok (.invokevirtual 77, 3)) (Or.inl ⟨rfl, rfl, rfl⟩) rfl rfl rfl rfl rfl (Nat.le_of_ble_eq_true rfl) (Or.inr (Or.inr (by rw [g1]; rfl))) hd1 k
theorem kX7_feed_28 {a0 : Nat} {o1 : Option Value} {x2 : Int} {o3 : Option Value} {o4 : Option Value} {o5 : Option Value} (hd1 : 1 ≤ d) (k : X E (d - 1) fX7_append 0 [some (.ref a0), some (J x2), none] [] S (mI M) (Kr E d fX7_feed 33 [some (.ref a0), o1, some (J x2), o3, o4, o5] [] Q)) (g1 : aKd S a0 = 9) : X E d fX7_feed 28 [some (.ref a0), o1, some (J x2), o3, o4, o5] [] S (mI M) Q := by
  refine X_aload_n 29 (by decide +kernel : decode cX7_feed 28 = .ok (.aload_n 0, 1)) rfl rfl rfl ?_
  refine X_iload_n 30 (by decide +kernel : decode cX7_feed 29 = .ok (.iload_n 2, 1)) rfl rfl rfl ?_
  exact X_cv (as := [J x2]) (rest := []) (by decide +kernel : decode cX7_feed 30 = .ok (.invokevirtual 77, 3)) (Or.inl ⟨rfl, rfl, rfl⟩) rfl rfl rfl rfl rfl (Nat.le_of_ble_eq_true rfl) (Or.inr (Or.inr (by rw [g1]; rfl))) hd1 k
theorem kX7_feed_33 {a0 : Nat} {o1 : Option Value} {o2 : Option Value} {x3 : Int} {o4 : Option Value} {o5 : Option Value} (hd1 : 1 ≤ d) (k : X E (d - 1) fX7_append 0 [some (.ref a0), some (J x3), none] [] S (mI M) (Kr E d fX7_feed 38 [some (.ref a0), o1, o2, some (J x3), o4, o5] [] Q)) (g1 : aKd S a0 = 9) : X E d fX7_feed 33 [some (.ref a0), o1, o2, some (J x3), o4, o5] [] S (mI M) Q := by
  refine X_aload_n 34 (by decide +kernel : decode cX7_feed 33 = .ok (.aload_n 0, 1)) rfl rfl rfl ?_
  refine X_iload_n 35 (by decide +kernel : decode cX7_feed 34 = .ok (.iload_n 3, 1)) rfl rfl rfl ?_
  exact X_cv (as := [J x3]) (rest := []) (by decide +kernel : decode cX7_feed 35 = .ok (.invokevirtual 77, 3)) (Or.inl ⟨rfl, rfl, rfl⟩) rfl rfl rfl rfl rfl (Nat.le_of_ble_eq_true rfl) (Or.inr (Or.inr (by rw [g1]; rfl))) hd1 k
theorem kX7_feed_38 {a0 : Nat} {o1 : Option Value} {o2 : Option Value} {o3 : Option Value} {x4 : Int} {o5 : Option Value} (hd1 : 1 ≤ d) (k : X E (d - 1) fX7_append 0 [some (.ref a0), some (J x4), none] [] S (mI M) (Kr E d fX7_feed 44 [some (.ref a0), o1, o2, o3, some (J x4), o5] [] Q)) (g1 : aKd S a0 = 9) : X E d fX7_feed 38 [some (.ref a0), o1, o2, o3, some (J x4), o5] [] S (mI M) Q := by
  refine X_aload_n 39 (by decide +kernel : decode cX7_feed 38 = .ok (.aload_n 0, 1)) rfl rfl rfl ?_
  refine X_iload 41 (by decide +kernel : decode cX7_feed 39 = .ok (.iload 4, 2)) rfl rfl rfl ?_
  exact X_cv (as := [J x4]) (rest := []) (by decide +kernel : decode cX7_feed 41 = .ok (.invokevirtual 77, 3)) (Or.inl ⟨rfl, rfl, rfl⟩) rfl rfl rfl rfl rfl (Nat.le_of_ble_eq_true rfl) (Or.inr (Or.inr (by rw [g1]; rfl))) hd1 k
theorem kX7_feed_44 {a0 : Nat} {o1 : Option Value} {o2 : Option Value} {o3 : Option Value} {o4 : Option Value} {x5 : Int} (hd1 : 1 ≤ d) (k : X E (d - 1) fX7_append 0 [some (.ref a0), some (J x5), none] [] S (mI M) (Kr E d fX7_feed 50 [some (.ref a0), o1, o2, o3, o4, some (J x5)] [] Q)) (g1 : aKd S a0 = 9) : X E d fX7_feed 44 [some (.ref a0), o1, o2, o3, o4, some (J x5)] [] S (mI M) Q := by
  refine X_aload_n 45 (by decide +kernel : decode cX7_feed 44 = .ok (.aload_n 0, 1)) rfl rfl rfl ?_
  refine X_iload 47 (by decide +kernel : decode cX7_feed 45 = .ok (.iload 5, 2)) rfl rfl rfl ?_
  exact X_cv (as := [J x5]) (rest := []) (by decide +kernel : decode cX7_feed 47 = .ok (.invokevirtual 77, 3)) (Or.inl ⟨rfl, rfl, rfl⟩) rfl rfl rfl rfl rfl (Nat.le_of_ble_eq_true rfl) (Or.inr (Or.inr (by rw [g1]; rfl))) hd1 k
theorem kX7_feed_50 {a0 : Nat} {o1 : Option Value} {o2 : Option Value} {o3 : Option Value} {o4 : Option Value} {o5 : Option Value} (g1 : aKd S a0 = 9) (q : Q (some (some (J (M a0 1)))) S (mI M)) : X E d fX7_feed 50 [some (.ref a0), o1, o2, o3, o4, o5] [] S (mI M) Q := by
  refine X_aload_n 51 (by decide +kernel : decode cX7_feed 50 = .ok (.aload_n 0, 1)) rfl rfl rfl ?_
  refine X_getI 54 (by decide +kernel : decode cX7_feed 51 = .ok (.getfield 13, 3)) rfl rfl (by decide +kernel : aFd 9 13 = some (9, 1, false, false)) g1 ?_
  exact X_iret (by decide +kernel : decode cX7_feed 54 = .ok (.ireturn, 1)) rfl rfl rfl q
theorem kX7_append_0 {o0 : Option Value} {o1 : Option Value} {o2 : Option Value} (k : X E d fX7_append 3 [o0, o1, some (J 24)] [] S (mI M) Q) : X E d fX7_append 0 [o0, o1, o2] [] S (mI M) Q := by
  refine X_bipush 2 (24) (by decide +kernel : decode cX7_append 0 = .ok (.bipush 24, 2)) rfl rfl (by decide +kernel) ?_
  refine X_istore_n 3 (by decide +kernel : decode cX7_append 2 = .ok (.istore_n 2, 1)) rfl rfl (Nat.le_of_ble_eq_true rfl) rfl ?_
  exact k
theorem kX7_append_3 {o0 : Option Value} {o1 : Option Value} {x2 : Int} (r1 : R32 x2) (k1 : x2 < 0 → X E d fX7_append 46 [o0, o1, some (J x2)] [] S (mI M) Q) (k2 : 0 ≤ x2 → X E d fX7_append 7 [o0, o1, some (J x2)] [] S (mI M) Q) : X E d fX7_append 3 [o0, o1, some (J x2)] [] S (mI M) Q := by
  refine X_iload_n 4 (by decide +kernel : decode cX7_append 3 = .ok (.iload_n 2, 1)) rfl rfl rfl ?_
  exact X_iflt 46 7 (by decide +kernel : decode cX7_append 4 = .ok (.ifCond .lt 42, 3)) rfl rfl (by decide) r1 k1 k2
theorem kX7_append_7 {a0 : Nat} {o1 : Option Value} {o2 : Option Value} (g1 : aKd S a0 = 9) (r2 : R32 (M a0 1)) (k1 : 2000 ≤ (M a0 1) → X E d fX7_append 46 [some (.ref a0), o1, o2] [] S (mI M) Q) (k2 : (M a0 1) < 2000 → X E d fX7_append 17 [some (.ref a0), o1, o2] [] S (mI M) Q) : X E d fX7_append 7 [some (.ref a0), o1, o2] [] S (mI M) Q := by
  refine X_aload_n 8 (by decide +kernel : decode cX7_append 7 = .ok (.aload_n 0, 1)) rfl rfl rfl ?_
  refine X_getI 11 (by decide +kernel : decode cX7_append 8 = .ok (.getfield 13, 3)) rfl rfl (by decide +kernel : aFd 9 13 = some (9, 1, false, false)) g1 ?_
  refine X_sipush 14 (2000) (by decide +kernel : decode cX7_append 11 = .ok (.sipush 2000, 3)) rfl rfl (by decide +kernel) ?_
  exact X_icmpge 46 17 (by decide +kernel : decode cX7_append 14 = .ok (.if_icmp .ge 32, 3)) rfl rfl (by decide) r2 ⟨by decide, by decide⟩ k1 k2
theorem kX7_append_17 {a0 : Nat} {x1 : Int} {x2 : Int} {b2 : Nat} {M_9 : Nat → Nat → Int} (g1 : aKd S a0 = 9) (p3 : aP S a0 0 = some b2) (g5 : aK S b2 = 101) (r6 : R32 (M a0 1)) (h7 : (0 : Int) ≤ M a0 1 ∧ (M a0 1) < (aN S b2 : Int)) (h8 : (-128 : Int) ≤ (Int32.ofInt ((Int32.ofInt x1 >>> (Int32.ofInt x2 &&& 31)).toInt)).toInt8.toInt32.toInt ∧ ((Int32.ofInt ((Int32.ofInt x1 >>> (Int32.ofInt x2 &&& 31)).toInt)).toInt8.toInt32.toInt) ≤ (127 : Int)) (eM_9 : mW M b2 (M a0 1).toNat ((Int32.ofInt ((Int32.ofInt x1 >>> (Int32.ofInt x2 &&& 31)).toInt)).toInt8.toInt32.toInt) = M_9) (g11 : aK S a0 = 9) (k : X E d fX7_append 3 [some (.ref a0), some (J x1), some (J (x2 + (-8)))] [] S (mI (mW M_9 a0 1 (nz ((M_9 a0 1) + 1)))) Q) : X E d fX7_append 17 [some (.ref a0), some (J x1), some (J x2)] [] S (mI M) Q := by
  refine X_aload_n 18 (by decide +kernel : decode cX7_append 17 = .ok (.aload_n 0, 1)) rfl rfl rfl ?_
  refine X_getR 21 (by decide +kernel : decode cX7_append 18 = .ok (.getfield 9, 3)) rfl rfl (by decide +kernel : aFd 9 9 = some (9, 0, true, true)) g1 p3 ?_
  refine X_aload_n 22 (by decide +kernel : decode cX7_append 21 = .ok (.aload_n 0, 1)) rfl rfl rfl ?_
  refine X_getI 25 (by decide +kernel : decode cX7_append 22 = .ok (.getfield 13, 3)) rfl rfl (by decide +kernel : aFd 9 13 = some (9, 1, false, false)) g1 ?_
  refine X_iload_n 26 (by decide +kernel : decode cX7_append 25 = .ok (.iload_n 1, 1)) rfl rfl rfl ?_
  refine X_iload_n 27 (by decide +kernel : decode cX7_append 26 = .ok (.iload_n 2, 1)) rfl rfl rfl ?_
  refine X_ishr 28 (by decide +kernel : decode cX7_append 27 = .ok (.ishr, 1)) rfl rfl ?_
  refine X_i2b 29 (by decide +kernel : decode cX7_append 28 = .ok (.i2b, 1)) rfl rfl ?_
  refine X_bast 30 (by decide +kernel : decode cX7_append 29 = .ok (.bastore, 1)) rfl rfl g5 r6 h7 h8 ?_
  show X E d fX7_append 30 [some (.ref a0), some (J x1), some (J x2)] [] S (mI (mW M b2 (M a0 1).toNat ((Int32.ofInt ((Int32.ofInt x1 >>> (Int32.ofInt x2 &&& 31)).toInt)).toInt8.toInt32.toInt))) Q
  rw [eM_9]
  refine X_aload_n 31 (by decide +kernel : decode cX7_append 30 = .ok (.aload_n 0, 1)) rfl rfl rfl ?_
  refine X_dup 32 (by decide +kernel : decode cX7_append 31 = .ok (.dup, 1)) rfl rfl rfl ?_
  refine X_getI 35 (by decide +kernel : decode cX7_append 32 = .ok (.getfield 13, 3)) rfl rfl (by decide +kernel : aFd 9 13 = some (9, 1, false, false)) g1 ?_
  refine X_iconst 36 (by decide +kernel : decode cX7_append 35 = .ok (.iconst 1, 1)) rfl rfl ?_
  refine X_iadd 37 (by decide +kernel : decode cX7_append 36 = .ok (.iadd, 1)) rfl rfl ?_
  refine X_putIz 40 (by decide +kernel : decode cX7_append 37 = .ok (.putfield 13, 3)) rfl rfl (by decide +kernel : aFd 9 13 = some (9, 1, false, false)) (Or.inl rfl) g11 rfl rfl ?_
  refine X_iinc 43 (by decide +kernel : decode cX7_append 40 = .ok (.iinc 2 (-8), 3)) rfl rfl rfl rfl ?_
  exact X_goto 3 (by decide +kernel : decode cX7_append 43 = .ok (.goto (-40), 3)) rfl (by decide) k
theorem kX7_append_46 {o0 : Option Value} {o1 : Option Value} {o2 : Option Value} (q : Q (some none) S (mI M)) : X E d fX7_append 46 [o0, o1, o2] [] S (mI M) Q := by
  exact X_vret (by decide +kernel : decode cX7_append 46 = .ok (.return_, 1)) rfl rfl q
theorem kX7_teach_0 {a0 : Nat} {o1 : Option Value} {o2 : Option Value} {b2 : Nat} (g1 : aKd S a0 = 9) (p3 : aP S a0 9 = some b2) (hd1 : 1 ≤ d) (k : X E (d - 1) fX3_clear 0 [some (.ref b2)] [] S (mI M) (Kr E d fX7_teach 7 [some (.ref a0), o1, o2] [] Q)) (g4 : aKd S b2 = 5) : X E d fX7_teach 0 [some (.ref a0), o1, o2] [] S (mI M) Q := by
  refine X_aload_n 1 (by decide +kernel : decode cX7_teach 0 = .ok (.aload_n 0, 1)) rfl rfl rfl ?_
  refine X_getR 4 (by decide +kernel : decode cX7_teach 1 = .ok (.getfield 52, 3)) rfl rfl (by decide +kernel : aFd 9 52 = some (9, 9, true, false)) g1 p3 ?_
  exact X_cv (as := []) (rest := []) (by decide +kernel : decode cX7_teach 4 = .ok (.invokevirtual 86, 3)) (Or.inl ⟨rfl, rfl, rfl⟩) rfl rfl rfl rfl rfl (Nat.le_of_ble_eq_true rfl) (Or.inr (Or.inr (by rw [g4]; rfl))) hd1 k
theorem kX7_teach_7 {a0 : Nat} {o1 : Option Value} {o2 : Option Value} {b2 : Nat} {b5 : Nat} (g1 : aKd S a0 = 9) (p3 : aP S a0 3 = some b2) (p6 : aP S a0 0 = some b5) (hd1 : 1 ≤ d) (k : X E (d - 1) fX5_cut 0 [some (.ref b2), some (.ref b5), some (J (M a0 1)), none, none] [] S (mI M) (Kr E d fX7_teach 22 [some (.ref a0), o1, o2] [] Q)) (g8 : aKd S b2 = 7) : X E d fX7_teach 7 [some (.ref a0), o1, o2] [] S (mI M) Q := by
  refine X_aload_n 8 (by decide +kernel : decode cX7_teach 7 = .ok (.aload_n 0, 1)) rfl rfl rfl ?_
  refine X_getR 11 (by decide +kernel : decode cX7_teach 8 = .ok (.getfield 23, 3)) rfl rfl (by decide +kernel : aFd 9 23 = some (9, 3, true, true)) g1 p3 ?_
  refine X_aload_n 12 (by decide +kernel : decode cX7_teach 11 = .ok (.aload_n 0, 1)) rfl rfl rfl ?_
  refine X_getR 15 (by decide +kernel : decode cX7_teach 12 = .ok (.getfield 9, 3)) rfl rfl (by decide +kernel : aFd 9 9 = some (9, 0, true, true)) g1 p6 ?_
  refine X_aload_n 16 (by decide +kernel : decode cX7_teach 15 = .ok (.aload_n 0, 1)) rfl rfl rfl ?_
  refine X_getI 19 (by decide +kernel : decode cX7_teach 16 = .ok (.getfield 13, 3)) rfl rfl (by decide +kernel : aFd 9 13 = some (9, 1, false, false)) g1 ?_
  exact X_cv (as := [J (M a0 1), .ref b5]) (rest := []) (by decide +kernel : decode cX7_teach 19 = .ok (.invokevirtual 89, 3)) (Or.inl ⟨rfl, rfl, rfl⟩) rfl rfl rfl rfl rfl (Nat.le_of_ble_eq_true rfl) (Or.inr (Or.inr (by rw [g8]; rfl))) hd1 k
theorem kX7_teach_22 {a0 : Nat} {o1 : Option Value} {o2 : Option Value} {b3 : Nat} {b6 : Nat} {b9 : Nat} (g1 : aK S a0 = 9) (g2 : aKd S a0 = 9) (p4 : aP S a0 4 = some b3) (p7 : aP S a0 9 = some b6) (g8 : aKd S b6 = 5) (p10 : aP S b6 15 = some b9) (hd1 : 1 ≤ d) (k : X E (d - 1) fX0_read 0 [some (.ref b3), some (.ref b9), none] [] S (mI (mW M a0 1 0)) (Kr E d fX7_teach 41 [some (.ref a0), o1, o2] [] Q)) (g11 : aKd S b3 = 2) : X E d fX7_teach 22 [some (.ref a0), o1, o2] [] S (mI M) Q := by
  refine X_aload_n 23 (by decide +kernel : decode cX7_teach 22 = .ok (.aload_n 0, 1)) rfl rfl rfl ?_
  refine X_iconst 24 (by decide +kernel : decode cX7_teach 23 = .ok (.iconst 0, 1)) rfl rfl ?_
  refine X_putI 27 (by decide +kernel : decode cX7_teach 24 = .ok (.putfield 13, 3)) rfl rfl (by decide +kernel : aFd 9 13 = some (9, 1, false, false)) (Or.inl rfl) g1 rfl rfl ?_
  refine X_aload_n 28 (by decide +kernel : decode cX7_teach 27 = .ok (.aload_n 0, 1)) rfl rfl rfl ?_
  refine X_getR 31 (by decide +kernel : decode cX7_teach 28 = .ok (.getfield 32, 3)) rfl rfl (by decide +kernel : aFd 9 32 = some (9, 4, true, true)) g2 p4 ?_
  refine X_aload_n 32 (by decide +kernel : decode cX7_teach 31 = .ok (.aload_n 0, 1)) rfl rfl rfl ?_
  refine X_getR 35 (by decide +kernel : decode cX7_teach 32 = .ok (.getfield 52, 3)) rfl rfl (by decide +kernel : aFd 9 52 = some (9, 9, true, false)) g2 p7 ?_
  refine X_getR 38 (by decide +kernel : decode cX7_teach 35 = .ok (.getfield 93, 3)) rfl rfl (by decide +kernel : aFd 9 93 = some (5, 15, true, true)) g8 p10 ?_
  exact X_cv (as := [.ref b9]) (rest := []) (by decide +kernel : decode cX7_teach 38 = .ok (.invokevirtual 97, 3)) (Or.inl ⟨rfl, rfl, rfl⟩) rfl rfl rfl rfl rfl (Nat.le_of_ble_eq_true rfl) (Or.inr (Or.inr (by rw [g11]; rfl))) hd1 k
theorem kX7_teach_41 {a0 : Nat} {o1 : Option Value} {o2 : Option Value} {t0 : Int} {b2 : Nat} (g1 : aKd S a0 = 9) (p3 : aP S a0 4 = some b2) (g4 : aKd S b2 = 2) (r5 : R32 t0) (k1 : t0 ≠ 0 → X E d fX7_teach 74 [some (.ref a0), some (J t0), some (J (M b2 3))] [] S (mI M) Q) (k2 : t0 = 0 → X E d fX7_teach 54 [some (.ref a0), some (J t0), some (J (M b2 3))] [] S (mI M) Q) : X E d fX7_teach 41 [some (.ref a0), o1, o2] [J t0] S (mI M) Q := by
  refine X_istore_n 42 (by decide +kernel : decode cX7_teach 41 = .ok (.istore_n 1, 1)) rfl rfl (Nat.le_of_ble_eq_true rfl) rfl ?_
  refine X_aload_n 43 (by decide +kernel : decode cX7_teach 42 = .ok (.aload_n 0, 1)) rfl rfl rfl ?_
  refine X_getR 46 (by decide +kernel : decode cX7_teach 43 = .ok (.getfield 32, 3)) rfl rfl (by decide +kernel : aFd 9 32 = some (9, 4, true, true)) g1 p3 ?_
  refine X_getI 49 (by decide +kernel : decode cX7_teach 46 = .ok (.getfield 101, 3)) rfl rfl (by decide +kernel : aFd 9 101 = some (2, 3, false, false)) g4 ?_
  refine X_istore_n 50 (by decide +kernel : decode cX7_teach 49 = .ok (.istore_n 2, 1)) rfl rfl (Nat.le_of_ble_eq_true rfl) rfl ?_
  refine X_iload_n 51 (by decide +kernel : decode cX7_teach 50 = .ok (.iload_n 1, 1)) rfl rfl rfl ?_
  exact X_ifne 74 54 (by decide +kernel : decode cX7_teach 51 = .ok (.ifCond .ne 23, 3)) rfl rfl (by decide) r5 k1 k2
theorem kX7_teach_54 {a0 : Nat} {o1 : Option Value} {o2 : Option Value} {b2 : Nat} {b5 : Nat} (g1 : aKd S a0 = 9) (p3 : aP S a0 5 = some b2) (p6 : aP S a0 9 = some b5) (hd1 : 1 ≤ d) (k : X E (d - 1) fX4_look 0 [some (.ref b2), some (.ref b5), none, none, none, none, none] [] S (mI M) (Kr E d fX7_teach 65 [some (.ref a0), o1, o2] [] Q)) (g7 : aKd S b2 = 6) : X E d fX7_teach 54 [some (.ref a0), o1, o2] [] S (mI M) Q := by
  refine X_aload_n 55 (by decide +kernel : decode cX7_teach 54 = .ok (.aload_n 0, 1)) rfl rfl rfl ?_
  refine X_getR 58 (by decide +kernel : decode cX7_teach 55 = .ok (.getfield 41, 3)) rfl rfl (by decide +kernel : aFd 9 41 = some (9, 5, true, true)) g1 p3 ?_
  refine X_aload_n 59 (by decide +kernel : decode cX7_teach 58 = .ok (.aload_n 0, 1)) rfl rfl rfl ?_
  refine X_getR 62 (by decide +kernel : decode cX7_teach 59 = .ok (.getfield 52, 3)) rfl rfl (by decide +kernel : aFd 9 52 = some (9, 9, true, false)) g1 p6 ?_
  exact X_cv (as := [.ref b5]) (rest := []) (by decide +kernel : decode cX7_teach 62 = .ok (.invokevirtual 104, 3)) (Or.inl ⟨rfl, rfl, rfl⟩) rfl rfl rfl rfl rfl (Nat.le_of_ble_eq_true rfl) (Or.inr (Or.inr (by rw [g7]; rfl))) hd1 k
theorem kX7_teach_65 {a0 : Nat} {o1 : Option Value} {o2 : Option Value} {t0 : Int} {b2 : Nat} (g1 : aKd S a0 = 9) (p3 : aP S a0 5 = some b2) (g4 : aKd S b2 = 6) (k : X E d fX7_teach 74 [some (.ref a0), some (J t0), some (J (M b2 6))] [] S (mI M) Q) : X E d fX7_teach 65 [some (.ref a0), o1, o2] [J t0] S (mI M) Q := by
  refine X_istore_n 66 (by decide +kernel : decode cX7_teach 65 = .ok (.istore_n 1, 1)) rfl rfl (Nat.le_of_ble_eq_true rfl) rfl ?_
  refine X_aload_n 67 (by decide +kernel : decode cX7_teach 66 = .ok (.aload_n 0, 1)) rfl rfl rfl ?_
  refine X_getR 70 (by decide +kernel : decode cX7_teach 67 = .ok (.getfield 41, 3)) rfl rfl (by decide +kernel : aFd 9 41 = some (9, 5, true, true)) g1 p3 ?_
  refine X_getI 73 (by decide +kernel : decode cX7_teach 70 = .ok (.getfield 108, 3)) rfl rfl (by decide +kernel : aFd 9 108 = some (6, 6, false, false)) g4 ?_
  refine X_istore_n 74 (by decide +kernel : decode cX7_teach 73 = .ok (.istore_n 2, 1)) rfl rfl (Nat.le_of_ble_eq_true rfl) rfl ?_
  exact k
theorem kX7_teach_74 {a0 : Nat} {x1 : Int} {o2 : Option Value} (r1 : R32 x1) (k1 : x1 ≠ 0 → X E d fX7_teach 83 [some (.ref a0), some (J x1), o2] [.ref a0] S (mI M) Q) (k2 : x1 = 0 → X E d fX7_teach 79 [some (.ref a0), some (J x1), o2] [.ref a0] S (mI M) Q) : X E d fX7_teach 74 [some (.ref a0), some (J x1), o2] [] S (mI M) Q := by
  refine X_aload_n 75 (by decide +kernel : decode cX7_teach 74 = .ok (.aload_n 0, 1)) rfl rfl rfl ?_
  refine X_iload_n 76 (by decide +kernel : decode cX7_teach 75 = .ok (.iload_n 1, 1)) rfl rfl rfl ?_
  exact X_ifne 83 79 (by decide +kernel : decode cX7_teach 76 = .ok (.ifCond .ne 7, 3)) rfl rfl (by decide) r1 k1 k2
theorem kX7_teach_79 {o0 : Option Value} {o1 : Option Value} {o2 : Option Value} {u0 : Nat} (k : X E d fX7_teach 91 [o0, o1, o2] [J (-1), .ref u0] S (mI M) Q) : X E d fX7_teach 79 [o0, o1, o2] [.ref u0] S (mI M) Q := by
  refine X_iconst 80 (by decide +kernel : decode cX7_teach 79 = .ok (.iconst (-1), 1)) rfl rfl ?_
  exact X_goto 91 (by decide +kernel : decode cX7_teach 80 = .ok (.goto 11, 3)) rfl (by decide) k
theorem kX7_teach_83 {a0 : Nat} {o1 : Option Value} {x2 : Int} {u0 : Nat} {b2 : Nat} (g1 : aKd S a0 = 9) (p3 : aP S a0 3 = some b2) (hd1 : 1 ≤ d) (k : X E (d - 1) fX5_placeOf 0 [some (.ref b2), some (J x2)] [] S (mI M) (Kr E d fX7_teach 91 [some (.ref a0), o1, some (J x2)] [.ref u0] Q)) (g4 : aKd S b2 = 7) : X E d fX7_teach 83 [some (.ref a0), o1, some (J x2)] [.ref u0] S (mI M) Q := by
  refine X_aload_n 84 (by decide +kernel : decode cX7_teach 83 = .ok (.aload_n 0, 1)) rfl rfl rfl ?_
  refine X_getR 87 (by decide +kernel : decode cX7_teach 84 = .ok (.getfield 23, 3)) rfl rfl (by decide +kernel : aFd 9 23 = some (9, 3, true, true)) g1 p3 ?_
  refine X_iload_n 88 (by decide +kernel : decode cX7_teach 87 = .ok (.iload_n 2, 1)) rfl rfl rfl ?_
  exact X_cv (as := [J x2]) (rest := [.ref u0]) (by decide +kernel : decode cX7_teach 88 = .ok (.invokevirtual 109, 3)) (Or.inl ⟨rfl, rfl, rfl⟩) rfl rfl rfl rfl rfl (Nat.le_of_ble_eq_true rfl) (Or.inr (Or.inr (by rw [g4]; rfl))) hd1 k
theorem kX7_teach_91 {o0 : Option Value} {x1 : Int} {o2 : Option Value} {t0 : Int} {u1 : Nat} (g1 : aK S u1 = 9) (r2 : R32 x1) (k1 : x1 ≠ 0 → X E d fX7_teach 116 [o0, some (J x1), o2] [] S (mI (mW M u1 2 t0)) Q) (k2 : x1 = 0 → X E d fX7_teach 98 [o0, some (J x1), o2] [] S (mI (mW M u1 2 t0)) Q) : X E d fX7_teach 91 [o0, some (J x1), o2] [J t0, .ref u1] S (mI M) Q := by
  refine X_putI 94 (by decide +kernel : decode cX7_teach 91 = .ok (.putfield 17, 3)) rfl rfl (by decide +kernel : aFd 9 17 = some (9, 2, false, false)) (Or.inl rfl) g1 rfl rfl ?_
  refine X_iload_n 95 (by decide +kernel : decode cX7_teach 94 = .ok (.iload_n 1, 1)) rfl rfl rfl ?_
  exact X_ifne 116 98 (by decide +kernel : decode cX7_teach 95 = .ok (.ifCond .ne 21, 3)) rfl rfl (by decide) r2 k1 k2
theorem kX7_teach_98 {a0 : Nat} {o1 : Option Value} {o2 : Option Value} {b2 : Nat} {b5 : Nat} {b8 : Nat} (g1 : aKd S a0 = 9) (p3 : aP S a0 9 = some b2) (g4 : aKd S b2 = 5) (p6 : aP S b2 15 = some b5) (p9 : aP S a0 3 = some b8) (hd1 : 1 ≤ d) (k : X E (d - 1) fX1_link 0 [some (.ref b5), some (.ref b8), none] [] S (mI M) (Kr E d fX7_teach 112 [some (.ref a0), o1, o2] [] Q)) (g10 : aKd S b5 = 3) : X E d fX7_teach 98 [some (.ref a0), o1, o2] [] S (mI M) Q := by
  refine X_aload_n 99 (by decide +kernel : decode cX7_teach 98 = .ok (.aload_n 0, 1)) rfl rfl rfl ?_
  refine X_getR 102 (by decide +kernel : decode cX7_teach 99 = .ok (.getfield 52, 3)) rfl rfl (by decide +kernel : aFd 9 52 = some (9, 9, true, false)) g1 p3 ?_
  refine X_getR 105 (by decide +kernel : decode cX7_teach 102 = .ok (.getfield 93, 3)) rfl rfl (by decide +kernel : aFd 9 93 = some (5, 15, true, true)) g4 p6 ?_
  refine X_aload_n 106 (by decide +kernel : decode cX7_teach 105 = .ok (.aload_n 0, 1)) rfl rfl rfl ?_
  refine X_getR 109 (by decide +kernel : decode cX7_teach 106 = .ok (.getfield 23, 3)) rfl rfl (by decide +kernel : aFd 9 23 = some (9, 3, true, true)) g1 p9 ?_
  exact X_cv (as := [.ref b8]) (rest := []) (by decide +kernel : decode cX7_teach 109 = .ok (.invokevirtual 113, 3)) (Or.inl ⟨rfl, rfl, rfl⟩) rfl rfl rfl rfl rfl (Nat.le_of_ble_eq_true rfl) (Or.inr (Or.inr (by rw [g10]; rfl))) hd1 k
theorem kX7_teach_112 {a0 : Nat} {o1 : Option Value} {o2 : Option Value} (hd1 : 1 ≤ d) (k : X E (d - 1) fX7_useDraft 0 [some (.ref a0), none] [] S (mI M) (Kr E d fX7_teach 116 [some (.ref a0), o1, o2] [] Q)) (g1 : aKd S a0 = 9) : X E d fX7_teach 112 [some (.ref a0), o1, o2] [] S (mI M) Q := by
  refine X_aload_n 113 (by decide +kernel : decode cX7_teach 112 = .ok (.aload_n 0, 1)) rfl rfl rfl ?_
  exact X_cv (as := []) (rest := []) (by decide +kernel : decode cX7_teach 113 = .ok (.invokevirtual 118, 3)) (Or.inl ⟨rfl, rfl, rfl⟩) rfl rfl rfl rfl rfl (Nat.le_of_ble_eq_true rfl) (Or.inr (Or.inr (by rw [g1]; rfl))) hd1 k
theorem kX7_teach_116 {o0 : Option Value} {x1 : Int} {o2 : Option Value} (q : Q (some (some (J x1))) S (mI M)) : X E d fX7_teach 116 [o0, some (J x1), o2] [] S (mI M) Q := by
  refine X_iload_n 117 (by decide +kernel : decode cX7_teach 116 = .ok (.iload_n 1, 1)) rfl rfl rfl ?_
  exact X_iret (by decide +kernel : decode cX7_teach 117 = .ok (.ireturn, 1)) rfl rfl rfl q
theorem kX7_useDraft_0 {a0 : Nat} {o1 : Option Value} {b2 : Nat} {b5 : Nat} {b10 : Nat} {b13 : Nat} (g1 : aKd S a0 = 9) (p3 : aP S a0 8 = some b2) (p6 : aP S a0 9 = some b5) (g7 : aK S a0 = 9) (p11 : aP (aPut (aPut S a0 8 (some b5)) a0 9 (some b2)) a0 6 = some b10) (p14 : aP (aPut (aPut S a0 8 (some b5)) a0 9 (some b2)) a0 8 = some b13) (hd1 : 1 ≤ d) (k : X E (d - 1) fX6_begin 0 [some (.ref b10), some (.ref b13), none] [] (aPut (aPut S a0 8 (some b5)) a0 9 (some b2)) (mI M) (Kr E d fX7_useDraft 29 [some (.ref a0), some (.ref b2)] [] Q)) (g15 : aKd S b10 = 8) : X E d fX7_useDraft 0 [some (.ref a0), o1] [] S (mI M) Q := by
  refine X_aload_n 1 (by decide +kernel : decode cX7_useDraft 0 = .ok (.aload_n 0, 1)) rfl rfl rfl ?_
  refine X_getR 4 (by decide +kernel : decode cX7_useDraft 1 = .ok (.getfield 48, 3)) rfl rfl (by decide +kernel : aFd 9 48 = some (9, 8, true, false)) g1 p3 ?_
  refine X_astore_n 5 (by decide +kernel : decode cX7_useDraft 4 = .ok (.astore_n 1, 1)) rfl rfl (Nat.le_of_ble_eq_true rfl) rfl ?_
  refine X_aload_n 6 (by decide +kernel : decode cX7_useDraft 5 = .ok (.aload_n 0, 1)) rfl rfl rfl ?_
  refine X_aload_n 7 (by decide +kernel : decode cX7_useDraft 6 = .ok (.aload_n 0, 1)) rfl rfl rfl ?_
  refine X_getR 10 (by decide +kernel : decode cX7_useDraft 7 = .ok (.getfield 52, 3)) rfl rfl (by decide +kernel : aFd 9 52 = some (9, 9, true, false)) g1 p6 ?_
  refine X_putR 13 (by decide +kernel : decode cX7_useDraft 10 = .ok (.putfield 48, 3)) rfl rfl (by decide +kernel : aFd 9 48 = some (9, 8, true, false)) (Or.inl rfl) g7 rfl ?_
  refine X_aload_n 14 (by decide +kernel : decode cX7_useDraft 13 = .ok (.aload_n 0, 1)) rfl rfl rfl ?_
  refine X_aload_n 15 (by decide +kernel : decode cX7_useDraft 14 = .ok (.aload_n 1, 1)) rfl rfl rfl ?_
  refine X_putR 18 (by decide +kernel : decode cX7_useDraft 15 = .ok (.putfield 52, 3)) rfl rfl (by decide +kernel : aFd 9 52 = some (9, 9, true, false)) (Or.inl rfl) g7 rfl ?_
  refine X_aload_n 19 (by decide +kernel : decode cX7_useDraft 18 = .ok (.aload_n 0, 1)) rfl rfl rfl ?_
  refine X_getR 22 (by decide +kernel : decode cX7_useDraft 19 = .ok (.getfield 63, 3)) rfl rfl (by decide +kernel : aFd 9 63 = some (9, 6, true, true)) g1 p11 ?_
  refine X_aload_n 23 (by decide +kernel : decode cX7_useDraft 22 = .ok (.aload_n 0, 1)) rfl rfl rfl ?_
  refine X_getR 26 (by decide +kernel : decode cX7_useDraft 23 = .ok (.getfield 48, 3)) rfl rfl (by decide +kernel : aFd 9 48 = some (9, 8, true, false)) g1 p14 ?_
  exact X_cv (as := [.ref b13]) (rest := []) (by decide +kernel : decode cX7_useDraft 26 = .ok (.invokevirtual 121, 3)) (Or.inl ⟨rfl, rfl, rfl⟩) rfl rfl rfl rfl rfl (Nat.le_of_ble_eq_true rfl) (Or.inr (Or.inr ((congrArg (fun z => (vwCl[z]?).map (fun q => q.1)) g15).trans rfl))) hd1 k
theorem kX7_useDraft_29 {o0 : Option Value} {o1 : Option Value} (q : Q (some none) S (mI M)) : X E d fX7_useDraft 29 [o0, o1] [] S (mI M) Q := by
  exact X_vret (by decide +kernel : decode cX7_useDraft 29 = .ok (.return_, 1)) rfl rfl q
theorem kX7_setToll_0 {a0 : Nat} {x1 : Int} {o2 : Option Value} {o3 : Option Value} {b2 : Nat} (g1 : aKd S a0 = 9) (p3 : aP S a0 8 = some b2) (g4 : aKd S b2 = 5) (hd1 : 1 ≤ d) (k : X E (d - 1) fX7_isOutside 0 [some (J x1), some (J (M b2 2))] [] S (mI M) (Kr E d fX7_setToll 11 [some (.ref a0), some (J x1), o2, o3] [] Q)) : X E d fX7_setToll 0 [some (.ref a0), some (J x1), o2, o3] [] S (mI M) Q := by
  refine X_iload_n 1 (by decide +kernel : decode cX7_setToll 0 = .ok (.iload_n 1, 1)) rfl rfl rfl ?_
  refine X_aload_n 2 (by decide +kernel : decode cX7_setToll 1 = .ok (.aload_n 0, 1)) rfl rfl rfl ?_
  refine X_getR 5 (by decide +kernel : decode cX7_setToll 2 = .ok (.getfield 48, 3)) rfl rfl (by decide +kernel : aFd 9 48 = some (9, 8, true, false)) g1 p3 ?_
  refine X_getI 8 (by decide +kernel : decode cX7_setToll 5 = .ok (.getfield 137, 3)) rfl rfl (by decide +kernel : aFd 9 137 = some (5, 2, false, false)) g4 ?_
  exact X_cs (as := [J (M b2 2), J x1]) (rest := []) (by decide +kernel : decode cX7_setToll 8 = .ok (.invokestatic 154, 3)) rfl rfl rfl rfl rfl rfl rfl (Nat.le_of_ble_eq_true rfl) hd1 k
theorem kX7_setToll_11 {o0 : Option Value} {o1 : Option Value} {o2 : Option Value} {o3 : Option Value} {t0 : Int} (r1 : R32 t0) (k1 : t0 = 0 → X E d fX7_setToll 24 [o0, o1, o2, o3] [] S (mI M) Q) (k2 : t0 ≠ 0 → X E d fX7_setToll 14 [o0, o1, o2, o3] [] S (mI M) Q) : X E d fX7_setToll 11 [o0, o1, o2, o3] [J t0] S (mI M) Q := by
  exact X_ifeq 24 14 (by decide +kernel : decode cX7_setToll 11 = .ok (.ifCond .eq 13, 3)) rfl rfl (by decide) r1 k1 k2
theorem kX7_setToll_24 {o0 : Option Value} {o1 : Option Value} {x2 : Int} {o3 : Option Value} (r1 : R32 x2) (k1 : x2 < 0 → X E d fX7_setToll 34 [o0, o1, some (J x2), o3] [] S (mI M) Q) (k2 : 0 ≤ x2 → X E d fX7_setToll 28 [o0, o1, some (J x2), o3] [] S (mI M) Q) : X E d fX7_setToll 24 [o0, o1, some (J x2), o3] [] S (mI M) Q := by
  refine X_iload_n 25 (by decide +kernel : decode cX7_setToll 24 = .ok (.iload_n 2, 1)) rfl rfl rfl ?_
  exact X_iflt 34 28 (by decide +kernel : decode cX7_setToll 25 = .ok (.ifCond .lt 9, 3)) rfl rfl (by decide) r1 k1 k2
theorem kX7_setToll_28 {o0 : Option Value} {o1 : Option Value} {x2 : Int} {o3 : Option Value} (r1 : R32 x2) (k1 : x2 ≤ 60 → X E d fX7_setToll 44 [o0, o1, some (J x2), o3] [] S (mI M) Q) (k2 : 60 < x2 → X E d fX7_setToll 34 [o0, o1, some (J x2), o3] [] S (mI M) Q) : X E d fX7_setToll 28 [o0, o1, some (J x2), o3] [] S (mI M) Q := by
  refine X_iload_n 29 (by decide +kernel : decode cX7_setToll 28 = .ok (.iload_n 2, 1)) rfl rfl rfl ?_
  refine X_bipush 31 (60) (by decide +kernel : decode cX7_setToll 29 = .ok (.bipush 60, 2)) rfl rfl (by decide +kernel) ?_
  exact X_icmple 44 34 (by decide +kernel : decode cX7_setToll 31 = .ok (.if_icmp .le 13, 3)) rfl rfl (by decide) r1 ⟨by decide, by decide⟩ k1 k2
theorem kX7_setToll_44 {a0 : Nat} {x1 : Int} {x2 : Int} {o3 : Option Value} {b2 : Nat} {b5 : Nat} (g1 : aKd S a0 = 9) (p3 : aP S a0 6 = some b2) (g4 : aKd S b2 = 8) (p6 : aP S b2 7 = some b5) (g7 : aKd S b5 = 100) (r8 : R32 x1) (h9 : (0 : Int) ≤ x1 ∧ x1 < (aN S b5 : Int)) (g16 : aK S b5 = 100) (q : Q (some (some (J (M b5 x1.toNat)))) S (mI (mW M b5 x1.toNat x2))) : X E d fX7_setToll 44 [some (.ref a0), some (J x1), some (J x2), o3] [] S (mI M) Q := by
  refine X_aload_n 45 (by decide +kernel : decode cX7_setToll 44 = .ok (.aload_n 0, 1)) rfl rfl rfl ?_
  refine X_getR 48 (by decide +kernel : decode cX7_setToll 45 = .ok (.getfield 63, 3)) rfl rfl (by decide +kernel : aFd 9 63 = some (9, 6, true, true)) g1 p3 ?_
  refine X_getR 51 (by decide +kernel : decode cX7_setToll 48 = .ok (.getfield 198, 3)) rfl rfl (by decide +kernel : aFd 9 198 = some (8, 7, true, true)) g4 p6 ?_
  refine X_iload_n 52 (by decide +kernel : decode cX7_setToll 51 = .ok (.iload_n 1, 1)) rfl rfl rfl ?_
  refine X_iald 53 (by decide +kernel : decode cX7_setToll 52 = .ok (.iaload, 1)) rfl rfl g7 r8 h9 ?_
  refine X_istore_n 54 (by decide +kernel : decode cX7_setToll 53 = .ok (.istore_n 3, 1)) rfl rfl (Nat.le_of_ble_eq_true rfl) rfl ?_
  refine X_aload_n 55 (by decide +kernel : decode cX7_setToll 54 = .ok (.aload_n 0, 1)) rfl rfl rfl ?_
  refine X_getR 58 (by decide +kernel : decode cX7_setToll 55 = .ok (.getfield 63, 3)) rfl rfl (by decide +kernel : aFd 9 63 = some (9, 6, true, true)) g1 p3 ?_
  refine X_getR 61 (by decide +kernel : decode cX7_setToll 58 = .ok (.getfield 198, 3)) rfl rfl (by decide +kernel : aFd 9 198 = some (8, 7, true, true)) g4 p6 ?_
  refine X_iload_n 62 (by decide +kernel : decode cX7_setToll 61 = .ok (.iload_n 1, 1)) rfl rfl rfl ?_
  refine X_iload_n 63 (by decide +kernel : decode cX7_setToll 62 = .ok (.iload_n 2, 1)) rfl rfl rfl ?_
  refine X_iast 64 (by decide +kernel : decode cX7_setToll 63 = .ok (.iastore, 1)) rfl rfl g16 r8 h9 ?_
  refine X_iload_n 65 (by decide +kernel : decode cX7_setToll 64 = .ok (.iload_n 3, 1)) rfl rfl rfl ?_
  exact X_iret (by decide +kernel : decode cX7_setToll 65 = .ok (.ireturn, 1)) rfl rfl rfl q
theorem kX7_setWheels_0 {a0 : Nat} {x1 : Int} {o2 : Option Value} {o3 : Option Value} {b2 : Nat} (g1 : aKd S a0 = 9) (p3 : aP S a0 8 = some b2) (g4 : aKd S b2 = 5) (hd1 : 1 ≤ d) (k : X E (d - 1) fX7_isOutside 0 [some (J x1), some (J (M b2 3))] [] S (mI M) (Kr E d fX7_setWheels 11 [some (.ref a0), some (J x1), o2, o3] [] Q)) : X E d fX7_setWheels 0 [some (.ref a0), some (J x1), o2, o3] [] S (mI M) Q := by
  refine X_iload_n 1 (by decide +kernel : decode cX7_setWheels 0 = .ok (.iload_n 1, 1)) rfl rfl rfl ?_
  refine X_aload_n 2 (by decide +kernel : decode cX7_setWheels 1 = .ok (.aload_n 0, 1)) rfl rfl rfl ?_
  refine X_getR 5 (by decide +kernel : decode cX7_setWheels 2 = .ok (.getfield 48, 3)) rfl rfl (by decide +kernel : aFd 9 48 = some (9, 8, true, false)) g1 p3 ?_
  refine X_getI 8 (by decide +kernel : decode cX7_setWheels 5 = .ok (.getfield 140, 3)) rfl rfl (by decide +kernel : aFd 9 140 = some (5, 3, false, false)) g4 ?_
  exact X_cs (as := [J (M b2 3), J x1]) (rest := []) (by decide +kernel : decode cX7_setWheels 8 = .ok (.invokestatic 154, 3)) rfl rfl rfl rfl rfl rfl rfl (Nat.le_of_ble_eq_true rfl) hd1 k
theorem kX7_setWheels_11 {o0 : Option Value} {o1 : Option Value} {o2 : Option Value} {o3 : Option Value} {t0 : Int} (r1 : R32 t0) (k1 : t0 = 0 → X E d fX7_setWheels 25 [o0, o1, o2, o3] [] S (mI M) Q) (k2 : t0 ≠ 0 → X E d fX7_setWheels 14 [o0, o1, o2, o3] [] S (mI M) Q) : X E d fX7_setWheels 11 [o0, o1, o2, o3] [J t0] S (mI M) Q := by
  exact X_ifeq 25 14 (by decide +kernel : decode cX7_setWheels 11 = .ok (.ifCond .eq 14, 3)) rfl rfl (by decide) r1 k1 k2
theorem kX7_setWheels_25 {o0 : Option Value} {o1 : Option Value} {x2 : Int} {o3 : Option Value} (r1 : R32 x2) (k1 : x2 < 1 → X E d fX7_setWheels 36 [o0, o1, some (J x2), o3] [] S (mI M) Q) (k2 : 1 ≤ x2 → X E d fX7_setWheels 30 [o0, o1, some (J x2), o3] [] S (mI M) Q) : X E d fX7_setWheels 25 [o0, o1, some (J x2), o3] [] S (mI M) Q := by
  refine X_iload_n 26 (by decide +kernel : decode cX7_setWheels 25 = .ok (.iload_n 2, 1)) rfl rfl rfl ?_
  refine X_iconst 27 (by decide +kernel : decode cX7_setWheels 26 = .ok (.iconst 1, 1)) rfl rfl ?_
  exact X_icmplt 36 30 (by decide +kernel : decode cX7_setWheels 27 = .ok (.if_icmp .lt 9, 3)) rfl rfl (by decide) r1 ⟨by decide, by decide⟩ k1 k2
theorem kX7_setWheels_30 {o0 : Option Value} {o1 : Option Value} {x2 : Int} {o3 : Option Value} (r1 : R32 x2) (k1 : x2 ≤ 16 → X E d fX7_setWheels 47 [o0, o1, some (J x2), o3] [] S (mI M) Q) (k2 : 16 < x2 → X E d fX7_setWheels 36 [o0, o1, some (J x2), o3] [] S (mI M) Q) : X E d fX7_setWheels 30 [o0, o1, some (J x2), o3] [] S (mI M) Q := by
  refine X_iload_n 31 (by decide +kernel : decode cX7_setWheels 30 = .ok (.iload_n 2, 1)) rfl rfl rfl ?_
  refine X_bipush 33 (16) (by decide +kernel : decode cX7_setWheels 31 = .ok (.bipush 16, 2)) rfl rfl (by decide +kernel) ?_
  exact X_icmple 47 36 (by decide +kernel : decode cX7_setWheels 33 = .ok (.if_icmp .le 14, 3)) rfl rfl (by decide) r1 ⟨by decide, by decide⟩ k1 k2
theorem kX7_setWheels_47 {a0 : Nat} {x1 : Int} {x2 : Int} {o3 : Option Value} {b2 : Nat} {b5 : Nat} (g1 : aKd S a0 = 9) (p3 : aP S a0 6 = some b2) (g4 : aKd S b2 = 8) (p6 : aP S b2 12 = some b5) (g7 : aKd S b5 = 100) (r8 : R32 x1) (h9 : (0 : Int) ≤ x1 ∧ x1 < (aN S b5 : Int)) (g16 : aK S b5 = 100) (q : Q (some (some (J (M b5 x1.toNat)))) S (mI (mW M b5 x1.toNat x2))) : X E d fX7_setWheels 47 [some (.ref a0), some (J x1), some (J x2), o3] [] S (mI M) Q := by
  refine X_aload_n 48 (by decide +kernel : decode cX7_setWheels 47 = .ok (.aload_n 0, 1)) rfl rfl rfl ?_
  refine X_getR 51 (by decide +kernel : decode cX7_setWheels 48 = .ok (.getfield 63, 3)) rfl rfl (by decide +kernel : aFd 9 63 = some (9, 6, true, true)) g1 p3 ?_
  refine X_getR 54 (by decide +kernel : decode cX7_setWheels 51 = .ok (.getfield 218, 3)) rfl rfl (by decide +kernel : aFd 9 218 = some (8, 12, true, true)) g4 p6 ?_
  refine X_iload_n 55 (by decide +kernel : decode cX7_setWheels 54 = .ok (.iload_n 1, 1)) rfl rfl rfl ?_
  refine X_iald 56 (by decide +kernel : decode cX7_setWheels 55 = .ok (.iaload, 1)) rfl rfl g7 r8 h9 ?_
  refine X_istore_n 57 (by decide +kernel : decode cX7_setWheels 56 = .ok (.istore_n 3, 1)) rfl rfl (Nat.le_of_ble_eq_true rfl) rfl ?_
  refine X_aload_n 58 (by decide +kernel : decode cX7_setWheels 57 = .ok (.aload_n 0, 1)) rfl rfl rfl ?_
  refine X_getR 61 (by decide +kernel : decode cX7_setWheels 58 = .ok (.getfield 63, 3)) rfl rfl (by decide +kernel : aFd 9 63 = some (9, 6, true, true)) g1 p3 ?_
  refine X_getR 64 (by decide +kernel : decode cX7_setWheels 61 = .ok (.getfield 218, 3)) rfl rfl (by decide +kernel : aFd 9 218 = some (8, 12, true, true)) g4 p6 ?_
  refine X_iload_n 65 (by decide +kernel : decode cX7_setWheels 64 = .ok (.iload_n 1, 1)) rfl rfl rfl ?_
  refine X_iload_n 66 (by decide +kernel : decode cX7_setWheels 65 = .ok (.iload_n 2, 1)) rfl rfl rfl ?_
  refine X_iast 67 (by decide +kernel : decode cX7_setWheels 66 = .ok (.iastore, 1)) rfl rfl g16 r8 h9 ?_
  refine X_iload_n 68 (by decide +kernel : decode cX7_setWheels 67 = .ok (.iload_n 3, 1)) rfl rfl rfl ?_
  exact X_iret (by decide +kernel : decode cX7_setWheels 68 = .ok (.ireturn, 1)) rfl rfl rfl q
theorem kX7_mend_0 {a0 : Nat} {x1 : Int} {o2 : Option Value} {b2 : Nat} (g1 : aKd S a0 = 9) (p3 : aP S a0 8 = some b2) (g4 : aKd S b2 = 5) (hd1 : 1 ≤ d) (k : X E (d - 1) fX7_isOutside 0 [some (J x1), some (J (M b2 0))] [] S (mI M) (Kr E d fX7_mend 11 [some (.ref a0), some (J x1), o2] [] Q)) : X E d fX7_mend 0 [some (.ref a0), some (J x1), o2] [] S (mI M) Q := by
  refine X_iload_n 1 (by decide +kernel : decode cX7_mend 0 = .ok (.iload_n 1, 1)) rfl rfl rfl ?_
  refine X_aload_n 2 (by decide +kernel : decode cX7_mend 1 = .ok (.aload_n 0, 1)) rfl rfl rfl ?_
  refine X_getR 5 (by decide +kernel : decode cX7_mend 2 = .ok (.getfield 48, 3)) rfl rfl (by decide +kernel : aFd 9 48 = some (9, 8, true, false)) g1 p3 ?_
  refine X_getI 8 (by decide +kernel : decode cX7_mend 5 = .ok (.getfield 131, 3)) rfl rfl (by decide +kernel : aFd 9 131 = some (5, 0, false, false)) g4 ?_
  exact X_cs (as := [J (M b2 0), J x1]) (rest := []) (by decide +kernel : decode cX7_mend 8 = .ok (.invokestatic 154, 3)) rfl rfl rfl rfl rfl rfl rfl (Nat.le_of_ble_eq_true rfl) hd1 k
theorem kX7_mend_11 {o0 : Option Value} {o1 : Option Value} {o2 : Option Value} {t0 : Int} (r1 : R32 t0) (k1 : t0 = 0 → X E d fX7_mend 25 [o0, o1, o2] [] S (mI M) Q) (k2 : t0 ≠ 0 → X E d fX7_mend 14 [o0, o1, o2] [] S (mI M) Q) : X E d fX7_mend 11 [o0, o1, o2] [J t0] S (mI M) Q := by
  exact X_ifeq 25 14 (by decide +kernel : decode cX7_mend 11 = .ok (.ifCond .eq 14, 3)) rfl rfl (by decide) r1 k1 k2
theorem kX7_mend_25 {o0 : Option Value} {o1 : Option Value} {x2 : Int} (r1 : R32 x2) (k1 : x2 < 1 → X E d fX7_mend 37 [o0, o1, some (J x2)] [] S (mI M) Q) (k2 : 1 ≤ x2 → X E d fX7_mend 30 [o0, o1, some (J x2)] [] S (mI M) Q) : X E d fX7_mend 25 [o0, o1, some (J x2)] [] S (mI M) Q := by
  refine X_iload_n 26 (by decide +kernel : decode cX7_mend 25 = .ok (.iload_n 2, 1)) rfl rfl rfl ?_
  refine X_iconst 27 (by decide +kernel : decode cX7_mend 26 = .ok (.iconst 1, 1)) rfl rfl ?_
  exact X_icmplt 37 30 (by decide +kernel : decode cX7_mend 27 = .ok (.if_icmp .lt 10, 3)) rfl rfl (by decide) r1 ⟨by decide, by decide⟩ k1 k2
theorem kX7_mend_30 {o0 : Option Value} {o1 : Option Value} {x2 : Int} (r1 : R32 x2) (k1 : x2 ≤ 999 → X E d fX7_mend 48 [o0, o1, some (J x2)] [] S (mI M) Q) (k2 : 999 < x2 → X E d fX7_mend 37 [o0, o1, some (J x2)] [] S (mI M) Q) : X E d fX7_mend 30 [o0, o1, some (J x2)] [] S (mI M) Q := by
  refine X_iload_n 31 (by decide +kernel : decode cX7_mend 30 = .ok (.iload_n 2, 1)) rfl rfl rfl ?_
  refine X_sipush 34 (999) (by decide +kernel : decode cX7_mend 31 = .ok (.sipush 999, 3)) rfl rfl (by decide +kernel) ?_
  exact X_icmple 48 37 (by decide +kernel : decode cX7_mend 34 = .ok (.if_icmp .le 14, 3)) rfl rfl (by decide) r1 ⟨by decide, by decide⟩ k1 k2
theorem kX7_mend_48 {a0 : Nat} {o1 : Option Value} {x2 : Int} {b2 : Nat} (g1 : aKd S a0 = 9) (p3 : aP S a0 6 = some b2) (g4 : aKd S b2 = 8) (r5 : R32 x2) (r6 : R32 (M b2 3)) (k1 : x2 ≤ (M b2 3) → X E d fX7_mend 70 [some (.ref a0), o1, some (J x2)] [] S (mI M) Q) (k2 : (M b2 3) < x2 → X E d fX7_mend 59 [some (.ref a0), o1, some (J x2)] [] S (mI M) Q) : X E d fX7_mend 48 [some (.ref a0), o1, some (J x2)] [] S (mI M) Q := by
  refine X_iload_n 49 (by decide +kernel : decode cX7_mend 48 = .ok (.iload_n 2, 1)) rfl rfl rfl ?_
  refine X_aload_n 50 (by decide +kernel : decode cX7_mend 49 = .ok (.aload_n 0, 1)) rfl rfl rfl ?_
  refine X_getR 53 (by decide +kernel : decode cX7_mend 50 = .ok (.getfield 63, 3)) rfl rfl (by decide +kernel : aFd 9 63 = some (9, 6, true, true)) g1 p3 ?_
  refine X_getI 56 (by decide +kernel : decode cX7_mend 53 = .ok (.getfield 128, 3)) rfl rfl (by decide +kernel : aFd 9 128 = some (8, 3, false, false)) g4 ?_
  exact X_icmple 70 59 (by decide +kernel : decode cX7_mend 56 = .ok (.if_icmp .le 14, 3)) rfl rfl (by decide) r5 r6 k1 k2
theorem kX7_mend_59 {o0 : Option Value} {o1 : Option Value} {o2 : Option Value} (q : Q none (aNew S 500 0 6) (mI M)) : X E d fX7_mend 59 [o0, o1, o2] [] S (mI M) Q := by
  exact X_thr rfl q
theorem kX7_mend_70 {a0 : Nat} {x1 : Int} {x2 : Int} {b2 : Nat} (g1 : aKd S a0 = 9) (p3 : aP S a0 6 = some b2) (hd1 : 1 ≤ d) (k : X E (d - 1) fX6_spend 0 [some (.ref b2), some (J x1), some (J x2), none, none, none] [] S (mI M) (Kr E d fX7_mend 79 [some (.ref a0), some (J x1), some (J x2)] [] Q)) (g4 : aKd S b2 = 8) : X E d fX7_mend 70 [some (.ref a0), some (J x1), some (J x2)] [] S (mI M) Q := by
  refine X_aload_n 71 (by decide +kernel : decode cX7_mend 70 = .ok (.aload_n 0, 1)) rfl rfl rfl ?_
  refine X_getR 74 (by decide +kernel : decode cX7_mend 71 = .ok (.getfield 63, 3)) rfl rfl (by decide +kernel : aFd 9 63 = some (9, 6, true, true)) g1 p3 ?_
  refine X_iload_n 75 (by decide +kernel : decode cX7_mend 74 = .ok (.iload_n 1, 1)) rfl rfl rfl ?_
  refine X_iload_n 76 (by decide +kernel : decode cX7_mend 75 = .ok (.iload_n 2, 1)) rfl rfl rfl ?_
  exact X_cv (as := [J x2, J x1]) (rest := []) (by decide +kernel : decode cX7_mend 76 = .ok (.invokevirtual 266, 3)) (Or.inl ⟨rfl, rfl, rfl⟩) rfl rfl rfl rfl rfl (Nat.le_of_ble_eq_true rfl) (Or.inr (Or.inr (by rw [g4]; rfl))) hd1 k
theorem kX7_mend_79 {o0 : Option Value} {o1 : Option Value} {o2 : Option Value} {t0 : Int} (q : Q (some (some (J t0))) S (mI M)) : X E d fX7_mend 79 [o0, o1, o2] [J t0] S (mI M) Q := by
  exact X_iret (by decide +kernel : decode cX7_mend 79 = .ok (.ireturn, 1)) rfl rfl rfl q
theorem kX7_grant_0 {o0 : Option Value} {x1 : Int} (r1 : R32 x1) (k1 : x1 < 1 → X E d fX7_grant 12 [o0, some (J x1)] [] S (mI M) Q) (k2 : 1 ≤ x1 → X E d fX7_grant 5 [o0, some (J x1)] [] S (mI M) Q) : X E d fX7_grant 0 [o0, some (J x1)] [] S (mI M) Q := by
  refine X_iload_n 1 (by decide +kernel : decode cX7_grant 0 = .ok (.iload_n 1, 1)) rfl rfl rfl ?_
  refine X_iconst 2 (by decide +kernel : decode cX7_grant 1 = .ok (.iconst 1, 1)) rfl rfl ?_
  exact X_icmplt 12 5 (by decide +kernel : decode cX7_grant 2 = .ok (.if_icmp .lt 10, 3)) rfl rfl (by decide) r1 ⟨by decide, by decide⟩ k1 k2
theorem kX7_grant_5 {o0 : Option Value} {x1 : Int} (r1 : R32 x1) (k1 : x1 ≤ 9999 → X E d fX7_grant 23 [o0, some (J x1)] [] S (mI M) Q) (k2 : 9999 < x1 → X E d fX7_grant 12 [o0, some (J x1)] [] S (mI M) Q) : X E d fX7_grant 5 [o0, some (J x1)] [] S (mI M) Q := by
  refine X_iload_n 6 (by decide +kernel : decode cX7_grant 5 = .ok (.iload_n 1, 1)) rfl rfl rfl ?_
  refine X_sipush 9 (9999) (by decide +kernel : decode cX7_grant 6 = .ok (.sipush 9999, 3)) rfl rfl (by decide +kernel) ?_
  exact X_icmple 23 12 (by decide +kernel : decode cX7_grant 9 = .ok (.if_icmp .le 14, 3)) rfl rfl (by decide) r1 ⟨by decide, by decide⟩ k1 k2
theorem kX7_grant_23 {a0 : Nat} {x1 : Int} {b2 : Nat} (g1 : aKd S a0 = 9) (p3 : aP S a0 6 = some b2) (g4 : aKd S b2 = 8) (g5 : aK S b2 = 8) (hd1 : 1 ≤ d) (k : X E (d - 1) fX6_keepCoinsInBounds 0 [some (.ref b2)] [] S (mI (mW M b2 3 (nz ((M b2 3) + x1)))) (Kr E d fX7_grant 43 [some (.ref a0), some (J x1)] [] Q)) : X E d fX7_grant 23 [some (.ref a0), some (J x1)] [] S (mI M) Q := by
  refine X_aload_n 24 (by decide +kernel : decode cX7_grant 23 = .ok (.aload_n 0, 1)) rfl rfl rfl ?_
  refine X_getR 27 (by decide +kernel : decode cX7_grant 24 = .ok (.getfield 63, 3)) rfl rfl (by decide +kernel : aFd 9 63 = some (9, 6, true, true)) g1 p3 ?_
  refine X_dup 28 (by decide +kernel : decode cX7_grant 27 = .ok (.dup, 1)) rfl rfl rfl ?_
  refine X_getI 31 (by decide +kernel : decode cX7_grant 28 = .ok (.getfield 128, 3)) rfl rfl (by decide +kernel : aFd 9 128 = some (8, 3, false, false)) g4 ?_
  refine X_iload_n 32 (by decide +kernel : decode cX7_grant 31 = .ok (.iload_n 1, 1)) rfl rfl rfl ?_
  refine X_iadd 33 (by decide +kernel : decode cX7_grant 32 = .ok (.iadd, 1)) rfl rfl ?_
  refine X_putIz 36 (by decide +kernel : decode cX7_grant 33 = .ok (.putfield 128, 3)) rfl rfl (by decide +kernel : aFd 9 128 = some (8, 3, false, false)) (Or.inl rfl) g5 rfl rfl ?_
  refine X_aload_n 37 (by decide +kernel : decode cX7_grant 36 = .ok (.aload_n 0, 1)) rfl rfl rfl ?_
  refine X_getR 40 (by decide +kernel : decode cX7_grant 37 = .ok (.getfield 63, 3)) rfl rfl (by decide +kernel : aFd 9 63 = some (9, 6, true, true)) g1 p3 ?_
  exact X_cv (as := []) (rest := []) (by decide +kernel : decode cX7_grant 40 = .ok (.invokevirtual 269, 3)) (Or.inl ⟨rfl, rfl, rfl⟩) rfl rfl rfl rfl rfl (Nat.le_of_ble_eq_true rfl) (Or.inr (Or.inr (by rw [g4]; rfl))) hd1 k
theorem kX7_grant_43 {a0 : Nat} {o1 : Option Value} {b2 : Nat} (g1 : aKd S a0 = 9) (p3 : aP S a0 6 = some b2) (g4 : aKd S b2 = 8) (q : Q (some (some (J (M b2 3)))) S (mI M)) : X E d fX7_grant 43 [some (.ref a0), o1] [] S (mI M) Q := by
  refine X_aload_n 44 (by decide +kernel : decode cX7_grant 43 = .ok (.aload_n 0, 1)) rfl rfl rfl ?_
  refine X_getR 47 (by decide +kernel : decode cX7_grant 44 = .ok (.getfield 63, 3)) rfl rfl (by decide +kernel : aFd 9 63 = some (9, 6, true, true)) g1 p3 ?_
  refine X_getI 50 (by decide +kernel : decode cX7_grant 47 = .ok (.getfield 128, 3)) rfl rfl (by decide +kernel : aFd 9 128 = some (8, 3, false, false)) g4 ?_
  exact X_iret (by decide +kernel : decode cX7_grant 50 = .ok (.ireturn, 1)) rfl rfl rfl q
end
