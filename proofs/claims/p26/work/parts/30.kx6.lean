/-! straight pieces of methods, by program (wip/p26/blk.py): X6_init X6_total X6_brokenMilesIn X6_leastCondition X6_brokenMilesOf X6_tollOf X6_copyFrom X6_travel X6_isFree X6_pay X6_wear X6_letGo X6_farmOut X6_rentByOrders X6_settleRents X6_mendByOrders X6_spend X6_worstMile X6_keepCoinsInBounds X6_begin X7_isOutside X7_valueAt X7_sumOf -/
section
variable {E : Nat → Value} {d : Nat} {S : aS} {M : Nat → Nat → Int} {Q : Option (Option Value) → aS → aI → Prop}
theorem kX6_init_0 {a0 : Nat} {a1 : Nat} {a2 : Nat} {M_2 : Nat → Nat → Int} {S_4 : aS} {M_6 : Nat → Nat → Int} {S_8 : aS} {M_10 : Nat → Nat → Int} {S_12 : aS} {S_14 : aS} {M_15 : Nat → Nat → Int} {S_17 : aS} {S_19 : aS} {M_20 : Nat → Nat → Int} {S_22 : aS} {S_24 : aS} {M_25 : Nat → Nat → Int} {S_27 : aS} (g1 : aK (aNew S 100 45 45) a0 = 8) (eM_2 : aU (aU M (aX S) (fun _ => 0)) (aX (aPut (aNew S 100 45 45) a0 4 (some (aX S)))) (fun _ => 0) = M_2) (g3 : aK (aNew (aPut (aNew S 100 45 45) a0 4 (some (aX S))) 100 45 45) a0 = 8) (eS_4 : aPut (aNew (aPut (aNew S 100 45 45) a0 4 (some (aX S))) 100 45 45) a0 5 (some (aX (aPut (aNew S 100 45 45) a0 4 (some (aX S))))) = S_4) (g5 : aK (aNew S_4 100 5 5) a0 = 8) (eM_6 : aU (aU M_2 (aX S_4) (fun _ => 0)) (aX (aPut (aNew S_4 100 5 5) a0 6 (some (aX S_4)))) (fun _ => 0) = M_6) (g7 : aK (aNew (aPut (aNew S_4 100 5 5) a0 6 (some (aX S_4))) 100 5 5) a0 = 8) (eS_8 : aPut (aNew (aPut (aNew S_4 100 5 5) a0 6 (some (aX S_4))) 100 5 5) a0 7 (some (aX (aPut (aNew S_4 100 5 5) a0 6 (some (aX S_4))))) = S_8) (g9 : aK (aNew S_8 100 5 5) a0 = 8) (eM_10 : aU (aU M_6 (aX S_8) (fun _ => 0)) (aX (aPut (aNew S_8 100 5 5) a0 8 (some (aX S_8)))) (fun _ => 0) = M_10) (g11 : aK (aNew (aPut (aNew S_8 100 5 5) a0 8 (some (aX S_8))) 100 5 5) a0 = 8) (eS_12 : aPut (aNew (aPut (aNew S_8 100 5 5) a0 8 (some (aX S_8))) 100 5 5) a0 9 (some (aX (aPut (aNew S_8 100 5 5) a0 8 (some (aX S_8))))) = S_12) (g13 : aK (aNew S_12 100 5 5) a0 = 8) (eS_14 : aNew (aPut (aNew S_12 100 5 5) a0 10 (some (aX S_12))) 100 5 5 = S_14) (eM_15 : aU (aU M_10 (aX S_12) (fun _ => 0)) (aX (aPut (aNew S_12 100 5 5) a0 10 (some (aX S_12)))) (fun _ => 0) = M_15) (g16 : aK S_14 a0 = 8) (eS_17 : aPut S_14 a0 11 (some (aX (aPut (aNew S_12 100 5 5) a0 10 (some (aX S_12))))) = S_17) (g18 : aK (aNew S_17 100 8 8) a0 = 8) (eS_19 : aNew (aPut (aNew S_17 100 8 8) a0 12 (some (aX S_17))) 100 8 8 = S_19) (eM_20 : aU (aU M_15 (aX S_17) (fun _ => 0)) (aX (aPut (aNew S_17 100 8 8) a0 12 (some (aX S_17)))) (fun _ => 0) = M_20) (g21 : aK S_19 a0 = 8) (eS_22 : aPut S_19 a0 13 (some (aX (aPut (aNew S_17 100 8 8) a0 12 (some (aX S_17))))) = S_22) (g23 : aK (aNew S_22 100 8 8) a0 = 8) (eS_24 : aNew (aPut (aNew S_22 100 8 8) a0 14 (some (aX S_22))) 100 8 8 = S_24) (eM_25 : aU (aU M_20 (aX S_22) (fun _ => 0)) (aX (aPut (aNew S_22 100 8 8) a0 14 (some (aX S_22)))) (fun _ => 0) = M_25) (g26 : aK S_24 a0 = 8) (eS_27 : aPut S_24 a0 15 (some (aX (aPut (aNew S_22 100 8 8) a0 14 (some (aX S_22))))) = S_27) (g28 : aK S_27 a0 = 8) (q : Q (some none) (aPut (aPut S_27 a0 0 (some a2)) a0 1 (some a1)) (mI (mW (mW M_25 a0 3 200) a0 16 (-1)))) : X E d fX6_init 0 [some (.ref a0), some (.ref a1), some (.ref a2)] [] S (mI M) Q := by
  refine X_aload_n 1 (by decide +kernel : decode cX6_init 0 = .ok (.aload_n 0, 1)) rfl rfl rfl ?_
  refine X_obj 4 (by decide +kernel : decode cX6_init 1 = .ok (.invokespecial 3, 3)) rfl rfl rfl (Nat.le_of_ble_eq_true rfl) ?_
  refine X_aload_n 5 (by decide +kernel : decode cX6_init 4 = .ok (.aload_n 0, 1)) rfl rfl rfl ?_
  refine X_bipush 7 (45) (by decide +kernel : decode cX6_init 5 = .ok (.bipush 45, 2)) rfl rfl (by decide +kernel) ?_
  refine X_newI 9 (by decide +kernel : decode cX6_init 7 = .ok (.newarray .int, 2)) rfl rfl ⟨by decide, by decide⟩ ?_
  refine X_putR 12 (by decide +kernel : decode cX6_init 9 = .ok (.putfield 9, 3)) rfl rfl (by decide +kernel : aFd 8 9 = some (8, 4, true, true)) (Or.inr ⟨rfl, rfl⟩) g1 rfl ?_
  refine X_aload_n 13 (by decide +kernel : decode cX6_init 12 = .ok (.aload_n 0, 1)) rfl rfl rfl ?_
  refine X_bipush 15 (45) (by decide +kernel : decode cX6_init 13 = .ok (.bipush 45, 2)) rfl rfl (by decide +kernel) ?_
  refine X_newI 17 (by decide +kernel : decode cX6_init 15 = .ok (.newarray .int, 2)) rfl rfl ⟨by decide, by decide⟩ ?_
  show X E d fX6_init 17 [some (.ref a0), some (.ref a1), some (.ref a2)] [.ref (aX (aPut (aNew S 100 45 45) a0 4 (some (aX S)))), .ref a0] (aNew (aPut (aNew S 100 45 45) a0 4 (some (aX S))) 100 45 45) (mI (aU (aU M (aX S) (fun _ => 0)) (aX (aPut (aNew S 100 45 45) a0 4 (some (aX S)))) (fun _ => 0))) Q
  rw [eM_2]
  refine X_putR 20 (by decide +kernel : decode cX6_init 17 = .ok (.putfield 15, 3)) rfl rfl (by decide +kernel : aFd 8 15 = some (8, 5, true, true)) (Or.inr ⟨rfl, rfl⟩) g3 rfl ?_
  show X E d fX6_init 20 [some (.ref a0), some (.ref a1), some (.ref a2)] [] (aPut (aNew (aPut (aNew S 100 45 45) a0 4 (some (aX S))) 100 45 45) a0 5 (some (aX (aPut (aNew S 100 45 45) a0 4 (some (aX S)))))) (mI M_2) Q
  rw [eS_4]
  refine X_aload_n 21 (by decide +kernel : decode cX6_init 20 = .ok (.aload_n 0, 1)) rfl rfl rfl ?_
  refine X_iconst 22 (by decide +kernel : decode cX6_init 21 = .ok (.iconst 5, 1)) rfl rfl ?_
  refine X_newI 24 (by decide +kernel : decode cX6_init 22 = .ok (.newarray .int, 2)) rfl rfl ⟨by decide, by decide⟩ ?_
  refine X_putR 27 (by decide +kernel : decode cX6_init 24 = .ok (.putfield 18, 3)) rfl rfl (by decide +kernel : aFd 8 18 = some (8, 6, true, true)) (Or.inr ⟨rfl, rfl⟩) g5 rfl ?_
  refine X_aload_n 28 (by decide +kernel : decode cX6_init 27 = .ok (.aload_n 0, 1)) rfl rfl rfl ?_
  refine X_iconst 29 (by decide +kernel : decode cX6_init 28 = .ok (.iconst 5, 1)) rfl rfl ?_
  refine X_newI 31 (by decide +kernel : decode cX6_init 29 = .ok (.newarray .int, 2)) rfl rfl ⟨by decide, by decide⟩ ?_
  show X E d fX6_init 31 [some (.ref a0), some (.ref a1), some (.ref a2)] [.ref (aX (aPut (aNew S_4 100 5 5) a0 6 (some (aX S_4)))), .ref a0] (aNew (aPut (aNew S_4 100 5 5) a0 6 (some (aX S_4))) 100 5 5) (mI (aU (aU M_2 (aX S_4) (fun _ => 0)) (aX (aPut (aNew S_4 100 5 5) a0 6 (some (aX S_4)))) (fun _ => 0))) Q
  rw [eM_6]
  refine X_putR 34 (by decide +kernel : decode cX6_init 31 = .ok (.putfield 21, 3)) rfl rfl (by decide +kernel : aFd 8 21 = some (8, 7, true, true)) (Or.inr ⟨rfl, rfl⟩) g7 rfl ?_
  show X E d fX6_init 34 [some (.ref a0), some (.ref a1), some (.ref a2)] [] (aPut (aNew (aPut (aNew S_4 100 5 5) a0 6 (some (aX S_4))) 100 5 5) a0 7 (some (aX (aPut (aNew S_4 100 5 5) a0 6 (some (aX S_4)))))) (mI M_6) Q
  rw [eS_8]
  refine X_aload_n 35 (by decide +kernel : decode cX6_init 34 = .ok (.aload_n 0, 1)) rfl rfl rfl ?_
  refine X_iconst 36 (by decide +kernel : decode cX6_init 35 = .ok (.iconst 5, 1)) rfl rfl ?_
  refine X_newI 38 (by decide +kernel : decode cX6_init 36 = .ok (.newarray .int, 2)) rfl rfl ⟨by decide, by decide⟩ ?_
  refine X_putR 41 (by decide +kernel : decode cX6_init 38 = .ok (.putfield 24, 3)) rfl rfl (by decide +kernel : aFd 8 24 = some (8, 8, true, true)) (Or.inr ⟨rfl, rfl⟩) g9 rfl ?_
  refine X_aload_n 42 (by decide +kernel : decode cX6_init 41 = .ok (.aload_n 0, 1)) rfl rfl rfl ?_
  refine X_iconst 43 (by decide +kernel : decode cX6_init 42 = .ok (.iconst 5, 1)) rfl rfl ?_
  refine X_newI 45 (by decide +kernel : decode cX6_init 43 = .ok (.newarray .int, 2)) rfl rfl ⟨by decide, by decide⟩ ?_
  show X E d fX6_init 45 [some (.ref a0), some (.ref a1), some (.ref a2)] [.ref (aX (aPut (aNew S_8 100 5 5) a0 8 (some (aX S_8)))), .ref a0] (aNew (aPut (aNew S_8 100 5 5) a0 8 (some (aX S_8))) 100 5 5) (mI (aU (aU M_6 (aX S_8) (fun _ => 0)) (aX (aPut (aNew S_8 100 5 5) a0 8 (some (aX S_8)))) (fun _ => 0))) Q
  rw [eM_10]
  refine X_putR 48 (by decide +kernel : decode cX6_init 45 = .ok (.putfield 27, 3)) rfl rfl (by decide +kernel : aFd 8 27 = some (8, 9, true, true)) (Or.inr ⟨rfl, rfl⟩) g11 rfl ?_
  show X E d fX6_init 48 [some (.ref a0), some (.ref a1), some (.ref a2)] [] (aPut (aNew (aPut (aNew S_8 100 5 5) a0 8 (some (aX S_8))) 100 5 5) a0 9 (some (aX (aPut (aNew S_8 100 5 5) a0 8 (some (aX S_8)))))) (mI M_10) Q
  rw [eS_12]
  refine X_aload_n 49 (by decide +kernel : decode cX6_init 48 = .ok (.aload_n 0, 1)) rfl rfl rfl ?_
  refine X_iconst 50 (by decide +kernel : decode cX6_init 49 = .ok (.iconst 5, 1)) rfl rfl ?_
  refine X_newI 52 (by decide +kernel : decode cX6_init 50 = .ok (.newarray .int, 2)) rfl rfl ⟨by decide, by decide⟩ ?_
  refine X_putR 55 (by decide +kernel : decode cX6_init 52 = .ok (.putfield 30, 3)) rfl rfl (by decide +kernel : aFd 8 30 = some (8, 10, true, true)) (Or.inr ⟨rfl, rfl⟩) g13 rfl ?_
  refine X_aload_n 56 (by decide +kernel : decode cX6_init 55 = .ok (.aload_n 0, 1)) rfl rfl rfl ?_
  refine X_iconst 57 (by decide +kernel : decode cX6_init 56 = .ok (.iconst 5, 1)) rfl rfl ?_
  refine X_newI 59 (by decide +kernel : decode cX6_init 57 = .ok (.newarray .int, 2)) rfl rfl ⟨by decide, by decide⟩ ?_
  show X E d fX6_init 59 [some (.ref a0), some (.ref a1), some (.ref a2)] [.ref (aX (aPut (aNew S_12 100 5 5) a0 10 (some (aX S_12)))), .ref a0] (aNew (aPut (aNew S_12 100 5 5) a0 10 (some (aX S_12))) 100 5 5) (mI (aU (aU M_10 (aX S_12) (fun _ => 0)) (aX (aPut (aNew S_12 100 5 5) a0 10 (some (aX S_12)))) (fun _ => 0))) Q
  rw [eS_14]
  show X E d fX6_init 59 [some (.ref a0), some (.ref a1), some (.ref a2)] [.ref (aX (aPut (aNew S_12 100 5 5) a0 10 (some (aX S_12)))), .ref a0] S_14 (mI (aU (aU M_10 (aX S_12) (fun _ => 0)) (aX (aPut (aNew S_12 100 5 5) a0 10 (some (aX S_12)))) (fun _ => 0))) Q
  rw [eM_15]
  refine X_putR 62 (by decide +kernel : decode cX6_init 59 = .ok (.putfield 33, 3)) rfl rfl (by decide +kernel : aFd 8 33 = some (8, 11, true, true)) (Or.inr ⟨rfl, rfl⟩) g16 rfl ?_
  show X E d fX6_init 62 [some (.ref a0), some (.ref a1), some (.ref a2)] [] (aPut S_14 a0 11 (some (aX (aPut (aNew S_12 100 5 5) a0 10 (some (aX S_12)))))) (mI M_15) Q
  rw [eS_17]
  refine X_aload_n 63 (by decide +kernel : decode cX6_init 62 = .ok (.aload_n 0, 1)) rfl rfl rfl ?_
  refine X_bipush 65 (8) (by decide +kernel : decode cX6_init 63 = .ok (.bipush 8, 2)) rfl rfl (by decide +kernel) ?_
  refine X_newI 67 (by decide +kernel : decode cX6_init 65 = .ok (.newarray .int, 2)) rfl rfl ⟨by decide, by decide⟩ ?_
  refine X_putR 70 (by decide +kernel : decode cX6_init 67 = .ok (.putfield 36, 3)) rfl rfl (by decide +kernel : aFd 8 36 = some (8, 12, true, true)) (Or.inr ⟨rfl, rfl⟩) g18 rfl ?_
  refine X_aload_n 71 (by decide +kernel : decode cX6_init 70 = .ok (.aload_n 0, 1)) rfl rfl rfl ?_
  refine X_bipush 73 (8) (by decide +kernel : decode cX6_init 71 = .ok (.bipush 8, 2)) rfl rfl (by decide +kernel) ?_
  refine X_newI 75 (by decide +kernel : decode cX6_init 73 = .ok (.newarray .int, 2)) rfl rfl ⟨by decide, by decide⟩ ?_
  show X E d fX6_init 75 [some (.ref a0), some (.ref a1), some (.ref a2)] [.ref (aX (aPut (aNew S_17 100 8 8) a0 12 (some (aX S_17)))), .ref a0] (aNew (aPut (aNew S_17 100 8 8) a0 12 (some (aX S_17))) 100 8 8) (mI (aU (aU M_15 (aX S_17) (fun _ => 0)) (aX (aPut (aNew S_17 100 8 8) a0 12 (some (aX S_17)))) (fun _ => 0))) Q
  rw [eS_19]
  show X E d fX6_init 75 [some (.ref a0), some (.ref a1), some (.ref a2)] [.ref (aX (aPut (aNew S_17 100 8 8) a0 12 (some (aX S_17)))), .ref a0] S_19 (mI (aU (aU M_15 (aX S_17) (fun _ => 0)) (aX (aPut (aNew S_17 100 8 8) a0 12 (some (aX S_17)))) (fun _ => 0))) Q
  rw [eM_20]
  refine X_putR 78 (by decide +kernel : decode cX6_init 75 = .ok (.putfield 39, 3)) rfl rfl (by decide +kernel : aFd 8 39 = some (8, 13, true, true)) (Or.inr ⟨rfl, rfl⟩) g21 rfl ?_
  show X E d fX6_init 78 [some (.ref a0), some (.ref a1), some (.ref a2)] [] (aPut S_19 a0 13 (some (aX (aPut (aNew S_17 100 8 8) a0 12 (some (aX S_17)))))) (mI M_20) Q
  rw [eS_22]
  refine X_aload_n 79 (by decide +kernel : decode cX6_init 78 = .ok (.aload_n 0, 1)) rfl rfl rfl ?_
  refine X_bipush 81 (8) (by decide +kernel : decode cX6_init 79 = .ok (.bipush 8, 2)) rfl rfl (by decide +kernel) ?_
  refine X_newI 83 (by decide +kernel : decode cX6_init 81 = .ok (.newarray .int, 2)) rfl rfl ⟨by decide, by decide⟩ ?_
  refine X_putR 86 (by decide +kernel : decode cX6_init 83 = .ok (.putfield 42, 3)) rfl rfl (by decide +kernel : aFd 8 42 = some (8, 14, true, true)) (Or.inr ⟨rfl, rfl⟩) g23 rfl ?_
  refine X_aload_n 87 (by decide +kernel : decode cX6_init 86 = .ok (.aload_n 0, 1)) rfl rfl rfl ?_
  refine X_bipush 89 (8) (by decide +kernel : decode cX6_init 87 = .ok (.bipush 8, 2)) rfl rfl (by decide +kernel) ?_
  refine X_newI 91 (by decide +kernel : decode cX6_init 89 = .ok (.newarray .int, 2)) rfl rfl ⟨by decide, by decide⟩ ?_
  show X E d fX6_init 91 [some (.ref a0), some (.ref a1), some (.ref a2)] [.ref (aX (aPut (aNew S_22 100 8 8) a0 14 (some (aX S_22)))), .ref a0] (aNew (aPut (aNew S_22 100 8 8) a0 14 (some (aX S_22))) 100 8 8) (mI (aU (aU M_20 (aX S_22) (fun _ => 0)) (aX (aPut (aNew S_22 100 8 8) a0 14 (some (aX S_22)))) (fun _ => 0))) Q
  rw [eS_24]
  show X E d fX6_init 91 [some (.ref a0), some (.ref a1), some (.ref a2)] [.ref (aX (aPut (aNew S_22 100 8 8) a0 14 (some (aX S_22)))), .ref a0] S_24 (mI (aU (aU M_20 (aX S_22) (fun _ => 0)) (aX (aPut (aNew S_22 100 8 8) a0 14 (some (aX S_22)))) (fun _ => 0))) Q
  rw [eM_25]
  refine X_putR 94 (by decide +kernel : decode cX6_init 91 = .ok (.putfield 45, 3)) rfl rfl (by decide +kernel : aFd 8 45 = some (8, 15, true, true)) (Or.inr ⟨rfl, rfl⟩) g26 rfl ?_
  show X E d fX6_init 94 [some (.ref a0), some (.ref a1), some (.ref a2)] [] (aPut S_24 a0 15 (some (aX (aPut (aNew S_22 100 8 8) a0 14 (some (aX S_22)))))) (mI M_25) Q
  rw [eS_27]
  refine X_aload_n 95 (by decide +kernel : decode cX6_init 94 = .ok (.aload_n 0, 1)) rfl rfl rfl ?_
  refine X_aload_n 96 (by decide +kernel : decode cX6_init 95 = .ok (.aload_n 2, 1)) rfl rfl rfl ?_
  refine X_putR 99 (by decide +kernel : decode cX6_init 96 = .ok (.putfield 48, 3)) rfl rfl (by decide +kernel : aFd 8 48 = some (8, 0, true, true)) (Or.inr ⟨rfl, rfl⟩) g28 rfl ?_
  refine X_aload_n 100 (by decide +kernel : decode cX6_init 99 = .ok (.aload_n 0, 1)) rfl rfl rfl ?_
  refine X_aload_n 101 (by decide +kernel : decode cX6_init 100 = .ok (.aload_n 1, 1)) rfl rfl rfl ?_
  refine X_putR 104 (by decide +kernel : decode cX6_init 101 = .ok (.putfield 52, 3)) rfl rfl (by decide +kernel : aFd 8 52 = some (8, 1, true, false)) (Or.inl rfl) g28 rfl ?_
  refine X_aload_n 105 (by decide +kernel : decode cX6_init 104 = .ok (.aload_n 0, 1)) rfl rfl rfl ?_
  refine X_sipush 108 (200) (by decide +kernel : decode cX6_init 105 = .ok (.sipush 200, 3)) rfl rfl (by decide +kernel) ?_
  refine X_putI 111 (by decide +kernel : decode cX6_init 108 = .ok (.putfield 56, 3)) rfl rfl (by decide +kernel : aFd 8 56 = some (8, 3, false, false)) (Or.inl rfl) g28 rfl rfl ?_
  refine X_aload_n 112 (by decide +kernel : decode cX6_init 111 = .ok (.aload_n 0, 1)) rfl rfl rfl ?_
  refine X_iconst 113 (by decide +kernel : decode cX6_init 112 = .ok (.iconst (-1), 1)) rfl rfl ?_
  refine X_putI 116 (by decide +kernel : decode cX6_init 113 = .ok (.putfield 60, 3)) rfl rfl (by decide +kernel : aFd 8 60 = some (8, 16, false, false)) (Or.inl rfl) g28 rfl rfl ?_
  exact X_vret (by decide +kernel : decode cX6_init 116 = .ok (.return_, 1)) rfl rfl q
theorem kX6_total_0 {o0 : Option Value} {x1 : Int} (r1 : R32 x1) (kd : x1 ≠ 7 ∧ x1 ≠ 8 ∧ x1 ≠ 9 ∧ x1 ≠ 10 → X E d fX6_total 90 [o0, some (J x1)] [] S (mI M) Q) (k0 : x1 = 7 → X E d fX6_total 32 [o0, some (J x1)] [] S (mI M) Q) (k1 : x1 = 8 → X E d fX6_total 47 [o0, some (J x1)] [] S (mI M) Q) (k2 : x1 = 9 → X E d fX6_total 60 [o0, some (J x1)] [] S (mI M) Q) (k3 : x1 = 10 → X E d fX6_total 75 [o0, some (J x1)] [] S (mI M) Q) : X E d fX6_total 0 [o0, some (J x1)] [] S (mI M) Q := by
  refine X_iload_n 1 (by decide +kernel : decode cX6_total 0 = .ok (.iload_n 1, 1)) rfl rfl rfl ?_
  by_cases hr : x1 < 7 ∨ 10 < x1
  · exact X_tswD 90 (by decide +kernel : decode cX6_total 1 = .ok (.tableswitch 89 7 10 #[31, 46, 59, 74], 31)) rfl (by decide) r1 hr (kd (by omega))
  · rcases (by omega : x1 = 7 ∨ x1 = 8 ∨ x1 = 9 ∨ x1 = 10) with h | h | h | h
    · exact X_tswI 32 0 (by decide +kernel : decode cX6_total 1 = .ok (.tableswitch 89 7 10 #[31, 46, 59, 74], 31)) rfl rfl (by decide) r1 (h.trans rfl) (by decide) (k0 h)
    · exact X_tswI 47 1 (by decide +kernel : decode cX6_total 1 = .ok (.tableswitch 89 7 10 #[31, 46, 59, 74], 31)) rfl rfl (by decide) r1 (h.trans rfl) (by decide) (k1 h)
    · exact X_tswI 60 2 (by decide +kernel : decode cX6_total 1 = .ok (.tableswitch 89 7 10 #[31, 46, 59, 74], 31)) rfl rfl (by decide) r1 (h.trans rfl) (by decide) (k2 h)
    · exact X_tswI 75 3 (by decide +kernel : decode cX6_total 1 = .ok (.tableswitch 89 7 10 #[31, 46, 59, 74], 31)) rfl rfl (by decide) r1 (h.trans rfl) (by decide) (k3 h)
theorem kX6_total_32 {a0 : Nat} {o1 : Option Value} {b2 : Nat} {b5 : Nat} (g1 : aKd S a0 = 8) (p3 : aP S a0 4 = some b2) (p6 : aP S a0 1 = some b5) (g7 : aKd S b5 = 5) (hd1 : 1 ≤ d) (k : X E (d - 1) fX7_sumOf 0 [some (.ref b2), some (J (M b5 1)), none, none] [] S (mI M) (Kr E d fX6_total 46 [some (.ref a0), o1] [] Q)) : X E d fX6_total 32 [some (.ref a0), o1] [] S (mI M) Q := by
  refine X_aload_n 33 (by decide +kernel : decode cX6_total 32 = .ok (.aload_n 0, 1)) rfl rfl rfl ?_
  refine X_getR 36 (by decide +kernel : decode cX6_total 33 = .ok (.getfield 9, 3)) rfl rfl (by decide +kernel : aFd 8 9 = some (8, 4, true, true)) g1 p3 ?_
  refine X_aload_n 37 (by decide +kernel : decode cX6_total 36 = .ok (.aload_n 0, 1)) rfl rfl rfl ?_
  refine X_getR 40 (by decide +kernel : decode cX6_total 37 = .ok (.getfield 52, 3)) rfl rfl (by decide +kernel : aFd 8 52 = some (8, 1, true, false)) g1 p6 ?_
  refine X_getI 43 (by decide +kernel : decode cX6_total 40 = .ok (.getfield 83, 3)) rfl rfl (by decide +kernel : aFd 8 83 = some (5, 1, false, false)) g7 ?_
  exact X_cs (as := [J (M b5 1), .ref b2]) (rest := []) (by decide +kernel : decode cX6_total 43 = .ok (.invokestatic 86, 3)) rfl rfl rfl rfl rfl rfl rfl (Nat.le_of_ble_eq_true rfl) hd1 k
theorem kX6_total_46 {o0 : Option Value} {o1 : Option Value} {t0 : Int} (q : Q (some (some (J t0))) S (mI M)) : X E d fX6_total 46 [o0, o1] [J t0] S (mI M) Q := by
  exact X_iret (by decide +kernel : decode cX6_total 46 = .ok (.ireturn, 1)) rfl rfl rfl q
theorem kX6_total_47 {a0 : Nat} {o1 : Option Value} {b2 : Nat} (g1 : aKd S a0 = 8) (p3 : aP S a0 1 = some b2) (g4 : aKd S b2 = 5) (hd1 : 1 ≤ d) (k : X E (d - 1) fX6_brokenMilesIn 0 [some (.ref a0), some (J 0), some (J (M b2 1)), none, none] [] S (mI M) (Kr E d fX6_total 59 [some (.ref a0), o1] [] Q)) : X E d fX6_total 47 [some (.ref a0), o1] [] S (mI M) Q := by
  refine X_aload_n 48 (by decide +kernel : decode cX6_total 47 = .ok (.aload_n 0, 1)) rfl rfl rfl ?_
  refine X_iconst 49 (by decide +kernel : decode cX6_total 48 = .ok (.iconst 0, 1)) rfl rfl ?_
  refine X_aload_n 50 (by decide +kernel : decode cX6_total 49 = .ok (.aload_n 0, 1)) rfl rfl rfl ?_
  refine X_getR 53 (by decide +kernel : decode cX6_total 50 = .ok (.getfield 52, 3)) rfl rfl (by decide +kernel : aFd 8 52 = some (8, 1, true, false)) g1 p3 ?_
  refine X_getI 56 (by decide +kernel : decode cX6_total 53 = .ok (.getfield 83, 3)) rfl rfl (by decide +kernel : aFd 8 83 = some (5, 1, false, false)) g4 ?_
  exact X_cv (as := [J (M b2 1), J 0]) (rest := []) (by decide +kernel : decode cX6_total 56 = .ok (.invokevirtual 90, 3)) (Or.inl ⟨rfl, rfl, rfl⟩) rfl rfl rfl rfl rfl (Nat.le_of_ble_eq_true rfl) (Or.inr (Or.inr (by rw [g1]; rfl))) hd1 k
theorem kX6_total_59 {o0 : Option Value} {o1 : Option Value} {t0 : Int} (q : Q (some (some (J t0))) S (mI M)) : X E d fX6_total 59 [o0, o1] [J t0] S (mI M) Q := by
  exact X_iret (by decide +kernel : decode cX6_total 59 = .ok (.ireturn, 1)) rfl rfl rfl q
theorem kX6_total_60 {a0 : Nat} {o1 : Option Value} {b2 : Nat} {b5 : Nat} (g1 : aKd S a0 = 8) (p3 : aP S a0 8 = some b2) (p6 : aP S a0 1 = some b5) (g7 : aKd S b5 = 5) (hd1 : 1 ≤ d) (k : X E (d - 1) fX7_sumOf 0 [some (.ref b2), some (J (M b5 2)), none, none] [] S (mI M) (Kr E d fX6_total 74 [some (.ref a0), o1] [] Q)) : X E d fX6_total 60 [some (.ref a0), o1] [] S (mI M) Q := by
  refine X_aload_n 61 (by decide +kernel : decode cX6_total 60 = .ok (.aload_n 0, 1)) rfl rfl rfl ?_
  refine X_getR 64 (by decide +kernel : decode cX6_total 61 = .ok (.getfield 24, 3)) rfl rfl (by decide +kernel : aFd 8 24 = some (8, 8, true, true)) g1 p3 ?_
  refine X_aload_n 65 (by decide +kernel : decode cX6_total 64 = .ok (.aload_n 0, 1)) rfl rfl rfl ?_
  refine X_getR 68 (by decide +kernel : decode cX6_total 65 = .ok (.getfield 52, 3)) rfl rfl (by decide +kernel : aFd 8 52 = some (8, 1, true, false)) g1 p6 ?_
  refine X_getI 71 (by decide +kernel : decode cX6_total 68 = .ok (.getfield 94, 3)) rfl rfl (by decide +kernel : aFd 8 94 = some (5, 2, false, false)) g7 ?_
  exact X_cs (as := [J (M b5 2), .ref b2]) (rest := []) (by decide +kernel : decode cX6_total 71 = .ok (.invokestatic 86, 3)) rfl rfl rfl rfl rfl rfl rfl (Nat.le_of_ble_eq_true rfl) hd1 k
theorem kX6_total_74 {o0 : Option Value} {o1 : Option Value} {t0 : Int} (q : Q (some (some (J t0))) S (mI M)) : X E d fX6_total 74 [o0, o1] [J t0] S (mI M) Q := by
  exact X_iret (by decide +kernel : decode cX6_total 74 = .ok (.ireturn, 1)) rfl rfl rfl q
theorem kX6_total_75 {a0 : Nat} {o1 : Option Value} {b2 : Nat} {b5 : Nat} (g1 : aKd S a0 = 8) (p3 : aP S a0 9 = some b2) (p6 : aP S a0 1 = some b5) (g7 : aKd S b5 = 5) (hd1 : 1 ≤ d) (k : X E (d - 1) fX7_sumOf 0 [some (.ref b2), some (J (M b5 2)), none, none] [] S (mI M) (Kr E d fX6_total 89 [some (.ref a0), o1] [] Q)) : X E d fX6_total 75 [some (.ref a0), o1] [] S (mI M) Q := by
  refine X_aload_n 76 (by decide +kernel : decode cX6_total 75 = .ok (.aload_n 0, 1)) rfl rfl rfl ?_
  refine X_getR 79 (by decide +kernel : decode cX6_total 76 = .ok (.getfield 27, 3)) rfl rfl (by decide +kernel : aFd 8 27 = some (8, 9, true, true)) g1 p3 ?_
  refine X_aload_n 80 (by decide +kernel : decode cX6_total 79 = .ok (.aload_n 0, 1)) rfl rfl rfl ?_
  refine X_getR 83 (by decide +kernel : decode cX6_total 80 = .ok (.getfield 52, 3)) rfl rfl (by decide +kernel : aFd 8 52 = some (8, 1, true, false)) g1 p6 ?_
  refine X_getI 86 (by decide +kernel : decode cX6_total 83 = .ok (.getfield 94, 3)) rfl rfl (by decide +kernel : aFd 8 94 = some (5, 2, false, false)) g7 ?_
  exact X_cs (as := [J (M b5 2), .ref b2]) (rest := []) (by decide +kernel : decode cX6_total 86 = .ok (.invokestatic 86, 3)) rfl rfl rfl rfl rfl rfl rfl (Nat.le_of_ble_eq_true rfl) hd1 k
theorem kX6_total_89 {o0 : Option Value} {o1 : Option Value} {t0 : Int} (q : Q (some (some (J t0))) S (mI M)) : X E d fX6_total 89 [o0, o1] [J t0] S (mI M) Q := by
  exact X_iret (by decide +kernel : decode cX6_total 89 = .ok (.ireturn, 1)) rfl rfl rfl q
theorem kX6_total_90 {a0 : Nat} {o1 : Option Value} {b2 : Nat} {b5 : Nat} (g1 : aKd S a0 = 8) (p3 : aP S a0 6 = some b2) (p6 : aP S a0 1 = some b5) (g7 : aKd S b5 = 5) (hd1 : 1 ≤ d) (k : X E (d - 1) fX7_sumOf 0 [some (.ref b2), some (J (M b5 0)), none, none] [] S (mI M) (Kr E d fX6_total 104 [some (.ref a0), o1] [] Q)) : X E d fX6_total 90 [some (.ref a0), o1] [] S (mI M) Q := by
  refine X_aload_n 91 (by decide +kernel : decode cX6_total 90 = .ok (.aload_n 0, 1)) rfl rfl rfl ?_
  refine X_getR 94 (by decide +kernel : decode cX6_total 91 = .ok (.getfield 18, 3)) rfl rfl (by decide +kernel : aFd 8 18 = some (8, 6, true, true)) g1 p3 ?_
  refine X_aload_n 95 (by decide +kernel : decode cX6_total 94 = .ok (.aload_n 0, 1)) rfl rfl rfl ?_
  refine X_getR 98 (by decide +kernel : decode cX6_total 95 = .ok (.getfield 52, 3)) rfl rfl (by decide +kernel : aFd 8 52 = some (8, 1, true, false)) g1 p6 ?_
  refine X_getI 101 (by decide +kernel : decode cX6_total 98 = .ok (.getfield 97, 3)) rfl rfl (by decide +kernel : aFd 8 97 = some (5, 0, false, false)) g7 ?_
  exact X_cs (as := [J (M b5 0), .ref b2]) (rest := []) (by decide +kernel : decode cX6_total 101 = .ok (.invokestatic 86, 3)) rfl rfl rfl rfl rfl rfl rfl (Nat.le_of_ble_eq_true rfl) hd1 k
theorem kX6_total_104 {o0 : Option Value} {o1 : Option Value} {t0 : Int} (q : Q (some (some (J t0))) S (mI M)) : X E d fX6_total 104 [o0, o1] [J t0] S (mI M) Q := by
  exact X_iret (by decide +kernel : decode cX6_total 104 = .ok (.ireturn, 1)) rfl rfl rfl q
theorem kX6_brokenMilesIn_0 {o0 : Option Value} {o1 : Option Value} {o2 : Option Value} {o3 : Option Value} {o4 : Option Value} (k : X E d fX6_brokenMilesIn 5 [o0, o1, o2, some (J 0), some (J 0)] [] S (mI M) Q) : X E d fX6_brokenMilesIn 0 [o0, o1, o2, o3, o4] [] S (mI M) Q := by
  refine X_iconst 1 (by decide +kernel : decode cX6_brokenMilesIn 0 = .ok (.iconst 0, 1)) rfl rfl ?_
  refine X_istore_n 2 (by decide +kernel : decode cX6_brokenMilesIn 1 = .ok (.istore_n 3, 1)) rfl rfl (Nat.le_of_ble_eq_true rfl) rfl ?_
  refine X_iconst 3 (by decide +kernel : decode cX6_brokenMilesIn 2 = .ok (.iconst 0, 1)) rfl rfl ?_
  refine X_istore 5 (by decide +kernel : decode cX6_brokenMilesIn 3 = .ok (.istore 4, 2)) rfl rfl (Nat.le_of_ble_eq_true rfl) rfl ?_
  exact k
theorem kX6_brokenMilesIn_5 {o0 : Option Value} {o1 : Option Value} {x2 : Int} {o3 : Option Value} {x4 : Int} (r1 : R32 x4) (r2 : R32 x2) (k1 : x2 ≤ x4 → X E d fX6_brokenMilesIn 41 [o0, o1, some (J x2), o3, some (J x4)] [] S (mI M) Q) (k2 : x4 < x2 → X E d fX6_brokenMilesIn 11 [o0, o1, some (J x2), o3, some (J x4)] [] S (mI M) Q) : X E d fX6_brokenMilesIn 5 [o0, o1, some (J x2), o3, some (J x4)] [] S (mI M) Q := by
  refine X_iload 7 (by decide +kernel : decode cX6_brokenMilesIn 5 = .ok (.iload 4, 2)) rfl rfl rfl ?_
  refine X_iload_n 8 (by decide +kernel : decode cX6_brokenMilesIn 7 = .ok (.iload_n 2, 1)) rfl rfl rfl ?_
  exact X_icmpge 41 11 (by decide +kernel : decode cX6_brokenMilesIn 8 = .ok (.if_icmp .ge 33, 3)) rfl rfl (by decide) r1 r2 k1 k2
theorem kX6_brokenMilesIn_11 {o0 : Option Value} {x1 : Int} {o2 : Option Value} {o3 : Option Value} {x4 : Int} (r1 : R32 (x1 + x4)) (k1 : 45 ≤ (x1 + x4) → X E d fX6_brokenMilesIn 41 [o0, some (J x1), o2, o3, some (J x4)] [] S (mI M) Q) (k2 : (x1 + x4) < 45 → X E d fX6_brokenMilesIn 20 [o0, some (J x1), o2, o3, some (J x4)] [] S (mI M) Q) : X E d fX6_brokenMilesIn 11 [o0, some (J x1), o2, o3, some (J x4)] [] S (mI M) Q := by
  refine X_iload_n 12 (by decide +kernel : decode cX6_brokenMilesIn 11 = .ok (.iload_n 1, 1)) rfl rfl rfl ?_
  refine X_iload 14 (by decide +kernel : decode cX6_brokenMilesIn 12 = .ok (.iload 4, 2)) rfl rfl rfl ?_
  refine X_iadd 15 (by decide +kernel : decode cX6_brokenMilesIn 14 = .ok (.iadd, 1)) rfl rfl ?_
  refine X_bipush 17 (45) (by decide +kernel : decode cX6_brokenMilesIn 15 = .ok (.bipush 45, 2)) rfl rfl (by decide +kernel) ?_
  exact X_icmpge 41 20 (by decide +kernel : decode cX6_brokenMilesIn 17 = .ok (.if_icmp .ge 24, 3)) rfl rfl (by decide) r1 ⟨by decide, by decide⟩ k1 k2
theorem kX6_brokenMilesIn_20 {a0 : Nat} {x1 : Int} {o2 : Option Value} {o3 : Option Value} {x4 : Int} {b2 : Nat} (g1 : aKd S a0 = 8) (p3 : aP S a0 4 = some b2) (g4 : aKd S b2 = 100) (r5 : R32 (x1 + x4)) (h6 : (0 : Int) ≤ x1 + x4 ∧ (x1 + x4) < (aN S b2 : Int)) (r7 : R32 (M b2 (x1 + x4).toNat)) (k1 : (M b2 (x1 + x4).toNat) ≠ 0 → X E d fX6_brokenMilesIn 35 [some (.ref a0), some (J x1), o2, o3, some (J x4)] [] S (mI M) Q) (k2 : (M b2 (x1 + x4).toNat) = 0 → X E d fX6_brokenMilesIn 32 [some (.ref a0), some (J x1), o2, o3, some (J x4)] [] S (mI M) Q) : X E d fX6_brokenMilesIn 20 [some (.ref a0), some (J x1), o2, o3, some (J x4)] [] S (mI M) Q := by
  refine X_aload_n 21 (by decide +kernel : decode cX6_brokenMilesIn 20 = .ok (.aload_n 0, 1)) rfl rfl rfl ?_
  refine X_getR 24 (by decide +kernel : decode cX6_brokenMilesIn 21 = .ok (.getfield 9, 3)) rfl rfl (by decide +kernel : aFd 8 9 = some (8, 4, true, true)) g1 p3 ?_
  refine X_iload_n 25 (by decide +kernel : decode cX6_brokenMilesIn 24 = .ok (.iload_n 1, 1)) rfl rfl rfl ?_
  refine X_iload 27 (by decide +kernel : decode cX6_brokenMilesIn 25 = .ok (.iload 4, 2)) rfl rfl rfl ?_
  refine X_iadd 28 (by decide +kernel : decode cX6_brokenMilesIn 27 = .ok (.iadd, 1)) rfl rfl ?_
  refine X_iald 29 (by decide +kernel : decode cX6_brokenMilesIn 28 = .ok (.iaload, 1)) rfl rfl g4 r5 h6 ?_
  exact X_ifne 35 32 (by decide +kernel : decode cX6_brokenMilesIn 29 = .ok (.ifCond .ne 6, 3)) rfl rfl (by decide) r7 k1 k2
theorem kX6_brokenMilesIn_32 {o0 : Option Value} {o1 : Option Value} {o2 : Option Value} {x3 : Int} {o4 : Option Value} (k : X E d fX6_brokenMilesIn 35 [o0, o1, o2, some (J (x3 + 1)), o4] [] S (mI M) Q) : X E d fX6_brokenMilesIn 32 [o0, o1, o2, some (J x3), o4] [] S (mI M) Q := by
  refine X_iinc 35 (by decide +kernel : decode cX6_brokenMilesIn 32 = .ok (.iinc 3 1, 3)) rfl rfl rfl rfl ?_
  exact k
theorem kX6_brokenMilesIn_35 {o0 : Option Value} {o1 : Option Value} {o2 : Option Value} {o3 : Option Value} {x4 : Int} (k : X E d fX6_brokenMilesIn 5 [o0, o1, o2, o3, some (J (x4 + 1))] [] S (mI M) Q) : X E d fX6_brokenMilesIn 35 [o0, o1, o2, o3, some (J x4)] [] S (mI M) Q := by
  refine X_iinc 38 (by decide +kernel : decode cX6_brokenMilesIn 35 = .ok (.iinc 4 1, 3)) rfl rfl rfl rfl ?_
  exact X_goto 5 (by decide +kernel : decode cX6_brokenMilesIn 38 = .ok (.goto (-33), 3)) rfl (by decide) k
theorem kX6_brokenMilesIn_41 {o0 : Option Value} {o1 : Option Value} {o2 : Option Value} {x3 : Int} {o4 : Option Value} (q : Q (some (some (J x3))) S (mI M)) : X E d fX6_brokenMilesIn 41 [o0, o1, o2, some (J x3), o4] [] S (mI M) Q := by
  refine X_iload_n 42 (by decide +kernel : decode cX6_brokenMilesIn 41 = .ok (.iload_n 3, 1)) rfl rfl rfl ?_
  exact X_iret (by decide +kernel : decode cX6_brokenMilesIn 42 = .ok (.ireturn, 1)) rfl rfl rfl q
theorem kX6_leastCondition_0 {a0 : Nat} {x1 : Int} {o2 : Option Value} {o3 : Option Value} {o4 : Option Value} {o5 : Option Value} {b2 : Nat} {b5 : Nat} (g1 : aKd S a0 = 8) (p3 : aP S a0 1 = some b2) (g4 : aKd S b2 = 5) (p6 : aP S b2 5 = some b5) (hd1 : 1 ≤ d) (k : X E (d - 1) fX7_valueAt 0 [some (.ref b5), some (J x1)] [] S (mI M) (Kr E d fX6_leastCondition 11 [some (.ref a0), some (J x1), o2, o3, o4, o5] [] Q)) : X E d fX6_leastCondition 0 [some (.ref a0), some (J x1), o2, o3, o4, o5] [] S (mI M) Q := by
  refine X_aload_n 1 (by decide +kernel : decode cX6_leastCondition 0 = .ok (.aload_n 0, 1)) rfl rfl rfl ?_
  refine X_getR 4 (by decide +kernel : decode cX6_leastCondition 1 = .ok (.getfield 52, 3)) rfl rfl (by decide +kernel : aFd 8 52 = some (8, 1, true, false)) g1 p3 ?_
  refine X_getR 7 (by decide +kernel : decode cX6_leastCondition 4 = .ok (.getfield 100, 3)) rfl rfl (by decide +kernel : aFd 8 100 = some (5, 5, true, true)) g4 p6 ?_
  refine X_iload_n 8 (by decide +kernel : decode cX6_leastCondition 7 = .ok (.iload_n 1, 1)) rfl rfl rfl ?_
  exact X_cs (as := [J x1, .ref b5]) (rest := []) (by decide +kernel : decode cX6_leastCondition 8 = .ok (.invokestatic 103, 3)) rfl rfl rfl rfl rfl rfl rfl (Nat.le_of_ble_eq_true rfl) hd1 k
theorem kX6_leastCondition_11 {a0 : Nat} {x1 : Int} {o2 : Option Value} {o3 : Option Value} {o4 : Option Value} {o5 : Option Value} {t0 : Int} {b2 : Nat} {b5 : Nat} (g1 : aKd S a0 = 8) (p3 : aP S a0 1 = some b2) (g4 : aKd S b2 = 5) (p6 : aP S b2 4 = some b5) (hd1 : 1 ≤ d) (k : X E (d - 1) fX7_valueAt 0 [some (.ref b5), some (J x1)] [] S (mI M) (Kr E d fX6_leastCondition 24 [some (.ref a0), some (J x1), some (J t0), o3, o4, o5] [J t0] Q)) : X E d fX6_leastCondition 11 [some (.ref a0), some (J x1), o2, o3, o4, o5] [J t0] S (mI M) Q := by
  refine X_istore_n 12 (by decide +kernel : decode cX6_leastCondition 11 = .ok (.istore_n 2, 1)) rfl rfl (Nat.le_of_ble_eq_true rfl) rfl ?_
  refine X_iload_n 13 (by decide +kernel : decode cX6_leastCondition 12 = .ok (.iload_n 2, 1)) rfl rfl rfl ?_
  refine X_aload_n 14 (by decide +kernel : decode cX6_leastCondition 13 = .ok (.aload_n 0, 1)) rfl rfl rfl ?_
  refine X_getR 17 (by decide +kernel : decode cX6_leastCondition 14 = .ok (.getfield 52, 3)) rfl rfl (by decide +kernel : aFd 8 52 = some (8, 1, true, false)) g1 p3 ?_
  refine X_getR 20 (by decide +kernel : decode cX6_leastCondition 17 = .ok (.getfield 106, 3)) rfl rfl (by decide +kernel : aFd 8 106 = some (5, 4, true, true)) g4 p6 ?_
  refine X_iload_n 21 (by decide +kernel : decode cX6_leastCondition 20 = .ok (.iload_n 1, 1)) rfl rfl rfl ?_
  exact X_cs (as := [J x1, .ref b5]) (rest := [J t0]) (by decide +kernel : decode cX6_leastCondition 21 = .ok (.invokestatic 103, 3)) rfl rfl rfl rfl rfl rfl rfl (Nat.le_of_ble_eq_true rfl) hd1 k
theorem kX6_leastCondition_24 {o0 : Option Value} {o1 : Option Value} {x2 : Int} {o3 : Option Value} {o4 : Option Value} {o5 : Option Value} {t0 : Int} {t1 : Int} (k : X E d fX6_leastCondition 33 [o0, o1, some (J x2), some (J (t1 + t0)), some (J 100), some (J x2)] [] S (mI M) Q) : X E d fX6_leastCondition 24 [o0, o1, some (J x2), o3, o4, o5] [J t0, J t1] S (mI M) Q := by
  refine X_iadd 25 (by decide +kernel : decode cX6_leastCondition 24 = .ok (.iadd, 1)) rfl rfl ?_
  refine X_istore_n 26 (by decide +kernel : decode cX6_leastCondition 25 = .ok (.istore_n 3, 1)) rfl rfl (Nat.le_of_ble_eq_true rfl) rfl ?_
  refine X_bipush 28 (100) (by decide +kernel : decode cX6_leastCondition 26 = .ok (.bipush 100, 2)) rfl rfl (by decide +kernel) ?_
  refine X_istore 30 (by decide +kernel : decode cX6_leastCondition 28 = .ok (.istore 4, 2)) rfl rfl (Nat.le_of_ble_eq_true rfl) rfl ?_
  refine X_iload_n 31 (by decide +kernel : decode cX6_leastCondition 30 = .ok (.iload_n 2, 1)) rfl rfl rfl ?_
  refine X_istore 33 (by decide +kernel : decode cX6_leastCondition 31 = .ok (.istore 5, 2)) rfl rfl (Nat.le_of_ble_eq_true rfl) rfl ?_
  exact k
theorem kX6_leastCondition_33 {o0 : Option Value} {o1 : Option Value} {o2 : Option Value} {x3 : Int} {o4 : Option Value} {x5 : Int} (r1 : R32 x5) (r2 : R32 x3) (k1 : x3 ≤ x5 → X E d fX6_leastCondition 73 [o0, o1, o2, some (J x3), o4, some (J x5)] [] S (mI M) Q) (k2 : x5 < x3 → X E d fX6_leastCondition 39 [o0, o1, o2, some (J x3), o4, some (J x5)] [] S (mI M) Q) : X E d fX6_leastCondition 33 [o0, o1, o2, some (J x3), o4, some (J x5)] [] S (mI M) Q := by
  refine X_iload 35 (by decide +kernel : decode cX6_leastCondition 33 = .ok (.iload 5, 2)) rfl rfl rfl ?_
  refine X_iload_n 36 (by decide +kernel : decode cX6_leastCondition 35 = .ok (.iload_n 3, 1)) rfl rfl rfl ?_
  exact X_icmpge 73 39 (by decide +kernel : decode cX6_leastCondition 36 = .ok (.if_icmp .ge 37, 3)) rfl rfl (by decide) r1 r2 k1 k2
theorem kX6_leastCondition_39 {o0 : Option Value} {o1 : Option Value} {o2 : Option Value} {o3 : Option Value} {o4 : Option Value} {x5 : Int} (r1 : R32 x5) (k1 : 45 ≤ x5 → X E d fX6_leastCondition 73 [o0, o1, o2, o3, o4, some (J x5)] [] S (mI M) Q) (k2 : x5 < 45 → X E d fX6_leastCondition 46 [o0, o1, o2, o3, o4, some (J x5)] [] S (mI M) Q) : X E d fX6_leastCondition 39 [o0, o1, o2, o3, o4, some (J x5)] [] S (mI M) Q := by
  refine X_iload 41 (by decide +kernel : decode cX6_leastCondition 39 = .ok (.iload 5, 2)) rfl rfl rfl ?_
  refine X_bipush 43 (45) (by decide +kernel : decode cX6_leastCondition 41 = .ok (.bipush 45, 2)) rfl rfl (by decide +kernel) ?_
  exact X_icmpge 73 46 (by decide +kernel : decode cX6_leastCondition 43 = .ok (.if_icmp .ge 30, 3)) rfl rfl (by decide) r1 ⟨by decide, by decide⟩ k1 k2
theorem kX6_leastCondition_46 {a0 : Nat} {o1 : Option Value} {o2 : Option Value} {o3 : Option Value} {x4 : Int} {x5 : Int} {b2 : Nat} (g1 : aKd S a0 = 8) (p3 : aP S a0 4 = some b2) (g4 : aKd S b2 = 100) (r5 : R32 x5) (h6 : (0 : Int) ≤ x5 ∧ x5 < (aN S b2 : Int)) (r7 : R32 (M b2 x5.toNat)) (r8 : R32 x4) (k1 : x4 ≤ (M b2 x5.toNat) → X E d fX6_leastCondition 67 [some (.ref a0), o1, o2, o3, some (J x4), some (J x5)] [] S (mI M) Q) (k2 : (M b2 x5.toNat) < x4 → X E d fX6_leastCondition 58 [some (.ref a0), o1, o2, o3, some (J x4), some (J x5)] [] S (mI M) Q) : X E d fX6_leastCondition 46 [some (.ref a0), o1, o2, o3, some (J x4), some (J x5)] [] S (mI M) Q := by
  refine X_aload_n 47 (by decide +kernel : decode cX6_leastCondition 46 = .ok (.aload_n 0, 1)) rfl rfl rfl ?_
  refine X_getR 50 (by decide +kernel : decode cX6_leastCondition 47 = .ok (.getfield 9, 3)) rfl rfl (by decide +kernel : aFd 8 9 = some (8, 4, true, true)) g1 p3 ?_
  refine X_iload 52 (by decide +kernel : decode cX6_leastCondition 50 = .ok (.iload 5, 2)) rfl rfl rfl ?_
  refine X_iald 53 (by decide +kernel : decode cX6_leastCondition 52 = .ok (.iaload, 1)) rfl rfl g4 r5 h6 ?_
  refine X_iload 55 (by decide +kernel : decode cX6_leastCondition 53 = .ok (.iload 4, 2)) rfl rfl rfl ?_
  exact X_icmpge 67 58 (by decide +kernel : decode cX6_leastCondition 55 = .ok (.if_icmp .ge 12, 3)) rfl rfl (by decide) r7 r8 k1 k2
theorem kX6_leastCondition_58 {a0 : Nat} {o1 : Option Value} {o2 : Option Value} {o3 : Option Value} {o4 : Option Value} {x5 : Int} {b2 : Nat} (g1 : aKd S a0 = 8) (p3 : aP S a0 4 = some b2) (g4 : aKd S b2 = 100) (r5 : R32 x5) (h6 : (0 : Int) ≤ x5 ∧ x5 < (aN S b2 : Int)) (k : X E d fX6_leastCondition 67 [some (.ref a0), o1, o2, o3, some (J (M b2 x5.toNat)), some (J x5)] [] S (mI M) Q) : X E d fX6_leastCondition 58 [some (.ref a0), o1, o2, o3, o4, some (J x5)] [] S (mI M) Q := by
  refine X_aload_n 59 (by decide +kernel : decode cX6_leastCondition 58 = .ok (.aload_n 0, 1)) rfl rfl rfl ?_
  refine X_getR 62 (by decide +kernel : decode cX6_leastCondition 59 = .ok (.getfield 9, 3)) rfl rfl (by decide +kernel : aFd 8 9 = some (8, 4, true, true)) g1 p3 ?_
  refine X_iload 64 (by decide +kernel : decode cX6_leastCondition 62 = .ok (.iload 5, 2)) rfl rfl rfl ?_
  refine X_iald 65 (by decide +kernel : decode cX6_leastCondition 64 = .ok (.iaload, 1)) rfl rfl g4 r5 h6 ?_
  refine X_istore 67 (by decide +kernel : decode cX6_leastCondition 65 = .ok (.istore 4, 2)) rfl rfl (Nat.le_of_ble_eq_true rfl) rfl ?_
  exact k
theorem kX6_leastCondition_67 {o0 : Option Value} {o1 : Option Value} {o2 : Option Value} {o3 : Option Value} {o4 : Option Value} {x5 : Int} (k : X E d fX6_leastCondition 33 [o0, o1, o2, o3, o4, some (J (x5 + 1))] [] S (mI M) Q) : X E d fX6_leastCondition 67 [o0, o1, o2, o3, o4, some (J x5)] [] S (mI M) Q := by
  refine X_iinc 70 (by decide +kernel : decode cX6_leastCondition 67 = .ok (.iinc 5 1, 3)) rfl rfl rfl rfl ?_
  exact X_goto 33 (by decide +kernel : decode cX6_leastCondition 70 = .ok (.goto (-37), 3)) rfl (by decide) k
theorem kX6_leastCondition_73 {o0 : Option Value} {o1 : Option Value} {o2 : Option Value} {o3 : Option Value} {x4 : Int} {o5 : Option Value} (q : Q (some (some (J x4))) S (mI M)) : X E d fX6_leastCondition 73 [o0, o1, o2, o3, some (J x4), o5] [] S (mI M) Q := by
  refine X_iload 75 (by decide +kernel : decode cX6_leastCondition 73 = .ok (.iload 4, 2)) rfl rfl rfl ?_
  exact X_iret (by decide +kernel : decode cX6_leastCondition 75 = .ok (.ireturn, 1)) rfl rfl rfl q
theorem kX6_brokenMilesOf_0 {a0 : Nat} {x1 : Int} {b2 : Nat} {b5 : Nat} (g1 : aKd S a0 = 8) (p3 : aP S a0 1 = some b2) (g4 : aKd S b2 = 5) (p6 : aP S b2 5 = some b5) (hd1 : 1 ≤ d) (k : X E (d - 1) fX7_valueAt 0 [some (.ref b5), some (J x1)] [] S (mI M) (Kr E d fX6_brokenMilesOf 12 [some (.ref a0), some (J x1)] [.ref a0] Q)) : X E d fX6_brokenMilesOf 0 [some (.ref a0), some (J x1)] [] S (mI M) Q := by
  refine X_aload_n 1 (by decide +kernel : decode cX6_brokenMilesOf 0 = .ok (.aload_n 0, 1)) rfl rfl rfl ?_
  refine X_aload_n 2 (by decide +kernel : decode cX6_brokenMilesOf 1 = .ok (.aload_n 0, 1)) rfl rfl rfl ?_
  refine X_getR 5 (by decide +kernel : decode cX6_brokenMilesOf 2 = .ok (.getfield 52, 3)) rfl rfl (by decide +kernel : aFd 8 52 = some (8, 1, true, false)) g1 p3 ?_
  refine X_getR 8 (by decide +kernel : decode cX6_brokenMilesOf 5 = .ok (.getfield 100, 3)) rfl rfl (by decide +kernel : aFd 8 100 = some (5, 5, true, true)) g4 p6 ?_
  refine X_iload_n 9 (by decide +kernel : decode cX6_brokenMilesOf 8 = .ok (.iload_n 1, 1)) rfl rfl rfl ?_
  exact X_cs (as := [J x1, .ref b5]) (rest := [.ref a0]) (by decide +kernel : decode cX6_brokenMilesOf 9 = .ok (.invokestatic 103, 3)) rfl rfl rfl rfl rfl rfl rfl (Nat.le_of_ble_eq_true rfl) hd1 k
theorem kX6_brokenMilesOf_12 {a0 : Nat} {x1 : Int} {t0 : Int} {u1 : Nat} {b2 : Nat} {b5 : Nat} (g1 : aKd S a0 = 8) (p3 : aP S a0 1 = some b2) (g4 : aKd S b2 = 5) (p6 : aP S b2 4 = some b5) (hd1 : 1 ≤ d) (k : X E (d - 1) fX7_valueAt 0 [some (.ref b5), some (J x1)] [] S (mI M) (Kr E d fX6_brokenMilesOf 23 [some (.ref a0), some (J x1)] [J t0, .ref u1] Q)) : X E d fX6_brokenMilesOf 12 [some (.ref a0), some (J x1)] [J t0, .ref u1] S (mI M) Q := by
  refine X_aload_n 13 (by decide +kernel : decode cX6_brokenMilesOf 12 = .ok (.aload_n 0, 1)) rfl rfl rfl ?_
  refine X_getR 16 (by decide +kernel : decode cX6_brokenMilesOf 13 = .ok (.getfield 52, 3)) rfl rfl (by decide +kernel : aFd 8 52 = some (8, 1, true, false)) g1 p3 ?_
  refine X_getR 19 (by decide +kernel : decode cX6_brokenMilesOf 16 = .ok (.getfield 106, 3)) rfl rfl (by decide +kernel : aFd 8 106 = some (5, 4, true, true)) g4 p6 ?_
  refine X_iload_n 20 (by decide +kernel : decode cX6_brokenMilesOf 19 = .ok (.iload_n 1, 1)) rfl rfl rfl ?_
  exact X_cs (as := [J x1, .ref b5]) (rest := [J t0, .ref u1]) (by decide +kernel : decode cX6_brokenMilesOf 20 = .ok (.invokestatic 103, 3)) rfl rfl rfl rfl rfl rfl rfl (Nat.le_of_ble_eq_true rfl) hd1 k
theorem kX6_brokenMilesOf_23 {o0 : Option Value} {o1 : Option Value} {t0 : Int} {t1 : Int} {u2 : Nat} (hd1 : 1 ≤ d) (k : X E (d - 1) fX6_brokenMilesIn 0 [some (.ref u2), some (J t1), some (J t0), none, none] [] S (mI M) (Kr E d fX6_brokenMilesOf 26 [o0, o1] [] Q)) (g1 : aKd S u2 = 8) : X E d fX6_brokenMilesOf 23 [o0, o1] [J t0, J t1, .ref u2] S (mI M) Q := by
  exact X_cv (as := [J t0, J t1]) (rest := []) (by decide +kernel : decode cX6_brokenMilesOf 23 = .ok (.invokevirtual 90, 3)) (Or.inl ⟨rfl, rfl, rfl⟩) rfl rfl rfl rfl rfl (Nat.le_of_ble_eq_true rfl) (Or.inr (Or.inr (by rw [g1]; rfl))) hd1 k
theorem kX6_brokenMilesOf_26 {o0 : Option Value} {o1 : Option Value} {t0 : Int} (q : Q (some (some (J t0))) S (mI M)) : X E d fX6_brokenMilesOf 26 [o0, o1] [J t0] S (mI M) Q := by
  exact X_iret (by decide +kernel : decode cX6_brokenMilesOf 26 = .ok (.ireturn, 1)) rfl rfl rfl q
theorem kX6_tollOf_0 {a0 : Nat} {x1 : Int} {o2 : Option Value} {b2 : Nat} (g1 : aKd S a0 = 8) (p3 : aP S a0 12 = some b2) (g4 : aKd S b2 = 100) (r5 : R32 x1) (h6 : (0 : Int) ≤ x1 ∧ x1 < (aN S b2 : Int)) (r7 : R32 (M b2 x1.toNat)) (k1 : 6 ≤ (M b2 x1.toNat) → X E d fX6_tollOf 20 [some (.ref a0), some (J x1), o2] [] S (mI M) Q) (k2 : (M b2 x1.toNat) < 6 → X E d fX6_tollOf 11 [some (.ref a0), some (J x1), o2] [] S (mI M) Q) : X E d fX6_tollOf 0 [some (.ref a0), some (J x1), o2] [] S (mI M) Q := by
  refine X_aload_n 1 (by decide +kernel : decode cX6_tollOf 0 = .ok (.aload_n 0, 1)) rfl rfl rfl ?_
  refine X_getR 4 (by decide +kernel : decode cX6_tollOf 1 = .ok (.getfield 36, 3)) rfl rfl (by decide +kernel : aFd 8 36 = some (8, 12, true, true)) g1 p3 ?_
  refine X_iload_n 5 (by decide +kernel : decode cX6_tollOf 4 = .ok (.iload_n 1, 1)) rfl rfl rfl ?_
  refine X_iald 6 (by decide +kernel : decode cX6_tollOf 5 = .ok (.iaload, 1)) rfl rfl g4 r5 h6 ?_
  refine X_bipush 8 (6) (by decide +kernel : decode cX6_tollOf 6 = .ok (.bipush 6, 2)) rfl rfl (by decide +kernel) ?_
  exact X_icmpge 20 11 (by decide +kernel : decode cX6_tollOf 8 = .ok (.if_icmp .ge 12, 3)) rfl rfl (by decide) r7 ⟨by decide, by decide⟩ k1 k2
theorem kX6_tollOf_11 {a0 : Nat} {o1 : Option Value} {x2 : Int} {b2 : Nat} (g1 : aKd S a0 = 8) (p3 : aP S a0 7 = some b2) (g4 : aKd S b2 = 100) (r5 : R32 x2) (h6 : (0 : Int) ≤ x2 ∧ x2 < (aN S b2 : Int)) (q : Q (some (some (J ((M b2 x2.toNat) * 2)))) S (mI M)) : X E d fX6_tollOf 11 [some (.ref a0), o1, some (J x2)] [] S (mI M) Q := by
  refine X_aload_n 12 (by decide +kernel : decode cX6_tollOf 11 = .ok (.aload_n 0, 1)) rfl rfl rfl ?_
  refine X_getR 15 (by decide +kernel : decode cX6_tollOf 12 = .ok (.getfield 21, 3)) rfl rfl (by decide +kernel : aFd 8 21 = some (8, 7, true, true)) g1 p3 ?_
  refine X_iload_n 16 (by decide +kernel : decode cX6_tollOf 15 = .ok (.iload_n 2, 1)) rfl rfl rfl ?_
  refine X_iald 17 (by decide +kernel : decode cX6_tollOf 16 = .ok (.iaload, 1)) rfl rfl g4 r5 h6 ?_
  refine X_iconst 18 (by decide +kernel : decode cX6_tollOf 17 = .ok (.iconst 2, 1)) rfl rfl ?_
  refine X_imul 19 (by decide +kernel : decode cX6_tollOf 18 = .ok (.imul, 1)) rfl rfl ?_
  exact X_iret (by decide +kernel : decode cX6_tollOf 19 = .ok (.ireturn, 1)) rfl rfl rfl q
theorem kX6_tollOf_20 {a0 : Nat} {x1 : Int} {o2 : Option Value} {b2 : Nat} (g1 : aKd S a0 = 8) (p3 : aP S a0 12 = some b2) (g4 : aKd S b2 = 100) (r5 : R32 x1) (h6 : (0 : Int) ≤ x1 ∧ x1 < (aN S b2 : Int)) (r7 : R32 (M b2 x1.toNat)) (k1 : (M b2 x1.toNat) ≤ 11 → X E d fX6_tollOf 42 [some (.ref a0), some (J x1), o2] [] S (mI M) Q) (k2 : 11 < (M b2 x1.toNat) → X E d fX6_tollOf 31 [some (.ref a0), some (J x1), o2] [] S (mI M) Q) : X E d fX6_tollOf 20 [some (.ref a0), some (J x1), o2] [] S (mI M) Q := by
  refine X_aload_n 21 (by decide +kernel : decode cX6_tollOf 20 = .ok (.aload_n 0, 1)) rfl rfl rfl ?_
  refine X_getR 24 (by decide +kernel : decode cX6_tollOf 21 = .ok (.getfield 36, 3)) rfl rfl (by decide +kernel : aFd 8 36 = some (8, 12, true, true)) g1 p3 ?_
  refine X_iload_n 25 (by decide +kernel : decode cX6_tollOf 24 = .ok (.iload_n 1, 1)) rfl rfl rfl ?_
  refine X_iald 26 (by decide +kernel : decode cX6_tollOf 25 = .ok (.iaload, 1)) rfl rfl g4 r5 h6 ?_
  refine X_bipush 28 (11) (by decide +kernel : decode cX6_tollOf 26 = .ok (.bipush 11, 2)) rfl rfl (by decide +kernel) ?_
  exact X_icmple 42 31 (by decide +kernel : decode cX6_tollOf 28 = .ok (.if_icmp .le 14, 3)) rfl rfl (by decide) r7 ⟨by decide, by decide⟩ k1 k2
theorem kX6_tollOf_31 {a0 : Nat} {o1 : Option Value} {x2 : Int} {b2 : Nat} (g1 : aKd S a0 = 8) (p3 : aP S a0 7 = some b2) (g4 : aKd S b2 = 100) (r5 : R32 x2) (h6 : (0 : Int) ≤ x2 ∧ x2 < (aN S b2 : Int)) (r7 : R32 (M b2 x2.toNat)) (k : X E d fX6_tollOf 48 [some (.ref a0), o1, some (J x2)] [J ((M b2 x2.toNat).tdiv 2)] S (mI M) Q) : X E d fX6_tollOf 31 [some (.ref a0), o1, some (J x2)] [] S (mI M) Q := by
  refine X_aload_n 32 (by decide +kernel : decode cX6_tollOf 31 = .ok (.aload_n 0, 1)) rfl rfl rfl ?_
  refine X_getR 35 (by decide +kernel : decode cX6_tollOf 32 = .ok (.getfield 21, 3)) rfl rfl (by decide +kernel : aFd 8 21 = some (8, 7, true, true)) g1 p3 ?_
  refine X_iload_n 36 (by decide +kernel : decode cX6_tollOf 35 = .ok (.iload_n 2, 1)) rfl rfl rfl ?_
  refine X_iald 37 (by decide +kernel : decode cX6_tollOf 36 = .ok (.iaload, 1)) rfl rfl g4 r5 h6 ?_
  refine X_iconst 38 (by decide +kernel : decode cX6_tollOf 37 = .ok (.iconst 2, 1)) rfl rfl ?_
  refine X_idivW 39 (by decide +kernel : decode cX6_tollOf 38 = .ok (.idiv, 1)) rfl rfl r7 ⟨by decide, by decide⟩ (by decide) ?_
  exact X_goto 48 (by decide +kernel : decode cX6_tollOf 39 = .ok (.goto 9, 3)) rfl (by decide) k
theorem kX6_tollOf_42 {a0 : Nat} {o1 : Option Value} {x2 : Int} {b2 : Nat} (g1 : aKd S a0 = 8) (p3 : aP S a0 7 = some b2) (g4 : aKd S b2 = 100) (r5 : R32 x2) (h6 : (0 : Int) ≤ x2 ∧ x2 < (aN S b2 : Int)) (k : X E d fX6_tollOf 48 [some (.ref a0), o1, some (J x2)] [J (M b2 x2.toNat)] S (mI M) Q) : X E d fX6_tollOf 42 [some (.ref a0), o1, some (J x2)] [] S (mI M) Q := by
  refine X_aload_n 43 (by decide +kernel : decode cX6_tollOf 42 = .ok (.aload_n 0, 1)) rfl rfl rfl ?_
  refine X_getR 46 (by decide +kernel : decode cX6_tollOf 43 = .ok (.getfield 21, 3)) rfl rfl (by decide +kernel : aFd 8 21 = some (8, 7, true, true)) g1 p3 ?_
  refine X_iload_n 47 (by decide +kernel : decode cX6_tollOf 46 = .ok (.iload_n 2, 1)) rfl rfl rfl ?_
  refine X_iald 48 (by decide +kernel : decode cX6_tollOf 47 = .ok (.iaload, 1)) rfl rfl g4 r5 h6 ?_
  exact k
theorem kX6_tollOf_48 {o0 : Option Value} {o1 : Option Value} {o2 : Option Value} {t0 : Int} (q : Q (some (some (J t0))) S (mI M)) : X E d fX6_tollOf 48 [o0, o1, o2] [J t0] S (mI M) Q := by
  exact X_iret (by decide +kernel : decode cX6_tollOf 48 = .ok (.ireturn, 1)) rfl rfl rfl q
theorem kX6_copyFrom_0 {a0 : Nat} {a1 : Nat} {b2 : Nat} {M_11 : Nat → Nat → Int} {b15 : Nat} {b18 : Nat} {b25 : Nat} {b28 : Nat} {b35 : Nat} {b38 : Nat} {M_44 : Nat → Nat → Int} {b46 : Nat} {b49 : Nat} {b56 : Nat} {b59 : Nat} {b66 : Nat} {b69 : Nat} {b76 : Nat} {b79 : Nat} {M_85 : Nat → Nat → Int} {b87 : Nat} {b90 : Nat} {b97 : Nat} {b100 : Nat} {b107 : Nat} {b110 : Nat} {b117 : Nat} {b120 : Nat} {M_126 : Nat → Nat → Int} {b128 : Nat} {b131 : Nat} (g1 : aKd S a1 = 8) (p3 : aP S a1 1 = some b2) (g4 : aK S a0 = 8) (eM_11 : mW (mW (mW M a0 2 (M a1 2)) a0 3 ((mW M a0 2 (M a1 2)) a1 3)) a0 16 ((mW (mW M a0 2 (M a1 2)) a0 3 ((mW M a0 2 (M a1 2)) a1 3)) a1 16) = M_11) (p16 : aP (aPut S a0 1 (some b2)) a1 4 = some b15) (g17 : aKd S a0 = 8) (p19 : aP (aPut S a0 1 (some b2)) a0 4 = some b18) (g20 : aKd S b15 = 100) (g21 : aK S b18 = 100) (h22 : 0 + 45 ≤ (aN S b15 : Int)) (h23 : 0 + 45 ≤ (aN S b18 : Int)) (p26 : aP (aPut S a0 1 (some b2)) a1 5 = some b25) (p29 : aP (aPut S a0 1 (some b2)) a0 5 = some b28) (g30 : aKd S b25 = 100) (g31 : aK S b28 = 100) (h32 : 0 + 45 ≤ (aN S b25 : Int)) (h33 : 0 + 45 ≤ (aN S b28 : Int)) (p36 : aP (aPut S a0 1 (some b2)) a1 6 = some b35) (p39 : aP (aPut S a0 1 (some b2)) a0 6 = some b38) (g40 : aKd S b35 = 100) (g41 : aK S b38 = 100) (h42 : 0 + 5 ≤ (aN S b35 : Int)) (h43 : 0 + 5 ≤ (aN S b38 : Int)) (eM_44 : aCp (aCp (aCp (mW M_11 a0 17 (M_11 a1 17)) b15 b18 0 0 45) b25 b28 0 0 45) b35 b38 0 0 5 = M_44) (p47 : aP (aPut S a0 1 (some b2)) a1 7 = some b46) (p50 : aP (aPut S a0 1 (some b2)) a0 7 = some b49) (g51 : aKd S b46 = 100) (g52 : aK S b49 = 100) (h53 : 0 + 5 ≤ (aN S b46 : Int)) (h54 : 0 + 5 ≤ (aN S b49 : Int)) (p57 : aP (aPut S a0 1 (some b2)) a1 8 = some b56) (p60 : aP (aPut S a0 1 (some b2)) a0 8 = some b59) (g61 : aKd S b56 = 100) (g62 : aK S b59 = 100) (h63 : 0 + 5 ≤ (aN S b56 : Int)) (h64 : 0 + 5 ≤ (aN S b59 : Int)) (p67 : aP (aPut S a0 1 (some b2)) a1 9 = some b66) (p70 : aP (aPut S a0 1 (some b2)) a0 9 = some b69) (g71 : aKd S b66 = 100) (g72 : aK S b69 = 100) (h73 : 0 + 5 ≤ (aN S b66 : Int)) (h74 : 0 + 5 ≤ (aN S b69 : Int)) (p77 : aP (aPut S a0 1 (some b2)) a1 10 = some b76) (p80 : aP (aPut S a0 1 (some b2)) a0 10 = some b79) (g81 : aKd S b76 = 100) (g82 : aK S b79 = 100) (h83 : 0 + 5 ≤ (aN S b76 : Int)) (h84 : 0 + 5 ≤ (aN S b79 : Int)) (eM_85 : aCp (aCp (aCp (aCp M_44 b46 b49 0 0 5) b56 b59 0 0 5) b66 b69 0 0 5) b76 b79 0 0 5 = M_85) (p88 : aP (aPut S a0 1 (some b2)) a1 11 = some b87) (p91 : aP (aPut S a0 1 (some b2)) a0 11 = some b90) (g92 : aKd S b87 = 100) (g93 : aK S b90 = 100) (h94 : 0 + 5 ≤ (aN S b87 : Int)) (h95 : 0 + 5 ≤ (aN S b90 : Int)) (p98 : aP (aPut S a0 1 (some b2)) a1 12 = some b97) (p101 : aP (aPut S a0 1 (some b2)) a0 12 = some b100) (g102 : aKd S b97 = 100) (g103 : aK S b100 = 100) (h104 : 0 + 8 ≤ (aN S b97 : Int)) (h105 : 0 + 8 ≤ (aN S b100 : Int)) (p108 : aP (aPut S a0 1 (some b2)) a1 13 = some b107) (p111 : aP (aPut S a0 1 (some b2)) a0 13 = some b110) (g112 : aKd S b107 = 100) (g113 : aK S b110 = 100) (h114 : 0 + 8 ≤ (aN S b107 : Int)) (h115 : 0 + 8 ≤ (aN S b110 : Int)) (p118 : aP (aPut S a0 1 (some b2)) a1 14 = some b117) (p121 : aP (aPut S a0 1 (some b2)) a0 14 = some b120) (g122 : aKd S b117 = 100) (g123 : aK S b120 = 100) (h124 : 0 + 8 ≤ (aN S b117 : Int)) (h125 : 0 + 8 ≤ (aN S b120 : Int)) (eM_126 : aCp (aCp (aCp (aCp M_85 b87 b90 0 0 5) b97 b100 0 0 8) b107 b110 0 0 8) b117 b120 0 0 8 = M_126) (p129 : aP (aPut S a0 1 (some b2)) a1 15 = some b128) (p132 : aP (aPut S a0 1 (some b2)) a0 15 = some b131) (g133 : aKd S b128 = 100) (g134 : aK S b131 = 100) (h135 : 0 + 8 ≤ (aN S b128 : Int)) (h136 : 0 + 8 ≤ (aN S b131 : Int)) (q : Q (some none) (aPut S a0 1 (some b2)) (mI (aCp M_126 b128 b131 0 0 8))) : X E d fX6_copyFrom 0 [some (.ref a0), some (.ref a1)] [] S (mI M) Q := by
  refine X_aload_n 1 (by decide +kernel : decode cX6_copyFrom 0 = .ok (.aload_n 0, 1)) rfl rfl rfl ?_
  refine X_aload_n 2 (by decide +kernel : decode cX6_copyFrom 1 = .ok (.aload_n 1, 1)) rfl rfl rfl ?_
  refine X_getR 5 (by decide +kernel : decode cX6_copyFrom 2 = .ok (.getfield 52, 3)) rfl rfl (by decide +kernel : aFd 8 52 = some (8, 1, true, false)) g1 p3 ?_
  refine X_putR 8 (by decide +kernel : decode cX6_copyFrom 5 = .ok (.putfield 52, 3)) rfl rfl (by decide +kernel : aFd 8 52 = some (8, 1, true, false)) (Or.inl rfl) g4 rfl ?_
  refine X_aload_n 9 (by decide +kernel : decode cX6_copyFrom 8 = .ok (.aload_n 0, 1)) rfl rfl rfl ?_
  refine X_aload_n 10 (by decide +kernel : decode cX6_copyFrom 9 = .ok (.aload_n 1, 1)) rfl rfl rfl ?_
  refine X_getI 13 (by decide +kernel : decode cX6_copyFrom 10 = .ok (.getfield 71, 3)) rfl rfl (by decide +kernel : aFd 8 71 = some (8, 2, false, false)) g1 ?_
  refine X_putI 16 (by decide +kernel : decode cX6_copyFrom 13 = .ok (.putfield 71, 3)) rfl rfl (by decide +kernel : aFd 8 71 = some (8, 2, false, false)) (Or.inl rfl) g4 rfl rfl ?_
  refine X_aload_n 17 (by decide +kernel : decode cX6_copyFrom 16 = .ok (.aload_n 0, 1)) rfl rfl rfl ?_
  refine X_aload_n 18 (by decide +kernel : decode cX6_copyFrom 17 = .ok (.aload_n 1, 1)) rfl rfl rfl ?_
  refine X_getI 21 (by decide +kernel : decode cX6_copyFrom 18 = .ok (.getfield 56, 3)) rfl rfl (by decide +kernel : aFd 8 56 = some (8, 3, false, false)) g1 ?_
  refine X_putI 24 (by decide +kernel : decode cX6_copyFrom 21 = .ok (.putfield 56, 3)) rfl rfl (by decide +kernel : aFd 8 56 = some (8, 3, false, false)) (Or.inl rfl) g4 rfl rfl ?_
  refine X_aload_n 25 (by decide +kernel : decode cX6_copyFrom 24 = .ok (.aload_n 0, 1)) rfl rfl rfl ?_
  refine X_aload_n 26 (by decide +kernel : decode cX6_copyFrom 25 = .ok (.aload_n 1, 1)) rfl rfl rfl ?_
  refine X_getI 29 (by decide +kernel : decode cX6_copyFrom 26 = .ok (.getfield 60, 3)) rfl rfl (by decide +kernel : aFd 8 60 = some (8, 16, false, false)) g1 ?_
  refine X_putI 32 (by decide +kernel : decode cX6_copyFrom 29 = .ok (.putfield 60, 3)) rfl rfl (by decide +kernel : aFd 8 60 = some (8, 16, false, false)) (Or.inl rfl) g4 rfl rfl ?_
  show X E d fX6_copyFrom 32 [some (.ref a0), some (.ref a1)] [] (aPut S a0 1 (some b2)) (mI (mW (mW (mW M a0 2 (M a1 2)) a0 3 ((mW M a0 2 (M a1 2)) a1 3)) a0 16 ((mW (mW M a0 2 (M a1 2)) a0 3 ((mW M a0 2 (M a1 2)) a1 3)) a1 16))) Q
  rw [eM_11]
  refine X_aload_n 33 (by decide +kernel : decode cX6_copyFrom 32 = .ok (.aload_n 0, 1)) rfl rfl rfl ?_
  refine X_aload_n 34 (by decide +kernel : decode cX6_copyFrom 33 = .ok (.aload_n 1, 1)) rfl rfl rfl ?_
  refine X_getI 37 (by decide +kernel : decode cX6_copyFrom 34 = .ok (.getfield 74, 3)) rfl rfl (by decide +kernel : aFd 8 74 = some (8, 17, false, false)) g1 ?_
  refine X_putI 40 (by decide +kernel : decode cX6_copyFrom 37 = .ok (.putfield 74, 3)) rfl rfl (by decide +kernel : aFd 8 74 = some (8, 17, false, false)) (Or.inl rfl) g4 rfl rfl ?_
  refine X_aload_n 41 (by decide +kernel : decode cX6_copyFrom 40 = .ok (.aload_n 1, 1)) rfl rfl rfl ?_
  refine X_getR 44 (by decide +kernel : decode cX6_copyFrom 41 = .ok (.getfield 9, 3)) rfl rfl (by decide +kernel : aFd 8 9 = some (8, 4, true, true)) g1 p16 ?_
  refine X_iconst 45 (by decide +kernel : decode cX6_copyFrom 44 = .ok (.iconst 0, 1)) rfl rfl ?_
  refine X_aload_n 46 (by decide +kernel : decode cX6_copyFrom 45 = .ok (.aload_n 0, 1)) rfl rfl rfl ?_
  refine X_getR 49 (by decide +kernel : decode cX6_copyFrom 46 = .ok (.getfield 9, 3)) rfl rfl (by decide +kernel : aFd 8 9 = some (8, 4, true, true)) g17 p19 ?_
  refine X_iconst 50 (by decide +kernel : decode cX6_copyFrom 49 = .ok (.iconst 0, 1)) rfl rfl ?_
  refine X_bipush 52 (45) (by decide +kernel : decode cX6_copyFrom 50 = .ok (.bipush 45, 2)) rfl rfl (by decide +kernel) ?_
  refine X_cpI 55 (by decide +kernel : decode cX6_copyFrom 52 = .ok (.invokestatic 77, 3)) rfl rfl rfl rfl g20 g21 ⟨(by decide), (by decide), (by decide)⟩ ⟨⟨by decide, by decide⟩, ⟨by decide, by decide⟩, ⟨by decide, by decide⟩⟩ h22 h23 (Nat.le_of_ble_eq_true rfl) ?_
  refine X_aload_n 56 (by decide +kernel : decode cX6_copyFrom 55 = .ok (.aload_n 1, 1)) rfl rfl rfl ?_
  refine X_getR 59 (by decide +kernel : decode cX6_copyFrom 56 = .ok (.getfield 15, 3)) rfl rfl (by decide +kernel : aFd 8 15 = some (8, 5, true, true)) g1 p26 ?_
  refine X_iconst 60 (by decide +kernel : decode cX6_copyFrom 59 = .ok (.iconst 0, 1)) rfl rfl ?_
  refine X_aload_n 61 (by decide +kernel : decode cX6_copyFrom 60 = .ok (.aload_n 0, 1)) rfl rfl rfl ?_
  refine X_getR 64 (by decide +kernel : decode cX6_copyFrom 61 = .ok (.getfield 15, 3)) rfl rfl (by decide +kernel : aFd 8 15 = some (8, 5, true, true)) g17 p29 ?_
  refine X_iconst 65 (by decide +kernel : decode cX6_copyFrom 64 = .ok (.iconst 0, 1)) rfl rfl ?_
  refine X_bipush 67 (45) (by decide +kernel : decode cX6_copyFrom 65 = .ok (.bipush 45, 2)) rfl rfl (by decide +kernel) ?_
  refine X_cpI 70 (by decide +kernel : decode cX6_copyFrom 67 = .ok (.invokestatic 77, 3)) rfl rfl rfl rfl g30 g31 ⟨(by decide), (by decide), (by decide)⟩ ⟨⟨by decide, by decide⟩, ⟨by decide, by decide⟩, ⟨by decide, by decide⟩⟩ h32 h33 (Nat.le_of_ble_eq_true rfl) ?_
  refine X_aload_n 71 (by decide +kernel : decode cX6_copyFrom 70 = .ok (.aload_n 1, 1)) rfl rfl rfl ?_
  refine X_getR 74 (by decide +kernel : decode cX6_copyFrom 71 = .ok (.getfield 18, 3)) rfl rfl (by decide +kernel : aFd 8 18 = some (8, 6, true, true)) g1 p36 ?_
  refine X_iconst 75 (by decide +kernel : decode cX6_copyFrom 74 = .ok (.iconst 0, 1)) rfl rfl ?_
  refine X_aload_n 76 (by decide +kernel : decode cX6_copyFrom 75 = .ok (.aload_n 0, 1)) rfl rfl rfl ?_
  refine X_getR 79 (by decide +kernel : decode cX6_copyFrom 76 = .ok (.getfield 18, 3)) rfl rfl (by decide +kernel : aFd 8 18 = some (8, 6, true, true)) g17 p39 ?_
  refine X_iconst 80 (by decide +kernel : decode cX6_copyFrom 79 = .ok (.iconst 0, 1)) rfl rfl ?_
  refine X_iconst 81 (by decide +kernel : decode cX6_copyFrom 80 = .ok (.iconst 5, 1)) rfl rfl ?_
  refine X_cpI 84 (by decide +kernel : decode cX6_copyFrom 81 = .ok (.invokestatic 77, 3)) rfl rfl rfl rfl g40 g41 ⟨(by decide), (by decide), (by decide)⟩ ⟨⟨by decide, by decide⟩, ⟨by decide, by decide⟩, ⟨by decide, by decide⟩⟩ h42 h43 (Nat.le_of_ble_eq_true rfl) ?_
  show X E d fX6_copyFrom 84 [some (.ref a0), some (.ref a1)] [] (aPut S a0 1 (some b2)) (mI (aCp (aCp (aCp (mW M_11 a0 17 (M_11 a1 17)) b15 b18 0 0 45) b25 b28 0 0 45) b35 b38 0 0 5)) Q
  rw [eM_44]
  refine X_aload_n 85 (by decide +kernel : decode cX6_copyFrom 84 = .ok (.aload_n 1, 1)) rfl rfl rfl ?_
  refine X_getR 88 (by decide +kernel : decode cX6_copyFrom 85 = .ok (.getfield 21, 3)) rfl rfl (by decide +kernel : aFd 8 21 = some (8, 7, true, true)) g1 p47 ?_
  refine X_iconst 89 (by decide +kernel : decode cX6_copyFrom 88 = .ok (.iconst 0, 1)) rfl rfl ?_
  refine X_aload_n 90 (by decide +kernel : decode cX6_copyFrom 89 = .ok (.aload_n 0, 1)) rfl rfl rfl ?_
  refine X_getR 93 (by decide +kernel : decode cX6_copyFrom 90 = .ok (.getfield 21, 3)) rfl rfl (by decide +kernel : aFd 8 21 = some (8, 7, true, true)) g17 p50 ?_
  refine X_iconst 94 (by decide +kernel : decode cX6_copyFrom 93 = .ok (.iconst 0, 1)) rfl rfl ?_
  refine X_iconst 95 (by decide +kernel : decode cX6_copyFrom 94 = .ok (.iconst 5, 1)) rfl rfl ?_
  refine X_cpI 98 (by decide +kernel : decode cX6_copyFrom 95 = .ok (.invokestatic 77, 3)) rfl rfl rfl rfl g51 g52 ⟨(by decide), (by decide), (by decide)⟩ ⟨⟨by decide, by decide⟩, ⟨by decide, by decide⟩, ⟨by decide, by decide⟩⟩ h53 h54 (Nat.le_of_ble_eq_true rfl) ?_
  refine X_aload_n 99 (by decide +kernel : decode cX6_copyFrom 98 = .ok (.aload_n 1, 1)) rfl rfl rfl ?_
  refine X_getR 102 (by decide +kernel : decode cX6_copyFrom 99 = .ok (.getfield 24, 3)) rfl rfl (by decide +kernel : aFd 8 24 = some (8, 8, true, true)) g1 p57 ?_
  refine X_iconst 103 (by decide +kernel : decode cX6_copyFrom 102 = .ok (.iconst 0, 1)) rfl rfl ?_
  refine X_aload_n 104 (by decide +kernel : decode cX6_copyFrom 103 = .ok (.aload_n 0, 1)) rfl rfl rfl ?_
  refine X_getR 107 (by decide +kernel : decode cX6_copyFrom 104 = .ok (.getfield 24, 3)) rfl rfl (by decide +kernel : aFd 8 24 = some (8, 8, true, true)) g17 p60 ?_
  refine X_iconst 108 (by decide +kernel : decode cX6_copyFrom 107 = .ok (.iconst 0, 1)) rfl rfl ?_
  refine X_iconst 109 (by decide +kernel : decode cX6_copyFrom 108 = .ok (.iconst 5, 1)) rfl rfl ?_
  refine X_cpI 112 (by decide +kernel : decode cX6_copyFrom 109 = .ok (.invokestatic 77, 3)) rfl rfl rfl rfl g61 g62 ⟨(by decide), (by decide), (by decide)⟩ ⟨⟨by decide, by decide⟩, ⟨by decide, by decide⟩, ⟨by decide, by decide⟩⟩ h63 h64 (Nat.le_of_ble_eq_true rfl) ?_
  refine X_aload_n 113 (by decide +kernel : decode cX6_copyFrom 112 = .ok (.aload_n 1, 1)) rfl rfl rfl ?_
  refine X_getR 116 (by decide +kernel : decode cX6_copyFrom 113 = .ok (.getfield 27, 3)) rfl rfl (by decide +kernel : aFd 8 27 = some (8, 9, true, true)) g1 p67 ?_
  refine X_iconst 117 (by decide +kernel : decode cX6_copyFrom 116 = .ok (.iconst 0, 1)) rfl rfl ?_
  refine X_aload_n 118 (by decide +kernel : decode cX6_copyFrom 117 = .ok (.aload_n 0, 1)) rfl rfl rfl ?_
  refine X_getR 121 (by decide +kernel : decode cX6_copyFrom 118 = .ok (.getfield 27, 3)) rfl rfl (by decide +kernel : aFd 8 27 = some (8, 9, true, true)) g17 p70 ?_
  refine X_iconst 122 (by decide +kernel : decode cX6_copyFrom 121 = .ok (.iconst 0, 1)) rfl rfl ?_
  refine X_iconst 123 (by decide +kernel : decode cX6_copyFrom 122 = .ok (.iconst 5, 1)) rfl rfl ?_
  refine X_cpI 126 (by decide +kernel : decode cX6_copyFrom 123 = .ok (.invokestatic 77, 3)) rfl rfl rfl rfl g71 g72 ⟨(by decide), (by decide), (by decide)⟩ ⟨⟨by decide, by decide⟩, ⟨by decide, by decide⟩, ⟨by decide, by decide⟩⟩ h73 h74 (Nat.le_of_ble_eq_true rfl) ?_
  refine X_aload_n 127 (by decide +kernel : decode cX6_copyFrom 126 = .ok (.aload_n 1, 1)) rfl rfl rfl ?_
  refine X_getR 130 (by decide +kernel : decode cX6_copyFrom 127 = .ok (.getfield 30, 3)) rfl rfl (by decide +kernel : aFd 8 30 = some (8, 10, true, true)) g1 p77 ?_
  refine X_iconst 131 (by decide +kernel : decode cX6_copyFrom 130 = .ok (.iconst 0, 1)) rfl rfl ?_
  refine X_aload_n 132 (by decide +kernel : decode cX6_copyFrom 131 = .ok (.aload_n 0, 1)) rfl rfl rfl ?_
  refine X_getR 135 (by decide +kernel : decode cX6_copyFrom 132 = .ok (.getfield 30, 3)) rfl rfl (by decide +kernel : aFd 8 30 = some (8, 10, true, true)) g17 p80 ?_
  refine X_iconst 136 (by decide +kernel : decode cX6_copyFrom 135 = .ok (.iconst 0, 1)) rfl rfl ?_
  refine X_iconst 137 (by decide +kernel : decode cX6_copyFrom 136 = .ok (.iconst 5, 1)) rfl rfl ?_
  refine X_cpI 140 (by decide +kernel : decode cX6_copyFrom 137 = .ok (.invokestatic 77, 3)) rfl rfl rfl rfl g81 g82 ⟨(by decide), (by decide), (by decide)⟩ ⟨⟨by decide, by decide⟩, ⟨by decide, by decide⟩, ⟨by decide, by decide⟩⟩ h83 h84 (Nat.le_of_ble_eq_true rfl) ?_
  show X E d fX6_copyFrom 140 [some (.ref a0), some (.ref a1)] [] (aPut S a0 1 (some b2)) (mI (aCp (aCp (aCp (aCp M_44 b46 b49 0 0 5) b56 b59 0 0 5) b66 b69 0 0 5) b76 b79 0 0 5)) Q
  rw [eM_85]
  refine X_aload_n 141 (by decide +kernel : decode cX6_copyFrom 140 = .ok (.aload_n 1, 1)) rfl rfl rfl ?_
  refine X_getR 144 (by decide +kernel : decode cX6_copyFrom 141 = .ok (.getfield 33, 3)) rfl rfl (by decide +kernel : aFd 8 33 = some (8, 11, true, true)) g1 p88 ?_
  refine X_iconst 145 (by decide +kernel : decode cX6_copyFrom 144 = .ok (.iconst 0, 1)) rfl rfl ?_
  refine X_aload_n 146 (by decide +kernel : decode cX6_copyFrom 145 = .ok (.aload_n 0, 1)) rfl rfl rfl ?_
  refine X_getR 149 (by decide +kernel : decode cX6_copyFrom 146 = .ok (.getfield 33, 3)) rfl rfl (by decide +kernel : aFd 8 33 = some (8, 11, true, true)) g17 p91 ?_
  refine X_iconst 150 (by decide +kernel : decode cX6_copyFrom 149 = .ok (.iconst 0, 1)) rfl rfl ?_
  refine X_iconst 151 (by decide +kernel : decode cX6_copyFrom 150 = .ok (.iconst 5, 1)) rfl rfl ?_
  refine X_cpI 154 (by decide +kernel : decode cX6_copyFrom 151 = .ok (.invokestatic 77, 3)) rfl rfl rfl rfl g92 g93 ⟨(by decide), (by decide), (by decide)⟩ ⟨⟨by decide, by decide⟩, ⟨by decide, by decide⟩, ⟨by decide, by decide⟩⟩ h94 h95 (Nat.le_of_ble_eq_true rfl) ?_
  refine X_aload_n 155 (by decide +kernel : decode cX6_copyFrom 154 = .ok (.aload_n 1, 1)) rfl rfl rfl ?_
  refine X_getR 158 (by decide +kernel : decode cX6_copyFrom 155 = .ok (.getfield 36, 3)) rfl rfl (by decide +kernel : aFd 8 36 = some (8, 12, true, true)) g1 p98 ?_
  refine X_iconst 159 (by decide +kernel : decode cX6_copyFrom 158 = .ok (.iconst 0, 1)) rfl rfl ?_
  refine X_aload_n 160 (by decide +kernel : decode cX6_copyFrom 159 = .ok (.aload_n 0, 1)) rfl rfl rfl ?_
  refine X_getR 163 (by decide +kernel : decode cX6_copyFrom 160 = .ok (.getfield 36, 3)) rfl rfl (by decide +kernel : aFd 8 36 = some (8, 12, true, true)) g17 p101 ?_
  refine X_iconst 164 (by decide +kernel : decode cX6_copyFrom 163 = .ok (.iconst 0, 1)) rfl rfl ?_
  refine X_bipush 166 (8) (by decide +kernel : decode cX6_copyFrom 164 = .ok (.bipush 8, 2)) rfl rfl (by decide +kernel) ?_
  refine X_cpI 169 (by decide +kernel : decode cX6_copyFrom 166 = .ok (.invokestatic 77, 3)) rfl rfl rfl rfl g102 g103 ⟨(by decide), (by decide), (by decide)⟩ ⟨⟨by decide, by decide⟩, ⟨by decide, by decide⟩, ⟨by decide, by decide⟩⟩ h104 h105 (Nat.le_of_ble_eq_true rfl) ?_
  refine X_aload_n 170 (by decide +kernel : decode cX6_copyFrom 169 = .ok (.aload_n 1, 1)) rfl rfl rfl ?_
  refine X_getR 173 (by decide +kernel : decode cX6_copyFrom 170 = .ok (.getfield 39, 3)) rfl rfl (by decide +kernel : aFd 8 39 = some (8, 13, true, true)) g1 p108 ?_
  refine X_iconst 174 (by decide +kernel : decode cX6_copyFrom 173 = .ok (.iconst 0, 1)) rfl rfl ?_
  refine X_aload_n 175 (by decide +kernel : decode cX6_copyFrom 174 = .ok (.aload_n 0, 1)) rfl rfl rfl ?_
  refine X_getR 178 (by decide +kernel : decode cX6_copyFrom 175 = .ok (.getfield 39, 3)) rfl rfl (by decide +kernel : aFd 8 39 = some (8, 13, true, true)) g17 p111 ?_
  refine X_iconst 179 (by decide +kernel : decode cX6_copyFrom 178 = .ok (.iconst 0, 1)) rfl rfl ?_
  refine X_bipush 181 (8) (by decide +kernel : decode cX6_copyFrom 179 = .ok (.bipush 8, 2)) rfl rfl (by decide +kernel) ?_
  refine X_cpI 184 (by decide +kernel : decode cX6_copyFrom 181 = .ok (.invokestatic 77, 3)) rfl rfl rfl rfl g112 g113 ⟨(by decide), (by decide), (by decide)⟩ ⟨⟨by decide, by decide⟩, ⟨by decide, by decide⟩, ⟨by decide, by decide⟩⟩ h114 h115 (Nat.le_of_ble_eq_true rfl) ?_
  refine X_aload_n 185 (by decide +kernel : decode cX6_copyFrom 184 = .ok (.aload_n 1, 1)) rfl rfl rfl ?_
  refine X_getR 188 (by decide +kernel : decode cX6_copyFrom 185 = .ok (.getfield 42, 3)) rfl rfl (by decide +kernel : aFd 8 42 = some (8, 14, true, true)) g1 p118 ?_
  refine X_iconst 189 (by decide +kernel : decode cX6_copyFrom 188 = .ok (.iconst 0, 1)) rfl rfl ?_
  refine X_aload_n 190 (by decide +kernel : decode cX6_copyFrom 189 = .ok (.aload_n 0, 1)) rfl rfl rfl ?_
  refine X_getR 193 (by decide +kernel : decode cX6_copyFrom 190 = .ok (.getfield 42, 3)) rfl rfl (by decide +kernel : aFd 8 42 = some (8, 14, true, true)) g17 p121 ?_
  refine X_iconst 194 (by decide +kernel : decode cX6_copyFrom 193 = .ok (.iconst 0, 1)) rfl rfl ?_
  refine X_bipush 196 (8) (by decide +kernel : decode cX6_copyFrom 194 = .ok (.bipush 8, 2)) rfl rfl (by decide +kernel) ?_
  refine X_cpI 199 (by decide +kernel : decode cX6_copyFrom 196 = .ok (.invokestatic 77, 3)) rfl rfl rfl rfl g122 g123 ⟨(by decide), (by decide), (by decide)⟩ ⟨⟨by decide, by decide⟩, ⟨by decide, by decide⟩, ⟨by decide, by decide⟩⟩ h124 h125 (Nat.le_of_ble_eq_true rfl) ?_
  show X E d fX6_copyFrom 199 [some (.ref a0), some (.ref a1)] [] (aPut S a0 1 (some b2)) (mI (aCp (aCp (aCp (aCp M_85 b87 b90 0 0 5) b97 b100 0 0 8) b107 b110 0 0 8) b117 b120 0 0 8)) Q
  rw [eM_126]
  refine X_aload_n 200 (by decide +kernel : decode cX6_copyFrom 199 = .ok (.aload_n 1, 1)) rfl rfl rfl ?_
  refine X_getR 203 (by decide +kernel : decode cX6_copyFrom 200 = .ok (.getfield 45, 3)) rfl rfl (by decide +kernel : aFd 8 45 = some (8, 15, true, true)) g1 p129 ?_
  refine X_iconst 204 (by decide +kernel : decode cX6_copyFrom 203 = .ok (.iconst 0, 1)) rfl rfl ?_
  refine X_aload_n 205 (by decide +kernel : decode cX6_copyFrom 204 = .ok (.aload_n 0, 1)) rfl rfl rfl ?_
  refine X_getR 208 (by decide +kernel : decode cX6_copyFrom 205 = .ok (.getfield 45, 3)) rfl rfl (by decide +kernel : aFd 8 45 = some (8, 15, true, true)) g17 p132 ?_
  refine X_iconst 209 (by decide +kernel : decode cX6_copyFrom 208 = .ok (.iconst 0, 1)) rfl rfl ?_
  refine X_bipush 211 (8) (by decide +kernel : decode cX6_copyFrom 209 = .ok (.bipush 8, 2)) rfl rfl (by decide +kernel) ?_
  refine X_cpI 214 (by decide +kernel : decode cX6_copyFrom 211 = .ok (.invokestatic 77, 3)) rfl rfl rfl rfl g133 g134 ⟨(by decide), (by decide), (by decide)⟩ ⟨⟨by decide, by decide⟩, ⟨by decide, by decide⟩, ⟨by decide, by decide⟩⟩ h135 h136 (Nat.le_of_ble_eq_true rfl) ?_
  exact X_vret (by decide +kernel : decode cX6_copyFrom 214 = .ok (.return_, 1)) rfl rfl q
theorem kX6_travel_0 {a0 : Nat} {x1 : Int} {o2 : Option Value} {o3 : Option Value} {o4 : Option Value} {o5 : Option Value} {o6 : Option Value} {b2 : Nat} {b5 : Nat} {b14 : Nat} (g1 : aKd S a0 = 8) (p3 : aP S a0 1 = some b2) (g4 : aKd S b2 = 5) (p6 : aP S b2 12 = some b5) (g7 : aKd S b5 = 100) (r8 : R32 x1) (h9 : (0 : Int) ≤ x1 ∧ x1 < (aN S b5 : Int)) (p15 : aP S b2 13 = some b14) (g16 : aKd S b14 = 100) (h18 : (0 : Int) ≤ x1 ∧ x1 < (aN S b14 : Int)) (r19 : R32 (M b5 x1.toNat)) (r20 : R32 (M b14 x1.toNat)) (k1 : (M b14 x1.toNat) < (M b5 x1.toNat) → X E d fX6_travel 25 [some (.ref a0), some (J x1), o2, o3, o4, o5, o6] [] S (mI M) Q) (k2 : (M b5 x1.toNat) ≤ (M b14 x1.toNat) → X E d fX6_travel 21 [some (.ref a0), some (J x1), o2, o3, o4, o5, o6] [] S (mI M) Q) : X E d fX6_travel 0 [some (.ref a0), some (J x1), o2, o3, o4, o5, o6] [] S (mI M) Q := by
  refine X_aload_n 1 (by decide +kernel : decode cX6_travel 0 = .ok (.aload_n 0, 1)) rfl rfl rfl ?_
  refine X_getR 4 (by decide +kernel : decode cX6_travel 1 = .ok (.getfield 52, 3)) rfl rfl (by decide +kernel : aFd 8 52 = some (8, 1, true, false)) g1 p3 ?_
  refine X_getR 7 (by decide +kernel : decode cX6_travel 4 = .ok (.getfield 177, 3)) rfl rfl (by decide +kernel : aFd 8 177 = some (5, 12, true, true)) g4 p6 ?_
  refine X_iload_n 8 (by decide +kernel : decode cX6_travel 7 = .ok (.iload_n 1, 1)) rfl rfl rfl ?_
  refine X_iald 9 (by decide +kernel : decode cX6_travel 8 = .ok (.iaload, 1)) rfl rfl g7 r8 h9 ?_
  refine X_aload_n 10 (by decide +kernel : decode cX6_travel 9 = .ok (.aload_n 0, 1)) rfl rfl rfl ?_
  refine X_getR 13 (by decide +kernel : decode cX6_travel 10 = .ok (.getfield 52, 3)) rfl rfl (by decide +kernel : aFd 8 52 = some (8, 1, true, false)) g1 p3 ?_
  refine X_getR 16 (by decide +kernel : decode cX6_travel 13 = .ok (.getfield 180, 3)) rfl rfl (by decide +kernel : aFd 8 180 = some (5, 13, true, true)) g4 p15 ?_
  refine X_iload_n 17 (by decide +kernel : decode cX6_travel 16 = .ok (.iload_n 1, 1)) rfl rfl rfl ?_
  refine X_iald 18 (by decide +kernel : decode cX6_travel 17 = .ok (.iaload, 1)) rfl rfl g16 r8 h18 ?_
  exact X_icmpgt 25 21 (by decide +kernel : decode cX6_travel 18 = .ok (.if_icmp .gt 7, 3)) rfl rfl (by decide) r19 r20 k1 k2
theorem kX6_travel_21 {o0 : Option Value} {o1 : Option Value} {o2 : Option Value} {o3 : Option Value} {o4 : Option Value} {o5 : Option Value} {o6 : Option Value} (k : X E d fX6_travel 26 [o0, o1, o2, o3, o4, o5, o6] [J 1] S (mI M) Q) : X E d fX6_travel 21 [o0, o1, o2, o3, o4, o5, o6] [] S (mI M) Q := by
  refine X_iconst 22 (by decide +kernel : decode cX6_travel 21 = .ok (.iconst 1, 1)) rfl rfl ?_
  exact X_goto 26 (by decide +kernel : decode cX6_travel 22 = .ok (.goto 4, 3)) rfl (by decide) k
theorem kX6_travel_25 {o0 : Option Value} {o1 : Option Value} {o2 : Option Value} {o3 : Option Value} {o4 : Option Value} {o5 : Option Value} {o6 : Option Value} (k : X E d fX6_travel 26 [o0, o1, o2, o3, o4, o5, o6] [J (-1)] S (mI M) Q) : X E d fX6_travel 25 [o0, o1, o2, o3, o4, o5, o6] [] S (mI M) Q := by
  refine X_iconst 26 (by decide +kernel : decode cX6_travel 25 = .ok (.iconst (-1), 1)) rfl rfl ?_
  exact k
theorem kX6_travel_26 {a0 : Nat} {x1 : Int} {o2 : Option Value} {o3 : Option Value} {o4 : Option Value} {o5 : Option Value} {o6 : Option Value} {t0 : Int} {b2 : Nat} {b5 : Nat} {b14 : Nat} (g1 : aKd S a0 = 8) (p3 : aP S a0 1 = some b2) (g4 : aKd S b2 = 5) (p6 : aP S b2 13 = some b5) (g7 : aKd S b5 = 100) (r8 : R32 x1) (h9 : (0 : Int) ≤ x1 ∧ x1 < (aN S b5 : Int)) (p15 : aP S b2 12 = some b14) (g16 : aKd S b14 = 100) (h18 : (0 : Int) ≤ x1 ∧ x1 < (aN S b14 : Int)) (k : X E d fX6_travel 54 [some (.ref a0), some (J x1), some (J t0), some (J ((((M b5 x1.toNat) - (M b14 x1.toNat)) * t0) + 1)), some (J 0), o5, o6] [] S (mI M) Q) : X E d fX6_travel 26 [some (.ref a0), some (J x1), o2, o3, o4, o5, o6] [J t0] S (mI M) Q := by
  refine X_istore_n 27 (by decide +kernel : decode cX6_travel 26 = .ok (.istore_n 2, 1)) rfl rfl (Nat.le_of_ble_eq_true rfl) rfl ?_
  refine X_aload_n 28 (by decide +kernel : decode cX6_travel 27 = .ok (.aload_n 0, 1)) rfl rfl rfl ?_
  refine X_getR 31 (by decide +kernel : decode cX6_travel 28 = .ok (.getfield 52, 3)) rfl rfl (by decide +kernel : aFd 8 52 = some (8, 1, true, false)) g1 p3 ?_
  refine X_getR 34 (by decide +kernel : decode cX6_travel 31 = .ok (.getfield 180, 3)) rfl rfl (by decide +kernel : aFd 8 180 = some (5, 13, true, true)) g4 p6 ?_
  refine X_iload_n 35 (by decide +kernel : decode cX6_travel 34 = .ok (.iload_n 1, 1)) rfl rfl rfl ?_
  refine X_iald 36 (by decide +kernel : decode cX6_travel 35 = .ok (.iaload, 1)) rfl rfl g7 r8 h9 ?_
  refine X_aload_n 37 (by decide +kernel : decode cX6_travel 36 = .ok (.aload_n 0, 1)) rfl rfl rfl ?_
  refine X_getR 40 (by decide +kernel : decode cX6_travel 37 = .ok (.getfield 52, 3)) rfl rfl (by decide +kernel : aFd 8 52 = some (8, 1, true, false)) g1 p3 ?_
  refine X_getR 43 (by decide +kernel : decode cX6_travel 40 = .ok (.getfield 177, 3)) rfl rfl (by decide +kernel : aFd 8 177 = some (5, 12, true, true)) g4 p15 ?_
  refine X_iload_n 44 (by decide +kernel : decode cX6_travel 43 = .ok (.iload_n 1, 1)) rfl rfl rfl ?_
  refine X_iald 45 (by decide +kernel : decode cX6_travel 44 = .ok (.iaload, 1)) rfl rfl g16 r8 h18 ?_
  refine X_isub 46 (by decide +kernel : decode cX6_travel 45 = .ok (.isub, 1)) rfl rfl ?_
  refine X_iload_n 47 (by decide +kernel : decode cX6_travel 46 = .ok (.iload_n 2, 1)) rfl rfl rfl ?_
  refine X_imul 48 (by decide +kernel : decode cX6_travel 47 = .ok (.imul, 1)) rfl rfl ?_
  refine X_iconst 49 (by decide +kernel : decode cX6_travel 48 = .ok (.iconst 1, 1)) rfl rfl ?_
  refine X_iadd 50 (by decide +kernel : decode cX6_travel 49 = .ok (.iadd, 1)) rfl rfl ?_
  refine X_istore_n 51 (by decide +kernel : decode cX6_travel 50 = .ok (.istore_n 3, 1)) rfl rfl (Nat.le_of_ble_eq_true rfl) rfl ?_
  refine X_iconst 52 (by decide +kernel : decode cX6_travel 51 = .ok (.iconst 0, 1)) rfl rfl ?_
  refine X_istore 54 (by decide +kernel : decode cX6_travel 52 = .ok (.istore 4, 2)) rfl rfl (Nat.le_of_ble_eq_true rfl) rfl ?_
  exact k
theorem kX6_travel_54 {o0 : Option Value} {o1 : Option Value} {o2 : Option Value} {x3 : Int} {x4 : Int} {o5 : Option Value} {o6 : Option Value} (r1 : R32 x4) (r2 : R32 x3) (k1 : x3 ≤ x4 → X E d fX6_travel 183 [o0, o1, o2, some (J x3), some (J x4), o5, o6] [] S (mI M) Q) (k2 : x4 < x3 → X E d fX6_travel 60 [o0, o1, o2, some (J x3), some (J x4), o5, o6] [] S (mI M) Q) : X E d fX6_travel 54 [o0, o1, o2, some (J x3), some (J x4), o5, o6] [] S (mI M) Q := by
  refine X_iload 56 (by decide +kernel : decode cX6_travel 54 = .ok (.iload 4, 2)) rfl rfl rfl ?_
  refine X_iload_n 57 (by decide +kernel : decode cX6_travel 56 = .ok (.iload_n 3, 1)) rfl rfl rfl ?_
  exact X_icmpge 183 60 (by decide +kernel : decode cX6_travel 57 = .ok (.if_icmp .ge 126, 3)) rfl rfl (by decide) r1 r2 k1 k2
theorem kX6_travel_60 {a0 : Nat} {x1 : Int} {x2 : Int} {o3 : Option Value} {x4 : Int} {o5 : Option Value} {o6 : Option Value} {b2 : Nat} {b5 : Nat} (g1 : aKd S a0 = 8) (p3 : aP S a0 1 = some b2) (g4 : aKd S b2 = 5) (p6 : aP S b2 12 = some b5) (g7 : aKd S b5 = 100) (r8 : R32 x1) (h9 : (0 : Int) ≤ x1 ∧ x1 < (aN S b5 : Int)) (hd1 : 1 ≤ d) (k : X E (d - 1) fX7_isOutside 0 [some (J ((M b5 x1.toNat) + (x4 * x2))), some (J (M b2 1))] [] S (mI M) (Kr E d fX6_travel 88 [some (.ref a0), some (J x1), some (J x2), o3, some (J x4), some (J ((M b5 x1.toNat) + (x4 * x2))), o6] [] Q)) : X E d fX6_travel 60 [some (.ref a0), some (J x1), some (J x2), o3, some (J x4), o5, o6] [] S (mI M) Q := by
  refine X_aload_n 61 (by decide +kernel : decode cX6_travel 60 = .ok (.aload_n 0, 1)) rfl rfl rfl ?_
  refine X_getR 64 (by decide +kernel : decode cX6_travel 61 = .ok (.getfield 52, 3)) rfl rfl (by decide +kernel : aFd 8 52 = some (8, 1, true, false)) g1 p3 ?_
  refine X_getR 67 (by decide +kernel : decode cX6_travel 64 = .ok (.getfield 177, 3)) rfl rfl (by decide +kernel : aFd 8 177 = some (5, 12, true, true)) g4 p6 ?_
  refine X_iload_n 68 (by decide +kernel : decode cX6_travel 67 = .ok (.iload_n 1, 1)) rfl rfl rfl ?_
  refine X_iald 69 (by decide +kernel : decode cX6_travel 68 = .ok (.iaload, 1)) rfl rfl g7 r8 h9 ?_
  refine X_iload 71 (by decide +kernel : decode cX6_travel 69 = .ok (.iload 4, 2)) rfl rfl rfl ?_
  refine X_iload_n 72 (by decide +kernel : decode cX6_travel 71 = .ok (.iload_n 2, 1)) rfl rfl rfl ?_
  refine X_imul 73 (by decide +kernel : decode cX6_travel 72 = .ok (.imul, 1)) rfl rfl ?_
  refine X_iadd 74 (by decide +kernel : decode cX6_travel 73 = .ok (.iadd, 1)) rfl rfl ?_
  refine X_istore 76 (by decide +kernel : decode cX6_travel 74 = .ok (.istore 5, 2)) rfl rfl (Nat.le_of_ble_eq_true rfl) rfl ?_
  refine X_iload 78 (by decide +kernel : decode cX6_travel 76 = .ok (.iload 5, 2)) rfl rfl rfl ?_
  refine X_aload_n 79 (by decide +kernel : decode cX6_travel 78 = .ok (.aload_n 0, 1)) rfl rfl rfl ?_
  refine X_getR 82 (by decide +kernel : decode cX6_travel 79 = .ok (.getfield 52, 3)) rfl rfl (by decide +kernel : aFd 8 52 = some (8, 1, true, false)) g1 p3 ?_
  refine X_getI 85 (by decide +kernel : decode cX6_travel 82 = .ok (.getfield 83, 3)) rfl rfl (by decide +kernel : aFd 8 83 = some (5, 1, false, false)) g4 ?_
  exact X_cs (as := [J (M b2 1), J ((M b5 x1.toNat) + (x4 * x2))]) (rest := []) (by decide +kernel : decode cX6_travel 85 = .ok (.invokestatic 114, 3)) rfl rfl rfl rfl rfl rfl rfl (Nat.le_of_ble_eq_true rfl) hd1 k
theorem kX6_travel_88 {o0 : Option Value} {o1 : Option Value} {o2 : Option Value} {o3 : Option Value} {o4 : Option Value} {o5 : Option Value} {o6 : Option Value} {t0 : Int} (r1 : R32 t0) (k1 : t0 = 0 → X E d fX6_travel 94 [o0, o1, o2, o3, o4, o5, o6] [] S (mI M) Q) (k2 : t0 ≠ 0 → X E d fX6_travel 91 [o0, o1, o2, o3, o4, o5, o6] [] S (mI M) Q) : X E d fX6_travel 88 [o0, o1, o2, o3, o4, o5, o6] [J t0] S (mI M) Q := by
  exact X_ifeq 94 91 (by decide +kernel : decode cX6_travel 88 = .ok (.ifCond .eq 6, 3)) rfl rfl (by decide) r1 k1 k2
theorem kX6_travel_91 {o0 : Option Value} {o1 : Option Value} {o2 : Option Value} {o3 : Option Value} {o4 : Option Value} {o5 : Option Value} {o6 : Option Value} (k : X E d fX6_travel 183 [o0, o1, o2, o3, o4, o5, o6] [] S (mI M) Q) : X E d fX6_travel 91 [o0, o1, o2, o3, o4, o5, o6] [] S (mI M) Q := by
  exact X_goto 183 (by decide +kernel : decode cX6_travel 91 = .ok (.goto 92, 3)) rfl (by decide) k
theorem kX6_travel_94 {a0 : Nat} {o1 : Option Value} {o2 : Option Value} {o3 : Option Value} {o4 : Option Value} {x5 : Int} {o6 : Option Value} {b2 : Nat} (g1 : aKd S a0 = 8) (p3 : aP S a0 4 = some b2) (g4 : aKd S b2 = 100) (r5 : R32 x5) (h6 : (0 : Int) ≤ x5 ∧ x5 < (aN S b2 : Int)) (r7 : R32 (M b2 x5.toNat)) (k1 : (M b2 x5.toNat) ≠ 0 → X E d fX6_travel 117 [some (.ref a0), o1, o2, o3, o4, some (J x5), o6] [] S (mI M) Q) (k2 : (M b2 x5.toNat) = 0 → X E d fX6_travel 104 [some (.ref a0), o1, o2, o3, o4, some (J x5), o6] [] S (mI M) Q) : X E d fX6_travel 94 [some (.ref a0), o1, o2, o3, o4, some (J x5), o6] [] S (mI M) Q := by
  refine X_aload_n 95 (by decide +kernel : decode cX6_travel 94 = .ok (.aload_n 0, 1)) rfl rfl rfl ?_
  refine X_getR 98 (by decide +kernel : decode cX6_travel 95 = .ok (.getfield 9, 3)) rfl rfl (by decide +kernel : aFd 8 9 = some (8, 4, true, true)) g1 p3 ?_
  refine X_iload 100 (by decide +kernel : decode cX6_travel 98 = .ok (.iload 5, 2)) rfl rfl rfl ?_
  refine X_iald 101 (by decide +kernel : decode cX6_travel 100 = .ok (.iaload, 1)) rfl rfl g4 r5 h6 ?_
  exact X_ifne 117 104 (by decide +kernel : decode cX6_travel 101 = .ok (.ifCond .ne 16, 3)) rfl rfl (by decide) r7 k1 k2
theorem kX6_travel_104 {a0 : Nat} {x1 : Int} {o2 : Option Value} {o3 : Option Value} {o4 : Option Value} {x5 : Int} {o6 : Option Value} {b2 : Nat} (g1 : aKd S a0 = 8) (p3 : aP S a0 14 = some b2) (g4 : aKd S b2 = 100) (r5 : R32 x1) (h6 : (0 : Int) ≤ x1 ∧ x1 < (aN S b2 : Int)) (g7 : aK S b2 = 100) (q : Q (some (some (J x5))) S (mI (mW M b2 x1.toNat (nz ((M b2 x1.toNat) + 1))))) : X E d fX6_travel 104 [some (.ref a0), some (J x1), o2, o3, o4, some (J x5), o6] [] S (mI M) Q := by
  refine X_aload_n 105 (by decide +kernel : decode cX6_travel 104 = .ok (.aload_n 0, 1)) rfl rfl rfl ?_
  refine X_getR 108 (by decide +kernel : decode cX6_travel 105 = .ok (.getfield 42, 3)) rfl rfl (by decide +kernel : aFd 8 42 = some (8, 14, true, true)) g1 p3 ?_
  refine X_iload_n 109 (by decide +kernel : decode cX6_travel 108 = .ok (.iload_n 1, 1)) rfl rfl rfl ?_
  refine X_dup2 110 (by decide +kernel : decode cX6_travel 109 = .ok (.dup2, 1)) rfl rfl rfl rfl ?_
  refine X_iald 111 (by decide +kernel : decode cX6_travel 110 = .ok (.iaload, 1)) rfl rfl g4 r5 h6 ?_
  refine X_iconst 112 (by decide +kernel : decode cX6_travel 111 = .ok (.iconst 1, 1)) rfl rfl ?_
  refine X_iadd 113 (by decide +kernel : decode cX6_travel 112 = .ok (.iadd, 1)) rfl rfl ?_
  refine X_iastz 114 (by decide +kernel : decode cX6_travel 113 = .ok (.iastore, 1)) rfl rfl g7 r5 h6 ?_
  refine X_iload 116 (by decide +kernel : decode cX6_travel 114 = .ok (.iload 5, 2)) rfl rfl rfl ?_
  exact X_iret (by decide +kernel : decode cX6_travel 116 = .ok (.ireturn, 1)) rfl rfl rfl q
theorem kX6_travel_117 {o0 : Option Value} {o1 : Option Value} {o2 : Option Value} {o3 : Option Value} {o4 : Option Value} {o5 : Option Value} {o6 : Option Value} (k : X E d fX6_travel 120 [o0, o1, o2, o3, o4, o5, some (J 0)] [] S (mI M) Q) : X E d fX6_travel 117 [o0, o1, o2, o3, o4, o5, o6] [] S (mI M) Q := by
  refine X_iconst 118 (by decide +kernel : decode cX6_travel 117 = .ok (.iconst 0, 1)) rfl rfl ?_
  refine X_istore 120 (by decide +kernel : decode cX6_travel 118 = .ok (.istore 6, 2)) rfl rfl (Nat.le_of_ble_eq_true rfl) rfl ?_
  exact k
theorem kX6_travel_120 {a0 : Nat} {o1 : Option Value} {o2 : Option Value} {o3 : Option Value} {o4 : Option Value} {o5 : Option Value} {x6 : Int} {b2 : Nat} (g1 : aKd S a0 = 8) (p3 : aP S a0 1 = some b2) (g4 : aKd S b2 = 5) (r5 : R32 x6) (r6 : R32 (M b2 2)) (k1 : (M b2 2) ≤ x6 → X E d fX6_travel 170 [some (.ref a0), o1, o2, o3, o4, o5, some (J x6)] [] S (mI M) Q) (k2 : x6 < (M b2 2) → X E d fX6_travel 132 [some (.ref a0), o1, o2, o3, o4, o5, some (J x6)] [] S (mI M) Q) : X E d fX6_travel 120 [some (.ref a0), o1, o2, o3, o4, o5, some (J x6)] [] S (mI M) Q := by
  refine X_iload 122 (by decide +kernel : decode cX6_travel 120 = .ok (.iload 6, 2)) rfl rfl rfl ?_
  refine X_aload_n 123 (by decide +kernel : decode cX6_travel 122 = .ok (.aload_n 0, 1)) rfl rfl rfl ?_
  refine X_getR 126 (by decide +kernel : decode cX6_travel 123 = .ok (.getfield 52, 3)) rfl rfl (by decide +kernel : aFd 8 52 = some (8, 1, true, false)) g1 p3 ?_
  refine X_getI 129 (by decide +kernel : decode cX6_travel 126 = .ok (.getfield 94, 3)) rfl rfl (by decide +kernel : aFd 8 94 = some (5, 2, false, false)) g4 ?_
  exact X_icmpge 170 132 (by decide +kernel : decode cX6_travel 129 = .ok (.if_icmp .ge 41, 3)) rfl rfl (by decide) r5 r6 k1 k2
theorem kX6_travel_132 {a0 : Nat} {o1 : Option Value} {o2 : Option Value} {o3 : Option Value} {o4 : Option Value} {x5 : Int} {x6 : Int} {b2 : Nat} {b5 : Nat} (g1 : aKd S a0 = 8) (p3 : aP S a0 1 = some b2) (g4 : aKd S b2 = 5) (p6 : aP S b2 8 = some b5) (g7 : aKd S b5 = 100) (r8 : R32 x6) (h9 : (0 : Int) ≤ x6 ∧ x6 < (aN S b5 : Int)) (r10 : R32 (M b5 x6.toNat)) (r11 : R32 x5) (k1 : (M b5 x6.toNat) ≠ x5 → X E d fX6_travel 164 [some (.ref a0), o1, o2, o3, o4, some (J x5), some (J x6)] [] S (mI M) Q) (k2 : (M b5 x6.toNat) = x5 → X E d fX6_travel 147 [some (.ref a0), o1, o2, o3, o4, some (J x5), some (J x6)] [] S (mI M) Q) : X E d fX6_travel 132 [some (.ref a0), o1, o2, o3, o4, some (J x5), some (J x6)] [] S (mI M) Q := by
  refine X_aload_n 133 (by decide +kernel : decode cX6_travel 132 = .ok (.aload_n 0, 1)) rfl rfl rfl ?_
  refine X_getR 136 (by decide +kernel : decode cX6_travel 133 = .ok (.getfield 52, 3)) rfl rfl (by decide +kernel : aFd 8 52 = some (8, 1, true, false)) g1 p3 ?_
  refine X_getR 139 (by decide +kernel : decode cX6_travel 136 = .ok (.getfield 183, 3)) rfl rfl (by decide +kernel : aFd 8 183 = some (5, 8, true, true)) g4 p6 ?_
  refine X_iload 141 (by decide +kernel : decode cX6_travel 139 = .ok (.iload 6, 2)) rfl rfl rfl ?_
  refine X_iald 142 (by decide +kernel : decode cX6_travel 141 = .ok (.iaload, 1)) rfl rfl g7 r8 h9 ?_
  refine X_iload 144 (by decide +kernel : decode cX6_travel 142 = .ok (.iload 5, 2)) rfl rfl rfl ?_
  exact X_icmpne 164 147 (by decide +kernel : decode cX6_travel 144 = .ok (.if_icmp .ne 20, 3)) rfl rfl (by decide) r10 r11 k1 k2
theorem kX6_travel_147 {a0 : Nat} {x1 : Int} {o2 : Option Value} {o3 : Option Value} {o4 : Option Value} {o5 : Option Value} {x6 : Int} (hd1 : 1 ≤ d) (k : X E (d - 1) fX6_isFree 0 [some (.ref a0), some (J x1), some (J x6), none, none] [] S (mI M) (Kr E d fX6_travel 154 [some (.ref a0), some (J x1), o2, o3, o4, o5, some (J x6)] [] Q)) (g1 : aKd S a0 = 8) : X E d fX6_travel 147 [some (.ref a0), some (J x1), o2, o3, o4, o5, some (J x6)] [] S (mI M) Q := by
  refine X_aload_n 148 (by decide +kernel : decode cX6_travel 147 = .ok (.aload_n 0, 1)) rfl rfl rfl ?_
  refine X_iload_n 149 (by decide +kernel : decode cX6_travel 148 = .ok (.iload_n 1, 1)) rfl rfl rfl ?_
  refine X_iload 151 (by decide +kernel : decode cX6_travel 149 = .ok (.iload 6, 2)) rfl rfl rfl ?_
  exact X_cv (as := [J x6, J x1]) (rest := []) (by decide +kernel : decode cX6_travel 151 = .ok (.invokevirtual 186, 3)) (Or.inl ⟨rfl, rfl, rfl⟩) rfl rfl rfl rfl rfl (Nat.le_of_ble_eq_true rfl) (Or.inr (Or.inr (by rw [g1]; rfl))) hd1 k
theorem kX6_travel_154 {o0 : Option Value} {o1 : Option Value} {o2 : Option Value} {o3 : Option Value} {o4 : Option Value} {o5 : Option Value} {o6 : Option Value} {t0 : Int} (r1 : R32 t0) (k1 : t0 ≠ 0 → X E d fX6_travel 164 [o0, o1, o2, o3, o4, o5, o6] [] S (mI M) Q) (k2 : t0 = 0 → X E d fX6_travel 157 [o0, o1, o2, o3, o4, o5, o6] [] S (mI M) Q) : X E d fX6_travel 154 [o0, o1, o2, o3, o4, o5, o6] [J t0] S (mI M) Q := by
  exact X_ifne 164 157 (by decide +kernel : decode cX6_travel 154 = .ok (.ifCond .ne 10, 3)) rfl rfl (by decide) r1 k1 k2
theorem kX6_travel_157 {a0 : Nat} {x1 : Int} {o2 : Option Value} {o3 : Option Value} {o4 : Option Value} {o5 : Option Value} {x6 : Int} (hd1 : 1 ≤ d) (k : X E (d - 1) fX6_pay 0 [some (.ref a0), some (J x1), some (J x6), none] [] S (mI M) (Kr E d fX6_travel 164 [some (.ref a0), some (J x1), o2, o3, o4, o5, some (J x6)] [] Q)) (g1 : aKd S a0 = 8) : X E d fX6_travel 157 [some (.ref a0), some (J x1), o2, o3, o4, o5, some (J x6)] [] S (mI M) Q := by
  refine X_aload_n 158 (by decide +kernel : decode cX6_travel 157 = .ok (.aload_n 0, 1)) rfl rfl rfl ?_
  refine X_iload_n 159 (by decide +kernel : decode cX6_travel 158 = .ok (.iload_n 1, 1)) rfl rfl rfl ?_
  refine X_iload 161 (by decide +kernel : decode cX6_travel 159 = .ok (.iload 6, 2)) rfl rfl rfl ?_
  exact X_cv (as := [J x6, J x1]) (rest := []) (by decide +kernel : decode cX6_travel 161 = .ok (.invokevirtual 189, 3)) (Or.inl ⟨rfl, rfl, rfl⟩) rfl rfl rfl rfl rfl (Nat.le_of_ble_eq_true rfl) (Or.inr (Or.inr (by rw [g1]; rfl))) hd1 k
theorem kX6_travel_164 {o0 : Option Value} {o1 : Option Value} {o2 : Option Value} {o3 : Option Value} {o4 : Option Value} {o5 : Option Value} {x6 : Int} (k : X E d fX6_travel 120 [o0, o1, o2, o3, o4, o5, some (J (x6 + 1))] [] S (mI M) Q) : X E d fX6_travel 164 [o0, o1, o2, o3, o4, o5, some (J x6)] [] S (mI M) Q := by
  refine X_iinc 167 (by decide +kernel : decode cX6_travel 164 = .ok (.iinc 6 1, 3)) rfl rfl rfl rfl ?_
  exact X_goto 120 (by decide +kernel : decode cX6_travel 167 = .ok (.goto (-47), 3)) rfl (by decide) k
theorem kX6_travel_170 {a0 : Nat} {x1 : Int} {o2 : Option Value} {o3 : Option Value} {o4 : Option Value} {x5 : Int} {o6 : Option Value} (hd1 : 1 ≤ d) (k : X E (d - 1) fX6_wear 0 [some (.ref a0), some (J x1), some (J x5), none, none, none] [] S (mI M) (Kr E d fX6_travel 177 [some (.ref a0), some (J x1), o2, o3, o4, some (J x5), o6] [] Q)) (g1 : aKd S a0 = 8) : X E d fX6_travel 170 [some (.ref a0), some (J x1), o2, o3, o4, some (J x5), o6] [] S (mI M) Q := by
  refine X_aload_n 171 (by decide +kernel : decode cX6_travel 170 = .ok (.aload_n 0, 1)) rfl rfl rfl ?_
  refine X_iload_n 172 (by decide +kernel : decode cX6_travel 171 = .ok (.iload_n 1, 1)) rfl rfl rfl ?_
  refine X_iload 174 (by decide +kernel : decode cX6_travel 172 = .ok (.iload 5, 2)) rfl rfl rfl ?_
  exact X_cv (as := [J x5, J x1]) (rest := []) (by decide +kernel : decode cX6_travel 174 = .ok (.invokevirtual 193, 3)) (Or.inl ⟨rfl, rfl, rfl⟩) rfl rfl rfl rfl rfl (Nat.le_of_ble_eq_true rfl) (Or.inr (Or.inr (by rw [g1]; rfl))) hd1 k
theorem kX6_travel_177 {o0 : Option Value} {o1 : Option Value} {o2 : Option Value} {o3 : Option Value} {x4 : Int} {o5 : Option Value} {o6 : Option Value} (k : X E d fX6_travel 54 [o0, o1, o2, o3, some (J (x4 + 1)), o5, o6] [] S (mI M) Q) : X E d fX6_travel 177 [o0, o1, o2, o3, some (J x4), o5, o6] [] S (mI M) Q := by
  refine X_iinc 180 (by decide +kernel : decode cX6_travel 177 = .ok (.iinc 4 1, 3)) rfl rfl rfl rfl ?_
  exact X_goto 54 (by decide +kernel : decode cX6_travel 180 = .ok (.goto (-126), 3)) rfl (by decide) k
theorem kX6_travel_183 {a0 : Nat} {x1 : Int} {o2 : Option Value} {o3 : Option Value} {o4 : Option Value} {o5 : Option Value} {o6 : Option Value} {b2 : Nat} (g1 : aKd S a0 = 8) (p3 : aP S a0 13 = some b2) (g4 : aKd S b2 = 100) (r5 : R32 x1) (h6 : (0 : Int) ≤ x1 ∧ x1 < (aN S b2 : Int)) (g7 : aK S b2 = 100) (q : Q (some (some (J (-1)))) S (mI (mW M b2 x1.toNat (nz ((M b2 x1.toNat) + 1))))) : X E d fX6_travel 183 [some (.ref a0), some (J x1), o2, o3, o4, o5, o6] [] S (mI M) Q := by
  refine X_aload_n 184 (by decide +kernel : decode cX6_travel 183 = .ok (.aload_n 0, 1)) rfl rfl rfl ?_
  refine X_getR 187 (by decide +kernel : decode cX6_travel 184 = .ok (.getfield 39, 3)) rfl rfl (by decide +kernel : aFd 8 39 = some (8, 13, true, true)) g1 p3 ?_
  refine X_iload_n 188 (by decide +kernel : decode cX6_travel 187 = .ok (.iload_n 1, 1)) rfl rfl rfl ?_
  refine X_dup2 189 (by decide +kernel : decode cX6_travel 188 = .ok (.dup2, 1)) rfl rfl rfl rfl ?_
  refine X_iald 190 (by decide +kernel : decode cX6_travel 189 = .ok (.iaload, 1)) rfl rfl g4 r5 h6 ?_
  refine X_iconst 191 (by decide +kernel : decode cX6_travel 190 = .ok (.iconst 1, 1)) rfl rfl ?_
  refine X_iadd 192 (by decide +kernel : decode cX6_travel 191 = .ok (.iadd, 1)) rfl rfl ?_
  refine X_iastz 193 (by decide +kernel : decode cX6_travel 192 = .ok (.iastore, 1)) rfl rfl g7 r5 h6 ?_
  refine X_iconst 194 (by decide +kernel : decode cX6_travel 193 = .ok (.iconst (-1), 1)) rfl rfl ?_
  exact X_iret (by decide +kernel : decode cX6_travel 194 = .ok (.ireturn, 1)) rfl rfl rfl q
theorem kX6_isFree_0 {a0 : Nat} {o1 : Option Value} {o2 : Option Value} {o3 : Option Value} {o4 : Option Value} {b2 : Nat} {b5 : Nat} (g1 : aKd S a0 = 8) (p3 : aP S a0 1 = some b2) (g4 : aKd S b2 = 5) (p6 : aP S b2 15 = some b5) (k : X E d fX6_isFree 11 [some (.ref a0), o1, o2, some (.ref b5), some (J 0)] [] S (mI M) Q) : X E d fX6_isFree 0 [some (.ref a0), o1, o2, o3, o4] [] S (mI M) Q := by
  refine X_aload_n 1 (by decide +kernel : decode cX6_isFree 0 = .ok (.aload_n 0, 1)) rfl rfl rfl ?_
  refine X_getR 4 (by decide +kernel : decode cX6_isFree 1 = .ok (.getfield 52, 3)) rfl rfl (by decide +kernel : aFd 8 52 = some (8, 1, true, false)) g1 p3 ?_
  refine X_getR 7 (by decide +kernel : decode cX6_isFree 4 = .ok (.getfield 147, 3)) rfl rfl (by decide +kernel : aFd 8 147 = some (5, 15, true, true)) g4 p6 ?_
  refine X_astore_n 8 (by decide +kernel : decode cX6_isFree 7 = .ok (.astore_n 3, 1)) rfl rfl (Nat.le_of_ble_eq_true rfl) rfl ?_
  refine X_iconst 9 (by decide +kernel : decode cX6_isFree 8 = .ok (.iconst 0, 1)) rfl rfl ?_
  refine X_istore 11 (by decide +kernel : decode cX6_isFree 9 = .ok (.istore 4, 2)) rfl rfl (Nat.le_of_ble_eq_true rfl) rfl ?_
  exact k
theorem kX6_isFree_11 {o0 : Option Value} {o1 : Option Value} {o2 : Option Value} {a3 : Nat} {x4 : Int} (g1 : aKd S a3 = 3) (r2 : R32 x4) (r3 : R32 (M a3 0)) (k1 : (M a3 0) ≤ x4 → X E d fX6_isFree 87 [o0, o1, o2, some (.ref a3), some (J x4)] [] S (mI M) Q) (k2 : x4 < (M a3 0) → X E d fX6_isFree 20 [o0, o1, o2, some (.ref a3), some (J x4)] [] S (mI M) Q) : X E d fX6_isFree 11 [o0, o1, o2, some (.ref a3), some (J x4)] [] S (mI M) Q := by
  refine X_iload 13 (by decide +kernel : decode cX6_isFree 11 = .ok (.iload 4, 2)) rfl rfl rfl ?_
  refine X_aload_n 14 (by decide +kernel : decode cX6_isFree 13 = .ok (.aload_n 3, 1)) rfl rfl rfl ?_
  refine X_getI 17 (by decide +kernel : decode cX6_isFree 14 = .ok (.getfield 151, 3)) rfl rfl (by decide +kernel : aFd 8 151 = some (3, 0, false, false)) g1 ?_
  exact X_icmpge 87 20 (by decide +kernel : decode cX6_isFree 17 = .ok (.if_icmp .ge 70, 3)) rfl rfl (by decide) r2 r3 k1 k2
theorem kX6_isFree_20 {o0 : Option Value} {o1 : Option Value} {o2 : Option Value} {a3 : Nat} {x4 : Int} {b2 : Nat} (g1 : aKd S a3 = 3) (p3 : aP S a3 1 = some b2) (g4 : aKd S b2 = 100) (r5 : R32 x4) (h6 : (0 : Int) ≤ x4 ∧ x4 < (aN S b2 : Int)) (r7 : R32 (M b2 x4.toNat)) (k1 : (M b2 x4.toNat) ≠ 12 → X E d fX6_isFree 81 [o0, o1, o2, some (.ref a3), some (J x4)] [] S (mI M) Q) (k2 : (M b2 x4.toNat) = 12 → X E d fX6_isFree 32 [o0, o1, o2, some (.ref a3), some (J x4)] [] S (mI M) Q) : X E d fX6_isFree 20 [o0, o1, o2, some (.ref a3), some (J x4)] [] S (mI M) Q := by
  refine X_aload_n 21 (by decide +kernel : decode cX6_isFree 20 = .ok (.aload_n 3, 1)) rfl rfl rfl ?_
  refine X_getR 24 (by decide +kernel : decode cX6_isFree 21 = .ok (.getfield 156, 3)) rfl rfl (by decide +kernel : aFd 8 156 = some (3, 1, true, true)) g1 p3 ?_
  refine X_iload 26 (by decide +kernel : decode cX6_isFree 24 = .ok (.iload 4, 2)) rfl rfl rfl ?_
  refine X_iald 27 (by decide +kernel : decode cX6_isFree 26 = .ok (.iaload, 1)) rfl rfl g4 r5 h6 ?_
  refine X_bipush 29 (12) (by decide +kernel : decode cX6_isFree 27 = .ok (.bipush 12, 2)) rfl rfl (by decide +kernel) ?_
  exact X_icmpne 81 32 (by decide +kernel : decode cX6_isFree 29 = .ok (.if_icmp .ne 52, 3)) rfl rfl (by decide) r7 ⟨by decide, by decide⟩ k1 k2
theorem kX6_isFree_32 {o0 : Option Value} {x1 : Int} {o2 : Option Value} {a3 : Nat} {x4 : Int} {b2 : Nat} (g1 : aKd S a3 = 3) (p3 : aP S a3 3 = some b2) (g4 : aKd S b2 = 100) (r5 : R32 x4) (h6 : (0 : Int) ≤ x4 ∧ x4 < (aN S b2 : Int)) (r7 : R32 (M b2 x4.toNat)) (r8 : R32 x1) (k1 : (M b2 x4.toNat) ≠ x1 → X E d fX6_isFree 81 [o0, some (J x1), o2, some (.ref a3), some (J x4)] [] S (mI M) Q) (k2 : (M b2 x4.toNat) = x1 → X E d fX6_isFree 43 [o0, some (J x1), o2, some (.ref a3), some (J x4)] [] S (mI M) Q) : X E d fX6_isFree 32 [o0, some (J x1), o2, some (.ref a3), some (J x4)] [] S (mI M) Q := by
  refine X_aload_n 33 (by decide +kernel : decode cX6_isFree 32 = .ok (.aload_n 3, 1)) rfl rfl rfl ?_
  refine X_getR 36 (by decide +kernel : decode cX6_isFree 33 = .ok (.getfield 159, 3)) rfl rfl (by decide +kernel : aFd 8 159 = some (3, 3, true, true)) g1 p3 ?_
  refine X_iload 38 (by decide +kernel : decode cX6_isFree 36 = .ok (.iload 4, 2)) rfl rfl rfl ?_
  refine X_iald 39 (by decide +kernel : decode cX6_isFree 38 = .ok (.iaload, 1)) rfl rfl g4 r5 h6 ?_
  refine X_iload_n 40 (by decide +kernel : decode cX6_isFree 39 = .ok (.iload_n 1, 1)) rfl rfl rfl ?_
  exact X_icmpne 81 43 (by decide +kernel : decode cX6_isFree 40 = .ok (.if_icmp .ne 41, 3)) rfl rfl (by decide) r7 r8 k1 k2
theorem kX6_isFree_43 {o0 : Option Value} {o1 : Option Value} {x2 : Int} {a3 : Nat} {x4 : Int} {b2 : Nat} (g1 : aKd S a3 = 3) (p3 : aP S a3 4 = some b2) (g4 : aKd S b2 = 100) (r5 : R32 x4) (h6 : (0 : Int) ≤ x4 ∧ x4 < (aN S b2 : Int)) (r7 : R32 (M b2 x4.toNat)) (r8 : R32 x2) (k1 : (M b2 x4.toNat) ≠ x2 → X E d fX6_isFree 81 [o0, o1, some (J x2), some (.ref a3), some (J x4)] [] S (mI M) Q) (k2 : (M b2 x4.toNat) = x2 → X E d fX6_isFree 54 [o0, o1, some (J x2), some (.ref a3), some (J x4)] [] S (mI M) Q) : X E d fX6_isFree 43 [o0, o1, some (J x2), some (.ref a3), some (J x4)] [] S (mI M) Q := by
  refine X_aload_n 44 (by decide +kernel : decode cX6_isFree 43 = .ok (.aload_n 3, 1)) rfl rfl rfl ?_
  refine X_getR 47 (by decide +kernel : decode cX6_isFree 44 = .ok (.getfield 174, 3)) rfl rfl (by decide +kernel : aFd 8 174 = some (3, 4, true, true)) g1 p3 ?_
  refine X_iload 49 (by decide +kernel : decode cX6_isFree 47 = .ok (.iload 4, 2)) rfl rfl rfl ?_
  refine X_iald 50 (by decide +kernel : decode cX6_isFree 49 = .ok (.iaload, 1)) rfl rfl g4 r5 h6 ?_
  refine X_iload_n 51 (by decide +kernel : decode cX6_isFree 50 = .ok (.iload_n 2, 1)) rfl rfl rfl ?_
  exact X_icmpne 81 54 (by decide +kernel : decode cX6_isFree 51 = .ok (.if_icmp .ne 30, 3)) rfl rfl (by decide) r7 r8 k1 k2
theorem kX6_isFree_54 {a0 : Nat} {o1 : Option Value} {o2 : Option Value} {a3 : Nat} {x4 : Int} {b2 : Nat} {b5 : Nat} {b11 : Nat} (g1 : aKd S a0 = 8) (p3 : aP S a0 0 = some b2) (g4 : aKd S a3 = 3) (p6 : aP S a3 6 = some b5) (g7 : aKd S b5 = 100) (r8 : R32 x4) (h9 : (0 : Int) ≤ x4 ∧ x4 < (aN S b5 : Int)) (p12 : aP S a3 7 = some b11) (g13 : aKd S b11 = 100) (h15 : (0 : Int) ≤ x4 ∧ x4 < (aN S b11 : Int)) (hd1 : 1 ≤ d) (k : X E (d - 1) fX2_reckon 0 [some (.ref b2), some (.ref a0), some (J (M b5 x4.toNat)), some (J (M b11 x4.toNat)), none, none, none, none] [] S (mI M) (Kr E d fX6_isFree 76 [some (.ref a0), o1, o2, some (.ref a3), some (J x4)] [] Q)) (g16 : aKd S b2 = 4) : X E d fX6_isFree 54 [some (.ref a0), o1, o2, some (.ref a3), some (J x4)] [] S (mI M) Q := by
  refine X_aload_n 55 (by decide +kernel : decode cX6_isFree 54 = .ok (.aload_n 0, 1)) rfl rfl rfl ?_
  refine X_getR 58 (by decide +kernel : decode cX6_isFree 55 = .ok (.getfield 48, 3)) rfl rfl (by decide +kernel : aFd 8 48 = some (8, 0, true, true)) g1 p3 ?_
  refine X_aload_n 59 (by decide +kernel : decode cX6_isFree 58 = .ok (.aload_n 0, 1)) rfl rfl rfl ?_
  refine X_aload_n 60 (by decide +kernel : decode cX6_isFree 59 = .ok (.aload_n 3, 1)) rfl rfl rfl ?_
  refine X_getR 63 (by decide +kernel : decode cX6_isFree 60 = .ok (.getfield 162, 3)) rfl rfl (by decide +kernel : aFd 8 162 = some (3, 6, true, true)) g4 p6 ?_
  refine X_iload 65 (by decide +kernel : decode cX6_isFree 63 = .ok (.iload 4, 2)) rfl rfl rfl ?_
  refine X_iald 66 (by decide +kernel : decode cX6_isFree 65 = .ok (.iaload, 1)) rfl rfl g7 r8 h9 ?_
  refine X_aload_n 67 (by decide +kernel : decode cX6_isFree 66 = .ok (.aload_n 3, 1)) rfl rfl rfl ?_
  refine X_getR 70 (by decide +kernel : decode cX6_isFree 67 = .ok (.getfield 165, 3)) rfl rfl (by decide +kernel : aFd 8 165 = some (3, 7, true, true)) g4 p12 ?_
  refine X_iload 72 (by decide +kernel : decode cX6_isFree 70 = .ok (.iload 4, 2)) rfl rfl rfl ?_
  refine X_iald 73 (by decide +kernel : decode cX6_isFree 72 = .ok (.iaload, 1)) rfl rfl g13 r8 h15 ?_
  exact X_cv (as := [J (M b11 x4.toNat), J (M b5 x4.toNat), .ref a0]) (rest := []) (by decide +kernel : decode cX6_isFree 73 = .ok (.invokevirtual 168, 3)) (Or.inl ⟨rfl, rfl, rfl⟩) rfl rfl rfl rfl rfl (Nat.le_of_ble_eq_true rfl) (Or.inr (Or.inr (by rw [g16]; rfl))) hd1 k
theorem kX6_isFree_76 {o0 : Option Value} {o1 : Option Value} {o2 : Option Value} {o3 : Option Value} {o4 : Option Value} {t0 : Int} (r1 : R32 t0) (k1 : t0 = 0 → X E d fX6_isFree 81 [o0, o1, o2, o3, o4] [] S (mI M) Q) (k2 : t0 ≠ 0 → X E d fX6_isFree 79 [o0, o1, o2, o3, o4] [] S (mI M) Q) : X E d fX6_isFree 76 [o0, o1, o2, o3, o4] [J t0] S (mI M) Q := by
  exact X_ifeq 81 79 (by decide +kernel : decode cX6_isFree 76 = .ok (.ifCond .eq 5, 3)) rfl rfl (by decide) r1 k1 k2
theorem kX6_isFree_79 {o0 : Option Value} {o1 : Option Value} {o2 : Option Value} {o3 : Option Value} {o4 : Option Value} (q : Q (some (some (J 1))) S (mI M)) : X E d fX6_isFree 79 [o0, o1, o2, o3, o4] [] S (mI M) Q := by
  refine X_iconst 80 (by decide +kernel : decode cX6_isFree 79 = .ok (.iconst 1, 1)) rfl rfl ?_
  exact X_iret (by decide +kernel : decode cX6_isFree 80 = .ok (.ireturn, 1)) rfl rfl (by decide) q
theorem kX6_isFree_81 {o0 : Option Value} {o1 : Option Value} {o2 : Option Value} {o3 : Option Value} {x4 : Int} (k : X E d fX6_isFree 11 [o0, o1, o2, o3, some (J (x4 + 1))] [] S (mI M) Q) : X E d fX6_isFree 81 [o0, o1, o2, o3, some (J x4)] [] S (mI M) Q := by
  refine X_iinc 84 (by decide +kernel : decode cX6_isFree 81 = .ok (.iinc 4 1, 3)) rfl rfl rfl rfl ?_
  exact X_goto 11 (by decide +kernel : decode cX6_isFree 84 = .ok (.goto (-73), 3)) rfl (by decide) k
theorem kX6_isFree_87 {o0 : Option Value} {o1 : Option Value} {o2 : Option Value} {o3 : Option Value} {o4 : Option Value} (q : Q (some (some (J 0))) S (mI M)) : X E d fX6_isFree 87 [o0, o1, o2, o3, o4] [] S (mI M) Q := by
  refine X_iconst 88 (by decide +kernel : decode cX6_isFree 87 = .ok (.iconst 0, 1)) rfl rfl ?_
  exact X_iret (by decide +kernel : decode cX6_isFree 88 = .ok (.ireturn, 1)) rfl rfl (by decide) q
theorem kX6_pay_0 {a0 : Nat} {x1 : Int} {x2 : Int} {o3 : Option Value} (hd1 : 1 ≤ d) (k : X E (d - 1) fX6_tollOf 0 [some (.ref a0), some (J x1), some (J x2)] [] S (mI M) (Kr E d fX6_pay 6 [some (.ref a0), some (J x1), some (J x2), o3] [] Q)) (g1 : aKd S a0 = 8) : X E d fX6_pay 0 [some (.ref a0), some (J x1), some (J x2), o3] [] S (mI M) Q := by
  refine X_aload_n 1 (by decide +kernel : decode cX6_pay 0 = .ok (.aload_n 0, 1)) rfl rfl rfl ?_
  refine X_iload_n 2 (by decide +kernel : decode cX6_pay 1 = .ok (.iload_n 1, 1)) rfl rfl rfl ?_
  refine X_iload_n 3 (by decide +kernel : decode cX6_pay 2 = .ok (.iload_n 2, 1)) rfl rfl rfl ?_
  exact X_cv (as := [J x2, J x1]) (rest := []) (by decide +kernel : decode cX6_pay 3 = .ok (.invokevirtual 196, 3)) (Or.inl ⟨rfl, rfl, rfl⟩) rfl rfl rfl rfl rfl (Nat.le_of_ble_eq_true rfl) (Or.inr (Or.inr (by rw [g1]; rfl))) hd1 k
theorem kX6_pay_6 {a0 : Nat} {x1 : Int} {x2 : Int} {o3 : Option Value} {t0 : Int} {b2 : Nat} {b11 : Nat} {M_19 : Nat → Nat → Int} {b21 : Nat} (g1 : aKd S a0 = 8) (p3 : aP S a0 15 = some b2) (g4 : aKd S b2 = 100) (r5 : R32 x1) (h6 : (0 : Int) ≤ x1 ∧ x1 < (aN S b2 : Int)) (g7 : aK S b2 = 100) (p12 : aP S a0 8 = some b11) (g13 : aKd S b11 = 100) (r14 : R32 x2) (h15 : (0 : Int) ≤ x2 ∧ x2 < (aN S b11 : Int)) (g16 : aK S b11 = 100) (eM_19 : mW (mW M b2 x1.toNat (nz ((M b2 x1.toNat) + t0))) b11 x2.toNat (nz (((mW M b2 x1.toNat (nz ((M b2 x1.toNat) + t0))) b11 x2.toNat) + t0)) = M_19) (p22 : aP S a0 10 = some b21) (g23 : aKd S b21 = 100) (h25 : (0 : Int) ≤ x2 ∧ x2 < (aN S b21 : Int)) (r26 : R32 (M_19 b21 x2.toNat)) (k1 : (M_19 b21 x2.toNat) ≠ (-1) → X E d fX6_pay 50 [some (.ref a0), some (J x1), some (J x2), some (J t0)] [] S (mI M_19) Q) (k2 : (M_19 b21 x2.toNat) = (-1) → X E d fX6_pay 37 [some (.ref a0), some (J x1), some (J x2), some (J t0)] [] S (mI M_19) Q) : X E d fX6_pay 6 [some (.ref a0), some (J x1), some (J x2), o3] [J t0] S (mI M) Q := by
  refine X_istore_n 7 (by decide +kernel : decode cX6_pay 6 = .ok (.istore_n 3, 1)) rfl rfl (Nat.le_of_ble_eq_true rfl) rfl ?_
  refine X_aload_n 8 (by decide +kernel : decode cX6_pay 7 = .ok (.aload_n 0, 1)) rfl rfl rfl ?_
  refine X_getR 11 (by decide +kernel : decode cX6_pay 8 = .ok (.getfield 45, 3)) rfl rfl (by decide +kernel : aFd 8 45 = some (8, 15, true, true)) g1 p3 ?_
  refine X_iload_n 12 (by decide +kernel : decode cX6_pay 11 = .ok (.iload_n 1, 1)) rfl rfl rfl ?_
  refine X_dup2 13 (by decide +kernel : decode cX6_pay 12 = .ok (.dup2, 1)) rfl rfl rfl rfl ?_
  refine X_iald 14 (by decide +kernel : decode cX6_pay 13 = .ok (.iaload, 1)) rfl rfl g4 r5 h6 ?_
  refine X_iload_n 15 (by decide +kernel : decode cX6_pay 14 = .ok (.iload_n 3, 1)) rfl rfl rfl ?_
  refine X_iadd 16 (by decide +kernel : decode cX6_pay 15 = .ok (.iadd, 1)) rfl rfl ?_
  refine X_iastz 17 (by decide +kernel : decode cX6_pay 16 = .ok (.iastore, 1)) rfl rfl g7 r5 h6 ?_
  refine X_aload_n 18 (by decide +kernel : decode cX6_pay 17 = .ok (.aload_n 0, 1)) rfl rfl rfl ?_
  refine X_getR 21 (by decide +kernel : decode cX6_pay 18 = .ok (.getfield 24, 3)) rfl rfl (by decide +kernel : aFd 8 24 = some (8, 8, true, true)) g1 p12 ?_
  refine X_iload_n 22 (by decide +kernel : decode cX6_pay 21 = .ok (.iload_n 2, 1)) rfl rfl rfl ?_
  refine X_dup2 23 (by decide +kernel : decode cX6_pay 22 = .ok (.dup2, 1)) rfl rfl rfl rfl ?_
  refine X_iald 24 (by decide +kernel : decode cX6_pay 23 = .ok (.iaload, 1)) rfl rfl g13 r14 h15 ?_
  refine X_iload_n 25 (by decide +kernel : decode cX6_pay 24 = .ok (.iload_n 3, 1)) rfl rfl rfl ?_
  refine X_iadd 26 (by decide +kernel : decode cX6_pay 25 = .ok (.iadd, 1)) rfl rfl ?_
  refine X_iastz 27 (by decide +kernel : decode cX6_pay 26 = .ok (.iastore, 1)) rfl rfl g16 r14 h15 ?_
  show X E d fX6_pay 27 [some (.ref a0), some (J x1), some (J x2), some (J t0)] [] S (mI (mW (mW M b2 x1.toNat (nz ((M b2 x1.toNat) + t0))) b11 x2.toNat (nz (((mW M b2 x1.toNat (nz ((M b2 x1.toNat) + t0))) b11 x2.toNat) + t0)))) Q
  rw [eM_19]
  refine X_aload_n 28 (by decide +kernel : decode cX6_pay 27 = .ok (.aload_n 0, 1)) rfl rfl rfl ?_
  refine X_getR 31 (by decide +kernel : decode cX6_pay 28 = .ok (.getfield 30, 3)) rfl rfl (by decide +kernel : aFd 8 30 = some (8, 10, true, true)) g1 p22 ?_
  refine X_iload_n 32 (by decide +kernel : decode cX6_pay 31 = .ok (.iload_n 2, 1)) rfl rfl rfl ?_
  refine X_iald 33 (by decide +kernel : decode cX6_pay 32 = .ok (.iaload, 1)) rfl rfl g23 r14 h25 ?_
  refine X_iconst 34 (by decide +kernel : decode cX6_pay 33 = .ok (.iconst (-1), 1)) rfl rfl ?_
  exact X_icmpne 50 37 (by decide +kernel : decode cX6_pay 34 = .ok (.if_icmp .ne 16, 3)) rfl rfl (by decide) r26 ⟨by decide, by decide⟩ k1 k2
theorem kX6_pay_37 {a0 : Nat} {o1 : Option Value} {o2 : Option Value} {x3 : Int} (g1 : aKd S a0 = 8) (g2 : aK S a0 = 8) (k : X E d fX6_pay 60 [some (.ref a0), o1, o2, some (J x3)] [] S (mI (mW M a0 3 (nz ((M a0 3) + x3)))) Q) : X E d fX6_pay 37 [some (.ref a0), o1, o2, some (J x3)] [] S (mI M) Q := by
  refine X_aload_n 38 (by decide +kernel : decode cX6_pay 37 = .ok (.aload_n 0, 1)) rfl rfl rfl ?_
  refine X_dup 39 (by decide +kernel : decode cX6_pay 38 = .ok (.dup, 1)) rfl rfl rfl ?_
  refine X_getI 42 (by decide +kernel : decode cX6_pay 39 = .ok (.getfield 56, 3)) rfl rfl (by decide +kernel : aFd 8 56 = some (8, 3, false, false)) g1 ?_
  refine X_iload_n 43 (by decide +kernel : decode cX6_pay 42 = .ok (.iload_n 3, 1)) rfl rfl rfl ?_
  refine X_iadd 44 (by decide +kernel : decode cX6_pay 43 = .ok (.iadd, 1)) rfl rfl ?_
  refine X_putIz 47 (by decide +kernel : decode cX6_pay 44 = .ok (.putfield 56, 3)) rfl rfl (by decide +kernel : aFd 8 56 = some (8, 3, false, false)) (Or.inl rfl) g2 rfl rfl ?_
  exact X_goto 60 (by decide +kernel : decode cX6_pay 47 = .ok (.goto 13, 3)) rfl (by decide) k
theorem kX6_pay_50 {a0 : Nat} {o1 : Option Value} {x2 : Int} {x3 : Int} {b2 : Nat} (g1 : aKd S a0 = 8) (p3 : aP S a0 11 = some b2) (g4 : aKd S b2 = 100) (r5 : R32 x2) (h6 : (0 : Int) ≤ x2 ∧ x2 < (aN S b2 : Int)) (g7 : aK S b2 = 100) (k : X E d fX6_pay 60 [some (.ref a0), o1, some (J x2), some (J x3)] [] S (mI (mW M b2 x2.toNat (nz ((M b2 x2.toNat) + x3)))) Q) : X E d fX6_pay 50 [some (.ref a0), o1, some (J x2), some (J x3)] [] S (mI M) Q := by
  refine X_aload_n 51 (by decide +kernel : decode cX6_pay 50 = .ok (.aload_n 0, 1)) rfl rfl rfl ?_
  refine X_getR 54 (by decide +kernel : decode cX6_pay 51 = .ok (.getfield 33, 3)) rfl rfl (by decide +kernel : aFd 8 33 = some (8, 11, true, true)) g1 p3 ?_
  refine X_iload_n 55 (by decide +kernel : decode cX6_pay 54 = .ok (.iload_n 2, 1)) rfl rfl rfl ?_
  refine X_dup2 56 (by decide +kernel : decode cX6_pay 55 = .ok (.dup2, 1)) rfl rfl rfl rfl ?_
  refine X_iald 57 (by decide +kernel : decode cX6_pay 56 = .ok (.iaload, 1)) rfl rfl g4 r5 h6 ?_
  refine X_iload_n 58 (by decide +kernel : decode cX6_pay 57 = .ok (.iload_n 3, 1)) rfl rfl rfl ?_
  refine X_iadd 59 (by decide +kernel : decode cX6_pay 58 = .ok (.iadd, 1)) rfl rfl ?_
  refine X_iastz 60 (by decide +kernel : decode cX6_pay 59 = .ok (.iastore, 1)) rfl rfl g7 r5 h6 ?_
  exact k
theorem kX6_pay_60 {o0 : Option Value} {o1 : Option Value} {o2 : Option Value} {o3 : Option Value} (q : Q (some none) S (mI M)) : X E d fX6_pay 60 [o0, o1, o2, o3] [] S (mI M) Q := by
  exact X_vret (by decide +kernel : decode cX6_pay 60 = .ok (.return_, 1)) rfl rfl q
theorem kX6_wear_0 {a0 : Nat} {x1 : Int} {x2 : Int} {o3 : Option Value} {o4 : Option Value} {o5 : Option Value} {b2 : Nat} {b5 : Nat} {b14 : Nat} {b20 : Nat} (g1 : aKd S a0 = 8) (p3 : aP S a0 1 = some b2) (g4 : aKd S b2 = 5) (p6 : aP S b2 10 = some b5) (g7 : aKd S b5 = 100) (r8 : R32 x1) (h9 : (0 : Int) ≤ x1 ∧ x1 < (aN S b5 : Int)) (p15 : aP S b2 6 = some b14) (p21 : aP S b2 7 = some b20) (g22 : aKd S b20 = 100) (r23 : R32 x2) (h24 : (0 : Int) ≤ x2 ∧ x2 < (aN S b20 : Int)) (hd1 : 1 ≤ d) (k : X E (d - 1) fX7_valueAt 0 [some (.ref b14), some (J (M b20 x2.toNat))] [] S (mI M) (Kr E d fX6_wear 28 [some (.ref a0), some (J x1), some (J x2), o3, o4, o5] [J (M b5 x1.toNat)] Q)) : X E d fX6_wear 0 [some (.ref a0), some (J x1), some (J x2), o3, o4, o5] [] S (mI M) Q := by
  refine X_aload_n 1 (by decide +kernel : decode cX6_wear 0 = .ok (.aload_n 0, 1)) rfl rfl rfl ?_
  refine X_getR 4 (by decide +kernel : decode cX6_wear 1 = .ok (.getfield 52, 3)) rfl rfl (by decide +kernel : aFd 8 52 = some (8, 1, true, false)) g1 p3 ?_
  refine X_getR 7 (by decide +kernel : decode cX6_wear 4 = .ok (.getfield 199, 3)) rfl rfl (by decide +kernel : aFd 8 199 = some (5, 10, true, true)) g4 p6 ?_
  refine X_iload_n 8 (by decide +kernel : decode cX6_wear 7 = .ok (.iload_n 1, 1)) rfl rfl rfl ?_
  refine X_iald 9 (by decide +kernel : decode cX6_wear 8 = .ok (.iaload, 1)) rfl rfl g7 r8 h9 ?_
  refine X_aload_n 10 (by decide +kernel : decode cX6_wear 9 = .ok (.aload_n 0, 1)) rfl rfl rfl ?_
  refine X_getR 13 (by decide +kernel : decode cX6_wear 10 = .ok (.getfield 52, 3)) rfl rfl (by decide +kernel : aFd 8 52 = some (8, 1, true, false)) g1 p3 ?_
  refine X_getR 16 (by decide +kernel : decode cX6_wear 13 = .ok (.getfield 202, 3)) rfl rfl (by decide +kernel : aFd 8 202 = some (5, 6, true, true)) g4 p15 ?_
  refine X_aload_n 17 (by decide +kernel : decode cX6_wear 16 = .ok (.aload_n 0, 1)) rfl rfl rfl ?_
  refine X_getR 20 (by decide +kernel : decode cX6_wear 17 = .ok (.getfield 52, 3)) rfl rfl (by decide +kernel : aFd 8 52 = some (8, 1, true, false)) g1 p3 ?_
  refine X_getR 23 (by decide +kernel : decode cX6_wear 20 = .ok (.getfield 205, 3)) rfl rfl (by decide +kernel : aFd 8 205 = some (5, 7, true, true)) g4 p21 ?_
  refine X_iload_n 24 (by decide +kernel : decode cX6_wear 23 = .ok (.iload_n 2, 1)) rfl rfl rfl ?_
  refine X_iald 25 (by decide +kernel : decode cX6_wear 24 = .ok (.iaload, 1)) rfl rfl g22 r23 h24 ?_
  exact X_cs (as := [J (M b20 x2.toNat), .ref b14]) (rest := [J (M b5 x1.toNat)]) (by decide +kernel : decode cX6_wear 25 = .ok (.invokestatic 103, 3)) rfl rfl rfl rfl rfl rfl rfl (Nat.le_of_ble_eq_true rfl) hd1 k
theorem kX6_wear_28 {a0 : Nat} {x1 : Int} {o2 : Option Value} {o3 : Option Value} {o4 : Option Value} {o5 : Option Value} {t0 : Int} {t1 : Int} {b2 : Nat} (g1 : aKd S a0 = 8) (p3 : aP S a0 12 = some b2) (g4 : aKd S b2 = 100) (r5 : R32 x1) (h6 : (0 : Int) ≤ x1 ∧ x1 < (aN S b2 : Int)) (r7 : R32 (M b2 x1.toNat)) (k1 : (M b2 x1.toNat) ≤ 0 → X E d fX6_wear 50 [some (.ref a0), some (J x1), o2, some (J (t1 * t0)), o4, o5] [] S (mI M) Q) (k2 : 0 < (M b2 x1.toNat) → X E d fX6_wear 39 [some (.ref a0), some (J x1), o2, some (J (t1 * t0)), o4, o5] [] S (mI M) Q) : X E d fX6_wear 28 [some (.ref a0), some (J x1), o2, o3, o4, o5] [J t0, J t1] S (mI M) Q := by
  refine X_imul 29 (by decide +kernel : decode cX6_wear 28 = .ok (.imul, 1)) rfl rfl ?_
  refine X_istore_n 30 (by decide +kernel : decode cX6_wear 29 = .ok (.istore_n 3, 1)) rfl rfl (Nat.le_of_ble_eq_true rfl) rfl ?_
  refine X_aload_n 31 (by decide +kernel : decode cX6_wear 30 = .ok (.aload_n 0, 1)) rfl rfl rfl ?_
  refine X_getR 34 (by decide +kernel : decode cX6_wear 31 = .ok (.getfield 36, 3)) rfl rfl (by decide +kernel : aFd 8 36 = some (8, 12, true, true)) g1 p3 ?_
  refine X_iload_n 35 (by decide +kernel : decode cX6_wear 34 = .ok (.iload_n 1, 1)) rfl rfl rfl ?_
  refine X_iald 36 (by decide +kernel : decode cX6_wear 35 = .ok (.iaload, 1)) rfl rfl g4 r5 h6 ?_
  exact X_ifle 50 39 (by decide +kernel : decode cX6_wear 36 = .ok (.ifCond .le 14, 3)) rfl rfl (by decide) r7 k1 k2
theorem kX6_wear_39 {a0 : Nat} {x1 : Int} {o2 : Option Value} {x3 : Int} {o4 : Option Value} {o5 : Option Value} {b2 : Nat} (g1 : aKd S a0 = 8) (p3 : aP S a0 12 = some b2) (g4 : aKd S b2 = 100) (r5 : R32 x1) (h6 : (0 : Int) ≤ x1 ∧ x1 < (aN S b2 : Int)) (r7 : R32 x3) (r8 : R32 (M b2 x1.toNat)) (h9 : (M b2 x1.toNat) ≠ 0) (k : X E d fX6_wear 51 [some (.ref a0), some (J x1), o2, some (J x3), o4, o5] [J (x3.tdiv (M b2 x1.toNat))] S (mI M) Q) : X E d fX6_wear 39 [some (.ref a0), some (J x1), o2, some (J x3), o4, o5] [] S (mI M) Q := by
  refine X_iload_n 40 (by decide +kernel : decode cX6_wear 39 = .ok (.iload_n 3, 1)) rfl rfl rfl ?_
  refine X_aload_n 41 (by decide +kernel : decode cX6_wear 40 = .ok (.aload_n 0, 1)) rfl rfl rfl ?_
  refine X_getR 44 (by decide +kernel : decode cX6_wear 41 = .ok (.getfield 36, 3)) rfl rfl (by decide +kernel : aFd 8 36 = some (8, 12, true, true)) g1 p3 ?_
  refine X_iload_n 45 (by decide +kernel : decode cX6_wear 44 = .ok (.iload_n 1, 1)) rfl rfl rfl ?_
  refine X_iald 46 (by decide +kernel : decode cX6_wear 45 = .ok (.iaload, 1)) rfl rfl g4 r5 h6 ?_
  refine X_idivW 47 (by decide +kernel : decode cX6_wear 46 = .ok (.idiv, 1)) rfl rfl r7 r8 h9 ?_
  exact X_goto 51 (by decide +kernel : decode cX6_wear 47 = .ok (.goto 4, 3)) rfl (by decide) k
theorem kX6_wear_50 {o0 : Option Value} {o1 : Option Value} {o2 : Option Value} {o3 : Option Value} {o4 : Option Value} {o5 : Option Value} (k : X E d fX6_wear 51 [o0, o1, o2, o3, o4, o5] [J 0] S (mI M) Q) : X E d fX6_wear 50 [o0, o1, o2, o3, o4, o5] [] S (mI M) Q := by
  refine X_iconst 51 (by decide +kernel : decode cX6_wear 50 = .ok (.iconst 0, 1)) rfl rfl ?_
  exact k
theorem kX6_wear_51 {a0 : Nat} {o1 : Option Value} {x2 : Int} {o3 : Option Value} {o4 : Option Value} {o5 : Option Value} {t0 : Int} {b2 : Nat} {b19 : Nat} {M_27 : Nat → Nat → Int} (g1 : aKd S a0 = 8) (p3 : aP S a0 4 = some b2) (g4 : aKd S b2 = 100) (r5 : R32 x2) (h6 : (0 : Int) ≤ x2 ∧ x2 < (aN S b2 : Int)) (r7 : R32 t0) (r8 : R32 (M b2 x2.toNat)) (g15 : aK S b2 = 100) (p20 : aP S a0 5 = some b19) (g21 : aKd S b19 = 100) (h23 : (0 : Int) ≤ x2 ∧ x2 < (aN S b19 : Int)) (g24 : aK S b19 = 100) (eM_27 : mW (mW M b2 x2.toNat (nz ((M b2 x2.toNat) - (min t0 (M b2 x2.toNat))))) b19 x2.toNat (nz (((mW M b2 x2.toNat (nz ((M b2 x2.toNat) - (min t0 (M b2 x2.toNat))))) b19 x2.toNat) + (min t0 (M b2 x2.toNat)))) = M_27) (q : Q (some none) S (mI M_27)) : X E d fX6_wear 51 [some (.ref a0), o1, some (J x2), o3, o4, o5] [J t0] S (mI M) Q := by
  refine X_istore 53 (by decide +kernel : decode cX6_wear 51 = .ok (.istore 4, 2)) rfl rfl (Nat.le_of_ble_eq_true rfl) rfl ?_
  refine X_iload 55 (by decide +kernel : decode cX6_wear 53 = .ok (.iload 4, 2)) rfl rfl rfl ?_
  refine X_aload_n 56 (by decide +kernel : decode cX6_wear 55 = .ok (.aload_n 0, 1)) rfl rfl rfl ?_
  refine X_getR 59 (by decide +kernel : decode cX6_wear 56 = .ok (.getfield 9, 3)) rfl rfl (by decide +kernel : aFd 8 9 = some (8, 4, true, true)) g1 p3 ?_
  refine X_iload_n 60 (by decide +kernel : decode cX6_wear 59 = .ok (.iload_n 2, 1)) rfl rfl rfl ?_
  refine X_iald 61 (by decide +kernel : decode cX6_wear 60 = .ok (.iaload, 1)) rfl rfl g4 r5 h6 ?_
  refine X_math (z := 0) 64 (by decide +kernel : decode cX6_wear 61 = .ok (.invokestatic 118, 3)) rfl rfl rfl rfl (by decide) r7 r8 (Nat.le_of_ble_eq_true rfl) ?_
  refine X_istore 66 (by decide +kernel : decode cX6_wear 64 = .ok (.istore 5, 2)) rfl rfl (Nat.le_of_ble_eq_true rfl) rfl ?_
  refine X_aload_n 67 (by decide +kernel : decode cX6_wear 66 = .ok (.aload_n 0, 1)) rfl rfl rfl ?_
  refine X_getR 70 (by decide +kernel : decode cX6_wear 67 = .ok (.getfield 9, 3)) rfl rfl (by decide +kernel : aFd 8 9 = some (8, 4, true, true)) g1 p3 ?_
  refine X_iload_n 71 (by decide +kernel : decode cX6_wear 70 = .ok (.iload_n 2, 1)) rfl rfl rfl ?_
  refine X_dup2 72 (by decide +kernel : decode cX6_wear 71 = .ok (.dup2, 1)) rfl rfl rfl rfl ?_
  refine X_iald 73 (by decide +kernel : decode cX6_wear 72 = .ok (.iaload, 1)) rfl rfl g4 r5 h6 ?_
  refine X_iload 75 (by decide +kernel : decode cX6_wear 73 = .ok (.iload 5, 2)) rfl rfl rfl ?_
  refine X_isub 76 (by decide +kernel : decode cX6_wear 75 = .ok (.isub, 1)) rfl rfl ?_
  refine X_iastz 77 (by decide +kernel : decode cX6_wear 76 = .ok (.iastore, 1)) rfl rfl g15 r5 h6 ?_
  refine X_aload_n 78 (by decide +kernel : decode cX6_wear 77 = .ok (.aload_n 0, 1)) rfl rfl rfl ?_
  refine X_getR 81 (by decide +kernel : decode cX6_wear 78 = .ok (.getfield 15, 3)) rfl rfl (by decide +kernel : aFd 8 15 = some (8, 5, true, true)) g1 p20 ?_
  refine X_iload_n 82 (by decide +kernel : decode cX6_wear 81 = .ok (.iload_n 2, 1)) rfl rfl rfl ?_
  refine X_dup2 83 (by decide +kernel : decode cX6_wear 82 = .ok (.dup2, 1)) rfl rfl rfl rfl ?_
  refine X_iald 84 (by decide +kernel : decode cX6_wear 83 = .ok (.iaload, 1)) rfl rfl g21 r5 h23 ?_
  refine X_iload 86 (by decide +kernel : decode cX6_wear 84 = .ok (.iload 5, 2)) rfl rfl rfl ?_
  refine X_iadd 87 (by decide +kernel : decode cX6_wear 86 = .ok (.iadd, 1)) rfl rfl ?_
  refine X_iastz 88 (by decide +kernel : decode cX6_wear 87 = .ok (.iastore, 1)) rfl rfl g24 r5 h23 ?_
  show X E d fX6_wear 88 [some (.ref a0), o1, some (J x2), o3, some (J t0), some (J (min t0 (M b2 x2.toNat)))] [] S (mI (mW (mW M b2 x2.toNat (nz ((M b2 x2.toNat) - (min t0 (M b2 x2.toNat))))) b19 x2.toNat (nz (((mW M b2 x2.toNat (nz ((M b2 x2.toNat) - (min t0 (M b2 x2.toNat))))) b19 x2.toNat) + (min t0 (M b2 x2.toNat)))))) Q
  rw [eM_27]
  exact X_vret (by decide +kernel : decode cX6_wear 88 = .ok (.return_, 1)) rfl rfl q
theorem kX6_letGo_0 {a0 : Nat} {o1 : Option Value} {o2 : Option Value} {o3 : Option Value} {o4 : Option Value} {o5 : Option Value} {b2 : Nat} {b5 : Nat} (g1 : aKd S a0 = 8) (p3 : aP S a0 13 = some b2) (p6 : aP S a0 1 = some b5) (g7 : aKd S b5 = 5) (hd1 : 1 ≤ d) (k : X E (d - 1) fX7_sumOf 0 [some (.ref b2), some (J (M b5 3)), none, none] [] S (mI M) (Kr E d fX6_letGo 14 [some (.ref a0), o1, o2, o3, o4, o5] [] Q)) : X E d fX6_letGo 0 [some (.ref a0), o1, o2, o3, o4, o5] [] S (mI M) Q := by
  refine X_aload_n 1 (by decide +kernel : decode cX6_letGo 0 = .ok (.aload_n 0, 1)) rfl rfl rfl ?_
  refine X_getR 4 (by decide +kernel : decode cX6_letGo 1 = .ok (.getfield 39, 3)) rfl rfl (by decide +kernel : aFd 8 39 = some (8, 13, true, true)) g1 p3 ?_
  refine X_aload_n 5 (by decide +kernel : decode cX6_letGo 4 = .ok (.aload_n 0, 1)) rfl rfl rfl ?_
  refine X_getR 8 (by decide +kernel : decode cX6_letGo 5 = .ok (.getfield 52, 3)) rfl rfl (by decide +kernel : aFd 8 52 = some (8, 1, true, false)) g1 p6 ?_
  refine X_getI 11 (by decide +kernel : decode cX6_letGo 8 = .ok (.getfield 123, 3)) rfl rfl (by decide +kernel : aFd 8 123 = some (5, 3, false, false)) g7 ?_
  exact X_cs (as := [J (M b5 3), .ref b2]) (rest := []) (by decide +kernel : decode cX6_letGo 11 = .ok (.invokestatic 86, 3)) rfl rfl rfl rfl rfl rfl rfl (Nat.le_of_ble_eq_true rfl) hd1 k
theorem kX6_letGo_14 {o0 : Option Value} {o1 : Option Value} {o2 : Option Value} {o3 : Option Value} {o4 : Option Value} {o5 : Option Value} {t0 : Int} (k : X E d fX6_letGo 17 [o0, o1, some (J t0), some (J 0), o4, o5] [] S (mI M) Q) : X E d fX6_letGo 14 [o0, o1, o2, o3, o4, o5] [J t0] S (mI M) Q := by
  refine X_istore_n 15 (by decide +kernel : decode cX6_letGo 14 = .ok (.istore_n 2, 1)) rfl rfl (Nat.le_of_ble_eq_true rfl) rfl ?_
  refine X_iconst 16 (by decide +kernel : decode cX6_letGo 15 = .ok (.iconst 0, 1)) rfl rfl ?_
  refine X_istore_n 17 (by decide +kernel : decode cX6_letGo 16 = .ok (.istore_n 3, 1)) rfl rfl (Nat.le_of_ble_eq_true rfl) rfl ?_
  exact k
theorem kX6_letGo_17 {o0 : Option Value} {x1 : Int} {o2 : Option Value} {x3 : Int} {o4 : Option Value} {o5 : Option Value} (r1 : R32 x3) (r2 : R32 x1) (k1 : x1 ≤ x3 → X E d fX6_letGo 109 [o0, some (J x1), o2, some (J x3), o4, o5] [] S (mI M) Q) (k2 : x3 < x1 → X E d fX6_letGo 22 [o0, some (J x1), o2, some (J x3), o4, o5] [] S (mI M) Q) : X E d fX6_letGo 17 [o0, some (J x1), o2, some (J x3), o4, o5] [] S (mI M) Q := by
  refine X_iload_n 18 (by decide +kernel : decode cX6_letGo 17 = .ok (.iload_n 3, 1)) rfl rfl rfl ?_
  refine X_iload_n 19 (by decide +kernel : decode cX6_letGo 18 = .ok (.iload_n 1, 1)) rfl rfl rfl ?_
  exact X_icmpge 109 22 (by decide +kernel : decode cX6_letGo 19 = .ok (.if_icmp .ge 90, 3)) rfl rfl (by decide) r1 r2 k1 k2
theorem kX6_letGo_22 {a0 : Nat} {o1 : Option Value} {o2 : Option Value} {o3 : Option Value} {o4 : Option Value} {o5 : Option Value} (hd1 : 1 ≤ d) (k : X E (d - 1) fX6_farmOut 0 [some (.ref a0), none] [] S (mI M) (Kr E d fX6_letGo 26 [some (.ref a0), o1, o2, o3, o4, o5] [] Q)) (g1 : aKd S a0 = 8) : X E d fX6_letGo 22 [some (.ref a0), o1, o2, o3, o4, o5] [] S (mI M) Q := by
  refine X_aload_n 23 (by decide +kernel : decode cX6_letGo 22 = .ok (.aload_n 0, 1)) rfl rfl rfl ?_
  exact X_cv (as := []) (rest := []) (by decide +kernel : decode cX6_letGo 23 = .ok (.invokevirtual 126, 3)) (Or.inl ⟨rfl, rfl, rfl⟩) rfl rfl rfl rfl rfl (Nat.le_of_ble_eq_true rfl) (Or.inr (Or.inr (by rw [g1]; rfl))) hd1 k
theorem kX6_letGo_26 {o0 : Option Value} {o1 : Option Value} {o2 : Option Value} {o3 : Option Value} {o4 : Option Value} {o5 : Option Value} (k : X E d fX6_letGo 29 [o0, o1, o2, o3, some (J 0), o5] [] S (mI M) Q) : X E d fX6_letGo 26 [o0, o1, o2, o3, o4, o5] [] S (mI M) Q := by
  refine X_iconst 27 (by decide +kernel : decode cX6_letGo 26 = .ok (.iconst 0, 1)) rfl rfl ?_
  refine X_istore 29 (by decide +kernel : decode cX6_letGo 27 = .ok (.istore 4, 2)) rfl rfl (Nat.le_of_ble_eq_true rfl) rfl ?_
  exact k
theorem kX6_letGo_29 {a0 : Nat} {o1 : Option Value} {o2 : Option Value} {o3 : Option Value} {x4 : Int} {o5 : Option Value} {b2 : Nat} (g1 : aKd S a0 = 8) (p3 : aP S a0 1 = some b2) (g4 : aKd S b2 = 5) (r5 : R32 x4) (r6 : R32 (M b2 3)) (k1 : (M b2 3) ≤ x4 → X E d fX6_letGo 81 [some (.ref a0), o1, o2, o3, some (J x4), o5] [] S (mI M) Q) (k2 : x4 < (M b2 3) → X E d fX6_letGo 41 [some (.ref a0), o1, o2, o3, some (J x4), o5] [] S (mI M) Q) : X E d fX6_letGo 29 [some (.ref a0), o1, o2, o3, some (J x4), o5] [] S (mI M) Q := by
  refine X_iload 31 (by decide +kernel : decode cX6_letGo 29 = .ok (.iload 4, 2)) rfl rfl rfl ?_
  refine X_aload_n 32 (by decide +kernel : decode cX6_letGo 31 = .ok (.aload_n 0, 1)) rfl rfl rfl ?_
  refine X_getR 35 (by decide +kernel : decode cX6_letGo 32 = .ok (.getfield 52, 3)) rfl rfl (by decide +kernel : aFd 8 52 = some (8, 1, true, false)) g1 p3 ?_
  refine X_getI 38 (by decide +kernel : decode cX6_letGo 35 = .ok (.getfield 123, 3)) rfl rfl (by decide +kernel : aFd 8 123 = some (5, 3, false, false)) g4 ?_
  exact X_icmpge 81 41 (by decide +kernel : decode cX6_letGo 38 = .ok (.if_icmp .ge 43, 3)) rfl rfl (by decide) r5 r6 k1 k2
theorem kX6_letGo_41 {a0 : Nat} {o1 : Option Value} {o2 : Option Value} {o3 : Option Value} {x4 : Int} {o5 : Option Value} {b2 : Nat} {b5 : Nat} (g1 : aKd S a0 = 8) (p3 : aP S a0 1 = some b2) (g4 : aKd S b2 = 5) (p6 : aP S b2 14 = some b5) (g7 : aKd S b5 = 100) (r8 : R32 x4) (h9 : (0 : Int) ≤ x4 ∧ x4 < (aN S b5 : Int)) (r10 : R32 (M b5 x4.toNat)) (k1 : (M b5 x4.toNat) ≤ 0 → X E d fX6_letGo 75 [some (.ref a0), o1, o2, o3, some (J x4), some (J (M b5 x4.toNat))] [] S (mI M) Q) (k2 : 0 < (M b5 x4.toNat) → X E d fX6_letGo 58 [some (.ref a0), o1, o2, o3, some (J x4), some (J (M b5 x4.toNat))] [] S (mI M) Q) : X E d fX6_letGo 41 [some (.ref a0), o1, o2, o3, some (J x4), o5] [] S (mI M) Q := by
  refine X_aload_n 42 (by decide +kernel : decode cX6_letGo 41 = .ok (.aload_n 0, 1)) rfl rfl rfl ?_
  refine X_getR 45 (by decide +kernel : decode cX6_letGo 42 = .ok (.getfield 52, 3)) rfl rfl (by decide +kernel : aFd 8 52 = some (8, 1, true, false)) g1 p3 ?_
  refine X_getR 48 (by decide +kernel : decode cX6_letGo 45 = .ok (.getfield 129, 3)) rfl rfl (by decide +kernel : aFd 8 129 = some (5, 14, true, true)) g4 p6 ?_
  refine X_iload 50 (by decide +kernel : decode cX6_letGo 48 = .ok (.iload 4, 2)) rfl rfl rfl ?_
  refine X_iald 51 (by decide +kernel : decode cX6_letGo 50 = .ok (.iaload, 1)) rfl rfl g7 r8 h9 ?_
  refine X_istore 53 (by decide +kernel : decode cX6_letGo 51 = .ok (.istore 5, 2)) rfl rfl (Nat.le_of_ble_eq_true rfl) rfl ?_
  refine X_iload 55 (by decide +kernel : decode cX6_letGo 53 = .ok (.iload 5, 2)) rfl rfl rfl ?_
  exact X_ifle 75 58 (by decide +kernel : decode cX6_letGo 55 = .ok (.ifCond .le 20, 3)) rfl rfl (by decide) r10 k1 k2
theorem kX6_letGo_58 {a0 : Nat} {o1 : Option Value} {o2 : Option Value} {o3 : Option Value} {o4 : Option Value} {x5 : Int} (g1 : aKd S a0 = 8) (r2 : R32 (M a0 2)) (r3 : R32 x5) (h4 : x5 ≠ 0) (r5 : R32 ((M a0 2).tmod x5)) (k1 : ((M a0 2).tmod x5) ≠ 0 → X E d fX6_letGo 75 [some (.ref a0), o1, o2, o3, o4, some (J x5)] [] S (mI M) Q) (k2 : ((M a0 2).tmod x5) = 0 → X E d fX6_letGo 68 [some (.ref a0), o1, o2, o3, o4, some (J x5)] [] S (mI M) Q) : X E d fX6_letGo 58 [some (.ref a0), o1, o2, o3, o4, some (J x5)] [] S (mI M) Q := by
  refine X_aload_n 59 (by decide +kernel : decode cX6_letGo 58 = .ok (.aload_n 0, 1)) rfl rfl rfl ?_
  refine X_getI 62 (by decide +kernel : decode cX6_letGo 59 = .ok (.getfield 71, 3)) rfl rfl (by decide +kernel : aFd 8 71 = some (8, 2, false, false)) g1 ?_
  refine X_iload 64 (by decide +kernel : decode cX6_letGo 62 = .ok (.iload 5, 2)) rfl rfl rfl ?_
  refine X_iremW 65 (by decide +kernel : decode cX6_letGo 64 = .ok (.irem, 1)) rfl rfl r2 r3 h4 ?_
  exact X_ifne 75 68 (by decide +kernel : decode cX6_letGo 65 = .ok (.ifCond .ne 10, 3)) rfl rfl (by decide) r5 k1 k2
theorem kX6_letGo_68 {a0 : Nat} {o1 : Option Value} {o2 : Option Value} {o3 : Option Value} {x4 : Int} {o5 : Option Value} (hd1 : 1 ≤ d) (k : X E (d - 1) fX6_travel 0 [some (.ref a0), some (J x4), none, none, none, none, none] [] S (mI M) (Kr E d fX6_letGo 74 [some (.ref a0), o1, o2, o3, some (J x4), o5] [] Q)) (g1 : aKd S a0 = 8) : X E d fX6_letGo 68 [some (.ref a0), o1, o2, o3, some (J x4), o5] [] S (mI M) Q := by
  refine X_aload_n 69 (by decide +kernel : decode cX6_letGo 68 = .ok (.aload_n 0, 1)) rfl rfl rfl ?_
  refine X_iload 71 (by decide +kernel : decode cX6_letGo 69 = .ok (.iload 4, 2)) rfl rfl rfl ?_
  exact X_cv (as := [J x4]) (rest := []) (by decide +kernel : decode cX6_letGo 71 = .ok (.invokevirtual 132, 3)) (Or.inl ⟨rfl, rfl, rfl⟩) rfl rfl rfl rfl rfl (Nat.le_of_ble_eq_true rfl) (Or.inr (Or.inr (by rw [g1]; rfl))) hd1 k
theorem kX6_letGo_74 {o0 : Option Value} {o1 : Option Value} {o2 : Option Value} {o3 : Option Value} {o4 : Option Value} {o5 : Option Value} {t0 : Int} (k : X E d fX6_letGo 75 [o0, o1, o2, o3, o4, o5] [] S (mI M) Q) : X E d fX6_letGo 74 [o0, o1, o2, o3, o4, o5] [J t0] S (mI M) Q := by
  refine X_pop 75 (by decide +kernel : decode cX6_letGo 74 = .ok (.pop, 1)) rfl rfl rfl ?_
  exact k
theorem kX6_letGo_75 {o0 : Option Value} {o1 : Option Value} {o2 : Option Value} {o3 : Option Value} {x4 : Int} {o5 : Option Value} (k : X E d fX6_letGo 29 [o0, o1, o2, o3, some (J (x4 + 1)), o5] [] S (mI M) Q) : X E d fX6_letGo 75 [o0, o1, o2, o3, some (J x4), o5] [] S (mI M) Q := by
  refine X_iinc 78 (by decide +kernel : decode cX6_letGo 75 = .ok (.iinc 4 1, 3)) rfl rfl rfl rfl ?_
  exact X_goto 29 (by decide +kernel : decode cX6_letGo 78 = .ok (.goto (-49), 3)) rfl (by decide) k
theorem kX6_letGo_81 {a0 : Nat} {o1 : Option Value} {o2 : Option Value} {o3 : Option Value} {o4 : Option Value} {o5 : Option Value} (hd1 : 1 ≤ d) (k : X E (d - 1) fX6_settleRents 0 [some (.ref a0), none] [] S (mI M) (Kr E d fX6_letGo 85 [some (.ref a0), o1, o2, o3, o4, o5] [] Q)) (g1 : aKd S a0 = 8) : X E d fX6_letGo 81 [some (.ref a0), o1, o2, o3, o4, o5] [] S (mI M) Q := by
  refine X_aload_n 82 (by decide +kernel : decode cX6_letGo 81 = .ok (.aload_n 0, 1)) rfl rfl rfl ?_
  exact X_cv (as := []) (rest := []) (by decide +kernel : decode cX6_letGo 82 = .ok (.invokevirtual 135, 3)) (Or.inl ⟨rfl, rfl, rfl⟩) rfl rfl rfl rfl rfl (Nat.le_of_ble_eq_true rfl) (Or.inr (Or.inr (by rw [g1]; rfl))) hd1 k
theorem kX6_letGo_85 {a0 : Nat} {o1 : Option Value} {o2 : Option Value} {o3 : Option Value} {o4 : Option Value} {o5 : Option Value} (hd1 : 1 ≤ d) (k : X E (d - 1) fX6_mendByOrders 0 [some (.ref a0), none, none, none, none] [] S (mI M) (Kr E d fX6_letGo 89 [some (.ref a0), o1, o2, o3, o4, o5] [] Q)) (g1 : aKd S a0 = 8) : X E d fX6_letGo 85 [some (.ref a0), o1, o2, o3, o4, o5] [] S (mI M) Q := by
  refine X_aload_n 86 (by decide +kernel : decode cX6_letGo 85 = .ok (.aload_n 0, 1)) rfl rfl rfl ?_
  exact X_cv (as := []) (rest := []) (by decide +kernel : decode cX6_letGo 86 = .ok (.invokevirtual 138, 3)) (Or.inl ⟨rfl, rfl, rfl⟩) rfl rfl rfl rfl rfl (Nat.le_of_ble_eq_true rfl) (Or.inr (Or.inr (by rw [g1]; rfl))) hd1 k
theorem kX6_letGo_89 {a0 : Nat} {o1 : Option Value} {o2 : Option Value} {o3 : Option Value} {o4 : Option Value} {o5 : Option Value} (g1 : aKd S a0 = 8) (g2 : aK S a0 = 8) (hd1 : 1 ≤ d) (k : X E (d - 1) fX6_keepCoinsInBounds 0 [some (.ref a0)] [] S (mI (mW M a0 2 (nz ((M a0 2) + 1)))) (Kr E d fX6_letGo 103 [some (.ref a0), o1, o2, o3, o4, o5] [] Q)) : X E d fX6_letGo 89 [some (.ref a0), o1, o2, o3, o4, o5] [] S (mI M) Q := by
  refine X_aload_n 90 (by decide +kernel : decode cX6_letGo 89 = .ok (.aload_n 0, 1)) rfl rfl rfl ?_
  refine X_dup 91 (by decide +kernel : decode cX6_letGo 90 = .ok (.dup, 1)) rfl rfl rfl ?_
  refine X_getI 94 (by decide +kernel : decode cX6_letGo 91 = .ok (.getfield 71, 3)) rfl rfl (by decide +kernel : aFd 8 71 = some (8, 2, false, false)) g1 ?_
  refine X_iconst 95 (by decide +kernel : decode cX6_letGo 94 = .ok (.iconst 1, 1)) rfl rfl ?_
  refine X_iadd 96 (by decide +kernel : decode cX6_letGo 95 = .ok (.iadd, 1)) rfl rfl ?_
  refine X_putIz 99 (by decide +kernel : decode cX6_letGo 96 = .ok (.putfield 71, 3)) rfl rfl (by decide +kernel : aFd 8 71 = some (8, 2, false, false)) (Or.inl rfl) g2 rfl rfl ?_
  refine X_aload_n 100 (by decide +kernel : decode cX6_letGo 99 = .ok (.aload_n 0, 1)) rfl rfl rfl ?_
  exact X_cv (as := []) (rest := []) (by decide +kernel : decode cX6_letGo 100 = .ok (.invokevirtual 141, 3)) (Or.inl ⟨rfl, rfl, rfl⟩) rfl rfl rfl rfl rfl (Nat.le_of_ble_eq_true rfl) (Or.inr (Or.inr (by rw [g1]; rfl))) hd1 k
theorem kX6_letGo_103 {o0 : Option Value} {o1 : Option Value} {o2 : Option Value} {x3 : Int} {o4 : Option Value} {o5 : Option Value} (k : X E d fX6_letGo 17 [o0, o1, o2, some (J (x3 + 1)), o4, o5] [] S (mI M) Q) : X E d fX6_letGo 103 [o0, o1, o2, some (J x3), o4, o5] [] S (mI M) Q := by
  refine X_iinc 106 (by decide +kernel : decode cX6_letGo 103 = .ok (.iinc 3 1, 3)) rfl rfl rfl rfl ?_
  exact X_goto 17 (by decide +kernel : decode cX6_letGo 106 = .ok (.goto (-89), 3)) rfl (by decide) k
theorem kX6_letGo_109 {a0 : Nat} {o1 : Option Value} {o2 : Option Value} {o3 : Option Value} {o4 : Option Value} {o5 : Option Value} {b2 : Nat} {b5 : Nat} (g1 : aKd S a0 = 8) (p3 : aP S a0 13 = some b2) (p6 : aP S a0 1 = some b5) (g7 : aKd S b5 = 5) (hd1 : 1 ≤ d) (k : X E (d - 1) fX7_sumOf 0 [some (.ref b2), some (J (M b5 3)), none, none] [] S (mI M) (Kr E d fX6_letGo 123 [some (.ref a0), o1, o2, o3, o4, o5] [] Q)) : X E d fX6_letGo 109 [some (.ref a0), o1, o2, o3, o4, o5] [] S (mI M) Q := by
  refine X_aload_n 110 (by decide +kernel : decode cX6_letGo 109 = .ok (.aload_n 0, 1)) rfl rfl rfl ?_
  refine X_getR 113 (by decide +kernel : decode cX6_letGo 110 = .ok (.getfield 39, 3)) rfl rfl (by decide +kernel : aFd 8 39 = some (8, 13, true, true)) g1 p3 ?_
  refine X_aload_n 114 (by decide +kernel : decode cX6_letGo 113 = .ok (.aload_n 0, 1)) rfl rfl rfl ?_
  refine X_getR 117 (by decide +kernel : decode cX6_letGo 114 = .ok (.getfield 52, 3)) rfl rfl (by decide +kernel : aFd 8 52 = some (8, 1, true, false)) g1 p6 ?_
  refine X_getI 120 (by decide +kernel : decode cX6_letGo 117 = .ok (.getfield 123, 3)) rfl rfl (by decide +kernel : aFd 8 123 = some (5, 3, false, false)) g7 ?_
  exact X_cs (as := [J (M b5 3), .ref b2]) (rest := []) (by decide +kernel : decode cX6_letGo 120 = .ok (.invokestatic 86, 3)) rfl rfl rfl rfl rfl rfl rfl (Nat.le_of_ble_eq_true rfl) hd1 k
theorem kX6_letGo_123 {o0 : Option Value} {o1 : Option Value} {x2 : Int} {o3 : Option Value} {o4 : Option Value} {o5 : Option Value} {t0 : Int} (q : Q (some (some (J (t0 - x2)))) S (mI M)) : X E d fX6_letGo 123 [o0, o1, some (J x2), o3, o4, o5] [J t0] S (mI M) Q := by
  refine X_iload_n 124 (by decide +kernel : decode cX6_letGo 123 = .ok (.iload_n 2, 1)) rfl rfl rfl ?_
  refine X_isub 125 (by decide +kernel : decode cX6_letGo 124 = .ok (.isub, 1)) rfl rfl ?_
  exact X_iret (by decide +kernel : decode cX6_letGo 125 = .ok (.ireturn, 1)) rfl rfl rfl q
theorem kX6_farmOut_0 {o0 : Option Value} {o1 : Option Value} (k : X E d fX6_farmOut 2 [o0, some (J 0)] [] S (mI M) Q) : X E d fX6_farmOut 0 [o0, o1] [] S (mI M) Q := by
  refine X_iconst 1 (by decide +kernel : decode cX6_farmOut 0 = .ok (.iconst 0, 1)) rfl rfl ?_
  refine X_istore_n 2 (by decide +kernel : decode cX6_farmOut 1 = .ok (.istore_n 1, 1)) rfl rfl (Nat.le_of_ble_eq_true rfl) rfl ?_
  exact k
theorem kX6_farmOut_2 {a0 : Nat} {x1 : Int} {b2 : Nat} (g1 : aKd S a0 = 8) (p3 : aP S a0 1 = some b2) (g4 : aKd S b2 = 5) (r5 : R32 x1) (r6 : R32 (M b2 2)) (k1 : (M b2 2) ≤ x1 → X E d fX6_farmOut 52 [some (.ref a0), some (J x1)] [] S (mI M) Q) (k2 : x1 < (M b2 2) → X E d fX6_farmOut 13 [some (.ref a0), some (J x1)] [] S (mI M) Q) : X E d fX6_farmOut 2 [some (.ref a0), some (J x1)] [] S (mI M) Q := by
  refine X_iload_n 3 (by decide +kernel : decode cX6_farmOut 2 = .ok (.iload_n 1, 1)) rfl rfl rfl ?_
  refine X_aload_n 4 (by decide +kernel : decode cX6_farmOut 3 = .ok (.aload_n 0, 1)) rfl rfl rfl ?_
  refine X_getR 7 (by decide +kernel : decode cX6_farmOut 4 = .ok (.getfield 52, 3)) rfl rfl (by decide +kernel : aFd 8 52 = some (8, 1, true, false)) g1 p3 ?_
  refine X_getI 10 (by decide +kernel : decode cX6_farmOut 7 = .ok (.getfield 94, 3)) rfl rfl (by decide +kernel : aFd 8 94 = some (5, 2, false, false)) g4 ?_
  exact X_icmpge 52 13 (by decide +kernel : decode cX6_farmOut 10 = .ok (.if_icmp .ge 42, 3)) rfl rfl (by decide) r5 r6 k1 k2
theorem kX6_farmOut_13 {a0 : Nat} {x1 : Int} {b2 : Nat} (g1 : aKd S a0 = 8) (p3 : aP S a0 10 = some b2) (r5 : R32 x1) (r6 : R32 (M a0 16)) (k1 : x1 ≠ (M a0 16) → X E d fX6_farmOut 33 [some (.ref a0), some (J x1)] [J x1, .ref b2] S (mI M) Q) (k2 : x1 = (M a0 16) → X E d fX6_farmOut 26 [some (.ref a0), some (J x1)] [J x1, .ref b2] S (mI M) Q) : X E d fX6_farmOut 13 [some (.ref a0), some (J x1)] [] S (mI M) Q := by
  refine X_aload_n 14 (by decide +kernel : decode cX6_farmOut 13 = .ok (.aload_n 0, 1)) rfl rfl rfl ?_
  refine X_getR 17 (by decide +kernel : decode cX6_farmOut 14 = .ok (.getfield 30, 3)) rfl rfl (by decide +kernel : aFd 8 30 = some (8, 10, true, true)) g1 p3 ?_
  refine X_iload_n 18 (by decide +kernel : decode cX6_farmOut 17 = .ok (.iload_n 1, 1)) rfl rfl rfl ?_
  refine X_iload_n 19 (by decide +kernel : decode cX6_farmOut 18 = .ok (.iload_n 1, 1)) rfl rfl rfl ?_
  refine X_aload_n 20 (by decide +kernel : decode cX6_farmOut 19 = .ok (.aload_n 0, 1)) rfl rfl rfl ?_
  refine X_getI 23 (by decide +kernel : decode cX6_farmOut 20 = .ok (.getfield 60, 3)) rfl rfl (by decide +kernel : aFd 8 60 = some (8, 16, false, false)) g1 ?_
  exact X_icmpne 33 26 (by decide +kernel : decode cX6_farmOut 23 = .ok (.if_icmp .ne 10, 3)) rfl rfl (by decide) r5 r6 k1 k2
theorem kX6_farmOut_26 {a0 : Nat} {o1 : Option Value} {t0 : Int} {u1 : Nat} (g1 : aKd S a0 = 8) (k : X E d fX6_farmOut 38 [some (.ref a0), o1] [J (M a0 17), J t0, .ref u1] S (mI M) Q) : X E d fX6_farmOut 26 [some (.ref a0), o1] [J t0, .ref u1] S (mI M) Q := by
  refine X_aload_n 27 (by decide +kernel : decode cX6_farmOut 26 = .ok (.aload_n 0, 1)) rfl rfl rfl ?_
  refine X_getI 30 (by decide +kernel : decode cX6_farmOut 27 = .ok (.getfield 74, 3)) rfl rfl (by decide +kernel : aFd 8 74 = some (8, 17, false, false)) g1 ?_
  exact X_goto 38 (by decide +kernel : decode cX6_farmOut 30 = .ok (.goto 8, 3)) rfl (by decide) k
theorem kX6_farmOut_33 {a0 : Nat} {x1 : Int} {t0 : Int} {u1 : Nat} (hd1 : 1 ≤ d) (k : X E (d - 1) fX6_rentByOrders 0 [some (.ref a0), some (J x1), none, none] [] S (mI M) (Kr E d fX6_farmOut 38 [some (.ref a0), some (J x1)] [J t0, .ref u1] Q)) (g1 : aKd S a0 = 8) : X E d fX6_farmOut 33 [some (.ref a0), some (J x1)] [J t0, .ref u1] S (mI M) Q := by
  refine X_aload_n 34 (by decide +kernel : decode cX6_farmOut 33 = .ok (.aload_n 0, 1)) rfl rfl rfl ?_
  refine X_iload_n 35 (by decide +kernel : decode cX6_farmOut 34 = .ok (.iload_n 1, 1)) rfl rfl rfl ?_
  exact X_cv (as := [J x1]) (rest := [J t0, .ref u1]) (by decide +kernel : decode cX6_farmOut 35 = .ok (.invokevirtual 144, 3)) (Or.inl ⟨rfl, rfl, rfl⟩) rfl rfl rfl rfl rfl (Nat.le_of_ble_eq_true rfl) (Or.inr (Or.inr (by rw [g1]; rfl))) hd1 k
theorem kX6_farmOut_38 {a0 : Nat} {x1 : Int} {t0 : Int} {t1 : Int} {u2 : Nat} {b5 : Nat} (g1 : aK S u2 = 100) (r2 : R32 t1) (h3 : (0 : Int) ≤ t1 ∧ t1 < (aN S u2 : Int)) (g4 : aKd S a0 = 8) (p6 : aP S a0 11 = some b5) (g7 : aK S b5 = 100) (r8 : R32 x1) (h9 : (0 : Int) ≤ x1 ∧ x1 < (aN S b5 : Int)) (k : X E d fX6_farmOut 2 [some (.ref a0), some (J (x1 + 1))] [] S (mI (mW (mW M u2 t1.toNat t0) b5 x1.toNat 0)) Q) : X E d fX6_farmOut 38 [some (.ref a0), some (J x1)] [J t0, J t1, .ref u2] S (mI M) Q := by
  refine X_iast 39 (by decide +kernel : decode cX6_farmOut 38 = .ok (.iastore, 1)) rfl rfl g1 r2 h3 ?_
  refine X_aload_n 40 (by decide +kernel : decode cX6_farmOut 39 = .ok (.aload_n 0, 1)) rfl rfl rfl ?_
  refine X_getR 43 (by decide +kernel : decode cX6_farmOut 40 = .ok (.getfield 33, 3)) rfl rfl (by decide +kernel : aFd 8 33 = some (8, 11, true, true)) g4 p6 ?_
  refine X_iload_n 44 (by decide +kernel : decode cX6_farmOut 43 = .ok (.iload_n 1, 1)) rfl rfl rfl ?_
  refine X_iconst 45 (by decide +kernel : decode cX6_farmOut 44 = .ok (.iconst 0, 1)) rfl rfl ?_
  refine X_iast 46 (by decide +kernel : decode cX6_farmOut 45 = .ok (.iastore, 1)) rfl rfl g7 r8 h9 ?_
  refine X_iinc 49 (by decide +kernel : decode cX6_farmOut 46 = .ok (.iinc 1 1, 3)) rfl rfl rfl rfl ?_
  exact X_goto 2 (by decide +kernel : decode cX6_farmOut 49 = .ok (.goto (-47), 3)) rfl (by decide) k
theorem kX6_farmOut_52 {o0 : Option Value} {o1 : Option Value} (q : Q (some none) S (mI M)) : X E d fX6_farmOut 52 [o0, o1] [] S (mI M) Q := by
  exact X_vret (by decide +kernel : decode cX6_farmOut 52 = .ok (.return_, 1)) rfl rfl q
theorem kX6_rentByOrders_0 {a0 : Nat} {o1 : Option Value} {o2 : Option Value} {o3 : Option Value} {b2 : Nat} {b5 : Nat} (g1 : aKd S a0 = 8) (p3 : aP S a0 1 = some b2) (g4 : aKd S b2 = 5) (p6 : aP S b2 15 = some b5) (k : X E d fX6_rentByOrders 10 [some (.ref a0), o1, some (.ref b5), some (J 0)] [] S (mI M) Q) : X E d fX6_rentByOrders 0 [some (.ref a0), o1, o2, o3] [] S (mI M) Q := by
  refine X_aload_n 1 (by decide +kernel : decode cX6_rentByOrders 0 = .ok (.aload_n 0, 1)) rfl rfl rfl ?_
  refine X_getR 4 (by decide +kernel : decode cX6_rentByOrders 1 = .ok (.getfield 52, 3)) rfl rfl (by decide +kernel : aFd 8 52 = some (8, 1, true, false)) g1 p3 ?_
  refine X_getR 7 (by decide +kernel : decode cX6_rentByOrders 4 = .ok (.getfield 147, 3)) rfl rfl (by decide +kernel : aFd 8 147 = some (5, 15, true, true)) g4 p6 ?_
  refine X_astore_n 8 (by decide +kernel : decode cX6_rentByOrders 7 = .ok (.astore_n 2, 1)) rfl rfl (Nat.le_of_ble_eq_true rfl) rfl ?_
  refine X_iconst 9 (by decide +kernel : decode cX6_rentByOrders 8 = .ok (.iconst 0, 1)) rfl rfl ?_
  refine X_istore_n 10 (by decide +kernel : decode cX6_rentByOrders 9 = .ok (.istore_n 3, 1)) rfl rfl (Nat.le_of_ble_eq_true rfl) rfl ?_
  exact k
theorem kX6_rentByOrders_10 {o0 : Option Value} {o1 : Option Value} {a2 : Nat} {x3 : Int} (g1 : aKd S a2 = 3) (r2 : R32 x3) (r3 : R32 (M a2 0)) (k1 : (M a2 0) ≤ x3 → X E d fX6_rentByOrders 75 [o0, o1, some (.ref a2), some (J x3)] [] S (mI M) Q) (k2 : x3 < (M a2 0) → X E d fX6_rentByOrders 18 [o0, o1, some (.ref a2), some (J x3)] [] S (mI M) Q) : X E d fX6_rentByOrders 10 [o0, o1, some (.ref a2), some (J x3)] [] S (mI M) Q := by
  refine X_iload_n 11 (by decide +kernel : decode cX6_rentByOrders 10 = .ok (.iload_n 3, 1)) rfl rfl rfl ?_
  refine X_aload_n 12 (by decide +kernel : decode cX6_rentByOrders 11 = .ok (.aload_n 2, 1)) rfl rfl rfl ?_
  refine X_getI 15 (by decide +kernel : decode cX6_rentByOrders 12 = .ok (.getfield 151, 3)) rfl rfl (by decide +kernel : aFd 8 151 = some (3, 0, false, false)) g1 ?_
  exact X_icmpge 75 18 (by decide +kernel : decode cX6_rentByOrders 15 = .ok (.if_icmp .ge 60, 3)) rfl rfl (by decide) r2 r3 k1 k2
theorem kX6_rentByOrders_18 {o0 : Option Value} {o1 : Option Value} {a2 : Nat} {x3 : Int} {b2 : Nat} (g1 : aKd S a2 = 3) (p3 : aP S a2 1 = some b2) (g4 : aKd S b2 = 100) (r5 : R32 x3) (h6 : (0 : Int) ≤ x3 ∧ x3 < (aN S b2 : Int)) (r7 : R32 (M b2 x3.toNat)) (k1 : (M b2 x3.toNat) ≠ 13 → X E d fX6_rentByOrders 69 [o0, o1, some (.ref a2), some (J x3)] [] S (mI M) Q) (k2 : (M b2 x3.toNat) = 13 → X E d fX6_rentByOrders 29 [o0, o1, some (.ref a2), some (J x3)] [] S (mI M) Q) : X E d fX6_rentByOrders 18 [o0, o1, some (.ref a2), some (J x3)] [] S (mI M) Q := by
  refine X_aload_n 19 (by decide +kernel : decode cX6_rentByOrders 18 = .ok (.aload_n 2, 1)) rfl rfl rfl ?_
  refine X_getR 22 (by decide +kernel : decode cX6_rentByOrders 19 = .ok (.getfield 156, 3)) rfl rfl (by decide +kernel : aFd 8 156 = some (3, 1, true, true)) g1 p3 ?_
  refine X_iload_n 23 (by decide +kernel : decode cX6_rentByOrders 22 = .ok (.iload_n 3, 1)) rfl rfl rfl ?_
  refine X_iald 24 (by decide +kernel : decode cX6_rentByOrders 23 = .ok (.iaload, 1)) rfl rfl g4 r5 h6 ?_
  refine X_bipush 26 (13) (by decide +kernel : decode cX6_rentByOrders 24 = .ok (.bipush 13, 2)) rfl rfl (by decide +kernel) ?_
  exact X_icmpne 69 29 (by decide +kernel : decode cX6_rentByOrders 26 = .ok (.if_icmp .ne 43, 3)) rfl rfl (by decide) r7 ⟨by decide, by decide⟩ k1 k2
theorem kX6_rentByOrders_29 {o0 : Option Value} {x1 : Int} {a2 : Nat} {x3 : Int} {b2 : Nat} (g1 : aKd S a2 = 3) (p3 : aP S a2 3 = some b2) (g4 : aKd S b2 = 100) (r5 : R32 x3) (h6 : (0 : Int) ≤ x3 ∧ x3 < (aN S b2 : Int)) (r7 : R32 (M b2 x3.toNat)) (r8 : R32 x1) (k1 : (M b2 x3.toNat) ≠ x1 → X E d fX6_rentByOrders 69 [o0, some (J x1), some (.ref a2), some (J x3)] [] S (mI M) Q) (k2 : (M b2 x3.toNat) = x1 → X E d fX6_rentByOrders 39 [o0, some (J x1), some (.ref a2), some (J x3)] [] S (mI M) Q) : X E d fX6_rentByOrders 29 [o0, some (J x1), some (.ref a2), some (J x3)] [] S (mI M) Q := by
  refine X_aload_n 30 (by decide +kernel : decode cX6_rentByOrders 29 = .ok (.aload_n 2, 1)) rfl rfl rfl ?_
  refine X_getR 33 (by decide +kernel : decode cX6_rentByOrders 30 = .ok (.getfield 159, 3)) rfl rfl (by decide +kernel : aFd 8 159 = some (3, 3, true, true)) g1 p3 ?_
  refine X_iload_n 34 (by decide +kernel : decode cX6_rentByOrders 33 = .ok (.iload_n 3, 1)) rfl rfl rfl ?_
  refine X_iald 35 (by decide +kernel : decode cX6_rentByOrders 34 = .ok (.iaload, 1)) rfl rfl g4 r5 h6 ?_
  refine X_iload_n 36 (by decide +kernel : decode cX6_rentByOrders 35 = .ok (.iload_n 1, 1)) rfl rfl rfl ?_
  exact X_icmpne 69 39 (by decide +kernel : decode cX6_rentByOrders 36 = .ok (.if_icmp .ne 33, 3)) rfl rfl (by decide) r7 r8 k1 k2
theorem kX6_rentByOrders_39 {a0 : Nat} {o1 : Option Value} {a2 : Nat} {x3 : Int} {b2 : Nat} {b5 : Nat} {b11 : Nat} (g1 : aKd S a0 = 8) (p3 : aP S a0 0 = some b2) (g4 : aKd S a2 = 3) (p6 : aP S a2 6 = some b5) (g7 : aKd S b5 = 100) (r8 : R32 x3) (h9 : (0 : Int) ≤ x3 ∧ x3 < (aN S b5 : Int)) (p12 : aP S a2 7 = some b11) (g13 : aKd S b11 = 100) (h15 : (0 : Int) ≤ x3 ∧ x3 < (aN S b11 : Int)) (hd1 : 1 ≤ d) (k : X E (d - 1) fX2_reckon 0 [some (.ref b2), some (.ref a0), some (J (M b5 x3.toNat)), some (J (M b11 x3.toNat)), none, none, none, none] [] S (mI M) (Kr E d fX6_rentByOrders 59 [some (.ref a0), o1, some (.ref a2), some (J x3)] [] Q)) (g16 : aKd S b2 = 4) : X E d fX6_rentByOrders 39 [some (.ref a0), o1, some (.ref a2), some (J x3)] [] S (mI M) Q := by
  refine X_aload_n 40 (by decide +kernel : decode cX6_rentByOrders 39 = .ok (.aload_n 0, 1)) rfl rfl rfl ?_
  refine X_getR 43 (by decide +kernel : decode cX6_rentByOrders 40 = .ok (.getfield 48, 3)) rfl rfl (by decide +kernel : aFd 8 48 = some (8, 0, true, true)) g1 p3 ?_
  refine X_aload_n 44 (by decide +kernel : decode cX6_rentByOrders 43 = .ok (.aload_n 0, 1)) rfl rfl rfl ?_
  refine X_aload_n 45 (by decide +kernel : decode cX6_rentByOrders 44 = .ok (.aload_n 2, 1)) rfl rfl rfl ?_
  refine X_getR 48 (by decide +kernel : decode cX6_rentByOrders 45 = .ok (.getfield 162, 3)) rfl rfl (by decide +kernel : aFd 8 162 = some (3, 6, true, true)) g4 p6 ?_
  refine X_iload_n 49 (by decide +kernel : decode cX6_rentByOrders 48 = .ok (.iload_n 3, 1)) rfl rfl rfl ?_
  refine X_iald 50 (by decide +kernel : decode cX6_rentByOrders 49 = .ok (.iaload, 1)) rfl rfl g7 r8 h9 ?_
  refine X_aload_n 51 (by decide +kernel : decode cX6_rentByOrders 50 = .ok (.aload_n 2, 1)) rfl rfl rfl ?_
  refine X_getR 54 (by decide +kernel : decode cX6_rentByOrders 51 = .ok (.getfield 165, 3)) rfl rfl (by decide +kernel : aFd 8 165 = some (3, 7, true, true)) g4 p12 ?_
  refine X_iload_n 55 (by decide +kernel : decode cX6_rentByOrders 54 = .ok (.iload_n 3, 1)) rfl rfl rfl ?_
  refine X_iald 56 (by decide +kernel : decode cX6_rentByOrders 55 = .ok (.iaload, 1)) rfl rfl g13 r8 h15 ?_
  exact X_cv (as := [J (M b11 x3.toNat), J (M b5 x3.toNat), .ref a0]) (rest := []) (by decide +kernel : decode cX6_rentByOrders 56 = .ok (.invokevirtual 168, 3)) (Or.inl ⟨rfl, rfl, rfl⟩) rfl rfl rfl rfl rfl (Nat.le_of_ble_eq_true rfl) (Or.inr (Or.inr (by rw [g16]; rfl))) hd1 k
theorem kX6_rentByOrders_59 {o0 : Option Value} {o1 : Option Value} {o2 : Option Value} {o3 : Option Value} {t0 : Int} (r1 : R32 t0) (k1 : t0 = 0 → X E d fX6_rentByOrders 69 [o0, o1, o2, o3] [] S (mI M) Q) (k2 : t0 ≠ 0 → X E d fX6_rentByOrders 62 [o0, o1, o2, o3] [] S (mI M) Q) : X E d fX6_rentByOrders 59 [o0, o1, o2, o3] [J t0] S (mI M) Q := by
  exact X_ifeq 69 62 (by decide +kernel : decode cX6_rentByOrders 59 = .ok (.ifCond .eq 10, 3)) rfl rfl (by decide) r1 k1 k2
theorem kX6_rentByOrders_62 {o0 : Option Value} {o1 : Option Value} {a2 : Nat} {x3 : Int} {b2 : Nat} (g1 : aKd S a2 = 3) (p3 : aP S a2 4 = some b2) (g4 : aKd S b2 = 100) (r5 : R32 x3) (h6 : (0 : Int) ≤ x3 ∧ x3 < (aN S b2 : Int)) (q : Q (some (some (J (M b2 x3.toNat)))) S (mI M)) : X E d fX6_rentByOrders 62 [o0, o1, some (.ref a2), some (J x3)] [] S (mI M) Q := by
  refine X_aload_n 63 (by decide +kernel : decode cX6_rentByOrders 62 = .ok (.aload_n 2, 1)) rfl rfl rfl ?_
  refine X_getR 66 (by decide +kernel : decode cX6_rentByOrders 63 = .ok (.getfield 174, 3)) rfl rfl (by decide +kernel : aFd 8 174 = some (3, 4, true, true)) g1 p3 ?_
  refine X_iload_n 67 (by decide +kernel : decode cX6_rentByOrders 66 = .ok (.iload_n 3, 1)) rfl rfl rfl ?_
  refine X_iald 68 (by decide +kernel : decode cX6_rentByOrders 67 = .ok (.iaload, 1)) rfl rfl g4 r5 h6 ?_
  exact X_iret (by decide +kernel : decode cX6_rentByOrders 68 = .ok (.ireturn, 1)) rfl rfl rfl q
theorem kX6_rentByOrders_69 {o0 : Option Value} {o1 : Option Value} {o2 : Option Value} {x3 : Int} (k : X E d fX6_rentByOrders 10 [o0, o1, o2, some (J (x3 + 1))] [] S (mI M) Q) : X E d fX6_rentByOrders 69 [o0, o1, o2, some (J x3)] [] S (mI M) Q := by
  refine X_iinc 72 (by decide +kernel : decode cX6_rentByOrders 69 = .ok (.iinc 3 1, 3)) rfl rfl rfl rfl ?_
  exact X_goto 10 (by decide +kernel : decode cX6_rentByOrders 72 = .ok (.goto (-62), 3)) rfl (by decide) k
theorem kX6_rentByOrders_75 {o0 : Option Value} {o1 : Option Value} {o2 : Option Value} {o3 : Option Value} (q : Q (some (some (J (-1)))) S (mI M)) : X E d fX6_rentByOrders 75 [o0, o1, o2, o3] [] S (mI M) Q := by
  refine X_iconst 76 (by decide +kernel : decode cX6_rentByOrders 75 = .ok (.iconst (-1), 1)) rfl rfl ?_
  exact X_iret (by decide +kernel : decode cX6_rentByOrders 76 = .ok (.ireturn, 1)) rfl rfl rfl q
theorem kX6_settleRents_0 {o0 : Option Value} {o1 : Option Value} (k : X E d fX6_settleRents 2 [o0, some (J 0)] [] S (mI M) Q) : X E d fX6_settleRents 0 [o0, o1] [] S (mI M) Q := by
  refine X_iconst 1 (by decide +kernel : decode cX6_settleRents 0 = .ok (.iconst 0, 1)) rfl rfl ?_
  refine X_istore_n 2 (by decide +kernel : decode cX6_settleRents 1 = .ok (.istore_n 1, 1)) rfl rfl (Nat.le_of_ble_eq_true rfl) rfl ?_
  exact k
theorem kX6_settleRents_2 {a0 : Nat} {x1 : Int} {b2 : Nat} (g1 : aKd S a0 = 8) (p3 : aP S a0 1 = some b2) (g4 : aKd S b2 = 5) (r5 : R32 x1) (r6 : R32 (M b2 2)) (k1 : (M b2 2) ≤ x1 → X E d fX6_settleRents 66 [some (.ref a0), some (J x1)] [] S (mI M) Q) (k2 : x1 < (M b2 2) → X E d fX6_settleRents 13 [some (.ref a0), some (J x1)] [] S (mI M) Q) : X E d fX6_settleRents 2 [some (.ref a0), some (J x1)] [] S (mI M) Q := by
  refine X_iload_n 3 (by decide +kernel : decode cX6_settleRents 2 = .ok (.iload_n 1, 1)) rfl rfl rfl ?_
  refine X_aload_n 4 (by decide +kernel : decode cX6_settleRents 3 = .ok (.aload_n 0, 1)) rfl rfl rfl ?_
  refine X_getR 7 (by decide +kernel : decode cX6_settleRents 4 = .ok (.getfield 52, 3)) rfl rfl (by decide +kernel : aFd 8 52 = some (8, 1, true, false)) g1 p3 ?_
  refine X_getI 10 (by decide +kernel : decode cX6_settleRents 7 = .ok (.getfield 94, 3)) rfl rfl (by decide +kernel : aFd 8 94 = some (5, 2, false, false)) g4 ?_
  exact X_icmpge 66 13 (by decide +kernel : decode cX6_settleRents 10 = .ok (.if_icmp .ge 56, 3)) rfl rfl (by decide) r5 r6 k1 k2
theorem kX6_settleRents_13 {a0 : Nat} {x1 : Int} {b2 : Nat} (g1 : aKd S a0 = 8) (p3 : aP S a0 10 = some b2) (g4 : aKd S b2 = 100) (r5 : R32 x1) (h6 : (0 : Int) ≤ x1 ∧ x1 < (aN S b2 : Int)) (r7 : R32 (M b2 x1.toNat)) (k1 : (M b2 x1.toNat) = (-1) → X E d fX6_settleRents 60 [some (.ref a0), some (J x1)] [] S (mI M) Q) (k2 : (M b2 x1.toNat) ≠ (-1) → X E d fX6_settleRents 23 [some (.ref a0), some (J x1)] [] S (mI M) Q) : X E d fX6_settleRents 13 [some (.ref a0), some (J x1)] [] S (mI M) Q := by
  refine X_aload_n 14 (by decide +kernel : decode cX6_settleRents 13 = .ok (.aload_n 0, 1)) rfl rfl rfl ?_
  refine X_getR 17 (by decide +kernel : decode cX6_settleRents 14 = .ok (.getfield 30, 3)) rfl rfl (by decide +kernel : aFd 8 30 = some (8, 10, true, true)) g1 p3 ?_
  refine X_iload_n 18 (by decide +kernel : decode cX6_settleRents 17 = .ok (.iload_n 1, 1)) rfl rfl rfl ?_
  refine X_iald 19 (by decide +kernel : decode cX6_settleRents 18 = .ok (.iaload, 1)) rfl rfl g4 r5 h6 ?_
  refine X_iconst 20 (by decide +kernel : decode cX6_settleRents 19 = .ok (.iconst (-1), 1)) rfl rfl ?_
  exact X_icmpeq 60 23 (by decide +kernel : decode cX6_settleRents 20 = .ok (.if_icmp .eq 40, 3)) rfl rfl (by decide) r7 ⟨by decide, by decide⟩ k1 k2
theorem kX6_settleRents_23 {a0 : Nat} {x1 : Int} {b3 : Nat} {b10 : Nat} {b16 : Nat} {M_30 : Nat → Nat → Int} (g1 : aKd S a0 = 8) (p4 : aP S a0 10 = some b3) (g5 : aKd S b3 = 100) (r6 : R32 x1) (h7 : (0 : Int) ≤ x1 ∧ x1 < (aN S b3 : Int)) (g8 : aK S a0 = 8) (p11 : aP S a0 9 = some b10) (g12 : aKd S b10 = 100) (h14 : (0 : Int) ≤ x1 ∧ x1 < (aN S b10 : Int)) (p17 : aP S a0 11 = some b16) (g18 : aKd S b16 = 100) (h20 : (0 : Int) ≤ x1 ∧ x1 < (aN S b16 : Int)) (g27 : aK S b10 = 100) (eM_30 : mW (mW M a0 3 (nz ((M a0 3) + (M b3 x1.toNat)))) b10 x1.toNat (nz (((mW M a0 3 (nz ((M a0 3) + (M b3 x1.toNat)))) b10 x1.toNat) + (((mW M a0 3 (nz ((M a0 3) + (M b3 x1.toNat)))) b16 x1.toNat) - ((mW M a0 3 (nz ((M a0 3) + (M b3 x1.toNat)))) b3 x1.toNat)))) = M_30) (k : X E d fX6_settleRents 60 [some (.ref a0), some (J x1)] [] S (mI M_30) Q) : X E d fX6_settleRents 23 [some (.ref a0), some (J x1)] [] S (mI M) Q := by
  refine X_aload_n 24 (by decide +kernel : decode cX6_settleRents 23 = .ok (.aload_n 0, 1)) rfl rfl rfl ?_
  refine X_dup 25 (by decide +kernel : decode cX6_settleRents 24 = .ok (.dup, 1)) rfl rfl rfl ?_
  refine X_getI 28 (by decide +kernel : decode cX6_settleRents 25 = .ok (.getfield 56, 3)) rfl rfl (by decide +kernel : aFd 8 56 = some (8, 3, false, false)) g1 ?_
  refine X_aload_n 29 (by decide +kernel : decode cX6_settleRents 28 = .ok (.aload_n 0, 1)) rfl rfl rfl ?_
  refine X_getR 32 (by decide +kernel : decode cX6_settleRents 29 = .ok (.getfield 30, 3)) rfl rfl (by decide +kernel : aFd 8 30 = some (8, 10, true, true)) g1 p4 ?_
  refine X_iload_n 33 (by decide +kernel : decode cX6_settleRents 32 = .ok (.iload_n 1, 1)) rfl rfl rfl ?_
  refine X_iald 34 (by decide +kernel : decode cX6_settleRents 33 = .ok (.iaload, 1)) rfl rfl g5 r6 h7 ?_
  refine X_iadd 35 (by decide +kernel : decode cX6_settleRents 34 = .ok (.iadd, 1)) rfl rfl ?_
  refine X_putIz 38 (by decide +kernel : decode cX6_settleRents 35 = .ok (.putfield 56, 3)) rfl rfl (by decide +kernel : aFd 8 56 = some (8, 3, false, false)) (Or.inl rfl) g8 rfl rfl ?_
  refine X_aload_n 39 (by decide +kernel : decode cX6_settleRents 38 = .ok (.aload_n 0, 1)) rfl rfl rfl ?_
  refine X_getR 42 (by decide +kernel : decode cX6_settleRents 39 = .ok (.getfield 27, 3)) rfl rfl (by decide +kernel : aFd 8 27 = some (8, 9, true, true)) g1 p11 ?_
  refine X_iload_n 43 (by decide +kernel : decode cX6_settleRents 42 = .ok (.iload_n 1, 1)) rfl rfl rfl ?_
  refine X_dup2 44 (by decide +kernel : decode cX6_settleRents 43 = .ok (.dup2, 1)) rfl rfl rfl rfl ?_
  refine X_iald 45 (by decide +kernel : decode cX6_settleRents 44 = .ok (.iaload, 1)) rfl rfl g12 r6 h14 ?_
  refine X_aload_n 46 (by decide +kernel : decode cX6_settleRents 45 = .ok (.aload_n 0, 1)) rfl rfl rfl ?_
  refine X_getR 49 (by decide +kernel : decode cX6_settleRents 46 = .ok (.getfield 33, 3)) rfl rfl (by decide +kernel : aFd 8 33 = some (8, 11, true, true)) g1 p17 ?_
  refine X_iload_n 50 (by decide +kernel : decode cX6_settleRents 49 = .ok (.iload_n 1, 1)) rfl rfl rfl ?_
  refine X_iald 51 (by decide +kernel : decode cX6_settleRents 50 = .ok (.iaload, 1)) rfl rfl g18 r6 h20 ?_
  refine X_aload_n 52 (by decide +kernel : decode cX6_settleRents 51 = .ok (.aload_n 0, 1)) rfl rfl rfl ?_
  refine X_getR 55 (by decide +kernel : decode cX6_settleRents 52 = .ok (.getfield 30, 3)) rfl rfl (by decide +kernel : aFd 8 30 = some (8, 10, true, true)) g1 p4 ?_
  refine X_iload_n 56 (by decide +kernel : decode cX6_settleRents 55 = .ok (.iload_n 1, 1)) rfl rfl rfl ?_
  refine X_iald 57 (by decide +kernel : decode cX6_settleRents 56 = .ok (.iaload, 1)) rfl rfl g5 r6 h7 ?_
  refine X_isub 58 (by decide +kernel : decode cX6_settleRents 57 = .ok (.isub, 1)) rfl rfl ?_
  refine X_iadd 59 (by decide +kernel : decode cX6_settleRents 58 = .ok (.iadd, 1)) rfl rfl ?_
  refine X_iastz 60 (by decide +kernel : decode cX6_settleRents 59 = .ok (.iastore, 1)) rfl rfl g27 r6 h14 ?_
  show X E d fX6_settleRents 60 [some (.ref a0), some (J x1)] [] S (mI (mW (mW M a0 3 (nz ((M a0 3) + (M b3 x1.toNat)))) b10 x1.toNat (nz (((mW M a0 3 (nz ((M a0 3) + (M b3 x1.toNat)))) b10 x1.toNat) + (((mW M a0 3 (nz ((M a0 3) + (M b3 x1.toNat)))) b16 x1.toNat) - ((mW M a0 3 (nz ((M a0 3) + (M b3 x1.toNat)))) b3 x1.toNat)))))) Q
  rw [eM_30]
  exact k
theorem kX6_settleRents_60 {o0 : Option Value} {x1 : Int} (k : X E d fX6_settleRents 2 [o0, some (J (x1 + 1))] [] S (mI M) Q) : X E d fX6_settleRents 60 [o0, some (J x1)] [] S (mI M) Q := by
  refine X_iinc 63 (by decide +kernel : decode cX6_settleRents 60 = .ok (.iinc 1 1, 3)) rfl rfl rfl rfl ?_
  exact X_goto 2 (by decide +kernel : decode cX6_settleRents 63 = .ok (.goto (-61), 3)) rfl (by decide) k
theorem kX6_settleRents_66 {o0 : Option Value} {o1 : Option Value} (q : Q (some none) S (mI M)) : X E d fX6_settleRents 66 [o0, o1] [] S (mI M) Q := by
  exact X_vret (by decide +kernel : decode cX6_settleRents 66 = .ok (.return_, 1)) rfl rfl q
theorem kX6_mendByOrders_0 {a0 : Nat} {o1 : Option Value} {o2 : Option Value} {o3 : Option Value} {o4 : Option Value} {b2 : Nat} {b5 : Nat} (g1 : aKd S a0 = 8) (p3 : aP S a0 1 = some b2) (g4 : aKd S b2 = 5) (p6 : aP S b2 15 = some b5) (k : X E d fX6_mendByOrders 10 [some (.ref a0), some (.ref b5), some (J 0), o3, o4] [] S (mI M) Q) : X E d fX6_mendByOrders 0 [some (.ref a0), o1, o2, o3, o4] [] S (mI M) Q := by
  refine X_aload_n 1 (by decide +kernel : decode cX6_mendByOrders 0 = .ok (.aload_n 0, 1)) rfl rfl rfl ?_
  refine X_getR 4 (by decide +kernel : decode cX6_mendByOrders 1 = .ok (.getfield 52, 3)) rfl rfl (by decide +kernel : aFd 8 52 = some (8, 1, true, false)) g1 p3 ?_
  refine X_getR 7 (by decide +kernel : decode cX6_mendByOrders 4 = .ok (.getfield 147, 3)) rfl rfl (by decide +kernel : aFd 8 147 = some (5, 15, true, true)) g4 p6 ?_
  refine X_astore_n 8 (by decide +kernel : decode cX6_mendByOrders 7 = .ok (.astore_n 1, 1)) rfl rfl (Nat.le_of_ble_eq_true rfl) rfl ?_
  refine X_iconst 9 (by decide +kernel : decode cX6_mendByOrders 8 = .ok (.iconst 0, 1)) rfl rfl ?_
  refine X_istore_n 10 (by decide +kernel : decode cX6_mendByOrders 9 = .ok (.istore_n 2, 1)) rfl rfl (Nat.le_of_ble_eq_true rfl) rfl ?_
  exact k
theorem kX6_mendByOrders_10 {o0 : Option Value} {a1 : Nat} {x2 : Int} {o3 : Option Value} {o4 : Option Value} (g1 : aKd S a1 = 3) (r2 : R32 x2) (r3 : R32 (M a1 0)) (k1 : (M a1 0) ≤ x2 → X E d fX6_mendByOrders 144 [o0, some (.ref a1), some (J x2), o3, o4] [] S (mI M) Q) (k2 : x2 < (M a1 0) → X E d fX6_mendByOrders 18 [o0, some (.ref a1), some (J x2), o3, o4] [] S (mI M) Q) : X E d fX6_mendByOrders 10 [o0, some (.ref a1), some (J x2), o3, o4] [] S (mI M) Q := by
  refine X_iload_n 11 (by decide +kernel : decode cX6_mendByOrders 10 = .ok (.iload_n 2, 1)) rfl rfl rfl ?_
  refine X_aload_n 12 (by decide +kernel : decode cX6_mendByOrders 11 = .ok (.aload_n 1, 1)) rfl rfl rfl ?_
  refine X_getI 15 (by decide +kernel : decode cX6_mendByOrders 12 = .ok (.getfield 151, 3)) rfl rfl (by decide +kernel : aFd 8 151 = some (3, 0, false, false)) g1 ?_
  exact X_icmpge 144 18 (by decide +kernel : decode cX6_mendByOrders 15 = .ok (.if_icmp .ge 129, 3)) rfl rfl (by decide) r2 r3 k1 k2
theorem kX6_mendByOrders_18 {o0 : Option Value} {a1 : Nat} {x2 : Int} {o3 : Option Value} {o4 : Option Value} {b2 : Nat} {b8 : Nat} (g1 : aKd S a1 = 3) (p3 : aP S a1 6 = some b2) (g4 : aKd S b2 = 100) (r5 : R32 x2) (h6 : (0 : Int) ≤ x2 ∧ x2 < (aN S b2 : Int)) (p9 : aP S a1 7 = some b8) (g10 : aKd S b8 = 100) (h12 : (0 : Int) ≤ x2 ∧ x2 < (aN S b8 : Int)) (r13 : R32 (M b2 x2.toNat)) (r14 : R32 (M b8 x2.toNat)) (k1 : (M b8 x2.toNat) ≤ (M b2 x2.toNat) → X E d fX6_mendByOrders 37 [o0, some (.ref a1), some (J x2), o3, o4] [] S (mI M) Q) (k2 : (M b2 x2.toNat) < (M b8 x2.toNat) → X E d fX6_mendByOrders 33 [o0, some (.ref a1), some (J x2), o3, o4] [] S (mI M) Q) : X E d fX6_mendByOrders 18 [o0, some (.ref a1), some (J x2), o3, o4] [] S (mI M) Q := by
  refine X_aload_n 19 (by decide +kernel : decode cX6_mendByOrders 18 = .ok (.aload_n 1, 1)) rfl rfl rfl ?_
  refine X_getR 22 (by decide +kernel : decode cX6_mendByOrders 19 = .ok (.getfield 162, 3)) rfl rfl (by decide +kernel : aFd 8 162 = some (3, 6, true, true)) g1 p3 ?_
  refine X_iload_n 23 (by decide +kernel : decode cX6_mendByOrders 22 = .ok (.iload_n 2, 1)) rfl rfl rfl ?_
  refine X_iald 24 (by decide +kernel : decode cX6_mendByOrders 23 = .ok (.iaload, 1)) rfl rfl g4 r5 h6 ?_
  refine X_aload_n 25 (by decide +kernel : decode cX6_mendByOrders 24 = .ok (.aload_n 1, 1)) rfl rfl rfl ?_
  refine X_getR 28 (by decide +kernel : decode cX6_mendByOrders 25 = .ok (.getfield 165, 3)) rfl rfl (by decide +kernel : aFd 8 165 = some (3, 7, true, true)) g1 p9 ?_
  refine X_iload_n 29 (by decide +kernel : decode cX6_mendByOrders 28 = .ok (.iload_n 2, 1)) rfl rfl rfl ?_
  refine X_iald 30 (by decide +kernel : decode cX6_mendByOrders 29 = .ok (.iaload, 1)) rfl rfl g10 r5 h12 ?_
  exact X_icmpge 37 33 (by decide +kernel : decode cX6_mendByOrders 30 = .ok (.if_icmp .ge 7, 3)) rfl rfl (by decide) r13 r14 k1 k2
theorem kX6_mendByOrders_33 {o0 : Option Value} {o1 : Option Value} {o2 : Option Value} {o3 : Option Value} {o4 : Option Value} (k : X E d fX6_mendByOrders 38 [o0, o1, o2, o3, o4] [J 1] S (mI M) Q) : X E d fX6_mendByOrders 33 [o0, o1, o2, o3, o4] [] S (mI M) Q := by
  refine X_iconst 34 (by decide +kernel : decode cX6_mendByOrders 33 = .ok (.iconst 1, 1)) rfl rfl ?_
  exact X_goto 38 (by decide +kernel : decode cX6_mendByOrders 34 = .ok (.goto 4, 3)) rfl (by decide) k
theorem kX6_mendByOrders_37 {o0 : Option Value} {o1 : Option Value} {o2 : Option Value} {o3 : Option Value} {o4 : Option Value} (k : X E d fX6_mendByOrders 38 [o0, o1, o2, o3, o4] [J 0] S (mI M) Q) : X E d fX6_mendByOrders 37 [o0, o1, o2, o3, o4] [] S (mI M) Q := by
  refine X_iconst 38 (by decide +kernel : decode cX6_mendByOrders 37 = .ok (.iconst 0, 1)) rfl rfl ?_
  exact k
theorem kX6_mendByOrders_38 {o0 : Option Value} {a1 : Nat} {x2 : Int} {o3 : Option Value} {o4 : Option Value} {t0 : Int} {b2 : Nat} (g1 : aKd S a1 = 3) (p3 : aP S a1 1 = some b2) (g4 : aKd S b2 = 100) (r5 : R32 x2) (h6 : (0 : Int) ≤ x2 ∧ x2 < (aN S b2 : Int)) (r7 : R32 (M b2 x2.toNat)) (k1 : (M b2 x2.toNat) ≠ 15 → X E d fX6_mendByOrders 138 [o0, some (.ref a1), some (J x2), some (J t0), o4] [] S (mI M) Q) (k2 : (M b2 x2.toNat) = 15 → X E d fX6_mendByOrders 50 [o0, some (.ref a1), some (J x2), some (J t0), o4] [] S (mI M) Q) : X E d fX6_mendByOrders 38 [o0, some (.ref a1), some (J x2), o3, o4] [J t0] S (mI M) Q := by
  refine X_istore_n 39 (by decide +kernel : decode cX6_mendByOrders 38 = .ok (.istore_n 3, 1)) rfl rfl (Nat.le_of_ble_eq_true rfl) rfl ?_
  refine X_aload_n 40 (by decide +kernel : decode cX6_mendByOrders 39 = .ok (.aload_n 1, 1)) rfl rfl rfl ?_
  refine X_getR 43 (by decide +kernel : decode cX6_mendByOrders 40 = .ok (.getfield 156, 3)) rfl rfl (by decide +kernel : aFd 8 156 = some (3, 1, true, true)) g1 p3 ?_
  refine X_iload_n 44 (by decide +kernel : decode cX6_mendByOrders 43 = .ok (.iload_n 2, 1)) rfl rfl rfl ?_
  refine X_iald 45 (by decide +kernel : decode cX6_mendByOrders 44 = .ok (.iaload, 1)) rfl rfl g4 r5 h6 ?_
  refine X_bipush 47 (15) (by decide +kernel : decode cX6_mendByOrders 45 = .ok (.bipush 15, 2)) rfl rfl (by decide +kernel) ?_
  exact X_icmpne 138 50 (by decide +kernel : decode cX6_mendByOrders 47 = .ok (.if_icmp .ne 91, 3)) rfl rfl (by decide) r7 ⟨by decide, by decide⟩ k1 k2
theorem kX6_mendByOrders_50 {a0 : Nat} {a1 : Nat} {x2 : Int} {o3 : Option Value} {o4 : Option Value} {b2 : Nat} {b8 : Nat} (g1 : aKd S a1 = 3) (p3 : aP S a1 3 = some b2) (g4 : aKd S b2 = 100) (r5 : R32 x2) (h6 : (0 : Int) ≤ x2 ∧ x2 < (aN S b2 : Int)) (g7 : aKd S a0 = 8) (p9 : aP S a0 1 = some b8) (g10 : aKd S b8 = 5) (hd1 : 1 ≤ d) (k : X E (d - 1) fX7_isOutside 0 [some (J (M b2 x2.toNat)), some (J (M b8 0))] [] S (mI M) (Kr E d fX6_mendByOrders 66 [some (.ref a0), some (.ref a1), some (J x2), o3, o4] [] Q)) : X E d fX6_mendByOrders 50 [some (.ref a0), some (.ref a1), some (J x2), o3, o4] [] S (mI M) Q := by
  refine X_aload_n 51 (by decide +kernel : decode cX6_mendByOrders 50 = .ok (.aload_n 1, 1)) rfl rfl rfl ?_
  refine X_getR 54 (by decide +kernel : decode cX6_mendByOrders 51 = .ok (.getfield 159, 3)) rfl rfl (by decide +kernel : aFd 8 159 = some (3, 3, true, true)) g1 p3 ?_
  refine X_iload_n 55 (by decide +kernel : decode cX6_mendByOrders 54 = .ok (.iload_n 2, 1)) rfl rfl rfl ?_
  refine X_iald 56 (by decide +kernel : decode cX6_mendByOrders 55 = .ok (.iaload, 1)) rfl rfl g4 r5 h6 ?_
  refine X_aload_n 57 (by decide +kernel : decode cX6_mendByOrders 56 = .ok (.aload_n 0, 1)) rfl rfl rfl ?_
  refine X_getR 60 (by decide +kernel : decode cX6_mendByOrders 57 = .ok (.getfield 52, 3)) rfl rfl (by decide +kernel : aFd 8 52 = some (8, 1, true, false)) g7 p9 ?_
  refine X_getI 63 (by decide +kernel : decode cX6_mendByOrders 60 = .ok (.getfield 97, 3)) rfl rfl (by decide +kernel : aFd 8 97 = some (5, 0, false, false)) g10 ?_
  exact X_cs (as := [J (M b8 0), J (M b2 x2.toNat)]) (rest := []) (by decide +kernel : decode cX6_mendByOrders 63 = .ok (.invokestatic 114, 3)) rfl rfl rfl rfl rfl rfl rfl (Nat.le_of_ble_eq_true rfl) hd1 k
theorem kX6_mendByOrders_66 {o0 : Option Value} {o1 : Option Value} {o2 : Option Value} {o3 : Option Value} {o4 : Option Value} {t0 : Int} (r1 : R32 t0) (k1 : t0 ≠ 0 → X E d fX6_mendByOrders 138 [o0, o1, o2, o3, o4] [] S (mI M) Q) (k2 : t0 = 0 → X E d fX6_mendByOrders 69 [o0, o1, o2, o3, o4] [] S (mI M) Q) : X E d fX6_mendByOrders 66 [o0, o1, o2, o3, o4] [J t0] S (mI M) Q := by
  exact X_ifne 138 69 (by decide +kernel : decode cX6_mendByOrders 66 = .ok (.ifCond .ne 72, 3)) rfl rfl (by decide) r1 k1 k2
theorem kX6_mendByOrders_69 {o0 : Option Value} {o1 : Option Value} {o2 : Option Value} {x3 : Int} {o4 : Option Value} (r1 : R32 x3) (k1 : x3 = 0 → X E d fX6_mendByOrders 96 [o0, o1, o2, some (J x3), o4] [] S (mI M) Q) (k2 : x3 ≠ 0 → X E d fX6_mendByOrders 73 [o0, o1, o2, some (J x3), o4] [] S (mI M) Q) : X E d fX6_mendByOrders 69 [o0, o1, o2, some (J x3), o4] [] S (mI M) Q := by
  refine X_iload_n 70 (by decide +kernel : decode cX6_mendByOrders 69 = .ok (.iload_n 3, 1)) rfl rfl rfl ?_
  exact X_ifeq 96 73 (by decide +kernel : decode cX6_mendByOrders 70 = .ok (.ifCond .eq 26, 3)) rfl rfl (by decide) r1 k1 k2
theorem kX6_mendByOrders_73 {a0 : Nat} {a1 : Nat} {x2 : Int} {o3 : Option Value} {o4 : Option Value} {b2 : Nat} {b5 : Nat} {b11 : Nat} (g1 : aKd S a0 = 8) (p3 : aP S a0 0 = some b2) (g4 : aKd S a1 = 3) (p6 : aP S a1 6 = some b5) (g7 : aKd S b5 = 100) (r8 : R32 x2) (h9 : (0 : Int) ≤ x2 ∧ x2 < (aN S b5 : Int)) (p12 : aP S a1 7 = some b11) (g13 : aKd S b11 = 100) (h15 : (0 : Int) ≤ x2 ∧ x2 < (aN S b11 : Int)) (hd1 : 1 ≤ d) (k : X E (d - 1) fX2_reckon 0 [some (.ref b2), some (.ref a0), some (J (M b5 x2.toNat)), some (J (M b11 x2.toNat)), none, none, none, none] [] S (mI M) (Kr E d fX6_mendByOrders 93 [some (.ref a0), some (.ref a1), some (J x2), o3, o4] [] Q)) (g16 : aKd S b2 = 4) : X E d fX6_mendByOrders 73 [some (.ref a0), some (.ref a1), some (J x2), o3, o4] [] S (mI M) Q := by
  refine X_aload_n 74 (by decide +kernel : decode cX6_mendByOrders 73 = .ok (.aload_n 0, 1)) rfl rfl rfl ?_
  refine X_getR 77 (by decide +kernel : decode cX6_mendByOrders 74 = .ok (.getfield 48, 3)) rfl rfl (by decide +kernel : aFd 8 48 = some (8, 0, true, true)) g1 p3 ?_
  refine X_aload_n 78 (by decide +kernel : decode cX6_mendByOrders 77 = .ok (.aload_n 0, 1)) rfl rfl rfl ?_
  refine X_aload_n 79 (by decide +kernel : decode cX6_mendByOrders 78 = .ok (.aload_n 1, 1)) rfl rfl rfl ?_
  refine X_getR 82 (by decide +kernel : decode cX6_mendByOrders 79 = .ok (.getfield 162, 3)) rfl rfl (by decide +kernel : aFd 8 162 = some (3, 6, true, true)) g4 p6 ?_
  refine X_iload_n 83 (by decide +kernel : decode cX6_mendByOrders 82 = .ok (.iload_n 2, 1)) rfl rfl rfl ?_
  refine X_iald 84 (by decide +kernel : decode cX6_mendByOrders 83 = .ok (.iaload, 1)) rfl rfl g7 r8 h9 ?_
  refine X_aload_n 85 (by decide +kernel : decode cX6_mendByOrders 84 = .ok (.aload_n 1, 1)) rfl rfl rfl ?_
  refine X_getR 88 (by decide +kernel : decode cX6_mendByOrders 85 = .ok (.getfield 165, 3)) rfl rfl (by decide +kernel : aFd 8 165 = some (3, 7, true, true)) g4 p12 ?_
  refine X_iload_n 89 (by decide +kernel : decode cX6_mendByOrders 88 = .ok (.iload_n 2, 1)) rfl rfl rfl ?_
  refine X_iald 90 (by decide +kernel : decode cX6_mendByOrders 89 = .ok (.iaload, 1)) rfl rfl g13 r8 h15 ?_
  exact X_cv (as := [J (M b11 x2.toNat), J (M b5 x2.toNat), .ref a0]) (rest := []) (by decide +kernel : decode cX6_mendByOrders 90 = .ok (.invokevirtual 168, 3)) (Or.inl ⟨rfl, rfl, rfl⟩) rfl rfl rfl rfl rfl (Nat.le_of_ble_eq_true rfl) (Or.inr (Or.inr (by rw [g16]; rfl))) hd1 k
theorem kX6_mendByOrders_93 {o0 : Option Value} {o1 : Option Value} {o2 : Option Value} {o3 : Option Value} {o4 : Option Value} {t0 : Int} (r1 : R32 t0) (k1 : t0 = 0 → X E d fX6_mendByOrders 138 [o0, o1, o2, o3, o4] [] S (mI M) Q) (k2 : t0 ≠ 0 → X E d fX6_mendByOrders 96 [o0, o1, o2, o3, o4] [] S (mI M) Q) : X E d fX6_mendByOrders 93 [o0, o1, o2, o3, o4] [J t0] S (mI M) Q := by
  exact X_ifeq 138 96 (by decide +kernel : decode cX6_mendByOrders 93 = .ok (.ifCond .eq 45, 3)) rfl rfl (by decide) r1 k1 k2
theorem kX6_mendByOrders_96 {a0 : Nat} {a1 : Nat} {x2 : Int} {o3 : Option Value} {o4 : Option Value} {b2 : Nat} {b5 : Nat} {b11 : Nat} (g1 : aKd S a0 = 8) (p3 : aP S a0 0 = some b2) (g4 : aKd S a1 = 3) (p6 : aP S a1 5 = some b5) (g7 : aKd S b5 = 100) (r8 : R32 x2) (h9 : (0 : Int) ≤ x2 ∧ x2 < (aN S b5 : Int)) (p12 : aP S a1 6 = some b11) (g13 : aKd S b11 = 100) (h15 : (0 : Int) ≤ x2 ∧ x2 < (aN S b11 : Int)) (hd1 : 1 ≤ d) (k : X E (d - 1) fX2_reckon 0 [some (.ref b2), some (.ref a0), some (J (M b5 x2.toNat)), some (J (M b11 x2.toNat)), none, none, none, none] [] S (mI M) (Kr E d fX6_mendByOrders 116 [some (.ref a0), some (.ref a1), some (J x2), o3, o4] [] Q)) (g16 : aKd S b2 = 4) : X E d fX6_mendByOrders 96 [some (.ref a0), some (.ref a1), some (J x2), o3, o4] [] S (mI M) Q := by
  refine X_aload_n 97 (by decide +kernel : decode cX6_mendByOrders 96 = .ok (.aload_n 0, 1)) rfl rfl rfl ?_
  refine X_getR 100 (by decide +kernel : decode cX6_mendByOrders 97 = .ok (.getfield 48, 3)) rfl rfl (by decide +kernel : aFd 8 48 = some (8, 0, true, true)) g1 p3 ?_
  refine X_aload_n 101 (by decide +kernel : decode cX6_mendByOrders 100 = .ok (.aload_n 0, 1)) rfl rfl rfl ?_
  refine X_aload_n 102 (by decide +kernel : decode cX6_mendByOrders 101 = .ok (.aload_n 1, 1)) rfl rfl rfl ?_
  refine X_getR 105 (by decide +kernel : decode cX6_mendByOrders 102 = .ok (.getfield 208, 3)) rfl rfl (by decide +kernel : aFd 8 208 = some (3, 5, true, true)) g4 p6 ?_
  refine X_iload_n 106 (by decide +kernel : decode cX6_mendByOrders 105 = .ok (.iload_n 2, 1)) rfl rfl rfl ?_
  refine X_iald 107 (by decide +kernel : decode cX6_mendByOrders 106 = .ok (.iaload, 1)) rfl rfl g7 r8 h9 ?_
  refine X_aload_n 108 (by decide +kernel : decode cX6_mendByOrders 107 = .ok (.aload_n 1, 1)) rfl rfl rfl ?_
  refine X_getR 111 (by decide +kernel : decode cX6_mendByOrders 108 = .ok (.getfield 162, 3)) rfl rfl (by decide +kernel : aFd 8 162 = some (3, 6, true, true)) g4 p12 ?_
  refine X_iload_n 112 (by decide +kernel : decode cX6_mendByOrders 111 = .ok (.iload_n 2, 1)) rfl rfl rfl ?_
  refine X_iald 113 (by decide +kernel : decode cX6_mendByOrders 112 = .ok (.iaload, 1)) rfl rfl g13 r8 h15 ?_
  exact X_cv (as := [J (M b11 x2.toNat), J (M b5 x2.toNat), .ref a0]) (rest := []) (by decide +kernel : decode cX6_mendByOrders 113 = .ok (.invokevirtual 168, 3)) (Or.inl ⟨rfl, rfl, rfl⟩) rfl rfl rfl rfl rfl (Nat.le_of_ble_eq_true rfl) (Or.inr (Or.inr (by rw [g16]; rfl))) hd1 k
theorem kX6_mendByOrders_116 {a0 : Nat} {a1 : Nat} {x2 : Int} {o3 : Option Value} {o4 : Option Value} {t0 : Int} {b2 : Nat} (g1 : aKd S a1 = 3) (p3 : aP S a1 3 = some b2) (g4 : aKd S b2 = 100) (r5 : R32 x2) (h6 : (0 : Int) ≤ x2 ∧ x2 < (aN S b2 : Int)) (g7 : aKd S a0 = 8) (r8 : R32 t0) (r9 : R32 (M a0 3)) (hd1 : 1 ≤ d) (k : X E (d - 1) fX6_spend 0 [some (.ref a0), some (J (M b2 x2.toNat)), some (J (min t0 (M a0 3))), none, none, none] [] S (mI M) (Kr E d fX6_mendByOrders 137 [some (.ref a0), some (.ref a1), some (J x2), o3, some (J t0)] [] Q)) : X E d fX6_mendByOrders 116 [some (.ref a0), some (.ref a1), some (J x2), o3, o4] [J t0] S (mI M) Q := by
  refine X_istore 118 (by decide +kernel : decode cX6_mendByOrders 116 = .ok (.istore 4, 2)) rfl rfl (Nat.le_of_ble_eq_true rfl) rfl ?_
  refine X_aload_n 119 (by decide +kernel : decode cX6_mendByOrders 118 = .ok (.aload_n 0, 1)) rfl rfl rfl ?_
  refine X_aload_n 120 (by decide +kernel : decode cX6_mendByOrders 119 = .ok (.aload_n 1, 1)) rfl rfl rfl ?_
  refine X_getR 123 (by decide +kernel : decode cX6_mendByOrders 120 = .ok (.getfield 159, 3)) rfl rfl (by decide +kernel : aFd 8 159 = some (3, 3, true, true)) g1 p3 ?_
  refine X_iload_n 124 (by decide +kernel : decode cX6_mendByOrders 123 = .ok (.iload_n 2, 1)) rfl rfl rfl ?_
  refine X_iald 125 (by decide +kernel : decode cX6_mendByOrders 124 = .ok (.iaload, 1)) rfl rfl g4 r5 h6 ?_
  refine X_iload 127 (by decide +kernel : decode cX6_mendByOrders 125 = .ok (.iload 4, 2)) rfl rfl rfl ?_
  refine X_aload_n 128 (by decide +kernel : decode cX6_mendByOrders 127 = .ok (.aload_n 0, 1)) rfl rfl rfl ?_
  refine X_getI 131 (by decide +kernel : decode cX6_mendByOrders 128 = .ok (.getfield 56, 3)) rfl rfl (by decide +kernel : aFd 8 56 = some (8, 3, false, false)) g7 ?_
  refine X_math (z := 0) 134 (by decide +kernel : decode cX6_mendByOrders 131 = .ok (.invokestatic 118, 3)) rfl rfl rfl rfl (by decide) r8 r9 (Nat.le_of_ble_eq_true rfl) ?_
  exact X_cv (as := [J (min t0 (M a0 3)), J (M b2 x2.toNat)]) (rest := []) (by decide +kernel : decode cX6_mendByOrders 134 = .ok (.invokevirtual 211, 3)) (Or.inl ⟨rfl, rfl, rfl⟩) rfl rfl rfl rfl rfl (Nat.le_of_ble_eq_true rfl) (Or.inr (Or.inr (by rw [g7]; rfl))) hd1 k
theorem kX6_mendByOrders_137 {o0 : Option Value} {o1 : Option Value} {o2 : Option Value} {o3 : Option Value} {o4 : Option Value} {t0 : Int} (k : X E d fX6_mendByOrders 138 [o0, o1, o2, o3, o4] [] S (mI M) Q) : X E d fX6_mendByOrders 137 [o0, o1, o2, o3, o4] [J t0] S (mI M) Q := by
  refine X_pop 138 (by decide +kernel : decode cX6_mendByOrders 137 = .ok (.pop, 1)) rfl rfl rfl ?_
  exact k
theorem kX6_mendByOrders_138 {o0 : Option Value} {o1 : Option Value} {x2 : Int} {o3 : Option Value} {o4 : Option Value} (k : X E d fX6_mendByOrders 10 [o0, o1, some (J (x2 + 1)), o3, o4] [] S (mI M) Q) : X E d fX6_mendByOrders 138 [o0, o1, some (J x2), o3, o4] [] S (mI M) Q := by
  refine X_iinc 141 (by decide +kernel : decode cX6_mendByOrders 138 = .ok (.iinc 2 1, 3)) rfl rfl rfl rfl ?_
  exact X_goto 10 (by decide +kernel : decode cX6_mendByOrders 141 = .ok (.goto (-131), 3)) rfl (by decide) k
theorem kX6_mendByOrders_144 {o0 : Option Value} {o1 : Option Value} {o2 : Option Value} {o3 : Option Value} {o4 : Option Value} (q : Q (some none) S (mI M)) : X E d fX6_mendByOrders 144 [o0, o1, o2, o3, o4] [] S (mI M) Q := by
  exact X_vret (by decide +kernel : decode cX6_mendByOrders 144 = .ok (.return_, 1)) rfl rfl q
theorem kX6_spend_0 {o0 : Option Value} {o1 : Option Value} {o2 : Option Value} {o3 : Option Value} {o4 : Option Value} {o5 : Option Value} (k : X E d fX6_spend 5 [o0, o1, o2, some (J 0), some (J 0), o5] [] S (mI M) Q) : X E d fX6_spend 0 [o0, o1, o2, o3, o4, o5] [] S (mI M) Q := by
  refine X_iconst 1 (by decide +kernel : decode cX6_spend 0 = .ok (.iconst 0, 1)) rfl rfl ?_
  refine X_istore_n 2 (by decide +kernel : decode cX6_spend 1 = .ok (.istore_n 3, 1)) rfl rfl (Nat.le_of_ble_eq_true rfl) rfl ?_
  refine X_iconst 3 (by decide +kernel : decode cX6_spend 2 = .ok (.iconst 0, 1)) rfl rfl ?_
  refine X_istore 5 (by decide +kernel : decode cX6_spend 3 = .ok (.istore 4, 2)) rfl rfl (Nat.le_of_ble_eq_true rfl) rfl ?_
  exact k
theorem kX6_spend_5 {o0 : Option Value} {o1 : Option Value} {x2 : Int} {o3 : Option Value} {x4 : Int} {o5 : Option Value} (r1 : R32 x4) (r2 : R32 x2) (k1 : x2 ≤ x4 → X E d fX6_spend 73 [o0, o1, some (J x2), o3, some (J x4), o5] [] S (mI M) Q) (k2 : x4 < x2 → X E d fX6_spend 11 [o0, o1, some (J x2), o3, some (J x4), o5] [] S (mI M) Q) : X E d fX6_spend 5 [o0, o1, some (J x2), o3, some (J x4), o5] [] S (mI M) Q := by
  refine X_iload 7 (by decide +kernel : decode cX6_spend 5 = .ok (.iload 4, 2)) rfl rfl rfl ?_
  refine X_iload_n 8 (by decide +kernel : decode cX6_spend 7 = .ok (.iload_n 2, 1)) rfl rfl rfl ?_
  exact X_icmpge 73 11 (by decide +kernel : decode cX6_spend 8 = .ok (.if_icmp .ge 65, 3)) rfl rfl (by decide) r1 r2 k1 k2
theorem kX6_spend_11 {a0 : Nat} {x1 : Int} {o2 : Option Value} {o3 : Option Value} {o4 : Option Value} {o5 : Option Value} (hd1 : 1 ≤ d) (k : X E (d - 1) fX6_worstMile 0 [some (.ref a0), some (J x1), none, none, none] [] S (mI M) (Kr E d fX6_spend 16 [some (.ref a0), some (J x1), o2, o3, o4, o5] [] Q)) (g1 : aKd S a0 = 8) : X E d fX6_spend 11 [some (.ref a0), some (J x1), o2, o3, o4, o5] [] S (mI M) Q := by
  refine X_aload_n 12 (by decide +kernel : decode cX6_spend 11 = .ok (.aload_n 0, 1)) rfl rfl rfl ?_
  refine X_iload_n 13 (by decide +kernel : decode cX6_spend 12 = .ok (.iload_n 1, 1)) rfl rfl rfl ?_
  exact X_cv (as := [J x1]) (rest := []) (by decide +kernel : decode cX6_spend 13 = .ok (.invokevirtual 110, 3)) (Or.inl ⟨rfl, rfl, rfl⟩) rfl rfl rfl rfl rfl (Nat.le_of_ble_eq_true rfl) (Or.inr (Or.inr (by rw [g1]; rfl))) hd1 k
theorem kX6_spend_16 {o0 : Option Value} {o1 : Option Value} {o2 : Option Value} {o3 : Option Value} {o4 : Option Value} {o5 : Option Value} {t0 : Int} (hd1 : 1 ≤ d) (k : X E (d - 1) fX7_isOutside 0 [some (J t0), some (J 45)] [] S (mI M) (Kr E d fX6_spend 25 [o0, o1, o2, o3, o4, some (J t0)] [] Q)) : X E d fX6_spend 16 [o0, o1, o2, o3, o4, o5] [J t0] S (mI M) Q := by
  refine X_istore 18 (by decide +kernel : decode cX6_spend 16 = .ok (.istore 5, 2)) rfl rfl (Nat.le_of_ble_eq_true rfl) rfl ?_
  refine X_iload 20 (by decide +kernel : decode cX6_spend 18 = .ok (.iload 5, 2)) rfl rfl rfl ?_
  refine X_bipush 22 (45) (by decide +kernel : decode cX6_spend 20 = .ok (.bipush 45, 2)) rfl rfl (by decide +kernel) ?_
  exact X_cs (as := [J 45, J t0]) (rest := []) (by decide +kernel : decode cX6_spend 22 = .ok (.invokestatic 114, 3)) rfl rfl rfl rfl rfl rfl rfl (Nat.le_of_ble_eq_true rfl) hd1 k
theorem kX6_spend_25 {o0 : Option Value} {o1 : Option Value} {o2 : Option Value} {o3 : Option Value} {o4 : Option Value} {o5 : Option Value} {t0 : Int} (r1 : R32 t0) (k1 : t0 ≠ 0 → X E d fX6_spend 73 [o0, o1, o2, o3, o4, o5] [] S (mI M) Q) (k2 : t0 = 0 → X E d fX6_spend 28 [o0, o1, o2, o3, o4, o5] [] S (mI M) Q) : X E d fX6_spend 25 [o0, o1, o2, o3, o4, o5] [J t0] S (mI M) Q := by
  exact X_ifne 73 28 (by decide +kernel : decode cX6_spend 25 = .ok (.ifCond .ne 48, 3)) rfl rfl (by decide) r1 k1 k2
theorem kX6_spend_28 {a0 : Nat} {o1 : Option Value} {o2 : Option Value} {o3 : Option Value} {o4 : Option Value} {x5 : Int} {b2 : Nat} (g1 : aKd S a0 = 8) (p3 : aP S a0 4 = some b2) (g4 : aKd S b2 = 100) (r5 : R32 x5) (h6 : (0 : Int) ≤ x5 ∧ x5 < (aN S b2 : Int)) (r7 : R32 (M b2 x5.toNat)) (k1 : (M b2 x5.toNat) < 100 → X E d fX6_spend 43 [some (.ref a0), o1, o2, o3, o4, some (J x5)] [] S (mI M) Q) (k2 : 100 ≤ (M b2 x5.toNat) → X E d fX6_spend 40 [some (.ref a0), o1, o2, o3, o4, some (J x5)] [] S (mI M) Q) : X E d fX6_spend 28 [some (.ref a0), o1, o2, o3, o4, some (J x5)] [] S (mI M) Q := by
  refine X_aload_n 29 (by decide +kernel : decode cX6_spend 28 = .ok (.aload_n 0, 1)) rfl rfl rfl ?_
  refine X_getR 32 (by decide +kernel : decode cX6_spend 29 = .ok (.getfield 9, 3)) rfl rfl (by decide +kernel : aFd 8 9 = some (8, 4, true, true)) g1 p3 ?_
  refine X_iload 34 (by decide +kernel : decode cX6_spend 32 = .ok (.iload 5, 2)) rfl rfl rfl ?_
  refine X_iald 35 (by decide +kernel : decode cX6_spend 34 = .ok (.iaload, 1)) rfl rfl g4 r5 h6 ?_
  refine X_bipush 37 (100) (by decide +kernel : decode cX6_spend 35 = .ok (.bipush 100, 2)) rfl rfl (by decide +kernel) ?_
  exact X_icmplt 43 40 (by decide +kernel : decode cX6_spend 37 = .ok (.if_icmp .lt 6, 3)) rfl rfl (by decide) r7 ⟨by decide, by decide⟩ k1 k2
theorem kX6_spend_40 {o0 : Option Value} {o1 : Option Value} {o2 : Option Value} {o3 : Option Value} {o4 : Option Value} {o5 : Option Value} (k : X E d fX6_spend 73 [o0, o1, o2, o3, o4, o5] [] S (mI M) Q) : X E d fX6_spend 40 [o0, o1, o2, o3, o4, o5] [] S (mI M) Q := by
  exact X_goto 73 (by decide +kernel : decode cX6_spend 40 = .ok (.goto 33, 3)) rfl (by decide) k
theorem kX6_spend_43 {a0 : Nat} {o1 : Option Value} {o2 : Option Value} {x3 : Int} {x4 : Int} {x5 : Int} {b2 : Nat} (g1 : aKd S a0 = 8) (p3 : aP S a0 4 = some b2) (g7 : aKd S b2 = 100) (r8 : R32 x5) (h9 : (0 : Int) ≤ x5 ∧ x5 < (aN S b2 : Int)) (r10 : R32 ((M b2 x5.toNat) + 4)) (g11 : aK S b2 = 100) (k : X E d fX6_spend 5 [some (.ref a0), o1, o2, some (J (x3 + 1)), some (J (x4 + 1)), some (J x5)] [] S (mI (mW M b2 x5.toNat (nz (min 100 ((M b2 x5.toNat) + 4))))) Q) : X E d fX6_spend 43 [some (.ref a0), o1, o2, some (J x3), some (J x4), some (J x5)] [] S (mI M) Q := by
  refine X_aload_n 44 (by decide +kernel : decode cX6_spend 43 = .ok (.aload_n 0, 1)) rfl rfl rfl ?_
  refine X_getR 47 (by decide +kernel : decode cX6_spend 44 = .ok (.getfield 9, 3)) rfl rfl (by decide +kernel : aFd 8 9 = some (8, 4, true, true)) g1 p3 ?_
  refine X_iload 49 (by decide +kernel : decode cX6_spend 47 = .ok (.iload 5, 2)) rfl rfl rfl ?_
  refine X_bipush 51 (100) (by decide +kernel : decode cX6_spend 49 = .ok (.bipush 100, 2)) rfl rfl (by decide +kernel) ?_
  refine X_aload_n 52 (by decide +kernel : decode cX6_spend 51 = .ok (.aload_n 0, 1)) rfl rfl rfl ?_
  refine X_getR 55 (by decide +kernel : decode cX6_spend 52 = .ok (.getfield 9, 3)) rfl rfl (by decide +kernel : aFd 8 9 = some (8, 4, true, true)) g1 p3 ?_
  refine X_iload 57 (by decide +kernel : decode cX6_spend 55 = .ok (.iload 5, 2)) rfl rfl rfl ?_
  refine X_iald 58 (by decide +kernel : decode cX6_spend 57 = .ok (.iaload, 1)) rfl rfl g7 r8 h9 ?_
  refine X_iconst 59 (by decide +kernel : decode cX6_spend 58 = .ok (.iconst 4, 1)) rfl rfl ?_
  refine X_iadd 60 (by decide +kernel : decode cX6_spend 59 = .ok (.iadd, 1)) rfl rfl ?_
  refine X_math (z := 0) 63 (by decide +kernel : decode cX6_spend 60 = .ok (.invokestatic 118, 3)) rfl rfl rfl rfl (by decide) ⟨by decide, by decide⟩ r10 (Nat.le_of_ble_eq_true rfl) ?_
  refine X_iastz 64 (by decide +kernel : decode cX6_spend 63 = .ok (.iastore, 1)) rfl rfl g11 r8 h9 ?_
  refine X_iinc 67 (by decide +kernel : decode cX6_spend 64 = .ok (.iinc 3 1, 3)) rfl rfl rfl rfl ?_
  refine X_iinc 70 (by decide +kernel : decode cX6_spend 67 = .ok (.iinc 4 1, 3)) rfl rfl rfl rfl ?_
  exact X_goto 5 (by decide +kernel : decode cX6_spend 70 = .ok (.goto (-65), 3)) rfl (by decide) k
theorem kX6_spend_73 {a0 : Nat} {x1 : Int} {o2 : Option Value} {x3 : Int} {o4 : Option Value} {o5 : Option Value} {b4 : Nat} {M_12 : Nat → Nat → Int} (g1 : aKd S a0 = 8) (g2 : aK S a0 = 8) (p5 : aP S a0 6 = some b4) (g6 : aKd S b4 = 100) (r7 : R32 x1) (h8 : (0 : Int) ≤ x1 ∧ x1 < (aN S b4 : Int)) (g9 : aK S b4 = 100) (eM_12 : mW (mW M a0 3 (nz ((M a0 3) - x3))) b4 x1.toNat (nz (((mW M a0 3 (nz ((M a0 3) - x3))) b4 x1.toNat) + x3)) = M_12) (q : Q (some (some (J x3))) S (mI M_12)) : X E d fX6_spend 73 [some (.ref a0), some (J x1), o2, some (J x3), o4, o5] [] S (mI M) Q := by
  refine X_aload_n 74 (by decide +kernel : decode cX6_spend 73 = .ok (.aload_n 0, 1)) rfl rfl rfl ?_
  refine X_dup 75 (by decide +kernel : decode cX6_spend 74 = .ok (.dup, 1)) rfl rfl rfl ?_
  refine X_getI 78 (by decide +kernel : decode cX6_spend 75 = .ok (.getfield 56, 3)) rfl rfl (by decide +kernel : aFd 8 56 = some (8, 3, false, false)) g1 ?_
  refine X_iload_n 79 (by decide +kernel : decode cX6_spend 78 = .ok (.iload_n 3, 1)) rfl rfl rfl ?_
  refine X_isub 80 (by decide +kernel : decode cX6_spend 79 = .ok (.isub, 1)) rfl rfl ?_
  refine X_putIz 83 (by decide +kernel : decode cX6_spend 80 = .ok (.putfield 56, 3)) rfl rfl (by decide +kernel : aFd 8 56 = some (8, 3, false, false)) (Or.inl rfl) g2 rfl rfl ?_
  refine X_aload_n 84 (by decide +kernel : decode cX6_spend 83 = .ok (.aload_n 0, 1)) rfl rfl rfl ?_
  refine X_getR 87 (by decide +kernel : decode cX6_spend 84 = .ok (.getfield 18, 3)) rfl rfl (by decide +kernel : aFd 8 18 = some (8, 6, true, true)) g1 p5 ?_
  refine X_iload_n 88 (by decide +kernel : decode cX6_spend 87 = .ok (.iload_n 1, 1)) rfl rfl rfl ?_
  refine X_dup2 89 (by decide +kernel : decode cX6_spend 88 = .ok (.dup2, 1)) rfl rfl rfl rfl ?_
  refine X_iald 90 (by decide +kernel : decode cX6_spend 89 = .ok (.iaload, 1)) rfl rfl g6 r7 h8 ?_
  refine X_iload_n 91 (by decide +kernel : decode cX6_spend 90 = .ok (.iload_n 3, 1)) rfl rfl rfl ?_
  refine X_iadd 92 (by decide +kernel : decode cX6_spend 91 = .ok (.iadd, 1)) rfl rfl ?_
  refine X_iastz 93 (by decide +kernel : decode cX6_spend 92 = .ok (.iastore, 1)) rfl rfl g9 r7 h8 ?_
  show X E d fX6_spend 93 [some (.ref a0), some (J x1), o2, some (J x3), o4, o5] [] S (mI (mW (mW M a0 3 (nz ((M a0 3) - x3))) b4 x1.toNat (nz (((mW M a0 3 (nz ((M a0 3) - x3))) b4 x1.toNat) + x3)))) Q
  rw [eM_12]
  refine X_iload_n 94 (by decide +kernel : decode cX6_spend 93 = .ok (.iload_n 3, 1)) rfl rfl rfl ?_
  exact X_iret (by decide +kernel : decode cX6_spend 94 = .ok (.ireturn, 1)) rfl rfl rfl q
theorem kX6_worstMile_0 {a0 : Nat} {x1 : Int} {o2 : Option Value} {o3 : Option Value} {o4 : Option Value} {b2 : Nat} {b5 : Nat} (g1 : aKd S a0 = 8) (p3 : aP S a0 1 = some b2) (g4 : aKd S b2 = 5) (p6 : aP S b2 5 = some b5) (hd1 : 1 ≤ d) (k : X E (d - 1) fX7_valueAt 0 [some (.ref b5), some (J x1)] [] S (mI M) (Kr E d fX6_worstMile 11 [some (.ref a0), some (J x1), o2, o3, o4] [] Q)) : X E d fX6_worstMile 0 [some (.ref a0), some (J x1), o2, o3, o4] [] S (mI M) Q := by
  refine X_aload_n 1 (by decide +kernel : decode cX6_worstMile 0 = .ok (.aload_n 0, 1)) rfl rfl rfl ?_
  refine X_getR 4 (by decide +kernel : decode cX6_worstMile 1 = .ok (.getfield 52, 3)) rfl rfl (by decide +kernel : aFd 8 52 = some (8, 1, true, false)) g1 p3 ?_
  refine X_getR 7 (by decide +kernel : decode cX6_worstMile 4 = .ok (.getfield 100, 3)) rfl rfl (by decide +kernel : aFd 8 100 = some (5, 5, true, true)) g4 p6 ?_
  refine X_iload_n 8 (by decide +kernel : decode cX6_worstMile 7 = .ok (.iload_n 1, 1)) rfl rfl rfl ?_
  exact X_cs (as := [J x1, .ref b5]) (rest := []) (by decide +kernel : decode cX6_worstMile 8 = .ok (.invokestatic 103, 3)) rfl rfl rfl rfl rfl rfl rfl (Nat.le_of_ble_eq_true rfl) hd1 k
theorem kX6_worstMile_11 {a0 : Nat} {x1 : Int} {o2 : Option Value} {o3 : Option Value} {o4 : Option Value} {t0 : Int} {b2 : Nat} {b5 : Nat} (g1 : aKd S a0 = 8) (p3 : aP S a0 1 = some b2) (g4 : aKd S b2 = 5) (p6 : aP S b2 4 = some b5) (hd1 : 1 ≤ d) (k : X E (d - 1) fX7_valueAt 0 [some (.ref b5), some (J x1)] [] S (mI M) (Kr E d fX6_worstMile 24 [some (.ref a0), some (J x1), some (J t0), o3, o4] [J t0] Q)) : X E d fX6_worstMile 11 [some (.ref a0), some (J x1), o2, o3, o4] [J t0] S (mI M) Q := by
  refine X_istore_n 12 (by decide +kernel : decode cX6_worstMile 11 = .ok (.istore_n 2, 1)) rfl rfl (Nat.le_of_ble_eq_true rfl) rfl ?_
  refine X_iload_n 13 (by decide +kernel : decode cX6_worstMile 12 = .ok (.iload_n 2, 1)) rfl rfl rfl ?_
  refine X_aload_n 14 (by decide +kernel : decode cX6_worstMile 13 = .ok (.aload_n 0, 1)) rfl rfl rfl ?_
  refine X_getR 17 (by decide +kernel : decode cX6_worstMile 14 = .ok (.getfield 52, 3)) rfl rfl (by decide +kernel : aFd 8 52 = some (8, 1, true, false)) g1 p3 ?_
  refine X_getR 20 (by decide +kernel : decode cX6_worstMile 17 = .ok (.getfield 106, 3)) rfl rfl (by decide +kernel : aFd 8 106 = some (5, 4, true, true)) g4 p6 ?_
  refine X_iload_n 21 (by decide +kernel : decode cX6_worstMile 20 = .ok (.iload_n 1, 1)) rfl rfl rfl ?_
  exact X_cs (as := [J x1, .ref b5]) (rest := [J t0]) (by decide +kernel : decode cX6_worstMile 21 = .ok (.invokestatic 103, 3)) rfl rfl rfl rfl rfl rfl rfl (Nat.le_of_ble_eq_true rfl) hd1 k
theorem kX6_worstMile_24 {o0 : Option Value} {o1 : Option Value} {x2 : Int} {o3 : Option Value} {o4 : Option Value} {t0 : Int} {t1 : Int} (k : X E d fX6_worstMile 29 [o0, o1, some (J x2), some (J (t1 + t0)), some (J x2)] [] S (mI M) Q) : X E d fX6_worstMile 24 [o0, o1, some (J x2), o3, o4] [J t0, J t1] S (mI M) Q := by
  refine X_iadd 25 (by decide +kernel : decode cX6_worstMile 24 = .ok (.iadd, 1)) rfl rfl ?_
  refine X_istore_n 26 (by decide +kernel : decode cX6_worstMile 25 = .ok (.istore_n 3, 1)) rfl rfl (Nat.le_of_ble_eq_true rfl) rfl ?_
  refine X_iload_n 27 (by decide +kernel : decode cX6_worstMile 26 = .ok (.iload_n 2, 1)) rfl rfl rfl ?_
  refine X_istore 29 (by decide +kernel : decode cX6_worstMile 27 = .ok (.istore 4, 2)) rfl rfl (Nat.le_of_ble_eq_true rfl) rfl ?_
  exact k
theorem kX6_worstMile_29 {o0 : Option Value} {o1 : Option Value} {o2 : Option Value} {x3 : Int} {x4 : Int} (r1 : R32 x4) (r2 : R32 x3) (k1 : x3 ≤ x4 → X E d fX6_worstMile 67 [o0, o1, o2, some (J x3), some (J x4)] [] S (mI M) Q) (k2 : x4 < x3 → X E d fX6_worstMile 35 [o0, o1, o2, some (J x3), some (J x4)] [] S (mI M) Q) : X E d fX6_worstMile 29 [o0, o1, o2, some (J x3), some (J x4)] [] S (mI M) Q := by
  refine X_iload 31 (by decide +kernel : decode cX6_worstMile 29 = .ok (.iload 4, 2)) rfl rfl rfl ?_
  refine X_iload_n 32 (by decide +kernel : decode cX6_worstMile 31 = .ok (.iload_n 3, 1)) rfl rfl rfl ?_
  exact X_icmpge 67 35 (by decide +kernel : decode cX6_worstMile 32 = .ok (.if_icmp .ge 35, 3)) rfl rfl (by decide) r1 r2 k1 k2
theorem kX6_worstMile_35 {o0 : Option Value} {o1 : Option Value} {o2 : Option Value} {o3 : Option Value} {x4 : Int} (r1 : R32 x4) (k1 : 45 ≤ x4 → X E d fX6_worstMile 67 [o0, o1, o2, o3, some (J x4)] [] S (mI M) Q) (k2 : x4 < 45 → X E d fX6_worstMile 42 [o0, o1, o2, o3, some (J x4)] [] S (mI M) Q) : X E d fX6_worstMile 35 [o0, o1, o2, o3, some (J x4)] [] S (mI M) Q := by
  refine X_iload 37 (by decide +kernel : decode cX6_worstMile 35 = .ok (.iload 4, 2)) rfl rfl rfl ?_
  refine X_bipush 39 (45) (by decide +kernel : decode cX6_worstMile 37 = .ok (.bipush 45, 2)) rfl rfl (by decide +kernel) ?_
  exact X_icmpge 67 42 (by decide +kernel : decode cX6_worstMile 39 = .ok (.if_icmp .ge 28, 3)) rfl rfl (by decide) r1 ⟨by decide, by decide⟩ k1 k2
theorem kX6_worstMile_42 {a0 : Nat} {o1 : Option Value} {x2 : Int} {o3 : Option Value} {x4 : Int} {b2 : Nat} (g1 : aKd S a0 = 8) (p3 : aP S a0 4 = some b2) (g4 : aKd S b2 = 100) (r5 : R32 x4) (h6 : (0 : Int) ≤ x4 ∧ x4 < (aN S b2 : Int)) (r11 : R32 x2) (h12 : (0 : Int) ≤ x2 ∧ x2 < (aN S b2 : Int)) (r13 : R32 (M b2 x4.toNat)) (r14 : R32 (M b2 x2.toNat)) (k1 : (M b2 x2.toNat) ≤ (M b2 x4.toNat) → X E d fX6_worstMile 61 [some (.ref a0), o1, some (J x2), o3, some (J x4)] [] S (mI M) Q) (k2 : (M b2 x4.toNat) < (M b2 x2.toNat) → X E d fX6_worstMile 58 [some (.ref a0), o1, some (J x2), o3, some (J x4)] [] S (mI M) Q) : X E d fX6_worstMile 42 [some (.ref a0), o1, some (J x2), o3, some (J x4)] [] S (mI M) Q := by
  refine X_aload_n 43 (by decide +kernel : decode cX6_worstMile 42 = .ok (.aload_n 0, 1)) rfl rfl rfl ?_
  refine X_getR 46 (by decide +kernel : decode cX6_worstMile 43 = .ok (.getfield 9, 3)) rfl rfl (by decide +kernel : aFd 8 9 = some (8, 4, true, true)) g1 p3 ?_
  refine X_iload 48 (by decide +kernel : decode cX6_worstMile 46 = .ok (.iload 4, 2)) rfl rfl rfl ?_
  refine X_iald 49 (by decide +kernel : decode cX6_worstMile 48 = .ok (.iaload, 1)) rfl rfl g4 r5 h6 ?_
  refine X_aload_n 50 (by decide +kernel : decode cX6_worstMile 49 = .ok (.aload_n 0, 1)) rfl rfl rfl ?_
  refine X_getR 53 (by decide +kernel : decode cX6_worstMile 50 = .ok (.getfield 9, 3)) rfl rfl (by decide +kernel : aFd 8 9 = some (8, 4, true, true)) g1 p3 ?_
  refine X_iload_n 54 (by decide +kernel : decode cX6_worstMile 53 = .ok (.iload_n 2, 1)) rfl rfl rfl ?_
  refine X_iald 55 (by decide +kernel : decode cX6_worstMile 54 = .ok (.iaload, 1)) rfl rfl g4 r11 h12 ?_
  exact X_icmpge 61 58 (by decide +kernel : decode cX6_worstMile 55 = .ok (.if_icmp .ge 6, 3)) rfl rfl (by decide) r13 r14 k1 k2
theorem kX6_worstMile_58 {o0 : Option Value} {o1 : Option Value} {o2 : Option Value} {o3 : Option Value} {x4 : Int} (k : X E d fX6_worstMile 61 [o0, o1, some (J x4), o3, some (J x4)] [] S (mI M) Q) : X E d fX6_worstMile 58 [o0, o1, o2, o3, some (J x4)] [] S (mI M) Q := by
  refine X_iload 60 (by decide +kernel : decode cX6_worstMile 58 = .ok (.iload 4, 2)) rfl rfl rfl ?_
  refine X_istore_n 61 (by decide +kernel : decode cX6_worstMile 60 = .ok (.istore_n 2, 1)) rfl rfl (Nat.le_of_ble_eq_true rfl) rfl ?_
  exact k
theorem kX6_worstMile_61 {o0 : Option Value} {o1 : Option Value} {o2 : Option Value} {o3 : Option Value} {x4 : Int} (k : X E d fX6_worstMile 29 [o0, o1, o2, o3, some (J (x4 + 1))] [] S (mI M) Q) : X E d fX6_worstMile 61 [o0, o1, o2, o3, some (J x4)] [] S (mI M) Q := by
  refine X_iinc 64 (by decide +kernel : decode cX6_worstMile 61 = .ok (.iinc 4 1, 3)) rfl rfl rfl rfl ?_
  exact X_goto 29 (by decide +kernel : decode cX6_worstMile 64 = .ok (.goto (-35), 3)) rfl (by decide) k
theorem kX6_worstMile_67 {o0 : Option Value} {o1 : Option Value} {x2 : Int} {o3 : Option Value} {o4 : Option Value} (q : Q (some (some (J x2))) S (mI M)) : X E d fX6_worstMile 67 [o0, o1, some (J x2), o3, o4] [] S (mI M) Q := by
  refine X_iload_n 68 (by decide +kernel : decode cX6_worstMile 67 = .ok (.iload_n 2, 1)) rfl rfl rfl ?_
  exact X_iret (by decide +kernel : decode cX6_worstMile 68 = .ok (.ireturn, 1)) rfl rfl rfl q
theorem kX6_keepCoinsInBounds_0 {a0 : Nat} (g1 : aKd S a0 = 8) (r2 : R32 (M a0 3)) (k1 : (M a0 3) ≤ 99999 → X E d fX6_keepCoinsInBounds 15 [some (.ref a0)] [] S (mI M) Q) (k2 : 99999 < (M a0 3) → X E d fX6_keepCoinsInBounds 9 [some (.ref a0)] [] S (mI M) Q) : X E d fX6_keepCoinsInBounds 0 [some (.ref a0)] [] S (mI M) Q := by
  refine X_aload_n 1 (by decide +kernel : decode cX6_keepCoinsInBounds 0 = .ok (.aload_n 0, 1)) rfl rfl rfl ?_
  refine X_getI 4 (by decide +kernel : decode cX6_keepCoinsInBounds 1 = .ok (.getfield 56, 3)) rfl rfl (by decide +kernel : aFd 8 56 = some (8, 3, false, false)) g1 ?_
  refine X_ldcI 6 (99999) (by decide +kernel : decode cX6_keepCoinsInBounds 4 = .ok (.ldc 109, 2)) rfl rfl rfl rfl ?_
  exact X_icmple 15 9 (by decide +kernel : decode cX6_keepCoinsInBounds 6 = .ok (.if_icmp .le 9, 3)) rfl rfl (by decide) r2 ⟨by decide, by decide⟩ k1 k2
theorem kX6_keepCoinsInBounds_9 {a0 : Nat} (g1 : aK S a0 = 8) (k : X E d fX6_keepCoinsInBounds 15 [some (.ref a0)] [] S (mI (mW M a0 3 99999)) Q) : X E d fX6_keepCoinsInBounds 9 [some (.ref a0)] [] S (mI M) Q := by
  refine X_aload_n 10 (by decide +kernel : decode cX6_keepCoinsInBounds 9 = .ok (.aload_n 0, 1)) rfl rfl rfl ?_
  refine X_ldcI 12 (99999) (by decide +kernel : decode cX6_keepCoinsInBounds 10 = .ok (.ldc 109, 2)) rfl rfl rfl rfl ?_
  refine X_putI 15 (by decide +kernel : decode cX6_keepCoinsInBounds 12 = .ok (.putfield 56, 3)) rfl rfl (by decide +kernel : aFd 8 56 = some (8, 3, false, false)) (Or.inl rfl) g1 rfl rfl ?_
  exact k
theorem kX6_keepCoinsInBounds_15 {o0 : Option Value} (q : Q (some none) S (mI M)) : X E d fX6_keepCoinsInBounds 15 [o0] [] S (mI M) Q := by
  exact X_vret (by decide +kernel : decode cX6_keepCoinsInBounds 15 = .ok (.return_, 1)) rfl rfl q
theorem kX6_begin_0 {a0 : Nat} {a1 : Nat} {o2 : Option Value} (g1 : aK S a0 = 8) (k : X E d fX6_begin 14 [some (.ref a0), some (.ref a1), some (J 0)] [] (aPut S a0 1 (some a1)) (mI (mW M a0 3 200)) Q) : X E d fX6_begin 0 [some (.ref a0), some (.ref a1), o2] [] S (mI M) Q := by
  refine X_aload_n 1 (by decide +kernel : decode cX6_begin 0 = .ok (.aload_n 0, 1)) rfl rfl rfl ?_
  refine X_aload_n 2 (by decide +kernel : decode cX6_begin 1 = .ok (.aload_n 1, 1)) rfl rfl rfl ?_
  refine X_putR 5 (by decide +kernel : decode cX6_begin 2 = .ok (.putfield 52, 3)) rfl rfl (by decide +kernel : aFd 8 52 = some (8, 1, true, false)) (Or.inl rfl) g1 rfl ?_
  refine X_aload_n 6 (by decide +kernel : decode cX6_begin 5 = .ok (.aload_n 0, 1)) rfl rfl rfl ?_
  refine X_sipush 9 (200) (by decide +kernel : decode cX6_begin 6 = .ok (.sipush 200, 3)) rfl rfl (by decide +kernel) ?_
  refine X_putI 12 (by decide +kernel : decode cX6_begin 9 = .ok (.putfield 56, 3)) rfl rfl (by decide +kernel : aFd 8 56 = some (8, 3, false, false)) (Or.inl rfl) g1 rfl rfl ?_
  refine X_iconst 13 (by decide +kernel : decode cX6_begin 12 = .ok (.iconst 0, 1)) rfl rfl ?_
  refine X_istore_n 14 (by decide +kernel : decode cX6_begin 13 = .ok (.istore_n 2, 1)) rfl rfl (Nat.le_of_ble_eq_true rfl) rfl ?_
  exact k
theorem kX6_begin_14 {o0 : Option Value} {o1 : Option Value} {x2 : Int} (r1 : R32 x2) (k1 : 45 ≤ x2 → X E d fX6_begin 41 [o0, o1, some (J x2)] [] S (mI M) Q) (k2 : x2 < 45 → X E d fX6_begin 20 [o0, o1, some (J x2)] [] S (mI M) Q) : X E d fX6_begin 14 [o0, o1, some (J x2)] [] S (mI M) Q := by
  refine X_iload_n 15 (by decide +kernel : decode cX6_begin 14 = .ok (.iload_n 2, 1)) rfl rfl rfl ?_
  refine X_bipush 17 (45) (by decide +kernel : decode cX6_begin 15 = .ok (.bipush 45, 2)) rfl rfl (by decide +kernel) ?_
  exact X_icmpge 41 20 (by decide +kernel : decode cX6_begin 17 = .ok (.if_icmp .ge 24, 3)) rfl rfl (by decide) r1 ⟨by decide, by decide⟩ k1 k2
theorem kX6_begin_20 {a0 : Nat} {o1 : Option Value} {x2 : Int} {b2 : Nat} {b8 : Nat} (g1 : aKd S a0 = 8) (p3 : aP S a0 4 = some b2) (g4 : aK S b2 = 100) (r5 : R32 x2) (h6 : (0 : Int) ≤ x2 ∧ x2 < (aN S b2 : Int)) (p9 : aP S a0 5 = some b8) (g10 : aK S b8 = 100) (h12 : (0 : Int) ≤ x2 ∧ x2 < (aN S b8 : Int)) (k : X E d fX6_begin 14 [some (.ref a0), o1, some (J (x2 + 1))] [] S (mI (mW (mW M b2 x2.toNat 100) b8 x2.toNat 0)) Q) : X E d fX6_begin 20 [some (.ref a0), o1, some (J x2)] [] S (mI M) Q := by
  refine X_aload_n 21 (by decide +kernel : decode cX6_begin 20 = .ok (.aload_n 0, 1)) rfl rfl rfl ?_
  refine X_getR 24 (by decide +kernel : decode cX6_begin 21 = .ok (.getfield 9, 3)) rfl rfl (by decide +kernel : aFd 8 9 = some (8, 4, true, true)) g1 p3 ?_
  refine X_iload_n 25 (by decide +kernel : decode cX6_begin 24 = .ok (.iload_n 2, 1)) rfl rfl rfl ?_
  refine X_bipush 27 (100) (by decide +kernel : decode cX6_begin 25 = .ok (.bipush 100, 2)) rfl rfl (by decide +kernel) ?_
  refine X_iast 28 (by decide +kernel : decode cX6_begin 27 = .ok (.iastore, 1)) rfl rfl g4 r5 h6 ?_
  refine X_aload_n 29 (by decide +kernel : decode cX6_begin 28 = .ok (.aload_n 0, 1)) rfl rfl rfl ?_
  refine X_getR 32 (by decide +kernel : decode cX6_begin 29 = .ok (.getfield 15, 3)) rfl rfl (by decide +kernel : aFd 8 15 = some (8, 5, true, true)) g1 p9 ?_
  refine X_iload_n 33 (by decide +kernel : decode cX6_begin 32 = .ok (.iload_n 2, 1)) rfl rfl rfl ?_
  refine X_iconst 34 (by decide +kernel : decode cX6_begin 33 = .ok (.iconst 0, 1)) rfl rfl ?_
  refine X_iast 35 (by decide +kernel : decode cX6_begin 34 = .ok (.iastore, 1)) rfl rfl g10 r5 h12 ?_
  refine X_iinc 38 (by decide +kernel : decode cX6_begin 35 = .ok (.iinc 2 1, 3)) rfl rfl rfl rfl ?_
  exact X_goto 14 (by decide +kernel : decode cX6_begin 38 = .ok (.goto (-24), 3)) rfl (by decide) k
theorem kX6_begin_41 {o0 : Option Value} {o1 : Option Value} {o2 : Option Value} (k : X E d fX6_begin 43 [o0, o1, some (J 0)] [] S (mI M) Q) : X E d fX6_begin 41 [o0, o1, o2] [] S (mI M) Q := by
  refine X_iconst 42 (by decide +kernel : decode cX6_begin 41 = .ok (.iconst 0, 1)) rfl rfl ?_
  refine X_istore_n 43 (by decide +kernel : decode cX6_begin 42 = .ok (.istore_n 2, 1)) rfl rfl (Nat.le_of_ble_eq_true rfl) rfl ?_
  exact k
theorem kX6_begin_43 {o0 : Option Value} {o1 : Option Value} {x2 : Int} (r1 : R32 x2) (k1 : 5 ≤ x2 → X E d fX6_begin 61 [o0, o1, some (J x2)] [] S (mI M) Q) (k2 : x2 < 5 → X E d fX6_begin 48 [o0, o1, some (J x2)] [] S (mI M) Q) : X E d fX6_begin 43 [o0, o1, some (J x2)] [] S (mI M) Q := by
  refine X_iload_n 44 (by decide +kernel : decode cX6_begin 43 = .ok (.iload_n 2, 1)) rfl rfl rfl ?_
  refine X_iconst 45 (by decide +kernel : decode cX6_begin 44 = .ok (.iconst 5, 1)) rfl rfl ?_
  exact X_icmpge 61 48 (by decide +kernel : decode cX6_begin 45 = .ok (.if_icmp .ge 16, 3)) rfl rfl (by decide) r1 ⟨by decide, by decide⟩ k1 k2
theorem kX6_begin_48 {a0 : Nat} {o1 : Option Value} {x2 : Int} {b2 : Nat} (g1 : aKd S a0 = 8) (p3 : aP S a0 6 = some b2) (g4 : aK S b2 = 100) (r5 : R32 x2) (h6 : (0 : Int) ≤ x2 ∧ x2 < (aN S b2 : Int)) (k : X E d fX6_begin 43 [some (.ref a0), o1, some (J (x2 + 1))] [] S (mI (mW M b2 x2.toNat 0)) Q) : X E d fX6_begin 48 [some (.ref a0), o1, some (J x2)] [] S (mI M) Q := by
  refine X_aload_n 49 (by decide +kernel : decode cX6_begin 48 = .ok (.aload_n 0, 1)) rfl rfl rfl ?_
  refine X_getR 52 (by decide +kernel : decode cX6_begin 49 = .ok (.getfield 18, 3)) rfl rfl (by decide +kernel : aFd 8 18 = some (8, 6, true, true)) g1 p3 ?_
  refine X_iload_n 53 (by decide +kernel : decode cX6_begin 52 = .ok (.iload_n 2, 1)) rfl rfl rfl ?_
  refine X_iconst 54 (by decide +kernel : decode cX6_begin 53 = .ok (.iconst 0, 1)) rfl rfl ?_
  refine X_iast 55 (by decide +kernel : decode cX6_begin 54 = .ok (.iastore, 1)) rfl rfl g4 r5 h6 ?_
  refine X_iinc 58 (by decide +kernel : decode cX6_begin 55 = .ok (.iinc 2 1, 3)) rfl rfl rfl rfl ?_
  exact X_goto 43 (by decide +kernel : decode cX6_begin 58 = .ok (.goto (-15), 3)) rfl (by decide) k
theorem kX6_begin_61 {o0 : Option Value} {o1 : Option Value} {o2 : Option Value} (k : X E d fX6_begin 63 [o0, o1, some (J 0)] [] S (mI M) Q) : X E d fX6_begin 61 [o0, o1, o2] [] S (mI M) Q := by
  refine X_iconst 62 (by decide +kernel : decode cX6_begin 61 = .ok (.iconst 0, 1)) rfl rfl ?_
  refine X_istore_n 63 (by decide +kernel : decode cX6_begin 62 = .ok (.istore_n 2, 1)) rfl rfl (Nat.le_of_ble_eq_true rfl) rfl ?_
  exact k
theorem kX6_begin_63 {o0 : Option Value} {o1 : Option Value} {x2 : Int} (r1 : R32 x2) (k1 : 5 ≤ x2 → X E d fX6_begin 117 [o0, o1, some (J x2)] [] S (mI M) Q) (k2 : x2 < 5 → X E d fX6_begin 68 [o0, o1, some (J x2)] [] S (mI M) Q) : X E d fX6_begin 63 [o0, o1, some (J x2)] [] S (mI M) Q := by
  refine X_iload_n 64 (by decide +kernel : decode cX6_begin 63 = .ok (.iload_n 2, 1)) rfl rfl rfl ?_
  refine X_iconst 65 (by decide +kernel : decode cX6_begin 64 = .ok (.iconst 5, 1)) rfl rfl ?_
  exact X_icmpge 117 68 (by decide +kernel : decode cX6_begin 65 = .ok (.if_icmp .ge 52, 3)) rfl rfl (by decide) r1 ⟨by decide, by decide⟩ k1 k2
theorem kX6_begin_68 {a0 : Nat} {o1 : Option Value} {x2 : Int} {b2 : Nat} {b5 : Nat} {b8 : Nat} {b17 : Nat} {b23 : Nat} {M_28 : Nat → Nat → Int} {b30 : Nat} {b36 : Nat} (g1 : aKd S a0 = 8) (p3 : aP S a0 7 = some b2) (p6 : aP S a0 1 = some b5) (g7 : aKd S b5 = 5) (p9 : aP S b5 9 = some b8) (g10 : aKd S b8 = 100) (r11 : R32 x2) (h12 : (0 : Int) ≤ x2 ∧ x2 < (aN S b8 : Int)) (g13 : aK S b2 = 100) (h15 : (0 : Int) ≤ x2 ∧ x2 < (aN S b2 : Int)) (p18 : aP S a0 8 = some b17) (g19 : aK S b17 = 100) (h21 : (0 : Int) ≤ x2 ∧ x2 < (aN S b17 : Int)) (p24 : aP S a0 9 = some b23) (g25 : aK S b23 = 100) (h27 : (0 : Int) ≤ x2 ∧ x2 < (aN S b23 : Int)) (eM_28 : mW (mW (mW M b2 x2.toNat (M b8 x2.toNat)) b17 x2.toNat 0) b23 x2.toNat 0 = M_28) (p31 : aP S a0 10 = some b30) (g32 : aK S b30 = 100) (h34 : (0 : Int) ≤ x2 ∧ x2 < (aN S b30 : Int)) (p37 : aP S a0 11 = some b36) (g38 : aK S b36 = 100) (h40 : (0 : Int) ≤ x2 ∧ x2 < (aN S b36 : Int)) (k : X E d fX6_begin 63 [some (.ref a0), o1, some (J (x2 + 1))] [] S (mI (mW (mW M_28 b30 x2.toNat (-1)) b36 x2.toNat 0)) Q) : X E d fX6_begin 68 [some (.ref a0), o1, some (J x2)] [] S (mI M) Q := by
  refine X_aload_n 69 (by decide +kernel : decode cX6_begin 68 = .ok (.aload_n 0, 1)) rfl rfl rfl ?_
  refine X_getR 72 (by decide +kernel : decode cX6_begin 69 = .ok (.getfield 21, 3)) rfl rfl (by decide +kernel : aFd 8 21 = some (8, 7, true, true)) g1 p3 ?_
  refine X_iload_n 73 (by decide +kernel : decode cX6_begin 72 = .ok (.iload_n 2, 1)) rfl rfl rfl ?_
  refine X_aload_n 74 (by decide +kernel : decode cX6_begin 73 = .ok (.aload_n 0, 1)) rfl rfl rfl ?_
  refine X_getR 77 (by decide +kernel : decode cX6_begin 74 = .ok (.getfield 52, 3)) rfl rfl (by decide +kernel : aFd 8 52 = some (8, 1, true, false)) g1 p6 ?_
  refine X_getR 80 (by decide +kernel : decode cX6_begin 77 = .ok (.getfield 63, 3)) rfl rfl (by decide +kernel : aFd 8 63 = some (5, 9, true, true)) g7 p9 ?_
  refine X_iload_n 81 (by decide +kernel : decode cX6_begin 80 = .ok (.iload_n 2, 1)) rfl rfl rfl ?_
  refine X_iald 82 (by decide +kernel : decode cX6_begin 81 = .ok (.iaload, 1)) rfl rfl g10 r11 h12 ?_
  refine X_iast 83 (by decide +kernel : decode cX6_begin 82 = .ok (.iastore, 1)) rfl rfl g13 r11 h15 ?_
  refine X_aload_n 84 (by decide +kernel : decode cX6_begin 83 = .ok (.aload_n 0, 1)) rfl rfl rfl ?_
  refine X_getR 87 (by decide +kernel : decode cX6_begin 84 = .ok (.getfield 24, 3)) rfl rfl (by decide +kernel : aFd 8 24 = some (8, 8, true, true)) g1 p18 ?_
  refine X_iload_n 88 (by decide +kernel : decode cX6_begin 87 = .ok (.iload_n 2, 1)) rfl rfl rfl ?_
  refine X_iconst 89 (by decide +kernel : decode cX6_begin 88 = .ok (.iconst 0, 1)) rfl rfl ?_
  refine X_iast 90 (by decide +kernel : decode cX6_begin 89 = .ok (.iastore, 1)) rfl rfl g19 r11 h21 ?_
  refine X_aload_n 91 (by decide +kernel : decode cX6_begin 90 = .ok (.aload_n 0, 1)) rfl rfl rfl ?_
  refine X_getR 94 (by decide +kernel : decode cX6_begin 91 = .ok (.getfield 27, 3)) rfl rfl (by decide +kernel : aFd 8 27 = some (8, 9, true, true)) g1 p24 ?_
  refine X_iload_n 95 (by decide +kernel : decode cX6_begin 94 = .ok (.iload_n 2, 1)) rfl rfl rfl ?_
  refine X_iconst 96 (by decide +kernel : decode cX6_begin 95 = .ok (.iconst 0, 1)) rfl rfl ?_
  refine X_iast 97 (by decide +kernel : decode cX6_begin 96 = .ok (.iastore, 1)) rfl rfl g25 r11 h27 ?_
  show X E d fX6_begin 97 [some (.ref a0), o1, some (J x2)] [] S (mI (mW (mW (mW M b2 x2.toNat (M b8 x2.toNat)) b17 x2.toNat 0) b23 x2.toNat 0)) Q
  rw [eM_28]
  refine X_aload_n 98 (by decide +kernel : decode cX6_begin 97 = .ok (.aload_n 0, 1)) rfl rfl rfl ?_
  refine X_getR 101 (by decide +kernel : decode cX6_begin 98 = .ok (.getfield 30, 3)) rfl rfl (by decide +kernel : aFd 8 30 = some (8, 10, true, true)) g1 p31 ?_
  refine X_iload_n 102 (by decide +kernel : decode cX6_begin 101 = .ok (.iload_n 2, 1)) rfl rfl rfl ?_
  refine X_iconst 103 (by decide +kernel : decode cX6_begin 102 = .ok (.iconst (-1), 1)) rfl rfl ?_
  refine X_iast 104 (by decide +kernel : decode cX6_begin 103 = .ok (.iastore, 1)) rfl rfl g32 r11 h34 ?_
  refine X_aload_n 105 (by decide +kernel : decode cX6_begin 104 = .ok (.aload_n 0, 1)) rfl rfl rfl ?_
  refine X_getR 108 (by decide +kernel : decode cX6_begin 105 = .ok (.getfield 33, 3)) rfl rfl (by decide +kernel : aFd 8 33 = some (8, 11, true, true)) g1 p37 ?_
  refine X_iload_n 109 (by decide +kernel : decode cX6_begin 108 = .ok (.iload_n 2, 1)) rfl rfl rfl ?_
  refine X_iconst 110 (by decide +kernel : decode cX6_begin 109 = .ok (.iconst 0, 1)) rfl rfl ?_
  refine X_iast 111 (by decide +kernel : decode cX6_begin 110 = .ok (.iastore, 1)) rfl rfl g38 r11 h40 ?_
  refine X_iinc 114 (by decide +kernel : decode cX6_begin 111 = .ok (.iinc 2 1, 3)) rfl rfl rfl rfl ?_
  exact X_goto 63 (by decide +kernel : decode cX6_begin 114 = .ok (.goto (-51), 3)) rfl (by decide) k
theorem kX6_begin_117 {o0 : Option Value} {o1 : Option Value} {o2 : Option Value} (k : X E d fX6_begin 119 [o0, o1, some (J 0)] [] S (mI M) Q) : X E d fX6_begin 117 [o0, o1, o2] [] S (mI M) Q := by
  refine X_iconst 118 (by decide +kernel : decode cX6_begin 117 = .ok (.iconst 0, 1)) rfl rfl ?_
  refine X_istore_n 119 (by decide +kernel : decode cX6_begin 118 = .ok (.istore_n 2, 1)) rfl rfl (Nat.le_of_ble_eq_true rfl) rfl ?_
  exact k
theorem kX6_begin_119 {o0 : Option Value} {o1 : Option Value} {x2 : Int} (r1 : R32 x2) (k1 : 8 ≤ x2 → X E d fX6_begin 167 [o0, o1, some (J x2)] [] S (mI M) Q) (k2 : x2 < 8 → X E d fX6_begin 125 [o0, o1, some (J x2)] [] S (mI M) Q) : X E d fX6_begin 119 [o0, o1, some (J x2)] [] S (mI M) Q := by
  refine X_iload_n 120 (by decide +kernel : decode cX6_begin 119 = .ok (.iload_n 2, 1)) rfl rfl rfl ?_
  refine X_bipush 122 (8) (by decide +kernel : decode cX6_begin 120 = .ok (.bipush 8, 2)) rfl rfl (by decide +kernel) ?_
  exact X_icmpge 167 125 (by decide +kernel : decode cX6_begin 122 = .ok (.if_icmp .ge 45, 3)) rfl rfl (by decide) r1 ⟨by decide, by decide⟩ k1 k2
theorem kX6_begin_125 {a0 : Nat} {o1 : Option Value} {x2 : Int} {b2 : Nat} {b5 : Nat} {b8 : Nat} {b17 : Nat} {b23 : Nat} {M_28 : Nat → Nat → Int} {b30 : Nat} (g1 : aKd S a0 = 8) (p3 : aP S a0 12 = some b2) (p6 : aP S a0 1 = some b5) (g7 : aKd S b5 = 5) (p9 : aP S b5 11 = some b8) (g10 : aKd S b8 = 100) (r11 : R32 x2) (h12 : (0 : Int) ≤ x2 ∧ x2 < (aN S b8 : Int)) (g13 : aK S b2 = 100) (h15 : (0 : Int) ≤ x2 ∧ x2 < (aN S b2 : Int)) (p18 : aP S a0 13 = some b17) (g19 : aK S b17 = 100) (h21 : (0 : Int) ≤ x2 ∧ x2 < (aN S b17 : Int)) (p24 : aP S a0 14 = some b23) (g25 : aK S b23 = 100) (h27 : (0 : Int) ≤ x2 ∧ x2 < (aN S b23 : Int)) (eM_28 : mW (mW (mW M b2 x2.toNat (M b8 x2.toNat)) b17 x2.toNat 0) b23 x2.toNat 0 = M_28) (p31 : aP S a0 15 = some b30) (g32 : aK S b30 = 100) (h34 : (0 : Int) ≤ x2 ∧ x2 < (aN S b30 : Int)) (k : X E d fX6_begin 119 [some (.ref a0), o1, some (J (x2 + 1))] [] S (mI (mW M_28 b30 x2.toNat 0)) Q) : X E d fX6_begin 125 [some (.ref a0), o1, some (J x2)] [] S (mI M) Q := by
  refine X_aload_n 126 (by decide +kernel : decode cX6_begin 125 = .ok (.aload_n 0, 1)) rfl rfl rfl ?_
  refine X_getR 129 (by decide +kernel : decode cX6_begin 126 = .ok (.getfield 36, 3)) rfl rfl (by decide +kernel : aFd 8 36 = some (8, 12, true, true)) g1 p3 ?_
  refine X_iload_n 130 (by decide +kernel : decode cX6_begin 129 = .ok (.iload_n 2, 1)) rfl rfl rfl ?_
  refine X_aload_n 131 (by decide +kernel : decode cX6_begin 130 = .ok (.aload_n 0, 1)) rfl rfl rfl ?_
  refine X_getR 134 (by decide +kernel : decode cX6_begin 131 = .ok (.getfield 52, 3)) rfl rfl (by decide +kernel : aFd 8 52 = some (8, 1, true, false)) g1 p6 ?_
  refine X_getR 137 (by decide +kernel : decode cX6_begin 134 = .ok (.getfield 68, 3)) rfl rfl (by decide +kernel : aFd 8 68 = some (5, 11, true, true)) g7 p9 ?_
  refine X_iload_n 138 (by decide +kernel : decode cX6_begin 137 = .ok (.iload_n 2, 1)) rfl rfl rfl ?_
  refine X_iald 139 (by decide +kernel : decode cX6_begin 138 = .ok (.iaload, 1)) rfl rfl g10 r11 h12 ?_
  refine X_iast 140 (by decide +kernel : decode cX6_begin 139 = .ok (.iastore, 1)) rfl rfl g13 r11 h15 ?_
  refine X_aload_n 141 (by decide +kernel : decode cX6_begin 140 = .ok (.aload_n 0, 1)) rfl rfl rfl ?_
  refine X_getR 144 (by decide +kernel : decode cX6_begin 141 = .ok (.getfield 39, 3)) rfl rfl (by decide +kernel : aFd 8 39 = some (8, 13, true, true)) g1 p18 ?_
  refine X_iload_n 145 (by decide +kernel : decode cX6_begin 144 = .ok (.iload_n 2, 1)) rfl rfl rfl ?_
  refine X_iconst 146 (by decide +kernel : decode cX6_begin 145 = .ok (.iconst 0, 1)) rfl rfl ?_
  refine X_iast 147 (by decide +kernel : decode cX6_begin 146 = .ok (.iastore, 1)) rfl rfl g19 r11 h21 ?_
  refine X_aload_n 148 (by decide +kernel : decode cX6_begin 147 = .ok (.aload_n 0, 1)) rfl rfl rfl ?_
  refine X_getR 151 (by decide +kernel : decode cX6_begin 148 = .ok (.getfield 42, 3)) rfl rfl (by decide +kernel : aFd 8 42 = some (8, 14, true, true)) g1 p24 ?_
  refine X_iload_n 152 (by decide +kernel : decode cX6_begin 151 = .ok (.iload_n 2, 1)) rfl rfl rfl ?_
  refine X_iconst 153 (by decide +kernel : decode cX6_begin 152 = .ok (.iconst 0, 1)) rfl rfl ?_
  refine X_iast 154 (by decide +kernel : decode cX6_begin 153 = .ok (.iastore, 1)) rfl rfl g25 r11 h27 ?_
  show X E d fX6_begin 154 [some (.ref a0), o1, some (J x2)] [] S (mI (mW (mW (mW M b2 x2.toNat (M b8 x2.toNat)) b17 x2.toNat 0) b23 x2.toNat 0)) Q
  rw [eM_28]
  refine X_aload_n 155 (by decide +kernel : decode cX6_begin 154 = .ok (.aload_n 0, 1)) rfl rfl rfl ?_
  refine X_getR 158 (by decide +kernel : decode cX6_begin 155 = .ok (.getfield 45, 3)) rfl rfl (by decide +kernel : aFd 8 45 = some (8, 15, true, true)) g1 p31 ?_
  refine X_iload_n 159 (by decide +kernel : decode cX6_begin 158 = .ok (.iload_n 2, 1)) rfl rfl rfl ?_
  refine X_iconst 160 (by decide +kernel : decode cX6_begin 159 = .ok (.iconst 0, 1)) rfl rfl ?_
  refine X_iast 161 (by decide +kernel : decode cX6_begin 160 = .ok (.iastore, 1)) rfl rfl g32 r11 h34 ?_
  refine X_iinc 164 (by decide +kernel : decode cX6_begin 161 = .ok (.iinc 2 1, 3)) rfl rfl rfl rfl ?_
  exact X_goto 119 (by decide +kernel : decode cX6_begin 164 = .ok (.goto (-45), 3)) rfl (by decide) k
theorem kX6_begin_167 {o0 : Option Value} {o1 : Option Value} {o2 : Option Value} (q : Q (some none) S (mI M)) : X E d fX6_begin 167 [o0, o1, o2] [] S (mI M) Q := by
  exact X_vret (by decide +kernel : decode cX6_begin 167 = .ok (.return_, 1)) rfl rfl q
theorem kX7_isOutside_0 {x0 : Int} {o1 : Option Value} (r1 : R32 x0) (k1 : x0 < 0 → X E d fX7_isOutside 9 [some (J x0), o1] [] S (mI M) Q) (k2 : 0 ≤ x0 → X E d fX7_isOutside 4 [some (J x0), o1] [] S (mI M) Q) : X E d fX7_isOutside 0 [some (J x0), o1] [] S (mI M) Q := by
  refine X_iload_n 1 (by decide +kernel : decode cX7_isOutside 0 = .ok (.iload_n 0, 1)) rfl rfl rfl ?_
  exact X_iflt 9 4 (by decide +kernel : decode cX7_isOutside 1 = .ok (.ifCond .lt 8, 3)) rfl rfl (by decide) r1 k1 k2
theorem kX7_isOutside_4 {x0 : Int} {x1 : Int} (r1 : R32 x0) (r2 : R32 x1) (k1 : x0 < x1 → X E d fX7_isOutside 13 [some (J x0), some (J x1)] [] S (mI M) Q) (k2 : x1 ≤ x0 → X E d fX7_isOutside 9 [some (J x0), some (J x1)] [] S (mI M) Q) : X E d fX7_isOutside 4 [some (J x0), some (J x1)] [] S (mI M) Q := by
  refine X_iload_n 5 (by decide +kernel : decode cX7_isOutside 4 = .ok (.iload_n 0, 1)) rfl rfl rfl ?_
  refine X_iload_n 6 (by decide +kernel : decode cX7_isOutside 5 = .ok (.iload_n 1, 1)) rfl rfl rfl ?_
  exact X_icmplt 13 9 (by decide +kernel : decode cX7_isOutside 6 = .ok (.if_icmp .lt 7, 3)) rfl rfl (by decide) r1 r2 k1 k2
theorem kX7_isOutside_9 {o0 : Option Value} {o1 : Option Value} (k : X E d fX7_isOutside 14 [o0, o1] [J 1] S (mI M) Q) : X E d fX7_isOutside 9 [o0, o1] [] S (mI M) Q := by
  refine X_iconst 10 (by decide +kernel : decode cX7_isOutside 9 = .ok (.iconst 1, 1)) rfl rfl ?_
  exact X_goto 14 (by decide +kernel : decode cX7_isOutside 10 = .ok (.goto 4, 3)) rfl (by decide) k
theorem kX7_isOutside_13 {o0 : Option Value} {o1 : Option Value} (k : X E d fX7_isOutside 14 [o0, o1] [J 0] S (mI M) Q) : X E d fX7_isOutside 13 [o0, o1] [] S (mI M) Q := by
  refine X_iconst 14 (by decide +kernel : decode cX7_isOutside 13 = .ok (.iconst 0, 1)) rfl rfl ?_
  exact k
theorem kX7_isOutside_14 {o0 : Option Value} {o1 : Option Value} {t0 : Int} (h1 : narrow .boolean (J t0) = J t0) (q : Q (some (some (J t0))) S (mI M)) : X E d fX7_isOutside 14 [o0, o1] [J t0] S (mI M) Q := by
  exact X_iret (by decide +kernel : decode cX7_isOutside 14 = .ok (.ireturn, 1)) rfl rfl h1 q
theorem kX7_valueAt_0 {o0 : Option Value} {x1 : Int} (r1 : R32 x1) (k1 : x1 < 0 → X E d fX7_valueAt 16 [o0, some (J x1)] [] S (mI M) Q) (k2 : 0 ≤ x1 → X E d fX7_valueAt 4 [o0, some (J x1)] [] S (mI M) Q) : X E d fX7_valueAt 0 [o0, some (J x1)] [] S (mI M) Q := by
  refine X_iload_n 1 (by decide +kernel : decode cX7_valueAt 0 = .ok (.iload_n 1, 1)) rfl rfl rfl ?_
  exact X_iflt 16 4 (by decide +kernel : decode cX7_valueAt 1 = .ok (.ifCond .lt 15, 3)) rfl rfl (by decide) r1 k1 k2
theorem kX7_valueAt_4 {a0 : Nat} {x1 : Int} (g1 : aKd S a0 = 100 ∨ aKd S a0 = 101 ∨ aKd S a0 = 102) (r2 : R32 x1) (r3 : R32 ((aN S a0 : Int))) (k1 : (aN S a0 : Int) ≤ x1 → X E d fX7_valueAt 16 [some (.ref a0), some (J x1)] [] S (mI M) Q) (k2 : x1 < (aN S a0 : Int) → X E d fX7_valueAt 10 [some (.ref a0), some (J x1)] [] S (mI M) Q) : X E d fX7_valueAt 4 [some (.ref a0), some (J x1)] [] S (mI M) Q := by
  refine X_iload_n 5 (by decide +kernel : decode cX7_valueAt 4 = .ok (.iload_n 1, 1)) rfl rfl rfl ?_
  refine X_aload_n 6 (by decide +kernel : decode cX7_valueAt 5 = .ok (.aload_n 0, 1)) rfl rfl rfl ?_
  refine X_alen 7 (by decide +kernel : decode cX7_valueAt 6 = .ok (.arraylength, 1)) rfl rfl g1 ?_
  exact X_icmpge 16 10 (by decide +kernel : decode cX7_valueAt 7 = .ok (.if_icmp .ge 9, 3)) rfl rfl (by decide) r2 r3 k1 k2
theorem kX7_valueAt_10 {a0 : Nat} {x1 : Int} (g1 : aKd S a0 = 100) (r2 : R32 x1) (h3 : (0 : Int) ≤ x1 ∧ x1 < (aN S a0 : Int)) (k : X E d fX7_valueAt 17 [some (.ref a0), some (J x1)] [J (M a0 x1.toNat)] S (mI M) Q) : X E d fX7_valueAt 10 [some (.ref a0), some (J x1)] [] S (mI M) Q := by
  refine X_aload_n 11 (by decide +kernel : decode cX7_valueAt 10 = .ok (.aload_n 0, 1)) rfl rfl rfl ?_
  refine X_iload_n 12 (by decide +kernel : decode cX7_valueAt 11 = .ok (.iload_n 1, 1)) rfl rfl rfl ?_
  refine X_iald 13 (by decide +kernel : decode cX7_valueAt 12 = .ok (.iaload, 1)) rfl rfl g1 r2 h3 ?_
  exact X_goto 17 (by decide +kernel : decode cX7_valueAt 13 = .ok (.goto 4, 3)) rfl (by decide) k
theorem kX7_valueAt_16 {o0 : Option Value} {o1 : Option Value} (k : X E d fX7_valueAt 17 [o0, o1] [J 0] S (mI M) Q) : X E d fX7_valueAt 16 [o0, o1] [] S (mI M) Q := by
  refine X_iconst 17 (by decide +kernel : decode cX7_valueAt 16 = .ok (.iconst 0, 1)) rfl rfl ?_
  exact k
theorem kX7_valueAt_17 {o0 : Option Value} {o1 : Option Value} {t0 : Int} (q : Q (some (some (J t0))) S (mI M)) : X E d fX7_valueAt 17 [o0, o1] [J t0] S (mI M) Q := by
  exact X_iret (by decide +kernel : decode cX7_valueAt 17 = .ok (.ireturn, 1)) rfl rfl rfl q
theorem kX7_sumOf_0 {o0 : Option Value} {o1 : Option Value} {o2 : Option Value} {o3 : Option Value} (k : X E d fX7_sumOf 4 [o0, o1, some (J 0), some (J 0)] [] S (mI M) Q) : X E d fX7_sumOf 0 [o0, o1, o2, o3] [] S (mI M) Q := by
  refine X_iconst 1 (by decide +kernel : decode cX7_sumOf 0 = .ok (.iconst 0, 1)) rfl rfl ?_
  refine X_istore_n 2 (by decide +kernel : decode cX7_sumOf 1 = .ok (.istore_n 2, 1)) rfl rfl (Nat.le_of_ble_eq_true rfl) rfl ?_
  refine X_iconst 3 (by decide +kernel : decode cX7_sumOf 2 = .ok (.iconst 0, 1)) rfl rfl ?_
  refine X_istore_n 4 (by decide +kernel : decode cX7_sumOf 3 = .ok (.istore_n 3, 1)) rfl rfl (Nat.le_of_ble_eq_true rfl) rfl ?_
  exact k
theorem kX7_sumOf_4 {o0 : Option Value} {x1 : Int} {o2 : Option Value} {x3 : Int} (r1 : R32 x3) (r2 : R32 x1) (k1 : x1 ≤ x3 → X E d fX7_sumOf 27 [o0, some (J x1), o2, some (J x3)] [] S (mI M) Q) (k2 : x3 < x1 → X E d fX7_sumOf 9 [o0, some (J x1), o2, some (J x3)] [] S (mI M) Q) : X E d fX7_sumOf 4 [o0, some (J x1), o2, some (J x3)] [] S (mI M) Q := by
  refine X_iload_n 5 (by decide +kernel : decode cX7_sumOf 4 = .ok (.iload_n 3, 1)) rfl rfl rfl ?_
  refine X_iload_n 6 (by decide +kernel : decode cX7_sumOf 5 = .ok (.iload_n 1, 1)) rfl rfl rfl ?_
  exact X_icmpge 27 9 (by decide +kernel : decode cX7_sumOf 6 = .ok (.if_icmp .ge 21, 3)) rfl rfl (by decide) r1 r2 k1 k2
theorem kX7_sumOf_9 {a0 : Nat} {o1 : Option Value} {o2 : Option Value} {x3 : Int} (g1 : aKd S a0 = 100 ∨ aKd S a0 = 101 ∨ aKd S a0 = 102) (r2 : R32 x3) (r3 : R32 ((aN S a0 : Int))) (k1 : (aN S a0 : Int) ≤ x3 → X E d fX7_sumOf 27 [some (.ref a0), o1, o2, some (J x3)] [] S (mI M) Q) (k2 : x3 < (aN S a0 : Int) → X E d fX7_sumOf 15 [some (.ref a0), o1, o2, some (J x3)] [] S (mI M) Q) : X E d fX7_sumOf 9 [some (.ref a0), o1, o2, some (J x3)] [] S (mI M) Q := by
  refine X_iload_n 10 (by decide +kernel : decode cX7_sumOf 9 = .ok (.iload_n 3, 1)) rfl rfl rfl ?_
  refine X_aload_n 11 (by decide +kernel : decode cX7_sumOf 10 = .ok (.aload_n 0, 1)) rfl rfl rfl ?_
  refine X_alen 12 (by decide +kernel : decode cX7_sumOf 11 = .ok (.arraylength, 1)) rfl rfl g1 ?_
  exact X_icmpge 27 15 (by decide +kernel : decode cX7_sumOf 12 = .ok (.if_icmp .ge 15, 3)) rfl rfl (by decide) r2 r3 k1 k2
theorem kX7_sumOf_15 {a0 : Nat} {o1 : Option Value} {x2 : Int} {x3 : Int} (g1 : aKd S a0 = 100) (r2 : R32 x3) (h3 : (0 : Int) ≤ x3 ∧ x3 < (aN S a0 : Int)) (k : X E d fX7_sumOf 4 [some (.ref a0), o1, some (J (x2 + (M a0 x3.toNat))), some (J (x3 + 1))] [] S (mI M) Q) : X E d fX7_sumOf 15 [some (.ref a0), o1, some (J x2), some (J x3)] [] S (mI M) Q := by
  refine X_iload_n 16 (by decide +kernel : decode cX7_sumOf 15 = .ok (.iload_n 2, 1)) rfl rfl rfl ?_
  refine X_aload_n 17 (by decide +kernel : decode cX7_sumOf 16 = .ok (.aload_n 0, 1)) rfl rfl rfl ?_
  refine X_iload_n 18 (by decide +kernel : decode cX7_sumOf 17 = .ok (.iload_n 3, 1)) rfl rfl rfl ?_
  refine X_iald 19 (by decide +kernel : decode cX7_sumOf 18 = .ok (.iaload, 1)) rfl rfl g1 r2 h3 ?_
  refine X_iadd 20 (by decide +kernel : decode cX7_sumOf 19 = .ok (.iadd, 1)) rfl rfl ?_
  refine X_istore_n 21 (by decide +kernel : decode cX7_sumOf 20 = .ok (.istore_n 2, 1)) rfl rfl (Nat.le_of_ble_eq_true rfl) rfl ?_
  refine X_iinc 24 (by decide +kernel : decode cX7_sumOf 21 = .ok (.iinc 3 1, 3)) rfl rfl rfl rfl ?_
  exact X_goto 4 (by decide +kernel : decode cX7_sumOf 24 = .ok (.goto (-20), 3)) rfl (by decide) k
theorem kX7_sumOf_27 {o0 : Option Value} {o1 : Option Value} {x2 : Int} {o3 : Option Value} (q : Q (some (some (J x2))) S (mI M)) : X E d fX7_sumOf 27 [o0, o1, some (J x2), o3] [] S (mI M) Q := by
  refine X_iload_n 28 (by decide +kernel : decode cX7_sumOf 27 = .ok (.iload_n 2, 1)) rfl rfl rfl ?_
  exact X_iret (by decide +kernel : decode cX7_sumOf 28 = .ok (.ireturn, 1)) rfl rfl rfl q
end
