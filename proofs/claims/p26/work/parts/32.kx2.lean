/-! straight pieces of methods, by program (wip/p26/blk.py): X3_init X2_init X3_gatesAt X3_trafficsBy X2_reckon X2_ofOne X2_isOfTwo X2_ofTwo X2_ofNone X3_clear X3_layMiles -/
section
variable {E : Nat → Value} {d : Nat} {S : aS} {M : Nat → Nat → Int} {Q : Option (Option Value) → aS → aI → Prop}
theorem kX3_init_0 {a0 : Nat} {M_2 : Nat → Nat → Int} {S_4 : aS} {S_6 : aS} {M_7 : Nat → Nat → Int} {S_9 : aS} {M_11 : Nat → Nat → Int} {S_13 : aS} {S_15 : aS} {M_16 : Nat → Nat → Int} {S_18 : aS} {S_20 : aS} {M_21 : Nat → Nat → Int} {S_23 : aS} {S_25 : aS} {M_26 : Nat → Nat → Int} (g1 : aK (aNew S 100 5 5) a0 = 5) (eM_2 : aU (aU M (aX S) (fun _ => 0)) (aX (aPut (aNew S 100 5 5) a0 4 (some (aX S)))) (fun _ => 0) = M_2) (g3 : aK (aNew (aPut (aNew S 100 5 5) a0 4 (some (aX S))) 100 5 5) a0 = 5) (eS_4 : aPut (aNew (aPut (aNew S 100 5 5) a0 4 (some (aX S))) 100 5 5) a0 5 (some (aX (aPut (aNew S 100 5 5) a0 4 (some (aX S))))) = S_4) (g5 : aK (aNew S_4 100 5 5) a0 = 5) (eS_6 : aNew (aPut (aNew S_4 100 5 5) a0 6 (some (aX S_4))) 100 45 45 = S_6) (eM_7 : aU (aU M_2 (aX S_4) (fun _ => 0)) (aX (aPut (aNew S_4 100 5 5) a0 6 (some (aX S_4)))) (fun _ => 0) = M_7) (g8 : aK S_6 a0 = 5) (eS_9 : aPut S_6 a0 7 (some (aX (aPut (aNew S_4 100 5 5) a0 6 (some (aX S_4))))) = S_9) (g10 : aK (aNew S_9 100 5 5) a0 = 5) (eM_11 : aU (aU M_7 (aX S_9) (fun _ => 0)) (aX (aPut (aNew S_9 100 5 5) a0 8 (some (aX S_9)))) (fun _ => 0) = M_11) (g12 : aK (aNew (aPut (aNew S_9 100 5 5) a0 8 (some (aX S_9))) 100 5 5) a0 = 5) (eS_13 : aPut (aNew (aPut (aNew S_9 100 5 5) a0 8 (some (aX S_9))) 100 5 5) a0 9 (some (aX (aPut (aNew S_9 100 5 5) a0 8 (some (aX S_9))))) = S_13) (g14 : aK (aNew S_13 100 8 8) a0 = 5) (eS_15 : aNew (aPut (aNew S_13 100 8 8) a0 10 (some (aX S_13))) 100 8 8 = S_15) (eM_16 : aU (aU M_11 (aX S_13) (fun _ => 0)) (aX (aPut (aNew S_13 100 8 8) a0 10 (some (aX S_13)))) (fun _ => 0) = M_16) (g17 : aK S_15 a0 = 5) (eS_18 : aPut S_15 a0 11 (some (aX (aPut (aNew S_13 100 8 8) a0 10 (some (aX S_13))))) = S_18) (g19 : aK (aNew S_18 100 8 8) a0 = 5) (eS_20 : aNew (aPut (aNew S_18 100 8 8) a0 12 (some (aX S_18))) 100 8 8 = S_20) (eM_21 : aU (aU M_16 (aX S_18) (fun _ => 0)) (aX (aPut (aNew S_18 100 8 8) a0 12 (some (aX S_18)))) (fun _ => 0) = M_21) (g22 : aK S_20 a0 = 5) (eS_23 : aPut S_20 a0 13 (some (aX (aPut (aNew S_18 100 8 8) a0 12 (some (aX S_18))))) = S_23) (g24 : aK (aNew S_23 100 8 8) a0 = 5) (eS_25 : aNew (aPut (aNew S_23 100 8 8) a0 14 (some (aX S_23))) 3 11 11 = S_25) (eM_26 : aU (aU M_21 (aX S_23) (fun _ => 0)) (aX (aPut (aNew S_23 100 8 8) a0 14 (some (aX S_23)))) (fun _ => 0) = M_26) (hd1 : 1 ≤ d) (k : X E (d - 1) fX1_init 0 [some (.ref (aX (aPut (aNew S_23 100 8 8) a0 14 (some (aX S_23)))))] [] S_25 (mI M_26) (Kr E d fX3_init 95 [some (.ref a0)] [.ref (aX (aPut (aNew S_23 100 8 8) a0 14 (some (aX S_23)))), .ref a0] Q)) : X E d fX3_init 0 [some (.ref a0)] [] S (mI M) Q := by
  refine X_aload_n 1 (by decide +kernel : decode cX3_init 0 = .ok (.aload_n 0, 1)) rfl rfl rfl ?_
  refine X_obj 4 (by decide +kernel : decode cX3_init 1 = .ok (.invokespecial 3, 3)) rfl rfl rfl (Nat.le_of_ble_eq_true rfl) ?_
  refine X_aload_n 5 (by decide +kernel : decode cX3_init 4 = .ok (.aload_n 0, 1)) rfl rfl rfl ?_
  refine X_iconst 6 (by decide +kernel : decode cX3_init 5 = .ok (.iconst 5, 1)) rfl rfl ?_
  refine X_newI 8 (by decide +kernel : decode cX3_init 6 = .ok (.newarray .int, 2)) rfl rfl ⟨by decide, by decide⟩ ?_
  refine X_putR 11 (by decide +kernel : decode cX3_init 8 = .ok (.putfield 9, 3)) rfl rfl (by decide +kernel : aFd 5 9 = some (5, 4, true, true)) (Or.inr ⟨rfl, rfl⟩) g1 rfl ?_
  refine X_aload_n 12 (by decide +kernel : decode cX3_init 11 = .ok (.aload_n 0, 1)) rfl rfl rfl ?_
  refine X_iconst 13 (by decide +kernel : decode cX3_init 12 = .ok (.iconst 5, 1)) rfl rfl ?_
  refine X_newI 15 (by decide +kernel : decode cX3_init 13 = .ok (.newarray .int, 2)) rfl rfl ⟨by decide, by decide⟩ ?_
  show X E d fX3_init 15 [some (.ref a0)] [.ref (aX (aPut (aNew S 100 5 5) a0 4 (some (aX S)))), .ref a0] (aNew (aPut (aNew S 100 5 5) a0 4 (some (aX S))) 100 5 5) (mI (aU (aU M (aX S) (fun _ => 0)) (aX (aPut (aNew S 100 5 5) a0 4 (some (aX S)))) (fun _ => 0))) Q
  rw [eM_2]
  refine X_putR 18 (by decide +kernel : decode cX3_init 15 = .ok (.putfield 15, 3)) rfl rfl (by decide +kernel : aFd 5 15 = some (5, 5, true, true)) (Or.inr ⟨rfl, rfl⟩) g3 rfl ?_
  show X E d fX3_init 18 [some (.ref a0)] [] (aPut (aNew (aPut (aNew S 100 5 5) a0 4 (some (aX S))) 100 5 5) a0 5 (some (aX (aPut (aNew S 100 5 5) a0 4 (some (aX S)))))) (mI M_2) Q
  rw [eS_4]
  refine X_aload_n 19 (by decide +kernel : decode cX3_init 18 = .ok (.aload_n 0, 1)) rfl rfl rfl ?_
  refine X_iconst 20 (by decide +kernel : decode cX3_init 19 = .ok (.iconst 5, 1)) rfl rfl ?_
  refine X_newI 22 (by decide +kernel : decode cX3_init 20 = .ok (.newarray .int, 2)) rfl rfl ⟨by decide, by decide⟩ ?_
  refine X_putR 25 (by decide +kernel : decode cX3_init 22 = .ok (.putfield 18, 3)) rfl rfl (by decide +kernel : aFd 5 18 = some (5, 6, true, true)) (Or.inr ⟨rfl, rfl⟩) g5 rfl ?_
  refine X_aload_n 26 (by decide +kernel : decode cX3_init 25 = .ok (.aload_n 0, 1)) rfl rfl rfl ?_
  refine X_bipush 28 (45) (by decide +kernel : decode cX3_init 26 = .ok (.bipush 45, 2)) rfl rfl (by decide +kernel) ?_
  refine X_newI 30 (by decide +kernel : decode cX3_init 28 = .ok (.newarray .int, 2)) rfl rfl ⟨by decide, by decide⟩ ?_
  show X E d fX3_init 30 [some (.ref a0)] [.ref (aX (aPut (aNew S_4 100 5 5) a0 6 (some (aX S_4)))), .ref a0] (aNew (aPut (aNew S_4 100 5 5) a0 6 (some (aX S_4))) 100 45 45) (mI (aU (aU M_2 (aX S_4) (fun _ => 0)) (aX (aPut (aNew S_4 100 5 5) a0 6 (some (aX S_4)))) (fun _ => 0))) Q
  rw [eS_6]
  show X E d fX3_init 30 [some (.ref a0)] [.ref (aX (aPut (aNew S_4 100 5 5) a0 6 (some (aX S_4)))), .ref a0] S_6 (mI (aU (aU M_2 (aX S_4) (fun _ => 0)) (aX (aPut (aNew S_4 100 5 5) a0 6 (some (aX S_4)))) (fun _ => 0))) Q
  rw [eM_7]
  refine X_putR 33 (by decide +kernel : decode cX3_init 30 = .ok (.putfield 21, 3)) rfl rfl (by decide +kernel : aFd 5 21 = some (5, 7, true, true)) (Or.inr ⟨rfl, rfl⟩) g8 rfl ?_
  show X E d fX3_init 33 [some (.ref a0)] [] (aPut S_6 a0 7 (some (aX (aPut (aNew S_4 100 5 5) a0 6 (some (aX S_4)))))) (mI M_7) Q
  rw [eS_9]
  refine X_aload_n 34 (by decide +kernel : decode cX3_init 33 = .ok (.aload_n 0, 1)) rfl rfl rfl ?_
  refine X_iconst 35 (by decide +kernel : decode cX3_init 34 = .ok (.iconst 5, 1)) rfl rfl ?_
  refine X_newI 37 (by decide +kernel : decode cX3_init 35 = .ok (.newarray .int, 2)) rfl rfl ⟨by decide, by decide⟩ ?_
  refine X_putR 40 (by decide +kernel : decode cX3_init 37 = .ok (.putfield 24, 3)) rfl rfl (by decide +kernel : aFd 5 24 = some (5, 8, true, true)) (Or.inr ⟨rfl, rfl⟩) g10 rfl ?_
  refine X_aload_n 41 (by decide +kernel : decode cX3_init 40 = .ok (.aload_n 0, 1)) rfl rfl rfl ?_
  refine X_iconst 42 (by decide +kernel : decode cX3_init 41 = .ok (.iconst 5, 1)) rfl rfl ?_
  refine X_newI 44 (by decide +kernel : decode cX3_init 42 = .ok (.newarray .int, 2)) rfl rfl ⟨by decide, by decide⟩ ?_
  show X E d fX3_init 44 [some (.ref a0)] [.ref (aX (aPut (aNew S_9 100 5 5) a0 8 (some (aX S_9)))), .ref a0] (aNew (aPut (aNew S_9 100 5 5) a0 8 (some (aX S_9))) 100 5 5) (mI (aU (aU M_7 (aX S_9) (fun _ => 0)) (aX (aPut (aNew S_9 100 5 5) a0 8 (some (aX S_9)))) (fun _ => 0))) Q
  rw [eM_11]
  refine X_putR 47 (by decide +kernel : decode cX3_init 44 = .ok (.putfield 27, 3)) rfl rfl (by decide +kernel : aFd 5 27 = some (5, 9, true, true)) (Or.inr ⟨rfl, rfl⟩) g12 rfl ?_
  show X E d fX3_init 47 [some (.ref a0)] [] (aPut (aNew (aPut (aNew S_9 100 5 5) a0 8 (some (aX S_9))) 100 5 5) a0 9 (some (aX (aPut (aNew S_9 100 5 5) a0 8 (some (aX S_9)))))) (mI M_11) Q
  rw [eS_13]
  refine X_aload_n 48 (by decide +kernel : decode cX3_init 47 = .ok (.aload_n 0, 1)) rfl rfl rfl ?_
  refine X_bipush 50 (8) (by decide +kernel : decode cX3_init 48 = .ok (.bipush 8, 2)) rfl rfl (by decide +kernel) ?_
  refine X_newI 52 (by decide +kernel : decode cX3_init 50 = .ok (.newarray .int, 2)) rfl rfl ⟨by decide, by decide⟩ ?_
  refine X_putR 55 (by decide +kernel : decode cX3_init 52 = .ok (.putfield 30, 3)) rfl rfl (by decide +kernel : aFd 5 30 = some (5, 10, true, true)) (Or.inr ⟨rfl, rfl⟩) g14 rfl ?_
  refine X_aload_n 56 (by decide +kernel : decode cX3_init 55 = .ok (.aload_n 0, 1)) rfl rfl rfl ?_
  refine X_bipush 58 (8) (by decide +kernel : decode cX3_init 56 = .ok (.bipush 8, 2)) rfl rfl (by decide +kernel) ?_
  refine X_newI 60 (by decide +kernel : decode cX3_init 58 = .ok (.newarray .int, 2)) rfl rfl ⟨by decide, by decide⟩ ?_
  show X E d fX3_init 60 [some (.ref a0)] [.ref (aX (aPut (aNew S_13 100 8 8) a0 10 (some (aX S_13)))), .ref a0] (aNew (aPut (aNew S_13 100 8 8) a0 10 (some (aX S_13))) 100 8 8) (mI (aU (aU M_11 (aX S_13) (fun _ => 0)) (aX (aPut (aNew S_13 100 8 8) a0 10 (some (aX S_13)))) (fun _ => 0))) Q
  rw [eS_15]
  show X E d fX3_init 60 [some (.ref a0)] [.ref (aX (aPut (aNew S_13 100 8 8) a0 10 (some (aX S_13)))), .ref a0] S_15 (mI (aU (aU M_11 (aX S_13) (fun _ => 0)) (aX (aPut (aNew S_13 100 8 8) a0 10 (some (aX S_13)))) (fun _ => 0))) Q
  rw [eM_16]
  refine X_putR 63 (by decide +kernel : decode cX3_init 60 = .ok (.putfield 33, 3)) rfl rfl (by decide +kernel : aFd 5 33 = some (5, 11, true, true)) (Or.inr ⟨rfl, rfl⟩) g17 rfl ?_
  show X E d fX3_init 63 [some (.ref a0)] [] (aPut S_15 a0 11 (some (aX (aPut (aNew S_13 100 8 8) a0 10 (some (aX S_13)))))) (mI M_16) Q
  rw [eS_18]
  refine X_aload_n 64 (by decide +kernel : decode cX3_init 63 = .ok (.aload_n 0, 1)) rfl rfl rfl ?_
  refine X_bipush 66 (8) (by decide +kernel : decode cX3_init 64 = .ok (.bipush 8, 2)) rfl rfl (by decide +kernel) ?_
  refine X_newI 68 (by decide +kernel : decode cX3_init 66 = .ok (.newarray .int, 2)) rfl rfl ⟨by decide, by decide⟩ ?_
  refine X_putR 71 (by decide +kernel : decode cX3_init 68 = .ok (.putfield 36, 3)) rfl rfl (by decide +kernel : aFd 5 36 = some (5, 12, true, true)) (Or.inr ⟨rfl, rfl⟩) g19 rfl ?_
  refine X_aload_n 72 (by decide +kernel : decode cX3_init 71 = .ok (.aload_n 0, 1)) rfl rfl rfl ?_
  refine X_bipush 74 (8) (by decide +kernel : decode cX3_init 72 = .ok (.bipush 8, 2)) rfl rfl (by decide +kernel) ?_
  refine X_newI 76 (by decide +kernel : decode cX3_init 74 = .ok (.newarray .int, 2)) rfl rfl ⟨by decide, by decide⟩ ?_
  show X E d fX3_init 76 [some (.ref a0)] [.ref (aX (aPut (aNew S_18 100 8 8) a0 12 (some (aX S_18)))), .ref a0] (aNew (aPut (aNew S_18 100 8 8) a0 12 (some (aX S_18))) 100 8 8) (mI (aU (aU M_16 (aX S_18) (fun _ => 0)) (aX (aPut (aNew S_18 100 8 8) a0 12 (some (aX S_18)))) (fun _ => 0))) Q
  rw [eS_20]
  show X E d fX3_init 76 [some (.ref a0)] [.ref (aX (aPut (aNew S_18 100 8 8) a0 12 (some (aX S_18)))), .ref a0] S_20 (mI (aU (aU M_16 (aX S_18) (fun _ => 0)) (aX (aPut (aNew S_18 100 8 8) a0 12 (some (aX S_18)))) (fun _ => 0))) Q
  rw [eM_21]
  refine X_putR 79 (by decide +kernel : decode cX3_init 76 = .ok (.putfield 39, 3)) rfl rfl (by decide +kernel : aFd 5 39 = some (5, 13, true, true)) (Or.inr ⟨rfl, rfl⟩) g22 rfl ?_
  show X E d fX3_init 79 [some (.ref a0)] [] (aPut S_20 a0 13 (some (aX (aPut (aNew S_18 100 8 8) a0 12 (some (aX S_18)))))) (mI M_21) Q
  rw [eS_23]
  refine X_aload_n 80 (by decide +kernel : decode cX3_init 79 = .ok (.aload_n 0, 1)) rfl rfl rfl ?_
  refine X_bipush 82 (8) (by decide +kernel : decode cX3_init 80 = .ok (.bipush 8, 2)) rfl rfl (by decide +kernel) ?_
  refine X_newI 84 (by decide +kernel : decode cX3_init 82 = .ok (.newarray .int, 2)) rfl rfl ⟨by decide, by decide⟩ ?_
  refine X_putR 87 (by decide +kernel : decode cX3_init 84 = .ok (.putfield 42, 3)) rfl rfl (by decide +kernel : aFd 5 42 = some (5, 14, true, true)) (Or.inr ⟨rfl, rfl⟩) g24 rfl ?_
  refine X_aload_n 88 (by decide +kernel : decode cX3_init 87 = .ok (.aload_n 0, 1)) rfl rfl rfl ?_
  refine X_new 91 (by decide +kernel : decode cX3_init 88 = .ok (.new 45, 3)) rfl rfl (by decide +kernel : aNd 5 45 = some (3, 11)) ?_
  show X E d fX3_init 91 [some (.ref a0)] [.ref (aX (aPut (aNew S_23 100 8 8) a0 14 (some (aX S_23)))), .ref a0] (aNew (aPut (aNew S_23 100 8 8) a0 14 (some (aX S_23))) 3 11 11) (mI (aU (aU M_21 (aX S_23) (fun _ => 0)) (aX (aPut (aNew S_23 100 8 8) a0 14 (some (aX S_23)))) (fun _ => 0))) Q
  rw [eS_25]
  show X E d fX3_init 91 [some (.ref a0)] [.ref (aX (aPut (aNew S_23 100 8 8) a0 14 (some (aX S_23)))), .ref a0] S_25 (mI (aU (aU M_21 (aX S_23) (fun _ => 0)) (aX (aPut (aNew S_23 100 8 8) a0 14 (some (aX S_23)))) (fun _ => 0))) Q
  rw [eM_26]
  refine X_dup 92 (by decide +kernel : decode cX3_init 91 = .ok (.dup, 1)) rfl rfl rfl ?_
  exact X_cv (as := []) (rest := [.ref (aX (aPut (aNew S_23 100 8 8) a0 14 (some (aX S_23)))), .ref a0]) (by decide +kernel : decode cX3_init 92 = .ok (.invokespecial 47, 3)) (Or.inr ⟨rfl, rfl, rfl⟩) rfl rfl rfl rfl rfl (Nat.le_of_ble_eq_true rfl) (Or.inr (Or.inl rfl)) hd1 k
theorem kX3_init_95 {o0 : Option Value} {u0 : Nat} {u1 : Nat} (g1 : aK S u1 = 5) (q : Q (some none) (aPut S u1 15 (some u0)) (mI M)) : X E d fX3_init 95 [o0] [.ref u0, .ref u1] S (mI M) Q := by
  refine X_putR 98 (by decide +kernel : decode cX3_init 95 = .ok (.putfield 48, 3)) rfl rfl (by decide +kernel : aFd 5 48 = some (5, 15, true, true)) (Or.inr ⟨rfl, rfl⟩) g1 rfl ?_
  exact X_vret (by decide +kernel : decode cX3_init 98 = .ok (.return_, 1)) rfl rfl q
theorem kX2_init_0 {a0 : Nat} (g1 : aK (aNew S 100 400 400) a0 = 4) (q : Q (some none) (aPut (aNew S 100 400 400) a0 0 (some (aX S))) (mI (aU M (aX S) (fun _ => 0)))) : X E d fX2_init 0 [some (.ref a0)] [] S (mI M) Q := by
  refine X_aload_n 1 (by decide +kernel : decode cX2_init 0 = .ok (.aload_n 0, 1)) rfl rfl rfl ?_
  refine X_obj 4 (by decide +kernel : decode cX2_init 1 = .ok (.invokespecial 3, 3)) rfl rfl rfl (Nat.le_of_ble_eq_true rfl) ?_
  refine X_aload_n 5 (by decide +kernel : decode cX2_init 4 = .ok (.aload_n 0, 1)) rfl rfl rfl ?_
  refine X_sipush 8 (400) (by decide +kernel : decode cX2_init 5 = .ok (.sipush 400, 3)) rfl rfl (by decide +kernel) ?_
  refine X_newI 10 (by decide +kernel : decode cX2_init 8 = .ok (.newarray .int, 2)) rfl rfl ⟨by decide, by decide⟩ ?_
  refine X_putR 13 (by decide +kernel : decode cX2_init 10 = .ok (.putfield 9, 3)) rfl rfl (by decide +kernel : aFd 4 9 = some (4, 0, true, true)) (Or.inr ⟨rfl, rfl⟩) g1 rfl ?_
  exact X_vret (by decide +kernel : decode cX2_init 13 = .ok (.return_, 1)) rfl rfl q
theorem kX3_gatesAt_0 {o0 : Option Value} {o1 : Option Value} {o2 : Option Value} {o3 : Option Value} (k : X E d fX3_gatesAt 4 [o0, o1, some (J 0), some (J 0)] [] S (mI M) Q) : X E d fX3_gatesAt 0 [o0, o1, o2, o3] [] S (mI M) Q := by
  refine X_iconst 1 (by decide +kernel : decode cX3_gatesAt 0 = .ok (.iconst 0, 1)) rfl rfl ?_
  refine X_istore_n 2 (by decide +kernel : decode cX3_gatesAt 1 = .ok (.istore_n 2, 1)) rfl rfl (Nat.le_of_ble_eq_true rfl) rfl ?_
  refine X_iconst 3 (by decide +kernel : decode cX3_gatesAt 2 = .ok (.iconst 0, 1)) rfl rfl ?_
  refine X_istore_n 4 (by decide +kernel : decode cX3_gatesAt 3 = .ok (.istore_n 3, 1)) rfl rfl (Nat.le_of_ble_eq_true rfl) rfl ?_
  exact k
theorem kX3_gatesAt_4 {a0 : Nat} {o1 : Option Value} {o2 : Option Value} {x3 : Int} (g1 : aKd S a0 = 5) (r2 : R32 x3) (r3 : R32 (M a0 2)) (k1 : (M a0 2) ≤ x3 → X E d fX3_gatesAt 31 [some (.ref a0), o1, o2, some (J x3)] [] S (mI M) Q) (k2 : x3 < (M a0 2) → X E d fX3_gatesAt 12 [some (.ref a0), o1, o2, some (J x3)] [] S (mI M) Q) : X E d fX3_gatesAt 4 [some (.ref a0), o1, o2, some (J x3)] [] S (mI M) Q := by
  refine X_iload_n 5 (by decide +kernel : decode cX3_gatesAt 4 = .ok (.iload_n 3, 1)) rfl rfl rfl ?_
  refine X_aload_n 6 (by decide +kernel : decode cX3_gatesAt 5 = .ok (.aload_n 0, 1)) rfl rfl rfl ?_
  refine X_getI 9 (by decide +kernel : decode cX3_gatesAt 6 = .ok (.getfield 59, 3)) rfl rfl (by decide +kernel : aFd 5 59 = some (5, 2, false, false)) g1 ?_
  exact X_icmpge 31 12 (by decide +kernel : decode cX3_gatesAt 9 = .ok (.if_icmp .ge 22, 3)) rfl rfl (by decide) r2 r3 k1 k2
theorem kX3_gatesAt_12 {a0 : Nat} {x1 : Int} {o2 : Option Value} {x3 : Int} {b2 : Nat} (g1 : aKd S a0 = 5) (p3 : aP S a0 8 = some b2) (g4 : aKd S b2 = 100) (r5 : R32 x3) (h6 : (0 : Int) ≤ x3 ∧ x3 < (aN S b2 : Int)) (r7 : R32 (M b2 x3.toNat)) (r8 : R32 x1) (k1 : (M b2 x3.toNat) ≠ x1 → X E d fX3_gatesAt 25 [some (.ref a0), some (J x1), o2, some (J x3)] [] S (mI M) Q) (k2 : (M b2 x3.toNat) = x1 → X E d fX3_gatesAt 22 [some (.ref a0), some (J x1), o2, some (J x3)] [] S (mI M) Q) : X E d fX3_gatesAt 12 [some (.ref a0), some (J x1), o2, some (J x3)] [] S (mI M) Q := by
  refine X_aload_n 13 (by decide +kernel : decode cX3_gatesAt 12 = .ok (.aload_n 0, 1)) rfl rfl rfl ?_
  refine X_getR 16 (by decide +kernel : decode cX3_gatesAt 13 = .ok (.getfield 24, 3)) rfl rfl (by decide +kernel : aFd 5 24 = some (5, 8, true, true)) g1 p3 ?_
  refine X_iload_n 17 (by decide +kernel : decode cX3_gatesAt 16 = .ok (.iload_n 3, 1)) rfl rfl rfl ?_
  refine X_iald 18 (by decide +kernel : decode cX3_gatesAt 17 = .ok (.iaload, 1)) rfl rfl g4 r5 h6 ?_
  refine X_iload_n 19 (by decide +kernel : decode cX3_gatesAt 18 = .ok (.iload_n 1, 1)) rfl rfl rfl ?_
  exact X_icmpne 25 22 (by decide +kernel : decode cX3_gatesAt 19 = .ok (.if_icmp .ne 6, 3)) rfl rfl (by decide) r7 r8 k1 k2
theorem kX3_gatesAt_22 {o0 : Option Value} {o1 : Option Value} {x2 : Int} {o3 : Option Value} (k : X E d fX3_gatesAt 25 [o0, o1, some (J (x2 + 1)), o3] [] S (mI M) Q) : X E d fX3_gatesAt 22 [o0, o1, some (J x2), o3] [] S (mI M) Q := by
  refine X_iinc 25 (by decide +kernel : decode cX3_gatesAt 22 = .ok (.iinc 2 1, 3)) rfl rfl rfl rfl ?_
  exact k
theorem kX3_gatesAt_25 {o0 : Option Value} {o1 : Option Value} {o2 : Option Value} {x3 : Int} (k : X E d fX3_gatesAt 4 [o0, o1, o2, some (J (x3 + 1))] [] S (mI M) Q) : X E d fX3_gatesAt 25 [o0, o1, o2, some (J x3)] [] S (mI M) Q := by
  refine X_iinc 28 (by decide +kernel : decode cX3_gatesAt 25 = .ok (.iinc 3 1, 3)) rfl rfl rfl rfl ?_
  exact X_goto 4 (by decide +kernel : decode cX3_gatesAt 28 = .ok (.goto (-24), 3)) rfl (by decide) k
theorem kX3_gatesAt_31 {o0 : Option Value} {o1 : Option Value} {x2 : Int} {o3 : Option Value} (q : Q (some (some (J x2))) S (mI M)) : X E d fX3_gatesAt 31 [o0, o1, some (J x2), o3] [] S (mI M) Q := by
  refine X_iload_n 32 (by decide +kernel : decode cX3_gatesAt 31 = .ok (.iload_n 2, 1)) rfl rfl rfl ?_
  exact X_iret (by decide +kernel : decode cX3_gatesAt 32 = .ok (.ireturn, 1)) rfl rfl rfl q
theorem kX3_trafficsBy_0 {o0 : Option Value} {o1 : Option Value} {o2 : Option Value} {o3 : Option Value} {o4 : Option Value} {o5 : Option Value} (k : X E d fX3_trafficsBy 4 [o0, o1, some (J 0), some (J 0), o4, o5] [] S (mI M) Q) : X E d fX3_trafficsBy 0 [o0, o1, o2, o3, o4, o5] [] S (mI M) Q := by
  refine X_iconst 1 (by decide +kernel : decode cX3_trafficsBy 0 = .ok (.iconst 0, 1)) rfl rfl ?_
  refine X_istore_n 2 (by decide +kernel : decode cX3_trafficsBy 1 = .ok (.istore_n 2, 1)) rfl rfl (Nat.le_of_ble_eq_true rfl) rfl ?_
  refine X_iconst 3 (by decide +kernel : decode cX3_trafficsBy 2 = .ok (.iconst 0, 1)) rfl rfl ?_
  refine X_istore_n 4 (by decide +kernel : decode cX3_trafficsBy 3 = .ok (.istore_n 3, 1)) rfl rfl (Nat.le_of_ble_eq_true rfl) rfl ?_
  exact k
theorem kX3_trafficsBy_4 {a0 : Nat} {o1 : Option Value} {o2 : Option Value} {x3 : Int} {o4 : Option Value} {o5 : Option Value} (g1 : aKd S a0 = 5) (r2 : R32 x3) (r3 : R32 (M a0 3)) (k1 : (M a0 3) ≤ x3 → X E d fX3_trafficsBy 85 [some (.ref a0), o1, o2, some (J x3), o4, o5] [] S (mI M) Q) (k2 : x3 < (M a0 3) → X E d fX3_trafficsBy 12 [some (.ref a0), o1, o2, some (J x3), o4, o5] [] S (mI M) Q) : X E d fX3_trafficsBy 4 [some (.ref a0), o1, o2, some (J x3), o4, o5] [] S (mI M) Q := by
  refine X_iload_n 5 (by decide +kernel : decode cX3_trafficsBy 4 = .ok (.iload_n 3, 1)) rfl rfl rfl ?_
  refine X_aload_n 6 (by decide +kernel : decode cX3_trafficsBy 5 = .ok (.aload_n 0, 1)) rfl rfl rfl ?_
  refine X_getI 9 (by decide +kernel : decode cX3_trafficsBy 6 = .ok (.getfield 62, 3)) rfl rfl (by decide +kernel : aFd 5 62 = some (5, 3, false, false)) g1 ?_
  exact X_icmpge 85 12 (by decide +kernel : decode cX3_trafficsBy 9 = .ok (.if_icmp .ge 76, 3)) rfl rfl (by decide) r2 r3 k1 k2
theorem kX3_trafficsBy_12 {a0 : Nat} {x1 : Int} {o2 : Option Value} {x3 : Int} {o4 : Option Value} {o5 : Option Value} {b2 : Nat} (g1 : aKd S a0 = 5) (p3 : aP S a0 12 = some b2) (g4 : aKd S b2 = 100) (r5 : R32 x3) (h6 : (0 : Int) ≤ x3 ∧ x3 < (aN S b2 : Int)) (r7 : R32 (M b2 x3.toNat)) (r8 : R32 x1) (k1 : x1 < (M b2 x3.toNat) → X E d fX3_trafficsBy 36 [some (.ref a0), some (J x1), o2, some (J x3), o4, o5] [] S (mI M) Q) (k2 : (M b2 x3.toNat) ≤ x1 → X E d fX3_trafficsBy 22 [some (.ref a0), some (J x1), o2, some (J x3), o4, o5] [] S (mI M) Q) : X E d fX3_trafficsBy 12 [some (.ref a0), some (J x1), o2, some (J x3), o4, o5] [] S (mI M) Q := by
  refine X_aload_n 13 (by decide +kernel : decode cX3_trafficsBy 12 = .ok (.aload_n 0, 1)) rfl rfl rfl ?_
  refine X_getR 16 (by decide +kernel : decode cX3_trafficsBy 13 = .ok (.getfield 36, 3)) rfl rfl (by decide +kernel : aFd 5 36 = some (5, 12, true, true)) g1 p3 ?_
  refine X_iload_n 17 (by decide +kernel : decode cX3_trafficsBy 16 = .ok (.iload_n 3, 1)) rfl rfl rfl ?_
  refine X_iald 18 (by decide +kernel : decode cX3_trafficsBy 17 = .ok (.iaload, 1)) rfl rfl g4 r5 h6 ?_
  refine X_iload_n 19 (by decide +kernel : decode cX3_trafficsBy 18 = .ok (.iload_n 1, 1)) rfl rfl rfl ?_
  exact X_icmpgt 36 22 (by decide +kernel : decode cX3_trafficsBy 19 = .ok (.if_icmp .gt 17, 3)) rfl rfl (by decide) r7 r8 k1 k2
theorem kX3_trafficsBy_22 {a0 : Nat} {x1 : Int} {o2 : Option Value} {x3 : Int} {o4 : Option Value} {o5 : Option Value} {b2 : Nat} (g1 : aKd S a0 = 5) (p3 : aP S a0 13 = some b2) (g4 : aKd S b2 = 100) (r5 : R32 x3) (h6 : (0 : Int) ≤ x3 ∧ x3 < (aN S b2 : Int)) (r7 : R32 x1) (r8 : R32 (M b2 x3.toNat)) (k1 : (M b2 x3.toNat) < x1 → X E d fX3_trafficsBy 36 [some (.ref a0), some (J x1), o2, some (J x3), o4, o5] [] S (mI M) Q) (k2 : x1 ≤ (M b2 x3.toNat) → X E d fX3_trafficsBy 32 [some (.ref a0), some (J x1), o2, some (J x3), o4, o5] [] S (mI M) Q) : X E d fX3_trafficsBy 22 [some (.ref a0), some (J x1), o2, some (J x3), o4, o5] [] S (mI M) Q := by
  refine X_iload_n 23 (by decide +kernel : decode cX3_trafficsBy 22 = .ok (.iload_n 1, 1)) rfl rfl rfl ?_
  refine X_aload_n 24 (by decide +kernel : decode cX3_trafficsBy 23 = .ok (.aload_n 0, 1)) rfl rfl rfl ?_
  refine X_getR 27 (by decide +kernel : decode cX3_trafficsBy 24 = .ok (.getfield 39, 3)) rfl rfl (by decide +kernel : aFd 5 39 = some (5, 13, true, true)) g1 p3 ?_
  refine X_iload_n 28 (by decide +kernel : decode cX3_trafficsBy 27 = .ok (.iload_n 3, 1)) rfl rfl rfl ?_
  refine X_iald 29 (by decide +kernel : decode cX3_trafficsBy 28 = .ok (.iaload, 1)) rfl rfl g4 r5 h6 ?_
  exact X_icmpgt 36 32 (by decide +kernel : decode cX3_trafficsBy 29 = .ok (.if_icmp .gt 7, 3)) rfl rfl (by decide) r7 r8 k1 k2
theorem kX3_trafficsBy_32 {o0 : Option Value} {o1 : Option Value} {o2 : Option Value} {o3 : Option Value} {o4 : Option Value} {o5 : Option Value} (k : X E d fX3_trafficsBy 37 [o0, o1, o2, o3, o4, o5] [J 1] S (mI M) Q) : X E d fX3_trafficsBy 32 [o0, o1, o2, o3, o4, o5] [] S (mI M) Q := by
  refine X_iconst 33 (by decide +kernel : decode cX3_trafficsBy 32 = .ok (.iconst 1, 1)) rfl rfl ?_
  exact X_goto 37 (by decide +kernel : decode cX3_trafficsBy 33 = .ok (.goto 4, 3)) rfl (by decide) k
theorem kX3_trafficsBy_36 {o0 : Option Value} {o1 : Option Value} {o2 : Option Value} {o3 : Option Value} {o4 : Option Value} {o5 : Option Value} (k : X E d fX3_trafficsBy 37 [o0, o1, o2, o3, o4, o5] [J 0] S (mI M) Q) : X E d fX3_trafficsBy 36 [o0, o1, o2, o3, o4, o5] [] S (mI M) Q := by
  refine X_iconst 37 (by decide +kernel : decode cX3_trafficsBy 36 = .ok (.iconst 0, 1)) rfl rfl ?_
  exact k
theorem kX3_trafficsBy_37 {a0 : Nat} {x1 : Int} {o2 : Option Value} {x3 : Int} {o4 : Option Value} {o5 : Option Value} {t0 : Int} {b2 : Nat} (g1 : aKd S a0 = 5) (p3 : aP S a0 13 = some b2) (g4 : aKd S b2 = 100) (r5 : R32 x3) (h6 : (0 : Int) ≤ x3 ∧ x3 < (aN S b2 : Int)) (r7 : R32 (M b2 x3.toNat)) (r8 : R32 x1) (k1 : x1 < (M b2 x3.toNat) → X E d fX3_trafficsBy 63 [some (.ref a0), some (J x1), o2, some (J x3), some (J t0), o5] [] S (mI M) Q) (k2 : (M b2 x3.toNat) ≤ x1 → X E d fX3_trafficsBy 49 [some (.ref a0), some (J x1), o2, some (J x3), some (J t0), o5] [] S (mI M) Q) : X E d fX3_trafficsBy 37 [some (.ref a0), some (J x1), o2, some (J x3), o4, o5] [J t0] S (mI M) Q := by
  refine X_istore 39 (by decide +kernel : decode cX3_trafficsBy 37 = .ok (.istore 4, 2)) rfl rfl (Nat.le_of_ble_eq_true rfl) rfl ?_
  refine X_aload_n 40 (by decide +kernel : decode cX3_trafficsBy 39 = .ok (.aload_n 0, 1)) rfl rfl rfl ?_
  refine X_getR 43 (by decide +kernel : decode cX3_trafficsBy 40 = .ok (.getfield 39, 3)) rfl rfl (by decide +kernel : aFd 5 39 = some (5, 13, true, true)) g1 p3 ?_
  refine X_iload_n 44 (by decide +kernel : decode cX3_trafficsBy 43 = .ok (.iload_n 3, 1)) rfl rfl rfl ?_
  refine X_iald 45 (by decide +kernel : decode cX3_trafficsBy 44 = .ok (.iaload, 1)) rfl rfl g4 r5 h6 ?_
  refine X_iload_n 46 (by decide +kernel : decode cX3_trafficsBy 45 = .ok (.iload_n 1, 1)) rfl rfl rfl ?_
  exact X_icmpgt 63 49 (by decide +kernel : decode cX3_trafficsBy 46 = .ok (.if_icmp .gt 17, 3)) rfl rfl (by decide) r7 r8 k1 k2
theorem kX3_trafficsBy_49 {a0 : Nat} {x1 : Int} {o2 : Option Value} {x3 : Int} {o4 : Option Value} {o5 : Option Value} {b2 : Nat} (g1 : aKd S a0 = 5) (p3 : aP S a0 12 = some b2) (g4 : aKd S b2 = 100) (r5 : R32 x3) (h6 : (0 : Int) ≤ x3 ∧ x3 < (aN S b2 : Int)) (r7 : R32 x1) (r8 : R32 (M b2 x3.toNat)) (k1 : (M b2 x3.toNat) < x1 → X E d fX3_trafficsBy 63 [some (.ref a0), some (J x1), o2, some (J x3), o4, o5] [] S (mI M) Q) (k2 : x1 ≤ (M b2 x3.toNat) → X E d fX3_trafficsBy 59 [some (.ref a0), some (J x1), o2, some (J x3), o4, o5] [] S (mI M) Q) : X E d fX3_trafficsBy 49 [some (.ref a0), some (J x1), o2, some (J x3), o4, o5] [] S (mI M) Q := by
  refine X_iload_n 50 (by decide +kernel : decode cX3_trafficsBy 49 = .ok (.iload_n 1, 1)) rfl rfl rfl ?_
  refine X_aload_n 51 (by decide +kernel : decode cX3_trafficsBy 50 = .ok (.aload_n 0, 1)) rfl rfl rfl ?_
  refine X_getR 54 (by decide +kernel : decode cX3_trafficsBy 51 = .ok (.getfield 36, 3)) rfl rfl (by decide +kernel : aFd 5 36 = some (5, 12, true, true)) g1 p3 ?_
  refine X_iload_n 55 (by decide +kernel : decode cX3_trafficsBy 54 = .ok (.iload_n 3, 1)) rfl rfl rfl ?_
  refine X_iald 56 (by decide +kernel : decode cX3_trafficsBy 55 = .ok (.iaload, 1)) rfl rfl g4 r5 h6 ?_
  exact X_icmpgt 63 59 (by decide +kernel : decode cX3_trafficsBy 56 = .ok (.if_icmp .gt 7, 3)) rfl rfl (by decide) r7 r8 k1 k2
theorem kX3_trafficsBy_59 {o0 : Option Value} {o1 : Option Value} {o2 : Option Value} {o3 : Option Value} {o4 : Option Value} {o5 : Option Value} (k : X E d fX3_trafficsBy 64 [o0, o1, o2, o3, o4, o5] [J 1] S (mI M) Q) : X E d fX3_trafficsBy 59 [o0, o1, o2, o3, o4, o5] [] S (mI M) Q := by
  refine X_iconst 60 (by decide +kernel : decode cX3_trafficsBy 59 = .ok (.iconst 1, 1)) rfl rfl ?_
  exact X_goto 64 (by decide +kernel : decode cX3_trafficsBy 60 = .ok (.goto 4, 3)) rfl (by decide) k
theorem kX3_trafficsBy_63 {o0 : Option Value} {o1 : Option Value} {o2 : Option Value} {o3 : Option Value} {o4 : Option Value} {o5 : Option Value} (k : X E d fX3_trafficsBy 64 [o0, o1, o2, o3, o4, o5] [J 0] S (mI M) Q) : X E d fX3_trafficsBy 63 [o0, o1, o2, o3, o4, o5] [] S (mI M) Q := by
  refine X_iconst 64 (by decide +kernel : decode cX3_trafficsBy 63 = .ok (.iconst 0, 1)) rfl rfl ?_
  exact k
theorem kX3_trafficsBy_64 {o0 : Option Value} {o1 : Option Value} {o2 : Option Value} {o3 : Option Value} {x4 : Int} {o5 : Option Value} {t0 : Int} (r1 : R32 x4) (k1 : x4 ≠ 0 → X E d fX3_trafficsBy 76 [o0, o1, o2, o3, some (J x4), some (J t0)] [] S (mI M) Q) (k2 : x4 = 0 → X E d fX3_trafficsBy 71 [o0, o1, o2, o3, some (J x4), some (J t0)] [] S (mI M) Q) : X E d fX3_trafficsBy 64 [o0, o1, o2, o3, some (J x4), o5] [J t0] S (mI M) Q := by
  refine X_istore 66 (by decide +kernel : decode cX3_trafficsBy 64 = .ok (.istore 5, 2)) rfl rfl (Nat.le_of_ble_eq_true rfl) rfl ?_
  refine X_iload 68 (by decide +kernel : decode cX3_trafficsBy 66 = .ok (.iload 4, 2)) rfl rfl rfl ?_
  exact X_ifne 76 71 (by decide +kernel : decode cX3_trafficsBy 68 = .ok (.ifCond .ne 8, 3)) rfl rfl (by decide) r1 k1 k2
theorem kX3_trafficsBy_71 {o0 : Option Value} {o1 : Option Value} {o2 : Option Value} {o3 : Option Value} {o4 : Option Value} {x5 : Int} (r1 : R32 x5) (k1 : x5 = 0 → X E d fX3_trafficsBy 79 [o0, o1, o2, o3, o4, some (J x5)] [] S (mI M) Q) (k2 : x5 ≠ 0 → X E d fX3_trafficsBy 76 [o0, o1, o2, o3, o4, some (J x5)] [] S (mI M) Q) : X E d fX3_trafficsBy 71 [o0, o1, o2, o3, o4, some (J x5)] [] S (mI M) Q := by
  refine X_iload 73 (by decide +kernel : decode cX3_trafficsBy 71 = .ok (.iload 5, 2)) rfl rfl rfl ?_
  exact X_ifeq 79 76 (by decide +kernel : decode cX3_trafficsBy 73 = .ok (.ifCond .eq 6, 3)) rfl rfl (by decide) r1 k1 k2
theorem kX3_trafficsBy_76 {o0 : Option Value} {o1 : Option Value} {x2 : Int} {o3 : Option Value} {o4 : Option Value} {o5 : Option Value} (k : X E d fX3_trafficsBy 79 [o0, o1, some (J (x2 + 1)), o3, o4, o5] [] S (mI M) Q) : X E d fX3_trafficsBy 76 [o0, o1, some (J x2), o3, o4, o5] [] S (mI M) Q := by
  refine X_iinc 79 (by decide +kernel : decode cX3_trafficsBy 76 = .ok (.iinc 2 1, 3)) rfl rfl rfl rfl ?_
  exact k
theorem kX3_trafficsBy_79 {o0 : Option Value} {o1 : Option Value} {o2 : Option Value} {x3 : Int} {o4 : Option Value} {o5 : Option Value} (k : X E d fX3_trafficsBy 4 [o0, o1, o2, some (J (x3 + 1)), o4, o5] [] S (mI M) Q) : X E d fX3_trafficsBy 79 [o0, o1, o2, some (J x3), o4, o5] [] S (mI M) Q := by
  refine X_iinc 82 (by decide +kernel : decode cX3_trafficsBy 79 = .ok (.iinc 3 1, 3)) rfl rfl rfl rfl ?_
  exact X_goto 4 (by decide +kernel : decode cX3_trafficsBy 82 = .ok (.goto (-78), 3)) rfl (by decide) k
theorem kX3_trafficsBy_85 {o0 : Option Value} {o1 : Option Value} {x2 : Int} {o3 : Option Value} {o4 : Option Value} {o5 : Option Value} (q : Q (some (some (J x2))) S (mI M)) : X E d fX3_trafficsBy 85 [o0, o1, some (J x2), o3, o4, o5] [] S (mI M) Q := by
  refine X_iload_n 86 (by decide +kernel : decode cX3_trafficsBy 85 = .ok (.iload_n 2, 1)) rfl rfl rfl ?_
  exact X_iret (by decide +kernel : decode cX3_trafficsBy 86 = .ok (.ireturn, 1)) rfl rfl rfl q
theorem kX2_reckon_0 {o0 : Option Value} {a1 : Nat} {x2 : Int} {o3 : Option Value} {o4 : Option Value} {o5 : Option Value} {o6 : Option Value} {o7 : Option Value} {b2 : Nat} {b5 : Nat} (g1 : aKd S a1 = 8) (p3 : aP S a1 1 = some b2) (g4 : aKd S b2 = 5) (p6 : aP S b2 15 = some b5) (k : X E d fX2_reckon 15 [o0, some (.ref a1), some (J x2), o3, some (.ref b5), some (J 0), some (J x2), o7] [] S (mI M) Q) : X E d fX2_reckon 0 [o0, some (.ref a1), some (J x2), o3, o4, o5, o6, o7] [] S (mI M) Q := by
  refine X_aload_n 1 (by decide +kernel : decode cX2_reckon 0 = .ok (.aload_n 1, 1)) rfl rfl rfl ?_
  refine X_getR 4 (by decide +kernel : decode cX2_reckon 1 = .ok (.getfield 15, 3)) rfl rfl (by decide +kernel : aFd 4 15 = some (8, 1, true, false)) g1 p3 ?_
  refine X_getR 7 (by decide +kernel : decode cX2_reckon 4 = .ok (.getfield 21, 3)) rfl rfl (by decide +kernel : aFd 4 21 = some (5, 15, true, true)) g4 p6 ?_
  refine X_astore 9 (by decide +kernel : decode cX2_reckon 7 = .ok (.astore 4, 2)) rfl rfl (Nat.le_of_ble_eq_true rfl) rfl ?_
  refine X_iconst 10 (by decide +kernel : decode cX2_reckon 9 = .ok (.iconst 0, 1)) rfl rfl ?_
  refine X_istore 12 (by decide +kernel : decode cX2_reckon 10 = .ok (.istore 5, 2)) rfl rfl (Nat.le_of_ble_eq_true rfl) rfl ?_
  refine X_iload_n 13 (by decide +kernel : decode cX2_reckon 12 = .ok (.iload_n 2, 1)) rfl rfl rfl ?_
  refine X_istore 15 (by decide +kernel : decode cX2_reckon 13 = .ok (.istore 6, 2)) rfl rfl (Nat.le_of_ble_eq_true rfl) rfl ?_
  exact k
theorem kX2_reckon_15 {o0 : Option Value} {o1 : Option Value} {o2 : Option Value} {x3 : Int} {o4 : Option Value} {o5 : Option Value} {x6 : Int} {o7 : Option Value} (r1 : R32 x6) (r2 : R32 x3) (k1 : x3 ≤ x6 → X E d fX2_reckon 181 [o0, o1, o2, some (J x3), o4, o5, some (J x6), o7] [] S (mI M) Q) (k2 : x6 < x3 → X E d fX2_reckon 21 [o0, o1, o2, some (J x3), o4, o5, some (J x6), o7] [] S (mI M) Q) : X E d fX2_reckon 15 [o0, o1, o2, some (J x3), o4, o5, some (J x6), o7] [] S (mI M) Q := by
  refine X_iload 17 (by decide +kernel : decode cX2_reckon 15 = .ok (.iload 6, 2)) rfl rfl rfl ?_
  refine X_iload_n 18 (by decide +kernel : decode cX2_reckon 17 = .ok (.iload_n 3, 1)) rfl rfl rfl ?_
  exact X_icmpge 181 21 (by decide +kernel : decode cX2_reckon 18 = .ok (.if_icmp .ge 163, 3)) rfl rfl (by decide) r1 r2 k1 k2
theorem kX2_reckon_21 {o0 : Option Value} {o1 : Option Value} {o2 : Option Value} {o3 : Option Value} {o4 : Option Value} {o5 : Option Value} {x6 : Int} {o7 : Option Value} (r1 : R32 x6) (k1 : 400 ≤ x6 → X E d fX2_reckon 181 [o0, o1, o2, o3, o4, o5, some (J x6), o7] [] S (mI M) Q) (k2 : x6 < 400 → X E d fX2_reckon 29 [o0, o1, o2, o3, o4, o5, some (J x6), o7] [] S (mI M) Q) : X E d fX2_reckon 21 [o0, o1, o2, o3, o4, o5, some (J x6), o7] [] S (mI M) Q := by
  refine X_iload 23 (by decide +kernel : decode cX2_reckon 21 = .ok (.iload 6, 2)) rfl rfl rfl ?_
  refine X_sipush 26 (400) (by decide +kernel : decode cX2_reckon 23 = .ok (.sipush 400, 3)) rfl rfl (by decide +kernel) ?_
  exact X_icmpge 181 29 (by decide +kernel : decode cX2_reckon 26 = .ok (.if_icmp .ge 155, 3)) rfl rfl (by decide) r1 ⟨by decide, by decide⟩ k1 k2
theorem kX2_reckon_29 {o0 : Option Value} {o1 : Option Value} {o2 : Option Value} {o3 : Option Value} {a4 : Nat} {o5 : Option Value} {x6 : Int} {o7 : Option Value} {b2 : Nat} (g1 : aKd S a4 = 3) (p3 : aP S a4 9 = some b2) (g4 : aKd S b2 = 100) (r5 : R32 x6) (h6 : (0 : Int) ≤ x6 ∧ x6 < (aN S b2 : Int)) (r7 : R32 (M b2 x6.toNat)) (k1 : (M b2 x6.toNat) = 51 → X E d fX2_reckon 60 [o0, o1, o2, o3, some (.ref a4), o5, some (J x6), some (J (M b2 x6.toNat))] [] S (mI M) Q) (k2 : (M b2 x6.toNat) ≠ 51 → X E d fX2_reckon 46 [o0, o1, o2, o3, some (.ref a4), o5, some (J x6), some (J (M b2 x6.toNat))] [] S (mI M) Q) : X E d fX2_reckon 29 [o0, o1, o2, o3, some (.ref a4), o5, some (J x6), o7] [] S (mI M) Q := by
  refine X_aload 31 (by decide +kernel : decode cX2_reckon 29 = .ok (.aload 4, 2)) rfl rfl rfl ?_
  refine X_getR 34 (by decide +kernel : decode cX2_reckon 31 = .ok (.getfield 27, 3)) rfl rfl (by decide +kernel : aFd 4 27 = some (3, 9, true, true)) g1 p3 ?_
  refine X_iload 36 (by decide +kernel : decode cX2_reckon 34 = .ok (.iload 6, 2)) rfl rfl rfl ?_
  refine X_iald 37 (by decide +kernel : decode cX2_reckon 36 = .ok (.iaload, 1)) rfl rfl g4 r5 h6 ?_
  refine X_istore 39 (by decide +kernel : decode cX2_reckon 37 = .ok (.istore 7, 2)) rfl rfl (Nat.le_of_ble_eq_true rfl) rfl ?_
  refine X_iload 41 (by decide +kernel : decode cX2_reckon 39 = .ok (.iload 7, 2)) rfl rfl rfl ?_
  refine X_bipush 43 (51) (by decide +kernel : decode cX2_reckon 41 = .ok (.bipush 51, 2)) rfl rfl (by decide +kernel) ?_
  exact X_icmpeq 60 46 (by decide +kernel : decode cX2_reckon 43 = .ok (.if_icmp .eq 17, 3)) rfl rfl (by decide) r7 ⟨by decide, by decide⟩ k1 k2
theorem kX2_reckon_46 {o0 : Option Value} {o1 : Option Value} {o2 : Option Value} {o3 : Option Value} {o4 : Option Value} {o5 : Option Value} {o6 : Option Value} {x7 : Int} (r1 : R32 x7) (k1 : x7 = 27 → X E d fX2_reckon 60 [o0, o1, o2, o3, o4, o5, o6, some (J x7)] [] S (mI M) Q) (k2 : x7 ≠ 27 → X E d fX2_reckon 53 [o0, o1, o2, o3, o4, o5, o6, some (J x7)] [] S (mI M) Q) : X E d fX2_reckon 46 [o0, o1, o2, o3, o4, o5, o6, some (J x7)] [] S (mI M) Q := by
  refine X_iload 48 (by decide +kernel : decode cX2_reckon 46 = .ok (.iload 7, 2)) rfl rfl rfl ?_
  refine X_bipush 50 (27) (by decide +kernel : decode cX2_reckon 48 = .ok (.bipush 27, 2)) rfl rfl (by decide +kernel) ?_
  exact X_icmpeq 60 53 (by decide +kernel : decode cX2_reckon 50 = .ok (.if_icmp .eq 10, 3)) rfl rfl (by decide) r1 ⟨by decide, by decide⟩ k1 k2
theorem kX2_reckon_53 {o0 : Option Value} {o1 : Option Value} {o2 : Option Value} {o3 : Option Value} {o4 : Option Value} {o5 : Option Value} {o6 : Option Value} {x7 : Int} (r1 : R32 x7) (k1 : x7 ≠ 21 → X E d fX2_reckon 93 [o0, o1, o2, o3, o4, o5, o6, some (J x7)] [] S (mI M) Q) (k2 : x7 = 21 → X E d fX2_reckon 60 [o0, o1, o2, o3, o4, o5, o6, some (J x7)] [] S (mI M) Q) : X E d fX2_reckon 53 [o0, o1, o2, o3, o4, o5, o6, some (J x7)] [] S (mI M) Q := by
  refine X_iload 55 (by decide +kernel : decode cX2_reckon 53 = .ok (.iload 7, 2)) rfl rfl rfl ?_
  refine X_bipush 57 (21) (by decide +kernel : decode cX2_reckon 55 = .ok (.bipush 21, 2)) rfl rfl (by decide +kernel) ?_
  exact X_icmpne 93 60 (by decide +kernel : decode cX2_reckon 57 = .ok (.if_icmp .ne 36, 3)) rfl rfl (by decide) r1 ⟨by decide, by decide⟩ k1 k2
theorem kX2_reckon_60 {o0 : Option Value} {o1 : Option Value} {o2 : Option Value} {o3 : Option Value} {o4 : Option Value} {x5 : Int} {o6 : Option Value} {o7 : Option Value} (r1 : R32 x5) (k1 : x5 < 1 → X E d fX2_reckon 175 [o0, o1, o2, o3, o4, some (J x5), o6, o7] [] S (mI M) Q) (k2 : 1 ≤ x5 → X E d fX2_reckon 66 [o0, o1, o2, o3, o4, some (J x5), o6, o7] [] S (mI M) Q) : X E d fX2_reckon 60 [o0, o1, o2, o3, o4, some (J x5), o6, o7] [] S (mI M) Q := by
  refine X_iload 62 (by decide +kernel : decode cX2_reckon 60 = .ok (.iload 5, 2)) rfl rfl rfl ?_
  refine X_iconst 63 (by decide +kernel : decode cX2_reckon 62 = .ok (.iconst 1, 1)) rfl rfl ?_
  exact X_icmplt 175 66 (by decide +kernel : decode cX2_reckon 63 = .ok (.if_icmp .lt 112, 3)) rfl rfl (by decide) r1 ⟨by decide, by decide⟩ k1 k2
theorem kX2_reckon_66 {a0 : Nat} {a1 : Nat} {o2 : Option Value} {o3 : Option Value} {o4 : Option Value} {x5 : Int} {o6 : Option Value} {x7 : Int} {b2 : Nat} (g1 : aKd S a0 = 4) (p3 : aP S a0 0 = some b2) (g7 : aKd S b2 = 100) (r8 : R32 (x5 - 1)) (h9 : (0 : Int) ≤ x5 - 1 ∧ (x5 - 1) < (aN S b2 : Int)) (hd1 : 1 ≤ d) (k : X E (d - 1) fX2_ofOne 0 [some (.ref a1), some (J x7), some (J (M b2 (x5 - 1).toNat))] [] S (mI M) (Kr E d fX2_reckon 89 [some (.ref a0), some (.ref a1), o2, o3, o4, some (J x5), o6, some (J x7)] [J (x5 - 1), .ref b2] Q)) : X E d fX2_reckon 66 [some (.ref a0), some (.ref a1), o2, o3, o4, some (J x5), o6, some (J x7)] [] S (mI M) Q := by
  refine X_aload_n 67 (by decide +kernel : decode cX2_reckon 66 = .ok (.aload_n 0, 1)) rfl rfl rfl ?_
  refine X_getR 70 (by decide +kernel : decode cX2_reckon 67 = .ok (.getfield 9, 3)) rfl rfl (by decide +kernel : aFd 4 9 = some (4, 0, true, true)) g1 p3 ?_
  refine X_iload 72 (by decide +kernel : decode cX2_reckon 70 = .ok (.iload 5, 2)) rfl rfl rfl ?_
  refine X_iconst 73 (by decide +kernel : decode cX2_reckon 72 = .ok (.iconst 1, 1)) rfl rfl ?_
  refine X_isub 74 (by decide +kernel : decode cX2_reckon 73 = .ok (.isub, 1)) rfl rfl ?_
  refine X_aload_n 75 (by decide +kernel : decode cX2_reckon 74 = .ok (.aload_n 1, 1)) rfl rfl rfl ?_
  refine X_iload 77 (by decide +kernel : decode cX2_reckon 75 = .ok (.iload 7, 2)) rfl rfl rfl ?_
  refine X_aload_n 78 (by decide +kernel : decode cX2_reckon 77 = .ok (.aload_n 0, 1)) rfl rfl rfl ?_
  refine X_getR 81 (by decide +kernel : decode cX2_reckon 78 = .ok (.getfield 9, 3)) rfl rfl (by decide +kernel : aFd 4 9 = some (4, 0, true, true)) g1 p3 ?_
  refine X_iload 83 (by decide +kernel : decode cX2_reckon 81 = .ok (.iload 5, 2)) rfl rfl rfl ?_
  refine X_iconst 84 (by decide +kernel : decode cX2_reckon 83 = .ok (.iconst 1, 1)) rfl rfl ?_
  refine X_isub 85 (by decide +kernel : decode cX2_reckon 84 = .ok (.isub, 1)) rfl rfl ?_
  refine X_iald 86 (by decide +kernel : decode cX2_reckon 85 = .ok (.iaload, 1)) rfl rfl g7 r8 h9 ?_
  exact X_cs (as := [J (M b2 (x5 - 1).toNat), J x7, .ref a1]) (rest := [J (x5 - 1), .ref b2]) (by decide +kernel : decode cX2_reckon 86 = .ok (.invokestatic 32, 3)) rfl rfl rfl rfl rfl rfl rfl (Nat.le_of_ble_eq_true rfl) hd1 k
theorem kX2_reckon_89 {o0 : Option Value} {o1 : Option Value} {o2 : Option Value} {o3 : Option Value} {o4 : Option Value} {o5 : Option Value} {o6 : Option Value} {o7 : Option Value} {t0 : Int} {t1 : Int} {u2 : Nat} (g1 : aK S u2 = 100) (r2 : R32 t1) (h3 : (0 : Int) ≤ t1 ∧ t1 < (aN S u2 : Int)) (k : X E d fX2_reckon 175 [o0, o1, o2, o3, o4, o5, o6, o7] [] S (mI (mW M u2 t1.toNat t0)) Q) : X E d fX2_reckon 89 [o0, o1, o2, o3, o4, o5, o6, o7] [J t0, J t1, .ref u2] S (mI M) Q := by
  refine X_iast 90 (by decide +kernel : decode cX2_reckon 89 = .ok (.iastore, 1)) rfl rfl g1 r2 h3 ?_
  exact X_goto 175 (by decide +kernel : decode cX2_reckon 90 = .ok (.goto 85, 3)) rfl (by decide) k
theorem kX2_reckon_93 {o0 : Option Value} {o1 : Option Value} {o2 : Option Value} {o3 : Option Value} {o4 : Option Value} {o5 : Option Value} {o6 : Option Value} {x7 : Int} (hd1 : 1 ≤ d) (k : X E (d - 1) fX2_isOfTwo 0 [some (J x7)] [] S (mI M) (Kr E d fX2_reckon 98 [o0, o1, o2, o3, o4, o5, o6, some (J x7)] [] Q)) : X E d fX2_reckon 93 [o0, o1, o2, o3, o4, o5, o6, some (J x7)] [] S (mI M) Q := by
  refine X_iload 95 (by decide +kernel : decode cX2_reckon 93 = .ok (.iload 7, 2)) rfl rfl rfl ?_
  exact X_cs (as := [J x7]) (rest := []) (by decide +kernel : decode cX2_reckon 95 = .ok (.invokestatic 36, 3)) rfl rfl rfl rfl rfl rfl rfl (Nat.le_of_ble_eq_true rfl) hd1 k
theorem kX2_reckon_98 {o0 : Option Value} {o1 : Option Value} {o2 : Option Value} {o3 : Option Value} {o4 : Option Value} {o5 : Option Value} {o6 : Option Value} {o7 : Option Value} {t0 : Int} (r1 : R32 t0) (k1 : t0 = 0 → X E d fX2_reckon 143 [o0, o1, o2, o3, o4, o5, o6, o7] [] S (mI M) Q) (k2 : t0 ≠ 0 → X E d fX2_reckon 101 [o0, o1, o2, o3, o4, o5, o6, o7] [] S (mI M) Q) : X E d fX2_reckon 98 [o0, o1, o2, o3, o4, o5, o6, o7] [J t0] S (mI M) Q := by
  exact X_ifeq 143 101 (by decide +kernel : decode cX2_reckon 98 = .ok (.ifCond .eq 45, 3)) rfl rfl (by decide) r1 k1 k2
theorem kX2_reckon_101 {o0 : Option Value} {o1 : Option Value} {o2 : Option Value} {o3 : Option Value} {o4 : Option Value} {x5 : Int} {o6 : Option Value} {o7 : Option Value} (r1 : R32 x5) (k1 : x5 < 2 → X E d fX2_reckon 175 [o0, o1, o2, o3, o4, some (J x5), o6, o7] [] S (mI M) Q) (k2 : 2 ≤ x5 → X E d fX2_reckon 107 [o0, o1, o2, o3, o4, some (J x5), o6, o7] [] S (mI M) Q) : X E d fX2_reckon 101 [o0, o1, o2, o3, o4, some (J x5), o6, o7] [] S (mI M) Q := by
  refine X_iload 103 (by decide +kernel : decode cX2_reckon 101 = .ok (.iload 5, 2)) rfl rfl rfl ?_
  refine X_iconst 104 (by decide +kernel : decode cX2_reckon 103 = .ok (.iconst 2, 1)) rfl rfl ?_
  exact X_icmplt 175 107 (by decide +kernel : decode cX2_reckon 104 = .ok (.if_icmp .lt 71, 3)) rfl rfl (by decide) r1 ⟨by decide, by decide⟩ k1 k2
theorem kX2_reckon_107 {a0 : Nat} {o1 : Option Value} {o2 : Option Value} {o3 : Option Value} {o4 : Option Value} {x5 : Int} {o6 : Option Value} {x7 : Int} {b2 : Nat} (g1 : aKd S a0 = 4) (p3 : aP S a0 0 = some b2) (g7 : aKd S b2 = 100) (r8 : R32 ((x5 + (-1)) - 1)) (h9 : (0 : Int) ≤ (x5 + (-1)) - 1 ∧ ((x5 + (-1)) - 1) < (aN S b2 : Int)) (r14 : R32 (x5 + (-1))) (h15 : (0 : Int) ≤ x5 + (-1) ∧ (x5 + (-1)) < (aN S b2 : Int)) (hd1 : 1 ≤ d) (k : X E (d - 1) fX2_ofTwo 0 [some (J x7), some (J (M b2 ((x5 + (-1)) - 1).toNat)), some (J (M b2 (x5 + (-1)).toNat))] [] S (mI M) (Kr E d fX2_reckon 139 [some (.ref a0), o1, o2, o3, o4, some (J (x5 + (-1))), o6, some (J x7)] [J ((x5 + (-1)) - 1), .ref b2] Q)) : X E d fX2_reckon 107 [some (.ref a0), o1, o2, o3, o4, some (J x5), o6, some (J x7)] [] S (mI M) Q := by
  refine X_iinc 110 (by decide +kernel : decode cX2_reckon 107 = .ok (.iinc 5 (-1), 3)) rfl rfl rfl rfl ?_
  refine X_aload_n 111 (by decide +kernel : decode cX2_reckon 110 = .ok (.aload_n 0, 1)) rfl rfl rfl ?_
  refine X_getR 114 (by decide +kernel : decode cX2_reckon 111 = .ok (.getfield 9, 3)) rfl rfl (by decide +kernel : aFd 4 9 = some (4, 0, true, true)) g1 p3 ?_
  refine X_iload 116 (by decide +kernel : decode cX2_reckon 114 = .ok (.iload 5, 2)) rfl rfl rfl ?_
  refine X_iconst 117 (by decide +kernel : decode cX2_reckon 116 = .ok (.iconst 1, 1)) rfl rfl ?_
  refine X_isub 118 (by decide +kernel : decode cX2_reckon 117 = .ok (.isub, 1)) rfl rfl ?_
  refine X_iload 120 (by decide +kernel : decode cX2_reckon 118 = .ok (.iload 7, 2)) rfl rfl rfl ?_
  refine X_aload_n 121 (by decide +kernel : decode cX2_reckon 120 = .ok (.aload_n 0, 1)) rfl rfl rfl ?_
  refine X_getR 124 (by decide +kernel : decode cX2_reckon 121 = .ok (.getfield 9, 3)) rfl rfl (by decide +kernel : aFd 4 9 = some (4, 0, true, true)) g1 p3 ?_
  refine X_iload 126 (by decide +kernel : decode cX2_reckon 124 = .ok (.iload 5, 2)) rfl rfl rfl ?_
  refine X_iconst 127 (by decide +kernel : decode cX2_reckon 126 = .ok (.iconst 1, 1)) rfl rfl ?_
  refine X_isub 128 (by decide +kernel : decode cX2_reckon 127 = .ok (.isub, 1)) rfl rfl ?_
  refine X_iald 129 (by decide +kernel : decode cX2_reckon 128 = .ok (.iaload, 1)) rfl rfl g7 r8 h9 ?_
  refine X_aload_n 130 (by decide +kernel : decode cX2_reckon 129 = .ok (.aload_n 0, 1)) rfl rfl rfl ?_
  refine X_getR 133 (by decide +kernel : decode cX2_reckon 130 = .ok (.getfield 9, 3)) rfl rfl (by decide +kernel : aFd 4 9 = some (4, 0, true, true)) g1 p3 ?_
  refine X_iload 135 (by decide +kernel : decode cX2_reckon 133 = .ok (.iload 5, 2)) rfl rfl rfl ?_
  refine X_iald 136 (by decide +kernel : decode cX2_reckon 135 = .ok (.iaload, 1)) rfl rfl g7 r14 h15 ?_
  exact X_cs (as := [J (M b2 (x5 + (-1)).toNat), J (M b2 ((x5 + (-1)) - 1).toNat), J x7]) (rest := [J ((x5 + (-1)) - 1), .ref b2]) (by decide +kernel : decode cX2_reckon 136 = .ok (.invokestatic 40, 3)) rfl rfl rfl rfl rfl rfl rfl (Nat.le_of_ble_eq_true rfl) hd1 k
theorem kX2_reckon_139 {o0 : Option Value} {o1 : Option Value} {o2 : Option Value} {o3 : Option Value} {o4 : Option Value} {o5 : Option Value} {o6 : Option Value} {o7 : Option Value} {t0 : Int} {t1 : Int} {u2 : Nat} (g1 : aK S u2 = 100) (r2 : R32 t1) (h3 : (0 : Int) ≤ t1 ∧ t1 < (aN S u2 : Int)) (k : X E d fX2_reckon 175 [o0, o1, o2, o3, o4, o5, o6, o7] [] S (mI (mW M u2 t1.toNat t0)) Q) : X E d fX2_reckon 139 [o0, o1, o2, o3, o4, o5, o6, o7] [J t0, J t1, .ref u2] S (mI M) Q := by
  refine X_iast 140 (by decide +kernel : decode cX2_reckon 139 = .ok (.iastore, 1)) rfl rfl g1 r2 h3 ?_
  exact X_goto 175 (by decide +kernel : decode cX2_reckon 140 = .ok (.goto 35, 3)) rfl (by decide) k
theorem kX2_reckon_143 {o0 : Option Value} {o1 : Option Value} {o2 : Option Value} {o3 : Option Value} {o4 : Option Value} {x5 : Int} {o6 : Option Value} {o7 : Option Value} (r1 : R32 x5) (k1 : 400 ≤ x5 → X E d fX2_reckon 175 [o0, o1, o2, o3, o4, some (J x5), o6, o7] [] S (mI M) Q) (k2 : x5 < 400 → X E d fX2_reckon 151 [o0, o1, o2, o3, o4, some (J x5), o6, o7] [] S (mI M) Q) : X E d fX2_reckon 143 [o0, o1, o2, o3, o4, some (J x5), o6, o7] [] S (mI M) Q := by
  refine X_iload 145 (by decide +kernel : decode cX2_reckon 143 = .ok (.iload 5, 2)) rfl rfl rfl ?_
  refine X_sipush 148 (400) (by decide +kernel : decode cX2_reckon 145 = .ok (.sipush 400, 3)) rfl rfl (by decide +kernel) ?_
  exact X_icmpge 175 151 (by decide +kernel : decode cX2_reckon 148 = .ok (.if_icmp .ge 27, 3)) rfl rfl (by decide) r1 ⟨by decide, by decide⟩ k1 k2
theorem kX2_reckon_151 {a0 : Nat} {a1 : Nat} {o2 : Option Value} {o3 : Option Value} {a4 : Nat} {x5 : Int} {x6 : Int} {x7 : Int} {b2 : Nat} {b5 : Nat} (g1 : aKd S a0 = 4) (p3 : aP S a0 0 = some b2) (g4 : aKd S a4 = 3) (p6 : aP S a4 10 = some b5) (g7 : aKd S b5 = 100) (r8 : R32 x6) (h9 : (0 : Int) ≤ x6 ∧ x6 < (aN S b5 : Int)) (hd1 : 1 ≤ d) (k : X E (d - 1) fX2_ofNone 0 [some (.ref a1), some (J x7), some (J (M b5 x6.toNat))] [] S (mI M) (Kr E d fX2_reckon 171 [some (.ref a0), some (.ref a1), o2, o3, some (.ref a4), some (J x5), some (J x6), some (J x7)] [J x5, .ref b2] Q)) : X E d fX2_reckon 151 [some (.ref a0), some (.ref a1), o2, o3, some (.ref a4), some (J x5), some (J x6), some (J x7)] [] S (mI M) Q := by
  refine X_aload_n 152 (by decide +kernel : decode cX2_reckon 151 = .ok (.aload_n 0, 1)) rfl rfl rfl ?_
  refine X_getR 155 (by decide +kernel : decode cX2_reckon 152 = .ok (.getfield 9, 3)) rfl rfl (by decide +kernel : aFd 4 9 = some (4, 0, true, true)) g1 p3 ?_
  refine X_iload 157 (by decide +kernel : decode cX2_reckon 155 = .ok (.iload 5, 2)) rfl rfl rfl ?_
  refine X_aload_n 158 (by decide +kernel : decode cX2_reckon 157 = .ok (.aload_n 1, 1)) rfl rfl rfl ?_
  refine X_iload 160 (by decide +kernel : decode cX2_reckon 158 = .ok (.iload 7, 2)) rfl rfl rfl ?_
  refine X_aload 162 (by decide +kernel : decode cX2_reckon 160 = .ok (.aload 4, 2)) rfl rfl rfl ?_
  refine X_getR 165 (by decide +kernel : decode cX2_reckon 162 = .ok (.getfield 44, 3)) rfl rfl (by decide +kernel : aFd 4 44 = some (3, 10, true, true)) g4 p6 ?_
  refine X_iload 167 (by decide +kernel : decode cX2_reckon 165 = .ok (.iload 6, 2)) rfl rfl rfl ?_
  refine X_iald 168 (by decide +kernel : decode cX2_reckon 167 = .ok (.iaload, 1)) rfl rfl g7 r8 h9 ?_
  exact X_cs (as := [J (M b5 x6.toNat), J x7, .ref a1]) (rest := [J x5, .ref b2]) (by decide +kernel : decode cX2_reckon 168 = .ok (.invokestatic 47, 3)) rfl rfl rfl rfl rfl rfl rfl (Nat.le_of_ble_eq_true rfl) hd1 k
theorem kX2_reckon_171 {o0 : Option Value} {o1 : Option Value} {o2 : Option Value} {o3 : Option Value} {o4 : Option Value} {x5 : Int} {o6 : Option Value} {o7 : Option Value} {t0 : Int} {t1 : Int} {u2 : Nat} (g1 : aK S u2 = 100) (r2 : R32 t1) (h3 : (0 : Int) ≤ t1 ∧ t1 < (aN S u2 : Int)) (k : X E d fX2_reckon 175 [o0, o1, o2, o3, o4, some (J (x5 + 1)), o6, o7] [] S (mI (mW M u2 t1.toNat t0)) Q) : X E d fX2_reckon 171 [o0, o1, o2, o3, o4, some (J x5), o6, o7] [J t0, J t1, .ref u2] S (mI M) Q := by
  refine X_iast 172 (by decide +kernel : decode cX2_reckon 171 = .ok (.iastore, 1)) rfl rfl g1 r2 h3 ?_
  refine X_iinc 175 (by decide +kernel : decode cX2_reckon 172 = .ok (.iinc 5 1, 3)) rfl rfl rfl rfl ?_
  exact k
theorem kX2_reckon_175 {o0 : Option Value} {o1 : Option Value} {o2 : Option Value} {o3 : Option Value} {o4 : Option Value} {o5 : Option Value} {x6 : Int} {o7 : Option Value} (k : X E d fX2_reckon 15 [o0, o1, o2, o3, o4, o5, some (J (x6 + 1)), o7] [] S (mI M) Q) : X E d fX2_reckon 175 [o0, o1, o2, o3, o4, o5, some (J x6), o7] [] S (mI M) Q := by
  refine X_iinc 178 (by decide +kernel : decode cX2_reckon 175 = .ok (.iinc 6 1, 3)) rfl rfl rfl rfl ?_
  exact X_goto 15 (by decide +kernel : decode cX2_reckon 178 = .ok (.goto (-163), 3)) rfl (by decide) k
theorem kX2_reckon_181 {o0 : Option Value} {o1 : Option Value} {o2 : Option Value} {o3 : Option Value} {o4 : Option Value} {x5 : Int} {o6 : Option Value} {o7 : Option Value} (r1 : R32 x5) (k1 : x5 < 1 → X E d fX2_reckon 199 [o0, o1, o2, o3, o4, some (J x5), o6, o7] [] S (mI M) Q) (k2 : 1 ≤ x5 → X E d fX2_reckon 187 [o0, o1, o2, o3, o4, some (J x5), o6, o7] [] S (mI M) Q) : X E d fX2_reckon 181 [o0, o1, o2, o3, o4, some (J x5), o6, o7] [] S (mI M) Q := by
  refine X_iload 183 (by decide +kernel : decode cX2_reckon 181 = .ok (.iload 5, 2)) rfl rfl rfl ?_
  refine X_iconst 184 (by decide +kernel : decode cX2_reckon 183 = .ok (.iconst 1, 1)) rfl rfl ?_
  exact X_icmplt 199 187 (by decide +kernel : decode cX2_reckon 184 = .ok (.if_icmp .lt 15, 3)) rfl rfl (by decide) r1 ⟨by decide, by decide⟩ k1 k2
theorem kX2_reckon_187 {a0 : Nat} {o1 : Option Value} {o2 : Option Value} {o3 : Option Value} {o4 : Option Value} {x5 : Int} {o6 : Option Value} {o7 : Option Value} {b2 : Nat} (g1 : aKd S a0 = 4) (p3 : aP S a0 0 = some b2) (g4 : aKd S b2 = 100) (r5 : R32 (x5 - 1)) (h6 : (0 : Int) ≤ x5 - 1 ∧ (x5 - 1) < (aN S b2 : Int)) (k : X E d fX2_reckon 200 [some (.ref a0), o1, o2, o3, o4, some (J x5), o6, o7] [J (M b2 (x5 - 1).toNat)] S (mI M) Q) : X E d fX2_reckon 187 [some (.ref a0), o1, o2, o3, o4, some (J x5), o6, o7] [] S (mI M) Q := by
  refine X_aload_n 188 (by decide +kernel : decode cX2_reckon 187 = .ok (.aload_n 0, 1)) rfl rfl rfl ?_
  refine X_getR 191 (by decide +kernel : decode cX2_reckon 188 = .ok (.getfield 9, 3)) rfl rfl (by decide +kernel : aFd 4 9 = some (4, 0, true, true)) g1 p3 ?_
  refine X_iload 193 (by decide +kernel : decode cX2_reckon 191 = .ok (.iload 5, 2)) rfl rfl rfl ?_
  refine X_iconst 194 (by decide +kernel : decode cX2_reckon 193 = .ok (.iconst 1, 1)) rfl rfl ?_
  refine X_isub 195 (by decide +kernel : decode cX2_reckon 194 = .ok (.isub, 1)) rfl rfl ?_
  refine X_iald 196 (by decide +kernel : decode cX2_reckon 195 = .ok (.iaload, 1)) rfl rfl g4 r5 h6 ?_
  exact X_goto 200 (by decide +kernel : decode cX2_reckon 196 = .ok (.goto 4, 3)) rfl (by decide) k
theorem kX2_reckon_199 {o0 : Option Value} {o1 : Option Value} {o2 : Option Value} {o3 : Option Value} {o4 : Option Value} {o5 : Option Value} {o6 : Option Value} {o7 : Option Value} (k : X E d fX2_reckon 200 [o0, o1, o2, o3, o4, o5, o6, o7] [J 0] S (mI M) Q) : X E d fX2_reckon 199 [o0, o1, o2, o3, o4, o5, o6, o7] [] S (mI M) Q := by
  refine X_iconst 200 (by decide +kernel : decode cX2_reckon 199 = .ok (.iconst 0, 1)) rfl rfl ?_
  exact k
theorem kX2_reckon_200 {o0 : Option Value} {o1 : Option Value} {o2 : Option Value} {o3 : Option Value} {o4 : Option Value} {o5 : Option Value} {o6 : Option Value} {o7 : Option Value} {t0 : Int} (q : Q (some (some (J t0))) S (mI M)) : X E d fX2_reckon 200 [o0, o1, o2, o3, o4, o5, o6, o7] [J t0] S (mI M) Q := by
  exact X_iret (by decide +kernel : decode cX2_reckon 200 = .ok (.ireturn, 1)) rfl rfl rfl q
theorem kX2_ofOne_0 {o0 : Option Value} {x1 : Int} {o2 : Option Value} (r1 : R32 x1) (kd : x1 ≠ 27 ∧ x1 ≠ 51 → X E d fX2_ofOne 41 [o0, some (J x1), o2] [] S (mI M) Q) (k0 : x1 = 27 → X E d fX2_ofOne 31 [o0, some (J x1), o2] [] S (mI M) Q) (k1 : x1 = 51 → X E d fX2_ofOne 28 [o0, some (J x1), o2] [] S (mI M) Q) : X E d fX2_ofOne 0 [o0, some (J x1), o2] [] S (mI M) Q := by
  refine X_iload_n 1 (by decide +kernel : decode cX2_ofOne 0 = .ok (.iload_n 1, 1)) rfl rfl rfl ?_
  by_cases h0 : x1 = 27
  · exact X_lsw (off := 30) 31 (by decide +kernel : decode cX2_ofOne 1 = .ok (.lookupswitch 40 #[(27, 30), (51, 27)], 27)) rfl (by decide +kernel) ((congrArg (Op.lookupswitch.offset _ _) h0).trans (by decide +kernel)) (by decide) r1 (k0 h0)
  by_cases h1 : x1 = 51
  · exact X_lsw (off := 27) 28 (by decide +kernel : decode cX2_ofOne 1 = .ok (.lookupswitch 40 #[(27, 30), (51, 27)], 27)) rfl (by decide +kernel) ((congrArg (Op.lookupswitch.offset _ _) h1).trans (by decide +kernel)) (by decide) r1 (k1 h1)
  exact X_lsw (off := 40) 41 (by decide +kernel : decode cX2_ofOne 1 = .ok (.lookupswitch 40 #[(27, 30), (51, 27)], 27)) rfl (by decide +kernel) (by show Op.lookupswitch.offset [(27, 30), (51, 27)] 40 x1 = _; simp [Op.lookupswitch.offset, h0, Ne.symm h0, h1, Ne.symm h1]) (by decide) r1 (kd ⟨h0, h1⟩)
theorem kX2_ofOne_28 {o0 : Option Value} {o1 : Option Value} {x2 : Int} (q : Q (some (some (J (-x2)))) S (mI M)) : X E d fX2_ofOne 28 [o0, o1, some (J x2)] [] S (mI M) Q := by
  refine X_iload_n 29 (by decide +kernel : decode cX2_ofOne 28 = .ok (.iload_n 2, 1)) rfl rfl rfl ?_
  refine X_ineg 30 (by decide +kernel : decode cX2_ofOne 29 = .ok (.ineg, 1)) rfl rfl ?_
  exact X_iret (by decide +kernel : decode cX2_ofOne 30 = .ok (.ireturn, 1)) rfl rfl rfl q
theorem kX2_ofOne_31 {o0 : Option Value} {o1 : Option Value} {x2 : Int} (r1 : R32 x2) (k1 : x2 ≠ 0 → X E d fX2_ofOne 39 [o0, o1, some (J x2)] [] S (mI M) Q) (k2 : x2 = 0 → X E d fX2_ofOne 35 [o0, o1, some (J x2)] [] S (mI M) Q) : X E d fX2_ofOne 31 [o0, o1, some (J x2)] [] S (mI M) Q := by
  refine X_iload_n 32 (by decide +kernel : decode cX2_ofOne 31 = .ok (.iload_n 2, 1)) rfl rfl rfl ?_
  exact X_ifne 39 35 (by decide +kernel : decode cX2_ofOne 32 = .ok (.ifCond .ne 7, 3)) rfl rfl (by decide) r1 k1 k2
theorem kX2_ofOne_35 {o0 : Option Value} {o1 : Option Value} {o2 : Option Value} (k : X E d fX2_ofOne 40 [o0, o1, o2] [J 1] S (mI M) Q) : X E d fX2_ofOne 35 [o0, o1, o2] [] S (mI M) Q := by
  refine X_iconst 36 (by decide +kernel : decode cX2_ofOne 35 = .ok (.iconst 1, 1)) rfl rfl ?_
  exact X_goto 40 (by decide +kernel : decode cX2_ofOne 36 = .ok (.goto 4, 3)) rfl (by decide) k
theorem kX2_ofOne_39 {o0 : Option Value} {o1 : Option Value} {o2 : Option Value} (k : X E d fX2_ofOne 40 [o0, o1, o2] [J 0] S (mI M) Q) : X E d fX2_ofOne 39 [o0, o1, o2] [] S (mI M) Q := by
  refine X_iconst 40 (by decide +kernel : decode cX2_ofOne 39 = .ok (.iconst 0, 1)) rfl rfl ?_
  exact k
theorem kX2_ofOne_40 {o0 : Option Value} {o1 : Option Value} {o2 : Option Value} {t0 : Int} (q : Q (some (some (J t0))) S (mI M)) : X E d fX2_ofOne 40 [o0, o1, o2] [J t0] S (mI M) Q := by
  exact X_iret (by decide +kernel : decode cX2_ofOne 40 = .ok (.ireturn, 1)) rfl rfl rfl q
theorem kX2_ofOne_41 {a0 : Nat} {o1 : Option Value} {x2 : Int} {b2 : Nat} (g1 : aKd S a0 = 8) (p3 : aP S a0 1 = some b2) (g4 : aKd S b2 = 5) (r5 : R32 x2) (r6 : R32 (M b2 1)) (k1 : (M b2 1) ≤ x2 → X E d fX2_ofOne 63 [some (.ref a0), o1, some (J x2)] [] S (mI M) Q) (k2 : x2 < (M b2 1) → X E d fX2_ofOne 52 [some (.ref a0), o1, some (J x2)] [] S (mI M) Q) : X E d fX2_ofOne 41 [some (.ref a0), o1, some (J x2)] [] S (mI M) Q := by
  refine X_iload_n 42 (by decide +kernel : decode cX2_ofOne 41 = .ok (.iload_n 2, 1)) rfl rfl rfl ?_
  refine X_aload_n 43 (by decide +kernel : decode cX2_ofOne 42 = .ok (.aload_n 0, 1)) rfl rfl rfl ?_
  refine X_getR 46 (by decide +kernel : decode cX2_ofOne 43 = .ok (.getfield 15, 3)) rfl rfl (by decide +kernel : aFd 4 15 = some (8, 1, true, false)) g1 p3 ?_
  refine X_getI 49 (by decide +kernel : decode cX2_ofOne 46 = .ok (.getfield 77, 3)) rfl rfl (by decide +kernel : aFd 4 77 = some (5, 1, false, false)) g4 ?_
  exact X_icmpge 63 52 (by decide +kernel : decode cX2_ofOne 49 = .ok (.if_icmp .ge 14, 3)) rfl rfl (by decide) r5 r6 k1 k2
theorem kX2_ofOne_52 {a0 : Nat} {o1 : Option Value} {x2 : Int} {b2 : Nat} (g1 : aKd S a0 = 8) (p3 : aP S a0 4 = some b2) (hd1 : 1 ≤ d) (k : X E (d - 1) fX7_valueAt 0 [some (.ref b2), some (J x2)] [] S (mI M) (Kr E d fX2_ofOne 60 [some (.ref a0), o1, some (J x2)] [] Q)) : X E d fX2_ofOne 52 [some (.ref a0), o1, some (J x2)] [] S (mI M) Q := by
  refine X_aload_n 53 (by decide +kernel : decode cX2_ofOne 52 = .ok (.aload_n 0, 1)) rfl rfl rfl ?_
  refine X_getR 56 (by decide +kernel : decode cX2_ofOne 53 = .ok (.getfield 80, 3)) rfl rfl (by decide +kernel : aFd 4 80 = some (8, 4, true, true)) g1 p3 ?_
  refine X_iload_n 57 (by decide +kernel : decode cX2_ofOne 56 = .ok (.iload_n 2, 1)) rfl rfl rfl ?_
  exact X_cs (as := [J x2, .ref b2]) (rest := []) (by decide +kernel : decode cX2_ofOne 57 = .ok (.invokestatic 64, 3)) rfl rfl rfl rfl rfl rfl rfl (Nat.le_of_ble_eq_true rfl) hd1 k
theorem kX2_ofOne_60 {o0 : Option Value} {o1 : Option Value} {o2 : Option Value} {t0 : Int} (k : X E d fX2_ofOne 64 [o0, o1, o2] [J t0] S (mI M) Q) : X E d fX2_ofOne 60 [o0, o1, o2] [J t0] S (mI M) Q := by
  exact X_goto 64 (by decide +kernel : decode cX2_ofOne 60 = .ok (.goto 4, 3)) rfl (by decide) k
theorem kX2_ofOne_63 {o0 : Option Value} {o1 : Option Value} {o2 : Option Value} (k : X E d fX2_ofOne 64 [o0, o1, o2] [J 0] S (mI M) Q) : X E d fX2_ofOne 63 [o0, o1, o2] [] S (mI M) Q := by
  refine X_iconst 64 (by decide +kernel : decode cX2_ofOne 63 = .ok (.iconst 0, 1)) rfl rfl ?_
  exact k
theorem kX2_ofOne_64 {o0 : Option Value} {o1 : Option Value} {o2 : Option Value} {t0 : Int} (q : Q (some (some (J t0))) S (mI M)) : X E d fX2_ofOne 64 [o0, o1, o2] [J t0] S (mI M) Q := by
  exact X_iret (by decide +kernel : decode cX2_ofOne 64 = .ok (.ireturn, 1)) rfl rfl rfl q
theorem kX2_isOfTwo_0 {x0 : Int} (r1 : R32 x0) (k1 : x0 < 38 → X E d fX2_isOfTwo 12 [some (J x0)] [] S (mI M) Q) (k2 : 38 ≤ x0 → X E d fX2_isOfTwo 6 [some (J x0)] [] S (mI M) Q) : X E d fX2_isOfTwo 0 [some (J x0)] [] S (mI M) Q := by
  refine X_iload_n 1 (by decide +kernel : decode cX2_isOfTwo 0 = .ok (.iload_n 0, 1)) rfl rfl rfl ?_
  refine X_bipush 3 (38) (by decide +kernel : decode cX2_isOfTwo 1 = .ok (.bipush 38, 2)) rfl rfl (by decide +kernel) ?_
  exact X_icmplt 12 6 (by decide +kernel : decode cX2_isOfTwo 3 = .ok (.if_icmp .lt 9, 3)) rfl rfl (by decide) r1 ⟨by decide, by decide⟩ k1 k2
theorem kX2_isOfTwo_6 {x0 : Int} (r1 : R32 x0) (k1 : x0 ≤ 46 → X E d fX2_isOfTwo 24 [some (J x0)] [] S (mI M) Q) (k2 : 46 < x0 → X E d fX2_isOfTwo 12 [some (J x0)] [] S (mI M) Q) : X E d fX2_isOfTwo 6 [some (J x0)] [] S (mI M) Q := by
  refine X_iload_n 7 (by decide +kernel : decode cX2_isOfTwo 6 = .ok (.iload_n 0, 1)) rfl rfl rfl ?_
  refine X_bipush 9 (46) (by decide +kernel : decode cX2_isOfTwo 7 = .ok (.bipush 46, 2)) rfl rfl (by decide +kernel) ?_
  exact X_icmple 24 12 (by decide +kernel : decode cX2_isOfTwo 9 = .ok (.if_icmp .le 15, 3)) rfl rfl (by decide) r1 ⟨by decide, by decide⟩ k1 k2
theorem kX2_isOfTwo_12 {x0 : Int} (r1 : R32 x0) (k1 : x0 < 28 → X E d fX2_isOfTwo 28 [some (J x0)] [] S (mI M) Q) (k2 : 28 ≤ x0 → X E d fX2_isOfTwo 18 [some (J x0)] [] S (mI M) Q) : X E d fX2_isOfTwo 12 [some (J x0)] [] S (mI M) Q := by
  refine X_iload_n 13 (by decide +kernel : decode cX2_isOfTwo 12 = .ok (.iload_n 0, 1)) rfl rfl rfl ?_
  refine X_bipush 15 (28) (by decide +kernel : decode cX2_isOfTwo 13 = .ok (.bipush 28, 2)) rfl rfl (by decide +kernel) ?_
  exact X_icmplt 28 18 (by decide +kernel : decode cX2_isOfTwo 15 = .ok (.if_icmp .lt 13, 3)) rfl rfl (by decide) r1 ⟨by decide, by decide⟩ k1 k2
theorem kX2_isOfTwo_18 {x0 : Int} (r1 : R32 x0) (k1 : 31 < x0 → X E d fX2_isOfTwo 28 [some (J x0)] [] S (mI M) Q) (k2 : x0 ≤ 31 → X E d fX2_isOfTwo 24 [some (J x0)] [] S (mI M) Q) : X E d fX2_isOfTwo 18 [some (J x0)] [] S (mI M) Q := by
  refine X_iload_n 19 (by decide +kernel : decode cX2_isOfTwo 18 = .ok (.iload_n 0, 1)) rfl rfl rfl ?_
  refine X_bipush 21 (31) (by decide +kernel : decode cX2_isOfTwo 19 = .ok (.bipush 31, 2)) rfl rfl (by decide +kernel) ?_
  exact X_icmpgt 28 24 (by decide +kernel : decode cX2_isOfTwo 21 = .ok (.if_icmp .gt 7, 3)) rfl rfl (by decide) r1 ⟨by decide, by decide⟩ k1 k2
theorem kX2_isOfTwo_24 {o0 : Option Value} (k : X E d fX2_isOfTwo 29 [o0] [J 1] S (mI M) Q) : X E d fX2_isOfTwo 24 [o0] [] S (mI M) Q := by
  refine X_iconst 25 (by decide +kernel : decode cX2_isOfTwo 24 = .ok (.iconst 1, 1)) rfl rfl ?_
  exact X_goto 29 (by decide +kernel : decode cX2_isOfTwo 25 = .ok (.goto 4, 3)) rfl (by decide) k
theorem kX2_isOfTwo_28 {o0 : Option Value} (k : X E d fX2_isOfTwo 29 [o0] [J 0] S (mI M) Q) : X E d fX2_isOfTwo 28 [o0] [] S (mI M) Q := by
  refine X_iconst 29 (by decide +kernel : decode cX2_isOfTwo 28 = .ok (.iconst 0, 1)) rfl rfl ?_
  exact k
theorem kX2_isOfTwo_29 {o0 : Option Value} {t0 : Int} (h1 : narrow .boolean (J t0) = J t0) (q : Q (some (some (J t0))) S (mI M)) : X E d fX2_isOfTwo 29 [o0] [J t0] S (mI M) Q := by
  exact X_iret (by decide +kernel : decode cX2_isOfTwo 29 = .ok (.ireturn, 1)) rfl rfl h1 q
theorem kX2_ofTwo_0 {x0 : Int} {o1 : Option Value} {o2 : Option Value} (r1 : R32 x0) (kd : x0 ≠ 28 ∧ x0 ≠ 29 ∧ x0 ≠ 30 ∧ x0 ≠ 38 ∧ x0 ≠ 39 ∧ x0 ≠ 40 ∧ x0 ≠ 41 ∧ x0 ≠ 42 ∧ x0 ≠ 43 ∧ x0 ≠ 44 ∧ x0 ≠ 45 ∧ x0 ≠ 46 → X E d fX2_ofTwo 190 [some (J x0), o1, o2] [] S (mI M) Q) (k0 : x0 = 28 → X E d fX2_ofTwo 171 [some (J x0), o1, o2] [] S (mI M) Q) (k1 : x0 = 29 → X E d fX2_ofTwo 175 [some (J x0), o1, o2] [] S (mI M) Q) (k2 : x0 = 30 → X E d fX2_ofTwo 179 [some (J x0), o1, o2] [] S (mI M) Q) (k10 : x0 = 38 → X E d fX2_ofTwo 92 [some (J x0), o1, o2] [] S (mI M) Q) (k11 : x0 = 39 → X E d fX2_ofTwo 96 [some (J x0), o1, o2] [] S (mI M) Q) (k12 : x0 = 40 → X E d fX2_ofTwo 100 [some (J x0), o1, o2] [] S (mI M) Q) (k13 : x0 = 41 → X E d fX2_ofTwo 104 [some (J x0), o1, o2] [] S (mI M) Q) (k14 : x0 = 42 → X E d fX2_ofTwo 116 [some (J x0), o1, o2] [] S (mI M) Q) (k15 : x0 = 43 → X E d fX2_ofTwo 127 [some (J x0), o1, o2] [] S (mI M) Q) (k16 : x0 = 44 → X E d fX2_ofTwo 138 [some (J x0), o1, o2] [] S (mI M) Q) (k17 : x0 = 45 → X E d fX2_ofTwo 149 [some (J x0), o1, o2] [] S (mI M) Q) (k18 : x0 = 46 → X E d fX2_ofTwo 160 [some (J x0), o1, o2] [] S (mI M) Q) : X E d fX2_ofTwo 0 [some (J x0), o1, o2] [] S (mI M) Q := by
  refine X_iload_n 1 (by decide +kernel : decode cX2_ofTwo 0 = .ok (.iload_n 0, 1)) rfl rfl rfl ?_
  by_cases hr : x0 < 28 ∨ 46 < x0
  · exact X_tswD 190 (by decide +kernel : decode cX2_ofTwo 1 = .ok (.tableswitch 189 28 46 #[170, 174, 178, 189, 189, 189, 189, 189, 189, 189, 91, 95, 99, 103, 115, 126, 137, 148, 159], 91)) rfl (by decide) r1 hr (kd (by omega))
  · rcases (by omega : x0 = 28 ∨ x0 = 29 ∨ x0 = 30 ∨ x0 = 31 ∨ x0 = 32 ∨ x0 = 33 ∨ x0 = 34 ∨ x0 = 35 ∨ x0 = 36 ∨ x0 = 37 ∨ x0 = 38 ∨ x0 = 39 ∨ x0 = 40 ∨ x0 = 41 ∨ x0 = 42 ∨ x0 = 43 ∨ x0 = 44 ∨ x0 = 45 ∨ x0 = 46) with h | h | h | h | h | h | h | h | h | h | h | h | h | h | h | h | h | h | h
    · exact X_tswI 171 0 (by decide +kernel : decode cX2_ofTwo 1 = .ok (.tableswitch 189 28 46 #[170, 174, 178, 189, 189, 189, 189, 189, 189, 189, 91, 95, 99, 103, 115, 126, 137, 148, 159], 91)) rfl rfl (by decide) r1 (h.trans rfl) (by decide) (k0 h)
    · exact X_tswI 175 1 (by decide +kernel : decode cX2_ofTwo 1 = .ok (.tableswitch 189 28 46 #[170, 174, 178, 189, 189, 189, 189, 189, 189, 189, 91, 95, 99, 103, 115, 126, 137, 148, 159], 91)) rfl rfl (by decide) r1 (h.trans rfl) (by decide) (k1 h)
    · exact X_tswI 179 2 (by decide +kernel : decode cX2_ofTwo 1 = .ok (.tableswitch 189 28 46 #[170, 174, 178, 189, 189, 189, 189, 189, 189, 189, 91, 95, 99, 103, 115, 126, 137, 148, 159], 91)) rfl rfl (by decide) r1 (h.trans rfl) (by decide) (k2 h)
    · exact X_tswI 190 3 (by decide +kernel : decode cX2_ofTwo 1 = .ok (.tableswitch 189 28 46 #[170, 174, 178, 189, 189, 189, 189, 189, 189, 189, 91, 95, 99, 103, 115, 126, 137, 148, 159], 91)) rfl rfl (by decide) r1 (h.trans rfl) (by decide) (kd (by omega))
    · exact X_tswI 190 4 (by decide +kernel : decode cX2_ofTwo 1 = .ok (.tableswitch 189 28 46 #[170, 174, 178, 189, 189, 189, 189, 189, 189, 189, 91, 95, 99, 103, 115, 126, 137, 148, 159], 91)) rfl rfl (by decide) r1 (h.trans rfl) (by decide) (kd (by omega))
    · exact X_tswI 190 5 (by decide +kernel : decode cX2_ofTwo 1 = .ok (.tableswitch 189 28 46 #[170, 174, 178, 189, 189, 189, 189, 189, 189, 189, 91, 95, 99, 103, 115, 126, 137, 148, 159], 91)) rfl rfl (by decide) r1 (h.trans rfl) (by decide) (kd (by omega))
    · exact X_tswI 190 6 (by decide +kernel : decode cX2_ofTwo 1 = .ok (.tableswitch 189 28 46 #[170, 174, 178, 189, 189, 189, 189, 189, 189, 189, 91, 95, 99, 103, 115, 126, 137, 148, 159], 91)) rfl rfl (by decide) r1 (h.trans rfl) (by decide) (kd (by omega))
    · exact X_tswI 190 7 (by decide +kernel : decode cX2_ofTwo 1 = .ok (.tableswitch 189 28 46 #[170, 174, 178, 189, 189, 189, 189, 189, 189, 189, 91, 95, 99, 103, 115, 126, 137, 148, 159], 91)) rfl rfl (by decide) r1 (h.trans rfl) (by decide) (kd (by omega))
    · exact X_tswI 190 8 (by decide +kernel : decode cX2_ofTwo 1 = .ok (.tableswitch 189 28 46 #[170, 174, 178, 189, 189, 189, 189, 189, 189, 189, 91, 95, 99, 103, 115, 126, 137, 148, 159], 91)) rfl rfl (by decide) r1 (h.trans rfl) (by decide) (kd (by omega))
    · exact X_tswI 190 9 (by decide +kernel : decode cX2_ofTwo 1 = .ok (.tableswitch 189 28 46 #[170, 174, 178, 189, 189, 189, 189, 189, 189, 189, 91, 95, 99, 103, 115, 126, 137, 148, 159], 91)) rfl rfl (by decide) r1 (h.trans rfl) (by decide) (kd (by omega))
    · exact X_tswI 92 10 (by decide +kernel : decode cX2_ofTwo 1 = .ok (.tableswitch 189 28 46 #[170, 174, 178, 189, 189, 189, 189, 189, 189, 189, 91, 95, 99, 103, 115, 126, 137, 148, 159], 91)) rfl rfl (by decide) r1 (h.trans rfl) (by decide) (k10 h)
    · exact X_tswI 96 11 (by decide +kernel : decode cX2_ofTwo 1 = .ok (.tableswitch 189 28 46 #[170, 174, 178, 189, 189, 189, 189, 189, 189, 189, 91, 95, 99, 103, 115, 126, 137, 148, 159], 91)) rfl rfl (by decide) r1 (h.trans rfl) (by decide) (k11 h)
    · exact X_tswI 100 12 (by decide +kernel : decode cX2_ofTwo 1 = .ok (.tableswitch 189 28 46 #[170, 174, 178, 189, 189, 189, 189, 189, 189, 189, 91, 95, 99, 103, 115, 126, 137, 148, 159], 91)) rfl rfl (by decide) r1 (h.trans rfl) (by decide) (k12 h)
    · exact X_tswI 104 13 (by decide +kernel : decode cX2_ofTwo 1 = .ok (.tableswitch 189 28 46 #[170, 174, 178, 189, 189, 189, 189, 189, 189, 189, 91, 95, 99, 103, 115, 126, 137, 148, 159], 91)) rfl rfl (by decide) r1 (h.trans rfl) (by decide) (k13 h)
    · exact X_tswI 116 14 (by decide +kernel : decode cX2_ofTwo 1 = .ok (.tableswitch 189 28 46 #[170, 174, 178, 189, 189, 189, 189, 189, 189, 189, 91, 95, 99, 103, 115, 126, 137, 148, 159], 91)) rfl rfl (by decide) r1 (h.trans rfl) (by decide) (k14 h)
    · exact X_tswI 127 15 (by decide +kernel : decode cX2_ofTwo 1 = .ok (.tableswitch 189 28 46 #[170, 174, 178, 189, 189, 189, 189, 189, 189, 189, 91, 95, 99, 103, 115, 126, 137, 148, 159], 91)) rfl rfl (by decide) r1 (h.trans rfl) (by decide) (k15 h)
    · exact X_tswI 138 16 (by decide +kernel : decode cX2_ofTwo 1 = .ok (.tableswitch 189 28 46 #[170, 174, 178, 189, 189, 189, 189, 189, 189, 189, 91, 95, 99, 103, 115, 126, 137, 148, 159], 91)) rfl rfl (by decide) r1 (h.trans rfl) (by decide) (k16 h)
    · exact X_tswI 149 17 (by decide +kernel : decode cX2_ofTwo 1 = .ok (.tableswitch 189 28 46 #[170, 174, 178, 189, 189, 189, 189, 189, 189, 189, 91, 95, 99, 103, 115, 126, 137, 148, 159], 91)) rfl rfl (by decide) r1 (h.trans rfl) (by decide) (k17 h)
    · exact X_tswI 160 18 (by decide +kernel : decode cX2_ofTwo 1 = .ok (.tableswitch 189 28 46 #[170, 174, 178, 189, 189, 189, 189, 189, 189, 189, 91, 95, 99, 103, 115, 126, 137, 148, 159], 91)) rfl rfl (by decide) r1 (h.trans rfl) (by decide) (k18 h)
theorem kX2_ofTwo_92 {o0 : Option Value} {x1 : Int} {x2 : Int} (q : Q (some (some (J (x1 + x2)))) S (mI M)) : X E d fX2_ofTwo 92 [o0, some (J x1), some (J x2)] [] S (mI M) Q := by
  refine X_iload_n 93 (by decide +kernel : decode cX2_ofTwo 92 = .ok (.iload_n 1, 1)) rfl rfl rfl ?_
  refine X_iload_n 94 (by decide +kernel : decode cX2_ofTwo 93 = .ok (.iload_n 2, 1)) rfl rfl rfl ?_
  refine X_iadd 95 (by decide +kernel : decode cX2_ofTwo 94 = .ok (.iadd, 1)) rfl rfl ?_
  exact X_iret (by decide +kernel : decode cX2_ofTwo 95 = .ok (.ireturn, 1)) rfl rfl rfl q
theorem kX2_ofTwo_96 {o0 : Option Value} {x1 : Int} {x2 : Int} (q : Q (some (some (J (x1 - x2)))) S (mI M)) : X E d fX2_ofTwo 96 [o0, some (J x1), some (J x2)] [] S (mI M) Q := by
  refine X_iload_n 97 (by decide +kernel : decode cX2_ofTwo 96 = .ok (.iload_n 1, 1)) rfl rfl rfl ?_
  refine X_iload_n 98 (by decide +kernel : decode cX2_ofTwo 97 = .ok (.iload_n 2, 1)) rfl rfl rfl ?_
  refine X_isub 99 (by decide +kernel : decode cX2_ofTwo 98 = .ok (.isub, 1)) rfl rfl ?_
  exact X_iret (by decide +kernel : decode cX2_ofTwo 99 = .ok (.ireturn, 1)) rfl rfl rfl q
theorem kX2_ofTwo_100 {o0 : Option Value} {x1 : Int} {x2 : Int} (q : Q (some (some (J (x1 * x2)))) S (mI M)) : X E d fX2_ofTwo 100 [o0, some (J x1), some (J x2)] [] S (mI M) Q := by
  refine X_iload_n 101 (by decide +kernel : decode cX2_ofTwo 100 = .ok (.iload_n 1, 1)) rfl rfl rfl ?_
  refine X_iload_n 102 (by decide +kernel : decode cX2_ofTwo 101 = .ok (.iload_n 2, 1)) rfl rfl rfl ?_
  refine X_imul 103 (by decide +kernel : decode cX2_ofTwo 102 = .ok (.imul, 1)) rfl rfl ?_
  exact X_iret (by decide +kernel : decode cX2_ofTwo 103 = .ok (.ireturn, 1)) rfl rfl rfl q
theorem kX2_ofTwo_104 {o0 : Option Value} {o1 : Option Value} {x2 : Int} (r1 : R32 x2) (k1 : x2 ≠ 0 → X E d fX2_ofTwo 112 [o0, o1, some (J x2)] [] S (mI M) Q) (k2 : x2 = 0 → X E d fX2_ofTwo 108 [o0, o1, some (J x2)] [] S (mI M) Q) : X E d fX2_ofTwo 104 [o0, o1, some (J x2)] [] S (mI M) Q := by
  refine X_iload_n 105 (by decide +kernel : decode cX2_ofTwo 104 = .ok (.iload_n 2, 1)) rfl rfl rfl ?_
  exact X_ifne 112 108 (by decide +kernel : decode cX2_ofTwo 105 = .ok (.ifCond .ne 7, 3)) rfl rfl (by decide) r1 k1 k2
theorem kX2_ofTwo_108 {o0 : Option Value} {o1 : Option Value} {o2 : Option Value} (k : X E d fX2_ofTwo 115 [o0, o1, o2] [J 0] S (mI M) Q) : X E d fX2_ofTwo 108 [o0, o1, o2] [] S (mI M) Q := by
  refine X_iconst 109 (by decide +kernel : decode cX2_ofTwo 108 = .ok (.iconst 0, 1)) rfl rfl ?_
  exact X_goto 115 (by decide +kernel : decode cX2_ofTwo 109 = .ok (.goto 6, 3)) rfl (by decide) k
theorem kX2_ofTwo_112 {o0 : Option Value} {x1 : Int} {x2 : Int} (r1 : R32 x1) (r2 : R32 x2) (h3 : x2 ≠ 0) (k : X E d fX2_ofTwo 115 [o0, some (J x1), some (J x2)] [J (x1.tdiv x2)] S (mI M) Q) : X E d fX2_ofTwo 112 [o0, some (J x1), some (J x2)] [] S (mI M) Q := by
  refine X_iload_n 113 (by decide +kernel : decode cX2_ofTwo 112 = .ok (.iload_n 1, 1)) rfl rfl rfl ?_
  refine X_iload_n 114 (by decide +kernel : decode cX2_ofTwo 113 = .ok (.iload_n 2, 1)) rfl rfl rfl ?_
  refine X_idivW 115 (by decide +kernel : decode cX2_ofTwo 114 = .ok (.idiv, 1)) rfl rfl r1 r2 h3 ?_
  exact k
theorem kX2_ofTwo_115 {o0 : Option Value} {o1 : Option Value} {o2 : Option Value} {t0 : Int} (q : Q (some (some (J t0))) S (mI M)) : X E d fX2_ofTwo 115 [o0, o1, o2] [J t0] S (mI M) Q := by
  exact X_iret (by decide +kernel : decode cX2_ofTwo 115 = .ok (.ireturn, 1)) rfl rfl rfl q
theorem kX2_ofTwo_116 {o0 : Option Value} {x1 : Int} {x2 : Int} (r1 : R32 x1) (r2 : R32 x2) (k1 : x2 ≤ x1 → X E d fX2_ofTwo 125 [o0, some (J x1), some (J x2)] [] S (mI M) Q) (k2 : x1 < x2 → X E d fX2_ofTwo 121 [o0, some (J x1), some (J x2)] [] S (mI M) Q) : X E d fX2_ofTwo 116 [o0, some (J x1), some (J x2)] [] S (mI M) Q := by
  refine X_iload_n 117 (by decide +kernel : decode cX2_ofTwo 116 = .ok (.iload_n 1, 1)) rfl rfl rfl ?_
  refine X_iload_n 118 (by decide +kernel : decode cX2_ofTwo 117 = .ok (.iload_n 2, 1)) rfl rfl rfl ?_
  exact X_icmpge 125 121 (by decide +kernel : decode cX2_ofTwo 118 = .ok (.if_icmp .ge 7, 3)) rfl rfl (by decide) r1 r2 k1 k2
theorem kX2_ofTwo_121 {o0 : Option Value} {o1 : Option Value} {o2 : Option Value} (k : X E d fX2_ofTwo 126 [o0, o1, o2] [J 1] S (mI M) Q) : X E d fX2_ofTwo 121 [o0, o1, o2] [] S (mI M) Q := by
  refine X_iconst 122 (by decide +kernel : decode cX2_ofTwo 121 = .ok (.iconst 1, 1)) rfl rfl ?_
  exact X_goto 126 (by decide +kernel : decode cX2_ofTwo 122 = .ok (.goto 4, 3)) rfl (by decide) k
theorem kX2_ofTwo_125 {o0 : Option Value} {o1 : Option Value} {o2 : Option Value} (k : X E d fX2_ofTwo 126 [o0, o1, o2] [J 0] S (mI M) Q) : X E d fX2_ofTwo 125 [o0, o1, o2] [] S (mI M) Q := by
  refine X_iconst 126 (by decide +kernel : decode cX2_ofTwo 125 = .ok (.iconst 0, 1)) rfl rfl ?_
  exact k
theorem kX2_ofTwo_126 {o0 : Option Value} {o1 : Option Value} {o2 : Option Value} {t0 : Int} (q : Q (some (some (J t0))) S (mI M)) : X E d fX2_ofTwo 126 [o0, o1, o2] [J t0] S (mI M) Q := by
  exact X_iret (by decide +kernel : decode cX2_ofTwo 126 = .ok (.ireturn, 1)) rfl rfl rfl q
theorem kX2_ofTwo_127 {o0 : Option Value} {x1 : Int} {x2 : Int} (r1 : R32 x1) (r2 : R32 x2) (k1 : x1 ≤ x2 → X E d fX2_ofTwo 136 [o0, some (J x1), some (J x2)] [] S (mI M) Q) (k2 : x2 < x1 → X E d fX2_ofTwo 132 [o0, some (J x1), some (J x2)] [] S (mI M) Q) : X E d fX2_ofTwo 127 [o0, some (J x1), some (J x2)] [] S (mI M) Q := by
  refine X_iload_n 128 (by decide +kernel : decode cX2_ofTwo 127 = .ok (.iload_n 1, 1)) rfl rfl rfl ?_
  refine X_iload_n 129 (by decide +kernel : decode cX2_ofTwo 128 = .ok (.iload_n 2, 1)) rfl rfl rfl ?_
  exact X_icmple 136 132 (by decide +kernel : decode cX2_ofTwo 129 = .ok (.if_icmp .le 7, 3)) rfl rfl (by decide) r1 r2 k1 k2
theorem kX2_ofTwo_132 {o0 : Option Value} {o1 : Option Value} {o2 : Option Value} (k : X E d fX2_ofTwo 137 [o0, o1, o2] [J 1] S (mI M) Q) : X E d fX2_ofTwo 132 [o0, o1, o2] [] S (mI M) Q := by
  refine X_iconst 133 (by decide +kernel : decode cX2_ofTwo 132 = .ok (.iconst 1, 1)) rfl rfl ?_
  exact X_goto 137 (by decide +kernel : decode cX2_ofTwo 133 = .ok (.goto 4, 3)) rfl (by decide) k
theorem kX2_ofTwo_136 {o0 : Option Value} {o1 : Option Value} {o2 : Option Value} (k : X E d fX2_ofTwo 137 [o0, o1, o2] [J 0] S (mI M) Q) : X E d fX2_ofTwo 136 [o0, o1, o2] [] S (mI M) Q := by
  refine X_iconst 137 (by decide +kernel : decode cX2_ofTwo 136 = .ok (.iconst 0, 1)) rfl rfl ?_
  exact k
theorem kX2_ofTwo_137 {o0 : Option Value} {o1 : Option Value} {o2 : Option Value} {t0 : Int} (q : Q (some (some (J t0))) S (mI M)) : X E d fX2_ofTwo 137 [o0, o1, o2] [J t0] S (mI M) Q := by
  exact X_iret (by decide +kernel : decode cX2_ofTwo 137 = .ok (.ireturn, 1)) rfl rfl rfl q
theorem kX2_ofTwo_138 {o0 : Option Value} {x1 : Int} {x2 : Int} (r1 : R32 x1) (r2 : R32 x2) (k1 : x1 ≠ x2 → X E d fX2_ofTwo 147 [o0, some (J x1), some (J x2)] [] S (mI M) Q) (k2 : x1 = x2 → X E d fX2_ofTwo 143 [o0, some (J x1), some (J x2)] [] S (mI M) Q) : X E d fX2_ofTwo 138 [o0, some (J x1), some (J x2)] [] S (mI M) Q := by
  refine X_iload_n 139 (by decide +kernel : decode cX2_ofTwo 138 = .ok (.iload_n 1, 1)) rfl rfl rfl ?_
  refine X_iload_n 140 (by decide +kernel : decode cX2_ofTwo 139 = .ok (.iload_n 2, 1)) rfl rfl rfl ?_
  exact X_icmpne 147 143 (by decide +kernel : decode cX2_ofTwo 140 = .ok (.if_icmp .ne 7, 3)) rfl rfl (by decide) r1 r2 k1 k2
theorem kX2_ofTwo_143 {o0 : Option Value} {o1 : Option Value} {o2 : Option Value} (k : X E d fX2_ofTwo 148 [o0, o1, o2] [J 1] S (mI M) Q) : X E d fX2_ofTwo 143 [o0, o1, o2] [] S (mI M) Q := by
  refine X_iconst 144 (by decide +kernel : decode cX2_ofTwo 143 = .ok (.iconst 1, 1)) rfl rfl ?_
  exact X_goto 148 (by decide +kernel : decode cX2_ofTwo 144 = .ok (.goto 4, 3)) rfl (by decide) k
theorem kX2_ofTwo_147 {o0 : Option Value} {o1 : Option Value} {o2 : Option Value} (k : X E d fX2_ofTwo 148 [o0, o1, o2] [J 0] S (mI M) Q) : X E d fX2_ofTwo 147 [o0, o1, o2] [] S (mI M) Q := by
  refine X_iconst 148 (by decide +kernel : decode cX2_ofTwo 147 = .ok (.iconst 0, 1)) rfl rfl ?_
  exact k
theorem kX2_ofTwo_148 {o0 : Option Value} {o1 : Option Value} {o2 : Option Value} {t0 : Int} (q : Q (some (some (J t0))) S (mI M)) : X E d fX2_ofTwo 148 [o0, o1, o2] [J t0] S (mI M) Q := by
  exact X_iret (by decide +kernel : decode cX2_ofTwo 148 = .ok (.ireturn, 1)) rfl rfl rfl q
theorem kX2_ofTwo_149 {o0 : Option Value} {x1 : Int} {x2 : Int} (r1 : R32 x1) (r2 : R32 x2) (k1 : x2 < x1 → X E d fX2_ofTwo 158 [o0, some (J x1), some (J x2)] [] S (mI M) Q) (k2 : x1 ≤ x2 → X E d fX2_ofTwo 154 [o0, some (J x1), some (J x2)] [] S (mI M) Q) : X E d fX2_ofTwo 149 [o0, some (J x1), some (J x2)] [] S (mI M) Q := by
  refine X_iload_n 150 (by decide +kernel : decode cX2_ofTwo 149 = .ok (.iload_n 1, 1)) rfl rfl rfl ?_
  refine X_iload_n 151 (by decide +kernel : decode cX2_ofTwo 150 = .ok (.iload_n 2, 1)) rfl rfl rfl ?_
  exact X_icmpgt 158 154 (by decide +kernel : decode cX2_ofTwo 151 = .ok (.if_icmp .gt 7, 3)) rfl rfl (by decide) r1 r2 k1 k2
theorem kX2_ofTwo_154 {o0 : Option Value} {o1 : Option Value} {o2 : Option Value} (k : X E d fX2_ofTwo 159 [o0, o1, o2] [J 1] S (mI M) Q) : X E d fX2_ofTwo 154 [o0, o1, o2] [] S (mI M) Q := by
  refine X_iconst 155 (by decide +kernel : decode cX2_ofTwo 154 = .ok (.iconst 1, 1)) rfl rfl ?_
  exact X_goto 159 (by decide +kernel : decode cX2_ofTwo 155 = .ok (.goto 4, 3)) rfl (by decide) k
theorem kX2_ofTwo_158 {o0 : Option Value} {o1 : Option Value} {o2 : Option Value} (k : X E d fX2_ofTwo 159 [o0, o1, o2] [J 0] S (mI M) Q) : X E d fX2_ofTwo 158 [o0, o1, o2] [] S (mI M) Q := by
  refine X_iconst 159 (by decide +kernel : decode cX2_ofTwo 158 = .ok (.iconst 0, 1)) rfl rfl ?_
  exact k
theorem kX2_ofTwo_159 {o0 : Option Value} {o1 : Option Value} {o2 : Option Value} {t0 : Int} (q : Q (some (some (J t0))) S (mI M)) : X E d fX2_ofTwo 159 [o0, o1, o2] [J t0] S (mI M) Q := by
  exact X_iret (by decide +kernel : decode cX2_ofTwo 159 = .ok (.ireturn, 1)) rfl rfl rfl q
theorem kX2_ofTwo_160 {o0 : Option Value} {x1 : Int} {x2 : Int} (r1 : R32 x1) (r2 : R32 x2) (k1 : x1 < x2 → X E d fX2_ofTwo 169 [o0, some (J x1), some (J x2)] [] S (mI M) Q) (k2 : x2 ≤ x1 → X E d fX2_ofTwo 165 [o0, some (J x1), some (J x2)] [] S (mI M) Q) : X E d fX2_ofTwo 160 [o0, some (J x1), some (J x2)] [] S (mI M) Q := by
  refine X_iload_n 161 (by decide +kernel : decode cX2_ofTwo 160 = .ok (.iload_n 1, 1)) rfl rfl rfl ?_
  refine X_iload_n 162 (by decide +kernel : decode cX2_ofTwo 161 = .ok (.iload_n 2, 1)) rfl rfl rfl ?_
  exact X_icmplt 169 165 (by decide +kernel : decode cX2_ofTwo 162 = .ok (.if_icmp .lt 7, 3)) rfl rfl (by decide) r1 r2 k1 k2
theorem kX2_ofTwo_165 {o0 : Option Value} {o1 : Option Value} {o2 : Option Value} (k : X E d fX2_ofTwo 170 [o0, o1, o2] [J 1] S (mI M) Q) : X E d fX2_ofTwo 165 [o0, o1, o2] [] S (mI M) Q := by
  refine X_iconst 166 (by decide +kernel : decode cX2_ofTwo 165 = .ok (.iconst 1, 1)) rfl rfl ?_
  exact X_goto 170 (by decide +kernel : decode cX2_ofTwo 166 = .ok (.goto 4, 3)) rfl (by decide) k
theorem kX2_ofTwo_169 {o0 : Option Value} {o1 : Option Value} {o2 : Option Value} (k : X E d fX2_ofTwo 170 [o0, o1, o2] [J 0] S (mI M) Q) : X E d fX2_ofTwo 169 [o0, o1, o2] [] S (mI M) Q := by
  refine X_iconst 170 (by decide +kernel : decode cX2_ofTwo 169 = .ok (.iconst 0, 1)) rfl rfl ?_
  exact k
theorem kX2_ofTwo_170 {o0 : Option Value} {o1 : Option Value} {o2 : Option Value} {t0 : Int} (q : Q (some (some (J t0))) S (mI M)) : X E d fX2_ofTwo 170 [o0, o1, o2] [J t0] S (mI M) Q := by
  exact X_iret (by decide +kernel : decode cX2_ofTwo 170 = .ok (.ireturn, 1)) rfl rfl rfl q
theorem kX2_ofTwo_171 {o0 : Option Value} {x1 : Int} {x2 : Int} (q : Q (some (some (J ((Int32.ofInt x1 &&& Int32.ofInt x2).toInt)))) S (mI M)) : X E d fX2_ofTwo 171 [o0, some (J x1), some (J x2)] [] S (mI M) Q := by
  refine X_iload_n 172 (by decide +kernel : decode cX2_ofTwo 171 = .ok (.iload_n 1, 1)) rfl rfl rfl ?_
  refine X_iload_n 173 (by decide +kernel : decode cX2_ofTwo 172 = .ok (.iload_n 2, 1)) rfl rfl rfl ?_
  refine X_iand 174 (by decide +kernel : decode cX2_ofTwo 173 = .ok (.iand, 1)) rfl rfl ?_
  exact X_iret (by decide +kernel : decode cX2_ofTwo 174 = .ok (.ireturn, 1)) rfl rfl rfl q
theorem kX2_ofTwo_175 {o0 : Option Value} {x1 : Int} {x2 : Int} (q : Q (some (some (J ((Int32.ofInt x1 ||| Int32.ofInt x2).toInt)))) S (mI M)) : X E d fX2_ofTwo 175 [o0, some (J x1), some (J x2)] [] S (mI M) Q := by
  refine X_iload_n 176 (by decide +kernel : decode cX2_ofTwo 175 = .ok (.iload_n 1, 1)) rfl rfl rfl ?_
  refine X_iload_n 177 (by decide +kernel : decode cX2_ofTwo 176 = .ok (.iload_n 2, 1)) rfl rfl rfl ?_
  refine X_ior 178 (by decide +kernel : decode cX2_ofTwo 177 = .ok (.ior, 1)) rfl rfl ?_
  exact X_iret (by decide +kernel : decode cX2_ofTwo 178 = .ok (.ireturn, 1)) rfl rfl rfl q
theorem kX2_ofTwo_179 {o0 : Option Value} {x1 : Int} {x2 : Int} (r1 : R32 x1) (r2 : R32 x2) (k1 : x2 ≤ x1 → X E d fX2_ofTwo 188 [o0, some (J x1), some (J x2)] [] S (mI M) Q) (k2 : x1 < x2 → X E d fX2_ofTwo 184 [o0, some (J x1), some (J x2)] [] S (mI M) Q) : X E d fX2_ofTwo 179 [o0, some (J x1), some (J x2)] [] S (mI M) Q := by
  refine X_iload_n 180 (by decide +kernel : decode cX2_ofTwo 179 = .ok (.iload_n 1, 1)) rfl rfl rfl ?_
  refine X_iload_n 181 (by decide +kernel : decode cX2_ofTwo 180 = .ok (.iload_n 2, 1)) rfl rfl rfl ?_
  exact X_icmpge 188 184 (by decide +kernel : decode cX2_ofTwo 181 = .ok (.if_icmp .ge 7, 3)) rfl rfl (by decide) r1 r2 k1 k2
theorem kX2_ofTwo_184 {o0 : Option Value} {x1 : Int} {o2 : Option Value} (k : X E d fX2_ofTwo 189 [o0, some (J x1), o2] [J x1] S (mI M) Q) : X E d fX2_ofTwo 184 [o0, some (J x1), o2] [] S (mI M) Q := by
  refine X_iload_n 185 (by decide +kernel : decode cX2_ofTwo 184 = .ok (.iload_n 1, 1)) rfl rfl rfl ?_
  exact X_goto 189 (by decide +kernel : decode cX2_ofTwo 185 = .ok (.goto 4, 3)) rfl (by decide) k
theorem kX2_ofTwo_188 {o0 : Option Value} {o1 : Option Value} {x2 : Int} (k : X E d fX2_ofTwo 189 [o0, o1, some (J x2)] [J x2] S (mI M) Q) : X E d fX2_ofTwo 188 [o0, o1, some (J x2)] [] S (mI M) Q := by
  refine X_iload_n 189 (by decide +kernel : decode cX2_ofTwo 188 = .ok (.iload_n 2, 1)) rfl rfl rfl ?_
  exact k
theorem kX2_ofTwo_189 {o0 : Option Value} {o1 : Option Value} {o2 : Option Value} {t0 : Int} (q : Q (some (some (J t0))) S (mI M)) : X E d fX2_ofTwo 189 [o0, o1, o2] [J t0] S (mI M) Q := by
  exact X_iret (by decide +kernel : decode cX2_ofTwo 189 = .ok (.ireturn, 1)) rfl rfl rfl q
theorem kX2_ofTwo_190 {o0 : Option Value} {x1 : Int} {x2 : Int} (r1 : R32 x1) (r2 : R32 x2) (k1 : x1 ≤ x2 → X E d fX2_ofTwo 199 [o0, some (J x1), some (J x2)] [] S (mI M) Q) (k2 : x2 < x1 → X E d fX2_ofTwo 195 [o0, some (J x1), some (J x2)] [] S (mI M) Q) : X E d fX2_ofTwo 190 [o0, some (J x1), some (J x2)] [] S (mI M) Q := by
  refine X_iload_n 191 (by decide +kernel : decode cX2_ofTwo 190 = .ok (.iload_n 1, 1)) rfl rfl rfl ?_
  refine X_iload_n 192 (by decide +kernel : decode cX2_ofTwo 191 = .ok (.iload_n 2, 1)) rfl rfl rfl ?_
  exact X_icmple 199 195 (by decide +kernel : decode cX2_ofTwo 192 = .ok (.if_icmp .le 7, 3)) rfl rfl (by decide) r1 r2 k1 k2
theorem kX2_ofTwo_195 {o0 : Option Value} {x1 : Int} {o2 : Option Value} (k : X E d fX2_ofTwo 200 [o0, some (J x1), o2] [J x1] S (mI M) Q) : X E d fX2_ofTwo 195 [o0, some (J x1), o2] [] S (mI M) Q := by
  refine X_iload_n 196 (by decide +kernel : decode cX2_ofTwo 195 = .ok (.iload_n 1, 1)) rfl rfl rfl ?_
  exact X_goto 200 (by decide +kernel : decode cX2_ofTwo 196 = .ok (.goto 4, 3)) rfl (by decide) k
theorem kX2_ofTwo_199 {o0 : Option Value} {o1 : Option Value} {x2 : Int} (k : X E d fX2_ofTwo 200 [o0, o1, some (J x2)] [J x2] S (mI M) Q) : X E d fX2_ofTwo 199 [o0, o1, some (J x2)] [] S (mI M) Q := by
  refine X_iload_n 200 (by decide +kernel : decode cX2_ofTwo 199 = .ok (.iload_n 2, 1)) rfl rfl rfl ?_
  exact k
theorem kX2_ofTwo_200 {o0 : Option Value} {o1 : Option Value} {o2 : Option Value} {t0 : Int} (q : Q (some (some (J t0))) S (mI M)) : X E d fX2_ofTwo 200 [o0, o1, o2] [J t0] S (mI M) Q := by
  exact X_iret (by decide +kernel : decode cX2_ofTwo 200 = .ok (.ireturn, 1)) rfl rfl rfl q
theorem kX2_ofNone_0 {o0 : Option Value} {x1 : Int} {o2 : Option Value} (r1 : R32 x1) (kd : x1 ≠ 18 ∧ x1 ≠ 19 ∧ x1 ≠ 20 ∧ x1 ≠ 22 ∧ x1 ≠ 23 ∧ x1 ≠ 24 ∧ x1 ≠ 25 ∧ x1 ≠ 26 ∧ x1 ≠ 48 → X E d fX2_ofNone 217 [o0, some (J x1), o2] [] S (mI M) Q) (k0 : x1 = 18 → X E d fX2_ofNone 142 [o0, some (J x1), o2] [] S (mI M) Q) (k1 : x1 = 19 → X E d fX2_ofNone 147 [o0, some (J x1), o2] [] S (mI M) Q) (k2 : x1 = 20 → X E d fX2_ofNone 152 [o0, some (J x1), o2] [] S (mI M) Q) (k4 : x1 = 22 → X E d fX2_ofNone 158 [o0, some (J x1), o2] [] S (mI M) Q) (k5 : x1 = 23 → X E d fX2_ofNone 167 [o0, some (J x1), o2] [] S (mI M) Q) (k6 : x1 = 24 → X E d fX2_ofNone 176 [o0, some (J x1), o2] [] S (mI M) Q) (k7 : x1 = 25 → X E d fX2_ofNone 185 [o0, some (J x1), o2] [] S (mI M) Q) (k8 : x1 = 26 → X E d fX2_ofNone 203 [o0, some (J x1), o2] [] S (mI M) Q) (k30 : x1 = 48 → X E d fX2_ofNone 140 [o0, some (J x1), o2] [] S (mI M) Q) : X E d fX2_ofNone 0 [o0, some (J x1), o2] [] S (mI M) Q := by
  refine X_iload_n 1 (by decide +kernel : decode cX2_ofNone 0 = .ok (.iload_n 1, 1)) rfl rfl rfl ?_
  by_cases hr : x1 < 18 ∨ 48 < x1
  · exact X_tswD 217 (by decide +kernel : decode cX2_ofNone 1 = .ok (.tableswitch 216 18 48 #[141, 146, 151, 216, 157, 166, 175, 184, 202, 216, 216, 216, 216, 216, 216, 216, 216, 216, 216, 216, 216, 216, 216, 216, 216, 216, 216, 216, 216, 216, 139], 139)) rfl (by decide) r1 hr (kd (by omega))
  · rcases (by omega : x1 = 18 ∨ x1 = 19 ∨ x1 = 20 ∨ x1 = 21 ∨ x1 = 22 ∨ x1 = 23 ∨ x1 = 24 ∨ x1 = 25 ∨ x1 = 26 ∨ x1 = 27 ∨ x1 = 28 ∨ x1 = 29 ∨ x1 = 30 ∨ x1 = 31 ∨ x1 = 32 ∨ x1 = 33 ∨ x1 = 34 ∨ x1 = 35 ∨ x1 = 36 ∨ x1 = 37 ∨ x1 = 38 ∨ x1 = 39 ∨ x1 = 40 ∨ x1 = 41 ∨ x1 = 42 ∨ x1 = 43 ∨ x1 = 44 ∨ x1 = 45 ∨ x1 = 46 ∨ x1 = 47 ∨ x1 = 48) with h | h | h | h | h | h | h | h | h | h | h | h | h | h | h | h | h | h | h | h | h | h | h | h | h | h | h | h | h | h | h
    · exact X_tswI 142 0 (by decide +kernel : decode cX2_ofNone 1 = .ok (.tableswitch 216 18 48 #[141, 146, 151, 216, 157, 166, 175, 184, 202, 216, 216, 216, 216, 216, 216, 216, 216, 216, 216, 216, 216, 216, 216, 216, 216, 216, 216, 216, 216, 216, 139], 139)) rfl rfl (by decide) r1 (h.trans rfl) (by decide) (k0 h)
    · exact X_tswI 147 1 (by decide +kernel : decode cX2_ofNone 1 = .ok (.tableswitch 216 18 48 #[141, 146, 151, 216, 157, 166, 175, 184, 202, 216, 216, 216, 216, 216, 216, 216, 216, 216, 216, 216, 216, 216, 216, 216, 216, 216, 216, 216, 216, 216, 139], 139)) rfl rfl (by decide) r1 (h.trans rfl) (by decide) (k1 h)
    · exact X_tswI 152 2 (by decide +kernel : decode cX2_ofNone 1 = .ok (.tableswitch 216 18 48 #[141, 146, 151, 216, 157, 166, 175, 184, 202, 216, 216, 216, 216, 216, 216, 216, 216, 216, 216, 216, 216, 216, 216, 216, 216, 216, 216, 216, 216, 216, 139], 139)) rfl rfl (by decide) r1 (h.trans rfl) (by decide) (k2 h)
    · exact X_tswI 217 3 (by decide +kernel : decode cX2_ofNone 1 = .ok (.tableswitch 216 18 48 #[141, 146, 151, 216, 157, 166, 175, 184, 202, 216, 216, 216, 216, 216, 216, 216, 216, 216, 216, 216, 216, 216, 216, 216, 216, 216, 216, 216, 216, 216, 139], 139)) rfl rfl (by decide) r1 (h.trans rfl) (by decide) (kd (by omega))
    · exact X_tswI 158 4 (by decide +kernel : decode cX2_ofNone 1 = .ok (.tableswitch 216 18 48 #[141, 146, 151, 216, 157, 166, 175, 184, 202, 216, 216, 216, 216, 216, 216, 216, 216, 216, 216, 216, 216, 216, 216, 216, 216, 216, 216, 216, 216, 216, 139], 139)) rfl rfl (by decide) r1 (h.trans rfl) (by decide) (k4 h)
    · exact X_tswI 167 5 (by decide +kernel : decode cX2_ofNone 1 = .ok (.tableswitch 216 18 48 #[141, 146, 151, 216, 157, 166, 175, 184, 202, 216, 216, 216, 216, 216, 216, 216, 216, 216, 216, 216, 216, 216, 216, 216, 216, 216, 216, 216, 216, 216, 139], 139)) rfl rfl (by decide) r1 (h.trans rfl) (by decide) (k5 h)
    · exact X_tswI 176 6 (by decide +kernel : decode cX2_ofNone 1 = .ok (.tableswitch 216 18 48 #[141, 146, 151, 216, 157, 166, 175, 184, 202, 216, 216, 216, 216, 216, 216, 216, 216, 216, 216, 216, 216, 216, 216, 216, 216, 216, 216, 216, 216, 216, 139], 139)) rfl rfl (by decide) r1 (h.trans rfl) (by decide) (k6 h)
    · exact X_tswI 185 7 (by decide +kernel : decode cX2_ofNone 1 = .ok (.tableswitch 216 18 48 #[141, 146, 151, 216, 157, 166, 175, 184, 202, 216, 216, 216, 216, 216, 216, 216, 216, 216, 216, 216, 216, 216, 216, 216, 216, 216, 216, 216, 216, 216, 139], 139)) rfl rfl (by decide) r1 (h.trans rfl) (by decide) (k7 h)
    · exact X_tswI 203 8 (by decide +kernel : decode cX2_ofNone 1 = .ok (.tableswitch 216 18 48 #[141, 146, 151, 216, 157, 166, 175, 184, 202, 216, 216, 216, 216, 216, 216, 216, 216, 216, 216, 216, 216, 216, 216, 216, 216, 216, 216, 216, 216, 216, 139], 139)) rfl rfl (by decide) r1 (h.trans rfl) (by decide) (k8 h)
    · exact X_tswI 217 9 (by decide +kernel : decode cX2_ofNone 1 = .ok (.tableswitch 216 18 48 #[141, 146, 151, 216, 157, 166, 175, 184, 202, 216, 216, 216, 216, 216, 216, 216, 216, 216, 216, 216, 216, 216, 216, 216, 216, 216, 216, 216, 216, 216, 139], 139)) rfl rfl (by decide) r1 (h.trans rfl) (by decide) (kd (by omega))
    · exact X_tswI 217 10 (by decide +kernel : decode cX2_ofNone 1 = .ok (.tableswitch 216 18 48 #[141, 146, 151, 216, 157, 166, 175, 184, 202, 216, 216, 216, 216, 216, 216, 216, 216, 216, 216, 216, 216, 216, 216, 216, 216, 216, 216, 216, 216, 216, 139], 139)) rfl rfl (by decide) r1 (h.trans rfl) (by decide) (kd (by omega))
    · exact X_tswI 217 11 (by decide +kernel : decode cX2_ofNone 1 = .ok (.tableswitch 216 18 48 #[141, 146, 151, 216, 157, 166, 175, 184, 202, 216, 216, 216, 216, 216, 216, 216, 216, 216, 216, 216, 216, 216, 216, 216, 216, 216, 216, 216, 216, 216, 139], 139)) rfl rfl (by decide) r1 (h.trans rfl) (by decide) (kd (by omega))
    · exact X_tswI 217 12 (by decide +kernel : decode cX2_ofNone 1 = .ok (.tableswitch 216 18 48 #[141, 146, 151, 216, 157, 166, 175, 184, 202, 216, 216, 216, 216, 216, 216, 216, 216, 216, 216, 216, 216, 216, 216, 216, 216, 216, 216, 216, 216, 216, 139], 139)) rfl rfl (by decide) r1 (h.trans rfl) (by decide) (kd (by omega))
    · exact X_tswI 217 13 (by decide +kernel : decode cX2_ofNone 1 = .ok (.tableswitch 216 18 48 #[141, 146, 151, 216, 157, 166, 175, 184, 202, 216, 216, 216, 216, 216, 216, 216, 216, 216, 216, 216, 216, 216, 216, 216, 216, 216, 216, 216, 216, 216, 139], 139)) rfl rfl (by decide) r1 (h.trans rfl) (by decide) (kd (by omega))
    · exact X_tswI 217 14 (by decide +kernel : decode cX2_ofNone 1 = .ok (.tableswitch 216 18 48 #[141, 146, 151, 216, 157, 166, 175, 184, 202, 216, 216, 216, 216, 216, 216, 216, 216, 216, 216, 216, 216, 216, 216, 216, 216, 216, 216, 216, 216, 216, 139], 139)) rfl rfl (by decide) r1 (h.trans rfl) (by decide) (kd (by omega))
    · exact X_tswI 217 15 (by decide +kernel : decode cX2_ofNone 1 = .ok (.tableswitch 216 18 48 #[141, 146, 151, 216, 157, 166, 175, 184, 202, 216, 216, 216, 216, 216, 216, 216, 216, 216, 216, 216, 216, 216, 216, 216, 216, 216, 216, 216, 216, 216, 139], 139)) rfl rfl (by decide) r1 (h.trans rfl) (by decide) (kd (by omega))
    · exact X_tswI 217 16 (by decide +kernel : decode cX2_ofNone 1 = .ok (.tableswitch 216 18 48 #[141, 146, 151, 216, 157, 166, 175, 184, 202, 216, 216, 216, 216, 216, 216, 216, 216, 216, 216, 216, 216, 216, 216, 216, 216, 216, 216, 216, 216, 216, 139], 139)) rfl rfl (by decide) r1 (h.trans rfl) (by decide) (kd (by omega))
    · exact X_tswI 217 17 (by decide +kernel : decode cX2_ofNone 1 = .ok (.tableswitch 216 18 48 #[141, 146, 151, 216, 157, 166, 175, 184, 202, 216, 216, 216, 216, 216, 216, 216, 216, 216, 216, 216, 216, 216, 216, 216, 216, 216, 216, 216, 216, 216, 139], 139)) rfl rfl (by decide) r1 (h.trans rfl) (by decide) (kd (by omega))
    · exact X_tswI 217 18 (by decide +kernel : decode cX2_ofNone 1 = .ok (.tableswitch 216 18 48 #[141, 146, 151, 216, 157, 166, 175, 184, 202, 216, 216, 216, 216, 216, 216, 216, 216, 216, 216, 216, 216, 216, 216, 216, 216, 216, 216, 216, 216, 216, 139], 139)) rfl rfl (by decide) r1 (h.trans rfl) (by decide) (kd (by omega))
    · exact X_tswI 217 19 (by decide +kernel : decode cX2_ofNone 1 = .ok (.tableswitch 216 18 48 #[141, 146, 151, 216, 157, 166, 175, 184, 202, 216, 216, 216, 216, 216, 216, 216, 216, 216, 216, 216, 216, 216, 216, 216, 216, 216, 216, 216, 216, 216, 139], 139)) rfl rfl (by decide) r1 (h.trans rfl) (by decide) (kd (by omega))
    · exact X_tswI 217 20 (by decide +kernel : decode cX2_ofNone 1 = .ok (.tableswitch 216 18 48 #[141, 146, 151, 216, 157, 166, 175, 184, 202, 216, 216, 216, 216, 216, 216, 216, 216, 216, 216, 216, 216, 216, 216, 216, 216, 216, 216, 216, 216, 216, 139], 139)) rfl rfl (by decide) r1 (h.trans rfl) (by decide) (kd (by omega))
    · exact X_tswI 217 21 (by decide +kernel : decode cX2_ofNone 1 = .ok (.tableswitch 216 18 48 #[141, 146, 151, 216, 157, 166, 175, 184, 202, 216, 216, 216, 216, 216, 216, 216, 216, 216, 216, 216, 216, 216, 216, 216, 216, 216, 216, 216, 216, 216, 139], 139)) rfl rfl (by decide) r1 (h.trans rfl) (by decide) (kd (by omega))
    · exact X_tswI 217 22 (by decide +kernel : decode cX2_ofNone 1 = .ok (.tableswitch 216 18 48 #[141, 146, 151, 216, 157, 166, 175, 184, 202, 216, 216, 216, 216, 216, 216, 216, 216, 216, 216, 216, 216, 216, 216, 216, 216, 216, 216, 216, 216, 216, 139], 139)) rfl rfl (by decide) r1 (h.trans rfl) (by decide) (kd (by omega))
    · exact X_tswI 217 23 (by decide +kernel : decode cX2_ofNone 1 = .ok (.tableswitch 216 18 48 #[141, 146, 151, 216, 157, 166, 175, 184, 202, 216, 216, 216, 216, 216, 216, 216, 216, 216, 216, 216, 216, 216, 216, 216, 216, 216, 216, 216, 216, 216, 139], 139)) rfl rfl (by decide) r1 (h.trans rfl) (by decide) (kd (by omega))
    · exact X_tswI 217 24 (by decide +kernel : decode cX2_ofNone 1 = .ok (.tableswitch 216 18 48 #[141, 146, 151, 216, 157, 166, 175, 184, 202, 216, 216, 216, 216, 216, 216, 216, 216, 216, 216, 216, 216, 216, 216, 216, 216, 216, 216, 216, 216, 216, 139], 139)) rfl rfl (by decide) r1 (h.trans rfl) (by decide) (kd (by omega))
    · exact X_tswI 217 25 (by decide +kernel : decode cX2_ofNone 1 = .ok (.tableswitch 216 18 48 #[141, 146, 151, 216, 157, 166, 175, 184, 202, 216, 216, 216, 216, 216, 216, 216, 216, 216, 216, 216, 216, 216, 216, 216, 216, 216, 216, 216, 216, 216, 139], 139)) rfl rfl (by decide) r1 (h.trans rfl) (by decide) (kd (by omega))
    · exact X_tswI 217 26 (by decide +kernel : decode cX2_ofNone 1 = .ok (.tableswitch 216 18 48 #[141, 146, 151, 216, 157, 166, 175, 184, 202, 216, 216, 216, 216, 216, 216, 216, 216, 216, 216, 216, 216, 216, 216, 216, 216, 216, 216, 216, 216, 216, 139], 139)) rfl rfl (by decide) r1 (h.trans rfl) (by decide) (kd (by omega))
    · exact X_tswI 217 27 (by decide +kernel : decode cX2_ofNone 1 = .ok (.tableswitch 216 18 48 #[141, 146, 151, 216, 157, 166, 175, 184, 202, 216, 216, 216, 216, 216, 216, 216, 216, 216, 216, 216, 216, 216, 216, 216, 216, 216, 216, 216, 216, 216, 139], 139)) rfl rfl (by decide) r1 (h.trans rfl) (by decide) (kd (by omega))
    · exact X_tswI 217 28 (by decide +kernel : decode cX2_ofNone 1 = .ok (.tableswitch 216 18 48 #[141, 146, 151, 216, 157, 166, 175, 184, 202, 216, 216, 216, 216, 216, 216, 216, 216, 216, 216, 216, 216, 216, 216, 216, 216, 216, 216, 216, 216, 216, 139], 139)) rfl rfl (by decide) r1 (h.trans rfl) (by decide) (kd (by omega))
    · exact X_tswI 217 29 (by decide +kernel : decode cX2_ofNone 1 = .ok (.tableswitch 216 18 48 #[141, 146, 151, 216, 157, 166, 175, 184, 202, 216, 216, 216, 216, 216, 216, 216, 216, 216, 216, 216, 216, 216, 216, 216, 216, 216, 216, 216, 216, 216, 139], 139)) rfl rfl (by decide) r1 (h.trans rfl) (by decide) (kd (by omega))
    · exact X_tswI 140 30 (by decide +kernel : decode cX2_ofNone 1 = .ok (.tableswitch 216 18 48 #[141, 146, 151, 216, 157, 166, 175, 184, 202, 216, 216, 216, 216, 216, 216, 216, 216, 216, 216, 216, 216, 216, 216, 216, 216, 216, 216, 216, 216, 216, 139], 139)) rfl rfl (by decide) r1 (h.trans rfl) (by decide) (k30 h)
theorem kX2_ofNone_140 {o0 : Option Value} {o1 : Option Value} {x2 : Int} (q : Q (some (some (J x2))) S (mI M)) : X E d fX2_ofNone 140 [o0, o1, some (J x2)] [] S (mI M) Q := by
  refine X_iload_n 141 (by decide +kernel : decode cX2_ofNone 140 = .ok (.iload_n 2, 1)) rfl rfl rfl ?_
  exact X_iret (by decide +kernel : decode cX2_ofNone 141 = .ok (.ireturn, 1)) rfl rfl rfl q
theorem kX2_ofNone_142 {a0 : Nat} {o1 : Option Value} {o2 : Option Value} (g1 : aKd S a0 = 8) (q : Q (some (some (J (M a0 2)))) S (mI M)) : X E d fX2_ofNone 142 [some (.ref a0), o1, o2] [] S (mI M) Q := by
  refine X_aload_n 143 (by decide +kernel : decode cX2_ofNone 142 = .ok (.aload_n 0, 1)) rfl rfl rfl ?_
  refine X_getI 146 (by decide +kernel : decode cX2_ofNone 143 = .ok (.getfield 50, 3)) rfl rfl (by decide +kernel : aFd 4 50 = some (8, 2, false, false)) g1 ?_
  exact X_iret (by decide +kernel : decode cX2_ofNone 146 = .ok (.ireturn, 1)) rfl rfl rfl q
theorem kX2_ofNone_147 {a0 : Nat} {o1 : Option Value} {o2 : Option Value} (g1 : aKd S a0 = 8) (q : Q (some (some (J (M a0 3)))) S (mI M)) : X E d fX2_ofNone 147 [some (.ref a0), o1, o2] [] S (mI M) Q := by
  refine X_aload_n 148 (by decide +kernel : decode cX2_ofNone 147 = .ok (.aload_n 0, 1)) rfl rfl rfl ?_
  refine X_getI 151 (by decide +kernel : decode cX2_ofNone 148 = .ok (.getfield 54, 3)) rfl rfl (by decide +kernel : aFd 4 54 = some (8, 3, false, false)) g1 ?_
  exact X_iret (by decide +kernel : decode cX2_ofNone 151 = .ok (.ireturn, 1)) rfl rfl rfl q
theorem kX2_ofNone_152 {a0 : Nat} {o1 : Option Value} {x2 : Int} (hd1 : 1 ≤ d) (k : X E (d - 1) fX6_leastCondition 0 [some (.ref a0), some (J x2), none, none, none, none] [] S (mI M) (Kr E d fX2_ofNone 157 [some (.ref a0), o1, some (J x2)] [] Q)) (g1 : aKd S a0 = 8) : X E d fX2_ofNone 152 [some (.ref a0), o1, some (J x2)] [] S (mI M) Q := by
  refine X_aload_n 153 (by decide +kernel : decode cX2_ofNone 152 = .ok (.aload_n 0, 1)) rfl rfl rfl ?_
  refine X_iload_n 154 (by decide +kernel : decode cX2_ofNone 153 = .ok (.iload_n 2, 1)) rfl rfl rfl ?_
  exact X_cv (as := [J x2]) (rest := []) (by decide +kernel : decode cX2_ofNone 154 = .ok (.invokevirtual 57, 3)) (Or.inl ⟨rfl, rfl, rfl⟩) rfl rfl rfl rfl rfl (Nat.le_of_ble_eq_true rfl) (Or.inr (Or.inr (by rw [g1]; rfl))) hd1 k
theorem kX2_ofNone_157 {o0 : Option Value} {o1 : Option Value} {o2 : Option Value} {t0 : Int} (q : Q (some (some (J t0))) S (mI M)) : X E d fX2_ofNone 157 [o0, o1, o2] [J t0] S (mI M) Q := by
  exact X_iret (by decide +kernel : decode cX2_ofNone 157 = .ok (.ireturn, 1)) rfl rfl rfl q
theorem kX2_ofNone_158 {a0 : Nat} {o1 : Option Value} {x2 : Int} {b2 : Nat} (g1 : aKd S a0 = 8) (p3 : aP S a0 8 = some b2) (hd1 : 1 ≤ d) (k : X E (d - 1) fX7_valueAt 0 [some (.ref b2), some (J x2)] [] S (mI M) (Kr E d fX2_ofNone 166 [some (.ref a0), o1, some (J x2)] [] Q)) : X E d fX2_ofNone 158 [some (.ref a0), o1, some (J x2)] [] S (mI M) Q := by
  refine X_aload_n 159 (by decide +kernel : decode cX2_ofNone 158 = .ok (.aload_n 0, 1)) rfl rfl rfl ?_
  refine X_getR 162 (by decide +kernel : decode cX2_ofNone 159 = .ok (.getfield 61, 3)) rfl rfl (by decide +kernel : aFd 4 61 = some (8, 8, true, true)) g1 p3 ?_
  refine X_iload_n 163 (by decide +kernel : decode cX2_ofNone 162 = .ok (.iload_n 2, 1)) rfl rfl rfl ?_
  exact X_cs (as := [J x2, .ref b2]) (rest := []) (by decide +kernel : decode cX2_ofNone 163 = .ok (.invokestatic 64, 3)) rfl rfl rfl rfl rfl rfl rfl (Nat.le_of_ble_eq_true rfl) hd1 k
theorem kX2_ofNone_166 {o0 : Option Value} {o1 : Option Value} {o2 : Option Value} {t0 : Int} (q : Q (some (some (J t0))) S (mI M)) : X E d fX2_ofNone 166 [o0, o1, o2] [J t0] S (mI M) Q := by
  exact X_iret (by decide +kernel : decode cX2_ofNone 166 = .ok (.ireturn, 1)) rfl rfl rfl q
theorem kX2_ofNone_167 {a0 : Nat} {o1 : Option Value} {x2 : Int} {b2 : Nat} (g1 : aKd S a0 = 8) (p3 : aP S a0 9 = some b2) (hd1 : 1 ≤ d) (k : X E (d - 1) fX7_valueAt 0 [some (.ref b2), some (J x2)] [] S (mI M) (Kr E d fX2_ofNone 175 [some (.ref a0), o1, some (J x2)] [] Q)) : X E d fX2_ofNone 167 [some (.ref a0), o1, some (J x2)] [] S (mI M) Q := by
  refine X_aload_n 168 (by decide +kernel : decode cX2_ofNone 167 = .ok (.aload_n 0, 1)) rfl rfl rfl ?_
  refine X_getR 171 (by decide +kernel : decode cX2_ofNone 168 = .ok (.getfield 68, 3)) rfl rfl (by decide +kernel : aFd 4 68 = some (8, 9, true, true)) g1 p3 ?_
  refine X_iload_n 172 (by decide +kernel : decode cX2_ofNone 171 = .ok (.iload_n 2, 1)) rfl rfl rfl ?_
  exact X_cs (as := [J x2, .ref b2]) (rest := []) (by decide +kernel : decode cX2_ofNone 172 = .ok (.invokestatic 64, 3)) rfl rfl rfl rfl rfl rfl rfl (Nat.le_of_ble_eq_true rfl) hd1 k
theorem kX2_ofNone_175 {o0 : Option Value} {o1 : Option Value} {o2 : Option Value} {t0 : Int} (q : Q (some (some (J t0))) S (mI M)) : X E d fX2_ofNone 175 [o0, o1, o2] [J t0] S (mI M) Q := by
  exact X_iret (by decide +kernel : decode cX2_ofNone 175 = .ok (.ireturn, 1)) rfl rfl rfl q
theorem kX2_ofNone_176 {a0 : Nat} {o1 : Option Value} {x2 : Int} {b2 : Nat} (g1 : aKd S a0 = 8) (p3 : aP S a0 13 = some b2) (hd1 : 1 ≤ d) (k : X E (d - 1) fX7_valueAt 0 [some (.ref b2), some (J x2)] [] S (mI M) (Kr E d fX2_ofNone 184 [some (.ref a0), o1, some (J x2)] [] Q)) : X E d fX2_ofNone 176 [some (.ref a0), o1, some (J x2)] [] S (mI M) Q := by
  refine X_aload_n 177 (by decide +kernel : decode cX2_ofNone 176 = .ok (.aload_n 0, 1)) rfl rfl rfl ?_
  refine X_getR 180 (by decide +kernel : decode cX2_ofNone 177 = .ok (.getfield 71, 3)) rfl rfl (by decide +kernel : aFd 4 71 = some (8, 13, true, true)) g1 p3 ?_
  refine X_iload_n 181 (by decide +kernel : decode cX2_ofNone 180 = .ok (.iload_n 2, 1)) rfl rfl rfl ?_
  exact X_cs (as := [J x2, .ref b2]) (rest := []) (by decide +kernel : decode cX2_ofNone 181 = .ok (.invokestatic 64, 3)) rfl rfl rfl rfl rfl rfl rfl (Nat.le_of_ble_eq_true rfl) hd1 k
theorem kX2_ofNone_184 {o0 : Option Value} {o1 : Option Value} {o2 : Option Value} {t0 : Int} (q : Q (some (some (J t0))) S (mI M)) : X E d fX2_ofNone 184 [o0, o1, o2] [J t0] S (mI M) Q := by
  exact X_iret (by decide +kernel : decode cX2_ofNone 184 = .ok (.ireturn, 1)) rfl rfl rfl q
theorem kX2_ofNone_185 {a0 : Nat} {o1 : Option Value} {x2 : Int} {b2 : Nat} (g1 : aKd S a0 = 8) (p3 : aP S a0 10 = some b2) (hd1 : 1 ≤ d) (k : X E (d - 1) fX7_valueAt 0 [some (.ref b2), some (J x2)] [] S (mI M) (Kr E d fX2_ofNone 193 [some (.ref a0), o1, some (J x2)] [] Q)) : X E d fX2_ofNone 185 [some (.ref a0), o1, some (J x2)] [] S (mI M) Q := by
  refine X_aload_n 186 (by decide +kernel : decode cX2_ofNone 185 = .ok (.aload_n 0, 1)) rfl rfl rfl ?_
  refine X_getR 189 (by decide +kernel : decode cX2_ofNone 186 = .ok (.getfield 74, 3)) rfl rfl (by decide +kernel : aFd 4 74 = some (8, 10, true, true)) g1 p3 ?_
  refine X_iload_n 190 (by decide +kernel : decode cX2_ofNone 189 = .ok (.iload_n 2, 1)) rfl rfl rfl ?_
  exact X_cs (as := [J x2, .ref b2]) (rest := []) (by decide +kernel : decode cX2_ofNone 190 = .ok (.invokestatic 64, 3)) rfl rfl rfl rfl rfl rfl rfl (Nat.le_of_ble_eq_true rfl) hd1 k
theorem kX2_ofNone_193 {o0 : Option Value} {o1 : Option Value} {o2 : Option Value} {t0 : Int} (r1 : R32 t0) (k1 : t0 = (-1) → X E d fX2_ofNone 201 [o0, o1, o2] [] S (mI M) Q) (k2 : t0 ≠ (-1) → X E d fX2_ofNone 197 [o0, o1, o2] [] S (mI M) Q) : X E d fX2_ofNone 193 [o0, o1, o2] [J t0] S (mI M) Q := by
  refine X_iconst 194 (by decide +kernel : decode cX2_ofNone 193 = .ok (.iconst (-1), 1)) rfl rfl ?_
  exact X_icmpeq 201 197 (by decide +kernel : decode cX2_ofNone 194 = .ok (.if_icmp .eq 7, 3)) rfl rfl (by decide) r1 ⟨by decide, by decide⟩ k1 k2
theorem kX2_ofNone_197 {o0 : Option Value} {o1 : Option Value} {o2 : Option Value} (k : X E d fX2_ofNone 202 [o0, o1, o2] [J 1] S (mI M) Q) : X E d fX2_ofNone 197 [o0, o1, o2] [] S (mI M) Q := by
  refine X_iconst 198 (by decide +kernel : decode cX2_ofNone 197 = .ok (.iconst 1, 1)) rfl rfl ?_
  exact X_goto 202 (by decide +kernel : decode cX2_ofNone 198 = .ok (.goto 4, 3)) rfl (by decide) k
theorem kX2_ofNone_201 {o0 : Option Value} {o1 : Option Value} {o2 : Option Value} (k : X E d fX2_ofNone 202 [o0, o1, o2] [J 0] S (mI M) Q) : X E d fX2_ofNone 201 [o0, o1, o2] [] S (mI M) Q := by
  refine X_iconst 202 (by decide +kernel : decode cX2_ofNone 201 = .ok (.iconst 0, 1)) rfl rfl ?_
  exact k
theorem kX2_ofNone_202 {o0 : Option Value} {o1 : Option Value} {o2 : Option Value} {t0 : Int} (q : Q (some (some (J t0))) S (mI M)) : X E d fX2_ofNone 202 [o0, o1, o2] [J t0] S (mI M) Q := by
  exact X_iret (by decide +kernel : decode cX2_ofNone 202 = .ok (.ireturn, 1)) rfl rfl rfl q
theorem kX2_ofNone_203 {a0 : Nat} {o1 : Option Value} {x2 : Int} (hd1 : 1 ≤ d) (k : X E (d - 1) fX6_leastCondition 0 [some (.ref a0), some (J x2), none, none, none, none] [] S (mI M) (Kr E d fX2_ofNone 208 [some (.ref a0), o1, some (J x2)] [] Q)) (g1 : aKd S a0 = 8) : X E d fX2_ofNone 203 [some (.ref a0), o1, some (J x2)] [] S (mI M) Q := by
  refine X_aload_n 204 (by decide +kernel : decode cX2_ofNone 203 = .ok (.aload_n 0, 1)) rfl rfl rfl ?_
  refine X_iload_n 205 (by decide +kernel : decode cX2_ofNone 204 = .ok (.iload_n 2, 1)) rfl rfl rfl ?_
  exact X_cv (as := [J x2]) (rest := []) (by decide +kernel : decode cX2_ofNone 205 = .ok (.invokevirtual 57, 3)) (Or.inl ⟨rfl, rfl, rfl⟩) rfl rfl rfl rfl rfl (Nat.le_of_ble_eq_true rfl) (Or.inr (Or.inr (by rw [g1]; rfl))) hd1 k
theorem kX2_ofNone_208 {o0 : Option Value} {o1 : Option Value} {o2 : Option Value} {t0 : Int} (r1 : R32 t0) (k1 : t0 ≠ 0 → X E d fX2_ofNone 215 [o0, o1, o2] [] S (mI M) Q) (k2 : t0 = 0 → X E d fX2_ofNone 211 [o0, o1, o2] [] S (mI M) Q) : X E d fX2_ofNone 208 [o0, o1, o2] [J t0] S (mI M) Q := by
  exact X_ifne 215 211 (by decide +kernel : decode cX2_ofNone 208 = .ok (.ifCond .ne 7, 3)) rfl rfl (by decide) r1 k1 k2
theorem kX2_ofNone_211 {o0 : Option Value} {o1 : Option Value} {o2 : Option Value} (k : X E d fX2_ofNone 216 [o0, o1, o2] [J 1] S (mI M) Q) : X E d fX2_ofNone 211 [o0, o1, o2] [] S (mI M) Q := by
  refine X_iconst 212 (by decide +kernel : decode cX2_ofNone 211 = .ok (.iconst 1, 1)) rfl rfl ?_
  exact X_goto 216 (by decide +kernel : decode cX2_ofNone 212 = .ok (.goto 4, 3)) rfl (by decide) k
theorem kX2_ofNone_215 {o0 : Option Value} {o1 : Option Value} {o2 : Option Value} (k : X E d fX2_ofNone 216 [o0, o1, o2] [J 0] S (mI M) Q) : X E d fX2_ofNone 215 [o0, o1, o2] [] S (mI M) Q := by
  refine X_iconst 216 (by decide +kernel : decode cX2_ofNone 215 = .ok (.iconst 0, 1)) rfl rfl ?_
  exact k
theorem kX2_ofNone_216 {o0 : Option Value} {o1 : Option Value} {o2 : Option Value} {t0 : Int} (q : Q (some (some (J t0))) S (mI M)) : X E d fX2_ofNone 216 [o0, o1, o2] [J t0] S (mI M) Q := by
  exact X_iret (by decide +kernel : decode cX2_ofNone 216 = .ok (.ireturn, 1)) rfl rfl rfl q
theorem kX2_ofNone_217 {o0 : Option Value} {o1 : Option Value} {o2 : Option Value} (q : Q (some (some (J 0))) S (mI M)) : X E d fX2_ofNone 217 [o0, o1, o2] [] S (mI M) Q := by
  refine X_iconst 218 (by decide +kernel : decode cX2_ofNone 217 = .ok (.iconst 0, 1)) rfl rfl ?_
  exact X_iret (by decide +kernel : decode cX2_ofNone 218 = .ok (.ireturn, 1)) rfl rfl rfl q
theorem kX3_clear_0 {a0 : Nat} {b6 : Nat} (g1 : aK S a0 = 5) (g5 : aKd S a0 = 5) (p7 : aP S a0 15 = some b6) (hd1 : 1 ≤ d) (k : X E (d - 1) fX1_clear 0 [some (.ref b6)] [] S (mI (mW (mW (mW (mW M a0 0 0) a0 1 0) a0 2 0) a0 3 0)) (Kr E d fX3_clear 27 [some (.ref a0)] [] Q)) (g8 : aKd S b6 = 3) : X E d fX3_clear 0 [some (.ref a0)] [] S (mI M) Q := by
  refine X_aload_n 1 (by decide +kernel : decode cX3_clear 0 = .ok (.aload_n 0, 1)) rfl rfl rfl ?_
  refine X_iconst 2 (by decide +kernel : decode cX3_clear 1 = .ok (.iconst 0, 1)) rfl rfl ?_
  refine X_putI 5 (by decide +kernel : decode cX3_clear 2 = .ok (.putfield 52, 3)) rfl rfl (by decide +kernel : aFd 5 52 = some (5, 0, false, false)) (Or.inl rfl) g1 rfl rfl ?_
  refine X_aload_n 6 (by decide +kernel : decode cX3_clear 5 = .ok (.aload_n 0, 1)) rfl rfl rfl ?_
  refine X_iconst 7 (by decide +kernel : decode cX3_clear 6 = .ok (.iconst 0, 1)) rfl rfl ?_
  refine X_putI 10 (by decide +kernel : decode cX3_clear 7 = .ok (.putfield 56, 3)) rfl rfl (by decide +kernel : aFd 5 56 = some (5, 1, false, false)) (Or.inl rfl) g1 rfl rfl ?_
  refine X_aload_n 11 (by decide +kernel : decode cX3_clear 10 = .ok (.aload_n 0, 1)) rfl rfl rfl ?_
  refine X_iconst 12 (by decide +kernel : decode cX3_clear 11 = .ok (.iconst 0, 1)) rfl rfl ?_
  refine X_putI 15 (by decide +kernel : decode cX3_clear 12 = .ok (.putfield 59, 3)) rfl rfl (by decide +kernel : aFd 5 59 = some (5, 2, false, false)) (Or.inl rfl) g1 rfl rfl ?_
  refine X_aload_n 16 (by decide +kernel : decode cX3_clear 15 = .ok (.aload_n 0, 1)) rfl rfl rfl ?_
  refine X_iconst 17 (by decide +kernel : decode cX3_clear 16 = .ok (.iconst 0, 1)) rfl rfl ?_
  refine X_putI 20 (by decide +kernel : decode cX3_clear 17 = .ok (.putfield 62, 3)) rfl rfl (by decide +kernel : aFd 5 62 = some (5, 3, false, false)) (Or.inl rfl) g1 rfl rfl ?_
  refine X_aload_n 21 (by decide +kernel : decode cX3_clear 20 = .ok (.aload_n 0, 1)) rfl rfl rfl ?_
  refine X_getR 24 (by decide +kernel : decode cX3_clear 21 = .ok (.getfield 48, 3)) rfl rfl (by decide +kernel : aFd 5 48 = some (5, 15, true, true)) g5 p7 ?_
  exact X_cv (as := []) (rest := []) (by decide +kernel : decode cX3_clear 24 = .ok (.invokevirtual 65, 3)) (Or.inl ⟨rfl, rfl, rfl⟩) rfl rfl rfl rfl rfl (Nat.le_of_ble_eq_true rfl) (Or.inr (Or.inr (by rw [g8]; rfl))) hd1 k
theorem kX3_clear_27 {o0 : Option Value} (q : Q (some none) S (mI M)) : X E d fX3_clear 27 [o0] [] S (mI M) Q := by
  exact X_vret (by decide +kernel : decode cX3_clear 27 = .ok (.return_, 1)) rfl rfl q
theorem kX3_layMiles_0 {a0 : Nat} {x1 : Int} {x2 : Int} {o3 : Option Value} {b2 : Nat} {b8 : Nat} (g1 : aKd S a0 = 5) (p3 : aP S a0 4 = some b2) (g4 : aK S b2 = 100) (r5 : R32 x1) (h6 : (0 : Int) ≤ x1 ∧ x1 < (aN S b2 : Int)) (p9 : aP S a0 5 = some b8) (g11 : aK S b8 = 100) (h13 : (0 : Int) ≤ x1 ∧ x1 < (aN S b8 : Int)) (k : X E d fX3_layMiles 19 [some (.ref a0), some (J x1), some (J x2), some (J 0)] [] S (mI (mW (mW M b2 x1.toNat x2) b8 x1.toNat ((mW M b2 x1.toNat x2) a0 1))) Q) : X E d fX3_layMiles 0 [some (.ref a0), some (J x1), some (J x2), o3] [] S (mI M) Q := by
  refine X_aload_n 1 (by decide +kernel : decode cX3_layMiles 0 = .ok (.aload_n 0, 1)) rfl rfl rfl ?_
  refine X_getR 4 (by decide +kernel : decode cX3_layMiles 1 = .ok (.getfield 9, 3)) rfl rfl (by decide +kernel : aFd 5 9 = some (5, 4, true, true)) g1 p3 ?_
  refine X_iload_n 5 (by decide +kernel : decode cX3_layMiles 4 = .ok (.iload_n 1, 1)) rfl rfl rfl ?_
  refine X_iload_n 6 (by decide +kernel : decode cX3_layMiles 5 = .ok (.iload_n 2, 1)) rfl rfl rfl ?_
  refine X_iast 7 (by decide +kernel : decode cX3_layMiles 6 = .ok (.iastore, 1)) rfl rfl g4 r5 h6 ?_
  refine X_aload_n 8 (by decide +kernel : decode cX3_layMiles 7 = .ok (.aload_n 0, 1)) rfl rfl rfl ?_
  refine X_getR 11 (by decide +kernel : decode cX3_layMiles 8 = .ok (.getfield 15, 3)) rfl rfl (by decide +kernel : aFd 5 15 = some (5, 5, true, true)) g1 p9 ?_
  refine X_iload_n 12 (by decide +kernel : decode cX3_layMiles 11 = .ok (.iload_n 1, 1)) rfl rfl rfl ?_
  refine X_aload_n 13 (by decide +kernel : decode cX3_layMiles 12 = .ok (.aload_n 0, 1)) rfl rfl rfl ?_
  refine X_getI 16 (by decide +kernel : decode cX3_layMiles 13 = .ok (.getfield 56, 3)) rfl rfl (by decide +kernel : aFd 5 56 = some (5, 1, false, false)) g1 ?_
  refine X_iast 17 (by decide +kernel : decode cX3_layMiles 16 = .ok (.iastore, 1)) rfl rfl g11 r5 h13 ?_
  refine X_iconst 18 (by decide +kernel : decode cX3_layMiles 17 = .ok (.iconst 0, 1)) rfl rfl ?_
  refine X_istore_n 19 (by decide +kernel : decode cX3_layMiles 18 = .ok (.istore_n 3, 1)) rfl rfl (Nat.le_of_ble_eq_true rfl) rfl ?_
  exact k
theorem kX3_layMiles_19 {o0 : Option Value} {o1 : Option Value} {x2 : Int} {x3 : Int} (r1 : R32 x3) (r2 : R32 x2) (k1 : x2 ≤ x3 → X E d fX3_layMiles 59 [o0, o1, some (J x2), some (J x3)] [] S (mI M) Q) (k2 : x3 < x2 → X E d fX3_layMiles 24 [o0, o1, some (J x2), some (J x3)] [] S (mI M) Q) : X E d fX3_layMiles 19 [o0, o1, some (J x2), some (J x3)] [] S (mI M) Q := by
  refine X_iload_n 20 (by decide +kernel : decode cX3_layMiles 19 = .ok (.iload_n 3, 1)) rfl rfl rfl ?_
  refine X_iload_n 21 (by decide +kernel : decode cX3_layMiles 20 = .ok (.iload_n 2, 1)) rfl rfl rfl ?_
  exact X_icmpge 59 24 (by decide +kernel : decode cX3_layMiles 21 = .ok (.if_icmp .ge 38, 3)) rfl rfl (by decide) r1 r2 k1 k2
theorem kX3_layMiles_24 {a0 : Nat} {o1 : Option Value} {o2 : Option Value} {o3 : Option Value} (g1 : aKd S a0 = 5) (r2 : R32 (M a0 1)) (k1 : 45 ≤ (M a0 1) → X E d fX3_layMiles 59 [some (.ref a0), o1, o2, o3] [] S (mI M) Q) (k2 : (M a0 1) < 45 → X E d fX3_layMiles 33 [some (.ref a0), o1, o2, o3] [] S (mI M) Q) : X E d fX3_layMiles 24 [some (.ref a0), o1, o2, o3] [] S (mI M) Q := by
  refine X_aload_n 25 (by decide +kernel : decode cX3_layMiles 24 = .ok (.aload_n 0, 1)) rfl rfl rfl ?_
  refine X_getI 28 (by decide +kernel : decode cX3_layMiles 25 = .ok (.getfield 56, 3)) rfl rfl (by decide +kernel : aFd 5 56 = some (5, 1, false, false)) g1 ?_
  refine X_bipush 30 (45) (by decide +kernel : decode cX3_layMiles 28 = .ok (.bipush 45, 2)) rfl rfl (by decide +kernel) ?_
  exact X_icmpge 59 33 (by decide +kernel : decode cX3_layMiles 30 = .ok (.if_icmp .ge 29, 3)) rfl rfl (by decide) r2 ⟨by decide, by decide⟩ k1 k2
theorem kX3_layMiles_33 {a0 : Nat} {x1 : Int} {o2 : Option Value} {x3 : Int} {b2 : Nat} {M_10 : Nat → Nat → Int} (g1 : aKd S a0 = 5) (p3 : aP S a0 7 = some b2) (g5 : aK S b2 = 100) (r6 : R32 (M a0 1)) (h7 : (0 : Int) ≤ M a0 1 ∧ (M a0 1) < (aN S b2 : Int)) (g9 : aK S a0 = 5) (eM_10 : mW (mW M b2 (M a0 1).toNat x1) a0 1 (nz (((mW M b2 (M a0 1).toNat x1) a0 1) + 1)) = M_10) (k : X E d fX3_layMiles 19 [some (.ref a0), some (J x1), o2, some (J (x3 + 1))] [] S (mI M_10) Q) : X E d fX3_layMiles 33 [some (.ref a0), some (J x1), o2, some (J x3)] [] S (mI M) Q := by
  refine X_aload_n 34 (by decide +kernel : decode cX3_layMiles 33 = .ok (.aload_n 0, 1)) rfl rfl rfl ?_
  refine X_getR 37 (by decide +kernel : decode cX3_layMiles 34 = .ok (.getfield 21, 3)) rfl rfl (by decide +kernel : aFd 5 21 = some (5, 7, true, true)) g1 p3 ?_
  refine X_aload_n 38 (by decide +kernel : decode cX3_layMiles 37 = .ok (.aload_n 0, 1)) rfl rfl rfl ?_
  refine X_getI 41 (by decide +kernel : decode cX3_layMiles 38 = .ok (.getfield 56, 3)) rfl rfl (by decide +kernel : aFd 5 56 = some (5, 1, false, false)) g1 ?_
  refine X_iload_n 42 (by decide +kernel : decode cX3_layMiles 41 = .ok (.iload_n 1, 1)) rfl rfl rfl ?_
  refine X_iast 43 (by decide +kernel : decode cX3_layMiles 42 = .ok (.iastore, 1)) rfl rfl g5 r6 h7 ?_
  refine X_aload_n 44 (by decide +kernel : decode cX3_layMiles 43 = .ok (.aload_n 0, 1)) rfl rfl rfl ?_
  refine X_dup 45 (by decide +kernel : decode cX3_layMiles 44 = .ok (.dup, 1)) rfl rfl rfl ?_
  refine X_getI 48 (by decide +kernel : decode cX3_layMiles 45 = .ok (.getfield 56, 3)) rfl rfl (by decide +kernel : aFd 5 56 = some (5, 1, false, false)) g1 ?_
  refine X_iconst 49 (by decide +kernel : decode cX3_layMiles 48 = .ok (.iconst 1, 1)) rfl rfl ?_
  refine X_iadd 50 (by decide +kernel : decode cX3_layMiles 49 = .ok (.iadd, 1)) rfl rfl ?_
  refine X_putIz 53 (by decide +kernel : decode cX3_layMiles 50 = .ok (.putfield 56, 3)) rfl rfl (by decide +kernel : aFd 5 56 = some (5, 1, false, false)) (Or.inl rfl) g9 rfl rfl ?_
  show X E d fX3_layMiles 53 [some (.ref a0), some (J x1), o2, some (J x3)] [] S (mI (mW (mW M b2 (M a0 1).toNat x1) a0 1 (nz (((mW M b2 (M a0 1).toNat x1) a0 1) + 1)))) Q
  rw [eM_10]
  refine X_iinc 56 (by decide +kernel : decode cX3_layMiles 53 = .ok (.iinc 3 1, 3)) rfl rfl rfl rfl ?_
  exact X_goto 19 (by decide +kernel : decode cX3_layMiles 56 = .ok (.goto (-37), 3)) rfl (by decide) k
theorem kX3_layMiles_59 {o0 : Option Value} {o1 : Option Value} {o2 : Option Value} {o3 : Option Value} (q : Q (some none) S (mI M)) : X E d fX3_layMiles 59 [o0, o1, o2, o3] [] S (mI M) Q := by
  exact X_vret (by decide +kernel : decode cX3_layMiles 59 = .ok (.return_, 1)) rfl rfl q
end
