/-! straight pieces of methods, by program (wip/p26/blk.py): X4_init X1_init X1_clear X1_begin X1_emit X1_endSum X1_endTest X4_look X4_lookAtName X4_tellName X4_numberOfName X4_isSameName X4_findName X4_lookAtNumber X4_setDown X4_put X1_link -/
section
variable {E : Nat → Value} {d : Nat} {S : aS} {M : Nat → Nat → Int} {Q : Option (Option Value) → aS → aI → Prop}
theorem kX4_init_0 {a0 : Nat} {a1 : Nat} {a2 : Nat} {M_2 : Nat → Nat → Int} {S_4 : aS} {S_7 : aS} (g1 : aK (aNew S 100 5 5) a0 = 6) (eM_2 : aU (aU M (aX S) (fun _ => 0)) (aX (aPut (aNew S 100 5 5) a0 3 (some (aX S)))) (fun _ => 0) = M_2) (g3 : aK (aNew (aPut (aNew S 100 5 5) a0 3 (some (aX S))) 100 5 5) a0 = 6) (eS_4 : aPut (aNew (aPut (aNew S 100 5 5) a0 3 (some (aX S))) 100 5 5) a0 4 (some (aX (aPut (aNew S 100 5 5) a0 3 (some (aX S))))) = S_4) (g5 : aK (aNew S_4 100 8 8) a0 = 6) (eS_7 : aPut (aPut (aNew S_4 100 8 8) a0 5 (some (aX S_4))) a0 0 (some a1) = S_7) (g8 : aK S_7 a0 = 6) (q : Q (some none) (aPut S_7 a0 1 (some a2)) (mI (aU M_2 (aX S_4) (fun _ => 0)))) : X E d fX4_init 0 [some (.ref a0), some (.ref a1), some (.ref a2)] [] S (mI M) Q := by
  refine X_aload_n 1 (by decide +kernel : decode cX4_init 0 = .ok (.aload_n 0, 1)) rfl rfl rfl ?_
  refine X_obj 4 (by decide +kernel : decode cX4_init 1 = .ok (.invokespecial 3, 3)) rfl rfl rfl (Nat.le_of_ble_eq_true rfl) ?_
  refine X_aload_n 5 (by decide +kernel : decode cX4_init 4 = .ok (.aload_n 0, 1)) rfl rfl rfl ?_
  refine X_iconst 6 (by decide +kernel : decode cX4_init 5 = .ok (.iconst 5, 1)) rfl rfl ?_
  refine X_newI 8 (by decide +kernel : decode cX4_init 6 = .ok (.newarray .int, 2)) rfl rfl ⟨by decide, by decide⟩ ?_
  refine X_putR 11 (by decide +kernel : decode cX4_init 8 = .ok (.putfield 9, 3)) rfl rfl (by decide +kernel : aFd 6 9 = some (6, 3, true, true)) (Or.inr ⟨rfl, rfl⟩) g1 rfl ?_
  refine X_aload_n 12 (by decide +kernel : decode cX4_init 11 = .ok (.aload_n 0, 1)) rfl rfl rfl ?_
  refine X_iconst 13 (by decide +kernel : decode cX4_init 12 = .ok (.iconst 5, 1)) rfl rfl ?_
  refine X_newI 15 (by decide +kernel : decode cX4_init 13 = .ok (.newarray .int, 2)) rfl rfl ⟨by decide, by decide⟩ ?_
  show X E d fX4_init 15 [some (.ref a0), some (.ref a1), some (.ref a2)] [.ref (aX (aPut (aNew S 100 5 5) a0 3 (some (aX S)))), .ref a0] (aNew (aPut (aNew S 100 5 5) a0 3 (some (aX S))) 100 5 5) (mI (aU (aU M (aX S) (fun _ => 0)) (aX (aPut (aNew S 100 5 5) a0 3 (some (aX S)))) (fun _ => 0))) Q
  rw [eM_2]
  refine X_putR 18 (by decide +kernel : decode cX4_init 15 = .ok (.putfield 15, 3)) rfl rfl (by decide +kernel : aFd 6 15 = some (6, 4, true, true)) (Or.inr ⟨rfl, rfl⟩) g3 rfl ?_
  show X E d fX4_init 18 [some (.ref a0), some (.ref a1), some (.ref a2)] [] (aPut (aNew (aPut (aNew S 100 5 5) a0 3 (some (aX S))) 100 5 5) a0 4 (some (aX (aPut (aNew S 100 5 5) a0 3 (some (aX S)))))) (mI M_2) Q
  rw [eS_4]
  refine X_aload_n 19 (by decide +kernel : decode cX4_init 18 = .ok (.aload_n 0, 1)) rfl rfl rfl ?_
  refine X_bipush 21 (8) (by decide +kernel : decode cX4_init 19 = .ok (.bipush 8, 2)) rfl rfl (by decide +kernel) ?_
  refine X_newI 23 (by decide +kernel : decode cX4_init 21 = .ok (.newarray .int, 2)) rfl rfl ⟨by decide, by decide⟩ ?_
  refine X_putR 26 (by decide +kernel : decode cX4_init 23 = .ok (.putfield 18, 3)) rfl rfl (by decide +kernel : aFd 6 18 = some (6, 5, true, true)) (Or.inr ⟨rfl, rfl⟩) g5 rfl ?_
  refine X_aload_n 27 (by decide +kernel : decode cX4_init 26 = .ok (.aload_n 0, 1)) rfl rfl rfl ?_
  refine X_aload_n 28 (by decide +kernel : decode cX4_init 27 = .ok (.aload_n 1, 1)) rfl rfl rfl ?_
  refine X_putR 31 (by decide +kernel : decode cX4_init 28 = .ok (.putfield 21, 3)) rfl rfl (by decide +kernel : aFd 6 21 = some (6, 0, true, true)) (Or.inr ⟨rfl, rfl⟩) g5 rfl ?_
  show X E d fX4_init 31 [some (.ref a0), some (.ref a1), some (.ref a2)] [] (aPut (aPut (aNew S_4 100 8 8) a0 5 (some (aX S_4))) a0 0 (some a1)) (mI (aU M_2 (aX S_4) (fun _ => 0))) Q
  rw [eS_7]
  refine X_aload_n 32 (by decide +kernel : decode cX4_init 31 = .ok (.aload_n 0, 1)) rfl rfl rfl ?_
  refine X_aload_n 33 (by decide +kernel : decode cX4_init 32 = .ok (.aload_n 2, 1)) rfl rfl rfl ?_
  refine X_putR 36 (by decide +kernel : decode cX4_init 33 = .ok (.putfield 25, 3)) rfl rfl (by decide +kernel : aFd 6 25 = some (6, 1, true, true)) (Or.inr ⟨rfl, rfl⟩) g8 rfl ?_
  exact X_vret (by decide +kernel : decode cX4_init 36 = .ok (.return_, 1)) rfl rfl q
theorem kX1_init_0 {a0 : Nat} {M_2 : Nat → Nat → Int} {S_4 : aS} {S_6 : aS} {M_7 : Nat → Nat → Int} {S_9 : aS} {S_11 : aS} {M_12 : Nat → Nat → Int} {S_14 : aS} {S_16 : aS} {M_17 : Nat → Nat → Int} {S_19 : aS} (g1 : aK (aNew S 100 20 20) a0 = 3) (eM_2 : aU (aU M (aX S) (fun _ => 0)) (aX (aPut (aNew S 100 20 20) a0 1 (some (aX S)))) (fun _ => 0) = M_2) (g3 : aK (aNew (aPut (aNew S 100 20 20) a0 1 (some (aX S))) 100 20 20) a0 = 3) (eS_4 : aPut (aNew (aPut (aNew S 100 20 20) a0 1 (some (aX S))) 100 20 20) a0 2 (some (aX (aPut (aNew S 100 20 20) a0 1 (some (aX S))))) = S_4) (g5 : aK (aNew S_4 100 20 20) a0 = 3) (eS_6 : aNew (aPut (aNew S_4 100 20 20) a0 3 (some (aX S_4))) 100 20 20 = S_6) (eM_7 : aU (aU M_2 (aX S_4) (fun _ => 0)) (aX (aPut (aNew S_4 100 20 20) a0 3 (some (aX S_4)))) (fun _ => 0) = M_7) (g8 : aK S_6 a0 = 3) (eS_9 : aPut S_6 a0 4 (some (aX (aPut (aNew S_4 100 20 20) a0 3 (some (aX S_4))))) = S_9) (g10 : aK (aNew S_9 100 20 20) a0 = 3) (eS_11 : aNew (aPut (aNew S_9 100 20 20) a0 5 (some (aX S_9))) 100 20 20 = S_11) (eM_12 : aU (aU M_7 (aX S_9) (fun _ => 0)) (aX (aPut (aNew S_9 100 20 20) a0 5 (some (aX S_9)))) (fun _ => 0) = M_12) (g13 : aK S_11 a0 = 3) (eS_14 : aPut S_11 a0 6 (some (aX (aPut (aNew S_9 100 20 20) a0 5 (some (aX S_9))))) = S_14) (g15 : aK (aNew S_14 100 20 20) a0 = 3) (eS_16 : aNew (aPut (aNew S_14 100 20 20) a0 7 (some (aX S_14))) 100 400 400 = S_16) (eM_17 : aU (aU M_12 (aX S_14) (fun _ => 0)) (aX (aPut (aNew S_14 100 20 20) a0 7 (some (aX S_14)))) (fun _ => 0) = M_17) (g18 : aK S_16 a0 = 3) (eS_19 : aPut S_16 a0 9 (some (aX (aPut (aNew S_14 100 20 20) a0 7 (some (aX S_14))))) = S_19) (g20 : aK (aNew S_19 100 400 400) a0 = 3) (q : Q (some none) (aPut (aNew S_19 100 400 400) a0 10 (some (aX S_19))) (mI (aU M_17 (aX S_19) (fun _ => 0)))) : X E d fX1_init 0 [some (.ref a0)] [] S (mI M) Q := by
  refine X_aload_n 1 (by decide +kernel : decode cX1_init 0 = .ok (.aload_n 0, 1)) rfl rfl rfl ?_
  refine X_obj 4 (by decide +kernel : decode cX1_init 1 = .ok (.invokespecial 3, 3)) rfl rfl rfl (Nat.le_of_ble_eq_true rfl) ?_
  refine X_aload_n 5 (by decide +kernel : decode cX1_init 4 = .ok (.aload_n 0, 1)) rfl rfl rfl ?_
  refine X_bipush 7 (20) (by decide +kernel : decode cX1_init 5 = .ok (.bipush 20, 2)) rfl rfl (by decide +kernel) ?_
  refine X_newI 9 (by decide +kernel : decode cX1_init 7 = .ok (.newarray .int, 2)) rfl rfl ⟨by decide, by decide⟩ ?_
  refine X_putR 12 (by decide +kernel : decode cX1_init 9 = .ok (.putfield 9, 3)) rfl rfl (by decide +kernel : aFd 3 9 = some (3, 1, true, true)) (Or.inr ⟨rfl, rfl⟩) g1 rfl ?_
  refine X_aload_n 13 (by decide +kernel : decode cX1_init 12 = .ok (.aload_n 0, 1)) rfl rfl rfl ?_
  refine X_bipush 15 (20) (by decide +kernel : decode cX1_init 13 = .ok (.bipush 20, 2)) rfl rfl (by decide +kernel) ?_
  refine X_newI 17 (by decide +kernel : decode cX1_init 15 = .ok (.newarray .int, 2)) rfl rfl ⟨by decide, by decide⟩ ?_
  show X E d fX1_init 17 [some (.ref a0)] [.ref (aX (aPut (aNew S 100 20 20) a0 1 (some (aX S)))), .ref a0] (aNew (aPut (aNew S 100 20 20) a0 1 (some (aX S))) 100 20 20) (mI (aU (aU M (aX S) (fun _ => 0)) (aX (aPut (aNew S 100 20 20) a0 1 (some (aX S)))) (fun _ => 0))) Q
  rw [eM_2]
  refine X_putR 20 (by decide +kernel : decode cX1_init 17 = .ok (.putfield 15, 3)) rfl rfl (by decide +kernel : aFd 3 15 = some (3, 2, true, true)) (Or.inr ⟨rfl, rfl⟩) g3 rfl ?_
  show X E d fX1_init 20 [some (.ref a0)] [] (aPut (aNew (aPut (aNew S 100 20 20) a0 1 (some (aX S))) 100 20 20) a0 2 (some (aX (aPut (aNew S 100 20 20) a0 1 (some (aX S)))))) (mI M_2) Q
  rw [eS_4]
  refine X_aload_n 21 (by decide +kernel : decode cX1_init 20 = .ok (.aload_n 0, 1)) rfl rfl rfl ?_
  refine X_bipush 23 (20) (by decide +kernel : decode cX1_init 21 = .ok (.bipush 20, 2)) rfl rfl (by decide +kernel) ?_
  refine X_newI 25 (by decide +kernel : decode cX1_init 23 = .ok (.newarray .int, 2)) rfl rfl ⟨by decide, by decide⟩ ?_
  refine X_putR 28 (by decide +kernel : decode cX1_init 25 = .ok (.putfield 18, 3)) rfl rfl (by decide +kernel : aFd 3 18 = some (3, 3, true, true)) (Or.inr ⟨rfl, rfl⟩) g5 rfl ?_
  refine X_aload_n 29 (by decide +kernel : decode cX1_init 28 = .ok (.aload_n 0, 1)) rfl rfl rfl ?_
  refine X_bipush 31 (20) (by decide +kernel : decode cX1_init 29 = .ok (.bipush 20, 2)) rfl rfl (by decide +kernel) ?_
  refine X_newI 33 (by decide +kernel : decode cX1_init 31 = .ok (.newarray .int, 2)) rfl rfl ⟨by decide, by decide⟩ ?_
  show X E d fX1_init 33 [some (.ref a0)] [.ref (aX (aPut (aNew S_4 100 20 20) a0 3 (some (aX S_4)))), .ref a0] (aNew (aPut (aNew S_4 100 20 20) a0 3 (some (aX S_4))) 100 20 20) (mI (aU (aU M_2 (aX S_4) (fun _ => 0)) (aX (aPut (aNew S_4 100 20 20) a0 3 (some (aX S_4)))) (fun _ => 0))) Q
  rw [eS_6]
  show X E d fX1_init 33 [some (.ref a0)] [.ref (aX (aPut (aNew S_4 100 20 20) a0 3 (some (aX S_4)))), .ref a0] S_6 (mI (aU (aU M_2 (aX S_4) (fun _ => 0)) (aX (aPut (aNew S_4 100 20 20) a0 3 (some (aX S_4)))) (fun _ => 0))) Q
  rw [eM_7]
  refine X_putR 36 (by decide +kernel : decode cX1_init 33 = .ok (.putfield 21, 3)) rfl rfl (by decide +kernel : aFd 3 21 = some (3, 4, true, true)) (Or.inr ⟨rfl, rfl⟩) g8 rfl ?_
  show X E d fX1_init 36 [some (.ref a0)] [] (aPut S_6 a0 4 (some (aX (aPut (aNew S_4 100 20 20) a0 3 (some (aX S_4)))))) (mI M_7) Q
  rw [eS_9]
  refine X_aload_n 37 (by decide +kernel : decode cX1_init 36 = .ok (.aload_n 0, 1)) rfl rfl rfl ?_
  refine X_bipush 39 (20) (by decide +kernel : decode cX1_init 37 = .ok (.bipush 20, 2)) rfl rfl (by decide +kernel) ?_
  refine X_newI 41 (by decide +kernel : decode cX1_init 39 = .ok (.newarray .int, 2)) rfl rfl ⟨by decide, by decide⟩ ?_
  refine X_putR 44 (by decide +kernel : decode cX1_init 41 = .ok (.putfield 24, 3)) rfl rfl (by decide +kernel : aFd 3 24 = some (3, 5, true, true)) (Or.inr ⟨rfl, rfl⟩) g10 rfl ?_
  refine X_aload_n 45 (by decide +kernel : decode cX1_init 44 = .ok (.aload_n 0, 1)) rfl rfl rfl ?_
  refine X_bipush 47 (20) (by decide +kernel : decode cX1_init 45 = .ok (.bipush 20, 2)) rfl rfl (by decide +kernel) ?_
  refine X_newI 49 (by decide +kernel : decode cX1_init 47 = .ok (.newarray .int, 2)) rfl rfl ⟨by decide, by decide⟩ ?_
  show X E d fX1_init 49 [some (.ref a0)] [.ref (aX (aPut (aNew S_9 100 20 20) a0 5 (some (aX S_9)))), .ref a0] (aNew (aPut (aNew S_9 100 20 20) a0 5 (some (aX S_9))) 100 20 20) (mI (aU (aU M_7 (aX S_9) (fun _ => 0)) (aX (aPut (aNew S_9 100 20 20) a0 5 (some (aX S_9)))) (fun _ => 0))) Q
  rw [eS_11]
  show X E d fX1_init 49 [some (.ref a0)] [.ref (aX (aPut (aNew S_9 100 20 20) a0 5 (some (aX S_9)))), .ref a0] S_11 (mI (aU (aU M_7 (aX S_9) (fun _ => 0)) (aX (aPut (aNew S_9 100 20 20) a0 5 (some (aX S_9)))) (fun _ => 0))) Q
  rw [eM_12]
  refine X_putR 52 (by decide +kernel : decode cX1_init 49 = .ok (.putfield 27, 3)) rfl rfl (by decide +kernel : aFd 3 27 = some (3, 6, true, true)) (Or.inr ⟨rfl, rfl⟩) g13 rfl ?_
  show X E d fX1_init 52 [some (.ref a0)] [] (aPut S_11 a0 6 (some (aX (aPut (aNew S_9 100 20 20) a0 5 (some (aX S_9)))))) (mI M_12) Q
  rw [eS_14]
  refine X_aload_n 53 (by decide +kernel : decode cX1_init 52 = .ok (.aload_n 0, 1)) rfl rfl rfl ?_
  refine X_bipush 55 (20) (by decide +kernel : decode cX1_init 53 = .ok (.bipush 20, 2)) rfl rfl (by decide +kernel) ?_
  refine X_newI 57 (by decide +kernel : decode cX1_init 55 = .ok (.newarray .int, 2)) rfl rfl ⟨by decide, by decide⟩ ?_
  refine X_putR 60 (by decide +kernel : decode cX1_init 57 = .ok (.putfield 30, 3)) rfl rfl (by decide +kernel : aFd 3 30 = some (3, 7, true, true)) (Or.inr ⟨rfl, rfl⟩) g15 rfl ?_
  refine X_aload_n 61 (by decide +kernel : decode cX1_init 60 = .ok (.aload_n 0, 1)) rfl rfl rfl ?_
  refine X_sipush 64 (400) (by decide +kernel : decode cX1_init 61 = .ok (.sipush 400, 3)) rfl rfl (by decide +kernel) ?_
  refine X_newI 66 (by decide +kernel : decode cX1_init 64 = .ok (.newarray .int, 2)) rfl rfl ⟨by decide, by decide⟩ ?_
  show X E d fX1_init 66 [some (.ref a0)] [.ref (aX (aPut (aNew S_14 100 20 20) a0 7 (some (aX S_14)))), .ref a0] (aNew (aPut (aNew S_14 100 20 20) a0 7 (some (aX S_14))) 100 400 400) (mI (aU (aU M_12 (aX S_14) (fun _ => 0)) (aX (aPut (aNew S_14 100 20 20) a0 7 (some (aX S_14)))) (fun _ => 0))) Q
  rw [eS_16]
  show X E d fX1_init 66 [some (.ref a0)] [.ref (aX (aPut (aNew S_14 100 20 20) a0 7 (some (aX S_14)))), .ref a0] S_16 (mI (aU (aU M_12 (aX S_14) (fun _ => 0)) (aX (aPut (aNew S_14 100 20 20) a0 7 (some (aX S_14)))) (fun _ => 0))) Q
  rw [eM_17]
  refine X_putR 69 (by decide +kernel : decode cX1_init 66 = .ok (.putfield 33, 3)) rfl rfl (by decide +kernel : aFd 3 33 = some (3, 9, true, true)) (Or.inr ⟨rfl, rfl⟩) g18 rfl ?_
  show X E d fX1_init 69 [some (.ref a0)] [] (aPut S_16 a0 9 (some (aX (aPut (aNew S_14 100 20 20) a0 7 (some (aX S_14)))))) (mI M_17) Q
  rw [eS_19]
  refine X_aload_n 70 (by decide +kernel : decode cX1_init 69 = .ok (.aload_n 0, 1)) rfl rfl rfl ?_
  refine X_sipush 73 (400) (by decide +kernel : decode cX1_init 70 = .ok (.sipush 400, 3)) rfl rfl (by decide +kernel) ?_
  refine X_newI 75 (by decide +kernel : decode cX1_init 73 = .ok (.newarray .int, 2)) rfl rfl ⟨by decide, by decide⟩ ?_
  refine X_putR 78 (by decide +kernel : decode cX1_init 75 = .ok (.putfield 36, 3)) rfl rfl (by decide +kernel : aFd 3 36 = some (3, 10, true, true)) (Or.inr ⟨rfl, rfl⟩) g20 rfl ?_
  exact X_vret (by decide +kernel : decode cX1_init 78 = .ok (.return_, 1)) rfl rfl q
theorem kX1_clear_0 {a0 : Nat} (g1 : aK S a0 = 3) (q : Q (some none) S (mI (mW (mW M a0 0 0) a0 8 0))) : X E d fX1_clear 0 [some (.ref a0)] [] S (mI M) Q := by
  refine X_aload_n 1 (by decide +kernel : decode cX1_clear 0 = .ok (.aload_n 0, 1)) rfl rfl rfl ?_
  refine X_iconst 2 (by decide +kernel : decode cX1_clear 1 = .ok (.iconst 0, 1)) rfl rfl ?_
  refine X_putI 5 (by decide +kernel : decode cX1_clear 2 = .ok (.putfield 39, 3)) rfl rfl (by decide +kernel : aFd 3 39 = some (3, 0, false, false)) (Or.inl rfl) g1 rfl rfl ?_
  refine X_aload_n 6 (by decide +kernel : decode cX1_clear 5 = .ok (.aload_n 0, 1)) rfl rfl rfl ?_
  refine X_iconst 7 (by decide +kernel : decode cX1_clear 6 = .ok (.iconst 0, 1)) rfl rfl ?_
  refine X_putI 10 (by decide +kernel : decode cX1_clear 7 = .ok (.putfield 43, 3)) rfl rfl (by decide +kernel : aFd 3 43 = some (3, 8, false, false)) (Or.inl rfl) g1 rfl rfl ?_
  exact X_vret (by decide +kernel : decode cX1_clear 10 = .ok (.return_, 1)) rfl rfl q
theorem kX1_begin_0 {a0 : Nat} {o1 : Option Value} {o2 : Option Value} {o3 : Option Value} (g1 : aKd S a0 = 3) (r2 : R32 (M a0 0)) (k1 : 20 ≤ (M a0 0) → X E d fX1_begin 16 [some (.ref a0), o1, o2, o3] [] S (mI M) Q) (k2 : (M a0 0) < 20 → X E d fX1_begin 9 [some (.ref a0), o1, o2, o3] [] S (mI M) Q) : X E d fX1_begin 0 [some (.ref a0), o1, o2, o3] [] S (mI M) Q := by
  refine X_aload_n 1 (by decide +kernel : decode cX1_begin 0 = .ok (.aload_n 0, 1)) rfl rfl rfl ?_
  refine X_getI 4 (by decide +kernel : decode cX1_begin 1 = .ok (.getfield 39, 3)) rfl rfl (by decide +kernel : aFd 3 39 = some (3, 0, false, false)) g1 ?_
  refine X_bipush 6 (20) (by decide +kernel : decode cX1_begin 4 = .ok (.bipush 20, 2)) rfl rfl (by decide +kernel) ?_
  exact X_icmpge 16 9 (by decide +kernel : decode cX1_begin 6 = .ok (.if_icmp .ge 10, 3)) rfl rfl (by decide) r2 ⟨by decide, by decide⟩ k1 k2
theorem kX1_begin_9 {a0 : Nat} {o1 : Option Value} {o2 : Option Value} {o3 : Option Value} (g1 : aKd S a0 = 3) (k : X E d fX1_begin 18 [some (.ref a0), o1, o2, o3] [J (M a0 0)] S (mI M) Q) : X E d fX1_begin 9 [some (.ref a0), o1, o2, o3] [] S (mI M) Q := by
  refine X_aload_n 10 (by decide +kernel : decode cX1_begin 9 = .ok (.aload_n 0, 1)) rfl rfl rfl ?_
  refine X_getI 13 (by decide +kernel : decode cX1_begin 10 = .ok (.getfield 39, 3)) rfl rfl (by decide +kernel : aFd 3 39 = some (3, 0, false, false)) g1 ?_
  exact X_goto 18 (by decide +kernel : decode cX1_begin 13 = .ok (.goto 5, 3)) rfl (by decide) k
theorem kX1_begin_16 {o0 : Option Value} {o1 : Option Value} {o2 : Option Value} {o3 : Option Value} (k : X E d fX1_begin 18 [o0, o1, o2, o3] [J 19] S (mI M) Q) : X E d fX1_begin 16 [o0, o1, o2, o3] [] S (mI M) Q := by
  refine X_bipush 18 (19) (by decide +kernel : decode cX1_begin 16 = .ok (.bipush 19, 2)) rfl rfl (by decide +kernel) ?_
  exact k
theorem kX1_begin_18 {a0 : Nat} {x1 : Int} {x2 : Int} {o3 : Option Value} {t0 : Int} {b3 : Nat} {b9 : Nat} {b15 : Nat} {M_21 : Nat → Nat → Int} (g1 : aK S a0 = 3) (g2 : aKd S a0 = 3) (p4 : aP S a0 1 = some b3) (g5 : aK S b3 = 100) (r6 : R32 t0) (h7 : (0 : Int) ≤ t0 ∧ t0 < (aN S b3 : Int)) (p10 : aP S a0 2 = some b9) (g11 : aK S b9 = 100) (h13 : (0 : Int) ≤ t0 ∧ t0 < (aN S b9 : Int)) (p16 : aP S a0 5 = some b15) (g18 : aK S b15 = 100) (h20 : (0 : Int) ≤ t0 ∧ t0 < (aN S b15 : Int)) (eM_21 : mW (mW (mW (mW M a0 0 (nz (t0 + 1))) b3 t0.toNat x1) b9 t0.toNat x2) b15 t0.toNat (nz ((mW (mW (mW M a0 0 (nz (t0 + 1))) b3 t0.toNat x1) b9 t0.toNat x2) a0 8)) = M_21) (q : Q (some (some (J t0))) S (mI M_21)) : X E d fX1_begin 18 [some (.ref a0), some (J x1), some (J x2), o3] [J t0] S (mI M) Q := by
  refine X_istore_n 19 (by decide +kernel : decode cX1_begin 18 = .ok (.istore_n 3, 1)) rfl rfl (Nat.le_of_ble_eq_true rfl) rfl ?_
  refine X_aload_n 20 (by decide +kernel : decode cX1_begin 19 = .ok (.aload_n 0, 1)) rfl rfl rfl ?_
  refine X_iload_n 21 (by decide +kernel : decode cX1_begin 20 = .ok (.iload_n 3, 1)) rfl rfl rfl ?_
  refine X_iconst 22 (by decide +kernel : decode cX1_begin 21 = .ok (.iconst 1, 1)) rfl rfl ?_
  refine X_iadd 23 (by decide +kernel : decode cX1_begin 22 = .ok (.iadd, 1)) rfl rfl ?_
  refine X_putIz 26 (by decide +kernel : decode cX1_begin 23 = .ok (.putfield 39, 3)) rfl rfl (by decide +kernel : aFd 3 39 = some (3, 0, false, false)) (Or.inl rfl) g1 rfl rfl ?_
  refine X_aload_n 27 (by decide +kernel : decode cX1_begin 26 = .ok (.aload_n 0, 1)) rfl rfl rfl ?_
  refine X_getR 30 (by decide +kernel : decode cX1_begin 27 = .ok (.getfield 9, 3)) rfl rfl (by decide +kernel : aFd 3 9 = some (3, 1, true, true)) g2 p4 ?_
  refine X_iload_n 31 (by decide +kernel : decode cX1_begin 30 = .ok (.iload_n 3, 1)) rfl rfl rfl ?_
  refine X_iload_n 32 (by decide +kernel : decode cX1_begin 31 = .ok (.iload_n 1, 1)) rfl rfl rfl ?_
  refine X_iast 33 (by decide +kernel : decode cX1_begin 32 = .ok (.iastore, 1)) rfl rfl g5 r6 h7 ?_
  refine X_aload_n 34 (by decide +kernel : decode cX1_begin 33 = .ok (.aload_n 0, 1)) rfl rfl rfl ?_
  refine X_getR 37 (by decide +kernel : decode cX1_begin 34 = .ok (.getfield 15, 3)) rfl rfl (by decide +kernel : aFd 3 15 = some (3, 2, true, true)) g2 p10 ?_
  refine X_iload_n 38 (by decide +kernel : decode cX1_begin 37 = .ok (.iload_n 3, 1)) rfl rfl rfl ?_
  refine X_iload_n 39 (by decide +kernel : decode cX1_begin 38 = .ok (.iload_n 2, 1)) rfl rfl rfl ?_
  refine X_iast 40 (by decide +kernel : decode cX1_begin 39 = .ok (.iastore, 1)) rfl rfl g11 r6 h13 ?_
  refine X_aload_n 41 (by decide +kernel : decode cX1_begin 40 = .ok (.aload_n 0, 1)) rfl rfl rfl ?_
  refine X_getR 44 (by decide +kernel : decode cX1_begin 41 = .ok (.getfield 24, 3)) rfl rfl (by decide +kernel : aFd 3 24 = some (3, 5, true, true)) g2 p16 ?_
  refine X_iload_n 45 (by decide +kernel : decode cX1_begin 44 = .ok (.iload_n 3, 1)) rfl rfl rfl ?_
  refine X_aload_n 46 (by decide +kernel : decode cX1_begin 45 = .ok (.aload_n 0, 1)) rfl rfl rfl ?_
  refine X_getI 49 (by decide +kernel : decode cX1_begin 46 = .ok (.getfield 43, 3)) rfl rfl (by decide +kernel : aFd 3 43 = some (3, 8, false, false)) g2 ?_
  refine X_iastz 50 (by decide +kernel : decode cX1_begin 49 = .ok (.iastore, 1)) rfl rfl g18 r6 h20 ?_
  show X E d fX1_begin 50 [some (.ref a0), some (J x1), some (J x2), some (J t0)] [] S (mI (mW (mW (mW (mW M a0 0 (nz (t0 + 1))) b3 t0.toNat x1) b9 t0.toNat x2) b15 t0.toNat (nz ((mW (mW (mW M a0 0 (nz (t0 + 1))) b3 t0.toNat x1) b9 t0.toNat x2) a0 8)))) Q
  rw [eM_21]
  refine X_iload_n 51 (by decide +kernel : decode cX1_begin 50 = .ok (.iload_n 3, 1)) rfl rfl rfl ?_
  exact X_iret (by decide +kernel : decode cX1_begin 51 = .ok (.ireturn, 1)) rfl rfl rfl q
theorem kX1_emit_0 {a0 : Nat} {o1 : Option Value} {o2 : Option Value} (g1 : aKd S a0 = 3) (r2 : R32 (M a0 8)) (k1 : 400 ≤ (M a0 8) → X E d fX1_emit 40 [some (.ref a0), o1, o2] [] S (mI M) Q) (k2 : (M a0 8) < 400 → X E d fX1_emit 10 [some (.ref a0), o1, o2] [] S (mI M) Q) : X E d fX1_emit 0 [some (.ref a0), o1, o2] [] S (mI M) Q := by
  refine X_aload_n 1 (by decide +kernel : decode cX1_emit 0 = .ok (.aload_n 0, 1)) rfl rfl rfl ?_
  refine X_getI 4 (by decide +kernel : decode cX1_emit 1 = .ok (.getfield 43, 3)) rfl rfl (by decide +kernel : aFd 3 43 = some (3, 8, false, false)) g1 ?_
  refine X_sipush 7 (400) (by decide +kernel : decode cX1_emit 4 = .ok (.sipush 400, 3)) rfl rfl (by decide +kernel) ?_
  exact X_icmpge 40 10 (by decide +kernel : decode cX1_emit 7 = .ok (.if_icmp .ge 33, 3)) rfl rfl (by decide) r2 ⟨by decide, by decide⟩ k1 k2
theorem kX1_emit_10 {a0 : Nat} {x1 : Int} {x2 : Int} {b2 : Nat} {b9 : Nat} {M_15 : Nat → Nat → Int} (g1 : aKd S a0 = 3) (p3 : aP S a0 9 = some b2) (g5 : aK S b2 = 100) (r6 : R32 (M a0 8)) (h7 : (0 : Int) ≤ M a0 8 ∧ (M a0 8) < (aN S b2 : Int)) (p10 : aP S a0 10 = some b9) (g12 : aK S b9 = 100) (r13 : R32 ((mW M b2 (M a0 8).toNat x1) a0 8)) (h14 : (0 : Int) ≤ (mW M b2 (M a0 8).toNat x1) a0 8 ∧ ((mW M b2 (M a0 8).toNat x1) a0 8) < (aN S b9 : Int)) (eM_15 : mW (mW M b2 (M a0 8).toNat x1) b9 ((mW M b2 (M a0 8).toNat x1) a0 8).toNat x2 = M_15) (g17 : aK S a0 = 3) (k : X E d fX1_emit 40 [some (.ref a0), some (J x1), some (J x2)] [] S (mI (mW M_15 a0 8 (nz ((M_15 a0 8) + 1)))) Q) : X E d fX1_emit 10 [some (.ref a0), some (J x1), some (J x2)] [] S (mI M) Q := by
  refine X_aload_n 11 (by decide +kernel : decode cX1_emit 10 = .ok (.aload_n 0, 1)) rfl rfl rfl ?_
  refine X_getR 14 (by decide +kernel : decode cX1_emit 11 = .ok (.getfield 33, 3)) rfl rfl (by decide +kernel : aFd 3 33 = some (3, 9, true, true)) g1 p3 ?_
  refine X_aload_n 15 (by decide +kernel : decode cX1_emit 14 = .ok (.aload_n 0, 1)) rfl rfl rfl ?_
  refine X_getI 18 (by decide +kernel : decode cX1_emit 15 = .ok (.getfield 43, 3)) rfl rfl (by decide +kernel : aFd 3 43 = some (3, 8, false, false)) g1 ?_
  refine X_iload_n 19 (by decide +kernel : decode cX1_emit 18 = .ok (.iload_n 1, 1)) rfl rfl rfl ?_
  refine X_iast 20 (by decide +kernel : decode cX1_emit 19 = .ok (.iastore, 1)) rfl rfl g5 r6 h7 ?_
  refine X_aload_n 21 (by decide +kernel : decode cX1_emit 20 = .ok (.aload_n 0, 1)) rfl rfl rfl ?_
  refine X_getR 24 (by decide +kernel : decode cX1_emit 21 = .ok (.getfield 36, 3)) rfl rfl (by decide +kernel : aFd 3 36 = some (3, 10, true, true)) g1 p10 ?_
  refine X_aload_n 25 (by decide +kernel : decode cX1_emit 24 = .ok (.aload_n 0, 1)) rfl rfl rfl ?_
  refine X_getI 28 (by decide +kernel : decode cX1_emit 25 = .ok (.getfield 43, 3)) rfl rfl (by decide +kernel : aFd 3 43 = some (3, 8, false, false)) g1 ?_
  refine X_iload_n 29 (by decide +kernel : decode cX1_emit 28 = .ok (.iload_n 2, 1)) rfl rfl rfl ?_
  refine X_iast 30 (by decide +kernel : decode cX1_emit 29 = .ok (.iastore, 1)) rfl rfl g12 r13 h14 ?_
  show X E d fX1_emit 30 [some (.ref a0), some (J x1), some (J x2)] [] S (mI (mW (mW M b2 (M a0 8).toNat x1) b9 ((mW M b2 (M a0 8).toNat x1) a0 8).toNat x2)) Q
  rw [eM_15]
  refine X_aload_n 31 (by decide +kernel : decode cX1_emit 30 = .ok (.aload_n 0, 1)) rfl rfl rfl ?_
  refine X_dup 32 (by decide +kernel : decode cX1_emit 31 = .ok (.dup, 1)) rfl rfl rfl ?_
  refine X_getI 35 (by decide +kernel : decode cX1_emit 32 = .ok (.getfield 43, 3)) rfl rfl (by decide +kernel : aFd 3 43 = some (3, 8, false, false)) g1 ?_
  refine X_iconst 36 (by decide +kernel : decode cX1_emit 35 = .ok (.iconst 1, 1)) rfl rfl ?_
  refine X_iadd 37 (by decide +kernel : decode cX1_emit 36 = .ok (.iadd, 1)) rfl rfl ?_
  refine X_putIz 40 (by decide +kernel : decode cX1_emit 37 = .ok (.putfield 43, 3)) rfl rfl (by decide +kernel : aFd 3 43 = some (3, 8, false, false)) (Or.inl rfl) g17 rfl rfl ?_
  exact k
theorem kX1_emit_40 {o0 : Option Value} {o1 : Option Value} {o2 : Option Value} (q : Q (some none) S (mI M)) : X E d fX1_emit 40 [o0, o1, o2] [] S (mI M) Q := by
  exact X_vret (by decide +kernel : decode cX1_emit 40 = .ok (.return_, 1)) rfl rfl q
theorem kX1_endSum_0 {a0 : Nat} {x1 : Int} {b2 : Nat} (g1 : aKd S a0 = 3) (p3 : aP S a0 6 = some b2) (g5 : aK S b2 = 100) (r6 : R32 x1) (h7 : (0 : Int) ≤ x1 ∧ x1 < (aN S b2 : Int)) (q : Q (some none) S (mI (mW M b2 x1.toNat (M a0 8)))) : X E d fX1_endSum 0 [some (.ref a0), some (J x1)] [] S (mI M) Q := by
  refine X_aload_n 1 (by decide +kernel : decode cX1_endSum 0 = .ok (.aload_n 0, 1)) rfl rfl rfl ?_
  refine X_getR 4 (by decide +kernel : decode cX1_endSum 1 = .ok (.getfield 27, 3)) rfl rfl (by decide +kernel : aFd 3 27 = some (3, 6, true, true)) g1 p3 ?_
  refine X_iload_n 5 (by decide +kernel : decode cX1_endSum 4 = .ok (.iload_n 1, 1)) rfl rfl rfl ?_
  refine X_aload_n 6 (by decide +kernel : decode cX1_endSum 5 = .ok (.aload_n 0, 1)) rfl rfl rfl ?_
  refine X_getI 9 (by decide +kernel : decode cX1_endSum 6 = .ok (.getfield 43, 3)) rfl rfl (by decide +kernel : aFd 3 43 = some (3, 8, false, false)) g1 ?_
  refine X_iast 10 (by decide +kernel : decode cX1_endSum 9 = .ok (.iastore, 1)) rfl rfl g5 r6 h7 ?_
  exact X_vret (by decide +kernel : decode cX1_endSum 10 = .ok (.return_, 1)) rfl rfl q
theorem kX1_endTest_0 {a0 : Nat} {x1 : Int} {b2 : Nat} (g1 : aKd S a0 = 3) (p3 : aP S a0 7 = some b2) (g5 : aK S b2 = 100) (r6 : R32 x1) (h7 : (0 : Int) ≤ x1 ∧ x1 < (aN S b2 : Int)) (q : Q (some none) S (mI (mW M b2 x1.toNat (M a0 8)))) : X E d fX1_endTest 0 [some (.ref a0), some (J x1)] [] S (mI M) Q := by
  refine X_aload_n 1 (by decide +kernel : decode cX1_endTest 0 = .ok (.aload_n 0, 1)) rfl rfl rfl ?_
  refine X_getR 4 (by decide +kernel : decode cX1_endTest 1 = .ok (.getfield 30, 3)) rfl rfl (by decide +kernel : aFd 3 30 = some (3, 7, true, true)) g1 p3 ?_
  refine X_iload_n 5 (by decide +kernel : decode cX1_endTest 4 = .ok (.iload_n 1, 1)) rfl rfl rfl ?_
  refine X_aload_n 6 (by decide +kernel : decode cX1_endTest 5 = .ok (.aload_n 0, 1)) rfl rfl rfl ?_
  refine X_getI 9 (by decide +kernel : decode cX1_endTest 6 = .ok (.getfield 43, 3)) rfl rfl (by decide +kernel : aFd 3 43 = some (3, 8, false, false)) g1 ?_
  refine X_iast 10 (by decide +kernel : decode cX1_endTest 9 = .ok (.iastore, 1)) rfl rfl g5 r6 h7 ?_
  exact X_vret (by decide +kernel : decode cX1_endTest 10 = .ok (.return_, 1)) rfl rfl q
theorem kX4_look_0 {a0 : Nat} {a1 : Nat} {o2 : Option Value} {o3 : Option Value} {o4 : Option Value} {o5 : Option Value} {o6 : Option Value} (g1 : aK S a0 = 6) (k : X E d fX4_look 16 [some (.ref a0), some (.ref a1), some (J 0), some (J 0), some (J 36), some (J 0), o6] [] (aPut S a0 2 (some a1)) (mI M) Q) : X E d fX4_look 0 [some (.ref a0), some (.ref a1), o2, o3, o4, o5, o6] [] S (mI M) Q := by
  refine X_aload_n 1 (by decide +kernel : decode cX4_look 0 = .ok (.aload_n 0, 1)) rfl rfl rfl ?_
  refine X_aload_n 2 (by decide +kernel : decode cX4_look 1 = .ok (.aload_n 1, 1)) rfl rfl rfl ?_
  refine X_putR 5 (by decide +kernel : decode cX4_look 2 = .ok (.putfield 29, 3)) rfl rfl (by decide +kernel : aFd 6 29 = some (6, 2, true, false)) (Or.inl rfl) g1 rfl ?_
  refine X_iconst 6 (by decide +kernel : decode cX4_look 5 = .ok (.iconst 0, 1)) rfl rfl ?_
  refine X_istore_n 7 (by decide +kernel : decode cX4_look 6 = .ok (.istore_n 2, 1)) rfl rfl (Nat.le_of_ble_eq_true rfl) rfl ?_
  refine X_iconst 8 (by decide +kernel : decode cX4_look 7 = .ok (.iconst 0, 1)) rfl rfl ?_
  refine X_istore_n 9 (by decide +kernel : decode cX4_look 8 = .ok (.istore_n 3, 1)) rfl rfl (Nat.le_of_ble_eq_true rfl) rfl ?_
  refine X_bipush 11 (36) (by decide +kernel : decode cX4_look 9 = .ok (.bipush 36, 2)) rfl rfl (by decide +kernel) ?_
  refine X_istore 13 (by decide +kernel : decode cX4_look 11 = .ok (.istore 4, 2)) rfl rfl (Nat.le_of_ble_eq_true rfl) rfl ?_
  refine X_iconst 14 (by decide +kernel : decode cX4_look 13 = .ok (.iconst 0, 1)) rfl rfl ?_
  refine X_istore 16 (by decide +kernel : decode cX4_look 14 = .ok (.istore 5, 2)) rfl rfl (Nat.le_of_ble_eq_true rfl) rfl ?_
  exact k
theorem kX4_look_16 {a0 : Nat} {o1 : Option Value} {o2 : Option Value} {o3 : Option Value} {o4 : Option Value} {x5 : Int} {o6 : Option Value} {b2 : Nat} (g1 : aKd S a0 = 6) (p3 : aP S a0 0 = some b2) (g4 : aKd S b2 = 7) (r5 : R32 x5) (r6 : R32 (M b2 4)) (k1 : (M b2 4) ≤ x5 → X E d fX4_look 131 [some (.ref a0), o1, o2, o3, o4, some (J x5), o6] [] S (mI M) Q) (k2 : x5 < (M b2 4) → X E d fX4_look 28 [some (.ref a0), o1, o2, o3, o4, some (J x5), o6] [] S (mI M) Q) : X E d fX4_look 16 [some (.ref a0), o1, o2, o3, o4, some (J x5), o6] [] S (mI M) Q := by
  refine X_iload 18 (by decide +kernel : decode cX4_look 16 = .ok (.iload 5, 2)) rfl rfl rfl ?_
  refine X_aload_n 19 (by decide +kernel : decode cX4_look 18 = .ok (.aload_n 0, 1)) rfl rfl rfl ?_
  refine X_getR 22 (by decide +kernel : decode cX4_look 19 = .ok (.getfield 21, 3)) rfl rfl (by decide +kernel : aFd 6 21 = some (6, 0, true, true)) g1 p3 ?_
  refine X_getI 25 (by decide +kernel : decode cX4_look 22 = .ok (.getfield 33, 3)) rfl rfl (by decide +kernel : aFd 6 33 = some (7, 4, false, false)) g4 ?_
  exact X_icmpge 131 28 (by decide +kernel : decode cX4_look 25 = .ok (.if_icmp .ge 106, 3)) rfl rfl (by decide) r5 r6 k1 k2
theorem kX4_look_28 {a0 : Nat} {o1 : Option Value} {o2 : Option Value} {o3 : Option Value} {o4 : Option Value} {x5 : Int} {o6 : Option Value} {b3 : Nat} (g1 : aK S a0 = 6) (g2 : aKd S a0 = 6) (p4 : aP S a0 0 = some b3) (hd1 : 1 ≤ d) (k : X E (d - 1) fX5_kindOf 0 [some (.ref b3), some (J x5)] [] S (mI (mW M a0 6 x5)) (Kr E d fX4_look 43 [some (.ref a0), o1, o2, o3, o4, some (J x5), o6] [] Q)) (g5 : aKd S b3 = 7) : X E d fX4_look 28 [some (.ref a0), o1, o2, o3, o4, some (J x5), o6] [] S (mI M) Q := by
  refine X_aload_n 29 (by decide +kernel : decode cX4_look 28 = .ok (.aload_n 0, 1)) rfl rfl rfl ?_
  refine X_iload 31 (by decide +kernel : decode cX4_look 29 = .ok (.iload 5, 2)) rfl rfl rfl ?_
  refine X_putI 34 (by decide +kernel : decode cX4_look 31 = .ok (.putfield 39, 3)) rfl rfl (by decide +kernel : aFd 6 39 = some (6, 6, false, false)) (Or.inl rfl) g1 rfl rfl ?_
  refine X_aload_n 35 (by decide +kernel : decode cX4_look 34 = .ok (.aload_n 0, 1)) rfl rfl rfl ?_
  refine X_getR 38 (by decide +kernel : decode cX4_look 35 = .ok (.getfield 21, 3)) rfl rfl (by decide +kernel : aFd 6 21 = some (6, 0, true, true)) g2 p4 ?_
  refine X_iload 40 (by decide +kernel : decode cX4_look 38 = .ok (.iload 5, 2)) rfl rfl rfl ?_
  exact X_cv (as := [J x5]) (rest := []) (by decide +kernel : decode cX4_look 40 = .ok (.invokevirtual 42, 3)) (Or.inl ⟨rfl, rfl, rfl⟩) rfl rfl rfl rfl rfl (Nat.le_of_ble_eq_true rfl) (Or.inr (Or.inr (by rw [g5]; rfl))) hd1 k
theorem kX4_look_43 {o0 : Option Value} {o1 : Option Value} {o2 : Option Value} {o3 : Option Value} {o4 : Option Value} {o5 : Option Value} {o6 : Option Value} {t0 : Int} (r1 : R32 t0) (k1 : t0 = 12 → X E d fX4_look 66 [o0, o1, o2, o3, o4, o5, some (J t0)] [] S (mI M) Q) (k2 : t0 ≠ 12 → X E d fX4_look 52 [o0, o1, o2, o3, o4, o5, some (J t0)] [] S (mI M) Q) : X E d fX4_look 43 [o0, o1, o2, o3, o4, o5, o6] [J t0] S (mI M) Q := by
  refine X_istore 45 (by decide +kernel : decode cX4_look 43 = .ok (.istore 6, 2)) rfl rfl (Nat.le_of_ble_eq_true rfl) rfl ?_
  refine X_iload 47 (by decide +kernel : decode cX4_look 45 = .ok (.iload 6, 2)) rfl rfl rfl ?_
  refine X_bipush 49 (12) (by decide +kernel : decode cX4_look 47 = .ok (.bipush 12, 2)) rfl rfl (by decide +kernel) ?_
  exact X_icmpeq 66 52 (by decide +kernel : decode cX4_look 49 = .ok (.if_icmp .eq 17, 3)) rfl rfl (by decide) r1 ⟨by decide, by decide⟩ k1 k2
theorem kX4_look_52 {o0 : Option Value} {o1 : Option Value} {o2 : Option Value} {o3 : Option Value} {o4 : Option Value} {o5 : Option Value} {x6 : Int} (r1 : R32 x6) (k1 : x6 = 13 → X E d fX4_look 66 [o0, o1, o2, o3, o4, o5, some (J x6)] [] S (mI M) Q) (k2 : x6 ≠ 13 → X E d fX4_look 59 [o0, o1, o2, o3, o4, o5, some (J x6)] [] S (mI M) Q) : X E d fX4_look 52 [o0, o1, o2, o3, o4, o5, some (J x6)] [] S (mI M) Q := by
  refine X_iload 54 (by decide +kernel : decode cX4_look 52 = .ok (.iload 6, 2)) rfl rfl rfl ?_
  refine X_bipush 56 (13) (by decide +kernel : decode cX4_look 54 = .ok (.bipush 13, 2)) rfl rfl (by decide +kernel) ?_
  exact X_icmpeq 66 59 (by decide +kernel : decode cX4_look 56 = .ok (.if_icmp .eq 10, 3)) rfl rfl (by decide) r1 ⟨by decide, by decide⟩ k1 k2
theorem kX4_look_59 {o0 : Option Value} {o1 : Option Value} {o2 : Option Value} {o3 : Option Value} {o4 : Option Value} {o5 : Option Value} {x6 : Int} (r1 : R32 x6) (k1 : x6 ≠ 15 → X E d fX4_look 84 [o0, o1, o2, o3, o4, o5, some (J x6)] [] S (mI M) Q) (k2 : x6 = 15 → X E d fX4_look 66 [o0, o1, o2, o3, o4, o5, some (J x6)] [] S (mI M) Q) : X E d fX4_look 59 [o0, o1, o2, o3, o4, o5, some (J x6)] [] S (mI M) Q := by
  refine X_iload 61 (by decide +kernel : decode cX4_look 59 = .ok (.iload 6, 2)) rfl rfl rfl ?_
  refine X_bipush 63 (15) (by decide +kernel : decode cX4_look 61 = .ok (.bipush 15, 2)) rfl rfl (by decide +kernel) ?_
  exact X_icmpne 84 66 (by decide +kernel : decode cX4_look 63 = .ok (.if_icmp .ne 21, 3)) rfl rfl (by decide) r1 ⟨by decide, by decide⟩ k1 k2
theorem kX4_look_66 {o0 : Option Value} {o1 : Option Value} {x2 : Int} {o3 : Option Value} {o4 : Option Value} {o5 : Option Value} {o6 : Option Value} (r1 : R32 (x2 + 1)) (k1 : (x2 + 1) ≤ 20 → X E d fX4_look 79 [o0, o1, some (J (x2 + 1)), o3, o4, o5, o6] [] S (mI M) Q) (k2 : 20 < (x2 + 1) → X E d fX4_look 75 [o0, o1, some (J (x2 + 1)), o3, o4, o5, o6] [] S (mI M) Q) : X E d fX4_look 66 [o0, o1, some (J x2), o3, o4, o5, o6] [] S (mI M) Q := by
  refine X_iinc 69 (by decide +kernel : decode cX4_look 66 = .ok (.iinc 2 1, 3)) rfl rfl rfl rfl ?_
  refine X_iload_n 70 (by decide +kernel : decode cX4_look 69 = .ok (.iload_n 2, 1)) rfl rfl rfl ?_
  refine X_bipush 72 (20) (by decide +kernel : decode cX4_look 70 = .ok (.bipush 20, 2)) rfl rfl (by decide +kernel) ?_
  exact X_icmple 79 75 (by decide +kernel : decode cX4_look 72 = .ok (.if_icmp .le 7, 3)) rfl rfl (by decide) r1 ⟨by decide, by decide⟩ k1 k2
theorem kX4_look_75 {o0 : Option Value} {o1 : Option Value} {o2 : Option Value} {o3 : Option Value} {o4 : Option Value} {o5 : Option Value} {o6 : Option Value} (k : X E d fX4_look 80 [o0, o1, o2, o3, o4, o5, o6] [J 4] S (mI M) Q) : X E d fX4_look 75 [o0, o1, o2, o3, o4, o5, o6] [] S (mI M) Q := by
  refine X_iconst 76 (by decide +kernel : decode cX4_look 75 = .ok (.iconst 4, 1)) rfl rfl ?_
  exact X_goto 80 (by decide +kernel : decode cX4_look 76 = .ok (.goto 4, 3)) rfl (by decide) k
theorem kX4_look_79 {o0 : Option Value} {o1 : Option Value} {o2 : Option Value} {o3 : Option Value} {o4 : Option Value} {o5 : Option Value} {o6 : Option Value} (k : X E d fX4_look 80 [o0, o1, o2, o3, o4, o5, o6] [J 0] S (mI M) Q) : X E d fX4_look 79 [o0, o1, o2, o3, o4, o5, o6] [] S (mI M) Q := by
  refine X_iconst 80 (by decide +kernel : decode cX4_look 79 = .ok (.iconst 0, 1)) rfl rfl ?_
  exact k
theorem kX4_look_80 {o0 : Option Value} {o1 : Option Value} {o2 : Option Value} {o3 : Option Value} {o4 : Option Value} {o5 : Option Value} {o6 : Option Value} {t0 : Int} (k : X E d fX4_look 115 [o0, o1, o2, some (J t0), o4, o5, o6] [] S (mI M) Q) : X E d fX4_look 80 [o0, o1, o2, o3, o4, o5, o6] [J t0] S (mI M) Q := by
  refine X_istore_n 81 (by decide +kernel : decode cX4_look 80 = .ok (.istore_n 3, 1)) rfl rfl (Nat.le_of_ble_eq_true rfl) rfl ?_
  exact X_goto 115 (by decide +kernel : decode cX4_look 81 = .ok (.goto 34, 3)) rfl (by decide) k
theorem kX4_look_84 {o0 : Option Value} {o1 : Option Value} {o2 : Option Value} {o3 : Option Value} {o4 : Option Value} {o5 : Option Value} {x6 : Int} (r1 : R32 x6) (k1 : x6 ≠ 47 → X E d fX4_look 101 [o0, o1, o2, o3, o4, o5, some (J x6)] [] S (mI M) Q) (k2 : x6 = 47 → X E d fX4_look 91 [o0, o1, o2, o3, o4, o5, some (J x6)] [] S (mI M) Q) : X E d fX4_look 84 [o0, o1, o2, o3, o4, o5, some (J x6)] [] S (mI M) Q := by
  refine X_iload 86 (by decide +kernel : decode cX4_look 84 = .ok (.iload 6, 2)) rfl rfl rfl ?_
  refine X_bipush 88 (47) (by decide +kernel : decode cX4_look 86 = .ok (.bipush 47, 2)) rfl rfl (by decide +kernel) ?_
  exact X_icmpne 101 91 (by decide +kernel : decode cX4_look 88 = .ok (.if_icmp .ne 13, 3)) rfl rfl (by decide) r1 ⟨by decide, by decide⟩ k1 k2
theorem kX4_look_91 {a0 : Nat} {o1 : Option Value} {o2 : Option Value} {o3 : Option Value} {x4 : Int} {o5 : Option Value} {o6 : Option Value} (hd1 : 1 ≤ d) (k : X E (d - 1) fX4_lookAtName 0 [some (.ref a0), some (J x4)] [] S (mI M) (Kr E d fX4_look 97 [some (.ref a0), o1, o2, o3, some (J x4), o5, o6] [] Q)) (g1 : aKd S a0 = 6) : X E d fX4_look 91 [some (.ref a0), o1, o2, o3, some (J x4), o5, o6] [] S (mI M) Q := by
  refine X_aload_n 92 (by decide +kernel : decode cX4_look 91 = .ok (.aload_n 0, 1)) rfl rfl rfl ?_
  refine X_iload 94 (by decide +kernel : decode cX4_look 92 = .ok (.iload 4, 2)) rfl rfl rfl ?_
  exact X_cv (as := [J x4]) (rest := []) (by decide +kernel : decode cX4_look 94 = .ok (.invokevirtual 46, 3)) (Or.inl ⟨rfl, rfl, rfl⟩) rfl rfl rfl rfl rfl (Nat.le_of_ble_eq_true rfl) (Or.inr (Or.inr (by rw [g1]; rfl))) hd1 k
theorem kX4_look_97 {o0 : Option Value} {o1 : Option Value} {o2 : Option Value} {o3 : Option Value} {o4 : Option Value} {o5 : Option Value} {o6 : Option Value} {t0 : Int} (k : X E d fX4_look 115 [o0, o1, o2, some (J t0), o4, o5, o6] [] S (mI M) Q) : X E d fX4_look 97 [o0, o1, o2, o3, o4, o5, o6] [J t0] S (mI M) Q := by
  refine X_istore_n 98 (by decide +kernel : decode cX4_look 97 = .ok (.istore_n 3, 1)) rfl rfl (Nat.le_of_ble_eq_true rfl) rfl ?_
  exact X_goto 115 (by decide +kernel : decode cX4_look 98 = .ok (.goto 17, 3)) rfl (by decide) k
theorem kX4_look_101 {o0 : Option Value} {o1 : Option Value} {o2 : Option Value} {o3 : Option Value} {o4 : Option Value} {o5 : Option Value} {x6 : Int} (r1 : R32 x6) (k1 : x6 ≠ 48 → X E d fX4_look 115 [o0, o1, o2, o3, o4, o5, some (J x6)] [] S (mI M) Q) (k2 : x6 = 48 → X E d fX4_look 108 [o0, o1, o2, o3, o4, o5, some (J x6)] [] S (mI M) Q) : X E d fX4_look 101 [o0, o1, o2, o3, o4, o5, some (J x6)] [] S (mI M) Q := by
  refine X_iload 103 (by decide +kernel : decode cX4_look 101 = .ok (.iload 6, 2)) rfl rfl rfl ?_
  refine X_bipush 105 (48) (by decide +kernel : decode cX4_look 103 = .ok (.bipush 48, 2)) rfl rfl (by decide +kernel) ?_
  exact X_icmpne 115 108 (by decide +kernel : decode cX4_look 105 = .ok (.if_icmp .ne 10, 3)) rfl rfl (by decide) r1 ⟨by decide, by decide⟩ k1 k2
theorem kX4_look_108 {a0 : Nat} {o1 : Option Value} {o2 : Option Value} {o3 : Option Value} {x4 : Int} {o5 : Option Value} {o6 : Option Value} (hd1 : 1 ≤ d) (k : X E (d - 1) fX4_lookAtNumber 0 [some (.ref a0), some (J x4), none, none] [] S (mI M) (Kr E d fX4_look 114 [some (.ref a0), o1, o2, o3, some (J x4), o5, o6] [] Q)) (g1 : aKd S a0 = 6) : X E d fX4_look 108 [some (.ref a0), o1, o2, o3, some (J x4), o5, o6] [] S (mI M) Q := by
  refine X_aload_n 109 (by decide +kernel : decode cX4_look 108 = .ok (.aload_n 0, 1)) rfl rfl rfl ?_
  refine X_iload 111 (by decide +kernel : decode cX4_look 109 = .ok (.iload 4, 2)) rfl rfl rfl ?_
  exact X_cv (as := [J x4]) (rest := []) (by decide +kernel : decode cX4_look 111 = .ok (.invokevirtual 49, 3)) (Or.inl ⟨rfl, rfl, rfl⟩) rfl rfl rfl rfl rfl (Nat.le_of_ble_eq_true rfl) (Or.inr (Or.inr (by rw [g1]; rfl))) hd1 k
theorem kX4_look_114 {o0 : Option Value} {o1 : Option Value} {o2 : Option Value} {o3 : Option Value} {o4 : Option Value} {o5 : Option Value} {o6 : Option Value} {t0 : Int} (k : X E d fX4_look 115 [o0, o1, o2, some (J t0), o4, o5, o6] [] S (mI M) Q) : X E d fX4_look 114 [o0, o1, o2, o3, o4, o5, o6] [J t0] S (mI M) Q := by
  refine X_istore_n 115 (by decide +kernel : decode cX4_look 114 = .ok (.istore_n 3, 1)) rfl rfl (Nat.le_of_ble_eq_true rfl) rfl ?_
  exact k
theorem kX4_look_115 {o0 : Option Value} {o1 : Option Value} {o2 : Option Value} {x3 : Int} {o4 : Option Value} {o5 : Option Value} {o6 : Option Value} (r1 : R32 x3) (k1 : x3 = 0 → X E d fX4_look 121 [o0, o1, o2, some (J x3), o4, o5, o6] [] S (mI M) Q) (k2 : x3 ≠ 0 → X E d fX4_look 119 [o0, o1, o2, some (J x3), o4, o5, o6] [] S (mI M) Q) : X E d fX4_look 115 [o0, o1, o2, some (J x3), o4, o5, o6] [] S (mI M) Q := by
  refine X_iload_n 116 (by decide +kernel : decode cX4_look 115 = .ok (.iload_n 3, 1)) rfl rfl rfl ?_
  exact X_ifeq 121 119 (by decide +kernel : decode cX4_look 116 = .ok (.ifCond .eq 5, 3)) rfl rfl (by decide) r1 k1 k2
theorem kX4_look_119 {o0 : Option Value} {o1 : Option Value} {o2 : Option Value} {x3 : Int} {o4 : Option Value} {o5 : Option Value} {o6 : Option Value} (q : Q (some (some (J x3))) S (mI M)) : X E d fX4_look 119 [o0, o1, o2, some (J x3), o4, o5, o6] [] S (mI M) Q := by
  refine X_iload_n 120 (by decide +kernel : decode cX4_look 119 = .ok (.iload_n 3, 1)) rfl rfl rfl ?_
  exact X_iret (by decide +kernel : decode cX4_look 120 = .ok (.ireturn, 1)) rfl rfl rfl q
theorem kX4_look_121 {o0 : Option Value} {o1 : Option Value} {o2 : Option Value} {o3 : Option Value} {o4 : Option Value} {x5 : Int} {x6 : Int} (k : X E d fX4_look 16 [o0, o1, o2, o3, some (J x6), some (J (x5 + 1)), some (J x6)] [] S (mI M) Q) : X E d fX4_look 121 [o0, o1, o2, o3, o4, some (J x5), some (J x6)] [] S (mI M) Q := by
  refine X_iload 123 (by decide +kernel : decode cX4_look 121 = .ok (.iload 6, 2)) rfl rfl rfl ?_
  refine X_istore 125 (by decide +kernel : decode cX4_look 123 = .ok (.istore 4, 2)) rfl rfl (Nat.le_of_ble_eq_true rfl) rfl ?_
  refine X_iinc 128 (by decide +kernel : decode cX4_look 125 = .ok (.iinc 5 1, 3)) rfl rfl rfl rfl ?_
  exact X_goto 16 (by decide +kernel : decode cX4_look 128 = .ok (.goto (-112), 3)) rfl (by decide) k
theorem kX4_look_131 {o0 : Option Value} {o1 : Option Value} {o2 : Option Value} {o3 : Option Value} {o4 : Option Value} {o5 : Option Value} {o6 : Option Value} (q : Q (some (some (J 0))) S (mI M)) : X E d fX4_look 131 [o0, o1, o2, o3, o4, o5, o6] [] S (mI M) Q := by
  refine X_iconst 132 (by decide +kernel : decode cX4_look 131 = .ok (.iconst 0, 1)) rfl rfl ?_
  exact X_iret (by decide +kernel : decode cX4_look 132 = .ok (.ireturn, 1)) rfl rfl rfl q
theorem kX4_lookAtName_0 {o0 : Option Value} {x1 : Int} (r1 : R32 x1) (kd : x1 ≠ 0 ∧ x1 ≠ 3 ∧ x1 ≠ 4 ∧ x1 ≠ 6 ∧ x1 ≠ 13 ∧ x1 ≠ 15 ∧ x1 ≠ 20 ∧ x1 ≠ 22 ∧ x1 ≠ 23 ∧ x1 ≠ 25 ∧ x1 ≠ 26 → X E d fX4_lookAtName 162 [o0, some (J x1)] [] S (mI M) Q) (k0 : x1 = 0 → X E d fX4_lookAtName 124 [o0, some (J x1)] [] S (mI M) Q) (k3 : x1 = 3 → X E d fX4_lookAtName 124 [o0, some (J x1)] [] S (mI M) Q) (k4 : x1 = 4 → X E d fX4_lookAtName 146 [o0, some (J x1)] [] S (mI M) Q) (k6 : x1 = 6 → X E d fX4_lookAtName 124 [o0, some (J x1)] [] S (mI M) Q) (k13 : x1 = 13 → X E d fX4_lookAtName 146 [o0, some (J x1)] [] S (mI M) Q) (k15 : x1 = 15 → X E d fX4_lookAtName 130 [o0, some (J x1)] [] S (mI M) Q) (k20 : x1 = 20 → X E d fX4_lookAtName 130 [o0, some (J x1)] [] S (mI M) Q) (k22 : x1 = 22 → X E d fX4_lookAtName 146 [o0, some (J x1)] [] S (mI M) Q) (k23 : x1 = 23 → X E d fX4_lookAtName 146 [o0, some (J x1)] [] S (mI M) Q) (k25 : x1 = 25 → X E d fX4_lookAtName 146 [o0, some (J x1)] [] S (mI M) Q) (k26 : x1 = 26 → X E d fX4_lookAtName 130 [o0, some (J x1)] [] S (mI M) Q) : X E d fX4_lookAtName 0 [o0, some (J x1)] [] S (mI M) Q := by
  refine X_iload_n 1 (by decide +kernel : decode cX4_lookAtName 0 = .ok (.iload_n 1, 1)) rfl rfl rfl ?_
  by_cases hr : x1 < 0 ∨ 26 < x1
  · exact X_tswD 162 (by decide +kernel : decode cX4_lookAtName 1 = .ok (.tableswitch 161 0 26 #[123, 161, 161, 123, 145, 161, 123, 161, 161, 161, 161, 161, 161, 145, 161, 129, 161, 161, 161, 161, 129, 161, 145, 145, 161, 145, 129], 123)) rfl (by decide) r1 hr (kd (by omega))
  · rcases (by omega : x1 = 0 ∨ x1 = 1 ∨ x1 = 2 ∨ x1 = 3 ∨ x1 = 4 ∨ x1 = 5 ∨ x1 = 6 ∨ x1 = 7 ∨ x1 = 8 ∨ x1 = 9 ∨ x1 = 10 ∨ x1 = 11 ∨ x1 = 12 ∨ x1 = 13 ∨ x1 = 14 ∨ x1 = 15 ∨ x1 = 16 ∨ x1 = 17 ∨ x1 = 18 ∨ x1 = 19 ∨ x1 = 20 ∨ x1 = 21 ∨ x1 = 22 ∨ x1 = 23 ∨ x1 = 24 ∨ x1 = 25 ∨ x1 = 26) with h | h | h | h | h | h | h | h | h | h | h | h | h | h | h | h | h | h | h | h | h | h | h | h | h | h | h
    · exact X_tswI 124 0 (by decide +kernel : decode cX4_lookAtName 1 = .ok (.tableswitch 161 0 26 #[123, 161, 161, 123, 145, 161, 123, 161, 161, 161, 161, 161, 161, 145, 161, 129, 161, 161, 161, 161, 129, 161, 145, 145, 161, 145, 129], 123)) rfl rfl (by decide) r1 (h.trans rfl) (by decide) (k0 h)
    · exact X_tswI 162 1 (by decide +kernel : decode cX4_lookAtName 1 = .ok (.tableswitch 161 0 26 #[123, 161, 161, 123, 145, 161, 123, 161, 161, 161, 161, 161, 161, 145, 161, 129, 161, 161, 161, 161, 129, 161, 145, 145, 161, 145, 129], 123)) rfl rfl (by decide) r1 (h.trans rfl) (by decide) (kd (by omega))
    · exact X_tswI 162 2 (by decide +kernel : decode cX4_lookAtName 1 = .ok (.tableswitch 161 0 26 #[123, 161, 161, 123, 145, 161, 123, 161, 161, 161, 161, 161, 161, 145, 161, 129, 161, 161, 161, 161, 129, 161, 145, 145, 161, 145, 129], 123)) rfl rfl (by decide) r1 (h.trans rfl) (by decide) (kd (by omega))
    · exact X_tswI 124 3 (by decide +kernel : decode cX4_lookAtName 1 = .ok (.tableswitch 161 0 26 #[123, 161, 161, 123, 145, 161, 123, 161, 161, 161, 161, 161, 161, 145, 161, 129, 161, 161, 161, 161, 129, 161, 145, 145, 161, 145, 129], 123)) rfl rfl (by decide) r1 (h.trans rfl) (by decide) (k3 h)
    · exact X_tswI 146 4 (by decide +kernel : decode cX4_lookAtName 1 = .ok (.tableswitch 161 0 26 #[123, 161, 161, 123, 145, 161, 123, 161, 161, 161, 161, 161, 161, 145, 161, 129, 161, 161, 161, 161, 129, 161, 145, 145, 161, 145, 129], 123)) rfl rfl (by decide) r1 (h.trans rfl) (by decide) (k4 h)
    · exact X_tswI 162 5 (by decide +kernel : decode cX4_lookAtName 1 = .ok (.tableswitch 161 0 26 #[123, 161, 161, 123, 145, 161, 123, 161, 161, 161, 161, 161, 161, 145, 161, 129, 161, 161, 161, 161, 129, 161, 145, 145, 161, 145, 129], 123)) rfl rfl (by decide) r1 (h.trans rfl) (by decide) (kd (by omega))
    · exact X_tswI 124 6 (by decide +kernel : decode cX4_lookAtName 1 = .ok (.tableswitch 161 0 26 #[123, 161, 161, 123, 145, 161, 123, 161, 161, 161, 161, 161, 161, 145, 161, 129, 161, 161, 161, 161, 129, 161, 145, 145, 161, 145, 129], 123)) rfl rfl (by decide) r1 (h.trans rfl) (by decide) (k6 h)
    · exact X_tswI 162 7 (by decide +kernel : decode cX4_lookAtName 1 = .ok (.tableswitch 161 0 26 #[123, 161, 161, 123, 145, 161, 123, 161, 161, 161, 161, 161, 161, 145, 161, 129, 161, 161, 161, 161, 129, 161, 145, 145, 161, 145, 129], 123)) rfl rfl (by decide) r1 (h.trans rfl) (by decide) (kd (by omega))
    · exact X_tswI 162 8 (by decide +kernel : decode cX4_lookAtName 1 = .ok (.tableswitch 161 0 26 #[123, 161, 161, 123, 145, 161, 123, 161, 161, 161, 161, 161, 161, 145, 161, 129, 161, 161, 161, 161, 129, 161, 145, 145, 161, 145, 129], 123)) rfl rfl (by decide) r1 (h.trans rfl) (by decide) (kd (by omega))
    · exact X_tswI 162 9 (by decide +kernel : decode cX4_lookAtName 1 = .ok (.tableswitch 161 0 26 #[123, 161, 161, 123, 145, 161, 123, 161, 161, 161, 161, 161, 161, 145, 161, 129, 161, 161, 161, 161, 129, 161, 145, 145, 161, 145, 129], 123)) rfl rfl (by decide) r1 (h.trans rfl) (by decide) (kd (by omega))
    · exact X_tswI 162 10 (by decide +kernel : decode cX4_lookAtName 1 = .ok (.tableswitch 161 0 26 #[123, 161, 161, 123, 145, 161, 123, 161, 161, 161, 161, 161, 161, 145, 161, 129, 161, 161, 161, 161, 129, 161, 145, 145, 161, 145, 129], 123)) rfl rfl (by decide) r1 (h.trans rfl) (by decide) (kd (by omega))
    · exact X_tswI 162 11 (by decide +kernel : decode cX4_lookAtName 1 = .ok (.tableswitch 161 0 26 #[123, 161, 161, 123, 145, 161, 123, 161, 161, 161, 161, 161, 161, 145, 161, 129, 161, 161, 161, 161, 129, 161, 145, 145, 161, 145, 129], 123)) rfl rfl (by decide) r1 (h.trans rfl) (by decide) (kd (by omega))
    · exact X_tswI 162 12 (by decide +kernel : decode cX4_lookAtName 1 = .ok (.tableswitch 161 0 26 #[123, 161, 161, 123, 145, 161, 123, 161, 161, 161, 161, 161, 161, 145, 161, 129, 161, 161, 161, 161, 129, 161, 145, 145, 161, 145, 129], 123)) rfl rfl (by decide) r1 (h.trans rfl) (by decide) (kd (by omega))
    · exact X_tswI 146 13 (by decide +kernel : decode cX4_lookAtName 1 = .ok (.tableswitch 161 0 26 #[123, 161, 161, 123, 145, 161, 123, 161, 161, 161, 161, 161, 161, 145, 161, 129, 161, 161, 161, 161, 129, 161, 145, 145, 161, 145, 129], 123)) rfl rfl (by decide) r1 (h.trans rfl) (by decide) (k13 h)
    · exact X_tswI 162 14 (by decide +kernel : decode cX4_lookAtName 1 = .ok (.tableswitch 161 0 26 #[123, 161, 161, 123, 145, 161, 123, 161, 161, 161, 161, 161, 161, 145, 161, 129, 161, 161, 161, 161, 129, 161, 145, 145, 161, 145, 129], 123)) rfl rfl (by decide) r1 (h.trans rfl) (by decide) (kd (by omega))
    · exact X_tswI 130 15 (by decide +kernel : decode cX4_lookAtName 1 = .ok (.tableswitch 161 0 26 #[123, 161, 161, 123, 145, 161, 123, 161, 161, 161, 161, 161, 161, 145, 161, 129, 161, 161, 161, 161, 129, 161, 145, 145, 161, 145, 129], 123)) rfl rfl (by decide) r1 (h.trans rfl) (by decide) (k15 h)
    · exact X_tswI 162 16 (by decide +kernel : decode cX4_lookAtName 1 = .ok (.tableswitch 161 0 26 #[123, 161, 161, 123, 145, 161, 123, 161, 161, 161, 161, 161, 161, 145, 161, 129, 161, 161, 161, 161, 129, 161, 145, 145, 161, 145, 129], 123)) rfl rfl (by decide) r1 (h.trans rfl) (by decide) (kd (by omega))
    · exact X_tswI 162 17 (by decide +kernel : decode cX4_lookAtName 1 = .ok (.tableswitch 161 0 26 #[123, 161, 161, 123, 145, 161, 123, 161, 161, 161, 161, 161, 161, 145, 161, 129, 161, 161, 161, 161, 129, 161, 145, 145, 161, 145, 129], 123)) rfl rfl (by decide) r1 (h.trans rfl) (by decide) (kd (by omega))
    · exact X_tswI 162 18 (by decide +kernel : decode cX4_lookAtName 1 = .ok (.tableswitch 161 0 26 #[123, 161, 161, 123, 145, 161, 123, 161, 161, 161, 161, 161, 161, 145, 161, 129, 161, 161, 161, 161, 129, 161, 145, 145, 161, 145, 129], 123)) rfl rfl (by decide) r1 (h.trans rfl) (by decide) (kd (by omega))
    · exact X_tswI 162 19 (by decide +kernel : decode cX4_lookAtName 1 = .ok (.tableswitch 161 0 26 #[123, 161, 161, 123, 145, 161, 123, 161, 161, 161, 161, 161, 161, 145, 161, 129, 161, 161, 161, 161, 129, 161, 145, 145, 161, 145, 129], 123)) rfl rfl (by decide) r1 (h.trans rfl) (by decide) (kd (by omega))
    · exact X_tswI 130 20 (by decide +kernel : decode cX4_lookAtName 1 = .ok (.tableswitch 161 0 26 #[123, 161, 161, 123, 145, 161, 123, 161, 161, 161, 161, 161, 161, 145, 161, 129, 161, 161, 161, 161, 129, 161, 145, 145, 161, 145, 129], 123)) rfl rfl (by decide) r1 (h.trans rfl) (by decide) (k20 h)
    · exact X_tswI 162 21 (by decide +kernel : decode cX4_lookAtName 1 = .ok (.tableswitch 161 0 26 #[123, 161, 161, 123, 145, 161, 123, 161, 161, 161, 161, 161, 161, 145, 161, 129, 161, 161, 161, 161, 129, 161, 145, 145, 161, 145, 129], 123)) rfl rfl (by decide) r1 (h.trans rfl) (by decide) (kd (by omega))
    · exact X_tswI 146 22 (by decide +kernel : decode cX4_lookAtName 1 = .ok (.tableswitch 161 0 26 #[123, 161, 161, 123, 145, 161, 123, 161, 161, 161, 161, 161, 161, 145, 161, 129, 161, 161, 161, 161, 129, 161, 145, 145, 161, 145, 129], 123)) rfl rfl (by decide) r1 (h.trans rfl) (by decide) (k22 h)
    · exact X_tswI 146 23 (by decide +kernel : decode cX4_lookAtName 1 = .ok (.tableswitch 161 0 26 #[123, 161, 161, 123, 145, 161, 123, 161, 161, 161, 161, 161, 161, 145, 161, 129, 161, 161, 161, 161, 129, 161, 145, 145, 161, 145, 129], 123)) rfl rfl (by decide) r1 (h.trans rfl) (by decide) (k23 h)
    · exact X_tswI 162 24 (by decide +kernel : decode cX4_lookAtName 1 = .ok (.tableswitch 161 0 26 #[123, 161, 161, 123, 145, 161, 123, 161, 161, 161, 161, 161, 161, 145, 161, 129, 161, 161, 161, 161, 129, 161, 145, 145, 161, 145, 129], 123)) rfl rfl (by decide) r1 (h.trans rfl) (by decide) (kd (by omega))
    · exact X_tswI 146 25 (by decide +kernel : decode cX4_lookAtName 1 = .ok (.tableswitch 161 0 26 #[123, 161, 161, 123, 145, 161, 123, 161, 161, 161, 161, 161, 161, 145, 161, 129, 161, 161, 161, 161, 129, 161, 145, 145, 161, 145, 129], 123)) rfl rfl (by decide) r1 (h.trans rfl) (by decide) (k25 h)
    · exact X_tswI 130 26 (by decide +kernel : decode cX4_lookAtName 1 = .ok (.tableswitch 161 0 26 #[123, 161, 161, 123, 145, 161, 123, 161, 161, 161, 161, 161, 161, 145, 161, 129, 161, 161, 161, 161, 129, 161, 145, 145, 161, 145, 129], 123)) rfl rfl (by decide) r1 (h.trans rfl) (by decide) (k26 h)
theorem kX4_lookAtName_124 {a0 : Nat} {x1 : Int} (hd1 : 1 ≤ d) (k : X E (d - 1) fX4_tellName 0 [some (.ref a0), some (J x1), none, none] [] S (mI M) (Kr E d fX4_lookAtName 129 [some (.ref a0), some (J x1)] [] Q)) (g1 : aKd S a0 = 6) : X E d fX4_lookAtName 124 [some (.ref a0), some (J x1)] [] S (mI M) Q := by
  refine X_aload_n 125 (by decide +kernel : decode cX4_lookAtName 124 = .ok (.aload_n 0, 1)) rfl rfl rfl ?_
  refine X_iload_n 126 (by decide +kernel : decode cX4_lookAtName 125 = .ok (.iload_n 1, 1)) rfl rfl rfl ?_
  exact X_cv (as := [J x1]) (rest := []) (by decide +kernel : decode cX4_lookAtName 126 = .ok (.invokevirtual 52, 3)) (Or.inl ⟨rfl, rfl, rfl⟩) rfl rfl rfl rfl rfl (Nat.le_of_ble_eq_true rfl) (Or.inr (Or.inr (by rw [g1]; rfl))) hd1 k
theorem kX4_lookAtName_129 {o0 : Option Value} {o1 : Option Value} {t0 : Int} (q : Q (some (some (J t0))) S (mI M)) : X E d fX4_lookAtName 129 [o0, o1] [J t0] S (mI M) Q := by
  exact X_iret (by decide +kernel : decode cX4_lookAtName 129 = .ok (.ireturn, 1)) rfl rfl rfl q
theorem kX4_lookAtName_130 {a0 : Nat} {o1 : Option Value} {b2 : Nat} {b5 : Nat} (g1 : aKd S a0 = 6) (p3 : aP S a0 3 = some b2) (p6 : aP S a0 2 = some b5) (g7 : aKd S b5 = 5) (hd1 : 1 ≤ d) (k : X E (d - 1) fX4_findName 0 [some (.ref a0), some (.ref b2), some (J (M b5 0)), none] [] S (mI M) (Kr E d fX4_lookAtName 145 [some (.ref a0), o1] [] Q)) : X E d fX4_lookAtName 130 [some (.ref a0), o1] [] S (mI M) Q := by
  refine X_aload_n 131 (by decide +kernel : decode cX4_lookAtName 130 = .ok (.aload_n 0, 1)) rfl rfl rfl ?_
  refine X_aload_n 132 (by decide +kernel : decode cX4_lookAtName 131 = .ok (.aload_n 0, 1)) rfl rfl rfl ?_
  refine X_getR 135 (by decide +kernel : decode cX4_lookAtName 132 = .ok (.getfield 9, 3)) rfl rfl (by decide +kernel : aFd 6 9 = some (6, 3, true, true)) g1 p3 ?_
  refine X_aload_n 136 (by decide +kernel : decode cX4_lookAtName 135 = .ok (.aload_n 0, 1)) rfl rfl rfl ?_
  refine X_getR 139 (by decide +kernel : decode cX4_lookAtName 136 = .ok (.getfield 29, 3)) rfl rfl (by decide +kernel : aFd 6 29 = some (6, 2, true, false)) g1 p6 ?_
  refine X_getI 142 (by decide +kernel : decode cX4_lookAtName 139 = .ok (.getfield 55, 3)) rfl rfl (by decide +kernel : aFd 6 55 = some (5, 0, false, false)) g7 ?_
  exact X_cv (as := [J (M b5 0), .ref b2]) (rest := []) (by decide +kernel : decode cX4_lookAtName 142 = .ok (.invokevirtual 60, 3)) (Or.inl ⟨rfl, rfl, rfl⟩) rfl rfl rfl rfl rfl (Nat.le_of_ble_eq_true rfl) (Or.inr (Or.inr (by rw [g1]; rfl))) hd1 k
theorem kX4_lookAtName_145 {o0 : Option Value} {o1 : Option Value} {t0 : Int} (q : Q (some (some (J t0))) S (mI M)) : X E d fX4_lookAtName 145 [o0, o1] [J t0] S (mI M) Q := by
  exact X_iret (by decide +kernel : decode cX4_lookAtName 145 = .ok (.ireturn, 1)) rfl rfl rfl q
theorem kX4_lookAtName_146 {a0 : Nat} {o1 : Option Value} {b2 : Nat} {b5 : Nat} (g1 : aKd S a0 = 6) (p3 : aP S a0 4 = some b2) (p6 : aP S a0 2 = some b5) (g7 : aKd S b5 = 5) (hd1 : 1 ≤ d) (k : X E (d - 1) fX4_findName 0 [some (.ref a0), some (.ref b2), some (J (M b5 2)), none] [] S (mI M) (Kr E d fX4_lookAtName 161 [some (.ref a0), o1] [] Q)) : X E d fX4_lookAtName 146 [some (.ref a0), o1] [] S (mI M) Q := by
  refine X_aload_n 147 (by decide +kernel : decode cX4_lookAtName 146 = .ok (.aload_n 0, 1)) rfl rfl rfl ?_
  refine X_aload_n 148 (by decide +kernel : decode cX4_lookAtName 147 = .ok (.aload_n 0, 1)) rfl rfl rfl ?_
  refine X_getR 151 (by decide +kernel : decode cX4_lookAtName 148 = .ok (.getfield 15, 3)) rfl rfl (by decide +kernel : aFd 6 15 = some (6, 4, true, true)) g1 p3 ?_
  refine X_aload_n 152 (by decide +kernel : decode cX4_lookAtName 151 = .ok (.aload_n 0, 1)) rfl rfl rfl ?_
  refine X_getR 155 (by decide +kernel : decode cX4_lookAtName 152 = .ok (.getfield 29, 3)) rfl rfl (by decide +kernel : aFd 6 29 = some (6, 2, true, false)) g1 p6 ?_
  refine X_getI 158 (by decide +kernel : decode cX4_lookAtName 155 = .ok (.getfield 64, 3)) rfl rfl (by decide +kernel : aFd 6 64 = some (5, 2, false, false)) g7 ?_
  exact X_cv (as := [J (M b5 2), .ref b2]) (rest := []) (by decide +kernel : decode cX4_lookAtName 158 = .ok (.invokevirtual 60, 3)) (Or.inl ⟨rfl, rfl, rfl⟩) rfl rfl rfl rfl rfl (Nat.le_of_ble_eq_true rfl) (Or.inr (Or.inr (by rw [g1]; rfl))) hd1 k
theorem kX4_lookAtName_161 {o0 : Option Value} {o1 : Option Value} {t0 : Int} (q : Q (some (some (J t0))) S (mI M)) : X E d fX4_lookAtName 161 [o0, o1] [J t0] S (mI M) Q := by
  exact X_iret (by decide +kernel : decode cX4_lookAtName 161 = .ok (.ireturn, 1)) rfl rfl rfl q
theorem kX4_lookAtName_162 {a0 : Nat} {o1 : Option Value} {b2 : Nat} {b5 : Nat} (g1 : aKd S a0 = 6) (p3 : aP S a0 5 = some b2) (p6 : aP S a0 2 = some b5) (g7 : aKd S b5 = 5) (hd1 : 1 ≤ d) (k : X E (d - 1) fX4_findName 0 [some (.ref a0), some (.ref b2), some (J (M b5 3)), none] [] S (mI M) (Kr E d fX4_lookAtName 177 [some (.ref a0), o1] [] Q)) : X E d fX4_lookAtName 162 [some (.ref a0), o1] [] S (mI M) Q := by
  refine X_aload_n 163 (by decide +kernel : decode cX4_lookAtName 162 = .ok (.aload_n 0, 1)) rfl rfl rfl ?_
  refine X_aload_n 164 (by decide +kernel : decode cX4_lookAtName 163 = .ok (.aload_n 0, 1)) rfl rfl rfl ?_
  refine X_getR 167 (by decide +kernel : decode cX4_lookAtName 164 = .ok (.getfield 18, 3)) rfl rfl (by decide +kernel : aFd 6 18 = some (6, 5, true, true)) g1 p3 ?_
  refine X_aload_n 168 (by decide +kernel : decode cX4_lookAtName 167 = .ok (.aload_n 0, 1)) rfl rfl rfl ?_
  refine X_getR 171 (by decide +kernel : decode cX4_lookAtName 168 = .ok (.getfield 29, 3)) rfl rfl (by decide +kernel : aFd 6 29 = some (6, 2, true, false)) g1 p6 ?_
  refine X_getI 174 (by decide +kernel : decode cX4_lookAtName 171 = .ok (.getfield 67, 3)) rfl rfl (by decide +kernel : aFd 6 67 = some (5, 3, false, false)) g7 ?_
  exact X_cv (as := [J (M b5 3), .ref b2]) (rest := []) (by decide +kernel : decode cX4_lookAtName 174 = .ok (.invokevirtual 60, 3)) (Or.inl ⟨rfl, rfl, rfl⟩) rfl rfl rfl rfl rfl (Nat.le_of_ble_eq_true rfl) (Or.inr (Or.inr (by rw [g1]; rfl))) hd1 k
theorem kX4_lookAtName_177 {o0 : Option Value} {o1 : Option Value} {t0 : Int} (q : Q (some (some (J t0))) S (mI M)) : X E d fX4_lookAtName 177 [o0, o1] [J t0] S (mI M) Q := by
  exact X_iret (by decide +kernel : decode cX4_lookAtName 177 = .ok (.ireturn, 1)) rfl rfl rfl q
theorem kX4_tellName_0 {o0 : Option Value} {x1 : Int} {o2 : Option Value} {o3 : Option Value} (r1 : R32 x1) (k1 : x1 ≠ 0 → X E d fX4_tellName 11 [o0, some (J x1), o2, o3] [] S (mI M) Q) (k2 : x1 = 0 → X E d fX4_tellName 4 [o0, some (J x1), o2, o3] [] S (mI M) Q) : X E d fX4_tellName 0 [o0, some (J x1), o2, o3] [] S (mI M) Q := by
  refine X_iload_n 1 (by decide +kernel : decode cX4_tellName 0 = .ok (.iload_n 1, 1)) rfl rfl rfl ?_
  exact X_ifne 11 4 (by decide +kernel : decode cX4_tellName 1 = .ok (.ifCond .ne 10, 3)) rfl rfl (by decide) r1 k1 k2
theorem kX4_tellName_4 {a0 : Nat} {o1 : Option Value} {o2 : Option Value} {o3 : Option Value} {b2 : Nat} (g1 : aKd S a0 = 6) (p3 : aP S a0 3 = some b2) (k : X E d fX4_tellName 27 [some (.ref a0), o1, o2, o3] [.ref b2] S (mI M) Q) : X E d fX4_tellName 4 [some (.ref a0), o1, o2, o3] [] S (mI M) Q := by
  refine X_aload_n 5 (by decide +kernel : decode cX4_tellName 4 = .ok (.aload_n 0, 1)) rfl rfl rfl ?_
  refine X_getR 8 (by decide +kernel : decode cX4_tellName 5 = .ok (.getfield 9, 3)) rfl rfl (by decide +kernel : aFd 6 9 = some (6, 3, true, true)) g1 p3 ?_
  exact X_goto 27 (by decide +kernel : decode cX4_tellName 8 = .ok (.goto 19, 3)) rfl (by decide) k
theorem kX4_tellName_11 {o0 : Option Value} {x1 : Int} {o2 : Option Value} {o3 : Option Value} (r1 : R32 x1) (k1 : x1 ≠ 3 → X E d fX4_tellName 23 [o0, some (J x1), o2, o3] [] S (mI M) Q) (k2 : x1 = 3 → X E d fX4_tellName 16 [o0, some (J x1), o2, o3] [] S (mI M) Q) : X E d fX4_tellName 11 [o0, some (J x1), o2, o3] [] S (mI M) Q := by
  refine X_iload_n 12 (by decide +kernel : decode cX4_tellName 11 = .ok (.iload_n 1, 1)) rfl rfl rfl ?_
  refine X_iconst 13 (by decide +kernel : decode cX4_tellName 12 = .ok (.iconst 3, 1)) rfl rfl ?_
  exact X_icmpne 23 16 (by decide +kernel : decode cX4_tellName 13 = .ok (.if_icmp .ne 10, 3)) rfl rfl (by decide) r1 ⟨by decide, by decide⟩ k1 k2
theorem kX4_tellName_16 {a0 : Nat} {o1 : Option Value} {o2 : Option Value} {o3 : Option Value} {b2 : Nat} (g1 : aKd S a0 = 6) (p3 : aP S a0 4 = some b2) (k : X E d fX4_tellName 27 [some (.ref a0), o1, o2, o3] [.ref b2] S (mI M) Q) : X E d fX4_tellName 16 [some (.ref a0), o1, o2, o3] [] S (mI M) Q := by
  refine X_aload_n 17 (by decide +kernel : decode cX4_tellName 16 = .ok (.aload_n 0, 1)) rfl rfl rfl ?_
  refine X_getR 20 (by decide +kernel : decode cX4_tellName 17 = .ok (.getfield 15, 3)) rfl rfl (by decide +kernel : aFd 6 15 = some (6, 4, true, true)) g1 p3 ?_
  exact X_goto 27 (by decide +kernel : decode cX4_tellName 20 = .ok (.goto 7, 3)) rfl (by decide) k
theorem kX4_tellName_23 {a0 : Nat} {o1 : Option Value} {o2 : Option Value} {o3 : Option Value} {b2 : Nat} (g1 : aKd S a0 = 6) (p3 : aP S a0 5 = some b2) (k : X E d fX4_tellName 27 [some (.ref a0), o1, o2, o3] [.ref b2] S (mI M) Q) : X E d fX4_tellName 23 [some (.ref a0), o1, o2, o3] [] S (mI M) Q := by
  refine X_aload_n 24 (by decide +kernel : decode cX4_tellName 23 = .ok (.aload_n 0, 1)) rfl rfl rfl ?_
  refine X_getR 27 (by decide +kernel : decode cX4_tellName 24 = .ok (.getfield 18, 3)) rfl rfl (by decide +kernel : aFd 6 18 = some (6, 5, true, true)) g1 p3 ?_
  exact k
theorem kX4_tellName_27 {o0 : Option Value} {x1 : Int} {o2 : Option Value} {o3 : Option Value} {u0 : Nat} (r1 : R32 x1) (k1 : x1 ≠ 0 → X E d fX4_tellName 42 [o0, some (J x1), some (.ref u0), o3] [] S (mI M) Q) (k2 : x1 = 0 → X E d fX4_tellName 32 [o0, some (J x1), some (.ref u0), o3] [] S (mI M) Q) : X E d fX4_tellName 27 [o0, some (J x1), o2, o3] [.ref u0] S (mI M) Q := by
  refine X_astore_n 28 (by decide +kernel : decode cX4_tellName 27 = .ok (.astore_n 2, 1)) rfl rfl (Nat.le_of_ble_eq_true rfl) rfl ?_
  refine X_iload_n 29 (by decide +kernel : decode cX4_tellName 28 = .ok (.iload_n 1, 1)) rfl rfl rfl ?_
  exact X_ifne 42 32 (by decide +kernel : decode cX4_tellName 29 = .ok (.ifCond .ne 13, 3)) rfl rfl (by decide) r1 k1 k2
theorem kX4_tellName_32 {a0 : Nat} {o1 : Option Value} {o2 : Option Value} {o3 : Option Value} {b2 : Nat} (g1 : aKd S a0 = 6) (p3 : aP S a0 2 = some b2) (g4 : aKd S b2 = 5) (k : X E d fX4_tellName 64 [some (.ref a0), o1, o2, o3] [J (M b2 0)] S (mI M) Q) : X E d fX4_tellName 32 [some (.ref a0), o1, o2, o3] [] S (mI M) Q := by
  refine X_aload_n 33 (by decide +kernel : decode cX4_tellName 32 = .ok (.aload_n 0, 1)) rfl rfl rfl ?_
  refine X_getR 36 (by decide +kernel : decode cX4_tellName 33 = .ok (.getfield 29, 3)) rfl rfl (by decide +kernel : aFd 6 29 = some (6, 2, true, false)) g1 p3 ?_
  refine X_getI 39 (by decide +kernel : decode cX4_tellName 36 = .ok (.getfield 55, 3)) rfl rfl (by decide +kernel : aFd 6 55 = some (5, 0, false, false)) g4 ?_
  exact X_goto 64 (by decide +kernel : decode cX4_tellName 39 = .ok (.goto 25, 3)) rfl (by decide) k
theorem kX4_tellName_42 {o0 : Option Value} {x1 : Int} {o2 : Option Value} {o3 : Option Value} (r1 : R32 x1) (k1 : x1 ≠ 3 → X E d fX4_tellName 57 [o0, some (J x1), o2, o3] [] S (mI M) Q) (k2 : x1 = 3 → X E d fX4_tellName 47 [o0, some (J x1), o2, o3] [] S (mI M) Q) : X E d fX4_tellName 42 [o0, some (J x1), o2, o3] [] S (mI M) Q := by
  refine X_iload_n 43 (by decide +kernel : decode cX4_tellName 42 = .ok (.iload_n 1, 1)) rfl rfl rfl ?_
  refine X_iconst 44 (by decide +kernel : decode cX4_tellName 43 = .ok (.iconst 3, 1)) rfl rfl ?_
  exact X_icmpne 57 47 (by decide +kernel : decode cX4_tellName 44 = .ok (.if_icmp .ne 13, 3)) rfl rfl (by decide) r1 ⟨by decide, by decide⟩ k1 k2
theorem kX4_tellName_47 {a0 : Nat} {o1 : Option Value} {o2 : Option Value} {o3 : Option Value} {b2 : Nat} (g1 : aKd S a0 = 6) (p3 : aP S a0 2 = some b2) (g4 : aKd S b2 = 5) (k : X E d fX4_tellName 64 [some (.ref a0), o1, o2, o3] [J (M b2 2)] S (mI M) Q) : X E d fX4_tellName 47 [some (.ref a0), o1, o2, o3] [] S (mI M) Q := by
  refine X_aload_n 48 (by decide +kernel : decode cX4_tellName 47 = .ok (.aload_n 0, 1)) rfl rfl rfl ?_
  refine X_getR 51 (by decide +kernel : decode cX4_tellName 48 = .ok (.getfield 29, 3)) rfl rfl (by decide +kernel : aFd 6 29 = some (6, 2, true, false)) g1 p3 ?_
  refine X_getI 54 (by decide +kernel : decode cX4_tellName 51 = .ok (.getfield 64, 3)) rfl rfl (by decide +kernel : aFd 6 64 = some (5, 2, false, false)) g4 ?_
  exact X_goto 64 (by decide +kernel : decode cX4_tellName 54 = .ok (.goto 10, 3)) rfl (by decide) k
theorem kX4_tellName_57 {a0 : Nat} {o1 : Option Value} {o2 : Option Value} {o3 : Option Value} {b2 : Nat} (g1 : aKd S a0 = 6) (p3 : aP S a0 2 = some b2) (g4 : aKd S b2 = 5) (k : X E d fX4_tellName 64 [some (.ref a0), o1, o2, o3] [J (M b2 3)] S (mI M) Q) : X E d fX4_tellName 57 [some (.ref a0), o1, o2, o3] [] S (mI M) Q := by
  refine X_aload_n 58 (by decide +kernel : decode cX4_tellName 57 = .ok (.aload_n 0, 1)) rfl rfl rfl ?_
  refine X_getR 61 (by decide +kernel : decode cX4_tellName 58 = .ok (.getfield 29, 3)) rfl rfl (by decide +kernel : aFd 6 29 = some (6, 2, true, false)) g1 p3 ?_
  refine X_getI 64 (by decide +kernel : decode cX4_tellName 61 = .ok (.getfield 67, 3)) rfl rfl (by decide +kernel : aFd 6 67 = some (5, 3, false, false)) g4 ?_
  exact k
theorem kX4_tellName_64 {a0 : Nat} {o1 : Option Value} {a2 : Nat} {o3 : Option Value} {t0 : Int} (hd1 : 1 ≤ d) (k : X E (d - 1) fX4_numberOfName 0 [some (.ref a0), some (.ref a2), some (J t0), none] [] S (mI M) (Kr E d fX4_tellName 71 [some (.ref a0), o1, some (.ref a2), some (J t0)] [] Q)) (g1 : aKd S a0 = 6) : X E d fX4_tellName 64 [some (.ref a0), o1, some (.ref a2), o3] [J t0] S (mI M) Q := by
  refine X_istore_n 65 (by decide +kernel : decode cX4_tellName 64 = .ok (.istore_n 3, 1)) rfl rfl (Nat.le_of_ble_eq_true rfl) rfl ?_
  refine X_aload_n 66 (by decide +kernel : decode cX4_tellName 65 = .ok (.aload_n 0, 1)) rfl rfl rfl ?_
  refine X_aload_n 67 (by decide +kernel : decode cX4_tellName 66 = .ok (.aload_n 2, 1)) rfl rfl rfl ?_
  refine X_iload_n 68 (by decide +kernel : decode cX4_tellName 67 = .ok (.iload_n 3, 1)) rfl rfl rfl ?_
  exact X_cv (as := [J t0, .ref a2]) (rest := []) (by decide +kernel : decode cX4_tellName 68 = .ok (.invokevirtual 70, 3)) (Or.inl ⟨rfl, rfl, rfl⟩) rfl rfl rfl rfl rfl (Nat.le_of_ble_eq_true rfl) (Or.inr (Or.inr (by rw [g1]; rfl))) hd1 k
theorem kX4_tellName_71 {o0 : Option Value} {o1 : Option Value} {o2 : Option Value} {o3 : Option Value} {t0 : Int} (r1 : R32 t0) (k1 : t0 = (-1) → X E d fX4_tellName 77 [o0, o1, o2, o3] [] S (mI M) Q) (k2 : t0 ≠ (-1) → X E d fX4_tellName 75 [o0, o1, o2, o3] [] S (mI M) Q) : X E d fX4_tellName 71 [o0, o1, o2, o3] [J t0] S (mI M) Q := by
  refine X_iconst 72 (by decide +kernel : decode cX4_tellName 71 = .ok (.iconst (-1), 1)) rfl rfl ?_
  exact X_icmpeq 77 75 (by decide +kernel : decode cX4_tellName 72 = .ok (.if_icmp .eq 5, 3)) rfl rfl (by decide) r1 ⟨by decide, by decide⟩ k1 k2
theorem kX4_tellName_75 {o0 : Option Value} {o1 : Option Value} {o2 : Option Value} {o3 : Option Value} (q : Q (some (some (J 2))) S (mI M)) : X E d fX4_tellName 75 [o0, o1, o2, o3] [] S (mI M) Q := by
  refine X_iconst 76 (by decide +kernel : decode cX4_tellName 75 = .ok (.iconst 2, 1)) rfl rfl ?_
  exact X_iret (by decide +kernel : decode cX4_tellName 76 = .ok (.ireturn, 1)) rfl rfl rfl q
theorem kX4_tellName_77 {o0 : Option Value} {o1 : Option Value} {a2 : Nat} {x3 : Int} (g1 : aKd S a2 = 100 ∨ aKd S a2 = 101 ∨ aKd S a2 = 102) (r2 : R32 x3) (r3 : R32 ((aN S a2 : Int))) (k1 : x3 < (aN S a2 : Int) → X E d fX4_tellName 85 [o0, o1, some (.ref a2), some (J x3)] [] S (mI M) Q) (k2 : (aN S a2 : Int) ≤ x3 → X E d fX4_tellName 83 [o0, o1, some (.ref a2), some (J x3)] [] S (mI M) Q) : X E d fX4_tellName 77 [o0, o1, some (.ref a2), some (J x3)] [] S (mI M) Q := by
  refine X_iload_n 78 (by decide +kernel : decode cX4_tellName 77 = .ok (.iload_n 3, 1)) rfl rfl rfl ?_
  refine X_aload_n 79 (by decide +kernel : decode cX4_tellName 78 = .ok (.aload_n 2, 1)) rfl rfl rfl ?_
  refine X_alen 80 (by decide +kernel : decode cX4_tellName 79 = .ok (.arraylength, 1)) rfl rfl g1 ?_
  exact X_icmplt 85 83 (by decide +kernel : decode cX4_tellName 80 = .ok (.if_icmp .lt 5, 3)) rfl rfl (by decide) r2 r3 k1 k2
theorem kX4_tellName_83 {o0 : Option Value} {o1 : Option Value} {o2 : Option Value} {o3 : Option Value} (q : Q (some (some (J 4))) S (mI M)) : X E d fX4_tellName 83 [o0, o1, o2, o3] [] S (mI M) Q := by
  refine X_iconst 84 (by decide +kernel : decode cX4_tellName 83 = .ok (.iconst 4, 1)) rfl rfl ?_
  exact X_iret (by decide +kernel : decode cX4_tellName 84 = .ok (.ireturn, 1)) rfl rfl rfl q
theorem kX4_tellName_85 {a0 : Nat} {x1 : Int} {a2 : Nat} {x3 : Int} (g1 : aKd S a0 = 6) (g2 : aK S a2 = 100) (r3 : R32 x3) (h4 : (0 : Int) ≤ x3 ∧ x3 < (aN S a2 : Int)) (r5 : R32 x1) (k1 : x1 ≠ 0 → X E d fX4_tellName 112 [some (.ref a0), some (J x1), some (.ref a2), some (J x3)] [] S (mI (mW M a2 x3.toNat (M a0 6))) Q) (k2 : x1 = 0 → X E d fX4_tellName 96 [some (.ref a0), some (J x1), some (.ref a2), some (J x3)] [] S (mI (mW M a2 x3.toNat (M a0 6))) Q) : X E d fX4_tellName 85 [some (.ref a0), some (J x1), some (.ref a2), some (J x3)] [] S (mI M) Q := by
  refine X_aload_n 86 (by decide +kernel : decode cX4_tellName 85 = .ok (.aload_n 2, 1)) rfl rfl rfl ?_
  refine X_iload_n 87 (by decide +kernel : decode cX4_tellName 86 = .ok (.iload_n 3, 1)) rfl rfl rfl ?_
  refine X_aload_n 88 (by decide +kernel : decode cX4_tellName 87 = .ok (.aload_n 0, 1)) rfl rfl rfl ?_
  refine X_getI 91 (by decide +kernel : decode cX4_tellName 88 = .ok (.getfield 39, 3)) rfl rfl (by decide +kernel : aFd 6 39 = some (6, 6, false, false)) g1 ?_
  refine X_iast 92 (by decide +kernel : decode cX4_tellName 91 = .ok (.iastore, 1)) rfl rfl g2 r3 h4 ?_
  refine X_iload_n 93 (by decide +kernel : decode cX4_tellName 92 = .ok (.iload_n 1, 1)) rfl rfl rfl ?_
  exact X_ifne 112 96 (by decide +kernel : decode cX4_tellName 93 = .ok (.ifCond .ne 19, 3)) rfl rfl (by decide) r5 k1 k2
theorem kX4_tellName_96 {a0 : Nat} {o1 : Option Value} {o2 : Option Value} {o3 : Option Value} {b2 : Nat} (g1 : aKd S a0 = 6) (p3 : aP S a0 2 = some b2) (g4 : aKd S b2 = 5) (g5 : aK S b2 = 5) (k : X E d fX4_tellName 146 [some (.ref a0), o1, o2, o3] [] S (mI (mW M b2 0 (nz ((M b2 0) + 1)))) Q) : X E d fX4_tellName 96 [some (.ref a0), o1, o2, o3] [] S (mI M) Q := by
  refine X_aload_n 97 (by decide +kernel : decode cX4_tellName 96 = .ok (.aload_n 0, 1)) rfl rfl rfl ?_
  refine X_getR 100 (by decide +kernel : decode cX4_tellName 97 = .ok (.getfield 29, 3)) rfl rfl (by decide +kernel : aFd 6 29 = some (6, 2, true, false)) g1 p3 ?_
  refine X_dup 101 (by decide +kernel : decode cX4_tellName 100 = .ok (.dup, 1)) rfl rfl rfl ?_
  refine X_getI 104 (by decide +kernel : decode cX4_tellName 101 = .ok (.getfield 55, 3)) rfl rfl (by decide +kernel : aFd 6 55 = some (5, 0, false, false)) g4 ?_
  refine X_iconst 105 (by decide +kernel : decode cX4_tellName 104 = .ok (.iconst 1, 1)) rfl rfl ?_
  refine X_iadd 106 (by decide +kernel : decode cX4_tellName 105 = .ok (.iadd, 1)) rfl rfl ?_
  refine X_putIz 109 (by decide +kernel : decode cX4_tellName 106 = .ok (.putfield 55, 3)) rfl rfl (by decide +kernel : aFd 6 55 = some (5, 0, false, false)) (Or.inl rfl) g5 rfl rfl ?_
  exact X_goto 146 (by decide +kernel : decode cX4_tellName 109 = .ok (.goto 37, 3)) rfl (by decide) k
theorem kX4_tellName_112 {o0 : Option Value} {x1 : Int} {o2 : Option Value} {o3 : Option Value} (r1 : R32 x1) (k1 : x1 ≠ 3 → X E d fX4_tellName 133 [o0, some (J x1), o2, o3] [] S (mI M) Q) (k2 : x1 = 3 → X E d fX4_tellName 117 [o0, some (J x1), o2, o3] [] S (mI M) Q) : X E d fX4_tellName 112 [o0, some (J x1), o2, o3] [] S (mI M) Q := by
  refine X_iload_n 113 (by decide +kernel : decode cX4_tellName 112 = .ok (.iload_n 1, 1)) rfl rfl rfl ?_
  refine X_iconst 114 (by decide +kernel : decode cX4_tellName 113 = .ok (.iconst 3, 1)) rfl rfl ?_
  exact X_icmpne 133 117 (by decide +kernel : decode cX4_tellName 114 = .ok (.if_icmp .ne 19, 3)) rfl rfl (by decide) r1 ⟨by decide, by decide⟩ k1 k2
theorem kX4_tellName_117 {a0 : Nat} {o1 : Option Value} {o2 : Option Value} {o3 : Option Value} {b2 : Nat} (g1 : aKd S a0 = 6) (p3 : aP S a0 2 = some b2) (g4 : aKd S b2 = 5) (g5 : aK S b2 = 5) (k : X E d fX4_tellName 146 [some (.ref a0), o1, o2, o3] [] S (mI (mW M b2 2 (nz ((M b2 2) + 1)))) Q) : X E d fX4_tellName 117 [some (.ref a0), o1, o2, o3] [] S (mI M) Q := by
  refine X_aload_n 118 (by decide +kernel : decode cX4_tellName 117 = .ok (.aload_n 0, 1)) rfl rfl rfl ?_
  refine X_getR 121 (by decide +kernel : decode cX4_tellName 118 = .ok (.getfield 29, 3)) rfl rfl (by decide +kernel : aFd 6 29 = some (6, 2, true, false)) g1 p3 ?_
  refine X_dup 122 (by decide +kernel : decode cX4_tellName 121 = .ok (.dup, 1)) rfl rfl rfl ?_
  refine X_getI 125 (by decide +kernel : decode cX4_tellName 122 = .ok (.getfield 64, 3)) rfl rfl (by decide +kernel : aFd 6 64 = some (5, 2, false, false)) g4 ?_
  refine X_iconst 126 (by decide +kernel : decode cX4_tellName 125 = .ok (.iconst 1, 1)) rfl rfl ?_
  refine X_iadd 127 (by decide +kernel : decode cX4_tellName 126 = .ok (.iadd, 1)) rfl rfl ?_
  refine X_putIz 130 (by decide +kernel : decode cX4_tellName 127 = .ok (.putfield 64, 3)) rfl rfl (by decide +kernel : aFd 6 64 = some (5, 2, false, false)) (Or.inl rfl) g5 rfl rfl ?_
  exact X_goto 146 (by decide +kernel : decode cX4_tellName 130 = .ok (.goto 16, 3)) rfl (by decide) k
theorem kX4_tellName_133 {a0 : Nat} {o1 : Option Value} {o2 : Option Value} {o3 : Option Value} {b2 : Nat} (g1 : aKd S a0 = 6) (p3 : aP S a0 2 = some b2) (g4 : aKd S b2 = 5) (g5 : aK S b2 = 5) (k : X E d fX4_tellName 146 [some (.ref a0), o1, o2, o3] [] S (mI (mW M b2 3 (nz ((M b2 3) + 1)))) Q) : X E d fX4_tellName 133 [some (.ref a0), o1, o2, o3] [] S (mI M) Q := by
  refine X_aload_n 134 (by decide +kernel : decode cX4_tellName 133 = .ok (.aload_n 0, 1)) rfl rfl rfl ?_
  refine X_getR 137 (by decide +kernel : decode cX4_tellName 134 = .ok (.getfield 29, 3)) rfl rfl (by decide +kernel : aFd 6 29 = some (6, 2, true, false)) g1 p3 ?_
  refine X_dup 138 (by decide +kernel : decode cX4_tellName 137 = .ok (.dup, 1)) rfl rfl rfl ?_
  refine X_getI 141 (by decide +kernel : decode cX4_tellName 138 = .ok (.getfield 67, 3)) rfl rfl (by decide +kernel : aFd 6 67 = some (5, 3, false, false)) g4 ?_
  refine X_iconst 142 (by decide +kernel : decode cX4_tellName 141 = .ok (.iconst 1, 1)) rfl rfl ?_
  refine X_iadd 143 (by decide +kernel : decode cX4_tellName 142 = .ok (.iadd, 1)) rfl rfl ?_
  refine X_putIz 146 (by decide +kernel : decode cX4_tellName 143 = .ok (.putfield 67, 3)) rfl rfl (by decide +kernel : aFd 6 67 = some (5, 3, false, false)) (Or.inl rfl) g5 rfl rfl ?_
  exact k
theorem kX4_tellName_146 {o0 : Option Value} {o1 : Option Value} {o2 : Option Value} {o3 : Option Value} (q : Q (some (some (J 0))) S (mI M)) : X E d fX4_tellName 146 [o0, o1, o2, o3] [] S (mI M) Q := by
  refine X_iconst 147 (by decide +kernel : decode cX4_tellName 146 = .ok (.iconst 0, 1)) rfl rfl ?_
  exact X_iret (by decide +kernel : decode cX4_tellName 147 = .ok (.ireturn, 1)) rfl rfl rfl q
theorem kX4_numberOfName_0 {o0 : Option Value} {o1 : Option Value} {o2 : Option Value} {o3 : Option Value} (k : X E d fX4_numberOfName 2 [o0, o1, o2, some (J 0)] [] S (mI M) Q) : X E d fX4_numberOfName 0 [o0, o1, o2, o3] [] S (mI M) Q := by
  refine X_iconst 1 (by decide +kernel : decode cX4_numberOfName 0 = .ok (.iconst 0, 1)) rfl rfl ?_
  refine X_istore_n 2 (by decide +kernel : decode cX4_numberOfName 1 = .ok (.istore_n 3, 1)) rfl rfl (Nat.le_of_ble_eq_true rfl) rfl ?_
  exact k
theorem kX4_numberOfName_2 {o0 : Option Value} {o1 : Option Value} {x2 : Int} {x3 : Int} (r1 : R32 x3) (r2 : R32 x2) (k1 : x2 ≤ x3 → X E d fX4_numberOfName 35 [o0, o1, some (J x2), some (J x3)] [] S (mI M) Q) (k2 : x3 < x2 → X E d fX4_numberOfName 7 [o0, o1, some (J x2), some (J x3)] [] S (mI M) Q) : X E d fX4_numberOfName 2 [o0, o1, some (J x2), some (J x3)] [] S (mI M) Q := by
  refine X_iload_n 3 (by decide +kernel : decode cX4_numberOfName 2 = .ok (.iload_n 3, 1)) rfl rfl rfl ?_
  refine X_iload_n 4 (by decide +kernel : decode cX4_numberOfName 3 = .ok (.iload_n 2, 1)) rfl rfl rfl ?_
  exact X_icmpge 35 7 (by decide +kernel : decode cX4_numberOfName 4 = .ok (.if_icmp .ge 31, 3)) rfl rfl (by decide) r1 r2 k1 k2
theorem kX4_numberOfName_7 {o0 : Option Value} {a1 : Nat} {o2 : Option Value} {x3 : Int} (g1 : aKd S a1 = 100 ∨ aKd S a1 = 101 ∨ aKd S a1 = 102) (r2 : R32 x3) (r3 : R32 ((aN S a1 : Int))) (k1 : (aN S a1 : Int) ≤ x3 → X E d fX4_numberOfName 35 [o0, some (.ref a1), o2, some (J x3)] [] S (mI M) Q) (k2 : x3 < (aN S a1 : Int) → X E d fX4_numberOfName 13 [o0, some (.ref a1), o2, some (J x3)] [] S (mI M) Q) : X E d fX4_numberOfName 7 [o0, some (.ref a1), o2, some (J x3)] [] S (mI M) Q := by
  refine X_iload_n 8 (by decide +kernel : decode cX4_numberOfName 7 = .ok (.iload_n 3, 1)) rfl rfl rfl ?_
  refine X_aload_n 9 (by decide +kernel : decode cX4_numberOfName 8 = .ok (.aload_n 1, 1)) rfl rfl rfl ?_
  refine X_alen 10 (by decide +kernel : decode cX4_numberOfName 9 = .ok (.arraylength, 1)) rfl rfl g1 ?_
  exact X_icmpge 35 13 (by decide +kernel : decode cX4_numberOfName 10 = .ok (.if_icmp .ge 25, 3)) rfl rfl (by decide) r2 r3 k1 k2
theorem kX4_numberOfName_13 {a0 : Nat} {a1 : Nat} {o2 : Option Value} {x3 : Int} (g1 : aKd S a1 = 100) (r2 : R32 x3) (h3 : (0 : Int) ≤ x3 ∧ x3 < (aN S a1 : Int)) (g4 : aKd S a0 = 6) (hd1 : 1 ≤ d) (k : X E (d - 1) fX4_isSameName 0 [some (.ref a0), some (J (M a1 x3.toNat)), some (J (M a0 6)), none, none, none] [] S (mI M) (Kr E d fX4_numberOfName 24 [some (.ref a0), some (.ref a1), o2, some (J x3)] [] Q)) : X E d fX4_numberOfName 13 [some (.ref a0), some (.ref a1), o2, some (J x3)] [] S (mI M) Q := by
  refine X_aload_n 14 (by decide +kernel : decode cX4_numberOfName 13 = .ok (.aload_n 0, 1)) rfl rfl rfl ?_
  refine X_aload_n 15 (by decide +kernel : decode cX4_numberOfName 14 = .ok (.aload_n 1, 1)) rfl rfl rfl ?_
  refine X_iload_n 16 (by decide +kernel : decode cX4_numberOfName 15 = .ok (.iload_n 3, 1)) rfl rfl rfl ?_
  refine X_iald 17 (by decide +kernel : decode cX4_numberOfName 16 = .ok (.iaload, 1)) rfl rfl g1 r2 h3 ?_
  refine X_aload_n 18 (by decide +kernel : decode cX4_numberOfName 17 = .ok (.aload_n 0, 1)) rfl rfl rfl ?_
  refine X_getI 21 (by decide +kernel : decode cX4_numberOfName 18 = .ok (.getfield 39, 3)) rfl rfl (by decide +kernel : aFd 6 39 = some (6, 6, false, false)) g4 ?_
  exact X_cv (as := [J (M a0 6), J (M a1 x3.toNat)]) (rest := []) (by decide +kernel : decode cX4_numberOfName 21 = .ok (.invokevirtual 76, 3)) (Or.inl ⟨rfl, rfl, rfl⟩) rfl rfl rfl rfl rfl (Nat.le_of_ble_eq_true rfl) (Or.inr (Or.inr (by rw [g4]; rfl))) hd1 k
theorem kX4_numberOfName_24 {o0 : Option Value} {o1 : Option Value} {o2 : Option Value} {o3 : Option Value} {t0 : Int} (r1 : R32 t0) (k1 : t0 = 0 → X E d fX4_numberOfName 29 [o0, o1, o2, o3] [] S (mI M) Q) (k2 : t0 ≠ 0 → X E d fX4_numberOfName 27 [o0, o1, o2, o3] [] S (mI M) Q) : X E d fX4_numberOfName 24 [o0, o1, o2, o3] [J t0] S (mI M) Q := by
  exact X_ifeq 29 27 (by decide +kernel : decode cX4_numberOfName 24 = .ok (.ifCond .eq 5, 3)) rfl rfl (by decide) r1 k1 k2
theorem kX4_numberOfName_27 {o0 : Option Value} {o1 : Option Value} {o2 : Option Value} {x3 : Int} (q : Q (some (some (J x3))) S (mI M)) : X E d fX4_numberOfName 27 [o0, o1, o2, some (J x3)] [] S (mI M) Q := by
  refine X_iload_n 28 (by decide +kernel : decode cX4_numberOfName 27 = .ok (.iload_n 3, 1)) rfl rfl rfl ?_
  exact X_iret (by decide +kernel : decode cX4_numberOfName 28 = .ok (.ireturn, 1)) rfl rfl rfl q
theorem kX4_numberOfName_29 {o0 : Option Value} {o1 : Option Value} {o2 : Option Value} {x3 : Int} (k : X E d fX4_numberOfName 2 [o0, o1, o2, some (J (x3 + 1))] [] S (mI M) Q) : X E d fX4_numberOfName 29 [o0, o1, o2, some (J x3)] [] S (mI M) Q := by
  refine X_iinc 32 (by decide +kernel : decode cX4_numberOfName 29 = .ok (.iinc 3 1, 3)) rfl rfl rfl rfl ?_
  exact X_goto 2 (by decide +kernel : decode cX4_numberOfName 32 = .ok (.goto (-30), 3)) rfl (by decide) k
theorem kX4_numberOfName_35 {o0 : Option Value} {o1 : Option Value} {o2 : Option Value} {o3 : Option Value} (q : Q (some (some (J (-1)))) S (mI M)) : X E d fX4_numberOfName 35 [o0, o1, o2, o3] [] S (mI M) Q := by
  refine X_iconst 36 (by decide +kernel : decode cX4_numberOfName 35 = .ok (.iconst (-1), 1)) rfl rfl ?_
  exact X_iret (by decide +kernel : decode cX4_numberOfName 36 = .ok (.ireturn, 1)) rfl rfl rfl q
theorem kX4_isSameName_0 {a0 : Nat} {x1 : Int} {o2 : Option Value} {o3 : Option Value} {o4 : Option Value} {o5 : Option Value} {b2 : Nat} {b5 : Nat} (g1 : aKd S a0 = 6) (p3 : aP S a0 0 = some b2) (g4 : aKd S b2 = 7) (p6 : aP S b2 2 = some b5) (hd1 : 1 ≤ d) (k : X E (d - 1) fX7_valueAt 0 [some (.ref b5), some (J x1)] [] S (mI M) (Kr E d fX4_isSameName 11 [some (.ref a0), some (J x1), o2, o3, o4, o5] [] Q)) : X E d fX4_isSameName 0 [some (.ref a0), some (J x1), o2, o3, o4, o5] [] S (mI M) Q := by
  refine X_aload_n 1 (by decide +kernel : decode cX4_isSameName 0 = .ok (.aload_n 0, 1)) rfl rfl rfl ?_
  refine X_getR 4 (by decide +kernel : decode cX4_isSameName 1 = .ok (.getfield 21, 3)) rfl rfl (by decide +kernel : aFd 6 21 = some (6, 0, true, true)) g1 p3 ?_
  refine X_getR 7 (by decide +kernel : decode cX4_isSameName 4 = .ok (.getfield 80, 3)) rfl rfl (by decide +kernel : aFd 6 80 = some (7, 2, true, true)) g4 p6 ?_
  refine X_iload_n 8 (by decide +kernel : decode cX4_isSameName 7 = .ok (.iload_n 1, 1)) rfl rfl rfl ?_
  exact X_cs (as := [J x1, .ref b5]) (rest := []) (by decide +kernel : decode cX4_isSameName 8 = .ok (.invokestatic 83, 3)) rfl rfl rfl rfl rfl rfl rfl (Nat.le_of_ble_eq_true rfl) hd1 k
theorem kX4_isSameName_11 {a0 : Nat} {o1 : Option Value} {x2 : Int} {o3 : Option Value} {o4 : Option Value} {o5 : Option Value} {t0 : Int} {b2 : Nat} {b5 : Nat} (g1 : aKd S a0 = 6) (p3 : aP S a0 0 = some b2) (g4 : aKd S b2 = 7) (p6 : aP S b2 2 = some b5) (hd1 : 1 ≤ d) (k : X E (d - 1) fX7_valueAt 0 [some (.ref b5), some (J x2)] [] S (mI M) (Kr E d fX4_isSameName 24 [some (.ref a0), o1, some (J x2), some (J t0), o4, o5] [J t0] Q)) : X E d fX4_isSameName 11 [some (.ref a0), o1, some (J x2), o3, o4, o5] [J t0] S (mI M) Q := by
  refine X_istore_n 12 (by decide +kernel : decode cX4_isSameName 11 = .ok (.istore_n 3, 1)) rfl rfl (Nat.le_of_ble_eq_true rfl) rfl ?_
  refine X_iload_n 13 (by decide +kernel : decode cX4_isSameName 12 = .ok (.iload_n 3, 1)) rfl rfl rfl ?_
  refine X_aload_n 14 (by decide +kernel : decode cX4_isSameName 13 = .ok (.aload_n 0, 1)) rfl rfl rfl ?_
  refine X_getR 17 (by decide +kernel : decode cX4_isSameName 14 = .ok (.getfield 21, 3)) rfl rfl (by decide +kernel : aFd 6 21 = some (6, 0, true, true)) g1 p3 ?_
  refine X_getR 20 (by decide +kernel : decode cX4_isSameName 17 = .ok (.getfield 80, 3)) rfl rfl (by decide +kernel : aFd 6 80 = some (7, 2, true, true)) g4 p6 ?_
  refine X_iload_n 21 (by decide +kernel : decode cX4_isSameName 20 = .ok (.iload_n 2, 1)) rfl rfl rfl ?_
  exact X_cs (as := [J x2, .ref b5]) (rest := [J t0]) (by decide +kernel : decode cX4_isSameName 21 = .ok (.invokestatic 83, 3)) rfl rfl rfl rfl rfl rfl rfl (Nat.le_of_ble_eq_true rfl) hd1 k
theorem kX4_isSameName_24 {o0 : Option Value} {o1 : Option Value} {o2 : Option Value} {o3 : Option Value} {o4 : Option Value} {o5 : Option Value} {t0 : Int} {t1 : Int} (r1 : R32 t1) (r2 : R32 t0) (k1 : t1 = t0 → X E d fX4_isSameName 29 [o0, o1, o2, o3, o4, o5] [] S (mI M) Q) (k2 : t1 ≠ t0 → X E d fX4_isSameName 27 [o0, o1, o2, o3, o4, o5] [] S (mI M) Q) : X E d fX4_isSameName 24 [o0, o1, o2, o3, o4, o5] [J t0, J t1] S (mI M) Q := by
  exact X_icmpeq 29 27 (by decide +kernel : decode cX4_isSameName 24 = .ok (.if_icmp .eq 5, 3)) rfl rfl (by decide) r1 r2 k1 k2
theorem kX4_isSameName_27 {o0 : Option Value} {o1 : Option Value} {o2 : Option Value} {o3 : Option Value} {o4 : Option Value} {o5 : Option Value} (q : Q (some (some (J 0))) S (mI M)) : X E d fX4_isSameName 27 [o0, o1, o2, o3, o4, o5] [] S (mI M) Q := by
  refine X_iconst 28 (by decide +kernel : decode cX4_isSameName 27 = .ok (.iconst 0, 1)) rfl rfl ?_
  exact X_iret (by decide +kernel : decode cX4_isSameName 28 = .ok (.ireturn, 1)) rfl rfl (by decide) q
theorem kX4_isSameName_29 {o0 : Option Value} {o1 : Option Value} {o2 : Option Value} {o3 : Option Value} {o4 : Option Value} {o5 : Option Value} (k : X E d fX4_isSameName 32 [o0, o1, o2, o3, some (J 0), o5] [] S (mI M) Q) : X E d fX4_isSameName 29 [o0, o1, o2, o3, o4, o5] [] S (mI M) Q := by
  refine X_iconst 30 (by decide +kernel : decode cX4_isSameName 29 = .ok (.iconst 0, 1)) rfl rfl ?_
  refine X_istore 32 (by decide +kernel : decode cX4_isSameName 30 = .ok (.istore 4, 2)) rfl rfl (Nat.le_of_ble_eq_true rfl) rfl ?_
  exact k
theorem kX4_isSameName_32 {o0 : Option Value} {o1 : Option Value} {o2 : Option Value} {x3 : Int} {x4 : Int} {o5 : Option Value} (r1 : R32 x4) (r2 : R32 x3) (k1 : x3 ≤ x4 → X E d fX4_isSameName 99 [o0, o1, o2, some (J x3), some (J x4), o5] [] S (mI M) Q) (k2 : x4 < x3 → X E d fX4_isSameName 38 [o0, o1, o2, some (J x3), some (J x4), o5] [] S (mI M) Q) : X E d fX4_isSameName 32 [o0, o1, o2, some (J x3), some (J x4), o5] [] S (mI M) Q := by
  refine X_iload 34 (by decide +kernel : decode cX4_isSameName 32 = .ok (.iload 4, 2)) rfl rfl rfl ?_
  refine X_iload_n 35 (by decide +kernel : decode cX4_isSameName 34 = .ok (.iload_n 3, 1)) rfl rfl rfl ?_
  exact X_icmpge 99 38 (by decide +kernel : decode cX4_isSameName 35 = .ok (.if_icmp .ge 64, 3)) rfl rfl (by decide) r1 r2 k1 k2
theorem kX4_isSameName_38 {a0 : Nat} {x1 : Int} {o2 : Option Value} {o3 : Option Value} {o4 : Option Value} {o5 : Option Value} {b2 : Nat} {b5 : Nat} (g1 : aKd S a0 = 6) (p3 : aP S a0 1 = some b2) (p6 : aP S a0 0 = some b5) (hd1 : 1 ≤ d) (k : X E (d - 1) fX5_placeOf 0 [some (.ref b5), some (J x1)] [] S (mI M) (Kr E d fX4_isSameName 50 [some (.ref a0), some (J x1), o2, o3, o4, o5] [.ref b2] Q)) (g7 : aKd S b5 = 7) : X E d fX4_isSameName 38 [some (.ref a0), some (J x1), o2, o3, o4, o5] [] S (mI M) Q := by
  refine X_aload_n 39 (by decide +kernel : decode cX4_isSameName 38 = .ok (.aload_n 0, 1)) rfl rfl rfl ?_
  refine X_getR 42 (by decide +kernel : decode cX4_isSameName 39 = .ok (.getfield 25, 3)) rfl rfl (by decide +kernel : aFd 6 25 = some (6, 1, true, true)) g1 p3 ?_
  refine X_aload_n 43 (by decide +kernel : decode cX4_isSameName 42 = .ok (.aload_n 0, 1)) rfl rfl rfl ?_
  refine X_getR 46 (by decide +kernel : decode cX4_isSameName 43 = .ok (.getfield 21, 3)) rfl rfl (by decide +kernel : aFd 6 21 = some (6, 0, true, true)) g1 p6 ?_
  refine X_iload_n 47 (by decide +kernel : decode cX4_isSameName 46 = .ok (.iload_n 1, 1)) rfl rfl rfl ?_
  exact X_cv (as := [J x1]) (rest := [.ref b2]) (by decide +kernel : decode cX4_isSameName 47 = .ok (.invokevirtual 86, 3)) (Or.inl ⟨rfl, rfl, rfl⟩) rfl rfl rfl rfl rfl (Nat.le_of_ble_eq_true rfl) (Or.inr (Or.inr (by rw [g7]; rfl))) hd1 k
theorem kX4_isSameName_50 {a0 : Nat} {o1 : Option Value} {o2 : Option Value} {o3 : Option Value} {x4 : Int} {o5 : Option Value} {t0 : Int} {u1 : Nat} {b2 : Nat} (g1 : aKd S a0 = 6) (p3 : aP S a0 1 = some b2) (g4 : aKd S b2 = 100 ∨ aKd S b2 = 101 ∨ aKd S b2 = 102) (hd1 : 1 ≤ d) (k : X E (d - 1) fX5_byteAt 0 [some (.ref u1), some (J (t0 + x4)), some (J (aN S b2 : Int))] [] S (mI M) (Kr E d fX4_isSameName 61 [some (.ref a0), o1, o2, o3, some (J x4), o5] [] Q)) : X E d fX4_isSameName 50 [some (.ref a0), o1, o2, o3, some (J x4), o5] [J t0, .ref u1] S (mI M) Q := by
  refine X_iload 52 (by decide +kernel : decode cX4_isSameName 50 = .ok (.iload 4, 2)) rfl rfl rfl ?_
  refine X_iadd 53 (by decide +kernel : decode cX4_isSameName 52 = .ok (.iadd, 1)) rfl rfl ?_
  refine X_aload_n 54 (by decide +kernel : decode cX4_isSameName 53 = .ok (.aload_n 0, 1)) rfl rfl rfl ?_
  refine X_getR 57 (by decide +kernel : decode cX4_isSameName 54 = .ok (.getfield 25, 3)) rfl rfl (by decide +kernel : aFd 6 25 = some (6, 1, true, true)) g1 p3 ?_
  refine X_alen 58 (by decide +kernel : decode cX4_isSameName 57 = .ok (.arraylength, 1)) rfl rfl g4 ?_
  exact X_cs (as := [J (aN S b2 : Int), J (t0 + x4), .ref u1]) (rest := []) (by decide +kernel : decode cX4_isSameName 58 = .ok (.invokestatic 89, 3)) rfl rfl rfl rfl rfl rfl rfl (Nat.le_of_ble_eq_true rfl) hd1 k
theorem kX4_isSameName_61 {a0 : Nat} {o1 : Option Value} {x2 : Int} {o3 : Option Value} {o4 : Option Value} {o5 : Option Value} {t0 : Int} {b2 : Nat} {b5 : Nat} (g1 : aKd S a0 = 6) (p3 : aP S a0 1 = some b2) (p6 : aP S a0 0 = some b5) (hd1 : 1 ≤ d) (k : X E (d - 1) fX5_placeOf 0 [some (.ref b5), some (J x2)] [] S (mI M) (Kr E d fX4_isSameName 77 [some (.ref a0), o1, some (J x2), o3, o4, some (J t0)] [.ref b2, J t0] Q)) (g7 : aKd S b5 = 7) : X E d fX4_isSameName 61 [some (.ref a0), o1, some (J x2), o3, o4, o5] [J t0] S (mI M) Q := by
  refine X_istore 63 (by decide +kernel : decode cX4_isSameName 61 = .ok (.istore 5, 2)) rfl rfl (Nat.le_of_ble_eq_true rfl) rfl ?_
  refine X_iload 65 (by decide +kernel : decode cX4_isSameName 63 = .ok (.iload 5, 2)) rfl rfl rfl ?_
  refine X_aload_n 66 (by decide +kernel : decode cX4_isSameName 65 = .ok (.aload_n 0, 1)) rfl rfl rfl ?_
  refine X_getR 69 (by decide +kernel : decode cX4_isSameName 66 = .ok (.getfield 25, 3)) rfl rfl (by decide +kernel : aFd 6 25 = some (6, 1, true, true)) g1 p3 ?_
  refine X_aload_n 70 (by decide +kernel : decode cX4_isSameName 69 = .ok (.aload_n 0, 1)) rfl rfl rfl ?_
  refine X_getR 73 (by decide +kernel : decode cX4_isSameName 70 = .ok (.getfield 21, 3)) rfl rfl (by decide +kernel : aFd 6 21 = some (6, 0, true, true)) g1 p6 ?_
  refine X_iload_n 74 (by decide +kernel : decode cX4_isSameName 73 = .ok (.iload_n 2, 1)) rfl rfl rfl ?_
  exact X_cv (as := [J x2]) (rest := [.ref b2, J t0]) (by decide +kernel : decode cX4_isSameName 74 = .ok (.invokevirtual 86, 3)) (Or.inl ⟨rfl, rfl, rfl⟩) rfl rfl rfl rfl rfl (Nat.le_of_ble_eq_true rfl) (Or.inr (Or.inr (by rw [g7]; rfl))) hd1 k
theorem kX4_isSameName_77 {a0 : Nat} {o1 : Option Value} {o2 : Option Value} {o3 : Option Value} {x4 : Int} {o5 : Option Value} {t0 : Int} {u1 : Nat} {t2 : Int} {b2 : Nat} (g1 : aKd S a0 = 6) (p3 : aP S a0 1 = some b2) (g4 : aKd S b2 = 100 ∨ aKd S b2 = 101 ∨ aKd S b2 = 102) (hd1 : 1 ≤ d) (k : X E (d - 1) fX5_byteAt 0 [some (.ref u1), some (J (t0 + x4)), some (J (aN S b2 : Int))] [] S (mI M) (Kr E d fX4_isSameName 88 [some (.ref a0), o1, o2, o3, some (J x4), o5] [J t2] Q)) : X E d fX4_isSameName 77 [some (.ref a0), o1, o2, o3, some (J x4), o5] [J t0, .ref u1, J t2] S (mI M) Q := by
  refine X_iload 79 (by decide +kernel : decode cX4_isSameName 77 = .ok (.iload 4, 2)) rfl rfl rfl ?_
  refine X_iadd 80 (by decide +kernel : decode cX4_isSameName 79 = .ok (.iadd, 1)) rfl rfl ?_
  refine X_aload_n 81 (by decide +kernel : decode cX4_isSameName 80 = .ok (.aload_n 0, 1)) rfl rfl rfl ?_
  refine X_getR 84 (by decide +kernel : decode cX4_isSameName 81 = .ok (.getfield 25, 3)) rfl rfl (by decide +kernel : aFd 6 25 = some (6, 1, true, true)) g1 p3 ?_
  refine X_alen 85 (by decide +kernel : decode cX4_isSameName 84 = .ok (.arraylength, 1)) rfl rfl g4 ?_
  exact X_cs (as := [J (aN S b2 : Int), J (t0 + x4), .ref u1]) (rest := [J t2]) (by decide +kernel : decode cX4_isSameName 85 = .ok (.invokestatic 89, 3)) rfl rfl rfl rfl rfl rfl rfl (Nat.le_of_ble_eq_true rfl) hd1 k
theorem kX4_isSameName_88 {o0 : Option Value} {o1 : Option Value} {o2 : Option Value} {o3 : Option Value} {o4 : Option Value} {o5 : Option Value} {t0 : Int} {t1 : Int} (r1 : R32 t1) (r2 : R32 t0) (k1 : t1 = t0 → X E d fX4_isSameName 93 [o0, o1, o2, o3, o4, o5] [] S (mI M) Q) (k2 : t1 ≠ t0 → X E d fX4_isSameName 91 [o0, o1, o2, o3, o4, o5] [] S (mI M) Q) : X E d fX4_isSameName 88 [o0, o1, o2, o3, o4, o5] [J t0, J t1] S (mI M) Q := by
  exact X_icmpeq 93 91 (by decide +kernel : decode cX4_isSameName 88 = .ok (.if_icmp .eq 5, 3)) rfl rfl (by decide) r1 r2 k1 k2
theorem kX4_isSameName_91 {o0 : Option Value} {o1 : Option Value} {o2 : Option Value} {o3 : Option Value} {o4 : Option Value} {o5 : Option Value} (q : Q (some (some (J 0))) S (mI M)) : X E d fX4_isSameName 91 [o0, o1, o2, o3, o4, o5] [] S (mI M) Q := by
  refine X_iconst 92 (by decide +kernel : decode cX4_isSameName 91 = .ok (.iconst 0, 1)) rfl rfl ?_
  exact X_iret (by decide +kernel : decode cX4_isSameName 92 = .ok (.ireturn, 1)) rfl rfl (by decide) q
theorem kX4_isSameName_93 {o0 : Option Value} {o1 : Option Value} {o2 : Option Value} {o3 : Option Value} {x4 : Int} {o5 : Option Value} (k : X E d fX4_isSameName 32 [o0, o1, o2, o3, some (J (x4 + 1)), o5] [] S (mI M) Q) : X E d fX4_isSameName 93 [o0, o1, o2, o3, some (J x4), o5] [] S (mI M) Q := by
  refine X_iinc 96 (by decide +kernel : decode cX4_isSameName 93 = .ok (.iinc 4 1, 3)) rfl rfl rfl rfl ?_
  exact X_goto 32 (by decide +kernel : decode cX4_isSameName 96 = .ok (.goto (-64), 3)) rfl (by decide) k
theorem kX4_isSameName_99 {o0 : Option Value} {o1 : Option Value} {o2 : Option Value} {o3 : Option Value} {o4 : Option Value} {o5 : Option Value} (q : Q (some (some (J 1))) S (mI M)) : X E d fX4_isSameName 99 [o0, o1, o2, o3, o4, o5] [] S (mI M) Q := by
  refine X_iconst 100 (by decide +kernel : decode cX4_isSameName 99 = .ok (.iconst 1, 1)) rfl rfl ?_
  exact X_iret (by decide +kernel : decode cX4_isSameName 100 = .ok (.ireturn, 1)) rfl rfl (by decide) q
theorem kX4_findName_0 {a0 : Nat} {a1 : Nat} {x2 : Int} {o3 : Option Value} (hd1 : 1 ≤ d) (k : X E (d - 1) fX4_numberOfName 0 [some (.ref a0), some (.ref a1), some (J x2), none] [] S (mI M) (Kr E d fX4_findName 6 [some (.ref a0), some (.ref a1), some (J x2), o3] [] Q)) (g1 : aKd S a0 = 6) : X E d fX4_findName 0 [some (.ref a0), some (.ref a1), some (J x2), o3] [] S (mI M) Q := by
  refine X_aload_n 1 (by decide +kernel : decode cX4_findName 0 = .ok (.aload_n 0, 1)) rfl rfl rfl ?_
  refine X_aload_n 2 (by decide +kernel : decode cX4_findName 1 = .ok (.aload_n 1, 1)) rfl rfl rfl ?_
  refine X_iload_n 3 (by decide +kernel : decode cX4_findName 2 = .ok (.iload_n 2, 1)) rfl rfl rfl ?_
  exact X_cv (as := [J x2, .ref a1]) (rest := []) (by decide +kernel : decode cX4_findName 3 = .ok (.invokevirtual 70, 3)) (Or.inl ⟨rfl, rfl, rfl⟩) rfl rfl rfl rfl rfl (Nat.le_of_ble_eq_true rfl) (Or.inr (Or.inr (by rw [g1]; rfl))) hd1 k
theorem kX4_findName_6 {o0 : Option Value} {o1 : Option Value} {o2 : Option Value} {o3 : Option Value} {t0 : Int} (r1 : R32 t0) (k1 : t0 ≠ (-1) → X E d fX4_findName 14 [o0, o1, o2, some (J t0)] [] S (mI M) Q) (k2 : t0 = (-1) → X E d fX4_findName 12 [o0, o1, o2, some (J t0)] [] S (mI M) Q) : X E d fX4_findName 6 [o0, o1, o2, o3] [J t0] S (mI M) Q := by
  refine X_istore_n 7 (by decide +kernel : decode cX4_findName 6 = .ok (.istore_n 3, 1)) rfl rfl (Nat.le_of_ble_eq_true rfl) rfl ?_
  refine X_iload_n 8 (by decide +kernel : decode cX4_findName 7 = .ok (.iload_n 3, 1)) rfl rfl rfl ?_
  refine X_iconst 9 (by decide +kernel : decode cX4_findName 8 = .ok (.iconst (-1), 1)) rfl rfl ?_
  exact X_icmpne 14 12 (by decide +kernel : decode cX4_findName 9 = .ok (.if_icmp .ne 5, 3)) rfl rfl (by decide) r1 ⟨by decide, by decide⟩ k1 k2
theorem kX4_findName_12 {o0 : Option Value} {o1 : Option Value} {o2 : Option Value} {o3 : Option Value} (q : Q (some (some (J 3))) S (mI M)) : X E d fX4_findName 12 [o0, o1, o2, o3] [] S (mI M) Q := by
  refine X_iconst 13 (by decide +kernel : decode cX4_findName 12 = .ok (.iconst 3, 1)) rfl rfl ?_
  exact X_iret (by decide +kernel : decode cX4_findName 13 = .ok (.ireturn, 1)) rfl rfl rfl q
theorem kX4_findName_14 {a0 : Nat} {o1 : Option Value} {o2 : Option Value} {x3 : Int} {b2 : Nat} {b5 : Nat} (g1 : aKd S a0 = 6) (p3 : aP S a0 0 = some b2) (g4 : aKd S b2 = 7) (p6 : aP S b2 3 = some b5) (g8 : aK S b5 = 100) (r9 : R32 (M a0 6)) (h10 : (0 : Int) ≤ M a0 6 ∧ (M a0 6) < (aN S b5 : Int)) (q : Q (some (some (J 0))) S (mI (mW M b5 (M a0 6).toNat x3))) : X E d fX4_findName 14 [some (.ref a0), o1, o2, some (J x3)] [] S (mI M) Q := by
  refine X_aload_n 15 (by decide +kernel : decode cX4_findName 14 = .ok (.aload_n 0, 1)) rfl rfl rfl ?_
  refine X_getR 18 (by decide +kernel : decode cX4_findName 15 = .ok (.getfield 21, 3)) rfl rfl (by decide +kernel : aFd 6 21 = some (6, 0, true, true)) g1 p3 ?_
  refine X_getR 21 (by decide +kernel : decode cX4_findName 18 = .ok (.getfield 73, 3)) rfl rfl (by decide +kernel : aFd 6 73 = some (7, 3, true, true)) g4 p6 ?_
  refine X_aload_n 22 (by decide +kernel : decode cX4_findName 21 = .ok (.aload_n 0, 1)) rfl rfl rfl ?_
  refine X_getI 25 (by decide +kernel : decode cX4_findName 22 = .ok (.getfield 39, 3)) rfl rfl (by decide +kernel : aFd 6 39 = some (6, 6, false, false)) g1 ?_
  refine X_iload_n 26 (by decide +kernel : decode cX4_findName 25 = .ok (.iload_n 3, 1)) rfl rfl rfl ?_
  refine X_iast 27 (by decide +kernel : decode cX4_findName 26 = .ok (.iastore, 1)) rfl rfl g8 r9 h10 ?_
  refine X_iconst 28 (by decide +kernel : decode cX4_findName 27 = .ok (.iconst 0, 1)) rfl rfl ?_
  exact X_iret (by decide +kernel : decode cX4_findName 28 = .ok (.ireturn, 1)) rfl rfl rfl q
theorem kX4_lookAtNumber_0 {a0 : Nat} {o1 : Option Value} {o2 : Option Value} {o3 : Option Value} {b2 : Nat} {b5 : Nat} (g1 : aKd S a0 = 6) (p3 : aP S a0 0 = some b2) (g4 : aKd S b2 = 7) (p6 : aP S b2 3 = some b5) (g8 : aKd S b5 = 100) (r9 : R32 (M a0 6)) (h10 : (0 : Int) ≤ M a0 6 ∧ (M a0 6) < (aN S b5 : Int)) (k : X E d fX4_lookAtNumber 15 [some (.ref a0), o1, some (J (M b5 (M a0 6).toNat)), some (J 0)] [] S (mI M) Q) : X E d fX4_lookAtNumber 0 [some (.ref a0), o1, o2, o3] [] S (mI M) Q := by
  refine X_aload_n 1 (by decide +kernel : decode cX4_lookAtNumber 0 = .ok (.aload_n 0, 1)) rfl rfl rfl ?_
  refine X_getR 4 (by decide +kernel : decode cX4_lookAtNumber 1 = .ok (.getfield 21, 3)) rfl rfl (by decide +kernel : aFd 6 21 = some (6, 0, true, true)) g1 p3 ?_
  refine X_getR 7 (by decide +kernel : decode cX4_lookAtNumber 4 = .ok (.getfield 73, 3)) rfl rfl (by decide +kernel : aFd 6 73 = some (7, 3, true, true)) g4 p6 ?_
  refine X_aload_n 8 (by decide +kernel : decode cX4_lookAtNumber 7 = .ok (.aload_n 0, 1)) rfl rfl rfl ?_
  refine X_getI 11 (by decide +kernel : decode cX4_lookAtNumber 8 = .ok (.getfield 39, 3)) rfl rfl (by decide +kernel : aFd 6 39 = some (6, 6, false, false)) g1 ?_
  refine X_iald 12 (by decide +kernel : decode cX4_lookAtNumber 11 = .ok (.iaload, 1)) rfl rfl g8 r9 h10 ?_
  refine X_istore_n 13 (by decide +kernel : decode cX4_lookAtNumber 12 = .ok (.istore_n 2, 1)) rfl rfl (Nat.le_of_ble_eq_true rfl) rfl ?_
  refine X_iconst 14 (by decide +kernel : decode cX4_lookAtNumber 13 = .ok (.iconst 0, 1)) rfl rfl ?_
  refine X_istore_n 15 (by decide +kernel : decode cX4_lookAtNumber 14 = .ok (.istore_n 3, 1)) rfl rfl (Nat.le_of_ble_eq_true rfl) rfl ?_
  exact k
theorem kX4_lookAtNumber_15 {o0 : Option Value} {o1 : Option Value} {o2 : Option Value} {x3 : Int} {b1 : Nat} (e2 : E 13 = .ref b1) (g3 : aKd S b1 = 100 ∨ aKd S b1 = 101 ∨ aKd S b1 = 102) (r4 : R32 (x3 + 2)) (r5 : R32 ((aN S b1 : Int))) (k1 : (aN S b1 : Int) ≤ (x3 + 2) → X E d fX4_lookAtNumber 64 [o0, o1, o2, some (J x3)] [] S (mI M) Q) (k2 : (x3 + 2) < (aN S b1 : Int) → X E d fX4_lookAtNumber 25 [o0, o1, o2, some (J x3)] [] S (mI M) Q) : X E d fX4_lookAtNumber 15 [o0, o1, o2, some (J x3)] [] S (mI M) Q := by
  refine X_iload_n 16 (by decide +kernel : decode cX4_lookAtNumber 15 = .ok (.iload_n 3, 1)) rfl rfl rfl ?_
  refine X_iconst 17 (by decide +kernel : decode cX4_lookAtNumber 16 = .ok (.iconst 2, 1)) rfl rfl ?_
  refine X_iadd 18 (by decide +kernel : decode cX4_lookAtNumber 17 = .ok (.iadd, 1)) rfl rfl ?_
  refine X_getst 21 (by decide +kernel : decode cX4_lookAtNumber 18 = .ok (.getstatic 93, 3)) rfl rfl rfl e2 ?_
  refine X_alen 22 (by decide +kernel : decode cX4_lookAtNumber 21 = .ok (.arraylength, 1)) rfl rfl g3 ?_
  exact X_icmpge 64 25 (by decide +kernel : decode cX4_lookAtNumber 22 = .ok (.if_icmp .ge 42, 3)) rfl rfl (by decide) r4 r5 k1 k2
theorem kX4_lookAtNumber_25 {o0 : Option Value} {x1 : Int} {o2 : Option Value} {x3 : Int} {b1 : Nat} (e2 : E 13 = .ref b1) (g3 : aKd S b1 = 100) (r4 : R32 x3) (h5 : (0 : Int) ≤ x3 ∧ x3 < (aN S b1 : Int)) (r6 : R32 (M b1 x3.toNat)) (r7 : R32 x1) (k1 : (M b1 x3.toNat) ≠ x1 → X E d fX4_lookAtNumber 58 [o0, some (J x1), o2, some (J x3)] [] S (mI M) Q) (k2 : (M b1 x3.toNat) = x1 → X E d fX4_lookAtNumber 34 [o0, some (J x1), o2, some (J x3)] [] S (mI M) Q) : X E d fX4_lookAtNumber 25 [o0, some (J x1), o2, some (J x3)] [] S (mI M) Q := by
  refine X_getst 28 (by decide +kernel : decode cX4_lookAtNumber 25 = .ok (.getstatic 93, 3)) rfl rfl rfl e2 ?_
  refine X_iload_n 29 (by decide +kernel : decode cX4_lookAtNumber 28 = .ok (.iload_n 3, 1)) rfl rfl rfl ?_
  refine X_iald 30 (by decide +kernel : decode cX4_lookAtNumber 29 = .ok (.iaload, 1)) rfl rfl g3 r4 h5 ?_
  refine X_iload_n 31 (by decide +kernel : decode cX4_lookAtNumber 30 = .ok (.iload_n 1, 1)) rfl rfl rfl ?_
  exact X_icmpne 58 34 (by decide +kernel : decode cX4_lookAtNumber 31 = .ok (.if_icmp .ne 27, 3)) rfl rfl (by decide) r6 r7 k1 k2
theorem kX4_lookAtNumber_34 {o0 : Option Value} {o1 : Option Value} {x2 : Int} {x3 : Int} {b1 : Nat} (e2 : E 13 = .ref b1) (g3 : aKd S b1 = 100) (r4 : R32 (x3 + 1)) (h5 : (0 : Int) ≤ x3 + 1 ∧ (x3 + 1) < (aN S b1 : Int)) (r6 : R32 x2) (r7 : R32 (M b1 (x3 + 1).toNat)) (k1 : x2 < (M b1 (x3 + 1).toNat) → X E d fX4_lookAtNumber 56 [o0, o1, some (J x2), some (J x3)] [] S (mI M) Q) (k2 : (M b1 (x3 + 1).toNat) ≤ x2 → X E d fX4_lookAtNumber 45 [o0, o1, some (J x2), some (J x3)] [] S (mI M) Q) : X E d fX4_lookAtNumber 34 [o0, o1, some (J x2), some (J x3)] [] S (mI M) Q := by
  refine X_iload_n 35 (by decide +kernel : decode cX4_lookAtNumber 34 = .ok (.iload_n 2, 1)) rfl rfl rfl ?_
  refine X_getst 38 (by decide +kernel : decode cX4_lookAtNumber 35 = .ok (.getstatic 93, 3)) rfl rfl rfl e2 ?_
  refine X_iload_n 39 (by decide +kernel : decode cX4_lookAtNumber 38 = .ok (.iload_n 3, 1)) rfl rfl rfl ?_
  refine X_iconst 40 (by decide +kernel : decode cX4_lookAtNumber 39 = .ok (.iconst 1, 1)) rfl rfl ?_
  refine X_iadd 41 (by decide +kernel : decode cX4_lookAtNumber 40 = .ok (.iadd, 1)) rfl rfl ?_
  refine X_iald 42 (by decide +kernel : decode cX4_lookAtNumber 41 = .ok (.iaload, 1)) rfl rfl g3 r4 h5 ?_
  exact X_icmplt 56 45 (by decide +kernel : decode cX4_lookAtNumber 42 = .ok (.if_icmp .lt 14, 3)) rfl rfl (by decide) r6 r7 k1 k2
theorem kX4_lookAtNumber_45 {o0 : Option Value} {o1 : Option Value} {x2 : Int} {x3 : Int} {b1 : Nat} (e2 : E 13 = .ref b1) (g3 : aKd S b1 = 100) (r4 : R32 (x3 + 2)) (h5 : (0 : Int) ≤ x3 + 2 ∧ (x3 + 2) < (aN S b1 : Int)) (r6 : R32 x2) (r7 : R32 (M b1 (x3 + 2).toNat)) (k1 : x2 ≤ (M b1 (x3 + 2).toNat) → X E d fX4_lookAtNumber 58 [o0, o1, some (J x2), some (J x3)] [] S (mI M) Q) (k2 : (M b1 (x3 + 2).toNat) < x2 → X E d fX4_lookAtNumber 56 [o0, o1, some (J x2), some (J x3)] [] S (mI M) Q) : X E d fX4_lookAtNumber 45 [o0, o1, some (J x2), some (J x3)] [] S (mI M) Q := by
  refine X_iload_n 46 (by decide +kernel : decode cX4_lookAtNumber 45 = .ok (.iload_n 2, 1)) rfl rfl rfl ?_
  refine X_getst 49 (by decide +kernel : decode cX4_lookAtNumber 46 = .ok (.getstatic 93, 3)) rfl rfl rfl e2 ?_
  refine X_iload_n 50 (by decide +kernel : decode cX4_lookAtNumber 49 = .ok (.iload_n 3, 1)) rfl rfl rfl ?_
  refine X_iconst 51 (by decide +kernel : decode cX4_lookAtNumber 50 = .ok (.iconst 2, 1)) rfl rfl ?_
  refine X_iadd 52 (by decide +kernel : decode cX4_lookAtNumber 51 = .ok (.iadd, 1)) rfl rfl ?_
  refine X_iald 53 (by decide +kernel : decode cX4_lookAtNumber 52 = .ok (.iaload, 1)) rfl rfl g3 r4 h5 ?_
  exact X_icmple 58 56 (by decide +kernel : decode cX4_lookAtNumber 53 = .ok (.if_icmp .le 5, 3)) rfl rfl (by decide) r6 r7 k1 k2
theorem kX4_lookAtNumber_56 {o0 : Option Value} {o1 : Option Value} {o2 : Option Value} {o3 : Option Value} (q : Q (some (some (J 5))) S (mI M)) : X E d fX4_lookAtNumber 56 [o0, o1, o2, o3] [] S (mI M) Q := by
  refine X_iconst 57 (by decide +kernel : decode cX4_lookAtNumber 56 = .ok (.iconst 5, 1)) rfl rfl ?_
  exact X_iret (by decide +kernel : decode cX4_lookAtNumber 57 = .ok (.ireturn, 1)) rfl rfl rfl q
theorem kX4_lookAtNumber_58 {o0 : Option Value} {o1 : Option Value} {o2 : Option Value} {x3 : Int} (k : X E d fX4_lookAtNumber 15 [o0, o1, o2, some (J (x3 + 3))] [] S (mI M) Q) : X E d fX4_lookAtNumber 58 [o0, o1, o2, some (J x3)] [] S (mI M) Q := by
  refine X_iinc 61 (by decide +kernel : decode cX4_lookAtNumber 58 = .ok (.iinc 3 3, 3)) rfl rfl rfl rfl ?_
  exact X_goto 15 (by decide +kernel : decode cX4_lookAtNumber 61 = .ok (.goto (-46), 3)) rfl (by decide) k
theorem kX4_lookAtNumber_64 {o0 : Option Value} {x1 : Int} {o2 : Option Value} {o3 : Option Value} (r1 : R32 x1) (k1 : x1 = 4 → X E d fX4_lookAtNumber 81 [o0, some (J x1), o2, o3] [] S (mI M) Q) (k2 : x1 ≠ 4 → X E d fX4_lookAtNumber 69 [o0, some (J x1), o2, o3] [] S (mI M) Q) : X E d fX4_lookAtNumber 64 [o0, some (J x1), o2, o3] [] S (mI M) Q := by
  refine X_iload_n 65 (by decide +kernel : decode cX4_lookAtNumber 64 = .ok (.iload_n 1, 1)) rfl rfl rfl ?_
  refine X_iconst 66 (by decide +kernel : decode cX4_lookAtNumber 65 = .ok (.iconst 4, 1)) rfl rfl ?_
  exact X_icmpeq 81 69 (by decide +kernel : decode cX4_lookAtNumber 66 = .ok (.if_icmp .eq 15, 3)) rfl rfl (by decide) r1 ⟨by decide, by decide⟩ k1 k2
theorem kX4_lookAtNumber_69 {o0 : Option Value} {x1 : Int} {o2 : Option Value} {o3 : Option Value} (r1 : R32 x1) (k1 : x1 = 9 → X E d fX4_lookAtNumber 81 [o0, some (J x1), o2, o3] [] S (mI M) Q) (k2 : x1 ≠ 9 → X E d fX4_lookAtNumber 75 [o0, some (J x1), o2, o3] [] S (mI M) Q) : X E d fX4_lookAtNumber 69 [o0, some (J x1), o2, o3] [] S (mI M) Q := by
  refine X_iload_n 70 (by decide +kernel : decode cX4_lookAtNumber 69 = .ok (.iload_n 1, 1)) rfl rfl rfl ?_
  refine X_bipush 72 (9) (by decide +kernel : decode cX4_lookAtNumber 70 = .ok (.bipush 9, 2)) rfl rfl (by decide +kernel) ?_
  exact X_icmpeq 81 75 (by decide +kernel : decode cX4_lookAtNumber 72 = .ok (.if_icmp .eq 9, 3)) rfl rfl (by decide) r1 ⟨by decide, by decide⟩ k1 k2
theorem kX4_lookAtNumber_75 {o0 : Option Value} {x1 : Int} {o2 : Option Value} {o3 : Option Value} (r1 : R32 x1) (k1 : x1 ≠ 10 → X E d fX4_lookAtNumber 85 [o0, some (J x1), o2, o3] [] S (mI M) Q) (k2 : x1 = 10 → X E d fX4_lookAtNumber 81 [o0, some (J x1), o2, o3] [] S (mI M) Q) : X E d fX4_lookAtNumber 75 [o0, some (J x1), o2, o3] [] S (mI M) Q := by
  refine X_iload_n 76 (by decide +kernel : decode cX4_lookAtNumber 75 = .ok (.iload_n 1, 1)) rfl rfl rfl ?_
  refine X_bipush 78 (10) (by decide +kernel : decode cX4_lookAtNumber 76 = .ok (.bipush 10, 2)) rfl rfl (by decide +kernel) ?_
  exact X_icmpne 85 81 (by decide +kernel : decode cX4_lookAtNumber 78 = .ok (.if_icmp .ne 7, 3)) rfl rfl (by decide) r1 ⟨by decide, by decide⟩ k1 k2
theorem kX4_lookAtNumber_81 {o0 : Option Value} {o1 : Option Value} {o2 : Option Value} {o3 : Option Value} (k : X E d fX4_lookAtNumber 86 [o0, o1, o2, o3] [J 1] S (mI M) Q) : X E d fX4_lookAtNumber 81 [o0, o1, o2, o3] [] S (mI M) Q := by
  refine X_iconst 82 (by decide +kernel : decode cX4_lookAtNumber 81 = .ok (.iconst 1, 1)) rfl rfl ?_
  exact X_goto 86 (by decide +kernel : decode cX4_lookAtNumber 82 = .ok (.goto 4, 3)) rfl (by decide) k
theorem kX4_lookAtNumber_85 {o0 : Option Value} {o1 : Option Value} {o2 : Option Value} {o3 : Option Value} (k : X E d fX4_lookAtNumber 86 [o0, o1, o2, o3] [J 0] S (mI M) Q) : X E d fX4_lookAtNumber 85 [o0, o1, o2, o3] [] S (mI M) Q := by
  refine X_iconst 86 (by decide +kernel : decode cX4_lookAtNumber 85 = .ok (.iconst 0, 1)) rfl rfl ?_
  exact k
theorem kX4_lookAtNumber_86 {o0 : Option Value} {o1 : Option Value} {o2 : Option Value} {o3 : Option Value} {t0 : Int} (r1 : R32 t0) (k1 : t0 = 0 → X E d fX4_lookAtNumber 104 [o0, o1, o2, some (J t0)] [] S (mI M) Q) (k2 : t0 ≠ 0 → X E d fX4_lookAtNumber 91 [o0, o1, o2, some (J t0)] [] S (mI M) Q) : X E d fX4_lookAtNumber 86 [o0, o1, o2, o3] [J t0] S (mI M) Q := by
  refine X_istore_n 87 (by decide +kernel : decode cX4_lookAtNumber 86 = .ok (.istore_n 3, 1)) rfl rfl (Nat.le_of_ble_eq_true rfl) rfl ?_
  refine X_iload_n 88 (by decide +kernel : decode cX4_lookAtNumber 87 = .ok (.iload_n 3, 1)) rfl rfl rfl ?_
  exact X_ifeq 104 91 (by decide +kernel : decode cX4_lookAtNumber 88 = .ok (.ifCond .eq 16, 3)) rfl rfl (by decide) r1 k1 k2
theorem kX4_lookAtNumber_91 {a0 : Nat} {o1 : Option Value} {x2 : Int} {o3 : Option Value} {b2 : Nat} (g1 : aKd S a0 = 6) (p3 : aP S a0 2 = some b2) (g4 : aKd S b2 = 5) (r5 : R32 x2) (r6 : R32 (M b2 1)) (k1 : x2 < (M b2 1) → X E d fX4_lookAtNumber 104 [some (.ref a0), o1, some (J x2), o3] [] S (mI M) Q) (k2 : (M b2 1) ≤ x2 → X E d fX4_lookAtNumber 102 [some (.ref a0), o1, some (J x2), o3] [] S (mI M) Q) : X E d fX4_lookAtNumber 91 [some (.ref a0), o1, some (J x2), o3] [] S (mI M) Q := by
  refine X_iload_n 92 (by decide +kernel : decode cX4_lookAtNumber 91 = .ok (.iload_n 2, 1)) rfl rfl rfl ?_
  refine X_aload_n 93 (by decide +kernel : decode cX4_lookAtNumber 92 = .ok (.aload_n 0, 1)) rfl rfl rfl ?_
  refine X_getR 96 (by decide +kernel : decode cX4_lookAtNumber 93 = .ok (.getfield 29, 3)) rfl rfl (by decide +kernel : aFd 6 29 = some (6, 2, true, false)) g1 p3 ?_
  refine X_getI 99 (by decide +kernel : decode cX4_lookAtNumber 96 = .ok (.getfield 96, 3)) rfl rfl (by decide +kernel : aFd 6 96 = some (5, 1, false, false)) g4 ?_
  exact X_icmplt 104 102 (by decide +kernel : decode cX4_lookAtNumber 99 = .ok (.if_icmp .lt 5, 3)) rfl rfl (by decide) r5 r6 k1 k2
theorem kX4_lookAtNumber_102 {o0 : Option Value} {o1 : Option Value} {o2 : Option Value} {o3 : Option Value} (q : Q (some (some (J 5))) S (mI M)) : X E d fX4_lookAtNumber 102 [o0, o1, o2, o3] [] S (mI M) Q := by
  refine X_iconst 103 (by decide +kernel : decode cX4_lookAtNumber 102 = .ok (.iconst 5, 1)) rfl rfl ?_
  exact X_iret (by decide +kernel : decode cX4_lookAtNumber 103 = .ok (.ireturn, 1)) rfl rfl rfl q
theorem kX4_lookAtNumber_104 {a0 : Nat} {x1 : Int} {x2 : Int} {o3 : Option Value} (hd1 : 1 ≤ d) (k : X E (d - 1) fX4_setDown 0 [some (.ref a0), some (J x1), some (J x2), none, none, none] [] S (mI M) (Kr E d fX4_lookAtNumber 110 [some (.ref a0), some (J x1), some (J x2), o3] [] Q)) (g1 : aKd S a0 = 6) : X E d fX4_lookAtNumber 104 [some (.ref a0), some (J x1), some (J x2), o3] [] S (mI M) Q := by
  refine X_aload_n 105 (by decide +kernel : decode cX4_lookAtNumber 104 = .ok (.aload_n 0, 1)) rfl rfl rfl ?_
  refine X_iload_n 106 (by decide +kernel : decode cX4_lookAtNumber 105 = .ok (.iload_n 1, 1)) rfl rfl rfl ?_
  refine X_iload_n 107 (by decide +kernel : decode cX4_lookAtNumber 106 = .ok (.iload_n 2, 1)) rfl rfl rfl ?_
  exact X_cv (as := [J x2, J x1]) (rest := []) (by decide +kernel : decode cX4_lookAtNumber 107 = .ok (.invokevirtual 99, 3)) (Or.inl ⟨rfl, rfl, rfl⟩) rfl rfl rfl rfl rfl (Nat.le_of_ble_eq_true rfl) (Or.inr (Or.inr (by rw [g1]; rfl))) hd1 k
theorem kX4_lookAtNumber_110 {o0 : Option Value} {o1 : Option Value} {o2 : Option Value} {o3 : Option Value} (q : Q (some (some (J 0))) S (mI M)) : X E d fX4_lookAtNumber 110 [o0, o1, o2, o3] [] S (mI M) Q := by
  refine X_iconst 111 (by decide +kernel : decode cX4_lookAtNumber 110 = .ok (.iconst 0, 1)) rfl rfl ?_
  exact X_iret (by decide +kernel : decode cX4_lookAtNumber 111 = .ok (.ireturn, 1)) rfl rfl rfl q
theorem kX4_setDown_0 {a0 : Nat} {x1 : Int} {o2 : Option Value} {o3 : Option Value} {o4 : Option Value} {o5 : Option Value} {b2 : Nat} (g1 : aKd S a0 = 6) (p3 : aP S a0 2 = some b2) (g4 : aKd S b2 = 5) (r13 : R32 x1) (kd : x1 ≠ 1 ∧ x1 ≠ 2 ∧ x1 ≠ 4 ∧ x1 ≠ 5 ∧ x1 ≠ 7 ∧ x1 ≠ 8 ∧ x1 ≠ 9 ∧ x1 ≠ 10 ∧ x1 ≠ 11 → X E d fX4_setDown 235 [some (.ref a0), some (J x1), o2, some (J ((M b2 0) - 1)), some (J ((M b2 2) - 1)), some (J ((M b2 3) - 1))] [] S (mI M) Q) (k0 : x1 = 1 → X E d fX4_setDown 92 [some (.ref a0), some (J x1), o2, some (J ((M b2 0) - 1)), some (J ((M b2 2) - 1)), some (J ((M b2 3) - 1))] [] S (mI M) Q) (k1 : x1 = 2 → X E d fX4_setDown 108 [some (.ref a0), some (J x1), o2, some (J ((M b2 0) - 1)), some (J ((M b2 2) - 1)), some (J ((M b2 3) - 1))] [] S (mI M) Q) (k3 : x1 = 4 → X E d fX4_setDown 123 [some (.ref a0), some (J x1), o2, some (J ((M b2 0) - 1)), some (J ((M b2 2) - 1)), some (J ((M b2 3) - 1))] [] S (mI M) Q) (k4 : x1 = 5 → X E d fX4_setDown 139 [some (.ref a0), some (J x1), o2, some (J ((M b2 0) - 1)), some (J ((M b2 2) - 1)), some (J ((M b2 3) - 1))] [] S (mI M) Q) (k6 : x1 = 7 → X E d fX4_setDown 155 [some (.ref a0), some (J x1), o2, some (J ((M b2 0) - 1)), some (J ((M b2 2) - 1)), some (J ((M b2 3) - 1))] [] S (mI M) Q) (k7 : x1 = 8 → X E d fX4_setDown 171 [some (.ref a0), some (J x1), o2, some (J ((M b2 0) - 1)), some (J ((M b2 2) - 1)), some (J ((M b2 3) - 1))] [] S (mI M) Q) (k8 : x1 = 9 → X E d fX4_setDown 187 [some (.ref a0), some (J x1), o2, some (J ((M b2 0) - 1)), some (J ((M b2 2) - 1)), some (J ((M b2 3) - 1))] [] S (mI M) Q) (k9 : x1 = 10 → X E d fX4_setDown 203 [some (.ref a0), some (J x1), o2, some (J ((M b2 0) - 1)), some (J ((M b2 2) - 1)), some (J ((M b2 3) - 1))] [] S (mI M) Q) (k10 : x1 = 11 → X E d fX4_setDown 219 [some (.ref a0), some (J x1), o2, some (J ((M b2 0) - 1)), some (J ((M b2 2) - 1)), some (J ((M b2 3) - 1))] [] S (mI M) Q) : X E d fX4_setDown 0 [some (.ref a0), some (J x1), o2, o3, o4, o5] [] S (mI M) Q := by
  refine X_aload_n 1 (by decide +kernel : decode cX4_setDown 0 = .ok (.aload_n 0, 1)) rfl rfl rfl ?_
  refine X_getR 4 (by decide +kernel : decode cX4_setDown 1 = .ok (.getfield 29, 3)) rfl rfl (by decide +kernel : aFd 6 29 = some (6, 2, true, false)) g1 p3 ?_
  refine X_getI 7 (by decide +kernel : decode cX4_setDown 4 = .ok (.getfield 55, 3)) rfl rfl (by decide +kernel : aFd 6 55 = some (5, 0, false, false)) g4 ?_
  refine X_iconst 8 (by decide +kernel : decode cX4_setDown 7 = .ok (.iconst 1, 1)) rfl rfl ?_
  refine X_isub 9 (by decide +kernel : decode cX4_setDown 8 = .ok (.isub, 1)) rfl rfl ?_
  refine X_istore_n 10 (by decide +kernel : decode cX4_setDown 9 = .ok (.istore_n 3, 1)) rfl rfl (Nat.le_of_ble_eq_true rfl) rfl ?_
  refine X_aload_n 11 (by decide +kernel : decode cX4_setDown 10 = .ok (.aload_n 0, 1)) rfl rfl rfl ?_
  refine X_getR 14 (by decide +kernel : decode cX4_setDown 11 = .ok (.getfield 29, 3)) rfl rfl (by decide +kernel : aFd 6 29 = some (6, 2, true, false)) g1 p3 ?_
  refine X_getI 17 (by decide +kernel : decode cX4_setDown 14 = .ok (.getfield 64, 3)) rfl rfl (by decide +kernel : aFd 6 64 = some (5, 2, false, false)) g4 ?_
  refine X_iconst 18 (by decide +kernel : decode cX4_setDown 17 = .ok (.iconst 1, 1)) rfl rfl ?_
  refine X_isub 19 (by decide +kernel : decode cX4_setDown 18 = .ok (.isub, 1)) rfl rfl ?_
  refine X_istore 21 (by decide +kernel : decode cX4_setDown 19 = .ok (.istore 4, 2)) rfl rfl (Nat.le_of_ble_eq_true rfl) rfl ?_
  refine X_aload_n 22 (by decide +kernel : decode cX4_setDown 21 = .ok (.aload_n 0, 1)) rfl rfl rfl ?_
  refine X_getR 25 (by decide +kernel : decode cX4_setDown 22 = .ok (.getfield 29, 3)) rfl rfl (by decide +kernel : aFd 6 29 = some (6, 2, true, false)) g1 p3 ?_
  refine X_getI 28 (by decide +kernel : decode cX4_setDown 25 = .ok (.getfield 67, 3)) rfl rfl (by decide +kernel : aFd 6 67 = some (5, 3, false, false)) g4 ?_
  refine X_iconst 29 (by decide +kernel : decode cX4_setDown 28 = .ok (.iconst 1, 1)) rfl rfl ?_
  refine X_isub 30 (by decide +kernel : decode cX4_setDown 29 = .ok (.isub, 1)) rfl rfl ?_
  refine X_istore 32 (by decide +kernel : decode cX4_setDown 30 = .ok (.istore 5, 2)) rfl rfl (Nat.le_of_ble_eq_true rfl) rfl ?_
  refine X_iload_n 33 (by decide +kernel : decode cX4_setDown 32 = .ok (.iload_n 1, 1)) rfl rfl rfl ?_
  by_cases hr : x1 < 1 ∨ 11 < x1
  · exact X_tswD 235 (by decide +kernel : decode cX4_setDown 33 = .ok (.tableswitch 202 1 11 #[59, 75, 202, 90, 106, 202, 122, 138, 154, 170, 186], 59)) rfl (by decide) r13 hr (kd (by omega))
  · rcases (by omega : x1 = 1 ∨ x1 = 2 ∨ x1 = 3 ∨ x1 = 4 ∨ x1 = 5 ∨ x1 = 6 ∨ x1 = 7 ∨ x1 = 8 ∨ x1 = 9 ∨ x1 = 10 ∨ x1 = 11) with h | h | h | h | h | h | h | h | h | h | h
    · exact X_tswI 92 0 (by decide +kernel : decode cX4_setDown 33 = .ok (.tableswitch 202 1 11 #[59, 75, 202, 90, 106, 202, 122, 138, 154, 170, 186], 59)) rfl rfl (by decide) r13 (h.trans rfl) (by decide) (k0 h)
    · exact X_tswI 108 1 (by decide +kernel : decode cX4_setDown 33 = .ok (.tableswitch 202 1 11 #[59, 75, 202, 90, 106, 202, 122, 138, 154, 170, 186], 59)) rfl rfl (by decide) r13 (h.trans rfl) (by decide) (k1 h)
    · exact X_tswI 235 2 (by decide +kernel : decode cX4_setDown 33 = .ok (.tableswitch 202 1 11 #[59, 75, 202, 90, 106, 202, 122, 138, 154, 170, 186], 59)) rfl rfl (by decide) r13 (h.trans rfl) (by decide) (kd (by omega))
    · exact X_tswI 123 3 (by decide +kernel : decode cX4_setDown 33 = .ok (.tableswitch 202 1 11 #[59, 75, 202, 90, 106, 202, 122, 138, 154, 170, 186], 59)) rfl rfl (by decide) r13 (h.trans rfl) (by decide) (k3 h)
    · exact X_tswI 139 4 (by decide +kernel : decode cX4_setDown 33 = .ok (.tableswitch 202 1 11 #[59, 75, 202, 90, 106, 202, 122, 138, 154, 170, 186], 59)) rfl rfl (by decide) r13 (h.trans rfl) (by decide) (k4 h)
    · exact X_tswI 235 5 (by decide +kernel : decode cX4_setDown 33 = .ok (.tableswitch 202 1 11 #[59, 75, 202, 90, 106, 202, 122, 138, 154, 170, 186], 59)) rfl rfl (by decide) r13 (h.trans rfl) (by decide) (kd (by omega))
    · exact X_tswI 155 6 (by decide +kernel : decode cX4_setDown 33 = .ok (.tableswitch 202 1 11 #[59, 75, 202, 90, 106, 202, 122, 138, 154, 170, 186], 59)) rfl rfl (by decide) r13 (h.trans rfl) (by decide) (k6 h)
    · exact X_tswI 171 7 (by decide +kernel : decode cX4_setDown 33 = .ok (.tableswitch 202 1 11 #[59, 75, 202, 90, 106, 202, 122, 138, 154, 170, 186], 59)) rfl rfl (by decide) r13 (h.trans rfl) (by decide) (k7 h)
    · exact X_tswI 187 8 (by decide +kernel : decode cX4_setDown 33 = .ok (.tableswitch 202 1 11 #[59, 75, 202, 90, 106, 202, 122, 138, 154, 170, 186], 59)) rfl rfl (by decide) r13 (h.trans rfl) (by decide) (k8 h)
    · exact X_tswI 203 9 (by decide +kernel : decode cX4_setDown 33 = .ok (.tableswitch 202 1 11 #[59, 75, 202, 90, 106, 202, 122, 138, 154, 170, 186], 59)) rfl rfl (by decide) r13 (h.trans rfl) (by decide) (k9 h)
    · exact X_tswI 219 10 (by decide +kernel : decode cX4_setDown 33 = .ok (.tableswitch 202 1 11 #[59, 75, 202, 90, 106, 202, 122, 138, 154, 170, 186], 59)) rfl rfl (by decide) r13 (h.trans rfl) (by decide) (k10 h)
theorem kX4_setDown_92 {o0 : Option Value} {o1 : Option Value} {o2 : Option Value} {x3 : Int} {o4 : Option Value} {o5 : Option Value} (r1 : R32 x3) (k1 : x3 < 0 → X E d fX4_setDown 235 [o0, o1, o2, some (J x3), o4, o5] [] S (mI M) Q) (k2 : 0 ≤ x3 → X E d fX4_setDown 96 [o0, o1, o2, some (J x3), o4, o5] [] S (mI M) Q) : X E d fX4_setDown 92 [o0, o1, o2, some (J x3), o4, o5] [] S (mI M) Q := by
  refine X_iload_n 93 (by decide +kernel : decode cX4_setDown 92 = .ok (.iload_n 3, 1)) rfl rfl rfl ?_
  exact X_iflt 235 96 (by decide +kernel : decode cX4_setDown 93 = .ok (.ifCond .lt 142, 3)) rfl rfl (by decide) r1 k1 k2
theorem kX4_setDown_96 {a0 : Nat} {o1 : Option Value} {x2 : Int} {x3 : Int} {o4 : Option Value} {o5 : Option Value} {b2 : Nat} (g1 : aKd S a0 = 6) (p3 : aP S a0 2 = some b2) (hd1 : 1 ≤ d) (k : X E (d - 1) fX3_layMiles 0 [some (.ref b2), some (J x3), some (J x2), none] [] S (mI M) (Kr E d fX4_setDown 105 [some (.ref a0), o1, some (J x2), some (J x3), o4, o5] [] Q)) (g4 : aKd S b2 = 5) : X E d fX4_setDown 96 [some (.ref a0), o1, some (J x2), some (J x3), o4, o5] [] S (mI M) Q := by
  refine X_aload_n 97 (by decide +kernel : decode cX4_setDown 96 = .ok (.aload_n 0, 1)) rfl rfl rfl ?_
  refine X_getR 100 (by decide +kernel : decode cX4_setDown 97 = .ok (.getfield 29, 3)) rfl rfl (by decide +kernel : aFd 6 29 = some (6, 2, true, false)) g1 p3 ?_
  refine X_iload_n 101 (by decide +kernel : decode cX4_setDown 100 = .ok (.iload_n 3, 1)) rfl rfl rfl ?_
  refine X_iload_n 102 (by decide +kernel : decode cX4_setDown 101 = .ok (.iload_n 2, 1)) rfl rfl rfl ?_
  exact X_cv (as := [J x2, J x3]) (rest := []) (by decide +kernel : decode cX4_setDown 102 = .ok (.invokevirtual 103, 3)) (Or.inl ⟨rfl, rfl, rfl⟩) rfl rfl rfl rfl rfl (Nat.le_of_ble_eq_true rfl) (Or.inr (Or.inr (by rw [g4]; rfl))) hd1 k
theorem kX4_setDown_105 {o0 : Option Value} {o1 : Option Value} {o2 : Option Value} {o3 : Option Value} {o4 : Option Value} {o5 : Option Value} (k : X E d fX4_setDown 235 [o0, o1, o2, o3, o4, o5] [] S (mI M) Q) : X E d fX4_setDown 105 [o0, o1, o2, o3, o4, o5] [] S (mI M) Q := by
  exact X_goto 235 (by decide +kernel : decode cX4_setDown 105 = .ok (.goto 130, 3)) rfl (by decide) k
theorem kX4_setDown_108 {a0 : Nat} {o1 : Option Value} {x2 : Int} {x3 : Int} {o4 : Option Value} {o5 : Option Value} {b2 : Nat} {b5 : Nat} (g1 : aKd S a0 = 6) (p3 : aP S a0 2 = some b2) (g4 : aKd S b2 = 5) (p6 : aP S b2 6 = some b5) (hd1 : 1 ≤ d) (k : X E (d - 1) fX4_put 0 [some (.ref b5), some (J x3), some (J x2)] [] S (mI M) (Kr E d fX4_setDown 120 [some (.ref a0), o1, some (J x2), some (J x3), o4, o5] [] Q)) : X E d fX4_setDown 108 [some (.ref a0), o1, some (J x2), some (J x3), o4, o5] [] S (mI M) Q := by
  refine X_aload_n 109 (by decide +kernel : decode cX4_setDown 108 = .ok (.aload_n 0, 1)) rfl rfl rfl ?_
  refine X_getR 112 (by decide +kernel : decode cX4_setDown 109 = .ok (.getfield 29, 3)) rfl rfl (by decide +kernel : aFd 6 29 = some (6, 2, true, false)) g1 p3 ?_
  refine X_getR 115 (by decide +kernel : decode cX4_setDown 112 = .ok (.getfield 106, 3)) rfl rfl (by decide +kernel : aFd 6 106 = some (5, 6, true, true)) g4 p6 ?_
  refine X_iload_n 116 (by decide +kernel : decode cX4_setDown 115 = .ok (.iload_n 3, 1)) rfl rfl rfl ?_
  refine X_iload_n 117 (by decide +kernel : decode cX4_setDown 116 = .ok (.iload_n 2, 1)) rfl rfl rfl ?_
  exact X_cs (as := [J x2, J x3, .ref b5]) (rest := []) (by decide +kernel : decode cX4_setDown 117 = .ok (.invokestatic 109, 3)) rfl rfl rfl rfl rfl rfl rfl (Nat.le_of_ble_eq_true rfl) hd1 k
theorem kX4_setDown_120 {o0 : Option Value} {o1 : Option Value} {o2 : Option Value} {o3 : Option Value} {o4 : Option Value} {o5 : Option Value} (k : X E d fX4_setDown 235 [o0, o1, o2, o3, o4, o5] [] S (mI M) Q) : X E d fX4_setDown 120 [o0, o1, o2, o3, o4, o5] [] S (mI M) Q := by
  exact X_goto 235 (by decide +kernel : decode cX4_setDown 120 = .ok (.goto 115, 3)) rfl (by decide) k
theorem kX4_setDown_123 {a0 : Nat} {o1 : Option Value} {x2 : Int} {o3 : Option Value} {x4 : Int} {o5 : Option Value} {b2 : Nat} {b5 : Nat} (g1 : aKd S a0 = 6) (p3 : aP S a0 2 = some b2) (g4 : aKd S b2 = 5) (p6 : aP S b2 8 = some b5) (hd1 : 1 ≤ d) (k : X E (d - 1) fX4_put 0 [some (.ref b5), some (J x4), some (J x2)] [] S (mI M) (Kr E d fX4_setDown 136 [some (.ref a0), o1, some (J x2), o3, some (J x4), o5] [] Q)) : X E d fX4_setDown 123 [some (.ref a0), o1, some (J x2), o3, some (J x4), o5] [] S (mI M) Q := by
  refine X_aload_n 124 (by decide +kernel : decode cX4_setDown 123 = .ok (.aload_n 0, 1)) rfl rfl rfl ?_
  refine X_getR 127 (by decide +kernel : decode cX4_setDown 124 = .ok (.getfield 29, 3)) rfl rfl (by decide +kernel : aFd 6 29 = some (6, 2, true, false)) g1 p3 ?_
  refine X_getR 130 (by decide +kernel : decode cX4_setDown 127 = .ok (.getfield 113, 3)) rfl rfl (by decide +kernel : aFd 6 113 = some (5, 8, true, true)) g4 p6 ?_
  refine X_iload 132 (by decide +kernel : decode cX4_setDown 130 = .ok (.iload 4, 2)) rfl rfl rfl ?_
  refine X_iload_n 133 (by decide +kernel : decode cX4_setDown 132 = .ok (.iload_n 2, 1)) rfl rfl rfl ?_
  exact X_cs (as := [J x2, J x4, .ref b5]) (rest := []) (by decide +kernel : decode cX4_setDown 133 = .ok (.invokestatic 109, 3)) rfl rfl rfl rfl rfl rfl rfl (Nat.le_of_ble_eq_true rfl) hd1 k
theorem kX4_setDown_136 {o0 : Option Value} {o1 : Option Value} {o2 : Option Value} {o3 : Option Value} {o4 : Option Value} {o5 : Option Value} (k : X E d fX4_setDown 235 [o0, o1, o2, o3, o4, o5] [] S (mI M) Q) : X E d fX4_setDown 136 [o0, o1, o2, o3, o4, o5] [] S (mI M) Q := by
  exact X_goto 235 (by decide +kernel : decode cX4_setDown 136 = .ok (.goto 99, 3)) rfl (by decide) k
theorem kX4_setDown_139 {a0 : Nat} {o1 : Option Value} {x2 : Int} {o3 : Option Value} {x4 : Int} {o5 : Option Value} {b2 : Nat} {b5 : Nat} (g1 : aKd S a0 = 6) (p3 : aP S a0 2 = some b2) (g4 : aKd S b2 = 5) (p6 : aP S b2 9 = some b5) (hd1 : 1 ≤ d) (k : X E (d - 1) fX4_put 0 [some (.ref b5), some (J x4), some (J x2)] [] S (mI M) (Kr E d fX4_setDown 152 [some (.ref a0), o1, some (J x2), o3, some (J x4), o5] [] Q)) : X E d fX4_setDown 139 [some (.ref a0), o1, some (J x2), o3, some (J x4), o5] [] S (mI M) Q := by
  refine X_aload_n 140 (by decide +kernel : decode cX4_setDown 139 = .ok (.aload_n 0, 1)) rfl rfl rfl ?_
  refine X_getR 143 (by decide +kernel : decode cX4_setDown 140 = .ok (.getfield 29, 3)) rfl rfl (by decide +kernel : aFd 6 29 = some (6, 2, true, false)) g1 p3 ?_
  refine X_getR 146 (by decide +kernel : decode cX4_setDown 143 = .ok (.getfield 116, 3)) rfl rfl (by decide +kernel : aFd 6 116 = some (5, 9, true, true)) g4 p6 ?_
  refine X_iload 148 (by decide +kernel : decode cX4_setDown 146 = .ok (.iload 4, 2)) rfl rfl rfl ?_
  refine X_iload_n 149 (by decide +kernel : decode cX4_setDown 148 = .ok (.iload_n 2, 1)) rfl rfl rfl ?_
  exact X_cs (as := [J x2, J x4, .ref b5]) (rest := []) (by decide +kernel : decode cX4_setDown 149 = .ok (.invokestatic 109, 3)) rfl rfl rfl rfl rfl rfl rfl (Nat.le_of_ble_eq_true rfl) hd1 k
theorem kX4_setDown_152 {o0 : Option Value} {o1 : Option Value} {o2 : Option Value} {o3 : Option Value} {o4 : Option Value} {o5 : Option Value} (k : X E d fX4_setDown 235 [o0, o1, o2, o3, o4, o5] [] S (mI M) Q) : X E d fX4_setDown 152 [o0, o1, o2, o3, o4, o5] [] S (mI M) Q := by
  exact X_goto 235 (by decide +kernel : decode cX4_setDown 152 = .ok (.goto 83, 3)) rfl (by decide) k
theorem kX4_setDown_155 {a0 : Nat} {o1 : Option Value} {x2 : Int} {o3 : Option Value} {o4 : Option Value} {x5 : Int} {b2 : Nat} {b5 : Nat} (g1 : aKd S a0 = 6) (p3 : aP S a0 2 = some b2) (g4 : aKd S b2 = 5) (p6 : aP S b2 10 = some b5) (hd1 : 1 ≤ d) (k : X E (d - 1) fX4_put 0 [some (.ref b5), some (J x5), some (J x2)] [] S (mI M) (Kr E d fX4_setDown 168 [some (.ref a0), o1, some (J x2), o3, o4, some (J x5)] [] Q)) : X E d fX4_setDown 155 [some (.ref a0), o1, some (J x2), o3, o4, some (J x5)] [] S (mI M) Q := by
  refine X_aload_n 156 (by decide +kernel : decode cX4_setDown 155 = .ok (.aload_n 0, 1)) rfl rfl rfl ?_
  refine X_getR 159 (by decide +kernel : decode cX4_setDown 156 = .ok (.getfield 29, 3)) rfl rfl (by decide +kernel : aFd 6 29 = some (6, 2, true, false)) g1 p3 ?_
  refine X_getR 162 (by decide +kernel : decode cX4_setDown 159 = .ok (.getfield 119, 3)) rfl rfl (by decide +kernel : aFd 6 119 = some (5, 10, true, true)) g4 p6 ?_
  refine X_iload 164 (by decide +kernel : decode cX4_setDown 162 = .ok (.iload 5, 2)) rfl rfl rfl ?_
  refine X_iload_n 165 (by decide +kernel : decode cX4_setDown 164 = .ok (.iload_n 2, 1)) rfl rfl rfl ?_
  exact X_cs (as := [J x2, J x5, .ref b5]) (rest := []) (by decide +kernel : decode cX4_setDown 165 = .ok (.invokestatic 109, 3)) rfl rfl rfl rfl rfl rfl rfl (Nat.le_of_ble_eq_true rfl) hd1 k
theorem kX4_setDown_168 {o0 : Option Value} {o1 : Option Value} {o2 : Option Value} {o3 : Option Value} {o4 : Option Value} {o5 : Option Value} (k : X E d fX4_setDown 235 [o0, o1, o2, o3, o4, o5] [] S (mI M) Q) : X E d fX4_setDown 168 [o0, o1, o2, o3, o4, o5] [] S (mI M) Q := by
  exact X_goto 235 (by decide +kernel : decode cX4_setDown 168 = .ok (.goto 67, 3)) rfl (by decide) k
theorem kX4_setDown_171 {a0 : Nat} {o1 : Option Value} {x2 : Int} {o3 : Option Value} {o4 : Option Value} {x5 : Int} {b2 : Nat} {b5 : Nat} (g1 : aKd S a0 = 6) (p3 : aP S a0 2 = some b2) (g4 : aKd S b2 = 5) (p6 : aP S b2 11 = some b5) (hd1 : 1 ≤ d) (k : X E (d - 1) fX4_put 0 [some (.ref b5), some (J x5), some (J x2)] [] S (mI M) (Kr E d fX4_setDown 184 [some (.ref a0), o1, some (J x2), o3, o4, some (J x5)] [] Q)) : X E d fX4_setDown 171 [some (.ref a0), o1, some (J x2), o3, o4, some (J x5)] [] S (mI M) Q := by
  refine X_aload_n 172 (by decide +kernel : decode cX4_setDown 171 = .ok (.aload_n 0, 1)) rfl rfl rfl ?_
  refine X_getR 175 (by decide +kernel : decode cX4_setDown 172 = .ok (.getfield 29, 3)) rfl rfl (by decide +kernel : aFd 6 29 = some (6, 2, true, false)) g1 p3 ?_
  refine X_getR 178 (by decide +kernel : decode cX4_setDown 175 = .ok (.getfield 122, 3)) rfl rfl (by decide +kernel : aFd 6 122 = some (5, 11, true, true)) g4 p6 ?_
  refine X_iload 180 (by decide +kernel : decode cX4_setDown 178 = .ok (.iload 5, 2)) rfl rfl rfl ?_
  refine X_iload_n 181 (by decide +kernel : decode cX4_setDown 180 = .ok (.iload_n 2, 1)) rfl rfl rfl ?_
  exact X_cs (as := [J x2, J x5, .ref b5]) (rest := []) (by decide +kernel : decode cX4_setDown 181 = .ok (.invokestatic 109, 3)) rfl rfl rfl rfl rfl rfl rfl (Nat.le_of_ble_eq_true rfl) hd1 k
theorem kX4_setDown_184 {o0 : Option Value} {o1 : Option Value} {o2 : Option Value} {o3 : Option Value} {o4 : Option Value} {o5 : Option Value} (k : X E d fX4_setDown 235 [o0, o1, o2, o3, o4, o5] [] S (mI M) Q) : X E d fX4_setDown 184 [o0, o1, o2, o3, o4, o5] [] S (mI M) Q := by
  exact X_goto 235 (by decide +kernel : decode cX4_setDown 184 = .ok (.goto 51, 3)) rfl (by decide) k
theorem kX4_setDown_187 {a0 : Nat} {o1 : Option Value} {x2 : Int} {o3 : Option Value} {o4 : Option Value} {x5 : Int} {b2 : Nat} {b5 : Nat} (g1 : aKd S a0 = 6) (p3 : aP S a0 2 = some b2) (g4 : aKd S b2 = 5) (p6 : aP S b2 12 = some b5) (hd1 : 1 ≤ d) (k : X E (d - 1) fX4_put 0 [some (.ref b5), some (J x5), some (J x2)] [] S (mI M) (Kr E d fX4_setDown 200 [some (.ref a0), o1, some (J x2), o3, o4, some (J x5)] [] Q)) : X E d fX4_setDown 187 [some (.ref a0), o1, some (J x2), o3, o4, some (J x5)] [] S (mI M) Q := by
  refine X_aload_n 188 (by decide +kernel : decode cX4_setDown 187 = .ok (.aload_n 0, 1)) rfl rfl rfl ?_
  refine X_getR 191 (by decide +kernel : decode cX4_setDown 188 = .ok (.getfield 29, 3)) rfl rfl (by decide +kernel : aFd 6 29 = some (6, 2, true, false)) g1 p3 ?_
  refine X_getR 194 (by decide +kernel : decode cX4_setDown 191 = .ok (.getfield 125, 3)) rfl rfl (by decide +kernel : aFd 6 125 = some (5, 12, true, true)) g4 p6 ?_
  refine X_iload 196 (by decide +kernel : decode cX4_setDown 194 = .ok (.iload 5, 2)) rfl rfl rfl ?_
  refine X_iload_n 197 (by decide +kernel : decode cX4_setDown 196 = .ok (.iload_n 2, 1)) rfl rfl rfl ?_
  exact X_cs (as := [J x2, J x5, .ref b5]) (rest := []) (by decide +kernel : decode cX4_setDown 197 = .ok (.invokestatic 109, 3)) rfl rfl rfl rfl rfl rfl rfl (Nat.le_of_ble_eq_true rfl) hd1 k
theorem kX4_setDown_200 {o0 : Option Value} {o1 : Option Value} {o2 : Option Value} {o3 : Option Value} {o4 : Option Value} {o5 : Option Value} (k : X E d fX4_setDown 235 [o0, o1, o2, o3, o4, o5] [] S (mI M) Q) : X E d fX4_setDown 200 [o0, o1, o2, o3, o4, o5] [] S (mI M) Q := by
  exact X_goto 235 (by decide +kernel : decode cX4_setDown 200 = .ok (.goto 35, 3)) rfl (by decide) k
theorem kX4_setDown_203 {a0 : Nat} {o1 : Option Value} {x2 : Int} {o3 : Option Value} {o4 : Option Value} {x5 : Int} {b2 : Nat} {b5 : Nat} (g1 : aKd S a0 = 6) (p3 : aP S a0 2 = some b2) (g4 : aKd S b2 = 5) (p6 : aP S b2 13 = some b5) (hd1 : 1 ≤ d) (k : X E (d - 1) fX4_put 0 [some (.ref b5), some (J x5), some (J x2)] [] S (mI M) (Kr E d fX4_setDown 216 [some (.ref a0), o1, some (J x2), o3, o4, some (J x5)] [] Q)) : X E d fX4_setDown 203 [some (.ref a0), o1, some (J x2), o3, o4, some (J x5)] [] S (mI M) Q := by
  refine X_aload_n 204 (by decide +kernel : decode cX4_setDown 203 = .ok (.aload_n 0, 1)) rfl rfl rfl ?_
  refine X_getR 207 (by decide +kernel : decode cX4_setDown 204 = .ok (.getfield 29, 3)) rfl rfl (by decide +kernel : aFd 6 29 = some (6, 2, true, false)) g1 p3 ?_
  refine X_getR 210 (by decide +kernel : decode cX4_setDown 207 = .ok (.getfield 128, 3)) rfl rfl (by decide +kernel : aFd 6 128 = some (5, 13, true, true)) g4 p6 ?_
  refine X_iload 212 (by decide +kernel : decode cX4_setDown 210 = .ok (.iload 5, 2)) rfl rfl rfl ?_
  refine X_iload_n 213 (by decide +kernel : decode cX4_setDown 212 = .ok (.iload_n 2, 1)) rfl rfl rfl ?_
  exact X_cs (as := [J x2, J x5, .ref b5]) (rest := []) (by decide +kernel : decode cX4_setDown 213 = .ok (.invokestatic 109, 3)) rfl rfl rfl rfl rfl rfl rfl (Nat.le_of_ble_eq_true rfl) hd1 k
theorem kX4_setDown_216 {o0 : Option Value} {o1 : Option Value} {o2 : Option Value} {o3 : Option Value} {o4 : Option Value} {o5 : Option Value} (k : X E d fX4_setDown 235 [o0, o1, o2, o3, o4, o5] [] S (mI M) Q) : X E d fX4_setDown 216 [o0, o1, o2, o3, o4, o5] [] S (mI M) Q := by
  exact X_goto 235 (by decide +kernel : decode cX4_setDown 216 = .ok (.goto 19, 3)) rfl (by decide) k
theorem kX4_setDown_219 {a0 : Nat} {o1 : Option Value} {x2 : Int} {o3 : Option Value} {o4 : Option Value} {x5 : Int} {b2 : Nat} {b5 : Nat} (g1 : aKd S a0 = 6) (p3 : aP S a0 2 = some b2) (g4 : aKd S b2 = 5) (p6 : aP S b2 14 = some b5) (hd1 : 1 ≤ d) (k : X E (d - 1) fX4_put 0 [some (.ref b5), some (J x5), some (J x2)] [] S (mI M) (Kr E d fX4_setDown 232 [some (.ref a0), o1, some (J x2), o3, o4, some (J x5)] [] Q)) : X E d fX4_setDown 219 [some (.ref a0), o1, some (J x2), o3, o4, some (J x5)] [] S (mI M) Q := by
  refine X_aload_n 220 (by decide +kernel : decode cX4_setDown 219 = .ok (.aload_n 0, 1)) rfl rfl rfl ?_
  refine X_getR 223 (by decide +kernel : decode cX4_setDown 220 = .ok (.getfield 29, 3)) rfl rfl (by decide +kernel : aFd 6 29 = some (6, 2, true, false)) g1 p3 ?_
  refine X_getR 226 (by decide +kernel : decode cX4_setDown 223 = .ok (.getfield 131, 3)) rfl rfl (by decide +kernel : aFd 6 131 = some (5, 14, true, true)) g4 p6 ?_
  refine X_iload 228 (by decide +kernel : decode cX4_setDown 226 = .ok (.iload 5, 2)) rfl rfl rfl ?_
  refine X_iload_n 229 (by decide +kernel : decode cX4_setDown 228 = .ok (.iload_n 2, 1)) rfl rfl rfl ?_
  exact X_cs (as := [J x2, J x5, .ref b5]) (rest := []) (by decide +kernel : decode cX4_setDown 229 = .ok (.invokestatic 109, 3)) rfl rfl rfl rfl rfl rfl rfl (Nat.le_of_ble_eq_true rfl) hd1 k
theorem kX4_setDown_232 {o0 : Option Value} {o1 : Option Value} {o2 : Option Value} {o3 : Option Value} {o4 : Option Value} {o5 : Option Value} (k : X E d fX4_setDown 235 [o0, o1, o2, o3, o4, o5] [] S (mI M) Q) : X E d fX4_setDown 232 [o0, o1, o2, o3, o4, o5] [] S (mI M) Q := by
  exact X_goto 235 (by decide +kernel : decode cX4_setDown 232 = .ok (.goto 3, 3)) rfl (by decide) k
theorem kX4_setDown_235 {o0 : Option Value} {o1 : Option Value} {o2 : Option Value} {o3 : Option Value} {o4 : Option Value} {o5 : Option Value} (q : Q (some none) S (mI M)) : X E d fX4_setDown 235 [o0, o1, o2, o3, o4, o5] [] S (mI M) Q := by
  exact X_vret (by decide +kernel : decode cX4_setDown 235 = .ok (.return_, 1)) rfl rfl q
theorem kX4_put_0 {a0 : Nat} {x1 : Int} {o2 : Option Value} (g1 : aKd S a0 = 100 ∨ aKd S a0 = 101 ∨ aKd S a0 = 102) (hd1 : 1 ≤ d) (k : X E (d - 1) fX7_isOutside 0 [some (J x1), some (J (aN S a0 : Int))] [] S (mI M) (Kr E d fX4_put 6 [some (.ref a0), some (J x1), o2] [] Q)) : X E d fX4_put 0 [some (.ref a0), some (J x1), o2] [] S (mI M) Q := by
  refine X_iload_n 1 (by decide +kernel : decode cX4_put 0 = .ok (.iload_n 1, 1)) rfl rfl rfl ?_
  refine X_aload_n 2 (by decide +kernel : decode cX4_put 1 = .ok (.aload_n 0, 1)) rfl rfl rfl ?_
  refine X_alen 3 (by decide +kernel : decode cX4_put 2 = .ok (.arraylength, 1)) rfl rfl g1 ?_
  exact X_cs (as := [J (aN S a0 : Int), J x1]) (rest := []) (by decide +kernel : decode cX4_put 3 = .ok (.invokestatic 134, 3)) rfl rfl rfl rfl rfl rfl rfl (Nat.le_of_ble_eq_true rfl) hd1 k
theorem kX4_put_6 {o0 : Option Value} {o1 : Option Value} {o2 : Option Value} {t0 : Int} (r1 : R32 t0) (k1 : t0 ≠ 0 → X E d fX4_put 13 [o0, o1, o2] [] S (mI M) Q) (k2 : t0 = 0 → X E d fX4_put 9 [o0, o1, o2] [] S (mI M) Q) : X E d fX4_put 6 [o0, o1, o2] [J t0] S (mI M) Q := by
  exact X_ifne 13 9 (by decide +kernel : decode cX4_put 6 = .ok (.ifCond .ne 7, 3)) rfl rfl (by decide) r1 k1 k2
theorem kX4_put_9 {a0 : Nat} {x1 : Int} {x2 : Int} (g1 : aK S a0 = 100) (r2 : R32 x1) (h3 : (0 : Int) ≤ x1 ∧ x1 < (aN S a0 : Int)) (k : X E d fX4_put 13 [some (.ref a0), some (J x1), some (J x2)] [] S (mI (mW M a0 x1.toNat x2)) Q) : X E d fX4_put 9 [some (.ref a0), some (J x1), some (J x2)] [] S (mI M) Q := by
  refine X_aload_n 10 (by decide +kernel : decode cX4_put 9 = .ok (.aload_n 0, 1)) rfl rfl rfl ?_
  refine X_iload_n 11 (by decide +kernel : decode cX4_put 10 = .ok (.iload_n 1, 1)) rfl rfl rfl ?_
  refine X_iload_n 12 (by decide +kernel : decode cX4_put 11 = .ok (.iload_n 2, 1)) rfl rfl rfl ?_
  refine X_iast 13 (by decide +kernel : decode cX4_put 12 = .ok (.iastore, 1)) rfl rfl g1 r2 h3 ?_
  exact k
theorem kX4_put_13 {o0 : Option Value} {o1 : Option Value} {o2 : Option Value} (q : Q (some none) S (mI M)) : X E d fX4_put 13 [o0, o1, o2] [] S (mI M) Q := by
  exact X_vret (by decide +kernel : decode cX4_put 13 = .ok (.return_, 1)) rfl rfl q
theorem kX1_link_0 {o0 : Option Value} {o1 : Option Value} {o2 : Option Value} (k : X E d fX1_link 2 [o0, o1, some (J 0)] [] S (mI M) Q) : X E d fX1_link 0 [o0, o1, o2] [] S (mI M) Q := by
  refine X_iconst 1 (by decide +kernel : decode cX1_link 0 = .ok (.iconst 0, 1)) rfl rfl ?_
  refine X_istore_n 2 (by decide +kernel : decode cX1_link 1 = .ok (.istore_n 2, 1)) rfl rfl (Nat.le_of_ble_eq_true rfl) rfl ?_
  exact k
theorem kX1_link_2 {a0 : Nat} {o1 : Option Value} {x2 : Int} (g1 : aKd S a0 = 3) (r2 : R32 x2) (r3 : R32 (M a0 8)) (k1 : (M a0 8) ≤ x2 → X E d fX1_link 35 [some (.ref a0), o1, some (J x2)] [] S (mI M) Q) (k2 : x2 < (M a0 8) → X E d fX1_link 10 [some (.ref a0), o1, some (J x2)] [] S (mI M) Q) : X E d fX1_link 2 [some (.ref a0), o1, some (J x2)] [] S (mI M) Q := by
  refine X_iload_n 3 (by decide +kernel : decode cX1_link 2 = .ok (.iload_n 2, 1)) rfl rfl rfl ?_
  refine X_aload_n 4 (by decide +kernel : decode cX1_link 3 = .ok (.aload_n 0, 1)) rfl rfl rfl ?_
  refine X_getI 7 (by decide +kernel : decode cX1_link 4 = .ok (.getfield 43, 3)) rfl rfl (by decide +kernel : aFd 3 43 = some (3, 8, false, false)) g1 ?_
  exact X_icmpge 35 10 (by decide +kernel : decode cX1_link 7 = .ok (.if_icmp .ge 28, 3)) rfl rfl (by decide) r2 r3 k1 k2
theorem kX1_link_10 {a0 : Nat} {a1 : Nat} {x2 : Int} {b2 : Nat} {b5 : Nat} (g1 : aKd S a0 = 3) (p3 : aP S a0 10 = some b2) (g4 : aKd S a1 = 7) (p6 : aP S a1 3 = some b5) (g10 : aKd S b2 = 100) (r11 : R32 x2) (h12 : (0 : Int) ≤ x2 ∧ x2 < (aN S b2 : Int)) (hd1 : 1 ≤ d) (k : X E (d - 1) fX7_valueAt 0 [some (.ref b5), some (J (M b2 x2.toNat))] [] S (mI M) (Kr E d fX1_link 28 [some (.ref a0), some (.ref a1), some (J x2)] [J x2, .ref b2] Q)) : X E d fX1_link 10 [some (.ref a0), some (.ref a1), some (J x2)] [] S (mI M) Q := by
  refine X_aload_n 11 (by decide +kernel : decode cX1_link 10 = .ok (.aload_n 0, 1)) rfl rfl rfl ?_
  refine X_getR 14 (by decide +kernel : decode cX1_link 11 = .ok (.getfield 36, 3)) rfl rfl (by decide +kernel : aFd 3 36 = some (3, 10, true, true)) g1 p3 ?_
  refine X_iload_n 15 (by decide +kernel : decode cX1_link 14 = .ok (.iload_n 2, 1)) rfl rfl rfl ?_
  refine X_aload_n 16 (by decide +kernel : decode cX1_link 15 = .ok (.aload_n 1, 1)) rfl rfl rfl ?_
  refine X_getR 19 (by decide +kernel : decode cX1_link 16 = .ok (.getfield 46, 3)) rfl rfl (by decide +kernel : aFd 3 46 = some (7, 3, true, true)) g4 p6 ?_
  refine X_aload_n 20 (by decide +kernel : decode cX1_link 19 = .ok (.aload_n 0, 1)) rfl rfl rfl ?_
  refine X_getR 23 (by decide +kernel : decode cX1_link 20 = .ok (.getfield 36, 3)) rfl rfl (by decide +kernel : aFd 3 36 = some (3, 10, true, true)) g1 p3 ?_
  refine X_iload_n 24 (by decide +kernel : decode cX1_link 23 = .ok (.iload_n 2, 1)) rfl rfl rfl ?_
  refine X_iald 25 (by decide +kernel : decode cX1_link 24 = .ok (.iaload, 1)) rfl rfl g10 r11 h12 ?_
  exact X_cs (as := [J (M b2 x2.toNat), .ref b5]) (rest := [J x2, .ref b2]) (by decide +kernel : decode cX1_link 25 = .ok (.invokestatic 51, 3)) rfl rfl rfl rfl rfl rfl rfl (Nat.le_of_ble_eq_true rfl) hd1 k
theorem kX1_link_28 {o0 : Option Value} {o1 : Option Value} {x2 : Int} {t0 : Int} {t1 : Int} {u2 : Nat} (g1 : aK S u2 = 100) (r2 : R32 t1) (h3 : (0 : Int) ≤ t1 ∧ t1 < (aN S u2 : Int)) (k : X E d fX1_link 2 [o0, o1, some (J (x2 + 1))] [] S (mI (mW M u2 t1.toNat t0)) Q) : X E d fX1_link 28 [o0, o1, some (J x2)] [J t0, J t1, .ref u2] S (mI M) Q := by
  refine X_iast 29 (by decide +kernel : decode cX1_link 28 = .ok (.iastore, 1)) rfl rfl g1 r2 h3 ?_
  refine X_iinc 32 (by decide +kernel : decode cX1_link 29 = .ok (.iinc 2 1, 3)) rfl rfl rfl rfl ?_
  exact X_goto 2 (by decide +kernel : decode cX1_link 32 = .ok (.goto (-30), 3)) rfl (by decide) k
theorem kX1_link_35 {o0 : Option Value} {o1 : Option Value} {o2 : Option Value} (k : X E d fX1_link 37 [o0, o1, some (J 0)] [] S (mI M) Q) : X E d fX1_link 35 [o0, o1, o2] [] S (mI M) Q := by
  refine X_iconst 36 (by decide +kernel : decode cX1_link 35 = .ok (.iconst 0, 1)) rfl rfl ?_
  refine X_istore_n 37 (by decide +kernel : decode cX1_link 36 = .ok (.istore_n 2, 1)) rfl rfl (Nat.le_of_ble_eq_true rfl) rfl ?_
  exact k
theorem kX1_link_37 {a0 : Nat} {o1 : Option Value} {x2 : Int} (g1 : aKd S a0 = 3) (r2 : R32 x2) (r3 : R32 (M a0 0)) (k1 : (M a0 0) ≤ x2 → X E d fX1_link 93 [some (.ref a0), o1, some (J x2)] [] S (mI M) Q) (k2 : x2 < (M a0 0) → X E d fX1_link 45 [some (.ref a0), o1, some (J x2)] [] S (mI M) Q) : X E d fX1_link 37 [some (.ref a0), o1, some (J x2)] [] S (mI M) Q := by
  refine X_iload_n 38 (by decide +kernel : decode cX1_link 37 = .ok (.iload_n 2, 1)) rfl rfl rfl ?_
  refine X_aload_n 39 (by decide +kernel : decode cX1_link 38 = .ok (.aload_n 0, 1)) rfl rfl rfl ?_
  refine X_getI 42 (by decide +kernel : decode cX1_link 39 = .ok (.getfield 39, 3)) rfl rfl (by decide +kernel : aFd 3 39 = some (3, 0, false, false)) g1 ?_
  exact X_icmpge 93 45 (by decide +kernel : decode cX1_link 42 = .ok (.if_icmp .ge 51, 3)) rfl rfl (by decide) r2 r3 k1 k2
theorem kX1_link_45 {a0 : Nat} {a1 : Nat} {x2 : Int} {b2 : Nat} {b5 : Nat} {b8 : Nat} (g1 : aKd S a0 = 3) (p3 : aP S a0 3 = some b2) (g4 : aKd S a1 = 7) (p6 : aP S a1 3 = some b5) (p9 : aP S a0 2 = some b8) (g10 : aKd S b8 = 100) (r11 : R32 x2) (h12 : (0 : Int) ≤ x2 ∧ x2 < (aN S b8 : Int)) (hd1 : 1 ≤ d) (k : X E (d - 1) fX7_valueAt 0 [some (.ref b5), some (J ((M b8 x2.toNat) + 1))] [] S (mI M) (Kr E d fX1_link 65 [some (.ref a0), some (.ref a1), some (J x2)] [J x2, .ref b2] Q)) : X E d fX1_link 45 [some (.ref a0), some (.ref a1), some (J x2)] [] S (mI M) Q := by
  refine X_aload_n 46 (by decide +kernel : decode cX1_link 45 = .ok (.aload_n 0, 1)) rfl rfl rfl ?_
  refine X_getR 49 (by decide +kernel : decode cX1_link 46 = .ok (.getfield 18, 3)) rfl rfl (by decide +kernel : aFd 3 18 = some (3, 3, true, true)) g1 p3 ?_
  refine X_iload_n 50 (by decide +kernel : decode cX1_link 49 = .ok (.iload_n 2, 1)) rfl rfl rfl ?_
  refine X_aload_n 51 (by decide +kernel : decode cX1_link 50 = .ok (.aload_n 1, 1)) rfl rfl rfl ?_
  refine X_getR 54 (by decide +kernel : decode cX1_link 51 = .ok (.getfield 46, 3)) rfl rfl (by decide +kernel : aFd 3 46 = some (7, 3, true, true)) g4 p6 ?_
  refine X_aload_n 55 (by decide +kernel : decode cX1_link 54 = .ok (.aload_n 0, 1)) rfl rfl rfl ?_
  refine X_getR 58 (by decide +kernel : decode cX1_link 55 = .ok (.getfield 15, 3)) rfl rfl (by decide +kernel : aFd 3 15 = some (3, 2, true, true)) g1 p9 ?_
  refine X_iload_n 59 (by decide +kernel : decode cX1_link 58 = .ok (.iload_n 2, 1)) rfl rfl rfl ?_
  refine X_iald 60 (by decide +kernel : decode cX1_link 59 = .ok (.iaload, 1)) rfl rfl g10 r11 h12 ?_
  refine X_iconst 61 (by decide +kernel : decode cX1_link 60 = .ok (.iconst 1, 1)) rfl rfl ?_
  refine X_iadd 62 (by decide +kernel : decode cX1_link 61 = .ok (.iadd, 1)) rfl rfl ?_
  exact X_cs (as := [J ((M b8 x2.toNat) + 1), .ref b5]) (rest := [J x2, .ref b2]) (by decide +kernel : decode cX1_link 62 = .ok (.invokestatic 51, 3)) rfl rfl rfl rfl rfl rfl rfl (Nat.le_of_ble_eq_true rfl) hd1 k
theorem kX1_link_65 {a0 : Nat} {a1 : Nat} {x2 : Int} {t0 : Int} {t1 : Int} {u2 : Nat} {b5 : Nat} {b8 : Nat} {b11 : Nat} (g1 : aK S u2 = 100) (r2 : R32 t1) (h3 : (0 : Int) ≤ t1 ∧ t1 < (aN S u2 : Int)) (g4 : aKd S a0 = 3) (p6 : aP S a0 4 = some b5) (g7 : aKd S a1 = 7) (p9 : aP S a1 3 = some b8) (p12 : aP S a0 2 = some b11) (g13 : aKd S b11 = 100) (r14 : R32 x2) (h15 : (0 : Int) ≤ x2 ∧ x2 < (aN S b11 : Int)) (hd1 : 1 ≤ d) (k : X E (d - 1) fX7_valueAt 0 [some (.ref b8), some (J (((mW M u2 t1.toNat t0) b11 x2.toNat) + 3))] [] S (mI (mW M u2 t1.toNat t0)) (Kr E d fX1_link 86 [some (.ref a0), some (.ref a1), some (J x2)] [J x2, .ref b5] Q)) : X E d fX1_link 65 [some (.ref a0), some (.ref a1), some (J x2)] [J t0, J t1, .ref u2] S (mI M) Q := by
  refine X_iast 66 (by decide +kernel : decode cX1_link 65 = .ok (.iastore, 1)) rfl rfl g1 r2 h3 ?_
  refine X_aload_n 67 (by decide +kernel : decode cX1_link 66 = .ok (.aload_n 0, 1)) rfl rfl rfl ?_
  refine X_getR 70 (by decide +kernel : decode cX1_link 67 = .ok (.getfield 21, 3)) rfl rfl (by decide +kernel : aFd 3 21 = some (3, 4, true, true)) g4 p6 ?_
  refine X_iload_n 71 (by decide +kernel : decode cX1_link 70 = .ok (.iload_n 2, 1)) rfl rfl rfl ?_
  refine X_aload_n 72 (by decide +kernel : decode cX1_link 71 = .ok (.aload_n 1, 1)) rfl rfl rfl ?_
  refine X_getR 75 (by decide +kernel : decode cX1_link 72 = .ok (.getfield 46, 3)) rfl rfl (by decide +kernel : aFd 3 46 = some (7, 3, true, true)) g7 p9 ?_
  refine X_aload_n 76 (by decide +kernel : decode cX1_link 75 = .ok (.aload_n 0, 1)) rfl rfl rfl ?_
  refine X_getR 79 (by decide +kernel : decode cX1_link 76 = .ok (.getfield 15, 3)) rfl rfl (by decide +kernel : aFd 3 15 = some (3, 2, true, true)) g4 p12 ?_
  refine X_iload_n 80 (by decide +kernel : decode cX1_link 79 = .ok (.iload_n 2, 1)) rfl rfl rfl ?_
  refine X_iald 81 (by decide +kernel : decode cX1_link 80 = .ok (.iaload, 1)) rfl rfl g13 r14 h15 ?_
  refine X_iconst 82 (by decide +kernel : decode cX1_link 81 = .ok (.iconst 3, 1)) rfl rfl ?_
  refine X_iadd 83 (by decide +kernel : decode cX1_link 82 = .ok (.iadd, 1)) rfl rfl ?_
  exact X_cs (as := [J (((mW M u2 t1.toNat t0) b11 x2.toNat) + 3), .ref b8]) (rest := [J x2, .ref b5]) (by decide +kernel : decode cX1_link 83 = .ok (.invokestatic 51, 3)) rfl rfl rfl rfl rfl rfl rfl (Nat.le_of_ble_eq_true rfl) hd1 k
theorem kX1_link_86 {o0 : Option Value} {o1 : Option Value} {x2 : Int} {t0 : Int} {t1 : Int} {u2 : Nat} (g1 : aK S u2 = 100) (r2 : R32 t1) (h3 : (0 : Int) ≤ t1 ∧ t1 < (aN S u2 : Int)) (k : X E d fX1_link 37 [o0, o1, some (J (x2 + 1))] [] S (mI (mW M u2 t1.toNat t0)) Q) : X E d fX1_link 86 [o0, o1, some (J x2)] [J t0, J t1, .ref u2] S (mI M) Q := by
  refine X_iast 87 (by decide +kernel : decode cX1_link 86 = .ok (.iastore, 1)) rfl rfl g1 r2 h3 ?_
  refine X_iinc 90 (by decide +kernel : decode cX1_link 87 = .ok (.iinc 2 1, 3)) rfl rfl rfl rfl ?_
  exact X_goto 37 (by decide +kernel : decode cX1_link 90 = .ok (.goto (-53), 3)) rfl (by decide) k
theorem kX1_link_93 {o0 : Option Value} {o1 : Option Value} {o2 : Option Value} (q : Q (some none) S (mI M)) : X E d fX1_link 93 [o0, o1, o2] [] S (mI M) Q := by
  exact X_vret (by decide +kernel : decode cX1_link 93 = .ok (.return_, 1)) rfl rfl q
end
