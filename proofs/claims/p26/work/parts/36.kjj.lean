/-! straight pieces of methods, by program (wip/p26/blk.py): J0_length_8abf5 J0_coder_7d493 J0_charAt_5068e J0_isLatin1_aae02 J1_charAt_3b067 J0_checkIndex_df160 J3_checkIndex_8e157 J0_indexOf_0f7a4 J0_indexOf_7cf53 J1_indexOf_4cfef J1_canEncode_9a6ad J1_indexOfChar_4cfef J0_checkBoundsBeginEnd_23922 J3_checkFromToIndex_8c36e J4_append_15ec4 J5_append_cf1ce J5_ensureCapacityInternal_d00df J5_newCapacity_0f7a4 J8_newLength_cabcc J7_copyOf_9075b J5_isLatin1_aae02 J5_putStringAt_47b60 J5_inflateIfNeededFor_a7421 J3_checkFromIndexSize_8c36e J0_getBytes_840e7 J4_append_bf812 J5_append_c97b9 J6_stringSize_0f7a4 J6_getChars_ba4f3 J4_init_da8c8 J5_init_d00df J4_toString_0e30d J0_init_81219 J0_init_db425 J5_getValue_6d5f1 J4_length_8abf5 J5_length_8abf5 J7_copyOfRange_39247 J7_copyOfRangeByte_39247 J7_checkLength_df160 J2_length_9d52b -/
section
variable {E : Nat → Value} {d : Nat} {S : aS} {M : Nat → Nat → Int} {Q : Option (Option Value) → aS → aI → Prop}
theorem kJ0_length_8abf5_0 {a0 : Nat} {b2 : Nat} (g1 : aKd S a0 = 0) (p3 : aP S a0 0 = some b2) (g4 : aKd S b2 = 100 ∨ aKd S b2 = 101 ∨ aKd S b2 = 102) (hd1 : 1 ≤ d) (k : X E (d - 1) fJ0_coder_7d493 0 [some (.ref a0)] [] S (mI M) (Kr E d fJ0_length_8abf5 9 [some (.ref a0)] [J (aN S b2 : Int)] Q)) : X E d fJ0_length_8abf5 0 [some (.ref a0)] [] S (mI M) Q := by
  refine X_aload_n 1 (by decide +kernel : decode cJ0_length_8abf5 0 = .ok (.aload_n 0, 1)) rfl rfl rfl ?_
  refine X_getR 4 (by decide +kernel : decode cJ0_length_8abf5 1 = .ok (.getfield 9, 3)) rfl rfl (by decide +kernel : aFd 0 9 = some (0, 0, true, true)) g1 p3 ?_
  refine X_alen 5 (by decide +kernel : decode cJ0_length_8abf5 4 = .ok (.arraylength, 1)) rfl rfl g4 ?_
  refine X_aload_n 6 (by decide +kernel : decode cJ0_length_8abf5 5 = .ok (.aload_n 0, 1)) rfl rfl rfl ?_
  exact X_cv (as := []) (rest := [J (aN S b2 : Int)]) (by decide +kernel : decode cJ0_length_8abf5 6 = .ok (.invokevirtual 335, 3)) (Or.inl ⟨rfl, rfl, rfl⟩) rfl rfl rfl rfl rfl (Nat.le_of_ble_eq_true rfl) (Or.inr (Or.inr (by rw [g1]; rfl))) hd1 k
theorem kJ0_length_8abf5_9 {o0 : Option Value} {t0 : Int} {t1 : Int} (q : Q (some (some (J ((Int32.ofInt t1 >>> (Int32.ofInt t0 &&& 31)).toInt)))) S (mI M)) : X E d fJ0_length_8abf5 9 [o0] [J t0, J t1] S (mI M) Q := by
  refine X_ishr 10 (by decide +kernel : decode cJ0_length_8abf5 9 = .ok (.ishr, 1)) rfl rfl ?_
  exact X_iret (by decide +kernel : decode cJ0_length_8abf5 10 = .ok (.ireturn, 1)) rfl rfl rfl q
theorem kJ0_coder_7d493_0 {o0 : Option Value} {y1 : Int} (e2 : E 2 = J y1) (r3 : R32 y1) (k1 : y1 = 0 → X E d fJ0_coder_7d493 13 [o0] [] S (mI M) Q) (k2 : y1 ≠ 0 → X E d fJ0_coder_7d493 6 [o0] [] S (mI M) Q) : X E d fJ0_coder_7d493 0 [o0] [] S (mI M) Q := by
  refine X_getst 3 (by decide +kernel : decode cJ0_coder_7d493 0 = .ok (.getstatic 38, 3)) rfl rfl rfl e2 ?_
  exact X_ifeq 13 6 (by decide +kernel : decode cJ0_coder_7d493 3 = .ok (.ifCond .eq 10, 3)) rfl rfl (by decide) r3 k1 k2
theorem kJ0_coder_7d493_6 {a0 : Nat} (g1 : aKd S a0 = 0) (k : X E d fJ0_coder_7d493 14 [some (.ref a0)] [J (M a0 1)] S (mI M) Q) : X E d fJ0_coder_7d493 6 [some (.ref a0)] [] S (mI M) Q := by
  refine X_aload_n 7 (by decide +kernel : decode cJ0_coder_7d493 6 = .ok (.aload_n 0, 1)) rfl rfl rfl ?_
  refine X_getI 10 (by decide +kernel : decode cJ0_coder_7d493 7 = .ok (.getfield 15, 3)) rfl rfl (by decide +kernel : aFd 0 15 = some (0, 1, false, true)) g1 ?_
  exact X_goto 14 (by decide +kernel : decode cJ0_coder_7d493 10 = .ok (.goto 4, 3)) rfl (by decide) k
theorem kJ0_coder_7d493_13 {o0 : Option Value} (k : X E d fJ0_coder_7d493 14 [o0] [J 1] S (mI M) Q) : X E d fJ0_coder_7d493 13 [o0] [] S (mI M) Q := by
  refine X_iconst 14 (by decide +kernel : decode cJ0_coder_7d493 13 = .ok (.iconst 1, 1)) rfl rfl ?_
  exact k
theorem kJ0_coder_7d493_14 {o0 : Option Value} {t0 : Int} (h1 : narrow .byte (J t0) = J t0) (q : Q (some (some (J t0))) S (mI M)) : X E d fJ0_coder_7d493 14 [o0] [J t0] S (mI M) Q := by
  exact X_iret (by decide +kernel : decode cJ0_coder_7d493 14 = .ok (.ireturn, 1)) rfl rfl h1 q
theorem kJ0_charAt_5068e_0 {a0 : Nat} {o1 : Option Value} (hd1 : 1 ≤ d) (k : X E (d - 1) fJ0_isLatin1_aae02 0 [some (.ref a0)] [] S (mI M) (Kr E d fJ0_charAt_5068e 4 [some (.ref a0), o1] [] Q)) (g1 : aKd S a0 = 0) : X E d fJ0_charAt_5068e 0 [some (.ref a0), o1] [] S (mI M) Q := by
  refine X_aload_n 1 (by decide +kernel : decode cJ0_charAt_5068e 0 = .ok (.aload_n 0, 1)) rfl rfl rfl ?_
  exact X_cv (as := []) (rest := []) (by decide +kernel : decode cJ0_charAt_5068e 1 = .ok (.invokevirtual 492, 3)) (Or.inl ⟨rfl, rfl, rfl⟩) rfl rfl rfl rfl rfl (Nat.le_of_ble_eq_true rfl) (Or.inr (Or.inr (by rw [g1]; rfl))) hd1 k
theorem kJ0_charAt_5068e_4 {o0 : Option Value} {o1 : Option Value} {t0 : Int} (r1 : R32 t0) (k1 : t0 = 0 → X E d fJ0_charAt_5068e 16 [o0, o1] [] S (mI M) Q) (k2 : t0 ≠ 0 → X E d fJ0_charAt_5068e 7 [o0, o1] [] S (mI M) Q) : X E d fJ0_charAt_5068e 4 [o0, o1] [J t0] S (mI M) Q := by
  exact X_ifeq 16 7 (by decide +kernel : decode cJ0_charAt_5068e 4 = .ok (.ifCond .eq 12, 3)) rfl rfl (by decide) r1 k1 k2
theorem kJ0_charAt_5068e_7 {a0 : Nat} {x1 : Int} {b2 : Nat} (g1 : aKd S a0 = 0) (p3 : aP S a0 0 = some b2) (hd1 : 1 ≤ d) (k : X E (d - 1) fJ1_charAt_3b067 0 [some (.ref b2), some (J x1)] [] S (mI M) (Kr E d fJ0_charAt_5068e 15 [some (.ref a0), some (J x1)] [] Q)) : X E d fJ0_charAt_5068e 7 [some (.ref a0), some (J x1)] [] S (mI M) Q := by
  refine X_aload_n 8 (by decide +kernel : decode cJ0_charAt_5068e 7 = .ok (.aload_n 0, 1)) rfl rfl rfl ?_
  refine X_getR 11 (by decide +kernel : decode cJ0_charAt_5068e 8 = .ok (.getfield 9, 3)) rfl rfl (by decide +kernel : aFd 0 9 = some (0, 0, true, true)) g1 p3 ?_
  refine X_iload_n 12 (by decide +kernel : decode cJ0_charAt_5068e 11 = .ok (.iload_n 1, 1)) rfl rfl rfl ?_
  exact X_cs (as := [J x1, .ref b2]) (rest := []) (by decide +kernel : decode cJ0_charAt_5068e 12 = .ok (.invokestatic 495, 3)) rfl rfl rfl rfl rfl rfl rfl (Nat.le_of_ble_eq_true rfl) hd1 k
theorem kJ0_charAt_5068e_15 {o0 : Option Value} {o1 : Option Value} {t0 : Int} (h1 : narrow .char (J t0) = J t0) (q : Q (some (some (J t0))) S (mI M)) : X E d fJ0_charAt_5068e 15 [o0, o1] [J t0] S (mI M) Q := by
  exact X_iret (by decide +kernel : decode cJ0_charAt_5068e 15 = .ok (.ireturn, 1)) rfl rfl h1 q
theorem kJ0_charAt_5068e_16 {a0 : Nat} {x1 : Int} {b2 : Nat} (g1 : aKd S a0 = 0) (p3 : aP S a0 0 = some b2) (hd1 : 1 ≤ d) (k : X E (d - 1) fJ2_charAt_3b067 0 [some (.ref b2), some (J x1)] [] S (mI M) (Kr E d fJ0_charAt_5068e 24 [some (.ref a0), some (J x1)] [] Q)) : X E d fJ0_charAt_5068e 16 [some (.ref a0), some (J x1)] [] S (mI M) Q := by
  refine X_aload_n 17 (by decide +kernel : decode cJ0_charAt_5068e 16 = .ok (.aload_n 0, 1)) rfl rfl rfl ?_
  refine X_getR 20 (by decide +kernel : decode cJ0_charAt_5068e 17 = .ok (.getfield 9, 3)) rfl rfl (by decide +kernel : aFd 0 9 = some (0, 0, true, true)) g1 p3 ?_
  refine X_iload_n 21 (by decide +kernel : decode cJ0_charAt_5068e 20 = .ok (.iload_n 1, 1)) rfl rfl rfl ?_
  exact X_cs (as := [J x1, .ref b2]) (rest := []) (by decide +kernel : decode cJ0_charAt_5068e 21 = .ok (.invokestatic 498, 3)) rfl rfl rfl rfl rfl rfl rfl (Nat.le_of_ble_eq_true rfl) hd1 k
theorem kJ0_charAt_5068e_24 {o0 : Option Value} {o1 : Option Value} {t0 : Int} (h1 : narrow .char (J t0) = J t0) (q : Q (some (some (J t0))) S (mI M)) : X E d fJ0_charAt_5068e 24 [o0, o1] [J t0] S (mI M) Q := by
  exact X_iret (by decide +kernel : decode cJ0_charAt_5068e 24 = .ok (.ireturn, 1)) rfl rfl h1 q
theorem kJ0_isLatin1_aae02_0 {o0 : Option Value} {y1 : Int} (e2 : E 2 = J y1) (r3 : R32 y1) (k1 : y1 = 0 → X E d fJ0_isLatin1_aae02 17 [o0] [] S (mI M) Q) (k2 : y1 ≠ 0 → X E d fJ0_isLatin1_aae02 6 [o0] [] S (mI M) Q) : X E d fJ0_isLatin1_aae02 0 [o0] [] S (mI M) Q := by
  refine X_getst 3 (by decide +kernel : decode cJ0_isLatin1_aae02 0 = .ok (.getstatic 38, 3)) rfl rfl rfl e2 ?_
  exact X_ifeq 17 6 (by decide +kernel : decode cJ0_isLatin1_aae02 3 = .ok (.ifCond .eq 14, 3)) rfl rfl (by decide) r3 k1 k2
theorem kJ0_isLatin1_aae02_6 {a0 : Nat} (g1 : aKd S a0 = 0) (r2 : R32 (M a0 1)) (k1 : (M a0 1) ≠ 0 → X E d fJ0_isLatin1_aae02 17 [some (.ref a0)] [] S (mI M) Q) (k2 : (M a0 1) = 0 → X E d fJ0_isLatin1_aae02 13 [some (.ref a0)] [] S (mI M) Q) : X E d fJ0_isLatin1_aae02 6 [some (.ref a0)] [] S (mI M) Q := by
  refine X_aload_n 7 (by decide +kernel : decode cJ0_isLatin1_aae02 6 = .ok (.aload_n 0, 1)) rfl rfl rfl ?_
  refine X_getI 10 (by decide +kernel : decode cJ0_isLatin1_aae02 7 = .ok (.getfield 15, 3)) rfl rfl (by decide +kernel : aFd 0 15 = some (0, 1, false, true)) g1 ?_
  exact X_ifne 17 13 (by decide +kernel : decode cJ0_isLatin1_aae02 10 = .ok (.ifCond .ne 7, 3)) rfl rfl (by decide) r2 k1 k2
theorem kJ0_isLatin1_aae02_13 {o0 : Option Value} (k : X E d fJ0_isLatin1_aae02 18 [o0] [J 1] S (mI M) Q) : X E d fJ0_isLatin1_aae02 13 [o0] [] S (mI M) Q := by
  refine X_iconst 14 (by decide +kernel : decode cJ0_isLatin1_aae02 13 = .ok (.iconst 1, 1)) rfl rfl ?_
  exact X_goto 18 (by decide +kernel : decode cJ0_isLatin1_aae02 14 = .ok (.goto 4, 3)) rfl (by decide) k
theorem kJ0_isLatin1_aae02_17 {o0 : Option Value} (k : X E d fJ0_isLatin1_aae02 18 [o0] [J 0] S (mI M) Q) : X E d fJ0_isLatin1_aae02 17 [o0] [] S (mI M) Q := by
  refine X_iconst 18 (by decide +kernel : decode cJ0_isLatin1_aae02 17 = .ok (.iconst 0, 1)) rfl rfl ?_
  exact k
theorem kJ0_isLatin1_aae02_18 {o0 : Option Value} {t0 : Int} (h1 : narrow .boolean (J t0) = J t0) (q : Q (some (some (J t0))) S (mI M)) : X E d fJ0_isLatin1_aae02 18 [o0] [J t0] S (mI M) Q := by
  exact X_iret (by decide +kernel : decode cJ0_isLatin1_aae02 18 = .ok (.ireturn, 1)) rfl rfl h1 q
theorem kJ1_charAt_3b067_0 {a0 : Nat} {x1 : Int} (g1 : aKd S a0 = 100 ∨ aKd S a0 = 101 ∨ aKd S a0 = 102) (hd1 : 1 ≤ d) (k : X E (d - 1) fJ0_checkIndex_df160 0 [some (J x1), some (J (aN S a0 : Int))] [] S (mI M) (Kr E d fJ1_charAt_3b067 6 [some (.ref a0), some (J x1)] [] Q)) : X E d fJ1_charAt_3b067 0 [some (.ref a0), some (J x1)] [] S (mI M) Q := by
  refine X_iload_n 1 (by decide +kernel : decode cJ1_charAt_3b067 0 = .ok (.iload_n 1, 1)) rfl rfl rfl ?_
  refine X_aload_n 2 (by decide +kernel : decode cJ1_charAt_3b067 1 = .ok (.aload_n 0, 1)) rfl rfl rfl ?_
  refine X_alen 3 (by decide +kernel : decode cJ1_charAt_3b067 2 = .ok (.arraylength, 1)) rfl rfl g1 ?_
  exact X_cs (as := [J (aN S a0 : Int), J x1]) (rest := []) (by decide +kernel : decode cJ1_charAt_3b067 3 = .ok (.invokestatic 9, 3)) rfl rfl rfl rfl rfl rfl rfl (Nat.le_of_ble_eq_true rfl) hd1 k
theorem kJ1_charAt_3b067_6 {a0 : Nat} {x1 : Int} (g1 : aKd S a0 = 101) (r2 : R32 x1) (h3 : (0 : Int) ≤ x1 ∧ x1 < (aN S a0 : Int)) (h4 : narrow .char (J (((Int32.ofInt ((Int32.ofInt (M a0 x1.toNat) &&& Int32.ofInt 255).toInt)).toUInt32 % 65536).toInt32.toInt)) = J (((Int32.ofInt ((Int32.ofInt (M a0 x1.toNat) &&& Int32.ofInt 255).toInt)).toUInt32 % 65536).toInt32.toInt)) (q : Q (some (some (J (((Int32.ofInt ((Int32.ofInt (M a0 x1.toNat) &&& Int32.ofInt 255).toInt)).toUInt32 % 65536).toInt32.toInt)))) S (mI M)) : X E d fJ1_charAt_3b067 6 [some (.ref a0), some (J x1)] [] S (mI M) Q := by
  refine X_aload_n 7 (by decide +kernel : decode cJ1_charAt_3b067 6 = .ok (.aload_n 0, 1)) rfl rfl rfl ?_
  refine X_iload_n 8 (by decide +kernel : decode cJ1_charAt_3b067 7 = .ok (.iload_n 1, 1)) rfl rfl rfl ?_
  refine X_bald 9 (by decide +kernel : decode cJ1_charAt_3b067 8 = .ok (.baload, 1)) rfl rfl g1 r2 h3 ?_
  refine X_sipush 12 (255) (by decide +kernel : decode cJ1_charAt_3b067 9 = .ok (.sipush 255, 3)) rfl rfl (by decide +kernel) ?_
  refine X_iand 13 (by decide +kernel : decode cJ1_charAt_3b067 12 = .ok (.iand, 1)) rfl rfl ?_
  refine X_i2c 14 (by decide +kernel : decode cJ1_charAt_3b067 13 = .ok (.i2c, 1)) rfl rfl ?_
  exact X_iret (by decide +kernel : decode cJ1_charAt_3b067 14 = .ok (.ireturn, 1)) rfl rfl h4 q
theorem kJ0_checkIndex_df160_0 {x0 : Int} {x1 : Int} {b1 : Nat} (e2 : E 3 = .ref b1) (hd1 : 1 ≤ d) (k : X E (d - 1) fJ3_checkIndex_8e157 0 [some (J x0), some (J x1), some (.ref b1)] [] S (mI M) (Kr E d fJ0_checkIndex_df160 8 [some (J x0), some (J x1)] [] Q)) : X E d fJ0_checkIndex_df160 0 [some (J x0), some (J x1)] [] S (mI M) Q := by
  refine X_iload_n 1 (by decide +kernel : decode cJ0_checkIndex_df160 0 = .ok (.iload_n 0, 1)) rfl rfl rfl ?_
  refine X_iload_n 2 (by decide +kernel : decode cJ0_checkIndex_df160 1 = .ok (.iload_n 1, 1)) rfl rfl rfl ?_
  refine X_getst 5 (by decide +kernel : decode cJ0_checkIndex_df160 2 = .ok (.getstatic 1053, 3)) rfl rfl rfl e2 ?_
  exact X_cs (as := [.ref b1, J x1, J x0]) (rest := []) (by decide +kernel : decode cJ0_checkIndex_df160 5 = .ok (.invokestatic 1059, 3)) rfl rfl rfl rfl rfl rfl rfl (Nat.le_of_ble_eq_true rfl) hd1 k
theorem kJ0_checkIndex_df160_8 {o0 : Option Value} {o1 : Option Value} {t0 : Int} (q : Q (some none) S (mI M)) : X E d fJ0_checkIndex_df160 8 [o0, o1] [J t0] S (mI M) Q := by
  refine X_pop 9 (by decide +kernel : decode cJ0_checkIndex_df160 8 = .ok (.pop, 1)) rfl rfl rfl ?_
  exact X_vret (by decide +kernel : decode cJ0_checkIndex_df160 9 = .ok (.return_, 1)) rfl rfl q
theorem kJ3_checkIndex_8e157_0 {x0 : Int} {o1 : Option Value} {o2 : Option Value} (r1 : R32 x0) (k1 : x0 < 0 → X E d fJ3_checkIndex_8e157 9 [some (J x0), o1, o2] [] S (mI M) Q) (k2 : 0 ≤ x0 → X E d fJ3_checkIndex_8e157 4 [some (J x0), o1, o2] [] S (mI M) Q) : X E d fJ3_checkIndex_8e157 0 [some (J x0), o1, o2] [] S (mI M) Q := by
  refine X_iload_n 1 (by decide +kernel : decode cJ3_checkIndex_8e157 0 = .ok (.iload_n 0, 1)) rfl rfl rfl ?_
  exact X_iflt 9 4 (by decide +kernel : decode cJ3_checkIndex_8e157 1 = .ok (.ifCond .lt 8, 3)) rfl rfl (by decide) r1 k1 k2
theorem kJ3_checkIndex_8e157_4 {x0 : Int} {x1 : Int} {o2 : Option Value} (r1 : R32 x0) (r2 : R32 x1) (k1 : x0 < x1 → X E d fJ3_checkIndex_8e157 16 [some (J x0), some (J x1), o2] [] S (mI M) Q) (k2 : x1 ≤ x0 → X E d fJ3_checkIndex_8e157 9 [some (J x0), some (J x1), o2] [] S (mI M) Q) : X E d fJ3_checkIndex_8e157 4 [some (J x0), some (J x1), o2] [] S (mI M) Q := by
  refine X_iload_n 5 (by decide +kernel : decode cJ3_checkIndex_8e157 4 = .ok (.iload_n 0, 1)) rfl rfl rfl ?_
  refine X_iload_n 6 (by decide +kernel : decode cJ3_checkIndex_8e157 5 = .ok (.iload_n 1, 1)) rfl rfl rfl ?_
  exact X_icmplt 16 9 (by decide +kernel : decode cJ3_checkIndex_8e157 6 = .ok (.if_icmp .lt 10, 3)) rfl rfl (by decide) r1 r2 k1 k2
theorem kJ3_checkIndex_8e157_16 {x0 : Int} {o1 : Option Value} {o2 : Option Value} (q : Q (some (some (J x0))) S (mI M)) : X E d fJ3_checkIndex_8e157 16 [some (J x0), o1, o2] [] S (mI M) Q := by
  refine X_iload_n 17 (by decide +kernel : decode cJ3_checkIndex_8e157 16 = .ok (.iload_n 0, 1)) rfl rfl rfl ?_
  exact X_iret (by decide +kernel : decode cJ3_checkIndex_8e157 17 = .ok (.ireturn, 1)) rfl rfl rfl q
theorem kJ0_indexOf_0f7a4_0 {a0 : Nat} {x1 : Int} (hd1 : 1 ≤ d) (k : X E (d - 1) fJ0_indexOf_7cf53 0 [some (.ref a0), some (J x1), some (J 0)] [] S (mI M) (Kr E d fJ0_indexOf_0f7a4 6 [some (.ref a0), some (J x1)] [] Q)) (g1 : aKd S a0 = 0) : X E d fJ0_indexOf_0f7a4 0 [some (.ref a0), some (J x1)] [] S (mI M) Q := by
  refine X_aload_n 1 (by decide +kernel : decode cJ0_indexOf_0f7a4 0 = .ok (.aload_n 0, 1)) rfl rfl rfl ?_
  refine X_iload_n 2 (by decide +kernel : decode cJ0_indexOf_0f7a4 1 = .ok (.iload_n 1, 1)) rfl rfl rfl ?_
  refine X_iconst 3 (by decide +kernel : decode cJ0_indexOf_0f7a4 2 = .ok (.iconst 0, 1)) rfl rfl ?_
  exact X_cv (as := [J 0, J x1]) (rest := []) (by decide +kernel : decode cJ0_indexOf_0f7a4 3 = .ok (.invokevirtual 633, 3)) (Or.inl ⟨rfl, rfl, rfl⟩) rfl rfl rfl rfl rfl (Nat.le_of_ble_eq_true rfl) (Or.inr (Or.inr (by rw [g1]; rfl))) hd1 k
theorem kJ0_indexOf_0f7a4_6 {o0 : Option Value} {o1 : Option Value} {t0 : Int} (q : Q (some (some (J t0))) S (mI M)) : X E d fJ0_indexOf_0f7a4 6 [o0, o1] [J t0] S (mI M) Q := by
  exact X_iret (by decide +kernel : decode cJ0_indexOf_0f7a4 6 = .ok (.ireturn, 1)) rfl rfl rfl q
theorem kJ0_indexOf_7cf53_0 {a0 : Nat} {o1 : Option Value} {o2 : Option Value} (hd1 : 1 ≤ d) (k : X E (d - 1) fJ0_isLatin1_aae02 0 [some (.ref a0)] [] S (mI M) (Kr E d fJ0_indexOf_7cf53 4 [some (.ref a0), o1, o2] [] Q)) (g1 : aKd S a0 = 0) : X E d fJ0_indexOf_7cf53 0 [some (.ref a0), o1, o2] [] S (mI M) Q := by
  refine X_aload_n 1 (by decide +kernel : decode cJ0_indexOf_7cf53 0 = .ok (.aload_n 0, 1)) rfl rfl rfl ?_
  exact X_cv (as := []) (rest := []) (by decide +kernel : decode cJ0_indexOf_7cf53 1 = .ok (.invokevirtual 492, 3)) (Or.inl ⟨rfl, rfl, rfl⟩) rfl rfl rfl rfl rfl (Nat.le_of_ble_eq_true rfl) (Or.inr (Or.inr (by rw [g1]; rfl))) hd1 k
theorem kJ0_indexOf_7cf53_4 {o0 : Option Value} {o1 : Option Value} {o2 : Option Value} {t0 : Int} (r1 : R32 t0) (k1 : t0 = 0 → X E d fJ0_indexOf_7cf53 23 [o0, o1, o2] [] S (mI M) Q) (k2 : t0 ≠ 0 → X E d fJ0_indexOf_7cf53 7 [o0, o1, o2] [] S (mI M) Q) : X E d fJ0_indexOf_7cf53 4 [o0, o1, o2] [J t0] S (mI M) Q := by
  exact X_ifeq 23 7 (by decide +kernel : decode cJ0_indexOf_7cf53 4 = .ok (.ifCond .eq 19, 3)) rfl rfl (by decide) r1 k1 k2
theorem kJ0_indexOf_7cf53_7 {a0 : Nat} {x1 : Int} {x2 : Int} {b2 : Nat} (g1 : aKd S a0 = 0) (p3 : aP S a0 0 = some b2) (hd1 : 1 ≤ d) (k : X E (d - 1) fJ0_length_8abf5 0 [some (.ref a0)] [] S (mI M) (Kr E d fJ0_indexOf_7cf53 17 [some (.ref a0), some (J x1), some (J x2)] [J x2, J x1, .ref b2] Q)) : X E d fJ0_indexOf_7cf53 7 [some (.ref a0), some (J x1), some (J x2)] [] S (mI M) Q := by
  refine X_aload_n 8 (by decide +kernel : decode cJ0_indexOf_7cf53 7 = .ok (.aload_n 0, 1)) rfl rfl rfl ?_
  refine X_getR 11 (by decide +kernel : decode cJ0_indexOf_7cf53 8 = .ok (.getfield 9, 3)) rfl rfl (by decide +kernel : aFd 0 9 = some (0, 0, true, true)) g1 p3 ?_
  refine X_iload_n 12 (by decide +kernel : decode cJ0_indexOf_7cf53 11 = .ok (.iload_n 1, 1)) rfl rfl rfl ?_
  refine X_iload_n 13 (by decide +kernel : decode cJ0_indexOf_7cf53 12 = .ok (.iload_n 2, 1)) rfl rfl rfl ?_
  refine X_aload_n 14 (by decide +kernel : decode cJ0_indexOf_7cf53 13 = .ok (.aload_n 0, 1)) rfl rfl rfl ?_
  exact X_cv (as := []) (rest := [J x2, J x1, .ref b2]) (by decide +kernel : decode cJ0_indexOf_7cf53 14 = .ok (.invokevirtual 505, 3)) (Or.inl ⟨rfl, rfl, rfl⟩) rfl rfl rfl rfl rfl (Nat.le_of_ble_eq_true rfl) (Or.inr (Or.inr (by rw [g1]; rfl))) hd1 k
theorem kJ0_indexOf_7cf53_17 {o0 : Option Value} {o1 : Option Value} {o2 : Option Value} {t0 : Int} {t1 : Int} {t2 : Int} {u3 : Nat} (hd1 : 1 ≤ d) (k : X E (d - 1) fJ1_indexOf_4cfef 0 [some (.ref u3), some (J t2), some (J t1), some (J t0)] [] S (mI M) (Kr E d fJ0_indexOf_7cf53 20 [o0, o1, o2] [] Q)) : X E d fJ0_indexOf_7cf53 17 [o0, o1, o2] [J t0, J t1, J t2, .ref u3] S (mI M) Q := by
  exact X_cs (as := [J t0, J t1, J t2, .ref u3]) (rest := []) (by decide +kernel : decode cJ0_indexOf_7cf53 17 = .ok (.invokestatic 637, 3)) rfl rfl rfl rfl rfl rfl rfl (Nat.le_of_ble_eq_true rfl) hd1 k
theorem kJ0_indexOf_7cf53_20 {o0 : Option Value} {o1 : Option Value} {o2 : Option Value} {t0 : Int} (k : X E d fJ0_indexOf_7cf53 36 [o0, o1, o2] [J t0] S (mI M) Q) : X E d fJ0_indexOf_7cf53 20 [o0, o1, o2] [J t0] S (mI M) Q := by
  exact X_goto 36 (by decide +kernel : decode cJ0_indexOf_7cf53 20 = .ok (.goto 16, 3)) rfl (by decide) k
theorem kJ0_indexOf_7cf53_23 {a0 : Nat} {x1 : Int} {x2 : Int} {b2 : Nat} (g1 : aKd S a0 = 0) (p3 : aP S a0 0 = some b2) (hd1 : 1 ≤ d) (k : X E (d - 1) fJ0_length_8abf5 0 [some (.ref a0)] [] S (mI M) (Kr E d fJ0_indexOf_7cf53 33 [some (.ref a0), some (J x1), some (J x2)] [J x2, J x1, .ref b2] Q)) : X E d fJ0_indexOf_7cf53 23 [some (.ref a0), some (J x1), some (J x2)] [] S (mI M) Q := by
  refine X_aload_n 24 (by decide +kernel : decode cJ0_indexOf_7cf53 23 = .ok (.aload_n 0, 1)) rfl rfl rfl ?_
  refine X_getR 27 (by decide +kernel : decode cJ0_indexOf_7cf53 24 = .ok (.getfield 9, 3)) rfl rfl (by decide +kernel : aFd 0 9 = some (0, 0, true, true)) g1 p3 ?_
  refine X_iload_n 28 (by decide +kernel : decode cJ0_indexOf_7cf53 27 = .ok (.iload_n 1, 1)) rfl rfl rfl ?_
  refine X_iload_n 29 (by decide +kernel : decode cJ0_indexOf_7cf53 28 = .ok (.iload_n 2, 1)) rfl rfl rfl ?_
  refine X_aload_n 30 (by decide +kernel : decode cJ0_indexOf_7cf53 29 = .ok (.aload_n 0, 1)) rfl rfl rfl ?_
  exact X_cv (as := []) (rest := [J x2, J x1, .ref b2]) (by decide +kernel : decode cJ0_indexOf_7cf53 30 = .ok (.invokevirtual 505, 3)) (Or.inl ⟨rfl, rfl, rfl⟩) rfl rfl rfl rfl rfl (Nat.le_of_ble_eq_true rfl) (Or.inr (Or.inr (by rw [g1]; rfl))) hd1 k
theorem kJ0_indexOf_7cf53_33 {o0 : Option Value} {o1 : Option Value} {o2 : Option Value} {t0 : Int} {t1 : Int} {t2 : Int} {u3 : Nat} (hd1 : 1 ≤ d) (k : X E (d - 1) fJ2_indexOf_4cfef 0 [some (.ref u3), some (J t2), some (J t1), some (J t0)] [] S (mI M) (Kr E d fJ0_indexOf_7cf53 36 [o0, o1, o2] [] Q)) : X E d fJ0_indexOf_7cf53 33 [o0, o1, o2] [J t0, J t1, J t2, .ref u3] S (mI M) Q := by
  exact X_cs (as := [J t0, J t1, J t2, .ref u3]) (rest := []) (by decide +kernel : decode cJ0_indexOf_7cf53 33 = .ok (.invokestatic 640, 3)) rfl rfl rfl rfl rfl rfl rfl (Nat.le_of_ble_eq_true rfl) hd1 k
theorem kJ0_indexOf_7cf53_36 {o0 : Option Value} {o1 : Option Value} {o2 : Option Value} {t0 : Int} (q : Q (some (some (J t0))) S (mI M)) : X E d fJ0_indexOf_7cf53 36 [o0, o1, o2] [J t0] S (mI M) Q := by
  exact X_iret (by decide +kernel : decode cJ0_indexOf_7cf53 36 = .ok (.ireturn, 1)) rfl rfl rfl q
theorem kJ1_indexOf_4cfef_0 {o0 : Option Value} {x1 : Int} {o2 : Option Value} {o3 : Option Value} (hd1 : 1 ≤ d) (k : X E (d - 1) fJ1_canEncode_9a6ad 0 [some (J x1)] [] S (mI M) (Kr E d fJ1_indexOf_4cfef 4 [o0, some (J x1), o2, o3] [] Q)) : X E d fJ1_indexOf_4cfef 0 [o0, some (J x1), o2, o3] [] S (mI M) Q := by
  refine X_iload_n 1 (by decide +kernel : decode cJ1_indexOf_4cfef 0 = .ok (.iload_n 1, 1)) rfl rfl rfl ?_
  exact X_cs (as := [J x1]) (rest := []) (by decide +kernel : decode cJ1_indexOf_4cfef 1 = .ok (.invokestatic 88, 3)) rfl rfl rfl rfl rfl rfl rfl (Nat.le_of_ble_eq_true rfl) hd1 k
theorem kJ1_indexOf_4cfef_4 {o0 : Option Value} {o1 : Option Value} {o2 : Option Value} {o3 : Option Value} {t0 : Int} (r1 : R32 t0) (k1 : t0 ≠ 0 → X E d fJ1_indexOf_4cfef 9 [o0, o1, o2, o3] [] S (mI M) Q) (k2 : t0 = 0 → X E d fJ1_indexOf_4cfef 7 [o0, o1, o2, o3] [] S (mI M) Q) : X E d fJ1_indexOf_4cfef 4 [o0, o1, o2, o3] [J t0] S (mI M) Q := by
  exact X_ifne 9 7 (by decide +kernel : decode cJ1_indexOf_4cfef 4 = .ok (.ifCond .ne 5, 3)) rfl rfl (by decide) r1 k1 k2
theorem kJ1_indexOf_4cfef_7 {o0 : Option Value} {o1 : Option Value} {o2 : Option Value} {o3 : Option Value} (q : Q (some (some (J (-1)))) S (mI M)) : X E d fJ1_indexOf_4cfef 7 [o0, o1, o2, o3] [] S (mI M) Q := by
  refine X_iconst 8 (by decide +kernel : decode cJ1_indexOf_4cfef 7 = .ok (.iconst (-1), 1)) rfl rfl ?_
  exact X_iret (by decide +kernel : decode cJ1_indexOf_4cfef 8 = .ok (.ireturn, 1)) rfl rfl rfl q
theorem kJ1_indexOf_4cfef_9 {a0 : Nat} {o1 : Option Value} {x2 : Int} {x3 : Int} (r1 : R32 x2) (g2 : aKd S a0 = 100 ∨ aKd S a0 = 101 ∨ aKd S a0 = 102) (r3 : R32 x3) (r4 : R32 ((aN S a0 : Int))) (r5 : R32 (max x2 0)) (r6 : R32 (min x3 (aN S a0 : Int))) (k1 : (max x2 0) < (min x3 (aN S a0 : Int)) → X E d fJ1_indexOf_4cfef 29 [some (.ref a0), o1, some (J (max x2 0)), some (J (min x3 (aN S a0 : Int)))] [] S (mI M) Q) (k2 : (min x3 (aN S a0 : Int)) ≤ (max x2 0) → X E d fJ1_indexOf_4cfef 27 [some (.ref a0), o1, some (J (max x2 0)), some (J (min x3 (aN S a0 : Int)))] [] S (mI M) Q) : X E d fJ1_indexOf_4cfef 9 [some (.ref a0), o1, some (J x2), some (J x3)] [] S (mI M) Q := by
  refine X_iload_n 10 (by decide +kernel : decode cJ1_indexOf_4cfef 9 = .ok (.iload_n 2, 1)) rfl rfl rfl ?_
  refine X_iconst 11 (by decide +kernel : decode cJ1_indexOf_4cfef 10 = .ok (.iconst 0, 1)) rfl rfl ?_
  refine X_math (z := 1) 14 (by decide +kernel : decode cJ1_indexOf_4cfef 11 = .ok (.invokestatic 92, 3)) rfl rfl rfl rfl (by decide) r1 ⟨by decide, by decide⟩ (Nat.le_of_ble_eq_true rfl) ?_
  refine X_istore_n 15 (by decide +kernel : decode cJ1_indexOf_4cfef 14 = .ok (.istore_n 2, 1)) rfl rfl (Nat.le_of_ble_eq_true rfl) rfl ?_
  refine X_iload_n 16 (by decide +kernel : decode cJ1_indexOf_4cfef 15 = .ok (.iload_n 3, 1)) rfl rfl rfl ?_
  refine X_aload_n 17 (by decide +kernel : decode cJ1_indexOf_4cfef 16 = .ok (.aload_n 0, 1)) rfl rfl rfl ?_
  refine X_alen 18 (by decide +kernel : decode cJ1_indexOf_4cfef 17 = .ok (.arraylength, 1)) rfl rfl g2 ?_
  refine X_math (z := 0) 21 (by decide +kernel : decode cJ1_indexOf_4cfef 18 = .ok (.invokestatic 38, 3)) rfl rfl rfl rfl (by decide) r3 r4 (Nat.le_of_ble_eq_true rfl) ?_
  refine X_istore_n 22 (by decide +kernel : decode cJ1_indexOf_4cfef 21 = .ok (.istore_n 3, 1)) rfl rfl (Nat.le_of_ble_eq_true rfl) rfl ?_
  refine X_iload_n 23 (by decide +kernel : decode cJ1_indexOf_4cfef 22 = .ok (.iload_n 2, 1)) rfl rfl rfl ?_
  refine X_iload_n 24 (by decide +kernel : decode cJ1_indexOf_4cfef 23 = .ok (.iload_n 3, 1)) rfl rfl rfl ?_
  exact X_icmplt 29 27 (by decide +kernel : decode cJ1_indexOf_4cfef 24 = .ok (.if_icmp .lt 5, 3)) rfl rfl (by decide) r5 r6 k1 k2
theorem kJ1_indexOf_4cfef_27 {o0 : Option Value} {o1 : Option Value} {o2 : Option Value} {o3 : Option Value} (q : Q (some (some (J (-1)))) S (mI M)) : X E d fJ1_indexOf_4cfef 27 [o0, o1, o2, o3] [] S (mI M) Q := by
  refine X_iconst 28 (by decide +kernel : decode cJ1_indexOf_4cfef 27 = .ok (.iconst (-1), 1)) rfl rfl ?_
  exact X_iret (by decide +kernel : decode cJ1_indexOf_4cfef 28 = .ok (.ireturn, 1)) rfl rfl rfl q
theorem kJ1_indexOf_4cfef_29 {a0 : Nat} {x1 : Int} {x2 : Int} {x3 : Int} (hd1 : 1 ≤ d) (k : X E (d - 1) fJ1_indexOfChar_4cfef 0 [some (.ref a0), some (J x1), some (J x2), some (J x3), none, none] [] S (mI M) (Kr E d fJ1_indexOf_4cfef 36 [some (.ref a0), some (J x1), some (J x2), some (J x3)] [] Q)) : X E d fJ1_indexOf_4cfef 29 [some (.ref a0), some (J x1), some (J x2), some (J x3)] [] S (mI M) Q := by
  refine X_aload_n 30 (by decide +kernel : decode cJ1_indexOf_4cfef 29 = .ok (.aload_n 0, 1)) rfl rfl rfl ?_
  refine X_iload_n 31 (by decide +kernel : decode cJ1_indexOf_4cfef 30 = .ok (.iload_n 1, 1)) rfl rfl rfl ?_
  refine X_iload_n 32 (by decide +kernel : decode cJ1_indexOf_4cfef 31 = .ok (.iload_n 2, 1)) rfl rfl rfl ?_
  refine X_iload_n 33 (by decide +kernel : decode cJ1_indexOf_4cfef 32 = .ok (.iload_n 3, 1)) rfl rfl rfl ?_
  exact X_cs (as := [J x3, J x2, J x1, .ref a0]) (rest := []) (by decide +kernel : decode cJ1_indexOf_4cfef 33 = .ok (.invokestatic 95, 3)) rfl rfl rfl rfl rfl rfl rfl (Nat.le_of_ble_eq_true rfl) hd1 k
theorem kJ1_indexOf_4cfef_36 {o0 : Option Value} {o1 : Option Value} {o2 : Option Value} {o3 : Option Value} {t0 : Int} (q : Q (some (some (J t0))) S (mI M)) : X E d fJ1_indexOf_4cfef 36 [o0, o1, o2, o3] [J t0] S (mI M) Q := by
  exact X_iret (by decide +kernel : decode cJ1_indexOf_4cfef 36 = .ok (.ireturn, 1)) rfl rfl rfl q
theorem kJ1_canEncode_9a6ad_0 {x0 : Int} (r1 : R32 x0) (k1 : x0 < 0 → X E d fJ1_canEncode_9a6ad 15 [some (J x0)] [] S (mI M) Q) (k2 : 0 ≤ x0 → X E d fJ1_canEncode_9a6ad 4 [some (J x0)] [] S (mI M) Q) : X E d fJ1_canEncode_9a6ad 0 [some (J x0)] [] S (mI M) Q := by
  refine X_iload_n 1 (by decide +kernel : decode cJ1_canEncode_9a6ad 0 = .ok (.iload_n 0, 1)) rfl rfl rfl ?_
  exact X_iflt 15 4 (by decide +kernel : decode cJ1_canEncode_9a6ad 1 = .ok (.ifCond .lt 14, 3)) rfl rfl (by decide) r1 k1 k2
theorem kJ1_canEncode_9a6ad_4 {x0 : Int} (r1 : R32 x0) (k1 : 255 < x0 → X E d fJ1_canEncode_9a6ad 15 [some (J x0)] [] S (mI M) Q) (k2 : x0 ≤ 255 → X E d fJ1_canEncode_9a6ad 11 [some (J x0)] [] S (mI M) Q) : X E d fJ1_canEncode_9a6ad 4 [some (J x0)] [] S (mI M) Q := by
  refine X_iload_n 5 (by decide +kernel : decode cJ1_canEncode_9a6ad 4 = .ok (.iload_n 0, 1)) rfl rfl rfl ?_
  refine X_sipush 8 (255) (by decide +kernel : decode cJ1_canEncode_9a6ad 5 = .ok (.sipush 255, 3)) rfl rfl (by decide +kernel) ?_
  exact X_icmpgt 15 11 (by decide +kernel : decode cJ1_canEncode_9a6ad 8 = .ok (.if_icmp .gt 7, 3)) rfl rfl (by decide) r1 ⟨by decide, by decide⟩ k1 k2
theorem kJ1_canEncode_9a6ad_11 {o0 : Option Value} (k : X E d fJ1_canEncode_9a6ad 16 [o0] [J 1] S (mI M) Q) : X E d fJ1_canEncode_9a6ad 11 [o0] [] S (mI M) Q := by
  refine X_iconst 12 (by decide +kernel : decode cJ1_canEncode_9a6ad 11 = .ok (.iconst 1, 1)) rfl rfl ?_
  exact X_goto 16 (by decide +kernel : decode cJ1_canEncode_9a6ad 12 = .ok (.goto 4, 3)) rfl (by decide) k
theorem kJ1_canEncode_9a6ad_15 {o0 : Option Value} (k : X E d fJ1_canEncode_9a6ad 16 [o0] [J 0] S (mI M) Q) : X E d fJ1_canEncode_9a6ad 15 [o0] [] S (mI M) Q := by
  refine X_iconst 16 (by decide +kernel : decode cJ1_canEncode_9a6ad 15 = .ok (.iconst 0, 1)) rfl rfl ?_
  exact k
theorem kJ1_canEncode_9a6ad_16 {o0 : Option Value} {t0 : Int} (h1 : narrow .boolean (J t0) = J t0) (q : Q (some (some (J t0))) S (mI M)) : X E d fJ1_canEncode_9a6ad 16 [o0] [J t0] S (mI M) Q := by
  exact X_iret (by decide +kernel : decode cJ1_canEncode_9a6ad 16 = .ok (.ireturn, 1)) rfl rfl h1 q
theorem kJ1_indexOfChar_4cfef_0 {o0 : Option Value} {x1 : Int} {x2 : Int} {o3 : Option Value} {o4 : Option Value} {o5 : Option Value} (k : X E d fJ1_indexOfChar_4cfef 7 [o0, some (J x1), some (J x2), o3, some (J ((Int32.ofInt x1).toInt8.toInt32.toInt)), some (J x2)] [] S (mI M) Q) : X E d fJ1_indexOfChar_4cfef 0 [o0, some (J x1), some (J x2), o3, o4, o5] [] S (mI M) Q := by
  refine X_iload_n 1 (by decide +kernel : decode cJ1_indexOfChar_4cfef 0 = .ok (.iload_n 1, 1)) rfl rfl rfl ?_
  refine X_i2b 2 (by decide +kernel : decode cJ1_indexOfChar_4cfef 1 = .ok (.i2b, 1)) rfl rfl ?_
  refine X_istore 4 (by decide +kernel : decode cJ1_indexOfChar_4cfef 2 = .ok (.istore 4, 2)) rfl rfl (Nat.le_of_ble_eq_true rfl) rfl ?_
  refine X_iload_n 5 (by decide +kernel : decode cJ1_indexOfChar_4cfef 4 = .ok (.iload_n 2, 1)) rfl rfl rfl ?_
  refine X_istore 7 (by decide +kernel : decode cJ1_indexOfChar_4cfef 5 = .ok (.istore 5, 2)) rfl rfl (Nat.le_of_ble_eq_true rfl) rfl ?_
  exact k
theorem kJ1_indexOfChar_4cfef_7 {o0 : Option Value} {o1 : Option Value} {o2 : Option Value} {x3 : Int} {o4 : Option Value} {x5 : Int} (r1 : R32 x5) (r2 : R32 x3) (k1 : x3 ≤ x5 → X E d fJ1_indexOfChar_4cfef 31 [o0, o1, o2, some (J x3), o4, some (J x5)] [] S (mI M) Q) (k2 : x5 < x3 → X E d fJ1_indexOfChar_4cfef 13 [o0, o1, o2, some (J x3), o4, some (J x5)] [] S (mI M) Q) : X E d fJ1_indexOfChar_4cfef 7 [o0, o1, o2, some (J x3), o4, some (J x5)] [] S (mI M) Q := by
  refine X_iload 9 (by decide +kernel : decode cJ1_indexOfChar_4cfef 7 = .ok (.iload 5, 2)) rfl rfl rfl ?_
  refine X_iload_n 10 (by decide +kernel : decode cJ1_indexOfChar_4cfef 9 = .ok (.iload_n 3, 1)) rfl rfl rfl ?_
  exact X_icmpge 31 13 (by decide +kernel : decode cJ1_indexOfChar_4cfef 10 = .ok (.if_icmp .ge 21, 3)) rfl rfl (by decide) r1 r2 k1 k2
theorem kJ1_indexOfChar_4cfef_13 {a0 : Nat} {o1 : Option Value} {o2 : Option Value} {o3 : Option Value} {x4 : Int} {x5 : Int} (g1 : aKd S a0 = 101) (r2 : R32 x5) (h3 : (0 : Int) ≤ x5 ∧ x5 < (aN S a0 : Int)) (r4 : R32 (M a0 x5.toNat)) (r5 : R32 x4) (k1 : (M a0 x5.toNat) ≠ x4 → X E d fJ1_indexOfChar_4cfef 25 [some (.ref a0), o1, o2, o3, some (J x4), some (J x5)] [] S (mI M) Q) (k2 : (M a0 x5.toNat) = x4 → X E d fJ1_indexOfChar_4cfef 22 [some (.ref a0), o1, o2, o3, some (J x4), some (J x5)] [] S (mI M) Q) : X E d fJ1_indexOfChar_4cfef 13 [some (.ref a0), o1, o2, o3, some (J x4), some (J x5)] [] S (mI M) Q := by
  refine X_aload_n 14 (by decide +kernel : decode cJ1_indexOfChar_4cfef 13 = .ok (.aload_n 0, 1)) rfl rfl rfl ?_
  refine X_iload 16 (by decide +kernel : decode cJ1_indexOfChar_4cfef 14 = .ok (.iload 5, 2)) rfl rfl rfl ?_
  refine X_bald 17 (by decide +kernel : decode cJ1_indexOfChar_4cfef 16 = .ok (.baload, 1)) rfl rfl g1 r2 h3 ?_
  refine X_iload 19 (by decide +kernel : decode cJ1_indexOfChar_4cfef 17 = .ok (.iload 4, 2)) rfl rfl rfl ?_
  exact X_icmpne 25 22 (by decide +kernel : decode cJ1_indexOfChar_4cfef 19 = .ok (.if_icmp .ne 6, 3)) rfl rfl (by decide) r4 r5 k1 k2
theorem kJ1_indexOfChar_4cfef_22 {o0 : Option Value} {o1 : Option Value} {o2 : Option Value} {o3 : Option Value} {o4 : Option Value} {x5 : Int} (q : Q (some (some (J x5))) S (mI M)) : X E d fJ1_indexOfChar_4cfef 22 [o0, o1, o2, o3, o4, some (J x5)] [] S (mI M) Q := by
  refine X_iload 24 (by decide +kernel : decode cJ1_indexOfChar_4cfef 22 = .ok (.iload 5, 2)) rfl rfl rfl ?_
  exact X_iret (by decide +kernel : decode cJ1_indexOfChar_4cfef 24 = .ok (.ireturn, 1)) rfl rfl rfl q
theorem kJ1_indexOfChar_4cfef_25 {o0 : Option Value} {o1 : Option Value} {o2 : Option Value} {o3 : Option Value} {o4 : Option Value} {x5 : Int} (k : X E d fJ1_indexOfChar_4cfef 7 [o0, o1, o2, o3, o4, some (J (x5 + 1))] [] S (mI M) Q) : X E d fJ1_indexOfChar_4cfef 25 [o0, o1, o2, o3, o4, some (J x5)] [] S (mI M) Q := by
  refine X_iinc 28 (by decide +kernel : decode cJ1_indexOfChar_4cfef 25 = .ok (.iinc 5 1, 3)) rfl rfl rfl rfl ?_
  exact X_goto 7 (by decide +kernel : decode cJ1_indexOfChar_4cfef 28 = .ok (.goto (-21), 3)) rfl (by decide) k
theorem kJ1_indexOfChar_4cfef_31 {o0 : Option Value} {o1 : Option Value} {o2 : Option Value} {o3 : Option Value} {o4 : Option Value} {o5 : Option Value} (q : Q (some (some (J (-1)))) S (mI M)) : X E d fJ1_indexOfChar_4cfef 31 [o0, o1, o2, o3, o4, o5] [] S (mI M) Q := by
  refine X_iconst 32 (by decide +kernel : decode cJ1_indexOfChar_4cfef 31 = .ok (.iconst (-1), 1)) rfl rfl ?_
  exact X_iret (by decide +kernel : decode cJ1_indexOfChar_4cfef 32 = .ok (.ireturn, 1)) rfl rfl rfl q
theorem kJ0_checkBoundsBeginEnd_23922_0 {x0 : Int} {x1 : Int} {x2 : Int} {b1 : Nat} (e2 : E 3 = .ref b1) (hd1 : 1 ≤ d) (k : X E (d - 1) fJ3_checkFromToIndex_8c36e 0 [some (J x0), some (J x1), some (J x2), some (.ref b1)] [] S (mI M) (Kr E d fJ0_checkBoundsBeginEnd_23922 9 [some (J x0), some (J x1), some (J x2)] [] Q)) : X E d fJ0_checkBoundsBeginEnd_23922 0 [some (J x0), some (J x1), some (J x2)] [] S (mI M) Q := by
  refine X_iload_n 1 (by decide +kernel : decode cJ0_checkBoundsBeginEnd_23922 0 = .ok (.iload_n 0, 1)) rfl rfl rfl ?_
  refine X_iload_n 2 (by decide +kernel : decode cJ0_checkBoundsBeginEnd_23922 1 = .ok (.iload_n 1, 1)) rfl rfl rfl ?_
  refine X_iload_n 3 (by decide +kernel : decode cJ0_checkBoundsBeginEnd_23922 2 = .ok (.iload_n 2, 1)) rfl rfl rfl ?_
  refine X_getst 6 (by decide +kernel : decode cJ0_checkBoundsBeginEnd_23922 3 = .ok (.getstatic 1053, 3)) rfl rfl rfl e2 ?_
  exact X_cs (as := [.ref b1, J x2, J x1, J x0]) (rest := []) (by decide +kernel : decode cJ0_checkBoundsBeginEnd_23922 6 = .ok (.invokestatic 1062, 3)) rfl rfl rfl rfl rfl rfl rfl (Nat.le_of_ble_eq_true rfl) hd1 k
theorem kJ0_checkBoundsBeginEnd_23922_9 {o0 : Option Value} {o1 : Option Value} {o2 : Option Value} {t0 : Int} (q : Q (some none) S (mI M)) : X E d fJ0_checkBoundsBeginEnd_23922 9 [o0, o1, o2] [J t0] S (mI M) Q := by
  refine X_pop 10 (by decide +kernel : decode cJ0_checkBoundsBeginEnd_23922 9 = .ok (.pop, 1)) rfl rfl rfl ?_
  exact X_vret (by decide +kernel : decode cJ0_checkBoundsBeginEnd_23922 10 = .ok (.return_, 1)) rfl rfl q
theorem kJ3_checkFromToIndex_8c36e_0 {x0 : Int} {o1 : Option Value} {o2 : Option Value} {o3 : Option Value} (r1 : R32 x0) (k1 : x0 < 0 → X E d fJ3_checkFromToIndex_8c36e 14 [some (J x0), o1, o2, o3] [] S (mI M) Q) (k2 : 0 ≤ x0 → X E d fJ3_checkFromToIndex_8c36e 4 [some (J x0), o1, o2, o3] [] S (mI M) Q) : X E d fJ3_checkFromToIndex_8c36e 0 [some (J x0), o1, o2, o3] [] S (mI M) Q := by
  refine X_iload_n 1 (by decide +kernel : decode cJ3_checkFromToIndex_8c36e 0 = .ok (.iload_n 0, 1)) rfl rfl rfl ?_
  exact X_iflt 14 4 (by decide +kernel : decode cJ3_checkFromToIndex_8c36e 1 = .ok (.ifCond .lt 13, 3)) rfl rfl (by decide) r1 k1 k2
theorem kJ3_checkFromToIndex_8c36e_4 {x0 : Int} {x1 : Int} {o2 : Option Value} {o3 : Option Value} (r1 : R32 x0) (r2 : R32 x1) (k1 : x1 < x0 → X E d fJ3_checkFromToIndex_8c36e 14 [some (J x0), some (J x1), o2, o3] [] S (mI M) Q) (k2 : x0 ≤ x1 → X E d fJ3_checkFromToIndex_8c36e 9 [some (J x0), some (J x1), o2, o3] [] S (mI M) Q) : X E d fJ3_checkFromToIndex_8c36e 4 [some (J x0), some (J x1), o2, o3] [] S (mI M) Q := by
  refine X_iload_n 5 (by decide +kernel : decode cJ3_checkFromToIndex_8c36e 4 = .ok (.iload_n 0, 1)) rfl rfl rfl ?_
  refine X_iload_n 6 (by decide +kernel : decode cJ3_checkFromToIndex_8c36e 5 = .ok (.iload_n 1, 1)) rfl rfl rfl ?_
  exact X_icmpgt 14 9 (by decide +kernel : decode cJ3_checkFromToIndex_8c36e 6 = .ok (.if_icmp .gt 8, 3)) rfl rfl (by decide) r1 r2 k1 k2
theorem kJ3_checkFromToIndex_8c36e_9 {o0 : Option Value} {x1 : Int} {x2 : Int} {o3 : Option Value} (r1 : R32 x1) (r2 : R32 x2) (k1 : x1 ≤ x2 → X E d fJ3_checkFromToIndex_8c36e 22 [o0, some (J x1), some (J x2), o3] [] S (mI M) Q) (k2 : x2 < x1 → X E d fJ3_checkFromToIndex_8c36e 14 [o0, some (J x1), some (J x2), o3] [] S (mI M) Q) : X E d fJ3_checkFromToIndex_8c36e 9 [o0, some (J x1), some (J x2), o3] [] S (mI M) Q := by
  refine X_iload_n 10 (by decide +kernel : decode cJ3_checkFromToIndex_8c36e 9 = .ok (.iload_n 1, 1)) rfl rfl rfl ?_
  refine X_iload_n 11 (by decide +kernel : decode cJ3_checkFromToIndex_8c36e 10 = .ok (.iload_n 2, 1)) rfl rfl rfl ?_
  exact X_icmple 22 14 (by decide +kernel : decode cJ3_checkFromToIndex_8c36e 11 = .ok (.if_icmp .le 11, 3)) rfl rfl (by decide) r1 r2 k1 k2
theorem kJ3_checkFromToIndex_8c36e_22 {x0 : Int} {o1 : Option Value} {o2 : Option Value} {o3 : Option Value} (q : Q (some (some (J x0))) S (mI M)) : X E d fJ3_checkFromToIndex_8c36e 22 [some (J x0), o1, o2, o3] [] S (mI M) Q := by
  refine X_iload_n 23 (by decide +kernel : decode cJ3_checkFromToIndex_8c36e 22 = .ok (.iload_n 0, 1)) rfl rfl rfl ?_
  exact X_iret (by decide +kernel : decode cJ3_checkFromToIndex_8c36e 23 = .ok (.ireturn, 1)) rfl rfl rfl q
theorem kJ4_append_15ec4_0 {a0 : Nat} {a1 : Nat} (hd1 : 1 ≤ d) (k : X E (d - 1) fJ5_append_cf1ce 0 [some (.ref a0), some (.ref a1), none] [] S (mI M) (Kr E d fJ4_append_15ec4 5 [some (.ref a0), some (.ref a1)] [] Q)) (g1 : aKd S a0 = 1) : X E d fJ4_append_15ec4 0 [some (.ref a0), some (.ref a1)] [] S (mI M) Q := by
  refine X_aload_n 1 (by decide +kernel : decode cJ4_append_15ec4 0 = .ok (.aload_n 0, 1)) rfl rfl rfl ?_
  refine X_aload_n 2 (by decide +kernel : decode cJ4_append_15ec4 1 = .ok (.aload_n 1, 1)) rfl rfl rfl ?_
  exact X_cv (as := [.ref a1]) (rest := []) (by decide +kernel : decode cJ4_append_15ec4 2 = .ok (.invokespecial 29, 3)) (Or.inr ⟨rfl, rfl, rfl⟩) rfl rfl rfl rfl rfl (Nat.le_of_ble_eq_true rfl) (Or.inr (Or.inr (by rw [g1]; rfl))) hd1 k
theorem kJ4_append_15ec4_5 {a0 : Nat} {o1 : Option Value} {u0 : Nat} (q : Q (some (some (.ref a0))) S (mI M)) : X E d fJ4_append_15ec4 5 [some (.ref a0), o1] [.ref u0] S (mI M) Q := by
  refine X_pop 6 (by decide +kernel : decode cJ4_append_15ec4 5 = .ok (.pop, 1)) rfl rfl rfl ?_
  refine X_aload_n 7 (by decide +kernel : decode cJ4_append_15ec4 6 = .ok (.aload_n 0, 1)) rfl rfl rfl ?_
  exact X_aret (by decide +kernel : decode cJ4_append_15ec4 7 = .ok (.areturn, 1)) rfl rfl rfl q
theorem kJ5_append_cf1ce_0 {o0 : Option Value} {a1 : Nat} {o2 : Option Value} (k : X E d fJ5_append_cf1ce 9 [o0, some (.ref a1), o2] [] S (mI M) Q) : X E d fJ5_append_cf1ce 0 [o0, some (.ref a1), o2] [] S (mI M) Q := by
  refine X_aload_n 1 (by decide +kernel : decode cJ5_append_cf1ce 0 = .ok (.aload_n 1, 1)) rfl rfl rfl ?_
  exact X_ifnonnull 9 (by decide +kernel : decode cJ5_append_cf1ce 1 = .ok (.ifnonnull 8, 3)) rfl (by decide) k
theorem kJ5_append_cf1ce_9 {o0 : Option Value} {a1 : Nat} {o2 : Option Value} (hd1 : 1 ≤ d) (k : X E (d - 1) fJ0_length_8abf5 0 [some (.ref a1)] [] S (mI M) (Kr E d fJ5_append_cf1ce 13 [o0, some (.ref a1), o2] [] Q)) (g1 : aKd S a1 = 0) : X E d fJ5_append_cf1ce 9 [o0, some (.ref a1), o2] [] S (mI M) Q := by
  refine X_aload_n 10 (by decide +kernel : decode cJ5_append_cf1ce 9 = .ok (.aload_n 1, 1)) rfl rfl rfl ?_
  exact X_cv (as := []) (rest := []) (by decide +kernel : decode cJ5_append_cf1ce 10 = .ok (.invokevirtual 32, 3)) (Or.inl ⟨rfl, rfl, rfl⟩) rfl rfl rfl rfl rfl (Nat.le_of_ble_eq_true rfl) (Or.inr (Or.inr (by rw [g1]; rfl))) hd1 k
theorem kJ5_append_cf1ce_13 {a0 : Nat} {o1 : Option Value} {o2 : Option Value} {t0 : Int} (g1 : aKd S a0 = 1) (hd1 : 1 ≤ d) (k : X E (d - 1) fJ5_ensureCapacityInternal_d00df 0 [some (.ref a0), some (J ((M a0 3) + t0)), none] [] S (mI M) (Kr E d fJ5_append_cf1ce 24 [some (.ref a0), o1, some (J t0)] [] Q)) : X E d fJ5_append_cf1ce 13 [some (.ref a0), o1, o2] [J t0] S (mI M) Q := by
  refine X_istore_n 14 (by decide +kernel : decode cJ5_append_cf1ce 13 = .ok (.istore_n 2, 1)) rfl rfl (Nat.le_of_ble_eq_true rfl) rfl ?_
  refine X_aload_n 15 (by decide +kernel : decode cJ5_append_cf1ce 14 = .ok (.aload_n 0, 1)) rfl rfl rfl ?_
  refine X_aload_n 16 (by decide +kernel : decode cJ5_append_cf1ce 15 = .ok (.aload_n 0, 1)) rfl rfl rfl ?_
  refine X_getI 19 (by decide +kernel : decode cJ5_append_cf1ce 16 = .ok (.getfield 79, 3)) rfl rfl (by decide +kernel : aFd 21 79 = some (1, 3, false, false)) g1 ?_
  refine X_iload_n 20 (by decide +kernel : decode cJ5_append_cf1ce 19 = .ok (.iload_n 2, 1)) rfl rfl rfl ?_
  refine X_iadd 21 (by decide +kernel : decode cJ5_append_cf1ce 20 = .ok (.iadd, 1)) rfl rfl ?_
  exact X_cv (as := [J ((M a0 3) + t0)]) (rest := []) (by decide +kernel : decode cJ5_append_cf1ce 21 = .ok (.invokevirtual 100, 3)) (Or.inl ⟨rfl, rfl, rfl⟩) rfl rfl rfl rfl rfl (Nat.le_of_ble_eq_true rfl) (Or.inr (Or.inr (by rw [g1]; rfl))) hd1 k
theorem kJ5_append_cf1ce_24 {a0 : Nat} {a1 : Nat} {o2 : Option Value} (g1 : aKd S a0 = 1) (hd1 : 1 ≤ d) (k : X E (d - 1) fJ5_putStringAt_47b60 0 [some (.ref a0), some (J (M a0 3)), some (.ref a1)] [] S (mI M) (Kr E d fJ5_append_cf1ce 33 [some (.ref a0), some (.ref a1), o2] [] Q)) : X E d fJ5_append_cf1ce 24 [some (.ref a0), some (.ref a1), o2] [] S (mI M) Q := by
  refine X_aload_n 25 (by decide +kernel : decode cJ5_append_cf1ce 24 = .ok (.aload_n 0, 1)) rfl rfl rfl ?_
  refine X_aload_n 26 (by decide +kernel : decode cJ5_append_cf1ce 25 = .ok (.aload_n 0, 1)) rfl rfl rfl ?_
  refine X_getI 29 (by decide +kernel : decode cJ5_append_cf1ce 26 = .ok (.getfield 79, 3)) rfl rfl (by decide +kernel : aFd 21 79 = some (1, 3, false, false)) g1 ?_
  refine X_aload_n 30 (by decide +kernel : decode cJ5_append_cf1ce 29 = .ok (.aload_n 1, 1)) rfl rfl rfl ?_
  exact X_cv (as := [.ref a1, J (M a0 3)]) (rest := []) (by decide +kernel : decode cJ5_append_cf1ce 30 = .ok (.invokevirtual 208, 3)) (Or.inl ⟨rfl, rfl, rfl⟩) rfl rfl rfl rfl rfl (Nat.le_of_ble_eq_true rfl) (Or.inr (Or.inr (by rw [g1]; rfl))) hd1 k
theorem kJ5_append_cf1ce_33 {a0 : Nat} {o1 : Option Value} {x2 : Int} (g1 : aKd S a0 = 1) (g2 : aK S a0 = 1) (q : Q (some (some (.ref a0))) S (mI (mW M a0 3 (nz ((M a0 3) + x2))))) : X E d fJ5_append_cf1ce 33 [some (.ref a0), o1, some (J x2)] [] S (mI M) Q := by
  refine X_aload_n 34 (by decide +kernel : decode cJ5_append_cf1ce 33 = .ok (.aload_n 0, 1)) rfl rfl rfl ?_
  refine X_dup 35 (by decide +kernel : decode cJ5_append_cf1ce 34 = .ok (.dup, 1)) rfl rfl rfl ?_
  refine X_getI 38 (by decide +kernel : decode cJ5_append_cf1ce 35 = .ok (.getfield 79, 3)) rfl rfl (by decide +kernel : aFd 21 79 = some (1, 3, false, false)) g1 ?_
  refine X_iload_n 39 (by decide +kernel : decode cJ5_append_cf1ce 38 = .ok (.iload_n 2, 1)) rfl rfl rfl ?_
  refine X_iadd 40 (by decide +kernel : decode cJ5_append_cf1ce 39 = .ok (.iadd, 1)) rfl rfl ?_
  refine X_putIz 43 (by decide +kernel : decode cJ5_append_cf1ce 40 = .ok (.putfield 79, 3)) rfl rfl (by decide +kernel : aFd 21 79 = some (1, 3, false, false)) (Or.inl rfl) g2 rfl rfl ?_
  refine X_aload_n 44 (by decide +kernel : decode cJ5_append_cf1ce 43 = .ok (.aload_n 0, 1)) rfl rfl rfl ?_
  exact X_aret (by decide +kernel : decode cJ5_append_cf1ce 44 = .ok (.areturn, 1)) rfl rfl rfl q
theorem kJ5_ensureCapacityInternal_d00df_0 {a0 : Nat} {x1 : Int} {o2 : Option Value} {b2 : Nat} (g1 : aKd S a0 = 1) (p3 : aP S a0 0 = some b2) (g4 : aKd S b2 = 100 ∨ aKd S b2 = 101 ∨ aKd S b2 = 102) (r6 : R32 (x1 - ((Int32.ofInt (aN S b2 : Int) >>> (Int32.ofInt (M a0 1) &&& 31)).toInt))) (k1 : (x1 - ((Int32.ofInt (aN S b2 : Int) >>> (Int32.ofInt (M a0 1) &&& 31)).toInt)) ≤ 0 → X E d fJ5_ensureCapacityInternal_d00df 38 [some (.ref a0), some (J x1), some (J ((Int32.ofInt (aN S b2 : Int) >>> (Int32.ofInt (M a0 1) &&& 31)).toInt))] [] S (mI M) Q) (k2 : 0 < (x1 - ((Int32.ofInt (aN S b2 : Int) >>> (Int32.ofInt (M a0 1) &&& 31)).toInt)) → X E d fJ5_ensureCapacityInternal_d00df 17 [some (.ref a0), some (J x1), some (J ((Int32.ofInt (aN S b2 : Int) >>> (Int32.ofInt (M a0 1) &&& 31)).toInt))] [] S (mI M) Q) : X E d fJ5_ensureCapacityInternal_d00df 0 [some (.ref a0), some (J x1), o2] [] S (mI M) Q := by
  refine X_aload_n 1 (by decide +kernel : decode cJ5_ensureCapacityInternal_d00df 0 = .ok (.aload_n 0, 1)) rfl rfl rfl ?_
  refine X_getR 4 (by decide +kernel : decode cJ5_ensureCapacityInternal_d00df 1 = .ok (.getfield 15, 3)) rfl rfl (by decide +kernel : aFd 21 15 = some (1, 0, true, false)) g1 p3 ?_
  refine X_alen 5 (by decide +kernel : decode cJ5_ensureCapacityInternal_d00df 4 = .ok (.arraylength, 1)) rfl rfl g4 ?_
  refine X_aload_n 6 (by decide +kernel : decode cJ5_ensureCapacityInternal_d00df 5 = .ok (.aload_n 0, 1)) rfl rfl rfl ?_
  refine X_getI 9 (by decide +kernel : decode cJ5_ensureCapacityInternal_d00df 6 = .ok (.getfield 22, 3)) rfl rfl (by decide +kernel : aFd 21 22 = some (1, 1, false, false)) g1 ?_
  refine X_ishr 10 (by decide +kernel : decode cJ5_ensureCapacityInternal_d00df 9 = .ok (.ishr, 1)) rfl rfl ?_
  refine X_istore_n 11 (by decide +kernel : decode cJ5_ensureCapacityInternal_d00df 10 = .ok (.istore_n 2, 1)) rfl rfl (Nat.le_of_ble_eq_true rfl) rfl ?_
  refine X_iload_n 12 (by decide +kernel : decode cJ5_ensureCapacityInternal_d00df 11 = .ok (.iload_n 1, 1)) rfl rfl rfl ?_
  refine X_iload_n 13 (by decide +kernel : decode cJ5_ensureCapacityInternal_d00df 12 = .ok (.iload_n 2, 1)) rfl rfl rfl ?_
  refine X_isub 14 (by decide +kernel : decode cJ5_ensureCapacityInternal_d00df 13 = .ok (.isub, 1)) rfl rfl ?_
  exact X_ifle 38 17 (by decide +kernel : decode cJ5_ensureCapacityInternal_d00df 14 = .ok (.ifCond .le 24, 3)) rfl rfl (by decide) r6 k1 k2
theorem kJ5_ensureCapacityInternal_d00df_17 {a0 : Nat} {x1 : Int} {o2 : Option Value} {b2 : Nat} (g1 : aKd S a0 = 1) (p3 : aP S a0 0 = some b2) (hd1 : 1 ≤ d) (k : X E (d - 1) fJ5_newCapacity_0f7a4 0 [some (.ref a0), some (J x1), none, none, none, none] [] S (mI M) (Kr E d fJ5_ensureCapacityInternal_d00df 27 [some (.ref a0), some (J x1), o2] [.ref b2, .ref a0] Q)) : X E d fJ5_ensureCapacityInternal_d00df 17 [some (.ref a0), some (J x1), o2] [] S (mI M) Q := by
  refine X_aload_n 18 (by decide +kernel : decode cJ5_ensureCapacityInternal_d00df 17 = .ok (.aload_n 0, 1)) rfl rfl rfl ?_
  refine X_aload_n 19 (by decide +kernel : decode cJ5_ensureCapacityInternal_d00df 18 = .ok (.aload_n 0, 1)) rfl rfl rfl ?_
  refine X_getR 22 (by decide +kernel : decode cJ5_ensureCapacityInternal_d00df 19 = .ok (.getfield 15, 3)) rfl rfl (by decide +kernel : aFd 21 15 = some (1, 0, true, false)) g1 p3 ?_
  refine X_aload_n 23 (by decide +kernel : decode cJ5_ensureCapacityInternal_d00df 22 = .ok (.aload_n 0, 1)) rfl rfl rfl ?_
  refine X_iload_n 24 (by decide +kernel : decode cJ5_ensureCapacityInternal_d00df 23 = .ok (.iload_n 1, 1)) rfl rfl rfl ?_
  exact X_cv (as := [J x1]) (rest := [.ref b2, .ref a0]) (by decide +kernel : decode cJ5_ensureCapacityInternal_d00df 24 = .ok (.invokevirtual 104, 3)) (Or.inl ⟨rfl, rfl, rfl⟩) rfl rfl rfl rfl rfl (Nat.le_of_ble_eq_true rfl) (Or.inr (Or.inr (by rw [g1]; rfl))) hd1 k
theorem kJ5_ensureCapacityInternal_d00df_27 {a0 : Nat} {o1 : Option Value} {o2 : Option Value} {t0 : Int} {u1 : Nat} {u2 : Nat} (g1 : aKd S a0 = 1) (hd1 : 1 ≤ d) (k : X E (d - 1) fJ7_copyOf_9075b 0 [some (.ref u1), some (J ((Int32.ofInt t0 <<< (Int32.ofInt (M a0 1) &&& 31)).toInt)), none] [] S (mI M) (Kr E d fJ5_ensureCapacityInternal_d00df 35 [some (.ref a0), o1, o2] [.ref u2] Q)) : X E d fJ5_ensureCapacityInternal_d00df 27 [some (.ref a0), o1, o2] [J t0, .ref u1, .ref u2] S (mI M) Q := by
  refine X_aload_n 28 (by decide +kernel : decode cJ5_ensureCapacityInternal_d00df 27 = .ok (.aload_n 0, 1)) rfl rfl rfl ?_
  refine X_getI 31 (by decide +kernel : decode cJ5_ensureCapacityInternal_d00df 28 = .ok (.getfield 22, 3)) rfl rfl (by decide +kernel : aFd 21 22 = some (1, 1, false, false)) g1 ?_
  refine X_ishl 32 (by decide +kernel : decode cJ5_ensureCapacityInternal_d00df 31 = .ok (.ishl, 1)) rfl rfl ?_
  exact X_cs (as := [J ((Int32.ofInt t0 <<< (Int32.ofInt (M a0 1) &&& 31)).toInt), .ref u1]) (rest := [.ref u2]) (by decide +kernel : decode cJ5_ensureCapacityInternal_d00df 32 = .ok (.invokestatic 108, 3)) rfl rfl rfl rfl rfl rfl rfl (Nat.le_of_ble_eq_true rfl) hd1 k
theorem kJ5_ensureCapacityInternal_d00df_35 {o0 : Option Value} {o1 : Option Value} {o2 : Option Value} {u0 : Nat} {u1 : Nat} (g1 : aK S u1 = 1) (k : X E d fJ5_ensureCapacityInternal_d00df 38 [o0, o1, o2] [] (aPut S u1 0 (some u0)) (mI M) Q) : X E d fJ5_ensureCapacityInternal_d00df 35 [o0, o1, o2] [.ref u0, .ref u1] S (mI M) Q := by
  refine X_putR 38 (by decide +kernel : decode cJ5_ensureCapacityInternal_d00df 35 = .ok (.putfield 15, 3)) rfl rfl (by decide +kernel : aFd 21 15 = some (1, 0, true, false)) (Or.inl rfl) g1 rfl ?_
  exact k
theorem kJ5_ensureCapacityInternal_d00df_38 {o0 : Option Value} {o1 : Option Value} {o2 : Option Value} (q : Q (some none) S (mI M)) : X E d fJ5_ensureCapacityInternal_d00df 38 [o0, o1, o2] [] S (mI M) Q := by
  exact X_vret (by decide +kernel : decode cJ5_ensureCapacityInternal_d00df 38 = .ok (.return_, 1)) rfl rfl q
theorem kJ5_newCapacity_0f7a4_0 {a0 : Nat} {x1 : Int} {o2 : Option Value} {o3 : Option Value} {o4 : Option Value} {o5 : Option Value} {b2 : Nat} (g1 : aKd S a0 = 1) (p3 : aP S a0 0 = some b2) (g4 : aKd S b2 = 100 ∨ aKd S b2 = 101 ∨ aKd S b2 = 102) (hd1 : 1 ≤ d) (k : X E (d - 1) fJ8_newLength_cabcc 0 [some (J (aN S b2 : Int)), some (J (((Int32.ofInt x1 <<< (Int32.ofInt (M a0 1) &&& 31)).toInt) - (aN S b2 : Int))), some (J ((aN S b2 : Int) + ((Int32.ofInt 2 <<< (Int32.ofInt (M a0 1) &&& 31)).toInt))), none] [] S (mI M) (Kr E d fJ5_newCapacity_0f7a4 32 [some (.ref a0), some (J x1), some (J (aN S b2 : Int)), some (J ((Int32.ofInt x1 <<< (Int32.ofInt (M a0 1) &&& 31)).toInt)), some (J (((Int32.ofInt x1 <<< (Int32.ofInt (M a0 1) &&& 31)).toInt) - (aN S b2 : Int))), o5] [] Q)) : X E d fJ5_newCapacity_0f7a4 0 [some (.ref a0), some (J x1), o2, o3, o4, o5] [] S (mI M) Q := by
  refine X_aload_n 1 (by decide +kernel : decode cJ5_newCapacity_0f7a4 0 = .ok (.aload_n 0, 1)) rfl rfl rfl ?_
  refine X_getR 4 (by decide +kernel : decode cJ5_newCapacity_0f7a4 1 = .ok (.getfield 15, 3)) rfl rfl (by decide +kernel : aFd 21 15 = some (1, 0, true, false)) g1 p3 ?_
  refine X_alen 5 (by decide +kernel : decode cJ5_newCapacity_0f7a4 4 = .ok (.arraylength, 1)) rfl rfl g4 ?_
  refine X_istore_n 6 (by decide +kernel : decode cJ5_newCapacity_0f7a4 5 = .ok (.istore_n 2, 1)) rfl rfl (Nat.le_of_ble_eq_true rfl) rfl ?_
  refine X_iload_n 7 (by decide +kernel : decode cJ5_newCapacity_0f7a4 6 = .ok (.iload_n 1, 1)) rfl rfl rfl ?_
  refine X_aload_n 8 (by decide +kernel : decode cJ5_newCapacity_0f7a4 7 = .ok (.aload_n 0, 1)) rfl rfl rfl ?_
  refine X_getI 11 (by decide +kernel : decode cJ5_newCapacity_0f7a4 8 = .ok (.getfield 22, 3)) rfl rfl (by decide +kernel : aFd 21 22 = some (1, 1, false, false)) g1 ?_
  refine X_ishl 12 (by decide +kernel : decode cJ5_newCapacity_0f7a4 11 = .ok (.ishl, 1)) rfl rfl ?_
  refine X_istore_n 13 (by decide +kernel : decode cJ5_newCapacity_0f7a4 12 = .ok (.istore_n 3, 1)) rfl rfl (Nat.le_of_ble_eq_true rfl) rfl ?_
  refine X_iload_n 14 (by decide +kernel : decode cJ5_newCapacity_0f7a4 13 = .ok (.iload_n 3, 1)) rfl rfl rfl ?_
  refine X_iload_n 15 (by decide +kernel : decode cJ5_newCapacity_0f7a4 14 = .ok (.iload_n 2, 1)) rfl rfl rfl ?_
  refine X_isub 16 (by decide +kernel : decode cJ5_newCapacity_0f7a4 15 = .ok (.isub, 1)) rfl rfl ?_
  refine X_istore 18 (by decide +kernel : decode cJ5_newCapacity_0f7a4 16 = .ok (.istore 4, 2)) rfl rfl (Nat.le_of_ble_eq_true rfl) rfl ?_
  refine X_iload_n 19 (by decide +kernel : decode cJ5_newCapacity_0f7a4 18 = .ok (.iload_n 2, 1)) rfl rfl rfl ?_
  refine X_iload 21 (by decide +kernel : decode cJ5_newCapacity_0f7a4 19 = .ok (.iload 4, 2)) rfl rfl rfl ?_
  refine X_iload_n 22 (by decide +kernel : decode cJ5_newCapacity_0f7a4 21 = .ok (.iload_n 2, 1)) rfl rfl rfl ?_
  refine X_iconst 23 (by decide +kernel : decode cJ5_newCapacity_0f7a4 22 = .ok (.iconst 2, 1)) rfl rfl ?_
  refine X_aload_n 24 (by decide +kernel : decode cJ5_newCapacity_0f7a4 23 = .ok (.aload_n 0, 1)) rfl rfl rfl ?_
  refine X_getI 27 (by decide +kernel : decode cJ5_newCapacity_0f7a4 24 = .ok (.getfield 22, 3)) rfl rfl (by decide +kernel : aFd 21 22 = some (1, 1, false, false)) g1 ?_
  refine X_ishl 28 (by decide +kernel : decode cJ5_newCapacity_0f7a4 27 = .ok (.ishl, 1)) rfl rfl ?_
  refine X_iadd 29 (by decide +kernel : decode cJ5_newCapacity_0f7a4 28 = .ok (.iadd, 1)) rfl rfl ?_
  exact X_cs (as := [J ((aN S b2 : Int) + ((Int32.ofInt 2 <<< (Int32.ofInt (M a0 1) &&& 31)).toInt)), J (((Int32.ofInt x1 <<< (Int32.ofInt (M a0 1) &&& 31)).toInt) - (aN S b2 : Int)), J (aN S b2 : Int)]) (rest := []) (by decide +kernel : decode cJ5_newCapacity_0f7a4 29 = .ok (.invokestatic 114, 3)) rfl rfl rfl rfl rfl rfl rfl (Nat.le_of_ble_eq_true rfl) hd1 k
theorem kJ5_newCapacity_0f7a4_32 {o0 : Option Value} {o1 : Option Value} {o2 : Option Value} {o3 : Option Value} {o4 : Option Value} {o5 : Option Value} {t0 : Int} (r1 : R32 t0) (k1 : t0 ≠ 2147483647 → X E d fJ5_newCapacity_0f7a4 51 [o0, o1, o2, o3, o4, some (J t0)] [] S (mI M) Q) (k2 : t0 = 2147483647 → X E d fJ5_newCapacity_0f7a4 41 [o0, o1, o2, o3, o4, some (J t0)] [] S (mI M) Q) : X E d fJ5_newCapacity_0f7a4 32 [o0, o1, o2, o3, o4, o5] [J t0] S (mI M) Q := by
  refine X_istore 34 (by decide +kernel : decode cJ5_newCapacity_0f7a4 32 = .ok (.istore 5, 2)) rfl rfl (Nat.le_of_ble_eq_true rfl) rfl ?_
  refine X_iload 36 (by decide +kernel : decode cJ5_newCapacity_0f7a4 34 = .ok (.iload 5, 2)) rfl rfl rfl ?_
  refine X_ldcI 38 (2147483647) (by decide +kernel : decode cJ5_newCapacity_0f7a4 36 = .ok (.ldc 39, 2)) rfl rfl rfl rfl ?_
  exact X_icmpne 51 41 (by decide +kernel : decode cJ5_newCapacity_0f7a4 38 = .ok (.if_icmp .ne 13, 3)) rfl rfl (by decide) r1 ⟨by decide, by decide⟩ k1 k2
theorem kJ5_newCapacity_0f7a4_51 {a0 : Nat} {o1 : Option Value} {o2 : Option Value} {o3 : Option Value} {o4 : Option Value} {x5 : Int} (g1 : aKd S a0 = 1) (q : Q (some (some (J ((Int32.ofInt x5 >>> (Int32.ofInt (M a0 1) &&& 31)).toInt)))) S (mI M)) : X E d fJ5_newCapacity_0f7a4 51 [some (.ref a0), o1, o2, o3, o4, some (J x5)] [] S (mI M) Q := by
  refine X_iload 53 (by decide +kernel : decode cJ5_newCapacity_0f7a4 51 = .ok (.iload 5, 2)) rfl rfl rfl ?_
  refine X_aload_n 54 (by decide +kernel : decode cJ5_newCapacity_0f7a4 53 = .ok (.aload_n 0, 1)) rfl rfl rfl ?_
  refine X_getI 57 (by decide +kernel : decode cJ5_newCapacity_0f7a4 54 = .ok (.getfield 22, 3)) rfl rfl (by decide +kernel : aFd 21 22 = some (1, 1, false, false)) g1 ?_
  refine X_ishr 58 (by decide +kernel : decode cJ5_newCapacity_0f7a4 57 = .ok (.ishr, 1)) rfl rfl ?_
  exact X_iret (by decide +kernel : decode cJ5_newCapacity_0f7a4 58 = .ok (.ireturn, 1)) rfl rfl rfl q
theorem kJ8_newLength_cabcc_0 {x0 : Int} {x1 : Int} {x2 : Int} {o3 : Option Value} (r1 : R32 x1) (r2 : R32 x2) (r3 : R32 (x0 + (max x1 x2))) (k1 : (x0 + (max x1 x2)) ≤ 0 → X E d fJ8_newLength_cabcc 21 [some (J x0), some (J x1), some (J x2), some (J (x0 + (max x1 x2)))] [] S (mI M) Q) (k2 : 0 < (x0 + (max x1 x2)) → X E d fJ8_newLength_cabcc 13 [some (J x0), some (J x1), some (J x2), some (J (x0 + (max x1 x2)))] [] S (mI M) Q) : X E d fJ8_newLength_cabcc 0 [some (J x0), some (J x1), some (J x2), o3] [] S (mI M) Q := by
  refine X_iload_n 1 (by decide +kernel : decode cJ8_newLength_cabcc 0 = .ok (.iload_n 0, 1)) rfl rfl rfl ?_
  refine X_iload_n 2 (by decide +kernel : decode cJ8_newLength_cabcc 1 = .ok (.iload_n 1, 1)) rfl rfl rfl ?_
  refine X_iload_n 3 (by decide +kernel : decode cJ8_newLength_cabcc 2 = .ok (.iload_n 2, 1)) rfl rfl rfl ?_
  refine X_math (z := 1) 6 (by decide +kernel : decode cJ8_newLength_cabcc 3 = .ok (.invokestatic 194, 3)) rfl rfl rfl rfl (by decide) r1 r2 (Nat.le_of_ble_eq_true rfl) ?_
  refine X_iadd 7 (by decide +kernel : decode cJ8_newLength_cabcc 6 = .ok (.iadd, 1)) rfl rfl ?_
  refine X_istore_n 8 (by decide +kernel : decode cJ8_newLength_cabcc 7 = .ok (.istore_n 3, 1)) rfl rfl (Nat.le_of_ble_eq_true rfl) rfl ?_
  refine X_iconst 9 (by decide +kernel : decode cJ8_newLength_cabcc 8 = .ok (.iconst 0, 1)) rfl rfl ?_
  refine X_iload_n 10 (by decide +kernel : decode cJ8_newLength_cabcc 9 = .ok (.iload_n 3, 1)) rfl rfl rfl ?_
  exact X_icmpge 21 13 (by decide +kernel : decode cJ8_newLength_cabcc 10 = .ok (.if_icmp .ge 11, 3)) rfl rfl (by decide) ⟨by decide, by decide⟩ r3 k1 k2
theorem kJ8_newLength_cabcc_13 {o0 : Option Value} {o1 : Option Value} {o2 : Option Value} {x3 : Int} (r1 : R32 x3) (k1 : 2147483639 < x3 → X E d fJ8_newLength_cabcc 21 [o0, o1, o2, some (J x3)] [] S (mI M) Q) (k2 : x3 ≤ 2147483639 → X E d fJ8_newLength_cabcc 19 [o0, o1, o2, some (J x3)] [] S (mI M) Q) : X E d fJ8_newLength_cabcc 13 [o0, o1, o2, some (J x3)] [] S (mI M) Q := by
  refine X_iload_n 14 (by decide +kernel : decode cJ8_newLength_cabcc 13 = .ok (.iload_n 3, 1)) rfl rfl rfl ?_
  refine X_ldcI 16 (2147483639) (by decide +kernel : decode cJ8_newLength_cabcc 14 = .ok (.ldc 200, 2)) rfl rfl rfl rfl ?_
  exact X_icmpgt 21 19 (by decide +kernel : decode cJ8_newLength_cabcc 16 = .ok (.if_icmp .gt 5, 3)) rfl rfl (by decide) r1 ⟨by decide, by decide⟩ k1 k2
theorem kJ8_newLength_cabcc_19 {o0 : Option Value} {o1 : Option Value} {o2 : Option Value} {x3 : Int} (q : Q (some (some (J x3))) S (mI M)) : X E d fJ8_newLength_cabcc 19 [o0, o1, o2, some (J x3)] [] S (mI M) Q := by
  refine X_iload_n 20 (by decide +kernel : decode cJ8_newLength_cabcc 19 = .ok (.iload_n 3, 1)) rfl rfl rfl ?_
  exact X_iret (by decide +kernel : decode cJ8_newLength_cabcc 20 = .ok (.ireturn, 1)) rfl rfl rfl q
theorem kJ8_newLength_cabcc_21 {x0 : Int} {x1 : Int} {o2 : Option Value} {o3 : Option Value} (hd1 : 1 ≤ d) (k : X E (d - 1) fJ8_hugeLength_7cf53 0 [some (J x0), some (J x1), none] [] S (mI M) (Kr E d fJ8_newLength_cabcc 26 [some (J x0), some (J x1), o2, o3] [] Q)) : X E d fJ8_newLength_cabcc 21 [some (J x0), some (J x1), o2, o3] [] S (mI M) Q := by
  refine X_iload_n 22 (by decide +kernel : decode cJ8_newLength_cabcc 21 = .ok (.iload_n 0, 1)) rfl rfl rfl ?_
  refine X_iload_n 23 (by decide +kernel : decode cJ8_newLength_cabcc 22 = .ok (.iload_n 1, 1)) rfl rfl rfl ?_
  exact X_cs (as := [J x1, J x0]) (rest := []) (by decide +kernel : decode cJ8_newLength_cabcc 23 = .ok (.invokestatic 201, 3)) rfl rfl rfl rfl rfl rfl rfl (Nat.le_of_ble_eq_true rfl) hd1 k
theorem kJ8_newLength_cabcc_26 {o0 : Option Value} {o1 : Option Value} {o2 : Option Value} {o3 : Option Value} {t0 : Int} (q : Q (some (some (J t0))) S (mI M)) : X E d fJ8_newLength_cabcc 26 [o0, o1, o2, o3] [J t0] S (mI M) Q := by
  exact X_iret (by decide +kernel : decode cJ8_newLength_cabcc 26 = .ok (.ireturn, 1)) rfl rfl rfl q
theorem kJ7_copyOf_9075b_0 {a0 : Nat} {x1 : Int} {o2 : Option Value} (g1 : aKd S a0 = 100 ∨ aKd S a0 = 101 ∨ aKd S a0 = 102) (r2 : R32 x1) (r3 : R32 ((aN S a0 : Int))) (k1 : x1 ≠ (aN S a0 : Int) → X E d fJ7_copyOf_9075b 14 [some (.ref a0), some (J x1), o2] [] S (mI M) Q) (k2 : x1 = (aN S a0 : Int) → X E d fJ7_copyOf_9075b 6 [some (.ref a0), some (J x1), o2] [] S (mI M) Q) : X E d fJ7_copyOf_9075b 0 [some (.ref a0), some (J x1), o2] [] S (mI M) Q := by
  refine X_iload_n 1 (by decide +kernel : decode cJ7_copyOf_9075b 0 = .ok (.iload_n 1, 1)) rfl rfl rfl ?_
  refine X_aload_n 2 (by decide +kernel : decode cJ7_copyOf_9075b 1 = .ok (.aload_n 0, 1)) rfl rfl rfl ?_
  refine X_alen 3 (by decide +kernel : decode cJ7_copyOf_9075b 2 = .ok (.arraylength, 1)) rfl rfl g1 ?_
  exact X_icmpne 14 6 (by decide +kernel : decode cJ7_copyOf_9075b 3 = .ok (.if_icmp .ne 11, 3)) rfl rfl (by decide) r2 r3 k1 k2
theorem kJ7_copyOf_9075b_6 {a0 : Nat} {o1 : Option Value} {o2 : Option Value} (g1 : aK S a0 = 101) (h2 : ∀ j, j < aN S a0 → -128 ≤ M a0 j ∧ M a0 j ≤ 127) (g3 : aK (aNew S 101 (aN S a0) (aN S a0)) (aX S) = 101) (q : Q (some (some (.ref (aX S)))) (aNew S 101 (aN S a0) (aN S a0)) (mI (aU M (aX S) (M a0)))) : X E d fJ7_copyOf_9075b 6 [some (.ref a0), o1, o2] [] S (mI M) Q := by
  refine X_aload_n 7 (by decide +kernel : decode cJ7_copyOf_9075b 6 = .ok (.aload_n 0, 1)) rfl rfl rfl ?_
  refine X_clone 10 rfl (by decide +kernel : decode cJ7_copyOf_9075b 7 = .ok (.invokevirtual 310, 3)) rfl rfl g1 h2 (Nat.le_of_ble_eq_true rfl) ?_
  refine X_cast 13 rfl (by decide +kernel : decode cJ7_copyOf_9075b 10 = .ok (.checkcast 311, 3)) rfl rfl g3 ?_
  exact X_aret (by decide +kernel : decode cJ7_copyOf_9075b 13 = .ok (.areturn, 1)) rfl rfl rfl q
theorem kJ7_copyOf_9075b_14 {a0 : Nat} {x1 : Int} {o2 : Option Value} {M_12 : Nat → Nat → Int} (h1 : (0 : Int) ≤ x1 ∧ x1 ≤ 1000000) (g2 : aKd (aNew S 101 x1.toNat x1.toNat) a0 = 100 ∨ aKd (aNew S 101 x1.toNat x1.toNat) a0 = 101 ∨ aKd (aNew S 101 x1.toNat x1.toNat) a0 = 102) (r3 : R32 ((aN (aNew S 101 x1.toNat x1.toNat) a0 : Int))) (r4 : R32 x1) (g5 : aKd (aNew S 101 x1.toNat x1.toNat) a0 = 101) (g6 : aK (aNew S 101 x1.toNat x1.toNat) (aX S) = 101) (h7 : (0 : Int) ≤ min (aN (aNew S 101 x1.toNat x1.toNat) a0 : Int) x1) (r8 : R32 (min (aN (aNew S 101 x1.toNat x1.toNat) a0 : Int) x1)) (h9 : 0 + (min (aN (aNew S 101 x1.toNat x1.toNat) a0 : Int) x1) ≤ (aN (aNew S 101 x1.toNat x1.toNat) a0 : Int)) (h10 : 0 + (min (aN (aNew S 101 x1.toNat x1.toNat) a0 : Int) x1) ≤ (aN (aNew S 101 x1.toNat x1.toNat) (aX S) : Int)) (h11 : ∀ j, j < (min (aN (aNew S 101 x1.toNat x1.toNat) a0 : Int) x1).toNat → -128 ≤ (aU M (aX S) (fun _ => 0)) a0 (0 + j) ∧ (aU M (aX S) (fun _ => 0)) a0 (0 + j) ≤ 127) (eM_12 : aCp (aU M (aX S) (fun _ => 0)) a0 (aX S) 0 0 (min (aN (aNew S 101 x1.toNat x1.toNat) a0 : Int) x1).toNat = M_12) (q : Q (some (some (.ref (aX S)))) (aNew S 101 x1.toNat x1.toNat) (mI M_12)) : X E d fJ7_copyOf_9075b 14 [some (.ref a0), some (J x1), o2] [] S (mI M) Q := by
  refine X_iload_n 15 (by decide +kernel : decode cJ7_copyOf_9075b 14 = .ok (.iload_n 1, 1)) rfl rfl rfl ?_
  refine X_newB 17 (by decide +kernel : decode cJ7_copyOf_9075b 15 = .ok (.newarray .byte, 2)) rfl rfl h1 ?_
  refine X_astore_n 18 (by decide +kernel : decode cJ7_copyOf_9075b 17 = .ok (.astore_n 2, 1)) rfl rfl (Nat.le_of_ble_eq_true rfl) rfl ?_
  refine X_aload_n 19 (by decide +kernel : decode cJ7_copyOf_9075b 18 = .ok (.aload_n 0, 1)) rfl rfl rfl ?_
  refine X_iconst 20 (by decide +kernel : decode cJ7_copyOf_9075b 19 = .ok (.iconst 0, 1)) rfl rfl ?_
  refine X_aload_n 21 (by decide +kernel : decode cJ7_copyOf_9075b 20 = .ok (.aload_n 2, 1)) rfl rfl rfl ?_
  refine X_iconst 22 (by decide +kernel : decode cJ7_copyOf_9075b 21 = .ok (.iconst 0, 1)) rfl rfl ?_
  refine X_aload_n 23 (by decide +kernel : decode cJ7_copyOf_9075b 22 = .ok (.aload_n 0, 1)) rfl rfl rfl ?_
  refine X_alen 24 (by decide +kernel : decode cJ7_copyOf_9075b 23 = .ok (.arraylength, 1)) rfl rfl g2 ?_
  refine X_iload_n 25 (by decide +kernel : decode cJ7_copyOf_9075b 24 = .ok (.iload_n 1, 1)) rfl rfl rfl ?_
  refine X_math (z := 0) 28 (by decide +kernel : decode cJ7_copyOf_9075b 25 = .ok (.invokestatic 304, 3)) rfl rfl rfl rfl (by decide) r3 r4 (Nat.le_of_ble_eq_true rfl) ?_
  refine X_cpB 31 (by decide +kernel : decode cJ7_copyOf_9075b 28 = .ok (.invokestatic 150, 3)) rfl rfl rfl rfl g5 g6 ⟨(by decide), (by decide), h7⟩ ⟨⟨by decide, by decide⟩, ⟨by decide, by decide⟩, r8⟩ h9 h10 h11 (Nat.le_of_ble_eq_true rfl) ?_
  show X E d fJ7_copyOf_9075b 31 [some (.ref a0), some (J x1), some (.ref (aX S))] [] (aNew S 101 x1.toNat x1.toNat) (mI (aCp (aU M (aX S) (fun _ => 0)) a0 (aX S) 0 0 (min (aN (aNew S 101 x1.toNat x1.toNat) a0 : Int) x1).toNat)) Q
  rw [eM_12]
  refine X_aload_n 32 (by decide +kernel : decode cJ7_copyOf_9075b 31 = .ok (.aload_n 2, 1)) rfl rfl rfl ?_
  exact X_aret (by decide +kernel : decode cJ7_copyOf_9075b 32 = .ok (.areturn, 1)) rfl rfl rfl q
theorem kJ5_isLatin1_aae02_0 {o0 : Option Value} {y1 : Int} (e2 : E 2 = J y1) (r3 : R32 y1) (k1 : y1 = 0 → X E d fJ5_isLatin1_aae02 17 [o0] [] S (mI M) Q) (k2 : y1 ≠ 0 → X E d fJ5_isLatin1_aae02 6 [o0] [] S (mI M) Q) : X E d fJ5_isLatin1_aae02 0 [o0] [] S (mI M) Q := by
  refine X_getst 3 (by decide +kernel : decode cJ5_isLatin1_aae02 0 = .ok (.getstatic 18, 3)) rfl rfl rfl e2 ?_
  exact X_ifeq 17 6 (by decide +kernel : decode cJ5_isLatin1_aae02 3 = .ok (.ifCond .eq 14, 3)) rfl rfl (by decide) r3 k1 k2
theorem kJ5_isLatin1_aae02_6 {a0 : Nat} (g1 : aKd S a0 = 1) (r2 : R32 (M a0 1)) (k1 : (M a0 1) ≠ 0 → X E d fJ5_isLatin1_aae02 17 [some (.ref a0)] [] S (mI M) Q) (k2 : (M a0 1) = 0 → X E d fJ5_isLatin1_aae02 13 [some (.ref a0)] [] S (mI M) Q) : X E d fJ5_isLatin1_aae02 6 [some (.ref a0)] [] S (mI M) Q := by
  refine X_aload_n 7 (by decide +kernel : decode cJ5_isLatin1_aae02 6 = .ok (.aload_n 0, 1)) rfl rfl rfl ?_
  refine X_getI 10 (by decide +kernel : decode cJ5_isLatin1_aae02 7 = .ok (.getfield 22, 3)) rfl rfl (by decide +kernel : aFd 21 22 = some (1, 1, false, false)) g1 ?_
  exact X_ifne 17 13 (by decide +kernel : decode cJ5_isLatin1_aae02 10 = .ok (.ifCond .ne 7, 3)) rfl rfl (by decide) r2 k1 k2
theorem kJ5_isLatin1_aae02_13 {o0 : Option Value} (k : X E d fJ5_isLatin1_aae02 18 [o0] [J 1] S (mI M) Q) : X E d fJ5_isLatin1_aae02 13 [o0] [] S (mI M) Q := by
  refine X_iconst 14 (by decide +kernel : decode cJ5_isLatin1_aae02 13 = .ok (.iconst 1, 1)) rfl rfl ?_
  exact X_goto 18 (by decide +kernel : decode cJ5_isLatin1_aae02 14 = .ok (.goto 4, 3)) rfl (by decide) k
theorem kJ5_isLatin1_aae02_17 {o0 : Option Value} (k : X E d fJ5_isLatin1_aae02 18 [o0] [J 0] S (mI M) Q) : X E d fJ5_isLatin1_aae02 17 [o0] [] S (mI M) Q := by
  refine X_iconst 18 (by decide +kernel : decode cJ5_isLatin1_aae02 17 = .ok (.iconst 0, 1)) rfl rfl ?_
  exact k
theorem kJ5_isLatin1_aae02_18 {o0 : Option Value} {t0 : Int} (h1 : narrow .boolean (J t0) = J t0) (q : Q (some (some (J t0))) S (mI M)) : X E d fJ5_isLatin1_aae02 18 [o0] [J t0] S (mI M) Q := by
  exact X_iret (by decide +kernel : decode cJ5_isLatin1_aae02 18 = .ok (.ireturn, 1)) rfl rfl h1 q
theorem kJ5_putStringAt_47b60_0 {a0 : Nat} {o1 : Option Value} {a2 : Nat} (hd1 : 1 ≤ d) (k : X E (d - 1) fJ5_inflateIfNeededFor_a7421 0 [some (.ref a0), some (.ref a2)] [] S (mI M) (Kr E d fJ5_putStringAt_47b60 5 [some (.ref a0), o1, some (.ref a2)] [] Q)) (g1 : aKd S a0 = 1) : X E d fJ5_putStringAt_47b60 0 [some (.ref a0), o1, some (.ref a2)] [] S (mI M) Q := by
  refine X_aload_n 1 (by decide +kernel : decode cJ5_putStringAt_47b60 0 = .ok (.aload_n 0, 1)) rfl rfl rfl ?_
  refine X_aload_n 2 (by decide +kernel : decode cJ5_putStringAt_47b60 1 = .ok (.aload_n 2, 1)) rfl rfl rfl ?_
  exact X_cv (as := [.ref a2]) (rest := []) (by decide +kernel : decode cJ5_putStringAt_47b60 2 = .ok (.invokevirtual 397, 3)) (Or.inl ⟨rfl, rfl, rfl⟩) rfl rfl rfl rfl rfl (Nat.le_of_ble_eq_true rfl) (Or.inr (Or.inr (by rw [g1]; rfl))) hd1 k
theorem kJ5_putStringAt_47b60_5 {a0 : Nat} {x1 : Int} {a2 : Nat} {b2 : Nat} (g1 : aKd S a0 = 1) (p3 : aP S a0 0 = some b2) (hd1 : 1 ≤ d) (k : X E (d - 1) fJ0_getBytes_840e7 0 [some (.ref a2), some (.ref b2), some (J x1), some (J (M a0 1))] [] S (mI M) (Kr E d fJ5_putStringAt_47b60 18 [some (.ref a0), some (J x1), some (.ref a2)] [] Q)) (g5 : aKd S a2 = 0) : X E d fJ5_putStringAt_47b60 5 [some (.ref a0), some (J x1), some (.ref a2)] [] S (mI M) Q := by
  refine X_aload_n 6 (by decide +kernel : decode cJ5_putStringAt_47b60 5 = .ok (.aload_n 2, 1)) rfl rfl rfl ?_
  refine X_aload_n 7 (by decide +kernel : decode cJ5_putStringAt_47b60 6 = .ok (.aload_n 0, 1)) rfl rfl rfl ?_
  refine X_getR 10 (by decide +kernel : decode cJ5_putStringAt_47b60 7 = .ok (.getfield 15, 3)) rfl rfl (by decide +kernel : aFd 21 15 = some (1, 0, true, false)) g1 p3 ?_
  refine X_iload_n 11 (by decide +kernel : decode cJ5_putStringAt_47b60 10 = .ok (.iload_n 1, 1)) rfl rfl rfl ?_
  refine X_aload_n 12 (by decide +kernel : decode cJ5_putStringAt_47b60 11 = .ok (.aload_n 0, 1)) rfl rfl rfl ?_
  refine X_getI 15 (by decide +kernel : decode cJ5_putStringAt_47b60 12 = .ok (.getfield 22, 3)) rfl rfl (by decide +kernel : aFd 21 22 = some (1, 1, false, false)) g1 ?_
  exact X_cv (as := [J (M a0 1), J x1, .ref b2]) (rest := []) (by decide +kernel : decode cJ5_putStringAt_47b60 15 = .ok (.invokevirtual 399, 3)) (Or.inl ⟨rfl, rfl, rfl⟩) rfl rfl rfl rfl rfl (Nat.le_of_ble_eq_true rfl) (Or.inr (Or.inr (by rw [g5]; rfl))) hd1 k
theorem kJ5_putStringAt_47b60_18 {o0 : Option Value} {o1 : Option Value} {o2 : Option Value} (q : Q (some none) S (mI M)) : X E d fJ5_putStringAt_47b60 18 [o0, o1, o2] [] S (mI M) Q := by
  exact X_vret (by decide +kernel : decode cJ5_putStringAt_47b60 18 = .ok (.return_, 1)) rfl rfl q
theorem kJ5_inflateIfNeededFor_a7421_0 {o0 : Option Value} {o1 : Option Value} {y1 : Int} (e2 : E 2 = J y1) (r3 : R32 y1) (k1 : y1 = 0 → X E d fJ5_inflateIfNeededFor_a7421 21 [o0, o1] [] S (mI M) Q) (k2 : y1 ≠ 0 → X E d fJ5_inflateIfNeededFor_a7421 6 [o0, o1] [] S (mI M) Q) : X E d fJ5_inflateIfNeededFor_a7421 0 [o0, o1] [] S (mI M) Q := by
  refine X_getst 3 (by decide +kernel : decode cJ5_inflateIfNeededFor_a7421 0 = .ok (.getstatic 18, 3)) rfl rfl rfl e2 ?_
  exact X_ifeq 21 6 (by decide +kernel : decode cJ5_inflateIfNeededFor_a7421 3 = .ok (.ifCond .eq 18, 3)) rfl rfl (by decide) r3 k1 k2
theorem kJ5_inflateIfNeededFor_a7421_6 {a0 : Nat} {a1 : Nat} (g1 : aKd S a0 = 1) (hd1 : 1 ≤ d) (k : X E (d - 1) fJ0_coder_7d493 0 [some (.ref a1)] [] S (mI M) (Kr E d fJ5_inflateIfNeededFor_a7421 14 [some (.ref a0), some (.ref a1)] [J (M a0 1)] Q)) (g2 : aKd S a1 = 0) : X E d fJ5_inflateIfNeededFor_a7421 6 [some (.ref a0), some (.ref a1)] [] S (mI M) Q := by
  refine X_aload_n 7 (by decide +kernel : decode cJ5_inflateIfNeededFor_a7421 6 = .ok (.aload_n 0, 1)) rfl rfl rfl ?_
  refine X_getI 10 (by decide +kernel : decode cJ5_inflateIfNeededFor_a7421 7 = .ok (.getfield 22, 3)) rfl rfl (by decide +kernel : aFd 21 22 = some (1, 1, false, false)) g1 ?_
  refine X_aload_n 11 (by decide +kernel : decode cJ5_inflateIfNeededFor_a7421 10 = .ok (.aload_n 1, 1)) rfl rfl rfl ?_
  exact X_cv (as := []) (rest := [J (M a0 1)]) (by decide +kernel : decode cJ5_inflateIfNeededFor_a7421 11 = .ok (.invokevirtual 40, 3)) (Or.inl ⟨rfl, rfl, rfl⟩) rfl rfl rfl rfl rfl (Nat.le_of_ble_eq_true rfl) (Or.inr (Or.inr (by rw [g2]; rfl))) hd1 k
theorem kJ5_inflateIfNeededFor_a7421_14 {o0 : Option Value} {o1 : Option Value} {t0 : Int} {t1 : Int} (r1 : R32 t1) (r2 : R32 t0) (k1 : t1 = t0 → X E d fJ5_inflateIfNeededFor_a7421 21 [o0, o1] [] S (mI M) Q) (k2 : t1 ≠ t0 → X E d fJ5_inflateIfNeededFor_a7421 17 [o0, o1] [] S (mI M) Q) : X E d fJ5_inflateIfNeededFor_a7421 14 [o0, o1] [J t0, J t1] S (mI M) Q := by
  exact X_icmpeq 21 17 (by decide +kernel : decode cJ5_inflateIfNeededFor_a7421 14 = .ok (.if_icmp .eq 7, 3)) rfl rfl (by decide) r1 r2 k1 k2
theorem kJ5_inflateIfNeededFor_a7421_17 {a0 : Nat} {o1 : Option Value} (hd1 : 1 ≤ d) (k : X E (d - 1) fJ5_inflate_da8c8 0 [some (.ref a0), none] [] S (mI M) (Kr E d fJ5_inflateIfNeededFor_a7421 21 [some (.ref a0), o1] [] Q)) (g1 : aKd S a0 = 1) : X E d fJ5_inflateIfNeededFor_a7421 17 [some (.ref a0), o1] [] S (mI M) Q := by
  refine X_aload_n 18 (by decide +kernel : decode cJ5_inflateIfNeededFor_a7421 17 = .ok (.aload_n 0, 1)) rfl rfl rfl ?_
  exact X_cv (as := []) (rest := []) (by decide +kernel : decode cJ5_inflateIfNeededFor_a7421 18 = .ok (.invokevirtual 195, 3)) (Or.inl ⟨rfl, rfl, rfl⟩) rfl rfl rfl rfl rfl (Nat.le_of_ble_eq_true rfl) (Or.inr (Or.inr (by rw [g1]; rfl))) hd1 k
theorem kJ5_inflateIfNeededFor_a7421_21 {o0 : Option Value} {o1 : Option Value} (q : Q (some none) S (mI M)) : X E d fJ5_inflateIfNeededFor_a7421 21 [o0, o1] [] S (mI M) Q := by
  exact X_vret (by decide +kernel : decode cJ5_inflateIfNeededFor_a7421 21 = .ok (.return_, 1)) rfl rfl q
theorem kJ3_checkFromIndexSize_8c36e_0 {x0 : Int} {x1 : Int} {x2 : Int} {o3 : Option Value} (r1 : R32 ((Int32.ofInt ((Int32.ofInt x2 ||| Int32.ofInt x0).toInt) ||| Int32.ofInt x1).toInt)) (k1 : ((Int32.ofInt ((Int32.ofInt x2 ||| Int32.ofInt x0).toInt) ||| Int32.ofInt x1).toInt) < 0 → X E d fJ3_checkFromIndexSize_8c36e 15 [some (J x0), some (J x1), some (J x2), o3] [] S (mI M) Q) (k2 : 0 ≤ ((Int32.ofInt ((Int32.ofInt x2 ||| Int32.ofInt x0).toInt) ||| Int32.ofInt x1).toInt) → X E d fJ3_checkFromIndexSize_8c36e 8 [some (J x0), some (J x1), some (J x2), o3] [] S (mI M) Q) : X E d fJ3_checkFromIndexSize_8c36e 0 [some (J x0), some (J x1), some (J x2), o3] [] S (mI M) Q := by
  refine X_iload_n 1 (by decide +kernel : decode cJ3_checkFromIndexSize_8c36e 0 = .ok (.iload_n 2, 1)) rfl rfl rfl ?_
  refine X_iload_n 2 (by decide +kernel : decode cJ3_checkFromIndexSize_8c36e 1 = .ok (.iload_n 0, 1)) rfl rfl rfl ?_
  refine X_ior 3 (by decide +kernel : decode cJ3_checkFromIndexSize_8c36e 2 = .ok (.ior, 1)) rfl rfl ?_
  refine X_iload_n 4 (by decide +kernel : decode cJ3_checkFromIndexSize_8c36e 3 = .ok (.iload_n 1, 1)) rfl rfl rfl ?_
  refine X_ior 5 (by decide +kernel : decode cJ3_checkFromIndexSize_8c36e 4 = .ok (.ior, 1)) rfl rfl ?_
  exact X_iflt 15 8 (by decide +kernel : decode cJ3_checkFromIndexSize_8c36e 5 = .ok (.ifCond .lt 10, 3)) rfl rfl (by decide) r1 k1 k2
theorem kJ3_checkFromIndexSize_8c36e_8 {x0 : Int} {x1 : Int} {x2 : Int} {o3 : Option Value} (r1 : R32 x1) (r2 : R32 (x2 - x0)) (k1 : x1 ≤ (x2 - x0) → X E d fJ3_checkFromIndexSize_8c36e 23 [some (J x0), some (J x1), some (J x2), o3] [] S (mI M) Q) (k2 : (x2 - x0) < x1 → X E d fJ3_checkFromIndexSize_8c36e 15 [some (J x0), some (J x1), some (J x2), o3] [] S (mI M) Q) : X E d fJ3_checkFromIndexSize_8c36e 8 [some (J x0), some (J x1), some (J x2), o3] [] S (mI M) Q := by
  refine X_iload_n 9 (by decide +kernel : decode cJ3_checkFromIndexSize_8c36e 8 = .ok (.iload_n 1, 1)) rfl rfl rfl ?_
  refine X_iload_n 10 (by decide +kernel : decode cJ3_checkFromIndexSize_8c36e 9 = .ok (.iload_n 2, 1)) rfl rfl rfl ?_
  refine X_iload_n 11 (by decide +kernel : decode cJ3_checkFromIndexSize_8c36e 10 = .ok (.iload_n 0, 1)) rfl rfl rfl ?_
  refine X_isub 12 (by decide +kernel : decode cJ3_checkFromIndexSize_8c36e 11 = .ok (.isub, 1)) rfl rfl ?_
  exact X_icmple 23 15 (by decide +kernel : decode cJ3_checkFromIndexSize_8c36e 12 = .ok (.if_icmp .le 11, 3)) rfl rfl (by decide) r1 r2 k1 k2
theorem kJ3_checkFromIndexSize_8c36e_23 {x0 : Int} {o1 : Option Value} {o2 : Option Value} {o3 : Option Value} (q : Q (some (some (J x0))) S (mI M)) : X E d fJ3_checkFromIndexSize_8c36e 23 [some (J x0), o1, o2, o3] [] S (mI M) Q := by
  refine X_iload_n 24 (by decide +kernel : decode cJ3_checkFromIndexSize_8c36e 23 = .ok (.iload_n 0, 1)) rfl rfl rfl ?_
  exact X_iret (by decide +kernel : decode cJ3_checkFromIndexSize_8c36e 24 = .ok (.ireturn, 1)) rfl rfl rfl q
theorem kJ0_getBytes_840e7_0 {a0 : Nat} {o1 : Option Value} {o2 : Option Value} {o3 : Option Value} (hd1 : 1 ≤ d) (k : X E (d - 1) fJ0_coder_7d493 0 [some (.ref a0)] [] S (mI M) (Kr E d fJ0_getBytes_840e7 4 [some (.ref a0), o1, o2, o3] [] Q)) (g1 : aKd S a0 = 0) : X E d fJ0_getBytes_840e7 0 [some (.ref a0), o1, o2, o3] [] S (mI M) Q := by
  refine X_aload_n 1 (by decide +kernel : decode cJ0_getBytes_840e7 0 = .ok (.aload_n 0, 1)) rfl rfl rfl ?_
  exact X_cv (as := []) (rest := []) (by decide +kernel : decode cJ0_getBytes_840e7 1 = .ok (.invokevirtual 335, 3)) (Or.inl ⟨rfl, rfl, rfl⟩) rfl rfl rfl rfl rfl (Nat.le_of_ble_eq_true rfl) (Or.inr (Or.inr (by rw [g1]; rfl))) hd1 k
theorem kJ0_getBytes_840e7_4 {o0 : Option Value} {o1 : Option Value} {o2 : Option Value} {x3 : Int} {t0 : Int} (r1 : R32 t0) (r2 : R32 x3) (k1 : t0 ≠ x3 → X E d fJ0_getBytes_840e7 28 [o0, o1, o2, some (J x3)] [] S (mI M) Q) (k2 : t0 = x3 → X E d fJ0_getBytes_840e7 8 [o0, o1, o2, some (J x3)] [] S (mI M) Q) : X E d fJ0_getBytes_840e7 4 [o0, o1, o2, some (J x3)] [J t0] S (mI M) Q := by
  refine X_iload_n 5 (by decide +kernel : decode cJ0_getBytes_840e7 4 = .ok (.iload_n 3, 1)) rfl rfl rfl ?_
  exact X_icmpne 28 8 (by decide +kernel : decode cJ0_getBytes_840e7 5 = .ok (.if_icmp .ne 23, 3)) rfl rfl (by decide) r1 r2 k1 k2
theorem kJ0_getBytes_840e7_8 {a0 : Nat} {a1 : Nat} {x2 : Int} {x3 : Int} {b2 : Nat} {M_17 : Nat → Nat → Int} (g1 : aKd S a0 = 0) (p3 : aP S a0 0 = some b2) (g7 : aKd S b2 = 100 ∨ aKd S b2 = 101 ∨ aKd S b2 = 102) (g8 : aKd S b2 = 101) (g9 : aK S a1 = 101) (h10 : (0 : Int) ≤ (Int32.ofInt x2 <<< (Int32.ofInt x3 &&& 31)).toInt) (h11 : (0 : Int) ≤ (aN S b2 : Int)) (r12 : R32 ((Int32.ofInt x2 <<< (Int32.ofInt x3 &&& 31)).toInt)) (r13 : R32 ((aN S b2 : Int))) (h14 : 0 + (aN S b2 : Int) ≤ (aN S b2 : Int)) (h15 : ((Int32.ofInt x2 <<< (Int32.ofInt x3 &&& 31)).toInt) + (aN S b2 : Int) ≤ (aN S a1 : Int)) (h16 : ∀ j, j < (aN S b2 : Int).toNat → -128 ≤ M b2 (0 + j) ∧ M b2 (0 + j) ≤ 127) (eM_17 : aCp M b2 a1 0 ((Int32.ofInt x2 <<< (Int32.ofInt x3 &&& 31)).toInt).toNat (aN S b2 : Int).toNat = M_17) (k : X E d fJ0_getBytes_840e7 43 [some (.ref a0), some (.ref a1), some (J x2), some (J x3)] [] S (mI M_17) Q) : X E d fJ0_getBytes_840e7 8 [some (.ref a0), some (.ref a1), some (J x2), some (J x3)] [] S (mI M) Q := by
  refine X_aload_n 9 (by decide +kernel : decode cJ0_getBytes_840e7 8 = .ok (.aload_n 0, 1)) rfl rfl rfl ?_
  refine X_getR 12 (by decide +kernel : decode cJ0_getBytes_840e7 9 = .ok (.getfield 9, 3)) rfl rfl (by decide +kernel : aFd 0 9 = some (0, 0, true, true)) g1 p3 ?_
  refine X_iconst 13 (by decide +kernel : decode cJ0_getBytes_840e7 12 = .ok (.iconst 0, 1)) rfl rfl ?_
  refine X_aload_n 14 (by decide +kernel : decode cJ0_getBytes_840e7 13 = .ok (.aload_n 1, 1)) rfl rfl rfl ?_
  refine X_iload_n 15 (by decide +kernel : decode cJ0_getBytes_840e7 14 = .ok (.iload_n 2, 1)) rfl rfl rfl ?_
  refine X_iload_n 16 (by decide +kernel : decode cJ0_getBytes_840e7 15 = .ok (.iload_n 3, 1)) rfl rfl rfl ?_
  refine X_ishl 17 (by decide +kernel : decode cJ0_getBytes_840e7 16 = .ok (.ishl, 1)) rfl rfl ?_
  refine X_aload_n 18 (by decide +kernel : decode cJ0_getBytes_840e7 17 = .ok (.aload_n 0, 1)) rfl rfl rfl ?_
  refine X_getR 21 (by decide +kernel : decode cJ0_getBytes_840e7 18 = .ok (.getfield 9, 3)) rfl rfl (by decide +kernel : aFd 0 9 = some (0, 0, true, true)) g1 p3 ?_
  refine X_alen 22 (by decide +kernel : decode cJ0_getBytes_840e7 21 = .ok (.arraylength, 1)) rfl rfl g7 ?_
  refine X_cpB 25 (by decide +kernel : decode cJ0_getBytes_840e7 22 = .ok (.invokestatic 212, 3)) rfl rfl rfl rfl g8 g9 ⟨(by decide), h10, h11⟩ ⟨⟨by decide, by decide⟩, r12, r13⟩ h14 h15 h16 (Nat.le_of_ble_eq_true rfl) ?_
  show X E d fJ0_getBytes_840e7 25 [some (.ref a0), some (.ref a1), some (J x2), some (J x3)] [] S (mI (aCp M b2 a1 0 ((Int32.ofInt x2 <<< (Int32.ofInt x3 &&& 31)).toInt).toNat (aN S b2 : Int).toNat)) Q
  rw [eM_17]
  exact X_goto 43 (by decide +kernel : decode cJ0_getBytes_840e7 25 = .ok (.goto 18, 3)) rfl (by decide) k
theorem kJ0_getBytes_840e7_28 {a0 : Nat} {a1 : Nat} {x2 : Int} {o3 : Option Value} {b2 : Nat} (g1 : aKd S a0 = 0) (p3 : aP S a0 0 = some b2) (g7 : aKd S b2 = 100 ∨ aKd S b2 = 101 ∨ aKd S b2 = 102) (hd1 : 1 ≤ d) (k : X E (d - 1) fJ1_inflate_0e8fd 0 [some (.ref b2), some (J 0), some (.ref a1), some (J x2), some (J (aN S b2 : Int))] [] S (mI M) (Kr E d fJ0_getBytes_840e7 43 [some (.ref a0), some (.ref a1), some (J x2), o3] [] Q)) : X E d fJ0_getBytes_840e7 28 [some (.ref a0), some (.ref a1), some (J x2), o3] [] S (mI M) Q := by
  refine X_aload_n 29 (by decide +kernel : decode cJ0_getBytes_840e7 28 = .ok (.aload_n 0, 1)) rfl rfl rfl ?_
  refine X_getR 32 (by decide +kernel : decode cJ0_getBytes_840e7 29 = .ok (.getfield 9, 3)) rfl rfl (by decide +kernel : aFd 0 9 = some (0, 0, true, true)) g1 p3 ?_
  refine X_iconst 33 (by decide +kernel : decode cJ0_getBytes_840e7 32 = .ok (.iconst 0, 1)) rfl rfl ?_
  refine X_aload_n 34 (by decide +kernel : decode cJ0_getBytes_840e7 33 = .ok (.aload_n 1, 1)) rfl rfl rfl ?_
  refine X_iload_n 35 (by decide +kernel : decode cJ0_getBytes_840e7 34 = .ok (.iload_n 2, 1)) rfl rfl rfl ?_
  refine X_aload_n 36 (by decide +kernel : decode cJ0_getBytes_840e7 35 = .ok (.aload_n 0, 1)) rfl rfl rfl ?_
  refine X_getR 39 (by decide +kernel : decode cJ0_getBytes_840e7 36 = .ok (.getfield 9, 3)) rfl rfl (by decide +kernel : aFd 0 9 = some (0, 0, true, true)) g1 p3 ?_
  refine X_alen 40 (by decide +kernel : decode cJ0_getBytes_840e7 39 = .ok (.arraylength, 1)) rfl rfl g7 ?_
  exact X_cs (as := [J (aN S b2 : Int), J x2, .ref a1, J 0, .ref b2]) (rest := []) (by decide +kernel : decode cJ0_getBytes_840e7 40 = .ok (.invokestatic 106, 3)) rfl rfl rfl rfl rfl rfl rfl (Nat.le_of_ble_eq_true rfl) hd1 k
theorem kJ0_getBytes_840e7_43 {o0 : Option Value} {o1 : Option Value} {o2 : Option Value} {o3 : Option Value} (q : Q (some none) S (mI M)) : X E d fJ0_getBytes_840e7 43 [o0, o1, o2, o3] [] S (mI M) Q := by
  exact X_vret (by decide +kernel : decode cJ0_getBytes_840e7 43 = .ok (.return_, 1)) rfl rfl q
theorem kJ4_append_bf812_0 {a0 : Nat} {x1 : Int} (hd1 : 1 ≤ d) (k : X E (d - 1) fJ5_append_c97b9 0 [some (.ref a0), some (J x1), none, none] [] S (mI M) (Kr E d fJ4_append_bf812 5 [some (.ref a0), some (J x1)] [] Q)) (g1 : aKd S a0 = 1) : X E d fJ4_append_bf812 0 [some (.ref a0), some (J x1)] [] S (mI M) Q := by
  refine X_aload_n 1 (by decide +kernel : decode cJ4_append_bf812 0 = .ok (.aload_n 0, 1)) rfl rfl rfl ?_
  refine X_iload_n 2 (by decide +kernel : decode cJ4_append_bf812 1 = .ok (.iload_n 1, 1)) rfl rfl rfl ?_
  exact X_cv (as := [J x1]) (rest := []) (by decide +kernel : decode cJ4_append_bf812 2 = .ok (.invokespecial 53, 3)) (Or.inr ⟨rfl, rfl, rfl⟩) rfl rfl rfl rfl rfl (Nat.le_of_ble_eq_true rfl) (Or.inr (Or.inr (by rw [g1]; rfl))) hd1 k
theorem kJ4_append_bf812_5 {a0 : Nat} {o1 : Option Value} {u0 : Nat} (q : Q (some (some (.ref a0))) S (mI M)) : X E d fJ4_append_bf812 5 [some (.ref a0), o1] [.ref u0] S (mI M) Q := by
  refine X_pop 6 (by decide +kernel : decode cJ4_append_bf812 5 = .ok (.pop, 1)) rfl rfl rfl ?_
  refine X_aload_n 7 (by decide +kernel : decode cJ4_append_bf812 6 = .ok (.aload_n 0, 1)) rfl rfl rfl ?_
  exact X_aret (by decide +kernel : decode cJ4_append_bf812 7 = .ok (.areturn, 1)) rfl rfl rfl q
theorem kJ5_append_c97b9_0 {a0 : Nat} {x1 : Int} {o2 : Option Value} {o3 : Option Value} (g1 : aKd S a0 = 1) (hd1 : 1 ≤ d) (k : X E (d - 1) fJ6_stringSize_0f7a4 0 [some (J x1), none, none, none] [] S (mI M) (Kr E d fJ5_append_c97b9 10 [some (.ref a0), some (J x1), some (J (M a0 3)), o3] [J (M a0 3)] Q)) : X E d fJ5_append_c97b9 0 [some (.ref a0), some (J x1), o2, o3] [] S (mI M) Q := by
  refine X_aload_n 1 (by decide +kernel : decode cJ5_append_c97b9 0 = .ok (.aload_n 0, 1)) rfl rfl rfl ?_
  refine X_getI 4 (by decide +kernel : decode cJ5_append_c97b9 1 = .ok (.getfield 79, 3)) rfl rfl (by decide +kernel : aFd 21 79 = some (1, 3, false, false)) g1 ?_
  refine X_istore_n 5 (by decide +kernel : decode cJ5_append_c97b9 4 = .ok (.istore_n 2, 1)) rfl rfl (Nat.le_of_ble_eq_true rfl) rfl ?_
  refine X_iload_n 6 (by decide +kernel : decode cJ5_append_c97b9 5 = .ok (.iload_n 2, 1)) rfl rfl rfl ?_
  refine X_iload_n 7 (by decide +kernel : decode cJ5_append_c97b9 6 = .ok (.iload_n 1, 1)) rfl rfl rfl ?_
  exact X_cs (as := [J x1]) (rest := [J (M a0 3)]) (by decide +kernel : decode cJ5_append_c97b9 7 = .ok (.invokestatic 245, 3)) rfl rfl rfl rfl rfl rfl rfl (Nat.le_of_ble_eq_true rfl) hd1 k
theorem kJ5_append_c97b9_10 {a0 : Nat} {o1 : Option Value} {o2 : Option Value} {o3 : Option Value} {t0 : Int} {t1 : Int} (hd1 : 1 ≤ d) (k : X E (d - 1) fJ5_ensureCapacityInternal_d00df 0 [some (.ref a0), some (J (t1 + t0)), none] [] S (mI M) (Kr E d fJ5_append_c97b9 17 [some (.ref a0), o1, o2, some (J (t1 + t0))] [] Q)) (g1 : aKd S a0 = 1) : X E d fJ5_append_c97b9 10 [some (.ref a0), o1, o2, o3] [J t0, J t1] S (mI M) Q := by
  refine X_iadd 11 (by decide +kernel : decode cJ5_append_c97b9 10 = .ok (.iadd, 1)) rfl rfl ?_
  refine X_istore_n 12 (by decide +kernel : decode cJ5_append_c97b9 11 = .ok (.istore_n 3, 1)) rfl rfl (Nat.le_of_ble_eq_true rfl) rfl ?_
  refine X_aload_n 13 (by decide +kernel : decode cJ5_append_c97b9 12 = .ok (.aload_n 0, 1)) rfl rfl rfl ?_
  refine X_iload_n 14 (by decide +kernel : decode cJ5_append_c97b9 13 = .ok (.iload_n 3, 1)) rfl rfl rfl ?_
  exact X_cv (as := [J (t1 + t0)]) (rest := []) (by decide +kernel : decode cJ5_append_c97b9 14 = .ok (.invokevirtual 100, 3)) (Or.inl ⟨rfl, rfl, rfl⟩) rfl rfl rfl rfl rfl (Nat.le_of_ble_eq_true rfl) (Or.inr (Or.inr (by rw [g1]; rfl))) hd1 k
theorem kJ5_append_c97b9_17 {a0 : Nat} {o1 : Option Value} {o2 : Option Value} {o3 : Option Value} (hd1 : 1 ≤ d) (k : X E (d - 1) fJ5_isLatin1_aae02 0 [some (.ref a0)] [] S (mI M) (Kr E d fJ5_append_c97b9 21 [some (.ref a0), o1, o2, o3] [] Q)) (g1 : aKd S a0 = 1) : X E d fJ5_append_c97b9 17 [some (.ref a0), o1, o2, o3] [] S (mI M) Q := by
  refine X_aload_n 18 (by decide +kernel : decode cJ5_append_c97b9 17 = .ok (.aload_n 0, 1)) rfl rfl rfl ?_
  exact X_cv (as := []) (rest := []) (by decide +kernel : decode cJ5_append_c97b9 18 = .ok (.invokevirtual 83, 3)) (Or.inl ⟨rfl, rfl, rfl⟩) rfl rfl rfl rfl rfl (Nat.le_of_ble_eq_true rfl) (Or.inr (Or.inr (by rw [g1]; rfl))) hd1 k
theorem kJ5_append_c97b9_21 {o0 : Option Value} {o1 : Option Value} {o2 : Option Value} {o3 : Option Value} {t0 : Int} (r1 : R32 t0) (k1 : t0 = 0 → X E d fJ5_append_c97b9 37 [o0, o1, o2, o3] [] S (mI M) Q) (k2 : t0 ≠ 0 → X E d fJ5_append_c97b9 24 [o0, o1, o2, o3] [] S (mI M) Q) : X E d fJ5_append_c97b9 21 [o0, o1, o2, o3] [J t0] S (mI M) Q := by
  exact X_ifeq 37 24 (by decide +kernel : decode cJ5_append_c97b9 21 = .ok (.ifCond .eq 16, 3)) rfl rfl (by decide) r1 k1 k2
theorem kJ5_append_c97b9_24 {a0 : Nat} {x1 : Int} {o2 : Option Value} {x3 : Int} {b2 : Nat} (g1 : aKd S a0 = 1) (p3 : aP S a0 0 = some b2) (hd1 : 1 ≤ d) (k : X E (d - 1) fJ6_getChars_ba4f3 0 [some (J x1), some (J x3), some (.ref b2), none, none, none, none] [] S (mI M) (Kr E d fJ5_append_c97b9 33 [some (.ref a0), some (J x1), o2, some (J x3)] [] Q)) : X E d fJ5_append_c97b9 24 [some (.ref a0), some (J x1), o2, some (J x3)] [] S (mI M) Q := by
  refine X_iload_n 25 (by decide +kernel : decode cJ5_append_c97b9 24 = .ok (.iload_n 1, 1)) rfl rfl rfl ?_
  refine X_iload_n 26 (by decide +kernel : decode cJ5_append_c97b9 25 = .ok (.iload_n 3, 1)) rfl rfl rfl ?_
  refine X_aload_n 27 (by decide +kernel : decode cJ5_append_c97b9 26 = .ok (.aload_n 0, 1)) rfl rfl rfl ?_
  refine X_getR 30 (by decide +kernel : decode cJ5_append_c97b9 27 = .ok (.getfield 15, 3)) rfl rfl (by decide +kernel : aFd 21 15 = some (1, 0, true, false)) g1 p3 ?_
  exact X_cs (as := [.ref b2, J x3, J x1]) (rest := []) (by decide +kernel : decode cJ5_append_c97b9 30 = .ok (.invokestatic 248, 3)) rfl rfl rfl rfl rfl rfl rfl (Nat.le_of_ble_eq_true rfl) hd1 k
theorem kJ5_append_c97b9_33 {o0 : Option Value} {o1 : Option Value} {o2 : Option Value} {o3 : Option Value} {t0 : Int} (k : X E d fJ5_append_c97b9 48 [o0, o1, o2, o3] [] S (mI M) Q) : X E d fJ5_append_c97b9 33 [o0, o1, o2, o3] [J t0] S (mI M) Q := by
  refine X_pop 34 (by decide +kernel : decode cJ5_append_c97b9 33 = .ok (.pop, 1)) rfl rfl rfl ?_
  exact X_goto 48 (by decide +kernel : decode cJ5_append_c97b9 34 = .ok (.goto 14, 3)) rfl (by decide) k
theorem kJ5_append_c97b9_37 {a0 : Nat} {x1 : Int} {x2 : Int} {x3 : Int} {b2 : Nat} (g1 : aKd S a0 = 1) (p3 : aP S a0 0 = some b2) (hd1 : 1 ≤ d) (k : X E (d - 1) fJ2_getChars_46870 0 [some (J x1), some (J x2), some (J x3), some (.ref b2), none] [] S (mI M) (Kr E d fJ5_append_c97b9 47 [some (.ref a0), some (J x1), some (J x2), some (J x3)] [] Q)) : X E d fJ5_append_c97b9 37 [some (.ref a0), some (J x1), some (J x2), some (J x3)] [] S (mI M) Q := by
  refine X_iload_n 38 (by decide +kernel : decode cJ5_append_c97b9 37 = .ok (.iload_n 1, 1)) rfl rfl rfl ?_
  refine X_iload_n 39 (by decide +kernel : decode cJ5_append_c97b9 38 = .ok (.iload_n 2, 1)) rfl rfl rfl ?_
  refine X_iload_n 40 (by decide +kernel : decode cJ5_append_c97b9 39 = .ok (.iload_n 3, 1)) rfl rfl rfl ?_
  refine X_aload_n 41 (by decide +kernel : decode cJ5_append_c97b9 40 = .ok (.aload_n 0, 1)) rfl rfl rfl ?_
  refine X_getR 44 (by decide +kernel : decode cJ5_append_c97b9 41 = .ok (.getfield 15, 3)) rfl rfl (by decide +kernel : aFd 21 15 = some (1, 0, true, false)) g1 p3 ?_
  exact X_cs (as := [.ref b2, J x3, J x2, J x1]) (rest := []) (by decide +kernel : decode cJ5_append_c97b9 44 = .ok (.invokestatic 251, 3)) rfl rfl rfl rfl rfl rfl rfl (Nat.le_of_ble_eq_true rfl) hd1 k
theorem kJ5_append_c97b9_47 {o0 : Option Value} {o1 : Option Value} {o2 : Option Value} {o3 : Option Value} {t0 : Int} (k : X E d fJ5_append_c97b9 48 [o0, o1, o2, o3] [] S (mI M) Q) : X E d fJ5_append_c97b9 47 [o0, o1, o2, o3] [J t0] S (mI M) Q := by
  refine X_pop 48 (by decide +kernel : decode cJ5_append_c97b9 47 = .ok (.pop, 1)) rfl rfl rfl ?_
  exact k
theorem kJ5_append_c97b9_48 {a0 : Nat} {o1 : Option Value} {o2 : Option Value} {x3 : Int} (g1 : aK S a0 = 1) (q : Q (some (some (.ref a0))) S (mI (mW M a0 3 x3))) : X E d fJ5_append_c97b9 48 [some (.ref a0), o1, o2, some (J x3)] [] S (mI M) Q := by
  refine X_aload_n 49 (by decide +kernel : decode cJ5_append_c97b9 48 = .ok (.aload_n 0, 1)) rfl rfl rfl ?_
  refine X_iload_n 50 (by decide +kernel : decode cJ5_append_c97b9 49 = .ok (.iload_n 3, 1)) rfl rfl rfl ?_
  refine X_putI 53 (by decide +kernel : decode cJ5_append_c97b9 50 = .ok (.putfield 79, 3)) rfl rfl (by decide +kernel : aFd 21 79 = some (1, 3, false, false)) (Or.inl rfl) g1 rfl rfl ?_
  refine X_aload_n 54 (by decide +kernel : decode cJ5_append_c97b9 53 = .ok (.aload_n 0, 1)) rfl rfl rfl ?_
  exact X_aret (by decide +kernel : decode cJ5_append_c97b9 54 = .ok (.areturn, 1)) rfl rfl rfl q
theorem kJ6_stringSize_0f7a4_0 {x0 : Int} {o1 : Option Value} {o2 : Option Value} {o3 : Option Value} (r1 : R32 x0) (k1 : x0 < 0 → X E d fJ6_stringSize_0f7a4 11 [some (J x0), some (J 1), o2, o3] [] S (mI M) Q) (k2 : 0 ≤ x0 → X E d fJ6_stringSize_0f7a4 6 [some (J x0), some (J 1), o2, o3] [] S (mI M) Q) : X E d fJ6_stringSize_0f7a4 0 [some (J x0), o1, o2, o3] [] S (mI M) Q := by
  refine X_iconst 1 (by decide +kernel : decode cJ6_stringSize_0f7a4 0 = .ok (.iconst 1, 1)) rfl rfl ?_
  refine X_istore_n 2 (by decide +kernel : decode cJ6_stringSize_0f7a4 1 = .ok (.istore_n 1, 1)) rfl rfl (Nat.le_of_ble_eq_true rfl) rfl ?_
  refine X_iload_n 3 (by decide +kernel : decode cJ6_stringSize_0f7a4 2 = .ok (.iload_n 0, 1)) rfl rfl rfl ?_
  exact X_iflt 11 6 (by decide +kernel : decode cJ6_stringSize_0f7a4 3 = .ok (.ifCond .lt 8, 3)) rfl rfl (by decide) r1 k1 k2
theorem kJ6_stringSize_0f7a4_6 {x0 : Int} {o1 : Option Value} {o2 : Option Value} {o3 : Option Value} (k : X E d fJ6_stringSize_0f7a4 11 [some (J (-x0)), some (J 0), o2, o3] [] S (mI M) Q) : X E d fJ6_stringSize_0f7a4 6 [some (J x0), o1, o2, o3] [] S (mI M) Q := by
  refine X_iconst 7 (by decide +kernel : decode cJ6_stringSize_0f7a4 6 = .ok (.iconst 0, 1)) rfl rfl ?_
  refine X_istore_n 8 (by decide +kernel : decode cJ6_stringSize_0f7a4 7 = .ok (.istore_n 1, 1)) rfl rfl (Nat.le_of_ble_eq_true rfl) rfl ?_
  refine X_iload_n 9 (by decide +kernel : decode cJ6_stringSize_0f7a4 8 = .ok (.iload_n 0, 1)) rfl rfl rfl ?_
  refine X_ineg 10 (by decide +kernel : decode cJ6_stringSize_0f7a4 9 = .ok (.ineg, 1)) rfl rfl ?_
  refine X_istore_n 11 (by decide +kernel : decode cJ6_stringSize_0f7a4 10 = .ok (.istore_n 0, 1)) rfl rfl (Nat.le_of_ble_eq_true rfl) rfl ?_
  exact k
theorem kJ6_stringSize_0f7a4_11 {o0 : Option Value} {o1 : Option Value} {o2 : Option Value} {o3 : Option Value} (k : X E d fJ6_stringSize_0f7a4 16 [o0, o1, some (J (-10)), some (J 1)] [] S (mI M) Q) : X E d fJ6_stringSize_0f7a4 11 [o0, o1, o2, o3] [] S (mI M) Q := by
  refine X_bipush 13 (-10) (by decide +kernel : decode cJ6_stringSize_0f7a4 11 = .ok (.bipush (-10), 2)) rfl rfl (by decide +kernel) ?_
  refine X_istore_n 14 (by decide +kernel : decode cJ6_stringSize_0f7a4 13 = .ok (.istore_n 2, 1)) rfl rfl (Nat.le_of_ble_eq_true rfl) rfl ?_
  refine X_iconst 15 (by decide +kernel : decode cJ6_stringSize_0f7a4 14 = .ok (.iconst 1, 1)) rfl rfl ?_
  refine X_istore_n 16 (by decide +kernel : decode cJ6_stringSize_0f7a4 15 = .ok (.istore_n 3, 1)) rfl rfl (Nat.le_of_ble_eq_true rfl) rfl ?_
  exact k
theorem kJ6_stringSize_0f7a4_16 {o0 : Option Value} {o1 : Option Value} {o2 : Option Value} {x3 : Int} (r1 : R32 x3) (k1 : 10 ≤ x3 → X E d fJ6_stringSize_0f7a4 42 [o0, o1, o2, some (J x3)] [] S (mI M) Q) (k2 : x3 < 10 → X E d fJ6_stringSize_0f7a4 22 [o0, o1, o2, some (J x3)] [] S (mI M) Q) : X E d fJ6_stringSize_0f7a4 16 [o0, o1, o2, some (J x3)] [] S (mI M) Q := by
  refine X_iload_n 17 (by decide +kernel : decode cJ6_stringSize_0f7a4 16 = .ok (.iload_n 3, 1)) rfl rfl rfl ?_
  refine X_bipush 19 (10) (by decide +kernel : decode cJ6_stringSize_0f7a4 17 = .ok (.bipush 10, 2)) rfl rfl (by decide +kernel) ?_
  exact X_icmpge 42 22 (by decide +kernel : decode cJ6_stringSize_0f7a4 19 = .ok (.if_icmp .ge 23, 3)) rfl rfl (by decide) r1 ⟨by decide, by decide⟩ k1 k2
theorem kJ6_stringSize_0f7a4_22 {x0 : Int} {o1 : Option Value} {x2 : Int} {o3 : Option Value} (r1 : R32 x0) (r2 : R32 x2) (k1 : x0 ≤ x2 → X E d fJ6_stringSize_0f7a4 31 [some (J x0), o1, some (J x2), o3] [] S (mI M) Q) (k2 : x2 < x0 → X E d fJ6_stringSize_0f7a4 27 [some (J x0), o1, some (J x2), o3] [] S (mI M) Q) : X E d fJ6_stringSize_0f7a4 22 [some (J x0), o1, some (J x2), o3] [] S (mI M) Q := by
  refine X_iload_n 23 (by decide +kernel : decode cJ6_stringSize_0f7a4 22 = .ok (.iload_n 0, 1)) rfl rfl rfl ?_
  refine X_iload_n 24 (by decide +kernel : decode cJ6_stringSize_0f7a4 23 = .ok (.iload_n 2, 1)) rfl rfl rfl ?_
  exact X_icmple 31 27 (by decide +kernel : decode cJ6_stringSize_0f7a4 24 = .ok (.if_icmp .le 7, 3)) rfl rfl (by decide) r1 r2 k1 k2
theorem kJ6_stringSize_0f7a4_27 {o0 : Option Value} {x1 : Int} {o2 : Option Value} {x3 : Int} (q : Q (some (some (J (x3 + x1)))) S (mI M)) : X E d fJ6_stringSize_0f7a4 27 [o0, some (J x1), o2, some (J x3)] [] S (mI M) Q := by
  refine X_iload_n 28 (by decide +kernel : decode cJ6_stringSize_0f7a4 27 = .ok (.iload_n 3, 1)) rfl rfl rfl ?_
  refine X_iload_n 29 (by decide +kernel : decode cJ6_stringSize_0f7a4 28 = .ok (.iload_n 1, 1)) rfl rfl rfl ?_
  refine X_iadd 30 (by decide +kernel : decode cJ6_stringSize_0f7a4 29 = .ok (.iadd, 1)) rfl rfl ?_
  exact X_iret (by decide +kernel : decode cJ6_stringSize_0f7a4 30 = .ok (.ireturn, 1)) rfl rfl rfl q
theorem kJ6_stringSize_0f7a4_31 {o0 : Option Value} {o1 : Option Value} {x2 : Int} {x3 : Int} (k : X E d fJ6_stringSize_0f7a4 16 [o0, o1, some (J (10 * x2)), some (J (x3 + 1))] [] S (mI M) Q) : X E d fJ6_stringSize_0f7a4 31 [o0, o1, some (J x2), some (J x3)] [] S (mI M) Q := by
  refine X_bipush 33 (10) (by decide +kernel : decode cJ6_stringSize_0f7a4 31 = .ok (.bipush 10, 2)) rfl rfl (by decide +kernel) ?_
  refine X_iload_n 34 (by decide +kernel : decode cJ6_stringSize_0f7a4 33 = .ok (.iload_n 2, 1)) rfl rfl rfl ?_
  refine X_imul 35 (by decide +kernel : decode cJ6_stringSize_0f7a4 34 = .ok (.imul, 1)) rfl rfl ?_
  refine X_istore_n 36 (by decide +kernel : decode cJ6_stringSize_0f7a4 35 = .ok (.istore_n 2, 1)) rfl rfl (Nat.le_of_ble_eq_true rfl) rfl ?_
  refine X_iinc 39 (by decide +kernel : decode cJ6_stringSize_0f7a4 36 = .ok (.iinc 3 1, 3)) rfl rfl rfl rfl ?_
  exact X_goto 16 (by decide +kernel : decode cJ6_stringSize_0f7a4 39 = .ok (.goto (-23), 3)) rfl (by decide) k
theorem kJ6_stringSize_0f7a4_42 {o0 : Option Value} {x1 : Int} {o2 : Option Value} {o3 : Option Value} (q : Q (some (some (J (10 + x1)))) S (mI M)) : X E d fJ6_stringSize_0f7a4 42 [o0, some (J x1), o2, o3] [] S (mI M) Q := by
  refine X_bipush 44 (10) (by decide +kernel : decode cJ6_stringSize_0f7a4 42 = .ok (.bipush 10, 2)) rfl rfl (by decide +kernel) ?_
  refine X_iload_n 45 (by decide +kernel : decode cJ6_stringSize_0f7a4 44 = .ok (.iload_n 1, 1)) rfl rfl rfl ?_
  refine X_iadd 46 (by decide +kernel : decode cJ6_stringSize_0f7a4 45 = .ok (.iadd, 1)) rfl rfl ?_
  exact X_iret (by decide +kernel : decode cJ6_stringSize_0f7a4 46 = .ok (.ireturn, 1)) rfl rfl rfl q
theorem kJ6_getChars_ba4f3_0 {x0 : Int} {x1 : Int} {o2 : Option Value} {o3 : Option Value} {o4 : Option Value} {o5 : Option Value} {o6 : Option Value} (r1 : R32 x0) (k1 : 0 ≤ x0 → X E d fJ6_getChars_ba4f3 11 [some (J x0), some (J x1), o2, o3, o4, some (J x1), o6] [] S (mI M) Q) (k2 : x0 < 0 → X E d fJ6_getChars_ba4f3 7 [some (J x0), some (J x1), o2, o3, o4, some (J x1), o6] [] S (mI M) Q) : X E d fJ6_getChars_ba4f3 0 [some (J x0), some (J x1), o2, o3, o4, o5, o6] [] S (mI M) Q := by
  refine X_iload_n 1 (by decide +kernel : decode cJ6_getChars_ba4f3 0 = .ok (.iload_n 1, 1)) rfl rfl rfl ?_
  refine X_istore 3 (by decide +kernel : decode cJ6_getChars_ba4f3 1 = .ok (.istore 5, 2)) rfl rfl (Nat.le_of_ble_eq_true rfl) rfl ?_
  refine X_iload_n 4 (by decide +kernel : decode cJ6_getChars_ba4f3 3 = .ok (.iload_n 0, 1)) rfl rfl rfl ?_
  exact X_ifge 11 7 (by decide +kernel : decode cJ6_getChars_ba4f3 4 = .ok (.ifCond .ge 7, 3)) rfl rfl (by decide) r1 k1 k2
theorem kJ6_getChars_ba4f3_7 {o0 : Option Value} {o1 : Option Value} {o2 : Option Value} {o3 : Option Value} {o4 : Option Value} {o5 : Option Value} {o6 : Option Value} (k : X E d fJ6_getChars_ba4f3 12 [o0, o1, o2, o3, o4, o5, o6] [J 1] S (mI M) Q) : X E d fJ6_getChars_ba4f3 7 [o0, o1, o2, o3, o4, o5, o6] [] S (mI M) Q := by
  refine X_iconst 8 (by decide +kernel : decode cJ6_getChars_ba4f3 7 = .ok (.iconst 1, 1)) rfl rfl ?_
  exact X_goto 12 (by decide +kernel : decode cJ6_getChars_ba4f3 8 = .ok (.goto 4, 3)) rfl (by decide) k
theorem kJ6_getChars_ba4f3_11 {o0 : Option Value} {o1 : Option Value} {o2 : Option Value} {o3 : Option Value} {o4 : Option Value} {o5 : Option Value} {o6 : Option Value} (k : X E d fJ6_getChars_ba4f3 12 [o0, o1, o2, o3, o4, o5, o6] [J 0] S (mI M) Q) : X E d fJ6_getChars_ba4f3 11 [o0, o1, o2, o3, o4, o5, o6] [] S (mI M) Q := by
  refine X_iconst 12 (by decide +kernel : decode cJ6_getChars_ba4f3 11 = .ok (.iconst 0, 1)) rfl rfl ?_
  exact k
theorem kJ6_getChars_ba4f3_12 {o0 : Option Value} {o1 : Option Value} {o2 : Option Value} {o3 : Option Value} {o4 : Option Value} {o5 : Option Value} {o6 : Option Value} {t0 : Int} (r1 : R32 t0) (k1 : t0 ≠ 0 → X E d fJ6_getChars_ba4f3 22 [o0, o1, o2, o3, o4, o5, some (J t0)] [] S (mI M) Q) (k2 : t0 = 0 → X E d fJ6_getChars_ba4f3 19 [o0, o1, o2, o3, o4, o5, some (J t0)] [] S (mI M) Q) : X E d fJ6_getChars_ba4f3 12 [o0, o1, o2, o3, o4, o5, o6] [J t0] S (mI M) Q := by
  refine X_istore 14 (by decide +kernel : decode cJ6_getChars_ba4f3 12 = .ok (.istore 6, 2)) rfl rfl (Nat.le_of_ble_eq_true rfl) rfl ?_
  refine X_iload 16 (by decide +kernel : decode cJ6_getChars_ba4f3 14 = .ok (.iload 6, 2)) rfl rfl rfl ?_
  exact X_ifne 22 19 (by decide +kernel : decode cJ6_getChars_ba4f3 16 = .ok (.ifCond .ne 6, 3)) rfl rfl (by decide) r1 k1 k2
theorem kJ6_getChars_ba4f3_19 {x0 : Int} {o1 : Option Value} {o2 : Option Value} {o3 : Option Value} {o4 : Option Value} {o5 : Option Value} {o6 : Option Value} (k : X E d fJ6_getChars_ba4f3 22 [some (J (-x0)), o1, o2, o3, o4, o5, o6] [] S (mI M) Q) : X E d fJ6_getChars_ba4f3 19 [some (J x0), o1, o2, o3, o4, o5, o6] [] S (mI M) Q := by
  refine X_iload_n 20 (by decide +kernel : decode cJ6_getChars_ba4f3 19 = .ok (.iload_n 0, 1)) rfl rfl rfl ?_
  refine X_ineg 21 (by decide +kernel : decode cJ6_getChars_ba4f3 20 = .ok (.ineg, 1)) rfl rfl ?_
  refine X_istore_n 22 (by decide +kernel : decode cJ6_getChars_ba4f3 21 = .ok (.istore_n 0, 1)) rfl rfl (Nat.le_of_ble_eq_true rfl) rfl ?_
  exact k
theorem kJ6_getChars_ba4f3_22 {x0 : Int} {o1 : Option Value} {o2 : Option Value} {o3 : Option Value} {o4 : Option Value} {o5 : Option Value} {o6 : Option Value} (r1 : R32 x0) (k1 : (-100) < x0 → X E d fJ6_getChars_ba4f3 72 [some (J x0), o1, o2, o3, o4, o5, o6] [] S (mI M) Q) (k2 : x0 ≤ (-100) → X E d fJ6_getChars_ba4f3 28 [some (J x0), o1, o2, o3, o4, o5, o6] [] S (mI M) Q) : X E d fJ6_getChars_ba4f3 22 [some (J x0), o1, o2, o3, o4, o5, o6] [] S (mI M) Q := by
  refine X_iload_n 23 (by decide +kernel : decode cJ6_getChars_ba4f3 22 = .ok (.iload_n 0, 1)) rfl rfl rfl ?_
  refine X_bipush 25 (-100) (by decide +kernel : decode cJ6_getChars_ba4f3 23 = .ok (.bipush (-100), 2)) rfl rfl (by decide +kernel) ?_
  exact X_icmpgt 72 28 (by decide +kernel : decode cJ6_getChars_ba4f3 25 = .ok (.if_icmp .gt 47, 3)) rfl rfl (by decide) r1 ⟨by decide, by decide⟩ k1 k2
theorem kJ6_getChars_ba4f3_28 {x0 : Int} {o1 : Option Value} {a2 : Nat} {o3 : Option Value} {o4 : Option Value} {x5 : Int} {o6 : Option Value} {b2 : Nat} {b11 : Nat} {M_20 : Nat → Nat → Int} (r1 : R32 x0) (e3 : E 14 = .ref b2) (g4 : aKd S b2 = 101) (r5 : R32 (((x0.tdiv 100) * 100) - x0)) (h6 : (0 : Int) ≤ ((x0.tdiv 100) * 100) - x0 ∧ (((x0.tdiv 100) * 100) - x0) < (aN S b2 : Int)) (g7 : aK S a2 = 101) (r8 : R32 (x5 + (-1))) (h9 : (0 : Int) ≤ x5 + (-1) ∧ (x5 + (-1)) < (aN S a2 : Int)) (h10 : (-128 : Int) ≤ M b2 (((x0.tdiv 100) * 100) - x0).toNat ∧ (M b2 (((x0.tdiv 100) * 100) - x0).toNat) ≤ (127 : Int)) (e12 : E 15 = .ref b11) (g13 : aKd S b11 = 101) (h15 : (0 : Int) ≤ ((x0.tdiv 100) * 100) - x0 ∧ (((x0.tdiv 100) * 100) - x0) < (aN S b11 : Int)) (r17 : R32 ((x5 + (-1)) + (-1))) (h18 : (0 : Int) ≤ (x5 + (-1)) + (-1) ∧ ((x5 + (-1)) + (-1)) < (aN S a2 : Int)) (h19 : (-128 : Int) ≤ (mW M a2 (x5 + (-1)).toNat (M b2 (((x0.tdiv 100) * 100) - x0).toNat)) b11 (((x0.tdiv 100) * 100) - x0).toNat ∧ ((mW M a2 (x5 + (-1)).toNat (M b2 (((x0.tdiv 100) * 100) - x0).toNat)) b11 (((x0.tdiv 100) * 100) - x0).toNat) ≤ (127 : Int)) (eM_20 : mW (mW M a2 (x5 + (-1)).toNat (M b2 (((x0.tdiv 100) * 100) - x0).toNat)) a2 ((x5 + (-1)) + (-1)).toNat ((mW M a2 (x5 + (-1)).toNat (M b2 (((x0.tdiv 100) * 100) - x0).toNat)) b11 (((x0.tdiv 100) * 100) - x0).toNat) = M_20) (k : X E d fJ6_getChars_ba4f3 22 [some (J (x0.tdiv 100)), o1, some (.ref a2), some (J (x0.tdiv 100)), some (J (((x0.tdiv 100) * 100) - x0)), some (J ((x5 + (-1)) + (-1))), o6] [] S (mI M_20) Q) : X E d fJ6_getChars_ba4f3 28 [some (J x0), o1, some (.ref a2), o3, o4, some (J x5), o6] [] S (mI M) Q := by
  refine X_iload_n 29 (by decide +kernel : decode cJ6_getChars_ba4f3 28 = .ok (.iload_n 0, 1)) rfl rfl rfl ?_
  refine X_bipush 31 (100) (by decide +kernel : decode cJ6_getChars_ba4f3 29 = .ok (.bipush 100, 2)) rfl rfl (by decide +kernel) ?_
  refine X_idivW 32 (by decide +kernel : decode cJ6_getChars_ba4f3 31 = .ok (.idiv, 1)) rfl rfl r1 ⟨by decide, by decide⟩ (by decide) ?_
  refine X_istore_n 33 (by decide +kernel : decode cJ6_getChars_ba4f3 32 = .ok (.istore_n 3, 1)) rfl rfl (Nat.le_of_ble_eq_true rfl) rfl ?_
  refine X_iload_n 34 (by decide +kernel : decode cJ6_getChars_ba4f3 33 = .ok (.iload_n 3, 1)) rfl rfl rfl ?_
  refine X_bipush 36 (100) (by decide +kernel : decode cJ6_getChars_ba4f3 34 = .ok (.bipush 100, 2)) rfl rfl (by decide +kernel) ?_
  refine X_imul 37 (by decide +kernel : decode cJ6_getChars_ba4f3 36 = .ok (.imul, 1)) rfl rfl ?_
  refine X_iload_n 38 (by decide +kernel : decode cJ6_getChars_ba4f3 37 = .ok (.iload_n 0, 1)) rfl rfl rfl ?_
  refine X_isub 39 (by decide +kernel : decode cJ6_getChars_ba4f3 38 = .ok (.isub, 1)) rfl rfl ?_
  refine X_istore 41 (by decide +kernel : decode cJ6_getChars_ba4f3 39 = .ok (.istore 4, 2)) rfl rfl (Nat.le_of_ble_eq_true rfl) rfl ?_
  refine X_iload_n 42 (by decide +kernel : decode cJ6_getChars_ba4f3 41 = .ok (.iload_n 3, 1)) rfl rfl rfl ?_
  refine X_istore_n 43 (by decide +kernel : decode cJ6_getChars_ba4f3 42 = .ok (.istore_n 0, 1)) rfl rfl (Nat.le_of_ble_eq_true rfl) rfl ?_
  refine X_aload_n 44 (by decide +kernel : decode cJ6_getChars_ba4f3 43 = .ok (.aload_n 2, 1)) rfl rfl rfl ?_
  refine X_iinc 47 (by decide +kernel : decode cJ6_getChars_ba4f3 44 = .ok (.iinc 5 (-1), 3)) rfl rfl rfl rfl ?_
  refine X_iload 49 (by decide +kernel : decode cJ6_getChars_ba4f3 47 = .ok (.iload 5, 2)) rfl rfl rfl ?_
  refine X_getst 52 (by decide +kernel : decode cJ6_getChars_ba4f3 49 = .ok (.getstatic 83, 3)) rfl rfl rfl e3 ?_
  refine X_iload 54 (by decide +kernel : decode cJ6_getChars_ba4f3 52 = .ok (.iload 4, 2)) rfl rfl rfl ?_
  refine X_bald 55 (by decide +kernel : decode cJ6_getChars_ba4f3 54 = .ok (.baload, 1)) rfl rfl g4 r5 h6 ?_
  refine X_bast 56 (by decide +kernel : decode cJ6_getChars_ba4f3 55 = .ok (.bastore, 1)) rfl rfl g7 r8 h9 h10 ?_
  refine X_aload_n 57 (by decide +kernel : decode cJ6_getChars_ba4f3 56 = .ok (.aload_n 2, 1)) rfl rfl rfl ?_
  refine X_iinc 60 (by decide +kernel : decode cJ6_getChars_ba4f3 57 = .ok (.iinc 5 (-1), 3)) rfl rfl rfl rfl ?_
  refine X_iload 62 (by decide +kernel : decode cJ6_getChars_ba4f3 60 = .ok (.iload 5, 2)) rfl rfl rfl ?_
  refine X_getst 65 (by decide +kernel : decode cJ6_getChars_ba4f3 62 = .ok (.getstatic 87, 3)) rfl rfl rfl e12 ?_
  refine X_iload 67 (by decide +kernel : decode cJ6_getChars_ba4f3 65 = .ok (.iload 4, 2)) rfl rfl rfl ?_
  refine X_bald 68 (by decide +kernel : decode cJ6_getChars_ba4f3 67 = .ok (.baload, 1)) rfl rfl g13 r5 h15 ?_
  refine X_bast 69 (by decide +kernel : decode cJ6_getChars_ba4f3 68 = .ok (.bastore, 1)) rfl rfl g7 r17 h18 h19 ?_
  show X E d fJ6_getChars_ba4f3 69 [some (J (x0.tdiv 100)), o1, some (.ref a2), some (J (x0.tdiv 100)), some (J (((x0.tdiv 100) * 100) - x0)), some (J ((x5 + (-1)) + (-1))), o6] [] S (mI (mW (mW M a2 (x5 + (-1)).toNat (M b2 (((x0.tdiv 100) * 100) - x0).toNat)) a2 ((x5 + (-1)) + (-1)).toNat ((mW M a2 (x5 + (-1)).toNat (M b2 (((x0.tdiv 100) * 100) - x0).toNat)) b11 (((x0.tdiv 100) * 100) - x0).toNat))) Q
  rw [eM_20]
  exact X_goto 22 (by decide +kernel : decode cJ6_getChars_ba4f3 69 = .ok (.goto (-47), 3)) rfl (by decide) k
theorem kJ6_getChars_ba4f3_72 {x0 : Int} {o1 : Option Value} {a2 : Nat} {o3 : Option Value} {o4 : Option Value} {x5 : Int} {o6 : Option Value} {b1 : Nat} (e2 : E 14 = .ref b1) (g3 : aKd S b1 = 101) (r4 : R32 (-x0)) (h5 : (0 : Int) ≤ -x0 ∧ (-x0) < (aN S b1 : Int)) (g6 : aK S a2 = 101) (r7 : R32 (x5 + (-1))) (h8 : (0 : Int) ≤ x5 + (-1) ∧ (x5 + (-1)) < (aN S a2 : Int)) (h9 : (-128 : Int) ≤ M b1 (-x0).toNat ∧ (M b1 (-x0).toNat) ≤ (127 : Int)) (r10 : R32 x0) (k1 : (-9) ≤ x0 → X E d fJ6_getChars_ba4f3 104 [some (J x0), o1, some (.ref a2), o3, o4, some (J (x5 + (-1))), o6] [] S (mI (mW M a2 (x5 + (-1)).toNat (M b1 (-x0).toNat))) Q) (k2 : x0 < (-9) → X E d fJ6_getChars_ba4f3 91 [some (J x0), o1, some (.ref a2), o3, o4, some (J (x5 + (-1))), o6] [] S (mI (mW M a2 (x5 + (-1)).toNat (M b1 (-x0).toNat))) Q) : X E d fJ6_getChars_ba4f3 72 [some (J x0), o1, some (.ref a2), o3, o4, some (J x5), o6] [] S (mI M) Q := by
  refine X_aload_n 73 (by decide +kernel : decode cJ6_getChars_ba4f3 72 = .ok (.aload_n 2, 1)) rfl rfl rfl ?_
  refine X_iinc 76 (by decide +kernel : decode cJ6_getChars_ba4f3 73 = .ok (.iinc 5 (-1), 3)) rfl rfl rfl rfl ?_
  refine X_iload 78 (by decide +kernel : decode cJ6_getChars_ba4f3 76 = .ok (.iload 5, 2)) rfl rfl rfl ?_
  refine X_getst 81 (by decide +kernel : decode cJ6_getChars_ba4f3 78 = .ok (.getstatic 83, 3)) rfl rfl rfl e2 ?_
  refine X_iload_n 82 (by decide +kernel : decode cJ6_getChars_ba4f3 81 = .ok (.iload_n 0, 1)) rfl rfl rfl ?_
  refine X_ineg 83 (by decide +kernel : decode cJ6_getChars_ba4f3 82 = .ok (.ineg, 1)) rfl rfl ?_
  refine X_bald 84 (by decide +kernel : decode cJ6_getChars_ba4f3 83 = .ok (.baload, 1)) rfl rfl g3 r4 h5 ?_
  refine X_bast 85 (by decide +kernel : decode cJ6_getChars_ba4f3 84 = .ok (.bastore, 1)) rfl rfl g6 r7 h8 h9 ?_
  refine X_iload_n 86 (by decide +kernel : decode cJ6_getChars_ba4f3 85 = .ok (.iload_n 0, 1)) rfl rfl rfl ?_
  refine X_bipush 88 (-9) (by decide +kernel : decode cJ6_getChars_ba4f3 86 = .ok (.bipush (-9), 2)) rfl rfl (by decide +kernel) ?_
  exact X_icmpge 104 91 (by decide +kernel : decode cJ6_getChars_ba4f3 88 = .ok (.if_icmp .ge 16, 3)) rfl rfl (by decide) r10 ⟨by decide, by decide⟩ k1 k2
theorem kJ6_getChars_ba4f3_91 {x0 : Int} {o1 : Option Value} {a2 : Nat} {o3 : Option Value} {o4 : Option Value} {x5 : Int} {o6 : Option Value} {b1 : Nat} (e2 : E 15 = .ref b1) (g3 : aKd S b1 = 101) (r4 : R32 (-x0)) (h5 : (0 : Int) ≤ -x0 ∧ (-x0) < (aN S b1 : Int)) (g6 : aK S a2 = 101) (r7 : R32 (x5 + (-1))) (h8 : (0 : Int) ≤ x5 + (-1) ∧ (x5 + (-1)) < (aN S a2 : Int)) (h9 : (-128 : Int) ≤ M b1 (-x0).toNat ∧ (M b1 (-x0).toNat) ≤ (127 : Int)) (k : X E d fJ6_getChars_ba4f3 104 [some (J x0), o1, some (.ref a2), o3, o4, some (J (x5 + (-1))), o6] [] S (mI (mW M a2 (x5 + (-1)).toNat (M b1 (-x0).toNat))) Q) : X E d fJ6_getChars_ba4f3 91 [some (J x0), o1, some (.ref a2), o3, o4, some (J x5), o6] [] S (mI M) Q := by
  refine X_aload_n 92 (by decide +kernel : decode cJ6_getChars_ba4f3 91 = .ok (.aload_n 2, 1)) rfl rfl rfl ?_
  refine X_iinc 95 (by decide +kernel : decode cJ6_getChars_ba4f3 92 = .ok (.iinc 5 (-1), 3)) rfl rfl rfl rfl ?_
  refine X_iload 97 (by decide +kernel : decode cJ6_getChars_ba4f3 95 = .ok (.iload 5, 2)) rfl rfl rfl ?_
  refine X_getst 100 (by decide +kernel : decode cJ6_getChars_ba4f3 97 = .ok (.getstatic 87, 3)) rfl rfl rfl e2 ?_
  refine X_iload_n 101 (by decide +kernel : decode cJ6_getChars_ba4f3 100 = .ok (.iload_n 0, 1)) rfl rfl rfl ?_
  refine X_ineg 102 (by decide +kernel : decode cJ6_getChars_ba4f3 101 = .ok (.ineg, 1)) rfl rfl ?_
  refine X_bald 103 (by decide +kernel : decode cJ6_getChars_ba4f3 102 = .ok (.baload, 1)) rfl rfl g3 r4 h5 ?_
  refine X_bast 104 (by decide +kernel : decode cJ6_getChars_ba4f3 103 = .ok (.bastore, 1)) rfl rfl g6 r7 h8 h9 ?_
  exact k
theorem kJ6_getChars_ba4f3_104 {o0 : Option Value} {o1 : Option Value} {o2 : Option Value} {o3 : Option Value} {o4 : Option Value} {o5 : Option Value} {x6 : Int} (r1 : R32 x6) (k1 : x6 = 0 → X E d fJ6_getChars_ba4f3 118 [o0, o1, o2, o3, o4, o5, some (J x6)] [] S (mI M) Q) (k2 : x6 ≠ 0 → X E d fJ6_getChars_ba4f3 109 [o0, o1, o2, o3, o4, o5, some (J x6)] [] S (mI M) Q) : X E d fJ6_getChars_ba4f3 104 [o0, o1, o2, o3, o4, o5, some (J x6)] [] S (mI M) Q := by
  refine X_iload 106 (by decide +kernel : decode cJ6_getChars_ba4f3 104 = .ok (.iload 6, 2)) rfl rfl rfl ?_
  exact X_ifeq 118 109 (by decide +kernel : decode cJ6_getChars_ba4f3 106 = .ok (.ifCond .eq 12, 3)) rfl rfl (by decide) r1 k1 k2
theorem kJ6_getChars_ba4f3_109 {o0 : Option Value} {o1 : Option Value} {a2 : Nat} {o3 : Option Value} {o4 : Option Value} {x5 : Int} {o6 : Option Value} (g1 : aK S a2 = 101) (r2 : R32 (x5 + (-1))) (h3 : (0 : Int) ≤ x5 + (-1) ∧ (x5 + (-1)) < (aN S a2 : Int)) (h4 : (-128 : Int) ≤ 45 ∧ 45 ≤ (127 : Int)) (k : X E d fJ6_getChars_ba4f3 118 [o0, o1, some (.ref a2), o3, o4, some (J (x5 + (-1))), o6] [] S (mI (mW M a2 (x5 + (-1)).toNat 45)) Q) : X E d fJ6_getChars_ba4f3 109 [o0, o1, some (.ref a2), o3, o4, some (J x5), o6] [] S (mI M) Q := by
  refine X_aload_n 110 (by decide +kernel : decode cJ6_getChars_ba4f3 109 = .ok (.aload_n 2, 1)) rfl rfl rfl ?_
  refine X_iinc 113 (by decide +kernel : decode cJ6_getChars_ba4f3 110 = .ok (.iinc 5 (-1), 3)) rfl rfl rfl rfl ?_
  refine X_iload 115 (by decide +kernel : decode cJ6_getChars_ba4f3 113 = .ok (.iload 5, 2)) rfl rfl rfl ?_
  refine X_bipush 117 (45) (by decide +kernel : decode cJ6_getChars_ba4f3 115 = .ok (.bipush 45, 2)) rfl rfl (by decide +kernel) ?_
  refine X_bast 118 (by decide +kernel : decode cJ6_getChars_ba4f3 117 = .ok (.bastore, 1)) rfl rfl g1 r2 h3 h4 ?_
  exact k
theorem kJ6_getChars_ba4f3_118 {o0 : Option Value} {o1 : Option Value} {o2 : Option Value} {o3 : Option Value} {o4 : Option Value} {x5 : Int} {o6 : Option Value} (q : Q (some (some (J x5))) S (mI M)) : X E d fJ6_getChars_ba4f3 118 [o0, o1, o2, o3, o4, some (J x5), o6] [] S (mI M) Q := by
  refine X_iload 120 (by decide +kernel : decode cJ6_getChars_ba4f3 118 = .ok (.iload 5, 2)) rfl rfl rfl ?_
  exact X_iret (by decide +kernel : decode cJ6_getChars_ba4f3 120 = .ok (.ireturn, 1)) rfl rfl rfl q
theorem kJ4_init_da8c8_0 {a0 : Nat} (hd1 : 1 ≤ d) (k : X E (d - 1) fJ5_init_d00df 0 [some (.ref a0), some (J 16)] [] S (mI M) (Kr E d fJ4_init_da8c8 6 [some (.ref a0)] [] Q)) : X E d fJ4_init_da8c8 0 [some (.ref a0)] [] S (mI M) Q := by
  refine X_aload_n 1 (by decide +kernel : decode cJ4_init_da8c8 0 = .ok (.aload_n 0, 1)) rfl rfl rfl ?_
  refine X_bipush 3 (16) (by decide +kernel : decode cJ4_init_da8c8 1 = .ok (.bipush 16, 2)) rfl rfl (by decide +kernel) ?_
  exact X_cv (as := [J 16]) (rest := []) (by decide +kernel : decode cJ4_init_da8c8 3 = .ok (.invokespecial 1, 3)) (Or.inr ⟨rfl, rfl, rfl⟩) rfl rfl rfl rfl rfl (Nat.le_of_ble_eq_true rfl) (Or.inl rfl) hd1 k
theorem kJ4_init_da8c8_6 {o0 : Option Value} (q : Q (some none) S (mI M)) : X E d fJ4_init_da8c8 6 [o0] [] S (mI M) Q := by
  exact X_vret (by decide +kernel : decode cJ4_init_da8c8 6 = .ok (.return_, 1)) rfl rfl q
theorem kJ5_init_d00df_0 {a0 : Nat} {o1 : Option Value} {y1 : Int} (e2 : E 2 = J y1) (r3 : R32 y1) (k1 : y1 = 0 → X E d fJ5_init_d00df 25 [some (.ref a0), o1] [] S (mI M) Q) (k2 : y1 ≠ 0 → X E d fJ5_init_d00df 10 [some (.ref a0), o1] [] S (mI M) Q) : X E d fJ5_init_d00df 0 [some (.ref a0), o1] [] S (mI M) Q := by
  refine X_aload_n 1 (by decide +kernel : decode cJ5_init_d00df 0 = .ok (.aload_n 0, 1)) rfl rfl rfl ?_
  refine X_obj 4 (by decide +kernel : decode cJ5_init_d00df 1 = .ok (.invokespecial 3, 3)) rfl rfl rfl (Nat.le_of_ble_eq_true rfl) ?_
  refine X_getst 7 (by decide +kernel : decode cJ5_init_d00df 4 = .ok (.getstatic 18, 3)) rfl rfl rfl e2 ?_
  exact X_ifeq 25 10 (by decide +kernel : decode cJ5_init_d00df 7 = .ok (.ifCond .eq 18, 3)) rfl rfl (by decide) r3 k1 k2
theorem kJ5_init_d00df_10 {a0 : Nat} {x1 : Int} (h1 : (0 : Int) ≤ x1 ∧ x1 ≤ 1000000) (g2 : aK (aNew S 101 x1.toNat x1.toNat) a0 = 1) (k : X E d fJ5_init_d00df 38 [some (.ref a0), some (J x1)] [] (aPut (aNew S 101 x1.toNat x1.toNat) a0 0 (some (aX S))) (mI (mW (aU M (aX S) (fun _ => 0)) a0 1 0)) Q) : X E d fJ5_init_d00df 10 [some (.ref a0), some (J x1)] [] S (mI M) Q := by
  refine X_aload_n 11 (by decide +kernel : decode cJ5_init_d00df 10 = .ok (.aload_n 0, 1)) rfl rfl rfl ?_
  refine X_iload_n 12 (by decide +kernel : decode cJ5_init_d00df 11 = .ok (.iload_n 1, 1)) rfl rfl rfl ?_
  refine X_newB 14 (by decide +kernel : decode cJ5_init_d00df 12 = .ok (.newarray .byte, 2)) rfl rfl h1 ?_
  refine X_putR 17 (by decide +kernel : decode cJ5_init_d00df 14 = .ok (.putfield 15, 3)) rfl rfl (by decide +kernel : aFd 21 15 = some (1, 0, true, false)) (Or.inl rfl) g2 rfl ?_
  refine X_aload_n 18 (by decide +kernel : decode cJ5_init_d00df 17 = .ok (.aload_n 0, 1)) rfl rfl rfl ?_
  refine X_iconst 19 (by decide +kernel : decode cJ5_init_d00df 18 = .ok (.iconst 0, 1)) rfl rfl ?_
  refine X_putI 22 (by decide +kernel : decode cJ5_init_d00df 19 = .ok (.putfield 22, 3)) rfl rfl (by decide +kernel : aFd 21 22 = some (1, 1, false, false)) (Or.inl rfl) g2 (by decide) (by decide) ?_
  exact X_goto 38 (by decide +kernel : decode cJ5_init_d00df 22 = .ok (.goto 16, 3)) rfl (by decide) k
theorem kJ5_init_d00df_25 {a0 : Nat} {x1 : Int} (hd1 : 1 ≤ d) (k : X E (d - 1) fJ2_newBytesFor_77867 0 [some (J x1)] [] S (mI M) (Kr E d fJ5_init_d00df 30 [some (.ref a0), some (J x1)] [.ref a0] Q)) : X E d fJ5_init_d00df 25 [some (.ref a0), some (J x1)] [] S (mI M) Q := by
  refine X_aload_n 26 (by decide +kernel : decode cJ5_init_d00df 25 = .ok (.aload_n 0, 1)) rfl rfl rfl ?_
  refine X_iload_n 27 (by decide +kernel : decode cJ5_init_d00df 26 = .ok (.iload_n 1, 1)) rfl rfl rfl ?_
  exact X_cs (as := [J x1]) (rest := [.ref a0]) (by decide +kernel : decode cJ5_init_d00df 27 = .ok (.invokestatic 26, 3)) rfl rfl rfl rfl rfl rfl rfl (Nat.le_of_ble_eq_true rfl) hd1 k
theorem kJ5_init_d00df_30 {a0 : Nat} {o1 : Option Value} {u0 : Nat} {u1 : Nat} (g1 : aK S u1 = 1) (g2 : aK S a0 = 1) (k : X E d fJ5_init_d00df 38 [some (.ref a0), o1] [] (aPut S u1 0 (some u0)) (mI (mW M a0 1 1)) Q) : X E d fJ5_init_d00df 30 [some (.ref a0), o1] [.ref u0, .ref u1] S (mI M) Q := by
  refine X_putR 33 (by decide +kernel : decode cJ5_init_d00df 30 = .ok (.putfield 15, 3)) rfl rfl (by decide +kernel : aFd 21 15 = some (1, 0, true, false)) (Or.inl rfl) g1 rfl ?_
  refine X_aload_n 34 (by decide +kernel : decode cJ5_init_d00df 33 = .ok (.aload_n 0, 1)) rfl rfl rfl ?_
  refine X_iconst 35 (by decide +kernel : decode cJ5_init_d00df 34 = .ok (.iconst 1, 1)) rfl rfl ?_
  refine X_putI 38 (by decide +kernel : decode cJ5_init_d00df 35 = .ok (.putfield 22, 3)) rfl rfl (by decide +kernel : aFd 21 22 = some (1, 1, false, false)) (Or.inl rfl) g2 (by decide) (by decide) ?_
  exact k
theorem kJ5_init_d00df_38 {o0 : Option Value} {o1 : Option Value} (q : Q (some none) S (mI M)) : X E d fJ5_init_d00df 38 [o0, o1] [] S (mI M) Q := by
  exact X_vret (by decide +kernel : decode cJ5_init_d00df 38 = .ok (.return_, 1)) rfl rfl q
theorem kJ4_toString_0e30d_0 {a0 : Nat} (hd1 : 1 ≤ d) (k : X E (d - 1) fJ0_init_81219 0 [some (.ref (aX S)), some (.ref a0)] [] (aNew S 0 4 4) (mI (aU M (aX S) (fun _ => 0))) (Kr E d fJ4_toString_0e30d 8 [some (.ref a0)] [.ref (aX S)] Q)) : X E d fJ4_toString_0e30d 0 [some (.ref a0)] [] S (mI M) Q := by
  refine X_new 3 (by decide +kernel : decode cJ4_toString_0e30d 0 = .ok (.new 18, 3)) rfl rfl (by decide +kernel : aNd 1 18 = some (0, 4)) ?_
  refine X_dup 4 (by decide +kernel : decode cJ4_toString_0e30d 3 = .ok (.dup, 1)) rfl rfl rfl ?_
  refine X_aload_n 5 (by decide +kernel : decode cJ4_toString_0e30d 4 = .ok (.aload_n 0, 1)) rfl rfl rfl ?_
  exact X_cv (as := [.ref a0]) (rest := [.ref (aX S)]) (by decide +kernel : decode cJ4_toString_0e30d 5 = .ok (.invokespecial 137, 3)) (Or.inr ⟨rfl, rfl, rfl⟩) rfl rfl rfl rfl rfl (Nat.le_of_ble_eq_true rfl) (Or.inl rfl) hd1 k
theorem kJ4_toString_0e30d_8 {o0 : Option Value} {u0 : Nat} (q : Q (some (some (.ref u0))) S (mI M)) : X E d fJ4_toString_0e30d 8 [o0] [.ref u0] S (mI M) Q := by
  exact X_aret (by decide +kernel : decode cJ4_toString_0e30d 8 = .ok (.areturn, 1)) rfl rfl rfl q
theorem kJ0_init_81219_0 {a0 : Nat} {a1 : Nat} (hd1 : 1 ≤ d) (k : X E (d - 1) fJ0_init_db425 0 [some (.ref a0), some (.ref a1), some (.null), none, none] [] S (mI M) (Kr E d fJ0_init_81219 6 [some (.ref a0), some (.ref a1)] [] Q)) : X E d fJ0_init_81219 0 [some (.ref a0), some (.ref a1)] [] S (mI M) Q := by
  refine X_aload_n 1 (by decide +kernel : decode cJ0_init_81219 0 = .ok (.aload_n 0, 1)) rfl rfl rfl ?_
  refine X_aload_n 2 (by decide +kernel : decode cJ0_init_81219 1 = .ok (.aload_n 1, 1)) rfl rfl rfl ?_
  refine X_null 3 (by decide +kernel : decode cJ0_init_81219 2 = .ok (.aconst_null, 1)) rfl rfl ?_
  exact X_cv (as := [.null, .ref a1]) (rest := []) (by decide +kernel : decode cJ0_init_81219 3 = .ok (.invokespecial 489, 3)) (Or.inr ⟨rfl, rfl, rfl⟩) rfl rfl rfl rfl rfl (Nat.le_of_ble_eq_true rfl) (Or.inl rfl) hd1 k
theorem kJ0_init_81219_6 {o0 : Option Value} {o1 : Option Value} (q : Q (some none) S (mI M)) : X E d fJ0_init_81219 6 [o0, o1] [] S (mI M) Q := by
  exact X_vret (by decide +kernel : decode cJ0_init_81219 6 = .ok (.return_, 1)) rfl rfl q
theorem kJ0_init_db425_0 {a0 : Nat} {a1 : Nat} {o2 : Option Value} {o3 : Option Value} {o4 : Option Value} (hd1 : 1 ≤ d) (k : X E (d - 1) fJ5_getValue_6d5f1 0 [some (.ref a1)] [] S (mI M) (Kr E d fJ0_init_db425 8 [some (.ref a0), some (.ref a1), o2, o3, o4] [] Q)) (g1 : aKd S a1 = 1) : X E d fJ0_init_db425 0 [some (.ref a0), some (.ref a1), o2, o3, o4] [] S (mI M) Q := by
  refine X_aload_n 1 (by decide +kernel : decode cJ0_init_db425 0 = .ok (.aload_n 0, 1)) rfl rfl rfl ?_
  refine X_obj 4 (by decide +kernel : decode cJ0_init_db425 1 = .ok (.invokespecial 1, 3)) rfl rfl rfl (Nat.le_of_ble_eq_true rfl) ?_
  refine X_aload_n 5 (by decide +kernel : decode cJ0_init_db425 4 = .ok (.aload_n 1, 1)) rfl rfl rfl ?_
  exact X_cv (as := []) (rest := []) (by decide +kernel : decode cJ0_init_db425 5 = .ok (.invokevirtual 552, 3)) (Or.inl ⟨rfl, rfl, rfl⟩) rfl rfl rfl rfl rfl (Nat.le_of_ble_eq_true rfl) (Or.inr (Or.inr (by rw [g1]; rfl))) hd1 k
theorem kJ0_init_db425_8 {o0 : Option Value} {a1 : Nat} {o2 : Option Value} {o3 : Option Value} {o4 : Option Value} {u0 : Nat} (hd1 : 1 ≤ d) (k : X E (d - 1) fJ4_length_8abf5 0 [some (.ref a1)] [] S (mI M) (Kr E d fJ0_init_db425 13 [o0, some (.ref a1), o2, some (.ref u0), o4] [] Q)) (g1 : aKd S a1 = 1) : X E d fJ0_init_db425 8 [o0, some (.ref a1), o2, o3, o4] [.ref u0] S (mI M) Q := by
  refine X_astore_n 9 (by decide +kernel : decode cJ0_init_db425 8 = .ok (.astore_n 3, 1)) rfl rfl (Nat.le_of_ble_eq_true rfl) rfl ?_
  refine X_aload_n 10 (by decide +kernel : decode cJ0_init_db425 9 = .ok (.aload_n 1, 1)) rfl rfl rfl ?_
  exact X_cv (as := []) (rest := []) (by decide +kernel : decode cJ0_init_db425 10 = .ok (.invokevirtual 549, 3)) (Or.inl ⟨rfl, rfl, rfl⟩) rfl rfl rfl rfl rfl (Nat.le_of_ble_eq_true rfl) (Or.inr (Or.inr (by rw [g1]; rfl))) hd1 k
theorem kJ0_init_db425_13 {o0 : Option Value} {a1 : Nat} {o2 : Option Value} {o3 : Option Value} {o4 : Option Value} {t0 : Int} (hd1 : 1 ≤ d) (k : X E (d - 1) fJ5_isLatin1_aae02 0 [some (.ref a1)] [] S (mI M) (Kr E d fJ0_init_db425 19 [o0, some (.ref a1), o2, o3, some (J t0)] [] Q)) (g1 : aKd S a1 = 1) : X E d fJ0_init_db425 13 [o0, some (.ref a1), o2, o3, o4] [J t0] S (mI M) Q := by
  refine X_istore 15 (by decide +kernel : decode cJ0_init_db425 13 = .ok (.istore 4, 2)) rfl rfl (Nat.le_of_ble_eq_true rfl) rfl ?_
  refine X_aload_n 16 (by decide +kernel : decode cJ0_init_db425 15 = .ok (.aload_n 1, 1)) rfl rfl rfl ?_
  exact X_cv (as := []) (rest := []) (by decide +kernel : decode cJ0_init_db425 16 = .ok (.invokevirtual 1047, 3)) (Or.inl ⟨rfl, rfl, rfl⟩) rfl rfl rfl rfl rfl (Nat.le_of_ble_eq_true rfl) (Or.inr (Or.inr (by rw [g1]; rfl))) hd1 k
theorem kJ0_init_db425_19 {o0 : Option Value} {o1 : Option Value} {o2 : Option Value} {o3 : Option Value} {o4 : Option Value} {t0 : Int} (r1 : R32 t0) (k1 : t0 = 0 → X E d fJ0_init_db425 41 [o0, o1, o2, o3, o4] [] S (mI M) Q) (k2 : t0 ≠ 0 → X E d fJ0_init_db425 22 [o0, o1, o2, o3, o4] [] S (mI M) Q) : X E d fJ0_init_db425 19 [o0, o1, o2, o3, o4] [J t0] S (mI M) Q := by
  exact X_ifeq 41 22 (by decide +kernel : decode cJ0_init_db425 19 = .ok (.ifCond .eq 22, 3)) rfl rfl (by decide) r1 k1 k2
theorem kJ0_init_db425_22 {a0 : Nat} {o1 : Option Value} {o2 : Option Value} {a3 : Nat} {x4 : Int} (g1 : aK S a0 = 0) (hd1 : 1 ≤ d) (k : X E (d - 1) fJ7_copyOfRange_39247 0 [some (.ref a3), some (J 0), some (J x4)] [] S (mI (mW M a0 1 0)) (Kr E d fJ0_init_db425 35 [some (.ref a0), o1, o2, some (.ref a3), some (J x4)] [.ref a0] Q)) : X E d fJ0_init_db425 22 [some (.ref a0), o1, o2, some (.ref a3), some (J x4)] [] S (mI M) Q := by
  refine X_aload_n 23 (by decide +kernel : decode cJ0_init_db425 22 = .ok (.aload_n 0, 1)) rfl rfl rfl ?_
  refine X_iconst 24 (by decide +kernel : decode cJ0_init_db425 23 = .ok (.iconst 0, 1)) rfl rfl ?_
  refine X_putI 27 (by decide +kernel : decode cJ0_init_db425 24 = .ok (.putfield 15, 3)) rfl rfl (by decide +kernel : aFd 0 15 = some (0, 1, false, true)) (Or.inr ⟨rfl, rfl⟩) g1 (by decide) (by decide) ?_
  refine X_aload_n 28 (by decide +kernel : decode cJ0_init_db425 27 = .ok (.aload_n 0, 1)) rfl rfl rfl ?_
  refine X_aload_n 29 (by decide +kernel : decode cJ0_init_db425 28 = .ok (.aload_n 3, 1)) rfl rfl rfl ?_
  refine X_iconst 30 (by decide +kernel : decode cJ0_init_db425 29 = .ok (.iconst 0, 1)) rfl rfl ?_
  refine X_iload 32 (by decide +kernel : decode cJ0_init_db425 30 = .ok (.iload 4, 2)) rfl rfl rfl ?_
  exact X_cs (as := [J x4, J 0, .ref a3]) (rest := [.ref a0]) (by decide +kernel : decode cJ0_init_db425 32 = .ok (.invokestatic 54, 3)) rfl rfl rfl rfl rfl rfl rfl (Nat.le_of_ble_eq_true rfl) hd1 k
theorem kJ0_init_db425_35 {o0 : Option Value} {o1 : Option Value} {o2 : Option Value} {o3 : Option Value} {o4 : Option Value} {u0 : Nat} {u1 : Nat} (g1 : aK S u1 = 0) (k : X E d fJ0_init_db425 97 [o0, o1, o2, o3, o4] [] (aPut S u1 0 (some u0)) (mI M) Q) : X E d fJ0_init_db425 35 [o0, o1, o2, o3, o4] [.ref u0, .ref u1] S (mI M) Q := by
  refine X_putR 38 (by decide +kernel : decode cJ0_init_db425 35 = .ok (.putfield 9, 3)) rfl rfl (by decide +kernel : aFd 0 9 = some (0, 0, true, true)) (Or.inr ⟨rfl, rfl⟩) g1 rfl ?_
  exact X_goto 97 (by decide +kernel : decode cJ0_init_db425 38 = .ok (.goto 59, 3)) rfl (by decide) k
theorem kJ0_init_db425_41 {o0 : Option Value} {o1 : Option Value} {o2 : Option Value} {o3 : Option Value} {o4 : Option Value} {y1 : Int} (e2 : E 2 = J y1) (r3 : R32 y1) (k1 : y1 = 0 → X E d fJ0_init_db425 79 [o0, o1, o2, o3, o4] [] S (mI M) Q) (k2 : y1 ≠ 0 → X E d fJ0_init_db425 47 [o0, o1, o2, o3, o4] [] S (mI M) Q) : X E d fJ0_init_db425 41 [o0, o1, o2, o3, o4] [] S (mI M) Q := by
  refine X_getst 44 (by decide +kernel : decode cJ0_init_db425 41 = .ok (.getstatic 38, 3)) rfl rfl rfl e2 ?_
  exact X_ifeq 79 47 (by decide +kernel : decode cJ0_init_db425 44 = .ok (.ifCond .eq 35, 3)) rfl rfl (by decide) r3 k1 k2
theorem kJ0_init_db425_47 {o0 : Option Value} {a1 : Nat} {o2 : Option Value} {o3 : Option Value} {o4 : Option Value} (g1 : aKd S a1 = 1) (r2 : R32 (M a1 2)) (k1 : (M a1 2) = 0 → X E d fJ0_init_db425 79 [o0, some (.ref a1), o2, o3, o4] [] S (mI M) Q) (k2 : (M a1 2) ≠ 0 → X E d fJ0_init_db425 54 [o0, some (.ref a1), o2, o3, o4] [] S (mI M) Q) : X E d fJ0_init_db425 47 [o0, some (.ref a1), o2, o3, o4] [] S (mI M) Q := by
  refine X_aload_n 48 (by decide +kernel : decode cJ0_init_db425 47 = .ok (.aload_n 1, 1)) rfl rfl rfl ?_
  refine X_getI 51 (by decide +kernel : decode cJ0_init_db425 48 = .ok (.getfield 1048, 3)) rfl rfl (by decide +kernel : aFd 0 1048 = some (1, 2, false, false)) g1 ?_
  exact X_ifeq 79 54 (by decide +kernel : decode cJ0_init_db425 51 = .ok (.ifCond .eq 28, 3)) rfl rfl (by decide) r2 k1 k2
theorem kJ0_init_db425_54 {a0 : Nat} {o1 : Option Value} {o2 : Option Value} {a3 : Nat} {x4 : Int} (hd1 : 1 ≤ d) (k : X E (d - 1) fJ2_compress_39247 0 [some (.ref a3), some (J 0), some (J x4), none, none, none] [] S (mI M) (Kr E d fJ0_init_db425 62 [some (.ref a0), o1, o2, some (.ref a3), some (J x4)] [.ref a0] Q)) : X E d fJ0_init_db425 54 [some (.ref a0), o1, o2, some (.ref a3), some (J x4)] [] S (mI M) Q := by
  refine X_aload_n 55 (by decide +kernel : decode cJ0_init_db425 54 = .ok (.aload_n 0, 1)) rfl rfl rfl ?_
  refine X_aload_n 56 (by decide +kernel : decode cJ0_init_db425 55 = .ok (.aload_n 3, 1)) rfl rfl rfl ?_
  refine X_iconst 57 (by decide +kernel : decode cJ0_init_db425 56 = .ok (.iconst 0, 1)) rfl rfl ?_
  refine X_iload 59 (by decide +kernel : decode cJ0_init_db425 57 = .ok (.iload 4, 2)) rfl rfl rfl ?_
  exact X_cs (as := [J x4, J 0, .ref a3]) (rest := [.ref a0]) (by decide +kernel : decode cJ0_init_db425 59 = .ok (.invokestatic 1051, 3)) rfl rfl rfl rfl rfl rfl rfl (Nat.le_of_ble_eq_true rfl) hd1 k
theorem kJ0_init_db425_62 {a0 : Nat} {o1 : Option Value} {o2 : Option Value} {o3 : Option Value} {x4 : Int} {u0 : Nat} {u1 : Nat} {b3 : Nat} (g1 : aK S u1 = 0) (g2 : aKd S a0 = 0) (p4 : aP (aPut S u1 0 (some u0)) a0 0 = some b3) (hd1 : 1 ≤ d) (k : X E (d - 1) fJ2_coderFromArrayLen_85cad 0 [some (.ref b3), some (J x4)] [] (aPut S u1 0 (some u0)) (mI M) (Kr E d fJ0_init_db425 75 [some (.ref a0), o1, o2, o3, some (J x4)] [.ref a0] Q)) : X E d fJ0_init_db425 62 [some (.ref a0), o1, o2, o3, some (J x4)] [.ref u0, .ref u1] S (mI M) Q := by
  refine X_putR 65 (by decide +kernel : decode cJ0_init_db425 62 = .ok (.putfield 9, 3)) rfl rfl (by decide +kernel : aFd 0 9 = some (0, 0, true, true)) (Or.inr ⟨rfl, rfl⟩) g1 rfl ?_
  refine X_aload_n 66 (by decide +kernel : decode cJ0_init_db425 65 = .ok (.aload_n 0, 1)) rfl rfl rfl ?_
  refine X_aload_n 67 (by decide +kernel : decode cJ0_init_db425 66 = .ok (.aload_n 0, 1)) rfl rfl rfl ?_
  refine X_getR 70 (by decide +kernel : decode cJ0_init_db425 67 = .ok (.getfield 9, 3)) rfl rfl (by decide +kernel : aFd 0 9 = some (0, 0, true, true)) g2 p4 ?_
  refine X_iload 72 (by decide +kernel : decode cJ0_init_db425 70 = .ok (.iload 4, 2)) rfl rfl rfl ?_
  exact X_cs (as := [J x4, .ref b3]) (rest := [.ref a0]) (by decide +kernel : decode cJ0_init_db425 72 = .ok (.invokestatic 47, 3)) rfl rfl rfl rfl rfl rfl rfl (Nat.le_of_ble_eq_true rfl) hd1 k
theorem kJ0_init_db425_75 {o0 : Option Value} {o1 : Option Value} {o2 : Option Value} {o3 : Option Value} {o4 : Option Value} {t0 : Int} {u1 : Nat} (g1 : aK S u1 = 0) (h2 : narrow (aTy 0 1) (J t0) = J t0) (h3 : fits (aTy 0 1) (J t0) = true) (q : Q (some none) S (mI (mW M u1 1 t0))) : X E d fJ0_init_db425 75 [o0, o1, o2, o3, o4] [J t0, .ref u1] S (mI M) Q := by
  refine X_putI 78 (by decide +kernel : decode cJ0_init_db425 75 = .ok (.putfield 15, 3)) rfl rfl (by decide +kernel : aFd 0 15 = some (0, 1, false, true)) (Or.inr ⟨rfl, rfl⟩) g1 h2 h3 ?_
  exact X_vret (by decide +kernel : decode cJ0_init_db425 78 = .ok (.return_, 1)) rfl rfl q
theorem kJ0_init_db425_79 {a0 : Nat} {o1 : Option Value} {o2 : Option Value} {a3 : Nat} {x4 : Int} (g1 : aK S a0 = 0) (hd1 : 1 ≤ d) (k : X E (d - 1) fJ7_copyOfRange_39247 0 [some (.ref a3), some (J 0), some (J ((Int32.ofInt x4 <<< (Int32.ofInt 1 &&& 31)).toInt))] [] S (mI (mW M a0 1 1)) (Kr E d fJ0_init_db425 94 [some (.ref a0), o1, o2, some (.ref a3), some (J x4)] [.ref a0] Q)) : X E d fJ0_init_db425 79 [some (.ref a0), o1, o2, some (.ref a3), some (J x4)] [] S (mI M) Q := by
  refine X_aload_n 80 (by decide +kernel : decode cJ0_init_db425 79 = .ok (.aload_n 0, 1)) rfl rfl rfl ?_
  refine X_iconst 81 (by decide +kernel : decode cJ0_init_db425 80 = .ok (.iconst 1, 1)) rfl rfl ?_
  refine X_putI 84 (by decide +kernel : decode cJ0_init_db425 81 = .ok (.putfield 15, 3)) rfl rfl (by decide +kernel : aFd 0 15 = some (0, 1, false, true)) (Or.inr ⟨rfl, rfl⟩) g1 (by decide) (by decide) ?_
  refine X_aload_n 85 (by decide +kernel : decode cJ0_init_db425 84 = .ok (.aload_n 0, 1)) rfl rfl rfl ?_
  refine X_aload_n 86 (by decide +kernel : decode cJ0_init_db425 85 = .ok (.aload_n 3, 1)) rfl rfl rfl ?_
  refine X_iconst 87 (by decide +kernel : decode cJ0_init_db425 86 = .ok (.iconst 0, 1)) rfl rfl ?_
  refine X_iload 89 (by decide +kernel : decode cJ0_init_db425 87 = .ok (.iload 4, 2)) rfl rfl rfl ?_
  refine X_iconst 90 (by decide +kernel : decode cJ0_init_db425 89 = .ok (.iconst 1, 1)) rfl rfl ?_
  refine X_ishl 91 (by decide +kernel : decode cJ0_init_db425 90 = .ok (.ishl, 1)) rfl rfl ?_
  exact X_cs (as := [J ((Int32.ofInt x4 <<< (Int32.ofInt 1 &&& 31)).toInt), J 0, .ref a3]) (rest := [.ref a0]) (by decide +kernel : decode cJ0_init_db425 91 = .ok (.invokestatic 54, 3)) rfl rfl rfl rfl rfl rfl rfl (Nat.le_of_ble_eq_true rfl) hd1 k
theorem kJ0_init_db425_94 {o0 : Option Value} {o1 : Option Value} {o2 : Option Value} {o3 : Option Value} {o4 : Option Value} {u0 : Nat} {u1 : Nat} (g1 : aK S u1 = 0) (k : X E d fJ0_init_db425 97 [o0, o1, o2, o3, o4] [] (aPut S u1 0 (some u0)) (mI M) Q) : X E d fJ0_init_db425 94 [o0, o1, o2, o3, o4] [.ref u0, .ref u1] S (mI M) Q := by
  refine X_putR 97 (by decide +kernel : decode cJ0_init_db425 94 = .ok (.putfield 9, 3)) rfl rfl (by decide +kernel : aFd 0 9 = some (0, 0, true, true)) (Or.inr ⟨rfl, rfl⟩) g1 rfl ?_
  exact k
theorem kJ0_init_db425_97 {o0 : Option Value} {o1 : Option Value} {o2 : Option Value} {o3 : Option Value} {o4 : Option Value} (q : Q (some none) S (mI M)) : X E d fJ0_init_db425 97 [o0, o1, o2, o3, o4] [] S (mI M) Q := by
  exact X_vret (by decide +kernel : decode cJ0_init_db425 97 = .ok (.return_, 1)) rfl rfl q
theorem kJ5_getValue_6d5f1_0 {a0 : Nat} {b2 : Nat} (g1 : aKd S a0 = 1) (p3 : aP S a0 0 = some b2) (q : Q (some (some (.ref b2))) S (mI M)) : X E d fJ5_getValue_6d5f1 0 [some (.ref a0)] [] S (mI M) Q := by
  refine X_aload_n 1 (by decide +kernel : decode cJ5_getValue_6d5f1 0 = .ok (.aload_n 0, 1)) rfl rfl rfl ?_
  refine X_getR 4 (by decide +kernel : decode cJ5_getValue_6d5f1 1 = .ok (.getfield 15, 3)) rfl rfl (by decide +kernel : aFd 21 15 = some (1, 0, true, false)) g1 p3 ?_
  exact X_aret (by decide +kernel : decode cJ5_getValue_6d5f1 4 = .ok (.areturn, 1)) rfl rfl rfl q
theorem kJ4_length_8abf5_0 {a0 : Nat} (hd1 : 1 ≤ d) (k : X E (d - 1) fJ5_length_8abf5 0 [some (.ref a0)] [] S (mI M) (Kr E d fJ4_length_8abf5 4 [some (.ref a0)] [] Q)) (g1 : aKd S a0 = 1) : X E d fJ4_length_8abf5 0 [some (.ref a0)] [] S (mI M) Q := by
  refine X_aload_n 1 (by decide +kernel : decode cJ4_length_8abf5 0 = .ok (.aload_n 0, 1)) rfl rfl rfl ?_
  exact X_cv (as := []) (rest := []) (by decide +kernel : decode cJ4_length_8abf5 1 = .ok (.invokespecial 343, 3)) (Or.inr ⟨rfl, rfl, rfl⟩) rfl rfl rfl rfl rfl (Nat.le_of_ble_eq_true rfl) (Or.inr (Or.inr (by rw [g1]; rfl))) hd1 k
theorem kJ4_length_8abf5_4 {o0 : Option Value} {t0 : Int} (q : Q (some (some (J t0))) S (mI M)) : X E d fJ4_length_8abf5 4 [o0] [J t0] S (mI M) Q := by
  exact X_iret (by decide +kernel : decode cJ4_length_8abf5 4 = .ok (.ireturn, 1)) rfl rfl rfl q
theorem kJ5_length_8abf5_0 {a0 : Nat} (g1 : aKd S a0 = 1) (q : Q (some (some (J (M a0 3)))) S (mI M)) : X E d fJ5_length_8abf5 0 [some (.ref a0)] [] S (mI M) Q := by
  refine X_aload_n 1 (by decide +kernel : decode cJ5_length_8abf5 0 = .ok (.aload_n 0, 1)) rfl rfl rfl ?_
  refine X_getI 4 (by decide +kernel : decode cJ5_length_8abf5 1 = .ok (.getfield 79, 3)) rfl rfl (by decide +kernel : aFd 21 79 = some (1, 3, false, false)) g1 ?_
  exact X_iret (by decide +kernel : decode cJ5_length_8abf5 4 = .ok (.ireturn, 1)) rfl rfl rfl q
theorem kJ7_copyOfRange_39247_0 {o0 : Option Value} {x1 : Int} {o2 : Option Value} (r1 : R32 x1) (k1 : x1 ≠ 0 → X E d fJ7_copyOfRange_39247 10 [o0, some (J x1), o2] [] S (mI M) Q) (k2 : x1 = 0 → X E d fJ7_copyOfRange_39247 4 [o0, some (J x1), o2] [] S (mI M) Q) : X E d fJ7_copyOfRange_39247 0 [o0, some (J x1), o2] [] S (mI M) Q := by
  refine X_iload_n 1 (by decide +kernel : decode cJ7_copyOfRange_39247 0 = .ok (.iload_n 1, 1)) rfl rfl rfl ?_
  exact X_ifne 10 4 (by decide +kernel : decode cJ7_copyOfRange_39247 1 = .ok (.ifCond .ne 9, 3)) rfl rfl (by decide) r1 k1 k2
theorem kJ7_copyOfRange_39247_4 {a0 : Nat} {o1 : Option Value} {x2 : Int} (g1 : aKd S a0 = 100 ∨ aKd S a0 = 101 ∨ aKd S a0 = 102) (r2 : R32 x2) (r3 : R32 ((aN S a0 : Int))) (k1 : x2 = (aN S a0 : Int) → X E d fJ7_copyOfRange_39247 17 [some (.ref a0), o1, some (J x2)] [] S (mI M) Q) (k2 : x2 ≠ (aN S a0 : Int) → X E d fJ7_copyOfRange_39247 10 [some (.ref a0), o1, some (J x2)] [] S (mI M) Q) : X E d fJ7_copyOfRange_39247 4 [some (.ref a0), o1, some (J x2)] [] S (mI M) Q := by
  refine X_iload_n 5 (by decide +kernel : decode cJ7_copyOfRange_39247 4 = .ok (.iload_n 2, 1)) rfl rfl rfl ?_
  refine X_aload_n 6 (by decide +kernel : decode cJ7_copyOfRange_39247 5 = .ok (.aload_n 0, 1)) rfl rfl rfl ?_
  refine X_alen 7 (by decide +kernel : decode cJ7_copyOfRange_39247 6 = .ok (.arraylength, 1)) rfl rfl g1 ?_
  exact X_icmpeq 17 10 (by decide +kernel : decode cJ7_copyOfRange_39247 7 = .ok (.if_icmp .eq 10, 3)) rfl rfl (by decide) r2 r3 k1 k2
theorem kJ7_copyOfRange_39247_10 {a0 : Nat} {x1 : Int} {x2 : Int} (hd1 : 1 ≤ d) (k : X E (d - 1) fJ7_copyOfRangeByte_39247 0 [some (.ref a0), some (J x1), some (J x2), none, none] [] S (mI M) (Kr E d fJ7_copyOfRange_39247 16 [some (.ref a0), some (J x1), some (J x2)] [] Q)) : X E d fJ7_copyOfRange_39247 10 [some (.ref a0), some (J x1), some (J x2)] [] S (mI M) Q := by
  refine X_aload_n 11 (by decide +kernel : decode cJ7_copyOfRange_39247 10 = .ok (.aload_n 0, 1)) rfl rfl rfl ?_
  refine X_iload_n 12 (by decide +kernel : decode cJ7_copyOfRange_39247 11 = .ok (.iload_n 1, 1)) rfl rfl rfl ?_
  refine X_iload_n 13 (by decide +kernel : decode cJ7_copyOfRange_39247 12 = .ok (.iload_n 2, 1)) rfl rfl rfl ?_
  exact X_cs (as := [J x2, J x1, .ref a0]) (rest := []) (by decide +kernel : decode cJ7_copyOfRange_39247 13 = .ok (.invokestatic 339, 3)) rfl rfl rfl rfl rfl rfl rfl (Nat.le_of_ble_eq_true rfl) hd1 k
theorem kJ7_copyOfRange_39247_16 {o0 : Option Value} {o1 : Option Value} {o2 : Option Value} {u0 : Nat} (q : Q (some (some (.ref u0))) S (mI M)) : X E d fJ7_copyOfRange_39247 16 [o0, o1, o2] [.ref u0] S (mI M) Q := by
  exact X_aret (by decide +kernel : decode cJ7_copyOfRange_39247 16 = .ok (.areturn, 1)) rfl rfl rfl q
theorem kJ7_copyOfRange_39247_17 {a0 : Nat} {o1 : Option Value} {o2 : Option Value} (g1 : aK S a0 = 101) (h2 : ∀ j, j < aN S a0 → -128 ≤ M a0 j ∧ M a0 j ≤ 127) (g3 : aK (aNew S 101 (aN S a0) (aN S a0)) (aX S) = 101) (q : Q (some (some (.ref (aX S)))) (aNew S 101 (aN S a0) (aN S a0)) (mI (aU M (aX S) (M a0)))) : X E d fJ7_copyOfRange_39247 17 [some (.ref a0), o1, o2] [] S (mI M) Q := by
  refine X_aload_n 18 (by decide +kernel : decode cJ7_copyOfRange_39247 17 = .ok (.aload_n 0, 1)) rfl rfl rfl ?_
  refine X_clone 21 rfl (by decide +kernel : decode cJ7_copyOfRange_39247 18 = .ok (.invokevirtual 310, 3)) rfl rfl g1 h2 (Nat.le_of_ble_eq_true rfl) ?_
  refine X_cast 24 rfl (by decide +kernel : decode cJ7_copyOfRange_39247 21 = .ok (.checkcast 311, 3)) rfl rfl g3 ?_
  exact X_aret (by decide +kernel : decode cJ7_copyOfRange_39247 24 = .ok (.areturn, 1)) rfl rfl rfl q
theorem kJ7_copyOfRangeByte_39247_0 {o0 : Option Value} {x1 : Int} {x2 : Int} {o3 : Option Value} {o4 : Option Value} (hd1 : 1 ≤ d) (k : X E (d - 1) fJ7_checkLength_df160 0 [some (J x1), some (J x2)] [] S (mI M) (Kr E d fJ7_copyOfRangeByte_39247 5 [o0, some (J x1), some (J x2), o3, o4] [] Q)) : X E d fJ7_copyOfRangeByte_39247 0 [o0, some (J x1), some (J x2), o3, o4] [] S (mI M) Q := by
  refine X_iload_n 1 (by decide +kernel : decode cJ7_copyOfRangeByte_39247 0 = .ok (.iload_n 1, 1)) rfl rfl rfl ?_
  refine X_iload_n 2 (by decide +kernel : decode cJ7_copyOfRangeByte_39247 1 = .ok (.iload_n 2, 1)) rfl rfl rfl ?_
  exact X_cs (as := [J x2, J x1]) (rest := []) (by decide +kernel : decode cJ7_copyOfRangeByte_39247 2 = .ok (.invokestatic 343, 3)) rfl rfl rfl rfl rfl rfl rfl (Nat.le_of_ble_eq_true rfl) hd1 k
theorem kJ7_copyOfRangeByte_39247_5 {a0 : Nat} {x1 : Int} {x2 : Int} {o3 : Option Value} {o4 : Option Value} {M_14 : Nat → Nat → Int} (h1 : (0 : Int) ≤ x2 - x1 ∧ (x2 - x1) ≤ 1000000) (g2 : aKd (aNew S 101 (x2 - x1).toNat (x2 - x1).toNat) a0 = 100 ∨ aKd (aNew S 101 (x2 - x1).toNat (x2 - x1).toNat) a0 = 101 ∨ aKd (aNew S 101 (x2 - x1).toNat (x2 - x1).toNat) a0 = 102) (r3 : R32 ((aN (aNew S 101 (x2 - x1).toNat (x2 - x1).toNat) a0 : Int) - x1)) (r4 : R32 (x2 - x1)) (g5 : aKd (aNew S 101 (x2 - x1).toNat (x2 - x1).toNat) a0 = 101) (g6 : aK (aNew S 101 (x2 - x1).toNat (x2 - x1).toNat) (aX S) = 101) (h7 : (0 : Int) ≤ x1) (h8 : (0 : Int) ≤ min ((aN (aNew S 101 (x2 - x1).toNat (x2 - x1).toNat) a0 : Int) - x1) (x2 - x1)) (r9 : R32 x1) (r10 : R32 (min ((aN (aNew S 101 (x2 - x1).toNat (x2 - x1).toNat) a0 : Int) - x1) (x2 - x1))) (h11 : x1 + (min ((aN (aNew S 101 (x2 - x1).toNat (x2 - x1).toNat) a0 : Int) - x1) (x2 - x1)) ≤ (aN (aNew S 101 (x2 - x1).toNat (x2 - x1).toNat) a0 : Int)) (h12 : 0 + (min ((aN (aNew S 101 (x2 - x1).toNat (x2 - x1).toNat) a0 : Int) - x1) (x2 - x1)) ≤ (aN (aNew S 101 (x2 - x1).toNat (x2 - x1).toNat) (aX S) : Int)) (h13 : ∀ j, j < (min ((aN (aNew S 101 (x2 - x1).toNat (x2 - x1).toNat) a0 : Int) - x1) (x2 - x1)).toNat → -128 ≤ (aU M (aX S) (fun _ => 0)) a0 (x1.toNat + j) ∧ (aU M (aX S) (fun _ => 0)) a0 (x1.toNat + j) ≤ 127) (eM_14 : aCp (aU M (aX S) (fun _ => 0)) a0 (aX S) x1.toNat 0 (min ((aN (aNew S 101 (x2 - x1).toNat (x2 - x1).toNat) a0 : Int) - x1) (x2 - x1)).toNat = M_14) (q : Q (some (some (.ref (aX S)))) (aNew S 101 (x2 - x1).toNat (x2 - x1).toNat) (mI M_14)) : X E d fJ7_copyOfRangeByte_39247 5 [some (.ref a0), some (J x1), some (J x2), o3, o4] [] S (mI M) Q := by
  refine X_iload_n 6 (by decide +kernel : decode cJ7_copyOfRangeByte_39247 5 = .ok (.iload_n 2, 1)) rfl rfl rfl ?_
  refine X_iload_n 7 (by decide +kernel : decode cJ7_copyOfRangeByte_39247 6 = .ok (.iload_n 1, 1)) rfl rfl rfl ?_
  refine X_isub 8 (by decide +kernel : decode cJ7_copyOfRangeByte_39247 7 = .ok (.isub, 1)) rfl rfl ?_
  refine X_istore_n 9 (by decide +kernel : decode cJ7_copyOfRangeByte_39247 8 = .ok (.istore_n 3, 1)) rfl rfl (Nat.le_of_ble_eq_true rfl) rfl ?_
  refine X_iload_n 10 (by decide +kernel : decode cJ7_copyOfRangeByte_39247 9 = .ok (.iload_n 3, 1)) rfl rfl rfl ?_
  refine X_newB 12 (by decide +kernel : decode cJ7_copyOfRangeByte_39247 10 = .ok (.newarray .byte, 2)) rfl rfl h1 ?_
  refine X_astore 14 (by decide +kernel : decode cJ7_copyOfRangeByte_39247 12 = .ok (.astore 4, 2)) rfl rfl (Nat.le_of_ble_eq_true rfl) rfl ?_
  refine X_aload_n 15 (by decide +kernel : decode cJ7_copyOfRangeByte_39247 14 = .ok (.aload_n 0, 1)) rfl rfl rfl ?_
  refine X_iload_n 16 (by decide +kernel : decode cJ7_copyOfRangeByte_39247 15 = .ok (.iload_n 1, 1)) rfl rfl rfl ?_
  refine X_aload 18 (by decide +kernel : decode cJ7_copyOfRangeByte_39247 16 = .ok (.aload 4, 2)) rfl rfl rfl ?_
  refine X_iconst 19 (by decide +kernel : decode cJ7_copyOfRangeByte_39247 18 = .ok (.iconst 0, 1)) rfl rfl ?_
  refine X_aload_n 20 (by decide +kernel : decode cJ7_copyOfRangeByte_39247 19 = .ok (.aload_n 0, 1)) rfl rfl rfl ?_
  refine X_alen 21 (by decide +kernel : decode cJ7_copyOfRangeByte_39247 20 = .ok (.arraylength, 1)) rfl rfl g2 ?_
  refine X_iload_n 22 (by decide +kernel : decode cJ7_copyOfRangeByte_39247 21 = .ok (.iload_n 1, 1)) rfl rfl rfl ?_
  refine X_isub 23 (by decide +kernel : decode cJ7_copyOfRangeByte_39247 22 = .ok (.isub, 1)) rfl rfl ?_
  refine X_iload_n 24 (by decide +kernel : decode cJ7_copyOfRangeByte_39247 23 = .ok (.iload_n 3, 1)) rfl rfl rfl ?_
  refine X_math (z := 0) 27 (by decide +kernel : decode cJ7_copyOfRangeByte_39247 24 = .ok (.invokestatic 304, 3)) rfl rfl rfl rfl (by decide) r3 r4 (Nat.le_of_ble_eq_true rfl) ?_
  refine X_cpB 30 (by decide +kernel : decode cJ7_copyOfRangeByte_39247 27 = .ok (.invokestatic 150, 3)) rfl rfl rfl rfl g5 g6 ⟨h7, (by decide), h8⟩ ⟨r9, ⟨by decide, by decide⟩, r10⟩ h11 h12 h13 (Nat.le_of_ble_eq_true rfl) ?_
  show X E d fJ7_copyOfRangeByte_39247 30 [some (.ref a0), some (J x1), some (J x2), some (J (x2 - x1)), some (.ref (aX S))] [] (aNew S 101 (x2 - x1).toNat (x2 - x1).toNat) (mI (aCp (aU M (aX S) (fun _ => 0)) a0 (aX S) x1.toNat 0 (min ((aN (aNew S 101 (x2 - x1).toNat (x2 - x1).toNat) a0 : Int) - x1) (x2 - x1)).toNat)) Q
  rw [eM_14]
  refine X_aload 32 (by decide +kernel : decode cJ7_copyOfRangeByte_39247 30 = .ok (.aload 4, 2)) rfl rfl rfl ?_
  exact X_aret (by decide +kernel : decode cJ7_copyOfRangeByte_39247 32 = .ok (.areturn, 1)) rfl rfl rfl q
theorem kJ7_checkLength_df160_0 {x0 : Int} {x1 : Int} (r1 : R32 x1) (r2 : R32 x0) (k1 : x0 ≤ x1 → X E d fJ7_checkLength_df160 37 [some (J x0), some (J x1)] [] S (mI M) Q) (k2 : x1 < x0 → X E d fJ7_checkLength_df160 5 [some (J x0), some (J x1)] [] S (mI M) Q) : X E d fJ7_checkLength_df160 0 [some (J x0), some (J x1)] [] S (mI M) Q := by
  refine X_iload_n 1 (by decide +kernel : decode cJ7_checkLength_df160 0 = .ok (.iload_n 1, 1)) rfl rfl rfl ?_
  refine X_iload_n 2 (by decide +kernel : decode cJ7_checkLength_df160 1 = .ok (.iload_n 0, 1)) rfl rfl rfl ?_
  exact X_icmpge 37 5 (by decide +kernel : decode cJ7_checkLength_df160 2 = .ok (.if_icmp .ge 35, 3)) rfl rfl (by decide) r1 r2 k1 k2
theorem kJ7_checkLength_df160_37 {o0 : Option Value} {o1 : Option Value} (q : Q (some none) S (mI M)) : X E d fJ7_checkLength_df160 37 [o0, o1] [] S (mI M) Q := by
  exact X_vret (by decide +kernel : decode cJ7_checkLength_df160 37 = .ok (.return_, 1)) rfl rfl q
theorem kJ2_length_9d52b_0 {a0 : Nat} (g1 : aKd S a0 = 100 ∨ aKd S a0 = 101 ∨ aKd S a0 = 102) (q : Q (some (some (J ((Int32.ofInt (aN S a0 : Int) >>> (Int32.ofInt 1 &&& 31)).toInt)))) S (mI M)) : X E d fJ2_length_9d52b 0 [some (.ref a0)] [] S (mI M) Q := by
  refine X_aload_n 1 (by decide +kernel : decode cJ2_length_9d52b 0 = .ok (.aload_n 0, 1)) rfl rfl rfl ?_
  refine X_alen 2 (by decide +kernel : decode cJ2_length_9d52b 1 = .ok (.arraylength, 1)) rfl rfl g1 ?_
  refine X_iconst 3 (by decide +kernel : decode cJ2_length_9d52b 2 = .ok (.iconst 1, 1)) rfl rfl ?_
  refine X_ishr 4 (by decide +kernel : decode cJ2_length_9d52b 3 = .ok (.ishr, 1)) rfl rfl ?_
  exact X_iret (by decide +kernel : decode cJ2_length_9d52b 4 = .ok (.ireturn, 1)) rfl rfl rfl q
end
