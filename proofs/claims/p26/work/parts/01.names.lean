-- ===== PART A: goes FIRST, ahead of the names: the tables' words, and 'selects' of the private methods out of them =====
/-- a private method of a class that the tables say can be made, by its rows of tables_1 -/
def lw_okq (q : MethodName × Nat) : Prop := (q.1.cls ≠ "java/lang/invoke/MethodHandle" ∧ q.1.cls ≠ "java/lang/invoke/VarHandle") ∧ Cond.instantiable q.1.cls q.2 ∈ tables_1 ∧ Cond.privateMethod q.1 ∈ tables_1 ∧ Cond.instanceMethod q.1 ∈ tables_1
theorem lw_p0 : lw_okq (⟨"TollTrustees$Trust", "brokenMilesIn", "(II)I"⟩, 18) := ⟨⟨by decide +kernel, by decide +kernel⟩, List.mem_of_getElem? (i := 277) (by decide +kernel), List.mem_of_getElem? (i := 403) (by decide +kernel), List.mem_of_getElem? (i := 404) (by decide +kernel)⟩
theorem lw_p1 : lw_okq (⟨"java/lang/Throwable", "fillInStackTrace", "(I)Ljava/lang/Throwable;"⟩, 6) := ⟨⟨by decide +kernel, by decide +kernel⟩, List.mem_of_getElem? (i := 445) (by decide +kernel), List.mem_of_getElem? (i := 443) (by decide +kernel), List.mem_of_getElem? (i := 444) (by decide +kernel)⟩
theorem lw_p2 : lw_okq (⟨"TollTrustees$Trust", "isFree", "(II)Z"⟩, 18) := ⟨⟨by decide +kernel, by decide +kernel⟩, List.mem_of_getElem? (i := 277) (by decide +kernel), List.mem_of_getElem? (i := 541) (by decide +kernel), List.mem_of_getElem? (i := 542) (by decide +kernel)⟩
theorem lw_p3 : lw_okq (⟨"TollTrustees$Trust", "pay", "(II)V"⟩, 18) := ⟨⟨by decide +kernel, by decide +kernel⟩, List.mem_of_getElem? (i := 277) (by decide +kernel), List.mem_of_getElem? (i := 563) (by decide +kernel), List.mem_of_getElem? (i := 564) (by decide +kernel)⟩
theorem lw_p4 : lw_okq (⟨"TollTrustees$Trust", "wear", "(II)V"⟩, 18) := ⟨⟨by decide +kernel, by decide +kernel⟩, List.mem_of_getElem? (i := 277) (by decide +kernel), List.mem_of_getElem? (i := 568) (by decide +kernel), List.mem_of_getElem? (i := 569) (by decide +kernel)⟩
theorem lw_p5 : lw_okq (⟨"TollTrustees$Trust", "farmOut", "()V"⟩, 18) := ⟨⟨by decide +kernel, by decide +kernel⟩, List.mem_of_getElem? (i := 277) (by decide +kernel), List.mem_of_getElem? (i := 603) (by decide +kernel), List.mem_of_getElem? (i := 604) (by decide +kernel)⟩
theorem lw_p6 : lw_okq (⟨"TollTrustees$Trust", "rentByOrders", "(I)I"⟩, 18) := ⟨⟨by decide +kernel, by decide +kernel⟩, List.mem_of_getElem? (i := 277) (by decide +kernel), List.mem_of_getElem? (i := 607) (by decide +kernel), List.mem_of_getElem? (i := 608) (by decide +kernel)⟩
theorem lw_p7 : lw_okq (⟨"TollTrustees$Trust", "settleRents", "()V"⟩, 18) := ⟨⟨by decide +kernel, by decide +kernel⟩, List.mem_of_getElem? (i := 277) (by decide +kernel), List.mem_of_getElem? (i := 612) (by decide +kernel), List.mem_of_getElem? (i := 613) (by decide +kernel)⟩
theorem lw_p8 : lw_okq (⟨"TollTrustees$Trust", "mendByOrders", "()V"⟩, 18) := ⟨⟨by decide +kernel, by decide +kernel⟩, List.mem_of_getElem? (i := 277) (by decide +kernel), List.mem_of_getElem? (i := 616) (by decide +kernel), List.mem_of_getElem? (i := 617) (by decide +kernel)⟩
theorem lw_p9 : lw_okq (⟨"TollTrustees$Trust", "worstMile", "(I)I"⟩, 18) := ⟨⟨by decide +kernel, by decide +kernel⟩, List.mem_of_getElem? (i := 277) (by decide +kernel), List.mem_of_getElem? (i := 624) (by decide +kernel), List.mem_of_getElem? (i := 625) (by decide +kernel)⟩
theorem lw_p10 : lw_okq (⟨"TollTrusteesLaw$Sim", "pay", "(II)V"⟩, 9) := ⟨⟨by decide +kernel, by decide +kernel⟩, List.mem_of_getElem? (i := 696) (by decide +kernel), List.mem_of_getElem? (i := 694) (by decide +kernel), List.mem_of_getElem? (i := 695) (by decide +kernel)⟩
theorem lw_p11 : lw_okq (⟨"TollTrustees", "append", "(I)V"⟩, 10) := ⟨⟨by decide +kernel, by decide +kernel⟩, List.mem_of_getElem? (i := 29) (by decide +kernel), List.mem_of_getElem? (i := 873) (by decide +kernel), List.mem_of_getElem? (i := 874) (by decide +kernel)⟩
theorem lw_p12 : lw_okq (⟨"TollTrustees$Grammar", "readLine", "()V"⟩, 5) := ⟨⟨by decide +kernel, by decide +kernel⟩, List.mem_of_getElem? (i := 66) (by decide +kernel), List.mem_of_getElem? (i := 994) (by decide +kernel), List.mem_of_getElem? (i := 995) (by decide +kernel)⟩
theorem lw_p13 : lw_okq (⟨"TollTrustees$Grammar", "needAll", "([I)V"⟩, 5) := ⟨⟨by decide +kernel, by decide +kernel⟩, List.mem_of_getElem? (i := 66) (by decide +kernel), List.mem_of_getElem? (i := 1000) (by decide +kernel), List.mem_of_getElem? (i := 1001) (by decide +kernel)⟩
theorem lw_p14 : lw_okq (⟨"TollTrustees$Grammar", "need", "(I)V"⟩, 5) := ⟨⟨by decide +kernel, by decide +kernel⟩, List.mem_of_getElem? (i := 66) (by decide +kernel), List.mem_of_getElem? (i := 1004) (by decide +kernel), List.mem_of_getElem? (i := 1005) (by decide +kernel)⟩
theorem lw_p15 : lw_okq (⟨"TollTrustees$Grammar", "readOrder", "([I)V"⟩, 5) := ⟨⟨by decide +kernel, by decide +kernel⟩, List.mem_of_getElem? (i := 66) (by decide +kernel), List.mem_of_getElem? (i := 1014) (by decide +kernel), List.mem_of_getElem? (i := 1015) (by decide +kernel)⟩
def lw_privs_1 : List (MethodName × Nat) := [(⟨"TollTrustees$Trust", "brokenMilesIn", "(II)I"⟩, 18), (⟨"java/lang/Throwable", "fillInStackTrace", "(I)Ljava/lang/Throwable;"⟩, 6), (⟨"TollTrustees$Trust", "isFree", "(II)Z"⟩, 18), (⟨"TollTrustees$Trust", "pay", "(II)V"⟩, 18), (⟨"TollTrustees$Trust", "wear", "(II)V"⟩, 18), (⟨"TollTrustees$Trust", "farmOut", "()V"⟩, 18), (⟨"TollTrustees$Trust", "rentByOrders", "(I)I"⟩, 18), (⟨"TollTrustees$Trust", "settleRents", "()V"⟩, 18), (⟨"TollTrustees$Trust", "mendByOrders", "()V"⟩, 18), (⟨"TollTrustees$Trust", "worstMile", "(I)I"⟩, 18), (⟨"TollTrusteesLaw$Sim", "pay", "(II)V"⟩, 9), (⟨"TollTrustees", "append", "(I)V"⟩, 10), (⟨"TollTrustees$Grammar", "readLine", "()V"⟩, 5), (⟨"TollTrustees$Grammar", "needAll", "([I)V"⟩, 5), (⟨"TollTrustees$Grammar", "need", "(I)V"⟩, 5), (⟨"TollTrustees$Grammar", "readOrder", "([I)V"⟩, 5)]
theorem lw_r1 : ∀ q ∈ lw_privs_1, lw_okq q := List.forall_mem_cons.mpr ⟨lw_p0, List.forall_mem_cons.mpr ⟨lw_p1, List.forall_mem_cons.mpr ⟨lw_p2, List.forall_mem_cons.mpr ⟨lw_p3, List.forall_mem_cons.mpr ⟨lw_p4, List.forall_mem_cons.mpr ⟨lw_p5, List.forall_mem_cons.mpr ⟨lw_p6, List.forall_mem_cons.mpr ⟨lw_p7, List.forall_mem_cons.mpr ⟨lw_p8, List.forall_mem_cons.mpr ⟨lw_p9, List.forall_mem_cons.mpr ⟨lw_p10, List.forall_mem_cons.mpr ⟨lw_p11, List.forall_mem_cons.mpr ⟨lw_p12, List.forall_mem_cons.mpr ⟨lw_p13, List.forall_mem_cons.mpr ⟨lw_p14, List.forall_mem_cons.mpr ⟨lw_p15, fun _ h => absurd h List.not_mem_nil⟩⟩⟩⟩⟩⟩⟩⟩⟩⟩⟩⟩⟩⟩⟩⟩
theorem lw_p16 : lw_okq (⟨"TollTrustees$Grammar", "sum", "(I)V"⟩, 5) := ⟨⟨by decide +kernel, by decide +kernel⟩, List.mem_of_getElem? (i := 66) (by decide +kernel), List.mem_of_getElem? (i := 1022) (by decide +kernel), List.mem_of_getElem? (i := 1023) (by decide +kernel)⟩
theorem lw_p17 : lw_okq (⟨"TollTrustees$Grammar", "product", "(I)V"⟩, 5) := ⟨⟨by decide +kernel, by decide +kernel⟩, List.mem_of_getElem? (i := 66) (by decide +kernel), List.mem_of_getElem? (i := 1026) (by decide +kernel), List.mem_of_getElem? (i := 1027) (by decide +kernel)⟩
theorem lw_p18 : lw_okq (⟨"TollTrustees$Grammar", "value", "(I)V"⟩, 5) := ⟨⟨by decide +kernel, by decide +kernel⟩, List.mem_of_getElem? (i := 66) (by decide +kernel), List.mem_of_getElem? (i := 1030) (by decide +kernel), List.mem_of_getElem? (i := 1031) (by decide +kernel)⟩
theorem lw_p19 : lw_okq (⟨"TollTrustees$Grammar", "named", "(I)V"⟩, 5) := ⟨⟨by decide +kernel, by decide +kernel⟩, List.mem_of_getElem? (i := 66) (by decide +kernel), List.mem_of_getElem? (i := 1038) (by decide +kernel), List.mem_of_getElem? (i := 1039) (by decide +kernel)⟩
theorem lw_p20 : lw_okq (⟨"TollTrustees$Grammar", "inBrackets", "(I)V"⟩, 5) := ⟨⟨by decide +kernel, by decide +kernel⟩, List.mem_of_getElem? (i := 66) (by decide +kernel), List.mem_of_getElem? (i := 1042) (by decide +kernel), List.mem_of_getElem? (i := 1043) (by decide +kernel)⟩
theorem lw_p21 : lw_okq (⟨"TollTrustees$Grammar", "needDeeper", "(II)V"⟩, 5) := ⟨⟨by decide +kernel, by decide +kernel⟩, List.mem_of_getElem? (i := 66) (by decide +kernel), List.mem_of_getElem? (i := 1046) (by decide +kernel), List.mem_of_getElem? (i := 1047) (by decide +kernel)⟩
theorem lw_p22 : lw_okq (⟨"TollTrustees$Grammar", "ofTwo", "(II)V"⟩, 5) := ⟨⟨by decide +kernel, by decide +kernel⟩, List.mem_of_getElem? (i := 66) (by decide +kernel), List.mem_of_getElem? (i := 1050) (by decide +kernel), List.mem_of_getElem? (i := 1051) (by decide +kernel)⟩
theorem lw_p23 : lw_okq (⟨"TollTrustees$Grammar", "accept", "(I)Z"⟩, 5) := ⟨⟨by decide +kernel, by decide +kernel⟩, List.mem_of_getElem? (i := 66) (by decide +kernel), List.mem_of_getElem? (i := 1058) (by decide +kernel), List.mem_of_getElem? (i := 1059) (by decide +kernel)⟩
theorem lw_p24 : lw_okq (⟨"TollTrustees$Grammar", "test", "(I)V"⟩, 5) := ⟨⟨by decide +kernel, by decide +kernel⟩, List.mem_of_getElem? (i := 66) (by decide +kernel), List.mem_of_getElem? (i := 1062) (by decide +kernel), List.mem_of_getElem? (i := 1063) (by decide +kernel)⟩
theorem lw_p25 : lw_okq (⟨"TollTrustees$Grammar", "both", "(I)V"⟩, 5) := ⟨⟨by decide +kernel, by decide +kernel⟩, List.mem_of_getElem? (i := 66) (by decide +kernel), List.mem_of_getElem? (i := 1066) (by decide +kernel), List.mem_of_getElem? (i := 1067) (by decide +kernel)⟩
theorem lw_p26 : lw_okq (⟨"TollTrustees$Grammar", "single", "(I)V"⟩, 5) := ⟨⟨by decide +kernel, by decide +kernel⟩, List.mem_of_getElem? (i := 66) (by decide +kernel), List.mem_of_getElem? (i := 1070) (by decide +kernel), List.mem_of_getElem? (i := 1071) (by decide +kernel)⟩
theorem lw_p27 : lw_okq (⟨"TollTrustees$Survey", "lookAtName", "(I)I"⟩, 7) := ⟨⟨by decide +kernel, by decide +kernel⟩, List.mem_of_getElem? (i := 89) (by decide +kernel), List.mem_of_getElem? (i := 1087) (by decide +kernel), List.mem_of_getElem? (i := 1088) (by decide +kernel)⟩
theorem lw_p28 : lw_okq (⟨"TollTrustees$Survey", "tellName", "(I)I"⟩, 7) := ⟨⟨by decide +kernel, by decide +kernel⟩, List.mem_of_getElem? (i := 89) (by decide +kernel), List.mem_of_getElem? (i := 1091) (by decide +kernel), List.mem_of_getElem? (i := 1092) (by decide +kernel)⟩
theorem lw_p29 : lw_okq (⟨"TollTrustees$Survey", "numberOfName", "([II)I"⟩, 7) := ⟨⟨by decide +kernel, by decide +kernel⟩, List.mem_of_getElem? (i := 89) (by decide +kernel), List.mem_of_getElem? (i := 1095) (by decide +kernel), List.mem_of_getElem? (i := 1096) (by decide +kernel)⟩
theorem lw_p30 : lw_okq (⟨"TollTrustees$Survey", "isSameName", "(II)Z"⟩, 7) := ⟨⟨by decide +kernel, by decide +kernel⟩, List.mem_of_getElem? (i := 89) (by decide +kernel), List.mem_of_getElem? (i := 1099) (by decide +kernel), List.mem_of_getElem? (i := 1100) (by decide +kernel)⟩
theorem lw_p31 : lw_okq (⟨"TollTrustees$Survey", "findName", "([II)I"⟩, 7) := ⟨⟨by decide +kernel, by decide +kernel⟩, List.mem_of_getElem? (i := 89) (by decide +kernel), List.mem_of_getElem? (i := 1110) (by decide +kernel), List.mem_of_getElem? (i := 1111) (by decide +kernel)⟩
def lw_privs_2 : List (MethodName × Nat) := [(⟨"TollTrustees$Grammar", "sum", "(I)V"⟩, 5), (⟨"TollTrustees$Grammar", "product", "(I)V"⟩, 5), (⟨"TollTrustees$Grammar", "value", "(I)V"⟩, 5), (⟨"TollTrustees$Grammar", "named", "(I)V"⟩, 5), (⟨"TollTrustees$Grammar", "inBrackets", "(I)V"⟩, 5), (⟨"TollTrustees$Grammar", "needDeeper", "(II)V"⟩, 5), (⟨"TollTrustees$Grammar", "ofTwo", "(II)V"⟩, 5), (⟨"TollTrustees$Grammar", "accept", "(I)Z"⟩, 5), (⟨"TollTrustees$Grammar", "test", "(I)V"⟩, 5), (⟨"TollTrustees$Grammar", "both", "(I)V"⟩, 5), (⟨"TollTrustees$Grammar", "single", "(I)V"⟩, 5), (⟨"TollTrustees$Survey", "lookAtName", "(I)I"⟩, 7), (⟨"TollTrustees$Survey", "tellName", "(I)I"⟩, 7), (⟨"TollTrustees$Survey", "numberOfName", "([II)I"⟩, 7), (⟨"TollTrustees$Survey", "isSameName", "(II)Z"⟩, 7), (⟨"TollTrustees$Survey", "findName", "([II)I"⟩, 7)]
theorem lw_r2 : ∀ q ∈ lw_privs_2, lw_okq q := List.forall_mem_cons.mpr ⟨lw_p16, List.forall_mem_cons.mpr ⟨lw_p17, List.forall_mem_cons.mpr ⟨lw_p18, List.forall_mem_cons.mpr ⟨lw_p19, List.forall_mem_cons.mpr ⟨lw_p20, List.forall_mem_cons.mpr ⟨lw_p21, List.forall_mem_cons.mpr ⟨lw_p22, List.forall_mem_cons.mpr ⟨lw_p23, List.forall_mem_cons.mpr ⟨lw_p24, List.forall_mem_cons.mpr ⟨lw_p25, List.forall_mem_cons.mpr ⟨lw_p26, List.forall_mem_cons.mpr ⟨lw_p27, List.forall_mem_cons.mpr ⟨lw_p28, List.forall_mem_cons.mpr ⟨lw_p29, List.forall_mem_cons.mpr ⟨lw_p30, List.forall_mem_cons.mpr ⟨lw_p31, fun _ h => absurd h List.not_mem_nil⟩⟩⟩⟩⟩⟩⟩⟩⟩⟩⟩⟩⟩⟩⟩⟩
theorem lw_p32 : lw_okq (⟨"TollTrustees$Survey", "lookAtNumber", "(I)I"⟩, 7) := ⟨⟨by decide +kernel, by decide +kernel⟩, List.mem_of_getElem? (i := 89) (by decide +kernel), List.mem_of_getElem? (i := 1114) (by decide +kernel), List.mem_of_getElem? (i := 1115) (by decide +kernel)⟩
theorem lw_p33 : lw_okq (⟨"TollTrustees$Survey", "setDown", "(II)V"⟩, 7) := ⟨⟨by decide +kernel, by decide +kernel⟩, List.mem_of_getElem? (i := 89) (by decide +kernel), List.mem_of_getElem? (i := 1120) (by decide +kernel), List.mem_of_getElem? (i := 1121) (by decide +kernel)⟩
theorem lw_p34 : lw_okq (⟨"TollTrustees", "useDraft", "()V"⟩, 10) := ⟨⟨by decide +kernel, by decide +kernel⟩, List.mem_of_getElem? (i := 29) (by decide +kernel), List.mem_of_getElem? (i := 1138) (by decide +kernel), List.mem_of_getElem? (i := 1139) (by decide +kernel)⟩
def lw_privs_3 : List (MethodName × Nat) := [(⟨"TollTrustees$Survey", "lookAtNumber", "(I)I"⟩, 7), (⟨"TollTrustees$Survey", "setDown", "(II)V"⟩, 7), (⟨"TollTrustees", "useDraft", "()V"⟩, 10)]
theorem lw_r3 : ∀ q ∈ lw_privs_3, lw_okq q := List.forall_mem_cons.mpr ⟨lw_p32, List.forall_mem_cons.mpr ⟨lw_p33, List.forall_mem_cons.mpr ⟨lw_p34, fun _ h => absurd h List.not_mem_nil⟩⟩⟩
def lw_privs : List (MethodName × Nat) := lw_privs_1 ++ (lw_privs_2 ++ (lw_privs_3))
def lw_tbl : List Cond := k2_sels lw_privs ++ tables_1
theorem lw_privs_ok : ∀ q ∈ lw_privs, lw_okq q := by
  show ∀ q ∈ lw_privs_1 ++ (lw_privs_2 ++ (lw_privs_3)), lw_okq q
  exact List.forall_mem_append.mpr ⟨lw_r1, List.forall_mem_append.mpr ⟨lw_r2, lw_r3⟩⟩
/-- the streams that the claim lets the run draw from -/
abbrev lw_cs : List Choice := [Jvm.Choice.named "NaN.bits"]
theorem lw_bits : nanBits ∈ lw_cs := by first | decide | exact List.mem_cons_self | simp [lw_cs, nanBits]
def RX0 : String := "TollTrustees$Grammar"
def TX0 : u_T := fun k => match k with
  | 0 => ("TollTrustees$Grammar", "tokens", "LTollTrustees$Tokens;", true)
  | 1 => ("TollTrustees$Grammar", "orders", "LTollTrustees$Orders;", false)
  | 2 => ("TollTrustees$Grammar", "wrong", "Z", false)
  | 3 => ("TollTrustees$Grammar", "at", "I", false)
  | _ => ("TollTrustees$Grammar", "kind", "I", false)
def tyX0 : Nat → FieldType := fun k => match k with
  | 0 => .object "TollTrustees$Tokens"
  | 1 => .object "TollTrustees$Orders"
  | 2 => .boolean
  | 3 => .int
  | _ => .int
abbrev wsX00 : List Cond := u_ws RX0 TX0 5
theorem nmX0 : ∀ a, a < 5 → ∀ b, b < 5 → a ≠ b → (TX0 a).2.1 ≠ (TX0 b).2.1 := by decide +kernel
theorem tyX0_ok : ∀ k, k < 5 → parseFieldDescriptor (TX0 k).2.2.1 = some (tyX0 k) := by decide +kernel
abbrev cX0_init : ByteArray := prog_2_method_1_code
def yX0_init : MethodName := ⟨RX0, "<init>", "(LTollTrustees$Tokens;)V"⟩
abbrev cX0_read : ByteArray := prog_2_method_2_code
def yX0_read : MethodName := ⟨RX0, "read", "(LTollTrustees$Orders;)I"⟩
abbrev cX0_readLine : ByteArray := prog_2_method_3_code
def yX0_readLine : MethodName := ⟨RX0, "readLine", "()V"⟩
abbrev cX0_readOrder : ByteArray := prog_2_method_4_code
def yX0_readOrder : MethodName := ⟨RX0, "readOrder", "([I)V"⟩
abbrev cX0_test : ByteArray := prog_2_method_5_code
def yX0_test : MethodName := ⟨RX0, "test", "(I)V"⟩
abbrev cX0_both : ByteArray := prog_2_method_6_code
def yX0_both : MethodName := ⟨RX0, "both", "(I)V"⟩
abbrev cX0_single : ByteArray := prog_2_method_7_code
def yX0_single : MethodName := ⟨RX0, "single", "(I)V"⟩
abbrev cX0_sum : ByteArray := prog_2_method_8_code
def yX0_sum : MethodName := ⟨RX0, "sum", "(I)V"⟩
abbrev cX0_product : ByteArray := prog_2_method_9_code
def yX0_product : MethodName := ⟨RX0, "product", "(I)V"⟩
abbrev cX0_value : ByteArray := prog_2_method_10_code
def yX0_value : MethodName := ⟨RX0, "value", "(I)V"⟩
abbrev cX0_named : ByteArray := prog_2_method_11_code
def yX0_named : MethodName := ⟨RX0, "named", "(I)V"⟩
abbrev cX0_inBrackets : ByteArray := prog_2_method_12_code
def yX0_inBrackets : MethodName := ⟨RX0, "inBrackets", "(I)V"⟩
abbrev cX0_ofTwo : ByteArray := prog_2_method_13_code
def yX0_ofTwo : MethodName := ⟨RX0, "ofTwo", "(II)V"⟩
abbrev cX0_accept : ByteArray := prog_2_method_14_code
def yX0_accept : MethodName := ⟨RX0, "accept", "(I)Z"⟩
abbrev cX0_need : ByteArray := prog_2_method_15_code
def yX0_need : MethodName := ⟨RX0, "need", "(I)V"⟩
abbrev cX0_needAll : ByteArray := prog_2_method_16_code
def yX0_needAll : MethodName := ⟨RX0, "needAll", "([I)V"⟩
abbrev cX0_needDeeper : ByteArray := prog_2_method_17_code
def yX0_needDeeper : MethodName := ⟨RX0, "needDeeper", "(II)V"⟩
def RX1 : String := "TollTrustees$Orders"
def TX1 : u_T := fun k => match k with
  | 0 => ("TollTrustees$Orders", "count", "I", false)
  | 1 => ("TollTrustees$Orders", "sort", "[I", true)
  | 2 => ("TollTrustees$Orders", "line", "[I", true)
  | 3 => ("TollTrustees$Orders", "whom", "[I", true)
  | 4 => ("TollTrustees$Orders", "what", "[I", true)
  | 5 => ("TollTrustees$Orders", "sumFrom", "[I", true)
  | 6 => ("TollTrustees$Orders", "testFrom", "[I", true)
  | 7 => ("TollTrustees$Orders", "testTo", "[I", true)
  | 8 => ("TollTrustees$Orders", "operations", "I", false)
  | 9 => ("TollTrustees$Orders", "operation", "[I", true)
  | _ => ("TollTrustees$Orders", "operand", "[I", true)
def tyX1 : Nat → FieldType := fun k => match k with
  | 0 => .int
  | 1 => .array .int
  | 2 => .array .int
  | 3 => .array .int
  | 4 => .array .int
  | 5 => .array .int
  | 6 => .array .int
  | 7 => .array .int
  | 8 => .int
  | 9 => .array .int
  | _ => .array .int
abbrev wsX10 : List Cond := u_ws RX1 TX1 11
theorem nmX1 : ∀ a, a < 11 → ∀ b, b < 11 → a ≠ b → (TX1 a).2.1 ≠ (TX1 b).2.1 := by decide +kernel
theorem tyX1_ok : ∀ k, k < 11 → parseFieldDescriptor (TX1 k).2.2.1 = some (tyX1 k) := by decide +kernel
abbrev cX1_init : ByteArray := prog_3_method_1_code
def yX1_init : MethodName := ⟨RX1, "<init>", "()V"⟩
abbrev cX1_clear : ByteArray := prog_3_method_2_code
def yX1_clear : MethodName := ⟨RX1, "clear", "()V"⟩
abbrev cX1_begin : ByteArray := prog_3_method_3_code
def yX1_begin : MethodName := ⟨RX1, "begin", "(II)I"⟩
abbrev cX1_endSum : ByteArray := prog_3_method_4_code
def yX1_endSum : MethodName := ⟨RX1, "endSum", "(I)V"⟩
abbrev cX1_endTest : ByteArray := prog_3_method_5_code
def yX1_endTest : MethodName := ⟨RX1, "endTest", "(I)V"⟩
abbrev cX1_emit : ByteArray := prog_3_method_6_code
def yX1_emit : MethodName := ⟨RX1, "emit", "(II)V"⟩
abbrev cX1_link : ByteArray := prog_3_method_7_code
def yX1_link : MethodName := ⟨RX1, "link", "(LTollTrustees$Tokens;)V"⟩
def RX2 : String := "TollTrustees$Reckoner"
def TX2 : u_T := fun k => match k with
  | _ => ("TollTrustees$Reckoner", "stack", "[I", true)
def tyX2 : Nat → FieldType := fun k => match k with
  | _ => .array .int
abbrev wsX20 : List Cond := u_ws RX2 TX2 1
theorem nmX2 : ∀ a, a < 1 → ∀ b, b < 1 → a ≠ b → (TX2 a).2.1 ≠ (TX2 b).2.1 := by decide +kernel
theorem tyX2_ok : ∀ k, k < 1 → parseFieldDescriptor (TX2 k).2.2.1 = some (tyX2 k) := by decide +kernel
abbrev cX2_init : ByteArray := prog_4_method_1_code
def yX2_init : MethodName := ⟨RX2, "<init>", "()V"⟩
abbrev cX2_reckon : ByteArray := prog_4_method_2_code
def yX2_reckon : MethodName := ⟨RX2, "reckon", "(LTollTrustees$Trust;II)I"⟩
abbrev cX2_isOfTwo : ByteArray := prog_4_method_3_code
def yX2_isOfTwo : MethodName := ⟨RX2, "isOfTwo", "(I)Z"⟩
abbrev cX2_ofNone : ByteArray := prog_4_method_4_code
def yX2_ofNone : MethodName := ⟨RX2, "ofNone", "(LTollTrustees$Trust;II)I"⟩
abbrev cX2_ofOne : ByteArray := prog_4_method_5_code
def yX2_ofOne : MethodName := ⟨RX2, "ofOne", "(LTollTrustees$Trust;II)I"⟩
abbrev cX2_ofTwo : ByteArray := prog_4_method_6_code
def yX2_ofTwo : MethodName := ⟨RX2, "ofTwo", "(III)I"⟩
def RX3 : String := "TollTrustees$Road"
def TX3 : u_T := fun k => match k with
  | 0 => ("TollTrustees$Road", "stretches", "I", false)
  | 1 => ("TollTrustees$Road", "miles", "I", false)
  | 2 => ("TollTrustees$Road", "gates", "I", false)
  | 3 => ("TollTrustees$Road", "traffics", "I", false)
  | 4 => ("TollTrustees$Road", "stretchMiles", "[I", true)
  | 5 => ("TollTrustees$Road", "firstMile", "[I", true)
  | 6 => ("TollTrustees$Road", "soft", "[I", true)
  | 7 => ("TollTrustees$Road", "mileStretch", "[I", true)
  | 8 => ("TollTrustees$Road", "gateMile", "[I", true)
  | 9 => ("TollTrustees$Road", "gateToll", "[I", true)
  | 10 => ("TollTrustees$Road", "weight", "[I", true)
  | 11 => ("TollTrustees$Road", "firstWheels", "[I", true)
  | 12 => ("TollTrustees$Road", "from", "[I", true)
  | 13 => ("TollTrustees$Road", "to", "[I", true)
  | 14 => ("TollTrustees$Road", "every", "[I", true)
  | _ => ("TollTrustees$Road", "orders", "LTollTrustees$Orders;", true)
def tyX3 : Nat → FieldType := fun k => match k with
  | 0 => .int
  | 1 => .int
  | 2 => .int
  | 3 => .int
  | 4 => .array .int
  | 5 => .array .int
  | 6 => .array .int
  | 7 => .array .int
  | 8 => .array .int
  | 9 => .array .int
  | 10 => .array .int
  | 11 => .array .int
  | 12 => .array .int
  | 13 => .array .int
  | 14 => .array .int
  | _ => .object "TollTrustees$Orders"
abbrev wsX30 : List Cond := u_ws RX3 TX3 16
theorem nmX3 : ∀ a, a < 16 → ∀ b, b < 16 → a ≠ b → (TX3 a).2.1 ≠ (TX3 b).2.1 := by decide +kernel
theorem tyX3_ok : ∀ k, k < 16 → parseFieldDescriptor (TX3 k).2.2.1 = some (tyX3 k) := by decide +kernel
abbrev cX3_init : ByteArray := prog_5_method_1_code
def yX3_init : MethodName := ⟨RX3, "<init>", "()V"⟩
abbrev cX3_clear : ByteArray := prog_5_method_2_code
def yX3_clear : MethodName := ⟨RX3, "clear", "()V"⟩
abbrev cX3_layMiles : ByteArray := prog_5_method_3_code
def yX3_layMiles : MethodName := ⟨RX3, "layMiles", "(II)V"⟩
abbrev cX3_gatesAt : ByteArray := prog_5_method_4_code
def yX3_gatesAt : MethodName := ⟨RX3, "gatesAt", "(I)I"⟩
abbrev cX3_trafficsBy : ByteArray := prog_5_method_5_code
def yX3_trafficsBy : MethodName := ⟨RX3, "trafficsBy", "(I)I"⟩
def RX4 : String := "TollTrustees$Survey"
def TX4 : u_T := fun k => match k with
  | 0 => ("TollTrustees$Survey", "tokens", "LTollTrustees$Tokens;", true)
  | 1 => ("TollTrustees$Survey", "tape", "[B", true)
  | 2 => ("TollTrustees$Survey", "road", "LTollTrustees$Road;", false)
  | 3 => ("TollTrustees$Survey", "stretchNames", "[I", true)
  | 4 => ("TollTrustees$Survey", "gateNames", "[I", true)
  | 5 => ("TollTrustees$Survey", "trafficNames", "[I", true)
  | _ => ("TollTrustees$Survey", "at", "I", false)
def tyX4 : Nat → FieldType := fun k => match k with
  | 0 => .object "TollTrustees$Tokens"
  | 1 => .array .byte
  | 2 => .object "TollTrustees$Road"
  | 3 => .array .int
  | 4 => .array .int
  | 5 => .array .int
  | _ => .int
abbrev wsX40 : List Cond := u_ws RX4 TX4 7
theorem nmX4 : ∀ a, a < 7 → ∀ b, b < 7 → a ≠ b → (TX4 a).2.1 ≠ (TX4 b).2.1 := by decide +kernel
theorem tyX4_ok : ∀ k, k < 7 → parseFieldDescriptor (TX4 k).2.2.1 = some (tyX4 k) := by decide +kernel
abbrev cX4_init : ByteArray := prog_6_method_1_code
def yX4_init : MethodName := ⟨RX4, "<init>", "(LTollTrustees$Tokens;[B)V"⟩
abbrev cX4_look : ByteArray := prog_6_method_2_code
def yX4_look : MethodName := ⟨RX4, "look", "(LTollTrustees$Road;)I"⟩
abbrev cX4_lookAtName : ByteArray := prog_6_method_3_code
def yX4_lookAtName : MethodName := ⟨RX4, "lookAtName", "(I)I"⟩
abbrev cX4_tellName : ByteArray := prog_6_method_4_code
def yX4_tellName : MethodName := ⟨RX4, "tellName", "(I)I"⟩
abbrev cX4_findName : ByteArray := prog_6_method_5_code
def yX4_findName : MethodName := ⟨RX4, "findName", "([II)I"⟩
abbrev cX4_numberOfName : ByteArray := prog_6_method_6_code
def yX4_numberOfName : MethodName := ⟨RX4, "numberOfName", "([II)I"⟩
abbrev cX4_isSameName : ByteArray := prog_6_method_7_code
def yX4_isSameName : MethodName := ⟨RX4, "isSameName", "(II)Z"⟩
abbrev cX4_lookAtNumber : ByteArray := prog_6_method_8_code
def yX4_lookAtNumber : MethodName := ⟨RX4, "lookAtNumber", "(I)I"⟩
abbrev cX4_setDown : ByteArray := prog_6_method_9_code
def yX4_setDown : MethodName := ⟨RX4, "setDown", "(II)V"⟩
abbrev cX4_put : ByteArray := prog_6_method_10_code
def yX4_put : MethodName := ⟨RX4, "put", "([III)V"⟩
def RX5 : String := "TollTrustees$Tokens"
def TX5 : u_T := fun k => match k with
  | 0 => ("TollTrustees$Tokens", "kind", "[I", true)
  | 1 => ("TollTrustees$Tokens", "place", "[I", true)
  | 2 => ("TollTrustees$Tokens", "length", "[I", true)
  | 3 => ("TollTrustees$Tokens", "value", "[I", true)
  | _ => ("TollTrustees$Tokens", "count", "I", false)
def tyX5 : Nat → FieldType := fun k => match k with
  | 0 => .array .int
  | 1 => .array .int
  | 2 => .array .int
  | 3 => .array .int
  | _ => .int
abbrev wsX50 : List Cond := u_ws RX5 TX5 5
theorem nmX5 : ∀ a, a < 5 → ∀ b, b < 5 → a ≠ b → (TX5 a).2.1 ≠ (TX5 b).2.1 := by decide +kernel
theorem tyX5_ok : ∀ k, k < 5 → parseFieldDescriptor (TX5 k).2.2.1 = some (tyX5 k) := by decide +kernel
abbrev cX5_init : ByteArray := prog_7_method_1_code
def yX5_init : MethodName := ⟨RX5, "<init>", "()V"⟩
abbrev cX5_cut : ByteArray := prog_7_method_2_code
def yX5_cut : MethodName := ⟨RX5, "cut", "([BI)V"⟩
abbrev cX5_kindOf : ByteArray := prog_7_method_3_code
def yX5_kindOf : MethodName := ⟨RX5, "kindOf", "(I)I"⟩
abbrev cX5_placeOf : ByteArray := prog_7_method_4_code
def yX5_placeOf : MethodName := ⟨RX5, "placeOf", "(I)I"⟩
abbrev cX5_behindBlanks : ByteArray := prog_7_method_5_code
def yX5_behindBlanks : MethodName := ⟨RX5, "behindBlanks", "([BII)I"⟩
abbrev cX5_lengthAt : ByteArray := prog_7_method_6_code
def yX5_lengthAt : MethodName := ⟨RX5, "lengthAt", "([BII)I"⟩
abbrev cX5_kindAt : ByteArray := prog_7_method_7_code
def yX5_kindAt : MethodName := ⟨RX5, "kindAt", "([BIII)I"⟩
abbrev cX5_wordKind : ByteArray := prog_7_method_8_code
def yX5_wordKind : MethodName := ⟨RX5, "wordKind", "([BII)I"⟩
abbrev cX5_isKeyword : ByteArray := prog_7_method_9_code
def yX5_isKeyword : MethodName := ⟨RX5, "isKeyword", "([BIII)Z"⟩
abbrev cX5_numberAt : ByteArray := prog_7_method_10_code
def yX5_numberAt : MethodName := ⟨RX5, "numberAt", "([BII)I"⟩
abbrev cX5_byteAt : ByteArray := prog_7_method_11_code
def yX5_byteAt : MethodName := ⟨RX5, "byteAt", "([BII)I"⟩
abbrev cX5_isLetter : ByteArray := prog_7_method_12_code
def yX5_isLetter : MethodName := ⟨RX5, "isLetter", "(I)Z"⟩
abbrev cX5_isDigit : ByteArray := prog_7_method_13_code
def yX5_isDigit : MethodName := ⟨RX5, "isDigit", "(I)Z"⟩
abbrev cX5_isLetterOrDigit : ByteArray := prog_7_method_14_code
def yX5_isLetterOrDigit : MethodName := ⟨RX5, "isLetterOrDigit", "(I)Z"⟩
abbrev cX5_isSymbol : ByteArray := prog_7_method_15_code
def yX5_isSymbol : MethodName := ⟨RX5, "isSymbol", "(I)Z"⟩
def RX6 : String := "TollTrustees$Trust"
def TX6 : u_T := fun k => match k with
  | 0 => ("TollTrustees$Trust", "reckoner", "LTollTrustees$Reckoner;", true)
  | 1 => ("TollTrustees$Trust", "road", "LTollTrustees$Road;", false)
  | 2 => ("TollTrustees$Trust", "day", "I", false)
  | 3 => ("TollTrustees$Trust", "coins", "I", false)
  | 4 => ("TollTrustees$Trust", "condition", "[I", true)
  | 5 => ("TollTrustees$Trust", "worn", "[I", true)
  | 6 => ("TollTrustees$Trust", "spent", "[I", true)
  | 7 => ("TollTrustees$Trust", "toll", "[I", true)
  | 8 => ("TollTrustees$Trust", "taken", "[I", true)
  | 9 => ("TollTrustees$Trust", "gain", "[I", true)
  | 10 => ("TollTrustees$Trust", "rent", "[I", true)
  | 11 => ("TollTrustees$Trust", "farmersTake", "[I", true)
  | 12 => ("TollTrustees$Trust", "wheels", "[I", true)
  | 13 => ("TollTrustees$Trust", "passed", "[I", true)
  | 14 => ("TollTrustees$Trust", "turned", "[I", true)
  | 15 => ("TollTrustees$Trust", "paid", "[I", true)
  | 16 => ("TollTrustees$Trust", "letGate", "I", false)
  | _ => ("TollTrustees$Trust", "letRent", "I", false)
def tyX6 : Nat → FieldType := fun k => match k with
  | 0 => .object "TollTrustees$Reckoner"
  | 1 => .object "TollTrustees$Road"
  | 2 => .int
  | 3 => .int
  | 4 => .array .int
  | 5 => .array .int
  | 6 => .array .int
  | 7 => .array .int
  | 8 => .array .int
  | 9 => .array .int
  | 10 => .array .int
  | 11 => .array .int
  | 12 => .array .int
  | 13 => .array .int
  | 14 => .array .int
  | 15 => .array .int
  | 16 => .int
  | _ => .int
abbrev wsX60 : List Cond := u_ws RX6 TX6 18
theorem nmX6 : ∀ a, a < 18 → ∀ b, b < 18 → a ≠ b → (TX6 a).2.1 ≠ (TX6 b).2.1 := by decide +kernel
theorem tyX6_ok : ∀ k, k < 18 → parseFieldDescriptor (TX6 k).2.2.1 = some (tyX6 k) := by decide +kernel
abbrev cX6_init : ByteArray := prog_8_method_1_code
def yX6_init : MethodName := ⟨RX6, "<init>", "(LTollTrustees$Road;LTollTrustees$Reckoner;)V"⟩
abbrev cX6_begin : ByteArray := prog_8_method_2_code
def yX6_begin : MethodName := ⟨RX6, "begin", "(LTollTrustees$Road;)V"⟩
abbrev cX6_copyFrom : ByteArray := prog_8_method_3_code
def yX6_copyFrom : MethodName := ⟨RX6, "copyFrom", "(LTollTrustees$Trust;)V"⟩
abbrev cX6_total : ByteArray := prog_8_method_4_code
def yX6_total : MethodName := ⟨RX6, "total", "(I)I"⟩
abbrev cX6_brokenMilesIn : ByteArray := prog_8_method_5_code
def yX6_brokenMilesIn : MethodName := ⟨RX6, "brokenMilesIn", "(II)I"⟩
abbrev cX6_brokenMilesOf : ByteArray := prog_8_method_6_code
def yX6_brokenMilesOf : MethodName := ⟨RX6, "brokenMilesOf", "(I)I"⟩
abbrev cX6_leastCondition : ByteArray := prog_8_method_7_code
def yX6_leastCondition : MethodName := ⟨RX6, "leastCondition", "(I)I"⟩
abbrev cX6_worstMile : ByteArray := prog_8_method_8_code
def yX6_worstMile : MethodName := ⟨RX6, "worstMile", "(I)I"⟩
abbrev cX6_tollOf : ByteArray := prog_8_method_9_code
def yX6_tollOf : MethodName := ⟨RX6, "tollOf", "(II)I"⟩
abbrev cX6_keepCoinsInBounds : ByteArray := prog_8_method_10_code
def yX6_keepCoinsInBounds : MethodName := ⟨RX6, "keepCoinsInBounds", "()V"⟩
abbrev cX6_spend : ByteArray := prog_8_method_11_code
def yX6_spend : MethodName := ⟨RX6, "spend", "(II)I"⟩
abbrev cX6_letGo : ByteArray := prog_8_method_12_code
def yX6_letGo : MethodName := ⟨RX6, "letGo", "(I)I"⟩
abbrev cX6_farmOut : ByteArray := prog_8_method_13_code
def yX6_farmOut : MethodName := ⟨RX6, "farmOut", "()V"⟩
abbrev cX6_rentByOrders : ByteArray := prog_8_method_14_code
def yX6_rentByOrders : MethodName := ⟨RX6, "rentByOrders", "(I)I"⟩
abbrev cX6_travel : ByteArray := prog_8_method_15_code
def yX6_travel : MethodName := ⟨RX6, "travel", "(I)I"⟩
abbrev cX6_isFree : ByteArray := prog_8_method_16_code
def yX6_isFree : MethodName := ⟨RX6, "isFree", "(II)Z"⟩
abbrev cX6_pay : ByteArray := prog_8_method_17_code
def yX6_pay : MethodName := ⟨RX6, "pay", "(II)V"⟩
abbrev cX6_wear : ByteArray := prog_8_method_18_code
def yX6_wear : MethodName := ⟨RX6, "wear", "(II)V"⟩
abbrev cX6_settleRents : ByteArray := prog_8_method_19_code
def yX6_settleRents : MethodName := ⟨RX6, "settleRents", "()V"⟩
abbrev cX6_mendByOrders : ByteArray := prog_8_method_20_code
def yX6_mendByOrders : MethodName := ⟨RX6, "mendByOrders", "()V"⟩
def RX7 : String := "TollTrustees"
def TX7 : u_T := fun k => match k with
  | 0 => ("TollTrustees", "tape", "[B", true)
  | 1 => ("TollTrustees", "bytes", "I", false)
  | 2 => ("TollTrustees", "errorPlace", "I", false)
  | 3 => ("TollTrustees", "tokens", "LTollTrustees$Tokens;", true)
  | 4 => ("TollTrustees", "grammar", "LTollTrustees$Grammar;", true)
  | 5 => ("TollTrustees", "survey", "LTollTrustees$Survey;", true)
  | 6 => ("TollTrustees", "now", "LTollTrustees$Trust;", true)
  | 7 => ("TollTrustees", "trial", "LTollTrustees$Trust;", true)
  | 8 => ("TollTrustees", "road", "LTollTrustees$Road;", false)
  | _ => ("TollTrustees", "draft", "LTollTrustees$Road;", false)
def tyX7 : Nat → FieldType := fun k => match k with
  | 0 => .array .byte
  | 1 => .int
  | 2 => .int
  | 3 => .object "TollTrustees$Tokens"
  | 4 => .object "TollTrustees$Grammar"
  | 5 => .object "TollTrustees$Survey"
  | 6 => .object "TollTrustees$Trust"
  | 7 => .object "TollTrustees$Trust"
  | 8 => .object "TollTrustees$Road"
  | _ => .object "TollTrustees$Road"
abbrev wsX70 : List Cond := u_ws RX7 TX7 10
theorem nmX7 : ∀ a, a < 10 → ∀ b, b < 10 → a ≠ b → (TX7 a).2.1 ≠ (TX7 b).2.1 := by decide +kernel
theorem tyX7_ok : ∀ k, k < 10 → parseFieldDescriptor (TX7 k).2.2.1 = some (tyX7 k) := by decide +kernel
abbrev cX7_init : ByteArray := prog_1_method_1_code
def yX7_init : MethodName := ⟨RX7, "<init>", "()V"⟩
abbrev cX7_feed : ByteArray := prog_1_method_2_code
def yX7_feed : MethodName := ⟨RX7, "feed", "(IIIII)I"⟩
abbrev cX7_append : ByteArray := prog_1_method_3_code
def yX7_append : MethodName := ⟨RX7, "append", "(I)V"⟩
abbrev cX7_trim : ByteArray := prog_1_method_4_code
def yX7_trim : MethodName := ⟨RX7, "trim", "(I)I"⟩
abbrev cX7_teach : ByteArray := prog_1_method_5_code
def yX7_teach : MethodName := ⟨RX7, "teach", "()I"⟩
abbrev cX7_useDraft : ByteArray := prog_1_method_6_code
def yX7_useDraft : MethodName := ⟨RX7, "useDraft", "()V"⟩
abbrev cX7_count : ByteArray := prog_1_method_8_code
def yX7_count : MethodName := ⟨RX7, "count", "(I)I"⟩
abbrev cX7_mile : ByteArray := prog_1_method_9_code
def yX7_mile : MethodName := ⟨RX7, "mile", "(II)I"⟩
abbrev cX7_stretch : ByteArray := prog_1_method_10_code
def yX7_stretch : MethodName := ⟨RX7, "stretch", "(II)I"⟩
abbrev cX7_gate : ByteArray := prog_1_method_11_code
def yX7_gate : MethodName := ⟨RX7, "gate", "(II)I"⟩
abbrev cX7_traffic : ByteArray := prog_1_method_12_code
def yX7_traffic : MethodName := ⟨RX7, "traffic", "(II)I"⟩
abbrev cX7_toll : ByteArray := prog_1_method_13_code
def yX7_toll : MethodName := ⟨RX7, "toll", "(II)I"⟩
abbrev cX7_journey : ByteArray := prog_1_method_14_code
def yX7_journey : MethodName := ⟨RX7, "journey", "(II)I"⟩
abbrev cX7_worst : ByteArray := prog_1_method_15_code
def yX7_worst : MethodName := ⟨RX7, "worst", "()I"⟩
abbrev cX7_setToll : ByteArray := prog_1_method_16_code
def yX7_setToll : MethodName := ⟨RX7, "setToll", "(II)I"⟩
abbrev cX7_setWheels : ByteArray := prog_1_method_17_code
def yX7_setWheels : MethodName := ⟨RX7, "setWheels", "(II)I"⟩
abbrev cX7_mend : ByteArray := prog_1_method_18_code
def yX7_mend : MethodName := ⟨RX7, "mend", "(II)I"⟩
abbrev cX7_grant : ByteArray := prog_1_method_19_code
def yX7_grant : MethodName := ⟨RX7, "grant", "(I)I"⟩
abbrev cX7_pass : ByteArray := prog_1_method_20_code
def yX7_pass : MethodName := ⟨RX7, "pass", "(I)I"⟩
abbrev cX7_until : ByteArray := prog_1_method_21_code
def yX7_until : MethodName := ⟨RX7, "until", "(I)I"⟩
abbrev cX7_foresee : ByteArray := prog_1_method_22_code
def yX7_foresee : MethodName := ⟨RX7, "foresee", "(II)I"⟩
abbrev cX7_advise : ByteArray := prog_1_method_23_code
def yX7_advise : MethodName := ⟨RX7, "advise", "(II)I"⟩
abbrev cX7_widen : ByteArray := prog_1_method_24_code
def yX7_widen : MethodName := ⟨RX7, "widen", "(I)I"⟩
abbrev cX7_mean : ByteArray := prog_1_method_25_code
def yX7_mean : MethodName := ⟨RX7, "mean", "()D"⟩
abbrev cX7_digest : ByteArray := prog_1_method_26_code
def yX7_digest : MethodName := ⟨RX7, "digest", "()J"⟩
abbrev cX7_isOutside : ByteArray := prog_1_method_27_code
def yX7_isOutside : MethodName := ⟨RX7, "isOutside", "(II)Z"⟩
abbrev cX7_valueAt : ByteArray := prog_1_method_28_code
def yX7_valueAt : MethodName := ⟨RX7, "valueAt", "([II)I"⟩
abbrev cX7_sumOf : ByteArray := prog_1_method_29_code
def yX7_sumOf : MethodName := ⟨RX7, "sumOf", "([II)I"⟩
def RX8 : String := "TollTrusteesLaw$Sim"
def TX8 : u_T := fun k => match k with
  | 0 => ("TollTrusteesLaw$Sim", "day", "I", false)
  | 1 => ("TollTrusteesLaw$Sim", "coins", "I", false)
  | 2 => ("TollTrusteesLaw$Sim", "stretches", "[[I", false)
  | 3 => ("TollTrusteesLaw$Sim", "miles", "[[I", false)
  | 4 => ("TollTrusteesLaw$Sim", "gates", "[[I", false)
  | 5 => ("TollTrusteesLaw$Sim", "traffics", "[[I", false)
  | 6 => ("TollTrusteesLaw$Sim", "orders", "[[I", false)
  | 7 => ("TollTrusteesLaw$Sim", "forced", "I", false)
  | _ => ("TollTrusteesLaw$Sim", "forcedRent", "I", false)
def tyX8 : Nat → FieldType := fun k => match k with
  | 0 => .int
  | 1 => .int
  | 2 => .array (.array .int)
  | 3 => .array (.array .int)
  | 4 => .array (.array .int)
  | 5 => .array (.array .int)
  | 6 => .array (.array .int)
  | 7 => .int
  | _ => .int
abbrev wsX80 : List Cond := u_ws RX8 TX8 9
theorem nmX8 : ∀ a, a < 9 → ∀ b, b < 9 → a ≠ b → (TX8 a).2.1 ≠ (TX8 b).2.1 := by decide +kernel
theorem tyX8_ok : ∀ k, k < 9 → parseFieldDescriptor (TX8 k).2.2.1 = some (tyX8 k) := by decide +kernel
abbrev cX8_init : ByteArray := prog_10_method_1_code
def yX8_init : MethodName := ⟨RX8, "<init>", "()V"⟩
abbrev cX8_condition : ByteArray := prog_10_method_2_code
def yX8_condition : MethodName := ⟨RX8, "condition", "(I)I"⟩
abbrev cX8_least : ByteArray := prog_10_method_3_code
def yX8_least : MethodName := ⟨RX8, "least", "(I)I"⟩
abbrev cX8_broken : ByteArray := prog_10_method_4_code
def yX8_broken : MethodName := ⟨RX8, "broken", "(I)I"⟩
abbrev cX8_all : ByteArray := prog_10_method_5_code
def yX8_all : MethodName := ⟨RX8, "all", "()I"⟩
abbrev cX8_sum : ByteArray := prog_10_method_6_code
def yX8_sum : MethodName := ⟨RX8, "sum", "([I)I"⟩
abbrev cX8_holds : ByteArray := prog_10_method_7_code
def yX8_holds : MethodName := ⟨RX8, "holds", "([I)Z"⟩
abbrev cX8_toll : ByteArray := prog_10_method_8_code
def yX8_toll : MethodName := ⟨RX8, "toll", "(II)I"⟩
abbrev cX8_pay : ByteArray := prog_10_method_9_code
def yX8_pay : MethodName := ⟨RX8, "pay", "(II)V"⟩
abbrev cX8_go : ByteArray := prog_10_method_10_code
def yX8_go : MethodName := ⟨RX8, "go", "(I)I"⟩
abbrev cX8_mend : ByteArray := prog_10_method_11_code
def yX8_mend : MethodName := ⟨RX8, "mend", "(II)I"⟩
abbrev cX8_pass : ByteArray := prog_10_method_12_code
def yX8_pass : MethodName := ⟨RX8, "pass", "()V"⟩
abbrev cX8_on : ByteArray := prog_10_method_13_code
def yX8_on : MethodName := ⟨RX8, "on", "(I)LTollTrusteesLaw$Sim;"⟩
abbrev cX8_same : ByteArray := prog_10_method_14_code
def yX8_same : MethodName := ⟨RX8, "same", "([[I)[[I"⟩
abbrev cX8_copy : ByteArray := prog_10_method_15_code
def yX8_copy : MethodName := ⟨RX8, "copy", "()LTollTrusteesLaw$Sim;"⟩
abbrev cX8_passed : ByteArray := prog_10_method_16_code
def yX8_passed : MethodName := ⟨RX8, "passed", "()I"⟩
abbrev cX8_counts : ByteArray := prog_10_method_17_code
def yX8_counts : MethodName := ⟨RX8, "counts", "()[I"⟩
abbrev cX8_isSame : ByteArray := prog_10_method_18_code
def yX8_isSame : MethodName := ⟨RX8, "isSame", "(LTollTrustees;)Z"⟩
def RX9 : String := "TollTrusteesModel$Sheet"
def TX9 : u_T := fun k => match k with
  | _ => ("", "", "", false)
def tyX9 : Nat → FieldType := fun k => match k with
  | _ => .int
abbrev wsX90 : List Cond := u_ws RX9 TX9 0
theorem nmX9 : ∀ a, a < 0 → ∀ b, b < 0 → a ≠ b → (TX9 a).2.1 ≠ (TX9 b).2.1 := by decide +kernel
theorem tyX9_ok : ∀ k, k < 0 → parseFieldDescriptor (TX9 k).2.2.1 = some (tyX9 k) := by decide +kernel
def RX10 : String := "TollTrusteesModel$State"
def TX10 : u_T := fun k => match k with
  | _ => ("", "", "", false)
def tyX10 : Nat → FieldType := fun k => match k with
  | _ => .int
abbrev wsX100 : List Cond := u_ws RX10 TX10 0
theorem nmX10 : ∀ a, a < 0 → ∀ b, b < 0 → a ≠ b → (TX10 a).2.1 ≠ (TX10 b).2.1 := by decide +kernel
theorem tyX10_ok : ∀ k, k < 0 → parseFieldDescriptor (TX10 k).2.2.1 = some (tyX10 k) := by decide +kernel
def RX11 : String := "TollTrusteesModel"
def TX11 : u_T := fun k => match k with
  | _ => ("", "", "", false)
def tyX11 : Nat → FieldType := fun k => match k with
  | _ => .int
abbrev wsX110 : List Cond := u_ws RX11 TX11 0
theorem nmX11 : ∀ a, a < 0 → ∀ b, b < 0 → a ≠ b → (TX11 a).2.1 ≠ (TX11 b).2.1 := by decide +kernel
theorem tyX11_ok : ∀ k, k < 0 → parseFieldDescriptor (TX11 k).2.2.1 = some (tyX11 k) := by decide +kernel
def RJ5 : String := "java/lang/AbstractStringBuilder"
def TJ5 : u_T := fun k => match k with
  | _ => ("", "", "", false)
def tyJ5 : Nat → FieldType := fun k => match k with
  | _ => .int
abbrev wsJ50 : List Cond := u_ws RJ5 TJ5 0
theorem nmJ5 : ∀ a, a < 0 → ∀ b, b < 0 → a ≠ b → (TJ5 a).2.1 ≠ (TJ5 b).2.1 := by decide +kernel
theorem tyJ5_ok : ∀ k, k < 0 → parseFieldDescriptor (TJ5 k).2.2.1 = some (tyJ5 k) := by decide +kernel
abbrev cJ5_init_d00df : ByteArray := prog_14_method_2_code
def yJ5_init_d00df : MethodName := ⟨RJ5, "<init>", "(I)V"⟩
abbrev cJ5_length_8abf5 : ByteArray := prog_14_method_6_code
def yJ5_length_8abf5 : MethodName := ⟨RJ5, "length", "()I"⟩
abbrev cJ5_ensureCapacityInternal_d00df : ByteArray := prog_14_method_9_code
def yJ5_ensureCapacityInternal_d00df : MethodName := ⟨RJ5, "ensureCapacityInternal", "(I)V"⟩
abbrev cJ5_newCapacity_0f7a4 : ByteArray := prog_14_method_10_code
def yJ5_newCapacity_0f7a4 : MethodName := ⟨RJ5, "newCapacity", "(I)I"⟩
abbrev cJ5_inflate_da8c8 : ByteArray := prog_14_method_11_code
def yJ5_inflate_da8c8 : MethodName := ⟨RJ5, "inflate", "()V"⟩
abbrev cJ5_append_cf1ce : ByteArray := prog_14_method_22_code
def yJ5_append_cf1ce : MethodName := ⟨RJ5, "append", "(Ljava/lang/String;)Ljava/lang/AbstractStringBuilder;"⟩
abbrev cJ5_appendNull_278bc : ByteArray := prog_14_method_26_code
def yJ5_appendNull_278bc : MethodName := ⟨RJ5, "appendNull", "()Ljava/lang/AbstractStringBuilder;"⟩
abbrev cJ5_append_c97b9 : ByteArray := prog_14_method_32_code
def yJ5_append_c97b9 : MethodName := ⟨RJ5, "append", "(I)Ljava/lang/AbstractStringBuilder;"⟩
abbrev cJ5_getValue_6d5f1 : ByteArray := prog_14_method_64_code
def yJ5_getValue_6d5f1 : MethodName := ⟨RJ5, "getValue", "()[B"⟩
abbrev cJ5_isLatin1_aae02 : ByteArray := prog_14_method_68_code
def yJ5_isLatin1_aae02 : MethodName := ⟨RJ5, "isLatin1", "()Z"⟩
abbrev cJ5_inflateIfNeededFor_a7421 : ByteArray := prog_14_method_71_code
def yJ5_inflateIfNeededFor_a7421 : MethodName := ⟨RJ5, "inflateIfNeededFor", "(Ljava/lang/String;)V"⟩
abbrev cJ5_putStringAt_47b60 : ByteArray := prog_14_method_73_code
def yJ5_putStringAt_47b60 : MethodName := ⟨RJ5, "putStringAt", "(ILjava/lang/String;)V"⟩
def RJ11 : String := "java/lang/Character"
def TJ11 : u_T := fun k => match k with
  | _ => ("", "", "", false)
def tyJ11 : Nat → FieldType := fun k => match k with
  | _ => .int
abbrev wsJ110 : List Cond := u_ws RJ11 TJ11 0
theorem nmJ11 : ∀ a, a < 0 → ∀ b, b < 0 → a ≠ b → (TJ11 a).2.1 ≠ (TJ11 b).2.1 := by decide +kernel
theorem tyJ11_ok : ∀ k, k < 0 → parseFieldDescriptor (TJ11 k).2.2.1 = some (tyJ11 k) := by decide +kernel
abbrev cJ11_isValidCodePoint_9a6ad : ByteArray := prog_15_method_11_code
def yJ11_isValidCodePoint_9a6ad : MethodName := ⟨RJ11, "isValidCodePoint", "(I)Z"⟩
abbrev cJ11_highSurrogate_5068e : ByteArray := prog_15_method_28_code
def yJ11_highSurrogate_5068e : MethodName := ⟨RJ11, "highSurrogate", "(I)C"⟩
abbrev cJ11_lowSurrogate_5068e : ByteArray := prog_15_method_29_code
def yJ11_lowSurrogate_5068e : MethodName := ⟨RJ11, "lowSurrogate", "(I)C"⟩
def RJx8e188 : String := "java/lang/Cloneable"
def TJx8e188 : u_T := fun k => match k with
  | _ => ("", "", "", false)
def tyJx8e188 : Nat → FieldType := fun k => match k with
  | _ => .int
abbrev wsJx8e1880 : List Cond := u_ws RJx8e188 TJx8e188 0
theorem nmJx8e188 : ∀ a, a < 0 → ∀ b, b < 0 → a ≠ b → (TJx8e188 a).2.1 ≠ (TJx8e188 b).2.1 := by decide +kernel
theorem tyJx8e188_ok : ∀ k, k < 0 → parseFieldDescriptor (TJx8e188 k).2.2.1 = some (tyJx8e188 k) := by decide +kernel
def RJ6 : String := "java/lang/Integer"
def TJ6 : u_T := fun k => match k with
  | _ => ("", "", "", false)
def tyJ6 : Nat → FieldType := fun k => match k with
  | _ => .int
abbrev wsJ60 : List Cond := u_ws RJ6 TJ6 0
theorem nmJ6 : ∀ a, a < 0 → ∀ b, b < 0 → a ≠ b → (TJ6 a).2.1 ≠ (TJ6 b).2.1 := by decide +kernel
theorem tyJ6_ok : ∀ k, k < 0 → parseFieldDescriptor (TJ6 k).2.2.1 = some (tyJ6 k) := by decide +kernel
abbrev cJ6_getChars_ba4f3 : ByteArray := prog_21_method_12_code
def yJ6_getChars_ba4f3 : MethodName := ⟨RJ6, "getChars", "(II[B)I"⟩
abbrev cJ6_stringSize_0f7a4 : ByteArray := prog_21_method_13_code
def yJ6_stringSize_0f7a4 : MethodName := ⟨RJ6, "stringSize", "(I)I"⟩
def RJ9 : String := "java/lang/Math"
def TJ9 : u_T := fun k => match k with
  | _ => ("", "", "", false)
def tyJ9 : Nat → FieldType := fun k => match k with
  | _ => .int
abbrev wsJ90 : List Cond := u_ws RJ9 TJ9 0
theorem nmJ9 : ∀ a, a < 0 → ∀ b, b < 0 → a ≠ b → (TJ9 a).2.1 ≠ (TJ9 b).2.1 := by decide +kernel
theorem tyJ9_ok : ∀ k, k < 0 → parseFieldDescriptor (TJ9 k).2.2.1 = some (tyJ9 k) := by decide +kernel
abbrev cJ9_abs_0f7a4 : ByteArray := prog_22_method_59_code
def yJ9_abs_0f7a4 : MethodName := ⟨RJ9, "abs", "(I)I"⟩
abbrev cJ9_max_7cf53 : ByteArray := prog_22_method_65_code
def yJ9_max_7cf53 : MethodName := ⟨RJ9, "max", "(II)I"⟩
abbrev cJ9_min_7cf53 : ByteArray := prog_22_method_69_code
def yJ9_min_7cf53 : MethodName := ⟨RJ9, "min", "(II)I"⟩
def RJ0 : String := "java/lang/String"
def TJ0 : u_T := fun k => match k with
  | 0 => ("java/lang/String", "value", "[B", true)
  | 1 => ("java/lang/String", "coder", "B", true)
  | 2 => ("java/lang/String", "hash", "I", false)
  | _ => ("java/lang/String", "hashIsZero", "Z", false)
def tyJ0 : Nat → FieldType := fun k => match k with
  | 0 => .array .byte
  | 1 => .byte
  | 2 => .int
  | _ => .boolean
abbrev wsJ00 : List Cond := u_ws RJ0 TJ0 4
theorem nmJ0 : ∀ a, a < 4 → ∀ b, b < 4 → a ≠ b → (TJ0 a).2.1 ≠ (TJ0 b).2.1 := by decide +kernel
theorem tyJ0_ok : ∀ k, k < 4 → parseFieldDescriptor (TJ0 k).2.2.1 = some (tyJ0 k) := by decide +kernel
abbrev cJ0_init_81219 : ByteArray := prog_24_method_53_code
def yJ0_init_81219 : MethodName := ⟨RJ0, "<init>", "(Ljava/lang/StringBuilder;)V"⟩
abbrev cJ0_length_8abf5 : ByteArray := prog_24_method_54_code
def yJ0_length_8abf5 : MethodName := ⟨RJ0, "length", "()I"⟩
abbrev cJ0_charAt_5068e : ByteArray := prog_24_method_56_code
def yJ0_charAt_5068e : MethodName := ⟨RJ0, "charAt", "(I)C"⟩
abbrev cJ0_indexOf_0f7a4 : ByteArray := prog_24_method_79_code
def yJ0_indexOf_0f7a4 : MethodName := ⟨RJ0, "indexOf", "(I)I"⟩
abbrev cJ0_indexOf_7cf53 : ByteArray := prog_24_method_80_code
def yJ0_indexOf_7cf53 : MethodName := ⟨RJ0, "indexOf", "(II)I"⟩
abbrev cJ0_getBytes_840e7 : ByteArray := prog_24_method_147_code
def yJ0_getBytes_840e7 : MethodName := ⟨RJ0, "getBytes", "([BIB)V"⟩
abbrev cJ0_init_db425 : ByteArray := prog_24_method_150_code
def yJ0_init_db425 : MethodName := ⟨RJ0, "<init>", "(Ljava/lang/AbstractStringBuilder;Ljava/lang/Void;)V"⟩
abbrev cJ0_coder_7d493 : ByteArray := prog_24_method_152_code
def yJ0_coder_7d493 : MethodName := ⟨RJ0, "coder", "()B"⟩
abbrev cJ0_isLatin1_aae02 : ByteArray := prog_24_method_154_code
def yJ0_isLatin1_aae02 : MethodName := ⟨RJ0, "isLatin1", "()Z"⟩
abbrev cJ0_checkIndex_df160 : ByteArray := prog_24_method_155_code
def yJ0_checkIndex_df160 : MethodName := ⟨RJ0, "checkIndex", "(II)V"⟩
abbrev cJ0_checkBoundsOffCount_cabcc : ByteArray := prog_24_method_157_code
def yJ0_checkBoundsOffCount_cabcc : MethodName := ⟨RJ0, "checkBoundsOffCount", "(III)I"⟩
abbrev cJ0_checkBoundsBeginEnd_23922 : ByteArray := prog_24_method_158_code
def yJ0_checkBoundsBeginEnd_23922 : MethodName := ⟨RJ0, "checkBoundsBeginEnd", "(III)V"⟩
def RJ4 : String := "java/lang/StringBuilder"
def TJ4 : u_T := fun k => match k with
  | 0 => ("java/lang/AbstractStringBuilder", "value", "[B", false)
  | 1 => ("java/lang/AbstractStringBuilder", "coder", "B", false)
  | 2 => ("java/lang/AbstractStringBuilder", "maybeLatin1", "Z", false)
  | _ => ("java/lang/AbstractStringBuilder", "count", "I", false)
def tyJ4 : Nat → FieldType := fun k => match k with
  | 0 => .array .byte
  | 1 => .byte
  | 2 => .boolean
  | _ => .int
abbrev wsJ40 : List Cond := u_ws RJ4 TJ4 4
theorem nmJ4 : ∀ a, a < 4 → ∀ b, b < 4 → a ≠ b → (TJ4 a).2.1 ≠ (TJ4 b).2.1 := by decide +kernel
theorem tyJ4_ok : ∀ k, k < 4 → parseFieldDescriptor (TJ4 k).2.2.1 = some (tyJ4 k) := by decide +kernel
abbrev cJ4_init_da8c8 : ByteArray := prog_25_method_1_code
def yJ4_init_da8c8 : MethodName := ⟨RJ4, "<init>", "()V"⟩
abbrev cJ4_append_15ec4 : ByteArray := prog_25_method_7_code
def yJ4_append_15ec4 : MethodName := ⟨RJ4, "append", "(Ljava/lang/String;)Ljava/lang/StringBuilder;"⟩
abbrev cJ4_append_bf812 : ByteArray := prog_25_method_15_code
def yJ4_append_bf812 : MethodName := ⟨RJ4, "append", "(I)Ljava/lang/StringBuilder;"⟩
abbrev cJ4_toString_0e30d : ByteArray := prog_25_method_42_code
def yJ4_toString_0e30d : MethodName := ⟨RJ4, "toString", "()Ljava/lang/String;"⟩
abbrev cJ4_length_8abf5 : ByteArray := prog_25_method_93_code
def yJ4_length_8abf5 : MethodName := ⟨RJ4, "length", "()I"⟩
def RJ1 : String := "java/lang/StringLatin1"
def TJ1 : u_T := fun k => match k with
  | _ => ("", "", "", false)
def tyJ1 : Nat → FieldType := fun k => match k with
  | _ => .int
abbrev wsJ10 : List Cond := u_ws RJ1 TJ1 0
theorem nmJ1 : ∀ a, a < 0 → ∀ b, b < 0 → a ≠ b → (TJ1 a).2.1 ≠ (TJ1 b).2.1 := by decide +kernel
theorem tyJ1_ok : ∀ k, k < 0 → parseFieldDescriptor (TJ1 k).2.2.1 = some (tyJ1 k) := by decide +kernel
abbrev cJ1_charAt_3b067 : ByteArray := prog_26_method_2_code
def yJ1_charAt_3b067 : MethodName := ⟨RJ1, "charAt", "([BI)C"⟩
abbrev cJ1_canEncode_9a6ad : ByteArray := prog_26_method_4_code
def yJ1_canEncode_9a6ad : MethodName := ⟨RJ1, "canEncode", "(I)Z"⟩
abbrev cJ1_indexOf_4cfef : ByteArray := prog_26_method_22_code
def yJ1_indexOf_4cfef : MethodName := ⟨RJ1, "indexOf", "([BIII)I"⟩
abbrev cJ1_indexOfChar_4cfef : ByteArray := prog_26_method_23_code
def yJ1_indexOfChar_4cfef : MethodName := ⟨RJ1, "indexOfChar", "([BIII)I"⟩
abbrev cJ1_inflate_0e8fd : ByteArray := prog_26_method_50_code
def yJ1_inflate_0e8fd : MethodName := ⟨RJ1, "inflate", "([BI[BII)V"⟩
def RJ2 : String := "java/lang/StringUTF16"
def TJ2 : u_T := fun k => match k with
  | _ => ("", "", "", false)
def tyJ2 : Nat → FieldType := fun k => match k with
  | _ => .int
abbrev wsJ20 : List Cond := u_ws RJ2 TJ2 0
theorem nmJ2 : ∀ a, a < 0 → ∀ b, b < 0 → a ≠ b → (TJ2 a).2.1 ≠ (TJ2 b).2.1 := by decide +kernel
theorem tyJ2_ok : ∀ k, k < 0 → parseFieldDescriptor (TJ2 k).2.2.1 = some (tyJ2 k) := by decide +kernel
abbrev cJ2_newBytesFor_77867 : ByteArray := prog_27_method_2_code
def yJ2_newBytesFor_77867 : MethodName := ⟨RJ2, "newBytesFor", "(I)[B"⟩
abbrev cJ2_newBytesLength_0f7a4 : ByteArray := prog_27_method_3_code
def yJ2_newBytesLength_0f7a4 : MethodName := ⟨RJ2, "newBytesLength", "(I)I"⟩
abbrev cJ2_putChar_b72d1 : ByteArray := prog_27_method_4_code
def yJ2_putChar_b72d1 : MethodName := ⟨RJ2, "putChar", "([BII)V"⟩
abbrev cJ2_getChar_3b067 : ByteArray := prog_27_method_5_code
def yJ2_getChar_3b067 : MethodName := ⟨RJ2, "getChar", "([BI)C"⟩
abbrev cJ2_length_9d52b : ByteArray := prog_27_method_6_code
def yJ2_length_9d52b : MethodName := ⟨RJ2, "length", "([B)I"⟩
abbrev cJ2_coderFromArrayLen_85cad : ByteArray := prog_27_method_15_code
def yJ2_coderFromArrayLen_85cad : MethodName := ⟨RJ2, "coderFromArrayLen", "([BI)B"⟩
abbrev cJ2_compress_39247 : ByteArray := prog_27_method_17_code
def yJ2_compress_39247 : MethodName := ⟨RJ2, "compress", "([BII)[B"⟩
abbrev cJ2_compress_5af95 : ByteArray := prog_27_method_22_code
def yJ2_compress_5af95 : MethodName := ⟨RJ2, "compress", "([BI[BII)I"⟩
abbrev cJ2_indexOf_4cfef : ByteArray := prog_27_method_40_code
def yJ2_indexOf_4cfef : MethodName := ⟨RJ2, "indexOf", "([BIII)I"⟩
abbrev cJ2_indexOfChar_4cfef : ByteArray := prog_27_method_47_code
def yJ2_indexOfChar_4cfef : MethodName := ⟨RJ2, "indexOfChar", "([BIII)I"⟩
abbrev cJ2_indexOfCharUnsafe_4cfef : ByteArray := prog_27_method_48_code
def yJ2_indexOfCharUnsafe_4cfef : MethodName := ⟨RJ2, "indexOfCharUnsafe", "([BIII)I"⟩
abbrev cJ2_indexOfSupplementary_4cfef : ByteArray := prog_27_method_49_code
def yJ2_indexOfSupplementary_4cfef : MethodName := ⟨RJ2, "indexOfSupplementary", "([BIII)I"⟩
abbrev cJ2_getChars_46870 : ByteArray := prog_27_method_77_code
def yJ2_getChars_46870 : MethodName := ⟨RJ2, "getChars", "(III[B)I"⟩
abbrev cJ2_putCharsAt_cd4e5 : ByteArray := prog_27_method_81_code
def yJ2_putCharsAt_cd4e5 : MethodName := ⟨RJ2, "putCharsAt", "([BICCCC)I"⟩
abbrev cJ2_charAt_3b067 : ByteArray := prog_27_method_83_code
def yJ2_charAt_3b067 : MethodName := ⟨RJ2, "charAt", "([BI)C"⟩
abbrev cJ2_inflate_0e8fd : ByteArray := prog_27_method_86_code
def yJ2_inflate_0e8fd : MethodName := ⟨RJ2, "inflate", "([BI[BII)V"⟩
abbrev cJ2_getChars_ba4f3 : ByteArray := prog_27_method_89_code
def yJ2_getChars_ba4f3 : MethodName := ⟨RJ2, "getChars", "(II[B)I"⟩
abbrev cJ2_checkIndex_2214a : ByteArray := prog_27_method_91_code
def yJ2_checkIndex_2214a : MethodName := ⟨RJ2, "checkIndex", "(I[B)V"⟩
abbrev cJ2_checkBoundsBeginEnd_d044e : ByteArray := prog_27_method_93_code
def yJ2_checkBoundsBeginEnd_d044e : MethodName := ⟨RJ2, "checkBoundsBeginEnd", "(II[B)V"⟩
abbrev cJ2_checkBoundsOffCount_d044e : ByteArray := prog_27_method_94_code
def yJ2_checkBoundsOffCount_d044e : MethodName := ⟨RJ2, "checkBoundsOffCount", "(II[B)V"⟩
def RJ10 : String := "java/lang/System"
def TJ10 : u_T := fun k => match k with
  | _ => ("", "", "", false)
def tyJ10 : Nat → FieldType := fun k => match k with
  | _ => .int
abbrev wsJ100 : List Cond := u_ws RJ10 TJ10 0
theorem nmJ10 : ∀ a, a < 0 → ∀ b, b < 0 → a ≠ b → (TJ10 a).2.1 ≠ (TJ10 b).2.1 := by decide +kernel
theorem tyJ10_ok : ∀ k, k < 0 → parseFieldDescriptor (TJ10 k).2.2.1 = some (tyJ10 k) := by decide +kernel
def RJ7 : String := "java/util/Arrays"
def TJ7 : u_T := fun k => match k with
  | _ => ("", "", "", false)
def tyJ7 : Nat → FieldType := fun k => match k with
  | _ => .int
abbrev wsJ70 : List Cond := u_ws RJ7 TJ7 0
theorem nmJ7 : ∀ a, a < 0 → ∀ b, b < 0 → a ≠ b → (TJ7 a).2.1 ≠ (TJ7 b).2.1 := by decide +kernel
theorem tyJ7_ok : ∀ k, k < 0 → parseFieldDescriptor (TJ7 k).2.2.1 = some (tyJ7 k) := by decide +kernel
abbrev cJ7_copyOf_9075b : ByteArray := prog_30_method_121_code
def yJ7_copyOf_9075b : MethodName := ⟨RJ7, "copyOf", "([BI)[B"⟩
abbrev cJ7_checkLength_df160 : ByteArray := prog_30_method_131_code
def yJ7_checkLength_df160 : MethodName := ⟨RJ7, "checkLength", "(II)V"⟩
abbrev cJ7_copyOfRange_39247 : ByteArray := prog_30_method_132_code
def yJ7_copyOfRange_39247 : MethodName := ⟨RJ7, "copyOfRange", "([BII)[B"⟩
abbrev cJ7_copyOfRangeByte_39247 : ByteArray := prog_30_method_133_code
def yJ7_copyOfRangeByte_39247 : MethodName := ⟨RJ7, "copyOfRangeByte", "([BII)[B"⟩
def RJ8 : String := "jdk/internal/util/ArraysSupport"
def TJ8 : u_T := fun k => match k with
  | _ => ("", "", "", false)
def tyJ8 : Nat → FieldType := fun k => match k with
  | _ => .int
abbrev wsJ80 : List Cond := u_ws RJ8 TJ8 0
theorem nmJ8 : ∀ a, a < 0 → ∀ b, b < 0 → a ≠ b → (TJ8 a).2.1 ≠ (TJ8 b).2.1 := by decide +kernel
theorem tyJ8_ok : ∀ k, k < 0 → parseFieldDescriptor (TJ8 k).2.2.1 = some (tyJ8 k) := by decide +kernel
abbrev cJ8_newLength_cabcc : ByteArray := prog_31_method_27_code
def yJ8_newLength_cabcc : MethodName := ⟨RJ8, "newLength", "(III)I"⟩
abbrev cJ8_hugeLength_7cf53 : ByteArray := prog_31_method_28_code
def yJ8_hugeLength_7cf53 : MethodName := ⟨RJ8, "hugeLength", "(II)I"⟩
def RJ3 : String := "jdk/internal/util/Preconditions"
def TJ3 : u_T := fun k => match k with
  | _ => ("", "", "", false)
def tyJ3 : Nat → FieldType := fun k => match k with
  | _ => .int
abbrev wsJ30 : List Cond := u_ws RJ3 TJ3 0
theorem nmJ3 : ∀ a, a < 0 → ∀ b, b < 0 → a ≠ b → (TJ3 a).2.1 ≠ (TJ3 b).2.1 := by decide +kernel
theorem tyJ3_ok : ∀ k, k < 0 → parseFieldDescriptor (TJ3 k).2.2.1 = some (tyJ3 k) := by decide +kernel
abbrev cJ3_checkIndex_8e157 : ByteArray := prog_32_method_11_code
def yJ3_checkIndex_8e157 : MethodName := ⟨RJ3, "checkIndex", "(IILjava/util/function/BiFunction;)I"⟩
abbrev cJ3_checkFromToIndex_8c36e : ByteArray := prog_32_method_12_code
def yJ3_checkFromToIndex_8c36e : MethodName := ⟨RJ3, "checkFromToIndex", "(IIILjava/util/function/BiFunction;)I"⟩
abbrev cJ3_checkFromIndexSize_8c36e : ByteArray := prog_32_method_13_code
def yJ3_checkFromIndexSize_8c36e : MethodName := ⟨RJ3, "checkFromIndexSize", "(IIILjava/util/function/BiFunction;)I"⟩
def RL : String := "TollTrusteesLaw"
abbrev cL_below : ByteArray := method_2_code
def yL_below : MethodName := ⟨RL, "below", "(II)I"⟩
abbrev cL_cell : ByteArray := method_3_code
def yL_cell : MethodName := ⟨RL, "cell", "([II)I"⟩
abbrev cL_taught : ByteArray := method_4_code
def yL_taught : MethodName := ⟨RL, "taught", "(LTollTrustees;Ljava/lang/String;)I"⟩
abbrev cL_sum : ByteArray := method_5_code
def yL_sum : MethodName := ⟨RL, "sum", "([I)Ljava/lang/String;"⟩
abbrev cL_test : ByteArray := method_6_code
def yL_test : MethodName := ⟨RL, "test", "([I)Ljava/lang/String;"⟩
abbrev cL_list : ByteArray := method_7_code
def yL_list : MethodName := ⟨RL, "list", "([ILjava/lang/StringBuilder;)LTollTrusteesLaw$Sim;"⟩
abbrev cL_passed : ByteArray := method_8_code
def yL_passed : MethodName := ⟨RL, "passed", "(LTollTrustees;LTollTrusteesLaw$Sim;I)Z"⟩
abbrev cL_act : ByteArray := method_9_code
def yL_act : MethodName := ⟨RL, "act", "(LTollTrustees;LTollTrusteesLaw$Sim;I)Z"⟩
abbrev cL_law : ByteArray := code
def yL_law : MethodName := ⟨RL, "law", "([I)Z"⟩
abbrev vwCl : List vw_C := [(RJ0, TJ0, 4), (RJ4, TJ4, 4), (RX0, TX0, 5), (RX1, TX1, 11), (RX2, TX2, 1), (RX3, TX3, 16), (RX4, TX4, 7), (RX5, TX5, 5), (RX6, TX6, 18), (RX7, TX7, 10), (RX8, TX8, 9)]
theorem ainRJ0 : ∀ w ∈ u_ws RJ0 TJ0 4, w ∈ lw_tbl := by decide +kernel
theorem ainRJ4 : ∀ w ∈ u_ws RJ4 TJ4 4, w ∈ lw_tbl := by decide +kernel
theorem ainRX0 : ∀ w ∈ u_ws RX0 TX0 5, w ∈ lw_tbl := by decide +kernel
theorem ainRX1 : ∀ w ∈ u_ws RX1 TX1 11, w ∈ lw_tbl := by decide +kernel
theorem ainRX2 : ∀ w ∈ u_ws RX2 TX2 1, w ∈ lw_tbl := by decide +kernel
theorem ainRX3 : ∀ w ∈ u_ws RX3 TX3 16, w ∈ lw_tbl := by decide +kernel
theorem ainRX4 : ∀ w ∈ u_ws RX4 TX4 7, w ∈ lw_tbl := by decide +kernel
theorem ainRX5 : ∀ w ∈ u_ws RX5 TX5 5, w ∈ lw_tbl := by decide +kernel
theorem ainRX6 : ∀ w ∈ u_ws RX6 TX6 18, w ∈ lw_tbl := by decide +kernel
theorem ainRX7 : ∀ w ∈ u_ws RX7 TX7 10, w ∈ lw_tbl := by decide +kernel
theorem ainRX8 : ∀ w ∈ u_ws RX8 TX8 9, w ∈ lw_tbl := by decide +kernel
