/-! constructors, by program (wip/p26/gen88b.py) -/
section RC
variable {cl n z i j x v : Nat} {E : Nat → Value} {d : Nat} {S0 S : aS} {M0 M : Nat → Nat → Int} {Q : Option (Option Value) → aS → aI → Prop} {t : rT} {ex : List (Nat × Nat × Int)}
def KS (N : Nat) (S S' : aS) : Prop := N ≤ aX S' ∧ ∀ b, b < N → aK S' b = aK S b
theorem KS.rf {N : Nat} (h : N ≤ aX S) : KS N S S := ⟨h, fun _ _ => rfl⟩
theorem KS.new {N k m w : Nat} {A : aS} (h : KS N S A) : KS N S (aNew A k m w) := ⟨Nat.le_succ_of_le h.1, fun b hb => (nK_lt (Nat.lt_of_lt_of_le hb h.1)).trans (h.2 b hb)⟩
theorem KS.put {N a k : Nat} {u : Option Nat} {A : aS} (h : KS N S A) : KS N S (aPut A a k u) := ⟨h.1, fun b hb => h.2 b hb⟩
theorem rX0_init {a0 : Nat} (ha0 : a0 = cl + i) (hS : RelS cl S0 S t n z) (hM : RelM cl n M0 M ex) (hi : i < n) (hk : aK S (cl + i) = 2) {a1 x1 : Nat} (ha1 : a1 = cl + x1)
    (q : ∀ S' M', RelS cl S0 S' (tPut t i 0 (x1)) (n) (z) → RelM cl (n) M0 M' ex → (∀ b, b < cl + n → aK S' b = aK S b) → Q (some none) S' (mI M')) :
    X E d fX0_init 0 [some (.ref a0), some (.ref a1)] [] S (mI M) Q := by
  subst ha0
  have kS : KS (cl + n) S S := KS.rf (Nat.le_of_eq (RelS.ax hS).symm)
  exact kX0_init_0 ((kS.2 _ (by omega)).trans hk) (q _ _ (RelS.put hS ha1) hM (KS.put kS).2)
theorem rX1_init {a0 : Nat} (ha0 : a0 = cl + i) (hS : RelS cl S0 S t n z) (hM : RelM cl n M0 M ex) (hi : i < n) (hk : aK S (cl + i) = 3)
    (q : ∀ S' M', RelS cl S0 S' (tPut ((tPut ((tPut ((tPut ((tPut ((tPut ((tPut ((tPut ((tPut (t ++ [(100, 20, [])]) i 1 (n)) ++ [(100, 20, [])]) i 2 (n + 1)) ++ [(100, 20, [])]) i 3 (n + 1 + 1)) ++ [(100, 20, [])]) i 4 (n + 1 + 1 + 1)) ++ [(100, 20, [])]) i 5 (n + 1 + 1 + 1 + 1)) ++ [(100, 20, [])]) i 6 (n + 1 + 1 + 1 + 1 + 1)) ++ [(100, 20, [])]) i 7 (n + 1 + 1 + 1 + 1 + 1 + 1)) ++ [(100, 400, [])]) i 9 (n + 1 + 1 + 1 + 1 + 1 + 1 + 1)) ++ [(100, 400, [])]) i 10 (n + 1 + 1 + 1 + 1 + 1 + 1 + 1 + 1)) (n + 1 + 1 + 1 + 1 + 1 + 1 + 1 + 1 + 1) (z + 20 + 20 + 20 + 20 + 20 + 20 + 20 + 400 + 400) → RelM cl (n + 1 + 1 + 1 + 1 + 1 + 1 + 1 + 1 + 1) M0 M' ex → (∀ b, b < cl + n → aK S' b = aK S b) → Q (some none) S' (mI M')) :
    X E d fX1_init 0 [some (.ref a0)] [] S (mI M) Q := by
  subst ha0
  have kS : KS (cl + n) S S := KS.rf (Nat.le_of_eq (RelS.ax hS).symm)
  obtain ⟨M_2, eM_2⟩ : ∃ x, aU (aU M (aX S) (fun _ => 0)) (aX (aPut (aNew S 100 20 20) (cl + i) 1 (some (aX S)))) (fun _ => 0) = x := ⟨_, rfl⟩
  have RM_2 : RelM cl (n + 1 + 1) M0 M_2 ex := by
    rw [← eM_2]
    exact (RelM.new (RelM.new hM (RelS.ax hS)) (RelS.ax (RelS.put (RelS.new hS) (RelS.ax hS))))
  obtain ⟨S_4, eS_4⟩ : ∃ x, aPut (aNew (aPut (aNew S 100 20 20) (cl + i) 1 (some (aX S))) 100 20 20) (cl + i) 2 (some (aX (aPut (aNew S 100 20 20) (cl + i) 1 (some (aX S))))) = x := ⟨_, rfl⟩
  have RS_4 : RelS cl S0 S_4 (tPut ((tPut (t ++ [(100, 20, [])]) i 1 (n)) ++ [(100, 20, [])]) i 2 (n + 1)) (n + 1 + 1) (z + 20 + 20) := by
    rw [← eS_4]
    exact (RelS.put (RelS.new (RelS.put (RelS.new hS) (RelS.ax hS))) (RelS.ax (RelS.put (RelS.new hS) (RelS.ax hS))))
  have KS_4 : KS (cl + n) S S_4 := by
    rw [← eS_4]
    exact (KS.put (KS.new (KS.put (KS.new kS))))
  obtain ⟨S_6, eS_6⟩ : ∃ x, aNew (aPut (aNew S_4 100 20 20) (cl + i) 3 (some (aX S_4))) 100 20 20 = x := ⟨_, rfl⟩
  have RS_6 : RelS cl S0 S_6 ((tPut ((tPut ((tPut (t ++ [(100, 20, [])]) i 1 (n)) ++ [(100, 20, [])]) i 2 (n + 1)) ++ [(100, 20, [])]) i 3 (n + 1 + 1)) ++ [(100, 20, [])]) (n + 1 + 1 + 1 + 1) (z + 20 + 20 + 20 + 20) := by
    rw [← eS_6]
    exact (RelS.new (RelS.put (RelS.new RS_4) (RelS.ax RS_4)))
  have KS_6 : KS (cl + n) S S_6 := by
    rw [← eS_6]
    exact (KS.new (KS.put (KS.new KS_4)))
  obtain ⟨M_7, eM_7⟩ : ∃ x, aU (aU M_2 (aX S_4) (fun _ => 0)) (aX (aPut (aNew S_4 100 20 20) (cl + i) 3 (some (aX S_4)))) (fun _ => 0) = x := ⟨_, rfl⟩
  have RM_7 : RelM cl (n + 1 + 1 + 1 + 1) M0 M_7 ex := by
    rw [← eM_7]
    exact (RelM.new (RelM.new RM_2 (RelS.ax RS_4)) (RelS.ax (RelS.put (RelS.new RS_4) (RelS.ax RS_4))))
  obtain ⟨S_9, eS_9⟩ : ∃ x, aPut S_6 (cl + i) 4 (some (aX (aPut (aNew S_4 100 20 20) (cl + i) 3 (some (aX S_4))))) = x := ⟨_, rfl⟩
  have RS_9 : RelS cl S0 S_9 (tPut ((tPut ((tPut ((tPut (t ++ [(100, 20, [])]) i 1 (n)) ++ [(100, 20, [])]) i 2 (n + 1)) ++ [(100, 20, [])]) i 3 (n + 1 + 1)) ++ [(100, 20, [])]) i 4 (n + 1 + 1 + 1)) (n + 1 + 1 + 1 + 1) (z + 20 + 20 + 20 + 20) := by
    rw [← eS_9]
    exact (RelS.put RS_6 (RelS.ax (RelS.put (RelS.new RS_4) (RelS.ax RS_4))))
  have KS_9 : KS (cl + n) S S_9 := by
    rw [← eS_9]
    exact (KS.put KS_6)
  obtain ⟨S_11, eS_11⟩ : ∃ x, aNew (aPut (aNew S_9 100 20 20) (cl + i) 5 (some (aX S_9))) 100 20 20 = x := ⟨_, rfl⟩
  have RS_11 : RelS cl S0 S_11 ((tPut ((tPut ((tPut ((tPut ((tPut (t ++ [(100, 20, [])]) i 1 (n)) ++ [(100, 20, [])]) i 2 (n + 1)) ++ [(100, 20, [])]) i 3 (n + 1 + 1)) ++ [(100, 20, [])]) i 4 (n + 1 + 1 + 1)) ++ [(100, 20, [])]) i 5 (n + 1 + 1 + 1 + 1)) ++ [(100, 20, [])]) (n + 1 + 1 + 1 + 1 + 1 + 1) (z + 20 + 20 + 20 + 20 + 20 + 20) := by
    rw [← eS_11]
    exact (RelS.new (RelS.put (RelS.new RS_9) (RelS.ax RS_9)))
  have KS_11 : KS (cl + n) S S_11 := by
    rw [← eS_11]
    exact (KS.new (KS.put (KS.new KS_9)))
  obtain ⟨M_12, eM_12⟩ : ∃ x, aU (aU M_7 (aX S_9) (fun _ => 0)) (aX (aPut (aNew S_9 100 20 20) (cl + i) 5 (some (aX S_9)))) (fun _ => 0) = x := ⟨_, rfl⟩
  have RM_12 : RelM cl (n + 1 + 1 + 1 + 1 + 1 + 1) M0 M_12 ex := by
    rw [← eM_12]
    exact (RelM.new (RelM.new RM_7 (RelS.ax RS_9)) (RelS.ax (RelS.put (RelS.new RS_9) (RelS.ax RS_9))))
  obtain ⟨S_14, eS_14⟩ : ∃ x, aPut S_11 (cl + i) 6 (some (aX (aPut (aNew S_9 100 20 20) (cl + i) 5 (some (aX S_9))))) = x := ⟨_, rfl⟩
  have RS_14 : RelS cl S0 S_14 (tPut ((tPut ((tPut ((tPut ((tPut ((tPut (t ++ [(100, 20, [])]) i 1 (n)) ++ [(100, 20, [])]) i 2 (n + 1)) ++ [(100, 20, [])]) i 3 (n + 1 + 1)) ++ [(100, 20, [])]) i 4 (n + 1 + 1 + 1)) ++ [(100, 20, [])]) i 5 (n + 1 + 1 + 1 + 1)) ++ [(100, 20, [])]) i 6 (n + 1 + 1 + 1 + 1 + 1)) (n + 1 + 1 + 1 + 1 + 1 + 1) (z + 20 + 20 + 20 + 20 + 20 + 20) := by
    rw [← eS_14]
    exact (RelS.put RS_11 (RelS.ax (RelS.put (RelS.new RS_9) (RelS.ax RS_9))))
  have KS_14 : KS (cl + n) S S_14 := by
    rw [← eS_14]
    exact (KS.put KS_11)
  obtain ⟨S_16, eS_16⟩ : ∃ x, aNew (aPut (aNew S_14 100 20 20) (cl + i) 7 (some (aX S_14))) 100 400 400 = x := ⟨_, rfl⟩
  have RS_16 : RelS cl S0 S_16 ((tPut ((tPut ((tPut ((tPut ((tPut ((tPut ((tPut (t ++ [(100, 20, [])]) i 1 (n)) ++ [(100, 20, [])]) i 2 (n + 1)) ++ [(100, 20, [])]) i 3 (n + 1 + 1)) ++ [(100, 20, [])]) i 4 (n + 1 + 1 + 1)) ++ [(100, 20, [])]) i 5 (n + 1 + 1 + 1 + 1)) ++ [(100, 20, [])]) i 6 (n + 1 + 1 + 1 + 1 + 1)) ++ [(100, 20, [])]) i 7 (n + 1 + 1 + 1 + 1 + 1 + 1)) ++ [(100, 400, [])]) (n + 1 + 1 + 1 + 1 + 1 + 1 + 1 + 1) (z + 20 + 20 + 20 + 20 + 20 + 20 + 20 + 400) := by
    rw [← eS_16]
    exact (RelS.new (RelS.put (RelS.new RS_14) (RelS.ax RS_14)))
  have KS_16 : KS (cl + n) S S_16 := by
    rw [← eS_16]
    exact (KS.new (KS.put (KS.new KS_14)))
  obtain ⟨M_17, eM_17⟩ : ∃ x, aU (aU M_12 (aX S_14) (fun _ => 0)) (aX (aPut (aNew S_14 100 20 20) (cl + i) 7 (some (aX S_14)))) (fun _ => 0) = x := ⟨_, rfl⟩
  have RM_17 : RelM cl (n + 1 + 1 + 1 + 1 + 1 + 1 + 1 + 1) M0 M_17 ex := by
    rw [← eM_17]
    exact (RelM.new (RelM.new RM_12 (RelS.ax RS_14)) (RelS.ax (RelS.put (RelS.new RS_14) (RelS.ax RS_14))))
  obtain ⟨S_19, eS_19⟩ : ∃ x, aPut S_16 (cl + i) 9 (some (aX (aPut (aNew S_14 100 20 20) (cl + i) 7 (some (aX S_14))))) = x := ⟨_, rfl⟩
  have RS_19 : RelS cl S0 S_19 (tPut ((tPut ((tPut ((tPut ((tPut ((tPut ((tPut ((tPut (t ++ [(100, 20, [])]) i 1 (n)) ++ [(100, 20, [])]) i 2 (n + 1)) ++ [(100, 20, [])]) i 3 (n + 1 + 1)) ++ [(100, 20, [])]) i 4 (n + 1 + 1 + 1)) ++ [(100, 20, [])]) i 5 (n + 1 + 1 + 1 + 1)) ++ [(100, 20, [])]) i 6 (n + 1 + 1 + 1 + 1 + 1)) ++ [(100, 20, [])]) i 7 (n + 1 + 1 + 1 + 1 + 1 + 1)) ++ [(100, 400, [])]) i 9 (n + 1 + 1 + 1 + 1 + 1 + 1 + 1)) (n + 1 + 1 + 1 + 1 + 1 + 1 + 1 + 1) (z + 20 + 20 + 20 + 20 + 20 + 20 + 20 + 400) := by
    rw [← eS_19]
    exact (RelS.put RS_16 (RelS.ax (RelS.put (RelS.new RS_14) (RelS.ax RS_14))))
  have KS_19 : KS (cl + n) S S_19 := by
    rw [← eS_19]
    exact (KS.put KS_16)
  exact kX1_init_0 (((KS.new kS).2 _ (by omega)).trans hk) eM_2 (((KS.new (KS.put (KS.new kS))).2 _ (by omega)).trans hk) eS_4 (((KS.new KS_4).2 _ (by omega)).trans hk) eS_6 eM_7 ((KS_6.2 _ (by omega)).trans hk) eS_9 (((KS.new KS_9).2 _ (by omega)).trans hk) eS_11 eM_12 ((KS_11.2 _ (by omega)).trans hk) eS_14 (((KS.new KS_14).2 _ (by omega)).trans hk) eS_16 eM_17 ((KS_16.2 _ (by omega)).trans hk) eS_19 (((KS.new KS_19).2 _ (by omega)).trans hk) (q _ _ (RelS.put (RelS.new RS_19) (RelS.ax RS_19)) (RelM.new RM_17 (RelS.ax RS_19)) (KS.put (KS.new KS_19)).2)
theorem rX2_init {a0 : Nat} (ha0 : a0 = cl + i) (hS : RelS cl S0 S t n z) (hM : RelM cl n M0 M ex) (hi : i < n) (hk : aK S (cl + i) = 4)
    (q : ∀ S' M', RelS cl S0 S' (tPut (t ++ [(100, 400, [])]) i 0 (n)) (n + 1) (z + 400) → RelM cl (n + 1) M0 M' ex → (∀ b, b < cl + n → aK S' b = aK S b) → Q (some none) S' (mI M')) :
    X E d fX2_init 0 [some (.ref a0)] [] S (mI M) Q := by
  subst ha0
  have kS : KS (cl + n) S S := KS.rf (Nat.le_of_eq (RelS.ax hS).symm)
  exact kX2_init_0 (((KS.new kS).2 _ (by omega)).trans hk) (q _ _ (RelS.put (RelS.new hS) (RelS.ax hS)) (RelM.new hM (RelS.ax hS)) (KS.put (KS.new kS)).2)
theorem rX4_init {a0 : Nat} (ha0 : a0 = cl + i) (hS : RelS cl S0 S t n z) (hM : RelM cl n M0 M ex) (hi : i < n) (hk : aK S (cl + i) = 6) {a1 x1 : Nat} (ha1 : a1 = cl + x1) {a2 x2 : Nat} (ha2 : a2 = cl + x2)
    (q : ∀ S' M', RelS cl S0 S' (tPut (tPut (tPut ((tPut ((tPut (t ++ [(100, 5, [])]) i 3 (n)) ++ [(100, 5, [])]) i 4 (n + 1)) ++ [(100, 8, [])]) i 5 (n + 1 + 1)) i 0 (x1)) i 1 (x2)) (n + 1 + 1 + 1) (z + 5 + 5 + 8) → RelM cl (n + 1 + 1 + 1) M0 M' ex → (∀ b, b < cl + n → aK S' b = aK S b) → Q (some none) S' (mI M')) :
    X E d fX4_init 0 [some (.ref a0), some (.ref a1), some (.ref a2)] [] S (mI M) Q := by
  subst ha0
  have kS : KS (cl + n) S S := KS.rf (Nat.le_of_eq (RelS.ax hS).symm)
  obtain ⟨M_2, eM_2⟩ : ∃ x, aU (aU M (aX S) (fun _ => 0)) (aX (aPut (aNew S 100 5 5) (cl + i) 3 (some (aX S)))) (fun _ => 0) = x := ⟨_, rfl⟩
  have RM_2 : RelM cl (n + 1 + 1) M0 M_2 ex := by
    rw [← eM_2]
    exact (RelM.new (RelM.new hM (RelS.ax hS)) (RelS.ax (RelS.put (RelS.new hS) (RelS.ax hS))))
  obtain ⟨S_4, eS_4⟩ : ∃ x, aPut (aNew (aPut (aNew S 100 5 5) (cl + i) 3 (some (aX S))) 100 5 5) (cl + i) 4 (some (aX (aPut (aNew S 100 5 5) (cl + i) 3 (some (aX S))))) = x := ⟨_, rfl⟩
  have RS_4 : RelS cl S0 S_4 (tPut ((tPut (t ++ [(100, 5, [])]) i 3 (n)) ++ [(100, 5, [])]) i 4 (n + 1)) (n + 1 + 1) (z + 5 + 5) := by
    rw [← eS_4]
    exact (RelS.put (RelS.new (RelS.put (RelS.new hS) (RelS.ax hS))) (RelS.ax (RelS.put (RelS.new hS) (RelS.ax hS))))
  have KS_4 : KS (cl + n) S S_4 := by
    rw [← eS_4]
    exact (KS.put (KS.new (KS.put (KS.new kS))))
  obtain ⟨S_7, eS_7⟩ : ∃ x, aPut (aPut (aNew S_4 100 8 8) (cl + i) 5 (some (aX S_4))) (cl + i) 0 (some a1) = x := ⟨_, rfl⟩
  have RS_7 : RelS cl S0 S_7 (tPut (tPut ((tPut ((tPut (t ++ [(100, 5, [])]) i 3 (n)) ++ [(100, 5, [])]) i 4 (n + 1)) ++ [(100, 8, [])]) i 5 (n + 1 + 1)) i 0 (x1)) (n + 1 + 1 + 1) (z + 5 + 5 + 8) := by
    rw [← eS_7]
    exact (RelS.put (RelS.put (RelS.new RS_4) (RelS.ax RS_4)) ha1)
  have KS_7 : KS (cl + n) S S_7 := by
    rw [← eS_7]
    exact (KS.put (KS.put (KS.new KS_4)))
  exact kX4_init_0 (((KS.new kS).2 _ (by omega)).trans hk) eM_2 (((KS.new (KS.put (KS.new kS))).2 _ (by omega)).trans hk) eS_4 (((KS.new KS_4).2 _ (by omega)).trans hk) eS_7 ((KS_7.2 _ (by omega)).trans hk) (q _ _ (RelS.put RS_7 ha2) (RelM.new RM_2 (RelS.ax RS_4)) (KS.put KS_7).2)
theorem rX5_init {a0 : Nat} (ha0 : a0 = cl + i) (hS : RelS cl S0 S t n z) (hM : RelM cl n M0 M ex) (hi : i < n) (hk : aK S (cl + i) = 7)
    (q : ∀ S' M', RelS cl S0 S' (tPut ((tPut ((tPut ((tPut (t ++ [(100, 401, [])]) i 0 (n)) ++ [(100, 401, [])]) i 1 (n + 1)) ++ [(100, 401, [])]) i 2 (n + 1 + 1)) ++ [(100, 401, [])]) i 3 (n + 1 + 1 + 1)) (n + 1 + 1 + 1 + 1) (z + 401 + 401 + 401 + 401) → RelM cl (n + 1 + 1 + 1 + 1) M0 M' ex → (∀ b, b < cl + n → aK S' b = aK S b) → Q (some none) S' (mI M')) :
    X E d fX5_init 0 [some (.ref a0)] [] S (mI M) Q := by
  subst ha0
  have kS : KS (cl + n) S S := KS.rf (Nat.le_of_eq (RelS.ax hS).symm)
  obtain ⟨S_2, eS_2⟩ : ∃ x, aNew (aPut (aNew S 100 401 401) (cl + i) 0 (some (aX S))) 100 401 401 = x := ⟨_, rfl⟩
  have RS_2 : RelS cl S0 S_2 ((tPut (t ++ [(100, 401, [])]) i 0 (n)) ++ [(100, 401, [])]) (n + 1 + 1) (z + 401 + 401) := by
    rw [← eS_2]
    exact (RelS.new (RelS.put (RelS.new hS) (RelS.ax hS)))
  have KS_2 : KS (cl + n) S S_2 := by
    rw [← eS_2]
    exact (KS.new (KS.put (KS.new kS)))
  obtain ⟨M_3, eM_3⟩ : ∃ x, aU (aU M (aX S) (fun _ => 0)) (aX (aPut (aNew S 100 401 401) (cl + i) 0 (some (aX S)))) (fun _ => 0) = x := ⟨_, rfl⟩
  have RM_3 : RelM cl (n + 1 + 1) M0 M_3 ex := by
    rw [← eM_3]
    exact (RelM.new (RelM.new hM (RelS.ax hS)) (RelS.ax (RelS.put (RelS.new hS) (RelS.ax hS))))
  obtain ⟨S_5, eS_5⟩ : ∃ x, aPut S_2 (cl + i) 1 (some (aX (aPut (aNew S 100 401 401) (cl + i) 0 (some (aX S))))) = x := ⟨_, rfl⟩
  have RS_5 : RelS cl S0 S_5 (tPut ((tPut (t ++ [(100, 401, [])]) i 0 (n)) ++ [(100, 401, [])]) i 1 (n + 1)) (n + 1 + 1) (z + 401 + 401) := by
    rw [← eS_5]
    exact (RelS.put RS_2 (RelS.ax (RelS.put (RelS.new hS) (RelS.ax hS))))
  have KS_5 : KS (cl + n) S S_5 := by
    rw [← eS_5]
    exact (KS.put KS_2)
  obtain ⟨S_7, eS_7⟩ : ∃ x, aNew (aPut (aNew S_5 100 401 401) (cl + i) 2 (some (aX S_5))) 100 401 401 = x := ⟨_, rfl⟩
  have RS_7 : RelS cl S0 S_7 ((tPut ((tPut ((tPut (t ++ [(100, 401, [])]) i 0 (n)) ++ [(100, 401, [])]) i 1 (n + 1)) ++ [(100, 401, [])]) i 2 (n + 1 + 1)) ++ [(100, 401, [])]) (n + 1 + 1 + 1 + 1) (z + 401 + 401 + 401 + 401) := by
    rw [← eS_7]
    exact (RelS.new (RelS.put (RelS.new RS_5) (RelS.ax RS_5)))
  have KS_7 : KS (cl + n) S S_7 := by
    rw [← eS_7]
    exact (KS.new (KS.put (KS.new KS_5)))
  obtain ⟨M_8, eM_8⟩ : ∃ x, aU (aU M_3 (aX S_5) (fun _ => 0)) (aX (aPut (aNew S_5 100 401 401) (cl + i) 2 (some (aX S_5)))) (fun _ => 0) = x := ⟨_, rfl⟩
  have RM_8 : RelM cl (n + 1 + 1 + 1 + 1) M0 M_8 ex := by
    rw [← eM_8]
    exact (RelM.new (RelM.new RM_3 (RelS.ax RS_5)) (RelS.ax (RelS.put (RelS.new RS_5) (RelS.ax RS_5))))
  obtain ⟨S_10, eS_10⟩ : ∃ x, aPut S_7 (cl + i) 3 (some (aX (aPut (aNew S_5 100 401 401) (cl + i) 2 (some (aX S_5))))) = x := ⟨_, rfl⟩
  have RS_10 : RelS cl S0 S_10 (tPut ((tPut ((tPut ((tPut (t ++ [(100, 401, [])]) i 0 (n)) ++ [(100, 401, [])]) i 1 (n + 1)) ++ [(100, 401, [])]) i 2 (n + 1 + 1)) ++ [(100, 401, [])]) i 3 (n + 1 + 1 + 1)) (n + 1 + 1 + 1 + 1) (z + 401 + 401 + 401 + 401) := by
    rw [← eS_10]
    exact (RelS.put RS_7 (RelS.ax (RelS.put (RelS.new RS_5) (RelS.ax RS_5))))
  have KS_10 : KS (cl + n) S S_10 := by
    rw [← eS_10]
    exact (KS.put KS_7)
  exact kX5_init_0 (((KS.new kS).2 _ (by omega)).trans hk) eS_2 eM_3 ((KS_2.2 _ (by omega)).trans hk) eS_5 (((KS.new KS_5).2 _ (by omega)).trans hk) eS_7 eM_8 ((KS_7.2 _ (by omega)).trans hk) eS_10 (q _ _ RS_10 RM_8 KS_10.2)
theorem rX6_init {a0 : Nat} (ha0 : a0 = cl + i) (hS : RelS cl S0 S t n z) (hM : RelM cl n M0 M ex) (hi : i < n) (hk : aK S (cl + i) = 8) {a1 x1 : Nat} (ha1 : a1 = cl + x1) {a2 x2 : Nat} (ha2 : a2 = cl + x2)
    (q : ∀ S' M', RelS cl S0 S' (tPut (tPut (tPut ((tPut ((tPut ((tPut ((tPut ((tPut ((tPut ((tPut ((tPut ((tPut ((tPut ((tPut (t ++ [(100, 45, [])]) i 4 (n)) ++ [(100, 45, [])]) i 5 (n + 1)) ++ [(100, 5, [])]) i 6 (n + 1 + 1)) ++ [(100, 5, [])]) i 7 (n + 1 + 1 + 1)) ++ [(100, 5, [])]) i 8 (n + 1 + 1 + 1 + 1)) ++ [(100, 5, [])]) i 9 (n + 1 + 1 + 1 + 1 + 1)) ++ [(100, 5, [])]) i 10 (n + 1 + 1 + 1 + 1 + 1 + 1)) ++ [(100, 5, [])]) i 11 (n + 1 + 1 + 1 + 1 + 1 + 1 + 1)) ++ [(100, 8, [])]) i 12 (n + 1 + 1 + 1 + 1 + 1 + 1 + 1 + 1)) ++ [(100, 8, [])]) i 13 (n + 1 + 1 + 1 + 1 + 1 + 1 + 1 + 1 + 1)) ++ [(100, 8, [])]) i 14 (n + 1 + 1 + 1 + 1 + 1 + 1 + 1 + 1 + 1 + 1)) ++ [(100, 8, [])]) i 15 (n + 1 + 1 + 1 + 1 + 1 + 1 + 1 + 1 + 1 + 1 + 1)) i 0 (x2)) i 1 (x1)) (n + 1 + 1 + 1 + 1 + 1 + 1 + 1 + 1 + 1 + 1 + 1 + 1) (z + 45 + 45 + 5 + 5 + 5 + 5 + 5 + 5 + 8 + 8 + 8 + 8) → RelM cl (n + 1 + 1 + 1 + 1 + 1 + 1 + 1 + 1 + 1 + 1 + 1 + 1) M0 M' ((i, 16, -1) :: ((i, 3, 200) :: ex)) → (∀ b, b < cl + n → aK S' b = aK S b) → Q (some none) S' (mI M')) :
    X E d fX6_init 0 [some (.ref a0), some (.ref a1), some (.ref a2)] [] S (mI M) Q := by
  subst ha0
  have kS : KS (cl + n) S S := KS.rf (Nat.le_of_eq (RelS.ax hS).symm)
  obtain ⟨M_2, eM_2⟩ : ∃ x, aU (aU M (aX S) (fun _ => 0)) (aX (aPut (aNew S 100 45 45) (cl + i) 4 (some (aX S)))) (fun _ => 0) = x := ⟨_, rfl⟩
  have RM_2 : RelM cl (n + 1 + 1) M0 M_2 ex := by
    rw [← eM_2]
    exact (RelM.new (RelM.new hM (RelS.ax hS)) (RelS.ax (RelS.put (RelS.new hS) (RelS.ax hS))))
  obtain ⟨S_4, eS_4⟩ : ∃ x, aPut (aNew (aPut (aNew S 100 45 45) (cl + i) 4 (some (aX S))) 100 45 45) (cl + i) 5 (some (aX (aPut (aNew S 100 45 45) (cl + i) 4 (some (aX S))))) = x := ⟨_, rfl⟩
  have RS_4 : RelS cl S0 S_4 (tPut ((tPut (t ++ [(100, 45, [])]) i 4 (n)) ++ [(100, 45, [])]) i 5 (n + 1)) (n + 1 + 1) (z + 45 + 45) := by
    rw [← eS_4]
    exact (RelS.put (RelS.new (RelS.put (RelS.new hS) (RelS.ax hS))) (RelS.ax (RelS.put (RelS.new hS) (RelS.ax hS))))
  have KS_4 : KS (cl + n) S S_4 := by
    rw [← eS_4]
    exact (KS.put (KS.new (KS.put (KS.new kS))))
  obtain ⟨M_6, eM_6⟩ : ∃ x, aU (aU M_2 (aX S_4) (fun _ => 0)) (aX (aPut (aNew S_4 100 5 5) (cl + i) 6 (some (aX S_4)))) (fun _ => 0) = x := ⟨_, rfl⟩
  have RM_6 : RelM cl (n + 1 + 1 + 1 + 1) M0 M_6 ex := by
    rw [← eM_6]
    exact (RelM.new (RelM.new RM_2 (RelS.ax RS_4)) (RelS.ax (RelS.put (RelS.new RS_4) (RelS.ax RS_4))))
  obtain ⟨S_8, eS_8⟩ : ∃ x, aPut (aNew (aPut (aNew S_4 100 5 5) (cl + i) 6 (some (aX S_4))) 100 5 5) (cl + i) 7 (some (aX (aPut (aNew S_4 100 5 5) (cl + i) 6 (some (aX S_4))))) = x := ⟨_, rfl⟩
  have RS_8 : RelS cl S0 S_8 (tPut ((tPut ((tPut ((tPut (t ++ [(100, 45, [])]) i 4 (n)) ++ [(100, 45, [])]) i 5 (n + 1)) ++ [(100, 5, [])]) i 6 (n + 1 + 1)) ++ [(100, 5, [])]) i 7 (n + 1 + 1 + 1)) (n + 1 + 1 + 1 + 1) (z + 45 + 45 + 5 + 5) := by
    rw [← eS_8]
    exact (RelS.put (RelS.new (RelS.put (RelS.new RS_4) (RelS.ax RS_4))) (RelS.ax (RelS.put (RelS.new RS_4) (RelS.ax RS_4))))
  have KS_8 : KS (cl + n) S S_8 := by
    rw [← eS_8]
    exact (KS.put (KS.new (KS.put (KS.new KS_4))))
  obtain ⟨M_10, eM_10⟩ : ∃ x, aU (aU M_6 (aX S_8) (fun _ => 0)) (aX (aPut (aNew S_8 100 5 5) (cl + i) 8 (some (aX S_8)))) (fun _ => 0) = x := ⟨_, rfl⟩
  have RM_10 : RelM cl (n + 1 + 1 + 1 + 1 + 1 + 1) M0 M_10 ex := by
    rw [← eM_10]
    exact (RelM.new (RelM.new RM_6 (RelS.ax RS_8)) (RelS.ax (RelS.put (RelS.new RS_8) (RelS.ax RS_8))))
  obtain ⟨S_12, eS_12⟩ : ∃ x, aPut (aNew (aPut (aNew S_8 100 5 5) (cl + i) 8 (some (aX S_8))) 100 5 5) (cl + i) 9 (some (aX (aPut (aNew S_8 100 5 5) (cl + i) 8 (some (aX S_8))))) = x := ⟨_, rfl⟩
  have RS_12 : RelS cl S0 S_12 (tPut ((tPut ((tPut ((tPut ((tPut ((tPut (t ++ [(100, 45, [])]) i 4 (n)) ++ [(100, 45, [])]) i 5 (n + 1)) ++ [(100, 5, [])]) i 6 (n + 1 + 1)) ++ [(100, 5, [])]) i 7 (n + 1 + 1 + 1)) ++ [(100, 5, [])]) i 8 (n + 1 + 1 + 1 + 1)) ++ [(100, 5, [])]) i 9 (n + 1 + 1 + 1 + 1 + 1)) (n + 1 + 1 + 1 + 1 + 1 + 1) (z + 45 + 45 + 5 + 5 + 5 + 5) := by
    rw [← eS_12]
    exact (RelS.put (RelS.new (RelS.put (RelS.new RS_8) (RelS.ax RS_8))) (RelS.ax (RelS.put (RelS.new RS_8) (RelS.ax RS_8))))
  have KS_12 : KS (cl + n) S S_12 := by
    rw [← eS_12]
    exact (KS.put (KS.new (KS.put (KS.new KS_8))))
  obtain ⟨S_14, eS_14⟩ : ∃ x, aNew (aPut (aNew S_12 100 5 5) (cl + i) 10 (some (aX S_12))) 100 5 5 = x := ⟨_, rfl⟩
  have RS_14 : RelS cl S0 S_14 ((tPut ((tPut ((tPut ((tPut ((tPut ((tPut ((tPut (t ++ [(100, 45, [])]) i 4 (n)) ++ [(100, 45, [])]) i 5 (n + 1)) ++ [(100, 5, [])]) i 6 (n + 1 + 1)) ++ [(100, 5, [])]) i 7 (n + 1 + 1 + 1)) ++ [(100, 5, [])]) i 8 (n + 1 + 1 + 1 + 1)) ++ [(100, 5, [])]) i 9 (n + 1 + 1 + 1 + 1 + 1)) ++ [(100, 5, [])]) i 10 (n + 1 + 1 + 1 + 1 + 1 + 1)) ++ [(100, 5, [])]) (n + 1 + 1 + 1 + 1 + 1 + 1 + 1 + 1) (z + 45 + 45 + 5 + 5 + 5 + 5 + 5 + 5) := by
    rw [← eS_14]
    exact (RelS.new (RelS.put (RelS.new RS_12) (RelS.ax RS_12)))
  have KS_14 : KS (cl + n) S S_14 := by
    rw [← eS_14]
    exact (KS.new (KS.put (KS.new KS_12)))
  obtain ⟨M_15, eM_15⟩ : ∃ x, aU (aU M_10 (aX S_12) (fun _ => 0)) (aX (aPut (aNew S_12 100 5 5) (cl + i) 10 (some (aX S_12)))) (fun _ => 0) = x := ⟨_, rfl⟩
  have RM_15 : RelM cl (n + 1 + 1 + 1 + 1 + 1 + 1 + 1 + 1) M0 M_15 ex := by
    rw [← eM_15]
    exact (RelM.new (RelM.new RM_10 (RelS.ax RS_12)) (RelS.ax (RelS.put (RelS.new RS_12) (RelS.ax RS_12))))
  obtain ⟨S_17, eS_17⟩ : ∃ x, aPut S_14 (cl + i) 11 (some (aX (aPut (aNew S_12 100 5 5) (cl + i) 10 (some (aX S_12))))) = x := ⟨_, rfl⟩
  have RS_17 : RelS cl S0 S_17 (tPut ((tPut ((tPut ((tPut ((tPut ((tPut ((tPut ((tPut (t ++ [(100, 45, [])]) i 4 (n)) ++ [(100, 45, [])]) i 5 (n + 1)) ++ [(100, 5, [])]) i 6 (n + 1 + 1)) ++ [(100, 5, [])]) i 7 (n + 1 + 1 + 1)) ++ [(100, 5, [])]) i 8 (n + 1 + 1 + 1 + 1)) ++ [(100, 5, [])]) i 9 (n + 1 + 1 + 1 + 1 + 1)) ++ [(100, 5, [])]) i 10 (n + 1 + 1 + 1 + 1 + 1 + 1)) ++ [(100, 5, [])]) i 11 (n + 1 + 1 + 1 + 1 + 1 + 1 + 1)) (n + 1 + 1 + 1 + 1 + 1 + 1 + 1 + 1) (z + 45 + 45 + 5 + 5 + 5 + 5 + 5 + 5) := by
    rw [← eS_17]
    exact (RelS.put RS_14 (RelS.ax (RelS.put (RelS.new RS_12) (RelS.ax RS_12))))
  have KS_17 : KS (cl + n) S S_17 := by
    rw [← eS_17]
    exact (KS.put KS_14)
  obtain ⟨S_19, eS_19⟩ : ∃ x, aNew (aPut (aNew S_17 100 8 8) (cl + i) 12 (some (aX S_17))) 100 8 8 = x := ⟨_, rfl⟩
  have RS_19 : RelS cl S0 S_19 ((tPut ((tPut ((tPut ((tPut ((tPut ((tPut ((tPut ((tPut ((tPut (t ++ [(100, 45, [])]) i 4 (n)) ++ [(100, 45, [])]) i 5 (n + 1)) ++ [(100, 5, [])]) i 6 (n + 1 + 1)) ++ [(100, 5, [])]) i 7 (n + 1 + 1 + 1)) ++ [(100, 5, [])]) i 8 (n + 1 + 1 + 1 + 1)) ++ [(100, 5, [])]) i 9 (n + 1 + 1 + 1 + 1 + 1)) ++ [(100, 5, [])]) i 10 (n + 1 + 1 + 1 + 1 + 1 + 1)) ++ [(100, 5, [])]) i 11 (n + 1 + 1 + 1 + 1 + 1 + 1 + 1)) ++ [(100, 8, [])]) i 12 (n + 1 + 1 + 1 + 1 + 1 + 1 + 1 + 1)) ++ [(100, 8, [])]) (n + 1 + 1 + 1 + 1 + 1 + 1 + 1 + 1 + 1 + 1) (z + 45 + 45 + 5 + 5 + 5 + 5 + 5 + 5 + 8 + 8) := by
    rw [← eS_19]
    exact (RelS.new (RelS.put (RelS.new RS_17) (RelS.ax RS_17)))
  have KS_19 : KS (cl + n) S S_19 := by
    rw [← eS_19]
    exact (KS.new (KS.put (KS.new KS_17)))
  obtain ⟨M_20, eM_20⟩ : ∃ x, aU (aU M_15 (aX S_17) (fun _ => 0)) (aX (aPut (aNew S_17 100 8 8) (cl + i) 12 (some (aX S_17)))) (fun _ => 0) = x := ⟨_, rfl⟩
  have RM_20 : RelM cl (n + 1 + 1 + 1 + 1 + 1 + 1 + 1 + 1 + 1 + 1) M0 M_20 ex := by
    rw [← eM_20]
    exact (RelM.new (RelM.new RM_15 (RelS.ax RS_17)) (RelS.ax (RelS.put (RelS.new RS_17) (RelS.ax RS_17))))
  obtain ⟨S_22, eS_22⟩ : ∃ x, aPut S_19 (cl + i) 13 (some (aX (aPut (aNew S_17 100 8 8) (cl + i) 12 (some (aX S_17))))) = x := ⟨_, rfl⟩
  have RS_22 : RelS cl S0 S_22 (tPut ((tPut ((tPut ((tPut ((tPut ((tPut ((tPut ((tPut ((tPut ((tPut (t ++ [(100, 45, [])]) i 4 (n)) ++ [(100, 45, [])]) i 5 (n + 1)) ++ [(100, 5, [])]) i 6 (n + 1 + 1)) ++ [(100, 5, [])]) i 7 (n + 1 + 1 + 1)) ++ [(100, 5, [])]) i 8 (n + 1 + 1 + 1 + 1)) ++ [(100, 5, [])]) i 9 (n + 1 + 1 + 1 + 1 + 1)) ++ [(100, 5, [])]) i 10 (n + 1 + 1 + 1 + 1 + 1 + 1)) ++ [(100, 5, [])]) i 11 (n + 1 + 1 + 1 + 1 + 1 + 1 + 1)) ++ [(100, 8, [])]) i 12 (n + 1 + 1 + 1 + 1 + 1 + 1 + 1 + 1)) ++ [(100, 8, [])]) i 13 (n + 1 + 1 + 1 + 1 + 1 + 1 + 1 + 1 + 1)) (n + 1 + 1 + 1 + 1 + 1 + 1 + 1 + 1 + 1 + 1) (z + 45 + 45 + 5 + 5 + 5 + 5 + 5 + 5 + 8 + 8) := by
    rw [← eS_22]
    exact (RelS.put RS_19 (RelS.ax (RelS.put (RelS.new RS_17) (RelS.ax RS_17))))
  have KS_22 : KS (cl + n) S S_22 := by
    rw [← eS_22]
    exact (KS.put KS_19)
  obtain ⟨S_24, eS_24⟩ : ∃ x, aNew (aPut (aNew S_22 100 8 8) (cl + i) 14 (some (aX S_22))) 100 8 8 = x := ⟨_, rfl⟩
  have RS_24 : RelS cl S0 S_24 ((tPut ((tPut ((tPut ((tPut ((tPut ((tPut ((tPut ((tPut ((tPut ((tPut ((tPut (t ++ [(100, 45, [])]) i 4 (n)) ++ [(100, 45, [])]) i 5 (n + 1)) ++ [(100, 5, [])]) i 6 (n + 1 + 1)) ++ [(100, 5, [])]) i 7 (n + 1 + 1 + 1)) ++ [(100, 5, [])]) i 8 (n + 1 + 1 + 1 + 1)) ++ [(100, 5, [])]) i 9 (n + 1 + 1 + 1 + 1 + 1)) ++ [(100, 5, [])]) i 10 (n + 1 + 1 + 1 + 1 + 1 + 1)) ++ [(100, 5, [])]) i 11 (n + 1 + 1 + 1 + 1 + 1 + 1 + 1)) ++ [(100, 8, [])]) i 12 (n + 1 + 1 + 1 + 1 + 1 + 1 + 1 + 1)) ++ [(100, 8, [])]) i 13 (n + 1 + 1 + 1 + 1 + 1 + 1 + 1 + 1 + 1)) ++ [(100, 8, [])]) i 14 (n + 1 + 1 + 1 + 1 + 1 + 1 + 1 + 1 + 1 + 1)) ++ [(100, 8, [])]) (n + 1 + 1 + 1 + 1 + 1 + 1 + 1 + 1 + 1 + 1 + 1 + 1) (z + 45 + 45 + 5 + 5 + 5 + 5 + 5 + 5 + 8 + 8 + 8 + 8) := by
    rw [← eS_24]
    exact (RelS.new (RelS.put (RelS.new RS_22) (RelS.ax RS_22)))
  have KS_24 : KS (cl + n) S S_24 := by
    rw [← eS_24]
    exact (KS.new (KS.put (KS.new KS_22)))
  obtain ⟨M_25, eM_25⟩ : ∃ x, aU (aU M_20 (aX S_22) (fun _ => 0)) (aX (aPut (aNew S_22 100 8 8) (cl + i) 14 (some (aX S_22)))) (fun _ => 0) = x := ⟨_, rfl⟩
  have RM_25 : RelM cl (n + 1 + 1 + 1 + 1 + 1 + 1 + 1 + 1 + 1 + 1 + 1 + 1) M0 M_25 ex := by
    rw [← eM_25]
    exact (RelM.new (RelM.new RM_20 (RelS.ax RS_22)) (RelS.ax (RelS.put (RelS.new RS_22) (RelS.ax RS_22))))
  obtain ⟨S_27, eS_27⟩ : ∃ x, aPut S_24 (cl + i) 15 (some (aX (aPut (aNew S_22 100 8 8) (cl + i) 14 (some (aX S_22))))) = x := ⟨_, rfl⟩
  have RS_27 : RelS cl S0 S_27 (tPut ((tPut ((tPut ((tPut ((tPut ((tPut ((tPut ((tPut ((tPut ((tPut ((tPut ((tPut (t ++ [(100, 45, [])]) i 4 (n)) ++ [(100, 45, [])]) i 5 (n + 1)) ++ [(100, 5, [])]) i 6 (n + 1 + 1)) ++ [(100, 5, [])]) i 7 (n + 1 + 1 + 1)) ++ [(100, 5, [])]) i 8 (n + 1 + 1 + 1 + 1)) ++ [(100, 5, [])]) i 9 (n + 1 + 1 + 1 + 1 + 1)) ++ [(100, 5, [])]) i 10 (n + 1 + 1 + 1 + 1 + 1 + 1)) ++ [(100, 5, [])]) i 11 (n + 1 + 1 + 1 + 1 + 1 + 1 + 1)) ++ [(100, 8, [])]) i 12 (n + 1 + 1 + 1 + 1 + 1 + 1 + 1 + 1)) ++ [(100, 8, [])]) i 13 (n + 1 + 1 + 1 + 1 + 1 + 1 + 1 + 1 + 1)) ++ [(100, 8, [])]) i 14 (n + 1 + 1 + 1 + 1 + 1 + 1 + 1 + 1 + 1 + 1)) ++ [(100, 8, [])]) i 15 (n + 1 + 1 + 1 + 1 + 1 + 1 + 1 + 1 + 1 + 1 + 1)) (n + 1 + 1 + 1 + 1 + 1 + 1 + 1 + 1 + 1 + 1 + 1 + 1) (z + 45 + 45 + 5 + 5 + 5 + 5 + 5 + 5 + 8 + 8 + 8 + 8) := by
    rw [← eS_27]
    exact (RelS.put RS_24 (RelS.ax (RelS.put (RelS.new RS_22) (RelS.ax RS_22))))
  have KS_27 : KS (cl + n) S S_27 := by
    rw [← eS_27]
    exact (KS.put KS_24)
  exact kX6_init_0 (((KS.new kS).2 _ (by omega)).trans hk) eM_2 (((KS.new (KS.put (KS.new kS))).2 _ (by omega)).trans hk) eS_4 (((KS.new KS_4).2 _ (by omega)).trans hk) eM_6 (((KS.new (KS.put (KS.new KS_4))).2 _ (by omega)).trans hk) eS_8 (((KS.new KS_8).2 _ (by omega)).trans hk) eM_10 (((KS.new (KS.put (KS.new KS_8))).2 _ (by omega)).trans hk) eS_12 (((KS.new KS_12).2 _ (by omega)).trans hk) eS_14 eM_15 ((KS_14.2 _ (by omega)).trans hk) eS_17 (((KS.new KS_17).2 _ (by omega)).trans hk) eS_19 eM_20 ((KS_19.2 _ (by omega)).trans hk) eS_22 (((KS.new KS_22).2 _ (by omega)).trans hk) eS_24 eM_25 ((KS_24.2 _ (by omega)).trans hk) eS_27 ((KS_27.2 _ (by omega)).trans hk) (q _ _ (RelS.put (RelS.put RS_27 ha2) ha1) (RelM.w (RelM.w RM_25 (by omega) (by decide)) (by omega) (by decide)) (KS.put (KS.put KS_27)).2)
theorem RelS.last {k m : Nat} {p : List (Nat × Nat)} (h : RelS cl S0 S (t ++ [(k, m, p)]) (n + 1) z) : aK S (cl + n) = k := by
  have hl : t.length + 1 = n + 1 := by rw [← h.1, List.length_append]; rfl
  refine (h.2.2.2.2 n k m p ?_).1
  rw [List.getElem?_append_right (by omega), show n - t.length = 0 by omega]
  rfl
theorem rX3_init {a0 : Nat} (ha0 : a0 = cl + i) (hS : RelS cl S0 S t n z) (hM : RelM cl n M0 M ex) (hi : i < n) (hk : aK S (cl + i) = 5) (hd : 1 ≤ d)
    (q : ∀ S' M', RelS cl S0 S' (tPut (tPut ((tPut ((tPut ((tPut ((tPut ((tPut ((tPut ((tPut ((tPut ((((tPut ((tPut ((tPut ((tPut ((tPut ((tPut ((tPut ((tPut ((tPut ((tPut ((tPut (t ++ [(100, 5, [])]) i 4 (n)) ++ [(100, 5, [])]) i 5 (n + 1)) ++ [(100, 5, [])]) i 6 (n + 1 + 1)) ++ [(100, 45, [])]) i 7 (n + 1 + 1 + 1)) ++ [(100, 5, [])]) i 8 (n + 1 + 1 + 1 + 1)) ++ [(100, 5, [])]) i 9 (n + 1 + 1 + 1 + 1 + 1)) ++ [(100, 8, [])]) i 10 (n + 1 + 1 + 1 + 1 + 1 + 1)) ++ [(100, 8, [])]) i 11 (n + 1 + 1 + 1 + 1 + 1 + 1 + 1)) ++ [(100, 8, [])]) i 12 (n + 1 + 1 + 1 + 1 + 1 + 1 + 1 + 1)) ++ [(100, 8, [])]) i 13 (n + 1 + 1 + 1 + 1 + 1 + 1 + 1 + 1 + 1)) ++ [(100, 8, [])]) i 14 (n + 1 + 1 + 1 + 1 + 1 + 1 + 1 + 1 + 1 + 1)) ++ [(3, 11, [])])) ++ [(100, 20, [])]) (n + 1 + 1 + 1 + 1 + 1 + 1 + 1 + 1 + 1 + 1 + 1) 1 ((n + 1 + 1 + 1 + 1 + 1 + 1 + 1 + 1 + 1 + 1 + 1 + 1))) ++ [(100, 20, [])]) (n + 1 + 1 + 1 + 1 + 1 + 1 + 1 + 1 + 1 + 1 + 1) 2 ((n + 1 + 1 + 1 + 1 + 1 + 1 + 1 + 1 + 1 + 1 + 1 + 1) + 1)) ++ [(100, 20, [])]) (n + 1 + 1 + 1 + 1 + 1 + 1 + 1 + 1 + 1 + 1 + 1) 3 ((n + 1 + 1 + 1 + 1 + 1 + 1 + 1 + 1 + 1 + 1 + 1 + 1) + 1 + 1)) ++ [(100, 20, [])]) (n + 1 + 1 + 1 + 1 + 1 + 1 + 1 + 1 + 1 + 1 + 1) 4 ((n + 1 + 1 + 1 + 1 + 1 + 1 + 1 + 1 + 1 + 1 + 1 + 1) + 1 + 1 + 1)) ++ [(100, 20, [])]) (n + 1 + 1 + 1 + 1 + 1 + 1 + 1 + 1 + 1 + 1 + 1) 5 ((n + 1 + 1 + 1 + 1 + 1 + 1 + 1 + 1 + 1 + 1 + 1 + 1) + 1 + 1 + 1 + 1)) ++ [(100, 20, [])]) (n + 1 + 1 + 1 + 1 + 1 + 1 + 1 + 1 + 1 + 1 + 1) 6 ((n + 1 + 1 + 1 + 1 + 1 + 1 + 1 + 1 + 1 + 1 + 1 + 1) + 1 + 1 + 1 + 1 + 1)) ++ [(100, 20, [])]) (n + 1 + 1 + 1 + 1 + 1 + 1 + 1 + 1 + 1 + 1 + 1) 7 ((n + 1 + 1 + 1 + 1 + 1 + 1 + 1 + 1 + 1 + 1 + 1 + 1) + 1 + 1 + 1 + 1 + 1 + 1)) ++ [(100, 400, [])]) (n + 1 + 1 + 1 + 1 + 1 + 1 + 1 + 1 + 1 + 1 + 1) 9 ((n + 1 + 1 + 1 + 1 + 1 + 1 + 1 + 1 + 1 + 1 + 1 + 1) + 1 + 1 + 1 + 1 + 1 + 1 + 1)) ++ [(100, 400, [])]) (n + 1 + 1 + 1 + 1 + 1 + 1 + 1 + 1 + 1 + 1 + 1) 10 ((n + 1 + 1 + 1 + 1 + 1 + 1 + 1 + 1 + 1 + 1 + 1 + 1) + 1 + 1 + 1 + 1 + 1 + 1 + 1 + 1)) i 15 (n + 1 + 1 + 1 + 1 + 1 + 1 + 1 + 1 + 1 + 1 + 1)) ((n + 1 + 1 + 1 + 1 + 1 + 1 + 1 + 1 + 1 + 1 + 1 + 1) + 1 + 1 + 1 + 1 + 1 + 1 + 1 + 1 + 1) ((z + 5 + 5 + 5 + 45 + 5 + 5 + 8 + 8 + 8 + 8 + 8 + 11) + 20 + 20 + 20 + 20 + 20 + 20 + 20 + 400 + 400) → RelM cl ((n + 1 + 1 + 1 + 1 + 1 + 1 + 1 + 1 + 1 + 1 + 1 + 1) + 1 + 1 + 1 + 1 + 1 + 1 + 1 + 1 + 1) M0 M' ex → (∀ b, b < cl + n → aK S' b = aK S b) → Q (some none) S' (mI M')) :
    X E d fX3_init 0 [some (.ref a0)] [] S (mI M) Q := by
  subst ha0
  have kS : KS (cl + n) S S := KS.rf (Nat.le_of_eq (RelS.ax hS).symm)
  obtain ⟨M_2, eM_2⟩ : ∃ x, aU (aU M (aX S) (fun _ => 0)) (aX (aPut (aNew S 100 5 5) (cl + i) 4 (some (aX S)))) (fun _ => 0) = x := ⟨_, rfl⟩
  have RM_2 : RelM cl (n + 1 + 1) M0 M_2 ex := by
    rw [← eM_2]
    exact (RelM.new (RelM.new hM (RelS.ax hS)) (RelS.ax (RelS.put (RelS.new hS) (RelS.ax hS))))
  obtain ⟨S_4, eS_4⟩ : ∃ x, aPut (aNew (aPut (aNew S 100 5 5) (cl + i) 4 (some (aX S))) 100 5 5) (cl + i) 5 (some (aX (aPut (aNew S 100 5 5) (cl + i) 4 (some (aX S))))) = x := ⟨_, rfl⟩
  have RS_4 : RelS cl S0 S_4 (tPut ((tPut (t ++ [(100, 5, [])]) i 4 (n)) ++ [(100, 5, [])]) i 5 (n + 1)) (n + 1 + 1) (z + 5 + 5) := by
    rw [← eS_4]
    exact (RelS.put (RelS.new (RelS.put (RelS.new hS) (RelS.ax hS))) (RelS.ax (RelS.put (RelS.new hS) (RelS.ax hS))))
  have KS_4 : KS (cl + n) S S_4 := by
    rw [← eS_4]
    exact (KS.put (KS.new (KS.put (KS.new kS))))
  obtain ⟨S_6, eS_6⟩ : ∃ x, aNew (aPut (aNew S_4 100 5 5) (cl + i) 6 (some (aX S_4))) 100 45 45 = x := ⟨_, rfl⟩
  have RS_6 : RelS cl S0 S_6 ((tPut ((tPut ((tPut (t ++ [(100, 5, [])]) i 4 (n)) ++ [(100, 5, [])]) i 5 (n + 1)) ++ [(100, 5, [])]) i 6 (n + 1 + 1)) ++ [(100, 45, [])]) (n + 1 + 1 + 1 + 1) (z + 5 + 5 + 5 + 45) := by
    rw [← eS_6]
    exact (RelS.new (RelS.put (RelS.new RS_4) (RelS.ax RS_4)))
  have KS_6 : KS (cl + n) S S_6 := by
    rw [← eS_6]
    exact (KS.new (KS.put (KS.new KS_4)))
  obtain ⟨M_7, eM_7⟩ : ∃ x, aU (aU M_2 (aX S_4) (fun _ => 0)) (aX (aPut (aNew S_4 100 5 5) (cl + i) 6 (some (aX S_4)))) (fun _ => 0) = x := ⟨_, rfl⟩
  have RM_7 : RelM cl (n + 1 + 1 + 1 + 1) M0 M_7 ex := by
    rw [← eM_7]
    exact (RelM.new (RelM.new RM_2 (RelS.ax RS_4)) (RelS.ax (RelS.put (RelS.new RS_4) (RelS.ax RS_4))))
  obtain ⟨S_9, eS_9⟩ : ∃ x, aPut S_6 (cl + i) 7 (some (aX (aPut (aNew S_4 100 5 5) (cl + i) 6 (some (aX S_4))))) = x := ⟨_, rfl⟩
  have RS_9 : RelS cl S0 S_9 (tPut ((tPut ((tPut ((tPut (t ++ [(100, 5, [])]) i 4 (n)) ++ [(100, 5, [])]) i 5 (n + 1)) ++ [(100, 5, [])]) i 6 (n + 1 + 1)) ++ [(100, 45, [])]) i 7 (n + 1 + 1 + 1)) (n + 1 + 1 + 1 + 1) (z + 5 + 5 + 5 + 45) := by
    rw [← eS_9]
    exact (RelS.put RS_6 (RelS.ax (RelS.put (RelS.new RS_4) (RelS.ax RS_4))))
  have KS_9 : KS (cl + n) S S_9 := by
    rw [← eS_9]
    exact (KS.put KS_6)
  obtain ⟨M_11, eM_11⟩ : ∃ x, aU (aU M_7 (aX S_9) (fun _ => 0)) (aX (aPut (aNew S_9 100 5 5) (cl + i) 8 (some (aX S_9)))) (fun _ => 0) = x := ⟨_, rfl⟩
  have RM_11 : RelM cl (n + 1 + 1 + 1 + 1 + 1 + 1) M0 M_11 ex := by
    rw [← eM_11]
    exact (RelM.new (RelM.new RM_7 (RelS.ax RS_9)) (RelS.ax (RelS.put (RelS.new RS_9) (RelS.ax RS_9))))
  obtain ⟨S_13, eS_13⟩ : ∃ x, aPut (aNew (aPut (aNew S_9 100 5 5) (cl + i) 8 (some (aX S_9))) 100 5 5) (cl + i) 9 (some (aX (aPut (aNew S_9 100 5 5) (cl + i) 8 (some (aX S_9))))) = x := ⟨_, rfl⟩
  have RS_13 : RelS cl S0 S_13 (tPut ((tPut ((tPut ((tPut ((tPut ((tPut (t ++ [(100, 5, [])]) i 4 (n)) ++ [(100, 5, [])]) i 5 (n + 1)) ++ [(100, 5, [])]) i 6 (n + 1 + 1)) ++ [(100, 45, [])]) i 7 (n + 1 + 1 + 1)) ++ [(100, 5, [])]) i 8 (n + 1 + 1 + 1 + 1)) ++ [(100, 5, [])]) i 9 (n + 1 + 1 + 1 + 1 + 1)) (n + 1 + 1 + 1 + 1 + 1 + 1) (z + 5 + 5 + 5 + 45 + 5 + 5) := by
    rw [← eS_13]
    exact (RelS.put (RelS.new (RelS.put (RelS.new RS_9) (RelS.ax RS_9))) (RelS.ax (RelS.put (RelS.new RS_9) (RelS.ax RS_9))))
  have KS_13 : KS (cl + n) S S_13 := by
    rw [← eS_13]
    exact (KS.put (KS.new (KS.put (KS.new KS_9))))
  obtain ⟨S_15, eS_15⟩ : ∃ x, aNew (aPut (aNew S_13 100 8 8) (cl + i) 10 (some (aX S_13))) 100 8 8 = x := ⟨_, rfl⟩
  have RS_15 : RelS cl S0 S_15 ((tPut ((tPut ((tPut ((tPut ((tPut ((tPut ((tPut (t ++ [(100, 5, [])]) i 4 (n)) ++ [(100, 5, [])]) i 5 (n + 1)) ++ [(100, 5, [])]) i 6 (n + 1 + 1)) ++ [(100, 45, [])]) i 7 (n + 1 + 1 + 1)) ++ [(100, 5, [])]) i 8 (n + 1 + 1 + 1 + 1)) ++ [(100, 5, [])]) i 9 (n + 1 + 1 + 1 + 1 + 1)) ++ [(100, 8, [])]) i 10 (n + 1 + 1 + 1 + 1 + 1 + 1)) ++ [(100, 8, [])]) (n + 1 + 1 + 1 + 1 + 1 + 1 + 1 + 1) (z + 5 + 5 + 5 + 45 + 5 + 5 + 8 + 8) := by
    rw [← eS_15]
    exact (RelS.new (RelS.put (RelS.new RS_13) (RelS.ax RS_13)))
  have KS_15 : KS (cl + n) S S_15 := by
    rw [← eS_15]
    exact (KS.new (KS.put (KS.new KS_13)))
  obtain ⟨M_16, eM_16⟩ : ∃ x, aU (aU M_11 (aX S_13) (fun _ => 0)) (aX (aPut (aNew S_13 100 8 8) (cl + i) 10 (some (aX S_13)))) (fun _ => 0) = x := ⟨_, rfl⟩
  have RM_16 : RelM cl (n + 1 + 1 + 1 + 1 + 1 + 1 + 1 + 1) M0 M_16 ex := by
    rw [← eM_16]
    exact (RelM.new (RelM.new RM_11 (RelS.ax RS_13)) (RelS.ax (RelS.put (RelS.new RS_13) (RelS.ax RS_13))))
  obtain ⟨S_18, eS_18⟩ : ∃ x, aPut S_15 (cl + i) 11 (some (aX (aPut (aNew S_13 100 8 8) (cl + i) 10 (some (aX S_13))))) = x := ⟨_, rfl⟩
  have RS_18 : RelS cl S0 S_18 (tPut ((tPut ((tPut ((tPut ((tPut ((tPut ((tPut ((tPut (t ++ [(100, 5, [])]) i 4 (n)) ++ [(100, 5, [])]) i 5 (n + 1)) ++ [(100, 5, [])]) i 6 (n + 1 + 1)) ++ [(100, 45, [])]) i 7 (n + 1 + 1 + 1)) ++ [(100, 5, [])]) i 8 (n + 1 + 1 + 1 + 1)) ++ [(100, 5, [])]) i 9 (n + 1 + 1 + 1 + 1 + 1)) ++ [(100, 8, [])]) i 10 (n + 1 + 1 + 1 + 1 + 1 + 1)) ++ [(100, 8, [])]) i 11 (n + 1 + 1 + 1 + 1 + 1 + 1 + 1)) (n + 1 + 1 + 1 + 1 + 1 + 1 + 1 + 1) (z + 5 + 5 + 5 + 45 + 5 + 5 + 8 + 8) := by
    rw [← eS_18]
    exact (RelS.put RS_15 (RelS.ax (RelS.put (RelS.new RS_13) (RelS.ax RS_13))))
  have KS_18 : KS (cl + n) S S_18 := by
    rw [← eS_18]
    exact (KS.put KS_15)
  obtain ⟨S_20, eS_20⟩ : ∃ x, aNew (aPut (aNew S_18 100 8 8) (cl + i) 12 (some (aX S_18))) 100 8 8 = x := ⟨_, rfl⟩
  have RS_20 : RelS cl S0 S_20 ((tPut ((tPut ((tPut ((tPut ((tPut ((tPut ((tPut ((tPut ((tPut (t ++ [(100, 5, [])]) i 4 (n)) ++ [(100, 5, [])]) i 5 (n + 1)) ++ [(100, 5, [])]) i 6 (n + 1 + 1)) ++ [(100, 45, [])]) i 7 (n + 1 + 1 + 1)) ++ [(100, 5, [])]) i 8 (n + 1 + 1 + 1 + 1)) ++ [(100, 5, [])]) i 9 (n + 1 + 1 + 1 + 1 + 1)) ++ [(100, 8, [])]) i 10 (n + 1 + 1 + 1 + 1 + 1 + 1)) ++ [(100, 8, [])]) i 11 (n + 1 + 1 + 1 + 1 + 1 + 1 + 1)) ++ [(100, 8, [])]) i 12 (n + 1 + 1 + 1 + 1 + 1 + 1 + 1 + 1)) ++ [(100, 8, [])]) (n + 1 + 1 + 1 + 1 + 1 + 1 + 1 + 1 + 1 + 1) (z + 5 + 5 + 5 + 45 + 5 + 5 + 8 + 8 + 8 + 8) := by
    rw [← eS_20]
    exact (RelS.new (RelS.put (RelS.new RS_18) (RelS.ax RS_18)))
  have KS_20 : KS (cl + n) S S_20 := by
    rw [← eS_20]
    exact (KS.new (KS.put (KS.new KS_18)))
  obtain ⟨M_21, eM_21⟩ : ∃ x, aU (aU M_16 (aX S_18) (fun _ => 0)) (aX (aPut (aNew S_18 100 8 8) (cl + i) 12 (some (aX S_18)))) (fun _ => 0) = x := ⟨_, rfl⟩
  have RM_21 : RelM cl (n + 1 + 1 + 1 + 1 + 1 + 1 + 1 + 1 + 1 + 1) M0 M_21 ex := by
    rw [← eM_21]
    exact (RelM.new (RelM.new RM_16 (RelS.ax RS_18)) (RelS.ax (RelS.put (RelS.new RS_18) (RelS.ax RS_18))))
  obtain ⟨S_23, eS_23⟩ : ∃ x, aPut S_20 (cl + i) 13 (some (aX (aPut (aNew S_18 100 8 8) (cl + i) 12 (some (aX S_18))))) = x := ⟨_, rfl⟩
  have RS_23 : RelS cl S0 S_23 (tPut ((tPut ((tPut ((tPut ((tPut ((tPut ((tPut ((tPut ((tPut ((tPut (t ++ [(100, 5, [])]) i 4 (n)) ++ [(100, 5, [])]) i 5 (n + 1)) ++ [(100, 5, [])]) i 6 (n + 1 + 1)) ++ [(100, 45, [])]) i 7 (n + 1 + 1 + 1)) ++ [(100, 5, [])]) i 8 (n + 1 + 1 + 1 + 1)) ++ [(100, 5, [])]) i 9 (n + 1 + 1 + 1 + 1 + 1)) ++ [(100, 8, [])]) i 10 (n + 1 + 1 + 1 + 1 + 1 + 1)) ++ [(100, 8, [])]) i 11 (n + 1 + 1 + 1 + 1 + 1 + 1 + 1)) ++ [(100, 8, [])]) i 12 (n + 1 + 1 + 1 + 1 + 1 + 1 + 1 + 1)) ++ [(100, 8, [])]) i 13 (n + 1 + 1 + 1 + 1 + 1 + 1 + 1 + 1 + 1)) (n + 1 + 1 + 1 + 1 + 1 + 1 + 1 + 1 + 1 + 1) (z + 5 + 5 + 5 + 45 + 5 + 5 + 8 + 8 + 8 + 8) := by
    rw [← eS_23]
    exact (RelS.put RS_20 (RelS.ax (RelS.put (RelS.new RS_18) (RelS.ax RS_18))))
  have KS_23 : KS (cl + n) S S_23 := by
    rw [← eS_23]
    exact (KS.put KS_20)
  obtain ⟨S_25, eS_25⟩ : ∃ x, aNew (aPut (aNew S_23 100 8 8) (cl + i) 14 (some (aX S_23))) 3 11 11 = x := ⟨_, rfl⟩
  have RS_25 : RelS cl S0 S_25 ((tPut ((tPut ((tPut ((tPut ((tPut ((tPut ((tPut ((tPut ((tPut ((tPut ((tPut (t ++ [(100, 5, [])]) i 4 (n)) ++ [(100, 5, [])]) i 5 (n + 1)) ++ [(100, 5, [])]) i 6 (n + 1 + 1)) ++ [(100, 45, [])]) i 7 (n + 1 + 1 + 1)) ++ [(100, 5, [])]) i 8 (n + 1 + 1 + 1 + 1)) ++ [(100, 5, [])]) i 9 (n + 1 + 1 + 1 + 1 + 1)) ++ [(100, 8, [])]) i 10 (n + 1 + 1 + 1 + 1 + 1 + 1)) ++ [(100, 8, [])]) i 11 (n + 1 + 1 + 1 + 1 + 1 + 1 + 1)) ++ [(100, 8, [])]) i 12 (n + 1 + 1 + 1 + 1 + 1 + 1 + 1 + 1)) ++ [(100, 8, [])]) i 13 (n + 1 + 1 + 1 + 1 + 1 + 1 + 1 + 1 + 1)) ++ [(100, 8, [])]) i 14 (n + 1 + 1 + 1 + 1 + 1 + 1 + 1 + 1 + 1 + 1)) ++ [(3, 11, [])]) (n + 1 + 1 + 1 + 1 + 1 + 1 + 1 + 1 + 1 + 1 + 1 + 1) (z + 5 + 5 + 5 + 45 + 5 + 5 + 8 + 8 + 8 + 8 + 8 + 11) := by
    rw [← eS_25]
    exact (RelS.new (RelS.put (RelS.new RS_23) (RelS.ax RS_23)))
  have KS_25 : KS (cl + n) S S_25 := by
    rw [← eS_25]
    exact (KS.new (KS.put (KS.new KS_23)))
  obtain ⟨M_26, eM_26⟩ : ∃ x, aU (aU M_21 (aX S_23) (fun _ => 0)) (aX (aPut (aNew S_23 100 8 8) (cl + i) 14 (some (aX S_23)))) (fun _ => 0) = x := ⟨_, rfl⟩
  have RM_26 : RelM cl (n + 1 + 1 + 1 + 1 + 1 + 1 + 1 + 1 + 1 + 1 + 1 + 1) M0 M_26 ex := by
    rw [← eM_26]
    exact (RelM.new (RelM.new RM_21 (RelS.ax RS_23)) (RelS.ax (RelS.put (RelS.new RS_23) (RelS.ax RS_23))))
  have KK : aK S_25 (cl + (n + 1 + 1 + 1 + 1 + 1 + 1 + 1 + 1 + 1 + 1 + 1)) = 3 := RelS.last RS_25
  exact kX3_init_0 (((KS.new kS).2 _ (by omega)).trans hk) eM_2 (((KS.new (KS.put (KS.new kS))).2 _ (by omega)).trans hk) eS_4 (((KS.new KS_4).2 _ (by omega)).trans hk) eS_6 eM_7 ((KS_6.2 _ (by omega)).trans hk) eS_9 (((KS.new KS_9).2 _ (by omega)).trans hk) eM_11 (((KS.new (KS.put (KS.new KS_9))).2 _ (by omega)).trans hk) eS_13 (((KS.new KS_13).2 _ (by omega)).trans hk) eS_15 eM_16 ((KS_15.2 _ (by omega)).trans hk) eS_18 (((KS.new KS_18).2 _ (by omega)).trans hk) eS_20 eM_21 ((KS_20.2 _ (by omega)).trans hk) eS_23 (((KS.new KS_23).2 _ (by omega)).trans hk) eS_25 eM_26 hd (rX1_init (i := n + 1 + 1 + 1 + 1 + 1 + 1 + 1 + 1 + 1 + 1 + 1) (RelS.ax (RelS.put (RelS.new RS_23) (RelS.ax RS_23))) RS_25 RM_26 (by omega) KK (fun S1 M1 h1 g1 k1 => ⟨none, rfl, kX3_init_95 ((k1 _ (by omega)).trans ((KS_25.2 _ (by omega)).trans hk)) (q _ _ (RelS.put h1 (RelS.ax (RelS.put (RelS.new RS_23) (RelS.ax RS_23)))) g1 (fun b hb => (k1 b (by omega)).trans (KS_25.2 b hb)))⟩))
end RC
