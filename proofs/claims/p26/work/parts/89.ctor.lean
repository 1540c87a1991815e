/-! constructors, by program (wip/p26/gen88.py) -/
section RC
variable {cl n z i j x v : Nat} {E : Nat → Value} {d : Nat} {S0 S : aS} {M0 M : Nat → Nat → Int} {Q : Option (Option Value) → aS → aI → Prop} {t : rT} {ex : List (Nat × Nat × Int)}
theorem RelS.lb {b : Nat} (h : RelS cl S0 S t n z) (hb : b < cl + n) : b < aX S := by rw [h.ax]; exact hb
theorem rX0_init (hS : RelS cl S0 S t n z) (hM : RelM cl n M0 M ex) (hi : i < n) (hk : aK S (cl + i) = 2) {a1 x1 : Nat} (ha1 : a1 = cl + x1)
    (q : ∀ S' M', RelS cl S0 S' (tPut t i 0 (x1)) (n) (z) → RelM cl (n) M0 M' ex → (∀ b, b < cl + n → aK S' b = aK S b) → Q (some none) S' (mI M')) :
    X E d fX0_init 0 [some (.ref (cl + i)), some (.ref a1)] [] S (mI M) Q := by
  exact kX0_init_0 hk (q _ _ (RelS.put hS ha1) hM (fun b hb => rfl))
theorem rX1_init (hS : RelS cl S0 S t n z) (hM : RelM cl n M0 M ex) (hi : i < n) (hk : aK S (cl + i) = 3)
    (q : ∀ S' M', RelS cl S0 S' (tPut ((tPut ((tPut ((tPut ((tPut ((tPut ((tPut ((tPut ((tPut (t ++ [(100, 20, [])]) i 1 (n)) ++ [(100, 20, [])]) i 2 (n + 1)) ++ [(100, 20, [])]) i 3 (n + 1 + 1)) ++ [(100, 20, [])]) i 4 (n + 1 + 1 + 1)) ++ [(100, 20, [])]) i 5 (n + 1 + 1 + 1 + 1)) ++ [(100, 20, [])]) i 6 (n + 1 + 1 + 1 + 1 + 1)) ++ [(100, 20, [])]) i 7 (n + 1 + 1 + 1 + 1 + 1 + 1)) ++ [(100, 400, [])]) i 9 (n + 1 + 1 + 1 + 1 + 1 + 1 + 1)) ++ [(100, 400, [])]) i 10 (n + 1 + 1 + 1 + 1 + 1 + 1 + 1 + 1)) (n + 1 + 1 + 1 + 1 + 1 + 1 + 1 + 1 + 1) (z + 20 + 20 + 20 + 20 + 20 + 20 + 20 + 400 + 400) → RelM cl (n + 1 + 1 + 1 + 1 + 1 + 1 + 1 + 1 + 1) M0 M' ex → (∀ b, b < cl + n → aK S' b = aK S b) → Q (some none) S' (mI M')) :
    X E d fX1_init 0 [some (.ref (cl + i))] [] S (mI M) Q := by
  obtain ⟨M_2, eM_2⟩ : ∃ x, aU (aU M (aX S) (fun _ => 0)) (aX (aPut (aNew S 100 20 20) (cl + i) 1 (some (aX S)))) (fun _ => 0) = x := ⟨_, rfl⟩
  have RM_2 : RelM cl (n + 1 + 1) M0 M_2 ex := by
    rw [← eM_2]
    exact (RelM.new (RelM.new hM (RelS.ax hS)) (RelS.ax (RelS.put (RelS.new hS) (RelS.ax hS))))
  obtain ⟨S_4, eS_4⟩ : ∃ x, aPut (aNew (aPut (aNew S 100 20 20) (cl + i) 1 (some (aX S))) 100 20 20) (cl + i) 2 (some (aX (aPut (aNew S 100 20 20) (cl + i) 1 (some (aX S))))) = x := ⟨_, rfl⟩
  have RS_4 : RelS cl S0 S_4 (tPut ((tPut (t ++ [(100, 20, [])]) i 1 (n)) ++ [(100, 20, [])]) i 2 (n + 1)) (n + 1 + 1) (z + 20 + 20) := by
    rw [← eS_4]
    exact (RelS.put (RelS.new (RelS.put (RelS.new hS) (RelS.ax hS))) (RelS.ax (RelS.put (RelS.new hS) (RelS.ax hS))))
  have BS_4 : ∀ b, b < cl + n → aK S_4 b = aK S b := fun b hb => by
    rw [← eS_4]
    exact ((nK_lt (RelS.lb (RelS.put (RelS.new hS) (RelS.ax hS)) (by omega))).trans (nK_lt (RelS.lb hS (by omega))))
  obtain ⟨S_6, eS_6⟩ : ∃ x, aNew (aPut (aNew S_4 100 20 20) (cl + i) 3 (some (aX S_4))) 100 20 20 = x := ⟨_, rfl⟩
  have RS_6 : RelS cl S0 S_6 ((tPut ((tPut ((tPut (t ++ [(100, 20, [])]) i 1 (n)) ++ [(100, 20, [])]) i 2 (n + 1)) ++ [(100, 20, [])]) i 3 (n + 1 + 1)) ++ [(100, 20, [])]) (n + 1 + 1 + 1 + 1) (z + 20 + 20 + 20 + 20) := by
    rw [← eS_6]
    exact (RelS.new (RelS.put (RelS.new RS_4) (RelS.ax RS_4)))
  have BS_6 : ∀ b, b < cl + n → aK S_6 b = aK S b := fun b hb => by
    rw [← eS_6]
    exact ((nK_lt (RelS.lb (RelS.put (RelS.new RS_4) (RelS.ax RS_4)) (by omega))).trans ((nK_lt (RelS.lb RS_4 (by omega))).trans (BS_4 b (by omega))))
  obtain ⟨M_7, eM_7⟩ : ∃ x, aU (aU M_2 (aX S_4) (fun _ => 0)) (aX (aPut (aNew S_4 100 20 20) (cl + i) 3 (some (aX S_4)))) (fun _ => 0) = x := ⟨_, rfl⟩
  have RM_7 : RelM cl (n + 1 + 1 + 1 + 1) M0 M_7 ex := by
    rw [← eM_7]
    exact (RelM.new (RelM.new RM_2 (RelS.ax RS_4)) (RelS.ax (RelS.put (RelS.new RS_4) (RelS.ax RS_4))))
  obtain ⟨S_9, eS_9⟩ : ∃ x, aPut S_6 (cl + i) 4 (some (aX (aPut (aNew S_4 100 20 20) (cl + i) 3 (some (aX S_4))))) = x := ⟨_, rfl⟩
  have RS_9 : RelS cl S0 S_9 (tPut ((tPut ((tPut ((tPut (t ++ [(100, 20, [])]) i 1 (n)) ++ [(100, 20, [])]) i 2 (n + 1)) ++ [(100, 20, [])]) i 3 (n + 1 + 1)) ++ [(100, 20, [])]) i 4 (n + 1 + 1 + 1)) (n + 1 + 1 + 1 + 1) (z + 20 + 20 + 20 + 20) := by
    rw [← eS_9]
    exact (RelS.put RS_6 (RelS.ax (RelS.put (RelS.new RS_4) (RelS.ax RS_4))))
  have BS_9 : ∀ b, b < cl + n → aK S_9 b = aK S b := fun b hb => by
    rw [← eS_9]
    exact (BS_6 b (by omega))
  obtain ⟨S_11, eS_11⟩ : ∃ x, aNew (aPut (aNew S_9 100 20 20) (cl + i) 5 (some (aX S_9))) 100 20 20 = x := ⟨_, rfl⟩
  have RS_11 : RelS cl S0 S_11 ((tPut ((tPut ((tPut ((tPut ((tPut (t ++ [(100, 20, [])]) i 1 (n)) ++ [(100, 20, [])]) i 2 (n + 1)) ++ [(100, 20, [])]) i 3 (n + 1 + 1)) ++ [(100, 20, [])]) i 4 (n + 1 + 1 + 1)) ++ [(100, 20, [])]) i 5 (n + 1 + 1 + 1 + 1)) ++ [(100, 20, [])]) (n + 1 + 1 + 1 + 1 + 1 + 1) (z + 20 + 20 + 20 + 20 + 20 + 20) := by
    rw [← eS_11]
    exact (RelS.new (RelS.put (RelS.new RS_9) (RelS.ax RS_9)))
  have BS_11 : ∀ b, b < cl + n → aK S_11 b = aK S b := fun b hb => by
    rw [← eS_11]
    exact ((nK_lt (RelS.lb (RelS.put (RelS.new RS_9) (RelS.ax RS_9)) (by omega))).trans ((nK_lt (RelS.lb RS_9 (by omega))).trans (BS_9 b (by omega))))
  obtain ⟨M_12, eM_12⟩ : ∃ x, aU (aU M_7 (aX S_9) (fun _ => 0)) (aX (aPut (aNew S_9 100 20 20) (cl + i) 5 (some (aX S_9)))) (fun _ => 0) = x := ⟨_, rfl⟩
  have RM_12 : RelM cl (n + 1 + 1 + 1 + 1 + 1 + 1) M0 M_12 ex := by
    rw [← eM_12]
    exact (RelM.new (RelM.new RM_7 (RelS.ax RS_9)) (RelS.ax (RelS.put (RelS.new RS_9) (RelS.ax RS_9))))
  obtain ⟨S_14, eS_14⟩ : ∃ x, aPut S_11 (cl + i) 6 (some (aX (aPut (aNew S_9 100 20 20) (cl + i) 5 (some (aX S_9))))) = x := ⟨_, rfl⟩
  have RS_14 : RelS cl S0 S_14 (tPut ((tPut ((tPut ((tPut ((tPut ((tPut (t ++ [(100, 20, [])]) i 1 (n)) ++ [(100, 20, [])]) i 2 (n + 1)) ++ [(100, 20, [])]) i 3 (n + 1 + 1)) ++ [(100, 20, [])]) i 4 (n + 1 + 1 + 1)) ++ [(100, 20, [])]) i 5 (n + 1 + 1 + 1 + 1)) ++ [(100, 20, [])]) i 6 (n + 1 + 1 + 1 + 1 + 1)) (n + 1 + 1 + 1 + 1 + 1 + 1) (z + 20 + 20 + 20 + 20 + 20 + 20) := by
    rw [← eS_14]
    exact (RelS.put RS_11 (RelS.ax (RelS.put (RelS.new RS_9) (RelS.ax RS_9))))
  have BS_14 : ∀ b, b < cl + n → aK S_14 b = aK S b := fun b hb => by
    rw [← eS_14]
    exact (BS_11 b (by omega))
  obtain ⟨S_16, eS_16⟩ : ∃ x, aNew (aPut (aNew S_14 100 20 20) (cl + i) 7 (some (aX S_14))) 100 400 400 = x := ⟨_, rfl⟩
  have RS_16 : RelS cl S0 S_16 ((tPut ((tPut ((tPut ((tPut ((tPut ((tPut ((tPut (t ++ [(100, 20, [])]) i 1 (n)) ++ [(100, 20, [])]) i 2 (n + 1)) ++ [(100, 20, [])]) i 3 (n + 1 + 1)) ++ [(100, 20, [])]) i 4 (n + 1 + 1 + 1)) ++ [(100, 20, [])]) i 5 (n + 1 + 1 + 1 + 1)) ++ [(100, 20, [])]) i 6 (n + 1 + 1 + 1 + 1 + 1)) ++ [(100, 20, [])]) i 7 (n + 1 + 1 + 1 + 1 + 1 + 1)) ++ [(100, 400, [])]) (n + 1 + 1 + 1 + 1 + 1 + 1 + 1 + 1) (z + 20 + 20 + 20 + 20 + 20 + 20 + 20 + 400) := by
    rw [← eS_16]
    exact (RelS.new (RelS.put (RelS.new RS_14) (RelS.ax RS_14)))
  have BS_16 : ∀ b, b < cl + n → aK S_16 b = aK S b := fun b hb => by
    rw [← eS_16]
    exact ((nK_lt (RelS.lb (RelS.put (RelS.new RS_14) (RelS.ax RS_14)) (by omega))).trans ((nK_lt (RelS.lb RS_14 (by omega))).trans (BS_14 b (by omega))))
  obtain ⟨M_17, eM_17⟩ : ∃ x, aU (aU M_12 (aX S_14) (fun _ => 0)) (aX (aPut (aNew S_14 100 20 20) (cl + i) 7 (some (aX S_14)))) (fun _ => 0) = x := ⟨_, rfl⟩
  have RM_17 : RelM cl (n + 1 + 1 + 1 + 1 + 1 + 1 + 1 + 1) M0 M_17 ex := by
    rw [← eM_17]
    exact (RelM.new (RelM.new RM_12 (RelS.ax RS_14)) (RelS.ax (RelS.put (RelS.new RS_14) (RelS.ax RS_14))))
  obtain ⟨S_19, eS_19⟩ : ∃ x, aPut S_16 (cl + i) 9 (some (aX (aPut (aNew S_14 100 20 20) (cl + i) 7 (some (aX S_14))))) = x := ⟨_, rfl⟩
  have RS_19 : RelS cl S0 S_19 (tPut ((tPut ((tPut ((tPut ((tPut ((tPut ((tPut ((tPut (t ++ [(100, 20, [])]) i 1 (n)) ++ [(100, 20, [])]) i 2 (n + 1)) ++ [(100, 20, [])]) i 3 (n + 1 + 1)) ++ [(100, 20, [])]) i 4 (n + 1 + 1 + 1)) ++ [(100, 20, [])]) i 5 (n + 1 + 1 + 1 + 1)) ++ [(100, 20, [])]) i 6 (n + 1 + 1 + 1 + 1 + 1)) ++ [(100, 20, [])]) i 7 (n + 1 + 1 + 1 + 1 + 1 + 1)) ++ [(100, 400, [])]) i 9 (n + 1 + 1 + 1 + 1 + 1 + 1 + 1)) (n + 1 + 1 + 1 + 1 + 1 + 1 + 1 + 1) (z + 20 + 20 + 20 + 20 + 20 + 20 + 20 + 400) := by
    rw [← eS_19]
    exact (RelS.put RS_16 (RelS.ax (RelS.put (RelS.new RS_14) (RelS.ax RS_14))))
  have BS_19 : ∀ b, b < cl + n → aK S_19 b = aK S b := fun b hb => by
    rw [← eS_19]
    exact (BS_16 b (by omega))
  exact kX1_init_0 ((nK_lt (RelS.lb hS (by omega))).trans hk) eM_2 (((nK_lt (RelS.lb (RelS.put (RelS.new hS) (RelS.ax hS)) (by omega))).trans (nK_lt (RelS.lb hS (by omega)))).trans hk) eS_4 (((nK_lt (RelS.lb RS_4 (by omega))).trans (BS_4 _ (by omega))).trans hk) eS_6 eM_7 ((BS_6 _ (by omega)).trans hk) eS_9 (((nK_lt (RelS.lb RS_9 (by omega))).trans (BS_9 _ (by omega))).trans hk) eS_11 eM_12 ((BS_11 _ (by omega)).trans hk) eS_14 (((nK_lt (RelS.lb RS_14 (by omega))).trans (BS_14 _ (by omega))).trans hk) eS_16 eM_17 ((BS_16 _ (by omega)).trans hk) eS_19 (((nK_lt (RelS.lb RS_19 (by omega))).trans (BS_19 _ (by omega))).trans hk) (q _ _ (RelS.put (RelS.new RS_19) (RelS.ax RS_19)) (RelM.new RM_17 (RelS.ax RS_19)) (fun b hb => ((nK_lt (RelS.lb RS_19 (by omega))).trans (BS_19 b (by omega)))))
theorem rX2_init (hS : RelS cl S0 S t n z) (hM : RelM cl n M0 M ex) (hi : i < n) (hk : aK S (cl + i) = 4)
    (q : ∀ S' M', RelS cl S0 S' (tPut (t ++ [(100, 400, [])]) i 0 (n)) (n + 1) (z + 400) → RelM cl (n + 1) M0 M' ex → (∀ b, b < cl + n → aK S' b = aK S b) → Q (some none) S' (mI M')) :
    X E d fX2_init 0 [some (.ref (cl + i))] [] S (mI M) Q := by
  exact kX2_init_0 ((nK_lt (RelS.lb hS (by omega))).trans hk) (q _ _ (RelS.put (RelS.new hS) (RelS.ax hS)) (RelM.new hM (RelS.ax hS)) (fun b hb => (nK_lt (RelS.lb hS (by omega)))))
theorem rX4_init (hS : RelS cl S0 S t n z) (hM : RelM cl n M0 M ex) (hi : i < n) (hk : aK S (cl + i) = 6) {a1 x1 : Nat} (ha1 : a1 = cl + x1) {a2 x2 : Nat} (ha2 : a2 = cl + x2)
    (q : ∀ S' M', RelS cl S0 S' (tPut (tPut (tPut ((tPut ((tPut (t ++ [(100, 5, [])]) i 3 (n)) ++ [(100, 5, [])]) i 4 (n + 1)) ++ [(100, 8, [])]) i 5 (n + 1 + 1)) i 0 (x1)) i 1 (x2)) (n + 1 + 1 + 1) (z + 5 + 5 + 8) → RelM cl (n + 1 + 1 + 1) M0 M' ex → (∀ b, b < cl + n → aK S' b = aK S b) → Q (some none) S' (mI M')) :
    X E d fX4_init 0 [some (.ref (cl + i)), some (.ref a1), some (.ref a2)] [] S (mI M) Q := by
  obtain ⟨M_2, eM_2⟩ : ∃ x, aU (aU M (aX S) (fun _ => 0)) (aX (aPut (aNew S 100 5 5) (cl + i) 3 (some (aX S)))) (fun _ => 0) = x := ⟨_, rfl⟩
  have RM_2 : RelM cl (n + 1 + 1) M0 M_2 ex := by
    rw [← eM_2]
    exact (RelM.new (RelM.new hM (RelS.ax hS)) (RelS.ax (RelS.put (RelS.new hS) (RelS.ax hS))))
  obtain ⟨S_4, eS_4⟩ : ∃ x, aPut (aNew (aPut (aNew S 100 5 5) (cl + i) 3 (some (aX S))) 100 5 5) (cl + i) 4 (some (aX (aPut (aNew S 100 5 5) (cl + i) 3 (some (aX S))))) = x := ⟨_, rfl⟩
  have RS_4 : RelS cl S0 S_4 (tPut ((tPut (t ++ [(100, 5, [])]) i 3 (n)) ++ [(100, 5, [])]) i 4 (n + 1)) (n + 1 + 1) (z + 5 + 5) := by
    rw [← eS_4]
    exact (RelS.put (RelS.new (RelS.put (RelS.new hS) (RelS.ax hS))) (RelS.ax (RelS.put (RelS.new hS) (RelS.ax hS))))
  have BS_4 : ∀ b, b < cl + n → aK S_4 b = aK S b := fun b hb => by
    rw [← eS_4]
    exact ((nK_lt (RelS.lb (RelS.put (RelS.new hS) (RelS.ax hS)) (by omega))).trans (nK_lt (RelS.lb hS (by omega))))
  obtain ⟨S_7, eS_7⟩ : ∃ x, aPut (aPut (aNew S_4 100 8 8) (cl + i) 5 (some (aX S_4))) (cl + i) 0 (some a1) = x := ⟨_, rfl⟩
  have RS_7 : RelS cl S0 S_7 (tPut (tPut ((tPut ((tPut (t ++ [(100, 5, [])]) i 3 (n)) ++ [(100, 5, [])]) i 4 (n + 1)) ++ [(100, 8, [])]) i 5 (n + 1 + 1)) i 0 (x1)) (n + 1 + 1 + 1) (z + 5 + 5 + 8) := by
    rw [← eS_7]
    exact (RelS.put (RelS.put (RelS.new RS_4) (RelS.ax RS_4)) ha1)
  have BS_7 : ∀ b, b < cl + n → aK S_7 b = aK S b := fun b hb => by
    rw [← eS_7]
    exact ((nK_lt (RelS.lb RS_4 (by omega))).trans (BS_4 b (by omega)))
  exact kX4_init_0 ((nK_lt (RelS.lb hS (by omega))).trans hk) eM_2 (((nK_lt (RelS.lb (RelS.put (RelS.new hS) (RelS.ax hS)) (by omega))).trans (nK_lt (RelS.lb hS (by omega)))).trans hk) eS_4 (((nK_lt (RelS.lb RS_4 (by omega))).trans (BS_4 _ (by omega))).trans hk) eS_7 ((BS_7 _ (by omega)).trans hk) (q _ _ (RelS.put RS_7 ha2) (RelM.new RM_2 (RelS.ax RS_4)) (fun b hb => (BS_7 b (by omega))))
theorem rX5_init (hS : RelS cl S0 S t n z) (hM : RelM cl n M0 M ex) (hi : i < n) (hk : aK S (cl + i) = 7)
    (q : ∀ S' M', RelS cl S0 S' (tPut ((tPut ((tPut ((tPut (t ++ [(100, 401, [])]) i 0 (n)) ++ [(100, 401, [])]) i 1 (n + 1)) ++ [(100, 401, [])]) i 2 (n + 1 + 1)) ++ [(100, 401, [])]) i 3 (n + 1 + 1 + 1)) (n + 1 + 1 + 1 + 1) (z + 401 + 401 + 401 + 401) → RelM cl (n + 1 + 1 + 1 + 1) M0 M' ex → (∀ b, b < cl + n → aK S' b = aK S b) → Q (some none) S' (mI M')) :
    X E d fX5_init 0 [some (.ref (cl + i))] [] S (mI M) Q := by
  obtain ⟨S_2, eS_2⟩ : ∃ x, aNew (aPut (aNew S 100 401 401) (cl + i) 0 (some (aX S))) 100 401 401 = x := ⟨_, rfl⟩
  have RS_2 : RelS cl S0 S_2 ((tPut (t ++ [(100, 401, [])]) i 0 (n)) ++ [(100, 401, [])]) (n + 1 + 1) (z + 401 + 401) := by
    rw [← eS_2]
    exact (RelS.new (RelS.put (RelS.new hS) (RelS.ax hS)))
  have BS_2 : ∀ b, b < cl + n → aK S_2 b = aK S b := fun b hb => by
    rw [← eS_2]
    exact ((nK_lt (RelS.lb (RelS.put (RelS.new hS) (RelS.ax hS)) (by omega))).trans (nK_lt (RelS.lb hS (by omega))))
  obtain ⟨M_3, eM_3⟩ : ∃ x, aU (aU M (aX S) (fun _ => 0)) (aX (aPut (aNew S 100 401 401) (cl + i) 0 (some (aX S)))) (fun _ => 0) = x := ⟨_, rfl⟩
  have RM_3 : RelM cl (n + 1 + 1) M0 M_3 ex := by
    rw [← eM_3]
    exact (RelM.new (RelM.new hM (RelS.ax hS)) (RelS.ax (RelS.put (RelS.new hS) (RelS.ax hS))))
  obtain ⟨S_5, eS_5⟩ : ∃ x, aPut S_2 (cl + i) 1 (some (aX (aPut (aNew S 100 401 401) (cl + i) 0 (some (aX S))))) = x := ⟨_, rfl⟩
  have RS_5 : RelS cl S0 S_5 (tPut ((tPut (t ++ [(100, 401, [])]) i 0 (n)) ++ [(100, 401, [])]) i 1 (n + 1)) (n + 1 + 1) (z + 401 + 401) := by
    rw [← eS_5]
    exact (RelS.put RS_2 (RelS.ax (RelS.put (RelS.new hS) (RelS.ax hS))))
  have BS_5 : ∀ b, b < cl + n → aK S_5 b = aK S b := fun b hb => by
    rw [← eS_5]
    exact (BS_2 b (by omega))
  obtain ⟨S_7, eS_7⟩ : ∃ x, aNew (aPut (aNew S_5 100 401 401) (cl + i) 2 (some (aX S_5))) 100 401 401 = x := ⟨_, rfl⟩
  have RS_7 : RelS cl S0 S_7 ((tPut ((tPut ((tPut (t ++ [(100, 401, [])]) i 0 (n)) ++ [(100, 401, [])]) i 1 (n + 1)) ++ [(100, 401, [])]) i 2 (n + 1 + 1)) ++ [(100, 401, [])]) (n + 1 + 1 + 1 + 1) (z + 401 + 401 + 401 + 401) := by
    rw [← eS_7]
    exact (RelS.new (RelS.put (RelS.new RS_5) (RelS.ax RS_5)))
  have BS_7 : ∀ b, b < cl + n → aK S_7 b = aK S b := fun b hb => by
    rw [← eS_7]
    exact ((nK_lt (RelS.lb (RelS.put (RelS.new RS_5) (RelS.ax RS_5)) (by omega))).trans ((nK_lt (RelS.lb RS_5 (by omega))).trans (BS_5 b (by omega))))
  obtain ⟨M_8, eM_8⟩ : ∃ x, aU (aU M_3 (aX S_5) (fun _ => 0)) (aX (aPut (aNew S_5 100 401 401) (cl + i) 2 (some (aX S_5)))) (fun _ => 0) = x := ⟨_, rfl⟩
  have RM_8 : RelM cl (n + 1 + 1 + 1 + 1) M0 M_8 ex := by
    rw [← eM_8]
    exact (RelM.new (RelM.new RM_3 (RelS.ax RS_5)) (RelS.ax (RelS.put (RelS.new RS_5) (RelS.ax RS_5))))
  obtain ⟨S_10, eS_10⟩ : ∃ x, aPut S_7 (cl + i) 3 (some (aX (aPut (aNew S_5 100 401 401) (cl + i) 2 (some (aX S_5))))) = x := ⟨_, rfl⟩
  have RS_10 : RelS cl S0 S_10 (tPut ((tPut ((tPut ((tPut (t ++ [(100, 401, [])]) i 0 (n)) ++ [(100, 401, [])]) i 1 (n + 1)) ++ [(100, 401, [])]) i 2 (n + 1 + 1)) ++ [(100, 401, [])]) i 3 (n + 1 + 1 + 1)) (n + 1 + 1 + 1 + 1) (z + 401 + 401 + 401 + 401) := by
    rw [← eS_10]
    exact (RelS.put RS_7 (RelS.ax (RelS.put (RelS.new RS_5) (RelS.ax RS_5))))
  have BS_10 : ∀ b, b < cl + n → aK S_10 b = aK S b := fun b hb => by
    rw [← eS_10]
    exact (BS_7 b (by omega))
  exact kX5_init_0 ((nK_lt (RelS.lb hS (by omega))).trans hk) eS_2 eM_3 ((BS_2 _ (by omega)).trans hk) eS_5 (((nK_lt (RelS.lb RS_5 (by omega))).trans (BS_5 _ (by omega))).trans hk) eS_7 eM_8 ((BS_7 _ (by omega)).trans hk) eS_10 (q _ _ RS_10 RM_8 (fun b hb => (BS_10 b (by omega))))
theorem rX6_init (hS : RelS cl S0 S t n z) (hM : RelM cl n M0 M ex) (hi : i < n) (hk : aK S (cl + i) = 8) {a1 x1 : Nat} (ha1 : a1 = cl + x1) {a2 x2 : Nat} (ha2 : a2 = cl + x2)
    (q : ∀ S' M', RelS cl S0 S' (tPut (tPut (tPut ((tPut ((tPut ((tPut ((tPut ((tPut ((tPut ((tPut ((tPut ((tPut ((tPut ((tPut (t ++ [(100, 45, [])]) i 4 (n)) ++ [(100, 45, [])]) i 5 (n + 1)) ++ [(100, 5, [])]) i 6 (n + 1 + 1)) ++ [(100, 5, [])]) i 7 (n + 1 + 1 + 1)) ++ [(100, 5, [])]) i 8 (n + 1 + 1 + 1 + 1)) ++ [(100, 5, [])]) i 9 (n + 1 + 1 + 1 + 1 + 1)) ++ [(100, 5, [])]) i 10 (n + 1 + 1 + 1 + 1 + 1 + 1)) ++ [(100, 5, [])]) i 11 (n + 1 + 1 + 1 + 1 + 1 + 1 + 1)) ++ [(100, 8, [])]) i 12 (n + 1 + 1 + 1 + 1 + 1 + 1 + 1 + 1)) ++ [(100, 8, [])]) i 13 (n + 1 + 1 + 1 + 1 + 1 + 1 + 1 + 1 + 1)) ++ [(100, 8, [])]) i 14 (n + 1 + 1 + 1 + 1 + 1 + 1 + 1 + 1 + 1 + 1)) ++ [(100, 8, [])]) i 15 (n + 1 + 1 + 1 + 1 + 1 + 1 + 1 + 1 + 1 + 1 + 1)) i 0 (x2)) i 1 (x1)) (n + 1 + 1 + 1 + 1 + 1 + 1 + 1 + 1 + 1 + 1 + 1 + 1) (z + 45 + 45 + 5 + 5 + 5 + 5 + 5 + 5 + 8 + 8 + 8 + 8) → RelM cl (n + 1 + 1 + 1 + 1 + 1 + 1 + 1 + 1 + 1 + 1 + 1 + 1) M0 M' ((i, 16, -1) :: ((i, 3, 200) :: ex)) → (∀ b, b < cl + n → aK S' b = aK S b) → Q (some none) S' (mI M')) :
    X E d fX6_init 0 [some (.ref (cl + i)), some (.ref a1), some (.ref a2)] [] S (mI M) Q := by
  obtain ⟨M_2, eM_2⟩ : ∃ x, aU (aU M (aX S) (fun _ => 0)) (aX (aPut (aNew S 100 45 45) (cl + i) 4 (some (aX S)))) (fun _ => 0) = x := ⟨_, rfl⟩
  have RM_2 : RelM cl (n + 1 + 1) M0 M_2 ex := by
    rw [← eM_2]
    exact (RelM.new (RelM.new hM (RelS.ax hS)) (RelS.ax (RelS.put (RelS.new hS) (RelS.ax hS))))
  obtain ⟨S_4, eS_4⟩ : ∃ x, aPut (aNew (aPut (aNew S 100 45 45) (cl + i) 4 (some (aX S))) 100 45 45) (cl + i) 5 (some (aX (aPut (aNew S 100 45 45) (cl + i) 4 (some (aX S))))) = x := ⟨_, rfl⟩
  have RS_4 : RelS cl S0 S_4 (tPut ((tPut (t ++ [(100, 45, [])]) i 4 (n)) ++ [(100, 45, [])]) i 5 (n + 1)) (n + 1 + 1) (z + 45 + 45) := by
    rw [← eS_4]
    exact (RelS.put (RelS.new (RelS.put (RelS.new hS) (RelS.ax hS))) (RelS.ax (RelS.put (RelS.new hS) (RelS.ax hS))))
  have BS_4 : ∀ b, b < cl + n → aK S_4 b = aK S b := fun b hb => by
    rw [← eS_4]
    exact ((nK_lt (RelS.lb (RelS.put (RelS.new hS) (RelS.ax hS)) (by omega))).trans (nK_lt (RelS.lb hS (by omega))))
  obtain ⟨M_6, eM_6⟩ : ∃ x, aU (aU M_2 (aX S_4) (fun _ => 0)) (aX (aPut (aNew S_4 100 5 5) (cl + i) 6 (some (aX S_4)))) (fun _ => 0) = x := ⟨_, rfl⟩
  have RM_6 : RelM cl (n + 1 + 1 + 1 + 1) M0 M_6 ex := by
    rw [← eM_6]
    exact (RelM.new (RelM.new RM_2 (RelS.ax RS_4)) (RelS.ax (RelS.put (RelS.new RS_4) (RelS.ax RS_4))))
  obtain ⟨S_8, eS_8⟩ : ∃ x, aPut (aNew (aPut (aNew S_4 100 5 5) (cl + i) 6 (some (aX S_4))) 100 5 5) (cl + i) 7 (some (aX (aPut (aNew S_4 100 5 5) (cl + i) 6 (some (aX S_4))))) = x := ⟨_, rfl⟩
  have RS_8 : RelS cl S0 S_8 (tPut ((tPut ((tPut ((tPut (t ++ [(100, 45, [])]) i 4 (n)) ++ [(100, 45, [])]) i 5 (n + 1)) ++ [(100, 5, [])]) i 6 (n + 1 + 1)) ++ [(100, 5, [])]) i 7 (n + 1 + 1 + 1)) (n + 1 + 1 + 1 + 1) (z + 45 + 45 + 5 + 5) := by
    rw [← eS_8]
    exact (RelS.put (RelS.new (RelS.put (RelS.new RS_4) (RelS.ax RS_4))) (RelS.ax (RelS.put (RelS.new RS_4) (RelS.ax RS_4))))
  have BS_8 : ∀ b, b < cl + n → aK S_8 b = aK S b := fun b hb => by
    rw [← eS_8]
    exact ((nK_lt (RelS.lb (RelS.put (RelS.new RS_4) (RelS.ax RS_4)) (by omega))).trans ((nK_lt (RelS.lb RS_4 (by omega))).trans (BS_4 b (by omega))))
  obtain ⟨M_10, eM_10⟩ : ∃ x, aU (aU M_6 (aX S_8) (fun _ => 0)) (aX (aPut (aNew S_8 100 5 5) (cl + i) 8 (some (aX S_8)))) (fun _ => 0) = x := ⟨_, rfl⟩
  have RM_10 : RelM cl (n + 1 + 1 + 1 + 1 + 1 + 1) M0 M_10 ex := by
    rw [← eM_10]
    exact (RelM.new (RelM.new RM_6 (RelS.ax RS_8)) (RelS.ax (RelS.put (RelS.new RS_8) (RelS.ax RS_8))))
  obtain ⟨S_12, eS_12⟩ : ∃ x, aPut (aNew (aPut (aNew S_8 100 5 5) (cl + i) 8 (some (aX S_8))) 100 5 5) (cl + i) 9 (some (aX (aPut (aNew S_8 100 5 5) (cl + i) 8 (some (aX S_8))))) = x := ⟨_, rfl⟩
  have RS_12 : RelS cl S0 S_12 (tPut ((tPut ((tPut ((tPut ((tPut ((tPut (t ++ [(100, 45, [])]) i 4 (n)) ++ [(100, 45, [])]) i 5 (n + 1)) ++ [(100, 5, [])]) i 6 (n + 1 + 1)) ++ [(100, 5, [])]) i 7 (n + 1 + 1 + 1)) ++ [(100, 5, [])]) i 8 (n + 1 + 1 + 1 + 1)) ++ [(100, 5, [])]) i 9 (n + 1 + 1 + 1 + 1 + 1)) (n + 1 + 1 + 1 + 1 + 1 + 1) (z + 45 + 45 + 5 + 5 + 5 + 5) := by
    rw [← eS_12]
    exact (RelS.put (RelS.new (RelS.put (RelS.new RS_8) (RelS.ax RS_8))) (RelS.ax (RelS.put (RelS.new RS_8) (RelS.ax RS_8))))
  have BS_12 : ∀ b, b < cl + n → aK S_12 b = aK S b := fun b hb => by
    rw [← eS_12]
    exact ((nK_lt (RelS.lb (RelS.put (RelS.new RS_8) (RelS.ax RS_8)) (by omega))).trans ((nK_lt (RelS.lb RS_8 (by omega))).trans (BS_8 b (by omega))))
  obtain ⟨S_14, eS_14⟩ : ∃ x, aNew (aPut (aNew S_12 100 5 5) (cl + i) 10 (some (aX S_12))) 100 5 5 = x := ⟨_, rfl⟩
  have RS_14 : RelS cl S0 S_14 ((tPut ((tPut ((tPut ((tPut ((tPut ((tPut ((tPut (t ++ [(100, 45, [])]) i 4 (n)) ++ [(100, 45, [])]) i 5 (n + 1)) ++ [(100, 5, [])]) i 6 (n + 1 + 1)) ++ [(100, 5, [])]) i 7 (n + 1 + 1 + 1)) ++ [(100, 5, [])]) i 8 (n + 1 + 1 + 1 + 1)) ++ [(100, 5, [])]) i 9 (n + 1 + 1 + 1 + 1 + 1)) ++ [(100, 5, [])]) i 10 (n + 1 + 1 + 1 + 1 + 1 + 1)) ++ [(100, 5, [])]) (n + 1 + 1 + 1 + 1 + 1 + 1 + 1 + 1) (z + 45 + 45 + 5 + 5 + 5 + 5 + 5 + 5) := by
    rw [← eS_14]
    exact (RelS.new (RelS.put (RelS.new RS_12) (RelS.ax RS_12)))
  have BS_14 : ∀ b, b < cl + n → aK S_14 b = aK S b := fun b hb => by
    rw [← eS_14]
    exact ((nK_lt (RelS.lb (RelS.put (RelS.new RS_12) (RelS.ax RS_12)) (by omega))).trans ((nK_lt (RelS.lb RS_12 (by omega))).trans (BS_12 b (by omega))))
  obtain ⟨M_15, eM_15⟩ : ∃ x, aU (aU M_10 (aX S_12) (fun _ => 0)) (aX (aPut (aNew S_12 100 5 5) (cl + i) 10 (some (aX S_12)))) (fun _ => 0) = x := ⟨_, rfl⟩
  have RM_15 : RelM cl (n + 1 + 1 + 1 + 1 + 1 + 1 + 1 + 1) M0 M_15 ex := by
    rw [← eM_15]
    exact (RelM.new (RelM.new RM_10 (RelS.ax RS_12)) (RelS.ax (RelS.put (RelS.new RS_12) (RelS.ax RS_12))))
  obtain ⟨S_17, eS_17⟩ : ∃ x, aPut S_14 (cl + i) 11 (some (aX (aPut (aNew S_12 100 5 5) (cl + i) 10 (some (aX S_12))))) = x := ⟨_, rfl⟩
  have RS_17 : RelS cl S0 S_17 (tPut ((tPut ((tPut ((tPut ((tPut ((tPut ((tPut ((tPut (t ++ [(100, 45, [])]) i 4 (n)) ++ [(100, 45, [])]) i 5 (n + 1)) ++ [(100, 5, [])]) i 6 (n + 1 + 1)) ++ [(100, 5, [])]) i 7 (n + 1 + 1 + 1)) ++ [(100, 5, [])]) i 8 (n + 1 + 1 + 1 + 1)) ++ [(100, 5, [])]) i 9 (n + 1 + 1 + 1 + 1 + 1)) ++ [(100, 5, [])]) i 10 (n + 1 + 1 + 1 + 1 + 1 + 1)) ++ [(100, 5, [])]) i 11 (n + 1 + 1 + 1 + 1 + 1 + 1 + 1)) (n + 1 + 1 + 1 + 1 + 1 + 1 + 1 + 1) (z + 45 + 45 + 5 + 5 + 5 + 5 + 5 + 5) := by
    rw [← eS_17]
    exact (RelS.put RS_14 (RelS.ax (RelS.put (RelS.new RS_12) (RelS.ax RS_12))))
  have BS_17 : ∀ b, b < cl + n → aK S_17 b = aK S b := fun b hb => by
    rw [← eS_17]
    exact (BS_14 b (by omega))
  obtain ⟨S_19, eS_19⟩ : ∃ x, aNew (aPut (aNew S_17 100 8 8) (cl + i) 12 (some (aX S_17))) 100 8 8 = x := ⟨_, rfl⟩
  have RS_19 : RelS cl S0 S_19 ((tPut ((tPut ((tPut ((tPut ((tPut ((tPut ((tPut ((tPut ((tPut (t ++ [(100, 45, [])]) i 4 (n)) ++ [(100, 45, [])]) i 5 (n + 1)) ++ [(100, 5, [])]) i 6 (n + 1 + 1)) ++ [(100, 5, [])]) i 7 (n + 1 + 1 + 1)) ++ [(100, 5, [])]) i 8 (n + 1 + 1 + 1 + 1)) ++ [(100, 5, [])]) i 9 (n + 1 + 1 + 1 + 1 + 1)) ++ [(100, 5, [])]) i 10 (n + 1 + 1 + 1 + 1 + 1 + 1)) ++ [(100, 5, [])]) i 11 (n + 1 + 1 + 1 + 1 + 1 + 1 + 1)) ++ [(100, 8, [])]) i 12 (n + 1 + 1 + 1 + 1 + 1 + 1 + 1 + 1)) ++ [(100, 8, [])]) (n + 1 + 1 + 1 + 1 + 1 + 1 + 1 + 1 + 1 + 1) (z + 45 + 45 + 5 + 5 + 5 + 5 + 5 + 5 + 8 + 8) := by
    rw [← eS_19]
    exact (RelS.new (RelS.put (RelS.new RS_17) (RelS.ax RS_17)))
  have BS_19 : ∀ b, b < cl + n → aK S_19 b = aK S b := fun b hb => by
    rw [← eS_19]
    exact ((nK_lt (RelS.lb (RelS.put (RelS.new RS_17) (RelS.ax RS_17)) (by omega))).trans ((nK_lt (RelS.lb RS_17 (by omega))).trans (BS_17 b (by omega))))
  obtain ⟨M_20, eM_20⟩ : ∃ x, aU (aU M_15 (aX S_17) (fun _ => 0)) (aX (aPut (aNew S_17 100 8 8) (cl + i) 12 (some (aX S_17)))) (fun _ => 0) = x := ⟨_, rfl⟩
  have RM_20 : RelM cl (n + 1 + 1 + 1 + 1 + 1 + 1 + 1 + 1 + 1 + 1) M0 M_20 ex := by
    rw [← eM_20]
    exact (RelM.new (RelM.new RM_15 (RelS.ax RS_17)) (RelS.ax (RelS.put (RelS.new RS_17) (RelS.ax RS_17))))
  obtain ⟨S_22, eS_22⟩ : ∃ x, aPut S_19 (cl + i) 13 (some (aX (aPut (aNew S_17 100 8 8) (cl + i) 12 (some (aX S_17))))) = x := ⟨_, rfl⟩
  have RS_22 : RelS cl S0 S_22 (tPut ((tPut ((tPut ((tPut ((tPut ((tPut ((tPut ((tPut ((tPut ((tPut (t ++ [(100, 45, [])]) i 4 (n)) ++ [(100, 45, [])]) i 5 (n + 1)) ++ [(100, 5, [])]) i 6 (n + 1 + 1)) ++ [(100, 5, [])]) i 7 (n + 1 + 1 + 1)) ++ [(100, 5, [])]) i 8 (n + 1 + 1 + 1 + 1)) ++ [(100, 5, [])]) i 9 (n + 1 + 1 + 1 + 1 + 1)) ++ [(100, 5, [])]) i 10 (n + 1 + 1 + 1 + 1 + 1 + 1)) ++ [(100, 5, [])]) i 11 (n + 1 + 1 + 1 + 1 + 1 + 1 + 1)) ++ [(100, 8, [])]) i 12 (n + 1 + 1 + 1 + 1 + 1 + 1 + 1 + 1)) ++ [(100, 8, [])]) i 13 (n + 1 + 1 + 1 + 1 + 1 + 1 + 1 + 1 + 1)) (n + 1 + 1 + 1 + 1 + 1 + 1 + 1 + 1 + 1 + 1) (z + 45 + 45 + 5 + 5 + 5 + 5 + 5 + 5 + 8 + 8) := by
    rw [← eS_22]
    exact (RelS.put RS_19 (RelS.ax (RelS.put (RelS.new RS_17) (RelS.ax RS_17))))
  have BS_22 : ∀ b, b < cl + n → aK S_22 b = aK S b := fun b hb => by
    rw [← eS_22]
    exact (BS_19 b (by omega))
  obtain ⟨S_24, eS_24⟩ : ∃ x, aNew (aPut (aNew S_22 100 8 8) (cl + i) 14 (some (aX S_22))) 100 8 8 = x := ⟨_, rfl⟩
  have RS_24 : RelS cl S0 S_24 ((tPut ((tPut ((tPut ((tPut ((tPut ((tPut ((tPut ((tPut ((tPut ((tPut ((tPut (t ++ [(100, 45, [])]) i 4 (n)) ++ [(100, 45, [])]) i 5 (n + 1)) ++ [(100, 5, [])]) i 6 (n + 1 + 1)) ++ [(100, 5, [])]) i 7 (n + 1 + 1 + 1)) ++ [(100, 5, [])]) i 8 (n + 1 + 1 + 1 + 1)) ++ [(100, 5, [])]) i 9 (n + 1 + 1 + 1 + 1 + 1)) ++ [(100, 5, [])]) i 10 (n + 1 + 1 + 1 + 1 + 1 + 1)) ++ [(100, 5, [])]) i 11 (n + 1 + 1 + 1 + 1 + 1 + 1 + 1)) ++ [(100, 8, [])]) i 12 (n + 1 + 1 + 1 + 1 + 1 + 1 + 1 + 1)) ++ [(100, 8, [])]) i 13 (n + 1 + 1 + 1 + 1 + 1 + 1 + 1 + 1 + 1)) ++ [(100, 8, [])]) i 14 (n + 1 + 1 + 1 + 1 + 1 + 1 + 1 + 1 + 1 + 1)) ++ [(100, 8, [])]) (n + 1 + 1 + 1 + 1 + 1 + 1 + 1 + 1 + 1 + 1 + 1 + 1) (z + 45 + 45 + 5 + 5 + 5 + 5 + 5 + 5 + 8 + 8 + 8 + 8) := by
    rw [← eS_24]
    exact (RelS.new (RelS.put (RelS.new RS_22) (RelS.ax RS_22)))
  have BS_24 : ∀ b, b < cl + n → aK S_24 b = aK S b := fun b hb => by
    rw [← eS_24]
    exact ((nK_lt (RelS.lb (RelS.put (RelS.new RS_22) (RelS.ax RS_22)) (by omega))).trans ((nK_lt (RelS.lb RS_22 (by omega))).trans (BS_22 b (by omega))))
  obtain ⟨M_25, eM_25⟩ : ∃ x, aU (aU M_20 (aX S_22) (fun _ => 0)) (aX (aPut (aNew S_22 100 8 8) (cl + i) 14 (some (aX S_22)))) (fun _ => 0) = x := ⟨_, rfl⟩
  have RM_25 : RelM cl (n + 1 + 1 + 1 + 1 + 1 + 1 + 1 + 1 + 1 + 1 + 1 + 1) M0 M_25 ex := by
    rw [← eM_25]
    exact (RelM.new (RelM.new RM_20 (RelS.ax RS_22)) (RelS.ax (RelS.put (RelS.new RS_22) (RelS.ax RS_22))))
  obtain ⟨S_27, eS_27⟩ : ∃ x, aPut S_24 (cl + i) 15 (some (aX (aPut (aNew S_22 100 8 8) (cl + i) 14 (some (aX S_22))))) = x := ⟨_, rfl⟩
  have RS_27 : RelS cl S0 S_27 (tPut ((tPut ((tPut ((tPut ((tPut ((tPut ((tPut ((tPut ((tPut ((tPut ((tPut ((tPut (t ++ [(100, 45, [])]) i 4 (n)) ++ [(100, 45, [])]) i 5 (n + 1)) ++ [(100, 5, [])]) i 6 (n + 1 + 1)) ++ [(100, 5, [])]) i 7 (n + 1 + 1 + 1)) ++ [(100, 5, [])]) i 8 (n + 1 + 1 + 1 + 1)) ++ [(100, 5, [])]) i 9 (n + 1 + 1 + 1 + 1 + 1)) ++ [(100, 5, [])]) i 10 (n + 1 + 1 + 1 + 1 + 1 + 1)) ++ [(100, 5, [])]) i 11 (n + 1 + 1 + 1 + 1 + 1 + 1 + 1)) ++ [(100, 8, [])]) i 12 (n + 1 + 1 + 1 + 1 + 1 + 1 + 1 + 1)) ++ [(100, 8, [])]) i 13 (n + 1 + 1 + 1 + 1 + 1 + 1 + 1 + 1 + 1)) ++ [(100, 8, [])]) i 14 (n + 1 + 1 + 1 + 1 + 1 + 1 + 1 + 1 + 1 + 1)) ++ [(100, 8, [])]) i 15 (n + 1 + 1 + 1 + 1 + 1 + 1 + 1 + 1 + 1 + 1 + 1)) (n + 1 + 1 + 1 + 1 + 1 + 1 + 1 + 1 + 1 + 1 + 1 + 1) (z + 45 + 45 + 5 + 5 + 5 + 5 + 5 + 5 + 8 + 8 + 8 + 8) := by
    rw [← eS_27]
    exact (RelS.put RS_24 (RelS.ax (RelS.put (RelS.new RS_22) (RelS.ax RS_22))))
  have BS_27 : ∀ b, b < cl + n → aK S_27 b = aK S b := fun b hb => by
    rw [← eS_27]
    exact (BS_24 b (by omega))
  exact kX6_init_0 ((nK_lt (RelS.lb hS (by omega))).trans hk) eM_2 (((nK_lt (RelS.lb (RelS.put (RelS.new hS) (RelS.ax hS)) (by omega))).trans (nK_lt (RelS.lb hS (by omega)))).trans hk) eS_4 (((nK_lt (RelS.lb RS_4 (by omega))).trans (BS_4 _ (by omega))).trans hk) eM_6 (((nK_lt (RelS.lb (RelS.put (RelS.new RS_4) (RelS.ax RS_4)) (by omega))).trans ((nK_lt (RelS.lb RS_4 (by omega))).trans (BS_4 _ (by omega)))).trans hk) eS_8 (((nK_lt (RelS.lb RS_8 (by omega))).trans (BS_8 _ (by omega))).trans hk) eM_10 (((nK_lt (RelS.lb (RelS.put (RelS.new RS_8) (RelS.ax RS_8)) (by omega))).trans ((nK_lt (RelS.lb RS_8 (by omega))).trans (BS_8 _ (by omega)))).trans hk) eS_12 (((nK_lt (RelS.lb RS_12 (by omega))).trans (BS_12 _ (by omega))).trans hk) eS_14 eM_15 ((BS_14 _ (by omega)).trans hk) eS_17 (((nK_lt (RelS.lb RS_17 (by omega))).trans (BS_17 _ (by omega))).trans hk) eS_19 eM_20 ((BS_19 _ (by omega)).trans hk) eS_22 (((nK_lt (RelS.lb RS_22 (by omega))).trans (BS_22 _ (by omega))).trans hk) eS_24 eM_25 ((BS_24 _ (by omega)).trans hk) eS_27 ((BS_27 _ (by omega)).trans hk) (q _ _ (RelS.put (RelS.put RS_27 ha2) ha1) (RelM.w (RelM.w RM_25 (by omega) ⟨by decide, by decide⟩) (by omega) ⟨by decide, by decide⟩) (fun b hb => (BS_27 b (by omega))))
end RC
