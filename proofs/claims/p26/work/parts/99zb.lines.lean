/-! the lines of a list -/
section ZB
variable {ce : Nat → Int} {E : Nat → Value}
abbrev Lin : Type := List Nat × (Nat → List (Nat × Nat)) × (Nat → Nat → Orw)
def lstr : Lin := ([0, 47, 1, 48, 2, 48] ++ [36], fun _ => [], fun _ _ => [])
def lgte : Lin := ([3, 47, 4, 48, 5, 48] ++ [36], fun _ => [], fun _ _ => [])
def ltrf : Lin := ([6, 47, 7, 48, 8, 48, 9, 48, 10, 48, 11, 48] ++ [36], fun _ => [], fun _ _ => [])
def lord (so wi : Nat) (w4 : Int) : Lin :=
  if so = 0 then ([12, 47, 4, 47, 17] ++ (kT w4.toNat ++ [36]), fun a => oT w4.toNat (a + 5), fun a o => [(12, a, o, o, o + (oT w4.toNat (a + 5)).length)])
  else if so = 1 then ([13, 47, 14, 48, 17] ++ (kT w4.toNat ++ [36]), fun a => oT w4.toNat (a + 5), fun a o => [(13, a, o, o, o + (oT w4.toNat (a + 5)).length)])
  else if w4 < 0 then ([15, 47, 16] ++ (kS wi ++ [36]), fun a => oS wi (a + 3), fun a o => [(15, a, o, o + (oS wi (a + 3)).length, o + (oS wi (a + 3)).length)])
  else ([15, 47, 16] ++ (kS wi ++ 17 :: (kT w4.toNat ++ [36])), fun a => oS wi (a + 3) ++ oT w4.toNat (a + 3 + (kS wi).length + 1), fun a o => [(15, a, o, o + (oS wi (a + 3)).length, o + (oS wi (a + 3)).length + (oT w4.toNat (a + 3 + (kS wi).length + 1)).length)])
def rpt (x : Lin) : Nat → Lns
  | 0 => []
  | k + 1 => rpt x k ++ [x]
def LLo (ce : Nat → Int) : Nat → Lns
  | 0 => []
  | k + 1 => LLo ce k ++ [lord (oso ce k) (owi ce k) (o4 ce k)]
/-- the lines before the orders -/
def LLb (ce : Nat → Int) : Lns := (rpt lstr (C2 ce) ++ rpt lgte (C4 ce)) ++ rpt ltrf (C5 ce)
def LLs (ce : Nat → Int) : Lns := LLb ce ++ LLo ce (C6 ce)
theorem lnK_app : ∀ (a b : Lns), lnK (a ++ b) = lnK a ++ lnK b
  | [], _ => rfl
  | x :: a, b => by
    show x.1 ++ lnK (a ++ b) = (x.1 ++ lnK a) ++ lnK b
    rw [lnK_app a b, List.append_assoc]
theorem lnO_app : ∀ (a b : Lns) (n : Nat), lnO (a ++ b) n = lnO a n ++ lnO b (n + (lnK a).length)
  | [], _, _ => rfl
  | x :: a, b, n => by
    show x.2.1 n ++ lnO (a ++ b) (n + x.1.length) = (x.2.1 n ++ lnO a (n + x.1.length)) ++ lnO b (n + (x.1 ++ lnK a).length)
    rw [lnO_app a b, List.append_assoc, List.length_append, Nat.add_assoc]
theorem lnR_app : ∀ (a b : Lns) (n o : Nat), lnR (a ++ b) n o = lnR a n o ++ lnR b (n + (lnK a).length) (o + (lnO a n).length)
  | [], _, _, _ => rfl
  | x :: a, b, n, o => by
    show x.2.2 n o ++ lnR (a ++ b) (n + x.1.length) (o + (x.2.1 n).length) = (x.2.2 n o ++ lnR a (n + x.1.length) (o + (x.2.1 n).length)) ++ lnR b (n + (x.1 ++ lnK a).length) (o + (x.2.1 n ++ lnO a (n + x.1.length)).length)
    rw [lnR_app a b, List.append_assoc, List.length_append, List.length_append, Nat.add_assoc, Nat.add_assoc]
theorem lnK_1 (x : Lin) : lnK [x] = x.1 := List.append_nil _
theorem lnO_1 (x : Lin) (n : Nat) : lnO [x] n = x.2.1 n := List.append_nil _
theorem lnR_1 (x : Lin) (n o : Nat) : lnR [x] n o = x.2.2 n o := List.append_nil _
theorem rpt_O {x : Lin} (h : ∀ a, x.2.1 a = []) : ∀ k n, lnO (rpt x k) n = []
  | 0, _ => rfl
  | k + 1, n => by
    show lnO (rpt x k ++ [x]) n = []
    rw [lnO_app, rpt_O h k, lnO_1, h]
    rfl
theorem rpt_R {x : Lin} (h : ∀ a o, x.2.2 a o = []) : ∀ k n o, lnR (rpt x k) n o = []
  | 0, _, _ => rfl
  | k + 1, n, o => by
    show lnR (rpt x k ++ [x]) n o = []
    rw [lnR_app, rpt_R h k, lnR_1, h]
    rfl
theorem rpt_l {x : Lin} : ∀ k, (rpt x k).length = k
  | 0 => rfl
  | k + 1 => by
    show (rpt x k ++ [x]).length = _
    rw [List.length_append, rpt_l k]
    rfl
theorem rpt_kl {x : Lin} : ∀ k, (lnK (rpt x k)).length = k * x.1.length
  | 0 => (Nat.zero_mul _).symm
  | k + 1 => by
    show (lnK (rpt x k ++ [x])).length = _
    rw [lnK_app, List.length_append, rpt_kl k, lnK_1, Nat.succ_mul]
theorem rpt_m {x y : Lin} : ∀ k, y ∈ rpt x k → y = x
  | 0, h => by cases h
  | k + 1, h => by
    rcases List.mem_append.mp (show y ∈ rpt x k ++ [x] from h) with h | h
    · exact rpt_m k h
    · exact List.mem_singleton.mp h
theorem LLb_O (n : Nat) : lnO (LLb ce) n = [] := by
  unfold LLb
  rw [lnO_app, lnO_app, rpt_O (fun _ => rfl), rpt_O (fun _ => rfl), rpt_O (fun _ => rfl)]
  rfl
theorem LLb_R (n o : Nat) : lnR (LLb ce) n o = [] := by
  unfold LLb
  rw [lnR_app, lnR_app, rpt_R (fun _ _ => rfl), rpt_R (fun _ _ => rfl), rpt_R (fun _ _ => rfl)]
  rfl
/-- how many tokens stand before the orders -/
def bsO (ce : Nat → Int) : Nat := (lnK (LLb ce)).length
theorem bsO_b : bsO ce ≤ 121 := by
  have h2 := C2_b (ce := ce)
  have h4 := C4_b (ce := ce)
  have h5 := C5_b (ce := ce)
  have e1 : lstr.1.length = 7 := rfl
  have e2 : lgte.1.length = 7 := rfl
  have e3 : ltrf.1.length = 13 := rfl
  unfold bsO LLb
  rw [lnK_app, lnK_app, List.length_append, List.length_append, rpt_kl, rpt_kl, rpt_kl, e1, e2, e3]
  omega
/-- the token where an order begins, and its first operation -/
def aO (ce : Nat → Int) (i : Nat) : Nat := bsO ce + (lnK (LLo ce i)).length
def oO (ce : Nat → Int) (i : Nat) : Nat := (lnO (LLo ce i) (bsO ce)).length
abbrev lor (ce : Nat → Int) (i : Nat) : Lin := lord (oso ce i) (owi ce i) (o4 ce i)
theorem LLo_K (i : Nat) : lnK (LLo ce (i + 1)) = lnK (LLo ce i) ++ (lor ce i).1 := by
  show lnK (LLo ce i ++ [lor ce i]) = _
  rw [lnK_app, lnK_1]
theorem LLo_O (i : Nat) : lnO (LLo ce (i + 1)) (bsO ce) = lnO (LLo ce i) (bsO ce) ++ (lor ce i).2.1 (aO ce i) := by
  show lnO (LLo ce i ++ [lor ce i]) _ = _
  rw [lnO_app, lnO_1]
  rfl
theorem LLo_R (i : Nat) : lnR (LLo ce (i + 1)) (bsO ce) 0 = lnR (LLo ce i) (bsO ce) 0 ++ (lor ce i).2.2 (aO ce i) (oO ce i) := by
  show lnR (LLo ce i ++ [lor ce i]) _ _ = _
  rw [lnR_app, lnR_1, Nat.zero_add]
  rfl
theorem LLs_O : lnO (LLs ce) 0 = lnO (LLo ce (C6 ce)) (bsO ce) := by
  unfold LLs
  rw [lnO_app, LLb_O, Nat.zero_add]
  rfl
theorem LLs_R : lnR (LLs ce) 0 0 = lnR (LLo ce (C6 ce)) (bsO ce) 0 := by
  unfold LLs
  rw [lnR_app, LLb_R, LLb_O, Nat.zero_add]
  rfl
theorem lord_k {so wi : Nat} {w4 : Int} : (lord so wi w4).1.length ≤ 37 := by
  have h1 := kT_l w4.toNat
  have h2 := kS_l wi
  unfold lord
  split
  · show ([12, 47, 4, 47, 17] ++ (kT w4.toNat ++ [36])).length ≤ 37
    simp only [List.length_append, List.length_cons, List.length_nil]; omega
  · split
    · show ([13, 47, 14, 48, 17] ++ (kT w4.toNat ++ [36])).length ≤ 37
      simp only [List.length_append, List.length_cons, List.length_nil]; omega
    · split
      · show ([15, 47, 16] ++ (kS wi ++ [36])).length ≤ 37
        simp only [List.length_append, List.length_cons, List.length_nil]; omega
      · show ([15, 47, 16] ++ (kS wi ++ 17 :: (kT w4.toNat ++ [36]))).length ≤ 37
        simp only [List.length_append, List.length_cons, List.length_nil]; omega
theorem lord_o {so wi : Nat} {w4 : Int} (a : Nat) : ((lord so wi w4).2.1 a).length ≤ 23 ∧ ∀ x, x ∈ (lord so wi w4).2.1 a → x.2 ≤ a + 35 := by
  have h0 := kS_l wi
  have h1 := oT_l w4.toNat (a + 5)
  have h2 := oS_l wi (a + 3)
  have h3 := oT_l w4.toNat (a + 3 + (kS wi).length + 1)
  have g1 := oT_t w4.toNat (a + 5)
  have g2 := oS_t wi (a + 3)
  have g3 := oT_t w4.toNat (a + 3 + (kS wi).length + 1)
  unfold lord
  split
  · exact ⟨by show (oT w4.toNat (a + 5)).length ≤ 23; omega, fun x hx => by have := g1 x hx; omega⟩
  · split
    · exact ⟨by show (oT w4.toNat (a + 5)).length ≤ 23; omega, fun x hx => by have := g1 x hx; omega⟩
    · split
      · exact ⟨by show (oS wi (a + 3)).length ≤ 23; omega, fun x hx => by have := g2 x hx; omega⟩
      · refine ⟨?_, fun x hx => ?_⟩
        · show (oS wi (a + 3) ++ oT w4.toNat (a + 3 + (kS wi).length + 1)).length ≤ 23
          rw [List.length_append]; omega
        · rcases List.mem_append.mp (show x ∈ oS wi (a + 3) ++ oT w4.toNat (a + 3 + (kS wi).length + 1) from hx) with hx | hx
          · have := g2 x hx; omega
          · have := g3 x hx; omega
theorem lord_r {so wi : Nat} {w4 : Int} (a o : Nat) : ∃ r, (lord so wi w4).2.2 a o = [r] ∧ r.2.1 = a := by
  unfold lord
  (repeat' split) <;> exact ⟨_, rfl, rfl⟩
theorem aO_b : ∀ i, aO ce i ≤ bsO ce + 37 * i
  | 0 => Nat.le_refl _
  | i + 1 => by
    have ih := aO_b i
    have h : (lor ce i).1.length ≤ 37 := lord_k
    unfold aO at ih ⊢
    rw [LLo_K, List.length_append]
    omega
theorem oO_s (i : Nat) : oO ce (i + 1) = oO ce i + ((lor ce i).2.1 (aO ce i)).length := by
  unfold oO
  rw [LLo_O, List.length_append]
theorem oO_b : ∀ i, oO ce i ≤ 23 * i
  | 0 => Nat.le_refl _
  | i + 1 => by
    have ih := oO_b i
    have h : ((lor ce i).2.1 (aO ce i)).length ≤ 23 := (lord_o (aO ce i)).1
    rw [oO_s]
    omega
theorem LLo_Rl : ∀ k, (lnR (LLo ce k) (bsO ce) 0).length = k
  | 0 => rfl
  | k + 1 => by
    obtain ⟨r, e, _⟩ := lord_r (so := oso ce k) (wi := owi ce k) (w4 := o4 ce k) (aO ce k) (oO ce k)
    rw [LLo_R, List.length_append, LLo_Rl k, e]
    rfl
/-- row i of the orders -/
theorem LLo_Ri : ∀ k i, i < k → ∀ r, (lor ce i).2.2 (aO ce i) (oO ce i) = [r] → (lnR (LLo ce k) (bsO ce) 0)[i]? = some r
  | k + 1, i, h, r, e => by
    rw [LLo_R]
    by_cases hi : i < k
    · rw [List.getElem?_append_left (by rw [LLo_Rl]; exact hi)]
      exact LLo_Ri k i hi r e
    · have hk : i = k := by omega
      subst hk
      rw [List.getElem?_append_right (by rw [LLo_Rl]; exact Nat.le_refl _), LLo_Rl, Nat.sub_self, e]
      rfl
/-- the operations of order i -/
theorem LLo_Oi : ∀ k i, i < k → ∀ j, j < ((lor ce i).2.1 (aO ce i)).length → (lnO (LLo ce k) (bsO ce))[oO ce i + j]? = ((lor ce i).2.1 (aO ce i))[j]?
  | k + 1, i, h, j, hj => by
    rw [LLo_O]
    by_cases hi : i < k
    · have g := LLo_Oi k i hi j hj
      have hlt : oO ce i + j < (lnO (LLo ce k) (bsO ce)).length := by
        rw [List.getElem?_eq_getElem hj] at g
        exact (List.getElem?_eq_some_iff.mp g).1
      rw [List.getElem?_append_left hlt]
      exact g
    · have hk : i = k := by omega
      subst hk
      show (lnO (LLo ce i) (bsO ce) ++ (lor ce i).2.1 (aO ce i))[(lnO (LLo ce i) (bsO ce)).length + j]? = _
      rw [List.getElem?_append_right (Nat.le_add_right _ _), Nat.add_sub_cancel_left]
theorem LLo_Om : ∀ k, k ≤ 7 → ∀ x, x ∈ lnO (LLo ce k) (bsO ce) → x.2 ≤ 400
  | 0, _, x, hx => by cases hx
  | k + 1, h, x, hx => by
    rw [LLo_O] at hx
    rcases List.mem_append.mp hx with hx | hx
    · exact LLo_Om k (by omega) x hx
    · have h1 := (lord_o (so := oso ce k) (wi := owi ce k) (w4 := o4 ce k) (aO ce k)).2 x hx
      have h2 := aO_b (ce := ce) k
      have h3 := bsO_b (ce := ce)
      omega
theorem LLo_Rm : ∀ k, k ≤ 7 → ∀ r, r ∈ lnR (LLo ce k) (bsO ce) 0 → r.2.1 + 3 ≤ 400
  | 0, _, x, hx => by cases hx
  | k + 1, h, x, hx => by
    rw [LLo_R] at hx
    rcases List.mem_append.mp hx with hx | hx
    · exact LLo_Rm k (by omega) x hx
    · obtain ⟨r, e, e2⟩ := lord_r (so := oso ce k) (wi := owi ce k) (w4 := o4 ce k) (aO ce k) (oO ce k)
      rw [e] at hx
      have e3 := List.mem_singleton.mp hx
      have h2 := aO_b (ce := ce) k
      have h3 := bsO_b (ce := ce)
      rw [e3, e2]
      omega
theorem lord_P {so wi : Nat} {w4 : Int} : LnP E (lord so wi w4) := by
  unfold lord
  split
  · exact ⟨pl12 (psTst _) (by decide) (by decide), _, _, rfl, by decide⟩
  · split
    · exact ⟨pl13 (psTst _) (by decide) (by decide), _, _, rfl, by decide⟩
    · split
      · exact ⟨pl15a (psSum _) (by decide) (by decide), _, _, rfl, by decide⟩
      · exact ⟨pl15b (psSum _) (by decide) (by decide) (psTst _) (kT_ne _) (by decide) (by decide), _, _, rfl, by decide⟩
theorem LLo_P : ∀ k x, x ∈ LLo ce k → LnP E x
  | 0, x, hx => by cases hx
  | k + 1, x, hx => by
    rcases List.mem_append.mp (show x ∈ LLo ce k ++ [lor ce k] from hx) with hx | hx
    · exact LLo_P k x hx
    · rw [List.mem_singleton.mp hx]
      exact lord_P
theorem LLs_P : ∀ x, x ∈ LLs ce → LnP E x := by
  intro x hx
  unfold LLs LLb at hx
  rcases List.mem_append.mp hx with hx | hx
  · rcases List.mem_append.mp hx with hx | hx
    · rcases List.mem_append.mp hx with hx | hx
      · rw [rpt_m _ hx]; exact ⟨pl0, _, _, rfl, by decide⟩
      · rw [rpt_m _ hx]; exact ⟨pl3, _, _, rfl, by decide⟩
    · rw [rpt_m _ hx]; exact ⟨pl6, _, _, rfl, by decide⟩
  · exact LLo_P _ x hx
theorem LLo_l : ∀ k, (LLo ce k).length = k
  | 0 => rfl
  | k + 1 => by
    show (LLo ce k ++ [lor ce k]).length = _
    rw [List.length_append, LLo_l k]
    rfl
theorem LLs_l : (LLs ce).length < 400 := by
  have h2 := C2_b (ce := ce)
  have h4 := C4_b (ce := ce)
  have h5 := C5_b (ce := ce)
  have h6 := C6_b (ce := ce)
  unfold LLs LLb
  rw [List.length_append, List.length_append, List.length_append, rpt_l, rpt_l, rpt_l, LLo_l]
  omega
abbrev kd (l : Its) : List Nat := l.map (fun x => x.2.1)
theorem kd_app (a b : Its) : kd (a ++ b) = kd a ++ kd b := List.map_append
theorem kd_or {so wh wi : Nat} {w4 : Int} {r : Nat → Nat} : kd (orI so wh wi w4 r) = (lord so wi w4).1 := by
  unfold orI lord
  split
  · rw [kd_app, kd_app, show kd (tI r w4.toNat) = kT w4.toNat from kT_i _ _]; rfl
  · split
    · rw [kd_app, kd_app, show kd (tI r w4.toNat) = kT w4.toNat from kT_i _ _]; rfl
    · split
      · rw [kd_app, kd_app, kd_app, show kd (sI r wi) = kS wi from kS_i _ _]; rfl
      · rw [kd_app, kd_app, kd_app, show kd (sI r wi) = kS wi from kS_i _ _, show kd ((1, 17, 0) :: tI r w4.toNat) = 17 :: kT w4.toNat from congrArg (17 :: ·) (kT_i _ _)]
        rfl
theorem kd_2 : ∀ k, kd (its2 ce k) = lnK (rpt lstr k)
  | 0 => rfl
  | k + 1 => by
    show kd (its2 ce k ++ strI k (ml ce k) (sf ce k)) = lnK (rpt lstr k ++ [lstr])
    rw [kd_app, lnK_app, kd_2 k, lnK_1]
    rfl
theorem kd_4 {l : Its} : ∀ k, kd (its4 ce l k) = kd l ++ lnK (rpt lgte k)
  | 0 => (List.append_nil _).symm
  | k + 1 => by
    show kd (its4 ce l k ++ gtI _ k (ga ce k) (gt ce k)) = kd l ++ lnK (rpt lgte k ++ [lgte])
    rw [kd_app, lnK_app, kd_4 k, lnK_1, List.append_assoc]
    rfl
theorem kd_5 {l : Its} : ∀ k, kd (its5 ce l k) = kd l ++ lnK (rpt ltrf k)
  | 0 => (List.append_nil _).symm
  | k + 1 => by
    show kd (its5 ce l k ++ trI _ k (tw ce k) (twl ce k) (tfr ce k) (tto ce k) (tev ce k)) = kd l ++ lnK (rpt ltrf k ++ [ltrf])
    rw [kd_app, lnK_app, kd_5 k, lnK_1, List.append_assoc]
    rfl
theorem kd_6 {l : Its} : ∀ k, kd (its6 ce l k) = kd l ++ lnK (LLo ce k)
  | 0 => (List.append_nil _).symm
  | k + 1 => by
    show kd (its6 ce l k ++ orI (oso ce k) (owh ce k) (owi ce k) (o4 ce k) (orw ce k)) = kd l ++ lnK (LLo ce k ++ [lor ce k])
    rw [kd_app, lnK_app, kd_6 k, lnK_1, List.append_assoc, kd_or]
/-- the tokens before the orders -/
def itsB (ce : Nat → Int) : Its := its5 ce (its4 ce (its2 ce (C2 ce)) (C4 ce)) (C5 ce)
theorem kd_B : kd (itsB ce) = lnK (LLb ce) := by
  unfold itsB LLb
  rw [kd_5, kd_4, kd_2, lnK_app, lnK_app]
theorem kd_L : lnK (LLs ce) = kd (itsL ce) := by
  unfold LLs
  rw [lnK_app, ← kd_B]
  exact (kd_6 (l := itsB ce) (C6 ce)).symm
theorem its6_l {l : Its} (k : Nat) : (its6 ce l k).length = l.length + (lnK (LLo ce k)).length := by
  have h := congrArg List.length (kd_6 (ce := ce) (l := l) k)
  rw [List.length_append] at h
  have e : ∀ x : Its, (kd x).length = x.length := fun x => List.length_map _
  rw [e, e] at h
  exact h
theorem itsB_l : (itsB ce).length = bsO ce := by
  have h := congrArg List.length (kd_B (ce := ce))
  rw [show (kd (itsB ce)).length = (itsB ce).length from List.length_map _] at h
  exact h
theorem its6_a (k : Nat) : (its6 ce (itsB ce) k).length = aO ce k := by rw [its6_l, itsB_l]; rfl
theorem itsL_l : (itsL ce).length < 400 := by
  have h := its6_a (ce := ce) (C6 ce)
  have h2 := aO_b (ce := ce) (C6 ce)
  have h3 := bsO_b (ce := ce)
  have h6 := C6_b (ce := ce)
  show (its6 ce (itsB ce) (C6 ce)).length < 400
  omega
end ZB
