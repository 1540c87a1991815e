/-! the tokens of a list are ones, and one behind the other; what they do (wip/p26/gen99zc.py) -/
section ZC
variable {ce : Nat → Int}
def Vl (l : Its) : Prop := ∀ b k v, (b, k, v) ∈ l → iv k v
theorem Vl_n : Vl [] := fun _ _ _ h => by cases h
theorem Vl_c {b k v : Nat} {l : Its} (h : iv k v) (g : Vl l) : Vl ((b, k, v) :: l) := fun b' k' v' hm => by
  rcases List.mem_cons.mp hm with e | hm
  · have e1 : k' = k := congrArg (·.2.1) e
    have e2 : v' = v := congrArg (·.2.2) e
    rw [e1, e2]
    exact h
  · exact g b' k' v' hm
theorem Vl.app {a b : Its} (h : Vl a) (g : Vl b) : Vl (a ++ b) := fun b' k' v' hm => by
  rcases List.mem_append.mp hm with hm | hm
  · exact h b' k' v' hm
  · exact g b' k' v' hm
theorem iv_k {k v : Nat} (h : k < 47) : iv k v := Or.inl h
theorem iv_d {v : Nat} (h : v < 1000) : iv 48 v := Or.inr (Or.inr ⟨rfl, h⟩)
theorem iv_x {c k : Nat} (hc : isL c = true) (h : k < 10) : iv 47 (c * 256 + 48 + k) := Or.inr (Or.inl ⟨rfl, by rw [show (c * 256 + 48 + k) / 256 = c by omega]; exact hc, by rw [show (c * 256 + 48 + k) % 256 = 48 + k by omega]; exact isD_t.mpr (by omega)⟩)
theorem iv_s {k : Nat} (h : k < 10) : iv 47 (115 * 256 + 48 + k) := iv_x (by decide) h
theorem iv_g {k : Nat} (h : k < 10) : iv 47 (103 * 256 + 48 + k) := iv_x (by decide) h
theorem iv_t {k : Nat} (h : k < 10) : iv 47 (116 * 256 + 48 + k) := iv_x (by decide) h
theorem Vl_str {k a b : Nat} (h1 : k < 10) (h2 : a < 1000) (h3 : b < 1000) : Vl (strI k a b) := (Vl_c (iv_k (by decide)) (Vl_c (iv_s (by omega)) (Vl_c (iv_k (by decide)) (Vl_c (iv_d (by omega)) (Vl_c (iv_k (by decide)) (Vl_c (iv_d (by omega)) (Vl_c (iv_k (by decide)) Vl_n)))))))
theorem Vl_gt {q k a b : Nat} (h1 : k < 10) (h2 : a < 1000) (h3 : b < 1000) : Vl (gtI q k a b) := (Vl_c (iv_k (by decide)) (Vl_c (iv_g (by omega)) (Vl_c (iv_k (by decide)) (Vl_c (iv_d (by omega)) (Vl_c (iv_k (by decide)) (Vl_c (iv_d (by omega)) (Vl_c (iv_k (by decide)) Vl_n)))))))
theorem Vl_tr {q k a b c e g : Nat} (h1 : k < 10) (h2 : a < 1000) (h3 : b < 1000) (h4 : c < 1000) (h5 : e < 1000) (h6 : g < 1000) : Vl (trI q k a b c e g) := (Vl_c (iv_k (by decide)) (Vl_c (iv_t (by omega)) (Vl_c (iv_k (by decide)) (Vl_c (iv_d (by omega)) (Vl_c (iv_k (by decide)) (Vl_c (iv_d (by omega)) (Vl_c (iv_k (by decide)) (Vl_c (iv_d (by omega)) (Vl_c (iv_k (by decide)) (Vl_c (iv_d (by omega)) (Vl_c (iv_k (by decide)) (Vl_c (iv_d (by omega)) (Vl_c (iv_k (by decide)) Vl_n)))))))))))))
theorem Vl_s {r : Nat → Nat} {k : Nat} (h : ∀ q, r q < 1000) (h7 : r 7 < 10) (h8 : r 8 < 10) (h9 : r 9 < 10) : Vl (sI r k) := by
  have h3 := h 3
  have h5 := h 5
  have h6 := h 6
  unfold sI
  by_cases h0_ : k = 0
  · simp only [if_pos h0_]
    exact (Vl_c (iv_d (by omega)) Vl_n)
  by_cases h1_ : k = 1
  · simp only [if_neg h0_, if_pos h1_]
    exact (Vl_c (iv_k (by decide)) (Vl_c (iv_k (by decide)) (Vl_c (iv_d (by omega)) Vl_n)))
  by_cases h2_ : k = 2
  · simp only [if_neg h0_, if_neg h1_, if_pos h2_]
    exact (Vl_c (iv_d (by omega)) (Vl_c (iv_k (by decide)) (Vl_c (iv_k (by decide)) (Vl_c (iv_s (by omega)) Vl_n))))
  by_cases h3_ : k = 3
  · simp only [if_neg h0_, if_neg h1_, if_neg h2_, if_pos h3_]
    exact (Vl_c (iv_k (by decide)) (Vl_c (iv_k (by decide)) (Vl_c (iv_k (by decide)) (Vl_c (iv_k (by decide)) (Vl_c (iv_d (by omega)) (Vl_c (iv_k (by decide)) (Vl_c (iv_k (by decide)) (Vl_c (iv_d (by omega)) (Vl_c (iv_k (by decide)) (Vl_c (iv_k (by decide)) (Vl_c (iv_d (by omega)) Vl_n)))))))))))
  by_cases h4_ : k = 4
  · simp only [if_neg h0_, if_neg h1_, if_neg h2_, if_neg h3_, if_pos h4_]
    exact (Vl_c (iv_k (by decide)) (Vl_c (iv_k (by decide)) (Vl_c (iv_k (by decide)) (Vl_c (iv_g (by omega)) (Vl_c (iv_k (by decide)) (Vl_c (iv_d (by omega)) (Vl_c (iv_k (by decide)) (Vl_c (iv_k (by decide)) (Vl_c (iv_d (by omega)) (Vl_c (iv_k (by decide)) (Vl_c (iv_d (by omega)) Vl_n)))))))))))
  simp only [if_neg h0_, if_neg h1_, if_neg h2_, if_neg h3_, if_neg h4_]
  exact (Vl_c (iv_k (by decide)) (Vl_c (iv_k (by decide)) (Vl_c (iv_d (by omega)) Vl_n)))
theorem Vl_t {r : Nat → Nat} {k : Nat} (h : ∀ q, r q < 1000) (h7 : r 7 < 10) (h8 : r 8 < 10) (h9 : r 9 < 10) : Vl (tI r k) := by
  have h3 := h 3
  have h5 := h 5
  have h6 := h 6
  unfold tI
  by_cases h0_ : k = 0
  · simp only [if_pos h0_]
    exact (Vl_c (iv_k (by decide)) (Vl_c (iv_k (by decide)) (Vl_c (iv_d (by omega)) (Vl_c (iv_k (by decide)) (Vl_c (iv_d (by omega)) Vl_n)))))
  by_cases h1_ : k = 1
  · simp only [if_neg h0_, if_pos h1_]
    exact (Vl_c (iv_k (by decide)) (Vl_c (iv_g (by omega)) Vl_n))
  by_cases h2_ : k = 2
  · simp only [if_neg h0_, if_neg h1_, if_pos h2_]
    exact (Vl_c (iv_k (by decide)) (Vl_c (iv_k (by decide)) (Vl_c (iv_s (by omega)) (Vl_c (iv_k (by decide)) (Vl_c (iv_k (by decide)) (Vl_c (iv_k (by decide)) (Vl_c (iv_d (by omega)) Vl_n)))))))
  by_cases h3_ : k = 3
  · simp only [if_neg h0_, if_neg h1_, if_neg h2_, if_pos h3_]
    exact (Vl_c (iv_k (by decide)) (Vl_c (iv_s (by omega)) (Vl_c (iv_k (by decide)) (Vl_c (iv_d (by omega)) Vl_n))))
  by_cases h4_ : k = 4
  · simp only [if_neg h0_, if_neg h1_, if_neg h2_, if_neg h3_, if_pos h4_]
    exact (Vl_c (iv_k (by decide)) (Vl_c (iv_g (by omega)) (Vl_c (iv_k (by decide)) (Vl_c (iv_d (by omega)) (Vl_c (iv_k (by decide)) (Vl_c (iv_d (by omega)) (Vl_c (iv_k (by decide)) (Vl_c (iv_k (by decide)) (Vl_c (iv_k (by decide)) (Vl_c (iv_g (by omega)) Vl_n))))))))))
  by_cases h5_ : k = 5
  · simp only [if_neg h0_, if_neg h1_, if_neg h2_, if_neg h3_, if_neg h4_, if_pos h5_]
    exact (Vl_c (iv_k (by decide)) (Vl_c (iv_k (by decide)) (Vl_c (iv_k (by decide)) (Vl_c (iv_d (by omega)) (Vl_c (iv_k (by decide)) (Vl_c (iv_k (by decide)) (Vl_c (iv_d (by omega)) (Vl_c (iv_k (by decide)) (Vl_c (iv_k (by decide)) (Vl_c (iv_k (by decide)) (Vl_c (iv_d (by omega)) (Vl_c (iv_k (by decide)) (Vl_c (iv_d (by omega)) (Vl_c (iv_k (by decide)) (Vl_c (iv_k (by decide)) (Vl_c (iv_k (by decide)) (Vl_c (iv_k (by decide)) (Vl_c (iv_k (by decide)) (Vl_c (iv_t (by omega)) (Vl_c (iv_k (by decide)) (Vl_c (iv_d (by omega)) Vl_n)))))))))))))))))))))
  by_cases h6_ : k = 6
  · simp only [if_neg h0_, if_neg h1_, if_neg h2_, if_neg h3_, if_neg h4_, if_neg h5_, if_pos h6_]
    exact (Vl_c (iv_k (by decide)) (Vl_c (iv_g (by omega)) (Vl_c (iv_k (by decide)) (Vl_c (iv_d (by omega)) Vl_n))))
  simp only [if_neg h0_, if_neg h1_, if_neg h2_, if_neg h3_, if_neg h4_, if_neg h5_, if_neg h6_]
  exact (Vl_c (iv_d (by omega)) (Vl_c (iv_k (by decide)) (Vl_c (iv_d (by omega)) (Vl_c (iv_k (by decide)) (Vl_c (iv_d (by omega)) (Vl_c (iv_k (by decide)) (Vl_c (iv_d (by omega)) Vl_n)))))))
theorem Vl_or {so wh wi : Nat} {w4 : Int} {r : Nat → Nat} (h : ∀ q, r q < 1000) (h7 : r 7 < 10) (h8 : r 8 < 10) (h9 : r 9 < 10) (h1 : wh < 10) (h2 : so = 0 → wi < 10) (h3 : wi < 1000) : Vl (orI so wh wi w4 r) := by
  have ht := Vl_t (k := w4.toNat) h h7 h8 h9
  have hs := Vl_s (k := wi) h h7 h8 h9
  have e36 : Vl [(0, 36, 0)] := Vl_c (iv_k (by decide)) Vl_n
  unfold orI
  split
  · rename_i c
    exact (Vl_c (iv_k (by decide)) (Vl_c (iv_t h1) (Vl_c (iv_k (by decide)) (Vl_c (iv_g (h2 c)) (Vl_c (iv_k (by decide)) Vl_n))))).app (ht.app e36)
  · split
    · exact (Vl_c (iv_k (by decide)) (Vl_c (iv_g h1) (Vl_c (iv_k (by decide)) (Vl_c (iv_d h3) (Vl_c (iv_k (by decide)) Vl_n))))).app (ht.app e36)
    · refine (Vl_c (iv_k (by decide)) (Vl_c (iv_s h1) (Vl_c (iv_k (by decide)) Vl_n))).app (hs.app (Vl.app ?_ e36))
      split
      · exact Vl_n
      · exact Vl_c (iv_k (by decide)) ht
theorem Vl_2 : ∀ k, k ≤ 10 → Vl (its2 ce k)
  | 0, _ => Vl_n
  | k + 1, h => (Vl_2 k (by omega)).app (Vl_str (by omega) (by have := ml_b (ce := ce) k; omega) (by have := sf_b (ce := ce) k; omega))
theorem Vl_4 {l : Its} (hl : Vl l) : ∀ k, k ≤ 10 → Vl (its4 ce l k)
  | 0, _ => hl
  | k + 1, h => (Vl_4 hl k (by omega)).app (Vl_gt (by omega) (by have := ga_b (ce := ce) k; omega) (by have := gt_b (ce := ce) k; omega))
theorem Vl_5 {l : Its} (hl : Vl l) : ∀ k, k ≤ 10 → Vl (its5 ce l k)
  | 0, _ => hl
  | k + 1, h => (Vl_5 hl k (by omega)).app (Vl_tr (by omega) (by have := tw_b (ce := ce) k; omega) (by have := twl_b (ce := ce) k; omega) (by have := tfr_b (ce := ce) k; omega) (by have := tto_b (ce := ce) k; omega) (by have := tev_b (ce := ce) k; omega))
theorem Vl_6 {l : Its} (hl : Vl l) : ∀ k, Vl (its6 ce l k)
  | 0 => hl
  | k + 1 => (Vl_6 hl k).app (by
    obtain ⟨h7, h8, h9⟩ := orw_789 (ce := ce) k
    have h4 := C4_b (ce := ce)
    have g := owi_b (ce := ce) k
    exact Vl_or (fun q => orw_b (ce := ce) k q) h7 h8 h9 (owh_10 k) (fun h => by have := g.2.1 h; omega) (by omega))
theorem Vl_L : Vl (itsL ce) := by
  have h2 := C2_b (ce := ce)
  have h4 := C4_b (ce := ce)
  have h5 := C5_b (ce := ce)
  exact Vl_6 (Vl_5 (Vl_4 (Vl_2 _ (by omega)) _ (by omega)) _ (by omega)) _
-- one behind the other
def Ad (l : Its) : Prop := adj l = true ∧ ∀ m, adj m = true → adj (l ++ m) = true
theorem Ad.app {a b : Its} (h : Ad a) (g : Ad b) : Ad (a ++ b) := ⟨h.2 b g.1, fun m hm => by rw [List.append_assoc]; exact h.2 _ (g.2 m hm)⟩
theorem Ad_n : Ad [] := ⟨rfl, fun m hm => hm⟩
theorem aj36 (b k : Nat) : aj 36 b k = true := by
  unfold aj
  rw [show wrd 36 = false from rfl, show ((36 : Nat) == 42 || (36 : Nat) == 43) = false from rfl]
  simp
theorem adj_e (b v : Nat) : ∀ (a m : Its), adj (a ++ [(b, 36, v)]) = true → adj m = true → adj (a ++ (b, 36, v) :: m) = true
  | [], [], _, _ => rfl
  | [], (b', k', v') :: m, _, hm => by
    show (aj 36 b' k' && adj ((b', k', v') :: m)) = true
    rw [aj36, hm]
    rfl
  | [(b1, k1, v1)], m, h, hm => by
    have h' : (aj k1 b 36 && true) = true := h
    show (aj k1 b 36 && adj ((b, 36, v) :: m)) = true
    have g := adj_e b v [] m rfl hm
    rw [show adj ((b, 36, v) :: m) = true from g]
    exact h'
  | (b1, k1, v1) :: (b2, k2, v2) :: a, m, h, hm => by
    have h' : (aj k1 b2 k2 && adj (((b2, k2, v2) :: a) ++ [(b, 36, v)])) = true := h
    show (aj k1 b2 k2 && adj (((b2, k2, v2) :: a) ++ (b, 36, v) :: m)) = true
    rw [Bool.and_eq_true] at h' ⊢
    exact ⟨h'.1, adj_e b v _ m h'.2 hm⟩
theorem adj_b {b k v : Nat} (hb : (b != 0) = true) : ∀ (a m : Its), adj a = true → adj ((b, k, v) :: m) = true → adj (a ++ (b, k, v) :: m) = true
  | [], _, _, hm => hm
  | [(b1, k1, v1)], m, h, hm => by
    show (aj k1 b k && adj ((b, k, v) :: m)) = true
    rw [hm]
    unfold aj
    rw [hb]
    rfl
  | (b1, k1, v1) :: (b2, k2, v2) :: a, m, h, hm => by
    have h' : (aj k1 b2 k2 && adj ((b2, k2, v2) :: a)) = true := h
    show (aj k1 b2 k2 && adj (((b2, k2, v2) :: a) ++ (b, k, v) :: m)) = true
    rw [Bool.and_eq_true] at h' ⊢
    exact ⟨h'.1, adj_b hb _ m h'.2 hm⟩
theorem Ad_e {a : Its} {b v : Nat} (h : adj (a ++ [(b, 36, v)]) = true) : Ad (a ++ [(b, 36, v)]) := ⟨h, fun m hm => by rw [List.append_assoc]; exact adj_e b v a m h hm⟩
theorem Ad_str {k a b : Nat} : Ad (strI k a b) := Ad_e (a := [(0, 0, 0), (1, 47, 115 * 256 + 48 + k), (1, 1, 0), (1, 48, a), (1, 2, 0), (1, 48, b)]) rfl
theorem Ad_gt {q k a b : Nat} : Ad (gtI q k a b) := Ad_e (a := [(q, 3, 0), (1, 47, 103 * 256 + 48 + k), (1, 4, 0), (1, 48, a), (1, 5, 0), (1, 48, b)]) rfl
theorem Ad_tr {q k a b c e g : Nat} : Ad (trI q k a b c e g) := Ad_e (a := [(q, 6, 0), (1, 47, 116 * 256 + 48 + k), (1, 7, 0), (1, 48, a), (1, 8, 0), (1, 48, b), (1, 9, 0), (1, 48, c), (1, 10, 0), (1, 48, e), (1, 11, 0), (1, 48, g)]) rfl
theorem adj_t_ {r : Nat → Nat} {k : Nat} : ∀ p : Its, (p = [(0, 12, 0), (1, 47, 0), (1, 4, 0), (1, 47, 0), (1, 17, 0)] ∨ p = [(0, 13, 0), (1, 47, 0), (1, 14, 0), (1, 48, 0), (1, 17, 0)]) → adj (p ++ (tI r k ++ [(0, 36, 0)])) = true := by
  intro p hp
  unfold tI
  rcases hp with rfl | rfl
  · (repeat' split) <;> rfl
  · (repeat' split) <;> rfl
theorem Ad_or {so wh wi : Nat} {w4 : Int} {r : Nat → Nat} : Ad (orI so wh wi w4 r) := by
  unfold orI
  split
  · rw [← List.append_assoc]
    refine Ad_e ?_
    rw [List.append_assoc]
    exact adj_t_ [(0, 12, 0), (1, 47, 0), (1, 4, 0), (1, 47, 0), (1, 17, 0)] (Or.inl rfl)
  · split
    · rw [← List.append_assoc]
      refine Ad_e ?_
      rw [List.append_assoc]
      exact adj_t_ [(0, 13, 0), (1, 47, 0), (1, 14, 0), (1, 48, 0), (1, 17, 0)] (Or.inr rfl)
    · have e1 : adj ([(0, 15, 0), (1, 47, 115 * 256 + 48 + wh), (1, 16, 0)] ++ (sI r wi ++ [(0, 36, 0)])) = true := by
        unfold sI
        (repeat' split) <;> rfl
      split
      · rw [← List.append_assoc, List.nil_append]
        refine Ad_e ?_
        rw [List.append_assoc]
        exact e1
      · rw [← List.append_assoc, ← List.append_assoc]
        refine Ad_e ?_
        rw [List.append_assoc]
        refine adj_b (by decide) _ _ ?_ ?_
        · unfold sI
          (repeat' split) <;> rfl
        · show adj ((1, 17, 0) :: (tI r w4.toNat ++ [(0, 36, 0)])) = true
          unfold tI
          (repeat' split) <;> rfl
theorem Ad_2 : ∀ k, Ad (its2 ce k)
  | 0 => Ad_n
  | k + 1 => (Ad_2 k).app Ad_str
theorem Ad_4 {l : Its} (hl : Ad l) : ∀ k, Ad (its4 ce l k)
  | 0 => hl
  | k + 1 => (Ad_4 hl k).app Ad_gt
theorem Ad_5 {l : Its} (hl : Ad l) : ∀ k, Ad (its5 ce l k)
  | 0 => hl
  | k + 1 => (Ad_5 hl k).app Ad_tr
theorem Ad_6 {l : Its} (hl : Ad l) : ∀ k, Ad (its6 ce l k)
  | 0 => hl
  | k + 1 => (Ad_6 hl k).app Ad_or
theorem Ad_L : adj (itsL ce) = true := (Ad_6 (Ad_5 (Ad_4 (Ad_2 _) _) _) _).1
-- orders are counted
theorem nOr_app : ∀ a b : Its, nOr (a ++ b) = nOr a + nOr b
  | [], b => (Nat.zero_add _).symm
  | (_, k, _) :: a, b => by
    show (if k = 12 ∨ k = 13 ∨ k = 15 then 1 else 0) + nOr (a ++ b) = (if k = 12 ∨ k = 13 ∨ k = 15 then 1 else 0) + nOr a + nOr b
    rw [nOr_app a b, Nat.add_assoc]
theorem nOr_c {b k v : Nat} {l : Its} (h : k ≠ 12 ∧ k ≠ 13 ∧ k ≠ 15) : nOr ((b, k, v) :: l) = nOr l := by
  show (if k = 12 ∨ k = 13 ∨ k = 15 then 1 else 0) + nOr l = nOr l
  rw [if_neg (by omega), Nat.zero_add]
theorem nOr_s {r : Nat → Nat} {k : Nat} : nOr (sI r k) = 0 := by
  unfold sI
  (repeat' split) <;> ((repeat rw [nOr_c (by decide)]); rfl)
theorem nOr_t {r : Nat → Nat} {k : Nat} : nOr (tI r k) = 0 := by
  unfold tI
  (repeat' split) <;> ((repeat rw [nOr_c (by decide)]); rfl)
theorem nOr_or {so wh wi : Nat} {w4 : Int} {r : Nat → Nat} : nOr (orI so wh wi w4 r) = 1 := by
  unfold orI
  split
  · rw [nOr_app, nOr_app, nOr_t]; rfl
  · split
    · rw [nOr_app, nOr_app, nOr_t]; rfl
    · rw [nOr_app, nOr_app, nOr_app, nOr_s]
      split
      · rfl
      · show _ + (0 + (nOr ((1, 17, 0) :: tI r w4.toNat) + _)) = 1
        rw [show nOr ((1, 17, 0) :: tI r w4.toNat) = 0 + nOr (tI r w4.toNat) from rfl, nOr_t]
        rfl
theorem nOr_2 : ∀ k, nOr (its2 ce k) = 0
  | 0 => rfl
  | k + 1 => by
    show nOr (its2 ce k ++ strI k (ml ce k) (sf ce k)) = 0
    rw [nOr_app, nOr_2 k]
    rfl
theorem nOr_4 {l : Its} (hl : nOr l = 0) : ∀ k, nOr (its4 ce l k) = 0
  | 0 => hl
  | k + 1 => by
    show nOr (its4 ce l k ++ gtI _ k (ga ce k) (gt ce k)) = 0
    rw [nOr_app, nOr_4 hl k]
    rfl
theorem nOr_5 {l : Its} (hl : nOr l = 0) : ∀ k, nOr (its5 ce l k) = 0
  | 0 => hl
  | k + 1 => by
    show nOr (its5 ce l k ++ trI _ k (tw ce k) (twl ce k) (tfr ce k) (tto ce k) (tev ce k)) = 0
    rw [nOr_app, nOr_5 hl k]
    rfl
theorem nOr_6 {l : Its} (hl : nOr l = 0) : ∀ k, nOr (its6 ce l k) = k
  | 0 => hl
  | k + 1 => by
    show nOr (its6 ce l k ++ orI (oso ce k) (owh ce k) (owi ce k) (o4 ce k) (orw ce k)) = k + 1
    rw [nOr_app, nOr_6 hl k, nOr_or]
theorem nOr_L : nOr (itsL ce) ≤ 20 := by
  have h6 := C6_b (ce := ce)
  unfold itsL
  rw [nOr_6 (nOr_5 (nOr_4 (nOr_2 _) _) _)]
  omega
theorem txt_128 : ∀ {l : Its}, Vl l → ∀ x, x ∈ txt l → x < 128
  | [], _, x, hx => by cases hx
  | (b, k, v) :: l, h, x, hx => by
    have hx' : x ∈ bb b ++ (ib k v ++ txt l) := hx
    rcases List.mem_append.mp hx' with hx | hx
    · have := bb_m hx
      omega
    · rcases List.mem_append.mp hx with hx | hx
      · have hv := h b k v (List.mem_cons_self ..)
        unfold ib at hx
        by_cases c1 : k < 32
        · rw [if_pos c1] at hx
          have := isL_t.mp ((kwF k c1).2.2.2.2 x hx)
          omega
        · rw [if_neg c1] at hx
          by_cases c2 : k < 45
          · rw [if_pos c2] at hx
            rw [List.mem_singleton.mp hx]
            exact (by decide : ∀ j, j < 13 → symN.getD j 0 < 128) (k - 32) (by omega)
          · rw [if_neg c2] at hx
            by_cases c3 : k = 45
            · rw [if_pos c3] at hx
              exact (by decide : ∀ x, x ∈ ([60, 61] : List Nat) → x < 128) x hx
            · rw [if_neg c3] at hx
              by_cases c4 : k = 46
              · rw [if_pos c4] at hx
                exact (by decide : ∀ x, x ∈ ([62, 61] : List Nat) → x < 128) x hx
              · rw [if_neg c4] at hx
                rcases hv with hv | ⟨hk, h1, h2⟩ | ⟨hk, h1⟩
                · omega
                · rw [if_pos hk] at hx
                  have g1 := isL_t.mp h1
                  have g2 := isD_t.mp h2
                  rcases List.mem_cons.mp hx with e | hx
                  · omega
                  · have e := List.mem_singleton.mp hx
                    omega
                · rw [if_neg (by omega)] at hx
                  unfold dgN at hx
                  split at hx
                  · have e := List.mem_singleton.mp hx
                    omega
                  · split at hx
                    · rcases List.mem_cons.mp hx with e | hx
                      · omega
                      · have e := List.mem_singleton.mp hx
                        omega
                    · rcases List.mem_cons.mp hx with e | hx
                      · omega
                      · rcases List.mem_cons.mp hx with e | hx
                        · omega
                        · have e := List.mem_singleton.mp hx
                          omega
      · exact txt_128 (fun b' k' v' hm => h b' k' v' (List.mem_cons_of_mem _ hm)) x hx
end ZC
