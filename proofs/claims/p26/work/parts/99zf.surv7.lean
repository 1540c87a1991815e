/-! what a list tells, whole; what its tokens are worth -/
section ZF
variable {ce : Nat → Int} {R : Nat → Nat → Int} {k : Nat}
abbrev z0s : Sts := (0, 0, 0, fun _ _ => 0)
theorem lkd_2 : ∀ k, lkd 36 (its2 ce k) = 36
  | 0 => rfl
  | k + 1 => by
    show lkd 36 (its2 ce k ++ strI k (ml ce k) (sf ce k)) = 36
    rw [lkd_app]
    rfl
theorem lkd_4 {l : Its} (h : lkd 36 l = 36) : ∀ k, lkd 36 (its4 ce l k) = 36
  | 0 => h
  | k + 1 => by
    show lkd 36 (its4 ce l k ++ gtI _ k (ga ce k) (gt ce k)) = 36
    rw [lkd_app]
    rfl
theorem lkd_5 {l : Its} (h : lkd 36 l = 36) : ∀ k, lkd 36 (its5 ce l k) = 36
  | 0 => h
  | k + 1 => by
    show lkd 36 (its5 ce l k ++ trI _ k (tw ce k) (twl ce k) (tfr ce k) (tto ce k) (tev ce k)) = 36
    rw [lkd_app]
    rfl
theorem lkd_6 {l : Its} (h : lkd 36 l = 36) : ∀ k, lkd 36 (its6 ce l k) = 36
  | 0 => h
  | k + 1 => by
    show lkd 36 (its6 ce l k ++ orI (oso ce k) (owh ce k) (owi ce k) (o4 ce k) (orw ce k)) = 36
    rw [lkd_app, lkd_or]
theorem okc_app {a b : Its} {s s' s'' : Sts} (h : okL 36 a s ∧ effL 36 a s = s') (h36 : lkd 36 a = 36) (g : okL 36 b s' ∧ effL 36 b s' = s'') : okL 36 (a ++ b) s ∧ effL 36 (a ++ b) s = s'' := by
  refine ⟨okL_app _ _ _ _ h.1 (by rw [h36, h.2]; exact g.1), ?_⟩
  rw [effL_app, h36, h.2]
  exact g.2
theorem iv_0 : IvQ ce 0 0 0 (fun _ _ => 0) := ⟨⟨⟨rfl, rfl, rfl, rfl⟩, fun j hj => absurd hj (Nat.not_lt_zero _), fun j hj => absurd hj (Nat.not_lt_zero _), fun j hj => absurd hj (Nat.not_lt_zero _), fun j hj => absurd hj (Nat.not_lt_zero _)⟩, ⟨fun _ _ => ⟨rfl, rfl, rfl⟩, fun _ _ => rfl⟩, fun _ _ => rfl, fun _ _ => rfl⟩
theorem sv_2 : ∀ k, k ≤ 4 → ∃ R, (okL 36 (its2 ce k) z0s ∧ effL 36 (its2 ce k) z0s = (k, 0, 0, R)) ∧ IvQ ce k 0 0 R
  | 0, _ => ⟨fun _ _ => 0, ⟨trivial, rfl⟩, iv_0⟩
  | k + 1, h => by
    obtain ⟨R, g, hi⟩ := sv_2 k (by omega)
    have hm := ml_b (ce := ce) k
    have hs := sf_b (ce := ce) k
    have hp := psm_b (f := ml ce) ml_b k
    have h1 := hi.1.1.2.1
    exact ⟨_, okc_app g (lkd_2 k) (sv_str (by omega) hm hs (by omega) (by omega)), iq_2 hi⟩
theorem sv_4 : ∀ k, k ≤ 4 → ∃ R, (okL 36 (its4 ce (its2 ce (C2 ce)) k) z0s ∧ effL 36 (its4 ce (its2 ce (C2 ce)) k) z0s = (C2 ce, k, 0, R)) ∧ IvQ ce (C2 ce) k 0 R
  | 0, _ => sv_2 _ (C2_b (ce := ce)).2
  | k + 1, h => by
    obtain ⟨R, g, hi⟩ := sv_4 k (by omega)
    have hm := ga_b (ce := ce) k
    have hs := gt_b (ce := ce) k
    have h1 := hi.1.1.2.1
    have h2 : (ga ce k : Int) < R 0 1 := by
      have e : mny ce = psm (ml ce) (C2 ce) := rfl
      rw [h1, ← e]
      omega
    exact ⟨_, okc_app g (lkd_4 (lkd_2 _) k) (sv_gt (by omega) (by omega) hs h2), iq_4 hi⟩
theorem sv_5 : ∀ k, k ≤ 5 → ∃ R, (okL 36 (its5 ce (its4 ce (its2 ce (C2 ce)) (C4 ce)) k) z0s ∧ effL 36 (its5 ce (its4 ce (its2 ce (C2 ce)) (C4 ce)) k) z0s = (C2 ce, C4 ce, k, R)) ∧ IvQ ce (C2 ce) (C4 ce) k R
  | 0, _ => sv_4 _ (C4_b (ce := ce)).2
  | k + 1, h => by
    obtain ⟨R, g, hi⟩ := sv_5 k (by omega)
    have b1 := tw_b (ce := ce) k
    have b2 := twl_b (ce := ce) k
    have b3 := tfr_b (ce := ce) k
    have b4 := tto_b (ce := ce) k
    have b5 := tev_b (ce := ce) k
    have h1 := hi.1.1.2.1
    have e : mny ce = psm (ml ce) (C2 ce) := rfl
    rw [← e] at h1
    exact ⟨_, okc_app g (lkd_5 (lkd_4 (lkd_2 _) _) k) (sv_tr (by omega) b1 b2 (by omega) (by omega) b5 (by omega) (by omega)), iq_5 hi⟩
theorem nL_o (k : Nat) : nL (C2 ce) (C4 ce) (C5 ce) 36 (orI (oso ce k) (owh ce k) (owi ce k) (o4 ce k) (orw ce k)) := by
  have h2 := C2_b (ce := ce)
  have h4 := C4_b (ce := ce)
  have h5 := C5_b (ce := ce)
  have c4 := (bN_e (v := sh (X6 ce k) 5) (n := C2 ce) (by omega)).2
  have c5 := (bN_e (v := sh (Y6 ce k) 2) (n := C4 ce) (by omega)).2
  have c6 := (bN_e (v := sh (Y6 ce k) 4) (n := C5 ce) (by omega)).2
  have g := owi_b (ce := ce) k
  exact nL_or (fun q => orw_b (ce := ce) k q) c4 c5 c6 (owh_b k) g.2.1 (by omega)
theorem sv_6 : ∀ k, ∃ R, (okL 36 (its6 ce (itsB ce) k) z0s ∧ effL 36 (its6 ce (itsB ce) k) z0s = (C2 ce, C4 ce, C5 ce, R)) ∧ IvQ ce (C2 ce) (C4 ce) (C5 ce) R
  | 0 => sv_5 _ (C5_b (ce := ce)).2
  | k + 1 => by
    obtain ⟨R, g, hi⟩ := sv_6 k
    exact ⟨R, okc_app g (lkd_6 (lkd_5 (lkd_4 (lkd_2 _) _) _) k) (nL_ok _ _ R (nL_o k)), hi⟩
theorem sv_L : okL 36 (itsL ce) z0s ∧ IvQ ce (C2 ce) (C4 ce) (C5 ce) (effL 36 (itsL ce) z0s).2.2.2 := by
  obtain ⟨R, g, hi⟩ := sv_6 (ce := ce) (C6 ce)
  refine ⟨g.1, ?_⟩
  rw [show effL 36 (itsL ce) z0s = (C2 ce, C4 ce, C5 ce, R) from g.2]
  exact hi
-- worths
theorem wV_r : ∀ (b : Nat) (x y : Its) (j : Nat), wV b (x ++ y) (x.length + j) = wV (lkd b x) y j
  | _, [], y, j => by rw [List.nil_append, List.length_nil, Nat.zero_add]; rfl
  | b, (q, k, v) :: x, y, j => by
    show wV b ((q, k, v) :: (x ++ y)) (x.length + 1 + j) = _
    rw [show x.length + 1 + j = (x.length + j) + 1 by omega]
    exact wV_r k x y j
theorem wV_l : ∀ (b : Nat) (x y : Its) (j : Nat), j < x.length → wV b (x ++ y) j = wV b x j
  | b, (q, k, v) :: x, y, 0, _ => rfl
  | b, (q, k, v) :: x, y, j + 1, h => wV_l k x y j (by have h' : j + 1 < x.length + 1 := h; omega)
theorem its6_p {l : Its} : ∀ k i, i ≤ k → ∃ t, its6 ce l k = its6 ce l i ++ t
  | 0, i, h => by
    obtain rfl : i = 0 := by omega
    exact ⟨[], (List.append_nil _).symm⟩
  | k + 1, i, h => by
    by_cases e : i = k + 1
    · subst e
      exact ⟨[], (List.append_nil _).symm⟩
    · obtain ⟨t, ht⟩ := its6_p (l := l) k i (by omega)
      refine ⟨t ++ orI (oso ce k) (owh ce k) (owi ce k) (o4 ce k) (orw ce k), ?_⟩
      rw [← List.append_assoc, ← ht]
      rfl
abbrev orT (ce : Nat → Int) (i : Nat) : Its := orI (oso ce i) (owh ce i) (owi ce i) (o4 ce i) (orw ce i)
theorem orT_l (i : Nat) : (orT ce i).length = (lor ce i).1.length := by
  have h := congrArg List.length (kd_or (so := oso ce i) (wh := owh ce i) (wi := owi ce i) (w4 := o4 ce i) (r := orw ce i))
  rw [show (kd (orT ce i)).length = (orT ce i).length from List.length_map _] at h
  exact h
theorem wO {i j : Nat} (hi : i < C6 ce) (hj : j < (orT ce i).length) : aO ce i + j < (itsL ce).length ∧ wV 36 (itsL ce) (aO ce i + j) = wV 36 (orT ce i) j := by
  obtain ⟨t, ht⟩ := its6_p (ce := ce) (l := itsB ce) (C6 ce) (i + 1) hi
  have e1 : itsL ce = its6 ce (itsB ce) (C6 ce) := rfl
  have e2 : its6 ce (itsB ce) (i + 1) = its6 ce (itsB ce) i ++ orT ce i := rfl
  have e3 := its6_a (ce := ce) i
  rw [e2, List.append_assoc] at ht
  rw [e1, ht, ← e3]
  refine ⟨?_, ?_⟩
  · rw [List.length_append, List.length_append]
    omega
  · have eB : lkd 36 (itsB ce) = 36 := lkd_5 (lkd_4 (lkd_2 _) _) _
    rw [wV_r, lkd_6 eB i, wV_l _ _ _ _ hj]
end ZF
