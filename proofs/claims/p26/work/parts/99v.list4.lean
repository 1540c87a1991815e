/-! the law's list: miles, gates, traffics (wip/p26/gen99v.py) -/
section LV
variable {E : Nat → Value} {d : Nat} {S S' S0 S1 : aS} {M M' M0 M1 : Nat → Nat → Int} {Q : Option (Option Value) → aS → aI → Prop} {cb bo bt s sb sa n v z z0 Jn : Nat} {bs : List Int} {m T : Nat → Nat} {A : Nat → Nat → Nat} {ce : Nat → Int}
set_option maxHeartbeats 2000000 in
theorem ls3i {k i : Nat} {p7 p8 p9 p10 : Option Value} (hL : Ls E S0 M0 cb bo bt sa n ce) (hd : 30 ≤ d) (h : Lz cb sb s S0 M0 ce S M v bs z 3 m T A) (hm2 : m 2 = C2 ce) (hm : m 3 = psm (ml ce) k + i) (hk : k < C2 ce) (hi : i < ml ce k)
    (q : ∀ S' M' m' T' A', Lz cb sb s S0 M0 ce S' M' v bs (z + 1) 3 m' T' A' → m' 2 = C2 ce → m' 3 = psm (ml ce) k + (i + 1) → X E d fL_list 202 [some (.ref sa), some (.ref sb), some (.ref s), some (J (mny ce : Int)), some (J (k : Int)), some (J ((psm (ml ce) k + (i + 1) : Nat) : Int)), some (J ((i + 1 : Nat) : Int)), p7, p8, p9, p10] [] S' (mI M') Q) :
    X E d fL_list 202 [some (.ref sa), some (.ref sb), some (.ref s), some (J (mny ce : Int)), some (J (k : Int)), some (J ((psm (ml ce) k + i : Nat) : Int)), some (J (i : Int)), p7, p8, p9, p10] [] S (mI M) Q := by
  obtain ⟨s1, s2⟩ := h.sk
  obtain ⟨t1, t2, t3, t4, t5⟩ := h.tb (j := 2) (by decide) (by decide)
  obtain ⟨u1, u2, u3, u4, u5⟩ := h.tb (j := 3) (by decide) (by decide)
  obtain ⟨r1, r2, r3, r4, r5⟩ := h.ro (j := 2) (k := k) (by decide) (by decide) (by omega)
  have hC : cC ce 2 = C2 ce := rfl
  have hC3 : cC ce 3 = mny ce := rfl
  have hC2 := C2_b (ce := ce)
  have hml := ml_b (ce := ce) k
  have hmn := mny_b (ce := ce)
  have hlt : psm (ml ce) k + i < mny ce := by
    have := psm_mono (f := ml ce) (show k + 1 ≤ C2 ce by omega)
    have e : psm (ml ce) (k + 1) = psm (ml ce) k + ml ce k := rfl
    unfold mny
    omega
  have e0 : M (A 2 k) 0 = (ml ce k : Int) := r4 0 (by decide)
  have so : sOf (ml ce) (C2 ce) (psm (ml ce) k + i) = k := sOf_e hk (by omega) (by show psm (ml ce) k + i < psm (ml ce) k + ml ce k; omega)
  obtain ⟨Sr, eSr⟩ : ∃ x, aNew S 100 3 3 = x := ⟨_, rfl⟩
  have hSr : Sr = aNew S 100 (wd 3) (wd 3) := eSr.symm
  have kr : aK Sr (aX S) = 100 := by rw [← eSr]; exact aNew_K
  have dr : aKd Sr (aX S) = 100 := by unfold aKd; rw [kr]
  have nr : aN Sr (aX S) = 3 := by rw [← eSr]; exact aNew_N
  have Kr' : ∀ x, x < aX S → aK Sr x = aK S x := fun x hx => by rw [← eSr]; exact nK_lt hx
  have Nr' : ∀ x, x < aX S → aN Sr x = aN S x := fun x hx => by rw [← eSr]; exact nN_lt hx
  have Pr' : ∀ x, x < aX S → aP Sr x = aP S x := fun x hx => by rw [← eSr]; exact nP_lt hx
  have Dr' : ∀ x, x < aX S → aKd Sr x = aKd S x := fun x hx => by unfold aKd; rw [Kr' x hx]
  obtain ⟨Mr, eMr⟩ : ∃ x, (mW (mW (mW (aU M (aX S) (fun _ => 0)) (aX S) 0 (k : Int)) (aX S) 1 100) (aX S) 2 0) = x := ⟨_, rfl⟩
  have mr : RM Mr := by rw [← eMr]; exact (((RM.nw h.1.2.1).w ⟨by omega, by omega⟩).w (by decide)).w (by decide)
  have fr : ∀ x, x < aX S → Mr x = M x := fun x hx => by rw [← eMr, mW_ne (Nat.ne_of_lt hx), mW_ne (Nat.ne_of_lt hx), mW_ne (Nat.ne_of_lt hx), aU_ne _ _ (Nat.ne_of_lt hx)]
  have w0 : Mr (aX S) 0 = (k : Int) := by rw [← eMr, mW_ne2 (Or.inr (by decide)), mW_ne2 (Or.inr (by decide))]; exact mW_eq
  have w1 : Mr (aX S) 1 = 100 := by rw [← eMr, mW_ne2 (Or.inr (by decide))]; exact mW_eq
  have w2 : Mr (aX S) 2 = 0 := by rw [← eMr]; exact mW_eq
  have hrow := h.rw_ (j := 3) (k := psm (ml ce) k + i) (by decide) rfl hm.symm hSr mr fr (fun q hq => by
    have hq' : q < 3 := hq
    rcases (by omega : q = 0 ∨ q = 1 ∨ q = 2) with e | e | e
    · subst e
      show _ = (sOf (ml ce) (C2 ce) (psm (ml ce) k + i) : Int)
      rw [so]
      exact w0
    · subst e; exact w1
    · subst e; exact w2)
  refine kL_list_202 s2 t1 t3 ⟨by omega, by omega⟩ (by rw [t4, hC]; exact ⟨by omega, by omega⟩) (by rw [Int.toNat_natCast]; exact r1) r2 (by rw [r3]; decide) ⟨by omega, by omega⟩ (by rw [e0]; exact ⟨by omega, by omega⟩) (fun hx => absurd hx (by rw [e0]; omega)) (fun _ => ?_)
  refine kL_list_216 (M_10 := Mr) s2 u1 ?_ ?_ ?_ ?_ eMr ?_ ⟨by omega, by omega⟩ ?_ ?_ ?_
  all_goals rw [eSr]
  · exact kr
  · rw [nr]; decide
  · rw [nr]; decide
  · rw [nr]; decide
  · exact (Kr' _ u5).trans u2
  · rw [Nr' _ u5, u4, hC3]; exact ⟨by omega, by omega⟩
  · exact kr
  · rw [Int.toNat_natCast, show ((psm (ml ce) k + i : Nat) : Int) + 1 = ((psm (ml ce) k + (i + 1) : Nat) : Int) by omega, show (i : Int) + 1 = ((i + 1 : Nat) : Int) by omega]
    exact q _ _ _ _ _ hrow (by rw [updN_n (by decide)]; exact hm2) updN_s
theorem ls3j {k : Nat} {p7 p8 p9 p10 : Option Value} (hL : Ls E S0 M0 cb bo bt sa n ce) (hd : 30 ≤ d) (hk : k < C2 ce)
    (q : ∀ S' M' m' T' A' p6, Lz cb sb s S0 M0 ce S' M' v bs (z + ml ce k) 3 m' T' A' → m' 2 = C2 ce → m' 3 = psm (ml ce) (k + 1) → X E d fL_list 189 [some (.ref sa), some (.ref sb), some (.ref s), some (J (mny ce : Int)), some (J ((k + 1 : Nat) : Int)), some (J ((psm (ml ce) (k + 1) : Nat) : Int)), p6, p7, p8, p9, p10] [] S' (mI M') Q) :
    ∀ (mm i : Nat) (S : aS) (M : Nat → Nat → Int) (m T : Nat → Nat) (A : Nat → Nat → Nat), i + mm = ml ce k → Lz cb sb s S0 M0 ce S M v bs (z + i) 3 m T A → m 2 = C2 ce → m 3 = psm (ml ce) k + i →
    X E d fL_list 202 [some (.ref sa), some (.ref sb), some (.ref s), some (J (mny ce : Int)), some (J (k : Int)), some (J ((psm (ml ce) k + i : Nat) : Int)), some (J (i : Int)), p7, p8, p9, p10] [] S (mI M) Q := by
  intro mm
  induction mm with
  | zero =>
    intro i S M m T A hi h hm2 hm
    obtain rfl : i = ml ce k := by omega
    obtain ⟨s1, s2⟩ := h.sk
    obtain ⟨t1, t2, t3, t4, t5⟩ := h.tb (j := 2) (by decide) (by decide)
    obtain ⟨r1, r2, r3, r4, r5⟩ := h.ro (j := 2) (k := k) (by decide) (by decide) (by omega)
    have hC : cC ce 2 = C2 ce := rfl
    have hC2 := C2_b (ce := ce)
    have hml := ml_b (ce := ce) k
    have e0 : M (A 2 k) 0 = (ml ce k : Int) := r4 0 (by decide)
    refine kL_list_202 s2 t1 t3 ⟨by omega, by omega⟩ (by rw [t4, hC]; exact ⟨by omega, by omega⟩) (by rw [Int.toNat_natCast]; exact r1) r2 (by rw [r3]; decide) ⟨by omega, by omega⟩ (by rw [e0]; exact ⟨by omega, by omega⟩) (fun _ => kL_list_249 ?_) (fun hx => absurd hx (by rw [e0]; omega))
    rw [show (k : Int) + 1 = ((k + 1 : Nat) : Int) by omega]
    exact q S M m T A _ h hm2 hm
  | succ mm ih =>
    intro i S M m T A hi h hm2 hm
    exact ls3i hL hd h hm2 hm hk (by omega) (fun S' M' m' T' A' h' hm2' hm' => ih (i + 1) S' M' m' T' A' (by omega) h' hm2' hm')
theorem ls3 {p7 p8 p9 p10 : Option Value} (hL : Ls E S0 M0 cb bo bt sa n ce) (hd : 30 ≤ d)
    (q : ∀ S' M' m' T' A' p4 p5 p6, Lz cb sb s S0 M0 ce S' M' v bs (z + mny ce) 3 m' T' A' → m' 3 = mny ce → X E d fL_list 255 [some (.ref sa), some (.ref sb), some (.ref s), some (J (mny ce : Int)), p4, p5, p6, p7, p8, p9, p10] [] S' (mI M') Q) :
    ∀ (mm k : Nat) (S : aS) (M : Nat → Nat → Int) (m T : Nat → Nat) (A : Nat → Nat → Nat) (p6 : Option Value), k + mm = C2 ce → Lz cb sb s S0 M0 ce S M v bs (z + psm (ml ce) k) 3 m T A → m 2 = C2 ce → m 3 = psm (ml ce) k →
    X E d fL_list 189 [some (.ref sa), some (.ref sb), some (.ref s), some (J (mny ce : Int)), some (J (k : Int)), some (J ((psm (ml ce) k : Nat) : Int)), p6, p7, p8, p9, p10] [] S (mI M) Q := by
  intro mm
  induction mm with
  | zero =>
    intro k S M m T A p6 hk h hm2 hm
    obtain rfl : k = C2 ce := by omega
    obtain ⟨t1, t2, t3, t4, t5⟩ := h.tb (j := 2) (by decide) (by decide)
    have hC : cC ce 2 = C2 ce := rfl
    have hC2 := C2_b (ce := ce)
    exact kL_list_189 h.sk.2 t1 (Or.inr (Or.inr t3)) ⟨by omega, by omega⟩ ⟨by omega, by omega⟩ (fun _ => q S M m T A _ _ _ h hm) (fun hx => absurd hx (by omega))
  | succ mm ih =>
    intro k S M m T A p6 hk h hm2 hm
    obtain ⟨t1, t2, t3, t4, t5⟩ := h.tb (j := 2) (by decide) (by decide)
    have hC : cC ce 2 = C2 ce := rfl
    have hC2 := C2_b (ce := ce)
    refine kL_list_189 h.sk.2 t1 (Or.inr (Or.inr t3)) ⟨by omega, by omega⟩ ⟨by omega, by omega⟩ (fun hx => absurd hx (by omega)) (fun _ => kL_list_199 ?_)
    refine ls3j (z := z + psm (ml ce) k) hL hd (by omega) (fun S' M' m' T' A' p6 h' hm2' hm' => ih (k + 1) S' M' m' T' A' p6 (by omega) ?_ hm2' hm') (ml ce k) 0 S M m T A (by omega) h hm2 hm
    rw [show z + psm (ml ce) (k + 1) = z + psm (ml ce) k + ml ce k by show z + (psm (ml ce) k + ml ce k) = _; omega]
    exact h'
def tx4 (ce : Nat → Int) (b : List Int) : Nat → List Int
  | 0 => b
  | k + 1 => (((((tx4 ce b k ++ lb 117) ++ dg k) ++ lb 118) ++ dg (ga ce k)) ++ lb 119) ++ dg (gt ce k) ++ lb 120
theorem tx4_l {b : List Int} : ∀ k, (tx4 ce b k).length ≤ b.length + 40 * k
  | 0 => Nat.le_refl _
  | k + 1 => by
    have ih := tx4_l (b := b) k
    have h1 : (lb 117).length = 6 := by decide
    have h2 : (lb 118).length = 4 := by decide
    have h3 : (lb 119).length = 6 := by decide
    have h4 : (lb 120).length = 3 := by decide
    have g1 := dg_l3 (n := k)
    have g2 := dg_l3 (n := ga ce k)
    have g3 := dg_l3 (n := gt ce k)
    unfold tx4
    simp only [List.length_append]
    omega
theorem ga_b (k : Nat) : ga ce k < mny ce ∧ ga ce k < 36 := by
  have := mny_b (ce := ce)
  have := (bN_e (v := X4 ce k) (n := mny ce) (by omega)).2
  unfold ga
  omega
theorem gt_b (k : Nat) : gt ce k ≤ 60 := by have := (bN_e (v := sh (X4 ce k) 2) (n := 61) (by decide)).2; unfold gt; omega
set_option maxHeartbeats 2000000 in
theorem ls4i {k : Nat} {p5 p6 p7 p8 p9 p10 : Option Value} (hL : Ls E S0 M0 cb bo bt sa n ce) (hd : 30 ≤ d) (hbs : bs.length ≤ 1000) (h : Lz cb sb s S0 M0 ce S M v (tx4 ce bs k) z 4 m T A) (hm : m 4 = k) (hk : k < C4 ce)
    (q : ∀ S' M' v' m' T' A' p5, Lz cb sb s S0 M0 ce S' M' v' (tx4 ce bs (k + 1)) (z + 8) 4 m' T' A' → m' 4 = k + 1 → X E d fL_list 276 [some (.ref sa), some (.ref sb), some (.ref s), some (J (mny ce : Int)), some (J ((k + 1 : Nat) : Int)), p5, p6, p7, p8, p9, p10] [] S' (mI M') Q) :
    X E d fL_list 276 [some (.ref sa), some (.ref sb), some (.ref s), some (J (mny ce : Int)), some (J (k : Int)), p5, p6, p7, p8, p9, p10] [] S (mI M) Q := by
  have hW := hL.1
  obtain ⟨s1, s2⟩ := h.sk
  obtain ⟨t1, t2, t3, t4, t5⟩ := h.tb (j := 4) (by decide) (by decide)
  have hC : cC ce 4 = C4 ce := rfl
  have hC2 := C4_b (ce := ce)
  have hga := ga_b (ce := ce) k
  have hgt := gt_b (ce := ce) k
  have hmn := mny_b (ce := ce)
  have hsx := h.2.1.2.2
  have hsbx := h.1.2.2.1.2.2.2.2.2.2.2.2.2.1
  have htx := tx4_l (ce := ce) (b := bs) k
  obtain ⟨Sr, eSr⟩ : ∃ x, aNew S 100 6 6 = x := ⟨_, rfl⟩
  have hSr : Sr = aNew S 100 (wd 4) (wd 4) := eSr.symm
  have kr : aK Sr (aX S) = 100 := by rw [← eSr]; exact aNew_K
  have dr : aKd Sr (aX S) = 100 := by unfold aKd; rw [kr]
  have nr : aN Sr (aX S) = 6 := by rw [← eSr]; exact aNew_N
  have Kr' : ∀ x, x < aX S → aK Sr x = aK S x := fun x hx => by rw [← eSr]; exact nK_lt hx
  have Nr' : ∀ x, x < aX S → aN Sr x = aN S x := fun x hx => by rw [← eSr]; exact nN_lt hx
  have Pr' : ∀ x, x < aX S → aP Sr x = aP S x := fun x hx => by rw [← eSr]; exact nP_lt hx
  have Dr' : ∀ x, x < aX S → aKd Sr x = aKd S x := fun x hx => by unfold aKd; rw [Kr' x hx]
  obtain ⟨Mr, eMr⟩ : ∃ x, (mW (mW (mW (mW (mW (mW (aU M (aX S) (fun _ => 0)) (aX S) 0 (ga ce k : Int)) (aX S) 1 (gt ce k : Int)) (aX S) 2 0) (aX S) 3 0) (aX S) 4 (-1)) (aX S) 5 0) = x := ⟨_, rfl⟩
  have mr : RM Mr := by rw [← eMr]; exact ((((((RM.nw h.1.2.1).w ⟨by omega, by omega⟩).w ⟨by omega, by omega⟩).w (by decide)).w (by decide)).w (by decide)).w (by decide)
  have fr : ∀ x, x < aX S → Mr x = M x := fun x hx => by rw [← eMr, mW_ne (Nat.ne_of_lt hx), mW_ne (Nat.ne_of_lt hx), mW_ne (Nat.ne_of_lt hx), mW_ne (Nat.ne_of_lt hx), mW_ne (Nat.ne_of_lt hx), mW_ne (Nat.ne_of_lt hx), aU_ne _ _ (Nat.ne_of_lt hx)]
  have w0 : Mr (aX S) 0 = (ga ce k : Int) := by rw [← eMr, mW_ne2 (Or.inr (by decide)), mW_ne2 (Or.inr (by decide)), mW_ne2 (Or.inr (by decide)), mW_ne2 (Or.inr (by decide)), mW_ne2 (Or.inr (by decide))]; exact mW_eq
  have w1 : Mr (aX S) 1 = (gt ce k : Int) := by rw [← eMr, mW_ne2 (Or.inr (by decide)), mW_ne2 (Or.inr (by decide)), mW_ne2 (Or.inr (by decide)), mW_ne2 (Or.inr (by decide))]; exact mW_eq
  have w2 : Mr (aX S) 2 = 0 := by rw [← eMr, mW_ne2 (Or.inr (by decide)), mW_ne2 (Or.inr (by decide)), mW_ne2 (Or.inr (by decide))]; exact mW_eq
  have w3 : Mr (aX S) 3 = 0 := by rw [← eMr, mW_ne2 (Or.inr (by decide)), mW_ne2 (Or.inr (by decide))]; exact mW_eq
  have w4 : Mr (aX S) 4 = (-1) := by rw [← eMr, mW_ne2 (Or.inr (by decide))]; exact mW_eq
  have w5 : Mr (aX S) 5 = 0 := by rw [← eMr]; exact mW_eq
  have hrow := h.rw_ (j := 4) (k := k) (by decide) rfl hm.symm hSr mr fr (fun q hq => by
    have hq' : q < 6 := hq
    rcases (by omega : q = 0 ∨ q = 1 ∨ q = 2 ∨ q = 3 ∨ q = 4 ∨ q = 5) with e | e | e | e | e | e
    · subst e; exact w0
    · subst e; exact w1
    · subst e; exact w2
    · subst e; exact w3
    · subst e; exact w4
    · subst e; exact w5)
  refine kL_list_276 s2 t1 (Or.inr (Or.inr t3)) ⟨by omega, by omega⟩ ⟨by omega, by omega⟩ (fun hx => absurd hx (by omega)) (fun _ => ?_)
  refine kL_list_286 (by omega) (Ls.cell (k := 3) hL h.1.1 rfl (by decide) ⟨_, rfl, ?_⟩)
  refine kL_list_291 s2 t1 (by omega) ?_
  rw [show (4 : Int) * (k : Int) = ((4 * k : Nat) : Int) by omega]
  have eX : (Int32.ofInt (ce 3) >>> (Int32.ofInt ((4 * k : Nat) : Int) &&& 31)).toInt = X4 ce k := rfl
  rw [eX]
  refine bel_X (k := mny ce) (by omega) rfl (by omega) ⟨_, rfl, ?_⟩
  rw [eSr]
  refine kL_list_316 kr (by decide) (by rw [nr]; decide) (by omega) ?_
  have e2 : (Int32.ofInt (X4 ce k) >>> (Int32.ofInt 2 &&& 31)).toInt = sh (X4 ce k) 2 := rfl
  rw [e2]
  refine bel_X (k := 61) (by decide) rfl (by decide) ⟨_, rfl, ?_⟩
  obtain ⟨b117, w117', f117, fb117, fw117, fs117⟩ := hW.2.2 117 (by decide) (by decide)
  refine kL_list_328 kr (by decide) (by rw [nr]; decide) kr (by rw [nr]; decide) (by rw [nr]; decide) (by rw [nr]; decide) (by rw [nr]; decide) ((Kr' _ t5).trans t2) ⟨by omega, by omega⟩ (by rw [Nr' _ t5, t4, hC]; exact ⟨by omega, by omega⟩) kr f117 (by omega) ?_ ((aExt_kd ⟨Kr' _ hsbx, Nr' _ hsbx, Pr' _ hsbx⟩).trans h.kd)
  rw [Int.toNat_natCast]
  show X E (d - 1) fJ4_append_15ec4 0 [some (.ref sb), some (.ref b117)] [] (aPut Sr (T 4) k (some (aX S))) (mI (mW (mW (mW (mW (mW (mW (aU M (aX S) (fun _ => 0)) (aX S) 0 (ga ce k : Int)) (aX S) 1 (gt ce k : Int)) (aX S) 2 0) (aX S) 3 0) (aX S) 4 (-1)) (aX S) 5 0)) _
  rw [eMr]
  have l117 : (lb 117).length = 6 := by decide
  have l118 : (lb 118).length = 4 := by decide
  have l119 : (lb 119).length = 6 := by decide
  have l120 : (lb 120).length = 3 := by decide
  have gk := dg_l3 (n := k)
  have gm := dg_l3 (n := ga ce k)
  have gs := dg_l3 (n := gt ce k)
  have hk3 : k < updN m 4 (k + 1) 4 := by rw [updN_s]; omega
  refine lwLit hW hrow fb117 fw117 fs117 (by first | omega | (simp only [List.length_append]; omega)) (by omega) (fun S1 M1 v1 h1 => ⟨_, rfl, ?_⟩)
  refine kL_list_352 (by omega) (lwInt hW h1 (n := k) rfl (by omega) (by first | omega | (simp only [List.length_append]; omega)) (by omega) (fun S2 M2 v2 h2 => ⟨_, rfl, ?_⟩)) h1.kd
  obtain ⟨b118, w118', f118, fb118, fw118, fs118⟩ := hW.2.2 118 (by decide) (by decide)
  refine kL_list_357 f118 (by omega) (lwLit hW h2 fb118 fw118 fs118 (by first | omega | (simp only [List.length_append]; omega)) (by omega) (fun S3 M3 v3 h3 => ⟨_, rfl, ?_⟩)) h2.kd
  obtain ⟨y1, y2, y3, y4, y5⟩ := h3.tb (j := 4) (by decide) (by decide)
  obtain ⟨z1, z2, z3, z4, z5⟩ := h3.ro (j := 4) (k := k) (by decide) (by decide) hk3
  refine kL_list_362 h3.sk.2 y1 y3 ⟨by omega, by omega⟩ (by rw [y4, hC]; exact ⟨by omega, by omega⟩) (by rw [Int.toNat_natCast]; exact z1) z2 (by rw [z3]; decide) (by omega) (lwInt hW h3 (n := ga ce k) (z4 0 (by decide)) (by omega) (by first | omega | (simp only [List.length_append]; omega)) (by omega) (fun S4 M4 v4 h4 => ⟨_, rfl, ?_⟩)) h3.kd
  obtain ⟨b119, w119', f119, fb119, fw119, fs119⟩ := hW.2.2 119 (by decide) (by decide)
  refine kL_list_374 f119 (by omega) (lwLit hW h4 fb119 fw119 fs119 (by first | omega | (simp only [List.length_append]; omega)) (by omega) (fun S5 M5 v5 h5 => ⟨_, rfl, ?_⟩)) h4.kd
  obtain ⟨y1, y2, y3, y4, y5⟩ := h5.tb (j := 4) (by decide) (by decide)
  obtain ⟨z1, z2, z3, z4, z5⟩ := h5.ro (j := 4) (k := k) (by decide) (by decide) hk3
  refine kL_list_379 h5.sk.2 y1 y3 ⟨by omega, by omega⟩ (by rw [y4, hC]; exact ⟨by omega, by omega⟩) (by rw [Int.toNat_natCast]; exact z1) z2 (by rw [z3]; decide) (by omega) (lwInt hW h5 (n := gt ce k) (z4 1 (by decide)) (by omega) (by first | omega | (simp only [List.length_append]; omega)) (by omega) (fun S6 M6 v6 h6 => ⟨_, rfl, ?_⟩)) h5.kd
  obtain ⟨b120, w120', f120, fb120, fw120, fs120⟩ := hW.2.2 120 (by decide) (by decide)
  refine kL_list_391 f120 (by omega) (lwLit hW h6 fb120 fw120 fs120 (by first | omega | (simp only [List.length_append]; omega)) (by omega) (fun S7 M7 v7 h7 => ⟨_, rfl, ?_⟩)) h6.kd
  refine kL_list_396 ?_
  rw [show (k : Int) + 1 = ((k + 1 : Nat) : Int) by omega]
  exact q _ _ _ _ _ _ _ h7 updN_s
theorem ls4 {p6 p7 p8 p9 p10 : Option Value} (hL : Ls E S0 M0 cb bo bt sa n ce) (hd : 30 ≤ d) (hbs : bs.length ≤ 1000)
    (q : ∀ S' M' v' m' T' A' p4 p5, Lz cb sb s S0 M0 ce S' M' v' (tx4 ce bs (C4 ce)) (z + 8 * C4 ce) 4 m' T' A' → m' 4 = C4 ce → X E d fL_list 403 [some (.ref sa), some (.ref sb), some (.ref s), some (J (mny ce : Int)), p4, p5, p6, p7, p8, p9, p10] [] S' (mI M') Q) :
    ∀ (mm k : Nat) (S : aS) (M : Nat → Nat → Int) (v : Nat) (m T : Nat → Nat) (A : Nat → Nat → Nat) (p5 : Option Value), k + mm = C4 ce → Lz cb sb s S0 M0 ce S M v (tx4 ce bs k) (z + 8 * k) 4 m T A → m 4 = k →
    X E d fL_list 276 [some (.ref sa), some (.ref sb), some (.ref s), some (J (mny ce : Int)), some (J (k : Int)), p5, p6, p7, p8, p9, p10] [] S (mI M) Q := by
  intro mm
  induction mm with
  | zero =>
    intro k S M v m T A p5 hk h hm
    obtain rfl : k = C4 ce := by omega
    obtain ⟨t1, t2, t3, t4, t5⟩ := h.tb (j := 4) (by decide) (by decide)
    have hC : cC ce 4 = C4 ce := rfl
    have hC2 := C4_b (ce := ce)
    exact kL_list_276 h.sk.2 t1 (Or.inr (Or.inr t3)) ⟨by omega, by omega⟩ ⟨by omega, by omega⟩ (fun _ => q S M v m T A _ _ h hm) (fun hx => absurd hx (by omega))
  | succ mm ih =>
    intro k S M v m T A p5 hk h hm
    exact ls4i hL hd hbs h hm (by omega) (fun S' M' v' m' T' A' p5 h' hm' => ih (k + 1) S' M' v' m' T' A' p5 (by omega) (by rw [show z + 8 * (k + 1) = z + 8 * k + 8 by omega]; exact h') hm')
def tx5 (ce : Nat → Int) (b : List Int) : Nat → List Int
  | 0 => b
  | k + 1 => (((((((((((tx5 ce b k ++ lb 121) ++ dg k) ++ lb 122) ++ dg (tw ce k)) ++ lb 123) ++ dg (twl ce k)) ++ lb 124) ++ dg (tfr ce k)) ++ lb 125) ++ dg (tto ce k)) ++ lb 126) ++ dg (tev ce k) ++ lb 116
theorem tx5_l {b : List Int} : ∀ k, (tx5 ce b k).length ≤ b.length + 70 * k
  | 0 => Nat.le_refl _
  | k + 1 => by
    have ih := tx5_l (b := b) k
    have h1 : (lb 121).length = 9 := by decide
    have h2 : (lb 122).length = 8 := by decide
    have h3 : (lb 123).length = 8 := by decide
    have h4 : (lb 124).length = 6 := by decide
    have h5 : (lb 125).length = 4 := by decide
    have h6 : (lb 126).length = 7 := by decide
    have h7 : (lb 116).length = 1 := by decide
    have g1 := dg_l3 (n := k)
    have g2 := dg_l3 (n := tw ce k)
    have g3 := dg_l3 (n := twl ce k)
    have g4 := dg_l3 (n := tfr ce k)
    have g5 := dg_l3 (n := tto ce k)
    have g6 := dg_l3 (n := tev ce k)
    unfold tx5
    simp only [List.length_append]
    omega
theorem tw_b (k : Nat) : 1 ≤ tw ce k ∧ tw ce k ≤ 60 := by
  unfold tw
  split
  · have := (bN_e (v := X5 ce k) (n := 60) (by decide)).2; omega
  · have := (bN_e (v := X5 ce k) (n := 12) (by decide)).2; omega
theorem twl_b (k : Nat) : 1 ≤ twl ce k ∧ twl ce k ≤ 16 := by have := (bN_e (v := sh (X5 ce k) 2) (n := 16) (by decide)).2; unfold twl; omega
theorem tfr_b (k : Nat) : tfr ce k < mny ce ∧ tfr ce k < 36 := by
  have := mny_b (ce := ce)
  have := (bN_e (v := sh (X5 ce k) 3) (n := mny ce) (by omega)).2
  unfold tfr
  omega
theorem tto_b (k : Nat) : tto ce k < mny ce ∧ tto ce k < 36 := by
  have := mny_b (ce := ce)
  have := (bN_e (v := sh (X5 ce k) 5) (n := mny ce) (by omega)).2
  unfold tto
  omega
theorem tev_b (k : Nat) : 1 ≤ tev ce k ∧ tev ce k ≤ 30 := by
  unfold tev
  split
  · have := (bN_e (v := sh (X5 ce k) 4) (n := 30) (by decide)).2; omega
  · have := (bN_e (v := sh (X5 ce k) 4) (n := 5) (by decide)).2; omega
theorem tmN {k j : Nat} : (k : Int).tmod (j : Int) = ((k % j : Nat) : Int) := rfl
theorem tdN {k j : Nat} : (k : Int).tdiv (j : Int) = ((k / j : Nat) : Int) := rfl
set_option maxHeartbeats 4000000 in
theorem ls5i {k : Nat} {p5 p6 p7 p8 p9 p10 : Option Value} (hL : Ls E S0 M0 cb bo bt sa n ce) (hd : 30 ≤ d) (hbs : bs.length ≤ 1200) (h : Lz cb sb s S0 M0 ce S M v (tx5 ce bs k) z 5 m T A) (hm : m 5 = k) (hk : k < C5 ce)
    (q : ∀ S' M' v' m' T' A' p5, Lz cb sb s S0 M0 ce S' M' v' (tx5 ce bs (k + 1)) (z + 14) 5 m' T' A' → m' 5 = k + 1 → X E d fL_list 424 [some (.ref sa), some (.ref sb), some (.ref s), some (J (mny ce : Int)), some (J ((k + 1 : Nat) : Int)), p5, p6, p7, p8, p9, p10] [] S' (mI M') Q) :
    X E d fL_list 424 [some (.ref sa), some (.ref sb), some (.ref s), some (J (mny ce : Int)), some (J (k : Int)), p5, p6, p7, p8, p9, p10] [] S (mI M) Q := by
  have hW := hL.1
  obtain ⟨s1, s2⟩ := h.sk
  obtain ⟨t1, t2, t3, t4, t5⟩ := h.tb (j := 5) (by decide) (by decide)
  have hC : cC ce 5 = C5 ce := rfl
  have hC2 := C5_b (ce := ce)
  have b1 := tw_b (ce := ce) k
  have b2 := twl_b (ce := ce) k
  have b3 := tfr_b (ce := ce) k
  have b4 := tto_b (ce := ce) k
  have b5 := tev_b (ce := ce) k
  have hmn := mny_b (ce := ce)
  have hsx := h.2.1.2.2
  have hsbx := h.1.2.2.1.2.2.2.2.2.2.2.2.2.1
  have htx := tx5_l (ce := ce) (b := bs) k
  obtain ⟨Sr, eSr⟩ : ∃ x, aNew S 100 8 8 = x := ⟨_, rfl⟩
  have hSr : Sr = aNew S 100 (wd 5) (wd 5) := eSr.symm
  have kr : aK Sr (aX S) = 100 := by rw [← eSr]; exact aNew_K
  have dr : aKd Sr (aX S) = 100 := by unfold aKd; rw [kr]
  have nr : aN Sr (aX S) = 8 := by rw [← eSr]; exact aNew_N
  have Kr' : ∀ x, x < aX S → aK Sr x = aK S x := fun x hx => by rw [← eSr]; exact nK_lt hx
  have Nr' : ∀ x, x < aX S → aN Sr x = aN S x := fun x hx => by rw [← eSr]; exact nN_lt hx
  have Pr' : ∀ x, x < aX S → aP Sr x = aP S x := fun x hx => by rw [← eSr]; exact nP_lt hx
  have Dr' : ∀ x, x < aX S → aKd Sr x = aKd S x := fun x hx => by unfold aKd; rw [Kr' x hx]
  obtain ⟨Mr, eMr⟩ : ∃ x, (mW (mW (mW (mW (mW (mW (mW (mW (aU M (aX S) (fun _ => 0)) (aX S) 0 (tw ce k : Int)) (aX S) 1 (twl ce k : Int)) (aX S) 2 (tfr ce k : Int)) (aX S) 3 (tto ce k : Int)) (aX S) 4 (tev ce k : Int)) (aX S) 5 0) (aX S) 6 0) (aX S) 7 0) = x := ⟨_, rfl⟩
  have mr : RM Mr := by rw [← eMr]; exact ((((((((RM.nw h.1.2.1).w ⟨by omega, by omega⟩).w ⟨by omega, by omega⟩).w ⟨by omega, by omega⟩).w ⟨by omega, by omega⟩).w ⟨by omega, by omega⟩).w (by decide)).w (by decide)).w (by decide)
  have fr : ∀ x, x < aX S → Mr x = M x := fun x hx => by rw [← eMr, mW_ne (Nat.ne_of_lt hx), mW_ne (Nat.ne_of_lt hx), mW_ne (Nat.ne_of_lt hx), mW_ne (Nat.ne_of_lt hx), mW_ne (Nat.ne_of_lt hx), mW_ne (Nat.ne_of_lt hx), mW_ne (Nat.ne_of_lt hx), mW_ne (Nat.ne_of_lt hx), aU_ne _ _ (Nat.ne_of_lt hx)]
  have w0 : Mr (aX S) 0 = (tw ce k : Int) := by rw [← eMr, mW_ne2 (Or.inr (by decide)), mW_ne2 (Or.inr (by decide)), mW_ne2 (Or.inr (by decide)), mW_ne2 (Or.inr (by decide)), mW_ne2 (Or.inr (by decide)), mW_ne2 (Or.inr (by decide)), mW_ne2 (Or.inr (by decide))]; exact mW_eq
  have w1 : Mr (aX S) 1 = (twl ce k : Int) := by rw [← eMr, mW_ne2 (Or.inr (by decide)), mW_ne2 (Or.inr (by decide)), mW_ne2 (Or.inr (by decide)), mW_ne2 (Or.inr (by decide)), mW_ne2 (Or.inr (by decide)), mW_ne2 (Or.inr (by decide))]; exact mW_eq
  have w2 : Mr (aX S) 2 = (tfr ce k : Int) := by rw [← eMr, mW_ne2 (Or.inr (by decide)), mW_ne2 (Or.inr (by decide)), mW_ne2 (Or.inr (by decide)), mW_ne2 (Or.inr (by decide)), mW_ne2 (Or.inr (by decide))]; exact mW_eq
  have w3 : Mr (aX S) 3 = (tto ce k : Int) := by rw [← eMr, mW_ne2 (Or.inr (by decide)), mW_ne2 (Or.inr (by decide)), mW_ne2 (Or.inr (by decide)), mW_ne2 (Or.inr (by decide))]; exact mW_eq
  have w4 : Mr (aX S) 4 = (tev ce k : Int) := by rw [← eMr, mW_ne2 (Or.inr (by decide)), mW_ne2 (Or.inr (by decide)), mW_ne2 (Or.inr (by decide))]; exact mW_eq
  have w5 : Mr (aX S) 5 = 0 := by rw [← eMr, mW_ne2 (Or.inr (by decide)), mW_ne2 (Or.inr (by decide))]; exact mW_eq
  have w6 : Mr (aX S) 6 = 0 := by rw [← eMr, mW_ne2 (Or.inr (by decide))]; exact mW_eq
  have w7 : Mr (aX S) 7 = 0 := by rw [← eMr]; exact mW_eq
  have hrow := h.rw_ (j := 5) (k := k) (by decide) rfl hm.symm hSr mr fr (fun q hq => by
    have hq' : q < 8 := hq
    rcases (by omega : q = 0 ∨ q = 1 ∨ q = 2 ∨ q = 3 ∨ q = 4 ∨ q = 5 ∨ q = 6 ∨ q = 7) with e | e | e | e | e | e | e | e
    · subst e; exact w0
    · subst e; exact w1
    · subst e; exact w2
    · subst e; exact w3
    · subst e; exact w4
    · subst e; exact w5
    · subst e; exact w6
    · subst e; exact w7)
  refine kL_list_424 s2 t1 (Or.inr (Or.inr t3)) ⟨by omega, by omega⟩ ⟨by omega, by omega⟩ (fun hx => absurd hx (by omega)) (fun _ => ?_)
  refine kL_list_434 ⟨by omega, by omega⟩ (by omega) ?_
  refine Ls.cell (k := 5 + k % 2) hL h.1.1 (by rw [show (2 : Int) = ((2 : Nat) : Int) by rfl, tmN]; omega) (by omega) ⟨_, rfl, ?_⟩
  refine kL_list_444 s2 t1 (by omega) ?_
  rw [show (3 : Int) * (k : Int) = ((3 * k : Nat) : Int) by omega]
  have eX : (Int32.ofInt (ce (5 + k % 2)) >>> (Int32.ofInt ((3 * k : Nat) : Int) &&& 31)).toInt = X5 ce k := rfl
  rw [eX]
  have e7 : (Int32.ofInt (X5 ce k) >>> (Int32.ofInt 7 &&& 31)).toInt = sh (X5 ce k) 7 := rfl
  rw [e7]
  refine bel_X (k := 3) (by decide) rfl (by decide) ⟨_, rfl, ?_⟩
  have hb3 := (bN_e (v := sh (X5 ce k) 7) (n := 3) (by decide)).2
  have hb2 := (bN_e (v := sh (X5 ce k) 8) (n := 2) (by decide)).2
  rw [eSr]
  have l121 : (lb 121).length = 9 := by decide
  have l122 : (lb 122).length = 8 := by decide
  have l123 : (lb 123).length = 8 := by decide
  have l124 : (lb 124).length = 6 := by decide
  have l125 : (lb 125).length = 4 := by decide
  have l126 : (lb 126).length = 7 := by decide
  have l116 : (lb 116).length = 1 := by decide
  have gk := dg_l3 (n := k)
  have g1 := dg_l3 (n := tw ce k)
  have g2 := dg_l3 (n := twl ce k)
  have g3 := dg_l3 (n := tfr ce k)
  have g4 := dg_l3 (n := tto ce k)
  have g5 := dg_l3 (n := tev ce k)
  have hk3 : k < updN m 5 (k + 1) 5 := by rw [updN_s]; omega
  have fin : ∀ w : Nat, w = (if bN (sh (X5 ce k) 8) 2 = 0 then 30 else 5) → X E d fL_list 551 [some (.ref sa), some (.ref sb), some (.ref s), some (J (mny ce : Int)), some (J (k : Int)), some (J (X5 ce k)), p6, p7, p8, p9, p10] [J (w : Int), J (sh (X5 ce k) 4), J 1, J 4, .ref (aX S), .ref (aX S), J (k : Int), .ref (T 5)] Sr (mI (mW (mW (mW (mW (aU M (aX S) (fun _ => 0)) (aX S) 0 (tw ce k : Int)) (aX S) 1 (twl ce k : Int)) (aX S) 2 (tfr ce k : Int)) (aX S) 3 (tto ce k : Int))) Q := by
    intro w hw
    have hwb : w = 30 ∨ w = 5 := by
      split at hw
      · exact Or.inl hw
      · exact Or.inr hw
    have em : (1 : Int) + (bN (sh (X5 ce k) 4) w : Int) = (tev ce k : Int) := by unfold tev; rw [← hw]; omega
    refine kL_list_551 (by omega) (bel_X (k := w) (by omega) rfl (by omega) ⟨_, rfl, ?_⟩)
    obtain ⟨b121, w121', f121, fb121, fw121, fs121⟩ := hW.2.2 121 (by decide) (by decide)
    refine kL_list_554 kr (by decide) (by rw [nr]; decide) kr (by rw [nr]; decide) (by rw [nr]; decide) (by rw [nr]; decide) ((Kr' _ t5).trans t2) ⟨by omega, by omega⟩ (by rw [Nr' _ t5, t4, hC]; exact ⟨by omega, by omega⟩) kr f121 (by omega) ?_ ((aExt_kd ⟨Kr' _ hsbx, Nr' _ hsbx, Pr' _ hsbx⟩).trans h.kd)
    rw [em, nz_eq ⟨by omega, by omega⟩, Int.toNat_natCast]
    show X E (d - 1) fJ4_append_15ec4 0 [some (.ref sb), some (.ref b121)] [] (aPut Sr (T 5) k (some (aX S))) (mI (mW (mW (mW (mW (mW (mW (mW (mW (aU M (aX S) (fun _ => 0)) (aX S) 0 (tw ce k : Int)) (aX S) 1 (twl ce k : Int)) (aX S) 2 (tfr ce k : Int)) (aX S) 3 (tto ce k : Int)) (aX S) 4 (tev ce k : Int)) (aX S) 5 0) (aX S) 6 0) (aX S) 7 0)) _
    rw [eMr]
    refine lwLit hW hrow fb121 fw121 fs121 (by first | omega | (simp only [List.length_append]; omega)) (by omega) (fun S1 M1 v1 h1 => ⟨_, rfl, ?_⟩)
    refine kL_list_577 (by omega) (lwInt hW h1 (n := k) rfl (by omega) (by first | omega | (simp only [List.length_append]; omega)) (by omega) (fun S2 M2 v2 h2 => ⟨_, rfl, ?_⟩)) h1.kd
    obtain ⟨b122, w122', f122, fb122, fw122, fs122⟩ := hW.2.2 122 (by decide) (by decide)
    refine kL_list_582 f122 (by omega) (lwLit hW h2 fb122 fw122 fs122 (by first | omega | (simp only [List.length_append]; omega)) (by omega) (fun S3 M3 v3 h3 => ⟨_, rfl, ?_⟩)) h2.kd
    obtain ⟨y1, y2, y3, y4, y5⟩ := h3.tb (j := 5) (by decide) (by decide)
    obtain ⟨z1, z2, z3, z4, z5⟩ := h3.ro (j := 5) (k := k) (by decide) (by decide) hk3
    refine kL_list_587 h3.sk.2 y1 y3 ⟨by omega, by omega⟩ (by rw [y4, hC]; exact ⟨by omega, by omega⟩) (by rw [Int.toNat_natCast]; exact z1) z2 (by rw [z3]; decide) (by omega) (lwInt hW h3 (n := tw ce k) (z4 0 (by decide)) (by omega) (by first | omega | (simp only [List.length_append]; omega)) (by omega) (fun S4 M4 v4 h4 => ⟨_, rfl, ?_⟩)) h3.kd
    obtain ⟨b123, w123', f123, fb123, fw123, fs123⟩ := hW.2.2 123 (by decide) (by decide)
    refine kL_list_599 f123 (by omega) (lwLit hW h4 fb123 fw123 fs123 (by first | omega | (simp only [List.length_append]; omega)) (by omega) (fun S5 M5 v5 h5 => ⟨_, rfl, ?_⟩)) h4.kd
    obtain ⟨y1, y2, y3, y4, y5⟩ := h5.tb (j := 5) (by decide) (by decide)
    obtain ⟨z1, z2, z3, z4, z5⟩ := h5.ro (j := 5) (k := k) (by decide) (by decide) hk3
    refine kL_list_604 h5.sk.2 y1 y3 ⟨by omega, by omega⟩ (by rw [y4, hC]; exact ⟨by omega, by omega⟩) (by rw [Int.toNat_natCast]; exact z1) z2 (by rw [z3]; decide) (by omega) (lwInt hW h5 (n := twl ce k) (z4 1 (by decide)) (by omega) (by first | omega | (simp only [List.length_append]; omega)) (by omega) (fun S6 M6 v6 h6 => ⟨_, rfl, ?_⟩)) h5.kd
    obtain ⟨b124, w124', f124, fb124, fw124, fs124⟩ := hW.2.2 124 (by decide) (by decide)
    refine kL_list_616 f124 (by omega) (lwLit hW h6 fb124 fw124 fs124 (by first | omega | (simp only [List.length_append]; omega)) (by omega) (fun S7 M7 v7 h7 => ⟨_, rfl, ?_⟩)) h6.kd
    obtain ⟨y1, y2, y3, y4, y5⟩ := h7.tb (j := 5) (by decide) (by decide)
    obtain ⟨z1, z2, z3, z4, z5⟩ := h7.ro (j := 5) (k := k) (by decide) (by decide) hk3
    refine kL_list_621 h7.sk.2 y1 y3 ⟨by omega, by omega⟩ (by rw [y4, hC]; exact ⟨by omega, by omega⟩) (by rw [Int.toNat_natCast]; exact z1) z2 (by rw [z3]; decide) (by omega) (lwInt hW h7 (n := tfr ce k) (z4 2 (by decide)) (by omega) (by first | omega | (simp only [List.length_append]; omega)) (by omega) (fun S8 M8 v8 h8 => ⟨_, rfl, ?_⟩)) h7.kd
    obtain ⟨b125, w125', f125, fb125, fw125, fs125⟩ := hW.2.2 125 (by decide) (by decide)
    refine kL_list_633 f125 (by omega) (lwLit hW h8 fb125 fw125 fs125 (by first | omega | (simp only [List.length_append]; omega)) (by omega) (fun S9 M9 v9 h9 => ⟨_, rfl, ?_⟩)) h8.kd
    obtain ⟨y1, y2, y3, y4, y5⟩ := h9.tb (j := 5) (by decide) (by decide)
    obtain ⟨z1, z2, z3, z4, z5⟩ := h9.ro (j := 5) (k := k) (by decide) (by decide) hk3
    refine kL_list_638 h9.sk.2 y1 y3 ⟨by omega, by omega⟩ (by rw [y4, hC]; exact ⟨by omega, by omega⟩) (by rw [Int.toNat_natCast]; exact z1) z2 (by rw [z3]; decide) (by omega) (lwInt hW h9 (n := tto ce k) (z4 3 (by decide)) (by omega) (by first | omega | (simp only [List.length_append]; omega)) (by omega) (fun S10 M10 v10 h10 => ⟨_, rfl, ?_⟩)) h9.kd
    obtain ⟨b126, w126', f126, fb126, fw126, fs126⟩ := hW.2.2 126 (by decide) (by decide)
    refine kL_list_650 f126 (by omega) (lwLit hW h10 fb126 fw126 fs126 (by first | omega | (simp only [List.length_append]; omega)) (by omega) (fun S11 M11 v11 h11 => ⟨_, rfl, ?_⟩)) h10.kd
    obtain ⟨y1, y2, y3, y4, y5⟩ := h11.tb (j := 5) (by decide) (by decide)
    obtain ⟨z1, z2, z3, z4, z5⟩ := h11.ro (j := 5) (k := k) (by decide) (by decide) hk3
    refine kL_list_655 h11.sk.2 y1 y3 ⟨by omega, by omega⟩ (by rw [y4, hC]; exact ⟨by omega, by omega⟩) (by rw [Int.toNat_natCast]; exact z1) z2 (by rw [z3]; decide) (by omega) (lwInt hW h11 (n := tev ce k) (z4 4 (by decide)) (by omega) (by first | omega | (simp only [List.length_append]; omega)) (by omega) (fun S12 M12 v12 h12 => ⟨_, rfl, ?_⟩)) h11.kd
    obtain ⟨b116, w116', f116, fb116, fw116, fs116⟩ := hW.2.2 116 (by decide) (by decide)
    refine kL_list_667 f116 (by omega) (lwLit hW h12 fb116 fw116 fs116 (by first | omega | (simp only [List.length_append]; omega)) (by omega) (fun S13 M13 v13 h13 => ⟨_, rfl, ?_⟩)) h12.kd
    refine kL_list_672 ?_
    rw [show (k : Int) + 1 = ((k + 1 : Nat) : Int) by omega]
    exact q _ _ _ _ _ _ _ h13 updN_s
  have go : ∀ w : Nat, w = (if bN (sh (X5 ce k) 7) 3 = 0 then 60 else 12) → X E d fL_list 485 [some (.ref sa), some (.ref sb), some (.ref s), some (J (mny ce : Int)), some (J (k : Int)), some (J (X5 ce k)), p6, p7, p8, p9, p10] [J (w : Int), J (X5 ce k), J 1, J 0, .ref (aX S), .ref (aX S), J (k : Int), .ref (T 5)] Sr (mI (aU M (aX S) (fun _ => 0))) Q := by
    intro w hw
    have hwb : w = 60 ∨ w = 12 := by
      split at hw
      · exact Or.inl hw
      · exact Or.inr hw
    have em : (1 : Int) + (bN (X5 ce k) w : Int) = (tw ce k : Int) := by unfold tw; rw [← hw]; omega
    refine kL_list_485 (by omega) (bel_X (k := w) (by omega) rfl (by omega) ⟨_, rfl, ?_⟩)
    refine kL_list_488 kr (by decide) (by rw [nr]; decide) (by omega) ?_
    rw [em, nz_eq ⟨by omega, by omega⟩]
    have e2 : (Int32.ofInt (X5 ce k) >>> (Int32.ofInt 2 &&& 31)).toInt = sh (X5 ce k) 2 := rfl
    rw [e2]
    refine bel_X (k := 16) (by decide) rfl (by decide) ⟨_, rfl, ?_⟩
    have em2 : (1 : Int) + (bN (sh (X5 ce k) 2) 16 : Int) = (twl ce k : Int) := by unfold twl; omega
    refine kL_list_502 kr (by decide) (by rw [nr]; decide) (by omega) ?_
    rw [em2, nz_eq ⟨by omega, by omega⟩]
    have e3 : (Int32.ofInt (X5 ce k) >>> (Int32.ofInt 3 &&& 31)).toInt = sh (X5 ce k) 3 := rfl
    rw [e3]
    refine bel_X (k := mny ce) (by omega) rfl (by omega) ⟨_, rfl, ?_⟩
    refine kL_list_514 kr (by decide) (by rw [nr]; decide) (by omega) ?_
    have e5 : (Int32.ofInt (X5 ce k) >>> (Int32.ofInt 5 &&& 31)).toInt = sh (X5 ce k) 5 := rfl
    rw [e5]
    refine bel_X (k := mny ce) (by omega) rfl (by omega) ⟨_, rfl, ?_⟩
    refine kL_list_525 kr (by decide) (by rw [nr]; decide) (by omega) ?_
    have e8 : (Int32.ofInt (X5 ce k) >>> (Int32.ofInt 8 &&& 31)).toInt = sh (X5 ce k) 8 := rfl
    have e4 : (Int32.ofInt (X5 ce k) >>> (Int32.ofInt 4 &&& 31)).toInt = sh (X5 ce k) 4 := rfl
    rw [e8, e4]
    refine bel_X (k := 2) (by decide) rfl (by decide) ⟨_, rfl, ?_⟩
    exact kL_list_542 ⟨by omega, by omega⟩ (fun hx => kL_list_550 (fin 5 (by rw [if_neg (by omega)]))) (fun hx => kL_list_545 (fin 30 (by rw [if_pos (by omega)])))
  exact kL_list_475 ⟨by omega, by omega⟩ (fun hx => kL_list_483 (go 12 (by rw [if_neg (by omega)]))) (fun hx => kL_list_478 (go 60 (by rw [if_pos (by omega)])))
theorem ls5 {p6 p7 p8 p9 p10 : Option Value} (hL : Ls E S0 M0 cb bo bt sa n ce) (hd : 30 ≤ d) (hbs : bs.length ≤ 1200)
    (q : ∀ S' M' v' m' T' A' p4 p5, Lz cb sb s S0 M0 ce S' M' v' (tx5 ce bs (C5 ce)) (z + 14 * C5 ce) 5 m' T' A' → m' 5 = C5 ce → X E d fL_list 679 [some (.ref sa), some (.ref sb), some (.ref s), some (J (mny ce : Int)), p4, p5, p6, p7, p8, p9, p10] [] S' (mI M') Q) :
    ∀ (mm k : Nat) (S : aS) (M : Nat → Nat → Int) (v : Nat) (m T : Nat → Nat) (A : Nat → Nat → Nat) (p5 : Option Value), k + mm = C5 ce → Lz cb sb s S0 M0 ce S M v (tx5 ce bs k) (z + 14 * k) 5 m T A → m 5 = k →
    X E d fL_list 424 [some (.ref sa), some (.ref sb), some (.ref s), some (J (mny ce : Int)), some (J (k : Int)), p5, p6, p7, p8, p9, p10] [] S (mI M) Q := by
  intro mm
  induction mm with
  | zero =>
    intro k S M v m T A p5 hk h hm
    obtain rfl : k = C5 ce := by omega
    obtain ⟨t1, t2, t3, t4, t5⟩ := h.tb (j := 5) (by decide) (by decide)
    have hC : cC ce 5 = C5 ce := rfl
    have hC2 := C5_b (ce := ce)
    exact kL_list_424 h.sk.2 t1 (Or.inr (Or.inr t3)) ⟨by omega, by omega⟩ ⟨by omega, by omega⟩ (fun _ => q S M v m T A _ _ h hm) (fun hx => absurd hx (by omega))
  | succ mm ih =>
    intro k S M v m T A p5 hk h hm
    exact ls5i hL hd hbs h hm (by omega) (fun S' M' v' m' T' A' p5 h' hm' => ih (k + 1) S' M' v' m' T' A' p5 (by omega) (by rw [show z + 14 * (k + 1) = z + 14 * k + 14 by omega]; exact h') hm')
end LV
