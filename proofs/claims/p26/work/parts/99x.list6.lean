/-! the law's list: orders (wip/p26/gen99x.py) -/
section LX
variable {E : Nat → Value} {d : Nat} {S S' S0 S1 : aS} {M M' M0 M1 : Nat → Nat → Int} {Q : Option (Option Value) → aS → aI → Prop} {cb bo bt s sb sa n v z z0 Jn : Nat} {bs : List Int} {m T : Nat → Nat} {A : Nat → Nat → Nat} {ce : Nat → Int}
set_option maxHeartbeats 4000000 in
theorem ls6i {k : Nat} {p5 p6 p7 p8 p9 p10 : Option Value} (hL : Ls E S0 M0 cb bo bt sa n ce) (hd : 30 ≤ d) (hbs : bs.length ≤ 1600) (h : Lz cb sb s S0 M0 ce S M v (tx6 ce bs k) z 6 m T A) (hm : m 6 = k) (hk : k < C6 ce)
    (q : ∀ S' M' v' m' T' A' p5 p6 p7 p8 p9 p10, Lz cb sb s S0 M0 ce S' M' v' (tx6 ce bs (k + 1)) (z + 50) 6 m' T' A' → m' 6 = k + 1 → X E d fL_list 700 [some (.ref sa), some (.ref sb), some (.ref s), some (J (mny ce : Int)), some (J ((k + 1 : Nat) : Int)), p5, p6, p7, p8, p9, p10] [] S' (mI M') Q) :
    X E d fL_list 700 [some (.ref sa), some (.ref sb), some (.ref s), some (J (mny ce : Int)), some (J (k : Int)), p5, p6, p7, p8, p9, p10] [] S (mI M) Q := by
  have hW := hL.1
  obtain ⟨s1, s2⟩ := h.sk
  obtain ⟨t1, t2, t3, t4, t5⟩ := h.tb (j := 6) (by decide) (by decide)
  obtain ⟨a1, a2, a3, a4, a5⟩ := h.tb (j := 2) (by decide) (by decide)
  obtain ⟨b1, b2, b3, b4, b5⟩ := h.tb (j := 4) (by decide) (by decide)
  obtain ⟨c1, c2, c3, c4, c5⟩ := h.tb (j := 5) (by decide) (by decide)
  have hC : cC ce 6 = C6 ce := rfl
  have hC2 : cC ce 2 = C2 ce := rfl
  have hC4 : cC ce 4 = C4 ce := rfl
  have hC5 : cC ce 5 = C5 ce := rfl
  rw [hC] at t4
  rw [hC2] at a4
  rw [hC4] at b4
  rw [hC5] at c4
  have hc6 := C6_b (ce := ce)
  have hc2 := C2_b (ce := ce)
  have hc4 := C4_b (ce := ce)
  have hc5 := C5_b (ce := ce)
  have hmn := mny_b (ce := ce)
  have hsx := h.2.1.2.2
  have hsbx := h.1.2.2.1.2.2.2.2.2.2.2.2.2.1
  have htx := tx6_l (ce := ce) (b := bs) k
  have o0 := oso_b (ce := ce) k
  have o1 := orw_b (ce := ce) k 1
  have o1w : owh ce k < 1000 := o1
  have o2 := (owi_b (ce := ce) k).1
  have o4' := o4_b (ce := ce) k
  have c3b := (bN_e (v := sh (X6 ce k) 6) (n := 100) (by decide)).2
  have c5b := (bN_e (v := sh (Y6 ce k) 3) (n := 100) (by decide)).2
  have c6b := (bN_e (v := sh (Y6 ce k) 5) (n := mny ce + 2) (by omega)).2
  have c7b := (bN_e (v := sh (X6 ce k) 5) (n := C2 ce) (by omega)).2
  have c8b := (bN_e (v := sh (Y6 ce k) 2) (n := C4 ce) (by omega)).2
  have c9b := (bN_e (v := sh (Y6 ce k) 4) (n := C5 ce) (by omega)).2
  obtain ⟨Sr, eSr⟩ : ∃ x, aNew S 100 10 10 = x := ⟨_, rfl⟩
  have hSr : Sr = aNew S 100 (wd 6) (wd 6) := eSr.symm
  have kr : aK Sr (aX S) = 100 := by rw [← eSr]; exact aNew_K
  have dr : aKd Sr (aX S) = 100 := by unfold aKd; rw [kr]
  have nr : aN Sr (aX S) = 10 := by rw [← eSr]; exact aNew_N
  have Kr' : ∀ x, x < aX S → aK Sr x = aK S x := fun x hx => by rw [← eSr]; exact nK_lt hx
  have Nr' : ∀ x, x < aX S → aN Sr x = aN S x := fun x hx => by rw [← eSr]; exact nN_lt hx
  have Pr' : ∀ x, x < aX S → aP Sr x = aP S x := fun x hx => by rw [← eSr]; exact nP_lt hx
  have Dr' : ∀ x, x < aX S → aKd Sr x = aKd S x := fun x hx => by unfold aKd; rw [Kr' x hx]
  obtain ⟨Mr, eMr⟩ : ∃ x, (mW (mW (mW (mW (mW (mW (mW (mW (mW (mW (aU M (aX S) (fun _ => 0)) (aX S) 0 (oso ce k : Int)) (aX S) 1 (owh ce k : Int)) (aX S) 2 (owi ce k : Int)) (aX S) 3 (bN (sh (X6 ce k) 6) 100 : Int)) (aX S) 4 (o4 ce k)) (aX S) 5 (bN (sh (Y6 ce k) 3) 100 : Int)) (aX S) 6 (bN (sh (Y6 ce k) 5) (mny ce + 2) : Int)) (aX S) 7 (bN (sh (X6 ce k) 5) (C2 ce) : Int)) (aX S) 8 (bN (sh (Y6 ce k) 2) (C4 ce) : Int)) (aX S) 9 (bN (sh (Y6 ce k) 4) (C5 ce) : Int)) = x := ⟨_, rfl⟩
  have mr : RM Mr := by rw [← eMr]; exact ((((((((((RM.nw h.1.2.1).w ⟨by omega, by omega⟩).w ⟨by omega, by omega⟩).w ⟨by omega, by omega⟩).w ⟨by omega, by omega⟩).w ⟨by omega, by omega⟩).w ⟨by omega, by omega⟩).w ⟨by omega, by omega⟩).w ⟨by omega, by omega⟩).w ⟨by omega, by omega⟩).w ⟨by omega, by omega⟩
  have fr : ∀ x, x < aX S → Mr x = M x := fun x hx => by rw [← eMr, mW_ne (Nat.ne_of_lt hx), mW_ne (Nat.ne_of_lt hx), mW_ne (Nat.ne_of_lt hx), mW_ne (Nat.ne_of_lt hx), mW_ne (Nat.ne_of_lt hx), mW_ne (Nat.ne_of_lt hx), mW_ne (Nat.ne_of_lt hx), mW_ne (Nat.ne_of_lt hx), mW_ne (Nat.ne_of_lt hx), mW_ne (Nat.ne_of_lt hx), aU_ne _ _ (Nat.ne_of_lt hx)]
  have w0 : Mr (aX S) 0 = (oso ce k : Int) := by rw [← eMr, mW_ne2 (Or.inr (by decide)), mW_ne2 (Or.inr (by decide)), mW_ne2 (Or.inr (by decide)), mW_ne2 (Or.inr (by decide)), mW_ne2 (Or.inr (by decide)), mW_ne2 (Or.inr (by decide)), mW_ne2 (Or.inr (by decide)), mW_ne2 (Or.inr (by decide)), mW_ne2 (Or.inr (by decide))]; exact mW_eq
  have w1 : Mr (aX S) 1 = (owh ce k : Int) := by rw [← eMr, mW_ne2 (Or.inr (by decide)), mW_ne2 (Or.inr (by decide)), mW_ne2 (Or.inr (by decide)), mW_ne2 (Or.inr (by decide)), mW_ne2 (Or.inr (by decide)), mW_ne2 (Or.inr (by decide)), mW_ne2 (Or.inr (by decide)), mW_ne2 (Or.inr (by decide))]; exact mW_eq
  have w2 : Mr (aX S) 2 = (owi ce k : Int) := by rw [← eMr, mW_ne2 (Or.inr (by decide)), mW_ne2 (Or.inr (by decide)), mW_ne2 (Or.inr (by decide)), mW_ne2 (Or.inr (by decide)), mW_ne2 (Or.inr (by decide)), mW_ne2 (Or.inr (by decide)), mW_ne2 (Or.inr (by decide))]; exact mW_eq
  have w3 : Mr (aX S) 3 = (bN (sh (X6 ce k) 6) 100 : Int) := by rw [← eMr, mW_ne2 (Or.inr (by decide)), mW_ne2 (Or.inr (by decide)), mW_ne2 (Or.inr (by decide)), mW_ne2 (Or.inr (by decide)), mW_ne2 (Or.inr (by decide)), mW_ne2 (Or.inr (by decide))]; exact mW_eq
  have w4 : Mr (aX S) 4 = (o4 ce k) := by rw [← eMr, mW_ne2 (Or.inr (by decide)), mW_ne2 (Or.inr (by decide)), mW_ne2 (Or.inr (by decide)), mW_ne2 (Or.inr (by decide)), mW_ne2 (Or.inr (by decide))]; exact mW_eq
  have w5 : Mr (aX S) 5 = (bN (sh (Y6 ce k) 3) 100 : Int) := by rw [← eMr, mW_ne2 (Or.inr (by decide)), mW_ne2 (Or.inr (by decide)), mW_ne2 (Or.inr (by decide)), mW_ne2 (Or.inr (by decide))]; exact mW_eq
  have w6 : Mr (aX S) 6 = (bN (sh (Y6 ce k) 5) (mny ce + 2) : Int) := by rw [← eMr, mW_ne2 (Or.inr (by decide)), mW_ne2 (Or.inr (by decide)), mW_ne2 (Or.inr (by decide))]; exact mW_eq
  have w7 : Mr (aX S) 7 = (bN (sh (X6 ce k) 5) (C2 ce) : Int) := by rw [← eMr, mW_ne2 (Or.inr (by decide)), mW_ne2 (Or.inr (by decide))]; exact mW_eq
  have w8 : Mr (aX S) 8 = (bN (sh (Y6 ce k) 2) (C4 ce) : Int) := by rw [← eMr, mW_ne2 (Or.inr (by decide))]; exact mW_eq
  have w9 : Mr (aX S) 9 = (bN (sh (Y6 ce k) 4) (C5 ce) : Int) := by rw [← eMr]; exact mW_eq
  have hrow := h.rw_ (j := 6) (k := k) (by decide) rfl hm.symm hSr mr fr (fun q hq => by
    have hq' : q < 10 := hq
    rcases (by omega : q = 0 ∨ q = 1 ∨ q = 2 ∨ q = 3 ∨ q = 4 ∨ q = 5 ∨ q = 6 ∨ q = 7 ∨ q = 8 ∨ q = 9) with e | e | e | e | e | e | e | e | e | e
    · subst e; exact w0
    · subst e; exact w1
    · subst e; exact w2
    · subst e; exact w3
    · subst e; exact w4
    · subst e; exact w5
    · subst e; exact w6
    · subst e; exact w7
    · subst e; exact w8
    · subst e; exact w9)
  have hrw : ∀ (pc : Nat) (p5 p6 p7 p8 p9 p10 : Option Value) (S' : aS) (M' : Nat → Nat → Int) (v' : Nat) (m' T' : Nat → Nat) (A' : Nat → Nat → Nat), Lz cb sb s S0 M0 ce S' M' v' (tOr ce k (tx6 ce bs k)) (z + 1 + 49) 6 m' T' A' → m' 6 = k + 1 → X E d fL_list 700 [some (.ref sa), some (.ref sb), some (.ref s), some (J (mny ce : Int)), some (J ((k + 1 : Nat) : Int)), p5, p6, p7, p8, p9, p10] [] S' (mI M') Q :=
    fun _ p5 p6 p7 p8 p9 p10 S' M' v' m' T' A' h' hm' => q S' M' v' m' T' A' p5 p6 p7 p8 p9 p10 h' hm'
  have hk3 : k < updN m 6 (k + 1) 6 := by rw [updN_s]; omega
  have eA : upd2 A 6 k (aX S) 6 k = aX S := if_pos ⟨rfl, rfl⟩
  -- the texts
  have fin : X E d fL_list 985 [some (.ref sa), some (.ref sb), some (.ref s), some (J (mny ce : Int)), some (J (k : Int)), some (J (X6 ce k)), some (J (Y6 ce k)), some (J (oso ce k : Int)), some (J (owh ce k : Int)), some (J (owi ce k : Int)), p10] [J (bN (sh (Y6 ce k) 4) (C5 ce) : Int), J 9, .ref (aX S), .ref (aX S)] Sr (mI (mW (mW (mW (mW (mW (mW (mW (mW (mW (aU M (aX S) (fun _ => 0)) (aX S) 0 (oso ce k : Int)) (aX S) 1 (owh ce k : Int)) (aX S) 2 (owi ce k : Int)) (aX S) 3 (bN (sh (X6 ce k) 6) 100 : Int)) (aX S) 4 (o4 ce k)) (aX S) 5 (bN (sh (Y6 ce k) 3) 100 : Int)) (aX S) 6 (bN (sh (Y6 ce k) 5) (mny ce + 2) : Int)) (aX S) 7 (bN (sh (X6 ce k) 5) (C2 ce) : Int)) (aX S) 8 (bN (sh (Y6 ce k) 2) (C4 ce) : Int))) Q := by
    refine kL_list_985 kr (by decide) (by rw [nr]; decide) ((Dr' _ hsx).trans s2) ((congrFun (Pr' _ hsx) 6).trans t1) ((Kr' _ t5).trans t2) ⟨by omega, by omega⟩ (by rw [Nr' _ t5, t4]; exact ⟨by omega, by omega⟩) kr ⟨by omega, by omega⟩ (fun hx => ?_) (fun hx => ?_)
    · rw [Int.toNat_natCast]
      show X E d fL_list 1045 _ [] (aPut Sr (T 6) k (some (aX S))) (mI (mW (mW (mW (mW (mW (mW (mW (mW (mW (mW (aU M (aX S) (fun _ => 0)) (aX S) 0 (oso ce k : Int)) (aX S) 1 (owh ce k : Int)) (aX S) 2 (owi ce k : Int)) (aX S) 3 (bN (sh (X6 ce k) 6) 100 : Int)) (aX S) 4 (o4 ce k)) (aX S) 5 (bN (sh (Y6 ce k) 3) 100 : Int)) (aX S) 6 (bN (sh (Y6 ce k) 5) (mny ce + 2) : Int)) (aX S) 7 (bN (sh (X6 ce k) 5) (C2 ce) : Int)) (aX S) 8 (bN (sh (Y6 ce k) 2) (C4 ce) : Int)) (aX S) 9 (bN (sh (Y6 ce k) 4) (C5 ce) : Int))) _
      rw [eMr]
      refine kL_list_1045 ⟨by omega, by omega⟩ (fun hx2 => ?_) (fun hx2 => ?_)
      · have g := ls6c (k := k) (p5 := some (J (X6 ce k))) (p6 := some (J (Y6 ce k))) (d := d) (Q := Q) hL hd (by omega) hrow hk3 (by omega) (fun S' M' v' p5 p6 p7 p8 p9 p10 h' => hrw 0 p5 p6 p7 p8 p9 p10 S' M' v' _ _ _ h' updN_s)
        rw [eA] at g
        exact g
      · have g := ls6b (k := k) (p5 := some (J (X6 ce k))) (p6 := some (J (Y6 ce k))) (d := d) (Q := Q) hL hd (by omega) hrow hk3 (by omega) (fun S' M' v' p5 p6 p7 p8 p9 p10 h' => hrw 0 p5 p6 p7 p8 p9 p10 S' M' v' _ _ _ h' updN_s)
        rw [eA] at g
        exact g
    · rw [Int.toNat_natCast]
      show X E d fL_list 1002 _ [] (aPut Sr (T 6) k (some (aX S))) (mI (mW (mW (mW (mW (mW (mW (mW (mW (mW (mW (aU M (aX S) (fun _ => 0)) (aX S) 0 (oso ce k : Int)) (aX S) 1 (owh ce k : Int)) (aX S) 2 (owi ce k : Int)) (aX S) 3 (bN (sh (X6 ce k) 6) 100 : Int)) (aX S) 4 (o4 ce k)) (aX S) 5 (bN (sh (Y6 ce k) 3) 100 : Int)) (aX S) 6 (bN (sh (Y6 ce k) 5) (mny ce + 2) : Int)) (aX S) 7 (bN (sh (X6 ce k) 5) (C2 ce) : Int)) (aX S) 8 (bN (sh (Y6 ce k) 2) (C4 ce) : Int)) (aX S) 9 (bN (sh (Y6 ce k) 4) (C5 ce) : Int))) _
      rw [eMr]
      have g := ls6a (k := k) (p5 := some (J (X6 ce k))) (p6 := some (J (Y6 ce k))) (d := d) (Q := Q) hL hd (by omega) hrow hk3 (by omega) (fun S' M' v' p5 p6 p7 p8 p9 p10 h' => hrw 0 p5 p6 p7 p8 p9 p10 S' M' v' _ _ _ h' updN_s)
      rw [eA] at g
      exact g
  have f911 : X E d fL_list 911 [some (.ref sa), some (.ref sb), some (.ref s), some (J (mny ce : Int)), some (J (k : Int)), some (J (X6 ce k)), some (J (Y6 ce k)), some (J (oso ce k : Int)), some (J (owh ce k : Int)), some (J (owi ce k : Int)), p10] [J (o4 ce k), J 4, .ref (aX S), .ref (aX S)] Sr (mI (mW (mW (mW (mW (aU M (aX S) (fun _ => 0)) (aX S) 0 (oso ce k : Int)) (aX S) 1 (owh ce k : Int)) (aX S) 2 (owi ce k : Int)) (aX S) 3 (bN (sh (X6 ce k) 6) 100 : Int))) Q := by
    refine kL_list_911 kr (by decide) (by rw [nr]; decide) (by omega) ?_
    show X E (d - 1) fL_below 0 [some (J (sh (Y6 ce k) 3)), some (J 100)] [] Sr (mI (mW (mW (mW (mW (mW (aU M (aX S) (fun _ => 0)) (aX S) 0 (oso ce k : Int)) (aX S) 1 (owh ce k : Int)) (aX S) 2 (owi ce k : Int)) (aX S) 3 (bN (sh (X6 ce k) 6) 100 : Int)) (aX S) 4 (o4 ce k))) _
    refine bel_X (k := 100) (by decide) rfl (by decide) ⟨_, rfl, ?_⟩
    refine kL_list_923 kr (by decide) (by rw [nr]; decide) (by omega) ?_
    show X E (d - 1) fL_below 0 [some (J (sh (Y6 ce k) 5)), some (J ((mny ce : Int) + 2))] [] Sr (mI (mW (mW (mW (mW (mW (mW (aU M (aX S) (fun _ => 0)) (aX S) 0 (oso ce k : Int)) (aX S) 1 (owh ce k : Int)) (aX S) 2 (owi ce k : Int)) (aX S) 3 (bN (sh (X6 ce k) 6) 100 : Int)) (aX S) 4 (o4 ce k)) (aX S) 5 (bN (sh (Y6 ce k) 3) 100 : Int))) _
    refine bel_X (k := mny ce + 2) (by omega) rfl (by omega) ⟨_, rfl, ?_⟩
    refine kL_list_937 kr (by decide) (by rw [nr]; decide) ((Dr' _ hsx).trans s2) ((congrFun (Pr' _ hsx) 2).trans a1) (Or.inr (Or.inr ((Dr' _ a5).trans a3))) (by omega) ?_
    rw [Nr' _ a5, a4]
    show X E (d - 1) fL_below 0 [some (J (sh (X6 ce k) 5)), some (J (C2 ce : Int))] [] Sr (mI (mW (mW (mW (mW (mW (mW (mW (aU M (aX S) (fun _ => 0)) (aX S) 0 (oso ce k : Int)) (aX S) 1 (owh ce k : Int)) (aX S) 2 (owi ce k : Int)) (aX S) 3 (bN (sh (X6 ce k) 6) 100 : Int)) (aX S) 4 (o4 ce k)) (aX S) 5 (bN (sh (Y6 ce k) 3) 100 : Int)) (aX S) 6 (bN (sh (Y6 ce k) 5) (mny ce + 2) : Int))) _
    refine bel_X (k := C2 ce) (by omega) rfl (by omega) ⟨_, rfl, ?_⟩
    refine kL_list_953 kr (by decide) (by rw [nr]; decide) ((Dr' _ hsx).trans s2) ((congrFun (Pr' _ hsx) 4).trans b1) (Or.inr (Or.inr ((Dr' _ b5).trans b3))) (by omega) ?_
    rw [Nr' _ b5, b4]
    show X E (d - 1) fL_below 0 [some (J (sh (Y6 ce k) 2)), some (J (C4 ce : Int))] [] Sr (mI (mW (mW (mW (mW (mW (mW (mW (mW (aU M (aX S) (fun _ => 0)) (aX S) 0 (oso ce k : Int)) (aX S) 1 (owh ce k : Int)) (aX S) 2 (owi ce k : Int)) (aX S) 3 (bN (sh (X6 ce k) 6) 100 : Int)) (aX S) 4 (o4 ce k)) (aX S) 5 (bN (sh (Y6 ce k) 3) 100 : Int)) (aX S) 6 (bN (sh (Y6 ce k) 5) (mny ce + 2) : Int)) (aX S) 7 (bN (sh (X6 ce k) 5) (C2 ce) : Int))) _
    refine bel_X (k := C4 ce) (by omega) rfl (by omega) ⟨_, rfl, ?_⟩
    refine kL_list_969 kr (by decide) (by rw [nr]; decide) ((Dr' _ hsx).trans s2) ((congrFun (Pr' _ hsx) 5).trans c1) (Or.inr (Or.inr ((Dr' _ c5).trans c3))) (by omega) ?_
    rw [Nr' _ c5, c4]
    show X E (d - 1) fL_below 0 [some (J (sh (Y6 ce k) 4)), some (J (C5 ce : Int))] [] Sr (mI (mW (mW (mW (mW (mW (mW (mW (mW (mW (aU M (aX S) (fun _ => 0)) (aX S) 0 (oso ce k : Int)) (aX S) 1 (owh ce k : Int)) (aX S) 2 (owi ce k : Int)) (aX S) 3 (bN (sh (X6 ce k) 6) 100 : Int)) (aX S) 4 (o4 ce k)) (aX S) 5 (bN (sh (Y6 ce k) 3) 100 : Int)) (aX S) 6 (bN (sh (Y6 ce k) 5) (mny ce + 2) : Int)) (aX S) 7 (bN (sh (X6 ce k) 5) (C2 ce) : Int)) (aX S) 8 (bN (sh (Y6 ce k) 2) (C4 ce) : Int))) _
    refine bel_X (k := C5 ce) (by omega) rfl (by omega) ⟨_, rfl, ?_⟩
    exact fin
  have f850 : X E d fL_list 850 [some (.ref sa), some (.ref sb), some (.ref s), some (J (mny ce : Int)), some (J (k : Int)), some (J (X6 ce k)), some (J (Y6 ce k)), some (J (oso ce k : Int)), some (J (owh ce k : Int)), p9, p10] [J (owi ce k : Int)] S (mI M) Q := by
    refine kL_list_850 (by rw [eSr]; exact kr) (by rw [eSr, nr]; decide) (by rw [eSr, nr]; decide) (by rw [eSr, nr]; decide) rfl (by omega) ?_
    rw [eSr]
    show X E (d - 1) fL_below 0 [some (J (sh (X6 ce k) 6)), some (J 100)] [] Sr (mI (mW (mW (mW (aU M (aX S) (fun _ => 0)) (aX S) 0 (oso ce k : Int)) (aX S) 1 (owh ce k : Int)) (aX S) 2 (owi ce k : Int))) _
    refine bel_X (k := 100) (by decide) rfl (by decide) ⟨_, rfl, ?_⟩
    refine kL_list_883 kr (by decide) (by rw [nr]; decide) ⟨by omega, by omega⟩ (fun hx => ?_) (fun hx => ?_)
    · refine kL_list_904 (by omega) (bel_X (k := 8) (by decide) rfl (by decide) ⟨_, rfl, ?_⟩)
      have e4 : o4 ce k = (bN (Y6 ce k) 8 : Int) := if_neg (by omega)
      rw [e4] at f911
      exact f911
    · refine kL_list_892 (by omega) (bel_X (k := 9) (by decide) rfl (by decide) ⟨_, rfl, kL_list_899 ?_⟩)
      have e4 : o4 ce k = (bN (Y6 ce k) 9 : Int) - 1 := if_pos (by omega)
      rw [e4] at f911
      exact f911
  have f801 : X E d fL_list 801 [some (.ref sa), some (.ref sb), some (.ref s), some (J (mny ce : Int)), some (J (k : Int)), some (J (X6 ce k)), some (J (Y6 ce k)), some (J (oso ce k : Int)), p8, p9, p10] [J (owh ce k : Int)] S (mI M) Q := by
    refine kL_list_801 ⟨by omega, by omega⟩ (fun hx => ?_) (fun hx => ?_)
    · refine kL_list_823 ⟨by omega, by omega⟩ (fun hx2 => ?_) (fun hx2 => ?_)
      · refine kL_list_841 (by omega) ?_
        show X E (d - 1) fL_below 0 [some (J (sh (X6 ce k) 4)), some (J 6)] [] S (mI M) _
        refine bel_X (k := 6) (by decide) rfl (by decide) ⟨_, rfl, ?_⟩
        have e4 : owi ce k = bN (sh (X6 ce k) 4) 6 := by unfold owi; rw [if_neg (by omega), if_neg (by omega)]
        rw [e4] at f850
        exact f850
      · refine kL_list_829 (by omega) ?_
        show X E (d - 1) fL_below 0 [some (J (sh (X6 ce k) 4)), some (J 120)] [] S (mI M) _
        refine bel_X (k := 120) (by decide) rfl (by decide) ⟨_, rfl, kL_list_838 ?_⟩
        have e4 : owi ce k = bN (sh (X6 ce k) 4) 120 := by unfold owi; rw [if_neg (by omega), if_pos (by omega)]
        rw [e4] at f850
        exact f850
    · refine kL_list_808 s2 b1 (Or.inr (Or.inr b3)) (by omega) ?_
      rw [b4]
      show X E (d - 1) fL_below 0 [some (J (sh (X6 ce k) 4)), some (J (C4 ce : Int))] [] S (mI M) _
      refine bel_X (k := C4 ce) (by omega) rfl (by omega) ⟨_, rfl, kL_list_820 ?_⟩
      have e4 : owi ce k = bN (sh (X6 ce k) 4) (C4 ce) := by unfold owi; rw [if_pos (by omega)]
      rw [e4] at f850
      exact f850
  have f798 : ∀ w : Nat, 1 ≤ w → w ≤ 100 → w = (if oso ce k = 0 then C5 ce else if oso ce k = 1 then C4 ce else C2 ce) → X E d fL_list 798 [some (.ref sa), some (.ref sb), some (.ref s), some (J (mny ce : Int)), some (J (k : Int)), some (J (X6 ce k)), some (J (Y6 ce k)), some (J (oso ce k : Int)), p8, p9, p10] [J (w : Int), J (sh (X6 ce k) 2)] S (mI M) Q := by
    intro w w1 w2 hw
    refine kL_list_798 (by omega) (bel_X (k := w) w1 rfl (by omega) ⟨_, rfl, ?_⟩)
    have e4 : owh ce k = bN (sh (X6 ce k) 2) w := by unfold owh; rw [← hw]
    rw [e4] at f801
    exact f801
  refine kL_list_700 s2 t1 (Or.inr (Or.inr t3)) ⟨by omega, by omega⟩ ⟨by omega, by omega⟩ (fun hx => absurd hx (by omega)) (fun _ => ?_)
  refine kL_list_710 ⟨by omega, by omega⟩ (by omega) ?_
  refine Ls.cell (k := 8 + k % 4) hL h.1.1 (by rw [show (4 : Int) = ((4 : Nat) : Int) by rfl, tmN]; omega) (by omega) ⟨_, rfl, ?_⟩
  refine kL_list_721 ⟨by omega, by omega⟩ (by omega) ?_
  have e9 : (k : Int).tdiv 4 * 9 = ((k / 4 * 9 : Nat) : Int) := by
    rw [show (4 : Int) = ((4 : Nat) : Int) by rfl, tdN]; omega
  rw [e9]
  have eX : (Int32.ofInt (ce (8 + k % 4)) >>> (Int32.ofInt ((k / 4 * 9 : Nat) : Int) &&& 31)).toInt = X6 ce k := rfl
  rw [eX]
  refine Ls.cell (k := 12 + k % 4) hL h.1.1 (by rw [show (4 : Int) = ((4 : Nat) : Int) by rfl, tmN]; omega) (by omega) ⟨_, rfl, ?_⟩
  refine kL_list_742 ⟨by omega, by omega⟩ (by omega) ?_
  rw [e9]
  have eY : (Int32.ofInt (ce (12 + k % 4)) >>> (Int32.ofInt ((k / 4 * 9 : Nat) : Int) &&& 31)).toInt = Y6 ce k := rfl
  rw [eY]
  refine bel_X (k := 4) (by decide) rfl (by decide) ⟨_, rfl, ?_⟩
  have hb4 := (bN_e (v := X6 ce k) (n := 4) (by decide)).2
  have e3 : (bN (X6 ce k) 4 : Int).tmod 3 = (oso ce k : Int) := by
    rw [show (3 : Int) = ((3 : Nat) : Int) by rfl, tmN]; rfl
  refine kL_list_758 ⟨by omega, by omega⟩ (by rw [e3]; exact ⟨by omega, by omega⟩) (fun hx => ?_) (fun hx => ?_)
  · rw [e3] at hx ⊢
    refine kL_list_779 ⟨by omega, by omega⟩ (fun hx2 => ?_) (fun hx2 => ?_)
    · refine kL_list_793 s2 a1 (Or.inr (Or.inr a3)) ?_
      rw [a4]
      exact f798 (C2 ce) (by omega) (by omega) (by rw [if_neg (by omega), if_neg (by omega)])
    · refine kL_list_785 s2 b1 (Or.inr (Or.inr b3)) ?_
      rw [b4]
      exact f798 (C4 ce) (by omega) (by omega) (by rw [if_neg (by omega), if_pos (by omega)])
  · rw [e3] at hx ⊢
    refine kL_list_771 s2 c1 (Or.inr (Or.inr c3)) ?_
    rw [c4]
    exact f798 (C5 ce) (by omega) (by omega) (by rw [if_pos (by omega)])
theorem ls6 (hL : Ls E S0 M0 cb bo bt sa n ce) (hd : 30 ≤ d) (hbs : bs.length ≤ 1600)
    (q : ∀ S' M' v' m' T' A', Lz cb sb s S0 M0 ce S' M' v' (tx6 ce bs (C6 ce)) (z + 50 * C6 ce) 6 m' T' A' → m' 6 = C6 ce → Q (some (some (.ref s))) S' (mI M')) :
    ∀ (mm k : Nat) (S : aS) (M : Nat → Nat → Int) (v : Nat) (m T : Nat → Nat) (A : Nat → Nat → Nat) (p5 p6 p7 p8 p9 p10 : Option Value), k + mm = C6 ce → Lz cb sb s S0 M0 ce S M v (tx6 ce bs k) (z + 50 * k) 6 m T A → m 6 = k →
    X E d fL_list 700 [some (.ref sa), some (.ref sb), some (.ref s), some (J (mny ce : Int)), some (J (k : Int)), p5, p6, p7, p8, p9, p10] [] S (mI M) Q := by
  intro mm
  induction mm with
  | zero =>
    intro k S M v m T A p5 p6 p7 p8 p9 p10 hk h hm
    obtain rfl : k = C6 ce := by omega
    obtain ⟨t1, t2, t3, t4, t5⟩ := h.tb (j := 6) (by decide) (by decide)
    have hC : cC ce 6 = C6 ce := rfl
    have hC2 := C6_b (ce := ce)
    exact kL_list_700 h.sk.2 t1 (Or.inr (Or.inr t3)) ⟨by omega, by omega⟩ ⟨by omega, by omega⟩ (fun _ => kL_list_1168 (q S M v m T A h hm)) (fun hx => absurd hx (by omega))
  | succ mm ih =>
    intro k S M v m T A p5 p6 p7 p8 p9 p10 hk h hm
    exact ls6i hL hd hbs h hm (by omega) (fun S' M' v' m' T' A' p5 p6 p7 p8 p9 p10 h' hm' => ih (k + 1) S' M' v' m' T' A' p5 p6 p7 p8 p9 p10 (by omega) (by rw [show z + 50 * (k + 1) = z + 50 * k + 50 by omega]; exact h') hm')
end LX
