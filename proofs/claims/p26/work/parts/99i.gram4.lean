/-! grammar: lines -/
section GZ
variable {E : Nat → Value} {d : Nat} {S S' : aS} {M M' M0 M1 M00 : Nat → Nat → Int} {Q : Option (Option Value) → aS → aI → Prop} {cl c a : Nat} {K : Nat → Nat} {OL : List (Nat × Nat)}
/-- an array of kinds that stands before the class -/
def LnK (E : Nat → Value) (S : aS) (M : Nat → Nat → Int) (cl n : Nat) (ks : List Nat) : Prop := ∃ b : Nat, E n = .ref b ∧ b < cl ∧ aKd S b = 100 ∧ aN S b = ks.length ∧ ∀ i k : Nat, ks[i]? = some k → M b i = (k : Int)
theorem LnK.fr {n : Nat} {ks : List Nat} (h : LnK E S M cl n ks) (g : ∀ x, x < cl → M' x = M x) : LnK E S M' cl n ks := by
  obtain ⟨b, h1, h2, h3, h4, h5⟩ := h
  exact ⟨b, h1, h2, h3, h4, fun i k hk => by rw [g b h2]; exact h5 i k hk⟩
theorem gAll {b : Nat} {ks : List Nat} (hs : Gs cl c S K M0) (hb : b < cl) (hk : aKd S b = 100) (hn : aN S b = ks.length) (hv : ∀ i k : Nat, ks[i]? = some k → M0 b i = (k : Int)) (hkl : ks.length ≤ 100) (hd : 1 ≤ d) :
    ∀ (m i : Nat) (M : Nat → Nat → Int), i + m = ks.length → Gi cl K M0 M (a + i) OL → a + ks.length ≤ c → At K a ks → (∀ M', Gi cl K M0 M' (a + ks.length) OL → Q (some none) S (mI M')) →
    X E d fX0_needAll 2 [some (.ref (cl + 7)), some (.ref b), some (J (i : Int))] [] S (mI M) Q := by
  have g7 : aKd S (cl + 7) = 2 := hs.1.kd (i := 7) rfl
  intro m
  induction m with
  | zero =>
    intro i M hi h hc hA q
    obtain rfl : i = ks.length := by omega
    exact kX0_needAll_2 (Or.inl hk) ⟨by omega, by omega⟩ ⟨by omega, by omega⟩ (fun _ => kX0_needAll_21 (q M h)) (fun h => absurd h (by omega))
  | succ m ih =>
    intro i M hi h hc hA q
    have hi' : i < ks.length := by omega
    have e := hv i _ (List.getElem?_eq_getElem hi')
    have ea := hA i _ (List.getElem?_eq_getElem hi')
    refine kX0_needAll_2 (Or.inl hk) ⟨by omega, by omega⟩ ⟨by omega, by omega⟩ (fun h => absurd h (by omega)) (fun _ => ?_)
    refine kX0_needAll_8 hk ⟨by omega, by omega⟩ ⟨by omega, by omega⟩ hd ?_ g7
    refine gNeed hs h (by omega) ?_ (fun M1 h1 => ⟨_, rfl, kX0_needAll_15 ?_⟩)
    · rw [Int.toNat_natCast, h.2.2.1 b (by omega) (by omega) (by omega) (by omega), e, ea]
    · rw [show (i : Int) + 1 = ((i + 1 : Nat) : Int) by omega]
      exact ih (i + 1) M1 (by omega) h1 hc hA q
/-- the state as its own base -/
theorem Gi.re (h : Gi cl K M0 M a OL) (hM : RM M1) (h7 : M1 (cl + 7) = M (cl + 7)) (h54 : M1 (cl + 54) = M (cl + 54)) (h55 : M1 (cl + 55) = M (cl + 55)) (h8 : M1 (cl + 46) 8 = M (cl + 46) 8) : Gi cl K M1 M1 a OL := by
  obtain ⟨_, h2, _, _, h5, h6⟩ := h
  exact ⟨hM, by rw [h7]; exact h2, fun _ _ _ _ _ => rfl, fun _ _ => rfl, h8.trans h5, fun i k t hi => by rw [h54, h55]; exact h6 i k t hi⟩
theorem Gs.re (h : Gs cl c S K M0) (g : M1 (cl + 3) = M0 (cl + 3)) : Gs cl c S K M1 := ⟨h.1, fun i hi => by rw [g]; exact h.2.1 i hi, h.2.2⟩
abbrev Orw : Type := List (Nat × Nat × Nat × Nat × Nat)
/-- the rows of the orders that are read -/
def OrR (cl : Nat) (M00 M : Nat → Nat → Int) (n : Nat) (OR : Orw) : Prop :=
  M (cl + 46) 0 = (n : Int) ∧ (∀ (j : Nat) (r : Nat × Nat × Nat × Nat × Nat), OR[j]? = some r → M (cl + 47) j = (r.1 : Int) ∧ M (cl + 48) j = (r.2.1 : Int) ∧ M (cl + 51) j = (r.2.2.1 : Int) ∧ M (cl + 52) j = (r.2.2.2.1 : Int) ∧ M (cl + 53) j = (r.2.2.2.2 : Int)) ∧ (∀ x, x ≠ cl + 7 → (x < cl + 46 ∨ cl + 55 < x) → M x = M00 x) ∧ ∀ j, n ≤ j → M (cl + 51) j = M00 (cl + 51) j ∧ M (cl + 52) j = M00 (cl + 52) j ∧ M (cl + 53) j = M00 (cl + 53) j
theorem OrR.fr {n : Nat} {OR : Orw} (h : OrR cl M00 M n OR) (g1 : ∀ x, x ≠ cl + 7 → x ≠ cl + 46 → x ≠ cl + 54 → x ≠ cl + 55 → M' x = M x) (g2 : ∀ j, j ≠ 8 → M' (cl + 46) j = M (cl + 46) j) : OrR cl M00 M' n OR := by
  obtain ⟨h1, h2, h3, h4⟩ := h
  refine ⟨(g2 0 (by decide)).trans h1, fun j r hr => ?_, fun x x1 x2 => ?_, fun j hj => ?_⟩
  · rw [g1 (cl + 47) (by omega) (by omega) (by omega) (by omega), g1 (cl + 48) (by omega) (by omega) (by omega) (by omega), g1 (cl + 51) (by omega) (by omega) (by omega) (by omega), g1 (cl + 52) (by omega) (by omega) (by omega) (by omega), g1 (cl + 53) (by omega) (by omega) (by omega) (by omega)]
    exact h2 j r hr
  · rw [g1 x x1 (by omega) (by omega) (by omega)]
    exact h3 x x1 x2
  · rw [g1 (cl + 51) (by omega) (by omega) (by omega) (by omega), g1 (cl + 52) (by omega) (by omega) (by omega) (by omega), g1 (cl + 53) (by omega) (by omega) (by omega) (by omega)]
    exact h4 j hj
def Gf (cl : Nat) (K : Nat → Nat) (M00 M : Nat → Nat → Int) (a : Nat) (OL : List (Nat × Nat)) (OR : Orw) : Prop := Gi cl K M M a OL ∧ OrR cl M00 M OR.length OR
/-- an order that is begun -/
abbrev Obg (cl : Nat) (M : Nat → Nat → Int) (r s l o : Nat) : Prop := M (cl + 47) r = (s : Int) ∧ M (cl + 48) r = (l : Int) ∧ M (cl + 51) r = (o : Int)
set_option maxHeartbeats 1000000 in
theorem gBeg {OR : Orw} {x y : Int} {s : Nat} (hs : Gs cl c S K M) (h : Gf cl K M00 M a OL OR) (hr : OR.length < 20) (ha : a < c) (hx : x = (s : Int)) (hy : y = (a : Int)) (hsb : s ≤ 50) (hol : OL.length ≤ 400)
    (q : ∀ M', Gs cl c S K M' → Gi cl K M' M' a OL → OrR cl M00 M' (OR.length + 1) OR → Obg cl M' OR.length s a OL.length → Q (some (some (J (OR.length : Int)))) S (mI M')) :
    X E d fX1_begin 0 [some (.ref (cl + 46)), some (J x), some (J y), none] [] S (mI M) Q := by
  subst hx hy
  obtain ⟨hg, ho1, ho2, ho3, ho4⟩ := h
  have g6 : aKd S (cl + 46) = 3 := hs.1.kd (i := 46) rfl
  have g6k : aK S (cl + 46) = 3 := hs.1.kk (i := 46) rfl
  have p1 : aP S (cl + 46) 1 = some (cl + 47) := hs.1.pp (i := 46) (j := 1) (x := 47) rfl rfl
  have p2 : aP S (cl + 46) 2 = some (cl + 48) := hs.1.pp (i := 46) (j := 2) (x := 48) rfl rfl
  have p5 : aP S (cl + 46) 5 = some (cl + 51) := hs.1.pp (i := 46) (j := 5) (x := 51) rfl rfl
  have k47 : aK S (cl + 47) = 100 := hs.1.kk (i := 47) rfl
  have k48 : aK S (cl + 48) = 100 := hs.1.kk (i := 48) rfl
  have k51 : aK S (cl + 51) = 100 := hs.1.kk (i := 51) rfl
  have n47 : aN S (cl + 47) = 20 := hs.1.nn (i := 47) rfl
  have n48 : aN S (cl + 48) = 20 := hs.1.nn (i := 48) rfl
  have n51 : aN S (cl + 51) = 20 := hs.1.nn (i := 51) rfl
  have hM := hg.1
  have hc4 := hs.2.2.1
  have h8 := hg.2.2.2.2.1
  refine kX1_begin_0 g6 (hM _ _) (fun h => absurd h (by omega)) (fun _ => kX1_begin_9 g6 ?_)
  rw [ho1]
  obtain ⟨M1, e1⟩ : ∃ x, mW (mW (mW (mW M (cl + 46) 0 ((OR.length : Int) + 1)) (cl + 47) OR.length (s : Int)) (cl + 48) OR.length (a : Int)) (cl + 51) OR.length (OL.length : Int) = x := ⟨_, rfl⟩
  have f1 : ∀ x, x ≠ cl + 46 → x ≠ cl + 47 → x ≠ cl + 48 → x ≠ cl + 51 → M1 x = M x := fun x x1 x2 x3 x4 => by rw [← e1, mW_ne x4, mW_ne x3, mW_ne x2, mW_ne x1]
  have f46 : ∀ j, j ≠ 0 → M1 (cl + 46) j = M (cl + 46) j := fun j hj => by rw [← e1, mW_ne (by omega), mW_ne (by omega), mW_ne (by omega), mW_ne2 (Or.inr hj)]
  have v46 : M1 (cl + 46) 0 = (OR.length : Int) + 1 := by rw [← e1, mW_ne (by omega), mW_ne (by omega), mW_ne (by omega)]; exact mW_eq
  have f47 : ∀ j, j ≠ OR.length → M1 (cl + 47) j = M (cl + 47) j := fun j hj => by rw [← e1, mW_ne (by omega), mW_ne (by omega), mW_ne2 (Or.inr hj), mW_ne (by omega)]
  have v47 : M1 (cl + 47) OR.length = (s : Int) := by rw [← e1, mW_ne (by omega), mW_ne (by omega)]; exact mW_eq
  have f48 : ∀ j, j ≠ OR.length → M1 (cl + 48) j = M (cl + 48) j := fun j hj => by rw [← e1, mW_ne (by omega), mW_ne2 (Or.inr hj), mW_ne (by omega), mW_ne (by omega)]
  have v48 : M1 (cl + 48) OR.length = (a : Int) := by rw [← e1, mW_ne (by omega)]; exact mW_eq
  have f51 : ∀ j, j ≠ OR.length → M1 (cl + 51) j = M (cl + 51) j := fun j hj => by rw [← e1, mW_ne2 (Or.inr hj), mW_ne (by omega), mW_ne (by omega), mW_ne (by omega)]
  have v51 : M1 (cl + 51) OR.length = (OL.length : Int) := by rw [← e1]; exact mW_eq
  have hM1 : RM M1 := by rw [← e1]; exact (((hM.w ⟨by omega, by omega⟩).w ⟨by omega, by omega⟩).w ⟨by omega, by omega⟩).w ⟨by omega, by omega⟩
  refine kX1_begin_18 (M_21 := M1) g6k g6 p1 k47 ⟨by omega, by omega⟩ ⟨by omega, by omega⟩ p2 k48 ⟨by omega, by omega⟩ p5 k51 ⟨by omega, by omega⟩ ?_ ?_
  · rw [Int.toNat_natCast, nz_eq ⟨by omega, by omega⟩, mW_ne (show cl + 46 ≠ cl + 48 by omega), mW_ne (show cl + 46 ≠ cl + 47 by omega), mW_ne2 (Or.inr (by decide)), h8, nz_eq ⟨by omega, by omega⟩]
    exact e1
  · refine q M1 (hs.re (f1 _ (by omega) (by omega) (by omega) (by omega))) (hg.re hM1 (f1 _ (by omega) (by omega) (by omega) (by omega)) (f1 _ (by omega) (by omega) (by omega) (by omega)) (f1 _ (by omega) (by omega) (by omega) (by omega)) (f46 8 (by decide))) ⟨v46, fun j r hr => ?_, fun x x1 x2 => (f1 x (by omega) (by omega) (by omega) (by omega)).trans (ho3 x x1 x2), fun j hj => ⟨(f51 j (by omega)).trans (ho4 j (by omega)).1, (congrFun (f1 (cl + 52) (by omega) (by omega) (by omega) (by omega)) j).trans (ho4 j (by omega)).2.1, (congrFun (f1 (cl + 53) (by omega) (by omega) (by omega) (by omega)) j).trans (ho4 j (by omega)).2.2⟩⟩ ⟨v47, v48, v51⟩
    have hj := (List.getElem?_eq_some_iff.mp hr).1
    rw [f47 j (by omega), f48 j (by omega), f51 j (by omega), f1 (cl + 52) (by omega) (by omega) (by omega) (by omega), f1 (cl + 53) (by omega) (by omega) (by omega) (by omega)]
    exact ho2 j r hr
theorem gEnd {A F : Nat} (hs : Gs cl c S K M0) (hf : F = 6 ∧ A = 52 ∨ F = 7 ∧ A = 53) : aP S (cl + 46) F = some (cl + A) ∧ aK S (cl + A) = 100 ∧ aN S (cl + A) = 20 := by
  rcases hf with ⟨rfl, rfl⟩ | ⟨rfl, rfl⟩
  · exact ⟨hs.1.pp (i := 46) (j := 6) (x := 52) rfl rfl, hs.1.kk (i := 52) rfl, hs.1.nn (i := 52) rfl⟩
  · exact ⟨hs.1.pp (i := 46) (j := 7) (x := 53) rfl rfl, hs.1.kk (i := 53) rfl, hs.1.nn (i := 53) rfl⟩
/-- a write into the row of an order that is begun -/
theorem gW {A r : Nat} {OR : Orw} {s l o : Nat} (hs : Gs cl c S K M0) (hg : Gi cl K M0 M a OL) (ho : OrR cl M00 M (OR.length + 1) OR) (hb : Obg cl M OR.length s l o) (hA : A = 52 ∨ A = 53) (hr : r = OR.length) (hol : OL.length ≤ 400) :
    Gs cl c S K (mW M (cl + A) r (OL.length : Int)) ∧ Gi cl K (mW M (cl + A) r (OL.length : Int)) (mW M (cl + A) r (OL.length : Int)) a OL ∧ OrR cl M00 (mW M (cl + A) r (OL.length : Int)) (OR.length + 1) OR ∧ Obg cl (mW M (cl + A) r (OL.length : Int)) OR.length s l o := by
  have f : ∀ x, x ≠ cl + A → mW M (cl + A) r (OL.length : Int) x = M x := fun x hx => mW_ne hx
  have hs' : Gs cl c S K M := hs.re (hg.2.2.1 _ (by omega) (by omega) (by omega) (by omega))
  refine ⟨hs'.re (f _ (by omega)), hg.re (hg.1.w ⟨by omega, by omega⟩) (f _ (by omega)) (f _ (by omega)) (f _ (by omega)) (congrFun (f (cl + 46) (by omega)) 8), ⟨?_, fun j q hq => ?_, fun x x1 x2 => ?_, fun j hj => ?_⟩, ?_⟩
  · rw [f _ (by omega)]; exact ho.1
  · have hj := (List.getElem?_eq_some_iff.mp hq).1
    have h0 := ho.2.1 j q hq
    rw [f (cl + 47) (by omega), f (cl + 48) (by omega), f (cl + 51) (by omega), mW_ne2 (Or.inr (by omega)), mW_ne2 (Or.inr (by omega))]
    exact h0
  · rw [f x (by omega)]; exact ho.2.2.1 x x1 x2
  · rw [f (cl + 51) (by omega), mW_ne2 (Or.inr (by omega)), mW_ne2 (Or.inr (by omega))]; exact ho.2.2.2 j hj
  · unfold Obg
    rw [f (cl + 47) (by omega), f (cl + 48) (by omega), f (cl + 51) (by omega)]
    exact hb
end GZ
