/-! how far numbers go: N days and deeds so far, q small steps on this day; then no number is cut to 32 bits -/
section BND
variable {c : Nat → Nat} {R W O : Nat → Nat → Int} {N q : Nat}
/-- what row j holds at place i -/
def Bq (N q j i : Nat) (x : Int) : Prop := match j with
  | 0 => (i = 2 → 0 ≤ x ∧ x ≤ (N : Int)) ∧ (i = 3 → 0 ≤ x ∧ x ≤ 99999 + 120 * (q : Int))
  | 1 => 0 ≤ x ∧ x ≤ 100
  | 2 => 0 ≤ x ∧ x ≤ 270000 * (N : Int) + 100 * (q : Int)
  | 3 => 0 ≤ x ∧ x ≤ 100000 * (N : Int)
  | 4 => 0 ≤ x ∧ x ≤ 60
  | 5 => 0 ≤ x ∧ x ≤ 270000 * (N : Int) + 120 * (q : Int)
  | 6 => -(270000 * (N : Int)) ≤ x ∧ x ≤ 270000 * (N : Int)
  | 7 => -1 ≤ x ∧ x ≤ 999
  | 8 => 0 ≤ x ∧ x ≤ 120 * (q : Int)
  | 9 => 0 ≤ x ∧ x ≤ 16
  | 10 => 0 ≤ x ∧ x ≤ 3000 * (N : Int) + (q : Int)
  | 11 => 0 ≤ x ∧ x ≤ 3000 * (N : Int) + (q : Int)
  | 12 => 0 ≤ x ∧ x ≤ 270000 * (N : Int) + 120 * (q : Int)
  | _ => True
/-- on a day -/
abbrev Bd (N q : Nat) (W : Nat → Nat → Int) : Prop := ∀ j i, Bq N q j i (W j i)
theorem Bd.w (h : Bd N q W) {j i : Nat} {x : Int} (hx : Bq N q j i x) : Bd N q (mW W j i x) := by
  intro j' i'
  rw [mW_get]
  split
  · rename_i e
    rw [e.1, e.2]
    exact hx
  · exact h j' i'
theorem Bq.mono {q' j i : Nat} {x : Int} (hq : q ≤ q') (h : Bq N q j i x) : Bq N q' j i x := by
  unfold Bq at h ⊢
  split at h
  · exact ⟨h.1, fun e => by have := h.2 e; omega⟩
  all_goals first | exact h | omega | trivial
theorem Bd.mono {q' : Nat} (hq : q ≤ q') (h : Bd N q W) : Bd N q' W := fun j i => (h j i).mono hq
theorem sSum_up {f : Nat → Int} {k : Nat} {x : Int} : ∀ n, k < n → sSum (fun i => if i = k then x else f i) n = sSum f n + (x - f k)
  | 0, h => absurd h (Nat.not_lt_zero _)
  | n + 1, h => by
    unfold sSum
    by_cases e : n = k
    · subst e
      rw [if_pos rfl]
      have : ∀ m, m ≤ n → sSum (fun i => if i = n then x else f i) m = sSum f m := by
        intro m
        induction m with
        | zero => intro _; rfl
        | succ m ih =>
          intro hm
          unfold sSum
          rw [ih (by omega), if_neg (by omega)]
      rw [this n (Nat.le_refl _)]
      omega
    · rw [sSum_up n (by omega), if_neg e]
      omega
theorem mW_fun {j k : Nat} {x : Int} : mW W j k x j = fun i => if i = k then x else W j i := funext fun _ => mW_row
theorem sSum_w {j k n : Nat} {x : Int} (h : k < n) : sSum (mW W j k x j) n = sSum (W j) n + (x - W j k) := by rw [mW_fun, sSum_up n h]
theorem sSum_ne {j j' k n : Nat} {x : Int} (h : j' ≠ j) : sSum (mW W j k x j') n = sSum (W j') n := by rw [mW_ne h]
theorem sSum_in {f : Nat → Int} {b : Int} : ∀ n, (∀ i, i < n → 0 ≤ f i ∧ f i ≤ b) → 0 ≤ sSum f n ∧ sSum f n ≤ (n : Int) * b
  | 0, _ => by unfold sSum; omega
  | n + 1, h => by
    have h1 := sSum_in n (fun i hi => h i (by omega))
    have h2 := h n (by omega)
    unfold sSum
    rw [Int.natCast_add, Int.add_mul]
    omega
theorem sToll_in (h : Bd N q W) {a g : Nat} : 0 ≤ sToll W a g ∧ sToll W a g ≤ 120 := by
  have b4 : 0 ≤ W 4 g ∧ W 4 g ≤ 60 := h 4 g
  unfold sToll
  split
  · split
    · omega
    · have h1 := Int.tdiv_nonneg b4.1 (b := 2) (by decide)
      have h2 := Int.tdiv_le_self 2 b4.1
      omega
  · omega
/-- a toll paid, exactly -/
def xPay (W : Nat → Nat → Int) (a g : Nat) : Nat → Nat → Int :=
  if W 7 g = -1 then mW (mW (mW W 12 a (W 12 a + sToll W a g)) 5 g (W 5 g + sToll W a g)) 0 3 (W 0 3 + sToll W a g) else mW (mW (mW W 12 a (W 12 a + sToll W a g)) 5 g (W 5 g + sToll W a g)) 8 g (W 8 g + sToll W a g)
theorem sPay_x (h : Bd N q W) (hN : N ≤ 1400) (hq : q ≤ 3000) {a g : Nat} : sPay W a g = xPay W a g ∧ Bd N (q + 1) (xPay W a g) := by
  have ht := sToll_in h (a := a) (g := g)
  have b12 : 0 ≤ W 12 a ∧ W 12 a ≤ 270000 * (N : Int) + 120 * (q : Int) := h 12 a
  have b5 : 0 ≤ W 5 g ∧ W 5 g ≤ 270000 * (N : Int) + 120 * (q : Int) := h 5 g
  have b8 : 0 ≤ W 8 g ∧ W 8 g ≤ 120 * (q : Int) := h 8 g
  have b3 : 0 ≤ W 0 3 ∧ W 0 3 ≤ 99999 + 120 * (q : Int) := (h 0 3).2 rfl
  have e12 : nz (W 12 a + sToll W a g) = W 12 a + sToll W a g := nz_eq ⟨by omega, by omega⟩
  have e5 : nz (W 5 g + sToll W a g) = W 5 g + sToll W a g := nz_eq ⟨by omega, by omega⟩
  have e8 : nz (W 8 g + sToll W a g) = W 8 g + sToll W a g := nz_eq ⟨by omega, by omega⟩
  have e3 : nz (W 0 3 + sToll W a g) = W 0 3 + sToll W a g := nz_eq ⟨by omega, by omega⟩
  have h1 := h.mono (Nat.le_succ q)
  have hb : Bd N (q + 1) (mW (mW W 12 a (W 12 a + sToll W a g)) 5 g (W 5 g + sToll W a g)) :=
    (h1.w (j := 12) (i := a) (show 0 ≤ _ ∧ _ ≤ 270000 * (N : Int) + 120 * ((q + 1 : Nat) : Int) by omega)).w (j := 5) (i := g) (show 0 ≤ _ ∧ _ ≤ 270000 * (N : Int) + 120 * ((q + 1 : Nat) : Int) by omega)
  unfold sPay xPay
  dsimp only
  rw [e12, e5, e8, e3]
  refine ⟨rfl, ?_⟩
  split
  · exact hb.w (j := 0) (i := 3) ⟨fun e => absurd e (by decide), fun _ => by omega⟩
  · exact hb.w (j := 8) (i := g) (show 0 ≤ _ ∧ _ ≤ 120 * ((q + 1 : Nat) : Int) by omega)
/-- a mile worn, exactly -/
def xWear (R W : Nat → Nat → Int) (a m : Nat) : Nat → Nat → Int := mW (mW W 1 m (W 1 m - sLess R W a m)) 2 m (W 2 m + sLess R W a m)
theorem sWear_x (h : Bd N q W) (hW : WOk c W) (hR : RPk c R) (hN : N ≤ 1400) (hq : q ≤ 3000) {a m : Nat} (ha : a < c 5) (hm : m < c 3) : sWear R W a m = xWear R W a m ∧ Bd N (q + 1) (xWear R W a m) := by
  have hl := (sLess_in hR hW ha hm).2
  have b1 : 0 ≤ W 1 m ∧ W 1 m ≤ 100 := h 1 m
  have b2 : 0 ≤ W 2 m ∧ W 2 m ≤ 270000 * (N : Int) + 100 * (q : Int) := h 2 m
  have e1 : nz (W 1 m - sLess R W a m) = W 1 m - sLess R W a m := nz_eq ⟨by omega, by omega⟩
  have e2 : nz (W 2 m + sLess R W a m) = W 2 m + sLess R W a m := nz_eq ⟨by omega, by omega⟩
  unfold sWear xWear
  rw [e1, e2]
  refine ⟨rfl, ?_⟩
  exact ((h.mono (Nat.le_succ q)).w (j := 1) (i := m) (show 0 ≤ _ ∧ _ ≤ 100 by omega)).w (j := 2) (i := m) (show 0 ≤ _ ∧ _ ≤ 270000 * (N : Int) + 100 * ((q + 1 : Nat) : Int) by omega)
theorem xInc_x (h : Bd N q W) (hN : N ≤ 1400) (hq : q ≤ 3000) {j a : Nat} (hj : j = 10 ∨ j = 11) : mW W j a (nz (W j a + 1)) = mW W j a (W j a + 1) ∧ Bd N (q + 1) (mW W j a (W j a + 1)) := by
  have b : 0 ≤ W j a ∧ W j a ≤ 3000 * (N : Int) + (q : Int) := by
    rcases hj with rfl | rfl
    · exact h 10 a
    · exact h 11 a
  rw [nz_eq (x := W j a + 1) ⟨by omega, by omega⟩]
  refine ⟨rfl, (h.mono (Nat.le_succ q)).w ?_⟩
  rcases hj with rfl | rfl
  · show 0 ≤ _ ∧ _ ≤ 3000 * (N : Int) + ((q + 1 : Nat) : Int)
    omega
  · show 0 ≤ _ ∧ _ ≤ 3000 * (N : Int) + ((q + 1 : Nat) : Int)
    omega
/-- an invariant of one traffic's way, with small steps counted -/
theorem go_ind {I : (Nat → Nat → Int) → Prop} (hn : R 0 1 = (c 3 : Int) ∧ R 0 2 = (c 4 : Int)) (hc : c 3 ≤ 45 ∧ c 4 ≤ 5) (hR : RPk c R) (hN : N ≤ 1400) {a : Nat} (ha : a < c 5)
    (hp : ∀ (W : Nat → Nat → Int) (q g : Nat), Bd N q W → WOk c W → g < c 4 → I W → I (xPay W a g)) (hw : ∀ (W : Nat → Nat → Int) (q m : Nat), Bd N q W → WOk c W → m < c 3 → I W → I (xWear R W a m))
    (h : Bd N q W) (hW : WOk c W) (hI : I W) (hq : q + 271 ≤ 3000) :
    ∃ W1, Bd N (q + 270) W1 ∧ WOk c W1 ∧ I W1 ∧ ((sGo R W a = (-1, mW W1 10 a (W1 10 a + 1))) ∨ ∃ m : Int, 0 ≤ m ∧ sGo R W a = (m, mW W1 11 a (W1 11 a + 1))) := by
  have hgates : ∀ (n g q : Nat) (m : Int) (W : Nat → Nat → Int), g + n ≤ c 4 → q + n ≤ 3000 → Bd N q W → WOk c W → I W → Bd N (q + n) (sGates R W a m g n) ∧ WOk c (sGates R W a m g n) ∧ I (sGates R W a m g n) := by
    intro n
    induction n with
    | zero => intro g q m W _ _ h1 h2 h3; exact ⟨h1, h2, h3⟩
    | succ n ih =>
      intro g q m W hg hq h1 h2 h3
      unfold sGates
      split
      · have hx := sPay_x h1 hN (by omega) (a := a) (g := g)
        have hwk := h2.pay (a := a) (g := g)
        rw [hx.1] at hwk ⊢
        have z := ih (g + 1) (q + 1) m _ (by omega) (by omega) hx.2 hwk (hp W q g h1 h2 (by omega) h3)
        rw [show q + (n + 1) = q + 1 + n by omega]
        exact z
      · have z := ih (g + 1) q m W (by omega) (by omega) h1 h2 h3
        exact ⟨z.1.mono (by omega), z.2⟩
  have hng : (R 0 2).toNat = c 4 := by omega
  have htr : ∀ (n q : Nat) (m b : Int) (W : Nat → Nat → Int), (∀ i : Nat, i < n → 0 ≤ m + i * b ∧ m + i * b < R 0 1) → q + 6 * n ≤ 3000 → Bd N q W → WOk c W → I W →
      ∃ W1, Bd N (q + 6 * n) W1 ∧ WOk c W1 ∧ I W1 ∧ ((sTrav R a b n m W = (-1, mW W1 10 a (nz (W1 10 a + 1)))) ∨ ∃ m' : Int, 0 ≤ m' ∧ sTrav R a b n m W = (m', mW W1 11 a (nz (W1 11 a + 1)))) := by
    intro n
    induction n with
    | zero => intro q m b W _ _ h1 h2 h3; exact ⟨W, h1, h2, h3, Or.inl rfl⟩
    | succ n ih =>
      intro q m b W hm hq h1 h2 h3
      have h0 := hm 0 (by omega)
      unfold sTrav
      split
      · exact ⟨W, h1.mono (by omega), h2, h3, Or.inr ⟨m, by omega, rfl⟩⟩
      · rw [hng]
        have zg := hgates (c 4) 0 q m W (by omega) (by omega) h1 h2 h3
        have zw := sWear_x zg.1 zg.2.1 hR hN (by omega) ha (m := m.toNat) (by omega)
        have zi := hw _ (q + c 4) m.toNat zg.1 zg.2.1 (by omega) zg.2.2
        have zk := zg.2.1.wear hR ha (m := m.toNat) (by omega)
        rw [zw.1] at zk ⊢
        obtain ⟨W1, g1, g2, g3, g4⟩ := ih (q + 6) (m + b) b _ (fun i hi => by
          have h1 := hm (i + 1) (by omega)
          rw [show m + b + (i : Int) * b = m + ((i + 1 : Nat) : Int) * b by rw [Int.natCast_add, Int.add_mul]; omega]
          exact h1) (by omega) (zw.2.mono (by omega)) zk zi
        exact ⟨W1, g1.mono (by omega), g2, g3, g4⟩
  have hrp := hR.1 a ha
  have hway := sGo_way (R := R) (a := a) ⟨hrp.1, by omega, hrp.2.2.1, by omega⟩
  have hlen : ((R 10 a - R 9 a) * sBy R a + 1).toNat ≤ 45 := by
    have hb2 : (R 9 a ≤ R 10 a ∧ sBy R a = 1) ∨ (R 10 a < R 9 a ∧ sBy R a = -1) := by
      unfold sBy
      by_cases h : R 9 a ≤ R 10 a
      · rw [if_pos h]; exact Or.inl ⟨h, rfl⟩
      · rw [if_neg h]; exact Or.inr ⟨by omega, rfl⟩
    rcases hb2 with ⟨g, e⟩ | ⟨g, e⟩ <;> rw [e] <;> omega
  obtain ⟨W1, g1, g2, g3, g4⟩ := htr _ q (R 9 a) (sBy R a) W hway (by omega) h hW hI
  have g1' := g1.mono (q' := q + 270) (by omega)
  refine ⟨W1, g1', g2, g3, ?_⟩
  unfold sGo
  rw [(xInc_x g1' hN (by omega) (j := 10) (a := a) (Or.inl rfl)).1, (xInc_x g1' hN (by omega) (j := 11) (a := a) (Or.inr rfl)).1] at g4
  exact g4
end BND
