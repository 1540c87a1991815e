/-! what deeds keep; journeys; until -/
section ACT
variable {c : Nat → Nat} {R W O : Nat → Nat → Int} {N q : Nat}
/-- what holds of the trust between days -/
abbrev Gd (c : Nat → Nat) (N : Nat) (W : Nat → Nat → Int) : Prop := BD c N W ∧ WOk c W ∧ W 0 16 = -1 ∧ sSum (W 12) (c 5) = sSum (W 5) (c 4)
theorem Bq.monoN {N' j i : Nat} {x : Int} (hN : N ≤ N') (h : Bq N q j i x) : Bq N' q j i x := by
  unfold Bq at h ⊢
  split at h
  · exact ⟨fun e => by have := h.1 e; omega, h.2⟩
  all_goals first | exact h | omega | trivial
theorem BD.mono {N' : Nat} (hN : N ≤ N') (h : BD c N W) : BD c N' W := ⟨fun j i hj => (h.1 j i hj).monoN hN, h.2⟩
theorem Gd.mono {N' : Nat} (hN : N ≤ N') (h : Gd c N W) : Gd c N' W := ⟨h.1.mono hN, h.2⟩
theorem BD.wr (h : BD c N W) {j i : Nat} {x : Int} (hj : j ≠ 8) (hx : Bq N 0 j i x) : BD c N (mW W j i x) := by
  refine ⟨fun j' i' h' => ?_, fun i' => ?_, fun i' hi => ?_⟩
  · rw [mW_get]
    split
    · rename_i e
      rw [e.1, e.2]; exact hx
    · exact h.1 j' i' h'
  · rw [mW_ne (Ne.symm hj)]; exact h.2.1 i'
  · rw [mW_ne (Ne.symm hj)]; exact h.2.2 i' hi
theorem Gd.day (hn : Cn c R) (hK : RdK c R O) (hN : N ≤ 1300) (h : Gd c N W) : Gd c (N + 1) (sDay R W) ∧ DayX c R W (sDay R W) := by
  have z := day_x hn hK hN h.2.2.1 h.1 h.2.1 h.2.2.2
  exact ⟨⟨z.2.1, z.2.2.1, by rw [sDay_16]; exact h.2.2.1, z.2.2.2⟩, z.1⟩
theorem Gd.days (hn : Cn c R) (hK : RdK c R O) : ∀ (n : Nat) {N : Nat} {W : Nat → Nat → Int}, N + n ≤ 1301 → Gd c N W → Gd c (N + n) (sDays R n W)
  | 0, _, _, _, h => h
  | n + 1, N, W, hN, h => by
    have z := Gd.days hn hK n (N := N + 1) (W := sDay R W) (by omega) (h.day hn hK (by omega)).1
    rw [show N + (n + 1) = N + 1 + n by omega]
    exact z
theorem Gd.act (hn : Cn c R) (hK : RdK c R O) {W' : Nat → Nat → Int} (hN : N ≤ 1270) (h : Gd c N W) (ha : Act R W W') : Gd c (N + 30) W' := by
  obtain ⟨hB, hW, h16, h12⟩ := h
  rcases ha with ⟨g, x, h1, h2, h3, rfl⟩ | ⟨a, x, h1, h2, h3, rfl⟩ | ⟨st, x, h1, h2, h3, h4, rfl⟩ | rfl | ⟨x, h1, h2, rfl⟩ | ⟨n, h1, h2, rfl⟩
  · refine Gd.mono (N := N) (by omega) ⟨hB.wr (by decide) (show 0 ≤ x ∧ x ≤ 60 from ⟨h2, h3⟩), hW.w (by decide) ⟨by omega, by omega⟩, by rw [mW_ne (by decide)]; exact h16, ?_⟩
    rw [sSum_ne (by decide), sSum_ne (by decide)]; exact h12
  · refine Gd.mono (N := N) (by omega) ⟨hB.wr (by decide) (show 0 ≤ x ∧ x ≤ 16 by omega), ⟨R32.w hW.1 ⟨by omega, by omega⟩, ?_, ?_, ?_⟩, by rw [mW_ne (by decide)]; exact h16, ?_⟩
    · rw [mW_ne (by decide)]; exact hW.2.1
    · rw [mW_ne (by decide)]; exact hW.2.2.1
    · intro b hb
      rw [mW_row]
      split
      · exact h2
      · exact hW.2.2.2 b hb
    · rw [sSum_ne (by decide), sSum_ne (by decide)]; exact h12
  · have hst : st < c 2 := by have := hn.1.1; omega
    have hr := hK.2.2.2.2 st hst
    have b3 : 0 ≤ W 0 3 ∧ W 0 3 ≤ 99999 + 120 * ((0 : Nat) : Int) := (hB.1 0 3 (by decide)).2 rfl
    have b1 : ∀ i, 0 ≤ W 1 i ∧ W 1 i ≤ 100 := fun i => hB.1 1 i (by decide)
    have b33 : ∀ i, 0 ≤ W 3 i ∧ W 3 i ≤ 100000 * (N : Int) := fun i => hB.1 3 i (by decide)
    have z := mend_x (W3 := W) (W := W) (N := N) (i := 0) (x := x) hst hn.2.2.1 ⟨hr.1, hr.2.1, hr.2.2.1⟩ (by omega) (by omega) (by omega) (fun i => (b1 i).1) ⟨fun _ _ _ _ => rfl, rfl, fun i => ⟨Int.le_refl _, (b1 i).2⟩, rfl, ⟨b3.1, Int.le_refl _⟩, by omega, by omega⟩ (fun s => by have := b33 s; omega) h4
    have hwm := hW.mend hK.2.2.2.2 hst (x := x)
    obtain ⟨⟨r1, r2, r3, r4, r5, r6⟩, r7, r8⟩ := z
    have w16 : (sMend R W st x).2 0 16 = W 0 16 := W0k.mend (W := W) (W' := W) (fun _ _ _ => rfl) 16 (by decide) (by decide)
    have hk0 : W0k W (sMend R W st x).2 := W0k.mend (W := W) (W' := W) (fun _ _ _ => rfl)
    generalize (sMend R W st x).2 = W2 at *
    refine Gd.mono (N := N + 1) (by omega) ⟨⟨fun j i hj => ?_, fun i => ?_, fun i hi => ?_⟩, hwm, w16.trans h16, ?_⟩
    · by_cases e0 : j = 0
      · subst e0
        refine ⟨fun e => ?_, fun e => ?_⟩
        · rw [e, r2]
          have := (hB.1 0 2 (by decide)).1 rfl
          omega
        · rw [e]
          omega
      · by_cases e1 : j = 1
        · subst e1
          have a := b1 i
          have b := r3 i
          show 0 ≤ W2 1 i ∧ W2 1 i ≤ 100
          omega
        · by_cases e3 : j = 3
          · subst e3
            have a := r7 i
            show 0 ≤ W2 3 i ∧ W2 3 i ≤ 100000 * ((N + 1 : Nat) : Int)
            omega
          · rw [r1 j e0 e1 e3]
            exact (hB.1 j i hj).monoN (by omega)
    · rw [r1 8 (by decide) (by decide) (by decide)]; exact hB.2.1 i
    · rw [r1 8 (by decide) (by decide) (by decide)]; exact hB.2.2 i hi
    · rw [r1 12 (by decide) (by decide) (by decide), r1 5 (by decide) (by decide) (by decide)]; exact h12
  · exact Gd.mono (N := N) (by omega) ⟨hB, hW, h16, h12⟩
  · have b3 : 0 ≤ W 0 3 ∧ W 0 3 ≤ 99999 + 120 * ((0 : Nat) : Int) := (hB.1 0 3 (by decide)).2 rfl
    have e : nz (W 0 3 + x) = W 0 3 + x := nz_eq ⟨by omega, by omega⟩
    rw [e]
    have hwc := (hW.w (j := 0) (k := 3) (x := W 0 3 + x) (by decide) ⟨by omega, by omega⟩).cap
    unfold sCap at hwc ⊢
    rw [mW_self] at hwc ⊢
    split
    · rename_i hc
      rw [if_pos hc] at hwc
      rw [mW_mW] at hwc ⊢
      refine Gd.mono (N := N) (by omega) ⟨hB.wr (by decide) ⟨fun e => absurd e (by decide), fun _ => by omega⟩, hwc, by rw [mW_at (by decide)]; exact h16, ?_⟩
      rw [sSum_ne (by decide), sSum_ne (by decide)]; exact h12
    · rename_i hc
      rw [if_neg hc] at hwc
      refine Gd.mono (N := N) (by omega) ⟨hB.wr (by decide) ⟨fun e => absurd e (by decide), fun _ => by omega⟩, hwc, by rw [mW_at (by decide)]; exact h16, ?_⟩
      rw [sSum_ne (by decide), sSum_ne (by decide)]; exact h12
  · exact Gd.mono (N := N + n) (by omega) (Gd.days hn hK n (by omega) ⟨hB, hW, h16, h12⟩)
/-- a journey pays and wears what it may -/
theorem jour_x (hn : Cn c R) (hK : RdK c R O) (hN : N ≤ 1400) (h : Gd c N W) {a : Nat} (ha : a < c 5) :
    (0 ≤ (sGo R W a).2 12 a - W 12 a ∧ (sGo R W a).2 12 a - W 12 a ≤ 1000000000) ∧ (0 ≤ sSum (W 1) (c 3) - sSum ((sGo R W a).2 1) (c 3) ∧ sSum (W 1) (c 3) - sSum ((sGo R W a).2 1) (c 3) ≤ sSum (W 1) (c 3) ∧ sSum (W 1) (c 3) ≤ 4500) := by
  have hB : Bd N 2250 W := fun j i => by
    by_cases e : j = 8
    · subst e
      have := h.1.2.1 i
      show 0 ≤ W 8 i ∧ W 8 i ≤ 120 * ((2250 : Nat) : Int)
      omega
    · exact (h.1.1 j i e).mono (by omega)
  obtain ⟨W1, g1, g2, g3, g4⟩ := go_ind (I := fun W' => W 12 a ≤ W' 12 a ∧ (∀ i, W' 1 i ≤ W 1 i)) ⟨hn.1.2.1, hn.1.2.2.1⟩ ⟨hn.2.2.1, hn.2.2.2.1⟩ hK.2.2.2.1 hN ha
    (fun W' q' g hb _ hg hI => by
      have ht := sToll_in hb (a := a) (g := g)
      have e12 : xPay W' a g 12 a = W' 12 a + sToll W' a g := by
        unfold xPay
        split <;> rw [mW_ne (by decide), mW_ne (by decide), mW_self]
      have e1 : xPay W' a g 1 = W' 1 := by
        unfold xPay
        split <;> rw [mW_ne (by decide), mW_ne (by decide), mW_ne (by decide)]
      exact ⟨by rw [e12]; omega, by rw [e1]; exact hI.2⟩)
    (fun W' q' m _ hW' hm hI => by
      have hl := (sLess_in hK.2.2.2.1 hW' ha hm).2
      unfold xWear
      refine ⟨by rw [mW_ne (by decide), mW_ne (by decide)]; exact hI.1, fun i => ?_⟩
      rw [mW_ne (by decide), mW_row]
      have := hI.2 i
      split
      · rename_i e
        subst e
        omega
      · exact this)
    hB h.2.1 ⟨Int.le_refl _, fun _ => Int.le_refl _⟩ (by omega)
  have e : (sGo R W a).2 12 = W1 12 ∧ (sGo R W a).2 1 = W1 1 := by
    rcases g4 with e | ⟨m, _, e⟩
    · rw [e]; dsimp only; exact ⟨mW_ne (by decide), mW_ne (by decide)⟩
    · rw [e]; dsimp only; exact ⟨mW_ne (by decide), mW_ne (by decide)⟩
  rw [e.1, e.2]
  have b12 : 0 ≤ W1 12 a ∧ W1 12 a ≤ 270000 * (N : Int) + 120 * ((2250 + 270 : Nat) : Int) := g1 12 a
  have c12 : 0 ≤ W 12 a ∧ W 12 a ≤ 270000 * (N : Int) + 120 * ((0 : Nat) : Int) := h.1.1 12 a (by decide)
  have s1 := sSum_in (f := W1 1) (b := 100) (c 3) (fun i _ => g1 1 i)
  have s2 := sSum_in (f := W 1) (b := 100) (c 3) (fun i _ => h.1.1 1 i (by decide))
  have s3 : sSum (W1 1) (c 3) ≤ sSum (W 1) (c 3) := by
    have : ∀ n, sSum (W1 1) n ≤ sSum (W 1) n := fun n => by
      induction n with
      | zero => exact Int.le_refl _
      | succ n ih =>
        have := g3.2 n
        unfold sSum
        omega
    exact this _
  have hc3 := hn.2.2.1
  omega
/-- the first broken mile on a way -/
def fWay (W : Nat → Nat → Int) (b : Int) : Nat → Int → Int
  | 0, _ => -1
  | n + 1, m => if W 1 m.toNat = 0 then m else fWay W b n (m + b)
theorem sGates_1 {a : Nat} {m : Int} : ∀ (n g : Nat) (W : Nat → Nat → Int), sGates R W a m g n 1 = W 1
  | 0, _, _ => rfl
  | n + 1, g, W => by
    unfold sGates
    rw [sGates_1 n (g + 1)]
    split
    · unfold sPay
      (try dsimp only)
      split <;> rw [mW_ne (by decide), mW_ne (by decide), mW_ne (by decide)]
    · rfl
theorem sTrav_way {a : Nat} {b : Int} (hb : b = 1 ∨ b = -1) : ∀ (n : Nat) (m : Int) {W W' : Nat → Nat → Int}, (∀ i : Nat, i < n → 0 ≤ m + i * b) → (∀ i : Nat, i < n → W' 1 (m + i * b).toNat = W 1 (m + i * b).toNat) → (sTrav R a b n m W').1 = fWay W b n m
  | 0, _, _, _, _, _ => rfl
  | n + 1, m, W, W', h0, h => by
    have e := h 0 (by omega)
    rw [show m + ((0 : Nat) : Int) * b = m by omega] at e
    have p0 := h0 0 (by omega)
    unfold sTrav fWay
    rw [e]
    split
    · rfl
    · refine sTrav_way hb n (m + b) (fun i hi => ?_) (fun i hi => ?_)
      · have z := h0 (i + 1) (by omega)
        rw [show m + b + (i : Int) * b = m + ((i + 1 : Nat) : Int) * b by rw [Int.natCast_add, Int.add_mul]; omega]
        exact z
      · have z := h (i + 1) (by omega)
        have z0 := h0 (i + 1) (by omega)
        rw [show m + b + (i : Int) * b = m + ((i + 1 : Nat) : Int) * b by rw [Int.natCast_add, Int.add_mul]; omega]
        unfold sWear
        rw [mW_ne (by decide), mW_at ?_, sGates_1]
        · exact z
        · intro y
          have y2 : (m + ((i + 1 : Nat) : Int) * b) = m := by omega
          rcases hb with hb | hb <;> subst hb <;> omega
theorem sGo_way1 (hK : RdK c R O) {a : Nat} (ha : a < c 5) (hn : Cn c R) : (sGo R W a).1 = fWay W (sBy R a) ((R 10 a - R 9 a) * sBy R a + 1).toNat (R 9 a) := by
  have hrp := hK.2.2.2.1.1 a ha
  have hw := sGo_way (R := R) (a := a) ⟨hrp.1, by have := hn.1.2.1; omega, hrp.2.2.1, by have := hn.1.2.1; omega⟩
  unfold sGo
  refine sTrav_way ?_ _ _ (fun i hi => (hw i hi).1) (fun _ _ => rfl)
  unfold sBy
  split
  · exact Or.inl rfl
  · exact Or.inr rfl
theorem cUnt_in {m : Nat} : ∀ (n : Nat) (i : Int) (W : Nat → Nat → Int), 0 ≤ i → i + n = 200 → cUnt R m n i W = -1 ∨ (i ≤ cUnt R m n i W ∧ cUnt R m n i W ≤ 200)
  | 0, i, W, h, h2 => by
    unfold cUnt
    split
    · exact Or.inr ⟨by omega, by omega⟩
    · exact Or.inl rfl
  | n + 1, i, W, h, h2 => by
    unfold cUnt
    split
    · exact Or.inr ⟨by omega, by omega⟩
    · rcases cUnt_in n (i + 1) (sDay R W) (by omega) (by omega) with z | z
      · exact Or.inl z
      · exact Or.inr ⟨by omega, z.2⟩
theorem cUnt_next {m : Nat} : ∀ (n : Nat) (i : Int) (W : Nat → Nat → Int), 0 ≤ i → i + 1 + n = 200 → 0 < cUnt R m n (i + 1) W → cUnt R m (n + 1) i W = cUnt R m n (i + 1) W - 1
  | 0, i, W, h, h2, h3 => by
    unfold cUnt at h3
    by_cases e : W 1 m = 0
    · show (if W 1 m = 0 then i else cUnt R m 0 (i + 1) (sDay R W)) = (if W 1 m = 0 then 200 else -1) - 1
      rw [if_pos e, if_pos e]
      omega
    · rw [if_neg e] at h3
      omega
  | n + 1, i, W, h, h2, h3 => by
    have e1 : cUnt R m (n + 1) (i + 1) W = if W 1 m = 0 then i + 1 else cUnt R m n (i + 1 + 1) (sDay R W) := rfl
    have e2 : cUnt R m (n + 1 + 1) i W = if W 1 m = 0 then i else cUnt R m (n + 1) (i + 1) (sDay R W) := rfl
    rw [e1] at h3 ⊢
    rw [e2]
    by_cases e : W 1 m = 0
    · rw [if_pos e, if_pos e]; omega
    · rw [if_neg e] at h3
      rw [if_neg e, if_neg e]
      exact cUnt_next n (i + 1) (sDay R W) (by omega) (by omega) h3
end ACT
