/-! what a day keeps: an invariant, step by step -/
section AIN
variable {R W : Nat → Nat → Int} {I : (Nat → Nat → Int) → Prop}
theorem sGates_ind {a : Nat} {m : Int} (hp : ∀ (W : Nat → Nat → Int) (g : Nat), (g : Int) < R 0 2 → I W → I (sPay W a g)) : ∀ (n g : Nat) {W : Nat → Nat → Int}, g + n ≤ (R 0 2).toNat → I W → I (sGates R W a m g n)
  | 0, _, _, _, h => h
  | n + 1, g, W, hg, h => by
    unfold sGates
    split
    · exact sGates_ind hp n (g + 1) (by omega) (hp W g (by omega) h)
    · exact sGates_ind hp n (g + 1) (by omega) h
theorem sTrav_ind {a : Nat} {b : Int} (hp : ∀ (W : Nat → Nat → Int) (g : Nat), (g : Int) < R 0 2 → I W → I (sPay W a g)) (hw : ∀ (W : Nat → Nat → Int) (m : Nat), (m : Int) < R 0 1 → I W → I (sWear R W a m))
    (hpa : ∀ W : Nat → Nat → Int, I W → I (mW W 10 a (nz (W 10 a + 1)))) (htu : ∀ W : Nat → Nat → Int, I W → I (mW W 11 a (nz (W 11 a + 1)))) :
    ∀ (n : Nat) (m : Int) {W : Nat → Nat → Int}, (∀ i : Nat, i < n → 0 ≤ m + i * b ∧ m + i * b < R 0 1) → I W → I (sTrav R a b n m W).2
  | 0, _, W, _, h => hpa W h
  | n + 1, m, W, hm, h => by
    have h0 := hm 0 (by omega)
    unfold sTrav
    split
    · exact htu W h
    · refine sTrav_ind hp hw hpa htu n (m + b) (fun i hi => ?_) (hw _ _ (by omega) (sGates_ind hp _ _ (by omega) h))
      have h1 := hm (i + 1) (by omega)
      rw [show m + b + (i : Int) * b = m + ((i + 1 : Nat) : Int) * b by rw [Int.natCast_add, Int.add_mul]; omega]
      exact h1
/-- the miles of a way lie on the road -/
theorem sGo_way {a : Nat} (hr : 0 ≤ R 9 a ∧ R 9 a < R 0 1 ∧ 0 ≤ R 10 a ∧ R 10 a < R 0 1) : ∀ i : Nat, i < ((R 10 a - R 9 a) * sBy R a + 1).toNat → 0 ≤ R 9 a + i * sBy R a ∧ R 9 a + i * sBy R a < R 0 1 := by
  intro i hi
  have hb2 : (R 9 a ≤ R 10 a ∧ sBy R a = 1) ∨ (R 10 a < R 9 a ∧ sBy R a = -1) := by
    unfold sBy
    by_cases h : R 9 a ≤ R 10 a
    · rw [if_pos h]; exact Or.inl ⟨h, rfl⟩
    · rw [if_neg h]; exact Or.inr ⟨by omega, rfl⟩
  rcases hb2 with ⟨g, e⟩ | ⟨g, e⟩ <;> rw [e] at hi ⊢ <;> omega
theorem sGo_ind {a : Nat} (hr : 0 ≤ R 9 a ∧ R 9 a < R 0 1 ∧ 0 ≤ R 10 a ∧ R 10 a < R 0 1) (hp : ∀ (W : Nat → Nat → Int) (g : Nat), (g : Int) < R 0 2 → I W → I (sPay W a g)) (hw : ∀ (W : Nat → Nat → Int) (m : Nat), (m : Int) < R 0 1 → I W → I (sWear R W a m))
    (hpa : ∀ W : Nat → Nat → Int, I W → I (mW W 10 a (nz (W 10 a + 1)))) (htu : ∀ W : Nat → Nat → Int, I W → I (mW W 11 a (nz (W 11 a + 1)))) (h : I W) : I (sGo R W a).2 :=
  sTrav_ind hp hw hpa htu _ _ (sGo_way hr) h
theorem sFarm_ind {lg lr : Int} (hf : ∀ (W : Nat → Nat → Int) (g : Nat), (g : Int) < R 0 2 → I W → I (mW (mW W 7 g (if (g : Int) = lg then lr else sRent R W g 0 (R 12 0).toNat)) 8 g 0)) : ∀ (n g : Nat) {W : Nat → Nat → Int}, g + n ≤ (R 0 2).toNat → I W → I (sFarm R lg lr g n W)
  | 0, _, _, _, h => h
  | n + 1, g, W, hg, h => by
    unfold sFarm
    exact sFarm_ind hf n (g + 1) (by omega) (hf W g (by omega) h)
theorem sTraf_ind (ht : ∀ (W : Nat → Nat → Int) (a : Nat), (a : Int) < R 0 3 → I W → I (sGo R W a).2) : ∀ (n a : Nat) {W : Nat → Nat → Int}, a + n ≤ (R 0 3).toNat → I W → I (sTraf R a n W)
  | 0, _, _, _, h => h
  | n + 1, a, W, ha, h => by
    unfold sTraf
    split
    · exact sTraf_ind ht n (a + 1) (by omega) (ht W a (by omega) h)
    · exact sTraf_ind ht n (a + 1) (by omega) h
theorem sRents_ind (hr : ∀ (W : Nat → Nat → Int) (g : Nat), (g : Int) < R 0 2 → W 7 g ≠ -1 → I W → I (mW (mW W 0 3 (nz (W 0 3 + W 7 g))) 6 g (nz (W 6 g + (W 8 g - W 7 g))))) : ∀ (n g : Nat) {W : Nat → Nat → Int}, g + n ≤ (R 0 2).toNat → I W → I (sRents g n W)
  | 0, _, _, _, h => h
  | n + 1, g, W, hg, h => by
    unfold sRents
    split
    · exact sRents_ind hr n (g + 1) (by omega) h
    · rename_i h7
      exact sRents_ind hr n (g + 1) (by omega) (hr W g (by omega) h7 h)
theorem sSpend_ind {s : Nat} (hs : ∀ (W : Nat → Nat → Int) (m : Nat), (m : Int) < R 0 1 → W 1 m < 100 → I W → I (mW W 1 m (nz (min 100 (W 1 m + 4))))) (h1 : 0 ≤ R 2 s) (h2 : 1 ≤ R 1 s) (h3 : R 2 s + R 1 s ≤ R 0 1) : ∀ (n : Nat) {W : Nat → Nat → Int}, I W → I (sSpend R s n W).2
  | 0, _, h => h
  | n + 1, W, h => by
    have hwi := sWst_in (f := W 1) (a := (R 2 s).toNat) (R 1 s).toNat
    unfold sSpend
    dsimp only
    split
    · exact h
    · rename_i hl
      exact sSpend_ind hs h1 h2 h3 n (hs W _ (by omega) (by omega) h)
theorem sMends_ind (hm : ∀ (W : Nat → Nat → Int) (i : Nat) (x : Int), (i : Int) < R 12 0 → R 13 i = 15 → x ≤ W 0 3 → I W → I (sMend R W (R 15 i).toNat x).2) : ∀ (n i : Nat) {W : Nat → Nat → Int}, i + n ≤ (R 12 0).toNat → I W → I (sMends R i n W)
  | 0, _, _, _, h => h
  | n + 1, i, W, hi, h => by
    unfold sMends
    split
    · rename_i hc
      exact sMends_ind hm n (i + 1) (by omega) (hm W i _ (by omega) hc.1 (Int.min_le_right _ _) h)
    · exact sMends_ind hm n (i + 1) (by omega) h
theorem sDay_ind {I2 : (Nat → Nat → Int) → Prop} (hf : ∀ (W' : Nat → Nat → Int) (g : Nat), (g : Int) < R 0 2 → I W' → I (mW (mW W' 7 g (if (g : Int) = W 0 16 then W 0 17 else sRent R W' g 0 (R 12 0).toNat)) 8 g 0))
    (ht : ∀ (W : Nat → Nat → Int) (a : Nat), (a : Int) < R 0 3 → I W → I (sGo R W a).2)
    (hr : ∀ (W : Nat → Nat → Int) (g : Nat), (g : Int) < R 0 2 → W 7 g ≠ -1 → I W → I (mW (mW W 0 3 (nz (W 0 3 + W 7 g))) 6 g (nz (W 6 g + (W 8 g - W 7 g)))))
    (hm : ∀ (W : Nat → Nat → Int) (i : Nat) (x : Int), (i : Int) < R 12 0 → R 13 i = 15 → x ≤ W 0 3 → I W → I (sMend R W (R 15 i).toNat x).2)
    (hd : ∀ W : Nat → Nat → Int, I W → I2 (sCap (mW W 0 2 (nz (W 0 2 + 1))))) (h : I W) : I2 (sDay R W) :=
  hd _ (sMends_ind hm _ 0 (by omega) (sRents_ind hr _ 0 (by omega) (sTraf_ind ht _ 0 (by omega) (sFarm_ind hf _ 0 (by omega) h))))
/-- of a trust's own numbers, day and coins alone are others -/
def W0k (W W' : Nat → Nat → Int) : Prop := ∀ k, k ≠ 2 → k ≠ 3 → W' 0 k = W 0 k
theorem W0k.w {W' : Nat → Nat → Int} (h : W0k W W') {j k : Nat} {x : Int} (hj : j ≠ 0 ∨ k = 2 ∨ k = 3) : W0k W (mW W' j k x) := fun i h2 h3 => by
  rw [mW_get, if_neg (by omega)]
  exact h i h2 h3
theorem W0k.pay {W' : Nat → Nat → Int} (h : W0k W W') {a g : Nat} : W0k W (sPay W' a g) := by
  unfold sPay
  dsimp only
  split
  · exact ((h.w (by omega)).w (by omega)).w (by omega)
  · exact ((h.w (by omega)).w (by omega)).w (by omega)
theorem W0k.wear {W' : Nat → Nat → Int} (h : W0k W W') {a m : Nat} : W0k W (sWear R W' a m) := by
  unfold sWear
  exact (h.w (by omega)).w (by omega)
theorem W0k.gates {a : Nat} {m : Int} : ∀ (n g : Nat) {W' : Nat → Nat → Int}, W0k W W' → W0k W (sGates R W' a m g n)
  | 0, _, _, h => h
  | n + 1, g, W', h => by
    unfold sGates
    split
    · exact W0k.gates n (g + 1) h.pay
    · exact W0k.gates n (g + 1) h
theorem W0k.trav {a : Nat} {b : Int} : ∀ (n : Nat) (m : Int) {W' : Nat → Nat → Int}, W0k W W' → W0k W (sTrav R a b n m W').2
  | 0, _, _, h => h.w (by omega)
  | n + 1, m, W', h => by
    unfold sTrav
    split
    · exact h.w (by omega)
    · exact W0k.trav n (m + b) (W0k.wear (W0k.gates _ _ h))
theorem W0k.spend {s : Nat} : ∀ (n : Nat) {W' : Nat → Nat → Int}, W0k W W' → W0k W (sSpend R s n W').2
  | 0, _, h => h
  | n + 1, W', h => by
    unfold sSpend
    dsimp only
    split
    · exact h
    · exact W0k.spend n (h.w (by omega))
theorem W0k.mend {W' : Nat → Nat → Int} (h : W0k W W') {s : Nat} {x : Int} : W0k W (sMend R W' s x).2 := by
  unfold sMend
  dsimp only
  exact ((W0k.spend _ h).w (by omega)).w (by omega)
theorem W0k.cap {W' : Nat → Nat → Int} (h : W0k W W') : W0k W (sCap W') := by
  unfold sCap
  split
  · exact h.w (by omega)
  · exact h
theorem W0k.day : W0k W (sDay R W) :=
  sDay_ind (I := W0k W) (fun W' g _ h => (h.w (by omega)).w (by omega)) (fun W' a _ h => W0k.trav _ _ h) (fun W' g _ _ h => (h.w (by omega)).w (by omega)) (fun W' i x _ _ _ h => h.mend) (fun W' h => (h.w (by omega)).cap) (fun _ _ _ => rfl)
theorem sDay_16 : sDay R W 0 16 = W 0 16 := W0k.day 16 (by omega) (by omega)
theorem sDays_16 : ∀ (n : Nat) {W : Nat → Nat → Int}, sDays R n W 0 16 = W 0 16
  | 0, _ => rfl
  | n + 1, _ => (sDays_16 n).trans sDay_16
end AIN
