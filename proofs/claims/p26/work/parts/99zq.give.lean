/-! the law's world at the start -/
section ZQ
variable {args : Array Value} {s : State} {D : va_G}
noncomputable def wM (D : va_G) (s : State) : Nat → Nat → Int := fun a j => (wI D s s.heap a j).toInt
theorem wM_I : mI (wM D s) = wI D s s.heap := by
  funext a j
  show Int32.ofInt ((wI D s s.heap a j).toInt) = _
  exact Int32.ofInt_toInt _
theorem wJ1 : Value.int 1 = J 1 := by decide +kernel
theorem wM_R : RM (wM D s) := fun a k => by
  have h1 := Int32.le_toInt (wI D s s.heap a k)
  have h2 := Int32.toInt_lt (wI D s s.heap a k)
  show -2147483648 ≤ (wI D s s.heap a k).toInt ∧ (wI D s s.heap a k).toInt ≤ 2147483647
  omega
theorem wStS {a : Nat} {byt : List Int32} {cs : List Int} (h : wIsS D s a byt) (hc : byt.map Int32.toInt = cs) (hB : ∀ x, x ∈ cs → Bt x) : a < s.heap.size ∧ ∃ w : Nat, w < s.heap.size ∧ Str (wS D s s.heap) (wM D s) a w cs := by
  obtain ⟨h1, h2, h3, v, h4, h5, h6, h7, h8⟩ := h
  refine ⟨h1, v, h4, ?_, ?_, h5, ?_, ?_, fun i x hx => ?_, hB, h1, h4⟩
  · show wKd D s s.heap a % 1000 = 0
    rw [h2]
  · show (wI D s s.heap a 1).toInt = 0
    rw [h3]
    rfl
  · show wKd D s s.heap v % 1000 = 101
    rw [h6]
  · show wN s.heap v = cs.length
    rw [h7, ← hc, List.length_map]
  · rw [← hc, List.getElem?_map] at hx
    cases hy : byt[i]? with
    | none => rw [hy] at hx; cases hx
    | some y =>
      rw [hy] at hx
      have e : y.toInt = x := Option.some.inj hx
      show (wI D s s.heap v i).toInt = x
      rw [h8 i (List.getElem?_eq_some_iff.mp hy).1, List.getD_eq_getElem?_getD, hy]
      exact e
def wTxI (n : Nat) : List Int := (wTx.getD (n - 100) []).map Int32.toInt
theorem wBts {cs : List Int} (h : cs.all (fun x => decide (-128 ≤ x) && decide (x ≤ 127)) = true) : ∀ x, x ∈ cs → Bt x := fun x hx => by
  have h1 := List.all_eq_true.mp h x hx
  simp only [Bool.and_eq_true, decide_eq_true_eq] at h1
  exact h1
/-- a string of the start by its number -/
theorem wStN (hK : va_K D vwCl [] s) (hg : ∀ w ∈ wG, w.before args s = true) {n : Nat} {cs : List Int} (hn : aStrT.any (fun g => g.2.2.1 == n) = true) (hc : wTxI n = cs) (hB : cs.all (fun x => decide (-128 ≤ x) && decide (x ≤ 127)) = true) : ∃ b w : Nat, wE args s n = .ref b ∧ b < s.heap.size ∧ w < s.heap.size ∧ Str (wS D s s.heap) (wM D s) b w cs := by
  obtain ⟨g, hg1, hg2⟩ := List.any_eq_true.mp hn
  rw [beq_iff_eq] at hg2
  obtain ⟨a, h1, -, h2⟩ := wStrs (args := args) hK hg hg1
  rw [hg2] at h1 h2
  obtain ⟨h3, w, h4, h5⟩ := wStS h2 hc (wBts hB)
  exact ⟨a, w, h1, h3, h4, h5⟩
theorem wLbOk : (List.range 47).all (fun i => aStrT.any (fun g => g.2.2.1 == i + 113) && decide (wTxI (i + 113) = lb (i + 113)) && (lb (i + 113)).all (fun x => decide (-128 ≤ x) && decide (x ≤ 127))) = true := by decide +kernel
theorem wSyOk : (aStrT.any (fun g => g.2.2.1 == 111) && decide (wTxI 111 = syms) && syms.all (fun x => decide (-128 ≤ x) && decide (x ≤ 127))) = true := by decide +kernel
theorem wKwOk : (aStrT.any (fun g => g.2.2.1 == 112) && decide (wTxI 112 = jn kws) && (jn kws).all (fun x => decide (-128 ≤ x) && decide (x ≤ 127)) && decide ((jn kws).length ≤ 1000)) = true := by decide +kernel
/-- a static array of the start by its number -/
theorem wTbN (D : va_G) (hg : ∀ w ∈ wG, w.before args s = true) {i k p : Nat} {ty : FieldType} {xs : List Int32} (he : wArL[i]? = some (k, ty, xs, p)) : ∃ b : Nat, wE args s k = .ref b ∧ b < s.heap.size ∧ aKd (wS D s s.heap) b = (if ty = .int then 100 else 101) ∧ aN (wS D s s.heap) b = xs.length ∧ ∀ j, j < xs.length → wM D s b j = (xs.getD j 0).toInt := by
  obtain ⟨a, h1, h2, h3, h4, h5⟩ := wArs (args := args) (D := D) hg (List.mem_of_getElem? he)
  refine ⟨a, h1, h2, ?_, h4, fun j hj => ?_⟩
  · show wKd D s s.heap a % 1000 = _
    rw [h3]
    dsimp only
    split <;> rfl
  · show (wI D s s.heap a j).toInt = _
    rw [h5 j hj]
theorem wLnk (D : va_G) (hg : ∀ w ∈ wG, w.before args s = true) {i k p : Nat} {xs : List Int32} {ks : List Nat} (he : wArL[i]? = some (k, .int, xs, p)) (hks : xs.map Int32.toInt = ks.map (fun x : Nat => (x : Int))) : LnK (wE args s) (wS D s s.heap) (wM D s) s.heap.size k ks := by
  obtain ⟨b, h1, h2, h3, h4, h5⟩ := wTbN D hg he
  have hl : xs.length = ks.length := by
    have e := congrArg List.length hks
    rwa [List.length_map, List.length_map] at e
  refine ⟨b, h1, h2, h3, h4.trans hl, fun j x hj => ?_⟩
  have hj2 : j < xs.length := by rw [hl]; exact (List.getElem?_eq_some_iff.mp hj).1
  rw [h5 j hj2]
  have e : (xs.map Int32.toInt)[j]? = (ks.map (fun x : Nat => (x : Int)))[j]? := by rw [hks]
  rw [List.getElem?_map, List.getElem?_map, hj, List.getElem?_eq_getElem hj2] at e
  rw [List.getD_eq_getElem?_getD, List.getElem?_eq_getElem hj2]
  exact Option.some.inj e
theorem wLnA (D : va_G) (hg : ∀ w ∈ wG, w.before args s = true) : LnA (wE args s) (wS D s s.heap) (wM D s) s.heap.size :=
  ⟨wLnk D hg (i := 0) (k := 7) rfl (by decide +kernel), wLnk D hg (i := 1) (k := 8) rfl (by decide +kernel), wLnk D hg (i := 2) (k := 9) rfl (by decide +kernel), wLnk D hg (i := 3) (k := 10) rfl (by decide +kernel), wLnk D hg (i := 4) (k := 11) rfl (by decide +kernel), wLnk D hg (i := 5) (k := 12) rfl (by decide +kernel)⟩
def wXs (i : Nat) : List Int32 := ((wArL[i]?).map (fun e => e.2.2.1)).getD []
theorem wXs_ok : (decide ((wArL[6]?).map (fun e => (e.1, e.2.1)) = some (13, .int)) && decide ((wArL[7]?).map (fun e => (e.1, e.2.1)) = some (14, .byte)) && decide ((wArL[8]?).map (fun e => (e.1, e.2.1)) = some (15, .byte)) && decide ((wXs 6).length = 30) && decide ((wXs 7).length = 100) && decide ((wXs 8).length = 100)) = true := by decide +kernel
theorem wTbX (D : va_G) (hg : ∀ w ∈ wG, w.before args s = true) {i k : Nat} {ty : FieldType} (he : (wArL[i]?).map (fun e => (e.1, e.2.1)) = some (k, ty)) : ∃ b : Nat, wE args s k = .ref b ∧ b < s.heap.size ∧ aKd (wS D s s.heap) b = (if ty = .int then 100 else 101) ∧ aN (wS D s s.heap) b = (wXs i).length ∧ ∀ j, j < (wXs i).length → wM D s b j = ((wXs i).getD j 0).toInt := by
  cases h : wArL[i]? with
  | none => rw [h] at he; cases he
  | some e =>
    obtain ⟨k', ty', xs, p⟩ := e
    rw [h] at he
    cases he
    have ex : wXs i = xs := by unfold wXs; rw [h]; rfl
    rw [ex]
    exact wTbN D hg h
theorem wRgOk : (List.range 10).all (fun j => match rgs[j]? with
  | some t => decide (((wXs 6).getD (3 * j) 0).toInt = (t.1 : Int)) && decide (((wXs 6).getD (3 * j + 1) 0).toInt = (t.2.1 : Int)) && decide (((wXs 6).getD (3 * j + 2) 0).toInt = (t.2.2 : Int))
  | none => false) = true := by decide +kernel
theorem wRgL : rgs.length = 10 := by decide
theorem wRgs (D : va_G) (hg : ∀ w ∈ wG, w.before args s = true) : Rgs (wE args s) (wS D s s.heap) (wM D s) s.heap.size := by
  have ok := wXs_ok
  simp only [Bool.and_eq_true, decide_eq_true_eq] at ok
  obtain ⟨b, h1, h2, h3, h4, h5⟩ := wTbX D hg ok.1.1.1.1.1
  have l6 := ok.1.1.2
  rw [l6] at h4 h5
  refine ⟨b, h1, h2, h3, h4, fun j t ht => ?_⟩
  have hj : j < 10 := by rw [← wRgL]; exact (List.getElem?_eq_some_iff.mp ht).1
  have h6 := List.all_eq_true.mp wRgOk j (List.mem_range.mpr hj)
  rw [ht] at h6
  simp only [Bool.and_eq_true, decide_eq_true_eq] at h6
  exact ⟨(h5 _ (by omega)).trans h6.1.1, (h5 _ (by omega)).trans h6.1.2, (h5 _ (by omega)).trans h6.2⟩
theorem wDtOk : (List.range 100).all (fun r => decide (((wXs 7).getD r 0).toInt = ((48 + r % 10 : Nat) : Int)) && decide (((wXs 8).getD r 0).toInt = ((48 + r / 10 : Nat) : Int))) = true := by decide +kernel
theorem wDt (D : va_G) (hg : ∀ w ∈ wG, w.before args s = true) : ∃ bo bt : Nat, Dt (wE args s) (wS D s s.heap) (wM D s) bo bt ∧ bo < s.heap.size ∧ bt < s.heap.size := by
  have ok := wXs_ok
  simp only [Bool.and_eq_true, decide_eq_true_eq] at ok
  obtain ⟨b, h1, h2, h3, h4, h5⟩ := wTbX D hg ok.1.1.1.1.2
  obtain ⟨c, g1, g2, g3, g4, g5⟩ := wTbX D hg ok.1.1.1.2
  have l7 := ok.1.2
  have l8 := ok.2
  rw [l7] at h4 h5
  rw [l8] at g4 g5
  refine ⟨b, c, ⟨h1, g1, h3, g3, h4, g4, fun r hr => ?_, h2, g2⟩, h2, g2⟩
  have h6 := List.all_eq_true.mp wDtOk r (List.mem_range.mpr hr)
  simp only [Bool.and_eq_true, decide_eq_true_eq] at h6
  exact ⟨(h5 r hr).trans h6.1, (g5 r hr).trans h6.2⟩
theorem wWl (hK : va_K D vwCl [] s) (hg : ∀ w ∈ wG, w.before args s = true) (hts : ∀ w ∈ lw_tbl, w.before args s = true) : ∃ bo bt : Nat, Wl (wE args s) (wS D s s.heap) (wM D s) s.heap.size bo bt := by
  obtain ⟨bo, bt, h1⟩ := wDt D hg
  refine ⟨bo, bt, (wE2 hg hts).1.trans wJ1, h1, fun n n1 n2 => ?_⟩
  obtain ⟨i, rfl⟩ : ∃ i, n = i + 113 := ⟨n - 113, by omega⟩
  have h2 := List.all_eq_true.mp wLbOk i (List.mem_range.mpr (by omega))
  simp only [Bool.and_eq_true, decide_eq_true_eq] at h2
  exact wStN hK hg h2.1.1 h2.1.2 h2.2
theorem wBf (hK : va_K D vwCl [] s) (hg : ∀ w ∈ wG, w.before args s = true) (hts : ∀ w ∈ lw_tbl, w.before args s = true) : ∃ bs ws bk wk b3 : Nat, Bf (wE args s) (wS D s s.heap) (wM D s) s.heap.size bs ws bk wk b3 := by
  have oy := wSyOk
  have ok := wKwOk
  simp only [Bool.and_eq_true, decide_eq_true_eq] at ok oy
  obtain ⟨bs, ws, y1, y2, y3, y4⟩ := wStN hK hg oy.1.1 oy.1.2 oy.2
  obtain ⟨bk, wk, k1, k2, k3, k4⟩ := wStN hK hg ok.1.1.1 ok.1.1.2 ok.1.2
  obtain ⟨e2, e3⟩ := wE2 hg hts
  rw [wJ1] at e2
  obtain ⟨b3, h3⟩ : ∃ b3 : Nat, wE args s 3 = rf3 b3 := by
    rcases e3 with h | ⟨a, h⟩
    · exact ⟨0, h⟩
    · exact ⟨a + 1, h⟩
  exact ⟨bs, ws, bk, wk, b3, ⟨⟨e2, y1, y4⟩, ⟨e2, h3, k1, k4, ok.2⟩⟩, ⟨y2, y3, k2, k3⟩, wLnA D hg, wRgs D hg⟩
set_option maxHeartbeats 4000000 in
theorem wLaw {b L : Nat} {xs : Nat → Int32} (hK : va_K D vwCl [] s) (hg : ∀ w ∈ wG, w.before args s = true) (hts : ∀ w ∈ lw_tbl, w.before args s = true) (hL : L ≤ 260) (hX : va_X b L xs s s.heap) (hb : b < s.heap.size) :
    X (wE args s) 100 fLaw 0 (aArgs [Value.ref b] 36) [] (wS D s s.heap) (wI D s s.heap) (fun o S' _ => o = some (some (.int 1)) ∧ aX S' ≤ s.heap.size + 5000 ∧ aZ S' ≤ 6000000) := by
  obtain ⟨bo, bt, hW⟩ := wWl (args := args) hK hg hts
  obtain ⟨bs, ws, bk, wk, b3, hB⟩ := wBf (args := args) hK hg hts
  obtain ⟨s1, s2, -⟩ := wScr (D := D) hL hX
  have eX : aX (wS D s s.heap) = s.heap.size := rfl
  have eZ : aZ (wS D s s.heap) = 0 := rfl
  have hk : aKd (wS D s s.heap) b = 100 := by
    show wKd D s s.heap b % 1000 = 100
    rw [s1]
  have hn : aN (wS D s s.heap) b = L := s2
  rw [← wM_I]
  exact law_all (sa := b) (n := L) hW hB wM_R (Nat.le_refl _) hb hk hn (by omega) (Nat.le_refl _) (fun S' I' x z => ⟨by rw [wJ1], by omega, by omega⟩)
end ZQ
