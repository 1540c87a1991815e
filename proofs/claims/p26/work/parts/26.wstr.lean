/-! strings and arrays of before, out of the words of the start -/
section WSTR
variable {args : Array Value} {s : State} {D : va_G}
abbrev wA (s : State) : Nat → Prop := fun q => s.heap.size ≤ q
theorem wA_n : ∀ a : Nat, a < s.heap.size → ¬ wA s a := fun a h g => Nat.not_le.mpr h g
theorem wNo (hK : va_K D vwCl [] s) {a : Nat} {c : Cell} {ty : FieldType} (h1 : s.heap[a]? = some c) (hc : c.cls = D.1 0) : ¬ wAr s ty s.heap a := by
  rintro ⟨c', e1, ⟨-, k, hk, comp, hkind⟩, -⟩
  cases h1.symm.trans e1
  obtain ⟨-, -, kC, hkC, hord⟩ := hK.1 0 _ rfl
  rw [hc] at hk
  cases hkC.symm.trans hk
  rw [hord] at hkind
  cases hkind
theorem wStO (hK : va_K D vwCl [] s) {a v : Nat} (hO : va_O "java/lang/String" a (wA s) s s.heap) (hc : va_OF "java/lang/String" "coder" "B" (.int 0) a (wA s) s s.heap) (hv : va_OF "java/lang/String" "value" "[B" (.ref v) a (wA s) s s.heap) :
    wKd D s s.heap a = 1000 ∧ wRf (wSl s.heap a (D.2 0 0)) = some v ∧ wI D s s.heap a 1 = 0 := by
  obtain ⟨c, o1, o2, o3, -⟩ := hO
  obtain ⟨cf, k, i, f, c1, f1, f2, f3, f4, f5, -⟩ := hc
  obtain ⟨cg, kg, ig, g, c2, g1, g2, g3, g4, g5, -⟩ := hv
  cases o1.symm.trans f3
  cases o1.symm.trans g3
  obtain ⟨hS, hcl, -⟩ := hK.1 0 _ rfl
  have ecl : c.cls = D.1 0 := Option.some.inj (o3.symm.trans hcl)
  obtain ⟨_, _, _, fd, hf, hs⟩ := hS 1 (by decide)
  obtain ⟨_, _, _, gd, hg, gs⟩ := hS 0 (by decide)
  have hf' : s.fieldFound? "java/lang/String" "coder" "B" = _ := hf
  have hg' : s.fieldFound? "java/lang/String" "value" "[B" = _ := hg
  cases f1.symm.trans hf'
  cases g1.symm.trans hg'
  rw [hs] at f5
  rw [gs] at g5
  have es : ∀ j, wSl s.heap a j = c.slots[j]? := fun j => by unfold wSl; rw [o1]
  have hst : wSt D s.heap a := ⟨c, o1, ecl, f4, o2, by rw [g5]; rfl, by rw [f5]; rfl⟩
  have hk : wKd D s s.heap a = 1000 := by
    unfold wKd
    rw [if_neg (wNo hK o1 ecl), if_neg (wNo hK o1 ecl), if_pos hst]
  refine ⟨hk, by rw [es, g5]; rfl, ?_⟩
  unfold wI
  rw [if_pos hk, es, f5]
  rfl
theorem wTab {ty : FieldType} {t N : Nat} {f : Nat → Int32} (hN : N < 2147483648) (hty : ty = .int ∨ ty = .byte) (h : va_T ty t N (fun j => .int (f j)) (wA s) s s.heap) : t < s.heap.size ∧ wKd D s s.heap t = (if ty = .int then 1100 else 1101) ∧ wN s.heap t = N ∧ ∀ j, j < N → wI D s s.heap t j = f j := by
  obtain ⟨c, h1, h2, h3, -, h5, h6, -⟩ := h
  exact ⟨(Array.getElem?_eq_some_iff.mp h1).1, wArr h1 h2 h3 hN h5 h6 hty⟩
/-- the words of a string -/
def wWs (t : Term) (byt : List Int32) : List Cond := [.exactly t "java/lang/String", .eq (.field t "java/lang/String" "coder" "B") (.int 0), .arrayOf (.field t "java/lang/String" "value" "[B") .byte, .eq (.length (.field t "java/lang/String" "value" "[B")) (.int (Int32.ofNat byt.length))] ++ (List.range byt.length).map (fun j => .eq (.elem (.field t "java/lang/String" "value" "[B") (.int (Int32.ofNat j))) (.int (byt.getD j 0)))
/-- what a string of the start is -/
def wIsS (D : va_G) (s : State) (a : Nat) (byt : List Int32) : Prop := a < s.heap.size ∧ wKd D s s.heap a = 1000 ∧ wI D s s.heap a 1 = 0 ∧ ∃ v : Nat, v < s.heap.size ∧ wRf (wSl s.heap a (D.2 0 0)) = some v ∧ wKd D s s.heap v = 1101 ∧ wN s.heap v = byt.length ∧ ∀ j, j < byt.length → wI D s s.heap v j = byt.getD j 0
theorem wStr (hK : va_K D vwCl [] s) {t : Term} {byt : List Int32} (hl : byt.length < 2147483648) (h : ∀ w ∈ wWs t byt, w.before args s = true) : ∃ a : Nat, t.eval args s none [] s = some (.ref a) ∧ wIsS D s a byt := by
  have hex : (Cond.exactly t "java/lang/String").before args s = true := h _ (by unfold wWs; simp)
  have hco : (Cond.eq (.field t "java/lang/String" "coder" "B") (.int 0)).before args s = true := h _ (by unfold wWs; simp)
  have har : (Cond.arrayOf (.field t "java/lang/String" "value" "[B") .byte).before args s = true := h _ (by unfold wWs; simp)
  have hle : (Cond.eq (.length (.field t "java/lang/String" "value" "[B")) (.int (Int32.ofNat byt.length))).before args s = true := h _ (by unfold wWs; simp)
  have hel : ∀ j, j < byt.length → (Cond.eq (.elem (.field t "java/lang/String" "value" "[B") (.int (Int32.ofNat j))) (.int (byt.getD j 0))).before args s = true := fun j hj => h _ (by unfold wWs; exact List.mem_append_right _ (List.mem_map.mpr ⟨j, List.mem_range.mpr hj, rfl⟩))
  obtain ⟨a, c, cA, kA, q1, q2, q3, q4, q5, q6, -⟩ := Cond.exactly_spec (args := args) (first := s) (o := none) (s := s) (idx := []) (t := t) (cls := "java/lang/String") hex
  obtain ⟨v, hv, hT⟩ := va_Tof (f := fun j => .int (byt.getD j 0)) (A := wA s) hl har (va_eqt hle) (fun j hj => va_eqt (hel j hj)) wA_n
  obtain ⟨k1, k2, k3⟩ := wStO hK (a := a) (v := v) ⟨cA, q3, q5, by rw [q6]; exact q2, wA_n a (Array.getElem?_eq_some_iff.mp q3).1⟩ (vk_OFof q1 (va_eqt hco) wA_n) (vk_OFof q1 hv wA_n)
  obtain ⟨t1, t2, t3, t4⟩ := wTab (D := D) hl (Or.inr rfl) hT
  exact ⟨a, q1, (Array.getElem?_eq_some_iff.mp q3).1, k1, k3, v, t1, k2, t2, t3, t4⟩
/-- the words of a static array -/
def wWt (t : Term) (ty : FieldType) (xs : List Int32) : List Cond := [.arrayOf t ty, .eq (.length t) (.int (Int32.ofNat xs.length))] ++ (List.range xs.length).map (fun j => .eq (.elem t (.int (Int32.ofNat j))) (.int (xs.getD j 0)))
def wIsT (D : va_G) (s : State) (k : Nat) (a : Nat) (xs : List Int32) : Prop := a < s.heap.size ∧ wKd D s s.heap a = k ∧ wN s.heap a = xs.length ∧ ∀ j, j < xs.length → wI D s s.heap a j = xs.getD j 0
theorem wArt {t : Term} {ty : FieldType} {xs : List Int32} (hty : ty = .int ∨ ty = .byte) (hl : xs.length < 2147483648) (h : ∀ w ∈ wWt t ty xs, w.before args s = true) : ∃ a : Nat, t.eval args s none [] s = some (.ref a) ∧ wIsT D s (if ty = .int then 1100 else 1101) a xs := by
  have har : (Cond.arrayOf t ty).before args s = true := h _ (by unfold wWt; simp)
  have hle : (Cond.eq (.length t) (.int (Int32.ofNat xs.length))).before args s = true := h _ (by unfold wWt; simp)
  have hel : ∀ j, j < xs.length → (Cond.eq (.elem t (.int (Int32.ofNat j))) (.int (xs.getD j 0))).before args s = true := fun j hj => h _ (by unfold wWt; exact List.mem_append_right _ (List.mem_map.mpr ⟨j, List.mem_range.mpr hj, rfl⟩))
  obtain ⟨v, hv, hT⟩ := va_Tof (f := fun j => .int (xs.getD j 0)) (A := wA s) hl har (va_eqt hle) (fun j hj => va_eqt (hel j hj)) wA_n
  exact ⟨v, hv, wTab (D := D) hl hty hT⟩
/-- the script -/
theorem wScr {b L : Nat} {xs : Nat → Int32} (hL : L ≤ 260) (h : va_X b L xs s s.heap) : wKd D s s.heap b = 1100 ∧ wN s.heap b = L ∧ ∀ j, j < L → wI D s s.heap b j = xs j := by
  obtain ⟨c, h1, h2, h3, h4, h5⟩ := h
  exact wArr h1 h2 h3 (by omega) (by rw [h4]) h5 (Or.inl rfl)
end WSTR
