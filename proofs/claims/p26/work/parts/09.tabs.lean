/-! the steps that make cells, read and write arrays, read constants and statics -/
section
theorem aU_lt {α : Type} (f : Nat → α) {a b : Nat} (x : α) (h : b < a) : aU f a x b = f b := aU_ne f x (Nat.ne_of_lt h)
theorem aMR.new {D : va_G} {nb : Nat} {U : State} {S : aS} {I : aI} {H H' : Heap} {k n m : Nat} {g : Nat → Int32} (h : aMR D nb U S I H) (hz : H'.size = aX S + 1) (ho : ∀ q, q < H.size → H'[q]? = H[q]?) (ha : aCe D U (aNew S k n m) (aU I (aX S) g) (aX S) H') : aMR D nb U (aNew S k n m) (aU I (aX S) g) H' := by
  refine h.push (S' := aNew S k n m) (by rw [hz]; rfl) (Nat.le_succ _) ho (fun b hb => aU_lt _ _ hb) (fun b hb => aU_lt _ _ hb) (fun b hb => aU_lt _ _ hb) (fun b hb => aU_lt _ _ hb) (fun b hb => ?_) (fun b hb _ => Nat.le_trans h.2.2.1 hb)
  by_cases e : b = aX S
  · rw [e]; exact ha
  · refine aCe.none ?_
    have h9 := h.beyond hb
    unfold aKd at h9 ⊢
    rw [show aK (aNew S k n m) b = aK S b from aU_ne _ _ e]
    exact h9
theorem aNew_K {S : aS} {k n m : Nat} : aK (aNew S k n m) (aX S) = k := aU_self _ _ _
theorem aNew_N {S : aS} {k n m : Nat} : aN (aNew S k n m) (aX S) = n := aU_self _ _ _
theorem aNew_P {S : aS} {k n m : Nat} : aP (aNew S k n m) (aX S) = fun _ => none := aU_self _ _ _
theorem aCe.arr {D : va_G} {U : State} {S : aS} {I : aI} {a : Nat} {H : Heap} {cA : ClassId} (hk : aK S a = 100) (h1 : ArrOfT U cA .int) (h2 : va_RA U cA .int) (h3 : H[a]? = some (arrV cA (aN S a) (fun j => .int (I a j)))) : aCe D U S I a H := ⟨fun q => by omega, fun _ => ⟨cA, h1, h2, h3⟩, fun q => by omega, fun q => by omega, fun q => by omega⟩
theorem aCe.byt {D : va_G} {U : State} {S : aS} {I : aI} {a : Nat} {H : Heap} {cA : ClassId} (hk : aK S a = 101) (h1 : ArrOfT U cA .byte) (h2 : va_RA U cA .byte) (h3 : H[a]? = some (arrV cA (aN S a) (fun j => .int (I a j)))) : aCe D U S I a H := ⟨fun q => by omega, fun q => by omega, fun _ => ⟨cA, h1, h2, h3⟩, fun q => by omega, fun q => by omega⟩
theorem aCe.row {D : va_G} {U : State} {S : aS} {I : aI} {a : Nat} {H : Heap} {cA : ClassId} (hk : aK S a = 102) (h1 : ArrOfT U cA (.array .int)) (h2 : va_RA U cA (.array .int)) (h3 : H[a]? = some (arrV cA (aN S a) (fun j => va_rf (aP S a j)))) : aCe D U S I a H := ⟨fun q => by omega, fun q => by omega, fun q => by omega, fun _ => ⟨cA, h1, h2, h3⟩, fun q => by omega⟩
theorem aW_int : Cond.arrayClass .int ∈ aT := aT_of (i := 99) (by decide +kernel) (by decide +kernel)
theorem aW_byte : Cond.arrayClass .byte ∈ aT := aT_of (i := 98) (by decide +kernel) (by decide +kernel)
def aAnwB (e : Nat × Nat × Nat) : Bool := decide (aTb[e.2.2]? = some (.classLink (aR e.1) e.2.1 "[I")) && goodWord (.classLink (aR e.1) e.2.1 "[I")
theorem aAnwOk : aAnwT.all aAnwB = true := by decide +kernel
def aMulB (e : Nat × Nat × Nat) : Bool := decide (aTb[e.2.2]? = some (.classLink (aR e.1) e.2.1 "[[I")) && goodWord (.classLink (aR e.1) e.2.1 "[[I")
theorem aMulOk : aMulT.all aMulB = true := by decide +kernel
def aAcpB (e : Nat × Nat × Nat) : Bool := decide (aTb[e.2.2]? = some (.methodLink (aR e.1) e.2.1 arraycopyName)) && goodWord (.methodLink (aR e.1) e.2.1 arraycopyName)
theorem aAcpOk : aAcpT.all aAcpB = true := by decide +kernel
theorem aHas_s {T : List (Nat × Nat × Nat)} {o x : Nat} (h : aHas T o x = true) : ∃ e ∈ T, e.1 = o ∧ e.2.1 = x := by
  unfold aHas at h
  obtain ⟨e, h1, h2⟩ := List.any_eq_true.mp h
  simp only [Bool.and_eq_true, beq_iff_eq] at h2
  exact ⟨e, h1, h2⟩
def aNwoB (e : Nat × Nat × Nat × Nat × List Nat) : Bool := match vwCl[e.2.2.1]? with
  | some q => (q.2.2 == e.2.2.2.1) && (match e.2.2.2.2 with
    | [p0, p1, p2] => decide (aTb[p0]? = some (.classLink (aR e.1) e.2.1 q.1)) && decide (aTb[p1]? = some (.instantiable q.1 q.2.2)) && decide (aTb[p2]? = some (.initialized q.1)) && goodWord (.classLink (aR e.1) e.2.1 q.1) && goodWord (.instantiable q.1 q.2.2) && goodWord (.initialized q.1)
    | _ => false)
  | none => false
theorem aNwoOk : aNewT.all aNwoB = true := by decide +kernel
theorem aDfOk : vwCl.zipIdx.all (fun q => (List.range q.1.2.2).all (fun k => decide (defaultValue (aTy q.2 k) = if aRf q.2 k = true then va_rf none else .int 0))) = true := by decide +kernel
theorem aNwo_s {o x : Nat} {e : Nat × Nat × Nat × Nat × List Nat} (h : aNwo o x = some e) : ∃ q : vw_C, vwCl[e.2.2.1]? = some q ∧ q.2.2 = e.2.2.2.1 ∧ Cond.classLink (aR o) x q.1 ∈ aT ∧ Cond.instantiable q.1 q.2.2 ∈ aT ∧ Cond.initialized q.1 ∈ aT := by
  unfold aNwo at h
  have hm := List.mem_of_find?_eq_some h
  have hp := List.find?_some h
  simp only [Bool.and_eq_true, beq_iff_eq] at hp
  have hb := List.all_eq_true.mp aNwoOk e hm
  unfold aNwoB at hb
  split at hb
  · rename_i q hq
    rw [Bool.and_eq_true] at hb
    obtain ⟨h1, h2⟩ := hb
    split at h2
    · simp only [Bool.and_eq_true, decide_eq_true_eq, beq_iff_eq] at h1 h2
      obtain ⟨⟨⟨⟨⟨g1, g2⟩, g3⟩, g4⟩, g5⟩, g6⟩ := h2
      rw [hp.1, hp.2] at g1 g4
      exact ⟨q, hq, h1, aT_of g1 g4, aT_of g2 g5, aT_of g3 g6⟩
    · cases h2
  · cases hb
theorem aDf {c k : Nat} {q : vw_C} (h : vwCl[c]? = some q) (hk : k < q.2.2) : defaultValue (aTy c k) = if aRf c k = true then va_rf none else .int 0 := by
  have hm : (q, c) ∈ vwCl.zipIdx := List.mem_zipIdx_iff_getElem?.mpr h
  have h1 := List.all_eq_true.mp (List.all_eq_true.mp aDfOk _ hm) k (List.mem_range.mpr hk)
  exact of_decide_eq_true h1
theorem aIntOk : aIntT.all (fun e => decide (aTb[e.2.2.2]? = some (.constant (aR e.1) e.2.1 e.2.2.1)) && goodWord (.constant (aR e.1) e.2.1 e.2.2.1)) = true := by decide +kernel
theorem aLngOk : aLngT.all (fun e => decide (aTb[e.2.2.2]? = some (.constantLong (aR e.1) e.2.1 e.2.2.1)) && goodWord (.constantLong (aR e.1) e.2.1 e.2.2.1)) = true := by decide +kernel
theorem aInt_s {o x : Nat} {e : Nat × Nat × Int32 × Nat} (h : aInt o x = some e) : Cond.constant (aR o) x e.2.2.1 ∈ aT := by
  unfold aInt at h
  have hp := List.find?_some h
  simp only [Bool.and_eq_true, beq_iff_eq] at hp
  have hb := List.all_eq_true.mp aIntOk e (List.mem_of_find?_eq_some h)
  simp only [Bool.and_eq_true, decide_eq_true_eq] at hb
  rw [hp.1, hp.2] at hb
  exact aT_of hb.1 hb.2
theorem aLng_s {o x : Nat} {e : Nat × Nat × Int64 × Nat} (h : aLng o x = some e) : Cond.constantLong (aR o) x e.2.2.1 ∈ aT := by
  unfold aLng at h
  have hp := List.find?_some h
  simp only [Bool.and_eq_true, beq_iff_eq] at hp
  have hb := List.all_eq_true.mp aLngOk e (List.mem_of_find?_eq_some h)
  simp only [Bool.and_eq_true, decide_eq_true_eq] at hb
  rw [hp.1, hp.2] at hb
  exact aT_of hb.1 hb.2
/-- the static that is read: its word, or that of a nest mate -/
def aGetB (e : Nat × Nat × Nat × Bool × String × Nat) : Bool := match aStaT[e.2.2.1]? with
  | some t => if e.2.2.2.1 = true then decide (aTb[e.2.2.2.2.2]? = some (.fieldLinkNest (aR e.1) e.2.1 t.1 t.2.1 t.2.2.1 e.2.2.2.2.1)) && decide (e.2.2.2.2.2 < lw_tbl.length)
    else decide (aTb[e.2.2.2.2.2]? = some (.fieldLink (aR e.1) e.2.1 t.1 t.2.1 t.2.2.1)) && goodWord (.fieldLink (aR e.1) e.2.1 t.1 t.2.1 t.2.2.1)
  | none => false
theorem aGetOk : aGetT.all aGetB = true := by decide +kernel
theorem aGet_s {o x : Nat} {e : Nat × Nat × Nat × Bool × String × Nat} (h : aGet o x = some e) : e ∈ aGetT ∧ ∃ t, aStaT[e.2.2.1]? = some t ∧ (Cond.fieldLinkNest (aR o) x t.1 t.2.1 t.2.2.1 e.2.2.2.2.1 ∈ lw_tbl ∨ Cond.fieldLink (aR o) x t.1 t.2.1 t.2.2.1 ∈ aT) := by
  unfold aGet at h
  have hp := List.find?_some h
  simp only [Bool.and_eq_true, beq_iff_eq] at hp
  have hm := List.mem_of_find?_eq_some h
  have hb := List.all_eq_true.mp aGetOk e hm
  unfold aGetB at hb
  split at hb
  · rename_i t ht
    refine ⟨hm, t, ht, ?_⟩
    split at hb
    · simp only [Bool.and_eq_true, decide_eq_true_eq] at hb
      rw [hp.1, hp.2] at hb
      refine Or.inl (List.mem_of_getElem? (i := e.2.2.2.2.2) ?_)
      have h2 := hb.1
      unfold aTb at h2
      rw [List.getElem?_append_left hb.2] at h2
      exact h2
    · simp only [Bool.and_eq_true, decide_eq_true_eq] at hb
      rw [hp.1, hp.2] at hb
      exact Or.inr (aT_of hb.1 hb.2)
  · cases hb
theorem aStr_s {o x : Nat} {e : Nat × Nat × Nat × Nat} (h : aStr o x = some e) : e ∈ aStrT ∧ e.1 = o ∧ e.2.1 = x := by
  unfold aStr at h
  have hp := List.find?_some h
  simp only [Bool.and_eq_true, beq_iff_eq] at hp
  exact ⟨List.mem_of_find?_eq_some h, hp⟩
end
