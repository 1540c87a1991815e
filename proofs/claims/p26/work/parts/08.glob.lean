/-! what the tables tell, and what memory holds, in a state whose tables are alike -/
section
theorem aGl.moved {D : va_G} {E : Nat → Value} {nb : Nat} {s U : State} (h : aGl D E nb s s.heap) (hW : s.WarmedH U.vm) (hq : ∀ a : Nat, a < s.heap.size → ¬ nb ≤ a → U.heap[a]? = s.heap[a]?) : aGl D E nb U U.heap := by
  obtain ⟨h1, h2, h3, h4, h5, h6, h7, h8⟩ := h
  have hal := hW.alike
  refine ⟨h1.moved hal, fun w hw hk => ?_, fun g hg t ht => ((h3 g hg t ht).kept hq).moved hal, fun g hg => ?_, h5.moved hal, fun w hw hk => ?_, (h7.kept hq).moved hal, (h8.kept hq).moved hal⟩
  · have hz := h2 w hw hk
    rcases hk with ⟨a, i, b, n, d, x, rfl⟩ | ⟨a, i, x, y, rfl⟩
    · exact va_Nw.warmF hW hz
    · exact va_Nw.warmM hW hz
  · obtain ⟨a, e1, e2⟩ := h4 g hg
    exact ⟨a, e1, vk_R.warm hW e2⟩
  · have hz := h6 w hw hk
    rcases hk with ⟨x, rfl⟩ | ⟨a, b, rfl⟩
    · exact va_Nw.warmD hW hz
    · exact va_Nw.warmC hW hz
theorem aAr.moved {u U : State} {ty : FieldType} {a n : Nat} {f : Nat → Value} {H : Heap} (hal : u.vm.Alike U.vm) (h : aAr u ty a n f H) : aAr U ty a n f H := by
  obtain ⟨cA, h1, h2, h3⟩ := h
  exact ⟨cA, arrOfT_moved hal h1, h2.moved hal, h3⟩
theorem aAo.moved {u U : State} {ty : FieldType} {a n : Nat} {f : Nat → Value} {H : Heap} (hal : u.vm.Alike U.vm) (h : aAo u ty a n f H) : aAo U ty a n f H := by
  obtain ⟨cell, h1, h2, h3⟩ := h
  exact ⟨cell, h1, State.isArrayOf_alike hal h2, h3⟩
theorem aMR.moved {D : va_G} {nb : Nat} {u U : State} {S : aS} {I : aI} {H : Heap} (hal : u.vm.Alike U.vm) (h : aMR D nb u S I H) : aMR D nb U S I H := by
  obtain ⟨h1, h2, h3⟩ := h
  refine ⟨h1, fun a => ?_, h3⟩
  obtain ⟨e1, e2, e3, e4, e5⟩ := h2 a
  refine ⟨e1, fun q => (e2 q).moved hal, fun q => (e3 q).moved hal, fun q => (e4 q).moved hal, fun q => ?_⟩
  rcases e5 q with g | ⟨g1, g2⟩ | ⟨g1, g2⟩ | g
  · exact Or.inl g
  · exact Or.inr (Or.inl ⟨g1, g2.moved hal⟩)
  · exact Or.inr (Or.inr (Or.inl ⟨g1, g2.moved hal⟩))
  · exact Or.inr (Or.inr (Or.inr g))
/-- a new cell behind all others -/
theorem aMR.push {D : va_G} {nb : Nat} {U : State} {S S' : aS} {I I' : aI} {H H' : Heap} (h : aMR D nb U S I H) (hz : H'.size = aX S') (hle : aX S ≤ aX S') (ho : ∀ q, q < H.size → H'[q]? = H[q]?) (hK : ∀ b, b < aX S → aK S' b = aK S b) (hN : ∀ b, b < aX S → aN S' b = aN S b) (hP : ∀ b, b < aX S → aP S' b = aP S b) (hI : ∀ b, b < aX S → I' b = I b)
    (ha : ∀ b, aX S ≤ b → aCe D U S' I' b H') (hn : ∀ b, aX S ≤ b → aK S' b < 999 → nb ≤ b) : aMR D nb U S' I' H' := by
  refine ⟨hz, fun b => ?_, Nat.le_trans h.2.2.1 hle, fun b hb => ?_⟩
  · by_cases e : b < aX S
    · exact (h.2.1 b).kept (ho b (by rw [h.1]; exact e)) (hK b e) (hN b e) (hP b e) (hI b e)
    · exact ha b (by omega)
  · by_cases e : b < aX S
    · rw [hK b e] at hb
      exact h.2.2.2 b hb
    · exact hn b (by omega) hb
theorem aCe.none {D : va_G} {U : State} {S : aS} {I : aI} {a : Nat} {H : Heap} (h : 102 < aKd S a) : aCe D U S I a H := by
  unfold aKd at h
  exact ⟨fun q => by omega, fun q => by omega, fun q => by omega, fun q => by omega, fun _ => Or.inr (Or.inr (Or.inr (by unfold aKd; exact h)))⟩
/-- cells that aren't there -/
theorem aMR.beyond {D : va_G} {nb : Nat} {U : State} {S : aS} {I : aI} {H : Heap} (h : aMR D nb U S I H) {b : Nat} (hb : aX S ≤ b) : 102 < aKd S b := by
  obtain ⟨h1, h2, -⟩ := h
  have hno : H[b]? = none := Array.getElem?_eq_none (by rw [h1]; exact hb)
  refine Nat.lt_of_not_le fun q => ?_
  rcases Nat.lt_or_ge (aKd S b) 100 with q0 | q0
  · obtain ⟨r, cell, -, hc, -⟩ := (h2 b).ob q0
    rw [hno] at hc; cases hc
  · rcases (show aKd S b = 100 ∨ aKd S b = 101 ∨ aKd S b = 102 by omega) with q1 | q1 | q1
    · obtain ⟨cell, hc, -⟩ := (h2 b).rdI q1; rw [hno] at hc; cases hc
    · obtain ⟨cell, hc, -⟩ := (h2 b).rdB q1; rw [hno] at hc; cases hc
    · obtain ⟨cA, -, -, hc⟩ := (h2 b).rdR q1; rw [hno] at hc; cases hc
theorem aS_new {nb : Nat} {H0 H H' : Heap} {locs : List Loc} (h : va_S (fun q => nb ≤ q) H0 H locs) (hz : H.size ≤ H'.size) (ho : ∀ q, q < H.size → H'[q]? = H[q]?) : va_S (fun q => nb ≤ q) H0 H' locs :=
  ⟨Nat.le_trans h.1 hz, fun q h1 h2 => (ho q (Nat.lt_of_lt_of_le h1 h.1)).trans (h.2.1 q h1 h2), h.2.2⟩
end
