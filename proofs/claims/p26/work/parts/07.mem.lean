/-! the tables' rows are words of aTb; a step that reads or writes memory -/
theorem aT_of {w : Jvm.Cond} {i : Nat} (h : aTb[i]? = some w) (hg : goodWord w = true) : w ∈ aT := List.mem_filter.mpr ⟨List.mem_of_getElem? h, hg⟩
def aFldB (e : Nat × Nat × Nat × Nat × Bool × Bool × Nat) : Bool := match vwCl[e.2.2.1]? with
  | some q => decide (e.2.2.2.1 < q.2.2) && decide (aTb[e.2.2.2.2.2.2]? = some (.fieldLink (aR e.1) e.2.1 (q.2.1 e.2.2.2.1).1 (q.2.1 e.2.2.2.1).2.1 (q.2.1 e.2.2.2.1).2.2.1)) && goodWord (.fieldLink (aR e.1) e.2.1 (q.2.1 e.2.2.2.1).1 (q.2.1 e.2.2.2.1).2.1 (q.2.1 e.2.2.2.1).2.2.1) && (e.2.2.2.2.1 == aRf e.2.2.1 e.2.2.2.1) && (e.2.2.2.2.2.1 == (q.2.1 e.2.2.2.1).2.2.2) && (!(e.2.2.2.2.2.1 && (e.1 == e.2.2.1)) || decide ((q.2.1 e.2.2.2.1).1 = aR e.1))
  | none => false
theorem aFldOk : aFldT.all aFldB = true := by decide +kernel
theorem aWsOk : vwCl.all (fun q => (u_ws q.1 q.2.1 q.2.2).all (fun w => decide (w ∈ aTb) && goodWord w)) = true := by decide +kernel
theorem aTyOk : vwCl.all (fun q => (List.range q.2.2).all (fun k => (parseFieldDescriptor (q.2.1 k).2.2.1).isSome)) = true := by decide +kernel
theorem aNmOk : vwCl.all (fun q => (List.range q.2.2).all (fun a => (List.range q.2.2).all (fun b => a == b || (q.2.1 a).2.1 != (q.2.1 b).2.1))) = true := by decide +kernel
theorem aCls {c : Nat} {q : vw_C} (h : vwCl[c]? = some q) : c < 11 ∧ (∀ w ∈ u_ws q.1 q.2.1 q.2.2, w ∈ aT) ∧ (∀ k, k < q.2.2 → parseFieldDescriptor (q.2.1 k).2.2.1 = some (aTy c k)) ∧ ∀ a, a < q.2.2 → ∀ b, b < q.2.2 → a ≠ b → (q.2.1 a).2.1 ≠ (q.2.1 b).2.1 := by
  have hm := List.mem_of_getElem? h
  refine ⟨(List.getElem?_eq_some_iff.mp h).1, fun w hw => ?_, fun k hk => ?_, fun a ha b hb hab => ?_⟩
  · have h1 := List.all_eq_true.mp (List.all_eq_true.mp aWsOk q hm) w hw
    simp only [Bool.and_eq_true, decide_eq_true_eq] at h1
    exact List.mem_filter.mpr h1
  · have h1 := List.all_eq_true.mp (List.all_eq_true.mp aTyOk q hm) k (List.mem_range.mpr hk)
    unfold aTy
    rw [h]
    dsimp only
    obtain ⟨t, ht⟩ := Option.isSome_iff_exists.mp h1
    rw [ht]
    rfl
  · have h1 := List.all_eq_true.mp (List.all_eq_true.mp (List.all_eq_true.mp aNmOk q hm) a (List.mem_range.mpr ha)) b (List.mem_range.mpr hb)
    simp only [Bool.or_eq_true, beq_iff_eq, bne_iff_ne, ne_eq] at h1
    exact h1.resolve_left hab
theorem aFld_s {o x : Nat} {e : Nat × Nat × Nat × Nat × Bool × Bool × Nat} (h : aFld o x = some e) : ∃ q : vw_C, vwCl[e.2.2.1]? = some q ∧ e.2.2.2.1 < q.2.2 ∧ Cond.fieldLink (aR o) x (q.2.1 e.2.2.2.1).1 (q.2.1 e.2.2.2.1).2.1 (q.2.1 e.2.2.2.1).2.2.1 ∈ aT ∧ e.2.2.2.2.1 = aRf e.2.2.1 e.2.2.2.1 ∧ e.2.2.2.2.2.1 = (q.2.1 e.2.2.2.1).2.2.2 ∧ (e.2.2.2.2.2.1 = true → o = e.2.2.1 → (q.2.1 e.2.2.2.1).1 = aR o) := by
  unfold aFld at h
  have hm := List.mem_of_find?_eq_some h
  have hp := List.find?_some h
  simp only [Bool.and_eq_true, beq_iff_eq] at hp
  have hb := List.all_eq_true.mp aFldOk e hm
  unfold aFldB at hb
  split at hb
  · rename_i q hq
    simp only [Bool.and_eq_true, decide_eq_true_eq, beq_iff_eq, Bool.or_eq_true, Bool.not_eq_true'] at hb
    obtain ⟨⟨⟨⟨⟨h1, h2⟩, h3⟩, h4⟩, h5⟩, h6⟩ := hb
    rw [hp.1, hp.2] at h2 h3
    refine ⟨q, hq, h1, aT_of h2 h3, h4, h5, fun hf ho => ?_⟩
    rcases h6 with h6 | h6
    · rw [hf, hp.1, ← ho] at h6
      simp at h6
    · rw [hp.1] at h6; exact h6
  · cases hb
theorem aOb.kept {a : Nat} {cC : ClassId} {N : Nat} {iS : Nat → Nat} {H H' : Heap} {V V' : Nat → Value} (h : aOb a cC N iS H V) (hH : H'[a]? = H[a]?) (hV : ∀ k, k < N → V k = V' k) : aOb a cC N iS H' V' := by
  obtain ⟨cell, e1, e2, e3, e4, e5⟩ := h
  exact ⟨cell, hH.trans e1, e2, e3, e4, fun k hk => by rw [← hV k hk]; exact e5 k hk⟩
theorem aAo.kept {U : State} {ty : FieldType} {a n : Nat} {f : Nat → Value} {H H' : Heap} (h : aAo U ty a n f H) (hH : H'[a]? = H[a]?) : aAo U ty a n f H' := by
  obtain ⟨cell, e1, e2⟩ := h
  exact ⟨cell, hH.trans e1, e2⟩
theorem aCe.kept {D : va_G} {U : State} {S S' : aS} {I I' : aI} {a : Nat} {H H' : Heap} (h : aCe D U S I a H) (hH : H'[a]? = H[a]?) (hK : aK S' a = aK S a) (hN : aN S' a = aN S a) (hP : aP S' a = aP S a) (hI : I' a = I a) : aCe D U S' I' a H' := by
  have hk : aKd S' a = aKd S a := by unfold aKd; rw [hK]
  obtain ⟨h1, h2, h3, h4, h5⟩ := h
  refine ⟨fun q => ?_, fun q => ?_, fun q => ?_, fun q => ?_, fun q => ?_⟩
  · rw [hK] at q ⊢
    obtain ⟨r, e1, e2⟩ := h1 q
    refine ⟨r, e1, (e2.kept hH).to (fun j _ => ?_)⟩
    unfold aFV
    rw [hP, hI]
  · rw [hK] at q
    obtain ⟨cA, e1, e2, e3⟩ := h2 q
    exact ⟨cA, e1, e2, by rw [hH, hN, hI]; exact e3⟩
  · rw [hK] at q
    obtain ⟨cA, e1, e2, e3⟩ := h3 q
    exact ⟨cA, e1, e2, by rw [hH, hN, hI]; exact e3⟩
  · rw [hK] at q
    obtain ⟨cA, e1, e2, e3⟩ := h4 q
    exact ⟨cA, e1, e2, by rw [hH, hN, hP]; exact e3⟩
  · rw [hK] at q
    rcases h5 q with ⟨g1, g2⟩ | ⟨g1, g2⟩ | ⟨g1, g2⟩ | g
    · exact Or.inl ⟨hK.trans g1, g2.kept hH (fun k _ => by unfold aFV; rw [hP, hI])⟩
    · exact Or.inr (Or.inl ⟨hK.trans g1, by rw [hN, hI]; exact g2.kept hH⟩)
    · exact Or.inr (Or.inr (Or.inl ⟨hK.trans g1, by rw [hN, hI]; exact g2.kept hH⟩))
    · exact Or.inr (Or.inr (Or.inr (by rw [hk]; exact g)))
theorem aAr.ao {U : State} {ty : FieldType} {a n : Nat} {f : Nat → Value} {H : Heap} (h : aAr U ty a n f H) : aAo U ty a n f H := by
  obtain ⟨cA, h1, h2, h3⟩ := h
  exact ⟨_, h3, h1 _ _, fun q => (by cases q), by rw [arrV_size]; exact Nat.le_refl _, by rw [arrV_size], fun j hj => arrV_read _ _ hj⟩
/-- what reads of a cell rest on, new or of before -/
theorem aCe.rdI {D : va_G} {U : State} {S : aS} {I : aI} {a : Nat} {H : Heap} (h : aCe D U S I a H) (hk : aKd S a = 100) : aAo U .int a (aN S a) (fun j => .int (I a j)) H := by
  obtain ⟨h1, h2, h3, h4, h5⟩ := h
  unfold aKd at hk
  by_cases c : aK S a < 1000
  · exact (h2 (by omega)).ao
  · rcases h5 (by omega) with ⟨g1, g2⟩ | ⟨g1, g2⟩ | ⟨g1, g2⟩ | g
    · omega
    · exact g2
    · omega
    · unfold aKd at g; omega
theorem aCe.rdB {D : va_G} {U : State} {S : aS} {I : aI} {a : Nat} {H : Heap} (h : aCe D U S I a H) (hk : aKd S a = 101) : aAo U .byte a (aN S a) (fun j => .int (I a j)) H := by
  obtain ⟨h1, h2, h3, h4, h5⟩ := h
  unfold aKd at hk
  by_cases c : aK S a < 1000
  · exact (h3 (by omega)).ao
  · rcases h5 (by omega) with ⟨g1, g2⟩ | ⟨g1, g2⟩ | ⟨g1, g2⟩ | g
    · omega
    · omega
    · exact g2
    · unfold aKd at g; omega
theorem aCe.rdR {D : va_G} {U : State} {S : aS} {I : aI} {a : Nat} {H : Heap} (h : aCe D U S I a H) (hk : aKd S a = 102) : aAr U (.array .int) a (aN S a) (fun j => va_rf (aP S a j)) H := by
  obtain ⟨h1, h2, h3, h4, h5⟩ := h
  unfold aKd at hk
  by_cases c : aK S a < 1000
  · exact h4 (by omega)
  · rcases h5 (by omega) with ⟨g1, g2⟩ | ⟨g1, g2⟩ | ⟨g1, g2⟩ | g
    · omega
    · omega
    · omega
    · unfold aKd at g; omega
theorem aCe.ob {D : va_G} {U : State} {S : aS} {I : aI} {a : Nat} {H : Heap} (h : aCe D U S I a H) (hk : aKd S a < 100) : ∃ (r : vw_C) (cell : Cell), vwCl[aKd S a]? = some r ∧ H[a]? = some cell ∧ cell.cls = D.1 (aKd S a) ∧ cell.vm ≠ .unknown ∧ cell.vm.isStatics = false ∧ ∀ k, k < r.2.2 → (aKd S a = 0 → k < 2) → cell.slots[D.2 (aKd S a) k]? = some (aFV (aKd S a) S I a k) := by
  obtain ⟨h1, h2, h3, h4, h5⟩ := h
  by_cases c : aK S a < 1000
  · have e : aKd S a = aK S a := by unfold aKd; omega
    rw [e] at hk ⊢
    obtain ⟨r, hr, cell, q1, q2, q3, q4⟩ := h1 hk
    exact ⟨r, cell, hr, q1, q2, by rw [q3]; exact fun q => (by cases q), by rw [q3]; rfl, fun k g _ => q4 k g⟩
  · rcases h5 (by omega) with ⟨g1, cell, e1, e2, e3, e4, e5⟩ | ⟨g1, g2⟩ | ⟨g1, g2⟩ | g
    · have e : aKd S a = 0 := by unfold aKd; omega
      rw [e]
      exact ⟨_, cell, rfl, e1, e2, e3, e4, fun k _ g => e5 k (g rfl)⟩
    · unfold aKd at hk; omega
    · unfold aKd at hk; omega
    · omega
theorem aFldS : aFldT.all (fun e => e.2.2.1 != 0 || decide (e.2.2.2.1 < 2)) = true := by decide +kernel
theorem aFld_0 {o x : Nat} {e : Nat × Nat × Nat × Nat × Bool × Bool × Nat} (h : aFld o x = some e) (h0 : e.2.2.1 = 0) : e.2.2.2.1 < 2 := by
  unfold aFld at h
  have h1 := List.all_eq_true.mp aFldS e (List.mem_of_find?_eq_some h)
  simp only [Bool.or_eq_true, bne_iff_ne, ne_eq, decide_eq_true_eq] at h1
  exact h1.resolve_left (fun z => z h0)
/-- one cell has changed -/
theorem aMR.at {D : va_G} {nb : Nat} {U : State} {S S' : aS} {I I' : aI} {a : Nat} {H H' : Heap} (h : aMR D nb U S I H) (hz : H'.size = H.size) (ho : ∀ q, q ≠ a → H'[q]? = H[q]?) (hX : aX S' = aX S) (hK : aK S' = aK S) (hN : aN S' = aN S) (hP : ∀ b, b ≠ a → aP S' b = aP S b) (hI : ∀ b, b ≠ a → I' b = I b) (ha : aCe D U S' I' a H') : aMR D nb U S' I' H' := by
  refine ⟨by rw [hz, h.1, hX], fun b => ?_, by rw [hX]; exact h.2.2.1, fun b => by rw [hK]; exact h.2.2.2 b⟩
  by_cases e : b = a
  · rw [e]; exact ha
  · exact (h.2.1 b).kept (ho b e) (by rw [hK]) (by rw [hN]) (hP b e) (hI b e)
theorem aU_self {α : Type} (f : Nat → α) (a : Nat) (x : α) : aU f a x a = x := if_pos rfl
theorem aU_ne {α : Type} (f : Nat → α) {a b : Nat} (x : α) (h : b ≠ a) : aU f a x b = f b := if_neg h
theorem aW_ne (I : aI) {a b : Nat} (j : Nat) (x : Int32) (h : b ≠ a) : aW I a j x b = I b := aU_ne _ _ h
theorem aW_self (I : aI) (a j : Nat) (x : Int32) : aW I a j x a = aU (I a) j x := aU_self _ _ _
theorem aS_put {nb : Nat} {H0 H H' : Heap} {locs : List Loc} {a j : Nat} (h : va_S (fun q => nb ≤ q) H0 H locs) (ha : nb ≤ a) (hz : H'.size = H.size) (ho : ∀ q, q ≠ a → H'[q]? = H[q]?) : va_S (fun q => nb ≤ q) H0 H' (locs ++ [⟨a, j⟩]) := by
  refine ⟨by rw [hz]; exact h.1, fun q h1 h2 => ?_, fun z hz2 => ?_⟩
  · rw [ho q (fun e => h2 (by rw [e]; exact ha))]
    exact h.2.1 q h1 h2
  · rcases List.mem_append.mp hz2 with q | q
    · exact h.2.2 z q
    · rw [List.mem_singleton.mp q]; exact ha
section AMEM
variable {p : Program} {l : Launch} {e : Env} {R : Room} {s : State} {m : MethodId} {args : Array Value} {below : List Frame} {meth : Method} {c : Code} {H : Heap} {locs : List Loc} {cells slots : Nat} {Q : State → Prop}
variable {D : va_G} {E : Nat → Value} {nb : Nat} {F : aF} {pc : Nat} {L : List (Option Value)} {st : List Value} {S : aS} {I : aI} {ls : Array Slot}
variable {pc' : Nat} {L' : List (Option Value)} {st' : List Value} {S' : aS} {I' : aI}
/-- what may go on behind a step -/
def aKm (p : Program) (l : Launch) (e : Env) (R : Room) (s : State) (m : MethodId) (args : Array Value) (below : List Frame) (meth : Method) (c : Code) (cells slots : Nat) (Q : State → Prop) (D : va_G) (nb : Nat) (z n : Nat) (S : aS) (pc' : Nat) (L' : List (Option Value)) (st' : List Value) (S' : aS) (I' : aI) : Prop :=
  ∀ (ls' : Array Slot) (H' : Heap) (locs' : List Loc), aLR ls' L' z → L'.length = n → aMR D nb s S' I' H' → va_S (fun q => nb ≤ q) s.heap H' locs' → W p l e R s m args below meth c H' locs' (cells + (aX S' - aX S)) (slots + (aZ S' - aZ S)) Q (F0 m pc' ls' st')
theorem aKm.same (h : aKm p l e R s m args below meth c cells slots Q D nb F.2.2.2.1 L.length S pc' L' st' S' I') (hX : aX S' = aX S) (hZ : aZ S' = aZ S) {ls' : Array Slot} {H' : Heap} {locs' : List Loc} (h1 : aLR ls' L' F.2.2.2.1) (h2 : L'.length = L.length) (h3 : aMR D nb s S' I' H') (h4 : va_S (fun q => nb ≤ q) s.heap H' locs') : W p l e R s m args below meth c H' locs' cells slots Q (F0 m pc' ls' st') :=
  W.cs (by rw [hX, Nat.sub_self, Nat.add_zero]) (by rw [hZ, Nat.sub_self, Nat.add_zero]) (h ls' H' locs' h1 h2 h3 h4)
theorem aGo_in2 (h : aGo pc L st S I = some (.inl (pc', L', st', S', I'))) : pc = pc' ∧ L = L' ∧ st = st' ∧ S = S' ∧ I = I' := by
  obtain ⟨h1, h2, h3, h4, h5⟩ := aGo_inj h
  exact ⟨h1.symm, h2.symm, h3.symm, h4.symm, h5.symm⟩
theorem aGetS {x : Nat} (hC : aCx p s m args meth c D E nb F) (hM : aMR D nb s S I H) (hL : aLR ls L F.2.2.2.1) (hS : va_S (fun q => nb ≤ q) s.heap H locs) (hd : decode F.2.1 pc = .ok (.getfield x, 3)) (h : aGetF F.1 x (pc + 3) L st S I = some (.inl (pc', L', st', S', I')))
    (kk : aKm p l e R s m args below meth c cells slots Q D nb F.2.2.2.1 L.length S pc' L' st' S' I') : W p l e R s m args below meth c H locs cells slots Q (F0 m pc ls st) := by
  obtain ⟨hx, hb, hr, hown, hts, hG, hlk, hini, -⟩ := hC
  unfold aGetF at h
  split at h
  · cases h
  rename_i en he
  split at h
  · rename_i a r
    split at h
    · rename_i hk
      obtain ⟨rfl, rfl, rfl, rfl, rfl⟩ := aGo_in2 h
      obtain ⟨q, hq, hj, hw, hrf, -, -⟩ := aFld_s he
      obtain ⟨hc11, hws, hty, -⟩ := aCls hq
      have hlt : aKd S a < 100 := by rw [hk]; omega
      obtain ⟨r', cell, hr', q1, q2, q3, _, q4⟩ := (hM.2.1 a).ob hlt
      rw [hk] at hr' q2 q4
      cases hq.symm.trans hr'
      obtain ⟨hSl, hfc, kC, hkC, hkind⟩ := hG.1.1 _ _ hq
      obtain ⟨cf, kf, fi, f, hi, hsl⟩ := hSl _ hj
      refine W.getf hx hb hown (hts _ hw) hi (u_facts hfc hkC (u_lays hts hws hj) hi).1 q1 q3 (v := _) ?_ rfl rfl hd (kk.same rfl rfl hL rfl hM hS)
      rw [hsl, q4 _ hj (aFld_0 he), hrf]
      rfl
    · cases h
  · cases h
theorem aPutS {x : Nat} (hC : aCx p s m args meth c D E nb F) (hM : aMR D nb s S I H) (hL : aLR ls L F.2.2.2.1) (hS : va_S (fun q => nb ≤ q) s.heap H locs) (hd : decode F.2.1 pc = .ok (.putfield x, 3)) (h : aPutF F.1 x F.2.2.2.2 (pc + 3) L st S I = some (.inl (pc', L', st', S', I')))
    (kk : aKm p l e R s m args below meth c cells slots Q D nb F.2.2.2.1 L.length S pc' L' st' S' I') : W p l e R s m args below meth c H locs cells slots Q (F0 m pc ls st) := by
  obtain ⟨hx, hb, hr, hown, hts, hG, hlk, hini, -⟩ := hC
  unfold aPutF at h
  split at h
  · cases h
  rename_i en he
  split at h
  · rename_i v a r
    split at h
    · rename_i hk
      obtain ⟨hk, hfn, hn, hfit⟩ := hk
      obtain ⟨q, hq, hj, hw, hrf, hfin, hfo⟩ := aFld_s he
      obtain ⟨hc11, hws, hty, hnm⟩ := aCls hq
      have hlt : aK S a < 100 := by rw [hk]; omega
      obtain ⟨r', hr', cell, q1, q2, q3, q4⟩ := (hM.2.1 a).1 hlt
      rw [hk] at hr' q2 q4
      cases hq.symm.trans hr'
      have hap := va_apart (own := aR F.1) hts hws _ hty hnm hG.1 hq
      obtain ⟨hSl, hfc, kC, hkC, hkind⟩ := hG.1.1 _ _ hq
      obtain ⟨cf, kf, fi, f, hi, hsl⟩ := hSl _ hj
      have hst := (u_facts hfc hkC (u_lays hts hws hj) hi).1
      have hlay := hts _ (hws _ (u_in_lay hj))
      unfold u_lay at hlay
      have hnb : nb ≤ a := hM.2.2.2 a (by rw [hk]; omega)
      -- what is known behind the write
      have fin : ∀ (H' : Heap) (S1 : aS) (I1 : aI), H'[a]? = some (cell.setSlot (D.2 en.2.2.1 en.2.2.2.1) v) → H'.size = H.size → (∀ b, b ≠ a → H'[b]? = H[b]?) → aX S1 = aX S → aK S1 = aK S → aN S1 = aN S → (∀ b, b ≠ a → aP S1 b = aP S b) → (∀ b, b ≠ a → I1 b = I b) →
          (∀ j, j < q.2.2 → updV (aFV en.2.2.1 S I a) en.2.2.2.1 v j = aFV en.2.2.1 S1 I1 a j) → aMR D nb s S1 I1 H' := by
        intro H' S1 I1 e1 e2 e3 hX hK hN hP hI hv
        have hkd1 : aK S1 a = en.2.2.1 := by rw [hK]; exact hk
        refine hM.at e2 e3 hX hK hN hP hI ⟨fun _ => ?_, fun q5 => ?_, fun q5 => ?_, fun q5 => ?_, fun q5 => ?_⟩
        · rw [hkd1]
          exact ⟨q, hq, t_OB.to (V := updV (aFV en.2.2.1 S I a) en.2.2.2.1 v) ⟨_, e1, q2, q3, t_set q4 hap hj v⟩ hv⟩
        · rw [hkd1] at q5; omega
        · rw [hkd1] at q5; omega
        · rw [hkd1] at q5; omega
        · rw [hkd1] at q5; omega
      -- the write itself
      have wr : (∀ H' : Heap, H'[a]? = some (cell.setSlot f.slot v) → H'.size = H.size → (∀ b, b ≠ a → H'[b]? = H[b]?) → W p l e R s m args below meth c H' (locs ++ [⟨a, f.slot⟩]) cells slots Q (F0 m (pc + 3) ls r)) → W p l e R s m args below meth c H locs cells slots Q (F0 m pc ls (v :: .ref a :: r)) := by
        intro k
        cases hf2 : (q.2.1 en.2.2.2.1).2.2.2 with
        | false =>
          rw [if_neg (by rw [hf2]; decide)] at hlay
          have h6 := u_store hfc hkC hkind hlay hi (hty _ hj) hn hfit
          exact W.putK hx hb (f := f) ⟨hown, hts _ hw, ⟨_, _, _, hi⟩, hst⟩ (by rw [q2]; exact h6) q1 q3 (by rw [hsl]; exact k2_hasslot (q4 _ hj)) rfl rfl hd k
        | true =>
          rw [if_pos hf2] at hlay
          have hcf : m.cls = cf := by
            obtain ⟨_, _, c', _, _, _, -, -, hf', -, -, -, hown2, -⟩ := Cond.laysFinal_spec hlay
            have e1 : c' = cf := by have := hi.symm.trans hf'; simp at this; exact this.1.symm
            rw [hfo (hfin.trans hf2) (hfn (hfin.trans hf2)).2] at hown2
            rw [← e1]; exact Option.some.inj (hown.symm.trans hown2)
          have h6 := u_fits hfc hkC hkind (Or.inr hlay) hi (hty _ hj) hn hfit
          exact W.putFinK hx hb hown (hts _ hw) hi hst hcf (hini (hfn (hfin.trans hf2)).1) (by rw [q2]; exact h6) q1 q3 (by rw [hsl]; exact k2_hasslot (q4 _ hj)) rfl rfl hd k
      split at h
      · rename_i hr2
        split at h
        · rename_i qo hqo
          obtain ⟨rfl, rfl, rfl, rfl, rfl⟩ := aGo_in2 h
          have hv : v = va_rf qo := by
            cases v <;> first | (cases hqo; rfl) | cases hqo
          refine wr fun H' e1 e2 e3 => kk.same rfl rfl hL rfl (fin H' _ _ (by rw [← hsl]; exact e1) e2 e3 rfl rfl rfl (fun b hb2 => ?_) (fun b _ => rfl) (fun j _ => ?_)) (aS_put hS hnb e2 e3)
          · show aU (aP S) a _ b = aP S b
            exact aU_ne _ _ hb2
          · unfold updV aFV
            by_cases ej : j = en.2.2.2.1
            · subst ej
              rw [if_pos rfl, ← hrf, if_pos hr2, hv]
              show _ = va_rf (aU (aP S) a (aU (aP S a) _ qo) a _)
              rw [aU_self, aU_self]
            · rw [if_neg ej]
              show _ = if aRf en.2.2.1 j = true then va_rf (aU (aP S) a (aU (aP S a) _ qo) a j) else _
              rw [aU_self, aU_ne _ _ ej]
        · cases h
      · rename_i hr2
        split at h
        · rename_i y
          obtain ⟨rfl, rfl, rfl, rfl, rfl⟩ := aGo_in2 h
          refine wr fun H' e1 e2 e3 => kk.same rfl rfl hL rfl (fin H' _ _ (by rw [← hsl]; exact e1) e2 e3 rfl rfl rfl (fun b _ => rfl) (fun b hb2 => aW_ne _ _ _ hb2) (fun j _ => ?_)) (aS_put hS hnb e2 e3)
          unfold updV aFV
          by_cases ej : j = en.2.2.2.1
          · subst ej
            rw [if_pos rfl, ← hrf, if_neg hr2, aW_self, aU_self]
          · rw [if_neg ej, aW_self, aU_ne _ _ ej]
        · cases h
    · cases h
  · cases h
end AMEM
