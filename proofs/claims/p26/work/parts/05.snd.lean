/-! what the small machine does in a step, the machine does: the instructions that leave memory as it is -/
def aT : List Jvm.Cond := aTb.filter goodWord
def aPr (L : List (Option Value)) : List (Nat × Value) := L.zipIdx.filterMap (fun q => q.1.map (fun v => (q.2, v)))
theorem aPr_mem {L : List (Option Value)} {j : Nat} {v : Value} : (j, v) ∈ aPr L ↔ L[j]? = some (some v) := by
  unfold aPr
  rw [List.mem_filterMap]
  constructor
  · rintro ⟨⟨w, i⟩, h1, h2⟩
    have h3 := List.mem_zipIdx_iff_getElem?.mp h1
    cases w with
    | none => simp at h2
    | some w =>
      simp only [Option.map_some, Option.some.injEq, Prod.mk.injEq] at h2
      obtain ⟨rfl, rfl⟩ := h2
      exact h3
  · intro h
    exact ⟨(some v, j), List.mem_zipIdx_iff_getElem?.mpr h, rfl⟩
def aLR (ls : Array Slot) (L : List (Option Value)) (z : Nat) : Prop := lv_has ls L.length (aPr L) ∧ ∀ (j : Nat) (v : Value), L[j]? = some (some v) → v.category = 2 → j + 1 = z
theorem aLR.get {ls : Array Slot} {L : List (Option Value)} {z n : Nat} {v : Value} (h : aLR ls L z) (hn : L[n]? = some (some v)) : ls[n]? = some (.val v) := h.1.2.2 (n, v) (aPr_mem.mpr hn)
theorem aLR.set1 {ls ls' : Array Slot} {L : List (Option Value)} {z n : Nat} {v : Value} (h : aLR ls L z) (hn : n < L.length) (hc : v.category = 1) (hz : n ≠ z ∨ aNo2 L n = true)
    (h' : lv_has ls' L.length ((n, v) :: (aPr L).filter (fun q => !(q.1 == n) && !(q.1 + 1 == n && q.2.category == 2)))) : aLR ls' (L.set n (some v)) z := by
  refine ⟨⟨by rw [h'.1]; simp, h'.2.1, fun q hq => ?_⟩, fun j w hj hw => ?_⟩
  · obtain ⟨j, w⟩ := q
    have hj := aPr_mem.mp hq
    refine h'.2.2 (j, w) ?_
    by_cases e : j = n
    · subst e
      rw [List.getElem?_set_self hn] at hj
      cases hj
      exact List.mem_cons_self
    · rw [List.getElem?_set_ne (fun q => e q.symm)] at hj
      refine List.mem_cons_of_mem _ (List.mem_filter.mpr ⟨aPr_mem.mpr hj, ?_⟩)
      simp only [Bool.and_eq_true, Bool.not_eq_true', beq_eq_false_iff_ne, ne_eq, Bool.and_eq_false_iff]
      refine ⟨e, ?_⟩
      by_cases hw : w.category = 2
      · refine Or.inl (fun q => ?_)
        have h2 := h.2 j w hj hw
        rcases hz with hz | hz
        · omega
        · unfold aNo2 at hz
          rw [show n - 1 = j by omega, hj] at hz
          simp only [beq_iff_eq] at hz
          omega
      · exact Or.inr hw
  · by_cases e : j = n
    · subst e
      rw [List.getElem?_set_self hn] at hj
      cases hj
      omega
    · rw [List.getElem?_set_ne (fun q => e q.symm)] at hj
      exact h.2 j w hj hw
theorem aLR.setL {ls ls' : Array Slot} {L : List (Option Value)} {z n : Nat} {x : Int64} (h : aLR ls L z) (hn : n + 1 < L.length) (hz : n + 1 = z)
    (h' : lv_has ls' L.length ((n, Value.long x) :: (aPr L).filter (fun q => !(q.1 == n) && (!(q.1 == n + 1) && !(q.1 + 1 == n && q.2.category == 2))))) : aLR ls' ((L.set n (some (.long x))).set (n + 1) none) z := by
  refine ⟨⟨by rw [h'.1]; simp, h'.2.1, fun q hq => ?_⟩, fun j w hj hw => ?_⟩
  · obtain ⟨j, w⟩ := q
    have hj := aPr_mem.mp hq
    refine h'.2.2 (j, w) ?_
    by_cases e1 : j = n + 1
    · subst e1
      rw [List.getElem?_set_self (by simpa using hn)] at hj
      cases hj
    · rw [List.getElem?_set_ne (fun q => e1 q.symm)] at hj
      by_cases e : j = n
      · subst e
        rw [List.getElem?_set_self (by omega)] at hj
        cases hj
        exact List.mem_cons_self
      · rw [List.getElem?_set_ne (fun q => e q.symm)] at hj
        refine List.mem_cons_of_mem _ (List.mem_filter.mpr ⟨aPr_mem.mpr hj, ?_⟩)
        simp only [Bool.and_eq_true, Bool.not_eq_true', beq_eq_false_iff_ne, ne_eq, Bool.and_eq_false_iff]
        refine ⟨e, e1, ?_⟩
        by_cases hw : w.category = 2
        · exact Or.inl (fun q => by have := h.2 j w hj hw; omega)
        · exact Or.inr hw
  · by_cases e1 : j = n + 1
    · subst e1
      rw [List.getElem?_set_self (by simpa using hn)] at hj
      cases hj
    · rw [List.getElem?_set_ne (fun q => e1 q.symm)] at hj
      by_cases e : j = n
      · omega
      · rw [List.getElem?_set_ne (fun q => e q.symm)] at hj
        exact h.2 j w hj hw
def aAO (U : State) : Prop := (Cond.arrayOver (.array .int)).before #[] U = true
theorem aAO.moved {u U : State} (hvm : u.vm.Alike U.vm) (h : aAO u) : aAO U := by
  obtain ⟨comp, c, k, h1, h2, h3, h4, h5⟩ := arrayOverA_spec h
  obtain ⟨k', hk', he⟩ := hvm.2.2 _ _ h3
  have hi : (U.vm.classes.findIdx? fun (x : Class) => match x.kind with | .array component _ => component == comp | _ => false) = some c := by
    rw [hvm.findIdx?_eq _ (fun _ => rfl)]
    exact h2
  have hkind : k'.kind = .array comp (.array .int) := by rw [he]; exact h4
  have f1 : U.vm.findClass (FieldType.array .int).toString = some comp := by rw [hvm.findClass]; exact h1
  have f2 : U.vm.findClass ("[" ++ (FieldType.array .int).toString) = some c := by rw [hvm.findClass]; exact h5
  unfold aAO Cond.before Cond.holds
  simp only [Cond.value]
  rw [f1, Option.bind_some]
  refine (congrArg (fun o : Option Nat => (o.bind (fun c => (U.vm.classes[c]?).map fun (k : Class) => match k.kind with | .array _ ty => decide (ty = FieldType.array .int) && decide (U.vm.findClass ("[" ++ (FieldType.array .int).toString) = some c) | _ => false) == some true)) hi).trans ?_
  simp [hk', hkind, f2]
/-- what holds of the tables: the classes of the worlds, the words of nest mates, the statics that are read, the texts -/
def aGl (D : va_G) (E : Nat → Value) (nb : Nat) (U : State) (H : Heap) : Prop :=
  va_K D vwCl [] U ∧ (∀ w ∈ lw_tbl, (∃ a i b n d h, w = .fieldLinkNest a i b n d h) ∨ (∃ a i x h, w = .methodLinkNest a i x h) → va_Nw w U) ∧
  (∀ g ∈ aGetT, ∀ t, aStaT[g.2.2.1]? = some t → va_Z t.1 t.2.1 t.2.2.1 (E g.2.2.1) (fun q => nb ≤ q) U H) ∧
  (∀ g ∈ aStrT, ∃ a, E g.2.2.1 = .ref a ∧ vk_R (aR g.1) g.2.1 (aTxt.getD (g.2.2.1 - 100) "") a U) ∧
  aAO U ∧ (∀ w ∈ lw_tbl, (∃ x, w = .declares x) ∨ (∃ a b, w = .castable a b) → va_Nw w U) ∧ vx_Zq Bundle.tN "UNASSIGNED_STACK" Bundle.steD (fun q => nb ≤ q) U H ∧ vx_Zq Bundle.tN "SUPPRESSED_SENTINEL" Bundle.listD (fun q => nb ≤ q) U H
/-- the frame's method, the start's tables -/
def aCx (p : Program) (s : State) (m : MethodId) (args : Array Value) (meth : Method) (c : Code) (D : va_G) (E : Nat → Value) (nb : Nat) (F : aF) : Prop :=
  p.tables.exec = Jvm.exec ∧ c.code = F.2.1 ∧ meth.sig.returnType = F.2.2.1 ∧ s.vm.findClass (aR F.1) = some m.cls ∧ (∀ w ∈ aT, w.before args s = true) ∧ aGl D E nb s s.heap ∧ meth.locks = false ∧ (F.2.2.2.2 = true → meth.name = "<init>") ∧ (F.2.2.2.1 = 1000 → F = fL_act ∧ c.exceptionTable.toList = tableOf [(241, 267, 268, 202)]) ∧ (F.2.2.2.1 = 1001 → F = fX7_mend ∧ c.exceptionTable.toList = [])
def aAr (U : State) (ty : FieldType) (a n : Nat) (f : Nat → Value) (H : Heap) : Prop := ∃ cA : ClassId, ArrOfT U cA ty ∧ va_RA U cA ty ∧ H[a]? = some (arrV cA n f)
def aRf (c j : Nat) : Bool := match aTy c j with
  | .object _ => true
  | .array _ => true
  | _ => false
def aFV (c : Nat) (S : aS) (I : aI) (a j : Nat) : Value := if aRf c j = true then va_rf (aP S a j) else .int (I a j)
/-- an array of before: its first n places are read -/
def aAo (U : State) (ty : FieldType) (a n : Nat) (f : Nat → Value) (H : Heap) : Prop := ∃ cell : Cell, H[a]? = some cell ∧ U.isArrayOf cell ty ∧ cell.vm ≠ .unknown ∧ n ≤ cell.slots.size ∧ cell.slots.size.toInt32 = Int32.ofNat n ∧ ∀ j, j < n → cell.slots[j]? = some (f j)
/-- an object of before: its first N fields are read -/
def aOb (a : Nat) (cC : ClassId) (N : Nat) (iS : Nat → Nat) (H : Heap) (V : Nat → Value) : Prop := ∃ cell : Cell, H[a]? = some cell ∧ cell.cls = cC ∧ cell.vm ≠ .unknown ∧ cell.vm.isStatics = false ∧ ∀ k, k < N → cell.slots[iS k]? = some (V k)
/-- a cell of before that is read -/
def aOl (D : va_G) (U : State) (S : aS) (I : aI) (a : Nat) (H : Heap) : Prop :=
  (aK S a = 1000 ∧ aOb a (D.1 0) 2 (D.2 0) H (aFV 0 S I a)) ∨ (aK S a = 1100 ∧ aAo U .int a (aN S a) (fun j => .int (I a j)) H) ∨ (aK S a = 1101 ∧ aAo U .byte a (aN S a) (fun j => .int (I a j)) H) ∨ 102 < aKd S a
/-- a cell is as the small machine's memory has it -/
def aCe (D : va_G) (U : State) (S : aS) (I : aI) (a : Nat) (H : Heap) : Prop :=
  (aK S a < 100 → ∃ r : vw_C, vwCl[aK S a]? = some r ∧ t_OB a (D.1 (aK S a)) r.2.2 (D.2 (aK S a)) H (aFV (aK S a) S I a)) ∧
  (aK S a = 100 → aAr U .int a (aN S a) (fun j => .int (I a j)) H) ∧
  (aK S a = 101 → aAr U .byte a (aN S a) (fun j => .int (I a j)) H) ∧
  (aK S a = 102 → aAr U (.array .int) a (aN S a) (fun j => va_rf (aP S a j)) H) ∧
  (1000 ≤ aK S a → aOl D U S I a H)
def aMR (D : va_G) (nb : Nat) (U : State) (S : aS) (I : aI) (H : Heap) : Prop := H.size = aX S ∧ (∀ a, aCe D U S I a H) ∧ nb ≤ aX S ∧ ∀ a, aK S a < 999 → nb ≤ a
section ASND
variable {p : Program} {l : Launch} {e : Env} {R : Room} {s : State} {m : MethodId} {args : Array Value} {below : List Frame} {meth : Method} {c : Code} {H : Heap} {locs : List Loc} {cells slots : Nat} {Q : State → Prop}
variable {D : va_G} {E : Nat → Value} {nb : Nat} {F : aF} {pc np : Nat} {L : List (Option Value)} {st : List Value} {S : aS} {I : aI} {ls : Array Slot}
variable {pc' : Nat} {L' : List (Option Value)} {st' : List Value} {S' : aS} {I' : aI}
theorem aGo_inj (h : aGo pc L st S I = some (.inl (pc', L', st', S', I'))) : pc' = pc ∧ L' = L ∧ st' = st ∧ S' = S ∧ I' = I := by
  simp only [aGo, Option.some.injEq, Sum.inl.injEq, Prod.mk.injEq] at h
  obtain ⟨rfl, rfl, rfl, rfl, rfl⟩ := h
  exact ⟨rfl, rfl, rfl, rfl, rfl⟩
/-- a step that leaves memory alone -/
def aKp (p : Program) (l : Launch) (e : Env) (R : Room) (s : State) (m : MethodId) (args : Array Value) (below : List Frame) (meth : Method) (c : Code) (H : Heap) (locs : List Loc) (cells slots : Nat) (Q : State → Prop) (z : Nat) (n : Nat) (pc' : Nat) (L' : List (Option Value)) (st' : List Value) : Prop :=
  ∀ ls' : Array Slot, aLR ls' L' z → L'.length = n → W p l e R s m args below meth c H locs cells slots Q (F0 m pc' ls' st')
theorem aLd_s {q : Value → Bool} {n : Nat} (h : aLd q n np L st S I = some (.inl (pc', L', st', S', I'))) : ∃ v, L[n]? = some (some v) ∧ q v = true ∧ pc' = np ∧ L' = L ∧ st' = v :: st ∧ S' = S ∧ I' = I := by
  unfold aLd at h
  split at h
  · rename_i v hv
    split at h
    · rename_i hq
      obtain ⟨h1, h2, h3, h4, h5⟩ := aGo_inj h
      exact ⟨v, hv, hq, h1, h2, h3, h4, h5⟩
    · cases h
  · cases h
theorem aSt_s {q : Value → Bool} {z n : Nat} (h : aSt q z n np L st S I = some (.inl (pc', L', st', S', I'))) : ∃ v r, st = v :: r ∧ q v = true ∧ n < L.length ∧ (n ≠ z ∨ aNo2 L n = true) ∧ pc' = np ∧ L' = L.set n (some v) ∧ st' = r ∧ S' = S ∧ I' = I := by
  unfold aSt at h
  split at h
  · rename_i v r
    split at h
    · rename_i hq
      obtain ⟨h1, h2, h3, h4, h5⟩ := aGo_inj h
      exact ⟨v, r, rfl, hq.1, hq.2.1, hq.2.2, h1, h2, h3, h4, h5⟩
    · cases h
  · cases h
theorem aStL_s {z n : Nat} (h : aStL z n np L st S I = some (.inl (pc', L', st', S', I'))) : ∃ x r, st = .long x :: r ∧ n + 1 < L.length ∧ n + 1 = z ∧ pc' = np ∧ L' = (L.set n (some (.long x))).set (n + 1) none ∧ st' = r ∧ S' = S ∧ I' = I := by
  unfold aStL at h
  split at h
  · rename_i x r
    split at h
    · rename_i hq
      obtain ⟨h1, h2, h3, h4, h5⟩ := aGo_inj h
      exact ⟨x, r, rfl, hq.1, hq.2, h1, h2, h3, h4, h5⟩
    · cases h
  · cases h
theorem aB_s {f : Int32 → Int32 → Int32} (h : aB f np L st S I = some (.inl (pc', L', st', S', I'))) : ∃ y x r, st = .int y :: .int x :: r ∧ pc' = np ∧ L' = L ∧ st' = .int (f x y) :: r ∧ S' = S ∧ I' = I := by
  unfold aB at h
  split at h
  · rename_i y x r
    obtain ⟨h1, h2, h3, h4, h5⟩ := aGo_inj h
    exact ⟨y, x, r, rfl, h1, h2, h3, h4, h5⟩
  · cases h
theorem aB0_s {f : Int32 → Int32 → Int32} (h : aB0 f np L st S I = some (.inl (pc', L', st', S', I'))) : ∃ y x r, st = .int y :: .int x :: r ∧ ¬ y = 0 ∧ pc' = np ∧ L' = L ∧ st' = .int (f x y) :: r ∧ S' = S ∧ I' = I := by
  unfold aB0 at h
  split at h
  · rename_i y x r
    split at h
    · cases h
    · rename_i hy
      obtain ⟨h1, h2, h3, h4, h5⟩ := aGo_inj h
      exact ⟨y, x, r, rfl, hy, h1, h2, h3, h4, h5⟩
  · cases h
theorem aU1_s {f : Int32 → Value} (h : aU1 f np L st S I = some (.inl (pc', L', st', S', I'))) : ∃ x r, st = .int x :: r ∧ pc' = np ∧ L' = L ∧ st' = f x :: r ∧ S' = S ∧ I' = I := by
  unfold aU1 at h
  split at h
  · rename_i x r
    obtain ⟨h1, h2, h3, h4, h5⟩ := aGo_inj h
    exact ⟨x, r, rfl, h1, h2, h3, h4, h5⟩
  · cases h
theorem aBL_s {f : Int64 → Int64 → Value} (h : aBL f np L st S I = some (.inl (pc', L', st', S', I'))) : ∃ y x r, st = .long y :: .long x :: r ∧ pc' = np ∧ L' = L ∧ st' = f x y :: r ∧ S' = S ∧ I' = I := by
  unfold aBL at h
  split at h
  · rename_i y x r
    obtain ⟨h1, h2, h3, h4, h5⟩ := aGo_inj h
    exact ⟨y, x, r, rfl, h1, h2, h3, h4, h5⟩
  · cases h
theorem aJmp_s {off : Int} (h : aJmp pc off L st S I = some (.inl (pc', L', st', S', I'))) : (pc : Int) + off = (pc' : Int) ∧ L' = L ∧ st' = st ∧ S' = S ∧ I' = I := by
  unfold aJmp at h
  split at h
  · rename_i h0
    obtain ⟨h1, h2, h3, h4, h5⟩ := aGo_inj h
    refine ⟨?_, h2, h3, h4, h5⟩
    rw [h1]
    unfold aOff
    exact (Int.toNat_of_nonneg h0).symm
  · cases h
theorem aI_int {v : Value} (h : aIsI v = true) : ∃ x, v = .int x := by cases v <;> first | exact ⟨_, rfl⟩ | cases h
theorem aI_long {v : Value} (h : aIsL v = true) : ∃ x, v = .long x := by cases v <;> first | exact ⟨_, rfl⟩ | cases h
theorem aI_ref {v : Value} (h : aIsR v = true) : v = .null ∨ ∃ x, v = .ref x := by cases v <;> first | exact Or.inr ⟨_, rfl⟩ | exact Or.inl rfl | cases h
end ASND
