/-! the world at the start: what is known of cells of before -/
section WRLD
theorem wIns : (List.range 11).all (fun k => match vwCl[k]? with
  | some q => aNewT.any (fun e => e.2.2.1 == k && decide (aTb[e.2.2.2.2.getD 1 0]? = some (.instantiable q.1 e.2.2.2.1)) && goodWord (.instantiable q.1 e.2.2.2.1))
  | none => false) = true := by decide +kernel
theorem wIns_s {k : Nat} {q : vw_C} (h : vwCl[k]? = some q) : ∃ n, Cond.instantiable q.1 n ∈ aT := by
  have hk : k < 11 := (List.getElem?_eq_some_iff.mp h).1
  have h1 := List.all_eq_true.mp wIns k (List.mem_range.mpr hk)
  rw [h] at h1
  dsimp only at h1
  obtain ⟨e, -, he⟩ := List.any_eq_true.mp h1
  simp only [Bool.and_eq_true, decide_eq_true_eq] at he
  exact ⟨_, aT_of he.1.2 he.2⟩
theorem wK_ {args : Array Value} {s : State} (hts : ∀ w ∈ aT, w.before args s = true) : ∃ D : va_G, va_K D vwCl [] s := by
  have h : ∀ k : Nat, ∃ x : ClassId × (Nat → Nat), ∀ q : vw_C, vwCl[k]? = some q → u_Kn s q.1 q.2.1 q.2.2 x.1 x.2 := fun k => by
    cases hq : vwCl[k]? with
    | none => exact ⟨(0, fun _ => 0), fun q h => by cases h⟩
    | some q =>
      obtain ⟨n, hn⟩ := wIns_s hq
      obtain ⟨cC, iS, hK⟩ := u_known (T := q.2.1) (N := q.2.2) hts (aCls hq).2.1 (hts _ hn)
      exact ⟨(cC, iS), fun q' h' => by cases h'; exact hK⟩
  obtain ⟨f, hf⟩ := Classical.axiomOfChoice h
  exact ⟨(fun k => (f k).1, fun k => (f k).2), fun c q hq => hf c q hq, fun k q hq => by simp at hq⟩
def wInt (v : Option Value) : Int32 := match v with
  | some (.int x) => x
  | _ => 0
def wIs (v : Option Value) : Bool := match v with
  | some (.int _) => true
  | _ => false
def wRf (v : Option Value) : Option Nat := match v with
  | some (.ref a) => some a
  | _ => none
def wIr (v : Option Value) : Bool := match v with
  | some (.ref _) => true
  | some .null => true
  | _ => false
theorem wIs_s {v : Option Value} (h : wIs v = true) : v = some (.int (wInt v)) := by
  unfold wIs at h
  split at h
  · rfl
  · cases h
theorem wIr_s {v : Option Value} (h : wIr v = true) : v = some (va_rf (wRf v)) := by
  unfold wIr at h
  split at h
  · rfl
  · rfl
  · cases h
def wSl (H : Heap) (a j : Nat) : Option Value := match H[a]? with
  | some c => c.slots[j]?
  | none => none
def wN (H : Heap) (a : Nat) : Nat := match H[a]? with
  | some c => c.slots.size % 4294967296
  | none => 0
def wAr (U : State) (ty : FieldType) (H : Heap) (a : Nat) : Prop := ∃ c : Cell, H[a]? = some c ∧ U.isArrayOf c ty ∧ c.vm ≠ .unknown ∧ wN H a < 2147483648 ∧ ∀ j, j < wN H a → wIs c.slots[j]? = true
def wSt (D : va_G) (H : Heap) (a : Nat) : Prop := ∃ c : Cell, H[a]? = some c ∧ c.cls = D.1 0 ∧ c.vm ≠ .unknown ∧ c.vm.isStatics = false ∧ wIr c.slots[D.2 0 0]? = true ∧ wIs c.slots[D.2 0 1]? = true
noncomputable def wKd (D : va_G) (U : State) (H : Heap) (a : Nat) : Nat := @ite Nat (wAr U .int H a) (Classical.propDecidable _) 1100 (@ite Nat (wAr U .byte H a) (Classical.propDecidable _) 1101 (@ite Nat (wSt D H a) (Classical.propDecidable _) 1000 999))
noncomputable def wS (D : va_G) (U : State) (H : Heap) : aS := (wKd D U H, wN H, fun a k => wRf (wSl H a (D.2 0 k)), H.size, 0)
noncomputable def wI (D : va_G) (U : State) (H : Heap) : aI := fun a j => if wKd D U H a = 1000 then wInt (wSl H a (D.2 0 j)) else wInt (wSl H a j)
theorem wKd_c (D : va_G) (U : State) (H : Heap) (a : Nat) : (wKd D U H a = 1100 ∧ wAr U .int H a) ∨ (wKd D U H a = 1101 ∧ wAr U .byte H a) ∨ (wKd D U H a = 1000 ∧ wSt D H a) ∨ wKd D U H a = 999 := by
  unfold wKd
  by_cases h1 : wAr U .int H a
  · rw [if_pos h1]; exact Or.inl ⟨rfl, h1⟩
  · rw [if_neg h1]
    by_cases h2 : wAr U .byte H a
    · rw [if_pos h2]; exact Or.inr (Or.inl ⟨rfl, h2⟩)
    · rw [if_neg h2]
      by_cases h3 : wSt D H a
      · rw [if_pos h3]; exact Or.inr (Or.inr (Or.inl ⟨rfl, h3⟩))
      · rw [if_neg h3]; exact Or.inr (Or.inr (Or.inr rfl))
theorem wAr_o {U : State} {ty : FieldType} {H : Heap} {a : Nat} (h : wAr U ty H a) : aAo U ty a (wN H a) (fun j => .int (wInt (wSl H a j))) H := by
  obtain ⟨c, h1, h2, h3, h4, h5⟩ := h
  have en : wN H a = c.slots.size % 4294967296 := by unfold wN; rw [h1]
  have es : ∀ j, wSl H a j = c.slots[j]? := fun j => by unfold wSl; rw [h1]
  refine ⟨c, h1, h2, h3, by rw [en]; exact Nat.mod_le _ _, ?_, fun j hj => ?_⟩
  · rw [en]
    apply Int32.toBitVec_inj.mp
    show BitVec.ofNat 32 c.slots.size = BitVec.ofNat 32 (c.slots.size % 4294967296)
    apply BitVec.eq_of_toNat_eq
    rw [BitVec.toNat_ofNat, BitVec.toNat_ofNat]
    omega
  · show c.slots[j]? = some (Value.int (wInt (wSl H a j)))
    rw [es]
    exact wIs_s (h5 j hj)
theorem wCe (D : va_G) (U : State) (H : Heap) (a : Nat) : aCe D U (wS D U H) (wI D U H) a H := by
  have eK : aK (wS D U H) a = wKd D U H a := rfl
  have eN : aN (wS D U H) a = wN H a := rfl
  rcases wKd_c D U H a with ⟨h, g⟩ | ⟨h, g⟩ | ⟨h, g⟩ | h
  · refine ⟨fun q => by omega, fun q => by omega, fun q => by omega, fun q => by omega, fun _ => Or.inr (Or.inl ⟨by omega, ?_⟩)⟩
    have e : (fun j => Value.int (wI D U H a j)) = fun j => .int (wInt (wSl H a j)) := by
      funext j
      unfold wI
      rw [if_neg (by omega)]
    rw [e, eN]
    exact wAr_o g
  · refine ⟨fun q => by omega, fun q => by omega, fun q => by omega, fun q => by omega, fun _ => Or.inr (Or.inr (Or.inl ⟨by omega, ?_⟩))⟩
    have e : (fun j => Value.int (wI D U H a j)) = fun j => .int (wInt (wSl H a j)) := by
      funext j
      unfold wI
      rw [if_neg (by omega)]
    rw [e, eN]
    exact wAr_o g
  · refine ⟨fun q => by omega, fun q => by omega, fun q => by omega, fun q => by omega, fun _ => Or.inl ⟨by omega, ?_⟩⟩
    obtain ⟨c, h1, h2, h3, h4, h5, h6⟩ := g
    have es : ∀ j, wSl H a j = c.slots[j]? := fun j => by unfold wSl; rw [h1]
    refine ⟨c, h1, h2, h3, h4, fun k hk => ?_⟩
    rcases (by omega : k = 0 ∨ k = 1) with rfl | rfl
    · have e : aFV 0 (wS D U H) (wI D U H) a 0 = va_rf (wRf (wSl H a (D.2 0 0))) := rfl
      rw [e, es]
      exact wIr_s h5
    · have e : aFV 0 (wS D U H) (wI D U H) a 1 = .int (wI D U H a 1) := rfl
      have e2 : wI D U H a 1 = wInt (wSl H a (D.2 0 1)) := if_pos h
      rw [e, e2, es]
      exact wIs_s h6
  · exact ⟨fun q => by omega, fun q => by omega, fun q => by omega, fun q => by omega, fun q => by omega⟩
theorem wMR (D : va_G) (s : State) : aMR D s.heap.size s (wS D s s.heap) (wI D s s.heap) s.heap := by
  refine ⟨rfl, wCe D s s.heap, Nat.le_refl _, fun a h => ?_⟩
  have h' : wKd D s s.heap a < 999 := h
  rcases wKd_c D s s.heap a with ⟨g, _⟩ | ⟨g, _⟩ | ⟨g, _⟩ | g <;> omega
/-- an array whose first places are known -/
theorem wArr {ty : FieldType} {D : va_G} {s : State} {H : Heap} {a N : Nat} {f : Nat → Int32} {c : Cell} (h1 : H[a]? = some c) (h2 : s.isArrayOf c ty) (h3 : c.vm ≠ .unknown) (hN : N < 2147483648) (hz : c.slots.size.toInt32 = Int32.ofNat N) (hf : ∀ j, j < N → c.slots[j]? = some (.int (f j))) (hty : ty = .int ∨ ty = .byte) :
    wKd D s H a = (if ty = .int then 1100 else 1101) ∧ wN H a = N ∧ ∀ j, j < N → wI D s H a j = f j := by
  have en : wN H a = N := by
    unfold wN
    rw [h1]
    dsimp only
    have e := congrArg Int32.toBitVec hz
    have e1 : BitVec.ofNat 32 c.slots.size = BitVec.ofNat 32 N := e
    have e2 := congrArg BitVec.toNat e1
    rw [BitVec.toNat_ofNat, BitVec.toNat_ofNat] at e2
    omega
  have hA : wAr s ty H a := ⟨c, h1, h2, h3, by rw [en]; exact hN, fun j hj => by rw [en] at hj; rw [hf j hj]; rfl⟩
  have hk : wKd D s H a = (if ty = .int then 1100 else 1101) := by
    unfold wKd
    rcases hty with rfl | rfl
    · rw [if_pos hA]; rfl
    · have hno : ¬ wAr s .int H a := by
        rintro ⟨c', e1, e2, -⟩
        obtain ⟨-, k, hk, comp, hkind⟩ := h2
        cases h1.symm.trans e1
        obtain ⟨-, k', hk', comp', hkind'⟩ := e2
        cases hk.symm.trans hk'
        rw [hkind] at hkind'
        cases hkind'
      rw [if_neg hno, if_pos hA]; rfl
  refine ⟨hk, en, fun j hj => ?_⟩
  have hne : wKd D s H a ≠ 1000 := by rw [hk]; split <;> decide
  have es : wSl H a j = c.slots[j]? := by unfold wSl; rw [h1]
  unfold wI
  rw [if_neg hne, es, hf j hj]
  rfl
end WRLD
