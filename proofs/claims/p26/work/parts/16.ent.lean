/-! a frame's beginning and its end -/
section AENT
theorem aArg1 {v : Value} (h : aArg v = true) : v.category = 1 := by cases v <;> first | rfl | cases h
theorem aSl {as : List Value} (h : as.all aArg = true) : lg_sl as = as.map Slot.val := by
  induction as with
  | nil => rfl
  | cons v vs ih =>
    simp only [List.all_cons, Bool.and_eq_true] at h
    have h1 := ih h.2
    unfold lg_sl at h1 ⊢
    rw [List.flatMap_cons, h1, aArg1 h.1]
    rfl
theorem aLa {as : List Value} (h : as.all aArg = true) : ∀ (i j : Nat) (v : Value), as[j]? = some v → (i + j, v) ∈ lv_args i as := by
  induction as with
  | nil => intro i j v hv; simp at hv
  | cons w vs ih =>
    simp only [List.all_cons, Bool.and_eq_true] at h
    intro i j v hv
    unfold lv_args
    rw [aArg1 h.1, if_neg (by decide)]
    cases j with
    | zero =>
      simp at hv
      subst hv
      exact List.mem_cons_self
    | succ j =>
      rw [List.getElem?_cons_succ] at hv
      have := ih h.2 (i + 1) j v hv
      rw [show i + 1 + j = i + (j + 1) by omega] at this
      exact List.mem_cons_of_mem _ this
theorem aArgs_len {as : List Value} {n : Nat} (h : as.length ≤ n) : (aArgs as n).length = n := by
  unfold aArgs
  rw [List.length_append, List.length_map, List.length_replicate]
  omega
theorem aArgs_get {as : List Value} {n j : Nat} {v : Value} (h : (aArgs as n)[j]? = some (some v)) : as[j]? = some v := by
  unfold aArgs at h
  by_cases hj : j < as.length
  · rw [List.getElem?_append_left (by rw [List.length_map]; exact hj), List.getElem?_map] at h
    cases hv : as[j]? with
    | none => rw [hv] at h; cases h
    | some w => rw [hv] at h; cases h; rfl
  · rw [List.getElem?_append_right (by rw [List.length_map]; omega)] at h
    have := List.mem_of_getElem? h
    rw [List.mem_replicate] at this
    cases this.2
theorem aEntry {as : List Value} {n z : Nat} (hA : as.all aArg = true) (hn : as.length ≤ n) : aLR ((lg_sl as ++ List.replicate (n - (lg_sl as).length) Slot.unset).toArray) (aArgs as n) z := by
  have hl : (lg_sl as).length ≤ n := by rw [aSl hA, List.length_map]; exact hn
  have h := lv_entry as hl
  refine ⟨⟨by rw [h.1, aArgs_len hn], h.2.1, fun q hq => ?_⟩, fun j v hj hc => ?_⟩
  · obtain ⟨j, v⟩ := q
    have := aLa hA 0 j v (aArgs_get (aPr_mem.mp hq))
    rw [Nat.zero_add] at this
    exact h.2.2 (j, v) this
  · have h1 := List.all_eq_true.mp hA v (List.mem_of_getElem? (aArgs_get hj))
    rw [aArg1 h1] at hc
    cases hc
variable {p : Program} {l : Launch} {e : Env} {R : Room} {s : State} {m : MethodId} {args : Array Value} {below : List Frame} {meth : Method} {c : Code} {H : Heap} {locs : List Loc} {cells slots : Nat} {Q : State → Prop}
variable {D : va_G} {E : Nat → Value} {nb : Nat} {F : aF} {pc np : Nat} {L : List (Option Value)} {st : List Value} {S : aS} {I : aI} {ls : Array Slot}
theorem aGo_no {pc : Nat} {v : Option Value} (h : aGo pc L st S I = some (.inr (.inl v))) : False := by cases h
set_option maxHeartbeats 4000000 in
theorem aIns_ret {ins : Instr} {v : Option Value} (h : aIns E F ins pc np L st S I = some (.inr (.inl v))) : ins = .ireturn ∨ ins = .areturn ∨ ins = .lreturn ∨ ins = .dreturn ∨ ins = .return_ := by
  cases ins with
  | ireturn => exact Or.inl rfl
  | areturn => exact Or.inr (Or.inl rfl)
  | lreturn => exact Or.inr (Or.inr (Or.inl rfl))
  | dreturn => exact Or.inr (Or.inr (Or.inr (Or.inl rfl)))
  | return_ => exact Or.inr (Or.inr (Or.inr (Or.inr rfl)))
  | dconst d =>
    exfalso
    revert h
    match d with
    | 0 => exact fun h => by cases h
    | 1 => exact fun h => by cases h
  | newarray t =>
    exfalso
    cases t <;> simp only [aIns, aNewA, aGo] at h <;> repeat' (first | (cases h; done) | (split at h))
  | multianewarray x n =>
    exfalso
    by_cases hn : n = 2
    · subst hn
      simp only [aIns, aGo] at h
      repeat' (first | (cases h; done) | (split at h))
    · simp only [aIns] at h
      split at h <;> first | (cases h; done) | (simp_all; done)
  | invokestatic x =>
    exfalso
    simp only [aIns] at h
    split at h
    · simp only [aMath, aGo] at h
      repeat' (first | (cases h; done) | (split at h))
    · split at h
      · simp only [aCopy, aGo] at h
        repeat' (first | (cases h; done) | (split at h))
      · simp only [aCall] at h
        repeat' (first | (cases h; done) | (split at h))
  | invokevirtual x =>
    exfalso
    simp only [aIns] at h
    split at h
    · simp only [aClone, aGo] at h
      repeat' (first | (cases h; done) | (split at h))
    · simp only [aCall] at h
      repeat' (first | (cases h; done) | (split at h))
  | invokespecial x =>
    exfalso
    simp only [aIns] at h
    split at h
    · rename_i r hr
      cases h
      simp only [aObj, aGo] at hr
      repeat' (first | (cases hr; done) | (split at hr))
    · simp only [aCall] at h
      repeat' (first | (cases h; done) | (split at h))
  | _ =>
    exfalso
    simp only [aIns, aLd, aSt, aStL, aB, aB0, aU1, aBL, aJmp, aALd, aASt, aAR, aASR, aGetF, aPutF, aNewA, aGo] at h
    repeat' (first | (cases h; done) | (split at h))
theorem aRetS {Qc : Array Value → State → Outcome → State → Prop} {free : Addr → Prop} {v : Option Value} (hx : p.tables.exec = Jvm.exec) (hb : c.code = F.2.1) (hr : meth.sig.returnType = F.2.2.1) (hlk : meth.locks = false) (h : aStep E F pc L st S I = some (.inr (.inl v)))
    (hq : ∀ t : State, t.heap = H → s.WarmedH t.vm → Qc args s (.returned v) t) (hf : ∀ q ∈ locs, free q.base) : W p l e R s m args below meth c H locs cells slots (MQ below Qc args s cells slots free) (F0 m pc ls st) := by
  unfold aStep at h
  split at h
  · rename_i q hd
    split at h
    · rename_i hl
      obtain ⟨ins, len⟩ := q
      dsimp only at hl h hd
      rcases aIns_ret h with rfl | rfl | rfl | rfl | rfl
      · obtain rfl : len = 1 := by simpa [aLen] using hl
        simp only [aIns, aRet] at h
        split at h
        · rename_i w
          split at h
          · rename_i ty hty
            split at h
            · rename_i hk
              cases h
              obtain ⟨x, rfl⟩ := aI_int hk.1
              exact W.zret hx hb (hr.trans hty) hk.2 hq hf hd hlk
            · cases h
          · cases h
        · cases h
      · obtain rfl : len = 1 := by simpa [aLen] using hl
        simp only [aIns] at h
        split at h
        · rename_i w
          split at h
          · rename_i nm hty
            split at h
            · rename_i hk
              cases h
              exact W.aret hx hb (hr.trans hty) (Or.inl ⟨_, rfl⟩) (aI_ref hk) hq hf hd hlk
            · cases h
          · rename_i nm hty
            split at h
            · rename_i hk
              cases h
              exact W.aret hx hb (hr.trans hty) (Or.inr ⟨_, rfl⟩) (aI_ref hk) hq hf hd hlk
            · cases h
          · cases h
        · cases h
      · obtain rfl : len = 1 := by simpa [aLen] using hl
        simp only [aIns] at h
        split at h
        · split at h
          · rename_i hty
            cases h
            exact W.lret hx hb (hr.trans hty) hq hf hd hlk
          · cases h
        · cases h
      · obtain rfl : len = 1 := by simpa [aLen] using hl
        simp only [aIns] at h
        split at h
        · split at h
          · rename_i hty
            cases h
            exact W.dret hx hb (hr.trans hty) hq hf hd hlk
          · cases h
        · cases h
      · obtain rfl : len = 1 := by simpa [aLen] using hl
        simp only [aIns] at h
        split at h
        · split at h
          · rename_i hty
            cases h
            exact W.vret hx hb (hr.trans hty) hq hf hd hlk
          · cases h
        · cases h
    · cases h
  · cases h
end AENT
