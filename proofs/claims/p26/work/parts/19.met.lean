/-! the induction -/
section AIND
variable {E : Nat → Value} {l : Launch}
theorem aCalZ {en : aCE} (hB : aCalB en = true) : (en.2.2.1 = 8 ∧ en.2.2.2.2.1 = fL_act) ∨ (en.2.2.1 ≠ 8 ∧ en.2.2.2.2.1.2.2.2.1 ≠ 1000) := by
  obtain ⟨o', x', k, y, F, mL, n, C, host, ps⟩ := en
  dsimp only
  unfold aCalB at hB
  simp only [Bool.and_eq_true] at hB
  obtain ⟨-, b9⟩ := hB
  split at b9
  · simp only [Bool.and_eq_true, bne_iff_ne] at b9; exact Or.inr ⟨by decide, b9.2⟩
  · simp only [Bool.and_eq_true, bne_iff_ne] at b9; exact Or.inr ⟨by decide, b9.2⟩
  · simp only [Bool.and_eq_true, bne_iff_ne] at b9; exact Or.inr ⟨by decide, b9.1.1.2⟩
  · simp only [Bool.and_eq_true, bne_iff_ne] at b9; exact Or.inr ⟨by decide, b9.2⟩
  · simp only [Bool.and_eq_true, bne_iff_ne] at b9; exact Or.inr ⟨by decide, b9.2⟩
  · simp only [Bool.and_eq_true, bne_iff_ne] at b9; exact Or.inr ⟨by decide, b9.1.1.2⟩
  · simp only [Bool.and_eq_true, bne_iff_ne] at b9; exact Or.inr ⟨by decide, b9.1.2⟩
  · simp only [Bool.and_eq_true, bne_iff_ne] at b9; exact Or.inr ⟨by decide, b9.1.1.1.2⟩
  · simp only [Bool.and_eq_true, bne_iff_ne] at b9; exact Or.inr ⟨by decide, b9.1.2⟩
  · simp only [Bool.and_eq_true] at b9; exact Or.inl ⟨rfl, aIsF_s b9.2⟩
  · cases b9
theorem aCall_args {q o x : Nat} {st : List Value} {S : aS} {en : aCE} {as rest : List Value} (h : aCall q o x st S = some (.inr (.inr (en, as, rest)))) : aCalB en = true ∧ as.all aArg = true ∧ as.length ≤ en.2.2.2.2.2.1 := by
  unfold aCall at h
  split at h
  · cases h
  rename_i en' hen
  have hB := (aCal_s hen).2.2
  have hB' := hB
  obtain ⟨o', x', k, y, F, mL, n, C, host, ps⟩ := en'
  unfold aCalB at hB'
  simp only [Bool.and_eq_true, decide_eq_true_eq] at hB'
  obtain ⟨⟨⟨⟨⟨⟨⟨⟨b1, b2⟩, b3⟩, b4⟩, b5⟩, b6⟩, b7⟩, b8⟩, -⟩ := hB'
  dsimp only at h
  split at h
  case isFalse => cases h
  rename_i hk
  split at h
  · split at h
    case isFalse => cases h
    rename_i hg
    cases h
    refine ⟨hB, ?_, ?_⟩
    · rw [List.all_reverse]; exact hg.2.1
    · show (st.take n).reverse.length ≤ mL
      rw [List.length_reverse, List.length_take]
      omega
  · rename_i hq0
    split at h
    case h_2 => cases h
    split at h
    case isFalse => cases h
    rename_i hg
    cases h
    refine ⟨hB, ?_, ?_⟩
    · rw [List.all_cons, List.all_reverse, hg.2.1]; rfl
    · show (st.take n).reverse.length + 1 ≤ mL
      rw [List.length_reverse, List.length_take]
      have hk3 : ¬ (k = 0 ∨ k = 3 ∨ k = 8) := fun z => hq0 (by rw [← hk]; unfold aKnd; rw [if_pos z])
      rcases b6 with b6 | b6
      · omega
      · exact absurd b6.2 hk3
set_option maxHeartbeats 4000000 in
set_option maxRecDepth 100000 in
theorem aIns_call {F : aF} {pc np : Nat} {L : List (Option Value)} {st : List Value} {S : aS} {I : aI} {ins : Instr} {q : aCE × List Value × List Value} (h : aIns E F ins pc np L st S I = some (.inr (.inr q))) : (∃ x, ins = .invokestatic x ∧ aCall 0 F.1 x st S = some (.inr (.inr q))) ∨ (∃ x, ins = .invokevirtual x ∧ aCall 1 F.1 x st S = some (.inr (.inr q))) ∨ (∃ x, ins = .invokespecial x ∧ aCall 2 F.1 x st S = some (.inr (.inr q))) := by
  cases ins with
  | invokestatic x =>
    simp only [aIns] at h
    split at h
    · exfalso
      simp only [aMath, aGo] at h
      repeat' (first | (cases h; done) | (split at h))
    · split at h
      · exfalso
        simp only [aCopy, aGo] at h
        repeat' (first | (cases h; done) | (split at h))
      · exact Or.inl ⟨x, rfl, h⟩
  | invokevirtual x =>
    simp only [aIns] at h
    split at h
    · exfalso
      simp only [aClone, aGo] at h
      repeat' (first | (cases h; done) | (split at h))
    · exact Or.inr (Or.inl ⟨x, rfl, h⟩)
  | invokespecial x =>
    simp only [aIns] at h
    split at h
    · rename_i r hr
      exfalso
      cases h
      simp only [aObj, aGo] at hr
      repeat' (first | (cases hr; done) | (split at hr))
    · exact Or.inr (Or.inr ⟨x, rfl, h⟩)
  | dconst d =>
    exfalso
    revert h
    match d with
    | 0 => exact fun h => by cases h
    | 1 => exact fun h => by cases h
  | newarray t =>
    exfalso
    cases t <;> simp only [aIns, aNewA, aGo] at h <;> repeat' (first | (cases h; done) | (split at h))
  | multianewarray x n =>
    exfalso
    by_cases hn : n = 2
    · subst hn
      simp only [aIns, aGo] at h
      repeat' (first | (cases h; done) | (split at h))
    · simp only [aIns] at h
      split at h <;> first | (cases h; done) | (simp_all; done)
  | _ =>
    exfalso
    simp only [aIns, aLd, aSt, aStL, aB, aB0, aU1, aBL, aJmp, aALd, aASt, aAR, aASR, aGetF, aPutF, aNewA, aRet, aGo] at h
    repeat' (first | (cases h; done) | (split at h))
theorem aStep_call {F : aF} {pc : Nat} {L : List (Option Value)} {st : List Value} {S : aS} {I : aI} {q : aCE × List Value × List Value} (h : aStep E F pc L st S I = some (.inr (.inr q))) : ∃ k x, k ≤ 2 ∧ aCall k F.1 x st S = some (.inr (.inr q)) ∧ decode F.2.1 pc = .ok (if k = 0 then .invokestatic x else if k = 1 then .invokevirtual x else .invokespecial x, 3) := by
  unfold aStep at h
  split at h
  · rename_i r hd
    split at h
    · rename_i hl
      obtain ⟨ins, len⟩ := r
      dsimp only at hl h hd
      rcases aIns_call h with ⟨x, rfl, h1⟩ | ⟨x, rfl, h1⟩ | ⟨x, rfl, h1⟩
      · obtain rfl : len = 3 := by simpa [aLen] using hl
        exact ⟨0, x, by decide, h1, hd⟩
      · obtain rfl : len = 3 := by simpa [aLen] using hl
        exact ⟨1, x, by decide, h1, hd⟩
      · obtain rfl : len = 3 := by simpa [aLen] using hl
        exact ⟨2, x, by decide, h1, hd⟩
    · cases h
  · cases h
set_option maxHeartbeats 4000000 in
set_option maxRecDepth 100000 in
theorem aMetOf {f : Nat} (ih : aOK E l f) (hl : l.stackTraces = false) {en : aCE} (hB : aCalB en = true) {d : Nat} {as : List Value} {S : aS} {I : aI} {o : Option (Option Value)} {S' : aS} {I' : aI} {D : va_G} {nb : Nat} (hA : as.all aArg = true) (hn : as.length ≤ en.2.2.2.2.2.1) (h : aExec E f d en.2.2.2.2.1 0 (aArgs as en.2.2.2.2.2.1) [] S I = some (o, S', I')) :
    aMet l D E nb en.2.2.2.1 (aW0 en.2.2.1 en.2.2.2.1 en.2.2.2.2.1 en.2.2.2.2.2.1) d as S I o S' I' := by
  have hZ := aCalZ hB
  obtain ⟨o', x', k, y, F, mL, n, C, host, ps⟩ := en
  dsimp only at hn h hZ ⊢
  unfold aCalB at hB
  simp only [Bool.and_eq_true, decide_eq_true_eq] at hB
  obtain ⟨⟨⟨⟨⟨⟨⟨⟨b1, b2⟩, b3⟩, b4⟩, b5⟩, b6⟩, b7⟩, b8⟩, -⟩ := hB
  obtain ⟨hmono, hrun⟩ := ih d F 0 _ [] S I o S' I' h
  have hini : F.2.2.2.2 = true → y.name = "<init>" := fun hi => by
    rw [hi] at b7
    simpa using b7
  have body : ∀ (w0 : Cond) (p : Program) (e : Env) (s : State) (m : MethodId) (args : Array Value) (below : List Frame) (meth : Method) (c : Code) (s₁ : State), BodyLoose p l y (headSpec (w0 :: aT) (aRm d (aX S' - aX S) (aZ S' - aZ S))) F.2.1 mL F.2.2.1 e s m args below meth c s₁ → c.maxLocals = mL →
      (F.2.2.2.1 = 1000 → F = fL_act ∧ c.exceptionTable.toList = tableOf [(241, 267, 268, 202)]) → (F.2.2.2.1 = 1001 → F = fX7_mend ∧ c.exceptionTable.toList = []) → aPQ D E nb S I as args s →
      W p l e (aRm d (aX S' - aX S) (aZ S' - aZ S)) s m args below meth c s.heap [] 0 0 (vx_MQ below (aQ D nb o S' I') (aXQ D nb o S' I') args s (aX S' - aX S) (aZ S' - aZ S) (fun q => nb ≤ q)) (entryFrame m args mL) := by
    intro w0 p e s m args below meth c s₁ B hml ht1 ht2 hP
    obtain ⟨rfl, hM, hG⟩ := hP
    have hts0 := atoms_spec (ws := w0 :: aT) B.pre
    have hC : aCx p s m as.toArray meth c D E nb F := ⟨B.exec, B.bytes, B.returns, by rw [b1]; exact findClass_of_methodNamed B.named, fun w hw => hts0 w (List.mem_cons_of_mem _ hw), hG, B.notSynchronized, fun hi => (name_of_methodNamed B.named B.method).1.trans (hini hi), ht1, ht2⟩
    rw [lg_entry_eq]
    refine hrun p e (aRm d (aX S' - aX S) (aZ S' - aZ S)) s m _ below meth c s.heap [] 0 0 _ D nb _ hC hM (aEntry hA hn) (by rw [aArgs_len hn]; exact hml.symm) va_S.rf (Nat.le_refl _) (Nat.le_refl _) (by show 0 + _ ≤ (aX S' - aX S); omega) (by show 0 + _ ≤ (aZ S' - aZ S); omega) (fun v hv pc1 L1 st1 ls1 H1 locs1 hst hL1 hn1 hM1 hS1 => ?_) (fun ho S1 ls1 H1 locs1 hz hS' hle hlz hsz hM1 hS1 => ?_)
    · exact vx_ret (W.cs (Nat.zero_add _) (Nat.zero_add _) (aRetS B.exec B.bytes B.returns B.notSynchronized hst (fun t ht hW => ⟨⟨v, hv, rfl⟩, by rw [ht]; exact hM1.moved hW.alike, hS1.F ht⟩) hS1.2.2))
    · subst hS'
      have eX : aX (aNew S1 500 0 6) = aX S1 + 1 := rfl
      have eZ : aZ (aNew S1 500 0 6) = aZ S1 + 6 := rfl
      refine aThrown hl hC hz hM1 hS1 hsz ho (by show 16 ≤ d + 16; omega) (by show 800 ≤ 41 * d + 800; omega) (by show _ ≤ (aX (aNew S1 500 0 6) - aX S); omega) (by show _ ≤ (aZ (aNew S1 500 0 6) - aZ S); omega) (by omega) (by omega)
  have h1001 : F.2.2.2.1 = 1001 → F = fX7_mend := fun hz => by
    rw [hz] at b8
    exact aIsF_s (by simpa using b8)
  unfold aMet
  rcases hZ with ⟨rfl, hF⟩ | ⟨hk, hz⟩
  · unfold aW0
    rw [if_pos rfl]
    refine vx_ofWH (cc := F.2.1) (maxL := mL) (ret := F.2.2.1) b2 rfl (fun p e s m args below meth c s₁ B hml hP => body _ p e s m args below meth c s₁ B hml (fun _ => ⟨hF, vx_table (x := y) B (atoms_spec (ws := Cond.codeWith y F.2.1 mL F.2.2.1 [(241, 267, 268, 202)] :: aT) B.pre _ List.mem_cons_self)⟩) (fun hz => by rw [hF] at hz; exact absurd hz (by decide)) hP)
  · unfold aW0
    rw [if_neg hk]
    exact vx_ofW (cc := F.2.1) (maxL := mL) (ret := F.2.2.1) b2 rfl (fun p e s m args below meth c s₁ B hml htab hP => body _ p e s m args below meth c s₁ B hml (fun z => absurd z hz) (fun z => ⟨h1001 z, List.eq_nil_iff_forall_not_mem.mpr (fun x hx => htab x hx)⟩) hP)
end AIND
