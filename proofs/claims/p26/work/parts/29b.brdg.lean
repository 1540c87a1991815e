/-! from a run of the small machine to the law's own end -/
section ZP1
variable {E : Nat → Value} {F : aF} {pc : Nat} {L : List (Option Value)} {st : List Value} {S : aS} {I : aI}
theorem wRet (hF : F.2.2.1 = some .boolean) (h : aStep E F pc L st S I = some (.inr (.inl (some (.int 1))))) : decode F.2.1 pc = .ok (.ireturn, 1) ∧ st = [.int 1] := by
  unfold aStep at h
  split at h
  · rename_i q hd
    split at h
    · rename_i hl
      obtain ⟨ins, len⟩ := q
      dsimp only at hl h hd
      rcases aIns_ret h with rfl | rfl | rfl | rfl | rfl
      · obtain rfl : len = 1 := by simpa [aLen] using hl
        simp only [aIns, aRet] at h
        split at h
        · rename_i w
          split at h
          · rename_i ty hty
            split at h
            · rename_i hk
              cases h
              exact ⟨hd, rfl⟩
            · cases h
          · cases h
        · cases h
      · exfalso
        simp only [aIns] at h
        split at h
        · rename_i w
          split at h
          · rename_i nm hty
            rw [hF] at hty
            cases hty
          · rename_i nm hty
            rw [hF] at hty
            cases hty
          · cases h
        · cases h
      · exfalso
        simp only [aIns] at h
        split at h
        · split at h
          · rename_i hty
            rw [hF] at hty
            cases hty
          · cases h
        · cases h
      · exfalso
        simp only [aIns] at h
        split at h
        · split at h
          · rename_i hty
            rw [hF] at hty
            cases hty
          · cases h
        · cases h
      · exfalso
        simp only [aIns] at h
        split at h
        · split at h
          · cases h
          · cases h
        · cases h
    · cases h
  · cases h
end ZP1
section ZP2
theorem wR11 : aR 11 = R_law := by decide +kernel
set_option maxHeartbeats 4000000 in
theorem wBr {p : Program} {e : Env} {s : State} {m : MethodId} {below : List Frame} {meth : Method} {c : Code} (l : Launch) (hflags : l.flags = flags0) {b L : Nat} {xs : Nat → Int32} (C0 : lw_At p s m meth c b L xs) {D : va_G} (hK : va_K D vwCl [] s)
    (h : X (wE #[Value.ref b] s) 100 fLaw 0 (aArgs [Value.ref b] 36) [] (wS D s s.heap) (wI D s s.heap) (fun o S' _ => o = some (some (.int 1)) ∧ aX S' ≤ s.heap.size + 5000 ∧ aZ S' ≤ 6000000)) :
    W p l e room_1 s m #[Value.ref b] below meth c s.heap [] 0 0 (lw_Z below #[Value.ref b] s) (entryFrame m ([Value.ref b] : List Value).toArray 36) := by
  obtain ⟨hx, hb, hr, hml, hown, hts, hX, hbl, hlk, hgv⟩ := C0
  have hl : l.stackTraces = false := by
    unfold Launch.stackTraces
    rw [hflags]
    decide
  have hg : ∀ w ∈ wG, w.before #[Value.ref b] s = true := fun w hw => flat_of_before _ hgv w hw
  obtain ⟨f, o, S', I', h1, h2, ho, hX', hZ'⟩ := h
  subst ho
  obtain ⟨-, hrun⟩ := aSnd hl f 100 fLaw 0 _ [] _ _ _ _ _ h1
  have hC : aCx p s m #[Value.ref b] meth c D (wE #[Value.ref b] s) s.heap.size fLaw := ⟨hx, hb, hr, by show s.vm.findClass (aR 11) = _; rw [wR11]; exact hown, wTs hts, wGl hK hg hts, hlk, fun h => absurd (show false = true from h) (by decide), fun h => absurd (show (23 : Nat) = 1000 from h) (by decide), fun h => absurd (show (23 : Nat) = 1001 from h) (by decide)⟩
  have eX : aX (wS D s s.heap) = s.heap.size := rfl
  have eZ : aZ (wS D s s.heap) = 0 := rfl
  rw [lg_entry_eq]
  refine hrun p e room_1 s m #[Value.ref b] below meth c s.heap [] 0 0 _ D s.heap.size _ hC (wMR D s) (aEntry (as := [Value.ref b]) (n := 36) (z := 23) rfl (by show 1 ≤ 36; omega)) (by rw [aArgs_len (by show 1 ≤ 36; omega)]; exact hml.symm) va_S.rf (by show 100 + 16 ≤ 2048; omega) (by show 41 * 100 + 800 ≤ 84000; omega) (by show _ ≤ 600086; omega) (by show _ ≤ 7301442; omega) (fun v hv pc1 L1 st1 ls1 H1 locs1 hst hL1 hn1 hM1 hS1 => ?_) (fun ho => nomatch ho)
  obtain rfl : v = some (.int 1) := (Option.some.inj hv).symm
  obtain ⟨hd, rfl⟩ := wRet rfl hst
  exact va_forget (fun q hq => hS1.2.2 q hq) (W.widen (k := 600086) (n := 7301442) (by omega) (by omega) (W.base (lw_ret (d0 := s.drawn) (Drawn.sameBut.refl s.drawn lw_cs) hx hb hr hlk hd)))
end ZP2
