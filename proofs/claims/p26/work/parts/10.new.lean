/-! the steps that make cells -/
section ANEWS
variable {p : Program} {l : Launch} {e : Env} {R : Room} {s : State} {m : MethodId} {args : Array Value} {below : List Frame} {meth : Method} {c : Code} {H : Heap} {locs : List Loc} {cells slots : Nat} {Q : State → Prop}
variable {D : va_G} {E : Nat → Value} {nb : Nat} {F : aF} {pc : Nat} {L : List (Option Value)} {st : List Value} {S : aS} {I : aI} {ls : Array Slot}
variable {pc' : Nat} {L' : List (Option Value)} {st' : List Value} {S' : aS} {I' : aI}
theorem aX_new {k n z : Nat} : aX (aNew S k n z) - aX S = 1 := by
  show aX S + 1 - aX S = 1
  omega
theorem aZ_new {k n z : Nat} : aZ (aNew S k n z) - aZ S = z := by
  show aZ S + z - aZ S = z
  omega
theorem aNewI (hC : aCx p s m args meth c D E nb F) (hM : aMR D nb s S I H) (hL : aLR ls L F.2.2.2.1) (hS : va_S (fun q => nb ≤ q) s.heap H locs) (hd : decode F.2.1 pc = .ok (.newarray .int, 2)) (h : aNewA 100 4 (pc + 2) L st S I = some (.inl (pc', L', st', S', I')))
    (hc : cells + (aX S' - aX S) ≤ R.cells) (hs : slots + (aZ S' - aZ S) ≤ R.slots)
    (kk : aKm p l e R s m args below meth c cells slots Q D nb F.2.2.2.1 L.length S pc' L' st' S' I') : W p l e R s m args below meth c H locs cells slots Q (F0 m pc ls st) := by
  obtain ⟨hx, hb, hr, hown, hts, hG, hlk, hini, -⟩ := hC
  unfold aNewA at h
  split at h
  · rename_i n r
    split at h
    · rename_i hk
      obtain ⟨h0, h4⟩ := hk
      obtain ⟨rfl, rfl, rfl, rfl, rfl⟩ := aGo_in2 h
      rw [aX_new] at hc
      rw [aZ_new] at hs
      refine va_newaK (atype := .int) hx hb (hts _ aW_int) rfl hd rfl (Int32.not_lt.mpr h0) rfl h4 hc hs hM.1 fun H1 cA e1 z1 o1 hAr hNm => ?_
      have k := kk ls H1 locs hL rfl (hM.new z1 (fun q hq => o1 q (by rw [← hM.1]; exact hq)) (aCe.arr (cA := cA) aNew_K hAr hNm (by rw [aNew_N, e1, aU_self]; rfl))) (aS_new hS (by rw [z1, hM.1]; omega) (fun q hq => o1 q (by rw [← hM.1]; exact hq)))
      rw [aX_new, aZ_new] at k
      exact k
    · cases h
  · cases h
theorem aNewB (hC : aCx p s m args meth c D E nb F) (hM : aMR D nb s S I H) (hL : aLR ls L F.2.2.2.1) (hS : va_S (fun q => nb ≤ q) s.heap H locs) (hd : decode F.2.1 pc = .ok (.newarray .byte, 2)) (h : aNewA 101 1 (pc + 2) L st S I = some (.inl (pc', L', st', S', I')))
    (hc : cells + (aX S' - aX S) ≤ R.cells) (hs : slots + (aZ S' - aZ S) ≤ R.slots)
    (kk : aKm p l e R s m args below meth c cells slots Q D nb F.2.2.2.1 L.length S pc' L' st' S' I') : W p l e R s m args below meth c H locs cells slots Q (F0 m pc ls st) := by
  obtain ⟨hx, hb, hr, hown, hts, hG, hlk, hini, -⟩ := hC
  unfold aNewA at h
  split at h
  · rename_i n r
    split at h
    · rename_i hk
      obtain ⟨h0, h4⟩ := hk
      obtain ⟨rfl, rfl, rfl, rfl, rfl⟩ := aGo_in2 h
      rw [aX_new] at hc
      rw [aZ_new] at hs
      refine va_newaK (atype := .byte) hx hb (hts _ aW_byte) rfl hd rfl (Int32.not_lt.mpr h0) rfl h4 hc hs hM.1 fun H1 cA e1 z1 o1 hAr hNm => ?_
      have k := kk ls H1 locs hL rfl (hM.new z1 (fun q hq => o1 q (by rw [← hM.1]; exact hq)) (aCe.byt (cA := cA) aNew_K hAr hNm (by rw [aNew_N, e1, aU_self]; rfl))) (aS_new hS (by rw [z1, hM.1]; omega) (fun q hq => o1 q (by rw [← hM.1]; exact hq)))
      rw [aX_new, aZ_new] at k
      exact k
    · cases h
  · cases h
theorem aNewR {x : Nat} (hC : aCx p s m args meth c D E nb F) (hM : aMR D nb s S I H) (hL : aLR ls L F.2.2.2.1) (hS : va_S (fun q => nb ≤ q) s.heap H locs) (hd : decode F.2.1 pc = .ok (.anewarray x, 3)) (hx0 : aHas aAnwT F.1 x = true) (h : aNewA 102 4 (pc + 3) L st S I = some (.inl (pc', L', st', S', I')))
    (hc : cells + (aX S' - aX S) ≤ R.cells) (hs : slots + (aZ S' - aZ S) ≤ R.slots)
    (kk : aKm p l e R s m args below meth c cells slots Q D nb F.2.2.2.1 L.length S pc' L' st' S' I') : W p l e R s m args below meth c H locs cells slots Q (F0 m pc ls st) := by
  obtain ⟨hx, hb, hr, hown, hts, hG, hlk, hini, -⟩ := hC
  obtain ⟨en, hen, e1, e2⟩ := aHas_s hx0
  have hw := List.all_eq_true.mp aAnwOk en hen
  unfold aAnwB at hw
  simp only [Bool.and_eq_true, decide_eq_true_eq] at hw
  rw [e1, e2] at hw
  unfold aNewA at h
  split at h
  · rename_i n r
    split at h
    · rename_i hk
      obtain ⟨h0, h4⟩ := hk
      obtain ⟨rfl, rfl, rfl, rfl, rfl⟩ := aGo_in2 h
      rw [aX_new] at hc
      rw [aZ_new] at hs
      refine W.anewA (t := .int) hx hb hown (hts _ (aT_of hw.1 hw.2)) hG.2.2.2.2.1 rfl hd rfl (Int32.not_lt.mpr h0) h4 hc hs fun cA kA comp f1 f2 f3 f4 => ?_
      generalize hH1 : H.push ({ cls := cA, slots := Array.replicate n.toNatClampNeg .null, vm := .none } : Cell) = H1
      have z1 : H1.size = H.size + 1 := by rw [← hH1, Array.size_push]
      have e1 : H1[H.size]? = some (arrV cA n.toNatClampNeg (fun _ => .null)) := by rw [← hH1, Array.getElem?_push_size, ← arrV_new]
      have o1 : ∀ q : Nat, q < H.size → H1[q]? = H[q]? := fun q hq => by rw [← hH1, Array.getElem?_push, if_neg (Nat.ne_of_lt hq)]
      have hAr : ArrOfT s cA (.array .int) := fun N z => ⟨(fun k h => by cases h), kA, f2, comp, f3⟩
      have k := kk ls H1 locs hL rfl (hM.new (by rw [z1, hM.1]) o1 (aCe.row (cA := cA) aNew_K hAr f1 (by rw [aNew_N, aNew_P, ← hM.1, e1]; rfl))) (aS_new hS (by omega) o1)
      rw [aX_new, aZ_new] at k
      rw [hM.1]
      exact k
    · cases h
  · cases h
theorem aNewO {x : Nat} (hC : aCx p s m args meth c D E nb F) (hM : aMR D nb s S I H) (hL : aLR ls L F.2.2.2.1) (hS : va_S (fun q => nb ≤ q) s.heap H locs) (hd : decode F.2.1 pc = .ok (.new x, 3)) (h : aIns E F (.new x) pc (pc + 3) L st S I = some (.inl (pc', L', st', S', I')))
    (hc : cells + (aX S' - aX S) ≤ R.cells) (hs : slots + (aZ S' - aZ S) ≤ R.slots)
    (kk : aKm p l e R s m args below meth c cells slots Q D nb F.2.2.2.1 L.length S pc' L' st' S' I') : W p l e R s m args below meth c H locs cells slots Q (F0 m pc ls st) := by
  obtain ⟨hx, hb, hr, hown, hts, hG, hlk, hini, -⟩ := hC
  simp only [aIns] at h
  split at h
  · rename_i en he
    obtain ⟨rfl, rfl, rfl, rfl, rfl⟩ := aGo_in2 h
    obtain ⟨q, hq, hn, w1, w2, w3⟩ := aNwo_s he
    obtain ⟨hc11, hws, hty, hnm⟩ := aCls hq
    rw [aX_new] at hc
    rw [aZ_new] at hs
    have hKn := hG.1.1 _ _ hq
    refine W.newcK hx hb hown (hts _ w1) (hts _ w2) (hts _ w3) rfl hd hc (by rw [hn]; exact hs) hKn.2.1 hM.1 fun H1 kC hkC e1 z1 o1 => ?_
    have hB := u_born (aTy en.2.2.1) hts hws hKn hkC e1 hty
    have hkd : aK (aNew S en.2.2.1 en.2.2.2.1 en.2.2.2.1) (aX S) = en.2.2.1 := aNew_K
    have k := kk ls H1 locs hL rfl (hM.new (by rw [z1]) (fun q hq => o1 q (by rw [← hM.1]; exact hq)) ⟨fun _ => ?_, fun q5 => ?_, fun q5 => ?_, fun q5 => ?_, fun q5 => ?_⟩) (aS_new hS (by rw [z1, hM.1]; omega) (fun q hq => o1 q (by rw [← hM.1]; exact hq)))
    · rw [aX_new, aZ_new] at k
      rw [hn]
      exact k
    · rw [hkd]
      refine ⟨q, hq, hB.to (fun k hk => ?_)⟩
      rw [aDf hq hk]
      unfold aFV
      rw [aNew_P, aU_self]
    · rw [hkd] at q5; omega
    · rw [hkd] at q5; omega
    · rw [hkd] at q5; omega
    · rw [hkd] at q5; omega
  · cases h
end ANEWS
