/-! a step that goes on in its frame -/
section AALL
variable {p : Program} {l : Launch} {e : Env} {R : Room} {s : State} {m : MethodId} {args : Array Value} {below : List Frame} {meth : Method} {c : Code} {H : Heap} {locs : List Loc} {cells slots : Nat} {Q : State → Prop}
variable {D : va_G} {E : Nat → Value} {nb : Nat} {F : aF} {pc : Nat} {L : List (Option Value)} {st : List Value} {S : aS} {I : aI} {ls : Array Slot}
variable {pc' : Nat} {L' : List (Option Value)} {st' : List Value} {S' : aS} {I' : aI}
theorem aObjOk : aObjP.all (fun e => decide (aTb[e.2.2]? = some (.methodLink (aR e.1) e.2.1 Lib.objectInit)) && goodWord (.methodLink (aR e.1) e.2.1 Lib.objectInit)) = true := by decide +kernel
theorem aObjTP : aObjT = aObjP.map (fun e => (e.1, e.2.1)) := by decide +kernel
theorem aObj_w1 : Cond.instanceMethod Lib.objectInit ∈ aT := aT_of (i := 69) (by decide +kernel) (by decide +kernel)
theorem aObj_w2 : Cond.code Lib.objectInit ⟨#[0xb1]⟩ 1 none ∈ aT := aT_of (i := 70) (by decide +kernel) (by decide +kernel)
theorem aObj_s {o x : Nat} (h : aObjT.contains (o, x) = true) : Cond.methodLink (aR o) x Lib.objectInit ∈ aT := by
  have hm : (o, x) ∈ aObjT := List.contains_iff_mem.mp h
  rw [aObjTP] at hm
  obtain ⟨e, h1, h2⟩ := List.mem_map.mp hm
  have hb := List.all_eq_true.mp aObjOk e h1
  simp only [Bool.and_eq_true, decide_eq_true_eq] at hb
  cases h2
  exact aT_of hb.1 hb.2
def aMthY : Nat → MethodName
  | 0 => Lib.Math.min.name
  | 1 => Lib.Math.max.name
  | _ => Lib.Math.abs.name
theorem aMthOk : aMthT.all (fun e => decide (aTb[e.2.2.2]? = some (.methodLink (aR e.1) e.2.1 (aMthY e.2.2.1))) && goodWord (.methodLink (aR e.1) e.2.1 (aMthY e.2.2.1))) = true := by decide +kernel
theorem aMth_i : Cond.initialized "java/lang/Math" ∈ aT := aT_of (i := 42) (by decide +kernel) (by decide +kernel)
theorem aMth_s0 : Cond.static Lib.Math.min.name ∈ aT := aT_of (i := 607) (by decide +kernel) (by decide +kernel)
theorem aMth_s1 : Cond.static Lib.Math.max.name ∈ aT := aT_of (i := 742) (by decide +kernel) (by decide +kernel)
theorem aMth_s2 : Cond.static Lib.Math.abs.name ∈ aT := aT_of (i := 726) (by decide +kernel) (by decide +kernel)
theorem aMth_c0 : Cond.code Lib.Math.min.name Lib.Math.min.code 2 (some .int) ∈ aT := aT_of (i := 608) (by decide +kernel) (by decide +kernel)
theorem aMth_c1 : Cond.code Lib.Math.max.name Lib.Math.max.code 2 (some .int) ∈ aT := aT_of (i := 743) (by decide +kernel) (by decide +kernel)
theorem aMth_c2 : Cond.code Lib.Math.abs.name Lib.Math.abs.code 1 (some .int) ∈ aT := aT_of (i := 727) (by decide +kernel) (by decide +kernel)
theorem aMathS {x : Nat} {en : Nat × Nat × Nat × Nat} (hC : aCx p s m args meth c D E nb F) (hM : aMR D nb s S I H) (hL : aLR ls L F.2.2.2.1) (hml : c.maxLocals = ls.size) (hS : va_S (fun q => nb ≤ q) s.heap H locs) (hd : decode F.2.1 pc = .ok (.invokestatic x, 3)) (he : aMth F.1 x = some en) (h : aMath en.2.2.1 (pc + 3) L st S I = some (.inl (pc', L', st', S', I')))
    (hf : 1 ≤ R.frames) (hlo : 100 ≤ R.locals) (hc : cells + (aX S' - aX S) ≤ R.cells) (hs : slots + (aZ S' - aZ S) ≤ R.slots)
    (kk : aKm p l e R s m args below meth c cells slots Q D nb F.2.2.2.1 L.length S pc' L' st' S' I') : W p l e R s m args below meth c H locs cells slots Q (F0 m pc ls st) := by
  obtain ⟨hx, hb, hr, hown, hts, hG, hlk, hini, -⟩ := hC
  have hw : Cond.methodLink (aR F.1) x (aMthY en.2.2.1) ∈ aT := by
    unfold aMth at he
    have hp := List.find?_some he
    simp only [Bool.and_eq_true, beq_iff_eq] at hp
    have hb := List.all_eq_true.mp aMthOk en (List.mem_of_find?_eq_some he)
    simp only [Bool.and_eq_true, decide_eq_true_eq] at hb
    rw [hp.1, hp.2] at hb
    exact aT_of hb.1 hb.2
  generalize en.2.2.1 = k at h hw
  unfold aMath at h
  split at h
  · split at h
    · rename_i y z r
      split at h
      · rename_i hk
        obtain ⟨rfl, rfl, rfl, rfl, rfl⟩ := aGo_in2 h
        unfold aCat at hk
        exact va_mmin hx hb hml hown (hts _ hw) (hts _ aMth_s0) (hts _ aMth_i) (hts _ aMth_c0) hf (by omega) (by omega) (by omega) hd (kk.same rfl rfl hL rfl hM hS)
      · cases h
    · cases h
  · split at h
    · rename_i y z r
      split at h
      · rename_i hk
        obtain ⟨rfl, rfl, rfl, rfl, rfl⟩ := aGo_in2 h
        unfold aCat at hk
        exact va_mmax hx hb hml hown (hts _ hw) (hts _ aMth_s1) (hts _ aMth_i) (hts _ aMth_c1) hf (by omega) (by omega) (by omega) hd (kk.same rfl rfl hL rfl hM hS)
      · cases h
    · cases h
  · split at h
    · rename_i z r
      split at h
      · rename_i hk
        obtain ⟨rfl, rfl, rfl, rfl, rfl⟩ := aGo_in2 h
        unfold aCat at hk
        have hw2 : aMthY k = Lib.Math.abs.name := by
          unfold aMthY
          split <;> first | rfl | (exfalso; simp_all; done)
        rw [hw2] at hw
        exact va_mabs hx hb hml hown (hts _ hw) (hts _ aMth_s2) (hts _ aMth_i) (hts _ aMth_c2) hf (by omega) (by omega) (by omega) hd (kk.same rfl rfl hL rfl hM hS)
      · cases h
    · cases h
theorem aCallI_no {nst o x : Nat} {c' : aC} (h : aCall nst o x st S = some (.inl c')) : False := by
  unfold aCall at h
  repeat' (first | (cases h; done) | (split at h))
set_option maxHeartbeats 4000000 in
theorem aStepM (hC : aCx p s m args meth c D E nb F) (hM : aMR D nb s S I H) (hL : aLR ls L F.2.2.2.1) (hn : L.length = c.maxLocals) (hS : va_S (fun q => nb ≤ q) s.heap H locs) (h : aStep E F pc L st S I = some (.inl (pc', L', st', S', I')))
    (hf : 1 ≤ R.frames) (hlo : 100 ≤ R.locals) (hc : cells + (aX S' - aX S) ≤ R.cells) (hs : slots + (aZ S' - aZ S) ≤ R.slots)
    (kk : aKm p l e R s m args below meth c cells slots Q D nb F.2.2.2.1 L.length S pc' L' st' S' I') : W p l e R s m args below meth c H locs cells slots Q (F0 m pc ls st) := by
  have hml : c.maxLocals = ls.size := by rw [← hn, hL.1.1]
  unfold aStep at h
  split at h
  · rename_i q hq
    split at h
    · rename_i hl
      obtain ⟨ins, len⟩ := q
      dsimp only at hl h hq
      by_cases hm : aMem ins = false
      · obtain ⟨rfl, rfl, k⟩ := aPureS (l := l) (e := e) (R := R) (s := s) (m := m) (args := args) (below := below) (meth := meth) (H := H) (locs := locs) (cells := cells) (slots := slots) (Q := Q) hC.1 hC.2.1 hL hq hl hm h
        exact k (fun ls' h1 h2 => kk.same rfl rfl h1 h2 hM hS)
      · cases ins with
        | getfield x =>
          obtain rfl : len = 3 := by simpa [aLen] using hl
          exact aGetS hC hM hL hS hq h kk
        | putfield x =>
          obtain rfl : len = 3 := by simpa [aLen] using hl
          exact aPutS hC hM hL hS hq h kk
        | getstatic x =>
          obtain rfl : len = 3 := by simpa [aLen] using hl
          exact aGetsS hC hM hL hS hq h kk
        | newarray t =>
          obtain rfl : len = 2 := by simpa [aLen] using hl
          cases t with
          | int => exact aNewI hC hM hL hS hq h hc hs kk
          | byte => exact aNewB hC hM hL hS hq h hc hs kk
          | _ => cases h
        | new x =>
          obtain rfl : len = 3 := by simpa [aLen] using hl
          exact aNewO hC hM hL hS hq h hc hs kk
        | arraylength =>
          obtain rfl : len = 1 := by simpa [aLen] using hl
          exact aAlenS hC hM hL hS hq h kk
        | iaload =>
          obtain rfl : len = 1 := by simpa [aLen] using hl
          exact aIaldS hC hM hL hS hq h kk
        | baload =>
          obtain rfl : len = 1 := by simpa [aLen] using hl
          exact aBaldS hC hM hL hS hq h kk
        | iastore =>
          obtain rfl : len = 1 := by simpa [aLen] using hl
          exact aIastS hC hM hL hS hq h kk
        | bastore =>
          obtain rfl : len = 1 := by simpa [aLen] using hl
          exact aBastS hC hM hL hS hq h kk
        | aaload =>
          obtain rfl : len = 1 := by simpa [aLen] using hl
          exact aAaldS hC hM hL hS hq h kk
        | aastore =>
          obtain rfl : len = 1 := by simpa [aLen] using hl
          exact aAastS hC hM hL hS hq h kk
        | ldc x =>
          obtain rfl : len = 2 := by simpa [aLen] using hl
          exact aLdcS hC hM hL hS hq h kk
        | ldc2_w x =>
          obtain rfl : len = 3 := by simpa [aLen] using hl
          exact aLdc2S hC hM hL hS hq h kk
        | anewarray x =>
          obtain rfl : len = 3 := by simpa [aLen] using hl
          simp only [aIns] at h
          split at h
          · rename_i h0
            exact aNewR hC hM hL hS hq h0 h hc hs kk
          · cases h
        | multianewarray x n =>
          obtain rfl : len = 4 := by simpa [aLen] using hl
          by_cases hn2 : n = 2
          · subst hn2
            exact aMulS_S hC hM hL hS hq h hc hs kk
          · simp only [aIns] at h
            split at h <;> first | exact absurd rfl hn2 | (cases h; done) | skip
            all_goals (first | (cases h; done) | (simp_all; done))
        | checkcast x =>
          obtain rfl : len = 3 := by simpa [aLen] using hl
          exact aCastS hC hM hL hS hq h kk
        | invokestatic x =>
          obtain rfl : len = 3 := by simpa [aLen] using hl
          simp only [aIns] at h
          split at h
          · rename_i en he
            exact aMathS hC hM hL hml hS hq he h hf hlo hc hs kk
          split at h
          · rename_i h0
            exact aCopyS hC hM hL hml hS hq h0 h hf (Nat.le_trans (by decide) hlo) kk
          · exact (aCallI_no h).elim
        | invokevirtual x =>
          obtain rfl : len = 3 := by simpa [aLen] using hl
          simp only [aIns] at h
          split at h
          · rename_i h0
            obtain ⟨h0, rfl⟩ := h0
            exact aCloneS hC hM hL hml hS hq h0 h hf (by omega) hc hs kk
          · exact (aCallI_no h).elim
        | invokespecial x =>
          obtain rfl : len = 3 := by simpa [aLen] using hl
          simp only [aIns] at h
          split at h
          · rename_i r hr
            cases h
            unfold aObj at hr
            split at hr
            · rename_i a r
              split at hr
              · rename_i hk
                obtain ⟨rfl, rfl, rfl, rfl, rfl⟩ := aGo_in2 hr
                obtain ⟨hx, hb, hr2, hown, hts, hG, hlk, hini, -⟩ := hC
                have k2 := hk.2
                unfold aCat at k2
                exact W.objInit hx hb hown (hts _ (aObj_s hk.1)) (hts _ aObj_w1) (hts _ aObj_w2) rfl hml.symm rfl hq hf (by show 2 * 0 + _ + 12 ≤ _; omega) (kk.same rfl rfl hL rfl hM hS)
              · cases hr
            · cases hr
          · exact (aCallI_no h).elim
        | _ => exact absurd rfl hm
    · cases h
  · cases h
end AALL
