/-! the steps that read and write arrays, constants, statics; copies -/
section AARS
variable {p : Program} {l : Launch} {e : Env} {R : Room} {s : State} {m : MethodId} {args : Array Value} {below : List Frame} {meth : Method} {c : Code} {H : Heap} {locs : List Loc} {cells slots : Nat} {Q : State → Prop}
variable {D : va_G} {E : Nat → Value} {nb : Nat} {F : aF} {pc : Nat} {L : List (Option Value)} {st : List Value} {S : aS} {I : aI} {ls : Array Slot}
variable {pc' : Nat} {L' : List (Option Value)} {st' : List Value} {S' : aS} {I' : aI}
theorem aInB_s {i : Int32} {n : Nat} (h : aInB i n = true) : i.toNatClampNeg < n ∧ ¬ i < 0 := by
  unfold aInB at h
  simp only [Bool.and_eq_true, decide_eq_true_eq] at h
  exact ⟨h.2, Int32.not_lt.mpr h.1⟩
theorem aInB_in {i : Int32} {n : Nat} (h : aInB i n = true) : ¬ (i < 0 ∨ n ≤ i.toNatClampNeg) := by
  obtain ⟨h1, h2⟩ := aInB_s h
  rintro (h3 | h3)
  · exact h2 h3
  · omega
theorem aIaldS (hC : aCx p s m args meth c D E nb F) (hM : aMR D nb s S I H) (hL : aLR ls L F.2.2.2.1) (hS : va_S (fun q => nb ≤ q) s.heap H locs) (hd : decode F.2.1 pc = .ok (.iaload, 1)) (h : aALd 100 (pc + 1) L st S I = some (.inl (pc', L', st', S', I')))
    (kk : aKm p l e R s m args below meth c cells slots Q D nb F.2.2.2.1 L.length S pc' L' st' S' I') : W p l e R s m args below meth c H locs cells slots Q (F0 m pc ls st) := by
  obtain ⟨hx, hb, hr, hown, hts, hG, hlk, hini, -⟩ := hC
  unfold aALd at h
  split at h
  · rename_i i a r
    split at h
    · rename_i hk
      obtain ⟨hk, hi⟩ := hk
      obtain ⟨rfl, rfl, rfl, rfl, rfl⟩ := aGo_in2 h
      obtain ⟨cell, h3, h1, hu, hz, -, hr1⟩ := (hM.2.1 a).rdI hk
      exact W.iald (v := .int (I a i.toNatClampNeg)) hx hb h3 h1 hu (fun z => z.elim (aInB_s hi).2 (fun z => by have := (aInB_s hi).1; omega)) (hr1 _ (aInB_s hi).1) rfl rfl hd (kk.same rfl rfl hL rfl hM hS)
    · cases h
  · cases h
theorem aBaldS (hC : aCx p s m args meth c D E nb F) (hM : aMR D nb s S I H) (hL : aLR ls L F.2.2.2.1) (hS : va_S (fun q => nb ≤ q) s.heap H locs) (hd : decode F.2.1 pc = .ok (.baload, 1)) (h : aALd 101 (pc + 1) L st S I = some (.inl (pc', L', st', S', I')))
    (kk : aKm p l e R s m args below meth c cells slots Q D nb F.2.2.2.1 L.length S pc' L' st' S' I') : W p l e R s m args below meth c H locs cells slots Q (F0 m pc ls st) := by
  obtain ⟨hx, hb, hr, hown, hts, hG, hlk, hini, -⟩ := hC
  unfold aALd at h
  split at h
  · rename_i i a r
    split at h
    · rename_i hk
      obtain ⟨hk, hi⟩ := hk
      obtain ⟨rfl, rfl, rfl, rfl, rfl⟩ := aGo_in2 h
      obtain ⟨cell, h3, h1, hu, hz, -, hr1⟩ := (hM.2.1 a).rdB hk
      exact W.bald (v := .int (I a i.toNatClampNeg)) hx hb h3 h1 hu (fun z => z.elim (aInB_s hi).2 (fun z => by have := (aInB_s hi).1; omega)) (hr1 _ (aInB_s hi).1) rfl rfl hd (kk.same rfl rfl hL rfl hM hS)
    · cases h
  · cases h
theorem aAaldS (hC : aCx p s m args meth c D E nb F) (hM : aMR D nb s S I H) (hL : aLR ls L F.2.2.2.1) (hS : va_S (fun q => nb ≤ q) s.heap H locs) (hd : decode F.2.1 pc = .ok (.aaload, 1)) (h : aAR (pc + 1) L st S I = some (.inl (pc', L', st', S', I')))
    (kk : aKm p l e R s m args below meth c cells slots Q D nb F.2.2.2.1 L.length S pc' L' st' S' I') : W p l e R s m args below meth c H locs cells slots Q (F0 m pc ls st) := by
  obtain ⟨hx, hb, hr, hown, hts, hG, hlk, hini, -⟩ := hC
  unfold aAR at h
  split at h
  · rename_i i a r
    split at h
    · rename_i hk
      obtain ⟨hk, hi⟩ := hk
      obtain ⟨rfl, rfl, rfl, rfl, rfl⟩ := aGo_in2 h
      obtain ⟨cA, h1, h2, h3⟩ := (hM.2.1 a).rdR hk
      exact W.aald (v := va_rf (aP S a i.toNatClampNeg)) (ty := .array .int) hx hb h3 (h1 _ _) rfl (fun q => by cases q) (by rw [arrV_size]; exact aInB_in hi) (by rw [arrV_read _ _ (aInB_s hi).1]) rfl rfl hd (kk.same rfl rfl hL rfl hM hS)
    · cases h
  · cases h
theorem aIastS (hC : aCx p s m args meth c D E nb F) (hM : aMR D nb s S I H) (hL : aLR ls L F.2.2.2.1) (hS : va_S (fun q => nb ≤ q) s.heap H locs) (hd : decode F.2.1 pc = .ok (.iastore, 1)) (h : aASt 100 (fun x => x) (pc + 1) L st S I = some (.inl (pc', L', st', S', I')))
    (kk : aKm p l e R s m args below meth c cells slots Q D nb F.2.2.2.1 L.length S pc' L' st' S' I') : W p l e R s m args below meth c H locs cells slots Q (F0 m pc ls st) := by
  obtain ⟨hx, hb, hr, hown, hts, hG, hlk, hini, -⟩ := hC
  unfold aASt at h
  split at h
  · rename_i x i a r
    split at h
    · rename_i hk
      obtain ⟨hk, hi⟩ := hk
      obtain ⟨rfl, rfl, rfl, rfl, rfl⟩ := aGo_in2 h
      obtain ⟨cA, h1, h2, h3⟩ := (hM.2.1 a).2.1 hk
      refine W.iast hx hb h3 (h1 _ _) (fun q => by cases q) (by rw [arrV_size]; exact aInB_in hi) rfl rfl hd fun H1 g1 g2 g3 => ?_
      rw [arrV_store] at g1
      refine kk.same rfl rfl hL rfl (hM.at g2 g3 rfl rfl rfl (fun b _ => rfl) (fun b hb2 => aW_ne _ _ _ hb2) (aCe.arr (cA := cA) hk h1 h2 (g1.trans (congrArg some (congrArg (arrV cA (aN S a)) (funext fun j => ?_)))))) (aS_put hS (hM.2.2.2 a (by rw [hk]; omega)) g2 g3)
      rw [aW_self]
      unfold updV aU
      by_cases ej : j = i.toNatClampNeg
      · rw [if_pos ej, if_pos ej]
      · rw [if_neg ej, if_neg ej]
    · cases h
  · cases h
theorem aBastS (hC : aCx p s m args meth c D E nb F) (hM : aMR D nb s S I H) (hL : aLR ls L F.2.2.2.1) (hS : va_S (fun q => nb ≤ q) s.heap H locs) (hd : decode F.2.1 pc = .ok (.bastore, 1)) (h : aASt 101 (fun x => x.toInt8.toInt32) (pc + 1) L st S I = some (.inl (pc', L', st', S', I')))
    (kk : aKm p l e R s m args below meth c cells slots Q D nb F.2.2.2.1 L.length S pc' L' st' S' I') : W p l e R s m args below meth c H locs cells slots Q (F0 m pc ls st) := by
  obtain ⟨hx, hb, hr, hown, hts, hG, hlk, hini, -⟩ := hC
  unfold aASt at h
  split at h
  · rename_i x i a r
    split at h
    · rename_i hk
      obtain ⟨hk, hi⟩ := hk
      obtain ⟨rfl, rfl, rfl, rfl, rfl⟩ := aGo_in2 h
      obtain ⟨cA, h1, h2, h3⟩ := (hM.2.1 a).2.2.1 hk
      refine W.bast hx hb h3 (h1 _ _) (fun q => by cases q) (by rw [arrV_size]; exact aInB_in hi) rfl rfl hd fun H1 g1 g2 g3 => ?_
      rw [arrV_store] at g1
      refine kk.same rfl rfl hL rfl (hM.at g2 g3 rfl rfl rfl (fun b _ => rfl) (fun b hb2 => aW_ne _ _ _ hb2) (aCe.byt (cA := cA) hk h1 h2 (g1.trans (congrArg some (congrArg (arrV cA (aN S a)) (funext fun j => ?_)))))) (aS_put hS (hM.2.2.2 a (by rw [hk]; omega)) g2 g3)
      rw [aW_self]
      unfold updV aU
      by_cases ej : j = i.toNatClampNeg
      · rw [if_pos ej, if_pos ej]
        rfl
      · rw [if_neg ej, if_neg ej]
    · cases h
  · cases h
theorem aAastS (hC : aCx p s m args meth c D E nb F) (hM : aMR D nb s S I H) (hL : aLR ls L F.2.2.2.1) (hS : va_S (fun q => nb ≤ q) s.heap H locs) (hd : decode F.2.1 pc = .ok (.aastore, 1)) (h : aASR (pc + 1) L st S I = some (.inl (pc', L', st', S', I')))
    (kk : aKm p l e R s m args below meth c cells slots Q D nb F.2.2.2.1 L.length S pc' L' st' S' I') : W p l e R s m args below meth c H locs cells slots Q (F0 m pc ls st) := by
  obtain ⟨hx, hb, hr, hown, hts, hG, hlk, hini, -⟩ := hC
  unfold aASR at h
  split at h
  · rename_i b i a r
    split at h
    · rename_i hk
      obtain ⟨hk, hi, hkb⟩ := hk
      obtain ⟨rfl, rfl, rfl, rfl, rfl⟩ := aGo_in2 h
      obtain ⟨cA, h1, h2, h3⟩ := (hM.2.1 a).2.2.2.1 hk
      obtain ⟨cB, k1, k2, k3⟩ := (hM.2.1 b).2.1 hkb
      obtain ⟨comp, cR, kR, f1, -, f3, f4, f5⟩ := arrayOverA_spec hG.2.2.2.2.1
      have ecA : cA = cR := Option.some.inj (h2.symm.trans f5)
      subst ecA
      have ecB : cB = comp := Option.some.inj (k2.symm.trans f1)
      subst ecB
      obtain ⟨-, kB, hkB, compB, hkindB⟩ := k1 0 (fun _ => .null)
      refine W.aast hx hb h3 (fun q h => by cases h) (fun h => by cases h) f3 f4 rfl (kcomp := kB) hkB ⟨(aInB_s hi).2, by rw [arrV_size]; exact (aInB_s hi).1⟩ k3 (fun q h => by cases h) hkB (va_asg _ _) rfl rfl hd fun H1 g1 g2 g3 => ?_
      rw [arrV_store] at g1
      refine kk.same rfl rfl hL rfl (hM.at g2 g3 rfl rfl rfl (fun b2 hb2 => aU_ne _ _ hb2) (fun b2 _ => rfl) (aCe.row (cA := cA) hk h1 h2 (g1.trans (congrArg some (congrArg (arrV cA (aN S a)) (funext fun j => ?_)))))) (aS_put hS (hM.2.2.2 a (by rw [hk]; omega)) g2 g3)
      show _ = va_rf (aU (aP S) a (aU (aP S a) i.toNatClampNeg (some b)) a j)
      rw [aU_self]
      unfold updV aU
      by_cases ej : j = i.toNatClampNeg
      · rw [if_pos ej, if_pos ej]
        rfl
      · rw [if_neg ej, if_neg ej]
    · cases h
  · cases h
theorem aAlenS (hC : aCx p s m args meth c D E nb F) (hM : aMR D nb s S I H) (hL : aLR ls L F.2.2.2.1) (hS : va_S (fun q => nb ≤ q) s.heap H locs) (hd : decode F.2.1 pc = .ok (.arraylength, 1)) (h : aIns E F .arraylength pc (pc + 1) L st S I = some (.inl (pc', L', st', S', I')))
    (kk : aKm p l e R s m args below meth c cells slots Q D nb F.2.2.2.1 L.length S pc' L' st' S' I') : W p l e R s m args below meth c H locs cells slots Q (F0 m pc ls st) := by
  obtain ⟨hx, hb, hr, hown, hts, hG, hlk, hini, -⟩ := hC
  simp only [aIns] at h
  split at h
  · rename_i a r
    split at h
    · rename_i hk
      obtain ⟨rfl, rfl, rfl, rfl, rfl⟩ := aGo_in2 h
      rcases hk with hk | hk | hk
      · obtain ⟨cell, h3, h1, -, -, hz, -⟩ := (hM.2.1 a).rdI hk
        exact W.alen hx hb h3 h1 hz rfl rfl hd (kk.same rfl rfl hL rfl hM hS)
      · obtain ⟨cell, h3, h1, -, -, hz, -⟩ := (hM.2.1 a).rdB hk
        exact W.alen hx hb h3 h1 hz rfl rfl hd (kk.same rfl rfl hL rfl hM hS)
      · obtain ⟨cA, h1, h2, h3⟩ := (hM.2.1 a).rdR hk
        exact W.alen hx hb h3 (h1 _ _) (by rw [arrV_size] <;> rfl) rfl rfl hd (kk.same rfl rfl hL rfl hM hS)
    · cases h
  · cases h
theorem aLdcS {x : Nat} (hC : aCx p s m args meth c D E nb F) (hM : aMR D nb s S I H) (hL : aLR ls L F.2.2.2.1) (hS : va_S (fun q => nb ≤ q) s.heap H locs) (hd : decode F.2.1 pc = .ok (.ldc x, 2)) (h : aIns E F (.ldc x) pc (pc + 2) L st S I = some (.inl (pc', L', st', S', I')))
    (kk : aKm p l e R s m args below meth c cells slots Q D nb F.2.2.2.1 L.length S pc' L' st' S' I') : W p l e R s m args below meth c H locs cells slots Q (F0 m pc ls st) := by
  obtain ⟨hx, hb, hr, hown, hts, hG, hlk, hini, -⟩ := hC
  simp only [aIns] at h
  split at h
  · rename_i en he
    obtain ⟨rfl, rfl, rfl, rfl, rfl⟩ := aGo_in2 h
    exact lv_ldc hx hb hown (hts _ (aInt_s he)) hd (kk.same rfl rfl hL rfl hM hS)
  · split at h
    · rename_i en he
      split at h
      · rename_i a ha
        obtain ⟨rfl, rfl, rfl, rfl, rfl⟩ := aGo_in2 h
        obtain ⟨h1, h2, h3⟩ := aStr_s he
        obtain ⟨a', e1, e2⟩ := hG.2.2.2.1 en h1
        rw [ha] at e1
        cases e1
        rw [h2, h3] at e2
        exact va_ldcS hx hb hown e2 hd (kk.same rfl rfl hL rfl hM hS)
      · cases h
    · cases h
theorem aLdc2S {x : Nat} (hC : aCx p s m args meth c D E nb F) (hM : aMR D nb s S I H) (hL : aLR ls L F.2.2.2.1) (hS : va_S (fun q => nb ≤ q) s.heap H locs) (hd : decode F.2.1 pc = .ok (.ldc2_w x, 3)) (h : aIns E F (.ldc2_w x) pc (pc + 3) L st S I = some (.inl (pc', L', st', S', I')))
    (kk : aKm p l e R s m args below meth c cells slots Q D nb F.2.2.2.1 L.length S pc' L' st' S' I') : W p l e R s m args below meth c H locs cells slots Q (F0 m pc ls st) := by
  obtain ⟨hx, hb, hr, hown, hts, hG, hlk, hini, -⟩ := hC
  simp only [aIns] at h
  split at h
  · rename_i en he
    obtain ⟨rfl, rfl, rfl, rfl, rfl⟩ := aGo_in2 h
    exact lv_ldc2 hx hb hown (hts _ (aLng_s he)) hd (kk.same rfl rfl hL rfl hM hS)
  · cases h
theorem aGetsS {x : Nat} (hC : aCx p s m args meth c D E nb F) (hM : aMR D nb s S I H) (hL : aLR ls L F.2.2.2.1) (hS : va_S (fun q => nb ≤ q) s.heap H locs) (hd : decode F.2.1 pc = .ok (.getstatic x, 3)) (h : aIns E F (.getstatic x) pc (pc + 3) L st S I = some (.inl (pc', L', st', S', I')))
    (kk : aKm p l e R s m args below meth c cells slots Q D nb F.2.2.2.1 L.length S pc' L' st' S' I') : W p l e R s m args below meth c H locs cells slots Q (F0 m pc ls st) := by
  obtain ⟨hx, hb, hr, hown, hts, hG, hlk, hini, -⟩ := hC
  simp only [aIns] at h
  split at h
  · rename_i en he
    obtain ⟨rfl, rfl, rfl, rfl, rfl⟩ := aGo_in2 h
    obtain ⟨h1, t, ht, h2⟩ := aGet_s he
    have hZ := hG.2.2.1 en h1 t ht
    rcases h2 with h2 | h2
    · exact va_getsN hx hb hZ hS hown (va_Nw.use rfl (hG.2.1 _ h2 (Or.inl ⟨_, _, _, _, _, _, rfl⟩))) (fun x h => h) hd (kk.same rfl rfl hL rfl hM hS)
    · exact va_gets hx hb hZ hS hown (hts _ h2) (fun x h => h) hd (kk.same rfl rfl hL rfl hM hS)
  · cases h
theorem aCl_link : Cond.classLink "java/util/Arrays" 311 "[B" ∈ aT := aT_of (i := 1225) (by decide +kernel) (by decide +kernel)
theorem aCastS {x : Nat} (hC : aCx p s m args meth c D E nb F) (hM : aMR D nb s S I H) (hL : aLR ls L F.2.2.2.1) (hS : va_S (fun q => nb ≤ q) s.heap H locs) (hd : decode F.2.1 pc = .ok (.checkcast x, 3)) (h : aIns E F (.checkcast x) pc (pc + 3) L st S I = some (.inl (pc', L', st', S', I')))
    (kk : aKm p l e R s m args below meth c cells slots Q D nb F.2.2.2.1 L.length S pc' L' st' S' I') : W p l e R s m args below meth c H locs cells slots Q (F0 m pc ls st) := by
  obtain ⟨hx, hb, hr, hown, hts, hG, hlk, hini, -⟩ := hC
  simp only [aIns] at h
  split at h
  · rename_i hF
    obtain ⟨hF, rfl⟩ := hF
    split at h
    · rename_i a r
      split at h
      · rename_i hk
        obtain ⟨rfl, rfl, rfl, rfl, rfl⟩ := aGo_in2 h
        obtain ⟨cA, h1, h2, h3⟩ := (hM.2.1 a).2.2.1 hk
        have hown' : s.vm.findClass "java/util/Arrays" = some m.cls := by rw [hF] at hown; exact hown
        intro T hT X
        obtain ⟨vm', X', step⟩ := X.checkcastYes hx hown' (hts _ aCl_link) (by rw [hT]; exact h3) rfl (show s.vm.findClass "[B" = some cA from h2) (va_asg _ _) (g := F0 m pc ls (.ref a :: r)) rfl rfl (by rw [hb]; exact hd)
        obtain ⟨t, a1, b1⟩ := kk.same rfl rfl hL rfl hM hS (T.setVm vm') hT X'
        exact ⟨t, step t a1, b1⟩
      · cases h
    · cases h
  · cases h
end AARS
