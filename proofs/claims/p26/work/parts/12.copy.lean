/-! System.arraycopy of numbers, clone of bytes, new int[n][k] -/
section ACPS
variable {p : Program} {l : Launch} {e : Env} {R : Room} {s : State} {m : MethodId} {args : Array Value} {below : List Frame} {meth : Method} {c : Code} {H : Heap} {locs : List Loc} {cells slots : Nat} {Q : State → Prop}
variable {D : va_G} {E : Nat → Value} {nb : Nat} {F : aF} {pc : Nat} {L : List (Option Value)} {st : List Value} {S : aS} {I : aI} {ls : Array Slot}
variable {pc' : Nat} {L' : List (Option Value)} {st' : List Value} {S' : aS} {I' : aI}
theorem aCp_nat : Cond.native arraycopyName ∈ aT := aT_of (i := 569) (by decide +kernel) (by decide +kernel)
theorem aCp_stat : Cond.static arraycopyName ∈ aT := aT_of (i := 568) (by decide +kernel) (by decide +kernel)
theorem aCp_ini : Cond.initialized "java/lang/System" ∈ aT := aT_of (i := 44) (by decide +kernel) (by decide +kernel)
theorem aNn {z : Int32} (hz : ¬ z < 0) : z.toInt = (z.toNatClampNeg : Int) := by
  have hz0 : (0 : Int) ≤ z.toInt := by
    have := Int32.not_lt.mp hz
    simpa using Int32.le_iff_toInt_le.mp this
  show z.toInt = ((z.toInt.toNat : Nat) : Int)
  omega
theorem aWcopy {own : String} {index a a0 : Nat} {cs : Cell} {c1 : ClassId} {n0 n1 : Nat} {f g : Nat → Int32} {ty : FieldType} {sp dp n : Int32} {rest : List Value} (hx : p.tables.exec = Jvm.exec) (hb : c.code = F.2.1) (hml : c.maxLocals = ls.size) (hown : s.vm.findClass own = some m.cls) (hts : ∀ w ∈ aT, w.before args s = true) (hlink : (Cond.methodLink own index arraycopyName).before args s = true)
    (hc0 : H[a0]? = some cs) (hc1 : H[a]? = some (arrV c1 n1 (fun j => .int (g j)))) (ht0 : s.isArrayOf cs ty) (hu0 : cs.vm ≠ .unknown) (hz0 : n0 ≤ cs.slots.size) (hr0 : ∀ j, j < n0 → cs.slots[j]? = some (.int (f j))) (ht1 : ArrOfT s c1 ty) (hprim : refKind ty = false)
    (h1 : ¬ sp < 0) (h2 : ¬ dp < 0) (h3 : ¬ n < 0) (h4 : sp.toNatClampNeg + n.toNatClampNeg ≤ n0) (h5 : dp.toNatClampNeg + n.toNatClampNeg ≤ n1) (hfit : ∀ i, i < n.toNatClampNeg → fits ty (.int (f (sp.toNatClampNeg + i))) = true)
    (hframes : 1 ≤ R.frames) (hlocals : (rest.map fun v => v.category).sum + (nativeFrameWords "java/lang/System" "arraycopy" 5 + 11) ≤ R.locals) (hdg : decode F.2.1 pc = .ok (.invokestatic index, 3))
    (kk : ∀ (H1 : Heap) (L1 : List Loc), H1[a]? = some (arrV c1 n1 (fun j => .int (va_cpy f g sp.toNatClampNeg dp.toNatClampNeg n.toNatClampNeg j))) → H1.size = H.size → (∀ q, q ≠ a → H1[q]? = H[q]?) → (∀ z ∈ L1, z.base = a) → W p l e R s m args below meth c H1 (locs ++ L1) cells slots Q (F0 m (pc + 3) ls rest)) : W p l e R s m args below meth c H locs cells slots Q (F0 m pc ls (.int n :: .int dp :: .ref a :: .int sp :: .ref a0 :: rest)) := by
  intro T hT X
  obtain ⟨hv0, k0, hk0, cm0, hkk0⟩ := ht0
  obtain ⟨-, k1, hk1, cm1, hkk1⟩ := ht1 n1 (fun j => .int (g j))
  obtain ⟨vm', X', step⟩ := X.arraycopy hx hown hlink (hts _ aCp_nat) (hts _ aCp_stat) (hts _ aCp_ini) (src := a0) (dst := a) (cs := cs) (cd := arrV c1 n1 (fun j => .int (g j))) (srcPos := sp) (destPos := dp) (n := n) (by rw [hT]; exact hc0) (by rw [hT]; exact hc1)
    hv0 (fun _ h => by cases h) hu0 (fun h => by cases h) hk0 hk1 hkk0 hkk1 (by simp [hprim]) h1 h2 h3
    (by rw [aNn h1, aNn h3]; omega)
    (by rw [aNn h2, aNn h3, arrV_size]; omega)
    (fun vm₁ _ i hi => by
      have e : cs.slots.getD (sp.toNatClampNeg + i) .null = .int (f (sp.toNatClampNeg + i)) := by
        rw [Array.getD_eq_getD_getElem?, hr0 _ (by omega)]
        rfl
      refine ⟨?_, ?_⟩
      · rw [e]
        exact hfit i hi
      · rw [e]
        exact trivial)
    (g := F0 m pc ls (.int n :: .int dp :: .ref a :: .int sp :: .ref a0 :: rest)) rfl (by rw [hml]) (rest := rest) rfl (by rw [hb]; exact hdg) hframes (by show 2 * 0 + _ + _ ≤ _; omega)
  have e1 : copied cs (arrV c1 n1 (fun j => .int (g j))) sp dp n = arrV c1 n1 (fun j => .int (va_cpy f g sp.toNatClampNeg dp.toNatClampNeg n.toNatClampNeg j)) := va_copiedX (fun z => .int z) cs c1 f g hr0 h4
  rw [e1] at X' step
  have hl : a < H.size := (Array.getElem?_eq_some_iff.mp hc1).1
  have hheap : ((T.setVm vm').setCell a (arrV c1 n1 (fun j => .int (va_cpy f g sp.toNatClampNeg dp.toNatClampNeg n.toNatClampNeg j)))).heap = H.setIfInBounds a (arrV c1 n1 (fun j => .int (va_cpy f g sp.toNatClampNeg dp.toNatClampNeg n.toNatClampNeg j))) := by rw [← hT]; rfl
  obtain ⟨t, a1, b1⟩ := kk _ _ (show (H.setIfInBounds a _)[a]? = some _ by simp [Array.getElem?_setIfInBounds, hl]) (by simp) (fun q hq => by simp [Array.getElem?_setIfInBounds, Ne.symm hq]) (fun z hz => by
      obtain ⟨z', -, hz'⟩ := List.mem_map.mp hz
      rw [← hz']) _ hheap X'
  exact ⟨t, step t a1, b1⟩
theorem aS_puts {nb : Nat} {H0 H H' : Heap} {locs L1 : List Loc} {a : Nat} (h : va_S (fun q => nb ≤ q) H0 H locs) (ha : nb ≤ a) (hz : H'.size = H.size) (ho : ∀ q, q ≠ a → H'[q]? = H[q]?) (hL : ∀ z ∈ L1, z.base = a) : va_S (fun q => nb ≤ q) H0 H' (locs ++ L1) := by
  refine ⟨by rw [hz]; exact h.1, fun q h1 h2 => ?_, fun z hz2 => ?_⟩
  · rw [ho q (fun e => h2 (by rw [e]; exact ha))]
    exact h.2.1 q h1 h2
  · rcases List.mem_append.mp hz2 with q | q
    · exact h.2.2 z q
    · rw [hL z q]; exact ha
theorem aByt_s {f : Nat → Int32} {sp n : Nat} (h : aByt f sp n = true) (i : Nat) (hi : i < n) : fits .byte (.int (f (sp + i))) = true := List.all_eq_true.mp h i (List.mem_range.mpr hi)
theorem aCopyS {x : Nat} (hC : aCx p s m args meth c D E nb F) (hM : aMR D nb s S I H) (hL : aLR ls L F.2.2.2.1) (hml : c.maxLocals = ls.size) (hS : va_S (fun q => nb ≤ q) s.heap H locs) (hd : decode F.2.1 pc = .ok (.invokestatic x, 3)) (hx0 : aHas aAcpT F.1 x = true) (h : aCopy (pc + 3) L st S I = some (.inl (pc', L', st', S', I')))
    (hf : 1 ≤ R.frames) (hlo : 8 + (nativeFrameWords "java/lang/System" "arraycopy" 5 + 11) ≤ R.locals)
    (kk : aKm p l e R s m args below meth c cells slots Q D nb F.2.2.2.1 L.length S pc' L' st' S' I') : W p l e R s m args below meth c H locs cells slots Q (F0 m pc ls st) := by
  obtain ⟨hx, hb, hr, hown, hts, hG, hlk, hini, -⟩ := hC
  obtain ⟨en, hen, e1, e2⟩ := aHas_s hx0
  have hw := List.all_eq_true.mp aAcpOk en hen
  unfold aAcpB at hw
  simp only [Bool.and_eq_true, decide_eq_true_eq] at hw
  rw [e1, e2] at hw
  unfold aCopy at h
  split at h
  · rename_i n dp a sp b r
    split at h
    · rename_i hk
      obtain ⟨k1, k2, k3, k4, k5, k6, k7⟩ := hk
      obtain ⟨rfl, rfl, rfl, rfl, rfl⟩ := aGo_in2 h
      unfold aCat at k6
      rcases k7 with ⟨kb, ka⟩ | ⟨kb, ka, kf⟩
      · obtain ⟨cA, h1, h2, h3⟩ := (hM.2.1 a).2.1 ka
        obtain ⟨cB, g3, g1, gu, gz, -, gr⟩ := (hM.2.1 b).rdI kb
        refine aWcopy hx hb hml hown hts (hts _ (aT_of hw.1 hw.2)) g3 h3 g1 gu gz gr h1 rfl (Int32.not_lt.mpr k1) (Int32.not_lt.mpr k2) (Int32.not_lt.mpr k3) k4 k5 (fun i _ => rfl) hf (by omega) hd fun H1 L1 q1 q2 q3 q4 => ?_
        exact kk.same rfl rfl hL rfl (hM.at q2 q3 rfl rfl rfl (fun b2 _ => rfl) (fun b2 hb2 => aU_ne _ _ hb2) (aCe.arr (cA := cA) ka h1 h2 (by rw [q1, aU_self]))) (aS_puts hS (hM.2.2.2 a (by rw [ka]; omega)) q2 q3 q4)
      · obtain ⟨cA, h1, h2, h3⟩ := (hM.2.1 a).2.2.1 ka
        obtain ⟨cB, g3, g1, gu, gz, -, gr⟩ := (hM.2.1 b).rdB kb
        refine aWcopy hx hb hml hown hts (hts _ (aT_of hw.1 hw.2)) g3 h3 g1 gu gz gr h1 rfl (Int32.not_lt.mpr k1) (Int32.not_lt.mpr k2) (Int32.not_lt.mpr k3) k4 k5 (aByt_s kf) hf (by omega) hd fun H1 L1 q1 q2 q3 q4 => ?_
        exact kk.same rfl rfl hL rfl (hM.at q2 q3 rfl rfl rfl (fun b2 _ => rfl) (fun b2 hb2 => aU_ne _ _ hb2) (aCe.byt (cA := cA) ka h1 h2 (by rw [q1, aU_self]))) (aS_puts hS (hM.2.2.2 a (by rw [ka]; omega)) q2 q3 q4)
    · cases h
  · cases h
theorem aCl_w1 : Cond.methodLink "java/util/Arrays" 310 ⟨"[B", "clone", "()Ljava/lang/Object;"⟩ ∈ aT := aT_of (i := 1219) (by decide +kernel) (by decide +kernel)
theorem aCl_w2 : Cond.sameMethod "[B" "java/lang/Object" "clone" "()Ljava/lang/Object;" ∈ aT := aT_of (i := 1220) (by decide +kernel) (by decide +kernel)
theorem aCl_w3 : Cond.native ⟨"java/lang/Object", "clone", "()Ljava/lang/Object;"⟩ ∈ aT := aT_of (i := 1221) (by decide +kernel) (by decide +kernel)
theorem aCl_w4 : Cond.instanceMethod ⟨"java/lang/Object", "clone", "()Ljava/lang/Object;"⟩ ∈ aT := aT_of (i := 1222) (by decide +kernel) (by decide +kernel)
theorem aCl_w5 : Cond.selects "[B" ⟨"[B", "clone", "()Ljava/lang/Object;"⟩ ⟨"java/lang/Object", "clone", "()Ljava/lang/Object;"⟩ ∈ aT := aT_of (i := 1223) (by decide +kernel) (by decide +kernel)
theorem aCl_w6 : Cond.castable "[B" "java/lang/Cloneable" ∈ lw_tbl := List.mem_of_getElem? (i := 1224) (by decide +kernel)
theorem aCloneS (hC : aCx p s m args meth c D E nb F) (hM : aMR D nb s S I H) (hL : aLR ls L F.2.2.2.1) (hml : c.maxLocals = ls.size) (hS : va_S (fun q => nb ≤ q) s.heap H locs) (hd : decode F.2.1 pc = .ok (.invokevirtual 310, 3)) (hF : F.1 = 23) (h : aClone (pc + 3) L st S I = some (.inl (pc', L', st', S', I')))
    (hf : 1 ≤ R.frames) (hlo : 22 ≤ R.locals) (hc : cells + (aX S' - aX S) ≤ R.cells) (hs : slots + (aZ S' - aZ S) ≤ R.slots)
    (kk : aKm p l e R s m args below meth c cells slots Q D nb F.2.2.2.1 L.length S pc' L' st' S' I') : W p l e R s m args below meth c H locs cells slots Q (F0 m pc ls st) := by
  obtain ⟨hx, hb, hr, hown, hts, hG, hlk, hini, -⟩ := hC
  have hown' : s.vm.findClass "java/util/Arrays" = some m.cls := by rw [hF] at hown; exact hown
  unfold aClone at h
  split at h
  · rename_i a r
    split at h
    · rename_i hk
      obtain ⟨k1, k2, k3⟩ := hk
      obtain ⟨rfl, rfl, rfl, rfl, rfl⟩ := aGo_in2 h
      unfold aCat at k3
      rw [aX_new] at hc
      rw [aZ_new] at hs
      obtain ⟨cA, h1, h2, h3⟩ := (hM.2.1 a).2.2.1 k1
      obtain ⟨c0, t0', f1, f2, f3⟩ := Cond.castable_spec (va_Nw.use (A := args) rfl (hG.2.2.2.2.2.1 _ aCl_w6 (Or.inr ⟨_, _, rfl⟩)))
      have f1' : s.vm.findClass "[B" = some c0 := f1
      have ec : cA = c0 := Option.some.inj ((show s.vm.findClass "[B" = some cA from h2).symm.trans f1')
      subst ec
      intro T hT X
      have hcellT : T.heap[a]? = some (arrV cA (aN S a) (fun j => .int (I a j))) := by rw [hT]; exact h3
      obtain ⟨-, kA, hkA, comp, hkind⟩ := State.isArrayOf_alike X.warmed.alike (h1 0 (fun _ => .null))
      obtain ⟨-, kS, hkS, compS, hkindS⟩ := h1 0 (fun _ => .null)
      obtain ⟨vm', X', step⟩ := X.cloneArray hx hown' (hts _ aCl_w1) (hts _ aCl_w2) (hts _ aCl_w3) (hts _ aCl_w4) (hts _ aCl_w5) (a := a) (cell := arrV cA (aN S a) (fun j => .int (I a j))) hcellT (fun k h => by cases h) (fun h => by cases h) f1' f2 f3
        (fun i v hv => by
          have hk' : T.vm.classes[cA]? = some kA := hkA
          by_cases hi : i < aN S a
          · rw [arrV_read _ _ hi] at hv
            cases hv
            have := aByt_s k2 i hi
            rw [Nat.zero_add] at this
            simpa [State.fitsSlot, State.slotType?, arrV, hk', hkind] using this
          · rw [Array.getElem?_eq_none (by rw [arrV_size]; omega)] at hv
            cases hv)
        (g := F0 m pc ls (.ref a :: r)) rfl (by rw [hml]) rfl (by rw [hb]; exact hd) hf (by show 2 * 0 + _ + 14 ≤ _; omega) hc (by rw [arrV_size]; exact hs) (hloader := Vm.clonesLoader_of_array hkS hkindS)
      rw [arrV_size] at X'
      generalize hH1 : H.push (arrV cA (aN S a) (fun j => .int (I a j))) = H1
      have z1 : H1.size = H.size + 1 := by rw [← hH1, Array.size_push]
      have e1 : H1[H.size]? = some (arrV cA (aN S a) (fun j => .int (I a j))) := by rw [← hH1, Array.getElem?_push_size]
      have o1 : ∀ q : Nat, q < H.size → H1[q]? = H[q]? := fun q hq => by rw [← hH1, Array.getElem?_push, if_neg (Nat.ne_of_lt hq)]
      have k := kk ls H1 locs hL rfl (hM.new (by rw [z1, hM.1]) o1 (aCe.byt (cA := cA) aNew_K h1 h2 (by rw [aNew_N, ← hM.1, e1, aU_self]))) (aS_new hS (by omega) o1)
      rw [aX_new, aZ_new] at k
      obtain ⟨t, b1, b2⟩ := k ((T.setVm vm').pushCell (arrV cA (aN S a) (fun j => .int (I a j)))) (by rw [← hH1, ← hT]; rfl) X'
      refine ⟨t, step t ?_, b2⟩
      rw [hT, hM.1]
      exact b1
    · cases h
  · cases h
end ACPS
