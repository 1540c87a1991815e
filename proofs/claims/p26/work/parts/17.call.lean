/-! a call, over a contract of its callee -/
section ACAL
variable {p : Program} {l : Launch} {e : Env} {R : Room} {s : State} {m : MethodId} {args : Array Value} {below : List Frame} {meth : Method} {c : Code} {H : Heap} {locs : List Loc} {cells slots : Nat} {Q : State → Prop}
variable {D : va_G} {E : Nat → Value} {nb : Nat} {F : aF} {pc : Nat} {L : List (Option Value)} {st : List Value} {S : aS} {I : aI} {ls : Array Slot}
def aQ (D : va_G) (nb : Nat) (o : Option (Option Value)) (S' : aS) (I' : aI) : Array Value → State → Outcome → State → Prop := fun _ st oc t => (∃ v, o = some v ∧ oc = .returned v) ∧ aMR D nb t S' I' t.heap ∧ va_F (fun q => nb ≤ q) st t
def aXQ (D : va_G) (nb : Nat) (o : Option (Option Value)) (S' : aS) (I' : aI) : String → State → State → Prop := fun X st t => o = none ∧ X = "java/lang/IllegalStateException" ∧ aMR D nb t S' I' t.heap ∧ va_F (fun q => nb ≤ q) st t
def aPQ (D : va_G) (E : Nat → Value) (nb : Nat) (S : aS) (I : aI) (as : List Value) : Array Value → State → Prop := va_Pc as (fun U => aMR D nb U S I U.heap ∧ aGl D E nb U U.heap)
abbrev aRm (d mc ms : Nat) : Room := { frames := d + 16, cells := mc, slots := ms, locals := 41 * d + 800 }
/-- a contract of an entry's callee, at these arguments and this memory -/
def aMet (l : Launch) (D : va_G) (E : Nat → Value) (nb : Nat) (y : MethodName) (w0 : Jvm.Cond) (d : Nat) (as : List Value) (S : aS) (I : aI) (o : Option (Option Value)) (S' : aS) (I' : aI) : Prop :=
  vx_Met l y (w0 :: aT) (aRm d (aX S' - aX S) (aZ S' - aZ S)) (aPQ D E nb S I as) (aQ D nb o S' I') (aXQ D nb o S' I') (aX S' - aX S) (aZ S' - aZ S) (fun q => nb ≤ q)
def aW0 (k : Nat) (y : MethodName) (F : aF) (mL : Nat) : Jvm.Cond := if k = 8 then .codeWith y F.2.1 mL F.2.2.1 [(241, 267, 268, 202)] else .code y F.2.1 mL F.2.2.1
theorem aBlind {as : List Value} : FrameBlind (aPQ D E nb S I as) := fun a U g mk q => by
  have h1 : (U.calling g mk a).heap = U.heap := rfl
  have h2 : (U.calling g mk a).vm = U.vm := rfl
  refine ⟨q.1, ?_, ?_⟩
  · rw [h1]
    exact q.2.1.moved (by rw [h2]; exact Vm.Alike.refl _)
  · exact q.2.2.moved (by rw [h2]; exact State.WarmedH.refl _) (fun a h1 h2 => rfl)
theorem aPre1 (hG : aGl D E nb s s.heap) (hM : aMR D nb s S I H) (hS : va_S (fun q => nb ≤ q) s.heap H locs) {as : List Value} {U : State} (hU : U.heap = H) (hW : s.WarmedH U.vm) : aPQ D E nb S I as as.toArray U :=
  ⟨rfl, by rw [hU]; exact hM.moved hW.alike, hG.moved hW (fun a h1 h2 => by rw [hU]; exact hS.2.1 a h1 h2)⟩
theorem aRecv (hG : aGl D E nb s s.heap) (hM : aMR D nb s S I H) {b : Nat} {C : String} (hk : (vwCl[aKd S b]?).map (fun q => q.1) = some C) : (∃ cellB : Cell, H[b]? = some cellB ∧ cellB.vm.isStatics = false ∧ s.vm.findClass C = some cellB.cls) ∧ ∃ cC, ClassAt s C cC := by
  cases hq : vwCl[aKd S b]? with
  | none => rw [hq] at hk; cases hk
  | some q =>
    rw [hq] at hk
    cases hk
    have h11 := (aCls hq).1
    obtain ⟨r, cell, hr, q1, q2, -, q3, -⟩ := (hM.2.1 b).ob (by omega)
    cases hq.symm.trans hr
    have hKn := (hG.1.1 _ _ hq).2
    exact ⟨⟨cell, q1, q3, by rw [q2]; exact hKn.1⟩, _, hKn⟩
theorem aIsC_s {y : MethodName} {F : aF} {mL i : Nat} (h : aIsC y F mL i = true) : Cond.code y F.2.1 mL F.2.2.1 ∈ aT := by
  unfold aIsC at h
  split at h
  · rename_i y' b m' r' hw
    simp only [Bool.and_eq_true, decide_eq_true_eq, beq_iff_eq] at h
    obtain ⟨⟨⟨rfl, rfl⟩, rfl⟩, h4⟩ := h
    have h5 := aBeq_s h4
    subst h5
    exact aT_of hw rfl
  · cases h
theorem aIsCW_s {y : MethodName} {F : aF} {mL i : Nat} (h : aIsCW y F mL i = true) : Cond.codeWith y F.2.1 mL F.2.2.1 [(241, 267, 268, 202)] ∈ aT := by
  unfold aIsCW at h
  split at h
  · rename_i y' b m' r' hh hw
    simp only [Bool.and_eq_true, decide_eq_true_eq, beq_iff_eq] at h
    obtain ⟨⟨⟨⟨rfl, rfl⟩, rfl⟩, h4⟩, rfl⟩ := h
    have h5 := aBeq_s h4
    subst h5
    exact aT_of hw rfl
  · cases h
theorem aHasCode_s {i : Nat} {x : MethodName} (h : aHasCode i x = true) : ∃ b m' r', Cond.code x b m' r' ∈ aT := by
  unfold aHasCode at h
  split at h
  · rename_i y' b m' r' hw
    obtain rfl := of_decide_eq_true h
    exact ⟨b, m', r', aT_of hw rfl⟩
  · cases h
set_option maxHeartbeats 4000000 in
set_option maxRecDepth 100000 in
/-- the run of the call of an entry e -/
theorem aCallRun {en : aCE} {d x : Nat} {as rest : List Value} {o : Option (Option Value)} {S' : aS} {I' : aI} {q : Nat} (hC : aCx p s m args meth c D E nb F) (hM : aMR D nb s S I H) (hL : aLR ls L F.2.2.2.1) (hn : L.length = c.maxLocals) (hS : va_S (fun q => nb ≤ q) s.heap H locs)
    (h : aCall q F.1 x st S = some (.inr (.inr (en, as, rest)))) (hd : decode F.2.1 pc = .ok (if q = 0 then .invokestatic x else if q = 1 then .invokevirtual x else .invokespecial x, 3)) (hq : q ≤ 2)
    (hMet : aMet l D E nb en.2.2.2.1 (aW0 en.2.2.1 en.2.2.2.1 en.2.2.2.2.1 en.2.2.2.2.2.1) d as S I o S' I') (hfr : d + 1 + 16 ≤ R.frames) (hlo : 41 * (d + 1) + 800 ≤ R.locals) (hc : cells + (aX S' - aX S) ≤ R.cells) (hs : slots + (aZ S' - aZ S) ≤ R.slots) :
    ∃ a : Array Value, vx_Run p l e R s m args below meth c H locs cells slots (aX S' - aX S) (aZ S' - aZ S) (F0 m pc ls st) rest (aQ D nb o S' I' a) (aXQ D nb o S' I') (fun q => nb ≤ q) := by
  have hml : c.maxLocals = ls.size := by rw [← hn, hL.1.1]
  obtain ⟨hx, hb, hr, hown, hts, hG, hlk, hini, -⟩ := hC
  unfold aCall at h
  split at h
  · cases h
  rename_i en' hen
  obtain ⟨e1, e2, hB⟩ := aCal_s hen
  obtain ⟨o', x', k, y, F', mL, n, C, host, ps⟩ := en'
  dsimp only at h e1 e2
  subst e1
  subst e2
  split at h
  case isFalse => cases h
  rename_i hk
  split at h
  · rename_i hq0
    subst hq0
    rw [if_pos rfl] at hd
    split at h
    case isFalse => cases h
    rename_i hg
    obtain ⟨g1, g2, g3⟩ := hg
    unfold aCat at g3
    cases h
    have hst : st = (st.take n).reverse.reverse ++ st.drop n := by rw [List.reverse_reverse, List.take_append_drop]
    have hlen : (st.take n).reverse.length = n := by rw [List.length_reverse, List.length_take]; omega
    have hpre : PreS s H (aPQ D E nb S I (st.take n).reverse) (st.take n).reverse := ⟨aBlind, fun U hU hW => aPre1 hG hM hS hU hW⟩
    dsimp only at hMet
    unfold aCalB at hB
    simp only [Bool.and_eq_true, decide_eq_true_eq] at hB
    obtain ⟨⟨⟨⟨⟨⟨⟨⟨b1, b2⟩, b3⟩, b4⟩, b5⟩, b6⟩, b7⟩, b8⟩, b9⟩ := hB
    have hmh := aNoMH_s b3
    split at b9
    · simp only [Bool.and_eq_true, decide_eq_true_eq] at b9
      obtain ⟨⟨⟨⟨w0, w1⟩, w2⟩, w3⟩, -⟩ := b9
      exact ⟨_, vx_runS (Ts := aT) ⟨hx, hb, hml, hown, hts⟩ hMet ⟨callB_of n hts (aGoodIn (aIsC_s w3)) rfl rfl rfl (hts _ (aIsW_s w2)) (hts _ (aIsW_s w0)) ⟨hmh.1, hmh.2, b4⟩ ⟨by show d + 16 + 1 ≤ _; omega, by show 8 + (mL + 11) + (41 * d + 800) ≤ _; omega⟩, hts _ (aIsW_s w1)⟩ hpre rfl hlen rfl hst (by show 2 * 0 + _ ≤ 8; omega) hd ⟨hc, hs⟩⟩
    · exact absurd hk (by decide)
    · exact absurd hk (by decide)
    · simp only [Bool.and_eq_true, decide_eq_true_eq] at b9
      obtain ⟨⟨⟨⟨w0, w1⟩, w2⟩, w3⟩, -⟩ := b9
      exact ⟨_, vx_runSN (Ts := aT) ⟨hx, hb, hml, hown, hts⟩ hMet ⟨va_cnB n hts (aGoodIn (aIsC_s w3)) rfl rfl rfl (hG.2.1 _ (aIsN_s w0) (Or.inr ⟨_, _, _, _, rfl⟩)) (hts _ (aIsW_s w2)) ⟨hmh.1, hmh.2, b4⟩ ⟨by show d + 16 + 1 ≤ _; omega, by show 8 + (mL + 11) + (41 * d + 800) ≤ _; omega⟩, hts _ (aIsW_s w1), trivial⟩ hpre rfl hlen rfl hst (by show 2 * 0 + _ ≤ 8; omega) hd ⟨hc, hs⟩⟩
    · exact absurd hk (by decide)
    · exact absurd hk (by decide)
    · exact absurd hk (by decide)
    · exact absurd hk (by decide)
    · exact absurd hk (by decide)
    · simp only [Bool.and_eq_true, decide_eq_true_eq] at b9
      obtain ⟨⟨⟨⟨w0, w1⟩, w2⟩, w3⟩, -⟩ := b9
      exact ⟨_, vx_runSX (Ts := aT) (hh := [(241, 267, 268, 202)]) ⟨hx, hb, hml, hown, hts⟩ hMet ⟨⟨rfl, rfl, by show d + 16 + 1 ≤ _; omega, by show 8 + (mL + 11) + (41 * d + 800) ≤ _; omega, pay_in hts (aGoodIn (aIsCW_s w3)), List.mem_cons_self⟩, hts _ (aIsCW_s w3), hts _ (aIsW_s w2), hmh, fun sig hsig => by rw [hsig] at b4; exact (Option.some.inj b4).symm, hts _ (aIsW_s w0), hts _ (aIsW_s w1)⟩ hpre rfl hlen rfl hst (by show 2 * 0 + _ ≤ 8; omega) hd ⟨hc, hs⟩⟩
    · cases b9
  · rename_i hq0
    split at h
    case h_2 => cases h
    rename_i b r hdrop
    split at h
    case isFalse => cases h
    rename_i hg
    obtain ⟨g1, g2, g3, g4⟩ := hg
    unfold aCat at g3
    cases h
    have hst : st = (st.take n).reverse.reverse ++ .ref b :: rest := by rw [List.reverse_reverse, ← hdrop, List.take_append_drop]
    have hlen : (st.take n).reverse.length = n := by rw [List.length_reverse, List.length_take]; omega
    dsimp only at hMet
    unfold aCalB at hB
    simp only [Bool.and_eq_true, decide_eq_true_eq] at hB
    obtain ⟨⟨⟨⟨⟨⟨⟨⟨b1, b2⟩, b3⟩, b4⟩, b5⟩, b6⟩, b7⟩, b8⟩, b9⟩ := hB
    have hmh := aNoMH_s b3
    have hpre : PreS s H (aPQ D E nb S I (.ref b :: (st.take n).reverse)) (.ref b :: (st.take n).reverse) := ⟨aBlind, fun U hU hW => aPre1 hG hM hS hU hW⟩
    have hpreV : (vwCl[aKd S b]?).map (fun q => q.1) = some C → PreV s H C b (aPQ D E nb S I (.ref b :: (st.take n).reverse)) (st.take n).reverse := fun z => ⟨aBlind, (aRecv hG hM z).1, fun U hU hW => aPre1 hG hM hS hU hW⟩
    split at b9
    · exact absurd (show (0 : Nat) = q from hk) (by omega)
    · have hq1 : q = 1 := hk.symm
      subst hq1
      simp only [Bool.and_eq_true, decide_eq_true_eq] at b9
      obtain ⟨⟨⟨⟨⟨w0, w1⟩, w2⟩, w3⟩, w4⟩, -⟩ := b9
      exact ⟨_, vx_runV (Ts := aT) (C := C) ⟨hx, hb, hml, hown, hts⟩ hMet ⟨callB_of n hts (aGoodIn (aIsC_s w4)) rfl rfl rfl (hts _ (aIsW_s w3)) (hts _ (aIsW_s w0)) ⟨hmh.1, hmh.2, b4⟩ ⟨by show d + 16 + 1 ≤ _; omega, by show 8 + (mL + 11) + (41 * d + 800) ≤ _; omega⟩, hts _ (aIsW_s w1), hts _ (aIsW_s w2)⟩ (hpreV (by rcases g4 with g4 | g4 | g4 <;> first | exact absurd g4 (by decide) | exact g4)) rfl hlen rfl hst (by show 2 * 0 + _ ≤ 8; omega) hd ⟨hc, hs⟩⟩
    · have hq2 : q = 2 := hk.symm
      subst hq2
      simp only [Bool.and_eq_true, decide_eq_true_eq] at b9
      obtain ⟨⟨⟨⟨⟨⟨w0, w1⟩, w2⟩, w3⟩, -⟩, w5⟩, w6⟩ := b9
      obtain ⟨oF, bF, rF, zF⟩ := F'
      dsimp only at w6
      subst w6
      exact ⟨_, vx_runI (Ts := aT) ⟨hx, hb, hml, hown, hts⟩ hMet ⟨callB_of n hts (aGoodIn (aIsC_s w3)) rfl rfl rfl (hts _ (aIsW_s w2)) (hts _ (aIsW_s w0)) ⟨hmh.1, hmh.2, b4⟩ ⟨by show d + 16 + 1 ≤ _; omega, by show 8 + (mL + 11) + (41 * d + 800) ≤ _; omega⟩, w5, hts _ (aIsW_s w1)⟩ hpre rfl hlen rfl hst (by show 2 * 0 + _ ≤ 8; omega) hd ⟨hc, hs⟩⟩
    · exact absurd (show (0 : Nat) = q from hk) (by omega)
    · have hq1 : q = 1 := hk.symm
      subst hq1
      simp only [Bool.and_eq_true, decide_eq_true_eq] at b9
      obtain ⟨⟨⟨⟨⟨w0, w1⟩, w2⟩, w3⟩, w4⟩, -⟩ := b9
      exact ⟨_, vx_runVN (Ts := aT) (C := C) ⟨hx, hb, hml, hown, hts⟩ hMet ⟨va_cnB n hts (aGoodIn (aIsC_s w4)) rfl rfl rfl (hG.2.1 _ (aIsN_s w0) (Or.inr ⟨_, _, _, _, rfl⟩)) (hts _ (aIsW_s w3)) ⟨hmh.1, hmh.2, b4⟩ ⟨by show d + 16 + 1 ≤ _; omega, by show 8 + (mL + 11) + (41 * d + 800) ≤ _; omega⟩, hts _ (aIsW_s w1), hts _ (aIsW_s w2)⟩ (hpreV (by rcases g4 with g4 | g4 | g4 <;> first | exact absurd g4 (by decide) | exact g4)) rfl hlen rfl hst (by show 2 * 0 + _ ≤ 8; omega) hd ⟨hc, hs⟩⟩
    · have hq2 : q = 2 := hk.symm
      subst hq2
      simp only [Bool.and_eq_true, decide_eq_true_eq] at b9
      obtain ⟨⟨⟨⟨⟨⟨w0, w1⟩, w2⟩, w3⟩, -⟩, w5⟩, w6⟩ := b9
      obtain ⟨oF, bF, rF, zF⟩ := F'
      dsimp only at w6
      subst w6
      exact ⟨_, vx_runIN (Ts := aT) ⟨hx, hb, hml, hown, hts⟩ hMet ⟨va_cnB n hts (aGoodIn (aIsC_s w3)) rfl rfl rfl (hG.2.1 _ (aIsN_s w0) (Or.inr ⟨_, _, _, _, rfl⟩)) (hts _ (aIsW_s w2)) ⟨hmh.1, hmh.2, b4⟩ ⟨by show d + 16 + 1 ≤ _; omega, by show 8 + (mL + 11) + (41 * d + 800) ≤ _; omega⟩, w5, hts _ (aIsW_s w1)⟩ hpre rfl hlen rfl hst (by show 2 * 0 + _ ≤ 8; omega) hd ⟨hc, hs⟩⟩
    · have hq1 : q = 1 := hk.symm
      subst hq1
      simp only [Bool.and_eq_true, decide_eq_true_eq] at b9
      obtain ⟨⟨⟨⟨⟨⟨⟨w0, w1⟩, w2⟩, w3⟩, w4⟩, w5⟩, -⟩, w7⟩ := b9
      subst w7
      exact ⟨_, vx_runU (Ts := aT) (C := C) (x := y) (owner := y.cls) ⟨hx, hb, hml, hown, hts⟩ hMet ⟨⟨rfl, rfl, by show d + 16 + 1 ≤ _; omega, by show 8 + (mL + 11) + (41 * d + 800) ≤ _; omega, pay_in hts (aGoodIn (aIsC_s w5)), List.mem_cons_self⟩, hts _ (aIsC_s w5), hts _ (aIsW_s w4), hmh, fun sig hsig => by rw [hsig] at b4; exact (Option.some.inj b4).symm, hts _ (aIsW_s w0), hts _ (aIsW_s w1), va_Decl.of (hts _ (aIsW_s w3)) (hts _ (aIsC_s w5)), hts _ (aIsW_s w2), hts _ (aIsW_s w3)⟩ (hpreV (by rcases g4 with g4 | g4 | g4 <;> first | exact absurd g4 (by decide) | exact g4)) rfl hlen rfl hst (by show 2 * 0 + _ ≤ 8; omega) hd ⟨hc, hs⟩⟩
    · have hq1 : q = 1 := hk.symm
      subst hq1
      simp only [Bool.and_eq_true, decide_eq_true_eq] at b9
      obtain ⟨⟨⟨⟨⟨⟨⟨⟨⟨w0, w1⟩, w2⟩, w3⟩, w4⟩, w5⟩, -⟩, w7⟩, w8⟩, w9⟩ := b9
      obtain ⟨b0, m0, r0, w8⟩ := aHasCode_s w8
      exact ⟨_, vx_runU (Ts := aT) (C := C) (x := ⟨host, y.name, y.desc⟩) (owner := host) ⟨hx, hb, hml, hown, hts⟩ hMet ⟨⟨rfl, rfl, by show d + 16 + 1 ≤ _; omega, by show 8 + (mL + 11) + (41 * d + 800) ≤ _; omega, pay_in hts (aGoodIn (aIsC_s w5)), List.mem_cons_self⟩, hts _ (aIsC_s w5), hts _ (aIsW_s w4), aNoMH_s w9, fun sig hsig => by
        have b4' : (parseMethodDescriptor y.desc).map (fun d => d.parameters.length) = some n := b4
        rw [show parseMethodDescriptor y.desc = some sig from hsig] at b4'; exact (Option.some.inj b4').symm, hts _ (aIsW_s w0), hts _ (aIsW_s w1), va_Decl.of (hts _ (aIsW_s w7)) (hts _ w8), hts _ (aIsW_s w2), hts _ (aIsW_s w3)⟩ (hpreV (by rcases g4 with g4 | g4 | g4 <;> first | exact absurd g4 (by decide) | exact g4)) rfl hlen rfl hst (by show 2 * 0 + _ ≤ 8; omega) hd ⟨hc, hs⟩⟩
    · have hq2 : q = 2 := hk.symm
      subst hq2
      simp only [Bool.and_eq_true, decide_eq_true_eq] at b9
      obtain ⟨⟨⟨⟨⟨⟨⟨w0, w1⟩, w2⟩, w3⟩, w4⟩, w5⟩, -⟩, w7⟩ := b9
      have g5 : (vwCl[aKd S b]?).map (fun q => q.1) = some C := by rcases g4 with g4 | g4 | g4 <;> first | exact absurd g4 (by decide) | exact g4
      obtain ⟨cC, hat⟩ := (aRecv hG hM g5).2
      exact ⟨_, vx_runSU (Ts := aT) (C := C) hat ⟨hx, hb, hml, hown, hts⟩ hMet ⟨⟨rfl, rfl, by show d + 16 + 1 ≤ _; omega, by show 8 + (mL + 11) + (41 * d + 800) ≤ _; omega, pay_in hts (aGoodIn (aIsC_s w5)), List.mem_cons_self⟩, hts _ (aIsW_s w0), hts _ (aIsW_s w1), hts _ (aIsW_s w2), hts _ (aIsW_s w3), hts _ (aIsW_s w4), hts _ (aIsC_s w5), w7, fun sig hsig => by rw [hsig] at b4; exact (Option.some.inj b4).symm⟩ (hpreV g5) rfl hlen rfl hst (by show 2 * 0 + _ ≤ 8; omega) hd ⟨hc, hs⟩⟩
    · exact absurd (show (0 : Nat) = q from hk) (by omega)
    · cases b9
end ACAL
