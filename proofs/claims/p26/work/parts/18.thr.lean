/-! what the small machine answers, the machine answers -/
section ASNDM
def aNmE : List String := ["java/lang/RuntimeException", "java/lang/Exception"]
def aISE : String := "java/lang/IllegalStateException"
theorem aThw1 : ((vx_atS "TollTrustees" 74 aISE aNmE).filter goodWord).all (fun w => decide (w ∈ aTb)) = true := by decide +kernel
theorem aThw2 : ((vx_atS "TollTrustees" 74 aISE aNmE).filter (fun w => !goodWord w)).all (fun w => decide (w ∈ lw_tbl) && (match w with | .declares _ => true | .castable _ _ => true | _ => false)) = true := by decide +kernel
theorem aThw3 : (Cond.classLink "TollTrustees" 70 aISE :: Cond.initialized aISE :: vx_atS "TollTrustees" 74 aISE aNmE).all vx_ot = true := by decide +kernel
theorem aThw4 : Cond.classLink "TollTrustees" 70 aISE ∈ aT := aT_of (i := 891) (by decide +kernel) (by decide +kernel)
theorem aThw5 : Cond.initialized aISE ∈ aT := List.mem_filter.mpr ⟨by decide +kernel, by decide +kernel⟩
theorem aThw6 : Cond.classLink "TollTrusteesLaw" 202 aISE ∈ aT := aT_of (i := 1440) (by decide +kernel) (by decide +kernel)
theorem aThw7 : Cond.castable aISE aISE ∈ lw_tbl := List.mem_of_getElem? (i := 893) (by decide +kernel)
theorem aThs : aStrT.any (fun e => e.1 == 9 && e.2.1 == 264) = true := by decide +kernel
theorem aTd0 : decode cX7_mend 59 = .ok (.new 70, 3) := by decide +kernel
theorem aTd3 : decode cX7_mend 62 = .ok (.dup, 1) := by decide +kernel
theorem aTd4 : decode cX7_mend 63 = .ok (.ldc_w 264, 3) := by decide +kernel
theorem aTd7 : decode cX7_mend 66 = .ok (.invokespecial 74, 3) := by decide +kernel
theorem aTd10 : decode cX7_mend 69 = .ok (.athrow, 1) := by decide +kernel
theorem aTdh : decode cL_act 268 = .ok (.astore 7, 2) := by decide +kernel
variable {E : Nat → Value} {l : Launch}
/-- with this much fuel the small machine is right -/
def aOK (E : Nat → Value) (l : Launch) (f : Nat) : Prop := ∀ (d : Nat) (F : aF) (pc : Nat) (L : List (Option Value)) (st : List Value) (S : aS) (I : aI) (o : Option (Option Value)) (S' : aS) (I' : aI), aExec E f d F pc L st S I = some (o, S', I') → (aX S ≤ aX S' ∧ aZ S ≤ aZ S') ∧
  ∀ (p : Program) (e : Env) (R : Room) (s : State) (m : MethodId) (args : Array Value) (below : List Frame) (meth : Method) (c : Code) (H : Heap) (locs : List Loc) (cells slots : Nat) (Q : State → Prop) (D : va_G) (nb : Nat) (ls : Array Slot),
    aCx p s m args meth c D E nb F → aMR D nb s S I H → aLR ls L F.2.2.2.1 → L.length = c.maxLocals → va_S (fun q => nb ≤ q) s.heap H locs → d + 16 ≤ R.frames → 41 * d + 800 ≤ R.locals → cells + (aX S' - aX S) ≤ R.cells → slots + (aZ S' - aZ S) ≤ R.slots →
    (∀ v : Option Value, o = some v → ∀ (pc1 : Nat) (L1 : List (Option Value)) (st1 : List Value) (ls1 : Array Slot) (H1 : Heap) (locs1 : List Loc), aStep E F pc1 L1 st1 S' I' = some (.inr (.inl v)) → aLR ls1 L1 F.2.2.2.1 → L1.length = c.maxLocals → aMR D nb s S' I' H1 → va_S (fun q => nb ≤ q) s.heap H1 locs1 → W p l e R s m args below meth c H1 locs1 (cells + (aX S' - aX S)) (slots + (aZ S' - aZ S)) Q (F0 m pc1 ls1 st1)) →
    (o = none → ∀ (S1 : aS) (ls1 : Array Slot) (H1 : Heap) (locs1 : List Loc), F.2.2.2.1 = 1001 → S' = aNew S1 500 0 6 → aX S ≤ aX S1 → aZ S ≤ aZ S1 → ls1.size = c.maxLocals → aMR D nb s S1 I' H1 → va_S (fun q => nb ≤ q) s.heap H1 locs1 → W p l e R s m args below meth c H1 locs1 (cells + (aX S1 - aX S)) (slots + (aZ S1 - aZ S)) Q (F0 m 59 ls1 [])) →
    W p l e R s m args below meth c H locs cells slots Q (F0 m pc ls st)
theorem aThrown {p : Program} {e : Env} {R : Room} {s : State} {m : MethodId} {args : Array Value} {below : List Frame} {meth : Method} {c : Code} {H : Heap} {locs : List Loc} {cells slots : Nat} {D : va_G} {nb : Nat} {F : aF} {S : aS} {I : aI} {ls : Array Slot} {Qc : Array Value → State → Outcome → State → Prop} {o : Option (Option Value)} {mc ms : Nat}
    (hl : l.stackTraces = false) (hC : aCx p s m args meth c D E nb F) (hz : F.2.2.2.1 = 1001) (hM : aMR D nb s S I H) (hS : va_S (fun q => nb ≤ q) s.heap H locs) (hsz : ls.size = c.maxLocals) (ho : o = none) (hf : 16 ≤ R.frames) (hlo : 800 ≤ R.locals) (hc : cells + 1 ≤ R.cells) (hs : slots + 6 ≤ R.slots) (hmc : cells + 1 ≤ mc) (hms : slots + 6 ≤ ms) :
    W p l e R s m args below meth c H locs cells slots (vx_MQ below Qc (aXQ D nb o (aNew S 500 0 6) I) args s mc ms (fun q => nb ≤ q)) (F0 m 59 ls []) := by
  obtain ⟨hx, hb, hr, hown, hts, hG, hlk, hini, -, hmend⟩ := hC
  obtain ⟨rfl, htab⟩ := hmend hz
  obtain ⟨en, hen, hen2⟩ := List.any_eq_true.mp aThs
  simp only [Bool.and_eq_true, beq_iff_eq] at hen2
  obtain ⟨sa, -, hsa⟩ := hG.2.2.2.1 en hen
  rw [hen2.1, hen2.2] at hsa
  have hat : ∀ w ∈ vx_atS "TollTrustees" 74 aISE aNmE, w.before args s = true := by
    intro w hw
    cases hg : goodWord w with
    | true =>
      have h1 := List.all_eq_true.mp aThw1 w (List.mem_filter.mpr ⟨hw, hg⟩)
      exact hts w (List.mem_filter.mpr ⟨of_decide_eq_true h1, hg⟩)
    | false =>
      have h1 := List.all_eq_true.mp aThw2 w (List.mem_filter.mpr ⟨hw, by rw [hg]; rfl⟩)
      simp only [Bool.and_eq_true, decide_eq_true_eq] at h1
      obtain ⟨h1, h2⟩ := h1
      split at h2
      · exact va_Nw.use rfl (hG.2.2.2.2.2.1 _ h1 (Or.inl ⟨_, rfl⟩))
      · exact va_Nw.use rfl (hG.2.2.2.2.2.1 _ h1 (Or.inr ⟨_, _, rfl⟩))
      · cases h2
  refine a_throwSW (own := "TollTrustees") (cls := aISE) (names := aNmE) (is := 264) (sa := sa) hx hb hl hown (by decide) (by decide) (hts _ aThw4) (hts _ aThw5) hsa hat (fun w hw => List.all_eq_true.mp aThw3 w hw) hG.2.2.2.2.2.2.1 hG.2.2.2.2.2.2.2 hS hsz aTd0 aTd3 aTd4 aTd7 aTd10 (by rw [htab]; exact fun x hx => nomatch hx) (by show 2 + 3 < _; omega) (by show 0 + (13 * (2 + 1) + 43) ≤ _; omega) hc hs hlk (fun t hal hz1 hold => ⟨ho, rfl, ?_, ?_⟩) hS.2.2 hmc hms
  · refine (hM.push (S' := aNew S 500 0 6) (by rw [hz1, hM.1]; rfl) (Nat.le_succ _) hold (fun b hb => aU_lt _ _ hb) (fun b hb => aU_lt _ _ hb) (fun b hb => aU_lt _ _ hb) (fun b hb => rfl) (fun b hb => ?_) (fun b hb _ => Nat.le_trans hM.2.2.1 hb)).moved hal
    refine aCe.none ?_
    by_cases e0 : b = aX S
    · unfold aKd
      rw [e0, aNew_K]
      decide
    · have h9 := hM.beyond hb
      unfold aKd at h9 ⊢
      rw [show aK (aNew S 500 0 6) b = aK S b from aU_ne _ _ e0]
      exact h9
  · exact ⟨by rw [hz1]; exact Nat.le_trans hS.1 (Nat.le_succ _), fun q h1 h2 => (hold q (Nat.lt_of_lt_of_le h1 hS.1)).trans (hS.2.1 q h1 h2)⟩
end ASNDM
