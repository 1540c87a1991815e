/-! the small machine is sound -/
section AFIN
variable {E : Nat → Value} {l : Launch}
theorem aLR.none7 {ls ls' : Array Slot} {L : List (Option Value)} {z : Nat} {v : Value} (h : aLR ls L z) (hn : 7 < L.length) (h' : lv_has ls' L.length ((7, v) :: (aPr L).filter (fun q => !(q.1 == 7) && !(q.1 + 1 == 7 && q.2.category == 2)))) (hz : z ≠ 7) : aLR ls' (L.set 7 none) z := by
  refine ⟨⟨by rw [h'.1]; simp, h'.2.1, fun q hq => ?_⟩, fun j w hj hw => ?_⟩
  · obtain ⟨j, w⟩ := q
    have hj := aPr_mem.mp hq
    refine h'.2.2 (j, w) ?_
    by_cases e : j = 7
    · subst e
      rw [List.getElem?_set_self hn] at hj
      cases hj
    · rw [List.getElem?_set_ne (fun q => e q.symm)] at hj
      refine List.mem_cons_of_mem _ (List.mem_filter.mpr ⟨aPr_mem.mpr hj, ?_⟩)
      simp only [Bool.and_eq_true, Bool.not_eq_true', beq_eq_false_iff_ne, ne_eq, Bool.and_eq_false_iff]
      refine ⟨e, ?_⟩
      by_cases hw : w.category = 2
      · exact Or.inl (fun q => by have := h.2 j w hj hw; omega)
      · exact Or.inr hw
  · by_cases e : j = 7
    · subst e
      rw [List.getElem?_set_self hn] at hj
      cases hj
    · rw [List.getElem?_set_ne (fun q => e q.symm)] at hj
      exact h.2 j w hj hw
theorem aKeep {st₀ t T' : State} {L : List Loc} {nb : Nat} {H0 H : Heap} {locs : List Loc} (h0 : st₀.heap = H) (e1 : T'.heap = t.heap) (hS : va_S (fun q => nb ≤ q) H0 H locs) (hL : ∀ q ∈ L, nb ≤ q.base) (hF : va_F (fun q => nb ≤ q) st₀ t) : va_S (fun q => nb ≤ q) H0 T'.heap (locs ++ L) :=
  (vx_keep (A0 := fun q => nb ≤ q) (A1 := fun q => nb ≤ q) (free := fun q => nb ≤ q) h0 e1 hS (fun _ _ h => h) (fun _ h => h) hL hF).2.2
set_option maxHeartbeats 4000000 in
set_option maxRecDepth 100000 in
theorem aSnd (hl : l.stackTraces = false) : ∀ f, aOK E l f
  | 0 => fun d F pc L st S I o S' I' h => by cases h
  | f + 1 => by
    have ih := aSnd hl f
    intro d F pc L st S I o S' I' h
    unfold aExec at h
    split at h
    · rename_i ht
      split at h
      case isFalse => cases h
      rename_i hst
      subst hst
      cases h
      refine ⟨⟨Nat.le_succ _, Nat.le_add_right _ _⟩, fun p e R s m args below meth c H locs cells slots Q D nb ls hC hM hL hn hS hf hlo hc hs kr kt => ?_⟩
      unfold aThr at ht
      simp only [Bool.and_eq_true, beq_iff_eq] at ht
      obtain ⟨hz, rfl⟩ := ht
      exact W.cs (by omega) (by omega) (kt rfl S ls H locs hz rfl (Nat.le_refl _) (Nat.le_refl _) (by rw [hL.1.1, hn]) hM hS)
    · split at h
      · cases h
      · rename_i c1 hstep
        split at h
        case isFalse => cases h
        rename_i hm1
        obtain ⟨pc1, L1, st1, S1, I1⟩ := c1
        dsimp only at h hm1
        obtain ⟨hm2, hr2⟩ := ih d F pc1 L1 st1 S1 I1 o S' I' h
        refine ⟨⟨Nat.le_trans hm1.1 hm2.1, Nat.le_trans hm1.2 hm2.2⟩, fun p e R s m args below meth c H locs cells slots Q D nb ls hC hM hL hn hS hf hlo hc hs kr kt => ?_⟩
        refine aStepM hC hM hL hn hS hstep (by omega) (by omega) (by omega) (by omega) (fun ls' H' locs' hL' hn' hM' hS' => ?_)
        exact hr2 p e R s m args below meth c H' locs' (cells + (aX S1 - aX S)) (slots + (aZ S1 - aZ S)) Q D nb ls' hC hM' hL' (by rw [hn']; exact hn) hS' hf hlo (by omega) (by omega)
          (fun v hv pc2 L2 st2 ls2 H2 locs2 g1 g2 g3 g4 g5 => W.cs (by omega) (by omega) (kr v hv pc2 L2 st2 ls2 H2 locs2 g1 g2 g3 g4 g5))
          (fun ho S2 ls2 H2 locs2 g1 g2 g3 g4 g5 g6 g7 => W.cs (by omega) (by omega) (kt ho S2 ls2 H2 locs2 g1 g2 (Nat.le_trans hm1.1 g3) (Nat.le_trans hm1.2 g4) g5 g6 g7))
      · rename_i v hstep
        cases h
        refine ⟨⟨Nat.le_refl _, Nat.le_refl _⟩, fun p e R s m args below meth c H locs cells slots Q D nb ls hC hM hL hn hS hf hlo hc hs kr kt => ?_⟩
        exact W.cs (by omega) (by omega) (kr v rfl pc L st ls H locs hstep hL hn hM hS)
      · rename_i q hstep
        obtain ⟨en, as, rest⟩ := q
        obtain ⟨k, x, hk2, hcall, hd⟩ := aStep_call hstep
        obtain ⟨hB, hA, hlen⟩ := aCall_args hcall
        split at h
        · cases h
        rename_i d'
        dsimp only at h
        split at h
        · cases h
        · rename_i v S1 I1 hex
          split at h
          case isFalse => cases h
          rename_i hm1
          obtain ⟨hm2, hr2⟩ := ih (d' + 1) F (pc + 3) L (v.toList ++ rest) S1 I1 o S' I' h
          refine ⟨⟨Nat.le_trans hm1.1 hm2.1, Nat.le_trans hm1.2 hm2.2⟩, fun p e R s m args below meth c H locs cells slots Q D nb ls hC hM hL hn hS hf hlo hc hs kr kt => ?_⟩
          obtain ⟨_, hr⟩ := aCallRun (e := e) (R := R) (below := below) (cells := cells) (slots := slots) (en := en) (d := d') hC hM hL hn hS hcall hd hk2 (aMetOf ih hl hB hA hlen hex) (by omega) (by omega) (by omega) (by omega)
          intro T hT X
          rcases hr T hT X with ⟨v', st₀, t, T', L', h0, X', hL', e1, e2, ⟨⟨v2, ho2, hv2⟩, hM', hF⟩, stp⟩ | ⟨q, st₀, t, T', L', Ex, ce, h0, X', hL', e1, e2, ⟨ho2, -⟩, -⟩
          · cases ho2
            cases hv2
            have hal : t.vm.Alike s.vm := by rw [← e2]; exact X'.warmed.alike.symm
            obtain ⟨t2, a1, b1⟩ := hr2 p e R s m args below meth c T'.heap (locs ++ L') (cells + (aX S1 - aX S)) (slots + (aZ S1 - aZ S)) Q D nb ls hC (by rw [e1]; exact hM'.moved hal) hL hn (aKeep h0 e1 hS hL' hF) hf hlo (by omega) (by omega)
              (fun v hv pc2 L2 st2 ls2 H2 locs2 g1 g2 g3 g4 g5 => W.cs (by omega) (by omega) (kr v hv pc2 L2 st2 ls2 H2 locs2 g1 g2 g3 g4 g5))
              (fun ho S2 ls2 H2 locs2 g1 g2 g3 g4 g5 g6 g7 => W.cs (by omega) (by omega) (kt ho S2 ls2 H2 locs2 g1 g2 (Nat.le_trans hm1.1 g3) (Nat.le_trans hm1.2 g4) g5 g6 g7)) T' rfl X'
            exact ⟨t2, stp t2 a1, b1⟩
          · cases ho2
        · rename_i S1 I1 hex
          split at h
          case isFalse => cases h
          rename_i hm1
          obtain ⟨hh, h7, hm1⟩ := hm1
          obtain ⟨hm2, hr2⟩ := ih (d' + 1) F 270 (L.set 7 none) [] S1 I1 o S' I' h
          refine ⟨⟨Nat.le_trans hm1.1 hm2.1, Nat.le_trans hm1.2 hm2.2⟩, fun p e R s m args below meth c H locs cells slots Q D nb ls hC hM hL hn hS hf hlo hc hs kr kt => ?_⟩
          obtain ⟨_, hr⟩ := aCallRun (e := e) (R := R) (below := below) (cells := cells) (slots := slots) (en := en) (d := d') hC hM hL hn hS hcall hd hk2 (aMetOf ih hl hB hA hlen hex) (by omega) (by omega) (by omega) (by omega)
          unfold aHnd at hh
          simp only [Bool.and_eq_true, beq_iff_eq] at hh
          obtain ⟨hz, rfl⟩ := hh
          have hC' := hC
          obtain ⟨hx, hb, hr9, hown, hts, hG, hlk, hini, hact, -⟩ := hC'
          obtain ⟨hF0, htab⟩ := hact hz
          intro T hT X
          rcases hr T hT X with ⟨v', st₀, t, T', L', h0, X', hL', e1, e2, ⟨⟨v2, ho2, hv2⟩, -⟩, stp⟩ | ⟨q, st₀, t, T', L', Ex, ce, h0, X', hL', e1, e2, ⟨ho2, rfl, hM', hF⟩, hce, hcv, hcl, stp⟩
          · cases ho2
          · have hal : t.vm.Alike s.vm := by rw [← e2]; exact X'.warmed.alike.symm
            have hbc : c.code = cL_act := by rw [hb, hF0]
            have hown' : s.vm.findClass "TollTrusteesLaw" = some m.cls := by rw [hF0] at hown; exact hown
            have kx : vx_W p l e R s m args below meth c T'.heap (locs ++ L') (cells + (aX S1 - aX S)) (slots + (aZ S1 - aZ S)) Q (F0 m 245 ls rest) q := by
              refine vx_catch hown' [] ⟨241, 267, 268, 202⟩ [] htab (fun z hz => nomatch hz) (by decide) (by decide) (hts _ aThw6) (va_Nw.use rfl (hG.2.2.2.2.2.1 _ aThw7 (Or.inr ⟨_, _, rfl⟩))) (by rw [e1]; exact hce) hcv hcl ?_
              refine lv_astore hx hbc aTdh hL.1 h7 rfl (fun ls' hl' => ?_)
              exact hr2 p e R s m args below meth c T'.heap (locs ++ L') (cells + (aX S1 - aX S)) (slots + (aZ S1 - aZ S)) Q D nb ls' hC (by rw [e1]; exact hM'.moved hal) (hL.none7 h7 hl' (by rw [hz]; decide)) (by rw [List.length_set]; exact hn) (aKeep h0 e1 hS hL' hF) hf hlo (by omega) (by omega)
                (fun v hv pc2 L2 st2 ls2 H2 locs2 g1 g2 g3 g4 g5 => W.cs (by omega) (by omega) (kr v hv pc2 L2 st2 ls2 H2 locs2 g1 g2 g3 g4 g5))
                (fun ho S2 ls2 H2 locs2 g1 g2 g3 g4 g5 g6 g7 => W.cs (by omega) (by omega) (kt ho S2 ls2 H2 locs2 g1 g2 (Nat.le_trans hm1.1 g3) (Nat.le_trans hm1.2 g4) g5 g6 g7))
            obtain ⟨t2, a1, b1⟩ := kx T' rfl X'
            exact ⟨t2, stp.trans a1, b1⟩
end AFIN
