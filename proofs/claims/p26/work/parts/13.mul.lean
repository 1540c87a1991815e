/-! new int[n][k] -/
section AMLS
variable {p : Program} {l : Launch} {e : Env} {R : Room} {s : State} {m : MethodId} {args : Array Value} {below : List Frame} {meth : Method} {c : Code} {H : Heap} {locs : List Loc} {cells slots : Nat} {Q : State → Prop}
variable {D : va_G} {E : Nat → Value} {nb : Nat} {F : aF} {pc : Nat} {L : List (Option Value)} {st : List Value} {S : aS} {I : aI} {ls : Array Slot}
variable {pc' : Nat} {L' : List (Option Value)} {st' : List Value} {S' : aS} {I' : aI}
theorem aOuter (c : ClassId) (N h0 : Nat) : ∀ i : Nat, Jvm.Free.Multi.outerC c N h0 i = arrV c N (fun j => va_rf (if j < i then some (h0 + 1 + j) else none))
  | 0 => by
    show ({ cls := c, slots := Array.replicate N .null, vm := .none } : Cell) = _
    rw [arrV_new]
    refine congrArg (arrV c N) (funext fun j => ?_)
    simp [va_rf]
  | i + 1 => by
    show (Jvm.Free.Multi.outerC c N h0 i).setSlot i (.ref (h0 + 1 + i)) = _
    rw [aOuter c N h0 i, arrV_store]
    refine congrArg (arrV c N) (funext fun j => ?_)
    by_cases e : j = i
    · subst e
      simp [updV, va_rf]
    · by_cases h : j < i
      · simp [updV, e, h, Nat.lt_succ_of_lt h]
      · simp [updV, e, h, show ¬ j < i + 1 by omega]
theorem aMulS_S {x : Nat} (hC : aCx p s m args meth c D E nb F) (hM : aMR D nb s S I H) (hL : aLR ls L F.2.2.2.1) (hS : va_S (fun q => nb ≤ q) s.heap H locs) (hd : decode F.2.1 pc = .ok (.multianewarray x 2, 4)) (h : aIns E F (.multianewarray x 2) pc (pc + 4) L st S I = some (.inl (pc', L', st', S', I')))
    (hc : cells + (aX S' - aX S) ≤ R.cells) (hs : slots + (aZ S' - aZ S) ≤ R.slots)
    (kk : aKm p l e R s m args below meth c cells slots Q D nb F.2.2.2.1 L.length S pc' L' st' S' I') : W p l e R s m args below meth c H locs cells slots Q (F0 m pc ls st) := by
  obtain ⟨hx, hb, hr, hown, hts, hG, hlk, hini, -⟩ := hC
  simp only [aIns] at h
  split at h
  · rename_i hx0
    obtain ⟨en, hen, e1, e2⟩ := aHas_s hx0
    have hw := List.all_eq_true.mp aMulOk en hen
    unfold aMulB at hw
    simp only [Bool.and_eq_true, decide_eq_true_eq] at hw
    rw [e1, e2] at hw
    split at h
    · rename_i k n r
      split at h
      · rename_i hk
        obtain ⟨k1, k2, k3, k4⟩ := hk
        obtain ⟨rfl, rfl, rfl, rfl, rfl⟩ := aGo_in2 h
        have eX : aX (aMulS S n.toNatClampNeg k.toNatClampNeg) = aX S + 1 + n.toNatClampNeg := rfl
        have eZ : aZ (aMulS S n.toNatClampNeg k.toNatClampNeg) = aZ S + n.toNatClampNeg + n.toNatClampNeg * k.toNatClampNeg := rfl
        rw [eX] at hc
        rw [eZ] at hs
        intro T hT Xs
        obtain ⟨vm₁, cA, comp, -, fA, fC, hO, hI, X', step⟩ := Jvm.Stand.multianewarray2F (ty := .int) Xs hx hown (hts _ (aT_of hw.1 hw.2)) hG.2.2.2.2.1 (hts _ aW_int) (g := F0 m pc ls (.int k :: .int n :: r)) rfl (by rw [hb]; exact hd) rfl (Int32.not_lt.mpr k1) (Int32.not_lt.mpr k2) k3 k4 (by omega) rfl rfl (by omega) (by omega)
        generalize hF : Jvm.Free.Multi.fill (T.setVm vm₁) cA comp n.toNatClampNeg k.toNatClampNeg (defaultValue .int) n.toNatClampNeg = U at X' step
        have hTh : (T.setVm vm₁).heap = H := hT
        obtain ⟨f1, f2, -, -⟩ := Jvm.Free.Multi.fill_facts (T.setVm vm₁) cA comp n.toNatClampNeg k.toNatClampNeg (defaultValue .int) n.toNatClampNeg
        rw [hF, hTh] at f1 f2
        have hold : ∀ x : Nat, x < H.size → U.heap[x]? = H[x]? := fun x hx => by
          have := Jvm.Free.Multi.fill_old (T.setVm vm₁) cA comp n.toNatClampNeg k.toNatClampNeg (defaultValue .int) (a := x) (by rw [hTh]; exact hx) n.toNatClampNeg
          rw [hF, hTh] at this
          exact this
        have hrow : ∀ j : Nat, j < n.toNatClampNeg → U.heap[H.size + 1 + j]? = some (arrV comp k.toNatClampNeg (fun _ => .int 0)) := fun j hj => by
          have := Jvm.Free.Multi.fill_inner (T.setVm vm₁) cA comp n.toNatClampNeg k.toNatClampNeg (defaultValue .int) n.toNatClampNeg j hj
          rw [hF, hTh] at this
          rw [this]
          exact congrArg some (arrV_new _ _ _)
        rw [aOuter] at f2
        have hArA : ArrOfT s cA (.array .int) := fun N9 z9 => by
          obtain ⟨-, k9, hk9, cm9, hkk9⟩ := (hO 0 0 0).1
          exact ⟨(fun q hq => by cases hq), k9, hk9, cm9, hkk9⟩
        have hArC : ArrOfT s comp .int := fun N9 z9 => by
          obtain ⟨-, k9, hk9, cm9, hkk9⟩ := (hI 0 (.int 0)).1
          exact ⟨(fun q hq => by cases hq), k9, hk9, cm9, hkk9⟩
        have hz := hM.1
        have hM' : aMR D nb s (aMulS S n.toNatClampNeg k.toNatClampNeg) (aMulI S I n.toNatClampNeg) U.heap := by
          refine hM.push (by rw [f1, eX, hz]) (by rw [eX]; omega) hold (fun b hb2 => ?_) (fun b hb2 => ?_) (fun b hb2 => ?_) (fun b hb2 => ?_) (fun b hb2 => ?_) (fun b hb2 _ => Nat.le_trans hM.2.2.1 hb2)
          · show (if b = aX S then 102 else if aX S < b ∧ b ≤ aX S + n.toNatClampNeg then 100 else aK S b) = aK S b
            rw [if_neg (by omega), if_neg (by omega)]
          · show (if b = aX S then n.toNatClampNeg else if aX S < b ∧ b ≤ aX S + n.toNatClampNeg then k.toNatClampNeg else aN S b) = aN S b
            rw [if_neg (by omega), if_neg (by omega)]
          · show (if b = aX S then _ else if aX S < b ∧ b ≤ aX S + n.toNatClampNeg then _ else aP S b) = aP S b
            rw [if_neg (by omega), if_neg (by omega)]
          · show (if aX S ≤ b ∧ b ≤ aX S + n.toNatClampNeg then _ else I b) = I b
            rw [if_neg (by omega)]
          · by_cases e0 : b = aX S
            · subst e0
              refine aCe.row (cA := cA) ?_ hArA fA ?_
              · show (if aX S = aX S then 102 else _) = 102
                rw [if_pos rfl]
              · rw [← hz, f2, hz]
                show some _ = some (arrV cA (if aX S = aX S then n.toNatClampNeg else _) (fun j => va_rf ((if aX S = aX S then _ else _ : Nat → Option Nat) j)))
                rw [if_pos rfl, if_pos rfl]
            · by_cases e1 : b ≤ aX S + n.toNatClampNeg
              · have hj : b = H.size + 1 + (b - aX S - 1) := by rw [hz]; omega
                refine aCe.arr (cA := comp) ?_ hArC fC ?_
                · show (if b = aX S then 102 else if aX S < b ∧ b ≤ aX S + n.toNatClampNeg then 100 else aK S b) = 100
                  rw [if_neg e0, if_pos ⟨by omega, e1⟩]
                · have hr := hrow (b - aX S - 1) (by omega)
                  rw [← hj] at hr
                  rw [hr]
                  show some _ = some (arrV comp (if b = aX S then n.toNatClampNeg else if aX S < b ∧ b ≤ aX S + n.toNatClampNeg then k.toNatClampNeg else aN S b) (fun j => .int ((if aX S ≤ b ∧ b ≤ aX S + n.toNatClampNeg then (fun _ => 0) else I b : Nat → Int32) j)))
                  rw [if_neg e0, if_pos ⟨by omega, e1⟩, if_pos ⟨hb2, e1⟩]
              · refine aCe.none ?_
                have h9 := hM.beyond hb2
                unfold aKd at h9 ⊢
                show 102 < (if b = aX S then 102 else if aX S < b ∧ b ≤ aX S + n.toNatClampNeg then 100 else aK S b) % 1000
                rw [if_neg e0, if_neg (by omega)]
                exact h9
        have kN := kk ls U.heap locs hL rfl hM' (aS_new hS (by omega) hold)
        rw [eX, eZ] at kN
        rw [show cells + (aX S + 1 + n.toNatClampNeg - aX S) = cells + 1 + n.toNatClampNeg by omega, show slots + (aZ S + n.toNatClampNeg + n.toNatClampNeg * k.toNatClampNeg - aZ S) = slots + n.toNatClampNeg + n.toNatClampNeg * k.toNatClampNeg by omega] at kN
        obtain ⟨t, b1, b2⟩ := kN U rfl X'
        refine ⟨t, step t ?_, b2⟩
        rw [hT, hz]
        exact b1
      · cases h
    · cases h
  · cases h
end AMLS
