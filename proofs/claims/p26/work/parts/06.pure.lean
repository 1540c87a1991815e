/-! a step that neither reads nor writes memory nor asks the tables -/
def aMem : Instr → Bool
  | .getfield _ | .putfield _ | .getstatic _ | .newarray _ | .new _ | .arraylength | .iaload | .baload | .iastore | .bastore | .aaload | .aastore | .ldc _ | .ldc2_w _ | .invokestatic _ | .invokevirtual _ | .invokespecial _ | .multianewarray _ _ | .anewarray _ | .checkcast _ => true
  | _ => false
section APUR
variable {p : Program} {l : Launch} {e : Env} {R : Room} {s : State} {m : MethodId} {args : Array Value} {below : List Frame} {meth : Method} {c : Code} {H : Heap} {locs : List Loc} {cells slots : Nat} {Q : State → Prop}
variable {E : Nat → Value} {F : aF} {pc : Nat} {L : List (Option Value)} {st : List Value} {S : aS} {I : aI} {ls : Array Slot}
variable {pc' : Nat} {L' : List (Option Value)} {st' : List Value} {S' : aS} {I' : aI}
set_option maxHeartbeats 4000000 in
theorem aPureS (hx : p.tables.exec = Jvm.exec) (hb : c.code = F.2.1) (hL : aLR ls L F.2.2.2.1) {ins : Instr} {len : Nat} (hd : decode F.2.1 pc = .ok (ins, len)) (hl : aLen ins len = true) (hm : aMem ins = false)
    (h : aIns E F ins pc (pc + len) L st S I = some (.inl (pc', L', st', S', I'))) :
    S' = S ∧ I' = I ∧ (aKp p l e R s m args below meth c H locs cells slots Q F.2.2.2.1 L.length pc' L' st' → W p l e R s m args below meth c H locs cells slots Q (F0 m pc ls st)) := by
  cases ins with
  | iload n =>
    obtain rfl : len = 2 := by simpa [aLen] using hl
    obtain ⟨v, h1, h2, rfl, rfl, rfl, rfl, rfl⟩ := aLd_s h
    obtain ⟨x, rfl⟩ := aI_int h2
    exact ⟨rfl, rfl, fun kk => lv_iload hx hb hd (hL.get h1) (kk ls hL rfl)⟩
  | iload_n n =>
    obtain rfl : len = 1 := by simpa [aLen] using hl
    obtain ⟨v, h1, h2, rfl, rfl, rfl, rfl, rfl⟩ := aLd_s h
    obtain ⟨x, rfl⟩ := aI_int h2
    exact ⟨rfl, rfl, fun kk => lv_iload_n hx hb hd rfl (hL.get h1) (kk ls hL rfl)⟩
  | lload n =>
    obtain rfl : len = 2 := by simpa [aLen] using hl
    obtain ⟨v, h1, h2, rfl, rfl, rfl, rfl, rfl⟩ := aLd_s h
    obtain ⟨x, rfl⟩ := aI_long h2
    exact ⟨rfl, rfl, fun kk => lv_lload hx hb hd (hL.get h1) (kk ls hL rfl)⟩
  | lload_n n =>
    obtain rfl : len = 1 := by simpa [aLen] using hl
    obtain ⟨v, h1, h2, rfl, rfl, rfl, rfl, rfl⟩ := aLd_s h
    obtain ⟨x, rfl⟩ := aI_long h2
    exact ⟨rfl, rfl, fun kk => lv_lload_n hx hb hd rfl (hL.get h1) (kk ls hL rfl)⟩
  | aload n =>
    obtain rfl : len = 2 := by simpa [aLen] using hl
    obtain ⟨v, h1, h2, rfl, rfl, rfl, rfl, rfl⟩ := aLd_s h
    rcases aI_ref h2 with rfl | ⟨x, rfl⟩
    · exact ⟨rfl, rfl, fun kk => lv_aloadN hx hb hd (hL.get h1) (kk ls hL rfl)⟩
    · exact ⟨rfl, rfl, fun kk => lv_aload hx hb hd (hL.get h1) (kk ls hL rfl)⟩
  | aload_n n =>
    obtain rfl : len = 1 := by simpa [aLen] using hl
    obtain ⟨v, h1, h2, rfl, rfl, rfl, rfl, rfl⟩ := aLd_s h
    rcases aI_ref h2 with rfl | ⟨x, rfl⟩
    · exact ⟨rfl, rfl, fun kk => lv_aload_nN hx hb hd rfl (hL.get h1) (kk ls hL rfl)⟩
    · exact ⟨rfl, rfl, fun kk => lv_aload_n hx hb hd rfl (hL.get h1) (kk ls hL rfl)⟩
  | istore n =>
    obtain rfl : len = 2 := by simpa [aLen] using hl
    obtain ⟨v, r, rfl, h2, h3, h4, rfl, rfl, rfl, rfl, rfl⟩ := aSt_s h
    obtain ⟨x, rfl⟩ := aI_int h2
    exact ⟨rfl, rfl, fun kk => lv_istore hx hb hd hL.1 h3 rfl (fun ls1 hl1 => kk ls1 (hL.set1 h3 rfl h4 hl1) (by simp))⟩
  | istore_n n =>
    obtain rfl : len = 1 := by simpa [aLen] using hl
    obtain ⟨v, r, rfl, h2, h3, h4, rfl, rfl, rfl, rfl, rfl⟩ := aSt_s h
    obtain ⟨x, rfl⟩ := aI_int h2
    exact ⟨rfl, rfl, fun kk => lv_istore_n hx hb hd rfl hL.1 h3 rfl (fun ls1 hl1 => kk ls1 (hL.set1 h3 rfl h4 hl1) (by simp))⟩
  | astore n =>
    obtain rfl : len = 2 := by simpa [aLen] using hl
    obtain ⟨v, r, rfl, h2, h3, h4, rfl, rfl, rfl, rfl, rfl⟩ := aSt_s h
    rcases aI_ref h2 with rfl | ⟨x, rfl⟩
    · exact ⟨rfl, rfl, fun kk => lv_astoreN hx hb hd hL.1 h3 rfl (fun ls1 hl1 => kk ls1 (hL.set1 h3 rfl h4 hl1) (by simp))⟩
    · exact ⟨rfl, rfl, fun kk => lv_astore hx hb hd hL.1 h3 rfl (fun ls1 hl1 => kk ls1 (hL.set1 h3 rfl h4 hl1) (by simp))⟩
  | astore_n n =>
    obtain rfl : len = 1 := by simpa [aLen] using hl
    obtain ⟨v, r, rfl, h2, h3, h4, rfl, rfl, rfl, rfl, rfl⟩ := aSt_s h
    rcases aI_ref h2 with rfl | ⟨x, rfl⟩
    · exact ⟨rfl, rfl, fun kk => lv_astore_nN hx hb hd rfl hL.1 h3 rfl (fun ls1 hl1 => kk ls1 (hL.set1 h3 rfl h4 hl1) (by simp))⟩
    · exact ⟨rfl, rfl, fun kk => lv_astore_n hx hb hd rfl hL.1 h3 rfl (fun ls1 hl1 => kk ls1 (hL.set1 h3 rfl h4 hl1) (by simp))⟩
  | lstore n =>
    obtain rfl : len = 2 := by simpa [aLen] using hl
    obtain ⟨x, r, rfl, h3, h4, rfl, rfl, rfl, rfl, rfl⟩ := aStL_s h
    exact ⟨rfl, rfl, fun kk => lv_lstore hx hb hd hL.1 h3 rfl (fun ls1 hl1 => kk ls1 (hL.setL h3 h4 hl1) (by simp))⟩
  | lstore_n n =>
    obtain rfl : len = 1 := by simpa [aLen] using hl
    obtain ⟨x, r, rfl, h3, h4, rfl, rfl, rfl, rfl, rfl⟩ := aStL_s h
    exact ⟨rfl, rfl, fun kk => lv_lstore_n hx hb hd rfl hL.1 h3 rfl (fun ls1 hl1 => kk ls1 (hL.setL h3 h4 hl1) (by simp))⟩
  | iinc n k =>
    obtain rfl : len = 3 := by simpa [aLen] using hl
    simp only [aIns] at h
    split at h
    · rename_i x hv
      split at h
      · rename_i hq
        obtain ⟨rfl, rfl, rfl, rfl, rfl⟩ := aGo_inj h
        have hn : n < L.length := (List.getElem?_eq_some_iff.mp hv).1
        obtain ⟨j, hj⟩ := List.getElem?_of_mem (aPr_mem.mpr hv)
        exact ⟨rfl, rfl, fun kk => lv_iinc hx hb hd hL.1 (k := j) hj rfl hn rfl (fun ls1 hl1 => kk ls1 (hL.set1 hn rfl hq hl1) (by simp))⟩
      · cases h
    · cases h
  | iconst n =>
    obtain rfl : len = 1 := by simpa [aLen] using hl
    obtain ⟨rfl, rfl, rfl, rfl, rfl⟩ := aGo_inj h
    exact ⟨rfl, rfl, fun kk => lv_iconst hx hb hd rfl (kk ls hL rfl)⟩
  | bipush n =>
    obtain rfl : len = 2 := by simpa [aLen] using hl
    obtain ⟨rfl, rfl, rfl, rfl, rfl⟩ := aGo_inj h
    exact ⟨rfl, rfl, fun kk => lv_bipush hx hb hd rfl (kk ls hL rfl)⟩
  | sipush n =>
    obtain rfl : len = 3 := by simpa [aLen] using hl
    obtain ⟨rfl, rfl, rfl, rfl, rfl⟩ := aGo_inj h
    exact ⟨rfl, rfl, fun kk => lv_sipush hx hb hd rfl (kk ls hL rfl)⟩
  | dconst d =>
    obtain rfl : len = 1 := by simpa [aLen] using hl
    obtain ⟨v, hv⟩ := d
    match v, hv, hd, h with
    | 0, hv, hd, h =>
      obtain ⟨rfl, rfl, rfl, rfl, rfl⟩ := aGo_inj h
      exact ⟨rfl, rfl, fun kk => lv_dconst0 hx hb hd (kk ls hL rfl)⟩
    | 1, hv, hd, h => cases h
  | aconst_null =>
    obtain rfl : len = 1 := by simpa [aLen] using hl
    obtain ⟨rfl, rfl, rfl, rfl, rfl⟩ := aGo_inj h
    exact ⟨rfl, rfl, fun kk => lv_null hx hb hd (kk ls hL rfl)⟩
  | iadd =>
    obtain rfl : len = 1 := by simpa [aLen] using hl
    obtain ⟨y, x, r, rfl, rfl, rfl, rfl, rfl, rfl⟩ := aB_s h
    exact ⟨rfl, rfl, fun kk => lv_iadd hx hb hd (kk ls hL rfl)⟩
  | isub =>
    obtain rfl : len = 1 := by simpa [aLen] using hl
    obtain ⟨y, x, r, rfl, rfl, rfl, rfl, rfl, rfl⟩ := aB_s h
    exact ⟨rfl, rfl, fun kk => lv_isub hx hb hd (kk ls hL rfl)⟩
  | imul =>
    obtain rfl : len = 1 := by simpa [aLen] using hl
    obtain ⟨y, x, r, rfl, rfl, rfl, rfl, rfl, rfl⟩ := aB_s h
    exact ⟨rfl, rfl, fun kk => lv_imul hx hb hd (kk ls hL rfl)⟩
  | iand =>
    obtain rfl : len = 1 := by simpa [aLen] using hl
    obtain ⟨y, x, r, rfl, rfl, rfl, rfl, rfl, rfl⟩ := aB_s h
    exact ⟨rfl, rfl, fun kk => lv_iand hx hb hd (kk ls hL rfl)⟩
  | ior =>
    obtain rfl : len = 1 := by simpa [aLen] using hl
    obtain ⟨y, x, r, rfl, rfl, rfl, rfl, rfl, rfl⟩ := aB_s h
    exact ⟨rfl, rfl, fun kk => lv_ior hx hb hd (kk ls hL rfl)⟩
  | ishl =>
    obtain rfl : len = 1 := by simpa [aLen] using hl
    obtain ⟨y, x, r, rfl, rfl, rfl, rfl, rfl, rfl⟩ := aB_s h
    exact ⟨rfl, rfl, fun kk => lv_ishl hx hb hd (kk ls hL rfl)⟩
  | ishr =>
    obtain rfl : len = 1 := by simpa [aLen] using hl
    obtain ⟨y, x, r, rfl, rfl, rfl, rfl, rfl, rfl⟩ := aB_s h
    exact ⟨rfl, rfl, fun kk => lv_ishr hx hb hd (kk ls hL rfl)⟩
  | idiv =>
    obtain rfl : len = 1 := by simpa [aLen] using hl
    obtain ⟨y, x, r, rfl, h0, rfl, rfl, rfl, rfl, rfl⟩ := aB0_s h
    exact ⟨rfl, rfl, fun kk => lv_idiv hx hb hd h0 (kk ls hL rfl)⟩
  | irem =>
    obtain rfl : len = 1 := by simpa [aLen] using hl
    obtain ⟨y, x, r, rfl, h0, rfl, rfl, rfl, rfl, rfl⟩ := aB0_s h
    exact ⟨rfl, rfl, fun kk => lv_irem hx hb hd h0 (kk ls hL rfl)⟩
  | ineg =>
    obtain rfl : len = 1 := by simpa [aLen] using hl
    obtain ⟨x, r, rfl, rfl, rfl, rfl, rfl, rfl⟩ := aU1_s h
    exact ⟨rfl, rfl, fun kk => lv_ineg hx hb hd (kk ls hL rfl)⟩
  | i2l =>
    obtain rfl : len = 1 := by simpa [aLen] using hl
    obtain ⟨x, r, rfl, rfl, rfl, rfl, rfl, rfl⟩ := aU1_s h
    exact ⟨rfl, rfl, fun kk => lv_i2l hx hb hd rfl (kk ls hL rfl)⟩
  | i2b =>
    obtain rfl : len = 1 := by simpa [aLen] using hl
    obtain ⟨x, r, rfl, rfl, rfl, rfl, rfl, rfl⟩ := aU1_s h
    exact ⟨rfl, rfl, fun kk => lv_i2b hx hb hd rfl (kk ls hL rfl)⟩
  | i2c =>
    obtain rfl : len = 1 := by simpa [aLen] using hl
    obtain ⟨x, r, rfl, rfl, rfl, rfl, rfl, rfl⟩ := aU1_s h
    exact ⟨rfl, rfl, fun kk => lv_i2c hx hb hd rfl (kk ls hL rfl)⟩
  | i2d =>
    obtain rfl : len = 1 := by simpa [aLen] using hl
    obtain ⟨x, r, rfl, rfl, rfl, rfl, rfl, rfl⟩ := aU1_s h
    exact ⟨rfl, rfl, fun kk => lv_i2d hx hb hd (kk ls hL rfl)⟩
  | ladd =>
    obtain rfl : len = 1 := by simpa [aLen] using hl
    obtain ⟨y, x, r, rfl, rfl, rfl, rfl, rfl, rfl⟩ := aBL_s h
    exact ⟨rfl, rfl, fun kk => lv_ladd hx hb hd (kk ls hL rfl)⟩
  | lmul =>
    obtain rfl : len = 1 := by simpa [aLen] using hl
    obtain ⟨y, x, r, rfl, rfl, rfl, rfl, rfl, rfl⟩ := aBL_s h
    exact ⟨rfl, rfl, fun kk => lv_lmul hx hb hd (kk ls hL rfl)⟩
  | lcmp =>
    obtain rfl : len = 1 := by simpa [aLen] using hl
    obtain ⟨y, x, r, rfl, rfl, rfl, rfl, rfl, rfl⟩ := aBL_s h
    exact ⟨rfl, rfl, fun kk => W.lcmp hx hb hd (kk ls hL rfl)⟩
  | ddiv =>
    obtain rfl : len = 1 := by simpa [aLen] using hl
    simp only [aIns] at h
    split at h
    · split at h
      · rename_i hq
        obtain ⟨rfl, rfl, rfl, rfl, rfl⟩ := aGo_inj h
        exact ⟨rfl, rfl, fun kk => lv_ddiv hx hb hd hq (kk ls hL rfl)⟩
      · cases h
    · cases h
  | dcmp op =>
    obtain rfl : len = 1 := by simpa [aLen] using hl
    simp only [aIns] at h
    split at h
    · obtain ⟨rfl, rfl, rfl, rfl, rfl⟩ := aGo_inj h
      exact ⟨rfl, rfl, fun kk => lv_dcmp hx hb hd (kk ls hL rfl)⟩
    · cases h
  | pop =>
    obtain rfl : len = 1 := by simpa [aLen] using hl
    simp only [aIns] at h
    split at h
    · split at h
      · rename_i hq
        obtain ⟨rfl, rfl, rfl, rfl, rfl⟩ := aGo_inj h
        exact ⟨rfl, rfl, fun kk => lv_pop hx hb hd hq (kk ls hL rfl)⟩
      · cases h
    · cases h
  | dup =>
    obtain rfl : len = 1 := by simpa [aLen] using hl
    simp only [aIns] at h
    split at h
    · split at h
      · rename_i hq
        obtain ⟨rfl, rfl, rfl, rfl, rfl⟩ := aGo_inj h
        exact ⟨rfl, rfl, fun kk => lv_dup hx hb hd hq (kk ls hL rfl)⟩
      · cases h
    · cases h
  | dup2 =>
    obtain rfl : len = 1 := by simpa [aLen] using hl
    simp only [aIns] at h
    split at h
    · split at h
      · rename_i hq
        obtain ⟨rfl, rfl, rfl, rfl, rfl⟩ := aGo_inj h
        exact ⟨rfl, rfl, fun kk => lv_dup2_11 hx hb hd hq.1 hq.2 (kk ls hL rfl)⟩
      · cases h
    · cases h
  | goto off =>
    obtain rfl : len = 3 := by simpa [aLen] using hl
    obtain ⟨ht, rfl, rfl, rfl, rfl⟩ := aJmp_s h
    exact ⟨rfl, rfl, fun kk => lv_goto hx hb hd ht (kk ls hL rfl)⟩
  | ifCond cn off =>
    obtain rfl : len = 3 := by simpa [aLen] using hl
    simp only [aIns] at h
    split at h
    · rename_i x r
      by_cases hc : aCmp cn x 0 = true
      · rw [if_pos hc] at h
        obtain ⟨ht, rfl, rfl, rfl, rfl⟩ := aJmp_s h
        refine ⟨rfl, rfl, fun kk => ?_⟩
        have k := kk ls hL rfl
        cases cn
        · exact lv_if_eq hx hb hd ht (fun _ => k) (fun q => absurd (by simpa [aCmp] using hc) q)
        · exact lv_if_ne hx hb hd ht (fun _ => k) (fun q => absurd q (by simpa [aCmp] using hc))
        · exact lv_if_lt hx hb hd ht (fun _ => k) (fun q => absurd (by simpa [aCmp] using hc) q)
        · exact lv_if_ge hx hb hd ht (fun _ => k) (fun q => absurd (by simpa [aCmp] using hc) q)
        · exact lv_if_gt hx hb hd ht (fun _ => k) (fun q => absurd (by simpa [aCmp] using hc) q)
        · exact lv_if_le hx hb hd ht (fun _ => k) (fun q => absurd (by simpa [aCmp] using hc) q)
      · rw [if_neg hc] at h
        split at h
        case isFalse => cases h
        rename_i h0
        obtain ⟨rfl, rfl, rfl, rfl, rfl⟩ := aGo_inj h
        refine ⟨rfl, rfl, fun kk => ?_⟩
        have k := kk ls hL rfl
        obtain ⟨tgt, ht⟩ : ∃ t : Nat, (pc : Int) + off = (t : Int) := ⟨_, (Int.toNat_of_nonneg h0).symm⟩
        cases cn
        · exact lv_if_eq hx hb hd ht (fun q => absurd (by simpa [aCmp] using q) hc) (fun _ => k)
        · exact lv_if_ne hx hb hd ht (fun q => absurd (by simpa [aCmp] using q) hc) (fun _ => k)
        · exact lv_if_lt hx hb hd ht (fun q => absurd (by simpa [aCmp] using q) hc) (fun _ => k)
        · exact lv_if_ge hx hb hd ht (fun q => absurd (by simpa [aCmp] using q) hc) (fun _ => k)
        · exact lv_if_gt hx hb hd ht (fun q => absurd (by simpa [aCmp] using q) hc) (fun _ => k)
        · exact lv_if_le hx hb hd ht (fun q => absurd (by simpa [aCmp] using q) hc) (fun _ => k)
    · cases h
  | if_icmp cn off =>
    obtain rfl : len = 3 := by simpa [aLen] using hl
    simp only [aIns] at h
    split at h
    · rename_i y x r
      by_cases hc : aCmp cn x y = true
      · rw [if_pos hc] at h
        obtain ⟨ht, rfl, rfl, rfl, rfl⟩ := aJmp_s h
        refine ⟨rfl, rfl, fun kk => ?_⟩
        have k := kk ls hL rfl
        cases cn
        · exact lv_icmp_eq hx hb hd ht (fun _ => k) (fun q => absurd (by simpa [aCmp] using hc) q)
        · exact lv_icmp_ne hx hb hd ht (fun _ => k) (fun q => absurd q (by simpa [aCmp] using hc))
        · exact lv_icmp_lt hx hb hd ht (fun _ => k) (fun q => absurd (by simpa [aCmp] using hc) q)
        · exact lv_icmp_ge hx hb hd ht (fun _ => k) (fun q => absurd (by simpa [aCmp] using hc) q)
        · exact lv_icmp_gt hx hb hd ht (fun _ => k) (fun q => absurd (by simpa [aCmp] using hc) q)
        · exact lv_icmp_le hx hb hd ht (fun _ => k) (fun q => absurd (by simpa [aCmp] using hc) q)
      · rw [if_neg hc] at h
        split at h
        case isFalse => cases h
        rename_i h0
        obtain ⟨rfl, rfl, rfl, rfl, rfl⟩ := aGo_inj h
        refine ⟨rfl, rfl, fun kk => ?_⟩
        have k := kk ls hL rfl
        obtain ⟨tgt, ht⟩ : ∃ t : Nat, (pc : Int) + off = (t : Int) := ⟨_, (Int.toNat_of_nonneg h0).symm⟩
        cases cn
        · exact lv_icmp_eq hx hb hd ht (fun q => absurd (by simpa [aCmp] using q) hc) (fun _ => k)
        · exact lv_icmp_ne hx hb hd ht (fun q => absurd (by simpa [aCmp] using q) hc) (fun _ => k)
        · exact lv_icmp_lt hx hb hd ht (fun q => absurd (by simpa [aCmp] using q) hc) (fun _ => k)
        · exact lv_icmp_ge hx hb hd ht (fun q => absurd (by simpa [aCmp] using q) hc) (fun _ => k)
        · exact lv_icmp_gt hx hb hd ht (fun q => absurd (by simpa [aCmp] using q) hc) (fun _ => k)
        · exact lv_icmp_le hx hb hd ht (fun q => absurd (by simpa [aCmp] using q) hc) (fun _ => k)
    · cases h
  | ifnonnull off =>
    obtain rfl : len = 3 := by simpa [aLen] using hl
    simp only [aIns] at h
    split at h
    · obtain ⟨ht, rfl, rfl, rfl, rfl⟩ := aJmp_s h
      exact ⟨rfl, rfl, fun kk => lv_ifnonnull hx hb hd ht (kk ls hL rfl)⟩
    · obtain ⟨rfl, rfl, rfl, rfl, rfl⟩ := aGo_inj h
      exact ⟨rfl, rfl, fun kk => lv_ifnonnullN hx hb hd (kk ls hL rfl)⟩
    · cases h
  | ifnull off =>
    obtain rfl : len = 3 := by simpa [aLen] using hl
    simp only [aIns] at h
    split at h
    · obtain ⟨rfl, rfl, rfl, rfl, rfl⟩ := aGo_inj h
      exact ⟨rfl, rfl, fun kk => lv_ifnull hx hb hd (kk ls hL rfl)⟩
    · obtain ⟨ht, rfl, rfl, rfl, rfl⟩ := aJmp_s h
      exact ⟨rfl, rfl, fun kk => lv_ifnullN hx hb hd ht (kk ls hL rfl)⟩
    · cases h
  | tableswitch d lo hi offs =>
    simp only [aIns] at h
    split at h
    · rename_i x r
      by_cases hc : x.toInt < lo ∨ hi < x.toInt
      · rw [if_pos hc] at h
        obtain ⟨ht, rfl, rfl, rfl, rfl⟩ := aJmp_s h
        exact ⟨rfl, rfl, fun kk => lv_tableOut hx hb hd hc ht (kk ls hL rfl)⟩
      · rw [if_neg hc] at h
        split at h
        · rename_i off ho
          obtain ⟨ht, rfl, rfl, rfl, rfl⟩ := aJmp_s h
          exact ⟨rfl, rfl, fun kk => lv_tableIn hx hb hd (fun q => hc (Or.inl q)) (fun q => hc (Or.inr q)) ho ht (kk ls hL rfl)⟩
        · cases h
    · cases h
  | lookupswitch d ps =>
    simp only [aIns] at h
    split at h
    · rename_i x r
      split at h
      · rename_i hc
        obtain ⟨ht, rfl, rfl, rfl, rfl⟩ := aJmp_s h
        exact ⟨rfl, rfl, fun kk => lv_lookup hx hb hd hc rfl ht (kk ls hL rfl)⟩
      · cases h
    · cases h
  | ireturn =>
    simp only [aIns, aRet] at h
    repeat' (first | (cases h; done) | (split at h))
  | areturn =>
    simp only [aIns] at h
    repeat' (first | (cases h; done) | (split at h))
  | lreturn =>
    simp only [aIns] at h
    repeat' (first | (cases h; done) | (split at h))
  | dreturn =>
    simp only [aIns] at h
    repeat' (first | (cases h; done) | (split at h))
  | return_ =>
    simp only [aIns] at h
    repeat' (first | (cases h; done) | (split at h))
  | _ => first | (simp [aMem] at hm; done) | (simp [aIns] at h; done)
end APUR
