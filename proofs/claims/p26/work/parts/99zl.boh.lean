/-! the class that is taught stands beside the law's road -/
section ZL
variable {E : Nat → Value} {d : Nat} {S S' S0 S1 : aS} {M M' M0 M1 : Nat → Nat → Int} {cb sb s v z cl : Nat} {bs : List Int} {m T : Nat → Nat} {A : Nat → Nat → Nat} {ce : Nat → Int} {R W O : Nat → Nat → Int} {w : Nat → Int}
/-- how it is when a trust begins -/
theorem bg0 {R W : Nat → Nat → Int} (i : Nat) : sBeg R W 0 i = if i = 3 then 200 else W 0 i := by
  unfold sBeg sB4 sB3 sB2 sB1
  simp [fil, mW_get]
theorem bg1 {R W : Nat → Nat → Int} (i : Nat) : sBeg R W 1 i = if i < 45 then 100 else W 1 i := by
  unfold sBeg sB4 sB3 sB2 sB1
  simp [fil, mW_get]
theorem bg2 {R W : Nat → Nat → Int} (i : Nat) : sBeg R W 2 i = if i < 45 then 0 else W 2 i := by
  unfold sBeg sB4 sB3 sB2 sB1
  simp [fil, mW_get]
theorem bg3 {R W : Nat → Nat → Int} (i : Nat) : sBeg R W 3 i = if i < 5 then 0 else W 3 i := by
  unfold sBeg sB4 sB3 sB2 sB1
  simp [fil, mW_get]
theorem bg4 {R W : Nat → Nat → Int} (i : Nat) : sBeg R W 4 i = if i < 5 then R 6 i else W 4 i := by
  unfold sBeg sB4 sB3 sB2 sB1
  simp [fil, mW_get]
theorem bg5 {R W : Nat → Nat → Int} (i : Nat) : sBeg R W 5 i = if i < 5 then 0 else W 5 i := by
  unfold sBeg sB4 sB3 sB2 sB1
  simp [fil, mW_get]
theorem bg6 {R W : Nat → Nat → Int} (i : Nat) : sBeg R W 6 i = if i < 5 then 0 else W 6 i := by
  unfold sBeg sB4 sB3 sB2 sB1
  simp [fil, mW_get]
theorem bg7 {R W : Nat → Nat → Int} (i : Nat) : sBeg R W 7 i = if i < 5 then -1 else W 7 i := by
  unfold sBeg sB4 sB3 sB2 sB1
  simp [fil, mW_get]
theorem bg8 {R W : Nat → Nat → Int} (i : Nat) : sBeg R W 8 i = if i < 5 then 0 else W 8 i := by
  unfold sBeg sB4 sB3 sB2 sB1
  simp [fil, mW_get]
theorem bg9 {R W : Nat → Nat → Int} (i : Nat) : sBeg R W 9 i = if i < 8 then R 8 i else W 9 i := by
  unfold sBeg sB4 sB3 sB2 sB1
  simp [fil, mW_get]
theorem bg10 {R W : Nat → Nat → Int} (i : Nat) : sBeg R W 10 i = if i < 8 then 0 else W 10 i := by
  unfold sBeg sB4 sB3 sB2 sB1
  simp [fil, mW_get]
theorem bg11 {R W : Nat → Nat → Int} (i : Nat) : sBeg R W 11 i = if i < 8 then 0 else W 11 i := by
  unfold sBeg sB4 sB3 sB2 sB1
  simp [fil, mW_get]
theorem bg12 {R W : Nat → Nat → Int} (i : Nat) : sBeg R W 12 i = if i < 8 then 0 else W 12 i := by
  unfold sBeg sB4 sB3 sB2 sB1
  simp [fil, mW_get]
theorem bgN {R W : Nat → Nat → Int} {j : Nat} (i : Nat) (h : 13 ≤ j) : sBeg R W j i = W j i := by
  unfold sBeg sB4 sB3 sB2 sB1 fil
  rw [if_neg (by omega), if_neg (by omega), if_neg (by omega), if_neg (by omega), if_neg (by omega), if_neg (by omega), if_neg (by omega), if_neg (by omega), if_neg (by omega), if_neg (by omega), if_neg (by omega), if_neg (by omega), mW_ne (by omega)]
abbrev W00 (W : Nat → Nat → Int) : Prop := ∀ j i, W j i = if j = 0 ∧ i = 3 then 200 else if j = 0 ∧ i = 16 then -1 else 0
theorem w00 {W : Nat → Nat → Int} (h : W00 W) {j i : Nat} (hj : 1 ≤ j) : W j i = 0 := by rw [h, if_neg (by omega), if_neg (by omega)]
theorem bz {R W : Nat → Nat → Int} (h : W00 W) {j i : Nat} (hj : j = 2 ∨ j = 3 ∨ j = 5 ∨ j = 6 ∨ j = 8 ∨ j = 10 ∨ j = 11 ∨ j = 12 ∨ 13 ≤ j) : sBeg R W j i = 0 := by
  rcases hj with rfl | rfl | rfl | rfl | rfl | rfl | rfl | rfl | hj
  · rw [bg2, w00 h (by decide)]; split <;> rfl
  · rw [bg3, w00 h (by decide)]; split <;> rfl
  · rw [bg5, w00 h (by decide)]; split <;> rfl
  · rw [bg6, w00 h (by decide)]; split <;> rfl
  · rw [bg8, w00 h (by decide)]; split <;> rfl
  · rw [bg10, w00 h (by decide)]; split <;> rfl
  · rw [bg11, w00 h (by decide)]; split <;> rfl
  · rw [bg12, w00 h (by decide)]; split <;> rfl
  · rw [bgN _ hj, w00 h (by omega)]
theorem bz1 {R W : Nat → Nat → Int} (h : W00 W) {i : Nat} : sBeg R W 1 i = if i < 45 then 100 else 0 := by rw [bg1, w00 h (by decide)]
theorem bz4 {R W : Nat → Nat → Int} (h : W00 W) {i : Nat} : sBeg R W 4 i = if i < 5 then R 6 i else 0 := by rw [bg4, w00 h (by decide)]
theorem bz7 {R W : Nat → Nat → Int} (h : W00 W) {i : Nat} : sBeg R W 7 i = if i < 5 then -1 else 0 := by rw [bg7, w00 h (by decide)]
theorem bz9 {R W : Nat → Nat → Int} (h : W00 W) {i : Nat} : sBeg R W 9 i = if i < 8 then R 8 i else 0 := by rw [bg9, w00 h (by decide)]
theorem bz0 {R W : Nat → Nat → Int} (h : W00 W) {i : Nat} : sBeg R W 0 i = if i = 3 then 200 else if i = 16 then -1 else 0 := by
  rw [bg0, h]
  by_cases e : i = 3
  · rw [if_pos e, if_pos e]
  · rw [if_neg e, if_neg e, if_neg (by omega)]
    by_cases e2 : i = 16
    · rw [if_pos ⟨rfl, e2⟩, if_pos e2]
    · rw [if_neg (by omega), if_neg e2]
theorem zw_00 (h : W00 W) : ZW W := ⟨fun j k j1 j2 hk => by rw [h, if_neg (by omega), if_neg (by omega)], fun k h1 h2 h3 h4 => by rw [h, if_neg (by omega), if_neg (by omega)]⟩
theorem zw_beg (h : W00 W) : ZW (sBeg R W) := by
  refine ⟨fun j k j1 j2 hk => ?_, fun k h1 h2 h3 h4 => ?_⟩
  · rcases (by omega : j = 1 ∨ j = 4 ∨ j = 7 ∨ j = 9 ∨ (j = 2 ∨ j = 3 ∨ j = 5 ∨ j = 6 ∨ j = 8 ∨ j = 10 ∨ j = 11 ∨ j = 12 ∨ 13 ≤ j)) with rfl | rfl | rfl | rfl | hj
    · have hk' : 45 ≤ k := hk
      rw [bz1 h, if_neg (by omega)]
    · have hk' : 5 ≤ k := hk
      rw [bz4 h, if_neg (by omega)]
    · have hk' : 5 ≤ k := hk
      rw [bz7 h, if_neg (by omega)]
    · have hk' : 8 ≤ k := hk
      rw [bz9 h, if_neg (by omega)]
    · exact bz h hj
  · rw [bz0 h, if_neg h2, if_neg h3]
theorem gd_beg (h : W00 W) (hR : ∀ j k, R32 (R j k)) (hI : IvR ce (C2 ce) (C4 ce) (C5 ce) R) (hZ : IvZ ce (C2 ce) (C4 ce) (C5 ce) R) : Gd (cC ce) 0 (sBeg R W) := by
  have h2 := C2_b (ce := ce)
  have h4 := C4_b (ce := ce)
  have h5 := C5_b (ce := ce)
  have d4 : cC ce 4 = C4 ce := rfl
  have d5 : cC ce 5 = C5 ce := rfl
  have r6 : ∀ i, 0 ≤ R 6 i ∧ R 6 i ≤ 60 := fun i => by
    by_cases hi : i < C4 ce
    · have := (hI.2.2.2.1 i hi).2
      have := gt_b (ce := ce) i
      omega
    · have := hZ.2.1 i (by omega)
      omega
  have r8 : ∀ i, 0 ≤ R 8 i ∧ R 8 i ≤ 16 := fun i => by
    by_cases hi : i < C5 ce
    · have := (hI.2.2.2.2 i hi).2.1
      have := twl_b (ce := ce) i
      omega
    · have := hZ.2.2 i (by omega)
      omega
  have e8 : ∀ i, sBeg R W 8 i = 0 := fun i => bz h (by decide)
  refine ⟨⟨fun j i hj => ?_, fun i => by rw [e8 i]; omega, fun i _ => e8 i⟩, ⟨fun j k => ?_, fun g _ => ?_, fun m _ => ?_, fun a ha => ?_⟩, ?_, ?_⟩
  · have g6 := r6 i
    have g8 := r8 i
    rcases (by omega : j = 0 ∨ j = 1 ∨ j = 2 ∨ j = 3 ∨ j = 4 ∨ j = 5 ∨ j = 6 ∨ j = 7 ∨ j = 8 ∨ j = 9 ∨ j = 10 ∨ j = 11 ∨ j = 12 ∨ 13 ≤ j) with rfl | rfl | rfl | rfl | rfl | rfl | rfl | rfl | rfl | rfl | rfl | rfl | rfl | hj'
    · rw [bz0 h]
      show (i = 2 → 0 ≤ _ ∧ _ ≤ ((0 : Nat) : Int)) ∧ (i = 3 → 0 ≤ _ ∧ _ ≤ 99999 + 120 * ((0 : Nat) : Int))
      refine ⟨fun e => ?_, fun e => ?_⟩
      · rw [if_neg (by omega), if_neg (by omega)]; omega
      · rw [if_pos e]; omega
    · rw [bz1 h]
      show 0 ≤ _ ∧ _ ≤ (100 : Int)
      split <;> omega
    · rw [bz h (by decide)]; exact ⟨by decide, by decide⟩
    · rw [bz h (by decide)]; exact ⟨by decide, by decide⟩
    · rw [bz4 h]
      show 0 ≤ _ ∧ _ ≤ (60 : Int)
      split <;> omega
    · rw [bz h (by decide)]; exact ⟨by decide, by decide⟩
    · rw [bz h (by decide)]; exact ⟨by decide, by decide⟩
    · rw [bz7 h]
      show -1 ≤ _ ∧ _ ≤ (999 : Int)
      split <;> omega
    · exact absurd rfl hj
    · rw [bz9 h]
      show 0 ≤ _ ∧ _ ≤ (16 : Int)
      split <;> omega
    · rw [bz h (by decide)]; exact ⟨by decide, by decide⟩
    · rw [bz h (by decide)]; exact ⟨by decide, by decide⟩
    · rw [bz h (by decide)]; exact ⟨by decide, by decide⟩
    · unfold Bq
      split <;> first | trivial | omega
  · have g6 := hR 6 k
    have g8 := hR 8 k
    rcases (by omega : j = 0 ∨ j = 1 ∨ j = 4 ∨ j = 7 ∨ j = 9 ∨ (j = 2 ∨ j = 3 ∨ j = 5 ∨ j = 6 ∨ j = 8 ∨ j = 10 ∨ j = 11 ∨ j = 12 ∨ 13 ≤ j)) with rfl | rfl | rfl | rfl | rfl | hj
    · rw [bz0 h]
      split
      · exact ⟨by decide, by decide⟩
      · split <;> exact ⟨by decide, by decide⟩
    · rw [bz1 h]; split <;> exact ⟨by decide, by decide⟩
    · rw [bz4 h]
      split
      · exact g6
      · exact ⟨by decide, by decide⟩
    · rw [bz7 h]; split <;> exact ⟨by decide, by decide⟩
    · rw [bz9 h]
      split
      · exact g8
      · exact ⟨by decide, by decide⟩
    · rw [bz h hj]; exact ⟨by decide, by decide⟩
  · rw [bz7 h]; split <;> decide
  · rw [bz1 h]; split <;> decide
  · rw [bz9 h, if_pos (by omega)]
    have := (hI.2.2.2.2 a ha).2.1
    have := twl_b (ce := ce) a
    omega
  · rw [bz0 h, if_neg (by decide), if_pos rfl]
  · have z : ∀ (f : Nat → Int) n, (∀ i, f i = 0) → sSum f n = 0 := fun f n hf => by
      induction n with
      | zero => rfl
      | succ n ih =>
        show sSum f n + f n = 0
        rw [ih, hf]
        rfl
    rw [z _ _ (fun i => bz h (by decide)), z _ _ (fun i => bz h (by decide))]
/-- the law's road, when all rows are made -/
theorem sm_of (h : Lz cb sb s S0 M0 ce S1 M1 v bs z 6 m T A) (hm : m 6 = C6 ce) (hcl : aX S1 ≤ cl) (g : ∀ x, x < aX S1 → aK S x = aK S1 x ∧ aN S x = aN S1 x ∧ aP S x = aP S1 x) (f : ∀ x, x < aX S1 → M x = M1 x) (hn : Cn (cC ce) R) (hI : IvR ce (C2 ce) (C4 ce) (C5 ce) R) (hW : W00 W) :
    SmH S M s T A (cC ce) R (sBeg R W) (fun k q => M (A 6 k) q) cl ∧ OrV ce (fun k q => M (A 6 k) q) := by
  obtain ⟨hla, ⟨a1, a2, a3⟩, ⟨v0, v1, v7⟩, a5, a6, a7, a8, a9, a10⟩ := h
  have hmj : ∀ j, 2 ≤ j → j ≤ 6 → m j = cC ce j := fun j j1 j2 => by
    by_cases e : j = 6
    · subst e; exact hm
    · exact a9.2 j j1 (by omega)
  have hT : ∀ j, 2 ≤ j → j ≤ 6 → aP S1 s j = some (T j) ∧ aK S1 (T j) = 102 ∧ aN S1 (T j) = cC ce j ∧ T j < aX S1 := fun j j1 j2 => by
    obtain ⟨b1, b2, b3, b4, b5⟩ := a5 j j1 j2
    exact ⟨b1, b2, b3, b5⟩
  have hA : ∀ j k, 2 ≤ j → j ≤ 6 → k < cC ce j → aP S1 (T j) k = some (A j k) ∧ aK S1 (A j k) = 100 ∧ aN S1 (A j k) = wd j ∧ (∀ q, q < wd j → M1 (A j k) q = vV ce j k q) ∧ A j k < aX S1 := fun j k j1 j2 hk => by
    obtain ⟨b1, b2, b3, b4, b5, b6⟩ := a6 j k j1 j2 (by rw [hmj j j1 j2]; exact hk)
    exact ⟨b1, b2, b3, b4, b6⟩
  have hv : ∀ j k q, 2 ≤ j → j ≤ 6 → k < cC ce j → q < wd j → M (A j k) q = vV ce j k q := fun j k q j1 j2 hk hq => by
    obtain ⟨_, _, _, b4, b5⟩ := hA j k j1 j2 hk
    rw [f _ b5]
    exact b4 q hq
  have kS : aK S s = 10 := (g s a3).1.trans a1
  have hO : OrV ce (fun k q => M (A 6 k) q) := fun i hi q hq => hv 6 i q (by decide) (by decide) hi hq
  refine ⟨⟨⟨kS, by unfold aKd; rw [kS], fun j j1 j2 => ?_, fun j j1 j2 => ?_, fun j j1 j2 => ?_, fun j k j1 j2 hk => ?_, fun j k j1 j2 hk => ?_, fun j k j1 j2 hk => ?_, fun j k j1 j2 hk => ?_, fun j k j1 j2 hk e => ?_, fun j k j' k' j1 j2 hk j3 j4 hk' e => ?_, hn.2⟩, ⟨by omega, fun j j1 j2 => by have := (hT j j1 j2).2.2.2; omega, fun j k j1 j2 hk => by have := (hA j k j1 j2 hk).2.2.2.2; omega⟩, ⟨?_, ?_, ?_, fun j k q hk hq => ?_, fun j k q hk hq => ?_, fun k q hk => rfl, hn.1⟩⟩, hO⟩
  · exact (congrFun (g s a3).2.2 j).trans (hT j j1 j2).1
  · obtain ⟨b1, b2, b3, b4⟩ := hT j j1 j2
    have := (g _ b4).1.trans b2
    unfold aKd
    rw [this]
  · obtain ⟨b1, b2, b3, b4⟩ := hT j j1 j2
    exact (g _ b4).2.1.trans b3
  · exact (congrFun (g _ (hT j j1 j2).2.2.2).2.2 k).trans (hA j k j1 j2 hk).1
  · obtain ⟨b1, b2, b3, b4, b5⟩ := hA j k j1 j2 hk
    exact (g _ b5).1.trans b2
  · obtain ⟨b1, b2, b3, b4, b5⟩ := hA j k j1 j2 hk
    have := (g _ b5).1.trans b2
    unfold aKd
    rw [this]
  · obtain ⟨b1, b2, b3, b4, b5⟩ := hA j k j1 j2 hk
    exact (g _ b5).2.1.trans b3
  · obtain ⟨b1, b2, b3, b4, b5⟩ := hA j k j1 j2 hk
    rw [e] at b2
    omega
  · exact a7 j k j' k' j1 j2 (by rw [hmj j j1 j2]; exact hk) j3 j4 (by rw [hmj j' j3 j4]; exact hk') e
  · rw [f s a3, v0, bz0 hW, if_neg (by decide), if_neg (by decide)]
  · rw [f s a3, v1, bz0 hW, if_pos rfl]
  · rw [f s a3, v7]
  · have d2 : cC ce 2 = C2 ce := rfl
    have d3 : cC ce 3 = mny ce := rfl
    have d4 : cC ce 4 = C4 ce := rfl
    have d5 : cC ce 5 = C5 ce := rfl
    have h2 := C2_b (ce := ce)
    have h4 := C4_b (ce := ce)
    have h5 := C5_b (ce := ce)
    have hmn := mny_b (ce := ce)
    have hl := lk_lr hq
    have hqw : q < wd j := by
      unfold lk at hq
      unfold wd
      (repeat' split at hq) <;> ((repeat' split) <;> omega)
    rw [hv j k q hl.2.1 (by omega) hk hqw]
    unfold lk at hq ⊢
    rcases (by omega : j = 2 ∨ j = 3 ∨ j = 4 ∨ j = 5) with rfl | rfl | rfl | rfl
    · have eq : q = 2 := by (repeat' split at hq) <;> omega
      subst eq
      show (0 : Int) = sBeg R W 3 k
      exact (bz hW (by decide)).symm
    · have eq : q = 1 ∨ q = 2 := by (repeat' split at hq) <;> omega
      rcases eq with rfl | rfl
      · show (100 : Int) = sBeg R W 1 k
        rw [bz1 hW, if_pos (by omega)]
      · show (0 : Int) = sBeg R W 2 k
        exact (bz hW (by decide)).symm
    · have eq : q = 1 ∨ q = 2 ∨ q = 3 ∨ q = 4 ∨ q = 5 := by (repeat' split at hq) <;> omega
      rcases eq with rfl | rfl | rfl | rfl | rfl
      · show (gt ce k : Int) = sBeg R W 4 k
        rw [bz4 hW, if_pos (by omega)]
        exact (hI.2.2.2.1 k hk).2.symm
      · show (0 : Int) = sBeg R W 5 k
        exact (bz hW (by decide)).symm
      · show (0 : Int) = sBeg R W 6 k
        exact (bz hW (by decide)).symm
      · show (-1 : Int) = sBeg R W 7 k
        rw [bz7 hW, if_pos (by omega)]
      · show (0 : Int) = sBeg R W 8 k
        exact (bz hW (by decide)).symm
    · have eq : q = 1 ∨ q = 5 ∨ q = 6 ∨ q = 7 := by (repeat' split at hq) <;> omega
      rcases eq with rfl | rfl | rfl | rfl
      · show (twl ce k : Int) = sBeg R W 9 k
        rw [bz9 hW, if_pos (by omega)]
        exact (hI.2.2.2.2 k hk).2.1.symm
      · show (0 : Int) = sBeg R W 10 k
        exact (bz hW (by decide)).symm
      · show (0 : Int) = sBeg R W 11 k
        exact (bz hW (by decide)).symm
      · show (0 : Int) = sBeg R W 12 k
        exact (bz hW (by decide)).symm
  · have hqw : 2 ≤ j ∧ j ≤ 5 ∧ q < wd j := by
      unfold lr at hq
      unfold wd
      (repeat' split at hq) <;> ((repeat' split) <;> omega)
    rw [hv j k q hqw.1 (by omega) hk hqw.2.2]
    unfold lr at hq ⊢
    rcases (by omega : j = 2 ∨ j = 3 ∨ j = 4 ∨ j = 5) with rfl | rfl | rfl | rfl
    · have eq : q = 0 ∨ q = 1 := by (repeat' split at hq) <;> omega
      rcases eq with rfl | rfl
      · exact (hI.2.1 k hk).1.symm
      · exact (hI.2.1 k hk).2.2.symm
    · have eq : q = 0 := by (repeat' split at hq) <;> omega
      subst eq
      have hk' : k < psm (ml ce) (C2 ce) := hk
      obtain ⟨j1, c1, c2, c3⟩ := ex_st (f := ml ce) _ _ hk'
      show (sOf (ml ce) (C2 ce) k : Int) = R 4 k
      rw [sOf_e c1 c2 c3]
      exact (hI.2.2.1 j1 c1 k c2 c3).symm
    · have eq : q = 0 := by (repeat' split at hq) <;> omega
      subst eq
      exact (hI.2.2.2.1 k hk).1.symm
    · have eq : q = 0 ∨ q = 2 ∨ q = 3 ∨ q = 4 := by (repeat' split at hq) <;> omega
      obtain ⟨c7, c8, c9, c10, c11⟩ := hI.2.2.2.2 k hk
      rcases eq with rfl | rfl | rfl | rfl
      · exact c7.symm
      · exact c9.symm
      · exact c10.symm
      · exact c11.symm
end ZL
