/-! what sums and tests are worth (wip/p26/gen99zg.py) -/
section ZG
variable {R W : Nat → Nat → Int} {r : Nat → Nat} {k a : Nat} {z : Int} {w : Nat → Int}
def vS (r : Nat → Nat) (z : Int) (k : Nat) : List (Int × Int) := if k = 0 then [(48, ((r 3 : Nat) : Int))] else if k = 1 then [(19, ((0 : Nat) : Int)), (48, ((9 : Nat) : Int)), (41, z)] else if k = 2 then [(48, ((100 : Nat) : Int)), (20, ((r 7 : Nat) : Int)), (39, z)] else if k = 3 then [(48, ((r 6 : Nat) : Int)), (21, z), (48, ((r 3 : Nat) : Int)), (30, z), (48, ((3 : Nat) : Int)), (41, z)] else if k = 4 then [(23, ((r 8 : Nat) : Int)), (48, ((0 : Nat) : Int)), (31, z), (48, ((r 3 : Nat) : Int)), (48, ((9 : Nat) : Int)), (41, z), (38, z)] else [(18, ((0 : Nat) : Int)), (48, ((r 3 : Nat) : Int)), (39, z)]
def vT (r : Nat → Nat) (z : Int) (k : Nat) : List (Int × Int) := if k = 0 then [(18, ((0 : Nat) : Int)), (48, ((r 5 : Nat) : Int)), (48, ((4 : Nat) : Int)), (41, z), (43, z)] else if k = 1 then [(25, ((r 8 : Nat) : Int))] else if k = 2 then [(26, ((r 7 : Nat) : Int)), (27, z), (19, ((0 : Nat) : Int)), (48, ((r 5 : Nat) : Int)), (43, z), (29, z)] else if k = 3 then [(20, ((r 7 : Nat) : Int)), (48, ((r 5 : Nat) : Int)), (42, z)] else if k = 4 then [(22, ((r 8 : Nat) : Int)), (48, ((r 5 : Nat) : Int)), (48, ((2 : Nat) : Int)), (40, z), (46, z), (25, ((r 8 : Nat) : Int)), (27, z), (28, z)] else if k = 5 then [(48, ((r 6 : Nat) : Int)), (21, z), (48, ((r 5 : Nat) : Int)), (42, z), (18, ((0 : Nat) : Int)), (48, ((2 : Nat) : Int)), (41, z), (48, ((2 : Nat) : Int)), (40, z), (18, ((0 : Nat) : Int)), (44, z), (29, z), (24, ((r 9 : Nat) : Int)), (48, ((r 5 : Nat) : Int)), (42, z), (28, z)] else if k = 6 then [(23, ((r 8 : Nat) : Int)), (48, ((0 : Nat) : Int)), (42, z)] else [(48, ((r 5 : Nat) : Int)), (48, ((2 : Nat) : Int)), (41, z), (48, ((2 : Nat) : Int)), (40, z), (48, ((r 5 : Nat) : Int)), (44, z)]
abbrev cst (w : Nat → Int) (x : Nat × Nat) : Int × Int := ((x.1 : Int), w x.2)
theorem mdN {c k : Nat} (hk : k < 10) : (c * 256 + 48 + k) % 256 - 48 = k := by omega
theorem wS_e (h7 : r 7 < 10) (h8 : r 8 < 10) (h9 : r 9 < 10) (hz : w 0 = z) (hw : ∀ j, j < (sI r k).length → w (a + j) = (wV 16 (sI r k) j : Int)) : (oS k a).map (cst w) = vS r z k := by
  unfold oS vS
  unfold sI at hw
  by_cases h0_ : k = 0
  · simp only [if_pos h0_] at hw ⊢
    have f0 : w (a + 0) = ((r 3 : Nat) : Int) := hw 0 (Nat.le_of_ble_eq_true rfl)
    show [(((48 : Nat) : Int), w (a + 0))] = _
    rw [f0]
    rfl
  by_cases h1_ : k = 1
  · simp only [if_neg h0_, if_pos h1_] at hw ⊢
    have f0 : w (a + 0) = ((0 : Nat) : Int) := hw 0 (Nat.le_of_ble_eq_true rfl)
    have f2 : w (a + 2) = ((9 : Nat) : Int) := hw 2 (Nat.le_of_ble_eq_true rfl)
    show [(((19 : Nat) : Int), w (a + 0)), (((48 : Nat) : Int), w (a + 2)), (((41 : Nat) : Int), w 0)] = _
    rw [f0, f2, hz]
    rfl
  by_cases h2_ : k = 2
  · simp only [if_neg h0_, if_neg h1_, if_pos h2_] at hw ⊢
    have f0 : w (a + 0) = ((100 : Nat) : Int) := hw 0 (Nat.le_of_ble_eq_true rfl)
    have f3 : w (a + 3) = ((r 7 : Nat) : Int) := by rw [hw 3 (Nat.le_of_ble_eq_true rfl)]; exact congrArg Nat.cast (mdN (by omega))
    show [(((48 : Nat) : Int), w (a + 0)), (((20 : Nat) : Int), w (a + 3)), (((39 : Nat) : Int), w 0)] = _
    rw [f0, f3, hz]
    rfl
  by_cases h3_ : k = 3
  · simp only [if_neg h0_, if_neg h1_, if_neg h2_, if_pos h3_] at hw ⊢
    have f4 : w (a + 4) = ((r 6 : Nat) : Int) := hw 4 (Nat.le_of_ble_eq_true rfl)
    have f7 : w (a + 7) = ((r 3 : Nat) : Int) := hw 7 (Nat.le_of_ble_eq_true rfl)
    have f10 : w (a + 10) = ((3 : Nat) : Int) := hw 10 (Nat.le_of_ble_eq_true rfl)
    show [(((48 : Nat) : Int), w (a + 4)), (((21 : Nat) : Int), w 0), (((48 : Nat) : Int), w (a + 7)), (((30 : Nat) : Int), w 0), (((48 : Nat) : Int), w (a + 10)), (((41 : Nat) : Int), w 0)] = _
    rw [f4, f7, f10, hz]
    rfl
  by_cases h4_ : k = 4
  · simp only [if_neg h0_, if_neg h1_, if_neg h2_, if_neg h3_, if_pos h4_] at hw ⊢
    have f3 : w (a + 3) = ((r 8 : Nat) : Int) := by rw [hw 3 (Nat.le_of_ble_eq_true rfl)]; exact congrArg Nat.cast (mdN (by omega))
    have f5 : w (a + 5) = ((0 : Nat) : Int) := hw 5 (Nat.le_of_ble_eq_true rfl)
    have f8 : w (a + 8) = ((r 3 : Nat) : Int) := hw 8 (Nat.le_of_ble_eq_true rfl)
    have f10 : w (a + 10) = ((9 : Nat) : Int) := hw 10 (Nat.le_of_ble_eq_true rfl)
    show [(((23 : Nat) : Int), w (a + 3)), (((48 : Nat) : Int), w (a + 5)), (((31 : Nat) : Int), w 0), (((48 : Nat) : Int), w (a + 8)), (((48 : Nat) : Int), w (a + 10)), (((41 : Nat) : Int), w 0), (((38 : Nat) : Int), w 0)] = _
    rw [f3, f5, f8, f10, hz]
    rfl
  simp only [if_neg h0_, if_neg h1_, if_neg h2_, if_neg h3_, if_neg h4_] at hw ⊢
  have f0 : w (a + 0) = ((0 : Nat) : Int) := hw 0 (Nat.le_of_ble_eq_true rfl)
  have f2 : w (a + 2) = ((r 3 : Nat) : Int) := hw 2 (Nat.le_of_ble_eq_true rfl)
  show [(((18 : Nat) : Int), w (a + 0)), (((48 : Nat) : Int), w (a + 2)), (((39 : Nat) : Int), w 0)] = _
  rw [f0, f2, hz]
  rfl
theorem wT_e (h7 : r 7 < 10) (h8 : r 8 < 10) (h9 : r 9 < 10) (hz : w 0 = z) (hw : ∀ j, j < (tI r k).length → w (a + j) = (wV 17 (tI r k) j : Int)) : (oT k a).map (cst w) = vT r z k := by
  unfold oT vT
  unfold tI at hw
  by_cases h0_ : k = 0
  · simp only [if_pos h0_] at hw ⊢
    have f0 : w (a + 0) = ((0 : Nat) : Int) := hw 0 (Nat.le_of_ble_eq_true rfl)
    have f2 : w (a + 2) = ((r 5 : Nat) : Int) := hw 2 (Nat.le_of_ble_eq_true rfl)
    have f4 : w (a + 4) = ((4 : Nat) : Int) := hw 4 (Nat.le_of_ble_eq_true rfl)
    show [(((18 : Nat) : Int), w (a + 0)), (((48 : Nat) : Int), w (a + 2)), (((48 : Nat) : Int), w (a + 4)), (((41 : Nat) : Int), w 0), (((43 : Nat) : Int), w 0)] = _
    rw [f0, f2, f4, hz]
    rfl
  by_cases h1_ : k = 1
  · simp only [if_neg h0_, if_pos h1_] at hw ⊢
    have f1 : w (a + 1) = ((r 8 : Nat) : Int) := by rw [hw 1 (Nat.le_of_ble_eq_true rfl)]; exact congrArg Nat.cast (mdN (by omega))
    show [(((25 : Nat) : Int), w (a + 1))] = _
    rw [f1]
    rfl
  by_cases h2_ : k = 2
  · simp only [if_neg h0_, if_neg h1_, if_pos h2_] at hw ⊢
    have f2 : w (a + 2) = ((r 7 : Nat) : Int) := by rw [hw 2 (Nat.le_of_ble_eq_true rfl)]; exact congrArg Nat.cast (mdN (by omega))
    have f4 : w (a + 4) = ((0 : Nat) : Int) := hw 4 (Nat.le_of_ble_eq_true rfl)
    have f6 : w (a + 6) = ((r 5 : Nat) : Int) := hw 6 (Nat.le_of_ble_eq_true rfl)
    show [(((26 : Nat) : Int), w (a + 2)), (((27 : Nat) : Int), w 0), (((19 : Nat) : Int), w (a + 4)), (((48 : Nat) : Int), w (a + 6)), (((43 : Nat) : Int), w 0), (((29 : Nat) : Int), w 0)] = _
    rw [f2, f4, f6, hz]
    rfl
  by_cases h3_ : k = 3
  · simp only [if_neg h0_, if_neg h1_, if_neg h2_, if_pos h3_] at hw ⊢
    have f1 : w (a + 1) = ((r 7 : Nat) : Int) := by rw [hw 1 (Nat.le_of_ble_eq_true rfl)]; exact congrArg Nat.cast (mdN (by omega))
    have f3 : w (a + 3) = ((r 5 : Nat) : Int) := hw 3 (Nat.le_of_ble_eq_true rfl)
    show [(((20 : Nat) : Int), w (a + 1)), (((48 : Nat) : Int), w (a + 3)), (((42 : Nat) : Int), w 0)] = _
    rw [f1, f3, hz]
    rfl
  by_cases h4_ : k = 4
  · simp only [if_neg h0_, if_neg h1_, if_neg h2_, if_neg h3_, if_pos h4_] at hw ⊢
    have f1 : w (a + 1) = ((r 8 : Nat) : Int) := by rw [hw 1 (Nat.le_of_ble_eq_true rfl)]; exact congrArg Nat.cast (mdN (by omega))
    have f3 : w (a + 3) = ((r 5 : Nat) : Int) := hw 3 (Nat.le_of_ble_eq_true rfl)
    have f5 : w (a + 5) = ((2 : Nat) : Int) := hw 5 (Nat.le_of_ble_eq_true rfl)
    have f9 : w (a + 9) = ((r 8 : Nat) : Int) := by rw [hw 9 (Nat.le_of_ble_eq_true rfl)]; exact congrArg Nat.cast (mdN (by omega))
    show [(((22 : Nat) : Int), w (a + 1)), (((48 : Nat) : Int), w (a + 3)), (((48 : Nat) : Int), w (a + 5)), (((40 : Nat) : Int), w 0), (((46 : Nat) : Int), w 0), (((25 : Nat) : Int), w (a + 9)), (((27 : Nat) : Int), w 0), (((28 : Nat) : Int), w 0)] = _
    rw [f1, f3, f5, f9, hz]
    rfl
  by_cases h5_ : k = 5
  · simp only [if_neg h0_, if_neg h1_, if_neg h2_, if_neg h3_, if_neg h4_, if_pos h5_] at hw ⊢
    have f3 : w (a + 3) = ((r 6 : Nat) : Int) := hw 3 (Nat.le_of_ble_eq_true rfl)
    have f6 : w (a + 6) = ((r 5 : Nat) : Int) := hw 6 (Nat.le_of_ble_eq_true rfl)
    have f8 : w (a + 8) = ((0 : Nat) : Int) := hw 8 (Nat.le_of_ble_eq_true rfl)
    have f10 : w (a + 10) = ((2 : Nat) : Int) := hw 10 (Nat.le_of_ble_eq_true rfl)
    have f12 : w (a + 12) = ((2 : Nat) : Int) := hw 12 (Nat.le_of_ble_eq_true rfl)
    have f14 : w (a + 14) = ((0 : Nat) : Int) := hw 14 (Nat.le_of_ble_eq_true rfl)
    have f18 : w (a + 18) = ((r 9 : Nat) : Int) := by rw [hw 18 (Nat.le_of_ble_eq_true rfl)]; exact congrArg Nat.cast (mdN (by omega))
    have f20 : w (a + 20) = ((r 5 : Nat) : Int) := hw 20 (Nat.le_of_ble_eq_true rfl)
    show [(((48 : Nat) : Int), w (a + 3)), (((21 : Nat) : Int), w 0), (((48 : Nat) : Int), w (a + 6)), (((42 : Nat) : Int), w 0), (((18 : Nat) : Int), w (a + 8)), (((48 : Nat) : Int), w (a + 10)), (((41 : Nat) : Int), w 0), (((48 : Nat) : Int), w (a + 12)), (((40 : Nat) : Int), w 0), (((18 : Nat) : Int), w (a + 14)), (((44 : Nat) : Int), w 0), (((29 : Nat) : Int), w 0), (((24 : Nat) : Int), w (a + 18)), (((48 : Nat) : Int), w (a + 20)), (((42 : Nat) : Int), w 0), (((28 : Nat) : Int), w 0)] = _
    rw [f3, f6, f8, f10, f12, f14, f18, f20, hz]
    rfl
  by_cases h6_ : k = 6
  · simp only [if_neg h0_, if_neg h1_, if_neg h2_, if_neg h3_, if_neg h4_, if_neg h5_, if_pos h6_] at hw ⊢
    have f1 : w (a + 1) = ((r 8 : Nat) : Int) := by rw [hw 1 (Nat.le_of_ble_eq_true rfl)]; exact congrArg Nat.cast (mdN (by omega))
    have f3 : w (a + 3) = ((0 : Nat) : Int) := hw 3 (Nat.le_of_ble_eq_true rfl)
    show [(((23 : Nat) : Int), w (a + 1)), (((48 : Nat) : Int), w (a + 3)), (((42 : Nat) : Int), w 0)] = _
    rw [f1, f3, hz]
    rfl
  simp only [if_neg h0_, if_neg h1_, if_neg h2_, if_neg h3_, if_neg h4_, if_neg h5_, if_neg h6_] at hw ⊢
  have f0 : w (a + 0) = ((r 5 : Nat) : Int) := hw 0 (Nat.le_of_ble_eq_true rfl)
  have f2 : w (a + 2) = ((2 : Nat) : Int) := hw 2 (Nat.le_of_ble_eq_true rfl)
  have f4 : w (a + 4) = ((2 : Nat) : Int) := hw 4 (Nat.le_of_ble_eq_true rfl)
  have f6 : w (a + 6) = ((r 5 : Nat) : Int) := hw 6 (Nat.le_of_ble_eq_true rfl)
  show [(((48 : Nat) : Int), w (a + 0)), (((48 : Nat) : Int), w (a + 2)), (((41 : Nat) : Int), w 0), (((48 : Nat) : Int), w (a + 4)), (((40 : Nat) : Int), w 0), (((48 : Nat) : Int), w (a + 6)), (((44 : Nat) : Int), w 0)] = _
  rw [f0, f2, f4, f6, hz]
  rfl
/-- one operation -/
def stp (R W : Nat → Nat → Int) (st : List Int) (x : Int × Int) : List Int :=
  if x.1 = 51 ∨ x.1 = 27 ∨ x.1 = 21 then (match st with
    | v :: r => nz (sOne R W x.1 v) :: r
    | [] => [])
  else if sIs2 x.1 = true then (match st with
    | y :: x' :: r => nz (sTwo x.1 x' y) :: r
    | s => s)
  else nz (sNone R W x.1 x.2) :: st
/-- the stack after a list of them, the last in front -/
def evR (R W : Nat → Nat → Int) : List (Int × Int) → List Int
  | [] => []
  | x :: l => stp R W (evR R W l) x
def EvR (R : Nat → Nat → Int) (o : Nat) : List (Int × Int) → Prop
  | [] => True
  | x :: l => (R 20 (o + l.length) = x.1 ∧ R 21 (o + l.length) = x.2) ∧ EvR R o l
theorem sRun_e {o : Nat} : ∀ l, EvR R o l → sRun R W o l.length = evR R W l
  | [], _ => rfl
  | x :: l, h => by
    show sStep R W (sRun R W o l.length) (o + l.length) = stp R W (evR R W l) x
    rw [sRun_e l h.2]
    unfold sStep stp
    rw [h.1.1, h.1.2]
    rcases evR R W l with _ | ⟨y, _ | ⟨x', r⟩⟩ <;> rfl
theorem EvR_r {o : Nat} : ∀ l : List (Int × Int), (∀ j x, l.reverse[j]? = some x → R 20 (o + j) = x.1 ∧ R 21 (o + j) = x.2) → EvR R o l
  | [], _ => trivial
  | x :: l, h => by
    rw [List.reverse_cons] at h
    refine ⟨h l.length x ?_, EvR_r l (fun j y hj => h j y ?_)⟩
    · rw [List.getElem?_append_right (by rw [List.length_reverse]; exact Nat.le_refl _), List.length_reverse, Nat.sub_self]
      rfl
    · rw [List.getElem?_append_left (List.getElem?_eq_some_iff.mp hj).1]
      exact hj
theorem sEv_e {o : Nat} {l : List (Int × Int)} (h : ∀ j x, l[j]? = some x → R 20 (o + j) = x.1 ∧ R 21 (o + j) = x.2) : sEv R W (o : Int) ((o + l.length : Nat) : Int) = (evR R W l.reverse).headD 0 := by
  unfold sEv
  rw [Int.toNat_natCast, show (((o + l.length : Nat) : Int) - (o : Int)).toNat = l.reverse.length by rw [List.length_reverse]; omega, sRun_e l.reverse (EvR_r l.reverse (fun j x hx => h j x (by rw [List.reverse_reverse] at hx; exact hx)))]
theorem sp1 {st : List Int} {k v x : Int} (h : k = 51 ∨ k = 27 ∨ k = 21) : stp R W (v :: st) (k, x) = nz (sOne R W k v) :: st := by
  unfold stp
  rw [if_pos h]
theorem sp2 {st : List Int} {k y x u : Int} (h : ¬ (k = 51 ∨ k = 27 ∨ k = 21)) (h2 : sIs2 k = true) : stp R W (y :: x :: st) (k, u) = nz (sTwo k x y) :: st := by
  unfold stp
  rw [if_neg h, if_pos h2]
theorem sp0 {st : List Int} {k u : Int} (h : ¬ (k = 51 ∨ k = 27 ∨ k = 21)) (h2 : ¬ sIs2 k = true) : stp R W st (k, u) = nz (sNone R W k u) :: st := by
  unfold stp
  rw [if_neg h, if_neg h2]
theorem eS_0 : (evR R W ([(48, ((r 3 : Nat) : Int))] : List (Int × Int)).reverse).headD 0 = nz (sNone R W 48 ((r 3 : Nat) : Int)) := by
  show (evR R W [(48, ((r 3 : Nat) : Int))]).headD 0 = _
  have h0 : evR R W [] = [] := rfl
  have h1 : evR R W [(48, ((r 3 : Nat) : Int))] = [nz (sNone R W 48 ((r 3 : Nat) : Int))] := (congrArg (fun s => stp R W s (48, ((r 3 : Nat) : Int))) h0).trans (sp0 (by decide) (by decide))
  rw [h1]
  rfl
theorem eS_1 : (evR R W ([(19, ((0 : Nat) : Int)), (48, ((9 : Nat) : Int)), (41, z)] : List (Int × Int)).reverse).headD 0 = nz (sTwo 41 (nz (sNone R W 19 ((0 : Nat) : Int))) (nz (sNone R W 48 ((9 : Nat) : Int)))) := by
  show (evR R W [(41, z), (48, ((9 : Nat) : Int)), (19, ((0 : Nat) : Int))]).headD 0 = _
  have h0 : evR R W [] = [] := rfl
  have h1 : evR R W [(19, ((0 : Nat) : Int))] = [nz (sNone R W 19 ((0 : Nat) : Int))] := (congrArg (fun s => stp R W s (19, ((0 : Nat) : Int))) h0).trans (sp0 (by decide) (by decide))
  have h2 : evR R W [(48, ((9 : Nat) : Int)), (19, ((0 : Nat) : Int))] = [nz (sNone R W 48 ((9 : Nat) : Int)), nz (sNone R W 19 ((0 : Nat) : Int))] := (congrArg (fun s => stp R W s (48, ((9 : Nat) : Int))) h1).trans (sp0 (by decide) (by decide))
  have h3 : evR R W [(41, z), (48, ((9 : Nat) : Int)), (19, ((0 : Nat) : Int))] = [nz (sTwo 41 (nz (sNone R W 19 ((0 : Nat) : Int))) (nz (sNone R W 48 ((9 : Nat) : Int))))] := (congrArg (fun s => stp R W s (41, z)) h2).trans (sp2 (by decide) (by decide))
  rw [h3]
  rfl
theorem eS_2 : (evR R W ([(48, ((100 : Nat) : Int)), (20, ((r 7 : Nat) : Int)), (39, z)] : List (Int × Int)).reverse).headD 0 = nz (sTwo 39 (nz (sNone R W 48 ((100 : Nat) : Int))) (nz (sNone R W 20 ((r 7 : Nat) : Int)))) := by
  show (evR R W [(39, z), (20, ((r 7 : Nat) : Int)), (48, ((100 : Nat) : Int))]).headD 0 = _
  have h0 : evR R W [] = [] := rfl
  have h1 : evR R W [(48, ((100 : Nat) : Int))] = [nz (sNone R W 48 ((100 : Nat) : Int))] := (congrArg (fun s => stp R W s (48, ((100 : Nat) : Int))) h0).trans (sp0 (by decide) (by decide))
  have h2 : evR R W [(20, ((r 7 : Nat) : Int)), (48, ((100 : Nat) : Int))] = [nz (sNone R W 20 ((r 7 : Nat) : Int)), nz (sNone R W 48 ((100 : Nat) : Int))] := (congrArg (fun s => stp R W s (20, ((r 7 : Nat) : Int))) h1).trans (sp0 (by decide) (by decide))
  have h3 : evR R W [(39, z), (20, ((r 7 : Nat) : Int)), (48, ((100 : Nat) : Int))] = [nz (sTwo 39 (nz (sNone R W 48 ((100 : Nat) : Int))) (nz (sNone R W 20 ((r 7 : Nat) : Int))))] := (congrArg (fun s => stp R W s (39, z)) h2).trans (sp2 (by decide) (by decide))
  rw [h3]
  rfl
theorem eS_3 : (evR R W ([(48, ((r 6 : Nat) : Int)), (21, z), (48, ((r 3 : Nat) : Int)), (30, z), (48, ((3 : Nat) : Int)), (41, z)] : List (Int × Int)).reverse).headD 0 = nz (sTwo 41 (nz (sTwo 30 (nz (sOne R W 21 (nz (sNone R W 48 ((r 6 : Nat) : Int))))) (nz (sNone R W 48 ((r 3 : Nat) : Int))))) (nz (sNone R W 48 ((3 : Nat) : Int)))) := by
  show (evR R W [(41, z), (48, ((3 : Nat) : Int)), (30, z), (48, ((r 3 : Nat) : Int)), (21, z), (48, ((r 6 : Nat) : Int))]).headD 0 = _
  have h0 : evR R W [] = [] := rfl
  have h1 : evR R W [(48, ((r 6 : Nat) : Int))] = [nz (sNone R W 48 ((r 6 : Nat) : Int))] := (congrArg (fun s => stp R W s (48, ((r 6 : Nat) : Int))) h0).trans (sp0 (by decide) (by decide))
  have h2 : evR R W [(21, z), (48, ((r 6 : Nat) : Int))] = [nz (sOne R W 21 (nz (sNone R W 48 ((r 6 : Nat) : Int))))] := (congrArg (fun s => stp R W s (21, z)) h1).trans (sp1 (by decide))
  have h3 : evR R W [(48, ((r 3 : Nat) : Int)), (21, z), (48, ((r 6 : Nat) : Int))] = [nz (sNone R W 48 ((r 3 : Nat) : Int)), nz (sOne R W 21 (nz (sNone R W 48 ((r 6 : Nat) : Int))))] := (congrArg (fun s => stp R W s (48, ((r 3 : Nat) : Int))) h2).trans (sp0 (by decide) (by decide))
  have h4 : evR R W [(30, z), (48, ((r 3 : Nat) : Int)), (21, z), (48, ((r 6 : Nat) : Int))] = [nz (sTwo 30 (nz (sOne R W 21 (nz (sNone R W 48 ((r 6 : Nat) : Int))))) (nz (sNone R W 48 ((r 3 : Nat) : Int))))] := (congrArg (fun s => stp R W s (30, z)) h3).trans (sp2 (by decide) (by decide))
  have h5 : evR R W [(48, ((3 : Nat) : Int)), (30, z), (48, ((r 3 : Nat) : Int)), (21, z), (48, ((r 6 : Nat) : Int))] = [nz (sNone R W 48 ((3 : Nat) : Int)), nz (sTwo 30 (nz (sOne R W 21 (nz (sNone R W 48 ((r 6 : Nat) : Int))))) (nz (sNone R W 48 ((r 3 : Nat) : Int))))] := (congrArg (fun s => stp R W s (48, ((3 : Nat) : Int))) h4).trans (sp0 (by decide) (by decide))
  have h6 : evR R W [(41, z), (48, ((3 : Nat) : Int)), (30, z), (48, ((r 3 : Nat) : Int)), (21, z), (48, ((r 6 : Nat) : Int))] = [nz (sTwo 41 (nz (sTwo 30 (nz (sOne R W 21 (nz (sNone R W 48 ((r 6 : Nat) : Int))))) (nz (sNone R W 48 ((r 3 : Nat) : Int))))) (nz (sNone R W 48 ((3 : Nat) : Int))))] := (congrArg (fun s => stp R W s (41, z)) h5).trans (sp2 (by decide) (by decide))
  rw [h6]
  rfl
theorem eS_4 : (evR R W ([(23, ((r 8 : Nat) : Int)), (48, ((0 : Nat) : Int)), (31, z), (48, ((r 3 : Nat) : Int)), (48, ((9 : Nat) : Int)), (41, z), (38, z)] : List (Int × Int)).reverse).headD 0 = nz (sTwo 38 (nz (sTwo 31 (nz (sNone R W 23 ((r 8 : Nat) : Int))) (nz (sNone R W 48 ((0 : Nat) : Int))))) (nz (sTwo 41 (nz (sNone R W 48 ((r 3 : Nat) : Int))) (nz (sNone R W 48 ((9 : Nat) : Int)))))) := by
  show (evR R W [(38, z), (41, z), (48, ((9 : Nat) : Int)), (48, ((r 3 : Nat) : Int)), (31, z), (48, ((0 : Nat) : Int)), (23, ((r 8 : Nat) : Int))]).headD 0 = _
  have h0 : evR R W [] = [] := rfl
  have h1 : evR R W [(23, ((r 8 : Nat) : Int))] = [nz (sNone R W 23 ((r 8 : Nat) : Int))] := (congrArg (fun s => stp R W s (23, ((r 8 : Nat) : Int))) h0).trans (sp0 (by decide) (by decide))
  have h2 : evR R W [(48, ((0 : Nat) : Int)), (23, ((r 8 : Nat) : Int))] = [nz (sNone R W 48 ((0 : Nat) : Int)), nz (sNone R W 23 ((r 8 : Nat) : Int))] := (congrArg (fun s => stp R W s (48, ((0 : Nat) : Int))) h1).trans (sp0 (by decide) (by decide))
  have h3 : evR R W [(31, z), (48, ((0 : Nat) : Int)), (23, ((r 8 : Nat) : Int))] = [nz (sTwo 31 (nz (sNone R W 23 ((r 8 : Nat) : Int))) (nz (sNone R W 48 ((0 : Nat) : Int))))] := (congrArg (fun s => stp R W s (31, z)) h2).trans (sp2 (by decide) (by decide))
  have h4 : evR R W [(48, ((r 3 : Nat) : Int)), (31, z), (48, ((0 : Nat) : Int)), (23, ((r 8 : Nat) : Int))] = [nz (sNone R W 48 ((r 3 : Nat) : Int)), nz (sTwo 31 (nz (sNone R W 23 ((r 8 : Nat) : Int))) (nz (sNone R W 48 ((0 : Nat) : Int))))] := (congrArg (fun s => stp R W s (48, ((r 3 : Nat) : Int))) h3).trans (sp0 (by decide) (by decide))
  have h5 : evR R W [(48, ((9 : Nat) : Int)), (48, ((r 3 : Nat) : Int)), (31, z), (48, ((0 : Nat) : Int)), (23, ((r 8 : Nat) : Int))] = [nz (sNone R W 48 ((9 : Nat) : Int)), nz (sNone R W 48 ((r 3 : Nat) : Int)), nz (sTwo 31 (nz (sNone R W 23 ((r 8 : Nat) : Int))) (nz (sNone R W 48 ((0 : Nat) : Int))))] := (congrArg (fun s => stp R W s (48, ((9 : Nat) : Int))) h4).trans (sp0 (by decide) (by decide))
  have h6 : evR R W [(41, z), (48, ((9 : Nat) : Int)), (48, ((r 3 : Nat) : Int)), (31, z), (48, ((0 : Nat) : Int)), (23, ((r 8 : Nat) : Int))] = [nz (sTwo 41 (nz (sNone R W 48 ((r 3 : Nat) : Int))) (nz (sNone R W 48 ((9 : Nat) : Int)))), nz (sTwo 31 (nz (sNone R W 23 ((r 8 : Nat) : Int))) (nz (sNone R W 48 ((0 : Nat) : Int))))] := (congrArg (fun s => stp R W s (41, z)) h5).trans (sp2 (by decide) (by decide))
  have h7 : evR R W [(38, z), (41, z), (48, ((9 : Nat) : Int)), (48, ((r 3 : Nat) : Int)), (31, z), (48, ((0 : Nat) : Int)), (23, ((r 8 : Nat) : Int))] = [nz (sTwo 38 (nz (sTwo 31 (nz (sNone R W 23 ((r 8 : Nat) : Int))) (nz (sNone R W 48 ((0 : Nat) : Int))))) (nz (sTwo 41 (nz (sNone R W 48 ((r 3 : Nat) : Int))) (nz (sNone R W 48 ((9 : Nat) : Int))))))] := (congrArg (fun s => stp R W s (38, z)) h6).trans (sp2 (by decide) (by decide))
  rw [h7]
  rfl
theorem eS_5 : (evR R W ([(18, ((0 : Nat) : Int)), (48, ((r 3 : Nat) : Int)), (39, z)] : List (Int × Int)).reverse).headD 0 = nz (sTwo 39 (nz (sNone R W 18 ((0 : Nat) : Int))) (nz (sNone R W 48 ((r 3 : Nat) : Int)))) := by
  show (evR R W [(39, z), (48, ((r 3 : Nat) : Int)), (18, ((0 : Nat) : Int))]).headD 0 = _
  have h0 : evR R W [] = [] := rfl
  have h1 : evR R W [(18, ((0 : Nat) : Int))] = [nz (sNone R W 18 ((0 : Nat) : Int))] := (congrArg (fun s => stp R W s (18, ((0 : Nat) : Int))) h0).trans (sp0 (by decide) (by decide))
  have h2 : evR R W [(48, ((r 3 : Nat) : Int)), (18, ((0 : Nat) : Int))] = [nz (sNone R W 48 ((r 3 : Nat) : Int)), nz (sNone R W 18 ((0 : Nat) : Int))] := (congrArg (fun s => stp R W s (48, ((r 3 : Nat) : Int))) h1).trans (sp0 (by decide) (by decide))
  have h3 : evR R W [(39, z), (48, ((r 3 : Nat) : Int)), (18, ((0 : Nat) : Int))] = [nz (sTwo 39 (nz (sNone R W 18 ((0 : Nat) : Int))) (nz (sNone R W 48 ((r 3 : Nat) : Int))))] := (congrArg (fun s => stp R W s (39, z)) h2).trans (sp2 (by decide) (by decide))
  rw [h3]
  rfl
theorem eT_0 : (evR R W ([(18, ((0 : Nat) : Int)), (48, ((r 5 : Nat) : Int)), (48, ((4 : Nat) : Int)), (41, z), (43, z)] : List (Int × Int)).reverse).headD 0 = nz (sTwo 43 (nz (sNone R W 18 ((0 : Nat) : Int))) (nz (sTwo 41 (nz (sNone R W 48 ((r 5 : Nat) : Int))) (nz (sNone R W 48 ((4 : Nat) : Int)))))) := by
  show (evR R W [(43, z), (41, z), (48, ((4 : Nat) : Int)), (48, ((r 5 : Nat) : Int)), (18, ((0 : Nat) : Int))]).headD 0 = _
  have h0 : evR R W [] = [] := rfl
  have h1 : evR R W [(18, ((0 : Nat) : Int))] = [nz (sNone R W 18 ((0 : Nat) : Int))] := (congrArg (fun s => stp R W s (18, ((0 : Nat) : Int))) h0).trans (sp0 (by decide) (by decide))
  have h2 : evR R W [(48, ((r 5 : Nat) : Int)), (18, ((0 : Nat) : Int))] = [nz (sNone R W 48 ((r 5 : Nat) : Int)), nz (sNone R W 18 ((0 : Nat) : Int))] := (congrArg (fun s => stp R W s (48, ((r 5 : Nat) : Int))) h1).trans (sp0 (by decide) (by decide))
  have h3 : evR R W [(48, ((4 : Nat) : Int)), (48, ((r 5 : Nat) : Int)), (18, ((0 : Nat) : Int))] = [nz (sNone R W 48 ((4 : Nat) : Int)), nz (sNone R W 48 ((r 5 : Nat) : Int)), nz (sNone R W 18 ((0 : Nat) : Int))] := (congrArg (fun s => stp R W s (48, ((4 : Nat) : Int))) h2).trans (sp0 (by decide) (by decide))
  have h4 : evR R W [(41, z), (48, ((4 : Nat) : Int)), (48, ((r 5 : Nat) : Int)), (18, ((0 : Nat) : Int))] = [nz (sTwo 41 (nz (sNone R W 48 ((r 5 : Nat) : Int))) (nz (sNone R W 48 ((4 : Nat) : Int)))), nz (sNone R W 18 ((0 : Nat) : Int))] := (congrArg (fun s => stp R W s (41, z)) h3).trans (sp2 (by decide) (by decide))
  have h5 : evR R W [(43, z), (41, z), (48, ((4 : Nat) : Int)), (48, ((r 5 : Nat) : Int)), (18, ((0 : Nat) : Int))] = [nz (sTwo 43 (nz (sNone R W 18 ((0 : Nat) : Int))) (nz (sTwo 41 (nz (sNone R W 48 ((r 5 : Nat) : Int))) (nz (sNone R W 48 ((4 : Nat) : Int))))))] := (congrArg (fun s => stp R W s (43, z)) h4).trans (sp2 (by decide) (by decide))
  rw [h5]
  rfl
theorem eT_1 : (evR R W ([(25, ((r 8 : Nat) : Int))] : List (Int × Int)).reverse).headD 0 = nz (sNone R W 25 ((r 8 : Nat) : Int)) := by
  show (evR R W [(25, ((r 8 : Nat) : Int))]).headD 0 = _
  have h0 : evR R W [] = [] := rfl
  have h1 : evR R W [(25, ((r 8 : Nat) : Int))] = [nz (sNone R W 25 ((r 8 : Nat) : Int))] := (congrArg (fun s => stp R W s (25, ((r 8 : Nat) : Int))) h0).trans (sp0 (by decide) (by decide))
  rw [h1]
  rfl
theorem eT_2 : (evR R W ([(26, ((r 7 : Nat) : Int)), (27, z), (19, ((0 : Nat) : Int)), (48, ((r 5 : Nat) : Int)), (43, z), (29, z)] : List (Int × Int)).reverse).headD 0 = nz (sTwo 29 (nz (sOne R W 27 (nz (sNone R W 26 ((r 7 : Nat) : Int))))) (nz (sTwo 43 (nz (sNone R W 19 ((0 : Nat) : Int))) (nz (sNone R W 48 ((r 5 : Nat) : Int)))))) := by
  show (evR R W [(29, z), (43, z), (48, ((r 5 : Nat) : Int)), (19, ((0 : Nat) : Int)), (27, z), (26, ((r 7 : Nat) : Int))]).headD 0 = _
  have h0 : evR R W [] = [] := rfl
  have h1 : evR R W [(26, ((r 7 : Nat) : Int))] = [nz (sNone R W 26 ((r 7 : Nat) : Int))] := (congrArg (fun s => stp R W s (26, ((r 7 : Nat) : Int))) h0).trans (sp0 (by decide) (by decide))
  have h2 : evR R W [(27, z), (26, ((r 7 : Nat) : Int))] = [nz (sOne R W 27 (nz (sNone R W 26 ((r 7 : Nat) : Int))))] := (congrArg (fun s => stp R W s (27, z)) h1).trans (sp1 (by decide))
  have h3 : evR R W [(19, ((0 : Nat) : Int)), (27, z), (26, ((r 7 : Nat) : Int))] = [nz (sNone R W 19 ((0 : Nat) : Int)), nz (sOne R W 27 (nz (sNone R W 26 ((r 7 : Nat) : Int))))] := (congrArg (fun s => stp R W s (19, ((0 : Nat) : Int))) h2).trans (sp0 (by decide) (by decide))
  have h4 : evR R W [(48, ((r 5 : Nat) : Int)), (19, ((0 : Nat) : Int)), (27, z), (26, ((r 7 : Nat) : Int))] = [nz (sNone R W 48 ((r 5 : Nat) : Int)), nz (sNone R W 19 ((0 : Nat) : Int)), nz (sOne R W 27 (nz (sNone R W 26 ((r 7 : Nat) : Int))))] := (congrArg (fun s => stp R W s (48, ((r 5 : Nat) : Int))) h3).trans (sp0 (by decide) (by decide))
  have h5 : evR R W [(43, z), (48, ((r 5 : Nat) : Int)), (19, ((0 : Nat) : Int)), (27, z), (26, ((r 7 : Nat) : Int))] = [nz (sTwo 43 (nz (sNone R W 19 ((0 : Nat) : Int))) (nz (sNone R W 48 ((r 5 : Nat) : Int)))), nz (sOne R W 27 (nz (sNone R W 26 ((r 7 : Nat) : Int))))] := (congrArg (fun s => stp R W s (43, z)) h4).trans (sp2 (by decide) (by decide))
  have h6 : evR R W [(29, z), (43, z), (48, ((r 5 : Nat) : Int)), (19, ((0 : Nat) : Int)), (27, z), (26, ((r 7 : Nat) : Int))] = [nz (sTwo 29 (nz (sOne R W 27 (nz (sNone R W 26 ((r 7 : Nat) : Int))))) (nz (sTwo 43 (nz (sNone R W 19 ((0 : Nat) : Int))) (nz (sNone R W 48 ((r 5 : Nat) : Int))))))] := (congrArg (fun s => stp R W s (29, z)) h5).trans (sp2 (by decide) (by decide))
  rw [h6]
  rfl
theorem eT_3 : (evR R W ([(20, ((r 7 : Nat) : Int)), (48, ((r 5 : Nat) : Int)), (42, z)] : List (Int × Int)).reverse).headD 0 = nz (sTwo 42 (nz (sNone R W 20 ((r 7 : Nat) : Int))) (nz (sNone R W 48 ((r 5 : Nat) : Int)))) := by
  show (evR R W [(42, z), (48, ((r 5 : Nat) : Int)), (20, ((r 7 : Nat) : Int))]).headD 0 = _
  have h0 : evR R W [] = [] := rfl
  have h1 : evR R W [(20, ((r 7 : Nat) : Int))] = [nz (sNone R W 20 ((r 7 : Nat) : Int))] := (congrArg (fun s => stp R W s (20, ((r 7 : Nat) : Int))) h0).trans (sp0 (by decide) (by decide))
  have h2 : evR R W [(48, ((r 5 : Nat) : Int)), (20, ((r 7 : Nat) : Int))] = [nz (sNone R W 48 ((r 5 : Nat) : Int)), nz (sNone R W 20 ((r 7 : Nat) : Int))] := (congrArg (fun s => stp R W s (48, ((r 5 : Nat) : Int))) h1).trans (sp0 (by decide) (by decide))
  have h3 : evR R W [(42, z), (48, ((r 5 : Nat) : Int)), (20, ((r 7 : Nat) : Int))] = [nz (sTwo 42 (nz (sNone R W 20 ((r 7 : Nat) : Int))) (nz (sNone R W 48 ((r 5 : Nat) : Int))))] := (congrArg (fun s => stp R W s (42, z)) h2).trans (sp2 (by decide) (by decide))
  rw [h3]
  rfl
theorem eT_4 : (evR R W ([(22, ((r 8 : Nat) : Int)), (48, ((r 5 : Nat) : Int)), (48, ((2 : Nat) : Int)), (40, z), (46, z), (25, ((r 8 : Nat) : Int)), (27, z), (28, z)] : List (Int × Int)).reverse).headD 0 = nz (sTwo 28 (nz (sTwo 46 (nz (sNone R W 22 ((r 8 : Nat) : Int))) (nz (sTwo 40 (nz (sNone R W 48 ((r 5 : Nat) : Int))) (nz (sNone R W 48 ((2 : Nat) : Int))))))) (nz (sOne R W 27 (nz (sNone R W 25 ((r 8 : Nat) : Int)))))) := by
  show (evR R W [(28, z), (27, z), (25, ((r 8 : Nat) : Int)), (46, z), (40, z), (48, ((2 : Nat) : Int)), (48, ((r 5 : Nat) : Int)), (22, ((r 8 : Nat) : Int))]).headD 0 = _
  have h0 : evR R W [] = [] := rfl
  have h1 : evR R W [(22, ((r 8 : Nat) : Int))] = [nz (sNone R W 22 ((r 8 : Nat) : Int))] := (congrArg (fun s => stp R W s (22, ((r 8 : Nat) : Int))) h0).trans (sp0 (by decide) (by decide))
  have h2 : evR R W [(48, ((r 5 : Nat) : Int)), (22, ((r 8 : Nat) : Int))] = [nz (sNone R W 48 ((r 5 : Nat) : Int)), nz (sNone R W 22 ((r 8 : Nat) : Int))] := (congrArg (fun s => stp R W s (48, ((r 5 : Nat) : Int))) h1).trans (sp0 (by decide) (by decide))
  have h3 : evR R W [(48, ((2 : Nat) : Int)), (48, ((r 5 : Nat) : Int)), (22, ((r 8 : Nat) : Int))] = [nz (sNone R W 48 ((2 : Nat) : Int)), nz (sNone R W 48 ((r 5 : Nat) : Int)), nz (sNone R W 22 ((r 8 : Nat) : Int))] := (congrArg (fun s => stp R W s (48, ((2 : Nat) : Int))) h2).trans (sp0 (by decide) (by decide))
  have h4 : evR R W [(40, z), (48, ((2 : Nat) : Int)), (48, ((r 5 : Nat) : Int)), (22, ((r 8 : Nat) : Int))] = [nz (sTwo 40 (nz (sNone R W 48 ((r 5 : Nat) : Int))) (nz (sNone R W 48 ((2 : Nat) : Int)))), nz (sNone R W 22 ((r 8 : Nat) : Int))] := (congrArg (fun s => stp R W s (40, z)) h3).trans (sp2 (by decide) (by decide))
  have h5 : evR R W [(46, z), (40, z), (48, ((2 : Nat) : Int)), (48, ((r 5 : Nat) : Int)), (22, ((r 8 : Nat) : Int))] = [nz (sTwo 46 (nz (sNone R W 22 ((r 8 : Nat) : Int))) (nz (sTwo 40 (nz (sNone R W 48 ((r 5 : Nat) : Int))) (nz (sNone R W 48 ((2 : Nat) : Int))))))] := (congrArg (fun s => stp R W s (46, z)) h4).trans (sp2 (by decide) (by decide))
  have h6 : evR R W [(25, ((r 8 : Nat) : Int)), (46, z), (40, z), (48, ((2 : Nat) : Int)), (48, ((r 5 : Nat) : Int)), (22, ((r 8 : Nat) : Int))] = [nz (sNone R W 25 ((r 8 : Nat) : Int)), nz (sTwo 46 (nz (sNone R W 22 ((r 8 : Nat) : Int))) (nz (sTwo 40 (nz (sNone R W 48 ((r 5 : Nat) : Int))) (nz (sNone R W 48 ((2 : Nat) : Int))))))] := (congrArg (fun s => stp R W s (25, ((r 8 : Nat) : Int))) h5).trans (sp0 (by decide) (by decide))
  have h7 : evR R W [(27, z), (25, ((r 8 : Nat) : Int)), (46, z), (40, z), (48, ((2 : Nat) : Int)), (48, ((r 5 : Nat) : Int)), (22, ((r 8 : Nat) : Int))] = [nz (sOne R W 27 (nz (sNone R W 25 ((r 8 : Nat) : Int)))), nz (sTwo 46 (nz (sNone R W 22 ((r 8 : Nat) : Int))) (nz (sTwo 40 (nz (sNone R W 48 ((r 5 : Nat) : Int))) (nz (sNone R W 48 ((2 : Nat) : Int))))))] := (congrArg (fun s => stp R W s (27, z)) h6).trans (sp1 (by decide))
  have h8 : evR R W [(28, z), (27, z), (25, ((r 8 : Nat) : Int)), (46, z), (40, z), (48, ((2 : Nat) : Int)), (48, ((r 5 : Nat) : Int)), (22, ((r 8 : Nat) : Int))] = [nz (sTwo 28 (nz (sTwo 46 (nz (sNone R W 22 ((r 8 : Nat) : Int))) (nz (sTwo 40 (nz (sNone R W 48 ((r 5 : Nat) : Int))) (nz (sNone R W 48 ((2 : Nat) : Int))))))) (nz (sOne R W 27 (nz (sNone R W 25 ((r 8 : Nat) : Int))))))] := (congrArg (fun s => stp R W s (28, z)) h7).trans (sp2 (by decide) (by decide))
  rw [h8]
  rfl
theorem eT_5 : (evR R W ([(48, ((r 6 : Nat) : Int)), (21, z), (48, ((r 5 : Nat) : Int)), (42, z), (18, ((0 : Nat) : Int)), (48, ((2 : Nat) : Int)), (41, z), (48, ((2 : Nat) : Int)), (40, z), (18, ((0 : Nat) : Int)), (44, z), (29, z), (24, ((r 9 : Nat) : Int)), (48, ((r 5 : Nat) : Int)), (42, z), (28, z)] : List (Int × Int)).reverse).headD 0 = nz (sTwo 28 (nz (sTwo 29 (nz (sTwo 42 (nz (sOne R W 21 (nz (sNone R W 48 ((r 6 : Nat) : Int))))) (nz (sNone R W 48 ((r 5 : Nat) : Int))))) (nz (sTwo 44 (nz (sTwo 40 (nz (sTwo 41 (nz (sNone R W 18 ((0 : Nat) : Int))) (nz (sNone R W 48 ((2 : Nat) : Int))))) (nz (sNone R W 48 ((2 : Nat) : Int))))) (nz (sNone R W 18 ((0 : Nat) : Int))))))) (nz (sTwo 42 (nz (sNone R W 24 ((r 9 : Nat) : Int))) (nz (sNone R W 48 ((r 5 : Nat) : Int)))))) := by
  show (evR R W [(28, z), (42, z), (48, ((r 5 : Nat) : Int)), (24, ((r 9 : Nat) : Int)), (29, z), (44, z), (18, ((0 : Nat) : Int)), (40, z), (48, ((2 : Nat) : Int)), (41, z), (48, ((2 : Nat) : Int)), (18, ((0 : Nat) : Int)), (42, z), (48, ((r 5 : Nat) : Int)), (21, z), (48, ((r 6 : Nat) : Int))]).headD 0 = _
  have h0 : evR R W [] = [] := rfl
  have h1 : evR R W [(48, ((r 6 : Nat) : Int))] = [nz (sNone R W 48 ((r 6 : Nat) : Int))] := (congrArg (fun s => stp R W s (48, ((r 6 : Nat) : Int))) h0).trans (sp0 (by decide) (by decide))
  have h2 : evR R W [(21, z), (48, ((r 6 : Nat) : Int))] = [nz (sOne R W 21 (nz (sNone R W 48 ((r 6 : Nat) : Int))))] := (congrArg (fun s => stp R W s (21, z)) h1).trans (sp1 (by decide))
  have h3 : evR R W [(48, ((r 5 : Nat) : Int)), (21, z), (48, ((r 6 : Nat) : Int))] = [nz (sNone R W 48 ((r 5 : Nat) : Int)), nz (sOne R W 21 (nz (sNone R W 48 ((r 6 : Nat) : Int))))] := (congrArg (fun s => stp R W s (48, ((r 5 : Nat) : Int))) h2).trans (sp0 (by decide) (by decide))
  have h4 : evR R W [(42, z), (48, ((r 5 : Nat) : Int)), (21, z), (48, ((r 6 : Nat) : Int))] = [nz (sTwo 42 (nz (sOne R W 21 (nz (sNone R W 48 ((r 6 : Nat) : Int))))) (nz (sNone R W 48 ((r 5 : Nat) : Int))))] := (congrArg (fun s => stp R W s (42, z)) h3).trans (sp2 (by decide) (by decide))
  have h5 : evR R W [(18, ((0 : Nat) : Int)), (42, z), (48, ((r 5 : Nat) : Int)), (21, z), (48, ((r 6 : Nat) : Int))] = [nz (sNone R W 18 ((0 : Nat) : Int)), nz (sTwo 42 (nz (sOne R W 21 (nz (sNone R W 48 ((r 6 : Nat) : Int))))) (nz (sNone R W 48 ((r 5 : Nat) : Int))))] := (congrArg (fun s => stp R W s (18, ((0 : Nat) : Int))) h4).trans (sp0 (by decide) (by decide))
  have h6 : evR R W [(48, ((2 : Nat) : Int)), (18, ((0 : Nat) : Int)), (42, z), (48, ((r 5 : Nat) : Int)), (21, z), (48, ((r 6 : Nat) : Int))] = [nz (sNone R W 48 ((2 : Nat) : Int)), nz (sNone R W 18 ((0 : Nat) : Int)), nz (sTwo 42 (nz (sOne R W 21 (nz (sNone R W 48 ((r 6 : Nat) : Int))))) (nz (sNone R W 48 ((r 5 : Nat) : Int))))] := (congrArg (fun s => stp R W s (48, ((2 : Nat) : Int))) h5).trans (sp0 (by decide) (by decide))
  have h7 : evR R W [(41, z), (48, ((2 : Nat) : Int)), (18, ((0 : Nat) : Int)), (42, z), (48, ((r 5 : Nat) : Int)), (21, z), (48, ((r 6 : Nat) : Int))] = [nz (sTwo 41 (nz (sNone R W 18 ((0 : Nat) : Int))) (nz (sNone R W 48 ((2 : Nat) : Int)))), nz (sTwo 42 (nz (sOne R W 21 (nz (sNone R W 48 ((r 6 : Nat) : Int))))) (nz (sNone R W 48 ((r 5 : Nat) : Int))))] := (congrArg (fun s => stp R W s (41, z)) h6).trans (sp2 (by decide) (by decide))
  have h8 : evR R W [(48, ((2 : Nat) : Int)), (41, z), (48, ((2 : Nat) : Int)), (18, ((0 : Nat) : Int)), (42, z), (48, ((r 5 : Nat) : Int)), (21, z), (48, ((r 6 : Nat) : Int))] = [nz (sNone R W 48 ((2 : Nat) : Int)), nz (sTwo 41 (nz (sNone R W 18 ((0 : Nat) : Int))) (nz (sNone R W 48 ((2 : Nat) : Int)))), nz (sTwo 42 (nz (sOne R W 21 (nz (sNone R W 48 ((r 6 : Nat) : Int))))) (nz (sNone R W 48 ((r 5 : Nat) : Int))))] := (congrArg (fun s => stp R W s (48, ((2 : Nat) : Int))) h7).trans (sp0 (by decide) (by decide))
  have h9 : evR R W [(40, z), (48, ((2 : Nat) : Int)), (41, z), (48, ((2 : Nat) : Int)), (18, ((0 : Nat) : Int)), (42, z), (48, ((r 5 : Nat) : Int)), (21, z), (48, ((r 6 : Nat) : Int))] = [nz (sTwo 40 (nz (sTwo 41 (nz (sNone R W 18 ((0 : Nat) : Int))) (nz (sNone R W 48 ((2 : Nat) : Int))))) (nz (sNone R W 48 ((2 : Nat) : Int)))), nz (sTwo 42 (nz (sOne R W 21 (nz (sNone R W 48 ((r 6 : Nat) : Int))))) (nz (sNone R W 48 ((r 5 : Nat) : Int))))] := (congrArg (fun s => stp R W s (40, z)) h8).trans (sp2 (by decide) (by decide))
  have h10 : evR R W [(18, ((0 : Nat) : Int)), (40, z), (48, ((2 : Nat) : Int)), (41, z), (48, ((2 : Nat) : Int)), (18, ((0 : Nat) : Int)), (42, z), (48, ((r 5 : Nat) : Int)), (21, z), (48, ((r 6 : Nat) : Int))] = [nz (sNone R W 18 ((0 : Nat) : Int)), nz (sTwo 40 (nz (sTwo 41 (nz (sNone R W 18 ((0 : Nat) : Int))) (nz (sNone R W 48 ((2 : Nat) : Int))))) (nz (sNone R W 48 ((2 : Nat) : Int)))), nz (sTwo 42 (nz (sOne R W 21 (nz (sNone R W 48 ((r 6 : Nat) : Int))))) (nz (sNone R W 48 ((r 5 : Nat) : Int))))] := (congrArg (fun s => stp R W s (18, ((0 : Nat) : Int))) h9).trans (sp0 (by decide) (by decide))
  have h11 : evR R W [(44, z), (18, ((0 : Nat) : Int)), (40, z), (48, ((2 : Nat) : Int)), (41, z), (48, ((2 : Nat) : Int)), (18, ((0 : Nat) : Int)), (42, z), (48, ((r 5 : Nat) : Int)), (21, z), (48, ((r 6 : Nat) : Int))] = [nz (sTwo 44 (nz (sTwo 40 (nz (sTwo 41 (nz (sNone R W 18 ((0 : Nat) : Int))) (nz (sNone R W 48 ((2 : Nat) : Int))))) (nz (sNone R W 48 ((2 : Nat) : Int))))) (nz (sNone R W 18 ((0 : Nat) : Int)))), nz (sTwo 42 (nz (sOne R W 21 (nz (sNone R W 48 ((r 6 : Nat) : Int))))) (nz (sNone R W 48 ((r 5 : Nat) : Int))))] := (congrArg (fun s => stp R W s (44, z)) h10).trans (sp2 (by decide) (by decide))
  have h12 : evR R W [(29, z), (44, z), (18, ((0 : Nat) : Int)), (40, z), (48, ((2 : Nat) : Int)), (41, z), (48, ((2 : Nat) : Int)), (18, ((0 : Nat) : Int)), (42, z), (48, ((r 5 : Nat) : Int)), (21, z), (48, ((r 6 : Nat) : Int))] = [nz (sTwo 29 (nz (sTwo 42 (nz (sOne R W 21 (nz (sNone R W 48 ((r 6 : Nat) : Int))))) (nz (sNone R W 48 ((r 5 : Nat) : Int))))) (nz (sTwo 44 (nz (sTwo 40 (nz (sTwo 41 (nz (sNone R W 18 ((0 : Nat) : Int))) (nz (sNone R W 48 ((2 : Nat) : Int))))) (nz (sNone R W 48 ((2 : Nat) : Int))))) (nz (sNone R W 18 ((0 : Nat) : Int))))))] := (congrArg (fun s => stp R W s (29, z)) h11).trans (sp2 (by decide) (by decide))
  have h13 : evR R W [(24, ((r 9 : Nat) : Int)), (29, z), (44, z), (18, ((0 : Nat) : Int)), (40, z), (48, ((2 : Nat) : Int)), (41, z), (48, ((2 : Nat) : Int)), (18, ((0 : Nat) : Int)), (42, z), (48, ((r 5 : Nat) : Int)), (21, z), (48, ((r 6 : Nat) : Int))] = [nz (sNone R W 24 ((r 9 : Nat) : Int)), nz (sTwo 29 (nz (sTwo 42 (nz (sOne R W 21 (nz (sNone R W 48 ((r 6 : Nat) : Int))))) (nz (sNone R W 48 ((r 5 : Nat) : Int))))) (nz (sTwo 44 (nz (sTwo 40 (nz (sTwo 41 (nz (sNone R W 18 ((0 : Nat) : Int))) (nz (sNone R W 48 ((2 : Nat) : Int))))) (nz (sNone R W 48 ((2 : Nat) : Int))))) (nz (sNone R W 18 ((0 : Nat) : Int))))))] := (congrArg (fun s => stp R W s (24, ((r 9 : Nat) : Int))) h12).trans (sp0 (by decide) (by decide))
  have h14 : evR R W [(48, ((r 5 : Nat) : Int)), (24, ((r 9 : Nat) : Int)), (29, z), (44, z), (18, ((0 : Nat) : Int)), (40, z), (48, ((2 : Nat) : Int)), (41, z), (48, ((2 : Nat) : Int)), (18, ((0 : Nat) : Int)), (42, z), (48, ((r 5 : Nat) : Int)), (21, z), (48, ((r 6 : Nat) : Int))] = [nz (sNone R W 48 ((r 5 : Nat) : Int)), nz (sNone R W 24 ((r 9 : Nat) : Int)), nz (sTwo 29 (nz (sTwo 42 (nz (sOne R W 21 (nz (sNone R W 48 ((r 6 : Nat) : Int))))) (nz (sNone R W 48 ((r 5 : Nat) : Int))))) (nz (sTwo 44 (nz (sTwo 40 (nz (sTwo 41 (nz (sNone R W 18 ((0 : Nat) : Int))) (nz (sNone R W 48 ((2 : Nat) : Int))))) (nz (sNone R W 48 ((2 : Nat) : Int))))) (nz (sNone R W 18 ((0 : Nat) : Int))))))] := (congrArg (fun s => stp R W s (48, ((r 5 : Nat) : Int))) h13).trans (sp0 (by decide) (by decide))
  have h15 : evR R W [(42, z), (48, ((r 5 : Nat) : Int)), (24, ((r 9 : Nat) : Int)), (29, z), (44, z), (18, ((0 : Nat) : Int)), (40, z), (48, ((2 : Nat) : Int)), (41, z), (48, ((2 : Nat) : Int)), (18, ((0 : Nat) : Int)), (42, z), (48, ((r 5 : Nat) : Int)), (21, z), (48, ((r 6 : Nat) : Int))] = [nz (sTwo 42 (nz (sNone R W 24 ((r 9 : Nat) : Int))) (nz (sNone R W 48 ((r 5 : Nat) : Int)))), nz (sTwo 29 (nz (sTwo 42 (nz (sOne R W 21 (nz (sNone R W 48 ((r 6 : Nat) : Int))))) (nz (sNone R W 48 ((r 5 : Nat) : Int))))) (nz (sTwo 44 (nz (sTwo 40 (nz (sTwo 41 (nz (sNone R W 18 ((0 : Nat) : Int))) (nz (sNone R W 48 ((2 : Nat) : Int))))) (nz (sNone R W 48 ((2 : Nat) : Int))))) (nz (sNone R W 18 ((0 : Nat) : Int))))))] := (congrArg (fun s => stp R W s (42, z)) h14).trans (sp2 (by decide) (by decide))
  have h16 : evR R W [(28, z), (42, z), (48, ((r 5 : Nat) : Int)), (24, ((r 9 : Nat) : Int)), (29, z), (44, z), (18, ((0 : Nat) : Int)), (40, z), (48, ((2 : Nat) : Int)), (41, z), (48, ((2 : Nat) : Int)), (18, ((0 : Nat) : Int)), (42, z), (48, ((r 5 : Nat) : Int)), (21, z), (48, ((r 6 : Nat) : Int))] = [nz (sTwo 28 (nz (sTwo 29 (nz (sTwo 42 (nz (sOne R W 21 (nz (sNone R W 48 ((r 6 : Nat) : Int))))) (nz (sNone R W 48 ((r 5 : Nat) : Int))))) (nz (sTwo 44 (nz (sTwo 40 (nz (sTwo 41 (nz (sNone R W 18 ((0 : Nat) : Int))) (nz (sNone R W 48 ((2 : Nat) : Int))))) (nz (sNone R W 48 ((2 : Nat) : Int))))) (nz (sNone R W 18 ((0 : Nat) : Int))))))) (nz (sTwo 42 (nz (sNone R W 24 ((r 9 : Nat) : Int))) (nz (sNone R W 48 ((r 5 : Nat) : Int))))))] := (congrArg (fun s => stp R W s (28, z)) h15).trans (sp2 (by decide) (by decide))
  rw [h16]
  rfl
theorem eT_6 : (evR R W ([(23, ((r 8 : Nat) : Int)), (48, ((0 : Nat) : Int)), (42, z)] : List (Int × Int)).reverse).headD 0 = nz (sTwo 42 (nz (sNone R W 23 ((r 8 : Nat) : Int))) (nz (sNone R W 48 ((0 : Nat) : Int)))) := by
  show (evR R W [(42, z), (48, ((0 : Nat) : Int)), (23, ((r 8 : Nat) : Int))]).headD 0 = _
  have h0 : evR R W [] = [] := rfl
  have h1 : evR R W [(23, ((r 8 : Nat) : Int))] = [nz (sNone R W 23 ((r 8 : Nat) : Int))] := (congrArg (fun s => stp R W s (23, ((r 8 : Nat) : Int))) h0).trans (sp0 (by decide) (by decide))
  have h2 : evR R W [(48, ((0 : Nat) : Int)), (23, ((r 8 : Nat) : Int))] = [nz (sNone R W 48 ((0 : Nat) : Int)), nz (sNone R W 23 ((r 8 : Nat) : Int))] := (congrArg (fun s => stp R W s (48, ((0 : Nat) : Int))) h1).trans (sp0 (by decide) (by decide))
  have h3 : evR R W [(42, z), (48, ((0 : Nat) : Int)), (23, ((r 8 : Nat) : Int))] = [nz (sTwo 42 (nz (sNone R W 23 ((r 8 : Nat) : Int))) (nz (sNone R W 48 ((0 : Nat) : Int))))] := (congrArg (fun s => stp R W s (42, z)) h2).trans (sp2 (by decide) (by decide))
  rw [h3]
  rfl
theorem eT_7 : (evR R W ([(48, ((r 5 : Nat) : Int)), (48, ((2 : Nat) : Int)), (41, z), (48, ((2 : Nat) : Int)), (40, z), (48, ((r 5 : Nat) : Int)), (44, z)] : List (Int × Int)).reverse).headD 0 = nz (sTwo 44 (nz (sTwo 40 (nz (sTwo 41 (nz (sNone R W 48 ((r 5 : Nat) : Int))) (nz (sNone R W 48 ((2 : Nat) : Int))))) (nz (sNone R W 48 ((2 : Nat) : Int))))) (nz (sNone R W 48 ((r 5 : Nat) : Int)))) := by
  show (evR R W [(44, z), (48, ((r 5 : Nat) : Int)), (40, z), (48, ((2 : Nat) : Int)), (41, z), (48, ((2 : Nat) : Int)), (48, ((r 5 : Nat) : Int))]).headD 0 = _
  have h0 : evR R W [] = [] := rfl
  have h1 : evR R W [(48, ((r 5 : Nat) : Int))] = [nz (sNone R W 48 ((r 5 : Nat) : Int))] := (congrArg (fun s => stp R W s (48, ((r 5 : Nat) : Int))) h0).trans (sp0 (by decide) (by decide))
  have h2 : evR R W [(48, ((2 : Nat) : Int)), (48, ((r 5 : Nat) : Int))] = [nz (sNone R W 48 ((2 : Nat) : Int)), nz (sNone R W 48 ((r 5 : Nat) : Int))] := (congrArg (fun s => stp R W s (48, ((2 : Nat) : Int))) h1).trans (sp0 (by decide) (by decide))
  have h3 : evR R W [(41, z), (48, ((2 : Nat) : Int)), (48, ((r 5 : Nat) : Int))] = [nz (sTwo 41 (nz (sNone R W 48 ((r 5 : Nat) : Int))) (nz (sNone R W 48 ((2 : Nat) : Int))))] := (congrArg (fun s => stp R W s (41, z)) h2).trans (sp2 (by decide) (by decide))
  have h4 : evR R W [(48, ((2 : Nat) : Int)), (41, z), (48, ((2 : Nat) : Int)), (48, ((r 5 : Nat) : Int))] = [nz (sNone R W 48 ((2 : Nat) : Int)), nz (sTwo 41 (nz (sNone R W 48 ((r 5 : Nat) : Int))) (nz (sNone R W 48 ((2 : Nat) : Int))))] := (congrArg (fun s => stp R W s (48, ((2 : Nat) : Int))) h3).trans (sp0 (by decide) (by decide))
  have h5 : evR R W [(40, z), (48, ((2 : Nat) : Int)), (41, z), (48, ((2 : Nat) : Int)), (48, ((r 5 : Nat) : Int))] = [nz (sTwo 40 (nz (sTwo 41 (nz (sNone R W 48 ((r 5 : Nat) : Int))) (nz (sNone R W 48 ((2 : Nat) : Int))))) (nz (sNone R W 48 ((2 : Nat) : Int))))] := (congrArg (fun s => stp R W s (40, z)) h4).trans (sp2 (by decide) (by decide))
  have h6 : evR R W [(48, ((r 5 : Nat) : Int)), (40, z), (48, ((2 : Nat) : Int)), (41, z), (48, ((2 : Nat) : Int)), (48, ((r 5 : Nat) : Int))] = [nz (sNone R W 48 ((r 5 : Nat) : Int)), nz (sTwo 40 (nz (sTwo 41 (nz (sNone R W 48 ((r 5 : Nat) : Int))) (nz (sNone R W 48 ((2 : Nat) : Int))))) (nz (sNone R W 48 ((2 : Nat) : Int))))] := (congrArg (fun s => stp R W s (48, ((r 5 : Nat) : Int))) h5).trans (sp0 (by decide) (by decide))
  have h7 : evR R W [(44, z), (48, ((r 5 : Nat) : Int)), (40, z), (48, ((2 : Nat) : Int)), (41, z), (48, ((2 : Nat) : Int)), (48, ((r 5 : Nat) : Int))] = [nz (sTwo 44 (nz (sTwo 40 (nz (sTwo 41 (nz (sNone R W 48 ((r 5 : Nat) : Int))) (nz (sNone R W 48 ((2 : Nat) : Int))))) (nz (sNone R W 48 ((2 : Nat) : Int))))) (nz (sNone R W 48 ((r 5 : Nat) : Int))))] := (congrArg (fun s => stp R W s (44, z)) h6).trans (sp2 (by decide) (by decide))
  rw [h7]
  rfl
end ZG
