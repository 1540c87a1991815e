/-! look, link, clear, use of the draft -/
section LK
variable {E : Nat → Value} {d : Nat} {S S' : aS} {M M' M0 M1 M00 : Nat → Nat → Int} {Q : Option (Option Value) → aS → aI → Prop} {cl c n : Nat} {f P L : Nat → Nat}
set_option maxHeartbeats 1000000 in
theorem mX4_look {its : Its} (hd : 8 ≤ d) (hT : TbS cl S cG) (hs : Sst cl (aPut S (cl + 8) 2 (some (cl + 34))) M n f its.length (tK its) P L (tC its)) (hM : RM M) (hR : Rgs E (aPut S (cl + 8) 2 (some (cl + 34))) M cl) (hV : ∀ i, i < its.length → M (cl + 6) i = (tV its i : Int)) (hlen : its.length < 400)
    (hok : okL 36 its (0, 0, 0, win 11 M (cl + 34))) (hno : nOr its ≤ 20) (h0 : ∀ k, k ≤ 3 → M (cl + 34) k = 0)
    (q : ∀ M', Sv cl its.length (tK its) (tC its) (wV 36 its) M M' its.length (effL 36 its (0, 0, 0, win 11 M (cl + 34))).1 (effL 36 its (0, 0, 0, win 11 M (cl + 34))).2.1 (effL 36 its (0, 0, 0, win 11 M (cl + 34))).2.2.1 (effL 36 its (0, 0, 0, win 11 M (cl + 34))).2.2.2 → Q (some (some (J 0))) (aPut S (cl + 8) 2 (some (cl + 34))) (mI M')) :
    X E d fX4_look 0 [some (.ref (cl + 8)), some (.ref (cl + 34)), none, none, none, none, none] [] S (mI M) Q := by
  have g8k : aK S (cl + 8) = 6 := hT.kk (i := 8) rfl
  refine kX4_look_0 g8k ?_
  have e0 : ∀ k, k ≤ 3 → win 11 M (cl + 34) 0 k = 0 := fun k hk => by rw [win_at (Nat.zero_le _)]; exact h0 k hk
  refine svRun hd hs hR hV hlen its 0 36 0 (0, 0, 0, win 11 M (cl + 34)) M rfl (Nat.zero_add _) hok (by decide) (by omega) (fun j => by rw [Nat.zero_add]) ⟨hM, fun _ _ => rfl, fun j => by rw [if_neg (Nat.not_lt_zero _)], rfl, ⟨⟨e0 0 (by decide), Nat.zero_le _⟩, ⟨e0 2 (by decide), Nat.zero_le _⟩, e0 3 (by decide), Nat.zero_le _⟩, fun k hk => absurd hk (Nat.not_lt_zero _), fun k hk => absurd hk (Nat.not_lt_zero _), fun k hk => absurd hk (Nat.not_lt_zero _)⟩ q _
set_option maxHeartbeats 1000000 in
theorem mX1_link {w : Nat → Int} {OL : List (Nat × Nat)} {OR : Orw} (hT : TbS cl S cS) (hM : RM M) (h8 : M (cl + 46) 8 = (OL.length : Int)) (h0 : M (cl + 46) 0 = (OR.length : Int)) (hol : OL.length ≤ 400) (hor : OR.length ≤ 20)
    (hop : ∀ i k t : Nat, OL[i]? = some (k, t) → M (cl + 55) i = (t : Int) ∧ t ≤ 400) (hln : ∀ (j : Nat) (r : Nat × Nat × Nat × Nat × Nat), OR[j]? = some r → M (cl + 48) j = (r.2.1 : Int) ∧ r.2.1 + 3 ≤ 400) (hw : ∀ t, t ≤ 400 → M (cl + 6) t = w t) (hd : 1 ≤ d)
    (q : ∀ M', RM M' → (∀ x, x ≠ cl + 49 → x ≠ cl + 50 → x ≠ cl + 55 → M' x = M x) → (∀ i k t : Nat, OL[i]? = some (k, t) → M' (cl + 55) i = w t) → (∀ (j : Nat) (r : Nat × Nat × Nat × Nat × Nat), OR[j]? = some r → M' (cl + 49) j = w (r.2.1 + 1) ∧ M' (cl + 50) j = w (r.2.1 + 3)) → Q (some none) S (mI M')) :
    X E d fX1_link 0 [some (.ref (cl + 46)), some (.ref (cl + 2)), none] [] S (mI M) Q := by
  have g46 : aKd S (cl + 46) = 3 := hT.kd (i := 46) rfl
  have g2 : aKd S (cl + 2) = 7 := hT.kd (i := 2) rfl
  have p23 : aP S (cl + 2) 3 = some (cl + 6) := hT.pp (i := 2) (j := 3) (x := 6) rfl rfl
  have p10 : aP S (cl + 46) 10 = some (cl + 55) := hT.pp (i := 46) (j := 10) (x := 55) rfl rfl
  have p2 : aP S (cl + 46) 2 = some (cl + 48) := hT.pp (i := 46) (j := 2) (x := 48) rfl rfl
  have p3 : aP S (cl + 46) 3 = some (cl + 49) := hT.pp (i := 46) (j := 3) (x := 49) rfl rfl
  have p4 : aP S (cl + 46) 4 = some (cl + 50) := hT.pp (i := 46) (j := 4) (x := 50) rfl rfl
  have d6 : aKd S (cl + 6) = 100 := hT.kd (i := 6) rfl
  have n6 : aN S (cl + 6) = 401 := hT.nn (i := 6) rfl
  have k55 : aK S (cl + 55) = 100 := hT.kk (i := 55) rfl
  have d55 : aKd S (cl + 55) = 100 := hT.kd (i := 55) rfl
  have n55 : aN S (cl + 55) = 400 := hT.nn (i := 55) rfl
  have d48 : aKd S (cl + 48) = 100 := hT.kd (i := 48) rfl
  have n48 : aN S (cl + 48) = 20 := hT.nn (i := 48) rfl
  have k49 : aK S (cl + 49) = 100 := hT.kk (i := 49) rfl
  have n49 : aN S (cl + 49) = 20 := hT.nn (i := 49) rfl
  have k50 : aK S (cl + 50) = 100 := hT.kk (i := 50) rfl
  have n50 : aN S (cl + 50) = 20 := hT.nn (i := 50) rfl
  have hwR : ∀ t, t ≤ 400 → R32 (w t) := fun t ht => by rw [← hw t ht]; exact hM _ _
  -- the orders
  have l2 : ∀ (m j : Nat) (M1 : Nat → Nat → Int), j + m = OR.length → RM M1 → (∀ x, x ≠ cl + 49 → x ≠ cl + 50 → x ≠ cl + 55 → M1 x = M x) → (∀ i k t : Nat, OL[i]? = some (k, t) → M1 (cl + 55) i = w t) → (∀ (z : Nat) (r : Nat × Nat × Nat × Nat × Nat), z < j → OR[z]? = some r → M1 (cl + 49) z = w (r.2.1 + 1) ∧ M1 (cl + 50) z = w (r.2.1 + 3)) →
      X E d fX1_link 37 [some (.ref (cl + 46)), some (.ref (cl + 2)), some (J (j : Int))] [] S (mI M1) Q := by
    intro m
    induction m with
    | zero =>
      intro j M1 hj m1 f1 o1 r1
      have e0 : M1 (cl + 46) 0 = (OR.length : Int) := by rw [f1 _ (by omega) (by omega) (by omega)]; exact h0
      refine kX1_link_37 g46 ⟨by omega, by omega⟩ (m1 _ _) (fun _ => kX1_link_93 (q M1 m1 f1 o1 (fun z r hr => r1 z r ?_ hr))) (fun h => absurd h (by omega))
      have := (List.getElem?_eq_some_iff.mp hr).1
      omega
    | succ m ih =>
      intro j M1 hj m1 f1 o1 r1
      have hjl : j < OR.length := by omega
      have e0 : M1 (cl + 46) 0 = (OR.length : Int) := by rw [f1 _ (by omega) (by omega) (by omega)]; exact h0
      obtain ⟨a1, a2⟩ := hln j _ (List.getElem?_eq_getElem hjl)
      obtain ⟨r, er⟩ : ∃ r, OR[j] = r := ⟨_, rfl⟩
      rw [er] at a1 a2
      have eg : OR[j]? = some r := by rw [List.getElem?_eq_getElem hjl, er]
      have e48 : M1 (cl + 48) j = (r.2.1 : Int) := by rw [f1 _ (by omega) (by omega) (by omega)]; exact a1
      have e6 : ∀ t, t ≤ 400 → M1 (cl + 6) t = w t := fun t ht => by rw [f1 _ (by omega) (by omega) (by omega)]; exact hw t ht
      refine kX1_link_37 g46 ⟨by omega, by omega⟩ (m1 _ _) (fun h => absurd h (by omega)) (fun _ => ?_)
      refine kX1_link_45 g46 p3 g2 p23 p2 d48 ⟨by omega, by omega⟩ ⟨by omega, by omega⟩ hd ?_
      rw [Int.toNat_natCast, e48, show (r.2.1 : Int) + 1 = ((r.2.1 + 1 : Nat) : Int) by omega]
      refine mX7_valueAt d6 ⟨by omega, by omega⟩ n6 (by decide) ⟨_, rfl, ?_⟩
      rw [vAt_nat (by omega), e6 _ (by omega)]
      refine kX1_link_65 k49 ⟨by omega, by omega⟩ ⟨by omega, by omega⟩ g46 p4 g2 p23 p2 d48 ⟨by omega, by omega⟩ ⟨by omega, by omega⟩ hd ?_
      rw [Int.toNat_natCast, mW_ne (show cl + 48 ≠ cl + 49 by omega), e48, show (r.2.1 : Int) + 3 = ((r.2.1 + 3 : Nat) : Int) by omega]
      refine mX7_valueAt d6 ⟨by omega, by omega⟩ n6 (by decide) ⟨_, rfl, ?_⟩
      rw [vAt_nat (by omega), mW_ne (show cl + 6 ≠ cl + 49 by omega), e6 _ (by omega)]
      refine kX1_link_86 k50 ⟨by omega, by omega⟩ ⟨by omega, by omega⟩ ?_
      rw [Int.toNat_natCast, show (j : Int) + 1 = ((j + 1 : Nat) : Int) by omega]
      refine ih (j + 1) _ (by omega) ((m1.w (hwR _ (by omega))).w (hwR _ (by omega))) (fun x x1 x2 x3 => by rw [mW_ne x2, mW_ne x1]; exact f1 x x1 x2 x3) (fun i k t hi => by rw [mW_ne (by omega), mW_ne (by omega)]; exact o1 i k t hi) (fun z r' hz hr' => ?_)
      by_cases e : z = j
      · subst e
        rw [eg] at hr'
        have e2 : r = r' := Option.some.inj hr'
        subst e2
        exact ⟨by rw [mW_ne (by omega)]; exact mW_eq, mW_eq⟩
      · rw [mW_ne (show cl + 49 ≠ cl + 50 by omega), mW_ne2 (Or.inr e), mW_ne2 (Or.inr e), mW_ne (show cl + 50 ≠ cl + 49 by omega)]
        exact r1 z r' (by omega) hr'
  have l1 : ∀ (m j : Nat) (M1 : Nat → Nat → Int), j + m = OL.length → RM M1 → (∀ x, x ≠ cl + 55 → M1 x = M x) → (∀ i k t : Nat, OL[i]? = some (k, t) → M1 (cl + 55) i = if i < j then w t else (t : Int)) →
      X E d fX1_link 2 [some (.ref (cl + 46)), some (.ref (cl + 2)), some (J (j : Int))] [] S (mI M1) Q := by
    intro m
    induction m with
    | zero =>
      intro j M1 hj m1 f1 o1
      have e8 : M1 (cl + 46) 8 = (OL.length : Int) := by rw [f1 _ (by omega)]; exact h8
      refine kX1_link_2 g46 ⟨by omega, by omega⟩ (m1 _ _) (fun _ => kX1_link_35 (l2 OR.length 0 M1 (by omega) m1 (fun x _ _ x3 => f1 x x3) (fun i k t hi => ?_) (fun z r hz => absurd hz (Nat.not_lt_zero _)))) (fun h => absurd h (by omega))
      have := (List.getElem?_eq_some_iff.mp hi).1
      rw [o1 i k t hi, if_pos (by omega)]
    | succ m ih =>
      intro j M1 hj m1 f1 o1
      have hjl : j < OL.length := by omega
      have e8 : M1 (cl + 46) 8 = (OL.length : Int) := by rw [f1 _ (by omega)]; exact h8
      obtain ⟨r, er⟩ : ∃ r, OL[j] = r := ⟨_, rfl⟩
      obtain ⟨k, t⟩ := r
      have eg : OL[j]? = some (k, t) := by rw [List.getElem?_eq_getElem hjl, er]
      have ht := (hop j k t eg).2
      have e55 := o1 j k t eg
      rw [if_neg (Nat.lt_irrefl _)] at e55
      refine kX1_link_2 g46 ⟨by omega, by omega⟩ (m1 _ _) (fun h => absurd h (by omega)) (fun _ => ?_)
      refine kX1_link_10 g46 p10 g2 p23 d55 ⟨by omega, by omega⟩ ⟨by omega, by omega⟩ hd ?_
      rw [Int.toNat_natCast, e55]
      refine mX7_valueAt d6 ⟨by omega, by omega⟩ n6 (by decide) ⟨_, rfl, ?_⟩
      rw [vAt_nat (by omega), f1 (cl + 6) (by omega), hw t ht]
      refine kX1_link_28 k55 ⟨by omega, by omega⟩ ⟨by omega, by omega⟩ ?_
      rw [Int.toNat_natCast, show (j : Int) + 1 = ((j + 1 : Nat) : Int) by omega]
      refine ih (j + 1) _ (by omega) (m1.w (hwR t ht)) (fun x hx => (mW_ne hx).trans (f1 x hx)) (fun i k' t' hi => ?_)
      by_cases e : i = j
      · subst e
        rw [eg] at hi
        have e2 : (k, t) = (k', t') := Option.some.inj hi
        have e3 : t = t' := congrArg Prod.snd e2
        subst e3
        rw [if_pos (by omega)]
        exact mW_eq
      · rw [mW_ne2 (Or.inr e), o1 i k' t' hi]
        by_cases e2 : i < j
        · rw [if_pos e2, if_pos (by omega)]
        · rw [if_neg e2, if_neg (by omega)]
  exact kX1_link_0 (l1 OL.length 0 M (by omega) hM (fun _ _ => rfl) (fun i k t hi => by rw [if_neg (Nat.not_lt_zero _)]; exact (hop i k t hi).1))
/-- the draft is cleared -/
theorem mX3_clear (hT : TbS cl S cT) (hM : RM M) (hd : 1 ≤ d)
    (q : ∀ M', RM M' → (∀ x, x ≠ cl + 34 → x ≠ cl + 46 → M' x = M x) → (∀ k, M' (cl + 34) k = if k ≤ 3 then 0 else M (cl + 34) k) → M' (cl + 46) 0 = 0 → M' (cl + 46) 8 = 0 → Q (some none) S (mI M')) :
    X E d fX3_clear 0 [some (.ref (cl + 34))] [] S (mI M) Q := by
  refine kX3_clear_0 (hT.kk (i := 34) rfl) (hT.kd (i := 34) rfl) (hT.pp (i := 34) (j := 15) (x := 46) rfl rfl) hd (kX1_clear_0 (hT.kk (i := 46) rfl) ⟨_, rfl, kX3_clear_27 (q _ ?_ (fun x x1 x2 => ?_) (fun k => ?_) ?_ ?_)⟩) (hT.kd (i := 46) rfl)
  · exact (((((hM.w (by decide)).w (by decide)).w (by decide)).w (by decide)).w (by decide)).w (by decide)
  · rw [mW_ne x2, mW_ne x2, mW_ne x1, mW_ne x1, mW_ne x1, mW_ne x1]
  · rw [mW_ne (by omega), mW_ne (by omega), mW_get, mW_get, mW_get, mW_get]
    by_cases hk3 : k ≤ 3
    · rw [if_pos hk3]
      rcases (by omega : k = 0 ∨ k = 1 ∨ k = 2 ∨ k = 3) with e | e | e | e
      · subst e
        rw [if_neg (by omega), if_neg (by omega), if_neg (by omega), if_pos ⟨rfl, rfl⟩]
      · subst e
        rw [if_neg (by omega), if_neg (by omega), if_pos ⟨rfl, rfl⟩]
      · subst e
        rw [if_neg (by omega), if_pos ⟨rfl, rfl⟩]
      · subst e
        rw [if_pos ⟨rfl, rfl⟩]
    · rw [if_neg hk3, if_neg (by omega), if_neg (by omega), if_neg (by omega), if_neg (by omega)]
  · rw [mW_ne2 (Or.inr (by decide))]; exact mW_eq
  · exact mW_eq
end LK
