/-! survey: a token -/
section SW
variable {E : Nat → Value} {d : Nat} {S S' : aS} {M M' M0 M1 M00 : Nat → Nat → Int} {Q : Option (Option Value) → aS → aI → Prop} {cl c n : Nat} {f K P L C VV : Nat → Nat} {i ns ng nt : Nat} {R : Nat → Nat → Int}
/-- the survey has looked at i tokens -/
def Sv (cl c : Nat) (K C : Nat → Nat) (VV : Nat → Nat) (M0 M : Nat → Nat → Int) (i ns ng nt : Nat) (R : Nat → Nat → Int) : Prop :=
  RM M ∧ Sfr cl M0 M ∧ (∀ j, M (cl + 6) j = if j < i then (VV j : Int) else M0 (cl + 6) j) ∧ win 11 M (cl + 34) = R ∧ ((R 0 0 = (ns : Int) ∧ ns ≤ 5) ∧ (R 0 2 = (ng : Int) ∧ ng ≤ 5) ∧ (R 0 3 = (nt : Int) ∧ nt ≤ 8)) ∧ NmA cl c K C M 9 ns 115 ∧ NmA cl c K C M 10 ng 103 ∧ NmA cl c K C M 11 nt 116
theorem Sv.row {k : Nat} (h : Sv cl c K C VV M0 M i ns ng nt R) (hk : k ≤ 11) : M (cl + 34 + k) = R k := by rw [← h.2.2.2.1, win_at hk]
theorem Sv.r0 (h : Sv cl c K C VV M0 M i ns ng nt R) : M (cl + 34) = R 0 := h.row (k := 0) (by decide)
theorem NmA.fr {A told lt : Nat} (h : NmA cl c K C M A told lt) (g : M' (cl + A) = M (cl + A)) : NmA cl c K C M' A told lt := fun k hk => by
  obtain ⟨t, e1, e2⟩ := h k hk
  exact ⟨t, by rw [g]; exact e1, e2⟩
theorem Sv.at8 {x : Int} (h : Sv cl c K C VV M0 M i ns ng nt R) (hx : R32 x) : Sv cl c K C VV M0 (mW M (cl + 8) 6 x) i ns ng nt R := by
  obtain ⟨h1, h2, h3, h4, h5, h6, h7, h8⟩ := h
  refine ⟨h1.w hx, fun y hy => (mW_ne (by omega)).trans (h2 y hy), fun j => by rw [mW_ne (by omega)]; exact h3 j, ?_, h5, h6.fr (mW_ne (by omega)), h7.fr (mW_ne (by omega)), h8.fr (mW_ne (by omega))⟩
  rw [win_out (by omega)]
  exact h4
theorem Sv.adv (h : Sv cl c K C VV M0 M i ns ng nt R) (hv : M0 (cl + 6) i = (VV i : Int)) : Sv cl c K C VV M0 M (i + 1) ns ng nt R := by
  obtain ⟨h1, h2, h3, h4⟩ := h
  refine ⟨h1, h2, fun j => ?_, h4⟩
  rw [h3 j]
  by_cases e : j = i
  · rw [e, if_neg (by omega), if_pos (by omega)]; exact hv
  · by_cases e2 : j < i
    · rw [if_pos e2, if_pos (by omega)]
    · rw [if_neg e2, if_neg (by omega)]
/-- a number of the draft's road is written, none of its counts of names -/
theorem Sv.wr {k j : Nat} {x : Int} (h : Sv cl c K C VV M0 M i ns ng nt R) (hk : k ≤ 11) (hx : R32 x) (hj : k = 0 → j = 1) : Sv cl c K C VV M0 (mW M (cl + 34 + k) j x) i ns ng nt (mW R k j x) := by
  obtain ⟨h1, h2, h3, h4, ⟨⟨a1, a2⟩, ⟨a3, a4⟩, a5, a6⟩, h6, h7, h8⟩ := h
  refine ⟨h1.w hx, fun y hy => (mW_ne (by omega)).trans (h2 y hy), fun j => by rw [mW_ne (by omega)]; exact h3 j, ?_, ⟨⟨?_, a2⟩, ⟨?_, a4⟩, ?_, a6⟩, h6.fr (mW_ne (by omega)), h7.fr (mW_ne (by omega)), h8.fr (mW_ne (by omega))⟩
  · rw [win_W hk, h4]
  · rw [mW_ne2 (by omega)]; exact a1
  · rw [mW_ne2 (by omega)]; exact a3
  · rw [mW_ne2 (by omega)]; exact a5
variable {o6 : Option Value} {o bf : Nat}
/-- what a token's step is to reach -/
abbrev Nx (E : Nat → Value) (d : Nat) (S : aS) (Q : Option (Option Value) → aS → aI → Prop) (cl : Nat) (o : Nat) (M : Nat → Nat → Int) (b i : Nat) : Prop := ∀ o6, X E d fX4_look 16 [some (.ref (cl + 8)), some (.ref (cl + 34)), some (J (o : Int)), some (J 0), some (J (b : Int)), some (J (i : Int)), o6] [] S (mI M) Q
theorem svOp (hs : Sst cl S M0 n f c K P L C) (h : Sv cl c K C VV M0 M i ns ng nt R) (hi : i < c) (hd : 2 ≤ d)
    (k : ∀ M1, Sv cl c K C VV M0 M1 i ns ng nt R → M1 (cl + 8) 6 = (i : Int) → X E d fX4_look 43 [some (.ref (cl + 8)), some (.ref (cl + 34)), some (J (o : Int)), some (J 0), some (J (bf : Int)), some (J (i : Int)), o6] [J (K i : Int)] S (mI M1) Q) :
    X E d fX4_look 16 [some (.ref (cl + 8)), some (.ref (cl + 34)), some (J (o : Int)), some (J 0), some (J (bf : Int)), some (J (i : Int)), o6] [] S (mI M) Q := by
  have hT := hs.1
  have g8 : aKd S (cl + 8) = 6 := hT.kd (i := 8) rfl
  have g8k : aK S (cl + 8) = 6 := hT.kk (i := 8) rfl
  have p80 : aP S (cl + 8) 0 = some (cl + 2) := hT.pp (i := 8) (j := 0) (x := 2) rfl rfl
  have g2 : aKd S (cl + 2) = 7 := hT.kd (i := 2) rfl
  have p20 : aP S (cl + 2) 0 = some (cl + 3) := hT.pp (i := 2) (j := 0) (x := 3) rfl rfl
  have d3 : aKd S (cl + 3) = 100 := hT.kd (i := 3) rfl
  have n3 : aN S (cl + 3) = 401 := hT.nn (i := 3) rfl
  have hc := hs.2.2.1
  have h24 : M (cl + 2) 4 = (c : Int) := by rw [h.2.1 _ (by omega)]; exact hc.2
  have hc4 := hc.1
  have h1 := Sv.at8 (x := (i : Int)) h ⟨by omega, by omega⟩
  have hkb := hs.2.2.2.2.1 i
  refine kX4_look_16 g8 p80 g2 ⟨by omega, by omega⟩ (h.1 _ _) (fun h => absurd h (by omega)) (fun _ => ?_)
  refine kX4_look_28 g8k g8 p80 (by omega) ?_ g2
  refine kX5_kindOf_0 g2 p20 (Or.inl d3) (by omega) (mX7_isOutside ⟨by omega, by omega⟩ ⟨by omega, by omega⟩ ⟨_, rfl, ?_⟩)
  rw [if_neg (by omega)]
  refine kX5_kindOf_9 (by decide) (fun _ => ?_) (fun h => absurd rfl h)
  refine kX5_kindOf_17 g2 p20 d3 ⟨by omega, by omega⟩ ⟨by omega, by omega⟩ (kX5_kindOf_23 ⟨_, rfl, ?_⟩)
  rw [Int.toNat_natCast, h1.2.1 (cl + 3) (by omega), (hs.2.2.2.1 i hi).1]
  exact k _ h1 mW_eq
theorem svCl {k : Nat} (q : Nx E d S Q cl o M k (i + 1)) : X E d fX4_look 115 [some (.ref (cl + 8)), some (.ref (cl + 34)), some (J (o : Int)), some (J 0), some (J (bf : Int)), some (J (i : Int)), some (J (k : Int))] [] S (mI M) Q := by
  refine kX4_look_115 (by decide) (fun _ => kX4_look_121 ?_) (fun h => absurd rfl h)
  rw [show (i : Int) + 1 = ((i + 1 : Nat) : Int) by omega]
  exact q _
/-- a token that tells nothing -/
theorem svT0 (hs : Sst cl S M0 n f c K P L C) (h : Sv cl c K C VV M0 M i ns ng nt R) (hi : i < c) (hk : K i ≠ 12 ∧ K i ≠ 13 ∧ K i ≠ 15 ∧ K i ≠ 47 ∧ K i ≠ 48) (hv : M0 (cl + 6) i = (VV i : Int)) (hd : 2 ≤ d)
    (q : ∀ M', Sv cl c K C VV M0 M' (i + 1) ns ng nt R → Nx E d S Q cl o M' (K i) (i + 1)) : Nx E d S Q cl o M bf i := fun o6 => by
  have hkb := hs.2.2.2.2.1 i
  refine svOp hs h hi hd (fun M1 h1 e1 => ?_)
  refine kX4_look_43 ⟨by omega, by omega⟩ (fun h => absurd h (by omega)) (fun _ => kX4_look_52 ⟨by omega, by omega⟩ (fun h => absurd h (by omega)) (fun _ => kX4_look_59 ⟨by omega, by omega⟩ (fun _ => ?_) (fun h => absurd h (by omega))))
  refine kX4_look_84 ⟨by omega, by omega⟩ (fun _ => kX4_look_101 ⟨by omega, by omega⟩ (fun _ => ?_) (fun h => absurd h (by omega))) (fun h => absurd h (by omega))
  exact svCl (q M1 (h1.adv hv))
/-- the keyword of an order -/
theorem svTO (hs : Sst cl S M0 n f c K P L C) (h : Sv cl c K C VV M0 M i ns ng nt R) (hi : i < c) (hk : K i = 12 ∨ K i = 13 ∨ K i = 15) (ho : o + 1 ≤ 20) (hv : M0 (cl + 6) i = (VV i : Int)) (hd : 2 ≤ d)
    (q : ∀ M', Sv cl c K C VV M0 M' (i + 1) ns ng nt R → Nx E d S Q cl (o + 1) M' (K i) (i + 1)) : Nx E d S Q cl o M bf i := fun o6 => by
  have hkb := hs.2.2.2.2.1 i
  refine svOp hs h hi hd (fun M1 h1 e1 => ?_)
  have go : X E d fX4_look 66 [some (.ref (cl + 8)), some (.ref (cl + 34)), some (J (o : Int)), some (J 0), some (J (bf : Int)), some (J (i : Int)), some (J (K i : Int))] [] S (mI M1) Q := by
    refine kX4_look_66 ⟨by omega, by omega⟩ (fun _ => kX4_look_79 (kX4_look_80 ?_)) (fun h => absurd h (by omega))
    rw [show (o : Int) + 1 = ((o + 1 : Nat) : Int) by omega]
    exact svCl (q M1 (h1.adv hv))
  exact kX4_look_43 ⟨by omega, by omega⟩ (fun _ => go) (fun _ => kX4_look_52 ⟨by omega, by omega⟩ (fun _ => go) (fun _ => kX4_look_59 ⟨by omega, by omega⟩ (fun h => absurd h (by omega)) (fun _ => go)))
/-- to a name, to a number -/
theorem svToN (hs : Sst cl S M0 n f c K P L C) (h : Sv cl c K C VV M0 M i ns ng nt R) (hi : i < c) (hk : K i = 47) (hd : 2 ≤ d)
    (q : ∀ M1, Sv cl c K C VV M0 M1 i ns ng nt R → M1 (cl + 8) 6 = (i : Int) → X E (d - 1) fX4_lookAtName 0 [some (.ref (cl + 8)), some (J (bf : Int))] [] S (mI M1) (Kr E d fX4_look 97 [some (.ref (cl + 8)), some (.ref (cl + 34)), some (J (o : Int)), some (J 0), some (J (bf : Int)), some (J (i : Int)), some (J 47)] [] Q)) : Nx E d S Q cl o M bf i := fun o6 => by
  have g8 : aKd S (cl + 8) = 6 := hs.1.kd (i := 8) rfl
  refine svOp hs h hi hd (fun M1 h1 e1 => ?_)
  rw [hk]
  refine kX4_look_43 (by decide) (fun h => absurd h (by decide)) (fun _ => kX4_look_52 (by decide) (fun h => absurd h (by decide)) (fun _ => kX4_look_59 (by decide) (fun _ => ?_) (fun h => absurd h (by decide))))
  exact kX4_look_84 (by decide) (fun h => absurd rfl h) (fun _ => kX4_look_91 (by omega) (q M1 h1 e1) g8)
theorem svToD (hs : Sst cl S M0 n f c K P L C) (h : Sv cl c K C VV M0 M i ns ng nt R) (hi : i < c) (hk : K i = 48) (hd : 2 ≤ d)
    (q : ∀ M1, Sv cl c K C VV M0 M1 i ns ng nt R → M1 (cl + 8) 6 = (i : Int) → X E (d - 1) fX4_lookAtNumber 0 [some (.ref (cl + 8)), some (J (bf : Int)), none, none] [] S (mI M1) (Kr E d fX4_look 114 [some (.ref (cl + 8)), some (.ref (cl + 34)), some (J (o : Int)), some (J 0), some (J (bf : Int)), some (J (i : Int)), some (J 48)] [] Q)) : Nx E d S Q cl o M bf i := fun o6 => by
  have g8 : aKd S (cl + 8) = 6 := hs.1.kd (i := 8) rfl
  refine svOp hs h hi hd (fun M1 h1 e1 => ?_)
  rw [hk]
  refine kX4_look_43 (by decide) (fun h => absurd h (by decide)) (fun _ => kX4_look_52 (by decide) (fun h => absurd h (by decide)) (fun _ => kX4_look_59 (by decide) (fun _ => ?_) (fun h => absurd h (by decide))))
  exact kX4_look_84 (by decide) (fun _ => kX4_look_101 (by decide) (fun h => absurd rfl h) (fun _ => kX4_look_108 (by omega) (q M1 h1 e1) g8)) (fun h => absurd h (by decide))
/-- a worth is set -/
theorem Sv.val {j : Nat} (h : Sv cl c K C VV M0 M i ns ng nt R) (hv : VV i = j) (hj : j ≤ 1000) : Sv cl c K C VV M0 (mW M (cl + 6) i (j : Int)) (i + 1) ns ng nt R := by
  obtain ⟨h1, h2, h3, h4, h5, h6, h7, h8⟩ := h
  refine ⟨h1.w ⟨by omega, by omega⟩, fun y hy => (mW_ne (by omega)).trans (h2 y hy), fun k => ?_, ?_, h5, h6.fr (mW_ne (by omega)), h7.fr (mW_ne (by omega)), h8.fr (mW_ne (by omega))⟩
  · rw [mW_get]
    by_cases e : k = i
    · rw [if_pos ⟨rfl, e⟩, if_pos (by omega), e, hv]
    · rw [if_neg (by omega), h3 k]
      by_cases e2 : k < i
      · rw [if_pos e2, if_pos (by omega)]
      · rw [if_neg e2, if_neg (by omega)]
  · rw [win_out (by omega)]; exact h4
theorem svFn {A told lt j sz : Nat} (hs : Sst cl S M0 n f c K P L C) (h : Sv cl c K C VV M0 M i ns ng nt R) (hA : aKd S (cl + A) = 100 ∧ aN S (cl + A) = sz) (ht : told ≤ sz) (hsz : sz ≤ 8) (hnm : NmA cl c K C M A told lt) (hat : M (cl + 8) 6 = (i : Int)) (hi : i < c) (ki : K i = 47) (ci : C i = lt * 256 + 48 + j) (hj : j < told) (hv : VV i = j) (hd : 5 ≤ d)
    (q : ∀ M', Sv cl c K C VV M0 M' (i + 1) ns ng nt R → Q (some (some (J 0))) S (mI M')) :
    X E d fX4_findName 0 [some (.ref (cl + 8)), some (.ref (cl + A)), some (J (told : Int)), none] [] S (mI M) Q := by
  have hT := hs.1
  have g8 : aKd S (cl + 8) = 6 := hT.kd (i := 8) rfl
  have p80 : aP S (cl + 8) 0 = some (cl + 2) := hT.pp (i := 8) (j := 0) (x := 2) rfl rfl
  have g2 : aKd S (cl + 2) = 7 := hT.kd (i := 2) rfl
  have p23 : aP S (cl + 2) 3 = some (cl + 6) := hT.pp (i := 2) (j := 3) (x := 6) rfl rfl
  have k6 : aK S (cl + 6) = 100 := hT.kk (i := 6) rfl
  have n6 : aN S (cl + 6) = 401 := hT.nn (i := 6) rfl
  have hc4 := hs.2.2.1.1
  refine kX4_findName_0 (by omega) (kX4_numberOfName_0 (svNum hs h.2.1 h.1 hA ht hsz hnm hat hi ki ci (by omega) ⟨_, rfl, ?_⟩ told 0 (by omega) (Nat.zero_le _))) g8
  rw [if_pos hj]
  refine kX4_findName_6 ⟨by omega, by omega⟩ (fun _ => ?_) (fun h => absurd h (by omega))
  refine kX4_findName_14 g8 p80 g2 p23 k6 (h.1 _ _) (by rw [hat]; exact ⟨by omega, by omega⟩) ?_
  rw [hat, Int.toNat_natCast]
  exact q _ (h.val hv (by omega))
/-- which names are asked for behind a token -/
abbrev Asks (b : Nat) (lt told ns ng nt : Nat) : Prop := (b = 15 ∨ b = 20 ∨ b = 26) ∧ lt = 115 ∧ told = ns ∨ (b = 4 ∨ b = 13 ∨ b = 22 ∨ b = 23 ∨ b = 25) ∧ lt = 103 ∧ told = ng ∨ (b = 12 ∨ b = 24) ∧ lt = 116 ∧ told = nt
set_option maxHeartbeats 1000000 in
/-- a name that was told -/
theorem svTF {lt told j : Nat} (hs : Sst cl S M0 n f c K P L C) (h : Sv cl c K C VV M0 M i ns ng nt R) (hi : i < c) (hk : K i = 47) (hb : Asks bf lt told ns ng nt) (ci : C i = lt * 256 + 48 + j) (hj : j < told) (hv : VV i = j) (hd : 7 ≤ d)
    (q : ∀ M', Sv cl c K C VV M0 M' (i + 1) ns ng nt R → Nx E d S Q cl o M' 47 (i + 1)) : Nx E d S Q cl o M bf i := by
  have hT := hs.1
  have g8 : aKd S (cl + 8) = 6 := hT.kd (i := 8) rfl
  have p82 : aP S (cl + 8) 2 = some (cl + 34) := hT.pp (i := 8) (j := 2) (x := 34) rfl rfl
  have p83 : aP S (cl + 8) 3 = some (cl + 9) := hT.pp (i := 8) (j := 3) (x := 9) rfl rfl
  have p84 : aP S (cl + 8) 4 = some (cl + 10) := hT.pp (i := 8) (j := 4) (x := 10) rfl rfl
  have p85 : aP S (cl + 8) 5 = some (cl + 11) := hT.pp (i := 8) (j := 5) (x := 11) rfl rfl
  have g34 : aKd S (cl + 34) = 5 := hT.kd (i := 34) rfl
  have d9 : aKd S (cl + 9) = 100 := hT.kd (i := 9) rfl
  have d10 : aKd S (cl + 10) = 100 := hT.kd (i := 10) rfl
  have d11 : aKd S (cl + 11) = 100 := hT.kd (i := 11) rfl
  have n9 : aN S (cl + 9) = 5 := hT.nn (i := 9) rfl
  have n10 : aN S (cl + 10) = 5 := hT.nn (i := 10) rfl
  have n11 : aN S (cl + 11) = 8 := hT.nn (i := 11) rfl
  refine svToN hs h hi hk (by omega) (fun M1 h1 e1 => ?_)
  obtain ⟨⟨a1, a2⟩, ⟨a3, a4⟩, a5, a6⟩ := h1.2.2.2.2.1
  have r0 := h1.r0
  have fin : ∀ M', Sv cl c K C VV M0 M' (i + 1) ns ng nt R → X E d fX4_look 97 [some (.ref (cl + 8)), some (.ref (cl + 34)), some (J (o : Int)), some (J 0), some (J (bf : Int)), some (J (i : Int)), some (J 47)] [J 0] S (mI M') Q := fun M' h' => kX4_look_97 (svCl (k := 47) (q M' h'))
  have gS : (bf = 15 ∨ bf = 20 ∨ bf = 26) → X E (d - 1) fX4_lookAtName 130 [some (.ref (cl + 8)), some (J (bf : Int))] [] S (mI M1) (Kr E d fX4_look 97 [some (.ref (cl + 8)), some (.ref (cl + 34)), some (J (o : Int)), some (J 0), some (J (bf : Int)), some (J (i : Int)), some (J 47)] [] Q) := fun hb' => by
    refine kX4_lookAtName_130 g8 p83 p82 g34 (by omega) ?_
    rw [r0, a1]
    have e0 : lt = 115 := by omega
    rw [e0] at ci
    exact svFn (A := 9) (told := ns) (lt := 115) (j := j) (sz := 5) hs h1 ⟨d9, n9⟩ a2 (by decide) h1.2.2.2.2.2.1 e1 hi hk ci (by omega) hv (by omega) (fun M' h' => ⟨_, rfl, kX4_lookAtName_145 ⟨_, rfl, fin M' h'⟩⟩)
  have gG : (bf = 4 ∨ bf = 13 ∨ bf = 22 ∨ bf = 23 ∨ bf = 25) → X E (d - 1) fX4_lookAtName 146 [some (.ref (cl + 8)), some (J (bf : Int))] [] S (mI M1) (Kr E d fX4_look 97 [some (.ref (cl + 8)), some (.ref (cl + 34)), some (J (o : Int)), some (J 0), some (J (bf : Int)), some (J (i : Int)), some (J 47)] [] Q) := fun hb' => by
    refine kX4_lookAtName_146 g8 p84 p82 g34 (by omega) ?_
    rw [r0, a3]
    have e0 : lt = 103 := by omega
    rw [e0] at ci
    exact svFn (A := 10) (told := ng) (lt := 103) (j := j) (sz := 5) hs h1 ⟨d10, n10⟩ a4 (by decide) h1.2.2.2.2.2.2.1 e1 hi hk ci (by omega) hv (by omega) (fun M' h' => ⟨_, rfl, kX4_lookAtName_161 ⟨_, rfl, fin M' h'⟩⟩)
  have gT : (bf = 12 ∨ bf = 24) → X E (d - 1) fX4_lookAtName 162 [some (.ref (cl + 8)), some (J (bf : Int))] [] S (mI M1) (Kr E d fX4_look 97 [some (.ref (cl + 8)), some (.ref (cl + 34)), some (J (o : Int)), some (J 0), some (J (bf : Int)), some (J (i : Int)), some (J 47)] [] Q) := fun hb' => by
    refine kX4_lookAtName_162 g8 p85 p82 g34 (by omega) ?_
    rw [r0, a5]
    have e0 : lt = 116 := by omega
    rw [e0] at ci
    exact svFn (A := 11) (told := nt) (lt := 116) (j := j) (sz := 8) hs h1 ⟨d11, n11⟩ a6 (by decide) h1.2.2.2.2.2.2.2 e1 hi hk ci (by omega) hv (by omega) (fun M' h' => ⟨_, rfl, kX4_lookAtName_177 ⟨_, rfl, fin M' h'⟩⟩)
  exact kX4_lookAtName_0 ⟨by omega, by omega⟩ (fun hx => gT (by omega)) (fun hx => absurd hx (by omega)) (fun hx => absurd hx (by omega)) (fun hx => gG (by omega)) (fun hx => absurd hx (by omega)) (fun hx => gG (by omega)) (fun hx => gS (by omega)) (fun hx => gS (by omega)) (fun hx => gG (by omega)) (fun hx => gG (by omega)) (fun hx => gG (by omega)) (fun hx => gS (by omega))
end SW
