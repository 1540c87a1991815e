/-! survey: names that are told, numbers -/
section SX
variable {E : Nat → Value} {d : Nat} {S S' : aS} {M M' M0 M1 M00 : Nat → Nat → Int} {Q : Option (Option Value) → aS → aI → Prop} {cl c n : Nat} {f K P L C VV : Nat → Nat} {i ns ng nt : Nat} {R R' : Nat → Nat → Int} {o bf : Nat}
theorem svTell0 (hs : Sst cl S M0 n f c K P L C) (h : Sv cl c K C VV M0 M i ns ng nt R) (hi : i < c) (hk : K i = 47) (ci : C i = 115 * 256 + 48 + ns) (hsz : ns < 5) (hv : M0 (cl + 6) i = (VV i : Int)) (hd : 7 ≤ d)
    (q : ∀ M', Sv cl c K C VV M0 M' (i + 1) (ns + 1) ng nt (mW R 0 0 ((ns + 1 : Nat) : Int)) → Nx E d S Q cl o M' 47 (i + 1)) : Nx E d S Q cl o M 0 i := by
  have hT := hs.1
  have g8 : aKd S (cl + 8) = 6 := hT.kd (i := 8) rfl
  have p82 : aP S (cl + 8) 2 = some (cl + 34) := hT.pp (i := 8) (j := 2) (x := 34) rfl rfl
  have pA : aP S (cl + 8) 3 = some (cl + 9) := hT.pp (i := 8) (j := 3) (x := 9) rfl rfl
  have g34 : aKd S (cl + 34) = 5 := hT.kd (i := 34) rfl
  have k34 : aK S (cl + 34) = 5 := hT.kk (i := 34) rfl
  have dA : aKd S (cl + 9) = 100 := hT.kd (i := 9) rfl
  have kA : aK S (cl + 9) = 100 := hT.kk (i := 9) rfl
  have nA : aN S (cl + 9) = 5 := hT.nn (i := 9) rfl
  have hc4 := hs.2.2.1.1
  refine svToN hs h hi hk (by omega) (fun M1 h1 e1 => ?_)
  obtain ⟨a1, a2⟩ := h1.2.2.2.2.1.1
  have r0 := h1.r0
  refine kX4_lookAtName_0 (by decide) (fun h => absurd h (by decide)) (fun _ => ?_) (fun h => absurd h (by decide)) (fun h => absurd h (by decide)) (fun h => absurd h (by decide)) (fun h => absurd h (by decide)) (fun h => absurd h (by decide)) (fun h => absurd h (by decide)) (fun h => absurd h (by decide)) (fun h => absurd h (by decide)) (fun h => absurd h (by decide)) (fun h => absurd h (by decide))
  refine kX4_lookAtName_124 (by omega) ?_ g8
  refine kX4_tellName_0 (by decide) (fun h => absurd rfl h) (fun _ => kX4_tellName_4 g8 pA (kX4_tellName_27 (by decide) (fun h => absurd rfl h) (fun _ => kX4_tellName_32 g8 p82 g34 ?_)))
  rw [r0, a1]
  refine kX4_tellName_64 (by omega) (kX4_numberOfName_0 (svNum (A := 9) (told := ns) (lt := 115) (j := ns) (sz := 5) hs h1.2.1 h1.1 ⟨dA, nA⟩ (by omega) (by decide) h1.2.2.2.2.2.1 e1 hi hk ci (by omega) ⟨_, rfl, ?_⟩ ns 0 (by omega) (Nat.zero_le _))) g8
  rw [if_neg (Nat.lt_irrefl _)]
  refine kX4_tellName_71 (by decide) (fun _ => ?_) (fun h => absurd rfl h)
  refine kX4_tellName_77 (Or.inl dA) ⟨by omega, by omega⟩ ⟨by omega, by omega⟩ (fun _ => ?_) (fun h => absurd h (by omega))
  refine kX4_tellName_85 g8 kA ⟨by omega, by omega⟩ ⟨by omega, by omega⟩ (by decide) (fun h => absurd rfl h) (fun _ => kX4_tellName_96 g8 p82 g34 k34 ?_)
  rw [Int.toNat_natCast, e1, mW_ne (show cl + 34 ≠ cl + 9 by omega), r0, a1, nz_eq ⟨by omega, by omega⟩]
  refine kX4_tellName_146 ⟨_, rfl, kX4_lookAtName_129 ⟨_, rfl, kX4_look_97 (svCl (k := 47) (q _ ?_))⟩⟩
  obtain ⟨u1, u2, u3, u4, ⟨⟨b1, b2⟩, ⟨b3, b4⟩, b5, b6⟩, u6, u7, u8⟩ := h1.adv hv
  have fr : ∀ x, x ≠ cl + 9 → x ≠ cl + 34 → mW (mW M1 (cl + 9) ns (i : Int)) (cl + 34) 0 ((ns : Int) + 1) x = M1 x := fun x x1 x2 => by rw [mW_ne x2, mW_ne x1]
  refine ⟨(u1.w ⟨by omega, by omega⟩).w ⟨by omega, by omega⟩, fun y hy => (fr y (by omega) (by omega)).trans (u2 y hy), fun j => by rw [fr _ (by omega) (by omega)]; exact u3 j, ?_, ?_, ?_, ?_, ?_⟩
  · rw [show (ns : Int) + 1 = ((ns + 1 : Nat) : Int) by omega, win_W0, win_out (by omega), u4]
  · exact ⟨⟨mW_eq, by omega⟩, ⟨by rw [mW_ne2 (Or.inr (by decide))]; exact b3, b4⟩, ⟨by rw [mW_ne2 (Or.inr (by decide))]; exact b5, b6⟩⟩
  · intro k hk'
    by_cases e : k = ns
    · exact ⟨i, by rw [mW_ne (by omega), e]; exact mW_eq, hi, hk, by rw [e]; exact ci⟩
    · obtain ⟨t, t1, t2⟩ := u6 k (by omega)
      exact ⟨t, by rw [mW_ne (by omega), mW_ne2 (Or.inr e)]; exact t1, t2⟩
  · exact u7.fr (fr _ (by omega) (by omega))
  · exact u8.fr (fr _ (by omega) (by omega))
theorem svTell3 (hs : Sst cl S M0 n f c K P L C) (h : Sv cl c K C VV M0 M i ns ng nt R) (hi : i < c) (hk : K i = 47) (ci : C i = 103 * 256 + 48 + ng) (hsz : ng < 5) (hv : M0 (cl + 6) i = (VV i : Int)) (hd : 7 ≤ d)
    (q : ∀ M', Sv cl c K C VV M0 M' (i + 1) ns (ng + 1) nt (mW R 0 2 ((ng + 1 : Nat) : Int)) → Nx E d S Q cl o M' 47 (i + 1)) : Nx E d S Q cl o M 3 i := by
  have hT := hs.1
  have g8 : aKd S (cl + 8) = 6 := hT.kd (i := 8) rfl
  have p82 : aP S (cl + 8) 2 = some (cl + 34) := hT.pp (i := 8) (j := 2) (x := 34) rfl rfl
  have pA : aP S (cl + 8) 4 = some (cl + 10) := hT.pp (i := 8) (j := 4) (x := 10) rfl rfl
  have g34 : aKd S (cl + 34) = 5 := hT.kd (i := 34) rfl
  have k34 : aK S (cl + 34) = 5 := hT.kk (i := 34) rfl
  have dA : aKd S (cl + 10) = 100 := hT.kd (i := 10) rfl
  have kA : aK S (cl + 10) = 100 := hT.kk (i := 10) rfl
  have nA : aN S (cl + 10) = 5 := hT.nn (i := 10) rfl
  have hc4 := hs.2.2.1.1
  refine svToN hs h hi hk (by omega) (fun M1 h1 e1 => ?_)
  obtain ⟨a1, a2⟩ := h1.2.2.2.2.1.2.1
  have r0 := h1.r0
  refine kX4_lookAtName_0 (by decide) (fun h => absurd h (by decide)) (fun h => absurd h (by decide)) (fun _ => ?_) (fun h => absurd h (by decide)) (fun h => absurd h (by decide)) (fun h => absurd h (by decide)) (fun h => absurd h (by decide)) (fun h => absurd h (by decide)) (fun h => absurd h (by decide)) (fun h => absurd h (by decide)) (fun h => absurd h (by decide)) (fun h => absurd h (by decide))
  refine kX4_lookAtName_124 (by omega) ?_ g8
  refine kX4_tellName_0 (by decide) (fun _ => kX4_tellName_11 (by decide) (fun h => absurd rfl h) (fun _ => kX4_tellName_16 g8 pA (kX4_tellName_27 (by decide) (fun _ => kX4_tellName_42 (by decide) (fun h => absurd rfl h) (fun _ => kX4_tellName_47 g8 p82 g34 ?_)) (fun h => absurd h (by decide))))) (fun h => absurd h (by decide))
  rw [r0, a1]
  refine kX4_tellName_64 (by omega) (kX4_numberOfName_0 (svNum (A := 10) (told := ng) (lt := 103) (j := ng) (sz := 5) hs h1.2.1 h1.1 ⟨dA, nA⟩ (by omega) (by decide) h1.2.2.2.2.2.2.1 e1 hi hk ci (by omega) ⟨_, rfl, ?_⟩ ng 0 (by omega) (Nat.zero_le _))) g8
  rw [if_neg (Nat.lt_irrefl _)]
  refine kX4_tellName_71 (by decide) (fun _ => ?_) (fun h => absurd rfl h)
  refine kX4_tellName_77 (Or.inl dA) ⟨by omega, by omega⟩ ⟨by omega, by omega⟩ (fun _ => ?_) (fun h => absurd h (by omega))
  refine kX4_tellName_85 g8 kA ⟨by omega, by omega⟩ ⟨by omega, by omega⟩ (by decide) (fun _ => kX4_tellName_112 (by decide) (fun h => absurd rfl h) (fun _ => kX4_tellName_117 g8 p82 g34 k34 ?_)) (fun h => absurd h (by decide))
  rw [Int.toNat_natCast, e1, mW_ne (show cl + 34 ≠ cl + 10 by omega), r0, a1, nz_eq ⟨by omega, by omega⟩]
  refine kX4_tellName_146 ⟨_, rfl, kX4_lookAtName_129 ⟨_, rfl, kX4_look_97 (svCl (k := 47) (q _ ?_))⟩⟩
  obtain ⟨u1, u2, u3, u4, ⟨⟨b1, b2⟩, ⟨b3, b4⟩, b5, b6⟩, u6, u7, u8⟩ := h1.adv hv
  have fr : ∀ x, x ≠ cl + 10 → x ≠ cl + 34 → mW (mW M1 (cl + 10) ng (i : Int)) (cl + 34) 2 ((ng : Int) + 1) x = M1 x := fun x x1 x2 => by rw [mW_ne x2, mW_ne x1]
  refine ⟨(u1.w ⟨by omega, by omega⟩).w ⟨by omega, by omega⟩, fun y hy => (fr y (by omega) (by omega)).trans (u2 y hy), fun j => by rw [fr _ (by omega) (by omega)]; exact u3 j, ?_, ?_, ?_, ?_, ?_⟩
  · rw [show (ng : Int) + 1 = ((ng + 1 : Nat) : Int) by omega, win_W0, win_out (by omega), u4]
  · exact ⟨⟨by rw [mW_ne2 (Or.inr (by decide))]; exact b1, b2⟩, ⟨mW_eq, by omega⟩, ⟨by rw [mW_ne2 (Or.inr (by decide))]; exact b5, b6⟩⟩
  · exact u6.fr (fr _ (by omega) (by omega))
  · intro k hk'
    by_cases e : k = ng
    · exact ⟨i, by rw [mW_ne (by omega), e]; exact mW_eq, hi, hk, by rw [e]; exact ci⟩
    · obtain ⟨t, t1, t2⟩ := u7 k (by omega)
      exact ⟨t, by rw [mW_ne (by omega), mW_ne2 (Or.inr e)]; exact t1, t2⟩
  · exact u8.fr (fr _ (by omega) (by omega))
theorem svTell6 (hs : Sst cl S M0 n f c K P L C) (h : Sv cl c K C VV M0 M i ns ng nt R) (hi : i < c) (hk : K i = 47) (ci : C i = 116 * 256 + 48 + nt) (hsz : nt < 8) (hv : M0 (cl + 6) i = (VV i : Int)) (hd : 7 ≤ d)
    (q : ∀ M', Sv cl c K C VV M0 M' (i + 1) ns ng (nt + 1) (mW R 0 3 ((nt + 1 : Nat) : Int)) → Nx E d S Q cl o M' 47 (i + 1)) : Nx E d S Q cl o M 6 i := by
  have hT := hs.1
  have g8 : aKd S (cl + 8) = 6 := hT.kd (i := 8) rfl
  have p82 : aP S (cl + 8) 2 = some (cl + 34) := hT.pp (i := 8) (j := 2) (x := 34) rfl rfl
  have pA : aP S (cl + 8) 5 = some (cl + 11) := hT.pp (i := 8) (j := 5) (x := 11) rfl rfl
  have g34 : aKd S (cl + 34) = 5 := hT.kd (i := 34) rfl
  have k34 : aK S (cl + 34) = 5 := hT.kk (i := 34) rfl
  have dA : aKd S (cl + 11) = 100 := hT.kd (i := 11) rfl
  have kA : aK S (cl + 11) = 100 := hT.kk (i := 11) rfl
  have nA : aN S (cl + 11) = 8 := hT.nn (i := 11) rfl
  have hc4 := hs.2.2.1.1
  refine svToN hs h hi hk (by omega) (fun M1 h1 e1 => ?_)
  obtain ⟨a1, a2⟩ := h1.2.2.2.2.1.2.2
  have r0 := h1.r0
  refine kX4_lookAtName_0 (by decide) (fun h => absurd h (by decide)) (fun h => absurd h (by decide)) (fun h => absurd h (by decide)) (fun h => absurd h (by decide)) (fun _ => ?_) (fun h => absurd h (by decide)) (fun h => absurd h (by decide)) (fun h => absurd h (by decide)) (fun h => absurd h (by decide)) (fun h => absurd h (by decide)) (fun h => absurd h (by decide)) (fun h => absurd h (by decide))
  refine kX4_lookAtName_124 (by omega) ?_ g8
  refine kX4_tellName_0 (by decide) (fun _ => kX4_tellName_11 (by decide) (fun _ => kX4_tellName_23 g8 pA (kX4_tellName_27 (by decide) (fun _ => kX4_tellName_42 (by decide) (fun _ => kX4_tellName_57 g8 p82 g34 ?_) (fun h => absurd h (by decide))) (fun h => absurd h (by decide)))) (fun h => absurd h (by decide))) (fun h => absurd h (by decide))
  rw [r0, a1]
  refine kX4_tellName_64 (by omega) (kX4_numberOfName_0 (svNum (A := 11) (told := nt) (lt := 116) (j := nt) (sz := 8) hs h1.2.1 h1.1 ⟨dA, nA⟩ (by omega) (by decide) h1.2.2.2.2.2.2.2 e1 hi hk ci (by omega) ⟨_, rfl, ?_⟩ nt 0 (by omega) (Nat.zero_le _))) g8
  rw [if_neg (Nat.lt_irrefl _)]
  refine kX4_tellName_71 (by decide) (fun _ => ?_) (fun h => absurd rfl h)
  refine kX4_tellName_77 (Or.inl dA) ⟨by omega, by omega⟩ ⟨by omega, by omega⟩ (fun _ => ?_) (fun h => absurd h (by omega))
  refine kX4_tellName_85 g8 kA ⟨by omega, by omega⟩ ⟨by omega, by omega⟩ (by decide) (fun _ => kX4_tellName_112 (by decide) (fun _ => kX4_tellName_133 g8 p82 g34 k34 ?_) (fun h => absurd h (by decide))) (fun h => absurd h (by decide))
  rw [Int.toNat_natCast, e1, mW_ne (show cl + 34 ≠ cl + 11 by omega), r0, a1, nz_eq ⟨by omega, by omega⟩]
  refine kX4_tellName_146 ⟨_, rfl, kX4_lookAtName_129 ⟨_, rfl, kX4_look_97 (svCl (k := 47) (q _ ?_))⟩⟩
  obtain ⟨u1, u2, u3, u4, ⟨⟨b1, b2⟩, ⟨b3, b4⟩, b5, b6⟩, u6, u7, u8⟩ := h1.adv hv
  have fr : ∀ x, x ≠ cl + 11 → x ≠ cl + 34 → mW (mW M1 (cl + 11) nt (i : Int)) (cl + 34) 3 ((nt : Int) + 1) x = M1 x := fun x x1 x2 => by rw [mW_ne x2, mW_ne x1]
  refine ⟨(u1.w ⟨by omega, by omega⟩).w ⟨by omega, by omega⟩, fun y hy => (fr y (by omega) (by omega)).trans (u2 y hy), fun j => by rw [fr _ (by omega) (by omega)]; exact u3 j, ?_, ?_, ?_, ?_, ?_⟩
  · rw [show (nt : Int) + 1 = ((nt + 1 : Nat) : Int) by omega, win_W0, win_out (by omega), u4]
  · exact ⟨⟨by rw [mW_ne2 (Or.inr (by decide))]; exact b1, b2⟩, ⟨by rw [mW_ne2 (Or.inr (by decide))]; exact b3, b4⟩, ⟨mW_eq, by omega⟩⟩
  · exact u6.fr (fr _ (by omega) (by omega))
  · exact u7.fr (fr _ (by omega) (by omega))
  · intro k hk'
    by_cases e : k = nt
    · exact ⟨i, by rw [mW_ne (by omega), e]; exact mW_eq, hi, hk, by rw [e]; exact ci⟩
    · obtain ⟨t, t1, t2⟩ := u8 k (by omega)
      exact ⟨t, by rw [mW_ne (by omega), mW_ne2 (Or.inr e)]; exact t1, t2⟩
/-- the ranges of numbers: a keyword, the least, the greatest -/
def rgs : List (Nat × Nat × Nat) := [(1, 1, 9), (2, 0, 9), (4, 0, 44), (5, 0, 60), (7, 1, 60), (8, 1, 16), (9, 0, 44), (10, 0, 44), (11, 1, 30), (14, 0, 999)]
def Rgs (E : Nat → Value) (S : aS) (M : Nat → Nat → Int) (cl : Nat) : Prop := ∃ b : Nat, E 13 = .ref b ∧ b < cl ∧ aKd S b = 100 ∧ aN S b = 30 ∧ ∀ (j : Nat) (t : Nat × Nat × Nat), rgs[j]? = some t → M b (3 * j) = (t.1 : Int) ∧ M b (3 * j + 1) = (t.2.1 : Int) ∧ M b (3 * j + 2) = (t.2.2 : Int)
def rgOk (b v : Nat) : Prop := ∀ t : Nat × Nat × Nat, t ∈ rgs → t.1 = b → t.2.1 ≤ v ∧ v ≤ t.2.2
theorem svRng {v : Nat} (hR : Rgs E S M0 cl) (hf : Sfr cl M0 M) (hok : rgOk bf v) (hv : v ≤ 1000000) (hb : bf ≤ 50) (q : X E d fX4_lookAtNumber 64 [some (.ref (cl + 8)), some (J (bf : Int)), some (J (v : Int)), some (J 30)] [] S (mI M) Q) :
    ∀ (m j : Nat), j + m = 10 → X E d fX4_lookAtNumber 15 [some (.ref (cl + 8)), some (J (bf : Int)), some (J (v : Int)), some (J ((3 * j : Nat) : Int))] [] S (mI M) Q := by
  obtain ⟨b, e13, hb2, hk, hn, hr⟩ := hR
  intro m
  induction m with
  | zero =>
    intro j hj
    obtain rfl : j = 10 := by omega
    exact kX4_lookAtNumber_15 e13 (Or.inl hk) (by decide) ⟨by omega, by omega⟩ (fun _ => q) (fun h => absurd h (by omega))
  | succ m ih =>
    intro j hj
    have hj' : j < rgs.length := by show j < 10; omega
    have et := List.getElem?_eq_getElem hj'
    obtain ⟨t, ht⟩ : ∃ t, rgs[j] = t := ⟨_, rfl⟩
    rw [ht] at et
    obtain ⟨r1, r2, r3⟩ := hr j t et
    have hmem : t ∈ rgs := List.mem_of_getElem? et
    have hbd : ∀ t : Nat × Nat × Nat, t ∈ rgs → t.1 ≤ 50 ∧ t.2.1 ≤ 50 ∧ t.2.2 ≤ 1000 := by decide
    have hb3 := hbd t hmem
    have eb : M b = M0 b := hf b (by omega)
    have next : X E d fX4_lookAtNumber 58 [some (.ref (cl + 8)), some (J (bf : Int)), some (J (v : Int)), some (J ((3 * j : Nat) : Int))] [] S (mI M) Q := by
      refine kX4_lookAtNumber_58 ?_
      rw [show ((3 * j : Nat) : Int) + 3 = ((3 * (j + 1) : Nat) : Int) by omega]
      exact ih (j + 1) (by omega)
    have w0 : M b ((3 * j : Nat) : Int).toNat = (t.1 : Int) := by rw [Int.toNat_natCast, eb]; exact r1
    have w1 : M b (((3 * j : Nat) : Int) + 1).toNat = (t.2.1 : Int) := by rw [show (((3 * j : Nat) : Int) + 1).toNat = 3 * j + 1 by omega, eb]; exact r2
    have w2 : M b (((3 * j : Nat) : Int) + 2).toNat = (t.2.2 : Int) := by rw [show (((3 * j : Nat) : Int) + 2).toNat = 3 * j + 2 by omega, eb]; exact r3
    refine kX4_lookAtNumber_15 e13 (Or.inl hk) ⟨by omega, by omega⟩ ⟨by omega, by omega⟩ (fun h => absurd h (by omega)) (fun _ => ?_)
    refine kX4_lookAtNumber_25 e13 hk ⟨by omega, by omega⟩ ⟨by omega, by omega⟩ (by rw [w0]; exact ⟨by omega, by omega⟩) ⟨by omega, by omega⟩ (fun _ => next) (fun he => ?_)
    rw [w0] at he
    have ok := hok t hmem (by omega)
    refine kX4_lookAtNumber_34 e13 hk ⟨by omega, by omega⟩ ⟨by omega, by omega⟩ ⟨by omega, by omega⟩ (by rw [w1]; exact ⟨by omega, by omega⟩) (fun h => absurd h (by rw [w1]; omega)) (fun _ => ?_)
    exact kX4_lookAtNumber_45 e13 hk ⟨by omega, by omega⟩ ⟨by omega, by omega⟩ ⟨by omega, by omega⟩ (by rw [w2]; exact ⟨by omega, by omega⟩) (fun _ => next) (fun h => absurd h (by rw [w2]; omega))
/-- what a number does to the draft's road -/
abbrev SetD (E : Nat → Value) (S : aS) (cl c : Nat) (K C VV : Nat → Nat) (M0 : Nat → Nat → Int) (bf v i ns ng nt : Nat) (R R' : Nat → Nat → Int) : Prop := ∀ (d : Nat) (Q : Option (Option Value) → aS → aI → Prop) (M : Nat → Nat → Int), 3 ≤ d → Sv cl c K C VV M0 M i ns ng nt R → (∀ M', Sv cl c K C VV M0 M' i ns ng nt R' → Q (some none) S (mI M')) → X E d fX4_setDown 0 [some (.ref (cl + 8)), some (J (bf : Int)), some (J (v : Int)), none, none, none] [] S (mI M) Q
theorem svTD {v : Nat} (hs : Sst cl S M0 n f c K P L C) (hR : Rgs E S M0 cl) (h : Sv cl c K C VV M0 M i ns ng nt R) (hi : i < c) (hk : K i = 48) (hv : M0 (cl + 6) i = (v : Int)) (hVV : VV i = v) (hvb : v ≤ 1000000) (hb : bf ≤ 50) (hok : rgOk bf v) (hml : bf = 4 ∨ bf = 9 ∨ bf = 10 → (v : Int) < R 0 1) (hset : SetD E S cl c K C VV M0 bf v i ns ng nt R R') (hd : 6 ≤ d)
    (q : ∀ M', Sv cl c K C VV M0 M' (i + 1) ns ng nt R' → Nx E d S Q cl o M' 48 (i + 1)) : Nx E d S Q cl o M bf i := by
  have hT := hs.1
  have g8 : aKd S (cl + 8) = 6 := hT.kd (i := 8) rfl
  have p80 : aP S (cl + 8) 0 = some (cl + 2) := hT.pp (i := 8) (j := 0) (x := 2) rfl rfl
  have p82 : aP S (cl + 8) 2 = some (cl + 34) := hT.pp (i := 8) (j := 2) (x := 34) rfl rfl
  have g34 : aKd S (cl + 34) = 5 := hT.kd (i := 34) rfl
  have g2 : aKd S (cl + 2) = 7 := hT.kd (i := 2) rfl
  have p23 : aP S (cl + 2) 3 = some (cl + 6) := hT.pp (i := 2) (j := 3) (x := 6) rfl rfl
  have d6 : aKd S (cl + 6) = 100 := hT.kd (i := 6) rfl
  have n6 : aN S (cl + 6) = 401 := hT.nn (i := 6) rfl
  have hc4 := hs.2.2.1.1
  refine svToD hs h hi hk (by omega) (fun M1 h1 e1 => ?_)
  have e6 : M1 (cl + 6) i = (v : Int) := by rw [h1.2.2.1 i, if_neg (Nat.lt_irrefl _)]; exact hv
  have r0 := h1.r0
  refine kX4_lookAtNumber_0 g8 p80 g2 p23 d6 (h1.1 _ _) (by rw [e1]; exact ⟨by omega, by omega⟩) ?_
  rw [e1, Int.toNat_natCast, e6]
  refine svRng hR h1.2.1 hok hvb hb ?_ 10 0 (by omega)
  have fin : ∀ o3, X E (d - 1) fX4_lookAtNumber 104 [some (.ref (cl + 8)), some (J (bf : Int)), some (J (v : Int)), o3] [] S (mI M1) (Kr E d fX4_look 114 [some (.ref (cl + 8)), some (.ref (cl + 34)), some (J (o : Int)), some (J 0), some (J (bf : Int)), some (J (i : Int)), some (J 48)] [] Q) := fun o3 => by
    refine kX4_lookAtNumber_104 (by omega) (hset (d - 1 - 1) _ M1 (by omega) h1 (fun M2 h2 => ⟨_, rfl, kX4_lookAtNumber_110 ⟨_, rfl, kX4_look_114 (svCl (k := 48) (q M2 (h2.adv (by rw [hv, hVV]))))⟩⟩)) g8
  have yes : bf = 4 ∨ bf = 9 ∨ bf = 10 → X E (d - 1) fX4_lookAtNumber 81 [some (.ref (cl + 8)), some (J (bf : Int)), some (J (v : Int)), some (J 30)] [] S (mI M1) (Kr E d fX4_look 114 [some (.ref (cl + 8)), some (.ref (cl + 34)), some (J (o : Int)), some (J 0), some (J (bf : Int)), some (J (i : Int)), some (J 48)] [] Q) := fun hb' => by
    refine kX4_lookAtNumber_81 (kX4_lookAtNumber_86 (by decide) (fun h => absurd h (by decide)) (fun _ => ?_))
    refine kX4_lookAtNumber_91 g8 p82 g34 ⟨by omega, by omega⟩ (h1.1 _ _) (fun _ => fin _) (fun h => absurd h ?_)
    have := hml hb'
    rw [r0]
    omega
  refine kX4_lookAtNumber_64 ⟨by omega, by omega⟩ (fun h => yes (by omega)) (fun h4 => ?_)
  refine kX4_lookAtNumber_69 ⟨by omega, by omega⟩ (fun h => yes (by omega)) (fun h9 => ?_)
  exact kX4_lookAtNumber_75 ⟨by omega, by omega⟩ (fun _ => kX4_lookAtNumber_85 (kX4_lookAtNumber_86 (by decide) (fun _ => fin _) (fun h => absurd rfl h))) (fun h => yes (by omega))
theorem setD0 (hs : Sst cl S M0 n f c K P L C) {v : Nat} (hb : bf ≤ 50) (hn : bf ≠ 1 ∧ bf ≠ 2 ∧ bf ≠ 4 ∧ bf ≠ 5 ∧ bf ≠ 7 ∧ bf ≠ 8 ∧ bf ≠ 9 ∧ bf ≠ 10 ∧ bf ≠ 11) : SetD E S cl c K C VV M0 bf v i ns ng nt R R := fun d Q M hd h q => by
  have hT := hs.1
  have g8 : aKd S (cl + 8) = 6 := hT.kd (i := 8) rfl
  have p82 : aP S (cl + 8) 2 = some (cl + 34) := hT.pp (i := 8) (j := 2) (x := 34) rfl rfl
  have g34 : aKd S (cl + 34) = 5 := hT.kd (i := 34) rfl
  refine kX4_setDown_0 g8 p82 g34 ⟨by omega, by omega⟩ (fun _ => kX4_setDown_235 (q M h)) (fun h => ?_) (fun h => ?_) (fun h => ?_) (fun h => ?_) (fun h => ?_) (fun h => ?_) (fun h => ?_) (fun h => ?_) (fun h => ?_)
  all_goals exact absurd h (by omega)
theorem svPut {A sz j v : Nat} {x : Int} (hd1 : aKd S (cl + A) = 100) (hk : aK S (cl + A) = 100) (hn : aN S (cl + A) = sz) (hj : j < sz) (hsz : sz ≤ 100) (hx : x = (j : Int)) (hd : 1 ≤ d) (q : Q (some none) S (mI (mW M (cl + A) j (v : Int)))) :
    X E d fX4_put 0 [some (.ref (cl + A)), some (J x), some (J (v : Int))] [] S (mI M) Q := by
  subst hx
  refine kX4_put_0 (Or.inl hd1) hd (mX7_isOutside ⟨by omega, by omega⟩ ⟨by omega, by omega⟩ ⟨_, rfl, ?_⟩)
  rw [if_neg (by omega)]
  refine kX4_put_6 (by decide) (fun h => absurd rfl h) (fun _ => kX4_put_9 hk ⟨by omega, by omega⟩ ⟨by omega, by omega⟩ (kX4_put_13 ?_))
  rw [Int.toNat_natCast]
  exact q
theorem setD2 (hs : Sst cl S M0 n f c K P L C) {v j : Nat} (hv : v ≤ 1000000) (hj : j + 1 = ns) : SetD E S cl c K C VV M0 2 v i ns ng nt R (mW R 3 j (v : Int)) := fun d Q M hd h q => by
  have hT := hs.1
  have g8 : aKd S (cl + 8) = 6 := hT.kd (i := 8) rfl
  have p82 : aP S (cl + 8) 2 = some (cl + 34) := hT.pp (i := 8) (j := 2) (x := 34) rfl rfl
  have g34 : aKd S (cl + 34) = 5 := hT.kd (i := 34) rfl
  have pA : aP S (cl + 34) 6 = some (cl + 37) := hT.pp (i := 34) (j := 6) (x := 37) rfl rfl
  obtain ⟨a1, a2⟩ := h.2.2.2.2.1.1
  have r0 := h.r0
  refine kX4_setDown_0 g8 p82 g34 (by decide) (fun h => absurd h (by decide)) (fun h => absurd h (by decide)) (fun _ => ?_) (fun h => absurd h (by decide)) (fun h => absurd h (by decide)) (fun h => absurd h (by decide)) (fun h => absurd h (by decide)) (fun h => absurd h (by decide)) (fun h => absurd h (by decide)) (fun h => absurd h (by decide))
  refine kX4_setDown_108 g8 p82 g34 pA (by omega) (svPut (A := 37) (j := j) (hT.kd (i := 37) rfl) (hT.kk (i := 37) rfl) (hT.nn (i := 37) rfl) (by omega) (by decide) (by rw [r0, a1]; omega) (by omega) ⟨_, rfl, kX4_setDown_120 (kX4_setDown_235 (q _ ?_))⟩)
  exact Sv.wr (k := 3) (j := j) (x := (v : Int)) h (by decide) ⟨by omega, by omega⟩ (fun h => absurd h (by decide))
theorem setD4 (hs : Sst cl S M0 n f c K P L C) {v j : Nat} (hv : v ≤ 1000000) (hj : j + 1 = ng) : SetD E S cl c K C VV M0 4 v i ns ng nt R (mW R 5 j (v : Int)) := fun d Q M hd h q => by
  have hT := hs.1
  have g8 : aKd S (cl + 8) = 6 := hT.kd (i := 8) rfl
  have p82 : aP S (cl + 8) 2 = some (cl + 34) := hT.pp (i := 8) (j := 2) (x := 34) rfl rfl
  have g34 : aKd S (cl + 34) = 5 := hT.kd (i := 34) rfl
  have pA : aP S (cl + 34) 8 = some (cl + 39) := hT.pp (i := 34) (j := 8) (x := 39) rfl rfl
  obtain ⟨a1, a2⟩ := h.2.2.2.2.1.2.1
  have r0 := h.r0
  refine kX4_setDown_0 g8 p82 g34 (by decide) (fun h => absurd h (by decide)) (fun h => absurd h (by decide)) (fun h => absurd h (by decide)) (fun _ => ?_) (fun h => absurd h (by decide)) (fun h => absurd h (by decide)) (fun h => absurd h (by decide)) (fun h => absurd h (by decide)) (fun h => absurd h (by decide)) (fun h => absurd h (by decide))
  refine kX4_setDown_123 g8 p82 g34 pA (by omega) (svPut (A := 39) (j := j) (hT.kd (i := 39) rfl) (hT.kk (i := 39) rfl) (hT.nn (i := 39) rfl) (by omega) (by decide) (by rw [r0, a1]; omega) (by omega) ⟨_, rfl, kX4_setDown_136 (kX4_setDown_235 (q _ ?_))⟩)
  exact Sv.wr (k := 5) (j := j) (x := (v : Int)) h (by decide) ⟨by omega, by omega⟩ (fun h => absurd h (by decide))
theorem setD5 (hs : Sst cl S M0 n f c K P L C) {v j : Nat} (hv : v ≤ 1000000) (hj : j + 1 = ng) : SetD E S cl c K C VV M0 5 v i ns ng nt R (mW R 6 j (v : Int)) := fun d Q M hd h q => by
  have hT := hs.1
  have g8 : aKd S (cl + 8) = 6 := hT.kd (i := 8) rfl
  have p82 : aP S (cl + 8) 2 = some (cl + 34) := hT.pp (i := 8) (j := 2) (x := 34) rfl rfl
  have g34 : aKd S (cl + 34) = 5 := hT.kd (i := 34) rfl
  have pA : aP S (cl + 34) 9 = some (cl + 40) := hT.pp (i := 34) (j := 9) (x := 40) rfl rfl
  obtain ⟨a1, a2⟩ := h.2.2.2.2.1.2.1
  have r0 := h.r0
  refine kX4_setDown_0 g8 p82 g34 (by decide) (fun h => absurd h (by decide)) (fun h => absurd h (by decide)) (fun h => absurd h (by decide)) (fun h => absurd h (by decide)) (fun _ => ?_) (fun h => absurd h (by decide)) (fun h => absurd h (by decide)) (fun h => absurd h (by decide)) (fun h => absurd h (by decide)) (fun h => absurd h (by decide))
  refine kX4_setDown_139 g8 p82 g34 pA (by omega) (svPut (A := 40) (j := j) (hT.kd (i := 40) rfl) (hT.kk (i := 40) rfl) (hT.nn (i := 40) rfl) (by omega) (by decide) (by rw [r0, a1]; omega) (by omega) ⟨_, rfl, kX4_setDown_152 (kX4_setDown_235 (q _ ?_))⟩)
  exact Sv.wr (k := 6) (j := j) (x := (v : Int)) h (by decide) ⟨by omega, by omega⟩ (fun h => absurd h (by decide))
theorem setD7 (hs : Sst cl S M0 n f c K P L C) {v j : Nat} (hv : v ≤ 1000000) (hj : j + 1 = nt) : SetD E S cl c K C VV M0 7 v i ns ng nt R (mW R 7 j (v : Int)) := fun d Q M hd h q => by
  have hT := hs.1
  have g8 : aKd S (cl + 8) = 6 := hT.kd (i := 8) rfl
  have p82 : aP S (cl + 8) 2 = some (cl + 34) := hT.pp (i := 8) (j := 2) (x := 34) rfl rfl
  have g34 : aKd S (cl + 34) = 5 := hT.kd (i := 34) rfl
  have pA : aP S (cl + 34) 10 = some (cl + 41) := hT.pp (i := 34) (j := 10) (x := 41) rfl rfl
  obtain ⟨a1, a2⟩ := h.2.2.2.2.1.2.2
  have r0 := h.r0
  refine kX4_setDown_0 g8 p82 g34 (by decide) (fun h => absurd h (by decide)) (fun h => absurd h (by decide)) (fun h => absurd h (by decide)) (fun h => absurd h (by decide)) (fun h => absurd h (by decide)) (fun _ => ?_) (fun h => absurd h (by decide)) (fun h => absurd h (by decide)) (fun h => absurd h (by decide)) (fun h => absurd h (by decide))
  refine kX4_setDown_155 g8 p82 g34 pA (by omega) (svPut (A := 41) (j := j) (hT.kd (i := 41) rfl) (hT.kk (i := 41) rfl) (hT.nn (i := 41) rfl) (by omega) (by decide) (by rw [r0, a1]; omega) (by omega) ⟨_, rfl, kX4_setDown_168 (kX4_setDown_235 (q _ ?_))⟩)
  exact Sv.wr (k := 7) (j := j) (x := (v : Int)) h (by decide) ⟨by omega, by omega⟩ (fun h => absurd h (by decide))
theorem setD8 (hs : Sst cl S M0 n f c K P L C) {v j : Nat} (hv : v ≤ 1000000) (hj : j + 1 = nt) : SetD E S cl c K C VV M0 8 v i ns ng nt R (mW R 8 j (v : Int)) := fun d Q M hd h q => by
  have hT := hs.1
  have g8 : aKd S (cl + 8) = 6 := hT.kd (i := 8) rfl
  have p82 : aP S (cl + 8) 2 = some (cl + 34) := hT.pp (i := 8) (j := 2) (x := 34) rfl rfl
  have g34 : aKd S (cl + 34) = 5 := hT.kd (i := 34) rfl
  have pA : aP S (cl + 34) 11 = some (cl + 42) := hT.pp (i := 34) (j := 11) (x := 42) rfl rfl
  obtain ⟨a1, a2⟩ := h.2.2.2.2.1.2.2
  have r0 := h.r0
  refine kX4_setDown_0 g8 p82 g34 (by decide) (fun h => absurd h (by decide)) (fun h => absurd h (by decide)) (fun h => absurd h (by decide)) (fun h => absurd h (by decide)) (fun h => absurd h (by decide)) (fun h => absurd h (by decide)) (fun _ => ?_) (fun h => absurd h (by decide)) (fun h => absurd h (by decide)) (fun h => absurd h (by decide))
  refine kX4_setDown_171 g8 p82 g34 pA (by omega) (svPut (A := 42) (j := j) (hT.kd (i := 42) rfl) (hT.kk (i := 42) rfl) (hT.nn (i := 42) rfl) (by omega) (by decide) (by rw [r0, a1]; omega) (by omega) ⟨_, rfl, kX4_setDown_184 (kX4_setDown_235 (q _ ?_))⟩)
  exact Sv.wr (k := 8) (j := j) (x := (v : Int)) h (by decide) ⟨by omega, by omega⟩ (fun h => absurd h (by decide))
theorem setD9 (hs : Sst cl S M0 n f c K P L C) {v j : Nat} (hv : v ≤ 1000000) (hj : j + 1 = nt) : SetD E S cl c K C VV M0 9 v i ns ng nt R (mW R 9 j (v : Int)) := fun d Q M hd h q => by
  have hT := hs.1
  have g8 : aKd S (cl + 8) = 6 := hT.kd (i := 8) rfl
  have p82 : aP S (cl + 8) 2 = some (cl + 34) := hT.pp (i := 8) (j := 2) (x := 34) rfl rfl
  have g34 : aKd S (cl + 34) = 5 := hT.kd (i := 34) rfl
  have pA : aP S (cl + 34) 12 = some (cl + 43) := hT.pp (i := 34) (j := 12) (x := 43) rfl rfl
  obtain ⟨a1, a2⟩ := h.2.2.2.2.1.2.2
  have r0 := h.r0
  refine kX4_setDown_0 g8 p82 g34 (by decide) (fun h => absurd h (by decide)) (fun h => absurd h (by decide)) (fun h => absurd h (by decide)) (fun h => absurd h (by decide)) (fun h => absurd h (by decide)) (fun h => absurd h (by decide)) (fun h => absurd h (by decide)) (fun _ => ?_) (fun h => absurd h (by decide)) (fun h => absurd h (by decide))
  refine kX4_setDown_187 g8 p82 g34 pA (by omega) (svPut (A := 43) (j := j) (hT.kd (i := 43) rfl) (hT.kk (i := 43) rfl) (hT.nn (i := 43) rfl) (by omega) (by decide) (by rw [r0, a1]; omega) (by omega) ⟨_, rfl, kX4_setDown_200 (kX4_setDown_235 (q _ ?_))⟩)
  exact Sv.wr (k := 9) (j := j) (x := (v : Int)) h (by decide) ⟨by omega, by omega⟩ (fun h => absurd h (by decide))
theorem setD10 (hs : Sst cl S M0 n f c K P L C) {v j : Nat} (hv : v ≤ 1000000) (hj : j + 1 = nt) : SetD E S cl c K C VV M0 10 v i ns ng nt R (mW R 10 j (v : Int)) := fun d Q M hd h q => by
  have hT := hs.1
  have g8 : aKd S (cl + 8) = 6 := hT.kd (i := 8) rfl
  have p82 : aP S (cl + 8) 2 = some (cl + 34) := hT.pp (i := 8) (j := 2) (x := 34) rfl rfl
  have g34 : aKd S (cl + 34) = 5 := hT.kd (i := 34) rfl
  have pA : aP S (cl + 34) 13 = some (cl + 44) := hT.pp (i := 34) (j := 13) (x := 44) rfl rfl
  obtain ⟨a1, a2⟩ := h.2.2.2.2.1.2.2
  have r0 := h.r0
  refine kX4_setDown_0 g8 p82 g34 (by decide) (fun h => absurd h (by decide)) (fun h => absurd h (by decide)) (fun h => absurd h (by decide)) (fun h => absurd h (by decide)) (fun h => absurd h (by decide)) (fun h => absurd h (by decide)) (fun h => absurd h (by decide)) (fun h => absurd h (by decide)) (fun _ => ?_) (fun h => absurd h (by decide))
  refine kX4_setDown_203 g8 p82 g34 pA (by omega) (svPut (A := 44) (j := j) (hT.kd (i := 44) rfl) (hT.kk (i := 44) rfl) (hT.nn (i := 44) rfl) (by omega) (by decide) (by rw [r0, a1]; omega) (by omega) ⟨_, rfl, kX4_setDown_216 (kX4_setDown_235 (q _ ?_))⟩)
  exact Sv.wr (k := 10) (j := j) (x := (v : Int)) h (by decide) ⟨by omega, by omega⟩ (fun h => absurd h (by decide))
theorem setD11 (hs : Sst cl S M0 n f c K P L C) {v j : Nat} (hv : v ≤ 1000000) (hj : j + 1 = nt) : SetD E S cl c K C VV M0 11 v i ns ng nt R (mW R 11 j (v : Int)) := fun d Q M hd h q => by
  have hT := hs.1
  have g8 : aKd S (cl + 8) = 6 := hT.kd (i := 8) rfl
  have p82 : aP S (cl + 8) 2 = some (cl + 34) := hT.pp (i := 8) (j := 2) (x := 34) rfl rfl
  have g34 : aKd S (cl + 34) = 5 := hT.kd (i := 34) rfl
  have pA : aP S (cl + 34) 14 = some (cl + 45) := hT.pp (i := 34) (j := 14) (x := 45) rfl rfl
  obtain ⟨a1, a2⟩ := h.2.2.2.2.1.2.2
  have r0 := h.r0
  refine kX4_setDown_0 g8 p82 g34 (by decide) (fun h => absurd h (by decide)) (fun h => absurd h (by decide)) (fun h => absurd h (by decide)) (fun h => absurd h (by decide)) (fun h => absurd h (by decide)) (fun h => absurd h (by decide)) (fun h => absurd h (by decide)) (fun h => absurd h (by decide)) (fun h => absurd h (by decide)) (fun _ => ?_)
  refine kX4_setDown_219 g8 p82 g34 pA (by omega) (svPut (A := 45) (j := j) (hT.kd (i := 45) rfl) (hT.kk (i := 45) rfl) (hT.nn (i := 45) rfl) (by omega) (by decide) (by rw [r0, a1]; omega) (by omega) ⟨_, rfl, kX4_setDown_232 (kX4_setDown_235 (q _ ?_))⟩)
  exact Sv.wr (k := 11) (j := j) (x := (v : Int)) h (by decide) ⟨by omega, by omega⟩ (fun h => absurd h (by decide))
/-- miles are laid: m more of stretch s -/
def lay (s : Nat) : Nat → (Nat → Nat → Int) → Nat → Nat → Int
  | 0, R => R
  | m + 1, R => lay s m (mW (mW R 4 (R 0 1).toNat (s : Int)) 0 1 (R 0 1 + 1))
theorem layL (hs : Sst cl S M0 n f c K P L C) {v s : Nat} (hsb : s ≤ 5) (hv : v ≤ 100) {fin : (Nat → Nat → Int) → Prop} (q : ∀ M', Sv cl c K C VV M0 M' i ns ng nt R' → Q (some none) S (mI M')) :
    ∀ (m j : Nat) (M R : Nat → Nat → Int), j + m = v → Sv cl c K C VV M0 M i ns ng nt R → 0 ≤ R 0 1 → R 0 1 + (m : Int) ≤ 45 → lay s m R = R' →
    X E d fX3_layMiles 19 [some (.ref (cl + 34)), some (J (s : Int)), some (J (v : Int)), some (J (j : Int))] [] S (mI M) Q := by
  have hT := hs.1
  have g34 : aKd S (cl + 34) = 5 := hT.kd (i := 34) rfl
  have k34 : aK S (cl + 34) = 5 := hT.kk (i := 34) rfl
  have p7 : aP S (cl + 34) 7 = some (cl + 38) := hT.pp (i := 34) (j := 7) (x := 38) rfl rfl
  have k38 : aK S (cl + 38) = 100 := hT.kk (i := 38) rfl
  have n38 : aN S (cl + 38) = 45 := hT.nn (i := 38) rfl
  intro m
  induction m with
  | zero =>
    intro j M R hj h h0 h45 e
    have e' : R = R' := e
    subst e'
    exact kX3_layMiles_19 ⟨by omega, by omega⟩ ⟨by omega, by omega⟩ (fun _ => kX3_layMiles_59 (q M h)) (fun h => absurd h (by omega))
  | succ m ih =>
    intro j M R hj h h0 h45 e
    have r0 := h.r0
    obtain ⟨z, hz⟩ := Int.eq_ofNat_of_zero_le h0
    refine kX3_layMiles_19 ⟨by omega, by omega⟩ ⟨by omega, by omega⟩ (fun h => absurd h (by omega)) (fun _ => ?_)
    refine kX3_layMiles_24 g34 (h.1 _ _) (fun h => absurd h (by rw [r0]; omega)) (fun _ => ?_)
    refine kX3_layMiles_33 (M_10 := mW (mW M (cl + 38) z (s : Int)) (cl + 34) 1 ((z + 1 : Nat) : Int)) g34 p7 k38 (h.1 _ _) (by rw [r0]; exact ⟨by omega, by omega⟩) k34 ?_ ?_
    · rw [r0, hz, Int.toNat_natCast, mW_ne (show cl + 34 ≠ cl + 38 by omega), r0, hz, nz_eq ⟨by omega, by omega⟩]
      rfl
    · rw [show (j : Int) + 1 = ((j + 1 : Nat) : Int) by omega]
      have h1 := Sv.wr (k := 4) (j := z) (x := (s : Int)) h (by decide) ⟨by omega, by omega⟩ (fun h => absurd h (by decide))
      have h2 := Sv.wr (k := 0) (j := 1) (x := ((z + 1 : Nat) : Int)) h1 (by decide) ⟨by omega, by omega⟩ (fun _ => rfl)
      refine ih (j + 1) _ _ (by omega) h2 ?_ ?_ ?_
      · rw [mW_eq]; omega
      · rw [mW_eq]; omega
      · rw [← e]
        show _ = lay s m (mW (mW R 4 (R 0 1).toNat (s : Int)) 0 1 (R 0 1 + 1))
        rw [hz, Int.toNat_natCast]
        rfl
theorem setD1 (hs : Sst cl S M0 n f c K P L C) {v s : Nat} (hv : v ≤ 100) (hj : s + 1 = ns) (h0 : 0 ≤ R 0 1) (h45 : R 0 1 + (v : Int) ≤ 45) : SetD E S cl c K C VV M0 1 v i ns ng nt R (lay s v (mW (mW R 1 s (v : Int)) 2 s (R 0 1))) := fun d Q M hd h q => by
  have hT := hs.1
  have g8 : aKd S (cl + 8) = 6 := hT.kd (i := 8) rfl
  have p82 : aP S (cl + 8) 2 = some (cl + 34) := hT.pp (i := 8) (j := 2) (x := 34) rfl rfl
  have g34 : aKd S (cl + 34) = 5 := hT.kd (i := 34) rfl
  have p4 : aP S (cl + 34) 4 = some (cl + 35) := hT.pp (i := 34) (j := 4) (x := 35) rfl rfl
  have p5 : aP S (cl + 34) 5 = some (cl + 36) := hT.pp (i := 34) (j := 5) (x := 36) rfl rfl
  have k35 : aK S (cl + 35) = 100 := hT.kk (i := 35) rfl
  have k36 : aK S (cl + 36) = 100 := hT.kk (i := 36) rfl
  have n35 : aN S (cl + 35) = 5 := hT.nn (i := 35) rfl
  have n36 : aN S (cl + 36) = 5 := hT.nn (i := 36) rfl
  obtain ⟨a1, a2⟩ := h.2.2.2.2.1.1
  have r0 := h.r0
  refine kX4_setDown_0 g8 p82 g34 (by decide) (fun h => absurd h (by decide)) (fun _ => ?_) (fun h => absurd h (by decide)) (fun h => absurd h (by decide)) (fun h => absurd h (by decide)) (fun h => absurd h (by decide)) (fun h => absurd h (by decide)) (fun h => absurd h (by decide)) (fun h => absurd h (by decide)) (fun h => absurd h (by decide))
  rw [r0, a1, show (ns : Int) - 1 = (s : Int) by omega]
  refine kX4_setDown_92 ⟨by omega, by omega⟩ (fun h => absurd h (by omega)) (fun _ => kX4_setDown_96 g8 p82 (by omega) ?_ g34)
  refine kX3_layMiles_0 g34 p4 k35 ⟨by omega, by omega⟩ ⟨by omega, by omega⟩ p5 k36 ⟨by omega, by omega⟩ ?_
  rw [Int.toNat_natCast, mW_ne (show cl + 34 ≠ cl + 35 by omega), r0]
  have h1 := Sv.wr (k := 1) (j := s) (x := (v : Int)) h (by decide) ⟨by omega, by omega⟩ (fun h => absurd h (by decide))
  have h2 := Sv.wr (k := 2) (j := s) (x := R 0 1) h1 (by decide) ⟨by omega, by omega⟩ (fun h => absurd h (by decide))
  have e01 : mW (mW R 1 s (v : Int)) 2 s (R 0 1) 0 1 = R 0 1 := by rw [mW_ne2 (Or.inl (by decide)), mW_ne2 (Or.inl (by decide))]
  exact layL (fin := fun _ => True) hs (by omega) hv (fun M' h' => ⟨_, rfl, kX4_setDown_105 (kX4_setDown_235 (q M' h'))⟩) v 0 _ _ (by omega) h2 (by rw [e01]; exact h0) (by rw [e01]; exact h45) rfl
end SX
