/-! the law feeds its text -/
section FT
variable {E : Nat → Value} {d : Nat} {S S' : aS} {M M' : Nat → Nat → Int} {Q : Option (Option Value) → aS → aI → Prop}
/-- the bytes of a text, blanks behind it -/
abbrev ByF (cs : List Int) (f : Nat → Nat) : Prop := (∀ i, f i < 128) ∧ (∀ i x, cs[i]? = some x → x = (f i : Int)) ∧ ∀ i, cs.length ≤ i → f i = 32
theorem ByF.mk {cs : List Int} (h : ∀ x, x ∈ cs → 0 ≤ x ∧ x < 128) : ∃ f, ByF cs f := by
  refine ⟨fun i => match cs[i]? with | some x => x.toNat | none => 32, fun i => ?_, fun i x hx => ?_, fun i hi => ?_⟩
  · show (match cs[i]? with | some x => x.toNat | none => 32) < 128
    cases e : cs[i]? with
    | none => decide
    | some x =>
      have := h x (List.mem_of_getElem? e)
      show x.toNat < 128
      omega
  · show x = ((match cs[i]? with | some x => x.toNat | none => 32 : Nat) : Int)
    rw [hx]
    have := h x (List.mem_of_getElem? hx)
    show x = (x.toNat : Int)
    omega
  · show (match cs[i]? with | some x => x.toNat | none => 32) = 32
    rw [List.getElem?_eq_none hi]
/-- what stays while it is fed -/
abbrev FdX (S : aS) (M0 M : Nat → Nat → Int) (cl tp fo : Nat) : Prop := RM M ∧ (∀ x, x ≠ cl → x ≠ tp → x ≠ fo → M x = M0 x) ∧ ∀ j, j ≠ 1 → M cl j = M0 cl j
abbrev TaS (E : Nat → Value) (S : aS) (M0 : Nat → Nat → Int) (cl tp fo b w b3 : Nat) (cs : List Int) (f : Nat → Nat) : Prop :=
  E 2 = J 1 ∧ E 3 = rf3 b3 ∧ TpS S cl tp ∧ (aK S fo = 100 ∧ aN S fo = 5 ∧ fo ≠ cl ∧ fo ≠ tp) ∧ (Str S M0 b w cs ∧ b ≠ cl ∧ b ≠ tp ∧ b ≠ fo ∧ w ≠ cl ∧ w ≠ tp ∧ w ≠ fo) ∧ (cs.length ≤ 1980 ∧ ByF cs f)
theorem TaS.str {cl tp fo b w b3 : Nat} {cs : List Int} {f : Nat → Nat} {M0 : Nat → Nat → Int} (h : TaS E S M0 cl tp fo b w b3 cs f) (g : FdX S M0 M cl tp fo) : Str S M b w cs := by
  obtain ⟨_, _, _, _, ⟨s, h1, h2, h3, h4, h5, h6⟩, _⟩ := h
  exact ⟨s.1, by rw [g.2.1 b h1 h2 h3]; exact s.2.1, s.2.2.1, s.2.2.2.1, s.2.2.2.2.1, fun i x hx => by rw [g.2.1 w h4 h5 h6]; exact s.2.2.2.2.2.1 i x hx, s.2.2.2.2.2.2.1, s.2.2.2.2.2.2.2.1, s.2.2.2.2.2.2.2.2⟩
theorem FdX.fo {cl tp fo k : Nat} {x : Int} {M0 : Nat → Nat → Int} (g : FdX S M0 M cl tp fo) (hx : R32 x) (h1 : fo ≠ cl) : FdX S M0 (mW M fo k x) cl tp fo := ⟨g.1.w hx, fun x h2 h3 h4 => (mW_ne h4).trans (g.2.1 x h2 h3 h4), fun j hj => by rw [mW_ne (Ne.symm h1)]; exact g.2.2 j hj⟩
theorem tStep {cl tp fo b w b3 r k i j : Nat} {cs : List Int} {f : Nat → Nat} {M0 : Nat → Nat → Int} (h : TaS E S M0 cl tp fo b w b3 cs f) (g : FdX S M0 M cl tp fo) (hr : r ≤ 2000) (hk : k < 5) (hi : i = r + 4 * k + j) (hj : j < 4) (hv : M fo k = (pkj f (r + 4 * k) j : Int)) (hd : 5 ≤ d)
    (kk : X E d fL_taught 42 [some (.ref cl), some (.ref b), some (.ref fo), some (J (r : Int)), some (J (k : Int)), some (J ((i : Int) + 1))] [] S (mI (mW M fo k (pkj f (r + 4 * k) (j + 1) : Int))) Q) :
    X E d fL_taught 42 [some (.ref cl), some (.ref b), some (.ref fo), some (J (r : Int)), some (J (k : Int)), some (J (i : Int))] [] S (mI M) Q := by
  have hs := TaS.str h g
  obtain ⟨e2, e3, hT, ⟨f1, f2, f3, f4⟩, hb, hl, hy1, hy2, hy3⟩ := h
  have hfd : aKd S fo = 100 := by unfold aKd; rw [f1]
  have hpk := pkj4 (b := r + 4 * k) hy1
  have hlt : pkj f (r + 4 * k) j < 8388608 := by
    have e0 : pkj f (r + 4 * k) 0 = 0 := rfl
    rcases (by omega : j = 0 ∨ j = 1 ∨ j = 2 ∨ j = 3) with e | e | e | e
    · rw [e]; omega
    · rw [e]; omega
    · rw [e]; omega
    · rw [e]; omega
  have hfi := hy1 i
  have fin : (Int32.ofInt ((Int32.ofInt (M fo k) <<< (Int32.ofInt 8 &&& 31)).toInt) ||| Int32.ofInt (f i : Int)).toInt = (pkj f (r + 4 * k) (j + 1) : Int) := by
    rw [hv, pkA _ _ hlt (by omega), hi]
    rfl
  refine kL_taught_42 ⟨by omega, by omega⟩ ⟨by omega, by omega⟩ (fun h => absurd h (by omega)) (fun _ => ?_)
  refine kL_taught_55 hfd ⟨by omega, by omega⟩ ⟨by omega, by omega⟩ (by omega) (jLen e2 hs (by omega) (by omega) ⟨_, rfl, ?_⟩) hs.1
  rw [Int.toNat_natCast]
  refine kL_taught_71 ⟨by omega, by omega⟩ ⟨by omega, by omega⟩ (fun hc => ?_) (fun hc => ?_)
  · refine kL_taught_83 (kL_taught_85 f1 ⟨by omega, by omega⟩ ⟨by omega, by omega⟩ ?_)
    have e32 : f i = 32 := hy3 i (by omega)
    rw [e32] at fin
    rw [Int.toNat_natCast, show (32 : Int) = ((32 : Nat) : Int) by rfl, fin]
    exact kk
  · have hc' : i < cs.length := by omega
    have hx := hy2 i _ (List.getElem?_eq_getElem hc')
    refine kL_taught_74 (by omega) (jChar e2 e3 hs (List.getElem?_eq_getElem hc') (by omega) (by omega) (by omega) ⟨_, rfl, ?_⟩) hs.1
    refine kL_taught_80 (kL_taught_85 f1 ⟨by omega, by omega⟩ ⟨by omega, by omega⟩ ?_)
    rw [Int.toNat_natCast, hx, fin]
    exact kk
set_option maxHeartbeats 1000000 in
theorem tWord {cl tp fo b w b3 r k : Nat} {o5 : Option Value} {cs : List Int} {f : Nat → Nat} {M0 : Nat → Nat → Int} (h : TaS E S M0 cl tp fo b w b3 cs f) (g : FdX S M0 M cl tp fo) (hr : r ≤ 2000) (hk : k < 5) (hd : 5 ≤ d)
    (kk : ∀ M', FdX S M0 M' cl tp fo → (∀ x, x ≠ fo → M' x = M x) → (∀ j, j ≠ k → M' fo j = M fo j) → M' fo k = (pkj f (r + 4 * k) 4 : Int) → ∀ o5, X E d fL_taught 23 [some (.ref cl), some (.ref b), some (.ref fo), some (J (r : Int)), some (J ((k : Int) + 1)), o5] [] S (mI M') Q) :
    X E d fL_taught 23 [some (.ref cl), some (.ref b), some (.ref fo), some (J (r : Int)), some (J (k : Int)), o5] [] S (mI M) Q := by
  have hy1 := h.2.2.2.2.2.2.1
  have hpk := pkj4 (b := r + 4 * k) hy1
  have f1 := h.2.2.2.1.1
  have f2 := h.2.2.2.1.2.1
  have f3 := h.2.2.2.1.2.2.1
  have R : ∀ {n : Nat}, n < 2147483648 → R32 (n : Int) := fun h => ⟨by omega, by omega⟩
  refine kL_taught_23 ⟨by omega, by omega⟩ (fun h => absurd h (by omega)) (fun _ => ?_)
  refine kL_taught_29 f1 ⟨by omega, by omega⟩ ⟨by omega, by omega⟩ ?_
  rw [Int.toNat_natCast, show (r : Int) + 4 * (k : Int) = ((r + 4 * k + 0 : Nat) : Int) by omega]
  have g0 := FdX.fo (k := k) g (R (n := 0) (by omega)) f3
  have g1 := FdX.fo (k := k) g0 (R (n := pkj f (r + 4 * k) 1) (by omega)) f3
  have g2 := FdX.fo (k := k) g1 (R (n := pkj f (r + 4 * k) 2) (by omega)) f3
  have g3 := FdX.fo (k := k) g2 (R (n := pkj f (r + 4 * k) 3) (by omega)) f3
  have g4 := FdX.fo (k := k) g3 (R (n := pkj f (r + 4 * k) 4) (by omega)) f3
  have hw : ∀ {N : Nat → Nat → Int} {x : Int}, mW N fo k x fo k = x := by
    intro N x
    rw [mW_get, if_pos ⟨rfl, rfl⟩]
  refine tStep h g0 hr hk (j := 0) rfl (by decide) hw hd ?_
  rw [show ((r + 4 * k + 0 : Nat) : Int) + 1 = ((r + 4 * k + 1 : Nat) : Int) by omega]
  refine tStep h g1 hr hk (j := 1) rfl (by decide) hw hd ?_
  rw [show ((r + 4 * k + 1 : Nat) : Int) + 1 = ((r + 4 * k + 2 : Nat) : Int) by omega]
  refine tStep h g2 hr hk (j := 2) rfl (by decide) hw hd ?_
  rw [show ((r + 4 * k + 2 : Nat) : Int) + 1 = ((r + 4 * k + 3 : Nat) : Int) by omega]
  refine tStep h g3 hr hk (j := 3) rfl (by decide) hw hd ?_
  refine kL_taught_42 ⟨by omega, by omega⟩ ⟨by omega, by omega⟩ (fun _ => kL_taught_93 (kk _ g4 (fun x hx => ?_) (fun j hj => ?_) hw _)) (fun h => absurd h (by omega))
  · rw [mW_ne hx, mW_ne hx, mW_ne hx, mW_ne hx, mW_ne hx]
  · rw [mW_ne2 (Or.inr hj), mW_ne2 (Or.inr hj), mW_ne2 (Or.inr hj), mW_ne2 (Or.inr hj), mW_ne2 (Or.inr hj)]
set_option maxHeartbeats 1000000 in
theorem tRound {cl tp fo b w b3 r : Nat} {o4 o5 : Option Value} {cs : List Int} {f : Nat → Nat} {M0 : Nat → Nat → Int} (h : TaS E S M0 cl tp fo b w b3 cs f) (g : FdX S M0 M cl tp fo) (ht : TpF M cl tp r f) (hr : r < cs.length) (hd : 5 ≤ d)
    (kk : ∀ M', FdX S M0 M' cl tp fo → TpF M' cl tp (r + 20) f → ∀ o4 o5, X E d fL_taught 12 [some (.ref cl), some (.ref b), some (.ref fo), some (J ((r + 20 : Nat) : Int)), o4, o5] [] S (mI M') Q) :
    X E d fL_taught 12 [some (.ref cl), some (.ref b), some (.ref fo), some (J (r : Int)), o4, o5] [] S (mI M) Q := by
  have hs := TaS.str h g
  have e2 := h.1
  have hl := h.2.2.2.2.2.1
  have f1 := h.2.2.2.1.1
  have f2 := h.2.2.2.1.2.1
  have f3 := h.2.2.2.1.2.2.1
  have f4 := h.2.2.2.1.2.2.2
  have hfd : aKd S fo = 100 := by unfold aKd; rw [f1]
  refine kL_taught_12 (by omega) (jLen e2 hs (by omega) (by omega) ⟨_, rfl, ?_⟩) hs.1
  refine kL_taught_17 ⟨by omega, by omega⟩ ⟨by omega, by omega⟩ (fun h => absurd h (by omega)) (fun _ => kL_taught_20 ?_)
  refine tWord (k := 0) h g (by omega) (by decide) hd (fun M1 g1 a1 b1 c1 p1 => ?_)
  refine tWord (k := 1) h g1 (by omega) (by decide) hd (fun M2 g2 a2 b2 c2 p2 => ?_)
  refine tWord (k := 2) h g2 (by omega) (by decide) hd (fun M3 g3 a3 b3' c3 p3 => ?_)
  refine tWord (k := 3) h g3 (by omega) (by decide) hd (fun M4 g4 a4 b4 c4 p4 => ?_)
  refine tWord (k := 4) h g4 (by omega) (by decide) hd (fun M5 g5 a5 b5 c5 p5 => ?_)
  refine kL_taught_23 (by decide) (fun _ => ?_) (fun h => absurd h (by decide))
  have v4 : M5 fo 4 = (pkj f (r + 16) 4 : Int) := c5
  have v3 : M5 fo 3 = (pkj f (r + 12) 4 : Int) := (b5 3 (by decide)).trans c4
  have v2 : M5 fo 2 = (pkj f (r + 8) 4 : Int) := (b5 2 (by decide)).trans ((b4 2 (by decide)).trans c3)
  have v1 : M5 fo 1 = (pkj f (r + 4) 4 : Int) := (b5 1 (by decide)).trans ((b4 1 (by decide)).trans ((b3' 1 (by decide)).trans c2))
  have v0 : M5 fo 0 = (pkj f r 4 : Int) := (b5 0 (by decide)).trans ((b4 0 (by decide)).trans ((b3' 0 (by decide)).trans ((b2 0 (by decide)).trans c1)))
  have hcf : ∀ x, x ≠ fo → M5 x = M x := fun x hx => (a5 x hx).trans ((a4 x hx).trans ((a3 x hx).trans ((a2 x hx).trans (a1 x hx))))
  have ht5 : TpF M5 cl tp r f := ⟨by rw [hcf cl (Ne.symm f3)]; exact ht.1, fun i hi => by rw [hcf tp (Ne.symm f4)]; exact ht.2 i hi⟩
  refine kL_taught_99 hfd ⟨by omega, by omega⟩ ⟨by omega, by omega⟩ ⟨by omega, by omega⟩ ⟨by omega, by omega⟩ ⟨by omega, by omega⟩ (by omega) ?_ h.2.2.1.1
  refine mX7_feed h.2.2.1 g5.1 ht5 (by omega) h.2.2.2.2.2.2.1 v0 v1 v2 v3 v4 (by omega) (fun M6 m6 r6 t6 => ⟨_, rfl, kL_taught_118 ?_⟩)
  exact kk M6 ⟨m6, fun x h1 h2 h3 => (r6.1 x h1 h2).trans (g5.2.1 x h1 h2 h3), fun j hj => (r6.2 j hj).trans (g5.2.2 j hj)⟩ t6 _ _
/-- the whole text on the tape -/
theorem tFeed {cl tp fo b w b3 : Nat} {cs : List Int} {f : Nat → Nat} {M0 : Nat → Nat → Int} (h : TaS E S M0 cl tp fo b w b3 cs f) (hd : 5 ≤ d)
    (kk : ∀ M', FdX S M0 M' cl tp fo → TpF M' cl tp cs.length f → ∀ o3 o4 o5 t, X E d fL_taught 133 [some (.ref cl), some (.ref b), some (.ref fo), o3, o4, o5] [J t] S (mI M') Q) :
    ∀ (m r : Nat) (M : Nat → Nat → Int) (o4 o5 : Option Value), cs.length ≤ r + m → FdX S M0 M cl tp fo → TpF M cl tp r f → r ≤ cs.length + 19 →
    X E d fL_taught 12 [some (.ref cl), some (.ref b), some (.ref fo), some (J (r : Int)), o4, o5] [] S (mI M) Q := by
  intro m
  have hl := h.2.2.2.2.2.1
  have last : ∀ (r : Nat) (M : Nat → Nat → Int) (o4 o5 : Option Value), cs.length ≤ r → FdX S M0 M cl tp fo → TpF M cl tp r f → r ≤ cs.length + 19 →
    X E d fL_taught 12 [some (.ref cl), some (.ref b), some (.ref fo), some (J (r : Int)), o4, o5] [] S (mI M) Q := by
    intro r M o4 o5 hr g ht hr2
    have hs := TaS.str h g
    have hne := h.2.2.1.ne
    refine kL_taught_12 (by omega) (jLen h.1 hs (by omega) (by omega) ⟨_, rfl, ?_⟩) hs.1
    refine kL_taught_17 ⟨by omega, by omega⟩ ⟨by omega, by omega⟩ (fun _ => ?_) (fun h => absurd h (by omega))
    refine kL_taught_125 (by omega) (jLen h.1 hs (by omega) (by omega) ⟨_, rfl, ?_⟩) hs.1
    refine kL_taught_130 (by omega) (mX7_trim h.2.2.1 g.1 (by rw [ht.1]; omega) (by omega) ⟨_, rfl, ?_⟩) h.2.2.1.1
    refine kk _ ⟨g.1.w ⟨by omega, by omega⟩, fun x h1 h2 h3 => (mW_ne h1).trans (g.2.1 x h1 h2 h3), fun j hj => (mW_ne2 (Or.inr hj)).trans (g.2.2 j hj)⟩ ⟨?_, fun i hi => ?_⟩ _ _ _ _
    · rw [mW_get, if_pos ⟨rfl, rfl⟩]
    · rw [mW_ne (Ne.symm hne)]
      exact ht.2 i (by omega)
  induction m with
  | zero =>
    intro r M o4 o5 hr g ht hr2
    exact last r M o4 o5 (by omega) g ht hr2
  | succ m ih =>
    intro r M o4 o5 hr g ht hr2
    by_cases hc : r < cs.length
    · exact tRound h g ht hc hd (fun M' g' t' o4 o5 => ih (r + 20) M' o4 o5 (by omega) g' t' (by omega))
    · exact last r M o4 o5 (by omega) g ht hr2
end FT
