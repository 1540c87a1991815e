/-! tokens: kinds, and the cut -/
section CW
variable {E : Nat → Value} {d : Nat} {S S' : aS} {M M' : Nat → Nat → Int} {Q : Option (Option Value) → aS → aI → Prop}
theorem jn_at {w : List Nat} {l : List (List Nat)} {i x : Nat} (h : w[i]? = some x) : (jn (w :: l))[i]? = some (x : Int) := by
  have hi := (List.getElem?_eq_some_iff.mp h).1
  have e : (w.map (fun x : Nat => (x : Int)))[i]? = some (x : Int) := by rw [List.getElem?_map, h]; rfl
  cases l with
  | nil => exact e
  | cons v l =>
    show (w.map (fun x : Nat => (x : Int)) ++ 32 :: jn (v :: l))[i]? = _
    rw [List.getElem?_append_left (by rw [List.length_map]; exact hi)]
    exact e
theorem jn_len {w : List Nat} {l : List (List Nat)} : (jn (w :: l)).length = w.length + (match l with | [] => 0 | v :: l => 1 + (jn (v :: l)).length) := by
  cases l with
  | nil => exact List.length_map ..
  | cons v l =>
    show (w.map (fun x : Nat => (x : Int)) ++ 32 :: jn (v :: l)).length = _
    rw [List.length_append, List.length_map, List.length_cons]
    show w.length + ((jn (v :: l)).length + 1) = w.length + (1 + (jn (v :: l)).length)
    omega
theorem jn_dr {w v : List Nat} {l : List (List Nat)} : (jn (w :: v :: l)).drop (w.length + 1) = jn (v :: l) ∧ (jn (w :: v :: l))[w.length]? = some 32 := by
  have hl : (w.map (fun x : Nat => (x : Int))).length = w.length := List.length_map ..
  constructor
  · show (w.map (fun x : Nat => (x : Int)) ++ 32 :: jn (v :: l)).drop (w.length + 1) = _
    rw [← hl, List.drop_append, List.drop_eq_nil_of_le (by omega), Nat.add_sub_cancel_left]
    rfl
  · show (w.map (fun x : Nat => (x : Int)) ++ 32 :: jn (v :: l))[w.length]? = _
    rw [List.getElem?_append_right (by omega), hl, Nat.sub_self]
    rfl
theorem cScan {tp bk wk b3 st k : Nat} {p L : Int} {cs : List Int} {w : List Nat} (hK : Kw E S M bk wk b3 cs) (hw : ∀ (i x : Nat), w[i]? = some x → cs[st + i]? = some (x : Int)) (hne : ∀ x, x ∈ w → x ≠ 32 ∧ x < 128)
    (he : st + w.length = cs.length ∨ cs[st + w.length]? = some 32) (hd : 5 ≤ d)
    (kk : X E d fX5_wordKind 40 [some (.ref tp), some (J p), some (J L), some (J (k : Int)), some (J (st : Int)), some (J ((st + w.length : Nat) : Int))] [] S (mI M) Q) :
    ∀ (m j : Nat), j + m = w.length → X E d fX5_wordKind 8 [some (.ref tp), some (J p), some (J L), some (J (k : Int)), some (J (st : Int)), some (J ((st + j : Nat) : Int))] [] S (mI M) Q := by
  obtain ⟨e2, e3, eK, hS, hl⟩ := hK
  intro m
  induction m with
  | zero =>
    intro j hj
    obtain rfl : j = w.length := by omega
    have hle : st + w.length ≤ cs.length := by
      rcases he with h | h
      · omega
      · have := (List.getElem?_eq_some_iff.mp h).1
        omega
    refine kX5_wordKind_8 eK (by omega) (jLen e2 hS (by omega) (by omega) ⟨_, rfl, ?_⟩) hS.1
    refine kX5_wordKind_15 ⟨by omega, by omega⟩ ⟨by omega, by omega⟩ (fun h => absurd h (by omega)) (fun _ => ?_)
    refine kX5_wordKind_18 eK (by omega) (jLen e2 hS (by omega) (by omega) ⟨_, rfl, ?_⟩) hS.1
    refine kX5_wordKind_25 ⟨by omega, by omega⟩ ⟨by omega, by omega⟩ (fun _ => kk) (fun hc => ?_)
    have h32 : cs[st + w.length]? = some 32 := by
      rcases he with h | h
      · exact absurd hc (by omega)
      · exact h
    refine kX5_wordKind_28 eK (by omega) (jChar e2 e3 hS h32 (by decide) (by omega) (by omega) ⟨_, rfl, ?_⟩) hS.1
    exact kX5_wordKind_35 (by decide) (fun h => absurd rfl h) (fun _ => kk)
  | succ m ih =>
    intro j hj
    have hj' : j < w.length := by omega
    have hx := hw j _ (List.getElem?_eq_getElem hj')
    have hn := hne _ (List.getElem_mem hj')
    have hlt := (List.getElem?_eq_some_iff.mp hx).1
    refine kX5_wordKind_8 eK (by omega) (jLen e2 hS (by omega) (by omega) ⟨_, rfl, ?_⟩) hS.1
    refine kX5_wordKind_15 ⟨by omega, by omega⟩ ⟨by omega, by omega⟩ (fun h => absurd h (by omega)) (fun _ => ?_)
    refine kX5_wordKind_18 eK (by omega) (jLen e2 hS (by omega) (by omega) ⟨_, rfl, ?_⟩) hS.1
    refine kX5_wordKind_25 ⟨by omega, by omega⟩ ⟨by omega, by omega⟩ (fun h => absurd h (by omega)) (fun hc => ?_)
    refine kX5_wordKind_28 eK (by omega) (jChar e2 e3 hS hx (by omega) (by omega) (by omega) ⟨_, rfl, ?_⟩) hS.1
    refine kX5_wordKind_35 ⟨by omega, by omega⟩ (fun _ => kX5_wordKind_71 ?_) (fun h => absurd h (by omega))
    rw [show ((st + j : Nat) : Int) + 1 = ((st + (j + 1) : Nat) : Int) by omega]
    exact ih (j + 1) (by omega)
theorem cWk1 {tp n p L bk wk b3 st k : Nat} {f : Nat → Nat} {cs : List Int} {W w : List Nat} (h : Tq S M tp n f) (hK : Kw E S M bk wk b3 cs) (hp : p + L ≤ n) (hWl : W.length = L) (hW : ∀ (i x : Nat), W[i]? = some x → f (p + i) = x)
    (hw : ∀ (i x : Nat), w[i]? = some x → cs[st + i]? = some (x : Int)) (hne : ∀ x, x ∈ w → x ≠ 32 ∧ x < 128) (he : st + w.length = cs.length ∨ cs[st + w.length]? = some 32) (hk : k ≤ 1000) (hd : 6 ≤ d)
    (kt : w = W → Q (some (some (J (k : Int)))) S (mI M))
    (kf : w ≠ W → X E d fX5_wordKind 8 [some (.ref tp), some (J (p : Int)), some (J (L : Int)), some (J ((k + 1 : Nat) : Int)), some (J ((st + w.length + 1 : Nat) : Int)), some (J ((st + w.length + 1 : Nat) : Int))] [] S (mI M) Q) :
    X E d fX5_wordKind 8 [some (.ref tp), some (J (p : Int)), some (J (L : Int)), some (J (k : Int)), some (J (st : Int)), some (J (st : Int))] [] S (mI M) Q := by
  have hn := h.2.2.1
  have hl := hK.2.2.2.2
  have hle : st + w.length ≤ cs.length := by
    rcases he with h | h
    · omega
    · have := (List.getElem?_eq_some_iff.mp h).1
      omega
  have no : w ≠ W → X E d fX5_wordKind 62 [some (.ref tp), some (J (p : Int)), some (J (L : Int)), some (J (k : Int)), some (J (st : Int)), some (J ((st + w.length : Nat) : Int))] [] S (mI M) Q := fun hn => by
    refine kX5_wordKind_62 ?_
    rw [show (k : Int) + 1 = ((k + 1 : Nat) : Int) by omega, show ((st + w.length : Nat) : Int) + 1 = ((st + w.length + 1 : Nat) : Int) by omega]
    refine kX5_wordKind_71 ?_
    rw [show ((st + w.length : Nat) : Int) + 1 = ((st + w.length + 1 : Nat) : Int) by omega]
    exact kf hn
  have go := cScan (d := d) (tp := tp) (k := k) (p := (p : Int)) (L := (L : Int)) (Q := Q) hK hw hne he (by omega) ?_ w.length 0 (by omega)
  · exact go
  · refine kX5_wordKind_40 ⟨by omega, by omega⟩ ⟨by omega, by omega⟩ (fun hc => no (fun e => hc (by rw [e, hWl]; omega))) (fun hc => ?_)
    refine kX5_wordKind_49 (by omega) (kX5_isKeyword_0 ?_)
    refine cKwE (st := st) h hK hp (by omega) w W 0 (by omega) (fun i x hx => by rw [Nat.add_zero]; exact hw i x hx) (fun i x hx => by rw [Nat.add_zero]; exact hW i x hx) (by omega) ⟨_, rfl, ?_⟩
    by_cases c : w = W
    · rw [if_pos c]
      exact kX5_wordKind_57 (by decide) (fun h => absurd h (by decide)) (fun _ => kX5_wordKind_60 (kt c))
    · rw [if_neg c]
      exact kX5_wordKind_57 (by decide) (fun _ => no c) (fun h => absurd rfl h)
theorem cWk {tp n p L bk wk b3 : Nat} {f : Nat → Nat} {cs : List Int} {W : List Nat} (h : Tq S M tp n f) (hK : Kw E S M bk wk b3 cs) (hp : p + L ≤ n) (hWl : W.length = L) (hW : ∀ (i x : Nat), W[i]? = some x → f (p + i) = x) (hd : 6 ≤ d) :
    ∀ (l : List (List Nat)) (k st : Nat) (w : List Nat), cs.drop st = jn (w :: l) → st ≤ cs.length → (∀ u, u ∈ w :: l → ∀ x, x ∈ u → x ≠ 32 ∧ x < 128) → k + l.length ≤ 1000 → Q (some (some (J (kwG W (w :: l) k : Int)))) S (mI M) →
    X E d fX5_wordKind 8 [some (.ref tp), some (J (p : Int)), some (J (L : Int)), some (J (k : Int)), some (J (st : Int)), some (J (st : Int))] [] S (mI M) Q := by
  have hS := hK.2.2.2.1
  have hl := hK.2.2.2.2
  intro l
  induction l with
  | nil =>
    intro k st w hdr hst hne hk q
    have hw : ∀ (i x : Nat), w[i]? = some x → cs[st + i]? = some (x : Int) := fun i x hx => by
      rw [← List.getElem?_drop, hdr]
      exact jn_at hx
    have hlen : cs.length - st = w.length := by
      rw [← List.length_drop, hdr, jn_len]
      rfl
    have hk0 : k + 0 ≤ 1000 := hk
    refine cWk1 h hK hp hWl hW hw (fun x hx => hne w (List.mem_cons_self ..) x hx) (Or.inl (by omega)) (by omega) hd (fun e => ?_) (fun e => ?_)
    · unfold kwG at q
      rw [if_pos e] at q
      exact q
    · unfold kwG at q
      rw [if_neg e] at q
      unfold kwG at q
      refine kX5_wordKind_8 hK.2.2.1 (by omega) (jLen hK.1 hS (by omega) (by omega) ⟨_, rfl, ?_⟩) hS.1
      exact kX5_wordKind_15 ⟨by omega, by omega⟩ ⟨by omega, by omega⟩ (fun _ => kX5_wordKind_77 q) (fun h => absurd h (by omega))
  | cons v l ih =>
    intro k st w hdr hst hne hk q
    have hw : ∀ (i x : Nat), w[i]? = some x → cs[st + i]? = some (x : Int) := fun i x hx => by
      rw [← List.getElem?_drop, hdr]
      exact jn_at hx
    have h32 : cs[st + w.length]? = some 32 := by
      rw [← List.getElem?_drop, hdr]
      exact jn_dr.2
    have hlt := (List.getElem?_eq_some_iff.mp h32).1
    have hk' : k + (l.length + 1) ≤ 1000 := hk
    refine cWk1 h hK hp hWl hW hw (fun x hx => hne w (List.mem_cons_self ..) x hx) (Or.inr h32) (by omega) hd (fun e => ?_) (fun e => ?_)
    · unfold kwG at q
      rw [if_pos e] at q
      exact q
    · unfold kwG at q
      rw [if_neg e] at q
      refine ih (k + 1) (st + w.length + 1) v ?_ (by omega) (fun u hu x hx => hne u (List.mem_cons_of_mem _ hu) x hx) (by omega) q
      rw [Nat.add_assoc, ← List.drop_drop, hdr]
      exact jn_dr.1
/-- what a token at p is: its length, kind, worth -/
def Tk (f : Nat → Nat) (n p L k v : Nat) : Prop :=
  (TokW f n p L ∧ (∃ W : List Nat, W.length = L ∧ (∀ (i x : Nat), W[i]? = some x → f (p + i) = x) ∧ k = kwG W kws 0) ∧ v = 0) ∨ (TokD f n p L ∧ k = 48 ∧ v = nv f p L) ∨ (∃ s, TokS f n p s ∧ L = 1 ∧ k = 32 + s ∧ v = 0) ∨ (TokT f n p k ∧ L = 2 ∧ v = 0)
theorem cLen {tp n p L k v bs ws : Nat} {f : Nat → Nat} (h : Tq S M tp n f) (hS : Sy E S M bs ws) (g : Tk f n p L k v) (hd : 7 ≤ d) (q : Q (some (some (J (L : Int)))) S (mI M)) :
    X E d fX5_lengthAt 0 [some (.ref tp), some (J (p : Int)), some (J (n : Int)), none, none, none] [] S (mI M) Q := by
  rcases g with ⟨g, _⟩ | ⟨g, _⟩ | ⟨s, g, rfl, _⟩ | ⟨g, rfl, _⟩
  · exact cLenW h g (by omega) q
  · exact cLenD h g (by omega) q
  · exact cLenS h hS g hd q
  · exact cLenT h hS g hd q
theorem kwG_le (W : List Nat) : ∀ (l : List (List Nat)) (k : Nat), k + l.length ≤ 47 → kwG W l k ≤ 47
  | [], _, _ => Nat.le_refl _
  | w :: l, k, h => by
    have h' : k + (l.length + 1) ≤ 47 := h
    unfold kwG
    split
    · omega
    · exact kwG_le W l (k + 1) (by omega)
theorem Tk.lt {f : Nat → Nat} {n p L k v : Nat} (g : Tk f n p L k v) : p < n ∧ 1 ≤ L ∧ p + L ≤ n := by
  rcases g with ⟨⟨g1, g2, _⟩, _⟩ | ⟨⟨g1, g2, _⟩, _⟩ | ⟨s, ⟨g1, _⟩, rfl, _⟩ | ⟨⟨g1, _⟩, rfl, _⟩
  · omega
  · omega
  · omega
  · omega
theorem fx_N : ∀ n : Nat, n < 128 → fx syms (n : Int) 0 < 13 := by decide +kernel
theorem Tk.ne {f : Nat → Nat} {n p L k v : Nat} (hb : f p < 128) (g : Tk f n p L k v) : k ≤ 48 := by
  rcases g with ⟨_, ⟨W, _, _, e⟩, _⟩ | ⟨_, e, _⟩ | ⟨s, g, _, e, _⟩ | ⟨⟨_, g, _⟩, _⟩
  · have := kwG_le W kws 0 (by decide)
    omega
  · omega
  · have h1 := g.2.2.2.2.1
    have h2 := fx_N _ hb
    omega
  · omega
theorem cKind {tp n p L k v bs ws bk wk b3 : Nat} {f : Nat → Nat} (h : Tq S M tp n f) (hS : Sy E S M bs ws) (hK : Kw E S M bk wk b3 (jn kws)) (g : Tk f n p L k v) (hd : 7 ≤ d) (q : Q (some (some (J (k : Int)))) S (mI M)) :
    X E d fX5_kindAt 0 [some (.ref tp), some (J (p : Int)), some (J (n : Int)), some (J (L : Int)), none] [] S (mI M) Q := by
  have hn := h.2.2.1
  have hb := h.2.2.2.2
  have hbp := hb p
  have hlt := Tk.lt g
  refine kX5_kindAt_0 (by omega) (cByte h (by omega) (by omega) ⟨_, rfl, ?_⟩)
  rw [bA_lt hlt.1]
  refine kX5_kindAt_6 ⟨by omega, by omega⟩ ⟨by omega, by omega⟩ (fun _ => ?_) (fun h => absurd h (by omega))
  refine kX5_kindAt_16 (by omega) (cLet hbp ⟨_, rfl, ?_⟩)
  rcases g with ⟨⟨g1, g2, g3, g4, g5⟩, ⟨W, w1, w2, w3⟩, _⟩ | ⟨⟨g1, g2, g3, g4, g5⟩, e, _⟩ | ⟨s, ⟨g1, g2, g3, g4, g5, g6⟩, e1, e, _⟩ | ⟨⟨g1, g2, g3⟩, e, _⟩
  · rw [g3]
    refine kX5_kindAt_21 (by decide) (fun h => absurd h (by decide)) (fun _ => kX5_kindAt_24 ⟨by omega, by omega⟩ (fun _ => ?_) (fun h => absurd h (by omega)))
    refine kX5_kindAt_35 (by omega) (kX5_wordKind_0 ?_)
    refine cWk h hK g1 w1 w2 (by omega) _ 0 0 _ rfl (Nat.zero_le _) (by decide) (by decide) ⟨_, rfl, kX5_kindAt_41 ?_⟩
    rw [w3] at q
    exact q
  · rw [g3]
    refine kX5_kindAt_21 (by decide) (fun _ => ?_) (fun h => absurd rfl h)
    refine kX5_kindAt_42 (by omega) (cDgt hbp ⟨_, rfl, ?_⟩)
    rw [show isD (f p) = true from g4 0 (by omega)]
    rw [e] at q
    exact kX5_kindAt_47 (by decide) (fun h => absurd h (by decide)) (fun _ => kX5_kindAt_50 ⟨by omega, by omega⟩ (fun _ => kX5_kindAt_61 (kX5_kindAt_63 q)) (fun h => absurd h (by omega)))
  · rw [g2]
    refine kX5_kindAt_21 (by decide) (fun _ => ?_) (fun h => absurd rfl h)
    refine kX5_kindAt_42 (by omega) (cDgt hbp ⟨_, rfl, ?_⟩)
    rw [g3]
    refine kX5_kindAt_47 (by decide) (fun _ => ?_) (fun h => absurd rfl h)
    refine kX5_kindAt_64 ⟨by omega, by omega⟩ (fun _ => ?_) (fun h => absurd h (by omega))
    refine kX5_kindAt_84 ⟨by omega, by omega⟩ (fun h => absurd h (by omega)) (fun _ => ?_)
    refine kX5_kindAt_89 hS.2.1 (by omega) ?_ hS.2.2.1
    rw [u16N _ hbp]
    refine jIdx hS.1 hS.2.2 hbp ⟨by decide, by decide⟩ (by omega) ⟨_, rfl, ?_⟩
    rw [g5]
    refine kX5_kindAt_99 (kX5_kindAt_105 ?_)
    rw [e] at q
    rw [show (32 : Int) + (s : Int) = ((32 + s : Nat) : Int) by omega]
    exact q
  · have e2 : isL (f p) = false ∧ isD (f p) = false := by
      rcases g2 with e | e
      · rw [e.1]; decide
      · rw [e.1]; decide
    rw [e2.1]
    refine kX5_kindAt_21 (by decide) (fun _ => ?_) (fun h => absurd rfl h)
    refine kX5_kindAt_42 (by omega) (cDgt hbp ⟨_, rfl, ?_⟩)
    rw [e2.2]
    refine kX5_kindAt_47 (by decide) (fun _ => ?_) (fun h => absurd rfl h)
    refine kX5_kindAt_64 ⟨by omega, by omega⟩ (fun h => absurd h (by omega)) (fun _ => ?_)
    refine kX5_kindAt_69 ⟨by omega, by omega⟩ (fun hc => kX5_kindAt_81 (kX5_kindAt_83 ?_)) (fun hc => kX5_kindAt_76 (kX5_kindAt_83 ?_))
    · rw [show k = 46 by omega] at q
      exact q
    · rw [show k = 45 by omega] at q
      exact q
theorem cKind0 {tp n p : Nat} {L : Int} {f : Nat → Nat} (h : Tq S M tp n f) (g : p = n) (hd : 2 ≤ d) (q : Q (some (some (J 49))) S (mI M)) :
    X E d fX5_kindAt 0 [some (.ref tp), some (J (p : Int)), some (J (n : Int)), some (J L), none] [] S (mI M) Q := by
  have hn := h.2.2.1
  refine kX5_kindAt_0 (by omega) (cByte h (by omega) (by omega) ⟨_, rfl, ?_⟩)
  exact kX5_kindAt_6 ⟨by omega, by omega⟩ ⟨by omega, by omega⟩ (fun h => absurd h (by omega)) (fun _ => kX5_kindAt_13 q)
end CW
