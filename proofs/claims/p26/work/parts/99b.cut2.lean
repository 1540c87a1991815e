/-! tokens: lengths, words, numbers -/
section CV
variable {E : Nat → Value} {d : Nat} {S S' : aS} {M M' : Nat → Nat → Int} {Q : Option (Option Value) → aS → aI → Prop}
theorem cRunW {tp n p L : Nat} {o4 o5 : Option Value} {f : Nat → Nat} (h : Tq S M tp n f) (hL : p + L ≤ n) (hw : ∀ i, i < L → isLD (f (p + i)) = true) (he : p + L < n → isLD (f (p + L)) = false) (hd : 2 ≤ d) (q : Q (some (some (J (L : Int)))) S (mI M)) :
    ∀ (m j : Nat), j + m = L → X E d fX5_lengthAt 18 [some (.ref tp), some (J (p : Int)), some (J (n : Int)), some (J ((p + j : Nat) : Int)), o4, o5] [] S (mI M) Q := by
  have hn := h.2.2.1
  have hb := h.2.2.2.2
  intro m
  induction m with
  | zero =>
    intro j hj
    obtain rfl : j = L := by omega
    have fin : X E d fX5_lengthAt 127 [some (.ref tp), some (J (p : Int)), some (J (n : Int)), some (J ((p + j : Nat) : Int)), o4, o5] [] S (mI M) Q := by
      refine kX5_lengthAt_127 ?_
      rw [show ((p + j : Nat) : Int) - (p : Int) = (j : Int) by omega]
      exact q
    refine kX5_lengthAt_18 ⟨by omega, by omega⟩ ⟨by omega, by omega⟩ (fun _ => fin) (fun hc => ?_)
    have hc' : p + j < n := by omega
    refine kX5_lengthAt_23 (by omega) (cByte h (by omega) (by omega) ⟨_, rfl, ?_⟩)
    refine kX5_lengthAt_29 (by omega) (cLD (bA_b hb) (by omega) ⟨_, rfl, ?_⟩)
    rw [bA_lt hc', he hc']
    exact kX5_lengthAt_32 (by decide) (fun _ => fin) (fun h => absurd rfl h)
  | succ m ih =>
    intro j hj
    have hc' : p + j < n := by omega
    refine kX5_lengthAt_18 ⟨by omega, by omega⟩ ⟨by omega, by omega⟩ (fun h => absurd h (by omega)) (fun _ => ?_)
    refine kX5_lengthAt_23 (by omega) (cByte h (by omega) (by omega) ⟨_, rfl, ?_⟩)
    refine kX5_lengthAt_29 (by omega) (cLD (bA_b hb) (by omega) ⟨_, rfl, ?_⟩)
    rw [bA_lt hc', hw j (by omega)]
    refine kX5_lengthAt_32 (by decide) (fun h => absurd h (by decide)) (fun _ => kX5_lengthAt_35 ?_)
    rw [show ((p + j : Nat) : Int) + 1 = ((p + (j + 1) : Nat) : Int) by omega]
    exact ih (j + 1) (by omega)
theorem cRunD {tp n p L : Nat} {o4 o5 : Option Value} {f : Nat → Nat} (h : Tq S M tp n f) (hL : p + L ≤ n) (hw : ∀ i, i < L → isD (f (p + i)) = true) (he : p + L < n → isD (f (p + L)) = false) (hd : 2 ≤ d) (q : Q (some (some (J (L : Int)))) S (mI M)) :
    ∀ (m j : Nat), j + m = L → X E d fX5_lengthAt 49 [some (.ref tp), some (J (p : Int)), some (J (n : Int)), some (J ((p + j : Nat) : Int)), o4, o5] [] S (mI M) Q := by
  have hn := h.2.2.1
  have hb := h.2.2.2.2
  intro m
  induction m with
  | zero =>
    intro j hj
    obtain rfl : j = L := by omega
    have fin : X E d fX5_lengthAt 127 [some (.ref tp), some (J (p : Int)), some (J (n : Int)), some (J ((p + j : Nat) : Int)), o4, o5] [] S (mI M) Q := by
      refine kX5_lengthAt_127 ?_
      rw [show ((p + j : Nat) : Int) - (p : Int) = (j : Int) by omega]
      exact q
    refine kX5_lengthAt_49 ⟨by omega, by omega⟩ ⟨by omega, by omega⟩ (fun _ => fin) (fun hc => ?_)
    have hc' : p + j < n := by omega
    refine kX5_lengthAt_54 (by omega) (cByte h (by omega) (by omega) ⟨_, rfl, ?_⟩)
    refine kX5_lengthAt_60 (by omega) (cDgt (bA_b hb) ⟨_, rfl, ?_⟩)
    rw [bA_lt hc', he hc']
    exact kX5_lengthAt_63 (by decide) (fun _ => fin) (fun h => absurd rfl h)
  | succ m ih =>
    intro j hj
    have hc' : p + j < n := by omega
    refine kX5_lengthAt_49 ⟨by omega, by omega⟩ ⟨by omega, by omega⟩ (fun h => absurd h (by omega)) (fun _ => ?_)
    refine kX5_lengthAt_54 (by omega) (cByte h (by omega) (by omega) ⟨_, rfl, ?_⟩)
    refine kX5_lengthAt_60 (by omega) (cDgt (bA_b hb) ⟨_, rfl, ?_⟩)
    rw [bA_lt hc', hw j (by omega)]
    refine kX5_lengthAt_63 (by decide) (fun h => absurd h (by decide)) (fun _ => kX5_lengthAt_66 ?_)
    rw [show ((p + j : Nat) : Int) + 1 = ((p + (j + 1) : Nat) : Int) by omega]
    exact ih (j + 1) (by omega)
/-- a word from p on, L signs -/
abbrev TokW (f : Nat → Nat) (n p L : Nat) : Prop := p + L ≤ n ∧ (1 ≤ L ∧ L ≤ 10) ∧ isL (f p) = true ∧ (∀ i, i < L → isLD (f (p + i)) = true) ∧ (p + L < n → isLD (f (p + L)) = false)
/-- a number -/
abbrev TokD (f : Nat → Nat) (n p L : Nat) : Prop := p + L ≤ n ∧ (1 ≤ L ∧ L ≤ 6) ∧ isL (f p) = false ∧ (∀ i, i < L → isD (f (p + i)) = true) ∧ (p + L < n → isD (f (p + L)) = false)
/-- a symbol of one sign, of two signs -/
abbrev TokS (f : Nat → Nat) (n p k : Nat) : Prop := p < n ∧ isL (f p) = false ∧ isD (f p) = false ∧ f p ≠ 0 ∧ fx syms (f p : Int) 0 = (k : Int) ∧ (f p = 60 ∨ f p = 62 → bA f n (p + 1) ≠ 61)
abbrev TokT (f : Nat → Nat) (n p k : Nat) : Prop := p + 1 < n ∧ (f p = 60 ∧ k = 45 ∨ f p = 62 ∧ k = 46) ∧ f (p + 1) = 61
theorem cLenW {tp n p L : Nat} {f : Nat → Nat} (h : Tq S M tp n f) (g : TokW f n p L) (hd : 3 ≤ d) (q : Q (some (some (J (L : Int)))) S (mI M)) :
    X E d fX5_lengthAt 0 [some (.ref tp), some (J (p : Int)), some (J (n : Int)), none, none, none] [] S (mI M) Q := by
  obtain ⟨g1, g2, g3, g4, g5⟩ := g
  have hn := h.2.2.1
  have hb := h.2.2.2.2
  refine kX5_lengthAt_0 (by omega) (cByte h (by omega) (by omega) ⟨_, rfl, ?_⟩)
  refine kX5_lengthAt_8 (by omega) (cLet (bA_b hb) ⟨_, rfl, ?_⟩)
  rw [bA_lt (show p < n by omega), g3]
  refine kX5_lengthAt_15 (by decide) (fun h => absurd h (by decide)) (fun _ => ?_)
  exact cRunW h g1 g4 g5 (by omega) q L 0 (by omega)
theorem cLenD {tp n p L : Nat} {f : Nat → Nat} (h : Tq S M tp n f) (g : TokD f n p L) (hd : 3 ≤ d) (q : Q (some (some (J (L : Int)))) S (mI M)) :
    X E d fX5_lengthAt 0 [some (.ref tp), some (J (p : Int)), some (J (n : Int)), none, none, none] [] S (mI M) Q := by
  obtain ⟨g1, g2, g3, g4, g5⟩ := g
  have hn := h.2.2.1
  have hb := h.2.2.2.2
  refine kX5_lengthAt_0 (by omega) (cByte h (by omega) (by omega) ⟨_, rfl, ?_⟩)
  refine kX5_lengthAt_8 (by omega) (cLet (bA_b hb) ⟨_, rfl, ?_⟩)
  rw [bA_lt (show p < n by omega), g3]
  refine kX5_lengthAt_15 (by decide) (fun _ => ?_) (fun h => absurd rfl h)
  refine kX5_lengthAt_41 (by omega) (cDgt (hb p) ⟨_, rfl, ?_⟩)
  rw [show isD (f p) = true from g4 0 (by omega)]
  refine kX5_lengthAt_46 (by decide) (fun h => absurd h (by decide)) (fun _ => ?_)
  exact cRunD h g1 g4 g5 (by omega) q L 0 (by omega)
theorem cLenS {tp n p k bs ws : Nat} {f : Nat → Nat} (h : Tq S M tp n f) (hS : Sy E S M bs ws) (g : TokS f n p k) (hd : 7 ≤ d) (q : Q (some (some (J 1))) S (mI M)) :
    X E d fX5_lengthAt 0 [some (.ref tp), some (J (p : Int)), some (J (n : Int)), none, none, none] [] S (mI M) Q := by
  obtain ⟨g1, g2, g3, g4, g5, g6⟩ := g
  have hn := h.2.2.1
  have hb := h.2.2.2.2
  have hbp := hb p
  refine kX5_lengthAt_0 (by omega) (cByte h (by omega) (by omega) ⟨_, rfl, ?_⟩)
  refine kX5_lengthAt_8 (by omega) (cLet (bA_b hb) ⟨_, rfl, ?_⟩)
  rw [bA_lt g1, g2]
  refine kX5_lengthAt_15 (by decide) (fun _ => ?_) (fun h => absurd rfl h)
  refine kX5_lengthAt_41 (by omega) (cDgt hbp ⟨_, rfl, ?_⟩)
  rw [g3]
  refine kX5_lengthAt_46 (by decide) (fun _ => ?_) (fun h => absurd rfl h)
  refine kX5_lengthAt_72 (by omega) (cSym hS hbp (by omega) ⟨_, rfl, ?_⟩)
  rw [if_neg (by rw [g5]; omega)]
  refine kX5_lengthAt_77 (by decide) (fun h => absurd h (by decide)) (fun _ => ?_)
  have fin : ∀ o5, X E d fX5_lengthAt 124 [some (.ref tp), some (J (p : Int)), some (J (n : Int)), some (J (p : Int)), some (J (f p : Int)), o5] [J (p : Int)] S (mI M) Q := fun o5 => by
    refine kX5_lengthAt_124 (kX5_lengthAt_125 (kX5_lengthAt_127 ?_))
    rw [show (p : Int) + 1 - (p : Int) = 1 by omega]
    exact q
  have two : (f p = 60 ∨ f p = 62) → X E d fX5_lengthAt 94 [some (.ref tp), some (J (p : Int)), some (J (n : Int)), some (J (p : Int)), some (J (f p : Int)), none] [] S (mI M) Q := fun hc => by
    have e := g6 hc
    have hbb := bA_b (f := f) (n := n) (i := p + 1) hb
    refine kX5_lengthAt_94 (kX5_lengthAt_99 (by decide) (fun h => absurd h (by decide)) (fun _ => ?_))
    refine kX5_lengthAt_107 (by omega) ?_
    rw [show (p : Int) + 1 = ((p + 1 : Nat) : Int) by omega]
    refine cByte h (by omega) (by omega) ⟨_, rfl, ?_⟩
    exact kX5_lengthAt_115 ⟨by omega, by omega⟩ (fun _ => fin _) (fun h => absurd h (by omega))
  refine kX5_lengthAt_80 ⟨by omega, by omega⟩ (fun hc => two (Or.inl (by omega))) (fun hc => ?_)
  refine kX5_lengthAt_87 ⟨by omega, by omega⟩ (fun hc2 => ?_) (fun hc2 => two (Or.inr (by omega)))
  exact kX5_lengthAt_98 (kX5_lengthAt_99 (by decide) (fun _ => fin _) (fun h => absurd rfl h))
theorem cLenT {tp n p k bs ws : Nat} {f : Nat → Nat} (h : Tq S M tp n f) (hS : Sy E S M bs ws) (g : TokT f n p k) (hd : 7 ≤ d) (q : Q (some (some (J 2))) S (mI M)) :
    X E d fX5_lengthAt 0 [some (.ref tp), some (J (p : Int)), some (J (n : Int)), none, none, none] [] S (mI M) Q := by
  obtain ⟨g1, g2, g3⟩ := g
  have hn := h.2.2.1
  have hb := h.2.2.2.2
  have g2' : f p = 60 ∨ f p = 62 := by omega
  have e : isL (f p) = false ∧ isD (f p) = false ∧ ¬ (f p = 0 ∨ fx syms (f p : Int) 0 < 0) := by
    rcases g2' with e | e
    · rw [e]; decide
    · rw [e]; decide
  refine kX5_lengthAt_0 (by omega) (cByte h (by omega) (by omega) ⟨_, rfl, ?_⟩)
  refine kX5_lengthAt_8 (by omega) (cLet (bA_b hb) ⟨_, rfl, ?_⟩)
  rw [bA_lt (show p < n by omega), e.1]
  refine kX5_lengthAt_15 (by decide) (fun _ => ?_) (fun h => absurd rfl h)
  refine kX5_lengthAt_41 (by omega) (cDgt (hb p) ⟨_, rfl, ?_⟩)
  rw [e.2.1]
  refine kX5_lengthAt_46 (by decide) (fun _ => ?_) (fun h => absurd rfl h)
  refine kX5_lengthAt_72 (by omega) (cSym hS (hb p) (by omega) ⟨_, rfl, ?_⟩)
  rw [if_neg e.2.2]
  refine kX5_lengthAt_77 (by decide) (fun h => absurd h (by decide)) (fun _ => ?_)
  have two : X E d fX5_lengthAt 94 [some (.ref tp), some (J (p : Int)), some (J (n : Int)), some (J (p : Int)), some (J (f p : Int)), none] [] S (mI M) Q := by
    refine kX5_lengthAt_94 (kX5_lengthAt_99 (by decide) (fun h => absurd h (by decide)) (fun _ => ?_))
    refine kX5_lengthAt_107 (by omega) ?_
    rw [show (p : Int) + 1 = ((p + 1 : Nat) : Int) by omega]
    refine cByte h (by omega) (by omega) ⟨_, rfl, ?_⟩
    rw [bA_lt g1, g3]
    refine kX5_lengthAt_115 (by decide) (fun h => absurd rfl h) (fun _ => kX5_lengthAt_120 (kX5_lengthAt_125 (kX5_lengthAt_127 ?_)))
    rw [show (p : Int) + 2 - (p : Int) = 2 by omega]
    exact q
  refine kX5_lengthAt_80 ⟨by omega, by omega⟩ (fun hc => two) (fun hc => ?_)
  exact kX5_lengthAt_87 ⟨by omega, by omega⟩ (fun hc2 => absurd hc2 (by omega)) (fun hc2 => two)
theorem cLen0 {tp n p bs ws : Nat} {f : Nat → Nat} (h : Tq S M tp n f) (hS : Sy E S M bs ws) (g : p = n) (hd : 7 ≤ d) (q : Q (some (some (J 0))) S (mI M)) :
    X E d fX5_lengthAt 0 [some (.ref tp), some (J (p : Int)), some (J (n : Int)), none, none, none] [] S (mI M) Q := by
  have hn := h.2.2.1
  have hb := h.2.2.2.2
  have e : bA f n p = 0 := if_neg (by omega)
  refine kX5_lengthAt_0 (by omega) (cByte h (by omega) (by omega) ⟨_, rfl, ?_⟩)
  refine kX5_lengthAt_8 (by omega) (cLet (bA_b hb) ⟨_, rfl, ?_⟩)
  rw [e]
  refine kX5_lengthAt_15 (by decide) (fun _ => ?_) (fun h => absurd rfl h)
  refine kX5_lengthAt_41 (by omega) (cDgt (by decide) ⟨_, rfl, ?_⟩)
  refine kX5_lengthAt_46 (by decide) (fun _ => ?_) (fun h => absurd rfl h)
  refine kX5_lengthAt_72 (by omega) (cSym hS (by decide) (by omega) ⟨_, rfl, ?_⟩)
  rw [if_pos (Or.inl rfl)]
  refine kX5_lengthAt_77 (by decide) (fun _ => kX5_lengthAt_127 ?_) (fun h => absurd rfl h)
  rw [show (p : Int) - (p : Int) = 0 by omega]
  exact q
/-- what a number is worth -/
def nv (f : Nat → Nat) (p : Nat) : Nat → Nat
  | 0 => 0
  | j + 1 => nv f p j * 10 + (f (p + j) - 48)
theorem cNum {tp n p L : Nat} {f : Nat → Nat} (h : Tq S M tp n f) (g : TokD f n p L) (hd : 2 ≤ d) (q : Q (some (some (J (nv f p L : Int)))) S (mI M)) :
    X E d fX5_numberAt 0 [some (.ref tp), some (J (p : Int)), some (J (L : Int)), none, none] [] S (mI M) Q := by
  have hk := h.kd
  have hn := h.2.2.1
  obtain ⟨g1, g2, g3, g4, g5⟩ := g
  refine kX5_numberAt_0 ?_
  have hl : ∀ (m j : Nat), j + m = L → X E d fX5_numberAt 5 [some (.ref tp), some (J (p : Int)), some (J (L : Int)), some (J (nv f p j : Int)), some (J (j : Int))] [] S (mI M) Q := by
    intro m
    induction m with
    | zero =>
      intro j hj
      obtain rfl : j = L := by omega
      exact kX5_numberAt_5 ⟨by omega, by omega⟩ ⟨by omega, by omega⟩ (fun _ => kX5_numberAt_36 q) (fun h => absurd h (by omega))
    | succ m ih =>
      intro j hj
      have hg := isD_t.mp (g4 j (by omega))
      refine kX5_numberAt_5 ⟨by omega, by omega⟩ ⟨by omega, by omega⟩ (fun h => absurd h (by omega)) (fun _ => ?_)
      refine kX5_numberAt_11 (Or.inr (Or.inl hk)) (by omega) (cByteT (i := p + j) h (by omega) (by omega) (by omega) ⟨_, rfl, kX5_numberAt_25 ?_⟩)
      have e : (nv f p j : Int) * 10 + (f (p + j) : Int) - 48 = (nv f p (j + 1) : Int) := by
        show _ = ((nv f p j * 10 + (f (p + j) - 48) : Nat) : Int)
        omega
      rw [e]
      exact ih (j + 1) (by omega)
  exact hl L 0 (by omega)
/-- the keywords, and a word's place among them -/
def kws : List (List Nat) := [[115, 116, 114, 101, 116, 99, 104], [109, 105, 108, 101, 115], [115, 111, 102, 116], [103, 97, 116, 101], [97, 116], [116, 111, 108, 108], [116, 114, 97, 102, 102, 105, 99], [119, 101, 105, 103, 104, 116], [119, 104, 101, 101, 108, 115], [102, 114, 111, 109], [116, 111], [101, 118, 101, 114, 121], [102, 114, 101, 101], [102, 97, 114, 109], [102, 111, 114], [109, 101, 110, 100], [119, 105, 116, 104], [119, 104, 101, 110], [100, 97, 121], [99, 111, 105, 110, 115], [119, 111, 114, 115, 116], [99, 111, 110, 100, 105, 116, 105, 111, 110], [116, 97, 107, 101, 110], [103, 97, 105, 110], [112, 97, 115, 115, 101, 100], [102, 97, 114, 109, 101, 100], [98, 114, 111, 107, 101, 110], [110, 111, 116], [97, 110, 100], [111, 114], [109, 105, 110], [109, 97, 120]]
def jn : List (List Nat) → List Int
  | [] => []
  | [w] => w.map (fun x : Nat => (x : Int))
  | w :: v :: l => w.map (fun x : Nat => (x : Int)) ++ 32 :: jn (v :: l)
def kwG (W : List Nat) : List (List Nat) → Nat → Nat
  | [], _ => 47
  | w :: l, k => if w = W then k else kwG W l (k + 1)
abbrev Kw (E : Nat → Value) (S : aS) (M : Nat → Nat → Int) (bk wk b3 : Nat) (cs : List Int) : Prop := E 2 = J 1 ∧ E 3 = rf3 b3 ∧ E 112 = .ref bk ∧ Str S M bk wk cs ∧ cs.length ≤ 1000
theorem cKwE {tp n p L bk wk b3 st : Nat} {f : Nat → Nat} {cs : List Int} (h : Tq S M tp n f) (hK : Kw E S M bk wk b3 cs) (hp : p + L ≤ n) (hd : 5 ≤ d) :
    ∀ (a b : List Nat) (j : Nat), a.length = b.length → (∀ (i x : Nat), a[i]? = some x → cs[st + j + i]? = some (x : Int)) → (∀ (i x : Nat), b[i]? = some x → f (p + j + i) = x) → j + a.length = L → Q (some (some (J (if a = b then 1 else 0)))) S (mI M) →
    X E d fX5_isKeyword 3 [some (.ref tp), some (J (p : Int)), some (J (st : Int)), some (J (L : Int)), some (J (j : Int))] [] S (mI M) Q := by
  have hk := h.kd
  have hn := h.2.2.1
  have hb := h.2.2.2.2
  obtain ⟨e2, e3, eK, hS, hl⟩ := hK
  intro a
  induction a with
  | nil =>
    intro b j hab ha hbb hj q
    have hbn : b = [] := List.eq_nil_of_length_eq_zero hab.symm
    rw [if_pos hbn.symm] at q
    have : j = L := by have h0 : j + 0 = L := hj; omega
    exact kX5_isKeyword_3 ⟨by omega, by omega⟩ ⟨by omega, by omega⟩ (fun _ => kX5_isKeyword_51 q) (fun h => absurd h (by omega))
  | cons x a ih =>
    intro b j hab ha hbb hj q
    match b, hab with
    | y :: b, hab =>
      have hx := ha 0 x rfl
      have hy := hbb 0 y rfl
      rw [Nat.add_zero] at hx hy
      have hlt := (List.getElem?_eq_some_iff.mp hx).1
      have hj' : j + (a.length + 1) = L := hj
      have hby := hb (p + j)
      refine kX5_isKeyword_3 ⟨by omega, by omega⟩ ⟨by omega, by omega⟩ (fun h => absurd h (by omega)) (fun _ => ?_)
      refine kX5_isKeyword_9 eK (by omega) (jLen e2 hS (by omega) (by omega) ⟨_, rfl, ?_⟩) hS.1
      refine kX5_isKeyword_18 ⟨by omega, by omega⟩ ⟨by omega, by omega⟩ (fun h => absurd h (by omega)) (fun _ => ?_)
      refine kX5_isKeyword_21 (Or.inr (Or.inl hk)) (by omega) (cByteT (i := p + j) h (by omega) (by omega) (by omega) ⟨_, rfl, ?_⟩)
      have hbt := hS.bt hlt
      rw [hS.2.2.2.2.2.1 _ _ hx] at hbt
      refine kX5_isKeyword_31 eK (by omega) ?_ hS.1
      rw [show (st : Int) + (j : Int) = ((st + j : Nat) : Int) by omega]
      refine jChar e2 e3 hS hx (by omega) (by omega) (by omega) ⟨_, rfl, ?_⟩
      rw [hy]
      refine kX5_isKeyword_40 ⟨by omega, by omega⟩ ⟨by omega, by omega⟩ (fun hc => ?_) (fun hc => ?_)
      · have hxy : x = y := by omega
        subst hxy
        refine kX5_isKeyword_45 ?_
        rw [show (j : Int) + 1 = ((j + 1 : Nat) : Int) by omega]
        refine ih b (j + 1) (Nat.succ.inj hab) (fun i z hz => ?_) (fun i z hz => ?_) (by omega) ?_
        · have := ha (i + 1) z hz
          rw [show st + (j + 1) + i = st + j + (i + 1) by omega]
          exact this
        · have := hbb (i + 1) z hz
          rw [show p + (j + 1) + i = p + j + (i + 1) by omega]
          exact this
        · by_cases c : a = b
          · rw [if_pos c]
            rw [if_pos (by rw [c])] at q
            exact q
          · rw [if_neg c]
            rw [if_neg (fun e => c (List.cons.inj e).2)] at q
            exact q
      · rw [if_neg (fun e => hc (by rw [(List.cons.inj e).1]))] at q
        exact kX5_isKeyword_43 q
end CV
