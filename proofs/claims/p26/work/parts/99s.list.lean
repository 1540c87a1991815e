/-! the law's list: the road by hand while it is made, and the text -/
section LI
variable {E : Nat → Value} {d : Nat} {S S' S0 S1 : aS} {M M' M0 M1 : Nat → Nat → Int} {Q : Option (Option Value) → aS → aI → Prop} {cb bo bt s sb v z Jn : Nat} {bs : List Int} {c m T : Nat → Nat} {A : Nat → Nat → Nat} {V : Nat → Nat → Nat → Int}
/-- the road by hand, with tables 2 to Jn and m j rows of table j -/
def Li (cb s : Nat) (c : Nat → Nat) (V : Nat → Nat → Nat → Int) (S : aS) (M : Nat → Nat → Int) (Jn : Nat) (m T : Nat → Nat) (A : Nat → Nat → Nat) : Prop :=
  (aK S s = 10 ∧ cb ≤ s ∧ s < aX S) ∧ (M s 0 = 0 ∧ M s 1 = 200 ∧ M s 7 = -1) ∧
  (∀ j, 2 ≤ j → j ≤ Jn → aP S s j = some (T j) ∧ aK S (T j) = 102 ∧ aN S (T j) = c j ∧ cb ≤ T j ∧ T j < aX S) ∧
  (∀ j k, 2 ≤ j → j ≤ Jn → k < m j → aP S (T j) k = some (A j k) ∧ aK S (A j k) = 100 ∧ aN S (A j k) = wd j ∧ (∀ q, q < wd j → M (A j k) q = V j k q) ∧ cb ≤ A j k ∧ A j k < aX S) ∧
  (∀ j k j' k', 2 ≤ j → j ≤ Jn → k < m j → 2 ≤ j' → j' ≤ Jn → k' < m j' → A j k = A j' k' → j = j' ∧ k = k') ∧ (∀ j j', 2 ≤ j → j ≤ Jn → 2 ≤ j' → j' ≤ Jn → T j = T j' → j = j') ∧ ((∀ j, Jn < j → m j = 0) ∧ ∀ j, 2 ≤ j → j < Jn → m j = c j) ∧ Jn ≤ 6
/-- cells of these kinds stay -/
theorem Li.fr (h : Li cb s c V S M Jn m T A) (hx : aX S ≤ aX S') (g : ∀ x, x < aX S → aK S x ≠ 1 → aK S x ≠ 101 → (aK S' x = aK S x ∧ aN S' x = aN S x ∧ aP S' x = aP S x) ∧ M' x = M x) : Li cb s c V S' M' Jn m T A := by
  obtain ⟨⟨a1, a2, a3⟩, a4, a5, a6, a7, a8, a9, a10⟩ := h
  have gs := g s a3 (by omega) (by omega)
  refine ⟨⟨gs.1.1.trans a1, a2, by omega⟩, by rw [gs.2]; exact a4, fun j h1 h2 => ?_, fun j k h1 h2 h3 => ?_, a7, a8, a9, a10⟩
  · obtain ⟨b1, b2, b3, b4, b5⟩ := a5 j h1 h2
    have gt := g (T j) b5 (by omega) (by omega)
    exact ⟨(congrFun gs.1.2.2 j).trans b1, gt.1.1.trans b2, gt.1.2.1.trans b3, b4, by omega⟩
  · obtain ⟨b1, b2, b3, b4, b5⟩ := a5 j h1 h2
    obtain ⟨e1, e2, e3, e4, e5, e6⟩ := a6 j k h1 h2 h3
    have gt := g (T j) b5 (by omega) (by omega)
    have ga := g (A j k) e6 (by omega) (by omega)
    exact ⟨(congrFun gt.1.2.2 k).trans e1, ga.1.1.trans e2, ga.1.2.1.trans e3, fun q hq => by rw [ga.2]; exact e4 q hq, e5, by omega⟩
/-- the text beside it -/
def La (cb sb : Nat) (S0 : aS) (M0 : Nat → Nat → Int) (S : aS) (M : Nat → Nat → Int) (v : Nat) (bs : List Int) (z : Nat) : Prop := Kp cb S0 M0 S M ∧ RM M ∧ Sb S M sb v bs ∧ (cb ≤ sb ∧ cb ≤ v) ∧ aX S ≤ aX S0 + z ∧ aZ S ≤ aZ S0 + z * 8010
def Lw (cb sb s : Nat) (S0 : aS) (M0 : Nat → Nat → Int) (c : Nat → Nat) (V : Nat → Nat → Nat → Int) (S : aS) (M : Nat → Nat → Int) (v : Nat) (bs : List Int) (z Jn : Nat) (m T : Nat → Nat) (A : Nat → Nat → Nat) : Prop := La cb sb S0 M0 S M v bs z ∧ Li cb s c V S M Jn m T A
theorem Lw.ap (h : Lw cb sb s S0 M0 c V S M v bs z Jn m T A) {v' : Nat} {bs' : List Int} (ha : Ap S M sb v S' M' v') (hs : Sb S' M' sb v' bs') : Lw cb sb s S0 M0 c V S' M' v' bs' (z + 1) Jn m T A := by
  obtain ⟨⟨h1, h2, h3, h4, h5, h6⟩, hl⟩ := h
  obtain ⟨⟨a1, a2, a3⟩, a4, a5, a6, a7⟩ := ha
  have hk1 := h3.1
  have hk2 := h3.2.2.2.2.1
  refine ⟨⟨⟨Nat.le_trans h1.1 a1, fun x hx => ?_⟩, a5, hs, ⟨h4.1, ?_⟩, by omega, by omega⟩, hl.fr a1 (fun x hx k1 k2 => ?_)⟩
  · have g := h1.2 x hx
    have hsx := h3.2.2.2.2.2.2.2.2.2.1
    have hxs : x < aX S := by omega
    have e := a4.2 x hxs
    exact ⟨⟨e.1.trans g.1.1, e.2.1.trans g.1.2.1, (e.2.2 (by omega)).trans g.1.2.2⟩, (a6 x hxs (by omega) (by omega)).trans g.2⟩
  · have hvx := h3.2.2.2.2.2.2.2.2.2.2
    omega
  · have e := a4.2 x hx
    have n1 : x ≠ sb := fun e => k1 (by rw [e]; exact hk1)
    have n2 : x ≠ v := fun e => k2 (by rw [e]; exact hk2)
    exact ⟨⟨e.1, e.2.1, e.2.2 n1⟩, a6 x hx n1 n2⟩
theorem Lw.kp {y : Nat} (h : Lw cb sb s S0 M0 c V S M v bs z Jn m T A) (g : Kp (aX S) S M S' M') (hM : RM M') (hx : aX S' ≤ aX S + y) (hz : aZ S' ≤ aZ S + y * 8010) : Lw cb sb s S0 M0 c V S' M' v bs (z + y) Jn m T A := by
  obtain ⟨⟨h1, h2, h3, h4, h5, h6⟩, hl⟩ := h
  have hsx := h3.2.2.2.2.2.2.2.2.2.1
  have hvx := h3.2.2.2.2.2.2.2.2.2.2
  refine ⟨⟨h1.tr g (by omega), hM, h3.kp g hsx hvx, h4, by omega, ?_⟩, hl.fr g.1 (fun x hx _ _ => g.2 x hx)⟩
  rw [Nat.add_mul]
  omega
theorem Lw.wl (h : Lw cb sb s S0 M0 c V S M v bs z Jn m T A) (hW : Wl E S0 M0 cb bo bt) : Wl E S M cb bo bt := hW.kp h.1.1
theorem Lw.kd (h : Lw cb sb s S0 M0 c V S M v bs z Jn m T A) : aKd S sb = 1 := h.1.2.2.1.kd
theorem lwLit {n b w : Nat} (hW : Wl E S0 M0 cb bo bt) (h : Lw cb sb s S0 M0 c V S M v bs z Jn m T A) (hb : b < cb) (hw : w < cb) (hs : Str S0 M0 b w (lb n)) (hl : bs.length + (lb n).length ≤ 4000) (hd : 5 ≤ d)
    (q : ∀ S' M' v', Lw cb sb s S0 M0 c V S' M' v' (bs ++ lb n) (z + 1) Jn m T A → Q (some (some (.ref sb))) S' (mI M')) : X E d fJ4_append_15ec4 0 [some (.ref sb), some (.ref b)] [] S (mI M) Q :=
  jApp hW.1 h.1.2.1 h.1.2.2.1 (hs.kp h.1.1 hb hw) (by have := h.1.2.2.2.1.2; omega) hl hd (fun S' M' v' ha hs' => q S' M' v' (h.ap ha hs'))
theorem lwInt {n : Nat} {x : Int} (hW : Wl E S0 M0 cb bo bt) (h : Lw cb sb s S0 M0 c V S M v bs z Jn m T A) (hx : x = (n : Int)) (hn : n < 1000) (hl : bs.length + 3 ≤ 4000) (hd : 5 ≤ d)
    (q : ∀ S' M' v', Lw cb sb s S0 M0 c V S' M' v' (bs ++ dg n) (z + 1) Jn m T A → Q (some (some (.ref sb))) S' (mI M')) : X E d fJ4_append_bf812 0 [some (.ref sb), some (J x)] [] S (mI M) Q := by
  subst hx
  have hW' := h.wl hW
  have h4 := h.1.2.2.2.1
  have b1 := hW.2.1.2.1
  have b2 := hW.2.1.2.2
  exact jAppI hW.1 h.1.2.1 h.1.2.2.1 hW'.2.1.1 (by omega) (by omega) hn hl hd (fun S' M' v' ha hs' => q S' M' v' (h.ap ha hs'))
/-- the string of a method is appended -/
theorem lwRs {b w y : Nat} {cs : List Int} (hW : Wl E S0 M0 cb bo bt) (h : Lw cb sb s S0 M0 c V S M v bs z Jn m T A) (hr : Rs S M S1 M1 b w cb cs y) (hl : bs.length + cs.length ≤ 4000) (hd : 5 ≤ d)
    (q : ∀ S' M' v', Lw cb sb s S0 M0 c V S' M' v' (bs ++ cs) (z + y + 1) Jn m T A → Q (some (some (.ref sb))) S' (mI M')) : X E d fJ4_append_15ec4 0 [some (.ref sb), some (.ref b)] [] S1 (mI M1) Q := by
  obtain ⟨r1, r2, r3, r4, r5, r6⟩ := hr
  have h1 := h.kp r1 r2 r5 r6
  have hvx := h.1.2.2.1.2.2.2.2.2.2.2.2.2.2
  have hv := h.1.2.2.2.1.2
  exact jApp hW.1 h1.1.2.1 h1.1.2.2.1 r3 (by omega) hl hd (fun S' M' v' ha hs' => q S' M' v' (h1.ap ha hs'))
def updN {α : Type} (f : Nat → α) (a : Nat) (x : α) : Nat → α := fun i => if i = a then x else f i
def upd2 (f : Nat → Nat → Nat) (j k x : Nat) : Nat → Nat → Nat := fun a b => if a = j ∧ b = k then x else f a b
theorem updN_s {α : Type} {f : Nat → α} {a : Nat} {x : α} : updN f a x a = x := if_pos rfl
theorem updN_n {α : Type} {f : Nat → α} {a b : Nat} {x : α} (h : b ≠ a) : updN f a x b = f b := if_neg h
/-- a new table -/
theorem Lw.tab {n : Nat} (h : Lw cb sb s S0 M0 c V S M v bs z Jn m T A) (hJ : Jn < 6) (hJ1 : 1 ≤ Jn) (hm : 2 ≤ Jn → m Jn = c Jn) (hn : n = c (Jn + 1)) (hnb : n ≤ 100) : Lw cb sb s S0 M0 c V (aPut (aNew S 102 n n) s (Jn + 1) (some (aX S))) (aU M (aX S) (fun _ => 0)) v bs (z + 1) (Jn + 1) m (updN T (Jn + 1) (aX S)) A := by
  obtain ⟨⟨h1, h2, h3, h4, h5, h6⟩, ⟨a1, a2, a3⟩, a4, a5, a6, a7, a8, a9, a10⟩ := h
  have hsb := h3.2.2.2.2.2.2.2.2.2.1
  have hvx := h3.2.2.2.2.2.2.2.2.2.2
  have hk1 := h3.1
  have hk2 := h3.2.2.2.2.1
  have hcx : cb ≤ aX S := by omega
  have ns : sb ≠ s := fun e => by rw [e] at hk1; omega
  have nv : v ≠ s := fun e => by rw [e] at hk2; omega
  have K : ∀ x, x < aX S → aK (aPut (aNew S 102 n n) s (Jn + 1) (some (aX S))) x = aK S x := fun x hx => pK_lt hx
  have N : ∀ x, x < aX S → aN (aPut (aNew S 102 n n) s (Jn + 1) (some (aX S))) x = aN S x := fun x hx => pN_lt hx
  have P : ∀ x, x < aX S → x ≠ s → aP (aPut (aNew S 102 n n) s (Jn + 1) (some (aX S))) x = aP S x := fun x hx hn => pP_lt hn hx
  have Ps' : ∀ j, j ≠ Jn + 1 → aP (aPut (aNew S 102 n n) s (Jn + 1) (some (aX S))) s j = aP S s j := fun j hj => (aPut_at hj).trans (congrFun (nP_lt (k := 102) (n := n) (m := n) a3) j)
  have Mm : ∀ x, x < aX S → aU M (aX S) (fun _ => 0) x = M x := fun x hx => aU_ne _ _ (Nat.ne_of_lt hx)
  have ex : aX (aPut (aNew S 102 n n) s (Jn + 1) (some (aX S))) = aX S + 1 := rfl
  have ez : aZ (aPut (aNew S 102 n n) s (Jn + 1) (some (aX S))) = aZ S + n := rfl
  have nx : aN (aPut (aNew S 102 n n) s (Jn + 1) (some (aX S))) (aX S) = n := (aNew_N : aN (aNew S 102 n n) (aX S) = n)
  have kx : aK (aPut (aNew S 102 n n) s (Jn + 1) (some (aX S))) (aX S) = 102 := (aNew_K : aK (aNew S 102 n n) (aX S) = 102)
  refine ⟨⟨⟨by rw [ex]; have := h1.1; omega, fun x hx => ?_⟩, RM.nw h2, ?_, h4, by rw [ex]; omega, by rw [ez]; omega⟩, ⟨(K s a3).trans a1, a2, by rw [ex]; omega⟩, by rw [Mm s a3]; exact a4, fun j j1 j2 => ?_, fun j k j1 j2 j3 => ?_, fun j k j' k' j1 j2 j3 j4 j5 j6 e => ?_, fun j j' j1 j2 j3 j4 e => ?_, ⟨fun j hj => a9.1 j (by omega), fun j hj hj2 => by
    by_cases e : j = Jn
    · subst e; exact hm hj
    · exact a9.2 j hj (by omega)⟩, by omega⟩
  · have g := h1.2 x hx
    exact ⟨⟨(K x (by omega)).trans g.1.1, (N x (by omega)).trans g.1.2.1, (P x (by omega) (by omega)).trans g.1.2.2⟩, (Mm x (by omega)).trans g.2⟩
  · obtain ⟨_, b2, b3, b4, _, b6, b7, b8, b9, _, _⟩ := h3
    exact ⟨(K sb hsb).trans hk1, by rw [Mm sb hsb]; exact b2, by rw [Mm sb hsb]; exact b3, (congrFun (P sb hsb ns) 0).trans b4, (K v hvx).trans hk2, by rw [N v hvx]; exact b6, by rw [N v hvx]; exact b7, fun j => by rw [Mm v hvx]; exact b8 j, fun i x hx => by rw [Mm v hvx]; exact b9 i x hx, by rw [ex]; omega, by rw [ex]; omega⟩
  · by_cases e : j = Jn + 1
    · subst e
      rw [updN_s]
      exact ⟨aPut_self, kx, nx.trans hn, hcx, by rw [ex]; omega⟩
    · rw [updN_n e]
      obtain ⟨b1, b2, b3, b4, b5⟩ := a5 j j1 (by omega)
      exact ⟨(Ps' j e).trans b1, (K _ b5).trans b2, (N _ b5).trans b3, b4, by rw [ex]; omega⟩
  · by_cases e : j = Jn + 1
    · rw [e, a9.1 (Jn + 1) (by omega)] at j3
      exact absurd j3 (Nat.not_lt_zero _)
    · rw [updN_n e]
      obtain ⟨b1, b2, b3, b4, b5⟩ := a5 j j1 (by omega)
      obtain ⟨e1, e2, e3, e4, e5, e6⟩ := a6 j k j1 (by omega) j3
      have nT : T j ≠ s := fun e => by rw [e] at b2; omega
      exact ⟨(congrFun (P _ b5 nT) k).trans e1, (K _ e6).trans e2, (N _ e6).trans e3, fun q hq => by rw [Mm _ e6]; exact e4 q hq, e5, by rw [ex]; omega⟩
  · by_cases e1 : j = Jn + 1
    · rw [e1, a9.1 (Jn + 1) (by omega)] at j3
      exact absurd j3 (Nat.not_lt_zero _)
    · by_cases e2 : j' = Jn + 1
      · rw [e2, a9.1 (Jn + 1) (by omega)] at j6
        exact absurd j6 (Nat.not_lt_zero _)
      · exact a7 j k j' k' j1 (by omega) j3 j4 (by omega) j6 e
  · by_cases e1 : j = Jn + 1
    · by_cases e2 : j' = Jn + 1
      · rw [e1, e2]
      · rw [e1, updN_s, updN_n e2] at e
        have := (a5 j' j3 (by omega)).2.2.2.2
        omega
    · by_cases e2 : j' = Jn + 1
      · rw [e2, updN_s, updN_n e1] at e
        have := (a5 j j1 (by omega)).2.2.2.2
        omega
      · rw [updN_n e1, updN_n e2] at e
        exact a8 j j' j1 (by omega) j3 (by omega) e
/-- a new row -/
theorem Lw.rw_ {j k : Nat} (h : Lw cb sb s S0 M0 c V S M v bs z Jn m T A) (hj : 2 ≤ j) (hJe : j = Jn) (hk : k = m j) (hS : S1 = aNew S 100 (wd j) (wd j)) (hM : RM M1) (hf : ∀ x, x < aX S → M1 x = M x) (hv : ∀ q, q < wd j → M1 (aX S) q = V j k q) : Lw cb sb s S0 M0 c V (aPut S1 (T j) k (some (aX S))) M1 v bs (z + 1) Jn (updN m j (k + 1)) T (upd2 A j k (aX S)) := by
  have hJ : j ≤ Jn := Nat.le_of_eq hJe
  obtain ⟨⟨h1, h2, h3, h4, h5, h6⟩, ⟨a1, a2, a3⟩, a4, a5, a6, a7, a8, a9, a10⟩ := h
  have hsb := h3.2.2.2.2.2.2.2.2.2.1
  have hvx := h3.2.2.2.2.2.2.2.2.2.2
  have hk1 := h3.1
  have hk2 := h3.2.2.2.2.1
  have hcx : cb ≤ aX S := by omega
  obtain ⟨b1, b2, b3, b4, b5⟩ := a5 j hj hJ
  have ns : sb ≠ T j := fun e => by rw [e] at hk1; omega
  have nv : v ≠ T j := fun e => by rw [e] at hk2; omega
  have nss : s ≠ T j := fun e => by rw [e] at a1; omega
  subst hS
  have hwd : wd j ≤ 10 := by unfold wd; (repeat' split) <;> omega
  have K : ∀ x, x < aX S → aK (aPut (aNew S 100 (wd j) (wd j)) (T j) k (some (aX S))) x = aK S x := fun x hx => pK_lt hx
  have N : ∀ x, x < aX S → aN (aPut (aNew S 100 (wd j) (wd j)) (T j) k (some (aX S))) x = aN S x := fun x hx => pN_lt hx
  have P : ∀ x, x < aX S → x ≠ T j → aP (aPut (aNew S 100 (wd j) (wd j)) (T j) k (some (aX S))) x = aP S x := fun x hx hn => pP_lt hn hx
  have Pt : ∀ i, i ≠ k → aP (aPut (aNew S 100 (wd j) (wd j)) (T j) k (some (aX S))) (T j) i = aP S (T j) i := fun i hi => (aPut_at hi).trans (congrFun (nP_lt (k := 100) (n := wd j) (m := wd j) b5) i)
  have ex : aX (aPut (aNew S 100 (wd j) (wd j)) (T j) k (some (aX S))) = aX S + 1 := rfl
  have ez : aZ (aPut (aNew S 100 (wd j) (wd j)) (T j) k (some (aX S))) = aZ S + wd j := rfl
  have nx : aN (aPut (aNew S 100 (wd j) (wd j)) (T j) k (some (aX S))) (aX S) = wd j := (aNew_N : aN (aNew S 100 (wd j) (wd j)) (aX S) = wd j)
  have kx : aK (aPut (aNew S 100 (wd j) (wd j)) (T j) k (some (aX S))) (aX S) = 100 := (aNew_K : aK (aNew S 100 (wd j) (wd j)) (aX S) = 100)
  refine ⟨⟨⟨by rw [ex]; have := h1.1; omega, fun x hx => ?_⟩, hM, ?_, h4, by rw [ex]; omega, by rw [ez]; omega⟩, ⟨(K s a3).trans a1, a2, by rw [ex]; omega⟩, by rw [hf s a3]; exact a4, fun i i1 i2 => ?_, fun i q i1 i2 i3 => ?_, fun i q i' q' i1 i2 i3 i4 i5 i6 e => ?_, a8, ⟨fun i hi => ?_, fun i i1 i2 => by rw [updN_n (by omega)]; exact a9.2 i i1 i2⟩, a10⟩
  · have g := h1.2 x hx
    exact ⟨⟨(K x (by omega)).trans g.1.1, (N x (by omega)).trans g.1.2.1, (P x (by omega) (by omega)).trans g.1.2.2⟩, (hf x (by omega)).trans g.2⟩
  · obtain ⟨_, d2, d3, d4, _, d6, d7, d8, d9, _, _⟩ := h3
    exact ⟨(K sb hsb).trans hk1, by rw [hf sb hsb]; exact d2, by rw [hf sb hsb]; exact d3, (congrFun (P sb hsb ns) 0).trans d4, (K v hvx).trans hk2, by rw [N v hvx]; exact d6, by rw [N v hvx]; exact d7, fun j => by rw [hf v hvx]; exact d8 j, fun i x hx => by rw [hf v hvx]; exact d9 i x hx, by rw [ex]; omega, by rw [ex]; omega⟩
  · obtain ⟨d1, d2, d3, d4, d5⟩ := a5 i i1 i2
    exact ⟨(congrFun (P s a3 nss) i).trans d1, (K _ d5).trans d2, (N _ d5).trans d3, d4, by rw [ex]; omega⟩
  · obtain ⟨d1, d2, d3, d4, d5⟩ := a5 i i1 i2
    by_cases e : i = j ∧ q = k
    · obtain ⟨e1, e2⟩ := e
      subst e1 e2
      have eA : upd2 A i q (aX S) i q = aX S := if_pos ⟨rfl, rfl⟩
      rw [eA]
      exact ⟨aPut_self, kx, nx, hv, hcx, by rw [ex]; omega⟩
    · have eA : upd2 A j k (aX S) i q = A i q := if_neg e
      rw [eA]
      have hq : q < m i := by
        by_cases e1 : i = j
        · subst e1
          rw [updN_s] at i3
          omega
        · rw [updN_n e1] at i3
          exact i3
      obtain ⟨e1, e2, e3, e4, e5, e6⟩ := a6 i q i1 i2 hq
      refine ⟨?_, (K _ e6).trans e2, (N _ e6).trans e3, fun r hr => by rw [hf _ e6]; exact e4 r hr, e5, by rw [ex]; omega⟩
      by_cases e7 : i = j
      · subst e7
        exact (Pt q (by omega)).trans e1
      · exact (congrFun (P _ d5 (fun e8 => e7 (a8 i j i1 i2 hj hJ e8))) q).trans e1
  · have hlt : ∀ x y, 2 ≤ x → x ≤ Jn → y < updN m j (k + 1) x → ¬ (x = j ∧ y = k) → y < m x := fun x y _ _ h3 hn => by
      by_cases e1 : x = j
      · subst e1
        rw [updN_s] at h3
        omega
      · rw [updN_n e1] at h3
        exact h3
    by_cases e1 : i = j ∧ q = k
    · by_cases e2 : i' = j ∧ q' = k
      · exact ⟨by omega, by omega⟩
      · rw [show upd2 A j k (aX S) i q = aX S from if_pos e1, show upd2 A j k (aX S) i' q' = A i' q' from if_neg e2] at e
        have := (a6 i' q' i4 i5 (hlt i' q' i4 i5 i6 e2)).2.2.2.2.2
        omega
    · by_cases e2 : i' = j ∧ q' = k
      · rw [show upd2 A j k (aX S) i' q' = aX S from if_pos e2, show upd2 A j k (aX S) i q = A i q from if_neg e1] at e
        have := (a6 i q i1 i2 (hlt i q i1 i2 i3 e1)).2.2.2.2.2
        omega
      · rw [show upd2 A j k (aX S) i q = A i q from if_neg e1, show upd2 A j k (aX S) i' q' = A i' q' from if_neg e2] at e
        exact a7 i q i' q' i1 i2 (hlt i q i1 i2 i3 e1) i4 i5 (hlt i' q' i4 i5 i6 e2) e
  · rw [updN_n (by omega)]
    exact a9.1 i hi
end LI
