/-! the law's texts: literals, builders, sum and test (wip/p26/gen99r.py) -/
section LT
variable {E : Nat → Value} {d : Nat} {S S' S0 : aS} {M M' M0 : Nat → Nat → Int} {Q : Option (Option Value) → aS → aI → Prop} {cb bo bt sb v z : Nat} {bs : List Int}
def lits : List (List Nat) := [[40, 41, 91, 93, 59, 44, 43, 45, 42, 47, 60, 62, 61], [115, 116, 114, 101, 116, 99, 104, 32, 109, 105, 108, 101, 115, 32, 115, 111, 102, 116, 32, 103, 97, 116, 101, 32, 97, 116, 32, 116, 111, 108, 108, 32, 116, 114, 97, 102, 102, 105, 99, 32, 119, 101, 105, 103, 104, 116, 32, 119, 104, 101, 101, 108, 115, 32, 102, 114, 111, 109, 32, 116, 111, 32, 101, 118, 101, 114, 121, 32, 102, 114, 101, 101, 32, 102, 97, 114, 109, 32, 102, 111, 114, 32, 109, 101, 110, 100, 32, 119, 105, 116, 104, 32, 119, 104, 101, 110, 32, 100, 97, 121, 32, 99, 111, 105, 110, 115, 32, 119, 111, 114, 115, 116, 32, 99, 111, 110, 100, 105, 116, 105, 111, 110, 32, 116, 97, 107, 101, 110, 32, 103, 97, 105, 110, 32, 112, 97, 115, 115, 101, 100, 32, 102, 97, 114, 109, 101, 100, 32, 98, 114, 111, 107, 101, 110, 32, 110, 111, 116, 32, 97, 110, 100, 32, 111, 114, 32, 109, 105, 110, 32, 109, 97, 120], [115, 116, 114, 101, 116, 99, 104, 32, 115], [32, 109, 105, 108, 101, 115, 32], [32, 115, 111, 102, 116, 32], [59], [103, 97, 116, 101, 32, 103], [32, 97, 116, 32], [32, 116, 111, 108, 108, 32], [32, 59, 10], [116, 114, 97, 102, 102, 105, 99, 32, 116], [32, 119, 101, 105, 103, 104, 116, 32], [32, 119, 104, 101, 101, 108, 115, 32], [32, 102, 114, 111, 109, 32], [32, 116, 111, 32], [32, 101, 118, 101, 114, 121, 32], [102, 114, 101, 101, 32, 116], [32, 97, 116, 32, 103], [32, 119, 104, 101, 110, 32], [100, 97, 121, 62], [47, 52], [102, 97, 114, 109, 101, 100, 32, 103], [110, 111, 116, 32, 98, 114, 111, 107, 101, 110, 32, 115], [32, 111, 114, 32, 99, 111, 105, 110, 115, 62], [119, 111, 114, 115, 116, 32, 115], [60], [116, 97, 107, 101, 110, 32, 103], [62, 61], [42, 50, 32, 97, 110, 100, 32, 110, 111, 116, 32, 102, 97, 114, 109, 101, 100, 32, 103], [91, 99, 111, 110, 100, 105, 116, 105, 111, 110, 40], [41, 60], [32, 111, 114, 32, 100, 97, 121, 47, 50, 42, 50, 61, 100, 97, 121, 93, 97, 110, 100, 32, 112, 97, 115, 115, 101, 100, 32, 116], [103, 97, 105, 110, 32, 103], [60, 48], [47, 50, 42, 50, 61], [102, 97, 114, 109, 32, 103], [32, 102, 111, 114, 32], [109, 101, 110, 100, 32, 115], [32, 119, 105, 116, 104, 32], [], [99, 111, 105, 110, 115, 47, 57], [49, 48, 48, 45, 119, 111, 114, 115, 116, 32, 115], [109, 105, 110, 40, 99, 111, 110, 100, 105, 116, 105, 111, 110, 40], [41, 44], [41, 47, 51], [109, 97, 120, 40, 103, 97, 105, 110, 32, 103], [44, 48, 41, 43], [47, 57], [100, 97, 121, 45]]
def lb (n : Nat) : List Int := (lits.getD (n - 111) []).map (fun x : Nat => (x : Int))
/-- cells below cb stay -/
def Kp (cb : Nat) (S : aS) (M : Nat → Nat → Int) (S' : aS) (M' : Nat → Nat → Int) : Prop := aX S ≤ aX S' ∧ ∀ x, x < cb → (aK S' x = aK S x ∧ aN S' x = aN S x ∧ aP S' x = aP S x) ∧ M' x = M x
theorem Kp.rf : Kp cb S M S M := ⟨Nat.le_refl _, fun _ _ => ⟨⟨rfl, rfl, rfl⟩, rfl⟩⟩
theorem Kp.tr {cb' : Nat} {S2 : aS} {M2 : Nat → Nat → Int} (h : Kp cb S M S' M') (g : Kp cb' S' M' S2 M2) (hc : cb ≤ cb') : Kp cb S M S2 M2 := ⟨Nat.le_trans h.1 g.1, fun x hx => by
  have h1 := h.2 x hx
  have h2 := g.2 x (Nat.lt_of_lt_of_le hx hc)
  exact ⟨⟨h2.1.1.trans h1.1.1, h2.1.2.1.trans h1.1.2.1, h2.1.2.2.trans h1.1.2.2⟩, h2.2.trans h1.2⟩⟩
theorem Kp.dn {cb' : Nat} (h : Kp cb' S M S' M') (hc : cb ≤ cb') : Kp cb S M S' M' := ⟨h.1, fun x hx => h.2 x (Nat.lt_of_lt_of_le hx hc)⟩
theorem Kp.kd {x : Nat} (h : Kp cb S M S' M') (hx : x < cb) : aKd S' x = aKd S x := aExt_kd (h.2 x hx).1
theorem Str.kp {b w : Nat} {cs : List Int} (h : Str S M b w cs) (g : Kp cb S M S' M') (hb : b < cb) (hw : w < cb) : Str S' M' b w cs :=
  ⟨(g.kd hb).trans h.1, by rw [(g.2 b hb).2]; exact h.2.1, (congrFun (g.2 b hb).1.2.2 0).trans h.2.2.1, (g.kd hw).trans h.2.2.2.1, (g.2 w hw).1.2.1.trans h.2.2.2.2.1, fun i x hx => by rw [(g.2 w hw).2]; exact h.2.2.2.2.2.1 i x hx, h.2.2.2.2.2.2.1, Nat.lt_of_lt_of_le h.2.2.2.2.2.2.2.1 g.1, Nat.lt_of_lt_of_le h.2.2.2.2.2.2.2.2 g.1⟩
theorem Sb.kp (h : Sb S M sb v bs) (g : Kp cb S M S' M') (hb : sb < cb) (hw : v < cb) : Sb S' M' sb v bs := by
  obtain ⟨h1, h2, h3, h4, h5, h6, h7, h8, h9, h10, h11⟩ := h
  have a := g.2 sb hb
  have b := g.2 v hw
  exact ⟨a.1.1.trans h1, by rw [a.2]; exact h2, by rw [a.2]; exact h3, (congrFun a.1.2.2 0).trans h4, b.1.1.trans h5, by rw [b.1.2.1]; exact h6, by rw [b.1.2.1]; exact h7, fun j => by rw [b.2]; exact h8 j, fun i x hx => by rw [b.2]; exact h9 i x hx, Nat.lt_of_lt_of_le h10 g.1, Nat.lt_of_lt_of_le h11 g.1⟩
/-- the literals and the tables of digits, all below cb -/
def Wl (E : Nat → Value) (S : aS) (M : Nat → Nat → Int) (cb bo bt : Nat) : Prop := E 2 = J 1 ∧ (Dt E S M bo bt ∧ bo < cb ∧ bt < cb) ∧ ∀ n, 113 ≤ n → n ≤ 159 → ∃ b w : Nat, E n = .ref b ∧ b < cb ∧ w < cb ∧ Str S M b w (lb n)
theorem Wl.kp (h : Wl E S M cb bo bt) (g : Kp cb S M S' M') : Wl E S' M' cb bo bt := by
  obtain ⟨h1, ⟨⟨d1, d2, d3, d4, d5, d6, d7, d8, d9⟩, h3, h4⟩, h5⟩ := h
  refine ⟨h1, ⟨⟨d1, d2, (g.kd h3).trans d3, (g.kd h4).trans d4, (g.2 bo h3).1.2.1.trans d5, (g.2 bt h4).1.2.1.trans d6, fun r hr => by rw [(g.2 bo h3).2, (g.2 bt h4).2]; exact d7 r hr, Nat.lt_of_lt_of_le d8 g.1, Nat.lt_of_lt_of_le d9 g.1⟩, h3, h4⟩, fun n n1 n2 => ?_⟩
  obtain ⟨b, w, e1, e2, e3, e4⟩ := h5 n n1 n2
  exact ⟨b, w, e1, e2, e3, e4.kp g e2 e3⟩
/-- a builder begun at S0: what was before stays -/
def Ch (S0 : aS) (M0 : Nat → Nat → Int) (S : aS) (M : Nat → Nat → Int) (sb v : Nat) (bs : List Int) (z : Nat) : Prop := Kp (aX S0) S0 M0 S M ∧ RM M ∧ Sb S M sb v bs ∧ (aX S0 ≤ sb ∧ aX S0 ≤ v) ∧ aX S ≤ aX S0 + z ∧ aZ S ≤ aZ S0 + z * 8010
theorem Ch.kd (h : Ch S0 M0 S M sb v bs z) : aKd S sb = 1 := h.2.2.1.kd
theorem Ch.kp (h : Ch S0 M0 S M sb v bs z) : Kp (aX S0) S0 M0 S M := h.1
theorem Ch.of (h : Ch S0 M0 S M sb v bs z) {v' : Nat} {bs' : List Int} (ha : Ap S M sb v S' M' v') (hs : Sb S' M' sb v' bs') : Ch S0 M0 S' M' sb v' bs' (z + 1) := by
  obtain ⟨h1, h2, h3, h4, h5, h6⟩ := h
  obtain ⟨⟨a1, a2, a3⟩, a4, a5, a6, a7⟩ := ha
  refine ⟨⟨Nat.le_trans h1.1 a1, fun x hx => ?_⟩, a5, hs, ⟨h4.1, ?_⟩, by omega, by omega⟩
  · have g := h1.2 x hx
    have hxs : x < aX S := Nat.lt_of_lt_of_le hx h1.1
    have e := a4.2 x hxs
    exact ⟨⟨e.1.trans g.1.1, e.2.1.trans g.1.2.1, (e.2.2 (by omega)).trans g.1.2.2⟩, (a6 x hxs (by omega) (by omega)).trans g.2⟩
  · have := h1.1
    omega
theorem chInit (e2 : E 2 = J 1) (hM : RM M0) (hd : 1 ≤ d) (q : ∀ S M v, Ch S0 M0 S M (aX S0) v [] 2 → Q (some none) S (mI M)) : X E d fJ4_init_da8c8 0 [some (.ref (aX S0))] [] (aNew S0 1 4 4) (mI (aU M0 (aX S0) (fun _ => 0))) Q := by
  refine jInit e2 aNew_K (Nat.lt_succ_self _) (RM.nw hM) (by rw [aU_self]) hd (fun S' M' x1 z1 a1 m1 f1 s1 => q S' M' _ ⟨⟨?_, fun x hx => ?_⟩, m1, s1, ⟨Nat.le_refl _, ?_⟩, ?_, ?_⟩)
  · have e : aX (aNew S0 1 4 4) = aX S0 + 1 := rfl
    omega
  · have g := a1.2 x (Nat.lt_succ_of_lt hx)
    have hne : x ≠ aX S0 := Nat.ne_of_lt hx
    exact ⟨⟨g.1.trans (nK_lt hx), g.2.1.trans (nN_lt hx), (g.2.2 hne).trans (nP_lt hx)⟩, (f1 x (Nat.lt_succ_of_lt hx) hne).trans (aU_ne _ _ hne)⟩
  · exact Nat.le_succ _
  · have e : aX (aNew S0 1 4 4) = aX S0 + 1 := rfl
    omega
  · have e : aZ (aNew S0 1 4 4) = aZ S0 + 4 := rfl
    omega
theorem chLit {n b w : Nat} {cs : List Int} (e2 : E 2 = J 1) (h : Ch S0 M0 S M sb v bs z) (hb : b < aX S0) (hw : w < aX S0) (hs : Str S0 M0 b w cs) (hl : bs.length + cs.length ≤ 4000) (hd : 5 ≤ d)
    (q : ∀ S' M' v', Ch S0 M0 S' M' sb v' (bs ++ cs) (z + 1) → Q (some (some (.ref sb))) S' (mI M')) : X E d fJ4_append_15ec4 0 [some (.ref sb), some (.ref b)] [] S (mI M) Q :=
  jApp e2 h.2.1 h.2.2.1 (hs.kp h.1 hb hw) (by have := h.2.2.2.1.2; omega) hl hd (fun S' M' v' ha hs' => q S' M' v' (h.of ha hs'))
theorem chInt {n : Nat} (e2 : E 2 = J 1) (hW : Wl E S0 M0 cb bo bt) (hcb : cb ≤ aX S0) (h : Ch S0 M0 S M sb v bs z) (hn : n < 1000) (hl : bs.length + 3 ≤ 4000) (hd : 5 ≤ d)
    (q : ∀ S' M' v', Ch S0 M0 S' M' sb v' (bs ++ dg n) (z + 1) → Q (some (some (.ref sb))) S' (mI M')) : X E d fJ4_append_bf812 0 [some (.ref sb), some (J (n : Int))] [] S (mI M) Q := by
  have hW' := hW.kp (h.1.dn hcb)
  have h4 := h.2.2.2.1
  have b1 := hW.2.1.2.1
  have b2 := hW.2.1.2.2
  exact jAppI e2 h.2.1 h.2.2.1 hW'.2.1.1 (by omega) (by omega) hn hl hd (fun S' M' v' ha hs' => q S' M' v' (h.of ha hs'))
/-- a string that a method gives back -/
def Rs (S0 : aS) (M0 : Nat → Nat → Int) (S : aS) (M : Nat → Nat → Int) (b w cb : Nat) (bs : List Int) (z : Nat) : Prop := Kp (aX S0) S0 M0 S M ∧ RM M ∧ Str S M b w bs ∧ (w < cb ∨ aX S0 ≤ w) ∧ aX S ≤ aX S0 + z ∧ aZ S ≤ aZ S0 + z * 8010
theorem chEnd (e2 : E 2 = J 1) (h : Ch S0 M0 S M sb v bs z) (hl : bs.length ≤ 4000) (hd : 7 ≤ d) (q : ∀ S' M' b w, Rs S0 M0 S' M' b w cb bs (z + 2) → Q (some (some (.ref b))) S' (mI M')) : X E d fJ4_toString_0e30d 0 [some (.ref sb)] [] S (mI M) Q := by
  obtain ⟨h1, h2, h3, h4, h5, h6⟩ := h
  refine jStr e2 h2 h3 hl hd (fun S' M' x1 z1 a1 m1 f1 s1 => q S' M' _ _ ⟨⟨Nat.le_trans h1.1 a1.1, fun x hx => ?_⟩, m1, s1, Or.inr (by have := h1.1; omega), by omega, by omega⟩)
  have g := h1.2 x hx
  have hxs : x < aX S := Nat.lt_of_lt_of_le hx h1.1
  have e := a1.2 x hxs
  exact ⟨⟨e.1.trans g.1.1, e.2.1.trans g.1.2.1, e.2.2.trans g.1.2.2⟩, (f1 x hxs).trans g.2⟩
/-- a row of an order -/
abbrev Ow (S : aS) (M : Nat → Nat → Int) (a : Nat) (r : Nat → Nat) : Prop := a < aX S ∧ aKd S a = 100 ∧ aN S a = 10 ∧ ∀ j, j < 10 → j ≠ 4 → M a j = (r j : Int) ∧ r j < 1000
theorem ch3 {l1 l2 : List Int} {n : Nat} {k : Nat} (h : l1.length + k ≤ 4000) (e : l2.length ≤ k) : l1.length + l2.length ≤ 4000 := by omega
theorem lb_len : ∀ n, 111 ≤ n → n ≤ 159 → (lb n).length ≤ 200 := by
  intro n h1 h2
  unfold lb
  rw [List.length_map]
  have h : ∀ k, k < 49 → (lits.getD k []).length ≤ 200 := by decide +kernel
  exact h (n - 111) (by omega)
theorem dg_l3 {n : Nat} : (dg n).length ≤ 3 := by rw [dg_len]; exact dl_le.2
def sB (r : Nat → Nat) (k : Nat) : List Int := if k = 0 then (([] ++ lb 150) ++ dg (r 3)) else if k = 1 then lb 151 else if k = 2 then (([] ++ lb 152) ++ dg (r 7)) else if k = 3 then ((((([] ++ lb 153) ++ dg (r 6)) ++ lb 154) ++ dg (r 3)) ++ lb 155) else if k = 4 then ((((([] ++ lb 156) ++ dg (r 8)) ++ lb 157) ++ dg (r 3)) ++ lb 158) else (([] ++ lb 159) ++ dg (r 3))
set_option maxHeartbeats 1000000 in
theorem mL_sum_0 {r : Nat → Nat} {a : Nat} (hW : Wl E S0 M0 cb bo bt) (hM : RM M0) (ho : Ow S0 M0 a r) (hcb : cb ≤ aX S0) (hd : 20 ≤ d) (q : ∀ S M b w, Rs S0 M0 S M b w cb (([] ++ lb 150) ++ dg (r 3)) 16 → Q (some (some (.ref b))) S (mI M)) :
    X E d fL_sum 40 [some (.ref a), some (J (M0 a 3))] [] S0 (mI M0) Q := by
  have e2 := hW.1
  have hL := hW.2.2
  obtain ⟨ha, hk, hn, hr⟩ := ho
  rw [(hr 3 (by decide) (by decide)).1]
  refine kL_sum_40 (by omega) (chInit e2 hM (by omega) (fun S1 M1 v1 h1 => ⟨_, rfl, ?_⟩))
  obtain ⟨b1, w1, f1, fb1, fw1, fs1⟩ := hL 150 (by decide) (by decide)
  refine kL_sum_47 f1 (by omega) (chLit (n := 0) e2 h1 (by omega) (by omega) fs1 ?_ (by omega) (fun S2 M2 v2 h2 => ⟨_, rfl, ?_⟩)) h1.kd
  · simp only [List.length_append, List.length_nil]; have := lb_len 150 (by decide) (by decide); have := lb_len 150 (by decide) (by decide); omega
  refine kL_sum_52 (by omega) ?_ h2.kd
  refine chInt e2 hW hcb h2 (hr 3 (by decide) (by decide)).2 ?_ (by omega) (fun S3 M3 v3 h3 => ⟨_, rfl, ?_⟩)
  · simp only [List.length_append, List.length_nil]; have := lb_len 150 (by decide) (by decide); have := dg_l3 (n := r 3); omega
  refine kL_sum_56 (by omega) (chEnd (cb := cb) e2 h3 ?_ (by omega) (fun S9 M9 b9 w9 h9 => ⟨_, rfl, kL_sum_59 ?_⟩)) h3.kd
  · simp only [List.length_append, List.length_nil]; have := lb_len 150 (by decide) (by decide); have := dg_l3 (n := r 3); omega
  · exact q S9 M9 b9 w9 ⟨h9.1, h9.2.1, h9.2.2.1, h9.2.2.2.1, by have := h9.2.2.2.2.1; omega, by have := h9.2.2.2.2.2; omega⟩
set_option maxHeartbeats 1000000 in
theorem mL_sum_2 {r : Nat → Nat} {a : Nat} (hW : Wl E S0 M0 cb bo bt) (hM : RM M0) (ho : Ow S0 M0 a r) (hcb : cb ≤ aX S0) (hd : 20 ≤ d) (q : ∀ S M b w, Rs S0 M0 S M b w cb (([] ++ lb 152) ++ dg (r 7)) 16 → Q (some (some (.ref b))) S (mI M)) :
    X E d fL_sum 63 [some (.ref a), some (J (M0 a 3))] [] S0 (mI M0) Q := by
  have e2 := hW.1
  have hL := hW.2.2
  obtain ⟨ha, hk, hn, hr⟩ := ho
  rw [(hr 3 (by decide) (by decide)).1]
  refine kL_sum_63 (by omega) (chInit e2 hM (by omega) (fun S1 M1 v1 h1 => ⟨_, rfl, ?_⟩))
  obtain ⟨b1, w1, f1, fb1, fw1, fs1⟩ := hL 152 (by decide) (by decide)
  refine kL_sum_70 f1 (by omega) (chLit (n := 0) e2 h1 (by omega) (by omega) fs1 ?_ (by omega) (fun S2 M2 v2 h2 => ⟨_, rfl, ?_⟩)) h1.kd
  · simp only [List.length_append, List.length_nil]; have := lb_len 152 (by decide) (by decide); have := lb_len 152 (by decide) (by decide); omega
  have k2 : aKd S2 a = 100 := (h2.kp.kd ha).trans hk
  have n2 : aN S2 a = 10 := (h2.kp.2 a ha).1.2.1.trans hn
  refine kL_sum_75 k2 (by rw [n2]; decide) (by omega) ?_ h2.kd
  rw [show M2 a 7 = (r 7 : Int) by rw [(h2.kp.2 a ha).2]; exact (hr 7 (by decide) (by decide)).1]
  refine chInt e2 hW hcb h2 (hr 7 (by decide) (by decide)).2 ?_ (by omega) (fun S3 M3 v3 h3 => ⟨_, rfl, ?_⟩)
  · simp only [List.length_append, List.length_nil]; have := lb_len 152 (by decide) (by decide); have := dg_l3 (n := r 7); omega
  refine kL_sum_82 (by omega) (chEnd (cb := cb) e2 h3 ?_ (by omega) (fun S9 M9 b9 w9 h9 => ⟨_, rfl, kL_sum_85 ?_⟩)) h3.kd
  · simp only [List.length_append, List.length_nil]; have := lb_len 152 (by decide) (by decide); have := dg_l3 (n := r 7); omega
  · exact q S9 M9 b9 w9 ⟨h9.1, h9.2.1, h9.2.2.1, h9.2.2.2.1, by have := h9.2.2.2.2.1; omega, by have := h9.2.2.2.2.2; omega⟩
set_option maxHeartbeats 1000000 in
theorem mL_sum_3 {r : Nat → Nat} {a : Nat} (hW : Wl E S0 M0 cb bo bt) (hM : RM M0) (ho : Ow S0 M0 a r) (hcb : cb ≤ aX S0) (hd : 20 ≤ d) (q : ∀ S M b w, Rs S0 M0 S M b w cb ((((([] ++ lb 153) ++ dg (r 6)) ++ lb 154) ++ dg (r 3)) ++ lb 155) 16 → Q (some (some (.ref b))) S (mI M)) :
    X E d fL_sum 86 [some (.ref a), some (J (M0 a 3))] [] S0 (mI M0) Q := by
  have e2 := hW.1
  have hL := hW.2.2
  obtain ⟨ha, hk, hn, hr⟩ := ho
  rw [(hr 3 (by decide) (by decide)).1]
  refine kL_sum_86 (by omega) (chInit e2 hM (by omega) (fun S1 M1 v1 h1 => ⟨_, rfl, ?_⟩))
  obtain ⟨b1, w1, f1, fb1, fw1, fs1⟩ := hL 153 (by decide) (by decide)
  refine kL_sum_93 f1 (by omega) (chLit (n := 0) e2 h1 (by omega) (by omega) fs1 ?_ (by omega) (fun S2 M2 v2 h2 => ⟨_, rfl, ?_⟩)) h1.kd
  · simp only [List.length_append, List.length_nil]; have := lb_len 153 (by decide) (by decide); have := lb_len 153 (by decide) (by decide); omega
  have k2 : aKd S2 a = 100 := (h2.kp.kd ha).trans hk
  have n2 : aN S2 a = 10 := (h2.kp.2 a ha).1.2.1.trans hn
  refine kL_sum_98 k2 (by rw [n2]; decide) (by omega) ?_ h2.kd
  rw [show M2 a 6 = (r 6 : Int) by rw [(h2.kp.2 a ha).2]; exact (hr 6 (by decide) (by decide)).1]
  refine chInt e2 hW hcb h2 (hr 6 (by decide) (by decide)).2 ?_ (by omega) (fun S3 M3 v3 h3 => ⟨_, rfl, ?_⟩)
  · simp only [List.length_append, List.length_nil]; have := lb_len 153 (by decide) (by decide); have := dg_l3 (n := r 6); omega
  obtain ⟨b3, w3, f3, fb3, fw3, fs3⟩ := hL 154 (by decide) (by decide)
  refine kL_sum_105 f3 (by omega) (chLit (n := 0) e2 h3 (by omega) (by omega) fs3 ?_ (by omega) (fun S4 M4 v4 h4 => ⟨_, rfl, ?_⟩)) h3.kd
  · simp only [List.length_append, List.length_nil]; have := lb_len 154 (by decide) (by decide); have := lb_len 153 (by decide) (by decide); have := dg_l3 (n := r 6); have := lb_len 154 (by decide) (by decide); omega
  refine kL_sum_110 (by omega) ?_ h4.kd
  refine chInt e2 hW hcb h4 (hr 3 (by decide) (by decide)).2 ?_ (by omega) (fun S5 M5 v5 h5 => ⟨_, rfl, ?_⟩)
  · simp only [List.length_append, List.length_nil]; have := lb_len 153 (by decide) (by decide); have := dg_l3 (n := r 6); have := lb_len 154 (by decide) (by decide); have := dg_l3 (n := r 3); omega
  obtain ⟨b5, w5, f5, fb5, fw5, fs5⟩ := hL 155 (by decide) (by decide)
  refine kL_sum_114 f5 (by omega) (chLit (n := 0) e2 h5 (by omega) (by omega) fs5 ?_ (by omega) (fun S6 M6 v6 h6 => ⟨_, rfl, ?_⟩)) h5.kd
  · simp only [List.length_append, List.length_nil]; have := lb_len 155 (by decide) (by decide); have := lb_len 153 (by decide) (by decide); have := dg_l3 (n := r 6); have := lb_len 154 (by decide) (by decide); have := dg_l3 (n := r 3); have := lb_len 155 (by decide) (by decide); omega
  refine kL_sum_119 (by omega) (chEnd (cb := cb) e2 h6 ?_ (by omega) (fun S9 M9 b9 w9 h9 => ⟨_, rfl, kL_sum_122 ?_⟩)) h6.kd
  · simp only [List.length_append, List.length_nil]; have := lb_len 153 (by decide) (by decide); have := dg_l3 (n := r 6); have := lb_len 154 (by decide) (by decide); have := dg_l3 (n := r 3); have := lb_len 155 (by decide) (by decide); omega
  · exact q S9 M9 b9 w9 ⟨h9.1, h9.2.1, h9.2.2.1, h9.2.2.2.1, by have := h9.2.2.2.2.1; omega, by have := h9.2.2.2.2.2; omega⟩
set_option maxHeartbeats 1000000 in
theorem mL_sum_4 {r : Nat → Nat} {a : Nat} (hW : Wl E S0 M0 cb bo bt) (hM : RM M0) (ho : Ow S0 M0 a r) (hcb : cb ≤ aX S0) (hd : 20 ≤ d) (q : ∀ S M b w, Rs S0 M0 S M b w cb ((((([] ++ lb 156) ++ dg (r 8)) ++ lb 157) ++ dg (r 3)) ++ lb 158) 16 → Q (some (some (.ref b))) S (mI M)) :
    X E d fL_sum 123 [some (.ref a), some (J (M0 a 3))] [] S0 (mI M0) Q := by
  have e2 := hW.1
  have hL := hW.2.2
  obtain ⟨ha, hk, hn, hr⟩ := ho
  rw [(hr 3 (by decide) (by decide)).1]
  refine kL_sum_123 (by omega) (chInit e2 hM (by omega) (fun S1 M1 v1 h1 => ⟨_, rfl, ?_⟩))
  obtain ⟨b1, w1, f1, fb1, fw1, fs1⟩ := hL 156 (by decide) (by decide)
  refine kL_sum_130 f1 (by omega) (chLit (n := 0) e2 h1 (by omega) (by omega) fs1 ?_ (by omega) (fun S2 M2 v2 h2 => ⟨_, rfl, ?_⟩)) h1.kd
  · simp only [List.length_append, List.length_nil]; have := lb_len 156 (by decide) (by decide); have := lb_len 156 (by decide) (by decide); omega
  have k2 : aKd S2 a = 100 := (h2.kp.kd ha).trans hk
  have n2 : aN S2 a = 10 := (h2.kp.2 a ha).1.2.1.trans hn
  refine kL_sum_135 k2 (by rw [n2]; decide) (by omega) ?_ h2.kd
  rw [show M2 a 8 = (r 8 : Int) by rw [(h2.kp.2 a ha).2]; exact (hr 8 (by decide) (by decide)).1]
  refine chInt e2 hW hcb h2 (hr 8 (by decide) (by decide)).2 ?_ (by omega) (fun S3 M3 v3 h3 => ⟨_, rfl, ?_⟩)
  · simp only [List.length_append, List.length_nil]; have := lb_len 156 (by decide) (by decide); have := dg_l3 (n := r 8); omega
  obtain ⟨b3, w3, f3, fb3, fw3, fs3⟩ := hL 157 (by decide) (by decide)
  refine kL_sum_142 f3 (by omega) (chLit (n := 0) e2 h3 (by omega) (by omega) fs3 ?_ (by omega) (fun S4 M4 v4 h4 => ⟨_, rfl, ?_⟩)) h3.kd
  · simp only [List.length_append, List.length_nil]; have := lb_len 157 (by decide) (by decide); have := lb_len 156 (by decide) (by decide); have := dg_l3 (n := r 8); have := lb_len 157 (by decide) (by decide); omega
  refine kL_sum_147 (by omega) ?_ h4.kd
  refine chInt e2 hW hcb h4 (hr 3 (by decide) (by decide)).2 ?_ (by omega) (fun S5 M5 v5 h5 => ⟨_, rfl, ?_⟩)
  · simp only [List.length_append, List.length_nil]; have := lb_len 156 (by decide) (by decide); have := dg_l3 (n := r 8); have := lb_len 157 (by decide) (by decide); have := dg_l3 (n := r 3); omega
  obtain ⟨b5, w5, f5, fb5, fw5, fs5⟩ := hL 158 (by decide) (by decide)
  refine kL_sum_151 f5 (by omega) (chLit (n := 0) e2 h5 (by omega) (by omega) fs5 ?_ (by omega) (fun S6 M6 v6 h6 => ⟨_, rfl, ?_⟩)) h5.kd
  · simp only [List.length_append, List.length_nil]; have := lb_len 158 (by decide) (by decide); have := lb_len 156 (by decide) (by decide); have := dg_l3 (n := r 8); have := lb_len 157 (by decide) (by decide); have := dg_l3 (n := r 3); have := lb_len 158 (by decide) (by decide); omega
  refine kL_sum_156 (by omega) (chEnd (cb := cb) e2 h6 ?_ (by omega) (fun S9 M9 b9 w9 h9 => ⟨_, rfl, kL_sum_159 ?_⟩)) h6.kd
  · simp only [List.length_append, List.length_nil]; have := lb_len 156 (by decide) (by decide); have := dg_l3 (n := r 8); have := lb_len 157 (by decide) (by decide); have := dg_l3 (n := r 3); have := lb_len 158 (by decide) (by decide); omega
  · exact q S9 M9 b9 w9 ⟨h9.1, h9.2.1, h9.2.2.1, h9.2.2.2.1, by have := h9.2.2.2.2.1; omega, by have := h9.2.2.2.2.2; omega⟩
set_option maxHeartbeats 1000000 in
theorem mL_sum_5 {r : Nat → Nat} {a : Nat} (hW : Wl E S0 M0 cb bo bt) (hM : RM M0) (ho : Ow S0 M0 a r) (hcb : cb ≤ aX S0) (hd : 20 ≤ d) (q : ∀ S M b w, Rs S0 M0 S M b w cb (([] ++ lb 159) ++ dg (r 3)) 16 → Q (some (some (.ref b))) S (mI M)) :
    X E d fL_sum 160 [some (.ref a), some (J (M0 a 3))] [] S0 (mI M0) Q := by
  have e2 := hW.1
  have hL := hW.2.2
  obtain ⟨ha, hk, hn, hr⟩ := ho
  rw [(hr 3 (by decide) (by decide)).1]
  refine kL_sum_160 (by omega) (chInit e2 hM (by omega) (fun S1 M1 v1 h1 => ⟨_, rfl, ?_⟩))
  obtain ⟨b1, w1, f1, fb1, fw1, fs1⟩ := hL 159 (by decide) (by decide)
  refine kL_sum_167 f1 (by omega) (chLit (n := 0) e2 h1 (by omega) (by omega) fs1 ?_ (by omega) (fun S2 M2 v2 h2 => ⟨_, rfl, ?_⟩)) h1.kd
  · simp only [List.length_append, List.length_nil]; have := lb_len 159 (by decide) (by decide); have := lb_len 159 (by decide) (by decide); omega
  refine kL_sum_172 (by omega) ?_ h2.kd
  refine chInt e2 hW hcb h2 (hr 3 (by decide) (by decide)).2 ?_ (by omega) (fun S3 M3 v3 h3 => ⟨_, rfl, ?_⟩)
  · simp only [List.length_append, List.length_nil]; have := lb_len 159 (by decide) (by decide); have := dg_l3 (n := r 3); omega
  refine kL_sum_176 (by omega) (chEnd (cb := cb) e2 h3 ?_ (by omega) (fun S9 M9 b9 w9 h9 => ⟨_, rfl, kL_sum_179 ?_⟩)) h3.kd
  · simp only [List.length_append, List.length_nil]; have := lb_len 159 (by decide) (by decide); have := dg_l3 (n := r 3); omega
  · exact q S9 M9 b9 w9 ⟨h9.1, h9.2.1, h9.2.2.1, h9.2.2.2.1, by have := h9.2.2.2.2.1; omega, by have := h9.2.2.2.2.2; omega⟩
theorem mL_sum {r : Nat → Nat} {a : Nat} (hW : Wl E S0 M0 cb bo bt) (hM : RM M0) (ho : Ow S0 M0 a r) (hcb : cb ≤ aX S0) (hd : 20 ≤ d) {k : Nat} (hs : M0 a 2 = (k : Int)) (hkb : k ≤ 5) (q : ∀ S M b w, Rs S0 M0 S M b w cb (sB r k) 16 → Q (some (some (.ref b))) S (mI M)) :
    X E d fL_sum 0 [some (.ref a), none] [] S0 (mI M0) Q := by
  have ho2 := ho
  obtain ⟨ha, hk, hn, hr⟩ := ho
  refine kL_sum_0 hk (by rw [hn]; decide) (by rw [hn]; decide) (by rw [hs]; exact ⟨by omega, by omega⟩) (fun hx => ?_) (fun hx => ?_) (fun hx => ?_) (fun hx => ?_) (fun hx => ?_) (fun hx => ?_)
  · obtain rfl : k = 5 := by omega
    exact mL_sum_5 hW hM ho2 hcb hd q
  · obtain rfl : k = 0 := by omega
    exact mL_sum_0 hW hM ho2 hcb hd q
  · obtain rfl : k = 1 := by omega
    obtain ⟨b, w, f1, fb, fw, fs⟩ := hW.2.2 151 (by decide) (by decide)
    exact kL_sum_60 f1 (q S0 M0 b w ⟨Kp.rf, hM, fs, Or.inl fw, by omega, by omega⟩)
  · obtain rfl : k = 2 := by omega
    exact mL_sum_2 hW hM ho2 hcb hd q
  · obtain rfl : k = 3 := by omega
    exact mL_sum_3 hW hM ho2 hcb hd q
  · obtain rfl : k = 4 := by omega
    exact mL_sum_4 hW hM ho2 hcb hd q
def tB (r : Nat → Nat) (k : Nat) : List Int := if k = 0 then ((([] ++ lb 130) ++ dg (r 5)) ++ lb 131) else if k = 1 then (([] ++ lb 132) ++ dg (r 8)) else if k = 2 then (((([] ++ lb 133) ++ dg (r 7)) ++ lb 134) ++ dg (r 5)) else if k = 3 then (((([] ++ lb 135) ++ dg (r 7)) ++ lb 136) ++ dg (r 5)) else if k = 4 then (((((([] ++ lb 137) ++ dg (r 8)) ++ lb 138) ++ dg (r 5)) ++ lb 139) ++ dg (r 8)) else if k = 5 then (((((((([] ++ lb 140) ++ dg (r 6)) ++ lb 141) ++ dg (r 5)) ++ lb 142) ++ dg (r 9)) ++ lb 136) ++ dg (r 5)) else if k = 6 then ((([] ++ lb 143) ++ dg (r 8)) ++ lb 144) else ((([] ++ dg (r 5)) ++ lb 145) ++ dg (r 5))
set_option maxHeartbeats 1000000 in
theorem mL_test_0 {r : Nat → Nat} {a : Nat} (hW : Wl E S0 M0 cb bo bt) (hM : RM M0) (ho : Ow S0 M0 a r) (hcb : cb ≤ aX S0) (hd : 20 ≤ d) (q : ∀ S M b w, Rs S0 M0 S M b w cb ((([] ++ lb 130) ++ dg (r 5)) ++ lb 131) 16 → Q (some (some (.ref b))) S (mI M)) :
    X E d fL_test 48 [some (.ref a), some (J (M0 a 5))] [] S0 (mI M0) Q := by
  have e2 := hW.1
  have hL := hW.2.2
  obtain ⟨ha, hk, hn, hr⟩ := ho
  rw [(hr 5 (by decide) (by decide)).1]
  refine kL_test_48 (by omega) (chInit e2 hM (by omega) (fun S1 M1 v1 h1 => ⟨_, rfl, ?_⟩))
  obtain ⟨b1, w1, f1, fb1, fw1, fs1⟩ := hL 130 (by decide) (by decide)
  refine kL_test_55 f1 (by omega) (chLit (n := 0) e2 h1 (by omega) (by omega) fs1 ?_ (by omega) (fun S2 M2 v2 h2 => ⟨_, rfl, ?_⟩)) h1.kd
  · simp only [List.length_append, List.length_nil]; have := lb_len 130 (by decide) (by decide); have := lb_len 130 (by decide) (by decide); omega
  refine kL_test_60 (by omega) ?_ h2.kd
  refine chInt e2 hW hcb h2 (hr 5 (by decide) (by decide)).2 ?_ (by omega) (fun S3 M3 v3 h3 => ⟨_, rfl, ?_⟩)
  · simp only [List.length_append, List.length_nil]; have := lb_len 130 (by decide) (by decide); have := dg_l3 (n := r 5); omega
  obtain ⟨b3, w3, f3, fb3, fw3, fs3⟩ := hL 131 (by decide) (by decide)
  refine kL_test_64 f3 (by omega) (chLit (n := 0) e2 h3 (by omega) (by omega) fs3 ?_ (by omega) (fun S4 M4 v4 h4 => ⟨_, rfl, ?_⟩)) h3.kd
  · simp only [List.length_append, List.length_nil]; have := lb_len 131 (by decide) (by decide); have := lb_len 130 (by decide) (by decide); have := dg_l3 (n := r 5); have := lb_len 131 (by decide) (by decide); omega
  refine kL_test_69 (by omega) (chEnd (cb := cb) e2 h4 ?_ (by omega) (fun S9 M9 b9 w9 h9 => ⟨_, rfl, kL_test_72 ?_⟩)) h4.kd
  · simp only [List.length_append, List.length_nil]; have := lb_len 130 (by decide) (by decide); have := dg_l3 (n := r 5); have := lb_len 131 (by decide) (by decide); omega
  · exact q S9 M9 b9 w9 ⟨h9.1, h9.2.1, h9.2.2.1, h9.2.2.2.1, by have := h9.2.2.2.2.1; omega, by have := h9.2.2.2.2.2; omega⟩
set_option maxHeartbeats 1000000 in
theorem mL_test_1 {r : Nat → Nat} {a : Nat} (hW : Wl E S0 M0 cb bo bt) (hM : RM M0) (ho : Ow S0 M0 a r) (hcb : cb ≤ aX S0) (hd : 20 ≤ d) (q : ∀ S M b w, Rs S0 M0 S M b w cb (([] ++ lb 132) ++ dg (r 8)) 16 → Q (some (some (.ref b))) S (mI M)) :
    X E d fL_test 73 [some (.ref a), some (J (M0 a 5))] [] S0 (mI M0) Q := by
  have e2 := hW.1
  have hL := hW.2.2
  obtain ⟨ha, hk, hn, hr⟩ := ho
  rw [(hr 5 (by decide) (by decide)).1]
  refine kL_test_73 (by omega) (chInit e2 hM (by omega) (fun S1 M1 v1 h1 => ⟨_, rfl, ?_⟩))
  obtain ⟨b1, w1, f1, fb1, fw1, fs1⟩ := hL 132 (by decide) (by decide)
  refine kL_test_80 f1 (by omega) (chLit (n := 0) e2 h1 (by omega) (by omega) fs1 ?_ (by omega) (fun S2 M2 v2 h2 => ⟨_, rfl, ?_⟩)) h1.kd
  · simp only [List.length_append, List.length_nil]; have := lb_len 132 (by decide) (by decide); have := lb_len 132 (by decide) (by decide); omega
  have k2 : aKd S2 a = 100 := (h2.kp.kd ha).trans hk
  have n2 : aN S2 a = 10 := (h2.kp.2 a ha).1.2.1.trans hn
  refine kL_test_85 k2 (by rw [n2]; decide) (by omega) ?_ h2.kd
  rw [show M2 a 8 = (r 8 : Int) by rw [(h2.kp.2 a ha).2]; exact (hr 8 (by decide) (by decide)).1]
  refine chInt e2 hW hcb h2 (hr 8 (by decide) (by decide)).2 ?_ (by omega) (fun S3 M3 v3 h3 => ⟨_, rfl, ?_⟩)
  · simp only [List.length_append, List.length_nil]; have := lb_len 132 (by decide) (by decide); have := dg_l3 (n := r 8); omega
  refine kL_test_92 (by omega) (chEnd (cb := cb) e2 h3 ?_ (by omega) (fun S9 M9 b9 w9 h9 => ⟨_, rfl, kL_test_95 ?_⟩)) h3.kd
  · simp only [List.length_append, List.length_nil]; have := lb_len 132 (by decide) (by decide); have := dg_l3 (n := r 8); omega
  · exact q S9 M9 b9 w9 ⟨h9.1, h9.2.1, h9.2.2.1, h9.2.2.2.1, by have := h9.2.2.2.2.1; omega, by have := h9.2.2.2.2.2; omega⟩
set_option maxHeartbeats 1000000 in
theorem mL_test_2 {r : Nat → Nat} {a : Nat} (hW : Wl E S0 M0 cb bo bt) (hM : RM M0) (ho : Ow S0 M0 a r) (hcb : cb ≤ aX S0) (hd : 20 ≤ d) (q : ∀ S M b w, Rs S0 M0 S M b w cb (((([] ++ lb 133) ++ dg (r 7)) ++ lb 134) ++ dg (r 5)) 16 → Q (some (some (.ref b))) S (mI M)) :
    X E d fL_test 96 [some (.ref a), some (J (M0 a 5))] [] S0 (mI M0) Q := by
  have e2 := hW.1
  have hL := hW.2.2
  obtain ⟨ha, hk, hn, hr⟩ := ho
  rw [(hr 5 (by decide) (by decide)).1]
  refine kL_test_96 (by omega) (chInit e2 hM (by omega) (fun S1 M1 v1 h1 => ⟨_, rfl, ?_⟩))
  obtain ⟨b1, w1, f1, fb1, fw1, fs1⟩ := hL 133 (by decide) (by decide)
  refine kL_test_103 f1 (by omega) (chLit (n := 0) e2 h1 (by omega) (by omega) fs1 ?_ (by omega) (fun S2 M2 v2 h2 => ⟨_, rfl, ?_⟩)) h1.kd
  · simp only [List.length_append, List.length_nil]; have := lb_len 133 (by decide) (by decide); have := lb_len 133 (by decide) (by decide); omega
  have k2 : aKd S2 a = 100 := (h2.kp.kd ha).trans hk
  have n2 : aN S2 a = 10 := (h2.kp.2 a ha).1.2.1.trans hn
  refine kL_test_108 k2 (by rw [n2]; decide) (by omega) ?_ h2.kd
  rw [show M2 a 7 = (r 7 : Int) by rw [(h2.kp.2 a ha).2]; exact (hr 7 (by decide) (by decide)).1]
  refine chInt e2 hW hcb h2 (hr 7 (by decide) (by decide)).2 ?_ (by omega) (fun S3 M3 v3 h3 => ⟨_, rfl, ?_⟩)
  · simp only [List.length_append, List.length_nil]; have := lb_len 133 (by decide) (by decide); have := dg_l3 (n := r 7); omega
  obtain ⟨b3, w3, f3, fb3, fw3, fs3⟩ := hL 134 (by decide) (by decide)
  refine kL_test_115 f3 (by omega) (chLit (n := 0) e2 h3 (by omega) (by omega) fs3 ?_ (by omega) (fun S4 M4 v4 h4 => ⟨_, rfl, ?_⟩)) h3.kd
  · simp only [List.length_append, List.length_nil]; have := lb_len 134 (by decide) (by decide); have := lb_len 133 (by decide) (by decide); have := dg_l3 (n := r 7); have := lb_len 134 (by decide) (by decide); omega
  refine kL_test_120 (by omega) ?_ h4.kd
  refine chInt e2 hW hcb h4 (hr 5 (by decide) (by decide)).2 ?_ (by omega) (fun S5 M5 v5 h5 => ⟨_, rfl, ?_⟩)
  · simp only [List.length_append, List.length_nil]; have := lb_len 133 (by decide) (by decide); have := dg_l3 (n := r 7); have := lb_len 134 (by decide) (by decide); have := dg_l3 (n := r 5); omega
  refine kL_test_124 (by omega) (chEnd (cb := cb) e2 h5 ?_ (by omega) (fun S9 M9 b9 w9 h9 => ⟨_, rfl, kL_test_127 ?_⟩)) h5.kd
  · simp only [List.length_append, List.length_nil]; have := lb_len 133 (by decide) (by decide); have := dg_l3 (n := r 7); have := lb_len 134 (by decide) (by decide); have := dg_l3 (n := r 5); omega
  · exact q S9 M9 b9 w9 ⟨h9.1, h9.2.1, h9.2.2.1, h9.2.2.2.1, by have := h9.2.2.2.2.1; omega, by have := h9.2.2.2.2.2; omega⟩
set_option maxHeartbeats 1000000 in
theorem mL_test_3 {r : Nat → Nat} {a : Nat} (hW : Wl E S0 M0 cb bo bt) (hM : RM M0) (ho : Ow S0 M0 a r) (hcb : cb ≤ aX S0) (hd : 20 ≤ d) (q : ∀ S M b w, Rs S0 M0 S M b w cb (((([] ++ lb 135) ++ dg (r 7)) ++ lb 136) ++ dg (r 5)) 16 → Q (some (some (.ref b))) S (mI M)) :
    X E d fL_test 128 [some (.ref a), some (J (M0 a 5))] [] S0 (mI M0) Q := by
  have e2 := hW.1
  have hL := hW.2.2
  obtain ⟨ha, hk, hn, hr⟩ := ho
  rw [(hr 5 (by decide) (by decide)).1]
  refine kL_test_128 (by omega) (chInit e2 hM (by omega) (fun S1 M1 v1 h1 => ⟨_, rfl, ?_⟩))
  obtain ⟨b1, w1, f1, fb1, fw1, fs1⟩ := hL 135 (by decide) (by decide)
  refine kL_test_135 f1 (by omega) (chLit (n := 0) e2 h1 (by omega) (by omega) fs1 ?_ (by omega) (fun S2 M2 v2 h2 => ⟨_, rfl, ?_⟩)) h1.kd
  · simp only [List.length_append, List.length_nil]; have := lb_len 135 (by decide) (by decide); have := lb_len 135 (by decide) (by decide); omega
  have k2 : aKd S2 a = 100 := (h2.kp.kd ha).trans hk
  have n2 : aN S2 a = 10 := (h2.kp.2 a ha).1.2.1.trans hn
  refine kL_test_140 k2 (by rw [n2]; decide) (by omega) ?_ h2.kd
  rw [show M2 a 7 = (r 7 : Int) by rw [(h2.kp.2 a ha).2]; exact (hr 7 (by decide) (by decide)).1]
  refine chInt e2 hW hcb h2 (hr 7 (by decide) (by decide)).2 ?_ (by omega) (fun S3 M3 v3 h3 => ⟨_, rfl, ?_⟩)
  · simp only [List.length_append, List.length_nil]; have := lb_len 135 (by decide) (by decide); have := dg_l3 (n := r 7); omega
  obtain ⟨b3, w3, f3, fb3, fw3, fs3⟩ := hL 136 (by decide) (by decide)
  refine kL_test_147 f3 (by omega) (chLit (n := 0) e2 h3 (by omega) (by omega) fs3 ?_ (by omega) (fun S4 M4 v4 h4 => ⟨_, rfl, ?_⟩)) h3.kd
  · simp only [List.length_append, List.length_nil]; have := lb_len 136 (by decide) (by decide); have := lb_len 135 (by decide) (by decide); have := dg_l3 (n := r 7); have := lb_len 136 (by decide) (by decide); omega
  refine kL_test_152 (by omega) ?_ h4.kd
  refine chInt e2 hW hcb h4 (hr 5 (by decide) (by decide)).2 ?_ (by omega) (fun S5 M5 v5 h5 => ⟨_, rfl, ?_⟩)
  · simp only [List.length_append, List.length_nil]; have := lb_len 135 (by decide) (by decide); have := dg_l3 (n := r 7); have := lb_len 136 (by decide) (by decide); have := dg_l3 (n := r 5); omega
  refine kL_test_156 (by omega) (chEnd (cb := cb) e2 h5 ?_ (by omega) (fun S9 M9 b9 w9 h9 => ⟨_, rfl, kL_test_159 ?_⟩)) h5.kd
  · simp only [List.length_append, List.length_nil]; have := lb_len 135 (by decide) (by decide); have := dg_l3 (n := r 7); have := lb_len 136 (by decide) (by decide); have := dg_l3 (n := r 5); omega
  · exact q S9 M9 b9 w9 ⟨h9.1, h9.2.1, h9.2.2.1, h9.2.2.2.1, by have := h9.2.2.2.2.1; omega, by have := h9.2.2.2.2.2; omega⟩
set_option maxHeartbeats 1000000 in
theorem mL_test_4 {r : Nat → Nat} {a : Nat} (hW : Wl E S0 M0 cb bo bt) (hM : RM M0) (ho : Ow S0 M0 a r) (hcb : cb ≤ aX S0) (hd : 20 ≤ d) (q : ∀ S M b w, Rs S0 M0 S M b w cb (((((([] ++ lb 137) ++ dg (r 8)) ++ lb 138) ++ dg (r 5)) ++ lb 139) ++ dg (r 8)) 16 → Q (some (some (.ref b))) S (mI M)) :
    X E d fL_test 160 [some (.ref a), some (J (M0 a 5))] [] S0 (mI M0) Q := by
  have e2 := hW.1
  have hL := hW.2.2
  obtain ⟨ha, hk, hn, hr⟩ := ho
  rw [(hr 5 (by decide) (by decide)).1]
  refine kL_test_160 (by omega) (chInit e2 hM (by omega) (fun S1 M1 v1 h1 => ⟨_, rfl, ?_⟩))
  obtain ⟨b1, w1, f1, fb1, fw1, fs1⟩ := hL 137 (by decide) (by decide)
  refine kL_test_167 f1 (by omega) (chLit (n := 0) e2 h1 (by omega) (by omega) fs1 ?_ (by omega) (fun S2 M2 v2 h2 => ⟨_, rfl, ?_⟩)) h1.kd
  · simp only [List.length_append, List.length_nil]; have := lb_len 137 (by decide) (by decide); have := lb_len 137 (by decide) (by decide); omega
  have k2 : aKd S2 a = 100 := (h2.kp.kd ha).trans hk
  have n2 : aN S2 a = 10 := (h2.kp.2 a ha).1.2.1.trans hn
  refine kL_test_172 k2 (by rw [n2]; decide) (by omega) ?_ h2.kd
  rw [show M2 a 8 = (r 8 : Int) by rw [(h2.kp.2 a ha).2]; exact (hr 8 (by decide) (by decide)).1]
  refine chInt e2 hW hcb h2 (hr 8 (by decide) (by decide)).2 ?_ (by omega) (fun S3 M3 v3 h3 => ⟨_, rfl, ?_⟩)
  · simp only [List.length_append, List.length_nil]; have := lb_len 137 (by decide) (by decide); have := dg_l3 (n := r 8); omega
  obtain ⟨b3, w3, f3, fb3, fw3, fs3⟩ := hL 138 (by decide) (by decide)
  refine kL_test_179 f3 (by omega) (chLit (n := 0) e2 h3 (by omega) (by omega) fs3 ?_ (by omega) (fun S4 M4 v4 h4 => ⟨_, rfl, ?_⟩)) h3.kd
  · simp only [List.length_append, List.length_nil]; have := lb_len 138 (by decide) (by decide); have := lb_len 137 (by decide) (by decide); have := dg_l3 (n := r 8); have := lb_len 138 (by decide) (by decide); omega
  refine kL_test_184 (by omega) ?_ h4.kd
  refine chInt e2 hW hcb h4 (hr 5 (by decide) (by decide)).2 ?_ (by omega) (fun S5 M5 v5 h5 => ⟨_, rfl, ?_⟩)
  · simp only [List.length_append, List.length_nil]; have := lb_len 137 (by decide) (by decide); have := dg_l3 (n := r 8); have := lb_len 138 (by decide) (by decide); have := dg_l3 (n := r 5); omega
  obtain ⟨b5, w5, f5, fb5, fw5, fs5⟩ := hL 139 (by decide) (by decide)
  refine kL_test_188 f5 (by omega) (chLit (n := 0) e2 h5 (by omega) (by omega) fs5 ?_ (by omega) (fun S6 M6 v6 h6 => ⟨_, rfl, ?_⟩)) h5.kd
  · simp only [List.length_append, List.length_nil]; have := lb_len 139 (by decide) (by decide); have := lb_len 137 (by decide) (by decide); have := dg_l3 (n := r 8); have := lb_len 138 (by decide) (by decide); have := dg_l3 (n := r 5); have := lb_len 139 (by decide) (by decide); omega
  have k6 : aKd S6 a = 100 := (h6.kp.kd ha).trans hk
  have n6 : aN S6 a = 10 := (h6.kp.2 a ha).1.2.1.trans hn
  refine kL_test_193 k6 (by rw [n6]; decide) (by omega) ?_ h6.kd
  rw [show M6 a 8 = (r 8 : Int) by rw [(h6.kp.2 a ha).2]; exact (hr 8 (by decide) (by decide)).1]
  refine chInt e2 hW hcb h6 (hr 8 (by decide) (by decide)).2 ?_ (by omega) (fun S7 M7 v7 h7 => ⟨_, rfl, ?_⟩)
  · simp only [List.length_append, List.length_nil]; have := lb_len 137 (by decide) (by decide); have := dg_l3 (n := r 8); have := lb_len 138 (by decide) (by decide); have := dg_l3 (n := r 5); have := lb_len 139 (by decide) (by decide); have := dg_l3 (n := r 8); omega
  refine kL_test_200 (by omega) (chEnd (cb := cb) e2 h7 ?_ (by omega) (fun S9 M9 b9 w9 h9 => ⟨_, rfl, kL_test_203 ?_⟩)) h7.kd
  · simp only [List.length_append, List.length_nil]; have := lb_len 137 (by decide) (by decide); have := dg_l3 (n := r 8); have := lb_len 138 (by decide) (by decide); have := dg_l3 (n := r 5); have := lb_len 139 (by decide) (by decide); have := dg_l3 (n := r 8); omega
  · exact q S9 M9 b9 w9 ⟨h9.1, h9.2.1, h9.2.2.1, h9.2.2.2.1, by have := h9.2.2.2.2.1; omega, by have := h9.2.2.2.2.2; omega⟩
set_option maxHeartbeats 1000000 in
theorem mL_test_5 {r : Nat → Nat} {a : Nat} (hW : Wl E S0 M0 cb bo bt) (hM : RM M0) (ho : Ow S0 M0 a r) (hcb : cb ≤ aX S0) (hd : 20 ≤ d) (q : ∀ S M b w, Rs S0 M0 S M b w cb (((((((([] ++ lb 140) ++ dg (r 6)) ++ lb 141) ++ dg (r 5)) ++ lb 142) ++ dg (r 9)) ++ lb 136) ++ dg (r 5)) 16 → Q (some (some (.ref b))) S (mI M)) :
    X E d fL_test 204 [some (.ref a), some (J (M0 a 5))] [] S0 (mI M0) Q := by
  have e2 := hW.1
  have hL := hW.2.2
  obtain ⟨ha, hk, hn, hr⟩ := ho
  rw [(hr 5 (by decide) (by decide)).1]
  refine kL_test_204 (by omega) (chInit e2 hM (by omega) (fun S1 M1 v1 h1 => ⟨_, rfl, ?_⟩))
  obtain ⟨b1, w1, f1, fb1, fw1, fs1⟩ := hL 140 (by decide) (by decide)
  refine kL_test_211 f1 (by omega) (chLit (n := 0) e2 h1 (by omega) (by omega) fs1 ?_ (by omega) (fun S2 M2 v2 h2 => ⟨_, rfl, ?_⟩)) h1.kd
  · simp only [List.length_append, List.length_nil]; have := lb_len 140 (by decide) (by decide); have := lb_len 140 (by decide) (by decide); omega
  have k2 : aKd S2 a = 100 := (h2.kp.kd ha).trans hk
  have n2 : aN S2 a = 10 := (h2.kp.2 a ha).1.2.1.trans hn
  refine kL_test_216 k2 (by rw [n2]; decide) (by omega) ?_ h2.kd
  rw [show M2 a 6 = (r 6 : Int) by rw [(h2.kp.2 a ha).2]; exact (hr 6 (by decide) (by decide)).1]
  refine chInt e2 hW hcb h2 (hr 6 (by decide) (by decide)).2 ?_ (by omega) (fun S3 M3 v3 h3 => ⟨_, rfl, ?_⟩)
  · simp only [List.length_append, List.length_nil]; have := lb_len 140 (by decide) (by decide); have := dg_l3 (n := r 6); omega
  obtain ⟨b3, w3, f3, fb3, fw3, fs3⟩ := hL 141 (by decide) (by decide)
  refine kL_test_223 f3 (by omega) (chLit (n := 0) e2 h3 (by omega) (by omega) fs3 ?_ (by omega) (fun S4 M4 v4 h4 => ⟨_, rfl, ?_⟩)) h3.kd
  · simp only [List.length_append, List.length_nil]; have := lb_len 141 (by decide) (by decide); have := lb_len 140 (by decide) (by decide); have := dg_l3 (n := r 6); have := lb_len 141 (by decide) (by decide); omega
  refine kL_test_228 (by omega) ?_ h4.kd
  refine chInt e2 hW hcb h4 (hr 5 (by decide) (by decide)).2 ?_ (by omega) (fun S5 M5 v5 h5 => ⟨_, rfl, ?_⟩)
  · simp only [List.length_append, List.length_nil]; have := lb_len 140 (by decide) (by decide); have := dg_l3 (n := r 6); have := lb_len 141 (by decide) (by decide); have := dg_l3 (n := r 5); omega
  obtain ⟨b5, w5, f5, fb5, fw5, fs5⟩ := hL 142 (by decide) (by decide)
  refine kL_test_232 f5 (by omega) (chLit (n := 0) e2 h5 (by omega) (by omega) fs5 ?_ (by omega) (fun S6 M6 v6 h6 => ⟨_, rfl, ?_⟩)) h5.kd
  · simp only [List.length_append, List.length_nil]; have := lb_len 142 (by decide) (by decide); have := lb_len 140 (by decide) (by decide); have := dg_l3 (n := r 6); have := lb_len 141 (by decide) (by decide); have := dg_l3 (n := r 5); have := lb_len 142 (by decide) (by decide); omega
  have k6 : aKd S6 a = 100 := (h6.kp.kd ha).trans hk
  have n6 : aN S6 a = 10 := (h6.kp.2 a ha).1.2.1.trans hn
  refine kL_test_237 k6 (by rw [n6]; decide) (by omega) ?_ h6.kd
  rw [show M6 a 9 = (r 9 : Int) by rw [(h6.kp.2 a ha).2]; exact (hr 9 (by decide) (by decide)).1]
  refine chInt e2 hW hcb h6 (hr 9 (by decide) (by decide)).2 ?_ (by omega) (fun S7 M7 v7 h7 => ⟨_, rfl, ?_⟩)
  · simp only [List.length_append, List.length_nil]; have := lb_len 140 (by decide) (by decide); have := dg_l3 (n := r 6); have := lb_len 141 (by decide) (by decide); have := dg_l3 (n := r 5); have := lb_len 142 (by decide) (by decide); have := dg_l3 (n := r 9); omega
  obtain ⟨b7, w7, f7, fb7, fw7, fs7⟩ := hL 136 (by decide) (by decide)
  refine kL_test_244 f7 (by omega) (chLit (n := 0) e2 h7 (by omega) (by omega) fs7 ?_ (by omega) (fun S8 M8 v8 h8 => ⟨_, rfl, ?_⟩)) h7.kd
  · simp only [List.length_append, List.length_nil]; have := lb_len 136 (by decide) (by decide); have := lb_len 140 (by decide) (by decide); have := dg_l3 (n := r 6); have := lb_len 141 (by decide) (by decide); have := dg_l3 (n := r 5); have := lb_len 142 (by decide) (by decide); have := dg_l3 (n := r 9); have := lb_len 136 (by decide) (by decide); omega
  refine kL_test_249 (by omega) ?_ h8.kd
  refine chInt e2 hW hcb h8 (hr 5 (by decide) (by decide)).2 ?_ (by omega) (fun S9 M9 v9 h9 => ⟨_, rfl, ?_⟩)
  · simp only [List.length_append, List.length_nil]; have := lb_len 140 (by decide) (by decide); have := dg_l3 (n := r 6); have := lb_len 141 (by decide) (by decide); have := dg_l3 (n := r 5); have := lb_len 142 (by decide) (by decide); have := dg_l3 (n := r 9); have := lb_len 136 (by decide) (by decide); have := dg_l3 (n := r 5); omega
  refine kL_test_253 (by omega) (chEnd (cb := cb) e2 h9 ?_ (by omega) (fun S9 M9 b9 w9 h9 => ⟨_, rfl, kL_test_256 ?_⟩)) h9.kd
  · simp only [List.length_append, List.length_nil]; have := lb_len 140 (by decide) (by decide); have := dg_l3 (n := r 6); have := lb_len 141 (by decide) (by decide); have := dg_l3 (n := r 5); have := lb_len 142 (by decide) (by decide); have := dg_l3 (n := r 9); have := lb_len 136 (by decide) (by decide); have := dg_l3 (n := r 5); omega
  · exact q S9 M9 b9 w9 ⟨h9.1, h9.2.1, h9.2.2.1, h9.2.2.2.1, by have := h9.2.2.2.2.1; omega, by have := h9.2.2.2.2.2; omega⟩
set_option maxHeartbeats 1000000 in
theorem mL_test_6 {r : Nat → Nat} {a : Nat} (hW : Wl E S0 M0 cb bo bt) (hM : RM M0) (ho : Ow S0 M0 a r) (hcb : cb ≤ aX S0) (hd : 20 ≤ d) (q : ∀ S M b w, Rs S0 M0 S M b w cb ((([] ++ lb 143) ++ dg (r 8)) ++ lb 144) 16 → Q (some (some (.ref b))) S (mI M)) :
    X E d fL_test 257 [some (.ref a), some (J (M0 a 5))] [] S0 (mI M0) Q := by
  have e2 := hW.1
  have hL := hW.2.2
  obtain ⟨ha, hk, hn, hr⟩ := ho
  rw [(hr 5 (by decide) (by decide)).1]
  refine kL_test_257 (by omega) (chInit e2 hM (by omega) (fun S1 M1 v1 h1 => ⟨_, rfl, ?_⟩))
  obtain ⟨b1, w1, f1, fb1, fw1, fs1⟩ := hL 143 (by decide) (by decide)
  refine kL_test_264 f1 (by omega) (chLit (n := 0) e2 h1 (by omega) (by omega) fs1 ?_ (by omega) (fun S2 M2 v2 h2 => ⟨_, rfl, ?_⟩)) h1.kd
  · simp only [List.length_append, List.length_nil]; have := lb_len 143 (by decide) (by decide); have := lb_len 143 (by decide) (by decide); omega
  have k2 : aKd S2 a = 100 := (h2.kp.kd ha).trans hk
  have n2 : aN S2 a = 10 := (h2.kp.2 a ha).1.2.1.trans hn
  refine kL_test_269 k2 (by rw [n2]; decide) (by omega) ?_ h2.kd
  rw [show M2 a 8 = (r 8 : Int) by rw [(h2.kp.2 a ha).2]; exact (hr 8 (by decide) (by decide)).1]
  refine chInt e2 hW hcb h2 (hr 8 (by decide) (by decide)).2 ?_ (by omega) (fun S3 M3 v3 h3 => ⟨_, rfl, ?_⟩)
  · simp only [List.length_append, List.length_nil]; have := lb_len 143 (by decide) (by decide); have := dg_l3 (n := r 8); omega
  obtain ⟨b3, w3, f3, fb3, fw3, fs3⟩ := hL 144 (by decide) (by decide)
  refine kL_test_276 f3 (by omega) (chLit (n := 0) e2 h3 (by omega) (by omega) fs3 ?_ (by omega) (fun S4 M4 v4 h4 => ⟨_, rfl, ?_⟩)) h3.kd
  · simp only [List.length_append, List.length_nil]; have := lb_len 144 (by decide) (by decide); have := lb_len 143 (by decide) (by decide); have := dg_l3 (n := r 8); have := lb_len 144 (by decide) (by decide); omega
  refine kL_test_281 (by omega) (chEnd (cb := cb) e2 h4 ?_ (by omega) (fun S9 M9 b9 w9 h9 => ⟨_, rfl, kL_test_284 ?_⟩)) h4.kd
  · simp only [List.length_append, List.length_nil]; have := lb_len 143 (by decide) (by decide); have := dg_l3 (n := r 8); have := lb_len 144 (by decide) (by decide); omega
  · exact q S9 M9 b9 w9 ⟨h9.1, h9.2.1, h9.2.2.1, h9.2.2.2.1, by have := h9.2.2.2.2.1; omega, by have := h9.2.2.2.2.2; omega⟩
set_option maxHeartbeats 1000000 in
theorem mL_test_7 {r : Nat → Nat} {a : Nat} (hW : Wl E S0 M0 cb bo bt) (hM : RM M0) (ho : Ow S0 M0 a r) (hcb : cb ≤ aX S0) (hd : 20 ≤ d) (q : ∀ S M b w, Rs S0 M0 S M b w cb ((([] ++ dg (r 5)) ++ lb 145) ++ dg (r 5)) 16 → Q (some (some (.ref b))) S (mI M)) :
    X E d fL_test 285 [some (.ref a), some (J (M0 a 5))] [] S0 (mI M0) Q := by
  have e2 := hW.1
  have hL := hW.2.2
  obtain ⟨ha, hk, hn, hr⟩ := ho
  rw [(hr 5 (by decide) (by decide)).1]
  refine kL_test_285 (by omega) (chInit e2 hM (by omega) (fun S1 M1 v1 h1 => ⟨_, rfl, ?_⟩))
  refine kL_test_292 (by omega) ?_ h1.kd
  refine chInt e2 hW hcb h1 (hr 5 (by decide) (by decide)).2 ?_ (by omega) (fun S2 M2 v2 h2 => ⟨_, rfl, ?_⟩)
  · simp only [List.length_append, List.length_nil]; have := dg_l3 (n := r 5); omega
  obtain ⟨b2, w2, f2, fb2, fw2, fs2⟩ := hL 145 (by decide) (by decide)
  refine kL_test_296 f2 (by omega) (chLit (n := 0) e2 h2 (by omega) (by omega) fs2 ?_ (by omega) (fun S3 M3 v3 h3 => ⟨_, rfl, ?_⟩)) h2.kd
  · simp only [List.length_append, List.length_nil]; have := lb_len 145 (by decide) (by decide); have := dg_l3 (n := r 5); have := lb_len 145 (by decide) (by decide); omega
  refine kL_test_301 (by omega) ?_ h3.kd
  refine chInt e2 hW hcb h3 (hr 5 (by decide) (by decide)).2 ?_ (by omega) (fun S4 M4 v4 h4 => ⟨_, rfl, ?_⟩)
  · simp only [List.length_append, List.length_nil]; have := dg_l3 (n := r 5); have := lb_len 145 (by decide) (by decide); have := dg_l3 (n := r 5); omega
  refine kL_test_305 (by omega) (chEnd (cb := cb) e2 h4 ?_ (by omega) (fun S9 M9 b9 w9 h9 => ⟨_, rfl, kL_test_308 ?_⟩)) h4.kd
  · simp only [List.length_append, List.length_nil]; have := dg_l3 (n := r 5); have := lb_len 145 (by decide) (by decide); have := dg_l3 (n := r 5); omega
  · exact q S9 M9 b9 w9 ⟨h9.1, h9.2.1, h9.2.2.1, h9.2.2.2.1, by have := h9.2.2.2.2.1; omega, by have := h9.2.2.2.2.2; omega⟩
theorem mL_test {r : Nat → Nat} {a : Nat} (hW : Wl E S0 M0 cb bo bt) (hM : RM M0) (ho : Ow S0 M0 a r) (hcb : cb ≤ aX S0) (hd : 20 ≤ d) {k : Nat} (hs : M0 a 4 = (k : Int)) (hkb : k ≤ 7) (q : ∀ S M b w, Rs S0 M0 S M b w cb (tB r k) 16 → Q (some (some (.ref b))) S (mI M)) :
    X E d fL_test 0 [some (.ref a), none] [] S0 (mI M0) Q := by
  have ho2 := ho
  obtain ⟨ha, hk, hn, hr⟩ := ho
  refine kL_test_0 hk (by rw [hn]; decide) (by rw [hn]; decide) (by rw [hs]; exact ⟨by omega, by omega⟩) (fun hx => ?_) (fun hx => ?_) (fun hx => ?_) (fun hx => ?_) (fun hx => ?_) (fun hx => ?_) (fun hx => ?_) (fun hx => ?_)
  · obtain rfl : k = 7 := by omega
    exact mL_test_7 hW hM ho2 hcb hd q
  · obtain rfl : k = 0 := by omega
    exact mL_test_0 hW hM ho2 hcb hd q
  · obtain rfl : k = 1 := by omega
    exact mL_test_1 hW hM ho2 hcb hd q
  · obtain rfl : k = 2 := by omega
    exact mL_test_2 hW hM ho2 hcb hd q
  · obtain rfl : k = 3 := by omega
    exact mL_test_3 hW hM ho2 hcb hd q
  · obtain rfl : k = 4 := by omega
    exact mL_test_4 hW hM ho2 hcb hd q
  · obtain rfl : k = 5 := by omega
    exact mL_test_5 hW hM ho2 hcb hd q
  · obtain rfl : k = 6 := by omega
    exact mL_test_6 hW hM ho2 hcb hd q
end LT
