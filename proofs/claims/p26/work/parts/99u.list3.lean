/-! the law's list: stretches and miles -/
section LK2
variable {E : Nat → Value} {d : Nat} {S S' S0 S1 : aS} {M M' M0 M1 : Nat → Nat → Int} {Q : Option (Option Value) → aS → aI → Prop} {cb bo bt s sb sa n v z z0 Jn : Nat} {bs : List Int} {m T : Nat → Nat} {A : Nat → Nat → Nat} {ce : Nat → Int}
theorem Lw.sk {c : Nat → Nat} {V : Nat → Nat → Nat → Int} (h : Lw cb sb s S0 M0 c V S M v bs z Jn m T A) : aK S s = 10 ∧ aKd S s = 10 := ⟨h.2.1.1, by unfold aKd; rw [h.2.1.1]⟩
theorem Lw.tb {c : Nat → Nat} {V : Nat → Nat → Nat → Int} {j : Nat} (h : Lw cb sb s S0 M0 c V S M v bs z Jn m T A) (h1 : 2 ≤ j) (h2 : j ≤ Jn) : aP S s j = some (T j) ∧ aK S (T j) = 102 ∧ aKd S (T j) = 102 ∧ aN S (T j) = c j ∧ T j < aX S := by
  obtain ⟨b1, b2, b3, b4, b5⟩ := h.2.2.2.1 j h1 h2
  exact ⟨b1, b2, by unfold aKd; rw [b2], b3, b5⟩
theorem Lw.ro {c : Nat → Nat} {V : Nat → Nat → Nat → Int} {j k : Nat} (h : Lw cb sb s S0 M0 c V S M v bs z Jn m T A) (h1 : 2 ≤ j) (h2 : j ≤ Jn) (h3 : k < m j) : aP S (T j) k = some (A j k) ∧ aKd S (A j k) = 100 ∧ aN S (A j k) = wd j ∧ (∀ q, q < wd j → M (A j k) q = V j k q) ∧ A j k < aX S := by
  obtain ⟨b1, b2, b3, b4, b5, b6⟩ := h.2.2.2.2.1 j k h1 h2 h3
  exact ⟨b1, by unfold aKd; rw [b2], b3, b4, b6⟩
abbrev Lz (cb sb s : Nat) (S0 : aS) (M0 : Nat → Nat → Int) (ce : Nat → Int) (S : aS) (M : Nat → Nat → Int) (v : Nat) (bs : List Int) (z Jn : Nat) (m T : Nat → Nat) (A : Nat → Nat → Nat) : Prop := Lw cb sb s S0 M0 (cC ce) (vV ce) S M v bs z Jn m T A
set_option maxHeartbeats 2000000 in
theorem ls2i {k : Nat} {p5 p6 p7 p8 p9 p10 : Option Value} (hL : Ls E S0 M0 cb bo bt sa n ce) (hd : 30 ≤ d) (h : Lz cb sb s S0 M0 ce S M v (tx2 ce k) z 2 m T A) (hm : m 2 = k) (hk : k < C2 ce)
    (q : ∀ S' M' v' m' T' A' p5, Lz cb sb s S0 M0 ce S' M' v' (tx2 ce (k + 1)) (z + 8) 2 m' T' A' → m' 2 = k + 1 → X E d fL_list 31 [some (.ref sa), some (.ref sb), some (.ref s), some (J (psm (ml ce) (k + 1) : Int)), some (J ((k + 1 : Nat) : Int)), p5, p6, p7, p8, p9, p10] [] S' (mI M') Q) :
    X E d fL_list 31 [some (.ref sa), some (.ref sb), some (.ref s), some (J (psm (ml ce) k : Int)), some (J (k : Int)), p5, p6, p7, p8, p9, p10] [] S (mI M) Q := by
  have hW := hL.1
  obtain ⟨s1, s2⟩ := h.sk
  obtain ⟨t1, t2, t3, t4, t5⟩ := h.tb (j := 2) (by decide) (by decide)
  have hC : cC ce 2 = C2 ce := rfl
  have hC2 := C2_b (ce := ce)
  have hml := ml_b (ce := ce) k
  have hsf := sf_b (ce := ce) k
  have hsx := h.2.1.2.2
  have hsbx := h.1.2.2.1.2.2.2.2.2.2.2.2.2.1
  have hps := psm_b (f := ml ce) ml_b k
  have htx := tx2_l (ce := ce) k
  refine kL_list_31 s2 t1 (Or.inr (Or.inr t3)) ⟨by omega, by omega⟩ ⟨by omega, by omega⟩ (fun hx => absurd hx (by omega)) (fun _ => ?_)
  refine kL_list_41 (by omega) (Ls.cell (k := 1) hL h.1.1 rfl (by decide) ⟨_, rfl, ?_⟩)
  refine kL_list_46 s2 t1 (by omega) ?_
  rw [show (4 : Int) * (k : Int) = ((4 * k : Nat) : Int) by omega]
  have eX : (Int32.ofInt (ce 1) >>> (Int32.ofInt ((4 * k : Nat) : Int) &&& 31)).toInt = X2 ce k := rfl
  rw [eX]
  have e5 : (Int32.ofInt (X2 ce k) >>> (Int32.ofInt 5 &&& 31)).toInt = sh (X2 ce k) 5 := rfl
  rw [e5]
  refine bel_X (k := 2) (by decide) rfl (by decide) ⟨_, rfl, ?_⟩
  have hb2 := (bN_e (v := sh (X2 ce k) 5) (n := 2) (by decide)).2
  -- the new row
  obtain ⟨Sr, eSr⟩ : ∃ x, aNew S 100 3 3 = x := ⟨_, rfl⟩
  have hSr : Sr = aNew S 100 (wd 2) (wd 2) := eSr.symm
  have kr : aK Sr (aX S) = 100 := by rw [← eSr]; exact aNew_K
  have dr : aKd Sr (aX S) = 100 := by unfold aKd; rw [kr]
  have nr : aN Sr (aX S) = 3 := by rw [← eSr]; exact aNew_N
  have Kr' : ∀ x, x < aX S → aK Sr x = aK S x := fun x hx => by rw [← eSr]; exact nK_lt hx
  have Nr' : ∀ x, x < aX S → aN Sr x = aN S x := fun x hx => by rw [← eSr]; exact nN_lt hx
  have Pr' : ∀ x, x < aX S → aP Sr x = aP S x := fun x hx => by rw [← eSr]; exact nP_lt hx
  have Dr' : ∀ x, x < aX S → aKd Sr x = aKd S x := fun x hx => by unfold aKd; rw [Kr' x hx]
  obtain ⟨Mr, eMr⟩ : ∃ x, mW (mW (mW (aU M (aX S) (fun _ => 0)) (aX S) 0 (ml ce k : Int)) (aX S) 1 (sf ce k : Int)) (aX S) 2 0 = x := ⟨_, rfl⟩
  have mr : RM Mr := by rw [← eMr]; exact (((RM.nw h.1.2.1).w ⟨by omega, by omega⟩).w ⟨by omega, by omega⟩).w (by decide)
  have fr : ∀ x, x < aX S → Mr x = M x := fun x hx => by rw [← eMr, mW_ne (Nat.ne_of_lt hx), mW_ne (Nat.ne_of_lt hx), mW_ne (Nat.ne_of_lt hx), aU_ne _ _ (Nat.ne_of_lt hx)]
  have w2 : Mr (aX S) 2 = 0 := by rw [← eMr]; exact mW_eq
  have w1 : Mr (aX S) 1 = (sf ce k : Int) := by rw [← eMr, mW_ne2 (Or.inr (by decide))]; exact mW_eq
  have w0 : Mr (aX S) 0 = (ml ce k : Int) := by rw [← eMr, mW_ne2 (Or.inr (by decide)), mW_ne2 (Or.inr (by decide))]; exact mW_eq
  have hrow := h.rw_ (j := 2) (k := k) (by decide) rfl hm.symm hSr mr fr (fun q hq => by
    have hq' : q < 3 := hq
    rcases (by omega : q = 0 ∨ q = 1 ∨ q = 2) with e | e | e
    · subst e; exact w0
    · subst e; exact w1
    · subst e; exact w2)
  rw [eSr]
  have go : ∀ w : Nat, w = (if bN (sh (X2 ce k) 5) 2 = 0 then 9 else 4) → X E d fL_list 84 [some (.ref sa), some (.ref sb), some (.ref s), some (J (psm (ml ce) k : Int)), some (J (k : Int)), some (J (X2 ce k)), p6, p7, p8, p9, p10] [J (w : Int), J (X2 ce k), J 1, J 0, .ref (aX S), .ref (aX S), J (k : Int), .ref (T 2)] Sr (mI (aU M (aX S) (fun _ => 0))) Q := by
    intro w hw
    have hwb : w = 9 ∨ w = 4 := by
      split at hw
      · exact Or.inl hw
      · exact Or.inr hw
    have em : (1 : Int) + (bN (X2 ce k) w : Int) = (ml ce k : Int) := by unfold ml; rw [← hw]; omega
    refine kL_list_84 (by omega) (bel_X (k := w) (by omega) rfl (by omega) ⟨_, rfl, ?_⟩)
    refine kL_list_87 kr (by decide) (by rw [nr]; decide) (by omega) ?_
    rw [em, nz_eq ⟨by omega, by omega⟩]
    have e3 : (Int32.ofInt (X2 ce k) >>> (Int32.ofInt 3 &&& 31)).toInt = sh (X2 ce k) 3 := rfl
    rw [e3]
    refine bel_X (k := 10) (by decide) rfl (by decide) ⟨_, rfl, ?_⟩
    obtain ⟨b13, w13, f13, fb13, fw13, fs13⟩ := hW.2.2 113 (by decide) (by decide)
    refine kL_list_100 (b11 := T 2) (b16 := aX S) kr (by decide) (by rw [nr]; decide) kr (by rw [nr]; decide) ((Kr' _ t5).trans t2) ⟨by omega, by omega⟩ (by rw [Nr' _ t5, t4, hC]; exact ⟨by omega, by omega⟩) kr ((Dr' _ hsx).trans s2) ?_ ((Dr' _ t5).trans t3) ⟨by omega, by omega⟩ (by rw [Nr' _ t5, t4, hC]; exact ⟨by omega, by omega⟩) ?_ dr (by rw [nr]; decide) f13 (by omega) ?_ ((Dr' _ hsbx).trans h.kd)
    · rw [Int.toNat_natCast]
      have nss : s ≠ T 2 := fun e => by rw [e] at s1; omega
      rw [aPut_P nss, Pr' _ hsx]
      exact t1
    · rw [Int.toNat_natCast]
      exact aPut_self
    · rw [Int.toNat_natCast]
      show X E (d - 1) fJ4_append_15ec4 0 [some (.ref sb), some (.ref b13)] [] (aPut Sr (T 2) k (some (aX S))) (mI (mW (mW (mW (aU M (aX S) (fun _ => 0)) (aX S) 0 (ml ce k : Int)) (aX S) 1 (sf ce k : Int)) (aX S) 2 0)) (Kr E d fL_list 124 [some (.ref sa), some (.ref sb), some (.ref s), some (J ((psm (ml ce) k : Int) + (mW (mW (mW (aU M (aX S) (fun _ => 0)) (aX S) 0 (ml ce k : Int)) (aX S) 1 (sf ce k : Int)) (aX S) 2 0 (aX S) 0))), some (J (k : Int)), some (J (X2 ce k)), p6, p7, p8, p9, p10] [] Q)
      rw [eMr, w0, show (psm (ml ce) k : Int) + (ml ce k : Int) = ((psm (ml ce) (k + 1) : Nat) : Int) by show _ = ((psm (ml ce) k + ml ce k : Nat) : Int); omega]
      have l113 : (lb 113).length = 9 := by decide
      have l114 : (lb 114).length = 7 := by decide
      have l115 : (lb 115).length = 6 := by decide
      have l116 : (lb 116).length = 1 := by decide
      have gk := dg_l3 (n := k)
      have gm := dg_l3 (n := ml ce k)
      have gs := dg_l3 (n := sf ce k)
      refine lwLit hW hrow fb13 fw13 fs13 (by omega) (by omega) (fun S1 M1 v1 h1 => ⟨_, rfl, ?_⟩)
      refine kL_list_124 (by omega) (lwInt hW h1 rfl (by omega) (by simp only [List.length_append]; omega) (by omega) (fun S2 M2 v2 h2 => ⟨_, rfl, ?_⟩)) h1.kd
      obtain ⟨b14, w14, f14, fb14, fw14, fs14⟩ := hW.2.2 114 (by decide) (by decide)
      refine kL_list_129 f14 (by omega) (lwLit hW h2 fb14 fw14 fs14 (by simp only [List.length_append]; omega) (by omega) (fun S3 M3 v3 h3 => ⟨_, rfl, ?_⟩)) h2.kd
      obtain ⟨u1, u2, u3, u4, u5⟩ := h3.tb (j := 2) (by decide) (by decide)
      have hk3 : k < updN m 2 (k + 1) 2 := by rw [updN_s]; omega
      obtain ⟨r1, r2, r3, r4, r5⟩ := h3.ro (j := 2) (k := k) (by decide) (by decide) hk3
      refine kL_list_134 h3.sk.2 u1 u3 ⟨by omega, by omega⟩ (by rw [u4, hC]; exact ⟨by omega, by omega⟩) (by rw [Int.toNat_natCast]; exact r1) r2 (by rw [r3]; decide) (by omega) (lwInt hW h3 (n := ml ce k) (r4 0 (by decide)) (by omega) (by simp only [List.length_append]; omega) (by omega) (fun S4 M4 v4 h4 => ⟨_, rfl, ?_⟩)) h3.kd
      obtain ⟨b15, w15, f15, fb15, fw15, fs15⟩ := hW.2.2 115 (by decide) (by decide)
      refine kL_list_146 f15 (by omega) (lwLit hW h4 fb15 fw15 fs15 (by simp only [List.length_append]; omega) (by omega) (fun S5 M5 v5 h5 => ⟨_, rfl, ?_⟩)) h4.kd
      obtain ⟨y1, y2, y3, y4, y5⟩ := h5.tb (j := 2) (by decide) (by decide)
      obtain ⟨z1, z2, z3, z4, z5⟩ := h5.ro (j := 2) (k := k) (by decide) (by decide) hk3
      refine kL_list_151 h5.sk.2 y1 y3 ⟨by omega, by omega⟩ (by rw [y4, hC]; exact ⟨by omega, by omega⟩) (by rw [Int.toNat_natCast]; exact z1) z2 (by rw [z3]; decide) (by omega) (lwInt hW h5 (n := sf ce k) (z4 1 (by decide)) (by omega) (by simp only [List.length_append]; omega) (by omega) (fun S6 M6 v6 h6 => ⟨_, rfl, ?_⟩)) h5.kd
      obtain ⟨b16, w16, f16, fb16, fw16, fs16⟩ := hW.2.2 116 (by decide) (by decide)
      refine kL_list_163 f16 (by omega) (lwLit hW h6 fb16 fw16 fs16 (by simp only [List.length_append]; omega) (by omega) (fun S7 M7 v7 h7 => ⟨_, rfl, kL_list_168 ?_⟩)) h6.kd
      rw [show (k : Int) + 1 = ((k + 1 : Nat) : Int) by omega]
      exact q S7 M7 v7 _ _ _ _ h7 updN_s
  refine kL_list_75 ⟨by omega, by omega⟩ (fun hx => kL_list_83 (go 4 ?_)) (fun hx => kL_list_78 (go 9 ?_))
  · rw [if_neg (by omega)]
  · rw [if_pos (by omega)]
theorem ls2 {p6 p7 p8 p9 p10 : Option Value} (hL : Ls E S0 M0 cb bo bt sa n ce) (hd : 30 ≤ d)
    (q : ∀ S' M' v' m' T' A' p5, Lz cb sb s S0 M0 ce S' M' v' (tx2 ce (C2 ce)) (z + 8 * C2 ce) 2 m' T' A' → m' 2 = C2 ce → X E d fL_list 175 [some (.ref sa), some (.ref sb), some (.ref s), some (J (mny ce : Int)), some (J (C2 ce : Int)), p5, p6, p7, p8, p9, p10] [] S' (mI M') Q) :
    ∀ (mm k : Nat) (S : aS) (M : Nat → Nat → Int) (v : Nat) (m T : Nat → Nat) (A : Nat → Nat → Nat) (p5 : Option Value), k + mm = C2 ce → Lz cb sb s S0 M0 ce S M v (tx2 ce k) (z + 8 * k) 2 m T A → m 2 = k →
    X E d fL_list 31 [some (.ref sa), some (.ref sb), some (.ref s), some (J (psm (ml ce) k : Int)), some (J (k : Int)), p5, p6, p7, p8, p9, p10] [] S (mI M) Q := by
  intro mm
  induction mm with
  | zero =>
    intro k S M v m T A p5 hk h hm
    obtain rfl : k = C2 ce := by omega
    obtain ⟨t1, t2, t3, t4, t5⟩ := h.tb (j := 2) (by decide) (by decide)
    have hC : cC ce 2 = C2 ce := rfl
    have hC2 := C2_b (ce := ce)
    exact kL_list_31 h.sk.2 t1 (Or.inr (Or.inr t3)) ⟨by omega, by omega⟩ ⟨by omega, by omega⟩ (fun _ => q S M v m T A p5 h hm) (fun hx => absurd hx (by omega))
  | succ mm ih =>
    intro k S M v m T A p5 hk h hm
    exact ls2i hL hd h hm (by omega) (fun S' M' v' m' T' A' p5 h' hm' => ih (k + 1) S' M' v' m' T' A' p5 (by omega) (by rw [show z + 8 * (k + 1) = z + 8 * k + 8 by omega]; exact h') hm')
end LK2
