/-! the law's list: orders (wip/p26/gen99w.py) -/
section LW
variable {E : Nat → Value} {d : Nat} {S S' S0 S1 : aS} {M M' M0 M1 : Nat → Nat → Int} {Q : Option (Option Value) → aS → aI → Prop} {cb bo bt s sb sa n v z z0 Jn : Nat} {bs : List Int} {m T : Nat → Nat} {A : Nat → Nat → Nat} {ce : Nat → Int}
theorem Lw.le {c : Nat → Nat} {V : Nat → Nat → Nat → Int} {z' : Nat} (h : Lw cb sb s S0 M0 c V S M v bs z Jn m T A) (hz : z ≤ z') : Lw cb sb s S0 M0 c V S M v bs z' Jn m T A := by
  obtain ⟨⟨h1, h2, h3, h4, h5, h6⟩, hl⟩ := h
  have hz' := Nat.mul_le_mul_right 8010 hz
  exact ⟨⟨h1, h2, h3, h4, Nat.le_trans h5 (Nat.add_le_add_left hz _), Nat.le_trans h6 (Nat.add_le_add_left hz' _)⟩, hl⟩
theorem Ch.kp2 {y : Nat} (h : Ch S0 M0 S M sb v bs z) (g : Kp (aX S) S M S' M') (hM : RM M') (hx : aX S' ≤ aX S + y) (hz : aZ S' ≤ aZ S + y * 8010) : Ch S0 M0 S' M' sb v bs (z + y) := by
  obtain ⟨h1, h2, h3, h4, h5, h6⟩ := h
  refine ⟨h1.tr g h1.1, hM, h3.kp g h3.2.2.2.2.2.2.2.2.2.1 h3.2.2.2.2.2.2.2.2.2.2, h4, by omega, ?_⟩
  rw [Nat.add_mul]
  omega
theorem sB_l (r : Nat → Nat) (k : Nat) : (sB r k).length ≤ 40 := by
  have h150 : (lb 150).length = 0 := by decide
  have h151 : (lb 151).length = 7 := by decide
  have h152 : (lb 152).length = 11 := by decide
  have h153 : (lb 153).length = 14 := by decide
  have h154 : (lb 154).length = 2 := by decide
  have h155 : (lb 155).length = 3 := by decide
  have h156 : (lb 156).length = 10 := by decide
  have h157 : (lb 157).length = 4 := by decide
  have h158 : (lb 158).length = 2 := by decide
  have h159 : (lb 159).length = 4 := by decide
  have g3 := dg_l3 (n := r 3)
  have g6 := dg_l3 (n := r 6)
  have g7 := dg_l3 (n := r 7)
  have g8 := dg_l3 (n := r 8)
  unfold sB
  (repeat' split) <;> (first | omega | (simp only [List.length_append, List.length_nil]; omega))
theorem tB_l (r : Nat → Nat) (k : Nat) : (tB r k).length ≤ 80 := by
  have h130 : (lb 130).length = 4 := by decide
  have h131 : (lb 131).length = 2 := by decide
  have h132 : (lb 132).length = 8 := by decide
  have h133 : (lb 133).length = 12 := by decide
  have h134 : (lb 134).length = 10 := by decide
  have h135 : (lb 135).length = 7 := by decide
  have h136 : (lb 136).length = 1 := by decide
  have h137 : (lb 137).length = 7 := by decide
  have h138 : (lb 138).length = 2 := by decide
  have h139 : (lb 139).length = 19 := by decide
  have h140 : (lb 140).length = 11 := by decide
  have h141 : (lb 141).length = 2 := by decide
  have h142 : (lb 142).length = 28 := by decide
  have h143 : (lb 143).length = 6 := by decide
  have h144 : (lb 144).length = 2 := by decide
  have h145 : (lb 145).length = 5 := by decide
  have g5 := dg_l3 (n := r 5)
  have g6 := dg_l3 (n := r 6)
  have g7 := dg_l3 (n := r 7)
  have g8 := dg_l3 (n := r 8)
  have g9 := dg_l3 (n := r 9)
  unfold tB
  (repeat' split) <;> (first | omega | (simp only [List.length_append, List.length_nil]; omega))
/-- the text of an order -/
def tOr (ce : Nat → Int) (k : Nat) (b : List Int) : List Int :=
  if oso ce k = 0 then ((((((b ++ lb 127) ++ dg (owh ce k)) ++ lb 128) ++ dg (owi ce k)) ++ lb 129) ++ tB (orw ce k) (o4 ce k).toNat) ++ lb 116
  else if oso ce k = 1 then ((((((b ++ lb 146) ++ dg (owh ce k)) ++ lb 147) ++ dg (owi ce k)) ++ lb 129) ++ tB (orw ce k) (o4 ce k).toNat) ++ lb 116
  else (((((b ++ lb 148) ++ dg (owh ce k)) ++ lb 149) ++ sB (orw ce k) (owi ce k)) ++ (if o4 ce k < 0 then lb 150 else ([] ++ lb 129) ++ tB (orw ce k) (o4 ce k).toNat)) ++ lb 116
def tx6 (ce : Nat → Int) (b : List Int) : Nat → List Int
  | 0 => b
  | k + 1 => tOr ce k (tx6 ce b k)
theorem tOr_l {b : List Int} (k : Nat) : (tOr ce k b).length ≤ b.length + 180 := by
  have h1 : (lb 127).length = 6 := by decide
  have h2 : (lb 128).length = 5 := by decide
  have h3 : (lb 129).length = 6 := by decide
  have h4 : (lb 116).length = 1 := by decide
  have h5 : (lb 146).length = 6 := by decide
  have h6 : (lb 147).length = 5 := by decide
  have h7 : (lb 148).length = 6 := by decide
  have h8 : (lb 149).length = 6 := by decide
  have h9 : (lb 150).length = 0 := by decide
  have g1 := dg_l3 (n := owh ce k)
  have g2 := dg_l3 (n := owi ce k)
  have g3 := tB_l (orw ce k) (o4 ce k).toNat
  have g4 := sB_l (orw ce k) (owi ce k)
  unfold tOr
  split
  · simp only [List.length_append]; omega
  · split
    · simp only [List.length_append]; omega
    · split
      · simp only [List.length_append]; omega
      · simp only [List.length_append, List.length_nil]; omega
theorem tx6_l {b : List Int} : ∀ k, (tx6 ce b k).length ≤ b.length + 180 * k
  | 0 => Nat.le_refl _
  | k + 1 => by
    have ih := tx6_l (b := b) k
    have g := tOr_l (ce := ce) (b := tx6 ce b k) k
    show (tOr ce k (tx6 ce b k)).length ≤ _
    omega
theorem oso_b (k : Nat) : oso ce k < 3 := Nat.mod_lt _ (by decide)
theorem owh_b (k : Nat) : owh ce k < (if oso ce k = 0 then C5 ce else if oso ce k = 1 then C4 ce else C2 ce) := by
  have h2 := C2_b (ce := ce)
  have h4 := C4_b (ce := ce)
  have h5 := C5_b (ce := ce)
  refine (bN_e ?_).2
  split
  · omega
  · split
    · omega
    · omega
theorem owi_b (k : Nat) : owi ce k < 120 ∧ (oso ce k = 0 → owi ce k < C4 ce) ∧ (oso ce k ≠ 0 → oso ce k ≠ 1 → owi ce k ≤ 5) := by
  have h4 := C4_b (ce := ce)
  have a1 := (bN_e (v := sh (X6 ce k) 4) (n := C4 ce) (by omega)).2
  have a2 := (bN_e (v := sh (X6 ce k) 4) (n := 120) (by decide)).2
  have a3 := (bN_e (v := sh (X6 ce k) 4) (n := 6) (by decide)).2
  unfold owi
  refine ⟨?_, fun h => ?_, fun h h' => ?_⟩
  · split
    · omega
    · split
      · omega
      · omega
  · rw [if_pos h]; exact a1
  · rw [if_neg h, if_neg h']; omega
theorem o4_b (k : Nat) : -1 ≤ o4 ce k ∧ o4 ce k ≤ 7 ∧ (oso ce k ≠ 2 → 0 ≤ o4 ce k) := by
  have a1 := (bN_e (v := Y6 ce k) (n := 9) (by decide)).2
  have a2 := (bN_e (v := Y6 ce k) (n := 8) (by decide)).2
  unfold o4
  split
  · exact ⟨by omega, by omega, fun h => absurd ‹_› h⟩
  · exact ⟨by omega, by omega, fun _ => by omega⟩
theorem orw_b (k q : Nat) : orw ce k q < 1000 := by
  have h2 := C2_b (ce := ce)
  have h4 := C4_b (ce := ce)
  have h5 := C5_b (ce := ce)
  have hm := mny_b (ce := ce)
  have b0 := oso_b (ce := ce) k
  have b1 := owh_b (ce := ce) k
  have b2 := (owi_b (ce := ce) k).1
  have b4 := o4_b (ce := ce) k
  have c1 := (bN_e (v := sh (X6 ce k) 6) (n := 100) (by decide)).2
  have c2 := (bN_e (v := sh (Y6 ce k) 3) (n := 100) (by decide)).2
  have c3 := (bN_e (v := sh (Y6 ce k) 5) (n := mny ce + 2) (by omega)).2
  have c4 := (bN_e (v := sh (X6 ce k) 5) (n := C2 ce) (by omega)).2
  have c5 := (bN_e (v := sh (Y6 ce k) 2) (n := C4 ce) (by omega)).2
  have c6 := (bN_e (v := sh (Y6 ce k) 4) (n := C5 ce) (by omega)).2
  have b1' : owh ce k < 10 := by
    split at b1
    · omega
    · split at b1
      · omega
      · omega
  unfold orw
  (repeat' split) <;> omega
/-- what a row of an order holds -/
theorem Lw.ow {k : Nat} (h : Lz cb sb s S0 M0 ce S M v bs z 6 m T A) (hk : k < m 6) : Ow S M (A 6 k) (orw ce k) ∧ M (A 6 k) 4 = o4 ce k ∧ M (A 6 k) 2 = (owi ce k : Int) := by
  obtain ⟨r1, r2, r3, r4, r5⟩ := h.ro (j := 6) (k := k) (by decide) (by decide) hk
  refine ⟨⟨r5, r2, r3, fun j hj h4 => ⟨?_, orw_b k j⟩⟩, ?_, ?_⟩
  · rw [r4 j hj]
    show (if j = 4 then o4 ce k else (orw ce k j : Int)) = _
    rw [if_neg h4]
  · rw [r4 4 (by decide)]
    rfl
  · rw [r4 2 (by decide)]
    rfl
set_option maxHeartbeats 2000000 in
theorem ls6a {k : Nat} {p5 p6 : Option Value} (hL : Ls E S0 M0 cb bo bt sa n ce) (hd : 30 ≤ d) (hbs : bs.length ≤ 3000) (h : Lz cb sb s S0 M0 ce S M v bs z 6 m T A) (hm : k < m 6) (hso : oso ce k = 0)
    (q : ∀ S' M' v' p5 p6 p7 p8 p9 p10, Lz cb sb s S0 M0 ce S' M' v' (tOr ce k bs) (z + 49) 6 m T A → X E d fL_list 700 [some (.ref sa), some (.ref sb), some (.ref s), some (J (mny ce : Int)), some (J ((k + 1 : Nat) : Int)), p5, p6, p7, p8, p9, p10] [] S' (mI M') Q) :
    X E d fL_list 1002 [some (.ref sa), some (.ref sb), some (.ref s), some (J (mny ce : Int)), some (J (k : Int)), p5, p6, some (J (oso ce k : Int)), some (J (owh ce k : Int)), some (J (owi ce k : Int)), some (.ref (A 6 k))] [] S (mI M) Q := by
  have hW := hL.1
  have l127 : (lb 127).length = 6 := by decide
  have l128 : (lb 128).length = 5 := by decide
  have l129 : (lb 129).length = 6 := by decide
  have l116 : (lb 116).length = 1 := by decide
  have l146 : (lb 146).length = 6 := by decide
  have l147 : (lb 147).length = 5 := by decide
  have l148 : (lb 148).length = 6 := by decide
  have l149 : (lb 149).length = 6 := by decide
  have l150 : (lb 150).length = 0 := by decide
  have g1 := dg_l3 (n := owh ce k)
  have g2 := dg_l3 (n := owi ce k)
  have g3 := tB_l (orw ce k) (o4 ce k).toNat
  have g4 := sB_l (orw ce k) (owi ce k)
  have b0 := oso_b (ce := ce) k
  have b1 := orw_b (ce := ce) k 1
  have b1w : owh ce k < 1000 := b1
  have b2 := (owi_b (ce := ce) k).1
  have b4 := o4_b (ce := ce) k
  have et : tOr ce k bs = ((((((bs ++ lb 127) ++ dg (owh ce k)) ++ lb 128) ++ dg (owi ce k)) ++ lb 129) ++ tB (orw ce k) (o4 ce k).toNat) ++ lb 116 := by
    unfold tOr
    rw [if_pos hso]
  obtain ⟨b1, w1, f1, fb1, fw1, fs1⟩ := hW.2.2 127 (by decide) (by decide)
  refine kL_list_1002 f1 (by omega) (lwLit hW h fb1 fw1 fs1 (by first | omega | (simp only [List.length_append]; omega)) (by omega) (fun S1 M1 v1 h1 => ⟨_, rfl, ?_⟩)) h.kd
  refine kL_list_1008 (by omega) (lwInt hW h1 (n := owh ce k) rfl b1w (by first | omega | (simp only [List.length_append]; omega)) (by omega) (fun S2 M2 v2 h2 => ⟨_, rfl, ?_⟩)) h1.kd
  obtain ⟨b3, w3, f3, fb3, fw3, fs3⟩ := hW.2.2 128 (by decide) (by decide)
  refine kL_list_1013 f3 (by omega) (lwLit hW h2 fb3 fw3 fs3 (by first | omega | (simp only [List.length_append]; omega)) (by omega) (fun S3 M3 v3 h3 => ⟨_, rfl, ?_⟩)) h2.kd
  refine kL_list_1018 (by omega) (lwInt hW h3 (n := owi ce k) rfl (by omega) (by first | omega | (simp only [List.length_append]; omega)) (by omega) (fun S4 M4 v4 h4 => ⟨_, rfl, ?_⟩)) h3.kd
  obtain ⟨b5, w5, f5, fb5, fw5, fs5⟩ := hW.2.2 129 (by decide) (by decide)
  refine kL_list_1023 f5 (by omega) (lwLit hW h4 fb5 fw5 fs5 (by first | omega | (simp only [List.length_append]; omega)) (by omega) (fun S5 M5 v5 h5 => ⟨_, rfl, ?_⟩)) h4.kd
  obtain ⟨ow, w4, w2⟩ := h5.ow hm
  have h4n : M5 (A 6 k) 4 = ((o4 ce k).toNat : Int) := by rw [w4]; omega
  have hcb : cb ≤ aX S5 := by
    have := h5.2.1.2.1
    have := h5.2.1.2.2
    omega
  refine kL_list_1028 (by omega) (mL_test (h5.wl hW) h5.1.2.1 ow hcb (by omega) h4n (by omega) (fun S6 M6 b6 w6 r6 => ⟨_, rfl, ?_⟩))
  have k6 : aKd S6 sb = 1 := (r6.1.kd (h5.1.2.2.1.2.2.2.2.2.2.2.2.2.1)).trans h5.kd
  refine kL_list_1033 (by omega) (lwRs hW h5 r6 (by first | omega | (simp only [List.length_append]; omega)) (by omega) (fun S7 M7 v7 h7 => ⟨_, rfl, ?_⟩)) k6
  obtain ⟨b8, w8, f8, fb8, fw8, fs8⟩ := hW.2.2 116 (by decide) (by decide)
  refine kL_list_1036 f8 (by omega) (lwLit hW h7 fb8 fw8 fs8 (by first | omega | (simp only [List.length_append]; omega)) (by omega) (fun S8 M8 v8 h8 => ⟨_, rfl, kL_list_1041 (kL_list_1162 ?_)⟩)) h7.kd
  rw [show (k : Int) + 1 = ((k + 1 : Nat) : Int) by omega]
  refine q S8 M8 v8 _ _ _ _ _ _ ?_
  rw [et]
  exact h8.le (by omega)
set_option maxHeartbeats 2000000 in
theorem ls6b {k : Nat} {p5 p6 : Option Value} (hL : Ls E S0 M0 cb bo bt sa n ce) (hd : 30 ≤ d) (hbs : bs.length ≤ 3000) (h : Lz cb sb s S0 M0 ce S M v bs z 6 m T A) (hm : k < m 6) (hso : oso ce k = 1)
    (q : ∀ S' M' v' p5 p6 p7 p8 p9 p10, Lz cb sb s S0 M0 ce S' M' v' (tOr ce k bs) (z + 49) 6 m T A → X E d fL_list 700 [some (.ref sa), some (.ref sb), some (.ref s), some (J (mny ce : Int)), some (J ((k + 1 : Nat) : Int)), p5, p6, p7, p8, p9, p10] [] S' (mI M') Q) :
    X E d fL_list 1051 [some (.ref sa), some (.ref sb), some (.ref s), some (J (mny ce : Int)), some (J (k : Int)), p5, p6, some (J (oso ce k : Int)), some (J (owh ce k : Int)), some (J (owi ce k : Int)), some (.ref (A 6 k))] [] S (mI M) Q := by
  have hW := hL.1
  have l127 : (lb 127).length = 6 := by decide
  have l128 : (lb 128).length = 5 := by decide
  have l129 : (lb 129).length = 6 := by decide
  have l116 : (lb 116).length = 1 := by decide
  have l146 : (lb 146).length = 6 := by decide
  have l147 : (lb 147).length = 5 := by decide
  have l148 : (lb 148).length = 6 := by decide
  have l149 : (lb 149).length = 6 := by decide
  have l150 : (lb 150).length = 0 := by decide
  have g1 := dg_l3 (n := owh ce k)
  have g2 := dg_l3 (n := owi ce k)
  have g3 := tB_l (orw ce k) (o4 ce k).toNat
  have g4 := sB_l (orw ce k) (owi ce k)
  have b0 := oso_b (ce := ce) k
  have b1 := orw_b (ce := ce) k 1
  have b1w : owh ce k < 1000 := b1
  have b2 := (owi_b (ce := ce) k).1
  have b4 := o4_b (ce := ce) k
  have et : tOr ce k bs = ((((((bs ++ lb 146) ++ dg (owh ce k)) ++ lb 147) ++ dg (owi ce k)) ++ lb 129) ++ tB (orw ce k) (o4 ce k).toNat) ++ lb 116 := by
    unfold tOr
    rw [if_neg (by omega), if_pos hso]
  obtain ⟨b1, w1, f1, fb1, fw1, fs1⟩ := hW.2.2 146 (by decide) (by decide)
  refine kL_list_1051 f1 (by omega) (lwLit hW h fb1 fw1 fs1 (by first | omega | (simp only [List.length_append]; omega)) (by omega) (fun S1 M1 v1 h1 => ⟨_, rfl, ?_⟩)) h.kd
  refine kL_list_1057 (by omega) (lwInt hW h1 (n := owh ce k) rfl b1w (by first | omega | (simp only [List.length_append]; omega)) (by omega) (fun S2 M2 v2 h2 => ⟨_, rfl, ?_⟩)) h1.kd
  obtain ⟨b3, w3, f3, fb3, fw3, fs3⟩ := hW.2.2 147 (by decide) (by decide)
  refine kL_list_1062 f3 (by omega) (lwLit hW h2 fb3 fw3 fs3 (by first | omega | (simp only [List.length_append]; omega)) (by omega) (fun S3 M3 v3 h3 => ⟨_, rfl, ?_⟩)) h2.kd
  refine kL_list_1067 (by omega) (lwInt hW h3 (n := owi ce k) rfl (by omega) (by first | omega | (simp only [List.length_append]; omega)) (by omega) (fun S4 M4 v4 h4 => ⟨_, rfl, ?_⟩)) h3.kd
  obtain ⟨b5, w5, f5, fb5, fw5, fs5⟩ := hW.2.2 129 (by decide) (by decide)
  refine kL_list_1072 f5 (by omega) (lwLit hW h4 fb5 fw5 fs5 (by first | omega | (simp only [List.length_append]; omega)) (by omega) (fun S5 M5 v5 h5 => ⟨_, rfl, ?_⟩)) h4.kd
  obtain ⟨ow, w4, w2⟩ := h5.ow hm
  have h4n : M5 (A 6 k) 4 = ((o4 ce k).toNat : Int) := by rw [w4]; omega
  have hcb : cb ≤ aX S5 := by
    have := h5.2.1.2.1
    have := h5.2.1.2.2
    omega
  refine kL_list_1077 (by omega) (mL_test (h5.wl hW) h5.1.2.1 ow hcb (by omega) h4n (by omega) (fun S6 M6 b6 w6 r6 => ⟨_, rfl, ?_⟩))
  have k6 : aKd S6 sb = 1 := (r6.1.kd (h5.1.2.2.1.2.2.2.2.2.2.2.2.2.1)).trans h5.kd
  refine kL_list_1082 (by omega) (lwRs hW h5 r6 (by first | omega | (simp only [List.length_append]; omega)) (by omega) (fun S7 M7 v7 h7 => ⟨_, rfl, ?_⟩)) k6
  obtain ⟨b8, w8, f8, fb8, fw8, fs8⟩ := hW.2.2 116 (by decide) (by decide)
  refine kL_list_1085 f8 (by omega) (lwLit hW h7 fb8 fw8 fs8 (by first | omega | (simp only [List.length_append]; omega)) (by omega) (fun S8 M8 v8 h8 => ⟨_, rfl, kL_list_1090 (kL_list_1162 ?_)⟩)) h7.kd
  rw [show (k : Int) + 1 = ((k + 1 : Nat) : Int) by omega]
  refine q S8 M8 v8 _ _ _ _ _ _ ?_
  rw [et]
  exact h8.le (by omega)
set_option maxHeartbeats 4000000 in
theorem ls6c {k : Nat} {p5 p6 : Option Value} (hL : Ls E S0 M0 cb bo bt sa n ce) (hd : 30 ≤ d) (hbs : bs.length ≤ 3000) (h : Lz cb sb s S0 M0 ce S M v bs z 6 m T A) (hm : k < m 6) (hso : oso ce k = 2)
    (q : ∀ S' M' v' p5 p6 p7 p8 p9 p10, Lz cb sb s S0 M0 ce S' M' v' (tOr ce k bs) (z + 49) 6 m T A → X E d fL_list 700 [some (.ref sa), some (.ref sb), some (.ref s), some (J (mny ce : Int)), some (J ((k + 1 : Nat) : Int)), p5, p6, p7, p8, p9, p10] [] S' (mI M') Q) :
    X E d fL_list 1094 [some (.ref sa), some (.ref sb), some (.ref s), some (J (mny ce : Int)), some (J (k : Int)), p5, p6, some (J (oso ce k : Int)), some (J (owh ce k : Int)), some (J (owi ce k : Int)), some (.ref (A 6 k))] [] S (mI M) Q := by
  have hW := hL.1
  have l127 : (lb 127).length = 6 := by decide
  have l128 : (lb 128).length = 5 := by decide
  have l129 : (lb 129).length = 6 := by decide
  have l116 : (lb 116).length = 1 := by decide
  have l146 : (lb 146).length = 6 := by decide
  have l147 : (lb 147).length = 5 := by decide
  have l148 : (lb 148).length = 6 := by decide
  have l149 : (lb 149).length = 6 := by decide
  have l150 : (lb 150).length = 0 := by decide
  have g1 := dg_l3 (n := owh ce k)
  have g2 := dg_l3 (n := owi ce k)
  have g3 := tB_l (orw ce k) (o4 ce k).toNat
  have g4 := sB_l (orw ce k) (owi ce k)
  have b0 := oso_b (ce := ce) k
  have b1 := orw_b (ce := ce) k 1
  have b1w : owh ce k < 1000 := b1
  have b2 := (owi_b (ce := ce) k).1
  have b4 := o4_b (ce := ce) k
  have hwi := (owi_b (ce := ce) k).2.2 (by omega) (by omega)
  obtain ⟨b1, w1, f1, fb1, fw1, fs1⟩ := hW.2.2 148 (by decide) (by decide)
  refine kL_list_1094 f1 (by omega) (lwLit hW h fb1 fw1 fs1 (by first | omega | (simp only [List.length_append]; omega)) (by omega) (fun S1 M1 v1 h1 => ⟨_, rfl, ?_⟩)) h.kd
  refine kL_list_1100 (by omega) (lwInt hW h1 (n := owh ce k) rfl b1w (by first | omega | (simp only [List.length_append]; omega)) (by omega) (fun S2 M2 v2 h2 => ⟨_, rfl, ?_⟩)) h1.kd
  obtain ⟨b3, w3, f3, fb3, fw3, fs3⟩ := hW.2.2 149 (by decide) (by decide)
  refine kL_list_1105 f3 (by omega) (lwLit hW h2 fb3 fw3 fs3 (by first | omega | (simp only [List.length_append]; omega)) (by omega) (fun S3 M3 v3 h3 => ⟨_, rfl, ?_⟩)) h2.kd
  obtain ⟨ow, w4, w2⟩ := h3.ow hm
  have hcb : cb ≤ aX S3 := by
    have := h3.2.1.2.1
    have := h3.2.1.2.2
    omega
  refine kL_list_1110 (by omega) (mL_sum (h3.wl hW) h3.1.2.1 ow hcb (by omega) w2 (by omega) (fun S4 M4 b4' w4' r4 => ⟨_, rfl, ?_⟩))
  have k4 : aKd S4 sb = 1 := (r4.1.kd (h3.1.2.2.1.2.2.2.2.2.2.2.2.2.1)).trans h3.kd
  refine kL_list_1115 (by omega) (lwRs hW h3 r4 (by first | omega | (simp only [List.length_append]; omega)) (by omega) (fun S5 M5 v5 h5 => ⟨_, rfl, ?_⟩)) k4
  obtain ⟨ow5, w45, w25⟩ := h5.ow hm
  have hcb5 : cb ≤ aX S5 := by
    have := h5.2.1.2.1
    have := h5.2.1.2.2
    omega
  have hW5 := h5.wl hW
  -- the end: a string is appended, and the end of the line
  have fin : ∀ (S6 : aS) (M6 : Nat → Nat → Int) (b6 w6 : Nat) (cs : List Int), cs = (if o4 ce k < 0 then lb 150 else ([] ++ lb 129) ++ tB (orw ce k) (o4 ce k).toNat) → Rs S5 M5 S6 M6 b6 w6 cb cs 23 → X E d fL_list 1153 [some (.ref sa), some (.ref sb), some (.ref s), some (J (mny ce : Int)), some (J (k : Int)), p5, p6, some (J (oso ce k : Int)), some (J (owh ce k : Int)), some (J (owi ce k : Int)), some (.ref (A 6 k))] [.ref b6, .ref sb] S6 (mI M6) Q := by
    intro S6 M6 b6 w6 cs hcs r6
    have et : tOr ce k bs = ((((((bs ++ lb 148) ++ dg (owh ce k)) ++ lb 149) ++ sB (orw ce k) (owi ce k)) ++ cs) ++ lb 116) := by
      unfold tOr
      rw [if_neg (by omega), if_neg (by omega), hcs]
    have lcs : cs.length ≤ 90 := by
      rw [hcs]
      split
      · omega
      · simp only [List.length_append, List.length_nil]; omega
    have k6 : aKd S6 sb = 1 := (r6.1.kd (h5.1.2.2.1.2.2.2.2.2.2.2.2.2.1)).trans h5.kd
    refine kL_list_1153 (by omega) (lwRs hW h5 r6 (by first | omega | (simp only [List.length_append]; omega)) (by omega) (fun S7 M7 v7 h7 => ⟨_, rfl, ?_⟩)) k6
    obtain ⟨b8, w8, f8, fb8, fw8, fs8⟩ := hW.2.2 116 (by decide) (by decide)
    refine kL_list_1156 f8 (by omega) (lwLit hW h7 fb8 fw8 fs8 (by first | omega | (simp only [List.length_append]; omega)) (by omega) (fun S8 M8 v8 h8 => ⟨_, rfl, kL_list_1161 (kL_list_1162 ?_)⟩)) h7.kd
    rw [show (k : Int) + 1 = ((k + 1 : Nat) : Int) by omega]
    refine q S8 M8 v8 _ _ _ _ _ _ ?_
    rw [et]
    exact h8.le (by omega)
  refine kL_list_1118 ow5.2.1 (by rw [ow5.2.2.1]; decide) (by rw [w45]; exact ⟨by omega, by omega⟩) (fun hx => ?_) (fun hx => ?_)
  · rw [w45] at hx
    have hX5 := h5.1.2.1
    refine kL_list_1130 (by omega) (chInit hW.1 hX5 (by omega) (fun S6 M6 v6 c6 => ⟨_, rfl, ?_⟩))
    obtain ⟨b9, w9, f9, fb9, fw9, fs9⟩ := hW5.2.2 129 (by decide) (by decide)
    refine kL_list_1137 f9 (by omega) (chLit (n := 0) hW.1 c6 (by omega) (by omega) fs9 (by simp only [List.length_nil]; omega) (by omega) (fun S7 M7 v7 c7 => ⟨_, rfl, ?_⟩)) c6.kd
    have hW7 := hW5.kp (c7.kp.dn hcb5)
    have ow7 : Ow S7 M7 (A 6 k) (orw ce k) := ⟨Nat.lt_of_lt_of_le ow5.1 c7.kp.1, (c7.kp.kd ow5.1).trans ow5.2.1, (c7.kp.2 _ ow5.1).1.2.1.trans ow5.2.2.1, fun j hj h4 => ⟨by rw [(c7.kp.2 _ ow5.1).2]; exact (ow5.2.2.2 j hj h4).1, (ow5.2.2.2 j hj h4).2⟩⟩
    have h4n : M7 (A 6 k) 4 = ((o4 ce k).toNat : Int) := by rw [(c7.kp.2 _ ow5.1).2, w45]; omega
    refine kL_list_1142 (by omega) (mL_test hW7 c7.2.1 ow7 (Nat.le_trans hcb5 c7.kp.1) (by omega) h4n (by omega) (fun S8 M8 b8 w8 r8 => ⟨_, rfl, ?_⟩))
    have c8 := c7.kp2 r8.1 r8.2.1 r8.2.2.2.2.1 r8.2.2.2.2.2
    have hv7 := c7.2.2.2.1.2
    have hvx7 := c7.2.2.1.2.2.2.2.2.2.2.2.2.2
    have hw8 := r8.2.2.2.1
    refine kL_list_1147 (by omega) (jApp hW.1 c8.2.1 c8.2.2.1 r8.2.2.1 (by omega) (by first | omega | (simp only [List.length_append, List.length_nil]; omega)) (by omega) (fun S9 M9 v9 a9 s9 => ⟨_, rfl, ?_⟩)) c8.kd
    have c9 := c8.of a9 s9
    refine kL_list_1150 (by omega) (chEnd (cb := cb) hW.1 c9 (by simp only [List.length_append, List.length_nil]; omega) (by omega) (fun S10 M10 b10 w10 r10 => ⟨_, rfl, ?_⟩)) c9.kd
    exact fin S10 M10 b10 w10 _ (by rw [if_neg (by omega)]) ⟨r10.1, r10.2.1, r10.2.2.1, r10.2.2.2.1, by have := r10.2.2.2.2.1; omega, by have := r10.2.2.2.2.2; omega⟩
  · rw [w45] at hx
    obtain ⟨b9, w9, f9, fb9, fw9, fs9⟩ := hW5.2.2 150 (by decide) (by decide)
    exact kL_list_1125 f9 (fin S5 M5 b9 w9 _ (by rw [if_pos hx]) ⟨Kp.rf, h5.1.2.1, fs9, Or.inl fw9, by omega, by omega⟩)
end LW
