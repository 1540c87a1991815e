/-! the cut -/
section CX
variable {E : Nat → Value} {d : Nat} {S S' : aS} {M M' M0 : Nat → Nat → Int} {Q : Option (Option Value) → aS → aI → Prop}
/-- the tokens of a text: places, lengths, kinds, worths; behind the c-th the end -/
def TkQ (f : Nat → Nat) (n c : Nat) (P L K V : Nat → Nat) : Prop := (P c = n ∧ L c = 0 ∧ K c = 49 ∧ V c = 0) ∧ (∀ i, i ≤ c → Blk f n (if i = 0 then 0 else P (i - 1) + L (i - 1)) (P i)) ∧ ∀ i, i < c → Tk f n (P i) (L i) (K i) (V i)
/-- what stands in the arrays of the tokens before the i-th, all else as it was -/
def TkA (cl : Nat) (M0 M : Nat → Nat → Int) (i : Nat) (P L K V : Nat → Nat) : Prop :=
  RM M ∧ (∀ x, x < cl + 2 ∨ cl + 6 < x → M x = M0 x) ∧ ∀ j, j < i → M (cl + 3) j = (K j : Int) ∧ M (cl + 4) j = (P j : Int) ∧ M (cl + 5) j = (L j : Int) ∧ M (cl + 6) j = (V j : Int)
abbrev ClT (E : Nat → Value) (cl : Nat) (S : aS) (M : Nat → Nat → Int) (n : Nat) (f : Nat → Nat) (bs ws bk wk b3 : Nat) : Prop :=
  TbS cl S cT ∧ Tq S M (cl + 1) n f ∧ (Sy E S M bs ws ∧ Kw E S M bk wk b3 (jn kws)) ∧ (bs < cl ∧ ws < cl ∧ bk < cl ∧ wk < cl)
theorem Str.fr {b w : Nat} {cs : List Int} (h : Str S M b w cs) (h1 : M' b = M b) (h2 : M' w = M w) : Str S M' b w cs :=
  ⟨h.1, by rw [h1]; exact h.2.1, h.2.2.1, h.2.2.2.1, h.2.2.2.2.1, fun i x hx => by rw [h2]; exact h.2.2.2.2.2.1 i x hx, h.2.2.2.2.2.2.1, h.2.2.2.2.2.2.2.1, h.2.2.2.2.2.2.2.2⟩
theorem ClT.fr {cl n bs ws bk wk b3 : Nat} {f : Nat → Nat} (h : ClT E cl S M n f bs ws bk wk b3) (g : ∀ x, x < cl + 2 ∨ cl + 6 < x → M' x = M x) : ClT E cl S M' n f bs ws bk wk b3 := by
  obtain ⟨h1, h2, ⟨⟨s1, s2, s3⟩, k1, k2, k3, k4, k5⟩, b1, b2, b4, b5⟩ := h
  exact ⟨h1, h2.fr (g _ (by omega)), ⟨⟨s1, s2, s3.fr (g _ (by omega)) (g _ (by omega))⟩, k1, k2, k3, k4.fr (g _ (by omega)) (g _ (by omega)), k5⟩, b1, b2, b4, b5⟩
theorem mW_eq {a j : Nat} {x : Int} : mW M a j x a j = x := by rw [mW_get, if_pos ⟨rfl, rfl⟩]
theorem TkA.w {cl a i j : Nat} {x : Int} {P L K V : Nat → Nat} (h : TkA cl M0 M i P L K V) (ha : cl + 2 ≤ a ∧ a ≤ cl + 6) (hx : R32 x) (hj : i ≤ j ∨ a = cl + 2) : TkA cl M0 (mW M a j x) i P L K V := by
  obtain ⟨h1, h2, h3⟩ := h
  refine ⟨h1.w hx, fun y hy => (mW_ne (by omega)).trans (h2 y hy), fun k hk => ?_⟩
  rw [mW_ne2 (by omega), mW_ne2 (by omega), mW_ne2 (by omega), mW_ne2 (by omega)]
  exact h3 k hk
theorem TkA.add {cl i : Nat} {P L K V : Nat → Nat} (h : TkA cl M0 M i P L K V) (g : M (cl + 3) i = (K i : Int) ∧ M (cl + 4) i = (P i : Int) ∧ M (cl + 5) i = (L i : Int) ∧ M (cl + 6) i = (V i : Int)) : TkA cl M0 M (i + 1) P L K V :=
  ⟨h.1, h.2.1, fun j hj => by
    by_cases e : j = i
    · rw [e]; exact g
    · exact h.2.2 j (by omega)⟩
theorem nv_b {f : Nat → Nat} {p : Nat} : ∀ (L : Nat), (∀ i, i < L → isD (f (p + i)) = true) → nv f p L < 10 ^ L
  | 0, _ => by
    show 0 < 1
    decide
  | L + 1, h => by
    have ih := nv_b L (fun i hi => h i (by omega))
    have hg := isD_t.mp (h L (by omega))
    show nv f p L * 10 + (f (p + L) - 48) < 10 ^ (L + 1)
    rw [Nat.pow_succ]
    omega
theorem Tk.vb {f : Nat → Nat} {n p L k v : Nat} (g : Tk f n p L k v) : v < 1000000 ∧ (k ≠ 48 → v = 0) := by
  rcases g with ⟨_, _, e⟩ | ⟨⟨g1, g2, g3, g4, g5⟩, e1, e⟩ | ⟨s, _, _, _, e⟩ | ⟨_, _, e⟩
  · omega
  · have h := nv_b L g4
    have h2 : 10 ^ L ≤ 10 ^ 6 := Nat.pow_le_pow_right (by decide) g2.2
    have h3 : (10 : Nat) ^ 6 = 1000000 := by decide
    exact ⟨by omega, fun h => absurd e1 h⟩
  · omega
  · omega
set_option maxHeartbeats 2000000 in
theorem cStep {cl n c i at_ bs ws bk wk b3 : Nat} {f P L K V : Nat → Nat} (hT : ClT E cl S M n f bs ws bk wk b3) (hA : TkA cl M0 M i P L K V) (hc : c < 400) (hi : i < c) (hb : Blk f n at_ (P i)) (hk : Tk f n (P i) (L i) (K i) (V i)) (hd : 8 ≤ d)
    (kk : ∀ M', ClT E cl S M' n f bs ws bk wk b3 → TkA cl M0 M' (i + 1) P L K V → M' (cl + 2) 4 = ((i + 1 : Nat) : Int) → X E d fX5_cut 10 [some (.ref (cl + 2)), some (.ref (cl + 1)), some (J (n : Int)), some (J ((P i + L i : Nat) : Int)), some (J ((i + 1 : Nat) : Int))] [] S (mI M') Q) :
    X E d fX5_cut 10 [some (.ref (cl + 2)), some (.ref (cl + 1)), some (J (n : Int)), some (J (at_ : Int)), some (J (i : Int))] [] S (mI M) Q := by
  have hTb := hT.1
  have hq := hT.2.1
  have hn := hq.2.2.1
  have hlt := Tk.lt hk
  have hkl := Tk.ne (hq.2.2.2.2 _) hk
  have hvb := Tk.vb hk
  have g2 : aKd S (cl + 2) = 7 := hTb.kd (i := 2) rfl
  have g2k : aK S (cl + 2) = 7 := hTb.kk (i := 2) rfl
  have p0 : aP S (cl + 2) 0 = some (cl + 3) := hTb.pp (i := 2) (j := 0) (x := 3) rfl rfl
  have p1 : aP S (cl + 2) 1 = some (cl + 4) := hTb.pp (i := 2) (j := 1) (x := 4) rfl rfl
  have p2 : aP S (cl + 2) 2 = some (cl + 5) := hTb.pp (i := 2) (j := 2) (x := 5) rfl rfl
  have p3 : aP S (cl + 2) 3 = some (cl + 6) := hTb.pp (i := 2) (j := 3) (x := 6) rfl rfl
  have k3 : aK S (cl + 3) = 100 := hTb.kk (i := 3) rfl
  have k4 : aK S (cl + 4) = 100 := hTb.kk (i := 4) rfl
  have k5 : aK S (cl + 5) = 100 := hTb.kk (i := 5) rfl
  have k6 : aK S (cl + 6) = 100 := hTb.kk (i := 6) rfl
  have d3 : aKd S (cl + 3) = 100 := hTb.kd (i := 3) rfl
  have d5 : aKd S (cl + 5) = 100 := hTb.kd (i := 5) rfl
  have n3 : aN S (cl + 3) = 401 := hTb.nn (i := 3) rfl
  have n4 : aN S (cl + 4) = 401 := hTb.nn (i := 4) rfl
  have n5 : aN S (cl + 5) = 401 := hTb.nn (i := 5) rfl
  have n6 : aN S (cl + 6) = 401 := hTb.nn (i := 6) rfl
  have ri : R32 (i : Int) := ⟨by omega, by omega⟩
  have hPb : P i < n := hlt.1
  -- the memories
  obtain ⟨M1, e1⟩ : ∃ x, mW M (cl + 4) i (P i : Int) = x := ⟨_, rfl⟩
  have A1 : TkA cl M0 M1 i P L K V := by rw [← e1]; exact hA.w (by omega) ⟨by omega, by omega⟩ (Or.inl (Nat.le_refl _))
  have T1 : ClT E cl S M1 n f bs ws bk wk b3 := hT.fr (fun x hx => by rw [← e1]; exact mW_ne (by omega))
  have v14 : M1 (cl + 4) i = (P i : Int) := by rw [← e1]; exact mW_eq
  obtain ⟨M2, e2⟩ : ∃ x, mW M1 (cl + 5) i (L i : Int) = x := ⟨_, rfl⟩
  have A2 : TkA cl M0 M2 i P L K V := by rw [← e2]; exact A1.w (by omega) ⟨by omega, by omega⟩ (Or.inl (Nat.le_refl _))
  have T2 : ClT E cl S M2 n f bs ws bk wk b3 := T1.fr (fun x hx => by rw [← e2]; exact mW_ne (by omega))
  have v24 : M2 (cl + 4) i = (P i : Int) := by rw [← e2, mW_ne (by omega)]; exact v14
  have v25 : M2 (cl + 5) i = (L i : Int) := by rw [← e2]; exact mW_eq
  obtain ⟨M3, e3⟩ : ∃ x, mW M2 (cl + 3) i (K i : Int) = x := ⟨_, rfl⟩
  have A3 : TkA cl M0 M3 i P L K V := by rw [← e3]; exact A2.w (by omega) ⟨by omega, by omega⟩ (Or.inl (Nat.le_refl _))
  have T3 : ClT E cl S M3 n f bs ws bk wk b3 := T2.fr (fun x hx => by rw [← e3]; exact mW_ne (by omega))
  have v34 : M3 (cl + 4) i = (P i : Int) := by rw [← e3, mW_ne (by omega)]; exact v24
  have v35 : M3 (cl + 5) i = (L i : Int) := by rw [← e3, mW_ne (by omega)]; exact v25
  have v33 : M3 (cl + 3) i = (K i : Int) := by rw [← e3]; exact mW_eq
  obtain ⟨M4, e4⟩ : ∃ x, mW M3 (cl + 6) i (V i : Int) = x := ⟨_, rfl⟩
  have A4 : TkA cl M0 M4 i P L K V := by rw [← e4]; exact A3.w (by omega) ⟨by omega, by omega⟩ (Or.inl (Nat.le_refl _))
  have T4 : ClT E cl S M4 n f bs ws bk wk b3 := T3.fr (fun x hx => by rw [← e4]; exact mW_ne (by omega))
  have v44 : M4 (cl + 4) i = (P i : Int) := by rw [← e4, mW_ne (by omega)]; exact v34
  have v45 : M4 (cl + 5) i = (L i : Int) := by rw [← e4, mW_ne (by omega)]; exact v35
  have v43 : M4 (cl + 3) i = (K i : Int) := by rw [← e4, mW_ne (by omega)]; exact v33
  have v46 : M4 (cl + 6) i = (V i : Int) := by rw [← e4]; exact mW_eq
  obtain ⟨M5, e5⟩ : ∃ x, mW M4 (cl + 2) 4 ((i + 1 : Nat) : Int) = x := ⟨_, rfl⟩
  have A5 : TkA cl M0 M5 (i + 1) P L K V := by
    rw [← e5]
    exact (A4.add ⟨v43, v44, v45, v46⟩).w (by omega) ⟨by omega, by omega⟩ (Or.inr rfl)
  have T5 : ClT E cl S M5 n f bs ws bk wk b3 := T4.fr (fun x hx => by rw [← e5]; exact mW_ne (by omega))
  have v55 : M5 (cl + 5) i = (L i : Int) := by rw [← e5, mW_ne (by omega)]; exact v45
  have v52 : M5 (cl + 2) 4 = ((i + 1 : Nat) : Int) := by rw [← e5]; exact mW_eq
  -- behind the worth
  have rest : X E d fX5_cut 129 [some (.ref (cl + 2)), some (.ref (cl + 1)), some (J (n : Int)), some (J (P i : Int)), some (J (i : Int))] [J (V i : Int), J (i : Int), .ref (cl + 6)] S (mI M3) Q := by
    refine kX5_cut_129 k6 ri ⟨by omega, by omega⟩ g2 p0 d3 ri ⟨by omega, by omega⟩ ?_ (fun h => ?_) (fun _ => ?_)
    all_goals rw [Int.toNat_natCast, e4] at *
    · rw [v43]; exact ⟨by omega, by omega⟩
    · rw [v43] at h; exact absurd h (by omega)
    · refine kX5_cut_142 g2 p0 d3 ri ⟨by omega, by omega⟩ (by rw [Int.toNat_natCast, v43]; exact ⟨by omega, by omega⟩) (fun _ => ?_) (fun h => absurd h (by rw [Int.toNat_natCast, v43]; omega))
      refine kX5_cut_155 g2k g2 p2 d5 ri ⟨by omega, by omega⟩ ?_
      rw [nz_eq ⟨by omega, by omega⟩, show (i : Int) + 1 = ((i + 1 : Nat) : Int) by omega, e5, Int.toNat_natCast, v55, show (P i : Int) + (L i : Int) = ((P i + L i : Nat) : Int) by omega]
      exact kk M5 T5 A5 v52
  refine kX5_cut_10 ri (fun h => absurd h (by omega)) (fun _ => ?_)
  refine kX5_cut_18 (by omega) (kX5_behindBlanks_0 (cBlk hq (P i - at_) at_ (by have := hb.1; omega) hb ⟨_, rfl, ?_⟩))
  refine kX5_cut_24 g2 p1 k4 ri ⟨by omega, by omega⟩ p2 (by omega) ?_
  rw [Int.toNat_natCast, e1]
  refine cLen T1.2.1 T1.2.2.1.1 hk (by omega) ⟨_, rfl, ?_⟩
  refine kX5_cut_45 k5 ri ⟨by omega, by omega⟩ g2 p0 p2 d5 ri ⟨by omega, by omega⟩ (by omega) ?_
  rw [Int.toNat_natCast, e2, v25]
  refine cKind T2.2.1 T2.2.2.1.1 T2.2.2.1.2 hk (by omega) ⟨_, rfl, ?_⟩
  refine kX5_cut_65 k3 ri ⟨by omega, by omega⟩ ri (fun _ => ?_) (fun h => absurd h (by omega))
  rw [Int.toNat_natCast, e3]
  refine kX5_cut_95 g2 p3 p0 d3 ri ⟨by omega, by omega⟩ (by rw [Int.toNat_natCast, v33]; exact ⟨by omega, by omega⟩) (fun h => ?_) (fun h => ?_)
  · rw [Int.toNat_natCast, v33] at h
    refine kX5_cut_128 ?_
    have e0 : V i = 0 := hvb.2 (by omega)
    rw [show (0 : Int) = (V i : Int) by omega]
    exact rest
  · rw [Int.toNat_natCast, v33] at h
    refine kX5_cut_113 g2 p2 d5 ri ⟨by omega, by omega⟩ (by omega) ?_
    rw [Int.toNat_natCast, v35]
    rcases hk with ⟨_, ⟨W, _, _, e⟩, _⟩ | ⟨g, _, e⟩ | ⟨s, g, _, e, _⟩ | ⟨⟨_, g, _⟩, _⟩
    · have := kwG_le W kws 0 (by decide)
      omega
    · refine cNum T3.2.1 g (by omega) ⟨_, rfl, kX5_cut_125 ?_⟩
      rw [← e]
      exact rest
    · have h1 := g.2.2.2.2.1
      have h2 := fx_N _ (hq.2.2.2.2 (P i))
      omega
    · omega
set_option maxHeartbeats 2000000 in
theorem cLast {cl n c at_ bs ws bk wk b3 : Nat} {f P L K V : Nat → Nat} (hT : ClT E cl S M n f bs ws bk wk b3) (hA : TkA cl M0 M c P L K V) (hc : c < 400) (hb : Blk f n at_ n) (h0 : P c = n ∧ L c = 0 ∧ K c = 49 ∧ V c = 0) (hd : 8 ≤ d)
    (q : ∀ M', ClT E cl S M' n f bs ws bk wk b3 → TkA cl M0 M' (c + 1) P L K V → M' (cl + 2) = M (cl + 2) → Q (some none) S (mI M')) :
    X E d fX5_cut 10 [some (.ref (cl + 2)), some (.ref (cl + 1)), some (J (n : Int)), some (J (at_ : Int)), some (J (c : Int))] [] S (mI M) Q := by
  have hTb := hT.1
  have hq := hT.2.1
  have hn := hq.2.2.1
  obtain ⟨h01, h02, h03, h04⟩ := h0
  have g2 : aKd S (cl + 2) = 7 := hTb.kd (i := 2) rfl
  have p0 : aP S (cl + 2) 0 = some (cl + 3) := hTb.pp (i := 2) (j := 0) (x := 3) rfl rfl
  have p1 : aP S (cl + 2) 1 = some (cl + 4) := hTb.pp (i := 2) (j := 1) (x := 4) rfl rfl
  have p2 : aP S (cl + 2) 2 = some (cl + 5) := hTb.pp (i := 2) (j := 2) (x := 5) rfl rfl
  have p3 : aP S (cl + 2) 3 = some (cl + 6) := hTb.pp (i := 2) (j := 3) (x := 6) rfl rfl
  have k3 : aK S (cl + 3) = 100 := hTb.kk (i := 3) rfl
  have k4 : aK S (cl + 4) = 100 := hTb.kk (i := 4) rfl
  have k5 : aK S (cl + 5) = 100 := hTb.kk (i := 5) rfl
  have k6 : aK S (cl + 6) = 100 := hTb.kk (i := 6) rfl
  have d3 : aKd S (cl + 3) = 100 := hTb.kd (i := 3) rfl
  have d5 : aKd S (cl + 5) = 100 := hTb.kd (i := 5) rfl
  have n3 : aN S (cl + 3) = 401 := hTb.nn (i := 3) rfl
  have n4 : aN S (cl + 4) = 401 := hTb.nn (i := 4) rfl
  have n5 : aN S (cl + 5) = 401 := hTb.nn (i := 5) rfl
  have n6 : aN S (cl + 6) = 401 := hTb.nn (i := 6) rfl
  have ri : R32 (c : Int) := ⟨by omega, by omega⟩
  obtain ⟨M1, e1⟩ : ∃ x, mW M (cl + 4) c (n : Int) = x := ⟨_, rfl⟩
  have A1 : TkA cl M0 M1 c P L K V := by rw [← e1]; exact hA.w (by omega) ⟨by omega, by omega⟩ (Or.inl (Nat.le_refl _))
  have T1 : ClT E cl S M1 n f bs ws bk wk b3 := hT.fr (fun x hx => by rw [← e1]; exact mW_ne (by omega))
  have v14 : M1 (cl + 4) c = (n : Int) := by rw [← e1]; exact mW_eq
  obtain ⟨M2, e2⟩ : ∃ x, mW M1 (cl + 5) c 0 = x := ⟨_, rfl⟩
  have A2 : TkA cl M0 M2 c P L K V := by rw [← e2]; exact A1.w (by omega) ⟨by omega, by omega⟩ (Or.inl (Nat.le_refl _))
  have T2 : ClT E cl S M2 n f bs ws bk wk b3 := T1.fr (fun x hx => by rw [← e2]; exact mW_ne (by omega))
  have v24 : M2 (cl + 4) c = (n : Int) := by rw [← e2, mW_ne (by omega)]; exact v14
  have v25 : M2 (cl + 5) c = 0 := by rw [← e2]; exact mW_eq
  obtain ⟨M3, e3⟩ : ∃ x, mW M2 (cl + 3) c 49 = x := ⟨_, rfl⟩
  have A3 : TkA cl M0 M3 c P L K V := by rw [← e3]; exact A2.w (by omega) ⟨by omega, by omega⟩ (Or.inl (Nat.le_refl _))
  have T3 : ClT E cl S M3 n f bs ws bk wk b3 := T2.fr (fun x hx => by rw [← e3]; exact mW_ne (by omega))
  have v34 : M3 (cl + 4) c = (n : Int) := by rw [← e3, mW_ne (by omega)]; exact v24
  have v35 : M3 (cl + 5) c = 0 := by rw [← e3, mW_ne (by omega)]; exact v25
  have v33 : M3 (cl + 3) c = 49 := by rw [← e3]; exact mW_eq
  obtain ⟨M4, e4⟩ : ∃ x, mW M3 (cl + 6) c 0 = x := ⟨_, rfl⟩
  have A4 : TkA cl M0 M4 c P L K V := by rw [← e4]; exact A3.w (by omega) ⟨by omega, by omega⟩ (Or.inl (Nat.le_refl _))
  have T4 : ClT E cl S M4 n f bs ws bk wk b3 := T3.fr (fun x hx => by rw [← e4]; exact mW_ne (by omega))
  have v44 : M4 (cl + 4) c = (n : Int) := by rw [← e4, mW_ne (by omega)]; exact v34
  have v45 : M4 (cl + 5) c = 0 := by rw [← e4, mW_ne (by omega)]; exact v35
  have v43 : M4 (cl + 3) c = 49 := by rw [← e4, mW_ne (by omega)]; exact v33
  have v46 : M4 (cl + 6) c = 0 := by rw [← e4]; exact mW_eq
  have v42 : M4 (cl + 2) = M (cl + 2) := by rw [← e4, mW_ne (by omega), ← e3, mW_ne (by omega), ← e2, mW_ne (by omega), ← e1, mW_ne (by omega)]
  refine kX5_cut_10 ri (fun h => absurd h (by omega)) (fun _ => ?_)
  refine kX5_cut_18 (by omega) (kX5_behindBlanks_0 (cBlk hq (n - at_) at_ (by have := hb.1; omega) hb ⟨_, rfl, ?_⟩))
  refine kX5_cut_24 g2 p1 k4 ri ⟨by omega, by omega⟩ p2 (by omega) ?_
  rw [Int.toNat_natCast, e1]
  refine cLen0 T1.2.1 T1.2.2.1.1 rfl (by omega) ⟨_, rfl, ?_⟩
  refine kX5_cut_45 k5 ri ⟨by omega, by omega⟩ g2 p0 p2 d5 ri ⟨by omega, by omega⟩ (by omega) ?_
  rw [Int.toNat_natCast, e2, v25]
  refine cKind0 T2.2.1 rfl (by omega) ⟨_, rfl, ?_⟩
  refine kX5_cut_65 k3 ri ⟨by omega, by omega⟩ ri (fun _ => ?_) (fun h => absurd h (by omega))
  rw [Int.toNat_natCast, e3]
  refine kX5_cut_95 g2 p3 p0 d3 ri ⟨by omega, by omega⟩ (by rw [Int.toNat_natCast, v33]; exact ⟨by omega, by omega⟩) (fun h => ?_) (fun h => ?_)
  · refine kX5_cut_128 (kX5_cut_129 k6 ri ⟨by omega, by omega⟩ g2 p0 d3 ri ⟨by omega, by omega⟩ ?_ (fun h => ?_) (fun h => ?_))
    all_goals rw [Int.toNat_natCast, e4] at *
    · rw [v43]; exact ⟨by omega, by omega⟩
    · exact kX5_cut_154 (q M4 T4 (A4.add ⟨by rw [v43, h03]; rfl, by rw [v44, h01], by rw [v45, h02]; rfl, by rw [v46, h04]; rfl⟩) v42)
    · exact absurd v43 h
  · rw [Int.toNat_natCast, v33] at h
    exact absurd h (by decide)
theorem mX5_cut {cl n c bs ws bk wk b3 : Nat} {f P L K V : Nat → Nat} (hT : ClT E cl S M n f bs ws bk wk b3) (hM : RM M) (hc : c < 400) (hk : TkQ f n c P L K V) (hd : 8 ≤ d)
    (q : ∀ M', ClT E cl S M' n f bs ws bk wk b3 → TkA cl M M' (c + 1) P L K V → M' (cl + 2) 4 = (c : Int) → Q (some none) S (mI M')) :
    X E d fX5_cut 0 [some (.ref (cl + 2)), some (.ref (cl + 1)), some (J (n : Int)), none, none] [] S (mI M) Q := by
  have hTb := hT.1
  refine kX5_cut_0 (hTb.kk (i := 2) rfl) ?_
  obtain ⟨hk1, hk2, hk3⟩ := hk
  have hl : ∀ (m i : Nat) (M' : Nat → Nat → Int), i + m = c → ClT E cl S M' n f bs ws bk wk b3 → TkA cl M M' i P L K V → M' (cl + 2) 4 = (i : Int) →
      X E d fX5_cut 10 [some (.ref (cl + 2)), some (.ref (cl + 1)), some (J (n : Int)), some (J ((if i = 0 then 0 else P (i - 1) + L (i - 1) : Nat) : Int)), some (J (i : Int))] [] S (mI M') Q := by
    intro m
    induction m with
    | zero =>
      intro i M' hi T A hv
      obtain rfl : i = c := by omega
      refine cLast T A hc ?_ hk1 hd (fun M2 T2 A2 e => q M2 T2 A2 (by rw [e]; exact hv))
      have := hk2 i (Nat.le_refl _)
      rw [hk1.1] at this
      exact this
    | succ m ih =>
      intro i M' hi T A hv
      refine cStep T A hc (by omega) (hk2 i (by omega)) (hk3 i (by omega)) hd (fun M2 T2 A2 e => ?_)
      have := ih (i + 1) M2 (by omega) T2 A2 e
      rw [if_neg (by omega), Nat.add_sub_cancel] at this
      exact this
  refine hl c 0 _ (by omega) (hT.fr (fun x hx => mW_ne (by omega))) ⟨hM.w (by decide), fun x hx => mW_ne (by omega), fun j hj => absurd hj (Nat.not_lt_zero _)⟩ mW_eq
end CX
