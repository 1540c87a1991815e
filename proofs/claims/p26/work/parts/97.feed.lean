/-! the tape: four bytes in a number, append, feed, trim -/
section FE
variable {E : Nat → Value} {d : Nat} {S S' : aS} {M M' : Nat → Nat → Int} {Q : Option (Option Value) → aS → aI → Prop}
theorem bvN (a : Nat) : (Int32.ofInt (a : Int)).toBitVec = BitVec.ofNat 32 a := by
  simp [Int32.toBitVec_ofInt]
theorem pkA (a b : Nat) (ha : a < 8388608) (hb : b < 256) : (Int32.ofInt ((Int32.ofInt (a : Int) <<< (Int32.ofInt 8 &&& 31)).toInt) ||| Int32.ofInt (b : Int)).toInt = ((a * 256 + b : Nat) : Int) := by
  rw [Int32.ofInt_toInt, show Int32.ofInt 8 &&& 31 = (8 : Int32) by decide]
  have e : (Int32.ofInt (a : Int) <<< (8 : Int32) ||| Int32.ofInt (b : Int)) = Int32.ofInt ((a * 256 + b : Nat) : Int) := by
    apply Int32.toBitVec_inj.mp
    rw [Int32.toBitVec_or, Int32.toBitVec_shiftLeft, bvN, bvN, bvN]
    apply BitVec.eq_of_toNat_eq
    rw [BitVec.toNat_or]
    show ((BitVec.ofNat 32 a <<< ((8 : Int32).toBitVec.smod 32)).toNat ||| _) = _
    rw [show ((8 : Int32).toBitVec.smod 32) = 8#32 by decide]
    rw [BitVec.shiftLeft_eq', BitVec.toNat_shiftLeft]
    rw [BitVec.toNat_ofNat, BitVec.toNat_ofNat, BitVec.toNat_ofNat, BitVec.toNat_ofNat, Nat.mod_eq_of_lt (a := a) (by omega), Nat.mod_eq_of_lt (a := b) (by omega), show 8 % 2 ^ 32 = 8 by decide, Nat.mod_eq_of_lt (a := a * 256 + b) (by omega)]
    rw [Nat.mod_eq_of_lt (by rw [Nat.shiftLeft_eq]; omega), ← Nat.shiftLeft_add_eq_or_of_lt (by omega), Nat.shiftLeft_eq]
  rw [e]
  exact ofI ⟨by omega, by omega⟩
theorem pkB (p s : Nat) (hp : p < 2147483648) (hs : s < 32) : (Int32.ofInt (p : Int) >>> (Int32.ofInt (s : Int) &&& 31)).toInt = ((p / 2 ^ s : Nat) : Int) := by
  have e1 : ∀ s : Nat, s < 32 → Int32.ofInt (s : Int) &&& 31 = Int32.ofInt (s : Int) ∧ ((Int32.ofInt (s : Int)).toBitVec.smod 32).toNat = s := by decide
  rw [(e1 s hs).1, ← Int32.toInt_toBitVec, Int32.toBitVec_shiftRight, BitVec.toInt_sshiftRight', Int32.toInt_toBitVec, ofI ⟨by omega, by omega⟩, (e1 s hs).2, Int.shiftRight_eq_div_pow]
  rfl
theorem pkC (p : Nat) (hp : p < 2147483648) (h : p % 256 < 128) : (Int32.ofInt (p : Int)).toInt8.toInt32.toInt = ((p % 256 : Nat) : Int) := by
  rw [Int8.toInt_toInt32, Int32.toInt_toInt8, ofI ⟨by omega, by omega⟩, Int.bmod_def]
  rw [if_pos (by omega)]
  omega
/-- the bytes b, b + 1 .. of f, j of them, in a number -/
def pkj (f : Nat → Nat) (b : Nat) : Nat → Nat
  | 0 => 0
  | j + 1 => pkj f b j * 256 + f (b + j)
theorem pkj4 {f : Nat → Nat} {b : Nat} (h : ∀ i, f i < 128) : pkj f b 1 < 128 ∧ pkj f b 2 < 32768 ∧ pkj f b 3 < 8388608 ∧ pkj f b 4 < 2147483648 ∧ pkj f b 4 = ((f b * 256 + f (b + 1)) * 256 + f (b + 2)) * 256 + f (b + 3) := by
  have h0 := h b
  have h1 := h (b + 1)
  have h2 := h (b + 2)
  have h3 := h (b + 3)
  have e1 : pkj f b 1 = f b := by show 0 * 256 + f b = f b; omega
  have e2 : pkj f b 2 = pkj f b 1 * 256 + f (b + 1) := rfl
  have e3 : pkj f b 3 = pkj f b 2 * 256 + f (b + 2) := rfl
  have e4 : pkj f b 4 = pkj f b 3 * 256 + f (b + 3) := rfl
  generalize pkj f b 1 = x1 at *
  generalize pkj f b 2 = x2 at *
  generalize pkj f b 3 = x3 at *
  generalize pkj f b 4 = x4 at *
  exact ⟨by omega, by omega, by omega, by omega, by rw [e4, e3, e2, e1]⟩
/-- the tape holds n bytes, those of f -/
abbrev TpF (M : Nat → Nat → Int) (cl tp n : Nat) (f : Nat → Nat) : Prop := M cl 1 = (n : Int) ∧ ∀ i, i < n → M tp i = (f i : Int)
/-- nothing but the tape and its count is another -/
abbrev FrT (cl tp : Nat) (M M' : Nat → Nat → Int) : Prop := (∀ x, x ≠ cl → x ≠ tp → M' x = M x) ∧ ∀ j, j ≠ 1 → M' cl j = M cl j
theorem FrT.trans {cl tp : Nat} {M1 M2 M3 : Nat → Nat → Int} (h : FrT cl tp M1 M2) (g : FrT cl tp M2 M3) : FrT cl tp M1 M3 := ⟨fun x h1 h2 => (g.1 x h1 h2).trans (h.1 x h1 h2), fun j hj => (g.2 j hj).trans (h.2 j hj)⟩
abbrev TpS (S : aS) (cl tp : Nat) : Prop := aKd S cl = 9 ∧ aK S cl = 9 ∧ aP S cl 0 = some tp ∧ aK S tp = 101 ∧ aN S tp = 2000
theorem TpS.ne {cl tp : Nat} (h : TpS S cl tp) : cl ≠ tp := fun e => by
  have h1 := h.2.1
  have h2 := h.2.2.2.1
  rw [e] at h1
  omega
theorem apStep {cl tp n p s : Nat} {f : Nat → Nat} (hS : TpS S cl tp) (hM : RM M) (hT : TpF M cl tp n f) (hn : n < 2000) (hp : p < 2147483648) (hs : s < 32) (hf : p / 2 ^ s % 256 = f n) (hb : f n < 128)
    (k : ∀ M', RM M' → FrT cl tp M M' → TpF M' cl tp (n + 1) f → X E d fX7_append 3 [some (.ref cl), some (J (p : Int)), some (J ((s : Int) + (-8)))] [] S (mI M') Q) :
    X E d fX7_append 3 [some (.ref cl), some (J (p : Int)), some (J (s : Int))] [] S (mI M) Q := by
  have hne := hS.ne
  obtain ⟨g1, g2, g3, g4, g5⟩ := hS
  obtain ⟨t1, t2⟩ := hT
  have hv : (Int32.ofInt ((Int32.ofInt (p : Int) >>> (Int32.ofInt (s : Int) &&& 31)).toInt)).toInt8.toInt32.toInt = (f n : Int) := by
    have hq : p / 2 ^ s ≤ p := Nat.div_le_self _ _
    rw [pkB p s hp hs, pkC _ (by omega) (by omega), hf]
  refine kX7_append_3 ⟨by omega, by omega⟩ (fun h => absurd h (by omega)) (fun _ => ?_)
  refine kX7_append_7 g1 (hM _ _) (fun h => absurd h (by omega)) (fun _ => ?_)
  refine kX7_append_17 (M_9 := mW M tp n (f n : Int)) g1 g3 g4 (hM _ _) ⟨by omega, by omega⟩ ?_ ?_ g2 ?_
  · rw [hv]; exact ⟨by omega, by omega⟩
  · rw [hv, t1, Int.toNat_natCast]
  · rw [mW_ne hne, t1, nz_eq ⟨by omega, by omega⟩]
    refine k _ ((hM.w ⟨by omega, by omega⟩).w ⟨by omega, by omega⟩) ⟨fun x h1 h2 => (mW_ne h1).trans (mW_ne h2), fun j hj => (mW_ne2 (Or.inr hj)).trans (by rw [mW_ne hne])⟩ ⟨?_, fun i hi => ?_⟩
    · rw [mW_get, if_pos ⟨rfl, rfl⟩]; omega
    · rw [mW_ne (Ne.symm hne), mW_get]
      by_cases e : i = n
      · rw [if_pos ⟨rfl, e⟩, e]
      · rw [if_neg (by omega)]
        exact t2 i (by omega)
set_option maxHeartbeats 1000000 in
theorem mX7_append {cl tp n p : Nat} {f : Nat → Nat} (hS : TpS S cl tp) (hM : RM M) (hT : TpF M cl tp n f) (hn : n + 4 ≤ 2000) (hf : ∀ i, f i < 128) (hp : p = pkj f n 4)
    (q : ∀ M', RM M' → FrT cl tp M M' → TpF M' cl tp (n + 4) f → Q (some none) S (mI M')) :
    X E d fX7_append 0 [some (.ref cl), some (J (p : Int)), none] [] S (mI M) Q := by
  obtain ⟨_, _, _, h4, h5⟩ := pkj4 (b := n) hf
  have f0 := hf n
  have f1 := hf (n + 1)
  have f2 := hf (n + 2)
  have f3 := hf (n + 3)
  have d3 : pkj f n 4 / 2 ^ 24 = f n := by omega
  have d2 : pkj f n 4 / 2 ^ 16 = f n * 256 + f (n + 1) := by omega
  have d1 : pkj f n 4 / 2 ^ 8 = (f n * 256 + f (n + 1)) * 256 + f (n + 2) := by omega
  have d0 : pkj f n 4 / 2 ^ 0 = ((f n * 256 + f (n + 1)) * 256 + f (n + 2)) * 256 + f (n + 3) := by omega
  rw [hp]
  refine kX7_append_0 ?_
  refine apStep (s := 24) hS hM hT (by omega) h4 (by decide) (by rw [d3]; omega) f0 (fun M1 m1 r1 t1 => ?_)
  refine apStep (s := 16) hS m1 t1 (by omega) h4 (by decide) (by rw [d2]; omega) f1 (fun M2 m2 r2 t2 => ?_)
  refine apStep (s := 8) hS m2 t2 (by omega) h4 (by decide) (by show _ = f (n + 2); rw [d1]; omega) f2 (fun M3 m3 r3 t3 => ?_)
  refine apStep (s := 0) hS m3 t3 (by omega) h4 (by decide) (by show _ = f (n + 3); rw [d0]; omega) f3 (fun M4 m4 r4 t4 => ?_)
  exact kX7_append_3 (by decide) (fun _ => kX7_append_46 (q M4 m4 (((r1.trans r2).trans r3).trans r4) t4)) (fun h => absurd h (by decide))
theorem mX7_trim {cl tp n : Nat} (hS : TpS S cl tp) (hM : RM M) (h : (n : Int) ≤ M cl 1) (hn : n ≤ 2000) (q : Q (some (some (J (n : Int)))) S (mI (mW M cl 1 (n : Int)))) : X E d fX7_trim 0 [some (.ref cl), some (J (n : Int))] [] S (mI M) Q := by
  refine kX7_trim_0 ⟨by omega, by omega⟩ (fun h => absurd h (by omega)) (fun _ => ?_)
  exact kX7_trim_4 hS.1 ⟨by omega, by omega⟩ (hM _ _) (fun _ => kX7_trim_22 hS.2.1 q) (fun g => absurd g (by omega))
set_option maxHeartbeats 1000000 in
theorem mX7_feed {cl tp n : Nat} {a b c e g : Int} {f : Nat → Nat} (hS : TpS S cl tp) (hM : RM M) (hT : TpF M cl tp n f) (hn : n + 20 ≤ 2000) (hf : ∀ i, f i < 128) (h1 : a = pkj f n 4) (h2 : b = pkj f (n + 4) 4) (h3 : c = pkj f (n + 8) 4) (h4 : e = pkj f (n + 12) 4) (h5 : g = pkj f (n + 16) 4) (hd : 1 ≤ d)
    (q : ∀ M', RM M' → FrT cl tp M M' → TpF M' cl tp (n + 20) f → Q (some (some (J ((n + 20 : Nat) : Int)))) S (mI M')) :
    X E d fX7_feed 0 [some (.ref cl), some (J a), some (J b), some (J c), some (J e), some (J g)] [] S (mI M) Q := by
  subst h1 h2 h3 h4 h5
  have hn1 := hT.1
  refine kX7_feed_0 hS.1 (by rw [hn1]; exact ⟨by omega, by omega⟩) (fun _ => ?_) (fun h => absurd h (by omega))
  refine kX7_feed_23 hd (mX7_append hS hM hT (by omega) hf rfl (fun M1 m1 r1 t1 => ⟨_, rfl, ?_⟩)) hS.1
  refine kX7_feed_28 hd (mX7_append hS m1 t1 (by omega) hf rfl (fun M2 m2 r2 t2 => ⟨_, rfl, ?_⟩)) hS.1
  refine kX7_feed_33 hd (mX7_append hS m2 t2 (by omega) hf rfl (fun M3 m3 r3 t3 => ⟨_, rfl, ?_⟩)) hS.1
  refine kX7_feed_38 hd (mX7_append hS m3 t3 (by omega) hf rfl (fun M4 m4 r4 t4 => ⟨_, rfl, ?_⟩)) hS.1
  refine kX7_feed_44 hd (mX7_append hS m4 t4 (by omega) hf rfl (fun M5 m5 r5 t5 => ⟨_, rfl, ?_⟩)) hS.1
  refine kX7_feed_50 hS.1 ?_
  rw [t5.1]
  exact q M5 m5 ((((r1.trans r2).trans r3).trans r4).trans r5) t5
end FE
