/-! switches -/
section AXS
variable {E : Nat → Value} {d : Nat} {F : aF} {pc : Nat} {L : List (Option Value)} {st : List Value} {S : aS} {I : aI} {Q : Option (Option Value) → aS → aI → Prop} {x : Int}
theorem X_tswD {df lo hi : Int} {offs : Array Int} {len : Nat} (tg : Nat) (hd : decode F.2.1 pc = .ok (.tableswitch df lo hi offs, len)) (ht : aThr F pc = false) (ho : ((pc : Int) + df == (tg : Int)) = true) (hx : R32 x) (h : x < lo ∨ hi < x) (k : X E d F tg L st S I Q) : X E d F pc L (J x :: st) S I Q :=
  X_ins hd rfl rfl ht (by simp only [aIns]; rw [ofI hx, if_pos h]; exact aJmp_go (beq_iff_eq.mp ho)) aLe k
theorem X_tswI {df lo hi off : Int} {offs : Array Int} {len : Nat} (tg i : Nat) (hd : decode F.2.1 pc = .ok (.tableswitch df lo hi offs, len)) (ht : aThr F pc = false) (hof : offs[i]? = some off) (ho : ((pc : Int) + off == (tg : Int)) = true) (hx : R32 x) (h : x = lo + i) (hh : lo + i ≤ hi) (k : X E d F tg L st S I Q) : X E d F pc L (J x :: st) S I Q := by
  refine X_ins hd rfl rfl ht (by
    simp only [aIns]
    rw [ofI hx, if_neg (by omega), show (x - lo).toNat = i by omega, hof]
    exact aJmp_go (beq_iff_eq.mp ho)) aLe k
theorem X_lsw {df off : Int} {ps : Array (Int × Int)} {len : Nat} (tg : Nat) (hd : decode F.2.1 pc = .ok (.lookupswitch df ps, len)) (ht : aThr F pc = false) (hp : (ps.toList.zip (ps.toList.drop 1)).all (fun q => q.1.1 < q.2.1) = true) (hof : Op.lookupswitch.offset ps.toList df x = off) (ho : ((pc : Int) + off == (tg : Int)) = true) (hx : R32 x) (k : X E d F tg L st S I Q) : X E d F pc L (J x :: st) S I Q := by
  refine X_ins hd rfl rfl ht (by
    simp only [aIns]
    rw [if_pos hp, ofI hx, hof]
    exact aJmp_go (beq_iff_eq.mp ho)) aLe k
end AXS
