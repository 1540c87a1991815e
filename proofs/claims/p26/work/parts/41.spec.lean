/-! What a day does, over windows: R the road (22 windows: counts, its rows, its orders), W how it is (13 windows: 0 day and coins, 1 condition, 2 worn, 3 spent, 4 toll, 5 taken, 6 gain, 7 rent, 8 the farmers' take, 9 wheels, 10 passed, 11 turned, 12 paid) -/
section AS
/-- every number of the memory is one of 32 bits -/
def RM (M : Nat → Nat → Int) : Prop := ∀ a k, R32 (M a k)
theorem RM.w {M : Nat → Nat → Int} (h : RM M) {a k : Nat} {x : Int} (hx : R32 x) : RM (mW M a k x) := by
  intro b j
  unfold mW aU
  by_cases h1 : b = a
  · rw [if_pos h1]
    by_cases h2 : j = k
    · rw [if_pos h2]; exact hx
    · rw [if_neg h2]; exact h a j
  · rw [if_neg h1]; exact h b j
theorem RM.z {M : Nat → Nat → Int} (h : RM M) {a k : Nat} {x : Int} : RM (mW M a k (nz x)) := h.w (nz_R x)
theorem J_nz (x : Int) : J (nz x) = J x := congrArg Value.int (ofI_nz x)
/-- what a row of n has at x; 0 outside -/
def vAt (n : Nat) (f : Nat → Int) (x : Int) : Int := if 0 ≤ x ∧ x < (n : Int) then f x.toNat else 0
def sSum (f : Nat → Int) : Nat → Int
  | 0 => 0
  | n + 1 => sSum f n + f n
/-- the least of n from a on, 100 at most -/
def sMin (f : Nat → Int) (a : Nat) : Nat → Int
  | 0 => 100
  | n + 1 => if f (a + n) < sMin f a n then f (a + n) else sMin f a n
/-- the place of the least, the first of them -/
def sWst (f : Nat → Int) (a : Nat) : Nat → Nat
  | 0 => a
  | n + 1 => if f (a + n) < f (sWst f a n) then a + n else sWst f a n
def sBrk (f : Nat → Int) (a : Nat) : Nat → Int
  | 0 => 0
  | n + 1 => if f (a + n) = 0 then sBrk f a n + 1 else sBrk f a n
theorem sMin_le {f : Nat → Int} {a : Nat} : ∀ n, sMin f a n ≤ 100
  | 0 => Int.le_refl _
  | n + 1 => by
    have h := sMin_le (f := f) (a := a) n
    unfold sMin
    split
    · omega
    · exact h
theorem sMin_ge {f : Nat → Int} {a : Nat} {b : Int} (hb : b ≤ 100) : ∀ n, (∀ i, i < n → b ≤ f (a + i)) → b ≤ sMin f a n
  | 0, _ => hb
  | n + 1, h => by
    have h1 := sMin_ge hb n (fun i hi => h i (by omega))
    have h2 := h n (by omega)
    unfold sMin
    split
    · exact h2
    · exact h1
theorem sWst_in {f : Nat → Int} {a : Nat} : ∀ n, a ≤ sWst f a n ∧ (sWst f a n < a + n ∨ sWst f a n = a)
  | 0 => ⟨Nat.le_refl _, Or.inr rfl⟩
  | n + 1 => by
    have h := sWst_in (f := f) (a := a) n
    unfold sWst
    split
    · omega
    · omega
theorem sBrk_in {f : Nat → Int} {a : Nat} : ∀ n, 0 ≤ sBrk f a n ∧ sBrk f a n ≤ (n : Int)
  | 0 => ⟨Int.le_refl _, Int.le_refl _⟩
  | n + 1 => by
    have h := sBrk_in (f := f) (a := a) n
    unfold sBrk
    split <;> omega
def sToll (W : Nat → Nat → Int) (a g : Nat) : Int := if 6 ≤ W 9 a then (if W 9 a ≤ 11 then W 4 g else (W 4 g).tdiv 2) else W 4 g * 2
def sPay (W : Nat → Nat → Int) (a g : Nat) : Nat → Nat → Int :=
  let W1 := mW (mW W 12 a (nz (W 12 a + sToll W a g))) 5 g (nz (W 5 g + sToll W a g))
  if W 7 g = -1 then mW W1 0 3 (nz (W 0 3 + sToll W a g)) else mW W1 8 g (nz (W 8 g + sToll W a g))
/-- how much a mile wears by a traffic -/
def sLess (R W : Nat → Nat → Int) (a m : Nat) : Int := min ((R 7 a * R 3 (R 4 m).toNat).tdiv (W 9 a)) (W 1 m)
def sWear (R W : Nat → Nat → Int) (a m : Nat) : Nat → Nat → Int := mW (mW W 1 m (nz (W 1 m - sLess R W a m))) 2 m (nz (W 2 m + sLess R W a m))
/-- the least condition of a stretch that is told by a number -/
def sLeast (R W : Nat → Nat → Int) (x : Int) : Int := sMin (W 1) (vAt 5 (R 2) x).toNat (vAt 5 (R 1) x).toNat
def sNone (R W : Nat → Nat → Int) (op x : Int) : Int :=
  if op = 48 then x else if op = 18 then W 0 2 else if op = 19 then W 0 3 else if op = 20 then sLeast R W x
  else if op = 22 then vAt 5 (W 5) x else if op = 23 then vAt 5 (W 6) x else if op = 24 then vAt 8 (W 10) x
  else if op = 25 then (if vAt 5 (W 7) x ≠ -1 then 1 else 0) else if op = 26 then (if sLeast R W x = 0 then 1 else 0) else 0
def sOne (R W : Nat → Nat → Int) (op v : Int) : Int := if op = 51 then -v else if op = 27 then (if v = 0 then 1 else 0) else (if v < R 0 1 then vAt 45 (W 1) v else 0)
def sTwo (op l r : Int) : Int :=
  if op = 38 then l + r else if op = 39 then l - r else if op = 40 then l * r else if op = 41 then (if r = 0 then 0 else l.tdiv r)
  else if op = 42 then (if l < r then 1 else 0) else if op = 43 then (if l > r then 1 else 0) else if op = 44 then (if l = r then 1 else 0)
  else if op = 45 then (if l ≤ r then 1 else 0) else if op = 46 then (if l ≥ r then 1 else 0)
  else if op = 28 then (Int32.ofInt l &&& Int32.ofInt r).toInt else if op = 29 then (Int32.ofInt l ||| Int32.ofInt r).toInt
  else if op = 30 then (if l < r then l else r) else (if l > r then l else r)
def sIs2 (op : Int) : Bool := decide (38 ≤ op ∧ op ≤ 46 ∨ 28 ≤ op ∧ op ≤ 31)
def sStep (R W : Nat → Nat → Int) (st : List Int) (i : Nat) : List Int :=
  if R 20 i = 51 ∨ R 20 i = 27 ∨ R 20 i = 21 then (match st with
    | v :: r => nz (sOne R W (R 20 i) v) :: r
    | [] => [])
  else if sIs2 (R 20 i) = true then (match st with
    | y :: x :: r => nz (sTwo (R 20 i) x y) :: r
    | s => s)
  else nz (sNone R W (R 20 i) (R 21 i)) :: st
/-- the stack after n steps from a on -/
def sRun (R W : Nat → Nat → Int) (a : Nat) : Nat → List Int
  | 0 => []
  | n + 1 => sStep R W (sRun R W a n) (a + n)
/-- what a sum or a test is worth -/
def sEv (R W : Nat → Nat → Int) (a b : Int) : Int := (sRun R W a.toNat (b - a).toNat).headD 0
/-- is it free, by the orders from the i-th on, n of them -/
def sFree (R W : Nat → Nat → Int) (a g : Nat) : Nat → Nat → Bool
  | _, 0 => false
  | i, n + 1 => if R 13 i = 12 ∧ R 15 i = (a : Int) ∧ R 16 i = (g : Int) ∧ sEv R W (R 18 i) (R 19 i) ≠ 0 then true else sFree R W a g (i + 1) n
def sRent (R W : Nat → Nat → Int) (g : Nat) : Nat → Nat → Int
  | _, 0 => -1
  | i, n + 1 => if R 13 i = 13 ∧ R 15 i = (g : Int) ∧ sEv R W (R 18 i) (R 19 i) ≠ 0 then R 16 i else sRent R W g (i + 1) n
/-- the gates of a mile, from the g-th on -/
def sGates (R W : Nat → Nat → Int) (a : Nat) (m : Int) : Nat → Nat → (Nat → Nat → Int)
  | _, 0 => W
  | g, n + 1 => sGates R (if R 5 g = m ∧ sFree R W a g 0 (R 12 0).toNat = false then sPay W a g else W) a m (g + 1) n
/-- a traffic on its way, n miles before it, the next one m: where it turns back, and how it is then -/
def sTrav (R : Nat → Nat → Int) (a : Nat) (by_ : Int) : Nat → Int → (Nat → Nat → Int) → Int × (Nat → Nat → Int)
  | 0, _, W => (-1, mW W 10 a (nz (W 10 a + 1)))
  | n + 1, m, W => if W 1 m.toNat = 0 then (m, mW W 11 a (nz (W 11 a + 1))) else
      sTrav R a by_ n (m + by_) (sWear R (sGates R W a m 0 (R 0 2).toNat) a m.toNat)
def sBy (R : Nat → Nat → Int) (a : Nat) : Int := if R 9 a ≤ R 10 a then 1 else -1
def sGo (R W : Nat → Nat → Int) (a : Nat) : Int × (Nat → Nat → Int) := sTrav R a (sBy R a) (((R 10 a - R 9 a) * sBy R a + 1).toNat) (R 9 a) W
/-- coins spent one by one, n at most: how many, and how it is then -/
def sSpend (R : Nat → Nat → Int) (s : Nat) : Nat → (Nat → Nat → Int) → Nat × (Nat → Nat → Int)
  | 0, W => (0, W)
  | n + 1, W =>
    let m := sWst (W 1) (R 2 s).toNat (R 1 s).toNat
    if 100 ≤ W 1 m then (0, W) else
      let q := sSpend R s n (mW W 1 m (nz (min 100 (W 1 m + 4))))
      (q.1 + 1, q.2)
def sMend (R W : Nat → Nat → Int) (s : Nat) (x : Int) : Int × (Nat → Nat → Int) :=
  let q := sSpend R s x.toNat W
  ((q.1 : Int), mW (mW q.2 0 3 (nz (q.2 0 3 - q.1))) 3 s (nz (q.2 3 s + q.1)))
/-- gates farmed out one behind the other; lg, lr: one gate let whatever the orders say -/
def sFarm (R : Nat → Nat → Int) (lg lr : Int) : Nat → Nat → (Nat → Nat → Int) → (Nat → Nat → Int)
  | _, 0, W => W
  | g, n + 1, W => sFarm R lg lr (g + 1) n (mW (mW W 7 g (if (g : Int) = lg then lr else sRent R W g 0 (R 12 0).toNat)) 8 g 0)
def sTraf (R : Nat → Nat → Int) : Nat → Nat → (Nat → Nat → Int) → (Nat → Nat → Int)
  | _, 0, W => W
  | a, n + 1, W => sTraf R (a + 1) n (if (W 0 2).tmod (R 11 a) = 0 then (sGo R W a).2 else W)
def sRents : Nat → Nat → (Nat → Nat → Int) → (Nat → Nat → Int)
  | _, 0, W => W
  | g, n + 1, W => sRents (g + 1) n (if W 7 g = -1 then W else mW (mW W 0 3 (nz (W 0 3 + W 7 g))) 6 g (nz (W 6 g + (W 8 g - W 7 g))))
def sMends (R : Nat → Nat → Int) : Nat → Nat → (Nat → Nat → Int) → (Nat → Nat → Int)
  | _, 0, W => W
  | i, n + 1, W => sMends R (i + 1) n (if R 13 i = 15 ∧ (¬ R 18 i < R 19 i ∨ sEv R W (R 18 i) (R 19 i) ≠ 0) then (sMend R W (R 15 i).toNat (min (sEv R W (R 17 i) (R 18 i)) (W 0 3))).2 else W)
def sCap (W : Nat → Nat → Int) : Nat → Nat → Int := if 99999 < W 0 3 then mW W 0 3 99999 else W
def sDay (R : Nat → Nat → Int) (W : Nat → Nat → Int) : Nat → Nat → Int :=
  let W1 := sFarm R (W 0 16) (W 0 17) 0 (R 0 2).toNat W
  let W2 := sTraf R 0 (R 0 3).toNat W1
  let W3 := sRents 0 (R 0 2).toNat W2
  let W4 := sMends R 0 (R 12 0).toNat W3
  sCap (mW W4 0 2 (nz (W4 0 2 + 1)))
def sDays (R : Nat → Nat → Int) : Nat → (Nat → Nat → Int) → (Nat → Nat → Int)
  | 0, W => W
  | n + 1, W => sDays R n (sDay R W)
end AS
section AS2
theorem win_R {M : Nat → Nat → Int} {n t : Nat} (hM : RM M) (j k : Nat) : R32 (win n M t j k) := by
  unfold win
  split
  · exact hM _ _
  · exact R32_0
theorem sStep_R {R W : Nat → Nat → Int} {st : List Int} {i : Nat} (h : ∀ v ∈ st, R32 v) : ∀ v ∈ sStep R W st i, R32 v := by
  unfold sStep
  split
  · cases st with
    | nil => exact h
    | cons v r =>
      intro w hw
      rcases List.mem_cons.mp hw with rfl | hw
      · exact nz_R _
      · exact h w (List.mem_cons_of_mem _ hw)
  · split
    · cases st with
      | nil => exact h
      | cons v r => cases r with
        | nil => exact h
        | cons u r =>
          intro w hw
          rcases List.mem_cons.mp hw with rfl | hw
          · exact nz_R _
          · exact h w (List.mem_cons_of_mem _ (List.mem_cons_of_mem _ hw))
    · intro w hw
      rcases List.mem_cons.mp hw with rfl | hw
      · exact nz_R _
      · exact h w hw
theorem sEv_R {R W : Nat → Nat → Int} {a b : Int} : R32 (sEv R W a b) := by
  have h : ∀ n, ∀ v ∈ sRun R W a.toNat n, R32 v := by
    intro n
    induction n with
    | zero => intro v hv; cases hv
    | succ n ih => exact sStep_R ih
  unfold sEv
  cases hh : sRun R W a.toNat (b - a).toNat with
  | nil => exact R32_0
  | cons v r => exact h _ v (by rw [hh]; exact List.mem_cons_self)
end AS2
