/-! survey: all tokens -/
section SY
variable {E : Nat → Value} {d : Nat} {S S' : aS} {M M' M0 M1 M00 : Nat → Nat → Int} {Q : Option (Option Value) → aS → aI → Prop} {cl c n : Nat} {f K P L C VV : Nat → Nat} {i ns ng nt : Nat} {R R' : Nat → Nat → Int} {o bf : Nat}
def tC : Its → Nat → Nat
  | [], _ => 0
  | (_, _, v) :: _, 0 => v
  | _ :: l, i + 1 => tC l i
/-- what a token is worth at last -/
def wV : Nat → Its → Nat → Nat
  | _, [], _ => 0
  | b, (_, k, v) :: _, 0 => if k = 47 then (if b = 0 ∨ b = 3 ∨ b = 6 then 0 else v % 256 - 48) else if k = 48 then v else 0
  | _, (_, k, _) :: l, i + 1 => wV k l i
abbrev Sts : Type := Nat × Nat × Nat × (Nat → Nat → Int)
/-- what a token does -/
def eff (b k v : Nat) (s : Sts) : Sts :=
  if k = 47 then (if b = 0 then (s.1 + 1, s.2.1, s.2.2.1, mW s.2.2.2 0 0 ((s.1 + 1 : Nat) : Int)) else if b = 3 then (s.1, s.2.1 + 1, s.2.2.1, mW s.2.2.2 0 2 ((s.2.1 + 1 : Nat) : Int)) else if b = 6 then (s.1, s.2.1, s.2.2.1 + 1, mW s.2.2.2 0 3 ((s.2.2.1 + 1 : Nat) : Int)) else s)
  else if k = 48 then (s.1, s.2.1, s.2.2.1, if b = 1 then lay (s.1 - 1) v (mW (mW s.2.2.2 1 (s.1 - 1) (v : Int)) 2 (s.1 - 1) (s.2.2.2 0 1)) else if b = 2 then mW s.2.2.2 3 (s.1 - 1) (v : Int) else if b = 4 then mW s.2.2.2 5 (s.2.1 - 1) (v : Int) else if b = 5 then mW s.2.2.2 6 (s.2.1 - 1) (v : Int)
    else if b = 7 then mW s.2.2.2 7 (s.2.2.1 - 1) (v : Int) else if b = 8 then mW s.2.2.2 8 (s.2.2.1 - 1) (v : Int) else if b = 9 then mW s.2.2.2 9 (s.2.2.1 - 1) (v : Int) else if b = 10 then mW s.2.2.2 10 (s.2.2.1 - 1) (v : Int) else if b = 11 then mW s.2.2.2 11 (s.2.2.1 - 1) (v : Int) else s.2.2.2)
  else s
/-- when it may stand there -/
def okS (b k v : Nat) (s : Sts) : Prop :=
  if k = 47 then (if b = 0 then v = 115 * 256 + 48 + s.1 ∧ s.1 < 5 else if b = 3 then v = 103 * 256 + 48 + s.2.1 ∧ s.2.1 < 5 else if b = 6 then v = 116 * 256 + 48 + s.2.2.1 ∧ s.2.2.1 < 8 else ∃ lt told j, Asks b lt told s.1 s.2.1 s.2.2.1 ∧ v = lt * 256 + 48 + j ∧ j < told)
  else if k = 48 then rgOk b v ∧ v ≤ 1000 ∧ (b = 4 ∨ b = 9 ∨ b = 10 → (v : Int) < s.2.2.2 0 1) ∧ (b = 1 → 1 ≤ s.1 ∧ 0 ≤ s.2.2.2 0 1 ∧ s.2.2.2 0 1 + (v : Int) ≤ 45) ∧ (b = 2 → 1 ≤ s.1) ∧ (b = 4 ∨ b = 5 → 1 ≤ s.2.1) ∧ (b = 7 ∨ b = 8 ∨ b = 9 ∨ b = 10 ∨ b = 11 → 1 ≤ s.2.2.1)
  else True
def effL : Nat → Its → Sts → Sts
  | _, [], s => s
  | b, (_, k, v) :: l, s => effL k l (eff b k v s)
def okL : Nat → Its → Sts → Prop
  | _, [], _ => True
  | b, (_, k, v) :: l, s => okS b k v s ∧ okL k l (eff b k v s)
/-- how many orders are told -/
def nOr : Its → Nat
  | [] => 0
  | (_, k, _) :: l => (if k = 12 ∨ k = 13 ∨ k = 15 then 1 else 0) + nOr l
theorem tk_get : ∀ (l : Its) (i b k v : Nat), l[i]? = some (b, k, v) → tK l i = k ∧ tC l i = v ∧ tV l i = if k = 48 then v else 0
  | (b0, k0, v0) :: _, 0, b, k, v, h => by
    have e : (b0, k0, v0) = (b, k, v) := Option.some.inj h
    have e1 : k0 = k := congrArg (·.2.1) e
    have e2 : v0 = v := congrArg (·.2.2) e
    subst e1 e2
    exact ⟨rfl, rfl, rfl⟩
  | _ :: l, i + 1, b, k, v, h => tk_get l i b k v h
theorem svNum48 {v : Nat} (hs : Sst cl S M0 n f c K P L C) (ho : okS bf 48 v (ns, ng, nt, R)) (hb : bf ≤ 50) : SetD E S cl c K C VV M0 bf v i ns ng nt R (eff bf 48 v (ns, ng, nt, R)).2.2.2 := by
  obtain ⟨_, o2, _, o4, o5, o6, o7⟩ : rgOk bf v ∧ v ≤ 1000 ∧ (bf = 4 ∨ bf = 9 ∨ bf = 10 → (v : Int) < R 0 1) ∧ (bf = 1 → 1 ≤ ns ∧ 0 ≤ R 0 1 ∧ R 0 1 + (v : Int) ≤ 45) ∧ (bf = 2 → 1 ≤ ns) ∧ (bf = 4 ∨ bf = 5 → 1 ≤ ng) ∧ (bf = 7 ∨ bf = 8 ∨ bf = 9 ∨ bf = 10 ∨ bf = 11 → 1 ≤ nt) := ho
  show SetD E S cl c K C VV M0 bf v i ns ng nt R (if bf = 1 then lay (ns - 1) v (mW (mW R 1 (ns - 1) (v : Int)) 2 (ns - 1) (R 0 1)) else if bf = 2 then mW R 3 (ns - 1) (v : Int) else if bf = 4 then mW R 5 (ng - 1) (v : Int) else if bf = 5 then mW R 6 (ng - 1) (v : Int)
    else if bf = 7 then mW R 7 (nt - 1) (v : Int) else if bf = 8 then mW R 8 (nt - 1) (v : Int) else if bf = 9 then mW R 9 (nt - 1) (v : Int) else if bf = 10 then mW R 10 (nt - 1) (v : Int) else if bf = 11 then mW R 11 (nt - 1) (v : Int) else R)
  by_cases c1 : bf = 1
  · subst c1
    have h1 := o4 rfl
    rw [if_pos rfl]
    by_cases hv : v ≤ 100
    · exact setD1 hs hv (by omega) h1.2.1 h1.2.2
    · exact absurd h1.2.2 (by omega)
  rw [if_neg c1]
  by_cases c2 : bf = 2
  · subst c2
    rw [if_pos rfl]
    exact setD2 hs (by omega) (by have := o5 rfl; omega)
  rw [if_neg c2]
  by_cases c4 : bf = 4
  · subst c4
    rw [if_pos rfl]
    exact setD4 hs (by omega) (by have := o6 (Or.inl rfl); omega)
  rw [if_neg c4]
  by_cases c5 : bf = 5
  · subst c5
    rw [if_pos rfl]
    exact setD5 hs (by omega) (by have := o6 (Or.inr rfl); omega)
  rw [if_neg c5]
  by_cases c7 : bf = 7
  · subst c7
    rw [if_pos rfl]
    exact setD7 hs (by omega) (by have := o7 (by omega); omega)
  rw [if_neg c7]
  by_cases c8 : bf = 8
  · subst c8
    rw [if_pos rfl]
    exact setD8 hs (by omega) (by have := o7 (by omega); omega)
  rw [if_neg c8]
  by_cases c9 : bf = 9
  · subst c9
    rw [if_pos rfl]
    exact setD9 hs (by omega) (by have := o7 (by omega); omega)
  rw [if_neg c9]
  by_cases c10 : bf = 10
  · subst c10
    rw [if_pos rfl]
    exact setD10 hs (by omega) (by have := o7 (by omega); omega)
  rw [if_neg c10]
  by_cases c11 : bf = 11
  · subst c11
    rw [if_pos rfl]
    exact setD11 hs (by omega) (by have := o7 (by omega); omega)
  rw [if_neg c11]
  exact setD0 hs hb ⟨c1, c2, c4, c5, c7, c8, c9, c10, c11⟩
theorem effR {v : Nat} {s : Sts} : (eff bf 48 v s).1 = s.1 ∧ (eff bf 48 v s).2.1 = s.2.1 ∧ (eff bf 48 v s).2.2.1 = s.2.2.1 := ⟨rfl, rfl, rfl⟩
set_option maxHeartbeats 2000000 in
theorem svRun {its : Its} (hd : 8 ≤ d) (hs : Sst cl S M0 n f its.length (tK its) P L (tC its)) (hR : Rgs E S M0 cl) (hV : ∀ i, i < its.length → M0 (cl + 6) i = (tV its i : Int)) (hlen : its.length < 400) :
    ∀ (l : Its) (i bf o : Nat) (s : Sts) (M : Nat → Nat → Int), its.drop i = l → i + l.length = its.length → okL bf l s → bf ≤ 50 → o + nOr l ≤ 20 → (∀ j, wV 36 its (i + j) = wV bf l j) →
    Sv cl its.length (tK its) (tC its) (wV 36 its) M0 M i s.1 s.2.1 s.2.2.1 s.2.2.2 →
    (∀ M', Sv cl its.length (tK its) (tC its) (wV 36 its) M0 M' its.length (effL bf l s).1 (effL bf l s).2.1 (effL bf l s).2.2.1 (effL bf l s).2.2.2 → Q (some (some (J 0))) S (mI M')) →
    Nx E d S Q cl o M bf i
  | [], i, bf, o, s, M, hdr, hi, hok, hb, ho, hw, h, q => fun o6 => by
    have hT := hs.1
    have g8 : aKd S (cl + 8) = 6 := hT.kd (i := 8) rfl
    have p80 : aP S (cl + 8) 0 = some (cl + 2) := hT.pp (i := 8) (j := 0) (x := 2) rfl rfl
    have g2 : aKd S (cl + 2) = 7 := hT.kd (i := 2) rfl
    have h24 : M (cl + 2) 4 = (its.length : Int) := by rw [h.2.1 _ (by omega)]; exact hs.2.2.1.2
    have hi' : i = its.length := hi
    rw [hi'] at h
    exact kX4_look_16 g8 p80 g2 ⟨by omega, by omega⟩ (by rw [h24]; exact ⟨by omega, by omega⟩) (fun _ => kX4_look_131 (q M h)) (fun hc => absurd hc (by omega))
  | (b, k, v) :: l, i, bf, o, s, M, hdr, hi, hok, hb, ho, hw, h, q => by
    have hi' : i + (l.length + 1) = its.length := hi
    have hlt : i < its.length := by omega
    have eg : its[i]? = some (b, k, v) := by
      have := List.getElem?_drop (xs := its) (i := i) (j := 0)
      rw [hdr] at this
      exact this.symm
    obtain ⟨t1, t2, t3⟩ := tk_get its i b k v eg
    have hv0 := hV i hlt
    rw [t3] at hv0
    have w0 : wV 36 its i = if k = 47 then (if bf = 0 ∨ bf = 3 ∨ bf = 6 then 0 else v % 256 - 48) else if k = 48 then v else 0 := hw 0
    have w1 : ∀ j, wV 36 its (i + 1 + j) = wV k l j := fun j => by
      rw [show i + 1 + j = i + (j + 1) by omega]
      exact hw (j + 1)
    have hdr' : its.drop (i + 1) = l := by
      rw [← List.drop_drop, hdr]
      rfl
    obtain ⟨ok1, ok2⟩ : okS bf k v s ∧ okL k l (eff bf k v s) := hok
    have ho' : o + ((if k = 12 ∨ k = 13 ∨ k = 15 then 1 else 0) + nOr l) ≤ 20 := ho
    have hkb : k ≤ 50 := by rw [← t1]; exact hs.2.2.2.2.1 i
    have ih := fun o' M' => svRun hd hs hR hV hlen l (i + 1) k o' (eff bf k v s) M' hdr' (by omega) ok2 hkb
    by_cases c47 : k = 47
    · subst c47
      rw [if_neg (by decide)] at hv0 ho'
      rw [if_pos rfl] at w0
      by_cases b0 : bf = 0
      · subst b0
        rw [if_pos (Or.inl rfl)] at w0
        obtain ⟨o1, o2⟩ : v = 115 * 256 + 48 + s.1 ∧ s.1 < 5 := ok1
        exact svTell0 hs h hlt t1 (t2.trans o1) o2 (by rw [hv0, w0]) (by omega) (fun M' h' => ih o M' (by omega) w1 h' q)
      by_cases b3 : bf = 3
      · subst b3
        rw [if_pos (Or.inr (Or.inl rfl))] at w0
        obtain ⟨o1, o2⟩ : v = 103 * 256 + 48 + s.2.1 ∧ s.2.1 < 5 := ok1
        exact svTell3 hs h hlt t1 (t2.trans o1) o2 (by rw [hv0, w0]) (by omega) (fun M' h' => ih o M' (by omega) w1 h' q)
      by_cases b6 : bf = 6
      · subst b6
        rw [if_pos (Or.inr (Or.inr rfl))] at w0
        obtain ⟨o1, o2⟩ : v = 116 * 256 + 48 + s.2.2.1 ∧ s.2.2.1 < 8 := ok1
        exact svTell6 hs h hlt t1 (t2.trans o1) o2 (by rw [hv0, w0]) (by omega) (fun M' h' => ih o M' (by omega) w1 h' q)
      · unfold okS at ok1
        rw [if_pos rfl, if_neg b0, if_neg b3, if_neg b6] at ok1
        obtain ⟨lt, told, j, a1, a2, a3⟩ := ok1
        have hs5 := h.2.2.2.2.1
        rw [if_neg (by omega)] at w0
        have e : eff bf 47 v s = s := by
          unfold eff
          rw [if_pos rfl, if_neg b0, if_neg b3, if_neg b6]
        rw [e] at ih
        have hq : ∀ M' : Nat → Nat → Int, Sv cl its.length (tK its) (tC its) (wV 36 its) M0 M' (i + 1) s.1 s.2.1 s.2.2.1 s.2.2.2 → Nx E d S Q cl o M' 47 (i + 1) := fun M' h' => ih o M' (by omega) w1 h' (by
          have q' := q
          unfold effL at q'
          rw [e] at q'
          exact q')
        refine svTF (lt := lt) (told := told) (j := j) hs h hlt t1 a1 (t2.trans a2) a3 ?_ (by omega) hq
        rw [w0, a2]
        rcases a1 with ⟨_, e1, e2⟩ | ⟨_, e1, e2⟩ | ⟨_, e1, e2⟩
        · omega
        · omega
        · omega
    · by_cases c48 : k = 48
      · subst c48
        rw [if_pos rfl] at hv0
        rw [if_neg (by decide)] at ho'
        rw [if_neg (by decide), if_pos rfl] at w0
        have hse := svNum48 (E := E) (VV := wV 36 its) (i := i) hs ok1 hb
        have ok1' := ok1
        unfold okS at ok1'
        rw [if_neg (by decide), if_pos rfl] at ok1'
        exact svTD hs hR h hlt t1 hv0 w0 (by omega) hb ok1'.1 ok1'.2.2.1 hse (by omega) (fun M' h' => ih o M' (by omega) w1 h' q)
      · have e : eff bf k v s = s := by
          unfold eff
          rw [if_neg c47, if_neg c48]
        rw [if_neg c48] at hv0
        rw [if_neg c47, if_neg c48] at w0
        rw [e] at ih
        have q' : ∀ M', Sv cl its.length (tK its) (tC its) (wV 36 its) M0 M' its.length (effL k l s).1 (effL k l s).2.1 (effL k l s).2.2.1 (effL k l s).2.2.2 → Q (some (some (J 0))) S (mI M') := by
          have q' := q
          unfold effL at q'
          rw [e] at q'
          exact q'
        by_cases cO : k = 12 ∨ k = 13 ∨ k = 15
        · rw [if_pos cO] at ho'
          refine svTO hs h hlt (by rw [t1]; exact cO) (by omega) (by rw [hv0, w0]) (by omega) (fun M' h' => ?_)
          rw [t1]
          exact ih (o + 1) M' (by omega) w1 h' q'
        · rw [if_neg cO] at ho'
          refine svT0 hs h hlt (by rw [t1]; omega) (by rw [hv0, w0]) (by omega) (fun M' h' => ?_)
          rw [t1]
          exact ih o M' (by omega) w1 h' q'
end SY
