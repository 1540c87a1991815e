/-! a text as a list of tokens: blanks in front, kind, worth -/
section IT
def dgN (n : Nat) : List Nat := if n < 10 then [48 + n] else if n < 100 then [48 + n / 10, 48 + n % 10] else [48 + n / 100, 48 + n / 10 % 10, 48 + n % 10]
theorem dgN_len {n : Nat} : 1 ≤ (dgN n).length ∧ (dgN n).length ≤ 3 := by
  unfold dgN
  split
  · show 1 ≤ 1 ∧ 1 ≤ 3
    decide
  · split
    · show 1 ≤ 2 ∧ 2 ≤ 3
      decide
    · show 1 ≤ 3 ∧ 3 ≤ 3
      decide
def symN : List Nat := [40, 41, 91, 93, 59, 44, 43, 45, 42, 47, 60, 62, 61]
/-- the bytes of a token -/
def ib (k v : Nat) : List Nat := if k < 32 then kws.getD k [] else if k < 45 then [symN.getD (k - 32) 0] else if k = 45 then [60, 61] else if k = 46 then [62, 61] else if k = 47 then [v / 256, v % 256] else dgN v
def bb (b : Nat) : List Nat := if b = 0 then [] else if b = 1 then [32] else [10]
abbrev Its : Type := List (Nat × Nat × Nat)
def txt : Its → List Nat
  | [] => []
  | (b, k, v) :: l => bb b ++ (ib k v ++ txt l)
/-- a token that is one -/
def iv (k v : Nat) : Prop := k < 47 ∨ (k = 47 ∧ isL (v / 256) = true ∧ isD (v % 256) = true) ∨ (k = 48 ∧ v < 1000)
def wrd (k : Nat) : Bool := decide (k < 32) || k == 47 || k == 48
/-- whether a token ends where the next begins -/
def aj (k b' k' : Nat) : Bool := (b' != 0) || ((!wrd k || !wrd k') && (!(k == 42 || k == 43) || k' != 44))
def adj : Its → Bool
  | [] => true
  | [_] => true
  | (_, k, _) :: (b', k', v') :: l => aj k b' k' && adj ((b', k', v') :: l)
def tP : Its → Nat → Nat → Nat
  | [], o, _ => o
  | (b, _, _) :: _, o, 0 => o + (bb b).length
  | (b, k, v) :: l, o, i + 1 => tP l (o + (bb b).length + (ib k v).length) i
def tL : Its → Nat → Nat
  | [], _ => 0
  | (_, k, v) :: _, 0 => (ib k v).length
  | _ :: l, i + 1 => tL l i
def tK : Its → Nat → Nat
  | [], _ => 49
  | (_, k, _) :: _, 0 => k
  | _ :: l, i + 1 => tK l i
def tV : Its → Nat → Nat
  | [], _ => 0
  | (_, k, v) :: _, 0 => if k = 48 then v else 0
  | _ :: l, i + 1 => tV l i
theorem tP_end : ∀ (l : Its) (o : Nat), tP l o l.length = o + (txt l).length
  | [], o => rfl
  | (b, k, v) :: l, o => by
    show tP l (o + (bb b).length + (ib k v).length) l.length = _
    rw [tP_end l]
    show _ = o + (bb b ++ (ib k v ++ txt l)).length
    rw [List.length_append, List.length_append]
    omega
theorem tL_end : ∀ (l : Its), tL l l.length = 0
  | [] => rfl
  | _ :: l => tL_end l
theorem tK_end : ∀ (l : Its), tK l l.length = 49
  | [] => rfl
  | _ :: l => tK_end l
theorem tV_end : ∀ (l : Its), tV l l.length = 0
  | [] => rfl
  | _ :: l => tV_end l
theorem kwF : ∀ k : Nat, k < 32 → kwG (kws.getD k []) kws 0 = k ∧ 1 ≤ (kws.getD k []).length ∧ (kws.getD k []).length ≤ 10 ∧ isL ((kws.getD k []).getD 0 0) = true ∧ ∀ x, x ∈ kws.getD k [] → isL x = true := by decide +kernel
theorem syF : ∀ k : Nat, k < 13 → fx syms ((symN.getD k 0 : Nat) : Int) 0 = (k : Int) ∧ isL (symN.getD k 0) = false ∧ isD (symN.getD k 0) = false ∧ symN.getD k 0 ≠ 0 ∧ (symN.getD k 0 = 60 ↔ k = 10) ∧ (symN.getD k 0 = 62 ↔ k = 11) ∧ (symN.getD k 0 = 61 ↔ k = 12) ∧ symN.getD k 0 ≠ 32 ∧ symN.getD k 0 ≠ 10 := by decide +kernel
theorem LD_b {x : Nat} (h : isL x = true) : isLD x = true := isLD_t.mpr (Or.inl h)
theorem D_b {x : Nat} (h : isD x = true) : isLD x = true := isLD_t.mpr (Or.inr h)
/-- the first byte of a token: of a word or number a letter or a digit, of a symbol none -/
theorem ib_hd {k v : Nat} (h : iv k v) : ∃ x r, ib k v = x :: r ∧ x ≠ 32 ∧ x ≠ 10 ∧ (wrd k = false → isLD x = false) ∧ (k ≠ 44 → x ≠ 61) := by
  unfold ib
  by_cases c1 : k < 32
  · rw [if_pos c1]
    obtain ⟨_, h2, _, h4, _⟩ := kwF k c1
    match e : kws.getD k [], h2 with
    | x :: r, _ =>
      rw [e] at h4
      have h5 := isL_t.mp (show isL x = true from h4)
      refine ⟨x, r, rfl, by omega, by omega, fun w => ?_, fun _ => by omega⟩
      unfold wrd at w
      rw [decide_eq_true c1] at w
      rw [Bool.true_or, Bool.true_or] at w
      cases w
  · rw [if_neg c1]
    by_cases c2 : k < 45
    · rw [if_pos c2]
      obtain ⟨h1, h2, h3, h4, h5, h6, h7, h8, h9⟩ := syF (k - 32) (by omega)
      exact ⟨_, _, rfl, h8, h9, fun _ => isLD_f.mpr ⟨h2, h3⟩, fun hk => fun e => hk (by have := h7.mp e; omega)⟩
    · rw [if_neg c2]
      by_cases c3 : k = 45
      · rw [if_pos c3]
        exact ⟨60, [61], rfl, by decide, by decide, fun _ => by decide, fun _ => by decide⟩
      · rw [if_neg c3]
        by_cases c4 : k = 46
        · rw [if_pos c4]
          exact ⟨62, [61], rfl, by decide, by decide, fun _ => by decide, fun _ => by decide⟩
        · rw [if_neg c4]
          rcases h with h | ⟨hk, h1, h2⟩ | ⟨hk, h1⟩
          · omega
          · rw [if_pos hk]
            have h5 := isL_t.mp h1
            refine ⟨_, _, rfl, by omega, by omega, fun w => ?_, fun _ => by omega⟩
            rw [hk] at w
            exact absurd w (by decide)
          · rw [if_neg (by omega)]
            have hw : wrd k = true := by rw [hk]; rfl
            unfold dgN
            by_cases d1 : v < 10
            · rw [if_pos d1]
              exact ⟨_, _, rfl, by omega, by omega, fun w => (by rw [hw] at w; cases w), fun _ => by omega⟩
            · rw [if_neg d1]
              by_cases d2 : v < 100
              · rw [if_pos d2]
                exact ⟨_, _, rfl, by omega, by omega, fun w => (by rw [hw] at w; cases w), fun _ => by omega⟩
              · rw [if_neg d2]
                exact ⟨_, _, rfl, by omega, by omega, fun w => (by rw [hw] at w; cases w), fun _ => by omega⟩
/-- what stands in f from p on -/
abbrev At (f : Nat → Nat) (p : Nat) (l : List Nat) : Prop := ∀ i x, l[i]? = some x → f (p + i) = x
theorem At.app {f : Nat → Nat} {p : Nat} {a b : List Nat} (h : At f p (a ++ b)) : At f p a ∧ At f (p + a.length) b := by
  refine ⟨fun i x hx => h i x ?_, fun i x hx => ?_⟩
  · rw [List.getElem?_append_left (List.getElem?_eq_some_iff.mp hx).1]
    exact hx
  · rw [Nat.add_assoc]
    refine h _ x ?_
    rw [List.getElem?_append_right (by omega), Nat.add_sub_cancel_left]
    exact hx
theorem At.mem {f : Nat → Nat} {p i : Nat} {l : List Nat} (h : At f p l) (hi : i < l.length) : f (p + i) ∈ l := by
  rw [h i _ (List.getElem?_eq_getElem hi)]
  exact List.getElem_mem hi
theorem bb_m {b x : Nat} (h : x ∈ bb b) : x = 32 ∨ x = 10 := by
  unfold bb at h
  split at h
  · cases h
  · split at h
    · exact Or.inl (List.mem_singleton.mp h)
    · exact Or.inr (List.mem_singleton.mp h)
theorem bb_0 {b : Nat} (h : b ≠ 0) : ∃ x, bb b = [x] ∧ (x = 32 ∨ x = 10) := by
  unfold bb
  rw [if_neg h]
  by_cases c : b = 1
  · rw [if_pos c]
    exact ⟨32, rfl, Or.inl rfl⟩
  · rw [if_neg c]
    exact ⟨10, rfl, Or.inr rfl⟩
/-- the byte behind a token -/
theorem nx {f : Nat → Nat} {p k v b : Nat} {l : Its} (h : At f p (txt ((b, k, v) :: l))) (hv : iv k v) : (b ≠ 0 → f p = 32 ∨ f p = 10) ∧ (b = 0 → (wrd k = false → isLD (f p) = false) ∧ (k ≠ 44 → f p ≠ 61)) := by
  refine ⟨fun hb => ?_, fun hb => ?_⟩
  · obtain ⟨x, e, hx⟩ := bb_0 hb
    have g := h 0 x (by unfold txt; rw [e]; rfl)
    rw [Nat.add_zero] at g
    rw [g]
    exact hx
  · obtain ⟨x, r, e, _, _, h3, h4⟩ := ib_hd hv
    have g := h 0 x (by unfold txt; rw [hb, e]; rfl)
    rw [Nat.add_zero] at g
    rw [g]
    exact ⟨h3, h4⟩
theorem nxW {f : Nat → Nat} {p k : Nat} {l : Its} (h : At f p (txt l)) (hv : ∀ b k v, (b, k, v) ∈ l → iv k v) (ha : ∀ b v, adj ((b, k, v) :: l) = true) (hw : wrd k = true) (hl : l ≠ []) : isLD (f p) = false := by
  match l, hl with
  | (b', k', v') :: l, _ =>
    obtain ⟨n1, n2⟩ := nx h (hv _ _ _ (List.mem_cons_self ..))
    have a := ha 0 0
    unfold adj at a
    rw [Bool.and_eq_true] at a
    have a1 := a.1
    by_cases hb : b' = 0
    · refine (n2 hb).1 ?_
      unfold aj at a1
      rw [hb, hw] at a1
      cases c : wrd k' with
      | false => rfl
      | true => rw [c] at a1; exact absurd a1 (by simp)
    · rcases n1 hb with e | e
      · rw [e]; decide
      · rw [e]; decide
theorem nxE {f : Nat → Nat} {p k : Nat} {l : Its} (h : At f p (txt l)) (hv : ∀ b k v, (b, k, v) ∈ l → iv k v) (ha : ∀ b v, adj ((b, k, v) :: l) = true) (hw : k = 42 ∨ k = 43) (hl : l ≠ []) : f p ≠ 61 := by
  match l, hl with
  | (b', k', v') :: l, _ =>
    obtain ⟨n1, n2⟩ := nx h (hv _ _ _ (List.mem_cons_self ..))
    have a := ha 0 0
    unfold adj at a
    rw [Bool.and_eq_true] at a
    have a1 := a.1
    by_cases hb : b' = 0
    · refine (n2 hb).2 (fun e => ?_)
      unfold aj at a1
      rw [hb, e] at a1
      rcases hw with rfl | rfl
      · exact absurd a1 (by decide)
      · exact absurd a1 (by decide)
    · rcases n1 hb with e | e
      · rw [e]; decide
      · rw [e]; decide
theorem nvD {f : Nat → Nat} {p v : Nat} (hv : v < 1000) (h : At f p (dgN v)) : nv f p (dgN v).length = v ∧ ∀ i, i < (dgN v).length → isD (f (p + i)) = true := by
  unfold dgN at h ⊢
  by_cases c1 : v < 10
  · rw [if_pos c1] at h ⊢
    have h0 : f (p + 0) = 48 + v := h 0 _ rfl
    refine ⟨?_, fun i hi => ?_⟩
    · show 0 * 10 + (f (p + 0) - 48) = v
      omega
    · have : i = 0 := by have hi' : i < 1 := hi; omega
      rw [this, h0]
      exact isD_t.mpr (by omega)
  · rw [if_neg c1] at h ⊢
    by_cases c2 : v < 100
    · rw [if_pos c2] at h ⊢
      have h0 : f (p + 0) = 48 + v / 10 := h 0 _ rfl
      have h1 : f (p + 1) = 48 + v % 10 := h 1 _ rfl
      refine ⟨?_, fun i hi => ?_⟩
      · show (0 * 10 + (f (p + 0) - 48)) * 10 + (f (p + 1) - 48) = v
        omega
      · have hi' : i < 2 := hi
        rcases (by omega : i = 0 ∨ i = 1) with rfl | rfl
        · rw [h0]; exact isD_t.mpr (by omega)
        · rw [h1]; exact isD_t.mpr (by omega)
    · rw [if_neg c2] at h ⊢
      have h0 : f (p + 0) = 48 + v / 100 := h 0 _ rfl
      have h1 : f (p + 1) = 48 + v / 10 % 10 := h 1 _ rfl
      have h2 : f (p + 2) = 48 + v % 10 := h 2 _ rfl
      refine ⟨?_, fun i hi => ?_⟩
      · show ((0 * 10 + (f (p + 0) - 48)) * 10 + (f (p + 1) - 48)) * 10 + (f (p + 2) - 48) = v
        omega
      · have hi' : i < 3 := hi
        rcases (by omega : i = 0 ∨ i = 1 ∨ i = 2) with rfl | rfl | rfl
        · rw [h0]; exact isD_t.mpr (by omega)
        · rw [h1]; exact isD_t.mpr (by omega)
        · rw [h2]; exact isD_t.mpr (by omega)
theorem nmK : ∀ a : Nat, a < 128 → isL a = true → ∀ b : Nat, b < 128 → isD b = true → kwG [a, b] kws 0 = 47 := by decide +kernel
/-- a token at its place -/
theorem tkI {f : Nat → Nat} {p n k v : Nat} {l : Its} (h : At f p (ib k v)) (hr : At f (p + (ib k v).length) (txt l)) (hn : n = p + (ib k v).length + (txt l).length) (hv : iv k v) (hvl : ∀ b k v, (b, k, v) ∈ l → iv k v) (ha : ∀ b v, adj ((b, k, v) :: l) = true) :
    Tk f n p (ib k v).length k (if k = 48 then v else 0) := by
  have hl0 : p + (ib k v).length < n → l ≠ [] := fun hc e => by
    rw [e] at hn
    have : (txt ([] : Its)).length = 0 := rfl
    omega
  have eB : ib k v = if k < 32 then kws.getD k [] else if k < 45 then [symN.getD (k - 32) 0] else if k = 45 then [60, 61] else if k = 46 then [62, 61] else if k = 47 then [v / 256, v % 256] else dgN v := rfl
  by_cases c1 : k < 32
  · rw [if_pos c1] at eB
    obtain ⟨h1, h2, h3, h4, h5⟩ := kwF k c1
    rw [← eB] at h1 h2 h3 h4 h5
    refine Or.inl ⟨⟨by omega, ⟨h2, h3⟩, h5 _ (At.mem h (i := 0) (by omega)), fun i hi => LD_b (h5 _ (At.mem h hi)), fun hc => nxW hr hvl ha ?_ (hl0 hc)⟩, ⟨ib k v, rfl, h, h1.symm⟩, if_neg (by omega)⟩
    unfold wrd
    rw [decide_eq_true c1]
    rfl
  · rw [if_neg c1] at eB
    by_cases c2 : k < 45
    · rw [if_pos c2] at eB
      obtain ⟨h1, h2, h3, h4, h5, h6, h7, _, _⟩ := syF (k - 32) (by omega)
      have h0 : f p = symN.getD (k - 32) 0 := h 0 _ (by rw [eB]; rfl)
      have el : (ib k v).length = 1 := by rw [eB]; rfl
      rw [el] at hr hn hl0 ⊢
      refine Or.inr (Or.inr (Or.inl ⟨k - 32, ⟨by omega, by rw [h0]; exact h2, by rw [h0]; exact h3, by rw [h0]; exact h4, by rw [h0]; exact h1, fun hc => ?_⟩, rfl, by omega, if_neg (by omega)⟩))
      rw [h0] at hc
      unfold bA
      by_cases c : p + 1 < n
      · rw [if_pos c]
        refine nxE hr hvl ha ?_ (hl0 c)
        rcases hc with hc | hc
        · have := h5.mp hc
          omega
        · have := h6.mp hc
          omega
      · rw [if_neg c]
        decide
    · rw [if_neg c2] at eB
      by_cases c3 : k = 45
      · rw [if_pos c3] at eB
        have h0 : f (p + 0) = 60 := h 0 _ (by rw [eB]; rfl)
        have h1 : f (p + 1) = 61 := h 1 _ (by rw [eB]; rfl)
        have el : (ib k v).length = 2 := by rw [eB]; rfl
        rw [el] at hn ⊢
        exact Or.inr (Or.inr (Or.inr ⟨⟨by omega, Or.inl ⟨h0, c3⟩, h1⟩, rfl, if_neg (by omega)⟩))
      · rw [if_neg c3] at eB
        by_cases c4 : k = 46
        · rw [if_pos c4] at eB
          have h0 : f (p + 0) = 62 := h 0 _ (by rw [eB]; rfl)
          have h1 : f (p + 1) = 61 := h 1 _ (by rw [eB]; rfl)
          have el : (ib k v).length = 2 := by rw [eB]; rfl
          rw [el] at hn ⊢
          exact Or.inr (Or.inr (Or.inr ⟨⟨by omega, Or.inr ⟨h0, c4⟩, h1⟩, rfl, if_neg (by omega)⟩))
        · rw [if_neg c4] at eB
          rcases hv with hv | ⟨hk, v1, v2⟩ | ⟨hk, v1⟩
          · omega
          · rw [if_pos hk] at eB
            have h0 : f (p + 0) = v / 256 := h 0 _ (by rw [eB]; rfl)
            have h1 : f (p + 1) = v % 256 := h 1 _ (by rw [eB]; rfl)
            have el : (ib k v).length = 2 := by rw [eB]; rfl
            have l1 := isL_t.mp v1
            have l2 := isD_t.mp v2
            rw [el] at hn hr hl0 ⊢
            refine Or.inl ⟨⟨by omega, ⟨by decide, by decide⟩, by rw [show f p = v / 256 from h0]; exact v1, fun i hi => ?_, fun hc => nxW hr hvl ha (by rw [hk]; rfl) (hl0 hc)⟩, ⟨ib k v, el, h, ?_⟩, if_neg (by omega)⟩
            · rcases (by omega : i = 0 ∨ i = 1) with rfl | rfl
              · rw [h0]; exact LD_b v1
              · rw [h1]; exact D_b v2
            · rw [eB, nmK _ (by omega) v1 _ (by omega) v2, hk]
          · rw [if_neg (by omega)] at eB
            rw [eB] at h hr hn hl0 ⊢
            obtain ⟨d1, d2⟩ := nvD v1 h
            have d3 := dgN_len (n := v)
            have g0 := isD_t.mp (d2 0 (by omega))
            refine Or.inr (Or.inl ⟨⟨by omega, ⟨by omega, by omega⟩, isL_f.mpr (by rw [Nat.add_zero] at g0; omega), d2, fun hc => (isLD_f.mp (nxW hr hvl ha (by rw [hk]; rfl) (hl0 hc))).2⟩, hk, ?_⟩)
            rw [if_pos hk, d1]
theorem adj_t {x y : Nat × Nat × Nat} {l : Its} (h : adj (x :: y :: l) = true) : adj (y :: l) = true := by
  obtain ⟨b, k, v⟩ := x
  obtain ⟨b', k', v'⟩ := y
  unfold adj at h
  rw [Bool.and_eq_true] at h
  exact h.2
theorem adj_h {b k v b' v' : Nat} {l : Its} (h : adj ((b, k, v) :: l) = true) : adj ((b', k, v') :: l) = true := by
  match l with
  | [] => rfl
  | (b2, k2, v2) :: l => exact h
theorem tkL (f : Nat → Nat) : ∀ (l : Its) (o n : Nat), At f o (txt l) → n = o + (txt l).length → (∀ b k v, (b, k, v) ∈ l → iv k v) → adj l = true →
    (∀ i, i ≤ l.length → Blk f n (if i = 0 then o else tP l o (i - 1) + tL l (i - 1)) (tP l o i)) ∧ ∀ i, i < l.length → Tk f n (tP l o i) (tL l i) (tK l i) (tV l i)
  | [], o, n, h, hn, hv, ha => by
    refine ⟨fun i hi => ?_, fun i hi => absurd hi (Nat.not_lt_zero _)⟩
    have e : i = 0 := Nat.le_zero.mp hi
    subst e
    have hn' : n = o := hn
    exact ⟨Nat.le_refl _, by rw [hn']; exact Nat.le_refl _, fun i h1 h2 => absurd h1 (by have h2' : i < o := h2; intro h3; have h3' : o ≤ i := h3; omega), fun hc => absurd hc (by have hc' : o < n := hc; omega)⟩
  | (b, k, v) :: l, o, n, h, hn, hv, ha => by
    have h0 : At f o (bb b ++ (ib k v ++ txt l)) := h
    have hn0 : n = o + (bb b ++ (ib k v ++ txt l)).length := hn
    rw [List.length_append, List.length_append] at hn0
    obtain ⟨h1, h2⟩ := At.app h0
    obtain ⟨h3, h4⟩ := At.app h2
    have hvk := hv b k v (List.mem_cons_self ..)
    have hvl : ∀ b k v, (b, k, v) ∈ l → iv k v := fun b k v hm => hv b k v (List.mem_cons_of_mem _ hm)
    have hal : adj l = true := by
      match l, ha with
      | [], _ => rfl
      | y :: l, ha => exact adj_t ha
    obtain ⟨g1, g2⟩ := tkL f l (o + (bb b).length + (ib k v).length) n h4 (by omega) hvl hal
    obtain ⟨x, r, ex, x1, x2, _, _⟩ := ib_hd hvk
    have fx0 : f (o + (bb b).length) = x := h3 0 x (by rw [ex]; rfl)
    refine ⟨fun i hi => ?_, fun i hi => ?_⟩
    · match i with
      | 0 =>
        refine ⟨Nat.le_add_right _ _, by show o + (bb b).length ≤ n; omega, fun j j1 j2 => ?_, fun _ => ?_⟩
        · have j2' : j < o + (bb b).length := j2
          have j1' : o ≤ j := j1
          have := At.mem h1 (i := j - o) (by omega)
          rw [show o + (j - o) = j by omega] at this
          exact bb_m this
        · show f (o + (bb b).length) ≠ 32 ∧ f (o + (bb b).length) ≠ 10
          rw [fx0]
          exact ⟨x1, x2⟩
      | 1 =>
        have := g1 0 (Nat.zero_le _)
        exact this
      | i + 2 =>
        have hi' : i + 2 ≤ l.length + 1 := hi
        have := g1 (i + 1) (by omega)
        rw [if_neg (by omega)] at this ⊢
        exact this
    · match i with
      | 0 =>
        show Tk f n (o + (bb b).length) (ib k v).length k (if k = 48 then v else 0)
        exact tkI h3 h4 (by omega) hvk hvl (fun b' v' => adj_h ha)
      | i + 1 =>
        have hi' : i + 1 < l.length + 1 := hi
        exact g2 i (by omega)
/-- a text of tokens, cut -/
theorem tkS {f : Nat → Nat} {l : Its} (h : At f 0 (txt l)) (hv : ∀ b k v, (b, k, v) ∈ l → iv k v) (ha : adj l = true) : TkQ f (txt l).length l.length (tP l 0) (tL l) (tK l) (tV l) := by
  obtain ⟨g1, g2⟩ := tkL f l 0 _ h (Nat.zero_add _).symm hv ha
  exact ⟨⟨by rw [tP_end, Nat.zero_add], tL_end l, tK_end l, tV_end l⟩, g1, g2⟩
end IT
