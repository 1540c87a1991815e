/-! what holds at the start -/
section WSTA
variable {args : Array Value} {s : State}
theorem wSel {C : String} {y : MethodName} {n : Nat} (hy : y.cls ≠ "java/lang/invoke/MethodHandle" ∧ y.cls ≠ "java/lang/invoke/VarHandle")
    (hins : (Cond.instantiable C n).before args s = true) (hpriv : (Cond.privateMethod y).before args s = true) (hinst : (Cond.instanceMethod y).before args s = true) (hsame : (Cond.sameMethod y.cls y.cls y.name y.desc).before args s = true) : (Cond.selects C y y).before args s = true := by
  obtain ⟨c, k, hc, hk, -, hniab, -, -⟩ := Cond.instantiable_spec hins
  have hni : k.isInterface = false := (Bool.or_eq_false_iff.mp hniab).1
  obtain ⟨mk, methM, hnamed, hmethM, -, -⟩ := Cond.instanceMethod_spec hinst
  have hfound : s.methodFound? y.cls y.name y.desc = some mk := State.methodFound?_of_named hnamed hy
  have hsel : selectMethod {} s.vm c mk = .method mk := selectMethod_private hmethM (Cond.privateMethod_at hpriv mk methM hnamed hmethM)
  obtain ⟨c2, k2, hc2, hk2, hni2⟩ := Cond.sameMethod_class hsame
  have hcls : mk.cls = c2 := Option.some.inj ((findClass_of_methodNamed hnamed).symm.trans hc2)
  simp only [Cond.before, Cond.holds, Cond.value, hc, hfound, hnamed, hsel, hk, hcls, hk2]
  simp; exact hni2
theorem wSelOk : aSelP.all (fun y => decide (y.cls ≠ "java/lang/invoke/MethodHandle" ∧ y.cls ≠ "java/lang/invoke/VarHandle") && decide (Cond.privateMethod y ∈ lw_tbl) && decide (Cond.instanceMethod y ∈ lw_tbl) && decide (Cond.sameMethod y.cls y.cls y.name y.desc ∈ lw_tbl)) = true := by decide +kernel
theorem wSelI : Cond.instantiable "java/lang/StringBuilder" 4 ∈ lw_tbl := by decide +kernel
theorem wTs (hts : ∀ w ∈ lw_tbl, w.before args s = true) : ∀ w ∈ aT, w.before args s = true := by
  intro w hw
  have h1 := (List.mem_filter.mp hw).1
  unfold aTb at h1
  rcases List.mem_append.mp h1 with h | h
  · exact hts w h
  · obtain ⟨y, hy, rfl⟩ := List.mem_map.mp h
    have h2 := List.all_eq_true.mp wSelOk y hy
    simp only [Bool.and_eq_true, decide_eq_true_eq] at h2
    exact wSel h2.1.1.1 (hts _ wSelI) (hts _ h2.1.1.2) (hts _ h2.1.2) (hts _ h2.2)
/-- the value of a static, of a string -/
noncomputable def wE (args : Array Value) (s : State) (k : Nat) : Value := if k < 100 then ((aStaT[k]?).bind (fun t => (Term.static t.1 t.2.1 t.2.2.1).eval args s none [] s)).getD .null else ((aStrT.find? (fun g => g.2.2.1 == k)).bind (fun g => (Term.string (aR g.1) g.2.1).eval args s none [] s)).getD .null
theorem wE_sta {k : Nat} {t : String × String × String × Nat} {v : Value} (hk : k < 100) (ht : aStaT[k]? = some t) (hv : (Term.static t.1 t.2.1 t.2.2.1).eval args s none [] s = some v) : wE args s k = v := by
  unfold wE
  rw [if_pos hk, ht, Option.bind_some, hv]
  rfl
theorem wStrU : aStrT.all (fun g => decide (aStrT.find? (fun h => h.2.2.1 == g.2.2.1) = some g) && decide (100 ≤ g.2.2.1) && decide (lw_tbl[g.2.2.2]? = some (.stringRef (aR g.1) g.2.1 (aTxt.getD (g.2.2.1 - 100) "")))) = true := by decide +kernel
theorem wStrU_s {g : Nat × Nat × Nat × Nat} (h : g ∈ aStrT) : aStrT.find? (fun h => h.2.2.1 == g.2.2.1) = some g ∧ 100 ≤ g.2.2.1 ∧ Cond.stringRef (aR g.1) g.2.1 (aTxt.getD (g.2.2.1 - 100) "") ∈ lw_tbl := by
  have h1 := List.all_eq_true.mp wStrU g h
  simp only [Bool.and_eq_true, decide_eq_true_eq] at h1
  exact ⟨h1.1.1, h1.1.2, List.mem_of_getElem? h1.2⟩
theorem wE_str {g : Nat × Nat × Nat × Nat} {v : Value} (hg : g ∈ aStrT) (hv : (Term.string (aR g.1) g.2.1).eval args s none [] s = some v) : wE args s g.2.2.1 = v := by
  obtain ⟨h1, h2, -⟩ := wStrU_s hg
  unfold wE
  rw [if_neg (by omega), h1, Option.bind_some, hv]
  rfl
/-- strings -/
theorem wStrs {D : va_G} (hK : va_K D vwCl [] s) (hg : ∀ w ∈ wG, w.before args s = true) {g : Nat × Nat × Nat × Nat} (h : g ∈ aStrT) : ∃ a : Nat, wE args s g.2.2.1 = .ref a ∧ (Term.string (aR g.1) g.2.1).eval args s none [] s = some (.ref a) ∧ wIsS D s a (wTx.getD (g.2.2.1 - 100) []) := by
  obtain ⟨i, hi⟩ := List.getElem?_of_mem h
  have h1 := List.all_eq_true.mp wTx_ok i (List.mem_range.mpr (List.getElem?_eq_some_iff.mp hi).1)
  rw [hi] at h1
  simp only [Bool.and_eq_true, decide_eq_true_eq] at h1
  obtain ⟨a, ha, hs⟩ := wStr (args := args) hK (t := .string (aR g.1) g.2.1) (byt := wTx.getD (g.2.2.1 - 100) []) (by omega) (fun w hw => by
    rw [h1.1] at hw
    exact hg w (wSeg_m hw))
  exact ⟨a, wE_str h ha, ha, hs⟩
/-- static arrays -/
theorem wArK : wArL.all (fun e => decide (e.1 < 100) && decide (e.2.1 = .int ∨ e.2.1 = .byte)) = true := by decide +kernel
theorem wArs {D : va_G} (hg : ∀ w ∈ wG, w.before args s = true) {e : Nat × FieldType × List Int32 × Nat} (h : e ∈ wArL) : ∃ a : Nat, wE args s e.1 = .ref a ∧ wIsT D s (if e.2.1 = .int then 1100 else 1101) a e.2.2.1 := by
  have h1 := List.all_eq_true.mp wAr_ok e h
  have h2 := List.all_eq_true.mp wArK e h
  simp only [Bool.and_eq_true, decide_eq_true_eq] at h2
  cases ht : aStaT[e.1]? with
  | none => rw [ht] at h1; cases h1
  | some t =>
    rw [ht] at h1
    simp only [Bool.and_eq_true, decide_eq_true_eq] at h1
    obtain ⟨a, ha, hs⟩ := wArt (args := args) (D := D) (t := .static t.1 t.2.1 t.2.2.1) (ty := e.2.1) (xs := e.2.2.1) h2.2 (by omega) (fun w hw => by
      rw [h1.1] at hw
      exact hg w (wSeg_m hw))
    exact ⟨a, wE_sta h2.1 ht ha, hs⟩
/-- the statics: a reference or null, or a number -/
def wSta : List (Nat × Option Int32) := [(4, none), (5, none), (6, some 1), (7, none), (8, some 1), (9, some 0), (10, some 8), (11, none), (20, none), (29, none), (44, none), (52, none), (60, none), (66, none), (99, none), (202, none)]
def wStW (t : String × String × String × Nat) (o : Option Int32) : Cond := match o with
  | none => .isRef (.static t.1 t.2.1 t.2.2.1)
  | some x => .eq (.static t.1 t.2.1 t.2.2.1) (.int x)
theorem wStaOk : (List.range 16).all (fun k => match aStaT[k]?, wSta[k]? with
  | some t, some e => decide (wG[e.1]? = some (wStW t e.2)) && decide (lw_tbl[t.2.2.2]? = some (.laysStatic t.1 t.2.1 t.2.2.1)) && decide (Cond.initialized t.1 ∈ lw_tbl)
  | _, _ => false) = true := by decide +kernel
theorem wStaV (hg : ∀ w ∈ wG, w.before args s = true) (hts : ∀ w ∈ lw_tbl, w.before args s = true) {k : Nat} {t : String × String × String × Nat} (ht : aStaT[k]? = some t) : ∃ (v : Value) (o : Option Int32), (Term.static t.1 t.2.1 t.2.2.1).eval args s none [] s = some v ∧ wE args s k = v ∧ (wSta[k]?).map (·.2) = some o ∧ (o = none → v.isRef = true ∧ (Cond.isRef (.static t.1 t.2.1 t.2.2.1)).before args s = true) ∧ (∀ x, o = some x → v = .int x) ∧ (Cond.laysStatic t.1 t.2.1 t.2.2.1).before args s = true ∧ (Cond.initialized t.1).before args s = true := by
  have hk : k < 16 := (List.getElem?_eq_some_iff.mp ht).1
  have h1 := List.all_eq_true.mp wStaOk k (List.mem_range.mpr hk)
  rw [ht] at h1
  cases he : wSta[k]? with
  | none => rw [he] at h1; cases h1
  | some e =>
    rw [he] at h1
    simp only [Bool.and_eq_true, decide_eq_true_eq] at h1
    obtain ⟨p, o⟩ := e
    have hw := hg _ (List.mem_of_getElem? h1.1.1)
    have hl := hts _ (List.mem_of_getElem? h1.1.2)
    have hi := hts _ h1.2
    cases o with
    | none =>
      have hw' : (Cond.isRef (.static t.1 t.2.1 t.2.2.1)).before args s = true := hw
      obtain ⟨v, hv, hr⟩ := Cond.isRef_spec hw'
      exact ⟨v, none, hv, wE_sta (by omega) ht hv, rfl, fun _ => ⟨hr, hw'⟩, fun x h => (by cases h), hl, hi⟩
    | some x =>
      have hv := va_eqi (show (Cond.eq (.static t.1 t.2.1 t.2.2.1) (.int x)).before args s = true from hw)
      exact ⟨_, some x, hv, wE_sta (by omega) ht hv, rfl, fun h => (by cases h), fun y h => (by cases h; rfl), hl, hi⟩
theorem wAO : Cond.arrayOver (.array .int) ∈ lw_tbl := by decide +kernel
theorem wGl {D : va_G} (hK : va_K D vwCl [] s) (hg : ∀ w ∈ wG, w.before args s = true) (hts : ∀ w ∈ lw_tbl, w.before args s = true) : aGl D (wE args s) s.heap.size s s.heap := by
  refine ⟨hK, fun w hw hk => ?_, fun g hgt t ht => ?_, fun g hgs => ?_, ?_, fun w hw hk => ?_, ?_, ?_⟩
  · rcases hk with ⟨a, i, b, n, d, h, rfl⟩ | ⟨a, i, x, h, rfl⟩
    · exact va_Nw.of rfl (hts _ hw)
    · exact va_Nw.of rfl (hts _ hw)
  · obtain ⟨v, o, hv, hE, -, -, -, hl, hi⟩ := wStaV hg hts ht
    rw [hE]
    exact va_Zof hl hi hv wA_n
  · obtain ⟨a, h1, h2, -⟩ := wStrs hK hg hgs
    exact ⟨a, h1, vk_R.of (hts _ (wStrU_s hgs).2.2) (by
      first
        | exact h2
        | (rw [← h2]; rfl))⟩
  · have h0 := hts _ wAO
    unfold aAO
    exact h0
  · rcases hk with ⟨x, rfl⟩ | ⟨a, b, rfl⟩
    · exact va_Nw.of rfl (hts _ hw)
    · exact va_Nw.of rfl (hts _ hw)
  · obtain ⟨v, o, hv, -, ho, h1, -, hl, hi⟩ := wStaV hg hts (k := 0) rfl
    have ho' : o = none := (Option.some.inj ho).symm
    exact vx_Zqof hl hi (h1 ho').2 wA_n
  · obtain ⟨v, o, hv, -, ho, h1, -, hl, hi⟩ := wStaV hg hts (k := 1) rfl
    have ho' : o = none := (Option.some.inj ho).symm
    exact vx_Zqof hl hi (h1 ho').2 wA_n
theorem wE2 (hg : ∀ w ∈ wG, w.before args s = true) (hts : ∀ w ∈ lw_tbl, w.before args s = true) : wE args s 2 = .int 1 ∧ (wE args s 3 = .null ∨ ∃ a : Nat, wE args s 3 = .ref a) := by
  obtain ⟨v, o, hv, hE, ho, -, h1, -, -⟩ := wStaV hg hts (k := 2) rfl
  obtain ⟨v3, o3, hv3, hE3, ho3, h3, -, -, -⟩ := wStaV hg hts (k := 3) rfl
  refine ⟨by rw [hE]; exact h1 1 (Option.some.inj ho).symm, ?_⟩
  have hr := (h3 (Option.some.inj ho3).symm).1
  rw [hE3]
  cases v3 <;> first | exact Or.inl rfl | exact Or.inr ⟨_, rfl⟩ | cases hr
end WSTA
